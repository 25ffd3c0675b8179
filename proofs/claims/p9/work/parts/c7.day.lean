/-! WALKS: the class's day, with what it writes -/
theorem d_105_a {C : sp_C} {a b c d : Int32} : ∀ (m k n : Nat) (f g : Nat → Int32), (∀ j, j < n → f j = g j) → (d_105_6 C a b c d m k n f).1 = (d_105_6 C a b c d m k n g).1 ∧ ∀ j, j < (d_105_6 C a b c d m k n f).1 → (d_105_6 C a b c d m k n f).2 j = (d_105_6 C a b c d m k n g).2 j := by
  intro m
  induction m with
  | zero => exact fun k n f g hf => ⟨rfl, hf⟩
  | succ m ih =>
    intro k n f g hf
    have up : ∀ v w, v = w → ∀ j, j < n + 1 → sp_uI f n v j = sp_uI g n w j := fun v w e j hj => by
      show (if j = n then v else f j) = (if j = n then w else g j)
      by_cases ej : j = n
      · rw [if_pos ej, if_pos ej, e]
      · rw [if_neg ej, if_neg ej, hf j (by omega)]
    have ut : ∀ i v w, v = w → ∀ j, j < n → sp_uI f i v j = sp_uI g i w j := fun i v w e j hj => by
      show (if j = i then v else f j) = (if j = i then w else g j)
      by_cases ej : j = i
      · rw [if_pos ej, if_pos ej, e]
      · rw [if_neg ej, if_neg ej, hf j hj]
    have n0 : ¬ nI n ≤ 0 → 0 < n := fun h => by
      rcases Nat.eq_zero_or_pos n with w | w
      · rw [w] at h; exact absurd (by decide) h
      · exact w
    have n1 : ¬ nI n ≤ Int32.ofInt 1 → 1 < n := fun h => by
      rcases Nat.lt_or_ge 1 n with w | w
      · exact w
      · have : n = 0 ∨ n = 1 := by omega
        rcases this with w | w <;> (rw [w] at h; exact absurd (by decide) h)
    by_cases hA : dT C k < (Int8.ofInt (-4)).toInt32
    · by_cases hB : dT C k = (Int8.ofInt (-5)).toInt32
      · by_cases hE : nI n ≤ 0
        · by_cases hC : (Int8.ofInt (-5)).toInt32 ≤ dT C k
          · simp only [d_105_6, hA, hB, hE, hC, if_true, if_false, not_true_eq_false, not_false_eq_true, ite_not]
            simp only [hB] at hC
            first
            | exact ih _ _ _ _ hf
            | (simp only [hC, if_true]; exact ih _ _ _ _ hf)
          · exact absurd (by rw [hB]; exact Int32.le_refl _) hC
        · have := n0 hE
          simp only [d_105_6, hA, hB, hE, if_true, if_false, not_true_eq_false, not_false_eq_true, ite_not]
          refine ih _ _ _ _ (ut _ _ _ ?_)
          rw [hf (n - 1) (by omega)]
      · by_cases hC : (Int8.ofInt (-5)).toInt32 ≤ dT C k
        · simp only [d_105_6, hA, hB, hC, if_true, if_false, not_true_eq_false, not_false_eq_true, ite_not]
          exact ih _ _ _ _ hf
        · by_cases hD : nI n ≤ Int32.ofInt 1
          · simp only [d_105_6, hA, hB, hC, hD, if_true, if_false, not_true_eq_false, not_false_eq_true, ite_not]
            exact ih _ _ _ _ hf
          · have := n1 hD
            simp only [d_105_6, hA, hB, hC, hD, if_true, if_false, not_true_eq_false, not_false_eq_true, ite_not]
            refine ih _ _ _ _ (fun j hj => ut _ _ _ ?_ j (by omega))
            rw [hf (n - 1 - 1) (by omega), hf (n - 1) (by omega)]
    · by_cases hF : (Int8.ofInt 32).toInt32 ≤ nI n
      · by_cases hB : dT C k = (Int8.ofInt (-5)).toInt32
        · exact absurd (by rw [hB]; decide) hA
        · by_cases hC : (Int8.ofInt (-5)).toInt32 ≤ dT C k
          · simp only [d_105_6, hA, hF, hB, hC, if_true, if_false, not_true_eq_false, not_false_eq_true, ite_not]
            exact ih _ _ _ _ hf
          · by_cases hD : nI n ≤ Int32.ofInt 1
            · simp only [d_105_6, hA, hF, hB, hC, hD, if_true, if_false, not_true_eq_false, not_false_eq_true, ite_not]
              exact ih _ _ _ _ hf
            · have := n1 hD
              simp only [d_105_6, hA, hF, hB, hC, hD, if_true, if_false, not_true_eq_false, not_false_eq_true, ite_not]
              refine ih _ _ _ _ (fun j hj => ut _ _ _ ?_ j (by omega))
              rw [hf (n - 1 - 1) (by omega), hf (n - 1) (by omega)]
      · simp only [d_105_6, hA, hF, if_false]
        exact ih _ _ _ _ (up _ _ rfl)
/-- what the class's day leaves: all but State 36 and the law's stack of the canton c -/
def fC (c : Nat) (h0 h : am_H) : Prop := h.2 = h0.2 ∧ ∀ o k, ¬ (36 ≤ o ∧ o ≤ 40) → ¬ o = c + 10 → h.1 o k = h0.1 o k
theorem fC_0 {c : Nat} {h : am_H} : fC c h h := ⟨rfl, fun _ _ _ _ => rfl⟩
theorem fC_w {c o k : Nat} {v : Int32} {h0 h : am_H} (ho : (36 ≤ o ∧ o ≤ 40) ∨ o = c + 10) (l : fC c h0 h) : fC c h0 (am_wI h o k v) := ⟨l.1, fun a j h1 h2 => (em_wn _ _ (by omega)).trans (l.2 a j h1 h2)⟩
theorem fC_l {c : Nat} {h0 h h1 : am_H} (l : lfr (c + 10) h h1) (x : fC c h0 h) : fC c h0 h1 := ⟨l.1.trans x.1, fun a j n1 n2 => (l.2 a j n2).trans (x.2 a j n1 n2)⟩
/-- the law's worth -/
def dlaw (C : sp_C) (a b c d : Int32) : Int32 := d_105 C a b c d (fun _ => 0)
theorem d_105_e {C : sp_C} {a b c d : Int32} (f : Nat → Int32) : d_105 C a b c d f = dlaw C a b c d := by
  obtain ⟨e1, e2⟩ := d_105_a (C := C) (a := a) (b := b) (c := c) (d := d) (dM C) 0 0 f (fun _ => 0) (fun j hj => absurd hj (Nat.not_lt_zero j))
  unfold dlaw d_105
  rw [← e1]
  by_cases h : nI (d_105_6 C a b c d (dM C) 0 0 f).1 ≤ 0
  · rw [if_pos h, if_pos h]
  · rw [if_neg h, if_neg h]
    refine e2 0 ?_
    rcases Nat.eq_zero_or_pos (d_105_6 C a b c d (dM C) 0 0 f).1 with w | w
    · rw [w] at h; exact absurd (by decide) h
    · exact w
variable {h : am_H} {Q : am_Q} {C : sp_C} {x y w a b c d : Int32} {p q e : Nat} {s u : dS} {h0 : am_H} {f : Nat → Int32}
theorem q_105_6 (hP : ex_P h) (hT : c_v 6 C h) (hQ : ∀ h1, lfr 16 h h1 → Q (some (.int (dlaw C a b c d))) h1) : am_call am_cod 2 105 [.ref 14, .int a, .int b, .int c, .int d] h Q :=
  d_105_l6 (h0 := h) (f := fun j => h.1 16 j) hP hT lfr_0 (fun _ _ => rfl) (fun h1 _ _ l _ => by
    rw [d_105_e]
    exact hQ h1 l)
theorem q_105_17 (hP : ex_P h) (hT : c_v 17 C h) (hQ : ∀ h1, lfr 27 h h1 → Q (some (.int (dlaw C a b c d))) h1) : am_call am_cod 2 105 [.ref 25, .int a, .int b, .int c, .int d] h Q :=
  d_105_l17 (h0 := h) (f := fun j => h.1 27 j) hP hT lfr_0 (fun _ _ => rfl) (fun h1 _ _ l _ => by
    rw [d_105_e]
    exact hQ h1 l)
theorem ex_41 {h : am_H} (hP : ex_P h) : am_sh h 41 = some (6, 0) := (ex_so hP (by decide +kernel)).2
theorem ex_42 {h : am_H} (hP : ex_P h) : am_sh h 42 = some (13, 6) := (ex_so hP (by decide +kernel)).2
theorem ex_w42 {h : am_H} (hP : ex_P h) : am_so h 42 = some (13, 6) := (ex_so hP (by decide +kernel)).1
theorem ex_43 {h : am_H} (hP : ex_P h) : am_sh h 43 = some (13, 6) := (ex_so hP (by decide +kernel)).2
theorem ex_w43 {h : am_H} (hP : ex_P h) : am_so h 43 = some (13, 6) := (ex_so hP (by decide +kernel)).1
theorem ex_44 {h : am_H} (hP : ex_P h) : am_sh h 44 = some (13, 5) := (ex_so hP (by decide +kernel)).2
theorem ex_w44 {h : am_H} (hP : ex_P h) : am_so h 44 = some (13, 5) := (ex_so hP (by decide +kernel)).1
theorem ex_45 {h : am_H} (hP : ex_P h) : am_sh h 45 = some (13, 5) := (ex_so hP (by decide +kernel)).2
theorem ex_w45 {h : am_H} (hP : ex_P h) : am_so h 45 = some (13, 5) := (ex_so hP (by decide +kernel)).1
theorem ex_r41_2 {h : am_H} (hP : ex_P h) : h.2.2.1 41 2 = some 42 := hP.2 41 2 42 (by decide +kernel)
theorem ex_r41_3 {h : am_H} (hP : ex_P h) : h.2.2.1 41 3 = some 43 := hP.2 41 3 43 (by decide +kernel)
theorem ex_r41_4 {h : am_H} (hP : ex_P h) : h.2.2.1 41 4 = some 44 := hP.2 41 4 44 (by decide +kernel)
theorem ex_r41_5 {h : am_H} (hP : ex_P h) : h.2.2.1 41 5 = some 45 := hP.2 41 5 45 (by decide +kernel)
theorem sv2_88 : am_r88.all (fun q => sv2_ok q.2) = true := by decide +kernel
theorem sv2_89 : am_r89.all (fun q => sv2_ok q.2) = true := by decide +kernel
theorem sv2_100 : am_r100.all (fun q => sv2_ok q.2) = true := by decide +kernel
theorem sv2_101 : am_r101.all (fun q => sv2_ok q.2) = true := by decide +kernel
theorem sv2_104 : am_r104.all (fun q => sv2_ok q.2) = true := by decide +kernel
theorem sv2_108 : am_r108.all (fun q => sv2_ok q.2) = true := by decide +kernel
def d_89 (C : sp_C) (s : dS) (p : Nat) : Int32 := (if ¬ (dK C p) = (Int32.ofInt 3) then (s.2.2.1 p) - (Int32.ofInt 2) else Int32.ofInt 0)
theorem d_89_t6_36 (hP : ex_P h) (hI : cI C) (hT : c_v 6 C h) (hD : c_d 6 C h) (hS : sC 36 s h) (hX : fC 6 h0 h) (hp : p < dP C) (hQ : Q (some (.int (d_89 C s p))) h) : am_call am_cod 1 89 [.ref 6, .int (nI p), .ref 36] h Q := by
  have h6 := hT.1.2.1
  have h5 := hT.2.1.2.1
  refine pz_call (n := 89) (nL := 3) (rt := (some .int)) (rows := am_r89) (d := 0) (by decide +kernel) (by decide +kernel) rfl (by funext pc; rfl) (ex_175 hP) (by exact Nat.le_of_ble_eq_true rfl) ?_
  refine am_goX 2 (show am_sh h 6 = some (0, 0) ∧ pz_S 3 (some .int) am_r89 0 Q 4 [(0, .ref 6), (1, .int (nI p)), (2, .ref 36)] [am_rf (h.2.2.1 6 2)] h from ⟨ex_6 hP, ?_⟩)
  rw [show am_rf (h.2.2.1 6 2) = .ref 8 from congrArg am_rf (ex_r6_2 hP)]
  refine am_goX 2 (show ∃ jj nn : Nat, am_sh h 8 = some (13, nn) ∧ jj < nn ∧ nI p = nI jj ∧ pz_S 3 (some .int) am_r89 0 Q 6 [(0, .ref 6), (1, .int (nI p)), (2, .ref 36)] [.int (h.1 8 jj)] h from ⟨p, 6, ex_8 hP, (by omega), rfl, ?_⟩)
  rw [show h.1 8 p = dK C p from (hT.1.2.2 p (by omega)).1]
  suffices key : ∀ (v2 : Int32), v2 = (if ¬ (dK C p) = (Int32.ofInt 3) then (s.2.2.1 p) - (Int32.ofInt 2) else Int32.ofInt 0) → pz_S 3 (some .int) am_r89 0 Q 22 [] [.int v2] h by
    refine am_goX 2 (show (¬ (dK C p) = (Int32.ofInt 3) → pz_S 3 (some .int) am_r89 0 Q 14 [(0, .ref 6), (1, .int (nI p)), (2, .ref 36)] [] h) ∧ (¬ ¬ (dK C p) = (Int32.ofInt 3) → pz_S 3 (some .int) am_r89 0 Q 10 [(0, .ref 6), (1, .int (nI p)), (2, .ref 36)] [] h) from ⟨fun c1 => ?_, fun c1 => ?_⟩)
    · refine am_goX 2 (show am_sh h 36 = some (6, 0) ∧ pz_S 3 (some .int) am_r89 0 Q 18 [(0, .ref 6), (1, .int (nI p)), (2, .ref 36)] [am_rf (h.2.2.1 36 2)] h from ⟨ex_36 hP, ?_⟩)
      rw [show am_rf (h.2.2.1 36 2) = .ref 37 from congrArg am_rf (ex_r36_2 hP)]
      refine am_goX 2 (show ∃ jj nn : Nat, am_sh h 37 = some (13, nn) ∧ jj < nn ∧ nI p = nI jj ∧ pz_S 3 (some .int) am_r89 0 Q 20 [(0, .ref 6), (1, .int (nI p)), (2, .ref 36)] [.int (h.1 37 jj)] h from ⟨p, 6, ex_37 hP, (by omega), rfl, ?_⟩)
      rw [show h.1 37 p = s.2.2.1 p from (hS.2.1 p (by omega)).1]
      refine am_goX 2 (show pz_S 3 (some .int) am_r89 0 Q 22 [(0, .ref 6), (1, .int (nI p)), (2, .ref 36)] [.int ((s.2.2.1 p) - (Int32.ofInt 2))] h from ?_)
      exact sv_S2 sv2_89 (fun q hq => absurd hq List.not_mem_nil) (key _ (if_pos c1).symm)
    · refine am_goX 2 (show pz_S 3 (some .int) am_r89 0 Q 22 [(0, .ref 6), (1, .int (nI p)), (2, .ref 36)] [.int (Int32.ofInt 0)] h from ?_)
      exact sv_S2 sv2_89 (fun q hq => absurd hq List.not_mem_nil) (key _ (if_neg c1).symm)
  intro v2 e3
  subst e3
  exact am_goX 1 (show (∃ ty, (some .int) = some ty ∧ narrow ty (.int (if ¬ (dK C p) = (Int32.ofInt 3) then (s.2.2.1 p) - (Int32.ofInt 2) else Int32.ofInt 0)) = .int (if ¬ (dK C p) = (Int32.ofInt 3) then (s.2.2.1 p) - (Int32.ofInt 2) else Int32.ofInt 0)) ∧ h.2.2.2.2 = 175 ∧ _ from ⟨⟨.int, rfl, rfl⟩, ex_175 hP, hQ⟩)
def d_88 (C : sp_C) (s : dS) (p : Nat) (w : Int32) : Int32 := d_90 (s.1 + (if w = 0 then d_89 C s p else Int32.ofInt 0))
theorem d_88_t6_36 (hP : ex_P h) (hI : cI C) (hT : c_v 6 C h) (hD : c_d 6 C h) (hS : sC 36 s h) (hX : fC 6 h0 h) (hp : p < dP C) (hQ : Q (some (.int (d_88 C s p w))) h) : am_call am_cod 2 88 [.ref 6, .int (nI p), .ref 36, .int w] h Q := by
  have h6 := hT.1.2.1
  have h5 := hT.2.1.2.1
  refine pz_call (n := 88) (nL := 5) (rt := (some .int)) (rows := am_r88) (d := 1) (by decide +kernel) (by decide +kernel) rfl (by funext pc; rfl) (ex_175 hP) (by exact Nat.le_of_ble_eq_true rfl) ?_
  suffices key : ∀ (v5 : Int32), v5 = (if w = 0 then d_89 C s p else Int32.ofInt 0) → pz_S 5 (some .int) am_r88 1 Q 14 [(2, .ref 36)] [.int v5] h by
    refine am_goX 2 (show (w = 0 → pz_S 5 (some .int) am_r88 1 Q 8 [(0, .ref 6), (1, .int (nI p)), (2, .ref 36), (3, .int w)] [] h) ∧ (¬ (w = 0) → pz_S 5 (some .int) am_r88 1 Q 4 [(0, .ref 6), (1, .int (nI p)), (2, .ref 36), (3, .int w)] [] h) from ⟨fun c4 => ?_, fun c4 => ?_⟩)
    · refine am_goX 4 (show am_rc h 6 0 ∧ 0 ≤ 8 ∧ h.2.2.2.2 + am_al 89 ≤ 175 ∧ am_call am_cod 1 89 [.ref 6, .int (nI p), .ref 36] h (fun vv h' => pz_S 5 (some .int) am_r88 1 Q 14 [(0, .ref 6), (1, .int (nI p)), (2, .ref 36), (3, .int w)] (vv.toList ++ []) h') from ⟨Or.inl ⟨by decide, ex_6 hP⟩, by decide, ex_lim hP rfl, am_call.up (d_89_t6_36 hP hI hT hD hS hX (by omega) ?_) (by decide)⟩)
      exact sv_S2 sv2_88 (by intro q hq; simp only [List.mem_cons, List.not_mem_nil, or_false] at hq; rcases hq with rfl <;> rfl) (key _ (if_pos c4).symm)
    · refine am_goX 2 (show pz_S 5 (some .int) am_r88 1 Q 14 [(0, .ref 6), (1, .int (nI p)), (2, .ref 36), (3, .int w)] [.int (Int32.ofInt 0)] h from ?_)
      exact sv_S2 sv2_88 (by intro q hq; simp only [List.mem_cons, List.not_mem_nil, or_false] at hq; rcases hq with rfl <;> rfl) (key _ (if_neg c4).symm)
  intro v5 e6
  subst e6
  refine am_goX 3 (show 4 < 5 ∧ am_sh h 36 = some (6, 0) ∧ pz_S 5 (some .int) am_r88 1 Q 20 [(4, .int (if w = 0 then d_89 C s p else Int32.ofInt 0)), (2, .ref 36)] [.int (h.1 36 0)] h from ⟨by decide, ex_36 hP, ?_⟩)
  rw [show h.1 36 0 = s.1 from hS.1.1]
  refine am_goX 4 (show 0 ≤ 8 ∧ h.2.2.2.2 + am_al 90 ≤ 175 ∧ am_call am_cod 1 90 [.int (s.1 + (if w = 0 then d_89 C s p else Int32.ofInt 0)), .int ((Int8.ofInt 7).toInt32)] h (fun vv h' => pz_S 5 (some .int) am_r88 1 Q 28 [(4, .int (if w = 0 then d_89 C s p else Int32.ofInt 0)), (2, .ref 36)] (vv.toList ++ []) h') from ⟨by decide, ex_lim hP rfl, am_call.up (d_90_w hP ?_) (by decide)⟩)
  exact am_goX 1 (show (∃ ty, (some .int) = some ty ∧ narrow ty (.int (d_90 (s.1 + (if w = 0 then d_89 C s p else Int32.ofInt 0)))) = .int (d_90 (s.1 + (if w = 0 then d_89 C s p else Int32.ofInt 0)))) ∧ h.2.2.2.2 = 175 ∧ _ from ⟨⟨.int, rfl, rfl⟩, ex_175 hP, hQ⟩)
def d_104 (C : sp_C) (s : dS) (p : Nat) (w : Int32) : Int32 := (if (dlaw C (d_89 C s p) (s.1 / ((Int8.ofInt 7).toInt32)) (d_69 (s.2.2.2.1 p)) (if w = 0 then Int32.ofInt 0 else Int32.ofInt 1)) = 0 then Int32.ofInt 0 else Int32.ofInt 1)
theorem d_104_t6_36 (hP : ex_P h) (hI : cI C) (hT : c_v 6 C h) (hD : c_d 6 C h) (hS : sC 36 s h) (hX : fC 6 h0 h) (hp : p < dP C) (hQ : ∀ h1, (ex_P h1) → (cI C) → (c_v 6 C h1) → (c_d 6 C h1) → (sC 36 s h1) → (fC 6 h0 h1) → Q (some (.int (d_104 C s p w))) h1) : am_call am_cod 4 104 [.ref 6, .int (nI p), .ref 36, .int w] h Q := by
  have h6 := hT.1.2.1
  have h5 := hT.2.1.2.1
  refine pz_call (n := 104) (nL := 5) (rt := (some .boolean)) (rows := am_r104) (d := 3) (by decide +kernel) (by decide +kernel) rfl (by funext pc; rfl) (ex_175 hP) (by exact Nat.le_of_ble_eq_true rfl) ?_
  refine am_goX 2 (show am_sh h 36 = some (6, 0) ∧ pz_S 5 (some .boolean) am_r104 3 Q 4 [(0, .ref 6), (1, .int (nI p)), (2, .ref 36), (3, .int w)] [am_rf (h.2.2.1 36 3)] h from ⟨ex_36 hP, ?_⟩)
  rw [show am_rf (h.2.2.1 36 3) = .ref 38 from congrArg am_rf (ex_r36_3 hP)]
  refine am_goX 2 (show ∃ jj nn : Nat, am_sh h 38 = some (13, nn) ∧ jj < nn ∧ nI p = nI jj ∧ pz_S 5 (some .boolean) am_r104 3 Q 6 [(0, .ref 6), (1, .int (nI p)), (2, .ref 36), (3, .int w)] [.int (h.1 38 jj)] h from ⟨p, 6, ex_38 hP, (by omega), rfl, ?_⟩)
  rw [show h.1 38 p = s.2.2.2.1 p from (hS.2.1 p (by omega)).2]
  refine am_goX 1 (show 0 ≤ 8 ∧ h.2.2.2.2 + am_al 69 ≤ 175 ∧ am_call am_cod 3 69 [.int (s.2.2.2.1 p)] h (fun vv h' => pz_S 5 (some .boolean) am_r104 3 Q 9 [(0, .ref 6), (1, .int (nI p)), (2, .ref 36), (3, .int w)] (vv.toList ++ []) h') from ⟨by decide, ex_lim hP rfl, am_call.up (d_69_w hP ?_) (by decide)⟩)
  refine am_goX 3 (show 4 < 5 ∧ am_sh h 6 = some (0, 0) ∧ pz_S 5 (some .boolean) am_r104 3 Q 15 [(4, .int (d_69 (s.2.2.2.1 p))), (0, .ref 6), (1, .int (nI p)), (2, .ref 36), (3, .int w)] [am_rf (h.2.2.1 6 12)] h from ⟨by decide, ex_6 hP, ?_⟩)
  rw [show am_rf (h.2.2.1 6 12) = .ref 14 from congrArg am_rf (ex_r6_12 hP)]
  refine am_goX 4 (show am_rc h 6 0 ∧ 1 ≤ 8 ∧ h.2.2.2.2 + am_al 89 ≤ 175 ∧ am_call am_cod 3 89 [.ref 6, .int (nI p), .ref 36] h (fun vv h' => pz_S 5 (some .boolean) am_r104 3 Q 21 [(4, .int (d_69 (s.2.2.2.1 p))), (0, .ref 6), (1, .int (nI p)), (2, .ref 36), (3, .int w)] (vv.toList ++ [.ref 14]) h') from ⟨Or.inl ⟨by decide, ex_6 hP⟩, by decide, ex_lim hP rfl, am_call.up (d_89_t6_36 hP hI hT hD hS hX (by omega) ?_) (by decide)⟩)
  refine am_goX 2 (show am_sh h 36 = some (6, 0) ∧ pz_S 5 (some .boolean) am_r104 3 Q 25 [(4, .int (d_69 (s.2.2.2.1 p))), (0, .ref 6), (1, .int (nI p)), (2, .ref 36), (3, .int w)] [.int (h.1 36 0), .int (d_89 C s p), .ref 14] h from ⟨ex_36 hP, ?_⟩)
  rw [show h.1 36 0 = s.1 from hS.1.1]
  suffices key : ∀ (v8 : Int32), v8 = (if w = 0 then Int32.ofInt 0 else Int32.ofInt 1) → pz_S 5 (some .boolean) am_r104 3 Q 39 [] [.int v8, .int (d_69 (s.2.2.2.1 p)), .int (s.1 / ((Int8.ofInt 7).toInt32)), .int (d_89 C s p), .ref 14] h by
    refine am_goX 5 (show ¬ ((Int8.ofInt 7).toInt32) = 0 ∧ (w = 0 → pz_S 5 (some .boolean) am_r104 3 Q 38 [(4, .int (d_69 (s.2.2.2.1 p))), (0, .ref 6), (1, .int (nI p)), (2, .ref 36), (3, .int w)] [.int (d_69 (s.2.2.2.1 p)), .int (s.1 / ((Int8.ofInt 7).toInt32)), .int (d_89 C s p), .ref 14] h) ∧ (¬ (w = 0) → pz_S 5 (some .boolean) am_r104 3 Q 34 [(4, .int (d_69 (s.2.2.2.1 p))), (0, .ref 6), (1, .int (nI p)), (2, .ref 36), (3, .int w)] [.int (d_69 (s.2.2.2.1 p)), .int (s.1 / ((Int8.ofInt 7).toInt32)), .int (d_89 C s p), .ref 14] h) from ⟨by decide, fun c7 => ?_, fun c7 => ?_⟩)
    · refine am_goX 1 (show pz_S 5 (some .boolean) am_r104 3 Q 39 [(4, .int (d_69 (s.2.2.2.1 p))), (0, .ref 6), (1, .int (nI p)), (2, .ref 36), (3, .int w)] [.int (Int32.ofInt 0), .int (d_69 (s.2.2.2.1 p)), .int (s.1 / ((Int8.ofInt 7).toInt32)), .int (d_89 C s p), .ref 14] h from ?_)
      exact sv_S2 sv2_104 (fun q hq => absurd hq List.not_mem_nil) (key _ (if_pos c7).symm)
    · refine am_goX 2 (show pz_S 5 (some .boolean) am_r104 3 Q 39 [(4, .int (d_69 (s.2.2.2.1 p))), (0, .ref 6), (1, .int (nI p)), (2, .ref 36), (3, .int w)] [.int (Int32.ofInt 1), .int (d_69 (s.2.2.2.1 p)), .int (s.1 / ((Int8.ofInt 7).toInt32)), .int (d_89 C s p), .ref 14] h from ?_)
      exact sv_S2 sv2_104 (fun q hq => absurd hq List.not_mem_nil) (key _ (if_neg c7).symm)
  intro v8 e9
  subst e9
  refine am_goX 1 (show am_rc h 14 3 ∧ 0 ≤ 8 ∧ h.2.2.2.2 + am_al 105 ≤ 175 ∧ am_call am_cod 3 105 [.ref 14, .int (d_89 C s p), .int (s.1 / ((Int8.ofInt 7).toInt32)), .int (d_69 (s.2.2.2.1 p)), .int (if w = 0 then Int32.ofInt 0 else Int32.ofInt 1)] h (fun vv h' => pz_S 5 (some .boolean) am_r104 3 Q 42 [] (vv.toList ++ []) h') from ⟨Or.inl ⟨by decide, ex_14 hP⟩, by decide, ex_lim hP rfl, am_call.up (q_105_6 hP hT (fun h10 l11 => ?_)) (by decide)⟩)
  have f12 : ex_P h10 := lfr_P l11 hP
  have f13 : cI C := hI
  have f14 : c_v 6 C h10 := lfr_c l11 (by omega) hT
  have f15 : c_d 6 C h10 := lfr_d l11 (by omega) hD
  have f16 : sC 36 s h10 := lfr_s l11 (by omega) hS
  have f17 : fC 6 h0 h10 := fC_l l11 hX
  suffices key : ∀ (v19 : Int32), v19 = (if (dlaw C (d_89 C s p) (s.1 / ((Int8.ofInt 7).toInt32)) (d_69 (s.2.2.2.1 p)) (if w = 0 then Int32.ofInt 0 else Int32.ofInt 1)) = 0 then Int32.ofInt 0 else Int32.ofInt 1) → pz_S 5 (some .boolean) am_r104 3 Q 50 [] [.int v19] h10 by
    refine am_goX 1 (show ((dlaw C (d_89 C s p) (s.1 / ((Int8.ofInt 7).toInt32)) (d_69 (s.2.2.2.1 p)) (if w = 0 then Int32.ofInt 0 else Int32.ofInt 1)) = 0 → pz_S 5 (some .boolean) am_r104 3 Q 49 [] [] h10) ∧ (¬ ((dlaw C (d_89 C s p) (s.1 / ((Int8.ofInt 7).toInt32)) (d_69 (s.2.2.2.1 p)) (if w = 0 then Int32.ofInt 0 else Int32.ofInt 1)) = 0) → pz_S 5 (some .boolean) am_r104 3 Q 45 [] [] h10) from ⟨fun c18 => ?_, fun c18 => ?_⟩)
    · refine am_goX 1 (show pz_S 5 (some .boolean) am_r104 3 Q 50 [] [.int (Int32.ofInt 0)] h10 from ?_)
      exact sv_S2 sv2_104 (fun q hq => absurd hq List.not_mem_nil) (key _ (if_pos c18).symm)
    · refine am_goX 2 (show pz_S 5 (some .boolean) am_r104 3 Q 50 [] [.int (Int32.ofInt 1)] h10 from ?_)
      exact sv_S2 sv2_104 (fun q hq => absurd hq List.not_mem_nil) (key _ (if_neg c18).symm)
  intro v19 e20
  subst e20
  exact am_goX 1 (show (∃ ty, (some .boolean) = some ty ∧ narrow ty (.int (if (dlaw C (d_89 C s p) (s.1 / ((Int8.ofInt 7).toInt32)) (d_69 (s.2.2.2.1 p)) (if w = 0 then Int32.ofInt 0 else Int32.ofInt 1)) = 0 then Int32.ofInt 0 else Int32.ofInt 1)) = .int (if (dlaw C (d_89 C s p) (s.1 / ((Int8.ofInt 7).toInt32)) (d_69 (s.2.2.2.1 p)) (if w = 0 then Int32.ofInt 0 else Int32.ofInt 1)) = 0 then Int32.ofInt 0 else Int32.ofInt 1)) ∧ h10.2.2.2.2 = 175 ∧ _ from ⟨⟨.boolean, rfl, (by (repeat' split) <;> rfl)⟩, ex_175 f12, hQ _ f12 f13 f14 f15 f16 f17⟩)
def d_101_2 (C : sp_C) (w : Int32) : Nat → Nat → dS → dS
  | 0, _, s => s
  | m + 1, k, s => d_101_2 C w m (k + 1) (sSA s k (Int32.ofInt 0))
theorem d_101_2_t6_36 : ∀ (m k : Nat) (s : dS) (h : am_H), k + m = dE C → (ex_P h) → (cI C) → (c_v 6 C h) → (c_d 6 C h) → (sC 36 s h) → (fC 6 h0 h) → (∀ h1, (ex_P h1) → (cI C) → (c_v 6 C h1) → (c_d 6 C h1) → (sC 36 (d_101_2 C w m k s) h1) → (fC 6 h0 h1) → pz_S 6 none am_r101 4 Q 23 [(0, .ref 6), (1, .ref 36), (2, .int w)] [] h1) → pz_S 6 none am_r101 4 Q 2 [(0, .ref 6), (1, .ref 36), (2, .int w), (3, .int (nI k))] [] h := by
  intro m
  induction m with
  | zero =>
    intro k s h hk hP hI hT hD hS hX hZ
    have h6 := hT.1.2.1
    have h5 := hT.2.1.2.1
    refine am_goX 3 (show am_sh h 6 = some (0, 0) ∧ pz_S 6 none am_r101 4 Q 7 [(0, .ref 6), (1, .ref 36), (2, .int w), (3, .int (nI k))] [.int (h.1 6 4), .int (nI k)] h from ⟨ex_6 hP, ?_⟩)
    rw [show h.1 6 4 = nI (dE C) from hT.2.1.1]
    refine am_goX 1 (show ((nI (dE C)) ≤ (nI k) → pz_S 6 none am_r101 4 Q 23 [(0, .ref 6), (1, .ref 36), (2, .int w), (3, .int (nI k))] [] h) ∧ (¬ ((nI (dE C)) ≤ (nI k)) → pz_S 6 none am_r101 4 Q 10 [(0, .ref 6), (1, .ref 36), (2, .int w), (3, .int (nI k))] [] h) from ⟨fun _ => ?_, fun hz => absurd (show nI (dE C) ≤ nI k from nI_le (by omega) (by omega)) hz⟩)
    exact sv_S2 sv2_101 (by intro q hq; simp only [List.mem_cons, List.not_mem_nil, or_false] at hq; rcases hq with rfl | rfl | rfl <;> rfl) (hZ _ hP hI hT hD hS hX)
  | succ m ih =>
    intro k s h hk hP hI hT hD hS hX hZ
    have h6 := hT.1.2.1
    have h5 := hT.2.1.2.1
    refine am_goX 3 (show am_sh h 6 = some (0, 0) ∧ pz_S 6 none am_r101 4 Q 7 [(0, .ref 6), (1, .ref 36), (2, .int w), (3, .int (nI k))] [.int (h.1 6 4), .int (nI k)] h from ⟨ex_6 hP, ?_⟩)
    rw [show h.1 6 4 = nI (dE C) from hT.2.1.1]
    refine am_goX 1 (show ((nI (dE C)) ≤ (nI k) → pz_S 6 none am_r101 4 Q 23 [(0, .ref 6), (1, .ref 36), (2, .int w), (3, .int (nI k))] [] h) ∧ (¬ ((nI (dE C)) ≤ (nI k)) → pz_S 6 none am_r101 4 Q 10 [(0, .ref 6), (1, .ref 36), (2, .int w), (3, .int (nI k))] [] h) from ⟨fun hz => absurd hz (show ¬ (nI (dE C) ≤ nI k) by rw [nI_leI (by omega) (by omega)]; omega), fun _ => ?_⟩)
    refine am_goX 2 (show am_sh h 36 = some (6, 0) ∧ pz_S 6 none am_r101 4 Q 14 [(0, .ref 6), (1, .ref 36), (2, .int w), (3, .int (nI k))] [am_rf (h.2.2.1 36 5)] h from ⟨ex_36 hP, ?_⟩)
    rw [show am_rf (h.2.2.1 36 5) = .ref 40 from congrArg am_rf (ex_r36_5 hP)]
    refine am_goX 3 (show ∃ jj nn : Nat, am_so h 40 = some (13, nn) ∧ jj < nn ∧ nI k = nI jj ∧ pz_S 6 none am_r101 4 Q 17 [(0, .ref 6), (1, .ref 36), (2, .int w), (3, .int (nI k))] [] (am_wI h 40 jj (Int32.ofInt 0)) from ⟨k, 5, ex_w40 hP, (by omega), rfl, ?_⟩)
    have f22 : ex_P (am_wI h 40 k (Int32.ofInt 0)) := hP
    have f23 : cI C := hI
    have f24 : c_v 6 C (am_wI h 40 k (Int32.ofInt 0)) := c_v_w (by omega) hT
    have f25 : c_d 6 C (am_wI h 40 k (Int32.ofInt 0)) := c_d_w (by omega) hD
    have f26 : sC 36 (sSA s k (Int32.ofInt 0)) (am_wI h 40 k (Int32.ofInt 0)) := sC_wA (by omega) hS
    have f27 : fC 6 h0 (am_wI h 40 k (Int32.ofInt 0)) := fC_w (by omega) hX
    generalize am_wI h 40 k (Int32.ofInt 0) = h21 at f22 f23 f24 f25 f26 f27 ⊢
    refine am_goX 2 (show 3 < 6 ∧ pz_S 6 none am_r101 4 Q 2 [(3, .int ((nI k) + (Int32.ofInt 1))), (0, .ref 6), (1, .ref 36), (2, .int w)] [] h21 from ⟨by decide, ?_⟩)
    rw [show (nI k) + (Int32.ofInt 1) = nI (k + 1) from (dn_a rfl rfl)]
    exact sv_S2 sv2_101 (by intro q hq; simp only [List.mem_cons, List.not_mem_nil, or_false] at hq; rcases hq with rfl | rfl | rfl | rfl <;> rfl) (ih (k + 1) (sSA s k (Int32.ofInt 0)) _ (by omega) f22 f23 f24 f25 f26 f27 hZ)
def d_101_65 (C : sp_C) (w : Int32) (n3 : Nat) (x4 : Int32) : Nat → Nat → dS → dS
  | 0, _, s => s
  | m + 1, k, s => d_101_65 C w n3 x4 m (k + 1) (sSA s k ((s.2.2.2.2.2 k) ||| (((x4 >>> ((nI k) &&& 31)) &&& (Int32.ofInt 1)) <<< ((nI n3) &&& 31))))
theorem d_101_65_t6_36 (n3 : Nat) (x4 : Int32) : ∀ (m k : Nat) (s : dS) (h : am_H), k + m = dE C → (ex_P h) → (cI C) → (c_v 6 C h) → (c_d 6 C h) → (sC 36 s h) → (fC 6 h0 h) → (∀ h1, (ex_P h1) → (cI C) → (c_v 6 C h1) → (c_d 6 C h1) → (sC 36 (d_101_65 C w n3 x4 m k s) h1) → (fC 6 h0 h1) → pz_S 6 none am_r101 4 Q 99 [(0, .ref 6), (1, .ref 36), (2, .int w), (3, .int (nI n3))] [] h1) → pz_S 6 none am_r101 4 Q 65 [(0, .ref 6), (1, .ref 36), (2, .int w), (3, .int (nI n3)), (4, .int x4), (5, .int (nI k))] [] h := by
  intro m
  induction m with
  | zero =>
    intro k s h hk hP hI hT hD hS hX hZ
    have h6 := hT.1.2.1
    have h5 := hT.2.1.2.1
    refine am_goX 3 (show am_sh h 6 = some (0, 0) ∧ pz_S 6 none am_r101 4 Q 71 [(0, .ref 6), (1, .ref 36), (2, .int w), (3, .int (nI n3)), (4, .int x4), (5, .int (nI k))] [.int (h.1 6 4), .int (nI k)] h from ⟨ex_6 hP, ?_⟩)
    rw [show h.1 6 4 = nI (dE C) from hT.2.1.1]
    refine am_goX 1 (show ((nI (dE C)) ≤ (nI k) → pz_S 6 none am_r101 4 Q 99 [(0, .ref 6), (1, .ref 36), (2, .int w), (3, .int (nI n3)), (4, .int x4), (5, .int (nI k))] [] h) ∧ (¬ ((nI (dE C)) ≤ (nI k)) → pz_S 6 none am_r101 4 Q 74 [(0, .ref 6), (1, .ref 36), (2, .int w), (3, .int (nI n3)), (4, .int x4), (5, .int (nI k))] [] h) from ⟨fun _ => ?_, fun hz => absurd (show nI (dE C) ≤ nI k from nI_le (by omega) (by omega)) hz⟩)
    exact sv_S2 sv2_101 (by intro q hq; simp only [List.mem_cons, List.not_mem_nil, or_false] at hq; rcases hq with rfl | rfl | rfl | rfl <;> rfl) (hZ _ hP hI hT hD hS hX)
  | succ m ih =>
    intro k s h hk hP hI hT hD hS hX hZ
    have h6 := hT.1.2.1
    have h5 := hT.2.1.2.1
    refine am_goX 3 (show am_sh h 6 = some (0, 0) ∧ pz_S 6 none am_r101 4 Q 71 [(0, .ref 6), (1, .ref 36), (2, .int w), (3, .int (nI n3)), (4, .int x4), (5, .int (nI k))] [.int (h.1 6 4), .int (nI k)] h from ⟨ex_6 hP, ?_⟩)
    rw [show h.1 6 4 = nI (dE C) from hT.2.1.1]
    refine am_goX 1 (show ((nI (dE C)) ≤ (nI k) → pz_S 6 none am_r101 4 Q 99 [(0, .ref 6), (1, .ref 36), (2, .int w), (3, .int (nI n3)), (4, .int x4), (5, .int (nI k))] [] h) ∧ (¬ ((nI (dE C)) ≤ (nI k)) → pz_S 6 none am_r101 4 Q 74 [(0, .ref 6), (1, .ref 36), (2, .int w), (3, .int (nI n3)), (4, .int x4), (5, .int (nI k))] [] h) from ⟨fun hz => absurd hz (show ¬ (nI (dE C) ≤ nI k) by rw [nI_leI (by omega) (by omega)]; omega), fun _ => ?_⟩)
    refine am_goX 2 (show am_sh h 36 = some (6, 0) ∧ pz_S 6 none am_r101 4 Q 78 [(0, .ref 6), (1, .ref 36), (2, .int w), (3, .int (nI n3)), (4, .int x4), (5, .int (nI k))] [am_rf (h.2.2.1 36 5)] h from ⟨ex_36 hP, ?_⟩)
    rw [show am_rf (h.2.2.1 36 5) = .ref 40 from congrArg am_rf (ex_r36_5 hP)]
    refine am_goX 3 (show (Value.int (nI k)).category = 1 ∧ (Value.ref 40).category = 1 ∧ ∃ jj nn : Nat, am_sh h 40 = some (13, nn) ∧ jj < nn ∧ nI k = nI jj ∧ pz_S 6 none am_r101 4 Q 82 [(0, .ref 6), (1, .ref 36), (2, .int w), (3, .int (nI n3)), (4, .int x4), (5, .int (nI k))] [.int (h.1 40 jj), .int (nI k), .ref 40] h from ⟨rfl, rfl, ⟨k, 5, ex_40 hP, (by omega), rfl, ?_⟩⟩)
    rw [show h.1 40 k = s.2.2.2.2.2 k from (hS.2.2 k (by omega)).2]
    refine am_goX 9 (show ∃ jj nn : Nat, am_so h 40 = some (13, nn) ∧ jj < nn ∧ nI k = nI jj ∧ pz_S 6 none am_r101 4 Q 93 [(0, .ref 6), (1, .ref 36), (2, .int w), (3, .int (nI n3)), (4, .int x4), (5, .int (nI k))] [] (am_wI h 40 jj ((s.2.2.2.2.2 k) ||| (((x4 >>> ((nI k) &&& 31)) &&& (Int32.ofInt 1)) <<< ((nI n3) &&& 31)))) from ⟨k, 5, ex_w40 hP, (by omega), rfl, ?_⟩)
    have f45 : ex_P (am_wI h 40 k ((s.2.2.2.2.2 k) ||| (((x4 >>> ((nI k) &&& 31)) &&& (Int32.ofInt 1)) <<< ((nI n3) &&& 31)))) := hP
    have f46 : cI C := hI
    have f47 : c_v 6 C (am_wI h 40 k ((s.2.2.2.2.2 k) ||| (((x4 >>> ((nI k) &&& 31)) &&& (Int32.ofInt 1)) <<< ((nI n3) &&& 31)))) := c_v_w (by omega) hT
    have f48 : c_d 6 C (am_wI h 40 k ((s.2.2.2.2.2 k) ||| (((x4 >>> ((nI k) &&& 31)) &&& (Int32.ofInt 1)) <<< ((nI n3) &&& 31)))) := c_d_w (by omega) hD
    have f49 : sC 36 (sSA s k ((s.2.2.2.2.2 k) ||| (((x4 >>> ((nI k) &&& 31)) &&& (Int32.ofInt 1)) <<< ((nI n3) &&& 31)))) (am_wI h 40 k ((s.2.2.2.2.2 k) ||| (((x4 >>> ((nI k) &&& 31)) &&& (Int32.ofInt 1)) <<< ((nI n3) &&& 31)))) := sC_wA (by omega) hS
    have f50 : fC 6 h0 (am_wI h 40 k ((s.2.2.2.2.2 k) ||| (((x4 >>> ((nI k) &&& 31)) &&& (Int32.ofInt 1)) <<< ((nI n3) &&& 31)))) := fC_w (by omega) hX
    generalize am_wI h 40 k ((s.2.2.2.2.2 k) ||| (((x4 >>> ((nI k) &&& 31)) &&& (Int32.ofInt 1)) <<< ((nI n3) &&& 31))) = h44 at f45 f46 f47 f48 f49 f50 ⊢
    refine am_goX 2 (show 5 < 6 ∧ pz_S 6 none am_r101 4 Q 65 [(5, .int ((nI k) + (Int32.ofInt 1))), (0, .ref 6), (1, .ref 36), (2, .int w), (3, .int (nI n3)), (4, .int x4)] [] h44 from ⟨by decide, ?_⟩)
    rw [show (nI k) + (Int32.ofInt 1) = nI (k + 1) from (dn_a rfl rfl)]
    exact sv_S2 sv2_101 (by intro q hq; simp only [List.mem_cons, List.not_mem_nil, or_false] at hq; rcases hq with rfl | rfl | rfl | rfl | rfl | rfl <;> rfl) (ih (k + 1) (sSA s k ((s.2.2.2.2.2 k) ||| (((x4 >>> ((nI k) &&& 31)) &&& (Int32.ofInt 1)) <<< ((nI n3) &&& 31)))) _ (by omega) f45 f46 f47 f48 f49 f50 hZ)
def d_101_25 (C : sp_C) (w : Int32) : Nat → Nat → dS → dS
  | 0, _, s => s
  | m + 1, k, s => (if (d_102 C k (d_88 C s k w)) = 0 then (d_101_25 C w m (k + 1) s) else (if (d_104 C s k w) = 0 then (d_101_25 C w m (k + 1) s) else (d_101_25 C w m (k + 1) (d_101_65 C w k (d_102 C k (d_88 C s k w)) (dE C) 0 s))))
theorem d_101_25_t6_36 : ∀ (m k : Nat) (s : dS) (h : am_H), k + m = dP C → (ex_P h) → (cI C) → (c_v 6 C h) → (c_d 6 C h) → (sC 36 s h) → (fC 6 h0 h) → (∀ h1, (ex_P h1) → (cI C) → (c_v 6 C h1) → (c_d 6 C h1) → (sC 36 (d_101_25 C w m k s) h1) → (fC 6 h0 h1) → pz_S 6 none am_r101 4 Q 105 [] [] h1) → pz_S 6 none am_r101 4 Q 25 [(0, .ref 6), (1, .ref 36), (2, .int w), (3, .int (nI k))] [] h := by
  intro m
  induction m with
  | zero =>
    intro k s h hk hP hI hT hD hS hX hZ
    have h6 := hT.1.2.1
    have h5 := hT.2.1.2.1
    refine am_goX 3 (show am_sh h 6 = some (0, 0) ∧ pz_S 6 none am_r101 4 Q 30 [(0, .ref 6), (1, .ref 36), (2, .int w), (3, .int (nI k))] [.int (h.1 6 0), .int (nI k)] h from ⟨ex_6 hP, ?_⟩)
    rw [show h.1 6 0 = nI (dP C) from hT.1.1]
    refine am_goX 1 (show ((nI (dP C)) ≤ (nI k) → pz_S 6 none am_r101 4 Q 105 [(0, .ref 6), (1, .ref 36), (2, .int w), (3, .int (nI k))] [] h) ∧ (¬ ((nI (dP C)) ≤ (nI k)) → pz_S 6 none am_r101 4 Q 33 [(0, .ref 6), (1, .ref 36), (2, .int w), (3, .int (nI k))] [] h) from ⟨fun _ => ?_, fun hz => absurd (show nI (dP C) ≤ nI k from nI_le (by omega) (by omega)) hz⟩)
    exact sv_S2 sv2_101 (fun q hq => absurd hq List.not_mem_nil) (hZ _ hP hI hT hD hS hX)
  | succ m ih =>
    intro k s h hk hP hI hT hD hS hX hZ
    have h6 := hT.1.2.1
    have h5 := hT.2.1.2.1
    refine am_goX 3 (show am_sh h 6 = some (0, 0) ∧ pz_S 6 none am_r101 4 Q 30 [(0, .ref 6), (1, .ref 36), (2, .int w), (3, .int (nI k))] [.int (h.1 6 0), .int (nI k)] h from ⟨ex_6 hP, ?_⟩)
    rw [show h.1 6 0 = nI (dP C) from hT.1.1]
    refine am_goX 1 (show ((nI (dP C)) ≤ (nI k) → pz_S 6 none am_r101 4 Q 105 [(0, .ref 6), (1, .ref 36), (2, .int w), (3, .int (nI k))] [] h) ∧ (¬ ((nI (dP C)) ≤ (nI k)) → pz_S 6 none am_r101 4 Q 33 [(0, .ref 6), (1, .ref 36), (2, .int w), (3, .int (nI k))] [] h) from ⟨fun hz => absurd hz (show ¬ (nI (dP C) ≤ nI k) by rw [nI_leI (by omega) (by omega)]; omega), fun _ => ?_⟩)
    refine am_goX 7 (show am_rc h 6 0 ∧ 2 ≤ 8 ∧ h.2.2.2.2 + am_al 88 ≤ 175 ∧ am_call am_cod 4 88 [.ref 6, .int (nI k), .ref 36, .int w] h (fun vv h' => pz_S 6 none am_r101 4 Q 42 [(0, .ref 6), (1, .ref 36), (2, .int w), (3, .int (nI k))] (vv.toList ++ [.int (nI k), .ref 6]) h') from ⟨Or.inl ⟨by decide, ex_6 hP⟩, by decide, ex_lim hP rfl, am_call.up (d_88_t6_36 hP hI hT hD hS hX (by omega) ?_) (by decide)⟩)
    refine am_goX 1 (show am_rc h 6 0 ∧ 0 ≤ 8 ∧ h.2.2.2.2 + am_al 102 ≤ 175 ∧ am_call am_cod 4 102 [.ref 6, .int (nI k), .int (d_88 C s k w)] h (fun vv h' => pz_S 6 none am_r101 4 Q 45 [(0, .ref 6), (1, .ref 36), (2, .int w), (3, .int (nI k))] (vv.toList ++ []) h') from ⟨Or.inl ⟨by decide, ex_6 hP⟩, by decide, ex_lim hP rfl, am_call.up (d_102_w6 hP hT hD (by omega) ?_) (by decide)⟩)
    refine am_goX 3 (show 4 < 6 ∧ ((d_102 C k (d_88 C s k w)) = 0 → pz_S 6 none am_r101 4 Q 99 [(4, .int (d_102 C k (d_88 C s k w))), (0, .ref 6), (1, .ref 36), (2, .int w), (3, .int (nI k))] [] h) ∧ (¬ ((d_102 C k (d_88 C s k w)) = 0) → pz_S 6 none am_r101 4 Q 52 [(4, .int (d_102 C k (d_88 C s k w))), (0, .ref 6), (1, .ref 36), (2, .int w), (3, .int (nI k))] [] h) from ⟨by decide, fun c35 => ?_, fun c35 => ?_⟩)
    · refine am_goX 2 (show 3 < 6 ∧ pz_S 6 none am_r101 4 Q 25 [(3, .int ((nI k) + (Int32.ofInt 1))), (4, .int (d_102 C k (d_88 C s k w))), (0, .ref 6), (1, .ref 36), (2, .int w)] [] h from ⟨by decide, ?_⟩)
      rw [show d_101_25 C w (m + 1) k s = d_101_25 C w m (k + 1) s from if_pos c35] at hZ
      rw [show (nI k) + (Int32.ofInt 1) = nI (k + 1) from (dn_a rfl rfl)]
      exact sv_S2 sv2_101 (by intro q hq; simp only [List.mem_cons, List.not_mem_nil, or_false] at hq; rcases hq with rfl | rfl | rfl | rfl <;> rfl) (ih (k + 1) s _ (by omega) hP hI hT hD hS hX hZ)
    · refine am_goX 5 (show am_rc h 6 0 ∧ 0 ≤ 8 ∧ h.2.2.2.2 + am_al 104 ≤ 175 ∧ am_call am_cod 4 104 [.ref 6, .int (nI k), .ref 36, .int w] h (fun vv h' => pz_S 6 none am_r101 4 Q 59 [(4, .int (d_102 C k (d_88 C s k w))), (0, .ref 6), (1, .ref 36), (2, .int w), (3, .int (nI k))] (vv.toList ++ []) h') from ⟨Or.inl ⟨by decide, ex_6 hP⟩, by decide, ex_lim hP rfl, am_call.up (d_104_t6_36 hP hI hT hD hS hX (by omega) (fun h36 f37 f38 f39 f40 f41 f42 => ?_)) (by decide)⟩)
      refine am_goX 1 (show ((d_104 C s k w) = 0 → pz_S 6 none am_r101 4 Q 99 [(4, .int (d_102 C k (d_88 C s k w))), (0, .ref 6), (1, .ref 36), (2, .int w), (3, .int (nI k))] [] h36) ∧ (¬ ((d_104 C s k w) = 0) → pz_S 6 none am_r101 4 Q 62 [(4, .int (d_102 C k (d_88 C s k w))), (0, .ref 6), (1, .ref 36), (2, .int w), (3, .int (nI k))] [] h36) from ⟨fun c43 => ?_, fun c43 => ?_⟩)
      · refine am_goX 2 (show 3 < 6 ∧ pz_S 6 none am_r101 4 Q 25 [(3, .int ((nI k) + (Int32.ofInt 1))), (4, .int (d_102 C k (d_88 C s k w))), (0, .ref 6), (1, .ref 36), (2, .int w)] [] h36 from ⟨by decide, ?_⟩)
        rw [show d_101_25 C w (m + 1) k s = d_101_25 C w m (k + 1) s from (if_neg c35).trans (if_pos c43)] at hZ
        rw [show (nI k) + (Int32.ofInt 1) = nI (k + 1) from (dn_a rfl rfl)]
        exact sv_S2 sv2_101 (by intro q hq; simp only [List.mem_cons, List.not_mem_nil, or_false] at hq; rcases hq with rfl | rfl | rfl | rfl <;> rfl) (ih (k + 1) s _ (by omega) f37 f38 f39 f40 f41 f42 hZ)
      · refine am_goX 2 (show 5 < 6 ∧ pz_S 6 none am_r101 4 Q 65 [(5, .int (Int32.ofInt 0)), (4, .int (d_102 C k (d_88 C s k w))), (0, .ref 6), (1, .ref 36), (2, .int w), (3, .int (nI k))] [] h36 from ⟨by decide, ?_⟩)
        refine sv_S2 sv2_101 (by intro q hq; simp only [List.mem_cons, List.not_mem_nil, or_false] at hq; rcases hq with rfl | rfl | rfl | rfl | rfl | rfl <;> rfl) (d_101_65_t6_36 k (d_102 C k (d_88 C s k w)) (dE C) 0 s _ (by omega) f37 f38 f39 f40 f41 f42 (fun h44 f45 f46 f47 f48 f49 f50 => ?_))
        refine am_goX 2 (show 3 < 6 ∧ pz_S 6 none am_r101 4 Q 25 [(3, .int ((nI k) + (Int32.ofInt 1))), (0, .ref 6), (1, .ref 36), (2, .int w)] [] h44 from ⟨by decide, ?_⟩)
        rw [show d_101_25 C w (m + 1) k s = d_101_25 C w m (k + 1) (d_101_65 C w k (d_102 C k (d_88 C s k w)) (dE C) 0 s) from (if_neg c35).trans (if_neg c43)] at hZ
        rw [show (nI k) + (Int32.ofInt 1) = nI (k + 1) from (dn_a rfl rfl)]
        exact sv_S2 sv2_101 (by intro q hq; simp only [List.mem_cons, List.not_mem_nil, or_false] at hq; rcases hq with rfl | rfl | rfl | rfl <;> rfl) (ih (k + 1) (d_101_65 C w k (d_102 C k (d_88 C s k w)) (dE C) 0 s) _ (by omega) f45 f46 f47 f48 f49 f50 hZ)
def d_101_s (C : sp_C) (s : dS) (w : Int32) : dS := d_101_25 C w (dP C) 0 (d_101_2 C w (dE C) 0 s)
theorem d_101_t6_36 (hP : ex_P h) (hI : cI C) (hT : c_v 6 C h) (hD : c_d 6 C h) (hS : sC 36 s h) (hX : fC 6 h0 h)  (hQ : ∀ h1, (ex_P h1) → (cI C) → (c_v 6 C h1) → (c_d 6 C h1) → (sC 36 (d_101_s C s w) h1) → (fC 6 h0 h1) → Q none h1) : am_call am_cod 5 101 [.ref 6, .ref 36, .int w] h Q := by
  have h6 := hT.1.2.1
  have h5 := hT.2.1.2.1
  refine pz_call (n := 101) (nL := 6) (rt := none) (rows := am_r101) (d := 4) (by decide +kernel) (by decide +kernel) rfl (by funext pc; rfl) (ex_175 hP) (by exact Nat.le_of_ble_eq_true rfl) ?_
  refine am_goX 2 (show 3 < 6 ∧ pz_S 6 none am_r101 4 Q 2 [(3, .int (Int32.ofInt 0)), (0, .ref 6), (1, .ref 36), (2, .int w)] [] h from ⟨by decide, ?_⟩)
  refine sv_S2 sv2_101 (by intro q hq; simp only [List.mem_cons, List.not_mem_nil, or_false] at hq; rcases hq with rfl | rfl | rfl | rfl <;> rfl) (d_101_2_t6_36 (dE C) 0 s _ (by omega) hP hI hT hD hS hX (fun h28 f29 f30 f31 f32 f33 f34 => ?_))
  refine am_goX 2 (show 3 < 6 ∧ pz_S 6 none am_r101 4 Q 25 [(3, .int (Int32.ofInt 0)), (0, .ref 6), (1, .ref 36), (2, .int w)] [] h28 from ⟨by decide, ?_⟩)
  refine sv_S2 sv2_101 (by intro q hq; simp only [List.mem_cons, List.not_mem_nil, or_false] at hq; rcases hq with rfl | rfl | rfl | rfl <;> rfl) (d_101_25_t6_36 (dP C) 0 (d_101_2 C w (dE C) 0 s) _ (by omega) f29 f30 f31 f32 f33 f34 (fun h51 f52 f53 f54 f55 f56 f57 => ?_))
  exact am_goX 1 (show (none : Option FieldType) = none ∧ h51.2.2.2.2 = 175 ∧ _ from ⟨rfl, ex_175 f52, hQ _ f52 f53 f54 f55 f56 f57⟩)
def d_108_2 (x : Int32) : Nat → Nat → dS → dS
  | 0, _, s => s
  | m + 1, k, s => (if (d_65 x (nI k)) = 0 then (d_108_2 x m (k + 1) s) else (d_108_2 x m (k + 1) (sSM s k ((s.2.2.2.1 k) ||| (x &&& (((Int32.ofInt 1) <<< ((nI k) &&& 31)) ^^^ (Int32.ofInt (-1))))))))
theorem d_108_2_t6_36 : ∀ (m k : Nat) (s : dS) (h : am_H), k + m = 6 → (ex_P h) → (cI C) → (c_v 6 C h) → (c_d 6 C h) → (sC 36 s h) → (fC 6 h0 h) → (∀ h1, (ex_P h1) → (cI C) → (c_v 6 C h1) → (c_d 6 C h1) → (sC 36 (d_108_2 x m k s) h1) → (fC 6 h0 h1) → pz_S 3 none am_r108 1 Q 38 [] [] h1) → pz_S 3 none am_r108 1 Q 2 [(0, .ref 36), (1, .int x), (2, .int (nI k))] [] h := by
  intro m
  induction m with
  | zero =>
    intro k s h hk hP hI hT hD hS hX hZ
    have h6 := hT.1.2.1
    have h5 := hT.2.1.2.1
    refine am_goX 3 (show (((Int8.ofInt 6).toInt32) ≤ (nI k) → pz_S 3 none am_r108 1 Q 38 [(0, .ref 36), (1, .int x), (2, .int (nI k))] [] h) ∧ (¬ (((Int8.ofInt 6).toInt32) ≤ (nI k)) → pz_S 3 none am_r108 1 Q 8 [(0, .ref 36), (1, .int x), (2, .int (nI k))] [] h) from ⟨fun _ => ?_, fun hz => absurd (show nI 6 ≤ nI k from nI_le (by omega) (by omega)) hz⟩)
    exact sv_S2 sv2_108 (fun q hq => absurd hq List.not_mem_nil) (hZ _ hP hI hT hD hS hX)
  | succ m ih =>
    intro k s h hk hP hI hT hD hS hX hZ
    have h6 := hT.1.2.1
    have h5 := hT.2.1.2.1
    refine am_goX 3 (show (((Int8.ofInt 6).toInt32) ≤ (nI k) → pz_S 3 none am_r108 1 Q 38 [(0, .ref 36), (1, .int x), (2, .int (nI k))] [] h) ∧ (¬ (((Int8.ofInt 6).toInt32) ≤ (nI k)) → pz_S 3 none am_r108 1 Q 8 [(0, .ref 36), (1, .int x), (2, .int (nI k))] [] h) from ⟨fun hz => absurd hz (show ¬ (nI 6 ≤ nI k) by rw [nI_leI (by omega) (by omega)]; omega), fun _ => ?_⟩)
    refine am_goX 3 (show 0 ≤ 8 ∧ h.2.2.2.2 + am_al 65 ≤ 175 ∧ am_call am_cod 1 65 [.int x, .int (nI k)] h (fun vv h' => pz_S 3 none am_r108 1 Q 13 [(0, .ref 36), (1, .int x), (2, .int (nI k))] (vv.toList ++ []) h') from ⟨by decide, ex_lim hP rfl, am_call.up (d_65_w hP ?_) (by decide)⟩)
    refine am_goX 1 (show ((d_65 x (nI k)) = 0 → pz_S 3 none am_r108 1 Q 32 [(0, .ref 36), (1, .int x), (2, .int (nI k))] [] h) ∧ (¬ ((d_65 x (nI k)) = 0) → pz_S 3 none am_r108 1 Q 16 [(0, .ref 36), (1, .int x), (2, .int (nI k))] [] h) from ⟨fun c58 => ?_, fun c58 => ?_⟩)
    · refine am_goX 2 (show 2 < 3 ∧ pz_S 3 none am_r108 1 Q 2 [(2, .int ((nI k) + (Int32.ofInt 1))), (0, .ref 36), (1, .int x)] [] h from ⟨by decide, ?_⟩)
      rw [show d_108_2 x (m + 1) k s = d_108_2 x m (k + 1) s from if_pos c58] at hZ
      rw [show (nI k) + (Int32.ofInt 1) = nI (k + 1) from (dn_a rfl rfl)]
      exact sv_S2 sv2_108 (by intro q hq; simp only [List.mem_cons, List.not_mem_nil, or_false] at hq; rcases hq with rfl | rfl | rfl <;> rfl) (ih (k + 1) s _ (by omega) hP hI hT hD hS hX hZ)
    · refine am_goX 2 (show am_sh h 36 = some (6, 0) ∧ pz_S 3 none am_r108 1 Q 20 [(0, .ref 36), (1, .int x), (2, .int (nI k))] [am_rf (h.2.2.1 36 3)] h from ⟨ex_36 hP, ?_⟩)
      rw [show am_rf (h.2.2.1 36 3) = .ref 38 from congrArg am_rf (ex_r36_3 hP)]
      refine am_goX 3 (show (Value.int (nI k)).category = 1 ∧ (Value.ref 38).category = 1 ∧ ∃ jj nn : Nat, am_sh h 38 = some (13, nn) ∧ jj < nn ∧ nI k = nI jj ∧ pz_S 3 none am_r108 1 Q 23 [(0, .ref 36), (1, .int x), (2, .int (nI k))] [.int (h.1 38 jj), .int (nI k), .ref 38] h from ⟨rfl, rfl, ⟨k, 6, ex_38 hP, (by omega), rfl, ?_⟩⟩)
      rw [show h.1 38 k = s.2.2.2.1 k from (hS.2.1 k (by omega)).2]
      refine am_goX 9 (show ∃ jj nn : Nat, am_so h 38 = some (13, nn) ∧ jj < nn ∧ nI k = nI jj ∧ pz_S 3 none am_r108 1 Q 32 [(0, .ref 36), (1, .int x), (2, .int (nI k))] [] (am_wI h 38 jj ((s.2.2.2.1 k) ||| (x &&& (((Int32.ofInt 1) <<< ((nI k) &&& 31)) ^^^ (Int32.ofInt (-1)))))) from ⟨k, 6, ex_w38 hP, (by omega), rfl, ?_⟩)
      have f60 : ex_P (am_wI h 38 k ((s.2.2.2.1 k) ||| (x &&& (((Int32.ofInt 1) <<< ((nI k) &&& 31)) ^^^ (Int32.ofInt (-1)))))) := hP
      have f61 : cI C := hI
      have f62 : c_v 6 C (am_wI h 38 k ((s.2.2.2.1 k) ||| (x &&& (((Int32.ofInt 1) <<< ((nI k) &&& 31)) ^^^ (Int32.ofInt (-1)))))) := c_v_w (by omega) hT
      have f63 : c_d 6 C (am_wI h 38 k ((s.2.2.2.1 k) ||| (x &&& (((Int32.ofInt 1) <<< ((nI k) &&& 31)) ^^^ (Int32.ofInt (-1)))))) := c_d_w (by omega) hD
      have f64 : sC 36 (sSM s k ((s.2.2.2.1 k) ||| (x &&& (((Int32.ofInt 1) <<< ((nI k) &&& 31)) ^^^ (Int32.ofInt (-1)))))) (am_wI h 38 k ((s.2.2.2.1 k) ||| (x &&& (((Int32.ofInt 1) <<< ((nI k) &&& 31)) ^^^ (Int32.ofInt (-1)))))) := sC_wM (by omega) hS
      have f65 : fC 6 h0 (am_wI h 38 k ((s.2.2.2.1 k) ||| (x &&& (((Int32.ofInt 1) <<< ((nI k) &&& 31)) ^^^ (Int32.ofInt (-1)))))) := fC_w (by omega) hX
      generalize am_wI h 38 k ((s.2.2.2.1 k) ||| (x &&& (((Int32.ofInt 1) <<< ((nI k) &&& 31)) ^^^ (Int32.ofInt (-1))))) = h59 at f60 f61 f62 f63 f64 f65 ⊢
      refine am_goX 2 (show 2 < 3 ∧ pz_S 3 none am_r108 1 Q 2 [(2, .int ((nI k) + (Int32.ofInt 1))), (0, .ref 36), (1, .int x)] [] h59 from ⟨by decide, ?_⟩)
      rw [show d_108_2 x (m + 1) k s = d_108_2 x m (k + 1) (sSM s k ((s.2.2.2.1 k) ||| (x &&& (((Int32.ofInt 1) <<< ((nI k) &&& 31)) ^^^ (Int32.ofInt (-1)))))) from if_neg c58] at hZ
      rw [show (nI k) + (Int32.ofInt 1) = nI (k + 1) from (dn_a rfl rfl)]
      exact sv_S2 sv2_108 (by intro q hq; simp only [List.mem_cons, List.not_mem_nil, or_false] at hq; rcases hq with rfl | rfl | rfl <;> rfl) (ih (k + 1) (sSM s k ((s.2.2.2.1 k) ||| (x &&& (((Int32.ofInt 1) <<< ((nI k) &&& 31)) ^^^ (Int32.ofInt (-1)))))) _ (by omega) f60 f61 f62 f63 f64 f65 hZ)
def d_108_s (s : dS) (x : Int32) : dS := d_108_2 x 6 0 s
theorem d_108_t6_36 (hP : ex_P h) (hI : cI C) (hT : c_v 6 C h) (hD : c_d 6 C h) (hS : sC 36 s h) (hX : fC 6 h0 h)  (hQ : ∀ h1, (ex_P h1) → (cI C) → (c_v 6 C h1) → (c_d 6 C h1) → (sC 36 (d_108_s s x) h1) → (fC 6 h0 h1) → Q none h1) : am_call am_cod 2 108 [.ref 36, .int x] h Q := by
  have h6 := hT.1.2.1
  have h5 := hT.2.1.2.1
  refine pz_call (n := 108) (nL := 3) (rt := none) (rows := am_r108) (d := 1) (by decide +kernel) (by decide +kernel) rfl (by funext pc; rfl) (ex_175 hP) (by exact Nat.le_of_ble_eq_true rfl) ?_
  refine am_goX 2 (show 2 < 3 ∧ pz_S 3 none am_r108 1 Q 2 [(2, .int (Int32.ofInt 0)), (0, .ref 36), (1, .int x)] [] h from ⟨by decide, ?_⟩)
  refine sv_S2 sv2_108 (by intro q hq; simp only [List.mem_cons, List.not_mem_nil, or_false] at hq; rcases hq with rfl | rfl | rfl <;> rfl) (d_108_2_t6_36 6 0 s _ (by omega) hP hI hT hD hS hX (fun h66 f67 f68 f69 f70 f71 f72 => ?_))
  exact am_goX 1 (show (none : Option FieldType) = none ∧ h66.2.2.2.2 = 175 ∧ _ from ⟨rfl, ex_175 f67, hQ _ f67 f68 f69 f70 f71 f72⟩)
def d_100_21 (C : sp_C) : Nat → Nat → Int32 → dS → Int32 × dS
  | 0, _, a3, s => (a3, s)
  | m + 1, k, a3, s => (if (d_69 ((d_108_s s (s.2.2.2.2.2 k)).2.2.2.2.2 k)) < (dN C k) then (d_100_21 C m (k + 1) a3 (d_108_s s (s.2.2.2.2.2 k))) else (d_100_21 C m (k + 1) (a3 ||| ((Int32.ofInt 1) <<< ((nI k) &&& 31))) (sSH (d_108_s s (s.2.2.2.2.2 k)) k (((d_108_s s (s.2.2.2.2.2 k)).2.2.2.2.1 k) + (Int32.ofInt 1)))))
theorem d_100_21_t6_36 : ∀ (m k : Nat) (a3 : Int32) (s : dS) (h : am_H), k + m = dE C → (ex_P h) → (cI C) → (c_v 6 C h) → (c_d 6 C h) → (sC 36 s h) → (fC 6 h0 h) → (∀ h1, (ex_P h1) → (cI C) → (c_v 6 C h1) → (c_d 6 C h1) → (sC 36 ((d_100_21 C m k a3 s).2) h1) → (fC 6 h0 h1) → pz_S 5 (some .int) am_r100 5 Q 85 [(3, .int ((d_100_21 C m k a3 s).1))] [] h1) → pz_S 5 (some .int) am_r100 5 Q 21 [(0, .ref 6), (1, .ref 36), (3, .int a3), (4, .int (nI k))] [] h := by
  intro m
  induction m with
  | zero =>
    intro k a3 s h hk hP hI hT hD hS hX hZ
    have h6 := hT.1.2.1
    have h5 := hT.2.1.2.1
    refine am_goX 3 (show am_sh h 6 = some (0, 0) ∧ pz_S 5 (some .int) am_r100 5 Q 27 [(0, .ref 6), (1, .ref 36), (3, .int a3), (4, .int (nI k))] [.int (h.1 6 4), .int (nI k)] h from ⟨ex_6 hP, ?_⟩)
    rw [show h.1 6 4 = nI (dE C) from hT.2.1.1]
    refine am_goX 1 (show ((nI (dE C)) ≤ (nI k) → pz_S 5 (some .int) am_r100 5 Q 85 [(0, .ref 6), (1, .ref 36), (3, .int a3), (4, .int (nI k))] [] h) ∧ (¬ ((nI (dE C)) ≤ (nI k)) → pz_S 5 (some .int) am_r100 5 Q 30 [(0, .ref 6), (1, .ref 36), (3, .int a3), (4, .int (nI k))] [] h) from ⟨fun _ => ?_, fun hz => absurd (show nI (dE C) ≤ nI k from nI_le (by omega) (by omega)) hz⟩)
    exact sv_S2 sv2_100 (by intro q hq; simp only [List.mem_cons, List.not_mem_nil, or_false] at hq; rcases hq with rfl <;> rfl) (hZ _ hP hI hT hD hS hX)
  | succ m ih =>
    intro k a3 s h hk hP hI hT hD hS hX hZ
    have h6 := hT.1.2.1
    have h5 := hT.2.1.2.1
    refine am_goX 3 (show am_sh h 6 = some (0, 0) ∧ pz_S 5 (some .int) am_r100 5 Q 27 [(0, .ref 6), (1, .ref 36), (3, .int a3), (4, .int (nI k))] [.int (h.1 6 4), .int (nI k)] h from ⟨ex_6 hP, ?_⟩)
    rw [show h.1 6 4 = nI (dE C) from hT.2.1.1]
    refine am_goX 1 (show ((nI (dE C)) ≤ (nI k) → pz_S 5 (some .int) am_r100 5 Q 85 [(0, .ref 6), (1, .ref 36), (3, .int a3), (4, .int (nI k))] [] h) ∧ (¬ ((nI (dE C)) ≤ (nI k)) → pz_S 5 (some .int) am_r100 5 Q 30 [(0, .ref 6), (1, .ref 36), (3, .int a3), (4, .int (nI k))] [] h) from ⟨fun hz => absurd hz (show ¬ (nI (dE C) ≤ nI k) by rw [nI_leI (by omega) (by omega)]; omega), fun _ => ?_⟩)
    refine am_goX 3 (show am_sh h 36 = some (6, 0) ∧ pz_S 5 (some .int) am_r100 5 Q 35 [(0, .ref 6), (1, .ref 36), (3, .int a3), (4, .int (nI k))] [am_rf (h.2.2.1 36 5), .ref 36] h from ⟨ex_36 hP, ?_⟩)
    rw [show am_rf (h.2.2.1 36 5) = .ref 40 from congrArg am_rf (ex_r36_5 hP)]
    refine am_goX 2 (show ∃ jj nn : Nat, am_sh h 40 = some (13, nn) ∧ jj < nn ∧ nI k = nI jj ∧ pz_S 5 (some .int) am_r100 5 Q 38 [(0, .ref 6), (1, .ref 36), (3, .int a3), (4, .int (nI k))] [.int (h.1 40 jj), .ref 36] h from ⟨k, 5, ex_40 hP, (by omega), rfl, ?_⟩)
    rw [show h.1 40 k = s.2.2.2.2.2 k from (hS.2.2 k (by omega)).2]
    refine am_goX 1 (show am_rc h 36 6 ∧ 0 ≤ 8 ∧ h.2.2.2.2 + am_al 108 ≤ 175 ∧ am_call am_cod 5 108 [.ref 36, .int (s.2.2.2.2.2 k)] h (fun vv h' => pz_S 5 (some .int) am_r100 5 Q 41 [(0, .ref 6), (1, .ref 36), (3, .int a3), (4, .int (nI k))] (vv.toList ++ []) h') from ⟨Or.inl ⟨by decide, ex_36 hP⟩, by decide, ex_lim hP rfl, am_call.up (d_108_t6_36 hP hI hT hD hS hX (fun h87 f88 f89 f90 f91 f92 f93 => ?_)) (by decide)⟩)
    refine am_goX 2 (show am_sh h87 36 = some (6, 0) ∧ pz_S 5 (some .int) am_r100 5 Q 45 [(0, .ref 6), (1, .ref 36), (3, .int a3), (4, .int (nI k))] [am_rf (h87.2.2.1 36 5)] h87 from ⟨ex_36 f88, ?_⟩)
    rw [show am_rf (h87.2.2.1 36 5) = .ref 40 from congrArg am_rf (ex_r36_5 f88)]
    refine am_goX 2 (show ∃ jj nn : Nat, am_sh h87 40 = some (13, nn) ∧ jj < nn ∧ nI k = nI jj ∧ pz_S 5 (some .int) am_r100 5 Q 48 [(0, .ref 6), (1, .ref 36), (3, .int a3), (4, .int (nI k))] [.int (h87.1 40 jj)] h87 from ⟨k, 5, ex_40 f88, (by omega), rfl, ?_⟩)
    rw [show h87.1 40 k = (d_108_s s (s.2.2.2.2.2 k)).2.2.2.2.2 k from (f92.2.2 k (by omega)).2]
    refine am_goX 1 (show 0 ≤ 8 ∧ h87.2.2.2.2 + am_al 69 ≤ 175 ∧ am_call am_cod 5 69 [.int ((d_108_s s (s.2.2.2.2.2 k)).2.2.2.2.2 k)] h87 (fun vv h' => pz_S 5 (some .int) am_r100 5 Q 51 [(0, .ref 6), (1, .ref 36), (3, .int a3), (4, .int (nI k))] (vv.toList ++ []) h') from ⟨by decide, ex_lim f88 rfl, am_call.up (d_69_w f88 ?_) (by decide)⟩)
    refine am_goX 2 (show am_sh h87 6 = some (0, 0) ∧ pz_S 5 (some .int) am_r100 5 Q 55 [(0, .ref 6), (1, .ref 36), (3, .int a3), (4, .int (nI k))] [am_rf (h87.2.2.1 6 7), .int (d_69 ((d_108_s s (s.2.2.2.2.2 k)).2.2.2.2.2 k))] h87 from ⟨ex_6 f88, ?_⟩)
    rw [show am_rf (h87.2.2.1 6 7) = .ref 12 from congrArg am_rf (ex_r6_7 f88)]
    refine am_goX 2 (show ∃ jj nn : Nat, am_sh h87 12 = some (13, nn) ∧ jj < nn ∧ nI k = nI jj ∧ pz_S 5 (some .int) am_r100 5 Q 58 [(0, .ref 6), (1, .ref 36), (3, .int a3), (4, .int (nI k))] [.int (h87.1 12 jj), .int (d_69 ((d_108_s s (s.2.2.2.2.2 k)).2.2.2.2.2 k))] h87 from ⟨k, 5, ex_12 f88, (by omega), rfl, ?_⟩)
    rw [show h87.1 12 k = dN C k from (f90.2.1.2.2 k (by omega)).1]
    refine am_goX 1 (show ((d_69 ((d_108_s s (s.2.2.2.2.2 k)).2.2.2.2.2 k)) < (dN C k) → pz_S 5 (some .int) am_r100 5 Q 79 [(0, .ref 6), (1, .ref 36), (3, .int a3), (4, .int (nI k))] [] h87) ∧ (¬ ((d_69 ((d_108_s s (s.2.2.2.2.2 k)).2.2.2.2.2 k)) < (dN C k)) → pz_S 5 (some .int) am_r100 5 Q 61 [(0, .ref 6), (1, .ref 36), (3, .int a3), (4, .int (nI k))] [] h87) from ⟨fun c94 => ?_, fun c94 => ?_⟩)
    · refine am_goX 2 (show 4 < 5 ∧ pz_S 5 (some .int) am_r100 5 Q 21 [(4, .int ((nI k) + (Int32.ofInt 1))), (0, .ref 6), (1, .ref 36), (3, .int a3)] [] h87 from ⟨by decide, ?_⟩)
      rw [show d_100_21 C (m + 1) k a3 s = d_100_21 C m (k + 1) a3 (d_108_s s (s.2.2.2.2.2 k)) from if_pos c94] at hZ
      rw [show (nI k) + (Int32.ofInt 1) = nI (k + 1) from (dn_a rfl rfl)]
      exact sv_S2 sv2_100 (by intro q hq; simp only [List.mem_cons, List.not_mem_nil, or_false] at hq; rcases hq with rfl | rfl | rfl | rfl <;> rfl) (ih (k + 1) a3 (d_108_s s (s.2.2.2.2.2 k)) _ (by omega) f88 f89 f90 f91 f92 f93 hZ)
    · refine am_goX 2 (show am_sh h87 36 = some (6, 0) ∧ pz_S 5 (some .int) am_r100 5 Q 65 [(0, .ref 6), (1, .ref 36), (3, .int a3), (4, .int (nI k))] [am_rf (h87.2.2.1 36 4)] h87 from ⟨ex_36 f88, ?_⟩)
      rw [show am_rf (h87.2.2.1 36 4) = .ref 39 from congrArg am_rf (ex_r36_4 f88)]
      refine am_goX 3 (show (Value.int (nI k)).category = 1 ∧ (Value.ref 39).category = 1 ∧ ∃ jj nn : Nat, am_sh h87 39 = some (13, nn) ∧ jj < nn ∧ nI k = nI jj ∧ pz_S 5 (some .int) am_r100 5 Q 69 [(0, .ref 6), (1, .ref 36), (3, .int a3), (4, .int (nI k))] [.int (h87.1 39 jj), .int (nI k), .ref 39] h87 from ⟨rfl, rfl, ⟨k, 5, ex_39 f88, (by omega), rfl, ?_⟩⟩)
      rw [show h87.1 39 k = (d_108_s s (s.2.2.2.2.2 k)).2.2.2.2.1 k from (f92.2.2 k (by omega)).1]
      refine am_goX 3 (show ∃ jj nn : Nat, am_so h87 39 = some (13, nn) ∧ jj < nn ∧ nI k = nI jj ∧ pz_S 5 (some .int) am_r100 5 Q 72 [(0, .ref 6), (1, .ref 36), (3, .int a3), (4, .int (nI k))] [] (am_wI h87 39 jj (((d_108_s s (s.2.2.2.2.2 k)).2.2.2.2.1 k) + (Int32.ofInt 1))) from ⟨k, 5, ex_w39 f88, (by omega), rfl, ?_⟩)
      have f96 : ex_P (am_wI h87 39 k (((d_108_s s (s.2.2.2.2.2 k)).2.2.2.2.1 k) + (Int32.ofInt 1))) := f88
      have f97 : cI C := f89
      have f98 : c_v 6 C (am_wI h87 39 k (((d_108_s s (s.2.2.2.2.2 k)).2.2.2.2.1 k) + (Int32.ofInt 1))) := c_v_w (by omega) f90
      have f99 : c_d 6 C (am_wI h87 39 k (((d_108_s s (s.2.2.2.2.2 k)).2.2.2.2.1 k) + (Int32.ofInt 1))) := c_d_w (by omega) f91
      have f100 : sC 36 (sSH (d_108_s s (s.2.2.2.2.2 k)) k (((d_108_s s (s.2.2.2.2.2 k)).2.2.2.2.1 k) + (Int32.ofInt 1))) (am_wI h87 39 k (((d_108_s s (s.2.2.2.2.2 k)).2.2.2.2.1 k) + (Int32.ofInt 1))) := sC_wH (by omega) f92
      have f101 : fC 6 h0 (am_wI h87 39 k (((d_108_s s (s.2.2.2.2.2 k)).2.2.2.2.1 k) + (Int32.ofInt 1))) := fC_w (by omega) f93
      generalize am_wI h87 39 k (((d_108_s s (s.2.2.2.2.2 k)).2.2.2.2.1 k) + (Int32.ofInt 1)) = h95 at f96 f97 f98 f99 f100 f101 ⊢
      refine am_goX 8 (show 3 < 5 ∧ 4 < 5 ∧ pz_S 5 (some .int) am_r100 5 Q 21 [(4, .int ((nI k) + (Int32.ofInt 1))), (3, .int (a3 ||| ((Int32.ofInt 1) <<< ((nI k) &&& 31)))), (0, .ref 6), (1, .ref 36)] [] h95 from ⟨by decide, by decide, ?_⟩)
      rw [show d_100_21 C (m + 1) k a3 s = d_100_21 C m (k + 1) (a3 ||| ((Int32.ofInt 1) <<< ((nI k) &&& 31))) (sSH (d_108_s s (s.2.2.2.2.2 k)) k (((d_108_s s (s.2.2.2.2.2 k)).2.2.2.2.1 k) + (Int32.ofInt 1))) from if_neg c94] at hZ
      rw [show (nI k) + (Int32.ofInt 1) = nI (k + 1) from (dn_a rfl rfl)]
      exact sv_S2 sv2_100 (by intro q hq; simp only [List.mem_cons, List.not_mem_nil, or_false] at hq; rcases hq with rfl | rfl | rfl | rfl <;> rfl) (ih (k + 1) (a3 ||| ((Int32.ofInt 1) <<< ((nI k) &&& 31))) (sSH (d_108_s s (s.2.2.2.2.2 k)) k (((d_108_s s (s.2.2.2.2.2 k)).2.2.2.2.1 k) + (Int32.ofInt 1))) _ (by omega) f96 f97 f98 f99 f100 f101 hZ)
def d_100_s (C : sp_C) (s : dS) (w : Int32) : dS := (d_100_21 C (dE C) 0 (Int32.ofInt 0) (d_101_s C (sSD s (s.1 + (Int32.ofInt 1))) w)).2
def d_100 (C : sp_C) (s : dS) (w : Int32) : Int32 := (d_100_21 C (dE C) 0 (Int32.ofInt 0) (d_101_s C (sSD s (s.1 + (Int32.ofInt 1))) w)).1
theorem d_100_t6_36 (hP : ex_P h) (hI : cI C) (hT : c_v 6 C h) (hD : c_d 6 C h) (hS : sC 36 s h) (hX : fC 6 h0 h)  (hQ : ∀ h1, (ex_P h1) → (cI C) → (c_v 6 C h1) → (c_d 6 C h1) → (sC 36 (d_100_s C s w) h1) → (fC 6 h0 h1) → Q (some (.int (d_100 C s w))) h1) : am_call am_cod 6 100 [.ref 6, .ref 36, .int w] h Q := by
  have h6 := hT.1.2.1
  have h5 := hT.2.1.2.1
  refine pz_call (n := 100) (nL := 5) (rt := (some .int)) (rows := am_r100) (d := 5) (by decide +kernel) (by decide +kernel) rfl (by funext pc; rfl) (ex_175 hP) (by exact Nat.le_of_ble_eq_true rfl) ?_
  refine am_goX 3 (show (Value.ref 36).category = 1 ∧ am_sh h 36 = some (6, 0) ∧ pz_S 5 (some .int) am_r100 5 Q 5 [(0, .ref 6), (1, .ref 36), (2, .int w)] [.int (h.1 36 0), .ref 36] h from ⟨rfl, ex_36 hP, ?_⟩)
  rw [show h.1 36 0 = s.1 from hS.1.1]
  refine am_goX 3 (show am_sh h 36 = some (6, 0) ∧ narrow (am_fty 6 0) (.int (s.1 + (Int32.ofInt 1))) = .int (s.1 + (Int32.ofInt 1)) ∧ fits (am_fty 6 0) (.int (s.1 + (Int32.ofInt 1))) = true ∧ pz_S 5 (some .int) am_r100 5 Q 10 [(0, .ref 6), (1, .ref 36), (2, .int w)] [] (am_wI h 36 0 (s.1 + (Int32.ofInt 1))) from ⟨ex_36 hP, rfl, rfl, ?_⟩)
  have f74 : ex_P (am_wI h 36 0 (s.1 + (Int32.ofInt 1))) := hP
  have f75 : cI C := hI
  have f76 : c_v 6 C (am_wI h 36 0 (s.1 + (Int32.ofInt 1))) := c_v_w (by omega) hT
  have f77 : c_d 6 C (am_wI h 36 0 (s.1 + (Int32.ofInt 1))) := c_d_w (by omega) hD
  have f78 : sC 36 (sSD s (s.1 + (Int32.ofInt 1))) (am_wI h 36 0 (s.1 + (Int32.ofInt 1))) := sC_wD (by omega) hS
  have f79 : fC 6 h0 (am_wI h 36 0 (s.1 + (Int32.ofInt 1))) := fC_w (by omega) hX
  generalize am_wI h 36 0 (s.1 + (Int32.ofInt 1)) = h73 at f74 f75 f76 f77 f78 f79 ⊢
  refine am_goX 4 (show am_rc h73 6 0 ∧ 0 ≤ 8 ∧ h73.2.2.2.2 + am_al 101 ≤ 175 ∧ am_call am_cod 5 101 [.ref 6, .ref 36, .int w] h73 (fun vv h' => pz_S 5 (some .int) am_r100 5 Q 16 [(0, .ref 6), (1, .ref 36), (2, .int w)] (vv.toList ++ []) h') from ⟨Or.inl ⟨by decide, ex_6 f74⟩, by decide, ex_lim f74 rfl, am_call.up (d_101_t6_36 f74 f75 f76 f77 f78 f79 (fun h80 f81 f82 f83 f84 f85 f86 => ?_)) (by decide)⟩)
  refine am_goX 4 (show 3 < 5 ∧ 4 < 5 ∧ pz_S 5 (some .int) am_r100 5 Q 21 [(4, .int (Int32.ofInt 0)), (3, .int (Int32.ofInt 0)), (0, .ref 6), (1, .ref 36), (2, .int w)] [] h80 from ⟨by decide, by decide, ?_⟩)
  refine sv_S2 sv2_100 (by intro q hq; simp only [List.mem_cons, List.not_mem_nil, or_false] at hq; rcases hq with rfl | rfl | rfl | rfl <;> rfl) (d_100_21_t6_36 (dE C) 0 (Int32.ofInt 0) (d_101_s C (sSD s (s.1 + (Int32.ofInt 1))) w) _ (by omega) f81 f82 f83 f84 f85 f86 (fun h102 f103 f104 f105 f106 f107 f108 => ?_))
  exact am_goX 2 (show (∃ ty, (some .int) = some ty ∧ narrow ty (.int ((d_100_21 C (dE C) 0 (Int32.ofInt 0) (d_101_s C (sSD s (s.1 + (Int32.ofInt 1))) w)).1)) = .int ((d_100_21 C (dE C) 0 (Int32.ofInt 0) (d_101_s C (sSD s (s.1 + (Int32.ofInt 1))) w)).1)) ∧ h102.2.2.2.2 = 175 ∧ _ from ⟨⟨.int, rfl, rfl⟩, ex_175 f103, hQ _ f103 f104 f105 f106 f107 f108⟩)
theorem d_89_t6_41 (hP : ex_P h) (hI : cI C) (hT : c_v 6 C h) (hD : c_d 6 C h) (hR : h.2.2.1 0 3 = some 6) (hN : sC 36 u h) (hS : sC 41 s h) (hp : p < dP C) (hQ : Q (some (.int (d_89 C s p))) h) : am_call am_cod 1 89 [.ref 6, .int (nI p), .ref 41] h Q := by
  have h6 := hT.1.2.1
  have h5 := hT.2.1.2.1
  refine pz_call (n := 89) (nL := 3) (rt := (some .int)) (rows := am_r89) (d := 0) (by decide +kernel) (by decide +kernel) rfl (by funext pc; rfl) (ex_175 hP) (by exact Nat.le_of_ble_eq_true rfl) ?_
  refine am_goX 2 (show am_sh h 6 = some (0, 0) ∧ pz_S 3 (some .int) am_r89 0 Q 4 [(0, .ref 6), (1, .int (nI p)), (2, .ref 41)] [am_rf (h.2.2.1 6 2)] h from ⟨ex_6 hP, ?_⟩)
  rw [show am_rf (h.2.2.1 6 2) = .ref 8 from congrArg am_rf (ex_r6_2 hP)]
  refine am_goX 2 (show ∃ jj nn : Nat, am_sh h 8 = some (13, nn) ∧ jj < nn ∧ nI p = nI jj ∧ pz_S 3 (some .int) am_r89 0 Q 6 [(0, .ref 6), (1, .int (nI p)), (2, .ref 41)] [.int (h.1 8 jj)] h from ⟨p, 6, ex_8 hP, (by omega), rfl, ?_⟩)
  rw [show h.1 8 p = dK C p from (hT.1.2.2 p (by omega)).1]
  suffices key : ∀ (v110 : Int32), v110 = (if ¬ (dK C p) = (Int32.ofInt 3) then (s.2.2.1 p) - (Int32.ofInt 2) else Int32.ofInt 0) → pz_S 3 (some .int) am_r89 0 Q 22 [] [.int v110] h by
    refine am_goX 2 (show (¬ (dK C p) = (Int32.ofInt 3) → pz_S 3 (some .int) am_r89 0 Q 14 [(0, .ref 6), (1, .int (nI p)), (2, .ref 41)] [] h) ∧ (¬ ¬ (dK C p) = (Int32.ofInt 3) → pz_S 3 (some .int) am_r89 0 Q 10 [(0, .ref 6), (1, .int (nI p)), (2, .ref 41)] [] h) from ⟨fun c109 => ?_, fun c109 => ?_⟩)
    · refine am_goX 2 (show am_sh h 41 = some (6, 0) ∧ pz_S 3 (some .int) am_r89 0 Q 18 [(0, .ref 6), (1, .int (nI p)), (2, .ref 41)] [am_rf (h.2.2.1 41 2)] h from ⟨ex_41 hP, ?_⟩)
      rw [show am_rf (h.2.2.1 41 2) = .ref 42 from congrArg am_rf (ex_r41_2 hP)]
      refine am_goX 2 (show ∃ jj nn : Nat, am_sh h 42 = some (13, nn) ∧ jj < nn ∧ nI p = nI jj ∧ pz_S 3 (some .int) am_r89 0 Q 20 [(0, .ref 6), (1, .int (nI p)), (2, .ref 41)] [.int (h.1 42 jj)] h from ⟨p, 6, ex_42 hP, (by omega), rfl, ?_⟩)
      rw [show h.1 42 p = s.2.2.1 p from (hS.2.1 p (by omega)).1]
      refine am_goX 2 (show pz_S 3 (some .int) am_r89 0 Q 22 [(0, .ref 6), (1, .int (nI p)), (2, .ref 41)] [.int ((s.2.2.1 p) - (Int32.ofInt 2))] h from ?_)
      exact sv_S2 sv2_89 (fun q hq => absurd hq List.not_mem_nil) (key _ (if_pos c109).symm)
    · refine am_goX 2 (show pz_S 3 (some .int) am_r89 0 Q 22 [(0, .ref 6), (1, .int (nI p)), (2, .ref 41)] [.int (Int32.ofInt 0)] h from ?_)
      exact sv_S2 sv2_89 (fun q hq => absurd hq List.not_mem_nil) (key _ (if_neg c109).symm)
  intro v110 e111
  subst e111
  exact am_goX 1 (show (∃ ty, (some .int) = some ty ∧ narrow ty (.int (if ¬ (dK C p) = (Int32.ofInt 3) then (s.2.2.1 p) - (Int32.ofInt 2) else Int32.ofInt 0)) = .int (if ¬ (dK C p) = (Int32.ofInt 3) then (s.2.2.1 p) - (Int32.ofInt 2) else Int32.ofInt 0)) ∧ h.2.2.2.2 = 175 ∧ _ from ⟨⟨.int, rfl, rfl⟩, ex_175 hP, hQ⟩)
theorem d_88_t6_41 (hP : ex_P h) (hI : cI C) (hT : c_v 6 C h) (hD : c_d 6 C h) (hR : h.2.2.1 0 3 = some 6) (hN : sC 36 u h) (hS : sC 41 s h) (hp : p < dP C) (hQ : Q (some (.int (d_88 C s p w))) h) : am_call am_cod 2 88 [.ref 6, .int (nI p), .ref 41, .int w] h Q := by
  have h6 := hT.1.2.1
  have h5 := hT.2.1.2.1
  refine pz_call (n := 88) (nL := 5) (rt := (some .int)) (rows := am_r88) (d := 1) (by decide +kernel) (by decide +kernel) rfl (by funext pc; rfl) (ex_175 hP) (by exact Nat.le_of_ble_eq_true rfl) ?_
  suffices key : ∀ (v113 : Int32), v113 = (if w = 0 then d_89 C s p else Int32.ofInt 0) → pz_S 5 (some .int) am_r88 1 Q 14 [(2, .ref 41)] [.int v113] h by
    refine am_goX 2 (show (w = 0 → pz_S 5 (some .int) am_r88 1 Q 8 [(0, .ref 6), (1, .int (nI p)), (2, .ref 41), (3, .int w)] [] h) ∧ (¬ (w = 0) → pz_S 5 (some .int) am_r88 1 Q 4 [(0, .ref 6), (1, .int (nI p)), (2, .ref 41), (3, .int w)] [] h) from ⟨fun c112 => ?_, fun c112 => ?_⟩)
    · refine am_goX 4 (show am_rc h 6 0 ∧ 0 ≤ 8 ∧ h.2.2.2.2 + am_al 89 ≤ 175 ∧ am_call am_cod 1 89 [.ref 6, .int (nI p), .ref 41] h (fun vv h' => pz_S 5 (some .int) am_r88 1 Q 14 [(0, .ref 6), (1, .int (nI p)), (2, .ref 41), (3, .int w)] (vv.toList ++ []) h') from ⟨Or.inl ⟨by decide, ex_6 hP⟩, by decide, ex_lim hP rfl, am_call.up (d_89_t6_41 hP hI hT hD hR hN hS (by omega) ?_) (by decide)⟩)
      exact sv_S2 sv2_88 (by intro q hq; simp only [List.mem_cons, List.not_mem_nil, or_false] at hq; rcases hq with rfl <;> rfl) (key _ (if_pos c112).symm)
    · refine am_goX 2 (show pz_S 5 (some .int) am_r88 1 Q 14 [(0, .ref 6), (1, .int (nI p)), (2, .ref 41), (3, .int w)] [.int (Int32.ofInt 0)] h from ?_)
      exact sv_S2 sv2_88 (by intro q hq; simp only [List.mem_cons, List.not_mem_nil, or_false] at hq; rcases hq with rfl <;> rfl) (key _ (if_neg c112).symm)
  intro v113 e114
  subst e114
  refine am_goX 3 (show 4 < 5 ∧ am_sh h 41 = some (6, 0) ∧ pz_S 5 (some .int) am_r88 1 Q 20 [(4, .int (if w = 0 then d_89 C s p else Int32.ofInt 0)), (2, .ref 41)] [.int (h.1 41 0)] h from ⟨by decide, ex_41 hP, ?_⟩)
  rw [show h.1 41 0 = s.1 from hS.1.1]
  refine am_goX 4 (show 0 ≤ 8 ∧ h.2.2.2.2 + am_al 90 ≤ 175 ∧ am_call am_cod 1 90 [.int (s.1 + (if w = 0 then d_89 C s p else Int32.ofInt 0)), .int ((Int8.ofInt 7).toInt32)] h (fun vv h' => pz_S 5 (some .int) am_r88 1 Q 28 [(4, .int (if w = 0 then d_89 C s p else Int32.ofInt 0)), (2, .ref 41)] (vv.toList ++ []) h') from ⟨by decide, ex_lim hP rfl, am_call.up (d_90_w hP ?_) (by decide)⟩)
  exact am_goX 1 (show (∃ ty, (some .int) = some ty ∧ narrow ty (.int (d_90 (s.1 + (if w = 0 then d_89 C s p else Int32.ofInt 0)))) = .int (d_90 (s.1 + (if w = 0 then d_89 C s p else Int32.ofInt 0)))) ∧ h.2.2.2.2 = 175 ∧ _ from ⟨⟨.int, rfl, rfl⟩, ex_175 hP, hQ⟩)
theorem d_104_t6_41 (hP : ex_P h) (hI : cI C) (hT : c_v 6 C h) (hD : c_d 6 C h) (hR : h.2.2.1 0 3 = some 6) (hN : sC 36 u h) (hS : sC 41 s h) (hp : p < dP C) (hQ : ∀ h1, (ex_P h1) → (cI C) → (c_v 6 C h1) → (c_d 6 C h1) → (h1.2.2.1 0 3 = some 6) → (sC 36 u h1) → (sC 41 s h1) → Q (some (.int (d_104 C s p w))) h1) : am_call am_cod 4 104 [.ref 6, .int (nI p), .ref 41, .int w] h Q := by
  have h6 := hT.1.2.1
  have h5 := hT.2.1.2.1
  refine pz_call (n := 104) (nL := 5) (rt := (some .boolean)) (rows := am_r104) (d := 3) (by decide +kernel) (by decide +kernel) rfl (by funext pc; rfl) (ex_175 hP) (by exact Nat.le_of_ble_eq_true rfl) ?_
  refine am_goX 2 (show am_sh h 41 = some (6, 0) ∧ pz_S 5 (some .boolean) am_r104 3 Q 4 [(0, .ref 6), (1, .int (nI p)), (2, .ref 41), (3, .int w)] [am_rf (h.2.2.1 41 3)] h from ⟨ex_41 hP, ?_⟩)
  rw [show am_rf (h.2.2.1 41 3) = .ref 43 from congrArg am_rf (ex_r41_3 hP)]
  refine am_goX 2 (show ∃ jj nn : Nat, am_sh h 43 = some (13, nn) ∧ jj < nn ∧ nI p = nI jj ∧ pz_S 5 (some .boolean) am_r104 3 Q 6 [(0, .ref 6), (1, .int (nI p)), (2, .ref 41), (3, .int w)] [.int (h.1 43 jj)] h from ⟨p, 6, ex_43 hP, (by omega), rfl, ?_⟩)
  rw [show h.1 43 p = s.2.2.2.1 p from (hS.2.1 p (by omega)).2]
  refine am_goX 1 (show 0 ≤ 8 ∧ h.2.2.2.2 + am_al 69 ≤ 175 ∧ am_call am_cod 3 69 [.int (s.2.2.2.1 p)] h (fun vv h' => pz_S 5 (some .boolean) am_r104 3 Q 9 [(0, .ref 6), (1, .int (nI p)), (2, .ref 41), (3, .int w)] (vv.toList ++ []) h') from ⟨by decide, ex_lim hP rfl, am_call.up (d_69_w hP ?_) (by decide)⟩)
  refine am_goX 3 (show 4 < 5 ∧ am_sh h 6 = some (0, 0) ∧ pz_S 5 (some .boolean) am_r104 3 Q 15 [(4, .int (d_69 (s.2.2.2.1 p))), (0, .ref 6), (1, .int (nI p)), (2, .ref 41), (3, .int w)] [am_rf (h.2.2.1 6 12)] h from ⟨by decide, ex_6 hP, ?_⟩)
  rw [show am_rf (h.2.2.1 6 12) = .ref 14 from congrArg am_rf (ex_r6_12 hP)]
  refine am_goX 4 (show am_rc h 6 0 ∧ 1 ≤ 8 ∧ h.2.2.2.2 + am_al 89 ≤ 175 ∧ am_call am_cod 3 89 [.ref 6, .int (nI p), .ref 41] h (fun vv h' => pz_S 5 (some .boolean) am_r104 3 Q 21 [(4, .int (d_69 (s.2.2.2.1 p))), (0, .ref 6), (1, .int (nI p)), (2, .ref 41), (3, .int w)] (vv.toList ++ [.ref 14]) h') from ⟨Or.inl ⟨by decide, ex_6 hP⟩, by decide, ex_lim hP rfl, am_call.up (d_89_t6_41 hP hI hT hD hR hN hS (by omega) ?_) (by decide)⟩)
  refine am_goX 2 (show am_sh h 41 = some (6, 0) ∧ pz_S 5 (some .boolean) am_r104 3 Q 25 [(4, .int (d_69 (s.2.2.2.1 p))), (0, .ref 6), (1, .int (nI p)), (2, .ref 41), (3, .int w)] [.int (h.1 41 0), .int (d_89 C s p), .ref 14] h from ⟨ex_41 hP, ?_⟩)
  rw [show h.1 41 0 = s.1 from hS.1.1]
  suffices key : ∀ (v116 : Int32), v116 = (if w = 0 then Int32.ofInt 0 else Int32.ofInt 1) → pz_S 5 (some .boolean) am_r104 3 Q 39 [] [.int v116, .int (d_69 (s.2.2.2.1 p)), .int (s.1 / ((Int8.ofInt 7).toInt32)), .int (d_89 C s p), .ref 14] h by
    refine am_goX 5 (show ¬ ((Int8.ofInt 7).toInt32) = 0 ∧ (w = 0 → pz_S 5 (some .boolean) am_r104 3 Q 38 [(4, .int (d_69 (s.2.2.2.1 p))), (0, .ref 6), (1, .int (nI p)), (2, .ref 41), (3, .int w)] [.int (d_69 (s.2.2.2.1 p)), .int (s.1 / ((Int8.ofInt 7).toInt32)), .int (d_89 C s p), .ref 14] h) ∧ (¬ (w = 0) → pz_S 5 (some .boolean) am_r104 3 Q 34 [(4, .int (d_69 (s.2.2.2.1 p))), (0, .ref 6), (1, .int (nI p)), (2, .ref 41), (3, .int w)] [.int (d_69 (s.2.2.2.1 p)), .int (s.1 / ((Int8.ofInt 7).toInt32)), .int (d_89 C s p), .ref 14] h) from ⟨by decide, fun c115 => ?_, fun c115 => ?_⟩)
    · refine am_goX 1 (show pz_S 5 (some .boolean) am_r104 3 Q 39 [(4, .int (d_69 (s.2.2.2.1 p))), (0, .ref 6), (1, .int (nI p)), (2, .ref 41), (3, .int w)] [.int (Int32.ofInt 0), .int (d_69 (s.2.2.2.1 p)), .int (s.1 / ((Int8.ofInt 7).toInt32)), .int (d_89 C s p), .ref 14] h from ?_)
      exact sv_S2 sv2_104 (fun q hq => absurd hq List.not_mem_nil) (key _ (if_pos c115).symm)
    · refine am_goX 2 (show pz_S 5 (some .boolean) am_r104 3 Q 39 [(4, .int (d_69 (s.2.2.2.1 p))), (0, .ref 6), (1, .int (nI p)), (2, .ref 41), (3, .int w)] [.int (Int32.ofInt 1), .int (d_69 (s.2.2.2.1 p)), .int (s.1 / ((Int8.ofInt 7).toInt32)), .int (d_89 C s p), .ref 14] h from ?_)
      exact sv_S2 sv2_104 (fun q hq => absurd hq List.not_mem_nil) (key _ (if_neg c115).symm)
  intro v116 e117
  subst e117
  refine am_goX 1 (show am_rc h 14 3 ∧ 0 ≤ 8 ∧ h.2.2.2.2 + am_al 105 ≤ 175 ∧ am_call am_cod 3 105 [.ref 14, .int (d_89 C s p), .int (s.1 / ((Int8.ofInt 7).toInt32)), .int (d_69 (s.2.2.2.1 p)), .int (if w = 0 then Int32.ofInt 0 else Int32.ofInt 1)] h (fun vv h' => pz_S 5 (some .boolean) am_r104 3 Q 42 [] (vv.toList ++ []) h') from ⟨Or.inl ⟨by decide, ex_14 hP⟩, by decide, ex_lim hP rfl, am_call.up (q_105_6 hP hT (fun h118 l119 => ?_)) (by decide)⟩)
  have f120 : ex_P h118 := lfr_P l119 hP
  have f121 : cI C := hI
  have f122 : c_v 6 C h118 := lfr_c l119 (by omega) hT
  have f123 : c_d 6 C h118 := lfr_d l119 (by omega) hD
  have f124 : h118.2.2.1 0 3 = some 6 := (congrArg (fun q => q.2.1 0 3) l119.1).trans hR
  have f125 : sC 36 u h118 := lfr_s l119 (by omega) hN
  have f126 : sC 41 s h118 := lfr_s l119 (by omega) hS
  suffices key : ∀ (v128 : Int32), v128 = (if (dlaw C (d_89 C s p) (s.1 / ((Int8.ofInt 7).toInt32)) (d_69 (s.2.2.2.1 p)) (if w = 0 then Int32.ofInt 0 else Int32.ofInt 1)) = 0 then Int32.ofInt 0 else Int32.ofInt 1) → pz_S 5 (some .boolean) am_r104 3 Q 50 [] [.int v128] h118 by
    refine am_goX 1 (show ((dlaw C (d_89 C s p) (s.1 / ((Int8.ofInt 7).toInt32)) (d_69 (s.2.2.2.1 p)) (if w = 0 then Int32.ofInt 0 else Int32.ofInt 1)) = 0 → pz_S 5 (some .boolean) am_r104 3 Q 49 [] [] h118) ∧ (¬ ((dlaw C (d_89 C s p) (s.1 / ((Int8.ofInt 7).toInt32)) (d_69 (s.2.2.2.1 p)) (if w = 0 then Int32.ofInt 0 else Int32.ofInt 1)) = 0) → pz_S 5 (some .boolean) am_r104 3 Q 45 [] [] h118) from ⟨fun c127 => ?_, fun c127 => ?_⟩)
    · refine am_goX 1 (show pz_S 5 (some .boolean) am_r104 3 Q 50 [] [.int (Int32.ofInt 0)] h118 from ?_)
      exact sv_S2 sv2_104 (fun q hq => absurd hq List.not_mem_nil) (key _ (if_pos c127).symm)
    · refine am_goX 2 (show pz_S 5 (some .boolean) am_r104 3 Q 50 [] [.int (Int32.ofInt 1)] h118 from ?_)
      exact sv_S2 sv2_104 (fun q hq => absurd hq List.not_mem_nil) (key _ (if_neg c127).symm)
  intro v128 e129
  subst e129
  exact am_goX 1 (show (∃ ty, (some .boolean) = some ty ∧ narrow ty (.int (if (dlaw C (d_89 C s p) (s.1 / ((Int8.ofInt 7).toInt32)) (d_69 (s.2.2.2.1 p)) (if w = 0 then Int32.ofInt 0 else Int32.ofInt 1)) = 0 then Int32.ofInt 0 else Int32.ofInt 1)) = .int (if (dlaw C (d_89 C s p) (s.1 / ((Int8.ofInt 7).toInt32)) (d_69 (s.2.2.2.1 p)) (if w = 0 then Int32.ofInt 0 else Int32.ofInt 1)) = 0 then Int32.ofInt 0 else Int32.ofInt 1)) ∧ h118.2.2.2.2 = 175 ∧ _ from ⟨⟨.boolean, rfl, (by (repeat' split) <;> rfl)⟩, ex_175 f120, hQ _ f120 f121 f122 f123 f124 f125 f126⟩)
theorem d_101_2_t6_41 : ∀ (m k : Nat) (s : dS) (h : am_H), k + m = dE C → (ex_P h) → (cI C) → (c_v 6 C h) → (c_d 6 C h) → (h.2.2.1 0 3 = some 6) → (sC 36 u h) → (sC 41 s h) → (∀ h1, (ex_P h1) → (cI C) → (c_v 6 C h1) → (c_d 6 C h1) → (h1.2.2.1 0 3 = some 6) → (sC 36 u h1) → (sC 41 (d_101_2 C w m k s) h1) → pz_S 6 none am_r101 4 Q 23 [(0, .ref 6), (1, .ref 41), (2, .int w)] [] h1) → pz_S 6 none am_r101 4 Q 2 [(0, .ref 6), (1, .ref 41), (2, .int w), (3, .int (nI k))] [] h := by
  intro m
  induction m with
  | zero =>
    intro k s h hk hP hI hT hD hR hN hS hZ
    have h6 := hT.1.2.1
    have h5 := hT.2.1.2.1
    refine am_goX 3 (show am_sh h 6 = some (0, 0) ∧ pz_S 6 none am_r101 4 Q 7 [(0, .ref 6), (1, .ref 41), (2, .int w), (3, .int (nI k))] [.int (h.1 6 4), .int (nI k)] h from ⟨ex_6 hP, ?_⟩)
    rw [show h.1 6 4 = nI (dE C) from hT.2.1.1]
    refine am_goX 1 (show ((nI (dE C)) ≤ (nI k) → pz_S 6 none am_r101 4 Q 23 [(0, .ref 6), (1, .ref 41), (2, .int w), (3, .int (nI k))] [] h) ∧ (¬ ((nI (dE C)) ≤ (nI k)) → pz_S 6 none am_r101 4 Q 10 [(0, .ref 6), (1, .ref 41), (2, .int w), (3, .int (nI k))] [] h) from ⟨fun _ => ?_, fun hz => absurd (show nI (dE C) ≤ nI k from nI_le (by omega) (by omega)) hz⟩)
    exact sv_S2 sv2_101 (by intro q hq; simp only [List.mem_cons, List.not_mem_nil, or_false] at hq; rcases hq with rfl | rfl | rfl <;> rfl) (hZ _ hP hI hT hD hR hN hS)
  | succ m ih =>
    intro k s h hk hP hI hT hD hR hN hS hZ
    have h6 := hT.1.2.1
    have h5 := hT.2.1.2.1
    refine am_goX 3 (show am_sh h 6 = some (0, 0) ∧ pz_S 6 none am_r101 4 Q 7 [(0, .ref 6), (1, .ref 41), (2, .int w), (3, .int (nI k))] [.int (h.1 6 4), .int (nI k)] h from ⟨ex_6 hP, ?_⟩)
    rw [show h.1 6 4 = nI (dE C) from hT.2.1.1]
    refine am_goX 1 (show ((nI (dE C)) ≤ (nI k) → pz_S 6 none am_r101 4 Q 23 [(0, .ref 6), (1, .ref 41), (2, .int w), (3, .int (nI k))] [] h) ∧ (¬ ((nI (dE C)) ≤ (nI k)) → pz_S 6 none am_r101 4 Q 10 [(0, .ref 6), (1, .ref 41), (2, .int w), (3, .int (nI k))] [] h) from ⟨fun hz => absurd hz (show ¬ (nI (dE C) ≤ nI k) by rw [nI_leI (by omega) (by omega)]; omega), fun _ => ?_⟩)
    refine am_goX 2 (show am_sh h 41 = some (6, 0) ∧ pz_S 6 none am_r101 4 Q 14 [(0, .ref 6), (1, .ref 41), (2, .int w), (3, .int (nI k))] [am_rf (h.2.2.1 41 5)] h from ⟨ex_41 hP, ?_⟩)
    rw [show am_rf (h.2.2.1 41 5) = .ref 45 from congrArg am_rf (ex_r41_5 hP)]
    refine am_goX 3 (show ∃ jj nn : Nat, am_so h 45 = some (13, nn) ∧ jj < nn ∧ nI k = nI jj ∧ pz_S 6 none am_r101 4 Q 17 [(0, .ref 6), (1, .ref 41), (2, .int w), (3, .int (nI k))] [] (am_wI h 45 jj (Int32.ofInt 0)) from ⟨k, 5, ex_w45 hP, (by omega), rfl, ?_⟩)
    have f131 : ex_P (am_wI h 45 k (Int32.ofInt 0)) := hP
    have f132 : cI C := hI
    have f133 : c_v 6 C (am_wI h 45 k (Int32.ofInt 0)) := c_v_w (by omega) hT
    have f134 : c_d 6 C (am_wI h 45 k (Int32.ofInt 0)) := c_d_w (by omega) hD
    have f135 : (am_wI h 45 k (Int32.ofInt 0)).2.2.1 0 3 = some 6 := hR
    have f136 : sC 36 u (am_wI h 45 k (Int32.ofInt 0)) := sC_w (by omega) hN
    have f137 : sC 41 (sSA s k (Int32.ofInt 0)) (am_wI h 45 k (Int32.ofInt 0)) := sC_wA (by omega) hS
    generalize am_wI h 45 k (Int32.ofInt 0) = h130 at f131 f132 f133 f134 f135 f136 f137 ⊢
    refine am_goX 2 (show 3 < 6 ∧ pz_S 6 none am_r101 4 Q 2 [(3, .int ((nI k) + (Int32.ofInt 1))), (0, .ref 6), (1, .ref 41), (2, .int w)] [] h130 from ⟨by decide, ?_⟩)
    rw [show (nI k) + (Int32.ofInt 1) = nI (k + 1) from (dn_a rfl rfl)]
    exact sv_S2 sv2_101 (by intro q hq; simp only [List.mem_cons, List.not_mem_nil, or_false] at hq; rcases hq with rfl | rfl | rfl | rfl <;> rfl) (ih (k + 1) (sSA s k (Int32.ofInt 0)) _ (by omega) f131 f132 f133 f134 f135 f136 f137 hZ)
theorem d_101_65_t6_41 (n3 : Nat) (x4 : Int32) : ∀ (m k : Nat) (s : dS) (h : am_H), k + m = dE C → (ex_P h) → (cI C) → (c_v 6 C h) → (c_d 6 C h) → (h.2.2.1 0 3 = some 6) → (sC 36 u h) → (sC 41 s h) → (∀ h1, (ex_P h1) → (cI C) → (c_v 6 C h1) → (c_d 6 C h1) → (h1.2.2.1 0 3 = some 6) → (sC 36 u h1) → (sC 41 (d_101_65 C w n3 x4 m k s) h1) → pz_S 6 none am_r101 4 Q 99 [(0, .ref 6), (1, .ref 41), (2, .int w), (3, .int (nI n3))] [] h1) → pz_S 6 none am_r101 4 Q 65 [(0, .ref 6), (1, .ref 41), (2, .int w), (3, .int (nI n3)), (4, .int x4), (5, .int (nI k))] [] h := by
  intro m
  induction m with
  | zero =>
    intro k s h hk hP hI hT hD hR hN hS hZ
    have h6 := hT.1.2.1
    have h5 := hT.2.1.2.1
    refine am_goX 3 (show am_sh h 6 = some (0, 0) ∧ pz_S 6 none am_r101 4 Q 71 [(0, .ref 6), (1, .ref 41), (2, .int w), (3, .int (nI n3)), (4, .int x4), (5, .int (nI k))] [.int (h.1 6 4), .int (nI k)] h from ⟨ex_6 hP, ?_⟩)
    rw [show h.1 6 4 = nI (dE C) from hT.2.1.1]
    refine am_goX 1 (show ((nI (dE C)) ≤ (nI k) → pz_S 6 none am_r101 4 Q 99 [(0, .ref 6), (1, .ref 41), (2, .int w), (3, .int (nI n3)), (4, .int x4), (5, .int (nI k))] [] h) ∧ (¬ ((nI (dE C)) ≤ (nI k)) → pz_S 6 none am_r101 4 Q 74 [(0, .ref 6), (1, .ref 41), (2, .int w), (3, .int (nI n3)), (4, .int x4), (5, .int (nI k))] [] h) from ⟨fun _ => ?_, fun hz => absurd (show nI (dE C) ≤ nI k from nI_le (by omega) (by omega)) hz⟩)
    exact sv_S2 sv2_101 (by intro q hq; simp only [List.mem_cons, List.not_mem_nil, or_false] at hq; rcases hq with rfl | rfl | rfl | rfl <;> rfl) (hZ _ hP hI hT hD hR hN hS)
  | succ m ih =>
    intro k s h hk hP hI hT hD hR hN hS hZ
    have h6 := hT.1.2.1
    have h5 := hT.2.1.2.1
    refine am_goX 3 (show am_sh h 6 = some (0, 0) ∧ pz_S 6 none am_r101 4 Q 71 [(0, .ref 6), (1, .ref 41), (2, .int w), (3, .int (nI n3)), (4, .int x4), (5, .int (nI k))] [.int (h.1 6 4), .int (nI k)] h from ⟨ex_6 hP, ?_⟩)
    rw [show h.1 6 4 = nI (dE C) from hT.2.1.1]
    refine am_goX 1 (show ((nI (dE C)) ≤ (nI k) → pz_S 6 none am_r101 4 Q 99 [(0, .ref 6), (1, .ref 41), (2, .int w), (3, .int (nI n3)), (4, .int x4), (5, .int (nI k))] [] h) ∧ (¬ ((nI (dE C)) ≤ (nI k)) → pz_S 6 none am_r101 4 Q 74 [(0, .ref 6), (1, .ref 41), (2, .int w), (3, .int (nI n3)), (4, .int x4), (5, .int (nI k))] [] h) from ⟨fun hz => absurd hz (show ¬ (nI (dE C) ≤ nI k) by rw [nI_leI (by omega) (by omega)]; omega), fun _ => ?_⟩)
    refine am_goX 2 (show am_sh h 41 = some (6, 0) ∧ pz_S 6 none am_r101 4 Q 78 [(0, .ref 6), (1, .ref 41), (2, .int w), (3, .int (nI n3)), (4, .int x4), (5, .int (nI k))] [am_rf (h.2.2.1 41 5)] h from ⟨ex_41 hP, ?_⟩)
    rw [show am_rf (h.2.2.1 41 5) = .ref 45 from congrArg am_rf (ex_r41_5 hP)]
    refine am_goX 3 (show (Value.int (nI k)).category = 1 ∧ (Value.ref 45).category = 1 ∧ ∃ jj nn : Nat, am_sh h 45 = some (13, nn) ∧ jj < nn ∧ nI k = nI jj ∧ pz_S 6 none am_r101 4 Q 82 [(0, .ref 6), (1, .ref 41), (2, .int w), (3, .int (nI n3)), (4, .int x4), (5, .int (nI k))] [.int (h.1 45 jj), .int (nI k), .ref 45] h from ⟨rfl, rfl, ⟨k, 5, ex_45 hP, (by omega), rfl, ?_⟩⟩)
    rw [show h.1 45 k = s.2.2.2.2.2 k from (hS.2.2 k (by omega)).2]
    refine am_goX 9 (show ∃ jj nn : Nat, am_so h 45 = some (13, nn) ∧ jj < nn ∧ nI k = nI jj ∧ pz_S 6 none am_r101 4 Q 93 [(0, .ref 6), (1, .ref 41), (2, .int w), (3, .int (nI n3)), (4, .int x4), (5, .int (nI k))] [] (am_wI h 45 jj ((s.2.2.2.2.2 k) ||| (((x4 >>> ((nI k) &&& 31)) &&& (Int32.ofInt 1)) <<< ((nI n3) &&& 31)))) from ⟨k, 5, ex_w45 hP, (by omega), rfl, ?_⟩)
    have f157 : ex_P (am_wI h 45 k ((s.2.2.2.2.2 k) ||| (((x4 >>> ((nI k) &&& 31)) &&& (Int32.ofInt 1)) <<< ((nI n3) &&& 31)))) := hP
    have f158 : cI C := hI
    have f159 : c_v 6 C (am_wI h 45 k ((s.2.2.2.2.2 k) ||| (((x4 >>> ((nI k) &&& 31)) &&& (Int32.ofInt 1)) <<< ((nI n3) &&& 31)))) := c_v_w (by omega) hT
    have f160 : c_d 6 C (am_wI h 45 k ((s.2.2.2.2.2 k) ||| (((x4 >>> ((nI k) &&& 31)) &&& (Int32.ofInt 1)) <<< ((nI n3) &&& 31)))) := c_d_w (by omega) hD
    have f161 : (am_wI h 45 k ((s.2.2.2.2.2 k) ||| (((x4 >>> ((nI k) &&& 31)) &&& (Int32.ofInt 1)) <<< ((nI n3) &&& 31)))).2.2.1 0 3 = some 6 := hR
    have f162 : sC 36 u (am_wI h 45 k ((s.2.2.2.2.2 k) ||| (((x4 >>> ((nI k) &&& 31)) &&& (Int32.ofInt 1)) <<< ((nI n3) &&& 31)))) := sC_w (by omega) hN
    have f163 : sC 41 (sSA s k ((s.2.2.2.2.2 k) ||| (((x4 >>> ((nI k) &&& 31)) &&& (Int32.ofInt 1)) <<< ((nI n3) &&& 31)))) (am_wI h 45 k ((s.2.2.2.2.2 k) ||| (((x4 >>> ((nI k) &&& 31)) &&& (Int32.ofInt 1)) <<< ((nI n3) &&& 31)))) := sC_wA (by omega) hS
    generalize am_wI h 45 k ((s.2.2.2.2.2 k) ||| (((x4 >>> ((nI k) &&& 31)) &&& (Int32.ofInt 1)) <<< ((nI n3) &&& 31))) = h156 at f157 f158 f159 f160 f161 f162 f163 ⊢
    refine am_goX 2 (show 5 < 6 ∧ pz_S 6 none am_r101 4 Q 65 [(5, .int ((nI k) + (Int32.ofInt 1))), (0, .ref 6), (1, .ref 41), (2, .int w), (3, .int (nI n3)), (4, .int x4)] [] h156 from ⟨by decide, ?_⟩)
    rw [show (nI k) + (Int32.ofInt 1) = nI (k + 1) from (dn_a rfl rfl)]
    exact sv_S2 sv2_101 (by intro q hq; simp only [List.mem_cons, List.not_mem_nil, or_false] at hq; rcases hq with rfl | rfl | rfl | rfl | rfl | rfl <;> rfl) (ih (k + 1) (sSA s k ((s.2.2.2.2.2 k) ||| (((x4 >>> ((nI k) &&& 31)) &&& (Int32.ofInt 1)) <<< ((nI n3) &&& 31)))) _ (by omega) f157 f158 f159 f160 f161 f162 f163 hZ)
theorem d_101_25_t6_41 : ∀ (m k : Nat) (s : dS) (h : am_H), k + m = dP C → (ex_P h) → (cI C) → (c_v 6 C h) → (c_d 6 C h) → (h.2.2.1 0 3 = some 6) → (sC 36 u h) → (sC 41 s h) → (∀ h1, (ex_P h1) → (cI C) → (c_v 6 C h1) → (c_d 6 C h1) → (h1.2.2.1 0 3 = some 6) → (sC 36 u h1) → (sC 41 (d_101_25 C w m k s) h1) → pz_S 6 none am_r101 4 Q 105 [] [] h1) → pz_S 6 none am_r101 4 Q 25 [(0, .ref 6), (1, .ref 41), (2, .int w), (3, .int (nI k))] [] h := by
  intro m
  induction m with
  | zero =>
    intro k s h hk hP hI hT hD hR hN hS hZ
    have h6 := hT.1.2.1
    have h5 := hT.2.1.2.1
    refine am_goX 3 (show am_sh h 6 = some (0, 0) ∧ pz_S 6 none am_r101 4 Q 30 [(0, .ref 6), (1, .ref 41), (2, .int w), (3, .int (nI k))] [.int (h.1 6 0), .int (nI k)] h from ⟨ex_6 hP, ?_⟩)
    rw [show h.1 6 0 = nI (dP C) from hT.1.1]
    refine am_goX 1 (show ((nI (dP C)) ≤ (nI k) → pz_S 6 none am_r101 4 Q 105 [(0, .ref 6), (1, .ref 41), (2, .int w), (3, .int (nI k))] [] h) ∧ (¬ ((nI (dP C)) ≤ (nI k)) → pz_S 6 none am_r101 4 Q 33 [(0, .ref 6), (1, .ref 41), (2, .int w), (3, .int (nI k))] [] h) from ⟨fun _ => ?_, fun hz => absurd (show nI (dP C) ≤ nI k from nI_le (by omega) (by omega)) hz⟩)
    exact sv_S2 sv2_101 (fun q hq => absurd hq List.not_mem_nil) (hZ _ hP hI hT hD hR hN hS)
  | succ m ih =>
    intro k s h hk hP hI hT hD hR hN hS hZ
    have h6 := hT.1.2.1
    have h5 := hT.2.1.2.1
    refine am_goX 3 (show am_sh h 6 = some (0, 0) ∧ pz_S 6 none am_r101 4 Q 30 [(0, .ref 6), (1, .ref 41), (2, .int w), (3, .int (nI k))] [.int (h.1 6 0), .int (nI k)] h from ⟨ex_6 hP, ?_⟩)
    rw [show h.1 6 0 = nI (dP C) from hT.1.1]
    refine am_goX 1 (show ((nI (dP C)) ≤ (nI k) → pz_S 6 none am_r101 4 Q 105 [(0, .ref 6), (1, .ref 41), (2, .int w), (3, .int (nI k))] [] h) ∧ (¬ ((nI (dP C)) ≤ (nI k)) → pz_S 6 none am_r101 4 Q 33 [(0, .ref 6), (1, .ref 41), (2, .int w), (3, .int (nI k))] [] h) from ⟨fun hz => absurd hz (show ¬ (nI (dP C) ≤ nI k) by rw [nI_leI (by omega) (by omega)]; omega), fun _ => ?_⟩)
    refine am_goX 7 (show am_rc h 6 0 ∧ 2 ≤ 8 ∧ h.2.2.2.2 + am_al 88 ≤ 175 ∧ am_call am_cod 4 88 [.ref 6, .int (nI k), .ref 41, .int w] h (fun vv h' => pz_S 6 none am_r101 4 Q 42 [(0, .ref 6), (1, .ref 41), (2, .int w), (3, .int (nI k))] (vv.toList ++ [.int (nI k), .ref 6]) h') from ⟨Or.inl ⟨by decide, ex_6 hP⟩, by decide, ex_lim hP rfl, am_call.up (d_88_t6_41 hP hI hT hD hR hN hS (by omega) ?_) (by decide)⟩)
    refine am_goX 1 (show am_rc h 6 0 ∧ 0 ≤ 8 ∧ h.2.2.2.2 + am_al 102 ≤ 175 ∧ am_call am_cod 4 102 [.ref 6, .int (nI k), .int (d_88 C s k w)] h (fun vv h' => pz_S 6 none am_r101 4 Q 45 [(0, .ref 6), (1, .ref 41), (2, .int w), (3, .int (nI k))] (vv.toList ++ []) h') from ⟨Or.inl ⟨by decide, ex_6 hP⟩, by decide, ex_lim hP rfl, am_call.up (d_102_w6 hP hT hD (by omega) ?_) (by decide)⟩)
    refine am_goX 3 (show 4 < 6 ∧ ((d_102 C k (d_88 C s k w)) = 0 → pz_S 6 none am_r101 4 Q 99 [(4, .int (d_102 C k (d_88 C s k w))), (0, .ref 6), (1, .ref 41), (2, .int w), (3, .int (nI k))] [] h) ∧ (¬ ((d_102 C k (d_88 C s k w)) = 0) → pz_S 6 none am_r101 4 Q 52 [(4, .int (d_102 C k (d_88 C s k w))), (0, .ref 6), (1, .ref 41), (2, .int w), (3, .int (nI k))] [] h) from ⟨by decide, fun c146 => ?_, fun c146 => ?_⟩)
    · refine am_goX 2 (show 3 < 6 ∧ pz_S 6 none am_r101 4 Q 25 [(3, .int ((nI k) + (Int32.ofInt 1))), (4, .int (d_102 C k (d_88 C s k w))), (0, .ref 6), (1, .ref 41), (2, .int w)] [] h from ⟨by decide, ?_⟩)
      rw [show d_101_25 C w (m + 1) k s = d_101_25 C w m (k + 1) s from if_pos c146] at hZ
      rw [show (nI k) + (Int32.ofInt 1) = nI (k + 1) from (dn_a rfl rfl)]
      exact sv_S2 sv2_101 (by intro q hq; simp only [List.mem_cons, List.not_mem_nil, or_false] at hq; rcases hq with rfl | rfl | rfl | rfl <;> rfl) (ih (k + 1) s _ (by omega) hP hI hT hD hR hN hS hZ)
    · refine am_goX 5 (show am_rc h 6 0 ∧ 0 ≤ 8 ∧ h.2.2.2.2 + am_al 104 ≤ 175 ∧ am_call am_cod 4 104 [.ref 6, .int (nI k), .ref 41, .int w] h (fun vv h' => pz_S 6 none am_r101 4 Q 59 [(4, .int (d_102 C k (d_88 C s k w))), (0, .ref 6), (1, .ref 41), (2, .int w), (3, .int (nI k))] (vv.toList ++ []) h') from ⟨Or.inl ⟨by decide, ex_6 hP⟩, by decide, ex_lim hP rfl, am_call.up (d_104_t6_41 hP hI hT hD hR hN hS (by omega) (fun h147 f148 f149 f150 f151 f152 f153 f154 => ?_)) (by decide)⟩)
      refine am_goX 1 (show ((d_104 C s k w) = 0 → pz_S 6 none am_r101 4 Q 99 [(4, .int (d_102 C k (d_88 C s k w))), (0, .ref 6), (1, .ref 41), (2, .int w), (3, .int (nI k))] [] h147) ∧ (¬ ((d_104 C s k w) = 0) → pz_S 6 none am_r101 4 Q 62 [(4, .int (d_102 C k (d_88 C s k w))), (0, .ref 6), (1, .ref 41), (2, .int w), (3, .int (nI k))] [] h147) from ⟨fun c155 => ?_, fun c155 => ?_⟩)
      · refine am_goX 2 (show 3 < 6 ∧ pz_S 6 none am_r101 4 Q 25 [(3, .int ((nI k) + (Int32.ofInt 1))), (4, .int (d_102 C k (d_88 C s k w))), (0, .ref 6), (1, .ref 41), (2, .int w)] [] h147 from ⟨by decide, ?_⟩)
        rw [show d_101_25 C w (m + 1) k s = d_101_25 C w m (k + 1) s from (if_neg c146).trans (if_pos c155)] at hZ
        rw [show (nI k) + (Int32.ofInt 1) = nI (k + 1) from (dn_a rfl rfl)]
        exact sv_S2 sv2_101 (by intro q hq; simp only [List.mem_cons, List.not_mem_nil, or_false] at hq; rcases hq with rfl | rfl | rfl | rfl <;> rfl) (ih (k + 1) s _ (by omega) f148 f149 f150 f151 f152 f153 f154 hZ)
      · refine am_goX 2 (show 5 < 6 ∧ pz_S 6 none am_r101 4 Q 65 [(5, .int (Int32.ofInt 0)), (4, .int (d_102 C k (d_88 C s k w))), (0, .ref 6), (1, .ref 41), (2, .int w), (3, .int (nI k))] [] h147 from ⟨by decide, ?_⟩)
        refine sv_S2 sv2_101 (by intro q hq; simp only [List.mem_cons, List.not_mem_nil, or_false] at hq; rcases hq with rfl | rfl | rfl | rfl | rfl | rfl <;> rfl) (d_101_65_t6_41 k (d_102 C k (d_88 C s k w)) (dE C) 0 s _ (by omega) f148 f149 f150 f151 f152 f153 f154 (fun h156 f157 f158 f159 f160 f161 f162 f163 => ?_))
        refine am_goX 2 (show 3 < 6 ∧ pz_S 6 none am_r101 4 Q 25 [(3, .int ((nI k) + (Int32.ofInt 1))), (0, .ref 6), (1, .ref 41), (2, .int w)] [] h156 from ⟨by decide, ?_⟩)
        rw [show d_101_25 C w (m + 1) k s = d_101_25 C w m (k + 1) (d_101_65 C w k (d_102 C k (d_88 C s k w)) (dE C) 0 s) from (if_neg c146).trans (if_neg c155)] at hZ
        rw [show (nI k) + (Int32.ofInt 1) = nI (k + 1) from (dn_a rfl rfl)]
        exact sv_S2 sv2_101 (by intro q hq; simp only [List.mem_cons, List.not_mem_nil, or_false] at hq; rcases hq with rfl | rfl | rfl | rfl <;> rfl) (ih (k + 1) (d_101_65 C w k (d_102 C k (d_88 C s k w)) (dE C) 0 s) _ (by omega) f157 f158 f159 f160 f161 f162 f163 hZ)
theorem d_101_t6_41 (hP : ex_P h) (hI : cI C) (hT : c_v 6 C h) (hD : c_d 6 C h) (hR : h.2.2.1 0 3 = some 6) (hN : sC 36 u h) (hS : sC 41 s h)  (hQ : ∀ h1, (ex_P h1) → (cI C) → (c_v 6 C h1) → (c_d 6 C h1) → (h1.2.2.1 0 3 = some 6) → (sC 36 u h1) → (sC 41 (d_101_s C s w) h1) → Q none h1) : am_call am_cod 5 101 [.ref 6, .ref 41, .int w] h Q := by
  have h6 := hT.1.2.1
  have h5 := hT.2.1.2.1
  refine pz_call (n := 101) (nL := 6) (rt := none) (rows := am_r101) (d := 4) (by decide +kernel) (by decide +kernel) rfl (by funext pc; rfl) (ex_175 hP) (by exact Nat.le_of_ble_eq_true rfl) ?_
  refine am_goX 2 (show 3 < 6 ∧ pz_S 6 none am_r101 4 Q 2 [(3, .int (Int32.ofInt 0)), (0, .ref 6), (1, .ref 41), (2, .int w)] [] h from ⟨by decide, ?_⟩)
  refine sv_S2 sv2_101 (by intro q hq; simp only [List.mem_cons, List.not_mem_nil, or_false] at hq; rcases hq with rfl | rfl | rfl | rfl <;> rfl) (d_101_2_t6_41 (dE C) 0 s _ (by omega) hP hI hT hD hR hN hS (fun h138 f139 f140 f141 f142 f143 f144 f145 => ?_))
  refine am_goX 2 (show 3 < 6 ∧ pz_S 6 none am_r101 4 Q 25 [(3, .int (Int32.ofInt 0)), (0, .ref 6), (1, .ref 41), (2, .int w)] [] h138 from ⟨by decide, ?_⟩)
  refine sv_S2 sv2_101 (by intro q hq; simp only [List.mem_cons, List.not_mem_nil, or_false] at hq; rcases hq with rfl | rfl | rfl | rfl <;> rfl) (d_101_25_t6_41 (dP C) 0 (d_101_2 C w (dE C) 0 s) _ (by omega) f139 f140 f141 f142 f143 f144 f145 (fun h164 f165 f166 f167 f168 f169 f170 f171 => ?_))
  exact am_goX 1 (show (none : Option FieldType) = none ∧ h164.2.2.2.2 = 175 ∧ _ from ⟨rfl, ex_175 f165, hQ _ f165 f166 f167 f168 f169 f170 f171⟩)
theorem d_108_2_t6_41 : ∀ (m k : Nat) (s : dS) (h : am_H), k + m = 6 → (ex_P h) → (cI C) → (c_v 6 C h) → (c_d 6 C h) → (h.2.2.1 0 3 = some 6) → (sC 36 u h) → (sC 41 s h) → (∀ h1, (ex_P h1) → (cI C) → (c_v 6 C h1) → (c_d 6 C h1) → (h1.2.2.1 0 3 = some 6) → (sC 36 u h1) → (sC 41 (d_108_2 x m k s) h1) → pz_S 3 none am_r108 1 Q 38 [] [] h1) → pz_S 3 none am_r108 1 Q 2 [(0, .ref 41), (1, .int x), (2, .int (nI k))] [] h := by
  intro m
  induction m with
  | zero =>
    intro k s h hk hP hI hT hD hR hN hS hZ
    have h6 := hT.1.2.1
    have h5 := hT.2.1.2.1
    refine am_goX 3 (show (((Int8.ofInt 6).toInt32) ≤ (nI k) → pz_S 3 none am_r108 1 Q 38 [(0, .ref 41), (1, .int x), (2, .int (nI k))] [] h) ∧ (¬ (((Int8.ofInt 6).toInt32) ≤ (nI k)) → pz_S 3 none am_r108 1 Q 8 [(0, .ref 41), (1, .int x), (2, .int (nI k))] [] h) from ⟨fun _ => ?_, fun hz => absurd (show nI 6 ≤ nI k from nI_le (by omega) (by omega)) hz⟩)
    exact sv_S2 sv2_108 (fun q hq => absurd hq List.not_mem_nil) (hZ _ hP hI hT hD hR hN hS)
  | succ m ih =>
    intro k s h hk hP hI hT hD hR hN hS hZ
    have h6 := hT.1.2.1
    have h5 := hT.2.1.2.1
    refine am_goX 3 (show (((Int8.ofInt 6).toInt32) ≤ (nI k) → pz_S 3 none am_r108 1 Q 38 [(0, .ref 41), (1, .int x), (2, .int (nI k))] [] h) ∧ (¬ (((Int8.ofInt 6).toInt32) ≤ (nI k)) → pz_S 3 none am_r108 1 Q 8 [(0, .ref 41), (1, .int x), (2, .int (nI k))] [] h) from ⟨fun hz => absurd hz (show ¬ (nI 6 ≤ nI k) by rw [nI_leI (by omega) (by omega)]; omega), fun _ => ?_⟩)
    refine am_goX 3 (show 0 ≤ 8 ∧ h.2.2.2.2 + am_al 65 ≤ 175 ∧ am_call am_cod 1 65 [.int x, .int (nI k)] h (fun vv h' => pz_S 3 none am_r108 1 Q 13 [(0, .ref 41), (1, .int x), (2, .int (nI k))] (vv.toList ++ []) h') from ⟨by decide, ex_lim hP rfl, am_call.up (d_65_w hP ?_) (by decide)⟩)
    refine am_goX 1 (show ((d_65 x (nI k)) = 0 → pz_S 3 none am_r108 1 Q 32 [(0, .ref 41), (1, .int x), (2, .int (nI k))] [] h) ∧ (¬ ((d_65 x (nI k)) = 0) → pz_S 3 none am_r108 1 Q 16 [(0, .ref 41), (1, .int x), (2, .int (nI k))] [] h) from ⟨fun c172 => ?_, fun c172 => ?_⟩)
    · refine am_goX 2 (show 2 < 3 ∧ pz_S 3 none am_r108 1 Q 2 [(2, .int ((nI k) + (Int32.ofInt 1))), (0, .ref 41), (1, .int x)] [] h from ⟨by decide, ?_⟩)
      rw [show d_108_2 x (m + 1) k s = d_108_2 x m (k + 1) s from if_pos c172] at hZ
      rw [show (nI k) + (Int32.ofInt 1) = nI (k + 1) from (dn_a rfl rfl)]
      exact sv_S2 sv2_108 (by intro q hq; simp only [List.mem_cons, List.not_mem_nil, or_false] at hq; rcases hq with rfl | rfl | rfl <;> rfl) (ih (k + 1) s _ (by omega) hP hI hT hD hR hN hS hZ)
    · refine am_goX 2 (show am_sh h 41 = some (6, 0) ∧ pz_S 3 none am_r108 1 Q 20 [(0, .ref 41), (1, .int x), (2, .int (nI k))] [am_rf (h.2.2.1 41 3)] h from ⟨ex_41 hP, ?_⟩)
      rw [show am_rf (h.2.2.1 41 3) = .ref 43 from congrArg am_rf (ex_r41_3 hP)]
      refine am_goX 3 (show (Value.int (nI k)).category = 1 ∧ (Value.ref 43).category = 1 ∧ ∃ jj nn : Nat, am_sh h 43 = some (13, nn) ∧ jj < nn ∧ nI k = nI jj ∧ pz_S 3 none am_r108 1 Q 23 [(0, .ref 41), (1, .int x), (2, .int (nI k))] [.int (h.1 43 jj), .int (nI k), .ref 43] h from ⟨rfl, rfl, ⟨k, 6, ex_43 hP, (by omega), rfl, ?_⟩⟩)
      rw [show h.1 43 k = s.2.2.2.1 k from (hS.2.1 k (by omega)).2]
      refine am_goX 9 (show ∃ jj nn : Nat, am_so h 43 = some (13, nn) ∧ jj < nn ∧ nI k = nI jj ∧ pz_S 3 none am_r108 1 Q 32 [(0, .ref 41), (1, .int x), (2, .int (nI k))] [] (am_wI h 43 jj ((s.2.2.2.1 k) ||| (x &&& (((Int32.ofInt 1) <<< ((nI k) &&& 31)) ^^^ (Int32.ofInt (-1)))))) from ⟨k, 6, ex_w43 hP, (by omega), rfl, ?_⟩)
      have f174 : ex_P (am_wI h 43 k ((s.2.2.2.1 k) ||| (x &&& (((Int32.ofInt 1) <<< ((nI k) &&& 31)) ^^^ (Int32.ofInt (-1)))))) := hP
      have f175 : cI C := hI
      have f176 : c_v 6 C (am_wI h 43 k ((s.2.2.2.1 k) ||| (x &&& (((Int32.ofInt 1) <<< ((nI k) &&& 31)) ^^^ (Int32.ofInt (-1)))))) := c_v_w (by omega) hT
      have f177 : c_d 6 C (am_wI h 43 k ((s.2.2.2.1 k) ||| (x &&& (((Int32.ofInt 1) <<< ((nI k) &&& 31)) ^^^ (Int32.ofInt (-1)))))) := c_d_w (by omega) hD
      have f178 : (am_wI h 43 k ((s.2.2.2.1 k) ||| (x &&& (((Int32.ofInt 1) <<< ((nI k) &&& 31)) ^^^ (Int32.ofInt (-1)))))).2.2.1 0 3 = some 6 := hR
      have f179 : sC 36 u (am_wI h 43 k ((s.2.2.2.1 k) ||| (x &&& (((Int32.ofInt 1) <<< ((nI k) &&& 31)) ^^^ (Int32.ofInt (-1)))))) := sC_w (by omega) hN
      have f180 : sC 41 (sSM s k ((s.2.2.2.1 k) ||| (x &&& (((Int32.ofInt 1) <<< ((nI k) &&& 31)) ^^^ (Int32.ofInt (-1)))))) (am_wI h 43 k ((s.2.2.2.1 k) ||| (x &&& (((Int32.ofInt 1) <<< ((nI k) &&& 31)) ^^^ (Int32.ofInt (-1)))))) := sC_wM (by omega) hS
      generalize am_wI h 43 k ((s.2.2.2.1 k) ||| (x &&& (((Int32.ofInt 1) <<< ((nI k) &&& 31)) ^^^ (Int32.ofInt (-1))))) = h173 at f174 f175 f176 f177 f178 f179 f180 ⊢
      refine am_goX 2 (show 2 < 3 ∧ pz_S 3 none am_r108 1 Q 2 [(2, .int ((nI k) + (Int32.ofInt 1))), (0, .ref 41), (1, .int x)] [] h173 from ⟨by decide, ?_⟩)
      rw [show d_108_2 x (m + 1) k s = d_108_2 x m (k + 1) (sSM s k ((s.2.2.2.1 k) ||| (x &&& (((Int32.ofInt 1) <<< ((nI k) &&& 31)) ^^^ (Int32.ofInt (-1)))))) from if_neg c172] at hZ
      rw [show (nI k) + (Int32.ofInt 1) = nI (k + 1) from (dn_a rfl rfl)]
      exact sv_S2 sv2_108 (by intro q hq; simp only [List.mem_cons, List.not_mem_nil, or_false] at hq; rcases hq with rfl | rfl | rfl <;> rfl) (ih (k + 1) (sSM s k ((s.2.2.2.1 k) ||| (x &&& (((Int32.ofInt 1) <<< ((nI k) &&& 31)) ^^^ (Int32.ofInt (-1)))))) _ (by omega) f174 f175 f176 f177 f178 f179 f180 hZ)
theorem d_108_t6_41 (hP : ex_P h) (hI : cI C) (hT : c_v 6 C h) (hD : c_d 6 C h) (hR : h.2.2.1 0 3 = some 6) (hN : sC 36 u h) (hS : sC 41 s h)  (hQ : ∀ h1, (ex_P h1) → (cI C) → (c_v 6 C h1) → (c_d 6 C h1) → (h1.2.2.1 0 3 = some 6) → (sC 36 u h1) → (sC 41 (d_108_s s x) h1) → Q none h1) : am_call am_cod 2 108 [.ref 41, .int x] h Q := by
  have h6 := hT.1.2.1
  have h5 := hT.2.1.2.1
  refine pz_call (n := 108) (nL := 3) (rt := none) (rows := am_r108) (d := 1) (by decide +kernel) (by decide +kernel) rfl (by funext pc; rfl) (ex_175 hP) (by exact Nat.le_of_ble_eq_true rfl) ?_
  refine am_goX 2 (show 2 < 3 ∧ pz_S 3 none am_r108 1 Q 2 [(2, .int (Int32.ofInt 0)), (0, .ref 41), (1, .int x)] [] h from ⟨by decide, ?_⟩)
  refine sv_S2 sv2_108 (by intro q hq; simp only [List.mem_cons, List.not_mem_nil, or_false] at hq; rcases hq with rfl | rfl | rfl <;> rfl) (d_108_2_t6_41 6 0 s _ (by omega) hP hI hT hD hR hN hS (fun h181 f182 f183 f184 f185 f186 f187 f188 => ?_))
  exact am_goX 1 (show (none : Option FieldType) = none ∧ h181.2.2.2.2 = 175 ∧ _ from ⟨rfl, ex_175 f182, hQ _ f182 f183 f184 f185 f186 f187 f188⟩)
theorem d_100_21_t6_41 : ∀ (m k : Nat) (a3 : Int32) (s : dS) (h : am_H), k + m = dE C → (ex_P h) → (cI C) → (c_v 6 C h) → (c_d 6 C h) → (h.2.2.1 0 3 = some 6) → (sC 36 u h) → (sC 41 s h) → (∀ h1, (ex_P h1) → (cI C) → (c_v 6 C h1) → (c_d 6 C h1) → (h1.2.2.1 0 3 = some 6) → (sC 36 u h1) → (sC 41 ((d_100_21 C m k a3 s).2) h1) → pz_S 5 (some .int) am_r100 5 Q 85 [(3, .int ((d_100_21 C m k a3 s).1))] [] h1) → pz_S 5 (some .int) am_r100 5 Q 21 [(0, .ref 6), (1, .ref 41), (3, .int a3), (4, .int (nI k))] [] h := by
  intro m
  induction m with
  | zero =>
    intro k a3 s h hk hP hI hT hD hR hN hS hZ
    have h6 := hT.1.2.1
    have h5 := hT.2.1.2.1
    refine am_goX 3 (show am_sh h 6 = some (0, 0) ∧ pz_S 5 (some .int) am_r100 5 Q 27 [(0, .ref 6), (1, .ref 41), (3, .int a3), (4, .int (nI k))] [.int (h.1 6 4), .int (nI k)] h from ⟨ex_6 hP, ?_⟩)
    rw [show h.1 6 4 = nI (dE C) from hT.2.1.1]
    refine am_goX 1 (show ((nI (dE C)) ≤ (nI k) → pz_S 5 (some .int) am_r100 5 Q 85 [(0, .ref 6), (1, .ref 41), (3, .int a3), (4, .int (nI k))] [] h) ∧ (¬ ((nI (dE C)) ≤ (nI k)) → pz_S 5 (some .int) am_r100 5 Q 30 [(0, .ref 6), (1, .ref 41), (3, .int a3), (4, .int (nI k))] [] h) from ⟨fun _ => ?_, fun hz => absurd (show nI (dE C) ≤ nI k from nI_le (by omega) (by omega)) hz⟩)
    exact sv_S2 sv2_100 (by intro q hq; simp only [List.mem_cons, List.not_mem_nil, or_false] at hq; rcases hq with rfl <;> rfl) (hZ _ hP hI hT hD hR hN hS)
  | succ m ih =>
    intro k a3 s h hk hP hI hT hD hR hN hS hZ
    have h6 := hT.1.2.1
    have h5 := hT.2.1.2.1
    refine am_goX 3 (show am_sh h 6 = some (0, 0) ∧ pz_S 5 (some .int) am_r100 5 Q 27 [(0, .ref 6), (1, .ref 41), (3, .int a3), (4, .int (nI k))] [.int (h.1 6 4), .int (nI k)] h from ⟨ex_6 hP, ?_⟩)
    rw [show h.1 6 4 = nI (dE C) from hT.2.1.1]
    refine am_goX 1 (show ((nI (dE C)) ≤ (nI k) → pz_S 5 (some .int) am_r100 5 Q 85 [(0, .ref 6), (1, .ref 41), (3, .int a3), (4, .int (nI k))] [] h) ∧ (¬ ((nI (dE C)) ≤ (nI k)) → pz_S 5 (some .int) am_r100 5 Q 30 [(0, .ref 6), (1, .ref 41), (3, .int a3), (4, .int (nI k))] [] h) from ⟨fun hz => absurd hz (show ¬ (nI (dE C) ≤ nI k) by rw [nI_leI (by omega) (by omega)]; omega), fun _ => ?_⟩)
    refine am_goX 3 (show am_sh h 41 = some (6, 0) ∧ pz_S 5 (some .int) am_r100 5 Q 35 [(0, .ref 6), (1, .ref 41), (3, .int a3), (4, .int (nI k))] [am_rf (h.2.2.1 41 5), .ref 41] h from ⟨ex_41 hP, ?_⟩)
    rw [show am_rf (h.2.2.1 41 5) = .ref 45 from congrArg am_rf (ex_r41_5 hP)]
    refine am_goX 2 (show ∃ jj nn : Nat, am_sh h 45 = some (13, nn) ∧ jj < nn ∧ nI k = nI jj ∧ pz_S 5 (some .int) am_r100 5 Q 38 [(0, .ref 6), (1, .ref 41), (3, .int a3), (4, .int (nI k))] [.int (h.1 45 jj), .ref 41] h from ⟨k, 5, ex_45 hP, (by omega), rfl, ?_⟩)
    rw [show h.1 45 k = s.2.2.2.2.2 k from (hS.2.2 k (by omega)).2]
    refine am_goX 1 (show am_rc h 41 6 ∧ 0 ≤ 8 ∧ h.2.2.2.2 + am_al 108 ≤ 175 ∧ am_call am_cod 5 108 [.ref 41, .int (s.2.2.2.2.2 k)] h (fun vv h' => pz_S 5 (some .int) am_r100 5 Q 41 [(0, .ref 6), (1, .ref 41), (3, .int a3), (4, .int (nI k))] (vv.toList ++ []) h') from ⟨Or.inl ⟨by decide, ex_41 hP⟩, by decide, ex_lim hP rfl, am_call.up (d_108_t6_41 hP hI hT hD hR hN hS (fun h205 f206 f207 f208 f209 f210 f211 f212 => ?_)) (by decide)⟩)
    refine am_goX 2 (show am_sh h205 41 = some (6, 0) ∧ pz_S 5 (some .int) am_r100 5 Q 45 [(0, .ref 6), (1, .ref 41), (3, .int a3), (4, .int (nI k))] [am_rf (h205.2.2.1 41 5)] h205 from ⟨ex_41 f206, ?_⟩)
    rw [show am_rf (h205.2.2.1 41 5) = .ref 45 from congrArg am_rf (ex_r41_5 f206)]
    refine am_goX 2 (show ∃ jj nn : Nat, am_sh h205 45 = some (13, nn) ∧ jj < nn ∧ nI k = nI jj ∧ pz_S 5 (some .int) am_r100 5 Q 48 [(0, .ref 6), (1, .ref 41), (3, .int a3), (4, .int (nI k))] [.int (h205.1 45 jj)] h205 from ⟨k, 5, ex_45 f206, (by omega), rfl, ?_⟩)
    rw [show h205.1 45 k = (d_108_s s (s.2.2.2.2.2 k)).2.2.2.2.2 k from (f212.2.2 k (by omega)).2]
    refine am_goX 1 (show 0 ≤ 8 ∧ h205.2.2.2.2 + am_al 69 ≤ 175 ∧ am_call am_cod 5 69 [.int ((d_108_s s (s.2.2.2.2.2 k)).2.2.2.2.2 k)] h205 (fun vv h' => pz_S 5 (some .int) am_r100 5 Q 51 [(0, .ref 6), (1, .ref 41), (3, .int a3), (4, .int (nI k))] (vv.toList ++ []) h') from ⟨by decide, ex_lim f206 rfl, am_call.up (d_69_w f206 ?_) (by decide)⟩)
    refine am_goX 2 (show am_sh h205 6 = some (0, 0) ∧ pz_S 5 (some .int) am_r100 5 Q 55 [(0, .ref 6), (1, .ref 41), (3, .int a3), (4, .int (nI k))] [am_rf (h205.2.2.1 6 7), .int (d_69 ((d_108_s s (s.2.2.2.2.2 k)).2.2.2.2.2 k))] h205 from ⟨ex_6 f206, ?_⟩)
    rw [show am_rf (h205.2.2.1 6 7) = .ref 12 from congrArg am_rf (ex_r6_7 f206)]
    refine am_goX 2 (show ∃ jj nn : Nat, am_sh h205 12 = some (13, nn) ∧ jj < nn ∧ nI k = nI jj ∧ pz_S 5 (some .int) am_r100 5 Q 58 [(0, .ref 6), (1, .ref 41), (3, .int a3), (4, .int (nI k))] [.int (h205.1 12 jj), .int (d_69 ((d_108_s s (s.2.2.2.2.2 k)).2.2.2.2.2 k))] h205 from ⟨k, 5, ex_12 f206, (by omega), rfl, ?_⟩)
    rw [show h205.1 12 k = dN C k from (f208.2.1.2.2 k (by omega)).1]
    refine am_goX 1 (show ((d_69 ((d_108_s s (s.2.2.2.2.2 k)).2.2.2.2.2 k)) < (dN C k) → pz_S 5 (some .int) am_r100 5 Q 79 [(0, .ref 6), (1, .ref 41), (3, .int a3), (4, .int (nI k))] [] h205) ∧ (¬ ((d_69 ((d_108_s s (s.2.2.2.2.2 k)).2.2.2.2.2 k)) < (dN C k)) → pz_S 5 (some .int) am_r100 5 Q 61 [(0, .ref 6), (1, .ref 41), (3, .int a3), (4, .int (nI k))] [] h205) from ⟨fun c213 => ?_, fun c213 => ?_⟩)
    · refine am_goX 2 (show 4 < 5 ∧ pz_S 5 (some .int) am_r100 5 Q 21 [(4, .int ((nI k) + (Int32.ofInt 1))), (0, .ref 6), (1, .ref 41), (3, .int a3)] [] h205 from ⟨by decide, ?_⟩)
      rw [show d_100_21 C (m + 1) k a3 s = d_100_21 C m (k + 1) a3 (d_108_s s (s.2.2.2.2.2 k)) from if_pos c213] at hZ
      rw [show (nI k) + (Int32.ofInt 1) = nI (k + 1) from (dn_a rfl rfl)]
      exact sv_S2 sv2_100 (by intro q hq; simp only [List.mem_cons, List.not_mem_nil, or_false] at hq; rcases hq with rfl | rfl | rfl | rfl <;> rfl) (ih (k + 1) a3 (d_108_s s (s.2.2.2.2.2 k)) _ (by omega) f206 f207 f208 f209 f210 f211 f212 hZ)
    · refine am_goX 2 (show am_sh h205 41 = some (6, 0) ∧ pz_S 5 (some .int) am_r100 5 Q 65 [(0, .ref 6), (1, .ref 41), (3, .int a3), (4, .int (nI k))] [am_rf (h205.2.2.1 41 4)] h205 from ⟨ex_41 f206, ?_⟩)
      rw [show am_rf (h205.2.2.1 41 4) = .ref 44 from congrArg am_rf (ex_r41_4 f206)]
      refine am_goX 3 (show (Value.int (nI k)).category = 1 ∧ (Value.ref 44).category = 1 ∧ ∃ jj nn : Nat, am_sh h205 44 = some (13, nn) ∧ jj < nn ∧ nI k = nI jj ∧ pz_S 5 (some .int) am_r100 5 Q 69 [(0, .ref 6), (1, .ref 41), (3, .int a3), (4, .int (nI k))] [.int (h205.1 44 jj), .int (nI k), .ref 44] h205 from ⟨rfl, rfl, ⟨k, 5, ex_44 f206, (by omega), rfl, ?_⟩⟩)
      rw [show h205.1 44 k = (d_108_s s (s.2.2.2.2.2 k)).2.2.2.2.1 k from (f212.2.2 k (by omega)).1]
      refine am_goX 3 (show ∃ jj nn : Nat, am_so h205 44 = some (13, nn) ∧ jj < nn ∧ nI k = nI jj ∧ pz_S 5 (some .int) am_r100 5 Q 72 [(0, .ref 6), (1, .ref 41), (3, .int a3), (4, .int (nI k))] [] (am_wI h205 44 jj (((d_108_s s (s.2.2.2.2.2 k)).2.2.2.2.1 k) + (Int32.ofInt 1))) from ⟨k, 5, ex_w44 f206, (by omega), rfl, ?_⟩)
      have f215 : ex_P (am_wI h205 44 k (((d_108_s s (s.2.2.2.2.2 k)).2.2.2.2.1 k) + (Int32.ofInt 1))) := f206
      have f216 : cI C := f207
      have f217 : c_v 6 C (am_wI h205 44 k (((d_108_s s (s.2.2.2.2.2 k)).2.2.2.2.1 k) + (Int32.ofInt 1))) := c_v_w (by omega) f208
      have f218 : c_d 6 C (am_wI h205 44 k (((d_108_s s (s.2.2.2.2.2 k)).2.2.2.2.1 k) + (Int32.ofInt 1))) := c_d_w (by omega) f209
      have f219 : (am_wI h205 44 k (((d_108_s s (s.2.2.2.2.2 k)).2.2.2.2.1 k) + (Int32.ofInt 1))).2.2.1 0 3 = some 6 := f210
      have f220 : sC 36 u (am_wI h205 44 k (((d_108_s s (s.2.2.2.2.2 k)).2.2.2.2.1 k) + (Int32.ofInt 1))) := sC_w (by omega) f211
      have f221 : sC 41 (sSH (d_108_s s (s.2.2.2.2.2 k)) k (((d_108_s s (s.2.2.2.2.2 k)).2.2.2.2.1 k) + (Int32.ofInt 1))) (am_wI h205 44 k (((d_108_s s (s.2.2.2.2.2 k)).2.2.2.2.1 k) + (Int32.ofInt 1))) := sC_wH (by omega) f212
      generalize am_wI h205 44 k (((d_108_s s (s.2.2.2.2.2 k)).2.2.2.2.1 k) + (Int32.ofInt 1)) = h214 at f215 f216 f217 f218 f219 f220 f221 ⊢
      refine am_goX 8 (show 3 < 5 ∧ 4 < 5 ∧ pz_S 5 (some .int) am_r100 5 Q 21 [(4, .int ((nI k) + (Int32.ofInt 1))), (3, .int (a3 ||| ((Int32.ofInt 1) <<< ((nI k) &&& 31)))), (0, .ref 6), (1, .ref 41)] [] h214 from ⟨by decide, by decide, ?_⟩)
      rw [show d_100_21 C (m + 1) k a3 s = d_100_21 C m (k + 1) (a3 ||| ((Int32.ofInt 1) <<< ((nI k) &&& 31))) (sSH (d_108_s s (s.2.2.2.2.2 k)) k (((d_108_s s (s.2.2.2.2.2 k)).2.2.2.2.1 k) + (Int32.ofInt 1))) from if_neg c213] at hZ
      rw [show (nI k) + (Int32.ofInt 1) = nI (k + 1) from (dn_a rfl rfl)]
      exact sv_S2 sv2_100 (by intro q hq; simp only [List.mem_cons, List.not_mem_nil, or_false] at hq; rcases hq with rfl | rfl | rfl | rfl <;> rfl) (ih (k + 1) (a3 ||| ((Int32.ofInt 1) <<< ((nI k) &&& 31))) (sSH (d_108_s s (s.2.2.2.2.2 k)) k (((d_108_s s (s.2.2.2.2.2 k)).2.2.2.2.1 k) + (Int32.ofInt 1))) _ (by omega) f215 f216 f217 f218 f219 f220 f221 hZ)
theorem d_100_t6_41 (hP : ex_P h) (hI : cI C) (hT : c_v 6 C h) (hD : c_d 6 C h) (hR : h.2.2.1 0 3 = some 6) (hN : sC 36 u h) (hS : sC 41 s h)  (hQ : ∀ h1, (ex_P h1) → (cI C) → (c_v 6 C h1) → (c_d 6 C h1) → (h1.2.2.1 0 3 = some 6) → (sC 36 u h1) → (sC 41 (d_100_s C s w) h1) → Q (some (.int (d_100 C s w))) h1) : am_call am_cod 6 100 [.ref 6, .ref 41, .int w] h Q := by
  have h6 := hT.1.2.1
  have h5 := hT.2.1.2.1
  refine pz_call (n := 100) (nL := 5) (rt := (some .int)) (rows := am_r100) (d := 5) (by decide +kernel) (by decide +kernel) rfl (by funext pc; rfl) (ex_175 hP) (by exact Nat.le_of_ble_eq_true rfl) ?_
  refine am_goX 3 (show (Value.ref 41).category = 1 ∧ am_sh h 41 = some (6, 0) ∧ pz_S 5 (some .int) am_r100 5 Q 5 [(0, .ref 6), (1, .ref 41), (2, .int w)] [.int (h.1 41 0), .ref 41] h from ⟨rfl, ex_41 hP, ?_⟩)
  rw [show h.1 41 0 = s.1 from hS.1.1]
  refine am_goX 3 (show am_sh h 41 = some (6, 0) ∧ narrow (am_fty 6 0) (.int (s.1 + (Int32.ofInt 1))) = .int (s.1 + (Int32.ofInt 1)) ∧ fits (am_fty 6 0) (.int (s.1 + (Int32.ofInt 1))) = true ∧ pz_S 5 (some .int) am_r100 5 Q 10 [(0, .ref 6), (1, .ref 41), (2, .int w)] [] (am_wI h 41 0 (s.1 + (Int32.ofInt 1))) from ⟨ex_41 hP, rfl, rfl, ?_⟩)
  have f190 : ex_P (am_wI h 41 0 (s.1 + (Int32.ofInt 1))) := hP
  have f191 : cI C := hI
  have f192 : c_v 6 C (am_wI h 41 0 (s.1 + (Int32.ofInt 1))) := c_v_w (by omega) hT
  have f193 : c_d 6 C (am_wI h 41 0 (s.1 + (Int32.ofInt 1))) := c_d_w (by omega) hD
  have f194 : (am_wI h 41 0 (s.1 + (Int32.ofInt 1))).2.2.1 0 3 = some 6 := hR
  have f195 : sC 36 u (am_wI h 41 0 (s.1 + (Int32.ofInt 1))) := sC_w (by omega) hN
  have f196 : sC 41 (sSD s (s.1 + (Int32.ofInt 1))) (am_wI h 41 0 (s.1 + (Int32.ofInt 1))) := sC_wD (by omega) hS
  generalize am_wI h 41 0 (s.1 + (Int32.ofInt 1)) = h189 at f190 f191 f192 f193 f194 f195 f196 ⊢
  refine am_goX 4 (show am_rc h189 6 0 ∧ 0 ≤ 8 ∧ h189.2.2.2.2 + am_al 101 ≤ 175 ∧ am_call am_cod 5 101 [.ref 6, .ref 41, .int w] h189 (fun vv h' => pz_S 5 (some .int) am_r100 5 Q 16 [(0, .ref 6), (1, .ref 41), (2, .int w)] (vv.toList ++ []) h') from ⟨Or.inl ⟨by decide, ex_6 f190⟩, by decide, ex_lim f190 rfl, am_call.up (d_101_t6_41 f190 f191 f192 f193 f194 f195 f196 (fun h197 f198 f199 f200 f201 f202 f203 f204 => ?_)) (by decide)⟩)
  refine am_goX 4 (show 3 < 5 ∧ 4 < 5 ∧ pz_S 5 (some .int) am_r100 5 Q 21 [(4, .int (Int32.ofInt 0)), (3, .int (Int32.ofInt 0)), (0, .ref 6), (1, .ref 41), (2, .int w)] [] h197 from ⟨by decide, by decide, ?_⟩)
  refine sv_S2 sv2_100 (by intro q hq; simp only [List.mem_cons, List.not_mem_nil, or_false] at hq; rcases hq with rfl | rfl | rfl | rfl <;> rfl) (d_100_21_t6_41 (dE C) 0 (Int32.ofInt 0) (d_101_s C (sSD s (s.1 + (Int32.ofInt 1))) w) _ (by omega) f198 f199 f200 f201 f202 f203 f204 (fun h222 f223 f224 f225 f226 f227 f228 f229 => ?_))
  exact am_goX 2 (show (∃ ty, (some .int) = some ty ∧ narrow ty (.int ((d_100_21 C (dE C) 0 (Int32.ofInt 0) (d_101_s C (sSD s (s.1 + (Int32.ofInt 1))) w)).1)) = .int ((d_100_21 C (dE C) 0 (Int32.ofInt 0) (d_101_s C (sSD s (s.1 + (Int32.ofInt 1))) w)).1)) ∧ h222.2.2.2.2 = 175 ∧ _ from ⟨⟨.int, rfl, rfl⟩, ex_175 f223, hQ _ f223 f224 f225 f226 f227 f228 f229⟩)
theorem d_89_t17_36 (hP : ex_P h) (hI : cI C) (hT : c_v 17 C h) (hD : c_d 17 C h) (hS : sC 36 s h) (hX : fC 17 h0 h) (hp : p < dP C) (hQ : Q (some (.int (d_89 C s p))) h) : am_call am_cod 1 89 [.ref 17, .int (nI p), .ref 36] h Q := by
  have h6 := hT.1.2.1
  have h5 := hT.2.1.2.1
  refine pz_call (n := 89) (nL := 3) (rt := (some .int)) (rows := am_r89) (d := 0) (by decide +kernel) (by decide +kernel) rfl (by funext pc; rfl) (ex_175 hP) (by exact Nat.le_of_ble_eq_true rfl) ?_
  refine am_goX 2 (show am_sh h 17 = some (0, 0) ∧ pz_S 3 (some .int) am_r89 0 Q 4 [(0, .ref 17), (1, .int (nI p)), (2, .ref 36)] [am_rf (h.2.2.1 17 2)] h from ⟨ex_17 hP, ?_⟩)
  rw [show am_rf (h.2.2.1 17 2) = .ref 19 from congrArg am_rf (ex_r17_2 hP)]
  refine am_goX 2 (show ∃ jj nn : Nat, am_sh h 19 = some (13, nn) ∧ jj < nn ∧ nI p = nI jj ∧ pz_S 3 (some .int) am_r89 0 Q 6 [(0, .ref 17), (1, .int (nI p)), (2, .ref 36)] [.int (h.1 19 jj)] h from ⟨p, 6, ex_19 hP, (by omega), rfl, ?_⟩)
  rw [show h.1 19 p = dK C p from (hT.1.2.2 p (by omega)).1]
  suffices key : ∀ (v231 : Int32), v231 = (if ¬ (dK C p) = (Int32.ofInt 3) then (s.2.2.1 p) - (Int32.ofInt 2) else Int32.ofInt 0) → pz_S 3 (some .int) am_r89 0 Q 22 [] [.int v231] h by
    refine am_goX 2 (show (¬ (dK C p) = (Int32.ofInt 3) → pz_S 3 (some .int) am_r89 0 Q 14 [(0, .ref 17), (1, .int (nI p)), (2, .ref 36)] [] h) ∧ (¬ ¬ (dK C p) = (Int32.ofInt 3) → pz_S 3 (some .int) am_r89 0 Q 10 [(0, .ref 17), (1, .int (nI p)), (2, .ref 36)] [] h) from ⟨fun c230 => ?_, fun c230 => ?_⟩)
    · refine am_goX 2 (show am_sh h 36 = some (6, 0) ∧ pz_S 3 (some .int) am_r89 0 Q 18 [(0, .ref 17), (1, .int (nI p)), (2, .ref 36)] [am_rf (h.2.2.1 36 2)] h from ⟨ex_36 hP, ?_⟩)
      rw [show am_rf (h.2.2.1 36 2) = .ref 37 from congrArg am_rf (ex_r36_2 hP)]
      refine am_goX 2 (show ∃ jj nn : Nat, am_sh h 37 = some (13, nn) ∧ jj < nn ∧ nI p = nI jj ∧ pz_S 3 (some .int) am_r89 0 Q 20 [(0, .ref 17), (1, .int (nI p)), (2, .ref 36)] [.int (h.1 37 jj)] h from ⟨p, 6, ex_37 hP, (by omega), rfl, ?_⟩)
      rw [show h.1 37 p = s.2.2.1 p from (hS.2.1 p (by omega)).1]
      refine am_goX 2 (show pz_S 3 (some .int) am_r89 0 Q 22 [(0, .ref 17), (1, .int (nI p)), (2, .ref 36)] [.int ((s.2.2.1 p) - (Int32.ofInt 2))] h from ?_)
      exact sv_S2 sv2_89 (fun q hq => absurd hq List.not_mem_nil) (key _ (if_pos c230).symm)
    · refine am_goX 2 (show pz_S 3 (some .int) am_r89 0 Q 22 [(0, .ref 17), (1, .int (nI p)), (2, .ref 36)] [.int (Int32.ofInt 0)] h from ?_)
      exact sv_S2 sv2_89 (fun q hq => absurd hq List.not_mem_nil) (key _ (if_neg c230).symm)
  intro v231 e232
  subst e232
  exact am_goX 1 (show (∃ ty, (some .int) = some ty ∧ narrow ty (.int (if ¬ (dK C p) = (Int32.ofInt 3) then (s.2.2.1 p) - (Int32.ofInt 2) else Int32.ofInt 0)) = .int (if ¬ (dK C p) = (Int32.ofInt 3) then (s.2.2.1 p) - (Int32.ofInt 2) else Int32.ofInt 0)) ∧ h.2.2.2.2 = 175 ∧ _ from ⟨⟨.int, rfl, rfl⟩, ex_175 hP, hQ⟩)
theorem d_88_t17_36 (hP : ex_P h) (hI : cI C) (hT : c_v 17 C h) (hD : c_d 17 C h) (hS : sC 36 s h) (hX : fC 17 h0 h) (hp : p < dP C) (hQ : Q (some (.int (d_88 C s p w))) h) : am_call am_cod 2 88 [.ref 17, .int (nI p), .ref 36, .int w] h Q := by
  have h6 := hT.1.2.1
  have h5 := hT.2.1.2.1
  refine pz_call (n := 88) (nL := 5) (rt := (some .int)) (rows := am_r88) (d := 1) (by decide +kernel) (by decide +kernel) rfl (by funext pc; rfl) (ex_175 hP) (by exact Nat.le_of_ble_eq_true rfl) ?_
  suffices key : ∀ (v234 : Int32), v234 = (if w = 0 then d_89 C s p else Int32.ofInt 0) → pz_S 5 (some .int) am_r88 1 Q 14 [(2, .ref 36)] [.int v234] h by
    refine am_goX 2 (show (w = 0 → pz_S 5 (some .int) am_r88 1 Q 8 [(0, .ref 17), (1, .int (nI p)), (2, .ref 36), (3, .int w)] [] h) ∧ (¬ (w = 0) → pz_S 5 (some .int) am_r88 1 Q 4 [(0, .ref 17), (1, .int (nI p)), (2, .ref 36), (3, .int w)] [] h) from ⟨fun c233 => ?_, fun c233 => ?_⟩)
    · refine am_goX 4 (show am_rc h 17 0 ∧ 0 ≤ 8 ∧ h.2.2.2.2 + am_al 89 ≤ 175 ∧ am_call am_cod 1 89 [.ref 17, .int (nI p), .ref 36] h (fun vv h' => pz_S 5 (some .int) am_r88 1 Q 14 [(0, .ref 17), (1, .int (nI p)), (2, .ref 36), (3, .int w)] (vv.toList ++ []) h') from ⟨Or.inl ⟨by decide, ex_17 hP⟩, by decide, ex_lim hP rfl, am_call.up (d_89_t17_36 hP hI hT hD hS hX (by omega) ?_) (by decide)⟩)
      exact sv_S2 sv2_88 (by intro q hq; simp only [List.mem_cons, List.not_mem_nil, or_false] at hq; rcases hq with rfl <;> rfl) (key _ (if_pos c233).symm)
    · refine am_goX 2 (show pz_S 5 (some .int) am_r88 1 Q 14 [(0, .ref 17), (1, .int (nI p)), (2, .ref 36), (3, .int w)] [.int (Int32.ofInt 0)] h from ?_)
      exact sv_S2 sv2_88 (by intro q hq; simp only [List.mem_cons, List.not_mem_nil, or_false] at hq; rcases hq with rfl <;> rfl) (key _ (if_neg c233).symm)
  intro v234 e235
  subst e235
  refine am_goX 3 (show 4 < 5 ∧ am_sh h 36 = some (6, 0) ∧ pz_S 5 (some .int) am_r88 1 Q 20 [(4, .int (if w = 0 then d_89 C s p else Int32.ofInt 0)), (2, .ref 36)] [.int (h.1 36 0)] h from ⟨by decide, ex_36 hP, ?_⟩)
  rw [show h.1 36 0 = s.1 from hS.1.1]
  refine am_goX 4 (show 0 ≤ 8 ∧ h.2.2.2.2 + am_al 90 ≤ 175 ∧ am_call am_cod 1 90 [.int (s.1 + (if w = 0 then d_89 C s p else Int32.ofInt 0)), .int ((Int8.ofInt 7).toInt32)] h (fun vv h' => pz_S 5 (some .int) am_r88 1 Q 28 [(4, .int (if w = 0 then d_89 C s p else Int32.ofInt 0)), (2, .ref 36)] (vv.toList ++ []) h') from ⟨by decide, ex_lim hP rfl, am_call.up (d_90_w hP ?_) (by decide)⟩)
  exact am_goX 1 (show (∃ ty, (some .int) = some ty ∧ narrow ty (.int (d_90 (s.1 + (if w = 0 then d_89 C s p else Int32.ofInt 0)))) = .int (d_90 (s.1 + (if w = 0 then d_89 C s p else Int32.ofInt 0)))) ∧ h.2.2.2.2 = 175 ∧ _ from ⟨⟨.int, rfl, rfl⟩, ex_175 hP, hQ⟩)
theorem d_104_t17_36 (hP : ex_P h) (hI : cI C) (hT : c_v 17 C h) (hD : c_d 17 C h) (hS : sC 36 s h) (hX : fC 17 h0 h) (hp : p < dP C) (hQ : ∀ h1, (ex_P h1) → (cI C) → (c_v 17 C h1) → (c_d 17 C h1) → (sC 36 s h1) → (fC 17 h0 h1) → Q (some (.int (d_104 C s p w))) h1) : am_call am_cod 4 104 [.ref 17, .int (nI p), .ref 36, .int w] h Q := by
  have h6 := hT.1.2.1
  have h5 := hT.2.1.2.1
  refine pz_call (n := 104) (nL := 5) (rt := (some .boolean)) (rows := am_r104) (d := 3) (by decide +kernel) (by decide +kernel) rfl (by funext pc; rfl) (ex_175 hP) (by exact Nat.le_of_ble_eq_true rfl) ?_
  refine am_goX 2 (show am_sh h 36 = some (6, 0) ∧ pz_S 5 (some .boolean) am_r104 3 Q 4 [(0, .ref 17), (1, .int (nI p)), (2, .ref 36), (3, .int w)] [am_rf (h.2.2.1 36 3)] h from ⟨ex_36 hP, ?_⟩)
  rw [show am_rf (h.2.2.1 36 3) = .ref 38 from congrArg am_rf (ex_r36_3 hP)]
  refine am_goX 2 (show ∃ jj nn : Nat, am_sh h 38 = some (13, nn) ∧ jj < nn ∧ nI p = nI jj ∧ pz_S 5 (some .boolean) am_r104 3 Q 6 [(0, .ref 17), (1, .int (nI p)), (2, .ref 36), (3, .int w)] [.int (h.1 38 jj)] h from ⟨p, 6, ex_38 hP, (by omega), rfl, ?_⟩)
  rw [show h.1 38 p = s.2.2.2.1 p from (hS.2.1 p (by omega)).2]
  refine am_goX 1 (show 0 ≤ 8 ∧ h.2.2.2.2 + am_al 69 ≤ 175 ∧ am_call am_cod 3 69 [.int (s.2.2.2.1 p)] h (fun vv h' => pz_S 5 (some .boolean) am_r104 3 Q 9 [(0, .ref 17), (1, .int (nI p)), (2, .ref 36), (3, .int w)] (vv.toList ++ []) h') from ⟨by decide, ex_lim hP rfl, am_call.up (d_69_w hP ?_) (by decide)⟩)
  refine am_goX 3 (show 4 < 5 ∧ am_sh h 17 = some (0, 0) ∧ pz_S 5 (some .boolean) am_r104 3 Q 15 [(4, .int (d_69 (s.2.2.2.1 p))), (0, .ref 17), (1, .int (nI p)), (2, .ref 36), (3, .int w)] [am_rf (h.2.2.1 17 12)] h from ⟨by decide, ex_17 hP, ?_⟩)
  rw [show am_rf (h.2.2.1 17 12) = .ref 25 from congrArg am_rf (ex_r17_12 hP)]
  refine am_goX 4 (show am_rc h 17 0 ∧ 1 ≤ 8 ∧ h.2.2.2.2 + am_al 89 ≤ 175 ∧ am_call am_cod 3 89 [.ref 17, .int (nI p), .ref 36] h (fun vv h' => pz_S 5 (some .boolean) am_r104 3 Q 21 [(4, .int (d_69 (s.2.2.2.1 p))), (0, .ref 17), (1, .int (nI p)), (2, .ref 36), (3, .int w)] (vv.toList ++ [.ref 25]) h') from ⟨Or.inl ⟨by decide, ex_17 hP⟩, by decide, ex_lim hP rfl, am_call.up (d_89_t17_36 hP hI hT hD hS hX (by omega) ?_) (by decide)⟩)
  refine am_goX 2 (show am_sh h 36 = some (6, 0) ∧ pz_S 5 (some .boolean) am_r104 3 Q 25 [(4, .int (d_69 (s.2.2.2.1 p))), (0, .ref 17), (1, .int (nI p)), (2, .ref 36), (3, .int w)] [.int (h.1 36 0), .int (d_89 C s p), .ref 25] h from ⟨ex_36 hP, ?_⟩)
  rw [show h.1 36 0 = s.1 from hS.1.1]
  suffices key : ∀ (v237 : Int32), v237 = (if w = 0 then Int32.ofInt 0 else Int32.ofInt 1) → pz_S 5 (some .boolean) am_r104 3 Q 39 [] [.int v237, .int (d_69 (s.2.2.2.1 p)), .int (s.1 / ((Int8.ofInt 7).toInt32)), .int (d_89 C s p), .ref 25] h by
    refine am_goX 5 (show ¬ ((Int8.ofInt 7).toInt32) = 0 ∧ (w = 0 → pz_S 5 (some .boolean) am_r104 3 Q 38 [(4, .int (d_69 (s.2.2.2.1 p))), (0, .ref 17), (1, .int (nI p)), (2, .ref 36), (3, .int w)] [.int (d_69 (s.2.2.2.1 p)), .int (s.1 / ((Int8.ofInt 7).toInt32)), .int (d_89 C s p), .ref 25] h) ∧ (¬ (w = 0) → pz_S 5 (some .boolean) am_r104 3 Q 34 [(4, .int (d_69 (s.2.2.2.1 p))), (0, .ref 17), (1, .int (nI p)), (2, .ref 36), (3, .int w)] [.int (d_69 (s.2.2.2.1 p)), .int (s.1 / ((Int8.ofInt 7).toInt32)), .int (d_89 C s p), .ref 25] h) from ⟨by decide, fun c236 => ?_, fun c236 => ?_⟩)
    · refine am_goX 1 (show pz_S 5 (some .boolean) am_r104 3 Q 39 [(4, .int (d_69 (s.2.2.2.1 p))), (0, .ref 17), (1, .int (nI p)), (2, .ref 36), (3, .int w)] [.int (Int32.ofInt 0), .int (d_69 (s.2.2.2.1 p)), .int (s.1 / ((Int8.ofInt 7).toInt32)), .int (d_89 C s p), .ref 25] h from ?_)
      exact sv_S2 sv2_104 (fun q hq => absurd hq List.not_mem_nil) (key _ (if_pos c236).symm)
    · refine am_goX 2 (show pz_S 5 (some .boolean) am_r104 3 Q 39 [(4, .int (d_69 (s.2.2.2.1 p))), (0, .ref 17), (1, .int (nI p)), (2, .ref 36), (3, .int w)] [.int (Int32.ofInt 1), .int (d_69 (s.2.2.2.1 p)), .int (s.1 / ((Int8.ofInt 7).toInt32)), .int (d_89 C s p), .ref 25] h from ?_)
      exact sv_S2 sv2_104 (fun q hq => absurd hq List.not_mem_nil) (key _ (if_neg c236).symm)
  intro v237 e238
  subst e238
  refine am_goX 1 (show am_rc h 25 3 ∧ 0 ≤ 8 ∧ h.2.2.2.2 + am_al 105 ≤ 175 ∧ am_call am_cod 3 105 [.ref 25, .int (d_89 C s p), .int (s.1 / ((Int8.ofInt 7).toInt32)), .int (d_69 (s.2.2.2.1 p)), .int (if w = 0 then Int32.ofInt 0 else Int32.ofInt 1)] h (fun vv h' => pz_S 5 (some .boolean) am_r104 3 Q 42 [] (vv.toList ++ []) h') from ⟨Or.inl ⟨by decide, ex_25 hP⟩, by decide, ex_lim hP rfl, am_call.up (q_105_17 hP hT (fun h239 l240 => ?_)) (by decide)⟩)
  have f241 : ex_P h239 := lfr_P l240 hP
  have f242 : cI C := hI
  have f243 : c_v 17 C h239 := lfr_c l240 (by omega) hT
  have f244 : c_d 17 C h239 := lfr_d l240 (by omega) hD
  have f245 : sC 36 s h239 := lfr_s l240 (by omega) hS
  have f246 : fC 17 h0 h239 := fC_l l240 hX
  suffices key : ∀ (v248 : Int32), v248 = (if (dlaw C (d_89 C s p) (s.1 / ((Int8.ofInt 7).toInt32)) (d_69 (s.2.2.2.1 p)) (if w = 0 then Int32.ofInt 0 else Int32.ofInt 1)) = 0 then Int32.ofInt 0 else Int32.ofInt 1) → pz_S 5 (some .boolean) am_r104 3 Q 50 [] [.int v248] h239 by
    refine am_goX 1 (show ((dlaw C (d_89 C s p) (s.1 / ((Int8.ofInt 7).toInt32)) (d_69 (s.2.2.2.1 p)) (if w = 0 then Int32.ofInt 0 else Int32.ofInt 1)) = 0 → pz_S 5 (some .boolean) am_r104 3 Q 49 [] [] h239) ∧ (¬ ((dlaw C (d_89 C s p) (s.1 / ((Int8.ofInt 7).toInt32)) (d_69 (s.2.2.2.1 p)) (if w = 0 then Int32.ofInt 0 else Int32.ofInt 1)) = 0) → pz_S 5 (some .boolean) am_r104 3 Q 45 [] [] h239) from ⟨fun c247 => ?_, fun c247 => ?_⟩)
    · refine am_goX 1 (show pz_S 5 (some .boolean) am_r104 3 Q 50 [] [.int (Int32.ofInt 0)] h239 from ?_)
      exact sv_S2 sv2_104 (fun q hq => absurd hq List.not_mem_nil) (key _ (if_pos c247).symm)
    · refine am_goX 2 (show pz_S 5 (some .boolean) am_r104 3 Q 50 [] [.int (Int32.ofInt 1)] h239 from ?_)
      exact sv_S2 sv2_104 (fun q hq => absurd hq List.not_mem_nil) (key _ (if_neg c247).symm)
  intro v248 e249
  subst e249
  exact am_goX 1 (show (∃ ty, (some .boolean) = some ty ∧ narrow ty (.int (if (dlaw C (d_89 C s p) (s.1 / ((Int8.ofInt 7).toInt32)) (d_69 (s.2.2.2.1 p)) (if w = 0 then Int32.ofInt 0 else Int32.ofInt 1)) = 0 then Int32.ofInt 0 else Int32.ofInt 1)) = .int (if (dlaw C (d_89 C s p) (s.1 / ((Int8.ofInt 7).toInt32)) (d_69 (s.2.2.2.1 p)) (if w = 0 then Int32.ofInt 0 else Int32.ofInt 1)) = 0 then Int32.ofInt 0 else Int32.ofInt 1)) ∧ h239.2.2.2.2 = 175 ∧ _ from ⟨⟨.boolean, rfl, (by (repeat' split) <;> rfl)⟩, ex_175 f241, hQ _ f241 f242 f243 f244 f245 f246⟩)
theorem d_101_2_t17_36 : ∀ (m k : Nat) (s : dS) (h : am_H), k + m = dE C → (ex_P h) → (cI C) → (c_v 17 C h) → (c_d 17 C h) → (sC 36 s h) → (fC 17 h0 h) → (∀ h1, (ex_P h1) → (cI C) → (c_v 17 C h1) → (c_d 17 C h1) → (sC 36 (d_101_2 C w m k s) h1) → (fC 17 h0 h1) → pz_S 6 none am_r101 4 Q 23 [(0, .ref 17), (1, .ref 36), (2, .int w)] [] h1) → pz_S 6 none am_r101 4 Q 2 [(0, .ref 17), (1, .ref 36), (2, .int w), (3, .int (nI k))] [] h := by
  intro m
  induction m with
  | zero =>
    intro k s h hk hP hI hT hD hS hX hZ
    have h6 := hT.1.2.1
    have h5 := hT.2.1.2.1
    refine am_goX 3 (show am_sh h 17 = some (0, 0) ∧ pz_S 6 none am_r101 4 Q 7 [(0, .ref 17), (1, .ref 36), (2, .int w), (3, .int (nI k))] [.int (h.1 17 4), .int (nI k)] h from ⟨ex_17 hP, ?_⟩)
    rw [show h.1 17 4 = nI (dE C) from hT.2.1.1]
    refine am_goX 1 (show ((nI (dE C)) ≤ (nI k) → pz_S 6 none am_r101 4 Q 23 [(0, .ref 17), (1, .ref 36), (2, .int w), (3, .int (nI k))] [] h) ∧ (¬ ((nI (dE C)) ≤ (nI k)) → pz_S 6 none am_r101 4 Q 10 [(0, .ref 17), (1, .ref 36), (2, .int w), (3, .int (nI k))] [] h) from ⟨fun _ => ?_, fun hz => absurd (show nI (dE C) ≤ nI k from nI_le (by omega) (by omega)) hz⟩)
    exact sv_S2 sv2_101 (by intro q hq; simp only [List.mem_cons, List.not_mem_nil, or_false] at hq; rcases hq with rfl | rfl | rfl <;> rfl) (hZ _ hP hI hT hD hS hX)
  | succ m ih =>
    intro k s h hk hP hI hT hD hS hX hZ
    have h6 := hT.1.2.1
    have h5 := hT.2.1.2.1
    refine am_goX 3 (show am_sh h 17 = some (0, 0) ∧ pz_S 6 none am_r101 4 Q 7 [(0, .ref 17), (1, .ref 36), (2, .int w), (3, .int (nI k))] [.int (h.1 17 4), .int (nI k)] h from ⟨ex_17 hP, ?_⟩)
    rw [show h.1 17 4 = nI (dE C) from hT.2.1.1]
    refine am_goX 1 (show ((nI (dE C)) ≤ (nI k) → pz_S 6 none am_r101 4 Q 23 [(0, .ref 17), (1, .ref 36), (2, .int w), (3, .int (nI k))] [] h) ∧ (¬ ((nI (dE C)) ≤ (nI k)) → pz_S 6 none am_r101 4 Q 10 [(0, .ref 17), (1, .ref 36), (2, .int w), (3, .int (nI k))] [] h) from ⟨fun hz => absurd hz (show ¬ (nI (dE C) ≤ nI k) by rw [nI_leI (by omega) (by omega)]; omega), fun _ => ?_⟩)
    refine am_goX 2 (show am_sh h 36 = some (6, 0) ∧ pz_S 6 none am_r101 4 Q 14 [(0, .ref 17), (1, .ref 36), (2, .int w), (3, .int (nI k))] [am_rf (h.2.2.1 36 5)] h from ⟨ex_36 hP, ?_⟩)
    rw [show am_rf (h.2.2.1 36 5) = .ref 40 from congrArg am_rf (ex_r36_5 hP)]
    refine am_goX 3 (show ∃ jj nn : Nat, am_so h 40 = some (13, nn) ∧ jj < nn ∧ nI k = nI jj ∧ pz_S 6 none am_r101 4 Q 17 [(0, .ref 17), (1, .ref 36), (2, .int w), (3, .int (nI k))] [] (am_wI h 40 jj (Int32.ofInt 0)) from ⟨k, 5, ex_w40 hP, (by omega), rfl, ?_⟩)
    have f251 : ex_P (am_wI h 40 k (Int32.ofInt 0)) := hP
    have f252 : cI C := hI
    have f253 : c_v 17 C (am_wI h 40 k (Int32.ofInt 0)) := c_v_w (by omega) hT
    have f254 : c_d 17 C (am_wI h 40 k (Int32.ofInt 0)) := c_d_w (by omega) hD
    have f255 : sC 36 (sSA s k (Int32.ofInt 0)) (am_wI h 40 k (Int32.ofInt 0)) := sC_wA (by omega) hS
    have f256 : fC 17 h0 (am_wI h 40 k (Int32.ofInt 0)) := fC_w (by omega) hX
    generalize am_wI h 40 k (Int32.ofInt 0) = h250 at f251 f252 f253 f254 f255 f256 ⊢
    refine am_goX 2 (show 3 < 6 ∧ pz_S 6 none am_r101 4 Q 2 [(3, .int ((nI k) + (Int32.ofInt 1))), (0, .ref 17), (1, .ref 36), (2, .int w)] [] h250 from ⟨by decide, ?_⟩)
    rw [show (nI k) + (Int32.ofInt 1) = nI (k + 1) from (dn_a rfl rfl)]
    exact sv_S2 sv2_101 (by intro q hq; simp only [List.mem_cons, List.not_mem_nil, or_false] at hq; rcases hq with rfl | rfl | rfl | rfl <;> rfl) (ih (k + 1) (sSA s k (Int32.ofInt 0)) _ (by omega) f251 f252 f253 f254 f255 f256 hZ)
theorem d_101_65_t17_36 (n3 : Nat) (x4 : Int32) : ∀ (m k : Nat) (s : dS) (h : am_H), k + m = dE C → (ex_P h) → (cI C) → (c_v 17 C h) → (c_d 17 C h) → (sC 36 s h) → (fC 17 h0 h) → (∀ h1, (ex_P h1) → (cI C) → (c_v 17 C h1) → (c_d 17 C h1) → (sC 36 (d_101_65 C w n3 x4 m k s) h1) → (fC 17 h0 h1) → pz_S 6 none am_r101 4 Q 99 [(0, .ref 17), (1, .ref 36), (2, .int w), (3, .int (nI n3))] [] h1) → pz_S 6 none am_r101 4 Q 65 [(0, .ref 17), (1, .ref 36), (2, .int w), (3, .int (nI n3)), (4, .int x4), (5, .int (nI k))] [] h := by
  intro m
  induction m with
  | zero =>
    intro k s h hk hP hI hT hD hS hX hZ
    have h6 := hT.1.2.1
    have h5 := hT.2.1.2.1
    refine am_goX 3 (show am_sh h 17 = some (0, 0) ∧ pz_S 6 none am_r101 4 Q 71 [(0, .ref 17), (1, .ref 36), (2, .int w), (3, .int (nI n3)), (4, .int x4), (5, .int (nI k))] [.int (h.1 17 4), .int (nI k)] h from ⟨ex_17 hP, ?_⟩)
    rw [show h.1 17 4 = nI (dE C) from hT.2.1.1]
    refine am_goX 1 (show ((nI (dE C)) ≤ (nI k) → pz_S 6 none am_r101 4 Q 99 [(0, .ref 17), (1, .ref 36), (2, .int w), (3, .int (nI n3)), (4, .int x4), (5, .int (nI k))] [] h) ∧ (¬ ((nI (dE C)) ≤ (nI k)) → pz_S 6 none am_r101 4 Q 74 [(0, .ref 17), (1, .ref 36), (2, .int w), (3, .int (nI n3)), (4, .int x4), (5, .int (nI k))] [] h) from ⟨fun _ => ?_, fun hz => absurd (show nI (dE C) ≤ nI k from nI_le (by omega) (by omega)) hz⟩)
    exact sv_S2 sv2_101 (by intro q hq; simp only [List.mem_cons, List.not_mem_nil, or_false] at hq; rcases hq with rfl | rfl | rfl | rfl <;> rfl) (hZ _ hP hI hT hD hS hX)
  | succ m ih =>
    intro k s h hk hP hI hT hD hS hX hZ
    have h6 := hT.1.2.1
    have h5 := hT.2.1.2.1
    refine am_goX 3 (show am_sh h 17 = some (0, 0) ∧ pz_S 6 none am_r101 4 Q 71 [(0, .ref 17), (1, .ref 36), (2, .int w), (3, .int (nI n3)), (4, .int x4), (5, .int (nI k))] [.int (h.1 17 4), .int (nI k)] h from ⟨ex_17 hP, ?_⟩)
    rw [show h.1 17 4 = nI (dE C) from hT.2.1.1]
    refine am_goX 1 (show ((nI (dE C)) ≤ (nI k) → pz_S 6 none am_r101 4 Q 99 [(0, .ref 17), (1, .ref 36), (2, .int w), (3, .int (nI n3)), (4, .int x4), (5, .int (nI k))] [] h) ∧ (¬ ((nI (dE C)) ≤ (nI k)) → pz_S 6 none am_r101 4 Q 74 [(0, .ref 17), (1, .ref 36), (2, .int w), (3, .int (nI n3)), (4, .int x4), (5, .int (nI k))] [] h) from ⟨fun hz => absurd hz (show ¬ (nI (dE C) ≤ nI k) by rw [nI_leI (by omega) (by omega)]; omega), fun _ => ?_⟩)
    refine am_goX 2 (show am_sh h 36 = some (6, 0) ∧ pz_S 6 none am_r101 4 Q 78 [(0, .ref 17), (1, .ref 36), (2, .int w), (3, .int (nI n3)), (4, .int x4), (5, .int (nI k))] [am_rf (h.2.2.1 36 5)] h from ⟨ex_36 hP, ?_⟩)
    rw [show am_rf (h.2.2.1 36 5) = .ref 40 from congrArg am_rf (ex_r36_5 hP)]
    refine am_goX 3 (show (Value.int (nI k)).category = 1 ∧ (Value.ref 40).category = 1 ∧ ∃ jj nn : Nat, am_sh h 40 = some (13, nn) ∧ jj < nn ∧ nI k = nI jj ∧ pz_S 6 none am_r101 4 Q 82 [(0, .ref 17), (1, .ref 36), (2, .int w), (3, .int (nI n3)), (4, .int x4), (5, .int (nI k))] [.int (h.1 40 jj), .int (nI k), .ref 40] h from ⟨rfl, rfl, ⟨k, 5, ex_40 hP, (by omega), rfl, ?_⟩⟩)
    rw [show h.1 40 k = s.2.2.2.2.2 k from (hS.2.2 k (by omega)).2]
    refine am_goX 9 (show ∃ jj nn : Nat, am_so h 40 = some (13, nn) ∧ jj < nn ∧ nI k = nI jj ∧ pz_S 6 none am_r101 4 Q 93 [(0, .ref 17), (1, .ref 36), (2, .int w), (3, .int (nI n3)), (4, .int x4), (5, .int (nI k))] [] (am_wI h 40 jj ((s.2.2.2.2.2 k) ||| (((x4 >>> ((nI k) &&& 31)) &&& (Int32.ofInt 1)) <<< ((nI n3) &&& 31)))) from ⟨k, 5, ex_w40 hP, (by omega), rfl, ?_⟩)
    have f274 : ex_P (am_wI h 40 k ((s.2.2.2.2.2 k) ||| (((x4 >>> ((nI k) &&& 31)) &&& (Int32.ofInt 1)) <<< ((nI n3) &&& 31)))) := hP
    have f275 : cI C := hI
    have f276 : c_v 17 C (am_wI h 40 k ((s.2.2.2.2.2 k) ||| (((x4 >>> ((nI k) &&& 31)) &&& (Int32.ofInt 1)) <<< ((nI n3) &&& 31)))) := c_v_w (by omega) hT
    have f277 : c_d 17 C (am_wI h 40 k ((s.2.2.2.2.2 k) ||| (((x4 >>> ((nI k) &&& 31)) &&& (Int32.ofInt 1)) <<< ((nI n3) &&& 31)))) := c_d_w (by omega) hD
    have f278 : sC 36 (sSA s k ((s.2.2.2.2.2 k) ||| (((x4 >>> ((nI k) &&& 31)) &&& (Int32.ofInt 1)) <<< ((nI n3) &&& 31)))) (am_wI h 40 k ((s.2.2.2.2.2 k) ||| (((x4 >>> ((nI k) &&& 31)) &&& (Int32.ofInt 1)) <<< ((nI n3) &&& 31)))) := sC_wA (by omega) hS
    have f279 : fC 17 h0 (am_wI h 40 k ((s.2.2.2.2.2 k) ||| (((x4 >>> ((nI k) &&& 31)) &&& (Int32.ofInt 1)) <<< ((nI n3) &&& 31)))) := fC_w (by omega) hX
    generalize am_wI h 40 k ((s.2.2.2.2.2 k) ||| (((x4 >>> ((nI k) &&& 31)) &&& (Int32.ofInt 1)) <<< ((nI n3) &&& 31))) = h273 at f274 f275 f276 f277 f278 f279 ⊢
    refine am_goX 2 (show 5 < 6 ∧ pz_S 6 none am_r101 4 Q 65 [(5, .int ((nI k) + (Int32.ofInt 1))), (0, .ref 17), (1, .ref 36), (2, .int w), (3, .int (nI n3)), (4, .int x4)] [] h273 from ⟨by decide, ?_⟩)
    rw [show (nI k) + (Int32.ofInt 1) = nI (k + 1) from (dn_a rfl rfl)]
    exact sv_S2 sv2_101 (by intro q hq; simp only [List.mem_cons, List.not_mem_nil, or_false] at hq; rcases hq with rfl | rfl | rfl | rfl | rfl | rfl <;> rfl) (ih (k + 1) (sSA s k ((s.2.2.2.2.2 k) ||| (((x4 >>> ((nI k) &&& 31)) &&& (Int32.ofInt 1)) <<< ((nI n3) &&& 31)))) _ (by omega) f274 f275 f276 f277 f278 f279 hZ)
theorem d_101_25_t17_36 : ∀ (m k : Nat) (s : dS) (h : am_H), k + m = dP C → (ex_P h) → (cI C) → (c_v 17 C h) → (c_d 17 C h) → (sC 36 s h) → (fC 17 h0 h) → (∀ h1, (ex_P h1) → (cI C) → (c_v 17 C h1) → (c_d 17 C h1) → (sC 36 (d_101_25 C w m k s) h1) → (fC 17 h0 h1) → pz_S 6 none am_r101 4 Q 105 [] [] h1) → pz_S 6 none am_r101 4 Q 25 [(0, .ref 17), (1, .ref 36), (2, .int w), (3, .int (nI k))] [] h := by
  intro m
  induction m with
  | zero =>
    intro k s h hk hP hI hT hD hS hX hZ
    have h6 := hT.1.2.1
    have h5 := hT.2.1.2.1
    refine am_goX 3 (show am_sh h 17 = some (0, 0) ∧ pz_S 6 none am_r101 4 Q 30 [(0, .ref 17), (1, .ref 36), (2, .int w), (3, .int (nI k))] [.int (h.1 17 0), .int (nI k)] h from ⟨ex_17 hP, ?_⟩)
    rw [show h.1 17 0 = nI (dP C) from hT.1.1]
    refine am_goX 1 (show ((nI (dP C)) ≤ (nI k) → pz_S 6 none am_r101 4 Q 105 [(0, .ref 17), (1, .ref 36), (2, .int w), (3, .int (nI k))] [] h) ∧ (¬ ((nI (dP C)) ≤ (nI k)) → pz_S 6 none am_r101 4 Q 33 [(0, .ref 17), (1, .ref 36), (2, .int w), (3, .int (nI k))] [] h) from ⟨fun _ => ?_, fun hz => absurd (show nI (dP C) ≤ nI k from nI_le (by omega) (by omega)) hz⟩)
    exact sv_S2 sv2_101 (fun q hq => absurd hq List.not_mem_nil) (hZ _ hP hI hT hD hS hX)
  | succ m ih =>
    intro k s h hk hP hI hT hD hS hX hZ
    have h6 := hT.1.2.1
    have h5 := hT.2.1.2.1
    refine am_goX 3 (show am_sh h 17 = some (0, 0) ∧ pz_S 6 none am_r101 4 Q 30 [(0, .ref 17), (1, .ref 36), (2, .int w), (3, .int (nI k))] [.int (h.1 17 0), .int (nI k)] h from ⟨ex_17 hP, ?_⟩)
    rw [show h.1 17 0 = nI (dP C) from hT.1.1]
    refine am_goX 1 (show ((nI (dP C)) ≤ (nI k) → pz_S 6 none am_r101 4 Q 105 [(0, .ref 17), (1, .ref 36), (2, .int w), (3, .int (nI k))] [] h) ∧ (¬ ((nI (dP C)) ≤ (nI k)) → pz_S 6 none am_r101 4 Q 33 [(0, .ref 17), (1, .ref 36), (2, .int w), (3, .int (nI k))] [] h) from ⟨fun hz => absurd hz (show ¬ (nI (dP C) ≤ nI k) by rw [nI_leI (by omega) (by omega)]; omega), fun _ => ?_⟩)
    refine am_goX 7 (show am_rc h 17 0 ∧ 2 ≤ 8 ∧ h.2.2.2.2 + am_al 88 ≤ 175 ∧ am_call am_cod 4 88 [.ref 17, .int (nI k), .ref 36, .int w] h (fun vv h' => pz_S 6 none am_r101 4 Q 42 [(0, .ref 17), (1, .ref 36), (2, .int w), (3, .int (nI k))] (vv.toList ++ [.int (nI k), .ref 17]) h') from ⟨Or.inl ⟨by decide, ex_17 hP⟩, by decide, ex_lim hP rfl, am_call.up (d_88_t17_36 hP hI hT hD hS hX (by omega) ?_) (by decide)⟩)
    refine am_goX 1 (show am_rc h 17 0 ∧ 0 ≤ 8 ∧ h.2.2.2.2 + am_al 102 ≤ 175 ∧ am_call am_cod 4 102 [.ref 17, .int (nI k), .int (d_88 C s k w)] h (fun vv h' => pz_S 6 none am_r101 4 Q 45 [(0, .ref 17), (1, .ref 36), (2, .int w), (3, .int (nI k))] (vv.toList ++ []) h') from ⟨Or.inl ⟨by decide, ex_17 hP⟩, by decide, ex_lim hP rfl, am_call.up (d_102_w17 hP hT hD (by omega) ?_) (by decide)⟩)
    refine am_goX 3 (show 4 < 6 ∧ ((d_102 C k (d_88 C s k w)) = 0 → pz_S 6 none am_r101 4 Q 99 [(4, .int (d_102 C k (d_88 C s k w))), (0, .ref 17), (1, .ref 36), (2, .int w), (3, .int (nI k))] [] h) ∧ (¬ ((d_102 C k (d_88 C s k w)) = 0) → pz_S 6 none am_r101 4 Q 52 [(4, .int (d_102 C k (d_88 C s k w))), (0, .ref 17), (1, .ref 36), (2, .int w), (3, .int (nI k))] [] h) from ⟨by decide, fun c264 => ?_, fun c264 => ?_⟩)
    · refine am_goX 2 (show 3 < 6 ∧ pz_S 6 none am_r101 4 Q 25 [(3, .int ((nI k) + (Int32.ofInt 1))), (4, .int (d_102 C k (d_88 C s k w))), (0, .ref 17), (1, .ref 36), (2, .int w)] [] h from ⟨by decide, ?_⟩)
      rw [show d_101_25 C w (m + 1) k s = d_101_25 C w m (k + 1) s from if_pos c264] at hZ
      rw [show (nI k) + (Int32.ofInt 1) = nI (k + 1) from (dn_a rfl rfl)]
      exact sv_S2 sv2_101 (by intro q hq; simp only [List.mem_cons, List.not_mem_nil, or_false] at hq; rcases hq with rfl | rfl | rfl | rfl <;> rfl) (ih (k + 1) s _ (by omega) hP hI hT hD hS hX hZ)
    · refine am_goX 5 (show am_rc h 17 0 ∧ 0 ≤ 8 ∧ h.2.2.2.2 + am_al 104 ≤ 175 ∧ am_call am_cod 4 104 [.ref 17, .int (nI k), .ref 36, .int w] h (fun vv h' => pz_S 6 none am_r101 4 Q 59 [(4, .int (d_102 C k (d_88 C s k w))), (0, .ref 17), (1, .ref 36), (2, .int w), (3, .int (nI k))] (vv.toList ++ []) h') from ⟨Or.inl ⟨by decide, ex_17 hP⟩, by decide, ex_lim hP rfl, am_call.up (d_104_t17_36 hP hI hT hD hS hX (by omega) (fun h265 f266 f267 f268 f269 f270 f271 => ?_)) (by decide)⟩)
      refine am_goX 1 (show ((d_104 C s k w) = 0 → pz_S 6 none am_r101 4 Q 99 [(4, .int (d_102 C k (d_88 C s k w))), (0, .ref 17), (1, .ref 36), (2, .int w), (3, .int (nI k))] [] h265) ∧ (¬ ((d_104 C s k w) = 0) → pz_S 6 none am_r101 4 Q 62 [(4, .int (d_102 C k (d_88 C s k w))), (0, .ref 17), (1, .ref 36), (2, .int w), (3, .int (nI k))] [] h265) from ⟨fun c272 => ?_, fun c272 => ?_⟩)
      · refine am_goX 2 (show 3 < 6 ∧ pz_S 6 none am_r101 4 Q 25 [(3, .int ((nI k) + (Int32.ofInt 1))), (4, .int (d_102 C k (d_88 C s k w))), (0, .ref 17), (1, .ref 36), (2, .int w)] [] h265 from ⟨by decide, ?_⟩)
        rw [show d_101_25 C w (m + 1) k s = d_101_25 C w m (k + 1) s from (if_neg c264).trans (if_pos c272)] at hZ
        rw [show (nI k) + (Int32.ofInt 1) = nI (k + 1) from (dn_a rfl rfl)]
        exact sv_S2 sv2_101 (by intro q hq; simp only [List.mem_cons, List.not_mem_nil, or_false] at hq; rcases hq with rfl | rfl | rfl | rfl <;> rfl) (ih (k + 1) s _ (by omega) f266 f267 f268 f269 f270 f271 hZ)
      · refine am_goX 2 (show 5 < 6 ∧ pz_S 6 none am_r101 4 Q 65 [(5, .int (Int32.ofInt 0)), (4, .int (d_102 C k (d_88 C s k w))), (0, .ref 17), (1, .ref 36), (2, .int w), (3, .int (nI k))] [] h265 from ⟨by decide, ?_⟩)
        refine sv_S2 sv2_101 (by intro q hq; simp only [List.mem_cons, List.not_mem_nil, or_false] at hq; rcases hq with rfl | rfl | rfl | rfl | rfl | rfl <;> rfl) (d_101_65_t17_36 k (d_102 C k (d_88 C s k w)) (dE C) 0 s _ (by omega) f266 f267 f268 f269 f270 f271 (fun h273 f274 f275 f276 f277 f278 f279 => ?_))
        refine am_goX 2 (show 3 < 6 ∧ pz_S 6 none am_r101 4 Q 25 [(3, .int ((nI k) + (Int32.ofInt 1))), (0, .ref 17), (1, .ref 36), (2, .int w)] [] h273 from ⟨by decide, ?_⟩)
        rw [show d_101_25 C w (m + 1) k s = d_101_25 C w m (k + 1) (d_101_65 C w k (d_102 C k (d_88 C s k w)) (dE C) 0 s) from (if_neg c264).trans (if_neg c272)] at hZ
        rw [show (nI k) + (Int32.ofInt 1) = nI (k + 1) from (dn_a rfl rfl)]
        exact sv_S2 sv2_101 (by intro q hq; simp only [List.mem_cons, List.not_mem_nil, or_false] at hq; rcases hq with rfl | rfl | rfl | rfl <;> rfl) (ih (k + 1) (d_101_65 C w k (d_102 C k (d_88 C s k w)) (dE C) 0 s) _ (by omega) f274 f275 f276 f277 f278 f279 hZ)
theorem d_101_t17_36 (hP : ex_P h) (hI : cI C) (hT : c_v 17 C h) (hD : c_d 17 C h) (hS : sC 36 s h) (hX : fC 17 h0 h)  (hQ : ∀ h1, (ex_P h1) → (cI C) → (c_v 17 C h1) → (c_d 17 C h1) → (sC 36 (d_101_s C s w) h1) → (fC 17 h0 h1) → Q none h1) : am_call am_cod 5 101 [.ref 17, .ref 36, .int w] h Q := by
  have h6 := hT.1.2.1
  have h5 := hT.2.1.2.1
  refine pz_call (n := 101) (nL := 6) (rt := none) (rows := am_r101) (d := 4) (by decide +kernel) (by decide +kernel) rfl (by funext pc; rfl) (ex_175 hP) (by exact Nat.le_of_ble_eq_true rfl) ?_
  refine am_goX 2 (show 3 < 6 ∧ pz_S 6 none am_r101 4 Q 2 [(3, .int (Int32.ofInt 0)), (0, .ref 17), (1, .ref 36), (2, .int w)] [] h from ⟨by decide, ?_⟩)
  refine sv_S2 sv2_101 (by intro q hq; simp only [List.mem_cons, List.not_mem_nil, or_false] at hq; rcases hq with rfl | rfl | rfl | rfl <;> rfl) (d_101_2_t17_36 (dE C) 0 s _ (by omega) hP hI hT hD hS hX (fun h257 f258 f259 f260 f261 f262 f263 => ?_))
  refine am_goX 2 (show 3 < 6 ∧ pz_S 6 none am_r101 4 Q 25 [(3, .int (Int32.ofInt 0)), (0, .ref 17), (1, .ref 36), (2, .int w)] [] h257 from ⟨by decide, ?_⟩)
  refine sv_S2 sv2_101 (by intro q hq; simp only [List.mem_cons, List.not_mem_nil, or_false] at hq; rcases hq with rfl | rfl | rfl | rfl <;> rfl) (d_101_25_t17_36 (dP C) 0 (d_101_2 C w (dE C) 0 s) _ (by omega) f258 f259 f260 f261 f262 f263 (fun h280 f281 f282 f283 f284 f285 f286 => ?_))
  exact am_goX 1 (show (none : Option FieldType) = none ∧ h280.2.2.2.2 = 175 ∧ _ from ⟨rfl, ex_175 f281, hQ _ f281 f282 f283 f284 f285 f286⟩)
theorem d_108_2_t17_36 : ∀ (m k : Nat) (s : dS) (h : am_H), k + m = 6 → (ex_P h) → (cI C) → (c_v 17 C h) → (c_d 17 C h) → (sC 36 s h) → (fC 17 h0 h) → (∀ h1, (ex_P h1) → (cI C) → (c_v 17 C h1) → (c_d 17 C h1) → (sC 36 (d_108_2 x m k s) h1) → (fC 17 h0 h1) → pz_S 3 none am_r108 1 Q 38 [] [] h1) → pz_S 3 none am_r108 1 Q 2 [(0, .ref 36), (1, .int x), (2, .int (nI k))] [] h := by
  intro m
  induction m with
  | zero =>
    intro k s h hk hP hI hT hD hS hX hZ
    have h6 := hT.1.2.1
    have h5 := hT.2.1.2.1
    refine am_goX 3 (show (((Int8.ofInt 6).toInt32) ≤ (nI k) → pz_S 3 none am_r108 1 Q 38 [(0, .ref 36), (1, .int x), (2, .int (nI k))] [] h) ∧ (¬ (((Int8.ofInt 6).toInt32) ≤ (nI k)) → pz_S 3 none am_r108 1 Q 8 [(0, .ref 36), (1, .int x), (2, .int (nI k))] [] h) from ⟨fun _ => ?_, fun hz => absurd (show nI 6 ≤ nI k from nI_le (by omega) (by omega)) hz⟩)
    exact sv_S2 sv2_108 (fun q hq => absurd hq List.not_mem_nil) (hZ _ hP hI hT hD hS hX)
  | succ m ih =>
    intro k s h hk hP hI hT hD hS hX hZ
    have h6 := hT.1.2.1
    have h5 := hT.2.1.2.1
    refine am_goX 3 (show (((Int8.ofInt 6).toInt32) ≤ (nI k) → pz_S 3 none am_r108 1 Q 38 [(0, .ref 36), (1, .int x), (2, .int (nI k))] [] h) ∧ (¬ (((Int8.ofInt 6).toInt32) ≤ (nI k)) → pz_S 3 none am_r108 1 Q 8 [(0, .ref 36), (1, .int x), (2, .int (nI k))] [] h) from ⟨fun hz => absurd hz (show ¬ (nI 6 ≤ nI k) by rw [nI_leI (by omega) (by omega)]; omega), fun _ => ?_⟩)
    refine am_goX 3 (show 0 ≤ 8 ∧ h.2.2.2.2 + am_al 65 ≤ 175 ∧ am_call am_cod 1 65 [.int x, .int (nI k)] h (fun vv h' => pz_S 3 none am_r108 1 Q 13 [(0, .ref 36), (1, .int x), (2, .int (nI k))] (vv.toList ++ []) h') from ⟨by decide, ex_lim hP rfl, am_call.up (d_65_w hP ?_) (by decide)⟩)
    refine am_goX 1 (show ((d_65 x (nI k)) = 0 → pz_S 3 none am_r108 1 Q 32 [(0, .ref 36), (1, .int x), (2, .int (nI k))] [] h) ∧ (¬ ((d_65 x (nI k)) = 0) → pz_S 3 none am_r108 1 Q 16 [(0, .ref 36), (1, .int x), (2, .int (nI k))] [] h) from ⟨fun c287 => ?_, fun c287 => ?_⟩)
    · refine am_goX 2 (show 2 < 3 ∧ pz_S 3 none am_r108 1 Q 2 [(2, .int ((nI k) + (Int32.ofInt 1))), (0, .ref 36), (1, .int x)] [] h from ⟨by decide, ?_⟩)
      rw [show d_108_2 x (m + 1) k s = d_108_2 x m (k + 1) s from if_pos c287] at hZ
      rw [show (nI k) + (Int32.ofInt 1) = nI (k + 1) from (dn_a rfl rfl)]
      exact sv_S2 sv2_108 (by intro q hq; simp only [List.mem_cons, List.not_mem_nil, or_false] at hq; rcases hq with rfl | rfl | rfl <;> rfl) (ih (k + 1) s _ (by omega) hP hI hT hD hS hX hZ)
    · refine am_goX 2 (show am_sh h 36 = some (6, 0) ∧ pz_S 3 none am_r108 1 Q 20 [(0, .ref 36), (1, .int x), (2, .int (nI k))] [am_rf (h.2.2.1 36 3)] h from ⟨ex_36 hP, ?_⟩)
      rw [show am_rf (h.2.2.1 36 3) = .ref 38 from congrArg am_rf (ex_r36_3 hP)]
      refine am_goX 3 (show (Value.int (nI k)).category = 1 ∧ (Value.ref 38).category = 1 ∧ ∃ jj nn : Nat, am_sh h 38 = some (13, nn) ∧ jj < nn ∧ nI k = nI jj ∧ pz_S 3 none am_r108 1 Q 23 [(0, .ref 36), (1, .int x), (2, .int (nI k))] [.int (h.1 38 jj), .int (nI k), .ref 38] h from ⟨rfl, rfl, ⟨k, 6, ex_38 hP, (by omega), rfl, ?_⟩⟩)
      rw [show h.1 38 k = s.2.2.2.1 k from (hS.2.1 k (by omega)).2]
      refine am_goX 9 (show ∃ jj nn : Nat, am_so h 38 = some (13, nn) ∧ jj < nn ∧ nI k = nI jj ∧ pz_S 3 none am_r108 1 Q 32 [(0, .ref 36), (1, .int x), (2, .int (nI k))] [] (am_wI h 38 jj ((s.2.2.2.1 k) ||| (x &&& (((Int32.ofInt 1) <<< ((nI k) &&& 31)) ^^^ (Int32.ofInt (-1)))))) from ⟨k, 6, ex_w38 hP, (by omega), rfl, ?_⟩)
      have f289 : ex_P (am_wI h 38 k ((s.2.2.2.1 k) ||| (x &&& (((Int32.ofInt 1) <<< ((nI k) &&& 31)) ^^^ (Int32.ofInt (-1)))))) := hP
      have f290 : cI C := hI
      have f291 : c_v 17 C (am_wI h 38 k ((s.2.2.2.1 k) ||| (x &&& (((Int32.ofInt 1) <<< ((nI k) &&& 31)) ^^^ (Int32.ofInt (-1)))))) := c_v_w (by omega) hT
      have f292 : c_d 17 C (am_wI h 38 k ((s.2.2.2.1 k) ||| (x &&& (((Int32.ofInt 1) <<< ((nI k) &&& 31)) ^^^ (Int32.ofInt (-1)))))) := c_d_w (by omega) hD
      have f293 : sC 36 (sSM s k ((s.2.2.2.1 k) ||| (x &&& (((Int32.ofInt 1) <<< ((nI k) &&& 31)) ^^^ (Int32.ofInt (-1)))))) (am_wI h 38 k ((s.2.2.2.1 k) ||| (x &&& (((Int32.ofInt 1) <<< ((nI k) &&& 31)) ^^^ (Int32.ofInt (-1)))))) := sC_wM (by omega) hS
      have f294 : fC 17 h0 (am_wI h 38 k ((s.2.2.2.1 k) ||| (x &&& (((Int32.ofInt 1) <<< ((nI k) &&& 31)) ^^^ (Int32.ofInt (-1)))))) := fC_w (by omega) hX
      generalize am_wI h 38 k ((s.2.2.2.1 k) ||| (x &&& (((Int32.ofInt 1) <<< ((nI k) &&& 31)) ^^^ (Int32.ofInt (-1))))) = h288 at f289 f290 f291 f292 f293 f294 ⊢
      refine am_goX 2 (show 2 < 3 ∧ pz_S 3 none am_r108 1 Q 2 [(2, .int ((nI k) + (Int32.ofInt 1))), (0, .ref 36), (1, .int x)] [] h288 from ⟨by decide, ?_⟩)
      rw [show d_108_2 x (m + 1) k s = d_108_2 x m (k + 1) (sSM s k ((s.2.2.2.1 k) ||| (x &&& (((Int32.ofInt 1) <<< ((nI k) &&& 31)) ^^^ (Int32.ofInt (-1)))))) from if_neg c287] at hZ
      rw [show (nI k) + (Int32.ofInt 1) = nI (k + 1) from (dn_a rfl rfl)]
      exact sv_S2 sv2_108 (by intro q hq; simp only [List.mem_cons, List.not_mem_nil, or_false] at hq; rcases hq with rfl | rfl | rfl <;> rfl) (ih (k + 1) (sSM s k ((s.2.2.2.1 k) ||| (x &&& (((Int32.ofInt 1) <<< ((nI k) &&& 31)) ^^^ (Int32.ofInt (-1)))))) _ (by omega) f289 f290 f291 f292 f293 f294 hZ)
theorem d_108_t17_36 (hP : ex_P h) (hI : cI C) (hT : c_v 17 C h) (hD : c_d 17 C h) (hS : sC 36 s h) (hX : fC 17 h0 h)  (hQ : ∀ h1, (ex_P h1) → (cI C) → (c_v 17 C h1) → (c_d 17 C h1) → (sC 36 (d_108_s s x) h1) → (fC 17 h0 h1) → Q none h1) : am_call am_cod 2 108 [.ref 36, .int x] h Q := by
  have h6 := hT.1.2.1
  have h5 := hT.2.1.2.1
  refine pz_call (n := 108) (nL := 3) (rt := none) (rows := am_r108) (d := 1) (by decide +kernel) (by decide +kernel) rfl (by funext pc; rfl) (ex_175 hP) (by exact Nat.le_of_ble_eq_true rfl) ?_
  refine am_goX 2 (show 2 < 3 ∧ pz_S 3 none am_r108 1 Q 2 [(2, .int (Int32.ofInt 0)), (0, .ref 36), (1, .int x)] [] h from ⟨by decide, ?_⟩)
  refine sv_S2 sv2_108 (by intro q hq; simp only [List.mem_cons, List.not_mem_nil, or_false] at hq; rcases hq with rfl | rfl | rfl <;> rfl) (d_108_2_t17_36 6 0 s _ (by omega) hP hI hT hD hS hX (fun h295 f296 f297 f298 f299 f300 f301 => ?_))
  exact am_goX 1 (show (none : Option FieldType) = none ∧ h295.2.2.2.2 = 175 ∧ _ from ⟨rfl, ex_175 f296, hQ _ f296 f297 f298 f299 f300 f301⟩)
theorem d_100_21_t17_36 : ∀ (m k : Nat) (a3 : Int32) (s : dS) (h : am_H), k + m = dE C → (ex_P h) → (cI C) → (c_v 17 C h) → (c_d 17 C h) → (sC 36 s h) → (fC 17 h0 h) → (∀ h1, (ex_P h1) → (cI C) → (c_v 17 C h1) → (c_d 17 C h1) → (sC 36 ((d_100_21 C m k a3 s).2) h1) → (fC 17 h0 h1) → pz_S 5 (some .int) am_r100 5 Q 85 [(3, .int ((d_100_21 C m k a3 s).1))] [] h1) → pz_S 5 (some .int) am_r100 5 Q 21 [(0, .ref 17), (1, .ref 36), (3, .int a3), (4, .int (nI k))] [] h := by
  intro m
  induction m with
  | zero =>
    intro k a3 s h hk hP hI hT hD hS hX hZ
    have h6 := hT.1.2.1
    have h5 := hT.2.1.2.1
    refine am_goX 3 (show am_sh h 17 = some (0, 0) ∧ pz_S 5 (some .int) am_r100 5 Q 27 [(0, .ref 17), (1, .ref 36), (3, .int a3), (4, .int (nI k))] [.int (h.1 17 4), .int (nI k)] h from ⟨ex_17 hP, ?_⟩)
    rw [show h.1 17 4 = nI (dE C) from hT.2.1.1]
    refine am_goX 1 (show ((nI (dE C)) ≤ (nI k) → pz_S 5 (some .int) am_r100 5 Q 85 [(0, .ref 17), (1, .ref 36), (3, .int a3), (4, .int (nI k))] [] h) ∧ (¬ ((nI (dE C)) ≤ (nI k)) → pz_S 5 (some .int) am_r100 5 Q 30 [(0, .ref 17), (1, .ref 36), (3, .int a3), (4, .int (nI k))] [] h) from ⟨fun _ => ?_, fun hz => absurd (show nI (dE C) ≤ nI k from nI_le (by omega) (by omega)) hz⟩)
    exact sv_S2 sv2_100 (by intro q hq; simp only [List.mem_cons, List.not_mem_nil, or_false] at hq; rcases hq with rfl <;> rfl) (hZ _ hP hI hT hD hS hX)
  | succ m ih =>
    intro k a3 s h hk hP hI hT hD hS hX hZ
    have h6 := hT.1.2.1
    have h5 := hT.2.1.2.1
    refine am_goX 3 (show am_sh h 17 = some (0, 0) ∧ pz_S 5 (some .int) am_r100 5 Q 27 [(0, .ref 17), (1, .ref 36), (3, .int a3), (4, .int (nI k))] [.int (h.1 17 4), .int (nI k)] h from ⟨ex_17 hP, ?_⟩)
    rw [show h.1 17 4 = nI (dE C) from hT.2.1.1]
    refine am_goX 1 (show ((nI (dE C)) ≤ (nI k) → pz_S 5 (some .int) am_r100 5 Q 85 [(0, .ref 17), (1, .ref 36), (3, .int a3), (4, .int (nI k))] [] h) ∧ (¬ ((nI (dE C)) ≤ (nI k)) → pz_S 5 (some .int) am_r100 5 Q 30 [(0, .ref 17), (1, .ref 36), (3, .int a3), (4, .int (nI k))] [] h) from ⟨fun hz => absurd hz (show ¬ (nI (dE C) ≤ nI k) by rw [nI_leI (by omega) (by omega)]; omega), fun _ => ?_⟩)
    refine am_goX 3 (show am_sh h 36 = some (6, 0) ∧ pz_S 5 (some .int) am_r100 5 Q 35 [(0, .ref 17), (1, .ref 36), (3, .int a3), (4, .int (nI k))] [am_rf (h.2.2.1 36 5), .ref 36] h from ⟨ex_36 hP, ?_⟩)
    rw [show am_rf (h.2.2.1 36 5) = .ref 40 from congrArg am_rf (ex_r36_5 hP)]
    refine am_goX 2 (show ∃ jj nn : Nat, am_sh h 40 = some (13, nn) ∧ jj < nn ∧ nI k = nI jj ∧ pz_S 5 (some .int) am_r100 5 Q 38 [(0, .ref 17), (1, .ref 36), (3, .int a3), (4, .int (nI k))] [.int (h.1 40 jj), .ref 36] h from ⟨k, 5, ex_40 hP, (by omega), rfl, ?_⟩)
    rw [show h.1 40 k = s.2.2.2.2.2 k from (hS.2.2 k (by omega)).2]
    refine am_goX 1 (show am_rc h 36 6 ∧ 0 ≤ 8 ∧ h.2.2.2.2 + am_al 108 ≤ 175 ∧ am_call am_cod 5 108 [.ref 36, .int (s.2.2.2.2.2 k)] h (fun vv h' => pz_S 5 (some .int) am_r100 5 Q 41 [(0, .ref 17), (1, .ref 36), (3, .int a3), (4, .int (nI k))] (vv.toList ++ []) h') from ⟨Or.inl ⟨by decide, ex_36 hP⟩, by decide, ex_lim hP rfl, am_call.up (d_108_t17_36 hP hI hT hD hS hX (fun h316 f317 f318 f319 f320 f321 f322 => ?_)) (by decide)⟩)
    refine am_goX 2 (show am_sh h316 36 = some (6, 0) ∧ pz_S 5 (some .int) am_r100 5 Q 45 [(0, .ref 17), (1, .ref 36), (3, .int a3), (4, .int (nI k))] [am_rf (h316.2.2.1 36 5)] h316 from ⟨ex_36 f317, ?_⟩)
    rw [show am_rf (h316.2.2.1 36 5) = .ref 40 from congrArg am_rf (ex_r36_5 f317)]
    refine am_goX 2 (show ∃ jj nn : Nat, am_sh h316 40 = some (13, nn) ∧ jj < nn ∧ nI k = nI jj ∧ pz_S 5 (some .int) am_r100 5 Q 48 [(0, .ref 17), (1, .ref 36), (3, .int a3), (4, .int (nI k))] [.int (h316.1 40 jj)] h316 from ⟨k, 5, ex_40 f317, (by omega), rfl, ?_⟩)
    rw [show h316.1 40 k = (d_108_s s (s.2.2.2.2.2 k)).2.2.2.2.2 k from (f321.2.2 k (by omega)).2]
    refine am_goX 1 (show 0 ≤ 8 ∧ h316.2.2.2.2 + am_al 69 ≤ 175 ∧ am_call am_cod 5 69 [.int ((d_108_s s (s.2.2.2.2.2 k)).2.2.2.2.2 k)] h316 (fun vv h' => pz_S 5 (some .int) am_r100 5 Q 51 [(0, .ref 17), (1, .ref 36), (3, .int a3), (4, .int (nI k))] (vv.toList ++ []) h') from ⟨by decide, ex_lim f317 rfl, am_call.up (d_69_w f317 ?_) (by decide)⟩)
    refine am_goX 2 (show am_sh h316 17 = some (0, 0) ∧ pz_S 5 (some .int) am_r100 5 Q 55 [(0, .ref 17), (1, .ref 36), (3, .int a3), (4, .int (nI k))] [am_rf (h316.2.2.1 17 7), .int (d_69 ((d_108_s s (s.2.2.2.2.2 k)).2.2.2.2.2 k))] h316 from ⟨ex_17 f317, ?_⟩)
    rw [show am_rf (h316.2.2.1 17 7) = .ref 23 from congrArg am_rf (ex_r17_7 f317)]
    refine am_goX 2 (show ∃ jj nn : Nat, am_sh h316 23 = some (13, nn) ∧ jj < nn ∧ nI k = nI jj ∧ pz_S 5 (some .int) am_r100 5 Q 58 [(0, .ref 17), (1, .ref 36), (3, .int a3), (4, .int (nI k))] [.int (h316.1 23 jj), .int (d_69 ((d_108_s s (s.2.2.2.2.2 k)).2.2.2.2.2 k))] h316 from ⟨k, 5, ex_23 f317, (by omega), rfl, ?_⟩)
    rw [show h316.1 23 k = dN C k from (f319.2.1.2.2 k (by omega)).1]
    refine am_goX 1 (show ((d_69 ((d_108_s s (s.2.2.2.2.2 k)).2.2.2.2.2 k)) < (dN C k) → pz_S 5 (some .int) am_r100 5 Q 79 [(0, .ref 17), (1, .ref 36), (3, .int a3), (4, .int (nI k))] [] h316) ∧ (¬ ((d_69 ((d_108_s s (s.2.2.2.2.2 k)).2.2.2.2.2 k)) < (dN C k)) → pz_S 5 (some .int) am_r100 5 Q 61 [(0, .ref 17), (1, .ref 36), (3, .int a3), (4, .int (nI k))] [] h316) from ⟨fun c323 => ?_, fun c323 => ?_⟩)
    · refine am_goX 2 (show 4 < 5 ∧ pz_S 5 (some .int) am_r100 5 Q 21 [(4, .int ((nI k) + (Int32.ofInt 1))), (0, .ref 17), (1, .ref 36), (3, .int a3)] [] h316 from ⟨by decide, ?_⟩)
      rw [show d_100_21 C (m + 1) k a3 s = d_100_21 C m (k + 1) a3 (d_108_s s (s.2.2.2.2.2 k)) from if_pos c323] at hZ
      rw [show (nI k) + (Int32.ofInt 1) = nI (k + 1) from (dn_a rfl rfl)]
      exact sv_S2 sv2_100 (by intro q hq; simp only [List.mem_cons, List.not_mem_nil, or_false] at hq; rcases hq with rfl | rfl | rfl | rfl <;> rfl) (ih (k + 1) a3 (d_108_s s (s.2.2.2.2.2 k)) _ (by omega) f317 f318 f319 f320 f321 f322 hZ)
    · refine am_goX 2 (show am_sh h316 36 = some (6, 0) ∧ pz_S 5 (some .int) am_r100 5 Q 65 [(0, .ref 17), (1, .ref 36), (3, .int a3), (4, .int (nI k))] [am_rf (h316.2.2.1 36 4)] h316 from ⟨ex_36 f317, ?_⟩)
      rw [show am_rf (h316.2.2.1 36 4) = .ref 39 from congrArg am_rf (ex_r36_4 f317)]
      refine am_goX 3 (show (Value.int (nI k)).category = 1 ∧ (Value.ref 39).category = 1 ∧ ∃ jj nn : Nat, am_sh h316 39 = some (13, nn) ∧ jj < nn ∧ nI k = nI jj ∧ pz_S 5 (some .int) am_r100 5 Q 69 [(0, .ref 17), (1, .ref 36), (3, .int a3), (4, .int (nI k))] [.int (h316.1 39 jj), .int (nI k), .ref 39] h316 from ⟨rfl, rfl, ⟨k, 5, ex_39 f317, (by omega), rfl, ?_⟩⟩)
      rw [show h316.1 39 k = (d_108_s s (s.2.2.2.2.2 k)).2.2.2.2.1 k from (f321.2.2 k (by omega)).1]
      refine am_goX 3 (show ∃ jj nn : Nat, am_so h316 39 = some (13, nn) ∧ jj < nn ∧ nI k = nI jj ∧ pz_S 5 (some .int) am_r100 5 Q 72 [(0, .ref 17), (1, .ref 36), (3, .int a3), (4, .int (nI k))] [] (am_wI h316 39 jj (((d_108_s s (s.2.2.2.2.2 k)).2.2.2.2.1 k) + (Int32.ofInt 1))) from ⟨k, 5, ex_w39 f317, (by omega), rfl, ?_⟩)
      have f325 : ex_P (am_wI h316 39 k (((d_108_s s (s.2.2.2.2.2 k)).2.2.2.2.1 k) + (Int32.ofInt 1))) := f317
      have f326 : cI C := f318
      have f327 : c_v 17 C (am_wI h316 39 k (((d_108_s s (s.2.2.2.2.2 k)).2.2.2.2.1 k) + (Int32.ofInt 1))) := c_v_w (by omega) f319
      have f328 : c_d 17 C (am_wI h316 39 k (((d_108_s s (s.2.2.2.2.2 k)).2.2.2.2.1 k) + (Int32.ofInt 1))) := c_d_w (by omega) f320
      have f329 : sC 36 (sSH (d_108_s s (s.2.2.2.2.2 k)) k (((d_108_s s (s.2.2.2.2.2 k)).2.2.2.2.1 k) + (Int32.ofInt 1))) (am_wI h316 39 k (((d_108_s s (s.2.2.2.2.2 k)).2.2.2.2.1 k) + (Int32.ofInt 1))) := sC_wH (by omega) f321
      have f330 : fC 17 h0 (am_wI h316 39 k (((d_108_s s (s.2.2.2.2.2 k)).2.2.2.2.1 k) + (Int32.ofInt 1))) := fC_w (by omega) f322
      generalize am_wI h316 39 k (((d_108_s s (s.2.2.2.2.2 k)).2.2.2.2.1 k) + (Int32.ofInt 1)) = h324 at f325 f326 f327 f328 f329 f330 ⊢
      refine am_goX 8 (show 3 < 5 ∧ 4 < 5 ∧ pz_S 5 (some .int) am_r100 5 Q 21 [(4, .int ((nI k) + (Int32.ofInt 1))), (3, .int (a3 ||| ((Int32.ofInt 1) <<< ((nI k) &&& 31)))), (0, .ref 17), (1, .ref 36)] [] h324 from ⟨by decide, by decide, ?_⟩)
      rw [show d_100_21 C (m + 1) k a3 s = d_100_21 C m (k + 1) (a3 ||| ((Int32.ofInt 1) <<< ((nI k) &&& 31))) (sSH (d_108_s s (s.2.2.2.2.2 k)) k (((d_108_s s (s.2.2.2.2.2 k)).2.2.2.2.1 k) + (Int32.ofInt 1))) from if_neg c323] at hZ
      rw [show (nI k) + (Int32.ofInt 1) = nI (k + 1) from (dn_a rfl rfl)]
      exact sv_S2 sv2_100 (by intro q hq; simp only [List.mem_cons, List.not_mem_nil, or_false] at hq; rcases hq with rfl | rfl | rfl | rfl <;> rfl) (ih (k + 1) (a3 ||| ((Int32.ofInt 1) <<< ((nI k) &&& 31))) (sSH (d_108_s s (s.2.2.2.2.2 k)) k (((d_108_s s (s.2.2.2.2.2 k)).2.2.2.2.1 k) + (Int32.ofInt 1))) _ (by omega) f325 f326 f327 f328 f329 f330 hZ)
theorem d_100_t17_36 (hP : ex_P h) (hI : cI C) (hT : c_v 17 C h) (hD : c_d 17 C h) (hS : sC 36 s h) (hX : fC 17 h0 h)  (hQ : ∀ h1, (ex_P h1) → (cI C) → (c_v 17 C h1) → (c_d 17 C h1) → (sC 36 (d_100_s C s w) h1) → (fC 17 h0 h1) → Q (some (.int (d_100 C s w))) h1) : am_call am_cod 6 100 [.ref 17, .ref 36, .int w] h Q := by
  have h6 := hT.1.2.1
  have h5 := hT.2.1.2.1
  refine pz_call (n := 100) (nL := 5) (rt := (some .int)) (rows := am_r100) (d := 5) (by decide +kernel) (by decide +kernel) rfl (by funext pc; rfl) (ex_175 hP) (by exact Nat.le_of_ble_eq_true rfl) ?_
  refine am_goX 3 (show (Value.ref 36).category = 1 ∧ am_sh h 36 = some (6, 0) ∧ pz_S 5 (some .int) am_r100 5 Q 5 [(0, .ref 17), (1, .ref 36), (2, .int w)] [.int (h.1 36 0), .ref 36] h from ⟨rfl, ex_36 hP, ?_⟩)
  rw [show h.1 36 0 = s.1 from hS.1.1]
  refine am_goX 3 (show am_sh h 36 = some (6, 0) ∧ narrow (am_fty 6 0) (.int (s.1 + (Int32.ofInt 1))) = .int (s.1 + (Int32.ofInt 1)) ∧ fits (am_fty 6 0) (.int (s.1 + (Int32.ofInt 1))) = true ∧ pz_S 5 (some .int) am_r100 5 Q 10 [(0, .ref 17), (1, .ref 36), (2, .int w)] [] (am_wI h 36 0 (s.1 + (Int32.ofInt 1))) from ⟨ex_36 hP, rfl, rfl, ?_⟩)
  have f303 : ex_P (am_wI h 36 0 (s.1 + (Int32.ofInt 1))) := hP
  have f304 : cI C := hI
  have f305 : c_v 17 C (am_wI h 36 0 (s.1 + (Int32.ofInt 1))) := c_v_w (by omega) hT
  have f306 : c_d 17 C (am_wI h 36 0 (s.1 + (Int32.ofInt 1))) := c_d_w (by omega) hD
  have f307 : sC 36 (sSD s (s.1 + (Int32.ofInt 1))) (am_wI h 36 0 (s.1 + (Int32.ofInt 1))) := sC_wD (by omega) hS
  have f308 : fC 17 h0 (am_wI h 36 0 (s.1 + (Int32.ofInt 1))) := fC_w (by omega) hX
  generalize am_wI h 36 0 (s.1 + (Int32.ofInt 1)) = h302 at f303 f304 f305 f306 f307 f308 ⊢
  refine am_goX 4 (show am_rc h302 17 0 ∧ 0 ≤ 8 ∧ h302.2.2.2.2 + am_al 101 ≤ 175 ∧ am_call am_cod 5 101 [.ref 17, .ref 36, .int w] h302 (fun vv h' => pz_S 5 (some .int) am_r100 5 Q 16 [(0, .ref 17), (1, .ref 36), (2, .int w)] (vv.toList ++ []) h') from ⟨Or.inl ⟨by decide, ex_17 f303⟩, by decide, ex_lim f303 rfl, am_call.up (d_101_t17_36 f303 f304 f305 f306 f307 f308 (fun h309 f310 f311 f312 f313 f314 f315 => ?_)) (by decide)⟩)
  refine am_goX 4 (show 3 < 5 ∧ 4 < 5 ∧ pz_S 5 (some .int) am_r100 5 Q 21 [(4, .int (Int32.ofInt 0)), (3, .int (Int32.ofInt 0)), (0, .ref 17), (1, .ref 36), (2, .int w)] [] h309 from ⟨by decide, by decide, ?_⟩)
  refine sv_S2 sv2_100 (by intro q hq; simp only [List.mem_cons, List.not_mem_nil, or_false] at hq; rcases hq with rfl | rfl | rfl | rfl <;> rfl) (d_100_21_t17_36 (dE C) 0 (Int32.ofInt 0) (d_101_s C (sSD s (s.1 + (Int32.ofInt 1))) w) _ (by omega) f310 f311 f312 f313 f314 f315 (fun h331 f332 f333 f334 f335 f336 f337 => ?_))
  exact am_goX 2 (show (∃ ty, (some .int) = some ty ∧ narrow ty (.int ((d_100_21 C (dE C) 0 (Int32.ofInt 0) (d_101_s C (sSD s (s.1 + (Int32.ofInt 1))) w)).1)) = .int ((d_100_21 C (dE C) 0 (Int32.ofInt 0) (d_101_s C (sSD s (s.1 + (Int32.ofInt 1))) w)).1)) ∧ h331.2.2.2.2 = 175 ∧ _ from ⟨⟨.int, rfl, rfl⟩, ex_175 f332, hQ _ f332 f333 f334 f335 f336 f337⟩)
theorem d_89_t17_41 (hP : ex_P h) (hI : cI C) (hT : c_v 17 C h) (hD : c_d 17 C h) (hR : h.2.2.1 0 3 = some 17) (hN : sC 36 u h) (hS : sC 41 s h) (hp : p < dP C) (hQ : Q (some (.int (d_89 C s p))) h) : am_call am_cod 1 89 [.ref 17, .int (nI p), .ref 41] h Q := by
  have h6 := hT.1.2.1
  have h5 := hT.2.1.2.1
  refine pz_call (n := 89) (nL := 3) (rt := (some .int)) (rows := am_r89) (d := 0) (by decide +kernel) (by decide +kernel) rfl (by funext pc; rfl) (ex_175 hP) (by exact Nat.le_of_ble_eq_true rfl) ?_
  refine am_goX 2 (show am_sh h 17 = some (0, 0) ∧ pz_S 3 (some .int) am_r89 0 Q 4 [(0, .ref 17), (1, .int (nI p)), (2, .ref 41)] [am_rf (h.2.2.1 17 2)] h from ⟨ex_17 hP, ?_⟩)
  rw [show am_rf (h.2.2.1 17 2) = .ref 19 from congrArg am_rf (ex_r17_2 hP)]
  refine am_goX 2 (show ∃ jj nn : Nat, am_sh h 19 = some (13, nn) ∧ jj < nn ∧ nI p = nI jj ∧ pz_S 3 (some .int) am_r89 0 Q 6 [(0, .ref 17), (1, .int (nI p)), (2, .ref 41)] [.int (h.1 19 jj)] h from ⟨p, 6, ex_19 hP, (by omega), rfl, ?_⟩)
  rw [show h.1 19 p = dK C p from (hT.1.2.2 p (by omega)).1]
  suffices key : ∀ (v339 : Int32), v339 = (if ¬ (dK C p) = (Int32.ofInt 3) then (s.2.2.1 p) - (Int32.ofInt 2) else Int32.ofInt 0) → pz_S 3 (some .int) am_r89 0 Q 22 [] [.int v339] h by
    refine am_goX 2 (show (¬ (dK C p) = (Int32.ofInt 3) → pz_S 3 (some .int) am_r89 0 Q 14 [(0, .ref 17), (1, .int (nI p)), (2, .ref 41)] [] h) ∧ (¬ ¬ (dK C p) = (Int32.ofInt 3) → pz_S 3 (some .int) am_r89 0 Q 10 [(0, .ref 17), (1, .int (nI p)), (2, .ref 41)] [] h) from ⟨fun c338 => ?_, fun c338 => ?_⟩)
    · refine am_goX 2 (show am_sh h 41 = some (6, 0) ∧ pz_S 3 (some .int) am_r89 0 Q 18 [(0, .ref 17), (1, .int (nI p)), (2, .ref 41)] [am_rf (h.2.2.1 41 2)] h from ⟨ex_41 hP, ?_⟩)
      rw [show am_rf (h.2.2.1 41 2) = .ref 42 from congrArg am_rf (ex_r41_2 hP)]
      refine am_goX 2 (show ∃ jj nn : Nat, am_sh h 42 = some (13, nn) ∧ jj < nn ∧ nI p = nI jj ∧ pz_S 3 (some .int) am_r89 0 Q 20 [(0, .ref 17), (1, .int (nI p)), (2, .ref 41)] [.int (h.1 42 jj)] h from ⟨p, 6, ex_42 hP, (by omega), rfl, ?_⟩)
      rw [show h.1 42 p = s.2.2.1 p from (hS.2.1 p (by omega)).1]
      refine am_goX 2 (show pz_S 3 (some .int) am_r89 0 Q 22 [(0, .ref 17), (1, .int (nI p)), (2, .ref 41)] [.int ((s.2.2.1 p) - (Int32.ofInt 2))] h from ?_)
      exact sv_S2 sv2_89 (fun q hq => absurd hq List.not_mem_nil) (key _ (if_pos c338).symm)
    · refine am_goX 2 (show pz_S 3 (some .int) am_r89 0 Q 22 [(0, .ref 17), (1, .int (nI p)), (2, .ref 41)] [.int (Int32.ofInt 0)] h from ?_)
      exact sv_S2 sv2_89 (fun q hq => absurd hq List.not_mem_nil) (key _ (if_neg c338).symm)
  intro v339 e340
  subst e340
  exact am_goX 1 (show (∃ ty, (some .int) = some ty ∧ narrow ty (.int (if ¬ (dK C p) = (Int32.ofInt 3) then (s.2.2.1 p) - (Int32.ofInt 2) else Int32.ofInt 0)) = .int (if ¬ (dK C p) = (Int32.ofInt 3) then (s.2.2.1 p) - (Int32.ofInt 2) else Int32.ofInt 0)) ∧ h.2.2.2.2 = 175 ∧ _ from ⟨⟨.int, rfl, rfl⟩, ex_175 hP, hQ⟩)
theorem d_88_t17_41 (hP : ex_P h) (hI : cI C) (hT : c_v 17 C h) (hD : c_d 17 C h) (hR : h.2.2.1 0 3 = some 17) (hN : sC 36 u h) (hS : sC 41 s h) (hp : p < dP C) (hQ : Q (some (.int (d_88 C s p w))) h) : am_call am_cod 2 88 [.ref 17, .int (nI p), .ref 41, .int w] h Q := by
  have h6 := hT.1.2.1
  have h5 := hT.2.1.2.1
  refine pz_call (n := 88) (nL := 5) (rt := (some .int)) (rows := am_r88) (d := 1) (by decide +kernel) (by decide +kernel) rfl (by funext pc; rfl) (ex_175 hP) (by exact Nat.le_of_ble_eq_true rfl) ?_
  suffices key : ∀ (v342 : Int32), v342 = (if w = 0 then d_89 C s p else Int32.ofInt 0) → pz_S 5 (some .int) am_r88 1 Q 14 [(2, .ref 41)] [.int v342] h by
    refine am_goX 2 (show (w = 0 → pz_S 5 (some .int) am_r88 1 Q 8 [(0, .ref 17), (1, .int (nI p)), (2, .ref 41), (3, .int w)] [] h) ∧ (¬ (w = 0) → pz_S 5 (some .int) am_r88 1 Q 4 [(0, .ref 17), (1, .int (nI p)), (2, .ref 41), (3, .int w)] [] h) from ⟨fun c341 => ?_, fun c341 => ?_⟩)
    · refine am_goX 4 (show am_rc h 17 0 ∧ 0 ≤ 8 ∧ h.2.2.2.2 + am_al 89 ≤ 175 ∧ am_call am_cod 1 89 [.ref 17, .int (nI p), .ref 41] h (fun vv h' => pz_S 5 (some .int) am_r88 1 Q 14 [(0, .ref 17), (1, .int (nI p)), (2, .ref 41), (3, .int w)] (vv.toList ++ []) h') from ⟨Or.inl ⟨by decide, ex_17 hP⟩, by decide, ex_lim hP rfl, am_call.up (d_89_t17_41 hP hI hT hD hR hN hS (by omega) ?_) (by decide)⟩)
      exact sv_S2 sv2_88 (by intro q hq; simp only [List.mem_cons, List.not_mem_nil, or_false] at hq; rcases hq with rfl <;> rfl) (key _ (if_pos c341).symm)
    · refine am_goX 2 (show pz_S 5 (some .int) am_r88 1 Q 14 [(0, .ref 17), (1, .int (nI p)), (2, .ref 41), (3, .int w)] [.int (Int32.ofInt 0)] h from ?_)
      exact sv_S2 sv2_88 (by intro q hq; simp only [List.mem_cons, List.not_mem_nil, or_false] at hq; rcases hq with rfl <;> rfl) (key _ (if_neg c341).symm)
  intro v342 e343
  subst e343
  refine am_goX 3 (show 4 < 5 ∧ am_sh h 41 = some (6, 0) ∧ pz_S 5 (some .int) am_r88 1 Q 20 [(4, .int (if w = 0 then d_89 C s p else Int32.ofInt 0)), (2, .ref 41)] [.int (h.1 41 0)] h from ⟨by decide, ex_41 hP, ?_⟩)
  rw [show h.1 41 0 = s.1 from hS.1.1]
  refine am_goX 4 (show 0 ≤ 8 ∧ h.2.2.2.2 + am_al 90 ≤ 175 ∧ am_call am_cod 1 90 [.int (s.1 + (if w = 0 then d_89 C s p else Int32.ofInt 0)), .int ((Int8.ofInt 7).toInt32)] h (fun vv h' => pz_S 5 (some .int) am_r88 1 Q 28 [(4, .int (if w = 0 then d_89 C s p else Int32.ofInt 0)), (2, .ref 41)] (vv.toList ++ []) h') from ⟨by decide, ex_lim hP rfl, am_call.up (d_90_w hP ?_) (by decide)⟩)
  exact am_goX 1 (show (∃ ty, (some .int) = some ty ∧ narrow ty (.int (d_90 (s.1 + (if w = 0 then d_89 C s p else Int32.ofInt 0)))) = .int (d_90 (s.1 + (if w = 0 then d_89 C s p else Int32.ofInt 0)))) ∧ h.2.2.2.2 = 175 ∧ _ from ⟨⟨.int, rfl, rfl⟩, ex_175 hP, hQ⟩)
theorem d_104_t17_41 (hP : ex_P h) (hI : cI C) (hT : c_v 17 C h) (hD : c_d 17 C h) (hR : h.2.2.1 0 3 = some 17) (hN : sC 36 u h) (hS : sC 41 s h) (hp : p < dP C) (hQ : ∀ h1, (ex_P h1) → (cI C) → (c_v 17 C h1) → (c_d 17 C h1) → (h1.2.2.1 0 3 = some 17) → (sC 36 u h1) → (sC 41 s h1) → Q (some (.int (d_104 C s p w))) h1) : am_call am_cod 4 104 [.ref 17, .int (nI p), .ref 41, .int w] h Q := by
  have h6 := hT.1.2.1
  have h5 := hT.2.1.2.1
  refine pz_call (n := 104) (nL := 5) (rt := (some .boolean)) (rows := am_r104) (d := 3) (by decide +kernel) (by decide +kernel) rfl (by funext pc; rfl) (ex_175 hP) (by exact Nat.le_of_ble_eq_true rfl) ?_
  refine am_goX 2 (show am_sh h 41 = some (6, 0) ∧ pz_S 5 (some .boolean) am_r104 3 Q 4 [(0, .ref 17), (1, .int (nI p)), (2, .ref 41), (3, .int w)] [am_rf (h.2.2.1 41 3)] h from ⟨ex_41 hP, ?_⟩)
  rw [show am_rf (h.2.2.1 41 3) = .ref 43 from congrArg am_rf (ex_r41_3 hP)]
  refine am_goX 2 (show ∃ jj nn : Nat, am_sh h 43 = some (13, nn) ∧ jj < nn ∧ nI p = nI jj ∧ pz_S 5 (some .boolean) am_r104 3 Q 6 [(0, .ref 17), (1, .int (nI p)), (2, .ref 41), (3, .int w)] [.int (h.1 43 jj)] h from ⟨p, 6, ex_43 hP, (by omega), rfl, ?_⟩)
  rw [show h.1 43 p = s.2.2.2.1 p from (hS.2.1 p (by omega)).2]
  refine am_goX 1 (show 0 ≤ 8 ∧ h.2.2.2.2 + am_al 69 ≤ 175 ∧ am_call am_cod 3 69 [.int (s.2.2.2.1 p)] h (fun vv h' => pz_S 5 (some .boolean) am_r104 3 Q 9 [(0, .ref 17), (1, .int (nI p)), (2, .ref 41), (3, .int w)] (vv.toList ++ []) h') from ⟨by decide, ex_lim hP rfl, am_call.up (d_69_w hP ?_) (by decide)⟩)
  refine am_goX 3 (show 4 < 5 ∧ am_sh h 17 = some (0, 0) ∧ pz_S 5 (some .boolean) am_r104 3 Q 15 [(4, .int (d_69 (s.2.2.2.1 p))), (0, .ref 17), (1, .int (nI p)), (2, .ref 41), (3, .int w)] [am_rf (h.2.2.1 17 12)] h from ⟨by decide, ex_17 hP, ?_⟩)
  rw [show am_rf (h.2.2.1 17 12) = .ref 25 from congrArg am_rf (ex_r17_12 hP)]
  refine am_goX 4 (show am_rc h 17 0 ∧ 1 ≤ 8 ∧ h.2.2.2.2 + am_al 89 ≤ 175 ∧ am_call am_cod 3 89 [.ref 17, .int (nI p), .ref 41] h (fun vv h' => pz_S 5 (some .boolean) am_r104 3 Q 21 [(4, .int (d_69 (s.2.2.2.1 p))), (0, .ref 17), (1, .int (nI p)), (2, .ref 41), (3, .int w)] (vv.toList ++ [.ref 25]) h') from ⟨Or.inl ⟨by decide, ex_17 hP⟩, by decide, ex_lim hP rfl, am_call.up (d_89_t17_41 hP hI hT hD hR hN hS (by omega) ?_) (by decide)⟩)
  refine am_goX 2 (show am_sh h 41 = some (6, 0) ∧ pz_S 5 (some .boolean) am_r104 3 Q 25 [(4, .int (d_69 (s.2.2.2.1 p))), (0, .ref 17), (1, .int (nI p)), (2, .ref 41), (3, .int w)] [.int (h.1 41 0), .int (d_89 C s p), .ref 25] h from ⟨ex_41 hP, ?_⟩)
  rw [show h.1 41 0 = s.1 from hS.1.1]
  suffices key : ∀ (v345 : Int32), v345 = (if w = 0 then Int32.ofInt 0 else Int32.ofInt 1) → pz_S 5 (some .boolean) am_r104 3 Q 39 [] [.int v345, .int (d_69 (s.2.2.2.1 p)), .int (s.1 / ((Int8.ofInt 7).toInt32)), .int (d_89 C s p), .ref 25] h by
    refine am_goX 5 (show ¬ ((Int8.ofInt 7).toInt32) = 0 ∧ (w = 0 → pz_S 5 (some .boolean) am_r104 3 Q 38 [(4, .int (d_69 (s.2.2.2.1 p))), (0, .ref 17), (1, .int (nI p)), (2, .ref 41), (3, .int w)] [.int (d_69 (s.2.2.2.1 p)), .int (s.1 / ((Int8.ofInt 7).toInt32)), .int (d_89 C s p), .ref 25] h) ∧ (¬ (w = 0) → pz_S 5 (some .boolean) am_r104 3 Q 34 [(4, .int (d_69 (s.2.2.2.1 p))), (0, .ref 17), (1, .int (nI p)), (2, .ref 41), (3, .int w)] [.int (d_69 (s.2.2.2.1 p)), .int (s.1 / ((Int8.ofInt 7).toInt32)), .int (d_89 C s p), .ref 25] h) from ⟨by decide, fun c344 => ?_, fun c344 => ?_⟩)
    · refine am_goX 1 (show pz_S 5 (some .boolean) am_r104 3 Q 39 [(4, .int (d_69 (s.2.2.2.1 p))), (0, .ref 17), (1, .int (nI p)), (2, .ref 41), (3, .int w)] [.int (Int32.ofInt 0), .int (d_69 (s.2.2.2.1 p)), .int (s.1 / ((Int8.ofInt 7).toInt32)), .int (d_89 C s p), .ref 25] h from ?_)
      exact sv_S2 sv2_104 (fun q hq => absurd hq List.not_mem_nil) (key _ (if_pos c344).symm)
    · refine am_goX 2 (show pz_S 5 (some .boolean) am_r104 3 Q 39 [(4, .int (d_69 (s.2.2.2.1 p))), (0, .ref 17), (1, .int (nI p)), (2, .ref 41), (3, .int w)] [.int (Int32.ofInt 1), .int (d_69 (s.2.2.2.1 p)), .int (s.1 / ((Int8.ofInt 7).toInt32)), .int (d_89 C s p), .ref 25] h from ?_)
      exact sv_S2 sv2_104 (fun q hq => absurd hq List.not_mem_nil) (key _ (if_neg c344).symm)
  intro v345 e346
  subst e346
  refine am_goX 1 (show am_rc h 25 3 ∧ 0 ≤ 8 ∧ h.2.2.2.2 + am_al 105 ≤ 175 ∧ am_call am_cod 3 105 [.ref 25, .int (d_89 C s p), .int (s.1 / ((Int8.ofInt 7).toInt32)), .int (d_69 (s.2.2.2.1 p)), .int (if w = 0 then Int32.ofInt 0 else Int32.ofInt 1)] h (fun vv h' => pz_S 5 (some .boolean) am_r104 3 Q 42 [] (vv.toList ++ []) h') from ⟨Or.inl ⟨by decide, ex_25 hP⟩, by decide, ex_lim hP rfl, am_call.up (q_105_17 hP hT (fun h347 l348 => ?_)) (by decide)⟩)
  have f349 : ex_P h347 := lfr_P l348 hP
  have f350 : cI C := hI
  have f351 : c_v 17 C h347 := lfr_c l348 (by omega) hT
  have f352 : c_d 17 C h347 := lfr_d l348 (by omega) hD
  have f353 : h347.2.2.1 0 3 = some 17 := (congrArg (fun q => q.2.1 0 3) l348.1).trans hR
  have f354 : sC 36 u h347 := lfr_s l348 (by omega) hN
  have f355 : sC 41 s h347 := lfr_s l348 (by omega) hS
  suffices key : ∀ (v357 : Int32), v357 = (if (dlaw C (d_89 C s p) (s.1 / ((Int8.ofInt 7).toInt32)) (d_69 (s.2.2.2.1 p)) (if w = 0 then Int32.ofInt 0 else Int32.ofInt 1)) = 0 then Int32.ofInt 0 else Int32.ofInt 1) → pz_S 5 (some .boolean) am_r104 3 Q 50 [] [.int v357] h347 by
    refine am_goX 1 (show ((dlaw C (d_89 C s p) (s.1 / ((Int8.ofInt 7).toInt32)) (d_69 (s.2.2.2.1 p)) (if w = 0 then Int32.ofInt 0 else Int32.ofInt 1)) = 0 → pz_S 5 (some .boolean) am_r104 3 Q 49 [] [] h347) ∧ (¬ ((dlaw C (d_89 C s p) (s.1 / ((Int8.ofInt 7).toInt32)) (d_69 (s.2.2.2.1 p)) (if w = 0 then Int32.ofInt 0 else Int32.ofInt 1)) = 0) → pz_S 5 (some .boolean) am_r104 3 Q 45 [] [] h347) from ⟨fun c356 => ?_, fun c356 => ?_⟩)
    · refine am_goX 1 (show pz_S 5 (some .boolean) am_r104 3 Q 50 [] [.int (Int32.ofInt 0)] h347 from ?_)
      exact sv_S2 sv2_104 (fun q hq => absurd hq List.not_mem_nil) (key _ (if_pos c356).symm)
    · refine am_goX 2 (show pz_S 5 (some .boolean) am_r104 3 Q 50 [] [.int (Int32.ofInt 1)] h347 from ?_)
      exact sv_S2 sv2_104 (fun q hq => absurd hq List.not_mem_nil) (key _ (if_neg c356).symm)
  intro v357 e358
  subst e358
  exact am_goX 1 (show (∃ ty, (some .boolean) = some ty ∧ narrow ty (.int (if (dlaw C (d_89 C s p) (s.1 / ((Int8.ofInt 7).toInt32)) (d_69 (s.2.2.2.1 p)) (if w = 0 then Int32.ofInt 0 else Int32.ofInt 1)) = 0 then Int32.ofInt 0 else Int32.ofInt 1)) = .int (if (dlaw C (d_89 C s p) (s.1 / ((Int8.ofInt 7).toInt32)) (d_69 (s.2.2.2.1 p)) (if w = 0 then Int32.ofInt 0 else Int32.ofInt 1)) = 0 then Int32.ofInt 0 else Int32.ofInt 1)) ∧ h347.2.2.2.2 = 175 ∧ _ from ⟨⟨.boolean, rfl, (by (repeat' split) <;> rfl)⟩, ex_175 f349, hQ _ f349 f350 f351 f352 f353 f354 f355⟩)
theorem d_101_2_t17_41 : ∀ (m k : Nat) (s : dS) (h : am_H), k + m = dE C → (ex_P h) → (cI C) → (c_v 17 C h) → (c_d 17 C h) → (h.2.2.1 0 3 = some 17) → (sC 36 u h) → (sC 41 s h) → (∀ h1, (ex_P h1) → (cI C) → (c_v 17 C h1) → (c_d 17 C h1) → (h1.2.2.1 0 3 = some 17) → (sC 36 u h1) → (sC 41 (d_101_2 C w m k s) h1) → pz_S 6 none am_r101 4 Q 23 [(0, .ref 17), (1, .ref 41), (2, .int w)] [] h1) → pz_S 6 none am_r101 4 Q 2 [(0, .ref 17), (1, .ref 41), (2, .int w), (3, .int (nI k))] [] h := by
  intro m
  induction m with
  | zero =>
    intro k s h hk hP hI hT hD hR hN hS hZ
    have h6 := hT.1.2.1
    have h5 := hT.2.1.2.1
    refine am_goX 3 (show am_sh h 17 = some (0, 0) ∧ pz_S 6 none am_r101 4 Q 7 [(0, .ref 17), (1, .ref 41), (2, .int w), (3, .int (nI k))] [.int (h.1 17 4), .int (nI k)] h from ⟨ex_17 hP, ?_⟩)
    rw [show h.1 17 4 = nI (dE C) from hT.2.1.1]
    refine am_goX 1 (show ((nI (dE C)) ≤ (nI k) → pz_S 6 none am_r101 4 Q 23 [(0, .ref 17), (1, .ref 41), (2, .int w), (3, .int (nI k))] [] h) ∧ (¬ ((nI (dE C)) ≤ (nI k)) → pz_S 6 none am_r101 4 Q 10 [(0, .ref 17), (1, .ref 41), (2, .int w), (3, .int (nI k))] [] h) from ⟨fun _ => ?_, fun hz => absurd (show nI (dE C) ≤ nI k from nI_le (by omega) (by omega)) hz⟩)
    exact sv_S2 sv2_101 (by intro q hq; simp only [List.mem_cons, List.not_mem_nil, or_false] at hq; rcases hq with rfl | rfl | rfl <;> rfl) (hZ _ hP hI hT hD hR hN hS)
  | succ m ih =>
    intro k s h hk hP hI hT hD hR hN hS hZ
    have h6 := hT.1.2.1
    have h5 := hT.2.1.2.1
    refine am_goX 3 (show am_sh h 17 = some (0, 0) ∧ pz_S 6 none am_r101 4 Q 7 [(0, .ref 17), (1, .ref 41), (2, .int w), (3, .int (nI k))] [.int (h.1 17 4), .int (nI k)] h from ⟨ex_17 hP, ?_⟩)
    rw [show h.1 17 4 = nI (dE C) from hT.2.1.1]
    refine am_goX 1 (show ((nI (dE C)) ≤ (nI k) → pz_S 6 none am_r101 4 Q 23 [(0, .ref 17), (1, .ref 41), (2, .int w), (3, .int (nI k))] [] h) ∧ (¬ ((nI (dE C)) ≤ (nI k)) → pz_S 6 none am_r101 4 Q 10 [(0, .ref 17), (1, .ref 41), (2, .int w), (3, .int (nI k))] [] h) from ⟨fun hz => absurd hz (show ¬ (nI (dE C) ≤ nI k) by rw [nI_leI (by omega) (by omega)]; omega), fun _ => ?_⟩)
    refine am_goX 2 (show am_sh h 41 = some (6, 0) ∧ pz_S 6 none am_r101 4 Q 14 [(0, .ref 17), (1, .ref 41), (2, .int w), (3, .int (nI k))] [am_rf (h.2.2.1 41 5)] h from ⟨ex_41 hP, ?_⟩)
    rw [show am_rf (h.2.2.1 41 5) = .ref 45 from congrArg am_rf (ex_r41_5 hP)]
    refine am_goX 3 (show ∃ jj nn : Nat, am_so h 45 = some (13, nn) ∧ jj < nn ∧ nI k = nI jj ∧ pz_S 6 none am_r101 4 Q 17 [(0, .ref 17), (1, .ref 41), (2, .int w), (3, .int (nI k))] [] (am_wI h 45 jj (Int32.ofInt 0)) from ⟨k, 5, ex_w45 hP, (by omega), rfl, ?_⟩)
    have f360 : ex_P (am_wI h 45 k (Int32.ofInt 0)) := hP
    have f361 : cI C := hI
    have f362 : c_v 17 C (am_wI h 45 k (Int32.ofInt 0)) := c_v_w (by omega) hT
    have f363 : c_d 17 C (am_wI h 45 k (Int32.ofInt 0)) := c_d_w (by omega) hD
    have f364 : (am_wI h 45 k (Int32.ofInt 0)).2.2.1 0 3 = some 17 := hR
    have f365 : sC 36 u (am_wI h 45 k (Int32.ofInt 0)) := sC_w (by omega) hN
    have f366 : sC 41 (sSA s k (Int32.ofInt 0)) (am_wI h 45 k (Int32.ofInt 0)) := sC_wA (by omega) hS
    generalize am_wI h 45 k (Int32.ofInt 0) = h359 at f360 f361 f362 f363 f364 f365 f366 ⊢
    refine am_goX 2 (show 3 < 6 ∧ pz_S 6 none am_r101 4 Q 2 [(3, .int ((nI k) + (Int32.ofInt 1))), (0, .ref 17), (1, .ref 41), (2, .int w)] [] h359 from ⟨by decide, ?_⟩)
    rw [show (nI k) + (Int32.ofInt 1) = nI (k + 1) from (dn_a rfl rfl)]
    exact sv_S2 sv2_101 (by intro q hq; simp only [List.mem_cons, List.not_mem_nil, or_false] at hq; rcases hq with rfl | rfl | rfl | rfl <;> rfl) (ih (k + 1) (sSA s k (Int32.ofInt 0)) _ (by omega) f360 f361 f362 f363 f364 f365 f366 hZ)
theorem d_101_65_t17_41 (n3 : Nat) (x4 : Int32) : ∀ (m k : Nat) (s : dS) (h : am_H), k + m = dE C → (ex_P h) → (cI C) → (c_v 17 C h) → (c_d 17 C h) → (h.2.2.1 0 3 = some 17) → (sC 36 u h) → (sC 41 s h) → (∀ h1, (ex_P h1) → (cI C) → (c_v 17 C h1) → (c_d 17 C h1) → (h1.2.2.1 0 3 = some 17) → (sC 36 u h1) → (sC 41 (d_101_65 C w n3 x4 m k s) h1) → pz_S 6 none am_r101 4 Q 99 [(0, .ref 17), (1, .ref 41), (2, .int w), (3, .int (nI n3))] [] h1) → pz_S 6 none am_r101 4 Q 65 [(0, .ref 17), (1, .ref 41), (2, .int w), (3, .int (nI n3)), (4, .int x4), (5, .int (nI k))] [] h := by
  intro m
  induction m with
  | zero =>
    intro k s h hk hP hI hT hD hR hN hS hZ
    have h6 := hT.1.2.1
    have h5 := hT.2.1.2.1
    refine am_goX 3 (show am_sh h 17 = some (0, 0) ∧ pz_S 6 none am_r101 4 Q 71 [(0, .ref 17), (1, .ref 41), (2, .int w), (3, .int (nI n3)), (4, .int x4), (5, .int (nI k))] [.int (h.1 17 4), .int (nI k)] h from ⟨ex_17 hP, ?_⟩)
    rw [show h.1 17 4 = nI (dE C) from hT.2.1.1]
    refine am_goX 1 (show ((nI (dE C)) ≤ (nI k) → pz_S 6 none am_r101 4 Q 99 [(0, .ref 17), (1, .ref 41), (2, .int w), (3, .int (nI n3)), (4, .int x4), (5, .int (nI k))] [] h) ∧ (¬ ((nI (dE C)) ≤ (nI k)) → pz_S 6 none am_r101 4 Q 74 [(0, .ref 17), (1, .ref 41), (2, .int w), (3, .int (nI n3)), (4, .int x4), (5, .int (nI k))] [] h) from ⟨fun _ => ?_, fun hz => absurd (show nI (dE C) ≤ nI k from nI_le (by omega) (by omega)) hz⟩)
    exact sv_S2 sv2_101 (by intro q hq; simp only [List.mem_cons, List.not_mem_nil, or_false] at hq; rcases hq with rfl | rfl | rfl | rfl <;> rfl) (hZ _ hP hI hT hD hR hN hS)
  | succ m ih =>
    intro k s h hk hP hI hT hD hR hN hS hZ
    have h6 := hT.1.2.1
    have h5 := hT.2.1.2.1
    refine am_goX 3 (show am_sh h 17 = some (0, 0) ∧ pz_S 6 none am_r101 4 Q 71 [(0, .ref 17), (1, .ref 41), (2, .int w), (3, .int (nI n3)), (4, .int x4), (5, .int (nI k))] [.int (h.1 17 4), .int (nI k)] h from ⟨ex_17 hP, ?_⟩)
    rw [show h.1 17 4 = nI (dE C) from hT.2.1.1]
    refine am_goX 1 (show ((nI (dE C)) ≤ (nI k) → pz_S 6 none am_r101 4 Q 99 [(0, .ref 17), (1, .ref 41), (2, .int w), (3, .int (nI n3)), (4, .int x4), (5, .int (nI k))] [] h) ∧ (¬ ((nI (dE C)) ≤ (nI k)) → pz_S 6 none am_r101 4 Q 74 [(0, .ref 17), (1, .ref 41), (2, .int w), (3, .int (nI n3)), (4, .int x4), (5, .int (nI k))] [] h) from ⟨fun hz => absurd hz (show ¬ (nI (dE C) ≤ nI k) by rw [nI_leI (by omega) (by omega)]; omega), fun _ => ?_⟩)
    refine am_goX 2 (show am_sh h 41 = some (6, 0) ∧ pz_S 6 none am_r101 4 Q 78 [(0, .ref 17), (1, .ref 41), (2, .int w), (3, .int (nI n3)), (4, .int x4), (5, .int (nI k))] [am_rf (h.2.2.1 41 5)] h from ⟨ex_41 hP, ?_⟩)
    rw [show am_rf (h.2.2.1 41 5) = .ref 45 from congrArg am_rf (ex_r41_5 hP)]
    refine am_goX 3 (show (Value.int (nI k)).category = 1 ∧ (Value.ref 45).category = 1 ∧ ∃ jj nn : Nat, am_sh h 45 = some (13, nn) ∧ jj < nn ∧ nI k = nI jj ∧ pz_S 6 none am_r101 4 Q 82 [(0, .ref 17), (1, .ref 41), (2, .int w), (3, .int (nI n3)), (4, .int x4), (5, .int (nI k))] [.int (h.1 45 jj), .int (nI k), .ref 45] h from ⟨rfl, rfl, ⟨k, 5, ex_45 hP, (by omega), rfl, ?_⟩⟩)
    rw [show h.1 45 k = s.2.2.2.2.2 k from (hS.2.2 k (by omega)).2]
    refine am_goX 9 (show ∃ jj nn : Nat, am_so h 45 = some (13, nn) ∧ jj < nn ∧ nI k = nI jj ∧ pz_S 6 none am_r101 4 Q 93 [(0, .ref 17), (1, .ref 41), (2, .int w), (3, .int (nI n3)), (4, .int x4), (5, .int (nI k))] [] (am_wI h 45 jj ((s.2.2.2.2.2 k) ||| (((x4 >>> ((nI k) &&& 31)) &&& (Int32.ofInt 1)) <<< ((nI n3) &&& 31)))) from ⟨k, 5, ex_w45 hP, (by omega), rfl, ?_⟩)
    have f386 : ex_P (am_wI h 45 k ((s.2.2.2.2.2 k) ||| (((x4 >>> ((nI k) &&& 31)) &&& (Int32.ofInt 1)) <<< ((nI n3) &&& 31)))) := hP
    have f387 : cI C := hI
    have f388 : c_v 17 C (am_wI h 45 k ((s.2.2.2.2.2 k) ||| (((x4 >>> ((nI k) &&& 31)) &&& (Int32.ofInt 1)) <<< ((nI n3) &&& 31)))) := c_v_w (by omega) hT
    have f389 : c_d 17 C (am_wI h 45 k ((s.2.2.2.2.2 k) ||| (((x4 >>> ((nI k) &&& 31)) &&& (Int32.ofInt 1)) <<< ((nI n3) &&& 31)))) := c_d_w (by omega) hD
    have f390 : (am_wI h 45 k ((s.2.2.2.2.2 k) ||| (((x4 >>> ((nI k) &&& 31)) &&& (Int32.ofInt 1)) <<< ((nI n3) &&& 31)))).2.2.1 0 3 = some 17 := hR
    have f391 : sC 36 u (am_wI h 45 k ((s.2.2.2.2.2 k) ||| (((x4 >>> ((nI k) &&& 31)) &&& (Int32.ofInt 1)) <<< ((nI n3) &&& 31)))) := sC_w (by omega) hN
    have f392 : sC 41 (sSA s k ((s.2.2.2.2.2 k) ||| (((x4 >>> ((nI k) &&& 31)) &&& (Int32.ofInt 1)) <<< ((nI n3) &&& 31)))) (am_wI h 45 k ((s.2.2.2.2.2 k) ||| (((x4 >>> ((nI k) &&& 31)) &&& (Int32.ofInt 1)) <<< ((nI n3) &&& 31)))) := sC_wA (by omega) hS
    generalize am_wI h 45 k ((s.2.2.2.2.2 k) ||| (((x4 >>> ((nI k) &&& 31)) &&& (Int32.ofInt 1)) <<< ((nI n3) &&& 31))) = h385 at f386 f387 f388 f389 f390 f391 f392 ⊢
    refine am_goX 2 (show 5 < 6 ∧ pz_S 6 none am_r101 4 Q 65 [(5, .int ((nI k) + (Int32.ofInt 1))), (0, .ref 17), (1, .ref 41), (2, .int w), (3, .int (nI n3)), (4, .int x4)] [] h385 from ⟨by decide, ?_⟩)
    rw [show (nI k) + (Int32.ofInt 1) = nI (k + 1) from (dn_a rfl rfl)]
    exact sv_S2 sv2_101 (by intro q hq; simp only [List.mem_cons, List.not_mem_nil, or_false] at hq; rcases hq with rfl | rfl | rfl | rfl | rfl | rfl <;> rfl) (ih (k + 1) (sSA s k ((s.2.2.2.2.2 k) ||| (((x4 >>> ((nI k) &&& 31)) &&& (Int32.ofInt 1)) <<< ((nI n3) &&& 31)))) _ (by omega) f386 f387 f388 f389 f390 f391 f392 hZ)
theorem d_101_25_t17_41 : ∀ (m k : Nat) (s : dS) (h : am_H), k + m = dP C → (ex_P h) → (cI C) → (c_v 17 C h) → (c_d 17 C h) → (h.2.2.1 0 3 = some 17) → (sC 36 u h) → (sC 41 s h) → (∀ h1, (ex_P h1) → (cI C) → (c_v 17 C h1) → (c_d 17 C h1) → (h1.2.2.1 0 3 = some 17) → (sC 36 u h1) → (sC 41 (d_101_25 C w m k s) h1) → pz_S 6 none am_r101 4 Q 105 [] [] h1) → pz_S 6 none am_r101 4 Q 25 [(0, .ref 17), (1, .ref 41), (2, .int w), (3, .int (nI k))] [] h := by
  intro m
  induction m with
  | zero =>
    intro k s h hk hP hI hT hD hR hN hS hZ
    have h6 := hT.1.2.1
    have h5 := hT.2.1.2.1
    refine am_goX 3 (show am_sh h 17 = some (0, 0) ∧ pz_S 6 none am_r101 4 Q 30 [(0, .ref 17), (1, .ref 41), (2, .int w), (3, .int (nI k))] [.int (h.1 17 0), .int (nI k)] h from ⟨ex_17 hP, ?_⟩)
    rw [show h.1 17 0 = nI (dP C) from hT.1.1]
    refine am_goX 1 (show ((nI (dP C)) ≤ (nI k) → pz_S 6 none am_r101 4 Q 105 [(0, .ref 17), (1, .ref 41), (2, .int w), (3, .int (nI k))] [] h) ∧ (¬ ((nI (dP C)) ≤ (nI k)) → pz_S 6 none am_r101 4 Q 33 [(0, .ref 17), (1, .ref 41), (2, .int w), (3, .int (nI k))] [] h) from ⟨fun _ => ?_, fun hz => absurd (show nI (dP C) ≤ nI k from nI_le (by omega) (by omega)) hz⟩)
    exact sv_S2 sv2_101 (fun q hq => absurd hq List.not_mem_nil) (hZ _ hP hI hT hD hR hN hS)
  | succ m ih =>
    intro k s h hk hP hI hT hD hR hN hS hZ
    have h6 := hT.1.2.1
    have h5 := hT.2.1.2.1
    refine am_goX 3 (show am_sh h 17 = some (0, 0) ∧ pz_S 6 none am_r101 4 Q 30 [(0, .ref 17), (1, .ref 41), (2, .int w), (3, .int (nI k))] [.int (h.1 17 0), .int (nI k)] h from ⟨ex_17 hP, ?_⟩)
    rw [show h.1 17 0 = nI (dP C) from hT.1.1]
    refine am_goX 1 (show ((nI (dP C)) ≤ (nI k) → pz_S 6 none am_r101 4 Q 105 [(0, .ref 17), (1, .ref 41), (2, .int w), (3, .int (nI k))] [] h) ∧ (¬ ((nI (dP C)) ≤ (nI k)) → pz_S 6 none am_r101 4 Q 33 [(0, .ref 17), (1, .ref 41), (2, .int w), (3, .int (nI k))] [] h) from ⟨fun hz => absurd hz (show ¬ (nI (dP C) ≤ nI k) by rw [nI_leI (by omega) (by omega)]; omega), fun _ => ?_⟩)
    refine am_goX 7 (show am_rc h 17 0 ∧ 2 ≤ 8 ∧ h.2.2.2.2 + am_al 88 ≤ 175 ∧ am_call am_cod 4 88 [.ref 17, .int (nI k), .ref 41, .int w] h (fun vv h' => pz_S 6 none am_r101 4 Q 42 [(0, .ref 17), (1, .ref 41), (2, .int w), (3, .int (nI k))] (vv.toList ++ [.int (nI k), .ref 17]) h') from ⟨Or.inl ⟨by decide, ex_17 hP⟩, by decide, ex_lim hP rfl, am_call.up (d_88_t17_41 hP hI hT hD hR hN hS (by omega) ?_) (by decide)⟩)
    refine am_goX 1 (show am_rc h 17 0 ∧ 0 ≤ 8 ∧ h.2.2.2.2 + am_al 102 ≤ 175 ∧ am_call am_cod 4 102 [.ref 17, .int (nI k), .int (d_88 C s k w)] h (fun vv h' => pz_S 6 none am_r101 4 Q 45 [(0, .ref 17), (1, .ref 41), (2, .int w), (3, .int (nI k))] (vv.toList ++ []) h') from ⟨Or.inl ⟨by decide, ex_17 hP⟩, by decide, ex_lim hP rfl, am_call.up (d_102_w17 hP hT hD (by omega) ?_) (by decide)⟩)
    refine am_goX 3 (show 4 < 6 ∧ ((d_102 C k (d_88 C s k w)) = 0 → pz_S 6 none am_r101 4 Q 99 [(4, .int (d_102 C k (d_88 C s k w))), (0, .ref 17), (1, .ref 41), (2, .int w), (3, .int (nI k))] [] h) ∧ (¬ ((d_102 C k (d_88 C s k w)) = 0) → pz_S 6 none am_r101 4 Q 52 [(4, .int (d_102 C k (d_88 C s k w))), (0, .ref 17), (1, .ref 41), (2, .int w), (3, .int (nI k))] [] h) from ⟨by decide, fun c375 => ?_, fun c375 => ?_⟩)
    · refine am_goX 2 (show 3 < 6 ∧ pz_S 6 none am_r101 4 Q 25 [(3, .int ((nI k) + (Int32.ofInt 1))), (4, .int (d_102 C k (d_88 C s k w))), (0, .ref 17), (1, .ref 41), (2, .int w)] [] h from ⟨by decide, ?_⟩)
      rw [show d_101_25 C w (m + 1) k s = d_101_25 C w m (k + 1) s from if_pos c375] at hZ
      rw [show (nI k) + (Int32.ofInt 1) = nI (k + 1) from (dn_a rfl rfl)]
      exact sv_S2 sv2_101 (by intro q hq; simp only [List.mem_cons, List.not_mem_nil, or_false] at hq; rcases hq with rfl | rfl | rfl | rfl <;> rfl) (ih (k + 1) s _ (by omega) hP hI hT hD hR hN hS hZ)
    · refine am_goX 5 (show am_rc h 17 0 ∧ 0 ≤ 8 ∧ h.2.2.2.2 + am_al 104 ≤ 175 ∧ am_call am_cod 4 104 [.ref 17, .int (nI k), .ref 41, .int w] h (fun vv h' => pz_S 6 none am_r101 4 Q 59 [(4, .int (d_102 C k (d_88 C s k w))), (0, .ref 17), (1, .ref 41), (2, .int w), (3, .int (nI k))] (vv.toList ++ []) h') from ⟨Or.inl ⟨by decide, ex_17 hP⟩, by decide, ex_lim hP rfl, am_call.up (d_104_t17_41 hP hI hT hD hR hN hS (by omega) (fun h376 f377 f378 f379 f380 f381 f382 f383 => ?_)) (by decide)⟩)
      refine am_goX 1 (show ((d_104 C s k w) = 0 → pz_S 6 none am_r101 4 Q 99 [(4, .int (d_102 C k (d_88 C s k w))), (0, .ref 17), (1, .ref 41), (2, .int w), (3, .int (nI k))] [] h376) ∧ (¬ ((d_104 C s k w) = 0) → pz_S 6 none am_r101 4 Q 62 [(4, .int (d_102 C k (d_88 C s k w))), (0, .ref 17), (1, .ref 41), (2, .int w), (3, .int (nI k))] [] h376) from ⟨fun c384 => ?_, fun c384 => ?_⟩)
      · refine am_goX 2 (show 3 < 6 ∧ pz_S 6 none am_r101 4 Q 25 [(3, .int ((nI k) + (Int32.ofInt 1))), (4, .int (d_102 C k (d_88 C s k w))), (0, .ref 17), (1, .ref 41), (2, .int w)] [] h376 from ⟨by decide, ?_⟩)
        rw [show d_101_25 C w (m + 1) k s = d_101_25 C w m (k + 1) s from (if_neg c375).trans (if_pos c384)] at hZ
        rw [show (nI k) + (Int32.ofInt 1) = nI (k + 1) from (dn_a rfl rfl)]
        exact sv_S2 sv2_101 (by intro q hq; simp only [List.mem_cons, List.not_mem_nil, or_false] at hq; rcases hq with rfl | rfl | rfl | rfl <;> rfl) (ih (k + 1) s _ (by omega) f377 f378 f379 f380 f381 f382 f383 hZ)
      · refine am_goX 2 (show 5 < 6 ∧ pz_S 6 none am_r101 4 Q 65 [(5, .int (Int32.ofInt 0)), (4, .int (d_102 C k (d_88 C s k w))), (0, .ref 17), (1, .ref 41), (2, .int w), (3, .int (nI k))] [] h376 from ⟨by decide, ?_⟩)
        refine sv_S2 sv2_101 (by intro q hq; simp only [List.mem_cons, List.not_mem_nil, or_false] at hq; rcases hq with rfl | rfl | rfl | rfl | rfl | rfl <;> rfl) (d_101_65_t17_41 k (d_102 C k (d_88 C s k w)) (dE C) 0 s _ (by omega) f377 f378 f379 f380 f381 f382 f383 (fun h385 f386 f387 f388 f389 f390 f391 f392 => ?_))
        refine am_goX 2 (show 3 < 6 ∧ pz_S 6 none am_r101 4 Q 25 [(3, .int ((nI k) + (Int32.ofInt 1))), (0, .ref 17), (1, .ref 41), (2, .int w)] [] h385 from ⟨by decide, ?_⟩)
        rw [show d_101_25 C w (m + 1) k s = d_101_25 C w m (k + 1) (d_101_65 C w k (d_102 C k (d_88 C s k w)) (dE C) 0 s) from (if_neg c375).trans (if_neg c384)] at hZ
        rw [show (nI k) + (Int32.ofInt 1) = nI (k + 1) from (dn_a rfl rfl)]
        exact sv_S2 sv2_101 (by intro q hq; simp only [List.mem_cons, List.not_mem_nil, or_false] at hq; rcases hq with rfl | rfl | rfl | rfl <;> rfl) (ih (k + 1) (d_101_65 C w k (d_102 C k (d_88 C s k w)) (dE C) 0 s) _ (by omega) f386 f387 f388 f389 f390 f391 f392 hZ)
theorem d_101_t17_41 (hP : ex_P h) (hI : cI C) (hT : c_v 17 C h) (hD : c_d 17 C h) (hR : h.2.2.1 0 3 = some 17) (hN : sC 36 u h) (hS : sC 41 s h)  (hQ : ∀ h1, (ex_P h1) → (cI C) → (c_v 17 C h1) → (c_d 17 C h1) → (h1.2.2.1 0 3 = some 17) → (sC 36 u h1) → (sC 41 (d_101_s C s w) h1) → Q none h1) : am_call am_cod 5 101 [.ref 17, .ref 41, .int w] h Q := by
  have h6 := hT.1.2.1
  have h5 := hT.2.1.2.1
  refine pz_call (n := 101) (nL := 6) (rt := none) (rows := am_r101) (d := 4) (by decide +kernel) (by decide +kernel) rfl (by funext pc; rfl) (ex_175 hP) (by exact Nat.le_of_ble_eq_true rfl) ?_
  refine am_goX 2 (show 3 < 6 ∧ pz_S 6 none am_r101 4 Q 2 [(3, .int (Int32.ofInt 0)), (0, .ref 17), (1, .ref 41), (2, .int w)] [] h from ⟨by decide, ?_⟩)
  refine sv_S2 sv2_101 (by intro q hq; simp only [List.mem_cons, List.not_mem_nil, or_false] at hq; rcases hq with rfl | rfl | rfl | rfl <;> rfl) (d_101_2_t17_41 (dE C) 0 s _ (by omega) hP hI hT hD hR hN hS (fun h367 f368 f369 f370 f371 f372 f373 f374 => ?_))
  refine am_goX 2 (show 3 < 6 ∧ pz_S 6 none am_r101 4 Q 25 [(3, .int (Int32.ofInt 0)), (0, .ref 17), (1, .ref 41), (2, .int w)] [] h367 from ⟨by decide, ?_⟩)
  refine sv_S2 sv2_101 (by intro q hq; simp only [List.mem_cons, List.not_mem_nil, or_false] at hq; rcases hq with rfl | rfl | rfl | rfl <;> rfl) (d_101_25_t17_41 (dP C) 0 (d_101_2 C w (dE C) 0 s) _ (by omega) f368 f369 f370 f371 f372 f373 f374 (fun h393 f394 f395 f396 f397 f398 f399 f400 => ?_))
  exact am_goX 1 (show (none : Option FieldType) = none ∧ h393.2.2.2.2 = 175 ∧ _ from ⟨rfl, ex_175 f394, hQ _ f394 f395 f396 f397 f398 f399 f400⟩)
theorem d_108_2_t17_41 : ∀ (m k : Nat) (s : dS) (h : am_H), k + m = 6 → (ex_P h) → (cI C) → (c_v 17 C h) → (c_d 17 C h) → (h.2.2.1 0 3 = some 17) → (sC 36 u h) → (sC 41 s h) → (∀ h1, (ex_P h1) → (cI C) → (c_v 17 C h1) → (c_d 17 C h1) → (h1.2.2.1 0 3 = some 17) → (sC 36 u h1) → (sC 41 (d_108_2 x m k s) h1) → pz_S 3 none am_r108 1 Q 38 [] [] h1) → pz_S 3 none am_r108 1 Q 2 [(0, .ref 41), (1, .int x), (2, .int (nI k))] [] h := by
  intro m
  induction m with
  | zero =>
    intro k s h hk hP hI hT hD hR hN hS hZ
    have h6 := hT.1.2.1
    have h5 := hT.2.1.2.1
    refine am_goX 3 (show (((Int8.ofInt 6).toInt32) ≤ (nI k) → pz_S 3 none am_r108 1 Q 38 [(0, .ref 41), (1, .int x), (2, .int (nI k))] [] h) ∧ (¬ (((Int8.ofInt 6).toInt32) ≤ (nI k)) → pz_S 3 none am_r108 1 Q 8 [(0, .ref 41), (1, .int x), (2, .int (nI k))] [] h) from ⟨fun _ => ?_, fun hz => absurd (show nI 6 ≤ nI k from nI_le (by omega) (by omega)) hz⟩)
    exact sv_S2 sv2_108 (fun q hq => absurd hq List.not_mem_nil) (hZ _ hP hI hT hD hR hN hS)
  | succ m ih =>
    intro k s h hk hP hI hT hD hR hN hS hZ
    have h6 := hT.1.2.1
    have h5 := hT.2.1.2.1
    refine am_goX 3 (show (((Int8.ofInt 6).toInt32) ≤ (nI k) → pz_S 3 none am_r108 1 Q 38 [(0, .ref 41), (1, .int x), (2, .int (nI k))] [] h) ∧ (¬ (((Int8.ofInt 6).toInt32) ≤ (nI k)) → pz_S 3 none am_r108 1 Q 8 [(0, .ref 41), (1, .int x), (2, .int (nI k))] [] h) from ⟨fun hz => absurd hz (show ¬ (nI 6 ≤ nI k) by rw [nI_leI (by omega) (by omega)]; omega), fun _ => ?_⟩)
    refine am_goX 3 (show 0 ≤ 8 ∧ h.2.2.2.2 + am_al 65 ≤ 175 ∧ am_call am_cod 1 65 [.int x, .int (nI k)] h (fun vv h' => pz_S 3 none am_r108 1 Q 13 [(0, .ref 41), (1, .int x), (2, .int (nI k))] (vv.toList ++ []) h') from ⟨by decide, ex_lim hP rfl, am_call.up (d_65_w hP ?_) (by decide)⟩)
    refine am_goX 1 (show ((d_65 x (nI k)) = 0 → pz_S 3 none am_r108 1 Q 32 [(0, .ref 41), (1, .int x), (2, .int (nI k))] [] h) ∧ (¬ ((d_65 x (nI k)) = 0) → pz_S 3 none am_r108 1 Q 16 [(0, .ref 41), (1, .int x), (2, .int (nI k))] [] h) from ⟨fun c401 => ?_, fun c401 => ?_⟩)
    · refine am_goX 2 (show 2 < 3 ∧ pz_S 3 none am_r108 1 Q 2 [(2, .int ((nI k) + (Int32.ofInt 1))), (0, .ref 41), (1, .int x)] [] h from ⟨by decide, ?_⟩)
      rw [show d_108_2 x (m + 1) k s = d_108_2 x m (k + 1) s from if_pos c401] at hZ
      rw [show (nI k) + (Int32.ofInt 1) = nI (k + 1) from (dn_a rfl rfl)]
      exact sv_S2 sv2_108 (by intro q hq; simp only [List.mem_cons, List.not_mem_nil, or_false] at hq; rcases hq with rfl | rfl | rfl <;> rfl) (ih (k + 1) s _ (by omega) hP hI hT hD hR hN hS hZ)
    · refine am_goX 2 (show am_sh h 41 = some (6, 0) ∧ pz_S 3 none am_r108 1 Q 20 [(0, .ref 41), (1, .int x), (2, .int (nI k))] [am_rf (h.2.2.1 41 3)] h from ⟨ex_41 hP, ?_⟩)
      rw [show am_rf (h.2.2.1 41 3) = .ref 43 from congrArg am_rf (ex_r41_3 hP)]
      refine am_goX 3 (show (Value.int (nI k)).category = 1 ∧ (Value.ref 43).category = 1 ∧ ∃ jj nn : Nat, am_sh h 43 = some (13, nn) ∧ jj < nn ∧ nI k = nI jj ∧ pz_S 3 none am_r108 1 Q 23 [(0, .ref 41), (1, .int x), (2, .int (nI k))] [.int (h.1 43 jj), .int (nI k), .ref 43] h from ⟨rfl, rfl, ⟨k, 6, ex_43 hP, (by omega), rfl, ?_⟩⟩)
      rw [show h.1 43 k = s.2.2.2.1 k from (hS.2.1 k (by omega)).2]
      refine am_goX 9 (show ∃ jj nn : Nat, am_so h 43 = some (13, nn) ∧ jj < nn ∧ nI k = nI jj ∧ pz_S 3 none am_r108 1 Q 32 [(0, .ref 41), (1, .int x), (2, .int (nI k))] [] (am_wI h 43 jj ((s.2.2.2.1 k) ||| (x &&& (((Int32.ofInt 1) <<< ((nI k) &&& 31)) ^^^ (Int32.ofInt (-1)))))) from ⟨k, 6, ex_w43 hP, (by omega), rfl, ?_⟩)
      have f403 : ex_P (am_wI h 43 k ((s.2.2.2.1 k) ||| (x &&& (((Int32.ofInt 1) <<< ((nI k) &&& 31)) ^^^ (Int32.ofInt (-1)))))) := hP
      have f404 : cI C := hI
      have f405 : c_v 17 C (am_wI h 43 k ((s.2.2.2.1 k) ||| (x &&& (((Int32.ofInt 1) <<< ((nI k) &&& 31)) ^^^ (Int32.ofInt (-1)))))) := c_v_w (by omega) hT
      have f406 : c_d 17 C (am_wI h 43 k ((s.2.2.2.1 k) ||| (x &&& (((Int32.ofInt 1) <<< ((nI k) &&& 31)) ^^^ (Int32.ofInt (-1)))))) := c_d_w (by omega) hD
      have f407 : (am_wI h 43 k ((s.2.2.2.1 k) ||| (x &&& (((Int32.ofInt 1) <<< ((nI k) &&& 31)) ^^^ (Int32.ofInt (-1)))))).2.2.1 0 3 = some 17 := hR
      have f408 : sC 36 u (am_wI h 43 k ((s.2.2.2.1 k) ||| (x &&& (((Int32.ofInt 1) <<< ((nI k) &&& 31)) ^^^ (Int32.ofInt (-1)))))) := sC_w (by omega) hN
      have f409 : sC 41 (sSM s k ((s.2.2.2.1 k) ||| (x &&& (((Int32.ofInt 1) <<< ((nI k) &&& 31)) ^^^ (Int32.ofInt (-1)))))) (am_wI h 43 k ((s.2.2.2.1 k) ||| (x &&& (((Int32.ofInt 1) <<< ((nI k) &&& 31)) ^^^ (Int32.ofInt (-1)))))) := sC_wM (by omega) hS
      generalize am_wI h 43 k ((s.2.2.2.1 k) ||| (x &&& (((Int32.ofInt 1) <<< ((nI k) &&& 31)) ^^^ (Int32.ofInt (-1))))) = h402 at f403 f404 f405 f406 f407 f408 f409 ⊢
      refine am_goX 2 (show 2 < 3 ∧ pz_S 3 none am_r108 1 Q 2 [(2, .int ((nI k) + (Int32.ofInt 1))), (0, .ref 41), (1, .int x)] [] h402 from ⟨by decide, ?_⟩)
      rw [show d_108_2 x (m + 1) k s = d_108_2 x m (k + 1) (sSM s k ((s.2.2.2.1 k) ||| (x &&& (((Int32.ofInt 1) <<< ((nI k) &&& 31)) ^^^ (Int32.ofInt (-1)))))) from if_neg c401] at hZ
      rw [show (nI k) + (Int32.ofInt 1) = nI (k + 1) from (dn_a rfl rfl)]
      exact sv_S2 sv2_108 (by intro q hq; simp only [List.mem_cons, List.not_mem_nil, or_false] at hq; rcases hq with rfl | rfl | rfl <;> rfl) (ih (k + 1) (sSM s k ((s.2.2.2.1 k) ||| (x &&& (((Int32.ofInt 1) <<< ((nI k) &&& 31)) ^^^ (Int32.ofInt (-1)))))) _ (by omega) f403 f404 f405 f406 f407 f408 f409 hZ)
theorem d_108_t17_41 (hP : ex_P h) (hI : cI C) (hT : c_v 17 C h) (hD : c_d 17 C h) (hR : h.2.2.1 0 3 = some 17) (hN : sC 36 u h) (hS : sC 41 s h)  (hQ : ∀ h1, (ex_P h1) → (cI C) → (c_v 17 C h1) → (c_d 17 C h1) → (h1.2.2.1 0 3 = some 17) → (sC 36 u h1) → (sC 41 (d_108_s s x) h1) → Q none h1) : am_call am_cod 2 108 [.ref 41, .int x] h Q := by
  have h6 := hT.1.2.1
  have h5 := hT.2.1.2.1
  refine pz_call (n := 108) (nL := 3) (rt := none) (rows := am_r108) (d := 1) (by decide +kernel) (by decide +kernel) rfl (by funext pc; rfl) (ex_175 hP) (by exact Nat.le_of_ble_eq_true rfl) ?_
  refine am_goX 2 (show 2 < 3 ∧ pz_S 3 none am_r108 1 Q 2 [(2, .int (Int32.ofInt 0)), (0, .ref 41), (1, .int x)] [] h from ⟨by decide, ?_⟩)
  refine sv_S2 sv2_108 (by intro q hq; simp only [List.mem_cons, List.not_mem_nil, or_false] at hq; rcases hq with rfl | rfl | rfl <;> rfl) (d_108_2_t17_41 6 0 s _ (by omega) hP hI hT hD hR hN hS (fun h410 f411 f412 f413 f414 f415 f416 f417 => ?_))
  exact am_goX 1 (show (none : Option FieldType) = none ∧ h410.2.2.2.2 = 175 ∧ _ from ⟨rfl, ex_175 f411, hQ _ f411 f412 f413 f414 f415 f416 f417⟩)
theorem d_100_21_t17_41 : ∀ (m k : Nat) (a3 : Int32) (s : dS) (h : am_H), k + m = dE C → (ex_P h) → (cI C) → (c_v 17 C h) → (c_d 17 C h) → (h.2.2.1 0 3 = some 17) → (sC 36 u h) → (sC 41 s h) → (∀ h1, (ex_P h1) → (cI C) → (c_v 17 C h1) → (c_d 17 C h1) → (h1.2.2.1 0 3 = some 17) → (sC 36 u h1) → (sC 41 ((d_100_21 C m k a3 s).2) h1) → pz_S 5 (some .int) am_r100 5 Q 85 [(3, .int ((d_100_21 C m k a3 s).1))] [] h1) → pz_S 5 (some .int) am_r100 5 Q 21 [(0, .ref 17), (1, .ref 41), (3, .int a3), (4, .int (nI k))] [] h := by
  intro m
  induction m with
  | zero =>
    intro k a3 s h hk hP hI hT hD hR hN hS hZ
    have h6 := hT.1.2.1
    have h5 := hT.2.1.2.1
    refine am_goX 3 (show am_sh h 17 = some (0, 0) ∧ pz_S 5 (some .int) am_r100 5 Q 27 [(0, .ref 17), (1, .ref 41), (3, .int a3), (4, .int (nI k))] [.int (h.1 17 4), .int (nI k)] h from ⟨ex_17 hP, ?_⟩)
    rw [show h.1 17 4 = nI (dE C) from hT.2.1.1]
    refine am_goX 1 (show ((nI (dE C)) ≤ (nI k) → pz_S 5 (some .int) am_r100 5 Q 85 [(0, .ref 17), (1, .ref 41), (3, .int a3), (4, .int (nI k))] [] h) ∧ (¬ ((nI (dE C)) ≤ (nI k)) → pz_S 5 (some .int) am_r100 5 Q 30 [(0, .ref 17), (1, .ref 41), (3, .int a3), (4, .int (nI k))] [] h) from ⟨fun _ => ?_, fun hz => absurd (show nI (dE C) ≤ nI k from nI_le (by omega) (by omega)) hz⟩)
    exact sv_S2 sv2_100 (by intro q hq; simp only [List.mem_cons, List.not_mem_nil, or_false] at hq; rcases hq with rfl <;> rfl) (hZ _ hP hI hT hD hR hN hS)
  | succ m ih =>
    intro k a3 s h hk hP hI hT hD hR hN hS hZ
    have h6 := hT.1.2.1
    have h5 := hT.2.1.2.1
    refine am_goX 3 (show am_sh h 17 = some (0, 0) ∧ pz_S 5 (some .int) am_r100 5 Q 27 [(0, .ref 17), (1, .ref 41), (3, .int a3), (4, .int (nI k))] [.int (h.1 17 4), .int (nI k)] h from ⟨ex_17 hP, ?_⟩)
    rw [show h.1 17 4 = nI (dE C) from hT.2.1.1]
    refine am_goX 1 (show ((nI (dE C)) ≤ (nI k) → pz_S 5 (some .int) am_r100 5 Q 85 [(0, .ref 17), (1, .ref 41), (3, .int a3), (4, .int (nI k))] [] h) ∧ (¬ ((nI (dE C)) ≤ (nI k)) → pz_S 5 (some .int) am_r100 5 Q 30 [(0, .ref 17), (1, .ref 41), (3, .int a3), (4, .int (nI k))] [] h) from ⟨fun hz => absurd hz (show ¬ (nI (dE C) ≤ nI k) by rw [nI_leI (by omega) (by omega)]; omega), fun _ => ?_⟩)
    refine am_goX 3 (show am_sh h 41 = some (6, 0) ∧ pz_S 5 (some .int) am_r100 5 Q 35 [(0, .ref 17), (1, .ref 41), (3, .int a3), (4, .int (nI k))] [am_rf (h.2.2.1 41 5), .ref 41] h from ⟨ex_41 hP, ?_⟩)
    rw [show am_rf (h.2.2.1 41 5) = .ref 45 from congrArg am_rf (ex_r41_5 hP)]
    refine am_goX 2 (show ∃ jj nn : Nat, am_sh h 45 = some (13, nn) ∧ jj < nn ∧ nI k = nI jj ∧ pz_S 5 (some .int) am_r100 5 Q 38 [(0, .ref 17), (1, .ref 41), (3, .int a3), (4, .int (nI k))] [.int (h.1 45 jj), .ref 41] h from ⟨k, 5, ex_45 hP, (by omega), rfl, ?_⟩)
    rw [show h.1 45 k = s.2.2.2.2.2 k from (hS.2.2 k (by omega)).2]
    refine am_goX 1 (show am_rc h 41 6 ∧ 0 ≤ 8 ∧ h.2.2.2.2 + am_al 108 ≤ 175 ∧ am_call am_cod 5 108 [.ref 41, .int (s.2.2.2.2.2 k)] h (fun vv h' => pz_S 5 (some .int) am_r100 5 Q 41 [(0, .ref 17), (1, .ref 41), (3, .int a3), (4, .int (nI k))] (vv.toList ++ []) h') from ⟨Or.inl ⟨by decide, ex_41 hP⟩, by decide, ex_lim hP rfl, am_call.up (d_108_t17_41 hP hI hT hD hR hN hS (fun h434 f435 f436 f437 f438 f439 f440 f441 => ?_)) (by decide)⟩)
    refine am_goX 2 (show am_sh h434 41 = some (6, 0) ∧ pz_S 5 (some .int) am_r100 5 Q 45 [(0, .ref 17), (1, .ref 41), (3, .int a3), (4, .int (nI k))] [am_rf (h434.2.2.1 41 5)] h434 from ⟨ex_41 f435, ?_⟩)
    rw [show am_rf (h434.2.2.1 41 5) = .ref 45 from congrArg am_rf (ex_r41_5 f435)]
    refine am_goX 2 (show ∃ jj nn : Nat, am_sh h434 45 = some (13, nn) ∧ jj < nn ∧ nI k = nI jj ∧ pz_S 5 (some .int) am_r100 5 Q 48 [(0, .ref 17), (1, .ref 41), (3, .int a3), (4, .int (nI k))] [.int (h434.1 45 jj)] h434 from ⟨k, 5, ex_45 f435, (by omega), rfl, ?_⟩)
    rw [show h434.1 45 k = (d_108_s s (s.2.2.2.2.2 k)).2.2.2.2.2 k from (f441.2.2 k (by omega)).2]
    refine am_goX 1 (show 0 ≤ 8 ∧ h434.2.2.2.2 + am_al 69 ≤ 175 ∧ am_call am_cod 5 69 [.int ((d_108_s s (s.2.2.2.2.2 k)).2.2.2.2.2 k)] h434 (fun vv h' => pz_S 5 (some .int) am_r100 5 Q 51 [(0, .ref 17), (1, .ref 41), (3, .int a3), (4, .int (nI k))] (vv.toList ++ []) h') from ⟨by decide, ex_lim f435 rfl, am_call.up (d_69_w f435 ?_) (by decide)⟩)
    refine am_goX 2 (show am_sh h434 17 = some (0, 0) ∧ pz_S 5 (some .int) am_r100 5 Q 55 [(0, .ref 17), (1, .ref 41), (3, .int a3), (4, .int (nI k))] [am_rf (h434.2.2.1 17 7), .int (d_69 ((d_108_s s (s.2.2.2.2.2 k)).2.2.2.2.2 k))] h434 from ⟨ex_17 f435, ?_⟩)
    rw [show am_rf (h434.2.2.1 17 7) = .ref 23 from congrArg am_rf (ex_r17_7 f435)]
    refine am_goX 2 (show ∃ jj nn : Nat, am_sh h434 23 = some (13, nn) ∧ jj < nn ∧ nI k = nI jj ∧ pz_S 5 (some .int) am_r100 5 Q 58 [(0, .ref 17), (1, .ref 41), (3, .int a3), (4, .int (nI k))] [.int (h434.1 23 jj), .int (d_69 ((d_108_s s (s.2.2.2.2.2 k)).2.2.2.2.2 k))] h434 from ⟨k, 5, ex_23 f435, (by omega), rfl, ?_⟩)
    rw [show h434.1 23 k = dN C k from (f437.2.1.2.2 k (by omega)).1]
    refine am_goX 1 (show ((d_69 ((d_108_s s (s.2.2.2.2.2 k)).2.2.2.2.2 k)) < (dN C k) → pz_S 5 (some .int) am_r100 5 Q 79 [(0, .ref 17), (1, .ref 41), (3, .int a3), (4, .int (nI k))] [] h434) ∧ (¬ ((d_69 ((d_108_s s (s.2.2.2.2.2 k)).2.2.2.2.2 k)) < (dN C k)) → pz_S 5 (some .int) am_r100 5 Q 61 [(0, .ref 17), (1, .ref 41), (3, .int a3), (4, .int (nI k))] [] h434) from ⟨fun c442 => ?_, fun c442 => ?_⟩)
    · refine am_goX 2 (show 4 < 5 ∧ pz_S 5 (some .int) am_r100 5 Q 21 [(4, .int ((nI k) + (Int32.ofInt 1))), (0, .ref 17), (1, .ref 41), (3, .int a3)] [] h434 from ⟨by decide, ?_⟩)
      rw [show d_100_21 C (m + 1) k a3 s = d_100_21 C m (k + 1) a3 (d_108_s s (s.2.2.2.2.2 k)) from if_pos c442] at hZ
      rw [show (nI k) + (Int32.ofInt 1) = nI (k + 1) from (dn_a rfl rfl)]
      exact sv_S2 sv2_100 (by intro q hq; simp only [List.mem_cons, List.not_mem_nil, or_false] at hq; rcases hq with rfl | rfl | rfl | rfl <;> rfl) (ih (k + 1) a3 (d_108_s s (s.2.2.2.2.2 k)) _ (by omega) f435 f436 f437 f438 f439 f440 f441 hZ)
    · refine am_goX 2 (show am_sh h434 41 = some (6, 0) ∧ pz_S 5 (some .int) am_r100 5 Q 65 [(0, .ref 17), (1, .ref 41), (3, .int a3), (4, .int (nI k))] [am_rf (h434.2.2.1 41 4)] h434 from ⟨ex_41 f435, ?_⟩)
      rw [show am_rf (h434.2.2.1 41 4) = .ref 44 from congrArg am_rf (ex_r41_4 f435)]
      refine am_goX 3 (show (Value.int (nI k)).category = 1 ∧ (Value.ref 44).category = 1 ∧ ∃ jj nn : Nat, am_sh h434 44 = some (13, nn) ∧ jj < nn ∧ nI k = nI jj ∧ pz_S 5 (some .int) am_r100 5 Q 69 [(0, .ref 17), (1, .ref 41), (3, .int a3), (4, .int (nI k))] [.int (h434.1 44 jj), .int (nI k), .ref 44] h434 from ⟨rfl, rfl, ⟨k, 5, ex_44 f435, (by omega), rfl, ?_⟩⟩)
      rw [show h434.1 44 k = (d_108_s s (s.2.2.2.2.2 k)).2.2.2.2.1 k from (f441.2.2 k (by omega)).1]
      refine am_goX 3 (show ∃ jj nn : Nat, am_so h434 44 = some (13, nn) ∧ jj < nn ∧ nI k = nI jj ∧ pz_S 5 (some .int) am_r100 5 Q 72 [(0, .ref 17), (1, .ref 41), (3, .int a3), (4, .int (nI k))] [] (am_wI h434 44 jj (((d_108_s s (s.2.2.2.2.2 k)).2.2.2.2.1 k) + (Int32.ofInt 1))) from ⟨k, 5, ex_w44 f435, (by omega), rfl, ?_⟩)
      have f444 : ex_P (am_wI h434 44 k (((d_108_s s (s.2.2.2.2.2 k)).2.2.2.2.1 k) + (Int32.ofInt 1))) := f435
      have f445 : cI C := f436
      have f446 : c_v 17 C (am_wI h434 44 k (((d_108_s s (s.2.2.2.2.2 k)).2.2.2.2.1 k) + (Int32.ofInt 1))) := c_v_w (by omega) f437
      have f447 : c_d 17 C (am_wI h434 44 k (((d_108_s s (s.2.2.2.2.2 k)).2.2.2.2.1 k) + (Int32.ofInt 1))) := c_d_w (by omega) f438
      have f448 : (am_wI h434 44 k (((d_108_s s (s.2.2.2.2.2 k)).2.2.2.2.1 k) + (Int32.ofInt 1))).2.2.1 0 3 = some 17 := f439
      have f449 : sC 36 u (am_wI h434 44 k (((d_108_s s (s.2.2.2.2.2 k)).2.2.2.2.1 k) + (Int32.ofInt 1))) := sC_w (by omega) f440
      have f450 : sC 41 (sSH (d_108_s s (s.2.2.2.2.2 k)) k (((d_108_s s (s.2.2.2.2.2 k)).2.2.2.2.1 k) + (Int32.ofInt 1))) (am_wI h434 44 k (((d_108_s s (s.2.2.2.2.2 k)).2.2.2.2.1 k) + (Int32.ofInt 1))) := sC_wH (by omega) f441
      generalize am_wI h434 44 k (((d_108_s s (s.2.2.2.2.2 k)).2.2.2.2.1 k) + (Int32.ofInt 1)) = h443 at f444 f445 f446 f447 f448 f449 f450 ⊢
      refine am_goX 8 (show 3 < 5 ∧ 4 < 5 ∧ pz_S 5 (some .int) am_r100 5 Q 21 [(4, .int ((nI k) + (Int32.ofInt 1))), (3, .int (a3 ||| ((Int32.ofInt 1) <<< ((nI k) &&& 31)))), (0, .ref 17), (1, .ref 41)] [] h443 from ⟨by decide, by decide, ?_⟩)
      rw [show d_100_21 C (m + 1) k a3 s = d_100_21 C m (k + 1) (a3 ||| ((Int32.ofInt 1) <<< ((nI k) &&& 31))) (sSH (d_108_s s (s.2.2.2.2.2 k)) k (((d_108_s s (s.2.2.2.2.2 k)).2.2.2.2.1 k) + (Int32.ofInt 1))) from if_neg c442] at hZ
      rw [show (nI k) + (Int32.ofInt 1) = nI (k + 1) from (dn_a rfl rfl)]
      exact sv_S2 sv2_100 (by intro q hq; simp only [List.mem_cons, List.not_mem_nil, or_false] at hq; rcases hq with rfl | rfl | rfl | rfl <;> rfl) (ih (k + 1) (a3 ||| ((Int32.ofInt 1) <<< ((nI k) &&& 31))) (sSH (d_108_s s (s.2.2.2.2.2 k)) k (((d_108_s s (s.2.2.2.2.2 k)).2.2.2.2.1 k) + (Int32.ofInt 1))) _ (by omega) f444 f445 f446 f447 f448 f449 f450 hZ)
theorem d_100_t17_41 (hP : ex_P h) (hI : cI C) (hT : c_v 17 C h) (hD : c_d 17 C h) (hR : h.2.2.1 0 3 = some 17) (hN : sC 36 u h) (hS : sC 41 s h)  (hQ : ∀ h1, (ex_P h1) → (cI C) → (c_v 17 C h1) → (c_d 17 C h1) → (h1.2.2.1 0 3 = some 17) → (sC 36 u h1) → (sC 41 (d_100_s C s w) h1) → Q (some (.int (d_100 C s w))) h1) : am_call am_cod 6 100 [.ref 17, .ref 41, .int w] h Q := by
  have h6 := hT.1.2.1
  have h5 := hT.2.1.2.1
  refine pz_call (n := 100) (nL := 5) (rt := (some .int)) (rows := am_r100) (d := 5) (by decide +kernel) (by decide +kernel) rfl (by funext pc; rfl) (ex_175 hP) (by exact Nat.le_of_ble_eq_true rfl) ?_
  refine am_goX 3 (show (Value.ref 41).category = 1 ∧ am_sh h 41 = some (6, 0) ∧ pz_S 5 (some .int) am_r100 5 Q 5 [(0, .ref 17), (1, .ref 41), (2, .int w)] [.int (h.1 41 0), .ref 41] h from ⟨rfl, ex_41 hP, ?_⟩)
  rw [show h.1 41 0 = s.1 from hS.1.1]
  refine am_goX 3 (show am_sh h 41 = some (6, 0) ∧ narrow (am_fty 6 0) (.int (s.1 + (Int32.ofInt 1))) = .int (s.1 + (Int32.ofInt 1)) ∧ fits (am_fty 6 0) (.int (s.1 + (Int32.ofInt 1))) = true ∧ pz_S 5 (some .int) am_r100 5 Q 10 [(0, .ref 17), (1, .ref 41), (2, .int w)] [] (am_wI h 41 0 (s.1 + (Int32.ofInt 1))) from ⟨ex_41 hP, rfl, rfl, ?_⟩)
  have f419 : ex_P (am_wI h 41 0 (s.1 + (Int32.ofInt 1))) := hP
  have f420 : cI C := hI
  have f421 : c_v 17 C (am_wI h 41 0 (s.1 + (Int32.ofInt 1))) := c_v_w (by omega) hT
  have f422 : c_d 17 C (am_wI h 41 0 (s.1 + (Int32.ofInt 1))) := c_d_w (by omega) hD
  have f423 : (am_wI h 41 0 (s.1 + (Int32.ofInt 1))).2.2.1 0 3 = some 17 := hR
  have f424 : sC 36 u (am_wI h 41 0 (s.1 + (Int32.ofInt 1))) := sC_w (by omega) hN
  have f425 : sC 41 (sSD s (s.1 + (Int32.ofInt 1))) (am_wI h 41 0 (s.1 + (Int32.ofInt 1))) := sC_wD (by omega) hS
  generalize am_wI h 41 0 (s.1 + (Int32.ofInt 1)) = h418 at f419 f420 f421 f422 f423 f424 f425 ⊢
  refine am_goX 4 (show am_rc h418 17 0 ∧ 0 ≤ 8 ∧ h418.2.2.2.2 + am_al 101 ≤ 175 ∧ am_call am_cod 5 101 [.ref 17, .ref 41, .int w] h418 (fun vv h' => pz_S 5 (some .int) am_r100 5 Q 16 [(0, .ref 17), (1, .ref 41), (2, .int w)] (vv.toList ++ []) h') from ⟨Or.inl ⟨by decide, ex_17 f419⟩, by decide, ex_lim f419 rfl, am_call.up (d_101_t17_41 f419 f420 f421 f422 f423 f424 f425 (fun h426 f427 f428 f429 f430 f431 f432 f433 => ?_)) (by decide)⟩)
  refine am_goX 4 (show 3 < 5 ∧ 4 < 5 ∧ pz_S 5 (some .int) am_r100 5 Q 21 [(4, .int (Int32.ofInt 0)), (3, .int (Int32.ofInt 0)), (0, .ref 17), (1, .ref 41), (2, .int w)] [] h426 from ⟨by decide, by decide, ?_⟩)
  refine sv_S2 sv2_100 (by intro q hq; simp only [List.mem_cons, List.not_mem_nil, or_false] at hq; rcases hq with rfl | rfl | rfl | rfl <;> rfl) (d_100_21_t17_41 (dE C) 0 (Int32.ofInt 0) (d_101_s C (sSD s (s.1 + (Int32.ofInt 1))) w) _ (by omega) f427 f428 f429 f430 f431 f432 f433 (fun h451 f452 f453 f454 f455 f456 f457 f458 => ?_))
  exact am_goX 2 (show (∃ ty, (some .int) = some ty ∧ narrow ty (.int ((d_100_21 C (dE C) 0 (Int32.ofInt 0) (d_101_s C (sSD s (s.1 + (Int32.ofInt 1))) w)).1)) = .int ((d_100_21 C (dE C) 0 (Int32.ofInt 0) (d_101_s C (sSD s (s.1 + (Int32.ofInt 1))) w)).1)) ∧ h451.2.2.2.2 = 175 ∧ _ from ⟨⟨.int, rfl, rfl⟩, ex_175 f452, hQ _ f452 f453 f454 f455 f456 f457 f458⟩)
