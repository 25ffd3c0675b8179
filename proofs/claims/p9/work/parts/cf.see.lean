/-! SEE AND MARK -/
abbrev mset (M : dMk) (m : Nat) (s : dS) (x : Nat) : dMk := (fun j => if j = m then true else M.1 j, fun j => if j = m then s else M.2.1 j, fun j => if j = m then x else M.2.2 j)
/-- all but the mark m -/
def kMk (m : Nat) (h0 h : am_H) : Prop := h.2 = h0.2 ∧ ∀ o k, ¬ (130 + 6 * m ≤ o ∧ o ≤ 135 + 6 * m) → h.1 o k = h0.1 o k
theorem kMk_0 {m : Nat} {h : am_H} : kMk m h h := ⟨rfl, fun _ _ _ => rfl⟩
theorem kMk_w {m o k : Nat} {v : Int32} {h0 h : am_H} (ho : 130 + 6 * m ≤ o ∧ o ≤ 135 + 6 * m) (l : kMk m h0 h) : kMk m h0 (am_wI h o k v) := ⟨l.1, fun a j n1 => (em_wn _ _ (by omega)).trans (l.2 a j n1)⟩
theorem mC_set {M : dMk} {m x : Nat} {s : dS} {h g : am_H} (k : ∀ a j, ¬ (130 + 6 * m ≤ a ∧ a ≤ 135 + 6 * m) → g.1 a j = h.1 a j) (e0 : g.1 (130 + 6 * m) 0 = 1) (e1 : sC (131 + 6 * m) s g) (e2 : g.1 (130 + 6 * m) 2 = nI x) (l : mC M h) : mC (mset M m s x) g := fun j hj => by
  show _ = (bif (if j = m then true else M.1 j) then (1 : Int32) else 0) ∧ ((if j = m then true else M.1 j) = true → sC _ (if j = m then s else M.2.1 j) g ∧ _ = nI (if j = m then x else M.2.2 j))
  by_cases e : j = m
  · rw [if_pos e, if_pos e, if_pos e, e]
    exact ⟨e0, fun _ => ⟨e1, e2⟩⟩
  · rw [if_neg e, if_neg e, if_neg e]
    exact ⟨(k _ _ (by omega)).trans (l j hj).1, fun z => ⟨sC_fr (fun a q u1 u2 => k a q (by omega)) ((l j hj).2 z).1, (k _ _ (by omega)).trans ((l j hj).2 z).2⟩⟩
theorem mL_set {P : Nat} {M : dMk} {m x : Nat} {s : dS} {h g : am_H} (h6 : P ≤ 6) (k : ∀ j, j < 4 → ¬ j = m → g.1 171 j = h.1 171 j) (k2 : ∀ q, 49 ≤ q → q < 245 → ¬ (49 + 49 * m ≤ q ∧ q < 49 + 49 * m + 49) → g.1 170 q = h.1 170 q) (e0 : g.1 171 m = 1) (e1 : sR (49 + 49 * m) P s g) (e2 : g.1 170 (73 + 49 * m) = nI x) (l : mL P M h) : mL P (mset M m s x) g := fun j hj => by
  show _ = (bif (if j = m then true else M.1 j) then (1 : Int32) else 0) ∧ ((if j = m then true else M.1 j) = true → sR _ P (if j = m then s else M.2.1 j) g ∧ _ = nI (if j = m then x else M.2.2 j))
  by_cases e : j = m
  · rw [if_pos e, if_pos e, if_pos e, e]
    exact ⟨e0, fun _ => ⟨e1, e2⟩⟩
  · rw [if_neg e, if_neg e, if_neg e]
    exact ⟨(k j hj e).trans (l j hj).1, fun z => ⟨sR_fr (fun q u1 u2 => k2 q (by omega) (by omega) (by omega)) h6 ((l j hj).2 z).1, (k2 _ (by omega) (by omega) (by omega)).trans ((l j hj).2 z).2⟩⟩
variable {h : am_H} {Q : am_Q} {C V : sp_C} {y z w b : Int32} {e l m q : Nat} {s : dS} {H : dH} {M : dMk} {x : Nat}
theorem v_93 (hp : e < dE C) (h5 : dE C ≤ 5) : (if nI e < 0 then Int32.ofInt 0 else if nI (dE C) ≤ nI e then Int32.ofInt 0 else Int32.ofInt 1) = Int32.ofInt 1 := by
  rw [if_neg (show ¬ (nI e < 0) from nI_pos (by omega)), if_neg (show ¬ (nI (dE C) ≤ nI e) by rw [nI_leI (by omega) (by omega)]; omega)]
theorem sv2_93 : am_r93.all (fun q => sv2_ok q.2) = true := by decide +kernel
theorem sv2_148 : am_r148.all (fun q => sv2_ok q.2) = true := by decide +kernel
theorem sv2_149 : am_r149.all (fun q => sv2_ok q.2) = true := by decide +kernel
theorem sv2_227 : am_r227.all (fun q => sv2_ok q.2) = true := by decide +kernel
theorem sv2_266 : am_r266.all (fun q => sv2_ok q.2) = true := by decide +kernel
def d_93 (C : sp_C) (y : Int32) : Int32 := (if y < 0 then Int32.ofInt 0 else (if (nI (dE C)) ≤ y then Int32.ofInt 0 else Int32.ofInt 1))
theorem d_93_t6 (hP : ex_P h) (hT : c_v 6 C h) (hR : h.2.2.1 0 3 = some 6)  (hQ : Q (some (.int (d_93 C y))) h) : am_call am_cod 2 93 [.ref 0, .int y] h Q := by
  have h6 := hT.1.2.1
  have h5 := hT.2.1.2.1
  refine pz_call (n := 93) (nL := 2) (rt := (some .boolean)) (rows := am_r93) (d := 1) (by decide +kernel) (by decide +kernel) rfl (by funext pc; rfl) (ex_175 hP) (by exact Nat.le_of_ble_eq_true rfl) ?_
  suffices key : ∀ (v2 : Int32), v2 = (if y < 0 then Int32.ofInt 0 else (if (nI (dE C)) ≤ y then Int32.ofInt 0 else Int32.ofInt 1)) → pz_S 2 (some .boolean) am_r93 1 Q 20 [] [.int v2] h by
    refine am_goX 2 (show (y < 0 → pz_S 2 (some .boolean) am_r93 1 Q 19 [(0, .ref 0), (1, .int y)] [] h) ∧ (¬ (y < 0) → pz_S 2 (some .boolean) am_r93 1 Q 4 [(0, .ref 0), (1, .int y)] [] h) from ⟨fun c1 => ?_, fun c1 => ?_⟩)
    · refine am_goX 1 (show pz_S 2 (some .boolean) am_r93 1 Q 20 [(0, .ref 0), (1, .int y)] [.int (Int32.ofInt 0)] h from ?_)
      exact sv_S2 sv2_93 (fun q hq => absurd hq List.not_mem_nil) (key _ (if_pos c1).symm)
    · refine am_goX 3 (show am_sh h 0 = some (10, 0) ∧ pz_S 2 (some .boolean) am_r93 1 Q 9 [(0, .ref 0), (1, .int y)] [am_rf (h.2.2.1 0 3), .int y] h from ⟨ex_0 hP, ?_⟩)
      rw [show am_rf (h.2.2.1 0 3) = .ref 6 from congrArg am_rf (hR)]
      refine am_goX 1 (show am_sh h 6 = some (0, 0) ∧ pz_S 2 (some .boolean) am_r93 1 Q 12 [(0, .ref 0), (1, .int y)] [.int (h.1 6 4), .int y] h from ⟨ex_6 hP, ?_⟩)
      rw [show h.1 6 4 = nI (dE C) from hT.2.1.1]
      suffices key : ∀ (v4 : Int32), v4 = (if (nI (dE C)) ≤ y then Int32.ofInt 0 else Int32.ofInt 1) → pz_S 2 (some .boolean) am_r93 1 Q 20 [] [.int v4] h by
        refine am_goX 1 (show ((nI (dE C)) ≤ y → pz_S 2 (some .boolean) am_r93 1 Q 19 [(0, .ref 0), (1, .int y)] [] h) ∧ (¬ ((nI (dE C)) ≤ y) → pz_S 2 (some .boolean) am_r93 1 Q 15 [(0, .ref 0), (1, .int y)] [] h) from ⟨fun c3 => ?_, fun c3 => ?_⟩)
        · refine am_goX 1 (show pz_S 2 (some .boolean) am_r93 1 Q 20 [(0, .ref 0), (1, .int y)] [.int (Int32.ofInt 0)] h from ?_)
          exact sv_S2 sv2_93 (fun q hq => absurd hq List.not_mem_nil) (key _ (if_pos c3).symm)
        · refine am_goX 2 (show pz_S 2 (some .boolean) am_r93 1 Q 20 [(0, .ref 0), (1, .int y)] [.int (Int32.ofInt 1)] h from ?_)
          exact sv_S2 sv2_93 (fun q hq => absurd hq List.not_mem_nil) (key _ (if_neg c3).symm)
      intro v4 e5
      subst e5
      exact sv_S2 sv2_93 (fun q hq => absurd hq List.not_mem_nil) (key _ (if_neg c1).symm)
  intro v2 e6
  subst e6
  exact am_goX 1 (show (∃ ty, (some .boolean) = some ty ∧ narrow ty (.int (if y < 0 then Int32.ofInt 0 else (if (nI (dE C)) ≤ y then Int32.ofInt 0 else Int32.ofInt 1))) = .int (if y < 0 then Int32.ofInt 0 else (if (nI (dE C)) ≤ y then Int32.ofInt 0 else Int32.ofInt 1))) ∧ h.2.2.2.2 = 175 ∧ _ from ⟨⟨.boolean, rfl, (by (repeat' split) <;> rfl)⟩, ex_175 hP, hQ⟩)
theorem c_93 (h5 : dE C ≤ 5) (x : Int32) : d_93 C x = Int32.ofInt 0 ∨ ∃ p, p < dE C ∧ x = nI p := by
  unfold d_93
  by_cases h1 : x < 0
  · rw [if_pos h1]; exact Or.inl rfl
  · rw [if_neg h1]
    by_cases h2 : nI (dE C) ≤ x
    · rw [if_pos h2]; exact Or.inl rfl
    · refine Or.inr ⟨x.toInt.toNat, ?_, ?_⟩
      · have a := mt Int32.le_iff_toInt_le.mpr h2
        rw [nI_toInt (by omega)] at a
        have b := mt Int32.lt_iff_toInt_lt.mpr h1
        have e0 : (0 : Int32).toInt = 0 := rfl
        omega
      · have a := mt Int32.le_iff_toInt_le.mpr h2
        rw [nI_toInt (by omega)] at a
        have b := mt Int32.lt_iff_toInt_lt.mpr h1
        have e0 : (0 : Int32).toInt = 0 := rfl
        exact Int32.toInt_inj.mp (by rw [nI_toInt (by omega)]; omega)
def d_149_5 (C : sp_C) (e : Nat) (y : Int32) : Nat → Nat → Int32 → Int32
  | 0, _, a3 => a3
  | m + 1, k, a3 => d_149_5 C e y m (k + 1) (if ¬ (d_90 (y + (if (d_68 C y) = 0 then (nI k) - (Int32.ofInt 2) else Int32.ofInt 0))) = (dW C e) then a3 else a3 ||| ((Int32.ofInt 1) <<< ((nI k) &&& 31)))
theorem d_149_5_w6 (hP : ex_P h) (hT : c_v 6 C h) (hD : c_d 6 C h) (he : e < dE C) : ∀ (m k : Nat) (a3 : Int32), k + m = 5 → (pz_S 6 (some .int) am_r149 2 Q 60 [(3, .int (d_149_5 C e y m k a3))] [] h) → pz_S 6 (some .int) am_r149 2 Q 5 [(0, .ref 6), (1, .int (nI e)), (2, .int y), (3, .int a3), (4, .int (nI k))] [] h := by
  intro m
  induction m with
  | zero =>
    intro k a3 hk hZ
    have h6 := hT.1.2.1
    have h5 := hT.2.1.2.1
    refine am_goX 3 (show ((Int32.ofInt 5) ≤ (nI k) → pz_S 6 (some .int) am_r149 2 Q 60 [(0, .ref 6), (1, .int (nI e)), (2, .int y), (3, .int a3), (4, .int (nI k))] [] h) ∧ (¬ ((Int32.ofInt 5) ≤ (nI k)) → pz_S 6 (some .int) am_r149 2 Q 11 [(0, .ref 6), (1, .int (nI e)), (2, .int y), (3, .int a3), (4, .int (nI k))] [] h) from ⟨fun _ => ?_, fun hz => absurd (show nI 5 ≤ nI k from nI_le (by omega) (by omega)) hz⟩)
    exact sv_S2 sv2_149 (by intro q hq; simp only [List.mem_cons, List.not_mem_nil, or_false] at hq; rcases hq with rfl <;> rfl) (hZ)
  | succ m ih =>
    intro k a3 hk hZ
    have h6 := hT.1.2.1
    have h5 := hT.2.1.2.1
    refine am_goX 3 (show ((Int32.ofInt 5) ≤ (nI k) → pz_S 6 (some .int) am_r149 2 Q 60 [(0, .ref 6), (1, .int (nI e)), (2, .int y), (3, .int a3), (4, .int (nI k))] [] h) ∧ (¬ ((Int32.ofInt 5) ≤ (nI k)) → pz_S 6 (some .int) am_r149 2 Q 11 [(0, .ref 6), (1, .int (nI e)), (2, .int y), (3, .int a3), (4, .int (nI k))] [] h) from ⟨fun hz => absurd hz (show ¬ (nI 5 ≤ nI k) by rw [nI_leI (by omega) (by omega)]; omega), fun _ => ?_⟩)
    refine am_goX 3 (show am_rc h 6 0 ∧ 0 ≤ 8 ∧ h.2.2.2.2 + am_al 68 ≤ 175 ∧ am_call am_cod 2 68 [.ref 6, .int y] h (fun vv h' => pz_S 6 (some .int) am_r149 2 Q 16 [(0, .ref 6), (1, .int (nI e)), (2, .int y), (3, .int a3), (4, .int (nI k))] (vv.toList ++ []) h') from ⟨Or.inl ⟨by decide, ex_6 hP⟩, by decide, ex_lim hP rfl, am_call.up (d_68_t6 hP hT ?_) (by decide)⟩)
    suffices key : ∀ (v8 : Int32), v8 = (if (d_68 C y) = 0 then (nI k) - (Int32.ofInt 2) else Int32.ofInt 0) → pz_S 6 (some .int) am_r149 2 Q 27 [(0, .ref 6), (1, .int (nI e)), (2, .int y), (3, .int a3), (4, .int (nI k))] [.int v8] h by
      refine am_goX 1 (show ((d_68 C y) = 0 → pz_S 6 (some .int) am_r149 2 Q 23 [(0, .ref 6), (1, .int (nI e)), (2, .int y), (3, .int a3), (4, .int (nI k))] [] h) ∧ (¬ ((d_68 C y) = 0) → pz_S 6 (some .int) am_r149 2 Q 19 [(0, .ref 6), (1, .int (nI e)), (2, .int y), (3, .int a3), (4, .int (nI k))] [] h) from ⟨fun c7 => ?_, fun c7 => ?_⟩)
      · refine am_goX 3 (show pz_S 6 (some .int) am_r149 2 Q 27 [(0, .ref 6), (1, .int (nI e)), (2, .int y), (3, .int a3), (4, .int (nI k))] [.int ((nI k) - (Int32.ofInt 2))] h from ?_)
        exact sv_S2 sv2_149 (by intro q hq; simp only [List.mem_cons, List.not_mem_nil, or_false] at hq; rcases hq with rfl | rfl | rfl | rfl | rfl <;> rfl) (key _ (if_pos c7).symm)
      · refine am_goX 2 (show pz_S 6 (some .int) am_r149 2 Q 27 [(0, .ref 6), (1, .int (nI e)), (2, .int y), (3, .int a3), (4, .int (nI k))] [.int (Int32.ofInt 0)] h from ?_)
        exact sv_S2 sv2_149 (by intro q hq; simp only [List.mem_cons, List.not_mem_nil, or_false] at hq; rcases hq with rfl | rfl | rfl | rfl | rfl <;> rfl) (key _ (if_neg c7).symm)
    intro v8 e9
    subst e9
    refine am_goX 6 (show 5 < 6 ∧ 0 ≤ 8 ∧ h.2.2.2.2 + am_al 90 ≤ 175 ∧ am_call am_cod 2 90 [.int (y + (if (d_68 C y) = 0 then (nI k) - (Int32.ofInt 2) else Int32.ofInt 0)), .int ((Int8.ofInt 7).toInt32)] h (fun vv h' => pz_S 6 (some .int) am_r149 2 Q 38 [(5, .int (if (d_68 C y) = 0 then (nI k) - (Int32.ofInt 2) else Int32.ofInt 0)), (0, .ref 6), (1, .int (nI e)), (2, .int y), (3, .int a3), (4, .int (nI k))] (vv.toList ++ []) h') from ⟨by decide, by decide, ex_lim hP rfl, am_call.up (d_90_w hP ?_) (by decide)⟩)
    refine am_goX 2 (show am_sh h 6 = some (0, 0) ∧ pz_S 6 (some .int) am_r149 2 Q 42 [(5, .int (if (d_68 C y) = 0 then (nI k) - (Int32.ofInt 2) else Int32.ofInt 0)), (0, .ref 6), (1, .int (nI e)), (2, .int y), (3, .int a3), (4, .int (nI k))] [am_rf (h.2.2.1 6 6), .int (d_90 (y + (if (d_68 C y) = 0 then (nI k) - (Int32.ofInt 2) else Int32.ofInt 0)))] h from ⟨ex_6 hP, ?_⟩)
    rw [show am_rf (h.2.2.1 6 6) = .ref 11 from congrArg am_rf (ex_r6_6 hP)]
    refine am_goX 2 (show ∃ jj nn : Nat, am_sh h 11 = some (13, nn) ∧ jj < nn ∧ nI e = nI jj ∧ pz_S 6 (some .int) am_r149 2 Q 44 [(5, .int (if (d_68 C y) = 0 then (nI k) - (Int32.ofInt 2) else Int32.ofInt 0)), (0, .ref 6), (1, .int (nI e)), (2, .int y), (3, .int a3), (4, .int (nI k))] [.int (h.1 11 jj), .int (d_90 (y + (if (d_68 C y) = 0 then (nI k) - (Int32.ofInt 2) else Int32.ofInt 0)))] h from ⟨e, 5, ex_11 hP, (by omega), rfl, ?_⟩)
    rw [show h.1 11 e = dW C e from hD e (by omega)]
    suffices key : ∀ (v11 : Int32), v11 = (if ¬ (d_90 (y + (if (d_68 C y) = 0 then (nI k) - (Int32.ofInt 2) else Int32.ofInt 0))) = (dW C e) then a3 else a3 ||| ((Int32.ofInt 1) <<< ((nI k) &&& 31))) → pz_S 6 (some .int) am_r149 2 Q 54 [(0, .ref 6), (1, .int (nI e)), (2, .int y), (3, .int v11), (4, .int (nI k))] [] h by
      refine am_goX 1 (show (¬ (d_90 (y + (if (d_68 C y) = 0 then (nI k) - (Int32.ofInt 2) else Int32.ofInt 0))) = (dW C e) → pz_S 6 (some .int) am_r149 2 Q 54 [(5, .int (if (d_68 C y) = 0 then (nI k) - (Int32.ofInt 2) else Int32.ofInt 0)), (0, .ref 6), (1, .int (nI e)), (2, .int y), (3, .int a3), (4, .int (nI k))] [] h) ∧ (¬ ¬ (d_90 (y + (if (d_68 C y) = 0 then (nI k) - (Int32.ofInt 2) else Int32.ofInt 0))) = (dW C e) → pz_S 6 (some .int) am_r149 2 Q 47 [(5, .int (if (d_68 C y) = 0 then (nI k) - (Int32.ofInt 2) else Int32.ofInt 0)), (0, .ref 6), (1, .int (nI e)), (2, .int y), (3, .int a3), (4, .int (nI k))] [] h) from ⟨fun c10 => ?_, fun c10 => ?_⟩)
      · exact sv_S2 sv2_149 (by intro q hq; simp only [List.mem_cons, List.not_mem_nil, or_false] at hq; rcases hq with rfl | rfl | rfl | rfl | rfl <;> rfl) (key _ (if_pos c10).symm)
      · refine am_goX 6 (show 3 < 6 ∧ pz_S 6 (some .int) am_r149 2 Q 54 [(3, .int (a3 ||| ((Int32.ofInt 1) <<< ((nI k) &&& 31)))), (5, .int (if (d_68 C y) = 0 then (nI k) - (Int32.ofInt 2) else Int32.ofInt 0)), (0, .ref 6), (1, .int (nI e)), (2, .int y), (4, .int (nI k))] [] h from ⟨by decide, ?_⟩)
        exact sv_S2 sv2_149 (by intro q hq; simp only [List.mem_cons, List.not_mem_nil, or_false] at hq; rcases hq with rfl | rfl | rfl | rfl | rfl <;> rfl) (key _ (if_neg c10).symm)
    intro v11 e12
    subst e12
    refine am_goX 2 (show 4 < 6 ∧ pz_S 6 (some .int) am_r149 2 Q 5 [(4, .int ((nI k) + (Int32.ofInt 1))), (0, .ref 6), (1, .int (nI e)), (2, .int y), (3, .int (if ¬ (d_90 (y + (if (d_68 C y) = 0 then (nI k) - (Int32.ofInt 2) else Int32.ofInt 0))) = (dW C e) then a3 else a3 ||| ((Int32.ofInt 1) <<< ((nI k) &&& 31))))] [] h from ⟨by decide, ?_⟩)
    rw [show (nI k) + (Int32.ofInt 1) = nI (k + 1) from (dn_a rfl rfl)]
    exact sv_S2 sv2_149 (by intro q hq; simp only [List.mem_cons, List.not_mem_nil, or_false] at hq; rcases hq with rfl | rfl | rfl | rfl | rfl <;> rfl) (ih (k + 1) (if ¬ (d_90 (y + (if (d_68 C y) = 0 then (nI k) - (Int32.ofInt 2) else Int32.ofInt 0))) = (dW C e) then a3 else a3 ||| ((Int32.ofInt 1) <<< ((nI k) &&& 31))) (by omega) hZ)
def d_149 (C : sp_C) (e : Nat) (y : Int32) : Int32 := d_149_5 C e y 5 0 (Int32.ofInt 0)
theorem d_149_w6 (hP : ex_P h) (hT : c_v 6 C h) (hD : c_d 6 C h) (he : e < dE C) (hQ : Q (some (.int (d_149 C e y))) h) : am_call am_cod 3 149 [.ref 6, .int (nI e), .int y] h Q := by
  have h6 := hT.1.2.1
  have h5 := hT.2.1.2.1
  refine pz_call (n := 149) (nL := 6) (rt := (some .int)) (rows := am_r149) (d := 2) (by decide +kernel) (by decide +kernel) rfl (by funext pc; rfl) (ex_175 hP) (by exact Nat.le_of_ble_eq_true rfl) ?_
  refine am_goX 4 (show 3 < 6 ∧ 4 < 6 ∧ pz_S 6 (some .int) am_r149 2 Q 5 [(4, .int (Int32.ofInt 0)), (3, .int (Int32.ofInt 0)), (0, .ref 6), (1, .int (nI e)), (2, .int y)] [] h from ⟨by decide, by decide, ?_⟩)
  refine sv_S2 sv2_149 (by intro q hq; simp only [List.mem_cons, List.not_mem_nil, or_false] at hq; rcases hq with rfl | rfl | rfl | rfl | rfl <;> rfl) (d_149_5_w6 hP hT hD he 5 0 (Int32.ofInt 0) (by omega) ?_)
  exact am_goX 2 (show (∃ ty, (some .int) = some ty ∧ narrow ty (.int (d_149_5 C e y 5 0 (Int32.ofInt 0))) = .int (d_149_5 C e y 5 0 (Int32.ofInt 0))) ∧ h.2.2.2.2 = 175 ∧ _ from ⟨⟨.int, rfl, rfl⟩, ex_175 hP, hQ⟩)
def d_148_x (x : Nat) : Nat := (x + 1)
def d_148 (x : Nat) : Int32 := Int32.ofInt 1
theorem d_148_K6 (hP : ex_P h) (hI : cI C) (hT : c_v 6 C h) (hD : c_d 6 C h) (hR : h.2.2.1 0 3 = some 6) (hS : sC 36 s h) (hH : hC H h) (hM : mC M h) (hx : h.1 0 12 = nI x) (he : e < dE C) (hl1 : 1 ≤ l) (hl2 : l ≤ 28) (hx8 : x < 8) (hQ : ∀ h1, (ex_P h1) → (cI C) → (c_v 6 C h1) → (c_d 6 C h1) → (h1.2.2.1 0 3 = some 6) → (sC 36 s h1) → (hC H h1) → (mC M h1) → (h1.1 0 12 = nI (d_148_x x)) → Q (some (.int (d_148 x))) h1) : am_call am_cod 5 148 [.ref 0, .int (nI e), .int (nI l), .int b] h Q := by
  have h6 := hT.1.2.1
  have h5 := hT.2.1.2.1
  refine pz_call (n := 148) (nL := 5) (rt := (some .boolean)) (rows := am_r148) (d := 4) (by decide +kernel) (by decide +kernel) rfl (by funext pc; rfl) (ex_175 hP) (by exact Nat.le_of_ble_eq_true rfl) ?_
  refine am_goX 3 (show am_rc h 0 10 ∧ 0 ≤ 8 ∧ h.2.2.2.2 + am_al 93 ≤ 175 ∧ am_call am_cod 4 93 [.ref 0, .int (nI e)] h (fun vv h' => pz_S 5 (some .boolean) am_r148 4 Q 5 [(0, .ref 0), (1, .int (nI e)), (2, .int (nI l)), (3, .int b)] (vv.toList ++ []) h') from ⟨Or.inl ⟨by decide, ex_0 hP⟩, by decide, ex_lim hP rfl, am_call.up (d_93_t6 hP hT hR ?_) (by decide)⟩)
  rw [show d_93 C (nI e) = Int32.ofInt 1 from (v_93 he h5)]
  refine am_goX 1 (show ((Int32.ofInt 1) = 0 → pz_S 5 (some .boolean) am_r148 4 Q 27 [(0, .ref 0), (1, .int (nI e)), (2, .int (nI l)), (3, .int b)] [] h) ∧ (¬ ((Int32.ofInt 1) = 0) → pz_S 5 (some .boolean) am_r148 4 Q 8 [(0, .ref 0), (1, .int (nI e)), (2, .int (nI l)), (3, .int b)] [] h) from ⟨fun hz => absurd hz (by decide), fun _ => ?_⟩)
  refine am_goX 4 (show 0 ≤ 8 ∧ h.2.2.2.2 + am_al 60 ≤ 175 ∧ am_call am_cod 4 60 [.int (nI l), .int (Int32.ofInt 1), .int ((Int8.ofInt 28).toInt32)] h (fun vv h' => pz_S 5 (some .boolean) am_r148 4 Q 15 [(0, .ref 0), (1, .int (nI e)), (2, .int (nI l)), (3, .int b)] (vv.toList ++ []) h') from ⟨by decide, ex_lim hP rfl, am_call.up (d_60_w hP ?_) (by decide)⟩)
  rw [show d_60 (nI l) (Int32.ofInt 1) ((Int8.ofInt 28).toInt32) = Int32.ofInt 1 from (by rw [show (Int8.ofInt 28).toInt32 = nI 28 by decide]; exact v_60 (lo := 1) (hi := 28) hl1 hl2 (by decide))]
  refine am_goX 1 (show ((Int32.ofInt 1) = 0 → pz_S 5 (some .boolean) am_r148 4 Q 27 [(0, .ref 0), (1, .int (nI e)), (2, .int (nI l)), (3, .int b)] [] h) ∧ (¬ ((Int32.ofInt 1) = 0) → pz_S 5 (some .boolean) am_r148 4 Q 18 [(0, .ref 0), (1, .int (nI e)), (2, .int (nI l)), (3, .int b)] [] h) from ⟨fun hz => absurd hz (by decide), fun _ => ?_⟩)
  refine am_goX 2 (show am_sh h 0 = some (10, 0) ∧ pz_S 5 (some .boolean) am_r148 4 Q 22 [(0, .ref 0), (1, .int (nI e)), (2, .int (nI l)), (3, .int b)] [.int (h.1 0 12)] h from ⟨ex_0 hP, ?_⟩)
  rw [show h.1 0 12 = nI x from hx]
  refine am_goX 2 (show ((nI x) < ((Int8.ofInt 8).toInt32) → pz_S 5 (some .boolean) am_r148 4 Q 29 [(0, .ref 0), (1, .int (nI e)), (2, .int (nI l)), (3, .int b)] [] h) ∧ (¬ ((nI x) < ((Int8.ofInt 8).toInt32)) → pz_S 5 (some .boolean) am_r148 4 Q 27 [(0, .ref 0), (1, .int (nI e)), (2, .int (nI l)), (3, .int b)] [] h) from ⟨fun _ => ?_, fun hz => absurd (show nI x < nI 8 from nI_lt (by omega) (by omega)) hz⟩)
  refine am_goX 2 (show am_sh h 0 = some (10, 0) ∧ pz_S 5 (some .boolean) am_r148 4 Q 33 [(0, .ref 0), (1, .int (nI e)), (2, .int (nI l)), (3, .int b)] [am_rf (h.2.2.1 0 3)] h from ⟨ex_0 hP, ?_⟩)
  rw [show am_rf (h.2.2.1 0 3) = .ref 6 from congrArg am_rf (hR)]
  refine am_goX 3 (show am_sh h 0 = some (10, 0) ∧ pz_S 5 (some .boolean) am_r148 4 Q 38 [(0, .ref 0), (1, .int (nI e)), (2, .int (nI l)), (3, .int b)] [am_rf (h.2.2.1 0 7), .int (nI e), .ref 6] h from ⟨ex_0 hP, ?_⟩)
  rw [show am_rf (h.2.2.1 0 7) = .ref 36 from congrArg am_rf (ex_r0_7 hP)]
  refine am_goX 1 (show am_sh h 36 = some (6, 0) ∧ pz_S 5 (some .boolean) am_r148 4 Q 41 [(0, .ref 0), (1, .int (nI e)), (2, .int (nI l)), (3, .int b)] [.int (h.1 36 0), .int (nI e), .ref 6] h from ⟨ex_36 hP, ?_⟩)
  rw [show h.1 36 0 = s.1 from hS.1.1]
  refine am_goX 3 (show am_rc h 6 0 ∧ 0 ≤ 8 ∧ h.2.2.2.2 + am_al 149 ≤ 175 ∧ am_call am_cod 4 149 [.ref 6, .int (nI e), .int (s.1 + (nI l))] h (fun vv h' => pz_S 5 (some .boolean) am_r148 4 Q 46 [(0, .ref 0), (1, .int (nI e)), (2, .int (nI l)), (3, .int b)] (vv.toList ++ []) h') from ⟨Or.inl ⟨by decide, ex_6 hP⟩, by decide, ex_lim hP rfl, am_call.up (d_149_w6 hP hT hD (by omega) ?_) (by decide)⟩)
  suffices key : ∀ (v14 : Int32), v14 = (if b = 0 then (d_149 C e (s.1 + (nI l))) ^^^ (Int32.ofInt (-1)) else d_149 C e (s.1 + (nI l))) → pz_S 5 (some .boolean) am_r148 4 Q 66 [(0, .ref 0)] [.int v14, .int (h.1 0 13), .ref 0] h by
    refine am_goX 6 (show 4 < 5 ∧ (Value.ref 0).category = 1 ∧ am_sh h 0 = some (10, 0) ∧ (b = 0 → pz_S 5 (some .boolean) am_r148 4 Q 62 [(4, .int (d_149 C e (s.1 + (nI l)))), (0, .ref 0), (1, .int (nI e)), (2, .int (nI l)), (3, .int b)] [.int (h.1 0 13), .ref 0] h) ∧ (¬ (b = 0) → pz_S 5 (some .boolean) am_r148 4 Q 57 [(4, .int (d_149 C e (s.1 + (nI l)))), (0, .ref 0), (1, .int (nI e)), (2, .int (nI l)), (3, .int b)] [.int (h.1 0 13), .ref 0] h) from ⟨by decide, rfl, ex_0 hP, fun c13 => ?_, fun c13 => ?_⟩)
    · refine am_goX 3 (show pz_S 5 (some .boolean) am_r148 4 Q 66 [(4, .int (d_149 C e (s.1 + (nI l)))), (0, .ref 0), (1, .int (nI e)), (2, .int (nI l)), (3, .int b)] [.int ((d_149 C e (s.1 + (nI l))) ^^^ (Int32.ofInt (-1))), .int (h.1 0 13), .ref 0] h from ?_)
      exact sv_S2 sv2_148 (by intro q hq; simp only [List.mem_cons, List.not_mem_nil, or_false] at hq; rcases hq with rfl <;> rfl) (key _ (if_pos c13).symm)
    · refine am_goX 2 (show pz_S 5 (some .boolean) am_r148 4 Q 66 [(4, .int (d_149 C e (s.1 + (nI l)))), (0, .ref 0), (1, .int (nI e)), (2, .int (nI l)), (3, .int b)] [.int (d_149 C e (s.1 + (nI l))), .int (h.1 0 13), .ref 0] h from ?_)
      exact sv_S2 sv2_148 (by intro q hq; simp only [List.mem_cons, List.not_mem_nil, or_false] at hq; rcases hq with rfl <;> rfl) (key _ (if_neg c13).symm)
  intro v14 e15
  subst e15
  refine am_goX 2 (show am_sh h 0 = some (10, 0) ∧ narrow (am_fty 10 13) (.int ((h.1 0 13) &&& (if b = 0 then (d_149 C e (s.1 + (nI l))) ^^^ (Int32.ofInt (-1)) else d_149 C e (s.1 + (nI l))))) = .int ((h.1 0 13) &&& (if b = 0 then (d_149 C e (s.1 + (nI l))) ^^^ (Int32.ofInt (-1)) else d_149 C e (s.1 + (nI l)))) ∧ fits (am_fty 10 13) (.int ((h.1 0 13) &&& (if b = 0 then (d_149 C e (s.1 + (nI l))) ^^^ (Int32.ofInt (-1)) else d_149 C e (s.1 + (nI l))))) = true ∧ pz_S 5 (some .boolean) am_r148 4 Q 70 [(0, .ref 0)] [] (am_wI h 0 13 ((h.1 0 13) &&& (if b = 0 then (d_149 C e (s.1 + (nI l))) ^^^ (Int32.ofInt (-1)) else d_149 C e (s.1 + (nI l))))) from ⟨ex_0 hP, rfl, rfl, ?_⟩)
  have f17 : ex_P (am_wI h 0 13 ((h.1 0 13) &&& (if b = 0 then (d_149 C e (s.1 + (nI l))) ^^^ (Int32.ofInt (-1)) else d_149 C e (s.1 + (nI l))))) := hP
  have f18 : cI C := hI
  have f19 : c_v 6 C (am_wI h 0 13 ((h.1 0 13) &&& (if b = 0 then (d_149 C e (s.1 + (nI l))) ^^^ (Int32.ofInt (-1)) else d_149 C e (s.1 + (nI l))))) := c_v_w (by omega) hT
  have f20 : c_d 6 C (am_wI h 0 13 ((h.1 0 13) &&& (if b = 0 then (d_149 C e (s.1 + (nI l))) ^^^ (Int32.ofInt (-1)) else d_149 C e (s.1 + (nI l))))) := c_d_w (by omega) hD
  have f21 : (am_wI h 0 13 ((h.1 0 13) &&& (if b = 0 then (d_149 C e (s.1 + (nI l))) ^^^ (Int32.ofInt (-1)) else d_149 C e (s.1 + (nI l))))).2.2.1 0 3 = some 6 := hR
  have f22 : sC 36 s (am_wI h 0 13 ((h.1 0 13) &&& (if b = 0 then (d_149 C e (s.1 + (nI l))) ^^^ (Int32.ofInt (-1)) else d_149 C e (s.1 + (nI l))))) := sC_w (by omega) hS
  have f23 : hC H (am_wI h 0 13 ((h.1 0 13) &&& (if b = 0 then (d_149 C e (s.1 + (nI l))) ^^^ (Int32.ofInt (-1)) else d_149 C e (s.1 + (nI l))))) := hC_w (by omega) hH
  have f24 : mC M (am_wI h 0 13 ((h.1 0 13) &&& (if b = 0 then (d_149 C e (s.1 + (nI l))) ^^^ (Int32.ofInt (-1)) else d_149 C e (s.1 + (nI l))))) := mC_w (by omega) hM
  have f25 : (am_wI h 0 13 ((h.1 0 13) &&& (if b = 0 then (d_149 C e (s.1 + (nI l))) ^^^ (Int32.ofInt (-1)) else d_149 C e (s.1 + (nI l))))).1 0 12 = nI x := (em_wn _ _ (by omega)).trans hx
  generalize am_wI h 0 13 ((h.1 0 13) &&& (if b = 0 then (d_149 C e (s.1 + (nI l))) ^^^ (Int32.ofInt (-1)) else d_149 C e (s.1 + (nI l)))) = h16 at f17 f18 f19 f20 f21 f22 f23 f24 f25 ⊢
  refine am_goX 3 (show (Value.ref 0).category = 1 ∧ am_sh h16 0 = some (10, 0) ∧ pz_S 5 (some .boolean) am_r148 4 Q 75 [(0, .ref 0)] [.int (h16.1 0 12), .ref 0] h16 from ⟨rfl, ex_0 f17, ?_⟩)
  rw [show h16.1 0 12 = nI x from f25]
  refine am_goX 3 (show am_sh h16 0 = some (10, 0) ∧ narrow (am_fty 10 12) (.int ((nI x) + (Int32.ofInt 1))) = .int ((nI x) + (Int32.ofInt 1)) ∧ fits (am_fty 10 12) (.int ((nI x) + (Int32.ofInt 1))) = true ∧ pz_S 5 (some .boolean) am_r148 4 Q 80 [(0, .ref 0)] [] (am_wI h16 0 12 ((nI x) + (Int32.ofInt 1))) from ⟨ex_0 f17, rfl, rfl, ?_⟩)
  have f27 : ex_P (am_wI h16 0 12 ((nI x) + (Int32.ofInt 1))) := f17
  have f28 : cI C := f18
  have f29 : c_v 6 C (am_wI h16 0 12 ((nI x) + (Int32.ofInt 1))) := c_v_w (by omega) f19
  have f30 : c_d 6 C (am_wI h16 0 12 ((nI x) + (Int32.ofInt 1))) := c_d_w (by omega) f20
  have f31 : (am_wI h16 0 12 ((nI x) + (Int32.ofInt 1))).2.2.1 0 3 = some 6 := f21
  have f32 : sC 36 s (am_wI h16 0 12 ((nI x) + (Int32.ofInt 1))) := sC_w (by omega) f22
  have f33 : hC H (am_wI h16 0 12 ((nI x) + (Int32.ofInt 1))) := hC_w (by omega) f23
  have f34 : mC M (am_wI h16 0 12 ((nI x) + (Int32.ofInt 1))) := mC_w (by omega) f24
  have f35 : (am_wI h16 0 12 ((nI x) + (Int32.ofInt 1))).1 0 12 = nI (x + 1) := (em_we _ _ _ _).trans ((dn_a rfl rfl))
  generalize am_wI h16 0 12 ((nI x) + (Int32.ofInt 1)) = h26 at f27 f28 f29 f30 f31 f32 f33 f34 f35 ⊢
  exact am_goX 2 (show (∃ ty, (some .boolean) = some ty ∧ narrow ty (.int (Int32.ofInt 1)) = .int (Int32.ofInt 1)) ∧ h26.2.2.2.2 = 175 ∧ _ from ⟨⟨.boolean, rfl, rfl⟩, ex_175 f27, hQ _ f27 f28 f29 f30 f31 f32 f33 f34 f35⟩)
def d_148x  : Int32 := Int32.ofInt 0
theorem d_148_xK6 (hP : ex_P h) (hI : cI C) (hT : c_v 6 C h) (hD : c_d 6 C h) (hR : h.2.2.1 0 3 = some 6) (hS : sC 36 s h) (hH : hC H h) (hM : mC M h) (hx : h.1 0 12 = nI x) (ey : d_93 C y = Int32.ofInt 0) (hQ : ∀ h1, (ex_P h1) → (cI C) → (c_v 6 C h1) → (c_d 6 C h1) → (h1.2.2.1 0 3 = some 6) → (sC 36 s h1) → (hC H h1) → (mC M h1) → (h1.1 0 12 = nI x) → Q (some (.int d_148x)) h1) : am_call am_cod 5 148 [.ref 0, .int y, .int w, .int b] h Q := by
  have h6 := hT.1.2.1
  have h5 := hT.2.1.2.1
  refine pz_call (n := 148) (nL := 5) (rt := (some .boolean)) (rows := am_r148) (d := 4) (by decide +kernel) (by decide +kernel) rfl (by funext pc; rfl) (ex_175 hP) (by exact Nat.le_of_ble_eq_true rfl) ?_
  refine am_goX 3 (show am_rc h 0 10 ∧ 0 ≤ 8 ∧ h.2.2.2.2 + am_al 93 ≤ 175 ∧ am_call am_cod 4 93 [.ref 0, .int y] h (fun vv h' => pz_S 5 (some .boolean) am_r148 4 Q 5 [(0, .ref 0), (1, .int y), (2, .int w), (3, .int b)] (vv.toList ++ []) h') from ⟨Or.inl ⟨by decide, ex_0 hP⟩, by decide, ex_lim hP rfl, am_call.up (d_93_t6 hP hT hR ?_) (by decide)⟩)
  rw [show d_93 C y = Int32.ofInt 0 from ey]
  refine am_goX 1 (show ((Int32.ofInt 0) = 0 → pz_S 5 (some .boolean) am_r148 4 Q 27 [(0, .ref 0), (1, .int y), (2, .int w), (3, .int b)] [] h) ∧ (¬ ((Int32.ofInt 0) = 0) → pz_S 5 (some .boolean) am_r148 4 Q 8 [(0, .ref 0), (1, .int y), (2, .int w), (3, .int b)] [] h) from ⟨fun _ => ?_, fun hz => absurd (by decide) hz⟩)
  exact am_goX 2 (show (∃ ty, (some .boolean) = some ty ∧ narrow ty (.int (Int32.ofInt 0)) = .int (Int32.ofInt 0)) ∧ h.2.2.2.2 = 175 ∧ _ from ⟨⟨.boolean, rfl, rfl⟩, ex_175 hP, hQ _ hP hI hT hD hR hS hH hM hx⟩)
theorem d_148_yK6 (hP : ex_P h) (hI : cI C) (hT : c_v 6 C h) (hD : c_d 6 C h) (hR : h.2.2.1 0 3 = some 6) (hS : sC 36 s h) (hH : hC H h) (hM : mC M h) (hx : h.1 0 12 = nI x) (he : e < dE C) (ew : d_60 w (Int32.ofInt 1) ((Int8.ofInt 28).toInt32) = Int32.ofInt 0) (hQ : ∀ h1, (ex_P h1) → (cI C) → (c_v 6 C h1) → (c_d 6 C h1) → (h1.2.2.1 0 3 = some 6) → (sC 36 s h1) → (hC H h1) → (mC M h1) → (h1.1 0 12 = nI x) → Q (some (.int d_148x)) h1) : am_call am_cod 5 148 [.ref 0, .int (nI e), .int w, .int b] h Q := by
  have h6 := hT.1.2.1
  have h5 := hT.2.1.2.1
  refine pz_call (n := 148) (nL := 5) (rt := (some .boolean)) (rows := am_r148) (d := 4) (by decide +kernel) (by decide +kernel) rfl (by funext pc; rfl) (ex_175 hP) (by exact Nat.le_of_ble_eq_true rfl) ?_
  refine am_goX 3 (show am_rc h 0 10 ∧ 0 ≤ 8 ∧ h.2.2.2.2 + am_al 93 ≤ 175 ∧ am_call am_cod 4 93 [.ref 0, .int (nI e)] h (fun vv h' => pz_S 5 (some .boolean) am_r148 4 Q 5 [(0, .ref 0), (1, .int (nI e)), (2, .int w), (3, .int b)] (vv.toList ++ []) h') from ⟨Or.inl ⟨by decide, ex_0 hP⟩, by decide, ex_lim hP rfl, am_call.up (d_93_t6 hP hT hR ?_) (by decide)⟩)
  rw [show d_93 C (nI e) = Int32.ofInt 1 from (v_93 he h5)]
  refine am_goX 1 (show ((Int32.ofInt 1) = 0 → pz_S 5 (some .boolean) am_r148 4 Q 27 [(0, .ref 0), (1, .int (nI e)), (2, .int w), (3, .int b)] [] h) ∧ (¬ ((Int32.ofInt 1) = 0) → pz_S 5 (some .boolean) am_r148 4 Q 8 [(0, .ref 0), (1, .int (nI e)), (2, .int w), (3, .int b)] [] h) from ⟨fun hz => absurd hz (by decide), fun _ => ?_⟩)
  refine am_goX 4 (show 0 ≤ 8 ∧ h.2.2.2.2 + am_al 60 ≤ 175 ∧ am_call am_cod 4 60 [.int w, .int (Int32.ofInt 1), .int ((Int8.ofInt 28).toInt32)] h (fun vv h' => pz_S 5 (some .boolean) am_r148 4 Q 15 [(0, .ref 0), (1, .int (nI e)), (2, .int w), (3, .int b)] (vv.toList ++ []) h') from ⟨by decide, ex_lim hP rfl, am_call.up (d_60_w hP ?_) (by decide)⟩)
  rw [show d_60 w (Int32.ofInt 1) ((Int8.ofInt 28).toInt32) = Int32.ofInt 0 from ew]
  refine am_goX 1 (show ((Int32.ofInt 0) = 0 → pz_S 5 (some .boolean) am_r148 4 Q 27 [(0, .ref 0), (1, .int (nI e)), (2, .int w), (3, .int b)] [] h) ∧ (¬ ((Int32.ofInt 0) = 0) → pz_S 5 (some .boolean) am_r148 4 Q 18 [(0, .ref 0), (1, .int (nI e)), (2, .int w), (3, .int b)] [] h) from ⟨fun _ => ?_, fun hz => absurd (by decide) hz⟩)
  exact am_goX 2 (show (∃ ty, (some .boolean) = some ty ∧ narrow ty (.int (Int32.ofInt 0)) = .int (Int32.ofInt 0)) ∧ h.2.2.2.2 = 175 ∧ _ from ⟨⟨.boolean, rfl, rfl⟩, ex_175 hP, hQ _ hP hI hT hD hR hS hH hM hx⟩)
theorem d_148_zK6 (hP : ex_P h) (hI : cI C) (hT : c_v 6 C h) (hD : c_d 6 C h) (hR : h.2.2.1 0 3 = some 6) (hS : sC 36 s h) (hH : hC H h) (hM : mC M h) (hx : h.1 0 12 = nI x) (he : e < dE C) (hl1 : 1 ≤ l) (hl2 : l ≤ 28) (hx8 : x = 8) (hQ : ∀ h1, (ex_P h1) → (cI C) → (c_v 6 C h1) → (c_d 6 C h1) → (h1.2.2.1 0 3 = some 6) → (sC 36 s h1) → (hC H h1) → (mC M h1) → (h1.1 0 12 = nI x) → Q (some (.int d_148x)) h1) : am_call am_cod 5 148 [.ref 0, .int (nI e), .int (nI l), .int b] h Q := by
  have h6 := hT.1.2.1
  have h5 := hT.2.1.2.1
  refine pz_call (n := 148) (nL := 5) (rt := (some .boolean)) (rows := am_r148) (d := 4) (by decide +kernel) (by decide +kernel) rfl (by funext pc; rfl) (ex_175 hP) (by exact Nat.le_of_ble_eq_true rfl) ?_
  refine am_goX 3 (show am_rc h 0 10 ∧ 0 ≤ 8 ∧ h.2.2.2.2 + am_al 93 ≤ 175 ∧ am_call am_cod 4 93 [.ref 0, .int (nI e)] h (fun vv h' => pz_S 5 (some .boolean) am_r148 4 Q 5 [(0, .ref 0), (1, .int (nI e)), (2, .int (nI l)), (3, .int b)] (vv.toList ++ []) h') from ⟨Or.inl ⟨by decide, ex_0 hP⟩, by decide, ex_lim hP rfl, am_call.up (d_93_t6 hP hT hR ?_) (by decide)⟩)
  rw [show d_93 C (nI e) = Int32.ofInt 1 from (v_93 he h5)]
  refine am_goX 1 (show ((Int32.ofInt 1) = 0 → pz_S 5 (some .boolean) am_r148 4 Q 27 [(0, .ref 0), (1, .int (nI e)), (2, .int (nI l)), (3, .int b)] [] h) ∧ (¬ ((Int32.ofInt 1) = 0) → pz_S 5 (some .boolean) am_r148 4 Q 8 [(0, .ref 0), (1, .int (nI e)), (2, .int (nI l)), (3, .int b)] [] h) from ⟨fun hz => absurd hz (by decide), fun _ => ?_⟩)
  refine am_goX 4 (show 0 ≤ 8 ∧ h.2.2.2.2 + am_al 60 ≤ 175 ∧ am_call am_cod 4 60 [.int (nI l), .int (Int32.ofInt 1), .int ((Int8.ofInt 28).toInt32)] h (fun vv h' => pz_S 5 (some .boolean) am_r148 4 Q 15 [(0, .ref 0), (1, .int (nI e)), (2, .int (nI l)), (3, .int b)] (vv.toList ++ []) h') from ⟨by decide, ex_lim hP rfl, am_call.up (d_60_w hP ?_) (by decide)⟩)
  rw [show d_60 (nI l) (Int32.ofInt 1) ((Int8.ofInt 28).toInt32) = Int32.ofInt 1 from (by rw [show (Int8.ofInt 28).toInt32 = nI 28 by decide]; exact v_60 (lo := 1) (hi := 28) hl1 hl2 (by decide))]
  refine am_goX 1 (show ((Int32.ofInt 1) = 0 → pz_S 5 (some .boolean) am_r148 4 Q 27 [(0, .ref 0), (1, .int (nI e)), (2, .int (nI l)), (3, .int b)] [] h) ∧ (¬ ((Int32.ofInt 1) = 0) → pz_S 5 (some .boolean) am_r148 4 Q 18 [(0, .ref 0), (1, .int (nI e)), (2, .int (nI l)), (3, .int b)] [] h) from ⟨fun hz => absurd hz (by decide), fun _ => ?_⟩)
  refine am_goX 2 (show am_sh h 0 = some (10, 0) ∧ pz_S 5 (some .boolean) am_r148 4 Q 22 [(0, .ref 0), (1, .int (nI e)), (2, .int (nI l)), (3, .int b)] [.int (h.1 0 12)] h from ⟨ex_0 hP, ?_⟩)
  rw [show h.1 0 12 = nI x from hx]
  refine am_goX 2 (show ((nI x) < ((Int8.ofInt 8).toInt32) → pz_S 5 (some .boolean) am_r148 4 Q 29 [(0, .ref 0), (1, .int (nI e)), (2, .int (nI l)), (3, .int b)] [] h) ∧ (¬ ((nI x) < ((Int8.ofInt 8).toInt32)) → pz_S 5 (some .boolean) am_r148 4 Q 27 [(0, .ref 0), (1, .int (nI e)), (2, .int (nI l)), (3, .int b)] [] h) from ⟨fun hz => absurd hz (show ¬ nI x < nI 8 by rw [nI_ltI (by omega) (by omega)]; omega), fun _ => ?_⟩)
  exact am_goX 2 (show (∃ ty, (some .boolean) = some ty ∧ narrow ty (.int (Int32.ofInt 0)) = .int (Int32.ofInt 0)) ∧ h.2.2.2.2 = 175 ∧ _ from ⟨⟨.boolean, rfl, rfl⟩, ex_175 hP, hQ _ hP hI hT hD hR hS hH hM hx⟩)
theorem d_93_t17 (hP : ex_P h) (hT : c_v 17 C h) (hR : h.2.2.1 0 3 = some 17)  (hQ : Q (some (.int (d_93 C y))) h) : am_call am_cod 2 93 [.ref 0, .int y] h Q := by
  have h6 := hT.1.2.1
  have h5 := hT.2.1.2.1
  refine pz_call (n := 93) (nL := 2) (rt := (some .boolean)) (rows := am_r93) (d := 1) (by decide +kernel) (by decide +kernel) rfl (by funext pc; rfl) (ex_175 hP) (by exact Nat.le_of_ble_eq_true rfl) ?_
  suffices key : ∀ (v37 : Int32), v37 = (if y < 0 then Int32.ofInt 0 else (if (nI (dE C)) ≤ y then Int32.ofInt 0 else Int32.ofInt 1)) → pz_S 2 (some .boolean) am_r93 1 Q 20 [] [.int v37] h by
    refine am_goX 2 (show (y < 0 → pz_S 2 (some .boolean) am_r93 1 Q 19 [(0, .ref 0), (1, .int y)] [] h) ∧ (¬ (y < 0) → pz_S 2 (some .boolean) am_r93 1 Q 4 [(0, .ref 0), (1, .int y)] [] h) from ⟨fun c36 => ?_, fun c36 => ?_⟩)
    · refine am_goX 1 (show pz_S 2 (some .boolean) am_r93 1 Q 20 [(0, .ref 0), (1, .int y)] [.int (Int32.ofInt 0)] h from ?_)
      exact sv_S2 sv2_93 (fun q hq => absurd hq List.not_mem_nil) (key _ (if_pos c36).symm)
    · refine am_goX 3 (show am_sh h 0 = some (10, 0) ∧ pz_S 2 (some .boolean) am_r93 1 Q 9 [(0, .ref 0), (1, .int y)] [am_rf (h.2.2.1 0 3), .int y] h from ⟨ex_0 hP, ?_⟩)
      rw [show am_rf (h.2.2.1 0 3) = .ref 17 from congrArg am_rf (hR)]
      refine am_goX 1 (show am_sh h 17 = some (0, 0) ∧ pz_S 2 (some .boolean) am_r93 1 Q 12 [(0, .ref 0), (1, .int y)] [.int (h.1 17 4), .int y] h from ⟨ex_17 hP, ?_⟩)
      rw [show h.1 17 4 = nI (dE C) from hT.2.1.1]
      suffices key : ∀ (v39 : Int32), v39 = (if (nI (dE C)) ≤ y then Int32.ofInt 0 else Int32.ofInt 1) → pz_S 2 (some .boolean) am_r93 1 Q 20 [] [.int v39] h by
        refine am_goX 1 (show ((nI (dE C)) ≤ y → pz_S 2 (some .boolean) am_r93 1 Q 19 [(0, .ref 0), (1, .int y)] [] h) ∧ (¬ ((nI (dE C)) ≤ y) → pz_S 2 (some .boolean) am_r93 1 Q 15 [(0, .ref 0), (1, .int y)] [] h) from ⟨fun c38 => ?_, fun c38 => ?_⟩)
        · refine am_goX 1 (show pz_S 2 (some .boolean) am_r93 1 Q 20 [(0, .ref 0), (1, .int y)] [.int (Int32.ofInt 0)] h from ?_)
          exact sv_S2 sv2_93 (fun q hq => absurd hq List.not_mem_nil) (key _ (if_pos c38).symm)
        · refine am_goX 2 (show pz_S 2 (some .boolean) am_r93 1 Q 20 [(0, .ref 0), (1, .int y)] [.int (Int32.ofInt 1)] h from ?_)
          exact sv_S2 sv2_93 (fun q hq => absurd hq List.not_mem_nil) (key _ (if_neg c38).symm)
      intro v39 e40
      subst e40
      exact sv_S2 sv2_93 (fun q hq => absurd hq List.not_mem_nil) (key _ (if_neg c36).symm)
  intro v37 e41
  subst e41
  exact am_goX 1 (show (∃ ty, (some .boolean) = some ty ∧ narrow ty (.int (if y < 0 then Int32.ofInt 0 else (if (nI (dE C)) ≤ y then Int32.ofInt 0 else Int32.ofInt 1))) = .int (if y < 0 then Int32.ofInt 0 else (if (nI (dE C)) ≤ y then Int32.ofInt 0 else Int32.ofInt 1))) ∧ h.2.2.2.2 = 175 ∧ _ from ⟨⟨.boolean, rfl, (by (repeat' split) <;> rfl)⟩, ex_175 hP, hQ⟩)
theorem d_149_5_w17 (hP : ex_P h) (hT : c_v 17 C h) (hD : c_d 17 C h) (he : e < dE C) : ∀ (m k : Nat) (a3 : Int32), k + m = 5 → (pz_S 6 (some .int) am_r149 2 Q 60 [(3, .int (d_149_5 C e y m k a3))] [] h) → pz_S 6 (some .int) am_r149 2 Q 5 [(0, .ref 17), (1, .int (nI e)), (2, .int y), (3, .int a3), (4, .int (nI k))] [] h := by
  intro m
  induction m with
  | zero =>
    intro k a3 hk hZ
    have h6 := hT.1.2.1
    have h5 := hT.2.1.2.1
    refine am_goX 3 (show ((Int32.ofInt 5) ≤ (nI k) → pz_S 6 (some .int) am_r149 2 Q 60 [(0, .ref 17), (1, .int (nI e)), (2, .int y), (3, .int a3), (4, .int (nI k))] [] h) ∧ (¬ ((Int32.ofInt 5) ≤ (nI k)) → pz_S 6 (some .int) am_r149 2 Q 11 [(0, .ref 17), (1, .int (nI e)), (2, .int y), (3, .int a3), (4, .int (nI k))] [] h) from ⟨fun _ => ?_, fun hz => absurd (show nI 5 ≤ nI k from nI_le (by omega) (by omega)) hz⟩)
    exact sv_S2 sv2_149 (by intro q hq; simp only [List.mem_cons, List.not_mem_nil, or_false] at hq; rcases hq with rfl <;> rfl) (hZ)
  | succ m ih =>
    intro k a3 hk hZ
    have h6 := hT.1.2.1
    have h5 := hT.2.1.2.1
    refine am_goX 3 (show ((Int32.ofInt 5) ≤ (nI k) → pz_S 6 (some .int) am_r149 2 Q 60 [(0, .ref 17), (1, .int (nI e)), (2, .int y), (3, .int a3), (4, .int (nI k))] [] h) ∧ (¬ ((Int32.ofInt 5) ≤ (nI k)) → pz_S 6 (some .int) am_r149 2 Q 11 [(0, .ref 17), (1, .int (nI e)), (2, .int y), (3, .int a3), (4, .int (nI k))] [] h) from ⟨fun hz => absurd hz (show ¬ (nI 5 ≤ nI k) by rw [nI_leI (by omega) (by omega)]; omega), fun _ => ?_⟩)
    refine am_goX 3 (show am_rc h 17 0 ∧ 0 ≤ 8 ∧ h.2.2.2.2 + am_al 68 ≤ 175 ∧ am_call am_cod 2 68 [.ref 17, .int y] h (fun vv h' => pz_S 6 (some .int) am_r149 2 Q 16 [(0, .ref 17), (1, .int (nI e)), (2, .int y), (3, .int a3), (4, .int (nI k))] (vv.toList ++ []) h') from ⟨Or.inl ⟨by decide, ex_17 hP⟩, by decide, ex_lim hP rfl, am_call.up (d_68_t17 hP hT ?_) (by decide)⟩)
    suffices key : ∀ (v43 : Int32), v43 = (if (d_68 C y) = 0 then (nI k) - (Int32.ofInt 2) else Int32.ofInt 0) → pz_S 6 (some .int) am_r149 2 Q 27 [(0, .ref 17), (1, .int (nI e)), (2, .int y), (3, .int a3), (4, .int (nI k))] [.int v43] h by
      refine am_goX 1 (show ((d_68 C y) = 0 → pz_S 6 (some .int) am_r149 2 Q 23 [(0, .ref 17), (1, .int (nI e)), (2, .int y), (3, .int a3), (4, .int (nI k))] [] h) ∧ (¬ ((d_68 C y) = 0) → pz_S 6 (some .int) am_r149 2 Q 19 [(0, .ref 17), (1, .int (nI e)), (2, .int y), (3, .int a3), (4, .int (nI k))] [] h) from ⟨fun c42 => ?_, fun c42 => ?_⟩)
      · refine am_goX 3 (show pz_S 6 (some .int) am_r149 2 Q 27 [(0, .ref 17), (1, .int (nI e)), (2, .int y), (3, .int a3), (4, .int (nI k))] [.int ((nI k) - (Int32.ofInt 2))] h from ?_)
        exact sv_S2 sv2_149 (by intro q hq; simp only [List.mem_cons, List.not_mem_nil, or_false] at hq; rcases hq with rfl | rfl | rfl | rfl | rfl <;> rfl) (key _ (if_pos c42).symm)
      · refine am_goX 2 (show pz_S 6 (some .int) am_r149 2 Q 27 [(0, .ref 17), (1, .int (nI e)), (2, .int y), (3, .int a3), (4, .int (nI k))] [.int (Int32.ofInt 0)] h from ?_)
        exact sv_S2 sv2_149 (by intro q hq; simp only [List.mem_cons, List.not_mem_nil, or_false] at hq; rcases hq with rfl | rfl | rfl | rfl | rfl <;> rfl) (key _ (if_neg c42).symm)
    intro v43 e44
    subst e44
    refine am_goX 6 (show 5 < 6 ∧ 0 ≤ 8 ∧ h.2.2.2.2 + am_al 90 ≤ 175 ∧ am_call am_cod 2 90 [.int (y + (if (d_68 C y) = 0 then (nI k) - (Int32.ofInt 2) else Int32.ofInt 0)), .int ((Int8.ofInt 7).toInt32)] h (fun vv h' => pz_S 6 (some .int) am_r149 2 Q 38 [(5, .int (if (d_68 C y) = 0 then (nI k) - (Int32.ofInt 2) else Int32.ofInt 0)), (0, .ref 17), (1, .int (nI e)), (2, .int y), (3, .int a3), (4, .int (nI k))] (vv.toList ++ []) h') from ⟨by decide, by decide, ex_lim hP rfl, am_call.up (d_90_w hP ?_) (by decide)⟩)
    refine am_goX 2 (show am_sh h 17 = some (0, 0) ∧ pz_S 6 (some .int) am_r149 2 Q 42 [(5, .int (if (d_68 C y) = 0 then (nI k) - (Int32.ofInt 2) else Int32.ofInt 0)), (0, .ref 17), (1, .int (nI e)), (2, .int y), (3, .int a3), (4, .int (nI k))] [am_rf (h.2.2.1 17 6), .int (d_90 (y + (if (d_68 C y) = 0 then (nI k) - (Int32.ofInt 2) else Int32.ofInt 0)))] h from ⟨ex_17 hP, ?_⟩)
    rw [show am_rf (h.2.2.1 17 6) = .ref 22 from congrArg am_rf (ex_r17_6 hP)]
    refine am_goX 2 (show ∃ jj nn : Nat, am_sh h 22 = some (13, nn) ∧ jj < nn ∧ nI e = nI jj ∧ pz_S 6 (some .int) am_r149 2 Q 44 [(5, .int (if (d_68 C y) = 0 then (nI k) - (Int32.ofInt 2) else Int32.ofInt 0)), (0, .ref 17), (1, .int (nI e)), (2, .int y), (3, .int a3), (4, .int (nI k))] [.int (h.1 22 jj), .int (d_90 (y + (if (d_68 C y) = 0 then (nI k) - (Int32.ofInt 2) else Int32.ofInt 0)))] h from ⟨e, 5, ex_22 hP, (by omega), rfl, ?_⟩)
    rw [show h.1 22 e = dW C e from hD e (by omega)]
    suffices key : ∀ (v46 : Int32), v46 = (if ¬ (d_90 (y + (if (d_68 C y) = 0 then (nI k) - (Int32.ofInt 2) else Int32.ofInt 0))) = (dW C e) then a3 else a3 ||| ((Int32.ofInt 1) <<< ((nI k) &&& 31))) → pz_S 6 (some .int) am_r149 2 Q 54 [(0, .ref 17), (1, .int (nI e)), (2, .int y), (3, .int v46), (4, .int (nI k))] [] h by
      refine am_goX 1 (show (¬ (d_90 (y + (if (d_68 C y) = 0 then (nI k) - (Int32.ofInt 2) else Int32.ofInt 0))) = (dW C e) → pz_S 6 (some .int) am_r149 2 Q 54 [(5, .int (if (d_68 C y) = 0 then (nI k) - (Int32.ofInt 2) else Int32.ofInt 0)), (0, .ref 17), (1, .int (nI e)), (2, .int y), (3, .int a3), (4, .int (nI k))] [] h) ∧ (¬ ¬ (d_90 (y + (if (d_68 C y) = 0 then (nI k) - (Int32.ofInt 2) else Int32.ofInt 0))) = (dW C e) → pz_S 6 (some .int) am_r149 2 Q 47 [(5, .int (if (d_68 C y) = 0 then (nI k) - (Int32.ofInt 2) else Int32.ofInt 0)), (0, .ref 17), (1, .int (nI e)), (2, .int y), (3, .int a3), (4, .int (nI k))] [] h) from ⟨fun c45 => ?_, fun c45 => ?_⟩)
      · exact sv_S2 sv2_149 (by intro q hq; simp only [List.mem_cons, List.not_mem_nil, or_false] at hq; rcases hq with rfl | rfl | rfl | rfl | rfl <;> rfl) (key _ (if_pos c45).symm)
      · refine am_goX 6 (show 3 < 6 ∧ pz_S 6 (some .int) am_r149 2 Q 54 [(3, .int (a3 ||| ((Int32.ofInt 1) <<< ((nI k) &&& 31)))), (5, .int (if (d_68 C y) = 0 then (nI k) - (Int32.ofInt 2) else Int32.ofInt 0)), (0, .ref 17), (1, .int (nI e)), (2, .int y), (4, .int (nI k))] [] h from ⟨by decide, ?_⟩)
        exact sv_S2 sv2_149 (by intro q hq; simp only [List.mem_cons, List.not_mem_nil, or_false] at hq; rcases hq with rfl | rfl | rfl | rfl | rfl <;> rfl) (key _ (if_neg c45).symm)
    intro v46 e47
    subst e47
    refine am_goX 2 (show 4 < 6 ∧ pz_S 6 (some .int) am_r149 2 Q 5 [(4, .int ((nI k) + (Int32.ofInt 1))), (0, .ref 17), (1, .int (nI e)), (2, .int y), (3, .int (if ¬ (d_90 (y + (if (d_68 C y) = 0 then (nI k) - (Int32.ofInt 2) else Int32.ofInt 0))) = (dW C e) then a3 else a3 ||| ((Int32.ofInt 1) <<< ((nI k) &&& 31))))] [] h from ⟨by decide, ?_⟩)
    rw [show (nI k) + (Int32.ofInt 1) = nI (k + 1) from (dn_a rfl rfl)]
    exact sv_S2 sv2_149 (by intro q hq; simp only [List.mem_cons, List.not_mem_nil, or_false] at hq; rcases hq with rfl | rfl | rfl | rfl | rfl <;> rfl) (ih (k + 1) (if ¬ (d_90 (y + (if (d_68 C y) = 0 then (nI k) - (Int32.ofInt 2) else Int32.ofInt 0))) = (dW C e) then a3 else a3 ||| ((Int32.ofInt 1) <<< ((nI k) &&& 31))) (by omega) hZ)
theorem d_149_w17 (hP : ex_P h) (hT : c_v 17 C h) (hD : c_d 17 C h) (he : e < dE C) (hQ : Q (some (.int (d_149 C e y))) h) : am_call am_cod 3 149 [.ref 17, .int (nI e), .int y] h Q := by
  have h6 := hT.1.2.1
  have h5 := hT.2.1.2.1
  refine pz_call (n := 149) (nL := 6) (rt := (some .int)) (rows := am_r149) (d := 2) (by decide +kernel) (by decide +kernel) rfl (by funext pc; rfl) (ex_175 hP) (by exact Nat.le_of_ble_eq_true rfl) ?_
  refine am_goX 4 (show 3 < 6 ∧ 4 < 6 ∧ pz_S 6 (some .int) am_r149 2 Q 5 [(4, .int (Int32.ofInt 0)), (3, .int (Int32.ofInt 0)), (0, .ref 17), (1, .int (nI e)), (2, .int y)] [] h from ⟨by decide, by decide, ?_⟩)
  refine sv_S2 sv2_149 (by intro q hq; simp only [List.mem_cons, List.not_mem_nil, or_false] at hq; rcases hq with rfl | rfl | rfl | rfl | rfl <;> rfl) (d_149_5_w17 hP hT hD he 5 0 (Int32.ofInt 0) (by omega) ?_)
  exact am_goX 2 (show (∃ ty, (some .int) = some ty ∧ narrow ty (.int (d_149_5 C e y 5 0 (Int32.ofInt 0))) = .int (d_149_5 C e y 5 0 (Int32.ofInt 0))) ∧ h.2.2.2.2 = 175 ∧ _ from ⟨⟨.int, rfl, rfl⟩, ex_175 hP, hQ⟩)
theorem d_148_K17 (hP : ex_P h) (hI : cI C) (hT : c_v 17 C h) (hD : c_d 17 C h) (hR : h.2.2.1 0 3 = some 17) (hS : sC 36 s h) (hH : hC H h) (hM : mC M h) (hx : h.1 0 12 = nI x) (he : e < dE C) (hl1 : 1 ≤ l) (hl2 : l ≤ 28) (hx8 : x < 8) (hQ : ∀ h1, (ex_P h1) → (cI C) → (c_v 17 C h1) → (c_d 17 C h1) → (h1.2.2.1 0 3 = some 17) → (sC 36 s h1) → (hC H h1) → (mC M h1) → (h1.1 0 12 = nI (d_148_x x)) → Q (some (.int (d_148 x))) h1) : am_call am_cod 5 148 [.ref 0, .int (nI e), .int (nI l), .int b] h Q := by
  have h6 := hT.1.2.1
  have h5 := hT.2.1.2.1
  refine pz_call (n := 148) (nL := 5) (rt := (some .boolean)) (rows := am_r148) (d := 4) (by decide +kernel) (by decide +kernel) rfl (by funext pc; rfl) (ex_175 hP) (by exact Nat.le_of_ble_eq_true rfl) ?_
  refine am_goX 3 (show am_rc h 0 10 ∧ 0 ≤ 8 ∧ h.2.2.2.2 + am_al 93 ≤ 175 ∧ am_call am_cod 4 93 [.ref 0, .int (nI e)] h (fun vv h' => pz_S 5 (some .boolean) am_r148 4 Q 5 [(0, .ref 0), (1, .int (nI e)), (2, .int (nI l)), (3, .int b)] (vv.toList ++ []) h') from ⟨Or.inl ⟨by decide, ex_0 hP⟩, by decide, ex_lim hP rfl, am_call.up (d_93_t17 hP hT hR ?_) (by decide)⟩)
  rw [show d_93 C (nI e) = Int32.ofInt 1 from (v_93 he h5)]
  refine am_goX 1 (show ((Int32.ofInt 1) = 0 → pz_S 5 (some .boolean) am_r148 4 Q 27 [(0, .ref 0), (1, .int (nI e)), (2, .int (nI l)), (3, .int b)] [] h) ∧ (¬ ((Int32.ofInt 1) = 0) → pz_S 5 (some .boolean) am_r148 4 Q 8 [(0, .ref 0), (1, .int (nI e)), (2, .int (nI l)), (3, .int b)] [] h) from ⟨fun hz => absurd hz (by decide), fun _ => ?_⟩)
  refine am_goX 4 (show 0 ≤ 8 ∧ h.2.2.2.2 + am_al 60 ≤ 175 ∧ am_call am_cod 4 60 [.int (nI l), .int (Int32.ofInt 1), .int ((Int8.ofInt 28).toInt32)] h (fun vv h' => pz_S 5 (some .boolean) am_r148 4 Q 15 [(0, .ref 0), (1, .int (nI e)), (2, .int (nI l)), (3, .int b)] (vv.toList ++ []) h') from ⟨by decide, ex_lim hP rfl, am_call.up (d_60_w hP ?_) (by decide)⟩)
  rw [show d_60 (nI l) (Int32.ofInt 1) ((Int8.ofInt 28).toInt32) = Int32.ofInt 1 from (by rw [show (Int8.ofInt 28).toInt32 = nI 28 by decide]; exact v_60 (lo := 1) (hi := 28) hl1 hl2 (by decide))]
  refine am_goX 1 (show ((Int32.ofInt 1) = 0 → pz_S 5 (some .boolean) am_r148 4 Q 27 [(0, .ref 0), (1, .int (nI e)), (2, .int (nI l)), (3, .int b)] [] h) ∧ (¬ ((Int32.ofInt 1) = 0) → pz_S 5 (some .boolean) am_r148 4 Q 18 [(0, .ref 0), (1, .int (nI e)), (2, .int (nI l)), (3, .int b)] [] h) from ⟨fun hz => absurd hz (by decide), fun _ => ?_⟩)
  refine am_goX 2 (show am_sh h 0 = some (10, 0) ∧ pz_S 5 (some .boolean) am_r148 4 Q 22 [(0, .ref 0), (1, .int (nI e)), (2, .int (nI l)), (3, .int b)] [.int (h.1 0 12)] h from ⟨ex_0 hP, ?_⟩)
  rw [show h.1 0 12 = nI x from hx]
  refine am_goX 2 (show ((nI x) < ((Int8.ofInt 8).toInt32) → pz_S 5 (some .boolean) am_r148 4 Q 29 [(0, .ref 0), (1, .int (nI e)), (2, .int (nI l)), (3, .int b)] [] h) ∧ (¬ ((nI x) < ((Int8.ofInt 8).toInt32)) → pz_S 5 (some .boolean) am_r148 4 Q 27 [(0, .ref 0), (1, .int (nI e)), (2, .int (nI l)), (3, .int b)] [] h) from ⟨fun _ => ?_, fun hz => absurd (show nI x < nI 8 from nI_lt (by omega) (by omega)) hz⟩)
  refine am_goX 2 (show am_sh h 0 = some (10, 0) ∧ pz_S 5 (some .boolean) am_r148 4 Q 33 [(0, .ref 0), (1, .int (nI e)), (2, .int (nI l)), (3, .int b)] [am_rf (h.2.2.1 0 3)] h from ⟨ex_0 hP, ?_⟩)
  rw [show am_rf (h.2.2.1 0 3) = .ref 17 from congrArg am_rf (hR)]
  refine am_goX 3 (show am_sh h 0 = some (10, 0) ∧ pz_S 5 (some .boolean) am_r148 4 Q 38 [(0, .ref 0), (1, .int (nI e)), (2, .int (nI l)), (3, .int b)] [am_rf (h.2.2.1 0 7), .int (nI e), .ref 17] h from ⟨ex_0 hP, ?_⟩)
  rw [show am_rf (h.2.2.1 0 7) = .ref 36 from congrArg am_rf (ex_r0_7 hP)]
  refine am_goX 1 (show am_sh h 36 = some (6, 0) ∧ pz_S 5 (some .boolean) am_r148 4 Q 41 [(0, .ref 0), (1, .int (nI e)), (2, .int (nI l)), (3, .int b)] [.int (h.1 36 0), .int (nI e), .ref 17] h from ⟨ex_36 hP, ?_⟩)
  rw [show h.1 36 0 = s.1 from hS.1.1]
  refine am_goX 3 (show am_rc h 17 0 ∧ 0 ≤ 8 ∧ h.2.2.2.2 + am_al 149 ≤ 175 ∧ am_call am_cod 4 149 [.ref 17, .int (nI e), .int (s.1 + (nI l))] h (fun vv h' => pz_S 5 (some .boolean) am_r148 4 Q 46 [(0, .ref 0), (1, .int (nI e)), (2, .int (nI l)), (3, .int b)] (vv.toList ++ []) h') from ⟨Or.inl ⟨by decide, ex_17 hP⟩, by decide, ex_lim hP rfl, am_call.up (d_149_w17 hP hT hD (by omega) ?_) (by decide)⟩)
  suffices key : ∀ (v49 : Int32), v49 = (if b = 0 then (d_149 C e (s.1 + (nI l))) ^^^ (Int32.ofInt (-1)) else d_149 C e (s.1 + (nI l))) → pz_S 5 (some .boolean) am_r148 4 Q 66 [(0, .ref 0)] [.int v49, .int (h.1 0 13), .ref 0] h by
    refine am_goX 6 (show 4 < 5 ∧ (Value.ref 0).category = 1 ∧ am_sh h 0 = some (10, 0) ∧ (b = 0 → pz_S 5 (some .boolean) am_r148 4 Q 62 [(4, .int (d_149 C e (s.1 + (nI l)))), (0, .ref 0), (1, .int (nI e)), (2, .int (nI l)), (3, .int b)] [.int (h.1 0 13), .ref 0] h) ∧ (¬ (b = 0) → pz_S 5 (some .boolean) am_r148 4 Q 57 [(4, .int (d_149 C e (s.1 + (nI l)))), (0, .ref 0), (1, .int (nI e)), (2, .int (nI l)), (3, .int b)] [.int (h.1 0 13), .ref 0] h) from ⟨by decide, rfl, ex_0 hP, fun c48 => ?_, fun c48 => ?_⟩)
    · refine am_goX 3 (show pz_S 5 (some .boolean) am_r148 4 Q 66 [(4, .int (d_149 C e (s.1 + (nI l)))), (0, .ref 0), (1, .int (nI e)), (2, .int (nI l)), (3, .int b)] [.int ((d_149 C e (s.1 + (nI l))) ^^^ (Int32.ofInt (-1))), .int (h.1 0 13), .ref 0] h from ?_)
      exact sv_S2 sv2_148 (by intro q hq; simp only [List.mem_cons, List.not_mem_nil, or_false] at hq; rcases hq with rfl <;> rfl) (key _ (if_pos c48).symm)
    · refine am_goX 2 (show pz_S 5 (some .boolean) am_r148 4 Q 66 [(4, .int (d_149 C e (s.1 + (nI l)))), (0, .ref 0), (1, .int (nI e)), (2, .int (nI l)), (3, .int b)] [.int (d_149 C e (s.1 + (nI l))), .int (h.1 0 13), .ref 0] h from ?_)
      exact sv_S2 sv2_148 (by intro q hq; simp only [List.mem_cons, List.not_mem_nil, or_false] at hq; rcases hq with rfl <;> rfl) (key _ (if_neg c48).symm)
  intro v49 e50
  subst e50
  refine am_goX 2 (show am_sh h 0 = some (10, 0) ∧ narrow (am_fty 10 13) (.int ((h.1 0 13) &&& (if b = 0 then (d_149 C e (s.1 + (nI l))) ^^^ (Int32.ofInt (-1)) else d_149 C e (s.1 + (nI l))))) = .int ((h.1 0 13) &&& (if b = 0 then (d_149 C e (s.1 + (nI l))) ^^^ (Int32.ofInt (-1)) else d_149 C e (s.1 + (nI l)))) ∧ fits (am_fty 10 13) (.int ((h.1 0 13) &&& (if b = 0 then (d_149 C e (s.1 + (nI l))) ^^^ (Int32.ofInt (-1)) else d_149 C e (s.1 + (nI l))))) = true ∧ pz_S 5 (some .boolean) am_r148 4 Q 70 [(0, .ref 0)] [] (am_wI h 0 13 ((h.1 0 13) &&& (if b = 0 then (d_149 C e (s.1 + (nI l))) ^^^ (Int32.ofInt (-1)) else d_149 C e (s.1 + (nI l))))) from ⟨ex_0 hP, rfl, rfl, ?_⟩)
  have f52 : ex_P (am_wI h 0 13 ((h.1 0 13) &&& (if b = 0 then (d_149 C e (s.1 + (nI l))) ^^^ (Int32.ofInt (-1)) else d_149 C e (s.1 + (nI l))))) := hP
  have f53 : cI C := hI
  have f54 : c_v 17 C (am_wI h 0 13 ((h.1 0 13) &&& (if b = 0 then (d_149 C e (s.1 + (nI l))) ^^^ (Int32.ofInt (-1)) else d_149 C e (s.1 + (nI l))))) := c_v_w (by omega) hT
  have f55 : c_d 17 C (am_wI h 0 13 ((h.1 0 13) &&& (if b = 0 then (d_149 C e (s.1 + (nI l))) ^^^ (Int32.ofInt (-1)) else d_149 C e (s.1 + (nI l))))) := c_d_w (by omega) hD
  have f56 : (am_wI h 0 13 ((h.1 0 13) &&& (if b = 0 then (d_149 C e (s.1 + (nI l))) ^^^ (Int32.ofInt (-1)) else d_149 C e (s.1 + (nI l))))).2.2.1 0 3 = some 17 := hR
  have f57 : sC 36 s (am_wI h 0 13 ((h.1 0 13) &&& (if b = 0 then (d_149 C e (s.1 + (nI l))) ^^^ (Int32.ofInt (-1)) else d_149 C e (s.1 + (nI l))))) := sC_w (by omega) hS
  have f58 : hC H (am_wI h 0 13 ((h.1 0 13) &&& (if b = 0 then (d_149 C e (s.1 + (nI l))) ^^^ (Int32.ofInt (-1)) else d_149 C e (s.1 + (nI l))))) := hC_w (by omega) hH
  have f59 : mC M (am_wI h 0 13 ((h.1 0 13) &&& (if b = 0 then (d_149 C e (s.1 + (nI l))) ^^^ (Int32.ofInt (-1)) else d_149 C e (s.1 + (nI l))))) := mC_w (by omega) hM
  have f60 : (am_wI h 0 13 ((h.1 0 13) &&& (if b = 0 then (d_149 C e (s.1 + (nI l))) ^^^ (Int32.ofInt (-1)) else d_149 C e (s.1 + (nI l))))).1 0 12 = nI x := (em_wn _ _ (by omega)).trans hx
  generalize am_wI h 0 13 ((h.1 0 13) &&& (if b = 0 then (d_149 C e (s.1 + (nI l))) ^^^ (Int32.ofInt (-1)) else d_149 C e (s.1 + (nI l)))) = h51 at f52 f53 f54 f55 f56 f57 f58 f59 f60 ⊢
  refine am_goX 3 (show (Value.ref 0).category = 1 ∧ am_sh h51 0 = some (10, 0) ∧ pz_S 5 (some .boolean) am_r148 4 Q 75 [(0, .ref 0)] [.int (h51.1 0 12), .ref 0] h51 from ⟨rfl, ex_0 f52, ?_⟩)
  rw [show h51.1 0 12 = nI x from f60]
  refine am_goX 3 (show am_sh h51 0 = some (10, 0) ∧ narrow (am_fty 10 12) (.int ((nI x) + (Int32.ofInt 1))) = .int ((nI x) + (Int32.ofInt 1)) ∧ fits (am_fty 10 12) (.int ((nI x) + (Int32.ofInt 1))) = true ∧ pz_S 5 (some .boolean) am_r148 4 Q 80 [(0, .ref 0)] [] (am_wI h51 0 12 ((nI x) + (Int32.ofInt 1))) from ⟨ex_0 f52, rfl, rfl, ?_⟩)
  have f62 : ex_P (am_wI h51 0 12 ((nI x) + (Int32.ofInt 1))) := f52
  have f63 : cI C := f53
  have f64 : c_v 17 C (am_wI h51 0 12 ((nI x) + (Int32.ofInt 1))) := c_v_w (by omega) f54
  have f65 : c_d 17 C (am_wI h51 0 12 ((nI x) + (Int32.ofInt 1))) := c_d_w (by omega) f55
  have f66 : (am_wI h51 0 12 ((nI x) + (Int32.ofInt 1))).2.2.1 0 3 = some 17 := f56
  have f67 : sC 36 s (am_wI h51 0 12 ((nI x) + (Int32.ofInt 1))) := sC_w (by omega) f57
  have f68 : hC H (am_wI h51 0 12 ((nI x) + (Int32.ofInt 1))) := hC_w (by omega) f58
  have f69 : mC M (am_wI h51 0 12 ((nI x) + (Int32.ofInt 1))) := mC_w (by omega) f59
  have f70 : (am_wI h51 0 12 ((nI x) + (Int32.ofInt 1))).1 0 12 = nI (x + 1) := (em_we _ _ _ _).trans ((dn_a rfl rfl))
  generalize am_wI h51 0 12 ((nI x) + (Int32.ofInt 1)) = h61 at f62 f63 f64 f65 f66 f67 f68 f69 f70 ⊢
  exact am_goX 2 (show (∃ ty, (some .boolean) = some ty ∧ narrow ty (.int (Int32.ofInt 1)) = .int (Int32.ofInt 1)) ∧ h61.2.2.2.2 = 175 ∧ _ from ⟨⟨.boolean, rfl, rfl⟩, ex_175 f62, hQ _ f62 f63 f64 f65 f66 f67 f68 f69 f70⟩)
theorem d_148_xK17 (hP : ex_P h) (hI : cI C) (hT : c_v 17 C h) (hD : c_d 17 C h) (hR : h.2.2.1 0 3 = some 17) (hS : sC 36 s h) (hH : hC H h) (hM : mC M h) (hx : h.1 0 12 = nI x) (ey : d_93 C y = Int32.ofInt 0) (hQ : ∀ h1, (ex_P h1) → (cI C) → (c_v 17 C h1) → (c_d 17 C h1) → (h1.2.2.1 0 3 = some 17) → (sC 36 s h1) → (hC H h1) → (mC M h1) → (h1.1 0 12 = nI x) → Q (some (.int d_148x)) h1) : am_call am_cod 5 148 [.ref 0, .int y, .int w, .int b] h Q := by
  have h6 := hT.1.2.1
  have h5 := hT.2.1.2.1
  refine pz_call (n := 148) (nL := 5) (rt := (some .boolean)) (rows := am_r148) (d := 4) (by decide +kernel) (by decide +kernel) rfl (by funext pc; rfl) (ex_175 hP) (by exact Nat.le_of_ble_eq_true rfl) ?_
  refine am_goX 3 (show am_rc h 0 10 ∧ 0 ≤ 8 ∧ h.2.2.2.2 + am_al 93 ≤ 175 ∧ am_call am_cod 4 93 [.ref 0, .int y] h (fun vv h' => pz_S 5 (some .boolean) am_r148 4 Q 5 [(0, .ref 0), (1, .int y), (2, .int w), (3, .int b)] (vv.toList ++ []) h') from ⟨Or.inl ⟨by decide, ex_0 hP⟩, by decide, ex_lim hP rfl, am_call.up (d_93_t17 hP hT hR ?_) (by decide)⟩)
  rw [show d_93 C y = Int32.ofInt 0 from ey]
  refine am_goX 1 (show ((Int32.ofInt 0) = 0 → pz_S 5 (some .boolean) am_r148 4 Q 27 [(0, .ref 0), (1, .int y), (2, .int w), (3, .int b)] [] h) ∧ (¬ ((Int32.ofInt 0) = 0) → pz_S 5 (some .boolean) am_r148 4 Q 8 [(0, .ref 0), (1, .int y), (2, .int w), (3, .int b)] [] h) from ⟨fun _ => ?_, fun hz => absurd (by decide) hz⟩)
  exact am_goX 2 (show (∃ ty, (some .boolean) = some ty ∧ narrow ty (.int (Int32.ofInt 0)) = .int (Int32.ofInt 0)) ∧ h.2.2.2.2 = 175 ∧ _ from ⟨⟨.boolean, rfl, rfl⟩, ex_175 hP, hQ _ hP hI hT hD hR hS hH hM hx⟩)
theorem d_148_yK17 (hP : ex_P h) (hI : cI C) (hT : c_v 17 C h) (hD : c_d 17 C h) (hR : h.2.2.1 0 3 = some 17) (hS : sC 36 s h) (hH : hC H h) (hM : mC M h) (hx : h.1 0 12 = nI x) (he : e < dE C) (ew : d_60 w (Int32.ofInt 1) ((Int8.ofInt 28).toInt32) = Int32.ofInt 0) (hQ : ∀ h1, (ex_P h1) → (cI C) → (c_v 17 C h1) → (c_d 17 C h1) → (h1.2.2.1 0 3 = some 17) → (sC 36 s h1) → (hC H h1) → (mC M h1) → (h1.1 0 12 = nI x) → Q (some (.int d_148x)) h1) : am_call am_cod 5 148 [.ref 0, .int (nI e), .int w, .int b] h Q := by
  have h6 := hT.1.2.1
  have h5 := hT.2.1.2.1
  refine pz_call (n := 148) (nL := 5) (rt := (some .boolean)) (rows := am_r148) (d := 4) (by decide +kernel) (by decide +kernel) rfl (by funext pc; rfl) (ex_175 hP) (by exact Nat.le_of_ble_eq_true rfl) ?_
  refine am_goX 3 (show am_rc h 0 10 ∧ 0 ≤ 8 ∧ h.2.2.2.2 + am_al 93 ≤ 175 ∧ am_call am_cod 4 93 [.ref 0, .int (nI e)] h (fun vv h' => pz_S 5 (some .boolean) am_r148 4 Q 5 [(0, .ref 0), (1, .int (nI e)), (2, .int w), (3, .int b)] (vv.toList ++ []) h') from ⟨Or.inl ⟨by decide, ex_0 hP⟩, by decide, ex_lim hP rfl, am_call.up (d_93_t17 hP hT hR ?_) (by decide)⟩)
  rw [show d_93 C (nI e) = Int32.ofInt 1 from (v_93 he h5)]
  refine am_goX 1 (show ((Int32.ofInt 1) = 0 → pz_S 5 (some .boolean) am_r148 4 Q 27 [(0, .ref 0), (1, .int (nI e)), (2, .int w), (3, .int b)] [] h) ∧ (¬ ((Int32.ofInt 1) = 0) → pz_S 5 (some .boolean) am_r148 4 Q 8 [(0, .ref 0), (1, .int (nI e)), (2, .int w), (3, .int b)] [] h) from ⟨fun hz => absurd hz (by decide), fun _ => ?_⟩)
  refine am_goX 4 (show 0 ≤ 8 ∧ h.2.2.2.2 + am_al 60 ≤ 175 ∧ am_call am_cod 4 60 [.int w, .int (Int32.ofInt 1), .int ((Int8.ofInt 28).toInt32)] h (fun vv h' => pz_S 5 (some .boolean) am_r148 4 Q 15 [(0, .ref 0), (1, .int (nI e)), (2, .int w), (3, .int b)] (vv.toList ++ []) h') from ⟨by decide, ex_lim hP rfl, am_call.up (d_60_w hP ?_) (by decide)⟩)
  rw [show d_60 w (Int32.ofInt 1) ((Int8.ofInt 28).toInt32) = Int32.ofInt 0 from ew]
  refine am_goX 1 (show ((Int32.ofInt 0) = 0 → pz_S 5 (some .boolean) am_r148 4 Q 27 [(0, .ref 0), (1, .int (nI e)), (2, .int w), (3, .int b)] [] h) ∧ (¬ ((Int32.ofInt 0) = 0) → pz_S 5 (some .boolean) am_r148 4 Q 18 [(0, .ref 0), (1, .int (nI e)), (2, .int w), (3, .int b)] [] h) from ⟨fun _ => ?_, fun hz => absurd (by decide) hz⟩)
  exact am_goX 2 (show (∃ ty, (some .boolean) = some ty ∧ narrow ty (.int (Int32.ofInt 0)) = .int (Int32.ofInt 0)) ∧ h.2.2.2.2 = 175 ∧ _ from ⟨⟨.boolean, rfl, rfl⟩, ex_175 hP, hQ _ hP hI hT hD hR hS hH hM hx⟩)
theorem d_148_zK17 (hP : ex_P h) (hI : cI C) (hT : c_v 17 C h) (hD : c_d 17 C h) (hR : h.2.2.1 0 3 = some 17) (hS : sC 36 s h) (hH : hC H h) (hM : mC M h) (hx : h.1 0 12 = nI x) (he : e < dE C) (hl1 : 1 ≤ l) (hl2 : l ≤ 28) (hx8 : x = 8) (hQ : ∀ h1, (ex_P h1) → (cI C) → (c_v 17 C h1) → (c_d 17 C h1) → (h1.2.2.1 0 3 = some 17) → (sC 36 s h1) → (hC H h1) → (mC M h1) → (h1.1 0 12 = nI x) → Q (some (.int d_148x)) h1) : am_call am_cod 5 148 [.ref 0, .int (nI e), .int (nI l), .int b] h Q := by
  have h6 := hT.1.2.1
  have h5 := hT.2.1.2.1
  refine pz_call (n := 148) (nL := 5) (rt := (some .boolean)) (rows := am_r148) (d := 4) (by decide +kernel) (by decide +kernel) rfl (by funext pc; rfl) (ex_175 hP) (by exact Nat.le_of_ble_eq_true rfl) ?_
  refine am_goX 3 (show am_rc h 0 10 ∧ 0 ≤ 8 ∧ h.2.2.2.2 + am_al 93 ≤ 175 ∧ am_call am_cod 4 93 [.ref 0, .int (nI e)] h (fun vv h' => pz_S 5 (some .boolean) am_r148 4 Q 5 [(0, .ref 0), (1, .int (nI e)), (2, .int (nI l)), (3, .int b)] (vv.toList ++ []) h') from ⟨Or.inl ⟨by decide, ex_0 hP⟩, by decide, ex_lim hP rfl, am_call.up (d_93_t17 hP hT hR ?_) (by decide)⟩)
  rw [show d_93 C (nI e) = Int32.ofInt 1 from (v_93 he h5)]
  refine am_goX 1 (show ((Int32.ofInt 1) = 0 → pz_S 5 (some .boolean) am_r148 4 Q 27 [(0, .ref 0), (1, .int (nI e)), (2, .int (nI l)), (3, .int b)] [] h) ∧ (¬ ((Int32.ofInt 1) = 0) → pz_S 5 (some .boolean) am_r148 4 Q 8 [(0, .ref 0), (1, .int (nI e)), (2, .int (nI l)), (3, .int b)] [] h) from ⟨fun hz => absurd hz (by decide), fun _ => ?_⟩)
  refine am_goX 4 (show 0 ≤ 8 ∧ h.2.2.2.2 + am_al 60 ≤ 175 ∧ am_call am_cod 4 60 [.int (nI l), .int (Int32.ofInt 1), .int ((Int8.ofInt 28).toInt32)] h (fun vv h' => pz_S 5 (some .boolean) am_r148 4 Q 15 [(0, .ref 0), (1, .int (nI e)), (2, .int (nI l)), (3, .int b)] (vv.toList ++ []) h') from ⟨by decide, ex_lim hP rfl, am_call.up (d_60_w hP ?_) (by decide)⟩)
  rw [show d_60 (nI l) (Int32.ofInt 1) ((Int8.ofInt 28).toInt32) = Int32.ofInt 1 from (by rw [show (Int8.ofInt 28).toInt32 = nI 28 by decide]; exact v_60 (lo := 1) (hi := 28) hl1 hl2 (by decide))]
  refine am_goX 1 (show ((Int32.ofInt 1) = 0 → pz_S 5 (some .boolean) am_r148 4 Q 27 [(0, .ref 0), (1, .int (nI e)), (2, .int (nI l)), (3, .int b)] [] h) ∧ (¬ ((Int32.ofInt 1) = 0) → pz_S 5 (some .boolean) am_r148 4 Q 18 [(0, .ref 0), (1, .int (nI e)), (2, .int (nI l)), (3, .int b)] [] h) from ⟨fun hz => absurd hz (by decide), fun _ => ?_⟩)
  refine am_goX 2 (show am_sh h 0 = some (10, 0) ∧ pz_S 5 (some .boolean) am_r148 4 Q 22 [(0, .ref 0), (1, .int (nI e)), (2, .int (nI l)), (3, .int b)] [.int (h.1 0 12)] h from ⟨ex_0 hP, ?_⟩)
  rw [show h.1 0 12 = nI x from hx]
  refine am_goX 2 (show ((nI x) < ((Int8.ofInt 8).toInt32) → pz_S 5 (some .boolean) am_r148 4 Q 29 [(0, .ref 0), (1, .int (nI e)), (2, .int (nI l)), (3, .int b)] [] h) ∧ (¬ ((nI x) < ((Int8.ofInt 8).toInt32)) → pz_S 5 (some .boolean) am_r148 4 Q 27 [(0, .ref 0), (1, .int (nI e)), (2, .int (nI l)), (3, .int b)] [] h) from ⟨fun hz => absurd hz (show ¬ nI x < nI 8 by rw [nI_ltI (by omega) (by omega)]; omega), fun _ => ?_⟩)
  exact am_goX 2 (show (∃ ty, (some .boolean) = some ty ∧ narrow ty (.int (Int32.ofInt 0)) = .int (Int32.ofInt 0)) ∧ h.2.2.2.2 = 175 ∧ _ from ⟨⟨.boolean, rfl, rfl⟩, ex_175 hP, hQ _ hP hI hT hD hR hS hH hM hx⟩)
def d_227 (C : sp_C) (y : Int32) : Int32 := (if y < 0 then Int32.ofInt 0 else (if (nI (dE C)) ≤ y then Int32.ofInt 0 else Int32.ofInt 1))
theorem d_227_r (hP : ex_P h) (hT : tR C h)  (hQ : Q (some (.int (d_227 C y))) h) : am_call am_cod 2 227 [.ref 154, .int y] h Q := by
  have h6 := hT.1.2.1
  have h5 := hT.2.1.2.1
  refine pz_call (n := 227) (nL := 2) (rt := (some .boolean)) (rows := am_r227) (d := 1) (by decide +kernel) (by decide +kernel) rfl (by funext pc; rfl) (ex_175 hP) (by exact Nat.le_of_ble_eq_true rfl) ?_
  suffices key : ∀ (v72 : Int32), v72 = (if y < 0 then Int32.ofInt 0 else (if (nI (dE C)) ≤ y then Int32.ofInt 0 else Int32.ofInt 1)) → pz_S 2 (some .boolean) am_r227 1 Q 17 [] [.int v72] h by
    refine am_goX 2 (show (y < 0 → pz_S 2 (some .boolean) am_r227 1 Q 16 [(0, .ref 154), (1, .int y)] [] h) ∧ (¬ (y < 0) → pz_S 2 (some .boolean) am_r227 1 Q 4 [(0, .ref 154), (1, .int y)] [] h) from ⟨fun c71 => ?_, fun c71 => ?_⟩)
    · refine am_goX 1 (show pz_S 2 (some .boolean) am_r227 1 Q 17 [(0, .ref 154), (1, .int y)] [.int (Int32.ofInt 0)] h from ?_)
      exact sv_S2 sv2_227 (fun q hq => absurd hq List.not_mem_nil) (key _ (if_pos c71).symm)
    · refine am_goX 3 (show am_rc h 154 11 ∧ 1 ≤ 8 ∧ h.2.2.2.2 + am_al 183 ≤ 175 ∧ am_call am_cod 1 183 [.ref 154] h (fun vv h' => pz_S 2 (some .boolean) am_r227 1 Q 9 [(0, .ref 154), (1, .int y)] (vv.toList ++ [.int y]) h') from ⟨Or.inl ⟨by decide, ex_154 hP⟩, by decide, ex_lim hP rfl, am_call.up (d_183_r hP hT ?_) (by decide)⟩)
      suffices key : ∀ (v74 : Int32), v74 = (if (nI (dE C)) ≤ y then Int32.ofInt 0 else Int32.ofInt 1) → pz_S 2 (some .boolean) am_r227 1 Q 17 [] [.int v74] h by
        refine am_goX 1 (show ((nI (dE C)) ≤ y → pz_S 2 (some .boolean) am_r227 1 Q 16 [(0, .ref 154), (1, .int y)] [] h) ∧ (¬ ((nI (dE C)) ≤ y) → pz_S 2 (some .boolean) am_r227 1 Q 12 [(0, .ref 154), (1, .int y)] [] h) from ⟨fun c73 => ?_, fun c73 => ?_⟩)
        · refine am_goX 1 (show pz_S 2 (some .boolean) am_r227 1 Q 17 [(0, .ref 154), (1, .int y)] [.int (Int32.ofInt 0)] h from ?_)
          exact sv_S2 sv2_227 (fun q hq => absurd hq List.not_mem_nil) (key _ (if_pos c73).symm)
        · refine am_goX 2 (show pz_S 2 (some .boolean) am_r227 1 Q 17 [(0, .ref 154), (1, .int y)] [.int (Int32.ofInt 1)] h from ?_)
          exact sv_S2 sv2_227 (fun q hq => absurd hq List.not_mem_nil) (key _ (if_neg c73).symm)
      intro v74 e75
      subst e75
      exact sv_S2 sv2_227 (fun q hq => absurd hq List.not_mem_nil) (key _ (if_neg c71).symm)
  intro v72 e76
  subst e76
  exact am_goX 1 (show (∃ ty, (some .boolean) = some ty ∧ narrow ty (.int (if y < 0 then Int32.ofInt 0 else (if (nI (dE C)) ≤ y then Int32.ofInt 0 else Int32.ofInt 1))) = .int (if y < 0 then Int32.ofInt 0 else (if (nI (dE C)) ≤ y then Int32.ofInt 0 else Int32.ofInt 1))) ∧ h.2.2.2.2 = 175 ∧ _ from ⟨⟨.boolean, rfl, (by (repeat' split) <;> rfl)⟩, ex_175 hP, hQ⟩)
theorem d_227_e (x : Int32) : d_227 C x = d_93 C x := rfl
def d_266_x (x : Nat) : Nat := (x + 1)
def d_266 (x : Nat) : Int32 := Int32.ofInt 1
theorem d_266_L (hP : ex_P h) (hI : cI C) (hT : tR C h) (hO : ∀ e, e < dE C → h.1 172 e = dW V e) (hS : sR 0 (dP C) s h) (hH : hL (dP C) H h) (hM : mL (dP C) M h) (hx : h.1 170 24 = nI x) (he : q < dE C) (hl1 : 1 ≤ l) (hl2 : l ≤ 28) (hx8 : x < 8) (hQ : ∀ h1, (ex_P h1) → (cI C) → (tR C h1) → (∀ e, e < dE C → h1.1 172 e = dW V e) → (sR 0 (dP C) s h1) → (hL (dP C) H h1) → (mL (dP C) M h1) → (h1.1 170 24 = nI (d_266_x x)) → Q (some (.int (d_266 x))) h1) : am_call am_cod 5 266 [.ref 154, .int (nI q), .int (nI l), .int b] h Q := by
  have h6 := hT.1.2.1
  have h5 := hT.2.1.2.1
  refine pz_call (n := 266) (nL := 5) (rt := (some .boolean)) (rows := am_r266) (d := 4) (by decide +kernel) (by decide +kernel) rfl (by funext pc; rfl) (ex_175 hP) (by exact Nat.le_of_ble_eq_true rfl) ?_
  refine am_goX 3 (show am_sh h 154 = some (11, 0) ∧ narrow (am_fty 11 0) (.int (Int32.ofInt 0)) = .int (Int32.ofInt 0) ∧ fits (am_fty 11 0) (.int (Int32.ofInt 0)) = true ∧ pz_S 5 (some .boolean) am_r266 4 Q 5 [(0, .ref 154), (1, .int (nI q)), (2, .int (nI l)), (3, .int b)] [] (am_wI h 154 0 (Int32.ofInt 0)) from ⟨ex_154 hP, rfl, rfl, ?_⟩)
  have f78 : ex_P (am_wI h 154 0 (Int32.ofInt 0)) := hP
  have f79 : cI C := hI
  have f80 : tR C (am_wI h 154 0 (Int32.ofInt 0)) := tR_w (by omega) hT
  have f81 : ∀ e, e < dE C → (am_wI h 154 0 (Int32.ofInt 0)).1 172 e = dW V e := on_w (by omega) hO
  have f82 : sR 0 (dP C) s (am_wI h 154 0 (Int32.ofInt 0)) := sR_o (by omega) hS
  have f83 : hL (dP C) H (am_wI h 154 0 (Int32.ofInt 0)) := hL_w (by omega) hH
  have f84 : mL (dP C) M (am_wI h 154 0 (Int32.ofInt 0)) := mL_w (by omega) hM
  have f85 : (am_wI h 154 0 (Int32.ofInt 0)).1 170 24 = nI x := (em_wn _ _ (by omega)).trans hx
  generalize am_wI h 154 0 (Int32.ofInt 0) = h77 at f78 f79 f80 f81 f82 f83 f84 f85 ⊢
  refine am_goX 3 (show am_rc h77 154 11 ∧ 0 ≤ 8 ∧ h77.2.2.2.2 + am_al 227 ≤ 175 ∧ am_call am_cod 4 227 [.ref 154, .int (nI q)] h77 (fun vv h' => pz_S 5 (some .boolean) am_r266 4 Q 10 [(0, .ref 154), (1, .int (nI q)), (2, .int (nI l)), (3, .int b)] (vv.toList ++ []) h') from ⟨Or.inl ⟨by decide, ex_154 f78⟩, by decide, ex_lim f78 rfl, am_call.up (d_227_r f78 f80 ?_) (by decide)⟩)
  rw [show d_227 C (nI q) = Int32.ofInt 1 from ((d_227_e _).trans (v_93 he h5))]
  refine am_goX 1 (show ((Int32.ofInt 1) = 0 → pz_S 5 (some .boolean) am_r266 4 Q 35 [(0, .ref 154), (1, .int (nI q)), (2, .int (nI l)), (3, .int b)] [] h77) ∧ (¬ ((Int32.ofInt 1) = 0) → pz_S 5 (some .boolean) am_r266 4 Q 13 [(0, .ref 154), (1, .int (nI q)), (2, .int (nI l)), (3, .int b)] [] h77) from ⟨fun hz => absurd hz (by decide), fun _ => ?_⟩)
  refine am_goX 4 (show 0 ≤ 8 ∧ h77.2.2.2.2 + am_al 207 ≤ 175 ∧ am_call am_cod 4 207 [.int (nI l), .int (Int32.ofInt 1), .int ((Int8.ofInt 28).toInt32)] h77 (fun vv h' => pz_S 5 (some .boolean) am_r266 4 Q 20 [(0, .ref 154), (1, .int (nI q)), (2, .int (nI l)), (3, .int b)] (vv.toList ++ []) h') from ⟨by decide, ex_lim f78 rfl, am_call.up (d_207_w f78 ?_) (by decide)⟩)
  rw [show d_207 (nI l) (Int32.ofInt 1) ((Int8.ofInt 28).toInt32) = Int32.ofInt 1 from ((d_207_e _ _ _).trans (show d_60 (nI l) (Int32.ofInt 1) ((Int8.ofInt 28).toInt32) = Int32.ofInt 1 from (by rw [show (Int8.ofInt 28).toInt32 = nI 28 by decide]; exact v_60 (lo := 1) (hi := 28) hl1 hl2 (by decide))))]
  refine am_goX 1 (show ((Int32.ofInt 1) = 0 → pz_S 5 (some .boolean) am_r266 4 Q 35 [(0, .ref 154), (1, .int (nI q)), (2, .int (nI l)), (3, .int b)] [] h77) ∧ (¬ ((Int32.ofInt 1) = 0) → pz_S 5 (some .boolean) am_r266 4 Q 23 [(0, .ref 154), (1, .int (nI q)), (2, .int (nI l)), (3, .int b)] [] h77) from ⟨fun hz => absurd hz (by decide), fun _ => ?_⟩)
  refine am_goX 2 (show am_sh h77 154 = some (11, 0) ∧ pz_S 5 (some .boolean) am_r266 4 Q 27 [(0, .ref 154), (1, .int (nI q)), (2, .int (nI l)), (3, .int b)] [am_rf (h77.2.2.1 154 24)] h77 from ⟨ex_154 f78, ?_⟩)
  rw [show am_rf (h77.2.2.1 154 24) = .ref 170 from congrArg am_rf (ex_r154_24 f78)]
  refine am_goX 2 (show ∃ jj nn : Nat, am_sh h77 170 = some (13, nn) ∧ jj < nn ∧ (Int8.ofInt 24).toInt32 = nI jj ∧ pz_S 5 (some .boolean) am_r266 4 Q 30 [(0, .ref 154), (1, .int (nI q)), (2, .int (nI l)), (3, .int b)] [.int (h77.1 170 jj)] h77 from ⟨24, 1127, ex_170 f78, (by omega), (show (Int8.ofInt 24).toInt32 = nI 24 by decide), ?_⟩)
  rw [show h77.1 170 24 = nI x from f85]
  refine am_goX 2 (show (¬ (nI x) = ((Int8.ofInt 8).toInt32) → pz_S 5 (some .boolean) am_r266 4 Q 37 [(0, .ref 154), (1, .int (nI q)), (2, .int (nI l)), (3, .int b)] [] h77) ∧ (¬ ¬ (nI x) = ((Int8.ofInt 8).toInt32) → pz_S 5 (some .boolean) am_r266 4 Q 35 [(0, .ref 154), (1, .int (nI q)), (2, .int (nI l)), (3, .int b)] [] h77) from ⟨fun _ => ?_, fun hz => absurd (show ¬ nI x = nI 8 from fun w => by have := nI_inj2 (by omega) (by omega) w; omega) hz⟩)
  refine am_goX 4 (show am_sh h77 154 = some (11, 0) ∧ pz_S 5 (some .boolean) am_r266 4 Q 44 [(0, .ref 154), (1, .int (nI q)), (2, .int (nI l)), (3, .int b)] [am_rf (h77.2.2.1 154 24), .int (Int32.ofInt 3), .int ((Int8.ofInt 25).toInt32)] h77 from ⟨ex_154 f78, ?_⟩)
  rw [show am_rf (h77.2.2.1 154 24) = .ref 170 from congrArg am_rf (ex_r154_24 f78)]
  refine am_goX 2 (show ∃ jj nn : Nat, am_sh h77 170 = some (13, nn) ∧ jj < nn ∧ (Int8.ofInt 24).toInt32 = nI jj ∧ pz_S 5 (some .boolean) am_r266 4 Q 47 [(0, .ref 154), (1, .int (nI q)), (2, .int (nI l)), (3, .int b)] [.int (h77.1 170 jj), .int (Int32.ofInt 3), .int ((Int8.ofInt 25).toInt32)] h77 from ⟨24, 1127, ex_170 f78, (by omega), (show (Int8.ofInt 24).toInt32 = nI 24 by decide), ?_⟩)
  rw [show h77.1 170 24 = nI x from f85]
  refine am_goX 5 (show 4 < 5 ∧ am_sh h77 154 = some (11, 0) ∧ pz_S 5 (some .boolean) am_r266 4 Q 55 [(4, .int (((Int8.ofInt 25).toInt32) + ((Int32.ofInt 3) * (nI x)))), (0, .ref 154), (1, .int (nI q)), (2, .int (nI l)), (3, .int b)] [am_rf (h77.2.2.1 154 24)] h77 from ⟨by decide, ex_154 f78, ?_⟩)
  rw [show am_rf (h77.2.2.1 154 24) = .ref 170 from congrArg am_rf (ex_r154_24 f78)]
  refine am_goX 3 (show ∃ jj nn : Nat, am_so h77 170 = some (13, nn) ∧ jj < nn ∧ ((Int8.ofInt 25).toInt32) + ((Int32.ofInt 3) * (nI x)) = nI jj ∧ pz_S 5 (some .boolean) am_r266 4 Q 59 [(4, .int (((Int8.ofInt 25).toInt32) + ((Int32.ofInt 3) * (nI x)))), (0, .ref 154), (1, .int (nI q)), (2, .int (nI l)), (3, .int b)] [] (am_wI h77 170 jj (nI q)) from ⟨(25 + (3 * x)), 1127, ex_w170 f78, (by omega), (dn_a (show (Int8.ofInt 25).toInt32 = nI 25 by decide) (dn_m rfl rfl)), ?_⟩)
  have f87 : ex_P (am_wI h77 170 (25 + (3 * x)) (nI q)) := f78
  have f88 : cI C := f79
  have f89 : tR C (am_wI h77 170 (25 + (3 * x)) (nI q)) := tR_w (by omega) f80
  have f90 : ∀ e, e < dE C → (am_wI h77 170 (25 + (3 * x)) (nI q)).1 172 e = dW V e := on_w (by omega) f81
  have f91 : sR 0 (dP C) s (am_wI h77 170 (25 + (3 * x)) (nI q)) := sR_q (by omega) f82
  have f92 : hL (dP C) H (am_wI h77 170 (25 + (3 * x)) (nI q)) := hL_w (by omega) f83
  have f93 : mL (dP C) M (am_wI h77 170 (25 + (3 * x)) (nI q)) := mL_w (by omega) f84
  have f94 : (am_wI h77 170 (25 + (3 * x)) (nI q)).1 170 24 = nI x := (em_wn _ _ (by omega)).trans f85
  generalize am_wI h77 170 (25 + (3 * x)) (nI q) = h86 at f87 f88 f89 f90 f91 f92 f93 f94 ⊢
  refine am_goX 2 (show am_sh h86 154 = some (11, 0) ∧ pz_S 5 (some .boolean) am_r266 4 Q 63 [(4, .int (((Int8.ofInt 25).toInt32) + ((Int32.ofInt 3) * (nI x)))), (0, .ref 154), (1, .int (nI q)), (2, .int (nI l)), (3, .int b)] [am_rf (h86.2.2.1 154 24)] h86 from ⟨ex_154 f87, ?_⟩)
  rw [show am_rf (h86.2.2.1 154 24) = .ref 170 from congrArg am_rf (ex_r154_24 f87)]
  refine am_goX 5 (show ∃ jj nn : Nat, am_so h86 170 = some (13, nn) ∧ jj < nn ∧ (((Int8.ofInt 25).toInt32) + ((Int32.ofInt 3) * (nI x))) + (Int32.ofInt 1) = nI jj ∧ pz_S 5 (some .boolean) am_r266 4 Q 69 [(4, .int (((Int8.ofInt 25).toInt32) + ((Int32.ofInt 3) * (nI x)))), (0, .ref 154), (1, .int (nI q)), (2, .int (nI l)), (3, .int b)] [] (am_wI h86 170 jj (nI l)) from ⟨((25 + (3 * x)) + 1), 1127, ex_w170 f87, (by omega), (dn_a (dn_a (show (Int8.ofInt 25).toInt32 = nI 25 by decide) (dn_m rfl rfl)) rfl), ?_⟩)
  have f96 : ex_P (am_wI h86 170 ((25 + (3 * x)) + 1) (nI l)) := f87
  have f97 : cI C := f88
  have f98 : tR C (am_wI h86 170 ((25 + (3 * x)) + 1) (nI l)) := tR_w (by omega) f89
  have f99 : ∀ e, e < dE C → (am_wI h86 170 ((25 + (3 * x)) + 1) (nI l)).1 172 e = dW V e := on_w (by omega) f90
  have f100 : sR 0 (dP C) s (am_wI h86 170 ((25 + (3 * x)) + 1) (nI l)) := sR_q (by omega) f91
  have f101 : hL (dP C) H (am_wI h86 170 ((25 + (3 * x)) + 1) (nI l)) := hL_w (by omega) f92
  have f102 : mL (dP C) M (am_wI h86 170 ((25 + (3 * x)) + 1) (nI l)) := mL_w (by omega) f93
  have f103 : (am_wI h86 170 ((25 + (3 * x)) + 1) (nI l)).1 170 24 = nI x := (em_wn _ _ (by omega)).trans f94
  generalize am_wI h86 170 ((25 + (3 * x)) + 1) (nI l) = h95 at f96 f97 f98 f99 f100 f101 f102 f103 ⊢
  refine am_goX 2 (show am_sh h95 154 = some (11, 0) ∧ pz_S 5 (some .boolean) am_r266 4 Q 73 [(4, .int (((Int8.ofInt 25).toInt32) + ((Int32.ofInt 3) * (nI x)))), (0, .ref 154), (1, .int (nI q)), (2, .int (nI l)), (3, .int b)] [am_rf (h95.2.2.1 154 24)] h95 from ⟨ex_154 f96, ?_⟩)
  rw [show am_rf (h95.2.2.1 154 24) = .ref 170 from congrArg am_rf (ex_r154_24 f96)]
  suffices key : ∀ (v105 : Int32), v105 = (if b = 0 then Int32.ofInt 0 else Int32.ofInt 1) → pz_S 5 (some .boolean) am_r266 4 Q 86 [(0, .ref 154)] [.int v105, .int ((((Int8.ofInt 25).toInt32) + ((Int32.ofInt 3) * (nI x))) + (Int32.ofInt 2)), .ref 170] h95 by
    refine am_goX 5 (show (b = 0 → pz_S 5 (some .boolean) am_r266 4 Q 85 [(4, .int (((Int8.ofInt 25).toInt32) + ((Int32.ofInt 3) * (nI x)))), (0, .ref 154), (1, .int (nI q)), (2, .int (nI l)), (3, .int b)] [.int ((((Int8.ofInt 25).toInt32) + ((Int32.ofInt 3) * (nI x))) + (Int32.ofInt 2)), .ref 170] h95) ∧ (¬ (b = 0) → pz_S 5 (some .boolean) am_r266 4 Q 81 [(4, .int (((Int8.ofInt 25).toInt32) + ((Int32.ofInt 3) * (nI x)))), (0, .ref 154), (1, .int (nI q)), (2, .int (nI l)), (3, .int b)] [.int ((((Int8.ofInt 25).toInt32) + ((Int32.ofInt 3) * (nI x))) + (Int32.ofInt 2)), .ref 170] h95) from ⟨fun c104 => ?_, fun c104 => ?_⟩)
    · refine am_goX 1 (show pz_S 5 (some .boolean) am_r266 4 Q 86 [(4, .int (((Int8.ofInt 25).toInt32) + ((Int32.ofInt 3) * (nI x)))), (0, .ref 154), (1, .int (nI q)), (2, .int (nI l)), (3, .int b)] [.int (Int32.ofInt 0), .int ((((Int8.ofInt 25).toInt32) + ((Int32.ofInt 3) * (nI x))) + (Int32.ofInt 2)), .ref 170] h95 from ?_)
      exact sv_S2 sv2_266 (by intro q hq; simp only [List.mem_cons, List.not_mem_nil, or_false] at hq; rcases hq with rfl <;> rfl) (key _ (if_pos c104).symm)
    · refine am_goX 2 (show pz_S 5 (some .boolean) am_r266 4 Q 86 [(4, .int (((Int8.ofInt 25).toInt32) + ((Int32.ofInt 3) * (nI x)))), (0, .ref 154), (1, .int (nI q)), (2, .int (nI l)), (3, .int b)] [.int (Int32.ofInt 1), .int ((((Int8.ofInt 25).toInt32) + ((Int32.ofInt 3) * (nI x))) + (Int32.ofInt 2)), .ref 170] h95 from ?_)
      exact sv_S2 sv2_266 (by intro q hq; simp only [List.mem_cons, List.not_mem_nil, or_false] at hq; rcases hq with rfl <;> rfl) (key _ (if_neg c104).symm)
  intro v105 e106
  subst e106
  refine am_goX 1 (show ∃ jj nn : Nat, am_so h95 170 = some (13, nn) ∧ jj < nn ∧ (((Int8.ofInt 25).toInt32) + ((Int32.ofInt 3) * (nI x))) + (Int32.ofInt 2) = nI jj ∧ pz_S 5 (some .boolean) am_r266 4 Q 87 [(0, .ref 154)] [] (am_wI h95 170 jj (if b = 0 then Int32.ofInt 0 else Int32.ofInt 1)) from ⟨((25 + (3 * x)) + 2), 1127, ex_w170 f96, (by omega), (dn_a (dn_a (show (Int8.ofInt 25).toInt32 = nI 25 by decide) (dn_m rfl rfl)) rfl), ?_⟩)
  have f108 : ex_P (am_wI h95 170 ((25 + (3 * x)) + 2) (if b = 0 then Int32.ofInt 0 else Int32.ofInt 1)) := f96
  have f109 : cI C := f97
  have f110 : tR C (am_wI h95 170 ((25 + (3 * x)) + 2) (if b = 0 then Int32.ofInt 0 else Int32.ofInt 1)) := tR_w (by omega) f98
  have f111 : ∀ e, e < dE C → (am_wI h95 170 ((25 + (3 * x)) + 2) (if b = 0 then Int32.ofInt 0 else Int32.ofInt 1)).1 172 e = dW V e := on_w (by omega) f99
  have f112 : sR 0 (dP C) s (am_wI h95 170 ((25 + (3 * x)) + 2) (if b = 0 then Int32.ofInt 0 else Int32.ofInt 1)) := sR_q (by omega) f100
  have f113 : hL (dP C) H (am_wI h95 170 ((25 + (3 * x)) + 2) (if b = 0 then Int32.ofInt 0 else Int32.ofInt 1)) := hL_w (by omega) f101
  have f114 : mL (dP C) M (am_wI h95 170 ((25 + (3 * x)) + 2) (if b = 0 then Int32.ofInt 0 else Int32.ofInt 1)) := mL_w (by omega) f102
  have f115 : (am_wI h95 170 ((25 + (3 * x)) + 2) (if b = 0 then Int32.ofInt 0 else Int32.ofInt 1)).1 170 24 = nI x := (em_wn _ _ (by omega)).trans f103
  generalize am_wI h95 170 ((25 + (3 * x)) + 2) (if b = 0 then Int32.ofInt 0 else Int32.ofInt 1) = h107 at f108 f109 f110 f111 f112 f113 f114 f115 ⊢
  refine am_goX 2 (show am_sh h107 154 = some (11, 0) ∧ pz_S 5 (some .boolean) am_r266 4 Q 91 [(0, .ref 154)] [am_rf (h107.2.2.1 154 24)] h107 from ⟨ex_154 f108, ?_⟩)
  rw [show am_rf (h107.2.2.1 154 24) = .ref 170 from congrArg am_rf (ex_r154_24 f108)]
  refine am_goX 3 (show (Value.int ((Int8.ofInt 24).toInt32)).category = 1 ∧ (Value.ref 170).category = 1 ∧ ∃ jj nn : Nat, am_sh h107 170 = some (13, nn) ∧ jj < nn ∧ (Int8.ofInt 24).toInt32 = nI jj ∧ pz_S 5 (some .boolean) am_r266 4 Q 95 [(0, .ref 154)] [.int (h107.1 170 jj), .int ((Int8.ofInt 24).toInt32), .ref 170] h107 from ⟨rfl, rfl, ⟨24, 1127, ex_170 f108, (by omega), (show (Int8.ofInt 24).toInt32 = nI 24 by decide), ?_⟩⟩)
  rw [show h107.1 170 24 = nI x from f115]
  refine am_goX 3 (show ∃ jj nn : Nat, am_so h107 170 = some (13, nn) ∧ jj < nn ∧ (Int8.ofInt 24).toInt32 = nI jj ∧ pz_S 5 (some .boolean) am_r266 4 Q 98 [(0, .ref 154)] [] (am_wI h107 170 jj ((nI x) + (Int32.ofInt 1))) from ⟨24, 1127, ex_w170 f108, (by omega), (show (Int8.ofInt 24).toInt32 = nI 24 by decide), ?_⟩)
  have f117 : ex_P (am_wI h107 170 24 ((nI x) + (Int32.ofInt 1))) := f108
  have f118 : cI C := f109
  have f119 : tR C (am_wI h107 170 24 ((nI x) + (Int32.ofInt 1))) := tR_w (by omega) f110
  have f120 : ∀ e, e < dE C → (am_wI h107 170 24 ((nI x) + (Int32.ofInt 1))).1 172 e = dW V e := on_w (by omega) f111
  have f121 : sR 0 (dP C) s (am_wI h107 170 24 ((nI x) + (Int32.ofInt 1))) := sR_q (by omega) f112
  have f122 : hL (dP C) H (am_wI h107 170 24 ((nI x) + (Int32.ofInt 1))) := hL_w (by omega) f113
  have f123 : mL (dP C) M (am_wI h107 170 24 ((nI x) + (Int32.ofInt 1))) := mL_w (by omega) f114
  have f124 : (am_wI h107 170 24 ((nI x) + (Int32.ofInt 1))).1 170 24 = nI (x + 1) := (em_we _ _ _ _).trans ((dn_a rfl rfl))
  generalize am_wI h107 170 24 ((nI x) + (Int32.ofInt 1)) = h116 at f117 f118 f119 f120 f121 f122 f123 f124 ⊢
  exact am_goX 2 (show (∃ ty, (some .boolean) = some ty ∧ narrow ty (.int (Int32.ofInt 1)) = .int (Int32.ofInt 1)) ∧ h116.2.2.2.2 = 175 ∧ _ from ⟨⟨.boolean, rfl, rfl⟩, ex_175 f117, hQ _ f117 f118 f119 f120 f121 f122 f123 f124⟩)
def d_266x  : Int32 := Int32.ofInt 0
theorem d_266_xL (hP : ex_P h) (hI : cI C) (hT : tR C h) (hO : ∀ e, e < dE C → h.1 172 e = dW V e) (hS : sR 0 (dP C) s h) (hH : hL (dP C) H h) (hM : mL (dP C) M h) (hx : h.1 170 24 = nI x) (ey : d_93 C y = Int32.ofInt 0) (hQ : ∀ h1, (ex_P h1) → (cI C) → (tR C h1) → (∀ e, e < dE C → h1.1 172 e = dW V e) → (sR 0 (dP C) s h1) → (hL (dP C) H h1) → (mL (dP C) M h1) → (h1.1 170 24 = nI x) → Q (some (.int d_266x)) h1) : am_call am_cod 5 266 [.ref 154, .int y, .int w, .int b] h Q := by
  have h6 := hT.1.2.1
  have h5 := hT.2.1.2.1
  refine pz_call (n := 266) (nL := 5) (rt := (some .boolean)) (rows := am_r266) (d := 4) (by decide +kernel) (by decide +kernel) rfl (by funext pc; rfl) (ex_175 hP) (by exact Nat.le_of_ble_eq_true rfl) ?_
  refine am_goX 3 (show am_sh h 154 = some (11, 0) ∧ narrow (am_fty 11 0) (.int (Int32.ofInt 0)) = .int (Int32.ofInt 0) ∧ fits (am_fty 11 0) (.int (Int32.ofInt 0)) = true ∧ pz_S 5 (some .boolean) am_r266 4 Q 5 [(0, .ref 154), (1, .int y), (2, .int w), (3, .int b)] [] (am_wI h 154 0 (Int32.ofInt 0)) from ⟨ex_154 hP, rfl, rfl, ?_⟩)
  have f126 : ex_P (am_wI h 154 0 (Int32.ofInt 0)) := hP
  have f127 : cI C := hI
  have f128 : tR C (am_wI h 154 0 (Int32.ofInt 0)) := tR_w (by omega) hT
  have f129 : ∀ e, e < dE C → (am_wI h 154 0 (Int32.ofInt 0)).1 172 e = dW V e := on_w (by omega) hO
  have f130 : sR 0 (dP C) s (am_wI h 154 0 (Int32.ofInt 0)) := sR_o (by omega) hS
  have f131 : hL (dP C) H (am_wI h 154 0 (Int32.ofInt 0)) := hL_w (by omega) hH
  have f132 : mL (dP C) M (am_wI h 154 0 (Int32.ofInt 0)) := mL_w (by omega) hM
  have f133 : (am_wI h 154 0 (Int32.ofInt 0)).1 170 24 = nI x := (em_wn _ _ (by omega)).trans hx
  generalize am_wI h 154 0 (Int32.ofInt 0) = h125 at f126 f127 f128 f129 f130 f131 f132 f133 ⊢
  refine am_goX 3 (show am_rc h125 154 11 ∧ 0 ≤ 8 ∧ h125.2.2.2.2 + am_al 227 ≤ 175 ∧ am_call am_cod 4 227 [.ref 154, .int y] h125 (fun vv h' => pz_S 5 (some .boolean) am_r266 4 Q 10 [(0, .ref 154), (1, .int y), (2, .int w), (3, .int b)] (vv.toList ++ []) h') from ⟨Or.inl ⟨by decide, ex_154 f126⟩, by decide, ex_lim f126 rfl, am_call.up (d_227_r f126 f128 ?_) (by decide)⟩)
  rw [show d_227 C y = Int32.ofInt 0 from ((d_227_e _).trans ey)]
  refine am_goX 1 (show ((Int32.ofInt 0) = 0 → pz_S 5 (some .boolean) am_r266 4 Q 35 [(0, .ref 154), (1, .int y), (2, .int w), (3, .int b)] [] h125) ∧ (¬ ((Int32.ofInt 0) = 0) → pz_S 5 (some .boolean) am_r266 4 Q 13 [(0, .ref 154), (1, .int y), (2, .int w), (3, .int b)] [] h125) from ⟨fun _ => ?_, fun hz => absurd (by decide) hz⟩)
  exact am_goX 2 (show (∃ ty, (some .boolean) = some ty ∧ narrow ty (.int (Int32.ofInt 0)) = .int (Int32.ofInt 0)) ∧ h125.2.2.2.2 = 175 ∧ _ from ⟨⟨.boolean, rfl, rfl⟩, ex_175 f126, hQ _ f126 f127 f128 f129 f130 f131 f132 f133⟩)
theorem d_266_yL (hP : ex_P h) (hI : cI C) (hT : tR C h) (hO : ∀ e, e < dE C → h.1 172 e = dW V e) (hS : sR 0 (dP C) s h) (hH : hL (dP C) H h) (hM : mL (dP C) M h) (hx : h.1 170 24 = nI x) (he : q < dE C) (ew : d_60 w (Int32.ofInt 1) ((Int8.ofInt 28).toInt32) = Int32.ofInt 0) (hQ : ∀ h1, (ex_P h1) → (cI C) → (tR C h1) → (∀ e, e < dE C → h1.1 172 e = dW V e) → (sR 0 (dP C) s h1) → (hL (dP C) H h1) → (mL (dP C) M h1) → (h1.1 170 24 = nI x) → Q (some (.int d_266x)) h1) : am_call am_cod 5 266 [.ref 154, .int (nI q), .int w, .int b] h Q := by
  have h6 := hT.1.2.1
  have h5 := hT.2.1.2.1
  refine pz_call (n := 266) (nL := 5) (rt := (some .boolean)) (rows := am_r266) (d := 4) (by decide +kernel) (by decide +kernel) rfl (by funext pc; rfl) (ex_175 hP) (by exact Nat.le_of_ble_eq_true rfl) ?_
  refine am_goX 3 (show am_sh h 154 = some (11, 0) ∧ narrow (am_fty 11 0) (.int (Int32.ofInt 0)) = .int (Int32.ofInt 0) ∧ fits (am_fty 11 0) (.int (Int32.ofInt 0)) = true ∧ pz_S 5 (some .boolean) am_r266 4 Q 5 [(0, .ref 154), (1, .int (nI q)), (2, .int w), (3, .int b)] [] (am_wI h 154 0 (Int32.ofInt 0)) from ⟨ex_154 hP, rfl, rfl, ?_⟩)
  have f135 : ex_P (am_wI h 154 0 (Int32.ofInt 0)) := hP
  have f136 : cI C := hI
  have f137 : tR C (am_wI h 154 0 (Int32.ofInt 0)) := tR_w (by omega) hT
  have f138 : ∀ e, e < dE C → (am_wI h 154 0 (Int32.ofInt 0)).1 172 e = dW V e := on_w (by omega) hO
  have f139 : sR 0 (dP C) s (am_wI h 154 0 (Int32.ofInt 0)) := sR_o (by omega) hS
  have f140 : hL (dP C) H (am_wI h 154 0 (Int32.ofInt 0)) := hL_w (by omega) hH
  have f141 : mL (dP C) M (am_wI h 154 0 (Int32.ofInt 0)) := mL_w (by omega) hM
  have f142 : (am_wI h 154 0 (Int32.ofInt 0)).1 170 24 = nI x := (em_wn _ _ (by omega)).trans hx
  generalize am_wI h 154 0 (Int32.ofInt 0) = h134 at f135 f136 f137 f138 f139 f140 f141 f142 ⊢
  refine am_goX 3 (show am_rc h134 154 11 ∧ 0 ≤ 8 ∧ h134.2.2.2.2 + am_al 227 ≤ 175 ∧ am_call am_cod 4 227 [.ref 154, .int (nI q)] h134 (fun vv h' => pz_S 5 (some .boolean) am_r266 4 Q 10 [(0, .ref 154), (1, .int (nI q)), (2, .int w), (3, .int b)] (vv.toList ++ []) h') from ⟨Or.inl ⟨by decide, ex_154 f135⟩, by decide, ex_lim f135 rfl, am_call.up (d_227_r f135 f137 ?_) (by decide)⟩)
  rw [show d_227 C (nI q) = Int32.ofInt 1 from ((d_227_e _).trans (v_93 he h5))]
  refine am_goX 1 (show ((Int32.ofInt 1) = 0 → pz_S 5 (some .boolean) am_r266 4 Q 35 [(0, .ref 154), (1, .int (nI q)), (2, .int w), (3, .int b)] [] h134) ∧ (¬ ((Int32.ofInt 1) = 0) → pz_S 5 (some .boolean) am_r266 4 Q 13 [(0, .ref 154), (1, .int (nI q)), (2, .int w), (3, .int b)] [] h134) from ⟨fun hz => absurd hz (by decide), fun _ => ?_⟩)
  refine am_goX 4 (show 0 ≤ 8 ∧ h134.2.2.2.2 + am_al 207 ≤ 175 ∧ am_call am_cod 4 207 [.int w, .int (Int32.ofInt 1), .int ((Int8.ofInt 28).toInt32)] h134 (fun vv h' => pz_S 5 (some .boolean) am_r266 4 Q 20 [(0, .ref 154), (1, .int (nI q)), (2, .int w), (3, .int b)] (vv.toList ++ []) h') from ⟨by decide, ex_lim f135 rfl, am_call.up (d_207_w f135 ?_) (by decide)⟩)
  rw [show d_207 w (Int32.ofInt 1) ((Int8.ofInt 28).toInt32) = Int32.ofInt 0 from ((d_207_e _ _ _).trans ew)]
  refine am_goX 1 (show ((Int32.ofInt 0) = 0 → pz_S 5 (some .boolean) am_r266 4 Q 35 [(0, .ref 154), (1, .int (nI q)), (2, .int w), (3, .int b)] [] h134) ∧ (¬ ((Int32.ofInt 0) = 0) → pz_S 5 (some .boolean) am_r266 4 Q 23 [(0, .ref 154), (1, .int (nI q)), (2, .int w), (3, .int b)] [] h134) from ⟨fun _ => ?_, fun hz => absurd (by decide) hz⟩)
  exact am_goX 2 (show (∃ ty, (some .boolean) = some ty ∧ narrow ty (.int (Int32.ofInt 0)) = .int (Int32.ofInt 0)) ∧ h134.2.2.2.2 = 175 ∧ _ from ⟨⟨.boolean, rfl, rfl⟩, ex_175 f135, hQ _ f135 f136 f137 f138 f139 f140 f141 f142⟩)
theorem d_266_zL (hP : ex_P h) (hI : cI C) (hT : tR C h) (hO : ∀ e, e < dE C → h.1 172 e = dW V e) (hS : sR 0 (dP C) s h) (hH : hL (dP C) H h) (hM : mL (dP C) M h) (hx : h.1 170 24 = nI x) (he : q < dE C) (hl1 : 1 ≤ l) (hl2 : l ≤ 28) (hx8 : x = 8) (hQ : ∀ h1, (ex_P h1) → (cI C) → (tR C h1) → (∀ e, e < dE C → h1.1 172 e = dW V e) → (sR 0 (dP C) s h1) → (hL (dP C) H h1) → (mL (dP C) M h1) → (h1.1 170 24 = nI x) → Q (some (.int d_266x)) h1) : am_call am_cod 5 266 [.ref 154, .int (nI q), .int (nI l), .int b] h Q := by
  have h6 := hT.1.2.1
  have h5 := hT.2.1.2.1
  refine pz_call (n := 266) (nL := 5) (rt := (some .boolean)) (rows := am_r266) (d := 4) (by decide +kernel) (by decide +kernel) rfl (by funext pc; rfl) (ex_175 hP) (by exact Nat.le_of_ble_eq_true rfl) ?_
  refine am_goX 3 (show am_sh h 154 = some (11, 0) ∧ narrow (am_fty 11 0) (.int (Int32.ofInt 0)) = .int (Int32.ofInt 0) ∧ fits (am_fty 11 0) (.int (Int32.ofInt 0)) = true ∧ pz_S 5 (some .boolean) am_r266 4 Q 5 [(0, .ref 154), (1, .int (nI q)), (2, .int (nI l)), (3, .int b)] [] (am_wI h 154 0 (Int32.ofInt 0)) from ⟨ex_154 hP, rfl, rfl, ?_⟩)
  have f144 : ex_P (am_wI h 154 0 (Int32.ofInt 0)) := hP
  have f145 : cI C := hI
  have f146 : tR C (am_wI h 154 0 (Int32.ofInt 0)) := tR_w (by omega) hT
  have f147 : ∀ e, e < dE C → (am_wI h 154 0 (Int32.ofInt 0)).1 172 e = dW V e := on_w (by omega) hO
  have f148 : sR 0 (dP C) s (am_wI h 154 0 (Int32.ofInt 0)) := sR_o (by omega) hS
  have f149 : hL (dP C) H (am_wI h 154 0 (Int32.ofInt 0)) := hL_w (by omega) hH
  have f150 : mL (dP C) M (am_wI h 154 0 (Int32.ofInt 0)) := mL_w (by omega) hM
  have f151 : (am_wI h 154 0 (Int32.ofInt 0)).1 170 24 = nI x := (em_wn _ _ (by omega)).trans hx
  generalize am_wI h 154 0 (Int32.ofInt 0) = h143 at f144 f145 f146 f147 f148 f149 f150 f151 ⊢
  refine am_goX 3 (show am_rc h143 154 11 ∧ 0 ≤ 8 ∧ h143.2.2.2.2 + am_al 227 ≤ 175 ∧ am_call am_cod 4 227 [.ref 154, .int (nI q)] h143 (fun vv h' => pz_S 5 (some .boolean) am_r266 4 Q 10 [(0, .ref 154), (1, .int (nI q)), (2, .int (nI l)), (3, .int b)] (vv.toList ++ []) h') from ⟨Or.inl ⟨by decide, ex_154 f144⟩, by decide, ex_lim f144 rfl, am_call.up (d_227_r f144 f146 ?_) (by decide)⟩)
  rw [show d_227 C (nI q) = Int32.ofInt 1 from ((d_227_e _).trans (v_93 he h5))]
  refine am_goX 1 (show ((Int32.ofInt 1) = 0 → pz_S 5 (some .boolean) am_r266 4 Q 35 [(0, .ref 154), (1, .int (nI q)), (2, .int (nI l)), (3, .int b)] [] h143) ∧ (¬ ((Int32.ofInt 1) = 0) → pz_S 5 (some .boolean) am_r266 4 Q 13 [(0, .ref 154), (1, .int (nI q)), (2, .int (nI l)), (3, .int b)] [] h143) from ⟨fun hz => absurd hz (by decide), fun _ => ?_⟩)
  refine am_goX 4 (show 0 ≤ 8 ∧ h143.2.2.2.2 + am_al 207 ≤ 175 ∧ am_call am_cod 4 207 [.int (nI l), .int (Int32.ofInt 1), .int ((Int8.ofInt 28).toInt32)] h143 (fun vv h' => pz_S 5 (some .boolean) am_r266 4 Q 20 [(0, .ref 154), (1, .int (nI q)), (2, .int (nI l)), (3, .int b)] (vv.toList ++ []) h') from ⟨by decide, ex_lim f144 rfl, am_call.up (d_207_w f144 ?_) (by decide)⟩)
  rw [show d_207 (nI l) (Int32.ofInt 1) ((Int8.ofInt 28).toInt32) = Int32.ofInt 1 from ((d_207_e _ _ _).trans (show d_60 (nI l) (Int32.ofInt 1) ((Int8.ofInt 28).toInt32) = Int32.ofInt 1 from (by rw [show (Int8.ofInt 28).toInt32 = nI 28 by decide]; exact v_60 (lo := 1) (hi := 28) hl1 hl2 (by decide))))]
  refine am_goX 1 (show ((Int32.ofInt 1) = 0 → pz_S 5 (some .boolean) am_r266 4 Q 35 [(0, .ref 154), (1, .int (nI q)), (2, .int (nI l)), (3, .int b)] [] h143) ∧ (¬ ((Int32.ofInt 1) = 0) → pz_S 5 (some .boolean) am_r266 4 Q 23 [(0, .ref 154), (1, .int (nI q)), (2, .int (nI l)), (3, .int b)] [] h143) from ⟨fun hz => absurd hz (by decide), fun _ => ?_⟩)
  refine am_goX 2 (show am_sh h143 154 = some (11, 0) ∧ pz_S 5 (some .boolean) am_r266 4 Q 27 [(0, .ref 154), (1, .int (nI q)), (2, .int (nI l)), (3, .int b)] [am_rf (h143.2.2.1 154 24)] h143 from ⟨ex_154 f144, ?_⟩)
  rw [show am_rf (h143.2.2.1 154 24) = .ref 170 from congrArg am_rf (ex_r154_24 f144)]
  refine am_goX 2 (show ∃ jj nn : Nat, am_sh h143 170 = some (13, nn) ∧ jj < nn ∧ (Int8.ofInt 24).toInt32 = nI jj ∧ pz_S 5 (some .boolean) am_r266 4 Q 30 [(0, .ref 154), (1, .int (nI q)), (2, .int (nI l)), (3, .int b)] [.int (h143.1 170 jj)] h143 from ⟨24, 1127, ex_170 f144, (by omega), (show (Int8.ofInt 24).toInt32 = nI 24 by decide), ?_⟩)
  rw [show h143.1 170 24 = nI x from f151]
  refine am_goX 2 (show (¬ (nI x) = ((Int8.ofInt 8).toInt32) → pz_S 5 (some .boolean) am_r266 4 Q 37 [(0, .ref 154), (1, .int (nI q)), (2, .int (nI l)), (3, .int b)] [] h143) ∧ (¬ ¬ (nI x) = ((Int8.ofInt 8).toInt32) → pz_S 5 (some .boolean) am_r266 4 Q 35 [(0, .ref 154), (1, .int (nI q)), (2, .int (nI l)), (3, .int b)] [] h143) from ⟨fun hz => absurd hz (show ¬ ¬ nI x = nI 8 from fun w => w (by rw [hx8])), fun _ => ?_⟩)
  exact am_goX 2 (show (∃ ty, (some .boolean) = some ty ∧ narrow ty (.int (Int32.ofInt 0)) = .int (Int32.ofInt 0)) ∧ h143.2.2.2.2 = 175 ∧ _ from ⟨⟨.boolean, rfl, rfl⟩, ex_175 f144, hQ _ f144 f145 f146 f147 f148 f149 f150 f151⟩)
