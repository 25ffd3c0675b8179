/-! DAYS AHEAD; MOVE -/
theorem sC_ex (o : Nat) (h : am_H) : sC o (h.1 o 0, h.1 o 1, h.1 (o + 1), h.1 (o + 2), h.1 (o + 3), h.1 (o + 4)) h := ⟨⟨rfl, rfl⟩, fun _ _ => ⟨rfl, rfl⟩, fun _ _ => ⟨rfl, rfl⟩⟩
theorem sR_ex (b P : Nat) (h : am_H) : sR b P (h.1 170 b, h.1 170 (b + 1), fun i => h.1 170 (b + 2 + i), fun i => h.1 170 (b + 8 + i), fun i => h.1 170 (b + 14 + i), fun i => h.1 170 (b + 19 + i)) h := ⟨⟨rfl, rfl⟩, fun _ _ => rfl, fun _ _ => rfl, fun _ _ => ⟨rfl, rfl⟩⟩
/-- the canton with another day of the week for e -/
def setW (C : sp_C) (e : Nat) (d : Int32) : sp_C := (C.1, (C.2.1.1, C.2.1.2.1, sp_uI C.2.1.2.2.1 e d, C.2.1.2.2.2), C.2.2)
theorem cI_W {C : sp_C} {e k : Nat} (hk : k < 7) (hc : cI C) : cI (setW C e (nI k)) := by
  obtain ⟨h1, h2, h3, h4⟩ := hc
  refine ⟨h1, h2, fun q hq => ⟨?_, (h3 q hq).2⟩, h4⟩
  show ∃ d, d < 7 ∧ (if q = e then nI k else C.2.1.2.2.1 q) = nI d
  by_cases eq : q = e
  · rw [if_pos eq]; exact ⟨k, hk, rfl⟩
  · rw [if_neg eq]; exact (h3 q hq).1
theorem W_d {C : sp_C} {c e : Nat} {d : Int32} {h : am_H} (hE : ∀ i, i < dE C → ¬ i = e → h.1 (c + 5) i = dW C i) (hk : h.1 (c + 5) e = d) : c_d c (setW C e d) h := fun i hi => by
  show h.1 (c + 5) i = if i = e then d else C.2.1.2.2.1 i
  by_cases ei : i = e
  · rw [if_pos ei, ei]; exact hk
  · rw [if_neg ei]; exact hE i hi ei
theorem W_e {C : sp_C} {c e : Nat} {d : Int32} {h : am_H} (l : c_d c (setW C e d) h) : ∀ i, i < dE C → ¬ i = e → h.1 (c + 5) i = dW C i := fun i hi hn => (l i hi).trans (if_neg hn)
theorem W_k {C : sp_C} {c e : Nat} {d : Int32} {h : am_H} (he : e < dE C) (l : c_d c (setW C e d) h) : h.1 (c + 5) e = d := (l e he).trans (if_pos rfl)
theorem W_o {C : sp_C} {e : Nat} {d : Int32} {h : am_H} (hE : ∀ i, i < dE C → ¬ i = e → h.1 172 i = dW C i) (hk : h.1 172 e = d) : ∀ i, i < dE C → h.1 172 i = dW (setW C e d) i := fun i hi => by
  show h.1 172 i = if i = e then d else C.2.1.2.2.1 i
  by_cases ei : i = e
  · rw [if_pos ei, ei]; exact hk
  · rw [if_neg ei]; exact hE i hi ei
theorem c_v_w5 {c k : Nat} {v : Int32} {C : sp_C} {h : am_H} (l : c_v c C h) : c_v c C (am_wI h (c + 5) k v) := by
  have e : ∀ a j, ¬ a = c + 5 → (am_wI h (c + 5) k v).1 a j = h.1 a j := fun a j hn => em_wn _ _ (fun w => hn w.1)
  exact c_v_x (e _ _ (by omega)) (e _ _ (by omega)) (e _ _ (by omega)) (fun i _ => ⟨e _ _ (by omega), e _ _ (by omega)⟩) (fun i _ => ⟨e _ _ (by omega), e _ _ (by omega)⟩) (e _ _ (by omega)) (fun i _ => e _ _ (by omega)) l
variable {h : am_H} {Q : am_Q} {C V : sp_C} {y z w b kv kw : Int32} {e l m p q : Nat} {s u : dS}
theorem ex_r0_8 {h : am_H} (hP : ex_P h) : h.2.2.1 0 8 = some 41 := hP.2 0 8 41 (by decide +kernel)
theorem sv2_123 : am_r123.all (fun q => sv2_ok q.2) = true := by decide +kernel
theorem sv2_131 : am_r131.all (fun q => sv2_ok q.2) = true := by decide +kernel
theorem sv2_182 : am_r182.all (fun q => sv2_ok q.2) = true := by decide +kernel
theorem sv2_257 : am_r257.all (fun q => sv2_ok q.2) = true := by decide +kernel
def d_118_s (C : sp_C) (s : dS) : dS := d_100_s C s (d_68 C (s.1 + (Int32.ofInt 1)))
def d_118 (C : sp_C) (s : dS) : Int32 := d_100 C s (d_68 C (s.1 + (Int32.ofInt 1)))
theorem d_118_A6 (hP : ex_P h) (hI : cI C) (hT : c_v 6 C h) (hD : c_d 6 C h) (hR : h.2.2.1 0 3 = some 6) (hN : sC 36 u h) (hS : sC 41 s h)  (hQ : ∀ h1, (ex_P h1) → (cI C) → (c_v 6 C h1) → (c_d 6 C h1) → (h1.2.2.1 0 3 = some 6) → (sC 36 u h1) → (sC 41 (d_118_s C s) h1) → Q (some (.int (d_118 C s))) h1) : am_call am_cod 7 118 [.ref 0] h Q := by
  have h6 := hT.1.2.1
  have h5 := hT.2.1.2.1
  refine pz_call (n := 118) (nL := 1) (rt := (some .int)) (rows := am_r118) (d := 6) (by decide +kernel) (by decide +kernel) rfl (by funext pc; rfl) (ex_175 hP) (by exact Nat.le_of_ble_eq_true rfl) ?_
  refine am_goX 2 (show am_sh h 0 = some (10, 0) ∧ pz_S 1 (some .int) am_r118 6 Q 4 [(0, .ref 0)] [am_rf (h.2.2.1 0 3)] h from ⟨ex_0 hP, ?_⟩)
  rw [show am_rf (h.2.2.1 0 3) = .ref 6 from congrArg am_rf (hR)]
  refine am_goX 2 (show am_sh h 0 = some (10, 0) ∧ pz_S 1 (some .int) am_r118 6 Q 8 [(0, .ref 0)] [am_rf (h.2.2.1 0 8), .ref 6] h from ⟨ex_0 hP, ?_⟩)
  rw [show am_rf (h.2.2.1 0 8) = .ref 41 from congrArg am_rf (ex_r0_8 hP)]
  refine am_goX 2 (show am_sh h 0 = some (10, 0) ∧ pz_S 1 (some .int) am_r118 6 Q 12 [(0, .ref 0)] [am_rf (h.2.2.1 0 3), .ref 41, .ref 6] h from ⟨ex_0 hP, ?_⟩)
  rw [show am_rf (h.2.2.1 0 3) = .ref 6 from congrArg am_rf (hR)]
  refine am_goX 2 (show am_sh h 0 = some (10, 0) ∧ pz_S 1 (some .int) am_r118 6 Q 16 [(0, .ref 0)] [am_rf (h.2.2.1 0 8), .ref 6, .ref 41, .ref 6] h from ⟨ex_0 hP, ?_⟩)
  rw [show am_rf (h.2.2.1 0 8) = .ref 41 from congrArg am_rf (ex_r0_8 hP)]
  refine am_goX 1 (show am_sh h 41 = some (6, 0) ∧ pz_S 1 (some .int) am_r118 6 Q 19 [(0, .ref 0)] [.int (h.1 41 0), .ref 6, .ref 41, .ref 6] h from ⟨ex_41 hP, ?_⟩)
  rw [show h.1 41 0 = s.1 from hS.1.1]
  refine am_goX 3 (show am_rc h 6 0 ∧ 2 ≤ 8 ∧ h.2.2.2.2 + am_al 68 ≤ 175 ∧ am_call am_cod 6 68 [.ref 6, .int (s.1 + (Int32.ofInt 1))] h (fun vv h' => pz_S 1 (some .int) am_r118 6 Q 24 [(0, .ref 0)] (vv.toList ++ [.ref 41, .ref 6]) h') from ⟨Or.inl ⟨by decide, ex_6 hP⟩, by decide, ex_lim hP rfl, am_call.up (d_68_t6 hP hT ?_) (by decide)⟩)
  refine am_goX 1 (show am_rc h 6 0 ∧ 0 ≤ 8 ∧ h.2.2.2.2 + am_al 100 ≤ 175 ∧ am_call am_cod 6 100 [.ref 6, .ref 41, .int (d_68 C (s.1 + (Int32.ofInt 1)))] h (fun vv h' => pz_S 1 (some .int) am_r118 6 Q 27 [(0, .ref 0)] (vv.toList ++ []) h') from ⟨Or.inl ⟨by decide, ex_6 hP⟩, by decide, ex_lim hP rfl, am_call.up (d_100_t6_41 hP hI hT hD hR hN hS (fun h1 f2 f3 f4 f5 f6 f7 f8 => ?_)) (by decide)⟩)
  exact am_goX 1 (show (∃ ty, (some .int) = some ty ∧ narrow ty (.int (d_100 C s (d_68 C (s.1 + (Int32.ofInt 1))))) = .int (d_100 C s (d_68 C (s.1 + (Int32.ofInt 1))))) ∧ h1.2.2.2.2 = 175 ∧ _ from ⟨⟨.int, rfl, rfl⟩, ex_175 f2, hQ _ f2 f3 f4 f5 f6 f7 f8⟩)
def d_123_13 (C : sp_C) : Nat → Nat → dS → dS
  | 0, _, s => s
  | m + 1, k, s => d_123_13 C m (k + 1) (d_118_s C s)
theorem d_123_13_A6 (hl : l ≤ 60) : ∀ (m k : Nat) (s : dS) (h : am_H), k + m = l + 1 → (ex_P h) → (cI C) → (c_v 6 C h) → (c_d 6 C h) → (h.2.2.1 0 3 = some 6) → (sC 36 u h) → (sC 41 s h) → (∀ h1, (ex_P h1) → (cI C) → (c_v 6 C h1) → (c_d 6 C h1) → (h1.2.2.1 0 3 = some 6) → (sC 36 u h1) → (sC 41 (d_123_13 C m k s) h1) → pz_S 4 (some .int) am_r123 7 Q 29 [(0, .ref 0), (1, .int (nI e))] [] h1) → pz_S 4 (some .int) am_r123 7 Q 13 [(0, .ref 0), (1, .int (nI e)), (2, .int (nI l)), (3, .int (nI k))] [] h := by
  intro m
  induction m with
  | zero =>
    intro k s h hk hP hI hT hD hR hN hS hZ
    have h6 := hT.1.2.1
    have h5 := hT.2.1.2.1
    refine am_goX 3 (show ((nI l) < (nI k) → pz_S 4 (some .int) am_r123 7 Q 29 [(0, .ref 0), (1, .int (nI e)), (2, .int (nI l)), (3, .int (nI k))] [] h) ∧ (¬ ((nI l) < (nI k)) → pz_S 4 (some .int) am_r123 7 Q 18 [(0, .ref 0), (1, .int (nI e)), (2, .int (nI l)), (3, .int (nI k))] [] h) from ⟨fun _ => ?_, fun hz => absurd (show nI l < nI k from nI_lt (by omega) (by omega)) hz⟩)
    exact sv_S2 sv2_123 (by intro q hq; simp only [List.mem_cons, List.not_mem_nil, or_false] at hq; rcases hq with rfl | rfl <;> rfl) (hZ _ hP hI hT hD hR hN hS)
  | succ m ih =>
    intro k s h hk hP hI hT hD hR hN hS hZ
    have h6 := hT.1.2.1
    have h5 := hT.2.1.2.1
    refine am_goX 3 (show ((nI l) < (nI k) → pz_S 4 (some .int) am_r123 7 Q 29 [(0, .ref 0), (1, .int (nI e)), (2, .int (nI l)), (3, .int (nI k))] [] h) ∧ (¬ ((nI l) < (nI k)) → pz_S 4 (some .int) am_r123 7 Q 18 [(0, .ref 0), (1, .int (nI e)), (2, .int (nI l)), (3, .int (nI k))] [] h) from ⟨fun hz => absurd hz (show ¬ (nI l < nI k) by rw [nI_ltI (by omega) (by omega)]; omega), fun _ => ?_⟩)
    refine am_goX 2 (show am_rc h 0 10 ∧ 0 ≤ 8 ∧ h.2.2.2.2 + am_al 118 ≤ 175 ∧ am_call am_cod 7 118 [.ref 0] h (fun vv h' => pz_S 4 (some .int) am_r123 7 Q 22 [(0, .ref 0), (1, .int (nI e)), (2, .int (nI l)), (3, .int (nI k))] (vv.toList ++ []) h') from ⟨Or.inl ⟨by decide, ex_0 hP⟩, by decide, ex_lim hP rfl, am_call.up (d_118_A6 hP hI hT hD hR hN hS (fun h19 f20 f21 f22 f23 f24 f25 f26 => ?_)) (by decide)⟩)
    refine am_goX 3 (show (Value.int (d_118 C s)).category = 1 ∧ 3 < 4 ∧ pz_S 4 (some .int) am_r123 7 Q 13 [(3, .int ((nI k) + (Int32.ofInt 1))), (0, .ref 0), (1, .int (nI e)), (2, .int (nI l))] [] h19 from ⟨rfl, by decide, ?_⟩)
    rw [show (nI k) + (Int32.ofInt 1) = nI (k + 1) from (dn_a rfl rfl)]
    exact sv_S2 sv2_123 (by intro q hq; simp only [List.mem_cons, List.not_mem_nil, or_false] at hq; rcases hq with rfl | rfl | rfl | rfl <;> rfl) (ih (k + 1) (d_118_s C s) _ (by omega) f20 f21 f22 f23 f24 f25 f26 hZ)
def d_123_s (C : sp_C) (u : dS) (e l : Nat) : dS := d_123_13 C l 1 u
def d_123 (C : sp_C) (u : dS) (e l : Nat) : Int32 := ((d_123_13 C l 1 u).2.2.2.2.1 e) - (u.2.2.2.2.1 e)
theorem d_123_A6 (hP : ex_P h) (hI : cI C) (hT : c_v 6 C h) (hD : c_d 6 C h) (hR : h.2.2.1 0 3 = some 6) (hN : sC 36 u h) (hS : sC 41 s h) (he : e < dE C) (hl : l ≤ 60) (hQ : ∀ h1, (ex_P h1) → (cI C) → (c_v 6 C h1) → (c_d 6 C h1) → (h1.2.2.1 0 3 = some 6) → (sC 36 u h1) → (sC 41 (d_123_s C u e l) h1) → Q (some (.int (d_123 C u e l))) h1) : am_call am_cod 8 123 [.ref 0, .int (nI e), .int (nI l)] h Q := by
  have h6 := hT.1.2.1
  have h5 := hT.2.1.2.1
  refine pz_call (n := 123) (nL := 4) (rt := (some .int)) (rows := am_r123) (d := 7) (by decide +kernel) (by decide +kernel) rfl (by funext pc; rfl) (ex_175 hP) (by exact Nat.le_of_ble_eq_true rfl) ?_
  refine am_goX 2 (show am_sh h 0 = some (10, 0) ∧ pz_S 4 (some .int) am_r123 7 Q 4 [(0, .ref 0), (1, .int (nI e)), (2, .int (nI l))] [am_rf (h.2.2.1 0 8)] h from ⟨ex_0 hP, ?_⟩)
  rw [show am_rf (h.2.2.1 0 8) = .ref 41 from congrArg am_rf (ex_r0_8 hP)]
  refine am_goX 2 (show am_sh h 0 = some (10, 0) ∧ pz_S 4 (some .int) am_r123 7 Q 8 [(0, .ref 0), (1, .int (nI e)), (2, .int (nI l))] [am_rf (h.2.2.1 0 7), .ref 41] h from ⟨ex_0 hP, ?_⟩)
  rw [show am_rf (h.2.2.1 0 7) = .ref 36 from congrArg am_rf (ex_r0_7 hP)]
  refine am_goX 1 (show am_rc h 41 6 ∧ 0 ≤ 8 ∧ h.2.2.2.2 + am_al 99 ≤ 175 ∧ am_call am_cod 7 99 [.ref 41, .ref 36] h (fun vv h' => pz_S 4 (some .int) am_r123 7 Q 11 [(0, .ref 0), (1, .int (nI e)), (2, .int (nI l))] (vv.toList ++ []) h') from ⟨Or.inl ⟨by decide, ex_41 hP⟩, by decide, ex_lim hP rfl, am_call.up (q_99 stO_41 stO_36 (by decide) hP (fun h9 f10 f11 f12 f13 => ?_)) (by decide)⟩)
  have f14 : sC 41 u h9 := sC_cp f13 hN
  have f15 : c_v 6 C h9 := c_v_fr (fun a k u1 u2 => f12 a k (by omega)) hT
  have f16 : c_d 6 C h9 := c_d_fr (fun k => f12 _ k (by omega)) hD
  have f17 : h9.2.2.1 0 3 = some 6 := (congrArg (fun q => q.2.1 0 3) f11).trans hR
  have f18 : sC 36 u h9 := sC_fr (fun a k u1 u2 => f12 a k (by omega)) hN
  refine am_goX 2 (show 3 < 4 ∧ pz_S 4 (some .int) am_r123 7 Q 13 [(3, .int (Int32.ofInt 1)), (0, .ref 0), (1, .int (nI e)), (2, .int (nI l))] [] h9 from ⟨by decide, ?_⟩)
  refine sv_S2 sv2_123 (by intro q hq; simp only [List.mem_cons, List.not_mem_nil, or_false] at hq; rcases hq with rfl | rfl | rfl | rfl <;> rfl) (d_123_13_A6 hl l 1 u _ (by omega) f10 hI f15 f16 f17 f18 f14 (fun h27 f28 f29 f30 f31 f32 f33 f34 => ?_))
  refine am_goX 2 (show am_sh h27 0 = some (10, 0) ∧ pz_S 4 (some .int) am_r123 7 Q 33 [(0, .ref 0), (1, .int (nI e))] [am_rf (h27.2.2.1 0 8)] h27 from ⟨ex_0 f28, ?_⟩)
  rw [show am_rf (h27.2.2.1 0 8) = .ref 41 from congrArg am_rf (ex_r0_8 f28)]
  refine am_goX 1 (show am_sh h27 41 = some (6, 0) ∧ pz_S 4 (some .int) am_r123 7 Q 36 [(0, .ref 0), (1, .int (nI e))] [am_rf (h27.2.2.1 41 4)] h27 from ⟨ex_41 f28, ?_⟩)
  rw [show am_rf (h27.2.2.1 41 4) = .ref 44 from congrArg am_rf (ex_r41_4 f28)]
  refine am_goX 2 (show ∃ jj nn : Nat, am_sh h27 44 = some (13, nn) ∧ jj < nn ∧ nI e = nI jj ∧ pz_S 4 (some .int) am_r123 7 Q 38 [(0, .ref 0), (1, .int (nI e))] [.int (h27.1 44 jj)] h27 from ⟨e, 5, ex_44 f28, (by omega), rfl, ?_⟩)
  rw [show h27.1 44 e = (d_123_13 C l 1 u).2.2.2.2.1 e from (f34.2.2 e (by omega)).1]
  refine am_goX 2 (show am_sh h27 0 = some (10, 0) ∧ pz_S 4 (some .int) am_r123 7 Q 42 [(0, .ref 0), (1, .int (nI e))] [am_rf (h27.2.2.1 0 7), .int ((d_123_13 C l 1 u).2.2.2.2.1 e)] h27 from ⟨ex_0 f28, ?_⟩)
  rw [show am_rf (h27.2.2.1 0 7) = .ref 36 from congrArg am_rf (ex_r0_7 f28)]
  refine am_goX 1 (show am_sh h27 36 = some (6, 0) ∧ pz_S 4 (some .int) am_r123 7 Q 45 [(0, .ref 0), (1, .int (nI e))] [am_rf (h27.2.2.1 36 4), .int ((d_123_13 C l 1 u).2.2.2.2.1 e)] h27 from ⟨ex_36 f28, ?_⟩)
  rw [show am_rf (h27.2.2.1 36 4) = .ref 39 from congrArg am_rf (ex_r36_4 f28)]
  refine am_goX 2 (show ∃ jj nn : Nat, am_sh h27 39 = some (13, nn) ∧ jj < nn ∧ nI e = nI jj ∧ pz_S 4 (some .int) am_r123 7 Q 47 [(0, .ref 0), (1, .int (nI e))] [.int (h27.1 39 jj), .int ((d_123_13 C l 1 u).2.2.2.2.1 e)] h27 from ⟨e, 5, ex_39 f28, (by omega), rfl, ?_⟩)
  rw [show h27.1 39 e = u.2.2.2.2.1 e from (f33.2.2 e (by omega)).1]
  exact am_goX 2 (show (∃ ty, (some .int) = some ty ∧ narrow ty (.int (((d_123_13 C l 1 u).2.2.2.2.1 e) - (u.2.2.2.2.1 e))) = .int (((d_123_13 C l 1 u).2.2.2.2.1 e) - (u.2.2.2.2.1 e))) ∧ h27.2.2.2.2 = 175 ∧ _ from ⟨⟨.int, rfl, rfl⟩, ex_175 f28, hQ _ f28 f29 f30 f31 f32 f33 f34⟩)
def d_131_28 (C : sp_C) (u : dS) (e : Nat) : Nat → Nat → Int32 → Int32 → dS → Int32 → Int32 × Int32 × dS × Int32
  | 0, _, a3, a4, s, kv => (a3, a4, s, kv)
  | m + 1, k, a3, a4, s, kv => d_131_28 C u e m (k + 1) (if (d_123 (setW C e (nI k)) u e 28) ≤ a3 then a3 else d_123 (setW C e (nI k)) u e 28) (if (d_123 (setW C e (nI k)) u e 28) ≤ a3 then a4 else nI k) (d_123_s (setW C e (nI k)) u e 28) (nI k)
theorem d_131_28_A6 (he : e < dE C) : ∀ (m k : Nat) (a3 : Int32) (a4 : Int32) (s : dS) (kv : Int32) (h : am_H), k + m = 7 → (ex_P h) → (cI C) → (c_v 6 C h) → (h.2.2.1 0 3 = some 6) → (sC 36 u h) → (sC 41 s h) → (∀ i, i < dE C → ¬ i = e → h.1 11 i = dW C i) → (h.1 11 e = kv) → (∀ h1, (ex_P h1) → (cI C) → (c_v 6 C h1) → (h1.2.2.1 0 3 = some 6) → (sC 36 u h1) → (sC 41 ((d_131_28 C u e m k a3 a4 s kv).2.2.1) h1) → (∀ i, i < dE C → ¬ i = e → h1.1 11 i = dW C i) → (h1.1 11 e = ((d_131_28 C u e m k a3 a4 s kv).2.2.2)) → pz_S 7 (some .int) am_r131 8 Q 74 [(0, .ref 0), (1, .int (nI e)), (2, .int kw), (4, .int ((d_131_28 C u e m k a3 a4 s kv).2.1))] [] h1) → pz_S 7 (some .int) am_r131 8 Q 28 [(0, .ref 0), (1, .int (nI e)), (2, .int kw), (3, .int a3), (4, .int a4), (5, .int (nI k))] [] h := by
  intro m
  induction m with
  | zero =>
    intro k a3 a4 s kv h hk hP hI hT hR hN hS hE hk hZ
    have h6 := hT.1.2.1
    have h5 := hT.2.1.2.1
    refine am_goX 3 (show (((Int8.ofInt 7).toInt32) ≤ (nI k) → pz_S 7 (some .int) am_r131 8 Q 74 [(0, .ref 0), (1, .int (nI e)), (2, .int kw), (3, .int a3), (4, .int a4), (5, .int (nI k))] [] h) ∧ (¬ (((Int8.ofInt 7).toInt32) ≤ (nI k)) → pz_S 7 (some .int) am_r131 8 Q 35 [(0, .ref 0), (1, .int (nI e)), (2, .int kw), (3, .int a3), (4, .int a4), (5, .int (nI k))] [] h) from ⟨fun _ => ?_, fun hz => absurd (show nI 7 ≤ nI k from nI_le (by omega) (by omega)) hz⟩)
    exact sv_S2 sv2_131 (by intro q hq; simp only [List.mem_cons, List.not_mem_nil, or_false] at hq; rcases hq with rfl | rfl | rfl | rfl <;> rfl) (hZ _ hP hI hT hR hN hS hE hk)
  | succ m ih =>
    intro k a3 a4 s kv h hk hP hI hT hR hN hS hE hk hZ
    have h6 := hT.1.2.1
    have h5 := hT.2.1.2.1
    refine am_goX 3 (show (((Int8.ofInt 7).toInt32) ≤ (nI k) → pz_S 7 (some .int) am_r131 8 Q 74 [(0, .ref 0), (1, .int (nI e)), (2, .int kw), (3, .int a3), (4, .int a4), (5, .int (nI k))] [] h) ∧ (¬ (((Int8.ofInt 7).toInt32) ≤ (nI k)) → pz_S 7 (some .int) am_r131 8 Q 35 [(0, .ref 0), (1, .int (nI e)), (2, .int kw), (3, .int a3), (4, .int a4), (5, .int (nI k))] [] h) from ⟨fun hz => absurd hz (show ¬ (nI 7 ≤ nI k) by rw [nI_leI (by omega) (by omega)]; omega), fun _ => ?_⟩)
    refine am_goX 2 (show am_sh h 0 = some (10, 0) ∧ pz_S 7 (some .int) am_r131 8 Q 39 [(0, .ref 0), (1, .int (nI e)), (2, .int kw), (3, .int a3), (4, .int a4), (5, .int (nI k))] [am_rf (h.2.2.1 0 3)] h from ⟨ex_0 hP, ?_⟩)
    rw [show am_rf (h.2.2.1 0 3) = .ref 6 from congrArg am_rf (hR)]
    refine am_goX 1 (show am_sh h 6 = some (0, 0) ∧ pz_S 7 (some .int) am_r131 8 Q 42 [(0, .ref 0), (1, .int (nI e)), (2, .int kw), (3, .int a3), (4, .int a4), (5, .int (nI k))] [am_rf (h.2.2.1 6 6)] h from ⟨ex_6 hP, ?_⟩)
    rw [show am_rf (h.2.2.1 6 6) = .ref 11 from congrArg am_rf (ex_r6_6 hP)]
    refine am_goX 3 (show ∃ jj nn : Nat, am_so h 11 = some (13, nn) ∧ jj < nn ∧ nI e = nI jj ∧ pz_S 7 (some .int) am_r131 8 Q 46 [(0, .ref 0), (1, .int (nI e)), (2, .int kw), (3, .int a3), (4, .int a4), (5, .int (nI k))] [] (am_wI h 11 jj (nI k)) from ⟨e, 5, ex_w11 hP, (by omega), rfl, ?_⟩)
    have f36 : ex_P (am_wI h 11 e (nI k)) := hP
    have f37 : cI C := hI
    have f38 : c_v 6 C (am_wI h 11 e (nI k)) := c_v_w5 (c := 6) hT
    have f39 : (am_wI h 11 e (nI k)).2.2.1 0 3 = some 6 := hR
    have f40 : sC 36 u (am_wI h 11 e (nI k)) := sC_w (by omega) hN
    have f41 : sC 41 s (am_wI h 11 e (nI k)) := sC_w (by omega) hS
    have f42 : ∀ i, i < dE C → ¬ i = e → (am_wI h 11 e (nI k)).1 11 i = dW C i := fun i hi hn => (em_wn _ _ (by omega)).trans (hE i hi hn)
    have f43 : (am_wI h 11 e (nI k)).1 11 e = (nI k) := em_we _ _ _ _
    generalize am_wI h 11 e (nI k) = h35 at f36 f37 f38 f39 f40 f41 f42 f43 ⊢
    refine am_goX 3 (show pz_S 7 (some .int) am_r131 8 Q 50 [(0, .ref 0), (1, .int (nI e)), (2, .int kw), (3, .int a3), (4, .int a4), (5, .int (nI k))] [.int ((Int8.ofInt 28).toInt32), .int (nI e), .ref 0] h35 from ?_)
    rw [show (Int8.ofInt 28).toInt32 = nI 28 from (show (Int8.ofInt 28).toInt32 = nI 28 by decide)]
    refine am_goX 1 (show am_rc h35 0 10 ∧ 0 ≤ 8 ∧ h35.2.2.2.2 + am_al 123 ≤ 175 ∧ am_call am_cod 8 123 [.ref 0, .int (nI e), .int (nI 28)] h35 (fun vv h' => pz_S 7 (some .int) am_r131 8 Q 53 [(0, .ref 0), (1, .int (nI e)), (2, .int kw), (3, .int a3), (4, .int a4), (5, .int (nI k))] (vv.toList ++ []) h') from ⟨Or.inl ⟨by decide, ex_0 f36⟩, by decide, ex_lim f36 rfl, am_call.up (d_123_A6 (C := (setW C e (nI k))) f36 (cI_W (by omega) f37) f38 (W_d (c := 6) f42 f43) f39 f40 f41 he (by decide) (fun h44 f45 f46 f47 f48 f49 f50 f51 => ?_)) (by decide)⟩)
    have f52 : c_v 6 C h44 := f47
    have f53 : ∀ i, i < dE C → ¬ i = e → h44.1 11 i = dW C i := W_e (c := 6) f48
    have f54 : h44.1 11 e = nI k := W_k (c := 6) he f48
    suffices key : ∀ (v56 : Int32) (v57 : Int32), v56 = (if (d_123 (setW C e (nI k)) u e 28) ≤ a3 then a3 else d_123 (setW C e (nI k)) u e 28) → v57 = (if (d_123 (setW C e (nI k)) u e 28) ≤ a3 then a4 else nI k) → pz_S 7 (some .int) am_r131 8 Q 68 [(0, .ref 0), (1, .int (nI e)), (2, .int kw), (3, .int v56), (4, .int v57), (5, .int (nI k))] [] h44 by
      refine am_goX 4 (show 6 < 7 ∧ ((d_123 (setW C e (nI k)) u e 28) ≤ a3 → pz_S 7 (some .int) am_r131 8 Q 68 [(6, .int (d_123 (setW C e (nI k)) u e 28)), (0, .ref 0), (1, .int (nI e)), (2, .int kw), (3, .int a3), (4, .int a4), (5, .int (nI k))] [] h44) ∧ (¬ ((d_123 (setW C e (nI k)) u e 28) ≤ a3) → pz_S 7 (some .int) am_r131 8 Q 61 [(6, .int (d_123 (setW C e (nI k)) u e 28)), (0, .ref 0), (1, .int (nI e)), (2, .int kw), (3, .int a3), (4, .int a4), (5, .int (nI k))] [] h44) from ⟨by decide, fun c55 => ?_, fun c55 => ?_⟩)
      · exact sv_S2 sv2_131 (by intro q hq; simp only [List.mem_cons, List.not_mem_nil, or_false] at hq; rcases hq with rfl | rfl | rfl | rfl | rfl | rfl <;> rfl) (key _ _ (if_pos c55).symm (if_pos c55).symm)
      · refine am_goX 4 (show 3 < 7 ∧ 4 < 7 ∧ pz_S 7 (some .int) am_r131 8 Q 68 [(4, .int (nI k)), (3, .int (d_123 (setW C e (nI k)) u e 28)), (6, .int (d_123 (setW C e (nI k)) u e 28)), (0, .ref 0), (1, .int (nI e)), (2, .int kw), (5, .int (nI k))] [] h44 from ⟨by decide, by decide, ?_⟩)
        exact sv_S2 sv2_131 (by intro q hq; simp only [List.mem_cons, List.not_mem_nil, or_false] at hq; rcases hq with rfl | rfl | rfl | rfl | rfl | rfl <;> rfl) (key _ _ (if_neg c55).symm (if_neg c55).symm)
    intro v56 v57 e58 e59
    subst e58 e59
    refine am_goX 2 (show 5 < 7 ∧ pz_S 7 (some .int) am_r131 8 Q 28 [(5, .int ((nI k) + (Int32.ofInt 1))), (0, .ref 0), (1, .int (nI e)), (2, .int kw), (3, .int (if (d_123 (setW C e (nI k)) u e 28) ≤ a3 then a3 else d_123 (setW C e (nI k)) u e 28)), (4, .int (if (d_123 (setW C e (nI k)) u e 28) ≤ a3 then a4 else nI k))] [] h44 from ⟨by decide, ?_⟩)
    rw [show (nI k) + (Int32.ofInt 1) = nI (k + 1) from (dn_a rfl rfl)]
    exact sv_S2 sv2_131 (by intro q hq; simp only [List.mem_cons, List.not_mem_nil, or_false] at hq; rcases hq with rfl | rfl | rfl | rfl | rfl | rfl <;> rfl) (ih (k + 1) (if (d_123 (setW C e (nI k)) u e 28) ≤ a3 then a3 else d_123 (setW C e (nI k)) u e 28) (if (d_123 (setW C e (nI k)) u e 28) ≤ a3 then a4 else nI k) (d_123_s (setW C e (nI k)) u e 28) (nI k) _ (by omega) f45 f37 f52 f49 f50 f51 f53 f54 hZ)
def d_131_s (C : sp_C) (u s : dS) (e : Nat) (kv kw : Int32) : dS := (d_131_28 C u e 7 0 (Int32.ofInt (-1)) (Int32.ofInt 0) s kv).2.2.1
def d_131_kv (C : sp_C) (u s : dS) (e : Nat) (kv kw : Int32) : Int32 := kw
def d_131 (C : sp_C) (u s : dS) (e : Nat) (kv kw : Int32) : Int32 := (d_131_28 C u e 7 0 (Int32.ofInt (-1)) (Int32.ofInt 0) s kv).2.1
theorem d_131_A6 (hP : ex_P h) (hI : cI C) (hT : c_v 6 C h) (hR : h.2.2.1 0 3 = some 6) (hN : sC 36 u h) (hS : sC 41 s h) (hE : ∀ i, i < dE C → ¬ i = e → h.1 11 i = dW C i) (hk : h.1 11 e = kv) (he : e < dE C) (hkw : kv = kw) (hQ : ∀ h1, (ex_P h1) → (cI C) → (c_v 6 C h1) → (h1.2.2.1 0 3 = some 6) → (sC 36 u h1) → (sC 41 (d_131_s C u s e kv kw) h1) → (∀ i, i < dE C → ¬ i = e → h1.1 11 i = dW C i) → (h1.1 11 e = (d_131_kv C u s e kv kw)) → Q (some (.int (d_131 C u s e kv kw))) h1) : am_call am_cod 9 131 [.ref 0, .int (nI e)] h Q := by
  have h6 := hT.1.2.1
  have h5 := hT.2.1.2.1
  refine pz_call (n := 131) (nL := 7) (rt := (some .int)) (rows := am_r131) (d := 8) (by decide +kernel) (by decide +kernel) rfl (by funext pc; rfl) (ex_175 hP) (by exact Nat.le_of_ble_eq_true rfl) ?_
  refine am_goX 3 (show am_rc h 0 10 ∧ 0 ≤ 8 ∧ h.2.2.2.2 + am_al 93 ≤ 175 ∧ am_call am_cod 8 93 [.ref 0, .int (nI e)] h (fun vv h' => pz_S 7 (some .int) am_r131 8 Q 5 [(0, .ref 0), (1, .int (nI e))] (vv.toList ++ []) h') from ⟨Or.inl ⟨by decide, ex_0 hP⟩, by decide, ex_lim hP rfl, am_call.up (d_93_t6 hP hT hR ?_) (by decide)⟩)
  rw [show d_93 C (nI e) = Int32.ofInt 1 from (v_93 he h5)]
  refine am_goX 1 (show (¬ (Int32.ofInt 1) = 0 → pz_S 7 (some .int) am_r131 8 Q 10 [(0, .ref 0), (1, .int (nI e))] [] h) ∧ (¬ ¬ (Int32.ofInt 1) = 0 → pz_S 7 (some .int) am_r131 8 Q 8 [(0, .ref 0), (1, .int (nI e))] [] h) from ⟨fun _ => ?_, fun hz => absurd (by decide) hz⟩)
  refine am_goX 2 (show am_sh h 0 = some (10, 0) ∧ pz_S 7 (some .int) am_r131 8 Q 14 [(0, .ref 0), (1, .int (nI e))] [am_rf (h.2.2.1 0 3)] h from ⟨ex_0 hP, ?_⟩)
  rw [show am_rf (h.2.2.1 0 3) = .ref 6 from congrArg am_rf (hR)]
  refine am_goX 1 (show am_sh h 6 = some (0, 0) ∧ pz_S 7 (some .int) am_r131 8 Q 17 [(0, .ref 0), (1, .int (nI e))] [am_rf (h.2.2.1 6 6)] h from ⟨ex_6 hP, ?_⟩)
  rw [show am_rf (h.2.2.1 6 6) = .ref 11 from congrArg am_rf (ex_r6_6 hP)]
  refine am_goX 2 (show ∃ jj nn : Nat, am_sh h 11 = some (13, nn) ∧ jj < nn ∧ nI e = nI jj ∧ pz_S 7 (some .int) am_r131 8 Q 19 [(0, .ref 0), (1, .int (nI e))] [.int (h.1 11 jj)] h from ⟨e, 5, ex_11 hP, (by omega), rfl, ?_⟩)
  rw [show h.1 11 e = kw from hk.trans hkw]
  refine am_goX 7 (show 2 < 7 ∧ 3 < 7 ∧ 4 < 7 ∧ 5 < 7 ∧ pz_S 7 (some .int) am_r131 8 Q 28 [(5, .int (Int32.ofInt 0)), (4, .int (Int32.ofInt 0)), (3, .int (Int32.ofInt (-1))), (2, .int kw), (0, .ref 0), (1, .int (nI e))] [] h from ⟨by decide, by decide, by decide, by decide, ?_⟩)
  refine sv_S2 sv2_131 (by intro q hq; simp only [List.mem_cons, List.not_mem_nil, or_false] at hq; rcases hq with rfl | rfl | rfl | rfl | rfl | rfl <;> rfl) (d_131_28_A6 he 7 0 (Int32.ofInt (-1)) (Int32.ofInt 0) s kv _ (by omega) hP hI hT hR hN hS hE hk (fun h60 f61 f62 f63 f64 f65 f66 f67 f68 => ?_))
  refine am_goX 2 (show am_sh h60 0 = some (10, 0) ∧ pz_S 7 (some .int) am_r131 8 Q 78 [(0, .ref 0), (1, .int (nI e)), (2, .int kw), (4, .int ((d_131_28 C u e 7 0 (Int32.ofInt (-1)) (Int32.ofInt 0) s kv).2.1))] [am_rf (h60.2.2.1 0 3)] h60 from ⟨ex_0 f61, ?_⟩)
  rw [show am_rf (h60.2.2.1 0 3) = .ref 6 from congrArg am_rf (f64)]
  refine am_goX 1 (show am_sh h60 6 = some (0, 0) ∧ pz_S 7 (some .int) am_r131 8 Q 81 [(0, .ref 0), (1, .int (nI e)), (2, .int kw), (4, .int ((d_131_28 C u e 7 0 (Int32.ofInt (-1)) (Int32.ofInt 0) s kv).2.1))] [am_rf (h60.2.2.1 6 6)] h60 from ⟨ex_6 f61, ?_⟩)
  rw [show am_rf (h60.2.2.1 6 6) = .ref 11 from congrArg am_rf (ex_r6_6 f61)]
  refine am_goX 3 (show ∃ jj nn : Nat, am_so h60 11 = some (13, nn) ∧ jj < nn ∧ nI e = nI jj ∧ pz_S 7 (some .int) am_r131 8 Q 84 [(0, .ref 0), (1, .int (nI e)), (2, .int kw), (4, .int ((d_131_28 C u e 7 0 (Int32.ofInt (-1)) (Int32.ofInt 0) s kv).2.1))] [] (am_wI h60 11 jj kw) from ⟨e, 5, ex_w11 f61, (by omega), rfl, ?_⟩)
  have f70 : ex_P (am_wI h60 11 e kw) := f61
  have f71 : cI C := f62
  have f72 : c_v 6 C (am_wI h60 11 e kw) := c_v_w5 (c := 6) f63
  have f73 : (am_wI h60 11 e kw).2.2.1 0 3 = some 6 := f64
  have f74 : sC 36 u (am_wI h60 11 e kw) := sC_w (by omega) f65
  have f75 : sC 41 ((d_131_28 C u e 7 0 (Int32.ofInt (-1)) (Int32.ofInt 0) s kv).2.2.1) (am_wI h60 11 e kw) := sC_w (by omega) f66
  have f76 : ∀ i, i < dE C → ¬ i = e → (am_wI h60 11 e kw).1 11 i = dW C i := fun i hi hn => (em_wn _ _ (by omega)).trans (f67 i hi hn)
  have f77 : (am_wI h60 11 e kw).1 11 e = kw := em_we _ _ _ _
  generalize am_wI h60 11 e kw = h69 at f70 f71 f72 f73 f74 f75 f76 f77 ⊢
  exact am_goX 2 (show (∃ ty, (some .int) = some ty ∧ narrow ty (.int ((d_131_28 C u e 7 0 (Int32.ofInt (-1)) (Int32.ofInt 0) s kv).2.1)) = .int ((d_131_28 C u e 7 0 (Int32.ofInt (-1)) (Int32.ofInt 0) s kv).2.1)) ∧ h69.2.2.2.2 = 175 ∧ _ from ⟨⟨.int, rfl, rfl⟩, ex_175 f70, hQ _ f70 f71 f72 f73 f74 f75 f76 f77⟩)
def d_131x  : Int32 := Int32.ofInt (-1)
theorem d_131_xA6 (hP : ex_P h) (hI : cI C) (hT : c_v 6 C h) (hD : c_d 6 C h) (hR : h.2.2.1 0 3 = some 6) (hN : sC 36 u h) (hS : sC 41 s h) (ey : d_93 C y = Int32.ofInt 0) (hQ : ∀ h1, (ex_P h1) → (cI C) → (c_v 6 C h1) → (c_d 6 C h1) → (h1.2.2.1 0 3 = some 6) → (sC 36 u h1) → (sC 41 s h1) → Q (some (.int d_131x)) h1) : am_call am_cod 9 131 [.ref 0, .int y] h Q := by
  have h6 := hT.1.2.1
  have h5 := hT.2.1.2.1
  refine pz_call (n := 131) (nL := 7) (rt := (some .int)) (rows := am_r131) (d := 8) (by decide +kernel) (by decide +kernel) rfl (by funext pc; rfl) (ex_175 hP) (by exact Nat.le_of_ble_eq_true rfl) ?_
  refine am_goX 3 (show am_rc h 0 10 ∧ 0 ≤ 8 ∧ h.2.2.2.2 + am_al 93 ≤ 175 ∧ am_call am_cod 8 93 [.ref 0, .int y] h (fun vv h' => pz_S 7 (some .int) am_r131 8 Q 5 [(0, .ref 0), (1, .int y)] (vv.toList ++ []) h') from ⟨Or.inl ⟨by decide, ex_0 hP⟩, by decide, ex_lim hP rfl, am_call.up (d_93_t6 hP hT hR ?_) (by decide)⟩)
  rw [show d_93 C y = Int32.ofInt 0 from ey]
  refine am_goX 1 (show (¬ (Int32.ofInt 0) = 0 → pz_S 7 (some .int) am_r131 8 Q 10 [(0, .ref 0), (1, .int y)] [] h) ∧ (¬ ¬ (Int32.ofInt 0) = 0 → pz_S 7 (some .int) am_r131 8 Q 8 [(0, .ref 0), (1, .int y)] [] h) from ⟨fun hz => absurd hz (by decide), fun _ => ?_⟩)
  exact am_goX 2 (show (∃ ty, (some .int) = some ty ∧ narrow ty (.int (Int32.ofInt (-1))) = .int (Int32.ofInt (-1))) ∧ h.2.2.2.2 = 175 ∧ _ from ⟨⟨.int, rfl, rfl⟩, ex_175 hP, hQ _ hP hI hT hD hR hN hS⟩)
theorem d_118_A17 (hP : ex_P h) (hI : cI C) (hT : c_v 17 C h) (hD : c_d 17 C h) (hR : h.2.2.1 0 3 = some 17) (hN : sC 36 u h) (hS : sC 41 s h)  (hQ : ∀ h1, (ex_P h1) → (cI C) → (c_v 17 C h1) → (c_d 17 C h1) → (h1.2.2.1 0 3 = some 17) → (sC 36 u h1) → (sC 41 (d_118_s C s) h1) → Q (some (.int (d_118 C s))) h1) : am_call am_cod 7 118 [.ref 0] h Q := by
  have h6 := hT.1.2.1
  have h5 := hT.2.1.2.1
  refine pz_call (n := 118) (nL := 1) (rt := (some .int)) (rows := am_r118) (d := 6) (by decide +kernel) (by decide +kernel) rfl (by funext pc; rfl) (ex_175 hP) (by exact Nat.le_of_ble_eq_true rfl) ?_
  refine am_goX 2 (show am_sh h 0 = some (10, 0) ∧ pz_S 1 (some .int) am_r118 6 Q 4 [(0, .ref 0)] [am_rf (h.2.2.1 0 3)] h from ⟨ex_0 hP, ?_⟩)
  rw [show am_rf (h.2.2.1 0 3) = .ref 17 from congrArg am_rf (hR)]
  refine am_goX 2 (show am_sh h 0 = some (10, 0) ∧ pz_S 1 (some .int) am_r118 6 Q 8 [(0, .ref 0)] [am_rf (h.2.2.1 0 8), .ref 17] h from ⟨ex_0 hP, ?_⟩)
  rw [show am_rf (h.2.2.1 0 8) = .ref 41 from congrArg am_rf (ex_r0_8 hP)]
  refine am_goX 2 (show am_sh h 0 = some (10, 0) ∧ pz_S 1 (some .int) am_r118 6 Q 12 [(0, .ref 0)] [am_rf (h.2.2.1 0 3), .ref 41, .ref 17] h from ⟨ex_0 hP, ?_⟩)
  rw [show am_rf (h.2.2.1 0 3) = .ref 17 from congrArg am_rf (hR)]
  refine am_goX 2 (show am_sh h 0 = some (10, 0) ∧ pz_S 1 (some .int) am_r118 6 Q 16 [(0, .ref 0)] [am_rf (h.2.2.1 0 8), .ref 17, .ref 41, .ref 17] h from ⟨ex_0 hP, ?_⟩)
  rw [show am_rf (h.2.2.1 0 8) = .ref 41 from congrArg am_rf (ex_r0_8 hP)]
  refine am_goX 1 (show am_sh h 41 = some (6, 0) ∧ pz_S 1 (some .int) am_r118 6 Q 19 [(0, .ref 0)] [.int (h.1 41 0), .ref 17, .ref 41, .ref 17] h from ⟨ex_41 hP, ?_⟩)
  rw [show h.1 41 0 = s.1 from hS.1.1]
  refine am_goX 3 (show am_rc h 17 0 ∧ 2 ≤ 8 ∧ h.2.2.2.2 + am_al 68 ≤ 175 ∧ am_call am_cod 6 68 [.ref 17, .int (s.1 + (Int32.ofInt 1))] h (fun vv h' => pz_S 1 (some .int) am_r118 6 Q 24 [(0, .ref 0)] (vv.toList ++ [.ref 41, .ref 17]) h') from ⟨Or.inl ⟨by decide, ex_17 hP⟩, by decide, ex_lim hP rfl, am_call.up (d_68_t17 hP hT ?_) (by decide)⟩)
  refine am_goX 1 (show am_rc h 17 0 ∧ 0 ≤ 8 ∧ h.2.2.2.2 + am_al 100 ≤ 175 ∧ am_call am_cod 6 100 [.ref 17, .ref 41, .int (d_68 C (s.1 + (Int32.ofInt 1)))] h (fun vv h' => pz_S 1 (some .int) am_r118 6 Q 27 [(0, .ref 0)] (vv.toList ++ []) h') from ⟨Or.inl ⟨by decide, ex_17 hP⟩, by decide, ex_lim hP rfl, am_call.up (d_100_t17_41 hP hI hT hD hR hN hS (fun h78 f79 f80 f81 f82 f83 f84 f85 => ?_)) (by decide)⟩)
  exact am_goX 1 (show (∃ ty, (some .int) = some ty ∧ narrow ty (.int (d_100 C s (d_68 C (s.1 + (Int32.ofInt 1))))) = .int (d_100 C s (d_68 C (s.1 + (Int32.ofInt 1))))) ∧ h78.2.2.2.2 = 175 ∧ _ from ⟨⟨.int, rfl, rfl⟩, ex_175 f79, hQ _ f79 f80 f81 f82 f83 f84 f85⟩)
theorem d_123_13_A17 (hl : l ≤ 60) : ∀ (m k : Nat) (s : dS) (h : am_H), k + m = l + 1 → (ex_P h) → (cI C) → (c_v 17 C h) → (c_d 17 C h) → (h.2.2.1 0 3 = some 17) → (sC 36 u h) → (sC 41 s h) → (∀ h1, (ex_P h1) → (cI C) → (c_v 17 C h1) → (c_d 17 C h1) → (h1.2.2.1 0 3 = some 17) → (sC 36 u h1) → (sC 41 (d_123_13 C m k s) h1) → pz_S 4 (some .int) am_r123 7 Q 29 [(0, .ref 0), (1, .int (nI e))] [] h1) → pz_S 4 (some .int) am_r123 7 Q 13 [(0, .ref 0), (1, .int (nI e)), (2, .int (nI l)), (3, .int (nI k))] [] h := by
  intro m
  induction m with
  | zero =>
    intro k s h hk hP hI hT hD hR hN hS hZ
    have h6 := hT.1.2.1
    have h5 := hT.2.1.2.1
    refine am_goX 3 (show ((nI l) < (nI k) → pz_S 4 (some .int) am_r123 7 Q 29 [(0, .ref 0), (1, .int (nI e)), (2, .int (nI l)), (3, .int (nI k))] [] h) ∧ (¬ ((nI l) < (nI k)) → pz_S 4 (some .int) am_r123 7 Q 18 [(0, .ref 0), (1, .int (nI e)), (2, .int (nI l)), (3, .int (nI k))] [] h) from ⟨fun _ => ?_, fun hz => absurd (show nI l < nI k from nI_lt (by omega) (by omega)) hz⟩)
    exact sv_S2 sv2_123 (by intro q hq; simp only [List.mem_cons, List.not_mem_nil, or_false] at hq; rcases hq with rfl | rfl <;> rfl) (hZ _ hP hI hT hD hR hN hS)
  | succ m ih =>
    intro k s h hk hP hI hT hD hR hN hS hZ
    have h6 := hT.1.2.1
    have h5 := hT.2.1.2.1
    refine am_goX 3 (show ((nI l) < (nI k) → pz_S 4 (some .int) am_r123 7 Q 29 [(0, .ref 0), (1, .int (nI e)), (2, .int (nI l)), (3, .int (nI k))] [] h) ∧ (¬ ((nI l) < (nI k)) → pz_S 4 (some .int) am_r123 7 Q 18 [(0, .ref 0), (1, .int (nI e)), (2, .int (nI l)), (3, .int (nI k))] [] h) from ⟨fun hz => absurd hz (show ¬ (nI l < nI k) by rw [nI_ltI (by omega) (by omega)]; omega), fun _ => ?_⟩)
    refine am_goX 2 (show am_rc h 0 10 ∧ 0 ≤ 8 ∧ h.2.2.2.2 + am_al 118 ≤ 175 ∧ am_call am_cod 7 118 [.ref 0] h (fun vv h' => pz_S 4 (some .int) am_r123 7 Q 22 [(0, .ref 0), (1, .int (nI e)), (2, .int (nI l)), (3, .int (nI k))] (vv.toList ++ []) h') from ⟨Or.inl ⟨by decide, ex_0 hP⟩, by decide, ex_lim hP rfl, am_call.up (d_118_A17 hP hI hT hD hR hN hS (fun h96 f97 f98 f99 f100 f101 f102 f103 => ?_)) (by decide)⟩)
    refine am_goX 3 (show (Value.int (d_118 C s)).category = 1 ∧ 3 < 4 ∧ pz_S 4 (some .int) am_r123 7 Q 13 [(3, .int ((nI k) + (Int32.ofInt 1))), (0, .ref 0), (1, .int (nI e)), (2, .int (nI l))] [] h96 from ⟨rfl, by decide, ?_⟩)
    rw [show (nI k) + (Int32.ofInt 1) = nI (k + 1) from (dn_a rfl rfl)]
    exact sv_S2 sv2_123 (by intro q hq; simp only [List.mem_cons, List.not_mem_nil, or_false] at hq; rcases hq with rfl | rfl | rfl | rfl <;> rfl) (ih (k + 1) (d_118_s C s) _ (by omega) f97 f98 f99 f100 f101 f102 f103 hZ)
theorem d_123_A17 (hP : ex_P h) (hI : cI C) (hT : c_v 17 C h) (hD : c_d 17 C h) (hR : h.2.2.1 0 3 = some 17) (hN : sC 36 u h) (hS : sC 41 s h) (he : e < dE C) (hl : l ≤ 60) (hQ : ∀ h1, (ex_P h1) → (cI C) → (c_v 17 C h1) → (c_d 17 C h1) → (h1.2.2.1 0 3 = some 17) → (sC 36 u h1) → (sC 41 (d_123_s C u e l) h1) → Q (some (.int (d_123 C u e l))) h1) : am_call am_cod 8 123 [.ref 0, .int (nI e), .int (nI l)] h Q := by
  have h6 := hT.1.2.1
  have h5 := hT.2.1.2.1
  refine pz_call (n := 123) (nL := 4) (rt := (some .int)) (rows := am_r123) (d := 7) (by decide +kernel) (by decide +kernel) rfl (by funext pc; rfl) (ex_175 hP) (by exact Nat.le_of_ble_eq_true rfl) ?_
  refine am_goX 2 (show am_sh h 0 = some (10, 0) ∧ pz_S 4 (some .int) am_r123 7 Q 4 [(0, .ref 0), (1, .int (nI e)), (2, .int (nI l))] [am_rf (h.2.2.1 0 8)] h from ⟨ex_0 hP, ?_⟩)
  rw [show am_rf (h.2.2.1 0 8) = .ref 41 from congrArg am_rf (ex_r0_8 hP)]
  refine am_goX 2 (show am_sh h 0 = some (10, 0) ∧ pz_S 4 (some .int) am_r123 7 Q 8 [(0, .ref 0), (1, .int (nI e)), (2, .int (nI l))] [am_rf (h.2.2.1 0 7), .ref 41] h from ⟨ex_0 hP, ?_⟩)
  rw [show am_rf (h.2.2.1 0 7) = .ref 36 from congrArg am_rf (ex_r0_7 hP)]
  refine am_goX 1 (show am_rc h 41 6 ∧ 0 ≤ 8 ∧ h.2.2.2.2 + am_al 99 ≤ 175 ∧ am_call am_cod 7 99 [.ref 41, .ref 36] h (fun vv h' => pz_S 4 (some .int) am_r123 7 Q 11 [(0, .ref 0), (1, .int (nI e)), (2, .int (nI l))] (vv.toList ++ []) h') from ⟨Or.inl ⟨by decide, ex_41 hP⟩, by decide, ex_lim hP rfl, am_call.up (q_99 stO_41 stO_36 (by decide) hP (fun h86 f87 f88 f89 f90 => ?_)) (by decide)⟩)
  have f91 : sC 41 u h86 := sC_cp f90 hN
  have f92 : c_v 17 C h86 := c_v_fr (fun a k u1 u2 => f89 a k (by omega)) hT
  have f93 : c_d 17 C h86 := c_d_fr (fun k => f89 _ k (by omega)) hD
  have f94 : h86.2.2.1 0 3 = some 17 := (congrArg (fun q => q.2.1 0 3) f88).trans hR
  have f95 : sC 36 u h86 := sC_fr (fun a k u1 u2 => f89 a k (by omega)) hN
  refine am_goX 2 (show 3 < 4 ∧ pz_S 4 (some .int) am_r123 7 Q 13 [(3, .int (Int32.ofInt 1)), (0, .ref 0), (1, .int (nI e)), (2, .int (nI l))] [] h86 from ⟨by decide, ?_⟩)
  refine sv_S2 sv2_123 (by intro q hq; simp only [List.mem_cons, List.not_mem_nil, or_false] at hq; rcases hq with rfl | rfl | rfl | rfl <;> rfl) (d_123_13_A17 hl l 1 u _ (by omega) f87 hI f92 f93 f94 f95 f91 (fun h104 f105 f106 f107 f108 f109 f110 f111 => ?_))
  refine am_goX 2 (show am_sh h104 0 = some (10, 0) ∧ pz_S 4 (some .int) am_r123 7 Q 33 [(0, .ref 0), (1, .int (nI e))] [am_rf (h104.2.2.1 0 8)] h104 from ⟨ex_0 f105, ?_⟩)
  rw [show am_rf (h104.2.2.1 0 8) = .ref 41 from congrArg am_rf (ex_r0_8 f105)]
  refine am_goX 1 (show am_sh h104 41 = some (6, 0) ∧ pz_S 4 (some .int) am_r123 7 Q 36 [(0, .ref 0), (1, .int (nI e))] [am_rf (h104.2.2.1 41 4)] h104 from ⟨ex_41 f105, ?_⟩)
  rw [show am_rf (h104.2.2.1 41 4) = .ref 44 from congrArg am_rf (ex_r41_4 f105)]
  refine am_goX 2 (show ∃ jj nn : Nat, am_sh h104 44 = some (13, nn) ∧ jj < nn ∧ nI e = nI jj ∧ pz_S 4 (some .int) am_r123 7 Q 38 [(0, .ref 0), (1, .int (nI e))] [.int (h104.1 44 jj)] h104 from ⟨e, 5, ex_44 f105, (by omega), rfl, ?_⟩)
  rw [show h104.1 44 e = (d_123_13 C l 1 u).2.2.2.2.1 e from (f111.2.2 e (by omega)).1]
  refine am_goX 2 (show am_sh h104 0 = some (10, 0) ∧ pz_S 4 (some .int) am_r123 7 Q 42 [(0, .ref 0), (1, .int (nI e))] [am_rf (h104.2.2.1 0 7), .int ((d_123_13 C l 1 u).2.2.2.2.1 e)] h104 from ⟨ex_0 f105, ?_⟩)
  rw [show am_rf (h104.2.2.1 0 7) = .ref 36 from congrArg am_rf (ex_r0_7 f105)]
  refine am_goX 1 (show am_sh h104 36 = some (6, 0) ∧ pz_S 4 (some .int) am_r123 7 Q 45 [(0, .ref 0), (1, .int (nI e))] [am_rf (h104.2.2.1 36 4), .int ((d_123_13 C l 1 u).2.2.2.2.1 e)] h104 from ⟨ex_36 f105, ?_⟩)
  rw [show am_rf (h104.2.2.1 36 4) = .ref 39 from congrArg am_rf (ex_r36_4 f105)]
  refine am_goX 2 (show ∃ jj nn : Nat, am_sh h104 39 = some (13, nn) ∧ jj < nn ∧ nI e = nI jj ∧ pz_S 4 (some .int) am_r123 7 Q 47 [(0, .ref 0), (1, .int (nI e))] [.int (h104.1 39 jj), .int ((d_123_13 C l 1 u).2.2.2.2.1 e)] h104 from ⟨e, 5, ex_39 f105, (by omega), rfl, ?_⟩)
  rw [show h104.1 39 e = u.2.2.2.2.1 e from (f110.2.2 e (by omega)).1]
  exact am_goX 2 (show (∃ ty, (some .int) = some ty ∧ narrow ty (.int (((d_123_13 C l 1 u).2.2.2.2.1 e) - (u.2.2.2.2.1 e))) = .int (((d_123_13 C l 1 u).2.2.2.2.1 e) - (u.2.2.2.2.1 e))) ∧ h104.2.2.2.2 = 175 ∧ _ from ⟨⟨.int, rfl, rfl⟩, ex_175 f105, hQ _ f105 f106 f107 f108 f109 f110 f111⟩)
theorem d_131_28_A17 (he : e < dE C) : ∀ (m k : Nat) (a3 : Int32) (a4 : Int32) (s : dS) (kv : Int32) (h : am_H), k + m = 7 → (ex_P h) → (cI C) → (c_v 17 C h) → (h.2.2.1 0 3 = some 17) → (sC 36 u h) → (sC 41 s h) → (∀ i, i < dE C → ¬ i = e → h.1 22 i = dW C i) → (h.1 22 e = kv) → (∀ h1, (ex_P h1) → (cI C) → (c_v 17 C h1) → (h1.2.2.1 0 3 = some 17) → (sC 36 u h1) → (sC 41 ((d_131_28 C u e m k a3 a4 s kv).2.2.1) h1) → (∀ i, i < dE C → ¬ i = e → h1.1 22 i = dW C i) → (h1.1 22 e = ((d_131_28 C u e m k a3 a4 s kv).2.2.2)) → pz_S 7 (some .int) am_r131 8 Q 74 [(0, .ref 0), (1, .int (nI e)), (2, .int kw), (4, .int ((d_131_28 C u e m k a3 a4 s kv).2.1))] [] h1) → pz_S 7 (some .int) am_r131 8 Q 28 [(0, .ref 0), (1, .int (nI e)), (2, .int kw), (3, .int a3), (4, .int a4), (5, .int (nI k))] [] h := by
  intro m
  induction m with
  | zero =>
    intro k a3 a4 s kv h hk hP hI hT hR hN hS hE hk hZ
    have h6 := hT.1.2.1
    have h5 := hT.2.1.2.1
    refine am_goX 3 (show (((Int8.ofInt 7).toInt32) ≤ (nI k) → pz_S 7 (some .int) am_r131 8 Q 74 [(0, .ref 0), (1, .int (nI e)), (2, .int kw), (3, .int a3), (4, .int a4), (5, .int (nI k))] [] h) ∧ (¬ (((Int8.ofInt 7).toInt32) ≤ (nI k)) → pz_S 7 (some .int) am_r131 8 Q 35 [(0, .ref 0), (1, .int (nI e)), (2, .int kw), (3, .int a3), (4, .int a4), (5, .int (nI k))] [] h) from ⟨fun _ => ?_, fun hz => absurd (show nI 7 ≤ nI k from nI_le (by omega) (by omega)) hz⟩)
    exact sv_S2 sv2_131 (by intro q hq; simp only [List.mem_cons, List.not_mem_nil, or_false] at hq; rcases hq with rfl | rfl | rfl | rfl <;> rfl) (hZ _ hP hI hT hR hN hS hE hk)
  | succ m ih =>
    intro k a3 a4 s kv h hk hP hI hT hR hN hS hE hk hZ
    have h6 := hT.1.2.1
    have h5 := hT.2.1.2.1
    refine am_goX 3 (show (((Int8.ofInt 7).toInt32) ≤ (nI k) → pz_S 7 (some .int) am_r131 8 Q 74 [(0, .ref 0), (1, .int (nI e)), (2, .int kw), (3, .int a3), (4, .int a4), (5, .int (nI k))] [] h) ∧ (¬ (((Int8.ofInt 7).toInt32) ≤ (nI k)) → pz_S 7 (some .int) am_r131 8 Q 35 [(0, .ref 0), (1, .int (nI e)), (2, .int kw), (3, .int a3), (4, .int a4), (5, .int (nI k))] [] h) from ⟨fun hz => absurd hz (show ¬ (nI 7 ≤ nI k) by rw [nI_leI (by omega) (by omega)]; omega), fun _ => ?_⟩)
    refine am_goX 2 (show am_sh h 0 = some (10, 0) ∧ pz_S 7 (some .int) am_r131 8 Q 39 [(0, .ref 0), (1, .int (nI e)), (2, .int kw), (3, .int a3), (4, .int a4), (5, .int (nI k))] [am_rf (h.2.2.1 0 3)] h from ⟨ex_0 hP, ?_⟩)
    rw [show am_rf (h.2.2.1 0 3) = .ref 17 from congrArg am_rf (hR)]
    refine am_goX 1 (show am_sh h 17 = some (0, 0) ∧ pz_S 7 (some .int) am_r131 8 Q 42 [(0, .ref 0), (1, .int (nI e)), (2, .int kw), (3, .int a3), (4, .int a4), (5, .int (nI k))] [am_rf (h.2.2.1 17 6)] h from ⟨ex_17 hP, ?_⟩)
    rw [show am_rf (h.2.2.1 17 6) = .ref 22 from congrArg am_rf (ex_r17_6 hP)]
    refine am_goX 3 (show ∃ jj nn : Nat, am_so h 22 = some (13, nn) ∧ jj < nn ∧ nI e = nI jj ∧ pz_S 7 (some .int) am_r131 8 Q 46 [(0, .ref 0), (1, .int (nI e)), (2, .int kw), (3, .int a3), (4, .int a4), (5, .int (nI k))] [] (am_wI h 22 jj (nI k)) from ⟨e, 5, ex_w22 hP, (by omega), rfl, ?_⟩)
    have f113 : ex_P (am_wI h 22 e (nI k)) := hP
    have f114 : cI C := hI
    have f115 : c_v 17 C (am_wI h 22 e (nI k)) := c_v_w5 (c := 17) hT
    have f116 : (am_wI h 22 e (nI k)).2.2.1 0 3 = some 17 := hR
    have f117 : sC 36 u (am_wI h 22 e (nI k)) := sC_w (by omega) hN
    have f118 : sC 41 s (am_wI h 22 e (nI k)) := sC_w (by omega) hS
    have f119 : ∀ i, i < dE C → ¬ i = e → (am_wI h 22 e (nI k)).1 22 i = dW C i := fun i hi hn => (em_wn _ _ (by omega)).trans (hE i hi hn)
    have f120 : (am_wI h 22 e (nI k)).1 22 e = (nI k) := em_we _ _ _ _
    generalize am_wI h 22 e (nI k) = h112 at f113 f114 f115 f116 f117 f118 f119 f120 ⊢
    refine am_goX 3 (show pz_S 7 (some .int) am_r131 8 Q 50 [(0, .ref 0), (1, .int (nI e)), (2, .int kw), (3, .int a3), (4, .int a4), (5, .int (nI k))] [.int ((Int8.ofInt 28).toInt32), .int (nI e), .ref 0] h112 from ?_)
    rw [show (Int8.ofInt 28).toInt32 = nI 28 from (show (Int8.ofInt 28).toInt32 = nI 28 by decide)]
    refine am_goX 1 (show am_rc h112 0 10 ∧ 0 ≤ 8 ∧ h112.2.2.2.2 + am_al 123 ≤ 175 ∧ am_call am_cod 8 123 [.ref 0, .int (nI e), .int (nI 28)] h112 (fun vv h' => pz_S 7 (some .int) am_r131 8 Q 53 [(0, .ref 0), (1, .int (nI e)), (2, .int kw), (3, .int a3), (4, .int a4), (5, .int (nI k))] (vv.toList ++ []) h') from ⟨Or.inl ⟨by decide, ex_0 f113⟩, by decide, ex_lim f113 rfl, am_call.up (d_123_A17 (C := (setW C e (nI k))) f113 (cI_W (by omega) f114) f115 (W_d (c := 17) f119 f120) f116 f117 f118 he (by decide) (fun h121 f122 f123 f124 f125 f126 f127 f128 => ?_)) (by decide)⟩)
    have f129 : c_v 17 C h121 := f124
    have f130 : ∀ i, i < dE C → ¬ i = e → h121.1 22 i = dW C i := W_e (c := 17) f125
    have f131 : h121.1 22 e = nI k := W_k (c := 17) he f125
    suffices key : ∀ (v133 : Int32) (v134 : Int32), v133 = (if (d_123 (setW C e (nI k)) u e 28) ≤ a3 then a3 else d_123 (setW C e (nI k)) u e 28) → v134 = (if (d_123 (setW C e (nI k)) u e 28) ≤ a3 then a4 else nI k) → pz_S 7 (some .int) am_r131 8 Q 68 [(0, .ref 0), (1, .int (nI e)), (2, .int kw), (3, .int v133), (4, .int v134), (5, .int (nI k))] [] h121 by
      refine am_goX 4 (show 6 < 7 ∧ ((d_123 (setW C e (nI k)) u e 28) ≤ a3 → pz_S 7 (some .int) am_r131 8 Q 68 [(6, .int (d_123 (setW C e (nI k)) u e 28)), (0, .ref 0), (1, .int (nI e)), (2, .int kw), (3, .int a3), (4, .int a4), (5, .int (nI k))] [] h121) ∧ (¬ ((d_123 (setW C e (nI k)) u e 28) ≤ a3) → pz_S 7 (some .int) am_r131 8 Q 61 [(6, .int (d_123 (setW C e (nI k)) u e 28)), (0, .ref 0), (1, .int (nI e)), (2, .int kw), (3, .int a3), (4, .int a4), (5, .int (nI k))] [] h121) from ⟨by decide, fun c132 => ?_, fun c132 => ?_⟩)
      · exact sv_S2 sv2_131 (by intro q hq; simp only [List.mem_cons, List.not_mem_nil, or_false] at hq; rcases hq with rfl | rfl | rfl | rfl | rfl | rfl <;> rfl) (key _ _ (if_pos c132).symm (if_pos c132).symm)
      · refine am_goX 4 (show 3 < 7 ∧ 4 < 7 ∧ pz_S 7 (some .int) am_r131 8 Q 68 [(4, .int (nI k)), (3, .int (d_123 (setW C e (nI k)) u e 28)), (6, .int (d_123 (setW C e (nI k)) u e 28)), (0, .ref 0), (1, .int (nI e)), (2, .int kw), (5, .int (nI k))] [] h121 from ⟨by decide, by decide, ?_⟩)
        exact sv_S2 sv2_131 (by intro q hq; simp only [List.mem_cons, List.not_mem_nil, or_false] at hq; rcases hq with rfl | rfl | rfl | rfl | rfl | rfl <;> rfl) (key _ _ (if_neg c132).symm (if_neg c132).symm)
    intro v133 v134 e135 e136
    subst e135 e136
    refine am_goX 2 (show 5 < 7 ∧ pz_S 7 (some .int) am_r131 8 Q 28 [(5, .int ((nI k) + (Int32.ofInt 1))), (0, .ref 0), (1, .int (nI e)), (2, .int kw), (3, .int (if (d_123 (setW C e (nI k)) u e 28) ≤ a3 then a3 else d_123 (setW C e (nI k)) u e 28)), (4, .int (if (d_123 (setW C e (nI k)) u e 28) ≤ a3 then a4 else nI k))] [] h121 from ⟨by decide, ?_⟩)
    rw [show (nI k) + (Int32.ofInt 1) = nI (k + 1) from (dn_a rfl rfl)]
    exact sv_S2 sv2_131 (by intro q hq; simp only [List.mem_cons, List.not_mem_nil, or_false] at hq; rcases hq with rfl | rfl | rfl | rfl | rfl | rfl <;> rfl) (ih (k + 1) (if (d_123 (setW C e (nI k)) u e 28) ≤ a3 then a3 else d_123 (setW C e (nI k)) u e 28) (if (d_123 (setW C e (nI k)) u e 28) ≤ a3 then a4 else nI k) (d_123_s (setW C e (nI k)) u e 28) (nI k) _ (by omega) f122 f114 f129 f126 f127 f128 f130 f131 hZ)
theorem d_131_A17 (hP : ex_P h) (hI : cI C) (hT : c_v 17 C h) (hR : h.2.2.1 0 3 = some 17) (hN : sC 36 u h) (hS : sC 41 s h) (hE : ∀ i, i < dE C → ¬ i = e → h.1 22 i = dW C i) (hk : h.1 22 e = kv) (he : e < dE C) (hkw : kv = kw) (hQ : ∀ h1, (ex_P h1) → (cI C) → (c_v 17 C h1) → (h1.2.2.1 0 3 = some 17) → (sC 36 u h1) → (sC 41 (d_131_s C u s e kv kw) h1) → (∀ i, i < dE C → ¬ i = e → h1.1 22 i = dW C i) → (h1.1 22 e = (d_131_kv C u s e kv kw)) → Q (some (.int (d_131 C u s e kv kw))) h1) : am_call am_cod 9 131 [.ref 0, .int (nI e)] h Q := by
  have h6 := hT.1.2.1
  have h5 := hT.2.1.2.1
  refine pz_call (n := 131) (nL := 7) (rt := (some .int)) (rows := am_r131) (d := 8) (by decide +kernel) (by decide +kernel) rfl (by funext pc; rfl) (ex_175 hP) (by exact Nat.le_of_ble_eq_true rfl) ?_
  refine am_goX 3 (show am_rc h 0 10 ∧ 0 ≤ 8 ∧ h.2.2.2.2 + am_al 93 ≤ 175 ∧ am_call am_cod 8 93 [.ref 0, .int (nI e)] h (fun vv h' => pz_S 7 (some .int) am_r131 8 Q 5 [(0, .ref 0), (1, .int (nI e))] (vv.toList ++ []) h') from ⟨Or.inl ⟨by decide, ex_0 hP⟩, by decide, ex_lim hP rfl, am_call.up (d_93_t17 hP hT hR ?_) (by decide)⟩)
  rw [show d_93 C (nI e) = Int32.ofInt 1 from (v_93 he h5)]
  refine am_goX 1 (show (¬ (Int32.ofInt 1) = 0 → pz_S 7 (some .int) am_r131 8 Q 10 [(0, .ref 0), (1, .int (nI e))] [] h) ∧ (¬ ¬ (Int32.ofInt 1) = 0 → pz_S 7 (some .int) am_r131 8 Q 8 [(0, .ref 0), (1, .int (nI e))] [] h) from ⟨fun _ => ?_, fun hz => absurd (by decide) hz⟩)
  refine am_goX 2 (show am_sh h 0 = some (10, 0) ∧ pz_S 7 (some .int) am_r131 8 Q 14 [(0, .ref 0), (1, .int (nI e))] [am_rf (h.2.2.1 0 3)] h from ⟨ex_0 hP, ?_⟩)
  rw [show am_rf (h.2.2.1 0 3) = .ref 17 from congrArg am_rf (hR)]
  refine am_goX 1 (show am_sh h 17 = some (0, 0) ∧ pz_S 7 (some .int) am_r131 8 Q 17 [(0, .ref 0), (1, .int (nI e))] [am_rf (h.2.2.1 17 6)] h from ⟨ex_17 hP, ?_⟩)
  rw [show am_rf (h.2.2.1 17 6) = .ref 22 from congrArg am_rf (ex_r17_6 hP)]
  refine am_goX 2 (show ∃ jj nn : Nat, am_sh h 22 = some (13, nn) ∧ jj < nn ∧ nI e = nI jj ∧ pz_S 7 (some .int) am_r131 8 Q 19 [(0, .ref 0), (1, .int (nI e))] [.int (h.1 22 jj)] h from ⟨e, 5, ex_22 hP, (by omega), rfl, ?_⟩)
  rw [show h.1 22 e = kw from hk.trans hkw]
  refine am_goX 7 (show 2 < 7 ∧ 3 < 7 ∧ 4 < 7 ∧ 5 < 7 ∧ pz_S 7 (some .int) am_r131 8 Q 28 [(5, .int (Int32.ofInt 0)), (4, .int (Int32.ofInt 0)), (3, .int (Int32.ofInt (-1))), (2, .int kw), (0, .ref 0), (1, .int (nI e))] [] h from ⟨by decide, by decide, by decide, by decide, ?_⟩)
  refine sv_S2 sv2_131 (by intro q hq; simp only [List.mem_cons, List.not_mem_nil, or_false] at hq; rcases hq with rfl | rfl | rfl | rfl | rfl | rfl <;> rfl) (d_131_28_A17 he 7 0 (Int32.ofInt (-1)) (Int32.ofInt 0) s kv _ (by omega) hP hI hT hR hN hS hE hk (fun h137 f138 f139 f140 f141 f142 f143 f144 f145 => ?_))
  refine am_goX 2 (show am_sh h137 0 = some (10, 0) ∧ pz_S 7 (some .int) am_r131 8 Q 78 [(0, .ref 0), (1, .int (nI e)), (2, .int kw), (4, .int ((d_131_28 C u e 7 0 (Int32.ofInt (-1)) (Int32.ofInt 0) s kv).2.1))] [am_rf (h137.2.2.1 0 3)] h137 from ⟨ex_0 f138, ?_⟩)
  rw [show am_rf (h137.2.2.1 0 3) = .ref 17 from congrArg am_rf (f141)]
  refine am_goX 1 (show am_sh h137 17 = some (0, 0) ∧ pz_S 7 (some .int) am_r131 8 Q 81 [(0, .ref 0), (1, .int (nI e)), (2, .int kw), (4, .int ((d_131_28 C u e 7 0 (Int32.ofInt (-1)) (Int32.ofInt 0) s kv).2.1))] [am_rf (h137.2.2.1 17 6)] h137 from ⟨ex_17 f138, ?_⟩)
  rw [show am_rf (h137.2.2.1 17 6) = .ref 22 from congrArg am_rf (ex_r17_6 f138)]
  refine am_goX 3 (show ∃ jj nn : Nat, am_so h137 22 = some (13, nn) ∧ jj < nn ∧ nI e = nI jj ∧ pz_S 7 (some .int) am_r131 8 Q 84 [(0, .ref 0), (1, .int (nI e)), (2, .int kw), (4, .int ((d_131_28 C u e 7 0 (Int32.ofInt (-1)) (Int32.ofInt 0) s kv).2.1))] [] (am_wI h137 22 jj kw) from ⟨e, 5, ex_w22 f138, (by omega), rfl, ?_⟩)
  have f147 : ex_P (am_wI h137 22 e kw) := f138
  have f148 : cI C := f139
  have f149 : c_v 17 C (am_wI h137 22 e kw) := c_v_w5 (c := 17) f140
  have f150 : (am_wI h137 22 e kw).2.2.1 0 3 = some 17 := f141
  have f151 : sC 36 u (am_wI h137 22 e kw) := sC_w (by omega) f142
  have f152 : sC 41 ((d_131_28 C u e 7 0 (Int32.ofInt (-1)) (Int32.ofInt 0) s kv).2.2.1) (am_wI h137 22 e kw) := sC_w (by omega) f143
  have f153 : ∀ i, i < dE C → ¬ i = e → (am_wI h137 22 e kw).1 22 i = dW C i := fun i hi hn => (em_wn _ _ (by omega)).trans (f144 i hi hn)
  have f154 : (am_wI h137 22 e kw).1 22 e = kw := em_we _ _ _ _
  generalize am_wI h137 22 e kw = h146 at f147 f148 f149 f150 f151 f152 f153 f154 ⊢
  exact am_goX 2 (show (∃ ty, (some .int) = some ty ∧ narrow ty (.int ((d_131_28 C u e 7 0 (Int32.ofInt (-1)) (Int32.ofInt 0) s kv).2.1)) = .int ((d_131_28 C u e 7 0 (Int32.ofInt (-1)) (Int32.ofInt 0) s kv).2.1)) ∧ h146.2.2.2.2 = 175 ∧ _ from ⟨⟨.int, rfl, rfl⟩, ex_175 f147, hQ _ f147 f148 f149 f150 f151 f152 f153 f154⟩)
theorem d_131_xA17 (hP : ex_P h) (hI : cI C) (hT : c_v 17 C h) (hD : c_d 17 C h) (hR : h.2.2.1 0 3 = some 17) (hN : sC 36 u h) (hS : sC 41 s h) (ey : d_93 C y = Int32.ofInt 0) (hQ : ∀ h1, (ex_P h1) → (cI C) → (c_v 17 C h1) → (c_d 17 C h1) → (h1.2.2.1 0 3 = some 17) → (sC 36 u h1) → (sC 41 s h1) → Q (some (.int d_131x)) h1) : am_call am_cod 9 131 [.ref 0, .int y] h Q := by
  have h6 := hT.1.2.1
  have h5 := hT.2.1.2.1
  refine pz_call (n := 131) (nL := 7) (rt := (some .int)) (rows := am_r131) (d := 8) (by decide +kernel) (by decide +kernel) rfl (by funext pc; rfl) (ex_175 hP) (by exact Nat.le_of_ble_eq_true rfl) ?_
  refine am_goX 3 (show am_rc h 0 10 ∧ 0 ≤ 8 ∧ h.2.2.2.2 + am_al 93 ≤ 175 ∧ am_call am_cod 8 93 [.ref 0, .int y] h (fun vv h' => pz_S 7 (some .int) am_r131 8 Q 5 [(0, .ref 0), (1, .int y)] (vv.toList ++ []) h') from ⟨Or.inl ⟨by decide, ex_0 hP⟩, by decide, ex_lim hP rfl, am_call.up (d_93_t17 hP hT hR ?_) (by decide)⟩)
  rw [show d_93 C y = Int32.ofInt 0 from ey]
  refine am_goX 1 (show (¬ (Int32.ofInt 0) = 0 → pz_S 7 (some .int) am_r131 8 Q 10 [(0, .ref 0), (1, .int y)] [] h) ∧ (¬ ¬ (Int32.ofInt 0) = 0 → pz_S 7 (some .int) am_r131 8 Q 8 [(0, .ref 0), (1, .int y)] [] h) from ⟨fun hz => absurd hz (by decide), fun _ => ?_⟩)
  exact am_goX 2 (show (∃ ty, (some .int) = some ty ∧ narrow ty (.int (Int32.ofInt (-1))) = .int (Int32.ofInt (-1))) ∧ h.2.2.2.2 = 175 ∧ _ from ⟨⟨.int, rfl, rfl⟩, ex_175 hP, hQ _ hP hI hT hD hR hN hS⟩)
def d_247_s (u : dS) : dS := u
theorem d_247_r1029 (hP : ex_P h) (hI : cI C) (hT : tR C h) (hO : ∀ e, e < dE C → h.1 172 e = dW V e) (hN : sR 0 (dP C) u h) (hS : sR 1029 (dP C) s h)  (hQ : ∀ h1, (ex_P h1) → (cI C) → (tR C h1) → (∀ e, e < dE C → h1.1 172 e = dW V e) → (sR 0 (dP C) u h1) → (sR 1029 (dP C) (d_247_s u) h1) → Q none h1) : am_call am_cod 2 247 [.ref 154] h Q := by
  have h6 := hT.1.2.1
  have h5 := hT.2.1.2.1
  refine pz_call (n := 247) (nL := 1) (rt := none) (rows := am_r247) (d := 1) (by decide +kernel) (by decide +kernel) rfl (by funext pc; rfl) (ex_175 hP) (by exact Nat.le_of_ble_eq_true rfl) ?_
  refine am_goX 4 (show pz_S 1 none am_r247 1 Q 7 [(0, .ref 154)] [.int ((Int8.ofInt 24).toInt32), .int ((Int16.ofInt 1029).toInt32), .int (Int32.ofInt 0), .ref 154] h from ?_)
  rw [show Int32.ofInt 0 = nI 0 from rfl]
  rw [show (Int16.ofInt 1029).toInt32 = nI 1029 from (show (Int16.ofInt 1029).toInt32 = nI 1029 by decide)]
  rw [show (Int8.ofInt 24).toInt32 = nI 24 from (show (Int8.ofInt 24).toInt32 = nI 24 by decide)]
  refine am_goX 1 (show am_rc h 154 11 ∧ 0 ≤ 8 ∧ h.2.2.2.2 + am_al 232 ≤ 175 ∧ am_call am_cod 1 232 [.ref 154, .int (nI 0), .int (nI 1029), .int (nI 24)] h (fun vv h' => pz_S 1 none am_r247 1 Q 10 [(0, .ref 154)] (vv.toList ++ []) h') from ⟨Or.inl ⟨by decide, ex_154 hP⟩, by decide, ex_lim hP rfl, am_call.up (q_232 (A := 0) (B := 1029) (K := 24) rfl rfl rfl (by omega) (by omega) (by omega) hP (fun h155 f156 f157 f158 f159 => ?_)) (by decide)⟩)
  have f160 : sR 1029 (dP C) u h155 := sR_cp (A := 0) (B := 1029) (fun j hj => f159 j (by omega)) hT.1.2.1 hN
  have f161 : tR C h155 := tR_fr (fun a k u1 u2 => f158 a k (by omega)) hT
  have f162 : ∀ e, e < dE C → h155.1 172 e = dW V e := fun e he => (f158 172 e (by omega)).trans (hO e he)
  have f163 : sR 0 (dP C) u h155 := sR_fr (fun k u1 u2 => f158 170 k (by omega)) hT.1.2.1 hN
  exact am_goX 1 (show (none : Option FieldType) = none ∧ h155.2.2.2.2 = 175 ∧ _ from ⟨rfl, ex_175 f156, hQ _ f156 hI f161 f162 f163 f160⟩)
theorem q_182l : ∀ (m k : Nat) (h : am_H), k + m = dE C → (ex_P h) → (cI C) → (tR C h) → (sR 0 (dP C) u h) → (sR 1029 (dP C) s h) → (∀ i, i < k → h.1 172 i = dW C i) → (∀ h1, (ex_P h1) → (cI C) → (tR C h1) → (sR 0 (dP C) u h1) → (sR 1029 (dP C) s h1) → (∀ i, i < dE C → h1.1 172 i = dW C i) → pz_S 2 none am_r182 1 Q 28 [] [] h1) → pz_S 2 none am_r182 1 Q 2 [(0, .ref 154), (1, .int (nI k))] [] h := by
  intro m
  induction m with
  | zero =>
    intro k h hk hP hI hT hN hS hJ hZ
    have h6 := hT.1.2.1
    have h5 := hT.2.1.2.1
    refine am_goX 3 (show am_rc h 154 11 ∧ 1 ≤ 8 ∧ h.2.2.2.2 + am_al 183 ≤ 175 ∧ am_call am_cod 1 183 [.ref 154] h (fun vv h' => pz_S 2 none am_r182 1 Q 7 [(0, .ref 154), (1, .int (nI k))] (vv.toList ++ [.int (nI k)]) h') from ⟨Or.inl ⟨by decide, ex_154 hP⟩, by decide, ex_lim hP rfl, am_call.up (d_183_r hP hT ?_) (by decide)⟩)
    refine am_goX 1 (show ((nI (dE C)) ≤ (nI k) → pz_S 2 none am_r182 1 Q 28 [(0, .ref 154), (1, .int (nI k))] [] h) ∧ (¬ ((nI (dE C)) ≤ (nI k)) → pz_S 2 none am_r182 1 Q 10 [(0, .ref 154), (1, .int (nI k))] [] h) from ⟨fun _ => ?_, fun hz => absurd (show nI (dE C) ≤ nI k from nI_le (by omega) (by omega)) hz⟩)
    exact sv_S2 sv2_182 (fun q hq => absurd hq List.not_mem_nil) (hZ _ hP hI hT hN hS (fun i hi => hJ i (by omega)))
  | succ m ih =>
    intro k h hk hP hI hT hN hS hJ hZ
    have h6 := hT.1.2.1
    have h5 := hT.2.1.2.1
    refine am_goX 3 (show am_rc h 154 11 ∧ 1 ≤ 8 ∧ h.2.2.2.2 + am_al 183 ≤ 175 ∧ am_call am_cod 1 183 [.ref 154] h (fun vv h' => pz_S 2 none am_r182 1 Q 7 [(0, .ref 154), (1, .int (nI k))] (vv.toList ++ [.int (nI k)]) h') from ⟨Or.inl ⟨by decide, ex_154 hP⟩, by decide, ex_lim hP rfl, am_call.up (d_183_r hP hT ?_) (by decide)⟩)
    refine am_goX 1 (show ((nI (dE C)) ≤ (nI k) → pz_S 2 none am_r182 1 Q 28 [(0, .ref 154), (1, .int (nI k))] [] h) ∧ (¬ ((nI (dE C)) ≤ (nI k)) → pz_S 2 none am_r182 1 Q 10 [(0, .ref 154), (1, .int (nI k))] [] h) from ⟨fun hz => absurd hz (show ¬ (nI (dE C) ≤ nI k) by rw [nI_leI (by omega) (by omega)]; omega), fun _ => ?_⟩)
    refine am_goX 2 (show am_sh h 154 = some (11, 0) ∧ pz_S 2 none am_r182 1 Q 14 [(0, .ref 154), (1, .int (nI k))] [am_rf (h.2.2.1 154 27)] h from ⟨ex_154 hP, ?_⟩)
    rw [show am_rf (h.2.2.1 154 27) = .ref 172 from congrArg am_rf (ex_r154_27 hP)]
    refine am_goX 5 (show am_rc h 154 11 ∧ 2 ≤ 8 ∧ h.2.2.2.2 + am_al 184 ≤ 175 ∧ am_call am_cod 1 184 [.ref 154, .int (nI k), .int (Int32.ofInt 0)] h (fun vv h' => pz_S 2 none am_r182 1 Q 21 [(0, .ref 154), (1, .int (nI k))] (vv.toList ++ [.int (nI k), .ref 172]) h') from ⟨Or.inl ⟨by decide, ex_154 hP⟩, by decide, ex_lim hP rfl, am_call.up (d_184_r0 hP hT (by omega) ?_) (by decide)⟩)
    refine am_goX 1 (show ∃ jj nn : Nat, am_so h 172 = some (13, nn) ∧ jj < nn ∧ nI k = nI jj ∧ pz_S 2 none am_r182 1 Q 22 [(0, .ref 154), (1, .int (nI k))] [] (am_wI h 172 jj (dW C k)) from ⟨k, 5, ex_w172 hP, (by omega), rfl, ?_⟩)
    have f165 : ex_P (am_wI h 172 k (dW C k)) := hP
    have f166 : cI C := hI
    have f167 : tR C (am_wI h 172 k (dW C k)) := tR_w (by omega) hT
    have f168 : sR 0 (dP C) u (am_wI h 172 k (dW C k)) := sR_o (by omega) hN
    have f169 : sR 1029 (dP C) s (am_wI h 172 k (dW C k)) := sR_o (by omega) hS
    have f170 : ∀ i, i < k + 1 → (am_wI h 172 k (dW C k)).1 172 i = dW C i := fun i hi => by
      by_cases ei : i = k
      · rw [ei]; exact em_we _ _ _ _
      · exact (em_wn _ _ (by omega)).trans (hJ i (by omega))
    generalize am_wI h 172 k (dW C k) = h164 at f165 f166 f167 f168 f169 f170 ⊢
    refine am_goX 2 (show 1 < 2 ∧ pz_S 2 none am_r182 1 Q 2 [(1, .int ((nI k) + (Int32.ofInt 1))), (0, .ref 154)] [] h164 from ⟨by decide, ?_⟩)
    rw [show (nI k) + (Int32.ofInt 1) = nI (k + 1) from (dn_a rfl rfl)]
    exact sv_S2 sv2_182 (by intro q hq; simp only [List.mem_cons, List.not_mem_nil, or_false] at hq; rcases hq with rfl | rfl <;> rfl) (ih (k + 1) _ (by omega) f165 f166 f167 f168 f169 f170 hZ)
theorem q_182 (hP : ex_P h) (hI : cI C) (hT : tR C h) (hN : sR 0 (dP C) u h) (hS : sR 1029 (dP C) s h) (hQ : ∀ h1, (ex_P h1) → (cI C) → (tR C h1) → (sR 0 (dP C) u h1) → (sR 1029 (dP C) s h1) → (∀ i, i < dE C → h1.1 172 i = dW C i) → Q none h1) : am_call am_cod 2 182 [.ref 154] h Q := by
  have h6 := hT.1.2.1
  have h5 := hT.2.1.2.1
  refine pz_call (n := 182) (nL := 2) (rt := none) (rows := am_r182) (d := 1) (by decide +kernel) (by decide +kernel) rfl (by funext pc; rfl) (ex_175 hP) (by exact Nat.le_of_ble_eq_true rfl) ?_
  refine am_goX 2 (show 1 < 2 ∧ pz_S 2 none am_r182 1 Q 2 [(1, .int (Int32.ofInt 0)), (0, .ref 154)] [] h from ⟨by decide, ?_⟩)
  refine sv_S2 sv2_182 (by intro q hq; simp only [List.mem_cons, List.not_mem_nil, or_false] at hq; rcases hq with rfl | rfl <;> rfl) (q_182l (dE C) 0 _ (by omega) hP hI hT hN hS (fun i hi => absurd hi (Nat.not_lt_zero i)) (fun h171 f172 f173 f174 f175 f176 f177 => ?_))
  exact am_goX 1 (show (none : Option FieldType) = none ∧ h171.2.2.2.2 = 175 ∧ _ from ⟨rfl, ex_175 f172, hQ _ f172 f173 f174 f175 f176 f177⟩)
def d_257_42 (C : sp_C) (e : Nat) (kv : Int32) : Nat → Nat → dS → dS
  | 0, _, s => s
  | m + 1, k, s => d_257_42 C e kv m (k + 1) (d_233_s C (setW C e kv) s)
theorem d_257_42_r (x2 : Int32) (x3 : Int32) (n4 : Nat) (he : e < dE C) : ∀ (m k : Nat) (s : dS) (h : am_H), k + m = 28 → (ex_P h) → (cI C) → (tR C h) → (sR 0 (dP C) u h) → (sR 1029 (dP C) s h) → (∀ i, i < dE C → ¬ i = e → h.1 172 i = dW C i) → (h.1 172 e = kv) → (∀ h1, (ex_P h1) → (cI C) → (tR C h1) → (sR 0 (dP C) u h1) → (sR 1029 (dP C) (d_257_42 C e kv m k s) h1) → (∀ i, i < dE C → ¬ i = e → h1.1 172 i = dW C i) → (h1.1 172 e = kv) → pz_S 6 (some .int) am_r257 8 Q 63 [(0, .ref 154), (1, .int (nI e)), (2, .int x2), (3, .int x3), (4, .int (nI n4))] [] h1) → pz_S 6 (some .int) am_r257 8 Q 42 [(0, .ref 154), (1, .int (nI e)), (2, .int x2), (3, .int x3), (4, .int (nI n4)), (5, .int (nI k))] [] h := by
  intro m
  induction m with
  | zero =>
    intro k s h hk hP hI hT hN hS hE hk hZ
    have h6 := hT.1.2.1
    have h5 := hT.2.1.2.1
    refine am_goX 3 (show (((Int8.ofInt 28).toInt32) ≤ (nI k) → pz_S 6 (some .int) am_r257 8 Q 63 [(0, .ref 154), (1, .int (nI e)), (2, .int x2), (3, .int x3), (4, .int (nI n4)), (5, .int (nI k))] [] h) ∧ (¬ (((Int8.ofInt 28).toInt32) ≤ (nI k)) → pz_S 6 (some .int) am_r257 8 Q 49 [(0, .ref 154), (1, .int (nI e)), (2, .int x2), (3, .int x3), (4, .int (nI n4)), (5, .int (nI k))] [] h) from ⟨fun _ => ?_, fun hz => absurd (show nI 28 ≤ nI k from nI_le (by omega) (by omega)) hz⟩)
    exact sv_S2 sv2_257 (by intro q hq; simp only [List.mem_cons, List.not_mem_nil, or_false] at hq; rcases hq with rfl | rfl | rfl | rfl | rfl <;> rfl) (hZ _ hP hI hT hN hS hE hk)
  | succ m ih =>
    intro k s h hk hP hI hT hN hS hE hk hZ
    have h6 := hT.1.2.1
    have h5 := hT.2.1.2.1
    refine am_goX 3 (show (((Int8.ofInt 28).toInt32) ≤ (nI k) → pz_S 6 (some .int) am_r257 8 Q 63 [(0, .ref 154), (1, .int (nI e)), (2, .int x2), (3, .int x3), (4, .int (nI n4)), (5, .int (nI k))] [] h) ∧ (¬ (((Int8.ofInt 28).toInt32) ≤ (nI k)) → pz_S 6 (some .int) am_r257 8 Q 49 [(0, .ref 154), (1, .int (nI e)), (2, .int x2), (3, .int x3), (4, .int (nI n4)), (5, .int (nI k))] [] h) from ⟨fun hz => absurd hz (show ¬ (nI 28 ≤ nI k) by rw [nI_leI (by omega) (by omega)]; omega), fun _ => ?_⟩)
    refine am_goX 3 (show am_rc h 154 11 ∧ 0 ≤ 8 ∧ h.2.2.2.2 + am_al 233 ≤ 175 ∧ am_call am_cod 8 233 [.ref 154, .int ((Int16.ofInt 1029).toInt32)] h (fun vv h' => pz_S 6 (some .int) am_r257 8 Q 56 [(0, .ref 154), (1, .int (nI e)), (2, .int x2), (3, .int x3), (4, .int (nI n4)), (5, .int (nI k))] (vv.toList ++ []) h') from ⟨Or.inl ⟨by decide, ex_154 hP⟩, by decide, ex_lim hP rfl, am_call.up (d_233_r1029 (V := (setW C e kv)) hP hI hT (W_o hE hk) hN hS (fun h203 f204 f205 f206 f207 f208 f209 => ?_)) (by decide)⟩)
    have f210 : ∀ i, i < dE C → ¬ i = e → h203.1 172 i = dW C i := fun i hi hn => (f207 i hi).trans (if_neg hn)
    have f211 : h203.1 172 e = kv := (f207 e he).trans (if_pos rfl)
    refine am_goX 3 (show (Value.int (d_233 C (setW C e kv) s)).category = 1 ∧ 5 < 6 ∧ pz_S 6 (some .int) am_r257 8 Q 42 [(5, .int ((nI k) + (Int32.ofInt 1))), (0, .ref 154), (1, .int (nI e)), (2, .int x2), (3, .int x3), (4, .int (nI n4))] [] h203 from ⟨rfl, by decide, ?_⟩)
    rw [show (nI k) + (Int32.ofInt 1) = nI (k + 1) from (dn_a rfl rfl)]
    exact sv_S2 sv2_257 (by intro q hq; simp only [List.mem_cons, List.not_mem_nil, or_false] at hq; rcases hq with rfl | rfl | rfl | rfl | rfl | rfl <;> rfl) (ih (k + 1) (d_233_s C (setW C e kv) s) _ (by omega) f204 hI f206 f208 f209 f210 f211 hZ)
def d_257_12 (C : sp_C) (u : dS) (e : Nat) : Nat → Nat → Int32 → Int32 → dS → Int32 → Int32 × Int32 × dS × Int32
  | 0, _, a2, a3, s, kv => (a2, a3, s, kv)
  | m + 1, k, a2, a3, s, kv => d_257_12 C u e m (k + 1) (if ((d_257_42 C e (nI k) 28 0 u).2.2.2.2.1 e) ≤ a3 then a2 else nI k) (if ((d_257_42 C e (nI k) 28 0 u).2.2.2.2.1 e) ≤ a3 then a3 else (d_257_42 C e (nI k) 28 0 u).2.2.2.2.1 e) (d_257_42 C e (nI k) 28 0 u) (nI k)
theorem d_257_12_r (he : e < dE C) : ∀ (m k : Nat) (a2 : Int32) (a3 : Int32) (s : dS) (kv : Int32) (h : am_H), k + m = 7 → (ex_P h) → (cI C) → (tR C h) → (sR 0 (dP C) u h) → (sR 1029 (dP C) s h) → (∀ i, i < dE C → ¬ i = e → h.1 172 i = dW C i) → (h.1 172 e = kv) → (∀ h1, (ex_P h1) → (cI C) → (tR C h1) → (sR 0 (dP C) u h1) → (sR 1029 (dP C) ((d_257_12 C u e m k a2 a3 s kv).2.2.1) h1) → (∀ i, i < dE C → ¬ i = e → h1.1 172 i = dW C i) → (h1.1 172 e = ((d_257_12 C u e m k a2 a3 s kv).2.2.2)) → pz_S 6 (some .int) am_r257 8 Q 107 [(0, .ref 154), (2, .int ((d_257_12 C u e m k a2 a3 s kv).1))] [] h1) → pz_S 6 (some .int) am_r257 8 Q 12 [(0, .ref 154), (1, .int (nI e)), (2, .int a2), (3, .int a3), (4, .int (nI k))] [] h := by
  intro m
  induction m with
  | zero =>
    intro k a2 a3 s kv h hk hP hI hT hN hS hE hk hZ
    have h6 := hT.1.2.1
    have h5 := hT.2.1.2.1
    refine am_goX 3 (show (((Int8.ofInt 7).toInt32) ≤ (nI k) → pz_S 6 (some .int) am_r257 8 Q 107 [(0, .ref 154), (1, .int (nI e)), (2, .int a2), (3, .int a3), (4, .int (nI k))] [] h) ∧ (¬ (((Int8.ofInt 7).toInt32) ≤ (nI k)) → pz_S 6 (some .int) am_r257 8 Q 19 [(0, .ref 154), (1, .int (nI e)), (2, .int a2), (3, .int a3), (4, .int (nI k))] [] h) from ⟨fun _ => ?_, fun hz => absurd (show nI 7 ≤ nI k from nI_le (by omega) (by omega)) hz⟩)
    exact sv_S2 sv2_257 (by intro q hq; simp only [List.mem_cons, List.not_mem_nil, or_false] at hq; rcases hq with rfl | rfl <;> rfl) (hZ _ hP hI hT hN hS hE hk)
  | succ m ih =>
    intro k a2 a3 s kv h hk hP hI hT hN hS hE hk hZ
    have h6 := hT.1.2.1
    have h5 := hT.2.1.2.1
    refine am_goX 3 (show (((Int8.ofInt 7).toInt32) ≤ (nI k) → pz_S 6 (some .int) am_r257 8 Q 107 [(0, .ref 154), (1, .int (nI e)), (2, .int a2), (3, .int a3), (4, .int (nI k))] [] h) ∧ (¬ (((Int8.ofInt 7).toInt32) ≤ (nI k)) → pz_S 6 (some .int) am_r257 8 Q 19 [(0, .ref 154), (1, .int (nI e)), (2, .int a2), (3, .int a3), (4, .int (nI k))] [] h) from ⟨fun hz => absurd hz (show ¬ (nI 7 ≤ nI k) by rw [nI_leI (by omega) (by omega)]; omega), fun _ => ?_⟩)
    refine am_goX 3 (show am_rc h 154 11 ∧ 0 ≤ 8 ∧ h.2.2.2.2 + am_al 227 ≤ 175 ∧ am_call am_cod 8 227 [.ref 154, .int (nI e)] h (fun vv h' => pz_S 6 (some .int) am_r257 8 Q 24 [(0, .ref 154), (1, .int (nI e)), (2, .int a2), (3, .int a3), (4, .int (nI k))] (vv.toList ++ []) h') from ⟨Or.inl ⟨by decide, ex_154 hP⟩, by decide, ex_lim hP rfl, am_call.up (d_227_r hP hT ?_) (by decide)⟩)
    rw [show d_227 C (nI e) = Int32.ofInt 1 from ((d_227_e _).trans (v_93 he h5))]
    refine am_goX 1 (show ((Int32.ofInt 1) = 0 → pz_S 6 (some .int) am_r257 8 Q 107 [(0, .ref 154), (1, .int (nI e)), (2, .int a2), (3, .int a3), (4, .int (nI k))] [] h) ∧ (¬ ((Int32.ofInt 1) = 0) → pz_S 6 (some .int) am_r257 8 Q 27 [(0, .ref 154), (1, .int (nI e)), (2, .int a2), (3, .int a3), (4, .int (nI k))] [] h) from ⟨fun hz => absurd hz (by decide), fun _ => ?_⟩)
    refine am_goX 2 (show am_sh h 154 = some (11, 0) ∧ pz_S 6 (some .int) am_r257 8 Q 31 [(0, .ref 154), (1, .int (nI e)), (2, .int a2), (3, .int a3), (4, .int (nI k))] [am_rf (h.2.2.1 154 27)] h from ⟨ex_154 hP, ?_⟩)
    rw [show am_rf (h.2.2.1 154 27) = .ref 172 from congrArg am_rf (ex_r154_27 hP)]
    refine am_goX 3 (show ∃ jj nn : Nat, am_so h 172 = some (13, nn) ∧ jj < nn ∧ nI e = nI jj ∧ pz_S 6 (some .int) am_r257 8 Q 35 [(0, .ref 154), (1, .int (nI e)), (2, .int a2), (3, .int a3), (4, .int (nI k))] [] (am_wI h 172 jj (nI k)) from ⟨e, 5, ex_w172 hP, (by omega), rfl, ?_⟩)
    have f187 : ex_P (am_wI h 172 e (nI k)) := hP
    have f188 : cI C := hI
    have f189 : tR C (am_wI h 172 e (nI k)) := tR_w (by omega) hT
    have f190 : sR 0 (dP C) u (am_wI h 172 e (nI k)) := sR_o (by omega) hN
    have f191 : sR 1029 (dP C) s (am_wI h 172 e (nI k)) := sR_o (by omega) hS
    have f192 : ∀ i, i < dE C → ¬ i = e → (am_wI h 172 e (nI k)).1 172 i = dW C i := fun i hi hn => (em_wn _ _ (by omega)).trans (hE i hi hn)
    have f193 : (am_wI h 172 e (nI k)).1 172 e = (nI k) := em_we _ _ _ _
    generalize am_wI h 172 e (nI k) = h186 at f187 f188 f189 f190 f191 f192 f193 ⊢
    refine am_goX 2 (show am_rc h186 154 11 ∧ 0 ≤ 8 ∧ h186.2.2.2.2 + am_al 247 ≤ 175 ∧ am_call am_cod 8 247 [.ref 154] h186 (fun vv h' => pz_S 6 (some .int) am_r257 8 Q 39 [(0, .ref 154), (1, .int (nI e)), (2, .int a2), (3, .int a3), (4, .int (nI k))] (vv.toList ++ []) h') from ⟨Or.inl ⟨by decide, ex_154 f187⟩, by decide, ex_lim f187 rfl, am_call.up (d_247_r1029 (V := (setW C e (nI k))) f187 f188 f189 (W_o f192 f193) f190 f191 (fun h194 f195 f196 f197 f198 f199 f200 => ?_)) (by decide)⟩)
    have f201 : ∀ i, i < dE C → ¬ i = e → h194.1 172 i = dW C i := fun i hi hn => (f198 i hi).trans (if_neg hn)
    have f202 : h194.1 172 e = nI k := (f198 e he).trans (if_pos rfl)
    refine am_goX 2 (show 5 < 6 ∧ pz_S 6 (some .int) am_r257 8 Q 42 [(5, .int (Int32.ofInt 0)), (0, .ref 154), (1, .int (nI e)), (2, .int a2), (3, .int a3), (4, .int (nI k))] [] h194 from ⟨by decide, ?_⟩)
    refine sv_S2 sv2_257 (by intro q hq; simp only [List.mem_cons, List.not_mem_nil, or_false] at hq; rcases hq with rfl | rfl | rfl | rfl | rfl | rfl <;> rfl) (d_257_42_r a2 a3 k he 28 0 u _ (by omega) f195 f188 f197 f199 f200 f201 f202 (fun h203 f204 f205 f206 f207 f208 f209 f210 => ?_))
    refine am_goX 2 (show am_sh h203 154 = some (11, 0) ∧ pz_S 6 (some .int) am_r257 8 Q 67 [(0, .ref 154), (1, .int (nI e)), (2, .int a2), (3, .int a3), (4, .int (nI k))] [am_rf (h203.2.2.1 154 24)] h203 from ⟨ex_154 f204, ?_⟩)
    rw [show am_rf (h203.2.2.1 154 24) = .ref 170 from congrArg am_rf (ex_r154_24 f204)]
    refine am_goX 4 (show ∃ jj nn : Nat, am_sh h203 170 = some (13, nn) ∧ jj < nn ∧ ((Int16.ofInt 1043).toInt32) + (nI e) = nI jj ∧ pz_S 6 (some .int) am_r257 8 Q 73 [(0, .ref 154), (1, .int (nI e)), (2, .int a2), (3, .int a3), (4, .int (nI k))] [.int (h203.1 170 jj)] h203 from ⟨(1043 + e), 1127, ex_170 f204, (by omega), (dn_a (show (Int16.ofInt 1043).toInt32 = nI 1043 by decide) rfl), ?_⟩)
    rw [show h203.1 170 (1043 + e) = (d_257_42 C e (nI k) 28 0 u).2.2.2.2.1 e from (by rw [show (1043 + e) = 1029 + 14 + e by omega]; exact (f208.2.2.2 e (by omega)).1)]
    suffices key : ∀ (v212 : Int32), v212 = (if ((d_257_42 C e (nI k) 28 0 u).2.2.2.2.1 e) ≤ a3 then a2 else nI k) → pz_S 6 (some .int) am_r257 8 Q 87 [(0, .ref 154), (1, .int (nI e)), (3, .int a3), (4, .int (nI k)), (5, .int ((d_257_42 C e (nI k) 28 0 u).2.2.2.2.1 e))] [.int v212] h203 by
      refine am_goX 4 (show 5 < 6 ∧ (((d_257_42 C e (nI k) 28 0 u).2.2.2.2.1 e) ≤ a3 → pz_S 6 (some .int) am_r257 8 Q 86 [(5, .int ((d_257_42 C e (nI k) 28 0 u).2.2.2.2.1 e)), (0, .ref 154), (1, .int (nI e)), (2, .int a2), (3, .int a3), (4, .int (nI k))] [] h203) ∧ (¬ (((d_257_42 C e (nI k) 28 0 u).2.2.2.2.1 e) ≤ a3) → pz_S 6 (some .int) am_r257 8 Q 81 [(5, .int ((d_257_42 C e (nI k) 28 0 u).2.2.2.2.1 e)), (0, .ref 154), (1, .int (nI e)), (2, .int a2), (3, .int a3), (4, .int (nI k))] [] h203) from ⟨by decide, fun c211 => ?_, fun c211 => ?_⟩)
      · refine am_goX 1 (show pz_S 6 (some .int) am_r257 8 Q 87 [(5, .int ((d_257_42 C e (nI k) 28 0 u).2.2.2.2.1 e)), (0, .ref 154), (1, .int (nI e)), (2, .int a2), (3, .int a3), (4, .int (nI k))] [.int a2] h203 from ?_)
        exact sv_S2 sv2_257 (by intro q hq; simp only [List.mem_cons, List.not_mem_nil, or_false] at hq; rcases hq with rfl | rfl | rfl | rfl | rfl <;> rfl) (key _ (if_pos c211).symm)
      · refine am_goX 2 (show pz_S 6 (some .int) am_r257 8 Q 87 [(5, .int ((d_257_42 C e (nI k) 28 0 u).2.2.2.2.1 e)), (0, .ref 154), (1, .int (nI e)), (2, .int a2), (3, .int a3), (4, .int (nI k))] [.int (nI k)] h203 from ?_)
        exact sv_S2 sv2_257 (by intro q hq; simp only [List.mem_cons, List.not_mem_nil, or_false] at hq; rcases hq with rfl | rfl | rfl | rfl | rfl <;> rfl) (key _ (if_neg c211).symm)
    intro v212 e213
    subst e213
    suffices key : ∀ (v215 : Int32), v215 = (if ((d_257_42 C e (nI k) 28 0 u).2.2.2.2.1 e) ≤ a3 then a3 else (d_257_42 C e (nI k) 28 0 u).2.2.2.2.1 e) → pz_S 6 (some .int) am_r257 8 Q 100 [(0, .ref 154), (1, .int (nI e)), (2, .int (if ((d_257_42 C e (nI k) 28 0 u).2.2.2.2.1 e) ≤ a3 then a2 else nI k)), (4, .int (nI k))] [.int v215] h203 by
      refine am_goX 4 (show 2 < 6 ∧ (((d_257_42 C e (nI k) 28 0 u).2.2.2.2.1 e) ≤ a3 → pz_S 6 (some .int) am_r257 8 Q 99 [(2, .int (if ((d_257_42 C e (nI k) 28 0 u).2.2.2.2.1 e) ≤ a3 then a2 else nI k)), (0, .ref 154), (1, .int (nI e)), (3, .int a3), (4, .int (nI k)), (5, .int ((d_257_42 C e (nI k) 28 0 u).2.2.2.2.1 e))] [] h203) ∧ (¬ (((d_257_42 C e (nI k) 28 0 u).2.2.2.2.1 e) ≤ a3) → pz_S 6 (some .int) am_r257 8 Q 94 [(2, .int (if ((d_257_42 C e (nI k) 28 0 u).2.2.2.2.1 e) ≤ a3 then a2 else nI k)), (0, .ref 154), (1, .int (nI e)), (3, .int a3), (4, .int (nI k)), (5, .int ((d_257_42 C e (nI k) 28 0 u).2.2.2.2.1 e))] [] h203) from ⟨by decide, fun c214 => ?_, fun c214 => ?_⟩)
      · refine am_goX 1 (show pz_S 6 (some .int) am_r257 8 Q 100 [(2, .int (if ((d_257_42 C e (nI k) 28 0 u).2.2.2.2.1 e) ≤ a3 then a2 else nI k)), (0, .ref 154), (1, .int (nI e)), (3, .int a3), (4, .int (nI k)), (5, .int ((d_257_42 C e (nI k) 28 0 u).2.2.2.2.1 e))] [.int a3] h203 from ?_)
        exact sv_S2 sv2_257 (by intro q hq; simp only [List.mem_cons, List.not_mem_nil, or_false] at hq; rcases hq with rfl | rfl | rfl | rfl <;> rfl) (key _ (if_pos c214).symm)
      · refine am_goX 2 (show pz_S 6 (some .int) am_r257 8 Q 100 [(2, .int (if ((d_257_42 C e (nI k) 28 0 u).2.2.2.2.1 e) ≤ a3 then a2 else nI k)), (0, .ref 154), (1, .int (nI e)), (3, .int a3), (4, .int (nI k)), (5, .int ((d_257_42 C e (nI k) 28 0 u).2.2.2.2.1 e))] [.int ((d_257_42 C e (nI k) 28 0 u).2.2.2.2.1 e)] h203 from ?_)
        exact sv_S2 sv2_257 (by intro q hq; simp only [List.mem_cons, List.not_mem_nil, or_false] at hq; rcases hq with rfl | rfl | rfl | rfl <;> rfl) (key _ (if_neg c214).symm)
    intro v215 e216
    subst e216
    refine am_goX 3 (show 3 < 6 ∧ 4 < 6 ∧ pz_S 6 (some .int) am_r257 8 Q 12 [(4, .int ((nI k) + (Int32.ofInt 1))), (3, .int (if ((d_257_42 C e (nI k) 28 0 u).2.2.2.2.1 e) ≤ a3 then a3 else (d_257_42 C e (nI k) 28 0 u).2.2.2.2.1 e)), (0, .ref 154), (1, .int (nI e)), (2, .int (if ((d_257_42 C e (nI k) 28 0 u).2.2.2.2.1 e) ≤ a3 then a2 else nI k))] [] h203 from ⟨by decide, by decide, ?_⟩)
    rw [show (nI k) + (Int32.ofInt 1) = nI (k + 1) from (dn_a rfl rfl)]
    exact sv_S2 sv2_257 (by intro q hq; simp only [List.mem_cons, List.not_mem_nil, or_false] at hq; rcases hq with rfl | rfl | rfl | rfl | rfl <;> rfl) (ih (k + 1) (if ((d_257_42 C e (nI k) 28 0 u).2.2.2.2.1 e) ≤ a3 then a2 else nI k) (if ((d_257_42 C e (nI k) 28 0 u).2.2.2.2.1 e) ≤ a3 then a3 else (d_257_42 C e (nI k) 28 0 u).2.2.2.2.1 e) (d_257_42 C e (nI k) 28 0 u) (nI k) _ (by omega) f204 f205 f206 f207 f208 f209 f210 hZ)
def d_257_s (C : sp_C) (u s : dS) (e : Nat) (kv : Int32) : dS := (d_257_12 C u e 7 0 (Int32.ofInt (-1)) (Int32.ofInt (-1)) s kv).2.2.1
def d_257_kv (C : sp_C) (u s : dS) (e : Nat) (kv : Int32) : Int32 := (dW C e)
def d_257 (C : sp_C) (u s : dS) (e : Nat) (kv : Int32) : Int32 := (d_257_12 C u e 7 0 (Int32.ofInt (-1)) (Int32.ofInt (-1)) s kv).1
theorem d_257_r (hP : ex_P h) (hI : cI C) (hT : tR C h) (hN : sR 0 (dP C) u h) (hS : sR 1029 (dP C) s h) (hE : ∀ i, i < dE C → ¬ i = e → h.1 172 i = dW C i) (hk : h.1 172 e = kv) (he : e < dE C) (hQ : ∀ h1, (ex_P h1) → (cI C) → (tR C h1) → (sR 0 (dP C) u h1) → (sR 1029 (dP C) (d_257_s C u s e kv) h1) → (∀ i, i < dE C → ¬ i = e → h1.1 172 i = dW C i) → (h1.1 172 e = (d_257_kv C u s e kv)) → Q (some (.int (d_257 C u s e kv))) h1) : am_call am_cod 9 257 [.ref 154, .int (nI e)] h Q := by
  have h6 := hT.1.2.1
  have h5 := hT.2.1.2.1
  refine pz_call (n := 257) (nL := 6) (rt := (some .int)) (rows := am_r257) (d := 8) (by decide +kernel) (by decide +kernel) rfl (by funext pc; rfl) (ex_175 hP) (by exact Nat.le_of_ble_eq_true rfl) ?_
  refine am_goX 3 (show am_sh h 154 = some (11, 0) ∧ narrow (am_fty 11 0) (.int (Int32.ofInt 0)) = .int (Int32.ofInt 0) ∧ fits (am_fty 11 0) (.int (Int32.ofInt 0)) = true ∧ pz_S 6 (some .int) am_r257 8 Q 5 [(0, .ref 154), (1, .int (nI e))] [] (am_wI h 154 0 (Int32.ofInt 0)) from ⟨ex_154 hP, rfl, rfl, ?_⟩)
  have f179 : ex_P (am_wI h 154 0 (Int32.ofInt 0)) := hP
  have f180 : cI C := hI
  have f181 : tR C (am_wI h 154 0 (Int32.ofInt 0)) := tR_w (by omega) hT
  have f182 : sR 0 (dP C) u (am_wI h 154 0 (Int32.ofInt 0)) := sR_o (by omega) hN
  have f183 : sR 1029 (dP C) s (am_wI h 154 0 (Int32.ofInt 0)) := sR_o (by omega) hS
  have f184 : ∀ i, i < dE C → ¬ i = e → (am_wI h 154 0 (Int32.ofInt 0)).1 172 i = dW C i := fun i hi hn => (em_wn _ _ (by omega)).trans (hE i hi hn)
  have f185 : (am_wI h 154 0 (Int32.ofInt 0)).1 172 e = kv := (em_wn _ _ (by omega)).trans hk
  generalize am_wI h 154 0 (Int32.ofInt 0) = h178 at f179 f180 f181 f182 f183 f184 f185 ⊢
  refine am_goX 6 (show 2 < 6 ∧ 3 < 6 ∧ 4 < 6 ∧ pz_S 6 (some .int) am_r257 8 Q 12 [(4, .int (Int32.ofInt 0)), (3, .int (Int32.ofInt (-1))), (2, .int (Int32.ofInt (-1))), (0, .ref 154), (1, .int (nI e))] [] h178 from ⟨by decide, by decide, by decide, ?_⟩)
  refine sv_S2 sv2_257 (by intro q hq; simp only [List.mem_cons, List.not_mem_nil, or_false] at hq; rcases hq with rfl | rfl | rfl | rfl | rfl <;> rfl) (d_257_12_r he 7 0 (Int32.ofInt (-1)) (Int32.ofInt (-1)) s kv _ (by omega) f179 f180 f181 f182 f183 f184 f185 (fun h217 f218 f219 f220 f221 f222 f223 f224 => ?_))
  refine am_goX 2 (show am_rc h217 154 11 ∧ 0 ≤ 8 ∧ h217.2.2.2.2 + am_al 182 ≤ 175 ∧ am_call am_cod 8 182 [.ref 154] h217 (fun vv h' => pz_S 6 (some .int) am_r257 8 Q 111 [(0, .ref 154), (2, .int ((d_257_12 C u e 7 0 (Int32.ofInt (-1)) (Int32.ofInt (-1)) s kv).1))] (vv.toList ++ []) h') from ⟨Or.inl ⟨by decide, ex_154 f218⟩, by decide, ex_lim f218 rfl, am_call.up (q_182 f218 f219 f220 f221 f222 (fun h225 f226 f227 f228 f229 f230 f231 => ?_)) (by decide)⟩)
  have f232 : ∀ i, i < dE C → ¬ i = e → h225.1 172 i = dW C i := fun i hi _ => f231 i hi
  have f233 : h225.1 172 e = dW C e := f231 e he
  exact am_goX 2 (show (∃ ty, (some .int) = some ty ∧ narrow ty (.int ((d_257_12 C u e 7 0 (Int32.ofInt (-1)) (Int32.ofInt (-1)) s kv).1)) = .int ((d_257_12 C u e 7 0 (Int32.ofInt (-1)) (Int32.ofInt (-1)) s kv).1)) ∧ h225.2.2.2.2 = 175 ∧ _ from ⟨⟨.int, rfl, rfl⟩, ex_175 f226, hQ _ f226 f219 f228 f229 f230 f232 f233⟩)
def d_257x  : Int32 := Int32.ofInt (-1)
theorem d_257_xr (hP : ex_P h) (hI : cI C) (hT : tR C h) (hO : ∀ e, e < dE C → h.1 172 e = dW C e) (hN : sR 0 (dP C) u h) (hS : sR 1029 (dP C) s h) (ey : d_93 C y = Int32.ofInt 0) (hQ : ∀ h1, (ex_P h1) → (cI C) → (tR C h1) → (∀ e, e < dE C → h1.1 172 e = dW C e) → (sR 0 (dP C) u h1) → (sR 1029 (dP C) s h1) → Q (some (.int d_257x)) h1) : am_call am_cod 9 257 [.ref 154, .int y] h Q := by
  have h6 := hT.1.2.1
  have h5 := hT.2.1.2.1
  refine pz_call (n := 257) (nL := 6) (rt := (some .int)) (rows := am_r257) (d := 8) (by decide +kernel) (by decide +kernel) rfl (by funext pc; rfl) (ex_175 hP) (by exact Nat.le_of_ble_eq_true rfl) ?_
  refine am_goX 3 (show am_sh h 154 = some (11, 0) ∧ narrow (am_fty 11 0) (.int (Int32.ofInt 0)) = .int (Int32.ofInt 0) ∧ fits (am_fty 11 0) (.int (Int32.ofInt 0)) = true ∧ pz_S 6 (some .int) am_r257 8 Q 5 [(0, .ref 154), (1, .int y)] [] (am_wI h 154 0 (Int32.ofInt 0)) from ⟨ex_154 hP, rfl, rfl, ?_⟩)
  have f235 : ex_P (am_wI h 154 0 (Int32.ofInt 0)) := hP
  have f236 : cI C := hI
  have f237 : tR C (am_wI h 154 0 (Int32.ofInt 0)) := tR_w (by omega) hT
  have f238 : ∀ e, e < dE C → (am_wI h 154 0 (Int32.ofInt 0)).1 172 e = dW C e := on_w (by omega) hO
  have f239 : sR 0 (dP C) u (am_wI h 154 0 (Int32.ofInt 0)) := sR_o (by omega) hN
  have f240 : sR 1029 (dP C) s (am_wI h 154 0 (Int32.ofInt 0)) := sR_o (by omega) hS
  generalize am_wI h 154 0 (Int32.ofInt 0) = h234 at f235 f236 f237 f238 f239 f240 ⊢
  refine am_goX 9 (show 2 < 6 ∧ 3 < 6 ∧ 4 < 6 ∧ (((Int8.ofInt 7).toInt32) ≤ (Int32.ofInt 0) → pz_S 6 (some .int) am_r257 8 Q 107 [(4, .int (Int32.ofInt 0)), (3, .int (Int32.ofInt (-1))), (2, .int (Int32.ofInt (-1))), (0, .ref 154), (1, .int y)] [] h234) ∧ (¬ (((Int8.ofInt 7).toInt32) ≤ (Int32.ofInt 0)) → pz_S 6 (some .int) am_r257 8 Q 19 [(4, .int (Int32.ofInt 0)), (3, .int (Int32.ofInt (-1))), (2, .int (Int32.ofInt (-1))), (0, .ref 154), (1, .int y)] [] h234) from ⟨by decide, by decide, by decide, fun hz => absurd hz (by decide), fun _ => ?_⟩)
  refine am_goX 3 (show am_rc h234 154 11 ∧ 0 ≤ 8 ∧ h234.2.2.2.2 + am_al 227 ≤ 175 ∧ am_call am_cod 8 227 [.ref 154, .int y] h234 (fun vv h' => pz_S 6 (some .int) am_r257 8 Q 24 [(4, .int (Int32.ofInt 0)), (3, .int (Int32.ofInt (-1))), (2, .int (Int32.ofInt (-1))), (0, .ref 154), (1, .int y)] (vv.toList ++ []) h') from ⟨Or.inl ⟨by decide, ex_154 f235⟩, by decide, ex_lim f235 rfl, am_call.up (d_227_r f235 f237 ?_) (by decide)⟩)
  rw [show d_227 C y = Int32.ofInt 0 from ((d_227_e _).trans ey)]
  refine am_goX 1 (show ((Int32.ofInt 0) = 0 → pz_S 6 (some .int) am_r257 8 Q 107 [(4, .int (Int32.ofInt 0)), (3, .int (Int32.ofInt (-1))), (2, .int (Int32.ofInt (-1))), (0, .ref 154), (1, .int y)] [] h234) ∧ (¬ ((Int32.ofInt 0) = 0) → pz_S 6 (some .int) am_r257 8 Q 27 [(4, .int (Int32.ofInt 0)), (3, .int (Int32.ofInt (-1))), (2, .int (Int32.ofInt (-1))), (0, .ref 154), (1, .int y)] [] h234) from ⟨fun _ => ?_, fun hz => absurd (by decide) hz⟩)
  refine am_goX 2 (show am_rc h234 154 11 ∧ 0 ≤ 8 ∧ h234.2.2.2.2 + am_al 182 ≤ 175 ∧ am_call am_cod 8 182 [.ref 154] h234 (fun vv h' => pz_S 6 (some .int) am_r257 8 Q 111 [(4, .int (Int32.ofInt 0)), (3, .int (Int32.ofInt (-1))), (2, .int (Int32.ofInt (-1))), (0, .ref 154), (1, .int y)] (vv.toList ++ []) h') from ⟨Or.inl ⟨by decide, ex_154 f235⟩, by decide, ex_lim f235 rfl, am_call.up (q_182 f235 f236 f237 f239 f240 (fun h241 f242 f243 f244 f245 f246 f247 => ?_)) (by decide)⟩)
  exact am_goX 2 (show (∃ ty, (some .int) = some ty ∧ narrow ty (.int (Int32.ofInt (-1))) = .int (Int32.ofInt (-1))) ∧ h241.2.2.2.2 = 175 ∧ _ from ⟨⟨.int, rfl, rfl⟩, ex_175 f242, hQ _ f242 f236 f244 f247 f245 f246⟩)
