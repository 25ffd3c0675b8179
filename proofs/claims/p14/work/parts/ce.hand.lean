section
/-! DAY, LOT, ASK, UNDO -/
theorem c_v_fr {c : Nat} {C : sp_C} {h g : am_H} (e : ∀ a k, c ≤ a → a ≤ c + 9 → g.1 a k = h.1 a k) (l : c_v c C h) : c_v c C g :=
  c_v_x (e _ _ (by omega) (by omega)) (e _ _ (by omega) (by omega)) (e _ _ (by omega) (by omega)) (fun i _ => ⟨e _ _ (by omega) (by omega), e _ _ (by omega) (by omega)⟩) (fun i _ => ⟨e _ _ (by omega) (by omega), e _ _ (by omega) (by omega)⟩) (e _ _ (by omega) (by omega)) (fun i _ => e _ _ (by omega) (by omega)) l
theorem c_d_fr {c : Nat} {C : sp_C} {h g : am_H} (e : ∀ k, g.1 (c + 5) k = h.1 (c + 5) k) (l : c_d c C h) : c_d c C g := fun i hi => (e i).trans (l i hi)
theorem hC_w {o k : Nat} {v : Int32} {H : dH} {h : am_H} (hn : ¬ (47 ≤ o ∧ o ≤ 128)) (l : hC H h) : hC H (am_wI h o k v) := hC_fr (fun a j u1 u2 => em_wn _ _ (by omega)) l
theorem mC_w {o k : Nat} {v : Int32} {M : dMk} {h : am_H} (hn : ¬ (130 ≤ o ∧ o ≤ 153)) (l : mC M h) : mC M (am_wI h o k v) := mC_fr (fun a j u1 u2 => em_wn _ _ (by omega)) l
theorem tR_fr {C : sp_C} {h g : am_H} (e : ∀ a k, 160 ≤ a → a ≤ 162 → g.1 a k = h.1 a k) (j : tR C h) : tR C g := by
  obtain ⟨⟨a1, a2, a3⟩, ⟨b1, b2, b3⟩, c3, ⟨d1, d2⟩, e1, e2, e3, e4, e5⟩ := j
  have w : ∀ q, g.1 160 q = h.1 160 q := fun q => e 160 q (by decide) (by decide)
  have w1 : ∀ q, g.1 161 q = h.1 161 q := fun q => e 161 q (by decide) (by decide)
  have w2 : ∀ q, g.1 162 q = h.1 162 q := fun q => e 162 q (by decide) (by decide)
  refine ⟨⟨?_, a2, fun i hi => ?_⟩, ⟨?_, b2, fun i hi => ?_⟩, fun p q hp hq => ?_, ⟨?_, d2⟩, e1, fun j hj => ?_, fun z => ?_, e4, ?_⟩
  · rw [w]; exact a1
  · rw [w, w]; exact a3 i hi
  · rw [w]; exact b1
  · rw [w, w]; exact b3 i hi
  · rw [w]; exact c3 p q hp hq
  · rw [w]; exact d1
  · rw [w1, w2]; exact e2 j hj
  · rw [w1]; exact e3 z
  · rw [w]; exact e5
theorem hL_w {o k P : Nat} {v : Int32} {H : dH} {h : am_H} (hn : (¬ (o = 154 ∧ k = 25)) ∧ (¬ (o = 170 ∧ 245 ≤ k ∧ k < 1029)) ∧ P ≤ 6) (l : hL P H h) : hL P H (am_wI h o k v) := hL_fr hn.2.2 (em_wn _ _ (by omega)) (fun a u1 u2 => em_wn _ _ (by omega)) l
theorem mL_w {o k P : Nat} {v : Int32} {M : dMk} {h : am_H} (hn : (¬ o = 171) ∧ (¬ (o = 170 ∧ 49 ≤ k ∧ k < 245)) ∧ P ≤ 6) (l : mL P M h) : mL P M (am_wI h o k v) := mL_fr hn.2.2 (fun m hm => em_wn _ _ (by omega)) (fun a u1 u2 => em_wn _ _ (by omega)) l
variable {h : am_H} {Q : am_Q} {C V : sp_C} {y z w : Int32} {p l : Nat} {s : dS} {H : dH} {M : dMk} {x : Nat} {a b : Int32}
theorem v_60 {l lo hi : Nat} (h1 : lo ≤ l) (h2 : l ≤ hi) (h3 : hi ≤ 4096) : d_60 (nI l) (nI lo) (nI hi) = Int32.ofInt 1 := by
  unfold d_60
  rw [if_neg (show ¬ nI l < nI lo by rw [nI_ltI (by omega) (by omega)]; omega), if_neg (show ¬ nI hi < nI l by rw [nI_ltI (by omega) (by omega)]; omega)]
theorem c_60 {lo hi : Nat} (h1 : lo ≤ hi) (h3 : hi ≤ 4096) (x : Int32) : d_60 x (nI lo) (nI hi) = Int32.ofInt 0 ∨ ∃ l, lo ≤ l ∧ l ≤ hi ∧ x = nI l := by
  unfold d_60
  by_cases e1 : x < nI lo
  · rw [if_pos e1]; exact Or.inl rfl
  · rw [if_neg e1]
    by_cases e2 : nI hi < x
    · rw [if_pos e2]; exact Or.inl rfl
    · refine Or.inr ⟨x.toInt.toNat, ?_, ?_, ?_⟩
      · have a := mt Int32.lt_iff_toInt_lt.mpr e1
        rw [nI_toInt (by omega)] at a
        omega
      · have a := mt Int32.lt_iff_toInt_lt.mpr e1
        have b := mt Int32.lt_iff_toInt_lt.mpr e2
        rw [nI_toInt (by omega)] at a b
        omega
      · have a := mt Int32.lt_iff_toInt_lt.mpr e1
        have b := mt Int32.lt_iff_toInt_lt.mpr e2
        rw [nI_toInt (by omega)] at a b
        exact Int32.toInt_inj.mp (by rw [nI_toInt (by omega)]; omega)

theorem sv2_207 : am_r207.all (fun q => sv2_ok q.2) = true := by decide +kernel
def d_207 (y z w : Int32) : Int32 := (if y < z then Int32.ofInt 0 else (if w < y then Int32.ofInt 0 else Int32.ofInt 1))
theorem d_207_w (hP : ex_P h)  (hQ : Q (some (.int (d_207 y z w))) h) : am_call am_cod 1 207 [.int y, .int z, .int w] h Q := by
  refine pz_call (n := 207) (nL := 3) (rt := (some .boolean)) (rows := am_r207) (d := 0) (by decide +kernel) (by decide +kernel) rfl (by funext pc; rfl) (ex_175 hP) (by exact Nat.le_of_ble_eq_true rfl) ?_
  suffices key : ∀ (v2 : Int32), v2 = (if y < z then Int32.ofInt 0 else (if w < y then Int32.ofInt 0 else Int32.ofInt 1)) → pz_S 3 (some .boolean) am_r207 0 Q 15 [] [.int v2] h by
    refine am_goX 3 (show (y < z → pz_S 3 (some .boolean) am_r207 0 Q 14 [(0, .int y), (1, .int z), (2, .int w)] [] h) ∧ (¬ (y < z) → pz_S 3 (some .boolean) am_r207 0 Q 5 [(0, .int y), (1, .int z), (2, .int w)] [] h) from ⟨fun c1 => ?_, fun c1 => ?_⟩)
    · refine am_goX 1 (show pz_S 3 (some .boolean) am_r207 0 Q 15 [(0, .int y), (1, .int z), (2, .int w)] [.int (Int32.ofInt 0)] h from ?_)
      exact sv_S2 sv2_207 (fun q hq => absurd hq List.not_mem_nil) (key _ (if_pos c1).symm)
    · suffices key : ∀ (v4 : Int32), v4 = (if w < y then Int32.ofInt 0 else Int32.ofInt 1) → pz_S 3 (some .boolean) am_r207 0 Q 15 [] [.int v4] h by
        refine am_goX 3 (show (w < y → pz_S 3 (some .boolean) am_r207 0 Q 14 [(0, .int y), (1, .int z), (2, .int w)] [] h) ∧ (¬ (w < y) → pz_S 3 (some .boolean) am_r207 0 Q 10 [(0, .int y), (1, .int z), (2, .int w)] [] h) from ⟨fun c3 => ?_, fun c3 => ?_⟩)
        · refine am_goX 1 (show pz_S 3 (some .boolean) am_r207 0 Q 15 [(0, .int y), (1, .int z), (2, .int w)] [.int (Int32.ofInt 0)] h from ?_)
          exact sv_S2 sv2_207 (fun q hq => absurd hq List.not_mem_nil) (key _ (if_pos c3).symm)
        · refine am_goX 2 (show pz_S 3 (some .boolean) am_r207 0 Q 15 [(0, .int y), (1, .int z), (2, .int w)] [.int (Int32.ofInt 1)] h from ?_)
          exact sv_S2 sv2_207 (fun q hq => absurd hq List.not_mem_nil) (key _ (if_neg c3).symm)
      intro v4 e5
      subst e5
      exact sv_S2 sv2_207 (fun q hq => absurd hq List.not_mem_nil) (key _ (if_neg c1).symm)
  intro v2 e6
  subst e6
  exact am_goX 1 (show (∃ ty, (some .boolean) = some ty ∧ narrow ty (.int (if y < z then Int32.ofInt 0 else (if w < y then Int32.ofInt 0 else Int32.ofInt 1))) = .int (if y < z then Int32.ofInt 0 else (if w < y then Int32.ofInt 0 else Int32.ofInt 1))) ∧ h.2.2.2.2 = 175 ∧ _ from ⟨⟨.boolean, rfl, (by (repeat' split) <;> rfl)⟩, ex_175 hP, hQ⟩)
theorem d_207_e (x y z : Int32) : d_207 x y z = d_60 x y z := rfl
def d_97_s (C : sp_C) (s : dS) (H : dH) : dS := (d_100_s C s (d_68 C (s.1 + (Int32.ofInt 1))))
def d_97_H (C : sp_C) (s : dS) (H : dH) : dH := (hP1 H s)
def d_97 (C : sp_C) (s : dS) (H : dH) : Int32 := d_100 C s (d_68 C (s.1 + (Int32.ofInt 1)))
theorem d_97_K6 (hP : ex_P h) (hI : cI C) (hT : c_v 6 C h) (hD : c_d 6 C h) (hR : h.2.2.1 0 3 = some 6) (hS : sC 36 s h) (hH : hC H h) (hM : mC M h) (hx : h.1 0 12 = nI x)  (hQ : ∀ h1, (ex_P h1) → (cI C) → (c_v 6 C h1) → (c_d 6 C h1) → (h1.2.2.1 0 3 = some 6) → (sC 36 (d_97_s C s H) h1) → (hC (d_97_H C s H) h1) → (mC M h1) → (h1.1 0 12 = nI x) → Q (some (.int (d_97 C s H))) h1) : am_call am_cod 8 97 [.ref 0] h Q := by
  have h6 := hT.1.2.1
  have h5 := hT.2.1.2.1
  refine pz_call (n := 97) (nL := 1) (rt := (some .int)) (rows := am_r97) (d := 7) (by decide +kernel) (by decide +kernel) rfl (by funext pc; rfl) (ex_175 hP) (by exact Nat.le_of_ble_eq_true rfl) ?_
  refine am_goX 2 (show am_sh h 0 = some (10, 0) ∧ pz_S 1 (some .int) am_r97 7 Q 4 [(0, .ref 0)] [am_rf (h.2.2.1 0 10)] h from ⟨ex_0 hP, ?_⟩)
  rw [show am_rf (h.2.2.1 0 10) = .ref 47 from congrArg am_rf (ex_r0_10 hP)]
  refine am_goX 2 (show am_sh h 0 = some (10, 0) ∧ pz_S 1 (some .int) am_r97 7 Q 8 [(0, .ref 0)] [am_rf (h.2.2.1 0 7), .ref 47] h from ⟨ex_0 hP, ?_⟩)
  rw [show am_rf (h.2.2.1 0 7) = .ref 36 from congrArg am_rf (ex_r0_7 hP)]
  refine am_goX 1 (show am_rc h 47 2 ∧ 0 ≤ 8 ∧ h.2.2.2.2 + am_al 98 ≤ 175 ∧ am_call am_cod 7 98 [.ref 47, .ref 36] h (fun vv h' => pz_S 1 (some .int) am_r97 7 Q 11 [(0, .ref 0)] (vv.toList ++ []) h') from ⟨Or.inl ⟨by decide, ex_47 hP⟩, by decide, ex_lim hP rfl, am_call.up (k_98 hP hS hH (fun h7 f8 f9 f10 f11 => ?_)) (by decide)⟩)
  have f12 : c_v 6 C h7 := c_v_fr (fun a k u1 u2 => f10 a k (by omega)) hT
  have f13 : c_d 6 C h7 := c_d_fr (fun k => f10 _ k (by omega)) hD
  have f14 : h7.2.2.1 0 3 = some 6 := (congrArg (fun q => q.2.1 0 3) f9).trans hR
  have f15 : sC 36 s h7 := sC_fr (fun a k u1 u2 => f10 a k (by omega)) hS
  have f16 : mC M h7 := mC_fr (fun a k u1 u2 => f10 a k (by omega)) hM
  have f17 : h7.1 0 12 = nI x := (f10 0 12 (by omega)).trans hx
  refine am_goX 2 (show am_sh h7 0 = some (10, 0) ∧ pz_S 1 (some .int) am_r97 7 Q 15 [(0, .ref 0)] [am_rf (h7.2.2.1 0 3)] h7 from ⟨ex_0 f8, ?_⟩)
  rw [show am_rf (h7.2.2.1 0 3) = .ref 6 from congrArg am_rf (f14)]
  refine am_goX 2 (show am_sh h7 0 = some (10, 0) ∧ pz_S 1 (some .int) am_r97 7 Q 19 [(0, .ref 0)] [am_rf (h7.2.2.1 0 7), .ref 6] h7 from ⟨ex_0 f8, ?_⟩)
  rw [show am_rf (h7.2.2.1 0 7) = .ref 36 from congrArg am_rf (ex_r0_7 f8)]
  refine am_goX 2 (show am_sh h7 0 = some (10, 0) ∧ pz_S 1 (some .int) am_r97 7 Q 23 [(0, .ref 0)] [am_rf (h7.2.2.1 0 3), .ref 36, .ref 6] h7 from ⟨ex_0 f8, ?_⟩)
  rw [show am_rf (h7.2.2.1 0 3) = .ref 6 from congrArg am_rf (f14)]
  refine am_goX 2 (show am_sh h7 0 = some (10, 0) ∧ pz_S 1 (some .int) am_r97 7 Q 27 [(0, .ref 0)] [am_rf (h7.2.2.1 0 7), .ref 6, .ref 36, .ref 6] h7 from ⟨ex_0 f8, ?_⟩)
  rw [show am_rf (h7.2.2.1 0 7) = .ref 36 from congrArg am_rf (ex_r0_7 f8)]
  refine am_goX 1 (show am_sh h7 36 = some (6, 0) ∧ pz_S 1 (some .int) am_r97 7 Q 30 [(0, .ref 0)] [.int (h7.1 36 0), .ref 6, .ref 36, .ref 6] h7 from ⟨ex_36 f8, ?_⟩)
  rw [show h7.1 36 0 = s.1 from f15.1.1]
  refine am_goX 3 (show am_rc h7 6 0 ∧ 2 ≤ 8 ∧ h7.2.2.2.2 + am_al 68 ≤ 175 ∧ am_call am_cod 7 68 [.ref 6, .int (s.1 + (Int32.ofInt 1))] h7 (fun vv h' => pz_S 1 (some .int) am_r97 7 Q 35 [(0, .ref 0)] (vv.toList ++ [.ref 36, .ref 6]) h') from ⟨Or.inl ⟨by decide, ex_6 f8⟩, by decide, ex_lim f8 rfl, am_call.up (d_68_t6 f8 f12 ?_) (by decide)⟩)
  refine am_goX 1 (show am_rc h7 6 0 ∧ 0 ≤ 8 ∧ h7.2.2.2.2 + am_al 100 ≤ 175 ∧ am_call am_cod 7 100 [.ref 6, .ref 36, .int (d_68 C (s.1 + (Int32.ofInt 1)))] h7 (fun vv h' => pz_S 1 (some .int) am_r97 7 Q 38 [(0, .ref 0)] (vv.toList ++ []) h') from ⟨Or.inl ⟨by decide, ex_6 f8⟩, by decide, ex_lim f8 rfl, am_call.up (d_100_t6_36 f8 hI f12 f13 f15 (fC_0 (c := 6) (h := h7)) (fun h18 f19 f20 f21 f22 f23 f24 => ?_)) (by decide)⟩)
  have f25 : h18.2.2.1 0 3 = some 6 := (congrArg (fun q => q.2.1 0 3) f24.1).trans f14
  have f26 : hC (hP1 H s) h18 := hC_fr (fun a k u1 u2 => f24.2 a k (by omega) (by omega)) f11
  have f27 : mC M h18 := mC_fr (fun a k u1 u2 => f24.2 a k (by omega) (by omega)) f16
  have f28 : h18.1 0 12 = nI x := (f24.2 0 12 (by omega) (by omega)).trans f17
  exact am_goX 1 (show (∃ ty, (some .int) = some ty ∧ narrow ty (.int (d_100 C s (d_68 C (s.1 + (Int32.ofInt 1))))) = .int (d_100 C s (d_68 C (s.1 + (Int32.ofInt 1))))) ∧ h18.2.2.2.2 = 175 ∧ _ from ⟨⟨.int, rfl, rfl⟩, ex_175 f19, hQ _ f19 f20 f21 f22 f25 f23 f26 f27 f28⟩)
def d_109_s (C : sp_C) (s : dS) (H : dH) (p l : Nat) : dS := sSL s p (nI l)
def d_109_H (C : sp_C) (s : dS) (H : dH) (p l : Nat) : dH := (hP1 H s)
def d_109 (C : sp_C) (s : dS) (H : dH) (p l : Nat) : Int32 := s.2.2.1 p
theorem d_109_K6 (hP : ex_P h) (hI : cI C) (hT : c_v 6 C h) (hD : c_d 6 C h) (hR : h.2.2.1 0 3 = some 6) (hS : sC 36 s h) (hH : hC H h) (hM : mC M h) (hx : h.1 0 12 = nI x) (hp : p < dP C) (hl : l < 5) (hQ : ∀ h1, (ex_P h1) → (cI C) → (c_v 6 C h1) → (c_d 6 C h1) → (h1.2.2.1 0 3 = some 6) → (sC 36 (d_109_s C s H p l) h1) → (hC (d_109_H C s H p l) h1) → (mC M h1) → (h1.1 0 12 = nI x) → Q (some (.int (d_109 C s H p l))) h1) : am_call am_cod 4 109 [.ref 0, .int (nI p), .int (nI l)] h Q := by
  have h6 := hT.1.2.1
  have h5 := hT.2.1.2.1
  refine pz_call (n := 109) (nL := 4) (rt := (some .int)) (rows := am_r109) (d := 3) (by decide +kernel) (by decide +kernel) rfl (by funext pc; rfl) (ex_175 hP) (by exact Nat.le_of_ble_eq_true rfl) ?_
  refine am_goX 3 (show am_rc h 0 10 ∧ 0 ≤ 8 ∧ h.2.2.2.2 + am_al 87 ≤ 175 ∧ am_call am_cod 3 87 [.ref 0, .int (nI p)] h (fun vv h' => pz_S 4 (some .int) am_r109 3 Q 5 [(0, .ref 0), (1, .int (nI p)), (2, .int (nI l))] (vv.toList ++ []) h') from ⟨Or.inl ⟨by decide, ex_0 hP⟩, by decide, ex_lim hP rfl, am_call.up (d_87_t6 hP hT hR ?_) (by decide)⟩)
  rw [show d_87 C (nI p) = Int32.ofInt 1 from (v_87 hp)]
  refine am_goX 1 (show ((Int32.ofInt 1) = 0 → pz_S 4 (some .int) am_r109 3 Q 17 [(0, .ref 0), (1, .int (nI p)), (2, .int (nI l))] [] h) ∧ (¬ ((Int32.ofInt 1) = 0) → pz_S 4 (some .int) am_r109 3 Q 8 [(0, .ref 0), (1, .int (nI p)), (2, .int (nI l))] [] h) from ⟨fun hz => absurd hz (by decide), fun _ => ?_⟩)
  refine am_goX 4 (show 0 ≤ 8 ∧ h.2.2.2.2 + am_al 60 ≤ 175 ∧ am_call am_cod 3 60 [.int (nI l), .int (Int32.ofInt 0), .int (Int32.ofInt 4)] h (fun vv h' => pz_S 4 (some .int) am_r109 3 Q 14 [(0, .ref 0), (1, .int (nI p)), (2, .int (nI l))] (vv.toList ++ []) h') from ⟨by decide, ex_lim hP rfl, am_call.up (d_60_w hP ?_) (by decide)⟩)
  rw [show d_60 (nI l) (Int32.ofInt 0) (Int32.ofInt 4) = Int32.ofInt 1 from (v_60 (lo := 0) (hi := 4) (by omega) (by omega) (by decide))]
  refine am_goX 1 (show (¬ (Int32.ofInt 1) = 0 → pz_S 4 (some .int) am_r109 3 Q 19 [(0, .ref 0), (1, .int (nI p)), (2, .int (nI l))] [] h) ∧ (¬ ¬ (Int32.ofInt 1) = 0 → pz_S 4 (some .int) am_r109 3 Q 17 [(0, .ref 0), (1, .int (nI p)), (2, .int (nI l))] [] h) from ⟨fun _ => ?_, fun hz => absurd (by decide) hz⟩)
  refine am_goX 2 (show am_sh h 0 = some (10, 0) ∧ pz_S 4 (some .int) am_r109 3 Q 23 [(0, .ref 0), (1, .int (nI p)), (2, .int (nI l))] [am_rf (h.2.2.1 0 10)] h from ⟨ex_0 hP, ?_⟩)
  rw [show am_rf (h.2.2.1 0 10) = .ref 47 from congrArg am_rf (ex_r0_10 hP)]
  refine am_goX 2 (show am_sh h 0 = some (10, 0) ∧ pz_S 4 (some .int) am_r109 3 Q 27 [(0, .ref 0), (1, .int (nI p)), (2, .int (nI l))] [am_rf (h.2.2.1 0 7), .ref 47] h from ⟨ex_0 hP, ?_⟩)
  rw [show am_rf (h.2.2.1 0 7) = .ref 36 from congrArg am_rf (ex_r0_7 hP)]
  refine am_goX 1 (show am_rc h 47 2 ∧ 0 ≤ 8 ∧ h.2.2.2.2 + am_al 98 ≤ 175 ∧ am_call am_cod 3 98 [.ref 47, .ref 36] h (fun vv h' => pz_S 4 (some .int) am_r109 3 Q 30 [(0, .ref 0), (1, .int (nI p)), (2, .int (nI l))] (vv.toList ++ []) h') from ⟨Or.inl ⟨by decide, ex_47 hP⟩, by decide, ex_lim hP rfl, am_call.up (k_98 hP hS hH (fun h29 f30 f31 f32 f33 => ?_)) (by decide)⟩)
  have f34 : c_v 6 C h29 := c_v_fr (fun a k u1 u2 => f32 a k (by omega)) hT
  have f35 : c_d 6 C h29 := c_d_fr (fun k => f32 _ k (by omega)) hD
  have f36 : h29.2.2.1 0 3 = some 6 := (congrArg (fun q => q.2.1 0 3) f31).trans hR
  have f37 : sC 36 s h29 := sC_fr (fun a k u1 u2 => f32 a k (by omega)) hS
  have f38 : mC M h29 := mC_fr (fun a k u1 u2 => f32 a k (by omega)) hM
  have f39 : h29.1 0 12 = nI x := (f32 0 12 (by omega)).trans hx
  refine am_goX 2 (show am_sh h29 0 = some (10, 0) ∧ pz_S 4 (some .int) am_r109 3 Q 34 [(0, .ref 0), (1, .int (nI p)), (2, .int (nI l))] [am_rf (h29.2.2.1 0 7)] h29 from ⟨ex_0 f30, ?_⟩)
  rw [show am_rf (h29.2.2.1 0 7) = .ref 36 from congrArg am_rf (ex_r0_7 f30)]
  refine am_goX 1 (show am_sh h29 36 = some (6, 0) ∧ pz_S 4 (some .int) am_r109 3 Q 37 [(0, .ref 0), (1, .int (nI p)), (2, .int (nI l))] [am_rf (h29.2.2.1 36 2)] h29 from ⟨ex_36 f30, ?_⟩)
  rw [show am_rf (h29.2.2.1 36 2) = .ref 37 from congrArg am_rf (ex_r36_2 f30)]
  refine am_goX 2 (show ∃ jj nn : Nat, am_sh h29 37 = some (13, nn) ∧ jj < nn ∧ nI p = nI jj ∧ pz_S 4 (some .int) am_r109 3 Q 39 [(0, .ref 0), (1, .int (nI p)), (2, .int (nI l))] [.int (h29.1 37 jj)] h29 from ⟨p, 6, ex_37 f30, (by omega), rfl, ?_⟩)
  rw [show h29.1 37 p = s.2.2.1 p from (f37.2.1 p (by omega)).1]
  refine am_goX 3 (show 3 < 4 ∧ am_sh h29 0 = some (10, 0) ∧ pz_S 4 (some .int) am_r109 3 Q 44 [(3, .int (s.2.2.1 p)), (0, .ref 0), (1, .int (nI p)), (2, .int (nI l))] [am_rf (h29.2.2.1 0 7)] h29 from ⟨by decide, ex_0 f30, ?_⟩)
  rw [show am_rf (h29.2.2.1 0 7) = .ref 36 from congrArg am_rf (ex_r0_7 f30)]
  refine am_goX 1 (show am_sh h29 36 = some (6, 0) ∧ pz_S 4 (some .int) am_r109 3 Q 47 [(3, .int (s.2.2.1 p)), (0, .ref 0), (1, .int (nI p)), (2, .int (nI l))] [am_rf (h29.2.2.1 36 2)] h29 from ⟨ex_36 f30, ?_⟩)
  rw [show am_rf (h29.2.2.1 36 2) = .ref 37 from congrArg am_rf (ex_r36_2 f30)]
  refine am_goX 3 (show ∃ jj nn : Nat, am_so h29 37 = some (13, nn) ∧ jj < nn ∧ nI p = nI jj ∧ pz_S 4 (some .int) am_r109 3 Q 50 [(3, .int (s.2.2.1 p)), (0, .ref 0), (1, .int (nI p)), (2, .int (nI l))] [] (am_wI h29 37 jj (nI l)) from ⟨p, 6, ex_w37 f30, (by omega), rfl, ?_⟩)
  have f41 : ex_P (am_wI h29 37 p (nI l)) := f30
  have f42 : cI C := hI
  have f43 : c_v 6 C (am_wI h29 37 p (nI l)) := c_v_w (by omega) f34
  have f44 : c_d 6 C (am_wI h29 37 p (nI l)) := c_d_w (by omega) f35
  have f45 : (am_wI h29 37 p (nI l)).2.2.1 0 3 = some 6 := f36
  have f46 : sC 36 (sSL s p (nI l)) (am_wI h29 37 p (nI l)) := sC_wL (by omega) f37
  have f47 : hC (hP1 H s) (am_wI h29 37 p (nI l)) := hC_w (by omega) f33
  have f48 : mC M (am_wI h29 37 p (nI l)) := mC_w (by omega) f38
  have f49 : (am_wI h29 37 p (nI l)).1 0 12 = nI x := (em_wn _ _ (by omega)).trans f39
  generalize am_wI h29 37 p (nI l) = h40 at f41 f42 f43 f44 f45 f46 f47 f48 f49 ⊢
  exact am_goX 2 (show (∃ ty, (some .int) = some ty ∧ narrow ty (.int (s.2.2.1 p)) = .int (s.2.2.1 p)) ∧ h40.2.2.2.2 = 175 ∧ _ from ⟨⟨.int, rfl, rfl⟩, ex_175 f41, hQ _ f41 f42 f43 f44 f45 f46 f47 f48 f49⟩)
def d_109x  : Int32 := Int32.ofInt (-1)
theorem d_109_xK6 (hP : ex_P h) (hI : cI C) (hT : c_v 6 C h) (hD : c_d 6 C h) (hR : h.2.2.1 0 3 = some 6) (hS : sC 36 s h) (hH : hC H h) (hM : mC M h) (hx : h.1 0 12 = nI x) (ey : d_87 C y = Int32.ofInt 0) (hQ : ∀ h1, (ex_P h1) → (cI C) → (c_v 6 C h1) → (c_d 6 C h1) → (h1.2.2.1 0 3 = some 6) → (sC 36 s h1) → (hC H h1) → (mC M h1) → (h1.1 0 12 = nI x) → Q (some (.int d_109x)) h1) : am_call am_cod 4 109 [.ref 0, .int y, .int w] h Q := by
  have h6 := hT.1.2.1
  have h5 := hT.2.1.2.1
  refine pz_call (n := 109) (nL := 4) (rt := (some .int)) (rows := am_r109) (d := 3) (by decide +kernel) (by decide +kernel) rfl (by funext pc; rfl) (ex_175 hP) (by exact Nat.le_of_ble_eq_true rfl) ?_
  refine am_goX 3 (show am_rc h 0 10 ∧ 0 ≤ 8 ∧ h.2.2.2.2 + am_al 87 ≤ 175 ∧ am_call am_cod 3 87 [.ref 0, .int y] h (fun vv h' => pz_S 4 (some .int) am_r109 3 Q 5 [(0, .ref 0), (1, .int y), (2, .int w)] (vv.toList ++ []) h') from ⟨Or.inl ⟨by decide, ex_0 hP⟩, by decide, ex_lim hP rfl, am_call.up (d_87_t6 hP hT hR ?_) (by decide)⟩)
  rw [show d_87 C y = Int32.ofInt 0 from ey]
  refine am_goX 1 (show ((Int32.ofInt 0) = 0 → pz_S 4 (some .int) am_r109 3 Q 17 [(0, .ref 0), (1, .int y), (2, .int w)] [] h) ∧ (¬ ((Int32.ofInt 0) = 0) → pz_S 4 (some .int) am_r109 3 Q 8 [(0, .ref 0), (1, .int y), (2, .int w)] [] h) from ⟨fun _ => ?_, fun hz => absurd (by decide) hz⟩)
  exact am_goX 2 (show (∃ ty, (some .int) = some ty ∧ narrow ty (.int (Int32.ofInt (-1))) = .int (Int32.ofInt (-1))) ∧ h.2.2.2.2 = 175 ∧ _ from ⟨⟨.int, rfl, rfl⟩, ex_175 hP, hQ _ hP hI hT hD hR hS hH hM hx⟩)
theorem d_109_yK6 (hP : ex_P h) (hI : cI C) (hT : c_v 6 C h) (hD : c_d 6 C h) (hR : h.2.2.1 0 3 = some 6) (hS : sC 36 s h) (hH : hC H h) (hM : mC M h) (hx : h.1 0 12 = nI x) (hp : p < dP C) (ew : d_60 w (Int32.ofInt 0) (Int32.ofInt 4) = Int32.ofInt 0) (hQ : ∀ h1, (ex_P h1) → (cI C) → (c_v 6 C h1) → (c_d 6 C h1) → (h1.2.2.1 0 3 = some 6) → (sC 36 s h1) → (hC H h1) → (mC M h1) → (h1.1 0 12 = nI x) → Q (some (.int d_109x)) h1) : am_call am_cod 4 109 [.ref 0, .int (nI p), .int w] h Q := by
  have h6 := hT.1.2.1
  have h5 := hT.2.1.2.1
  refine pz_call (n := 109) (nL := 4) (rt := (some .int)) (rows := am_r109) (d := 3) (by decide +kernel) (by decide +kernel) rfl (by funext pc; rfl) (ex_175 hP) (by exact Nat.le_of_ble_eq_true rfl) ?_
  refine am_goX 3 (show am_rc h 0 10 ∧ 0 ≤ 8 ∧ h.2.2.2.2 + am_al 87 ≤ 175 ∧ am_call am_cod 3 87 [.ref 0, .int (nI p)] h (fun vv h' => pz_S 4 (some .int) am_r109 3 Q 5 [(0, .ref 0), (1, .int (nI p)), (2, .int w)] (vv.toList ++ []) h') from ⟨Or.inl ⟨by decide, ex_0 hP⟩, by decide, ex_lim hP rfl, am_call.up (d_87_t6 hP hT hR ?_) (by decide)⟩)
  rw [show d_87 C (nI p) = Int32.ofInt 1 from (v_87 hp)]
  refine am_goX 1 (show ((Int32.ofInt 1) = 0 → pz_S 4 (some .int) am_r109 3 Q 17 [(0, .ref 0), (1, .int (nI p)), (2, .int w)] [] h) ∧ (¬ ((Int32.ofInt 1) = 0) → pz_S 4 (some .int) am_r109 3 Q 8 [(0, .ref 0), (1, .int (nI p)), (2, .int w)] [] h) from ⟨fun hz => absurd hz (by decide), fun _ => ?_⟩)
  refine am_goX 4 (show 0 ≤ 8 ∧ h.2.2.2.2 + am_al 60 ≤ 175 ∧ am_call am_cod 3 60 [.int w, .int (Int32.ofInt 0), .int (Int32.ofInt 4)] h (fun vv h' => pz_S 4 (some .int) am_r109 3 Q 14 [(0, .ref 0), (1, .int (nI p)), (2, .int w)] (vv.toList ++ []) h') from ⟨by decide, ex_lim hP rfl, am_call.up (d_60_w hP ?_) (by decide)⟩)
  rw [show d_60 w (Int32.ofInt 0) (Int32.ofInt 4) = Int32.ofInt 0 from ew]
  refine am_goX 1 (show (¬ (Int32.ofInt 0) = 0 → pz_S 4 (some .int) am_r109 3 Q 19 [(0, .ref 0), (1, .int (nI p)), (2, .int w)] [] h) ∧ (¬ ¬ (Int32.ofInt 0) = 0 → pz_S 4 (some .int) am_r109 3 Q 17 [(0, .ref 0), (1, .int (nI p)), (2, .int w)] [] h) from ⟨fun hz => absurd hz (by decide), fun _ => ?_⟩)
  exact am_goX 2 (show (∃ ty, (some .int) = some ty ∧ narrow ty (.int (Int32.ofInt (-1))) = .int (Int32.ofInt (-1))) ∧ h.2.2.2.2 = 175 ∧ _ from ⟨⟨.int, rfl, rfl⟩, ex_175 hP, hQ _ hP hI hT hD hR hS hH hM hx⟩)
def d_111_s (s : dS) (p : Nat) : dS := sSX (sSL s p (Int32.ofInt 2)) (((sSL s p (Int32.ofInt 2)).2.1) + (Int32.ofInt 1))
theorem d_111_K6 (hP : ex_P h) (hI : cI C) (hT : c_v 6 C h) (hD : c_d 6 C h) (hR : h.2.2.1 0 3 = some 6) (hS : sC 36 s h) (hH : hC H h) (hM : mC M h) (hx : h.1 0 12 = nI x) (hp : p < dP C) (hQ : ∀ h1, (ex_P h1) → (cI C) → (c_v 6 C h1) → (c_d 6 C h1) → (h1.2.2.1 0 3 = some 6) → (sC 36 (d_111_s s p) h1) → (hC H h1) → (mC M h1) → (h1.1 0 12 = nI x) → Q none h1) : am_call am_cod 1 111 [.ref 36, .int (nI p)] h Q := by
  have h6 := hT.1.2.1
  have h5 := hT.2.1.2.1
  refine pz_call (n := 111) (nL := 2) (rt := none) (rows := am_r111) (d := 0) (by decide +kernel) (by decide +kernel) rfl (by funext pc; rfl) (ex_175 hP) (by exact Nat.le_of_ble_eq_true rfl) ?_
  refine am_goX 2 (show am_sh h 36 = some (6, 0) ∧ pz_S 2 none am_r111 0 Q 4 [(0, .ref 36), (1, .int (nI p))] [am_rf (h.2.2.1 36 2)] h from ⟨ex_36 hP, ?_⟩)
  rw [show am_rf (h.2.2.1 36 2) = .ref 37 from congrArg am_rf (ex_r36_2 hP)]
  refine am_goX 3 (show ∃ jj nn : Nat, am_so h 37 = some (13, nn) ∧ jj < nn ∧ nI p = nI jj ∧ pz_S 2 none am_r111 0 Q 7 [(0, .ref 36), (1, .int (nI p))] [] (am_wI h 37 jj (Int32.ofInt 2)) from ⟨p, 6, ex_w37 hP, (by omega), rfl, ?_⟩)
  have f51 : ex_P (am_wI h 37 p (Int32.ofInt 2)) := hP
  have f52 : cI C := hI
  have f53 : c_v 6 C (am_wI h 37 p (Int32.ofInt 2)) := c_v_w (by omega) hT
  have f54 : c_d 6 C (am_wI h 37 p (Int32.ofInt 2)) := c_d_w (by omega) hD
  have f55 : (am_wI h 37 p (Int32.ofInt 2)).2.2.1 0 3 = some 6 := hR
  have f56 : sC 36 (sSL s p (Int32.ofInt 2)) (am_wI h 37 p (Int32.ofInt 2)) := sC_wL (by omega) hS
  have f57 : hC H (am_wI h 37 p (Int32.ofInt 2)) := hC_w (by omega) hH
  have f58 : mC M (am_wI h 37 p (Int32.ofInt 2)) := mC_w (by omega) hM
  have f59 : (am_wI h 37 p (Int32.ofInt 2)).1 0 12 = nI x := (em_wn _ _ (by omega)).trans hx
  generalize am_wI h 37 p (Int32.ofInt 2) = h50 at f51 f52 f53 f54 f55 f56 f57 f58 f59 ⊢
  refine am_goX 3 (show (Value.ref 36).category = 1 ∧ am_sh h50 36 = some (6, 0) ∧ pz_S 2 none am_r111 0 Q 12 [(0, .ref 36), (1, .int (nI p))] [.int (h50.1 36 1), .ref 36] h50 from ⟨rfl, ex_36 f51, ?_⟩)
  rw [show h50.1 36 1 = (sSL s p (Int32.ofInt 2)).2.1 from f56.1.2]
  refine am_goX 3 (show am_sh h50 36 = some (6, 0) ∧ narrow (am_fty 6 1) (.int (((sSL s p (Int32.ofInt 2)).2.1) + (Int32.ofInt 1))) = .int (((sSL s p (Int32.ofInt 2)).2.1) + (Int32.ofInt 1)) ∧ fits (am_fty 6 1) (.int (((sSL s p (Int32.ofInt 2)).2.1) + (Int32.ofInt 1))) = true ∧ pz_S 2 none am_r111 0 Q 17 [(0, .ref 36), (1, .int (nI p))] [] (am_wI h50 36 1 (((sSL s p (Int32.ofInt 2)).2.1) + (Int32.ofInt 1))) from ⟨ex_36 f51, rfl, rfl, ?_⟩)
  have f61 : ex_P (am_wI h50 36 1 (((sSL s p (Int32.ofInt 2)).2.1) + (Int32.ofInt 1))) := f51
  have f62 : cI C := f52
  have f63 : c_v 6 C (am_wI h50 36 1 (((sSL s p (Int32.ofInt 2)).2.1) + (Int32.ofInt 1))) := c_v_w (by omega) f53
  have f64 : c_d 6 C (am_wI h50 36 1 (((sSL s p (Int32.ofInt 2)).2.1) + (Int32.ofInt 1))) := c_d_w (by omega) f54
  have f65 : (am_wI h50 36 1 (((sSL s p (Int32.ofInt 2)).2.1) + (Int32.ofInt 1))).2.2.1 0 3 = some 6 := f55
  have f66 : sC 36 (sSX (sSL s p (Int32.ofInt 2)) (((sSL s p (Int32.ofInt 2)).2.1) + (Int32.ofInt 1))) (am_wI h50 36 1 (((sSL s p (Int32.ofInt 2)).2.1) + (Int32.ofInt 1))) := sC_wX (by omega) f56
  have f67 : hC H (am_wI h50 36 1 (((sSL s p (Int32.ofInt 2)).2.1) + (Int32.ofInt 1))) := hC_w (by omega) f57
  have f68 : mC M (am_wI h50 36 1 (((sSL s p (Int32.ofInt 2)).2.1) + (Int32.ofInt 1))) := mC_w (by omega) f58
  have f69 : (am_wI h50 36 1 (((sSL s p (Int32.ofInt 2)).2.1) + (Int32.ofInt 1))).1 0 12 = nI x := (em_wn _ _ (by omega)).trans f59
  generalize am_wI h50 36 1 (((sSL s p (Int32.ofInt 2)).2.1) + (Int32.ofInt 1)) = h60 at f61 f62 f63 f64 f65 f66 f67 f68 f69 ⊢
  exact am_goX 1 (show (none : Option FieldType) = none ∧ h60.2.2.2.2 = 175 ∧ _ from ⟨rfl, ex_175 f61, hQ _ f61 f62 f63 f64 f65 f66 f67 f68 f69⟩)
def d_110_s (C : sp_C) (s : dS) (H : dH) (p : Nat) : dS := d_111_s s p
def d_110_H (C : sp_C) (s : dS) (H : dH) (p : Nat) : dH := (hP1 H s)
def d_110 (C : sp_C) (s : dS) (H : dH) (p : Nat) : Int32 := (d_111_s s p).2.1
theorem d_110_K6 (hP : ex_P h) (hI : cI C) (hT : c_v 6 C h) (hD : c_d 6 C h) (hR : h.2.2.1 0 3 = some 6) (hS : sC 36 s h) (hH : hC H h) (hM : mC M h) (hx : h.1 0 12 = nI x) (hp : p < dP C) (hQ : ∀ h1, (ex_P h1) → (cI C) → (c_v 6 C h1) → (c_d 6 C h1) → (h1.2.2.1 0 3 = some 6) → (sC 36 (d_110_s C s H p) h1) → (hC (d_110_H C s H p) h1) → (mC M h1) → (h1.1 0 12 = nI x) → Q (some (.int (d_110 C s H p))) h1) : am_call am_cod 4 110 [.ref 0, .int (nI p)] h Q := by
  have h6 := hT.1.2.1
  have h5 := hT.2.1.2.1
  refine pz_call (n := 110) (nL := 2) (rt := (some .int)) (rows := am_r110) (d := 3) (by decide +kernel) (by decide +kernel) rfl (by funext pc; rfl) (ex_175 hP) (by exact Nat.le_of_ble_eq_true rfl) ?_
  refine am_goX 3 (show am_rc h 0 10 ∧ 0 ≤ 8 ∧ h.2.2.2.2 + am_al 87 ≤ 175 ∧ am_call am_cod 3 87 [.ref 0, .int (nI p)] h (fun vv h' => pz_S 2 (some .int) am_r110 3 Q 5 [(0, .ref 0), (1, .int (nI p))] (vv.toList ++ []) h') from ⟨Or.inl ⟨by decide, ex_0 hP⟩, by decide, ex_lim hP rfl, am_call.up (d_87_t6 hP hT hR ?_) (by decide)⟩)
  rw [show d_87 C (nI p) = Int32.ofInt 1 from (v_87 hp)]
  refine am_goX 1 (show (¬ (Int32.ofInt 1) = 0 → pz_S 2 (some .int) am_r110 3 Q 10 [(0, .ref 0), (1, .int (nI p))] [] h) ∧ (¬ ¬ (Int32.ofInt 1) = 0 → pz_S 2 (some .int) am_r110 3 Q 8 [(0, .ref 0), (1, .int (nI p))] [] h) from ⟨fun _ => ?_, fun hz => absurd (by decide) hz⟩)
  refine am_goX 2 (show am_sh h 0 = some (10, 0) ∧ pz_S 2 (some .int) am_r110 3 Q 14 [(0, .ref 0), (1, .int (nI p))] [am_rf (h.2.2.1 0 10)] h from ⟨ex_0 hP, ?_⟩)
  rw [show am_rf (h.2.2.1 0 10) = .ref 47 from congrArg am_rf (ex_r0_10 hP)]
  refine am_goX 2 (show am_sh h 0 = some (10, 0) ∧ pz_S 2 (some .int) am_r110 3 Q 18 [(0, .ref 0), (1, .int (nI p))] [am_rf (h.2.2.1 0 7), .ref 47] h from ⟨ex_0 hP, ?_⟩)
  rw [show am_rf (h.2.2.1 0 7) = .ref 36 from congrArg am_rf (ex_r0_7 hP)]
  refine am_goX 1 (show am_rc h 47 2 ∧ 0 ≤ 8 ∧ h.2.2.2.2 + am_al 98 ≤ 175 ∧ am_call am_cod 3 98 [.ref 47, .ref 36] h (fun vv h' => pz_S 2 (some .int) am_r110 3 Q 21 [(0, .ref 0), (1, .int (nI p))] (vv.toList ++ []) h') from ⟨Or.inl ⟨by decide, ex_47 hP⟩, by decide, ex_lim hP rfl, am_call.up (k_98 hP hS hH (fun h70 f71 f72 f73 f74 => ?_)) (by decide)⟩)
  have f75 : c_v 6 C h70 := c_v_fr (fun a k u1 u2 => f73 a k (by omega)) hT
  have f76 : c_d 6 C h70 := c_d_fr (fun k => f73 _ k (by omega)) hD
  have f77 : h70.2.2.1 0 3 = some 6 := (congrArg (fun q => q.2.1 0 3) f72).trans hR
  have f78 : sC 36 s h70 := sC_fr (fun a k u1 u2 => f73 a k (by omega)) hS
  have f79 : mC M h70 := mC_fr (fun a k u1 u2 => f73 a k (by omega)) hM
  have f80 : h70.1 0 12 = nI x := (f73 0 12 (by omega)).trans hx
  refine am_goX 2 (show am_sh h70 0 = some (10, 0) ∧ pz_S 2 (some .int) am_r110 3 Q 25 [(0, .ref 0), (1, .int (nI p))] [am_rf (h70.2.2.1 0 7)] h70 from ⟨ex_0 f71, ?_⟩)
  rw [show am_rf (h70.2.2.1 0 7) = .ref 36 from congrArg am_rf (ex_r0_7 f71)]
  refine am_goX 2 (show am_rc h70 36 6 ∧ 0 ≤ 8 ∧ h70.2.2.2.2 + am_al 111 ≤ 175 ∧ am_call am_cod 3 111 [.ref 36, .int (nI p)] h70 (fun vv h' => pz_S 2 (some .int) am_r110 3 Q 29 [(0, .ref 0), (1, .int (nI p))] (vv.toList ++ []) h') from ⟨Or.inl ⟨by decide, ex_36 f71⟩, by decide, ex_lim f71 rfl, am_call.up (d_111_K6 f71 hI f75 f76 f77 f78 f74 f79 f80 (by omega) (fun h81 f82 f83 f84 f85 f86 f87 f88 f89 f90 => ?_)) (by decide)⟩)
  refine am_goX 2 (show am_sh h81 0 = some (10, 0) ∧ pz_S 2 (some .int) am_r110 3 Q 33 [(0, .ref 0), (1, .int (nI p))] [am_rf (h81.2.2.1 0 7)] h81 from ⟨ex_0 f82, ?_⟩)
  rw [show am_rf (h81.2.2.1 0 7) = .ref 36 from congrArg am_rf (ex_r0_7 f82)]
  refine am_goX 1 (show am_sh h81 36 = some (6, 0) ∧ pz_S 2 (some .int) am_r110 3 Q 36 [(0, .ref 0), (1, .int (nI p))] [.int (h81.1 36 1)] h81 from ⟨ex_36 f82, ?_⟩)
  rw [show h81.1 36 1 = (d_111_s s p).2.1 from f87.1.2]
  exact am_goX 1 (show (∃ ty, (some .int) = some ty ∧ narrow ty (.int ((d_111_s s p).2.1)) = .int ((d_111_s s p).2.1)) ∧ h81.2.2.2.2 = 175 ∧ _ from ⟨⟨.int, rfl, rfl⟩, ex_175 f82, hQ _ f82 f83 f84 f85 f86 f87 f88 f89 f90⟩)
def d_110x  : Int32 := Int32.ofInt (-1)
theorem d_110_xK6 (hP : ex_P h) (hI : cI C) (hT : c_v 6 C h) (hD : c_d 6 C h) (hR : h.2.2.1 0 3 = some 6) (hS : sC 36 s h) (hH : hC H h) (hM : mC M h) (hx : h.1 0 12 = nI x) (ey : d_87 C y = Int32.ofInt 0) (hQ : ∀ h1, (ex_P h1) → (cI C) → (c_v 6 C h1) → (c_d 6 C h1) → (h1.2.2.1 0 3 = some 6) → (sC 36 s h1) → (hC H h1) → (mC M h1) → (h1.1 0 12 = nI x) → Q (some (.int d_110x)) h1) : am_call am_cod 4 110 [.ref 0, .int y] h Q := by
  have h6 := hT.1.2.1
  have h5 := hT.2.1.2.1
  refine pz_call (n := 110) (nL := 2) (rt := (some .int)) (rows := am_r110) (d := 3) (by decide +kernel) (by decide +kernel) rfl (by funext pc; rfl) (ex_175 hP) (by exact Nat.le_of_ble_eq_true rfl) ?_
  refine am_goX 3 (show am_rc h 0 10 ∧ 0 ≤ 8 ∧ h.2.2.2.2 + am_al 87 ≤ 175 ∧ am_call am_cod 3 87 [.ref 0, .int y] h (fun vv h' => pz_S 2 (some .int) am_r110 3 Q 5 [(0, .ref 0), (1, .int y)] (vv.toList ++ []) h') from ⟨Or.inl ⟨by decide, ex_0 hP⟩, by decide, ex_lim hP rfl, am_call.up (d_87_t6 hP hT hR ?_) (by decide)⟩)
  rw [show d_87 C y = Int32.ofInt 0 from ey]
  refine am_goX 1 (show (¬ (Int32.ofInt 0) = 0 → pz_S 2 (some .int) am_r110 3 Q 10 [(0, .ref 0), (1, .int y)] [] h) ∧ (¬ ¬ (Int32.ofInt 0) = 0 → pz_S 2 (some .int) am_r110 3 Q 8 [(0, .ref 0), (1, .int y)] [] h) from ⟨fun hz => absurd hz (by decide), fun _ => ?_⟩)
  exact am_goX 2 (show (∃ ty, (some .int) = some ty ∧ narrow ty (.int (Int32.ofInt (-1))) = .int (Int32.ofInt (-1))) ∧ h.2.2.2.2 = 175 ∧ _ from ⟨⟨.int, rfl, rfl⟩, ex_175 hP, hQ _ hP hI hT hD hR hS hH hM hx⟩)
def d_112_s (H : dH) : dS := (H.2 0)
def d_112_H (H : dH) : dH := (hP0 H)
def d_112 (H : dH) : Int32 := Int32.ofInt 1
theorem d_112_K6 (hP : ex_P h) (hI : cI C) (hT : c_v 6 C h) (hD : c_d 6 C h) (hR : h.2.2.1 0 3 = some 6) (hS : sC 36 s h) (hH : hC H h) (hM : mC M h) (hx : h.1 0 12 = nI x) (hn : 0 < H.1) (hQ : ∀ h1, (ex_P h1) → (cI C) → (c_v 6 C h1) → (c_d 6 C h1) → (h1.2.2.1 0 3 = some 6) → (sC 36 (d_112_s H) h1) → (hC (d_112_H H) h1) → (mC M h1) → (h1.1 0 12 = nI x) → Q (some (.int (d_112 H))) h1) : am_call am_cod 3 112 [.ref 0] h Q := by
  have h6 := hT.1.2.1
  have h5 := hT.2.1.2.1
  refine pz_call (n := 112) (nL := 1) (rt := (some .boolean)) (rows := am_r112) (d := 2) (by decide +kernel) (by decide +kernel) rfl (by funext pc; rfl) (ex_175 hP) (by exact Nat.le_of_ble_eq_true rfl) ?_
  refine am_goX 2 (show am_sh h 0 = some (10, 0) ∧ pz_S 1 (some .boolean) am_r112 2 Q 4 [(0, .ref 0)] [am_rf (h.2.2.1 0 10)] h from ⟨ex_0 hP, ?_⟩)
  rw [show am_rf (h.2.2.1 0 10) = .ref 47 from congrArg am_rf (ex_r0_10 hP)]
  refine am_goX 2 (show am_sh h 0 = some (10, 0) ∧ pz_S 1 (some .boolean) am_r112 2 Q 8 [(0, .ref 0)] [am_rf (h.2.2.1 0 7), .ref 47] h from ⟨ex_0 hP, ?_⟩)
  rw [show am_rf (h.2.2.1 0 7) = .ref 36 from congrArg am_rf (ex_r0_7 hP)]
  refine am_goX 1 (show am_rc h 47 2 ∧ 0 ≤ 8 ∧ h.2.2.2.2 + am_al 113 ≤ 175 ∧ am_call am_cod 2 113 [.ref 47, .ref 36] h (fun vv h' => pz_S 1 (some .boolean) am_r112 2 Q 11 [(0, .ref 0)] (vv.toList ++ []) h') from ⟨Or.inl ⟨by decide, ex_47 hP⟩, by decide, ex_lim hP rfl, am_call.up (k_113 hn hP hH (fun h91 f92 f93 f94 f95 f96 => ?_)) (by decide)⟩)
  have f97 : c_v 6 C h91 := c_v_fr (fun a k u1 u2 => f94 a k (by omega) (by omega)) hT
  have f98 : c_d 6 C h91 := c_d_fr (fun k => f94 _ k (by omega) (by omega)) hD
  have f99 : h91.2.2.1 0 3 = some 6 := (congrArg (fun q => q.2.1 0 3) f93).trans hR
  have f100 : mC M h91 := mC_fr (fun a k u1 u2 => f94 a k (by omega) (by omega)) hM
  have f101 : h91.1 0 12 = nI x := (f94 0 12 (by omega) (by omega)).trans hx
  exact am_goX 1 (show (∃ ty, (some .boolean) = some ty ∧ narrow ty (.int (Int32.ofInt 1)) = .int (Int32.ofInt 1)) ∧ h91.2.2.2.2 = 175 ∧ _ from ⟨⟨.boolean, rfl, rfl⟩, ex_175 f92, hQ _ f92 hI f97 f98 f99 f96 f95 f100 f101⟩)
def d_112z  : Int32 := Int32.ofInt 0
theorem d_112_zK6 (hP : ex_P h) (hI : cI C) (hT : c_v 6 C h) (hD : c_d 6 C h) (hR : h.2.2.1 0 3 = some 6) (hS : sC 36 s h) (hH : hC H h) (hM : mC M h) (hx : h.1 0 12 = nI x) (hn : H.1 = 0) (hQ : ∀ h1, (ex_P h1) → (cI C) → (c_v 6 C h1) → (c_d 6 C h1) → (h1.2.2.1 0 3 = some 6) → (sC 36 s h1) → (hC H h1) → (mC M h1) → (h1.1 0 12 = nI x) → Q (some (.int d_112z)) h1) : am_call am_cod 3 112 [.ref 0] h Q := by
  have h6 := hT.1.2.1
  have h5 := hT.2.1.2.1
  refine pz_call (n := 112) (nL := 1) (rt := (some .boolean)) (rows := am_r112) (d := 2) (by decide +kernel) (by decide +kernel) rfl (by funext pc; rfl) (ex_175 hP) (by exact Nat.le_of_ble_eq_true rfl) ?_
  refine am_goX 2 (show am_sh h 0 = some (10, 0) ∧ pz_S 1 (some .boolean) am_r112 2 Q 4 [(0, .ref 0)] [am_rf (h.2.2.1 0 10)] h from ⟨ex_0 hP, ?_⟩)
  rw [show am_rf (h.2.2.1 0 10) = .ref 47 from congrArg am_rf (ex_r0_10 hP)]
  refine am_goX 2 (show am_sh h 0 = some (10, 0) ∧ pz_S 1 (some .boolean) am_r112 2 Q 8 [(0, .ref 0)] [am_rf (h.2.2.1 0 7), .ref 47] h from ⟨ex_0 hP, ?_⟩)
  rw [show am_rf (h.2.2.1 0 7) = .ref 36 from congrArg am_rf (ex_r0_7 hP)]
  refine am_goX 1 (show am_rc h 47 2 ∧ 0 ≤ 8 ∧ h.2.2.2.2 + am_al 113 ≤ 175 ∧ am_call am_cod 2 113 [.ref 47, .ref 36] h (fun vv h' => pz_S 1 (some .boolean) am_r112 2 Q 11 [(0, .ref 0)] (vv.toList ++ []) h') from ⟨Or.inl ⟨by decide, ex_47 hP⟩, by decide, ex_lim hP rfl, am_call.up (k_113z hn hP hH ?_) (by decide)⟩)
  exact am_goX 1 (show (∃ ty, (some .boolean) = some ty ∧ narrow ty (.int (Int32.ofInt 0)) = .int (Int32.ofInt 0)) ∧ h.2.2.2.2 = 175 ∧ _ from ⟨⟨.boolean, rfl, rfl⟩, ex_175 hP, hQ _ hP hI hT hD hR hS hH hM hx⟩)
theorem d_97_K17 (hP : ex_P h) (hI : cI C) (hT : c_v 17 C h) (hD : c_d 17 C h) (hR : h.2.2.1 0 3 = some 17) (hS : sC 36 s h) (hH : hC H h) (hM : mC M h) (hx : h.1 0 12 = nI x)  (hQ : ∀ h1, (ex_P h1) → (cI C) → (c_v 17 C h1) → (c_d 17 C h1) → (h1.2.2.1 0 3 = some 17) → (sC 36 (d_97_s C s H) h1) → (hC (d_97_H C s H) h1) → (mC M h1) → (h1.1 0 12 = nI x) → Q (some (.int (d_97 C s H))) h1) : am_call am_cod 8 97 [.ref 0] h Q := by
  have h6 := hT.1.2.1
  have h5 := hT.2.1.2.1
  refine pz_call (n := 97) (nL := 1) (rt := (some .int)) (rows := am_r97) (d := 7) (by decide +kernel) (by decide +kernel) rfl (by funext pc; rfl) (ex_175 hP) (by exact Nat.le_of_ble_eq_true rfl) ?_
  refine am_goX 2 (show am_sh h 0 = some (10, 0) ∧ pz_S 1 (some .int) am_r97 7 Q 4 [(0, .ref 0)] [am_rf (h.2.2.1 0 10)] h from ⟨ex_0 hP, ?_⟩)
  rw [show am_rf (h.2.2.1 0 10) = .ref 47 from congrArg am_rf (ex_r0_10 hP)]
  refine am_goX 2 (show am_sh h 0 = some (10, 0) ∧ pz_S 1 (some .int) am_r97 7 Q 8 [(0, .ref 0)] [am_rf (h.2.2.1 0 7), .ref 47] h from ⟨ex_0 hP, ?_⟩)
  rw [show am_rf (h.2.2.1 0 7) = .ref 36 from congrArg am_rf (ex_r0_7 hP)]
  refine am_goX 1 (show am_rc h 47 2 ∧ 0 ≤ 8 ∧ h.2.2.2.2 + am_al 98 ≤ 175 ∧ am_call am_cod 7 98 [.ref 47, .ref 36] h (fun vv h' => pz_S 1 (some .int) am_r97 7 Q 11 [(0, .ref 0)] (vv.toList ++ []) h') from ⟨Or.inl ⟨by decide, ex_47 hP⟩, by decide, ex_lim hP rfl, am_call.up (k_98 hP hS hH (fun h102 f103 f104 f105 f106 => ?_)) (by decide)⟩)
  have f107 : c_v 17 C h102 := c_v_fr (fun a k u1 u2 => f105 a k (by omega)) hT
  have f108 : c_d 17 C h102 := c_d_fr (fun k => f105 _ k (by omega)) hD
  have f109 : h102.2.2.1 0 3 = some 17 := (congrArg (fun q => q.2.1 0 3) f104).trans hR
  have f110 : sC 36 s h102 := sC_fr (fun a k u1 u2 => f105 a k (by omega)) hS
  have f111 : mC M h102 := mC_fr (fun a k u1 u2 => f105 a k (by omega)) hM
  have f112 : h102.1 0 12 = nI x := (f105 0 12 (by omega)).trans hx
  refine am_goX 2 (show am_sh h102 0 = some (10, 0) ∧ pz_S 1 (some .int) am_r97 7 Q 15 [(0, .ref 0)] [am_rf (h102.2.2.1 0 3)] h102 from ⟨ex_0 f103, ?_⟩)
  rw [show am_rf (h102.2.2.1 0 3) = .ref 17 from congrArg am_rf (f109)]
  refine am_goX 2 (show am_sh h102 0 = some (10, 0) ∧ pz_S 1 (some .int) am_r97 7 Q 19 [(0, .ref 0)] [am_rf (h102.2.2.1 0 7), .ref 17] h102 from ⟨ex_0 f103, ?_⟩)
  rw [show am_rf (h102.2.2.1 0 7) = .ref 36 from congrArg am_rf (ex_r0_7 f103)]
  refine am_goX 2 (show am_sh h102 0 = some (10, 0) ∧ pz_S 1 (some .int) am_r97 7 Q 23 [(0, .ref 0)] [am_rf (h102.2.2.1 0 3), .ref 36, .ref 17] h102 from ⟨ex_0 f103, ?_⟩)
  rw [show am_rf (h102.2.2.1 0 3) = .ref 17 from congrArg am_rf (f109)]
  refine am_goX 2 (show am_sh h102 0 = some (10, 0) ∧ pz_S 1 (some .int) am_r97 7 Q 27 [(0, .ref 0)] [am_rf (h102.2.2.1 0 7), .ref 17, .ref 36, .ref 17] h102 from ⟨ex_0 f103, ?_⟩)
  rw [show am_rf (h102.2.2.1 0 7) = .ref 36 from congrArg am_rf (ex_r0_7 f103)]
  refine am_goX 1 (show am_sh h102 36 = some (6, 0) ∧ pz_S 1 (some .int) am_r97 7 Q 30 [(0, .ref 0)] [.int (h102.1 36 0), .ref 17, .ref 36, .ref 17] h102 from ⟨ex_36 f103, ?_⟩)
  rw [show h102.1 36 0 = s.1 from f110.1.1]
  refine am_goX 3 (show am_rc h102 17 0 ∧ 2 ≤ 8 ∧ h102.2.2.2.2 + am_al 68 ≤ 175 ∧ am_call am_cod 7 68 [.ref 17, .int (s.1 + (Int32.ofInt 1))] h102 (fun vv h' => pz_S 1 (some .int) am_r97 7 Q 35 [(0, .ref 0)] (vv.toList ++ [.ref 36, .ref 17]) h') from ⟨Or.inl ⟨by decide, ex_17 f103⟩, by decide, ex_lim f103 rfl, am_call.up (d_68_t17 f103 f107 ?_) (by decide)⟩)
  refine am_goX 1 (show am_rc h102 17 0 ∧ 0 ≤ 8 ∧ h102.2.2.2.2 + am_al 100 ≤ 175 ∧ am_call am_cod 7 100 [.ref 17, .ref 36, .int (d_68 C (s.1 + (Int32.ofInt 1)))] h102 (fun vv h' => pz_S 1 (some .int) am_r97 7 Q 38 [(0, .ref 0)] (vv.toList ++ []) h') from ⟨Or.inl ⟨by decide, ex_17 f103⟩, by decide, ex_lim f103 rfl, am_call.up (d_100_t17_36 f103 hI f107 f108 f110 (fC_0 (c := 17) (h := h102)) (fun h113 f114 f115 f116 f117 f118 f119 => ?_)) (by decide)⟩)
  have f120 : h113.2.2.1 0 3 = some 17 := (congrArg (fun q => q.2.1 0 3) f119.1).trans f109
  have f121 : hC (hP1 H s) h113 := hC_fr (fun a k u1 u2 => f119.2 a k (by omega) (by omega)) f106
  have f122 : mC M h113 := mC_fr (fun a k u1 u2 => f119.2 a k (by omega) (by omega)) f111
  have f123 : h113.1 0 12 = nI x := (f119.2 0 12 (by omega) (by omega)).trans f112
  exact am_goX 1 (show (∃ ty, (some .int) = some ty ∧ narrow ty (.int (d_100 C s (d_68 C (s.1 + (Int32.ofInt 1))))) = .int (d_100 C s (d_68 C (s.1 + (Int32.ofInt 1))))) ∧ h113.2.2.2.2 = 175 ∧ _ from ⟨⟨.int, rfl, rfl⟩, ex_175 f114, hQ _ f114 f115 f116 f117 f120 f118 f121 f122 f123⟩)
theorem d_109_K17 (hP : ex_P h) (hI : cI C) (hT : c_v 17 C h) (hD : c_d 17 C h) (hR : h.2.2.1 0 3 = some 17) (hS : sC 36 s h) (hH : hC H h) (hM : mC M h) (hx : h.1 0 12 = nI x) (hp : p < dP C) (hl : l < 5) (hQ : ∀ h1, (ex_P h1) → (cI C) → (c_v 17 C h1) → (c_d 17 C h1) → (h1.2.2.1 0 3 = some 17) → (sC 36 (d_109_s C s H p l) h1) → (hC (d_109_H C s H p l) h1) → (mC M h1) → (h1.1 0 12 = nI x) → Q (some (.int (d_109 C s H p l))) h1) : am_call am_cod 4 109 [.ref 0, .int (nI p), .int (nI l)] h Q := by
  have h6 := hT.1.2.1
  have h5 := hT.2.1.2.1
  refine pz_call (n := 109) (nL := 4) (rt := (some .int)) (rows := am_r109) (d := 3) (by decide +kernel) (by decide +kernel) rfl (by funext pc; rfl) (ex_175 hP) (by exact Nat.le_of_ble_eq_true rfl) ?_
  refine am_goX 3 (show am_rc h 0 10 ∧ 0 ≤ 8 ∧ h.2.2.2.2 + am_al 87 ≤ 175 ∧ am_call am_cod 3 87 [.ref 0, .int (nI p)] h (fun vv h' => pz_S 4 (some .int) am_r109 3 Q 5 [(0, .ref 0), (1, .int (nI p)), (2, .int (nI l))] (vv.toList ++ []) h') from ⟨Or.inl ⟨by decide, ex_0 hP⟩, by decide, ex_lim hP rfl, am_call.up (d_87_t17 hP hT hR ?_) (by decide)⟩)
  rw [show d_87 C (nI p) = Int32.ofInt 1 from (v_87 hp)]
  refine am_goX 1 (show ((Int32.ofInt 1) = 0 → pz_S 4 (some .int) am_r109 3 Q 17 [(0, .ref 0), (1, .int (nI p)), (2, .int (nI l))] [] h) ∧ (¬ ((Int32.ofInt 1) = 0) → pz_S 4 (some .int) am_r109 3 Q 8 [(0, .ref 0), (1, .int (nI p)), (2, .int (nI l))] [] h) from ⟨fun hz => absurd hz (by decide), fun _ => ?_⟩)
  refine am_goX 4 (show 0 ≤ 8 ∧ h.2.2.2.2 + am_al 60 ≤ 175 ∧ am_call am_cod 3 60 [.int (nI l), .int (Int32.ofInt 0), .int (Int32.ofInt 4)] h (fun vv h' => pz_S 4 (some .int) am_r109 3 Q 14 [(0, .ref 0), (1, .int (nI p)), (2, .int (nI l))] (vv.toList ++ []) h') from ⟨by decide, ex_lim hP rfl, am_call.up (d_60_w hP ?_) (by decide)⟩)
  rw [show d_60 (nI l) (Int32.ofInt 0) (Int32.ofInt 4) = Int32.ofInt 1 from (v_60 (lo := 0) (hi := 4) (by omega) (by omega) (by decide))]
  refine am_goX 1 (show (¬ (Int32.ofInt 1) = 0 → pz_S 4 (some .int) am_r109 3 Q 19 [(0, .ref 0), (1, .int (nI p)), (2, .int (nI l))] [] h) ∧ (¬ ¬ (Int32.ofInt 1) = 0 → pz_S 4 (some .int) am_r109 3 Q 17 [(0, .ref 0), (1, .int (nI p)), (2, .int (nI l))] [] h) from ⟨fun _ => ?_, fun hz => absurd (by decide) hz⟩)
  refine am_goX 2 (show am_sh h 0 = some (10, 0) ∧ pz_S 4 (some .int) am_r109 3 Q 23 [(0, .ref 0), (1, .int (nI p)), (2, .int (nI l))] [am_rf (h.2.2.1 0 10)] h from ⟨ex_0 hP, ?_⟩)
  rw [show am_rf (h.2.2.1 0 10) = .ref 47 from congrArg am_rf (ex_r0_10 hP)]
  refine am_goX 2 (show am_sh h 0 = some (10, 0) ∧ pz_S 4 (some .int) am_r109 3 Q 27 [(0, .ref 0), (1, .int (nI p)), (2, .int (nI l))] [am_rf (h.2.2.1 0 7), .ref 47] h from ⟨ex_0 hP, ?_⟩)
  rw [show am_rf (h.2.2.1 0 7) = .ref 36 from congrArg am_rf (ex_r0_7 hP)]
  refine am_goX 1 (show am_rc h 47 2 ∧ 0 ≤ 8 ∧ h.2.2.2.2 + am_al 98 ≤ 175 ∧ am_call am_cod 3 98 [.ref 47, .ref 36] h (fun vv h' => pz_S 4 (some .int) am_r109 3 Q 30 [(0, .ref 0), (1, .int (nI p)), (2, .int (nI l))] (vv.toList ++ []) h') from ⟨Or.inl ⟨by decide, ex_47 hP⟩, by decide, ex_lim hP rfl, am_call.up (k_98 hP hS hH (fun h124 f125 f126 f127 f128 => ?_)) (by decide)⟩)
  have f129 : c_v 17 C h124 := c_v_fr (fun a k u1 u2 => f127 a k (by omega)) hT
  have f130 : c_d 17 C h124 := c_d_fr (fun k => f127 _ k (by omega)) hD
  have f131 : h124.2.2.1 0 3 = some 17 := (congrArg (fun q => q.2.1 0 3) f126).trans hR
  have f132 : sC 36 s h124 := sC_fr (fun a k u1 u2 => f127 a k (by omega)) hS
  have f133 : mC M h124 := mC_fr (fun a k u1 u2 => f127 a k (by omega)) hM
  have f134 : h124.1 0 12 = nI x := (f127 0 12 (by omega)).trans hx
  refine am_goX 2 (show am_sh h124 0 = some (10, 0) ∧ pz_S 4 (some .int) am_r109 3 Q 34 [(0, .ref 0), (1, .int (nI p)), (2, .int (nI l))] [am_rf (h124.2.2.1 0 7)] h124 from ⟨ex_0 f125, ?_⟩)
  rw [show am_rf (h124.2.2.1 0 7) = .ref 36 from congrArg am_rf (ex_r0_7 f125)]
  refine am_goX 1 (show am_sh h124 36 = some (6, 0) ∧ pz_S 4 (some .int) am_r109 3 Q 37 [(0, .ref 0), (1, .int (nI p)), (2, .int (nI l))] [am_rf (h124.2.2.1 36 2)] h124 from ⟨ex_36 f125, ?_⟩)
  rw [show am_rf (h124.2.2.1 36 2) = .ref 37 from congrArg am_rf (ex_r36_2 f125)]
  refine am_goX 2 (show ∃ jj nn : Nat, am_sh h124 37 = some (13, nn) ∧ jj < nn ∧ nI p = nI jj ∧ pz_S 4 (some .int) am_r109 3 Q 39 [(0, .ref 0), (1, .int (nI p)), (2, .int (nI l))] [.int (h124.1 37 jj)] h124 from ⟨p, 6, ex_37 f125, (by omega), rfl, ?_⟩)
  rw [show h124.1 37 p = s.2.2.1 p from (f132.2.1 p (by omega)).1]
  refine am_goX 3 (show 3 < 4 ∧ am_sh h124 0 = some (10, 0) ∧ pz_S 4 (some .int) am_r109 3 Q 44 [(3, .int (s.2.2.1 p)), (0, .ref 0), (1, .int (nI p)), (2, .int (nI l))] [am_rf (h124.2.2.1 0 7)] h124 from ⟨by decide, ex_0 f125, ?_⟩)
  rw [show am_rf (h124.2.2.1 0 7) = .ref 36 from congrArg am_rf (ex_r0_7 f125)]
  refine am_goX 1 (show am_sh h124 36 = some (6, 0) ∧ pz_S 4 (some .int) am_r109 3 Q 47 [(3, .int (s.2.2.1 p)), (0, .ref 0), (1, .int (nI p)), (2, .int (nI l))] [am_rf (h124.2.2.1 36 2)] h124 from ⟨ex_36 f125, ?_⟩)
  rw [show am_rf (h124.2.2.1 36 2) = .ref 37 from congrArg am_rf (ex_r36_2 f125)]
  refine am_goX 3 (show ∃ jj nn : Nat, am_so h124 37 = some (13, nn) ∧ jj < nn ∧ nI p = nI jj ∧ pz_S 4 (some .int) am_r109 3 Q 50 [(3, .int (s.2.2.1 p)), (0, .ref 0), (1, .int (nI p)), (2, .int (nI l))] [] (am_wI h124 37 jj (nI l)) from ⟨p, 6, ex_w37 f125, (by omega), rfl, ?_⟩)
  have f136 : ex_P (am_wI h124 37 p (nI l)) := f125
  have f137 : cI C := hI
  have f138 : c_v 17 C (am_wI h124 37 p (nI l)) := c_v_w (by omega) f129
  have f139 : c_d 17 C (am_wI h124 37 p (nI l)) := c_d_w (by omega) f130
  have f140 : (am_wI h124 37 p (nI l)).2.2.1 0 3 = some 17 := f131
  have f141 : sC 36 (sSL s p (nI l)) (am_wI h124 37 p (nI l)) := sC_wL (by omega) f132
  have f142 : hC (hP1 H s) (am_wI h124 37 p (nI l)) := hC_w (by omega) f128
  have f143 : mC M (am_wI h124 37 p (nI l)) := mC_w (by omega) f133
  have f144 : (am_wI h124 37 p (nI l)).1 0 12 = nI x := (em_wn _ _ (by omega)).trans f134
  generalize am_wI h124 37 p (nI l) = h135 at f136 f137 f138 f139 f140 f141 f142 f143 f144 ⊢
  exact am_goX 2 (show (∃ ty, (some .int) = some ty ∧ narrow ty (.int (s.2.2.1 p)) = .int (s.2.2.1 p)) ∧ h135.2.2.2.2 = 175 ∧ _ from ⟨⟨.int, rfl, rfl⟩, ex_175 f136, hQ _ f136 f137 f138 f139 f140 f141 f142 f143 f144⟩)
theorem d_109_xK17 (hP : ex_P h) (hI : cI C) (hT : c_v 17 C h) (hD : c_d 17 C h) (hR : h.2.2.1 0 3 = some 17) (hS : sC 36 s h) (hH : hC H h) (hM : mC M h) (hx : h.1 0 12 = nI x) (ey : d_87 C y = Int32.ofInt 0) (hQ : ∀ h1, (ex_P h1) → (cI C) → (c_v 17 C h1) → (c_d 17 C h1) → (h1.2.2.1 0 3 = some 17) → (sC 36 s h1) → (hC H h1) → (mC M h1) → (h1.1 0 12 = nI x) → Q (some (.int d_109x)) h1) : am_call am_cod 4 109 [.ref 0, .int y, .int w] h Q := by
  have h6 := hT.1.2.1
  have h5 := hT.2.1.2.1
  refine pz_call (n := 109) (nL := 4) (rt := (some .int)) (rows := am_r109) (d := 3) (by decide +kernel) (by decide +kernel) rfl (by funext pc; rfl) (ex_175 hP) (by exact Nat.le_of_ble_eq_true rfl) ?_
  refine am_goX 3 (show am_rc h 0 10 ∧ 0 ≤ 8 ∧ h.2.2.2.2 + am_al 87 ≤ 175 ∧ am_call am_cod 3 87 [.ref 0, .int y] h (fun vv h' => pz_S 4 (some .int) am_r109 3 Q 5 [(0, .ref 0), (1, .int y), (2, .int w)] (vv.toList ++ []) h') from ⟨Or.inl ⟨by decide, ex_0 hP⟩, by decide, ex_lim hP rfl, am_call.up (d_87_t17 hP hT hR ?_) (by decide)⟩)
  rw [show d_87 C y = Int32.ofInt 0 from ey]
  refine am_goX 1 (show ((Int32.ofInt 0) = 0 → pz_S 4 (some .int) am_r109 3 Q 17 [(0, .ref 0), (1, .int y), (2, .int w)] [] h) ∧ (¬ ((Int32.ofInt 0) = 0) → pz_S 4 (some .int) am_r109 3 Q 8 [(0, .ref 0), (1, .int y), (2, .int w)] [] h) from ⟨fun _ => ?_, fun hz => absurd (by decide) hz⟩)
  exact am_goX 2 (show (∃ ty, (some .int) = some ty ∧ narrow ty (.int (Int32.ofInt (-1))) = .int (Int32.ofInt (-1))) ∧ h.2.2.2.2 = 175 ∧ _ from ⟨⟨.int, rfl, rfl⟩, ex_175 hP, hQ _ hP hI hT hD hR hS hH hM hx⟩)
theorem d_109_yK17 (hP : ex_P h) (hI : cI C) (hT : c_v 17 C h) (hD : c_d 17 C h) (hR : h.2.2.1 0 3 = some 17) (hS : sC 36 s h) (hH : hC H h) (hM : mC M h) (hx : h.1 0 12 = nI x) (hp : p < dP C) (ew : d_60 w (Int32.ofInt 0) (Int32.ofInt 4) = Int32.ofInt 0) (hQ : ∀ h1, (ex_P h1) → (cI C) → (c_v 17 C h1) → (c_d 17 C h1) → (h1.2.2.1 0 3 = some 17) → (sC 36 s h1) → (hC H h1) → (mC M h1) → (h1.1 0 12 = nI x) → Q (some (.int d_109x)) h1) : am_call am_cod 4 109 [.ref 0, .int (nI p), .int w] h Q := by
  have h6 := hT.1.2.1
  have h5 := hT.2.1.2.1
  refine pz_call (n := 109) (nL := 4) (rt := (some .int)) (rows := am_r109) (d := 3) (by decide +kernel) (by decide +kernel) rfl (by funext pc; rfl) (ex_175 hP) (by exact Nat.le_of_ble_eq_true rfl) ?_
  refine am_goX 3 (show am_rc h 0 10 ∧ 0 ≤ 8 ∧ h.2.2.2.2 + am_al 87 ≤ 175 ∧ am_call am_cod 3 87 [.ref 0, .int (nI p)] h (fun vv h' => pz_S 4 (some .int) am_r109 3 Q 5 [(0, .ref 0), (1, .int (nI p)), (2, .int w)] (vv.toList ++ []) h') from ⟨Or.inl ⟨by decide, ex_0 hP⟩, by decide, ex_lim hP rfl, am_call.up (d_87_t17 hP hT hR ?_) (by decide)⟩)
  rw [show d_87 C (nI p) = Int32.ofInt 1 from (v_87 hp)]
  refine am_goX 1 (show ((Int32.ofInt 1) = 0 → pz_S 4 (some .int) am_r109 3 Q 17 [(0, .ref 0), (1, .int (nI p)), (2, .int w)] [] h) ∧ (¬ ((Int32.ofInt 1) = 0) → pz_S 4 (some .int) am_r109 3 Q 8 [(0, .ref 0), (1, .int (nI p)), (2, .int w)] [] h) from ⟨fun hz => absurd hz (by decide), fun _ => ?_⟩)
  refine am_goX 4 (show 0 ≤ 8 ∧ h.2.2.2.2 + am_al 60 ≤ 175 ∧ am_call am_cod 3 60 [.int w, .int (Int32.ofInt 0), .int (Int32.ofInt 4)] h (fun vv h' => pz_S 4 (some .int) am_r109 3 Q 14 [(0, .ref 0), (1, .int (nI p)), (2, .int w)] (vv.toList ++ []) h') from ⟨by decide, ex_lim hP rfl, am_call.up (d_60_w hP ?_) (by decide)⟩)
  rw [show d_60 w (Int32.ofInt 0) (Int32.ofInt 4) = Int32.ofInt 0 from ew]
  refine am_goX 1 (show (¬ (Int32.ofInt 0) = 0 → pz_S 4 (some .int) am_r109 3 Q 19 [(0, .ref 0), (1, .int (nI p)), (2, .int w)] [] h) ∧ (¬ ¬ (Int32.ofInt 0) = 0 → pz_S 4 (some .int) am_r109 3 Q 17 [(0, .ref 0), (1, .int (nI p)), (2, .int w)] [] h) from ⟨fun hz => absurd hz (by decide), fun _ => ?_⟩)
  exact am_goX 2 (show (∃ ty, (some .int) = some ty ∧ narrow ty (.int (Int32.ofInt (-1))) = .int (Int32.ofInt (-1))) ∧ h.2.2.2.2 = 175 ∧ _ from ⟨⟨.int, rfl, rfl⟩, ex_175 hP, hQ _ hP hI hT hD hR hS hH hM hx⟩)
theorem d_111_K17 (hP : ex_P h) (hI : cI C) (hT : c_v 17 C h) (hD : c_d 17 C h) (hR : h.2.2.1 0 3 = some 17) (hS : sC 36 s h) (hH : hC H h) (hM : mC M h) (hx : h.1 0 12 = nI x) (hp : p < dP C) (hQ : ∀ h1, (ex_P h1) → (cI C) → (c_v 17 C h1) → (c_d 17 C h1) → (h1.2.2.1 0 3 = some 17) → (sC 36 (d_111_s s p) h1) → (hC H h1) → (mC M h1) → (h1.1 0 12 = nI x) → Q none h1) : am_call am_cod 1 111 [.ref 36, .int (nI p)] h Q := by
  have h6 := hT.1.2.1
  have h5 := hT.2.1.2.1
  refine pz_call (n := 111) (nL := 2) (rt := none) (rows := am_r111) (d := 0) (by decide +kernel) (by decide +kernel) rfl (by funext pc; rfl) (ex_175 hP) (by exact Nat.le_of_ble_eq_true rfl) ?_
  refine am_goX 2 (show am_sh h 36 = some (6, 0) ∧ pz_S 2 none am_r111 0 Q 4 [(0, .ref 36), (1, .int (nI p))] [am_rf (h.2.2.1 36 2)] h from ⟨ex_36 hP, ?_⟩)
  rw [show am_rf (h.2.2.1 36 2) = .ref 37 from congrArg am_rf (ex_r36_2 hP)]
  refine am_goX 3 (show ∃ jj nn : Nat, am_so h 37 = some (13, nn) ∧ jj < nn ∧ nI p = nI jj ∧ pz_S 2 none am_r111 0 Q 7 [(0, .ref 36), (1, .int (nI p))] [] (am_wI h 37 jj (Int32.ofInt 2)) from ⟨p, 6, ex_w37 hP, (by omega), rfl, ?_⟩)
  have f146 : ex_P (am_wI h 37 p (Int32.ofInt 2)) := hP
  have f147 : cI C := hI
  have f148 : c_v 17 C (am_wI h 37 p (Int32.ofInt 2)) := c_v_w (by omega) hT
  have f149 : c_d 17 C (am_wI h 37 p (Int32.ofInt 2)) := c_d_w (by omega) hD
  have f150 : (am_wI h 37 p (Int32.ofInt 2)).2.2.1 0 3 = some 17 := hR
  have f151 : sC 36 (sSL s p (Int32.ofInt 2)) (am_wI h 37 p (Int32.ofInt 2)) := sC_wL (by omega) hS
  have f152 : hC H (am_wI h 37 p (Int32.ofInt 2)) := hC_w (by omega) hH
  have f153 : mC M (am_wI h 37 p (Int32.ofInt 2)) := mC_w (by omega) hM
  have f154 : (am_wI h 37 p (Int32.ofInt 2)).1 0 12 = nI x := (em_wn _ _ (by omega)).trans hx
  generalize am_wI h 37 p (Int32.ofInt 2) = h145 at f146 f147 f148 f149 f150 f151 f152 f153 f154 ⊢
  refine am_goX 3 (show (Value.ref 36).category = 1 ∧ am_sh h145 36 = some (6, 0) ∧ pz_S 2 none am_r111 0 Q 12 [(0, .ref 36), (1, .int (nI p))] [.int (h145.1 36 1), .ref 36] h145 from ⟨rfl, ex_36 f146, ?_⟩)
  rw [show h145.1 36 1 = (sSL s p (Int32.ofInt 2)).2.1 from f151.1.2]
  refine am_goX 3 (show am_sh h145 36 = some (6, 0) ∧ narrow (am_fty 6 1) (.int (((sSL s p (Int32.ofInt 2)).2.1) + (Int32.ofInt 1))) = .int (((sSL s p (Int32.ofInt 2)).2.1) + (Int32.ofInt 1)) ∧ fits (am_fty 6 1) (.int (((sSL s p (Int32.ofInt 2)).2.1) + (Int32.ofInt 1))) = true ∧ pz_S 2 none am_r111 0 Q 17 [(0, .ref 36), (1, .int (nI p))] [] (am_wI h145 36 1 (((sSL s p (Int32.ofInt 2)).2.1) + (Int32.ofInt 1))) from ⟨ex_36 f146, rfl, rfl, ?_⟩)
  have f156 : ex_P (am_wI h145 36 1 (((sSL s p (Int32.ofInt 2)).2.1) + (Int32.ofInt 1))) := f146
  have f157 : cI C := f147
  have f158 : c_v 17 C (am_wI h145 36 1 (((sSL s p (Int32.ofInt 2)).2.1) + (Int32.ofInt 1))) := c_v_w (by omega) f148
  have f159 : c_d 17 C (am_wI h145 36 1 (((sSL s p (Int32.ofInt 2)).2.1) + (Int32.ofInt 1))) := c_d_w (by omega) f149
  have f160 : (am_wI h145 36 1 (((sSL s p (Int32.ofInt 2)).2.1) + (Int32.ofInt 1))).2.2.1 0 3 = some 17 := f150
  have f161 : sC 36 (sSX (sSL s p (Int32.ofInt 2)) (((sSL s p (Int32.ofInt 2)).2.1) + (Int32.ofInt 1))) (am_wI h145 36 1 (((sSL s p (Int32.ofInt 2)).2.1) + (Int32.ofInt 1))) := sC_wX (by omega) f151
  have f162 : hC H (am_wI h145 36 1 (((sSL s p (Int32.ofInt 2)).2.1) + (Int32.ofInt 1))) := hC_w (by omega) f152
  have f163 : mC M (am_wI h145 36 1 (((sSL s p (Int32.ofInt 2)).2.1) + (Int32.ofInt 1))) := mC_w (by omega) f153
  have f164 : (am_wI h145 36 1 (((sSL s p (Int32.ofInt 2)).2.1) + (Int32.ofInt 1))).1 0 12 = nI x := (em_wn _ _ (by omega)).trans f154
  generalize am_wI h145 36 1 (((sSL s p (Int32.ofInt 2)).2.1) + (Int32.ofInt 1)) = h155 at f156 f157 f158 f159 f160 f161 f162 f163 f164 ⊢
  exact am_goX 1 (show (none : Option FieldType) = none ∧ h155.2.2.2.2 = 175 ∧ _ from ⟨rfl, ex_175 f156, hQ _ f156 f157 f158 f159 f160 f161 f162 f163 f164⟩)
theorem d_110_K17 (hP : ex_P h) (hI : cI C) (hT : c_v 17 C h) (hD : c_d 17 C h) (hR : h.2.2.1 0 3 = some 17) (hS : sC 36 s h) (hH : hC H h) (hM : mC M h) (hx : h.1 0 12 = nI x) (hp : p < dP C) (hQ : ∀ h1, (ex_P h1) → (cI C) → (c_v 17 C h1) → (c_d 17 C h1) → (h1.2.2.1 0 3 = some 17) → (sC 36 (d_110_s C s H p) h1) → (hC (d_110_H C s H p) h1) → (mC M h1) → (h1.1 0 12 = nI x) → Q (some (.int (d_110 C s H p))) h1) : am_call am_cod 4 110 [.ref 0, .int (nI p)] h Q := by
  have h6 := hT.1.2.1
  have h5 := hT.2.1.2.1
  refine pz_call (n := 110) (nL := 2) (rt := (some .int)) (rows := am_r110) (d := 3) (by decide +kernel) (by decide +kernel) rfl (by funext pc; rfl) (ex_175 hP) (by exact Nat.le_of_ble_eq_true rfl) ?_
  refine am_goX 3 (show am_rc h 0 10 ∧ 0 ≤ 8 ∧ h.2.2.2.2 + am_al 87 ≤ 175 ∧ am_call am_cod 3 87 [.ref 0, .int (nI p)] h (fun vv h' => pz_S 2 (some .int) am_r110 3 Q 5 [(0, .ref 0), (1, .int (nI p))] (vv.toList ++ []) h') from ⟨Or.inl ⟨by decide, ex_0 hP⟩, by decide, ex_lim hP rfl, am_call.up (d_87_t17 hP hT hR ?_) (by decide)⟩)
  rw [show d_87 C (nI p) = Int32.ofInt 1 from (v_87 hp)]
  refine am_goX 1 (show (¬ (Int32.ofInt 1) = 0 → pz_S 2 (some .int) am_r110 3 Q 10 [(0, .ref 0), (1, .int (nI p))] [] h) ∧ (¬ ¬ (Int32.ofInt 1) = 0 → pz_S 2 (some .int) am_r110 3 Q 8 [(0, .ref 0), (1, .int (nI p))] [] h) from ⟨fun _ => ?_, fun hz => absurd (by decide) hz⟩)
  refine am_goX 2 (show am_sh h 0 = some (10, 0) ∧ pz_S 2 (some .int) am_r110 3 Q 14 [(0, .ref 0), (1, .int (nI p))] [am_rf (h.2.2.1 0 10)] h from ⟨ex_0 hP, ?_⟩)
  rw [show am_rf (h.2.2.1 0 10) = .ref 47 from congrArg am_rf (ex_r0_10 hP)]
  refine am_goX 2 (show am_sh h 0 = some (10, 0) ∧ pz_S 2 (some .int) am_r110 3 Q 18 [(0, .ref 0), (1, .int (nI p))] [am_rf (h.2.2.1 0 7), .ref 47] h from ⟨ex_0 hP, ?_⟩)
  rw [show am_rf (h.2.2.1 0 7) = .ref 36 from congrArg am_rf (ex_r0_7 hP)]
  refine am_goX 1 (show am_rc h 47 2 ∧ 0 ≤ 8 ∧ h.2.2.2.2 + am_al 98 ≤ 175 ∧ am_call am_cod 3 98 [.ref 47, .ref 36] h (fun vv h' => pz_S 2 (some .int) am_r110 3 Q 21 [(0, .ref 0), (1, .int (nI p))] (vv.toList ++ []) h') from ⟨Or.inl ⟨by decide, ex_47 hP⟩, by decide, ex_lim hP rfl, am_call.up (k_98 hP hS hH (fun h165 f166 f167 f168 f169 => ?_)) (by decide)⟩)
  have f170 : c_v 17 C h165 := c_v_fr (fun a k u1 u2 => f168 a k (by omega)) hT
  have f171 : c_d 17 C h165 := c_d_fr (fun k => f168 _ k (by omega)) hD
  have f172 : h165.2.2.1 0 3 = some 17 := (congrArg (fun q => q.2.1 0 3) f167).trans hR
  have f173 : sC 36 s h165 := sC_fr (fun a k u1 u2 => f168 a k (by omega)) hS
  have f174 : mC M h165 := mC_fr (fun a k u1 u2 => f168 a k (by omega)) hM
  have f175 : h165.1 0 12 = nI x := (f168 0 12 (by omega)).trans hx
  refine am_goX 2 (show am_sh h165 0 = some (10, 0) ∧ pz_S 2 (some .int) am_r110 3 Q 25 [(0, .ref 0), (1, .int (nI p))] [am_rf (h165.2.2.1 0 7)] h165 from ⟨ex_0 f166, ?_⟩)
  rw [show am_rf (h165.2.2.1 0 7) = .ref 36 from congrArg am_rf (ex_r0_7 f166)]
  refine am_goX 2 (show am_rc h165 36 6 ∧ 0 ≤ 8 ∧ h165.2.2.2.2 + am_al 111 ≤ 175 ∧ am_call am_cod 3 111 [.ref 36, .int (nI p)] h165 (fun vv h' => pz_S 2 (some .int) am_r110 3 Q 29 [(0, .ref 0), (1, .int (nI p))] (vv.toList ++ []) h') from ⟨Or.inl ⟨by decide, ex_36 f166⟩, by decide, ex_lim f166 rfl, am_call.up (d_111_K17 f166 hI f170 f171 f172 f173 f169 f174 f175 (by omega) (fun h176 f177 f178 f179 f180 f181 f182 f183 f184 f185 => ?_)) (by decide)⟩)
  refine am_goX 2 (show am_sh h176 0 = some (10, 0) ∧ pz_S 2 (some .int) am_r110 3 Q 33 [(0, .ref 0), (1, .int (nI p))] [am_rf (h176.2.2.1 0 7)] h176 from ⟨ex_0 f177, ?_⟩)
  rw [show am_rf (h176.2.2.1 0 7) = .ref 36 from congrArg am_rf (ex_r0_7 f177)]
  refine am_goX 1 (show am_sh h176 36 = some (6, 0) ∧ pz_S 2 (some .int) am_r110 3 Q 36 [(0, .ref 0), (1, .int (nI p))] [.int (h176.1 36 1)] h176 from ⟨ex_36 f177, ?_⟩)
  rw [show h176.1 36 1 = (d_111_s s p).2.1 from f182.1.2]
  exact am_goX 1 (show (∃ ty, (some .int) = some ty ∧ narrow ty (.int ((d_111_s s p).2.1)) = .int ((d_111_s s p).2.1)) ∧ h176.2.2.2.2 = 175 ∧ _ from ⟨⟨.int, rfl, rfl⟩, ex_175 f177, hQ _ f177 f178 f179 f180 f181 f182 f183 f184 f185⟩)
theorem d_110_xK17 (hP : ex_P h) (hI : cI C) (hT : c_v 17 C h) (hD : c_d 17 C h) (hR : h.2.2.1 0 3 = some 17) (hS : sC 36 s h) (hH : hC H h) (hM : mC M h) (hx : h.1 0 12 = nI x) (ey : d_87 C y = Int32.ofInt 0) (hQ : ∀ h1, (ex_P h1) → (cI C) → (c_v 17 C h1) → (c_d 17 C h1) → (h1.2.2.1 0 3 = some 17) → (sC 36 s h1) → (hC H h1) → (mC M h1) → (h1.1 0 12 = nI x) → Q (some (.int d_110x)) h1) : am_call am_cod 4 110 [.ref 0, .int y] h Q := by
  have h6 := hT.1.2.1
  have h5 := hT.2.1.2.1
  refine pz_call (n := 110) (nL := 2) (rt := (some .int)) (rows := am_r110) (d := 3) (by decide +kernel) (by decide +kernel) rfl (by funext pc; rfl) (ex_175 hP) (by exact Nat.le_of_ble_eq_true rfl) ?_
  refine am_goX 3 (show am_rc h 0 10 ∧ 0 ≤ 8 ∧ h.2.2.2.2 + am_al 87 ≤ 175 ∧ am_call am_cod 3 87 [.ref 0, .int y] h (fun vv h' => pz_S 2 (some .int) am_r110 3 Q 5 [(0, .ref 0), (1, .int y)] (vv.toList ++ []) h') from ⟨Or.inl ⟨by decide, ex_0 hP⟩, by decide, ex_lim hP rfl, am_call.up (d_87_t17 hP hT hR ?_) (by decide)⟩)
  rw [show d_87 C y = Int32.ofInt 0 from ey]
  refine am_goX 1 (show (¬ (Int32.ofInt 0) = 0 → pz_S 2 (some .int) am_r110 3 Q 10 [(0, .ref 0), (1, .int y)] [] h) ∧ (¬ ¬ (Int32.ofInt 0) = 0 → pz_S 2 (some .int) am_r110 3 Q 8 [(0, .ref 0), (1, .int y)] [] h) from ⟨fun hz => absurd hz (by decide), fun _ => ?_⟩)
  exact am_goX 2 (show (∃ ty, (some .int) = some ty ∧ narrow ty (.int (Int32.ofInt (-1))) = .int (Int32.ofInt (-1))) ∧ h.2.2.2.2 = 175 ∧ _ from ⟨⟨.int, rfl, rfl⟩, ex_175 hP, hQ _ hP hI hT hD hR hS hH hM hx⟩)
theorem d_112_K17 (hP : ex_P h) (hI : cI C) (hT : c_v 17 C h) (hD : c_d 17 C h) (hR : h.2.2.1 0 3 = some 17) (hS : sC 36 s h) (hH : hC H h) (hM : mC M h) (hx : h.1 0 12 = nI x) (hn : 0 < H.1) (hQ : ∀ h1, (ex_P h1) → (cI C) → (c_v 17 C h1) → (c_d 17 C h1) → (h1.2.2.1 0 3 = some 17) → (sC 36 (d_112_s H) h1) → (hC (d_112_H H) h1) → (mC M h1) → (h1.1 0 12 = nI x) → Q (some (.int (d_112 H))) h1) : am_call am_cod 3 112 [.ref 0] h Q := by
  have h6 := hT.1.2.1
  have h5 := hT.2.1.2.1
  refine pz_call (n := 112) (nL := 1) (rt := (some .boolean)) (rows := am_r112) (d := 2) (by decide +kernel) (by decide +kernel) rfl (by funext pc; rfl) (ex_175 hP) (by exact Nat.le_of_ble_eq_true rfl) ?_
  refine am_goX 2 (show am_sh h 0 = some (10, 0) ∧ pz_S 1 (some .boolean) am_r112 2 Q 4 [(0, .ref 0)] [am_rf (h.2.2.1 0 10)] h from ⟨ex_0 hP, ?_⟩)
  rw [show am_rf (h.2.2.1 0 10) = .ref 47 from congrArg am_rf (ex_r0_10 hP)]
  refine am_goX 2 (show am_sh h 0 = some (10, 0) ∧ pz_S 1 (some .boolean) am_r112 2 Q 8 [(0, .ref 0)] [am_rf (h.2.2.1 0 7), .ref 47] h from ⟨ex_0 hP, ?_⟩)
  rw [show am_rf (h.2.2.1 0 7) = .ref 36 from congrArg am_rf (ex_r0_7 hP)]
  refine am_goX 1 (show am_rc h 47 2 ∧ 0 ≤ 8 ∧ h.2.2.2.2 + am_al 113 ≤ 175 ∧ am_call am_cod 2 113 [.ref 47, .ref 36] h (fun vv h' => pz_S 1 (some .boolean) am_r112 2 Q 11 [(0, .ref 0)] (vv.toList ++ []) h') from ⟨Or.inl ⟨by decide, ex_47 hP⟩, by decide, ex_lim hP rfl, am_call.up (k_113 hn hP hH (fun h186 f187 f188 f189 f190 f191 => ?_)) (by decide)⟩)
  have f192 : c_v 17 C h186 := c_v_fr (fun a k u1 u2 => f189 a k (by omega) (by omega)) hT
  have f193 : c_d 17 C h186 := c_d_fr (fun k => f189 _ k (by omega) (by omega)) hD
  have f194 : h186.2.2.1 0 3 = some 17 := (congrArg (fun q => q.2.1 0 3) f188).trans hR
  have f195 : mC M h186 := mC_fr (fun a k u1 u2 => f189 a k (by omega) (by omega)) hM
  have f196 : h186.1 0 12 = nI x := (f189 0 12 (by omega) (by omega)).trans hx
  exact am_goX 1 (show (∃ ty, (some .boolean) = some ty ∧ narrow ty (.int (Int32.ofInt 1)) = .int (Int32.ofInt 1)) ∧ h186.2.2.2.2 = 175 ∧ _ from ⟨⟨.boolean, rfl, rfl⟩, ex_175 f187, hQ _ f187 hI f192 f193 f194 f191 f190 f195 f196⟩)
theorem d_112_zK17 (hP : ex_P h) (hI : cI C) (hT : c_v 17 C h) (hD : c_d 17 C h) (hR : h.2.2.1 0 3 = some 17) (hS : sC 36 s h) (hH : hC H h) (hM : mC M h) (hx : h.1 0 12 = nI x) (hn : H.1 = 0) (hQ : ∀ h1, (ex_P h1) → (cI C) → (c_v 17 C h1) → (c_d 17 C h1) → (h1.2.2.1 0 3 = some 17) → (sC 36 s h1) → (hC H h1) → (mC M h1) → (h1.1 0 12 = nI x) → Q (some (.int d_112z)) h1) : am_call am_cod 3 112 [.ref 0] h Q := by
  have h6 := hT.1.2.1
  have h5 := hT.2.1.2.1
  refine pz_call (n := 112) (nL := 1) (rt := (some .boolean)) (rows := am_r112) (d := 2) (by decide +kernel) (by decide +kernel) rfl (by funext pc; rfl) (ex_175 hP) (by exact Nat.le_of_ble_eq_true rfl) ?_
  refine am_goX 2 (show am_sh h 0 = some (10, 0) ∧ pz_S 1 (some .boolean) am_r112 2 Q 4 [(0, .ref 0)] [am_rf (h.2.2.1 0 10)] h from ⟨ex_0 hP, ?_⟩)
  rw [show am_rf (h.2.2.1 0 10) = .ref 47 from congrArg am_rf (ex_r0_10 hP)]
  refine am_goX 2 (show am_sh h 0 = some (10, 0) ∧ pz_S 1 (some .boolean) am_r112 2 Q 8 [(0, .ref 0)] [am_rf (h.2.2.1 0 7), .ref 47] h from ⟨ex_0 hP, ?_⟩)
  rw [show am_rf (h.2.2.1 0 7) = .ref 36 from congrArg am_rf (ex_r0_7 hP)]
  refine am_goX 1 (show am_rc h 47 2 ∧ 0 ≤ 8 ∧ h.2.2.2.2 + am_al 113 ≤ 175 ∧ am_call am_cod 2 113 [.ref 47, .ref 36] h (fun vv h' => pz_S 1 (some .boolean) am_r112 2 Q 11 [(0, .ref 0)] (vv.toList ++ []) h') from ⟨Or.inl ⟨by decide, ex_47 hP⟩, by decide, ex_lim hP rfl, am_call.up (k_113z hn hP hH ?_) (by decide)⟩)
  exact am_goX 1 (show (∃ ty, (some .boolean) = some ty ∧ narrow ty (.int (Int32.ofInt 0)) = .int (Int32.ofInt 0)) ∧ h.2.2.2.2 = 175 ∧ _ from ⟨⟨.boolean, rfl, rfl⟩, ex_175 hP, hQ _ hP hI hT hD hR hS hH hM hx⟩)
def d_230_s (C V : sp_C) (s : dS) (H : dH) : dS := (d_233_s C V s)
def d_230_H (C V : sp_C) (s : dS) (H : dH) : dH := (hP1 H s)
def d_230 (C V : sp_C) (s : dS) (H : dH) : Int32 := d_233 C V s
theorem d_230_L (hP : ex_P h) (hI : cI C) (hT : tR C h) (hO : ∀ e, e < dE C → h.1 172 e = dW V e) (hS : sR 0 (dP C) s h) (hH : hL (dP C) H h) (hM : mL (dP C) M h) (hx : h.1 170 24 = nI x)  (hQ : ∀ h1, (ex_P h1) → (cI C) → (tR C h1) → (∀ e, e < dE C → h1.1 172 e = dW V e) → (sR 0 (dP C) (d_230_s C V s H) h1) → (hL (dP C) (d_230_H C V s H) h1) → (mL (dP C) M h1) → (h1.1 170 24 = nI x) → Q (some (.int (d_230 C V s H))) h1) : am_call am_cod 8 230 [.ref 154] h Q := by
  have h6 := hT.1.2.1
  have h5 := hT.2.1.2.1
  refine pz_call (n := 230) (nL := 1) (rt := (some .int)) (rows := am_r230) (d := 7) (by decide +kernel) (by decide +kernel) rfl (by funext pc; rfl) (ex_175 hP) (by exact Nat.le_of_ble_eq_true rfl) ?_
  refine am_goX 3 (show am_sh h 154 = some (11, 0) ∧ narrow (am_fty 11 0) (.int (Int32.ofInt 0)) = .int (Int32.ofInt 0) ∧ fits (am_fty 11 0) (.int (Int32.ofInt 0)) = true ∧ pz_S 1 (some .int) am_r230 7 Q 5 [(0, .ref 154)] [] (am_wI h 154 0 (Int32.ofInt 0)) from ⟨ex_154 hP, rfl, rfl, ?_⟩)
  have f198 : ex_P (am_wI h 154 0 (Int32.ofInt 0)) := hP
  have f199 : cI C := hI
  have f200 : tR C (am_wI h 154 0 (Int32.ofInt 0)) := tR_w (by omega) hT
  have f201 : ∀ e, e < dE C → (am_wI h 154 0 (Int32.ofInt 0)).1 172 e = dW V e := on_w (by omega) hO
  have f202 : sR 0 (dP C) s (am_wI h 154 0 (Int32.ofInt 0)) := sR_o (by omega) hS
  have f203 : hL (dP C) H (am_wI h 154 0 (Int32.ofInt 0)) := hL_w (by omega) hH
  have f204 : mL (dP C) M (am_wI h 154 0 (Int32.ofInt 0)) := mL_w (by omega) hM
  have f205 : (am_wI h 154 0 (Int32.ofInt 0)).1 170 24 = nI x := (em_wn _ _ (by omega)).trans hx
  generalize am_wI h 154 0 (Int32.ofInt 0) = h197 at f198 f199 f200 f201 f202 f203 f204 f205 ⊢
  refine am_goX 2 (show am_rc h197 154 11 ∧ 0 ≤ 8 ∧ h197.2.2.2.2 + am_al 231 ≤ 175 ∧ am_call am_cod 7 231 [.ref 154] h197 (fun vv h' => pz_S 1 (some .int) am_r230 7 Q 9 [(0, .ref 154)] (vv.toList ++ []) h') from ⟨Or.inl ⟨by decide, ex_154 f198⟩, by decide, ex_lim f198 rfl, am_call.up (k_231 f200.1.2.1 f198 f202 f203 (fun h206 f207 f208 f209 => ?_)) (by decide)⟩)
  have f210 : tR C h206 := tR_fr (fun a k u1 u2 => f208.2 a k (by omega) (by omega)) f200
  have f211 : ∀ e, e < dE C → h206.1 172 e = dW V e := fun e he => (f208.2 172 e (by omega) (by omega)).trans (f201 e he)
  have f212 : sR 0 (dP C) s h206 := sR_fr (fun k u1 u2 => f208.2 170 k (by omega) (by omega)) f200.1.2.1 f202
  have f213 : mL (dP C) M h206 := mL_fr f200.1.2.1 (fun m hm => f208.2 171 m (by omega) (by omega)) (fun k u1 u2 => f208.2 170 k (by omega) (by omega)) f204
  have f214 : h206.1 170 24 = nI x := (f208.2 170 24 (by omega) (by omega)).trans f205
  refine am_goX 3 (show am_rc h206 154 11 ∧ 0 ≤ 8 ∧ h206.2.2.2.2 + am_al 233 ≤ 175 ∧ am_call am_cod 7 233 [.ref 154, .int (Int32.ofInt 0)] h206 (fun vv h' => pz_S 1 (some .int) am_r230 7 Q 14 [(0, .ref 154)] (vv.toList ++ []) h') from ⟨Or.inl ⟨by decide, ex_154 f207⟩, by decide, ex_lim f207 rfl, am_call.up (d_233_r0 f207 f199 f210 f211 f212 (fR_0 (h := h206)) (fun h215 f216 f217 f218 f219 f220 f221 => ?_)) (by decide)⟩)
  have f222 : hL (dP C) (hP1 H s) h215 := hL_fr f210.1.2.1 (f221.2 154 25 (by omega) (by omega) (by omega) (by omega)) (fun k u1 u2 => f221.2 170 k (by omega) (by omega) (by omega) (by omega)) f209
  have f223 : mL (dP C) M h215 := mL_fr f210.1.2.1 (fun m hm => f221.2 171 m (by omega) (by omega) (by omega) (by omega)) (fun k u1 u2 => f221.2 170 k (by omega) (by omega) (by omega) (by omega)) f213
  have f224 : h215.1 170 24 = nI x := (f221.2 170 24 (by omega) (by omega) (by omega) (by omega)).trans f214
  exact am_goX 1 (show (∃ ty, (some .int) = some ty ∧ narrow ty (.int (d_233 C V s)) = .int (d_233 C V s)) ∧ h215.2.2.2.2 = 175 ∧ _ from ⟨⟨.int, rfl, rfl⟩, ex_175 f216, hQ _ f216 f217 f218 f219 f220 f222 f223 f224⟩)
def d_239_s (C : sp_C) (s : dS) (H : dH) (p l : Nat) : dS := sSL s p (nI l)
def d_239_H (C : sp_C) (s : dS) (H : dH) (p l : Nat) : dH := (hP1 H s)
def d_239 (C : sp_C) (s : dS) (H : dH) (p l : Nat) : Int32 := s.2.2.1 p
theorem d_239_L (hP : ex_P h) (hI : cI C) (hT : tR C h) (hO : ∀ e, e < dE C → h.1 172 e = dW V e) (hS : sR 0 (dP C) s h) (hH : hL (dP C) H h) (hM : mL (dP C) M h) (hx : h.1 170 24 = nI x) (hp : p < dP C) (hl : l < 5) (hQ : ∀ h1, (ex_P h1) → (cI C) → (tR C h1) → (∀ e, e < dE C → h1.1 172 e = dW V e) → (sR 0 (dP C) (d_239_s C s H p l) h1) → (hL (dP C) (d_239_H C s H p l) h1) → (mL (dP C) M h1) → (h1.1 170 24 = nI x) → Q (some (.int (d_239 C s H p l))) h1) : am_call am_cod 4 239 [.ref 154, .int (nI p), .int (nI l)] h Q := by
  have h6 := hT.1.2.1
  have h5 := hT.2.1.2.1
  refine pz_call (n := 239) (nL := 4) (rt := (some .int)) (rows := am_r239) (d := 3) (by decide +kernel) (by decide +kernel) rfl (by funext pc; rfl) (ex_175 hP) (by exact Nat.le_of_ble_eq_true rfl) ?_
  refine am_goX 3 (show am_sh h 154 = some (11, 0) ∧ narrow (am_fty 11 0) (.int (Int32.ofInt 0)) = .int (Int32.ofInt 0) ∧ fits (am_fty 11 0) (.int (Int32.ofInt 0)) = true ∧ pz_S 4 (some .int) am_r239 3 Q 5 [(0, .ref 154), (1, .int (nI p)), (2, .int (nI l))] [] (am_wI h 154 0 (Int32.ofInt 0)) from ⟨ex_154 hP, rfl, rfl, ?_⟩)
  have f226 : ex_P (am_wI h 154 0 (Int32.ofInt 0)) := hP
  have f227 : cI C := hI
  have f228 : tR C (am_wI h 154 0 (Int32.ofInt 0)) := tR_w (by omega) hT
  have f229 : ∀ e, e < dE C → (am_wI h 154 0 (Int32.ofInt 0)).1 172 e = dW V e := on_w (by omega) hO
  have f230 : sR 0 (dP C) s (am_wI h 154 0 (Int32.ofInt 0)) := sR_o (by omega) hS
  have f231 : hL (dP C) H (am_wI h 154 0 (Int32.ofInt 0)) := hL_w (by omega) hH
  have f232 : mL (dP C) M (am_wI h 154 0 (Int32.ofInt 0)) := mL_w (by omega) hM
  have f233 : (am_wI h 154 0 (Int32.ofInt 0)).1 170 24 = nI x := (em_wn _ _ (by omega)).trans hx
  generalize am_wI h 154 0 (Int32.ofInt 0) = h225 at f226 f227 f228 f229 f230 f231 f232 f233 ⊢
  refine am_goX 3 (show am_rc h225 154 11 ∧ 0 ≤ 8 ∧ h225.2.2.2.2 + am_al 221 ≤ 175 ∧ am_call am_cod 3 221 [.ref 154, .int (nI p)] h225 (fun vv h' => pz_S 4 (some .int) am_r239 3 Q 10 [(0, .ref 154), (1, .int (nI p)), (2, .int (nI l))] (vv.toList ++ []) h') from ⟨Or.inl ⟨by decide, ex_154 f226⟩, by decide, ex_lim f226 rfl, am_call.up (d_221_r f226 f228 ?_) (by decide)⟩)
  rw [show d_221 C (nI p) = Int32.ofInt 1 from ((d_221_e _).trans (v_87 hp))]
  refine am_goX 1 (show ((Int32.ofInt 1) = 0 → pz_S 4 (some .int) am_r239 3 Q 22 [(0, .ref 154), (1, .int (nI p)), (2, .int (nI l))] [] h225) ∧ (¬ ((Int32.ofInt 1) = 0) → pz_S 4 (some .int) am_r239 3 Q 13 [(0, .ref 154), (1, .int (nI p)), (2, .int (nI l))] [] h225) from ⟨fun hz => absurd hz (by decide), fun _ => ?_⟩)
  refine am_goX 4 (show 0 ≤ 8 ∧ h225.2.2.2.2 + am_al 207 ≤ 175 ∧ am_call am_cod 3 207 [.int (nI l), .int (Int32.ofInt 0), .int (Int32.ofInt 4)] h225 (fun vv h' => pz_S 4 (some .int) am_r239 3 Q 19 [(0, .ref 154), (1, .int (nI p)), (2, .int (nI l))] (vv.toList ++ []) h') from ⟨by decide, ex_lim f226 rfl, am_call.up (d_207_w f226 ?_) (by decide)⟩)
  rw [show d_207 (nI l) (Int32.ofInt 0) (Int32.ofInt 4) = Int32.ofInt 1 from ((d_207_e _ _ _).trans (v_60 (lo := 0) (hi := 4) (by omega) (by omega) (by decide)))]
  refine am_goX 1 (show (¬ (Int32.ofInt 1) = 0 → pz_S 4 (some .int) am_r239 3 Q 24 [(0, .ref 154), (1, .int (nI p)), (2, .int (nI l))] [] h225) ∧ (¬ ¬ (Int32.ofInt 1) = 0 → pz_S 4 (some .int) am_r239 3 Q 22 [(0, .ref 154), (1, .int (nI p)), (2, .int (nI l))] [] h225) from ⟨fun _ => ?_, fun hz => absurd (by decide) hz⟩)
  refine am_goX 2 (show am_rc h225 154 11 ∧ 0 ≤ 8 ∧ h225.2.2.2.2 + am_al 231 ≤ 175 ∧ am_call am_cod 3 231 [.ref 154] h225 (fun vv h' => pz_S 4 (some .int) am_r239 3 Q 28 [(0, .ref 154), (1, .int (nI p)), (2, .int (nI l))] (vv.toList ++ []) h') from ⟨Or.inl ⟨by decide, ex_154 f226⟩, by decide, ex_lim f226 rfl, am_call.up (k_231 f228.1.2.1 f226 f230 f231 (fun h234 f235 f236 f237 => ?_)) (by decide)⟩)
  have f238 : tR C h234 := tR_fr (fun a k u1 u2 => f236.2 a k (by omega) (by omega)) f228
  have f239 : ∀ e, e < dE C → h234.1 172 e = dW V e := fun e he => (f236.2 172 e (by omega) (by omega)).trans (f229 e he)
  have f240 : sR 0 (dP C) s h234 := sR_fr (fun k u1 u2 => f236.2 170 k (by omega) (by omega)) f228.1.2.1 f230
  have f241 : mL (dP C) M h234 := mL_fr f228.1.2.1 (fun m hm => f236.2 171 m (by omega) (by omega)) (fun k u1 u2 => f236.2 170 k (by omega) (by omega)) f232
  have f242 : h234.1 170 24 = nI x := (f236.2 170 24 (by omega) (by omega)).trans f233
  refine am_goX 2 (show am_sh h234 154 = some (11, 0) ∧ pz_S 4 (some .int) am_r239 3 Q 32 [(0, .ref 154), (1, .int (nI p)), (2, .int (nI l))] [am_rf (h234.2.2.1 154 24)] h234 from ⟨ex_154 f235, ?_⟩)
  rw [show am_rf (h234.2.2.1 154 24) = .ref 170 from congrArg am_rf (ex_r154_24 f235)]
  refine am_goX 4 (show ∃ jj nn : Nat, am_sh h234 170 = some (13, nn) ∧ jj < nn ∧ (Int32.ofInt 2) + (nI p) = nI jj ∧ pz_S 4 (some .int) am_r239 3 Q 36 [(0, .ref 154), (1, .int (nI p)), (2, .int (nI l))] [.int (h234.1 170 jj)] h234 from ⟨(2 + p), 1127, ex_170 f235, (by omega), (dn_a rfl rfl), ?_⟩)
  rw [show h234.1 170 (2 + p) = s.2.2.1 p from (by rw [show (2 + p) = 0 + 2 + p by omega]; exact f240.2.1 p (by omega))]
  refine am_goX 3 (show 3 < 4 ∧ am_sh h234 154 = some (11, 0) ∧ pz_S 4 (some .int) am_r239 3 Q 41 [(3, .int (s.2.2.1 p)), (0, .ref 154), (1, .int (nI p)), (2, .int (nI l))] [am_rf (h234.2.2.1 154 24)] h234 from ⟨by decide, ex_154 f235, ?_⟩)
  rw [show am_rf (h234.2.2.1 154 24) = .ref 170 from congrArg am_rf (ex_r154_24 f235)]
  refine am_goX 5 (show ∃ jj nn : Nat, am_so h234 170 = some (13, nn) ∧ jj < nn ∧ (Int32.ofInt 2) + (nI p) = nI jj ∧ pz_S 4 (some .int) am_r239 3 Q 46 [(3, .int (s.2.2.1 p)), (0, .ref 154), (1, .int (nI p)), (2, .int (nI l))] [] (am_wI h234 170 jj (nI l)) from ⟨(2 + p), 1127, ex_w170 f235, (by omega), (dn_a rfl rfl), ?_⟩)
  have f244 : ex_P (am_wI h234 170 (2 + p) (nI l)) := f235
  have f245 : cI C := f227
  have f246 : tR C (am_wI h234 170 (2 + p) (nI l)) := tR_w (by omega) f238
  have f247 : ∀ e, e < dE C → (am_wI h234 170 (2 + p) (nI l)).1 172 e = dW V e := on_w (by omega) f239
  have f248 : sR 0 (dP C) (sSL s p (nI l)) (am_wI h234 170 (2 + p) (nI l)) := sR_wL (i := p) (by omega) (by omega) f240
  have f249 : hL (dP C) (hP1 H s) (am_wI h234 170 (2 + p) (nI l)) := hL_w (by omega) f237
  have f250 : mL (dP C) M (am_wI h234 170 (2 + p) (nI l)) := mL_w (by omega) f241
  have f251 : (am_wI h234 170 (2 + p) (nI l)).1 170 24 = nI x := (em_wn _ _ (by omega)).trans f242
  generalize am_wI h234 170 (2 + p) (nI l) = h243 at f244 f245 f246 f247 f248 f249 f250 f251 ⊢
  exact am_goX 2 (show (∃ ty, (some .int) = some ty ∧ narrow ty (.int (s.2.2.1 p)) = .int (s.2.2.1 p)) ∧ h243.2.2.2.2 = 175 ∧ _ from ⟨⟨.int, rfl, rfl⟩, ex_175 f244, hQ _ f244 f245 f246 f247 f248 f249 f250 f251⟩)
def d_239x  : Int32 := Int32.ofInt (-1)
theorem d_239_xL (hP : ex_P h) (hI : cI C) (hT : tR C h) (hO : ∀ e, e < dE C → h.1 172 e = dW V e) (hS : sR 0 (dP C) s h) (hH : hL (dP C) H h) (hM : mL (dP C) M h) (hx : h.1 170 24 = nI x) (ey : d_87 C y = Int32.ofInt 0) (hQ : ∀ h1, (ex_P h1) → (cI C) → (tR C h1) → (∀ e, e < dE C → h1.1 172 e = dW V e) → (sR 0 (dP C) s h1) → (hL (dP C) H h1) → (mL (dP C) M h1) → (h1.1 170 24 = nI x) → Q (some (.int d_239x)) h1) : am_call am_cod 4 239 [.ref 154, .int y, .int w] h Q := by
  have h6 := hT.1.2.1
  have h5 := hT.2.1.2.1
  refine pz_call (n := 239) (nL := 4) (rt := (some .int)) (rows := am_r239) (d := 3) (by decide +kernel) (by decide +kernel) rfl (by funext pc; rfl) (ex_175 hP) (by exact Nat.le_of_ble_eq_true rfl) ?_
  refine am_goX 3 (show am_sh h 154 = some (11, 0) ∧ narrow (am_fty 11 0) (.int (Int32.ofInt 0)) = .int (Int32.ofInt 0) ∧ fits (am_fty 11 0) (.int (Int32.ofInt 0)) = true ∧ pz_S 4 (some .int) am_r239 3 Q 5 [(0, .ref 154), (1, .int y), (2, .int w)] [] (am_wI h 154 0 (Int32.ofInt 0)) from ⟨ex_154 hP, rfl, rfl, ?_⟩)
  have f253 : ex_P (am_wI h 154 0 (Int32.ofInt 0)) := hP
  have f254 : cI C := hI
  have f255 : tR C (am_wI h 154 0 (Int32.ofInt 0)) := tR_w (by omega) hT
  have f256 : ∀ e, e < dE C → (am_wI h 154 0 (Int32.ofInt 0)).1 172 e = dW V e := on_w (by omega) hO
  have f257 : sR 0 (dP C) s (am_wI h 154 0 (Int32.ofInt 0)) := sR_o (by omega) hS
  have f258 : hL (dP C) H (am_wI h 154 0 (Int32.ofInt 0)) := hL_w (by omega) hH
  have f259 : mL (dP C) M (am_wI h 154 0 (Int32.ofInt 0)) := mL_w (by omega) hM
  have f260 : (am_wI h 154 0 (Int32.ofInt 0)).1 170 24 = nI x := (em_wn _ _ (by omega)).trans hx
  generalize am_wI h 154 0 (Int32.ofInt 0) = h252 at f253 f254 f255 f256 f257 f258 f259 f260 ⊢
  refine am_goX 3 (show am_rc h252 154 11 ∧ 0 ≤ 8 ∧ h252.2.2.2.2 + am_al 221 ≤ 175 ∧ am_call am_cod 3 221 [.ref 154, .int y] h252 (fun vv h' => pz_S 4 (some .int) am_r239 3 Q 10 [(0, .ref 154), (1, .int y), (2, .int w)] (vv.toList ++ []) h') from ⟨Or.inl ⟨by decide, ex_154 f253⟩, by decide, ex_lim f253 rfl, am_call.up (d_221_r f253 f255 ?_) (by decide)⟩)
  rw [show d_221 C y = Int32.ofInt 0 from ((d_221_e _).trans ey)]
  refine am_goX 1 (show ((Int32.ofInt 0) = 0 → pz_S 4 (some .int) am_r239 3 Q 22 [(0, .ref 154), (1, .int y), (2, .int w)] [] h252) ∧ (¬ ((Int32.ofInt 0) = 0) → pz_S 4 (some .int) am_r239 3 Q 13 [(0, .ref 154), (1, .int y), (2, .int w)] [] h252) from ⟨fun _ => ?_, fun hz => absurd (by decide) hz⟩)
  exact am_goX 2 (show (∃ ty, (some .int) = some ty ∧ narrow ty (.int (Int32.ofInt (-1))) = .int (Int32.ofInt (-1))) ∧ h252.2.2.2.2 = 175 ∧ _ from ⟨⟨.int, rfl, rfl⟩, ex_175 f253, hQ _ f253 f254 f255 f256 f257 f258 f259 f260⟩)
theorem d_239_yL (hP : ex_P h) (hI : cI C) (hT : tR C h) (hO : ∀ e, e < dE C → h.1 172 e = dW V e) (hS : sR 0 (dP C) s h) (hH : hL (dP C) H h) (hM : mL (dP C) M h) (hx : h.1 170 24 = nI x) (hp : p < dP C) (ew : d_60 w (Int32.ofInt 0) (Int32.ofInt 4) = Int32.ofInt 0) (hQ : ∀ h1, (ex_P h1) → (cI C) → (tR C h1) → (∀ e, e < dE C → h1.1 172 e = dW V e) → (sR 0 (dP C) s h1) → (hL (dP C) H h1) → (mL (dP C) M h1) → (h1.1 170 24 = nI x) → Q (some (.int d_239x)) h1) : am_call am_cod 4 239 [.ref 154, .int (nI p), .int w] h Q := by
  have h6 := hT.1.2.1
  have h5 := hT.2.1.2.1
  refine pz_call (n := 239) (nL := 4) (rt := (some .int)) (rows := am_r239) (d := 3) (by decide +kernel) (by decide +kernel) rfl (by funext pc; rfl) (ex_175 hP) (by exact Nat.le_of_ble_eq_true rfl) ?_
  refine am_goX 3 (show am_sh h 154 = some (11, 0) ∧ narrow (am_fty 11 0) (.int (Int32.ofInt 0)) = .int (Int32.ofInt 0) ∧ fits (am_fty 11 0) (.int (Int32.ofInt 0)) = true ∧ pz_S 4 (some .int) am_r239 3 Q 5 [(0, .ref 154), (1, .int (nI p)), (2, .int w)] [] (am_wI h 154 0 (Int32.ofInt 0)) from ⟨ex_154 hP, rfl, rfl, ?_⟩)
  have f262 : ex_P (am_wI h 154 0 (Int32.ofInt 0)) := hP
  have f263 : cI C := hI
  have f264 : tR C (am_wI h 154 0 (Int32.ofInt 0)) := tR_w (by omega) hT
  have f265 : ∀ e, e < dE C → (am_wI h 154 0 (Int32.ofInt 0)).1 172 e = dW V e := on_w (by omega) hO
  have f266 : sR 0 (dP C) s (am_wI h 154 0 (Int32.ofInt 0)) := sR_o (by omega) hS
  have f267 : hL (dP C) H (am_wI h 154 0 (Int32.ofInt 0)) := hL_w (by omega) hH
  have f268 : mL (dP C) M (am_wI h 154 0 (Int32.ofInt 0)) := mL_w (by omega) hM
  have f269 : (am_wI h 154 0 (Int32.ofInt 0)).1 170 24 = nI x := (em_wn _ _ (by omega)).trans hx
  generalize am_wI h 154 0 (Int32.ofInt 0) = h261 at f262 f263 f264 f265 f266 f267 f268 f269 ⊢
  refine am_goX 3 (show am_rc h261 154 11 ∧ 0 ≤ 8 ∧ h261.2.2.2.2 + am_al 221 ≤ 175 ∧ am_call am_cod 3 221 [.ref 154, .int (nI p)] h261 (fun vv h' => pz_S 4 (some .int) am_r239 3 Q 10 [(0, .ref 154), (1, .int (nI p)), (2, .int w)] (vv.toList ++ []) h') from ⟨Or.inl ⟨by decide, ex_154 f262⟩, by decide, ex_lim f262 rfl, am_call.up (d_221_r f262 f264 ?_) (by decide)⟩)
  rw [show d_221 C (nI p) = Int32.ofInt 1 from ((d_221_e _).trans (v_87 hp))]
  refine am_goX 1 (show ((Int32.ofInt 1) = 0 → pz_S 4 (some .int) am_r239 3 Q 22 [(0, .ref 154), (1, .int (nI p)), (2, .int w)] [] h261) ∧ (¬ ((Int32.ofInt 1) = 0) → pz_S 4 (some .int) am_r239 3 Q 13 [(0, .ref 154), (1, .int (nI p)), (2, .int w)] [] h261) from ⟨fun hz => absurd hz (by decide), fun _ => ?_⟩)
  refine am_goX 4 (show 0 ≤ 8 ∧ h261.2.2.2.2 + am_al 207 ≤ 175 ∧ am_call am_cod 3 207 [.int w, .int (Int32.ofInt 0), .int (Int32.ofInt 4)] h261 (fun vv h' => pz_S 4 (some .int) am_r239 3 Q 19 [(0, .ref 154), (1, .int (nI p)), (2, .int w)] (vv.toList ++ []) h') from ⟨by decide, ex_lim f262 rfl, am_call.up (d_207_w f262 ?_) (by decide)⟩)
  rw [show d_207 w (Int32.ofInt 0) (Int32.ofInt 4) = Int32.ofInt 0 from ((d_207_e _ _ _).trans ew)]
  refine am_goX 1 (show (¬ (Int32.ofInt 0) = 0 → pz_S 4 (some .int) am_r239 3 Q 24 [(0, .ref 154), (1, .int (nI p)), (2, .int w)] [] h261) ∧ (¬ ¬ (Int32.ofInt 0) = 0 → pz_S 4 (some .int) am_r239 3 Q 22 [(0, .ref 154), (1, .int (nI p)), (2, .int w)] [] h261) from ⟨fun hz => absurd hz (by decide), fun _ => ?_⟩)
  exact am_goX 2 (show (∃ ty, (some .int) = some ty ∧ narrow ty (.int (Int32.ofInt (-1))) = .int (Int32.ofInt (-1))) ∧ h261.2.2.2.2 = 175 ∧ _ from ⟨⟨.int, rfl, rfl⟩, ex_175 f262, hQ _ f262 f263 f264 f265 f266 f267 f268 f269⟩)
def d_241_s (s : dS) (p : Nat) : dS := sSX (sSL s p (Int32.ofInt 2)) (((sSL s p (Int32.ofInt 2)).2.1) + (Int32.ofInt 1))
theorem d_241_L (hP : ex_P h) (hI : cI C) (hT : tR C h) (hO : ∀ e, e < dE C → h.1 172 e = dW V e) (hS : sR 0 (dP C) s h) (hH : hL (dP C) H h) (hM : mL (dP C) M h) (hx : h.1 170 24 = nI x) (hp : p < dP C) (hQ : ∀ h1, (ex_P h1) → (cI C) → (tR C h1) → (∀ e, e < dE C → h1.1 172 e = dW V e) → (sR 0 (dP C) (d_241_s s p) h1) → (hL (dP C) H h1) → (mL (dP C) M h1) → (h1.1 170 24 = nI x) → Q none h1) : am_call am_cod 1 241 [.ref 154, .int (Int32.ofInt 0), .int (nI p)] h Q := by
  have h6 := hT.1.2.1
  have h5 := hT.2.1.2.1
  refine pz_call (n := 241) (nL := 3) (rt := none) (rows := am_r241) (d := 0) (by decide +kernel) (by decide +kernel) rfl (by funext pc; rfl) (ex_175 hP) (by exact Nat.le_of_ble_eq_true rfl) ?_
  refine am_goX 2 (show am_sh h 154 = some (11, 0) ∧ pz_S 3 none am_r241 0 Q 4 [(0, .ref 154), (1, .int (Int32.ofInt 0)), (2, .int (nI p))] [am_rf (h.2.2.1 154 24)] h from ⟨ex_154 hP, ?_⟩)
  rw [show am_rf (h.2.2.1 154 24) = .ref 170 from congrArg am_rf (ex_r154_24 hP)]
  refine am_goX 7 (show ∃ jj nn : Nat, am_so h 170 = some (13, nn) ∧ jj < nn ∧ ((Int32.ofInt 0) + (Int32.ofInt 2)) + (nI p) = nI jj ∧ pz_S 3 none am_r241 0 Q 11 [(0, .ref 154), (1, .int (Int32.ofInt 0)), (2, .int (nI p))] [] (am_wI h 170 jj (Int32.ofInt 2)) from ⟨(2 + p), 1127, ex_w170 hP, (by omega), (dn_a (dn_a rfl rfl) rfl), ?_⟩)
  have f271 : ex_P (am_wI h 170 (2 + p) (Int32.ofInt 2)) := hP
  have f272 : cI C := hI
  have f273 : tR C (am_wI h 170 (2 + p) (Int32.ofInt 2)) := tR_w (by omega) hT
  have f274 : ∀ e, e < dE C → (am_wI h 170 (2 + p) (Int32.ofInt 2)).1 172 e = dW V e := on_w (by omega) hO
  have f275 : sR 0 (dP C) (sSL s p (Int32.ofInt 2)) (am_wI h 170 (2 + p) (Int32.ofInt 2)) := sR_wL (i := p) (by omega) (by omega) hS
  have f276 : hL (dP C) H (am_wI h 170 (2 + p) (Int32.ofInt 2)) := hL_w (by omega) hH
  have f277 : mL (dP C) M (am_wI h 170 (2 + p) (Int32.ofInt 2)) := mL_w (by omega) hM
  have f278 : (am_wI h 170 (2 + p) (Int32.ofInt 2)).1 170 24 = nI x := (em_wn _ _ (by omega)).trans hx
  generalize am_wI h 170 (2 + p) (Int32.ofInt 2) = h270 at f271 f272 f273 f274 f275 f276 f277 f278 ⊢
  refine am_goX 2 (show am_sh h270 154 = some (11, 0) ∧ pz_S 3 none am_r241 0 Q 15 [(0, .ref 154), (1, .int (Int32.ofInt 0)), (2, .int (nI p))] [am_rf (h270.2.2.1 154 24)] h270 from ⟨ex_154 f271, ?_⟩)
  rw [show am_rf (h270.2.2.1 154 24) = .ref 170 from congrArg am_rf (ex_r154_24 f271)]
  refine am_goX 5 (show (Value.int ((Int32.ofInt 0) + (Int32.ofInt 1))).category = 1 ∧ (Value.ref 170).category = 1 ∧ ∃ jj nn : Nat, am_sh h270 170 = some (13, nn) ∧ jj < nn ∧ (Int32.ofInt 0) + (Int32.ofInt 1) = nI jj ∧ pz_S 3 none am_r241 0 Q 20 [(0, .ref 154), (1, .int (Int32.ofInt 0)), (2, .int (nI p))] [.int (h270.1 170 jj), .int ((Int32.ofInt 0) + (Int32.ofInt 1)), .ref 170] h270 from ⟨rfl, rfl, ⟨1, 1127, ex_170 f271, (by omega), (dn_a rfl rfl), ?_⟩⟩)
  rw [show h270.1 170 1 = (sSL s p (Int32.ofInt 2)).2.1 from f275.1.2]
  refine am_goX 3 (show ∃ jj nn : Nat, am_so h270 170 = some (13, nn) ∧ jj < nn ∧ (Int32.ofInt 0) + (Int32.ofInt 1) = nI jj ∧ pz_S 3 none am_r241 0 Q 23 [(0, .ref 154), (1, .int (Int32.ofInt 0)), (2, .int (nI p))] [] (am_wI h270 170 jj (((sSL s p (Int32.ofInt 2)).2.1) + (Int32.ofInt 1))) from ⟨1, 1127, ex_w170 f271, (by omega), (dn_a rfl rfl), ?_⟩)
  have f280 : ex_P (am_wI h270 170 1 (((sSL s p (Int32.ofInt 2)).2.1) + (Int32.ofInt 1))) := f271
  have f281 : cI C := f272
  have f282 : tR C (am_wI h270 170 1 (((sSL s p (Int32.ofInt 2)).2.1) + (Int32.ofInt 1))) := tR_w (by omega) f273
  have f283 : ∀ e, e < dE C → (am_wI h270 170 1 (((sSL s p (Int32.ofInt 2)).2.1) + (Int32.ofInt 1))).1 172 e = dW V e := on_w (by omega) f274
  have f284 : sR 0 (dP C) (sSX (sSL s p (Int32.ofInt 2)) (((sSL s p (Int32.ofInt 2)).2.1) + (Int32.ofInt 1))) (am_wI h270 170 1 (((sSL s p (Int32.ofInt 2)).2.1) + (Int32.ofInt 1))) := sR_wX (by omega) f275
  have f285 : hL (dP C) H (am_wI h270 170 1 (((sSL s p (Int32.ofInt 2)).2.1) + (Int32.ofInt 1))) := hL_w (by omega) f276
  have f286 : mL (dP C) M (am_wI h270 170 1 (((sSL s p (Int32.ofInt 2)).2.1) + (Int32.ofInt 1))) := mL_w (by omega) f277
  have f287 : (am_wI h270 170 1 (((sSL s p (Int32.ofInt 2)).2.1) + (Int32.ofInt 1))).1 170 24 = nI x := (em_wn _ _ (by omega)).trans f278
  generalize am_wI h270 170 1 (((sSL s p (Int32.ofInt 2)).2.1) + (Int32.ofInt 1)) = h279 at f280 f281 f282 f283 f284 f285 f286 f287 ⊢
  exact am_goX 1 (show (none : Option FieldType) = none ∧ h279.2.2.2.2 = 175 ∧ _ from ⟨rfl, ex_175 f280, hQ _ f280 f281 f282 f283 f284 f285 f286 f287⟩)
def d_240_s (C : sp_C) (s : dS) (H : dH) (p : Nat) : dS := d_241_s s p
def d_240_H (C : sp_C) (s : dS) (H : dH) (p : Nat) : dH := (hP1 H s)
def d_240 (C : sp_C) (s : dS) (H : dH) (p : Nat) : Int32 := (d_241_s s p).2.1
theorem d_240_L (hP : ex_P h) (hI : cI C) (hT : tR C h) (hO : ∀ e, e < dE C → h.1 172 e = dW V e) (hS : sR 0 (dP C) s h) (hH : hL (dP C) H h) (hM : mL (dP C) M h) (hx : h.1 170 24 = nI x) (hp : p < dP C) (hQ : ∀ h1, (ex_P h1) → (cI C) → (tR C h1) → (∀ e, e < dE C → h1.1 172 e = dW V e) → (sR 0 (dP C) (d_240_s C s H p) h1) → (hL (dP C) (d_240_H C s H p) h1) → (mL (dP C) M h1) → (h1.1 170 24 = nI x) → Q (some (.int (d_240 C s H p))) h1) : am_call am_cod 4 240 [.ref 154, .int (nI p)] h Q := by
  have h6 := hT.1.2.1
  have h5 := hT.2.1.2.1
  refine pz_call (n := 240) (nL := 2) (rt := (some .int)) (rows := am_r240) (d := 3) (by decide +kernel) (by decide +kernel) rfl (by funext pc; rfl) (ex_175 hP) (by exact Nat.le_of_ble_eq_true rfl) ?_
  refine am_goX 3 (show am_sh h 154 = some (11, 0) ∧ narrow (am_fty 11 0) (.int (Int32.ofInt 0)) = .int (Int32.ofInt 0) ∧ fits (am_fty 11 0) (.int (Int32.ofInt 0)) = true ∧ pz_S 2 (some .int) am_r240 3 Q 5 [(0, .ref 154), (1, .int (nI p))] [] (am_wI h 154 0 (Int32.ofInt 0)) from ⟨ex_154 hP, rfl, rfl, ?_⟩)
  have f289 : ex_P (am_wI h 154 0 (Int32.ofInt 0)) := hP
  have f290 : cI C := hI
  have f291 : tR C (am_wI h 154 0 (Int32.ofInt 0)) := tR_w (by omega) hT
  have f292 : ∀ e, e < dE C → (am_wI h 154 0 (Int32.ofInt 0)).1 172 e = dW V e := on_w (by omega) hO
  have f293 : sR 0 (dP C) s (am_wI h 154 0 (Int32.ofInt 0)) := sR_o (by omega) hS
  have f294 : hL (dP C) H (am_wI h 154 0 (Int32.ofInt 0)) := hL_w (by omega) hH
  have f295 : mL (dP C) M (am_wI h 154 0 (Int32.ofInt 0)) := mL_w (by omega) hM
  have f296 : (am_wI h 154 0 (Int32.ofInt 0)).1 170 24 = nI x := (em_wn _ _ (by omega)).trans hx
  generalize am_wI h 154 0 (Int32.ofInt 0) = h288 at f289 f290 f291 f292 f293 f294 f295 f296 ⊢
  refine am_goX 3 (show am_rc h288 154 11 ∧ 0 ≤ 8 ∧ h288.2.2.2.2 + am_al 221 ≤ 175 ∧ am_call am_cod 3 221 [.ref 154, .int (nI p)] h288 (fun vv h' => pz_S 2 (some .int) am_r240 3 Q 10 [(0, .ref 154), (1, .int (nI p))] (vv.toList ++ []) h') from ⟨Or.inl ⟨by decide, ex_154 f289⟩, by decide, ex_lim f289 rfl, am_call.up (d_221_r f289 f291 ?_) (by decide)⟩)
  rw [show d_221 C (nI p) = Int32.ofInt 1 from ((d_221_e _).trans (v_87 hp))]
  refine am_goX 1 (show (¬ (Int32.ofInt 1) = 0 → pz_S 2 (some .int) am_r240 3 Q 15 [(0, .ref 154), (1, .int (nI p))] [] h288) ∧ (¬ ¬ (Int32.ofInt 1) = 0 → pz_S 2 (some .int) am_r240 3 Q 13 [(0, .ref 154), (1, .int (nI p))] [] h288) from ⟨fun _ => ?_, fun hz => absurd (by decide) hz⟩)
  refine am_goX 2 (show am_rc h288 154 11 ∧ 0 ≤ 8 ∧ h288.2.2.2.2 + am_al 231 ≤ 175 ∧ am_call am_cod 3 231 [.ref 154] h288 (fun vv h' => pz_S 2 (some .int) am_r240 3 Q 19 [(0, .ref 154), (1, .int (nI p))] (vv.toList ++ []) h') from ⟨Or.inl ⟨by decide, ex_154 f289⟩, by decide, ex_lim f289 rfl, am_call.up (k_231 f291.1.2.1 f289 f293 f294 (fun h297 f298 f299 f300 => ?_)) (by decide)⟩)
  have f301 : tR C h297 := tR_fr (fun a k u1 u2 => f299.2 a k (by omega) (by omega)) f291
  have f302 : ∀ e, e < dE C → h297.1 172 e = dW V e := fun e he => (f299.2 172 e (by omega) (by omega)).trans (f292 e he)
  have f303 : sR 0 (dP C) s h297 := sR_fr (fun k u1 u2 => f299.2 170 k (by omega) (by omega)) f291.1.2.1 f293
  have f304 : mL (dP C) M h297 := mL_fr f291.1.2.1 (fun m hm => f299.2 171 m (by omega) (by omega)) (fun k u1 u2 => f299.2 170 k (by omega) (by omega)) f295
  have f305 : h297.1 170 24 = nI x := (f299.2 170 24 (by omega) (by omega)).trans f296
  refine am_goX 4 (show am_rc h297 154 11 ∧ 0 ≤ 8 ∧ h297.2.2.2.2 + am_al 241 ≤ 175 ∧ am_call am_cod 3 241 [.ref 154, .int (Int32.ofInt 0), .int (nI p)] h297 (fun vv h' => pz_S 2 (some .int) am_r240 3 Q 25 [(0, .ref 154), (1, .int (nI p))] (vv.toList ++ []) h') from ⟨Or.inl ⟨by decide, ex_154 f298⟩, by decide, ex_lim f298 rfl, am_call.up (d_241_L f298 f290 f301 f302 f303 f300 f304 f305 (by omega) (fun h306 f307 f308 f309 f310 f311 f312 f313 f314 => ?_)) (by decide)⟩)
  refine am_goX 2 (show am_sh h306 154 = some (11, 0) ∧ pz_S 2 (some .int) am_r240 3 Q 29 [(0, .ref 154), (1, .int (nI p))] [am_rf (h306.2.2.1 154 24)] h306 from ⟨ex_154 f307, ?_⟩)
  rw [show am_rf (h306.2.2.1 154 24) = .ref 170 from congrArg am_rf (ex_r154_24 f307)]
  refine am_goX 2 (show ∃ jj nn : Nat, am_sh h306 170 = some (13, nn) ∧ jj < nn ∧ Int32.ofInt 1 = nI jj ∧ pz_S 2 (some .int) am_r240 3 Q 31 [(0, .ref 154), (1, .int (nI p))] [.int (h306.1 170 jj)] h306 from ⟨1, 1127, ex_170 f307, (by omega), rfl, ?_⟩)
  rw [show h306.1 170 1 = (d_241_s s p).2.1 from f311.1.2]
  exact am_goX 1 (show (∃ ty, (some .int) = some ty ∧ narrow ty (.int ((d_241_s s p).2.1)) = .int ((d_241_s s p).2.1)) ∧ h306.2.2.2.2 = 175 ∧ _ from ⟨⟨.int, rfl, rfl⟩, ex_175 f307, hQ _ f307 f308 f309 f310 f311 f312 f313 f314⟩)
def d_240x  : Int32 := Int32.ofInt (-1)
theorem d_240_xL (hP : ex_P h) (hI : cI C) (hT : tR C h) (hO : ∀ e, e < dE C → h.1 172 e = dW V e) (hS : sR 0 (dP C) s h) (hH : hL (dP C) H h) (hM : mL (dP C) M h) (hx : h.1 170 24 = nI x) (ey : d_87 C y = Int32.ofInt 0) (hQ : ∀ h1, (ex_P h1) → (cI C) → (tR C h1) → (∀ e, e < dE C → h1.1 172 e = dW V e) → (sR 0 (dP C) s h1) → (hL (dP C) H h1) → (mL (dP C) M h1) → (h1.1 170 24 = nI x) → Q (some (.int d_240x)) h1) : am_call am_cod 4 240 [.ref 154, .int y] h Q := by
  have h6 := hT.1.2.1
  have h5 := hT.2.1.2.1
  refine pz_call (n := 240) (nL := 2) (rt := (some .int)) (rows := am_r240) (d := 3) (by decide +kernel) (by decide +kernel) rfl (by funext pc; rfl) (ex_175 hP) (by exact Nat.le_of_ble_eq_true rfl) ?_
  refine am_goX 3 (show am_sh h 154 = some (11, 0) ∧ narrow (am_fty 11 0) (.int (Int32.ofInt 0)) = .int (Int32.ofInt 0) ∧ fits (am_fty 11 0) (.int (Int32.ofInt 0)) = true ∧ pz_S 2 (some .int) am_r240 3 Q 5 [(0, .ref 154), (1, .int y)] [] (am_wI h 154 0 (Int32.ofInt 0)) from ⟨ex_154 hP, rfl, rfl, ?_⟩)
  have f316 : ex_P (am_wI h 154 0 (Int32.ofInt 0)) := hP
  have f317 : cI C := hI
  have f318 : tR C (am_wI h 154 0 (Int32.ofInt 0)) := tR_w (by omega) hT
  have f319 : ∀ e, e < dE C → (am_wI h 154 0 (Int32.ofInt 0)).1 172 e = dW V e := on_w (by omega) hO
  have f320 : sR 0 (dP C) s (am_wI h 154 0 (Int32.ofInt 0)) := sR_o (by omega) hS
  have f321 : hL (dP C) H (am_wI h 154 0 (Int32.ofInt 0)) := hL_w (by omega) hH
  have f322 : mL (dP C) M (am_wI h 154 0 (Int32.ofInt 0)) := mL_w (by omega) hM
  have f323 : (am_wI h 154 0 (Int32.ofInt 0)).1 170 24 = nI x := (em_wn _ _ (by omega)).trans hx
  generalize am_wI h 154 0 (Int32.ofInt 0) = h315 at f316 f317 f318 f319 f320 f321 f322 f323 ⊢
  refine am_goX 3 (show am_rc h315 154 11 ∧ 0 ≤ 8 ∧ h315.2.2.2.2 + am_al 221 ≤ 175 ∧ am_call am_cod 3 221 [.ref 154, .int y] h315 (fun vv h' => pz_S 2 (some .int) am_r240 3 Q 10 [(0, .ref 154), (1, .int y)] (vv.toList ++ []) h') from ⟨Or.inl ⟨by decide, ex_154 f316⟩, by decide, ex_lim f316 rfl, am_call.up (d_221_r f316 f318 ?_) (by decide)⟩)
  rw [show d_221 C y = Int32.ofInt 0 from ((d_221_e _).trans ey)]
  refine am_goX 1 (show (¬ (Int32.ofInt 0) = 0 → pz_S 2 (some .int) am_r240 3 Q 15 [(0, .ref 154), (1, .int y)] [] h315) ∧ (¬ ¬ (Int32.ofInt 0) = 0 → pz_S 2 (some .int) am_r240 3 Q 13 [(0, .ref 154), (1, .int y)] [] h315) from ⟨fun hz => absurd hz (by decide), fun _ => ?_⟩)
  exact am_goX 2 (show (∃ ty, (some .int) = some ty ∧ narrow ty (.int (Int32.ofInt (-1))) = .int (Int32.ofInt (-1))) ∧ h315.2.2.2.2 = 175 ∧ _ from ⟨⟨.int, rfl, rfl⟩, ex_175 f316, hQ _ f316 f317 f318 f319 f320 f321 f322 f323⟩)
theorem hL_pop {P : Nat} {H : dH} {h : am_H} {v : Int32} (h0 : 0 < H.1) (hv : v = nI (H.1 - 1)) (h6 : P ≤ 6) (l : hL P H h) : hL P (hP0 H) (am_wI h 154 25 v) := by
  refine ⟨Nat.le_trans (Nat.sub_le _ _) l.1, (em_we _ _ _ _).trans hv, fun j hj => ?_⟩
  have hj : j < H.1 - 1 := hj
  have w := l.2.2 (j + 1) (by omega)
  show sR (245 + 49 * (H.1 - 1 - 1 - j)) P (H.2 (j + 1)) _
  rw [show H.1 - 1 - 1 - j = H.1 - 1 - (j + 1) by omega]
  exact sR_fr (fun k u1 u2 => em_wn _ _ (by omega)) h6 w
def d_242_s (H : dH) : dS := (H.2 0)
def d_242_H (H : dH) : dH := (hP0 H)
def d_242 (H : dH) : Int32 := Int32.ofInt 1
theorem d_242_L (hP : ex_P h) (hI : cI C) (hT : tR C h) (hO : ∀ e, e < dE C → h.1 172 e = dW V e) (hS : sR 0 (dP C) s h) (hH : hL (dP C) H h) (hM : mL (dP C) M h) (hx : h.1 170 24 = nI x) (hn : 0 < H.1) (hQ : ∀ h1, (ex_P h1) → (cI C) → (tR C h1) → (∀ e, e < dE C → h1.1 172 e = dW V e) → (sR 0 (dP C) (d_242_s H) h1) → (hL (dP C) (d_242_H H) h1) → (mL (dP C) M h1) → (h1.1 170 24 = nI x) → Q (some (.int (d_242 H))) h1) : am_call am_cod 3 242 [.ref 154] h Q := by
  have h6 := hT.1.2.1
  have h5 := hT.2.1.2.1
  have h16 := hH.1
  refine pz_call (n := 242) (nL := 1) (rt := (some .boolean)) (rows := am_r242) (d := 2) (by decide +kernel) (by decide +kernel) rfl (by funext pc; rfl) (ex_175 hP) (by exact Nat.le_of_ble_eq_true rfl) ?_
  refine am_goX 3 (show am_sh h 154 = some (11, 0) ∧ narrow (am_fty 11 0) (.int (Int32.ofInt 0)) = .int (Int32.ofInt 0) ∧ fits (am_fty 11 0) (.int (Int32.ofInt 0)) = true ∧ pz_S 1 (some .boolean) am_r242 2 Q 5 [(0, .ref 154)] [] (am_wI h 154 0 (Int32.ofInt 0)) from ⟨ex_154 hP, rfl, rfl, ?_⟩)
  have f325 : ex_P (am_wI h 154 0 (Int32.ofInt 0)) := hP
  have f326 : cI C := hI
  have f327 : tR C (am_wI h 154 0 (Int32.ofInt 0)) := tR_w (by omega) hT
  have f328 : ∀ e, e < dE C → (am_wI h 154 0 (Int32.ofInt 0)).1 172 e = dW V e := on_w (by omega) hO
  have f329 : sR 0 (dP C) s (am_wI h 154 0 (Int32.ofInt 0)) := sR_o (by omega) hS
  have f330 : hL (dP C) H (am_wI h 154 0 (Int32.ofInt 0)) := hL_w (by omega) hH
  have f331 : mL (dP C) M (am_wI h 154 0 (Int32.ofInt 0)) := mL_w (by omega) hM
  have f332 : (am_wI h 154 0 (Int32.ofInt 0)).1 170 24 = nI x := (em_wn _ _ (by omega)).trans hx
  generalize am_wI h 154 0 (Int32.ofInt 0) = h324 at f325 f326 f327 f328 f329 f330 f331 f332 ⊢
  refine am_goX 2 (show am_sh h324 154 = some (11, 0) ∧ pz_S 1 (some .boolean) am_r242 2 Q 9 [(0, .ref 154)] [.int (h324.1 154 25)] h324 from ⟨ex_154 f325, ?_⟩)
  rw [show h324.1 154 25 = nI H.1 from f330.2.1]
  refine am_goX 1 (show (¬ (nI H.1) = 0 → pz_S 1 (some .boolean) am_r242 2 Q 14 [(0, .ref 154)] [] h324) ∧ (¬ ¬ (nI H.1) = 0 → pz_S 1 (some .boolean) am_r242 2 Q 12 [(0, .ref 154)] [] h324) from ⟨fun _ => ?_, fun hz => absurd (nI_n0 hn (by omega)) hz⟩)
  refine am_goX 3 (show (Value.ref 154).category = 1 ∧ am_sh h324 154 = some (11, 0) ∧ pz_S 1 (some .boolean) am_r242 2 Q 19 [(0, .ref 154)] [.int (h324.1 154 25), .ref 154] h324 from ⟨rfl, ex_154 f325, ?_⟩)
  rw [show h324.1 154 25 = nI H.1 from f330.2.1]
  refine am_goX 2 (show pz_S 1 (some .boolean) am_r242 2 Q 21 [(0, .ref 154)] [.int ((nI H.1) - (Int32.ofInt 1)), .ref 154] h324 from ?_)
  have f333 : sR (245 + 49 * (H.1 - 1 - 0)) (dP C) (H.2 0) h324 := f330.2.2 0 hn
  refine am_goX 1 (show am_sh h324 154 = some (11, 0) ∧ narrow (am_fty 11 25) (.int ((nI H.1) - (Int32.ofInt 1))) = .int ((nI H.1) - (Int32.ofInt 1)) ∧ fits (am_fty 11 25) (.int ((nI H.1) - (Int32.ofInt 1))) = true ∧ pz_S 1 (some .boolean) am_r242 2 Q 24 [(0, .ref 154)] [] (am_wI h324 154 25 ((nI H.1) - (Int32.ofInt 1))) from ⟨ex_154 f325, rfl, rfl, ?_⟩)
  have f335 : ex_P (am_wI h324 154 25 ((nI H.1) - (Int32.ofInt 1))) := f325
  have f336 : cI C := f326
  have f337 : tR C (am_wI h324 154 25 ((nI H.1) - (Int32.ofInt 1))) := tR_w (by omega) f327
  have f338 : ∀ e, e < dE C → (am_wI h324 154 25 ((nI H.1) - (Int32.ofInt 1))).1 172 e = dW V e := on_w (by omega) f328
  have f339 : sR 0 (dP C) s (am_wI h324 154 25 ((nI H.1) - (Int32.ofInt 1))) := sR_o (by omega) f329
  have f340 : hL (dP C) (hP0 H) (am_wI h324 154 25 ((nI H.1) - (Int32.ofInt 1))) := hL_pop hn ((dn_s (by omega) rfl rfl)) (f327.1.2.1) f330
  have f341 : mL (dP C) M (am_wI h324 154 25 ((nI H.1) - (Int32.ofInt 1))) := mL_w (by omega) f331
  have f342 : (am_wI h324 154 25 ((nI H.1) - (Int32.ofInt 1))).1 170 24 = nI x := (em_wn _ _ (by omega)).trans f332
  have f343 : sR (245 + 49 * (H.1 - 1 - 0)) (dP C) (H.2 0) (am_wI h324 154 25 ((nI H.1) - (Int32.ofInt 1))) := sR_o (by omega) f333
  generalize am_wI h324 154 25 ((nI H.1) - (Int32.ofInt 1)) = h334 at f335 f336 f337 f338 f339 f340 f341 f342 f343 ⊢
  refine am_goX 5 (show am_sh h334 154 = some (11, 0) ∧ pz_S 1 (some .boolean) am_r242 2 Q 32 [(0, .ref 154)] [.int (h334.1 154 25), .int (Int32.ofInt 5), .int ((Int8.ofInt 49).toInt32), .ref 154] h334 from ⟨ex_154 f335, ?_⟩)
  rw [show h334.1 154 25 = nI (H.1 - 1) from f340.2.1]
  refine am_goX 4 (show pz_S 1 (some .boolean) am_r242 2 Q 37 [(0, .ref 154)] [.int ((Int8.ofInt 24).toInt32), .int (Int32.ofInt 0), .int (((Int8.ofInt 49).toInt32) * ((Int32.ofInt 5) + (nI (H.1 - 1)))), .ref 154] h334 from ?_)
  rw [show ((Int8.ofInt 49).toInt32) * ((Int32.ofInt 5) + (nI (H.1 - 1))) = nI (49 * (5 + (H.1 - 1))) from (dn_m (show (Int8.ofInt 49).toInt32 = nI 49 by decide) (dn_a rfl rfl))]
  rw [show Int32.ofInt 0 = nI 0 from rfl]
  rw [show (Int8.ofInt 24).toInt32 = nI 24 from (show (Int8.ofInt 24).toInt32 = nI 24 by decide)]
  refine am_goX 1 (show am_rc h334 154 11 ∧ 0 ≤ 8 ∧ h334.2.2.2.2 + am_al 232 ≤ 175 ∧ am_call am_cod 2 232 [.ref 154, .int (nI (49 * (5 + (H.1 - 1)))), .int (nI 0), .int (nI 24)] h334 (fun vv h' => pz_S 1 (some .boolean) am_r242 2 Q 40 [(0, .ref 154)] (vv.toList ++ []) h') from ⟨Or.inl ⟨by decide, ex_154 f335⟩, by decide, ex_lim f335 rfl, am_call.up (q_232 (A := (49 * (5 + (H.1 - 1)))) (B := 0) (K := 24) rfl rfl rfl (by omega) (by omega) (by omega) f335 (fun h344 f345 f346 f347 f348 => ?_)) (by decide)⟩)
  have f349 : sR 0 (dP C) (H.2 0) h344 := sR_cp (A := 245 + 49 * (H.1 - 1 - 0)) (fun j hj => by have w := f348 j hj; rw [show (49 * (5 + (H.1 - 1))) + j = 245 + 49 * (H.1 - 1 - 0) + j by omega] at w; exact w) h6 f343
  have f350 : tR C h344 := tR_fr (fun a k u1 u2 => f347 a k (by omega)) f337
  have f351 : ∀ e, e < dE C → h344.1 172 e = dW V e := fun e he => (f347 172 e (by omega)).trans (f338 e he)
  have f352 : hL (dP C) (hP0 H) h344 := hL_fr f337.1.2.1 (f347 154 25 (by omega)) (fun k u1 u2 => f347 170 k (by omega)) f340
  have f353 : mL (dP C) M h344 := mL_fr f337.1.2.1 (fun m hm => f347 171 m (by omega)) (fun k u1 u2 => f347 170 k (by omega)) f341
  have f354 : h344.1 170 24 = nI x := (f347 170 24 (by omega)).trans f342
  exact am_goX 2 (show (∃ ty, (some .boolean) = some ty ∧ narrow ty (.int (Int32.ofInt 1)) = .int (Int32.ofInt 1)) ∧ h344.2.2.2.2 = 175 ∧ _ from ⟨⟨.boolean, rfl, rfl⟩, ex_175 f345, hQ _ f345 f336 f350 f351 f349 f352 f353 f354⟩)
def d_242z  : Int32 := Int32.ofInt 0
theorem d_242_zL (hP : ex_P h) (hI : cI C) (hT : tR C h) (hO : ∀ e, e < dE C → h.1 172 e = dW V e) (hS : sR 0 (dP C) s h) (hH : hL (dP C) H h) (hM : mL (dP C) M h) (hx : h.1 170 24 = nI x) (hn : H.1 = 0) (hQ : ∀ h1, (ex_P h1) → (cI C) → (tR C h1) → (∀ e, e < dE C → h1.1 172 e = dW V e) → (sR 0 (dP C) s h1) → (hL (dP C) H h1) → (mL (dP C) M h1) → (h1.1 170 24 = nI x) → Q (some (.int d_242z)) h1) : am_call am_cod 3 242 [.ref 154] h Q := by
  have h6 := hT.1.2.1
  have h5 := hT.2.1.2.1
  have h16 := hH.1
  refine pz_call (n := 242) (nL := 1) (rt := (some .boolean)) (rows := am_r242) (d := 2) (by decide +kernel) (by decide +kernel) rfl (by funext pc; rfl) (ex_175 hP) (by exact Nat.le_of_ble_eq_true rfl) ?_
  refine am_goX 3 (show am_sh h 154 = some (11, 0) ∧ narrow (am_fty 11 0) (.int (Int32.ofInt 0)) = .int (Int32.ofInt 0) ∧ fits (am_fty 11 0) (.int (Int32.ofInt 0)) = true ∧ pz_S 1 (some .boolean) am_r242 2 Q 5 [(0, .ref 154)] [] (am_wI h 154 0 (Int32.ofInt 0)) from ⟨ex_154 hP, rfl, rfl, ?_⟩)
  have f356 : ex_P (am_wI h 154 0 (Int32.ofInt 0)) := hP
  have f357 : cI C := hI
  have f358 : tR C (am_wI h 154 0 (Int32.ofInt 0)) := tR_w (by omega) hT
  have f359 : ∀ e, e < dE C → (am_wI h 154 0 (Int32.ofInt 0)).1 172 e = dW V e := on_w (by omega) hO
  have f360 : sR 0 (dP C) s (am_wI h 154 0 (Int32.ofInt 0)) := sR_o (by omega) hS
  have f361 : hL (dP C) H (am_wI h 154 0 (Int32.ofInt 0)) := hL_w (by omega) hH
  have f362 : mL (dP C) M (am_wI h 154 0 (Int32.ofInt 0)) := mL_w (by omega) hM
  have f363 : (am_wI h 154 0 (Int32.ofInt 0)).1 170 24 = nI x := (em_wn _ _ (by omega)).trans hx
  generalize am_wI h 154 0 (Int32.ofInt 0) = h355 at f356 f357 f358 f359 f360 f361 f362 f363 ⊢
  refine am_goX 2 (show am_sh h355 154 = some (11, 0) ∧ pz_S 1 (some .boolean) am_r242 2 Q 9 [(0, .ref 154)] [.int (h355.1 154 25)] h355 from ⟨ex_154 f356, ?_⟩)
  rw [show h355.1 154 25 = nI H.1 from f361.2.1]
  refine am_goX 1 (show (¬ (nI H.1) = 0 → pz_S 1 (some .boolean) am_r242 2 Q 14 [(0, .ref 154)] [] h355) ∧ (¬ ¬ (nI H.1) = 0 → pz_S 1 (some .boolean) am_r242 2 Q 12 [(0, .ref 154)] [] h355) from ⟨fun hz => absurd hz (fun w => w (by rw [hn]; rfl)), fun _ => ?_⟩)
  exact am_goX 2 (show (∃ ty, (some .boolean) = some ty ∧ narrow ty (.int (Int32.ofInt 0)) = .int (Int32.ofInt 0)) ∧ h355.2.2.2.2 = 175 ∧ _ from ⟨⟨.boolean, rfl, rfl⟩, ex_175 f356, hQ _ f356 f357 f358 f359 f360 f361 f362 f363⟩)
end
section
/-! SEE AND MARK -/
abbrev mset (M : dMk) (m : Nat) (s : dS) (x : Nat) : dMk := (fun j => if j = m then true else M.1 j, fun j => if j = m then s else M.2.1 j, fun j => if j = m then x else M.2.2 j)
/-- all but the mark m -/
def kMk (m : Nat) (h0 h : am_H) : Prop := h.2 = h0.2 ∧ ∀ o k, ¬ (130 + 6 * m ≤ o ∧ o ≤ 135 + 6 * m) → h.1 o k = h0.1 o k
theorem kMk_0 {m : Nat} {h : am_H} : kMk m h h := ⟨rfl, fun _ _ _ => rfl⟩
theorem kMk_w {m o k : Nat} {v : Int32} {h0 h : am_H} (ho : 130 + 6 * m ≤ o ∧ o ≤ 135 + 6 * m) (l : kMk m h0 h) : kMk m h0 (am_wI h o k v) := ⟨l.1, fun a j n1 => (em_wn _ _ (by omega)).trans (l.2 a j n1)⟩
theorem mC_set {M : dMk} {m x : Nat} {s : dS} {h g : am_H} (k : ∀ a j, ¬ (130 + 6 * m ≤ a ∧ a ≤ 135 + 6 * m) → g.1 a j = h.1 a j) (e0 : g.1 (130 + 6 * m) 0 = 1) (e1 : sC (131 + 6 * m) s g) (e2 : g.1 (130 + 6 * m) 2 = nI x) (l : mC M h) : mC (mset M m s x) g := fun j hj => by
  show _ = (bif (if j = m then true else M.1 j) then (1 : Int32) else 0) ∧ ((if j = m then true else M.1 j) = true → sC _ (if j = m then s else M.2.1 j) g ∧ _ = nI (if j = m then x else M.2.2 j))
  by_cases e : j = m
  · rw [if_pos e, if_pos e, if_pos e, e]
    exact ⟨e0, fun _ => ⟨e1, e2⟩⟩
  · rw [if_neg e, if_neg e, if_neg e]
    exact ⟨(k _ _ (by omega)).trans (l j hj).1, fun z => ⟨sC_fr (fun a q u1 u2 => k a q (by omega)) ((l j hj).2 z).1, (k _ _ (by omega)).trans ((l j hj).2 z).2⟩⟩
theorem mL_set {P : Nat} {M : dMk} {m x : Nat} {s : dS} {h g : am_H} (h6 : P ≤ 6) (k : ∀ j, j < 4 → ¬ j = m → g.1 171 j = h.1 171 j) (k2 : ∀ q, 49 ≤ q → q < 245 → ¬ (49 + 49 * m ≤ q ∧ q < 49 + 49 * m + 49) → g.1 170 q = h.1 170 q) (e0 : g.1 171 m = 1) (e1 : sR (49 + 49 * m) P s g) (e2 : g.1 170 (73 + 49 * m) = nI x) (l : mL P M h) : mL P (mset M m s x) g := fun j hj => by
  show _ = (bif (if j = m then true else M.1 j) then (1 : Int32) else 0) ∧ ((if j = m then true else M.1 j) = true → sR _ P (if j = m then s else M.2.1 j) g ∧ _ = nI (if j = m then x else M.2.2 j))
  by_cases e : j = m
  · rw [if_pos e, if_pos e, if_pos e, e]
    exact ⟨e0, fun _ => ⟨e1, e2⟩⟩
  · rw [if_neg e, if_neg e, if_neg e]
    exact ⟨(k j hj e).trans (l j hj).1, fun z => ⟨sR_fr (fun q u1 u2 => k2 q (by omega) (by omega) (by omega)) h6 ((l j hj).2 z).1, (k2 _ (by omega) (by omega) (by omega)).trans ((l j hj).2 z).2⟩⟩
variable {h : am_H} {Q : am_Q} {C V : sp_C} {y z w b : Int32} {e l m q : Nat} {s : dS} {H : dH} {M : dMk} {x : Nat}
theorem v_93 (hp : e < dE C) (h5 : dE C ≤ 5) : (if nI e < 0 then Int32.ofInt 0 else if nI (dE C) ≤ nI e then Int32.ofInt 0 else Int32.ofInt 1) = Int32.ofInt 1 := by
  rw [if_neg (show ¬ (nI e < 0) from nI_pos (by omega)), if_neg (show ¬ (nI (dE C) ≤ nI e) by rw [nI_leI (by omega) (by omega)]; omega)]
theorem sv2_93 : am_r93.all (fun q => sv2_ok q.2) = true := by decide +kernel
theorem sv2_148 : am_r148.all (fun q => sv2_ok q.2) = true := by decide +kernel
theorem sv2_149 : am_r149.all (fun q => sv2_ok q.2) = true := by decide +kernel
theorem sv2_227 : am_r227.all (fun q => sv2_ok q.2) = true := by decide +kernel
theorem sv2_266 : am_r266.all (fun q => sv2_ok q.2) = true := by decide +kernel
def d_93 (C : sp_C) (y : Int32) : Int32 := (if y < 0 then Int32.ofInt 0 else (if (nI (dE C)) ≤ y then Int32.ofInt 0 else Int32.ofInt 1))
theorem d_93_t6 (hP : ex_P h) (hT : c_v 6 C h) (hR : h.2.2.1 0 3 = some 6)  (hQ : Q (some (.int (d_93 C y))) h) : am_call am_cod 2 93 [.ref 0, .int y] h Q := by
  have h6 := hT.1.2.1
  have h5 := hT.2.1.2.1
  refine pz_call (n := 93) (nL := 2) (rt := (some .boolean)) (rows := am_r93) (d := 1) (by decide +kernel) (by decide +kernel) rfl (by funext pc; rfl) (ex_175 hP) (by exact Nat.le_of_ble_eq_true rfl) ?_
  suffices key : ∀ (v2 : Int32), v2 = (if y < 0 then Int32.ofInt 0 else (if (nI (dE C)) ≤ y then Int32.ofInt 0 else Int32.ofInt 1)) → pz_S 2 (some .boolean) am_r93 1 Q 20 [] [.int v2] h by
    refine am_goX 2 (show (y < 0 → pz_S 2 (some .boolean) am_r93 1 Q 19 [(0, .ref 0), (1, .int y)] [] h) ∧ (¬ (y < 0) → pz_S 2 (some .boolean) am_r93 1 Q 4 [(0, .ref 0), (1, .int y)] [] h) from ⟨fun c1 => ?_, fun c1 => ?_⟩)
    · refine am_goX 1 (show pz_S 2 (some .boolean) am_r93 1 Q 20 [(0, .ref 0), (1, .int y)] [.int (Int32.ofInt 0)] h from ?_)
      exact sv_S2 sv2_93 (fun q hq => absurd hq List.not_mem_nil) (key _ (if_pos c1).symm)
    · refine am_goX 3 (show am_sh h 0 = some (10, 0) ∧ pz_S 2 (some .boolean) am_r93 1 Q 9 [(0, .ref 0), (1, .int y)] [am_rf (h.2.2.1 0 3), .int y] h from ⟨ex_0 hP, ?_⟩)
      rw [show am_rf (h.2.2.1 0 3) = .ref 6 from congrArg am_rf (hR)]
      refine am_goX 1 (show am_sh h 6 = some (0, 0) ∧ pz_S 2 (some .boolean) am_r93 1 Q 12 [(0, .ref 0), (1, .int y)] [.int (h.1 6 4), .int y] h from ⟨ex_6 hP, ?_⟩)
      rw [show h.1 6 4 = nI (dE C) from hT.2.1.1]
      suffices key : ∀ (v4 : Int32), v4 = (if (nI (dE C)) ≤ y then Int32.ofInt 0 else Int32.ofInt 1) → pz_S 2 (some .boolean) am_r93 1 Q 20 [] [.int v4] h by
        refine am_goX 1 (show ((nI (dE C)) ≤ y → pz_S 2 (some .boolean) am_r93 1 Q 19 [(0, .ref 0), (1, .int y)] [] h) ∧ (¬ ((nI (dE C)) ≤ y) → pz_S 2 (some .boolean) am_r93 1 Q 15 [(0, .ref 0), (1, .int y)] [] h) from ⟨fun c3 => ?_, fun c3 => ?_⟩)
        · refine am_goX 1 (show pz_S 2 (some .boolean) am_r93 1 Q 20 [(0, .ref 0), (1, .int y)] [.int (Int32.ofInt 0)] h from ?_)
          exact sv_S2 sv2_93 (fun q hq => absurd hq List.not_mem_nil) (key _ (if_pos c3).symm)
        · refine am_goX 2 (show pz_S 2 (some .boolean) am_r93 1 Q 20 [(0, .ref 0), (1, .int y)] [.int (Int32.ofInt 1)] h from ?_)
          exact sv_S2 sv2_93 (fun q hq => absurd hq List.not_mem_nil) (key _ (if_neg c3).symm)
      intro v4 e5
      subst e5
      exact sv_S2 sv2_93 (fun q hq => absurd hq List.not_mem_nil) (key _ (if_neg c1).symm)
  intro v2 e6
  subst e6
  exact am_goX 1 (show (∃ ty, (some .boolean) = some ty ∧ narrow ty (.int (if y < 0 then Int32.ofInt 0 else (if (nI (dE C)) ≤ y then Int32.ofInt 0 else Int32.ofInt 1))) = .int (if y < 0 then Int32.ofInt 0 else (if (nI (dE C)) ≤ y then Int32.ofInt 0 else Int32.ofInt 1))) ∧ h.2.2.2.2 = 175 ∧ _ from ⟨⟨.boolean, rfl, (by (repeat' split) <;> rfl)⟩, ex_175 hP, hQ⟩)
theorem c_93 (h5 : dE C ≤ 5) (x : Int32) : d_93 C x = Int32.ofInt 0 ∨ ∃ p, p < dE C ∧ x = nI p := by
  unfold d_93
  by_cases h1 : x < 0
  · rw [if_pos h1]; exact Or.inl rfl
  · rw [if_neg h1]
    by_cases h2 : nI (dE C) ≤ x
    · rw [if_pos h2]; exact Or.inl rfl
    · refine Or.inr ⟨x.toInt.toNat, ?_, ?_⟩
      · have a := mt Int32.le_iff_toInt_le.mpr h2
        rw [nI_toInt (by omega)] at a
        have b := mt Int32.lt_iff_toInt_lt.mpr h1
        have e0 : (0 : Int32).toInt = 0 := rfl
        omega
      · have a := mt Int32.le_iff_toInt_le.mpr h2
        rw [nI_toInt (by omega)] at a
        have b := mt Int32.lt_iff_toInt_lt.mpr h1
        have e0 : (0 : Int32).toInt = 0 := rfl
        exact Int32.toInt_inj.mp (by rw [nI_toInt (by omega)]; omega)
def d_149_5 (C : sp_C) (e : Nat) (y : Int32) : Nat → Nat → Int32 → Int32
  | 0, _, a3 => a3
  | m + 1, k, a3 => d_149_5 C e y m (k + 1) (if ¬ (d_90 (y + (if (d_68 C y) = 0 then (nI k) - (Int32.ofInt 2) else Int32.ofInt 0))) = (dW C e) then a3 else a3 ||| ((Int32.ofInt 1) <<< ((nI k) &&& 31)))
theorem d_149_5_w6 (hP : ex_P h) (hT : c_v 6 C h) (hD : c_d 6 C h) (he : e < dE C) : ∀ (m k : Nat) (a3 : Int32), k + m = 5 → (pz_S 6 (some .int) am_r149 2 Q 60 [(3, .int (d_149_5 C e y m k a3))] [] h) → pz_S 6 (some .int) am_r149 2 Q 5 [(0, .ref 6), (1, .int (nI e)), (2, .int y), (3, .int a3), (4, .int (nI k))] [] h := by
  intro m
  induction m with
  | zero =>
    intro k a3 hk hZ
    have h6 := hT.1.2.1
    have h5 := hT.2.1.2.1
    refine am_goX 3 (show ((Int32.ofInt 5) ≤ (nI k) → pz_S 6 (some .int) am_r149 2 Q 60 [(0, .ref 6), (1, .int (nI e)), (2, .int y), (3, .int a3), (4, .int (nI k))] [] h) ∧ (¬ ((Int32.ofInt 5) ≤ (nI k)) → pz_S 6 (some .int) am_r149 2 Q 11 [(0, .ref 6), (1, .int (nI e)), (2, .int y), (3, .int a3), (4, .int (nI k))] [] h) from ⟨fun _ => ?_, fun hz => absurd (show nI 5 ≤ nI k from nI_le (by omega) (by omega)) hz⟩)
    exact sv_S2 sv2_149 (by intro q hq; simp only [List.mem_cons, List.not_mem_nil, or_false] at hq; rcases hq with rfl <;> rfl) (hZ)
  | succ m ih =>
    intro k a3 hk hZ
    have h6 := hT.1.2.1
    have h5 := hT.2.1.2.1
    refine am_goX 3 (show ((Int32.ofInt 5) ≤ (nI k) → pz_S 6 (some .int) am_r149 2 Q 60 [(0, .ref 6), (1, .int (nI e)), (2, .int y), (3, .int a3), (4, .int (nI k))] [] h) ∧ (¬ ((Int32.ofInt 5) ≤ (nI k)) → pz_S 6 (some .int) am_r149 2 Q 11 [(0, .ref 6), (1, .int (nI e)), (2, .int y), (3, .int a3), (4, .int (nI k))] [] h) from ⟨fun hz => absurd hz (show ¬ (nI 5 ≤ nI k) by rw [nI_leI (by omega) (by omega)]; omega), fun _ => ?_⟩)
    refine am_goX 3 (show am_rc h 6 0 ∧ 0 ≤ 8 ∧ h.2.2.2.2 + am_al 68 ≤ 175 ∧ am_call am_cod 2 68 [.ref 6, .int y] h (fun vv h' => pz_S 6 (some .int) am_r149 2 Q 16 [(0, .ref 6), (1, .int (nI e)), (2, .int y), (3, .int a3), (4, .int (nI k))] (vv.toList ++ []) h') from ⟨Or.inl ⟨by decide, ex_6 hP⟩, by decide, ex_lim hP rfl, am_call.up (d_68_t6 hP hT ?_) (by decide)⟩)
    suffices key : ∀ (v8 : Int32), v8 = (if (d_68 C y) = 0 then (nI k) - (Int32.ofInt 2) else Int32.ofInt 0) → pz_S 6 (some .int) am_r149 2 Q 27 [(0, .ref 6), (1, .int (nI e)), (2, .int y), (3, .int a3), (4, .int (nI k))] [.int v8] h by
      refine am_goX 1 (show ((d_68 C y) = 0 → pz_S 6 (some .int) am_r149 2 Q 23 [(0, .ref 6), (1, .int (nI e)), (2, .int y), (3, .int a3), (4, .int (nI k))] [] h) ∧ (¬ ((d_68 C y) = 0) → pz_S 6 (some .int) am_r149 2 Q 19 [(0, .ref 6), (1, .int (nI e)), (2, .int y), (3, .int a3), (4, .int (nI k))] [] h) from ⟨fun c7 => ?_, fun c7 => ?_⟩)
      · refine am_goX 3 (show pz_S 6 (some .int) am_r149 2 Q 27 [(0, .ref 6), (1, .int (nI e)), (2, .int y), (3, .int a3), (4, .int (nI k))] [.int ((nI k) - (Int32.ofInt 2))] h from ?_)
        exact sv_S2 sv2_149 (by intro q hq; simp only [List.mem_cons, List.not_mem_nil, or_false] at hq; rcases hq with rfl | rfl | rfl | rfl | rfl <;> rfl) (key _ (if_pos c7).symm)
      · refine am_goX 2 (show pz_S 6 (some .int) am_r149 2 Q 27 [(0, .ref 6), (1, .int (nI e)), (2, .int y), (3, .int a3), (4, .int (nI k))] [.int (Int32.ofInt 0)] h from ?_)
        exact sv_S2 sv2_149 (by intro q hq; simp only [List.mem_cons, List.not_mem_nil, or_false] at hq; rcases hq with rfl | rfl | rfl | rfl | rfl <;> rfl) (key _ (if_neg c7).symm)
    intro v8 e9
    subst e9
    refine am_goX 6 (show 5 < 6 ∧ 0 ≤ 8 ∧ h.2.2.2.2 + am_al 90 ≤ 175 ∧ am_call am_cod 2 90 [.int (y + (if (d_68 C y) = 0 then (nI k) - (Int32.ofInt 2) else Int32.ofInt 0)), .int ((Int8.ofInt 7).toInt32)] h (fun vv h' => pz_S 6 (some .int) am_r149 2 Q 38 [(5, .int (if (d_68 C y) = 0 then (nI k) - (Int32.ofInt 2) else Int32.ofInt 0)), (0, .ref 6), (1, .int (nI e)), (2, .int y), (3, .int a3), (4, .int (nI k))] (vv.toList ++ []) h') from ⟨by decide, by decide, ex_lim hP rfl, am_call.up (d_90_w hP ?_) (by decide)⟩)
    refine am_goX 2 (show am_sh h 6 = some (0, 0) ∧ pz_S 6 (some .int) am_r149 2 Q 42 [(5, .int (if (d_68 C y) = 0 then (nI k) - (Int32.ofInt 2) else Int32.ofInt 0)), (0, .ref 6), (1, .int (nI e)), (2, .int y), (3, .int a3), (4, .int (nI k))] [am_rf (h.2.2.1 6 6), .int (d_90 (y + (if (d_68 C y) = 0 then (nI k) - (Int32.ofInt 2) else Int32.ofInt 0)))] h from ⟨ex_6 hP, ?_⟩)
    rw [show am_rf (h.2.2.1 6 6) = .ref 11 from congrArg am_rf (ex_r6_6 hP)]
    refine am_goX 2 (show ∃ jj nn : Nat, am_sh h 11 = some (13, nn) ∧ jj < nn ∧ nI e = nI jj ∧ pz_S 6 (some .int) am_r149 2 Q 44 [(5, .int (if (d_68 C y) = 0 then (nI k) - (Int32.ofInt 2) else Int32.ofInt 0)), (0, .ref 6), (1, .int (nI e)), (2, .int y), (3, .int a3), (4, .int (nI k))] [.int (h.1 11 jj), .int (d_90 (y + (if (d_68 C y) = 0 then (nI k) - (Int32.ofInt 2) else Int32.ofInt 0)))] h from ⟨e, 5, ex_11 hP, (by omega), rfl, ?_⟩)
    rw [show h.1 11 e = dW C e from hD e (by omega)]
    suffices key : ∀ (v11 : Int32), v11 = (if ¬ (d_90 (y + (if (d_68 C y) = 0 then (nI k) - (Int32.ofInt 2) else Int32.ofInt 0))) = (dW C e) then a3 else a3 ||| ((Int32.ofInt 1) <<< ((nI k) &&& 31))) → pz_S 6 (some .int) am_r149 2 Q 54 [(0, .ref 6), (1, .int (nI e)), (2, .int y), (3, .int v11), (4, .int (nI k))] [] h by
      refine am_goX 1 (show (¬ (d_90 (y + (if (d_68 C y) = 0 then (nI k) - (Int32.ofInt 2) else Int32.ofInt 0))) = (dW C e) → pz_S 6 (some .int) am_r149 2 Q 54 [(5, .int (if (d_68 C y) = 0 then (nI k) - (Int32.ofInt 2) else Int32.ofInt 0)), (0, .ref 6), (1, .int (nI e)), (2, .int y), (3, .int a3), (4, .int (nI k))] [] h) ∧ (¬ ¬ (d_90 (y + (if (d_68 C y) = 0 then (nI k) - (Int32.ofInt 2) else Int32.ofInt 0))) = (dW C e) → pz_S 6 (some .int) am_r149 2 Q 47 [(5, .int (if (d_68 C y) = 0 then (nI k) - (Int32.ofInt 2) else Int32.ofInt 0)), (0, .ref 6), (1, .int (nI e)), (2, .int y), (3, .int a3), (4, .int (nI k))] [] h) from ⟨fun c10 => ?_, fun c10 => ?_⟩)
      · exact sv_S2 sv2_149 (by intro q hq; simp only [List.mem_cons, List.not_mem_nil, or_false] at hq; rcases hq with rfl | rfl | rfl | rfl | rfl <;> rfl) (key _ (if_pos c10).symm)
      · refine am_goX 6 (show 3 < 6 ∧ pz_S 6 (some .int) am_r149 2 Q 54 [(3, .int (a3 ||| ((Int32.ofInt 1) <<< ((nI k) &&& 31)))), (5, .int (if (d_68 C y) = 0 then (nI k) - (Int32.ofInt 2) else Int32.ofInt 0)), (0, .ref 6), (1, .int (nI e)), (2, .int y), (4, .int (nI k))] [] h from ⟨by decide, ?_⟩)
        exact sv_S2 sv2_149 (by intro q hq; simp only [List.mem_cons, List.not_mem_nil, or_false] at hq; rcases hq with rfl | rfl | rfl | rfl | rfl <;> rfl) (key _ (if_neg c10).symm)
    intro v11 e12
    subst e12
    refine am_goX 2 (show 4 < 6 ∧ pz_S 6 (some .int) am_r149 2 Q 5 [(4, .int ((nI k) + (Int32.ofInt 1))), (0, .ref 6), (1, .int (nI e)), (2, .int y), (3, .int (if ¬ (d_90 (y + (if (d_68 C y) = 0 then (nI k) - (Int32.ofInt 2) else Int32.ofInt 0))) = (dW C e) then a3 else a3 ||| ((Int32.ofInt 1) <<< ((nI k) &&& 31))))] [] h from ⟨by decide, ?_⟩)
    rw [show (nI k) + (Int32.ofInt 1) = nI (k + 1) from (dn_a rfl rfl)]
    exact sv_S2 sv2_149 (by intro q hq; simp only [List.mem_cons, List.not_mem_nil, or_false] at hq; rcases hq with rfl | rfl | rfl | rfl | rfl <;> rfl) (ih (k + 1) (if ¬ (d_90 (y + (if (d_68 C y) = 0 then (nI k) - (Int32.ofInt 2) else Int32.ofInt 0))) = (dW C e) then a3 else a3 ||| ((Int32.ofInt 1) <<< ((nI k) &&& 31))) (by omega) hZ)
def d_149 (C : sp_C) (e : Nat) (y : Int32) : Int32 := d_149_5 C e y 5 0 (Int32.ofInt 0)
theorem d_149_w6 (hP : ex_P h) (hT : c_v 6 C h) (hD : c_d 6 C h) (he : e < dE C) (hQ : Q (some (.int (d_149 C e y))) h) : am_call am_cod 3 149 [.ref 6, .int (nI e), .int y] h Q := by
  have h6 := hT.1.2.1
  have h5 := hT.2.1.2.1
  refine pz_call (n := 149) (nL := 6) (rt := (some .int)) (rows := am_r149) (d := 2) (by decide +kernel) (by decide +kernel) rfl (by funext pc; rfl) (ex_175 hP) (by exact Nat.le_of_ble_eq_true rfl) ?_
  refine am_goX 4 (show 3 < 6 ∧ 4 < 6 ∧ pz_S 6 (some .int) am_r149 2 Q 5 [(4, .int (Int32.ofInt 0)), (3, .int (Int32.ofInt 0)), (0, .ref 6), (1, .int (nI e)), (2, .int y)] [] h from ⟨by decide, by decide, ?_⟩)
  refine sv_S2 sv2_149 (by intro q hq; simp only [List.mem_cons, List.not_mem_nil, or_false] at hq; rcases hq with rfl | rfl | rfl | rfl | rfl <;> rfl) (d_149_5_w6 hP hT hD he 5 0 (Int32.ofInt 0) (by omega) ?_)
  exact am_goX 2 (show (∃ ty, (some .int) = some ty ∧ narrow ty (.int (d_149_5 C e y 5 0 (Int32.ofInt 0))) = .int (d_149_5 C e y 5 0 (Int32.ofInt 0))) ∧ h.2.2.2.2 = 175 ∧ _ from ⟨⟨.int, rfl, rfl⟩, ex_175 hP, hQ⟩)
def d_148_x (x : Nat) : Nat := (x + 1)
def d_148 (x : Nat) : Int32 := Int32.ofInt 1
theorem d_148_K6 (hP : ex_P h) (hI : cI C) (hT : c_v 6 C h) (hD : c_d 6 C h) (hR : h.2.2.1 0 3 = some 6) (hS : sC 36 s h) (hH : hC H h) (hM : mC M h) (hx : h.1 0 12 = nI x) (he : e < dE C) (hl1 : 1 ≤ l) (hl2 : l ≤ 28) (hx8 : x < 8) (hQ : ∀ h1, (ex_P h1) → (cI C) → (c_v 6 C h1) → (c_d 6 C h1) → (h1.2.2.1 0 3 = some 6) → (sC 36 s h1) → (hC H h1) → (mC M h1) → (h1.1 0 12 = nI (d_148_x x)) → Q (some (.int (d_148 x))) h1) : am_call am_cod 5 148 [.ref 0, .int (nI e), .int (nI l), .int b] h Q := by
  have h6 := hT.1.2.1
  have h5 := hT.2.1.2.1
  refine pz_call (n := 148) (nL := 5) (rt := (some .boolean)) (rows := am_r148) (d := 4) (by decide +kernel) (by decide +kernel) rfl (by funext pc; rfl) (ex_175 hP) (by exact Nat.le_of_ble_eq_true rfl) ?_
  refine am_goX 3 (show am_rc h 0 10 ∧ 0 ≤ 8 ∧ h.2.2.2.2 + am_al 93 ≤ 175 ∧ am_call am_cod 4 93 [.ref 0, .int (nI e)] h (fun vv h' => pz_S 5 (some .boolean) am_r148 4 Q 5 [(0, .ref 0), (1, .int (nI e)), (2, .int (nI l)), (3, .int b)] (vv.toList ++ []) h') from ⟨Or.inl ⟨by decide, ex_0 hP⟩, by decide, ex_lim hP rfl, am_call.up (d_93_t6 hP hT hR ?_) (by decide)⟩)
  rw [show d_93 C (nI e) = Int32.ofInt 1 from (v_93 he h5)]
  refine am_goX 1 (show ((Int32.ofInt 1) = 0 → pz_S 5 (some .boolean) am_r148 4 Q 27 [(0, .ref 0), (1, .int (nI e)), (2, .int (nI l)), (3, .int b)] [] h) ∧ (¬ ((Int32.ofInt 1) = 0) → pz_S 5 (some .boolean) am_r148 4 Q 8 [(0, .ref 0), (1, .int (nI e)), (2, .int (nI l)), (3, .int b)] [] h) from ⟨fun hz => absurd hz (by decide), fun _ => ?_⟩)
  refine am_goX 4 (show 0 ≤ 8 ∧ h.2.2.2.2 + am_al 60 ≤ 175 ∧ am_call am_cod 4 60 [.int (nI l), .int (Int32.ofInt 1), .int ((Int8.ofInt 28).toInt32)] h (fun vv h' => pz_S 5 (some .boolean) am_r148 4 Q 15 [(0, .ref 0), (1, .int (nI e)), (2, .int (nI l)), (3, .int b)] (vv.toList ++ []) h') from ⟨by decide, ex_lim hP rfl, am_call.up (d_60_w hP ?_) (by decide)⟩)
  rw [show d_60 (nI l) (Int32.ofInt 1) ((Int8.ofInt 28).toInt32) = Int32.ofInt 1 from (by rw [show (Int8.ofInt 28).toInt32 = nI 28 by decide]; exact v_60 (lo := 1) (hi := 28) hl1 hl2 (by decide))]
  refine am_goX 1 (show ((Int32.ofInt 1) = 0 → pz_S 5 (some .boolean) am_r148 4 Q 27 [(0, .ref 0), (1, .int (nI e)), (2, .int (nI l)), (3, .int b)] [] h) ∧ (¬ ((Int32.ofInt 1) = 0) → pz_S 5 (some .boolean) am_r148 4 Q 18 [(0, .ref 0), (1, .int (nI e)), (2, .int (nI l)), (3, .int b)] [] h) from ⟨fun hz => absurd hz (by decide), fun _ => ?_⟩)
  refine am_goX 2 (show am_sh h 0 = some (10, 0) ∧ pz_S 5 (some .boolean) am_r148 4 Q 22 [(0, .ref 0), (1, .int (nI e)), (2, .int (nI l)), (3, .int b)] [.int (h.1 0 12)] h from ⟨ex_0 hP, ?_⟩)
  rw [show h.1 0 12 = nI x from hx]
  refine am_goX 2 (show ((nI x) < ((Int8.ofInt 8).toInt32) → pz_S 5 (some .boolean) am_r148 4 Q 29 [(0, .ref 0), (1, .int (nI e)), (2, .int (nI l)), (3, .int b)] [] h) ∧ (¬ ((nI x) < ((Int8.ofInt 8).toInt32)) → pz_S 5 (some .boolean) am_r148 4 Q 27 [(0, .ref 0), (1, .int (nI e)), (2, .int (nI l)), (3, .int b)] [] h) from ⟨fun _ => ?_, fun hz => absurd (show nI x < nI 8 from nI_lt (by omega) (by omega)) hz⟩)
  refine am_goX 2 (show am_sh h 0 = some (10, 0) ∧ pz_S 5 (some .boolean) am_r148 4 Q 33 [(0, .ref 0), (1, .int (nI e)), (2, .int (nI l)), (3, .int b)] [am_rf (h.2.2.1 0 3)] h from ⟨ex_0 hP, ?_⟩)
  rw [show am_rf (h.2.2.1 0 3) = .ref 6 from congrArg am_rf (hR)]
  refine am_goX 3 (show am_sh h 0 = some (10, 0) ∧ pz_S 5 (some .boolean) am_r148 4 Q 38 [(0, .ref 0), (1, .int (nI e)), (2, .int (nI l)), (3, .int b)] [am_rf (h.2.2.1 0 7), .int (nI e), .ref 6] h from ⟨ex_0 hP, ?_⟩)
  rw [show am_rf (h.2.2.1 0 7) = .ref 36 from congrArg am_rf (ex_r0_7 hP)]
  refine am_goX 1 (show am_sh h 36 = some (6, 0) ∧ pz_S 5 (some .boolean) am_r148 4 Q 41 [(0, .ref 0), (1, .int (nI e)), (2, .int (nI l)), (3, .int b)] [.int (h.1 36 0), .int (nI e), .ref 6] h from ⟨ex_36 hP, ?_⟩)
  rw [show h.1 36 0 = s.1 from hS.1.1]
  refine am_goX 3 (show am_rc h 6 0 ∧ 0 ≤ 8 ∧ h.2.2.2.2 + am_al 149 ≤ 175 ∧ am_call am_cod 4 149 [.ref 6, .int (nI e), .int (s.1 + (nI l))] h (fun vv h' => pz_S 5 (some .boolean) am_r148 4 Q 46 [(0, .ref 0), (1, .int (nI e)), (2, .int (nI l)), (3, .int b)] (vv.toList ++ []) h') from ⟨Or.inl ⟨by decide, ex_6 hP⟩, by decide, ex_lim hP rfl, am_call.up (d_149_w6 hP hT hD (by omega) ?_) (by decide)⟩)
  suffices key : ∀ (v14 : Int32), v14 = (if b = 0 then (d_149 C e (s.1 + (nI l))) ^^^ (Int32.ofInt (-1)) else d_149 C e (s.1 + (nI l))) → pz_S 5 (some .boolean) am_r148 4 Q 66 [(0, .ref 0)] [.int v14, .int (h.1 0 13), .ref 0] h by
    refine am_goX 6 (show 4 < 5 ∧ (Value.ref 0).category = 1 ∧ am_sh h 0 = some (10, 0) ∧ (b = 0 → pz_S 5 (some .boolean) am_r148 4 Q 62 [(4, .int (d_149 C e (s.1 + (nI l)))), (0, .ref 0), (1, .int (nI e)), (2, .int (nI l)), (3, .int b)] [.int (h.1 0 13), .ref 0] h) ∧ (¬ (b = 0) → pz_S 5 (some .boolean) am_r148 4 Q 57 [(4, .int (d_149 C e (s.1 + (nI l)))), (0, .ref 0), (1, .int (nI e)), (2, .int (nI l)), (3, .int b)] [.int (h.1 0 13), .ref 0] h) from ⟨by decide, rfl, ex_0 hP, fun c13 => ?_, fun c13 => ?_⟩)
    · refine am_goX 3 (show pz_S 5 (some .boolean) am_r148 4 Q 66 [(4, .int (d_149 C e (s.1 + (nI l)))), (0, .ref 0), (1, .int (nI e)), (2, .int (nI l)), (3, .int b)] [.int ((d_149 C e (s.1 + (nI l))) ^^^ (Int32.ofInt (-1))), .int (h.1 0 13), .ref 0] h from ?_)
      exact sv_S2 sv2_148 (by intro q hq; simp only [List.mem_cons, List.not_mem_nil, or_false] at hq; rcases hq with rfl <;> rfl) (key _ (if_pos c13).symm)
    · refine am_goX 2 (show pz_S 5 (some .boolean) am_r148 4 Q 66 [(4, .int (d_149 C e (s.1 + (nI l)))), (0, .ref 0), (1, .int (nI e)), (2, .int (nI l)), (3, .int b)] [.int (d_149 C e (s.1 + (nI l))), .int (h.1 0 13), .ref 0] h from ?_)
      exact sv_S2 sv2_148 (by intro q hq; simp only [List.mem_cons, List.not_mem_nil, or_false] at hq; rcases hq with rfl <;> rfl) (key _ (if_neg c13).symm)
  intro v14 e15
  subst e15
  refine am_goX 2 (show am_sh h 0 = some (10, 0) ∧ narrow (am_fty 10 13) (.int ((h.1 0 13) &&& (if b = 0 then (d_149 C e (s.1 + (nI l))) ^^^ (Int32.ofInt (-1)) else d_149 C e (s.1 + (nI l))))) = .int ((h.1 0 13) &&& (if b = 0 then (d_149 C e (s.1 + (nI l))) ^^^ (Int32.ofInt (-1)) else d_149 C e (s.1 + (nI l)))) ∧ fits (am_fty 10 13) (.int ((h.1 0 13) &&& (if b = 0 then (d_149 C e (s.1 + (nI l))) ^^^ (Int32.ofInt (-1)) else d_149 C e (s.1 + (nI l))))) = true ∧ pz_S 5 (some .boolean) am_r148 4 Q 70 [(0, .ref 0)] [] (am_wI h 0 13 ((h.1 0 13) &&& (if b = 0 then (d_149 C e (s.1 + (nI l))) ^^^ (Int32.ofInt (-1)) else d_149 C e (s.1 + (nI l))))) from ⟨ex_0 hP, rfl, rfl, ?_⟩)
  have f17 : ex_P (am_wI h 0 13 ((h.1 0 13) &&& (if b = 0 then (d_149 C e (s.1 + (nI l))) ^^^ (Int32.ofInt (-1)) else d_149 C e (s.1 + (nI l))))) := hP
  have f18 : cI C := hI
  have f19 : c_v 6 C (am_wI h 0 13 ((h.1 0 13) &&& (if b = 0 then (d_149 C e (s.1 + (nI l))) ^^^ (Int32.ofInt (-1)) else d_149 C e (s.1 + (nI l))))) := c_v_w (by omega) hT
  have f20 : c_d 6 C (am_wI h 0 13 ((h.1 0 13) &&& (if b = 0 then (d_149 C e (s.1 + (nI l))) ^^^ (Int32.ofInt (-1)) else d_149 C e (s.1 + (nI l))))) := c_d_w (by omega) hD
  have f21 : (am_wI h 0 13 ((h.1 0 13) &&& (if b = 0 then (d_149 C e (s.1 + (nI l))) ^^^ (Int32.ofInt (-1)) else d_149 C e (s.1 + (nI l))))).2.2.1 0 3 = some 6 := hR
  have f22 : sC 36 s (am_wI h 0 13 ((h.1 0 13) &&& (if b = 0 then (d_149 C e (s.1 + (nI l))) ^^^ (Int32.ofInt (-1)) else d_149 C e (s.1 + (nI l))))) := sC_w (by omega) hS
  have f23 : hC H (am_wI h 0 13 ((h.1 0 13) &&& (if b = 0 then (d_149 C e (s.1 + (nI l))) ^^^ (Int32.ofInt (-1)) else d_149 C e (s.1 + (nI l))))) := hC_w (by omega) hH
  have f24 : mC M (am_wI h 0 13 ((h.1 0 13) &&& (if b = 0 then (d_149 C e (s.1 + (nI l))) ^^^ (Int32.ofInt (-1)) else d_149 C e (s.1 + (nI l))))) := mC_w (by omega) hM
  have f25 : (am_wI h 0 13 ((h.1 0 13) &&& (if b = 0 then (d_149 C e (s.1 + (nI l))) ^^^ (Int32.ofInt (-1)) else d_149 C e (s.1 + (nI l))))).1 0 12 = nI x := (em_wn _ _ (by omega)).trans hx
  generalize am_wI h 0 13 ((h.1 0 13) &&& (if b = 0 then (d_149 C e (s.1 + (nI l))) ^^^ (Int32.ofInt (-1)) else d_149 C e (s.1 + (nI l)))) = h16 at f17 f18 f19 f20 f21 f22 f23 f24 f25 ⊢
  refine am_goX 3 (show (Value.ref 0).category = 1 ∧ am_sh h16 0 = some (10, 0) ∧ pz_S 5 (some .boolean) am_r148 4 Q 75 [(0, .ref 0)] [.int (h16.1 0 12), .ref 0] h16 from ⟨rfl, ex_0 f17, ?_⟩)
  rw [show h16.1 0 12 = nI x from f25]
  refine am_goX 3 (show am_sh h16 0 = some (10, 0) ∧ narrow (am_fty 10 12) (.int ((nI x) + (Int32.ofInt 1))) = .int ((nI x) + (Int32.ofInt 1)) ∧ fits (am_fty 10 12) (.int ((nI x) + (Int32.ofInt 1))) = true ∧ pz_S 5 (some .boolean) am_r148 4 Q 80 [(0, .ref 0)] [] (am_wI h16 0 12 ((nI x) + (Int32.ofInt 1))) from ⟨ex_0 f17, rfl, rfl, ?_⟩)
  have f27 : ex_P (am_wI h16 0 12 ((nI x) + (Int32.ofInt 1))) := f17
  have f28 : cI C := f18
  have f29 : c_v 6 C (am_wI h16 0 12 ((nI x) + (Int32.ofInt 1))) := c_v_w (by omega) f19
  have f30 : c_d 6 C (am_wI h16 0 12 ((nI x) + (Int32.ofInt 1))) := c_d_w (by omega) f20
  have f31 : (am_wI h16 0 12 ((nI x) + (Int32.ofInt 1))).2.2.1 0 3 = some 6 := f21
  have f32 : sC 36 s (am_wI h16 0 12 ((nI x) + (Int32.ofInt 1))) := sC_w (by omega) f22
  have f33 : hC H (am_wI h16 0 12 ((nI x) + (Int32.ofInt 1))) := hC_w (by omega) f23
  have f34 : mC M (am_wI h16 0 12 ((nI x) + (Int32.ofInt 1))) := mC_w (by omega) f24
  have f35 : (am_wI h16 0 12 ((nI x) + (Int32.ofInt 1))).1 0 12 = nI (x + 1) := (em_we _ _ _ _).trans ((dn_a rfl rfl))
  generalize am_wI h16 0 12 ((nI x) + (Int32.ofInt 1)) = h26 at f27 f28 f29 f30 f31 f32 f33 f34 f35 ⊢
  exact am_goX 2 (show (∃ ty, (some .boolean) = some ty ∧ narrow ty (.int (Int32.ofInt 1)) = .int (Int32.ofInt 1)) ∧ h26.2.2.2.2 = 175 ∧ _ from ⟨⟨.boolean, rfl, rfl⟩, ex_175 f27, hQ _ f27 f28 f29 f30 f31 f32 f33 f34 f35⟩)
def d_148x  : Int32 := Int32.ofInt 0
theorem d_148_xK6 (hP : ex_P h) (hI : cI C) (hT : c_v 6 C h) (hD : c_d 6 C h) (hR : h.2.2.1 0 3 = some 6) (hS : sC 36 s h) (hH : hC H h) (hM : mC M h) (hx : h.1 0 12 = nI x) (ey : d_93 C y = Int32.ofInt 0) (hQ : ∀ h1, (ex_P h1) → (cI C) → (c_v 6 C h1) → (c_d 6 C h1) → (h1.2.2.1 0 3 = some 6) → (sC 36 s h1) → (hC H h1) → (mC M h1) → (h1.1 0 12 = nI x) → Q (some (.int d_148x)) h1) : am_call am_cod 5 148 [.ref 0, .int y, .int w, .int b] h Q := by
  have h6 := hT.1.2.1
  have h5 := hT.2.1.2.1
  refine pz_call (n := 148) (nL := 5) (rt := (some .boolean)) (rows := am_r148) (d := 4) (by decide +kernel) (by decide +kernel) rfl (by funext pc; rfl) (ex_175 hP) (by exact Nat.le_of_ble_eq_true rfl) ?_
  refine am_goX 3 (show am_rc h 0 10 ∧ 0 ≤ 8 ∧ h.2.2.2.2 + am_al 93 ≤ 175 ∧ am_call am_cod 4 93 [.ref 0, .int y] h (fun vv h' => pz_S 5 (some .boolean) am_r148 4 Q 5 [(0, .ref 0), (1, .int y), (2, .int w), (3, .int b)] (vv.toList ++ []) h') from ⟨Or.inl ⟨by decide, ex_0 hP⟩, by decide, ex_lim hP rfl, am_call.up (d_93_t6 hP hT hR ?_) (by decide)⟩)
  rw [show d_93 C y = Int32.ofInt 0 from ey]
  refine am_goX 1 (show ((Int32.ofInt 0) = 0 → pz_S 5 (some .boolean) am_r148 4 Q 27 [(0, .ref 0), (1, .int y), (2, .int w), (3, .int b)] [] h) ∧ (¬ ((Int32.ofInt 0) = 0) → pz_S 5 (some .boolean) am_r148 4 Q 8 [(0, .ref 0), (1, .int y), (2, .int w), (3, .int b)] [] h) from ⟨fun _ => ?_, fun hz => absurd (by decide) hz⟩)
  exact am_goX 2 (show (∃ ty, (some .boolean) = some ty ∧ narrow ty (.int (Int32.ofInt 0)) = .int (Int32.ofInt 0)) ∧ h.2.2.2.2 = 175 ∧ _ from ⟨⟨.boolean, rfl, rfl⟩, ex_175 hP, hQ _ hP hI hT hD hR hS hH hM hx⟩)
theorem d_148_yK6 (hP : ex_P h) (hI : cI C) (hT : c_v 6 C h) (hD : c_d 6 C h) (hR : h.2.2.1 0 3 = some 6) (hS : sC 36 s h) (hH : hC H h) (hM : mC M h) (hx : h.1 0 12 = nI x) (he : e < dE C) (ew : d_60 w (Int32.ofInt 1) ((Int8.ofInt 28).toInt32) = Int32.ofInt 0) (hQ : ∀ h1, (ex_P h1) → (cI C) → (c_v 6 C h1) → (c_d 6 C h1) → (h1.2.2.1 0 3 = some 6) → (sC 36 s h1) → (hC H h1) → (mC M h1) → (h1.1 0 12 = nI x) → Q (some (.int d_148x)) h1) : am_call am_cod 5 148 [.ref 0, .int (nI e), .int w, .int b] h Q := by
  have h6 := hT.1.2.1
  have h5 := hT.2.1.2.1
  refine pz_call (n := 148) (nL := 5) (rt := (some .boolean)) (rows := am_r148) (d := 4) (by decide +kernel) (by decide +kernel) rfl (by funext pc; rfl) (ex_175 hP) (by exact Nat.le_of_ble_eq_true rfl) ?_
  refine am_goX 3 (show am_rc h 0 10 ∧ 0 ≤ 8 ∧ h.2.2.2.2 + am_al 93 ≤ 175 ∧ am_call am_cod 4 93 [.ref 0, .int (nI e)] h (fun vv h' => pz_S 5 (some .boolean) am_r148 4 Q 5 [(0, .ref 0), (1, .int (nI e)), (2, .int w), (3, .int b)] (vv.toList ++ []) h') from ⟨Or.inl ⟨by decide, ex_0 hP⟩, by decide, ex_lim hP rfl, am_call.up (d_93_t6 hP hT hR ?_) (by decide)⟩)
  rw [show d_93 C (nI e) = Int32.ofInt 1 from (v_93 he h5)]
  refine am_goX 1 (show ((Int32.ofInt 1) = 0 → pz_S 5 (some .boolean) am_r148 4 Q 27 [(0, .ref 0), (1, .int (nI e)), (2, .int w), (3, .int b)] [] h) ∧ (¬ ((Int32.ofInt 1) = 0) → pz_S 5 (some .boolean) am_r148 4 Q 8 [(0, .ref 0), (1, .int (nI e)), (2, .int w), (3, .int b)] [] h) from ⟨fun hz => absurd hz (by decide), fun _ => ?_⟩)
  refine am_goX 4 (show 0 ≤ 8 ∧ h.2.2.2.2 + am_al 60 ≤ 175 ∧ am_call am_cod 4 60 [.int w, .int (Int32.ofInt 1), .int ((Int8.ofInt 28).toInt32)] h (fun vv h' => pz_S 5 (some .boolean) am_r148 4 Q 15 [(0, .ref 0), (1, .int (nI e)), (2, .int w), (3, .int b)] (vv.toList ++ []) h') from ⟨by decide, ex_lim hP rfl, am_call.up (d_60_w hP ?_) (by decide)⟩)
  rw [show d_60 w (Int32.ofInt 1) ((Int8.ofInt 28).toInt32) = Int32.ofInt 0 from ew]
  refine am_goX 1 (show ((Int32.ofInt 0) = 0 → pz_S 5 (some .boolean) am_r148 4 Q 27 [(0, .ref 0), (1, .int (nI e)), (2, .int w), (3, .int b)] [] h) ∧ (¬ ((Int32.ofInt 0) = 0) → pz_S 5 (some .boolean) am_r148 4 Q 18 [(0, .ref 0), (1, .int (nI e)), (2, .int w), (3, .int b)] [] h) from ⟨fun _ => ?_, fun hz => absurd (by decide) hz⟩)
  exact am_goX 2 (show (∃ ty, (some .boolean) = some ty ∧ narrow ty (.int (Int32.ofInt 0)) = .int (Int32.ofInt 0)) ∧ h.2.2.2.2 = 175 ∧ _ from ⟨⟨.boolean, rfl, rfl⟩, ex_175 hP, hQ _ hP hI hT hD hR hS hH hM hx⟩)
theorem d_148_zK6 (hP : ex_P h) (hI : cI C) (hT : c_v 6 C h) (hD : c_d 6 C h) (hR : h.2.2.1 0 3 = some 6) (hS : sC 36 s h) (hH : hC H h) (hM : mC M h) (hx : h.1 0 12 = nI x) (he : e < dE C) (hl1 : 1 ≤ l) (hl2 : l ≤ 28) (hx8 : x = 8) (hQ : ∀ h1, (ex_P h1) → (cI C) → (c_v 6 C h1) → (c_d 6 C h1) → (h1.2.2.1 0 3 = some 6) → (sC 36 s h1) → (hC H h1) → (mC M h1) → (h1.1 0 12 = nI x) → Q (some (.int d_148x)) h1) : am_call am_cod 5 148 [.ref 0, .int (nI e), .int (nI l), .int b] h Q := by
  have h6 := hT.1.2.1
  have h5 := hT.2.1.2.1
  refine pz_call (n := 148) (nL := 5) (rt := (some .boolean)) (rows := am_r148) (d := 4) (by decide +kernel) (by decide +kernel) rfl (by funext pc; rfl) (ex_175 hP) (by exact Nat.le_of_ble_eq_true rfl) ?_
  refine am_goX 3 (show am_rc h 0 10 ∧ 0 ≤ 8 ∧ h.2.2.2.2 + am_al 93 ≤ 175 ∧ am_call am_cod 4 93 [.ref 0, .int (nI e)] h (fun vv h' => pz_S 5 (some .boolean) am_r148 4 Q 5 [(0, .ref 0), (1, .int (nI e)), (2, .int (nI l)), (3, .int b)] (vv.toList ++ []) h') from ⟨Or.inl ⟨by decide, ex_0 hP⟩, by decide, ex_lim hP rfl, am_call.up (d_93_t6 hP hT hR ?_) (by decide)⟩)
  rw [show d_93 C (nI e) = Int32.ofInt 1 from (v_93 he h5)]
  refine am_goX 1 (show ((Int32.ofInt 1) = 0 → pz_S 5 (some .boolean) am_r148 4 Q 27 [(0, .ref 0), (1, .int (nI e)), (2, .int (nI l)), (3, .int b)] [] h) ∧ (¬ ((Int32.ofInt 1) = 0) → pz_S 5 (some .boolean) am_r148 4 Q 8 [(0, .ref 0), (1, .int (nI e)), (2, .int (nI l)), (3, .int b)] [] h) from ⟨fun hz => absurd hz (by decide), fun _ => ?_⟩)
  refine am_goX 4 (show 0 ≤ 8 ∧ h.2.2.2.2 + am_al 60 ≤ 175 ∧ am_call am_cod 4 60 [.int (nI l), .int (Int32.ofInt 1), .int ((Int8.ofInt 28).toInt32)] h (fun vv h' => pz_S 5 (some .boolean) am_r148 4 Q 15 [(0, .ref 0), (1, .int (nI e)), (2, .int (nI l)), (3, .int b)] (vv.toList ++ []) h') from ⟨by decide, ex_lim hP rfl, am_call.up (d_60_w hP ?_) (by decide)⟩)
  rw [show d_60 (nI l) (Int32.ofInt 1) ((Int8.ofInt 28).toInt32) = Int32.ofInt 1 from (by rw [show (Int8.ofInt 28).toInt32 = nI 28 by decide]; exact v_60 (lo := 1) (hi := 28) hl1 hl2 (by decide))]
  refine am_goX 1 (show ((Int32.ofInt 1) = 0 → pz_S 5 (some .boolean) am_r148 4 Q 27 [(0, .ref 0), (1, .int (nI e)), (2, .int (nI l)), (3, .int b)] [] h) ∧ (¬ ((Int32.ofInt 1) = 0) → pz_S 5 (some .boolean) am_r148 4 Q 18 [(0, .ref 0), (1, .int (nI e)), (2, .int (nI l)), (3, .int b)] [] h) from ⟨fun hz => absurd hz (by decide), fun _ => ?_⟩)
  refine am_goX 2 (show am_sh h 0 = some (10, 0) ∧ pz_S 5 (some .boolean) am_r148 4 Q 22 [(0, .ref 0), (1, .int (nI e)), (2, .int (nI l)), (3, .int b)] [.int (h.1 0 12)] h from ⟨ex_0 hP, ?_⟩)
  rw [show h.1 0 12 = nI x from hx]
  refine am_goX 2 (show ((nI x) < ((Int8.ofInt 8).toInt32) → pz_S 5 (some .boolean) am_r148 4 Q 29 [(0, .ref 0), (1, .int (nI e)), (2, .int (nI l)), (3, .int b)] [] h) ∧ (¬ ((nI x) < ((Int8.ofInt 8).toInt32)) → pz_S 5 (some .boolean) am_r148 4 Q 27 [(0, .ref 0), (1, .int (nI e)), (2, .int (nI l)), (3, .int b)] [] h) from ⟨fun hz => absurd hz (show ¬ nI x < nI 8 by rw [nI_ltI (by omega) (by omega)]; omega), fun _ => ?_⟩)
  exact am_goX 2 (show (∃ ty, (some .boolean) = some ty ∧ narrow ty (.int (Int32.ofInt 0)) = .int (Int32.ofInt 0)) ∧ h.2.2.2.2 = 175 ∧ _ from ⟨⟨.boolean, rfl, rfl⟩, ex_175 hP, hQ _ hP hI hT hD hR hS hH hM hx⟩)
theorem d_93_t17 (hP : ex_P h) (hT : c_v 17 C h) (hR : h.2.2.1 0 3 = some 17)  (hQ : Q (some (.int (d_93 C y))) h) : am_call am_cod 2 93 [.ref 0, .int y] h Q := by
  have h6 := hT.1.2.1
  have h5 := hT.2.1.2.1
  refine pz_call (n := 93) (nL := 2) (rt := (some .boolean)) (rows := am_r93) (d := 1) (by decide +kernel) (by decide +kernel) rfl (by funext pc; rfl) (ex_175 hP) (by exact Nat.le_of_ble_eq_true rfl) ?_
  suffices key : ∀ (v37 : Int32), v37 = (if y < 0 then Int32.ofInt 0 else (if (nI (dE C)) ≤ y then Int32.ofInt 0 else Int32.ofInt 1)) → pz_S 2 (some .boolean) am_r93 1 Q 20 [] [.int v37] h by
    refine am_goX 2 (show (y < 0 → pz_S 2 (some .boolean) am_r93 1 Q 19 [(0, .ref 0), (1, .int y)] [] h) ∧ (¬ (y < 0) → pz_S 2 (some .boolean) am_r93 1 Q 4 [(0, .ref 0), (1, .int y)] [] h) from ⟨fun c36 => ?_, fun c36 => ?_⟩)
    · refine am_goX 1 (show pz_S 2 (some .boolean) am_r93 1 Q 20 [(0, .ref 0), (1, .int y)] [.int (Int32.ofInt 0)] h from ?_)
      exact sv_S2 sv2_93 (fun q hq => absurd hq List.not_mem_nil) (key _ (if_pos c36).symm)
    · refine am_goX 3 (show am_sh h 0 = some (10, 0) ∧ pz_S 2 (some .boolean) am_r93 1 Q 9 [(0, .ref 0), (1, .int y)] [am_rf (h.2.2.1 0 3), .int y] h from ⟨ex_0 hP, ?_⟩)
      rw [show am_rf (h.2.2.1 0 3) = .ref 17 from congrArg am_rf (hR)]
      refine am_goX 1 (show am_sh h 17 = some (0, 0) ∧ pz_S 2 (some .boolean) am_r93 1 Q 12 [(0, .ref 0), (1, .int y)] [.int (h.1 17 4), .int y] h from ⟨ex_17 hP, ?_⟩)
      rw [show h.1 17 4 = nI (dE C) from hT.2.1.1]
      suffices key : ∀ (v39 : Int32), v39 = (if (nI (dE C)) ≤ y then Int32.ofInt 0 else Int32.ofInt 1) → pz_S 2 (some .boolean) am_r93 1 Q 20 [] [.int v39] h by
        refine am_goX 1 (show ((nI (dE C)) ≤ y → pz_S 2 (some .boolean) am_r93 1 Q 19 [(0, .ref 0), (1, .int y)] [] h) ∧ (¬ ((nI (dE C)) ≤ y) → pz_S 2 (some .boolean) am_r93 1 Q 15 [(0, .ref 0), (1, .int y)] [] h) from ⟨fun c38 => ?_, fun c38 => ?_⟩)
        · refine am_goX 1 (show pz_S 2 (some .boolean) am_r93 1 Q 20 [(0, .ref 0), (1, .int y)] [.int (Int32.ofInt 0)] h from ?_)
          exact sv_S2 sv2_93 (fun q hq => absurd hq List.not_mem_nil) (key _ (if_pos c38).symm)
        · refine am_goX 2 (show pz_S 2 (some .boolean) am_r93 1 Q 20 [(0, .ref 0), (1, .int y)] [.int (Int32.ofInt 1)] h from ?_)
          exact sv_S2 sv2_93 (fun q hq => absurd hq List.not_mem_nil) (key _ (if_neg c38).symm)
      intro v39 e40
      subst e40
      exact sv_S2 sv2_93 (fun q hq => absurd hq List.not_mem_nil) (key _ (if_neg c36).symm)
  intro v37 e41
  subst e41
  exact am_goX 1 (show (∃ ty, (some .boolean) = some ty ∧ narrow ty (.int (if y < 0 then Int32.ofInt 0 else (if (nI (dE C)) ≤ y then Int32.ofInt 0 else Int32.ofInt 1))) = .int (if y < 0 then Int32.ofInt 0 else (if (nI (dE C)) ≤ y then Int32.ofInt 0 else Int32.ofInt 1))) ∧ h.2.2.2.2 = 175 ∧ _ from ⟨⟨.boolean, rfl, (by (repeat' split) <;> rfl)⟩, ex_175 hP, hQ⟩)
theorem d_149_5_w17 (hP : ex_P h) (hT : c_v 17 C h) (hD : c_d 17 C h) (he : e < dE C) : ∀ (m k : Nat) (a3 : Int32), k + m = 5 → (pz_S 6 (some .int) am_r149 2 Q 60 [(3, .int (d_149_5 C e y m k a3))] [] h) → pz_S 6 (some .int) am_r149 2 Q 5 [(0, .ref 17), (1, .int (nI e)), (2, .int y), (3, .int a3), (4, .int (nI k))] [] h := by
  intro m
  induction m with
  | zero =>
    intro k a3 hk hZ
    have h6 := hT.1.2.1
    have h5 := hT.2.1.2.1
    refine am_goX 3 (show ((Int32.ofInt 5) ≤ (nI k) → pz_S 6 (some .int) am_r149 2 Q 60 [(0, .ref 17), (1, .int (nI e)), (2, .int y), (3, .int a3), (4, .int (nI k))] [] h) ∧ (¬ ((Int32.ofInt 5) ≤ (nI k)) → pz_S 6 (some .int) am_r149 2 Q 11 [(0, .ref 17), (1, .int (nI e)), (2, .int y), (3, .int a3), (4, .int (nI k))] [] h) from ⟨fun _ => ?_, fun hz => absurd (show nI 5 ≤ nI k from nI_le (by omega) (by omega)) hz⟩)
    exact sv_S2 sv2_149 (by intro q hq; simp only [List.mem_cons, List.not_mem_nil, or_false] at hq; rcases hq with rfl <;> rfl) (hZ)
  | succ m ih =>
    intro k a3 hk hZ
    have h6 := hT.1.2.1
    have h5 := hT.2.1.2.1
    refine am_goX 3 (show ((Int32.ofInt 5) ≤ (nI k) → pz_S 6 (some .int) am_r149 2 Q 60 [(0, .ref 17), (1, .int (nI e)), (2, .int y), (3, .int a3), (4, .int (nI k))] [] h) ∧ (¬ ((Int32.ofInt 5) ≤ (nI k)) → pz_S 6 (some .int) am_r149 2 Q 11 [(0, .ref 17), (1, .int (nI e)), (2, .int y), (3, .int a3), (4, .int (nI k))] [] h) from ⟨fun hz => absurd hz (show ¬ (nI 5 ≤ nI k) by rw [nI_leI (by omega) (by omega)]; omega), fun _ => ?_⟩)
    refine am_goX 3 (show am_rc h 17 0 ∧ 0 ≤ 8 ∧ h.2.2.2.2 + am_al 68 ≤ 175 ∧ am_call am_cod 2 68 [.ref 17, .int y] h (fun vv h' => pz_S 6 (some .int) am_r149 2 Q 16 [(0, .ref 17), (1, .int (nI e)), (2, .int y), (3, .int a3), (4, .int (nI k))] (vv.toList ++ []) h') from ⟨Or.inl ⟨by decide, ex_17 hP⟩, by decide, ex_lim hP rfl, am_call.up (d_68_t17 hP hT ?_) (by decide)⟩)
    suffices key : ∀ (v43 : Int32), v43 = (if (d_68 C y) = 0 then (nI k) - (Int32.ofInt 2) else Int32.ofInt 0) → pz_S 6 (some .int) am_r149 2 Q 27 [(0, .ref 17), (1, .int (nI e)), (2, .int y), (3, .int a3), (4, .int (nI k))] [.int v43] h by
      refine am_goX 1 (show ((d_68 C y) = 0 → pz_S 6 (some .int) am_r149 2 Q 23 [(0, .ref 17), (1, .int (nI e)), (2, .int y), (3, .int a3), (4, .int (nI k))] [] h) ∧ (¬ ((d_68 C y) = 0) → pz_S 6 (some .int) am_r149 2 Q 19 [(0, .ref 17), (1, .int (nI e)), (2, .int y), (3, .int a3), (4, .int (nI k))] [] h) from ⟨fun c42 => ?_, fun c42 => ?_⟩)
      · refine am_goX 3 (show pz_S 6 (some .int) am_r149 2 Q 27 [(0, .ref 17), (1, .int (nI e)), (2, .int y), (3, .int a3), (4, .int (nI k))] [.int ((nI k) - (Int32.ofInt 2))] h from ?_)
        exact sv_S2 sv2_149 (by intro q hq; simp only [List.mem_cons, List.not_mem_nil, or_false] at hq; rcases hq with rfl | rfl | rfl | rfl | rfl <;> rfl) (key _ (if_pos c42).symm)
      · refine am_goX 2 (show pz_S 6 (some .int) am_r149 2 Q 27 [(0, .ref 17), (1, .int (nI e)), (2, .int y), (3, .int a3), (4, .int (nI k))] [.int (Int32.ofInt 0)] h from ?_)
        exact sv_S2 sv2_149 (by intro q hq; simp only [List.mem_cons, List.not_mem_nil, or_false] at hq; rcases hq with rfl | rfl | rfl | rfl | rfl <;> rfl) (key _ (if_neg c42).symm)
    intro v43 e44
    subst e44
    refine am_goX 6 (show 5 < 6 ∧ 0 ≤ 8 ∧ h.2.2.2.2 + am_al 90 ≤ 175 ∧ am_call am_cod 2 90 [.int (y + (if (d_68 C y) = 0 then (nI k) - (Int32.ofInt 2) else Int32.ofInt 0)), .int ((Int8.ofInt 7).toInt32)] h (fun vv h' => pz_S 6 (some .int) am_r149 2 Q 38 [(5, .int (if (d_68 C y) = 0 then (nI k) - (Int32.ofInt 2) else Int32.ofInt 0)), (0, .ref 17), (1, .int (nI e)), (2, .int y), (3, .int a3), (4, .int (nI k))] (vv.toList ++ []) h') from ⟨by decide, by decide, ex_lim hP rfl, am_call.up (d_90_w hP ?_) (by decide)⟩)
    refine am_goX 2 (show am_sh h 17 = some (0, 0) ∧ pz_S 6 (some .int) am_r149 2 Q 42 [(5, .int (if (d_68 C y) = 0 then (nI k) - (Int32.ofInt 2) else Int32.ofInt 0)), (0, .ref 17), (1, .int (nI e)), (2, .int y), (3, .int a3), (4, .int (nI k))] [am_rf (h.2.2.1 17 6), .int (d_90 (y + (if (d_68 C y) = 0 then (nI k) - (Int32.ofInt 2) else Int32.ofInt 0)))] h from ⟨ex_17 hP, ?_⟩)
    rw [show am_rf (h.2.2.1 17 6) = .ref 22 from congrArg am_rf (ex_r17_6 hP)]
    refine am_goX 2 (show ∃ jj nn : Nat, am_sh h 22 = some (13, nn) ∧ jj < nn ∧ nI e = nI jj ∧ pz_S 6 (some .int) am_r149 2 Q 44 [(5, .int (if (d_68 C y) = 0 then (nI k) - (Int32.ofInt 2) else Int32.ofInt 0)), (0, .ref 17), (1, .int (nI e)), (2, .int y), (3, .int a3), (4, .int (nI k))] [.int (h.1 22 jj), .int (d_90 (y + (if (d_68 C y) = 0 then (nI k) - (Int32.ofInt 2) else Int32.ofInt 0)))] h from ⟨e, 5, ex_22 hP, (by omega), rfl, ?_⟩)
    rw [show h.1 22 e = dW C e from hD e (by omega)]
    suffices key : ∀ (v46 : Int32), v46 = (if ¬ (d_90 (y + (if (d_68 C y) = 0 then (nI k) - (Int32.ofInt 2) else Int32.ofInt 0))) = (dW C e) then a3 else a3 ||| ((Int32.ofInt 1) <<< ((nI k) &&& 31))) → pz_S 6 (some .int) am_r149 2 Q 54 [(0, .ref 17), (1, .int (nI e)), (2, .int y), (3, .int v46), (4, .int (nI k))] [] h by
      refine am_goX 1 (show (¬ (d_90 (y + (if (d_68 C y) = 0 then (nI k) - (Int32.ofInt 2) else Int32.ofInt 0))) = (dW C e) → pz_S 6 (some .int) am_r149 2 Q 54 [(5, .int (if (d_68 C y) = 0 then (nI k) - (Int32.ofInt 2) else Int32.ofInt 0)), (0, .ref 17), (1, .int (nI e)), (2, .int y), (3, .int a3), (4, .int (nI k))] [] h) ∧ (¬ ¬ (d_90 (y + (if (d_68 C y) = 0 then (nI k) - (Int32.ofInt 2) else Int32.ofInt 0))) = (dW C e) → pz_S 6 (some .int) am_r149 2 Q 47 [(5, .int (if (d_68 C y) = 0 then (nI k) - (Int32.ofInt 2) else Int32.ofInt 0)), (0, .ref 17), (1, .int (nI e)), (2, .int y), (3, .int a3), (4, .int (nI k))] [] h) from ⟨fun c45 => ?_, fun c45 => ?_⟩)
      · exact sv_S2 sv2_149 (by intro q hq; simp only [List.mem_cons, List.not_mem_nil, or_false] at hq; rcases hq with rfl | rfl | rfl | rfl | rfl <;> rfl) (key _ (if_pos c45).symm)
      · refine am_goX 6 (show 3 < 6 ∧ pz_S 6 (some .int) am_r149 2 Q 54 [(3, .int (a3 ||| ((Int32.ofInt 1) <<< ((nI k) &&& 31)))), (5, .int (if (d_68 C y) = 0 then (nI k) - (Int32.ofInt 2) else Int32.ofInt 0)), (0, .ref 17), (1, .int (nI e)), (2, .int y), (4, .int (nI k))] [] h from ⟨by decide, ?_⟩)
        exact sv_S2 sv2_149 (by intro q hq; simp only [List.mem_cons, List.not_mem_nil, or_false] at hq; rcases hq with rfl | rfl | rfl | rfl | rfl <;> rfl) (key _ (if_neg c45).symm)
    intro v46 e47
    subst e47
    refine am_goX 2 (show 4 < 6 ∧ pz_S 6 (some .int) am_r149 2 Q 5 [(4, .int ((nI k) + (Int32.ofInt 1))), (0, .ref 17), (1, .int (nI e)), (2, .int y), (3, .int (if ¬ (d_90 (y + (if (d_68 C y) = 0 then (nI k) - (Int32.ofInt 2) else Int32.ofInt 0))) = (dW C e) then a3 else a3 ||| ((Int32.ofInt 1) <<< ((nI k) &&& 31))))] [] h from ⟨by decide, ?_⟩)
    rw [show (nI k) + (Int32.ofInt 1) = nI (k + 1) from (dn_a rfl rfl)]
    exact sv_S2 sv2_149 (by intro q hq; simp only [List.mem_cons, List.not_mem_nil, or_false] at hq; rcases hq with rfl | rfl | rfl | rfl | rfl <;> rfl) (ih (k + 1) (if ¬ (d_90 (y + (if (d_68 C y) = 0 then (nI k) - (Int32.ofInt 2) else Int32.ofInt 0))) = (dW C e) then a3 else a3 ||| ((Int32.ofInt 1) <<< ((nI k) &&& 31))) (by omega) hZ)
theorem d_149_w17 (hP : ex_P h) (hT : c_v 17 C h) (hD : c_d 17 C h) (he : e < dE C) (hQ : Q (some (.int (d_149 C e y))) h) : am_call am_cod 3 149 [.ref 17, .int (nI e), .int y] h Q := by
  have h6 := hT.1.2.1
  have h5 := hT.2.1.2.1
  refine pz_call (n := 149) (nL := 6) (rt := (some .int)) (rows := am_r149) (d := 2) (by decide +kernel) (by decide +kernel) rfl (by funext pc; rfl) (ex_175 hP) (by exact Nat.le_of_ble_eq_true rfl) ?_
  refine am_goX 4 (show 3 < 6 ∧ 4 < 6 ∧ pz_S 6 (some .int) am_r149 2 Q 5 [(4, .int (Int32.ofInt 0)), (3, .int (Int32.ofInt 0)), (0, .ref 17), (1, .int (nI e)), (2, .int y)] [] h from ⟨by decide, by decide, ?_⟩)
  refine sv_S2 sv2_149 (by intro q hq; simp only [List.mem_cons, List.not_mem_nil, or_false] at hq; rcases hq with rfl | rfl | rfl | rfl | rfl <;> rfl) (d_149_5_w17 hP hT hD he 5 0 (Int32.ofInt 0) (by omega) ?_)
  exact am_goX 2 (show (∃ ty, (some .int) = some ty ∧ narrow ty (.int (d_149_5 C e y 5 0 (Int32.ofInt 0))) = .int (d_149_5 C e y 5 0 (Int32.ofInt 0))) ∧ h.2.2.2.2 = 175 ∧ _ from ⟨⟨.int, rfl, rfl⟩, ex_175 hP, hQ⟩)
theorem d_148_K17 (hP : ex_P h) (hI : cI C) (hT : c_v 17 C h) (hD : c_d 17 C h) (hR : h.2.2.1 0 3 = some 17) (hS : sC 36 s h) (hH : hC H h) (hM : mC M h) (hx : h.1 0 12 = nI x) (he : e < dE C) (hl1 : 1 ≤ l) (hl2 : l ≤ 28) (hx8 : x < 8) (hQ : ∀ h1, (ex_P h1) → (cI C) → (c_v 17 C h1) → (c_d 17 C h1) → (h1.2.2.1 0 3 = some 17) → (sC 36 s h1) → (hC H h1) → (mC M h1) → (h1.1 0 12 = nI (d_148_x x)) → Q (some (.int (d_148 x))) h1) : am_call am_cod 5 148 [.ref 0, .int (nI e), .int (nI l), .int b] h Q := by
  have h6 := hT.1.2.1
  have h5 := hT.2.1.2.1
  refine pz_call (n := 148) (nL := 5) (rt := (some .boolean)) (rows := am_r148) (d := 4) (by decide +kernel) (by decide +kernel) rfl (by funext pc; rfl) (ex_175 hP) (by exact Nat.le_of_ble_eq_true rfl) ?_
  refine am_goX 3 (show am_rc h 0 10 ∧ 0 ≤ 8 ∧ h.2.2.2.2 + am_al 93 ≤ 175 ∧ am_call am_cod 4 93 [.ref 0, .int (nI e)] h (fun vv h' => pz_S 5 (some .boolean) am_r148 4 Q 5 [(0, .ref 0), (1, .int (nI e)), (2, .int (nI l)), (3, .int b)] (vv.toList ++ []) h') from ⟨Or.inl ⟨by decide, ex_0 hP⟩, by decide, ex_lim hP rfl, am_call.up (d_93_t17 hP hT hR ?_) (by decide)⟩)
  rw [show d_93 C (nI e) = Int32.ofInt 1 from (v_93 he h5)]
  refine am_goX 1 (show ((Int32.ofInt 1) = 0 → pz_S 5 (some .boolean) am_r148 4 Q 27 [(0, .ref 0), (1, .int (nI e)), (2, .int (nI l)), (3, .int b)] [] h) ∧ (¬ ((Int32.ofInt 1) = 0) → pz_S 5 (some .boolean) am_r148 4 Q 8 [(0, .ref 0), (1, .int (nI e)), (2, .int (nI l)), (3, .int b)] [] h) from ⟨fun hz => absurd hz (by decide), fun _ => ?_⟩)
  refine am_goX 4 (show 0 ≤ 8 ∧ h.2.2.2.2 + am_al 60 ≤ 175 ∧ am_call am_cod 4 60 [.int (nI l), .int (Int32.ofInt 1), .int ((Int8.ofInt 28).toInt32)] h (fun vv h' => pz_S 5 (some .boolean) am_r148 4 Q 15 [(0, .ref 0), (1, .int (nI e)), (2, .int (nI l)), (3, .int b)] (vv.toList ++ []) h') from ⟨by decide, ex_lim hP rfl, am_call.up (d_60_w hP ?_) (by decide)⟩)
  rw [show d_60 (nI l) (Int32.ofInt 1) ((Int8.ofInt 28).toInt32) = Int32.ofInt 1 from (by rw [show (Int8.ofInt 28).toInt32 = nI 28 by decide]; exact v_60 (lo := 1) (hi := 28) hl1 hl2 (by decide))]
  refine am_goX 1 (show ((Int32.ofInt 1) = 0 → pz_S 5 (some .boolean) am_r148 4 Q 27 [(0, .ref 0), (1, .int (nI e)), (2, .int (nI l)), (3, .int b)] [] h) ∧ (¬ ((Int32.ofInt 1) = 0) → pz_S 5 (some .boolean) am_r148 4 Q 18 [(0, .ref 0), (1, .int (nI e)), (2, .int (nI l)), (3, .int b)] [] h) from ⟨fun hz => absurd hz (by decide), fun _ => ?_⟩)
  refine am_goX 2 (show am_sh h 0 = some (10, 0) ∧ pz_S 5 (some .boolean) am_r148 4 Q 22 [(0, .ref 0), (1, .int (nI e)), (2, .int (nI l)), (3, .int b)] [.int (h.1 0 12)] h from ⟨ex_0 hP, ?_⟩)
  rw [show h.1 0 12 = nI x from hx]
  refine am_goX 2 (show ((nI x) < ((Int8.ofInt 8).toInt32) → pz_S 5 (some .boolean) am_r148 4 Q 29 [(0, .ref 0), (1, .int (nI e)), (2, .int (nI l)), (3, .int b)] [] h) ∧ (¬ ((nI x) < ((Int8.ofInt 8).toInt32)) → pz_S 5 (some .boolean) am_r148 4 Q 27 [(0, .ref 0), (1, .int (nI e)), (2, .int (nI l)), (3, .int b)] [] h) from ⟨fun _ => ?_, fun hz => absurd (show nI x < nI 8 from nI_lt (by omega) (by omega)) hz⟩)
  refine am_goX 2 (show am_sh h 0 = some (10, 0) ∧ pz_S 5 (some .boolean) am_r148 4 Q 33 [(0, .ref 0), (1, .int (nI e)), (2, .int (nI l)), (3, .int b)] [am_rf (h.2.2.1 0 3)] h from ⟨ex_0 hP, ?_⟩)
  rw [show am_rf (h.2.2.1 0 3) = .ref 17 from congrArg am_rf (hR)]
  refine am_goX 3 (show am_sh h 0 = some (10, 0) ∧ pz_S 5 (some .boolean) am_r148 4 Q 38 [(0, .ref 0), (1, .int (nI e)), (2, .int (nI l)), (3, .int b)] [am_rf (h.2.2.1 0 7), .int (nI e), .ref 17] h from ⟨ex_0 hP, ?_⟩)
  rw [show am_rf (h.2.2.1 0 7) = .ref 36 from congrArg am_rf (ex_r0_7 hP)]
  refine am_goX 1 (show am_sh h 36 = some (6, 0) ∧ pz_S 5 (some .boolean) am_r148 4 Q 41 [(0, .ref 0), (1, .int (nI e)), (2, .int (nI l)), (3, .int b)] [.int (h.1 36 0), .int (nI e), .ref 17] h from ⟨ex_36 hP, ?_⟩)
  rw [show h.1 36 0 = s.1 from hS.1.1]
  refine am_goX 3 (show am_rc h 17 0 ∧ 0 ≤ 8 ∧ h.2.2.2.2 + am_al 149 ≤ 175 ∧ am_call am_cod 4 149 [.ref 17, .int (nI e), .int (s.1 + (nI l))] h (fun vv h' => pz_S 5 (some .boolean) am_r148 4 Q 46 [(0, .ref 0), (1, .int (nI e)), (2, .int (nI l)), (3, .int b)] (vv.toList ++ []) h') from ⟨Or.inl ⟨by decide, ex_17 hP⟩, by decide, ex_lim hP rfl, am_call.up (d_149_w17 hP hT hD (by omega) ?_) (by decide)⟩)
  suffices key : ∀ (v49 : Int32), v49 = (if b = 0 then (d_149 C e (s.1 + (nI l))) ^^^ (Int32.ofInt (-1)) else d_149 C e (s.1 + (nI l))) → pz_S 5 (some .boolean) am_r148 4 Q 66 [(0, .ref 0)] [.int v49, .int (h.1 0 13), .ref 0] h by
    refine am_goX 6 (show 4 < 5 ∧ (Value.ref 0).category = 1 ∧ am_sh h 0 = some (10, 0) ∧ (b = 0 → pz_S 5 (some .boolean) am_r148 4 Q 62 [(4, .int (d_149 C e (s.1 + (nI l)))), (0, .ref 0), (1, .int (nI e)), (2, .int (nI l)), (3, .int b)] [.int (h.1 0 13), .ref 0] h) ∧ (¬ (b = 0) → pz_S 5 (some .boolean) am_r148 4 Q 57 [(4, .int (d_149 C e (s.1 + (nI l)))), (0, .ref 0), (1, .int (nI e)), (2, .int (nI l)), (3, .int b)] [.int (h.1 0 13), .ref 0] h) from ⟨by decide, rfl, ex_0 hP, fun c48 => ?_, fun c48 => ?_⟩)
    · refine am_goX 3 (show pz_S 5 (some .boolean) am_r148 4 Q 66 [(4, .int (d_149 C e (s.1 + (nI l)))), (0, .ref 0), (1, .int (nI e)), (2, .int (nI l)), (3, .int b)] [.int ((d_149 C e (s.1 + (nI l))) ^^^ (Int32.ofInt (-1))), .int (h.1 0 13), .ref 0] h from ?_)
      exact sv_S2 sv2_148 (by intro q hq; simp only [List.mem_cons, List.not_mem_nil, or_false] at hq; rcases hq with rfl <;> rfl) (key _ (if_pos c48).symm)
    · refine am_goX 2 (show pz_S 5 (some .boolean) am_r148 4 Q 66 [(4, .int (d_149 C e (s.1 + (nI l)))), (0, .ref 0), (1, .int (nI e)), (2, .int (nI l)), (3, .int b)] [.int (d_149 C e (s.1 + (nI l))), .int (h.1 0 13), .ref 0] h from ?_)
      exact sv_S2 sv2_148 (by intro q hq; simp only [List.mem_cons, List.not_mem_nil, or_false] at hq; rcases hq with rfl <;> rfl) (key _ (if_neg c48).symm)
  intro v49 e50
  subst e50
  refine am_goX 2 (show am_sh h 0 = some (10, 0) ∧ narrow (am_fty 10 13) (.int ((h.1 0 13) &&& (if b = 0 then (d_149 C e (s.1 + (nI l))) ^^^ (Int32.ofInt (-1)) else d_149 C e (s.1 + (nI l))))) = .int ((h.1 0 13) &&& (if b = 0 then (d_149 C e (s.1 + (nI l))) ^^^ (Int32.ofInt (-1)) else d_149 C e (s.1 + (nI l)))) ∧ fits (am_fty 10 13) (.int ((h.1 0 13) &&& (if b = 0 then (d_149 C e (s.1 + (nI l))) ^^^ (Int32.ofInt (-1)) else d_149 C e (s.1 + (nI l))))) = true ∧ pz_S 5 (some .boolean) am_r148 4 Q 70 [(0, .ref 0)] [] (am_wI h 0 13 ((h.1 0 13) &&& (if b = 0 then (d_149 C e (s.1 + (nI l))) ^^^ (Int32.ofInt (-1)) else d_149 C e (s.1 + (nI l))))) from ⟨ex_0 hP, rfl, rfl, ?_⟩)
  have f52 : ex_P (am_wI h 0 13 ((h.1 0 13) &&& (if b = 0 then (d_149 C e (s.1 + (nI l))) ^^^ (Int32.ofInt (-1)) else d_149 C e (s.1 + (nI l))))) := hP
  have f53 : cI C := hI
  have f54 : c_v 17 C (am_wI h 0 13 ((h.1 0 13) &&& (if b = 0 then (d_149 C e (s.1 + (nI l))) ^^^ (Int32.ofInt (-1)) else d_149 C e (s.1 + (nI l))))) := c_v_w (by omega) hT
  have f55 : c_d 17 C (am_wI h 0 13 ((h.1 0 13) &&& (if b = 0 then (d_149 C e (s.1 + (nI l))) ^^^ (Int32.ofInt (-1)) else d_149 C e (s.1 + (nI l))))) := c_d_w (by omega) hD
  have f56 : (am_wI h 0 13 ((h.1 0 13) &&& (if b = 0 then (d_149 C e (s.1 + (nI l))) ^^^ (Int32.ofInt (-1)) else d_149 C e (s.1 + (nI l))))).2.2.1 0 3 = some 17 := hR
  have f57 : sC 36 s (am_wI h 0 13 ((h.1 0 13) &&& (if b = 0 then (d_149 C e (s.1 + (nI l))) ^^^ (Int32.ofInt (-1)) else d_149 C e (s.1 + (nI l))))) := sC_w (by omega) hS
  have f58 : hC H (am_wI h 0 13 ((h.1 0 13) &&& (if b = 0 then (d_149 C e (s.1 + (nI l))) ^^^ (Int32.ofInt (-1)) else d_149 C e (s.1 + (nI l))))) := hC_w (by omega) hH
  have f59 : mC M (am_wI h 0 13 ((h.1 0 13) &&& (if b = 0 then (d_149 C e (s.1 + (nI l))) ^^^ (Int32.ofInt (-1)) else d_149 C e (s.1 + (nI l))))) := mC_w (by omega) hM
  have f60 : (am_wI h 0 13 ((h.1 0 13) &&& (if b = 0 then (d_149 C e (s.1 + (nI l))) ^^^ (Int32.ofInt (-1)) else d_149 C e (s.1 + (nI l))))).1 0 12 = nI x := (em_wn _ _ (by omega)).trans hx
  generalize am_wI h 0 13 ((h.1 0 13) &&& (if b = 0 then (d_149 C e (s.1 + (nI l))) ^^^ (Int32.ofInt (-1)) else d_149 C e (s.1 + (nI l)))) = h51 at f52 f53 f54 f55 f56 f57 f58 f59 f60 ⊢
  refine am_goX 3 (show (Value.ref 0).category = 1 ∧ am_sh h51 0 = some (10, 0) ∧ pz_S 5 (some .boolean) am_r148 4 Q 75 [(0, .ref 0)] [.int (h51.1 0 12), .ref 0] h51 from ⟨rfl, ex_0 f52, ?_⟩)
  rw [show h51.1 0 12 = nI x from f60]
  refine am_goX 3 (show am_sh h51 0 = some (10, 0) ∧ narrow (am_fty 10 12) (.int ((nI x) + (Int32.ofInt 1))) = .int ((nI x) + (Int32.ofInt 1)) ∧ fits (am_fty 10 12) (.int ((nI x) + (Int32.ofInt 1))) = true ∧ pz_S 5 (some .boolean) am_r148 4 Q 80 [(0, .ref 0)] [] (am_wI h51 0 12 ((nI x) + (Int32.ofInt 1))) from ⟨ex_0 f52, rfl, rfl, ?_⟩)
  have f62 : ex_P (am_wI h51 0 12 ((nI x) + (Int32.ofInt 1))) := f52
  have f63 : cI C := f53
  have f64 : c_v 17 C (am_wI h51 0 12 ((nI x) + (Int32.ofInt 1))) := c_v_w (by omega) f54
  have f65 : c_d 17 C (am_wI h51 0 12 ((nI x) + (Int32.ofInt 1))) := c_d_w (by omega) f55
  have f66 : (am_wI h51 0 12 ((nI x) + (Int32.ofInt 1))).2.2.1 0 3 = some 17 := f56
  have f67 : sC 36 s (am_wI h51 0 12 ((nI x) + (Int32.ofInt 1))) := sC_w (by omega) f57
  have f68 : hC H (am_wI h51 0 12 ((nI x) + (Int32.ofInt 1))) := hC_w (by omega) f58
  have f69 : mC M (am_wI h51 0 12 ((nI x) + (Int32.ofInt 1))) := mC_w (by omega) f59
  have f70 : (am_wI h51 0 12 ((nI x) + (Int32.ofInt 1))).1 0 12 = nI (x + 1) := (em_we _ _ _ _).trans ((dn_a rfl rfl))
  generalize am_wI h51 0 12 ((nI x) + (Int32.ofInt 1)) = h61 at f62 f63 f64 f65 f66 f67 f68 f69 f70 ⊢
  exact am_goX 2 (show (∃ ty, (some .boolean) = some ty ∧ narrow ty (.int (Int32.ofInt 1)) = .int (Int32.ofInt 1)) ∧ h61.2.2.2.2 = 175 ∧ _ from ⟨⟨.boolean, rfl, rfl⟩, ex_175 f62, hQ _ f62 f63 f64 f65 f66 f67 f68 f69 f70⟩)
theorem d_148_xK17 (hP : ex_P h) (hI : cI C) (hT : c_v 17 C h) (hD : c_d 17 C h) (hR : h.2.2.1 0 3 = some 17) (hS : sC 36 s h) (hH : hC H h) (hM : mC M h) (hx : h.1 0 12 = nI x) (ey : d_93 C y = Int32.ofInt 0) (hQ : ∀ h1, (ex_P h1) → (cI C) → (c_v 17 C h1) → (c_d 17 C h1) → (h1.2.2.1 0 3 = some 17) → (sC 36 s h1) → (hC H h1) → (mC M h1) → (h1.1 0 12 = nI x) → Q (some (.int d_148x)) h1) : am_call am_cod 5 148 [.ref 0, .int y, .int w, .int b] h Q := by
  have h6 := hT.1.2.1
  have h5 := hT.2.1.2.1
  refine pz_call (n := 148) (nL := 5) (rt := (some .boolean)) (rows := am_r148) (d := 4) (by decide +kernel) (by decide +kernel) rfl (by funext pc; rfl) (ex_175 hP) (by exact Nat.le_of_ble_eq_true rfl) ?_
  refine am_goX 3 (show am_rc h 0 10 ∧ 0 ≤ 8 ∧ h.2.2.2.2 + am_al 93 ≤ 175 ∧ am_call am_cod 4 93 [.ref 0, .int y] h (fun vv h' => pz_S 5 (some .boolean) am_r148 4 Q 5 [(0, .ref 0), (1, .int y), (2, .int w), (3, .int b)] (vv.toList ++ []) h') from ⟨Or.inl ⟨by decide, ex_0 hP⟩, by decide, ex_lim hP rfl, am_call.up (d_93_t17 hP hT hR ?_) (by decide)⟩)
  rw [show d_93 C y = Int32.ofInt 0 from ey]
  refine am_goX 1 (show ((Int32.ofInt 0) = 0 → pz_S 5 (some .boolean) am_r148 4 Q 27 [(0, .ref 0), (1, .int y), (2, .int w), (3, .int b)] [] h) ∧ (¬ ((Int32.ofInt 0) = 0) → pz_S 5 (some .boolean) am_r148 4 Q 8 [(0, .ref 0), (1, .int y), (2, .int w), (3, .int b)] [] h) from ⟨fun _ => ?_, fun hz => absurd (by decide) hz⟩)
  exact am_goX 2 (show (∃ ty, (some .boolean) = some ty ∧ narrow ty (.int (Int32.ofInt 0)) = .int (Int32.ofInt 0)) ∧ h.2.2.2.2 = 175 ∧ _ from ⟨⟨.boolean, rfl, rfl⟩, ex_175 hP, hQ _ hP hI hT hD hR hS hH hM hx⟩)
theorem d_148_yK17 (hP : ex_P h) (hI : cI C) (hT : c_v 17 C h) (hD : c_d 17 C h) (hR : h.2.2.1 0 3 = some 17) (hS : sC 36 s h) (hH : hC H h) (hM : mC M h) (hx : h.1 0 12 = nI x) (he : e < dE C) (ew : d_60 w (Int32.ofInt 1) ((Int8.ofInt 28).toInt32) = Int32.ofInt 0) (hQ : ∀ h1, (ex_P h1) → (cI C) → (c_v 17 C h1) → (c_d 17 C h1) → (h1.2.2.1 0 3 = some 17) → (sC 36 s h1) → (hC H h1) → (mC M h1) → (h1.1 0 12 = nI x) → Q (some (.int d_148x)) h1) : am_call am_cod 5 148 [.ref 0, .int (nI e), .int w, .int b] h Q := by
  have h6 := hT.1.2.1
  have h5 := hT.2.1.2.1
  refine pz_call (n := 148) (nL := 5) (rt := (some .boolean)) (rows := am_r148) (d := 4) (by decide +kernel) (by decide +kernel) rfl (by funext pc; rfl) (ex_175 hP) (by exact Nat.le_of_ble_eq_true rfl) ?_
  refine am_goX 3 (show am_rc h 0 10 ∧ 0 ≤ 8 ∧ h.2.2.2.2 + am_al 93 ≤ 175 ∧ am_call am_cod 4 93 [.ref 0, .int (nI e)] h (fun vv h' => pz_S 5 (some .boolean) am_r148 4 Q 5 [(0, .ref 0), (1, .int (nI e)), (2, .int w), (3, .int b)] (vv.toList ++ []) h') from ⟨Or.inl ⟨by decide, ex_0 hP⟩, by decide, ex_lim hP rfl, am_call.up (d_93_t17 hP hT hR ?_) (by decide)⟩)
  rw [show d_93 C (nI e) = Int32.ofInt 1 from (v_93 he h5)]
  refine am_goX 1 (show ((Int32.ofInt 1) = 0 → pz_S 5 (some .boolean) am_r148 4 Q 27 [(0, .ref 0), (1, .int (nI e)), (2, .int w), (3, .int b)] [] h) ∧ (¬ ((Int32.ofInt 1) = 0) → pz_S 5 (some .boolean) am_r148 4 Q 8 [(0, .ref 0), (1, .int (nI e)), (2, .int w), (3, .int b)] [] h) from ⟨fun hz => absurd hz (by decide), fun _ => ?_⟩)
  refine am_goX 4 (show 0 ≤ 8 ∧ h.2.2.2.2 + am_al 60 ≤ 175 ∧ am_call am_cod 4 60 [.int w, .int (Int32.ofInt 1), .int ((Int8.ofInt 28).toInt32)] h (fun vv h' => pz_S 5 (some .boolean) am_r148 4 Q 15 [(0, .ref 0), (1, .int (nI e)), (2, .int w), (3, .int b)] (vv.toList ++ []) h') from ⟨by decide, ex_lim hP rfl, am_call.up (d_60_w hP ?_) (by decide)⟩)
  rw [show d_60 w (Int32.ofInt 1) ((Int8.ofInt 28).toInt32) = Int32.ofInt 0 from ew]
  refine am_goX 1 (show ((Int32.ofInt 0) = 0 → pz_S 5 (some .boolean) am_r148 4 Q 27 [(0, .ref 0), (1, .int (nI e)), (2, .int w), (3, .int b)] [] h) ∧ (¬ ((Int32.ofInt 0) = 0) → pz_S 5 (some .boolean) am_r148 4 Q 18 [(0, .ref 0), (1, .int (nI e)), (2, .int w), (3, .int b)] [] h) from ⟨fun _ => ?_, fun hz => absurd (by decide) hz⟩)
  exact am_goX 2 (show (∃ ty, (some .boolean) = some ty ∧ narrow ty (.int (Int32.ofInt 0)) = .int (Int32.ofInt 0)) ∧ h.2.2.2.2 = 175 ∧ _ from ⟨⟨.boolean, rfl, rfl⟩, ex_175 hP, hQ _ hP hI hT hD hR hS hH hM hx⟩)
theorem d_148_zK17 (hP : ex_P h) (hI : cI C) (hT : c_v 17 C h) (hD : c_d 17 C h) (hR : h.2.2.1 0 3 = some 17) (hS : sC 36 s h) (hH : hC H h) (hM : mC M h) (hx : h.1 0 12 = nI x) (he : e < dE C) (hl1 : 1 ≤ l) (hl2 : l ≤ 28) (hx8 : x = 8) (hQ : ∀ h1, (ex_P h1) → (cI C) → (c_v 17 C h1) → (c_d 17 C h1) → (h1.2.2.1 0 3 = some 17) → (sC 36 s h1) → (hC H h1) → (mC M h1) → (h1.1 0 12 = nI x) → Q (some (.int d_148x)) h1) : am_call am_cod 5 148 [.ref 0, .int (nI e), .int (nI l), .int b] h Q := by
  have h6 := hT.1.2.1
  have h5 := hT.2.1.2.1
  refine pz_call (n := 148) (nL := 5) (rt := (some .boolean)) (rows := am_r148) (d := 4) (by decide +kernel) (by decide +kernel) rfl (by funext pc; rfl) (ex_175 hP) (by exact Nat.le_of_ble_eq_true rfl) ?_
  refine am_goX 3 (show am_rc h 0 10 ∧ 0 ≤ 8 ∧ h.2.2.2.2 + am_al 93 ≤ 175 ∧ am_call am_cod 4 93 [.ref 0, .int (nI e)] h (fun vv h' => pz_S 5 (some .boolean) am_r148 4 Q 5 [(0, .ref 0), (1, .int (nI e)), (2, .int (nI l)), (3, .int b)] (vv.toList ++ []) h') from ⟨Or.inl ⟨by decide, ex_0 hP⟩, by decide, ex_lim hP rfl, am_call.up (d_93_t17 hP hT hR ?_) (by decide)⟩)
  rw [show d_93 C (nI e) = Int32.ofInt 1 from (v_93 he h5)]
  refine am_goX 1 (show ((Int32.ofInt 1) = 0 → pz_S 5 (some .boolean) am_r148 4 Q 27 [(0, .ref 0), (1, .int (nI e)), (2, .int (nI l)), (3, .int b)] [] h) ∧ (¬ ((Int32.ofInt 1) = 0) → pz_S 5 (some .boolean) am_r148 4 Q 8 [(0, .ref 0), (1, .int (nI e)), (2, .int (nI l)), (3, .int b)] [] h) from ⟨fun hz => absurd hz (by decide), fun _ => ?_⟩)
  refine am_goX 4 (show 0 ≤ 8 ∧ h.2.2.2.2 + am_al 60 ≤ 175 ∧ am_call am_cod 4 60 [.int (nI l), .int (Int32.ofInt 1), .int ((Int8.ofInt 28).toInt32)] h (fun vv h' => pz_S 5 (some .boolean) am_r148 4 Q 15 [(0, .ref 0), (1, .int (nI e)), (2, .int (nI l)), (3, .int b)] (vv.toList ++ []) h') from ⟨by decide, ex_lim hP rfl, am_call.up (d_60_w hP ?_) (by decide)⟩)
  rw [show d_60 (nI l) (Int32.ofInt 1) ((Int8.ofInt 28).toInt32) = Int32.ofInt 1 from (by rw [show (Int8.ofInt 28).toInt32 = nI 28 by decide]; exact v_60 (lo := 1) (hi := 28) hl1 hl2 (by decide))]
  refine am_goX 1 (show ((Int32.ofInt 1) = 0 → pz_S 5 (some .boolean) am_r148 4 Q 27 [(0, .ref 0), (1, .int (nI e)), (2, .int (nI l)), (3, .int b)] [] h) ∧ (¬ ((Int32.ofInt 1) = 0) → pz_S 5 (some .boolean) am_r148 4 Q 18 [(0, .ref 0), (1, .int (nI e)), (2, .int (nI l)), (3, .int b)] [] h) from ⟨fun hz => absurd hz (by decide), fun _ => ?_⟩)
  refine am_goX 2 (show am_sh h 0 = some (10, 0) ∧ pz_S 5 (some .boolean) am_r148 4 Q 22 [(0, .ref 0), (1, .int (nI e)), (2, .int (nI l)), (3, .int b)] [.int (h.1 0 12)] h from ⟨ex_0 hP, ?_⟩)
  rw [show h.1 0 12 = nI x from hx]
  refine am_goX 2 (show ((nI x) < ((Int8.ofInt 8).toInt32) → pz_S 5 (some .boolean) am_r148 4 Q 29 [(0, .ref 0), (1, .int (nI e)), (2, .int (nI l)), (3, .int b)] [] h) ∧ (¬ ((nI x) < ((Int8.ofInt 8).toInt32)) → pz_S 5 (some .boolean) am_r148 4 Q 27 [(0, .ref 0), (1, .int (nI e)), (2, .int (nI l)), (3, .int b)] [] h) from ⟨fun hz => absurd hz (show ¬ nI x < nI 8 by rw [nI_ltI (by omega) (by omega)]; omega), fun _ => ?_⟩)
  exact am_goX 2 (show (∃ ty, (some .boolean) = some ty ∧ narrow ty (.int (Int32.ofInt 0)) = .int (Int32.ofInt 0)) ∧ h.2.2.2.2 = 175 ∧ _ from ⟨⟨.boolean, rfl, rfl⟩, ex_175 hP, hQ _ hP hI hT hD hR hS hH hM hx⟩)
def d_227 (C : sp_C) (y : Int32) : Int32 := (if y < 0 then Int32.ofInt 0 else (if (nI (dE C)) ≤ y then Int32.ofInt 0 else Int32.ofInt 1))
theorem d_227_r (hP : ex_P h) (hT : tR C h)  (hQ : Q (some (.int (d_227 C y))) h) : am_call am_cod 2 227 [.ref 154, .int y] h Q := by
  have h6 := hT.1.2.1
  have h5 := hT.2.1.2.1
  refine pz_call (n := 227) (nL := 2) (rt := (some .boolean)) (rows := am_r227) (d := 1) (by decide +kernel) (by decide +kernel) rfl (by funext pc; rfl) (ex_175 hP) (by exact Nat.le_of_ble_eq_true rfl) ?_
  suffices key : ∀ (v72 : Int32), v72 = (if y < 0 then Int32.ofInt 0 else (if (nI (dE C)) ≤ y then Int32.ofInt 0 else Int32.ofInt 1)) → pz_S 2 (some .boolean) am_r227 1 Q 17 [] [.int v72] h by
    refine am_goX 2 (show (y < 0 → pz_S 2 (some .boolean) am_r227 1 Q 16 [(0, .ref 154), (1, .int y)] [] h) ∧ (¬ (y < 0) → pz_S 2 (some .boolean) am_r227 1 Q 4 [(0, .ref 154), (1, .int y)] [] h) from ⟨fun c71 => ?_, fun c71 => ?_⟩)
    · refine am_goX 1 (show pz_S 2 (some .boolean) am_r227 1 Q 17 [(0, .ref 154), (1, .int y)] [.int (Int32.ofInt 0)] h from ?_)
      exact sv_S2 sv2_227 (fun q hq => absurd hq List.not_mem_nil) (key _ (if_pos c71).symm)
    · refine am_goX 3 (show am_rc h 154 11 ∧ 1 ≤ 8 ∧ h.2.2.2.2 + am_al 183 ≤ 175 ∧ am_call am_cod 1 183 [.ref 154] h (fun vv h' => pz_S 2 (some .boolean) am_r227 1 Q 9 [(0, .ref 154), (1, .int y)] (vv.toList ++ [.int y]) h') from ⟨Or.inl ⟨by decide, ex_154 hP⟩, by decide, ex_lim hP rfl, am_call.up (d_183_r hP hT ?_) (by decide)⟩)
      suffices key : ∀ (v74 : Int32), v74 = (if (nI (dE C)) ≤ y then Int32.ofInt 0 else Int32.ofInt 1) → pz_S 2 (some .boolean) am_r227 1 Q 17 [] [.int v74] h by
        refine am_goX 1 (show ((nI (dE C)) ≤ y → pz_S 2 (some .boolean) am_r227 1 Q 16 [(0, .ref 154), (1, .int y)] [] h) ∧ (¬ ((nI (dE C)) ≤ y) → pz_S 2 (some .boolean) am_r227 1 Q 12 [(0, .ref 154), (1, .int y)] [] h) from ⟨fun c73 => ?_, fun c73 => ?_⟩)
        · refine am_goX 1 (show pz_S 2 (some .boolean) am_r227 1 Q 17 [(0, .ref 154), (1, .int y)] [.int (Int32.ofInt 0)] h from ?_)
          exact sv_S2 sv2_227 (fun q hq => absurd hq List.not_mem_nil) (key _ (if_pos c73).symm)
        · refine am_goX 2 (show pz_S 2 (some .boolean) am_r227 1 Q 17 [(0, .ref 154), (1, .int y)] [.int (Int32.ofInt 1)] h from ?_)
          exact sv_S2 sv2_227 (fun q hq => absurd hq List.not_mem_nil) (key _ (if_neg c73).symm)
      intro v74 e75
      subst e75
      exact sv_S2 sv2_227 (fun q hq => absurd hq List.not_mem_nil) (key _ (if_neg c71).symm)
  intro v72 e76
  subst e76
  exact am_goX 1 (show (∃ ty, (some .boolean) = some ty ∧ narrow ty (.int (if y < 0 then Int32.ofInt 0 else (if (nI (dE C)) ≤ y then Int32.ofInt 0 else Int32.ofInt 1))) = .int (if y < 0 then Int32.ofInt 0 else (if (nI (dE C)) ≤ y then Int32.ofInt 0 else Int32.ofInt 1))) ∧ h.2.2.2.2 = 175 ∧ _ from ⟨⟨.boolean, rfl, (by (repeat' split) <;> rfl)⟩, ex_175 hP, hQ⟩)
theorem d_227_e (x : Int32) : d_227 C x = d_93 C x := rfl
def d_266_x (x : Nat) : Nat := (x + 1)
def d_266 (x : Nat) : Int32 := Int32.ofInt 1
theorem d_266_L (hP : ex_P h) (hI : cI C) (hT : tR C h) (hO : ∀ e, e < dE C → h.1 172 e = dW V e) (hS : sR 0 (dP C) s h) (hH : hL (dP C) H h) (hM : mL (dP C) M h) (hx : h.1 170 24 = nI x) (he : q < dE C) (hl1 : 1 ≤ l) (hl2 : l ≤ 28) (hx8 : x < 8) (hQ : ∀ h1, (ex_P h1) → (cI C) → (tR C h1) → (∀ e, e < dE C → h1.1 172 e = dW V e) → (sR 0 (dP C) s h1) → (hL (dP C) H h1) → (mL (dP C) M h1) → (h1.1 170 24 = nI (d_266_x x)) → Q (some (.int (d_266 x))) h1) : am_call am_cod 5 266 [.ref 154, .int (nI q), .int (nI l), .int b] h Q := by
  have h6 := hT.1.2.1
  have h5 := hT.2.1.2.1
  refine pz_call (n := 266) (nL := 5) (rt := (some .boolean)) (rows := am_r266) (d := 4) (by decide +kernel) (by decide +kernel) rfl (by funext pc; rfl) (ex_175 hP) (by exact Nat.le_of_ble_eq_true rfl) ?_
  refine am_goX 3 (show am_sh h 154 = some (11, 0) ∧ narrow (am_fty 11 0) (.int (Int32.ofInt 0)) = .int (Int32.ofInt 0) ∧ fits (am_fty 11 0) (.int (Int32.ofInt 0)) = true ∧ pz_S 5 (some .boolean) am_r266 4 Q 5 [(0, .ref 154), (1, .int (nI q)), (2, .int (nI l)), (3, .int b)] [] (am_wI h 154 0 (Int32.ofInt 0)) from ⟨ex_154 hP, rfl, rfl, ?_⟩)
  have f78 : ex_P (am_wI h 154 0 (Int32.ofInt 0)) := hP
  have f79 : cI C := hI
  have f80 : tR C (am_wI h 154 0 (Int32.ofInt 0)) := tR_w (by omega) hT
  have f81 : ∀ e, e < dE C → (am_wI h 154 0 (Int32.ofInt 0)).1 172 e = dW V e := on_w (by omega) hO
  have f82 : sR 0 (dP C) s (am_wI h 154 0 (Int32.ofInt 0)) := sR_o (by omega) hS
  have f83 : hL (dP C) H (am_wI h 154 0 (Int32.ofInt 0)) := hL_w (by omega) hH
  have f84 : mL (dP C) M (am_wI h 154 0 (Int32.ofInt 0)) := mL_w (by omega) hM
  have f85 : (am_wI h 154 0 (Int32.ofInt 0)).1 170 24 = nI x := (em_wn _ _ (by omega)).trans hx
  generalize am_wI h 154 0 (Int32.ofInt 0) = h77 at f78 f79 f80 f81 f82 f83 f84 f85 ⊢
  refine am_goX 3 (show am_rc h77 154 11 ∧ 0 ≤ 8 ∧ h77.2.2.2.2 + am_al 227 ≤ 175 ∧ am_call am_cod 4 227 [.ref 154, .int (nI q)] h77 (fun vv h' => pz_S 5 (some .boolean) am_r266 4 Q 10 [(0, .ref 154), (1, .int (nI q)), (2, .int (nI l)), (3, .int b)] (vv.toList ++ []) h') from ⟨Or.inl ⟨by decide, ex_154 f78⟩, by decide, ex_lim f78 rfl, am_call.up (d_227_r f78 f80 ?_) (by decide)⟩)
  rw [show d_227 C (nI q) = Int32.ofInt 1 from ((d_227_e _).trans (v_93 he h5))]
  refine am_goX 1 (show ((Int32.ofInt 1) = 0 → pz_S 5 (some .boolean) am_r266 4 Q 35 [(0, .ref 154), (1, .int (nI q)), (2, .int (nI l)), (3, .int b)] [] h77) ∧ (¬ ((Int32.ofInt 1) = 0) → pz_S 5 (some .boolean) am_r266 4 Q 13 [(0, .ref 154), (1, .int (nI q)), (2, .int (nI l)), (3, .int b)] [] h77) from ⟨fun hz => absurd hz (by decide), fun _ => ?_⟩)
  refine am_goX 4 (show 0 ≤ 8 ∧ h77.2.2.2.2 + am_al 207 ≤ 175 ∧ am_call am_cod 4 207 [.int (nI l), .int (Int32.ofInt 1), .int ((Int8.ofInt 28).toInt32)] h77 (fun vv h' => pz_S 5 (some .boolean) am_r266 4 Q 20 [(0, .ref 154), (1, .int (nI q)), (2, .int (nI l)), (3, .int b)] (vv.toList ++ []) h') from ⟨by decide, ex_lim f78 rfl, am_call.up (d_207_w f78 ?_) (by decide)⟩)
  rw [show d_207 (nI l) (Int32.ofInt 1) ((Int8.ofInt 28).toInt32) = Int32.ofInt 1 from ((d_207_e _ _ _).trans (show d_60 (nI l) (Int32.ofInt 1) ((Int8.ofInt 28).toInt32) = Int32.ofInt 1 from (by rw [show (Int8.ofInt 28).toInt32 = nI 28 by decide]; exact v_60 (lo := 1) (hi := 28) hl1 hl2 (by decide))))]
  refine am_goX 1 (show ((Int32.ofInt 1) = 0 → pz_S 5 (some .boolean) am_r266 4 Q 35 [(0, .ref 154), (1, .int (nI q)), (2, .int (nI l)), (3, .int b)] [] h77) ∧ (¬ ((Int32.ofInt 1) = 0) → pz_S 5 (some .boolean) am_r266 4 Q 23 [(0, .ref 154), (1, .int (nI q)), (2, .int (nI l)), (3, .int b)] [] h77) from ⟨fun hz => absurd hz (by decide), fun _ => ?_⟩)
  refine am_goX 2 (show am_sh h77 154 = some (11, 0) ∧ pz_S 5 (some .boolean) am_r266 4 Q 27 [(0, .ref 154), (1, .int (nI q)), (2, .int (nI l)), (3, .int b)] [am_rf (h77.2.2.1 154 24)] h77 from ⟨ex_154 f78, ?_⟩)
  rw [show am_rf (h77.2.2.1 154 24) = .ref 170 from congrArg am_rf (ex_r154_24 f78)]
  refine am_goX 2 (show ∃ jj nn : Nat, am_sh h77 170 = some (13, nn) ∧ jj < nn ∧ (Int8.ofInt 24).toInt32 = nI jj ∧ pz_S 5 (some .boolean) am_r266 4 Q 30 [(0, .ref 154), (1, .int (nI q)), (2, .int (nI l)), (3, .int b)] [.int (h77.1 170 jj)] h77 from ⟨24, 1127, ex_170 f78, (by omega), (show (Int8.ofInt 24).toInt32 = nI 24 by decide), ?_⟩)
  rw [show h77.1 170 24 = nI x from f85]
  refine am_goX 2 (show (¬ (nI x) = ((Int8.ofInt 8).toInt32) → pz_S 5 (some .boolean) am_r266 4 Q 37 [(0, .ref 154), (1, .int (nI q)), (2, .int (nI l)), (3, .int b)] [] h77) ∧ (¬ ¬ (nI x) = ((Int8.ofInt 8).toInt32) → pz_S 5 (some .boolean) am_r266 4 Q 35 [(0, .ref 154), (1, .int (nI q)), (2, .int (nI l)), (3, .int b)] [] h77) from ⟨fun _ => ?_, fun hz => absurd (show ¬ nI x = nI 8 from fun w => by have := nI_inj2 (by omega) (by omega) w; omega) hz⟩)
  refine am_goX 4 (show am_sh h77 154 = some (11, 0) ∧ pz_S 5 (some .boolean) am_r266 4 Q 44 [(0, .ref 154), (1, .int (nI q)), (2, .int (nI l)), (3, .int b)] [am_rf (h77.2.2.1 154 24), .int (Int32.ofInt 3), .int ((Int8.ofInt 25).toInt32)] h77 from ⟨ex_154 f78, ?_⟩)
  rw [show am_rf (h77.2.2.1 154 24) = .ref 170 from congrArg am_rf (ex_r154_24 f78)]
  refine am_goX 2 (show ∃ jj nn : Nat, am_sh h77 170 = some (13, nn) ∧ jj < nn ∧ (Int8.ofInt 24).toInt32 = nI jj ∧ pz_S 5 (some .boolean) am_r266 4 Q 47 [(0, .ref 154), (1, .int (nI q)), (2, .int (nI l)), (3, .int b)] [.int (h77.1 170 jj), .int (Int32.ofInt 3), .int ((Int8.ofInt 25).toInt32)] h77 from ⟨24, 1127, ex_170 f78, (by omega), (show (Int8.ofInt 24).toInt32 = nI 24 by decide), ?_⟩)
  rw [show h77.1 170 24 = nI x from f85]
  refine am_goX 5 (show 4 < 5 ∧ am_sh h77 154 = some (11, 0) ∧ pz_S 5 (some .boolean) am_r266 4 Q 55 [(4, .int (((Int8.ofInt 25).toInt32) + ((Int32.ofInt 3) * (nI x)))), (0, .ref 154), (1, .int (nI q)), (2, .int (nI l)), (3, .int b)] [am_rf (h77.2.2.1 154 24)] h77 from ⟨by decide, ex_154 f78, ?_⟩)
  rw [show am_rf (h77.2.2.1 154 24) = .ref 170 from congrArg am_rf (ex_r154_24 f78)]
  refine am_goX 3 (show ∃ jj nn : Nat, am_so h77 170 = some (13, nn) ∧ jj < nn ∧ ((Int8.ofInt 25).toInt32) + ((Int32.ofInt 3) * (nI x)) = nI jj ∧ pz_S 5 (some .boolean) am_r266 4 Q 59 [(4, .int (((Int8.ofInt 25).toInt32) + ((Int32.ofInt 3) * (nI x)))), (0, .ref 154), (1, .int (nI q)), (2, .int (nI l)), (3, .int b)] [] (am_wI h77 170 jj (nI q)) from ⟨(25 + (3 * x)), 1127, ex_w170 f78, (by omega), (dn_a (show (Int8.ofInt 25).toInt32 = nI 25 by decide) (dn_m rfl rfl)), ?_⟩)
  have f87 : ex_P (am_wI h77 170 (25 + (3 * x)) (nI q)) := f78
  have f88 : cI C := f79
  have f89 : tR C (am_wI h77 170 (25 + (3 * x)) (nI q)) := tR_w (by omega) f80
  have f90 : ∀ e, e < dE C → (am_wI h77 170 (25 + (3 * x)) (nI q)).1 172 e = dW V e := on_w (by omega) f81
  have f91 : sR 0 (dP C) s (am_wI h77 170 (25 + (3 * x)) (nI q)) := sR_q (by omega) f82
  have f92 : hL (dP C) H (am_wI h77 170 (25 + (3 * x)) (nI q)) := hL_w (by omega) f83
  have f93 : mL (dP C) M (am_wI h77 170 (25 + (3 * x)) (nI q)) := mL_w (by omega) f84
  have f94 : (am_wI h77 170 (25 + (3 * x)) (nI q)).1 170 24 = nI x := (em_wn _ _ (by omega)).trans f85
  generalize am_wI h77 170 (25 + (3 * x)) (nI q) = h86 at f87 f88 f89 f90 f91 f92 f93 f94 ⊢
  refine am_goX 2 (show am_sh h86 154 = some (11, 0) ∧ pz_S 5 (some .boolean) am_r266 4 Q 63 [(4, .int (((Int8.ofInt 25).toInt32) + ((Int32.ofInt 3) * (nI x)))), (0, .ref 154), (1, .int (nI q)), (2, .int (nI l)), (3, .int b)] [am_rf (h86.2.2.1 154 24)] h86 from ⟨ex_154 f87, ?_⟩)
  rw [show am_rf (h86.2.2.1 154 24) = .ref 170 from congrArg am_rf (ex_r154_24 f87)]
  refine am_goX 5 (show ∃ jj nn : Nat, am_so h86 170 = some (13, nn) ∧ jj < nn ∧ (((Int8.ofInt 25).toInt32) + ((Int32.ofInt 3) * (nI x))) + (Int32.ofInt 1) = nI jj ∧ pz_S 5 (some .boolean) am_r266 4 Q 69 [(4, .int (((Int8.ofInt 25).toInt32) + ((Int32.ofInt 3) * (nI x)))), (0, .ref 154), (1, .int (nI q)), (2, .int (nI l)), (3, .int b)] [] (am_wI h86 170 jj (nI l)) from ⟨((25 + (3 * x)) + 1), 1127, ex_w170 f87, (by omega), (dn_a (dn_a (show (Int8.ofInt 25).toInt32 = nI 25 by decide) (dn_m rfl rfl)) rfl), ?_⟩)
  have f96 : ex_P (am_wI h86 170 ((25 + (3 * x)) + 1) (nI l)) := f87
  have f97 : cI C := f88
  have f98 : tR C (am_wI h86 170 ((25 + (3 * x)) + 1) (nI l)) := tR_w (by omega) f89
  have f99 : ∀ e, e < dE C → (am_wI h86 170 ((25 + (3 * x)) + 1) (nI l)).1 172 e = dW V e := on_w (by omega) f90
  have f100 : sR 0 (dP C) s (am_wI h86 170 ((25 + (3 * x)) + 1) (nI l)) := sR_q (by omega) f91
  have f101 : hL (dP C) H (am_wI h86 170 ((25 + (3 * x)) + 1) (nI l)) := hL_w (by omega) f92
  have f102 : mL (dP C) M (am_wI h86 170 ((25 + (3 * x)) + 1) (nI l)) := mL_w (by omega) f93
  have f103 : (am_wI h86 170 ((25 + (3 * x)) + 1) (nI l)).1 170 24 = nI x := (em_wn _ _ (by omega)).trans f94
  generalize am_wI h86 170 ((25 + (3 * x)) + 1) (nI l) = h95 at f96 f97 f98 f99 f100 f101 f102 f103 ⊢
  refine am_goX 2 (show am_sh h95 154 = some (11, 0) ∧ pz_S 5 (some .boolean) am_r266 4 Q 73 [(4, .int (((Int8.ofInt 25).toInt32) + ((Int32.ofInt 3) * (nI x)))), (0, .ref 154), (1, .int (nI q)), (2, .int (nI l)), (3, .int b)] [am_rf (h95.2.2.1 154 24)] h95 from ⟨ex_154 f96, ?_⟩)
  rw [show am_rf (h95.2.2.1 154 24) = .ref 170 from congrArg am_rf (ex_r154_24 f96)]
  suffices key : ∀ (v105 : Int32), v105 = (if b = 0 then Int32.ofInt 0 else Int32.ofInt 1) → pz_S 5 (some .boolean) am_r266 4 Q 86 [(0, .ref 154)] [.int v105, .int ((((Int8.ofInt 25).toInt32) + ((Int32.ofInt 3) * (nI x))) + (Int32.ofInt 2)), .ref 170] h95 by
    refine am_goX 5 (show (b = 0 → pz_S 5 (some .boolean) am_r266 4 Q 85 [(4, .int (((Int8.ofInt 25).toInt32) + ((Int32.ofInt 3) * (nI x)))), (0, .ref 154), (1, .int (nI q)), (2, .int (nI l)), (3, .int b)] [.int ((((Int8.ofInt 25).toInt32) + ((Int32.ofInt 3) * (nI x))) + (Int32.ofInt 2)), .ref 170] h95) ∧ (¬ (b = 0) → pz_S 5 (some .boolean) am_r266 4 Q 81 [(4, .int (((Int8.ofInt 25).toInt32) + ((Int32.ofInt 3) * (nI x)))), (0, .ref 154), (1, .int (nI q)), (2, .int (nI l)), (3, .int b)] [.int ((((Int8.ofInt 25).toInt32) + ((Int32.ofInt 3) * (nI x))) + (Int32.ofInt 2)), .ref 170] h95) from ⟨fun c104 => ?_, fun c104 => ?_⟩)
    · refine am_goX 1 (show pz_S 5 (some .boolean) am_r266 4 Q 86 [(4, .int (((Int8.ofInt 25).toInt32) + ((Int32.ofInt 3) * (nI x)))), (0, .ref 154), (1, .int (nI q)), (2, .int (nI l)), (3, .int b)] [.int (Int32.ofInt 0), .int ((((Int8.ofInt 25).toInt32) + ((Int32.ofInt 3) * (nI x))) + (Int32.ofInt 2)), .ref 170] h95 from ?_)
      exact sv_S2 sv2_266 (by intro q hq; simp only [List.mem_cons, List.not_mem_nil, or_false] at hq; rcases hq with rfl <;> rfl) (key _ (if_pos c104).symm)
    · refine am_goX 2 (show pz_S 5 (some .boolean) am_r266 4 Q 86 [(4, .int (((Int8.ofInt 25).toInt32) + ((Int32.ofInt 3) * (nI x)))), (0, .ref 154), (1, .int (nI q)), (2, .int (nI l)), (3, .int b)] [.int (Int32.ofInt 1), .int ((((Int8.ofInt 25).toInt32) + ((Int32.ofInt 3) * (nI x))) + (Int32.ofInt 2)), .ref 170] h95 from ?_)
      exact sv_S2 sv2_266 (by intro q hq; simp only [List.mem_cons, List.not_mem_nil, or_false] at hq; rcases hq with rfl <;> rfl) (key _ (if_neg c104).symm)
  intro v105 e106
  subst e106
  refine am_goX 1 (show ∃ jj nn : Nat, am_so h95 170 = some (13, nn) ∧ jj < nn ∧ (((Int8.ofInt 25).toInt32) + ((Int32.ofInt 3) * (nI x))) + (Int32.ofInt 2) = nI jj ∧ pz_S 5 (some .boolean) am_r266 4 Q 87 [(0, .ref 154)] [] (am_wI h95 170 jj (if b = 0 then Int32.ofInt 0 else Int32.ofInt 1)) from ⟨((25 + (3 * x)) + 2), 1127, ex_w170 f96, (by omega), (dn_a (dn_a (show (Int8.ofInt 25).toInt32 = nI 25 by decide) (dn_m rfl rfl)) rfl), ?_⟩)
  have f108 : ex_P (am_wI h95 170 ((25 + (3 * x)) + 2) (if b = 0 then Int32.ofInt 0 else Int32.ofInt 1)) := f96
  have f109 : cI C := f97
  have f110 : tR C (am_wI h95 170 ((25 + (3 * x)) + 2) (if b = 0 then Int32.ofInt 0 else Int32.ofInt 1)) := tR_w (by omega) f98
  have f111 : ∀ e, e < dE C → (am_wI h95 170 ((25 + (3 * x)) + 2) (if b = 0 then Int32.ofInt 0 else Int32.ofInt 1)).1 172 e = dW V e := on_w (by omega) f99
  have f112 : sR 0 (dP C) s (am_wI h95 170 ((25 + (3 * x)) + 2) (if b = 0 then Int32.ofInt 0 else Int32.ofInt 1)) := sR_q (by omega) f100
  have f113 : hL (dP C) H (am_wI h95 170 ((25 + (3 * x)) + 2) (if b = 0 then Int32.ofInt 0 else Int32.ofInt 1)) := hL_w (by omega) f101
  have f114 : mL (dP C) M (am_wI h95 170 ((25 + (3 * x)) + 2) (if b = 0 then Int32.ofInt 0 else Int32.ofInt 1)) := mL_w (by omega) f102
  have f115 : (am_wI h95 170 ((25 + (3 * x)) + 2) (if b = 0 then Int32.ofInt 0 else Int32.ofInt 1)).1 170 24 = nI x := (em_wn _ _ (by omega)).trans f103
  generalize am_wI h95 170 ((25 + (3 * x)) + 2) (if b = 0 then Int32.ofInt 0 else Int32.ofInt 1) = h107 at f108 f109 f110 f111 f112 f113 f114 f115 ⊢
  refine am_goX 2 (show am_sh h107 154 = some (11, 0) ∧ pz_S 5 (some .boolean) am_r266 4 Q 91 [(0, .ref 154)] [am_rf (h107.2.2.1 154 24)] h107 from ⟨ex_154 f108, ?_⟩)
  rw [show am_rf (h107.2.2.1 154 24) = .ref 170 from congrArg am_rf (ex_r154_24 f108)]
  refine am_goX 3 (show (Value.int ((Int8.ofInt 24).toInt32)).category = 1 ∧ (Value.ref 170).category = 1 ∧ ∃ jj nn : Nat, am_sh h107 170 = some (13, nn) ∧ jj < nn ∧ (Int8.ofInt 24).toInt32 = nI jj ∧ pz_S 5 (some .boolean) am_r266 4 Q 95 [(0, .ref 154)] [.int (h107.1 170 jj), .int ((Int8.ofInt 24).toInt32), .ref 170] h107 from ⟨rfl, rfl, ⟨24, 1127, ex_170 f108, (by omega), (show (Int8.ofInt 24).toInt32 = nI 24 by decide), ?_⟩⟩)
  rw [show h107.1 170 24 = nI x from f115]
  refine am_goX 3 (show ∃ jj nn : Nat, am_so h107 170 = some (13, nn) ∧ jj < nn ∧ (Int8.ofInt 24).toInt32 = nI jj ∧ pz_S 5 (some .boolean) am_r266 4 Q 98 [(0, .ref 154)] [] (am_wI h107 170 jj ((nI x) + (Int32.ofInt 1))) from ⟨24, 1127, ex_w170 f108, (by omega), (show (Int8.ofInt 24).toInt32 = nI 24 by decide), ?_⟩)
  have f117 : ex_P (am_wI h107 170 24 ((nI x) + (Int32.ofInt 1))) := f108
  have f118 : cI C := f109
  have f119 : tR C (am_wI h107 170 24 ((nI x) + (Int32.ofInt 1))) := tR_w (by omega) f110
  have f120 : ∀ e, e < dE C → (am_wI h107 170 24 ((nI x) + (Int32.ofInt 1))).1 172 e = dW V e := on_w (by omega) f111
  have f121 : sR 0 (dP C) s (am_wI h107 170 24 ((nI x) + (Int32.ofInt 1))) := sR_q (by omega) f112
  have f122 : hL (dP C) H (am_wI h107 170 24 ((nI x) + (Int32.ofInt 1))) := hL_w (by omega) f113
  have f123 : mL (dP C) M (am_wI h107 170 24 ((nI x) + (Int32.ofInt 1))) := mL_w (by omega) f114
  have f124 : (am_wI h107 170 24 ((nI x) + (Int32.ofInt 1))).1 170 24 = nI (x + 1) := (em_we _ _ _ _).trans ((dn_a rfl rfl))
  generalize am_wI h107 170 24 ((nI x) + (Int32.ofInt 1)) = h116 at f117 f118 f119 f120 f121 f122 f123 f124 ⊢
  exact am_goX 2 (show (∃ ty, (some .boolean) = some ty ∧ narrow ty (.int (Int32.ofInt 1)) = .int (Int32.ofInt 1)) ∧ h116.2.2.2.2 = 175 ∧ _ from ⟨⟨.boolean, rfl, rfl⟩, ex_175 f117, hQ _ f117 f118 f119 f120 f121 f122 f123 f124⟩)
def d_266x  : Int32 := Int32.ofInt 0
theorem d_266_xL (hP : ex_P h) (hI : cI C) (hT : tR C h) (hO : ∀ e, e < dE C → h.1 172 e = dW V e) (hS : sR 0 (dP C) s h) (hH : hL (dP C) H h) (hM : mL (dP C) M h) (hx : h.1 170 24 = nI x) (ey : d_93 C y = Int32.ofInt 0) (hQ : ∀ h1, (ex_P h1) → (cI C) → (tR C h1) → (∀ e, e < dE C → h1.1 172 e = dW V e) → (sR 0 (dP C) s h1) → (hL (dP C) H h1) → (mL (dP C) M h1) → (h1.1 170 24 = nI x) → Q (some (.int d_266x)) h1) : am_call am_cod 5 266 [.ref 154, .int y, .int w, .int b] h Q := by
  have h6 := hT.1.2.1
  have h5 := hT.2.1.2.1
  refine pz_call (n := 266) (nL := 5) (rt := (some .boolean)) (rows := am_r266) (d := 4) (by decide +kernel) (by decide +kernel) rfl (by funext pc; rfl) (ex_175 hP) (by exact Nat.le_of_ble_eq_true rfl) ?_
  refine am_goX 3 (show am_sh h 154 = some (11, 0) ∧ narrow (am_fty 11 0) (.int (Int32.ofInt 0)) = .int (Int32.ofInt 0) ∧ fits (am_fty 11 0) (.int (Int32.ofInt 0)) = true ∧ pz_S 5 (some .boolean) am_r266 4 Q 5 [(0, .ref 154), (1, .int y), (2, .int w), (3, .int b)] [] (am_wI h 154 0 (Int32.ofInt 0)) from ⟨ex_154 hP, rfl, rfl, ?_⟩)
  have f126 : ex_P (am_wI h 154 0 (Int32.ofInt 0)) := hP
  have f127 : cI C := hI
  have f128 : tR C (am_wI h 154 0 (Int32.ofInt 0)) := tR_w (by omega) hT
  have f129 : ∀ e, e < dE C → (am_wI h 154 0 (Int32.ofInt 0)).1 172 e = dW V e := on_w (by omega) hO
  have f130 : sR 0 (dP C) s (am_wI h 154 0 (Int32.ofInt 0)) := sR_o (by omega) hS
  have f131 : hL (dP C) H (am_wI h 154 0 (Int32.ofInt 0)) := hL_w (by omega) hH
  have f132 : mL (dP C) M (am_wI h 154 0 (Int32.ofInt 0)) := mL_w (by omega) hM
  have f133 : (am_wI h 154 0 (Int32.ofInt 0)).1 170 24 = nI x := (em_wn _ _ (by omega)).trans hx
  generalize am_wI h 154 0 (Int32.ofInt 0) = h125 at f126 f127 f128 f129 f130 f131 f132 f133 ⊢
  refine am_goX 3 (show am_rc h125 154 11 ∧ 0 ≤ 8 ∧ h125.2.2.2.2 + am_al 227 ≤ 175 ∧ am_call am_cod 4 227 [.ref 154, .int y] h125 (fun vv h' => pz_S 5 (some .boolean) am_r266 4 Q 10 [(0, .ref 154), (1, .int y), (2, .int w), (3, .int b)] (vv.toList ++ []) h') from ⟨Or.inl ⟨by decide, ex_154 f126⟩, by decide, ex_lim f126 rfl, am_call.up (d_227_r f126 f128 ?_) (by decide)⟩)
  rw [show d_227 C y = Int32.ofInt 0 from ((d_227_e _).trans ey)]
  refine am_goX 1 (show ((Int32.ofInt 0) = 0 → pz_S 5 (some .boolean) am_r266 4 Q 35 [(0, .ref 154), (1, .int y), (2, .int w), (3, .int b)] [] h125) ∧ (¬ ((Int32.ofInt 0) = 0) → pz_S 5 (some .boolean) am_r266 4 Q 13 [(0, .ref 154), (1, .int y), (2, .int w), (3, .int b)] [] h125) from ⟨fun _ => ?_, fun hz => absurd (by decide) hz⟩)
  exact am_goX 2 (show (∃ ty, (some .boolean) = some ty ∧ narrow ty (.int (Int32.ofInt 0)) = .int (Int32.ofInt 0)) ∧ h125.2.2.2.2 = 175 ∧ _ from ⟨⟨.boolean, rfl, rfl⟩, ex_175 f126, hQ _ f126 f127 f128 f129 f130 f131 f132 f133⟩)
theorem d_266_yL (hP : ex_P h) (hI : cI C) (hT : tR C h) (hO : ∀ e, e < dE C → h.1 172 e = dW V e) (hS : sR 0 (dP C) s h) (hH : hL (dP C) H h) (hM : mL (dP C) M h) (hx : h.1 170 24 = nI x) (he : q < dE C) (ew : d_60 w (Int32.ofInt 1) ((Int8.ofInt 28).toInt32) = Int32.ofInt 0) (hQ : ∀ h1, (ex_P h1) → (cI C) → (tR C h1) → (∀ e, e < dE C → h1.1 172 e = dW V e) → (sR 0 (dP C) s h1) → (hL (dP C) H h1) → (mL (dP C) M h1) → (h1.1 170 24 = nI x) → Q (some (.int d_266x)) h1) : am_call am_cod 5 266 [.ref 154, .int (nI q), .int w, .int b] h Q := by
  have h6 := hT.1.2.1
  have h5 := hT.2.1.2.1
  refine pz_call (n := 266) (nL := 5) (rt := (some .boolean)) (rows := am_r266) (d := 4) (by decide +kernel) (by decide +kernel) rfl (by funext pc; rfl) (ex_175 hP) (by exact Nat.le_of_ble_eq_true rfl) ?_
  refine am_goX 3 (show am_sh h 154 = some (11, 0) ∧ narrow (am_fty 11 0) (.int (Int32.ofInt 0)) = .int (Int32.ofInt 0) ∧ fits (am_fty 11 0) (.int (Int32.ofInt 0)) = true ∧ pz_S 5 (some .boolean) am_r266 4 Q 5 [(0, .ref 154), (1, .int (nI q)), (2, .int w), (3, .int b)] [] (am_wI h 154 0 (Int32.ofInt 0)) from ⟨ex_154 hP, rfl, rfl, ?_⟩)
  have f135 : ex_P (am_wI h 154 0 (Int32.ofInt 0)) := hP
  have f136 : cI C := hI
  have f137 : tR C (am_wI h 154 0 (Int32.ofInt 0)) := tR_w (by omega) hT
  have f138 : ∀ e, e < dE C → (am_wI h 154 0 (Int32.ofInt 0)).1 172 e = dW V e := on_w (by omega) hO
  have f139 : sR 0 (dP C) s (am_wI h 154 0 (Int32.ofInt 0)) := sR_o (by omega) hS
  have f140 : hL (dP C) H (am_wI h 154 0 (Int32.ofInt 0)) := hL_w (by omega) hH
  have f141 : mL (dP C) M (am_wI h 154 0 (Int32.ofInt 0)) := mL_w (by omega) hM
  have f142 : (am_wI h 154 0 (Int32.ofInt 0)).1 170 24 = nI x := (em_wn _ _ (by omega)).trans hx
  generalize am_wI h 154 0 (Int32.ofInt 0) = h134 at f135 f136 f137 f138 f139 f140 f141 f142 ⊢
  refine am_goX 3 (show am_rc h134 154 11 ∧ 0 ≤ 8 ∧ h134.2.2.2.2 + am_al 227 ≤ 175 ∧ am_call am_cod 4 227 [.ref 154, .int (nI q)] h134 (fun vv h' => pz_S 5 (some .boolean) am_r266 4 Q 10 [(0, .ref 154), (1, .int (nI q)), (2, .int w), (3, .int b)] (vv.toList ++ []) h') from ⟨Or.inl ⟨by decide, ex_154 f135⟩, by decide, ex_lim f135 rfl, am_call.up (d_227_r f135 f137 ?_) (by decide)⟩)
  rw [show d_227 C (nI q) = Int32.ofInt 1 from ((d_227_e _).trans (v_93 he h5))]
  refine am_goX 1 (show ((Int32.ofInt 1) = 0 → pz_S 5 (some .boolean) am_r266 4 Q 35 [(0, .ref 154), (1, .int (nI q)), (2, .int w), (3, .int b)] [] h134) ∧ (¬ ((Int32.ofInt 1) = 0) → pz_S 5 (some .boolean) am_r266 4 Q 13 [(0, .ref 154), (1, .int (nI q)), (2, .int w), (3, .int b)] [] h134) from ⟨fun hz => absurd hz (by decide), fun _ => ?_⟩)
  refine am_goX 4 (show 0 ≤ 8 ∧ h134.2.2.2.2 + am_al 207 ≤ 175 ∧ am_call am_cod 4 207 [.int w, .int (Int32.ofInt 1), .int ((Int8.ofInt 28).toInt32)] h134 (fun vv h' => pz_S 5 (some .boolean) am_r266 4 Q 20 [(0, .ref 154), (1, .int (nI q)), (2, .int w), (3, .int b)] (vv.toList ++ []) h') from ⟨by decide, ex_lim f135 rfl, am_call.up (d_207_w f135 ?_) (by decide)⟩)
  rw [show d_207 w (Int32.ofInt 1) ((Int8.ofInt 28).toInt32) = Int32.ofInt 0 from ((d_207_e _ _ _).trans ew)]
  refine am_goX 1 (show ((Int32.ofInt 0) = 0 → pz_S 5 (some .boolean) am_r266 4 Q 35 [(0, .ref 154), (1, .int (nI q)), (2, .int w), (3, .int b)] [] h134) ∧ (¬ ((Int32.ofInt 0) = 0) → pz_S 5 (some .boolean) am_r266 4 Q 23 [(0, .ref 154), (1, .int (nI q)), (2, .int w), (3, .int b)] [] h134) from ⟨fun _ => ?_, fun hz => absurd (by decide) hz⟩)
  exact am_goX 2 (show (∃ ty, (some .boolean) = some ty ∧ narrow ty (.int (Int32.ofInt 0)) = .int (Int32.ofInt 0)) ∧ h134.2.2.2.2 = 175 ∧ _ from ⟨⟨.boolean, rfl, rfl⟩, ex_175 f135, hQ _ f135 f136 f137 f138 f139 f140 f141 f142⟩)
theorem d_266_zL (hP : ex_P h) (hI : cI C) (hT : tR C h) (hO : ∀ e, e < dE C → h.1 172 e = dW V e) (hS : sR 0 (dP C) s h) (hH : hL (dP C) H h) (hM : mL (dP C) M h) (hx : h.1 170 24 = nI x) (he : q < dE C) (hl1 : 1 ≤ l) (hl2 : l ≤ 28) (hx8 : x = 8) (hQ : ∀ h1, (ex_P h1) → (cI C) → (tR C h1) → (∀ e, e < dE C → h1.1 172 e = dW V e) → (sR 0 (dP C) s h1) → (hL (dP C) H h1) → (mL (dP C) M h1) → (h1.1 170 24 = nI x) → Q (some (.int d_266x)) h1) : am_call am_cod 5 266 [.ref 154, .int (nI q), .int (nI l), .int b] h Q := by
  have h6 := hT.1.2.1
  have h5 := hT.2.1.2.1
  refine pz_call (n := 266) (nL := 5) (rt := (some .boolean)) (rows := am_r266) (d := 4) (by decide +kernel) (by decide +kernel) rfl (by funext pc; rfl) (ex_175 hP) (by exact Nat.le_of_ble_eq_true rfl) ?_
  refine am_goX 3 (show am_sh h 154 = some (11, 0) ∧ narrow (am_fty 11 0) (.int (Int32.ofInt 0)) = .int (Int32.ofInt 0) ∧ fits (am_fty 11 0) (.int (Int32.ofInt 0)) = true ∧ pz_S 5 (some .boolean) am_r266 4 Q 5 [(0, .ref 154), (1, .int (nI q)), (2, .int (nI l)), (3, .int b)] [] (am_wI h 154 0 (Int32.ofInt 0)) from ⟨ex_154 hP, rfl, rfl, ?_⟩)
  have f144 : ex_P (am_wI h 154 0 (Int32.ofInt 0)) := hP
  have f145 : cI C := hI
  have f146 : tR C (am_wI h 154 0 (Int32.ofInt 0)) := tR_w (by omega) hT
  have f147 : ∀ e, e < dE C → (am_wI h 154 0 (Int32.ofInt 0)).1 172 e = dW V e := on_w (by omega) hO
  have f148 : sR 0 (dP C) s (am_wI h 154 0 (Int32.ofInt 0)) := sR_o (by omega) hS
  have f149 : hL (dP C) H (am_wI h 154 0 (Int32.ofInt 0)) := hL_w (by omega) hH
  have f150 : mL (dP C) M (am_wI h 154 0 (Int32.ofInt 0)) := mL_w (by omega) hM
  have f151 : (am_wI h 154 0 (Int32.ofInt 0)).1 170 24 = nI x := (em_wn _ _ (by omega)).trans hx
  generalize am_wI h 154 0 (Int32.ofInt 0) = h143 at f144 f145 f146 f147 f148 f149 f150 f151 ⊢
  refine am_goX 3 (show am_rc h143 154 11 ∧ 0 ≤ 8 ∧ h143.2.2.2.2 + am_al 227 ≤ 175 ∧ am_call am_cod 4 227 [.ref 154, .int (nI q)] h143 (fun vv h' => pz_S 5 (some .boolean) am_r266 4 Q 10 [(0, .ref 154), (1, .int (nI q)), (2, .int (nI l)), (3, .int b)] (vv.toList ++ []) h') from ⟨Or.inl ⟨by decide, ex_154 f144⟩, by decide, ex_lim f144 rfl, am_call.up (d_227_r f144 f146 ?_) (by decide)⟩)
  rw [show d_227 C (nI q) = Int32.ofInt 1 from ((d_227_e _).trans (v_93 he h5))]
  refine am_goX 1 (show ((Int32.ofInt 1) = 0 → pz_S 5 (some .boolean) am_r266 4 Q 35 [(0, .ref 154), (1, .int (nI q)), (2, .int (nI l)), (3, .int b)] [] h143) ∧ (¬ ((Int32.ofInt 1) = 0) → pz_S 5 (some .boolean) am_r266 4 Q 13 [(0, .ref 154), (1, .int (nI q)), (2, .int (nI l)), (3, .int b)] [] h143) from ⟨fun hz => absurd hz (by decide), fun _ => ?_⟩)
  refine am_goX 4 (show 0 ≤ 8 ∧ h143.2.2.2.2 + am_al 207 ≤ 175 ∧ am_call am_cod 4 207 [.int (nI l), .int (Int32.ofInt 1), .int ((Int8.ofInt 28).toInt32)] h143 (fun vv h' => pz_S 5 (some .boolean) am_r266 4 Q 20 [(0, .ref 154), (1, .int (nI q)), (2, .int (nI l)), (3, .int b)] (vv.toList ++ []) h') from ⟨by decide, ex_lim f144 rfl, am_call.up (d_207_w f144 ?_) (by decide)⟩)
  rw [show d_207 (nI l) (Int32.ofInt 1) ((Int8.ofInt 28).toInt32) = Int32.ofInt 1 from ((d_207_e _ _ _).trans (show d_60 (nI l) (Int32.ofInt 1) ((Int8.ofInt 28).toInt32) = Int32.ofInt 1 from (by rw [show (Int8.ofInt 28).toInt32 = nI 28 by decide]; exact v_60 (lo := 1) (hi := 28) hl1 hl2 (by decide))))]
  refine am_goX 1 (show ((Int32.ofInt 1) = 0 → pz_S 5 (some .boolean) am_r266 4 Q 35 [(0, .ref 154), (1, .int (nI q)), (2, .int (nI l)), (3, .int b)] [] h143) ∧ (¬ ((Int32.ofInt 1) = 0) → pz_S 5 (some .boolean) am_r266 4 Q 23 [(0, .ref 154), (1, .int (nI q)), (2, .int (nI l)), (3, .int b)] [] h143) from ⟨fun hz => absurd hz (by decide), fun _ => ?_⟩)
  refine am_goX 2 (show am_sh h143 154 = some (11, 0) ∧ pz_S 5 (some .boolean) am_r266 4 Q 27 [(0, .ref 154), (1, .int (nI q)), (2, .int (nI l)), (3, .int b)] [am_rf (h143.2.2.1 154 24)] h143 from ⟨ex_154 f144, ?_⟩)
  rw [show am_rf (h143.2.2.1 154 24) = .ref 170 from congrArg am_rf (ex_r154_24 f144)]
  refine am_goX 2 (show ∃ jj nn : Nat, am_sh h143 170 = some (13, nn) ∧ jj < nn ∧ (Int8.ofInt 24).toInt32 = nI jj ∧ pz_S 5 (some .boolean) am_r266 4 Q 30 [(0, .ref 154), (1, .int (nI q)), (2, .int (nI l)), (3, .int b)] [.int (h143.1 170 jj)] h143 from ⟨24, 1127, ex_170 f144, (by omega), (show (Int8.ofInt 24).toInt32 = nI 24 by decide), ?_⟩)
  rw [show h143.1 170 24 = nI x from f151]
  refine am_goX 2 (show (¬ (nI x) = ((Int8.ofInt 8).toInt32) → pz_S 5 (some .boolean) am_r266 4 Q 37 [(0, .ref 154), (1, .int (nI q)), (2, .int (nI l)), (3, .int b)] [] h143) ∧ (¬ ¬ (nI x) = ((Int8.ofInt 8).toInt32) → pz_S 5 (some .boolean) am_r266 4 Q 35 [(0, .ref 154), (1, .int (nI q)), (2, .int (nI l)), (3, .int b)] [] h143) from ⟨fun hz => absurd hz (show ¬ ¬ nI x = nI 8 from fun w => w (by rw [hx8])), fun _ => ?_⟩)
  exact am_goX 2 (show (∃ ty, (some .boolean) = some ty ∧ narrow ty (.int (Int32.ofInt 0)) = .int (Int32.ofInt 0)) ∧ h143.2.2.2.2 = 175 ∧ _ from ⟨⟨.boolean, rfl, rfl⟩, ex_175 f144, hQ _ f144 f145 f146 f147 f148 f149 f150 f151⟩)
end
section
/-! MARK -/
/-- all but the mark m, in the reference -/
def mX (m : Nat) (h0 h : am_H) : Prop := (∀ j, j < 4 → ¬ j = m → h.1 171 j = h0.1 171 j) ∧ ∀ q, 49 ≤ q → q < 245 → ¬ (49 + 49 * m ≤ q ∧ q < 49 + 49 * m + 49) → h.1 170 q = h0.1 170 q
theorem mX_0 {m : Nat} {h : am_H} : mX m h h := ⟨fun _ _ _ => rfl, fun _ _ _ _ => rfl⟩
theorem mX_w {m o k : Nat} {v : Int32} {h0 h : am_H} (ho : o = 154 ∨ (o = 171 ∧ k = m)) (l : mX m h0 h) : mX m h0 (am_wI h o k v) := ⟨fun j hj hn => (em_wn _ _ (by omega)).trans (l.1 j hj hn), fun q h1 h2 h3 => (em_wn _ _ (by omega)).trans (l.2 q h1 h2 h3)⟩
theorem hC_z {H : dH} {h : am_H} (l : hC H h) : hC (0, H.2) (am_wI h 47 2 (Int32.ofInt 0)) := by
  obtain ⟨a1, a2, q, a3, a4, a5⟩ := l
  exact ⟨Nat.zero_le _, em_we _ _ _ _, q, a3, (em_wn _ _ (by omega)).trans a4, fun j hj => absurd hj (Nat.not_lt_zero j)⟩
theorem hL_z {P : Nat} {H : dH} {h : am_H} (l : hL P H h) : hL P (0, H.2) (am_wI h 154 25 (Int32.ofInt 0)) := ⟨Nat.zero_le _, em_we _ _ _ _, fun j hj => absurd hj (Nat.not_lt_zero j)⟩
theorem hL_same {P : Nat} {H : dH} {h : am_H} (l : hL P H h) : hL P H (am_wI h 154 25 (nI H.1)) := by
  have e := am_wI_id h 154 25
  rw [l.2.1] at e
  rw [e]
  exact l
theorem mL_same {P m : Nat} {M : dMk} {h : am_H} (hm : m < 4) (h1 : M.1 m = true) (l : mL P M h) : mL P M (am_wI h 171 m (vp_nar .boolean (Int32.ofInt 1))) := by
  have e := am_wI_id h 171 m
  rw [(l m hm).1, h1] at e
  rw [show vp_nar .boolean (Int32.ofInt 1) = (bif true then (1 : Int32) else 0) from rfl, e]
  exact l
variable {h : am_H} {Q : am_Q} {C V : sp_C} {y z w b : Int32} {e l m : Nat} {s : dS} {H : dH} {M : dMk} {x : Nat}
theorem ex_131 {h : am_H} (hP : ex_P h) : am_sh h 131 = some (6, 0) := (ex_so hP (by decide +kernel)).2
theorem ex_137 {h : am_H} (hP : ex_P h) : am_sh h 137 = some (6, 0) := (ex_so hP (by decide +kernel)).2
theorem ex_143 {h : am_H} (hP : ex_P h) : am_sh h 143 = some (6, 0) := (ex_so hP (by decide +kernel)).2
theorem ex_149 {h : am_H} (hP : ex_P h) : am_sh h 149 = some (6, 0) := (ex_so hP (by decide +kernel)).2
theorem ex_r130_1 {h : am_H} (hP : ex_P h) : h.2.2.1 130 1 = some 131 := hP.2 130 1 131 (by decide +kernel)
theorem ex_r136_1 {h : am_H} (hP : ex_P h) : h.2.2.1 136 1 = some 137 := hP.2 136 1 137 (by decide +kernel)
theorem ex_r142_1 {h : am_H} (hP : ex_P h) : h.2.2.1 142 1 = some 143 := hP.2 142 1 143 (by decide +kernel)
theorem ex_r148_1 {h : am_H} (hP : ex_P h) : h.2.2.1 148 1 = some 149 := hP.2 148 1 149 (by decide +kernel)
theorem k_115_0 {a b : Int32} (hP : ex_P h) (hQ : ∀ h1, ex_P h1 → kMk 0 h h1 → h1.1 130 0 = 1 → scq 131 36 h h1 → h1.1 130 2 = a → Q none h1) : am_call am_cod 2 115 [.ref 130, .ref 36, .int a, .int b] h Q := by
  refine pz_call (n := 115) (nL := 4) (rt := none) (rows := am_r115) (d := 1) (by decide +kernel) (by decide +kernel) rfl (by funext pc; rfl) (ex_175 hP) (by exact Nat.le_of_ble_eq_true rfl) ?_
  have hX := kMk_0 (m := 0) (h := h)
  refine am_goX 3 (show am_sh h 130 = some (5, 0) ∧ narrow (am_fty 5 0) (.int (Int32.ofInt 1)) = .int (Int32.ofInt 1) ∧ fits (am_fty 5 0) (.int (Int32.ofInt 1)) = true ∧ pz_S 4 none am_r115 1 Q 5 [(0, .ref 130), (1, .ref 36), (2, .int a), (3, .int b)] [] (am_wI h 130 0 (Int32.ofInt 1)) from ⟨ex_130 hP, rfl, rfl, ?_⟩)
  have f2 : ex_P (am_wI h 130 0 (Int32.ofInt 1)) := hP
  have f3 : kMk 0 h (am_wI h 130 0 (Int32.ofInt 1)) := kMk_w (by omega) hX
  have f4 : (am_wI h 130 0 (Int32.ofInt 1)).1 130 0 = 1 := em_we _ _ _ _
  generalize am_wI h 130 0 (Int32.ofInt 1) = h1 at f2 f3 f4 ⊢
  refine am_goX 2 (show am_sh h1 130 = some (5, 0) ∧ pz_S 4 none am_r115 1 Q 9 [(0, .ref 130), (1, .ref 36), (2, .int a), (3, .int b)] [am_rf (h1.2.2.1 130 1)] h1 from ⟨ex_130 f2, ?_⟩)
  rw [show am_rf (h1.2.2.1 130 1) = .ref 131 from congrArg am_rf (ex_r130_1 f2)]
  refine am_goX 2 (show am_rc h1 131 6 ∧ 0 ≤ 8 ∧ h1.2.2.2.2 + am_al 99 ≤ 175 ∧ am_call am_cod 1 99 [.ref 131, .ref 36] h1 (fun vv h' => pz_S 4 none am_r115 1 Q 13 [(0, .ref 130), (1, .ref 36), (2, .int a), (3, .int b)] (vv.toList ++ []) h') from ⟨Or.inl ⟨by decide, ex_131 f2⟩, by decide, ex_lim f2 rfl, am_call.up (q_99 stO_131 stO_36 (by decide) f2 (fun h5 f6 f7 f8 f9 => ?_)) (by decide)⟩)
  have f10 : kMk 0 h h5 := ⟨f7.trans f3.1, fun a j n1 => (f8 a j (by omega)).trans (f3.2 a j n1)⟩
  have f11 : h5.1 130 0 = 1 := (f8 _ _ (by omega)).trans f4
  have f12 : scq 131 36 h h5 := ⟨⟨f9.1.1.trans (f3.2 _ _ (by omega)), f9.1.2.trans (f3.2 _ _ (by omega))⟩, fun i hi => ⟨(f9.2.1 i hi).1.trans (f3.2 _ _ (by omega)), (f9.2.1 i hi).2.trans (f3.2 _ _ (by omega))⟩, fun i hi => ⟨(f9.2.2 i hi).1.trans (f3.2 _ _ (by omega)), (f9.2.2 i hi).2.trans (f3.2 _ _ (by omega))⟩⟩
  refine am_goX 3 (show am_sh h5 130 = some (5, 0) ∧ narrow (am_fty 5 2) (.int a) = .int a ∧ fits (am_fty 5 2) (.int a) = true ∧ pz_S 4 none am_r115 1 Q 18 [(0, .ref 130), (1, .ref 36), (2, .int a), (3, .int b)] [] (am_wI h5 130 2 a) from ⟨ex_130 f6, rfl, rfl, ?_⟩)
  have f14 : ex_P (am_wI h5 130 2 a) := f6
  have f15 : kMk 0 h (am_wI h5 130 2 a) := kMk_w (by omega) f10
  have f16 : (am_wI h5 130 2 a).1 130 0 = 1 := (em_wn _ _ (by omega)).trans f11
  have f17 : scq 131 36 h (am_wI h5 130 2 a) := scq_w (by omega) f12
  have f18 : (am_wI h5 130 2 a).1 130 2 = a := em_we _ _ _ _
  generalize am_wI h5 130 2 a = h13 at f14 f15 f16 f17 f18 ⊢
  refine am_goX 3 (show am_sh h13 130 = some (5, 0) ∧ narrow (am_fty 5 3) (.int b) = .int b ∧ fits (am_fty 5 3) (.int b) = true ∧ pz_S 4 none am_r115 1 Q 23 [(0, .ref 130), (1, .ref 36), (2, .int a), (3, .int b)] [] (am_wI h13 130 3 b) from ⟨ex_130 f14, rfl, rfl, ?_⟩)
  have f20 : ex_P (am_wI h13 130 3 b) := f14
  have f21 : kMk 0 h (am_wI h13 130 3 b) := kMk_w (by omega) f15
  have f22 : (am_wI h13 130 3 b).1 130 0 = 1 := (em_wn _ _ (by omega)).trans f16
  have f23 : scq 131 36 h (am_wI h13 130 3 b) := scq_w (by omega) f17
  have f24 : (am_wI h13 130 3 b).1 130 2 = a := (em_wn _ _ (by omega)).trans f18
  generalize am_wI h13 130 3 b = h19 at f20 f21 f22 f23 f24 ⊢
  exact am_goX 1 (show (none : Option FieldType) = none ∧ h19.2.2.2.2 = 175 ∧ _ from ⟨rfl, ex_175 f20, hQ _ f20 f21 f22 f23 f24⟩)
theorem k_115_1 {a b : Int32} (hP : ex_P h) (hQ : ∀ h1, ex_P h1 → kMk 1 h h1 → h1.1 136 0 = 1 → scq 137 36 h h1 → h1.1 136 2 = a → Q none h1) : am_call am_cod 2 115 [.ref 136, .ref 36, .int a, .int b] h Q := by
  refine pz_call (n := 115) (nL := 4) (rt := none) (rows := am_r115) (d := 1) (by decide +kernel) (by decide +kernel) rfl (by funext pc; rfl) (ex_175 hP) (by exact Nat.le_of_ble_eq_true rfl) ?_
  have hX := kMk_0 (m := 1) (h := h)
  refine am_goX 3 (show am_sh h 136 = some (5, 0) ∧ narrow (am_fty 5 0) (.int (Int32.ofInt 1)) = .int (Int32.ofInt 1) ∧ fits (am_fty 5 0) (.int (Int32.ofInt 1)) = true ∧ pz_S 4 none am_r115 1 Q 5 [(0, .ref 136), (1, .ref 36), (2, .int a), (3, .int b)] [] (am_wI h 136 0 (Int32.ofInt 1)) from ⟨ex_136 hP, rfl, rfl, ?_⟩)
  have f26 : ex_P (am_wI h 136 0 (Int32.ofInt 1)) := hP
  have f27 : kMk 1 h (am_wI h 136 0 (Int32.ofInt 1)) := kMk_w (by omega) hX
  have f28 : (am_wI h 136 0 (Int32.ofInt 1)).1 136 0 = 1 := em_we _ _ _ _
  generalize am_wI h 136 0 (Int32.ofInt 1) = h25 at f26 f27 f28 ⊢
  refine am_goX 2 (show am_sh h25 136 = some (5, 0) ∧ pz_S 4 none am_r115 1 Q 9 [(0, .ref 136), (1, .ref 36), (2, .int a), (3, .int b)] [am_rf (h25.2.2.1 136 1)] h25 from ⟨ex_136 f26, ?_⟩)
  rw [show am_rf (h25.2.2.1 136 1) = .ref 137 from congrArg am_rf (ex_r136_1 f26)]
  refine am_goX 2 (show am_rc h25 137 6 ∧ 0 ≤ 8 ∧ h25.2.2.2.2 + am_al 99 ≤ 175 ∧ am_call am_cod 1 99 [.ref 137, .ref 36] h25 (fun vv h' => pz_S 4 none am_r115 1 Q 13 [(0, .ref 136), (1, .ref 36), (2, .int a), (3, .int b)] (vv.toList ++ []) h') from ⟨Or.inl ⟨by decide, ex_137 f26⟩, by decide, ex_lim f26 rfl, am_call.up (q_99 stO_137 stO_36 (by decide) f26 (fun h29 f30 f31 f32 f33 => ?_)) (by decide)⟩)
  have f34 : kMk 1 h h29 := ⟨f31.trans f27.1, fun a j n1 => (f32 a j (by omega)).trans (f27.2 a j n1)⟩
  have f35 : h29.1 136 0 = 1 := (f32 _ _ (by omega)).trans f28
  have f36 : scq 137 36 h h29 := ⟨⟨f33.1.1.trans (f27.2 _ _ (by omega)), f33.1.2.trans (f27.2 _ _ (by omega))⟩, fun i hi => ⟨(f33.2.1 i hi).1.trans (f27.2 _ _ (by omega)), (f33.2.1 i hi).2.trans (f27.2 _ _ (by omega))⟩, fun i hi => ⟨(f33.2.2 i hi).1.trans (f27.2 _ _ (by omega)), (f33.2.2 i hi).2.trans (f27.2 _ _ (by omega))⟩⟩
  refine am_goX 3 (show am_sh h29 136 = some (5, 0) ∧ narrow (am_fty 5 2) (.int a) = .int a ∧ fits (am_fty 5 2) (.int a) = true ∧ pz_S 4 none am_r115 1 Q 18 [(0, .ref 136), (1, .ref 36), (2, .int a), (3, .int b)] [] (am_wI h29 136 2 a) from ⟨ex_136 f30, rfl, rfl, ?_⟩)
  have f38 : ex_P (am_wI h29 136 2 a) := f30
  have f39 : kMk 1 h (am_wI h29 136 2 a) := kMk_w (by omega) f34
  have f40 : (am_wI h29 136 2 a).1 136 0 = 1 := (em_wn _ _ (by omega)).trans f35
  have f41 : scq 137 36 h (am_wI h29 136 2 a) := scq_w (by omega) f36
  have f42 : (am_wI h29 136 2 a).1 136 2 = a := em_we _ _ _ _
  generalize am_wI h29 136 2 a = h37 at f38 f39 f40 f41 f42 ⊢
  refine am_goX 3 (show am_sh h37 136 = some (5, 0) ∧ narrow (am_fty 5 3) (.int b) = .int b ∧ fits (am_fty 5 3) (.int b) = true ∧ pz_S 4 none am_r115 1 Q 23 [(0, .ref 136), (1, .ref 36), (2, .int a), (3, .int b)] [] (am_wI h37 136 3 b) from ⟨ex_136 f38, rfl, rfl, ?_⟩)
  have f44 : ex_P (am_wI h37 136 3 b) := f38
  have f45 : kMk 1 h (am_wI h37 136 3 b) := kMk_w (by omega) f39
  have f46 : (am_wI h37 136 3 b).1 136 0 = 1 := (em_wn _ _ (by omega)).trans f40
  have f47 : scq 137 36 h (am_wI h37 136 3 b) := scq_w (by omega) f41
  have f48 : (am_wI h37 136 3 b).1 136 2 = a := (em_wn _ _ (by omega)).trans f42
  generalize am_wI h37 136 3 b = h43 at f44 f45 f46 f47 f48 ⊢
  exact am_goX 1 (show (none : Option FieldType) = none ∧ h43.2.2.2.2 = 175 ∧ _ from ⟨rfl, ex_175 f44, hQ _ f44 f45 f46 f47 f48⟩)
theorem k_115_2 {a b : Int32} (hP : ex_P h) (hQ : ∀ h1, ex_P h1 → kMk 2 h h1 → h1.1 142 0 = 1 → scq 143 36 h h1 → h1.1 142 2 = a → Q none h1) : am_call am_cod 2 115 [.ref 142, .ref 36, .int a, .int b] h Q := by
  refine pz_call (n := 115) (nL := 4) (rt := none) (rows := am_r115) (d := 1) (by decide +kernel) (by decide +kernel) rfl (by funext pc; rfl) (ex_175 hP) (by exact Nat.le_of_ble_eq_true rfl) ?_
  have hX := kMk_0 (m := 2) (h := h)
  refine am_goX 3 (show am_sh h 142 = some (5, 0) ∧ narrow (am_fty 5 0) (.int (Int32.ofInt 1)) = .int (Int32.ofInt 1) ∧ fits (am_fty 5 0) (.int (Int32.ofInt 1)) = true ∧ pz_S 4 none am_r115 1 Q 5 [(0, .ref 142), (1, .ref 36), (2, .int a), (3, .int b)] [] (am_wI h 142 0 (Int32.ofInt 1)) from ⟨ex_142 hP, rfl, rfl, ?_⟩)
  have f50 : ex_P (am_wI h 142 0 (Int32.ofInt 1)) := hP
  have f51 : kMk 2 h (am_wI h 142 0 (Int32.ofInt 1)) := kMk_w (by omega) hX
  have f52 : (am_wI h 142 0 (Int32.ofInt 1)).1 142 0 = 1 := em_we _ _ _ _
  generalize am_wI h 142 0 (Int32.ofInt 1) = h49 at f50 f51 f52 ⊢
  refine am_goX 2 (show am_sh h49 142 = some (5, 0) ∧ pz_S 4 none am_r115 1 Q 9 [(0, .ref 142), (1, .ref 36), (2, .int a), (3, .int b)] [am_rf (h49.2.2.1 142 1)] h49 from ⟨ex_142 f50, ?_⟩)
  rw [show am_rf (h49.2.2.1 142 1) = .ref 143 from congrArg am_rf (ex_r142_1 f50)]
  refine am_goX 2 (show am_rc h49 143 6 ∧ 0 ≤ 8 ∧ h49.2.2.2.2 + am_al 99 ≤ 175 ∧ am_call am_cod 1 99 [.ref 143, .ref 36] h49 (fun vv h' => pz_S 4 none am_r115 1 Q 13 [(0, .ref 142), (1, .ref 36), (2, .int a), (3, .int b)] (vv.toList ++ []) h') from ⟨Or.inl ⟨by decide, ex_143 f50⟩, by decide, ex_lim f50 rfl, am_call.up (q_99 stO_143 stO_36 (by decide) f50 (fun h53 f54 f55 f56 f57 => ?_)) (by decide)⟩)
  have f58 : kMk 2 h h53 := ⟨f55.trans f51.1, fun a j n1 => (f56 a j (by omega)).trans (f51.2 a j n1)⟩
  have f59 : h53.1 142 0 = 1 := (f56 _ _ (by omega)).trans f52
  have f60 : scq 143 36 h h53 := ⟨⟨f57.1.1.trans (f51.2 _ _ (by omega)), f57.1.2.trans (f51.2 _ _ (by omega))⟩, fun i hi => ⟨(f57.2.1 i hi).1.trans (f51.2 _ _ (by omega)), (f57.2.1 i hi).2.trans (f51.2 _ _ (by omega))⟩, fun i hi => ⟨(f57.2.2 i hi).1.trans (f51.2 _ _ (by omega)), (f57.2.2 i hi).2.trans (f51.2 _ _ (by omega))⟩⟩
  refine am_goX 3 (show am_sh h53 142 = some (5, 0) ∧ narrow (am_fty 5 2) (.int a) = .int a ∧ fits (am_fty 5 2) (.int a) = true ∧ pz_S 4 none am_r115 1 Q 18 [(0, .ref 142), (1, .ref 36), (2, .int a), (3, .int b)] [] (am_wI h53 142 2 a) from ⟨ex_142 f54, rfl, rfl, ?_⟩)
  have f62 : ex_P (am_wI h53 142 2 a) := f54
  have f63 : kMk 2 h (am_wI h53 142 2 a) := kMk_w (by omega) f58
  have f64 : (am_wI h53 142 2 a).1 142 0 = 1 := (em_wn _ _ (by omega)).trans f59
  have f65 : scq 143 36 h (am_wI h53 142 2 a) := scq_w (by omega) f60
  have f66 : (am_wI h53 142 2 a).1 142 2 = a := em_we _ _ _ _
  generalize am_wI h53 142 2 a = h61 at f62 f63 f64 f65 f66 ⊢
  refine am_goX 3 (show am_sh h61 142 = some (5, 0) ∧ narrow (am_fty 5 3) (.int b) = .int b ∧ fits (am_fty 5 3) (.int b) = true ∧ pz_S 4 none am_r115 1 Q 23 [(0, .ref 142), (1, .ref 36), (2, .int a), (3, .int b)] [] (am_wI h61 142 3 b) from ⟨ex_142 f62, rfl, rfl, ?_⟩)
  have f68 : ex_P (am_wI h61 142 3 b) := f62
  have f69 : kMk 2 h (am_wI h61 142 3 b) := kMk_w (by omega) f63
  have f70 : (am_wI h61 142 3 b).1 142 0 = 1 := (em_wn _ _ (by omega)).trans f64
  have f71 : scq 143 36 h (am_wI h61 142 3 b) := scq_w (by omega) f65
  have f72 : (am_wI h61 142 3 b).1 142 2 = a := (em_wn _ _ (by omega)).trans f66
  generalize am_wI h61 142 3 b = h67 at f68 f69 f70 f71 f72 ⊢
  exact am_goX 1 (show (none : Option FieldType) = none ∧ h67.2.2.2.2 = 175 ∧ _ from ⟨rfl, ex_175 f68, hQ _ f68 f69 f70 f71 f72⟩)
theorem k_115_3 {a b : Int32} (hP : ex_P h) (hQ : ∀ h1, ex_P h1 → kMk 3 h h1 → h1.1 148 0 = 1 → scq 149 36 h h1 → h1.1 148 2 = a → Q none h1) : am_call am_cod 2 115 [.ref 148, .ref 36, .int a, .int b] h Q := by
  refine pz_call (n := 115) (nL := 4) (rt := none) (rows := am_r115) (d := 1) (by decide +kernel) (by decide +kernel) rfl (by funext pc; rfl) (ex_175 hP) (by exact Nat.le_of_ble_eq_true rfl) ?_
  have hX := kMk_0 (m := 3) (h := h)
  refine am_goX 3 (show am_sh h 148 = some (5, 0) ∧ narrow (am_fty 5 0) (.int (Int32.ofInt 1)) = .int (Int32.ofInt 1) ∧ fits (am_fty 5 0) (.int (Int32.ofInt 1)) = true ∧ pz_S 4 none am_r115 1 Q 5 [(0, .ref 148), (1, .ref 36), (2, .int a), (3, .int b)] [] (am_wI h 148 0 (Int32.ofInt 1)) from ⟨ex_148 hP, rfl, rfl, ?_⟩)
  have f74 : ex_P (am_wI h 148 0 (Int32.ofInt 1)) := hP
  have f75 : kMk 3 h (am_wI h 148 0 (Int32.ofInt 1)) := kMk_w (by omega) hX
  have f76 : (am_wI h 148 0 (Int32.ofInt 1)).1 148 0 = 1 := em_we _ _ _ _
  generalize am_wI h 148 0 (Int32.ofInt 1) = h73 at f74 f75 f76 ⊢
  refine am_goX 2 (show am_sh h73 148 = some (5, 0) ∧ pz_S 4 none am_r115 1 Q 9 [(0, .ref 148), (1, .ref 36), (2, .int a), (3, .int b)] [am_rf (h73.2.2.1 148 1)] h73 from ⟨ex_148 f74, ?_⟩)
  rw [show am_rf (h73.2.2.1 148 1) = .ref 149 from congrArg am_rf (ex_r148_1 f74)]
  refine am_goX 2 (show am_rc h73 149 6 ∧ 0 ≤ 8 ∧ h73.2.2.2.2 + am_al 99 ≤ 175 ∧ am_call am_cod 1 99 [.ref 149, .ref 36] h73 (fun vv h' => pz_S 4 none am_r115 1 Q 13 [(0, .ref 148), (1, .ref 36), (2, .int a), (3, .int b)] (vv.toList ++ []) h') from ⟨Or.inl ⟨by decide, ex_149 f74⟩, by decide, ex_lim f74 rfl, am_call.up (q_99 stO_149 stO_36 (by decide) f74 (fun h77 f78 f79 f80 f81 => ?_)) (by decide)⟩)
  have f82 : kMk 3 h h77 := ⟨f79.trans f75.1, fun a j n1 => (f80 a j (by omega)).trans (f75.2 a j n1)⟩
  have f83 : h77.1 148 0 = 1 := (f80 _ _ (by omega)).trans f76
  have f84 : scq 149 36 h h77 := ⟨⟨f81.1.1.trans (f75.2 _ _ (by omega)), f81.1.2.trans (f75.2 _ _ (by omega))⟩, fun i hi => ⟨(f81.2.1 i hi).1.trans (f75.2 _ _ (by omega)), (f81.2.1 i hi).2.trans (f75.2 _ _ (by omega))⟩, fun i hi => ⟨(f81.2.2 i hi).1.trans (f75.2 _ _ (by omega)), (f81.2.2 i hi).2.trans (f75.2 _ _ (by omega))⟩⟩
  refine am_goX 3 (show am_sh h77 148 = some (5, 0) ∧ narrow (am_fty 5 2) (.int a) = .int a ∧ fits (am_fty 5 2) (.int a) = true ∧ pz_S 4 none am_r115 1 Q 18 [(0, .ref 148), (1, .ref 36), (2, .int a), (3, .int b)] [] (am_wI h77 148 2 a) from ⟨ex_148 f78, rfl, rfl, ?_⟩)
  have f86 : ex_P (am_wI h77 148 2 a) := f78
  have f87 : kMk 3 h (am_wI h77 148 2 a) := kMk_w (by omega) f82
  have f88 : (am_wI h77 148 2 a).1 148 0 = 1 := (em_wn _ _ (by omega)).trans f83
  have f89 : scq 149 36 h (am_wI h77 148 2 a) := scq_w (by omega) f84
  have f90 : (am_wI h77 148 2 a).1 148 2 = a := em_we _ _ _ _
  generalize am_wI h77 148 2 a = h85 at f86 f87 f88 f89 f90 ⊢
  refine am_goX 3 (show am_sh h85 148 = some (5, 0) ∧ narrow (am_fty 5 3) (.int b) = .int b ∧ fits (am_fty 5 3) (.int b) = true ∧ pz_S 4 none am_r115 1 Q 23 [(0, .ref 148), (1, .ref 36), (2, .int a), (3, .int b)] [] (am_wI h85 148 3 b) from ⟨ex_148 f86, rfl, rfl, ?_⟩)
  have f92 : ex_P (am_wI h85 148 3 b) := f86
  have f93 : kMk 3 h (am_wI h85 148 3 b) := kMk_w (by omega) f87
  have f94 : (am_wI h85 148 3 b).1 148 0 = 1 := (em_wn _ _ (by omega)).trans f88
  have f95 : scq 149 36 h (am_wI h85 148 3 b) := scq_w (by omega) f89
  have f96 : (am_wI h85 148 3 b).1 148 2 = a := (em_wn _ _ (by omega)).trans f90
  generalize am_wI h85 148 3 b = h91 at f92 f93 f94 f95 f96 ⊢
  exact am_goX 1 (show (none : Option FieldType) = none ∧ h91.2.2.2.2 = 175 ∧ _ from ⟨rfl, ex_175 f92, hQ _ f92 f93 f94 f95 f96⟩)
def d_114l0_M (s : dS) (H : dH) (M : dMk) (x : Nat) : dMk := (mset M 0 s x)
def d_114l0 (s : dS) (H : dH) (M : dMk) (x : Nat) : Int32 := Int32.ofInt 1
theorem d_114_lK6_0 (hP : ex_P h) (hI : cI C) (hT : c_v 6 C h) (hD : c_d 6 C h) (hR : h.2.2.1 0 3 = some 6) (hS : sC 36 s h) (hH : hC H h) (hM : mC M h) (hx : h.1 0 12 = nI x)  (hQ : ∀ h1, (ex_P h1) → (cI C) → (c_v 6 C h1) → (c_d 6 C h1) → (h1.2.2.1 0 3 = some 6) → (sC 36 s h1) → (hC H h1) → (mC (d_114l0_M s H M x) h1) → (h1.1 0 12 = nI x) → Q (some (.int (d_114l0 s H M x))) h1) : am_call am_cod 4 114 [.ref 0, .int (nI 0), .int (Int32.ofInt 0)] h Q := by
  have h6 := hT.1.2.1
  have h5 := hT.2.1.2.1
  refine pz_call (n := 114) (nL := 4) (rt := (some .boolean)) (rows := am_r114) (d := 3) (by decide +kernel) (by decide +kernel) rfl (by funext pc; rfl) (ex_175 hP) (by exact Nat.le_of_ble_eq_true rfl) ?_
  refine am_goX 4 (show 0 ≤ 8 ∧ h.2.2.2.2 + am_al 60 ≤ 175 ∧ am_call am_cod 3 60 [.int (nI 0), .int (Int32.ofInt 0), .int (Int32.ofInt 3)] h (fun vv h' => pz_S 4 (some .boolean) am_r114 3 Q 6 [(0, .ref 0), (1, .int (nI 0)), (2, .int (Int32.ofInt 0))] (vv.toList ++ []) h') from ⟨by decide, ex_lim hP rfl, am_call.up (d_60_w hP ?_) (by decide)⟩)
  rw [show d_60 (nI 0) (Int32.ofInt 0) (Int32.ofInt 3) = Int32.ofInt 1 from (by decide)]
  refine am_goX 1 (show (¬ (Int32.ofInt 1) = 0 → pz_S 4 (some .boolean) am_r114 3 Q 11 [(0, .ref 0), (1, .int (nI 0)), (2, .int (Int32.ofInt 0))] [] h) ∧ (¬ ¬ (Int32.ofInt 1) = 0 → pz_S 4 (some .boolean) am_r114 3 Q 9 [(0, .ref 0), (1, .int (nI 0)), (2, .int (Int32.ofInt 0))] [] h) from ⟨fun _ => ?_, fun hz => absurd (by decide) hz⟩)
  refine am_goX 2 (show am_sh h 0 = some (10, 0) ∧ pz_S 4 (some .boolean) am_r114 3 Q 15 [(0, .ref 0), (1, .int (nI 0)), (2, .int (Int32.ofInt 0))] [am_rf (h.2.2.1 0 11)] h from ⟨ex_0 hP, ?_⟩)
  rw [show am_rf (h.2.2.1 0 11) = .ref 129 from congrArg am_rf (ex_r0_11 hP)]
  refine am_goX 2 (show ∃ jj nn : Nat, (am_sh h 129 = some (16, nn) ∨ am_sh h 129 = some (17, nn)) ∧ jj < nn ∧ nI 0 = nI jj ∧ pz_S 4 (some .boolean) am_r114 3 Q 17 [(0, .ref 0), (1, .int (nI 0)), (2, .int (Int32.ofInt 0))] [am_rf (h.2.2.1 129 jj)] h from ⟨0, 4, Or.inl (ex_129 hP), by decide, rfl, ?_⟩)
  rw [show am_rf (h.2.2.1 129 0) = .ref 130 from congrArg am_rf (ex_r129_0 hP)]
  refine am_goX 3 (show 3 < 4 ∧ (¬ (Int32.ofInt 0) = 0 → pz_S 4 (some .boolean) am_r114 3 Q 40 [(3, .ref 130), (0, .ref 0), (1, .int (nI 0)), (2, .int (Int32.ofInt 0))] [] h) ∧ (¬ ¬ (Int32.ofInt 0) = 0 → pz_S 4 (some .boolean) am_r114 3 Q 22 [(3, .ref 130), (0, .ref 0), (1, .int (nI 0)), (2, .int (Int32.ofInt 0))] [] h) from ⟨by decide, fun hz => absurd hz (by decide), fun _ => ?_⟩)
  refine am_goX 3 (show am_sh h 0 = some (10, 0) ∧ pz_S 4 (some .boolean) am_r114 3 Q 27 [(3, .ref 130), (0, .ref 0), (1, .int (nI 0)), (2, .int (Int32.ofInt 0))] [am_rf (h.2.2.1 0 7), .ref 130] h from ⟨ex_0 hP, ?_⟩)
  rw [show am_rf (h.2.2.1 0 7) = .ref 36 from congrArg am_rf (ex_r0_7 hP)]
  refine am_goX 2 (show am_sh h 0 = some (10, 0) ∧ pz_S 4 (some .boolean) am_r114 3 Q 31 [(3, .ref 130), (0, .ref 0), (1, .int (nI 0)), (2, .int (Int32.ofInt 0))] [.int (h.1 0 12), .ref 36, .ref 130] h from ⟨ex_0 hP, ?_⟩)
  rw [show h.1 0 12 = nI x from hx]
  refine am_goX 3 (show am_sh h 0 = some (10, 0) ∧ am_rc h 130 5 ∧ 0 ≤ 8 ∧ h.2.2.2.2 + am_al 115 ≤ 175 ∧ am_call am_cod 3 115 [.ref 130, .ref 36, .int (nI x), .int (h.1 0 13)] h (fun vv h' => pz_S 4 (some .boolean) am_r114 3 Q 38 [(3, .ref 130), (0, .ref 0), (1, .int (nI 0)), (2, .int (Int32.ofInt 0))] (vv.toList ++ []) h') from ⟨ex_0 hP, Or.inl ⟨by decide, ex_130 hP⟩, by decide, ex_lim hP rfl, am_call.up (k_115_0 hP (fun h97 f98 f99 f100 f101 f102 => ?_)) (by decide)⟩)
  have f103 : mC (mset M 0 s x) h97 := mC_set (m := 0) (fun a j n1 => f99.2 a j n1) f100 (sC_cp f101 hS) f102 hM
  have f104 : c_v 6 C h97 := c_v_fr (fun a k u1 u2 => f99.2 a k (by omega)) hT
  have f105 : c_d 6 C h97 := c_d_fr (fun k => f99.2 _ k (by omega)) hD
  have f106 : h97.2.2.1 0 3 = some 6 := (congrArg (fun q => q.2.1 0 3) f99.1).trans hR
  have f107 : sC 36 s h97 := sC_fr (fun a k u1 u2 => f99.2 a k (by omega)) hS
  have f108 : hC H h97 := hC_fr (fun a k u1 u2 => f99.2 a k (by omega)) hH
  have f109 : h97.1 0 12 = nI x := (f99.2 0 12 (by omega)).trans hx
  exact am_goX 2 (show (∃ ty, (some .boolean) = some ty ∧ narrow ty (.int (Int32.ofInt 1)) = .int (Int32.ofInt 1)) ∧ h97.2.2.2.2 = 175 ∧ _ from ⟨⟨.boolean, rfl, rfl⟩, ex_175 f98, hQ _ f98 hI f104 f105 f106 f107 f108 f103 f109⟩)
def d_114b0_s (s : dS) (H : dH) (M : dMk) (x : Nat) : dS := (M.2.1 0)
def d_114b0_H (s : dS) (H : dH) (M : dMk) (x : Nat) : dH := (0, H.2)
def d_114b0_x (s : dS) (H : dH) (M : dMk) (x : Nat) : Nat := (M.2.2 0)
def d_114b0 (s : dS) (H : dH) (M : dMk) (x : Nat) : Int32 := Int32.ofInt 1
theorem d_114_bK6_0 (hP : ex_P h) (hI : cI C) (hT : c_v 6 C h) (hD : c_d 6 C h) (hR : h.2.2.1 0 3 = some 6) (hS : sC 36 s h) (hH : hC H h) (hM : mC M h) (hx : h.1 0 12 = nI x) (hm1 : M.1 0 = true) (hQ : ∀ h1, (ex_P h1) → (cI C) → (c_v 6 C h1) → (c_d 6 C h1) → (h1.2.2.1 0 3 = some 6) → (sC 36 (d_114b0_s s H M x) h1) → (hC (d_114b0_H s H M x) h1) → (mC M h1) → (h1.1 0 12 = nI (d_114b0_x s H M x)) → Q (some (.int (d_114b0 s H M x))) h1) : am_call am_cod 4 114 [.ref 0, .int (nI 0), .int (Int32.ofInt 1)] h Q := by
  have h6 := hT.1.2.1
  have h5 := hT.2.1.2.1
  refine pz_call (n := 114) (nL := 4) (rt := (some .boolean)) (rows := am_r114) (d := 3) (by decide +kernel) (by decide +kernel) rfl (by funext pc; rfl) (ex_175 hP) (by exact Nat.le_of_ble_eq_true rfl) ?_
  refine am_goX 4 (show 0 ≤ 8 ∧ h.2.2.2.2 + am_al 60 ≤ 175 ∧ am_call am_cod 3 60 [.int (nI 0), .int (Int32.ofInt 0), .int (Int32.ofInt 3)] h (fun vv h' => pz_S 4 (some .boolean) am_r114 3 Q 6 [(0, .ref 0), (1, .int (nI 0)), (2, .int (Int32.ofInt 1))] (vv.toList ++ []) h') from ⟨by decide, ex_lim hP rfl, am_call.up (d_60_w hP ?_) (by decide)⟩)
  rw [show d_60 (nI 0) (Int32.ofInt 0) (Int32.ofInt 3) = Int32.ofInt 1 from (by decide)]
  refine am_goX 1 (show (¬ (Int32.ofInt 1) = 0 → pz_S 4 (some .boolean) am_r114 3 Q 11 [(0, .ref 0), (1, .int (nI 0)), (2, .int (Int32.ofInt 1))] [] h) ∧ (¬ ¬ (Int32.ofInt 1) = 0 → pz_S 4 (some .boolean) am_r114 3 Q 9 [(0, .ref 0), (1, .int (nI 0)), (2, .int (Int32.ofInt 1))] [] h) from ⟨fun _ => ?_, fun hz => absurd (by decide) hz⟩)
  refine am_goX 2 (show am_sh h 0 = some (10, 0) ∧ pz_S 4 (some .boolean) am_r114 3 Q 15 [(0, .ref 0), (1, .int (nI 0)), (2, .int (Int32.ofInt 1))] [am_rf (h.2.2.1 0 11)] h from ⟨ex_0 hP, ?_⟩)
  rw [show am_rf (h.2.2.1 0 11) = .ref 129 from congrArg am_rf (ex_r0_11 hP)]
  refine am_goX 2 (show ∃ jj nn : Nat, (am_sh h 129 = some (16, nn) ∨ am_sh h 129 = some (17, nn)) ∧ jj < nn ∧ nI 0 = nI jj ∧ pz_S 4 (some .boolean) am_r114 3 Q 17 [(0, .ref 0), (1, .int (nI 0)), (2, .int (Int32.ofInt 1))] [am_rf (h.2.2.1 129 jj)] h from ⟨0, 4, Or.inl (ex_129 hP), by decide, rfl, ?_⟩)
  rw [show am_rf (h.2.2.1 129 0) = .ref 130 from congrArg am_rf (ex_r129_0 hP)]
  refine am_goX 3 (show 3 < 4 ∧ (¬ (Int32.ofInt 1) = 0 → pz_S 4 (some .boolean) am_r114 3 Q 40 [(3, .ref 130), (0, .ref 0), (1, .int (nI 0)), (2, .int (Int32.ofInt 1))] [] h) ∧ (¬ ¬ (Int32.ofInt 1) = 0 → pz_S 4 (some .boolean) am_r114 3 Q 22 [(3, .ref 130), (0, .ref 0), (1, .int (nI 0)), (2, .int (Int32.ofInt 1))] [] h) from ⟨by decide, fun _ => ?_, fun hz => absurd (by decide) hz⟩)
  refine am_goX 2 (show am_sh h 130 = some (5, 0) ∧ pz_S 4 (some .boolean) am_r114 3 Q 44 [(3, .ref 130), (0, .ref 0), (1, .int (nI 0)), (2, .int (Int32.ofInt 1))] [.int (h.1 130 0)] h from ⟨ex_130 hP, ?_⟩)
  rw [show h.1 130 0 = Int32.ofInt 1 from ((hM 0 (by decide)).1.trans (by rw [hm1]; rfl))]
  refine am_goX 1 (show (¬ (Int32.ofInt 1) = 0 → pz_S 4 (some .boolean) am_r114 3 Q 49 [(3, .ref 130), (0, .ref 0), (1, .int (nI 0)), (2, .int (Int32.ofInt 1))] [] h) ∧ (¬ ¬ (Int32.ofInt 1) = 0 → pz_S 4 (some .boolean) am_r114 3 Q 47 [(3, .ref 130), (0, .ref 0), (1, .int (nI 0)), (2, .int (Int32.ofInt 1))] [] h) from ⟨fun _ => ?_, fun hz => absurd (by decide) hz⟩)
  refine am_goX 2 (show am_sh h 0 = some (10, 0) ∧ pz_S 4 (some .boolean) am_r114 3 Q 53 [(3, .ref 130), (0, .ref 0), (1, .int (nI 0)), (2, .int (Int32.ofInt 1))] [am_rf (h.2.2.1 0 7)] h from ⟨ex_0 hP, ?_⟩)
  rw [show am_rf (h.2.2.1 0 7) = .ref 36 from congrArg am_rf (ex_r0_7 hP)]
  refine am_goX 2 (show am_sh h 130 = some (5, 0) ∧ pz_S 4 (some .boolean) am_r114 3 Q 57 [(3, .ref 130), (0, .ref 0), (1, .int (nI 0)), (2, .int (Int32.ofInt 1))] [am_rf (h.2.2.1 130 1), .ref 36] h from ⟨ex_130 hP, ?_⟩)
  rw [show am_rf (h.2.2.1 130 1) = .ref 131 from congrArg am_rf (ex_r130_1 hP)]
  refine am_goX 1 (show am_rc h 36 6 ∧ 0 ≤ 8 ∧ h.2.2.2.2 + am_al 99 ≤ 175 ∧ am_call am_cod 3 99 [.ref 36, .ref 131] h (fun vv h' => pz_S 4 (some .boolean) am_r114 3 Q 60 [(3, .ref 130), (0, .ref 0), (1, .int (nI 0)), (2, .int (Int32.ofInt 1))] (vv.toList ++ []) h') from ⟨Or.inl ⟨by decide, ex_36 hP⟩, by decide, ex_lim hP rfl, am_call.up (q_99 stO_36 stO_131 (by decide) hP (fun h110 f111 f112 f113 f114 => ?_)) (by decide)⟩)
  have f115 : sC 36 (M.2.1 0) h110 := sC_cp f114 ((hM 0 (by decide)).2 hm1).1
  have f116 : c_v 6 C h110 := c_v_fr (fun a k u1 u2 => f113 a k (by omega)) hT
  have f117 : c_d 6 C h110 := c_d_fr (fun k => f113 _ k (by omega)) hD
  have f118 : h110.2.2.1 0 3 = some 6 := (congrArg (fun q => q.2.1 0 3) f112).trans hR
  have f119 : hC H h110 := hC_fr (fun a k u1 u2 => f113 a k (by omega)) hH
  have f120 : mC M h110 := mC_fr (fun a k u1 u2 => f113 a k (by omega)) hM
  have f121 : h110.1 0 12 = nI x := (f113 0 12 (by omega)).trans hx
  refine am_goX 3 (show am_sh h110 130 = some (5, 0) ∧ pz_S 4 (some .boolean) am_r114 3 Q 65 [(3, .ref 130), (0, .ref 0), (1, .int (nI 0)), (2, .int (Int32.ofInt 1))] [.int (h110.1 130 2), .ref 0] h110 from ⟨ex_130 f111, ?_⟩)
  rw [show h110.1 130 2 = nI (M.2.2 0) from ((f120 0 (by decide)).2 hm1).2]
  refine am_goX 1 (show am_sh h110 0 = some (10, 0) ∧ narrow (am_fty 10 12) (.int (nI (M.2.2 0))) = .int (nI (M.2.2 0)) ∧ fits (am_fty 10 12) (.int (nI (M.2.2 0))) = true ∧ pz_S 4 (some .boolean) am_r114 3 Q 68 [(3, .ref 130), (0, .ref 0), (1, .int (nI 0)), (2, .int (Int32.ofInt 1))] [] (am_wI h110 0 12 (nI (M.2.2 0))) from ⟨ex_0 f111, rfl, rfl, ?_⟩)
  have f123 : ex_P (am_wI h110 0 12 (nI (M.2.2 0))) := f111
  have f124 : cI C := hI
  have f125 : c_v 6 C (am_wI h110 0 12 (nI (M.2.2 0))) := c_v_w (by omega) f116
  have f126 : c_d 6 C (am_wI h110 0 12 (nI (M.2.2 0))) := c_d_w (by omega) f117
  have f127 : (am_wI h110 0 12 (nI (M.2.2 0))).2.2.1 0 3 = some 6 := f118
  have f128 : sC 36 (M.2.1 0) (am_wI h110 0 12 (nI (M.2.2 0))) := sC_w (by omega) f115
  have f129 : hC H (am_wI h110 0 12 (nI (M.2.2 0))) := hC_w (by omega) f119
  have f130 : mC M (am_wI h110 0 12 (nI (M.2.2 0))) := mC_w (by omega) f120
  have f131 : (am_wI h110 0 12 (nI (M.2.2 0))).1 0 12 = nI (M.2.2 0) := (em_we _ _ _ _).trans (rfl)
  generalize am_wI h110 0 12 (nI (M.2.2 0)) = h122 at f123 f124 f125 f126 f127 f128 f129 f130 f131 ⊢
  refine am_goX 4 (show am_sh h122 130 = some (5, 0) ∧ am_sh h122 0 = some (10, 0) ∧ narrow (am_fty 10 13) (.int (h122.1 130 3)) = .int (h122.1 130 3) ∧ fits (am_fty 10 13) (.int (h122.1 130 3)) = true ∧ pz_S 4 (some .boolean) am_r114 3 Q 76 [(3, .ref 130), (0, .ref 0), (1, .int (nI 0)), (2, .int (Int32.ofInt 1))] [] (am_wI h122 0 13 (h122.1 130 3)) from ⟨ex_130 f123, ex_0 f123, rfl, rfl, ?_⟩)
  have f133 : ex_P (am_wI h122 0 13 (h122.1 130 3)) := f123
  have f134 : cI C := f124
  have f135 : c_v 6 C (am_wI h122 0 13 (h122.1 130 3)) := c_v_w (by omega) f125
  have f136 : c_d 6 C (am_wI h122 0 13 (h122.1 130 3)) := c_d_w (by omega) f126
  have f137 : (am_wI h122 0 13 (h122.1 130 3)).2.2.1 0 3 = some 6 := f127
  have f138 : sC 36 (M.2.1 0) (am_wI h122 0 13 (h122.1 130 3)) := sC_w (by omega) f128
  have f139 : hC H (am_wI h122 0 13 (h122.1 130 3)) := hC_w (by omega) f129
  have f140 : mC M (am_wI h122 0 13 (h122.1 130 3)) := mC_w (by omega) f130
  have f141 : (am_wI h122 0 13 (h122.1 130 3)).1 0 12 = nI (M.2.2 0) := (em_wn _ _ (by omega)).trans f131
  generalize am_wI h122 0 13 (h122.1 130 3) = h132 at f133 f134 f135 f136 f137 f138 f139 f140 f141 ⊢
  refine am_goX 2 (show am_sh h132 0 = some (10, 0) ∧ pz_S 4 (some .boolean) am_r114 3 Q 80 [(3, .ref 130), (0, .ref 0), (1, .int (nI 0)), (2, .int (Int32.ofInt 1))] [am_rf (h132.2.2.1 0 10)] h132 from ⟨ex_0 f133, ?_⟩)
  rw [show am_rf (h132.2.2.1 0 10) = .ref 47 from congrArg am_rf (ex_r0_10 f133)]
  refine am_goX 2 (show am_sh h132 47 = some (2, 0) ∧ narrow (am_fty 2 2) (.int (Int32.ofInt 0)) = .int (Int32.ofInt 0) ∧ fits (am_fty 2 2) (.int (Int32.ofInt 0)) = true ∧ pz_S 4 (some .boolean) am_r114 3 Q 84 [(3, .ref 130), (0, .ref 0), (1, .int (nI 0)), (2, .int (Int32.ofInt 1))] [] (am_wI h132 47 2 (Int32.ofInt 0)) from ⟨ex_47 f133, rfl, rfl, ?_⟩)
  have f143 : ex_P (am_wI h132 47 2 (Int32.ofInt 0)) := f133
  have f144 : cI C := f134
  have f145 : c_v 6 C (am_wI h132 47 2 (Int32.ofInt 0)) := c_v_w (by omega) f135
  have f146 : c_d 6 C (am_wI h132 47 2 (Int32.ofInt 0)) := c_d_w (by omega) f136
  have f147 : (am_wI h132 47 2 (Int32.ofInt 0)).2.2.1 0 3 = some 6 := f137
  have f148 : sC 36 (M.2.1 0) (am_wI h132 47 2 (Int32.ofInt 0)) := sC_w (by omega) f138
  have f149 : hC (0, H.2) (am_wI h132 47 2 (Int32.ofInt 0)) := hC_z f139
  have f150 : mC M (am_wI h132 47 2 (Int32.ofInt 0)) := mC_w (by omega) f140
  have f151 : (am_wI h132 47 2 (Int32.ofInt 0)).1 0 12 = nI (M.2.2 0) := (em_wn _ _ (by omega)).trans f141
  generalize am_wI h132 47 2 (Int32.ofInt 0) = h142 at f143 f144 f145 f146 f147 f148 f149 f150 f151 ⊢
  exact am_goX 2 (show (∃ ty, (some .boolean) = some ty ∧ narrow ty (.int (Int32.ofInt 1)) = .int (Int32.ofInt 1)) ∧ h142.2.2.2.2 = 175 ∧ _ from ⟨⟨.boolean, rfl, rfl⟩, ex_175 f143, hQ _ f143 f144 f145 f146 f147 f148 f149 f150 f151⟩)
def d_114n  : Int32 := Int32.ofInt 0
theorem d_114_nK6_0 (hP : ex_P h) (hI : cI C) (hT : c_v 6 C h) (hD : c_d 6 C h) (hR : h.2.2.1 0 3 = some 6) (hS : sC 36 s h) (hH : hC H h) (hM : mC M h) (hx : h.1 0 12 = nI x) (hm1 : M.1 0 = false) (hQ : ∀ h1, (ex_P h1) → (cI C) → (c_v 6 C h1) → (c_d 6 C h1) → (h1.2.2.1 0 3 = some 6) → (sC 36 s h1) → (hC H h1) → (mC M h1) → (h1.1 0 12 = nI x) → Q (some (.int d_114n)) h1) : am_call am_cod 4 114 [.ref 0, .int (nI 0), .int (Int32.ofInt 1)] h Q := by
  have h6 := hT.1.2.1
  have h5 := hT.2.1.2.1
  refine pz_call (n := 114) (nL := 4) (rt := (some .boolean)) (rows := am_r114) (d := 3) (by decide +kernel) (by decide +kernel) rfl (by funext pc; rfl) (ex_175 hP) (by exact Nat.le_of_ble_eq_true rfl) ?_
  refine am_goX 4 (show 0 ≤ 8 ∧ h.2.2.2.2 + am_al 60 ≤ 175 ∧ am_call am_cod 3 60 [.int (nI 0), .int (Int32.ofInt 0), .int (Int32.ofInt 3)] h (fun vv h' => pz_S 4 (some .boolean) am_r114 3 Q 6 [(0, .ref 0), (1, .int (nI 0)), (2, .int (Int32.ofInt 1))] (vv.toList ++ []) h') from ⟨by decide, ex_lim hP rfl, am_call.up (d_60_w hP ?_) (by decide)⟩)
  rw [show d_60 (nI 0) (Int32.ofInt 0) (Int32.ofInt 3) = Int32.ofInt 1 from (by decide)]
  refine am_goX 1 (show (¬ (Int32.ofInt 1) = 0 → pz_S 4 (some .boolean) am_r114 3 Q 11 [(0, .ref 0), (1, .int (nI 0)), (2, .int (Int32.ofInt 1))] [] h) ∧ (¬ ¬ (Int32.ofInt 1) = 0 → pz_S 4 (some .boolean) am_r114 3 Q 9 [(0, .ref 0), (1, .int (nI 0)), (2, .int (Int32.ofInt 1))] [] h) from ⟨fun _ => ?_, fun hz => absurd (by decide) hz⟩)
  refine am_goX 2 (show am_sh h 0 = some (10, 0) ∧ pz_S 4 (some .boolean) am_r114 3 Q 15 [(0, .ref 0), (1, .int (nI 0)), (2, .int (Int32.ofInt 1))] [am_rf (h.2.2.1 0 11)] h from ⟨ex_0 hP, ?_⟩)
  rw [show am_rf (h.2.2.1 0 11) = .ref 129 from congrArg am_rf (ex_r0_11 hP)]
  refine am_goX 2 (show ∃ jj nn : Nat, (am_sh h 129 = some (16, nn) ∨ am_sh h 129 = some (17, nn)) ∧ jj < nn ∧ nI 0 = nI jj ∧ pz_S 4 (some .boolean) am_r114 3 Q 17 [(0, .ref 0), (1, .int (nI 0)), (2, .int (Int32.ofInt 1))] [am_rf (h.2.2.1 129 jj)] h from ⟨0, 4, Or.inl (ex_129 hP), by decide, rfl, ?_⟩)
  rw [show am_rf (h.2.2.1 129 0) = .ref 130 from congrArg am_rf (ex_r129_0 hP)]
  refine am_goX 3 (show 3 < 4 ∧ (¬ (Int32.ofInt 1) = 0 → pz_S 4 (some .boolean) am_r114 3 Q 40 [(3, .ref 130), (0, .ref 0), (1, .int (nI 0)), (2, .int (Int32.ofInt 1))] [] h) ∧ (¬ ¬ (Int32.ofInt 1) = 0 → pz_S 4 (some .boolean) am_r114 3 Q 22 [(3, .ref 130), (0, .ref 0), (1, .int (nI 0)), (2, .int (Int32.ofInt 1))] [] h) from ⟨by decide, fun _ => ?_, fun hz => absurd (by decide) hz⟩)
  refine am_goX 2 (show am_sh h 130 = some (5, 0) ∧ pz_S 4 (some .boolean) am_r114 3 Q 44 [(3, .ref 130), (0, .ref 0), (1, .int (nI 0)), (2, .int (Int32.ofInt 1))] [.int (h.1 130 0)] h from ⟨ex_130 hP, ?_⟩)
  rw [show h.1 130 0 = Int32.ofInt 0 from ((hM 0 (by decide)).1.trans (by rw [hm1]; rfl))]
  refine am_goX 1 (show (¬ (Int32.ofInt 0) = 0 → pz_S 4 (some .boolean) am_r114 3 Q 49 [(3, .ref 130), (0, .ref 0), (1, .int (nI 0)), (2, .int (Int32.ofInt 1))] [] h) ∧ (¬ ¬ (Int32.ofInt 0) = 0 → pz_S 4 (some .boolean) am_r114 3 Q 47 [(3, .ref 130), (0, .ref 0), (1, .int (nI 0)), (2, .int (Int32.ofInt 1))] [] h) from ⟨fun hz => absurd hz (by decide), fun _ => ?_⟩)
  exact am_goX 2 (show (∃ ty, (some .boolean) = some ty ∧ narrow ty (.int (Int32.ofInt 0)) = .int (Int32.ofInt 0)) ∧ h.2.2.2.2 = 175 ∧ _ from ⟨⟨.boolean, rfl, rfl⟩, ex_175 hP, hQ _ hP hI hT hD hR hS hH hM hx⟩)
def d_114l1_M (s : dS) (H : dH) (M : dMk) (x : Nat) : dMk := (mset M 1 s x)
def d_114l1 (s : dS) (H : dH) (M : dMk) (x : Nat) : Int32 := Int32.ofInt 1
theorem d_114_lK6_1 (hP : ex_P h) (hI : cI C) (hT : c_v 6 C h) (hD : c_d 6 C h) (hR : h.2.2.1 0 3 = some 6) (hS : sC 36 s h) (hH : hC H h) (hM : mC M h) (hx : h.1 0 12 = nI x)  (hQ : ∀ h1, (ex_P h1) → (cI C) → (c_v 6 C h1) → (c_d 6 C h1) → (h1.2.2.1 0 3 = some 6) → (sC 36 s h1) → (hC H h1) → (mC (d_114l1_M s H M x) h1) → (h1.1 0 12 = nI x) → Q (some (.int (d_114l1 s H M x))) h1) : am_call am_cod 4 114 [.ref 0, .int (nI 1), .int (Int32.ofInt 0)] h Q := by
  have h6 := hT.1.2.1
  have h5 := hT.2.1.2.1
  refine pz_call (n := 114) (nL := 4) (rt := (some .boolean)) (rows := am_r114) (d := 3) (by decide +kernel) (by decide +kernel) rfl (by funext pc; rfl) (ex_175 hP) (by exact Nat.le_of_ble_eq_true rfl) ?_
  refine am_goX 4 (show 0 ≤ 8 ∧ h.2.2.2.2 + am_al 60 ≤ 175 ∧ am_call am_cod 3 60 [.int (nI 1), .int (Int32.ofInt 0), .int (Int32.ofInt 3)] h (fun vv h' => pz_S 4 (some .boolean) am_r114 3 Q 6 [(0, .ref 0), (1, .int (nI 1)), (2, .int (Int32.ofInt 0))] (vv.toList ++ []) h') from ⟨by decide, ex_lim hP rfl, am_call.up (d_60_w hP ?_) (by decide)⟩)
  rw [show d_60 (nI 1) (Int32.ofInt 0) (Int32.ofInt 3) = Int32.ofInt 1 from (by decide)]
  refine am_goX 1 (show (¬ (Int32.ofInt 1) = 0 → pz_S 4 (some .boolean) am_r114 3 Q 11 [(0, .ref 0), (1, .int (nI 1)), (2, .int (Int32.ofInt 0))] [] h) ∧ (¬ ¬ (Int32.ofInt 1) = 0 → pz_S 4 (some .boolean) am_r114 3 Q 9 [(0, .ref 0), (1, .int (nI 1)), (2, .int (Int32.ofInt 0))] [] h) from ⟨fun _ => ?_, fun hz => absurd (by decide) hz⟩)
  refine am_goX 2 (show am_sh h 0 = some (10, 0) ∧ pz_S 4 (some .boolean) am_r114 3 Q 15 [(0, .ref 0), (1, .int (nI 1)), (2, .int (Int32.ofInt 0))] [am_rf (h.2.2.1 0 11)] h from ⟨ex_0 hP, ?_⟩)
  rw [show am_rf (h.2.2.1 0 11) = .ref 129 from congrArg am_rf (ex_r0_11 hP)]
  refine am_goX 2 (show ∃ jj nn : Nat, (am_sh h 129 = some (16, nn) ∨ am_sh h 129 = some (17, nn)) ∧ jj < nn ∧ nI 1 = nI jj ∧ pz_S 4 (some .boolean) am_r114 3 Q 17 [(0, .ref 0), (1, .int (nI 1)), (2, .int (Int32.ofInt 0))] [am_rf (h.2.2.1 129 jj)] h from ⟨1, 4, Or.inl (ex_129 hP), by decide, rfl, ?_⟩)
  rw [show am_rf (h.2.2.1 129 1) = .ref 136 from congrArg am_rf (ex_r129_1 hP)]
  refine am_goX 3 (show 3 < 4 ∧ (¬ (Int32.ofInt 0) = 0 → pz_S 4 (some .boolean) am_r114 3 Q 40 [(3, .ref 136), (0, .ref 0), (1, .int (nI 1)), (2, .int (Int32.ofInt 0))] [] h) ∧ (¬ ¬ (Int32.ofInt 0) = 0 → pz_S 4 (some .boolean) am_r114 3 Q 22 [(3, .ref 136), (0, .ref 0), (1, .int (nI 1)), (2, .int (Int32.ofInt 0))] [] h) from ⟨by decide, fun hz => absurd hz (by decide), fun _ => ?_⟩)
  refine am_goX 3 (show am_sh h 0 = some (10, 0) ∧ pz_S 4 (some .boolean) am_r114 3 Q 27 [(3, .ref 136), (0, .ref 0), (1, .int (nI 1)), (2, .int (Int32.ofInt 0))] [am_rf (h.2.2.1 0 7), .ref 136] h from ⟨ex_0 hP, ?_⟩)
  rw [show am_rf (h.2.2.1 0 7) = .ref 36 from congrArg am_rf (ex_r0_7 hP)]
  refine am_goX 2 (show am_sh h 0 = some (10, 0) ∧ pz_S 4 (some .boolean) am_r114 3 Q 31 [(3, .ref 136), (0, .ref 0), (1, .int (nI 1)), (2, .int (Int32.ofInt 0))] [.int (h.1 0 12), .ref 36, .ref 136] h from ⟨ex_0 hP, ?_⟩)
  rw [show h.1 0 12 = nI x from hx]
  refine am_goX 3 (show am_sh h 0 = some (10, 0) ∧ am_rc h 136 5 ∧ 0 ≤ 8 ∧ h.2.2.2.2 + am_al 115 ≤ 175 ∧ am_call am_cod 3 115 [.ref 136, .ref 36, .int (nI x), .int (h.1 0 13)] h (fun vv h' => pz_S 4 (some .boolean) am_r114 3 Q 38 [(3, .ref 136), (0, .ref 0), (1, .int (nI 1)), (2, .int (Int32.ofInt 0))] (vv.toList ++ []) h') from ⟨ex_0 hP, Or.inl ⟨by decide, ex_136 hP⟩, by decide, ex_lim hP rfl, am_call.up (k_115_1 hP (fun h152 f153 f154 f155 f156 f157 => ?_)) (by decide)⟩)
  have f158 : mC (mset M 1 s x) h152 := mC_set (m := 1) (fun a j n1 => f154.2 a j n1) f155 (sC_cp f156 hS) f157 hM
  have f159 : c_v 6 C h152 := c_v_fr (fun a k u1 u2 => f154.2 a k (by omega)) hT
  have f160 : c_d 6 C h152 := c_d_fr (fun k => f154.2 _ k (by omega)) hD
  have f161 : h152.2.2.1 0 3 = some 6 := (congrArg (fun q => q.2.1 0 3) f154.1).trans hR
  have f162 : sC 36 s h152 := sC_fr (fun a k u1 u2 => f154.2 a k (by omega)) hS
  have f163 : hC H h152 := hC_fr (fun a k u1 u2 => f154.2 a k (by omega)) hH
  have f164 : h152.1 0 12 = nI x := (f154.2 0 12 (by omega)).trans hx
  exact am_goX 2 (show (∃ ty, (some .boolean) = some ty ∧ narrow ty (.int (Int32.ofInt 1)) = .int (Int32.ofInt 1)) ∧ h152.2.2.2.2 = 175 ∧ _ from ⟨⟨.boolean, rfl, rfl⟩, ex_175 f153, hQ _ f153 hI f159 f160 f161 f162 f163 f158 f164⟩)
def d_114b1_s (s : dS) (H : dH) (M : dMk) (x : Nat) : dS := (M.2.1 1)
def d_114b1_H (s : dS) (H : dH) (M : dMk) (x : Nat) : dH := (0, H.2)
def d_114b1_x (s : dS) (H : dH) (M : dMk) (x : Nat) : Nat := (M.2.2 1)
def d_114b1 (s : dS) (H : dH) (M : dMk) (x : Nat) : Int32 := Int32.ofInt 1
theorem d_114_bK6_1 (hP : ex_P h) (hI : cI C) (hT : c_v 6 C h) (hD : c_d 6 C h) (hR : h.2.2.1 0 3 = some 6) (hS : sC 36 s h) (hH : hC H h) (hM : mC M h) (hx : h.1 0 12 = nI x) (hm1 : M.1 1 = true) (hQ : ∀ h1, (ex_P h1) → (cI C) → (c_v 6 C h1) → (c_d 6 C h1) → (h1.2.2.1 0 3 = some 6) → (sC 36 (d_114b1_s s H M x) h1) → (hC (d_114b1_H s H M x) h1) → (mC M h1) → (h1.1 0 12 = nI (d_114b1_x s H M x)) → Q (some (.int (d_114b1 s H M x))) h1) : am_call am_cod 4 114 [.ref 0, .int (nI 1), .int (Int32.ofInt 1)] h Q := by
  have h6 := hT.1.2.1
  have h5 := hT.2.1.2.1
  refine pz_call (n := 114) (nL := 4) (rt := (some .boolean)) (rows := am_r114) (d := 3) (by decide +kernel) (by decide +kernel) rfl (by funext pc; rfl) (ex_175 hP) (by exact Nat.le_of_ble_eq_true rfl) ?_
  refine am_goX 4 (show 0 ≤ 8 ∧ h.2.2.2.2 + am_al 60 ≤ 175 ∧ am_call am_cod 3 60 [.int (nI 1), .int (Int32.ofInt 0), .int (Int32.ofInt 3)] h (fun vv h' => pz_S 4 (some .boolean) am_r114 3 Q 6 [(0, .ref 0), (1, .int (nI 1)), (2, .int (Int32.ofInt 1))] (vv.toList ++ []) h') from ⟨by decide, ex_lim hP rfl, am_call.up (d_60_w hP ?_) (by decide)⟩)
  rw [show d_60 (nI 1) (Int32.ofInt 0) (Int32.ofInt 3) = Int32.ofInt 1 from (by decide)]
  refine am_goX 1 (show (¬ (Int32.ofInt 1) = 0 → pz_S 4 (some .boolean) am_r114 3 Q 11 [(0, .ref 0), (1, .int (nI 1)), (2, .int (Int32.ofInt 1))] [] h) ∧ (¬ ¬ (Int32.ofInt 1) = 0 → pz_S 4 (some .boolean) am_r114 3 Q 9 [(0, .ref 0), (1, .int (nI 1)), (2, .int (Int32.ofInt 1))] [] h) from ⟨fun _ => ?_, fun hz => absurd (by decide) hz⟩)
  refine am_goX 2 (show am_sh h 0 = some (10, 0) ∧ pz_S 4 (some .boolean) am_r114 3 Q 15 [(0, .ref 0), (1, .int (nI 1)), (2, .int (Int32.ofInt 1))] [am_rf (h.2.2.1 0 11)] h from ⟨ex_0 hP, ?_⟩)
  rw [show am_rf (h.2.2.1 0 11) = .ref 129 from congrArg am_rf (ex_r0_11 hP)]
  refine am_goX 2 (show ∃ jj nn : Nat, (am_sh h 129 = some (16, nn) ∨ am_sh h 129 = some (17, nn)) ∧ jj < nn ∧ nI 1 = nI jj ∧ pz_S 4 (some .boolean) am_r114 3 Q 17 [(0, .ref 0), (1, .int (nI 1)), (2, .int (Int32.ofInt 1))] [am_rf (h.2.2.1 129 jj)] h from ⟨1, 4, Or.inl (ex_129 hP), by decide, rfl, ?_⟩)
  rw [show am_rf (h.2.2.1 129 1) = .ref 136 from congrArg am_rf (ex_r129_1 hP)]
  refine am_goX 3 (show 3 < 4 ∧ (¬ (Int32.ofInt 1) = 0 → pz_S 4 (some .boolean) am_r114 3 Q 40 [(3, .ref 136), (0, .ref 0), (1, .int (nI 1)), (2, .int (Int32.ofInt 1))] [] h) ∧ (¬ ¬ (Int32.ofInt 1) = 0 → pz_S 4 (some .boolean) am_r114 3 Q 22 [(3, .ref 136), (0, .ref 0), (1, .int (nI 1)), (2, .int (Int32.ofInt 1))] [] h) from ⟨by decide, fun _ => ?_, fun hz => absurd (by decide) hz⟩)
  refine am_goX 2 (show am_sh h 136 = some (5, 0) ∧ pz_S 4 (some .boolean) am_r114 3 Q 44 [(3, .ref 136), (0, .ref 0), (1, .int (nI 1)), (2, .int (Int32.ofInt 1))] [.int (h.1 136 0)] h from ⟨ex_136 hP, ?_⟩)
  rw [show h.1 136 0 = Int32.ofInt 1 from ((hM 1 (by decide)).1.trans (by rw [hm1]; rfl))]
  refine am_goX 1 (show (¬ (Int32.ofInt 1) = 0 → pz_S 4 (some .boolean) am_r114 3 Q 49 [(3, .ref 136), (0, .ref 0), (1, .int (nI 1)), (2, .int (Int32.ofInt 1))] [] h) ∧ (¬ ¬ (Int32.ofInt 1) = 0 → pz_S 4 (some .boolean) am_r114 3 Q 47 [(3, .ref 136), (0, .ref 0), (1, .int (nI 1)), (2, .int (Int32.ofInt 1))] [] h) from ⟨fun _ => ?_, fun hz => absurd (by decide) hz⟩)
  refine am_goX 2 (show am_sh h 0 = some (10, 0) ∧ pz_S 4 (some .boolean) am_r114 3 Q 53 [(3, .ref 136), (0, .ref 0), (1, .int (nI 1)), (2, .int (Int32.ofInt 1))] [am_rf (h.2.2.1 0 7)] h from ⟨ex_0 hP, ?_⟩)
  rw [show am_rf (h.2.2.1 0 7) = .ref 36 from congrArg am_rf (ex_r0_7 hP)]
  refine am_goX 2 (show am_sh h 136 = some (5, 0) ∧ pz_S 4 (some .boolean) am_r114 3 Q 57 [(3, .ref 136), (0, .ref 0), (1, .int (nI 1)), (2, .int (Int32.ofInt 1))] [am_rf (h.2.2.1 136 1), .ref 36] h from ⟨ex_136 hP, ?_⟩)
  rw [show am_rf (h.2.2.1 136 1) = .ref 137 from congrArg am_rf (ex_r136_1 hP)]
  refine am_goX 1 (show am_rc h 36 6 ∧ 0 ≤ 8 ∧ h.2.2.2.2 + am_al 99 ≤ 175 ∧ am_call am_cod 3 99 [.ref 36, .ref 137] h (fun vv h' => pz_S 4 (some .boolean) am_r114 3 Q 60 [(3, .ref 136), (0, .ref 0), (1, .int (nI 1)), (2, .int (Int32.ofInt 1))] (vv.toList ++ []) h') from ⟨Or.inl ⟨by decide, ex_36 hP⟩, by decide, ex_lim hP rfl, am_call.up (q_99 stO_36 stO_137 (by decide) hP (fun h165 f166 f167 f168 f169 => ?_)) (by decide)⟩)
  have f170 : sC 36 (M.2.1 1) h165 := sC_cp f169 ((hM 1 (by decide)).2 hm1).1
  have f171 : c_v 6 C h165 := c_v_fr (fun a k u1 u2 => f168 a k (by omega)) hT
  have f172 : c_d 6 C h165 := c_d_fr (fun k => f168 _ k (by omega)) hD
  have f173 : h165.2.2.1 0 3 = some 6 := (congrArg (fun q => q.2.1 0 3) f167).trans hR
  have f174 : hC H h165 := hC_fr (fun a k u1 u2 => f168 a k (by omega)) hH
  have f175 : mC M h165 := mC_fr (fun a k u1 u2 => f168 a k (by omega)) hM
  have f176 : h165.1 0 12 = nI x := (f168 0 12 (by omega)).trans hx
  refine am_goX 3 (show am_sh h165 136 = some (5, 0) ∧ pz_S 4 (some .boolean) am_r114 3 Q 65 [(3, .ref 136), (0, .ref 0), (1, .int (nI 1)), (2, .int (Int32.ofInt 1))] [.int (h165.1 136 2), .ref 0] h165 from ⟨ex_136 f166, ?_⟩)
  rw [show h165.1 136 2 = nI (M.2.2 1) from ((f175 1 (by decide)).2 hm1).2]
  refine am_goX 1 (show am_sh h165 0 = some (10, 0) ∧ narrow (am_fty 10 12) (.int (nI (M.2.2 1))) = .int (nI (M.2.2 1)) ∧ fits (am_fty 10 12) (.int (nI (M.2.2 1))) = true ∧ pz_S 4 (some .boolean) am_r114 3 Q 68 [(3, .ref 136), (0, .ref 0), (1, .int (nI 1)), (2, .int (Int32.ofInt 1))] [] (am_wI h165 0 12 (nI (M.2.2 1))) from ⟨ex_0 f166, rfl, rfl, ?_⟩)
  have f178 : ex_P (am_wI h165 0 12 (nI (M.2.2 1))) := f166
  have f179 : cI C := hI
  have f180 : c_v 6 C (am_wI h165 0 12 (nI (M.2.2 1))) := c_v_w (by omega) f171
  have f181 : c_d 6 C (am_wI h165 0 12 (nI (M.2.2 1))) := c_d_w (by omega) f172
  have f182 : (am_wI h165 0 12 (nI (M.2.2 1))).2.2.1 0 3 = some 6 := f173
  have f183 : sC 36 (M.2.1 1) (am_wI h165 0 12 (nI (M.2.2 1))) := sC_w (by omega) f170
  have f184 : hC H (am_wI h165 0 12 (nI (M.2.2 1))) := hC_w (by omega) f174
  have f185 : mC M (am_wI h165 0 12 (nI (M.2.2 1))) := mC_w (by omega) f175
  have f186 : (am_wI h165 0 12 (nI (M.2.2 1))).1 0 12 = nI (M.2.2 1) := (em_we _ _ _ _).trans (rfl)
  generalize am_wI h165 0 12 (nI (M.2.2 1)) = h177 at f178 f179 f180 f181 f182 f183 f184 f185 f186 ⊢
  refine am_goX 4 (show am_sh h177 136 = some (5, 0) ∧ am_sh h177 0 = some (10, 0) ∧ narrow (am_fty 10 13) (.int (h177.1 136 3)) = .int (h177.1 136 3) ∧ fits (am_fty 10 13) (.int (h177.1 136 3)) = true ∧ pz_S 4 (some .boolean) am_r114 3 Q 76 [(3, .ref 136), (0, .ref 0), (1, .int (nI 1)), (2, .int (Int32.ofInt 1))] [] (am_wI h177 0 13 (h177.1 136 3)) from ⟨ex_136 f178, ex_0 f178, rfl, rfl, ?_⟩)
  have f188 : ex_P (am_wI h177 0 13 (h177.1 136 3)) := f178
  have f189 : cI C := f179
  have f190 : c_v 6 C (am_wI h177 0 13 (h177.1 136 3)) := c_v_w (by omega) f180
  have f191 : c_d 6 C (am_wI h177 0 13 (h177.1 136 3)) := c_d_w (by omega) f181
  have f192 : (am_wI h177 0 13 (h177.1 136 3)).2.2.1 0 3 = some 6 := f182
  have f193 : sC 36 (M.2.1 1) (am_wI h177 0 13 (h177.1 136 3)) := sC_w (by omega) f183
  have f194 : hC H (am_wI h177 0 13 (h177.1 136 3)) := hC_w (by omega) f184
  have f195 : mC M (am_wI h177 0 13 (h177.1 136 3)) := mC_w (by omega) f185
  have f196 : (am_wI h177 0 13 (h177.1 136 3)).1 0 12 = nI (M.2.2 1) := (em_wn _ _ (by omega)).trans f186
  generalize am_wI h177 0 13 (h177.1 136 3) = h187 at f188 f189 f190 f191 f192 f193 f194 f195 f196 ⊢
  refine am_goX 2 (show am_sh h187 0 = some (10, 0) ∧ pz_S 4 (some .boolean) am_r114 3 Q 80 [(3, .ref 136), (0, .ref 0), (1, .int (nI 1)), (2, .int (Int32.ofInt 1))] [am_rf (h187.2.2.1 0 10)] h187 from ⟨ex_0 f188, ?_⟩)
  rw [show am_rf (h187.2.2.1 0 10) = .ref 47 from congrArg am_rf (ex_r0_10 f188)]
  refine am_goX 2 (show am_sh h187 47 = some (2, 0) ∧ narrow (am_fty 2 2) (.int (Int32.ofInt 0)) = .int (Int32.ofInt 0) ∧ fits (am_fty 2 2) (.int (Int32.ofInt 0)) = true ∧ pz_S 4 (some .boolean) am_r114 3 Q 84 [(3, .ref 136), (0, .ref 0), (1, .int (nI 1)), (2, .int (Int32.ofInt 1))] [] (am_wI h187 47 2 (Int32.ofInt 0)) from ⟨ex_47 f188, rfl, rfl, ?_⟩)
  have f198 : ex_P (am_wI h187 47 2 (Int32.ofInt 0)) := f188
  have f199 : cI C := f189
  have f200 : c_v 6 C (am_wI h187 47 2 (Int32.ofInt 0)) := c_v_w (by omega) f190
  have f201 : c_d 6 C (am_wI h187 47 2 (Int32.ofInt 0)) := c_d_w (by omega) f191
  have f202 : (am_wI h187 47 2 (Int32.ofInt 0)).2.2.1 0 3 = some 6 := f192
  have f203 : sC 36 (M.2.1 1) (am_wI h187 47 2 (Int32.ofInt 0)) := sC_w (by omega) f193
  have f204 : hC (0, H.2) (am_wI h187 47 2 (Int32.ofInt 0)) := hC_z f194
  have f205 : mC M (am_wI h187 47 2 (Int32.ofInt 0)) := mC_w (by omega) f195
  have f206 : (am_wI h187 47 2 (Int32.ofInt 0)).1 0 12 = nI (M.2.2 1) := (em_wn _ _ (by omega)).trans f196
  generalize am_wI h187 47 2 (Int32.ofInt 0) = h197 at f198 f199 f200 f201 f202 f203 f204 f205 f206 ⊢
  exact am_goX 2 (show (∃ ty, (some .boolean) = some ty ∧ narrow ty (.int (Int32.ofInt 1)) = .int (Int32.ofInt 1)) ∧ h197.2.2.2.2 = 175 ∧ _ from ⟨⟨.boolean, rfl, rfl⟩, ex_175 f198, hQ _ f198 f199 f200 f201 f202 f203 f204 f205 f206⟩)
theorem d_114_nK6_1 (hP : ex_P h) (hI : cI C) (hT : c_v 6 C h) (hD : c_d 6 C h) (hR : h.2.2.1 0 3 = some 6) (hS : sC 36 s h) (hH : hC H h) (hM : mC M h) (hx : h.1 0 12 = nI x) (hm1 : M.1 1 = false) (hQ : ∀ h1, (ex_P h1) → (cI C) → (c_v 6 C h1) → (c_d 6 C h1) → (h1.2.2.1 0 3 = some 6) → (sC 36 s h1) → (hC H h1) → (mC M h1) → (h1.1 0 12 = nI x) → Q (some (.int d_114n)) h1) : am_call am_cod 4 114 [.ref 0, .int (nI 1), .int (Int32.ofInt 1)] h Q := by
  have h6 := hT.1.2.1
  have h5 := hT.2.1.2.1
  refine pz_call (n := 114) (nL := 4) (rt := (some .boolean)) (rows := am_r114) (d := 3) (by decide +kernel) (by decide +kernel) rfl (by funext pc; rfl) (ex_175 hP) (by exact Nat.le_of_ble_eq_true rfl) ?_
  refine am_goX 4 (show 0 ≤ 8 ∧ h.2.2.2.2 + am_al 60 ≤ 175 ∧ am_call am_cod 3 60 [.int (nI 1), .int (Int32.ofInt 0), .int (Int32.ofInt 3)] h (fun vv h' => pz_S 4 (some .boolean) am_r114 3 Q 6 [(0, .ref 0), (1, .int (nI 1)), (2, .int (Int32.ofInt 1))] (vv.toList ++ []) h') from ⟨by decide, ex_lim hP rfl, am_call.up (d_60_w hP ?_) (by decide)⟩)
  rw [show d_60 (nI 1) (Int32.ofInt 0) (Int32.ofInt 3) = Int32.ofInt 1 from (by decide)]
  refine am_goX 1 (show (¬ (Int32.ofInt 1) = 0 → pz_S 4 (some .boolean) am_r114 3 Q 11 [(0, .ref 0), (1, .int (nI 1)), (2, .int (Int32.ofInt 1))] [] h) ∧ (¬ ¬ (Int32.ofInt 1) = 0 → pz_S 4 (some .boolean) am_r114 3 Q 9 [(0, .ref 0), (1, .int (nI 1)), (2, .int (Int32.ofInt 1))] [] h) from ⟨fun _ => ?_, fun hz => absurd (by decide) hz⟩)
  refine am_goX 2 (show am_sh h 0 = some (10, 0) ∧ pz_S 4 (some .boolean) am_r114 3 Q 15 [(0, .ref 0), (1, .int (nI 1)), (2, .int (Int32.ofInt 1))] [am_rf (h.2.2.1 0 11)] h from ⟨ex_0 hP, ?_⟩)
  rw [show am_rf (h.2.2.1 0 11) = .ref 129 from congrArg am_rf (ex_r0_11 hP)]
  refine am_goX 2 (show ∃ jj nn : Nat, (am_sh h 129 = some (16, nn) ∨ am_sh h 129 = some (17, nn)) ∧ jj < nn ∧ nI 1 = nI jj ∧ pz_S 4 (some .boolean) am_r114 3 Q 17 [(0, .ref 0), (1, .int (nI 1)), (2, .int (Int32.ofInt 1))] [am_rf (h.2.2.1 129 jj)] h from ⟨1, 4, Or.inl (ex_129 hP), by decide, rfl, ?_⟩)
  rw [show am_rf (h.2.2.1 129 1) = .ref 136 from congrArg am_rf (ex_r129_1 hP)]
  refine am_goX 3 (show 3 < 4 ∧ (¬ (Int32.ofInt 1) = 0 → pz_S 4 (some .boolean) am_r114 3 Q 40 [(3, .ref 136), (0, .ref 0), (1, .int (nI 1)), (2, .int (Int32.ofInt 1))] [] h) ∧ (¬ ¬ (Int32.ofInt 1) = 0 → pz_S 4 (some .boolean) am_r114 3 Q 22 [(3, .ref 136), (0, .ref 0), (1, .int (nI 1)), (2, .int (Int32.ofInt 1))] [] h) from ⟨by decide, fun _ => ?_, fun hz => absurd (by decide) hz⟩)
  refine am_goX 2 (show am_sh h 136 = some (5, 0) ∧ pz_S 4 (some .boolean) am_r114 3 Q 44 [(3, .ref 136), (0, .ref 0), (1, .int (nI 1)), (2, .int (Int32.ofInt 1))] [.int (h.1 136 0)] h from ⟨ex_136 hP, ?_⟩)
  rw [show h.1 136 0 = Int32.ofInt 0 from ((hM 1 (by decide)).1.trans (by rw [hm1]; rfl))]
  refine am_goX 1 (show (¬ (Int32.ofInt 0) = 0 → pz_S 4 (some .boolean) am_r114 3 Q 49 [(3, .ref 136), (0, .ref 0), (1, .int (nI 1)), (2, .int (Int32.ofInt 1))] [] h) ∧ (¬ ¬ (Int32.ofInt 0) = 0 → pz_S 4 (some .boolean) am_r114 3 Q 47 [(3, .ref 136), (0, .ref 0), (1, .int (nI 1)), (2, .int (Int32.ofInt 1))] [] h) from ⟨fun hz => absurd hz (by decide), fun _ => ?_⟩)
  exact am_goX 2 (show (∃ ty, (some .boolean) = some ty ∧ narrow ty (.int (Int32.ofInt 0)) = .int (Int32.ofInt 0)) ∧ h.2.2.2.2 = 175 ∧ _ from ⟨⟨.boolean, rfl, rfl⟩, ex_175 hP, hQ _ hP hI hT hD hR hS hH hM hx⟩)
def d_114l2_M (s : dS) (H : dH) (M : dMk) (x : Nat) : dMk := (mset M 2 s x)
def d_114l2 (s : dS) (H : dH) (M : dMk) (x : Nat) : Int32 := Int32.ofInt 1
theorem d_114_lK6_2 (hP : ex_P h) (hI : cI C) (hT : c_v 6 C h) (hD : c_d 6 C h) (hR : h.2.2.1 0 3 = some 6) (hS : sC 36 s h) (hH : hC H h) (hM : mC M h) (hx : h.1 0 12 = nI x)  (hQ : ∀ h1, (ex_P h1) → (cI C) → (c_v 6 C h1) → (c_d 6 C h1) → (h1.2.2.1 0 3 = some 6) → (sC 36 s h1) → (hC H h1) → (mC (d_114l2_M s H M x) h1) → (h1.1 0 12 = nI x) → Q (some (.int (d_114l2 s H M x))) h1) : am_call am_cod 4 114 [.ref 0, .int (nI 2), .int (Int32.ofInt 0)] h Q := by
  have h6 := hT.1.2.1
  have h5 := hT.2.1.2.1
  refine pz_call (n := 114) (nL := 4) (rt := (some .boolean)) (rows := am_r114) (d := 3) (by decide +kernel) (by decide +kernel) rfl (by funext pc; rfl) (ex_175 hP) (by exact Nat.le_of_ble_eq_true rfl) ?_
  refine am_goX 4 (show 0 ≤ 8 ∧ h.2.2.2.2 + am_al 60 ≤ 175 ∧ am_call am_cod 3 60 [.int (nI 2), .int (Int32.ofInt 0), .int (Int32.ofInt 3)] h (fun vv h' => pz_S 4 (some .boolean) am_r114 3 Q 6 [(0, .ref 0), (1, .int (nI 2)), (2, .int (Int32.ofInt 0))] (vv.toList ++ []) h') from ⟨by decide, ex_lim hP rfl, am_call.up (d_60_w hP ?_) (by decide)⟩)
  rw [show d_60 (nI 2) (Int32.ofInt 0) (Int32.ofInt 3) = Int32.ofInt 1 from (by decide)]
  refine am_goX 1 (show (¬ (Int32.ofInt 1) = 0 → pz_S 4 (some .boolean) am_r114 3 Q 11 [(0, .ref 0), (1, .int (nI 2)), (2, .int (Int32.ofInt 0))] [] h) ∧ (¬ ¬ (Int32.ofInt 1) = 0 → pz_S 4 (some .boolean) am_r114 3 Q 9 [(0, .ref 0), (1, .int (nI 2)), (2, .int (Int32.ofInt 0))] [] h) from ⟨fun _ => ?_, fun hz => absurd (by decide) hz⟩)
  refine am_goX 2 (show am_sh h 0 = some (10, 0) ∧ pz_S 4 (some .boolean) am_r114 3 Q 15 [(0, .ref 0), (1, .int (nI 2)), (2, .int (Int32.ofInt 0))] [am_rf (h.2.2.1 0 11)] h from ⟨ex_0 hP, ?_⟩)
  rw [show am_rf (h.2.2.1 0 11) = .ref 129 from congrArg am_rf (ex_r0_11 hP)]
  refine am_goX 2 (show ∃ jj nn : Nat, (am_sh h 129 = some (16, nn) ∨ am_sh h 129 = some (17, nn)) ∧ jj < nn ∧ nI 2 = nI jj ∧ pz_S 4 (some .boolean) am_r114 3 Q 17 [(0, .ref 0), (1, .int (nI 2)), (2, .int (Int32.ofInt 0))] [am_rf (h.2.2.1 129 jj)] h from ⟨2, 4, Or.inl (ex_129 hP), by decide, rfl, ?_⟩)
  rw [show am_rf (h.2.2.1 129 2) = .ref 142 from congrArg am_rf (ex_r129_2 hP)]
  refine am_goX 3 (show 3 < 4 ∧ (¬ (Int32.ofInt 0) = 0 → pz_S 4 (some .boolean) am_r114 3 Q 40 [(3, .ref 142), (0, .ref 0), (1, .int (nI 2)), (2, .int (Int32.ofInt 0))] [] h) ∧ (¬ ¬ (Int32.ofInt 0) = 0 → pz_S 4 (some .boolean) am_r114 3 Q 22 [(3, .ref 142), (0, .ref 0), (1, .int (nI 2)), (2, .int (Int32.ofInt 0))] [] h) from ⟨by decide, fun hz => absurd hz (by decide), fun _ => ?_⟩)
  refine am_goX 3 (show am_sh h 0 = some (10, 0) ∧ pz_S 4 (some .boolean) am_r114 3 Q 27 [(3, .ref 142), (0, .ref 0), (1, .int (nI 2)), (2, .int (Int32.ofInt 0))] [am_rf (h.2.2.1 0 7), .ref 142] h from ⟨ex_0 hP, ?_⟩)
  rw [show am_rf (h.2.2.1 0 7) = .ref 36 from congrArg am_rf (ex_r0_7 hP)]
  refine am_goX 2 (show am_sh h 0 = some (10, 0) ∧ pz_S 4 (some .boolean) am_r114 3 Q 31 [(3, .ref 142), (0, .ref 0), (1, .int (nI 2)), (2, .int (Int32.ofInt 0))] [.int (h.1 0 12), .ref 36, .ref 142] h from ⟨ex_0 hP, ?_⟩)
  rw [show h.1 0 12 = nI x from hx]
  refine am_goX 3 (show am_sh h 0 = some (10, 0) ∧ am_rc h 142 5 ∧ 0 ≤ 8 ∧ h.2.2.2.2 + am_al 115 ≤ 175 ∧ am_call am_cod 3 115 [.ref 142, .ref 36, .int (nI x), .int (h.1 0 13)] h (fun vv h' => pz_S 4 (some .boolean) am_r114 3 Q 38 [(3, .ref 142), (0, .ref 0), (1, .int (nI 2)), (2, .int (Int32.ofInt 0))] (vv.toList ++ []) h') from ⟨ex_0 hP, Or.inl ⟨by decide, ex_142 hP⟩, by decide, ex_lim hP rfl, am_call.up (k_115_2 hP (fun h207 f208 f209 f210 f211 f212 => ?_)) (by decide)⟩)
  have f213 : mC (mset M 2 s x) h207 := mC_set (m := 2) (fun a j n1 => f209.2 a j n1) f210 (sC_cp f211 hS) f212 hM
  have f214 : c_v 6 C h207 := c_v_fr (fun a k u1 u2 => f209.2 a k (by omega)) hT
  have f215 : c_d 6 C h207 := c_d_fr (fun k => f209.2 _ k (by omega)) hD
  have f216 : h207.2.2.1 0 3 = some 6 := (congrArg (fun q => q.2.1 0 3) f209.1).trans hR
  have f217 : sC 36 s h207 := sC_fr (fun a k u1 u2 => f209.2 a k (by omega)) hS
  have f218 : hC H h207 := hC_fr (fun a k u1 u2 => f209.2 a k (by omega)) hH
  have f219 : h207.1 0 12 = nI x := (f209.2 0 12 (by omega)).trans hx
  exact am_goX 2 (show (∃ ty, (some .boolean) = some ty ∧ narrow ty (.int (Int32.ofInt 1)) = .int (Int32.ofInt 1)) ∧ h207.2.2.2.2 = 175 ∧ _ from ⟨⟨.boolean, rfl, rfl⟩, ex_175 f208, hQ _ f208 hI f214 f215 f216 f217 f218 f213 f219⟩)
def d_114b2_s (s : dS) (H : dH) (M : dMk) (x : Nat) : dS := (M.2.1 2)
def d_114b2_H (s : dS) (H : dH) (M : dMk) (x : Nat) : dH := (0, H.2)
def d_114b2_x (s : dS) (H : dH) (M : dMk) (x : Nat) : Nat := (M.2.2 2)
def d_114b2 (s : dS) (H : dH) (M : dMk) (x : Nat) : Int32 := Int32.ofInt 1
theorem d_114_bK6_2 (hP : ex_P h) (hI : cI C) (hT : c_v 6 C h) (hD : c_d 6 C h) (hR : h.2.2.1 0 3 = some 6) (hS : sC 36 s h) (hH : hC H h) (hM : mC M h) (hx : h.1 0 12 = nI x) (hm1 : M.1 2 = true) (hQ : ∀ h1, (ex_P h1) → (cI C) → (c_v 6 C h1) → (c_d 6 C h1) → (h1.2.2.1 0 3 = some 6) → (sC 36 (d_114b2_s s H M x) h1) → (hC (d_114b2_H s H M x) h1) → (mC M h1) → (h1.1 0 12 = nI (d_114b2_x s H M x)) → Q (some (.int (d_114b2 s H M x))) h1) : am_call am_cod 4 114 [.ref 0, .int (nI 2), .int (Int32.ofInt 1)] h Q := by
  have h6 := hT.1.2.1
  have h5 := hT.2.1.2.1
  refine pz_call (n := 114) (nL := 4) (rt := (some .boolean)) (rows := am_r114) (d := 3) (by decide +kernel) (by decide +kernel) rfl (by funext pc; rfl) (ex_175 hP) (by exact Nat.le_of_ble_eq_true rfl) ?_
  refine am_goX 4 (show 0 ≤ 8 ∧ h.2.2.2.2 + am_al 60 ≤ 175 ∧ am_call am_cod 3 60 [.int (nI 2), .int (Int32.ofInt 0), .int (Int32.ofInt 3)] h (fun vv h' => pz_S 4 (some .boolean) am_r114 3 Q 6 [(0, .ref 0), (1, .int (nI 2)), (2, .int (Int32.ofInt 1))] (vv.toList ++ []) h') from ⟨by decide, ex_lim hP rfl, am_call.up (d_60_w hP ?_) (by decide)⟩)
  rw [show d_60 (nI 2) (Int32.ofInt 0) (Int32.ofInt 3) = Int32.ofInt 1 from (by decide)]
  refine am_goX 1 (show (¬ (Int32.ofInt 1) = 0 → pz_S 4 (some .boolean) am_r114 3 Q 11 [(0, .ref 0), (1, .int (nI 2)), (2, .int (Int32.ofInt 1))] [] h) ∧ (¬ ¬ (Int32.ofInt 1) = 0 → pz_S 4 (some .boolean) am_r114 3 Q 9 [(0, .ref 0), (1, .int (nI 2)), (2, .int (Int32.ofInt 1))] [] h) from ⟨fun _ => ?_, fun hz => absurd (by decide) hz⟩)
  refine am_goX 2 (show am_sh h 0 = some (10, 0) ∧ pz_S 4 (some .boolean) am_r114 3 Q 15 [(0, .ref 0), (1, .int (nI 2)), (2, .int (Int32.ofInt 1))] [am_rf (h.2.2.1 0 11)] h from ⟨ex_0 hP, ?_⟩)
  rw [show am_rf (h.2.2.1 0 11) = .ref 129 from congrArg am_rf (ex_r0_11 hP)]
  refine am_goX 2 (show ∃ jj nn : Nat, (am_sh h 129 = some (16, nn) ∨ am_sh h 129 = some (17, nn)) ∧ jj < nn ∧ nI 2 = nI jj ∧ pz_S 4 (some .boolean) am_r114 3 Q 17 [(0, .ref 0), (1, .int (nI 2)), (2, .int (Int32.ofInt 1))] [am_rf (h.2.2.1 129 jj)] h from ⟨2, 4, Or.inl (ex_129 hP), by decide, rfl, ?_⟩)
  rw [show am_rf (h.2.2.1 129 2) = .ref 142 from congrArg am_rf (ex_r129_2 hP)]
  refine am_goX 3 (show 3 < 4 ∧ (¬ (Int32.ofInt 1) = 0 → pz_S 4 (some .boolean) am_r114 3 Q 40 [(3, .ref 142), (0, .ref 0), (1, .int (nI 2)), (2, .int (Int32.ofInt 1))] [] h) ∧ (¬ ¬ (Int32.ofInt 1) = 0 → pz_S 4 (some .boolean) am_r114 3 Q 22 [(3, .ref 142), (0, .ref 0), (1, .int (nI 2)), (2, .int (Int32.ofInt 1))] [] h) from ⟨by decide, fun _ => ?_, fun hz => absurd (by decide) hz⟩)
  refine am_goX 2 (show am_sh h 142 = some (5, 0) ∧ pz_S 4 (some .boolean) am_r114 3 Q 44 [(3, .ref 142), (0, .ref 0), (1, .int (nI 2)), (2, .int (Int32.ofInt 1))] [.int (h.1 142 0)] h from ⟨ex_142 hP, ?_⟩)
  rw [show h.1 142 0 = Int32.ofInt 1 from ((hM 2 (by decide)).1.trans (by rw [hm1]; rfl))]
  refine am_goX 1 (show (¬ (Int32.ofInt 1) = 0 → pz_S 4 (some .boolean) am_r114 3 Q 49 [(3, .ref 142), (0, .ref 0), (1, .int (nI 2)), (2, .int (Int32.ofInt 1))] [] h) ∧ (¬ ¬ (Int32.ofInt 1) = 0 → pz_S 4 (some .boolean) am_r114 3 Q 47 [(3, .ref 142), (0, .ref 0), (1, .int (nI 2)), (2, .int (Int32.ofInt 1))] [] h) from ⟨fun _ => ?_, fun hz => absurd (by decide) hz⟩)
  refine am_goX 2 (show am_sh h 0 = some (10, 0) ∧ pz_S 4 (some .boolean) am_r114 3 Q 53 [(3, .ref 142), (0, .ref 0), (1, .int (nI 2)), (2, .int (Int32.ofInt 1))] [am_rf (h.2.2.1 0 7)] h from ⟨ex_0 hP, ?_⟩)
  rw [show am_rf (h.2.2.1 0 7) = .ref 36 from congrArg am_rf (ex_r0_7 hP)]
  refine am_goX 2 (show am_sh h 142 = some (5, 0) ∧ pz_S 4 (some .boolean) am_r114 3 Q 57 [(3, .ref 142), (0, .ref 0), (1, .int (nI 2)), (2, .int (Int32.ofInt 1))] [am_rf (h.2.2.1 142 1), .ref 36] h from ⟨ex_142 hP, ?_⟩)
  rw [show am_rf (h.2.2.1 142 1) = .ref 143 from congrArg am_rf (ex_r142_1 hP)]
  refine am_goX 1 (show am_rc h 36 6 ∧ 0 ≤ 8 ∧ h.2.2.2.2 + am_al 99 ≤ 175 ∧ am_call am_cod 3 99 [.ref 36, .ref 143] h (fun vv h' => pz_S 4 (some .boolean) am_r114 3 Q 60 [(3, .ref 142), (0, .ref 0), (1, .int (nI 2)), (2, .int (Int32.ofInt 1))] (vv.toList ++ []) h') from ⟨Or.inl ⟨by decide, ex_36 hP⟩, by decide, ex_lim hP rfl, am_call.up (q_99 stO_36 stO_143 (by decide) hP (fun h220 f221 f222 f223 f224 => ?_)) (by decide)⟩)
  have f225 : sC 36 (M.2.1 2) h220 := sC_cp f224 ((hM 2 (by decide)).2 hm1).1
  have f226 : c_v 6 C h220 := c_v_fr (fun a k u1 u2 => f223 a k (by omega)) hT
  have f227 : c_d 6 C h220 := c_d_fr (fun k => f223 _ k (by omega)) hD
  have f228 : h220.2.2.1 0 3 = some 6 := (congrArg (fun q => q.2.1 0 3) f222).trans hR
  have f229 : hC H h220 := hC_fr (fun a k u1 u2 => f223 a k (by omega)) hH
  have f230 : mC M h220 := mC_fr (fun a k u1 u2 => f223 a k (by omega)) hM
  have f231 : h220.1 0 12 = nI x := (f223 0 12 (by omega)).trans hx
  refine am_goX 3 (show am_sh h220 142 = some (5, 0) ∧ pz_S 4 (some .boolean) am_r114 3 Q 65 [(3, .ref 142), (0, .ref 0), (1, .int (nI 2)), (2, .int (Int32.ofInt 1))] [.int (h220.1 142 2), .ref 0] h220 from ⟨ex_142 f221, ?_⟩)
  rw [show h220.1 142 2 = nI (M.2.2 2) from ((f230 2 (by decide)).2 hm1).2]
  refine am_goX 1 (show am_sh h220 0 = some (10, 0) ∧ narrow (am_fty 10 12) (.int (nI (M.2.2 2))) = .int (nI (M.2.2 2)) ∧ fits (am_fty 10 12) (.int (nI (M.2.2 2))) = true ∧ pz_S 4 (some .boolean) am_r114 3 Q 68 [(3, .ref 142), (0, .ref 0), (1, .int (nI 2)), (2, .int (Int32.ofInt 1))] [] (am_wI h220 0 12 (nI (M.2.2 2))) from ⟨ex_0 f221, rfl, rfl, ?_⟩)
  have f233 : ex_P (am_wI h220 0 12 (nI (M.2.2 2))) := f221
  have f234 : cI C := hI
  have f235 : c_v 6 C (am_wI h220 0 12 (nI (M.2.2 2))) := c_v_w (by omega) f226
  have f236 : c_d 6 C (am_wI h220 0 12 (nI (M.2.2 2))) := c_d_w (by omega) f227
  have f237 : (am_wI h220 0 12 (nI (M.2.2 2))).2.2.1 0 3 = some 6 := f228
  have f238 : sC 36 (M.2.1 2) (am_wI h220 0 12 (nI (M.2.2 2))) := sC_w (by omega) f225
  have f239 : hC H (am_wI h220 0 12 (nI (M.2.2 2))) := hC_w (by omega) f229
  have f240 : mC M (am_wI h220 0 12 (nI (M.2.2 2))) := mC_w (by omega) f230
  have f241 : (am_wI h220 0 12 (nI (M.2.2 2))).1 0 12 = nI (M.2.2 2) := (em_we _ _ _ _).trans (rfl)
  generalize am_wI h220 0 12 (nI (M.2.2 2)) = h232 at f233 f234 f235 f236 f237 f238 f239 f240 f241 ⊢
  refine am_goX 4 (show am_sh h232 142 = some (5, 0) ∧ am_sh h232 0 = some (10, 0) ∧ narrow (am_fty 10 13) (.int (h232.1 142 3)) = .int (h232.1 142 3) ∧ fits (am_fty 10 13) (.int (h232.1 142 3)) = true ∧ pz_S 4 (some .boolean) am_r114 3 Q 76 [(3, .ref 142), (0, .ref 0), (1, .int (nI 2)), (2, .int (Int32.ofInt 1))] [] (am_wI h232 0 13 (h232.1 142 3)) from ⟨ex_142 f233, ex_0 f233, rfl, rfl, ?_⟩)
  have f243 : ex_P (am_wI h232 0 13 (h232.1 142 3)) := f233
  have f244 : cI C := f234
  have f245 : c_v 6 C (am_wI h232 0 13 (h232.1 142 3)) := c_v_w (by omega) f235
  have f246 : c_d 6 C (am_wI h232 0 13 (h232.1 142 3)) := c_d_w (by omega) f236
  have f247 : (am_wI h232 0 13 (h232.1 142 3)).2.2.1 0 3 = some 6 := f237
  have f248 : sC 36 (M.2.1 2) (am_wI h232 0 13 (h232.1 142 3)) := sC_w (by omega) f238
  have f249 : hC H (am_wI h232 0 13 (h232.1 142 3)) := hC_w (by omega) f239
  have f250 : mC M (am_wI h232 0 13 (h232.1 142 3)) := mC_w (by omega) f240
  have f251 : (am_wI h232 0 13 (h232.1 142 3)).1 0 12 = nI (M.2.2 2) := (em_wn _ _ (by omega)).trans f241
  generalize am_wI h232 0 13 (h232.1 142 3) = h242 at f243 f244 f245 f246 f247 f248 f249 f250 f251 ⊢
  refine am_goX 2 (show am_sh h242 0 = some (10, 0) ∧ pz_S 4 (some .boolean) am_r114 3 Q 80 [(3, .ref 142), (0, .ref 0), (1, .int (nI 2)), (2, .int (Int32.ofInt 1))] [am_rf (h242.2.2.1 0 10)] h242 from ⟨ex_0 f243, ?_⟩)
  rw [show am_rf (h242.2.2.1 0 10) = .ref 47 from congrArg am_rf (ex_r0_10 f243)]
  refine am_goX 2 (show am_sh h242 47 = some (2, 0) ∧ narrow (am_fty 2 2) (.int (Int32.ofInt 0)) = .int (Int32.ofInt 0) ∧ fits (am_fty 2 2) (.int (Int32.ofInt 0)) = true ∧ pz_S 4 (some .boolean) am_r114 3 Q 84 [(3, .ref 142), (0, .ref 0), (1, .int (nI 2)), (2, .int (Int32.ofInt 1))] [] (am_wI h242 47 2 (Int32.ofInt 0)) from ⟨ex_47 f243, rfl, rfl, ?_⟩)
  have f253 : ex_P (am_wI h242 47 2 (Int32.ofInt 0)) := f243
  have f254 : cI C := f244
  have f255 : c_v 6 C (am_wI h242 47 2 (Int32.ofInt 0)) := c_v_w (by omega) f245
  have f256 : c_d 6 C (am_wI h242 47 2 (Int32.ofInt 0)) := c_d_w (by omega) f246
  have f257 : (am_wI h242 47 2 (Int32.ofInt 0)).2.2.1 0 3 = some 6 := f247
  have f258 : sC 36 (M.2.1 2) (am_wI h242 47 2 (Int32.ofInt 0)) := sC_w (by omega) f248
  have f259 : hC (0, H.2) (am_wI h242 47 2 (Int32.ofInt 0)) := hC_z f249
  have f260 : mC M (am_wI h242 47 2 (Int32.ofInt 0)) := mC_w (by omega) f250
  have f261 : (am_wI h242 47 2 (Int32.ofInt 0)).1 0 12 = nI (M.2.2 2) := (em_wn _ _ (by omega)).trans f251
  generalize am_wI h242 47 2 (Int32.ofInt 0) = h252 at f253 f254 f255 f256 f257 f258 f259 f260 f261 ⊢
  exact am_goX 2 (show (∃ ty, (some .boolean) = some ty ∧ narrow ty (.int (Int32.ofInt 1)) = .int (Int32.ofInt 1)) ∧ h252.2.2.2.2 = 175 ∧ _ from ⟨⟨.boolean, rfl, rfl⟩, ex_175 f253, hQ _ f253 f254 f255 f256 f257 f258 f259 f260 f261⟩)
theorem d_114_nK6_2 (hP : ex_P h) (hI : cI C) (hT : c_v 6 C h) (hD : c_d 6 C h) (hR : h.2.2.1 0 3 = some 6) (hS : sC 36 s h) (hH : hC H h) (hM : mC M h) (hx : h.1 0 12 = nI x) (hm1 : M.1 2 = false) (hQ : ∀ h1, (ex_P h1) → (cI C) → (c_v 6 C h1) → (c_d 6 C h1) → (h1.2.2.1 0 3 = some 6) → (sC 36 s h1) → (hC H h1) → (mC M h1) → (h1.1 0 12 = nI x) → Q (some (.int d_114n)) h1) : am_call am_cod 4 114 [.ref 0, .int (nI 2), .int (Int32.ofInt 1)] h Q := by
  have h6 := hT.1.2.1
  have h5 := hT.2.1.2.1
  refine pz_call (n := 114) (nL := 4) (rt := (some .boolean)) (rows := am_r114) (d := 3) (by decide +kernel) (by decide +kernel) rfl (by funext pc; rfl) (ex_175 hP) (by exact Nat.le_of_ble_eq_true rfl) ?_
  refine am_goX 4 (show 0 ≤ 8 ∧ h.2.2.2.2 + am_al 60 ≤ 175 ∧ am_call am_cod 3 60 [.int (nI 2), .int (Int32.ofInt 0), .int (Int32.ofInt 3)] h (fun vv h' => pz_S 4 (some .boolean) am_r114 3 Q 6 [(0, .ref 0), (1, .int (nI 2)), (2, .int (Int32.ofInt 1))] (vv.toList ++ []) h') from ⟨by decide, ex_lim hP rfl, am_call.up (d_60_w hP ?_) (by decide)⟩)
  rw [show d_60 (nI 2) (Int32.ofInt 0) (Int32.ofInt 3) = Int32.ofInt 1 from (by decide)]
  refine am_goX 1 (show (¬ (Int32.ofInt 1) = 0 → pz_S 4 (some .boolean) am_r114 3 Q 11 [(0, .ref 0), (1, .int (nI 2)), (2, .int (Int32.ofInt 1))] [] h) ∧ (¬ ¬ (Int32.ofInt 1) = 0 → pz_S 4 (some .boolean) am_r114 3 Q 9 [(0, .ref 0), (1, .int (nI 2)), (2, .int (Int32.ofInt 1))] [] h) from ⟨fun _ => ?_, fun hz => absurd (by decide) hz⟩)
  refine am_goX 2 (show am_sh h 0 = some (10, 0) ∧ pz_S 4 (some .boolean) am_r114 3 Q 15 [(0, .ref 0), (1, .int (nI 2)), (2, .int (Int32.ofInt 1))] [am_rf (h.2.2.1 0 11)] h from ⟨ex_0 hP, ?_⟩)
  rw [show am_rf (h.2.2.1 0 11) = .ref 129 from congrArg am_rf (ex_r0_11 hP)]
  refine am_goX 2 (show ∃ jj nn : Nat, (am_sh h 129 = some (16, nn) ∨ am_sh h 129 = some (17, nn)) ∧ jj < nn ∧ nI 2 = nI jj ∧ pz_S 4 (some .boolean) am_r114 3 Q 17 [(0, .ref 0), (1, .int (nI 2)), (2, .int (Int32.ofInt 1))] [am_rf (h.2.2.1 129 jj)] h from ⟨2, 4, Or.inl (ex_129 hP), by decide, rfl, ?_⟩)
  rw [show am_rf (h.2.2.1 129 2) = .ref 142 from congrArg am_rf (ex_r129_2 hP)]
  refine am_goX 3 (show 3 < 4 ∧ (¬ (Int32.ofInt 1) = 0 → pz_S 4 (some .boolean) am_r114 3 Q 40 [(3, .ref 142), (0, .ref 0), (1, .int (nI 2)), (2, .int (Int32.ofInt 1))] [] h) ∧ (¬ ¬ (Int32.ofInt 1) = 0 → pz_S 4 (some .boolean) am_r114 3 Q 22 [(3, .ref 142), (0, .ref 0), (1, .int (nI 2)), (2, .int (Int32.ofInt 1))] [] h) from ⟨by decide, fun _ => ?_, fun hz => absurd (by decide) hz⟩)
  refine am_goX 2 (show am_sh h 142 = some (5, 0) ∧ pz_S 4 (some .boolean) am_r114 3 Q 44 [(3, .ref 142), (0, .ref 0), (1, .int (nI 2)), (2, .int (Int32.ofInt 1))] [.int (h.1 142 0)] h from ⟨ex_142 hP, ?_⟩)
  rw [show h.1 142 0 = Int32.ofInt 0 from ((hM 2 (by decide)).1.trans (by rw [hm1]; rfl))]
  refine am_goX 1 (show (¬ (Int32.ofInt 0) = 0 → pz_S 4 (some .boolean) am_r114 3 Q 49 [(3, .ref 142), (0, .ref 0), (1, .int (nI 2)), (2, .int (Int32.ofInt 1))] [] h) ∧ (¬ ¬ (Int32.ofInt 0) = 0 → pz_S 4 (some .boolean) am_r114 3 Q 47 [(3, .ref 142), (0, .ref 0), (1, .int (nI 2)), (2, .int (Int32.ofInt 1))] [] h) from ⟨fun hz => absurd hz (by decide), fun _ => ?_⟩)
  exact am_goX 2 (show (∃ ty, (some .boolean) = some ty ∧ narrow ty (.int (Int32.ofInt 0)) = .int (Int32.ofInt 0)) ∧ h.2.2.2.2 = 175 ∧ _ from ⟨⟨.boolean, rfl, rfl⟩, ex_175 hP, hQ _ hP hI hT hD hR hS hH hM hx⟩)
def d_114l3_M (s : dS) (H : dH) (M : dMk) (x : Nat) : dMk := (mset M 3 s x)
def d_114l3 (s : dS) (H : dH) (M : dMk) (x : Nat) : Int32 := Int32.ofInt 1
theorem d_114_lK6_3 (hP : ex_P h) (hI : cI C) (hT : c_v 6 C h) (hD : c_d 6 C h) (hR : h.2.2.1 0 3 = some 6) (hS : sC 36 s h) (hH : hC H h) (hM : mC M h) (hx : h.1 0 12 = nI x)  (hQ : ∀ h1, (ex_P h1) → (cI C) → (c_v 6 C h1) → (c_d 6 C h1) → (h1.2.2.1 0 3 = some 6) → (sC 36 s h1) → (hC H h1) → (mC (d_114l3_M s H M x) h1) → (h1.1 0 12 = nI x) → Q (some (.int (d_114l3 s H M x))) h1) : am_call am_cod 4 114 [.ref 0, .int (nI 3), .int (Int32.ofInt 0)] h Q := by
  have h6 := hT.1.2.1
  have h5 := hT.2.1.2.1
  refine pz_call (n := 114) (nL := 4) (rt := (some .boolean)) (rows := am_r114) (d := 3) (by decide +kernel) (by decide +kernel) rfl (by funext pc; rfl) (ex_175 hP) (by exact Nat.le_of_ble_eq_true rfl) ?_
  refine am_goX 4 (show 0 ≤ 8 ∧ h.2.2.2.2 + am_al 60 ≤ 175 ∧ am_call am_cod 3 60 [.int (nI 3), .int (Int32.ofInt 0), .int (Int32.ofInt 3)] h (fun vv h' => pz_S 4 (some .boolean) am_r114 3 Q 6 [(0, .ref 0), (1, .int (nI 3)), (2, .int (Int32.ofInt 0))] (vv.toList ++ []) h') from ⟨by decide, ex_lim hP rfl, am_call.up (d_60_w hP ?_) (by decide)⟩)
  rw [show d_60 (nI 3) (Int32.ofInt 0) (Int32.ofInt 3) = Int32.ofInt 1 from (by decide)]
  refine am_goX 1 (show (¬ (Int32.ofInt 1) = 0 → pz_S 4 (some .boolean) am_r114 3 Q 11 [(0, .ref 0), (1, .int (nI 3)), (2, .int (Int32.ofInt 0))] [] h) ∧ (¬ ¬ (Int32.ofInt 1) = 0 → pz_S 4 (some .boolean) am_r114 3 Q 9 [(0, .ref 0), (1, .int (nI 3)), (2, .int (Int32.ofInt 0))] [] h) from ⟨fun _ => ?_, fun hz => absurd (by decide) hz⟩)
  refine am_goX 2 (show am_sh h 0 = some (10, 0) ∧ pz_S 4 (some .boolean) am_r114 3 Q 15 [(0, .ref 0), (1, .int (nI 3)), (2, .int (Int32.ofInt 0))] [am_rf (h.2.2.1 0 11)] h from ⟨ex_0 hP, ?_⟩)
  rw [show am_rf (h.2.2.1 0 11) = .ref 129 from congrArg am_rf (ex_r0_11 hP)]
  refine am_goX 2 (show ∃ jj nn : Nat, (am_sh h 129 = some (16, nn) ∨ am_sh h 129 = some (17, nn)) ∧ jj < nn ∧ nI 3 = nI jj ∧ pz_S 4 (some .boolean) am_r114 3 Q 17 [(0, .ref 0), (1, .int (nI 3)), (2, .int (Int32.ofInt 0))] [am_rf (h.2.2.1 129 jj)] h from ⟨3, 4, Or.inl (ex_129 hP), by decide, rfl, ?_⟩)
  rw [show am_rf (h.2.2.1 129 3) = .ref 148 from congrArg am_rf (ex_r129_3 hP)]
  refine am_goX 3 (show 3 < 4 ∧ (¬ (Int32.ofInt 0) = 0 → pz_S 4 (some .boolean) am_r114 3 Q 40 [(3, .ref 148), (0, .ref 0), (1, .int (nI 3)), (2, .int (Int32.ofInt 0))] [] h) ∧ (¬ ¬ (Int32.ofInt 0) = 0 → pz_S 4 (some .boolean) am_r114 3 Q 22 [(3, .ref 148), (0, .ref 0), (1, .int (nI 3)), (2, .int (Int32.ofInt 0))] [] h) from ⟨by decide, fun hz => absurd hz (by decide), fun _ => ?_⟩)
  refine am_goX 3 (show am_sh h 0 = some (10, 0) ∧ pz_S 4 (some .boolean) am_r114 3 Q 27 [(3, .ref 148), (0, .ref 0), (1, .int (nI 3)), (2, .int (Int32.ofInt 0))] [am_rf (h.2.2.1 0 7), .ref 148] h from ⟨ex_0 hP, ?_⟩)
  rw [show am_rf (h.2.2.1 0 7) = .ref 36 from congrArg am_rf (ex_r0_7 hP)]
  refine am_goX 2 (show am_sh h 0 = some (10, 0) ∧ pz_S 4 (some .boolean) am_r114 3 Q 31 [(3, .ref 148), (0, .ref 0), (1, .int (nI 3)), (2, .int (Int32.ofInt 0))] [.int (h.1 0 12), .ref 36, .ref 148] h from ⟨ex_0 hP, ?_⟩)
  rw [show h.1 0 12 = nI x from hx]
  refine am_goX 3 (show am_sh h 0 = some (10, 0) ∧ am_rc h 148 5 ∧ 0 ≤ 8 ∧ h.2.2.2.2 + am_al 115 ≤ 175 ∧ am_call am_cod 3 115 [.ref 148, .ref 36, .int (nI x), .int (h.1 0 13)] h (fun vv h' => pz_S 4 (some .boolean) am_r114 3 Q 38 [(3, .ref 148), (0, .ref 0), (1, .int (nI 3)), (2, .int (Int32.ofInt 0))] (vv.toList ++ []) h') from ⟨ex_0 hP, Or.inl ⟨by decide, ex_148 hP⟩, by decide, ex_lim hP rfl, am_call.up (k_115_3 hP (fun h262 f263 f264 f265 f266 f267 => ?_)) (by decide)⟩)
  have f268 : mC (mset M 3 s x) h262 := mC_set (m := 3) (fun a j n1 => f264.2 a j n1) f265 (sC_cp f266 hS) f267 hM
  have f269 : c_v 6 C h262 := c_v_fr (fun a k u1 u2 => f264.2 a k (by omega)) hT
  have f270 : c_d 6 C h262 := c_d_fr (fun k => f264.2 _ k (by omega)) hD
  have f271 : h262.2.2.1 0 3 = some 6 := (congrArg (fun q => q.2.1 0 3) f264.1).trans hR
  have f272 : sC 36 s h262 := sC_fr (fun a k u1 u2 => f264.2 a k (by omega)) hS
  have f273 : hC H h262 := hC_fr (fun a k u1 u2 => f264.2 a k (by omega)) hH
  have f274 : h262.1 0 12 = nI x := (f264.2 0 12 (by omega)).trans hx
  exact am_goX 2 (show (∃ ty, (some .boolean) = some ty ∧ narrow ty (.int (Int32.ofInt 1)) = .int (Int32.ofInt 1)) ∧ h262.2.2.2.2 = 175 ∧ _ from ⟨⟨.boolean, rfl, rfl⟩, ex_175 f263, hQ _ f263 hI f269 f270 f271 f272 f273 f268 f274⟩)
def d_114b3_s (s : dS) (H : dH) (M : dMk) (x : Nat) : dS := (M.2.1 3)
def d_114b3_H (s : dS) (H : dH) (M : dMk) (x : Nat) : dH := (0, H.2)
def d_114b3_x (s : dS) (H : dH) (M : dMk) (x : Nat) : Nat := (M.2.2 3)
def d_114b3 (s : dS) (H : dH) (M : dMk) (x : Nat) : Int32 := Int32.ofInt 1
theorem d_114_bK6_3 (hP : ex_P h) (hI : cI C) (hT : c_v 6 C h) (hD : c_d 6 C h) (hR : h.2.2.1 0 3 = some 6) (hS : sC 36 s h) (hH : hC H h) (hM : mC M h) (hx : h.1 0 12 = nI x) (hm1 : M.1 3 = true) (hQ : ∀ h1, (ex_P h1) → (cI C) → (c_v 6 C h1) → (c_d 6 C h1) → (h1.2.2.1 0 3 = some 6) → (sC 36 (d_114b3_s s H M x) h1) → (hC (d_114b3_H s H M x) h1) → (mC M h1) → (h1.1 0 12 = nI (d_114b3_x s H M x)) → Q (some (.int (d_114b3 s H M x))) h1) : am_call am_cod 4 114 [.ref 0, .int (nI 3), .int (Int32.ofInt 1)] h Q := by
  have h6 := hT.1.2.1
  have h5 := hT.2.1.2.1
  refine pz_call (n := 114) (nL := 4) (rt := (some .boolean)) (rows := am_r114) (d := 3) (by decide +kernel) (by decide +kernel) rfl (by funext pc; rfl) (ex_175 hP) (by exact Nat.le_of_ble_eq_true rfl) ?_
  refine am_goX 4 (show 0 ≤ 8 ∧ h.2.2.2.2 + am_al 60 ≤ 175 ∧ am_call am_cod 3 60 [.int (nI 3), .int (Int32.ofInt 0), .int (Int32.ofInt 3)] h (fun vv h' => pz_S 4 (some .boolean) am_r114 3 Q 6 [(0, .ref 0), (1, .int (nI 3)), (2, .int (Int32.ofInt 1))] (vv.toList ++ []) h') from ⟨by decide, ex_lim hP rfl, am_call.up (d_60_w hP ?_) (by decide)⟩)
  rw [show d_60 (nI 3) (Int32.ofInt 0) (Int32.ofInt 3) = Int32.ofInt 1 from (by decide)]
  refine am_goX 1 (show (¬ (Int32.ofInt 1) = 0 → pz_S 4 (some .boolean) am_r114 3 Q 11 [(0, .ref 0), (1, .int (nI 3)), (2, .int (Int32.ofInt 1))] [] h) ∧ (¬ ¬ (Int32.ofInt 1) = 0 → pz_S 4 (some .boolean) am_r114 3 Q 9 [(0, .ref 0), (1, .int (nI 3)), (2, .int (Int32.ofInt 1))] [] h) from ⟨fun _ => ?_, fun hz => absurd (by decide) hz⟩)
  refine am_goX 2 (show am_sh h 0 = some (10, 0) ∧ pz_S 4 (some .boolean) am_r114 3 Q 15 [(0, .ref 0), (1, .int (nI 3)), (2, .int (Int32.ofInt 1))] [am_rf (h.2.2.1 0 11)] h from ⟨ex_0 hP, ?_⟩)
  rw [show am_rf (h.2.2.1 0 11) = .ref 129 from congrArg am_rf (ex_r0_11 hP)]
  refine am_goX 2 (show ∃ jj nn : Nat, (am_sh h 129 = some (16, nn) ∨ am_sh h 129 = some (17, nn)) ∧ jj < nn ∧ nI 3 = nI jj ∧ pz_S 4 (some .boolean) am_r114 3 Q 17 [(0, .ref 0), (1, .int (nI 3)), (2, .int (Int32.ofInt 1))] [am_rf (h.2.2.1 129 jj)] h from ⟨3, 4, Or.inl (ex_129 hP), by decide, rfl, ?_⟩)
  rw [show am_rf (h.2.2.1 129 3) = .ref 148 from congrArg am_rf (ex_r129_3 hP)]
  refine am_goX 3 (show 3 < 4 ∧ (¬ (Int32.ofInt 1) = 0 → pz_S 4 (some .boolean) am_r114 3 Q 40 [(3, .ref 148), (0, .ref 0), (1, .int (nI 3)), (2, .int (Int32.ofInt 1))] [] h) ∧ (¬ ¬ (Int32.ofInt 1) = 0 → pz_S 4 (some .boolean) am_r114 3 Q 22 [(3, .ref 148), (0, .ref 0), (1, .int (nI 3)), (2, .int (Int32.ofInt 1))] [] h) from ⟨by decide, fun _ => ?_, fun hz => absurd (by decide) hz⟩)
  refine am_goX 2 (show am_sh h 148 = some (5, 0) ∧ pz_S 4 (some .boolean) am_r114 3 Q 44 [(3, .ref 148), (0, .ref 0), (1, .int (nI 3)), (2, .int (Int32.ofInt 1))] [.int (h.1 148 0)] h from ⟨ex_148 hP, ?_⟩)
  rw [show h.1 148 0 = Int32.ofInt 1 from ((hM 3 (by decide)).1.trans (by rw [hm1]; rfl))]
  refine am_goX 1 (show (¬ (Int32.ofInt 1) = 0 → pz_S 4 (some .boolean) am_r114 3 Q 49 [(3, .ref 148), (0, .ref 0), (1, .int (nI 3)), (2, .int (Int32.ofInt 1))] [] h) ∧ (¬ ¬ (Int32.ofInt 1) = 0 → pz_S 4 (some .boolean) am_r114 3 Q 47 [(3, .ref 148), (0, .ref 0), (1, .int (nI 3)), (2, .int (Int32.ofInt 1))] [] h) from ⟨fun _ => ?_, fun hz => absurd (by decide) hz⟩)
  refine am_goX 2 (show am_sh h 0 = some (10, 0) ∧ pz_S 4 (some .boolean) am_r114 3 Q 53 [(3, .ref 148), (0, .ref 0), (1, .int (nI 3)), (2, .int (Int32.ofInt 1))] [am_rf (h.2.2.1 0 7)] h from ⟨ex_0 hP, ?_⟩)
  rw [show am_rf (h.2.2.1 0 7) = .ref 36 from congrArg am_rf (ex_r0_7 hP)]
  refine am_goX 2 (show am_sh h 148 = some (5, 0) ∧ pz_S 4 (some .boolean) am_r114 3 Q 57 [(3, .ref 148), (0, .ref 0), (1, .int (nI 3)), (2, .int (Int32.ofInt 1))] [am_rf (h.2.2.1 148 1), .ref 36] h from ⟨ex_148 hP, ?_⟩)
  rw [show am_rf (h.2.2.1 148 1) = .ref 149 from congrArg am_rf (ex_r148_1 hP)]
  refine am_goX 1 (show am_rc h 36 6 ∧ 0 ≤ 8 ∧ h.2.2.2.2 + am_al 99 ≤ 175 ∧ am_call am_cod 3 99 [.ref 36, .ref 149] h (fun vv h' => pz_S 4 (some .boolean) am_r114 3 Q 60 [(3, .ref 148), (0, .ref 0), (1, .int (nI 3)), (2, .int (Int32.ofInt 1))] (vv.toList ++ []) h') from ⟨Or.inl ⟨by decide, ex_36 hP⟩, by decide, ex_lim hP rfl, am_call.up (q_99 stO_36 stO_149 (by decide) hP (fun h275 f276 f277 f278 f279 => ?_)) (by decide)⟩)
  have f280 : sC 36 (M.2.1 3) h275 := sC_cp f279 ((hM 3 (by decide)).2 hm1).1
  have f281 : c_v 6 C h275 := c_v_fr (fun a k u1 u2 => f278 a k (by omega)) hT
  have f282 : c_d 6 C h275 := c_d_fr (fun k => f278 _ k (by omega)) hD
  have f283 : h275.2.2.1 0 3 = some 6 := (congrArg (fun q => q.2.1 0 3) f277).trans hR
  have f284 : hC H h275 := hC_fr (fun a k u1 u2 => f278 a k (by omega)) hH
  have f285 : mC M h275 := mC_fr (fun a k u1 u2 => f278 a k (by omega)) hM
  have f286 : h275.1 0 12 = nI x := (f278 0 12 (by omega)).trans hx
  refine am_goX 3 (show am_sh h275 148 = some (5, 0) ∧ pz_S 4 (some .boolean) am_r114 3 Q 65 [(3, .ref 148), (0, .ref 0), (1, .int (nI 3)), (2, .int (Int32.ofInt 1))] [.int (h275.1 148 2), .ref 0] h275 from ⟨ex_148 f276, ?_⟩)
  rw [show h275.1 148 2 = nI (M.2.2 3) from ((f285 3 (by decide)).2 hm1).2]
  refine am_goX 1 (show am_sh h275 0 = some (10, 0) ∧ narrow (am_fty 10 12) (.int (nI (M.2.2 3))) = .int (nI (M.2.2 3)) ∧ fits (am_fty 10 12) (.int (nI (M.2.2 3))) = true ∧ pz_S 4 (some .boolean) am_r114 3 Q 68 [(3, .ref 148), (0, .ref 0), (1, .int (nI 3)), (2, .int (Int32.ofInt 1))] [] (am_wI h275 0 12 (nI (M.2.2 3))) from ⟨ex_0 f276, rfl, rfl, ?_⟩)
  have f288 : ex_P (am_wI h275 0 12 (nI (M.2.2 3))) := f276
  have f289 : cI C := hI
  have f290 : c_v 6 C (am_wI h275 0 12 (nI (M.2.2 3))) := c_v_w (by omega) f281
  have f291 : c_d 6 C (am_wI h275 0 12 (nI (M.2.2 3))) := c_d_w (by omega) f282
  have f292 : (am_wI h275 0 12 (nI (M.2.2 3))).2.2.1 0 3 = some 6 := f283
  have f293 : sC 36 (M.2.1 3) (am_wI h275 0 12 (nI (M.2.2 3))) := sC_w (by omega) f280
  have f294 : hC H (am_wI h275 0 12 (nI (M.2.2 3))) := hC_w (by omega) f284
  have f295 : mC M (am_wI h275 0 12 (nI (M.2.2 3))) := mC_w (by omega) f285
  have f296 : (am_wI h275 0 12 (nI (M.2.2 3))).1 0 12 = nI (M.2.2 3) := (em_we _ _ _ _).trans (rfl)
  generalize am_wI h275 0 12 (nI (M.2.2 3)) = h287 at f288 f289 f290 f291 f292 f293 f294 f295 f296 ⊢
  refine am_goX 4 (show am_sh h287 148 = some (5, 0) ∧ am_sh h287 0 = some (10, 0) ∧ narrow (am_fty 10 13) (.int (h287.1 148 3)) = .int (h287.1 148 3) ∧ fits (am_fty 10 13) (.int (h287.1 148 3)) = true ∧ pz_S 4 (some .boolean) am_r114 3 Q 76 [(3, .ref 148), (0, .ref 0), (1, .int (nI 3)), (2, .int (Int32.ofInt 1))] [] (am_wI h287 0 13 (h287.1 148 3)) from ⟨ex_148 f288, ex_0 f288, rfl, rfl, ?_⟩)
  have f298 : ex_P (am_wI h287 0 13 (h287.1 148 3)) := f288
  have f299 : cI C := f289
  have f300 : c_v 6 C (am_wI h287 0 13 (h287.1 148 3)) := c_v_w (by omega) f290
  have f301 : c_d 6 C (am_wI h287 0 13 (h287.1 148 3)) := c_d_w (by omega) f291
  have f302 : (am_wI h287 0 13 (h287.1 148 3)).2.2.1 0 3 = some 6 := f292
  have f303 : sC 36 (M.2.1 3) (am_wI h287 0 13 (h287.1 148 3)) := sC_w (by omega) f293
  have f304 : hC H (am_wI h287 0 13 (h287.1 148 3)) := hC_w (by omega) f294
  have f305 : mC M (am_wI h287 0 13 (h287.1 148 3)) := mC_w (by omega) f295
  have f306 : (am_wI h287 0 13 (h287.1 148 3)).1 0 12 = nI (M.2.2 3) := (em_wn _ _ (by omega)).trans f296
  generalize am_wI h287 0 13 (h287.1 148 3) = h297 at f298 f299 f300 f301 f302 f303 f304 f305 f306 ⊢
  refine am_goX 2 (show am_sh h297 0 = some (10, 0) ∧ pz_S 4 (some .boolean) am_r114 3 Q 80 [(3, .ref 148), (0, .ref 0), (1, .int (nI 3)), (2, .int (Int32.ofInt 1))] [am_rf (h297.2.2.1 0 10)] h297 from ⟨ex_0 f298, ?_⟩)
  rw [show am_rf (h297.2.2.1 0 10) = .ref 47 from congrArg am_rf (ex_r0_10 f298)]
  refine am_goX 2 (show am_sh h297 47 = some (2, 0) ∧ narrow (am_fty 2 2) (.int (Int32.ofInt 0)) = .int (Int32.ofInt 0) ∧ fits (am_fty 2 2) (.int (Int32.ofInt 0)) = true ∧ pz_S 4 (some .boolean) am_r114 3 Q 84 [(3, .ref 148), (0, .ref 0), (1, .int (nI 3)), (2, .int (Int32.ofInt 1))] [] (am_wI h297 47 2 (Int32.ofInt 0)) from ⟨ex_47 f298, rfl, rfl, ?_⟩)
  have f308 : ex_P (am_wI h297 47 2 (Int32.ofInt 0)) := f298
  have f309 : cI C := f299
  have f310 : c_v 6 C (am_wI h297 47 2 (Int32.ofInt 0)) := c_v_w (by omega) f300
  have f311 : c_d 6 C (am_wI h297 47 2 (Int32.ofInt 0)) := c_d_w (by omega) f301
  have f312 : (am_wI h297 47 2 (Int32.ofInt 0)).2.2.1 0 3 = some 6 := f302
  have f313 : sC 36 (M.2.1 3) (am_wI h297 47 2 (Int32.ofInt 0)) := sC_w (by omega) f303
  have f314 : hC (0, H.2) (am_wI h297 47 2 (Int32.ofInt 0)) := hC_z f304
  have f315 : mC M (am_wI h297 47 2 (Int32.ofInt 0)) := mC_w (by omega) f305
  have f316 : (am_wI h297 47 2 (Int32.ofInt 0)).1 0 12 = nI (M.2.2 3) := (em_wn _ _ (by omega)).trans f306
  generalize am_wI h297 47 2 (Int32.ofInt 0) = h307 at f308 f309 f310 f311 f312 f313 f314 f315 f316 ⊢
  exact am_goX 2 (show (∃ ty, (some .boolean) = some ty ∧ narrow ty (.int (Int32.ofInt 1)) = .int (Int32.ofInt 1)) ∧ h307.2.2.2.2 = 175 ∧ _ from ⟨⟨.boolean, rfl, rfl⟩, ex_175 f308, hQ _ f308 f309 f310 f311 f312 f313 f314 f315 f316⟩)
theorem d_114_nK6_3 (hP : ex_P h) (hI : cI C) (hT : c_v 6 C h) (hD : c_d 6 C h) (hR : h.2.2.1 0 3 = some 6) (hS : sC 36 s h) (hH : hC H h) (hM : mC M h) (hx : h.1 0 12 = nI x) (hm1 : M.1 3 = false) (hQ : ∀ h1, (ex_P h1) → (cI C) → (c_v 6 C h1) → (c_d 6 C h1) → (h1.2.2.1 0 3 = some 6) → (sC 36 s h1) → (hC H h1) → (mC M h1) → (h1.1 0 12 = nI x) → Q (some (.int d_114n)) h1) : am_call am_cod 4 114 [.ref 0, .int (nI 3), .int (Int32.ofInt 1)] h Q := by
  have h6 := hT.1.2.1
  have h5 := hT.2.1.2.1
  refine pz_call (n := 114) (nL := 4) (rt := (some .boolean)) (rows := am_r114) (d := 3) (by decide +kernel) (by decide +kernel) rfl (by funext pc; rfl) (ex_175 hP) (by exact Nat.le_of_ble_eq_true rfl) ?_
  refine am_goX 4 (show 0 ≤ 8 ∧ h.2.2.2.2 + am_al 60 ≤ 175 ∧ am_call am_cod 3 60 [.int (nI 3), .int (Int32.ofInt 0), .int (Int32.ofInt 3)] h (fun vv h' => pz_S 4 (some .boolean) am_r114 3 Q 6 [(0, .ref 0), (1, .int (nI 3)), (2, .int (Int32.ofInt 1))] (vv.toList ++ []) h') from ⟨by decide, ex_lim hP rfl, am_call.up (d_60_w hP ?_) (by decide)⟩)
  rw [show d_60 (nI 3) (Int32.ofInt 0) (Int32.ofInt 3) = Int32.ofInt 1 from (by decide)]
  refine am_goX 1 (show (¬ (Int32.ofInt 1) = 0 → pz_S 4 (some .boolean) am_r114 3 Q 11 [(0, .ref 0), (1, .int (nI 3)), (2, .int (Int32.ofInt 1))] [] h) ∧ (¬ ¬ (Int32.ofInt 1) = 0 → pz_S 4 (some .boolean) am_r114 3 Q 9 [(0, .ref 0), (1, .int (nI 3)), (2, .int (Int32.ofInt 1))] [] h) from ⟨fun _ => ?_, fun hz => absurd (by decide) hz⟩)
  refine am_goX 2 (show am_sh h 0 = some (10, 0) ∧ pz_S 4 (some .boolean) am_r114 3 Q 15 [(0, .ref 0), (1, .int (nI 3)), (2, .int (Int32.ofInt 1))] [am_rf (h.2.2.1 0 11)] h from ⟨ex_0 hP, ?_⟩)
  rw [show am_rf (h.2.2.1 0 11) = .ref 129 from congrArg am_rf (ex_r0_11 hP)]
  refine am_goX 2 (show ∃ jj nn : Nat, (am_sh h 129 = some (16, nn) ∨ am_sh h 129 = some (17, nn)) ∧ jj < nn ∧ nI 3 = nI jj ∧ pz_S 4 (some .boolean) am_r114 3 Q 17 [(0, .ref 0), (1, .int (nI 3)), (2, .int (Int32.ofInt 1))] [am_rf (h.2.2.1 129 jj)] h from ⟨3, 4, Or.inl (ex_129 hP), by decide, rfl, ?_⟩)
  rw [show am_rf (h.2.2.1 129 3) = .ref 148 from congrArg am_rf (ex_r129_3 hP)]
  refine am_goX 3 (show 3 < 4 ∧ (¬ (Int32.ofInt 1) = 0 → pz_S 4 (some .boolean) am_r114 3 Q 40 [(3, .ref 148), (0, .ref 0), (1, .int (nI 3)), (2, .int (Int32.ofInt 1))] [] h) ∧ (¬ ¬ (Int32.ofInt 1) = 0 → pz_S 4 (some .boolean) am_r114 3 Q 22 [(3, .ref 148), (0, .ref 0), (1, .int (nI 3)), (2, .int (Int32.ofInt 1))] [] h) from ⟨by decide, fun _ => ?_, fun hz => absurd (by decide) hz⟩)
  refine am_goX 2 (show am_sh h 148 = some (5, 0) ∧ pz_S 4 (some .boolean) am_r114 3 Q 44 [(3, .ref 148), (0, .ref 0), (1, .int (nI 3)), (2, .int (Int32.ofInt 1))] [.int (h.1 148 0)] h from ⟨ex_148 hP, ?_⟩)
  rw [show h.1 148 0 = Int32.ofInt 0 from ((hM 3 (by decide)).1.trans (by rw [hm1]; rfl))]
  refine am_goX 1 (show (¬ (Int32.ofInt 0) = 0 → pz_S 4 (some .boolean) am_r114 3 Q 49 [(3, .ref 148), (0, .ref 0), (1, .int (nI 3)), (2, .int (Int32.ofInt 1))] [] h) ∧ (¬ ¬ (Int32.ofInt 0) = 0 → pz_S 4 (some .boolean) am_r114 3 Q 47 [(3, .ref 148), (0, .ref 0), (1, .int (nI 3)), (2, .int (Int32.ofInt 1))] [] h) from ⟨fun hz => absurd hz (by decide), fun _ => ?_⟩)
  exact am_goX 2 (show (∃ ty, (some .boolean) = some ty ∧ narrow ty (.int (Int32.ofInt 0)) = .int (Int32.ofInt 0)) ∧ h.2.2.2.2 = 175 ∧ _ from ⟨⟨.boolean, rfl, rfl⟩, ex_175 hP, hQ _ hP hI hT hD hR hS hH hM hx⟩)
theorem d_114_xK6 (hP : ex_P h) (hI : cI C) (hT : c_v 6 C h) (hD : c_d 6 C h) (hR : h.2.2.1 0 3 = some 6) (hS : sC 36 s h) (hH : hC H h) (hM : mC M h) (hx : h.1 0 12 = nI x) (ew : d_60 w (Int32.ofInt 0) (Int32.ofInt 3) = Int32.ofInt 0) (hQ : ∀ h1, (ex_P h1) → (cI C) → (c_v 6 C h1) → (c_d 6 C h1) → (h1.2.2.1 0 3 = some 6) → (sC 36 s h1) → (hC H h1) → (mC M h1) → (h1.1 0 12 = nI x) → Q (some (.int d_114n)) h1) : am_call am_cod 4 114 [.ref 0, .int w, .int b] h Q := by
  have h6 := hT.1.2.1
  have h5 := hT.2.1.2.1
  refine pz_call (n := 114) (nL := 4) (rt := (some .boolean)) (rows := am_r114) (d := 3) (by decide +kernel) (by decide +kernel) rfl (by funext pc; rfl) (ex_175 hP) (by exact Nat.le_of_ble_eq_true rfl) ?_
  refine am_goX 4 (show 0 ≤ 8 ∧ h.2.2.2.2 + am_al 60 ≤ 175 ∧ am_call am_cod 3 60 [.int w, .int (Int32.ofInt 0), .int (Int32.ofInt 3)] h (fun vv h' => pz_S 4 (some .boolean) am_r114 3 Q 6 [(0, .ref 0), (1, .int w), (2, .int b)] (vv.toList ++ []) h') from ⟨by decide, ex_lim hP rfl, am_call.up (d_60_w hP ?_) (by decide)⟩)
  rw [show d_60 w (Int32.ofInt 0) (Int32.ofInt 3) = Int32.ofInt 0 from ew]
  refine am_goX 1 (show (¬ (Int32.ofInt 0) = 0 → pz_S 4 (some .boolean) am_r114 3 Q 11 [(0, .ref 0), (1, .int w), (2, .int b)] [] h) ∧ (¬ ¬ (Int32.ofInt 0) = 0 → pz_S 4 (some .boolean) am_r114 3 Q 9 [(0, .ref 0), (1, .int w), (2, .int b)] [] h) from ⟨fun hz => absurd hz (by decide), fun _ => ?_⟩)
  exact am_goX 2 (show (∃ ty, (some .boolean) = some ty ∧ narrow ty (.int (Int32.ofInt 0)) = .int (Int32.ofInt 0)) ∧ h.2.2.2.2 = 175 ∧ _ from ⟨⟨.boolean, rfl, rfl⟩, ex_175 hP, hQ _ hP hI hT hD hR hS hH hM hx⟩)
theorem d_114_lK17_0 (hP : ex_P h) (hI : cI C) (hT : c_v 17 C h) (hD : c_d 17 C h) (hR : h.2.2.1 0 3 = some 17) (hS : sC 36 s h) (hH : hC H h) (hM : mC M h) (hx : h.1 0 12 = nI x)  (hQ : ∀ h1, (ex_P h1) → (cI C) → (c_v 17 C h1) → (c_d 17 C h1) → (h1.2.2.1 0 3 = some 17) → (sC 36 s h1) → (hC H h1) → (mC (d_114l0_M s H M x) h1) → (h1.1 0 12 = nI x) → Q (some (.int (d_114l0 s H M x))) h1) : am_call am_cod 4 114 [.ref 0, .int (nI 0), .int (Int32.ofInt 0)] h Q := by
  have h6 := hT.1.2.1
  have h5 := hT.2.1.2.1
  refine pz_call (n := 114) (nL := 4) (rt := (some .boolean)) (rows := am_r114) (d := 3) (by decide +kernel) (by decide +kernel) rfl (by funext pc; rfl) (ex_175 hP) (by exact Nat.le_of_ble_eq_true rfl) ?_
  refine am_goX 4 (show 0 ≤ 8 ∧ h.2.2.2.2 + am_al 60 ≤ 175 ∧ am_call am_cod 3 60 [.int (nI 0), .int (Int32.ofInt 0), .int (Int32.ofInt 3)] h (fun vv h' => pz_S 4 (some .boolean) am_r114 3 Q 6 [(0, .ref 0), (1, .int (nI 0)), (2, .int (Int32.ofInt 0))] (vv.toList ++ []) h') from ⟨by decide, ex_lim hP rfl, am_call.up (d_60_w hP ?_) (by decide)⟩)
  rw [show d_60 (nI 0) (Int32.ofInt 0) (Int32.ofInt 3) = Int32.ofInt 1 from (by decide)]
  refine am_goX 1 (show (¬ (Int32.ofInt 1) = 0 → pz_S 4 (some .boolean) am_r114 3 Q 11 [(0, .ref 0), (1, .int (nI 0)), (2, .int (Int32.ofInt 0))] [] h) ∧ (¬ ¬ (Int32.ofInt 1) = 0 → pz_S 4 (some .boolean) am_r114 3 Q 9 [(0, .ref 0), (1, .int (nI 0)), (2, .int (Int32.ofInt 0))] [] h) from ⟨fun _ => ?_, fun hz => absurd (by decide) hz⟩)
  refine am_goX 2 (show am_sh h 0 = some (10, 0) ∧ pz_S 4 (some .boolean) am_r114 3 Q 15 [(0, .ref 0), (1, .int (nI 0)), (2, .int (Int32.ofInt 0))] [am_rf (h.2.2.1 0 11)] h from ⟨ex_0 hP, ?_⟩)
  rw [show am_rf (h.2.2.1 0 11) = .ref 129 from congrArg am_rf (ex_r0_11 hP)]
  refine am_goX 2 (show ∃ jj nn : Nat, (am_sh h 129 = some (16, nn) ∨ am_sh h 129 = some (17, nn)) ∧ jj < nn ∧ nI 0 = nI jj ∧ pz_S 4 (some .boolean) am_r114 3 Q 17 [(0, .ref 0), (1, .int (nI 0)), (2, .int (Int32.ofInt 0))] [am_rf (h.2.2.1 129 jj)] h from ⟨0, 4, Or.inl (ex_129 hP), by decide, rfl, ?_⟩)
  rw [show am_rf (h.2.2.1 129 0) = .ref 130 from congrArg am_rf (ex_r129_0 hP)]
  refine am_goX 3 (show 3 < 4 ∧ (¬ (Int32.ofInt 0) = 0 → pz_S 4 (some .boolean) am_r114 3 Q 40 [(3, .ref 130), (0, .ref 0), (1, .int (nI 0)), (2, .int (Int32.ofInt 0))] [] h) ∧ (¬ ¬ (Int32.ofInt 0) = 0 → pz_S 4 (some .boolean) am_r114 3 Q 22 [(3, .ref 130), (0, .ref 0), (1, .int (nI 0)), (2, .int (Int32.ofInt 0))] [] h) from ⟨by decide, fun hz => absurd hz (by decide), fun _ => ?_⟩)
  refine am_goX 3 (show am_sh h 0 = some (10, 0) ∧ pz_S 4 (some .boolean) am_r114 3 Q 27 [(3, .ref 130), (0, .ref 0), (1, .int (nI 0)), (2, .int (Int32.ofInt 0))] [am_rf (h.2.2.1 0 7), .ref 130] h from ⟨ex_0 hP, ?_⟩)
  rw [show am_rf (h.2.2.1 0 7) = .ref 36 from congrArg am_rf (ex_r0_7 hP)]
  refine am_goX 2 (show am_sh h 0 = some (10, 0) ∧ pz_S 4 (some .boolean) am_r114 3 Q 31 [(3, .ref 130), (0, .ref 0), (1, .int (nI 0)), (2, .int (Int32.ofInt 0))] [.int (h.1 0 12), .ref 36, .ref 130] h from ⟨ex_0 hP, ?_⟩)
  rw [show h.1 0 12 = nI x from hx]
  refine am_goX 3 (show am_sh h 0 = some (10, 0) ∧ am_rc h 130 5 ∧ 0 ≤ 8 ∧ h.2.2.2.2 + am_al 115 ≤ 175 ∧ am_call am_cod 3 115 [.ref 130, .ref 36, .int (nI x), .int (h.1 0 13)] h (fun vv h' => pz_S 4 (some .boolean) am_r114 3 Q 38 [(3, .ref 130), (0, .ref 0), (1, .int (nI 0)), (2, .int (Int32.ofInt 0))] (vv.toList ++ []) h') from ⟨ex_0 hP, Or.inl ⟨by decide, ex_130 hP⟩, by decide, ex_lim hP rfl, am_call.up (k_115_0 hP (fun h317 f318 f319 f320 f321 f322 => ?_)) (by decide)⟩)
  have f323 : mC (mset M 0 s x) h317 := mC_set (m := 0) (fun a j n1 => f319.2 a j n1) f320 (sC_cp f321 hS) f322 hM
  have f324 : c_v 17 C h317 := c_v_fr (fun a k u1 u2 => f319.2 a k (by omega)) hT
  have f325 : c_d 17 C h317 := c_d_fr (fun k => f319.2 _ k (by omega)) hD
  have f326 : h317.2.2.1 0 3 = some 17 := (congrArg (fun q => q.2.1 0 3) f319.1).trans hR
  have f327 : sC 36 s h317 := sC_fr (fun a k u1 u2 => f319.2 a k (by omega)) hS
  have f328 : hC H h317 := hC_fr (fun a k u1 u2 => f319.2 a k (by omega)) hH
  have f329 : h317.1 0 12 = nI x := (f319.2 0 12 (by omega)).trans hx
  exact am_goX 2 (show (∃ ty, (some .boolean) = some ty ∧ narrow ty (.int (Int32.ofInt 1)) = .int (Int32.ofInt 1)) ∧ h317.2.2.2.2 = 175 ∧ _ from ⟨⟨.boolean, rfl, rfl⟩, ex_175 f318, hQ _ f318 hI f324 f325 f326 f327 f328 f323 f329⟩)
theorem d_114_bK17_0 (hP : ex_P h) (hI : cI C) (hT : c_v 17 C h) (hD : c_d 17 C h) (hR : h.2.2.1 0 3 = some 17) (hS : sC 36 s h) (hH : hC H h) (hM : mC M h) (hx : h.1 0 12 = nI x) (hm1 : M.1 0 = true) (hQ : ∀ h1, (ex_P h1) → (cI C) → (c_v 17 C h1) → (c_d 17 C h1) → (h1.2.2.1 0 3 = some 17) → (sC 36 (d_114b0_s s H M x) h1) → (hC (d_114b0_H s H M x) h1) → (mC M h1) → (h1.1 0 12 = nI (d_114b0_x s H M x)) → Q (some (.int (d_114b0 s H M x))) h1) : am_call am_cod 4 114 [.ref 0, .int (nI 0), .int (Int32.ofInt 1)] h Q := by
  have h6 := hT.1.2.1
  have h5 := hT.2.1.2.1
  refine pz_call (n := 114) (nL := 4) (rt := (some .boolean)) (rows := am_r114) (d := 3) (by decide +kernel) (by decide +kernel) rfl (by funext pc; rfl) (ex_175 hP) (by exact Nat.le_of_ble_eq_true rfl) ?_
  refine am_goX 4 (show 0 ≤ 8 ∧ h.2.2.2.2 + am_al 60 ≤ 175 ∧ am_call am_cod 3 60 [.int (nI 0), .int (Int32.ofInt 0), .int (Int32.ofInt 3)] h (fun vv h' => pz_S 4 (some .boolean) am_r114 3 Q 6 [(0, .ref 0), (1, .int (nI 0)), (2, .int (Int32.ofInt 1))] (vv.toList ++ []) h') from ⟨by decide, ex_lim hP rfl, am_call.up (d_60_w hP ?_) (by decide)⟩)
  rw [show d_60 (nI 0) (Int32.ofInt 0) (Int32.ofInt 3) = Int32.ofInt 1 from (by decide)]
  refine am_goX 1 (show (¬ (Int32.ofInt 1) = 0 → pz_S 4 (some .boolean) am_r114 3 Q 11 [(0, .ref 0), (1, .int (nI 0)), (2, .int (Int32.ofInt 1))] [] h) ∧ (¬ ¬ (Int32.ofInt 1) = 0 → pz_S 4 (some .boolean) am_r114 3 Q 9 [(0, .ref 0), (1, .int (nI 0)), (2, .int (Int32.ofInt 1))] [] h) from ⟨fun _ => ?_, fun hz => absurd (by decide) hz⟩)
  refine am_goX 2 (show am_sh h 0 = some (10, 0) ∧ pz_S 4 (some .boolean) am_r114 3 Q 15 [(0, .ref 0), (1, .int (nI 0)), (2, .int (Int32.ofInt 1))] [am_rf (h.2.2.1 0 11)] h from ⟨ex_0 hP, ?_⟩)
  rw [show am_rf (h.2.2.1 0 11) = .ref 129 from congrArg am_rf (ex_r0_11 hP)]
  refine am_goX 2 (show ∃ jj nn : Nat, (am_sh h 129 = some (16, nn) ∨ am_sh h 129 = some (17, nn)) ∧ jj < nn ∧ nI 0 = nI jj ∧ pz_S 4 (some .boolean) am_r114 3 Q 17 [(0, .ref 0), (1, .int (nI 0)), (2, .int (Int32.ofInt 1))] [am_rf (h.2.2.1 129 jj)] h from ⟨0, 4, Or.inl (ex_129 hP), by decide, rfl, ?_⟩)
  rw [show am_rf (h.2.2.1 129 0) = .ref 130 from congrArg am_rf (ex_r129_0 hP)]
  refine am_goX 3 (show 3 < 4 ∧ (¬ (Int32.ofInt 1) = 0 → pz_S 4 (some .boolean) am_r114 3 Q 40 [(3, .ref 130), (0, .ref 0), (1, .int (nI 0)), (2, .int (Int32.ofInt 1))] [] h) ∧ (¬ ¬ (Int32.ofInt 1) = 0 → pz_S 4 (some .boolean) am_r114 3 Q 22 [(3, .ref 130), (0, .ref 0), (1, .int (nI 0)), (2, .int (Int32.ofInt 1))] [] h) from ⟨by decide, fun _ => ?_, fun hz => absurd (by decide) hz⟩)
  refine am_goX 2 (show am_sh h 130 = some (5, 0) ∧ pz_S 4 (some .boolean) am_r114 3 Q 44 [(3, .ref 130), (0, .ref 0), (1, .int (nI 0)), (2, .int (Int32.ofInt 1))] [.int (h.1 130 0)] h from ⟨ex_130 hP, ?_⟩)
  rw [show h.1 130 0 = Int32.ofInt 1 from ((hM 0 (by decide)).1.trans (by rw [hm1]; rfl))]
  refine am_goX 1 (show (¬ (Int32.ofInt 1) = 0 → pz_S 4 (some .boolean) am_r114 3 Q 49 [(3, .ref 130), (0, .ref 0), (1, .int (nI 0)), (2, .int (Int32.ofInt 1))] [] h) ∧ (¬ ¬ (Int32.ofInt 1) = 0 → pz_S 4 (some .boolean) am_r114 3 Q 47 [(3, .ref 130), (0, .ref 0), (1, .int (nI 0)), (2, .int (Int32.ofInt 1))] [] h) from ⟨fun _ => ?_, fun hz => absurd (by decide) hz⟩)
  refine am_goX 2 (show am_sh h 0 = some (10, 0) ∧ pz_S 4 (some .boolean) am_r114 3 Q 53 [(3, .ref 130), (0, .ref 0), (1, .int (nI 0)), (2, .int (Int32.ofInt 1))] [am_rf (h.2.2.1 0 7)] h from ⟨ex_0 hP, ?_⟩)
  rw [show am_rf (h.2.2.1 0 7) = .ref 36 from congrArg am_rf (ex_r0_7 hP)]
  refine am_goX 2 (show am_sh h 130 = some (5, 0) ∧ pz_S 4 (some .boolean) am_r114 3 Q 57 [(3, .ref 130), (0, .ref 0), (1, .int (nI 0)), (2, .int (Int32.ofInt 1))] [am_rf (h.2.2.1 130 1), .ref 36] h from ⟨ex_130 hP, ?_⟩)
  rw [show am_rf (h.2.2.1 130 1) = .ref 131 from congrArg am_rf (ex_r130_1 hP)]
  refine am_goX 1 (show am_rc h 36 6 ∧ 0 ≤ 8 ∧ h.2.2.2.2 + am_al 99 ≤ 175 ∧ am_call am_cod 3 99 [.ref 36, .ref 131] h (fun vv h' => pz_S 4 (some .boolean) am_r114 3 Q 60 [(3, .ref 130), (0, .ref 0), (1, .int (nI 0)), (2, .int (Int32.ofInt 1))] (vv.toList ++ []) h') from ⟨Or.inl ⟨by decide, ex_36 hP⟩, by decide, ex_lim hP rfl, am_call.up (q_99 stO_36 stO_131 (by decide) hP (fun h330 f331 f332 f333 f334 => ?_)) (by decide)⟩)
  have f335 : sC 36 (M.2.1 0) h330 := sC_cp f334 ((hM 0 (by decide)).2 hm1).1
  have f336 : c_v 17 C h330 := c_v_fr (fun a k u1 u2 => f333 a k (by omega)) hT
  have f337 : c_d 17 C h330 := c_d_fr (fun k => f333 _ k (by omega)) hD
  have f338 : h330.2.2.1 0 3 = some 17 := (congrArg (fun q => q.2.1 0 3) f332).trans hR
  have f339 : hC H h330 := hC_fr (fun a k u1 u2 => f333 a k (by omega)) hH
  have f340 : mC M h330 := mC_fr (fun a k u1 u2 => f333 a k (by omega)) hM
  have f341 : h330.1 0 12 = nI x := (f333 0 12 (by omega)).trans hx
  refine am_goX 3 (show am_sh h330 130 = some (5, 0) ∧ pz_S 4 (some .boolean) am_r114 3 Q 65 [(3, .ref 130), (0, .ref 0), (1, .int (nI 0)), (2, .int (Int32.ofInt 1))] [.int (h330.1 130 2), .ref 0] h330 from ⟨ex_130 f331, ?_⟩)
  rw [show h330.1 130 2 = nI (M.2.2 0) from ((f340 0 (by decide)).2 hm1).2]
  refine am_goX 1 (show am_sh h330 0 = some (10, 0) ∧ narrow (am_fty 10 12) (.int (nI (M.2.2 0))) = .int (nI (M.2.2 0)) ∧ fits (am_fty 10 12) (.int (nI (M.2.2 0))) = true ∧ pz_S 4 (some .boolean) am_r114 3 Q 68 [(3, .ref 130), (0, .ref 0), (1, .int (nI 0)), (2, .int (Int32.ofInt 1))] [] (am_wI h330 0 12 (nI (M.2.2 0))) from ⟨ex_0 f331, rfl, rfl, ?_⟩)
  have f343 : ex_P (am_wI h330 0 12 (nI (M.2.2 0))) := f331
  have f344 : cI C := hI
  have f345 : c_v 17 C (am_wI h330 0 12 (nI (M.2.2 0))) := c_v_w (by omega) f336
  have f346 : c_d 17 C (am_wI h330 0 12 (nI (M.2.2 0))) := c_d_w (by omega) f337
  have f347 : (am_wI h330 0 12 (nI (M.2.2 0))).2.2.1 0 3 = some 17 := f338
  have f348 : sC 36 (M.2.1 0) (am_wI h330 0 12 (nI (M.2.2 0))) := sC_w (by omega) f335
  have f349 : hC H (am_wI h330 0 12 (nI (M.2.2 0))) := hC_w (by omega) f339
  have f350 : mC M (am_wI h330 0 12 (nI (M.2.2 0))) := mC_w (by omega) f340
  have f351 : (am_wI h330 0 12 (nI (M.2.2 0))).1 0 12 = nI (M.2.2 0) := (em_we _ _ _ _).trans (rfl)
  generalize am_wI h330 0 12 (nI (M.2.2 0)) = h342 at f343 f344 f345 f346 f347 f348 f349 f350 f351 ⊢
  refine am_goX 4 (show am_sh h342 130 = some (5, 0) ∧ am_sh h342 0 = some (10, 0) ∧ narrow (am_fty 10 13) (.int (h342.1 130 3)) = .int (h342.1 130 3) ∧ fits (am_fty 10 13) (.int (h342.1 130 3)) = true ∧ pz_S 4 (some .boolean) am_r114 3 Q 76 [(3, .ref 130), (0, .ref 0), (1, .int (nI 0)), (2, .int (Int32.ofInt 1))] [] (am_wI h342 0 13 (h342.1 130 3)) from ⟨ex_130 f343, ex_0 f343, rfl, rfl, ?_⟩)
  have f353 : ex_P (am_wI h342 0 13 (h342.1 130 3)) := f343
  have f354 : cI C := f344
  have f355 : c_v 17 C (am_wI h342 0 13 (h342.1 130 3)) := c_v_w (by omega) f345
  have f356 : c_d 17 C (am_wI h342 0 13 (h342.1 130 3)) := c_d_w (by omega) f346
  have f357 : (am_wI h342 0 13 (h342.1 130 3)).2.2.1 0 3 = some 17 := f347
  have f358 : sC 36 (M.2.1 0) (am_wI h342 0 13 (h342.1 130 3)) := sC_w (by omega) f348
  have f359 : hC H (am_wI h342 0 13 (h342.1 130 3)) := hC_w (by omega) f349
  have f360 : mC M (am_wI h342 0 13 (h342.1 130 3)) := mC_w (by omega) f350
  have f361 : (am_wI h342 0 13 (h342.1 130 3)).1 0 12 = nI (M.2.2 0) := (em_wn _ _ (by omega)).trans f351
  generalize am_wI h342 0 13 (h342.1 130 3) = h352 at f353 f354 f355 f356 f357 f358 f359 f360 f361 ⊢
  refine am_goX 2 (show am_sh h352 0 = some (10, 0) ∧ pz_S 4 (some .boolean) am_r114 3 Q 80 [(3, .ref 130), (0, .ref 0), (1, .int (nI 0)), (2, .int (Int32.ofInt 1))] [am_rf (h352.2.2.1 0 10)] h352 from ⟨ex_0 f353, ?_⟩)
  rw [show am_rf (h352.2.2.1 0 10) = .ref 47 from congrArg am_rf (ex_r0_10 f353)]
  refine am_goX 2 (show am_sh h352 47 = some (2, 0) ∧ narrow (am_fty 2 2) (.int (Int32.ofInt 0)) = .int (Int32.ofInt 0) ∧ fits (am_fty 2 2) (.int (Int32.ofInt 0)) = true ∧ pz_S 4 (some .boolean) am_r114 3 Q 84 [(3, .ref 130), (0, .ref 0), (1, .int (nI 0)), (2, .int (Int32.ofInt 1))] [] (am_wI h352 47 2 (Int32.ofInt 0)) from ⟨ex_47 f353, rfl, rfl, ?_⟩)
  have f363 : ex_P (am_wI h352 47 2 (Int32.ofInt 0)) := f353
  have f364 : cI C := f354
  have f365 : c_v 17 C (am_wI h352 47 2 (Int32.ofInt 0)) := c_v_w (by omega) f355
  have f366 : c_d 17 C (am_wI h352 47 2 (Int32.ofInt 0)) := c_d_w (by omega) f356
  have f367 : (am_wI h352 47 2 (Int32.ofInt 0)).2.2.1 0 3 = some 17 := f357
  have f368 : sC 36 (M.2.1 0) (am_wI h352 47 2 (Int32.ofInt 0)) := sC_w (by omega) f358
  have f369 : hC (0, H.2) (am_wI h352 47 2 (Int32.ofInt 0)) := hC_z f359
  have f370 : mC M (am_wI h352 47 2 (Int32.ofInt 0)) := mC_w (by omega) f360
  have f371 : (am_wI h352 47 2 (Int32.ofInt 0)).1 0 12 = nI (M.2.2 0) := (em_wn _ _ (by omega)).trans f361
  generalize am_wI h352 47 2 (Int32.ofInt 0) = h362 at f363 f364 f365 f366 f367 f368 f369 f370 f371 ⊢
  exact am_goX 2 (show (∃ ty, (some .boolean) = some ty ∧ narrow ty (.int (Int32.ofInt 1)) = .int (Int32.ofInt 1)) ∧ h362.2.2.2.2 = 175 ∧ _ from ⟨⟨.boolean, rfl, rfl⟩, ex_175 f363, hQ _ f363 f364 f365 f366 f367 f368 f369 f370 f371⟩)
theorem d_114_nK17_0 (hP : ex_P h) (hI : cI C) (hT : c_v 17 C h) (hD : c_d 17 C h) (hR : h.2.2.1 0 3 = some 17) (hS : sC 36 s h) (hH : hC H h) (hM : mC M h) (hx : h.1 0 12 = nI x) (hm1 : M.1 0 = false) (hQ : ∀ h1, (ex_P h1) → (cI C) → (c_v 17 C h1) → (c_d 17 C h1) → (h1.2.2.1 0 3 = some 17) → (sC 36 s h1) → (hC H h1) → (mC M h1) → (h1.1 0 12 = nI x) → Q (some (.int d_114n)) h1) : am_call am_cod 4 114 [.ref 0, .int (nI 0), .int (Int32.ofInt 1)] h Q := by
  have h6 := hT.1.2.1
  have h5 := hT.2.1.2.1
  refine pz_call (n := 114) (nL := 4) (rt := (some .boolean)) (rows := am_r114) (d := 3) (by decide +kernel) (by decide +kernel) rfl (by funext pc; rfl) (ex_175 hP) (by exact Nat.le_of_ble_eq_true rfl) ?_
  refine am_goX 4 (show 0 ≤ 8 ∧ h.2.2.2.2 + am_al 60 ≤ 175 ∧ am_call am_cod 3 60 [.int (nI 0), .int (Int32.ofInt 0), .int (Int32.ofInt 3)] h (fun vv h' => pz_S 4 (some .boolean) am_r114 3 Q 6 [(0, .ref 0), (1, .int (nI 0)), (2, .int (Int32.ofInt 1))] (vv.toList ++ []) h') from ⟨by decide, ex_lim hP rfl, am_call.up (d_60_w hP ?_) (by decide)⟩)
  rw [show d_60 (nI 0) (Int32.ofInt 0) (Int32.ofInt 3) = Int32.ofInt 1 from (by decide)]
  refine am_goX 1 (show (¬ (Int32.ofInt 1) = 0 → pz_S 4 (some .boolean) am_r114 3 Q 11 [(0, .ref 0), (1, .int (nI 0)), (2, .int (Int32.ofInt 1))] [] h) ∧ (¬ ¬ (Int32.ofInt 1) = 0 → pz_S 4 (some .boolean) am_r114 3 Q 9 [(0, .ref 0), (1, .int (nI 0)), (2, .int (Int32.ofInt 1))] [] h) from ⟨fun _ => ?_, fun hz => absurd (by decide) hz⟩)
  refine am_goX 2 (show am_sh h 0 = some (10, 0) ∧ pz_S 4 (some .boolean) am_r114 3 Q 15 [(0, .ref 0), (1, .int (nI 0)), (2, .int (Int32.ofInt 1))] [am_rf (h.2.2.1 0 11)] h from ⟨ex_0 hP, ?_⟩)
  rw [show am_rf (h.2.2.1 0 11) = .ref 129 from congrArg am_rf (ex_r0_11 hP)]
  refine am_goX 2 (show ∃ jj nn : Nat, (am_sh h 129 = some (16, nn) ∨ am_sh h 129 = some (17, nn)) ∧ jj < nn ∧ nI 0 = nI jj ∧ pz_S 4 (some .boolean) am_r114 3 Q 17 [(0, .ref 0), (1, .int (nI 0)), (2, .int (Int32.ofInt 1))] [am_rf (h.2.2.1 129 jj)] h from ⟨0, 4, Or.inl (ex_129 hP), by decide, rfl, ?_⟩)
  rw [show am_rf (h.2.2.1 129 0) = .ref 130 from congrArg am_rf (ex_r129_0 hP)]
  refine am_goX 3 (show 3 < 4 ∧ (¬ (Int32.ofInt 1) = 0 → pz_S 4 (some .boolean) am_r114 3 Q 40 [(3, .ref 130), (0, .ref 0), (1, .int (nI 0)), (2, .int (Int32.ofInt 1))] [] h) ∧ (¬ ¬ (Int32.ofInt 1) = 0 → pz_S 4 (some .boolean) am_r114 3 Q 22 [(3, .ref 130), (0, .ref 0), (1, .int (nI 0)), (2, .int (Int32.ofInt 1))] [] h) from ⟨by decide, fun _ => ?_, fun hz => absurd (by decide) hz⟩)
  refine am_goX 2 (show am_sh h 130 = some (5, 0) ∧ pz_S 4 (some .boolean) am_r114 3 Q 44 [(3, .ref 130), (0, .ref 0), (1, .int (nI 0)), (2, .int (Int32.ofInt 1))] [.int (h.1 130 0)] h from ⟨ex_130 hP, ?_⟩)
  rw [show h.1 130 0 = Int32.ofInt 0 from ((hM 0 (by decide)).1.trans (by rw [hm1]; rfl))]
  refine am_goX 1 (show (¬ (Int32.ofInt 0) = 0 → pz_S 4 (some .boolean) am_r114 3 Q 49 [(3, .ref 130), (0, .ref 0), (1, .int (nI 0)), (2, .int (Int32.ofInt 1))] [] h) ∧ (¬ ¬ (Int32.ofInt 0) = 0 → pz_S 4 (some .boolean) am_r114 3 Q 47 [(3, .ref 130), (0, .ref 0), (1, .int (nI 0)), (2, .int (Int32.ofInt 1))] [] h) from ⟨fun hz => absurd hz (by decide), fun _ => ?_⟩)
  exact am_goX 2 (show (∃ ty, (some .boolean) = some ty ∧ narrow ty (.int (Int32.ofInt 0)) = .int (Int32.ofInt 0)) ∧ h.2.2.2.2 = 175 ∧ _ from ⟨⟨.boolean, rfl, rfl⟩, ex_175 hP, hQ _ hP hI hT hD hR hS hH hM hx⟩)
theorem d_114_lK17_1 (hP : ex_P h) (hI : cI C) (hT : c_v 17 C h) (hD : c_d 17 C h) (hR : h.2.2.1 0 3 = some 17) (hS : sC 36 s h) (hH : hC H h) (hM : mC M h) (hx : h.1 0 12 = nI x)  (hQ : ∀ h1, (ex_P h1) → (cI C) → (c_v 17 C h1) → (c_d 17 C h1) → (h1.2.2.1 0 3 = some 17) → (sC 36 s h1) → (hC H h1) → (mC (d_114l1_M s H M x) h1) → (h1.1 0 12 = nI x) → Q (some (.int (d_114l1 s H M x))) h1) : am_call am_cod 4 114 [.ref 0, .int (nI 1), .int (Int32.ofInt 0)] h Q := by
  have h6 := hT.1.2.1
  have h5 := hT.2.1.2.1
  refine pz_call (n := 114) (nL := 4) (rt := (some .boolean)) (rows := am_r114) (d := 3) (by decide +kernel) (by decide +kernel) rfl (by funext pc; rfl) (ex_175 hP) (by exact Nat.le_of_ble_eq_true rfl) ?_
  refine am_goX 4 (show 0 ≤ 8 ∧ h.2.2.2.2 + am_al 60 ≤ 175 ∧ am_call am_cod 3 60 [.int (nI 1), .int (Int32.ofInt 0), .int (Int32.ofInt 3)] h (fun vv h' => pz_S 4 (some .boolean) am_r114 3 Q 6 [(0, .ref 0), (1, .int (nI 1)), (2, .int (Int32.ofInt 0))] (vv.toList ++ []) h') from ⟨by decide, ex_lim hP rfl, am_call.up (d_60_w hP ?_) (by decide)⟩)
  rw [show d_60 (nI 1) (Int32.ofInt 0) (Int32.ofInt 3) = Int32.ofInt 1 from (by decide)]
  refine am_goX 1 (show (¬ (Int32.ofInt 1) = 0 → pz_S 4 (some .boolean) am_r114 3 Q 11 [(0, .ref 0), (1, .int (nI 1)), (2, .int (Int32.ofInt 0))] [] h) ∧ (¬ ¬ (Int32.ofInt 1) = 0 → pz_S 4 (some .boolean) am_r114 3 Q 9 [(0, .ref 0), (1, .int (nI 1)), (2, .int (Int32.ofInt 0))] [] h) from ⟨fun _ => ?_, fun hz => absurd (by decide) hz⟩)
  refine am_goX 2 (show am_sh h 0 = some (10, 0) ∧ pz_S 4 (some .boolean) am_r114 3 Q 15 [(0, .ref 0), (1, .int (nI 1)), (2, .int (Int32.ofInt 0))] [am_rf (h.2.2.1 0 11)] h from ⟨ex_0 hP, ?_⟩)
  rw [show am_rf (h.2.2.1 0 11) = .ref 129 from congrArg am_rf (ex_r0_11 hP)]
  refine am_goX 2 (show ∃ jj nn : Nat, (am_sh h 129 = some (16, nn) ∨ am_sh h 129 = some (17, nn)) ∧ jj < nn ∧ nI 1 = nI jj ∧ pz_S 4 (some .boolean) am_r114 3 Q 17 [(0, .ref 0), (1, .int (nI 1)), (2, .int (Int32.ofInt 0))] [am_rf (h.2.2.1 129 jj)] h from ⟨1, 4, Or.inl (ex_129 hP), by decide, rfl, ?_⟩)
  rw [show am_rf (h.2.2.1 129 1) = .ref 136 from congrArg am_rf (ex_r129_1 hP)]
  refine am_goX 3 (show 3 < 4 ∧ (¬ (Int32.ofInt 0) = 0 → pz_S 4 (some .boolean) am_r114 3 Q 40 [(3, .ref 136), (0, .ref 0), (1, .int (nI 1)), (2, .int (Int32.ofInt 0))] [] h) ∧ (¬ ¬ (Int32.ofInt 0) = 0 → pz_S 4 (some .boolean) am_r114 3 Q 22 [(3, .ref 136), (0, .ref 0), (1, .int (nI 1)), (2, .int (Int32.ofInt 0))] [] h) from ⟨by decide, fun hz => absurd hz (by decide), fun _ => ?_⟩)
  refine am_goX 3 (show am_sh h 0 = some (10, 0) ∧ pz_S 4 (some .boolean) am_r114 3 Q 27 [(3, .ref 136), (0, .ref 0), (1, .int (nI 1)), (2, .int (Int32.ofInt 0))] [am_rf (h.2.2.1 0 7), .ref 136] h from ⟨ex_0 hP, ?_⟩)
  rw [show am_rf (h.2.2.1 0 7) = .ref 36 from congrArg am_rf (ex_r0_7 hP)]
  refine am_goX 2 (show am_sh h 0 = some (10, 0) ∧ pz_S 4 (some .boolean) am_r114 3 Q 31 [(3, .ref 136), (0, .ref 0), (1, .int (nI 1)), (2, .int (Int32.ofInt 0))] [.int (h.1 0 12), .ref 36, .ref 136] h from ⟨ex_0 hP, ?_⟩)
  rw [show h.1 0 12 = nI x from hx]
  refine am_goX 3 (show am_sh h 0 = some (10, 0) ∧ am_rc h 136 5 ∧ 0 ≤ 8 ∧ h.2.2.2.2 + am_al 115 ≤ 175 ∧ am_call am_cod 3 115 [.ref 136, .ref 36, .int (nI x), .int (h.1 0 13)] h (fun vv h' => pz_S 4 (some .boolean) am_r114 3 Q 38 [(3, .ref 136), (0, .ref 0), (1, .int (nI 1)), (2, .int (Int32.ofInt 0))] (vv.toList ++ []) h') from ⟨ex_0 hP, Or.inl ⟨by decide, ex_136 hP⟩, by decide, ex_lim hP rfl, am_call.up (k_115_1 hP (fun h372 f373 f374 f375 f376 f377 => ?_)) (by decide)⟩)
  have f378 : mC (mset M 1 s x) h372 := mC_set (m := 1) (fun a j n1 => f374.2 a j n1) f375 (sC_cp f376 hS) f377 hM
  have f379 : c_v 17 C h372 := c_v_fr (fun a k u1 u2 => f374.2 a k (by omega)) hT
  have f380 : c_d 17 C h372 := c_d_fr (fun k => f374.2 _ k (by omega)) hD
  have f381 : h372.2.2.1 0 3 = some 17 := (congrArg (fun q => q.2.1 0 3) f374.1).trans hR
  have f382 : sC 36 s h372 := sC_fr (fun a k u1 u2 => f374.2 a k (by omega)) hS
  have f383 : hC H h372 := hC_fr (fun a k u1 u2 => f374.2 a k (by omega)) hH
  have f384 : h372.1 0 12 = nI x := (f374.2 0 12 (by omega)).trans hx
  exact am_goX 2 (show (∃ ty, (some .boolean) = some ty ∧ narrow ty (.int (Int32.ofInt 1)) = .int (Int32.ofInt 1)) ∧ h372.2.2.2.2 = 175 ∧ _ from ⟨⟨.boolean, rfl, rfl⟩, ex_175 f373, hQ _ f373 hI f379 f380 f381 f382 f383 f378 f384⟩)
theorem d_114_bK17_1 (hP : ex_P h) (hI : cI C) (hT : c_v 17 C h) (hD : c_d 17 C h) (hR : h.2.2.1 0 3 = some 17) (hS : sC 36 s h) (hH : hC H h) (hM : mC M h) (hx : h.1 0 12 = nI x) (hm1 : M.1 1 = true) (hQ : ∀ h1, (ex_P h1) → (cI C) → (c_v 17 C h1) → (c_d 17 C h1) → (h1.2.2.1 0 3 = some 17) → (sC 36 (d_114b1_s s H M x) h1) → (hC (d_114b1_H s H M x) h1) → (mC M h1) → (h1.1 0 12 = nI (d_114b1_x s H M x)) → Q (some (.int (d_114b1 s H M x))) h1) : am_call am_cod 4 114 [.ref 0, .int (nI 1), .int (Int32.ofInt 1)] h Q := by
  have h6 := hT.1.2.1
  have h5 := hT.2.1.2.1
  refine pz_call (n := 114) (nL := 4) (rt := (some .boolean)) (rows := am_r114) (d := 3) (by decide +kernel) (by decide +kernel) rfl (by funext pc; rfl) (ex_175 hP) (by exact Nat.le_of_ble_eq_true rfl) ?_
  refine am_goX 4 (show 0 ≤ 8 ∧ h.2.2.2.2 + am_al 60 ≤ 175 ∧ am_call am_cod 3 60 [.int (nI 1), .int (Int32.ofInt 0), .int (Int32.ofInt 3)] h (fun vv h' => pz_S 4 (some .boolean) am_r114 3 Q 6 [(0, .ref 0), (1, .int (nI 1)), (2, .int (Int32.ofInt 1))] (vv.toList ++ []) h') from ⟨by decide, ex_lim hP rfl, am_call.up (d_60_w hP ?_) (by decide)⟩)
  rw [show d_60 (nI 1) (Int32.ofInt 0) (Int32.ofInt 3) = Int32.ofInt 1 from (by decide)]
  refine am_goX 1 (show (¬ (Int32.ofInt 1) = 0 → pz_S 4 (some .boolean) am_r114 3 Q 11 [(0, .ref 0), (1, .int (nI 1)), (2, .int (Int32.ofInt 1))] [] h) ∧ (¬ ¬ (Int32.ofInt 1) = 0 → pz_S 4 (some .boolean) am_r114 3 Q 9 [(0, .ref 0), (1, .int (nI 1)), (2, .int (Int32.ofInt 1))] [] h) from ⟨fun _ => ?_, fun hz => absurd (by decide) hz⟩)
  refine am_goX 2 (show am_sh h 0 = some (10, 0) ∧ pz_S 4 (some .boolean) am_r114 3 Q 15 [(0, .ref 0), (1, .int (nI 1)), (2, .int (Int32.ofInt 1))] [am_rf (h.2.2.1 0 11)] h from ⟨ex_0 hP, ?_⟩)
  rw [show am_rf (h.2.2.1 0 11) = .ref 129 from congrArg am_rf (ex_r0_11 hP)]
  refine am_goX 2 (show ∃ jj nn : Nat, (am_sh h 129 = some (16, nn) ∨ am_sh h 129 = some (17, nn)) ∧ jj < nn ∧ nI 1 = nI jj ∧ pz_S 4 (some .boolean) am_r114 3 Q 17 [(0, .ref 0), (1, .int (nI 1)), (2, .int (Int32.ofInt 1))] [am_rf (h.2.2.1 129 jj)] h from ⟨1, 4, Or.inl (ex_129 hP), by decide, rfl, ?_⟩)
  rw [show am_rf (h.2.2.1 129 1) = .ref 136 from congrArg am_rf (ex_r129_1 hP)]
  refine am_goX 3 (show 3 < 4 ∧ (¬ (Int32.ofInt 1) = 0 → pz_S 4 (some .boolean) am_r114 3 Q 40 [(3, .ref 136), (0, .ref 0), (1, .int (nI 1)), (2, .int (Int32.ofInt 1))] [] h) ∧ (¬ ¬ (Int32.ofInt 1) = 0 → pz_S 4 (some .boolean) am_r114 3 Q 22 [(3, .ref 136), (0, .ref 0), (1, .int (nI 1)), (2, .int (Int32.ofInt 1))] [] h) from ⟨by decide, fun _ => ?_, fun hz => absurd (by decide) hz⟩)
  refine am_goX 2 (show am_sh h 136 = some (5, 0) ∧ pz_S 4 (some .boolean) am_r114 3 Q 44 [(3, .ref 136), (0, .ref 0), (1, .int (nI 1)), (2, .int (Int32.ofInt 1))] [.int (h.1 136 0)] h from ⟨ex_136 hP, ?_⟩)
  rw [show h.1 136 0 = Int32.ofInt 1 from ((hM 1 (by decide)).1.trans (by rw [hm1]; rfl))]
  refine am_goX 1 (show (¬ (Int32.ofInt 1) = 0 → pz_S 4 (some .boolean) am_r114 3 Q 49 [(3, .ref 136), (0, .ref 0), (1, .int (nI 1)), (2, .int (Int32.ofInt 1))] [] h) ∧ (¬ ¬ (Int32.ofInt 1) = 0 → pz_S 4 (some .boolean) am_r114 3 Q 47 [(3, .ref 136), (0, .ref 0), (1, .int (nI 1)), (2, .int (Int32.ofInt 1))] [] h) from ⟨fun _ => ?_, fun hz => absurd (by decide) hz⟩)
  refine am_goX 2 (show am_sh h 0 = some (10, 0) ∧ pz_S 4 (some .boolean) am_r114 3 Q 53 [(3, .ref 136), (0, .ref 0), (1, .int (nI 1)), (2, .int (Int32.ofInt 1))] [am_rf (h.2.2.1 0 7)] h from ⟨ex_0 hP, ?_⟩)
  rw [show am_rf (h.2.2.1 0 7) = .ref 36 from congrArg am_rf (ex_r0_7 hP)]
  refine am_goX 2 (show am_sh h 136 = some (5, 0) ∧ pz_S 4 (some .boolean) am_r114 3 Q 57 [(3, .ref 136), (0, .ref 0), (1, .int (nI 1)), (2, .int (Int32.ofInt 1))] [am_rf (h.2.2.1 136 1), .ref 36] h from ⟨ex_136 hP, ?_⟩)
  rw [show am_rf (h.2.2.1 136 1) = .ref 137 from congrArg am_rf (ex_r136_1 hP)]
  refine am_goX 1 (show am_rc h 36 6 ∧ 0 ≤ 8 ∧ h.2.2.2.2 + am_al 99 ≤ 175 ∧ am_call am_cod 3 99 [.ref 36, .ref 137] h (fun vv h' => pz_S 4 (some .boolean) am_r114 3 Q 60 [(3, .ref 136), (0, .ref 0), (1, .int (nI 1)), (2, .int (Int32.ofInt 1))] (vv.toList ++ []) h') from ⟨Or.inl ⟨by decide, ex_36 hP⟩, by decide, ex_lim hP rfl, am_call.up (q_99 stO_36 stO_137 (by decide) hP (fun h385 f386 f387 f388 f389 => ?_)) (by decide)⟩)
  have f390 : sC 36 (M.2.1 1) h385 := sC_cp f389 ((hM 1 (by decide)).2 hm1).1
  have f391 : c_v 17 C h385 := c_v_fr (fun a k u1 u2 => f388 a k (by omega)) hT
  have f392 : c_d 17 C h385 := c_d_fr (fun k => f388 _ k (by omega)) hD
  have f393 : h385.2.2.1 0 3 = some 17 := (congrArg (fun q => q.2.1 0 3) f387).trans hR
  have f394 : hC H h385 := hC_fr (fun a k u1 u2 => f388 a k (by omega)) hH
  have f395 : mC M h385 := mC_fr (fun a k u1 u2 => f388 a k (by omega)) hM
  have f396 : h385.1 0 12 = nI x := (f388 0 12 (by omega)).trans hx
  refine am_goX 3 (show am_sh h385 136 = some (5, 0) ∧ pz_S 4 (some .boolean) am_r114 3 Q 65 [(3, .ref 136), (0, .ref 0), (1, .int (nI 1)), (2, .int (Int32.ofInt 1))] [.int (h385.1 136 2), .ref 0] h385 from ⟨ex_136 f386, ?_⟩)
  rw [show h385.1 136 2 = nI (M.2.2 1) from ((f395 1 (by decide)).2 hm1).2]
  refine am_goX 1 (show am_sh h385 0 = some (10, 0) ∧ narrow (am_fty 10 12) (.int (nI (M.2.2 1))) = .int (nI (M.2.2 1)) ∧ fits (am_fty 10 12) (.int (nI (M.2.2 1))) = true ∧ pz_S 4 (some .boolean) am_r114 3 Q 68 [(3, .ref 136), (0, .ref 0), (1, .int (nI 1)), (2, .int (Int32.ofInt 1))] [] (am_wI h385 0 12 (nI (M.2.2 1))) from ⟨ex_0 f386, rfl, rfl, ?_⟩)
  have f398 : ex_P (am_wI h385 0 12 (nI (M.2.2 1))) := f386
  have f399 : cI C := hI
  have f400 : c_v 17 C (am_wI h385 0 12 (nI (M.2.2 1))) := c_v_w (by omega) f391
  have f401 : c_d 17 C (am_wI h385 0 12 (nI (M.2.2 1))) := c_d_w (by omega) f392
  have f402 : (am_wI h385 0 12 (nI (M.2.2 1))).2.2.1 0 3 = some 17 := f393
  have f403 : sC 36 (M.2.1 1) (am_wI h385 0 12 (nI (M.2.2 1))) := sC_w (by omega) f390
  have f404 : hC H (am_wI h385 0 12 (nI (M.2.2 1))) := hC_w (by omega) f394
  have f405 : mC M (am_wI h385 0 12 (nI (M.2.2 1))) := mC_w (by omega) f395
  have f406 : (am_wI h385 0 12 (nI (M.2.2 1))).1 0 12 = nI (M.2.2 1) := (em_we _ _ _ _).trans (rfl)
  generalize am_wI h385 0 12 (nI (M.2.2 1)) = h397 at f398 f399 f400 f401 f402 f403 f404 f405 f406 ⊢
  refine am_goX 4 (show am_sh h397 136 = some (5, 0) ∧ am_sh h397 0 = some (10, 0) ∧ narrow (am_fty 10 13) (.int (h397.1 136 3)) = .int (h397.1 136 3) ∧ fits (am_fty 10 13) (.int (h397.1 136 3)) = true ∧ pz_S 4 (some .boolean) am_r114 3 Q 76 [(3, .ref 136), (0, .ref 0), (1, .int (nI 1)), (2, .int (Int32.ofInt 1))] [] (am_wI h397 0 13 (h397.1 136 3)) from ⟨ex_136 f398, ex_0 f398, rfl, rfl, ?_⟩)
  have f408 : ex_P (am_wI h397 0 13 (h397.1 136 3)) := f398
  have f409 : cI C := f399
  have f410 : c_v 17 C (am_wI h397 0 13 (h397.1 136 3)) := c_v_w (by omega) f400
  have f411 : c_d 17 C (am_wI h397 0 13 (h397.1 136 3)) := c_d_w (by omega) f401
  have f412 : (am_wI h397 0 13 (h397.1 136 3)).2.2.1 0 3 = some 17 := f402
  have f413 : sC 36 (M.2.1 1) (am_wI h397 0 13 (h397.1 136 3)) := sC_w (by omega) f403
  have f414 : hC H (am_wI h397 0 13 (h397.1 136 3)) := hC_w (by omega) f404
  have f415 : mC M (am_wI h397 0 13 (h397.1 136 3)) := mC_w (by omega) f405
  have f416 : (am_wI h397 0 13 (h397.1 136 3)).1 0 12 = nI (M.2.2 1) := (em_wn _ _ (by omega)).trans f406
  generalize am_wI h397 0 13 (h397.1 136 3) = h407 at f408 f409 f410 f411 f412 f413 f414 f415 f416 ⊢
  refine am_goX 2 (show am_sh h407 0 = some (10, 0) ∧ pz_S 4 (some .boolean) am_r114 3 Q 80 [(3, .ref 136), (0, .ref 0), (1, .int (nI 1)), (2, .int (Int32.ofInt 1))] [am_rf (h407.2.2.1 0 10)] h407 from ⟨ex_0 f408, ?_⟩)
  rw [show am_rf (h407.2.2.1 0 10) = .ref 47 from congrArg am_rf (ex_r0_10 f408)]
  refine am_goX 2 (show am_sh h407 47 = some (2, 0) ∧ narrow (am_fty 2 2) (.int (Int32.ofInt 0)) = .int (Int32.ofInt 0) ∧ fits (am_fty 2 2) (.int (Int32.ofInt 0)) = true ∧ pz_S 4 (some .boolean) am_r114 3 Q 84 [(3, .ref 136), (0, .ref 0), (1, .int (nI 1)), (2, .int (Int32.ofInt 1))] [] (am_wI h407 47 2 (Int32.ofInt 0)) from ⟨ex_47 f408, rfl, rfl, ?_⟩)
  have f418 : ex_P (am_wI h407 47 2 (Int32.ofInt 0)) := f408
  have f419 : cI C := f409
  have f420 : c_v 17 C (am_wI h407 47 2 (Int32.ofInt 0)) := c_v_w (by omega) f410
  have f421 : c_d 17 C (am_wI h407 47 2 (Int32.ofInt 0)) := c_d_w (by omega) f411
  have f422 : (am_wI h407 47 2 (Int32.ofInt 0)).2.2.1 0 3 = some 17 := f412
  have f423 : sC 36 (M.2.1 1) (am_wI h407 47 2 (Int32.ofInt 0)) := sC_w (by omega) f413
  have f424 : hC (0, H.2) (am_wI h407 47 2 (Int32.ofInt 0)) := hC_z f414
  have f425 : mC M (am_wI h407 47 2 (Int32.ofInt 0)) := mC_w (by omega) f415
  have f426 : (am_wI h407 47 2 (Int32.ofInt 0)).1 0 12 = nI (M.2.2 1) := (em_wn _ _ (by omega)).trans f416
  generalize am_wI h407 47 2 (Int32.ofInt 0) = h417 at f418 f419 f420 f421 f422 f423 f424 f425 f426 ⊢
  exact am_goX 2 (show (∃ ty, (some .boolean) = some ty ∧ narrow ty (.int (Int32.ofInt 1)) = .int (Int32.ofInt 1)) ∧ h417.2.2.2.2 = 175 ∧ _ from ⟨⟨.boolean, rfl, rfl⟩, ex_175 f418, hQ _ f418 f419 f420 f421 f422 f423 f424 f425 f426⟩)
theorem d_114_nK17_1 (hP : ex_P h) (hI : cI C) (hT : c_v 17 C h) (hD : c_d 17 C h) (hR : h.2.2.1 0 3 = some 17) (hS : sC 36 s h) (hH : hC H h) (hM : mC M h) (hx : h.1 0 12 = nI x) (hm1 : M.1 1 = false) (hQ : ∀ h1, (ex_P h1) → (cI C) → (c_v 17 C h1) → (c_d 17 C h1) → (h1.2.2.1 0 3 = some 17) → (sC 36 s h1) → (hC H h1) → (mC M h1) → (h1.1 0 12 = nI x) → Q (some (.int d_114n)) h1) : am_call am_cod 4 114 [.ref 0, .int (nI 1), .int (Int32.ofInt 1)] h Q := by
  have h6 := hT.1.2.1
  have h5 := hT.2.1.2.1
  refine pz_call (n := 114) (nL := 4) (rt := (some .boolean)) (rows := am_r114) (d := 3) (by decide +kernel) (by decide +kernel) rfl (by funext pc; rfl) (ex_175 hP) (by exact Nat.le_of_ble_eq_true rfl) ?_
  refine am_goX 4 (show 0 ≤ 8 ∧ h.2.2.2.2 + am_al 60 ≤ 175 ∧ am_call am_cod 3 60 [.int (nI 1), .int (Int32.ofInt 0), .int (Int32.ofInt 3)] h (fun vv h' => pz_S 4 (some .boolean) am_r114 3 Q 6 [(0, .ref 0), (1, .int (nI 1)), (2, .int (Int32.ofInt 1))] (vv.toList ++ []) h') from ⟨by decide, ex_lim hP rfl, am_call.up (d_60_w hP ?_) (by decide)⟩)
  rw [show d_60 (nI 1) (Int32.ofInt 0) (Int32.ofInt 3) = Int32.ofInt 1 from (by decide)]
  refine am_goX 1 (show (¬ (Int32.ofInt 1) = 0 → pz_S 4 (some .boolean) am_r114 3 Q 11 [(0, .ref 0), (1, .int (nI 1)), (2, .int (Int32.ofInt 1))] [] h) ∧ (¬ ¬ (Int32.ofInt 1) = 0 → pz_S 4 (some .boolean) am_r114 3 Q 9 [(0, .ref 0), (1, .int (nI 1)), (2, .int (Int32.ofInt 1))] [] h) from ⟨fun _ => ?_, fun hz => absurd (by decide) hz⟩)
  refine am_goX 2 (show am_sh h 0 = some (10, 0) ∧ pz_S 4 (some .boolean) am_r114 3 Q 15 [(0, .ref 0), (1, .int (nI 1)), (2, .int (Int32.ofInt 1))] [am_rf (h.2.2.1 0 11)] h from ⟨ex_0 hP, ?_⟩)
  rw [show am_rf (h.2.2.1 0 11) = .ref 129 from congrArg am_rf (ex_r0_11 hP)]
  refine am_goX 2 (show ∃ jj nn : Nat, (am_sh h 129 = some (16, nn) ∨ am_sh h 129 = some (17, nn)) ∧ jj < nn ∧ nI 1 = nI jj ∧ pz_S 4 (some .boolean) am_r114 3 Q 17 [(0, .ref 0), (1, .int (nI 1)), (2, .int (Int32.ofInt 1))] [am_rf (h.2.2.1 129 jj)] h from ⟨1, 4, Or.inl (ex_129 hP), by decide, rfl, ?_⟩)
  rw [show am_rf (h.2.2.1 129 1) = .ref 136 from congrArg am_rf (ex_r129_1 hP)]
  refine am_goX 3 (show 3 < 4 ∧ (¬ (Int32.ofInt 1) = 0 → pz_S 4 (some .boolean) am_r114 3 Q 40 [(3, .ref 136), (0, .ref 0), (1, .int (nI 1)), (2, .int (Int32.ofInt 1))] [] h) ∧ (¬ ¬ (Int32.ofInt 1) = 0 → pz_S 4 (some .boolean) am_r114 3 Q 22 [(3, .ref 136), (0, .ref 0), (1, .int (nI 1)), (2, .int (Int32.ofInt 1))] [] h) from ⟨by decide, fun _ => ?_, fun hz => absurd (by decide) hz⟩)
  refine am_goX 2 (show am_sh h 136 = some (5, 0) ∧ pz_S 4 (some .boolean) am_r114 3 Q 44 [(3, .ref 136), (0, .ref 0), (1, .int (nI 1)), (2, .int (Int32.ofInt 1))] [.int (h.1 136 0)] h from ⟨ex_136 hP, ?_⟩)
  rw [show h.1 136 0 = Int32.ofInt 0 from ((hM 1 (by decide)).1.trans (by rw [hm1]; rfl))]
  refine am_goX 1 (show (¬ (Int32.ofInt 0) = 0 → pz_S 4 (some .boolean) am_r114 3 Q 49 [(3, .ref 136), (0, .ref 0), (1, .int (nI 1)), (2, .int (Int32.ofInt 1))] [] h) ∧ (¬ ¬ (Int32.ofInt 0) = 0 → pz_S 4 (some .boolean) am_r114 3 Q 47 [(3, .ref 136), (0, .ref 0), (1, .int (nI 1)), (2, .int (Int32.ofInt 1))] [] h) from ⟨fun hz => absurd hz (by decide), fun _ => ?_⟩)
  exact am_goX 2 (show (∃ ty, (some .boolean) = some ty ∧ narrow ty (.int (Int32.ofInt 0)) = .int (Int32.ofInt 0)) ∧ h.2.2.2.2 = 175 ∧ _ from ⟨⟨.boolean, rfl, rfl⟩, ex_175 hP, hQ _ hP hI hT hD hR hS hH hM hx⟩)
theorem d_114_lK17_2 (hP : ex_P h) (hI : cI C) (hT : c_v 17 C h) (hD : c_d 17 C h) (hR : h.2.2.1 0 3 = some 17) (hS : sC 36 s h) (hH : hC H h) (hM : mC M h) (hx : h.1 0 12 = nI x)  (hQ : ∀ h1, (ex_P h1) → (cI C) → (c_v 17 C h1) → (c_d 17 C h1) → (h1.2.2.1 0 3 = some 17) → (sC 36 s h1) → (hC H h1) → (mC (d_114l2_M s H M x) h1) → (h1.1 0 12 = nI x) → Q (some (.int (d_114l2 s H M x))) h1) : am_call am_cod 4 114 [.ref 0, .int (nI 2), .int (Int32.ofInt 0)] h Q := by
  have h6 := hT.1.2.1
  have h5 := hT.2.1.2.1
  refine pz_call (n := 114) (nL := 4) (rt := (some .boolean)) (rows := am_r114) (d := 3) (by decide +kernel) (by decide +kernel) rfl (by funext pc; rfl) (ex_175 hP) (by exact Nat.le_of_ble_eq_true rfl) ?_
  refine am_goX 4 (show 0 ≤ 8 ∧ h.2.2.2.2 + am_al 60 ≤ 175 ∧ am_call am_cod 3 60 [.int (nI 2), .int (Int32.ofInt 0), .int (Int32.ofInt 3)] h (fun vv h' => pz_S 4 (some .boolean) am_r114 3 Q 6 [(0, .ref 0), (1, .int (nI 2)), (2, .int (Int32.ofInt 0))] (vv.toList ++ []) h') from ⟨by decide, ex_lim hP rfl, am_call.up (d_60_w hP ?_) (by decide)⟩)
  rw [show d_60 (nI 2) (Int32.ofInt 0) (Int32.ofInt 3) = Int32.ofInt 1 from (by decide)]
  refine am_goX 1 (show (¬ (Int32.ofInt 1) = 0 → pz_S 4 (some .boolean) am_r114 3 Q 11 [(0, .ref 0), (1, .int (nI 2)), (2, .int (Int32.ofInt 0))] [] h) ∧ (¬ ¬ (Int32.ofInt 1) = 0 → pz_S 4 (some .boolean) am_r114 3 Q 9 [(0, .ref 0), (1, .int (nI 2)), (2, .int (Int32.ofInt 0))] [] h) from ⟨fun _ => ?_, fun hz => absurd (by decide) hz⟩)
  refine am_goX 2 (show am_sh h 0 = some (10, 0) ∧ pz_S 4 (some .boolean) am_r114 3 Q 15 [(0, .ref 0), (1, .int (nI 2)), (2, .int (Int32.ofInt 0))] [am_rf (h.2.2.1 0 11)] h from ⟨ex_0 hP, ?_⟩)
  rw [show am_rf (h.2.2.1 0 11) = .ref 129 from congrArg am_rf (ex_r0_11 hP)]
  refine am_goX 2 (show ∃ jj nn : Nat, (am_sh h 129 = some (16, nn) ∨ am_sh h 129 = some (17, nn)) ∧ jj < nn ∧ nI 2 = nI jj ∧ pz_S 4 (some .boolean) am_r114 3 Q 17 [(0, .ref 0), (1, .int (nI 2)), (2, .int (Int32.ofInt 0))] [am_rf (h.2.2.1 129 jj)] h from ⟨2, 4, Or.inl (ex_129 hP), by decide, rfl, ?_⟩)
  rw [show am_rf (h.2.2.1 129 2) = .ref 142 from congrArg am_rf (ex_r129_2 hP)]
  refine am_goX 3 (show 3 < 4 ∧ (¬ (Int32.ofInt 0) = 0 → pz_S 4 (some .boolean) am_r114 3 Q 40 [(3, .ref 142), (0, .ref 0), (1, .int (nI 2)), (2, .int (Int32.ofInt 0))] [] h) ∧ (¬ ¬ (Int32.ofInt 0) = 0 → pz_S 4 (some .boolean) am_r114 3 Q 22 [(3, .ref 142), (0, .ref 0), (1, .int (nI 2)), (2, .int (Int32.ofInt 0))] [] h) from ⟨by decide, fun hz => absurd hz (by decide), fun _ => ?_⟩)
  refine am_goX 3 (show am_sh h 0 = some (10, 0) ∧ pz_S 4 (some .boolean) am_r114 3 Q 27 [(3, .ref 142), (0, .ref 0), (1, .int (nI 2)), (2, .int (Int32.ofInt 0))] [am_rf (h.2.2.1 0 7), .ref 142] h from ⟨ex_0 hP, ?_⟩)
  rw [show am_rf (h.2.2.1 0 7) = .ref 36 from congrArg am_rf (ex_r0_7 hP)]
  refine am_goX 2 (show am_sh h 0 = some (10, 0) ∧ pz_S 4 (some .boolean) am_r114 3 Q 31 [(3, .ref 142), (0, .ref 0), (1, .int (nI 2)), (2, .int (Int32.ofInt 0))] [.int (h.1 0 12), .ref 36, .ref 142] h from ⟨ex_0 hP, ?_⟩)
  rw [show h.1 0 12 = nI x from hx]
  refine am_goX 3 (show am_sh h 0 = some (10, 0) ∧ am_rc h 142 5 ∧ 0 ≤ 8 ∧ h.2.2.2.2 + am_al 115 ≤ 175 ∧ am_call am_cod 3 115 [.ref 142, .ref 36, .int (nI x), .int (h.1 0 13)] h (fun vv h' => pz_S 4 (some .boolean) am_r114 3 Q 38 [(3, .ref 142), (0, .ref 0), (1, .int (nI 2)), (2, .int (Int32.ofInt 0))] (vv.toList ++ []) h') from ⟨ex_0 hP, Or.inl ⟨by decide, ex_142 hP⟩, by decide, ex_lim hP rfl, am_call.up (k_115_2 hP (fun h427 f428 f429 f430 f431 f432 => ?_)) (by decide)⟩)
  have f433 : mC (mset M 2 s x) h427 := mC_set (m := 2) (fun a j n1 => f429.2 a j n1) f430 (sC_cp f431 hS) f432 hM
  have f434 : c_v 17 C h427 := c_v_fr (fun a k u1 u2 => f429.2 a k (by omega)) hT
  have f435 : c_d 17 C h427 := c_d_fr (fun k => f429.2 _ k (by omega)) hD
  have f436 : h427.2.2.1 0 3 = some 17 := (congrArg (fun q => q.2.1 0 3) f429.1).trans hR
  have f437 : sC 36 s h427 := sC_fr (fun a k u1 u2 => f429.2 a k (by omega)) hS
  have f438 : hC H h427 := hC_fr (fun a k u1 u2 => f429.2 a k (by omega)) hH
  have f439 : h427.1 0 12 = nI x := (f429.2 0 12 (by omega)).trans hx
  exact am_goX 2 (show (∃ ty, (some .boolean) = some ty ∧ narrow ty (.int (Int32.ofInt 1)) = .int (Int32.ofInt 1)) ∧ h427.2.2.2.2 = 175 ∧ _ from ⟨⟨.boolean, rfl, rfl⟩, ex_175 f428, hQ _ f428 hI f434 f435 f436 f437 f438 f433 f439⟩)
theorem d_114_bK17_2 (hP : ex_P h) (hI : cI C) (hT : c_v 17 C h) (hD : c_d 17 C h) (hR : h.2.2.1 0 3 = some 17) (hS : sC 36 s h) (hH : hC H h) (hM : mC M h) (hx : h.1 0 12 = nI x) (hm1 : M.1 2 = true) (hQ : ∀ h1, (ex_P h1) → (cI C) → (c_v 17 C h1) → (c_d 17 C h1) → (h1.2.2.1 0 3 = some 17) → (sC 36 (d_114b2_s s H M x) h1) → (hC (d_114b2_H s H M x) h1) → (mC M h1) → (h1.1 0 12 = nI (d_114b2_x s H M x)) → Q (some (.int (d_114b2 s H M x))) h1) : am_call am_cod 4 114 [.ref 0, .int (nI 2), .int (Int32.ofInt 1)] h Q := by
  have h6 := hT.1.2.1
  have h5 := hT.2.1.2.1
  refine pz_call (n := 114) (nL := 4) (rt := (some .boolean)) (rows := am_r114) (d := 3) (by decide +kernel) (by decide +kernel) rfl (by funext pc; rfl) (ex_175 hP) (by exact Nat.le_of_ble_eq_true rfl) ?_
  refine am_goX 4 (show 0 ≤ 8 ∧ h.2.2.2.2 + am_al 60 ≤ 175 ∧ am_call am_cod 3 60 [.int (nI 2), .int (Int32.ofInt 0), .int (Int32.ofInt 3)] h (fun vv h' => pz_S 4 (some .boolean) am_r114 3 Q 6 [(0, .ref 0), (1, .int (nI 2)), (2, .int (Int32.ofInt 1))] (vv.toList ++ []) h') from ⟨by decide, ex_lim hP rfl, am_call.up (d_60_w hP ?_) (by decide)⟩)
  rw [show d_60 (nI 2) (Int32.ofInt 0) (Int32.ofInt 3) = Int32.ofInt 1 from (by decide)]
  refine am_goX 1 (show (¬ (Int32.ofInt 1) = 0 → pz_S 4 (some .boolean) am_r114 3 Q 11 [(0, .ref 0), (1, .int (nI 2)), (2, .int (Int32.ofInt 1))] [] h) ∧ (¬ ¬ (Int32.ofInt 1) = 0 → pz_S 4 (some .boolean) am_r114 3 Q 9 [(0, .ref 0), (1, .int (nI 2)), (2, .int (Int32.ofInt 1))] [] h) from ⟨fun _ => ?_, fun hz => absurd (by decide) hz⟩)
  refine am_goX 2 (show am_sh h 0 = some (10, 0) ∧ pz_S 4 (some .boolean) am_r114 3 Q 15 [(0, .ref 0), (1, .int (nI 2)), (2, .int (Int32.ofInt 1))] [am_rf (h.2.2.1 0 11)] h from ⟨ex_0 hP, ?_⟩)
  rw [show am_rf (h.2.2.1 0 11) = .ref 129 from congrArg am_rf (ex_r0_11 hP)]
  refine am_goX 2 (show ∃ jj nn : Nat, (am_sh h 129 = some (16, nn) ∨ am_sh h 129 = some (17, nn)) ∧ jj < nn ∧ nI 2 = nI jj ∧ pz_S 4 (some .boolean) am_r114 3 Q 17 [(0, .ref 0), (1, .int (nI 2)), (2, .int (Int32.ofInt 1))] [am_rf (h.2.2.1 129 jj)] h from ⟨2, 4, Or.inl (ex_129 hP), by decide, rfl, ?_⟩)
  rw [show am_rf (h.2.2.1 129 2) = .ref 142 from congrArg am_rf (ex_r129_2 hP)]
  refine am_goX 3 (show 3 < 4 ∧ (¬ (Int32.ofInt 1) = 0 → pz_S 4 (some .boolean) am_r114 3 Q 40 [(3, .ref 142), (0, .ref 0), (1, .int (nI 2)), (2, .int (Int32.ofInt 1))] [] h) ∧ (¬ ¬ (Int32.ofInt 1) = 0 → pz_S 4 (some .boolean) am_r114 3 Q 22 [(3, .ref 142), (0, .ref 0), (1, .int (nI 2)), (2, .int (Int32.ofInt 1))] [] h) from ⟨by decide, fun _ => ?_, fun hz => absurd (by decide) hz⟩)
  refine am_goX 2 (show am_sh h 142 = some (5, 0) ∧ pz_S 4 (some .boolean) am_r114 3 Q 44 [(3, .ref 142), (0, .ref 0), (1, .int (nI 2)), (2, .int (Int32.ofInt 1))] [.int (h.1 142 0)] h from ⟨ex_142 hP, ?_⟩)
  rw [show h.1 142 0 = Int32.ofInt 1 from ((hM 2 (by decide)).1.trans (by rw [hm1]; rfl))]
  refine am_goX 1 (show (¬ (Int32.ofInt 1) = 0 → pz_S 4 (some .boolean) am_r114 3 Q 49 [(3, .ref 142), (0, .ref 0), (1, .int (nI 2)), (2, .int (Int32.ofInt 1))] [] h) ∧ (¬ ¬ (Int32.ofInt 1) = 0 → pz_S 4 (some .boolean) am_r114 3 Q 47 [(3, .ref 142), (0, .ref 0), (1, .int (nI 2)), (2, .int (Int32.ofInt 1))] [] h) from ⟨fun _ => ?_, fun hz => absurd (by decide) hz⟩)
  refine am_goX 2 (show am_sh h 0 = some (10, 0) ∧ pz_S 4 (some .boolean) am_r114 3 Q 53 [(3, .ref 142), (0, .ref 0), (1, .int (nI 2)), (2, .int (Int32.ofInt 1))] [am_rf (h.2.2.1 0 7)] h from ⟨ex_0 hP, ?_⟩)
  rw [show am_rf (h.2.2.1 0 7) = .ref 36 from congrArg am_rf (ex_r0_7 hP)]
  refine am_goX 2 (show am_sh h 142 = some (5, 0) ∧ pz_S 4 (some .boolean) am_r114 3 Q 57 [(3, .ref 142), (0, .ref 0), (1, .int (nI 2)), (2, .int (Int32.ofInt 1))] [am_rf (h.2.2.1 142 1), .ref 36] h from ⟨ex_142 hP, ?_⟩)
  rw [show am_rf (h.2.2.1 142 1) = .ref 143 from congrArg am_rf (ex_r142_1 hP)]
  refine am_goX 1 (show am_rc h 36 6 ∧ 0 ≤ 8 ∧ h.2.2.2.2 + am_al 99 ≤ 175 ∧ am_call am_cod 3 99 [.ref 36, .ref 143] h (fun vv h' => pz_S 4 (some .boolean) am_r114 3 Q 60 [(3, .ref 142), (0, .ref 0), (1, .int (nI 2)), (2, .int (Int32.ofInt 1))] (vv.toList ++ []) h') from ⟨Or.inl ⟨by decide, ex_36 hP⟩, by decide, ex_lim hP rfl, am_call.up (q_99 stO_36 stO_143 (by decide) hP (fun h440 f441 f442 f443 f444 => ?_)) (by decide)⟩)
  have f445 : sC 36 (M.2.1 2) h440 := sC_cp f444 ((hM 2 (by decide)).2 hm1).1
  have f446 : c_v 17 C h440 := c_v_fr (fun a k u1 u2 => f443 a k (by omega)) hT
  have f447 : c_d 17 C h440 := c_d_fr (fun k => f443 _ k (by omega)) hD
  have f448 : h440.2.2.1 0 3 = some 17 := (congrArg (fun q => q.2.1 0 3) f442).trans hR
  have f449 : hC H h440 := hC_fr (fun a k u1 u2 => f443 a k (by omega)) hH
  have f450 : mC M h440 := mC_fr (fun a k u1 u2 => f443 a k (by omega)) hM
  have f451 : h440.1 0 12 = nI x := (f443 0 12 (by omega)).trans hx
  refine am_goX 3 (show am_sh h440 142 = some (5, 0) ∧ pz_S 4 (some .boolean) am_r114 3 Q 65 [(3, .ref 142), (0, .ref 0), (1, .int (nI 2)), (2, .int (Int32.ofInt 1))] [.int (h440.1 142 2), .ref 0] h440 from ⟨ex_142 f441, ?_⟩)
  rw [show h440.1 142 2 = nI (M.2.2 2) from ((f450 2 (by decide)).2 hm1).2]
  refine am_goX 1 (show am_sh h440 0 = some (10, 0) ∧ narrow (am_fty 10 12) (.int (nI (M.2.2 2))) = .int (nI (M.2.2 2)) ∧ fits (am_fty 10 12) (.int (nI (M.2.2 2))) = true ∧ pz_S 4 (some .boolean) am_r114 3 Q 68 [(3, .ref 142), (0, .ref 0), (1, .int (nI 2)), (2, .int (Int32.ofInt 1))] [] (am_wI h440 0 12 (nI (M.2.2 2))) from ⟨ex_0 f441, rfl, rfl, ?_⟩)
  have f453 : ex_P (am_wI h440 0 12 (nI (M.2.2 2))) := f441
  have f454 : cI C := hI
  have f455 : c_v 17 C (am_wI h440 0 12 (nI (M.2.2 2))) := c_v_w (by omega) f446
  have f456 : c_d 17 C (am_wI h440 0 12 (nI (M.2.2 2))) := c_d_w (by omega) f447
  have f457 : (am_wI h440 0 12 (nI (M.2.2 2))).2.2.1 0 3 = some 17 := f448
  have f458 : sC 36 (M.2.1 2) (am_wI h440 0 12 (nI (M.2.2 2))) := sC_w (by omega) f445
  have f459 : hC H (am_wI h440 0 12 (nI (M.2.2 2))) := hC_w (by omega) f449
  have f460 : mC M (am_wI h440 0 12 (nI (M.2.2 2))) := mC_w (by omega) f450
  have f461 : (am_wI h440 0 12 (nI (M.2.2 2))).1 0 12 = nI (M.2.2 2) := (em_we _ _ _ _).trans (rfl)
  generalize am_wI h440 0 12 (nI (M.2.2 2)) = h452 at f453 f454 f455 f456 f457 f458 f459 f460 f461 ⊢
  refine am_goX 4 (show am_sh h452 142 = some (5, 0) ∧ am_sh h452 0 = some (10, 0) ∧ narrow (am_fty 10 13) (.int (h452.1 142 3)) = .int (h452.1 142 3) ∧ fits (am_fty 10 13) (.int (h452.1 142 3)) = true ∧ pz_S 4 (some .boolean) am_r114 3 Q 76 [(3, .ref 142), (0, .ref 0), (1, .int (nI 2)), (2, .int (Int32.ofInt 1))] [] (am_wI h452 0 13 (h452.1 142 3)) from ⟨ex_142 f453, ex_0 f453, rfl, rfl, ?_⟩)
  have f463 : ex_P (am_wI h452 0 13 (h452.1 142 3)) := f453
  have f464 : cI C := f454
  have f465 : c_v 17 C (am_wI h452 0 13 (h452.1 142 3)) := c_v_w (by omega) f455
  have f466 : c_d 17 C (am_wI h452 0 13 (h452.1 142 3)) := c_d_w (by omega) f456
  have f467 : (am_wI h452 0 13 (h452.1 142 3)).2.2.1 0 3 = some 17 := f457
  have f468 : sC 36 (M.2.1 2) (am_wI h452 0 13 (h452.1 142 3)) := sC_w (by omega) f458
  have f469 : hC H (am_wI h452 0 13 (h452.1 142 3)) := hC_w (by omega) f459
  have f470 : mC M (am_wI h452 0 13 (h452.1 142 3)) := mC_w (by omega) f460
  have f471 : (am_wI h452 0 13 (h452.1 142 3)).1 0 12 = nI (M.2.2 2) := (em_wn _ _ (by omega)).trans f461
  generalize am_wI h452 0 13 (h452.1 142 3) = h462 at f463 f464 f465 f466 f467 f468 f469 f470 f471 ⊢
  refine am_goX 2 (show am_sh h462 0 = some (10, 0) ∧ pz_S 4 (some .boolean) am_r114 3 Q 80 [(3, .ref 142), (0, .ref 0), (1, .int (nI 2)), (2, .int (Int32.ofInt 1))] [am_rf (h462.2.2.1 0 10)] h462 from ⟨ex_0 f463, ?_⟩)
  rw [show am_rf (h462.2.2.1 0 10) = .ref 47 from congrArg am_rf (ex_r0_10 f463)]
  refine am_goX 2 (show am_sh h462 47 = some (2, 0) ∧ narrow (am_fty 2 2) (.int (Int32.ofInt 0)) = .int (Int32.ofInt 0) ∧ fits (am_fty 2 2) (.int (Int32.ofInt 0)) = true ∧ pz_S 4 (some .boolean) am_r114 3 Q 84 [(3, .ref 142), (0, .ref 0), (1, .int (nI 2)), (2, .int (Int32.ofInt 1))] [] (am_wI h462 47 2 (Int32.ofInt 0)) from ⟨ex_47 f463, rfl, rfl, ?_⟩)
  have f473 : ex_P (am_wI h462 47 2 (Int32.ofInt 0)) := f463
  have f474 : cI C := f464
  have f475 : c_v 17 C (am_wI h462 47 2 (Int32.ofInt 0)) := c_v_w (by omega) f465
  have f476 : c_d 17 C (am_wI h462 47 2 (Int32.ofInt 0)) := c_d_w (by omega) f466
  have f477 : (am_wI h462 47 2 (Int32.ofInt 0)).2.2.1 0 3 = some 17 := f467
  have f478 : sC 36 (M.2.1 2) (am_wI h462 47 2 (Int32.ofInt 0)) := sC_w (by omega) f468
  have f479 : hC (0, H.2) (am_wI h462 47 2 (Int32.ofInt 0)) := hC_z f469
  have f480 : mC M (am_wI h462 47 2 (Int32.ofInt 0)) := mC_w (by omega) f470
  have f481 : (am_wI h462 47 2 (Int32.ofInt 0)).1 0 12 = nI (M.2.2 2) := (em_wn _ _ (by omega)).trans f471
  generalize am_wI h462 47 2 (Int32.ofInt 0) = h472 at f473 f474 f475 f476 f477 f478 f479 f480 f481 ⊢
  exact am_goX 2 (show (∃ ty, (some .boolean) = some ty ∧ narrow ty (.int (Int32.ofInt 1)) = .int (Int32.ofInt 1)) ∧ h472.2.2.2.2 = 175 ∧ _ from ⟨⟨.boolean, rfl, rfl⟩, ex_175 f473, hQ _ f473 f474 f475 f476 f477 f478 f479 f480 f481⟩)
theorem d_114_nK17_2 (hP : ex_P h) (hI : cI C) (hT : c_v 17 C h) (hD : c_d 17 C h) (hR : h.2.2.1 0 3 = some 17) (hS : sC 36 s h) (hH : hC H h) (hM : mC M h) (hx : h.1 0 12 = nI x) (hm1 : M.1 2 = false) (hQ : ∀ h1, (ex_P h1) → (cI C) → (c_v 17 C h1) → (c_d 17 C h1) → (h1.2.2.1 0 3 = some 17) → (sC 36 s h1) → (hC H h1) → (mC M h1) → (h1.1 0 12 = nI x) → Q (some (.int d_114n)) h1) : am_call am_cod 4 114 [.ref 0, .int (nI 2), .int (Int32.ofInt 1)] h Q := by
  have h6 := hT.1.2.1
  have h5 := hT.2.1.2.1
  refine pz_call (n := 114) (nL := 4) (rt := (some .boolean)) (rows := am_r114) (d := 3) (by decide +kernel) (by decide +kernel) rfl (by funext pc; rfl) (ex_175 hP) (by exact Nat.le_of_ble_eq_true rfl) ?_
  refine am_goX 4 (show 0 ≤ 8 ∧ h.2.2.2.2 + am_al 60 ≤ 175 ∧ am_call am_cod 3 60 [.int (nI 2), .int (Int32.ofInt 0), .int (Int32.ofInt 3)] h (fun vv h' => pz_S 4 (some .boolean) am_r114 3 Q 6 [(0, .ref 0), (1, .int (nI 2)), (2, .int (Int32.ofInt 1))] (vv.toList ++ []) h') from ⟨by decide, ex_lim hP rfl, am_call.up (d_60_w hP ?_) (by decide)⟩)
  rw [show d_60 (nI 2) (Int32.ofInt 0) (Int32.ofInt 3) = Int32.ofInt 1 from (by decide)]
  refine am_goX 1 (show (¬ (Int32.ofInt 1) = 0 → pz_S 4 (some .boolean) am_r114 3 Q 11 [(0, .ref 0), (1, .int (nI 2)), (2, .int (Int32.ofInt 1))] [] h) ∧ (¬ ¬ (Int32.ofInt 1) = 0 → pz_S 4 (some .boolean) am_r114 3 Q 9 [(0, .ref 0), (1, .int (nI 2)), (2, .int (Int32.ofInt 1))] [] h) from ⟨fun _ => ?_, fun hz => absurd (by decide) hz⟩)
  refine am_goX 2 (show am_sh h 0 = some (10, 0) ∧ pz_S 4 (some .boolean) am_r114 3 Q 15 [(0, .ref 0), (1, .int (nI 2)), (2, .int (Int32.ofInt 1))] [am_rf (h.2.2.1 0 11)] h from ⟨ex_0 hP, ?_⟩)
  rw [show am_rf (h.2.2.1 0 11) = .ref 129 from congrArg am_rf (ex_r0_11 hP)]
  refine am_goX 2 (show ∃ jj nn : Nat, (am_sh h 129 = some (16, nn) ∨ am_sh h 129 = some (17, nn)) ∧ jj < nn ∧ nI 2 = nI jj ∧ pz_S 4 (some .boolean) am_r114 3 Q 17 [(0, .ref 0), (1, .int (nI 2)), (2, .int (Int32.ofInt 1))] [am_rf (h.2.2.1 129 jj)] h from ⟨2, 4, Or.inl (ex_129 hP), by decide, rfl, ?_⟩)
  rw [show am_rf (h.2.2.1 129 2) = .ref 142 from congrArg am_rf (ex_r129_2 hP)]
  refine am_goX 3 (show 3 < 4 ∧ (¬ (Int32.ofInt 1) = 0 → pz_S 4 (some .boolean) am_r114 3 Q 40 [(3, .ref 142), (0, .ref 0), (1, .int (nI 2)), (2, .int (Int32.ofInt 1))] [] h) ∧ (¬ ¬ (Int32.ofInt 1) = 0 → pz_S 4 (some .boolean) am_r114 3 Q 22 [(3, .ref 142), (0, .ref 0), (1, .int (nI 2)), (2, .int (Int32.ofInt 1))] [] h) from ⟨by decide, fun _ => ?_, fun hz => absurd (by decide) hz⟩)
  refine am_goX 2 (show am_sh h 142 = some (5, 0) ∧ pz_S 4 (some .boolean) am_r114 3 Q 44 [(3, .ref 142), (0, .ref 0), (1, .int (nI 2)), (2, .int (Int32.ofInt 1))] [.int (h.1 142 0)] h from ⟨ex_142 hP, ?_⟩)
  rw [show h.1 142 0 = Int32.ofInt 0 from ((hM 2 (by decide)).1.trans (by rw [hm1]; rfl))]
  refine am_goX 1 (show (¬ (Int32.ofInt 0) = 0 → pz_S 4 (some .boolean) am_r114 3 Q 49 [(3, .ref 142), (0, .ref 0), (1, .int (nI 2)), (2, .int (Int32.ofInt 1))] [] h) ∧ (¬ ¬ (Int32.ofInt 0) = 0 → pz_S 4 (some .boolean) am_r114 3 Q 47 [(3, .ref 142), (0, .ref 0), (1, .int (nI 2)), (2, .int (Int32.ofInt 1))] [] h) from ⟨fun hz => absurd hz (by decide), fun _ => ?_⟩)
  exact am_goX 2 (show (∃ ty, (some .boolean) = some ty ∧ narrow ty (.int (Int32.ofInt 0)) = .int (Int32.ofInt 0)) ∧ h.2.2.2.2 = 175 ∧ _ from ⟨⟨.boolean, rfl, rfl⟩, ex_175 hP, hQ _ hP hI hT hD hR hS hH hM hx⟩)
theorem d_114_lK17_3 (hP : ex_P h) (hI : cI C) (hT : c_v 17 C h) (hD : c_d 17 C h) (hR : h.2.2.1 0 3 = some 17) (hS : sC 36 s h) (hH : hC H h) (hM : mC M h) (hx : h.1 0 12 = nI x)  (hQ : ∀ h1, (ex_P h1) → (cI C) → (c_v 17 C h1) → (c_d 17 C h1) → (h1.2.2.1 0 3 = some 17) → (sC 36 s h1) → (hC H h1) → (mC (d_114l3_M s H M x) h1) → (h1.1 0 12 = nI x) → Q (some (.int (d_114l3 s H M x))) h1) : am_call am_cod 4 114 [.ref 0, .int (nI 3), .int (Int32.ofInt 0)] h Q := by
  have h6 := hT.1.2.1
  have h5 := hT.2.1.2.1
  refine pz_call (n := 114) (nL := 4) (rt := (some .boolean)) (rows := am_r114) (d := 3) (by decide +kernel) (by decide +kernel) rfl (by funext pc; rfl) (ex_175 hP) (by exact Nat.le_of_ble_eq_true rfl) ?_
  refine am_goX 4 (show 0 ≤ 8 ∧ h.2.2.2.2 + am_al 60 ≤ 175 ∧ am_call am_cod 3 60 [.int (nI 3), .int (Int32.ofInt 0), .int (Int32.ofInt 3)] h (fun vv h' => pz_S 4 (some .boolean) am_r114 3 Q 6 [(0, .ref 0), (1, .int (nI 3)), (2, .int (Int32.ofInt 0))] (vv.toList ++ []) h') from ⟨by decide, ex_lim hP rfl, am_call.up (d_60_w hP ?_) (by decide)⟩)
  rw [show d_60 (nI 3) (Int32.ofInt 0) (Int32.ofInt 3) = Int32.ofInt 1 from (by decide)]
  refine am_goX 1 (show (¬ (Int32.ofInt 1) = 0 → pz_S 4 (some .boolean) am_r114 3 Q 11 [(0, .ref 0), (1, .int (nI 3)), (2, .int (Int32.ofInt 0))] [] h) ∧ (¬ ¬ (Int32.ofInt 1) = 0 → pz_S 4 (some .boolean) am_r114 3 Q 9 [(0, .ref 0), (1, .int (nI 3)), (2, .int (Int32.ofInt 0))] [] h) from ⟨fun _ => ?_, fun hz => absurd (by decide) hz⟩)
  refine am_goX 2 (show am_sh h 0 = some (10, 0) ∧ pz_S 4 (some .boolean) am_r114 3 Q 15 [(0, .ref 0), (1, .int (nI 3)), (2, .int (Int32.ofInt 0))] [am_rf (h.2.2.1 0 11)] h from ⟨ex_0 hP, ?_⟩)
  rw [show am_rf (h.2.2.1 0 11) = .ref 129 from congrArg am_rf (ex_r0_11 hP)]
  refine am_goX 2 (show ∃ jj nn : Nat, (am_sh h 129 = some (16, nn) ∨ am_sh h 129 = some (17, nn)) ∧ jj < nn ∧ nI 3 = nI jj ∧ pz_S 4 (some .boolean) am_r114 3 Q 17 [(0, .ref 0), (1, .int (nI 3)), (2, .int (Int32.ofInt 0))] [am_rf (h.2.2.1 129 jj)] h from ⟨3, 4, Or.inl (ex_129 hP), by decide, rfl, ?_⟩)
  rw [show am_rf (h.2.2.1 129 3) = .ref 148 from congrArg am_rf (ex_r129_3 hP)]
  refine am_goX 3 (show 3 < 4 ∧ (¬ (Int32.ofInt 0) = 0 → pz_S 4 (some .boolean) am_r114 3 Q 40 [(3, .ref 148), (0, .ref 0), (1, .int (nI 3)), (2, .int (Int32.ofInt 0))] [] h) ∧ (¬ ¬ (Int32.ofInt 0) = 0 → pz_S 4 (some .boolean) am_r114 3 Q 22 [(3, .ref 148), (0, .ref 0), (1, .int (nI 3)), (2, .int (Int32.ofInt 0))] [] h) from ⟨by decide, fun hz => absurd hz (by decide), fun _ => ?_⟩)
  refine am_goX 3 (show am_sh h 0 = some (10, 0) ∧ pz_S 4 (some .boolean) am_r114 3 Q 27 [(3, .ref 148), (0, .ref 0), (1, .int (nI 3)), (2, .int (Int32.ofInt 0))] [am_rf (h.2.2.1 0 7), .ref 148] h from ⟨ex_0 hP, ?_⟩)
  rw [show am_rf (h.2.2.1 0 7) = .ref 36 from congrArg am_rf (ex_r0_7 hP)]
  refine am_goX 2 (show am_sh h 0 = some (10, 0) ∧ pz_S 4 (some .boolean) am_r114 3 Q 31 [(3, .ref 148), (0, .ref 0), (1, .int (nI 3)), (2, .int (Int32.ofInt 0))] [.int (h.1 0 12), .ref 36, .ref 148] h from ⟨ex_0 hP, ?_⟩)
  rw [show h.1 0 12 = nI x from hx]
  refine am_goX 3 (show am_sh h 0 = some (10, 0) ∧ am_rc h 148 5 ∧ 0 ≤ 8 ∧ h.2.2.2.2 + am_al 115 ≤ 175 ∧ am_call am_cod 3 115 [.ref 148, .ref 36, .int (nI x), .int (h.1 0 13)] h (fun vv h' => pz_S 4 (some .boolean) am_r114 3 Q 38 [(3, .ref 148), (0, .ref 0), (1, .int (nI 3)), (2, .int (Int32.ofInt 0))] (vv.toList ++ []) h') from ⟨ex_0 hP, Or.inl ⟨by decide, ex_148 hP⟩, by decide, ex_lim hP rfl, am_call.up (k_115_3 hP (fun h482 f483 f484 f485 f486 f487 => ?_)) (by decide)⟩)
  have f488 : mC (mset M 3 s x) h482 := mC_set (m := 3) (fun a j n1 => f484.2 a j n1) f485 (sC_cp f486 hS) f487 hM
  have f489 : c_v 17 C h482 := c_v_fr (fun a k u1 u2 => f484.2 a k (by omega)) hT
  have f490 : c_d 17 C h482 := c_d_fr (fun k => f484.2 _ k (by omega)) hD
  have f491 : h482.2.2.1 0 3 = some 17 := (congrArg (fun q => q.2.1 0 3) f484.1).trans hR
  have f492 : sC 36 s h482 := sC_fr (fun a k u1 u2 => f484.2 a k (by omega)) hS
  have f493 : hC H h482 := hC_fr (fun a k u1 u2 => f484.2 a k (by omega)) hH
  have f494 : h482.1 0 12 = nI x := (f484.2 0 12 (by omega)).trans hx
  exact am_goX 2 (show (∃ ty, (some .boolean) = some ty ∧ narrow ty (.int (Int32.ofInt 1)) = .int (Int32.ofInt 1)) ∧ h482.2.2.2.2 = 175 ∧ _ from ⟨⟨.boolean, rfl, rfl⟩, ex_175 f483, hQ _ f483 hI f489 f490 f491 f492 f493 f488 f494⟩)
theorem d_114_bK17_3 (hP : ex_P h) (hI : cI C) (hT : c_v 17 C h) (hD : c_d 17 C h) (hR : h.2.2.1 0 3 = some 17) (hS : sC 36 s h) (hH : hC H h) (hM : mC M h) (hx : h.1 0 12 = nI x) (hm1 : M.1 3 = true) (hQ : ∀ h1, (ex_P h1) → (cI C) → (c_v 17 C h1) → (c_d 17 C h1) → (h1.2.2.1 0 3 = some 17) → (sC 36 (d_114b3_s s H M x) h1) → (hC (d_114b3_H s H M x) h1) → (mC M h1) → (h1.1 0 12 = nI (d_114b3_x s H M x)) → Q (some (.int (d_114b3 s H M x))) h1) : am_call am_cod 4 114 [.ref 0, .int (nI 3), .int (Int32.ofInt 1)] h Q := by
  have h6 := hT.1.2.1
  have h5 := hT.2.1.2.1
  refine pz_call (n := 114) (nL := 4) (rt := (some .boolean)) (rows := am_r114) (d := 3) (by decide +kernel) (by decide +kernel) rfl (by funext pc; rfl) (ex_175 hP) (by exact Nat.le_of_ble_eq_true rfl) ?_
  refine am_goX 4 (show 0 ≤ 8 ∧ h.2.2.2.2 + am_al 60 ≤ 175 ∧ am_call am_cod 3 60 [.int (nI 3), .int (Int32.ofInt 0), .int (Int32.ofInt 3)] h (fun vv h' => pz_S 4 (some .boolean) am_r114 3 Q 6 [(0, .ref 0), (1, .int (nI 3)), (2, .int (Int32.ofInt 1))] (vv.toList ++ []) h') from ⟨by decide, ex_lim hP rfl, am_call.up (d_60_w hP ?_) (by decide)⟩)
  rw [show d_60 (nI 3) (Int32.ofInt 0) (Int32.ofInt 3) = Int32.ofInt 1 from (by decide)]
  refine am_goX 1 (show (¬ (Int32.ofInt 1) = 0 → pz_S 4 (some .boolean) am_r114 3 Q 11 [(0, .ref 0), (1, .int (nI 3)), (2, .int (Int32.ofInt 1))] [] h) ∧ (¬ ¬ (Int32.ofInt 1) = 0 → pz_S 4 (some .boolean) am_r114 3 Q 9 [(0, .ref 0), (1, .int (nI 3)), (2, .int (Int32.ofInt 1))] [] h) from ⟨fun _ => ?_, fun hz => absurd (by decide) hz⟩)
  refine am_goX 2 (show am_sh h 0 = some (10, 0) ∧ pz_S 4 (some .boolean) am_r114 3 Q 15 [(0, .ref 0), (1, .int (nI 3)), (2, .int (Int32.ofInt 1))] [am_rf (h.2.2.1 0 11)] h from ⟨ex_0 hP, ?_⟩)
  rw [show am_rf (h.2.2.1 0 11) = .ref 129 from congrArg am_rf (ex_r0_11 hP)]
  refine am_goX 2 (show ∃ jj nn : Nat, (am_sh h 129 = some (16, nn) ∨ am_sh h 129 = some (17, nn)) ∧ jj < nn ∧ nI 3 = nI jj ∧ pz_S 4 (some .boolean) am_r114 3 Q 17 [(0, .ref 0), (1, .int (nI 3)), (2, .int (Int32.ofInt 1))] [am_rf (h.2.2.1 129 jj)] h from ⟨3, 4, Or.inl (ex_129 hP), by decide, rfl, ?_⟩)
  rw [show am_rf (h.2.2.1 129 3) = .ref 148 from congrArg am_rf (ex_r129_3 hP)]
  refine am_goX 3 (show 3 < 4 ∧ (¬ (Int32.ofInt 1) = 0 → pz_S 4 (some .boolean) am_r114 3 Q 40 [(3, .ref 148), (0, .ref 0), (1, .int (nI 3)), (2, .int (Int32.ofInt 1))] [] h) ∧ (¬ ¬ (Int32.ofInt 1) = 0 → pz_S 4 (some .boolean) am_r114 3 Q 22 [(3, .ref 148), (0, .ref 0), (1, .int (nI 3)), (2, .int (Int32.ofInt 1))] [] h) from ⟨by decide, fun _ => ?_, fun hz => absurd (by decide) hz⟩)
  refine am_goX 2 (show am_sh h 148 = some (5, 0) ∧ pz_S 4 (some .boolean) am_r114 3 Q 44 [(3, .ref 148), (0, .ref 0), (1, .int (nI 3)), (2, .int (Int32.ofInt 1))] [.int (h.1 148 0)] h from ⟨ex_148 hP, ?_⟩)
  rw [show h.1 148 0 = Int32.ofInt 1 from ((hM 3 (by decide)).1.trans (by rw [hm1]; rfl))]
  refine am_goX 1 (show (¬ (Int32.ofInt 1) = 0 → pz_S 4 (some .boolean) am_r114 3 Q 49 [(3, .ref 148), (0, .ref 0), (1, .int (nI 3)), (2, .int (Int32.ofInt 1))] [] h) ∧ (¬ ¬ (Int32.ofInt 1) = 0 → pz_S 4 (some .boolean) am_r114 3 Q 47 [(3, .ref 148), (0, .ref 0), (1, .int (nI 3)), (2, .int (Int32.ofInt 1))] [] h) from ⟨fun _ => ?_, fun hz => absurd (by decide) hz⟩)
  refine am_goX 2 (show am_sh h 0 = some (10, 0) ∧ pz_S 4 (some .boolean) am_r114 3 Q 53 [(3, .ref 148), (0, .ref 0), (1, .int (nI 3)), (2, .int (Int32.ofInt 1))] [am_rf (h.2.2.1 0 7)] h from ⟨ex_0 hP, ?_⟩)
  rw [show am_rf (h.2.2.1 0 7) = .ref 36 from congrArg am_rf (ex_r0_7 hP)]
  refine am_goX 2 (show am_sh h 148 = some (5, 0) ∧ pz_S 4 (some .boolean) am_r114 3 Q 57 [(3, .ref 148), (0, .ref 0), (1, .int (nI 3)), (2, .int (Int32.ofInt 1))] [am_rf (h.2.2.1 148 1), .ref 36] h from ⟨ex_148 hP, ?_⟩)
  rw [show am_rf (h.2.2.1 148 1) = .ref 149 from congrArg am_rf (ex_r148_1 hP)]
  refine am_goX 1 (show am_rc h 36 6 ∧ 0 ≤ 8 ∧ h.2.2.2.2 + am_al 99 ≤ 175 ∧ am_call am_cod 3 99 [.ref 36, .ref 149] h (fun vv h' => pz_S 4 (some .boolean) am_r114 3 Q 60 [(3, .ref 148), (0, .ref 0), (1, .int (nI 3)), (2, .int (Int32.ofInt 1))] (vv.toList ++ []) h') from ⟨Or.inl ⟨by decide, ex_36 hP⟩, by decide, ex_lim hP rfl, am_call.up (q_99 stO_36 stO_149 (by decide) hP (fun h495 f496 f497 f498 f499 => ?_)) (by decide)⟩)
  have f500 : sC 36 (M.2.1 3) h495 := sC_cp f499 ((hM 3 (by decide)).2 hm1).1
  have f501 : c_v 17 C h495 := c_v_fr (fun a k u1 u2 => f498 a k (by omega)) hT
  have f502 : c_d 17 C h495 := c_d_fr (fun k => f498 _ k (by omega)) hD
  have f503 : h495.2.2.1 0 3 = some 17 := (congrArg (fun q => q.2.1 0 3) f497).trans hR
  have f504 : hC H h495 := hC_fr (fun a k u1 u2 => f498 a k (by omega)) hH
  have f505 : mC M h495 := mC_fr (fun a k u1 u2 => f498 a k (by omega)) hM
  have f506 : h495.1 0 12 = nI x := (f498 0 12 (by omega)).trans hx
  refine am_goX 3 (show am_sh h495 148 = some (5, 0) ∧ pz_S 4 (some .boolean) am_r114 3 Q 65 [(3, .ref 148), (0, .ref 0), (1, .int (nI 3)), (2, .int (Int32.ofInt 1))] [.int (h495.1 148 2), .ref 0] h495 from ⟨ex_148 f496, ?_⟩)
  rw [show h495.1 148 2 = nI (M.2.2 3) from ((f505 3 (by decide)).2 hm1).2]
  refine am_goX 1 (show am_sh h495 0 = some (10, 0) ∧ narrow (am_fty 10 12) (.int (nI (M.2.2 3))) = .int (nI (M.2.2 3)) ∧ fits (am_fty 10 12) (.int (nI (M.2.2 3))) = true ∧ pz_S 4 (some .boolean) am_r114 3 Q 68 [(3, .ref 148), (0, .ref 0), (1, .int (nI 3)), (2, .int (Int32.ofInt 1))] [] (am_wI h495 0 12 (nI (M.2.2 3))) from ⟨ex_0 f496, rfl, rfl, ?_⟩)
  have f508 : ex_P (am_wI h495 0 12 (nI (M.2.2 3))) := f496
  have f509 : cI C := hI
  have f510 : c_v 17 C (am_wI h495 0 12 (nI (M.2.2 3))) := c_v_w (by omega) f501
  have f511 : c_d 17 C (am_wI h495 0 12 (nI (M.2.2 3))) := c_d_w (by omega) f502
  have f512 : (am_wI h495 0 12 (nI (M.2.2 3))).2.2.1 0 3 = some 17 := f503
  have f513 : sC 36 (M.2.1 3) (am_wI h495 0 12 (nI (M.2.2 3))) := sC_w (by omega) f500
  have f514 : hC H (am_wI h495 0 12 (nI (M.2.2 3))) := hC_w (by omega) f504
  have f515 : mC M (am_wI h495 0 12 (nI (M.2.2 3))) := mC_w (by omega) f505
  have f516 : (am_wI h495 0 12 (nI (M.2.2 3))).1 0 12 = nI (M.2.2 3) := (em_we _ _ _ _).trans (rfl)
  generalize am_wI h495 0 12 (nI (M.2.2 3)) = h507 at f508 f509 f510 f511 f512 f513 f514 f515 f516 ⊢
  refine am_goX 4 (show am_sh h507 148 = some (5, 0) ∧ am_sh h507 0 = some (10, 0) ∧ narrow (am_fty 10 13) (.int (h507.1 148 3)) = .int (h507.1 148 3) ∧ fits (am_fty 10 13) (.int (h507.1 148 3)) = true ∧ pz_S 4 (some .boolean) am_r114 3 Q 76 [(3, .ref 148), (0, .ref 0), (1, .int (nI 3)), (2, .int (Int32.ofInt 1))] [] (am_wI h507 0 13 (h507.1 148 3)) from ⟨ex_148 f508, ex_0 f508, rfl, rfl, ?_⟩)
  have f518 : ex_P (am_wI h507 0 13 (h507.1 148 3)) := f508
  have f519 : cI C := f509
  have f520 : c_v 17 C (am_wI h507 0 13 (h507.1 148 3)) := c_v_w (by omega) f510
  have f521 : c_d 17 C (am_wI h507 0 13 (h507.1 148 3)) := c_d_w (by omega) f511
  have f522 : (am_wI h507 0 13 (h507.1 148 3)).2.2.1 0 3 = some 17 := f512
  have f523 : sC 36 (M.2.1 3) (am_wI h507 0 13 (h507.1 148 3)) := sC_w (by omega) f513
  have f524 : hC H (am_wI h507 0 13 (h507.1 148 3)) := hC_w (by omega) f514
  have f525 : mC M (am_wI h507 0 13 (h507.1 148 3)) := mC_w (by omega) f515
  have f526 : (am_wI h507 0 13 (h507.1 148 3)).1 0 12 = nI (M.2.2 3) := (em_wn _ _ (by omega)).trans f516
  generalize am_wI h507 0 13 (h507.1 148 3) = h517 at f518 f519 f520 f521 f522 f523 f524 f525 f526 ⊢
  refine am_goX 2 (show am_sh h517 0 = some (10, 0) ∧ pz_S 4 (some .boolean) am_r114 3 Q 80 [(3, .ref 148), (0, .ref 0), (1, .int (nI 3)), (2, .int (Int32.ofInt 1))] [am_rf (h517.2.2.1 0 10)] h517 from ⟨ex_0 f518, ?_⟩)
  rw [show am_rf (h517.2.2.1 0 10) = .ref 47 from congrArg am_rf (ex_r0_10 f518)]
  refine am_goX 2 (show am_sh h517 47 = some (2, 0) ∧ narrow (am_fty 2 2) (.int (Int32.ofInt 0)) = .int (Int32.ofInt 0) ∧ fits (am_fty 2 2) (.int (Int32.ofInt 0)) = true ∧ pz_S 4 (some .boolean) am_r114 3 Q 84 [(3, .ref 148), (0, .ref 0), (1, .int (nI 3)), (2, .int (Int32.ofInt 1))] [] (am_wI h517 47 2 (Int32.ofInt 0)) from ⟨ex_47 f518, rfl, rfl, ?_⟩)
  have f528 : ex_P (am_wI h517 47 2 (Int32.ofInt 0)) := f518
  have f529 : cI C := f519
  have f530 : c_v 17 C (am_wI h517 47 2 (Int32.ofInt 0)) := c_v_w (by omega) f520
  have f531 : c_d 17 C (am_wI h517 47 2 (Int32.ofInt 0)) := c_d_w (by omega) f521
  have f532 : (am_wI h517 47 2 (Int32.ofInt 0)).2.2.1 0 3 = some 17 := f522
  have f533 : sC 36 (M.2.1 3) (am_wI h517 47 2 (Int32.ofInt 0)) := sC_w (by omega) f523
  have f534 : hC (0, H.2) (am_wI h517 47 2 (Int32.ofInt 0)) := hC_z f524
  have f535 : mC M (am_wI h517 47 2 (Int32.ofInt 0)) := mC_w (by omega) f525
  have f536 : (am_wI h517 47 2 (Int32.ofInt 0)).1 0 12 = nI (M.2.2 3) := (em_wn _ _ (by omega)).trans f526
  generalize am_wI h517 47 2 (Int32.ofInt 0) = h527 at f528 f529 f530 f531 f532 f533 f534 f535 f536 ⊢
  exact am_goX 2 (show (∃ ty, (some .boolean) = some ty ∧ narrow ty (.int (Int32.ofInt 1)) = .int (Int32.ofInt 1)) ∧ h527.2.2.2.2 = 175 ∧ _ from ⟨⟨.boolean, rfl, rfl⟩, ex_175 f528, hQ _ f528 f529 f530 f531 f532 f533 f534 f535 f536⟩)
theorem d_114_nK17_3 (hP : ex_P h) (hI : cI C) (hT : c_v 17 C h) (hD : c_d 17 C h) (hR : h.2.2.1 0 3 = some 17) (hS : sC 36 s h) (hH : hC H h) (hM : mC M h) (hx : h.1 0 12 = nI x) (hm1 : M.1 3 = false) (hQ : ∀ h1, (ex_P h1) → (cI C) → (c_v 17 C h1) → (c_d 17 C h1) → (h1.2.2.1 0 3 = some 17) → (sC 36 s h1) → (hC H h1) → (mC M h1) → (h1.1 0 12 = nI x) → Q (some (.int d_114n)) h1) : am_call am_cod 4 114 [.ref 0, .int (nI 3), .int (Int32.ofInt 1)] h Q := by
  have h6 := hT.1.2.1
  have h5 := hT.2.1.2.1
  refine pz_call (n := 114) (nL := 4) (rt := (some .boolean)) (rows := am_r114) (d := 3) (by decide +kernel) (by decide +kernel) rfl (by funext pc; rfl) (ex_175 hP) (by exact Nat.le_of_ble_eq_true rfl) ?_
  refine am_goX 4 (show 0 ≤ 8 ∧ h.2.2.2.2 + am_al 60 ≤ 175 ∧ am_call am_cod 3 60 [.int (nI 3), .int (Int32.ofInt 0), .int (Int32.ofInt 3)] h (fun vv h' => pz_S 4 (some .boolean) am_r114 3 Q 6 [(0, .ref 0), (1, .int (nI 3)), (2, .int (Int32.ofInt 1))] (vv.toList ++ []) h') from ⟨by decide, ex_lim hP rfl, am_call.up (d_60_w hP ?_) (by decide)⟩)
  rw [show d_60 (nI 3) (Int32.ofInt 0) (Int32.ofInt 3) = Int32.ofInt 1 from (by decide)]
  refine am_goX 1 (show (¬ (Int32.ofInt 1) = 0 → pz_S 4 (some .boolean) am_r114 3 Q 11 [(0, .ref 0), (1, .int (nI 3)), (2, .int (Int32.ofInt 1))] [] h) ∧ (¬ ¬ (Int32.ofInt 1) = 0 → pz_S 4 (some .boolean) am_r114 3 Q 9 [(0, .ref 0), (1, .int (nI 3)), (2, .int (Int32.ofInt 1))] [] h) from ⟨fun _ => ?_, fun hz => absurd (by decide) hz⟩)
  refine am_goX 2 (show am_sh h 0 = some (10, 0) ∧ pz_S 4 (some .boolean) am_r114 3 Q 15 [(0, .ref 0), (1, .int (nI 3)), (2, .int (Int32.ofInt 1))] [am_rf (h.2.2.1 0 11)] h from ⟨ex_0 hP, ?_⟩)
  rw [show am_rf (h.2.2.1 0 11) = .ref 129 from congrArg am_rf (ex_r0_11 hP)]
  refine am_goX 2 (show ∃ jj nn : Nat, (am_sh h 129 = some (16, nn) ∨ am_sh h 129 = some (17, nn)) ∧ jj < nn ∧ nI 3 = nI jj ∧ pz_S 4 (some .boolean) am_r114 3 Q 17 [(0, .ref 0), (1, .int (nI 3)), (2, .int (Int32.ofInt 1))] [am_rf (h.2.2.1 129 jj)] h from ⟨3, 4, Or.inl (ex_129 hP), by decide, rfl, ?_⟩)
  rw [show am_rf (h.2.2.1 129 3) = .ref 148 from congrArg am_rf (ex_r129_3 hP)]
  refine am_goX 3 (show 3 < 4 ∧ (¬ (Int32.ofInt 1) = 0 → pz_S 4 (some .boolean) am_r114 3 Q 40 [(3, .ref 148), (0, .ref 0), (1, .int (nI 3)), (2, .int (Int32.ofInt 1))] [] h) ∧ (¬ ¬ (Int32.ofInt 1) = 0 → pz_S 4 (some .boolean) am_r114 3 Q 22 [(3, .ref 148), (0, .ref 0), (1, .int (nI 3)), (2, .int (Int32.ofInt 1))] [] h) from ⟨by decide, fun _ => ?_, fun hz => absurd (by decide) hz⟩)
  refine am_goX 2 (show am_sh h 148 = some (5, 0) ∧ pz_S 4 (some .boolean) am_r114 3 Q 44 [(3, .ref 148), (0, .ref 0), (1, .int (nI 3)), (2, .int (Int32.ofInt 1))] [.int (h.1 148 0)] h from ⟨ex_148 hP, ?_⟩)
  rw [show h.1 148 0 = Int32.ofInt 0 from ((hM 3 (by decide)).1.trans (by rw [hm1]; rfl))]
  refine am_goX 1 (show (¬ (Int32.ofInt 0) = 0 → pz_S 4 (some .boolean) am_r114 3 Q 49 [(3, .ref 148), (0, .ref 0), (1, .int (nI 3)), (2, .int (Int32.ofInt 1))] [] h) ∧ (¬ ¬ (Int32.ofInt 0) = 0 → pz_S 4 (some .boolean) am_r114 3 Q 47 [(3, .ref 148), (0, .ref 0), (1, .int (nI 3)), (2, .int (Int32.ofInt 1))] [] h) from ⟨fun hz => absurd hz (by decide), fun _ => ?_⟩)
  exact am_goX 2 (show (∃ ty, (some .boolean) = some ty ∧ narrow ty (.int (Int32.ofInt 0)) = .int (Int32.ofInt 0)) ∧ h.2.2.2.2 = 175 ∧ _ from ⟨⟨.boolean, rfl, rfl⟩, ex_175 hP, hQ _ hP hI hT hD hR hS hH hM hx⟩)
theorem d_114_xK17 (hP : ex_P h) (hI : cI C) (hT : c_v 17 C h) (hD : c_d 17 C h) (hR : h.2.2.1 0 3 = some 17) (hS : sC 36 s h) (hH : hC H h) (hM : mC M h) (hx : h.1 0 12 = nI x) (ew : d_60 w (Int32.ofInt 0) (Int32.ofInt 3) = Int32.ofInt 0) (hQ : ∀ h1, (ex_P h1) → (cI C) → (c_v 17 C h1) → (c_d 17 C h1) → (h1.2.2.1 0 3 = some 17) → (sC 36 s h1) → (hC H h1) → (mC M h1) → (h1.1 0 12 = nI x) → Q (some (.int d_114n)) h1) : am_call am_cod 4 114 [.ref 0, .int w, .int b] h Q := by
  have h6 := hT.1.2.1
  have h5 := hT.2.1.2.1
  refine pz_call (n := 114) (nL := 4) (rt := (some .boolean)) (rows := am_r114) (d := 3) (by decide +kernel) (by decide +kernel) rfl (by funext pc; rfl) (ex_175 hP) (by exact Nat.le_of_ble_eq_true rfl) ?_
  refine am_goX 4 (show 0 ≤ 8 ∧ h.2.2.2.2 + am_al 60 ≤ 175 ∧ am_call am_cod 3 60 [.int w, .int (Int32.ofInt 0), .int (Int32.ofInt 3)] h (fun vv h' => pz_S 4 (some .boolean) am_r114 3 Q 6 [(0, .ref 0), (1, .int w), (2, .int b)] (vv.toList ++ []) h') from ⟨by decide, ex_lim hP rfl, am_call.up (d_60_w hP ?_) (by decide)⟩)
  rw [show d_60 w (Int32.ofInt 0) (Int32.ofInt 3) = Int32.ofInt 0 from ew]
  refine am_goX 1 (show (¬ (Int32.ofInt 0) = 0 → pz_S 4 (some .boolean) am_r114 3 Q 11 [(0, .ref 0), (1, .int w), (2, .int b)] [] h) ∧ (¬ ¬ (Int32.ofInt 0) = 0 → pz_S 4 (some .boolean) am_r114 3 Q 9 [(0, .ref 0), (1, .int w), (2, .int b)] [] h) from ⟨fun hz => absurd hz (by decide), fun _ => ?_⟩)
  exact am_goX 2 (show (∃ ty, (some .boolean) = some ty ∧ narrow ty (.int (Int32.ofInt 0)) = .int (Int32.ofInt 0)) ∧ h.2.2.2.2 = 175 ∧ _ from ⟨⟨.boolean, rfl, rfl⟩, ex_175 hP, hQ _ hP hI hT hD hR hS hH hM hx⟩)
theorem d_291_l (hP : ex_P h) (hI : cI C) (hT : tR C h) (hO : ∀ e, e < dE C → h.1 172 e = dW V e) (hS : sR 0 (dP C) s h) (hH : hL (dP C) H h) (hx : h.1 170 24 = nI x) (hM : mL (dP C) M h) (hm : m < 4) (hQ : ∀ h1, ex_P h1 → cI C → tR C h1 → (∀ e, e < dE C → h1.1 172 e = dW V e) → sR 0 (dP C) s h1 → hL (dP C) H h1 → mL (dP C) (mset M m s x) h1 → h1.1 170 24 = nI x → Q (some (.int (Int32.ofInt 1))) h1) : am_call am_cod 3 291 [.ref 154, .int (nI m), .int (Int32.ofInt 0)] h Q := by
  have h6 := hT.1.2.1
  have h5 := hT.2.1.2.1
  refine pz_call (n := 291) (nL := 3) (rt := (some .boolean)) (rows := am_r291) (d := 2) (by decide +kernel) (by decide +kernel) rfl (by funext pc; rfl) (ex_175 hP) (by exact Nat.le_of_ble_eq_true rfl) ?_
  have hX := mX_0 (m := m) (h := h)
  refine am_goX 3 (show am_sh h 154 = some (11, 0) ∧ narrow (am_fty 11 0) (.int (Int32.ofInt 0)) = .int (Int32.ofInt 0) ∧ fits (am_fty 11 0) (.int (Int32.ofInt 0)) = true ∧ pz_S 3 (some .boolean) am_r291 2 Q 5 [(0, .ref 154), (1, .int (nI m)), (2, .int (Int32.ofInt 0))] [] (am_wI h 154 0 (Int32.ofInt 0)) from ⟨ex_154 hP, rfl, rfl, ?_⟩)
  have f538 : ex_P (am_wI h 154 0 (Int32.ofInt 0)) := hP
  have f539 : cI C := hI
  have f540 : tR C (am_wI h 154 0 (Int32.ofInt 0)) := tR_w (by omega) hT
  have f541 : ∀ e, e < dE C → (am_wI h 154 0 (Int32.ofInt 0)).1 172 e = dW V e := on_w (by omega) hO
  have f542 : sR 0 (dP C) s (am_wI h 154 0 (Int32.ofInt 0)) := sR_o (by omega) hS
  have f543 : hL (dP C) H (am_wI h 154 0 (Int32.ofInt 0)) := hL_w (by omega) hH
  have f544 : (am_wI h 154 0 (Int32.ofInt 0)).1 170 24 = nI x := (em_wn _ _ (by omega)).trans hx
  have f545 : mX m h (am_wI h 154 0 (Int32.ofInt 0)) := mX_w (by omega) hX
  generalize am_wI h 154 0 (Int32.ofInt 0) = h537 at f538 f539 f540 f541 f542 f543 f544 f545 ⊢
  refine am_goX 4 (show 0 ≤ 8 ∧ h537.2.2.2.2 + am_al 207 ≤ 175 ∧ am_call am_cod 2 207 [.int (nI m), .int (Int32.ofInt 0), .int (Int32.ofInt 3)] h537 (fun vv h' => pz_S 3 (some .boolean) am_r291 2 Q 11 [(0, .ref 154), (1, .int (nI m)), (2, .int (Int32.ofInt 0))] (vv.toList ++ []) h') from ⟨by decide, ex_lim f538 rfl, am_call.up (d_207_w f538 ?_) (by decide)⟩)
  rw [show d_207 (nI m) (Int32.ofInt 0) (Int32.ofInt 3) = Int32.ofInt 1 from ((d_207_e _ _ _).trans (v_60 (lo := 0) (hi := 3) (by omega) (by omega) (by decide)))]
  refine am_goX 1 (show ((Int32.ofInt 1) = 0 → pz_S 3 (some .boolean) am_r291 2 Q 27 [(0, .ref 154), (1, .int (nI m)), (2, .int (Int32.ofInt 0))] [] h537) ∧ (¬ ((Int32.ofInt 1) = 0) → pz_S 3 (some .boolean) am_r291 2 Q 14 [(0, .ref 154), (1, .int (nI m)), (2, .int (Int32.ofInt 0))] [] h537) from ⟨fun hz => absurd hz (by decide), fun _ => ?_⟩)
  refine am_goX 2 (show ((Int32.ofInt 0) = 0 → pz_S 3 (some .boolean) am_r291 2 Q 29 [(0, .ref 154), (1, .int (nI m)), (2, .int (Int32.ofInt 0))] [] h537) ∧ (¬ ((Int32.ofInt 0) = 0) → pz_S 3 (some .boolean) am_r291 2 Q 18 [(0, .ref 154), (1, .int (nI m)), (2, .int (Int32.ofInt 0))] [] h537) from ⟨fun _ => ?_, fun hz => absurd (by decide) hz⟩)
  refine am_goX 2 (show am_sh h537 154 = some (11, 0) ∧ pz_S 3 (some .boolean) am_r291 2 Q 33 [(0, .ref 154), (1, .int (nI m)), (2, .int (Int32.ofInt 0))] [am_rf (h537.2.2.1 154 26)] h537 from ⟨ex_154 f538, ?_⟩)
  rw [show am_rf (h537.2.2.1 154 26) = .ref 171 from congrArg am_rf (ex_r154_26 f538)]
  refine am_goX 3 (show ∃ jj nn : Nat, am_so h537 171 = some (15, nn) ∧ jj < nn ∧ nI m = nI jj ∧ pz_S 3 (some .boolean) am_r291 2 Q 36 [(0, .ref 154), (1, .int (nI m)), (2, .int (Int32.ofInt 0))] [] (am_wI h537 171 jj (vp_nar .boolean (Int32.ofInt 1))) from ⟨m, 4, ex_w171 f538, (by omega), rfl, ?_⟩)
  have f547 : ex_P (am_wI h537 171 m (vp_nar .boolean (Int32.ofInt 1))) := f538
  have f548 : cI C := f539
  have f549 : tR C (am_wI h537 171 m (vp_nar .boolean (Int32.ofInt 1))) := tR_w (by omega) f540
  have f550 : ∀ e, e < dE C → (am_wI h537 171 m (vp_nar .boolean (Int32.ofInt 1))).1 172 e = dW V e := on_w (by omega) f541
  have f551 : sR 0 (dP C) s (am_wI h537 171 m (vp_nar .boolean (Int32.ofInt 1))) := sR_o (by omega) f542
  have f552 : hL (dP C) H (am_wI h537 171 m (vp_nar .boolean (Int32.ofInt 1))) := hL_w (by omega) f543
  have f553 : (am_wI h537 171 m (vp_nar .boolean (Int32.ofInt 1))).1 170 24 = nI x := (em_wn _ _ (by omega)).trans f544
  have f554 : mX m h (am_wI h537 171 m (vp_nar .boolean (Int32.ofInt 1))) := mX_w (by omega) f545
  have f555 : (am_wI h537 171 m (vp_nar .boolean (Int32.ofInt 1))).1 171 m = 1 := em_we _ _ _ _
  generalize am_wI h537 171 m (vp_nar .boolean (Int32.ofInt 1)) = h546 at f547 f548 f549 f550 f551 f552 f553 f554 f555 ⊢
  refine am_goX 3 (show ((Int32.ofInt 0) = 0 → pz_S 3 (some .boolean) am_r291 2 Q 50 [(0, .ref 154), (1, .int (nI m)), (2, .int (Int32.ofInt 0))] [.ref 154] h546) ∧ (¬ ((Int32.ofInt 0) = 0) → pz_S 3 (some .boolean) am_r291 2 Q 41 [(0, .ref 154), (1, .int (nI m)), (2, .int (Int32.ofInt 0))] [.ref 154] h546) from ⟨fun _ => ?_, fun hz => absurd (by decide) hz⟩)
  refine am_goX 3 (show ((Int32.ofInt 0) = 0 → pz_S 3 (some .boolean) am_r291 2 Q 59 [(0, .ref 154), (1, .int (nI m)), (2, .int (Int32.ofInt 0))] [.int (Int32.ofInt 0), .ref 154] h546) ∧ (¬ ((Int32.ofInt 0) = 0) → pz_S 3 (some .boolean) am_r291 2 Q 55 [(0, .ref 154), (1, .int (nI m)), (2, .int (Int32.ofInt 0))] [.int (Int32.ofInt 0), .ref 154] h546) from ⟨fun _ => ?_, fun hz => absurd (by decide) hz⟩)
  refine am_goX 6 (show pz_S 3 (some .boolean) am_r291 2 Q 67 [(0, .ref 154), (1, .int (nI m)), (2, .int (Int32.ofInt 0))] [.int ((Int8.ofInt 49).toInt32), .int (((Int8.ofInt 49).toInt32) * ((Int32.ofInt 1) + (nI m))), .int (Int32.ofInt 0), .ref 154] h546 from ?_)
  rw [show Int32.ofInt 0 = nI 0 from rfl]
  rw [show ((Int8.ofInt 49).toInt32) * ((Int32.ofInt 1) + (nI m)) = nI (49 * (1 + m)) from (dn_m (show (Int8.ofInt 49).toInt32 = nI 49 by decide) (dn_a rfl rfl))]
  rw [show (Int8.ofInt 49).toInt32 = nI 49 from (show (Int8.ofInt 49).toInt32 = nI 49 by decide)]
  refine am_goX 1 (show am_rc h546 154 11 ∧ 0 ≤ 8 ∧ h546.2.2.2.2 + am_al 232 ≤ 175 ∧ am_call am_cod 2 232 [.ref 154, .int (nI 0), .int (nI (49 * (1 + m))), .int (nI 49)] h546 (fun vv h' => pz_S 3 (some .boolean) am_r291 2 Q 70 [(0, .ref 154), (1, .int (nI m)), (2, .int (nI 0))] (vv.toList ++ []) h') from ⟨Or.inl ⟨by decide, ex_154 f547⟩, by decide, ex_lim f547 rfl, am_call.up (q_232 (A := 0) (B := (49 * (1 + m))) (K := 49) rfl rfl rfl (by omega) (by omega) (by omega) f547 (fun h556 f557 f558 f559 f560 => ?_)) (by decide)⟩)
  have f561 : mX m h h556 := ⟨fun j hj hn => (f559 _ _ (by omega)).trans (f554.1 j hj hn), fun q h1 h2 h3 => (f559 _ _ (by omega)).trans (f554.2 q h1 h2 h3)⟩
  have f562 : sR (49 + 49 * m) (dP C) s h556 := sR_cp (A := 0) (fun j hj => by have w := f560 j (by omega); rw [show (49 * (1 + m)) + j = 49 + 49 * m + j by omega] at w; exact w) h6 f551
  have f563 : h556.1 170 (73 + 49 * m) = nI x := by have w := f560 24 (by omega); rw [show (49 * (1 + m)) + 24 = 73 + 49 * m by omega] at w; exact w.trans f553
  have f564 : h556.1 171 m = 1 := (f559 _ _ (by omega)).trans f555
  have f565 : tR C h556 := tR_fr (fun a k u1 u2 => f559 a k (by omega)) f549
  have f566 : ∀ e, e < dE C → h556.1 172 e = dW V e := fun e he => (f559 172 e (by omega)).trans (f550 e he)
  have f567 : sR 0 (dP C) s h556 := sR_fr (fun k u1 u2 => f559 170 k (by omega)) f549.1.2.1 f551
  have f568 : hL (dP C) H h556 := hL_fr f549.1.2.1 (f559 154 25 (by omega)) (fun k u1 u2 => f559 170 k (by omega)) f552
  have f569 : h556.1 170 24 = nI x := (f559 170 24 (by omega)).trans f553
  refine am_goX 3 (show ((nI 0) = 0 → pz_S 3 (some .boolean) am_r291 2 Q 79 [(0, .ref 154), (1, .int (nI m)), (2, .int (nI 0))] [.ref 154] h556) ∧ (¬ ((nI 0) = 0) → pz_S 3 (some .boolean) am_r291 2 Q 75 [(0, .ref 154), (1, .int (nI m)), (2, .int (nI 0))] [.ref 154] h556) from ⟨fun _ => ?_, fun hz => absurd (by decide) hz⟩)
  refine am_goX 2 (show am_sh h556 154 = some (11, 0) ∧ pz_S 3 (some .boolean) am_r291 2 Q 83 [(0, .ref 154), (1, .int (nI m)), (2, .int (nI 0))] [.int (h556.1 154 25), .ref 154] h556 from ⟨ex_154 f557, ?_⟩)
  rw [show h556.1 154 25 = nI H.1 from f568.2.1]
  refine am_goX 1 (show am_sh h556 154 = some (11, 0) ∧ narrow (am_fty 11 25) (.int (nI H.1)) = .int (nI H.1) ∧ fits (am_fty 11 25) (.int (nI H.1)) = true ∧ pz_S 3 (some .boolean) am_r291 2 Q 86 [(0, .ref 154), (1, .int (nI m)), (2, .int (nI 0))] [] (am_wI h556 154 25 (nI H.1)) from ⟨ex_154 f557, rfl, rfl, ?_⟩)
  have f571 : ex_P (am_wI h556 154 25 (nI H.1)) := f557
  have f572 : cI C := f548
  have f573 : tR C (am_wI h556 154 25 (nI H.1)) := tR_w (by omega) f565
  have f574 : ∀ e, e < dE C → (am_wI h556 154 25 (nI H.1)).1 172 e = dW V e := on_w (by omega) f566
  have f575 : sR 0 (dP C) s (am_wI h556 154 25 (nI H.1)) := sR_o (by omega) f567
  have f576 : hL (dP C) H (am_wI h556 154 25 (nI H.1)) := hL_same f568
  have f577 : (am_wI h556 154 25 (nI H.1)).1 170 24 = nI x := (em_wn _ _ (by omega)).trans f569
  have f578 : mX m h (am_wI h556 154 25 (nI H.1)) := mX_w (by omega) f561
  have f579 : (am_wI h556 154 25 (nI H.1)).1 171 m = 1 := (em_wn _ _ (by omega)).trans f564
  have f580 : sR (49 + 49 * m) (dP C) s (am_wI h556 154 25 (nI H.1)) := sR_o (by omega) f562
  have f581 : (am_wI h556 154 25 (nI H.1)).1 170 (73 + 49 * m) = nI x := (em_wn _ _ (by omega)).trans f563
  generalize am_wI h556 154 25 (nI H.1) = h570 at f571 f572 f573 f574 f575 f576 f577 f578 f579 f580 f581 ⊢
  exact am_goX 2 (show (∃ ty, (some .boolean) = some ty ∧ narrow ty (.int (Int32.ofInt 1)) = .int (Int32.ofInt 1)) ∧ h570.2.2.2.2 = 175 ∧ _ from ⟨⟨.boolean, rfl, rfl⟩, ex_175 f571, hQ _ f571 f572 f573 f574 f575 f576 (mL_set h6 f578.1 f578.2 f579 f580 f581 hM) f577⟩)
def d_291b_s (s : dS) (H : dH) (M : dMk) (x m : Nat) : dS := (M.2.1 m)
def d_291b_H (s : dS) (H : dH) (M : dMk) (x m : Nat) : dH := (0, H.2)
def d_291b_x (s : dS) (H : dH) (M : dMk) (x m : Nat) : Nat := (M.2.2 m)
def d_291b (s : dS) (H : dH) (M : dMk) (x m : Nat) : Int32 := Int32.ofInt 1
theorem d_291_b (hP : ex_P h) (hI : cI C) (hT : tR C h) (hO : ∀ e, e < dE C → h.1 172 e = dW V e) (hS : sR 0 (dP C) s h) (hH : hL (dP C) H h) (hM : mL (dP C) M h) (hx : h.1 170 24 = nI x) (hm : m < 4) (hm1 : M.1 m = true) (hQ : ∀ h1, (ex_P h1) → (cI C) → (tR C h1) → (∀ e, e < dE C → h1.1 172 e = dW V e) → (sR 0 (dP C) (d_291b_s s H M x m) h1) → (hL (dP C) (d_291b_H s H M x m) h1) → (mL (dP C) M h1) → (h1.1 170 24 = nI (d_291b_x s H M x m)) → Q (some (.int (d_291b s H M x m))) h1) : am_call am_cod 3 291 [.ref 154, .int (nI m), .int (Int32.ofInt 1)] h Q := by
  have h6 := hT.1.2.1
  have h5 := hT.2.1.2.1
  refine pz_call (n := 291) (nL := 3) (rt := (some .boolean)) (rows := am_r291) (d := 2) (by decide +kernel) (by decide +kernel) rfl (by funext pc; rfl) (ex_175 hP) (by exact Nat.le_of_ble_eq_true rfl) ?_
  refine am_goX 3 (show am_sh h 154 = some (11, 0) ∧ narrow (am_fty 11 0) (.int (Int32.ofInt 0)) = .int (Int32.ofInt 0) ∧ fits (am_fty 11 0) (.int (Int32.ofInt 0)) = true ∧ pz_S 3 (some .boolean) am_r291 2 Q 5 [(0, .ref 154), (1, .int (nI m)), (2, .int (Int32.ofInt 1))] [] (am_wI h 154 0 (Int32.ofInt 0)) from ⟨ex_154 hP, rfl, rfl, ?_⟩)
  have f583 : ex_P (am_wI h 154 0 (Int32.ofInt 0)) := hP
  have f584 : cI C := hI
  have f585 : tR C (am_wI h 154 0 (Int32.ofInt 0)) := tR_w (by omega) hT
  have f586 : ∀ e, e < dE C → (am_wI h 154 0 (Int32.ofInt 0)).1 172 e = dW V e := on_w (by omega) hO
  have f587 : sR 0 (dP C) s (am_wI h 154 0 (Int32.ofInt 0)) := sR_o (by omega) hS
  have f588 : hL (dP C) H (am_wI h 154 0 (Int32.ofInt 0)) := hL_w (by omega) hH
  have f589 : mL (dP C) M (am_wI h 154 0 (Int32.ofInt 0)) := mL_w (by omega) hM
  have f590 : (am_wI h 154 0 (Int32.ofInt 0)).1 170 24 = nI x := (em_wn _ _ (by omega)).trans hx
  generalize am_wI h 154 0 (Int32.ofInt 0) = h582 at f583 f584 f585 f586 f587 f588 f589 f590 ⊢
  refine am_goX 4 (show 0 ≤ 8 ∧ h582.2.2.2.2 + am_al 207 ≤ 175 ∧ am_call am_cod 2 207 [.int (nI m), .int (Int32.ofInt 0), .int (Int32.ofInt 3)] h582 (fun vv h' => pz_S 3 (some .boolean) am_r291 2 Q 11 [(0, .ref 154), (1, .int (nI m)), (2, .int (Int32.ofInt 1))] (vv.toList ++ []) h') from ⟨by decide, ex_lim f583 rfl, am_call.up (d_207_w f583 ?_) (by decide)⟩)
  rw [show d_207 (nI m) (Int32.ofInt 0) (Int32.ofInt 3) = Int32.ofInt 1 from ((d_207_e _ _ _).trans (v_60 (lo := 0) (hi := 3) (by omega) (by omega) (by decide)))]
  refine am_goX 1 (show ((Int32.ofInt 1) = 0 → pz_S 3 (some .boolean) am_r291 2 Q 27 [(0, .ref 154), (1, .int (nI m)), (2, .int (Int32.ofInt 1))] [] h582) ∧ (¬ ((Int32.ofInt 1) = 0) → pz_S 3 (some .boolean) am_r291 2 Q 14 [(0, .ref 154), (1, .int (nI m)), (2, .int (Int32.ofInt 1))] [] h582) from ⟨fun hz => absurd hz (by decide), fun _ => ?_⟩)
  refine am_goX 2 (show ((Int32.ofInt 1) = 0 → pz_S 3 (some .boolean) am_r291 2 Q 29 [(0, .ref 154), (1, .int (nI m)), (2, .int (Int32.ofInt 1))] [] h582) ∧ (¬ ((Int32.ofInt 1) = 0) → pz_S 3 (some .boolean) am_r291 2 Q 18 [(0, .ref 154), (1, .int (nI m)), (2, .int (Int32.ofInt 1))] [] h582) from ⟨fun hz => absurd hz (by decide), fun _ => ?_⟩)
  refine am_goX 2 (show am_sh h582 154 = some (11, 0) ∧ pz_S 3 (some .boolean) am_r291 2 Q 22 [(0, .ref 154), (1, .int (nI m)), (2, .int (Int32.ofInt 1))] [am_rf (h582.2.2.1 154 26)] h582 from ⟨ex_154 f583, ?_⟩)
  rw [show am_rf (h582.2.2.1 154 26) = .ref 171 from congrArg am_rf (ex_r154_26 f583)]
  refine am_goX 2 (show (∃ jj nn : Nat, am_sh h582 171 = some (15, nn) ∧ jj < nn ∧ nI m = nI jj ∧ pz_S 3 (some .boolean) am_r291 2 Q 24 [(0, .ref 154), (1, .int (nI m)), (2, .int (Int32.ofInt 1))] [.int (h582.1 171 jj)] h582) ∨ _ from Or.inl ⟨m, 4, ex_171 f583, (by omega), rfl, ?_⟩)
  rw [show h582.1 171 m = Int32.ofInt 1 from ((f589 m hm).1.trans (by rw [hm1]; rfl))]
  refine am_goX 1 (show (¬ (Int32.ofInt 1) = 0 → pz_S 3 (some .boolean) am_r291 2 Q 29 [(0, .ref 154), (1, .int (nI m)), (2, .int (Int32.ofInt 1))] [] h582) ∧ (¬ ¬ (Int32.ofInt 1) = 0 → pz_S 3 (some .boolean) am_r291 2 Q 27 [(0, .ref 154), (1, .int (nI m)), (2, .int (Int32.ofInt 1))] [] h582) from ⟨fun _ => ?_, fun hz => absurd (by decide) hz⟩)
  refine am_goX 2 (show am_sh h582 154 = some (11, 0) ∧ pz_S 3 (some .boolean) am_r291 2 Q 33 [(0, .ref 154), (1, .int (nI m)), (2, .int (Int32.ofInt 1))] [am_rf (h582.2.2.1 154 26)] h582 from ⟨ex_154 f583, ?_⟩)
  rw [show am_rf (h582.2.2.1 154 26) = .ref 171 from congrArg am_rf (ex_r154_26 f583)]
  refine am_goX 3 (show ∃ jj nn : Nat, am_so h582 171 = some (15, nn) ∧ jj < nn ∧ nI m = nI jj ∧ pz_S 3 (some .boolean) am_r291 2 Q 36 [(0, .ref 154), (1, .int (nI m)), (2, .int (Int32.ofInt 1))] [] (am_wI h582 171 jj (vp_nar .boolean (Int32.ofInt 1))) from ⟨m, 4, ex_w171 f583, (by omega), rfl, ?_⟩)
  have f592 : ex_P (am_wI h582 171 m (vp_nar .boolean (Int32.ofInt 1))) := f583
  have f593 : cI C := f584
  have f594 : tR C (am_wI h582 171 m (vp_nar .boolean (Int32.ofInt 1))) := tR_w (by omega) f585
  have f595 : ∀ e, e < dE C → (am_wI h582 171 m (vp_nar .boolean (Int32.ofInt 1))).1 172 e = dW V e := on_w (by omega) f586
  have f596 : sR 0 (dP C) s (am_wI h582 171 m (vp_nar .boolean (Int32.ofInt 1))) := sR_o (by omega) f587
  have f597 : hL (dP C) H (am_wI h582 171 m (vp_nar .boolean (Int32.ofInt 1))) := hL_w (by omega) f588
  have f598 : mL (dP C) M (am_wI h582 171 m (vp_nar .boolean (Int32.ofInt 1))) := mL_same hm hm1 f589
  have f599 : (am_wI h582 171 m (vp_nar .boolean (Int32.ofInt 1))).1 170 24 = nI x := (em_wn _ _ (by omega)).trans f590
  generalize am_wI h582 171 m (vp_nar .boolean (Int32.ofInt 1)) = h591 at f592 f593 f594 f595 f596 f597 f598 f599 ⊢
  refine am_goX 3 (show ((Int32.ofInt 1) = 0 → pz_S 3 (some .boolean) am_r291 2 Q 50 [(0, .ref 154), (1, .int (nI m)), (2, .int (Int32.ofInt 1))] [.ref 154] h591) ∧ (¬ ((Int32.ofInt 1) = 0) → pz_S 3 (some .boolean) am_r291 2 Q 41 [(0, .ref 154), (1, .int (nI m)), (2, .int (Int32.ofInt 1))] [.ref 154] h591) from ⟨fun hz => absurd hz (by decide), fun _ => ?_⟩)
  refine am_goX 8 (show ((Int32.ofInt 1) = 0 → pz_S 3 (some .boolean) am_r291 2 Q 59 [(0, .ref 154), (1, .int (nI m)), (2, .int (Int32.ofInt 1))] [.int (((Int8.ofInt 49).toInt32) * ((Int32.ofInt 1) + (nI m))), .ref 154] h591) ∧ (¬ ((Int32.ofInt 1) = 0) → pz_S 3 (some .boolean) am_r291 2 Q 55 [(0, .ref 154), (1, .int (nI m)), (2, .int (Int32.ofInt 1))] [.int (((Int8.ofInt 49).toInt32) * ((Int32.ofInt 1) + (nI m))), .ref 154] h591) from ⟨fun hz => absurd hz (by decide), fun _ => ?_⟩)
  refine am_goX 3 (show pz_S 3 (some .boolean) am_r291 2 Q 67 [(0, .ref 154), (1, .int (nI m)), (2, .int (Int32.ofInt 1))] [.int ((Int8.ofInt 49).toInt32), .int (Int32.ofInt 0), .int (((Int8.ofInt 49).toInt32) * ((Int32.ofInt 1) + (nI m))), .ref 154] h591 from ?_)
  rw [show ((Int8.ofInt 49).toInt32) * ((Int32.ofInt 1) + (nI m)) = nI (49 * (1 + m)) from (dn_m (show (Int8.ofInt 49).toInt32 = nI 49 by decide) (dn_a rfl rfl))]
  rw [show Int32.ofInt 0 = nI 0 from rfl]
  rw [show (Int8.ofInt 49).toInt32 = nI 49 from (show (Int8.ofInt 49).toInt32 = nI 49 by decide)]
  refine am_goX 1 (show am_rc h591 154 11 ∧ 0 ≤ 8 ∧ h591.2.2.2.2 + am_al 232 ≤ 175 ∧ am_call am_cod 2 232 [.ref 154, .int (nI (49 * (1 + m))), .int (nI 0), .int (nI 49)] h591 (fun vv h' => pz_S 3 (some .boolean) am_r291 2 Q 70 [(0, .ref 154), (1, .int (nI m)), (2, .int (Int32.ofInt 1))] (vv.toList ++ []) h') from ⟨Or.inl ⟨by decide, ex_154 f592⟩, by decide, ex_lim f592 rfl, am_call.up (q_232 (A := (49 * (1 + m))) (B := 0) (K := 49) rfl rfl rfl (by omega) (by omega) (by omega) f592 (fun h600 f601 f602 f603 f604 => ?_)) (by decide)⟩)
  have f605 : sR 0 (dP C) (M.2.1 m) h600 := sR_cp (A := 49 + 49 * m) (fun j hj => by have w := f604 j (by omega); rw [show (49 * (1 + m)) + j = 49 + 49 * m + j by omega] at w; exact w) h6 ((f598 m hm).2 hm1).1
  have f606 : h600.1 170 24 = nI (M.2.2 m) := by have w := f604 24 (by omega); rw [show (49 * (1 + m)) + 24 = 73 + 49 * m by omega] at w; exact w.trans ((f598 m hm).2 hm1).2
  have f607 : tR C h600 := tR_fr (fun a k u1 u2 => f603 a k (by omega)) f594
  have f608 : ∀ e, e < dE C → h600.1 172 e = dW V e := fun e he => (f603 172 e (by omega)).trans (f595 e he)
  have f609 : hL (dP C) H h600 := hL_fr f594.1.2.1 (f603 154 25 (by omega)) (fun k u1 u2 => f603 170 k (by omega)) f597
  have f610 : mL (dP C) M h600 := mL_fr f594.1.2.1 (fun m hm => f603 171 m (by omega)) (fun k u1 u2 => f603 170 k (by omega)) f598
  refine am_goX 3 (show ((Int32.ofInt 1) = 0 → pz_S 3 (some .boolean) am_r291 2 Q 79 [(0, .ref 154), (1, .int (nI m)), (2, .int (Int32.ofInt 1))] [.ref 154] h600) ∧ (¬ ((Int32.ofInt 1) = 0) → pz_S 3 (some .boolean) am_r291 2 Q 75 [(0, .ref 154), (1, .int (nI m)), (2, .int (Int32.ofInt 1))] [.ref 154] h600) from ⟨fun hz => absurd hz (by decide), fun _ => ?_⟩)
  refine am_goX 3 (show am_sh h600 154 = some (11, 0) ∧ narrow (am_fty 11 25) (.int (Int32.ofInt 0)) = .int (Int32.ofInt 0) ∧ fits (am_fty 11 25) (.int (Int32.ofInt 0)) = true ∧ pz_S 3 (some .boolean) am_r291 2 Q 86 [(0, .ref 154), (1, .int (nI m)), (2, .int (Int32.ofInt 1))] [] (am_wI h600 154 25 (Int32.ofInt 0)) from ⟨ex_154 f601, rfl, rfl, ?_⟩)
  have f612 : ex_P (am_wI h600 154 25 (Int32.ofInt 0)) := f601
  have f613 : cI C := f593
  have f614 : tR C (am_wI h600 154 25 (Int32.ofInt 0)) := tR_w (by omega) f607
  have f615 : ∀ e, e < dE C → (am_wI h600 154 25 (Int32.ofInt 0)).1 172 e = dW V e := on_w (by omega) f608
  have f616 : sR 0 (dP C) (M.2.1 m) (am_wI h600 154 25 (Int32.ofInt 0)) := sR_o (by omega) f605
  have f617 : hL (dP C) (0, H.2) (am_wI h600 154 25 (Int32.ofInt 0)) := hL_z f609
  have f618 : mL (dP C) M (am_wI h600 154 25 (Int32.ofInt 0)) := mL_w (by omega) f610
  have f619 : (am_wI h600 154 25 (Int32.ofInt 0)).1 170 24 = nI (M.2.2 m) := (em_wn _ _ (by omega)).trans f606
  generalize am_wI h600 154 25 (Int32.ofInt 0) = h611 at f612 f613 f614 f615 f616 f617 f618 f619 ⊢
  exact am_goX 2 (show (∃ ty, (some .boolean) = some ty ∧ narrow ty (.int (Int32.ofInt 1)) = .int (Int32.ofInt 1)) ∧ h611.2.2.2.2 = 175 ∧ _ from ⟨⟨.boolean, rfl, rfl⟩, ex_175 f612, hQ _ f612 f613 f614 f615 f616 f617 f618 f619⟩)
def d_291n  : Int32 := Int32.ofInt 0
theorem d_291_n (hP : ex_P h) (hI : cI C) (hT : tR C h) (hO : ∀ e, e < dE C → h.1 172 e = dW V e) (hS : sR 0 (dP C) s h) (hH : hL (dP C) H h) (hM : mL (dP C) M h) (hx : h.1 170 24 = nI x) (hm : m < 4) (hm1 : M.1 m = false) (hQ : ∀ h1, (ex_P h1) → (cI C) → (tR C h1) → (∀ e, e < dE C → h1.1 172 e = dW V e) → (sR 0 (dP C) s h1) → (hL (dP C) H h1) → (mL (dP C) M h1) → (h1.1 170 24 = nI x) → Q (some (.int d_291n)) h1) : am_call am_cod 3 291 [.ref 154, .int (nI m), .int (Int32.ofInt 1)] h Q := by
  have h6 := hT.1.2.1
  have h5 := hT.2.1.2.1
  refine pz_call (n := 291) (nL := 3) (rt := (some .boolean)) (rows := am_r291) (d := 2) (by decide +kernel) (by decide +kernel) rfl (by funext pc; rfl) (ex_175 hP) (by exact Nat.le_of_ble_eq_true rfl) ?_
  refine am_goX 3 (show am_sh h 154 = some (11, 0) ∧ narrow (am_fty 11 0) (.int (Int32.ofInt 0)) = .int (Int32.ofInt 0) ∧ fits (am_fty 11 0) (.int (Int32.ofInt 0)) = true ∧ pz_S 3 (some .boolean) am_r291 2 Q 5 [(0, .ref 154), (1, .int (nI m)), (2, .int (Int32.ofInt 1))] [] (am_wI h 154 0 (Int32.ofInt 0)) from ⟨ex_154 hP, rfl, rfl, ?_⟩)
  have f621 : ex_P (am_wI h 154 0 (Int32.ofInt 0)) := hP
  have f622 : cI C := hI
  have f623 : tR C (am_wI h 154 0 (Int32.ofInt 0)) := tR_w (by omega) hT
  have f624 : ∀ e, e < dE C → (am_wI h 154 0 (Int32.ofInt 0)).1 172 e = dW V e := on_w (by omega) hO
  have f625 : sR 0 (dP C) s (am_wI h 154 0 (Int32.ofInt 0)) := sR_o (by omega) hS
  have f626 : hL (dP C) H (am_wI h 154 0 (Int32.ofInt 0)) := hL_w (by omega) hH
  have f627 : mL (dP C) M (am_wI h 154 0 (Int32.ofInt 0)) := mL_w (by omega) hM
  have f628 : (am_wI h 154 0 (Int32.ofInt 0)).1 170 24 = nI x := (em_wn _ _ (by omega)).trans hx
  generalize am_wI h 154 0 (Int32.ofInt 0) = h620 at f621 f622 f623 f624 f625 f626 f627 f628 ⊢
  refine am_goX 4 (show 0 ≤ 8 ∧ h620.2.2.2.2 + am_al 207 ≤ 175 ∧ am_call am_cod 2 207 [.int (nI m), .int (Int32.ofInt 0), .int (Int32.ofInt 3)] h620 (fun vv h' => pz_S 3 (some .boolean) am_r291 2 Q 11 [(0, .ref 154), (1, .int (nI m)), (2, .int (Int32.ofInt 1))] (vv.toList ++ []) h') from ⟨by decide, ex_lim f621 rfl, am_call.up (d_207_w f621 ?_) (by decide)⟩)
  rw [show d_207 (nI m) (Int32.ofInt 0) (Int32.ofInt 3) = Int32.ofInt 1 from ((d_207_e _ _ _).trans (v_60 (lo := 0) (hi := 3) (by omega) (by omega) (by decide)))]
  refine am_goX 1 (show ((Int32.ofInt 1) = 0 → pz_S 3 (some .boolean) am_r291 2 Q 27 [(0, .ref 154), (1, .int (nI m)), (2, .int (Int32.ofInt 1))] [] h620) ∧ (¬ ((Int32.ofInt 1) = 0) → pz_S 3 (some .boolean) am_r291 2 Q 14 [(0, .ref 154), (1, .int (nI m)), (2, .int (Int32.ofInt 1))] [] h620) from ⟨fun hz => absurd hz (by decide), fun _ => ?_⟩)
  refine am_goX 2 (show ((Int32.ofInt 1) = 0 → pz_S 3 (some .boolean) am_r291 2 Q 29 [(0, .ref 154), (1, .int (nI m)), (2, .int (Int32.ofInt 1))] [] h620) ∧ (¬ ((Int32.ofInt 1) = 0) → pz_S 3 (some .boolean) am_r291 2 Q 18 [(0, .ref 154), (1, .int (nI m)), (2, .int (Int32.ofInt 1))] [] h620) from ⟨fun hz => absurd hz (by decide), fun _ => ?_⟩)
  refine am_goX 2 (show am_sh h620 154 = some (11, 0) ∧ pz_S 3 (some .boolean) am_r291 2 Q 22 [(0, .ref 154), (1, .int (nI m)), (2, .int (Int32.ofInt 1))] [am_rf (h620.2.2.1 154 26)] h620 from ⟨ex_154 f621, ?_⟩)
  rw [show am_rf (h620.2.2.1 154 26) = .ref 171 from congrArg am_rf (ex_r154_26 f621)]
  refine am_goX 2 (show (∃ jj nn : Nat, am_sh h620 171 = some (15, nn) ∧ jj < nn ∧ nI m = nI jj ∧ pz_S 3 (some .boolean) am_r291 2 Q 24 [(0, .ref 154), (1, .int (nI m)), (2, .int (Int32.ofInt 1))] [.int (h620.1 171 jj)] h620) ∨ _ from Or.inl ⟨m, 4, ex_171 f621, (by omega), rfl, ?_⟩)
  rw [show h620.1 171 m = Int32.ofInt 0 from ((f627 m hm).1.trans (by rw [hm1]; rfl))]
  refine am_goX 1 (show (¬ (Int32.ofInt 0) = 0 → pz_S 3 (some .boolean) am_r291 2 Q 29 [(0, .ref 154), (1, .int (nI m)), (2, .int (Int32.ofInt 1))] [] h620) ∧ (¬ ¬ (Int32.ofInt 0) = 0 → pz_S 3 (some .boolean) am_r291 2 Q 27 [(0, .ref 154), (1, .int (nI m)), (2, .int (Int32.ofInt 1))] [] h620) from ⟨fun hz => absurd hz (by decide), fun _ => ?_⟩)
  exact am_goX 2 (show (∃ ty, (some .boolean) = some ty ∧ narrow ty (.int (Int32.ofInt 0)) = .int (Int32.ofInt 0)) ∧ h620.2.2.2.2 = 175 ∧ _ from ⟨⟨.boolean, rfl, rfl⟩, ex_175 f621, hQ _ f621 f622 f623 f624 f625 f626 f627 f628⟩)
theorem d_291_xL (hP : ex_P h) (hI : cI C) (hT : tR C h) (hO : ∀ e, e < dE C → h.1 172 e = dW V e) (hS : sR 0 (dP C) s h) (hH : hL (dP C) H h) (hM : mL (dP C) M h) (hx : h.1 170 24 = nI x) (ew : d_60 w (Int32.ofInt 0) (Int32.ofInt 3) = Int32.ofInt 0) (hQ : ∀ h1, (ex_P h1) → (cI C) → (tR C h1) → (∀ e, e < dE C → h1.1 172 e = dW V e) → (sR 0 (dP C) s h1) → (hL (dP C) H h1) → (mL (dP C) M h1) → (h1.1 170 24 = nI x) → Q (some (.int d_291n)) h1) : am_call am_cod 3 291 [.ref 154, .int w, .int b] h Q := by
  have h6 := hT.1.2.1
  have h5 := hT.2.1.2.1
  refine pz_call (n := 291) (nL := 3) (rt := (some .boolean)) (rows := am_r291) (d := 2) (by decide +kernel) (by decide +kernel) rfl (by funext pc; rfl) (ex_175 hP) (by exact Nat.le_of_ble_eq_true rfl) ?_
  refine am_goX 3 (show am_sh h 154 = some (11, 0) ∧ narrow (am_fty 11 0) (.int (Int32.ofInt 0)) = .int (Int32.ofInt 0) ∧ fits (am_fty 11 0) (.int (Int32.ofInt 0)) = true ∧ pz_S 3 (some .boolean) am_r291 2 Q 5 [(0, .ref 154), (1, .int w), (2, .int b)] [] (am_wI h 154 0 (Int32.ofInt 0)) from ⟨ex_154 hP, rfl, rfl, ?_⟩)
  have f630 : ex_P (am_wI h 154 0 (Int32.ofInt 0)) := hP
  have f631 : cI C := hI
  have f632 : tR C (am_wI h 154 0 (Int32.ofInt 0)) := tR_w (by omega) hT
  have f633 : ∀ e, e < dE C → (am_wI h 154 0 (Int32.ofInt 0)).1 172 e = dW V e := on_w (by omega) hO
  have f634 : sR 0 (dP C) s (am_wI h 154 0 (Int32.ofInt 0)) := sR_o (by omega) hS
  have f635 : hL (dP C) H (am_wI h 154 0 (Int32.ofInt 0)) := hL_w (by omega) hH
  have f636 : mL (dP C) M (am_wI h 154 0 (Int32.ofInt 0)) := mL_w (by omega) hM
  have f637 : (am_wI h 154 0 (Int32.ofInt 0)).1 170 24 = nI x := (em_wn _ _ (by omega)).trans hx
  generalize am_wI h 154 0 (Int32.ofInt 0) = h629 at f630 f631 f632 f633 f634 f635 f636 f637 ⊢
  refine am_goX 4 (show 0 ≤ 8 ∧ h629.2.2.2.2 + am_al 207 ≤ 175 ∧ am_call am_cod 2 207 [.int w, .int (Int32.ofInt 0), .int (Int32.ofInt 3)] h629 (fun vv h' => pz_S 3 (some .boolean) am_r291 2 Q 11 [(0, .ref 154), (1, .int w), (2, .int b)] (vv.toList ++ []) h') from ⟨by decide, ex_lim f630 rfl, am_call.up (d_207_w f630 ?_) (by decide)⟩)
  rw [show d_207 w (Int32.ofInt 0) (Int32.ofInt 3) = Int32.ofInt 0 from ((d_207_e _ _ _).trans ew)]
  refine am_goX 1 (show ((Int32.ofInt 0) = 0 → pz_S 3 (some .boolean) am_r291 2 Q 27 [(0, .ref 154), (1, .int w), (2, .int b)] [] h629) ∧ (¬ ((Int32.ofInt 0) = 0) → pz_S 3 (some .boolean) am_r291 2 Q 14 [(0, .ref 154), (1, .int w), (2, .int b)] [] h629) from ⟨fun _ => ?_, fun hz => absurd (by decide) hz⟩)
  exact am_goX 2 (show (∃ ty, (some .boolean) = some ty ∧ narrow ty (.int (Int32.ofInt 0)) = .int (Int32.ofInt 0)) ∧ h629.2.2.2.2 = 175 ∧ _ from ⟨⟨.boolean, rfl, rfl⟩, ex_175 f630, hQ _ f630 f631 f632 f633 f634 f635 f636 f637⟩)
end
section
/-! THE WHOLE RELATION OF STATES -/
def sH (C : sp_C) (D : Nat) (H : dH) : Prop := ∀ j, j < H.1 → sI C D (H.2 j)
def sM (C : sp_C) (D : Nat) (M : dMk) : Prop := ∀ m, m < 4 → M.1 m = true → sI C D (M.2.1 m) ∧ M.2.2 m ≤ 8
def KC (C : sp_C) (s : dS) (H : dH) (M : dMk) (x : Nat) (h : am_H) : Prop := ∃ c, (c = 6 ∨ c = 17) ∧ h.2.2.1 0 3 = some c ∧ c_v c C h ∧ c_d c C h ∧ sC 36 s h ∧ hC H h ∧ mC M h ∧ h.1 0 12 = nI x
def KR (C : sp_C) (s : dS) (H : dH) (M : dMk) (x : Nat) (h : am_H) : Prop := tR C h ∧ (∀ e, e < dE C → h.1 172 e = dW C e) ∧ sR 0 (dP C) s h ∧ hL (dP C) H h ∧ mL (dP C) M h ∧ h.1 170 24 = nI x
def KI (C : sp_C) (D : Nat) (s : dS) (H : dH) (M : dMk) (x : Nat) : Prop := cI C ∧ sI C D s ∧ sH C D H ∧ sM C D M ∧ x ≤ 8
theorem sI_up {C : sp_C} {D E : Nat} {s : dS} (h : D ≤ E) (l : sI C D s) : sI C E s := by
  obtain ⟨⟨d, h1, h2⟩, h3⟩ := l
  exact ⟨⟨d, by omega, h2⟩, h3⟩
theorem KI_up {C : sp_C} {D E : Nat} {s : dS} {H : dH} {M : dMk} {x : Nat} (h : D ≤ E) (l : KI C D s H M x) : KI C E s H M x := ⟨l.1, sI_up h l.2.1, fun j hj => sI_up h (l.2.2.1 j hj), fun m hm z => ⟨sI_up h (l.2.2.2.1 m hm z).1, (l.2.2.2.1 m hm z).2⟩, l.2.2.2.2⟩
def kr_K : ag_M := [(0, 3, 3), (0, 12, 12), (6, 0, 11), (8, 0, 5), (9, 0, 5), (11, 0, 4), (12, 0, 4), (13, 0, 4), (14, 2, 2), (15, 0, 999), (17, 0, 11), (19, 0, 5), (20, 0, 5), (22, 0, 4), (23, 0, 4), (24, 0, 4), (25, 2, 2), (26, 0, 999), (36, 0, 1), (37, 0, 5), (38, 0, 5), (39, 0, 4), (40, 0, 4), (49, 0, 1), (50, 0, 5), (51, 0, 5), (52, 0, 4), (53, 0, 4), (54, 0, 1), (55, 0, 5), (56, 0, 5), (57, 0, 4), (58, 0, 4), (59, 0, 1), (60, 0, 5), (61, 0, 5), (62, 0, 4), (63, 0, 4), (64, 0, 1), (65, 0, 5), (66, 0, 5), (67, 0, 4), (68, 0, 4), (69, 0, 1), (70, 0, 5), (71, 0, 5), (72, 0, 4), (73, 0, 4), (74, 0, 1), (75, 0, 5), (76, 0, 5), (77, 0, 4), (78, 0, 4), (79, 0, 1), (80, 0, 5), (81, 0, 5), (82, 0, 4), (83, 0, 4), (84, 0, 1), (85, 0, 5), (86, 0, 5), (87, 0, 4), (88, 0, 4), (89, 0, 1), (90, 0, 5), (91, 0, 5), (92, 0, 4), (93, 0, 4), (94, 0, 1), (95, 0, 5), (96, 0, 5), (97, 0, 4), (98, 0, 4), (99, 0, 1), (100, 0, 5), (101, 0, 5), (102, 0, 4), (103, 0, 4), (104, 0, 1), (105, 0, 5), (106, 0, 5), (107, 0, 4), (108, 0, 4), (109, 0, 1), (110, 0, 5), (111, 0, 5), (112, 0, 4), (113, 0, 4), (114, 0, 1), (115, 0, 5), (116, 0, 5), (117, 0, 4), (118, 0, 4), (119, 0, 1), (120, 0, 5), (121, 0, 5), (122, 0, 4), (123, 0, 4), (124, 0, 1), (125, 0, 5), (126, 0, 5), (127, 0, 4), (128, 0, 4), (131, 0, 1), (132, 0, 5), (133, 0, 5), (134, 0, 4), (135, 0, 4), (137, 0, 1), (138, 0, 5), (139, 0, 5), (140, 0, 4), (141, 0, 4), (143, 0, 1), (144, 0, 5), (145, 0, 5), (146, 0, 4), (147, 0, 4), (149, 0, 1), (150, 0, 5), (151, 0, 5), (152, 0, 4), (153, 0, 4), (47, 1, 2), (130, 0, 0), (130, 2, 2), (136, 0, 0), (136, 2, 2), (142, 0, 0), (142, 2, 2), (148, 0, 0), (148, 2, 2)]
def kr_L : ag_M := [(160, 0, 39), (161, 0, 1099), (162, 0, 1099), (154, 25, 25), (170, 0, 1028), (171, 0, 3), (172, 0, 4)]
def kcB (R : ag_M) (o a b : Nat) : Bool := R.any (fun r => Nat.beq r.1 o && (Nat.ble r.2.1 a && Nat.ble b r.2.2))
theorem kc {R : ag_M} {o a b q : Nat} {h g : am_H} (c : kcB R o a b = true) (k : kr R h g) (h1 : a ≤ q) (h2 : q ≤ b) : g.1 o q = h.1 o q := (k o q (by
  obtain ⟨r, r1, r2⟩ := List.any_eq_true.mp c
  rw [Bool.and_eq_true, Bool.and_eq_true] at r2
  unfold ag_atM
  refine List.any_eq_true.mpr ⟨r, r1, ?_⟩
  have e1 := Nat.eq_of_beq_eq_true r2.1
  have e2 := Nat.le_of_ble_eq_true r2.2.1
  have e3 := Nat.le_of_ble_eq_true r2.2.2
  show (Nat.beq r.1 o && (Nat.ble r.2.1 q && Nat.ble q r.2.2)) = true
  rw [Bool.and_eq_true, Bool.and_eq_true, e1]
  exact ⟨Nat.beq_refl o, Nat.ble_eq_true_of_le (by omega), Nat.ble_eq_true_of_le (by omega)⟩)).1
def kc5 (R : ag_M) (o : Nat) : Bool := kcB R o 0 1 && (kcB R (o + 1) 0 5 && (kcB R (o + 2) 0 5 && (kcB R (o + 3) 0 4 && kcB R (o + 4) 0 4)))
theorem sC_k {R : ag_M} {o : Nat} {s : dS} {h g : am_H} (c : kc5 R o = true) (k : kr R h g) (l : sC o s h) : sC o s g := by
  unfold kc5 at c
  rw [Bool.and_eq_true, Bool.and_eq_true, Bool.and_eq_true, Bool.and_eq_true] at c
  obtain ⟨c0, c1, c2, c3, c4⟩ := c
  obtain ⟨⟨a1, a2⟩, a3, a4⟩ := l
  exact ⟨⟨(kc c0 k (by omega) (by omega)).trans a1, (kc c0 k (by omega) (by omega)).trans a2⟩, fun i hi => ⟨(kc c1 k (by omega) (by omega)).trans (a3 i hi).1, (kc c2 k (by omega) (by omega)).trans (a3 i hi).2⟩, fun i hi => ⟨(kc c3 k (by omega) (by omega)).trans (a4 i hi).1, (kc c4 k (by omega) (by omega)).trans (a4 i hi).2⟩⟩
theorem kc_r : ∀ q, q < 16 → kc5 kr_K (49 + 5 * q) = true := by decide +kernel
theorem kc_m : ∀ m, m < 4 → kc5 kr_K (131 + 6 * m) = true ∧ kcB kr_K (130 + 6 * m) 0 0 = true ∧ kcB kr_K (130 + 6 * m) 2 2 = true := by decide +kernel
theorem hC_k {H : dH} {h g : am_H} (k : kr kr_K h g) (l : hC H h) : hC H g := by
  obtain ⟨a1, a2, q, a3, a4, a5⟩ := l
  exact ⟨a1, (kc (a := 1) (b := 2) (by decide +kernel) k (by decide) (by decide)).trans a2, q, a3, (kc (a := 1) (b := 2) (by decide +kernel) k (by decide) (by decide)).trans a4, fun j hj => sC_k (kc_r _ (by omega)) k (a5 j hj)⟩
theorem mC_k {M : dMk} {h g : am_H} (k : kr kr_K h g) (l : mC M h) : mC M g := fun m hm =>
  ⟨(kc (kc_m m hm).2.1 k (Nat.le_refl _) (Nat.le_refl _)).trans (l m hm).1, fun z => ⟨sC_k (kc_m m hm).1 k ((l m hm).2 z).1, (kc (kc_m m hm).2.2 k (Nat.le_refl _) (Nat.le_refl _)).trans ((l m hm).2 z).2⟩⟩
theorem c_v_k {c : Nat} {C : sp_C} {h g : am_H} (hc : c = 6 ∨ c = 17) (k : kr kr_K h g) (l : c_v c C h) : c_v c C g := by
  rcases hc with rfl | rfl
  · exact c_v_x (kc (a := 0) (b := 11) (by decide +kernel) k (by decide) (by decide)) (kc (a := 0) (b := 11) (by decide +kernel) k (by decide) (by decide)) (kc (a := 0) (b := 11) (by decide +kernel) k (by decide) (by decide)) (fun i hi => ⟨(kc (a := 0) (b := 5) (by decide +kernel) k (Nat.zero_le _) (by omega)), (kc (a := 0) (b := 5) (by decide +kernel) k (Nat.zero_le _) (by omega))⟩) (fun i hi => ⟨(kc (a := 0) (b := 4) (by decide +kernel) k (Nat.zero_le _) (by omega)), (kc (a := 0) (b := 4) (by decide +kernel) k (Nat.zero_le _) (by omega))⟩) (kc (a := 2) (b := 2) (by decide +kernel) k (by decide) (by decide)) (fun i hi => (kc (a := 0) (b := 999) (by decide +kernel) k (Nat.zero_le _) (by omega))) l
  · exact c_v_x (kc (a := 0) (b := 11) (by decide +kernel) k (by decide) (by decide)) (kc (a := 0) (b := 11) (by decide +kernel) k (by decide) (by decide)) (kc (a := 0) (b := 11) (by decide +kernel) k (by decide) (by decide)) (fun i hi => ⟨(kc (a := 0) (b := 5) (by decide +kernel) k (Nat.zero_le _) (by omega)), (kc (a := 0) (b := 5) (by decide +kernel) k (Nat.zero_le _) (by omega))⟩) (fun i hi => ⟨(kc (a := 0) (b := 4) (by decide +kernel) k (Nat.zero_le _) (by omega)), (kc (a := 0) (b := 4) (by decide +kernel) k (Nat.zero_le _) (by omega))⟩) (kc (a := 2) (b := 2) (by decide +kernel) k (by decide) (by decide)) (fun i hi => (kc (a := 0) (b := 999) (by decide +kernel) k (Nat.zero_le _) (by omega))) l
theorem c_d_k {c : Nat} {C : sp_C} {h g : am_H} (hc : c = 6 ∨ c = 17) (k : kr kr_K h g) (b : dE C ≤ 5) (l : c_d c C h) : c_d c C g := fun i hi => by
  rcases hc with rfl | rfl
  · exact (kc (a := 0) (b := 4) (by decide +kernel) k (by omega) (by omega)).trans (l i hi)
  · exact (kc (a := 0) (b := 4) (by decide +kernel) k (by omega) (by omega)).trans (l i hi)
theorem KC_k {C : sp_C} {s : dS} {H : dH} {M : dMk} {x : Nat} {h g : am_H} (j : KC C s H M x h) (k : kr kr_K h g) : KC C s H M x g := by
  obtain ⟨c, c1, c2, c3, c4, c5, c6, c7, c8⟩ := j
  exact ⟨c, c1, (k 0 3 (kr_at (a := 3) (b := 3) (by decide +kernel) (by decide) (by decide))).2.2.trans c2, c_v_k c1 k c3, c_d_k c1 k c3.2.1.2.1 c4, sC_k (by decide +kernel) k c5, hC_k k c6, mC_k k c7, (kc (a := 12) (b := 12) (by decide +kernel) k (by decide) (by decide)).trans c8⟩
theorem KR_k {C : sp_C} {s : dS} {H : dH} {M : dMk} {x : Nat} {h g : am_H} (j : KR C s H M x h) (k : kr kr_L h g) : KR C s H M x g := by
  obtain ⟨r1, r2, r3, r4, r5, r6⟩ := j
  have h6 : dP C ≤ 6 := r1.1.2.1
  have h5 : dE C ≤ 5 := r1.2.1.2.1
  have w : ∀ q, q ≤ 1028 → g.1 170 q = h.1 170 q := fun q hq => kc (a := 0) (b := 1028) (by decide +kernel) k (Nat.zero_le _) hq
  exact ⟨tR_k r1 (kr_sub (by decide +kernel) k), fun e he => (kc (a := 0) (b := 4) (by decide +kernel) k (by omega) (by omega)).trans (r2 e he), sR_fr (fun q u1 u2 => w q (by omega)) h6 r3, hL_fr h6 (kc (a := 25) (b := 25) (by decide +kernel) k (by decide) (by decide)) (fun q u1 u2 => w q (by omega)) r4, mL_fr h6 (fun m hm => kc (a := 0) (b := 3) (by decide +kernel) k (by omega) (by omega)) (fun q u1 u2 => w q (by omega)) r5, (w 24 (by decide)).trans r6⟩
/-- the state of a fresh canton; its lots as they lie -/
def s00 (f : Nat → Int32) : dS := (0, 0, f, fun _ => 0, fun _ => 0, fun _ => 0)
theorem sI_00 {C : sp_C} {D : Nat} {f : Nat → Int32} (hc : cI C) (hf : ∀ p, p < dP C → f p = dL C p) : sI C D (s00 f) := by
  have z : bN 0 < 2 ^ dP C := by
    rw [show bN 0 = 0 by decide]
    exact Nat.two_pow_pos _
  refine ⟨⟨0, Nat.zero_le _, rfl⟩, fun p hp => ?_, fun i => ⟨z, fun _ => rfl⟩, fun e _ => ⟨rfl, rfl⟩, fun e => z⟩
  obtain ⟨l, l1, l2⟩ := (hc.2.1 p hp).2
  exact ⟨l, l1, (hf p hp).trans l2⟩
/-- what the cantons make of it -/
theorem K_cn {D : Nat} {T : Nat → Int32} {sz : Nat} {h g g2 : am_H} {C : sp_C} {s : dS} {H : dH} {M : dMk} {x : Nat} (i : KI C D s H M x) (p : cnC T sz h g) (k : kr kr_14 h g) (r : cnR (tt T sz) g g2) (j1 : KC C s H M x h) (j2 : KR C s H M x h) : ∃ C' s' H' M' x', KI C' D s' H' M' x' ∧ KC C' s' H' M' x' g2 ∧ KR C' s' H' M' x' g2 := by
  have j2g := KR_k j2 (kr_sub (by decide +kernel) k)
  rcases p with ⟨F, e, c, d, hc, ht, e2, w⟩ | ⟨s1, e, c, hc, ht, l, b⟩
  · rcases r.2 with ⟨F', e', w'⟩ | ⟨s', e', w'⟩
    · obtain ⟨d', c1, c2, c3, c4, c5, c6, c7, c8⟩ := j1
      have eb : d' = d := Option.some.inj (c2.symm.trans ht)
      subst eb
      have w1 : ∀ a q, ¬ a = 1 → ¬ (c ≤ a ∧ a ≤ c + 10) → g.1 a q = h.1 a q := fun a q n1 n2 => (w a q (by unfold c_in; omega)).1
      have jg : KC C s H M x g := ⟨d', c1, by rw [e2]; exact c2, c_v_q hc w c3, fun q hq => (w1 _ _ (by omega) (by omega)).trans (c4 q hq), sC_fr (fun a q u1 u2 => w1 a q (by omega) (by omega)) c5, hC_fr (fun a q u1 u2 => w1 a q (by omega) (by omega)) c6, mC_fr (fun a q u1 u2 => w1 a q (by omega) (by omega)) c7, (w1 _ _ (by omega) (by omega)).trans c8⟩
      exact ⟨C, s, H, M, x, i, KC_k jg (kr_sub (by decide +kernel) r.1), KR_k j2g (kr_sub (by decide +kernel) w')⟩
    · rw [e] at e'
      cases e'
  · rcases r.2 with ⟨F', e', w'⟩ | ⟨s', e', w1, -, w3⟩
    · rw [e] at e'
      cases e'
    · rw [e] at e'
      cases e'
      obtain ⟨b1, b2, b3, ⟨ww, -, -, -⟩, ⟨b5, b6, -⟩, b8⟩ := b
      obtain ⟨-, -, -, -, -, -, ⟨-, -, q, hq, hq1, -⟩, -, -⟩ := j1
      obtain ⟨lv, ld⟩ := c_c_v l
      have hcI := cI_canton e
      have hf : ∀ p, p < dP s1.2 → g.1 37 p = dL s1.2 p := fun p hp => (b2 p (by have := hcI.1.1; omega)).1.trans (lv.1.2.2 p hp).2
      have jg : KC s1.2 (s00 (g.1 37)) (0, fun _ => s00 (g.1 37)) (fun _ => false, fun _ => s00 (g.1 37), fun _ => 0) 0 g := ⟨c, hc, ht, lv, ld, ⟨b1, fun i hi => ⟨rfl, (b2 i hi).2⟩, b3⟩, ⟨Nat.zero_le _, b5, q, hq, (kc (a := 1) (b := 1) (by decide +kernel) k (by decide) (by decide)).trans hq1, fun j hj => absurd hj (Nat.not_lt_zero j)⟩, fun m hm => ⟨b8 m hm, fun z => by cases z⟩, b6⟩
      obtain ⟨v1, v2, v3, v4, v5, v6⟩ := w3
      have h6 := hcI.1.1
      refine ⟨s1.2, _, _, _, 0, ⟨hcI, sI_00 hcI hf, fun j hj => absurd hj (Nat.not_lt_zero j), fun m hm z => (by cases z), Nat.zero_le _⟩, KC_k jg (kr_sub (by decide +kernel) r.1), w1, v6, ⟨⟨?_, ?_⟩, fun i hi => ?_, fun i hi => ?_, fun i hi => ⟨?_, ?_⟩⟩, ⟨Nat.zero_le _, v4, fun j hj => absurd hj (Nat.not_lt_zero j)⟩, fun m hm => ⟨v5 m hm, fun z => by cases z⟩, v2⟩
      · rw [v1 _ (by omega), if_neg (by omega)]; rfl
      · rw [v1 _ (by omega), if_neg (by omega)]; rfl
      · have hi' : i < s1.2.1.1 := hi
        rw [v1 _ (by omega), if_pos (by omega)]
        show dL s1.2 (0 + 2 + i - 2) = g.1 37 i
        rw [show 0 + 2 + i - 2 = i by omega, hf i hi]
      · rw [v1 _ (by omega), if_neg (by have : s1.2.1.1 ≤ 6 := h6; omega)]; rfl
      · rw [v1 _ (by omega), if_neg (by have : s1.2.1.1 ≤ 6 := h6; omega)]; rfl
      · rw [v1 _ (by omega), if_neg (by have : s1.2.1.1 ≤ 6 := h6; omega)]; rfl
theorem K_s {ρ : Nat → Int32} {h : am_H} (hR : ae_R ρ 0 ae_H0 h) : ∃ C s H M x, KI C 0 s H M x ∧ KC C s H M x h ∧ KR C s H M x h := by
  have z : ∀ o k, o < 175 → ¬ (o = 0 ∧ k = 13) → ¬ (o = 160 ∧ k = 3) → h.1 o k = 0 := fun o k h1 h2 h3 => by
    rcases iv_int (k := k) hR h1 with ⟨w, -, -⟩ | ⟨w1, w2, -⟩ | ⟨w1, w2, -⟩
    · exact w
    · exact absurd ⟨w1, w2⟩ h2
    · exact absurd ⟨w1, w2⟩ h3
  have y3 : h.1 160 3 = Int32.ofInt (-1) := by
    rcases iv_int (o := 160) (k := 3) hR (by decide) with ⟨-, -, w⟩ | ⟨w, -, -⟩ | ⟨-, -, w⟩
    · exact absurd ⟨rfl, rfl⟩ w
    · exact absurd w (by decide)
    · rw [w]; rfl
  have n : ∀ i, ¬ i < 0 := Nat.not_lt_zero
  have cv : c_v 6 sp_C0 h := ⟨⟨z 6 0 (by decide) (by decide) (by decide), by decide, fun i hi => absurd hi (n i)⟩, ⟨z 6 4 (by decide) (by decide) (by decide), by decide, fun i hi => absurd hi (n i)⟩, ⟨z 6 10 (by decide) (by decide) (by decide), fun _ => rfl, (by show sp_28 0; unfold sp_28; decide)⟩, z 14 2 (by decide) (by decide) (by decide), by decide, fun i hi => absurd hi (n i)⟩
  have ct : tR sp_C0 h := ⟨⟨z 160 0 (by decide) (by decide) (by decide), by decide, fun i hi => absurd hi (n i)⟩, ⟨z 160 1 (by decide) (by decide) (by decide), by decide, fun i hi => absurd hi (n i)⟩, fun p e hp he => (by
    rw [z 160 (6 + 3 * p) (by decide) (by omega) (by omega)]
    refine ⟨?_, by decide⟩
    have key : ∀ e, e < 5 → sp_bit 0 (nI e) = false := by decide +kernel
    rw [key e he]
    show false = (decide (e < 0) && _)
    rw [decide_eq_false (n e)]
    rfl), ⟨z 160 2 (by decide) (by decide) (by decide), fun _ => rfl, (by show sp_28 0; unfold sp_28; decide)⟩, by decide, fun j hj => absurd hj (n j), fun w => absurd w (by decide), fun _ => rfl, y3⟩
  refine ⟨sp_C0, s00 (fun _ => 0), (0, fun _ => s00 (fun _ => 0)), (fun _ => false, fun _ => s00 (fun _ => 0), fun _ => 0), 0, ⟨cI_0, sI_00 cI_0 (fun p hp => absurd hp (n p)), fun j hj => absurd hj (n j), fun m hm w => (by cases w), Nat.zero_le _⟩, ⟨6, Or.inl rfl, (iv_c0 hR).1, cv, fun i hi => absurd hi (n i), ⟨⟨z _ _ (by decide) (by decide) (by decide), z _ _ (by decide) (by decide) (by decide)⟩, fun i hi => ⟨z _ _ (by decide) (by omega) (by omega), z _ _ (by decide) (by omega) (by omega)⟩, fun i hi => ⟨z _ _ (by decide) (by omega) (by omega), z _ _ (by decide) (by omega) (by omega)⟩⟩, ⟨Nat.zero_le _, z _ _ (by decide) (by decide) (by decide), 0, by decide, z _ _ (by decide) (by decide) (by decide), fun j hj => absurd hj (n j)⟩, fun m hm => ⟨z _ _ (by omega) (by omega) (by omega), fun w => (by cases w)⟩, z _ _ (by decide) (by decide) (by decide)⟩, ct, fun e he => absurd he (n e), ⟨⟨z _ _ (by decide) (by decide) (by decide), z _ _ (by decide) (by decide) (by decide)⟩, fun i hi => absurd hi (n i), fun i hi => z _ _ (by decide) (by omega) (by omega), fun i hi => ⟨z _ _ (by decide) (by omega) (by omega), z _ _ (by decide) (by omega) (by omega)⟩⟩, ⟨Nat.zero_le _, z _ _ (by decide) (by decide) (by decide), fun j hj => absurd hj (n j)⟩, fun m hm => ⟨z _ _ (by decide) (by omega) (by omega), fun w => (by cases w)⟩, z _ _ (by decide) (by decide) (by decide)⟩
/-! A DAY KEEPS STATES WELL FORMED -/
theorem sI_m {C : sp_C} {D : Nat} {s : dS} {x : Int32} (hs : sI C D s) (hx : bN x < 2 ^ dP C) (h6 : dP C ≤ 6) : sI C D (d_108_s s x) := by
  obtain ⟨h1, h2, h3, h4, h5⟩ := hs
  unfold d_108_s
  rw [in108]
  refine ⟨h1, h2, fun i => ?_, h4, h5⟩
  show bN (if 0 ≤ i ∧ i < 0 + 6 ∧ sp_bit x (nI i) = true then s.2.2.2.1 i ||| (x &&& (((Int32.ofInt 1) <<< ((nI i) &&& 31)) ^^^ (Int32.ofInt (-1)))) else s.2.2.2.1 i) < 2 ^ dP C ∧ (dP C ≤ i → (if 0 ≤ i ∧ i < 0 + 6 ∧ sp_bit x (nI i) = true then s.2.2.2.1 i ||| (x &&& (((Int32.ofInt 1) <<< ((nI i) &&& 31)) ^^^ (Int32.ofInt (-1)))) else s.2.2.2.1 i) = 0)
  by_cases hc : 0 ≤ i ∧ i < 0 + 6 ∧ sp_bit x (nI i) = true
  · rw [if_pos hc]
    refine ⟨?_, fun hi => ?_⟩
    · rw [bN_or, bN_and]
      exact Nat.or_lt_two_pow (h3 i).1 (Nat.lt_of_le_of_lt Nat.and_le_left hx)
    · have hb := hc.2.2
      rw [sp_bit_tg (by omega), Nat.testBit_lt_two_pow (Nat.lt_of_lt_of_le hx (Nat.pow_le_pow_right (by decide) hi))] at hb
      cases hb
  · rw [if_neg hc]
    exact h3 i
theorem sI_h {C : sp_C} {D k : Nat} {s : dS} {v : Int32} (hs : sI C D s) (hk : k < dE C) : sI C D (sSH s k v) := by
  obtain ⟨h1, h2, h3, h4, h5⟩ := hs
  refine ⟨h1, h2, h3, fun e he => ⟨?_, (h4 e he).2⟩, h5⟩
  show (if e = k then v else s.2.2.2.2.1 e) = 0
  rw [if_neg (by omega)]
  exact (h4 e he).1
theorem sI_100 {C : sp_C} {D : Nat} : ∀ (m k : Nat) (a : Int32) (s : dS), k + m = dE C → dP C ≤ 6 → sI C D s → sI C D (d_100_21 C m k a s).2 := by
  intro m
  induction m with
  | zero => exact fun k a s _ _ hs => hs
  | succ m ih =>
    intro k a s hk h6 hs
    rw [d_100_21]
    have hm := sI_m hs (hs.2.2.2.2 k) h6
    by_cases hn : (d_69 ((d_108_s s (s.2.2.2.2.2 k)).2.2.2.2.2 k)) < (dN C k)
    · rw [if_pos hn]
      exact ih (k + 1) _ _ (by omega) h6 hm
    · rw [if_neg hn]
      exact ih (k + 1) _ _ (by omega) h6 (sI_h hm (by omega))
/-- a day keeps it -/
theorem sI_day {C : sp_C} {D : Nat} {s : dS} {w : Int32} (hc : cI C) (hs : sI C D s) : sI C (D + 1) (d_100_s C s w) := by
  have h6 := hc.1.1
  have h5 := hc.1.2
  have z : bN (Int32.ofInt 0) < 2 ^ dP C := by
    rw [show bN (Int32.ofInt 0) = 0 by decide]
    exact Nat.two_pow_pos _
  unfold d_100_s
  refine sI_100 (dE C) 0 _ _ (by omega) h6 ?_
  obtain ⟨h1, h2, h3, h4, h5'⟩ := sI_d hs
  unfold d_101_s
  rw [in25, in2]
  refine ⟨h1, h2, h3, fun e he => ⟨(h4 e he).1, ?_⟩, fun e => ?_⟩
  · show (if e < dE C then _ else (if 0 ≤ e ∧ e < 0 + dE C then Int32.ofInt 0 else (sSD s _).2.2.2.2.2 e)) = 0
    rw [if_neg (by omega), if_neg (by omega)]
    exact (h4 e he).2
  · show bN (if e < dE C then cf C _ w e (dP C) 0 (if 0 ≤ e ∧ e < 0 + dE C then Int32.ofInt 0 else _) else (if 0 ≤ e ∧ e < 0 + dE C then Int32.ofInt 0 else (sSD s _).2.2.2.2.2 e)) < 2 ^ dP C
    by_cases he : e < dE C
    · rw [if_pos he, if_pos (by omega)]
      exact cf_lt h6 h5 he _ _ _ (by omega) z
    · rw [if_neg he, if_neg (by omega)]
      exact h5' e
end
section
/-! STEPS OF THE WHOLE RELATION -/
abbrev dF : Type := Int32 × dS × dH × dMk × Nat
def KCf (C : sp_C) (f : dF) (v : Option Value) (g : am_H) : Prop := v = some (.int f.1) ∧ KC C f.2.1 f.2.2.1 f.2.2.2.1 f.2.2.2.2 g
def KRf (C : sp_C) (f : dF) (v : Option Value) (g : am_H) : Prop := v = some (.int f.1) ∧ KR C f.2.1 f.2.2.1 f.2.2.2.1 f.2.2.2.2 g
def KIf (C : sp_C) (D : Nat) (f : dF) : Prop := KI C D f.2.1 f.2.2.1 f.2.2.2.1 f.2.2.2.2
variable {h : am_H} {C : sp_C} {D : Nat} {s : dS} {H : dH} {M : dMk} {x : Nat}
def f_day (C : sp_C) (s : dS) (H : dH) (M : dMk) (x : Nat) : dF := (d_97 C s H, d_97_s C s H, hP1 H s, M, x)
def f_lot (C : sp_C) (s : dS) (H : dH) (M : dMk) (x : Nat) (a b : Int32) : dF := if d_87 C a = Int32.ofInt 0 then (Int32.ofInt (-1), s, H, M, x) else if d_60 b (Int32.ofInt 0) (Int32.ofInt 4) = Int32.ofInt 0 then (Int32.ofInt (-1), s, H, M, x) else (s.2.2.1 a.toInt.toNat, sSL s a.toInt.toNat b, hP1 H s, M, x)
def f_ask (C : sp_C) (s : dS) (H : dH) (M : dMk) (x : Nat) (a : Int32) : dF := if d_87 C a = Int32.ofInt 0 then (Int32.ofInt (-1), s, H, M, x) else (s.2.1 + Int32.ofInt 1, d_111_s s a.toInt.toNat, hP1 H s, M, x)
def f_undo (s : dS) (H : dH) (M : dMk) (x : Nat) : dF := if H.1 = 0 then (Int32.ofInt 0, s, H, M, x) else (Int32.ofInt 1, H.2 0, hP0 H, M, x)
def f_see (C : sp_C) (s : dS) (H : dH) (M : dMk) (x : Nat) (a b : Int32) : dF := if d_93 C a = Int32.ofInt 0 then (Int32.ofInt 0, s, H, M, x) else if d_60 b (Int32.ofInt 1) ((Int8.ofInt 28).toInt32) = Int32.ofInt 0 then (Int32.ofInt 0, s, H, M, x) else if x = 8 then (Int32.ofInt 0, s, H, M, x) else (Int32.ofInt 1, s, H, M, x + 1)
def f_mark (s : dS) (H : dH) (M : dMk) (x : Nat) (a : Int32) (z : Int) : dF := if d_60 a (Int32.ofInt 0) (Int32.ofInt 3) = Int32.ofInt 0 then (Int32.ofInt 0, s, H, M, x) else if z = 0 then (Int32.ofInt 1, s, H, mset M a.toInt.toNat s x, x) else if M.1 a.toInt.toNat = false then (Int32.ofInt 0, s, H, M, x) else (Int32.ofInt 1, M.2.1 a.toInt.toNat, (0, H.2), M, M.2.2 a.toInt.toNat)
theorem v_60b {l : Nat} (h1 : 1 ≤ l) (h2 : l ≤ 28) : d_60 (nI l) (Int32.ofInt 1) ((Int8.ofInt 28).toInt32) = Int32.ofInt 1 := by
  rw [show (Int8.ofInt 28).toInt32 = nI 28 by decide]
  exact v_60 (lo := 1) (hi := 28) h1 h2 (by decide)
theorem c_60b (x : Int32) : d_60 x (Int32.ofInt 1) ((Int8.ofInt 28).toInt32) = Int32.ofInt 0 ∨ ∃ l, 1 ≤ l ∧ l ≤ 28 ∧ x = nI l := by
  rw [show (Int8.ofInt 28).toInt32 = nI 28 by decide]
  exact c_60 (lo := 1) (hi := 28) (by decide) (by decide) x
theorem nI_tnn {p : Nat} (hp : p < 4096) : (nI p).toInt.toNat = p := by
  rw [nI_toInt (by omega)]
  rfl
theorem v_87b {p : Nat} (hp : p < dP C) (h6 : dP C ≤ 6) : ¬ d_87 C (nI p) = Int32.ofInt 0 := by
  rw [v_87 hp]
  decide
theorem v_93b {p : Nat} (hp : p < dE C) (h5 : dE C ≤ 5) : ¬ d_93 C (nI p) = Int32.ofInt 0 := by
  rw [show d_93 C (nI p) = Int32.ofInt 1 from v_93 hp h5]
  decide
theorem f_lot1 {a b : Int32} (e : d_87 C a = Int32.ofInt 0) : f_lot C s H M x a b = (Int32.ofInt (-1), s, H, M, x) := if_pos e
theorem f_lot2 {p : Nat} {b : Int32} (hp : p < dP C) (h6 : dP C ≤ 6) (e : d_60 b (Int32.ofInt 0) (Int32.ofInt 4) = Int32.ofInt 0) : f_lot C s H M x (nI p) b = (Int32.ofInt (-1), s, H, M, x) := (if_neg (v_87b hp h6)).trans (if_pos e)
theorem f_lot3 {p l : Nat} (hp : p < dP C) (h6 : dP C ≤ 6) (hl : l < 5) : f_lot C s H M x (nI p) (nI l) = (s.2.2.1 p, sSL s p (nI l), hP1 H s, M, x) := by
  unfold f_lot
  rw [if_neg (v_87b hp h6), if_neg (show ¬ d_60 (nI l) (Int32.ofInt 0) (Int32.ofInt 4) = Int32.ofInt 0 by rw [show d_60 (nI l) (Int32.ofInt 0) (Int32.ofInt 4) = Int32.ofInt 1 from v_60 (lo := 0) (hi := 4) (by omega) (by omega) (by decide)]; decide), nI_tnn (by omega)]
theorem f_ask1 {a : Int32} (e : d_87 C a = Int32.ofInt 0) : f_ask C s H M x a = (Int32.ofInt (-1), s, H, M, x) := if_pos e
theorem f_ask2 {p : Nat} (hp : p < dP C) (h6 : dP C ≤ 6) : f_ask C s H M x (nI p) = (s.2.1 + Int32.ofInt 1, d_111_s s p, hP1 H s, M, x) := by
  unfold f_ask
  rw [if_neg (v_87b hp h6), nI_tnn (by omega)]
theorem f_undo1 (e : H.1 = 0) : f_undo s H M x = (Int32.ofInt 0, s, H, M, x) := if_pos e
theorem f_undo2 (e : 0 < H.1) : f_undo s H M x = (Int32.ofInt 1, H.2 0, hP0 H, M, x) := if_neg (by omega)
theorem f_see1 {a b : Int32} (e : d_93 C a = Int32.ofInt 0) : f_see C s H M x a b = (Int32.ofInt 0, s, H, M, x) := if_pos e
theorem f_see2 {p : Nat} {b : Int32} (hp : p < dE C) (h5 : dE C ≤ 5) (e : d_60 b (Int32.ofInt 1) ((Int8.ofInt 28).toInt32) = Int32.ofInt 0) : f_see C s H M x (nI p) b = (Int32.ofInt 0, s, H, M, x) := (if_neg (v_93b hp h5)).trans (if_pos e)
theorem v_60c {l : Nat} (h1 : 1 ≤ l) (h2 : l ≤ 28) : ¬ d_60 (nI l) (Int32.ofInt 1) ((Int8.ofInt 28).toInt32) = Int32.ofInt 0 := by
  rw [v_60b h1 h2]
  decide
theorem f_see3 {p l : Nat} (hp : p < dE C) (h5 : dE C ≤ 5) (h1 : 1 ≤ l) (h2 : l ≤ 28) (e : x = 8) : f_see C s H M x (nI p) (nI l) = (Int32.ofInt 0, s, H, M, x) := (if_neg (v_93b hp h5)).trans ((if_neg (v_60c h1 h2)).trans (if_pos e))
theorem f_see4 {p l : Nat} (hp : p < dE C) (h5 : dE C ≤ 5) (h1 : 1 ≤ l) (h2 : l ≤ 28) (e : x < 8) : f_see C s H M x (nI p) (nI l) = (Int32.ofInt 1, s, H, M, x + 1) := (if_neg (v_93b hp h5)).trans ((if_neg (v_60c h1 h2)).trans (if_neg (by omega)))
theorem f_mark1 {a : Int32} {z : Int} (e : d_60 a (Int32.ofInt 0) (Int32.ofInt 3) = Int32.ofInt 0) : f_mark s H M x a z = (Int32.ofInt 0, s, H, M, x) := if_pos e
theorem v_60d {l : Nat} (h : l < 4) : ¬ d_60 (nI l) (Int32.ofInt 0) (Int32.ofInt 3) = Int32.ofInt 0 := by
  rw [show d_60 (nI l) (Int32.ofInt 0) (Int32.ofInt 3) = Int32.ofInt 1 from v_60 (lo := 0) (hi := 3) (by omega) (by omega) (by decide)]
  decide
theorem f_mark2 {m : Nat} (h : m < 4) : f_mark s H M x (nI m) 0 = (Int32.ofInt 1, s, H, mset M m s x, x) := by
  unfold f_mark
  rw [if_neg (v_60d h), if_pos rfl, nI_tnn (by omega)]
theorem f_mark3 {m : Nat} (h : m < 4) (e : M.1 m = false) : f_mark s H M x (nI m) 1 = (Int32.ofInt 0, s, H, M, x) := by
  unfold f_mark
  rw [if_neg (v_60d h), if_neg (by decide), nI_tnn (by omega), if_pos e]
theorem f_mark4 {m : Nat} (h : m < 4) (e : M.1 m = true) : f_mark s H M x (nI m) 1 = (Int32.ofInt 1, M.2.1 m, (0, H.2), M, M.2.2 m) := by
  unfold f_mark
  rw [if_neg (v_60d h), if_neg (by decide), nI_tnn (by omega), if_neg (by rw [e]; decide)]
/-! what stays well formed -/
theorem sH_1 (h1 : sI C D s) (h2 : sH C D H) : sH C D (hP1 H s) := fun j hj => by
  have hj : j < min (H.1 + 1) 16 := hj
  show sI C D (if j = 0 then s else H.2 (j - 1))
  by_cases e : j = 0
  · rw [if_pos e]; exact h1
  · rw [if_neg e]; exact h2 _ (by omega)
theorem sI_L {p l : Nat} (hl : l < 5) (hs : sI C D s) : sI C D (sSL s p (nI l)) := by
  obtain ⟨h1, h2, h3⟩ := hs
  refine ⟨h1, fun q hq => ?_, h3⟩
  show ∃ l', l' < 5 ∧ (if q = p then nI l else s.2.2.1 q) = nI l'
  by_cases e : q = p
  · rw [if_pos e]; exact ⟨l, hl, rfl⟩
  · rw [if_neg e]; exact h2 q hq
theorem i_day (i : KI C D s H M x) : KIf C (D + 1) (f_day C s H M x) := ⟨i.1, sI_up (by omega) (sI_day i.1 i.2.1), fun j hj => sI_up (by omega) (sH_1 i.2.1 i.2.2.1 j hj), (KI_up (E := D + 1) (by omega) i).2.2.2⟩
theorem i_lot (i : KI C D s H M x) (a b : Int32) : KIf C (D + 1) (f_lot C s H M x a b) := by
  have h6 := i.1.1.1
  have i7 := KI_up (E := D + 1) (by omega) i
  rcases c_87 h6 a with e | ⟨p, hp, rfl⟩
  · rw [f_lot1 e]; exact i7
  · rcases c_60 (lo := 0) (hi := 4) (by decide) (by decide) b with e | ⟨l, -, hl, rfl⟩
    · rw [f_lot2 hp h6 e]; exact i7
    · rw [f_lot3 hp h6 (by omega)]
      exact ⟨i7.1, sI_L (by omega) i7.2.1, sH_1 i7.2.1 i7.2.2.1, i7.2.2.2⟩
theorem i_ask (i : KI C D s H M x) (a : Int32) : KIf C (D + 1) (f_ask C s H M x a) := by
  have h6 := i.1.1.1
  have i7 := KI_up (E := D + 1) (by omega) i
  rcases c_87 h6 a with e | ⟨p, hp, rfl⟩
  · rw [f_ask1 e]; exact i7
  · rw [f_ask2 hp h6]
    exact ⟨i7.1, sI_L (p := p) (l := 2) (by decide) i7.2.1, sH_1 i7.2.1 i7.2.2.1, i7.2.2.2⟩
theorem i_undo (i : KI C D s H M x) : KIf C (D + 1) (f_undo s H M x) := by
  have i7 := KI_up (E := D + 1) (by omega) i
  by_cases e : H.1 = 0
  · rw [f_undo1 e]; exact i7
  · rw [f_undo2 (by omega)]
    exact ⟨i7.1, i7.2.2.1 0 (by omega), fun j hj => i7.2.2.1 (j + 1) (by have hj : j < H.1 - 1 := hj; omega), i7.2.2.2⟩
theorem i_see (i : KI C D s H M x) (a b : Int32) : KIf C (D + 1) (f_see C s H M x a b) := by
  have h5 := i.1.1.2
  have i7 := KI_up (E := D + 1) (by omega) i
  have hx := i.2.2.2.2
  rcases c_93 h5 a with e | ⟨p, hp, rfl⟩
  · rw [f_see1 e]; exact i7
  · rcases c_60b b with e | ⟨l, h1, h2, rfl⟩
    · rw [f_see2 hp h5 e]; exact i7
    · by_cases e : x = 8
      · rw [f_see3 hp h5 h1 h2 e]; exact i7
      · rw [f_see4 hp h5 h1 h2 (by omega)]
        exact ⟨i7.1, i7.2.1, i7.2.2.1, i7.2.2.2.1, (by show x + 1 ≤ 8; omega)⟩
theorem i_mark (i : KI C D s H M x) (a : Int32) {z : Int} (hz : 0 ≤ z ∧ z ≤ 1) : KIf C (D + 1) (f_mark s H M x a z) := by
  have i7 := KI_up (E := D + 1) (by omega) i
  rcases c_60 (lo := 0) (hi := 3) (by decide) (by decide) a with e | ⟨m, -, hm, rfl⟩
  · rw [f_mark1 e]; exact i7
  · have zz : z = 0 ∨ z = 1 := by omega
    rcases zz with rfl | rfl
    · rw [f_mark2 (by omega)]
      refine ⟨i7.1, i7.2.1, i7.2.2.1, fun j hj w => ?_, i7.2.2.2.2⟩
      show sI C (D + 1) (if j = m then s else M.2.1 j) ∧ (if j = m then x else M.2.2 j) ≤ 8
      by_cases e : j = m
      · rw [if_pos e, if_pos e]; exact ⟨i7.2.1, i7.2.2.2.2⟩
      · have w : (if j = m then true else M.1 j) = true := w
        rw [if_neg e] at w
        rw [if_neg e, if_neg e]
        exact i7.2.2.2.1 j hj w
    · by_cases e : M.1 m = true
      · rw [f_mark4 (by omega) e]
        exact ⟨i7.1, (i7.2.2.2.1 m (by omega) e).1, fun j hj => absurd hj (Nat.not_lt_zero j), i7.2.2.2.1, (i7.2.2.2.1 m (by omega) e).2⟩
      · rw [f_mark3 (by omega) (Bool.eq_false_iff.mpr e)]; exact i7
theorem day_rs (i : KI C D s H M x) (hD : D ≤ 4090) : d_230 C C s H = d_97 C s H ∧ d_230_s C C s H = d_97_s C s H := by
  have w : d_224 C (s.1 + Int32.ofInt 1) = Int32.ofInt 0 ∨ d_224 C (s.1 + Int32.ofInt 1) = Int32.ofInt 1 := d_224_01 C _
  obtain ⟨e1, e2⟩ := day_e (V := C) i.1 i.2.1 (by omega) (fun _ _ => rfl) w
  unfold d_97 d_97_s
  rw [d_68_e]
  exact ⟨e1, e2⟩
theorem m_97 (hI : iv_I h) (i : KI C D s H M x) (j : KC C s H M x h) : am_call am_cod 60 97 [.ref 0] h (KCf C (f_day C s H M x)) := by
  have hP := iv_P hI
  have hc := i.1
  have h6 := hc.1.1
  have h5 := hc.1.2
  have hx := i.2.2.2.2
  obtain ⟨c, c1, c2, c3, c4, c5, c6, c7, c8⟩ := j
  rcases c1 with rfl | rfl
  · refine am_call.up (d_97_K6 hP hc c3 c4 c2 c5 c6 c7 c8 (fun g1 p1 p2 p3 p4 p5 p6 p7 p8 p9 => ?_)) (by decide)
    exact ⟨rfl, 6, Or.inl rfl, p5, p3, p4, p6, p7, p8, p9⟩
  · refine am_call.up (d_97_K17 hP hc c3 c4 c2 c5 c6 c7 c8 (fun g1 p1 p2 p3 p4 p5 p6 p7 p8 p9 => ?_)) (by decide)
    exact ⟨rfl, 17, Or.inr rfl, p5, p3, p4, p6, p7, p8, p9⟩
theorem m_230 (hI : iv_I h) (i : KI C D s H M x) (hD : D ≤ 4090) (j : KR C s H M x h) : am_call am_cod 60 230 [.ref 154] h (KRf C (f_day C s H M x)) := by
  have hP := iv_P hI
  have hc := i.1
  have h6 := hc.1.1
  have h5 := hc.1.2
  have hx := i.2.2.2.2
  obtain ⟨r1, r2, r3, r4, r5, r6⟩ := j
  obtain ⟨e1, e2⟩ := day_rs i hD
  refine am_call.up (d_230_L hP hc r1 r2 r3 r4 r5 r6 (fun g1 p1 p2 p3 p4 p5 p6 p7 p8 => ?_)) (by decide)
  rw [e1]
  rw [e2] at p5
  exact ⟨rfl, p3, p4, p5, p6, p7, p8⟩
theorem m_109 (hI : iv_I h) (i : KI C D s H M x) (j : KC C s H M x h) (a : Int32) (b : Int32) : am_call am_cod 60 109 [.ref 0, .int a, .int b] h (KCf C (f_lot C s H M x a b)) := by
  have hP := iv_P hI
  have hc := i.1
  have h6 := hc.1.1
  have h5 := hc.1.2
  have hx := i.2.2.2.2
  obtain ⟨c, c1, c2, c3, c4, c5, c6, c7, c8⟩ := j
  rcases c_87 h6 a with e | ⟨p, hp, rfl⟩
  · rcases c1 with rfl | rfl
    · refine am_call.up (d_109_xK6 hP hc c3 c4 c2 c5 c6 c7 c8 e (fun g1 p1 p2 p3 p4 p5 p6 p7 p8 p9 => ?_)) (by decide)
      rw [f_lot1 e]
      exact ⟨rfl, 6, Or.inl rfl, p5, p3, p4, p6, p7, p8, p9⟩
    · refine am_call.up (d_109_xK17 hP hc c3 c4 c2 c5 c6 c7 c8 e (fun g1 p1 p2 p3 p4 p5 p6 p7 p8 p9 => ?_)) (by decide)
      rw [f_lot1 e]
      exact ⟨rfl, 17, Or.inr rfl, p5, p3, p4, p6, p7, p8, p9⟩
  · rcases c_60 (lo := 0) (hi := 4) (by decide) (by decide) b with e | ⟨l, -, hl, rfl⟩
    · rcases c1 with rfl | rfl
      · refine am_call.up (d_109_yK6 hP hc c3 c4 c2 c5 c6 c7 c8 hp e (fun g1 p1 p2 p3 p4 p5 p6 p7 p8 p9 => ?_)) (by decide)
        rw [f_lot2 hp h6 e]
        exact ⟨rfl, 6, Or.inl rfl, p5, p3, p4, p6, p7, p8, p9⟩
      · refine am_call.up (d_109_yK17 hP hc c3 c4 c2 c5 c6 c7 c8 hp e (fun g1 p1 p2 p3 p4 p5 p6 p7 p8 p9 => ?_)) (by decide)
        rw [f_lot2 hp h6 e]
        exact ⟨rfl, 17, Or.inr rfl, p5, p3, p4, p6, p7, p8, p9⟩
    · rcases c1 with rfl | rfl
      · refine am_call.up (d_109_K6 hP hc c3 c4 c2 c5 c6 c7 c8 hp (by omega) (fun g1 p1 p2 p3 p4 p5 p6 p7 p8 p9 => ?_)) (by decide)
        rw [f_lot3 hp h6 (show l < 5 by omega)]
        exact ⟨rfl, 6, Or.inl rfl, p5, p3, p4, p6, p7, p8, p9⟩
      · refine am_call.up (d_109_K17 hP hc c3 c4 c2 c5 c6 c7 c8 hp (by omega) (fun g1 p1 p2 p3 p4 p5 p6 p7 p8 p9 => ?_)) (by decide)
        rw [f_lot3 hp h6 (show l < 5 by omega)]
        exact ⟨rfl, 17, Or.inr rfl, p5, p3, p4, p6, p7, p8, p9⟩
theorem m_110 (hI : iv_I h) (i : KI C D s H M x) (j : KC C s H M x h) (a : Int32) : am_call am_cod 60 110 [.ref 0, .int a] h (KCf C (f_ask C s H M x a)) := by
  have hP := iv_P hI
  have hc := i.1
  have h6 := hc.1.1
  have h5 := hc.1.2
  have hx := i.2.2.2.2
  obtain ⟨c, c1, c2, c3, c4, c5, c6, c7, c8⟩ := j
  rcases c_87 h6 a with e | ⟨p, hp, rfl⟩
  · rcases c1 with rfl | rfl
    · refine am_call.up (d_110_xK6 hP hc c3 c4 c2 c5 c6 c7 c8 e (fun g1 p1 p2 p3 p4 p5 p6 p7 p8 p9 => ?_)) (by decide)
      rw [f_ask1 e]
      exact ⟨rfl, 6, Or.inl rfl, p5, p3, p4, p6, p7, p8, p9⟩
    · refine am_call.up (d_110_xK17 hP hc c3 c4 c2 c5 c6 c7 c8 e (fun g1 p1 p2 p3 p4 p5 p6 p7 p8 p9 => ?_)) (by decide)
      rw [f_ask1 e]
      exact ⟨rfl, 17, Or.inr rfl, p5, p3, p4, p6, p7, p8, p9⟩
  · rcases c1 with rfl | rfl
    · refine am_call.up (d_110_K6 hP hc c3 c4 c2 c5 c6 c7 c8 hp (fun g1 p1 p2 p3 p4 p5 p6 p7 p8 p9 => ?_)) (by decide)
      rw [f_ask2 hp h6]
      exact ⟨rfl, 6, Or.inl rfl, p5, p3, p4, p6, p7, p8, p9⟩
    · refine am_call.up (d_110_K17 hP hc c3 c4 c2 c5 c6 c7 c8 hp (fun g1 p1 p2 p3 p4 p5 p6 p7 p8 p9 => ?_)) (by decide)
      rw [f_ask2 hp h6]
      exact ⟨rfl, 17, Or.inr rfl, p5, p3, p4, p6, p7, p8, p9⟩
theorem m_112 (hI : iv_I h) (i : KI C D s H M x) (j : KC C s H M x h) : am_call am_cod 60 112 [.ref 0] h (KCf C (f_undo s H M x)) := by
  have hP := iv_P hI
  have hc := i.1
  have h6 := hc.1.1
  have h5 := hc.1.2
  have hx := i.2.2.2.2
  obtain ⟨c, c1, c2, c3, c4, c5, c6, c7, c8⟩ := j
  by_cases e : H.1 = 0
  · rcases c1 with rfl | rfl
    · refine am_call.up (d_112_zK6 hP hc c3 c4 c2 c5 c6 c7 c8 e (fun g1 p1 p2 p3 p4 p5 p6 p7 p8 p9 => ?_)) (by decide)
      rw [f_undo1 e]
      exact ⟨rfl, 6, Or.inl rfl, p5, p3, p4, p6, p7, p8, p9⟩
    · refine am_call.up (d_112_zK17 hP hc c3 c4 c2 c5 c6 c7 c8 e (fun g1 p1 p2 p3 p4 p5 p6 p7 p8 p9 => ?_)) (by decide)
      rw [f_undo1 e]
      exact ⟨rfl, 17, Or.inr rfl, p5, p3, p4, p6, p7, p8, p9⟩
  · rcases c1 with rfl | rfl
    · refine am_call.up (d_112_K6 hP hc c3 c4 c2 c5 c6 c7 c8 (by omega) (fun g1 p1 p2 p3 p4 p5 p6 p7 p8 p9 => ?_)) (by decide)
      rw [f_undo2 (show 0 < H.1 by omega)]
      exact ⟨rfl, 6, Or.inl rfl, p5, p3, p4, p6, p7, p8, p9⟩
    · refine am_call.up (d_112_K17 hP hc c3 c4 c2 c5 c6 c7 c8 (by omega) (fun g1 p1 p2 p3 p4 p5 p6 p7 p8 p9 => ?_)) (by decide)
      rw [f_undo2 (show 0 < H.1 by omega)]
      exact ⟨rfl, 17, Or.inr rfl, p5, p3, p4, p6, p7, p8, p9⟩
theorem m_148 (hI : iv_I h) (i : KI C D s H M x) (j : KC C s H M x h) (a : Int32) (b : Int32) (w : Int32) : am_call am_cod 60 148 [.ref 0, .int a, .int b, .int w] h (KCf C (f_see C s H M x a b)) := by
  have hP := iv_P hI
  have hc := i.1
  have h6 := hc.1.1
  have h5 := hc.1.2
  have hx := i.2.2.2.2
  obtain ⟨c, c1, c2, c3, c4, c5, c6, c7, c8⟩ := j
  rcases c_93 h5 a with e | ⟨p, hp, rfl⟩
  · rcases c1 with rfl | rfl
    · refine am_call.up (d_148_xK6 hP hc c3 c4 c2 c5 c6 c7 c8 e (fun g1 p1 p2 p3 p4 p5 p6 p7 p8 p9 => ?_)) (by decide)
      rw [f_see1 e]
      exact ⟨rfl, 6, Or.inl rfl, p5, p3, p4, p6, p7, p8, p9⟩
    · refine am_call.up (d_148_xK17 hP hc c3 c4 c2 c5 c6 c7 c8 e (fun g1 p1 p2 p3 p4 p5 p6 p7 p8 p9 => ?_)) (by decide)
      rw [f_see1 e]
      exact ⟨rfl, 17, Or.inr rfl, p5, p3, p4, p6, p7, p8, p9⟩
  · rcases c_60b b with e | ⟨l, h1, h2, rfl⟩
    · rcases c1 with rfl | rfl
      · refine am_call.up (d_148_yK6 hP hc c3 c4 c2 c5 c6 c7 c8 hp e (fun g1 p1 p2 p3 p4 p5 p6 p7 p8 p9 => ?_)) (by decide)
        rw [f_see2 hp h5 e]
        exact ⟨rfl, 6, Or.inl rfl, p5, p3, p4, p6, p7, p8, p9⟩
      · refine am_call.up (d_148_yK17 hP hc c3 c4 c2 c5 c6 c7 c8 hp e (fun g1 p1 p2 p3 p4 p5 p6 p7 p8 p9 => ?_)) (by decide)
        rw [f_see2 hp h5 e]
        exact ⟨rfl, 17, Or.inr rfl, p5, p3, p4, p6, p7, p8, p9⟩
    · by_cases e : x = 8
      · rcases c1 with rfl | rfl
        · refine am_call.up (d_148_zK6 hP hc c3 c4 c2 c5 c6 c7 c8 hp h1 h2 e (fun g1 p1 p2 p3 p4 p5 p6 p7 p8 p9 => ?_)) (by decide)
          rw [f_see3 hp h5 h1 h2 e]
          exact ⟨rfl, 6, Or.inl rfl, p5, p3, p4, p6, p7, p8, p9⟩
        · refine am_call.up (d_148_zK17 hP hc c3 c4 c2 c5 c6 c7 c8 hp h1 h2 e (fun g1 p1 p2 p3 p4 p5 p6 p7 p8 p9 => ?_)) (by decide)
          rw [f_see3 hp h5 h1 h2 e]
          exact ⟨rfl, 17, Or.inr rfl, p5, p3, p4, p6, p7, p8, p9⟩
      · rcases c1 with rfl | rfl
        · refine am_call.up (d_148_K6 hP hc c3 c4 c2 c5 c6 c7 c8 hp h1 h2 (by omega) (fun g1 p1 p2 p3 p4 p5 p6 p7 p8 p9 => ?_)) (by decide)
          rw [f_see4 hp h5 h1 h2 (show x < 8 by omega)]
          exact ⟨rfl, 6, Or.inl rfl, p5, p3, p4, p6, p7, p8, p9⟩
        · refine am_call.up (d_148_K17 hP hc c3 c4 c2 c5 c6 c7 c8 hp h1 h2 (by omega) (fun g1 p1 p2 p3 p4 p5 p6 p7 p8 p9 => ?_)) (by decide)
          rw [f_see4 hp h5 h1 h2 (show x < 8 by omega)]
          exact ⟨rfl, 17, Or.inr rfl, p5, p3, p4, p6, p7, p8, p9⟩
theorem m_239 (hI : iv_I h) (i : KI C D s H M x) (j : KR C s H M x h) (a : Int32) (b : Int32) : am_call am_cod 60 239 [.ref 154, .int a, .int b] h (KRf C (f_lot C s H M x a b)) := by
  have hP := iv_P hI
  have hc := i.1
  have h6 := hc.1.1
  have h5 := hc.1.2
  have hx := i.2.2.2.2
  obtain ⟨r1, r2, r3, r4, r5, r6⟩ := j
  rcases c_87 h6 a with e | ⟨p, hp, rfl⟩
  · refine am_call.up (d_239_xL hP hc r1 r2 r3 r4 r5 r6 e (fun g1 p1 p2 p3 p4 p5 p6 p7 p8 => ?_)) (by decide)
    rw [f_lot1 e]
    exact ⟨rfl, p3, p4, p5, p6, p7, p8⟩
  · rcases c_60 (lo := 0) (hi := 4) (by decide) (by decide) b with e | ⟨l, -, hl, rfl⟩
    · refine am_call.up (d_239_yL hP hc r1 r2 r3 r4 r5 r6 hp e (fun g1 p1 p2 p3 p4 p5 p6 p7 p8 => ?_)) (by decide)
      rw [f_lot2 hp h6 e]
      exact ⟨rfl, p3, p4, p5, p6, p7, p8⟩
    · refine am_call.up (d_239_L hP hc r1 r2 r3 r4 r5 r6 hp (by omega) (fun g1 p1 p2 p3 p4 p5 p6 p7 p8 => ?_)) (by decide)
      rw [f_lot3 hp h6 (show l < 5 by omega)]
      exact ⟨rfl, p3, p4, p5, p6, p7, p8⟩
theorem m_240 (hI : iv_I h) (i : KI C D s H M x) (j : KR C s H M x h) (a : Int32) : am_call am_cod 60 240 [.ref 154, .int a] h (KRf C (f_ask C s H M x a)) := by
  have hP := iv_P hI
  have hc := i.1
  have h6 := hc.1.1
  have h5 := hc.1.2
  have hx := i.2.2.2.2
  obtain ⟨r1, r2, r3, r4, r5, r6⟩ := j
  rcases c_87 h6 a with e | ⟨p, hp, rfl⟩
  · refine am_call.up (d_240_xL hP hc r1 r2 r3 r4 r5 r6 e (fun g1 p1 p2 p3 p4 p5 p6 p7 p8 => ?_)) (by decide)
    rw [f_ask1 e]
    exact ⟨rfl, p3, p4, p5, p6, p7, p8⟩
  · refine am_call.up (d_240_L hP hc r1 r2 r3 r4 r5 r6 hp (fun g1 p1 p2 p3 p4 p5 p6 p7 p8 => ?_)) (by decide)
    rw [f_ask2 hp h6]
    exact ⟨rfl, p3, p4, p5, p6, p7, p8⟩
theorem m_242 (hI : iv_I h) (i : KI C D s H M x) (j : KR C s H M x h) : am_call am_cod 60 242 [.ref 154] h (KRf C (f_undo s H M x)) := by
  have hP := iv_P hI
  have hc := i.1
  have h6 := hc.1.1
  have h5 := hc.1.2
  have hx := i.2.2.2.2
  obtain ⟨r1, r2, r3, r4, r5, r6⟩ := j
  by_cases e : H.1 = 0
  · refine am_call.up (d_242_zL hP hc r1 r2 r3 r4 r5 r6 e (fun g1 p1 p2 p3 p4 p5 p6 p7 p8 => ?_)) (by decide)
    rw [f_undo1 e]
    exact ⟨rfl, p3, p4, p5, p6, p7, p8⟩
  · refine am_call.up (d_242_L hP hc r1 r2 r3 r4 r5 r6 (by omega) (fun g1 p1 p2 p3 p4 p5 p6 p7 p8 => ?_)) (by decide)
    rw [f_undo2 (show 0 < H.1 by omega)]
    exact ⟨rfl, p3, p4, p5, p6, p7, p8⟩
theorem m_266 (hI : iv_I h) (i : KI C D s H M x) (j : KR C s H M x h) (a : Int32) (b : Int32) (w : Int32) : am_call am_cod 60 266 [.ref 154, .int a, .int b, .int w] h (KRf C (f_see C s H M x a b)) := by
  have hP := iv_P hI
  have hc := i.1
  have h6 := hc.1.1
  have h5 := hc.1.2
  have hx := i.2.2.2.2
  obtain ⟨r1, r2, r3, r4, r5, r6⟩ := j
  rcases c_93 h5 a with e | ⟨p, hp, rfl⟩
  · refine am_call.up (d_266_xL hP hc r1 r2 r3 r4 r5 r6 e (fun g1 p1 p2 p3 p4 p5 p6 p7 p8 => ?_)) (by decide)
    rw [f_see1 e]
    exact ⟨rfl, p3, p4, p5, p6, p7, p8⟩
  · rcases c_60b b with e | ⟨l, h1, h2, rfl⟩
    · refine am_call.up (d_266_yL hP hc r1 r2 r3 r4 r5 r6 hp e (fun g1 p1 p2 p3 p4 p5 p6 p7 p8 => ?_)) (by decide)
      rw [f_see2 hp h5 e]
      exact ⟨rfl, p3, p4, p5, p6, p7, p8⟩
    · by_cases e : x = 8
      · refine am_call.up (d_266_zL hP hc r1 r2 r3 r4 r5 r6 hp h1 h2 e (fun g1 p1 p2 p3 p4 p5 p6 p7 p8 => ?_)) (by decide)
        rw [f_see3 hp h5 h1 h2 e]
        exact ⟨rfl, p3, p4, p5, p6, p7, p8⟩
      · refine am_call.up (d_266_L hP hc r1 r2 r3 r4 r5 r6 hp h1 h2 (by omega) (fun g1 p1 p2 p3 p4 p5 p6 p7 p8 => ?_)) (by decide)
        rw [f_see4 hp h5 h1 h2 (show x < 8 by omega)]
        exact ⟨rfl, p3, p4, p5, p6, p7, p8⟩
theorem m_114 (hI : iv_I h) (i : KI C D s H M x) (j : KC C s H M x h) (a : Int32) {z : Int} (hz : 0 ≤ z ∧ z ≤ 1) : am_call am_cod 60 114 [.ref 0, .int a, .int (Int32.ofInt z)] h (KCf C (f_mark s H M x a z)) := by
  have hP := iv_P hI
  have hc := i.1
  have h6 := hc.1.1
  have h5 := hc.1.2
  have hx := i.2.2.2.2
  obtain ⟨c, c1, c2, c3, c4, c5, c6, c7, c8⟩ := j
  rcases c_60 (lo := 0) (hi := 3) (by decide) (by decide) a with e | ⟨m, -, hm, rfl⟩
  · rcases c1 with rfl | rfl
    · refine am_call.up (d_114_xK6 hP hc c3 c4 c2 c5 c6 c7 c8 e (fun g1 p1 p2 p3 p4 p5 p6 p7 p8 p9 => ?_)) (by decide)
      rw [f_mark1 e]
      exact ⟨rfl, 6, Or.inl rfl, p5, p3, p4, p6, p7, p8, p9⟩
    · refine am_call.up (d_114_xK17 hP hc c3 c4 c2 c5 c6 c7 c8 e (fun g1 p1 p2 p3 p4 p5 p6 p7 p8 p9 => ?_)) (by decide)
      rw [f_mark1 e]
      exact ⟨rfl, 17, Or.inr rfl, p5, p3, p4, p6, p7, p8, p9⟩
  · have zz : z = 0 ∨ z = 1 := by omega
    have mm : m = 0 ∨ m = 1 ∨ m = 2 ∨ m = 3 := by omega
    rcases mm with rfl | rfl | rfl | rfl
    · rcases zz with rfl | rfl
      · rcases c1 with rfl | rfl
        · refine am_call.up (d_114_lK6_0 hP hc c3 c4 c2 c5 c6 c7 c8 (fun g1 p1 p2 p3 p4 p5 p6 p7 p8 p9 => ?_)) (by decide)
          rw [f_mark2 (m := 0) (by decide)]
          exact ⟨rfl, 6, Or.inl rfl, p5, p3, p4, p6, p7, p8, p9⟩
        · refine am_call.up (d_114_lK17_0 hP hc c3 c4 c2 c5 c6 c7 c8 (fun g1 p1 p2 p3 p4 p5 p6 p7 p8 p9 => ?_)) (by decide)
          rw [f_mark2 (m := 0) (by decide)]
          exact ⟨rfl, 17, Or.inr rfl, p5, p3, p4, p6, p7, p8, p9⟩
      · by_cases e : M.1 0 = true
        · rcases c1 with rfl | rfl
          · refine am_call.up (d_114_bK6_0 hP hc c3 c4 c2 c5 c6 c7 c8 e (fun g1 p1 p2 p3 p4 p5 p6 p7 p8 p9 => ?_)) (by decide)
            rw [f_mark4 (m := 0) (by decide) e]
            exact ⟨rfl, 6, Or.inl rfl, p5, p3, p4, p6, p7, p8, p9⟩
          · refine am_call.up (d_114_bK17_0 hP hc c3 c4 c2 c5 c6 c7 c8 e (fun g1 p1 p2 p3 p4 p5 p6 p7 p8 p9 => ?_)) (by decide)
            rw [f_mark4 (m := 0) (by decide) e]
            exact ⟨rfl, 17, Or.inr rfl, p5, p3, p4, p6, p7, p8, p9⟩
        · have e := Bool.eq_false_iff.mpr e
          rcases c1 with rfl | rfl
          · refine am_call.up (d_114_nK6_0 hP hc c3 c4 c2 c5 c6 c7 c8 e (fun g1 p1 p2 p3 p4 p5 p6 p7 p8 p9 => ?_)) (by decide)
            rw [f_mark3 (m := 0) (by decide) e]
            exact ⟨rfl, 6, Or.inl rfl, p5, p3, p4, p6, p7, p8, p9⟩
          · refine am_call.up (d_114_nK17_0 hP hc c3 c4 c2 c5 c6 c7 c8 e (fun g1 p1 p2 p3 p4 p5 p6 p7 p8 p9 => ?_)) (by decide)
            rw [f_mark3 (m := 0) (by decide) e]
            exact ⟨rfl, 17, Or.inr rfl, p5, p3, p4, p6, p7, p8, p9⟩
    · rcases zz with rfl | rfl
      · rcases c1 with rfl | rfl
        · refine am_call.up (d_114_lK6_1 hP hc c3 c4 c2 c5 c6 c7 c8 (fun g1 p1 p2 p3 p4 p5 p6 p7 p8 p9 => ?_)) (by decide)
          rw [f_mark2 (m := 1) (by decide)]
          exact ⟨rfl, 6, Or.inl rfl, p5, p3, p4, p6, p7, p8, p9⟩
        · refine am_call.up (d_114_lK17_1 hP hc c3 c4 c2 c5 c6 c7 c8 (fun g1 p1 p2 p3 p4 p5 p6 p7 p8 p9 => ?_)) (by decide)
          rw [f_mark2 (m := 1) (by decide)]
          exact ⟨rfl, 17, Or.inr rfl, p5, p3, p4, p6, p7, p8, p9⟩
      · by_cases e : M.1 1 = true
        · rcases c1 with rfl | rfl
          · refine am_call.up (d_114_bK6_1 hP hc c3 c4 c2 c5 c6 c7 c8 e (fun g1 p1 p2 p3 p4 p5 p6 p7 p8 p9 => ?_)) (by decide)
            rw [f_mark4 (m := 1) (by decide) e]
            exact ⟨rfl, 6, Or.inl rfl, p5, p3, p4, p6, p7, p8, p9⟩
          · refine am_call.up (d_114_bK17_1 hP hc c3 c4 c2 c5 c6 c7 c8 e (fun g1 p1 p2 p3 p4 p5 p6 p7 p8 p9 => ?_)) (by decide)
            rw [f_mark4 (m := 1) (by decide) e]
            exact ⟨rfl, 17, Or.inr rfl, p5, p3, p4, p6, p7, p8, p9⟩
        · have e := Bool.eq_false_iff.mpr e
          rcases c1 with rfl | rfl
          · refine am_call.up (d_114_nK6_1 hP hc c3 c4 c2 c5 c6 c7 c8 e (fun g1 p1 p2 p3 p4 p5 p6 p7 p8 p9 => ?_)) (by decide)
            rw [f_mark3 (m := 1) (by decide) e]
            exact ⟨rfl, 6, Or.inl rfl, p5, p3, p4, p6, p7, p8, p9⟩
          · refine am_call.up (d_114_nK17_1 hP hc c3 c4 c2 c5 c6 c7 c8 e (fun g1 p1 p2 p3 p4 p5 p6 p7 p8 p9 => ?_)) (by decide)
            rw [f_mark3 (m := 1) (by decide) e]
            exact ⟨rfl, 17, Or.inr rfl, p5, p3, p4, p6, p7, p8, p9⟩
    · rcases zz with rfl | rfl
      · rcases c1 with rfl | rfl
        · refine am_call.up (d_114_lK6_2 hP hc c3 c4 c2 c5 c6 c7 c8 (fun g1 p1 p2 p3 p4 p5 p6 p7 p8 p9 => ?_)) (by decide)
          rw [f_mark2 (m := 2) (by decide)]
          exact ⟨rfl, 6, Or.inl rfl, p5, p3, p4, p6, p7, p8, p9⟩
        · refine am_call.up (d_114_lK17_2 hP hc c3 c4 c2 c5 c6 c7 c8 (fun g1 p1 p2 p3 p4 p5 p6 p7 p8 p9 => ?_)) (by decide)
          rw [f_mark2 (m := 2) (by decide)]
          exact ⟨rfl, 17, Or.inr rfl, p5, p3, p4, p6, p7, p8, p9⟩
      · by_cases e : M.1 2 = true
        · rcases c1 with rfl | rfl
          · refine am_call.up (d_114_bK6_2 hP hc c3 c4 c2 c5 c6 c7 c8 e (fun g1 p1 p2 p3 p4 p5 p6 p7 p8 p9 => ?_)) (by decide)
            rw [f_mark4 (m := 2) (by decide) e]
            exact ⟨rfl, 6, Or.inl rfl, p5, p3, p4, p6, p7, p8, p9⟩
          · refine am_call.up (d_114_bK17_2 hP hc c3 c4 c2 c5 c6 c7 c8 e (fun g1 p1 p2 p3 p4 p5 p6 p7 p8 p9 => ?_)) (by decide)
            rw [f_mark4 (m := 2) (by decide) e]
            exact ⟨rfl, 17, Or.inr rfl, p5, p3, p4, p6, p7, p8, p9⟩
        · have e := Bool.eq_false_iff.mpr e
          rcases c1 with rfl | rfl
          · refine am_call.up (d_114_nK6_2 hP hc c3 c4 c2 c5 c6 c7 c8 e (fun g1 p1 p2 p3 p4 p5 p6 p7 p8 p9 => ?_)) (by decide)
            rw [f_mark3 (m := 2) (by decide) e]
            exact ⟨rfl, 6, Or.inl rfl, p5, p3, p4, p6, p7, p8, p9⟩
          · refine am_call.up (d_114_nK17_2 hP hc c3 c4 c2 c5 c6 c7 c8 e (fun g1 p1 p2 p3 p4 p5 p6 p7 p8 p9 => ?_)) (by decide)
            rw [f_mark3 (m := 2) (by decide) e]
            exact ⟨rfl, 17, Or.inr rfl, p5, p3, p4, p6, p7, p8, p9⟩
    · rcases zz with rfl | rfl
      · rcases c1 with rfl | rfl
        · refine am_call.up (d_114_lK6_3 hP hc c3 c4 c2 c5 c6 c7 c8 (fun g1 p1 p2 p3 p4 p5 p6 p7 p8 p9 => ?_)) (by decide)
          rw [f_mark2 (m := 3) (by decide)]
          exact ⟨rfl, 6, Or.inl rfl, p5, p3, p4, p6, p7, p8, p9⟩
        · refine am_call.up (d_114_lK17_3 hP hc c3 c4 c2 c5 c6 c7 c8 (fun g1 p1 p2 p3 p4 p5 p6 p7 p8 p9 => ?_)) (by decide)
          rw [f_mark2 (m := 3) (by decide)]
          exact ⟨rfl, 17, Or.inr rfl, p5, p3, p4, p6, p7, p8, p9⟩
      · by_cases e : M.1 3 = true
        · rcases c1 with rfl | rfl
          · refine am_call.up (d_114_bK6_3 hP hc c3 c4 c2 c5 c6 c7 c8 e (fun g1 p1 p2 p3 p4 p5 p6 p7 p8 p9 => ?_)) (by decide)
            rw [f_mark4 (m := 3) (by decide) e]
            exact ⟨rfl, 6, Or.inl rfl, p5, p3, p4, p6, p7, p8, p9⟩
          · refine am_call.up (d_114_bK17_3 hP hc c3 c4 c2 c5 c6 c7 c8 e (fun g1 p1 p2 p3 p4 p5 p6 p7 p8 p9 => ?_)) (by decide)
            rw [f_mark4 (m := 3) (by decide) e]
            exact ⟨rfl, 17, Or.inr rfl, p5, p3, p4, p6, p7, p8, p9⟩
        · have e := Bool.eq_false_iff.mpr e
          rcases c1 with rfl | rfl
          · refine am_call.up (d_114_nK6_3 hP hc c3 c4 c2 c5 c6 c7 c8 e (fun g1 p1 p2 p3 p4 p5 p6 p7 p8 p9 => ?_)) (by decide)
            rw [f_mark3 (m := 3) (by decide) e]
            exact ⟨rfl, 6, Or.inl rfl, p5, p3, p4, p6, p7, p8, p9⟩
          · refine am_call.up (d_114_nK17_3 hP hc c3 c4 c2 c5 c6 c7 c8 e (fun g1 p1 p2 p3 p4 p5 p6 p7 p8 p9 => ?_)) (by decide)
            rw [f_mark3 (m := 3) (by decide) e]
            exact ⟨rfl, 17, Or.inr rfl, p5, p3, p4, p6, p7, p8, p9⟩
theorem m_291 (hI : iv_I h) (i : KI C D s H M x) (j : KR C s H M x h) (a : Int32) {z : Int} (hz : 0 ≤ z ∧ z ≤ 1) : am_call am_cod 60 291 [.ref 154, .int a, .int (Int32.ofInt z)] h (KRf C (f_mark s H M x a z)) := by
  have hP := iv_P hI
  have hc := i.1
  have h6 := hc.1.1
  have h5 := hc.1.2
  have hx := i.2.2.2.2
  obtain ⟨r1, r2, r3, r4, r5, r6⟩ := j
  rcases c_60 (lo := 0) (hi := 3) (by decide) (by decide) a with e | ⟨m, -, hm, rfl⟩
  · refine am_call.up (d_291_xL hP hc r1 r2 r3 r4 r5 r6 e (fun g1 p1 p2 p3 p4 p5 p6 p7 p8 => ?_)) (by decide)
    rw [f_mark1 e]
    exact ⟨rfl, p3, p4, p5, p6, p7, p8⟩
  · have zz : z = 0 ∨ z = 1 := by omega
    rcases zz with rfl | rfl
    · refine am_call.up (d_291_l hP hc r1 r2 r3 r4 r6 r5 (by omega) (fun g1 p1 p2 p3 p4 p5 p6 p7 p8 => ?_)) (by decide)
      rw [f_mark2 (m := m) (by omega)]
      exact ⟨rfl, p3, p4, p5, p6, p7, p8⟩
    · by_cases e : M.1 m = true
      · refine am_call.up (d_291_b hP hc r1 r2 r3 r4 r5 r6 (by omega) e (fun g1 p1 p2 p3 p4 p5 p6 p7 p8 => ?_)) (by decide)
        rw [f_mark4 (m := m) (by omega) e]
        exact ⟨rfl, p3, p4, p5, p6, p7, p8⟩
      · have e := Bool.eq_false_iff.mpr e
        refine am_call.up (d_291_n hP hc r1 r2 r3 r4 r5 r6 (by omega) e (fun g1 p1 p2 p3 p4 p5 p6 p7 p8 => ?_)) (by decide)
        rw [f_mark3 (m := m) (by omega) e]
        exact ⟨rfl, p3, p4, p5, p6, p7, p8⟩
end
section
/-! DAYS AHEAD; MOVE -/
theorem sC_ex (o : Nat) (h : am_H) : sC o (h.1 o 0, h.1 o 1, h.1 (o + 1), h.1 (o + 2), h.1 (o + 3), h.1 (o + 4)) h := ⟨⟨rfl, rfl⟩, fun _ _ => ⟨rfl, rfl⟩, fun _ _ => ⟨rfl, rfl⟩⟩
theorem sR_ex (b P : Nat) (h : am_H) : sR b P (h.1 170 b, h.1 170 (b + 1), fun i => h.1 170 (b + 2 + i), fun i => h.1 170 (b + 8 + i), fun i => h.1 170 (b + 14 + i), fun i => h.1 170 (b + 19 + i)) h := ⟨⟨rfl, rfl⟩, fun _ _ => rfl, fun _ _ => rfl, fun _ _ => ⟨rfl, rfl⟩⟩
/-- the canton with another day of the week for e -/
def setW (C : sp_C) (e : Nat) (d : Int32) : sp_C := (C.1, (C.2.1.1, C.2.1.2.1, sp_uI C.2.1.2.2.1 e d, C.2.1.2.2.2), C.2.2)
theorem cI_W {C : sp_C} {e k : Nat} (hk : k < 7) (hc : cI C) : cI (setW C e (nI k)) := by
  obtain ⟨h1, h2, h3, h4⟩ := hc
  refine ⟨h1, h2, fun q hq => ⟨?_, (h3 q hq).2⟩, h4⟩
  show ∃ d, d < 7 ∧ (if q = e then nI k else C.2.1.2.2.1 q) = nI d
  by_cases eq : q = e
  · rw [if_pos eq]; exact ⟨k, hk, rfl⟩
  · rw [if_neg eq]; exact (h3 q hq).1
theorem W_d {C : sp_C} {c e : Nat} {d : Int32} {h : am_H} (hE : ∀ i, i < dE C → ¬ i = e → h.1 (c + 5) i = dW C i) (hk : h.1 (c + 5) e = d) : c_d c (setW C e d) h := fun i hi => by
  show h.1 (c + 5) i = if i = e then d else C.2.1.2.2.1 i
  by_cases ei : i = e
  · rw [if_pos ei, ei]; exact hk
  · rw [if_neg ei]; exact hE i hi ei
theorem W_e {C : sp_C} {c e : Nat} {d : Int32} {h : am_H} (l : c_d c (setW C e d) h) : ∀ i, i < dE C → ¬ i = e → h.1 (c + 5) i = dW C i := fun i hi hn => (l i hi).trans (if_neg hn)
theorem W_k {C : sp_C} {c e : Nat} {d : Int32} {h : am_H} (he : e < dE C) (l : c_d c (setW C e d) h) : h.1 (c + 5) e = d := (l e he).trans (if_pos rfl)
theorem W_o {C : sp_C} {e : Nat} {d : Int32} {h : am_H} (hE : ∀ i, i < dE C → ¬ i = e → h.1 172 i = dW C i) (hk : h.1 172 e = d) : ∀ i, i < dE C → h.1 172 i = dW (setW C e d) i := fun i hi => by
  show h.1 172 i = if i = e then d else C.2.1.2.2.1 i
  by_cases ei : i = e
  · rw [if_pos ei, ei]; exact hk
  · rw [if_neg ei]; exact hE i hi ei
theorem c_v_w5 {c k : Nat} {v : Int32} {C : sp_C} {h : am_H} (l : c_v c C h) : c_v c C (am_wI h (c + 5) k v) := by
  have e : ∀ a j, ¬ a = c + 5 → (am_wI h (c + 5) k v).1 a j = h.1 a j := fun a j hn => em_wn _ _ (fun w => hn w.1)
  exact c_v_x (e _ _ (by omega)) (e _ _ (by omega)) (e _ _ (by omega)) (fun i _ => ⟨e _ _ (by omega), e _ _ (by omega)⟩) (fun i _ => ⟨e _ _ (by omega), e _ _ (by omega)⟩) (e _ _ (by omega)) (fun i _ => e _ _ (by omega)) l
variable {h : am_H} {Q : am_Q} {C V : sp_C} {y z w b kv kw : Int32} {e l m p q : Nat} {s u : dS}
theorem ex_r0_8 {h : am_H} (hP : ex_P h) : h.2.2.1 0 8 = some 41 := hP.2 0 8 41 (by decide +kernel)
theorem sv2_123 : am_r123.all (fun q => sv2_ok q.2) = true := by decide +kernel
theorem sv2_131 : am_r131.all (fun q => sv2_ok q.2) = true := by decide +kernel
theorem sv2_182 : am_r182.all (fun q => sv2_ok q.2) = true := by decide +kernel
theorem sv2_257 : am_r257.all (fun q => sv2_ok q.2) = true := by decide +kernel
def d_118_s (C : sp_C) (s : dS) : dS := d_100_s C s (d_68 C (s.1 + (Int32.ofInt 1)))
def d_118 (C : sp_C) (s : dS) : Int32 := d_100 C s (d_68 C (s.1 + (Int32.ofInt 1)))
theorem d_118_A6 (hP : ex_P h) (hI : cI C) (hT : c_v 6 C h) (hD : c_d 6 C h) (hR : h.2.2.1 0 3 = some 6) (hN : sC 36 u h) (hS : sC 41 s h)  (hQ : ∀ h1, (ex_P h1) → (cI C) → (c_v 6 C h1) → (c_d 6 C h1) → (h1.2.2.1 0 3 = some 6) → (sC 36 u h1) → (sC 41 (d_118_s C s) h1) → Q (some (.int (d_118 C s))) h1) : am_call am_cod 7 118 [.ref 0] h Q := by
  have h6 := hT.1.2.1
  have h5 := hT.2.1.2.1
  refine pz_call (n := 118) (nL := 1) (rt := (some .int)) (rows := am_r118) (d := 6) (by decide +kernel) (by decide +kernel) rfl (by funext pc; rfl) (ex_175 hP) (by exact Nat.le_of_ble_eq_true rfl) ?_
  refine am_goX 2 (show am_sh h 0 = some (10, 0) ∧ pz_S 1 (some .int) am_r118 6 Q 4 [(0, .ref 0)] [am_rf (h.2.2.1 0 3)] h from ⟨ex_0 hP, ?_⟩)
  rw [show am_rf (h.2.2.1 0 3) = .ref 6 from congrArg am_rf (hR)]
  refine am_goX 2 (show am_sh h 0 = some (10, 0) ∧ pz_S 1 (some .int) am_r118 6 Q 8 [(0, .ref 0)] [am_rf (h.2.2.1 0 8), .ref 6] h from ⟨ex_0 hP, ?_⟩)
  rw [show am_rf (h.2.2.1 0 8) = .ref 41 from congrArg am_rf (ex_r0_8 hP)]
  refine am_goX 2 (show am_sh h 0 = some (10, 0) ∧ pz_S 1 (some .int) am_r118 6 Q 12 [(0, .ref 0)] [am_rf (h.2.2.1 0 3), .ref 41, .ref 6] h from ⟨ex_0 hP, ?_⟩)
  rw [show am_rf (h.2.2.1 0 3) = .ref 6 from congrArg am_rf (hR)]
  refine am_goX 2 (show am_sh h 0 = some (10, 0) ∧ pz_S 1 (some .int) am_r118 6 Q 16 [(0, .ref 0)] [am_rf (h.2.2.1 0 8), .ref 6, .ref 41, .ref 6] h from ⟨ex_0 hP, ?_⟩)
  rw [show am_rf (h.2.2.1 0 8) = .ref 41 from congrArg am_rf (ex_r0_8 hP)]
  refine am_goX 1 (show am_sh h 41 = some (6, 0) ∧ pz_S 1 (some .int) am_r118 6 Q 19 [(0, .ref 0)] [.int (h.1 41 0), .ref 6, .ref 41, .ref 6] h from ⟨ex_41 hP, ?_⟩)
  rw [show h.1 41 0 = s.1 from hS.1.1]
  refine am_goX 3 (show am_rc h 6 0 ∧ 2 ≤ 8 ∧ h.2.2.2.2 + am_al 68 ≤ 175 ∧ am_call am_cod 6 68 [.ref 6, .int (s.1 + (Int32.ofInt 1))] h (fun vv h' => pz_S 1 (some .int) am_r118 6 Q 24 [(0, .ref 0)] (vv.toList ++ [.ref 41, .ref 6]) h') from ⟨Or.inl ⟨by decide, ex_6 hP⟩, by decide, ex_lim hP rfl, am_call.up (d_68_t6 hP hT ?_) (by decide)⟩)
  refine am_goX 1 (show am_rc h 6 0 ∧ 0 ≤ 8 ∧ h.2.2.2.2 + am_al 100 ≤ 175 ∧ am_call am_cod 6 100 [.ref 6, .ref 41, .int (d_68 C (s.1 + (Int32.ofInt 1)))] h (fun vv h' => pz_S 1 (some .int) am_r118 6 Q 27 [(0, .ref 0)] (vv.toList ++ []) h') from ⟨Or.inl ⟨by decide, ex_6 hP⟩, by decide, ex_lim hP rfl, am_call.up (d_100_t6_41 hP hI hT hD hR hN hS (fun h1 f2 f3 f4 f5 f6 f7 f8 => ?_)) (by decide)⟩)
  exact am_goX 1 (show (∃ ty, (some .int) = some ty ∧ narrow ty (.int (d_100 C s (d_68 C (s.1 + (Int32.ofInt 1))))) = .int (d_100 C s (d_68 C (s.1 + (Int32.ofInt 1))))) ∧ h1.2.2.2.2 = 175 ∧ _ from ⟨⟨.int, rfl, rfl⟩, ex_175 f2, hQ _ f2 f3 f4 f5 f6 f7 f8⟩)
def d_123_13 (C : sp_C) : Nat → Nat → dS → dS
  | 0, _, s => s
  | m + 1, k, s => d_123_13 C m (k + 1) (d_118_s C s)
theorem d_123_13_A6 (hl : l ≤ 60) : ∀ (m k : Nat) (s : dS) (h : am_H), k + m = l + 1 → (ex_P h) → (cI C) → (c_v 6 C h) → (c_d 6 C h) → (h.2.2.1 0 3 = some 6) → (sC 36 u h) → (sC 41 s h) → (∀ h1, (ex_P h1) → (cI C) → (c_v 6 C h1) → (c_d 6 C h1) → (h1.2.2.1 0 3 = some 6) → (sC 36 u h1) → (sC 41 (d_123_13 C m k s) h1) → pz_S 4 (some .int) am_r123 7 Q 29 [(0, .ref 0), (1, .int (nI e))] [] h1) → pz_S 4 (some .int) am_r123 7 Q 13 [(0, .ref 0), (1, .int (nI e)), (2, .int (nI l)), (3, .int (nI k))] [] h := by
  intro m
  induction m with
  | zero =>
    intro k s h hk hP hI hT hD hR hN hS hZ
    have h6 := hT.1.2.1
    have h5 := hT.2.1.2.1
    refine am_goX 3 (show ((nI l) < (nI k) → pz_S 4 (some .int) am_r123 7 Q 29 [(0, .ref 0), (1, .int (nI e)), (2, .int (nI l)), (3, .int (nI k))] [] h) ∧ (¬ ((nI l) < (nI k)) → pz_S 4 (some .int) am_r123 7 Q 18 [(0, .ref 0), (1, .int (nI e)), (2, .int (nI l)), (3, .int (nI k))] [] h) from ⟨fun _ => ?_, fun hz => absurd (show nI l < nI k from nI_lt (by omega) (by omega)) hz⟩)
    exact sv_S2 sv2_123 (by intro q hq; simp only [List.mem_cons, List.not_mem_nil, or_false] at hq; rcases hq with rfl | rfl <;> rfl) (hZ _ hP hI hT hD hR hN hS)
  | succ m ih =>
    intro k s h hk hP hI hT hD hR hN hS hZ
    have h6 := hT.1.2.1
    have h5 := hT.2.1.2.1
    refine am_goX 3 (show ((nI l) < (nI k) → pz_S 4 (some .int) am_r123 7 Q 29 [(0, .ref 0), (1, .int (nI e)), (2, .int (nI l)), (3, .int (nI k))] [] h) ∧ (¬ ((nI l) < (nI k)) → pz_S 4 (some .int) am_r123 7 Q 18 [(0, .ref 0), (1, .int (nI e)), (2, .int (nI l)), (3, .int (nI k))] [] h) from ⟨fun hz => absurd hz (show ¬ (nI l < nI k) by rw [nI_ltI (by omega) (by omega)]; omega), fun _ => ?_⟩)
    refine am_goX 2 (show am_rc h 0 10 ∧ 0 ≤ 8 ∧ h.2.2.2.2 + am_al 118 ≤ 175 ∧ am_call am_cod 7 118 [.ref 0] h (fun vv h' => pz_S 4 (some .int) am_r123 7 Q 22 [(0, .ref 0), (1, .int (nI e)), (2, .int (nI l)), (3, .int (nI k))] (vv.toList ++ []) h') from ⟨Or.inl ⟨by decide, ex_0 hP⟩, by decide, ex_lim hP rfl, am_call.up (d_118_A6 hP hI hT hD hR hN hS (fun h19 f20 f21 f22 f23 f24 f25 f26 => ?_)) (by decide)⟩)
    refine am_goX 3 (show (Value.int (d_118 C s)).category = 1 ∧ 3 < 4 ∧ pz_S 4 (some .int) am_r123 7 Q 13 [(3, .int ((nI k) + (Int32.ofInt 1))), (0, .ref 0), (1, .int (nI e)), (2, .int (nI l))] [] h19 from ⟨rfl, by decide, ?_⟩)
    rw [show (nI k) + (Int32.ofInt 1) = nI (k + 1) from (dn_a rfl rfl)]
    exact sv_S2 sv2_123 (by intro q hq; simp only [List.mem_cons, List.not_mem_nil, or_false] at hq; rcases hq with rfl | rfl | rfl | rfl <;> rfl) (ih (k + 1) (d_118_s C s) _ (by omega) f20 f21 f22 f23 f24 f25 f26 hZ)
def d_123_s (C : sp_C) (u : dS) (e l : Nat) : dS := d_123_13 C l 1 u
def d_123 (C : sp_C) (u : dS) (e l : Nat) : Int32 := ((d_123_13 C l 1 u).2.2.2.2.1 e) - (u.2.2.2.2.1 e)
theorem d_123_A6 (hP : ex_P h) (hI : cI C) (hT : c_v 6 C h) (hD : c_d 6 C h) (hR : h.2.2.1 0 3 = some 6) (hN : sC 36 u h) (hS : sC 41 s h) (he : e < dE C) (hl : l ≤ 60) (hQ : ∀ h1, (ex_P h1) → (cI C) → (c_v 6 C h1) → (c_d 6 C h1) → (h1.2.2.1 0 3 = some 6) → (sC 36 u h1) → (sC 41 (d_123_s C u e l) h1) → Q (some (.int (d_123 C u e l))) h1) : am_call am_cod 8 123 [.ref 0, .int (nI e), .int (nI l)] h Q := by
  have h6 := hT.1.2.1
  have h5 := hT.2.1.2.1
  refine pz_call (n := 123) (nL := 4) (rt := (some .int)) (rows := am_r123) (d := 7) (by decide +kernel) (by decide +kernel) rfl (by funext pc; rfl) (ex_175 hP) (by exact Nat.le_of_ble_eq_true rfl) ?_
  refine am_goX 2 (show am_sh h 0 = some (10, 0) ∧ pz_S 4 (some .int) am_r123 7 Q 4 [(0, .ref 0), (1, .int (nI e)), (2, .int (nI l))] [am_rf (h.2.2.1 0 8)] h from ⟨ex_0 hP, ?_⟩)
  rw [show am_rf (h.2.2.1 0 8) = .ref 41 from congrArg am_rf (ex_r0_8 hP)]
  refine am_goX 2 (show am_sh h 0 = some (10, 0) ∧ pz_S 4 (some .int) am_r123 7 Q 8 [(0, .ref 0), (1, .int (nI e)), (2, .int (nI l))] [am_rf (h.2.2.1 0 7), .ref 41] h from ⟨ex_0 hP, ?_⟩)
  rw [show am_rf (h.2.2.1 0 7) = .ref 36 from congrArg am_rf (ex_r0_7 hP)]
  refine am_goX 1 (show am_rc h 41 6 ∧ 0 ≤ 8 ∧ h.2.2.2.2 + am_al 99 ≤ 175 ∧ am_call am_cod 7 99 [.ref 41, .ref 36] h (fun vv h' => pz_S 4 (some .int) am_r123 7 Q 11 [(0, .ref 0), (1, .int (nI e)), (2, .int (nI l))] (vv.toList ++ []) h') from ⟨Or.inl ⟨by decide, ex_41 hP⟩, by decide, ex_lim hP rfl, am_call.up (q_99 stO_41 stO_36 (by decide) hP (fun h9 f10 f11 f12 f13 => ?_)) (by decide)⟩)
  have f14 : sC 41 u h9 := sC_cp f13 hN
  have f15 : c_v 6 C h9 := c_v_fr (fun a k u1 u2 => f12 a k (by omega)) hT
  have f16 : c_d 6 C h9 := c_d_fr (fun k => f12 _ k (by omega)) hD
  have f17 : h9.2.2.1 0 3 = some 6 := (congrArg (fun q => q.2.1 0 3) f11).trans hR
  have f18 : sC 36 u h9 := sC_fr (fun a k u1 u2 => f12 a k (by omega)) hN
  refine am_goX 2 (show 3 < 4 ∧ pz_S 4 (some .int) am_r123 7 Q 13 [(3, .int (Int32.ofInt 1)), (0, .ref 0), (1, .int (nI e)), (2, .int (nI l))] [] h9 from ⟨by decide, ?_⟩)
  refine sv_S2 sv2_123 (by intro q hq; simp only [List.mem_cons, List.not_mem_nil, or_false] at hq; rcases hq with rfl | rfl | rfl | rfl <;> rfl) (d_123_13_A6 hl l 1 u _ (by omega) f10 hI f15 f16 f17 f18 f14 (fun h27 f28 f29 f30 f31 f32 f33 f34 => ?_))
  refine am_goX 2 (show am_sh h27 0 = some (10, 0) ∧ pz_S 4 (some .int) am_r123 7 Q 33 [(0, .ref 0), (1, .int (nI e))] [am_rf (h27.2.2.1 0 8)] h27 from ⟨ex_0 f28, ?_⟩)
  rw [show am_rf (h27.2.2.1 0 8) = .ref 41 from congrArg am_rf (ex_r0_8 f28)]
  refine am_goX 1 (show am_sh h27 41 = some (6, 0) ∧ pz_S 4 (some .int) am_r123 7 Q 36 [(0, .ref 0), (1, .int (nI e))] [am_rf (h27.2.2.1 41 4)] h27 from ⟨ex_41 f28, ?_⟩)
  rw [show am_rf (h27.2.2.1 41 4) = .ref 44 from congrArg am_rf (ex_r41_4 f28)]
  refine am_goX 2 (show ∃ jj nn : Nat, am_sh h27 44 = some (13, nn) ∧ jj < nn ∧ nI e = nI jj ∧ pz_S 4 (some .int) am_r123 7 Q 38 [(0, .ref 0), (1, .int (nI e))] [.int (h27.1 44 jj)] h27 from ⟨e, 5, ex_44 f28, (by omega), rfl, ?_⟩)
  rw [show h27.1 44 e = (d_123_13 C l 1 u).2.2.2.2.1 e from (f34.2.2 e (by omega)).1]
  refine am_goX 2 (show am_sh h27 0 = some (10, 0) ∧ pz_S 4 (some .int) am_r123 7 Q 42 [(0, .ref 0), (1, .int (nI e))] [am_rf (h27.2.2.1 0 7), .int ((d_123_13 C l 1 u).2.2.2.2.1 e)] h27 from ⟨ex_0 f28, ?_⟩)
  rw [show am_rf (h27.2.2.1 0 7) = .ref 36 from congrArg am_rf (ex_r0_7 f28)]
  refine am_goX 1 (show am_sh h27 36 = some (6, 0) ∧ pz_S 4 (some .int) am_r123 7 Q 45 [(0, .ref 0), (1, .int (nI e))] [am_rf (h27.2.2.1 36 4), .int ((d_123_13 C l 1 u).2.2.2.2.1 e)] h27 from ⟨ex_36 f28, ?_⟩)
  rw [show am_rf (h27.2.2.1 36 4) = .ref 39 from congrArg am_rf (ex_r36_4 f28)]
  refine am_goX 2 (show ∃ jj nn : Nat, am_sh h27 39 = some (13, nn) ∧ jj < nn ∧ nI e = nI jj ∧ pz_S 4 (some .int) am_r123 7 Q 47 [(0, .ref 0), (1, .int (nI e))] [.int (h27.1 39 jj), .int ((d_123_13 C l 1 u).2.2.2.2.1 e)] h27 from ⟨e, 5, ex_39 f28, (by omega), rfl, ?_⟩)
  rw [show h27.1 39 e = u.2.2.2.2.1 e from (f33.2.2 e (by omega)).1]
  exact am_goX 2 (show (∃ ty, (some .int) = some ty ∧ narrow ty (.int (((d_123_13 C l 1 u).2.2.2.2.1 e) - (u.2.2.2.2.1 e))) = .int (((d_123_13 C l 1 u).2.2.2.2.1 e) - (u.2.2.2.2.1 e))) ∧ h27.2.2.2.2 = 175 ∧ _ from ⟨⟨.int, rfl, rfl⟩, ex_175 f28, hQ _ f28 f29 f30 f31 f32 f33 f34⟩)
def d_131_28 (C : sp_C) (u : dS) (e : Nat) : Nat → Nat → Int32 → Int32 → dS → Int32 → Int32 × Int32 × dS × Int32
  | 0, _, a3, a4, s, kv => (a3, a4, s, kv)
  | m + 1, k, a3, a4, s, kv => d_131_28 C u e m (k + 1) (if (d_123 (setW C e (nI k)) u e 28) ≤ a3 then a3 else d_123 (setW C e (nI k)) u e 28) (if (d_123 (setW C e (nI k)) u e 28) ≤ a3 then a4 else nI k) (d_123_s (setW C e (nI k)) u e 28) (nI k)
theorem d_131_28_A6 (he : e < dE C) : ∀ (m k : Nat) (a3 : Int32) (a4 : Int32) (s : dS) (kv : Int32) (h : am_H), k + m = 7 → (ex_P h) → (cI C) → (c_v 6 C h) → (h.2.2.1 0 3 = some 6) → (sC 36 u h) → (sC 41 s h) → (∀ i, i < dE C → ¬ i = e → h.1 11 i = dW C i) → (h.1 11 e = kv) → (∀ h1, (ex_P h1) → (cI C) → (c_v 6 C h1) → (h1.2.2.1 0 3 = some 6) → (sC 36 u h1) → (sC 41 ((d_131_28 C u e m k a3 a4 s kv).2.2.1) h1) → (∀ i, i < dE C → ¬ i = e → h1.1 11 i = dW C i) → (h1.1 11 e = ((d_131_28 C u e m k a3 a4 s kv).2.2.2)) → pz_S 7 (some .int) am_r131 8 Q 74 [(0, .ref 0), (1, .int (nI e)), (2, .int kw), (4, .int ((d_131_28 C u e m k a3 a4 s kv).2.1))] [] h1) → pz_S 7 (some .int) am_r131 8 Q 28 [(0, .ref 0), (1, .int (nI e)), (2, .int kw), (3, .int a3), (4, .int a4), (5, .int (nI k))] [] h := by
  intro m
  induction m with
  | zero =>
    intro k a3 a4 s kv h hk hP hI hT hR hN hS hE hk hZ
    have h6 := hT.1.2.1
    have h5 := hT.2.1.2.1
    refine am_goX 3 (show (((Int8.ofInt 7).toInt32) ≤ (nI k) → pz_S 7 (some .int) am_r131 8 Q 74 [(0, .ref 0), (1, .int (nI e)), (2, .int kw), (3, .int a3), (4, .int a4), (5, .int (nI k))] [] h) ∧ (¬ (((Int8.ofInt 7).toInt32) ≤ (nI k)) → pz_S 7 (some .int) am_r131 8 Q 35 [(0, .ref 0), (1, .int (nI e)), (2, .int kw), (3, .int a3), (4, .int a4), (5, .int (nI k))] [] h) from ⟨fun _ => ?_, fun hz => absurd (show nI 7 ≤ nI k from nI_le (by omega) (by omega)) hz⟩)
    exact sv_S2 sv2_131 (by intro q hq; simp only [List.mem_cons, List.not_mem_nil, or_false] at hq; rcases hq with rfl | rfl | rfl | rfl <;> rfl) (hZ _ hP hI hT hR hN hS hE hk)
  | succ m ih =>
    intro k a3 a4 s kv h hk hP hI hT hR hN hS hE hk hZ
    have h6 := hT.1.2.1
    have h5 := hT.2.1.2.1
    refine am_goX 3 (show (((Int8.ofInt 7).toInt32) ≤ (nI k) → pz_S 7 (some .int) am_r131 8 Q 74 [(0, .ref 0), (1, .int (nI e)), (2, .int kw), (3, .int a3), (4, .int a4), (5, .int (nI k))] [] h) ∧ (¬ (((Int8.ofInt 7).toInt32) ≤ (nI k)) → pz_S 7 (some .int) am_r131 8 Q 35 [(0, .ref 0), (1, .int (nI e)), (2, .int kw), (3, .int a3), (4, .int a4), (5, .int (nI k))] [] h) from ⟨fun hz => absurd hz (show ¬ (nI 7 ≤ nI k) by rw [nI_leI (by omega) (by omega)]; omega), fun _ => ?_⟩)
    refine am_goX 2 (show am_sh h 0 = some (10, 0) ∧ pz_S 7 (some .int) am_r131 8 Q 39 [(0, .ref 0), (1, .int (nI e)), (2, .int kw), (3, .int a3), (4, .int a4), (5, .int (nI k))] [am_rf (h.2.2.1 0 3)] h from ⟨ex_0 hP, ?_⟩)
    rw [show am_rf (h.2.2.1 0 3) = .ref 6 from congrArg am_rf (hR)]
    refine am_goX 1 (show am_sh h 6 = some (0, 0) ∧ pz_S 7 (some .int) am_r131 8 Q 42 [(0, .ref 0), (1, .int (nI e)), (2, .int kw), (3, .int a3), (4, .int a4), (5, .int (nI k))] [am_rf (h.2.2.1 6 6)] h from ⟨ex_6 hP, ?_⟩)
    rw [show am_rf (h.2.2.1 6 6) = .ref 11 from congrArg am_rf (ex_r6_6 hP)]
    refine am_goX 3 (show ∃ jj nn : Nat, am_so h 11 = some (13, nn) ∧ jj < nn ∧ nI e = nI jj ∧ pz_S 7 (some .int) am_r131 8 Q 46 [(0, .ref 0), (1, .int (nI e)), (2, .int kw), (3, .int a3), (4, .int a4), (5, .int (nI k))] [] (am_wI h 11 jj (nI k)) from ⟨e, 5, ex_w11 hP, (by omega), rfl, ?_⟩)
    have f36 : ex_P (am_wI h 11 e (nI k)) := hP
    have f37 : cI C := hI
    have f38 : c_v 6 C (am_wI h 11 e (nI k)) := c_v_w5 (c := 6) hT
    have f39 : (am_wI h 11 e (nI k)).2.2.1 0 3 = some 6 := hR
    have f40 : sC 36 u (am_wI h 11 e (nI k)) := sC_w (by omega) hN
    have f41 : sC 41 s (am_wI h 11 e (nI k)) := sC_w (by omega) hS
    have f42 : ∀ i, i < dE C → ¬ i = e → (am_wI h 11 e (nI k)).1 11 i = dW C i := fun i hi hn => (em_wn _ _ (by omega)).trans (hE i hi hn)
    have f43 : (am_wI h 11 e (nI k)).1 11 e = (nI k) := em_we _ _ _ _
    generalize am_wI h 11 e (nI k) = h35 at f36 f37 f38 f39 f40 f41 f42 f43 ⊢
    refine am_goX 3 (show pz_S 7 (some .int) am_r131 8 Q 50 [(0, .ref 0), (1, .int (nI e)), (2, .int kw), (3, .int a3), (4, .int a4), (5, .int (nI k))] [.int ((Int8.ofInt 28).toInt32), .int (nI e), .ref 0] h35 from ?_)
    rw [show (Int8.ofInt 28).toInt32 = nI 28 from (show (Int8.ofInt 28).toInt32 = nI 28 by decide)]
    refine am_goX 1 (show am_rc h35 0 10 ∧ 0 ≤ 8 ∧ h35.2.2.2.2 + am_al 123 ≤ 175 ∧ am_call am_cod 8 123 [.ref 0, .int (nI e), .int (nI 28)] h35 (fun vv h' => pz_S 7 (some .int) am_r131 8 Q 53 [(0, .ref 0), (1, .int (nI e)), (2, .int kw), (3, .int a3), (4, .int a4), (5, .int (nI k))] (vv.toList ++ []) h') from ⟨Or.inl ⟨by decide, ex_0 f36⟩, by decide, ex_lim f36 rfl, am_call.up (d_123_A6 (C := (setW C e (nI k))) f36 (cI_W (by omega) f37) f38 (W_d (c := 6) f42 f43) f39 f40 f41 he (by decide) (fun h44 f45 f46 f47 f48 f49 f50 f51 => ?_)) (by decide)⟩)
    have f52 : c_v 6 C h44 := f47
    have f53 : ∀ i, i < dE C → ¬ i = e → h44.1 11 i = dW C i := W_e (c := 6) f48
    have f54 : h44.1 11 e = nI k := W_k (c := 6) he f48
    suffices key : ∀ (v56 : Int32) (v57 : Int32), v56 = (if (d_123 (setW C e (nI k)) u e 28) ≤ a3 then a3 else d_123 (setW C e (nI k)) u e 28) → v57 = (if (d_123 (setW C e (nI k)) u e 28) ≤ a3 then a4 else nI k) → pz_S 7 (some .int) am_r131 8 Q 68 [(0, .ref 0), (1, .int (nI e)), (2, .int kw), (3, .int v56), (4, .int v57), (5, .int (nI k))] [] h44 by
      refine am_goX 4 (show 6 < 7 ∧ ((d_123 (setW C e (nI k)) u e 28) ≤ a3 → pz_S 7 (some .int) am_r131 8 Q 68 [(6, .int (d_123 (setW C e (nI k)) u e 28)), (0, .ref 0), (1, .int (nI e)), (2, .int kw), (3, .int a3), (4, .int a4), (5, .int (nI k))] [] h44) ∧ (¬ ((d_123 (setW C e (nI k)) u e 28) ≤ a3) → pz_S 7 (some .int) am_r131 8 Q 61 [(6, .int (d_123 (setW C e (nI k)) u e 28)), (0, .ref 0), (1, .int (nI e)), (2, .int kw), (3, .int a3), (4, .int a4), (5, .int (nI k))] [] h44) from ⟨by decide, fun c55 => ?_, fun c55 => ?_⟩)
      · exact sv_S2 sv2_131 (by intro q hq; simp only [List.mem_cons, List.not_mem_nil, or_false] at hq; rcases hq with rfl | rfl | rfl | rfl | rfl | rfl <;> rfl) (key _ _ (if_pos c55).symm (if_pos c55).symm)
      · refine am_goX 4 (show 3 < 7 ∧ 4 < 7 ∧ pz_S 7 (some .int) am_r131 8 Q 68 [(4, .int (nI k)), (3, .int (d_123 (setW C e (nI k)) u e 28)), (6, .int (d_123 (setW C e (nI k)) u e 28)), (0, .ref 0), (1, .int (nI e)), (2, .int kw), (5, .int (nI k))] [] h44 from ⟨by decide, by decide, ?_⟩)
        exact sv_S2 sv2_131 (by intro q hq; simp only [List.mem_cons, List.not_mem_nil, or_false] at hq; rcases hq with rfl | rfl | rfl | rfl | rfl | rfl <;> rfl) (key _ _ (if_neg c55).symm (if_neg c55).symm)
    intro v56 v57 e58 e59
    subst e58 e59
    refine am_goX 2 (show 5 < 7 ∧ pz_S 7 (some .int) am_r131 8 Q 28 [(5, .int ((nI k) + (Int32.ofInt 1))), (0, .ref 0), (1, .int (nI e)), (2, .int kw), (3, .int (if (d_123 (setW C e (nI k)) u e 28) ≤ a3 then a3 else d_123 (setW C e (nI k)) u e 28)), (4, .int (if (d_123 (setW C e (nI k)) u e 28) ≤ a3 then a4 else nI k))] [] h44 from ⟨by decide, ?_⟩)
    rw [show (nI k) + (Int32.ofInt 1) = nI (k + 1) from (dn_a rfl rfl)]
    exact sv_S2 sv2_131 (by intro q hq; simp only [List.mem_cons, List.not_mem_nil, or_false] at hq; rcases hq with rfl | rfl | rfl | rfl | rfl | rfl <;> rfl) (ih (k + 1) (if (d_123 (setW C e (nI k)) u e 28) ≤ a3 then a3 else d_123 (setW C e (nI k)) u e 28) (if (d_123 (setW C e (nI k)) u e 28) ≤ a3 then a4 else nI k) (d_123_s (setW C e (nI k)) u e 28) (nI k) _ (by omega) f45 f37 f52 f49 f50 f51 f53 f54 hZ)
def d_131_s (C : sp_C) (u s : dS) (e : Nat) (kv kw : Int32) : dS := (d_131_28 C u e 7 0 (Int32.ofInt (-1)) (Int32.ofInt 0) s kv).2.2.1
def d_131_kv (C : sp_C) (u s : dS) (e : Nat) (kv kw : Int32) : Int32 := kw
def d_131 (C : sp_C) (u s : dS) (e : Nat) (kv kw : Int32) : Int32 := (d_131_28 C u e 7 0 (Int32.ofInt (-1)) (Int32.ofInt 0) s kv).2.1
theorem d_131_A6 (hP : ex_P h) (hI : cI C) (hT : c_v 6 C h) (hR : h.2.2.1 0 3 = some 6) (hN : sC 36 u h) (hS : sC 41 s h) (hE : ∀ i, i < dE C → ¬ i = e → h.1 11 i = dW C i) (hk : h.1 11 e = kv) (he : e < dE C) (hkw : kv = kw) (hQ : ∀ h1, (ex_P h1) → (cI C) → (c_v 6 C h1) → (h1.2.2.1 0 3 = some 6) → (sC 36 u h1) → (sC 41 (d_131_s C u s e kv kw) h1) → (∀ i, i < dE C → ¬ i = e → h1.1 11 i = dW C i) → (h1.1 11 e = (d_131_kv C u s e kv kw)) → Q (some (.int (d_131 C u s e kv kw))) h1) : am_call am_cod 9 131 [.ref 0, .int (nI e)] h Q := by
  have h6 := hT.1.2.1
  have h5 := hT.2.1.2.1
  refine pz_call (n := 131) (nL := 7) (rt := (some .int)) (rows := am_r131) (d := 8) (by decide +kernel) (by decide +kernel) rfl (by funext pc; rfl) (ex_175 hP) (by exact Nat.le_of_ble_eq_true rfl) ?_
  refine am_goX 3 (show am_rc h 0 10 ∧ 0 ≤ 8 ∧ h.2.2.2.2 + am_al 93 ≤ 175 ∧ am_call am_cod 8 93 [.ref 0, .int (nI e)] h (fun vv h' => pz_S 7 (some .int) am_r131 8 Q 5 [(0, .ref 0), (1, .int (nI e))] (vv.toList ++ []) h') from ⟨Or.inl ⟨by decide, ex_0 hP⟩, by decide, ex_lim hP rfl, am_call.up (d_93_t6 hP hT hR ?_) (by decide)⟩)
  rw [show d_93 C (nI e) = Int32.ofInt 1 from (v_93 he h5)]
  refine am_goX 1 (show (¬ (Int32.ofInt 1) = 0 → pz_S 7 (some .int) am_r131 8 Q 10 [(0, .ref 0), (1, .int (nI e))] [] h) ∧ (¬ ¬ (Int32.ofInt 1) = 0 → pz_S 7 (some .int) am_r131 8 Q 8 [(0, .ref 0), (1, .int (nI e))] [] h) from ⟨fun _ => ?_, fun hz => absurd (by decide) hz⟩)
  refine am_goX 2 (show am_sh h 0 = some (10, 0) ∧ pz_S 7 (some .int) am_r131 8 Q 14 [(0, .ref 0), (1, .int (nI e))] [am_rf (h.2.2.1 0 3)] h from ⟨ex_0 hP, ?_⟩)
  rw [show am_rf (h.2.2.1 0 3) = .ref 6 from congrArg am_rf (hR)]
  refine am_goX 1 (show am_sh h 6 = some (0, 0) ∧ pz_S 7 (some .int) am_r131 8 Q 17 [(0, .ref 0), (1, .int (nI e))] [am_rf (h.2.2.1 6 6)] h from ⟨ex_6 hP, ?_⟩)
  rw [show am_rf (h.2.2.1 6 6) = .ref 11 from congrArg am_rf (ex_r6_6 hP)]
  refine am_goX 2 (show ∃ jj nn : Nat, am_sh h 11 = some (13, nn) ∧ jj < nn ∧ nI e = nI jj ∧ pz_S 7 (some .int) am_r131 8 Q 19 [(0, .ref 0), (1, .int (nI e))] [.int (h.1 11 jj)] h from ⟨e, 5, ex_11 hP, (by omega), rfl, ?_⟩)
  rw [show h.1 11 e = kw from hk.trans hkw]
  refine am_goX 7 (show 2 < 7 ∧ 3 < 7 ∧ 4 < 7 ∧ 5 < 7 ∧ pz_S 7 (some .int) am_r131 8 Q 28 [(5, .int (Int32.ofInt 0)), (4, .int (Int32.ofInt 0)), (3, .int (Int32.ofInt (-1))), (2, .int kw), (0, .ref 0), (1, .int (nI e))] [] h from ⟨by decide, by decide, by decide, by decide, ?_⟩)
  refine sv_S2 sv2_131 (by intro q hq; simp only [List.mem_cons, List.not_mem_nil, or_false] at hq; rcases hq with rfl | rfl | rfl | rfl | rfl | rfl <;> rfl) (d_131_28_A6 he 7 0 (Int32.ofInt (-1)) (Int32.ofInt 0) s kv _ (by omega) hP hI hT hR hN hS hE hk (fun h60 f61 f62 f63 f64 f65 f66 f67 f68 => ?_))
  refine am_goX 2 (show am_sh h60 0 = some (10, 0) ∧ pz_S 7 (some .int) am_r131 8 Q 78 [(0, .ref 0), (1, .int (nI e)), (2, .int kw), (4, .int ((d_131_28 C u e 7 0 (Int32.ofInt (-1)) (Int32.ofInt 0) s kv).2.1))] [am_rf (h60.2.2.1 0 3)] h60 from ⟨ex_0 f61, ?_⟩)
  rw [show am_rf (h60.2.2.1 0 3) = .ref 6 from congrArg am_rf (f64)]
  refine am_goX 1 (show am_sh h60 6 = some (0, 0) ∧ pz_S 7 (some .int) am_r131 8 Q 81 [(0, .ref 0), (1, .int (nI e)), (2, .int kw), (4, .int ((d_131_28 C u e 7 0 (Int32.ofInt (-1)) (Int32.ofInt 0) s kv).2.1))] [am_rf (h60.2.2.1 6 6)] h60 from ⟨ex_6 f61, ?_⟩)
  rw [show am_rf (h60.2.2.1 6 6) = .ref 11 from congrArg am_rf (ex_r6_6 f61)]
  refine am_goX 3 (show ∃ jj nn : Nat, am_so h60 11 = some (13, nn) ∧ jj < nn ∧ nI e = nI jj ∧ pz_S 7 (some .int) am_r131 8 Q 84 [(0, .ref 0), (1, .int (nI e)), (2, .int kw), (4, .int ((d_131_28 C u e 7 0 (Int32.ofInt (-1)) (Int32.ofInt 0) s kv).2.1))] [] (am_wI h60 11 jj kw) from ⟨e, 5, ex_w11 f61, (by omega), rfl, ?_⟩)
  have f70 : ex_P (am_wI h60 11 e kw) := f61
  have f71 : cI C := f62
  have f72 : c_v 6 C (am_wI h60 11 e kw) := c_v_w5 (c := 6) f63
  have f73 : (am_wI h60 11 e kw).2.2.1 0 3 = some 6 := f64
  have f74 : sC 36 u (am_wI h60 11 e kw) := sC_w (by omega) f65
  have f75 : sC 41 ((d_131_28 C u e 7 0 (Int32.ofInt (-1)) (Int32.ofInt 0) s kv).2.2.1) (am_wI h60 11 e kw) := sC_w (by omega) f66
  have f76 : ∀ i, i < dE C → ¬ i = e → (am_wI h60 11 e kw).1 11 i = dW C i := fun i hi hn => (em_wn _ _ (by omega)).trans (f67 i hi hn)
  have f77 : (am_wI h60 11 e kw).1 11 e = kw := em_we _ _ _ _
  generalize am_wI h60 11 e kw = h69 at f70 f71 f72 f73 f74 f75 f76 f77 ⊢
  exact am_goX 2 (show (∃ ty, (some .int) = some ty ∧ narrow ty (.int ((d_131_28 C u e 7 0 (Int32.ofInt (-1)) (Int32.ofInt 0) s kv).2.1)) = .int ((d_131_28 C u e 7 0 (Int32.ofInt (-1)) (Int32.ofInt 0) s kv).2.1)) ∧ h69.2.2.2.2 = 175 ∧ _ from ⟨⟨.int, rfl, rfl⟩, ex_175 f70, hQ _ f70 f71 f72 f73 f74 f75 f76 f77⟩)
def d_131x  : Int32 := Int32.ofInt (-1)
theorem d_131_xA6 (hP : ex_P h) (hI : cI C) (hT : c_v 6 C h) (hD : c_d 6 C h) (hR : h.2.2.1 0 3 = some 6) (hN : sC 36 u h) (hS : sC 41 s h) (ey : d_93 C y = Int32.ofInt 0) (hQ : ∀ h1, (ex_P h1) → (cI C) → (c_v 6 C h1) → (c_d 6 C h1) → (h1.2.2.1 0 3 = some 6) → (sC 36 u h1) → (sC 41 s h1) → Q (some (.int d_131x)) h1) : am_call am_cod 9 131 [.ref 0, .int y] h Q := by
  have h6 := hT.1.2.1
  have h5 := hT.2.1.2.1
  refine pz_call (n := 131) (nL := 7) (rt := (some .int)) (rows := am_r131) (d := 8) (by decide +kernel) (by decide +kernel) rfl (by funext pc; rfl) (ex_175 hP) (by exact Nat.le_of_ble_eq_true rfl) ?_
  refine am_goX 3 (show am_rc h 0 10 ∧ 0 ≤ 8 ∧ h.2.2.2.2 + am_al 93 ≤ 175 ∧ am_call am_cod 8 93 [.ref 0, .int y] h (fun vv h' => pz_S 7 (some .int) am_r131 8 Q 5 [(0, .ref 0), (1, .int y)] (vv.toList ++ []) h') from ⟨Or.inl ⟨by decide, ex_0 hP⟩, by decide, ex_lim hP rfl, am_call.up (d_93_t6 hP hT hR ?_) (by decide)⟩)
  rw [show d_93 C y = Int32.ofInt 0 from ey]
  refine am_goX 1 (show (¬ (Int32.ofInt 0) = 0 → pz_S 7 (some .int) am_r131 8 Q 10 [(0, .ref 0), (1, .int y)] [] h) ∧ (¬ ¬ (Int32.ofInt 0) = 0 → pz_S 7 (some .int) am_r131 8 Q 8 [(0, .ref 0), (1, .int y)] [] h) from ⟨fun hz => absurd hz (by decide), fun _ => ?_⟩)
  exact am_goX 2 (show (∃ ty, (some .int) = some ty ∧ narrow ty (.int (Int32.ofInt (-1))) = .int (Int32.ofInt (-1))) ∧ h.2.2.2.2 = 175 ∧ _ from ⟨⟨.int, rfl, rfl⟩, ex_175 hP, hQ _ hP hI hT hD hR hN hS⟩)
theorem d_118_A17 (hP : ex_P h) (hI : cI C) (hT : c_v 17 C h) (hD : c_d 17 C h) (hR : h.2.2.1 0 3 = some 17) (hN : sC 36 u h) (hS : sC 41 s h)  (hQ : ∀ h1, (ex_P h1) → (cI C) → (c_v 17 C h1) → (c_d 17 C h1) → (h1.2.2.1 0 3 = some 17) → (sC 36 u h1) → (sC 41 (d_118_s C s) h1) → Q (some (.int (d_118 C s))) h1) : am_call am_cod 7 118 [.ref 0] h Q := by
  have h6 := hT.1.2.1
  have h5 := hT.2.1.2.1
  refine pz_call (n := 118) (nL := 1) (rt := (some .int)) (rows := am_r118) (d := 6) (by decide +kernel) (by decide +kernel) rfl (by funext pc; rfl) (ex_175 hP) (by exact Nat.le_of_ble_eq_true rfl) ?_
  refine am_goX 2 (show am_sh h 0 = some (10, 0) ∧ pz_S 1 (some .int) am_r118 6 Q 4 [(0, .ref 0)] [am_rf (h.2.2.1 0 3)] h from ⟨ex_0 hP, ?_⟩)
  rw [show am_rf (h.2.2.1 0 3) = .ref 17 from congrArg am_rf (hR)]
  refine am_goX 2 (show am_sh h 0 = some (10, 0) ∧ pz_S 1 (some .int) am_r118 6 Q 8 [(0, .ref 0)] [am_rf (h.2.2.1 0 8), .ref 17] h from ⟨ex_0 hP, ?_⟩)
  rw [show am_rf (h.2.2.1 0 8) = .ref 41 from congrArg am_rf (ex_r0_8 hP)]
  refine am_goX 2 (show am_sh h 0 = some (10, 0) ∧ pz_S 1 (some .int) am_r118 6 Q 12 [(0, .ref 0)] [am_rf (h.2.2.1 0 3), .ref 41, .ref 17] h from ⟨ex_0 hP, ?_⟩)
  rw [show am_rf (h.2.2.1 0 3) = .ref 17 from congrArg am_rf (hR)]
  refine am_goX 2 (show am_sh h 0 = some (10, 0) ∧ pz_S 1 (some .int) am_r118 6 Q 16 [(0, .ref 0)] [am_rf (h.2.2.1 0 8), .ref 17, .ref 41, .ref 17] h from ⟨ex_0 hP, ?_⟩)
  rw [show am_rf (h.2.2.1 0 8) = .ref 41 from congrArg am_rf (ex_r0_8 hP)]
  refine am_goX 1 (show am_sh h 41 = some (6, 0) ∧ pz_S 1 (some .int) am_r118 6 Q 19 [(0, .ref 0)] [.int (h.1 41 0), .ref 17, .ref 41, .ref 17] h from ⟨ex_41 hP, ?_⟩)
  rw [show h.1 41 0 = s.1 from hS.1.1]
  refine am_goX 3 (show am_rc h 17 0 ∧ 2 ≤ 8 ∧ h.2.2.2.2 + am_al 68 ≤ 175 ∧ am_call am_cod 6 68 [.ref 17, .int (s.1 + (Int32.ofInt 1))] h (fun vv h' => pz_S 1 (some .int) am_r118 6 Q 24 [(0, .ref 0)] (vv.toList ++ [.ref 41, .ref 17]) h') from ⟨Or.inl ⟨by decide, ex_17 hP⟩, by decide, ex_lim hP rfl, am_call.up (d_68_t17 hP hT ?_) (by decide)⟩)
  refine am_goX 1 (show am_rc h 17 0 ∧ 0 ≤ 8 ∧ h.2.2.2.2 + am_al 100 ≤ 175 ∧ am_call am_cod 6 100 [.ref 17, .ref 41, .int (d_68 C (s.1 + (Int32.ofInt 1)))] h (fun vv h' => pz_S 1 (some .int) am_r118 6 Q 27 [(0, .ref 0)] (vv.toList ++ []) h') from ⟨Or.inl ⟨by decide, ex_17 hP⟩, by decide, ex_lim hP rfl, am_call.up (d_100_t17_41 hP hI hT hD hR hN hS (fun h78 f79 f80 f81 f82 f83 f84 f85 => ?_)) (by decide)⟩)
  exact am_goX 1 (show (∃ ty, (some .int) = some ty ∧ narrow ty (.int (d_100 C s (d_68 C (s.1 + (Int32.ofInt 1))))) = .int (d_100 C s (d_68 C (s.1 + (Int32.ofInt 1))))) ∧ h78.2.2.2.2 = 175 ∧ _ from ⟨⟨.int, rfl, rfl⟩, ex_175 f79, hQ _ f79 f80 f81 f82 f83 f84 f85⟩)
theorem d_123_13_A17 (hl : l ≤ 60) : ∀ (m k : Nat) (s : dS) (h : am_H), k + m = l + 1 → (ex_P h) → (cI C) → (c_v 17 C h) → (c_d 17 C h) → (h.2.2.1 0 3 = some 17) → (sC 36 u h) → (sC 41 s h) → (∀ h1, (ex_P h1) → (cI C) → (c_v 17 C h1) → (c_d 17 C h1) → (h1.2.2.1 0 3 = some 17) → (sC 36 u h1) → (sC 41 (d_123_13 C m k s) h1) → pz_S 4 (some .int) am_r123 7 Q 29 [(0, .ref 0), (1, .int (nI e))] [] h1) → pz_S 4 (some .int) am_r123 7 Q 13 [(0, .ref 0), (1, .int (nI e)), (2, .int (nI l)), (3, .int (nI k))] [] h := by
  intro m
  induction m with
  | zero =>
    intro k s h hk hP hI hT hD hR hN hS hZ
    have h6 := hT.1.2.1
    have h5 := hT.2.1.2.1
    refine am_goX 3 (show ((nI l) < (nI k) → pz_S 4 (some .int) am_r123 7 Q 29 [(0, .ref 0), (1, .int (nI e)), (2, .int (nI l)), (3, .int (nI k))] [] h) ∧ (¬ ((nI l) < (nI k)) → pz_S 4 (some .int) am_r123 7 Q 18 [(0, .ref 0), (1, .int (nI e)), (2, .int (nI l)), (3, .int (nI k))] [] h) from ⟨fun _ => ?_, fun hz => absurd (show nI l < nI k from nI_lt (by omega) (by omega)) hz⟩)
    exact sv_S2 sv2_123 (by intro q hq; simp only [List.mem_cons, List.not_mem_nil, or_false] at hq; rcases hq with rfl | rfl <;> rfl) (hZ _ hP hI hT hD hR hN hS)
  | succ m ih =>
    intro k s h hk hP hI hT hD hR hN hS hZ
    have h6 := hT.1.2.1
    have h5 := hT.2.1.2.1
    refine am_goX 3 (show ((nI l) < (nI k) → pz_S 4 (some .int) am_r123 7 Q 29 [(0, .ref 0), (1, .int (nI e)), (2, .int (nI l)), (3, .int (nI k))] [] h) ∧ (¬ ((nI l) < (nI k)) → pz_S 4 (some .int) am_r123 7 Q 18 [(0, .ref 0), (1, .int (nI e)), (2, .int (nI l)), (3, .int (nI k))] [] h) from ⟨fun hz => absurd hz (show ¬ (nI l < nI k) by rw [nI_ltI (by omega) (by omega)]; omega), fun _ => ?_⟩)
    refine am_goX 2 (show am_rc h 0 10 ∧ 0 ≤ 8 ∧ h.2.2.2.2 + am_al 118 ≤ 175 ∧ am_call am_cod 7 118 [.ref 0] h (fun vv h' => pz_S 4 (some .int) am_r123 7 Q 22 [(0, .ref 0), (1, .int (nI e)), (2, .int (nI l)), (3, .int (nI k))] (vv.toList ++ []) h') from ⟨Or.inl ⟨by decide, ex_0 hP⟩, by decide, ex_lim hP rfl, am_call.up (d_118_A17 hP hI hT hD hR hN hS (fun h96 f97 f98 f99 f100 f101 f102 f103 => ?_)) (by decide)⟩)
    refine am_goX 3 (show (Value.int (d_118 C s)).category = 1 ∧ 3 < 4 ∧ pz_S 4 (some .int) am_r123 7 Q 13 [(3, .int ((nI k) + (Int32.ofInt 1))), (0, .ref 0), (1, .int (nI e)), (2, .int (nI l))] [] h96 from ⟨rfl, by decide, ?_⟩)
    rw [show (nI k) + (Int32.ofInt 1) = nI (k + 1) from (dn_a rfl rfl)]
    exact sv_S2 sv2_123 (by intro q hq; simp only [List.mem_cons, List.not_mem_nil, or_false] at hq; rcases hq with rfl | rfl | rfl | rfl <;> rfl) (ih (k + 1) (d_118_s C s) _ (by omega) f97 f98 f99 f100 f101 f102 f103 hZ)
theorem d_123_A17 (hP : ex_P h) (hI : cI C) (hT : c_v 17 C h) (hD : c_d 17 C h) (hR : h.2.2.1 0 3 = some 17) (hN : sC 36 u h) (hS : sC 41 s h) (he : e < dE C) (hl : l ≤ 60) (hQ : ∀ h1, (ex_P h1) → (cI C) → (c_v 17 C h1) → (c_d 17 C h1) → (h1.2.2.1 0 3 = some 17) → (sC 36 u h1) → (sC 41 (d_123_s C u e l) h1) → Q (some (.int (d_123 C u e l))) h1) : am_call am_cod 8 123 [.ref 0, .int (nI e), .int (nI l)] h Q := by
  have h6 := hT.1.2.1
  have h5 := hT.2.1.2.1
  refine pz_call (n := 123) (nL := 4) (rt := (some .int)) (rows := am_r123) (d := 7) (by decide +kernel) (by decide +kernel) rfl (by funext pc; rfl) (ex_175 hP) (by exact Nat.le_of_ble_eq_true rfl) ?_
  refine am_goX 2 (show am_sh h 0 = some (10, 0) ∧ pz_S 4 (some .int) am_r123 7 Q 4 [(0, .ref 0), (1, .int (nI e)), (2, .int (nI l))] [am_rf (h.2.2.1 0 8)] h from ⟨ex_0 hP, ?_⟩)
  rw [show am_rf (h.2.2.1 0 8) = .ref 41 from congrArg am_rf (ex_r0_8 hP)]
  refine am_goX 2 (show am_sh h 0 = some (10, 0) ∧ pz_S 4 (some .int) am_r123 7 Q 8 [(0, .ref 0), (1, .int (nI e)), (2, .int (nI l))] [am_rf (h.2.2.1 0 7), .ref 41] h from ⟨ex_0 hP, ?_⟩)
  rw [show am_rf (h.2.2.1 0 7) = .ref 36 from congrArg am_rf (ex_r0_7 hP)]
  refine am_goX 1 (show am_rc h 41 6 ∧ 0 ≤ 8 ∧ h.2.2.2.2 + am_al 99 ≤ 175 ∧ am_call am_cod 7 99 [.ref 41, .ref 36] h (fun vv h' => pz_S 4 (some .int) am_r123 7 Q 11 [(0, .ref 0), (1, .int (nI e)), (2, .int (nI l))] (vv.toList ++ []) h') from ⟨Or.inl ⟨by decide, ex_41 hP⟩, by decide, ex_lim hP rfl, am_call.up (q_99 stO_41 stO_36 (by decide) hP (fun h86 f87 f88 f89 f90 => ?_)) (by decide)⟩)
  have f91 : sC 41 u h86 := sC_cp f90 hN
  have f92 : c_v 17 C h86 := c_v_fr (fun a k u1 u2 => f89 a k (by omega)) hT
  have f93 : c_d 17 C h86 := c_d_fr (fun k => f89 _ k (by omega)) hD
  have f94 : h86.2.2.1 0 3 = some 17 := (congrArg (fun q => q.2.1 0 3) f88).trans hR
  have f95 : sC 36 u h86 := sC_fr (fun a k u1 u2 => f89 a k (by omega)) hN
  refine am_goX 2 (show 3 < 4 ∧ pz_S 4 (some .int) am_r123 7 Q 13 [(3, .int (Int32.ofInt 1)), (0, .ref 0), (1, .int (nI e)), (2, .int (nI l))] [] h86 from ⟨by decide, ?_⟩)
  refine sv_S2 sv2_123 (by intro q hq; simp only [List.mem_cons, List.not_mem_nil, or_false] at hq; rcases hq with rfl | rfl | rfl | rfl <;> rfl) (d_123_13_A17 hl l 1 u _ (by omega) f87 hI f92 f93 f94 f95 f91 (fun h104 f105 f106 f107 f108 f109 f110 f111 => ?_))
  refine am_goX 2 (show am_sh h104 0 = some (10, 0) ∧ pz_S 4 (some .int) am_r123 7 Q 33 [(0, .ref 0), (1, .int (nI e))] [am_rf (h104.2.2.1 0 8)] h104 from ⟨ex_0 f105, ?_⟩)
  rw [show am_rf (h104.2.2.1 0 8) = .ref 41 from congrArg am_rf (ex_r0_8 f105)]
  refine am_goX 1 (show am_sh h104 41 = some (6, 0) ∧ pz_S 4 (some .int) am_r123 7 Q 36 [(0, .ref 0), (1, .int (nI e))] [am_rf (h104.2.2.1 41 4)] h104 from ⟨ex_41 f105, ?_⟩)
  rw [show am_rf (h104.2.2.1 41 4) = .ref 44 from congrArg am_rf (ex_r41_4 f105)]
  refine am_goX 2 (show ∃ jj nn : Nat, am_sh h104 44 = some (13, nn) ∧ jj < nn ∧ nI e = nI jj ∧ pz_S 4 (some .int) am_r123 7 Q 38 [(0, .ref 0), (1, .int (nI e))] [.int (h104.1 44 jj)] h104 from ⟨e, 5, ex_44 f105, (by omega), rfl, ?_⟩)
  rw [show h104.1 44 e = (d_123_13 C l 1 u).2.2.2.2.1 e from (f111.2.2 e (by omega)).1]
  refine am_goX 2 (show am_sh h104 0 = some (10, 0) ∧ pz_S 4 (some .int) am_r123 7 Q 42 [(0, .ref 0), (1, .int (nI e))] [am_rf (h104.2.2.1 0 7), .int ((d_123_13 C l 1 u).2.2.2.2.1 e)] h104 from ⟨ex_0 f105, ?_⟩)
  rw [show am_rf (h104.2.2.1 0 7) = .ref 36 from congrArg am_rf (ex_r0_7 f105)]
  refine am_goX 1 (show am_sh h104 36 = some (6, 0) ∧ pz_S 4 (some .int) am_r123 7 Q 45 [(0, .ref 0), (1, .int (nI e))] [am_rf (h104.2.2.1 36 4), .int ((d_123_13 C l 1 u).2.2.2.2.1 e)] h104 from ⟨ex_36 f105, ?_⟩)
  rw [show am_rf (h104.2.2.1 36 4) = .ref 39 from congrArg am_rf (ex_r36_4 f105)]
  refine am_goX 2 (show ∃ jj nn : Nat, am_sh h104 39 = some (13, nn) ∧ jj < nn ∧ nI e = nI jj ∧ pz_S 4 (some .int) am_r123 7 Q 47 [(0, .ref 0), (1, .int (nI e))] [.int (h104.1 39 jj), .int ((d_123_13 C l 1 u).2.2.2.2.1 e)] h104 from ⟨e, 5, ex_39 f105, (by omega), rfl, ?_⟩)
  rw [show h104.1 39 e = u.2.2.2.2.1 e from (f110.2.2 e (by omega)).1]
  exact am_goX 2 (show (∃ ty, (some .int) = some ty ∧ narrow ty (.int (((d_123_13 C l 1 u).2.2.2.2.1 e) - (u.2.2.2.2.1 e))) = .int (((d_123_13 C l 1 u).2.2.2.2.1 e) - (u.2.2.2.2.1 e))) ∧ h104.2.2.2.2 = 175 ∧ _ from ⟨⟨.int, rfl, rfl⟩, ex_175 f105, hQ _ f105 f106 f107 f108 f109 f110 f111⟩)
theorem d_131_28_A17 (he : e < dE C) : ∀ (m k : Nat) (a3 : Int32) (a4 : Int32) (s : dS) (kv : Int32) (h : am_H), k + m = 7 → (ex_P h) → (cI C) → (c_v 17 C h) → (h.2.2.1 0 3 = some 17) → (sC 36 u h) → (sC 41 s h) → (∀ i, i < dE C → ¬ i = e → h.1 22 i = dW C i) → (h.1 22 e = kv) → (∀ h1, (ex_P h1) → (cI C) → (c_v 17 C h1) → (h1.2.2.1 0 3 = some 17) → (sC 36 u h1) → (sC 41 ((d_131_28 C u e m k a3 a4 s kv).2.2.1) h1) → (∀ i, i < dE C → ¬ i = e → h1.1 22 i = dW C i) → (h1.1 22 e = ((d_131_28 C u e m k a3 a4 s kv).2.2.2)) → pz_S 7 (some .int) am_r131 8 Q 74 [(0, .ref 0), (1, .int (nI e)), (2, .int kw), (4, .int ((d_131_28 C u e m k a3 a4 s kv).2.1))] [] h1) → pz_S 7 (some .int) am_r131 8 Q 28 [(0, .ref 0), (1, .int (nI e)), (2, .int kw), (3, .int a3), (4, .int a4), (5, .int (nI k))] [] h := by
  intro m
  induction m with
  | zero =>
    intro k a3 a4 s kv h hk hP hI hT hR hN hS hE hk hZ
    have h6 := hT.1.2.1
    have h5 := hT.2.1.2.1
    refine am_goX 3 (show (((Int8.ofInt 7).toInt32) ≤ (nI k) → pz_S 7 (some .int) am_r131 8 Q 74 [(0, .ref 0), (1, .int (nI e)), (2, .int kw), (3, .int a3), (4, .int a4), (5, .int (nI k))] [] h) ∧ (¬ (((Int8.ofInt 7).toInt32) ≤ (nI k)) → pz_S 7 (some .int) am_r131 8 Q 35 [(0, .ref 0), (1, .int (nI e)), (2, .int kw), (3, .int a3), (4, .int a4), (5, .int (nI k))] [] h) from ⟨fun _ => ?_, fun hz => absurd (show nI 7 ≤ nI k from nI_le (by omega) (by omega)) hz⟩)
    exact sv_S2 sv2_131 (by intro q hq; simp only [List.mem_cons, List.not_mem_nil, or_false] at hq; rcases hq with rfl | rfl | rfl | rfl <;> rfl) (hZ _ hP hI hT hR hN hS hE hk)
  | succ m ih =>
    intro k a3 a4 s kv h hk hP hI hT hR hN hS hE hk hZ
    have h6 := hT.1.2.1
    have h5 := hT.2.1.2.1
    refine am_goX 3 (show (((Int8.ofInt 7).toInt32) ≤ (nI k) → pz_S 7 (some .int) am_r131 8 Q 74 [(0, .ref 0), (1, .int (nI e)), (2, .int kw), (3, .int a3), (4, .int a4), (5, .int (nI k))] [] h) ∧ (¬ (((Int8.ofInt 7).toInt32) ≤ (nI k)) → pz_S 7 (some .int) am_r131 8 Q 35 [(0, .ref 0), (1, .int (nI e)), (2, .int kw), (3, .int a3), (4, .int a4), (5, .int (nI k))] [] h) from ⟨fun hz => absurd hz (show ¬ (nI 7 ≤ nI k) by rw [nI_leI (by omega) (by omega)]; omega), fun _ => ?_⟩)
    refine am_goX 2 (show am_sh h 0 = some (10, 0) ∧ pz_S 7 (some .int) am_r131 8 Q 39 [(0, .ref 0), (1, .int (nI e)), (2, .int kw), (3, .int a3), (4, .int a4), (5, .int (nI k))] [am_rf (h.2.2.1 0 3)] h from ⟨ex_0 hP, ?_⟩)
    rw [show am_rf (h.2.2.1 0 3) = .ref 17 from congrArg am_rf (hR)]
    refine am_goX 1 (show am_sh h 17 = some (0, 0) ∧ pz_S 7 (some .int) am_r131 8 Q 42 [(0, .ref 0), (1, .int (nI e)), (2, .int kw), (3, .int a3), (4, .int a4), (5, .int (nI k))] [am_rf (h.2.2.1 17 6)] h from ⟨ex_17 hP, ?_⟩)
    rw [show am_rf (h.2.2.1 17 6) = .ref 22 from congrArg am_rf (ex_r17_6 hP)]
    refine am_goX 3 (show ∃ jj nn : Nat, am_so h 22 = some (13, nn) ∧ jj < nn ∧ nI e = nI jj ∧ pz_S 7 (some .int) am_r131 8 Q 46 [(0, .ref 0), (1, .int (nI e)), (2, .int kw), (3, .int a3), (4, .int a4), (5, .int (nI k))] [] (am_wI h 22 jj (nI k)) from ⟨e, 5, ex_w22 hP, (by omega), rfl, ?_⟩)
    have f113 : ex_P (am_wI h 22 e (nI k)) := hP
    have f114 : cI C := hI
    have f115 : c_v 17 C (am_wI h 22 e (nI k)) := c_v_w5 (c := 17) hT
    have f116 : (am_wI h 22 e (nI k)).2.2.1 0 3 = some 17 := hR
    have f117 : sC 36 u (am_wI h 22 e (nI k)) := sC_w (by omega) hN
    have f118 : sC 41 s (am_wI h 22 e (nI k)) := sC_w (by omega) hS
    have f119 : ∀ i, i < dE C → ¬ i = e → (am_wI h 22 e (nI k)).1 22 i = dW C i := fun i hi hn => (em_wn _ _ (by omega)).trans (hE i hi hn)
    have f120 : (am_wI h 22 e (nI k)).1 22 e = (nI k) := em_we _ _ _ _
    generalize am_wI h 22 e (nI k) = h112 at f113 f114 f115 f116 f117 f118 f119 f120 ⊢
    refine am_goX 3 (show pz_S 7 (some .int) am_r131 8 Q 50 [(0, .ref 0), (1, .int (nI e)), (2, .int kw), (3, .int a3), (4, .int a4), (5, .int (nI k))] [.int ((Int8.ofInt 28).toInt32), .int (nI e), .ref 0] h112 from ?_)
    rw [show (Int8.ofInt 28).toInt32 = nI 28 from (show (Int8.ofInt 28).toInt32 = nI 28 by decide)]
    refine am_goX 1 (show am_rc h112 0 10 ∧ 0 ≤ 8 ∧ h112.2.2.2.2 + am_al 123 ≤ 175 ∧ am_call am_cod 8 123 [.ref 0, .int (nI e), .int (nI 28)] h112 (fun vv h' => pz_S 7 (some .int) am_r131 8 Q 53 [(0, .ref 0), (1, .int (nI e)), (2, .int kw), (3, .int a3), (4, .int a4), (5, .int (nI k))] (vv.toList ++ []) h') from ⟨Or.inl ⟨by decide, ex_0 f113⟩, by decide, ex_lim f113 rfl, am_call.up (d_123_A17 (C := (setW C e (nI k))) f113 (cI_W (by omega) f114) f115 (W_d (c := 17) f119 f120) f116 f117 f118 he (by decide) (fun h121 f122 f123 f124 f125 f126 f127 f128 => ?_)) (by decide)⟩)
    have f129 : c_v 17 C h121 := f124
    have f130 : ∀ i, i < dE C → ¬ i = e → h121.1 22 i = dW C i := W_e (c := 17) f125
    have f131 : h121.1 22 e = nI k := W_k (c := 17) he f125
    suffices key : ∀ (v133 : Int32) (v134 : Int32), v133 = (if (d_123 (setW C e (nI k)) u e 28) ≤ a3 then a3 else d_123 (setW C e (nI k)) u e 28) → v134 = (if (d_123 (setW C e (nI k)) u e 28) ≤ a3 then a4 else nI k) → pz_S 7 (some .int) am_r131 8 Q 68 [(0, .ref 0), (1, .int (nI e)), (2, .int kw), (3, .int v133), (4, .int v134), (5, .int (nI k))] [] h121 by
      refine am_goX 4 (show 6 < 7 ∧ ((d_123 (setW C e (nI k)) u e 28) ≤ a3 → pz_S 7 (some .int) am_r131 8 Q 68 [(6, .int (d_123 (setW C e (nI k)) u e 28)), (0, .ref 0), (1, .int (nI e)), (2, .int kw), (3, .int a3), (4, .int a4), (5, .int (nI k))] [] h121) ∧ (¬ ((d_123 (setW C e (nI k)) u e 28) ≤ a3) → pz_S 7 (some .int) am_r131 8 Q 61 [(6, .int (d_123 (setW C e (nI k)) u e 28)), (0, .ref 0), (1, .int (nI e)), (2, .int kw), (3, .int a3), (4, .int a4), (5, .int (nI k))] [] h121) from ⟨by decide, fun c132 => ?_, fun c132 => ?_⟩)
      · exact sv_S2 sv2_131 (by intro q hq; simp only [List.mem_cons, List.not_mem_nil, or_false] at hq; rcases hq with rfl | rfl | rfl | rfl | rfl | rfl <;> rfl) (key _ _ (if_pos c132).symm (if_pos c132).symm)
      · refine am_goX 4 (show 3 < 7 ∧ 4 < 7 ∧ pz_S 7 (some .int) am_r131 8 Q 68 [(4, .int (nI k)), (3, .int (d_123 (setW C e (nI k)) u e 28)), (6, .int (d_123 (setW C e (nI k)) u e 28)), (0, .ref 0), (1, .int (nI e)), (2, .int kw), (5, .int (nI k))] [] h121 from ⟨by decide, by decide, ?_⟩)
        exact sv_S2 sv2_131 (by intro q hq; simp only [List.mem_cons, List.not_mem_nil, or_false] at hq; rcases hq with rfl | rfl | rfl | rfl | rfl | rfl <;> rfl) (key _ _ (if_neg c132).symm (if_neg c132).symm)
    intro v133 v134 e135 e136
    subst e135 e136
    refine am_goX 2 (show 5 < 7 ∧ pz_S 7 (some .int) am_r131 8 Q 28 [(5, .int ((nI k) + (Int32.ofInt 1))), (0, .ref 0), (1, .int (nI e)), (2, .int kw), (3, .int (if (d_123 (setW C e (nI k)) u e 28) ≤ a3 then a3 else d_123 (setW C e (nI k)) u e 28)), (4, .int (if (d_123 (setW C e (nI k)) u e 28) ≤ a3 then a4 else nI k))] [] h121 from ⟨by decide, ?_⟩)
    rw [show (nI k) + (Int32.ofInt 1) = nI (k + 1) from (dn_a rfl rfl)]
    exact sv_S2 sv2_131 (by intro q hq; simp only [List.mem_cons, List.not_mem_nil, or_false] at hq; rcases hq with rfl | rfl | rfl | rfl | rfl | rfl <;> rfl) (ih (k + 1) (if (d_123 (setW C e (nI k)) u e 28) ≤ a3 then a3 else d_123 (setW C e (nI k)) u e 28) (if (d_123 (setW C e (nI k)) u e 28) ≤ a3 then a4 else nI k) (d_123_s (setW C e (nI k)) u e 28) (nI k) _ (by omega) f122 f114 f129 f126 f127 f128 f130 f131 hZ)
theorem d_131_A17 (hP : ex_P h) (hI : cI C) (hT : c_v 17 C h) (hR : h.2.2.1 0 3 = some 17) (hN : sC 36 u h) (hS : sC 41 s h) (hE : ∀ i, i < dE C → ¬ i = e → h.1 22 i = dW C i) (hk : h.1 22 e = kv) (he : e < dE C) (hkw : kv = kw) (hQ : ∀ h1, (ex_P h1) → (cI C) → (c_v 17 C h1) → (h1.2.2.1 0 3 = some 17) → (sC 36 u h1) → (sC 41 (d_131_s C u s e kv kw) h1) → (∀ i, i < dE C → ¬ i = e → h1.1 22 i = dW C i) → (h1.1 22 e = (d_131_kv C u s e kv kw)) → Q (some (.int (d_131 C u s e kv kw))) h1) : am_call am_cod 9 131 [.ref 0, .int (nI e)] h Q := by
  have h6 := hT.1.2.1
  have h5 := hT.2.1.2.1
  refine pz_call (n := 131) (nL := 7) (rt := (some .int)) (rows := am_r131) (d := 8) (by decide +kernel) (by decide +kernel) rfl (by funext pc; rfl) (ex_175 hP) (by exact Nat.le_of_ble_eq_true rfl) ?_
  refine am_goX 3 (show am_rc h 0 10 ∧ 0 ≤ 8 ∧ h.2.2.2.2 + am_al 93 ≤ 175 ∧ am_call am_cod 8 93 [.ref 0, .int (nI e)] h (fun vv h' => pz_S 7 (some .int) am_r131 8 Q 5 [(0, .ref 0), (1, .int (nI e))] (vv.toList ++ []) h') from ⟨Or.inl ⟨by decide, ex_0 hP⟩, by decide, ex_lim hP rfl, am_call.up (d_93_t17 hP hT hR ?_) (by decide)⟩)
  rw [show d_93 C (nI e) = Int32.ofInt 1 from (v_93 he h5)]
  refine am_goX 1 (show (¬ (Int32.ofInt 1) = 0 → pz_S 7 (some .int) am_r131 8 Q 10 [(0, .ref 0), (1, .int (nI e))] [] h) ∧ (¬ ¬ (Int32.ofInt 1) = 0 → pz_S 7 (some .int) am_r131 8 Q 8 [(0, .ref 0), (1, .int (nI e))] [] h) from ⟨fun _ => ?_, fun hz => absurd (by decide) hz⟩)
  refine am_goX 2 (show am_sh h 0 = some (10, 0) ∧ pz_S 7 (some .int) am_r131 8 Q 14 [(0, .ref 0), (1, .int (nI e))] [am_rf (h.2.2.1 0 3)] h from ⟨ex_0 hP, ?_⟩)
  rw [show am_rf (h.2.2.1 0 3) = .ref 17 from congrArg am_rf (hR)]
  refine am_goX 1 (show am_sh h 17 = some (0, 0) ∧ pz_S 7 (some .int) am_r131 8 Q 17 [(0, .ref 0), (1, .int (nI e))] [am_rf (h.2.2.1 17 6)] h from ⟨ex_17 hP, ?_⟩)
  rw [show am_rf (h.2.2.1 17 6) = .ref 22 from congrArg am_rf (ex_r17_6 hP)]
  refine am_goX 2 (show ∃ jj nn : Nat, am_sh h 22 = some (13, nn) ∧ jj < nn ∧ nI e = nI jj ∧ pz_S 7 (some .int) am_r131 8 Q 19 [(0, .ref 0), (1, .int (nI e))] [.int (h.1 22 jj)] h from ⟨e, 5, ex_22 hP, (by omega), rfl, ?_⟩)
  rw [show h.1 22 e = kw from hk.trans hkw]
  refine am_goX 7 (show 2 < 7 ∧ 3 < 7 ∧ 4 < 7 ∧ 5 < 7 ∧ pz_S 7 (some .int) am_r131 8 Q 28 [(5, .int (Int32.ofInt 0)), (4, .int (Int32.ofInt 0)), (3, .int (Int32.ofInt (-1))), (2, .int kw), (0, .ref 0), (1, .int (nI e))] [] h from ⟨by decide, by decide, by decide, by decide, ?_⟩)
  refine sv_S2 sv2_131 (by intro q hq; simp only [List.mem_cons, List.not_mem_nil, or_false] at hq; rcases hq with rfl | rfl | rfl | rfl | rfl | rfl <;> rfl) (d_131_28_A17 he 7 0 (Int32.ofInt (-1)) (Int32.ofInt 0) s kv _ (by omega) hP hI hT hR hN hS hE hk (fun h137 f138 f139 f140 f141 f142 f143 f144 f145 => ?_))
  refine am_goX 2 (show am_sh h137 0 = some (10, 0) ∧ pz_S 7 (some .int) am_r131 8 Q 78 [(0, .ref 0), (1, .int (nI e)), (2, .int kw), (4, .int ((d_131_28 C u e 7 0 (Int32.ofInt (-1)) (Int32.ofInt 0) s kv).2.1))] [am_rf (h137.2.2.1 0 3)] h137 from ⟨ex_0 f138, ?_⟩)
  rw [show am_rf (h137.2.2.1 0 3) = .ref 17 from congrArg am_rf (f141)]
  refine am_goX 1 (show am_sh h137 17 = some (0, 0) ∧ pz_S 7 (some .int) am_r131 8 Q 81 [(0, .ref 0), (1, .int (nI e)), (2, .int kw), (4, .int ((d_131_28 C u e 7 0 (Int32.ofInt (-1)) (Int32.ofInt 0) s kv).2.1))] [am_rf (h137.2.2.1 17 6)] h137 from ⟨ex_17 f138, ?_⟩)
  rw [show am_rf (h137.2.2.1 17 6) = .ref 22 from congrArg am_rf (ex_r17_6 f138)]
  refine am_goX 3 (show ∃ jj nn : Nat, am_so h137 22 = some (13, nn) ∧ jj < nn ∧ nI e = nI jj ∧ pz_S 7 (some .int) am_r131 8 Q 84 [(0, .ref 0), (1, .int (nI e)), (2, .int kw), (4, .int ((d_131_28 C u e 7 0 (Int32.ofInt (-1)) (Int32.ofInt 0) s kv).2.1))] [] (am_wI h137 22 jj kw) from ⟨e, 5, ex_w22 f138, (by omega), rfl, ?_⟩)
  have f147 : ex_P (am_wI h137 22 e kw) := f138
  have f148 : cI C := f139
  have f149 : c_v 17 C (am_wI h137 22 e kw) := c_v_w5 (c := 17) f140
  have f150 : (am_wI h137 22 e kw).2.2.1 0 3 = some 17 := f141
  have f151 : sC 36 u (am_wI h137 22 e kw) := sC_w (by omega) f142
  have f152 : sC 41 ((d_131_28 C u e 7 0 (Int32.ofInt (-1)) (Int32.ofInt 0) s kv).2.2.1) (am_wI h137 22 e kw) := sC_w (by omega) f143
  have f153 : ∀ i, i < dE C → ¬ i = e → (am_wI h137 22 e kw).1 22 i = dW C i := fun i hi hn => (em_wn _ _ (by omega)).trans (f144 i hi hn)
  have f154 : (am_wI h137 22 e kw).1 22 e = kw := em_we _ _ _ _
  generalize am_wI h137 22 e kw = h146 at f147 f148 f149 f150 f151 f152 f153 f154 ⊢
  exact am_goX 2 (show (∃ ty, (some .int) = some ty ∧ narrow ty (.int ((d_131_28 C u e 7 0 (Int32.ofInt (-1)) (Int32.ofInt 0) s kv).2.1)) = .int ((d_131_28 C u e 7 0 (Int32.ofInt (-1)) (Int32.ofInt 0) s kv).2.1)) ∧ h146.2.2.2.2 = 175 ∧ _ from ⟨⟨.int, rfl, rfl⟩, ex_175 f147, hQ _ f147 f148 f149 f150 f151 f152 f153 f154⟩)
theorem d_131_xA17 (hP : ex_P h) (hI : cI C) (hT : c_v 17 C h) (hD : c_d 17 C h) (hR : h.2.2.1 0 3 = some 17) (hN : sC 36 u h) (hS : sC 41 s h) (ey : d_93 C y = Int32.ofInt 0) (hQ : ∀ h1, (ex_P h1) → (cI C) → (c_v 17 C h1) → (c_d 17 C h1) → (h1.2.2.1 0 3 = some 17) → (sC 36 u h1) → (sC 41 s h1) → Q (some (.int d_131x)) h1) : am_call am_cod 9 131 [.ref 0, .int y] h Q := by
  have h6 := hT.1.2.1
  have h5 := hT.2.1.2.1
  refine pz_call (n := 131) (nL := 7) (rt := (some .int)) (rows := am_r131) (d := 8) (by decide +kernel) (by decide +kernel) rfl (by funext pc; rfl) (ex_175 hP) (by exact Nat.le_of_ble_eq_true rfl) ?_
  refine am_goX 3 (show am_rc h 0 10 ∧ 0 ≤ 8 ∧ h.2.2.2.2 + am_al 93 ≤ 175 ∧ am_call am_cod 8 93 [.ref 0, .int y] h (fun vv h' => pz_S 7 (some .int) am_r131 8 Q 5 [(0, .ref 0), (1, .int y)] (vv.toList ++ []) h') from ⟨Or.inl ⟨by decide, ex_0 hP⟩, by decide, ex_lim hP rfl, am_call.up (d_93_t17 hP hT hR ?_) (by decide)⟩)
  rw [show d_93 C y = Int32.ofInt 0 from ey]
  refine am_goX 1 (show (¬ (Int32.ofInt 0) = 0 → pz_S 7 (some .int) am_r131 8 Q 10 [(0, .ref 0), (1, .int y)] [] h) ∧ (¬ ¬ (Int32.ofInt 0) = 0 → pz_S 7 (some .int) am_r131 8 Q 8 [(0, .ref 0), (1, .int y)] [] h) from ⟨fun hz => absurd hz (by decide), fun _ => ?_⟩)
  exact am_goX 2 (show (∃ ty, (some .int) = some ty ∧ narrow ty (.int (Int32.ofInt (-1))) = .int (Int32.ofInt (-1))) ∧ h.2.2.2.2 = 175 ∧ _ from ⟨⟨.int, rfl, rfl⟩, ex_175 hP, hQ _ hP hI hT hD hR hN hS⟩)
def d_247_s (u : dS) : dS := u
theorem d_247_r1029 (hP : ex_P h) (hI : cI C) (hT : tR C h) (hO : ∀ e, e < dE C → h.1 172 e = dW V e) (hN : sR 0 (dP C) u h) (hS : sR 1029 (dP C) s h)  (hQ : ∀ h1, (ex_P h1) → (cI C) → (tR C h1) → (∀ e, e < dE C → h1.1 172 e = dW V e) → (sR 0 (dP C) u h1) → (sR 1029 (dP C) (d_247_s u) h1) → Q none h1) : am_call am_cod 2 247 [.ref 154] h Q := by
  have h6 := hT.1.2.1
  have h5 := hT.2.1.2.1
  refine pz_call (n := 247) (nL := 1) (rt := none) (rows := am_r247) (d := 1) (by decide +kernel) (by decide +kernel) rfl (by funext pc; rfl) (ex_175 hP) (by exact Nat.le_of_ble_eq_true rfl) ?_
  refine am_goX 4 (show pz_S 1 none am_r247 1 Q 7 [(0, .ref 154)] [.int ((Int8.ofInt 24).toInt32), .int ((Int16.ofInt 1029).toInt32), .int (Int32.ofInt 0), .ref 154] h from ?_)
  rw [show Int32.ofInt 0 = nI 0 from rfl]
  rw [show (Int16.ofInt 1029).toInt32 = nI 1029 from (show (Int16.ofInt 1029).toInt32 = nI 1029 by decide)]
  rw [show (Int8.ofInt 24).toInt32 = nI 24 from (show (Int8.ofInt 24).toInt32 = nI 24 by decide)]
  refine am_goX 1 (show am_rc h 154 11 ∧ 0 ≤ 8 ∧ h.2.2.2.2 + am_al 232 ≤ 175 ∧ am_call am_cod 1 232 [.ref 154, .int (nI 0), .int (nI 1029), .int (nI 24)] h (fun vv h' => pz_S 1 none am_r247 1 Q 10 [(0, .ref 154)] (vv.toList ++ []) h') from ⟨Or.inl ⟨by decide, ex_154 hP⟩, by decide, ex_lim hP rfl, am_call.up (q_232 (A := 0) (B := 1029) (K := 24) rfl rfl rfl (by omega) (by omega) (by omega) hP (fun h155 f156 f157 f158 f159 => ?_)) (by decide)⟩)
  have f160 : sR 1029 (dP C) u h155 := sR_cp (A := 0) (B := 1029) (fun j hj => f159 j (by omega)) hT.1.2.1 hN
  have f161 : tR C h155 := tR_fr (fun a k u1 u2 => f158 a k (by omega)) hT
  have f162 : ∀ e, e < dE C → h155.1 172 e = dW V e := fun e he => (f158 172 e (by omega)).trans (hO e he)
  have f163 : sR 0 (dP C) u h155 := sR_fr (fun k u1 u2 => f158 170 k (by omega)) hT.1.2.1 hN
  exact am_goX 1 (show (none : Option FieldType) = none ∧ h155.2.2.2.2 = 175 ∧ _ from ⟨rfl, ex_175 f156, hQ _ f156 hI f161 f162 f163 f160⟩)
theorem q_182l : ∀ (m k : Nat) (h : am_H), k + m = dE C → (ex_P h) → (cI C) → (tR C h) → (sR 0 (dP C) u h) → (sR 1029 (dP C) s h) → (∀ i, i < k → h.1 172 i = dW C i) → (∀ h1, (ex_P h1) → (cI C) → (tR C h1) → (sR 0 (dP C) u h1) → (sR 1029 (dP C) s h1) → (∀ i, i < dE C → h1.1 172 i = dW C i) → pz_S 2 none am_r182 1 Q 28 [] [] h1) → pz_S 2 none am_r182 1 Q 2 [(0, .ref 154), (1, .int (nI k))] [] h := by
  intro m
  induction m with
  | zero =>
    intro k h hk hP hI hT hN hS hJ hZ
    have h6 := hT.1.2.1
    have h5 := hT.2.1.2.1
    refine am_goX 3 (show am_rc h 154 11 ∧ 1 ≤ 8 ∧ h.2.2.2.2 + am_al 183 ≤ 175 ∧ am_call am_cod 1 183 [.ref 154] h (fun vv h' => pz_S 2 none am_r182 1 Q 7 [(0, .ref 154), (1, .int (nI k))] (vv.toList ++ [.int (nI k)]) h') from ⟨Or.inl ⟨by decide, ex_154 hP⟩, by decide, ex_lim hP rfl, am_call.up (d_183_r hP hT ?_) (by decide)⟩)
    refine am_goX 1 (show ((nI (dE C)) ≤ (nI k) → pz_S 2 none am_r182 1 Q 28 [(0, .ref 154), (1, .int (nI k))] [] h) ∧ (¬ ((nI (dE C)) ≤ (nI k)) → pz_S 2 none am_r182 1 Q 10 [(0, .ref 154), (1, .int (nI k))] [] h) from ⟨fun _ => ?_, fun hz => absurd (show nI (dE C) ≤ nI k from nI_le (by omega) (by omega)) hz⟩)
    exact sv_S2 sv2_182 (fun q hq => absurd hq List.not_mem_nil) (hZ _ hP hI hT hN hS (fun i hi => hJ i (by omega)))
  | succ m ih =>
    intro k h hk hP hI hT hN hS hJ hZ
    have h6 := hT.1.2.1
    have h5 := hT.2.1.2.1
    refine am_goX 3 (show am_rc h 154 11 ∧ 1 ≤ 8 ∧ h.2.2.2.2 + am_al 183 ≤ 175 ∧ am_call am_cod 1 183 [.ref 154] h (fun vv h' => pz_S 2 none am_r182 1 Q 7 [(0, .ref 154), (1, .int (nI k))] (vv.toList ++ [.int (nI k)]) h') from ⟨Or.inl ⟨by decide, ex_154 hP⟩, by decide, ex_lim hP rfl, am_call.up (d_183_r hP hT ?_) (by decide)⟩)
    refine am_goX 1 (show ((nI (dE C)) ≤ (nI k) → pz_S 2 none am_r182 1 Q 28 [(0, .ref 154), (1, .int (nI k))] [] h) ∧ (¬ ((nI (dE C)) ≤ (nI k)) → pz_S 2 none am_r182 1 Q 10 [(0, .ref 154), (1, .int (nI k))] [] h) from ⟨fun hz => absurd hz (show ¬ (nI (dE C) ≤ nI k) by rw [nI_leI (by omega) (by omega)]; omega), fun _ => ?_⟩)
    refine am_goX 2 (show am_sh h 154 = some (11, 0) ∧ pz_S 2 none am_r182 1 Q 14 [(0, .ref 154), (1, .int (nI k))] [am_rf (h.2.2.1 154 27)] h from ⟨ex_154 hP, ?_⟩)
    rw [show am_rf (h.2.2.1 154 27) = .ref 172 from congrArg am_rf (ex_r154_27 hP)]
    refine am_goX 5 (show am_rc h 154 11 ∧ 2 ≤ 8 ∧ h.2.2.2.2 + am_al 184 ≤ 175 ∧ am_call am_cod 1 184 [.ref 154, .int (nI k), .int (Int32.ofInt 0)] h (fun vv h' => pz_S 2 none am_r182 1 Q 21 [(0, .ref 154), (1, .int (nI k))] (vv.toList ++ [.int (nI k), .ref 172]) h') from ⟨Or.inl ⟨by decide, ex_154 hP⟩, by decide, ex_lim hP rfl, am_call.up (d_184_r0 hP hT (by omega) ?_) (by decide)⟩)
    refine am_goX 1 (show ∃ jj nn : Nat, am_so h 172 = some (13, nn) ∧ jj < nn ∧ nI k = nI jj ∧ pz_S 2 none am_r182 1 Q 22 [(0, .ref 154), (1, .int (nI k))] [] (am_wI h 172 jj (dW C k)) from ⟨k, 5, ex_w172 hP, (by omega), rfl, ?_⟩)
    have f165 : ex_P (am_wI h 172 k (dW C k)) := hP
    have f166 : cI C := hI
    have f167 : tR C (am_wI h 172 k (dW C k)) := tR_w (by omega) hT
    have f168 : sR 0 (dP C) u (am_wI h 172 k (dW C k)) := sR_o (by omega) hN
    have f169 : sR 1029 (dP C) s (am_wI h 172 k (dW C k)) := sR_o (by omega) hS
    have f170 : ∀ i, i < k + 1 → (am_wI h 172 k (dW C k)).1 172 i = dW C i := fun i hi => by
      by_cases ei : i = k
      · rw [ei]; exact em_we _ _ _ _
      · exact (em_wn _ _ (by omega)).trans (hJ i (by omega))
    generalize am_wI h 172 k (dW C k) = h164 at f165 f166 f167 f168 f169 f170 ⊢
    refine am_goX 2 (show 1 < 2 ∧ pz_S 2 none am_r182 1 Q 2 [(1, .int ((nI k) + (Int32.ofInt 1))), (0, .ref 154)] [] h164 from ⟨by decide, ?_⟩)
    rw [show (nI k) + (Int32.ofInt 1) = nI (k + 1) from (dn_a rfl rfl)]
    exact sv_S2 sv2_182 (by intro q hq; simp only [List.mem_cons, List.not_mem_nil, or_false] at hq; rcases hq with rfl | rfl <;> rfl) (ih (k + 1) _ (by omega) f165 f166 f167 f168 f169 f170 hZ)
theorem q_182 (hP : ex_P h) (hI : cI C) (hT : tR C h) (hN : sR 0 (dP C) u h) (hS : sR 1029 (dP C) s h) (hQ : ∀ h1, (ex_P h1) → (cI C) → (tR C h1) → (sR 0 (dP C) u h1) → (sR 1029 (dP C) s h1) → (∀ i, i < dE C → h1.1 172 i = dW C i) → Q none h1) : am_call am_cod 2 182 [.ref 154] h Q := by
  have h6 := hT.1.2.1
  have h5 := hT.2.1.2.1
  refine pz_call (n := 182) (nL := 2) (rt := none) (rows := am_r182) (d := 1) (by decide +kernel) (by decide +kernel) rfl (by funext pc; rfl) (ex_175 hP) (by exact Nat.le_of_ble_eq_true rfl) ?_
  refine am_goX 2 (show 1 < 2 ∧ pz_S 2 none am_r182 1 Q 2 [(1, .int (Int32.ofInt 0)), (0, .ref 154)] [] h from ⟨by decide, ?_⟩)
  refine sv_S2 sv2_182 (by intro q hq; simp only [List.mem_cons, List.not_mem_nil, or_false] at hq; rcases hq with rfl | rfl <;> rfl) (q_182l (dE C) 0 _ (by omega) hP hI hT hN hS (fun i hi => absurd hi (Nat.not_lt_zero i)) (fun h171 f172 f173 f174 f175 f176 f177 => ?_))
  exact am_goX 1 (show (none : Option FieldType) = none ∧ h171.2.2.2.2 = 175 ∧ _ from ⟨rfl, ex_175 f172, hQ _ f172 f173 f174 f175 f176 f177⟩)
def d_257_42 (C : sp_C) (e : Nat) (kv : Int32) : Nat → Nat → dS → dS
  | 0, _, s => s
  | m + 1, k, s => d_257_42 C e kv m (k + 1) (d_233_s C (setW C e kv) s)
theorem d_257_42_r (x2 : Int32) (x3 : Int32) (n4 : Nat) (he : e < dE C) : ∀ (m k : Nat) (s : dS) (h : am_H), k + m = 28 → (ex_P h) → (cI C) → (tR C h) → (sR 0 (dP C) u h) → (sR 1029 (dP C) s h) → (∀ i, i < dE C → ¬ i = e → h.1 172 i = dW C i) → (h.1 172 e = kv) → (∀ h1, (ex_P h1) → (cI C) → (tR C h1) → (sR 0 (dP C) u h1) → (sR 1029 (dP C) (d_257_42 C e kv m k s) h1) → (∀ i, i < dE C → ¬ i = e → h1.1 172 i = dW C i) → (h1.1 172 e = kv) → pz_S 6 (some .int) am_r257 8 Q 63 [(0, .ref 154), (1, .int (nI e)), (2, .int x2), (3, .int x3), (4, .int (nI n4))] [] h1) → pz_S 6 (some .int) am_r257 8 Q 42 [(0, .ref 154), (1, .int (nI e)), (2, .int x2), (3, .int x3), (4, .int (nI n4)), (5, .int (nI k))] [] h := by
  intro m
  induction m with
  | zero =>
    intro k s h hk hP hI hT hN hS hE hk hZ
    have h6 := hT.1.2.1
    have h5 := hT.2.1.2.1
    refine am_goX 3 (show (((Int8.ofInt 28).toInt32) ≤ (nI k) → pz_S 6 (some .int) am_r257 8 Q 63 [(0, .ref 154), (1, .int (nI e)), (2, .int x2), (3, .int x3), (4, .int (nI n4)), (5, .int (nI k))] [] h) ∧ (¬ (((Int8.ofInt 28).toInt32) ≤ (nI k)) → pz_S 6 (some .int) am_r257 8 Q 49 [(0, .ref 154), (1, .int (nI e)), (2, .int x2), (3, .int x3), (4, .int (nI n4)), (5, .int (nI k))] [] h) from ⟨fun _ => ?_, fun hz => absurd (show nI 28 ≤ nI k from nI_le (by omega) (by omega)) hz⟩)
    exact sv_S2 sv2_257 (by intro q hq; simp only [List.mem_cons, List.not_mem_nil, or_false] at hq; rcases hq with rfl | rfl | rfl | rfl | rfl <;> rfl) (hZ _ hP hI hT hN hS hE hk)
  | succ m ih =>
    intro k s h hk hP hI hT hN hS hE hk hZ
    have h6 := hT.1.2.1
    have h5 := hT.2.1.2.1
    refine am_goX 3 (show (((Int8.ofInt 28).toInt32) ≤ (nI k) → pz_S 6 (some .int) am_r257 8 Q 63 [(0, .ref 154), (1, .int (nI e)), (2, .int x2), (3, .int x3), (4, .int (nI n4)), (5, .int (nI k))] [] h) ∧ (¬ (((Int8.ofInt 28).toInt32) ≤ (nI k)) → pz_S 6 (some .int) am_r257 8 Q 49 [(0, .ref 154), (1, .int (nI e)), (2, .int x2), (3, .int x3), (4, .int (nI n4)), (5, .int (nI k))] [] h) from ⟨fun hz => absurd hz (show ¬ (nI 28 ≤ nI k) by rw [nI_leI (by omega) (by omega)]; omega), fun _ => ?_⟩)
    refine am_goX 3 (show am_rc h 154 11 ∧ 0 ≤ 8 ∧ h.2.2.2.2 + am_al 233 ≤ 175 ∧ am_call am_cod 8 233 [.ref 154, .int ((Int16.ofInt 1029).toInt32)] h (fun vv h' => pz_S 6 (some .int) am_r257 8 Q 56 [(0, .ref 154), (1, .int (nI e)), (2, .int x2), (3, .int x3), (4, .int (nI n4)), (5, .int (nI k))] (vv.toList ++ []) h') from ⟨Or.inl ⟨by decide, ex_154 hP⟩, by decide, ex_lim hP rfl, am_call.up (d_233_r1029 (V := (setW C e kv)) hP hI hT (W_o hE hk) hN hS (fun h203 f204 f205 f206 f207 f208 f209 => ?_)) (by decide)⟩)
    have f210 : ∀ i, i < dE C → ¬ i = e → h203.1 172 i = dW C i := fun i hi hn => (f207 i hi).trans (if_neg hn)
    have f211 : h203.1 172 e = kv := (f207 e he).trans (if_pos rfl)
    refine am_goX 3 (show (Value.int (d_233 C (setW C e kv) s)).category = 1 ∧ 5 < 6 ∧ pz_S 6 (some .int) am_r257 8 Q 42 [(5, .int ((nI k) + (Int32.ofInt 1))), (0, .ref 154), (1, .int (nI e)), (2, .int x2), (3, .int x3), (4, .int (nI n4))] [] h203 from ⟨rfl, by decide, ?_⟩)
    rw [show (nI k) + (Int32.ofInt 1) = nI (k + 1) from (dn_a rfl rfl)]
    exact sv_S2 sv2_257 (by intro q hq; simp only [List.mem_cons, List.not_mem_nil, or_false] at hq; rcases hq with rfl | rfl | rfl | rfl | rfl | rfl <;> rfl) (ih (k + 1) (d_233_s C (setW C e kv) s) _ (by omega) f204 hI f206 f208 f209 f210 f211 hZ)
def d_257_12 (C : sp_C) (u : dS) (e : Nat) : Nat → Nat → Int32 → Int32 → dS → Int32 → Int32 × Int32 × dS × Int32
  | 0, _, a2, a3, s, kv => (a2, a3, s, kv)
  | m + 1, k, a2, a3, s, kv => d_257_12 C u e m (k + 1) (if ((d_257_42 C e (nI k) 28 0 u).2.2.2.2.1 e) ≤ a3 then a2 else nI k) (if ((d_257_42 C e (nI k) 28 0 u).2.2.2.2.1 e) ≤ a3 then a3 else (d_257_42 C e (nI k) 28 0 u).2.2.2.2.1 e) (d_257_42 C e (nI k) 28 0 u) (nI k)
theorem d_257_12_r (he : e < dE C) : ∀ (m k : Nat) (a2 : Int32) (a3 : Int32) (s : dS) (kv : Int32) (h : am_H), k + m = 7 → (ex_P h) → (cI C) → (tR C h) → (sR 0 (dP C) u h) → (sR 1029 (dP C) s h) → (∀ i, i < dE C → ¬ i = e → h.1 172 i = dW C i) → (h.1 172 e = kv) → (∀ h1, (ex_P h1) → (cI C) → (tR C h1) → (sR 0 (dP C) u h1) → (sR 1029 (dP C) ((d_257_12 C u e m k a2 a3 s kv).2.2.1) h1) → (∀ i, i < dE C → ¬ i = e → h1.1 172 i = dW C i) → (h1.1 172 e = ((d_257_12 C u e m k a2 a3 s kv).2.2.2)) → pz_S 6 (some .int) am_r257 8 Q 107 [(0, .ref 154), (2, .int ((d_257_12 C u e m k a2 a3 s kv).1))] [] h1) → pz_S 6 (some .int) am_r257 8 Q 12 [(0, .ref 154), (1, .int (nI e)), (2, .int a2), (3, .int a3), (4, .int (nI k))] [] h := by
  intro m
  induction m with
  | zero =>
    intro k a2 a3 s kv h hk hP hI hT hN hS hE hk hZ
    have h6 := hT.1.2.1
    have h5 := hT.2.1.2.1
    refine am_goX 3 (show (((Int8.ofInt 7).toInt32) ≤ (nI k) → pz_S 6 (some .int) am_r257 8 Q 107 [(0, .ref 154), (1, .int (nI e)), (2, .int a2), (3, .int a3), (4, .int (nI k))] [] h) ∧ (¬ (((Int8.ofInt 7).toInt32) ≤ (nI k)) → pz_S 6 (some .int) am_r257 8 Q 19 [(0, .ref 154), (1, .int (nI e)), (2, .int a2), (3, .int a3), (4, .int (nI k))] [] h) from ⟨fun _ => ?_, fun hz => absurd (show nI 7 ≤ nI k from nI_le (by omega) (by omega)) hz⟩)
    exact sv_S2 sv2_257 (by intro q hq; simp only [List.mem_cons, List.not_mem_nil, or_false] at hq; rcases hq with rfl | rfl <;> rfl) (hZ _ hP hI hT hN hS hE hk)
  | succ m ih =>
    intro k a2 a3 s kv h hk hP hI hT hN hS hE hk hZ
    have h6 := hT.1.2.1
    have h5 := hT.2.1.2.1
    refine am_goX 3 (show (((Int8.ofInt 7).toInt32) ≤ (nI k) → pz_S 6 (some .int) am_r257 8 Q 107 [(0, .ref 154), (1, .int (nI e)), (2, .int a2), (3, .int a3), (4, .int (nI k))] [] h) ∧ (¬ (((Int8.ofInt 7).toInt32) ≤ (nI k)) → pz_S 6 (some .int) am_r257 8 Q 19 [(0, .ref 154), (1, .int (nI e)), (2, .int a2), (3, .int a3), (4, .int (nI k))] [] h) from ⟨fun hz => absurd hz (show ¬ (nI 7 ≤ nI k) by rw [nI_leI (by omega) (by omega)]; omega), fun _ => ?_⟩)
    refine am_goX 3 (show am_rc h 154 11 ∧ 0 ≤ 8 ∧ h.2.2.2.2 + am_al 227 ≤ 175 ∧ am_call am_cod 8 227 [.ref 154, .int (nI e)] h (fun vv h' => pz_S 6 (some .int) am_r257 8 Q 24 [(0, .ref 154), (1, .int (nI e)), (2, .int a2), (3, .int a3), (4, .int (nI k))] (vv.toList ++ []) h') from ⟨Or.inl ⟨by decide, ex_154 hP⟩, by decide, ex_lim hP rfl, am_call.up (d_227_r hP hT ?_) (by decide)⟩)
    rw [show d_227 C (nI e) = Int32.ofInt 1 from ((d_227_e _).trans (v_93 he h5))]
    refine am_goX 1 (show ((Int32.ofInt 1) = 0 → pz_S 6 (some .int) am_r257 8 Q 107 [(0, .ref 154), (1, .int (nI e)), (2, .int a2), (3, .int a3), (4, .int (nI k))] [] h) ∧ (¬ ((Int32.ofInt 1) = 0) → pz_S 6 (some .int) am_r257 8 Q 27 [(0, .ref 154), (1, .int (nI e)), (2, .int a2), (3, .int a3), (4, .int (nI k))] [] h) from ⟨fun hz => absurd hz (by decide), fun _ => ?_⟩)
    refine am_goX 2 (show am_sh h 154 = some (11, 0) ∧ pz_S 6 (some .int) am_r257 8 Q 31 [(0, .ref 154), (1, .int (nI e)), (2, .int a2), (3, .int a3), (4, .int (nI k))] [am_rf (h.2.2.1 154 27)] h from ⟨ex_154 hP, ?_⟩)
    rw [show am_rf (h.2.2.1 154 27) = .ref 172 from congrArg am_rf (ex_r154_27 hP)]
    refine am_goX 3 (show ∃ jj nn : Nat, am_so h 172 = some (13, nn) ∧ jj < nn ∧ nI e = nI jj ∧ pz_S 6 (some .int) am_r257 8 Q 35 [(0, .ref 154), (1, .int (nI e)), (2, .int a2), (3, .int a3), (4, .int (nI k))] [] (am_wI h 172 jj (nI k)) from ⟨e, 5, ex_w172 hP, (by omega), rfl, ?_⟩)
    have f187 : ex_P (am_wI h 172 e (nI k)) := hP
    have f188 : cI C := hI
    have f189 : tR C (am_wI h 172 e (nI k)) := tR_w (by omega) hT
    have f190 : sR 0 (dP C) u (am_wI h 172 e (nI k)) := sR_o (by omega) hN
    have f191 : sR 1029 (dP C) s (am_wI h 172 e (nI k)) := sR_o (by omega) hS
    have f192 : ∀ i, i < dE C → ¬ i = e → (am_wI h 172 e (nI k)).1 172 i = dW C i := fun i hi hn => (em_wn _ _ (by omega)).trans (hE i hi hn)
    have f193 : (am_wI h 172 e (nI k)).1 172 e = (nI k) := em_we _ _ _ _
    generalize am_wI h 172 e (nI k) = h186 at f187 f188 f189 f190 f191 f192 f193 ⊢
    refine am_goX 2 (show am_rc h186 154 11 ∧ 0 ≤ 8 ∧ h186.2.2.2.2 + am_al 247 ≤ 175 ∧ am_call am_cod 8 247 [.ref 154] h186 (fun vv h' => pz_S 6 (some .int) am_r257 8 Q 39 [(0, .ref 154), (1, .int (nI e)), (2, .int a2), (3, .int a3), (4, .int (nI k))] (vv.toList ++ []) h') from ⟨Or.inl ⟨by decide, ex_154 f187⟩, by decide, ex_lim f187 rfl, am_call.up (d_247_r1029 (V := (setW C e (nI k))) f187 f188 f189 (W_o f192 f193) f190 f191 (fun h194 f195 f196 f197 f198 f199 f200 => ?_)) (by decide)⟩)
    have f201 : ∀ i, i < dE C → ¬ i = e → h194.1 172 i = dW C i := fun i hi hn => (f198 i hi).trans (if_neg hn)
    have f202 : h194.1 172 e = nI k := (f198 e he).trans (if_pos rfl)
    refine am_goX 2 (show 5 < 6 ∧ pz_S 6 (some .int) am_r257 8 Q 42 [(5, .int (Int32.ofInt 0)), (0, .ref 154), (1, .int (nI e)), (2, .int a2), (3, .int a3), (4, .int (nI k))] [] h194 from ⟨by decide, ?_⟩)
    refine sv_S2 sv2_257 (by intro q hq; simp only [List.mem_cons, List.not_mem_nil, or_false] at hq; rcases hq with rfl | rfl | rfl | rfl | rfl | rfl <;> rfl) (d_257_42_r a2 a3 k he 28 0 u _ (by omega) f195 f188 f197 f199 f200 f201 f202 (fun h203 f204 f205 f206 f207 f208 f209 f210 => ?_))
    refine am_goX 2 (show am_sh h203 154 = some (11, 0) ∧ pz_S 6 (some .int) am_r257 8 Q 67 [(0, .ref 154), (1, .int (nI e)), (2, .int a2), (3, .int a3), (4, .int (nI k))] [am_rf (h203.2.2.1 154 24)] h203 from ⟨ex_154 f204, ?_⟩)
    rw [show am_rf (h203.2.2.1 154 24) = .ref 170 from congrArg am_rf (ex_r154_24 f204)]
    refine am_goX 4 (show ∃ jj nn : Nat, am_sh h203 170 = some (13, nn) ∧ jj < nn ∧ ((Int16.ofInt 1043).toInt32) + (nI e) = nI jj ∧ pz_S 6 (some .int) am_r257 8 Q 73 [(0, .ref 154), (1, .int (nI e)), (2, .int a2), (3, .int a3), (4, .int (nI k))] [.int (h203.1 170 jj)] h203 from ⟨(1043 + e), 1127, ex_170 f204, (by omega), (dn_a (show (Int16.ofInt 1043).toInt32 = nI 1043 by decide) rfl), ?_⟩)
    rw [show h203.1 170 (1043 + e) = (d_257_42 C e (nI k) 28 0 u).2.2.2.2.1 e from (by rw [show (1043 + e) = 1029 + 14 + e by omega]; exact (f208.2.2.2 e (by omega)).1)]
    suffices key : ∀ (v212 : Int32), v212 = (if ((d_257_42 C e (nI k) 28 0 u).2.2.2.2.1 e) ≤ a3 then a2 else nI k) → pz_S 6 (some .int) am_r257 8 Q 87 [(0, .ref 154), (1, .int (nI e)), (3, .int a3), (4, .int (nI k)), (5, .int ((d_257_42 C e (nI k) 28 0 u).2.2.2.2.1 e))] [.int v212] h203 by
      refine am_goX 4 (show 5 < 6 ∧ (((d_257_42 C e (nI k) 28 0 u).2.2.2.2.1 e) ≤ a3 → pz_S 6 (some .int) am_r257 8 Q 86 [(5, .int ((d_257_42 C e (nI k) 28 0 u).2.2.2.2.1 e)), (0, .ref 154), (1, .int (nI e)), (2, .int a2), (3, .int a3), (4, .int (nI k))] [] h203) ∧ (¬ (((d_257_42 C e (nI k) 28 0 u).2.2.2.2.1 e) ≤ a3) → pz_S 6 (some .int) am_r257 8 Q 81 [(5, .int ((d_257_42 C e (nI k) 28 0 u).2.2.2.2.1 e)), (0, .ref 154), (1, .int (nI e)), (2, .int a2), (3, .int a3), (4, .int (nI k))] [] h203) from ⟨by decide, fun c211 => ?_, fun c211 => ?_⟩)
      · refine am_goX 1 (show pz_S 6 (some .int) am_r257 8 Q 87 [(5, .int ((d_257_42 C e (nI k) 28 0 u).2.2.2.2.1 e)), (0, .ref 154), (1, .int (nI e)), (2, .int a2), (3, .int a3), (4, .int (nI k))] [.int a2] h203 from ?_)
        exact sv_S2 sv2_257 (by intro q hq; simp only [List.mem_cons, List.not_mem_nil, or_false] at hq; rcases hq with rfl | rfl | rfl | rfl | rfl <;> rfl) (key _ (if_pos c211).symm)
      · refine am_goX 2 (show pz_S 6 (some .int) am_r257 8 Q 87 [(5, .int ((d_257_42 C e (nI k) 28 0 u).2.2.2.2.1 e)), (0, .ref 154), (1, .int (nI e)), (2, .int a2), (3, .int a3), (4, .int (nI k))] [.int (nI k)] h203 from ?_)
        exact sv_S2 sv2_257 (by intro q hq; simp only [List.mem_cons, List.not_mem_nil, or_false] at hq; rcases hq with rfl | rfl | rfl | rfl | rfl <;> rfl) (key _ (if_neg c211).symm)
    intro v212 e213
    subst e213
    suffices key : ∀ (v215 : Int32), v215 = (if ((d_257_42 C e (nI k) 28 0 u).2.2.2.2.1 e) ≤ a3 then a3 else (d_257_42 C e (nI k) 28 0 u).2.2.2.2.1 e) → pz_S 6 (some .int) am_r257 8 Q 100 [(0, .ref 154), (1, .int (nI e)), (2, .int (if ((d_257_42 C e (nI k) 28 0 u).2.2.2.2.1 e) ≤ a3 then a2 else nI k)), (4, .int (nI k))] [.int v215] h203 by
      refine am_goX 4 (show 2 < 6 ∧ (((d_257_42 C e (nI k) 28 0 u).2.2.2.2.1 e) ≤ a3 → pz_S 6 (some .int) am_r257 8 Q 99 [(2, .int (if ((d_257_42 C e (nI k) 28 0 u).2.2.2.2.1 e) ≤ a3 then a2 else nI k)), (0, .ref 154), (1, .int (nI e)), (3, .int a3), (4, .int (nI k)), (5, .int ((d_257_42 C e (nI k) 28 0 u).2.2.2.2.1 e))] [] h203) ∧ (¬ (((d_257_42 C e (nI k) 28 0 u).2.2.2.2.1 e) ≤ a3) → pz_S 6 (some .int) am_r257 8 Q 94 [(2, .int (if ((d_257_42 C e (nI k) 28 0 u).2.2.2.2.1 e) ≤ a3 then a2 else nI k)), (0, .ref 154), (1, .int (nI e)), (3, .int a3), (4, .int (nI k)), (5, .int ((d_257_42 C e (nI k) 28 0 u).2.2.2.2.1 e))] [] h203) from ⟨by decide, fun c214 => ?_, fun c214 => ?_⟩)
      · refine am_goX 1 (show pz_S 6 (some .int) am_r257 8 Q 100 [(2, .int (if ((d_257_42 C e (nI k) 28 0 u).2.2.2.2.1 e) ≤ a3 then a2 else nI k)), (0, .ref 154), (1, .int (nI e)), (3, .int a3), (4, .int (nI k)), (5, .int ((d_257_42 C e (nI k) 28 0 u).2.2.2.2.1 e))] [.int a3] h203 from ?_)
        exact sv_S2 sv2_257 (by intro q hq; simp only [List.mem_cons, List.not_mem_nil, or_false] at hq; rcases hq with rfl | rfl | rfl | rfl <;> rfl) (key _ (if_pos c214).symm)
      · refine am_goX 2 (show pz_S 6 (some .int) am_r257 8 Q 100 [(2, .int (if ((d_257_42 C e (nI k) 28 0 u).2.2.2.2.1 e) ≤ a3 then a2 else nI k)), (0, .ref 154), (1, .int (nI e)), (3, .int a3), (4, .int (nI k)), (5, .int ((d_257_42 C e (nI k) 28 0 u).2.2.2.2.1 e))] [.int ((d_257_42 C e (nI k) 28 0 u).2.2.2.2.1 e)] h203 from ?_)
        exact sv_S2 sv2_257 (by intro q hq; simp only [List.mem_cons, List.not_mem_nil, or_false] at hq; rcases hq with rfl | rfl | rfl | rfl <;> rfl) (key _ (if_neg c214).symm)
    intro v215 e216
    subst e216
    refine am_goX 3 (show 3 < 6 ∧ 4 < 6 ∧ pz_S 6 (some .int) am_r257 8 Q 12 [(4, .int ((nI k) + (Int32.ofInt 1))), (3, .int (if ((d_257_42 C e (nI k) 28 0 u).2.2.2.2.1 e) ≤ a3 then a3 else (d_257_42 C e (nI k) 28 0 u).2.2.2.2.1 e)), (0, .ref 154), (1, .int (nI e)), (2, .int (if ((d_257_42 C e (nI k) 28 0 u).2.2.2.2.1 e) ≤ a3 then a2 else nI k))] [] h203 from ⟨by decide, by decide, ?_⟩)
    rw [show (nI k) + (Int32.ofInt 1) = nI (k + 1) from (dn_a rfl rfl)]
    exact sv_S2 sv2_257 (by intro q hq; simp only [List.mem_cons, List.not_mem_nil, or_false] at hq; rcases hq with rfl | rfl | rfl | rfl | rfl <;> rfl) (ih (k + 1) (if ((d_257_42 C e (nI k) 28 0 u).2.2.2.2.1 e) ≤ a3 then a2 else nI k) (if ((d_257_42 C e (nI k) 28 0 u).2.2.2.2.1 e) ≤ a3 then a3 else (d_257_42 C e (nI k) 28 0 u).2.2.2.2.1 e) (d_257_42 C e (nI k) 28 0 u) (nI k) _ (by omega) f204 f205 f206 f207 f208 f209 f210 hZ)
def d_257_s (C : sp_C) (u s : dS) (e : Nat) (kv : Int32) : dS := (d_257_12 C u e 7 0 (Int32.ofInt (-1)) (Int32.ofInt (-1)) s kv).2.2.1
def d_257_kv (C : sp_C) (u s : dS) (e : Nat) (kv : Int32) : Int32 := (dW C e)
def d_257 (C : sp_C) (u s : dS) (e : Nat) (kv : Int32) : Int32 := (d_257_12 C u e 7 0 (Int32.ofInt (-1)) (Int32.ofInt (-1)) s kv).1
theorem d_257_r (hP : ex_P h) (hI : cI C) (hT : tR C h) (hN : sR 0 (dP C) u h) (hS : sR 1029 (dP C) s h) (hE : ∀ i, i < dE C → ¬ i = e → h.1 172 i = dW C i) (hk : h.1 172 e = kv) (he : e < dE C) (hQ : ∀ h1, (ex_P h1) → (cI C) → (tR C h1) → (sR 0 (dP C) u h1) → (sR 1029 (dP C) (d_257_s C u s e kv) h1) → (∀ i, i < dE C → ¬ i = e → h1.1 172 i = dW C i) → (h1.1 172 e = (d_257_kv C u s e kv)) → Q (some (.int (d_257 C u s e kv))) h1) : am_call am_cod 9 257 [.ref 154, .int (nI e)] h Q := by
  have h6 := hT.1.2.1
  have h5 := hT.2.1.2.1
  refine pz_call (n := 257) (nL := 6) (rt := (some .int)) (rows := am_r257) (d := 8) (by decide +kernel) (by decide +kernel) rfl (by funext pc; rfl) (ex_175 hP) (by exact Nat.le_of_ble_eq_true rfl) ?_
  refine am_goX 3 (show am_sh h 154 = some (11, 0) ∧ narrow (am_fty 11 0) (.int (Int32.ofInt 0)) = .int (Int32.ofInt 0) ∧ fits (am_fty 11 0) (.int (Int32.ofInt 0)) = true ∧ pz_S 6 (some .int) am_r257 8 Q 5 [(0, .ref 154), (1, .int (nI e))] [] (am_wI h 154 0 (Int32.ofInt 0)) from ⟨ex_154 hP, rfl, rfl, ?_⟩)
  have f179 : ex_P (am_wI h 154 0 (Int32.ofInt 0)) := hP
  have f180 : cI C := hI
  have f181 : tR C (am_wI h 154 0 (Int32.ofInt 0)) := tR_w (by omega) hT
  have f182 : sR 0 (dP C) u (am_wI h 154 0 (Int32.ofInt 0)) := sR_o (by omega) hN
  have f183 : sR 1029 (dP C) s (am_wI h 154 0 (Int32.ofInt 0)) := sR_o (by omega) hS
  have f184 : ∀ i, i < dE C → ¬ i = e → (am_wI h 154 0 (Int32.ofInt 0)).1 172 i = dW C i := fun i hi hn => (em_wn _ _ (by omega)).trans (hE i hi hn)
  have f185 : (am_wI h 154 0 (Int32.ofInt 0)).1 172 e = kv := (em_wn _ _ (by omega)).trans hk
  generalize am_wI h 154 0 (Int32.ofInt 0) = h178 at f179 f180 f181 f182 f183 f184 f185 ⊢
  refine am_goX 6 (show 2 < 6 ∧ 3 < 6 ∧ 4 < 6 ∧ pz_S 6 (some .int) am_r257 8 Q 12 [(4, .int (Int32.ofInt 0)), (3, .int (Int32.ofInt (-1))), (2, .int (Int32.ofInt (-1))), (0, .ref 154), (1, .int (nI e))] [] h178 from ⟨by decide, by decide, by decide, ?_⟩)
  refine sv_S2 sv2_257 (by intro q hq; simp only [List.mem_cons, List.not_mem_nil, or_false] at hq; rcases hq with rfl | rfl | rfl | rfl | rfl <;> rfl) (d_257_12_r he 7 0 (Int32.ofInt (-1)) (Int32.ofInt (-1)) s kv _ (by omega) f179 f180 f181 f182 f183 f184 f185 (fun h217 f218 f219 f220 f221 f222 f223 f224 => ?_))
  refine am_goX 2 (show am_rc h217 154 11 ∧ 0 ≤ 8 ∧ h217.2.2.2.2 + am_al 182 ≤ 175 ∧ am_call am_cod 8 182 [.ref 154] h217 (fun vv h' => pz_S 6 (some .int) am_r257 8 Q 111 [(0, .ref 154), (2, .int ((d_257_12 C u e 7 0 (Int32.ofInt (-1)) (Int32.ofInt (-1)) s kv).1))] (vv.toList ++ []) h') from ⟨Or.inl ⟨by decide, ex_154 f218⟩, by decide, ex_lim f218 rfl, am_call.up (q_182 f218 f219 f220 f221 f222 (fun h225 f226 f227 f228 f229 f230 f231 => ?_)) (by decide)⟩)
  have f232 : ∀ i, i < dE C → ¬ i = e → h225.1 172 i = dW C i := fun i hi _ => f231 i hi
  have f233 : h225.1 172 e = dW C e := f231 e he
  exact am_goX 2 (show (∃ ty, (some .int) = some ty ∧ narrow ty (.int ((d_257_12 C u e 7 0 (Int32.ofInt (-1)) (Int32.ofInt (-1)) s kv).1)) = .int ((d_257_12 C u e 7 0 (Int32.ofInt (-1)) (Int32.ofInt (-1)) s kv).1)) ∧ h225.2.2.2.2 = 175 ∧ _ from ⟨⟨.int, rfl, rfl⟩, ex_175 f226, hQ _ f226 f219 f228 f229 f230 f232 f233⟩)
def d_257x  : Int32 := Int32.ofInt (-1)
theorem d_257_xr (hP : ex_P h) (hI : cI C) (hT : tR C h) (hO : ∀ e, e < dE C → h.1 172 e = dW C e) (hN : sR 0 (dP C) u h) (hS : sR 1029 (dP C) s h) (ey : d_93 C y = Int32.ofInt 0) (hQ : ∀ h1, (ex_P h1) → (cI C) → (tR C h1) → (∀ e, e < dE C → h1.1 172 e = dW C e) → (sR 0 (dP C) u h1) → (sR 1029 (dP C) s h1) → Q (some (.int d_257x)) h1) : am_call am_cod 9 257 [.ref 154, .int y] h Q := by
  have h6 := hT.1.2.1
  have h5 := hT.2.1.2.1
  refine pz_call (n := 257) (nL := 6) (rt := (some .int)) (rows := am_r257) (d := 8) (by decide +kernel) (by decide +kernel) rfl (by funext pc; rfl) (ex_175 hP) (by exact Nat.le_of_ble_eq_true rfl) ?_
  refine am_goX 3 (show am_sh h 154 = some (11, 0) ∧ narrow (am_fty 11 0) (.int (Int32.ofInt 0)) = .int (Int32.ofInt 0) ∧ fits (am_fty 11 0) (.int (Int32.ofInt 0)) = true ∧ pz_S 6 (some .int) am_r257 8 Q 5 [(0, .ref 154), (1, .int y)] [] (am_wI h 154 0 (Int32.ofInt 0)) from ⟨ex_154 hP, rfl, rfl, ?_⟩)
  have f235 : ex_P (am_wI h 154 0 (Int32.ofInt 0)) := hP
  have f236 : cI C := hI
  have f237 : tR C (am_wI h 154 0 (Int32.ofInt 0)) := tR_w (by omega) hT
  have f238 : ∀ e, e < dE C → (am_wI h 154 0 (Int32.ofInt 0)).1 172 e = dW C e := on_w (by omega) hO
  have f239 : sR 0 (dP C) u (am_wI h 154 0 (Int32.ofInt 0)) := sR_o (by omega) hN
  have f240 : sR 1029 (dP C) s (am_wI h 154 0 (Int32.ofInt 0)) := sR_o (by omega) hS
  generalize am_wI h 154 0 (Int32.ofInt 0) = h234 at f235 f236 f237 f238 f239 f240 ⊢
  refine am_goX 9 (show 2 < 6 ∧ 3 < 6 ∧ 4 < 6 ∧ (((Int8.ofInt 7).toInt32) ≤ (Int32.ofInt 0) → pz_S 6 (some .int) am_r257 8 Q 107 [(4, .int (Int32.ofInt 0)), (3, .int (Int32.ofInt (-1))), (2, .int (Int32.ofInt (-1))), (0, .ref 154), (1, .int y)] [] h234) ∧ (¬ (((Int8.ofInt 7).toInt32) ≤ (Int32.ofInt 0)) → pz_S 6 (some .int) am_r257 8 Q 19 [(4, .int (Int32.ofInt 0)), (3, .int (Int32.ofInt (-1))), (2, .int (Int32.ofInt (-1))), (0, .ref 154), (1, .int y)] [] h234) from ⟨by decide, by decide, by decide, fun hz => absurd hz (by decide), fun _ => ?_⟩)
  refine am_goX 3 (show am_rc h234 154 11 ∧ 0 ≤ 8 ∧ h234.2.2.2.2 + am_al 227 ≤ 175 ∧ am_call am_cod 8 227 [.ref 154, .int y] h234 (fun vv h' => pz_S 6 (some .int) am_r257 8 Q 24 [(4, .int (Int32.ofInt 0)), (3, .int (Int32.ofInt (-1))), (2, .int (Int32.ofInt (-1))), (0, .ref 154), (1, .int y)] (vv.toList ++ []) h') from ⟨Or.inl ⟨by decide, ex_154 f235⟩, by decide, ex_lim f235 rfl, am_call.up (d_227_r f235 f237 ?_) (by decide)⟩)
  rw [show d_227 C y = Int32.ofInt 0 from ((d_227_e _).trans ey)]
  refine am_goX 1 (show ((Int32.ofInt 0) = 0 → pz_S 6 (some .int) am_r257 8 Q 107 [(4, .int (Int32.ofInt 0)), (3, .int (Int32.ofInt (-1))), (2, .int (Int32.ofInt (-1))), (0, .ref 154), (1, .int y)] [] h234) ∧ (¬ ((Int32.ofInt 0) = 0) → pz_S 6 (some .int) am_r257 8 Q 27 [(4, .int (Int32.ofInt 0)), (3, .int (Int32.ofInt (-1))), (2, .int (Int32.ofInt (-1))), (0, .ref 154), (1, .int y)] [] h234) from ⟨fun _ => ?_, fun hz => absurd (by decide) hz⟩)
  refine am_goX 2 (show am_rc h234 154 11 ∧ 0 ≤ 8 ∧ h234.2.2.2.2 + am_al 182 ≤ 175 ∧ am_call am_cod 8 182 [.ref 154] h234 (fun vv h' => pz_S 6 (some .int) am_r257 8 Q 111 [(4, .int (Int32.ofInt 0)), (3, .int (Int32.ofInt (-1))), (2, .int (Int32.ofInt (-1))), (0, .ref 154), (1, .int y)] (vv.toList ++ []) h') from ⟨Or.inl ⟨by decide, ex_154 f235⟩, by decide, ex_lim f235 rfl, am_call.up (q_182 f235 f236 f237 f239 f240 (fun h241 f242 f243 f244 f245 f246 f247 => ?_)) (by decide)⟩)
  exact am_goX 2 (show (∃ ty, (some .int) = some ty ∧ narrow ty (.int (Int32.ofInt (-1))) = .int (Int32.ofInt (-1))) ∧ h241.2.2.2.2 = 175 ∧ _ from ⟨⟨.int, rfl, rfl⟩, ex_175 f242, hQ _ f242 f236 f244 f247 f245 f246⟩)
end
section
/-! MOVE KEEPS THE WHOLE RELATION -/
def kr_Km : ag_M := [(0, 3, 3), (0, 12, 12), (6, 0, 11), (8, 0, 5), (9, 0, 5), (12, 0, 4), (13, 0, 4), (14, 2, 2), (15, 0, 999), (17, 0, 11), (19, 0, 5), (20, 0, 5), (23, 0, 4), (24, 0, 4), (25, 2, 2), (26, 0, 999), (36, 0, 1), (37, 0, 5), (38, 0, 5), (39, 0, 4), (40, 0, 4), (49, 0, 1), (50, 0, 5), (51, 0, 5), (52, 0, 4), (53, 0, 4), (54, 0, 1), (55, 0, 5), (56, 0, 5), (57, 0, 4), (58, 0, 4), (59, 0, 1), (60, 0, 5), (61, 0, 5), (62, 0, 4), (63, 0, 4), (64, 0, 1), (65, 0, 5), (66, 0, 5), (67, 0, 4), (68, 0, 4), (69, 0, 1), (70, 0, 5), (71, 0, 5), (72, 0, 4), (73, 0, 4), (74, 0, 1), (75, 0, 5), (76, 0, 5), (77, 0, 4), (78, 0, 4), (79, 0, 1), (80, 0, 5), (81, 0, 5), (82, 0, 4), (83, 0, 4), (84, 0, 1), (85, 0, 5), (86, 0, 5), (87, 0, 4), (88, 0, 4), (89, 0, 1), (90, 0, 5), (91, 0, 5), (92, 0, 4), (93, 0, 4), (94, 0, 1), (95, 0, 5), (96, 0, 5), (97, 0, 4), (98, 0, 4), (99, 0, 1), (100, 0, 5), (101, 0, 5), (102, 0, 4), (103, 0, 4), (104, 0, 1), (105, 0, 5), (106, 0, 5), (107, 0, 4), (108, 0, 4), (109, 0, 1), (110, 0, 5), (111, 0, 5), (112, 0, 4), (113, 0, 4), (114, 0, 1), (115, 0, 5), (116, 0, 5), (117, 0, 4), (118, 0, 4), (119, 0, 1), (120, 0, 5), (121, 0, 5), (122, 0, 4), (123, 0, 4), (124, 0, 1), (125, 0, 5), (126, 0, 5), (127, 0, 4), (128, 0, 4), (131, 0, 1), (132, 0, 5), (133, 0, 5), (134, 0, 4), (135, 0, 4), (137, 0, 1), (138, 0, 5), (139, 0, 5), (140, 0, 4), (141, 0, 4), (143, 0, 1), (144, 0, 5), (145, 0, 5), (146, 0, 4), (147, 0, 4), (149, 0, 1), (150, 0, 5), (151, 0, 5), (152, 0, 4), (153, 0, 4), (47, 1, 2), (130, 0, 0), (130, 2, 2), (136, 0, 0), (136, 2, 2), (142, 0, 0), (142, 2, 2), (148, 0, 0), (148, 2, 2)]
def kr_Lm : ag_M := [(160, 0, 39), (161, 0, 1099), (162, 0, 1099), (154, 25, 25), (170, 0, 1028), (171, 0, 3)]
theorem kcm_r : ∀ q, q < 16 → kc5 kr_Km (49 + 5 * q) = true := by decide +kernel
theorem kcm_m : ∀ m, m < 4 → kc5 kr_Km (131 + 6 * m) = true ∧ kcB kr_Km (130 + 6 * m) 0 0 = true ∧ kcB kr_Km (130 + 6 * m) 2 2 = true := by decide +kernel
theorem c_v_km {c : Nat} {C : sp_C} {h g : am_H} (hc : c = 6 ∨ c = 17) (k : kr kr_Km h g) (l : c_v c C h) : c_v c C g := by
  rcases hc with rfl | rfl
  · exact c_v_x (kc (a := 0) (b := 11) (by decide +kernel) k (by decide) (by decide)) (kc (a := 0) (b := 11) (by decide +kernel) k (by decide) (by decide)) (kc (a := 0) (b := 11) (by decide +kernel) k (by decide) (by decide)) (fun i hi => ⟨(kc (a := 0) (b := 5) (by decide +kernel) k (Nat.zero_le _) (by omega)), (kc (a := 0) (b := 5) (by decide +kernel) k (Nat.zero_le _) (by omega))⟩) (fun i hi => ⟨(kc (a := 0) (b := 4) (by decide +kernel) k (Nat.zero_le _) (by omega)), (kc (a := 0) (b := 4) (by decide +kernel) k (Nat.zero_le _) (by omega))⟩) (kc (a := 2) (b := 2) (by decide +kernel) k (by decide) (by decide)) (fun i hi => (kc (a := 0) (b := 999) (by decide +kernel) k (Nat.zero_le _) (by omega))) l
  · exact c_v_x (kc (a := 0) (b := 11) (by decide +kernel) k (by decide) (by decide)) (kc (a := 0) (b := 11) (by decide +kernel) k (by decide) (by decide)) (kc (a := 0) (b := 11) (by decide +kernel) k (by decide) (by decide)) (fun i hi => ⟨(kc (a := 0) (b := 5) (by decide +kernel) k (Nat.zero_le _) (by omega)), (kc (a := 0) (b := 5) (by decide +kernel) k (Nat.zero_le _) (by omega))⟩) (fun i hi => ⟨(kc (a := 0) (b := 4) (by decide +kernel) k (Nat.zero_le _) (by omega)), (kc (a := 0) (b := 4) (by decide +kernel) k (Nat.zero_le _) (by omega))⟩) (kc (a := 2) (b := 2) (by decide +kernel) k (by decide) (by decide)) (fun i hi => (kc (a := 0) (b := 999) (by decide +kernel) k (Nat.zero_le _) (by omega))) l
theorem KC_km {C : sp_C} {s : dS} {H : dH} {M : dMk} {x : Nat} {h g : am_H} (j : KC C s H M x h) (k : kr kr_Km h g) (w : ∀ c, h.2.2.1 0 3 = some c → c_d c C g) : KC C s H M x g := by
  obtain ⟨c, c1, c2, c3, c4, c5, c6, c7, c8⟩ := j
  refine ⟨c, c1, (k 0 3 (kr_at (a := 3) (b := 3) (by decide +kernel) (by decide) (by decide))).2.2.trans c2, c_v_km c1 k c3, w c c2, sC_k (by decide +kernel) k c5, ?_, fun m hm => ?_, (kc (a := 12) (b := 12) (by decide +kernel) k (by decide) (by decide)).trans c8⟩
  · obtain ⟨a1, a2, q, a3, a4, a5⟩ := c6
    exact ⟨a1, (kc (a := 1) (b := 2) (by decide +kernel) k (by decide) (by decide)).trans a2, q, a3, (kc (a := 1) (b := 2) (by decide +kernel) k (by decide) (by decide)).trans a4, fun j hj => sC_k (kcm_r _ (by omega)) k (a5 j hj)⟩
  · exact ⟨(kc (kcm_m m hm).2.1 k (Nat.le_refl _) (Nat.le_refl _)).trans (c7 m hm).1, fun z => ⟨sC_k (kcm_m m hm).1 k ((c7 m hm).2 z).1, (kc (kcm_m m hm).2.2 k (Nat.le_refl _) (Nat.le_refl _)).trans ((c7 m hm).2 z).2⟩⟩
theorem KR_km {C : sp_C} {s : dS} {H : dH} {M : dMk} {x : Nat} {h g : am_H} (j : KR C s H M x h) (k : kr kr_Lm h g) (w : ∀ e, e < dE C → g.1 172 e = dW C e) : KR C s H M x g := by
  obtain ⟨r1, r2, r3, r4, r5, r6⟩ := j
  have h6 : dP C ≤ 6 := r1.1.2.1
  have w0 : ∀ q, q ≤ 1028 → g.1 170 q = h.1 170 q := fun q hq => kc (a := 0) (b := 1028) (by decide +kernel) k (Nat.zero_le _) hq
  exact ⟨tR_k r1 (kr_sub (by decide +kernel) k), w, sR_fr (fun q u1 u2 => w0 q (by omega)) h6 r3, hL_fr h6 (kc (a := 25) (b := 25) (by decide +kernel) k (by decide) (by decide)) (fun q u1 u2 => w0 q (by omega)) r4, mL_fr h6 (fun m hm => kc (a := 0) (b := 3) (by decide +kernel) k (by omega) (by omega)) (fun q u1 u2 => w0 q (by omega)) r5, (w0 24 (by decide)).trans r6⟩
theorem KC_jC {C : sp_C} {s : dS} {H : dH} {M : dMk} {x : Nat} {h : am_H} (j : KC C s H M x h) : jC C h := by
  obtain ⟨c, c1, c2, c3, -⟩ := j
  exact ⟨c, c1, c2, c3⟩
theorem c_d_of {c e : Nat} {C : sp_C} {h : am_H} (w : ∀ i, i < dE C → ¬ i = e → h.1 (c + 5) i = dW C i) (k : h.1 (c + 5) e = dW C e) : c_d c C h := fun i hi => by
  by_cases ei : i = e
  · rw [ei]; exact k
  · exact w i hi ei
theorem m_131 {h : am_H} {C : sp_C} {D : Nat} {s : dS} {H : dH} {M : dMk} {x : Nat} (hI : iv_I h) (i : KI C D s H M x) (j : KC C s H M x h) (a : Int32) : am_call am_cod 60 131 [.ref 0, .int a] h (fun _ g => ∀ c, h.2.2.1 0 3 = some c → c_d c C g) := by
  have hP := iv_P hI
  have hc := i.1
  have h5 := hc.1.2
  obtain ⟨c, c1, c2, c3, c4, c5, -, -, -⟩ := j
  rcases c_93 h5 a with e | ⟨p, hp, rfl⟩
  · rcases c1 with rfl | rfl
    · exact am_call.up (d_131_xA6 hP hc c3 c4 c2 c5 (sC_ex 41 h) e (fun g1 p1 p2 p3 p4 p5 p6 p7 c' e' => by obtain rfl := Option.some.inj (c2.symm.trans e'); exact p4)) (by decide)
    · exact am_call.up (d_131_xA17 hP hc c3 c4 c2 c5 (sC_ex 41 h) e (fun g1 p1 p2 p3 p4 p5 p6 p7 c' e' => by obtain rfl := Option.some.inj (c2.symm.trans e'); exact p4)) (by decide)
  · rcases c1 with rfl | rfl
    · exact am_call.up (d_131_A6 (e := p) (kv := dW C p) (kw := dW C p) hP hc c3 c2 c5 (sC_ex 41 h) (fun i hi _ => c4 i hi) (c4 p hp) hp rfl (fun g1 p1 p2 p3 p4 p5 p6 p7 p8 c' e' => by obtain rfl := Option.some.inj (c2.symm.trans e'); exact c_d_of (c := 6) p7 p8)) (by decide)
    · exact am_call.up (d_131_A17 (e := p) (kv := dW C p) (kw := dW C p) hP hc c3 c2 c5 (sC_ex 41 h) (fun i hi _ => c4 i hi) (c4 p hp) hp rfl (fun g1 p1 p2 p3 p4 p5 p6 p7 p8 c' e' => by obtain rfl := Option.some.inj (c2.symm.trans e'); exact c_d_of (c := 17) p7 p8)) (by decide)
theorem m_257 {h : am_H} {C : sp_C} {D : Nat} {s : dS} {H : dH} {M : dMk} {x : Nat} (hI : iv_I h) (i : KI C D s H M x) (j : KR C s H M x h) (a : Int32) : am_call am_cod 60 257 [.ref 154, .int a] h (fun _ g => ∀ e, e < dE C → g.1 172 e = dW C e) := by
  have hP := iv_P hI
  have hc := i.1
  have h5 := hc.1.2
  obtain ⟨r1, r2, r3, -, -, -⟩ := j
  rcases c_93 h5 a with e | ⟨p, hp, rfl⟩
  · exact am_call.up (d_257_xr hP hc r1 r2 r3 (sR_ex 1029 (dP C) h) e (fun g1 p1 p2 p3 p4 p5 p6 => p4)) (by decide)
  · exact am_call.up (d_257_r (e := p) (kv := dW C p) hP hc r1 r3 (sR_ex 1029 (dP C) h) (fun i hi _ => r2 i hi) (r2 p hp) hp (fun g1 p1 p2 p3 p4 p5 p6 p7 i hi => by
      by_cases ei : i = p
      · rw [ei]; exact p7
      · exact p6 i hi ei)) (by decide)
end
