/-! DAY, LOT, ASK, UNDO -/
theorem c_v_fr {c : Nat} {C : sp_C} {h g : am_H} (e : ∀ a k, c ≤ a → a ≤ c + 9 → g.1 a k = h.1 a k) (l : c_v c C h) : c_v c C g :=
  c_v_x (e _ _ (by omega) (by omega)) (e _ _ (by omega) (by omega)) (e _ _ (by omega) (by omega)) (fun i _ => ⟨e _ _ (by omega) (by omega), e _ _ (by omega) (by omega)⟩) (fun i _ => ⟨e _ _ (by omega) (by omega), e _ _ (by omega) (by omega)⟩) (e _ _ (by omega) (by omega)) (fun i _ => e _ _ (by omega) (by omega)) l
theorem c_d_fr {c : Nat} {C : sp_C} {h g : am_H} (e : ∀ k, g.1 (c + 5) k = h.1 (c + 5) k) (l : c_d c C h) : c_d c C g := fun i hi => (e i).trans (l i hi)
theorem hC_w {o k : Nat} {v : Int32} {H : dH} {h : am_H} (hn : ¬ (47 ≤ o ∧ o ≤ 128)) (l : hC H h) : hC H (am_wI h o k v) := hC_fr (fun a j u1 u2 => em_wn _ _ (by omega)) l
theorem mC_w {o k : Nat} {v : Int32} {M : dMk} {h : am_H} (hn : ¬ (130 ≤ o ∧ o ≤ 153)) (l : mC M h) : mC M (am_wI h o k v) := mC_fr (fun a j u1 u2 => em_wn _ _ (by omega)) l
theorem tR_fr {C : sp_C} {h g : am_H} (e : ∀ a k, 160 ≤ a → a ≤ 162 → g.1 a k = h.1 a k) (j : tR C h) : tR C g := by
  obtain ⟨⟨a1, a2, a3⟩, ⟨b1, b2, b3⟩, c3, ⟨d1, d2⟩, e1, e2, e3, e4, e5⟩ := j
  have w : ∀ q, g.1 160 q = h.1 160 q := fun q => e 160 q (by decide) (by decide)
  have w1 : ∀ q, g.1 161 q = h.1 161 q := fun q => e 161 q (by decide) (by decide)
  have w2 : ∀ q, g.1 162 q = h.1 162 q := fun q => e 162 q (by decide) (by decide)
  refine ⟨⟨?_, a2, fun i hi => ?_⟩, ⟨?_, b2, fun i hi => ?_⟩, fun p q hp hq => ?_, ⟨?_, d2⟩, e1, fun j hj => ?_, fun z => ?_, e4, ?_⟩
  · rw [w]; exact a1
  · rw [w, w]; exact a3 i hi
  · rw [w]; exact b1
  · rw [w, w]; exact b3 i hi
  · rw [w]; exact c3 p q hp hq
  · rw [w]; exact d1
  · rw [w1, w2]; exact e2 j hj
  · rw [w1]; exact e3 z
  · rw [w]; exact e5
theorem hL_w {o k P : Nat} {v : Int32} {H : dH} {h : am_H} (hn : (¬ (o = 154 ∧ k = 25)) ∧ (¬ (o = 170 ∧ 245 ≤ k ∧ k < 1029)) ∧ P ≤ 6) (l : hL P H h) : hL P H (am_wI h o k v) := hL_fr hn.2.2 (em_wn _ _ (by omega)) (fun a u1 u2 => em_wn _ _ (by omega)) l
theorem mL_w {o k P : Nat} {v : Int32} {M : dMk} {h : am_H} (hn : (¬ o = 171) ∧ (¬ (o = 170 ∧ 49 ≤ k ∧ k < 245)) ∧ P ≤ 6) (l : mL P M h) : mL P M (am_wI h o k v) := mL_fr hn.2.2 (fun m hm => em_wn _ _ (by omega)) (fun a u1 u2 => em_wn _ _ (by omega)) l
variable {h : am_H} {Q : am_Q} {C V : sp_C} {y z w : Int32} {p l : Nat} {s : dS} {H : dH} {M : dMk} {x : Nat} {a b : Int32}
theorem v_60 {l lo hi : Nat} (h1 : lo ≤ l) (h2 : l ≤ hi) (h3 : hi ≤ 4096) : d_60 (nI l) (nI lo) (nI hi) = Int32.ofInt 1 := by
  unfold d_60
  rw [if_neg (show ¬ nI l < nI lo by rw [nI_ltI (by omega) (by omega)]; omega), if_neg (show ¬ nI hi < nI l by rw [nI_ltI (by omega) (by omega)]; omega)]
theorem c_60 {lo hi : Nat} (h1 : lo ≤ hi) (h3 : hi ≤ 4096) (x : Int32) : d_60 x (nI lo) (nI hi) = Int32.ofInt 0 ∨ ∃ l, lo ≤ l ∧ l ≤ hi ∧ x = nI l := by
  unfold d_60
  by_cases e1 : x < nI lo
  · rw [if_pos e1]; exact Or.inl rfl
  · rw [if_neg e1]
    by_cases e2 : nI hi < x
    · rw [if_pos e2]; exact Or.inl rfl
    · refine Or.inr ⟨x.toInt.toNat, ?_, ?_, ?_⟩
      · have a := mt Int32.lt_iff_toInt_lt.mpr e1
        rw [nI_toInt (by omega)] at a
        omega
      · have a := mt Int32.lt_iff_toInt_lt.mpr e1
        have b := mt Int32.lt_iff_toInt_lt.mpr e2
        rw [nI_toInt (by omega)] at a b
        omega
      · have a := mt Int32.lt_iff_toInt_lt.mpr e1
        have b := mt Int32.lt_iff_toInt_lt.mpr e2
        rw [nI_toInt (by omega)] at a b
        exact Int32.toInt_inj.mp (by rw [nI_toInt (by omega)]; omega)

theorem sv2_207 : am_r207.all (fun q => sv2_ok q.2) = true := by decide +kernel
def d_207 (y z w : Int32) : Int32 := (if y < z then Int32.ofInt 0 else (if w < y then Int32.ofInt 0 else Int32.ofInt 1))
theorem d_207_w (hP : ex_P h)  (hQ : Q (some (.int (d_207 y z w))) h) : am_call am_cod 1 207 [.int y, .int z, .int w] h Q := by
  refine pz_call (n := 207) (nL := 3) (rt := (some .boolean)) (rows := am_r207) (d := 0) (by decide +kernel) (by decide +kernel) rfl (by funext pc; rfl) (ex_175 hP) (by exact Nat.le_of_ble_eq_true rfl) ?_
  suffices key : ∀ (v2 : Int32), v2 = (if y < z then Int32.ofInt 0 else (if w < y then Int32.ofInt 0 else Int32.ofInt 1)) → pz_S 3 (some .boolean) am_r207 0 Q 15 [] [.int v2] h by
    refine am_goX 3 (show (y < z → pz_S 3 (some .boolean) am_r207 0 Q 14 [(0, .int y), (1, .int z), (2, .int w)] [] h) ∧ (¬ (y < z) → pz_S 3 (some .boolean) am_r207 0 Q 5 [(0, .int y), (1, .int z), (2, .int w)] [] h) from ⟨fun c1 => ?_, fun c1 => ?_⟩)
    · refine am_goX 1 (show pz_S 3 (some .boolean) am_r207 0 Q 15 [(0, .int y), (1, .int z), (2, .int w)] [.int (Int32.ofInt 0)] h from ?_)
      exact sv_S2 sv2_207 (fun q hq => absurd hq List.not_mem_nil) (key _ (if_pos c1).symm)
    · suffices key : ∀ (v4 : Int32), v4 = (if w < y then Int32.ofInt 0 else Int32.ofInt 1) → pz_S 3 (some .boolean) am_r207 0 Q 15 [] [.int v4] h by
        refine am_goX 3 (show (w < y → pz_S 3 (some .boolean) am_r207 0 Q 14 [(0, .int y), (1, .int z), (2, .int w)] [] h) ∧ (¬ (w < y) → pz_S 3 (some .boolean) am_r207 0 Q 10 [(0, .int y), (1, .int z), (2, .int w)] [] h) from ⟨fun c3 => ?_, fun c3 => ?_⟩)
        · refine am_goX 1 (show pz_S 3 (some .boolean) am_r207 0 Q 15 [(0, .int y), (1, .int z), (2, .int w)] [.int (Int32.ofInt 0)] h from ?_)
          exact sv_S2 sv2_207 (fun q hq => absurd hq List.not_mem_nil) (key _ (if_pos c3).symm)
        · refine am_goX 2 (show pz_S 3 (some .boolean) am_r207 0 Q 15 [(0, .int y), (1, .int z), (2, .int w)] [.int (Int32.ofInt 1)] h from ?_)
          exact sv_S2 sv2_207 (fun q hq => absurd hq List.not_mem_nil) (key _ (if_neg c3).symm)
      intro v4 e5
      subst e5
      exact sv_S2 sv2_207 (fun q hq => absurd hq List.not_mem_nil) (key _ (if_neg c1).symm)
  intro v2 e6
  subst e6
  exact am_goX 1 (show (∃ ty, (some .boolean) = some ty ∧ narrow ty (.int (if y < z then Int32.ofInt 0 else (if w < y then Int32.ofInt 0 else Int32.ofInt 1))) = .int (if y < z then Int32.ofInt 0 else (if w < y then Int32.ofInt 0 else Int32.ofInt 1))) ∧ h.2.2.2.2 = 175 ∧ _ from ⟨⟨.boolean, rfl, (by (repeat' split) <;> rfl)⟩, ex_175 hP, hQ⟩)
theorem d_207_e (x y z : Int32) : d_207 x y z = d_60 x y z := rfl
def d_97_s (C : sp_C) (s : dS) (H : dH) : dS := (d_100_s C s (d_68 C (s.1 + (Int32.ofInt 1))))
def d_97_H (C : sp_C) (s : dS) (H : dH) : dH := (hP1 H s)
def d_97 (C : sp_C) (s : dS) (H : dH) : Int32 := d_100 C s (d_68 C (s.1 + (Int32.ofInt 1)))
theorem d_97_K6 (hP : ex_P h) (hI : cI C) (hT : c_v 6 C h) (hD : c_d 6 C h) (hR : h.2.2.1 0 3 = some 6) (hS : sC 36 s h) (hH : hC H h) (hM : mC M h) (hx : h.1 0 12 = nI x)  (hQ : ∀ h1, (ex_P h1) → (cI C) → (c_v 6 C h1) → (c_d 6 C h1) → (h1.2.2.1 0 3 = some 6) → (sC 36 (d_97_s C s H) h1) → (hC (d_97_H C s H) h1) → (mC M h1) → (h1.1 0 12 = nI x) → Q (some (.int (d_97 C s H))) h1) : am_call am_cod 8 97 [.ref 0] h Q := by
  have h6 := hT.1.2.1
  have h5 := hT.2.1.2.1
  refine pz_call (n := 97) (nL := 1) (rt := (some .int)) (rows := am_r97) (d := 7) (by decide +kernel) (by decide +kernel) rfl (by funext pc; rfl) (ex_175 hP) (by exact Nat.le_of_ble_eq_true rfl) ?_
  refine am_goX 2 (show am_sh h 0 = some (10, 0) ∧ pz_S 1 (some .int) am_r97 7 Q 4 [(0, .ref 0)] [am_rf (h.2.2.1 0 10)] h from ⟨ex_0 hP, ?_⟩)
  rw [show am_rf (h.2.2.1 0 10) = .ref 47 from congrArg am_rf (ex_r0_10 hP)]
  refine am_goX 2 (show am_sh h 0 = some (10, 0) ∧ pz_S 1 (some .int) am_r97 7 Q 8 [(0, .ref 0)] [am_rf (h.2.2.1 0 7), .ref 47] h from ⟨ex_0 hP, ?_⟩)
  rw [show am_rf (h.2.2.1 0 7) = .ref 36 from congrArg am_rf (ex_r0_7 hP)]
  refine am_goX 1 (show am_rc h 47 2 ∧ 0 ≤ 8 ∧ h.2.2.2.2 + am_al 98 ≤ 175 ∧ am_call am_cod 7 98 [.ref 47, .ref 36] h (fun vv h' => pz_S 1 (some .int) am_r97 7 Q 11 [(0, .ref 0)] (vv.toList ++ []) h') from ⟨Or.inl ⟨by decide, ex_47 hP⟩, by decide, ex_lim hP rfl, am_call.up (k_98 hP hS hH (fun h7 f8 f9 f10 f11 => ?_)) (by decide)⟩)
  have f12 : c_v 6 C h7 := c_v_fr (fun a k u1 u2 => f10 a k (by omega)) hT
  have f13 : c_d 6 C h7 := c_d_fr (fun k => f10 _ k (by omega)) hD
  have f14 : h7.2.2.1 0 3 = some 6 := (congrArg (fun q => q.2.1 0 3) f9).trans hR
  have f15 : sC 36 s h7 := sC_fr (fun a k u1 u2 => f10 a k (by omega)) hS
  have f16 : mC M h7 := mC_fr (fun a k u1 u2 => f10 a k (by omega)) hM
  have f17 : h7.1 0 12 = nI x := (f10 0 12 (by omega)).trans hx
  refine am_goX 2 (show am_sh h7 0 = some (10, 0) ∧ pz_S 1 (some .int) am_r97 7 Q 15 [(0, .ref 0)] [am_rf (h7.2.2.1 0 3)] h7 from ⟨ex_0 f8, ?_⟩)
  rw [show am_rf (h7.2.2.1 0 3) = .ref 6 from congrArg am_rf (f14)]
  refine am_goX 2 (show am_sh h7 0 = some (10, 0) ∧ pz_S 1 (some .int) am_r97 7 Q 19 [(0, .ref 0)] [am_rf (h7.2.2.1 0 7), .ref 6] h7 from ⟨ex_0 f8, ?_⟩)
  rw [show am_rf (h7.2.2.1 0 7) = .ref 36 from congrArg am_rf (ex_r0_7 f8)]
  refine am_goX 2 (show am_sh h7 0 = some (10, 0) ∧ pz_S 1 (some .int) am_r97 7 Q 23 [(0, .ref 0)] [am_rf (h7.2.2.1 0 3), .ref 36, .ref 6] h7 from ⟨ex_0 f8, ?_⟩)
  rw [show am_rf (h7.2.2.1 0 3) = .ref 6 from congrArg am_rf (f14)]
  refine am_goX 2 (show am_sh h7 0 = some (10, 0) ∧ pz_S 1 (some .int) am_r97 7 Q 27 [(0, .ref 0)] [am_rf (h7.2.2.1 0 7), .ref 6, .ref 36, .ref 6] h7 from ⟨ex_0 f8, ?_⟩)
  rw [show am_rf (h7.2.2.1 0 7) = .ref 36 from congrArg am_rf (ex_r0_7 f8)]
  refine am_goX 1 (show am_sh h7 36 = some (6, 0) ∧ pz_S 1 (some .int) am_r97 7 Q 30 [(0, .ref 0)] [.int (h7.1 36 0), .ref 6, .ref 36, .ref 6] h7 from ⟨ex_36 f8, ?_⟩)
  rw [show h7.1 36 0 = s.1 from f15.1.1]
  refine am_goX 3 (show am_rc h7 6 0 ∧ 2 ≤ 8 ∧ h7.2.2.2.2 + am_al 68 ≤ 175 ∧ am_call am_cod 7 68 [.ref 6, .int (s.1 + (Int32.ofInt 1))] h7 (fun vv h' => pz_S 1 (some .int) am_r97 7 Q 35 [(0, .ref 0)] (vv.toList ++ [.ref 36, .ref 6]) h') from ⟨Or.inl ⟨by decide, ex_6 f8⟩, by decide, ex_lim f8 rfl, am_call.up (d_68_t6 f8 f12 ?_) (by decide)⟩)
  refine am_goX 1 (show am_rc h7 6 0 ∧ 0 ≤ 8 ∧ h7.2.2.2.2 + am_al 100 ≤ 175 ∧ am_call am_cod 7 100 [.ref 6, .ref 36, .int (d_68 C (s.1 + (Int32.ofInt 1)))] h7 (fun vv h' => pz_S 1 (some .int) am_r97 7 Q 38 [(0, .ref 0)] (vv.toList ++ []) h') from ⟨Or.inl ⟨by decide, ex_6 f8⟩, by decide, ex_lim f8 rfl, am_call.up (d_100_t6_36 f8 hI f12 f13 f15 (fC_0 (c := 6) (h := h7)) (fun h18 f19 f20 f21 f22 f23 f24 => ?_)) (by decide)⟩)
  have f25 : h18.2.2.1 0 3 = some 6 := (congrArg (fun q => q.2.1 0 3) f24.1).trans f14
  have f26 : hC (hP1 H s) h18 := hC_fr (fun a k u1 u2 => f24.2 a k (by omega) (by omega)) f11
  have f27 : mC M h18 := mC_fr (fun a k u1 u2 => f24.2 a k (by omega) (by omega)) f16
  have f28 : h18.1 0 12 = nI x := (f24.2 0 12 (by omega) (by omega)).trans f17
  exact am_goX 1 (show (∃ ty, (some .int) = some ty ∧ narrow ty (.int (d_100 C s (d_68 C (s.1 + (Int32.ofInt 1))))) = .int (d_100 C s (d_68 C (s.1 + (Int32.ofInt 1))))) ∧ h18.2.2.2.2 = 175 ∧ _ from ⟨⟨.int, rfl, rfl⟩, ex_175 f19, hQ _ f19 f20 f21 f22 f25 f23 f26 f27 f28⟩)
def d_109_s (C : sp_C) (s : dS) (H : dH) (p l : Nat) : dS := sSL s p (nI l)
def d_109_H (C : sp_C) (s : dS) (H : dH) (p l : Nat) : dH := (hP1 H s)
def d_109 (C : sp_C) (s : dS) (H : dH) (p l : Nat) : Int32 := s.2.2.1 p
theorem d_109_K6 (hP : ex_P h) (hI : cI C) (hT : c_v 6 C h) (hD : c_d 6 C h) (hR : h.2.2.1 0 3 = some 6) (hS : sC 36 s h) (hH : hC H h) (hM : mC M h) (hx : h.1 0 12 = nI x) (hp : p < dP C) (hl : l < 5) (hQ : ∀ h1, (ex_P h1) → (cI C) → (c_v 6 C h1) → (c_d 6 C h1) → (h1.2.2.1 0 3 = some 6) → (sC 36 (d_109_s C s H p l) h1) → (hC (d_109_H C s H p l) h1) → (mC M h1) → (h1.1 0 12 = nI x) → Q (some (.int (d_109 C s H p l))) h1) : am_call am_cod 4 109 [.ref 0, .int (nI p), .int (nI l)] h Q := by
  have h6 := hT.1.2.1
  have h5 := hT.2.1.2.1
  refine pz_call (n := 109) (nL := 4) (rt := (some .int)) (rows := am_r109) (d := 3) (by decide +kernel) (by decide +kernel) rfl (by funext pc; rfl) (ex_175 hP) (by exact Nat.le_of_ble_eq_true rfl) ?_
  refine am_goX 3 (show am_rc h 0 10 ∧ 0 ≤ 8 ∧ h.2.2.2.2 + am_al 87 ≤ 175 ∧ am_call am_cod 3 87 [.ref 0, .int (nI p)] h (fun vv h' => pz_S 4 (some .int) am_r109 3 Q 5 [(0, .ref 0), (1, .int (nI p)), (2, .int (nI l))] (vv.toList ++ []) h') from ⟨Or.inl ⟨by decide, ex_0 hP⟩, by decide, ex_lim hP rfl, am_call.up (d_87_t6 hP hT hR ?_) (by decide)⟩)
  rw [show d_87 C (nI p) = Int32.ofInt 1 from (v_87 hp)]
  refine am_goX 1 (show ((Int32.ofInt 1) = 0 → pz_S 4 (some .int) am_r109 3 Q 17 [(0, .ref 0), (1, .int (nI p)), (2, .int (nI l))] [] h) ∧ (¬ ((Int32.ofInt 1) = 0) → pz_S 4 (some .int) am_r109 3 Q 8 [(0, .ref 0), (1, .int (nI p)), (2, .int (nI l))] [] h) from ⟨fun hz => absurd hz (by decide), fun _ => ?_⟩)
  refine am_goX 4 (show 0 ≤ 8 ∧ h.2.2.2.2 + am_al 60 ≤ 175 ∧ am_call am_cod 3 60 [.int (nI l), .int (Int32.ofInt 0), .int (Int32.ofInt 4)] h (fun vv h' => pz_S 4 (some .int) am_r109 3 Q 14 [(0, .ref 0), (1, .int (nI p)), (2, .int (nI l))] (vv.toList ++ []) h') from ⟨by decide, ex_lim hP rfl, am_call.up (d_60_w hP ?_) (by decide)⟩)
  rw [show d_60 (nI l) (Int32.ofInt 0) (Int32.ofInt 4) = Int32.ofInt 1 from (v_60 (lo := 0) (hi := 4) (by omega) (by omega) (by decide))]
  refine am_goX 1 (show (¬ (Int32.ofInt 1) = 0 → pz_S 4 (some .int) am_r109 3 Q 19 [(0, .ref 0), (1, .int (nI p)), (2, .int (nI l))] [] h) ∧ (¬ ¬ (Int32.ofInt 1) = 0 → pz_S 4 (some .int) am_r109 3 Q 17 [(0, .ref 0), (1, .int (nI p)), (2, .int (nI l))] [] h) from ⟨fun _ => ?_, fun hz => absurd (by decide) hz⟩)
  refine am_goX 2 (show am_sh h 0 = some (10, 0) ∧ pz_S 4 (some .int) am_r109 3 Q 23 [(0, .ref 0), (1, .int (nI p)), (2, .int (nI l))] [am_rf (h.2.2.1 0 10)] h from ⟨ex_0 hP, ?_⟩)
  rw [show am_rf (h.2.2.1 0 10) = .ref 47 from congrArg am_rf (ex_r0_10 hP)]
  refine am_goX 2 (show am_sh h 0 = some (10, 0) ∧ pz_S 4 (some .int) am_r109 3 Q 27 [(0, .ref 0), (1, .int (nI p)), (2, .int (nI l))] [am_rf (h.2.2.1 0 7), .ref 47] h from ⟨ex_0 hP, ?_⟩)
  rw [show am_rf (h.2.2.1 0 7) = .ref 36 from congrArg am_rf (ex_r0_7 hP)]
  refine am_goX 1 (show am_rc h 47 2 ∧ 0 ≤ 8 ∧ h.2.2.2.2 + am_al 98 ≤ 175 ∧ am_call am_cod 3 98 [.ref 47, .ref 36] h (fun vv h' => pz_S 4 (some .int) am_r109 3 Q 30 [(0, .ref 0), (1, .int (nI p)), (2, .int (nI l))] (vv.toList ++ []) h') from ⟨Or.inl ⟨by decide, ex_47 hP⟩, by decide, ex_lim hP rfl, am_call.up (k_98 hP hS hH (fun h29 f30 f31 f32 f33 => ?_)) (by decide)⟩)
  have f34 : c_v 6 C h29 := c_v_fr (fun a k u1 u2 => f32 a k (by omega)) hT
  have f35 : c_d 6 C h29 := c_d_fr (fun k => f32 _ k (by omega)) hD
  have f36 : h29.2.2.1 0 3 = some 6 := (congrArg (fun q => q.2.1 0 3) f31).trans hR
  have f37 : sC 36 s h29 := sC_fr (fun a k u1 u2 => f32 a k (by omega)) hS
  have f38 : mC M h29 := mC_fr (fun a k u1 u2 => f32 a k (by omega)) hM
  have f39 : h29.1 0 12 = nI x := (f32 0 12 (by omega)).trans hx
  refine am_goX 2 (show am_sh h29 0 = some (10, 0) ∧ pz_S 4 (some .int) am_r109 3 Q 34 [(0, .ref 0), (1, .int (nI p)), (2, .int (nI l))] [am_rf (h29.2.2.1 0 7)] h29 from ⟨ex_0 f30, ?_⟩)
  rw [show am_rf (h29.2.2.1 0 7) = .ref 36 from congrArg am_rf (ex_r0_7 f30)]
  refine am_goX 1 (show am_sh h29 36 = some (6, 0) ∧ pz_S 4 (some .int) am_r109 3 Q 37 [(0, .ref 0), (1, .int (nI p)), (2, .int (nI l))] [am_rf (h29.2.2.1 36 2)] h29 from ⟨ex_36 f30, ?_⟩)
  rw [show am_rf (h29.2.2.1 36 2) = .ref 37 from congrArg am_rf (ex_r36_2 f30)]
  refine am_goX 2 (show ∃ jj nn : Nat, am_sh h29 37 = some (13, nn) ∧ jj < nn ∧ nI p = nI jj ∧ pz_S 4 (some .int) am_r109 3 Q 39 [(0, .ref 0), (1, .int (nI p)), (2, .int (nI l))] [.int (h29.1 37 jj)] h29 from ⟨p, 6, ex_37 f30, (by omega), rfl, ?_⟩)
  rw [show h29.1 37 p = s.2.2.1 p from (f37.2.1 p (by omega)).1]
  refine am_goX 3 (show 3 < 4 ∧ am_sh h29 0 = some (10, 0) ∧ pz_S 4 (some .int) am_r109 3 Q 44 [(3, .int (s.2.2.1 p)), (0, .ref 0), (1, .int (nI p)), (2, .int (nI l))] [am_rf (h29.2.2.1 0 7)] h29 from ⟨by decide, ex_0 f30, ?_⟩)
  rw [show am_rf (h29.2.2.1 0 7) = .ref 36 from congrArg am_rf (ex_r0_7 f30)]
  refine am_goX 1 (show am_sh h29 36 = some (6, 0) ∧ pz_S 4 (some .int) am_r109 3 Q 47 [(3, .int (s.2.2.1 p)), (0, .ref 0), (1, .int (nI p)), (2, .int (nI l))] [am_rf (h29.2.2.1 36 2)] h29 from ⟨ex_36 f30, ?_⟩)
  rw [show am_rf (h29.2.2.1 36 2) = .ref 37 from congrArg am_rf (ex_r36_2 f30)]
  refine am_goX 3 (show ∃ jj nn : Nat, am_so h29 37 = some (13, nn) ∧ jj < nn ∧ nI p = nI jj ∧ pz_S 4 (some .int) am_r109 3 Q 50 [(3, .int (s.2.2.1 p)), (0, .ref 0), (1, .int (nI p)), (2, .int (nI l))] [] (am_wI h29 37 jj (nI l)) from ⟨p, 6, ex_w37 f30, (by omega), rfl, ?_⟩)
  have f41 : ex_P (am_wI h29 37 p (nI l)) := f30
  have f42 : cI C := hI
  have f43 : c_v 6 C (am_wI h29 37 p (nI l)) := c_v_w (by omega) f34
  have f44 : c_d 6 C (am_wI h29 37 p (nI l)) := c_d_w (by omega) f35
  have f45 : (am_wI h29 37 p (nI l)).2.2.1 0 3 = some 6 := f36
  have f46 : sC 36 (sSL s p (nI l)) (am_wI h29 37 p (nI l)) := sC_wL (by omega) f37
  have f47 : hC (hP1 H s) (am_wI h29 37 p (nI l)) := hC_w (by omega) f33
  have f48 : mC M (am_wI h29 37 p (nI l)) := mC_w (by omega) f38
  have f49 : (am_wI h29 37 p (nI l)).1 0 12 = nI x := (em_wn _ _ (by omega)).trans f39
  generalize am_wI h29 37 p (nI l) = h40 at f41 f42 f43 f44 f45 f46 f47 f48 f49 ⊢
  exact am_goX 2 (show (∃ ty, (some .int) = some ty ∧ narrow ty (.int (s.2.2.1 p)) = .int (s.2.2.1 p)) ∧ h40.2.2.2.2 = 175 ∧ _ from ⟨⟨.int, rfl, rfl⟩, ex_175 f41, hQ _ f41 f42 f43 f44 f45 f46 f47 f48 f49⟩)
def d_109x  : Int32 := Int32.ofInt (-1)
theorem d_109_xK6 (hP : ex_P h) (hI : cI C) (hT : c_v 6 C h) (hD : c_d 6 C h) (hR : h.2.2.1 0 3 = some 6) (hS : sC 36 s h) (hH : hC H h) (hM : mC M h) (hx : h.1 0 12 = nI x) (ey : d_87 C y = Int32.ofInt 0) (hQ : ∀ h1, (ex_P h1) → (cI C) → (c_v 6 C h1) → (c_d 6 C h1) → (h1.2.2.1 0 3 = some 6) → (sC 36 s h1) → (hC H h1) → (mC M h1) → (h1.1 0 12 = nI x) → Q (some (.int d_109x)) h1) : am_call am_cod 4 109 [.ref 0, .int y, .int w] h Q := by
  have h6 := hT.1.2.1
  have h5 := hT.2.1.2.1
  refine pz_call (n := 109) (nL := 4) (rt := (some .int)) (rows := am_r109) (d := 3) (by decide +kernel) (by decide +kernel) rfl (by funext pc; rfl) (ex_175 hP) (by exact Nat.le_of_ble_eq_true rfl) ?_
  refine am_goX 3 (show am_rc h 0 10 ∧ 0 ≤ 8 ∧ h.2.2.2.2 + am_al 87 ≤ 175 ∧ am_call am_cod 3 87 [.ref 0, .int y] h (fun vv h' => pz_S 4 (some .int) am_r109 3 Q 5 [(0, .ref 0), (1, .int y), (2, .int w)] (vv.toList ++ []) h') from ⟨Or.inl ⟨by decide, ex_0 hP⟩, by decide, ex_lim hP rfl, am_call.up (d_87_t6 hP hT hR ?_) (by decide)⟩)
  rw [show d_87 C y = Int32.ofInt 0 from ey]
  refine am_goX 1 (show ((Int32.ofInt 0) = 0 → pz_S 4 (some .int) am_r109 3 Q 17 [(0, .ref 0), (1, .int y), (2, .int w)] [] h) ∧ (¬ ((Int32.ofInt 0) = 0) → pz_S 4 (some .int) am_r109 3 Q 8 [(0, .ref 0), (1, .int y), (2, .int w)] [] h) from ⟨fun _ => ?_, fun hz => absurd (by decide) hz⟩)
  exact am_goX 2 (show (∃ ty, (some .int) = some ty ∧ narrow ty (.int (Int32.ofInt (-1))) = .int (Int32.ofInt (-1))) ∧ h.2.2.2.2 = 175 ∧ _ from ⟨⟨.int, rfl, rfl⟩, ex_175 hP, hQ _ hP hI hT hD hR hS hH hM hx⟩)
theorem d_109_yK6 (hP : ex_P h) (hI : cI C) (hT : c_v 6 C h) (hD : c_d 6 C h) (hR : h.2.2.1 0 3 = some 6) (hS : sC 36 s h) (hH : hC H h) (hM : mC M h) (hx : h.1 0 12 = nI x) (hp : p < dP C) (ew : d_60 w (Int32.ofInt 0) (Int32.ofInt 4) = Int32.ofInt 0) (hQ : ∀ h1, (ex_P h1) → (cI C) → (c_v 6 C h1) → (c_d 6 C h1) → (h1.2.2.1 0 3 = some 6) → (sC 36 s h1) → (hC H h1) → (mC M h1) → (h1.1 0 12 = nI x) → Q (some (.int d_109x)) h1) : am_call am_cod 4 109 [.ref 0, .int (nI p), .int w] h Q := by
  have h6 := hT.1.2.1
  have h5 := hT.2.1.2.1
  refine pz_call (n := 109) (nL := 4) (rt := (some .int)) (rows := am_r109) (d := 3) (by decide +kernel) (by decide +kernel) rfl (by funext pc; rfl) (ex_175 hP) (by exact Nat.le_of_ble_eq_true rfl) ?_
  refine am_goX 3 (show am_rc h 0 10 ∧ 0 ≤ 8 ∧ h.2.2.2.2 + am_al 87 ≤ 175 ∧ am_call am_cod 3 87 [.ref 0, .int (nI p)] h (fun vv h' => pz_S 4 (some .int) am_r109 3 Q 5 [(0, .ref 0), (1, .int (nI p)), (2, .int w)] (vv.toList ++ []) h') from ⟨Or.inl ⟨by decide, ex_0 hP⟩, by decide, ex_lim hP rfl, am_call.up (d_87_t6 hP hT hR ?_) (by decide)⟩)
  rw [show d_87 C (nI p) = Int32.ofInt 1 from (v_87 hp)]
  refine am_goX 1 (show ((Int32.ofInt 1) = 0 → pz_S 4 (some .int) am_r109 3 Q 17 [(0, .ref 0), (1, .int (nI p)), (2, .int w)] [] h) ∧ (¬ ((Int32.ofInt 1) = 0) → pz_S 4 (some .int) am_r109 3 Q 8 [(0, .ref 0), (1, .int (nI p)), (2, .int w)] [] h) from ⟨fun hz => absurd hz (by decide), fun _ => ?_⟩)
  refine am_goX 4 (show 0 ≤ 8 ∧ h.2.2.2.2 + am_al 60 ≤ 175 ∧ am_call am_cod 3 60 [.int w, .int (Int32.ofInt 0), .int (Int32.ofInt 4)] h (fun vv h' => pz_S 4 (some .int) am_r109 3 Q 14 [(0, .ref 0), (1, .int (nI p)), (2, .int w)] (vv.toList ++ []) h') from ⟨by decide, ex_lim hP rfl, am_call.up (d_60_w hP ?_) (by decide)⟩)
  rw [show d_60 w (Int32.ofInt 0) (Int32.ofInt 4) = Int32.ofInt 0 from ew]
  refine am_goX 1 (show (¬ (Int32.ofInt 0) = 0 → pz_S 4 (some .int) am_r109 3 Q 19 [(0, .ref 0), (1, .int (nI p)), (2, .int w)] [] h) ∧ (¬ ¬ (Int32.ofInt 0) = 0 → pz_S 4 (some .int) am_r109 3 Q 17 [(0, .ref 0), (1, .int (nI p)), (2, .int w)] [] h) from ⟨fun hz => absurd hz (by decide), fun _ => ?_⟩)
  exact am_goX 2 (show (∃ ty, (some .int) = some ty ∧ narrow ty (.int (Int32.ofInt (-1))) = .int (Int32.ofInt (-1))) ∧ h.2.2.2.2 = 175 ∧ _ from ⟨⟨.int, rfl, rfl⟩, ex_175 hP, hQ _ hP hI hT hD hR hS hH hM hx⟩)
def d_111_s (s : dS) (p : Nat) : dS := sSX (sSL s p (Int32.ofInt 2)) (((sSL s p (Int32.ofInt 2)).2.1) + (Int32.ofInt 1))
theorem d_111_K6 (hP : ex_P h) (hI : cI C) (hT : c_v 6 C h) (hD : c_d 6 C h) (hR : h.2.2.1 0 3 = some 6) (hS : sC 36 s h) (hH : hC H h) (hM : mC M h) (hx : h.1 0 12 = nI x) (hp : p < dP C) (hQ : ∀ h1, (ex_P h1) → (cI C) → (c_v 6 C h1) → (c_d 6 C h1) → (h1.2.2.1 0 3 = some 6) → (sC 36 (d_111_s s p) h1) → (hC H h1) → (mC M h1) → (h1.1 0 12 = nI x) → Q none h1) : am_call am_cod 1 111 [.ref 36, .int (nI p)] h Q := by
  have h6 := hT.1.2.1
  have h5 := hT.2.1.2.1
  refine pz_call (n := 111) (nL := 2) (rt := none) (rows := am_r111) (d := 0) (by decide +kernel) (by decide +kernel) rfl (by funext pc; rfl) (ex_175 hP) (by exact Nat.le_of_ble_eq_true rfl) ?_
  refine am_goX 2 (show am_sh h 36 = some (6, 0) ∧ pz_S 2 none am_r111 0 Q 4 [(0, .ref 36), (1, .int (nI p))] [am_rf (h.2.2.1 36 2)] h from ⟨ex_36 hP, ?_⟩)
  rw [show am_rf (h.2.2.1 36 2) = .ref 37 from congrArg am_rf (ex_r36_2 hP)]
  refine am_goX 3 (show ∃ jj nn : Nat, am_so h 37 = some (13, nn) ∧ jj < nn ∧ nI p = nI jj ∧ pz_S 2 none am_r111 0 Q 7 [(0, .ref 36), (1, .int (nI p))] [] (am_wI h 37 jj (Int32.ofInt 2)) from ⟨p, 6, ex_w37 hP, (by omega), rfl, ?_⟩)
  have f51 : ex_P (am_wI h 37 p (Int32.ofInt 2)) := hP
  have f52 : cI C := hI
  have f53 : c_v 6 C (am_wI h 37 p (Int32.ofInt 2)) := c_v_w (by omega) hT
  have f54 : c_d 6 C (am_wI h 37 p (Int32.ofInt 2)) := c_d_w (by omega) hD
  have f55 : (am_wI h 37 p (Int32.ofInt 2)).2.2.1 0 3 = some 6 := hR
  have f56 : sC 36 (sSL s p (Int32.ofInt 2)) (am_wI h 37 p (Int32.ofInt 2)) := sC_wL (by omega) hS
  have f57 : hC H (am_wI h 37 p (Int32.ofInt 2)) := hC_w (by omega) hH
  have f58 : mC M (am_wI h 37 p (Int32.ofInt 2)) := mC_w (by omega) hM
  have f59 : (am_wI h 37 p (Int32.ofInt 2)).1 0 12 = nI x := (em_wn _ _ (by omega)).trans hx
  generalize am_wI h 37 p (Int32.ofInt 2) = h50 at f51 f52 f53 f54 f55 f56 f57 f58 f59 ⊢
  refine am_goX 3 (show (Value.ref 36).category = 1 ∧ am_sh h50 36 = some (6, 0) ∧ pz_S 2 none am_r111 0 Q 12 [(0, .ref 36), (1, .int (nI p))] [.int (h50.1 36 1), .ref 36] h50 from ⟨rfl, ex_36 f51, ?_⟩)
  rw [show h50.1 36 1 = (sSL s p (Int32.ofInt 2)).2.1 from f56.1.2]
  refine am_goX 3 (show am_sh h50 36 = some (6, 0) ∧ narrow (am_fty 6 1) (.int (((sSL s p (Int32.ofInt 2)).2.1) + (Int32.ofInt 1))) = .int (((sSL s p (Int32.ofInt 2)).2.1) + (Int32.ofInt 1)) ∧ fits (am_fty 6 1) (.int (((sSL s p (Int32.ofInt 2)).2.1) + (Int32.ofInt 1))) = true ∧ pz_S 2 none am_r111 0 Q 17 [(0, .ref 36), (1, .int (nI p))] [] (am_wI h50 36 1 (((sSL s p (Int32.ofInt 2)).2.1) + (Int32.ofInt 1))) from ⟨ex_36 f51, rfl, rfl, ?_⟩)
  have f61 : ex_P (am_wI h50 36 1 (((sSL s p (Int32.ofInt 2)).2.1) + (Int32.ofInt 1))) := f51
  have f62 : cI C := f52
  have f63 : c_v 6 C (am_wI h50 36 1 (((sSL s p (Int32.ofInt 2)).2.1) + (Int32.ofInt 1))) := c_v_w (by omega) f53
  have f64 : c_d 6 C (am_wI h50 36 1 (((sSL s p (Int32.ofInt 2)).2.1) + (Int32.ofInt 1))) := c_d_w (by omega) f54
  have f65 : (am_wI h50 36 1 (((sSL s p (Int32.ofInt 2)).2.1) + (Int32.ofInt 1))).2.2.1 0 3 = some 6 := f55
  have f66 : sC 36 (sSX (sSL s p (Int32.ofInt 2)) (((sSL s p (Int32.ofInt 2)).2.1) + (Int32.ofInt 1))) (am_wI h50 36 1 (((sSL s p (Int32.ofInt 2)).2.1) + (Int32.ofInt 1))) := sC_wX (by omega) f56
  have f67 : hC H (am_wI h50 36 1 (((sSL s p (Int32.ofInt 2)).2.1) + (Int32.ofInt 1))) := hC_w (by omega) f57
  have f68 : mC M (am_wI h50 36 1 (((sSL s p (Int32.ofInt 2)).2.1) + (Int32.ofInt 1))) := mC_w (by omega) f58
  have f69 : (am_wI h50 36 1 (((sSL s p (Int32.ofInt 2)).2.1) + (Int32.ofInt 1))).1 0 12 = nI x := (em_wn _ _ (by omega)).trans f59
  generalize am_wI h50 36 1 (((sSL s p (Int32.ofInt 2)).2.1) + (Int32.ofInt 1)) = h60 at f61 f62 f63 f64 f65 f66 f67 f68 f69 ⊢
  exact am_goX 1 (show (none : Option FieldType) = none ∧ h60.2.2.2.2 = 175 ∧ _ from ⟨rfl, ex_175 f61, hQ _ f61 f62 f63 f64 f65 f66 f67 f68 f69⟩)
def d_110_s (C : sp_C) (s : dS) (H : dH) (p : Nat) : dS := d_111_s s p
def d_110_H (C : sp_C) (s : dS) (H : dH) (p : Nat) : dH := (hP1 H s)
def d_110 (C : sp_C) (s : dS) (H : dH) (p : Nat) : Int32 := (d_111_s s p).2.1
theorem d_110_K6 (hP : ex_P h) (hI : cI C) (hT : c_v 6 C h) (hD : c_d 6 C h) (hR : h.2.2.1 0 3 = some 6) (hS : sC 36 s h) (hH : hC H h) (hM : mC M h) (hx : h.1 0 12 = nI x) (hp : p < dP C) (hQ : ∀ h1, (ex_P h1) → (cI C) → (c_v 6 C h1) → (c_d 6 C h1) → (h1.2.2.1 0 3 = some 6) → (sC 36 (d_110_s C s H p) h1) → (hC (d_110_H C s H p) h1) → (mC M h1) → (h1.1 0 12 = nI x) → Q (some (.int (d_110 C s H p))) h1) : am_call am_cod 4 110 [.ref 0, .int (nI p)] h Q := by
  have h6 := hT.1.2.1
  have h5 := hT.2.1.2.1
  refine pz_call (n := 110) (nL := 2) (rt := (some .int)) (rows := am_r110) (d := 3) (by decide +kernel) (by decide +kernel) rfl (by funext pc; rfl) (ex_175 hP) (by exact Nat.le_of_ble_eq_true rfl) ?_
  refine am_goX 3 (show am_rc h 0 10 ∧ 0 ≤ 8 ∧ h.2.2.2.2 + am_al 87 ≤ 175 ∧ am_call am_cod 3 87 [.ref 0, .int (nI p)] h (fun vv h' => pz_S 2 (some .int) am_r110 3 Q 5 [(0, .ref 0), (1, .int (nI p))] (vv.toList ++ []) h') from ⟨Or.inl ⟨by decide, ex_0 hP⟩, by decide, ex_lim hP rfl, am_call.up (d_87_t6 hP hT hR ?_) (by decide)⟩)
  rw [show d_87 C (nI p) = Int32.ofInt 1 from (v_87 hp)]
  refine am_goX 1 (show (¬ (Int32.ofInt 1) = 0 → pz_S 2 (some .int) am_r110 3 Q 10 [(0, .ref 0), (1, .int (nI p))] [] h) ∧ (¬ ¬ (Int32.ofInt 1) = 0 → pz_S 2 (some .int) am_r110 3 Q 8 [(0, .ref 0), (1, .int (nI p))] [] h) from ⟨fun _ => ?_, fun hz => absurd (by decide) hz⟩)
  refine am_goX 2 (show am_sh h 0 = some (10, 0) ∧ pz_S 2 (some .int) am_r110 3 Q 14 [(0, .ref 0), (1, .int (nI p))] [am_rf (h.2.2.1 0 10)] h from ⟨ex_0 hP, ?_⟩)
  rw [show am_rf (h.2.2.1 0 10) = .ref 47 from congrArg am_rf (ex_r0_10 hP)]
  refine am_goX 2 (show am_sh h 0 = some (10, 0) ∧ pz_S 2 (some .int) am_r110 3 Q 18 [(0, .ref 0), (1, .int (nI p))] [am_rf (h.2.2.1 0 7), .ref 47] h from ⟨ex_0 hP, ?_⟩)
  rw [show am_rf (h.2.2.1 0 7) = .ref 36 from congrArg am_rf (ex_r0_7 hP)]
  refine am_goX 1 (show am_rc h 47 2 ∧ 0 ≤ 8 ∧ h.2.2.2.2 + am_al 98 ≤ 175 ∧ am_call am_cod 3 98 [.ref 47, .ref 36] h (fun vv h' => pz_S 2 (some .int) am_r110 3 Q 21 [(0, .ref 0), (1, .int (nI p))] (vv.toList ++ []) h') from ⟨Or.inl ⟨by decide, ex_47 hP⟩, by decide, ex_lim hP rfl, am_call.up (k_98 hP hS hH (fun h70 f71 f72 f73 f74 => ?_)) (by decide)⟩)
  have f75 : c_v 6 C h70 := c_v_fr (fun a k u1 u2 => f73 a k (by omega)) hT
  have f76 : c_d 6 C h70 := c_d_fr (fun k => f73 _ k (by omega)) hD
  have f77 : h70.2.2.1 0 3 = some 6 := (congrArg (fun q => q.2.1 0 3) f72).trans hR
  have f78 : sC 36 s h70 := sC_fr (fun a k u1 u2 => f73 a k (by omega)) hS
  have f79 : mC M h70 := mC_fr (fun a k u1 u2 => f73 a k (by omega)) hM
  have f80 : h70.1 0 12 = nI x := (f73 0 12 (by omega)).trans hx
  refine am_goX 2 (show am_sh h70 0 = some (10, 0) ∧ pz_S 2 (some .int) am_r110 3 Q 25 [(0, .ref 0), (1, .int (nI p))] [am_rf (h70.2.2.1 0 7)] h70 from ⟨ex_0 f71, ?_⟩)
  rw [show am_rf (h70.2.2.1 0 7) = .ref 36 from congrArg am_rf (ex_r0_7 f71)]
  refine am_goX 2 (show am_rc h70 36 6 ∧ 0 ≤ 8 ∧ h70.2.2.2.2 + am_al 111 ≤ 175 ∧ am_call am_cod 3 111 [.ref 36, .int (nI p)] h70 (fun vv h' => pz_S 2 (some .int) am_r110 3 Q 29 [(0, .ref 0), (1, .int (nI p))] (vv.toList ++ []) h') from ⟨Or.inl ⟨by decide, ex_36 f71⟩, by decide, ex_lim f71 rfl, am_call.up (d_111_K6 f71 hI f75 f76 f77 f78 f74 f79 f80 (by omega) (fun h81 f82 f83 f84 f85 f86 f87 f88 f89 f90 => ?_)) (by decide)⟩)
  refine am_goX 2 (show am_sh h81 0 = some (10, 0) ∧ pz_S 2 (some .int) am_r110 3 Q 33 [(0, .ref 0), (1, .int (nI p))] [am_rf (h81.2.2.1 0 7)] h81 from ⟨ex_0 f82, ?_⟩)
  rw [show am_rf (h81.2.2.1 0 7) = .ref 36 from congrArg am_rf (ex_r0_7 f82)]
  refine am_goX 1 (show am_sh h81 36 = some (6, 0) ∧ pz_S 2 (some .int) am_r110 3 Q 36 [(0, .ref 0), (1, .int (nI p))] [.int (h81.1 36 1)] h81 from ⟨ex_36 f82, ?_⟩)
  rw [show h81.1 36 1 = (d_111_s s p).2.1 from f87.1.2]
  exact am_goX 1 (show (∃ ty, (some .int) = some ty ∧ narrow ty (.int ((d_111_s s p).2.1)) = .int ((d_111_s s p).2.1)) ∧ h81.2.2.2.2 = 175 ∧ _ from ⟨⟨.int, rfl, rfl⟩, ex_175 f82, hQ _ f82 f83 f84 f85 f86 f87 f88 f89 f90⟩)
def d_110x  : Int32 := Int32.ofInt (-1)
theorem d_110_xK6 (hP : ex_P h) (hI : cI C) (hT : c_v 6 C h) (hD : c_d 6 C h) (hR : h.2.2.1 0 3 = some 6) (hS : sC 36 s h) (hH : hC H h) (hM : mC M h) (hx : h.1 0 12 = nI x) (ey : d_87 C y = Int32.ofInt 0) (hQ : ∀ h1, (ex_P h1) → (cI C) → (c_v 6 C h1) → (c_d 6 C h1) → (h1.2.2.1 0 3 = some 6) → (sC 36 s h1) → (hC H h1) → (mC M h1) → (h1.1 0 12 = nI x) → Q (some (.int d_110x)) h1) : am_call am_cod 4 110 [.ref 0, .int y] h Q := by
  have h6 := hT.1.2.1
  have h5 := hT.2.1.2.1
  refine pz_call (n := 110) (nL := 2) (rt := (some .int)) (rows := am_r110) (d := 3) (by decide +kernel) (by decide +kernel) rfl (by funext pc; rfl) (ex_175 hP) (by exact Nat.le_of_ble_eq_true rfl) ?_
  refine am_goX 3 (show am_rc h 0 10 ∧ 0 ≤ 8 ∧ h.2.2.2.2 + am_al 87 ≤ 175 ∧ am_call am_cod 3 87 [.ref 0, .int y] h (fun vv h' => pz_S 2 (some .int) am_r110 3 Q 5 [(0, .ref 0), (1, .int y)] (vv.toList ++ []) h') from ⟨Or.inl ⟨by decide, ex_0 hP⟩, by decide, ex_lim hP rfl, am_call.up (d_87_t6 hP hT hR ?_) (by decide)⟩)
  rw [show d_87 C y = Int32.ofInt 0 from ey]
  refine am_goX 1 (show (¬ (Int32.ofInt 0) = 0 → pz_S 2 (some .int) am_r110 3 Q 10 [(0, .ref 0), (1, .int y)] [] h) ∧ (¬ ¬ (Int32.ofInt 0) = 0 → pz_S 2 (some .int) am_r110 3 Q 8 [(0, .ref 0), (1, .int y)] [] h) from ⟨fun hz => absurd hz (by decide), fun _ => ?_⟩)
  exact am_goX 2 (show (∃ ty, (some .int) = some ty ∧ narrow ty (.int (Int32.ofInt (-1))) = .int (Int32.ofInt (-1))) ∧ h.2.2.2.2 = 175 ∧ _ from ⟨⟨.int, rfl, rfl⟩, ex_175 hP, hQ _ hP hI hT hD hR hS hH hM hx⟩)
def d_112_s (H : dH) : dS := (H.2 0)
def d_112_H (H : dH) : dH := (hP0 H)
def d_112 (H : dH) : Int32 := Int32.ofInt 1
theorem d_112_K6 (hP : ex_P h) (hI : cI C) (hT : c_v 6 C h) (hD : c_d 6 C h) (hR : h.2.2.1 0 3 = some 6) (hS : sC 36 s h) (hH : hC H h) (hM : mC M h) (hx : h.1 0 12 = nI x) (hn : 0 < H.1) (hQ : ∀ h1, (ex_P h1) → (cI C) → (c_v 6 C h1) → (c_d 6 C h1) → (h1.2.2.1 0 3 = some 6) → (sC 36 (d_112_s H) h1) → (hC (d_112_H H) h1) → (mC M h1) → (h1.1 0 12 = nI x) → Q (some (.int (d_112 H))) h1) : am_call am_cod 3 112 [.ref 0] h Q := by
  have h6 := hT.1.2.1
  have h5 := hT.2.1.2.1
  refine pz_call (n := 112) (nL := 1) (rt := (some .boolean)) (rows := am_r112) (d := 2) (by decide +kernel) (by decide +kernel) rfl (by funext pc; rfl) (ex_175 hP) (by exact Nat.le_of_ble_eq_true rfl) ?_
  refine am_goX 2 (show am_sh h 0 = some (10, 0) ∧ pz_S 1 (some .boolean) am_r112 2 Q 4 [(0, .ref 0)] [am_rf (h.2.2.1 0 10)] h from ⟨ex_0 hP, ?_⟩)
  rw [show am_rf (h.2.2.1 0 10) = .ref 47 from congrArg am_rf (ex_r0_10 hP)]
  refine am_goX 2 (show am_sh h 0 = some (10, 0) ∧ pz_S 1 (some .boolean) am_r112 2 Q 8 [(0, .ref 0)] [am_rf (h.2.2.1 0 7), .ref 47] h from ⟨ex_0 hP, ?_⟩)
  rw [show am_rf (h.2.2.1 0 7) = .ref 36 from congrArg am_rf (ex_r0_7 hP)]
  refine am_goX 1 (show am_rc h 47 2 ∧ 0 ≤ 8 ∧ h.2.2.2.2 + am_al 113 ≤ 175 ∧ am_call am_cod 2 113 [.ref 47, .ref 36] h (fun vv h' => pz_S 1 (some .boolean) am_r112 2 Q 11 [(0, .ref 0)] (vv.toList ++ []) h') from ⟨Or.inl ⟨by decide, ex_47 hP⟩, by decide, ex_lim hP rfl, am_call.up (k_113 hn hP hH (fun h91 f92 f93 f94 f95 f96 => ?_)) (by decide)⟩)
  have f97 : c_v 6 C h91 := c_v_fr (fun a k u1 u2 => f94 a k (by omega) (by omega)) hT
  have f98 : c_d 6 C h91 := c_d_fr (fun k => f94 _ k (by omega) (by omega)) hD
  have f99 : h91.2.2.1 0 3 = some 6 := (congrArg (fun q => q.2.1 0 3) f93).trans hR
  have f100 : mC M h91 := mC_fr (fun a k u1 u2 => f94 a k (by omega) (by omega)) hM
  have f101 : h91.1 0 12 = nI x := (f94 0 12 (by omega) (by omega)).trans hx
  exact am_goX 1 (show (∃ ty, (some .boolean) = some ty ∧ narrow ty (.int (Int32.ofInt 1)) = .int (Int32.ofInt 1)) ∧ h91.2.2.2.2 = 175 ∧ _ from ⟨⟨.boolean, rfl, rfl⟩, ex_175 f92, hQ _ f92 hI f97 f98 f99 f96 f95 f100 f101⟩)
def d_112z  : Int32 := Int32.ofInt 0
theorem d_112_zK6 (hP : ex_P h) (hI : cI C) (hT : c_v 6 C h) (hD : c_d 6 C h) (hR : h.2.2.1 0 3 = some 6) (hS : sC 36 s h) (hH : hC H h) (hM : mC M h) (hx : h.1 0 12 = nI x) (hn : H.1 = 0) (hQ : ∀ h1, (ex_P h1) → (cI C) → (c_v 6 C h1) → (c_d 6 C h1) → (h1.2.2.1 0 3 = some 6) → (sC 36 s h1) → (hC H h1) → (mC M h1) → (h1.1 0 12 = nI x) → Q (some (.int d_112z)) h1) : am_call am_cod 3 112 [.ref 0] h Q := by
  have h6 := hT.1.2.1
  have h5 := hT.2.1.2.1
  refine pz_call (n := 112) (nL := 1) (rt := (some .boolean)) (rows := am_r112) (d := 2) (by decide +kernel) (by decide +kernel) rfl (by funext pc; rfl) (ex_175 hP) (by exact Nat.le_of_ble_eq_true rfl) ?_
  refine am_goX 2 (show am_sh h 0 = some (10, 0) ∧ pz_S 1 (some .boolean) am_r112 2 Q 4 [(0, .ref 0)] [am_rf (h.2.2.1 0 10)] h from ⟨ex_0 hP, ?_⟩)
  rw [show am_rf (h.2.2.1 0 10) = .ref 47 from congrArg am_rf (ex_r0_10 hP)]
  refine am_goX 2 (show am_sh h 0 = some (10, 0) ∧ pz_S 1 (some .boolean) am_r112 2 Q 8 [(0, .ref 0)] [am_rf (h.2.2.1 0 7), .ref 47] h from ⟨ex_0 hP, ?_⟩)
  rw [show am_rf (h.2.2.1 0 7) = .ref 36 from congrArg am_rf (ex_r0_7 hP)]
  refine am_goX 1 (show am_rc h 47 2 ∧ 0 ≤ 8 ∧ h.2.2.2.2 + am_al 113 ≤ 175 ∧ am_call am_cod 2 113 [.ref 47, .ref 36] h (fun vv h' => pz_S 1 (some .boolean) am_r112 2 Q 11 [(0, .ref 0)] (vv.toList ++ []) h') from ⟨Or.inl ⟨by decide, ex_47 hP⟩, by decide, ex_lim hP rfl, am_call.up (k_113z hn hP hH ?_) (by decide)⟩)
  exact am_goX 1 (show (∃ ty, (some .boolean) = some ty ∧ narrow ty (.int (Int32.ofInt 0)) = .int (Int32.ofInt 0)) ∧ h.2.2.2.2 = 175 ∧ _ from ⟨⟨.boolean, rfl, rfl⟩, ex_175 hP, hQ _ hP hI hT hD hR hS hH hM hx⟩)
theorem d_97_K17 (hP : ex_P h) (hI : cI C) (hT : c_v 17 C h) (hD : c_d 17 C h) (hR : h.2.2.1 0 3 = some 17) (hS : sC 36 s h) (hH : hC H h) (hM : mC M h) (hx : h.1 0 12 = nI x)  (hQ : ∀ h1, (ex_P h1) → (cI C) → (c_v 17 C h1) → (c_d 17 C h1) → (h1.2.2.1 0 3 = some 17) → (sC 36 (d_97_s C s H) h1) → (hC (d_97_H C s H) h1) → (mC M h1) → (h1.1 0 12 = nI x) → Q (some (.int (d_97 C s H))) h1) : am_call am_cod 8 97 [.ref 0] h Q := by
  have h6 := hT.1.2.1
  have h5 := hT.2.1.2.1
  refine pz_call (n := 97) (nL := 1) (rt := (some .int)) (rows := am_r97) (d := 7) (by decide +kernel) (by decide +kernel) rfl (by funext pc; rfl) (ex_175 hP) (by exact Nat.le_of_ble_eq_true rfl) ?_
  refine am_goX 2 (show am_sh h 0 = some (10, 0) ∧ pz_S 1 (some .int) am_r97 7 Q 4 [(0, .ref 0)] [am_rf (h.2.2.1 0 10)] h from ⟨ex_0 hP, ?_⟩)
  rw [show am_rf (h.2.2.1 0 10) = .ref 47 from congrArg am_rf (ex_r0_10 hP)]
  refine am_goX 2 (show am_sh h 0 = some (10, 0) ∧ pz_S 1 (some .int) am_r97 7 Q 8 [(0, .ref 0)] [am_rf (h.2.2.1 0 7), .ref 47] h from ⟨ex_0 hP, ?_⟩)
  rw [show am_rf (h.2.2.1 0 7) = .ref 36 from congrArg am_rf (ex_r0_7 hP)]
  refine am_goX 1 (show am_rc h 47 2 ∧ 0 ≤ 8 ∧ h.2.2.2.2 + am_al 98 ≤ 175 ∧ am_call am_cod 7 98 [.ref 47, .ref 36] h (fun vv h' => pz_S 1 (some .int) am_r97 7 Q 11 [(0, .ref 0)] (vv.toList ++ []) h') from ⟨Or.inl ⟨by decide, ex_47 hP⟩, by decide, ex_lim hP rfl, am_call.up (k_98 hP hS hH (fun h102 f103 f104 f105 f106 => ?_)) (by decide)⟩)
  have f107 : c_v 17 C h102 := c_v_fr (fun a k u1 u2 => f105 a k (by omega)) hT
  have f108 : c_d 17 C h102 := c_d_fr (fun k => f105 _ k (by omega)) hD
  have f109 : h102.2.2.1 0 3 = some 17 := (congrArg (fun q => q.2.1 0 3) f104).trans hR
  have f110 : sC 36 s h102 := sC_fr (fun a k u1 u2 => f105 a k (by omega)) hS
  have f111 : mC M h102 := mC_fr (fun a k u1 u2 => f105 a k (by omega)) hM
  have f112 : h102.1 0 12 = nI x := (f105 0 12 (by omega)).trans hx
  refine am_goX 2 (show am_sh h102 0 = some (10, 0) ∧ pz_S 1 (some .int) am_r97 7 Q 15 [(0, .ref 0)] [am_rf (h102.2.2.1 0 3)] h102 from ⟨ex_0 f103, ?_⟩)
  rw [show am_rf (h102.2.2.1 0 3) = .ref 17 from congrArg am_rf (f109)]
  refine am_goX 2 (show am_sh h102 0 = some (10, 0) ∧ pz_S 1 (some .int) am_r97 7 Q 19 [(0, .ref 0)] [am_rf (h102.2.2.1 0 7), .ref 17] h102 from ⟨ex_0 f103, ?_⟩)
  rw [show am_rf (h102.2.2.1 0 7) = .ref 36 from congrArg am_rf (ex_r0_7 f103)]
  refine am_goX 2 (show am_sh h102 0 = some (10, 0) ∧ pz_S 1 (some .int) am_r97 7 Q 23 [(0, .ref 0)] [am_rf (h102.2.2.1 0 3), .ref 36, .ref 17] h102 from ⟨ex_0 f103, ?_⟩)
  rw [show am_rf (h102.2.2.1 0 3) = .ref 17 from congrArg am_rf (f109)]
  refine am_goX 2 (show am_sh h102 0 = some (10, 0) ∧ pz_S 1 (some .int) am_r97 7 Q 27 [(0, .ref 0)] [am_rf (h102.2.2.1 0 7), .ref 17, .ref 36, .ref 17] h102 from ⟨ex_0 f103, ?_⟩)
  rw [show am_rf (h102.2.2.1 0 7) = .ref 36 from congrArg am_rf (ex_r0_7 f103)]
  refine am_goX 1 (show am_sh h102 36 = some (6, 0) ∧ pz_S 1 (some .int) am_r97 7 Q 30 [(0, .ref 0)] [.int (h102.1 36 0), .ref 17, .ref 36, .ref 17] h102 from ⟨ex_36 f103, ?_⟩)
  rw [show h102.1 36 0 = s.1 from f110.1.1]
  refine am_goX 3 (show am_rc h102 17 0 ∧ 2 ≤ 8 ∧ h102.2.2.2.2 + am_al 68 ≤ 175 ∧ am_call am_cod 7 68 [.ref 17, .int (s.1 + (Int32.ofInt 1))] h102 (fun vv h' => pz_S 1 (some .int) am_r97 7 Q 35 [(0, .ref 0)] (vv.toList ++ [.ref 36, .ref 17]) h') from ⟨Or.inl ⟨by decide, ex_17 f103⟩, by decide, ex_lim f103 rfl, am_call.up (d_68_t17 f103 f107 ?_) (by decide)⟩)
  refine am_goX 1 (show am_rc h102 17 0 ∧ 0 ≤ 8 ∧ h102.2.2.2.2 + am_al 100 ≤ 175 ∧ am_call am_cod 7 100 [.ref 17, .ref 36, .int (d_68 C (s.1 + (Int32.ofInt 1)))] h102 (fun vv h' => pz_S 1 (some .int) am_r97 7 Q 38 [(0, .ref 0)] (vv.toList ++ []) h') from ⟨Or.inl ⟨by decide, ex_17 f103⟩, by decide, ex_lim f103 rfl, am_call.up (d_100_t17_36 f103 hI f107 f108 f110 (fC_0 (c := 17) (h := h102)) (fun h113 f114 f115 f116 f117 f118 f119 => ?_)) (by decide)⟩)
  have f120 : h113.2.2.1 0 3 = some 17 := (congrArg (fun q => q.2.1 0 3) f119.1).trans f109
  have f121 : hC (hP1 H s) h113 := hC_fr (fun a k u1 u2 => f119.2 a k (by omega) (by omega)) f106
  have f122 : mC M h113 := mC_fr (fun a k u1 u2 => f119.2 a k (by omega) (by omega)) f111
  have f123 : h113.1 0 12 = nI x := (f119.2 0 12 (by omega) (by omega)).trans f112
  exact am_goX 1 (show (∃ ty, (some .int) = some ty ∧ narrow ty (.int (d_100 C s (d_68 C (s.1 + (Int32.ofInt 1))))) = .int (d_100 C s (d_68 C (s.1 + (Int32.ofInt 1))))) ∧ h113.2.2.2.2 = 175 ∧ _ from ⟨⟨.int, rfl, rfl⟩, ex_175 f114, hQ _ f114 f115 f116 f117 f120 f118 f121 f122 f123⟩)
theorem d_109_K17 (hP : ex_P h) (hI : cI C) (hT : c_v 17 C h) (hD : c_d 17 C h) (hR : h.2.2.1 0 3 = some 17) (hS : sC 36 s h) (hH : hC H h) (hM : mC M h) (hx : h.1 0 12 = nI x) (hp : p < dP C) (hl : l < 5) (hQ : ∀ h1, (ex_P h1) → (cI C) → (c_v 17 C h1) → (c_d 17 C h1) → (h1.2.2.1 0 3 = some 17) → (sC 36 (d_109_s C s H p l) h1) → (hC (d_109_H C s H p l) h1) → (mC M h1) → (h1.1 0 12 = nI x) → Q (some (.int (d_109 C s H p l))) h1) : am_call am_cod 4 109 [.ref 0, .int (nI p), .int (nI l)] h Q := by
  have h6 := hT.1.2.1
  have h5 := hT.2.1.2.1
  refine pz_call (n := 109) (nL := 4) (rt := (some .int)) (rows := am_r109) (d := 3) (by decide +kernel) (by decide +kernel) rfl (by funext pc; rfl) (ex_175 hP) (by exact Nat.le_of_ble_eq_true rfl) ?_
  refine am_goX 3 (show am_rc h 0 10 ∧ 0 ≤ 8 ∧ h.2.2.2.2 + am_al 87 ≤ 175 ∧ am_call am_cod 3 87 [.ref 0, .int (nI p)] h (fun vv h' => pz_S 4 (some .int) am_r109 3 Q 5 [(0, .ref 0), (1, .int (nI p)), (2, .int (nI l))] (vv.toList ++ []) h') from ⟨Or.inl ⟨by decide, ex_0 hP⟩, by decide, ex_lim hP rfl, am_call.up (d_87_t17 hP hT hR ?_) (by decide)⟩)
  rw [show d_87 C (nI p) = Int32.ofInt 1 from (v_87 hp)]
  refine am_goX 1 (show ((Int32.ofInt 1) = 0 → pz_S 4 (some .int) am_r109 3 Q 17 [(0, .ref 0), (1, .int (nI p)), (2, .int (nI l))] [] h) ∧ (¬ ((Int32.ofInt 1) = 0) → pz_S 4 (some .int) am_r109 3 Q 8 [(0, .ref 0), (1, .int (nI p)), (2, .int (nI l))] [] h) from ⟨fun hz => absurd hz (by decide), fun _ => ?_⟩)
  refine am_goX 4 (show 0 ≤ 8 ∧ h.2.2.2.2 + am_al 60 ≤ 175 ∧ am_call am_cod 3 60 [.int (nI l), .int (Int32.ofInt 0), .int (Int32.ofInt 4)] h (fun vv h' => pz_S 4 (some .int) am_r109 3 Q 14 [(0, .ref 0), (1, .int (nI p)), (2, .int (nI l))] (vv.toList ++ []) h') from ⟨by decide, ex_lim hP rfl, am_call.up (d_60_w hP ?_) (by decide)⟩)
  rw [show d_60 (nI l) (Int32.ofInt 0) (Int32.ofInt 4) = Int32.ofInt 1 from (v_60 (lo := 0) (hi := 4) (by omega) (by omega) (by decide))]
  refine am_goX 1 (show (¬ (Int32.ofInt 1) = 0 → pz_S 4 (some .int) am_r109 3 Q 19 [(0, .ref 0), (1, .int (nI p)), (2, .int (nI l))] [] h) ∧ (¬ ¬ (Int32.ofInt 1) = 0 → pz_S 4 (some .int) am_r109 3 Q 17 [(0, .ref 0), (1, .int (nI p)), (2, .int (nI l))] [] h) from ⟨fun _ => ?_, fun hz => absurd (by decide) hz⟩)
  refine am_goX 2 (show am_sh h 0 = some (10, 0) ∧ pz_S 4 (some .int) am_r109 3 Q 23 [(0, .ref 0), (1, .int (nI p)), (2, .int (nI l))] [am_rf (h.2.2.1 0 10)] h from ⟨ex_0 hP, ?_⟩)
  rw [show am_rf (h.2.2.1 0 10) = .ref 47 from congrArg am_rf (ex_r0_10 hP)]
  refine am_goX 2 (show am_sh h 0 = some (10, 0) ∧ pz_S 4 (some .int) am_r109 3 Q 27 [(0, .ref 0), (1, .int (nI p)), (2, .int (nI l))] [am_rf (h.2.2.1 0 7), .ref 47] h from ⟨ex_0 hP, ?_⟩)
  rw [show am_rf (h.2.2.1 0 7) = .ref 36 from congrArg am_rf (ex_r0_7 hP)]
  refine am_goX 1 (show am_rc h 47 2 ∧ 0 ≤ 8 ∧ h.2.2.2.2 + am_al 98 ≤ 175 ∧ am_call am_cod 3 98 [.ref 47, .ref 36] h (fun vv h' => pz_S 4 (some .int) am_r109 3 Q 30 [(0, .ref 0), (1, .int (nI p)), (2, .int (nI l))] (vv.toList ++ []) h') from ⟨Or.inl ⟨by decide, ex_47 hP⟩, by decide, ex_lim hP rfl, am_call.up (k_98 hP hS hH (fun h124 f125 f126 f127 f128 => ?_)) (by decide)⟩)
  have f129 : c_v 17 C h124 := c_v_fr (fun a k u1 u2 => f127 a k (by omega)) hT
  have f130 : c_d 17 C h124 := c_d_fr (fun k => f127 _ k (by omega)) hD
  have f131 : h124.2.2.1 0 3 = some 17 := (congrArg (fun q => q.2.1 0 3) f126).trans hR
  have f132 : sC 36 s h124 := sC_fr (fun a k u1 u2 => f127 a k (by omega)) hS
  have f133 : mC M h124 := mC_fr (fun a k u1 u2 => f127 a k (by omega)) hM
  have f134 : h124.1 0 12 = nI x := (f127 0 12 (by omega)).trans hx
  refine am_goX 2 (show am_sh h124 0 = some (10, 0) ∧ pz_S 4 (some .int) am_r109 3 Q 34 [(0, .ref 0), (1, .int (nI p)), (2, .int (nI l))] [am_rf (h124.2.2.1 0 7)] h124 from ⟨ex_0 f125, ?_⟩)
  rw [show am_rf (h124.2.2.1 0 7) = .ref 36 from congrArg am_rf (ex_r0_7 f125)]
  refine am_goX 1 (show am_sh h124 36 = some (6, 0) ∧ pz_S 4 (some .int) am_r109 3 Q 37 [(0, .ref 0), (1, .int (nI p)), (2, .int (nI l))] [am_rf (h124.2.2.1 36 2)] h124 from ⟨ex_36 f125, ?_⟩)
  rw [show am_rf (h124.2.2.1 36 2) = .ref 37 from congrArg am_rf (ex_r36_2 f125)]
  refine am_goX 2 (show ∃ jj nn : Nat, am_sh h124 37 = some (13, nn) ∧ jj < nn ∧ nI p = nI jj ∧ pz_S 4 (some .int) am_r109 3 Q 39 [(0, .ref 0), (1, .int (nI p)), (2, .int (nI l))] [.int (h124.1 37 jj)] h124 from ⟨p, 6, ex_37 f125, (by omega), rfl, ?_⟩)
  rw [show h124.1 37 p = s.2.2.1 p from (f132.2.1 p (by omega)).1]
  refine am_goX 3 (show 3 < 4 ∧ am_sh h124 0 = some (10, 0) ∧ pz_S 4 (some .int) am_r109 3 Q 44 [(3, .int (s.2.2.1 p)), (0, .ref 0), (1, .int (nI p)), (2, .int (nI l))] [am_rf (h124.2.2.1 0 7)] h124 from ⟨by decide, ex_0 f125, ?_⟩)
  rw [show am_rf (h124.2.2.1 0 7) = .ref 36 from congrArg am_rf (ex_r0_7 f125)]
  refine am_goX 1 (show am_sh h124 36 = some (6, 0) ∧ pz_S 4 (some .int) am_r109 3 Q 47 [(3, .int (s.2.2.1 p)), (0, .ref 0), (1, .int (nI p)), (2, .int (nI l))] [am_rf (h124.2.2.1 36 2)] h124 from ⟨ex_36 f125, ?_⟩)
  rw [show am_rf (h124.2.2.1 36 2) = .ref 37 from congrArg am_rf (ex_r36_2 f125)]
  refine am_goX 3 (show ∃ jj nn : Nat, am_so h124 37 = some (13, nn) ∧ jj < nn ∧ nI p = nI jj ∧ pz_S 4 (some .int) am_r109 3 Q 50 [(3, .int (s.2.2.1 p)), (0, .ref 0), (1, .int (nI p)), (2, .int (nI l))] [] (am_wI h124 37 jj (nI l)) from ⟨p, 6, ex_w37 f125, (by omega), rfl, ?_⟩)
  have f136 : ex_P (am_wI h124 37 p (nI l)) := f125
  have f137 : cI C := hI
  have f138 : c_v 17 C (am_wI h124 37 p (nI l)) := c_v_w (by omega) f129
  have f139 : c_d 17 C (am_wI h124 37 p (nI l)) := c_d_w (by omega) f130
  have f140 : (am_wI h124 37 p (nI l)).2.2.1 0 3 = some 17 := f131
  have f141 : sC 36 (sSL s p (nI l)) (am_wI h124 37 p (nI l)) := sC_wL (by omega) f132
  have f142 : hC (hP1 H s) (am_wI h124 37 p (nI l)) := hC_w (by omega) f128
  have f143 : mC M (am_wI h124 37 p (nI l)) := mC_w (by omega) f133
  have f144 : (am_wI h124 37 p (nI l)).1 0 12 = nI x := (em_wn _ _ (by omega)).trans f134
  generalize am_wI h124 37 p (nI l) = h135 at f136 f137 f138 f139 f140 f141 f142 f143 f144 ⊢
  exact am_goX 2 (show (∃ ty, (some .int) = some ty ∧ narrow ty (.int (s.2.2.1 p)) = .int (s.2.2.1 p)) ∧ h135.2.2.2.2 = 175 ∧ _ from ⟨⟨.int, rfl, rfl⟩, ex_175 f136, hQ _ f136 f137 f138 f139 f140 f141 f142 f143 f144⟩)
theorem d_109_xK17 (hP : ex_P h) (hI : cI C) (hT : c_v 17 C h) (hD : c_d 17 C h) (hR : h.2.2.1 0 3 = some 17) (hS : sC 36 s h) (hH : hC H h) (hM : mC M h) (hx : h.1 0 12 = nI x) (ey : d_87 C y = Int32.ofInt 0) (hQ : ∀ h1, (ex_P h1) → (cI C) → (c_v 17 C h1) → (c_d 17 C h1) → (h1.2.2.1 0 3 = some 17) → (sC 36 s h1) → (hC H h1) → (mC M h1) → (h1.1 0 12 = nI x) → Q (some (.int d_109x)) h1) : am_call am_cod 4 109 [.ref 0, .int y, .int w] h Q := by
  have h6 := hT.1.2.1
  have h5 := hT.2.1.2.1
  refine pz_call (n := 109) (nL := 4) (rt := (some .int)) (rows := am_r109) (d := 3) (by decide +kernel) (by decide +kernel) rfl (by funext pc; rfl) (ex_175 hP) (by exact Nat.le_of_ble_eq_true rfl) ?_
  refine am_goX 3 (show am_rc h 0 10 ∧ 0 ≤ 8 ∧ h.2.2.2.2 + am_al 87 ≤ 175 ∧ am_call am_cod 3 87 [.ref 0, .int y] h (fun vv h' => pz_S 4 (some .int) am_r109 3 Q 5 [(0, .ref 0), (1, .int y), (2, .int w)] (vv.toList ++ []) h') from ⟨Or.inl ⟨by decide, ex_0 hP⟩, by decide, ex_lim hP rfl, am_call.up (d_87_t17 hP hT hR ?_) (by decide)⟩)
  rw [show d_87 C y = Int32.ofInt 0 from ey]
  refine am_goX 1 (show ((Int32.ofInt 0) = 0 → pz_S 4 (some .int) am_r109 3 Q 17 [(0, .ref 0), (1, .int y), (2, .int w)] [] h) ∧ (¬ ((Int32.ofInt 0) = 0) → pz_S 4 (some .int) am_r109 3 Q 8 [(0, .ref 0), (1, .int y), (2, .int w)] [] h) from ⟨fun _ => ?_, fun hz => absurd (by decide) hz⟩)
  exact am_goX 2 (show (∃ ty, (some .int) = some ty ∧ narrow ty (.int (Int32.ofInt (-1))) = .int (Int32.ofInt (-1))) ∧ h.2.2.2.2 = 175 ∧ _ from ⟨⟨.int, rfl, rfl⟩, ex_175 hP, hQ _ hP hI hT hD hR hS hH hM hx⟩)
theorem d_109_yK17 (hP : ex_P h) (hI : cI C) (hT : c_v 17 C h) (hD : c_d 17 C h) (hR : h.2.2.1 0 3 = some 17) (hS : sC 36 s h) (hH : hC H h) (hM : mC M h) (hx : h.1 0 12 = nI x) (hp : p < dP C) (ew : d_60 w (Int32.ofInt 0) (Int32.ofInt 4) = Int32.ofInt 0) (hQ : ∀ h1, (ex_P h1) → (cI C) → (c_v 17 C h1) → (c_d 17 C h1) → (h1.2.2.1 0 3 = some 17) → (sC 36 s h1) → (hC H h1) → (mC M h1) → (h1.1 0 12 = nI x) → Q (some (.int d_109x)) h1) : am_call am_cod 4 109 [.ref 0, .int (nI p), .int w] h Q := by
  have h6 := hT.1.2.1
  have h5 := hT.2.1.2.1
  refine pz_call (n := 109) (nL := 4) (rt := (some .int)) (rows := am_r109) (d := 3) (by decide +kernel) (by decide +kernel) rfl (by funext pc; rfl) (ex_175 hP) (by exact Nat.le_of_ble_eq_true rfl) ?_
  refine am_goX 3 (show am_rc h 0 10 ∧ 0 ≤ 8 ∧ h.2.2.2.2 + am_al 87 ≤ 175 ∧ am_call am_cod 3 87 [.ref 0, .int (nI p)] h (fun vv h' => pz_S 4 (some .int) am_r109 3 Q 5 [(0, .ref 0), (1, .int (nI p)), (2, .int w)] (vv.toList ++ []) h') from ⟨Or.inl ⟨by decide, ex_0 hP⟩, by decide, ex_lim hP rfl, am_call.up (d_87_t17 hP hT hR ?_) (by decide)⟩)
  rw [show d_87 C (nI p) = Int32.ofInt 1 from (v_87 hp)]
  refine am_goX 1 (show ((Int32.ofInt 1) = 0 → pz_S 4 (some .int) am_r109 3 Q 17 [(0, .ref 0), (1, .int (nI p)), (2, .int w)] [] h) ∧ (¬ ((Int32.ofInt 1) = 0) → pz_S 4 (some .int) am_r109 3 Q 8 [(0, .ref 0), (1, .int (nI p)), (2, .int w)] [] h) from ⟨fun hz => absurd hz (by decide), fun _ => ?_⟩)
  refine am_goX 4 (show 0 ≤ 8 ∧ h.2.2.2.2 + am_al 60 ≤ 175 ∧ am_call am_cod 3 60 [.int w, .int (Int32.ofInt 0), .int (Int32.ofInt 4)] h (fun vv h' => pz_S 4 (some .int) am_r109 3 Q 14 [(0, .ref 0), (1, .int (nI p)), (2, .int w)] (vv.toList ++ []) h') from ⟨by decide, ex_lim hP rfl, am_call.up (d_60_w hP ?_) (by decide)⟩)
  rw [show d_60 w (Int32.ofInt 0) (Int32.ofInt 4) = Int32.ofInt 0 from ew]
  refine am_goX 1 (show (¬ (Int32.ofInt 0) = 0 → pz_S 4 (some .int) am_r109 3 Q 19 [(0, .ref 0), (1, .int (nI p)), (2, .int w)] [] h) ∧ (¬ ¬ (Int32.ofInt 0) = 0 → pz_S 4 (some .int) am_r109 3 Q 17 [(0, .ref 0), (1, .int (nI p)), (2, .int w)] [] h) from ⟨fun hz => absurd hz (by decide), fun _ => ?_⟩)
  exact am_goX 2 (show (∃ ty, (some .int) = some ty ∧ narrow ty (.int (Int32.ofInt (-1))) = .int (Int32.ofInt (-1))) ∧ h.2.2.2.2 = 175 ∧ _ from ⟨⟨.int, rfl, rfl⟩, ex_175 hP, hQ _ hP hI hT hD hR hS hH hM hx⟩)
theorem d_111_K17 (hP : ex_P h) (hI : cI C) (hT : c_v 17 C h) (hD : c_d 17 C h) (hR : h.2.2.1 0 3 = some 17) (hS : sC 36 s h) (hH : hC H h) (hM : mC M h) (hx : h.1 0 12 = nI x) (hp : p < dP C) (hQ : ∀ h1, (ex_P h1) → (cI C) → (c_v 17 C h1) → (c_d 17 C h1) → (h1.2.2.1 0 3 = some 17) → (sC 36 (d_111_s s p) h1) → (hC H h1) → (mC M h1) → (h1.1 0 12 = nI x) → Q none h1) : am_call am_cod 1 111 [.ref 36, .int (nI p)] h Q := by
  have h6 := hT.1.2.1
  have h5 := hT.2.1.2.1
  refine pz_call (n := 111) (nL := 2) (rt := none) (rows := am_r111) (d := 0) (by decide +kernel) (by decide +kernel) rfl (by funext pc; rfl) (ex_175 hP) (by exact Nat.le_of_ble_eq_true rfl) ?_
  refine am_goX 2 (show am_sh h 36 = some (6, 0) ∧ pz_S 2 none am_r111 0 Q 4 [(0, .ref 36), (1, .int (nI p))] [am_rf (h.2.2.1 36 2)] h from ⟨ex_36 hP, ?_⟩)
  rw [show am_rf (h.2.2.1 36 2) = .ref 37 from congrArg am_rf (ex_r36_2 hP)]
  refine am_goX 3 (show ∃ jj nn : Nat, am_so h 37 = some (13, nn) ∧ jj < nn ∧ nI p = nI jj ∧ pz_S 2 none am_r111 0 Q 7 [(0, .ref 36), (1, .int (nI p))] [] (am_wI h 37 jj (Int32.ofInt 2)) from ⟨p, 6, ex_w37 hP, (by omega), rfl, ?_⟩)
  have f146 : ex_P (am_wI h 37 p (Int32.ofInt 2)) := hP
  have f147 : cI C := hI
  have f148 : c_v 17 C (am_wI h 37 p (Int32.ofInt 2)) := c_v_w (by omega) hT
  have f149 : c_d 17 C (am_wI h 37 p (Int32.ofInt 2)) := c_d_w (by omega) hD
  have f150 : (am_wI h 37 p (Int32.ofInt 2)).2.2.1 0 3 = some 17 := hR
  have f151 : sC 36 (sSL s p (Int32.ofInt 2)) (am_wI h 37 p (Int32.ofInt 2)) := sC_wL (by omega) hS
  have f152 : hC H (am_wI h 37 p (Int32.ofInt 2)) := hC_w (by omega) hH
  have f153 : mC M (am_wI h 37 p (Int32.ofInt 2)) := mC_w (by omega) hM
  have f154 : (am_wI h 37 p (Int32.ofInt 2)).1 0 12 = nI x := (em_wn _ _ (by omega)).trans hx
  generalize am_wI h 37 p (Int32.ofInt 2) = h145 at f146 f147 f148 f149 f150 f151 f152 f153 f154 ⊢
  refine am_goX 3 (show (Value.ref 36).category = 1 ∧ am_sh h145 36 = some (6, 0) ∧ pz_S 2 none am_r111 0 Q 12 [(0, .ref 36), (1, .int (nI p))] [.int (h145.1 36 1), .ref 36] h145 from ⟨rfl, ex_36 f146, ?_⟩)
  rw [show h145.1 36 1 = (sSL s p (Int32.ofInt 2)).2.1 from f151.1.2]
  refine am_goX 3 (show am_sh h145 36 = some (6, 0) ∧ narrow (am_fty 6 1) (.int (((sSL s p (Int32.ofInt 2)).2.1) + (Int32.ofInt 1))) = .int (((sSL s p (Int32.ofInt 2)).2.1) + (Int32.ofInt 1)) ∧ fits (am_fty 6 1) (.int (((sSL s p (Int32.ofInt 2)).2.1) + (Int32.ofInt 1))) = true ∧ pz_S 2 none am_r111 0 Q 17 [(0, .ref 36), (1, .int (nI p))] [] (am_wI h145 36 1 (((sSL s p (Int32.ofInt 2)).2.1) + (Int32.ofInt 1))) from ⟨ex_36 f146, rfl, rfl, ?_⟩)
  have f156 : ex_P (am_wI h145 36 1 (((sSL s p (Int32.ofInt 2)).2.1) + (Int32.ofInt 1))) := f146
  have f157 : cI C := f147
  have f158 : c_v 17 C (am_wI h145 36 1 (((sSL s p (Int32.ofInt 2)).2.1) + (Int32.ofInt 1))) := c_v_w (by omega) f148
  have f159 : c_d 17 C (am_wI h145 36 1 (((sSL s p (Int32.ofInt 2)).2.1) + (Int32.ofInt 1))) := c_d_w (by omega) f149
  have f160 : (am_wI h145 36 1 (((sSL s p (Int32.ofInt 2)).2.1) + (Int32.ofInt 1))).2.2.1 0 3 = some 17 := f150
  have f161 : sC 36 (sSX (sSL s p (Int32.ofInt 2)) (((sSL s p (Int32.ofInt 2)).2.1) + (Int32.ofInt 1))) (am_wI h145 36 1 (((sSL s p (Int32.ofInt 2)).2.1) + (Int32.ofInt 1))) := sC_wX (by omega) f151
  have f162 : hC H (am_wI h145 36 1 (((sSL s p (Int32.ofInt 2)).2.1) + (Int32.ofInt 1))) := hC_w (by omega) f152
  have f163 : mC M (am_wI h145 36 1 (((sSL s p (Int32.ofInt 2)).2.1) + (Int32.ofInt 1))) := mC_w (by omega) f153
  have f164 : (am_wI h145 36 1 (((sSL s p (Int32.ofInt 2)).2.1) + (Int32.ofInt 1))).1 0 12 = nI x := (em_wn _ _ (by omega)).trans f154
  generalize am_wI h145 36 1 (((sSL s p (Int32.ofInt 2)).2.1) + (Int32.ofInt 1)) = h155 at f156 f157 f158 f159 f160 f161 f162 f163 f164 ⊢
  exact am_goX 1 (show (none : Option FieldType) = none ∧ h155.2.2.2.2 = 175 ∧ _ from ⟨rfl, ex_175 f156, hQ _ f156 f157 f158 f159 f160 f161 f162 f163 f164⟩)
theorem d_110_K17 (hP : ex_P h) (hI : cI C) (hT : c_v 17 C h) (hD : c_d 17 C h) (hR : h.2.2.1 0 3 = some 17) (hS : sC 36 s h) (hH : hC H h) (hM : mC M h) (hx : h.1 0 12 = nI x) (hp : p < dP C) (hQ : ∀ h1, (ex_P h1) → (cI C) → (c_v 17 C h1) → (c_d 17 C h1) → (h1.2.2.1 0 3 = some 17) → (sC 36 (d_110_s C s H p) h1) → (hC (d_110_H C s H p) h1) → (mC M h1) → (h1.1 0 12 = nI x) → Q (some (.int (d_110 C s H p))) h1) : am_call am_cod 4 110 [.ref 0, .int (nI p)] h Q := by
  have h6 := hT.1.2.1
  have h5 := hT.2.1.2.1
  refine pz_call (n := 110) (nL := 2) (rt := (some .int)) (rows := am_r110) (d := 3) (by decide +kernel) (by decide +kernel) rfl (by funext pc; rfl) (ex_175 hP) (by exact Nat.le_of_ble_eq_true rfl) ?_
  refine am_goX 3 (show am_rc h 0 10 ∧ 0 ≤ 8 ∧ h.2.2.2.2 + am_al 87 ≤ 175 ∧ am_call am_cod 3 87 [.ref 0, .int (nI p)] h (fun vv h' => pz_S 2 (some .int) am_r110 3 Q 5 [(0, .ref 0), (1, .int (nI p))] (vv.toList ++ []) h') from ⟨Or.inl ⟨by decide, ex_0 hP⟩, by decide, ex_lim hP rfl, am_call.up (d_87_t17 hP hT hR ?_) (by decide)⟩)
  rw [show d_87 C (nI p) = Int32.ofInt 1 from (v_87 hp)]
  refine am_goX 1 (show (¬ (Int32.ofInt 1) = 0 → pz_S 2 (some .int) am_r110 3 Q 10 [(0, .ref 0), (1, .int (nI p))] [] h) ∧ (¬ ¬ (Int32.ofInt 1) = 0 → pz_S 2 (some .int) am_r110 3 Q 8 [(0, .ref 0), (1, .int (nI p))] [] h) from ⟨fun _ => ?_, fun hz => absurd (by decide) hz⟩)
  refine am_goX 2 (show am_sh h 0 = some (10, 0) ∧ pz_S 2 (some .int) am_r110 3 Q 14 [(0, .ref 0), (1, .int (nI p))] [am_rf (h.2.2.1 0 10)] h from ⟨ex_0 hP, ?_⟩)
  rw [show am_rf (h.2.2.1 0 10) = .ref 47 from congrArg am_rf (ex_r0_10 hP)]
  refine am_goX 2 (show am_sh h 0 = some (10, 0) ∧ pz_S 2 (some .int) am_r110 3 Q 18 [(0, .ref 0), (1, .int (nI p))] [am_rf (h.2.2.1 0 7), .ref 47] h from ⟨ex_0 hP, ?_⟩)
  rw [show am_rf (h.2.2.1 0 7) = .ref 36 from congrArg am_rf (ex_r0_7 hP)]
  refine am_goX 1 (show am_rc h 47 2 ∧ 0 ≤ 8 ∧ h.2.2.2.2 + am_al 98 ≤ 175 ∧ am_call am_cod 3 98 [.ref 47, .ref 36] h (fun vv h' => pz_S 2 (some .int) am_r110 3 Q 21 [(0, .ref 0), (1, .int (nI p))] (vv.toList ++ []) h') from ⟨Or.inl ⟨by decide, ex_47 hP⟩, by decide, ex_lim hP rfl, am_call.up (k_98 hP hS hH (fun h165 f166 f167 f168 f169 => ?_)) (by decide)⟩)
  have f170 : c_v 17 C h165 := c_v_fr (fun a k u1 u2 => f168 a k (by omega)) hT
  have f171 : c_d 17 C h165 := c_d_fr (fun k => f168 _ k (by omega)) hD
  have f172 : h165.2.2.1 0 3 = some 17 := (congrArg (fun q => q.2.1 0 3) f167).trans hR
  have f173 : sC 36 s h165 := sC_fr (fun a k u1 u2 => f168 a k (by omega)) hS
  have f174 : mC M h165 := mC_fr (fun a k u1 u2 => f168 a k (by omega)) hM
  have f175 : h165.1 0 12 = nI x := (f168 0 12 (by omega)).trans hx
  refine am_goX 2 (show am_sh h165 0 = some (10, 0) ∧ pz_S 2 (some .int) am_r110 3 Q 25 [(0, .ref 0), (1, .int (nI p))] [am_rf (h165.2.2.1 0 7)] h165 from ⟨ex_0 f166, ?_⟩)
  rw [show am_rf (h165.2.2.1 0 7) = .ref 36 from congrArg am_rf (ex_r0_7 f166)]
  refine am_goX 2 (show am_rc h165 36 6 ∧ 0 ≤ 8 ∧ h165.2.2.2.2 + am_al 111 ≤ 175 ∧ am_call am_cod 3 111 [.ref 36, .int (nI p)] h165 (fun vv h' => pz_S 2 (some .int) am_r110 3 Q 29 [(0, .ref 0), (1, .int (nI p))] (vv.toList ++ []) h') from ⟨Or.inl ⟨by decide, ex_36 f166⟩, by decide, ex_lim f166 rfl, am_call.up (d_111_K17 f166 hI f170 f171 f172 f173 f169 f174 f175 (by omega) (fun h176 f177 f178 f179 f180 f181 f182 f183 f184 f185 => ?_)) (by decide)⟩)
  refine am_goX 2 (show am_sh h176 0 = some (10, 0) ∧ pz_S 2 (some .int) am_r110 3 Q 33 [(0, .ref 0), (1, .int (nI p))] [am_rf (h176.2.2.1 0 7)] h176 from ⟨ex_0 f177, ?_⟩)
  rw [show am_rf (h176.2.2.1 0 7) = .ref 36 from congrArg am_rf (ex_r0_7 f177)]
  refine am_goX 1 (show am_sh h176 36 = some (6, 0) ∧ pz_S 2 (some .int) am_r110 3 Q 36 [(0, .ref 0), (1, .int (nI p))] [.int (h176.1 36 1)] h176 from ⟨ex_36 f177, ?_⟩)
  rw [show h176.1 36 1 = (d_111_s s p).2.1 from f182.1.2]
  exact am_goX 1 (show (∃ ty, (some .int) = some ty ∧ narrow ty (.int ((d_111_s s p).2.1)) = .int ((d_111_s s p).2.1)) ∧ h176.2.2.2.2 = 175 ∧ _ from ⟨⟨.int, rfl, rfl⟩, ex_175 f177, hQ _ f177 f178 f179 f180 f181 f182 f183 f184 f185⟩)
theorem d_110_xK17 (hP : ex_P h) (hI : cI C) (hT : c_v 17 C h) (hD : c_d 17 C h) (hR : h.2.2.1 0 3 = some 17) (hS : sC 36 s h) (hH : hC H h) (hM : mC M h) (hx : h.1 0 12 = nI x) (ey : d_87 C y = Int32.ofInt 0) (hQ : ∀ h1, (ex_P h1) → (cI C) → (c_v 17 C h1) → (c_d 17 C h1) → (h1.2.2.1 0 3 = some 17) → (sC 36 s h1) → (hC H h1) → (mC M h1) → (h1.1 0 12 = nI x) → Q (some (.int d_110x)) h1) : am_call am_cod 4 110 [.ref 0, .int y] h Q := by
  have h6 := hT.1.2.1
  have h5 := hT.2.1.2.1
  refine pz_call (n := 110) (nL := 2) (rt := (some .int)) (rows := am_r110) (d := 3) (by decide +kernel) (by decide +kernel) rfl (by funext pc; rfl) (ex_175 hP) (by exact Nat.le_of_ble_eq_true rfl) ?_
  refine am_goX 3 (show am_rc h 0 10 ∧ 0 ≤ 8 ∧ h.2.2.2.2 + am_al 87 ≤ 175 ∧ am_call am_cod 3 87 [.ref 0, .int y] h (fun vv h' => pz_S 2 (some .int) am_r110 3 Q 5 [(0, .ref 0), (1, .int y)] (vv.toList ++ []) h') from ⟨Or.inl ⟨by decide, ex_0 hP⟩, by decide, ex_lim hP rfl, am_call.up (d_87_t17 hP hT hR ?_) (by decide)⟩)
  rw [show d_87 C y = Int32.ofInt 0 from ey]
  refine am_goX 1 (show (¬ (Int32.ofInt 0) = 0 → pz_S 2 (some .int) am_r110 3 Q 10 [(0, .ref 0), (1, .int y)] [] h) ∧ (¬ ¬ (Int32.ofInt 0) = 0 → pz_S 2 (some .int) am_r110 3 Q 8 [(0, .ref 0), (1, .int y)] [] h) from ⟨fun hz => absurd hz (by decide), fun _ => ?_⟩)
  exact am_goX 2 (show (∃ ty, (some .int) = some ty ∧ narrow ty (.int (Int32.ofInt (-1))) = .int (Int32.ofInt (-1))) ∧ h.2.2.2.2 = 175 ∧ _ from ⟨⟨.int, rfl, rfl⟩, ex_175 hP, hQ _ hP hI hT hD hR hS hH hM hx⟩)
theorem d_112_K17 (hP : ex_P h) (hI : cI C) (hT : c_v 17 C h) (hD : c_d 17 C h) (hR : h.2.2.1 0 3 = some 17) (hS : sC 36 s h) (hH : hC H h) (hM : mC M h) (hx : h.1 0 12 = nI x) (hn : 0 < H.1) (hQ : ∀ h1, (ex_P h1) → (cI C) → (c_v 17 C h1) → (c_d 17 C h1) → (h1.2.2.1 0 3 = some 17) → (sC 36 (d_112_s H) h1) → (hC (d_112_H H) h1) → (mC M h1) → (h1.1 0 12 = nI x) → Q (some (.int (d_112 H))) h1) : am_call am_cod 3 112 [.ref 0] h Q := by
  have h6 := hT.1.2.1
  have h5 := hT.2.1.2.1
  refine pz_call (n := 112) (nL := 1) (rt := (some .boolean)) (rows := am_r112) (d := 2) (by decide +kernel) (by decide +kernel) rfl (by funext pc; rfl) (ex_175 hP) (by exact Nat.le_of_ble_eq_true rfl) ?_
  refine am_goX 2 (show am_sh h 0 = some (10, 0) ∧ pz_S 1 (some .boolean) am_r112 2 Q 4 [(0, .ref 0)] [am_rf (h.2.2.1 0 10)] h from ⟨ex_0 hP, ?_⟩)
  rw [show am_rf (h.2.2.1 0 10) = .ref 47 from congrArg am_rf (ex_r0_10 hP)]
  refine am_goX 2 (show am_sh h 0 = some (10, 0) ∧ pz_S 1 (some .boolean) am_r112 2 Q 8 [(0, .ref 0)] [am_rf (h.2.2.1 0 7), .ref 47] h from ⟨ex_0 hP, ?_⟩)
  rw [show am_rf (h.2.2.1 0 7) = .ref 36 from congrArg am_rf (ex_r0_7 hP)]
  refine am_goX 1 (show am_rc h 47 2 ∧ 0 ≤ 8 ∧ h.2.2.2.2 + am_al 113 ≤ 175 ∧ am_call am_cod 2 113 [.ref 47, .ref 36] h (fun vv h' => pz_S 1 (some .boolean) am_r112 2 Q 11 [(0, .ref 0)] (vv.toList ++ []) h') from ⟨Or.inl ⟨by decide, ex_47 hP⟩, by decide, ex_lim hP rfl, am_call.up (k_113 hn hP hH (fun h186 f187 f188 f189 f190 f191 => ?_)) (by decide)⟩)
  have f192 : c_v 17 C h186 := c_v_fr (fun a k u1 u2 => f189 a k (by omega) (by omega)) hT
  have f193 : c_d 17 C h186 := c_d_fr (fun k => f189 _ k (by omega) (by omega)) hD
  have f194 : h186.2.2.1 0 3 = some 17 := (congrArg (fun q => q.2.1 0 3) f188).trans hR
  have f195 : mC M h186 := mC_fr (fun a k u1 u2 => f189 a k (by omega) (by omega)) hM
  have f196 : h186.1 0 12 = nI x := (f189 0 12 (by omega) (by omega)).trans hx
  exact am_goX 1 (show (∃ ty, (some .boolean) = some ty ∧ narrow ty (.int (Int32.ofInt 1)) = .int (Int32.ofInt 1)) ∧ h186.2.2.2.2 = 175 ∧ _ from ⟨⟨.boolean, rfl, rfl⟩, ex_175 f187, hQ _ f187 hI f192 f193 f194 f191 f190 f195 f196⟩)
theorem d_112_zK17 (hP : ex_P h) (hI : cI C) (hT : c_v 17 C h) (hD : c_d 17 C h) (hR : h.2.2.1 0 3 = some 17) (hS : sC 36 s h) (hH : hC H h) (hM : mC M h) (hx : h.1 0 12 = nI x) (hn : H.1 = 0) (hQ : ∀ h1, (ex_P h1) → (cI C) → (c_v 17 C h1) → (c_d 17 C h1) → (h1.2.2.1 0 3 = some 17) → (sC 36 s h1) → (hC H h1) → (mC M h1) → (h1.1 0 12 = nI x) → Q (some (.int d_112z)) h1) : am_call am_cod 3 112 [.ref 0] h Q := by
  have h6 := hT.1.2.1
  have h5 := hT.2.1.2.1
  refine pz_call (n := 112) (nL := 1) (rt := (some .boolean)) (rows := am_r112) (d := 2) (by decide +kernel) (by decide +kernel) rfl (by funext pc; rfl) (ex_175 hP) (by exact Nat.le_of_ble_eq_true rfl) ?_
  refine am_goX 2 (show am_sh h 0 = some (10, 0) ∧ pz_S 1 (some .boolean) am_r112 2 Q 4 [(0, .ref 0)] [am_rf (h.2.2.1 0 10)] h from ⟨ex_0 hP, ?_⟩)
  rw [show am_rf (h.2.2.1 0 10) = .ref 47 from congrArg am_rf (ex_r0_10 hP)]
  refine am_goX 2 (show am_sh h 0 = some (10, 0) ∧ pz_S 1 (some .boolean) am_r112 2 Q 8 [(0, .ref 0)] [am_rf (h.2.2.1 0 7), .ref 47] h from ⟨ex_0 hP, ?_⟩)
  rw [show am_rf (h.2.2.1 0 7) = .ref 36 from congrArg am_rf (ex_r0_7 hP)]
  refine am_goX 1 (show am_rc h 47 2 ∧ 0 ≤ 8 ∧ h.2.2.2.2 + am_al 113 ≤ 175 ∧ am_call am_cod 2 113 [.ref 47, .ref 36] h (fun vv h' => pz_S 1 (some .boolean) am_r112 2 Q 11 [(0, .ref 0)] (vv.toList ++ []) h') from ⟨Or.inl ⟨by decide, ex_47 hP⟩, by decide, ex_lim hP rfl, am_call.up (k_113z hn hP hH ?_) (by decide)⟩)
  exact am_goX 1 (show (∃ ty, (some .boolean) = some ty ∧ narrow ty (.int (Int32.ofInt 0)) = .int (Int32.ofInt 0)) ∧ h.2.2.2.2 = 175 ∧ _ from ⟨⟨.boolean, rfl, rfl⟩, ex_175 hP, hQ _ hP hI hT hD hR hS hH hM hx⟩)
def d_230_s (C V : sp_C) (s : dS) (H : dH) : dS := (d_233_s C V s)
def d_230_H (C V : sp_C) (s : dS) (H : dH) : dH := (hP1 H s)
def d_230 (C V : sp_C) (s : dS) (H : dH) : Int32 := d_233 C V s
theorem d_230_L (hP : ex_P h) (hI : cI C) (hT : tR C h) (hO : ∀ e, e < dE C → h.1 172 e = dW V e) (hS : sR 0 (dP C) s h) (hH : hL (dP C) H h) (hM : mL (dP C) M h) (hx : h.1 170 24 = nI x)  (hQ : ∀ h1, (ex_P h1) → (cI C) → (tR C h1) → (∀ e, e < dE C → h1.1 172 e = dW V e) → (sR 0 (dP C) (d_230_s C V s H) h1) → (hL (dP C) (d_230_H C V s H) h1) → (mL (dP C) M h1) → (h1.1 170 24 = nI x) → Q (some (.int (d_230 C V s H))) h1) : am_call am_cod 8 230 [.ref 154] h Q := by
  have h6 := hT.1.2.1
  have h5 := hT.2.1.2.1
  refine pz_call (n := 230) (nL := 1) (rt := (some .int)) (rows := am_r230) (d := 7) (by decide +kernel) (by decide +kernel) rfl (by funext pc; rfl) (ex_175 hP) (by exact Nat.le_of_ble_eq_true rfl) ?_
  refine am_goX 3 (show am_sh h 154 = some (11, 0) ∧ narrow (am_fty 11 0) (.int (Int32.ofInt 0)) = .int (Int32.ofInt 0) ∧ fits (am_fty 11 0) (.int (Int32.ofInt 0)) = true ∧ pz_S 1 (some .int) am_r230 7 Q 5 [(0, .ref 154)] [] (am_wI h 154 0 (Int32.ofInt 0)) from ⟨ex_154 hP, rfl, rfl, ?_⟩)
  have f198 : ex_P (am_wI h 154 0 (Int32.ofInt 0)) := hP
  have f199 : cI C := hI
  have f200 : tR C (am_wI h 154 0 (Int32.ofInt 0)) := tR_w (by omega) hT
  have f201 : ∀ e, e < dE C → (am_wI h 154 0 (Int32.ofInt 0)).1 172 e = dW V e := on_w (by omega) hO
  have f202 : sR 0 (dP C) s (am_wI h 154 0 (Int32.ofInt 0)) := sR_o (by omega) hS
  have f203 : hL (dP C) H (am_wI h 154 0 (Int32.ofInt 0)) := hL_w (by omega) hH
  have f204 : mL (dP C) M (am_wI h 154 0 (Int32.ofInt 0)) := mL_w (by omega) hM
  have f205 : (am_wI h 154 0 (Int32.ofInt 0)).1 170 24 = nI x := (em_wn _ _ (by omega)).trans hx
  generalize am_wI h 154 0 (Int32.ofInt 0) = h197 at f198 f199 f200 f201 f202 f203 f204 f205 ⊢
  refine am_goX 2 (show am_rc h197 154 11 ∧ 0 ≤ 8 ∧ h197.2.2.2.2 + am_al 231 ≤ 175 ∧ am_call am_cod 7 231 [.ref 154] h197 (fun vv h' => pz_S 1 (some .int) am_r230 7 Q 9 [(0, .ref 154)] (vv.toList ++ []) h') from ⟨Or.inl ⟨by decide, ex_154 f198⟩, by decide, ex_lim f198 rfl, am_call.up (k_231 f200.1.2.1 f198 f202 f203 (fun h206 f207 f208 f209 => ?_)) (by decide)⟩)
  have f210 : tR C h206 := tR_fr (fun a k u1 u2 => f208.2 a k (by omega) (by omega)) f200
  have f211 : ∀ e, e < dE C → h206.1 172 e = dW V e := fun e he => (f208.2 172 e (by omega) (by omega)).trans (f201 e he)
  have f212 : sR 0 (dP C) s h206 := sR_fr (fun k u1 u2 => f208.2 170 k (by omega) (by omega)) f200.1.2.1 f202
  have f213 : mL (dP C) M h206 := mL_fr f200.1.2.1 (fun m hm => f208.2 171 m (by omega) (by omega)) (fun k u1 u2 => f208.2 170 k (by omega) (by omega)) f204
  have f214 : h206.1 170 24 = nI x := (f208.2 170 24 (by omega) (by omega)).trans f205
  refine am_goX 3 (show am_rc h206 154 11 ∧ 0 ≤ 8 ∧ h206.2.2.2.2 + am_al 233 ≤ 175 ∧ am_call am_cod 7 233 [.ref 154, .int (Int32.ofInt 0)] h206 (fun vv h' => pz_S 1 (some .int) am_r230 7 Q 14 [(0, .ref 154)] (vv.toList ++ []) h') from ⟨Or.inl ⟨by decide, ex_154 f207⟩, by decide, ex_lim f207 rfl, am_call.up (d_233_r0 f207 f199 f210 f211 f212 (fR_0 (h := h206)) (fun h215 f216 f217 f218 f219 f220 f221 => ?_)) (by decide)⟩)
  have f222 : hL (dP C) (hP1 H s) h215 := hL_fr f210.1.2.1 (f221.2 154 25 (by omega) (by omega) (by omega) (by omega)) (fun k u1 u2 => f221.2 170 k (by omega) (by omega) (by omega) (by omega)) f209
  have f223 : mL (dP C) M h215 := mL_fr f210.1.2.1 (fun m hm => f221.2 171 m (by omega) (by omega) (by omega) (by omega)) (fun k u1 u2 => f221.2 170 k (by omega) (by omega) (by omega) (by omega)) f213
  have f224 : h215.1 170 24 = nI x := (f221.2 170 24 (by omega) (by omega) (by omega) (by omega)).trans f214
  exact am_goX 1 (show (∃ ty, (some .int) = some ty ∧ narrow ty (.int (d_233 C V s)) = .int (d_233 C V s)) ∧ h215.2.2.2.2 = 175 ∧ _ from ⟨⟨.int, rfl, rfl⟩, ex_175 f216, hQ _ f216 f217 f218 f219 f220 f222 f223 f224⟩)
def d_239_s (C : sp_C) (s : dS) (H : dH) (p l : Nat) : dS := sSL s p (nI l)
def d_239_H (C : sp_C) (s : dS) (H : dH) (p l : Nat) : dH := (hP1 H s)
def d_239 (C : sp_C) (s : dS) (H : dH) (p l : Nat) : Int32 := s.2.2.1 p
theorem d_239_L (hP : ex_P h) (hI : cI C) (hT : tR C h) (hO : ∀ e, e < dE C → h.1 172 e = dW V e) (hS : sR 0 (dP C) s h) (hH : hL (dP C) H h) (hM : mL (dP C) M h) (hx : h.1 170 24 = nI x) (hp : p < dP C) (hl : l < 5) (hQ : ∀ h1, (ex_P h1) → (cI C) → (tR C h1) → (∀ e, e < dE C → h1.1 172 e = dW V e) → (sR 0 (dP C) (d_239_s C s H p l) h1) → (hL (dP C) (d_239_H C s H p l) h1) → (mL (dP C) M h1) → (h1.1 170 24 = nI x) → Q (some (.int (d_239 C s H p l))) h1) : am_call am_cod 4 239 [.ref 154, .int (nI p), .int (nI l)] h Q := by
  have h6 := hT.1.2.1
  have h5 := hT.2.1.2.1
  refine pz_call (n := 239) (nL := 4) (rt := (some .int)) (rows := am_r239) (d := 3) (by decide +kernel) (by decide +kernel) rfl (by funext pc; rfl) (ex_175 hP) (by exact Nat.le_of_ble_eq_true rfl) ?_
  refine am_goX 3 (show am_sh h 154 = some (11, 0) ∧ narrow (am_fty 11 0) (.int (Int32.ofInt 0)) = .int (Int32.ofInt 0) ∧ fits (am_fty 11 0) (.int (Int32.ofInt 0)) = true ∧ pz_S 4 (some .int) am_r239 3 Q 5 [(0, .ref 154), (1, .int (nI p)), (2, .int (nI l))] [] (am_wI h 154 0 (Int32.ofInt 0)) from ⟨ex_154 hP, rfl, rfl, ?_⟩)
  have f226 : ex_P (am_wI h 154 0 (Int32.ofInt 0)) := hP
  have f227 : cI C := hI
  have f228 : tR C (am_wI h 154 0 (Int32.ofInt 0)) := tR_w (by omega) hT
  have f229 : ∀ e, e < dE C → (am_wI h 154 0 (Int32.ofInt 0)).1 172 e = dW V e := on_w (by omega) hO
  have f230 : sR 0 (dP C) s (am_wI h 154 0 (Int32.ofInt 0)) := sR_o (by omega) hS
  have f231 : hL (dP C) H (am_wI h 154 0 (Int32.ofInt 0)) := hL_w (by omega) hH
  have f232 : mL (dP C) M (am_wI h 154 0 (Int32.ofInt 0)) := mL_w (by omega) hM
  have f233 : (am_wI h 154 0 (Int32.ofInt 0)).1 170 24 = nI x := (em_wn _ _ (by omega)).trans hx
  generalize am_wI h 154 0 (Int32.ofInt 0) = h225 at f226 f227 f228 f229 f230 f231 f232 f233 ⊢
  refine am_goX 3 (show am_rc h225 154 11 ∧ 0 ≤ 8 ∧ h225.2.2.2.2 + am_al 221 ≤ 175 ∧ am_call am_cod 3 221 [.ref 154, .int (nI p)] h225 (fun vv h' => pz_S 4 (some .int) am_r239 3 Q 10 [(0, .ref 154), (1, .int (nI p)), (2, .int (nI l))] (vv.toList ++ []) h') from ⟨Or.inl ⟨by decide, ex_154 f226⟩, by decide, ex_lim f226 rfl, am_call.up (d_221_r f226 f228 ?_) (by decide)⟩)
  rw [show d_221 C (nI p) = Int32.ofInt 1 from ((d_221_e _).trans (v_87 hp))]
  refine am_goX 1 (show ((Int32.ofInt 1) = 0 → pz_S 4 (some .int) am_r239 3 Q 22 [(0, .ref 154), (1, .int (nI p)), (2, .int (nI l))] [] h225) ∧ (¬ ((Int32.ofInt 1) = 0) → pz_S 4 (some .int) am_r239 3 Q 13 [(0, .ref 154), (1, .int (nI p)), (2, .int (nI l))] [] h225) from ⟨fun hz => absurd hz (by decide), fun _ => ?_⟩)
  refine am_goX 4 (show 0 ≤ 8 ∧ h225.2.2.2.2 + am_al 207 ≤ 175 ∧ am_call am_cod 3 207 [.int (nI l), .int (Int32.ofInt 0), .int (Int32.ofInt 4)] h225 (fun vv h' => pz_S 4 (some .int) am_r239 3 Q 19 [(0, .ref 154), (1, .int (nI p)), (2, .int (nI l))] (vv.toList ++ []) h') from ⟨by decide, ex_lim f226 rfl, am_call.up (d_207_w f226 ?_) (by decide)⟩)
  rw [show d_207 (nI l) (Int32.ofInt 0) (Int32.ofInt 4) = Int32.ofInt 1 from ((d_207_e _ _ _).trans (v_60 (lo := 0) (hi := 4) (by omega) (by omega) (by decide)))]
  refine am_goX 1 (show (¬ (Int32.ofInt 1) = 0 → pz_S 4 (some .int) am_r239 3 Q 24 [(0, .ref 154), (1, .int (nI p)), (2, .int (nI l))] [] h225) ∧ (¬ ¬ (Int32.ofInt 1) = 0 → pz_S 4 (some .int) am_r239 3 Q 22 [(0, .ref 154), (1, .int (nI p)), (2, .int (nI l))] [] h225) from ⟨fun _ => ?_, fun hz => absurd (by decide) hz⟩)
  refine am_goX 2 (show am_rc h225 154 11 ∧ 0 ≤ 8 ∧ h225.2.2.2.2 + am_al 231 ≤ 175 ∧ am_call am_cod 3 231 [.ref 154] h225 (fun vv h' => pz_S 4 (some .int) am_r239 3 Q 28 [(0, .ref 154), (1, .int (nI p)), (2, .int (nI l))] (vv.toList ++ []) h') from ⟨Or.inl ⟨by decide, ex_154 f226⟩, by decide, ex_lim f226 rfl, am_call.up (k_231 f228.1.2.1 f226 f230 f231 (fun h234 f235 f236 f237 => ?_)) (by decide)⟩)
  have f238 : tR C h234 := tR_fr (fun a k u1 u2 => f236.2 a k (by omega) (by omega)) f228
  have f239 : ∀ e, e < dE C → h234.1 172 e = dW V e := fun e he => (f236.2 172 e (by omega) (by omega)).trans (f229 e he)
  have f240 : sR 0 (dP C) s h234 := sR_fr (fun k u1 u2 => f236.2 170 k (by omega) (by omega)) f228.1.2.1 f230
  have f241 : mL (dP C) M h234 := mL_fr f228.1.2.1 (fun m hm => f236.2 171 m (by omega) (by omega)) (fun k u1 u2 => f236.2 170 k (by omega) (by omega)) f232
  have f242 : h234.1 170 24 = nI x := (f236.2 170 24 (by omega) (by omega)).trans f233
  refine am_goX 2 (show am_sh h234 154 = some (11, 0) ∧ pz_S 4 (some .int) am_r239 3 Q 32 [(0, .ref 154), (1, .int (nI p)), (2, .int (nI l))] [am_rf (h234.2.2.1 154 24)] h234 from ⟨ex_154 f235, ?_⟩)
  rw [show am_rf (h234.2.2.1 154 24) = .ref 170 from congrArg am_rf (ex_r154_24 f235)]
  refine am_goX 4 (show ∃ jj nn : Nat, am_sh h234 170 = some (13, nn) ∧ jj < nn ∧ (Int32.ofInt 2) + (nI p) = nI jj ∧ pz_S 4 (some .int) am_r239 3 Q 36 [(0, .ref 154), (1, .int (nI p)), (2, .int (nI l))] [.int (h234.1 170 jj)] h234 from ⟨(2 + p), 1127, ex_170 f235, (by omega), (dn_a rfl rfl), ?_⟩)
  rw [show h234.1 170 (2 + p) = s.2.2.1 p from (by rw [show (2 + p) = 0 + 2 + p by omega]; exact f240.2.1 p (by omega))]
  refine am_goX 3 (show 3 < 4 ∧ am_sh h234 154 = some (11, 0) ∧ pz_S 4 (some .int) am_r239 3 Q 41 [(3, .int (s.2.2.1 p)), (0, .ref 154), (1, .int (nI p)), (2, .int (nI l))] [am_rf (h234.2.2.1 154 24)] h234 from ⟨by decide, ex_154 f235, ?_⟩)
  rw [show am_rf (h234.2.2.1 154 24) = .ref 170 from congrArg am_rf (ex_r154_24 f235)]
  refine am_goX 5 (show ∃ jj nn : Nat, am_so h234 170 = some (13, nn) ∧ jj < nn ∧ (Int32.ofInt 2) + (nI p) = nI jj ∧ pz_S 4 (some .int) am_r239 3 Q 46 [(3, .int (s.2.2.1 p)), (0, .ref 154), (1, .int (nI p)), (2, .int (nI l))] [] (am_wI h234 170 jj (nI l)) from ⟨(2 + p), 1127, ex_w170 f235, (by omega), (dn_a rfl rfl), ?_⟩)
  have f244 : ex_P (am_wI h234 170 (2 + p) (nI l)) := f235
  have f245 : cI C := f227
  have f246 : tR C (am_wI h234 170 (2 + p) (nI l)) := tR_w (by omega) f238
  have f247 : ∀ e, e < dE C → (am_wI h234 170 (2 + p) (nI l)).1 172 e = dW V e := on_w (by omega) f239
  have f248 : sR 0 (dP C) (sSL s p (nI l)) (am_wI h234 170 (2 + p) (nI l)) := sR_wL (i := p) (by omega) (by omega) f240
  have f249 : hL (dP C) (hP1 H s) (am_wI h234 170 (2 + p) (nI l)) := hL_w (by omega) f237
  have f250 : mL (dP C) M (am_wI h234 170 (2 + p) (nI l)) := mL_w (by omega) f241
  have f251 : (am_wI h234 170 (2 + p) (nI l)).1 170 24 = nI x := (em_wn _ _ (by omega)).trans f242
  generalize am_wI h234 170 (2 + p) (nI l) = h243 at f244 f245 f246 f247 f248 f249 f250 f251 ⊢
  exact am_goX 2 (show (∃ ty, (some .int) = some ty ∧ narrow ty (.int (s.2.2.1 p)) = .int (s.2.2.1 p)) ∧ h243.2.2.2.2 = 175 ∧ _ from ⟨⟨.int, rfl, rfl⟩, ex_175 f244, hQ _ f244 f245 f246 f247 f248 f249 f250 f251⟩)
def d_239x  : Int32 := Int32.ofInt (-1)
theorem d_239_xL (hP : ex_P h) (hI : cI C) (hT : tR C h) (hO : ∀ e, e < dE C → h.1 172 e = dW V e) (hS : sR 0 (dP C) s h) (hH : hL (dP C) H h) (hM : mL (dP C) M h) (hx : h.1 170 24 = nI x) (ey : d_87 C y = Int32.ofInt 0) (hQ : ∀ h1, (ex_P h1) → (cI C) → (tR C h1) → (∀ e, e < dE C → h1.1 172 e = dW V e) → (sR 0 (dP C) s h1) → (hL (dP C) H h1) → (mL (dP C) M h1) → (h1.1 170 24 = nI x) → Q (some (.int d_239x)) h1) : am_call am_cod 4 239 [.ref 154, .int y, .int w] h Q := by
  have h6 := hT.1.2.1
  have h5 := hT.2.1.2.1
  refine pz_call (n := 239) (nL := 4) (rt := (some .int)) (rows := am_r239) (d := 3) (by decide +kernel) (by decide +kernel) rfl (by funext pc; rfl) (ex_175 hP) (by exact Nat.le_of_ble_eq_true rfl) ?_
  refine am_goX 3 (show am_sh h 154 = some (11, 0) ∧ narrow (am_fty 11 0) (.int (Int32.ofInt 0)) = .int (Int32.ofInt 0) ∧ fits (am_fty 11 0) (.int (Int32.ofInt 0)) = true ∧ pz_S 4 (some .int) am_r239 3 Q 5 [(0, .ref 154), (1, .int y), (2, .int w)] [] (am_wI h 154 0 (Int32.ofInt 0)) from ⟨ex_154 hP, rfl, rfl, ?_⟩)
  have f253 : ex_P (am_wI h 154 0 (Int32.ofInt 0)) := hP
  have f254 : cI C := hI
  have f255 : tR C (am_wI h 154 0 (Int32.ofInt 0)) := tR_w (by omega) hT
  have f256 : ∀ e, e < dE C → (am_wI h 154 0 (Int32.ofInt 0)).1 172 e = dW V e := on_w (by omega) hO
  have f257 : sR 0 (dP C) s (am_wI h 154 0 (Int32.ofInt 0)) := sR_o (by omega) hS
  have f258 : hL (dP C) H (am_wI h 154 0 (Int32.ofInt 0)) := hL_w (by omega) hH
  have f259 : mL (dP C) M (am_wI h 154 0 (Int32.ofInt 0)) := mL_w (by omega) hM
  have f260 : (am_wI h 154 0 (Int32.ofInt 0)).1 170 24 = nI x := (em_wn _ _ (by omega)).trans hx
  generalize am_wI h 154 0 (Int32.ofInt 0) = h252 at f253 f254 f255 f256 f257 f258 f259 f260 ⊢
  refine am_goX 3 (show am_rc h252 154 11 ∧ 0 ≤ 8 ∧ h252.2.2.2.2 + am_al 221 ≤ 175 ∧ am_call am_cod 3 221 [.ref 154, .int y] h252 (fun vv h' => pz_S 4 (some .int) am_r239 3 Q 10 [(0, .ref 154), (1, .int y), (2, .int w)] (vv.toList ++ []) h') from ⟨Or.inl ⟨by decide, ex_154 f253⟩, by decide, ex_lim f253 rfl, am_call.up (d_221_r f253 f255 ?_) (by decide)⟩)
  rw [show d_221 C y = Int32.ofInt 0 from ((d_221_e _).trans ey)]
  refine am_goX 1 (show ((Int32.ofInt 0) = 0 → pz_S 4 (some .int) am_r239 3 Q 22 [(0, .ref 154), (1, .int y), (2, .int w)] [] h252) ∧ (¬ ((Int32.ofInt 0) = 0) → pz_S 4 (some .int) am_r239 3 Q 13 [(0, .ref 154), (1, .int y), (2, .int w)] [] h252) from ⟨fun _ => ?_, fun hz => absurd (by decide) hz⟩)
  exact am_goX 2 (show (∃ ty, (some .int) = some ty ∧ narrow ty (.int (Int32.ofInt (-1))) = .int (Int32.ofInt (-1))) ∧ h252.2.2.2.2 = 175 ∧ _ from ⟨⟨.int, rfl, rfl⟩, ex_175 f253, hQ _ f253 f254 f255 f256 f257 f258 f259 f260⟩)
theorem d_239_yL (hP : ex_P h) (hI : cI C) (hT : tR C h) (hO : ∀ e, e < dE C → h.1 172 e = dW V e) (hS : sR 0 (dP C) s h) (hH : hL (dP C) H h) (hM : mL (dP C) M h) (hx : h.1 170 24 = nI x) (hp : p < dP C) (ew : d_60 w (Int32.ofInt 0) (Int32.ofInt 4) = Int32.ofInt 0) (hQ : ∀ h1, (ex_P h1) → (cI C) → (tR C h1) → (∀ e, e < dE C → h1.1 172 e = dW V e) → (sR 0 (dP C) s h1) → (hL (dP C) H h1) → (mL (dP C) M h1) → (h1.1 170 24 = nI x) → Q (some (.int d_239x)) h1) : am_call am_cod 4 239 [.ref 154, .int (nI p), .int w] h Q := by
  have h6 := hT.1.2.1
  have h5 := hT.2.1.2.1
  refine pz_call (n := 239) (nL := 4) (rt := (some .int)) (rows := am_r239) (d := 3) (by decide +kernel) (by decide +kernel) rfl (by funext pc; rfl) (ex_175 hP) (by exact Nat.le_of_ble_eq_true rfl) ?_
  refine am_goX 3 (show am_sh h 154 = some (11, 0) ∧ narrow (am_fty 11 0) (.int (Int32.ofInt 0)) = .int (Int32.ofInt 0) ∧ fits (am_fty 11 0) (.int (Int32.ofInt 0)) = true ∧ pz_S 4 (some .int) am_r239 3 Q 5 [(0, .ref 154), (1, .int (nI p)), (2, .int w)] [] (am_wI h 154 0 (Int32.ofInt 0)) from ⟨ex_154 hP, rfl, rfl, ?_⟩)
  have f262 : ex_P (am_wI h 154 0 (Int32.ofInt 0)) := hP
  have f263 : cI C := hI
  have f264 : tR C (am_wI h 154 0 (Int32.ofInt 0)) := tR_w (by omega) hT
  have f265 : ∀ e, e < dE C → (am_wI h 154 0 (Int32.ofInt 0)).1 172 e = dW V e := on_w (by omega) hO
  have f266 : sR 0 (dP C) s (am_wI h 154 0 (Int32.ofInt 0)) := sR_o (by omega) hS
  have f267 : hL (dP C) H (am_wI h 154 0 (Int32.ofInt 0)) := hL_w (by omega) hH
  have f268 : mL (dP C) M (am_wI h 154 0 (Int32.ofInt 0)) := mL_w (by omega) hM
  have f269 : (am_wI h 154 0 (Int32.ofInt 0)).1 170 24 = nI x := (em_wn _ _ (by omega)).trans hx
  generalize am_wI h 154 0 (Int32.ofInt 0) = h261 at f262 f263 f264 f265 f266 f267 f268 f269 ⊢
  refine am_goX 3 (show am_rc h261 154 11 ∧ 0 ≤ 8 ∧ h261.2.2.2.2 + am_al 221 ≤ 175 ∧ am_call am_cod 3 221 [.ref 154, .int (nI p)] h261 (fun vv h' => pz_S 4 (some .int) am_r239 3 Q 10 [(0, .ref 154), (1, .int (nI p)), (2, .int w)] (vv.toList ++ []) h') from ⟨Or.inl ⟨by decide, ex_154 f262⟩, by decide, ex_lim f262 rfl, am_call.up (d_221_r f262 f264 ?_) (by decide)⟩)
  rw [show d_221 C (nI p) = Int32.ofInt 1 from ((d_221_e _).trans (v_87 hp))]
  refine am_goX 1 (show ((Int32.ofInt 1) = 0 → pz_S 4 (some .int) am_r239 3 Q 22 [(0, .ref 154), (1, .int (nI p)), (2, .int w)] [] h261) ∧ (¬ ((Int32.ofInt 1) = 0) → pz_S 4 (some .int) am_r239 3 Q 13 [(0, .ref 154), (1, .int (nI p)), (2, .int w)] [] h261) from ⟨fun hz => absurd hz (by decide), fun _ => ?_⟩)
  refine am_goX 4 (show 0 ≤ 8 ∧ h261.2.2.2.2 + am_al 207 ≤ 175 ∧ am_call am_cod 3 207 [.int w, .int (Int32.ofInt 0), .int (Int32.ofInt 4)] h261 (fun vv h' => pz_S 4 (some .int) am_r239 3 Q 19 [(0, .ref 154), (1, .int (nI p)), (2, .int w)] (vv.toList ++ []) h') from ⟨by decide, ex_lim f262 rfl, am_call.up (d_207_w f262 ?_) (by decide)⟩)
  rw [show d_207 w (Int32.ofInt 0) (Int32.ofInt 4) = Int32.ofInt 0 from ((d_207_e _ _ _).trans ew)]
  refine am_goX 1 (show (¬ (Int32.ofInt 0) = 0 → pz_S 4 (some .int) am_r239 3 Q 24 [(0, .ref 154), (1, .int (nI p)), (2, .int w)] [] h261) ∧ (¬ ¬ (Int32.ofInt 0) = 0 → pz_S 4 (some .int) am_r239 3 Q 22 [(0, .ref 154), (1, .int (nI p)), (2, .int w)] [] h261) from ⟨fun hz => absurd hz (by decide), fun _ => ?_⟩)
  exact am_goX 2 (show (∃ ty, (some .int) = some ty ∧ narrow ty (.int (Int32.ofInt (-1))) = .int (Int32.ofInt (-1))) ∧ h261.2.2.2.2 = 175 ∧ _ from ⟨⟨.int, rfl, rfl⟩, ex_175 f262, hQ _ f262 f263 f264 f265 f266 f267 f268 f269⟩)
def d_241_s (s : dS) (p : Nat) : dS := sSX (sSL s p (Int32.ofInt 2)) (((sSL s p (Int32.ofInt 2)).2.1) + (Int32.ofInt 1))
theorem d_241_L (hP : ex_P h) (hI : cI C) (hT : tR C h) (hO : ∀ e, e < dE C → h.1 172 e = dW V e) (hS : sR 0 (dP C) s h) (hH : hL (dP C) H h) (hM : mL (dP C) M h) (hx : h.1 170 24 = nI x) (hp : p < dP C) (hQ : ∀ h1, (ex_P h1) → (cI C) → (tR C h1) → (∀ e, e < dE C → h1.1 172 e = dW V e) → (sR 0 (dP C) (d_241_s s p) h1) → (hL (dP C) H h1) → (mL (dP C) M h1) → (h1.1 170 24 = nI x) → Q none h1) : am_call am_cod 1 241 [.ref 154, .int (Int32.ofInt 0), .int (nI p)] h Q := by
  have h6 := hT.1.2.1
  have h5 := hT.2.1.2.1
  refine pz_call (n := 241) (nL := 3) (rt := none) (rows := am_r241) (d := 0) (by decide +kernel) (by decide +kernel) rfl (by funext pc; rfl) (ex_175 hP) (by exact Nat.le_of_ble_eq_true rfl) ?_
  refine am_goX 2 (show am_sh h 154 = some (11, 0) ∧ pz_S 3 none am_r241 0 Q 4 [(0, .ref 154), (1, .int (Int32.ofInt 0)), (2, .int (nI p))] [am_rf (h.2.2.1 154 24)] h from ⟨ex_154 hP, ?_⟩)
  rw [show am_rf (h.2.2.1 154 24) = .ref 170 from congrArg am_rf (ex_r154_24 hP)]
  refine am_goX 7 (show ∃ jj nn : Nat, am_so h 170 = some (13, nn) ∧ jj < nn ∧ ((Int32.ofInt 0) + (Int32.ofInt 2)) + (nI p) = nI jj ∧ pz_S 3 none am_r241 0 Q 11 [(0, .ref 154), (1, .int (Int32.ofInt 0)), (2, .int (nI p))] [] (am_wI h 170 jj (Int32.ofInt 2)) from ⟨(2 + p), 1127, ex_w170 hP, (by omega), (dn_a (dn_a rfl rfl) rfl), ?_⟩)
  have f271 : ex_P (am_wI h 170 (2 + p) (Int32.ofInt 2)) := hP
  have f272 : cI C := hI
  have f273 : tR C (am_wI h 170 (2 + p) (Int32.ofInt 2)) := tR_w (by omega) hT
  have f274 : ∀ e, e < dE C → (am_wI h 170 (2 + p) (Int32.ofInt 2)).1 172 e = dW V e := on_w (by omega) hO
  have f275 : sR 0 (dP C) (sSL s p (Int32.ofInt 2)) (am_wI h 170 (2 + p) (Int32.ofInt 2)) := sR_wL (i := p) (by omega) (by omega) hS
  have f276 : hL (dP C) H (am_wI h 170 (2 + p) (Int32.ofInt 2)) := hL_w (by omega) hH
  have f277 : mL (dP C) M (am_wI h 170 (2 + p) (Int32.ofInt 2)) := mL_w (by omega) hM
  have f278 : (am_wI h 170 (2 + p) (Int32.ofInt 2)).1 170 24 = nI x := (em_wn _ _ (by omega)).trans hx
  generalize am_wI h 170 (2 + p) (Int32.ofInt 2) = h270 at f271 f272 f273 f274 f275 f276 f277 f278 ⊢
  refine am_goX 2 (show am_sh h270 154 = some (11, 0) ∧ pz_S 3 none am_r241 0 Q 15 [(0, .ref 154), (1, .int (Int32.ofInt 0)), (2, .int (nI p))] [am_rf (h270.2.2.1 154 24)] h270 from ⟨ex_154 f271, ?_⟩)
  rw [show am_rf (h270.2.2.1 154 24) = .ref 170 from congrArg am_rf (ex_r154_24 f271)]
  refine am_goX 5 (show (Value.int ((Int32.ofInt 0) + (Int32.ofInt 1))).category = 1 ∧ (Value.ref 170).category = 1 ∧ ∃ jj nn : Nat, am_sh h270 170 = some (13, nn) ∧ jj < nn ∧ (Int32.ofInt 0) + (Int32.ofInt 1) = nI jj ∧ pz_S 3 none am_r241 0 Q 20 [(0, .ref 154), (1, .int (Int32.ofInt 0)), (2, .int (nI p))] [.int (h270.1 170 jj), .int ((Int32.ofInt 0) + (Int32.ofInt 1)), .ref 170] h270 from ⟨rfl, rfl, ⟨1, 1127, ex_170 f271, (by omega), (dn_a rfl rfl), ?_⟩⟩)
  rw [show h270.1 170 1 = (sSL s p (Int32.ofInt 2)).2.1 from f275.1.2]
  refine am_goX 3 (show ∃ jj nn : Nat, am_so h270 170 = some (13, nn) ∧ jj < nn ∧ (Int32.ofInt 0) + (Int32.ofInt 1) = nI jj ∧ pz_S 3 none am_r241 0 Q 23 [(0, .ref 154), (1, .int (Int32.ofInt 0)), (2, .int (nI p))] [] (am_wI h270 170 jj (((sSL s p (Int32.ofInt 2)).2.1) + (Int32.ofInt 1))) from ⟨1, 1127, ex_w170 f271, (by omega), (dn_a rfl rfl), ?_⟩)
  have f280 : ex_P (am_wI h270 170 1 (((sSL s p (Int32.ofInt 2)).2.1) + (Int32.ofInt 1))) := f271
  have f281 : cI C := f272
  have f282 : tR C (am_wI h270 170 1 (((sSL s p (Int32.ofInt 2)).2.1) + (Int32.ofInt 1))) := tR_w (by omega) f273
  have f283 : ∀ e, e < dE C → (am_wI h270 170 1 (((sSL s p (Int32.ofInt 2)).2.1) + (Int32.ofInt 1))).1 172 e = dW V e := on_w (by omega) f274
  have f284 : sR 0 (dP C) (sSX (sSL s p (Int32.ofInt 2)) (((sSL s p (Int32.ofInt 2)).2.1) + (Int32.ofInt 1))) (am_wI h270 170 1 (((sSL s p (Int32.ofInt 2)).2.1) + (Int32.ofInt 1))) := sR_wX (by omega) f275
  have f285 : hL (dP C) H (am_wI h270 170 1 (((sSL s p (Int32.ofInt 2)).2.1) + (Int32.ofInt 1))) := hL_w (by omega) f276
  have f286 : mL (dP C) M (am_wI h270 170 1 (((sSL s p (Int32.ofInt 2)).2.1) + (Int32.ofInt 1))) := mL_w (by omega) f277
  have f287 : (am_wI h270 170 1 (((sSL s p (Int32.ofInt 2)).2.1) + (Int32.ofInt 1))).1 170 24 = nI x := (em_wn _ _ (by omega)).trans f278
  generalize am_wI h270 170 1 (((sSL s p (Int32.ofInt 2)).2.1) + (Int32.ofInt 1)) = h279 at f280 f281 f282 f283 f284 f285 f286 f287 ⊢
  exact am_goX 1 (show (none : Option FieldType) = none ∧ h279.2.2.2.2 = 175 ∧ _ from ⟨rfl, ex_175 f280, hQ _ f280 f281 f282 f283 f284 f285 f286 f287⟩)
def d_240_s (C : sp_C) (s : dS) (H : dH) (p : Nat) : dS := d_241_s s p
def d_240_H (C : sp_C) (s : dS) (H : dH) (p : Nat) : dH := (hP1 H s)
def d_240 (C : sp_C) (s : dS) (H : dH) (p : Nat) : Int32 := (d_241_s s p).2.1
theorem d_240_L (hP : ex_P h) (hI : cI C) (hT : tR C h) (hO : ∀ e, e < dE C → h.1 172 e = dW V e) (hS : sR 0 (dP C) s h) (hH : hL (dP C) H h) (hM : mL (dP C) M h) (hx : h.1 170 24 = nI x) (hp : p < dP C) (hQ : ∀ h1, (ex_P h1) → (cI C) → (tR C h1) → (∀ e, e < dE C → h1.1 172 e = dW V e) → (sR 0 (dP C) (d_240_s C s H p) h1) → (hL (dP C) (d_240_H C s H p) h1) → (mL (dP C) M h1) → (h1.1 170 24 = nI x) → Q (some (.int (d_240 C s H p))) h1) : am_call am_cod 4 240 [.ref 154, .int (nI p)] h Q := by
  have h6 := hT.1.2.1
  have h5 := hT.2.1.2.1
  refine pz_call (n := 240) (nL := 2) (rt := (some .int)) (rows := am_r240) (d := 3) (by decide +kernel) (by decide +kernel) rfl (by funext pc; rfl) (ex_175 hP) (by exact Nat.le_of_ble_eq_true rfl) ?_
  refine am_goX 3 (show am_sh h 154 = some (11, 0) ∧ narrow (am_fty 11 0) (.int (Int32.ofInt 0)) = .int (Int32.ofInt 0) ∧ fits (am_fty 11 0) (.int (Int32.ofInt 0)) = true ∧ pz_S 2 (some .int) am_r240 3 Q 5 [(0, .ref 154), (1, .int (nI p))] [] (am_wI h 154 0 (Int32.ofInt 0)) from ⟨ex_154 hP, rfl, rfl, ?_⟩)
  have f289 : ex_P (am_wI h 154 0 (Int32.ofInt 0)) := hP
  have f290 : cI C := hI
  have f291 : tR C (am_wI h 154 0 (Int32.ofInt 0)) := tR_w (by omega) hT
  have f292 : ∀ e, e < dE C → (am_wI h 154 0 (Int32.ofInt 0)).1 172 e = dW V e := on_w (by omega) hO
  have f293 : sR 0 (dP C) s (am_wI h 154 0 (Int32.ofInt 0)) := sR_o (by omega) hS
  have f294 : hL (dP C) H (am_wI h 154 0 (Int32.ofInt 0)) := hL_w (by omega) hH
  have f295 : mL (dP C) M (am_wI h 154 0 (Int32.ofInt 0)) := mL_w (by omega) hM
  have f296 : (am_wI h 154 0 (Int32.ofInt 0)).1 170 24 = nI x := (em_wn _ _ (by omega)).trans hx
  generalize am_wI h 154 0 (Int32.ofInt 0) = h288 at f289 f290 f291 f292 f293 f294 f295 f296 ⊢
  refine am_goX 3 (show am_rc h288 154 11 ∧ 0 ≤ 8 ∧ h288.2.2.2.2 + am_al 221 ≤ 175 ∧ am_call am_cod 3 221 [.ref 154, .int (nI p)] h288 (fun vv h' => pz_S 2 (some .int) am_r240 3 Q 10 [(0, .ref 154), (1, .int (nI p))] (vv.toList ++ []) h') from ⟨Or.inl ⟨by decide, ex_154 f289⟩, by decide, ex_lim f289 rfl, am_call.up (d_221_r f289 f291 ?_) (by decide)⟩)
  rw [show d_221 C (nI p) = Int32.ofInt 1 from ((d_221_e _).trans (v_87 hp))]
  refine am_goX 1 (show (¬ (Int32.ofInt 1) = 0 → pz_S 2 (some .int) am_r240 3 Q 15 [(0, .ref 154), (1, .int (nI p))] [] h288) ∧ (¬ ¬ (Int32.ofInt 1) = 0 → pz_S 2 (some .int) am_r240 3 Q 13 [(0, .ref 154), (1, .int (nI p))] [] h288) from ⟨fun _ => ?_, fun hz => absurd (by decide) hz⟩)
  refine am_goX 2 (show am_rc h288 154 11 ∧ 0 ≤ 8 ∧ h288.2.2.2.2 + am_al 231 ≤ 175 ∧ am_call am_cod 3 231 [.ref 154] h288 (fun vv h' => pz_S 2 (some .int) am_r240 3 Q 19 [(0, .ref 154), (1, .int (nI p))] (vv.toList ++ []) h') from ⟨Or.inl ⟨by decide, ex_154 f289⟩, by decide, ex_lim f289 rfl, am_call.up (k_231 f291.1.2.1 f289 f293 f294 (fun h297 f298 f299 f300 => ?_)) (by decide)⟩)
  have f301 : tR C h297 := tR_fr (fun a k u1 u2 => f299.2 a k (by omega) (by omega)) f291
  have f302 : ∀ e, e < dE C → h297.1 172 e = dW V e := fun e he => (f299.2 172 e (by omega) (by omega)).trans (f292 e he)
  have f303 : sR 0 (dP C) s h297 := sR_fr (fun k u1 u2 => f299.2 170 k (by omega) (by omega)) f291.1.2.1 f293
  have f304 : mL (dP C) M h297 := mL_fr f291.1.2.1 (fun m hm => f299.2 171 m (by omega) (by omega)) (fun k u1 u2 => f299.2 170 k (by omega) (by omega)) f295
  have f305 : h297.1 170 24 = nI x := (f299.2 170 24 (by omega) (by omega)).trans f296
  refine am_goX 4 (show am_rc h297 154 11 ∧ 0 ≤ 8 ∧ h297.2.2.2.2 + am_al 241 ≤ 175 ∧ am_call am_cod 3 241 [.ref 154, .int (Int32.ofInt 0), .int (nI p)] h297 (fun vv h' => pz_S 2 (some .int) am_r240 3 Q 25 [(0, .ref 154), (1, .int (nI p))] (vv.toList ++ []) h') from ⟨Or.inl ⟨by decide, ex_154 f298⟩, by decide, ex_lim f298 rfl, am_call.up (d_241_L f298 f290 f301 f302 f303 f300 f304 f305 (by omega) (fun h306 f307 f308 f309 f310 f311 f312 f313 f314 => ?_)) (by decide)⟩)
  refine am_goX 2 (show am_sh h306 154 = some (11, 0) ∧ pz_S 2 (some .int) am_r240 3 Q 29 [(0, .ref 154), (1, .int (nI p))] [am_rf (h306.2.2.1 154 24)] h306 from ⟨ex_154 f307, ?_⟩)
  rw [show am_rf (h306.2.2.1 154 24) = .ref 170 from congrArg am_rf (ex_r154_24 f307)]
  refine am_goX 2 (show ∃ jj nn : Nat, am_sh h306 170 = some (13, nn) ∧ jj < nn ∧ Int32.ofInt 1 = nI jj ∧ pz_S 2 (some .int) am_r240 3 Q 31 [(0, .ref 154), (1, .int (nI p))] [.int (h306.1 170 jj)] h306 from ⟨1, 1127, ex_170 f307, (by omega), rfl, ?_⟩)
  rw [show h306.1 170 1 = (d_241_s s p).2.1 from f311.1.2]
  exact am_goX 1 (show (∃ ty, (some .int) = some ty ∧ narrow ty (.int ((d_241_s s p).2.1)) = .int ((d_241_s s p).2.1)) ∧ h306.2.2.2.2 = 175 ∧ _ from ⟨⟨.int, rfl, rfl⟩, ex_175 f307, hQ _ f307 f308 f309 f310 f311 f312 f313 f314⟩)
def d_240x  : Int32 := Int32.ofInt (-1)
theorem d_240_xL (hP : ex_P h) (hI : cI C) (hT : tR C h) (hO : ∀ e, e < dE C → h.1 172 e = dW V e) (hS : sR 0 (dP C) s h) (hH : hL (dP C) H h) (hM : mL (dP C) M h) (hx : h.1 170 24 = nI x) (ey : d_87 C y = Int32.ofInt 0) (hQ : ∀ h1, (ex_P h1) → (cI C) → (tR C h1) → (∀ e, e < dE C → h1.1 172 e = dW V e) → (sR 0 (dP C) s h1) → (hL (dP C) H h1) → (mL (dP C) M h1) → (h1.1 170 24 = nI x) → Q (some (.int d_240x)) h1) : am_call am_cod 4 240 [.ref 154, .int y] h Q := by
  have h6 := hT.1.2.1
  have h5 := hT.2.1.2.1
  refine pz_call (n := 240) (nL := 2) (rt := (some .int)) (rows := am_r240) (d := 3) (by decide +kernel) (by decide +kernel) rfl (by funext pc; rfl) (ex_175 hP) (by exact Nat.le_of_ble_eq_true rfl) ?_
  refine am_goX 3 (show am_sh h 154 = some (11, 0) ∧ narrow (am_fty 11 0) (.int (Int32.ofInt 0)) = .int (Int32.ofInt 0) ∧ fits (am_fty 11 0) (.int (Int32.ofInt 0)) = true ∧ pz_S 2 (some .int) am_r240 3 Q 5 [(0, .ref 154), (1, .int y)] [] (am_wI h 154 0 (Int32.ofInt 0)) from ⟨ex_154 hP, rfl, rfl, ?_⟩)
  have f316 : ex_P (am_wI h 154 0 (Int32.ofInt 0)) := hP
  have f317 : cI C := hI
  have f318 : tR C (am_wI h 154 0 (Int32.ofInt 0)) := tR_w (by omega) hT
  have f319 : ∀ e, e < dE C → (am_wI h 154 0 (Int32.ofInt 0)).1 172 e = dW V e := on_w (by omega) hO
  have f320 : sR 0 (dP C) s (am_wI h 154 0 (Int32.ofInt 0)) := sR_o (by omega) hS
  have f321 : hL (dP C) H (am_wI h 154 0 (Int32.ofInt 0)) := hL_w (by omega) hH
  have f322 : mL (dP C) M (am_wI h 154 0 (Int32.ofInt 0)) := mL_w (by omega) hM
  have f323 : (am_wI h 154 0 (Int32.ofInt 0)).1 170 24 = nI x := (em_wn _ _ (by omega)).trans hx
  generalize am_wI h 154 0 (Int32.ofInt 0) = h315 at f316 f317 f318 f319 f320 f321 f322 f323 ⊢
  refine am_goX 3 (show am_rc h315 154 11 ∧ 0 ≤ 8 ∧ h315.2.2.2.2 + am_al 221 ≤ 175 ∧ am_call am_cod 3 221 [.ref 154, .int y] h315 (fun vv h' => pz_S 2 (some .int) am_r240 3 Q 10 [(0, .ref 154), (1, .int y)] (vv.toList ++ []) h') from ⟨Or.inl ⟨by decide, ex_154 f316⟩, by decide, ex_lim f316 rfl, am_call.up (d_221_r f316 f318 ?_) (by decide)⟩)
  rw [show d_221 C y = Int32.ofInt 0 from ((d_221_e _).trans ey)]
  refine am_goX 1 (show (¬ (Int32.ofInt 0) = 0 → pz_S 2 (some .int) am_r240 3 Q 15 [(0, .ref 154), (1, .int y)] [] h315) ∧ (¬ ¬ (Int32.ofInt 0) = 0 → pz_S 2 (some .int) am_r240 3 Q 13 [(0, .ref 154), (1, .int y)] [] h315) from ⟨fun hz => absurd hz (by decide), fun _ => ?_⟩)
  exact am_goX 2 (show (∃ ty, (some .int) = some ty ∧ narrow ty (.int (Int32.ofInt (-1))) = .int (Int32.ofInt (-1))) ∧ h315.2.2.2.2 = 175 ∧ _ from ⟨⟨.int, rfl, rfl⟩, ex_175 f316, hQ _ f316 f317 f318 f319 f320 f321 f322 f323⟩)
theorem hL_pop {P : Nat} {H : dH} {h : am_H} {v : Int32} (h0 : 0 < H.1) (hv : v = nI (H.1 - 1)) (h6 : P ≤ 6) (l : hL P H h) : hL P (hP0 H) (am_wI h 154 25 v) := by
  refine ⟨Nat.le_trans (Nat.sub_le _ _) l.1, (em_we _ _ _ _).trans hv, fun j hj => ?_⟩
  have hj : j < H.1 - 1 := hj
  have w := l.2.2 (j + 1) (by omega)
  show sR (245 + 49 * (H.1 - 1 - 1 - j)) P (H.2 (j + 1)) _
  rw [show H.1 - 1 - 1 - j = H.1 - 1 - (j + 1) by omega]
  exact sR_fr (fun k u1 u2 => em_wn _ _ (by omega)) h6 w
def d_242_s (H : dH) : dS := (H.2 0)
def d_242_H (H : dH) : dH := (hP0 H)
def d_242 (H : dH) : Int32 := Int32.ofInt 1
theorem d_242_L (hP : ex_P h) (hI : cI C) (hT : tR C h) (hO : ∀ e, e < dE C → h.1 172 e = dW V e) (hS : sR 0 (dP C) s h) (hH : hL (dP C) H h) (hM : mL (dP C) M h) (hx : h.1 170 24 = nI x) (hn : 0 < H.1) (hQ : ∀ h1, (ex_P h1) → (cI C) → (tR C h1) → (∀ e, e < dE C → h1.1 172 e = dW V e) → (sR 0 (dP C) (d_242_s H) h1) → (hL (dP C) (d_242_H H) h1) → (mL (dP C) M h1) → (h1.1 170 24 = nI x) → Q (some (.int (d_242 H))) h1) : am_call am_cod 3 242 [.ref 154] h Q := by
  have h6 := hT.1.2.1
  have h5 := hT.2.1.2.1
  have h16 := hH.1
  refine pz_call (n := 242) (nL := 1) (rt := (some .boolean)) (rows := am_r242) (d := 2) (by decide +kernel) (by decide +kernel) rfl (by funext pc; rfl) (ex_175 hP) (by exact Nat.le_of_ble_eq_true rfl) ?_
  refine am_goX 3 (show am_sh h 154 = some (11, 0) ∧ narrow (am_fty 11 0) (.int (Int32.ofInt 0)) = .int (Int32.ofInt 0) ∧ fits (am_fty 11 0) (.int (Int32.ofInt 0)) = true ∧ pz_S 1 (some .boolean) am_r242 2 Q 5 [(0, .ref 154)] [] (am_wI h 154 0 (Int32.ofInt 0)) from ⟨ex_154 hP, rfl, rfl, ?_⟩)
  have f325 : ex_P (am_wI h 154 0 (Int32.ofInt 0)) := hP
  have f326 : cI C := hI
  have f327 : tR C (am_wI h 154 0 (Int32.ofInt 0)) := tR_w (by omega) hT
  have f328 : ∀ e, e < dE C → (am_wI h 154 0 (Int32.ofInt 0)).1 172 e = dW V e := on_w (by omega) hO
  have f329 : sR 0 (dP C) s (am_wI h 154 0 (Int32.ofInt 0)) := sR_o (by omega) hS
  have f330 : hL (dP C) H (am_wI h 154 0 (Int32.ofInt 0)) := hL_w (by omega) hH
  have f331 : mL (dP C) M (am_wI h 154 0 (Int32.ofInt 0)) := mL_w (by omega) hM
  have f332 : (am_wI h 154 0 (Int32.ofInt 0)).1 170 24 = nI x := (em_wn _ _ (by omega)).trans hx
  generalize am_wI h 154 0 (Int32.ofInt 0) = h324 at f325 f326 f327 f328 f329 f330 f331 f332 ⊢
  refine am_goX 2 (show am_sh h324 154 = some (11, 0) ∧ pz_S 1 (some .boolean) am_r242 2 Q 9 [(0, .ref 154)] [.int (h324.1 154 25)] h324 from ⟨ex_154 f325, ?_⟩)
  rw [show h324.1 154 25 = nI H.1 from f330.2.1]
  refine am_goX 1 (show (¬ (nI H.1) = 0 → pz_S 1 (some .boolean) am_r242 2 Q 14 [(0, .ref 154)] [] h324) ∧ (¬ ¬ (nI H.1) = 0 → pz_S 1 (some .boolean) am_r242 2 Q 12 [(0, .ref 154)] [] h324) from ⟨fun _ => ?_, fun hz => absurd (nI_n0 hn (by omega)) hz⟩)
  refine am_goX 3 (show (Value.ref 154).category = 1 ∧ am_sh h324 154 = some (11, 0) ∧ pz_S 1 (some .boolean) am_r242 2 Q 19 [(0, .ref 154)] [.int (h324.1 154 25), .ref 154] h324 from ⟨rfl, ex_154 f325, ?_⟩)
  rw [show h324.1 154 25 = nI H.1 from f330.2.1]
  refine am_goX 2 (show pz_S 1 (some .boolean) am_r242 2 Q 21 [(0, .ref 154)] [.int ((nI H.1) - (Int32.ofInt 1)), .ref 154] h324 from ?_)
  have f333 : sR (245 + 49 * (H.1 - 1 - 0)) (dP C) (H.2 0) h324 := f330.2.2 0 hn
  refine am_goX 1 (show am_sh h324 154 = some (11, 0) ∧ narrow (am_fty 11 25) (.int ((nI H.1) - (Int32.ofInt 1))) = .int ((nI H.1) - (Int32.ofInt 1)) ∧ fits (am_fty 11 25) (.int ((nI H.1) - (Int32.ofInt 1))) = true ∧ pz_S 1 (some .boolean) am_r242 2 Q 24 [(0, .ref 154)] [] (am_wI h324 154 25 ((nI H.1) - (Int32.ofInt 1))) from ⟨ex_154 f325, rfl, rfl, ?_⟩)
  have f335 : ex_P (am_wI h324 154 25 ((nI H.1) - (Int32.ofInt 1))) := f325
  have f336 : cI C := f326
  have f337 : tR C (am_wI h324 154 25 ((nI H.1) - (Int32.ofInt 1))) := tR_w (by omega) f327
  have f338 : ∀ e, e < dE C → (am_wI h324 154 25 ((nI H.1) - (Int32.ofInt 1))).1 172 e = dW V e := on_w (by omega) f328
  have f339 : sR 0 (dP C) s (am_wI h324 154 25 ((nI H.1) - (Int32.ofInt 1))) := sR_o (by omega) f329
  have f340 : hL (dP C) (hP0 H) (am_wI h324 154 25 ((nI H.1) - (Int32.ofInt 1))) := hL_pop hn ((dn_s (by omega) rfl rfl)) (f327.1.2.1) f330
  have f341 : mL (dP C) M (am_wI h324 154 25 ((nI H.1) - (Int32.ofInt 1))) := mL_w (by omega) f331
  have f342 : (am_wI h324 154 25 ((nI H.1) - (Int32.ofInt 1))).1 170 24 = nI x := (em_wn _ _ (by omega)).trans f332
  have f343 : sR (245 + 49 * (H.1 - 1 - 0)) (dP C) (H.2 0) (am_wI h324 154 25 ((nI H.1) - (Int32.ofInt 1))) := sR_o (by omega) f333
  generalize am_wI h324 154 25 ((nI H.1) - (Int32.ofInt 1)) = h334 at f335 f336 f337 f338 f339 f340 f341 f342 f343 ⊢
  refine am_goX 5 (show am_sh h334 154 = some (11, 0) ∧ pz_S 1 (some .boolean) am_r242 2 Q 32 [(0, .ref 154)] [.int (h334.1 154 25), .int (Int32.ofInt 5), .int ((Int8.ofInt 49).toInt32), .ref 154] h334 from ⟨ex_154 f335, ?_⟩)
  rw [show h334.1 154 25 = nI (H.1 - 1) from f340.2.1]
  refine am_goX 4 (show pz_S 1 (some .boolean) am_r242 2 Q 37 [(0, .ref 154)] [.int ((Int8.ofInt 24).toInt32), .int (Int32.ofInt 0), .int (((Int8.ofInt 49).toInt32) * ((Int32.ofInt 5) + (nI (H.1 - 1)))), .ref 154] h334 from ?_)
  rw [show ((Int8.ofInt 49).toInt32) * ((Int32.ofInt 5) + (nI (H.1 - 1))) = nI (49 * (5 + (H.1 - 1))) from (dn_m (show (Int8.ofInt 49).toInt32 = nI 49 by decide) (dn_a rfl rfl))]
  rw [show Int32.ofInt 0 = nI 0 from rfl]
  rw [show (Int8.ofInt 24).toInt32 = nI 24 from (show (Int8.ofInt 24).toInt32 = nI 24 by decide)]
  refine am_goX 1 (show am_rc h334 154 11 ∧ 0 ≤ 8 ∧ h334.2.2.2.2 + am_al 232 ≤ 175 ∧ am_call am_cod 2 232 [.ref 154, .int (nI (49 * (5 + (H.1 - 1)))), .int (nI 0), .int (nI 24)] h334 (fun vv h' => pz_S 1 (some .boolean) am_r242 2 Q 40 [(0, .ref 154)] (vv.toList ++ []) h') from ⟨Or.inl ⟨by decide, ex_154 f335⟩, by decide, ex_lim f335 rfl, am_call.up (q_232 (A := (49 * (5 + (H.1 - 1)))) (B := 0) (K := 24) rfl rfl rfl (by omega) (by omega) (by omega) f335 (fun h344 f345 f346 f347 f348 => ?_)) (by decide)⟩)
  have f349 : sR 0 (dP C) (H.2 0) h344 := sR_cp (A := 245 + 49 * (H.1 - 1 - 0)) (fun j hj => by have w := f348 j hj; rw [show (49 * (5 + (H.1 - 1))) + j = 245 + 49 * (H.1 - 1 - 0) + j by omega] at w; exact w) h6 f343
  have f350 : tR C h344 := tR_fr (fun a k u1 u2 => f347 a k (by omega)) f337
  have f351 : ∀ e, e < dE C → h344.1 172 e = dW V e := fun e he => (f347 172 e (by omega)).trans (f338 e he)
  have f352 : hL (dP C) (hP0 H) h344 := hL_fr f337.1.2.1 (f347 154 25 (by omega)) (fun k u1 u2 => f347 170 k (by omega)) f340
  have f353 : mL (dP C) M h344 := mL_fr f337.1.2.1 (fun m hm => f347 171 m (by omega)) (fun k u1 u2 => f347 170 k (by omega)) f341
  have f354 : h344.1 170 24 = nI x := (f347 170 24 (by omega)).trans f342
  exact am_goX 2 (show (∃ ty, (some .boolean) = some ty ∧ narrow ty (.int (Int32.ofInt 1)) = .int (Int32.ofInt 1)) ∧ h344.2.2.2.2 = 175 ∧ _ from ⟨⟨.boolean, rfl, rfl⟩, ex_175 f345, hQ _ f345 f336 f350 f351 f349 f352 f353 f354⟩)
def d_242z  : Int32 := Int32.ofInt 0
theorem d_242_zL (hP : ex_P h) (hI : cI C) (hT : tR C h) (hO : ∀ e, e < dE C → h.1 172 e = dW V e) (hS : sR 0 (dP C) s h) (hH : hL (dP C) H h) (hM : mL (dP C) M h) (hx : h.1 170 24 = nI x) (hn : H.1 = 0) (hQ : ∀ h1, (ex_P h1) → (cI C) → (tR C h1) → (∀ e, e < dE C → h1.1 172 e = dW V e) → (sR 0 (dP C) s h1) → (hL (dP C) H h1) → (mL (dP C) M h1) → (h1.1 170 24 = nI x) → Q (some (.int d_242z)) h1) : am_call am_cod 3 242 [.ref 154] h Q := by
  have h6 := hT.1.2.1
  have h5 := hT.2.1.2.1
  have h16 := hH.1
  refine pz_call (n := 242) (nL := 1) (rt := (some .boolean)) (rows := am_r242) (d := 2) (by decide +kernel) (by decide +kernel) rfl (by funext pc; rfl) (ex_175 hP) (by exact Nat.le_of_ble_eq_true rfl) ?_
  refine am_goX 3 (show am_sh h 154 = some (11, 0) ∧ narrow (am_fty 11 0) (.int (Int32.ofInt 0)) = .int (Int32.ofInt 0) ∧ fits (am_fty 11 0) (.int (Int32.ofInt 0)) = true ∧ pz_S 1 (some .boolean) am_r242 2 Q 5 [(0, .ref 154)] [] (am_wI h 154 0 (Int32.ofInt 0)) from ⟨ex_154 hP, rfl, rfl, ?_⟩)
  have f356 : ex_P (am_wI h 154 0 (Int32.ofInt 0)) := hP
  have f357 : cI C := hI
  have f358 : tR C (am_wI h 154 0 (Int32.ofInt 0)) := tR_w (by omega) hT
  have f359 : ∀ e, e < dE C → (am_wI h 154 0 (Int32.ofInt 0)).1 172 e = dW V e := on_w (by omega) hO
  have f360 : sR 0 (dP C) s (am_wI h 154 0 (Int32.ofInt 0)) := sR_o (by omega) hS
  have f361 : hL (dP C) H (am_wI h 154 0 (Int32.ofInt 0)) := hL_w (by omega) hH
  have f362 : mL (dP C) M (am_wI h 154 0 (Int32.ofInt 0)) := mL_w (by omega) hM
  have f363 : (am_wI h 154 0 (Int32.ofInt 0)).1 170 24 = nI x := (em_wn _ _ (by omega)).trans hx
  generalize am_wI h 154 0 (Int32.ofInt 0) = h355 at f356 f357 f358 f359 f360 f361 f362 f363 ⊢
  refine am_goX 2 (show am_sh h355 154 = some (11, 0) ∧ pz_S 1 (some .boolean) am_r242 2 Q 9 [(0, .ref 154)] [.int (h355.1 154 25)] h355 from ⟨ex_154 f356, ?_⟩)
  rw [show h355.1 154 25 = nI H.1 from f361.2.1]
  refine am_goX 1 (show (¬ (nI H.1) = 0 → pz_S 1 (some .boolean) am_r242 2 Q 14 [(0, .ref 154)] [] h355) ∧ (¬ ¬ (nI H.1) = 0 → pz_S 1 (some .boolean) am_r242 2 Q 12 [(0, .ref 154)] [] h355) from ⟨fun hz => absurd hz (fun w => w (by rw [hn]; rfl)), fun _ => ?_⟩)
  exact am_goX 2 (show (∃ ty, (some .boolean) = some ty ∧ narrow ty (.int (Int32.ofInt 0)) = .int (Int32.ofInt 0)) ∧ h355.2.2.2.2 = 175 ∧ _ from ⟨⟨.boolean, rfl, rfl⟩, ex_175 f356, hQ _ f356 f357 f358 f359 f360 f361 f362 f363⟩)
