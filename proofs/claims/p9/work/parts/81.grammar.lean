/-! THE LAW'S GRAMMAR BY HAND -/
variable {N a c : Nat} {h : am_H}
theorem pz_e161 : ag_sg 161 = [] ∧ ag_sg 162 = [] := by decide +kernel
/-- one more code -/
theorem pz_emP {x y : Int32} (hP : pz_P N a c h) (hc : c ≤ 1000) : pz_P N a (c + 1) (em_h h c x y) := by
  obtain ⟨p1, p2, p3, p4, p5, p6, p7⟩ := hP
  have hz : (nI (c + 1)).toInt = (c + 1 : Nat) := nI_toInt (by omega)
  refine ⟨?_, ?_, p3, ?_, p5, em_n h c x y, by omega⟩
  · unfold em_h
    refine pz_wW (pz_wW (pz_wW p1 (by decide) (fun s hs => ?_)) (by decide) (fun s hs => ?_)) (by decide) (pz_sgv pz_sg13 (by omega) (by omega))
    · rw [pz_e161.1] at hs
      exact absurd hs List.not_mem_nil
    · rw [pz_e161.2] at hs
      exact absurd hs List.not_mem_nil
  · unfold em_h
    refine pz_wX (pz_wX (pz_wX p2 ?_) ?_) ?_
    · unfold ag_kp
      omega
    · unfold ag_kp
      omega
    · unfold ag_kp
      omega
  · rw [em_o h c x y (by omega) (by omega) (by omega)]
    exact p4
theorem pz_emf {x y : Int32} (hc : c ≤ 1000) : ag_fr pz_M h (em_h h c x y) := by
  unfold em_h
  have q : ∀ o, o = 161 ∨ o = 162 → ag_atM pz_M o (1100 + c) = true := fun o ho => by
    have e1 : Nat.ble 1100 (1100 + c) = true := Nat.ble_eq_true_of_le (by omega)
    have e2 : Nat.ble (1100 + c) 2199 = true := Nat.ble_eq_true_of_le (by omega)
    unfold ag_atM pz_M
    rcases ho with rfl | rfl
    · simp [List.any, e1, e2]
    · simp [List.any, e1, e2]
  exact pz_tr (pz_tr (pz_fr (q 161 (Or.inl rfl))) (pz_fr (q 162 (Or.inr rfl)))) (pz_fr rfl)
theorem pz_emit {Q : am_Q} {x y : Int32} {k k' : Nat} (hP : pz_P N a c h) (hc : c ≤ a) (hK : pz_K k h)
    (hx : (x = 1 ∧ k' = k + 1) ∨ (x = 2 ∧ (∃ a0 : Nat, a0 < 4 ∧ y = nI a0) ∧ k' = k + 1) ∨ (x = 3 ∧ 1 ≤ k ∧ k' = k) ∨ ((∃ q : Nat, 4 ≤ q ∧ q ≤ 10 ∧ x = nI q) ∧ 2 ≤ k ∧ k' + 1 = k))
    (hQ : ∀ h', pz_P N a (c + 1) h' → ag_fr pz_M h h' → pz_K k' h' → Q none h') : am_call am_cod 1 216 [.ref 154, .int x, .int y] h Q := by
  have h1 := hP.2.2.1
  have h2 := hP.2.2.2.2.1
  refine em_call hP.1 hP.2.2.2.2.2.1 (by omega) (hQ _ (pz_emP hP (by omega)) (pz_emf (by omega)) ?_)
  rcases hK with z | z
  · left
    rw [em_o h c x y (by omega) (by omega) (by omega)]
    exact z
  · right
    refine em_fact z hP.2.2.2.2.2.1 (by omega) ?_
    rcases hx with ⟨q1, q2⟩ | ⟨q1, q3, q2⟩ | ⟨q1, q3, q2⟩ | ⟨q1, q3, q2⟩
    · exact Or.inl ⟨q1, by omega⟩
    · exact Or.inr (Or.inl ⟨q1, q3, by omega⟩)
    · exact Or.inr (Or.inr (Or.inl ⟨q1, by omega, by omega⟩))
    · exact Or.inr (Or.inr (Or.inr ⟨q1, by omega, by omega⟩))
/-- a word among some -/
def pz_hr (h : am_H) (a f m : Nat) (r : Int32) : Prop := r = Int32.ofInt (-1) ∨ ∃ k, k < m ∧ r = nI k ∧ pz_wd h a (f + k) = true
theorem pz_hl {Q : am_Q} {f m : Nat} (hP : pz_P N a c h) (hfm : f + m ≤ 21) (hQ : ∀ r : Int32, pz_hr h a f m r → Q (some (.int r)) h) : ∀ (n k : Nat) (w : Int32), k + n = m → pz_hr h a f m w → pz_S 5 (some .int) am_r199 1 Q 5 [(4, .int (nI k)), (3, .int w), (0, .ref 154), (1, .int (nI f)), (2, .int (nI m))] [] h := by
  intro n
  induction n with
  | zero =>
    intro k w hk hw
    refine am_goX 3 (show ((nI m) ≤ (nI k) → pz_S 5 (some .int) am_r199 1 Q 35 [(4, .int (nI k)), (3, .int w), (0, .ref 154), (1, .int (nI f)), (2, .int (nI m))] [] h) ∧ (¬ ((nI m) ≤ (nI k)) → pz_S 5 (some .int) am_r199 1 Q 11 [(4, .int (nI k)), (3, .int w), (0, .ref 154), (1, .int (nI f)), (2, .int (nI m))] [] h) from ⟨fun hc => ?_, fun hc => ?_⟩)
    · exact am_goX 2 (show (∃ ty, (some .int) = some ty ∧ narrow ty (.int (w)) = .int (w)) ∧ h.2.2.2.2 = 175 ∧ _ from ⟨⟨.int, rfl, rfl⟩, pz_175 hP, hQ w hw⟩)
    · exact absurd (nI_le (by omega) (by omega)) hc
  | succ n ih =>
    intro k w hk hw
    refine am_goX 3 (show ((nI m) ≤ (nI k) → pz_S 5 (some .int) am_r199 1 Q 35 [(4, .int (nI k)), (3, .int w), (0, .ref 154), (1, .int (nI f)), (2, .int (nI m))] [] h) ∧ (¬ ((nI m) ≤ (nI k)) → pz_S 5 (some .int) am_r199 1 Q 11 [(4, .int (nI k)), (3, .int w), (0, .ref 154), (1, .int (nI f)), (2, .int (nI m))] [] h) from ⟨fun hc => ?_, fun hc => ?_⟩)
    · exact absurd hc (nI_ge (by omega) (by omega))
    · refine am_goX 5 (show am_rc h 154 11 ∧ 0 ≤ 8 ∧ h.2.2.2.2 + am_al 195 ≤ 175 ∧ am_call am_cod 1 195 [.ref 154, .int ((nI f) + (nI k))] h (fun vv h' => pz_S 5 (some .int) am_r199 1 Q 19 [(4, .int (nI k)), (3, .int w), (0, .ref 154), (1, .int (nI f)), (2, .int (nI m))] (vv.toList ++ []) h') from ⟨pz_rc hP, by decide, pz_lim hP rfl, ?_⟩)
      rw [nI_add]
      refine pz_word hP (by omega) ?_
      cases e : pz_wd h a (f + k) with
      | true =>
        refine am_goX 1 (show (pz_b true = 0 → pz_S 5 (some .int) am_r199 1 Q 27 [(4, .int (nI k)), (3, .int w), (0, .ref 154), (1, .int (nI f)), (2, .int (nI m))] [] h) ∧ (¬ pz_b true = 0 → pz_S 5 (some .int) am_r199 1 Q 22 [(4, .int (nI k)), (3, .int w), (0, .ref 154), (1, .int (nI f)), (2, .int (nI m))] [] h) from ⟨fun z => absurd z (by decide), fun _ => ?_⟩)
        refine am_goX 3 (show 3 < 5 ∧ pz_S 5 (some .int) am_r199 1 Q 29 [(3, .int (nI k)), (4, .int (nI k)), (0, .ref 154), (1, .int (nI f)), (2, .int (nI m))] [] h from ⟨by decide, ?_⟩)
        refine am_goX 2 (show 4 < 5 ∧ pz_S 5 (some .int) am_r199 1 Q 5 [(4, .int (nI k + Int32.ofInt 1)), (3, .int (nI k)), (0, .ref 154), (1, .int (nI f)), (2, .int (nI m))] [] h from ⟨by decide, ?_⟩)
        rw [xw_i1]
        exact ih (k + 1) _ (by omega) (Or.inr ⟨k, by omega, rfl, e⟩)
      | false =>
        refine am_goX 1 (show (pz_b false = 0 → pz_S 5 (some .int) am_r199 1 Q 27 [(4, .int (nI k)), (3, .int w), (0, .ref 154), (1, .int (nI f)), (2, .int (nI m))] [] h) ∧ (¬ pz_b false = 0 → pz_S 5 (some .int) am_r199 1 Q 22 [(4, .int (nI k)), (3, .int w), (0, .ref 154), (1, .int (nI f)), (2, .int (nI m))] [] h) from ⟨fun _ => ?_, fun z => absurd rfl z⟩)
        refine am_goX 2 (show 3 < 5 ∧ pz_S 5 (some .int) am_r199 1 Q 29 [(3, .int w), (4, .int (nI k)), (0, .ref 154), (1, .int (nI f)), (2, .int (nI m))] [] h from ⟨by decide, ?_⟩)
        refine am_goX 2 (show 4 < 5 ∧ pz_S 5 (some .int) am_r199 1 Q 5 [(4, .int (nI k + Int32.ofInt 1)), (3, .int w), (0, .ref 154), (1, .int (nI f)), (2, .int (nI m))] [] h from ⟨by decide, ?_⟩)
        rw [xw_i1]
        exact ih (k + 1) _ (by omega) (hw)
theorem pz_here {Q : am_Q} {f m : Nat} (hP : pz_P N a c h) (hfm : f + m ≤ 21) (hQ : ∀ r : Int32, pz_hr h a f m r → Q (some (.int r)) h) : am_call am_cod 2 199 [.ref 154, .int (nI f), .int (nI m)] h Q := by
  refine pz_call (n := 199) (nL := 5) (rt := (some .int)) (rows := am_r199) (d := 1) (by decide +kernel) (by decide +kernel) rfl (by funext pc; rfl) (pz_175 hP) (by exact Nat.le_of_ble_eq_true rfl) ?_
  refine am_goX 4 (show 3 < 5 ∧ 4 < 5 ∧ pz_S 5 (some .int) am_r199 1 Q 5 [(4, .int (Int32.ofInt 0)), (3, .int (Int32.ofInt (-1))), (0, .ref 154), (1, .int (nI f)), (2, .int (nI m))] [] h from ⟨by decide, by decide, ?_⟩)
  exact pz_hl hP hfm hQ m 0 _ (Nat.zero_add m) (Or.inl rfl)
/-- what each of the five does: one part more, no more codes than tokens -/
def pz_T (D n d : Nat) : Prop := ∀ (N a c k : Nat) (h : am_H) (Q : am_Q), pz_P N a c h → c ≤ a → pz_K k h → (∀ a' c' h', pz_P N a' c' h' → ag_fr pz_M h h' → a ≤ a' → c' + a ≤ c + a' → pz_K (k + 1) h' → Q none h') → am_call am_cod D n [.ref 154, .int (nI d)] h Q
def pz_po (N a c k : Nat) (h0 : am_H) (a' c' : Nat) (h' : am_H) : Prop := pz_P N a' c' h' ∧ ag_fr pz_M h0 h' ∧ a ≤ a' ∧ c' + a ≤ c + a' ∧ pz_K k h'

theorem pz_prl {D d N a c k : Nat} {h : am_H} {Q : am_Q} (hD : 2 ≤ D) (hT : pz_T D 214 d) (hca : c ≤ a) (hQ : ∀ a' c' h', pz_po N a c (k + 1) h a' c' h' → Q none h') : ∀ (n a1 c1 : Nat) (h1 : am_H), N ≤ a1 + n → pz_po N a c (k + 1) h a1 c1 h1 → pz_S 2 none am_r213 D Q 5 [(0, .ref 154), (1, .int (nI d))] [] h1 := by
  intro n
  induction n with
  | zero =>
    intro a1 c1 h1 hn hp
    obtain ⟨hP, hf, ha, hc, hK⟩ := id hp
    refine am_goX 3 (show am_rc h1 154 11 ∧ 0 ≤ 8 ∧ h1.2.2.2.2 + am_al 217 ≤ 175 ∧ am_call am_cod D 217 [.ref 154, .int (Int8.ofInt 42).toInt32] h1 (fun vv h' => pz_S 2 none am_r213 D Q 11 [(0, .ref 154), (1, .int (nI d))] (vv.toList ++ []) h') from ⟨pz_rc hP, by decide, pz_lim hP rfl, am_call.up (pz_hsign hP (fun e => ?_) (fun e => ?_)) hD⟩)
    · exact absurd (pz_sg_lt hP e).2 (by have := hP.2.2.2.2.1; omega)
    · refine am_goX 1 (show ((0 : Int32) = 0 → pz_S 2 none am_r213 D Q 29 [(0, .ref 154), (1, .int (nI d))] [] h1) ∧ (¬ (0 : Int32) = 0 → pz_S 2 none am_r213 D Q 14 [(0, .ref 154), (1, .int (nI d))] [] h1) from ⟨fun _ => ?_, fun z => absurd rfl z⟩)
      exact am_goX 1 (show (none : Option FieldType) = none ∧ h1.2.2.2.2 = 175 ∧ _ from ⟨rfl, pz_175 hP, hQ a1 c1 h1 hp⟩)
  | succ n ih =>
    intro a1 c1 h1 hn hp
    obtain ⟨hP, hf, ha, hc, hK⟩ := id hp
    refine am_goX 3 (show am_rc h1 154 11 ∧ 0 ≤ 8 ∧ h1.2.2.2.2 + am_al 217 ≤ 175 ∧ am_call am_cod D 217 [.ref 154, .int (Int8.ofInt 42).toInt32] h1 (fun vv h' => pz_S 2 none am_r213 D Q 11 [(0, .ref 154), (1, .int (nI d))] (vv.toList ++ []) h') from ⟨pz_rc hP, by decide, pz_lim hP rfl, am_call.up (pz_hsign hP (fun e => ?_) (fun e => ?_)) hD⟩)
    · have hlt := (pz_sg_lt hP e).2
      have hP1 := pz_at (a' := a1 + 1) hP (by omega)
      refine am_goX 1 (show ((1 : Int32) = 0 → pz_S 2 none am_r213 D Q 29 [(0, .ref 154), (1, .int (nI d))] [] (am_wI h1 154 7 (nI (a1 + 1)))) ∧ (¬ (1 : Int32) = 0 → pz_S 2 none am_r213 D Q 14 [(0, .ref 154), (1, .int (nI d))] [] (am_wI h1 154 7 (nI (a1 + 1)))) from ⟨fun z => absurd z (by decide), fun _ => ?_⟩)
      refine am_goX 3 (show am_rc (am_wI h1 154 7 (nI (a1 + 1))) 154 11 ∧ 0 ≤ 8 ∧ (am_wI h1 154 7 (nI (a1 + 1))).2.2.2.2 + am_al 214 ≤ 175 ∧ am_call am_cod D 214 [.ref 154, .int (nI d)] (am_wI h1 154 7 (nI (a1 + 1))) (fun vv h' => pz_S 2 none am_r213 D Q 19 [(0, .ref 154), (1, .int (nI d))] (vv.toList ++ []) h') from ⟨pz_rc hP1, by decide, pz_lim hP1 rfl, hT N (a1 + 1) c1 (k + 1) _ _ hP1 (by omega) (pz_atK hK) (fun a2 c2 h2 q1 q2 q3 q4 q5 => ?_)⟩)
      refine am_goX 4 (show am_rc h2 154 11 ∧ 0 ≤ 8 ∧ h2.2.2.2.2 + am_al 216 ≤ 175 ∧ am_call am_cod D 216 [.ref 154, .int (Int8.ofInt 6).toInt32, .int (Int32.ofInt 0)] h2 (fun vv h' => pz_S 2 none am_r213 D Q 26 [(0, .ref 154), (1, .int (nI d))] (vv.toList ++ []) h') from ⟨pz_rc q1, by decide, pz_lim q1 rfl, am_call.up (pz_emit (k := k + 1 + 1) (k' := k + 1) q1 (by omega) q5 (Or.inr (Or.inr (Or.inr ⟨⟨6, by decide, by decide, rfl⟩, by omega, rfl⟩))) (fun h3 r1 r2 r3 => ?_)) (Nat.le_trans (by decide) hD)⟩)
      refine am_goX 1 (show pz_S 2 none am_r213 D Q 5 [(0, .ref 154), (1, .int (nI d))] [] h3 from ?_)
      exact ih a2 (c2 + 1) h3 (by omega) ⟨r1, pz_tr (pz_tr (pz_tr hf pz_atf) q2) r2, by omega, by omega, r3⟩
    · refine am_goX 1 (show ((0 : Int32) = 0 → pz_S 2 none am_r213 D Q 29 [(0, .ref 154), (1, .int (nI d))] [] h1) ∧ (¬ (0 : Int32) = 0 → pz_S 2 none am_r213 D Q 14 [(0, .ref 154), (1, .int (nI d))] [] h1) from ⟨fun _ => ?_, fun z => absurd rfl z⟩)
      exact am_goX 1 (show (none : Option FieldType) = none ∧ h1.2.2.2.2 = 175 ∧ _ from ⟨rfl, pz_175 hP, hQ a1 c1 h1 hp⟩)
theorem pz_products {D d : Nat} (hD : 2 ≤ D) (hT : pz_T D 214 d) : pz_T (D + 1) 213 d := by
  intro N a c k h Q hP hca hK hQ
  refine pz_call (n := 213) (nL := 2) (rt := none) (rows := am_r213) (d := D) (by decide +kernel) (by decide +kernel) rfl (by funext pc; rfl) (pz_175 hP) (by exact Nat.le_of_ble_eq_true rfl) ?_
  refine am_goX 3 (show am_rc h 154 11 ∧ 0 ≤ 8 ∧ h.2.2.2.2 + am_al 214 ≤ 175 ∧ am_call am_cod D 214 [.ref 154, .int (nI d)] h (fun vv h' => pz_S 2 none am_r213 D Q 5 [(0, .ref 154), (1, .int (nI d))] (vv.toList ++ []) h') from ⟨pz_rc hP, by decide, pz_lim hP rfl, hT N a c k h _ hP hca hK (fun a1 c1 h1 q1 q2 q3 q4 q5 => ?_)⟩)
  exact pz_prl hD hT hca (fun a' c' h' q => hQ a' c' h' q.1 q.2.1 q.2.2.1 q.2.2.2.1 q.2.2.2.2) N a1 c1 h1 (by omega) ⟨q1, q2, q3, q4, q5⟩
theorem pz_sums_l {D d N a c k : Nat} {h : am_H} {Q : am_Q} (hD : 2 ≤ D) (hT : pz_T D 213 d) (hca : c ≤ a) (hQ : ∀ a' c' h', pz_po N a c (k + 1) h a' c' h' → Q none h') : ∀ (n a1 c1 : Nat) (v : Int32) (h1 : am_H), N ≤ a1 + n → pz_po N a c (k + 1) h a1 c1 h1 → pz_S 3 none am_r212 D Q 5 [(2, .int v), (0, .ref 154), (1, .int (nI d))] [] h1 := by
  intro n
  induction n with
  | zero =>
    intro a1 c1 v h1 hn hp
    obtain ⟨hP, hf, ha, hc, hK⟩ := id hp
    refine am_goX 3 (show am_rc h1 154 11 ∧ 0 ≤ 8 ∧ h1.2.2.2.2 + am_al 215 ≤ 175 ∧ am_call am_cod D 215 [.ref 154, .int (Int8.ofInt 43).toInt32] h1 (fun vv h' => pz_S 3 none am_r212 D Q 11 [(2, .int v), (0, .ref 154), (1, .int (nI d))] (vv.toList ++ []) h') from ⟨pz_rc hP, by decide, pz_lim hP rfl, am_call.up (pz_sign hP ?_) (Nat.le_trans (by decide) hD)⟩)
    have fin : pz_sg h1 a1 (Int8.ofInt 43).toInt32 = true ∨ pz_sg h1 a1 (Int8.ofInt 45).toInt32 = true → pz_S 3 none am_r212 D Q 23 [(2, .int v), (0, .ref 154), (1, .int (nI d))] [] h1 := ?_
    rotate_left
    · intro hz
      rcases hz with z | z
      · exact absurd (pz_sg_lt hP z).2 (by have := hP.2.2.2.2.1; omega)
      · exact absurd (pz_sg_lt hP z).2 (by have := hP.2.2.2.2.1; omega)
    · cases e : pz_sg h1 a1 (Int8.ofInt 43).toInt32 with
      | true => exact am_goX 1 (show (¬ pz_b true = 0 → pz_S 3 none am_r212 D Q 23 [(2, .int v), (0, .ref 154), (1, .int (nI d))] [] h1) ∧ (¬ ¬ pz_b true = 0 → pz_S 3 none am_r212 D Q 14 [(2, .int v), (0, .ref 154), (1, .int (nI d))] [] h1) from ⟨fun _ => fin (Or.inl e), fun z => absurd (by decide) z⟩)
      | false =>
        refine am_goX 1 (show (¬ pz_b false = 0 → pz_S 3 none am_r212 D Q 23 [(2, .int v), (0, .ref 154), (1, .int (nI d))] [] h1) ∧ (¬ ¬ pz_b false = 0 → pz_S 3 none am_r212 D Q 14 [(2, .int v), (0, .ref 154), (1, .int (nI d))] [] h1) from ⟨fun z => absurd rfl z, fun _ => ?_⟩)
        refine am_goX 3 (show am_rc h1 154 11 ∧ 0 ≤ 8 ∧ h1.2.2.2.2 + am_al 215 ≤ 175 ∧ am_call am_cod D 215 [.ref 154, .int (Int8.ofInt 45).toInt32] h1 (fun vv h' => pz_S 3 none am_r212 D Q 20 [(2, .int v), (0, .ref 154), (1, .int (nI d))] (vv.toList ++ []) h') from ⟨pz_rc hP, by decide, pz_lim hP rfl, am_call.up (pz_sign hP ?_) (Nat.le_trans (by decide) hD)⟩)
        cases e2 : pz_sg h1 a1 (Int8.ofInt 45).toInt32 with
        | true => exact am_goX 1 (show (pz_b true = 0 → pz_S 3 none am_r212 D Q 62 [(2, .int v), (0, .ref 154), (1, .int (nI d))] [] h1) ∧ (¬ pz_b true = 0 → pz_S 3 none am_r212 D Q 23 [(2, .int v), (0, .ref 154), (1, .int (nI d))] [] h1) from ⟨fun z => absurd z (by decide), fun _ => fin (Or.inr e2)⟩)
        | false =>
          refine am_goX 1 (show (pz_b false = 0 → pz_S 3 none am_r212 D Q 62 [(2, .int v), (0, .ref 154), (1, .int (nI d))] [] h1) ∧ (¬ pz_b false = 0 → pz_S 3 none am_r212 D Q 23 [(2, .int v), (0, .ref 154), (1, .int (nI d))] [] h1) from ⟨fun _ => ?_, fun z => absurd rfl z⟩)
          exact am_goX 1 (show (none : Option FieldType) = none ∧ h1.2.2.2.2 = 175 ∧ _ from ⟨rfl, pz_175 hP, hQ a1 c1 h1 hp⟩)
  | succ n ih =>
    intro a1 c1 v h1 hn hp
    obtain ⟨hP, hf, ha, hc, hK⟩ := id hp
    refine am_goX 3 (show am_rc h1 154 11 ∧ 0 ≤ 8 ∧ h1.2.2.2.2 + am_al 215 ≤ 175 ∧ am_call am_cod D 215 [.ref 154, .int (Int8.ofInt 43).toInt32] h1 (fun vv h' => pz_S 3 none am_r212 D Q 11 [(2, .int v), (0, .ref 154), (1, .int (nI d))] (vv.toList ++ []) h') from ⟨pz_rc hP, by decide, pz_lim hP rfl, am_call.up (pz_sign hP ?_) (Nat.le_trans (by decide) hD)⟩)
    have fin : pz_sg h1 a1 (Int8.ofInt 43).toInt32 = true ∨ pz_sg h1 a1 (Int8.ofInt 45).toInt32 = true → pz_S 3 none am_r212 D Q 23 [(2, .int v), (0, .ref 154), (1, .int (nI d))] [] h1 := ?_
    rotate_left
    · intro hz
      have hlt : a1 < N := by
        rcases hz with z | z
        · exact (pz_sg_lt hP z).2
        · exact (pz_sg_lt hP z).2
      have hP1 := pz_at (a' := a1 + 1) hP (by omega)
      refine am_goX 3 (show am_rc h1 154 11 ∧ 0 ≤ 8 ∧ h1.2.2.2.2 + am_al 215 ≤ 175 ∧ am_call am_cod D 215 [.ref 154, .int (Int8.ofInt 43).toInt32] h1 (fun vv h' => pz_S 3 none am_r212 D Q 29 [(2, .int v), (0, .ref 154), (1, .int (nI d))] (vv.toList ++ []) h') from ⟨pz_rc hP, by decide, pz_lim hP rfl, am_call.up (pz_sign hP ?_) (Nat.le_trans (by decide) hD)⟩)
      generalize pz_b (pz_sg h1 a1 (Int8.ofInt 43).toInt32) = v1
      refine am_goX 7 (show 2 < 3 ∧ (Value.ref 154).category = 1 ∧ am_sh h1 154 = some (11, 0) ∧ am_sh h1 154 = some (11, 0) ∧ narrow (am_fty 11 7) (.int (((h1.1 154 7) + (Int32.ofInt 1)))) = .int (((h1.1 154 7) + (Int32.ofInt 1))) ∧ fits (am_fty 11 7) (.int (((h1.1 154 7) + (Int32.ofInt 1)))) = true ∧ pz_S 3 none am_r212 D Q 40 [(2, .int v1), (0, .ref 154), (1, .int (nI d))] [] (am_wI h1 154 7 (((h1.1 154 7) + (Int32.ofInt 1)))) from ⟨by decide, rfl, pz_154 hP, pz_154 hP, rfl, rfl, ?_⟩)
      rw [hP.2.2.2.1, xw_i1]
      refine am_goX 3 (show am_rc (am_wI h1 154 7 (nI (a1 + 1))) 154 11 ∧ 0 ≤ 8 ∧ (am_wI h1 154 7 (nI (a1 + 1))).2.2.2.2 + am_al 213 ≤ 175 ∧ am_call am_cod D 213 [.ref 154, .int (nI d)] (am_wI h1 154 7 (nI (a1 + 1))) (fun vv h' => pz_S 3 none am_r212 D Q 45 [(2, .int v1), (0, .ref 154), (1, .int (nI d))] (vv.toList ++ []) h') from ⟨pz_rc hP1, by decide, pz_lim hP1 rfl, hT N (a1 + 1) c1 (k + 1) _ _ hP1 (by omega) (pz_atK hK) (fun a2 c2 h2 q1 q2 q3 q4 q5 => ?_)⟩)
      refine am_goX 3 (show (v1 = 0 → pz_S 3 none am_r212 D Q 54 [(2, .int v1), (0, .ref 154), (1, .int (nI d))] [.ref 154] h2) ∧ (¬ v1 = 0 → pz_S 3 none am_r212 D Q 50 [(2, .int v1), (0, .ref 154), (1, .int (nI d))] [.ref 154] h2) from ⟨fun hc1 => ?_, fun hc1 => ?_⟩)
      · refine am_goX 3 (show am_rc h2 154 11 ∧ 0 ≤ 8 ∧ h2.2.2.2.2 + am_al 216 ≤ 175 ∧ am_call am_cod D 216 [.ref 154, .int (Int32.ofInt 5), .int (Int32.ofInt 0)] h2 (fun vv h' => pz_S 3 none am_r212 D Q 59 [(2, .int v1), (0, .ref 154), (1, .int (nI d))] (vv.toList ++ []) h') from ⟨pz_rc q1, by decide, pz_lim q1 rfl, am_call.up (pz_emit (k := k + 1 + 1) (k' := k + 1) q1 (by omega) q5 (Or.inr (Or.inr (Or.inr ⟨⟨5, by decide, by decide, rfl⟩, by omega, rfl⟩))) (fun h3 r1 r2 r3 => ?_)) (Nat.le_trans (by decide) hD)⟩)
        refine am_goX 1 (show pz_S 3 none am_r212 D Q 5 [(2, .int v1), (0, .ref 154), (1, .int (nI d))] [] h3 from ?_)
        exact ih a2 (c2 + 1) v1 h3 (by omega) ⟨r1, pz_tr (pz_tr (pz_tr hf pz_atf) q2) r2, by omega, by omega, r3⟩
      · refine am_goX 4 (show am_rc h2 154 11 ∧ 0 ≤ 8 ∧ h2.2.2.2.2 + am_al 216 ≤ 175 ∧ am_call am_cod D 216 [.ref 154, .int (Int32.ofInt 4), .int (Int32.ofInt 0)] h2 (fun vv h' => pz_S 3 none am_r212 D Q 59 [(2, .int v1), (0, .ref 154), (1, .int (nI d))] (vv.toList ++ []) h') from ⟨pz_rc q1, by decide, pz_lim q1 rfl, am_call.up (pz_emit (k := k + 1 + 1) (k' := k + 1) q1 (by omega) q5 (Or.inr (Or.inr (Or.inr ⟨⟨4, by decide, by decide, rfl⟩, by omega, rfl⟩))) (fun h3 r1 r2 r3 => ?_)) (Nat.le_trans (by decide) hD)⟩)
        refine am_goX 1 (show pz_S 3 none am_r212 D Q 5 [(2, .int v1), (0, .ref 154), (1, .int (nI d))] [] h3 from ?_)
        exact ih a2 (c2 + 1) v1 h3 (by omega) ⟨r1, pz_tr (pz_tr (pz_tr hf pz_atf) q2) r2, by omega, by omega, r3⟩
    · cases e : pz_sg h1 a1 (Int8.ofInt 43).toInt32 with
      | true => exact am_goX 1 (show (¬ pz_b true = 0 → pz_S 3 none am_r212 D Q 23 [(2, .int v), (0, .ref 154), (1, .int (nI d))] [] h1) ∧ (¬ ¬ pz_b true = 0 → pz_S 3 none am_r212 D Q 14 [(2, .int v), (0, .ref 154), (1, .int (nI d))] [] h1) from ⟨fun _ => fin (Or.inl e), fun z => absurd (by decide) z⟩)
      | false =>
        refine am_goX 1 (show (¬ pz_b false = 0 → pz_S 3 none am_r212 D Q 23 [(2, .int v), (0, .ref 154), (1, .int (nI d))] [] h1) ∧ (¬ ¬ pz_b false = 0 → pz_S 3 none am_r212 D Q 14 [(2, .int v), (0, .ref 154), (1, .int (nI d))] [] h1) from ⟨fun z => absurd rfl z, fun _ => ?_⟩)
        refine am_goX 3 (show am_rc h1 154 11 ∧ 0 ≤ 8 ∧ h1.2.2.2.2 + am_al 215 ≤ 175 ∧ am_call am_cod D 215 [.ref 154, .int (Int8.ofInt 45).toInt32] h1 (fun vv h' => pz_S 3 none am_r212 D Q 20 [(2, .int v), (0, .ref 154), (1, .int (nI d))] (vv.toList ++ []) h') from ⟨pz_rc hP, by decide, pz_lim hP rfl, am_call.up (pz_sign hP ?_) (Nat.le_trans (by decide) hD)⟩)
        cases e2 : pz_sg h1 a1 (Int8.ofInt 45).toInt32 with
        | true => exact am_goX 1 (show (pz_b true = 0 → pz_S 3 none am_r212 D Q 62 [(2, .int v), (0, .ref 154), (1, .int (nI d))] [] h1) ∧ (¬ pz_b true = 0 → pz_S 3 none am_r212 D Q 23 [(2, .int v), (0, .ref 154), (1, .int (nI d))] [] h1) from ⟨fun z => absurd z (by decide), fun _ => fin (Or.inr e2)⟩)
        | false =>
          refine am_goX 1 (show (pz_b false = 0 → pz_S 3 none am_r212 D Q 62 [(2, .int v), (0, .ref 154), (1, .int (nI d))] [] h1) ∧ (¬ pz_b false = 0 → pz_S 3 none am_r212 D Q 23 [(2, .int v), (0, .ref 154), (1, .int (nI d))] [] h1) from ⟨fun _ => ?_, fun z => absurd rfl z⟩)
          exact am_goX 1 (show (none : Option FieldType) = none ∧ h1.2.2.2.2 = 175 ∧ _ from ⟨rfl, pz_175 hP, hQ a1 c1 h1 hp⟩)
theorem pz_sums {D d : Nat} (hD : 2 ≤ D) (hT : pz_T D 213 d) : pz_T (D + 1) 212 d := by
  intro N a c k h Q hP0 hca hK0 hQ0
  have hQ : ∀ a' c' h', pz_po N a c (k + 1) h a' c' h' → Q none h' := fun a' c' h' q => hQ0 a' c' h' q.1 q.2.1 q.2.2.1 q.2.2.2.1 q.2.2.2.2
  refine pz_call (n := 212) (nL := 3) (rt := none) (rows := am_r212) (d := D) (by decide +kernel) (by decide +kernel) rfl (by funext pc; rfl) (pz_175 hP0) (by exact Nat.le_of_ble_eq_true rfl) ?_
  refine am_goX 3 (show am_rc h 154 11 ∧ 0 ≤ 8 ∧ h.2.2.2.2 + am_al 213 ≤ 175 ∧ am_call am_cod D 213 [.ref 154, .int (nI d)] h (fun vv h' => pz_S 3 none am_r212 D Q 5 [(0, .ref 154), (1, .int (nI d))] (vv.toList ++ []) h') from ⟨pz_rc hP0, by decide, pz_lim hP0 rfl, hT N a c k h _ hP0 hca hK0 (fun a1 c1 h1 q1 q2 q3 q4 q5 => ?_)⟩)
  have hp : pz_po N a c (k + 1) h a1 c1 h1 := ⟨q1, q2, q3, q4, q5⟩
  clear q1 q2 q3 q4 q5
  obtain ⟨hP, hf, ha, hc, hK⟩ := id hp
  refine am_goX 3 (show am_rc h1 154 11 ∧ 0 ≤ 8 ∧ h1.2.2.2.2 + am_al 215 ≤ 175 ∧ am_call am_cod D 215 [.ref 154, .int (Int8.ofInt 43).toInt32] h1 (fun vv h' => pz_S 3 none am_r212 D Q 11 [(0, .ref 154), (1, .int (nI d))] (vv.toList ++ []) h') from ⟨pz_rc hP, by decide, pz_lim hP rfl, am_call.up (pz_sign hP ?_) (Nat.le_trans (by decide) hD)⟩)
  have fin : pz_sg h1 a1 (Int8.ofInt 43).toInt32 = true ∨ pz_sg h1 a1 (Int8.ofInt 45).toInt32 = true → pz_S 3 none am_r212 D Q 23 [(0, .ref 154), (1, .int (nI d))] [] h1 := ?_
  rotate_left
  · intro hz
    have hlt : a1 < N := by
      rcases hz with z | z
      · exact (pz_sg_lt hP z).2
      · exact (pz_sg_lt hP z).2
    have hP1 := pz_at (a' := a1 + 1) hP (by omega)
    refine am_goX 3 (show am_rc h1 154 11 ∧ 0 ≤ 8 ∧ h1.2.2.2.2 + am_al 215 ≤ 175 ∧ am_call am_cod D 215 [.ref 154, .int (Int8.ofInt 43).toInt32] h1 (fun vv h' => pz_S 3 none am_r212 D Q 29 [(0, .ref 154), (1, .int (nI d))] (vv.toList ++ []) h') from ⟨pz_rc hP, by decide, pz_lim hP rfl, am_call.up (pz_sign hP ?_) (Nat.le_trans (by decide) hD)⟩)
    generalize pz_b (pz_sg h1 a1 (Int8.ofInt 43).toInt32) = v1
    refine am_goX 7 (show 2 < 3 ∧ (Value.ref 154).category = 1 ∧ am_sh h1 154 = some (11, 0) ∧ am_sh h1 154 = some (11, 0) ∧ narrow (am_fty 11 7) (.int (((h1.1 154 7) + (Int32.ofInt 1)))) = .int (((h1.1 154 7) + (Int32.ofInt 1))) ∧ fits (am_fty 11 7) (.int (((h1.1 154 7) + (Int32.ofInt 1)))) = true ∧ pz_S 3 none am_r212 D Q 40 [(2, .int v1), (0, .ref 154), (1, .int (nI d))] [] (am_wI h1 154 7 (((h1.1 154 7) + (Int32.ofInt 1)))) from ⟨by decide, rfl, pz_154 hP, pz_154 hP, rfl, rfl, ?_⟩)
    rw [hP.2.2.2.1, xw_i1]
    refine am_goX 3 (show am_rc (am_wI h1 154 7 (nI (a1 + 1))) 154 11 ∧ 0 ≤ 8 ∧ (am_wI h1 154 7 (nI (a1 + 1))).2.2.2.2 + am_al 213 ≤ 175 ∧ am_call am_cod D 213 [.ref 154, .int (nI d)] (am_wI h1 154 7 (nI (a1 + 1))) (fun vv h' => pz_S 3 none am_r212 D Q 45 [(2, .int v1), (0, .ref 154), (1, .int (nI d))] (vv.toList ++ []) h') from ⟨pz_rc hP1, by decide, pz_lim hP1 rfl, hT N (a1 + 1) c1 (k + 1) _ _ hP1 (by omega) (pz_atK hK) (fun a2 c2 h2 q1 q2 q3 q4 q5 => ?_)⟩)
    refine am_goX 3 (show (v1 = 0 → pz_S 3 none am_r212 D Q 54 [(2, .int v1), (0, .ref 154), (1, .int (nI d))] [.ref 154] h2) ∧ (¬ v1 = 0 → pz_S 3 none am_r212 D Q 50 [(2, .int v1), (0, .ref 154), (1, .int (nI d))] [.ref 154] h2) from ⟨fun hc1 => ?_, fun hc1 => ?_⟩)
    · refine am_goX 3 (show am_rc h2 154 11 ∧ 0 ≤ 8 ∧ h2.2.2.2.2 + am_al 216 ≤ 175 ∧ am_call am_cod D 216 [.ref 154, .int (Int32.ofInt 5), .int (Int32.ofInt 0)] h2 (fun vv h' => pz_S 3 none am_r212 D Q 59 [(2, .int v1), (0, .ref 154), (1, .int (nI d))] (vv.toList ++ []) h') from ⟨pz_rc q1, by decide, pz_lim q1 rfl, am_call.up (pz_emit (k := k + 1 + 1) (k' := k + 1) q1 (by omega) q5 (Or.inr (Or.inr (Or.inr ⟨⟨5, by decide, by decide, rfl⟩, by omega, rfl⟩))) (fun h3 r1 r2 r3 => ?_)) (Nat.le_trans (by decide) hD)⟩)
      refine am_goX 1 (show pz_S 3 none am_r212 D Q 5 [(2, .int v1), (0, .ref 154), (1, .int (nI d))] [] h3 from ?_)
      exact pz_sums_l hD hT hca hQ N a2 (c2 + 1) v1 h3 (by omega) ⟨r1, pz_tr (pz_tr (pz_tr hf pz_atf) q2) r2, by omega, by omega, r3⟩
    · refine am_goX 4 (show am_rc h2 154 11 ∧ 0 ≤ 8 ∧ h2.2.2.2.2 + am_al 216 ≤ 175 ∧ am_call am_cod D 216 [.ref 154, .int (Int32.ofInt 4), .int (Int32.ofInt 0)] h2 (fun vv h' => pz_S 3 none am_r212 D Q 59 [(2, .int v1), (0, .ref 154), (1, .int (nI d))] (vv.toList ++ []) h') from ⟨pz_rc q1, by decide, pz_lim q1 rfl, am_call.up (pz_emit (k := k + 1 + 1) (k' := k + 1) q1 (by omega) q5 (Or.inr (Or.inr (Or.inr ⟨⟨4, by decide, by decide, rfl⟩, by omega, rfl⟩))) (fun h3 r1 r2 r3 => ?_)) (Nat.le_trans (by decide) hD)⟩)
      refine am_goX 1 (show pz_S 3 none am_r212 D Q 5 [(2, .int v1), (0, .ref 154), (1, .int (nI d))] [] h3 from ?_)
      exact pz_sums_l hD hT hca hQ N a2 (c2 + 1) v1 h3 (by omega) ⟨r1, pz_tr (pz_tr (pz_tr hf pz_atf) q2) r2, by omega, by omega, r3⟩
  · cases e : pz_sg h1 a1 (Int8.ofInt 43).toInt32 with
    | true => exact am_goX 1 (show (¬ pz_b true = 0 → pz_S 3 none am_r212 D Q 23 [(0, .ref 154), (1, .int (nI d))] [] h1) ∧ (¬ ¬ pz_b true = 0 → pz_S 3 none am_r212 D Q 14 [(0, .ref 154), (1, .int (nI d))] [] h1) from ⟨fun _ => fin (Or.inl e), fun z => absurd (by decide) z⟩)
    | false =>
      refine am_goX 1 (show (¬ pz_b false = 0 → pz_S 3 none am_r212 D Q 23 [(0, .ref 154), (1, .int (nI d))] [] h1) ∧ (¬ ¬ pz_b false = 0 → pz_S 3 none am_r212 D Q 14 [(0, .ref 154), (1, .int (nI d))] [] h1) from ⟨fun z => absurd rfl z, fun _ => ?_⟩)
      refine am_goX 3 (show am_rc h1 154 11 ∧ 0 ≤ 8 ∧ h1.2.2.2.2 + am_al 215 ≤ 175 ∧ am_call am_cod D 215 [.ref 154, .int (Int8.ofInt 45).toInt32] h1 (fun vv h' => pz_S 3 none am_r212 D Q 20 [(0, .ref 154), (1, .int (nI d))] (vv.toList ++ []) h') from ⟨pz_rc hP, by decide, pz_lim hP rfl, am_call.up (pz_sign hP ?_) (Nat.le_trans (by decide) hD)⟩)
      cases e2 : pz_sg h1 a1 (Int8.ofInt 45).toInt32 with
      | true => exact am_goX 1 (show (pz_b true = 0 → pz_S 3 none am_r212 D Q 62 [(0, .ref 154), (1, .int (nI d))] [] h1) ∧ (¬ pz_b true = 0 → pz_S 3 none am_r212 D Q 23 [(0, .ref 154), (1, .int (nI d))] [] h1) from ⟨fun z => absurd z (by decide), fun _ => fin (Or.inr e2)⟩)
      | false =>
        refine am_goX 1 (show (pz_b false = 0 → pz_S 3 none am_r212 D Q 62 [(0, .ref 154), (1, .int (nI d))] [] h1) ∧ (¬ pz_b false = 0 → pz_S 3 none am_r212 D Q 23 [(0, .ref 154), (1, .int (nI d))] [] h1) from ⟨fun _ => ?_, fun z => absurd rfl z⟩)
        exact am_goX 1 (show (none : Option FieldType) = none ∧ h1.2.2.2.2 = 175 ∧ _ from ⟨rfl, pz_175 hP, hQ a1 c1 h1 hp⟩)
theorem pz_whole_l {D d N a c k : Nat} {h : am_H} {Q : am_Q} (hD : 2 ≤ D) (hT : pz_T D 211 d) (hca : c ≤ a) (hQ : ∀ a' c' h', pz_po N a c (k + 1) h a' c' h' → Q none h') : ∀ (n a1 c1 : Nat) (v : Int32) (h1 : am_H), N ≤ a1 + n → pz_po N a c (k + 1) h a1 c1 h1 → pz_S 3 none am_r210 D Q 5 [(2, .int v), (0, .ref 154), (1, .int (nI d))] [] h1 := by
  intro n
  induction n with
  | zero =>
    intro a1 c1 v h1 hn hp
    obtain ⟨hP, hf, ha, hc, hK⟩ := id hp
    refine am_goX 3 (show am_rc h1 154 11 ∧ 0 ≤ 8 ∧ h1.2.2.2.2 + am_al 195 ≤ 175 ∧ am_call am_cod D 195 [.ref 154, .int (Int8.ofInt 15).toInt32] h1 (fun vv h' => pz_S 3 none am_r210 D Q 11 [(2, .int v), (0, .ref 154), (1, .int (nI d))] (vv.toList ++ []) h') from ⟨pz_rc hP, by decide, pz_lim hP rfl, am_call.up (pz_word (w := 15) hP (by decide) ?_) (Nat.le_trans (by decide) hD)⟩)
    have fin : pz_wd h1 a1 15 = true ∨ pz_wd h1 a1 16 = true → pz_S 3 none am_r210 D Q 23 [(2, .int v), (0, .ref 154), (1, .int (nI d))] [] h1 := ?_
    rotate_left
    · intro hz
      rcases hz with z | z
      · exact absurd (pz_wd_lt hP z).2 (by have := hP.2.2.2.2.1; omega)
      · exact absurd (pz_wd_lt hP z).2 (by have := hP.2.2.2.2.1; omega)
    · cases e : pz_wd h1 a1 15 with
      | true => exact am_goX 1 (show (¬ pz_b true = 0 → pz_S 3 none am_r210 D Q 23 [(2, .int v), (0, .ref 154), (1, .int (nI d))] [] h1) ∧ (¬ ¬ pz_b true = 0 → pz_S 3 none am_r210 D Q 14 [(2, .int v), (0, .ref 154), (1, .int (nI d))] [] h1) from ⟨fun _ => fin (Or.inl e), fun z => absurd (by decide) z⟩)
      | false =>
        refine am_goX 1 (show (¬ pz_b false = 0 → pz_S 3 none am_r210 D Q 23 [(2, .int v), (0, .ref 154), (1, .int (nI d))] [] h1) ∧ (¬ ¬ pz_b false = 0 → pz_S 3 none am_r210 D Q 14 [(2, .int v), (0, .ref 154), (1, .int (nI d))] [] h1) from ⟨fun z => absurd rfl z, fun _ => ?_⟩)
        refine am_goX 3 (show am_rc h1 154 11 ∧ 0 ≤ 8 ∧ h1.2.2.2.2 + am_al 195 ≤ 175 ∧ am_call am_cod D 195 [.ref 154, .int (Int8.ofInt 16).toInt32] h1 (fun vv h' => pz_S 3 none am_r210 D Q 20 [(2, .int v), (0, .ref 154), (1, .int (nI d))] (vv.toList ++ []) h') from ⟨pz_rc hP, by decide, pz_lim hP rfl, am_call.up (pz_word (w := 16) hP (by decide) ?_) (Nat.le_trans (by decide) hD)⟩)
        cases e2 : pz_wd h1 a1 16 with
        | true => exact am_goX 1 (show (pz_b true = 0 → pz_S 3 none am_r210 D Q 64 [(2, .int v), (0, .ref 154), (1, .int (nI d))] [] h1) ∧ (¬ pz_b true = 0 → pz_S 3 none am_r210 D Q 23 [(2, .int v), (0, .ref 154), (1, .int (nI d))] [] h1) from ⟨fun z => absurd z (by decide), fun _ => fin (Or.inr e2)⟩)
        | false =>
          refine am_goX 1 (show (pz_b false = 0 → pz_S 3 none am_r210 D Q 64 [(2, .int v), (0, .ref 154), (1, .int (nI d))] [] h1) ∧ (¬ pz_b false = 0 → pz_S 3 none am_r210 D Q 23 [(2, .int v), (0, .ref 154), (1, .int (nI d))] [] h1) from ⟨fun _ => ?_, fun z => absurd rfl z⟩)
          exact am_goX 1 (show (none : Option FieldType) = none ∧ h1.2.2.2.2 = 175 ∧ _ from ⟨rfl, pz_175 hP, hQ a1 c1 h1 hp⟩)
  | succ n ih =>
    intro a1 c1 v h1 hn hp
    obtain ⟨hP, hf, ha, hc, hK⟩ := id hp
    refine am_goX 3 (show am_rc h1 154 11 ∧ 0 ≤ 8 ∧ h1.2.2.2.2 + am_al 195 ≤ 175 ∧ am_call am_cod D 195 [.ref 154, .int (Int8.ofInt 15).toInt32] h1 (fun vv h' => pz_S 3 none am_r210 D Q 11 [(2, .int v), (0, .ref 154), (1, .int (nI d))] (vv.toList ++ []) h') from ⟨pz_rc hP, by decide, pz_lim hP rfl, am_call.up (pz_word (w := 15) hP (by decide) ?_) (Nat.le_trans (by decide) hD)⟩)
    have fin : pz_wd h1 a1 15 = true ∨ pz_wd h1 a1 16 = true → pz_S 3 none am_r210 D Q 23 [(2, .int v), (0, .ref 154), (1, .int (nI d))] [] h1 := ?_
    rotate_left
    · intro hz
      have hlt : a1 < N := by
        rcases hz with z | z
        · exact (pz_wd_lt hP z).2
        · exact (pz_wd_lt hP z).2
      have hP1 := pz_at (a' := a1 + 1) hP (by omega)
      refine am_goX 3 (show am_rc h1 154 11 ∧ 0 ≤ 8 ∧ h1.2.2.2.2 + am_al 195 ≤ 175 ∧ am_call am_cod D 195 [.ref 154, .int (Int8.ofInt 15).toInt32] h1 (fun vv h' => pz_S 3 none am_r210 D Q 29 [(2, .int v), (0, .ref 154), (1, .int (nI d))] (vv.toList ++ []) h') from ⟨pz_rc hP, by decide, pz_lim hP rfl, am_call.up (pz_word (w := 15) hP (by decide) ?_) (Nat.le_trans (by decide) hD)⟩)
      generalize pz_b (pz_wd h1 a1 15) = v1
      refine am_goX 7 (show 2 < 3 ∧ (Value.ref 154).category = 1 ∧ am_sh h1 154 = some (11, 0) ∧ am_sh h1 154 = some (11, 0) ∧ narrow (am_fty 11 7) (.int (((h1.1 154 7) + (Int32.ofInt 1)))) = .int (((h1.1 154 7) + (Int32.ofInt 1))) ∧ fits (am_fty 11 7) (.int (((h1.1 154 7) + (Int32.ofInt 1)))) = true ∧ pz_S 3 none am_r210 D Q 40 [(2, .int v1), (0, .ref 154), (1, .int (nI d))] [] (am_wI h1 154 7 (((h1.1 154 7) + (Int32.ofInt 1)))) from ⟨by decide, rfl, pz_154 hP, pz_154 hP, rfl, rfl, ?_⟩)
      rw [hP.2.2.2.1, xw_i1]
      refine am_goX 3 (show am_rc (am_wI h1 154 7 (nI (a1 + 1))) 154 11 ∧ 0 ≤ 8 ∧ (am_wI h1 154 7 (nI (a1 + 1))).2.2.2.2 + am_al 211 ≤ 175 ∧ am_call am_cod D 211 [.ref 154, .int (nI d)] (am_wI h1 154 7 (nI (a1 + 1))) (fun vv h' => pz_S 3 none am_r210 D Q 45 [(2, .int v1), (0, .ref 154), (1, .int (nI d))] (vv.toList ++ []) h') from ⟨pz_rc hP1, by decide, pz_lim hP1 rfl, hT N (a1 + 1) c1 (k + 1) _ _ hP1 (by omega) (pz_atK hK) (fun a2 c2 h2 q1 q2 q3 q4 q5 => ?_)⟩)
      refine am_goX 3 (show (v1 = 0 → pz_S 3 none am_r210 D Q 55 [(2, .int v1), (0, .ref 154), (1, .int (nI d))] [.ref 154] h2) ∧ (¬ v1 = 0 → pz_S 3 none am_r210 D Q 50 [(2, .int v1), (0, .ref 154), (1, .int (nI d))] [.ref 154] h2) from ⟨fun hc1 => ?_, fun hc1 => ?_⟩)
      · refine am_goX 3 (show am_rc h2 154 11 ∧ 0 ≤ 8 ∧ h2.2.2.2.2 + am_al 216 ≤ 175 ∧ am_call am_cod D 216 [.ref 154, .int (Int8.ofInt 10).toInt32, .int (Int32.ofInt 0)] h2 (fun vv h' => pz_S 3 none am_r210 D Q 61 [(2, .int v1), (0, .ref 154), (1, .int (nI d))] (vv.toList ++ []) h') from ⟨pz_rc q1, by decide, pz_lim q1 rfl, am_call.up (pz_emit (k := k + 1 + 1) (k' := k + 1) q1 (by omega) q5 (Or.inr (Or.inr (Or.inr ⟨⟨10, by decide, by decide, rfl⟩, by omega, rfl⟩))) (fun h3 r1 r2 r3 => ?_)) (Nat.le_trans (by decide) hD)⟩)
        refine am_goX 1 (show pz_S 3 none am_r210 D Q 5 [(2, .int v1), (0, .ref 154), (1, .int (nI d))] [] h3 from ?_)
        exact ih a2 (c2 + 1) v1 h3 (by omega) ⟨r1, pz_tr (pz_tr (pz_tr hf pz_atf) q2) r2, by omega, by omega, r3⟩
      · refine am_goX 4 (show am_rc h2 154 11 ∧ 0 ≤ 8 ∧ h2.2.2.2.2 + am_al 216 ≤ 175 ∧ am_call am_cod D 216 [.ref 154, .int (Int8.ofInt 9).toInt32, .int (Int32.ofInt 0)] h2 (fun vv h' => pz_S 3 none am_r210 D Q 61 [(2, .int v1), (0, .ref 154), (1, .int (nI d))] (vv.toList ++ []) h') from ⟨pz_rc q1, by decide, pz_lim q1 rfl, am_call.up (pz_emit (k := k + 1 + 1) (k' := k + 1) q1 (by omega) q5 (Or.inr (Or.inr (Or.inr ⟨⟨9, by decide, by decide, rfl⟩, by omega, rfl⟩))) (fun h3 r1 r2 r3 => ?_)) (Nat.le_trans (by decide) hD)⟩)
        refine am_goX 1 (show pz_S 3 none am_r210 D Q 5 [(2, .int v1), (0, .ref 154), (1, .int (nI d))] [] h3 from ?_)
        exact ih a2 (c2 + 1) v1 h3 (by omega) ⟨r1, pz_tr (pz_tr (pz_tr hf pz_atf) q2) r2, by omega, by omega, r3⟩
    · cases e : pz_wd h1 a1 15 with
      | true => exact am_goX 1 (show (¬ pz_b true = 0 → pz_S 3 none am_r210 D Q 23 [(2, .int v), (0, .ref 154), (1, .int (nI d))] [] h1) ∧ (¬ ¬ pz_b true = 0 → pz_S 3 none am_r210 D Q 14 [(2, .int v), (0, .ref 154), (1, .int (nI d))] [] h1) from ⟨fun _ => fin (Or.inl e), fun z => absurd (by decide) z⟩)
      | false =>
        refine am_goX 1 (show (¬ pz_b false = 0 → pz_S 3 none am_r210 D Q 23 [(2, .int v), (0, .ref 154), (1, .int (nI d))] [] h1) ∧ (¬ ¬ pz_b false = 0 → pz_S 3 none am_r210 D Q 14 [(2, .int v), (0, .ref 154), (1, .int (nI d))] [] h1) from ⟨fun z => absurd rfl z, fun _ => ?_⟩)
        refine am_goX 3 (show am_rc h1 154 11 ∧ 0 ≤ 8 ∧ h1.2.2.2.2 + am_al 195 ≤ 175 ∧ am_call am_cod D 195 [.ref 154, .int (Int8.ofInt 16).toInt32] h1 (fun vv h' => pz_S 3 none am_r210 D Q 20 [(2, .int v), (0, .ref 154), (1, .int (nI d))] (vv.toList ++ []) h') from ⟨pz_rc hP, by decide, pz_lim hP rfl, am_call.up (pz_word (w := 16) hP (by decide) ?_) (Nat.le_trans (by decide) hD)⟩)
        cases e2 : pz_wd h1 a1 16 with
        | true => exact am_goX 1 (show (pz_b true = 0 → pz_S 3 none am_r210 D Q 64 [(2, .int v), (0, .ref 154), (1, .int (nI d))] [] h1) ∧ (¬ pz_b true = 0 → pz_S 3 none am_r210 D Q 23 [(2, .int v), (0, .ref 154), (1, .int (nI d))] [] h1) from ⟨fun z => absurd z (by decide), fun _ => fin (Or.inr e2)⟩)
        | false =>
          refine am_goX 1 (show (pz_b false = 0 → pz_S 3 none am_r210 D Q 64 [(2, .int v), (0, .ref 154), (1, .int (nI d))] [] h1) ∧ (¬ pz_b false = 0 → pz_S 3 none am_r210 D Q 23 [(2, .int v), (0, .ref 154), (1, .int (nI d))] [] h1) from ⟨fun _ => ?_, fun z => absurd rfl z⟩)
          exact am_goX 1 (show (none : Option FieldType) = none ∧ h1.2.2.2.2 = 175 ∧ _ from ⟨rfl, pz_175 hP, hQ a1 c1 h1 hp⟩)
theorem pz_whole {D d : Nat} (hD : 2 ≤ D) (hT : pz_T D 211 d) : pz_T (D + 1) 210 d := by
  intro N a c k h Q hP0 hca hK0 hQ0
  have hQ : ∀ a' c' h', pz_po N a c (k + 1) h a' c' h' → Q none h' := fun a' c' h' q => hQ0 a' c' h' q.1 q.2.1 q.2.2.1 q.2.2.2.1 q.2.2.2.2
  refine pz_call (n := 210) (nL := 3) (rt := none) (rows := am_r210) (d := D) (by decide +kernel) (by decide +kernel) rfl (by funext pc; rfl) (pz_175 hP0) (by exact Nat.le_of_ble_eq_true rfl) ?_
  refine am_goX 3 (show am_rc h 154 11 ∧ 0 ≤ 8 ∧ h.2.2.2.2 + am_al 211 ≤ 175 ∧ am_call am_cod D 211 [.ref 154, .int (nI d)] h (fun vv h' => pz_S 3 none am_r210 D Q 5 [(0, .ref 154), (1, .int (nI d))] (vv.toList ++ []) h') from ⟨pz_rc hP0, by decide, pz_lim hP0 rfl, hT N a c k h _ hP0 hca hK0 (fun a1 c1 h1 q1 q2 q3 q4 q5 => ?_)⟩)
  have hp : pz_po N a c (k + 1) h a1 c1 h1 := ⟨q1, q2, q3, q4, q5⟩
  clear q1 q2 q3 q4 q5
  obtain ⟨hP, hf, ha, hc, hK⟩ := id hp
  refine am_goX 3 (show am_rc h1 154 11 ∧ 0 ≤ 8 ∧ h1.2.2.2.2 + am_al 195 ≤ 175 ∧ am_call am_cod D 195 [.ref 154, .int (Int8.ofInt 15).toInt32] h1 (fun vv h' => pz_S 3 none am_r210 D Q 11 [(0, .ref 154), (1, .int (nI d))] (vv.toList ++ []) h') from ⟨pz_rc hP, by decide, pz_lim hP rfl, am_call.up (pz_word (w := 15) hP (by decide) ?_) (Nat.le_trans (by decide) hD)⟩)
  have fin : pz_wd h1 a1 15 = true ∨ pz_wd h1 a1 16 = true → pz_S 3 none am_r210 D Q 23 [(0, .ref 154), (1, .int (nI d))] [] h1 := ?_
  rotate_left
  · intro hz
    have hlt : a1 < N := by
      rcases hz with z | z
      · exact (pz_wd_lt hP z).2
      · exact (pz_wd_lt hP z).2
    have hP1 := pz_at (a' := a1 + 1) hP (by omega)
    refine am_goX 3 (show am_rc h1 154 11 ∧ 0 ≤ 8 ∧ h1.2.2.2.2 + am_al 195 ≤ 175 ∧ am_call am_cod D 195 [.ref 154, .int (Int8.ofInt 15).toInt32] h1 (fun vv h' => pz_S 3 none am_r210 D Q 29 [(0, .ref 154), (1, .int (nI d))] (vv.toList ++ []) h') from ⟨pz_rc hP, by decide, pz_lim hP rfl, am_call.up (pz_word (w := 15) hP (by decide) ?_) (Nat.le_trans (by decide) hD)⟩)
    generalize pz_b (pz_wd h1 a1 15) = v1
    refine am_goX 7 (show 2 < 3 ∧ (Value.ref 154).category = 1 ∧ am_sh h1 154 = some (11, 0) ∧ am_sh h1 154 = some (11, 0) ∧ narrow (am_fty 11 7) (.int (((h1.1 154 7) + (Int32.ofInt 1)))) = .int (((h1.1 154 7) + (Int32.ofInt 1))) ∧ fits (am_fty 11 7) (.int (((h1.1 154 7) + (Int32.ofInt 1)))) = true ∧ pz_S 3 none am_r210 D Q 40 [(2, .int v1), (0, .ref 154), (1, .int (nI d))] [] (am_wI h1 154 7 (((h1.1 154 7) + (Int32.ofInt 1)))) from ⟨by decide, rfl, pz_154 hP, pz_154 hP, rfl, rfl, ?_⟩)
    rw [hP.2.2.2.1, xw_i1]
    refine am_goX 3 (show am_rc (am_wI h1 154 7 (nI (a1 + 1))) 154 11 ∧ 0 ≤ 8 ∧ (am_wI h1 154 7 (nI (a1 + 1))).2.2.2.2 + am_al 211 ≤ 175 ∧ am_call am_cod D 211 [.ref 154, .int (nI d)] (am_wI h1 154 7 (nI (a1 + 1))) (fun vv h' => pz_S 3 none am_r210 D Q 45 [(2, .int v1), (0, .ref 154), (1, .int (nI d))] (vv.toList ++ []) h') from ⟨pz_rc hP1, by decide, pz_lim hP1 rfl, hT N (a1 + 1) c1 (k + 1) _ _ hP1 (by omega) (pz_atK hK) (fun a2 c2 h2 q1 q2 q3 q4 q5 => ?_)⟩)
    refine am_goX 3 (show (v1 = 0 → pz_S 3 none am_r210 D Q 55 [(2, .int v1), (0, .ref 154), (1, .int (nI d))] [.ref 154] h2) ∧ (¬ v1 = 0 → pz_S 3 none am_r210 D Q 50 [(2, .int v1), (0, .ref 154), (1, .int (nI d))] [.ref 154] h2) from ⟨fun hc1 => ?_, fun hc1 => ?_⟩)
    · refine am_goX 3 (show am_rc h2 154 11 ∧ 0 ≤ 8 ∧ h2.2.2.2.2 + am_al 216 ≤ 175 ∧ am_call am_cod D 216 [.ref 154, .int (Int8.ofInt 10).toInt32, .int (Int32.ofInt 0)] h2 (fun vv h' => pz_S 3 none am_r210 D Q 61 [(2, .int v1), (0, .ref 154), (1, .int (nI d))] (vv.toList ++ []) h') from ⟨pz_rc q1, by decide, pz_lim q1 rfl, am_call.up (pz_emit (k := k + 1 + 1) (k' := k + 1) q1 (by omega) q5 (Or.inr (Or.inr (Or.inr ⟨⟨10, by decide, by decide, rfl⟩, by omega, rfl⟩))) (fun h3 r1 r2 r3 => ?_)) (Nat.le_trans (by decide) hD)⟩)
      refine am_goX 1 (show pz_S 3 none am_r210 D Q 5 [(2, .int v1), (0, .ref 154), (1, .int (nI d))] [] h3 from ?_)
      exact pz_whole_l hD hT hca hQ N a2 (c2 + 1) v1 h3 (by omega) ⟨r1, pz_tr (pz_tr (pz_tr hf pz_atf) q2) r2, by omega, by omega, r3⟩
    · refine am_goX 4 (show am_rc h2 154 11 ∧ 0 ≤ 8 ∧ h2.2.2.2.2 + am_al 216 ≤ 175 ∧ am_call am_cod D 216 [.ref 154, .int (Int8.ofInt 9).toInt32, .int (Int32.ofInt 0)] h2 (fun vv h' => pz_S 3 none am_r210 D Q 61 [(2, .int v1), (0, .ref 154), (1, .int (nI d))] (vv.toList ++ []) h') from ⟨pz_rc q1, by decide, pz_lim q1 rfl, am_call.up (pz_emit (k := k + 1 + 1) (k' := k + 1) q1 (by omega) q5 (Or.inr (Or.inr (Or.inr ⟨⟨9, by decide, by decide, rfl⟩, by omega, rfl⟩))) (fun h3 r1 r2 r3 => ?_)) (Nat.le_trans (by decide) hD)⟩)
      refine am_goX 1 (show pz_S 3 none am_r210 D Q 5 [(2, .int v1), (0, .ref 154), (1, .int (nI d))] [] h3 from ?_)
      exact pz_whole_l hD hT hca hQ N a2 (c2 + 1) v1 h3 (by omega) ⟨r1, pz_tr (pz_tr (pz_tr hf pz_atf) q2) r2, by omega, by omega, r3⟩
  · cases e : pz_wd h1 a1 15 with
    | true => exact am_goX 1 (show (¬ pz_b true = 0 → pz_S 3 none am_r210 D Q 23 [(0, .ref 154), (1, .int (nI d))] [] h1) ∧ (¬ ¬ pz_b true = 0 → pz_S 3 none am_r210 D Q 14 [(0, .ref 154), (1, .int (nI d))] [] h1) from ⟨fun _ => fin (Or.inl e), fun z => absurd (by decide) z⟩)
    | false =>
      refine am_goX 1 (show (¬ pz_b false = 0 → pz_S 3 none am_r210 D Q 23 [(0, .ref 154), (1, .int (nI d))] [] h1) ∧ (¬ ¬ pz_b false = 0 → pz_S 3 none am_r210 D Q 14 [(0, .ref 154), (1, .int (nI d))] [] h1) from ⟨fun z => absurd rfl z, fun _ => ?_⟩)
      refine am_goX 3 (show am_rc h1 154 11 ∧ 0 ≤ 8 ∧ h1.2.2.2.2 + am_al 195 ≤ 175 ∧ am_call am_cod D 195 [.ref 154, .int (Int8.ofInt 16).toInt32] h1 (fun vv h' => pz_S 3 none am_r210 D Q 20 [(0, .ref 154), (1, .int (nI d))] (vv.toList ++ []) h') from ⟨pz_rc hP, by decide, pz_lim hP rfl, am_call.up (pz_word (w := 16) hP (by decide) ?_) (Nat.le_trans (by decide) hD)⟩)
      cases e2 : pz_wd h1 a1 16 with
      | true => exact am_goX 1 (show (pz_b true = 0 → pz_S 3 none am_r210 D Q 64 [(0, .ref 154), (1, .int (nI d))] [] h1) ∧ (¬ pz_b true = 0 → pz_S 3 none am_r210 D Q 23 [(0, .ref 154), (1, .int (nI d))] [] h1) from ⟨fun z => absurd z (by decide), fun _ => fin (Or.inr e2)⟩)
      | false =>
        refine am_goX 1 (show (pz_b false = 0 → pz_S 3 none am_r210 D Q 64 [(0, .ref 154), (1, .int (nI d))] [] h1) ∧ (¬ pz_b false = 0 → pz_S 3 none am_r210 D Q 23 [(0, .ref 154), (1, .int (nI d))] [] h1) from ⟨fun _ => ?_, fun z => absurd rfl z⟩)
        exact am_goX 1 (show (none : Option FieldType) = none ∧ h1.2.2.2.2 = 175 ∧ _ from ⟨rfl, pz_175 hP, hQ a1 c1 h1 hp⟩)
theorem pz_test {D d : Nat} (hD : 2 ≤ D) (hT : pz_T D 212 d) : pz_T (D + 1) 211 d := by
  intro N a c k h Q hP0 hca hK0 hQ
  refine pz_call (n := 211) (nL := 3) (rt := none) (rows := am_r211) (d := D) (by decide +kernel) (by decide +kernel) rfl (by funext pc; rfl) (pz_175 hP0) (by exact Nat.le_of_ble_eq_true rfl) ?_
  refine am_goX 3 (show am_rc h 154 11 ∧ 0 ≤ 8 ∧ h.2.2.2.2 + am_al 212 ≤ 175 ∧ am_call am_cod D 212 [.ref 154, .int (nI d)] h (fun vv h' => pz_S 3 none am_r211 D Q 5 [(0, .ref 154), (1, .int (nI d))] (vv.toList ++ []) h') from ⟨pz_rc hP0, by decide, pz_lim hP0 rfl, hT N a c k h _ hP0 hca hK0 (fun a1 c1 h1 hP hf ha hc hK => ?_)⟩)
  refine am_goX 3 (show am_rc h1 154 11 ∧ 0 ≤ 8 ∧ h1.2.2.2.2 + am_al 215 ≤ 175 ∧ am_call am_cod D 215 [.ref 154, .int (Int8.ofInt 60).toInt32] h1 (fun vv h' => pz_S 3 none am_r211 D Q 11 [(0, .ref 154), (1, .int (nI d))] (vv.toList ++ []) h') from ⟨pz_rc hP, by decide, pz_lim hP rfl, am_call.up (pz_sign hP ?_) (Nat.le_trans (by decide) hD)⟩)
  generalize pz_b (pz_sg h1 a1 (Int8.ofInt 60).toInt32) = v1
  have fin : ∀ x : Int32, pz_sg h1 a1 x = true → pz_S 3 none am_r211 D Q 30 [(2, .int v1), (0, .ref 154), (1, .int (nI d))] [] (am_wI h1 154 7 (nI (a1 + 1))) := ?_
  rotate_left
  · intro x hz
    have hlt : a1 < N := (pz_sg_lt hP hz).2
    have hP1 := pz_at (a' := a1 + 1) hP (by omega)
    refine am_goX 3 (show am_rc (am_wI h1 154 7 (nI (a1 + 1))) 154 11 ∧ 0 ≤ 8 ∧ (am_wI h1 154 7 (nI (a1 + 1))).2.2.2.2 + am_al 212 ≤ 175 ∧ am_call am_cod D 212 [.ref 154, .int (nI d)] (am_wI h1 154 7 (nI (a1 + 1))) (fun vv h' => pz_S 3 none am_r211 D Q 35 [(2, .int v1), (0, .ref 154), (1, .int (nI d))] (vv.toList ++ []) h') from ⟨pz_rc hP1, by decide, pz_lim hP1 rfl, hT N (a1 + 1) c1 (k + 1) _ _ hP1 (by omega) (pz_atK hK) (fun a2 c2 h2 q1 q2 q3 q4 q5 => ?_)⟩)
    refine am_goX 3 (show (v1 = 0 → pz_S 3 none am_r211 D Q 45 [(2, .int v1), (0, .ref 154), (1, .int (nI d))] [.ref 154] h2) ∧ (¬ v1 = 0 → pz_S 3 none am_r211 D Q 40 [(2, .int v1), (0, .ref 154), (1, .int (nI d))] [.ref 154] h2) from ⟨fun hc1 => ?_, fun hc1 => ?_⟩)
    · refine am_goX 3 (show am_rc h2 154 11 ∧ 0 ≤ 8 ∧ h2.2.2.2.2 + am_al 216 ≤ 175 ∧ am_call am_cod D 216 [.ref 154, .int (Int8.ofInt 8).toInt32, .int (Int32.ofInt 0)] h2 (fun vv h' => pz_S 3 none am_r211 D Q 51 [(2, .int v1), (0, .ref 154), (1, .int (nI d))] (vv.toList ++ []) h') from ⟨pz_rc q1, by decide, pz_lim q1 rfl, am_call.up (pz_emit (k := k + 1 + 1) (k' := k + 1) q1 (by omega) q5 (Or.inr (Or.inr (Or.inr ⟨⟨8, by decide, by decide, rfl⟩, by omega, rfl⟩))) (fun h3 r1 r2 r3 => ?_)) (Nat.le_trans (by decide) hD)⟩)
      exact am_goX 1 (show (none : Option FieldType) = none ∧ h3.2.2.2.2 = 175 ∧ _ from ⟨rfl, pz_175 r1, hQ a2 (c2 + 1) h3 r1 (pz_tr (pz_tr (pz_tr hf pz_atf) q2) r2) (by omega) (by omega) r3⟩)
    · refine am_goX 4 (show am_rc h2 154 11 ∧ 0 ≤ 8 ∧ h2.2.2.2.2 + am_al 216 ≤ 175 ∧ am_call am_cod D 216 [.ref 154, .int (Int8.ofInt 7).toInt32, .int (Int32.ofInt 0)] h2 (fun vv h' => pz_S 3 none am_r211 D Q 51 [(2, .int v1), (0, .ref 154), (1, .int (nI d))] (vv.toList ++ []) h') from ⟨pz_rc q1, by decide, pz_lim q1 rfl, am_call.up (pz_emit (k := k + 1 + 1) (k' := k + 1) q1 (by omega) q5 (Or.inr (Or.inr (Or.inr ⟨⟨7, by decide, by decide, rfl⟩, by omega, rfl⟩))) (fun h3 r1 r2 r3 => ?_)) (Nat.le_trans (by decide) hD)⟩)
      exact am_goX 1 (show (none : Option FieldType) = none ∧ h3.2.2.2.2 = 175 ∧ _ from ⟨rfl, pz_175 r1, hQ a2 (c2 + 1) h3 r1 (pz_tr (pz_tr (pz_tr hf pz_atf) q2) r2) (by omega) (by omega) r3⟩)
  refine am_goX 4 (show 2 < 3 ∧ am_rc h1 154 11 ∧ 0 ≤ 8 ∧ h1.2.2.2.2 + am_al 217 ≤ 175 ∧ am_call am_cod D 217 [.ref 154, .int (Int8.ofInt 60).toInt32] h1 (fun vv h' => pz_S 3 none am_r211 D Q 18 [(2, .int v1), (0, .ref 154), (1, .int (nI d))] (vv.toList ++ []) h') from ⟨by decide, pz_rc hP, by decide, pz_lim hP rfl, am_call.up (pz_hsign hP (fun e => ?_) (fun e => ?_)) hD⟩)
  · exact am_goX 1 (show (¬ (1 : Int32) = 0 → pz_S 3 none am_r211 D Q 30 [(2, .int v1), (0, .ref 154), (1, .int (nI d))] [] (am_wI h1 154 7 (nI (a1 + 1)))) ∧ (¬ ¬ (1 : Int32) = 0 → pz_S 3 none am_r211 D Q 21 [(2, .int v1), (0, .ref 154), (1, .int (nI d))] [] (am_wI h1 154 7 (nI (a1 + 1)))) from ⟨fun _ => fin _ e, fun z => absurd (by decide) z⟩)
  · refine am_goX 1 (show (¬ (0 : Int32) = 0 → pz_S 3 none am_r211 D Q 30 [(2, .int v1), (0, .ref 154), (1, .int (nI d))] [] h1) ∧ (¬ ¬ (0 : Int32) = 0 → pz_S 3 none am_r211 D Q 21 [(2, .int v1), (0, .ref 154), (1, .int (nI d))] [] h1) from ⟨fun z => absurd rfl z, fun _ => ?_⟩)
    refine am_goX 3 (show am_rc h1 154 11 ∧ 0 ≤ 8 ∧ h1.2.2.2.2 + am_al 217 ≤ 175 ∧ am_call am_cod D 217 [.ref 154, .int (Int8.ofInt 61).toInt32] h1 (fun vv h' => pz_S 3 none am_r211 D Q 27 [(2, .int v1), (0, .ref 154), (1, .int (nI d))] (vv.toList ++ []) h') from ⟨pz_rc hP, by decide, pz_lim hP rfl, am_call.up (pz_hsign hP (fun e2 => ?_) (fun e2 => ?_)) hD⟩)
    · exact am_goX 1 (show ((1 : Int32) = 0 → pz_S 3 none am_r211 D Q 51 [(2, .int v1), (0, .ref 154), (1, .int (nI d))] [] (am_wI h1 154 7 (nI (a1 + 1)))) ∧ (¬ (1 : Int32) = 0 → pz_S 3 none am_r211 D Q 30 [(2, .int v1), (0, .ref 154), (1, .int (nI d))] [] (am_wI h1 154 7 (nI (a1 + 1)))) from ⟨fun z => absurd z (by decide), fun _ => fin _ e2⟩)
    · refine am_goX 1 (show ((0 : Int32) = 0 → pz_S 3 none am_r211 D Q 51 [(2, .int v1), (0, .ref 154), (1, .int (nI d))] [] h1) ∧ (¬ (0 : Int32) = 0 → pz_S 3 none am_r211 D Q 30 [(2, .int v1), (0, .ref 154), (1, .int (nI d))] [] h1) from ⟨fun _ => ?_, fun z => absurd rfl z⟩)
      exact am_goX 1 (show (none : Option FieldType) = none ∧ h1.2.2.2.2 = 175 ∧ _ from ⟨rfl, pz_175 hP, hQ a1 c1 h1 hP hf ha hc hK⟩)
