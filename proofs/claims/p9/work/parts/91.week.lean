/-! week -/
variable {N a c : Nat} {h h0 : am_H}
def pz_Mw : ag_M := [(154, 7, 8), (167, 0, 249)]
theorem pz_trw {h1 h2 : am_H} (f1 : ag_fr pz_Mw h h1) (f2 : ag_fr pz_Mw h1 h2) : ag_fr pz_Mw h h2 := f1.trans (by decide +kernel) f2
theorem pz_Fw {h1 h2 : am_H} (f1 : ag_fr pz_Mw h h1) (f2 : ag_fr pz_F h1 h2) : ag_fr pz_Mw h h2 := f1.trans (by decide +kernel) f2
theorem pz_Mwk {k : Nat} (hk : k ≤ 249) : ag_atM pz_Mw 167 k = true := by
  have e1 : Nat.ble k 249 = true := Nat.ble_eq_true_of_le hk
  unfold ag_atM pz_Mw
  simp [List.any, e1]
/-- between two lines of a week -/
def wk (N a c : Nat) (h0 : am_H) (h : am_H) : Prop := pz_P N a c h ∧ ag_fr pz_Mw h0 h
theorem wk_w {k : Nat} {v : Int32} (q : wk N a c h0 h) (hk : k ≤ 249) (hv : ∀ s ∈ ag_sg 167, ag_seg s k v) : wk N a c h0 (am_wI h 167 k v) := ⟨pz_w q.1 (by omega) (by unfold ag_kp; omega) hv, pz_trw q.2 (pz_fr (pz_Mwk hk))⟩
theorem wk_at {a' : Nat} (q : wk N a c h0 h) (ha : a' ≤ N) : wk N a' c h0 (am_wI h 154 7 (nI a')) := ⟨pz_at q.1 ha, pz_trw q.2 (pz_fr rfl)⟩
theorem wk_k {a' : Nat} {h' : am_H} (q : wk N a c h0 h) (p : pk N a c h a' h') : wk N a' c h0 h' := ⟨p.1, pz_Fw q.2 p.2.1⟩
theorem pz_sg167 : (ag_sg 167).all (fun s => (Nat.beq s.1 0 && (Nat.beq s.2.1 0 && (decide (s.2.2.2.2.1 ≤ 0) && decide (40 ≤ s.2.2.2.2.2)))) || ((Nat.beq s.1 1 && (Nat.beq s.2.1 124 && (Nat.beq s.2.2.1 3 && (Nat.beq s.2.2.2.1 2 && (decide (s.2.2.2.2.1 = 0) && decide (s.2.2.2.2.2 = 5)))))) || (Nat.beq s.1 125 && (Nat.beq s.2.1 249 && (Nat.beq s.2.2.1 3 && (Nat.beq s.2.2.2.1 0 && (decide (s.2.2.2.2.1 = 0) && decide (s.2.2.2.2.2 = 5)))))))) = true := by decide +kernel
theorem pz_s167 {k : Nat} {v : Int32} (h0 : k = 0 → 0 ≤ v.toInt ∧ v.toInt ≤ 40) (h1 : 1 ≤ k → k ≤ 124 → k % 3 = 2 → 0 ≤ v.toInt ∧ v.toInt ≤ 5) (h2 : 125 ≤ k → k ≤ 249 → k % 3 = 0 → 0 ≤ v.toInt ∧ v.toInt ≤ 5) : ∀ s ∈ ag_sg 167, ag_seg s k v := by
  intro s hs k1 k2 k3
  have w := List.all_eq_true.mp pz_sg167 s hs
  simp only [Bool.and_eq_true, Bool.or_eq_true, decide_eq_true_eq] at w
  rcases w with ⟨w1, w2, w3, w4⟩ | ⟨w1, w2, w3, w4, w5, w6⟩ | ⟨w1, w2, w3, w4, w5, w6⟩
  · have e1 := Nat.eq_of_beq_eq_true w1
    have e2 := Nat.eq_of_beq_eq_true w2
    have := h0 (by omega)
    omega
  · have e1 := Nat.eq_of_beq_eq_true w1
    have e2 := Nat.eq_of_beq_eq_true w2
    have e3 := Nat.eq_of_beq_eq_true w3
    have e4 := Nat.eq_of_beq_eq_true w4
    rw [e3, e4] at k3
    have := h1 (by omega) (by omega) k3
    rw [w5, w6]
    exact this
  · have e1 := Nat.eq_of_beq_eq_true w1
    have e2 := Nat.eq_of_beq_eq_true w2
    have e3 := Nat.eq_of_beq_eq_true w3
    have e4 := Nat.eq_of_beq_eq_true w4
    rw [e3, e4] at k3
    have := h2 (by omega) (by omega) k3
    rw [w5, w6]
    exact this
theorem pz_g167 (hP : pz_P N a c h) {k : Nat} (h1 : 125 ≤ k) (h2 : k ≤ 249) (h3 : k % 3 = 0) : 0 ≤ (h.1 167 k).toInt ∧ (h.1 167 k).toInt ≤ 5 := hP.1.2.1.1 167 (125, 249, 3, 0, 0, 5) (iv_sgm (o := 167) (s := (125, 249, 3, 0, 0, 5)) (by decide +kernel)) k h1 h2 h3
theorem pz_mul3 {n : Nat} (hn : n ≤ 1000) : Int32.ofInt 3 * nI n = nI (3 * n) := by
  apply Int32.toInt_inj.mp
  rw [Int32.toInt_mul, nI_toInt (by omega), nI_toInt (by omega), show (Int32.ofInt 3).toInt = 3 by decide]
  rw [Int.bmod_eq_of_le (by omega) (by omega)]
  omega
theorem pz_i125 {n : Nat} (hn : n ≤ 40) : (Int8.ofInt 125).toInt32 + Int32.ofInt 3 * nI n = nI (125 + 3 * n) := by
  rw [pz_mul3 (by omega)]
  exact nI_add 125 (3 * n)
theorem pz_wkc {Q : am_Q} {n : Nat} (hn : n ≤ 40) (hQ : ∀ h', wk N a c h0 h' → Q (some (.int (Int32.ofInt 0))) h') : ∀ (m k : Nat) (h : am_H), k + m = 3 * n → wk N a c h0 h → pz_S 4 (some .int) am_r219 5 Q 179 [(2, .int (nI k)), (1, .int (nI n)), (0, .ref 154)] [] h := by
  intro m
  induction m with
  | zero =>
    intro k h hk q
    have hP := q.1
    refine am_goX 4 (show pz_S 4 (some .int) am_r219 5 Q 183 [(2, .int (nI k)), (1, .int (nI n)), (0, .ref 154)] [.int ((Int32.ofInt 3) * (nI n)), .int (nI k)] h from ?_)
    rw [pz_mul3 (by omega)]
    refine am_goX 1 (show ((nI (3 * n)) ≤ (nI k) → pz_S 4 (some .int) am_r219 5 Q 209 [(2, .int (nI k)), (1, .int (nI n)), (0, .ref 154)] [] h) ∧ (¬ ((nI (3 * n)) ≤ (nI k)) → pz_S 4 (some .int) am_r219 5 Q 186 [(2, .int (nI k)), (1, .int (nI n)), (0, .ref 154)] [] h) from ⟨fun hc => ?_, fun hc => ?_⟩)
    · exact am_goX 2 (show (∃ ty, (some .int) = some ty ∧ narrow ty (.int ((Int32.ofInt 0))) = .int ((Int32.ofInt 0))) ∧ h.2.2.2.2 = 175 ∧ _ from ⟨⟨.int, rfl, rfl⟩, pz_175 hP, hQ h q⟩)
    · exact absurd (nI_le (by omega) (by omega)) hc
  | succ m ih =>
    intro k h hk q
    have hP := q.1
    refine am_goX 4 (show pz_S 4 (some .int) am_r219 5 Q 183 [(2, .int (nI k)), (1, .int (nI n)), (0, .ref 154)] [.int ((Int32.ofInt 3) * (nI n)), .int (nI k)] h from ?_)
    rw [pz_mul3 (by omega)]
    refine am_goX 1 (show ((nI (3 * n)) ≤ (nI k) → pz_S 4 (some .int) am_r219 5 Q 209 [(2, .int (nI k)), (1, .int (nI n)), (0, .ref 154)] [] h) ∧ (¬ ((nI (3 * n)) ≤ (nI k)) → pz_S 4 (some .int) am_r219 5 Q 186 [(2, .int (nI k)), (1, .int (nI n)), (0, .ref 154)] [] h) from ⟨fun hc => ?_, fun hc => ?_⟩)
    · exact absurd hc (nI_ge (by omega) (by omega))
    · refine am_goX 2 (show am_sh h 154 = some (11, 0) ∧ pz_S 4 (some .int) am_r219 5 Q 190 [(2, .int (nI k)), (1, .int (nI n)), (0, .ref 154)] [am_rf (h.2.2.1 154 21)] h from ⟨pz_154 hP, ?_⟩)
      rw [pz_r21 hP]
      refine am_goX 5 (show am_sh h 154 = some (11, 0) ∧ pz_S 4 (some .int) am_r219 5 Q 197 [(2, .int (nI k)), (1, .int (nI n)), (0, .ref 154)] [am_rf (h.2.2.1 154 21), .int ((Int32.ofInt 1) + (nI k)), .ref 167] h from ⟨pz_154 hP, ?_⟩)
      rw [pz_r21 hP]
      refine am_goX 4 (show ∃ jj nn : Nat, am_sh h 167 = some (13, nn) ∧ jj < nn ∧ ((Int8.ofInt 125).toInt32 + (nI k)) = nI jj ∧ pz_S 4 (some .int) am_r219 5 Q 202 [(2, .int (nI k)), (1, .int (nI n)), (0, .ref 154)] [.int (h.1 167 jj), .int ((Int32.ofInt 1) + (nI k)), .ref 167] h from ⟨(125 + k), 250, pz_167 hP, by omega, nI_add 125 k, ?_⟩)
      refine am_goX 1 (show ∃ jj nn : Nat, am_so h 167 = some (13, nn) ∧ jj < nn ∧ ((Int32.ofInt 1) + (nI k)) = nI jj ∧ pz_S 4 (some .int) am_r219 5 Q 203 [(2, .int (nI k)), (1, .int (nI n)), (0, .ref 154)] [] (am_wI h 167 jj ((h.1 167 (125 + k)))) from ⟨(1 + k), 250, pz_w167 hP, by omega, nI_add 1 k, ?_⟩)
      have q1 := wk_w (k := 1 + k) (v := h.1 167 (125 + k)) q (by omega) (pz_s167 (fun w => absurd w (by omega)) (fun _ _ w => pz_g167 hP (by omega) (by omega) (by omega)) (fun w _ _ => absurd w (by omega)))
      generalize am_wI h 167 (1 + k) (h.1 167 (125 + k)) = h1 at q1 ⊢
      have hP1 := q1.1
      refine am_goX 2 (show 2 < 4 ∧ pz_S 4 (some .int) am_r219 5 Q 179 [(2, .int ((nI k) + Int32.ofInt 1)), (1, .int (nI n)), (0, .ref 154)] [] h1 from ⟨by decide, ?_⟩)
      rw [xw_i1]
      exact ih (k + 1) h1 (by omega) q1
theorem pz_wke {Q : am_Q} {n : Nat} (hn : n ≤ 40) (q : wk N a c h0 h) (hQ : ∀ h' x, wk N a c h0 h' → Q (some (.int x)) h') : pz_S 4 (some .int) am_r219 5 Q 158 [(1, .int (nI n)), (0, .ref 154)] [] h := by
  have hP := q.1
  refine am_goX 3 (show am_sh h 154 = some (11, 0) ∧ ((h.1 154 8) ≤ 0 → pz_S 4 (some .int) am_r219 5 Q 170 [(1, .int (nI n)), (0, .ref 154)] [] h) ∧ (¬ ((h.1 154 8) ≤ 0) → pz_S 4 (some .int) am_r219 5 Q 165 [(1, .int (nI n)), (0, .ref 154)] [] h) from ⟨pz_154 hP, fun hc => ?_, fun hc => ?_⟩)
  rotate_left
  · exact am_goX 3 (show am_sh h 154 = some (11, 0) ∧ (∃ ty, (some .int) = some ty ∧ narrow ty (.int ((h.1 154 8))) = .int ((h.1 154 8))) ∧ h.2.2.2.2 = 175 ∧ _ from ⟨pz_154 hP, ⟨.int, rfl, rfl⟩, pz_175 hP, hQ h _ q⟩)
  clear hc
  have hnt : (nI n).toInt = n := nI_toInt (by omega)
  refine am_goX 2 (show am_sh h 154 = some (11, 0) ∧ pz_S 4 (some .int) am_r219 5 Q 174 [(1, .int (nI n)), (0, .ref 154)] [am_rf (h.2.2.1 154 21)] h from ⟨pz_154 hP, ?_⟩)
  rw [pz_r21 hP]
  refine am_goX 3 (show ∃ jj nn : Nat, am_so h 167 = some (13, nn) ∧ jj < nn ∧ (Int32.ofInt 0) = nI jj ∧ pz_S 4 (some .int) am_r219 5 Q 177 [(1, .int (nI n)), (0, .ref 154)] [] (am_wI h 167 jj ((nI n))) from ⟨0, 250, pz_w167 hP, by decide, rfl, ?_⟩)
  have q1 := wk_w (k := 0) (v := nI n) q (by omega) (pz_s167 (fun _ => by omega) (fun w _ _ => absurd w (by omega)) (fun w _ _ => absurd w (by omega)))
  generalize am_wI h 167 0 (nI n) = h1 at q1 ⊢
  have hP1 := q1.1
  refine am_goX 2 (show 2 < 4 ∧ pz_S 4 (some .int) am_r219 5 Q 179 [(2, .int (Int32.ofInt 0)), (1, .int (nI n)), (0, .ref 154)] [] h1 from ⟨by decide, ?_⟩)
  exact pz_wkc hn (fun h2 q2 => hQ h2 _ q2) (3 * n) 0 h1 (Nat.zero_add _) q1
theorem pz_wkf {Q : am_Q} {n : Nat} (hn : n ≤ 40) (q : wk N a c h0 h) (hf : ¬ h.1 154 8 = 0) (hQ : ∀ h' x, wk N a c h0 h' → Q (some (.int x)) h') : pz_S 4 (some .int) am_r219 5 Q 11 [(1, .int (nI n)), (0, .ref 154)] [] h := by
  have hP := q.1
  refine am_goX 3 (show am_sh h 154 = some (11, 0) ∧ (¬ (h.1 154 8) = 0 → pz_S 4 (some .int) am_r219 5 Q 158 [(1, .int (nI n)), (0, .ref 154)] [] h) ∧ (¬ ¬ (h.1 154 8) = 0 → pz_S 4 (some .int) am_r219 5 Q 18 [(1, .int (nI n)), (0, .ref 154)] [] h) from ⟨pz_154 hP, fun _ => ?_, fun hz => absurd hf hz⟩)
  exact pz_wke hn q hQ
theorem pz_wkl {Q : am_Q} (hQ : ∀ a' h' x, wk N a' c h0 h' → Q (some (.int x)) h') : ∀ (m a n : Nat) (h : am_H), N ≤ a + m → n ≤ 40 → wk N a c h0 h → pz_S 4 (some .int) am_r219 5 Q 11 [(1, .int (nI n)), (0, .ref 154)] [] h := by
  intro m
  induction m with
  | zero =>
    intro a n h hm hn q
    have hP := q.1
    refine am_goX 3 (show am_sh h 154 = some (11, 0) ∧ (¬ (h.1 154 8) = 0 → pz_S 4 (some .int) am_r219 5 Q 158 [(1, .int (nI n)), (0, .ref 154)] [] h) ∧ (¬ ¬ (h.1 154 8) = 0 → pz_S 4 (some .int) am_r219 5 Q 18 [(1, .int (nI n)), (0, .ref 154)] [] h) from ⟨pz_154 hP, fun hc => ?_, fun hc => ?_⟩)
    · exact pz_wke hn q (hQ a)
    have hf : h.1 154 8 = 0 := Decidable.not_not.mp hc
    clear hc
    refine am_goX 2 (show am_sh h 154 = some (11, 0) ∧ pz_S 4 (some .int) am_r219 5 Q 22 [(1, .int (nI n)), (0, .ref 154)] [am_rf (h.2.2.1 154 4)] h from ⟨pz_154 hP, ?_⟩)
    rw [pz_r4 hP]
    refine am_goX 3 (show am_sh h 154 = some (11, 0) ∧ ∃ jj nn : Nat, am_sh h 156 = some (13, nn) ∧ jj < nn ∧ (h.1 154 7) = nI jj ∧ pz_S 4 (some .int) am_r219 5 Q 27 [(1, .int (nI n)), (0, .ref 154)] [.int (h.1 156 jj)] h from ⟨pz_154 hP, a, 1002, pz_156 hP, pz_al hP, hP.2.2.2.1, ?_⟩)
    refine am_goX 1 (show ((h.1 156 a) = 0 → pz_S 4 (some .int) am_r219 5 Q 158 [(1, .int (nI n)), (0, .ref 154)] [] h) ∧ (¬ ((h.1 156 a) = 0) → pz_S 4 (some .int) am_r219 5 Q 30 [(1, .int (nI n)), (0, .ref 154)] [] h) from ⟨fun hc => ?_, fun hc => ?_⟩)
    · exact pz_wke hn q (hQ a)
    · exact absurd (pz_lt hP hc) (by omega)
  | succ m ih =>
    intro a n h hm hn q
    have hP := q.1
    refine am_goX 3 (show am_sh h 154 = some (11, 0) ∧ (¬ (h.1 154 8) = 0 → pz_S 4 (some .int) am_r219 5 Q 158 [(1, .int (nI n)), (0, .ref 154)] [] h) ∧ (¬ ¬ (h.1 154 8) = 0 → pz_S 4 (some .int) am_r219 5 Q 18 [(1, .int (nI n)), (0, .ref 154)] [] h) from ⟨pz_154 hP, fun hc => ?_, fun hc => ?_⟩)
    · exact pz_wke hn q (hQ a)
    have hf : h.1 154 8 = 0 := Decidable.not_not.mp hc
    clear hc
    refine am_goX 2 (show am_sh h 154 = some (11, 0) ∧ pz_S 4 (some .int) am_r219 5 Q 22 [(1, .int (nI n)), (0, .ref 154)] [am_rf (h.2.2.1 154 4)] h from ⟨pz_154 hP, ?_⟩)
    rw [pz_r4 hP]
    refine am_goX 3 (show am_sh h 154 = some (11, 0) ∧ ∃ jj nn : Nat, am_sh h 156 = some (13, nn) ∧ jj < nn ∧ (h.1 154 7) = nI jj ∧ pz_S 4 (some .int) am_r219 5 Q 27 [(1, .int (nI n)), (0, .ref 154)] [.int (h.1 156 jj)] h from ⟨pz_154 hP, a, 1002, pz_156 hP, pz_al hP, hP.2.2.2.1, ?_⟩)
    refine am_goX 1 (show ((h.1 156 a) = 0 → pz_S 4 (some .int) am_r219 5 Q 158 [(1, .int (nI n)), (0, .ref 154)] [] h) ∧ (¬ ((h.1 156 a) = 0) → pz_S 4 (some .int) am_r219 5 Q 30 [(1, .int (nI n)), (0, .ref 154)] [] h) from ⟨fun hc => ?_, fun hc => ?_⟩)
    · exact pz_wke hn q (hQ a)
    have hlt := pz_lt hP hc
    clear hc
    have k149 : ∀ (a1 n1 : Nat) (g : am_H), wk N a1 c h0 g → n1 ≤ 40 → (¬ g.1 154 8 = 0 ∨ a ≤ a1) → pz_S 4 (some .int) am_r219 5 Q 149 [(1, .int (nI n1)), (0, .ref 154)] [] g := ?_
    rotate_left
    · intro a1 n1 g qg hn1 hor
      have hg := qg.1
      refine am_goX 3 (show am_rc g 154 11 ∧ 0 ≤ 8 ∧ g.2.2.2.2 + am_al 218 ≤ 175 ∧ am_call am_cod 5 218 [.ref 154, .int (Int8.ofInt 59).toInt32] g (fun vv h' => pz_S 4 (some .int) am_r219 5 Q 155 [(1, .int (nI n1)), (0, .ref 154)] (vv.toList ++ []) h') from ⟨pz_rc hg, by decide, pz_lim hg rfl, am_call.up (pz_tsignF hg (fun a2 h2 q2 => ?_)) (by decide)⟩)
      refine am_goX 1 (show pz_S 4 (some .int) am_r219 5 Q 11 [(1, .int (nI n1)), (0, .ref 154)] [] h2 from ?_)
      by_cases hf2 : h2.1 154 8 = 0
      · refine ih a2 n1 h2 ?_ hn1 (wk_k qg q2)
        rcases q2.2.2 with y | y
        · exact absurd hf2 y.1
        · rcases hor with w | w
          · exact absurd y.2.1 w
          · omega
      · exact pz_wkf hn1 (wk_k qg q2) hf2 (hQ a2)
    suffices k49 : ∀ r : Int32, pz_S 4 (some .int) am_r219 5 Q 49 [(1, .int (nI n)), (0, .ref 154)] [.int r] h by
      refine am_goX 3 (show am_rc h 154 11 ∧ 0 ≤ 8 ∧ h.2.2.2.2 + am_al 195 ≤ 175 ∧ am_call am_cod 5 195 [.ref 154, .int (Int32.ofInt 1)] h (fun vv h' => pz_S 4 (some .int) am_r219 5 Q 35 [(1, .int (nI n)), (0, .ref 154)] (vv.toList ++ []) h') from ⟨pz_rc hP, by decide, pz_lim hP rfl, am_call.up (pz_word (w := 1) hP (by decide) ?_) (by decide)⟩)
      cases e : pz_wd h a 1 with
      | true =>
        refine am_goX 1 (show ((pz_b true) = 0 → pz_S 4 (some .int) am_r219 5 Q 42 [(1, .int (nI n)), (0, .ref 154)] [] h) ∧ (¬ ((pz_b true) = 0) → pz_S 4 (some .int) am_r219 5 Q 38 [(1, .int (nI n)), (0, .ref 154)] [] h) from ⟨fun hz => absurd hz (by decide), fun _ => ?_⟩)
        exact am_goX 2 (k49 _)
      | false =>
        refine am_goX 1 (show ((pz_b false) = 0 → pz_S 4 (some .int) am_r219 5 Q 42 [(1, .int (nI n)), (0, .ref 154)] [] h) ∧ (¬ ((pz_b false) = 0) → pz_S 4 (some .int) am_r219 5 Q 38 [(1, .int (nI n)), (0, .ref 154)] [] h) from ⟨fun _ => ?_, fun hz => absurd rfl hz⟩)
        refine am_goX 4 (show am_rc h 154 11 ∧ 0 ≤ 8 ∧ h.2.2.2.2 + am_al 199 ≤ 175 ∧ am_call am_cod 5 199 [.ref 154, .int (Int8.ofInt 8).toInt32, .int (Int32.ofInt 2)] h (fun vv h' => pz_S 4 (some .int) am_r219 5 Q 49 [(1, .int (nI n)), (0, .ref 154)] (vv.toList ++ []) h') from ⟨pz_rc hP, by decide, pz_lim hP rfl, am_call.up (pz_here (f := 8) (m := 2) hP (by decide) (fun r hr => ?_)) (by decide)⟩)
        exact k49 r
    intro r
    refine am_goX 3 (show 2 < 4 ∧ (0 ≤ r → pz_S 4 (some .int) am_r219 5 Q 62 [(2, .int r), (1, .int (nI n)), (0, .ref 154)] [] h) ∧ (¬ (0 ≤ r) → pz_S 4 (some .int) am_r219 5 Q 54 [(2, .int r), (1, .int (nI n)), (0, .ref 154)] [] h) from ⟨by decide, fun hc => ?_, fun hc => ?_⟩)
    rotate_left
    · refine am_goX 3 (show am_rc h 154 11 ∧ 0 ≤ 8 ∧ h.2.2.2.2 + am_al 197 ≤ 175 ∧ am_call am_cod 5 197 [.ref 154, .int (Int32.ofInt 1)] h (fun vv h' => pz_S 4 (some .int) am_r219 5 Q 59 [(2, .int r), (1, .int (nI n)), (0, .ref 154)] (vv.toList ++ []) h') from ⟨pz_rc hP, by decide, pz_lim hP rfl, am_call.up (pz_wrongF hP (by decide) (fun h' q1 q2 q3 => ?_)) (by decide)⟩)
      exact am_goX 1 (sv_S sv_219 (by intro q hq; simp only [List.mem_cons, List.not_mem_nil, or_false] at hq; rcases hq with rfl | rfl <;> rfl) (k149 a n h' ⟨q1, pz_Fw q.2 q2⟩ hn (Or.inl q3)))
    clear hc
    refine am_goX 3 (show (¬ (nI n) = (Int8.ofInt 40).toInt32 → pz_S 4 (some .int) am_r219 5 Q 76 [(2, .int r), (1, .int (nI n)), (0, .ref 154)] [] h) ∧ (¬ ¬ (nI n) = (Int8.ofInt 40).toInt32 → pz_S 4 (some .int) am_r219 5 Q 68 [(2, .int r), (1, .int (nI n)), (0, .ref 154)] [] h) from ⟨fun hc => ?_, fun hc => ?_⟩)
    rotate_left
    · refine am_goX 3 (show am_rc h 154 11 ∧ 0 ≤ 8 ∧ h.2.2.2.2 + am_al 197 ≤ 175 ∧ am_call am_cod 5 197 [.ref 154, .int (Int32.ofInt 5)] h (fun vv h' => pz_S 4 (some .int) am_r219 5 Q 73 [(2, .int r), (1, .int (nI n)), (0, .ref 154)] (vv.toList ++ []) h') from ⟨pz_rc hP, by decide, pz_lim hP rfl, am_call.up (pz_wrongF hP (by decide) (fun h' q1 q2 q3 => ?_)) (by decide)⟩)
      exact am_goX 1 (sv_S sv_219 (by intro q hq; simp only [List.mem_cons, List.not_mem_nil, or_false] at hq; rcases hq with rfl | rfl <;> rfl) (k149 a n h' ⟨q1, pz_Fw q.2 q2⟩ hn (Or.inl q3)))
    have hn40 : n < 40 := by
      rcases Nat.lt_or_ge n 40 with w | w
      · exact w
      · exact absurd (by rw [show n = 40 by omega]; rfl) hc
    clear hc
    refine am_goX 6 (show (Value.ref 154).category = 1 ∧ am_sh h 154 = some (11, 0) ∧ am_sh h 154 = some (11, 0) ∧ narrow (am_fty 11 7) (.int (((h.1 154 7) + (Int32.ofInt 1)))) = .int (((h.1 154 7) + (Int32.ofInt 1))) ∧ fits (am_fty 11 7) (.int (((h.1 154 7) + (Int32.ofInt 1)))) = true ∧ pz_S 4 (some .int) am_r219 5 Q 86 [(2, .int r), (1, .int (nI n)), (0, .ref 154)] [] (am_wI h 154 7 (((h.1 154 7) + (Int32.ofInt 1)))) from ⟨rfl, pz_154 hP, pz_154 hP, rfl, rfl, ?_⟩)
    rw [hP.2.2.2.1, xw_i1]
    have w1 := wk_at (a' := a + 1) q (by omega)
    generalize am_wI h 154 7 (nI (a + 1)) = h1 at w1 ⊢
    have hP1 := w1.1
    refine am_goX 6 (show 3 < 4 ∧ pz_S 4 (some .int) am_r219 5 Q 93 [(3, .int ((Int8.ofInt 125).toInt32 + ((Int32.ofInt 3) * (nI n)))), (2, .int r), (1, .int (nI n)), (0, .ref 154)] [] h1 from ⟨by decide, ?_⟩)
    rw [pz_i125 (by omega)]
    refine am_goX 2 (show am_sh h1 154 = some (11, 0) ∧ pz_S 4 (some .int) am_r219 5 Q 97 [(3, .int (nI (125 + 3 * n))), (2, .int r), (1, .int (nI n)), (0, .ref 154)] [am_rf (h1.2.2.1 154 21)] h1 from ⟨pz_154 hP1, ?_⟩)
    rw [pz_r21 hP1]
    refine am_goX 3 (show ∃ jj nn : Nat, am_so h1 167 = some (13, nn) ∧ jj < nn ∧ (nI (125 + 3 * n)) = nI jj ∧ pz_S 4 (some .int) am_r219 5 Q 100 [(3, .int (nI (125 + 3 * n))), (2, .int r), (1, .int (nI n)), (0, .ref 154)] [] (am_wI h1 167 jj (r)) from ⟨(125 + 3 * n), 250, pz_w167 hP1, by omega, rfl, ?_⟩)
    have w2 := wk_w (k := 125 + 3 * n) (v := r) w1 (by omega) (pz_s167 (fun w => absurd w (by omega)) (fun _ w _ => absurd w (by omega)) (fun _ _ w => absurd w (by omega)))
    generalize am_wI h1 167 (125 + 3 * n) r = h2 at w2 ⊢
    have hP2 := w2.1
    refine am_goX 2 (show am_sh h2 154 = some (11, 0) ∧ pz_S 4 (some .int) am_r219 5 Q 104 [(3, .int (nI (125 + 3 * n))), (2, .int r), (1, .int (nI n)), (0, .ref 154)] [am_rf (h2.2.2.1 154 21)] h2 from ⟨pz_154 hP2, ?_⟩)
    rw [pz_r21 hP2]
    have k122 : ∀ (a1 k5 : Nat) (g : am_H), wk N a1 c h0 g → a ≤ a1 → k5 ≤ 5 → pz_S 4 (some .int) am_r219 5 Q 122 [(3, .int (nI (125 + 3 * n))), (2, .int r), (1, .int (nI n)), (0, .ref 154)] [.int (nI k5), .int ((nI (125 + 3 * n)) + (Int32.ofInt 1)), .ref 167] g := ?_
    rotate_left
    · intro a1 k5 g qg ha1 hk5
      have hg := qg.1
      have hk5t : (nI k5).toInt = k5 := nI_toInt (by omega)
      refine am_goX 1 (show ∃ jj nn : Nat, am_so g 167 = some (13, nn) ∧ jj < nn ∧ ((nI (125 + 3 * n)) + (Int32.ofInt 1)) = nI jj ∧ pz_S 4 (some .int) am_r219 5 Q 123 [(3, .int (nI (125 + 3 * n))), (2, .int r), (1, .int (nI n)), (0, .ref 154)] [] (am_wI g 167 jj ((nI k5))) from ⟨(125 + 3 * n + 1), 250, pz_w167 hg, by omega, xw_i1 _, ?_⟩)
      have w3 := wk_w (k := 125 + 3 * n + 1) (v := nI k5) qg (by omega) (pz_s167 (fun w => absurd w (by omega)) (fun _ w _ => absurd w (by omega)) (fun _ _ _ => by omega))
      generalize am_wI g 167 (125 + 3 * n + 1) (nI k5) = h3 at w3 ⊢
      have hP3 := w3.1
      refine am_goX 2 (show am_sh h3 154 = some (11, 0) ∧ pz_S 4 (some .int) am_r219 5 Q 127 [(3, .int (nI (125 + 3 * n))), (2, .int r), (1, .int (nI n)), (0, .ref 154)] [am_rf (h3.2.2.1 154 21)] h3 from ⟨pz_154 hP3, ?_⟩)
      rw [pz_r21 hP3]
      have k145 : ∀ (a2 : Nat) (y : Int32) (g1 : am_H), wk N a2 c h0 g1 → a ≤ a2 → pz_S 4 (some .int) am_r219 5 Q 145 [(3, .int (nI (125 + 3 * n))), (2, .int r), (1, .int (nI n)), (0, .ref 154)] [.int y, .int ((nI (125 + 3 * n)) + (Int32.ofInt 2)), .ref 167] g1 := ?_
      rotate_left
      · intro a2 y g1 qg1 ha2
        have hg1 := qg1.1
        refine am_goX 1 (show ∃ jj nn : Nat, am_so g1 167 = some (13, nn) ∧ jj < nn ∧ ((nI (125 + 3 * n)) + (Int32.ofInt 2)) = nI jj ∧ pz_S 4 (some .int) am_r219 5 Q 146 [(3, .int (nI (125 + 3 * n))), (2, .int r), (1, .int (nI n)), (0, .ref 154)] [] (am_wI g1 167 jj (y)) from ⟨(125 + 3 * n + 2), 250, pz_w167 hg1, by omega, nI_add _ 2, ?_⟩)
        have w4 := wk_w (k := 125 + 3 * n + 2) (v := y) qg1 (by omega) (pz_s167 (fun w => absurd w (by omega)) (fun _ w _ => absurd w (by omega)) (fun _ _ w => absurd w (by omega)))
        generalize am_wI g1 167 (125 + 3 * n + 2) y = h4 at w4 ⊢
        have hP4 := w4.1
        refine am_goX 1 (show 1 < 4 ∧ pz_S 4 (some .int) am_r219 5 Q 149 [(1, .int ((nI n) + Int32.ofInt 1)), (3, .int (nI (125 + 3 * n))), (2, .int r), (0, .ref 154)] [] h4 from ⟨by decide, ?_⟩)
        rw [xw_i1]
        exact sv_S sv_219 (by intro q hq; simp only [List.mem_cons, List.not_mem_nil, or_false] at hq; rcases hq with rfl | rfl <;> rfl) (k149 a2 (n + 1) h4 w4 (by omega) (Or.inr ha2))
      refine am_goX 6 (show (¬ r = (Int32.ofInt 2) → pz_S 4 (some .int) am_r219 5 Q 144 [(3, .int (nI (125 + 3 * n))), (2, .int r), (1, .int (nI n)), (0, .ref 154)] [.int ((nI (125 + 3 * n)) + (Int32.ofInt 2)), .ref 167] h3) ∧ (¬ ¬ r = (Int32.ofInt 2) → pz_S 4 (some .int) am_r219 5 Q 135 [(3, .int (nI (125 + 3 * n))), (2, .int r), (1, .int (nI n)), (0, .ref 154)] [.int ((nI (125 + 3 * n)) + (Int32.ofInt 2)), .ref 167] h3) from ⟨fun hc => ?_, fun hc => ?_⟩)
      · exact am_goX 1 (k145 a1 _ h3 w3 ha1)
      · refine am_goX 4 (show am_rc h3 154 11 ∧ 2 ≤ 8 ∧ h3.2.2.2.2 + am_al 205 ≤ 175 ∧ am_call am_cod 5 205 [.ref 154, .int (Int32.ofInt 0), .int (Int32.ofInt 4)] h3 (fun vv h' => pz_S 4 (some .int) am_r219 5 Q 141 [(3, .int (nI (125 + 3 * n))), (2, .int r), (1, .int (nI n)), (0, .ref 154)] (vv.toList ++ [.int ((nI (125 + 3 * n)) + (Int32.ofInt 2)), .ref 167]) h') from ⟨pz_rc hP3, by decide, pz_lim hP3 rfl, am_call.up (pz_tnum hP3 (fun a2 h4 v q4 => ?_)) (by decide)⟩)
        exact am_goX 1 (k145 a2 v h4 (wk_k w3 q4) (by rcases q4.2.2 with w | w <;> omega))
    refine am_goX 5 (show (¬ r = 0 → pz_S 4 (some .int) am_r219 5 Q 115 [(3, .int (nI (125 + 3 * n))), (2, .int r), (1, .int (nI n)), (0, .ref 154)] [.int ((nI (125 + 3 * n)) + (Int32.ofInt 1)), .ref 167] h2) ∧ (¬ ¬ r = 0 → pz_S 4 (some .int) am_r219 5 Q 111 [(3, .int (nI (125 + 3 * n))), (2, .int r), (1, .int (nI n)), (0, .ref 154)] [.int ((nI (125 + 3 * n)) + (Int32.ofInt 1)), .ref 167] h2) from ⟨fun hc => ?_, fun hc => ?_⟩)
    · refine am_goX 5 (show am_rc h2 154 11 ∧ 2 ≤ 8 ∧ h2.2.2.2.2 + am_al 206 ≤ 175 ∧ am_call am_cod 5 206 [.ref 154, .int (Int32.ofInt 0), .int (Int32.ofInt 0), .int (Int32.ofInt 0)] h2 (fun vv h' => pz_S 4 (some .int) am_r219 5 Q 122 [(3, .int (nI (125 + 3 * n))), (2, .int r), (1, .int (nI n)), (0, .ref 154)] (vv.toList ++ [.int ((nI (125 + 3 * n)) + (Int32.ofInt 1)), .ref 167]) h') from ⟨pz_rc hP2, by decide, pz_lim hP2 rfl, am_call.up (pz_told0 hP2 (fun a2 h3 k5 hk5 q3 => ?_)) (by decide)⟩)
      exact k122 a2 k5 h3 (wk_k w2 q3) (by rcases q3.2.2 with w | w <;> omega) hk5
    · exact am_goX 2 (k122 (a + 1) 0 h2 w2 (by omega) (by decide))
def pz_Mx : ag_M := [(154, 0, 0), (154, 2, 3), (154, 7, 8), (156, 0, 1001), (157, 0, 1001), (158, 0, 1001), (167, 0, 249)]
theorem pz_week {Q : am_Q} (hP0 : pz_P N a c h) (hQ : ∀ N' a' c' h' x, pz_P N' a' c' h' → rg h h' → ag_fr pz_Mx h h' → Q (some (.int x)) h') : am_call am_cod 6 219 [.ref 154] h Q := by
  refine pz_call (n := 219) (nL := 4) (rt := (some .int)) (rows := am_r219) (d := 5) (by decide +kernel) (by decide +kernel) rfl (by funext pc; rfl) (pz_175 hP0) (by exact Nat.le_of_ble_eq_true rfl) ?_
  refine am_goX 3 (show am_sh h 154 = some (11, 0) ∧ narrow (am_fty 11 0) (.int ((Int32.ofInt 0))) = .int ((Int32.ofInt 0)) ∧ fits (am_fty 11 0) (.int ((Int32.ofInt 0))) = true ∧ pz_S 4 (some .int) am_r219 5 Q 5 [(0, .ref 154)] [] (am_wI h 154 0 ((Int32.ofInt 0))) from ⟨pz_154 hP0, rfl, rfl, ?_⟩)
  have hP1 := pz_w (o := 154) (k := 0) (v := Int32.ofInt 0) hP0 (by omega) (by unfold ag_kp; omega) pz_s0
  have r1 : (am_wI h 154 0 (Int32.ofInt 0)).1 1 1 = h.1 1 1 ∧ (am_wI h 154 0 (Int32.ofInt 0)).2 = h.2 := ⟨em_wn h _ (by omega), rfl⟩
  have fx : ag_fr pz_Mx h (am_wI h 154 0 (Int32.ofInt 0)) := pz_fr (by decide)
  generalize am_wI h 154 0 (Int32.ofInt 0) = h1 at hP1 r1 fx ⊢
  refine am_goX 2 (show am_rc h1 154 11 ∧ 0 ≤ 8 ∧ h1.2.2.2.2 + am_al 189 ≤ 175 ∧ am_call am_cod 5 189 [.ref 154] h1 (fun vv h' => pz_S 4 (some .int) am_r219 5 Q 9 [(0, .ref 154)] (vv.toList ++ []) h') from ⟨pz_rc hP1, by decide, pz_lim hP1 rfl, am_call.up (pz_cutall hP1 (fun N2 h2 hP2 f2 b2 t2 => ?_)) (by decide)⟩)
  refine am_goX 2 (show 1 < 4 ∧ pz_S 4 (some .int) am_r219 5 Q 11 [(1, .int (Int32.ofInt 0)), (0, .ref 154)] [] h2 from ⟨by decide, ?_⟩)
  exact pz_wkl (h0 := h2) (fun a3 h3 x q3 => hQ N2 a3 c h3 x q3.1 (rg_of r1 f2 t2 (rf_of (by decide +kernel) q3.2)) ((fx.trans (by decide +kernel) f2).trans (by decide +kernel) q3.2)) N2 0 0 h2 (by omega) (by decide) ⟨hP2, ag_fr.refl h2⟩
/-! WHAT THE LAW ASKS OF THE PARSER -/
theorem pz_iv (hI : iv_I h) : ∃ N a c, pz_P N a c h := by
  obtain ⟨N, hN, hW, hX, ha, -⟩ := hI
  have h0 := hW.2.2.1
  have g7 : 0 ≤ (h.1 154 7).toInt ∧ (h.1 154 7).toInt ≤ 1000 := hW.2.1.1 154 (7, 7, 1, 0, 0, 1000) (iv_sgm (o := 154) (s := (7, 7, 1, 0, 0, 1000)) (by decide +kernel)) 7 (by decide) (by decide) (by decide)
  have g13 : 0 ≤ (h.1 154 13).toInt ∧ (h.1 154 13).toInt ≤ 1100 := hW.2.1.1 154 (13, 13, 1, 0, 0, 1100) (iv_sgm (o := 154) (s := (13, 13, 1, 0, 0, 1100)) (by decide +kernel)) 13 (by decide) (by decide) (by decide)
  refine ⟨N.toNat, (h.1 154 7).toInt.toNat, (h.1 154 13).toInt.toNat, ?_, hX, by omega, Int32.toInt_inj.mp ?_, by omega, Int32.toInt_inj.mp ?_, by omega⟩
  · rw [Int.toNat_of_nonneg h0]
    exact hW
  · rw [nI_toInt (by omega)]
    omega
  · rw [nI_toInt (by omega)]
    omega
theorem pz_vi {h' : am_H} (hI : iv_I h) (hP : pz_P N a c h') (r : ∀ k, h'.2.2.1 0 k = h.2.2.1 0 k) : iv_I h' := by
  obtain ⟨N0, -, -, -, -, hc⟩ := hI
  have t : (h'.1 154 7).toInt = a := by
    rw [hP.2.2.2.1]
    exact nI_toInt (by have := hP.2.2.1; have := hP.2.2.2.2.1; omega)
  refine ⟨N, by have := hP.2.2.1; omega, hP.1, hP.2.1, by rw [t]; have := hP.2.2.2.2.1; omega, ?_⟩
  have q : ∀ x y, iv_cfg x y h → iv_cfg x y h' := fun x y w => ⟨(r 3).trans w.1, (r 4).trans w.2.1, (r 5).trans w.2.2.1, (r 6).trans w.2.2.2⟩
  exact hc.imp (fun w => w.imp (q _ _) (q _ _)) (fun w => w.imp (q _ _) (q _ _))
/-- what a call of the reference's parser leaves: the class's tape as it was, its own empty -/
def tm (h h' : am_H) : Prop := h'.1 1 1 = h.1 1 1 ∧ h'.1 154 2 = 0 ∧ (∀ q, h'.2.1 159 q = h.2.1 159 q) ∧ h'.2.2.2 = h.2.2.2
theorem iv_m188 {h : am_H} (hI : iv_I h) : am_call am_cod 60 188 [.ref 154] h (fun v h' => iv_I h' ∧ (∃ x, v = some (.int x)) ∧ tm h h') := by
  obtain ⟨N, a, c, hP⟩ := pz_iv hI
  exact am_call.up (pz_canton hP (fun N' a' c' h' x q1 q2 => ⟨pz_vi hI q1 q2.1, ⟨x, rfl⟩, q2.2⟩)) (by decide)
theorem iv_m219 {h : am_H} (hI : iv_I h) : am_call am_cod 60 219 [.ref 154] h (fun v h' => iv_I h' ∧ (∃ x, v = some (.int x)) ∧ tm h h' ∧ kr kr_219 h h') := by
  obtain ⟨N, a, c, hP⟩ := pz_iv hI
  exact am_call.up (pz_week hP (fun N' a' c' h' x q1 q2 q3 => ⟨pz_vi hI q1 q2.1, ⟨x, rfl⟩, q2.2, kr_of (by decide) q3⟩)) (by decide)
