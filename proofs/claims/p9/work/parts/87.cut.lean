/-! cutAll: THE TOKENS ARE CUT -/
def pc_P (h : am_H) : Prop := h.2.2.2.2 = 175 ∧ ag_G ag_DD h ∧ xw_X h
variable {h h0 : am_H} {sz : Nat}
theorem pc_175 (hP : pc_P h) : h.2.2.2.2 = 175 := hP.1
theorem pc_so (hP : pc_P h) {o : Nat} {e : Nat × Nat} (he : ag_so ag_DD o = some e) : am_so h o = some e ∧ am_sh h o = some e := ag_so_ok (D := ag_DD) ag_DD_sh hP.1 he
theorem pc_rc (hP : pc_P h) : am_rc h 154 11 := Or.inl ⟨by decide, (pc_so hP (by decide +kernel)).2⟩
theorem pc_lim (hP : pc_P h) {n : Nat} (hn : am_al n = 0) : h.2.2.2.2 + am_al n ≤ 175 := by
  rw [pc_175 hP, hn]
  exact Nat.le_refl _
theorem pc_154 (hP : pc_P h) : am_sh h 154 = some (11, 0) := (pc_so hP (by decide +kernel)).2
theorem pc_155 (hP : pc_P h) : am_sh h 155 = some (13, 1000) := (pc_so hP (by decide +kernel)).2
theorem pc_w155 (hP : pc_P h) : am_so h 155 = some (13, 1000) := (pc_so hP (by decide +kernel)).1
theorem pc_156 (hP : pc_P h) : am_sh h 156 = some (13, 1002) := (pc_so hP (by decide +kernel)).2
theorem pc_w156 (hP : pc_P h) : am_so h 156 = some (13, 1002) := (pc_so hP (by decide +kernel)).1
theorem pc_157 (hP : pc_P h) : am_sh h 157 = some (13, 1002) := (pc_so hP (by decide +kernel)).2
theorem pc_w157 (hP : pc_P h) : am_so h 157 = some (13, 1002) := (pc_so hP (by decide +kernel)).1
theorem pc_158 (hP : pc_P h) : am_sh h 158 = some (14, 1002) := (pc_so hP (by decide +kernel)).2
theorem pc_w158 (hP : pc_P h) : am_so h 158 = some (14, 1002) := (pc_so hP (by decide +kernel)).1
theorem pc_r1 (hP : pc_P h) : h.2.2.1 154 1 = some 155 := hP.2.1.2.2 154 1 155 (by decide +kernel)
theorem pc_r4 (hP : pc_P h) : h.2.2.1 154 4 = some 156 := hP.2.1.2.2 154 4 156 (by decide +kernel)
theorem pc_r5 (hP : pc_P h) : h.2.2.1 154 5 = some 157 := hP.2.1.2.2 154 5 157 (by decide +kernel)
theorem pc_r6 (hP : pc_P h) : h.2.2.1 154 6 = some 158 := hP.2.1.2.2 154 6 158 (by decide +kernel)
def pz_Mt : ag_M := [(154, 2, 3), (154, 7, 8), (156, 0, 1001), (157, 0, 1001), (158, 0, 1001)]
theorem pz_trt {h1 h2 : am_H} (f1 : ag_fr pz_Mt h h1) (f2 : ag_fr pz_Mt h1 h2) : ag_fr pz_Mt h h2 := f1.trans (by decide +kernel) f2
def ct (h0 : am_H) (sz : Nat) (h : am_H) : Prop := pc_P h ∧ ag_fr pz_Mt h0 h ∧ h.1 154 3 = nI sz ∧ h.1 154 2 = 0
theorem pc_wX {o k : Nat} {v : Int32} (hX : xw_X h) (ho : ¬ o = 160 ∧ ¬ o = 161 ∧ ¬ o = 162) : xw_X (am_wI h o k v) := by
  rcases hX with w | ⟨w1, m, w2, w3, dep, w4, w5⟩
  · left
    rw [em_wn h _ (by omega)]
    exact w
  · right
    refine ⟨?_, m, w2, ?_, dep, w4, fun i hi => ?_⟩
    · rw [em_wn h _ (by omega)]
      exact w1
    · rw [em_wn h _ (by omega)]
      exact w3
    · have := w5 i hi
      unfold xw_st at this ⊢
      rw [em_wn h _ (by omega), em_wn h _ (by omega)]
      exact this
theorem ct_w {o k : Nat} {v : Int32} (q : ct h0 sz h) (hm : ag_atM pz_Mt o k = true) (ho : ¬ (o = 154 ∧ (k = 3 ∨ k = 2))) (ho2 : ¬ o = 160 ∧ ¬ o = 161 ∧ ¬ o = 162) (hv : ∀ s ∈ ag_sg o, ag_seg s k v) : ct h0 sz (am_wI h o k v) := by
  refine ⟨⟨q.1.1, pz_wG q.1.2.1 hv, pc_wX q.1.2.2 ho2⟩, pz_trt q.2.1 (pz_fr hm), ?_, ?_⟩
  · rw [em_wn h _ (by omega)]
    exact q.2.2.1
  · rw [em_wn h _ (by omega)]
    exact q.2.2.2
theorem ct_wl {k : Nat} {v : Int64} (q : ct h0 sz h) (hm : ag_atM pz_Mt 158 k = true) : ct h0 sz (am_wL h 158 k v) := by
  refine ⟨⟨q.1.1, ⟨q.1.2.1.1, fun o' k' => ?_, q.1.2.1.2.2⟩, q.1.2.2⟩, pz_trt q.2.1 (pz_frL hm), q.2.2⟩
  by_cases z : o' = 158
  · subst z
    rw [ag_DD_lg 158 k' (by decide)]
    exact ag_i64r _
  · have e9 : (am_wL h 158 k v).2.1 o' k' = h.2.1 o' k' := if_neg (fun w => z w.1)
    rw [e9]
    exact q.1.2.1.2.1 o' k'
theorem pz_Mtk {o k : Nat} (ho : o = 156 ∨ o = 157 ∨ o = 158) (hk : k ≤ 1001) : ag_atM pz_Mt o k = true := by
  have e1 : Nat.ble k 1001 = true := Nat.ble_eq_true_of_le hk
  unfold ag_atM pz_Mt
  rcases ho with rfl | rfl | rfl
  · simp [List.any, e1]
  · simp [List.any, e1]
  · simp [List.any, e1]
theorem pz_sg156 : (ag_sg 156).all (fun s => decide (s.2.2.2.2.1 ≤ 0) && decide (4 ≤ s.2.2.2.2.2)) = true := by decide +kernel
theorem pz_sg157 : (ag_sg 157).all (fun s => decide (s.2.2.2.2.1 ≤ 0) && decide (1000 ≤ s.2.2.2.2.2)) = true := by decide +kernel
theorem pz_sga {o k : Nat} {hi : Int} {v : Int32} (hs : (ag_sg o).all (fun s => decide (s.2.2.2.2.1 ≤ 0) && decide (hi ≤ s.2.2.2.2.2)) = true) (h1 : 0 ≤ v.toInt) (h2 : v.toInt ≤ hi) : ∀ s ∈ ag_sg o, ag_seg s k v := by
  intro s hm _ _ _
  have w := List.all_eq_true.mp hs s hm
  rw [Bool.and_eq_true, decide_eq_true_eq, decide_eq_true_eq] at w
  omega
def pz_let (x : Int32) : Bool := !decide (x < (Int8.ofInt 97).toInt32) && !decide ((Int8.ofInt 122).toInt32 < x)
theorem pz_letC {Q : am_Q} {x : Int32} (hP : pc_P h) (hQ : Q (some (.int (pz_b (pz_let x)))) h) : am_call am_cod 1 190 [.int x] h Q := by
  refine pz_call (n := 190) (nL := 1) (rt := (some .boolean)) (rows := am_r190) (d := 0) (by decide +kernel) (by decide +kernel) rfl (by funext pc; rfl) (pc_175 hP) (by exact Nat.le_of_ble_eq_true rfl) ?_
  have k0 : pz_let x = false → pz_S 1 (some .boolean) am_r190 0 Q 16 [(0, .int x)] [] h := ?_
  rotate_left
  · intro e
    rw [e] at hQ
    exact am_goX 2 (show (∃ ty, (some .boolean) = some ty ∧ narrow ty (.int ((Int32.ofInt 0))) = .int ((Int32.ofInt 0))) ∧ h.2.2.2.2 = 175 ∧ _ from ⟨⟨.boolean, rfl, rfl⟩, pc_175 hP, hQ⟩)
  refine am_goX 3 (show (x < (Int8.ofInt 97).toInt32 → pz_S 1 (some .boolean) am_r190 0 Q 16 [(0, .int x)] [] h) ∧ (¬ (x < (Int8.ofInt 97).toInt32) → pz_S 1 (some .boolean) am_r190 0 Q 6 [(0, .int x)] [] h) from ⟨fun hc => ?_, fun hc => ?_⟩)
  · exact k0 (by unfold pz_let; rw [decide_eq_true hc]; rfl)
  · have hc1 := hc
    clear hc
    refine am_goX 3 (show ((Int8.ofInt 122).toInt32 < x → pz_S 1 (some .boolean) am_r190 0 Q 16 [(0, .int x)] [] h) ∧ (¬ ((Int8.ofInt 122).toInt32 < x) → pz_S 1 (some .boolean) am_r190 0 Q 12 [(0, .int x)] [] h) from ⟨fun hc => ?_, fun hc => ?_⟩)
    · exact k0 (by unfold pz_let; rw [decide_eq_true hc, decide_eq_false hc1]; rfl)
    · have e : pz_let x = true := by unfold pz_let; rw [decide_eq_false hc, decide_eq_false hc1]; rfl
      rw [e] at hQ
      exact am_goX 3 (show (∃ ty, (some .boolean) = some ty ∧ narrow ty (.int ((Int32.ofInt 1))) = .int ((Int32.ofInt 1))) ∧ h.2.2.2.2 = 175 ∧ _ from ⟨⟨.boolean, rfl, rfl⟩, pc_175 hP, hQ⟩)
def pz_dig (x : Int32) : Bool := !decide (x < (Int8.ofInt 48).toInt32) && !decide ((Int8.ofInt 57).toInt32 < x)
theorem pz_digC {Q : am_Q} {x : Int32} (hP : pc_P h) (hQ : Q (some (.int (pz_b (pz_dig x)))) h) : am_call am_cod 1 192 [.int x] h Q := by
  refine pz_call (n := 192) (nL := 1) (rt := (some .boolean)) (rows := am_r192) (d := 0) (by decide +kernel) (by decide +kernel) rfl (by funext pc; rfl) (pc_175 hP) (by exact Nat.le_of_ble_eq_true rfl) ?_
  have k0 : pz_dig x = false → pz_S 1 (some .boolean) am_r192 0 Q 16 [(0, .int x)] [] h := ?_
  rotate_left
  · intro e
    rw [e] at hQ
    exact am_goX 2 (show (∃ ty, (some .boolean) = some ty ∧ narrow ty (.int ((Int32.ofInt 0))) = .int ((Int32.ofInt 0))) ∧ h.2.2.2.2 = 175 ∧ _ from ⟨⟨.boolean, rfl, rfl⟩, pc_175 hP, hQ⟩)
  refine am_goX 3 (show (x < (Int8.ofInt 48).toInt32 → pz_S 1 (some .boolean) am_r192 0 Q 16 [(0, .int x)] [] h) ∧ (¬ (x < (Int8.ofInt 48).toInt32) → pz_S 1 (some .boolean) am_r192 0 Q 6 [(0, .int x)] [] h) from ⟨fun hc => ?_, fun hc => ?_⟩)
  · exact k0 (by unfold pz_dig; rw [decide_eq_true hc]; rfl)
  · have hc1 := hc
    clear hc
    refine am_goX 3 (show ((Int8.ofInt 57).toInt32 < x → pz_S 1 (some .boolean) am_r192 0 Q 16 [(0, .int x)] [] h) ∧ (¬ ((Int8.ofInt 57).toInt32 < x) → pz_S 1 (some .boolean) am_r192 0 Q 12 [(0, .int x)] [] h) from ⟨fun hc => ?_, fun hc => ?_⟩)
    · exact k0 (by unfold pz_dig; rw [decide_eq_true hc, decide_eq_false hc1]; rfl)
    · have e : pz_dig x = true := by unfold pz_dig; rw [decide_eq_false hc, decide_eq_false hc1]; rfl
      rw [e] at hQ
      exact am_goX 3 (show (∃ ty, (some .boolean) = some ty ∧ narrow ty (.int ((Int32.ofInt 1))) = .int ((Int32.ofInt 1))) ∧ h.2.2.2.2 = 175 ∧ _ from ⟨⟨.boolean, rfl, rfl⟩, pc_175 hP, hQ⟩)
theorem pz_rank {Q : am_Q} {x : Int32} (hP : pc_P h) (hQ : ∀ v : Int32, Q (some (.int v)) h) : am_call am_cod 2 191 [.int x] h Q := by
  refine pz_call (n := 191) (nL := 1) (rt := (some .int)) (rows := am_r191) (d := 1) (by decide +kernel) (by decide +kernel) rfl (by funext pc; rfl) (pc_175 hP) (by exact Nat.le_of_ble_eq_true rfl) ?_
  refine am_goX 2 (show 0 ≤ 8 ∧ h.2.2.2.2 + am_al 190 ≤ 175 ∧ am_call am_cod 1 190 [.int x] h (fun vv h' => pz_S 1 (some .int) am_r191 1 Q 4 [(0, .int x)] (vv.toList ++ []) h') from ⟨by decide, pc_lim hP rfl, pz_letC hP ?_⟩)
  cases e : pz_let x with
  | true =>
    refine am_goX 1 (show ((pz_b true) = 0 → pz_S 1 (some .int) am_r191 1 Q 14 [(0, .int x)] [] h) ∧ (¬ ((pz_b true) = 0) → pz_S 1 (some .int) am_r191 1 Q 7 [(0, .int x)] [] h) from ⟨fun hz => absurd hz (by decide), fun _ => ?_⟩)
    exact am_goX 5 (show (∃ ty, (some .int) = some ty ∧ narrow ty (.int ((x - (Int8.ofInt 96).toInt32))) = .int ((x - (Int8.ofInt 96).toInt32))) ∧ h.2.2.2.2 = 175 ∧ _ from ⟨⟨.int, rfl, rfl⟩, pc_175 hP, hQ _⟩)
  | false =>
    refine am_goX 1 (show ((pz_b false) = 0 → pz_S 1 (some .int) am_r191 1 Q 14 [(0, .int x)] [] h) ∧ (¬ ((pz_b false) = 0) → pz_S 1 (some .int) am_r191 1 Q 7 [(0, .int x)] [] h) from ⟨fun _ => ?_, fun hz => absurd rfl hz⟩)
    exact am_goX 4 (show (∃ ty, (some .int) = some ty ∧ narrow ty (.int ((x - (Int8.ofInt 21).toInt32))) = .int ((x - (Int8.ofInt 21).toInt32))) ∧ h.2.2.2.2 = 175 ∧ _ from ⟨⟨.int, rfl, rfl⟩, pc_175 hP, hQ _⟩)
theorem pz_sgof {Q : am_Q} {x : Int32} (hP : pc_P h) (h1 : Q (some (.int 1)) h) (h0 : Q (some (.int 0)) h) : am_call am_cod 1 193 [.int x] h Q := by
  refine pz_call (n := 193) (nL := 1) (rt := (some .boolean)) (rows := am_r193) (d := 0) (by decide +kernel) (by decide +kernel) rfl (by funext pc; rfl) (pc_175 hP) (by exact Nat.le_of_ble_eq_true rfl) ?_
  have k1 : pz_S 1 (some .boolean) am_r193 0 Q 48 [(0, .int x)] [] h := ?_
  rotate_left
  · exact am_goX 3 (show (∃ ty, (some .boolean) = some ty ∧ narrow ty (.int ((Int32.ofInt 1))) = .int ((Int32.ofInt 1))) ∧ h.2.2.2.2 = 175 ∧ _ from ⟨⟨.boolean, rfl, rfl⟩, pc_175 hP, h1⟩)
  refine am_goX 3 (show (x = (Int8.ofInt 40).toInt32 → pz_S 1 (some .boolean) am_r193 0 Q 48 [(0, .int x)] [] h) ∧ (¬ (x = (Int8.ofInt 40).toInt32) → pz_S 1 (some .boolean) am_r193 0 Q 6 [(0, .int x)] [] h) from ⟨fun hc => ?_, fun hc => ?_⟩)
  · exact k1
  clear hc
  refine am_goX 3 (show (x = (Int8.ofInt 41).toInt32 → pz_S 1 (some .boolean) am_r193 0 Q 48 [(0, .int x)] [] h) ∧ (¬ (x = (Int8.ofInt 41).toInt32) → pz_S 1 (some .boolean) am_r193 0 Q 12 [(0, .int x)] [] h) from ⟨fun hc => ?_, fun hc => ?_⟩)
  · exact k1
  clear hc
  refine am_goX 3 (show (x = (Int8.ofInt 59).toInt32 → pz_S 1 (some .boolean) am_r193 0 Q 48 [(0, .int x)] [] h) ∧ (¬ (x = (Int8.ofInt 59).toInt32) → pz_S 1 (some .boolean) am_r193 0 Q 18 [(0, .int x)] [] h) from ⟨fun hc => ?_, fun hc => ?_⟩)
  · exact k1
  clear hc
  refine am_goX 3 (show (x = (Int8.ofInt 61).toInt32 → pz_S 1 (some .boolean) am_r193 0 Q 48 [(0, .int x)] [] h) ∧ (¬ (x = (Int8.ofInt 61).toInt32) → pz_S 1 (some .boolean) am_r193 0 Q 24 [(0, .int x)] [] h) from ⟨fun hc => ?_, fun hc => ?_⟩)
  · exact k1
  clear hc
  refine am_goX 3 (show (x = (Int8.ofInt 60).toInt32 → pz_S 1 (some .boolean) am_r193 0 Q 48 [(0, .int x)] [] h) ∧ (¬ (x = (Int8.ofInt 60).toInt32) → pz_S 1 (some .boolean) am_r193 0 Q 30 [(0, .int x)] [] h) from ⟨fun hc => ?_, fun hc => ?_⟩)
  · exact k1
  clear hc
  refine am_goX 3 (show (x = (Int8.ofInt 43).toInt32 → pz_S 1 (some .boolean) am_r193 0 Q 48 [(0, .int x)] [] h) ∧ (¬ (x = (Int8.ofInt 43).toInt32) → pz_S 1 (some .boolean) am_r193 0 Q 36 [(0, .int x)] [] h) from ⟨fun hc => ?_, fun hc => ?_⟩)
  · exact k1
  clear hc
  refine am_goX 3 (show (x = (Int8.ofInt 45).toInt32 → pz_S 1 (some .boolean) am_r193 0 Q 48 [(0, .int x)] [] h) ∧ (¬ (x = (Int8.ofInt 45).toInt32) → pz_S 1 (some .boolean) am_r193 0 Q 42 [(0, .int x)] [] h) from ⟨fun hc => ?_, fun hc => ?_⟩)
  · exact k1
  clear hc
  refine am_goX 3 (show (¬ x = (Int8.ofInt 42).toInt32 → pz_S 1 (some .boolean) am_r193 0 Q 52 [(0, .int x)] [] h) ∧ (¬ ¬ x = (Int8.ofInt 42).toInt32 → pz_S 1 (some .boolean) am_r193 0 Q 48 [(0, .int x)] [] h) from ⟨fun hc => ?_, fun hc => ?_⟩)
  · exact am_goX 2 (show (∃ ty, (some .boolean) = some ty ∧ narrow ty (.int ((Int32.ofInt 0))) = .int ((Int32.ofInt 0))) ∧ h.2.2.2.2 = 175 ∧ _ from ⟨⟨.boolean, rfl, rfl⟩, pc_175 hP, h0⟩)
  · exact k1
/-- behind a token -/
def pz_k265 (Q : am_Q) (h0 : am_H) (sz n k0 : Nat) : Prop := ∀ (k : Nat) (v : Int64) (h1 : am_H), k0 + 1 ≤ k → k ≤ sz → ct h0 sz h1 → pz_S 7 none am_r189 2 Q 265 [(5, .long v), (2, .int (nI k)), (1, .int (nI n)), (0, .ref 154)] [] h1
theorem pz_cl_e {Q : am_Q} {n k0 : Nat} (hz : sz ≤ 1000) (hn : n ≤ k0) (h265 : pz_k265 Q h0 sz n k0) (hl : ct h0 sz h) {k : Nat} {v : Int64} (hk : k0 + 1 ≤ k) (hks : k ≤ sz) : pz_S 7 none am_r189 2 Q 129 [(5, .long v), (4, .int (nI k0)), (2, .int (nI k)), (1, .int (nI n)), (0, .ref 154)] [] h := by
  have hP := hl.1
  refine am_goX 2 (show am_sh h 154 = some (11, 0) ∧ pz_S 7 none am_r189 2 Q 133 [(5, .long v), (4, .int (nI k0)), (2, .int (nI k)), (1, .int (nI n)), (0, .ref 154)] [am_rf (h.2.2.1 154 4)] h from ⟨pc_154 hP, ?_⟩)
  rw [pc_r4 hP]
  refine am_goX 6 (show (((nI k) - (nI k0)) ≤ (Int8.ofInt 8).toInt32 → pz_S 7 none am_r189 2 Q 147 [(5, .long v), (4, .int (nI k0)), (2, .int (nI k)), (1, .int (nI n)), (0, .ref 154)] [.int (nI n), .ref 156] h) ∧ (¬ (((nI k) - (nI k0)) ≤ (Int8.ofInt 8).toInt32) → pz_S 7 none am_r189 2 Q 143 [(5, .long v), (4, .int (nI k0)), (2, .int (nI k)), (1, .int (nI n)), (0, .ref 154)] [.int (nI n), .ref 156] h) from ⟨fun hc => ?_, fun hc => ?_⟩)
  · refine am_goX 2 (show ∃ jj nn : Nat, am_so h 156 = some (13, nn) ∧ jj < nn ∧ (nI n) = nI jj ∧ pz_S 7 none am_r189 2 Q 149 [(5, .long v), (4, .int (nI k0)), (2, .int (nI k)), (1, .int (nI n)), (0, .ref 154)] [] (am_wI h 156 jj ((Int32.ofInt 1))) from ⟨n, 1002, pc_w156 hP, by omega, rfl, ?_⟩)
    have l1 := ct_w (o := 156) (k := n) (v := Int32.ofInt 1) hl (pz_Mtk (Or.inl rfl) (by omega)) (by omega) (by decide) (pz_sga pz_sg156 (by decide) (by decide))
    generalize am_wI h 156 n (Int32.ofInt 1) = h1 at l1 ⊢
    refine am_goX 1 (show pz_S 7 none am_r189 2 Q 265 [(5, .long v), (4, .int (nI k0)), (2, .int (nI k)), (1, .int (nI n)), (0, .ref 154)] [] h1 from ?_)
    exact sv_S sv_189 (by intro q hq; simp only [List.mem_cons, List.not_mem_nil, or_false] at hq; rcases hq with rfl | rfl | rfl | rfl <;> rfl) (h265 k v h1 hk hks l1)
  · refine am_goX 3 (show ∃ jj nn : Nat, am_so h 156 = some (13, nn) ∧ jj < nn ∧ (nI n) = nI jj ∧ pz_S 7 none am_r189 2 Q 149 [(5, .long v), (4, .int (nI k0)), (2, .int (nI k)), (1, .int (nI n)), (0, .ref 154)] [] (am_wI h 156 jj ((Int32.ofInt 4))) from ⟨n, 1002, pc_w156 hP, by omega, rfl, ?_⟩)
    have l1 := ct_w (o := 156) (k := n) (v := Int32.ofInt 4) hl (pz_Mtk (Or.inl rfl) (by omega)) (by omega) (by decide) (pz_sga pz_sg156 (by decide) (by decide))
    generalize am_wI h 156 n (Int32.ofInt 4) = h1 at l1 ⊢
    refine am_goX 1 (show pz_S 7 none am_r189 2 Q 265 [(5, .long v), (4, .int (nI k0)), (2, .int (nI k)), (1, .int (nI n)), (0, .ref 154)] [] h1 from ?_)
    exact sv_S sv_189 (by intro q hq; simp only [List.mem_cons, List.not_mem_nil, or_false] at hq; rcases hq with rfl | rfl | rfl | rfl <;> rfl) (h265 k v h1 hk hks l1)
theorem pz_cl_l {Q : am_Q} {n k0 : Nat} (hz : sz ≤ 1000) (hn : n ≤ k0) (h265 : pz_k265 Q h0 sz n k0) (hl : ct h0 sz h) : ∀ (m k : Nat) (v : Int64), sz ≤ k + m → k0 + 1 ≤ k → k ≤ sz → pz_S 7 none am_r189 2 Q 70 [(5, .long v), (4, .int (nI k0)), (2, .int (nI k)), (1, .int (nI n)), (0, .ref 154)] [] h := by
  have hP := hl.1
  intro m
  induction m with
  | zero =>
    intro k v hm hk hks
    have ek : k = sz := by omega
    refine am_goX 3 (show am_sh h 154 = some (11, 0) ∧ pz_S 7 none am_r189 2 Q 75 [(5, .long v), (4, .int (nI k0)), (2, .int (nI k)), (1, .int (nI n)), (0, .ref 154)] [.int (h.1 154 3), .int (nI k)] h from ⟨pc_154 hP, ?_⟩)
    rw [hl.2.2.1]
    refine am_goX 1 (show ((nI sz) ≤ (nI k) → pz_S 7 none am_r189 2 Q 129 [(5, .long v), (4, .int (nI k0)), (2, .int (nI k)), (1, .int (nI n)), (0, .ref 154)] [] h) ∧ (¬ ((nI sz) ≤ (nI k)) → pz_S 7 none am_r189 2 Q 78 [(5, .long v), (4, .int (nI k0)), (2, .int (nI k)), (1, .int (nI n)), (0, .ref 154)] [] h) from ⟨fun hc => ?_, fun hc => ?_⟩)
    · exact pz_cl_e hz hn h265 hl hk hks
    · exact absurd (nI_le (by omega) (by omega)) hc
  | succ m ih =>
    intro k v hm hk hks
    refine am_goX 3 (show am_sh h 154 = some (11, 0) ∧ pz_S 7 none am_r189 2 Q 75 [(5, .long v), (4, .int (nI k0)), (2, .int (nI k)), (1, .int (nI n)), (0, .ref 154)] [.int (h.1 154 3), .int (nI k)] h from ⟨pc_154 hP, ?_⟩)
    rw [hl.2.2.1]
    refine am_goX 1 (show ((nI sz) ≤ (nI k) → pz_S 7 none am_r189 2 Q 129 [(5, .long v), (4, .int (nI k0)), (2, .int (nI k)), (1, .int (nI n)), (0, .ref 154)] [] h) ∧ (¬ ((nI sz) ≤ (nI k)) → pz_S 7 none am_r189 2 Q 78 [(5, .long v), (4, .int (nI k0)), (2, .int (nI k)), (1, .int (nI n)), (0, .ref 154)] [] h) from ⟨fun hc => ?_, fun hc => ?_⟩)
    · exact pz_cl_e hz hn h265 hl hk hks
    have hks0 : k < sz := by
      rcases Nat.lt_or_ge k sz with w | w
      · exact w
      · exact absurd (nI_le w (by omega)) hc
    clear hc
    refine am_goX 2 (show am_sh h 154 = some (11, 0) ∧ pz_S 7 none am_r189 2 Q 82 [(5, .long v), (4, .int (nI k0)), (2, .int (nI k)), (1, .int (nI n)), (0, .ref 154)] [am_rf (h.2.2.1 154 1)] h from ⟨pc_154 hP, ?_⟩)
    rw [pc_r1 hP]
    refine am_goX 2 (show ∃ jj nn : Nat, am_sh h 155 = some (13, nn) ∧ jj < nn ∧ (nI k) = nI jj ∧ pz_S 7 none am_r189 2 Q 84 [(5, .long v), (4, .int (nI k0)), (2, .int (nI k)), (1, .int (nI n)), (0, .ref 154)] [.int (h.1 155 jj)] h from ⟨k, 1000, pc_155 hP, by omega, rfl, ?_⟩)
    refine am_goX 1 (show 0 ≤ 8 ∧ h.2.2.2.2 + am_al 190 ≤ 175 ∧ am_call am_cod 2 190 [.int (h.1 155 k)] h (fun vv h' => pz_S 7 none am_r189 2 Q 87 [(5, .long v), (4, .int (nI k0)), (2, .int (nI k)), (1, .int (nI n)), (0, .ref 154)] (vv.toList ++ []) h') from ⟨by decide, pc_lim hP rfl, am_call.up (pz_letC hP ?_) (by decide)⟩)
    cases eg : pz_let (h.1 155 k) with
    | false =>
      refine am_goX 1 (show ((pz_b false) = 0 → pz_S 7 none am_r189 2 Q 129 [(5, .long v), (4, .int (nI k0)), (2, .int (nI k)), (1, .int (nI n)), (0, .ref 154)] [] h) ∧ (¬ ((pz_b false) = 0) → pz_S 7 none am_r189 2 Q 90 [(5, .long v), (4, .int (nI k0)), (2, .int (nI k)), (1, .int (nI n)), (0, .ref 154)] [] h) from ⟨fun _ => ?_, fun hz => absurd rfl hz⟩)
      exact pz_cl_e hz hn h265 hl hk hks
    | true =>
      refine am_goX 1 (show ((pz_b true) = 0 → pz_S 7 none am_r189 2 Q 129 [(5, .long v), (4, .int (nI k0)), (2, .int (nI k)), (1, .int (nI n)), (0, .ref 154)] [] h) ∧ (¬ ((pz_b true) = 0) → pz_S 7 none am_r189 2 Q 90 [(5, .long v), (4, .int (nI k0)), (2, .int (nI k)), (1, .int (nI n)), (0, .ref 154)] [] h) from ⟨fun hz => absurd hz (by decide), fun _ => ?_⟩)
      refine am_goX 5 (show ((Int8.ofInt 8).toInt32 ≤ ((nI k) - (nI k0)) → pz_S 7 none am_r189 2 Q 119 [(5, .long v), (4, .int (nI k0)), (2, .int (nI k)), (1, .int (nI n)), (0, .ref 154)] [] h) ∧ (¬ ((Int8.ofInt 8).toInt32 ≤ ((nI k) - (nI k0))) → pz_S 7 none am_r189 2 Q 99 [(5, .long v), (4, .int (nI k0)), (2, .int (nI k)), (1, .int (nI n)), (0, .ref 154)] [] h) from ⟨fun hc => ?_, fun hc => ?_⟩)
      · refine am_goX 4 (show 5 + 1 < 7 ∧ 2 < 7 ∧ pz_S 7 none am_r189 2 Q 70 [(2, .int ((nI k) + Int32.ofInt 1)), (5, .long v), (4, .int (nI k0)), (1, .int (nI n)), (0, .ref 154)] [] h from ⟨by decide, by decide, ?_⟩)
        rw [xw_i1]
        exact sv_S sv_189 (by intro q hq; simp only [List.mem_cons, List.not_mem_nil, or_false] at hq; rcases hq with rfl | rfl | rfl | rfl | rfl <;> rfl) (ih (k + 1) _ (by omega) (by omega) (by omega))
      · refine am_goX 5 (show am_sh h 154 = some (11, 0) ∧ pz_S 7 none am_r189 2 Q 109 [(5, .long v), (4, .int (nI k0)), (2, .int (nI k)), (1, .int (nI n)), (0, .ref 154)] [am_rf (h.2.2.1 154 1), .long ((am_kl 26) * v)] h from ⟨pc_154 hP, ?_⟩)
        rw [pc_r1 hP]
        refine am_goX 2 (show ∃ jj nn : Nat, am_sh h 155 = some (13, nn) ∧ jj < nn ∧ (nI k) = nI jj ∧ pz_S 7 none am_r189 2 Q 111 [(5, .long v), (4, .int (nI k0)), (2, .int (nI k)), (1, .int (nI n)), (0, .ref 154)] [.int (h.1 155 jj), .long ((am_kl 26) * v)] h from ⟨k, 1000, pc_155 hP, by omega, rfl, ?_⟩)
        refine am_goX 1 (show 2 ≤ 8 ∧ h.2.2.2.2 + am_al 191 ≤ 175 ∧ am_call am_cod 2 191 [.int (h.1 155 k)] h (fun vv h' => pz_S 7 none am_r189 2 Q 114 [(5, .long v), (4, .int (nI k0)), (2, .int (nI k)), (1, .int (nI n)), (0, .ref 154)] (vv.toList ++ [.long ((am_kl 26) * v)]) h') from ⟨by decide, pc_lim hP rfl, pz_rank hP (fun rv => ?_)⟩)
        refine am_goX 6 (show 5 + 1 < 7 ∧ 2 < 7 ∧ pz_S 7 none am_r189 2 Q 70 [(2, .int ((nI k) + Int32.ofInt 1)), (5, .long (((am_kl 26) * v) + (rv).toInt64)), (4, .int (nI k0)), (1, .int (nI n)), (0, .ref 154)] [] h from ⟨by decide, by decide, ?_⟩)
        rw [xw_i1]
        exact sv_S sv_189 (by intro q hq; simp only [List.mem_cons, List.not_mem_nil, or_false] at hq; rcases hq with rfl | rfl | rfl | rfl | rfl <;> rfl) (ih (k + 1) _ (by omega) (by omega) (by omega))
theorem pz_cl {Q : am_Q} {n k : Nat} {v : Int64} (hz : sz ≤ 1000) (hn : n ≤ k) (h265 : pz_k265 Q h0 sz n k) (hl : ct h0 sz h) (hks0 : k < sz) (hgo : pz_let (h.1 155 k) = true) : pz_S 7 none am_r189 2 Q 70 [(5, .long v), (4, .int (nI k)), (2, .int (nI k)), (1, .int (nI n)), (0, .ref 154)] [] h := by
  have hP := hl.1
  refine am_goX 3 (show am_sh h 154 = some (11, 0) ∧ pz_S 7 none am_r189 2 Q 75 [(5, .long v), (4, .int (nI k)), (2, .int (nI k)), (1, .int (nI n)), (0, .ref 154)] [.int (h.1 154 3), .int (nI k)] h from ⟨pc_154 hP, ?_⟩)
  rw [hl.2.2.1]
  refine am_goX 1 (show ((nI sz) ≤ (nI k) → pz_S 7 none am_r189 2 Q 129 [(5, .long v), (4, .int (nI k)), (2, .int (nI k)), (1, .int (nI n)), (0, .ref 154)] [] h) ∧ (¬ ((nI sz) ≤ (nI k)) → pz_S 7 none am_r189 2 Q 78 [(5, .long v), (4, .int (nI k)), (2, .int (nI k)), (1, .int (nI n)), (0, .ref 154)] [] h) from ⟨fun hz => absurd hz (nI_ge hks0 (by omega)), fun _ => ?_⟩)
  refine am_goX 2 (show am_sh h 154 = some (11, 0) ∧ pz_S 7 none am_r189 2 Q 82 [(5, .long v), (4, .int (nI k)), (2, .int (nI k)), (1, .int (nI n)), (0, .ref 154)] [am_rf (h.2.2.1 154 1)] h from ⟨pc_154 hP, ?_⟩)
  rw [pc_r1 hP]
  refine am_goX 2 (show ∃ jj nn : Nat, am_sh h 155 = some (13, nn) ∧ jj < nn ∧ (nI k) = nI jj ∧ pz_S 7 none am_r189 2 Q 84 [(5, .long v), (4, .int (nI k)), (2, .int (nI k)), (1, .int (nI n)), (0, .ref 154)] [.int (h.1 155 jj)] h from ⟨k, 1000, pc_155 hP, by omega, rfl, ?_⟩)
  refine am_goX 1 (show 0 ≤ 8 ∧ h.2.2.2.2 + am_al 190 ≤ 175 ∧ am_call am_cod 2 190 [.int (h.1 155 k)] h (fun vv h' => pz_S 7 none am_r189 2 Q 87 [(5, .long v), (4, .int (nI k)), (2, .int (nI k)), (1, .int (nI n)), (0, .ref 154)] (vv.toList ++ []) h') from ⟨by decide, pc_lim hP rfl, am_call.up (pz_letC hP ?_) (by decide)⟩)
  rw [hgo]
  refine am_goX 1 (show ((pz_b true) = 0 → pz_S 7 none am_r189 2 Q 129 [(5, .long v), (4, .int (nI k)), (2, .int (nI k)), (1, .int (nI n)), (0, .ref 154)] [] h) ∧ (¬ ((pz_b true) = 0) → pz_S 7 none am_r189 2 Q 90 [(5, .long v), (4, .int (nI k)), (2, .int (nI k)), (1, .int (nI n)), (0, .ref 154)] [] h) from ⟨fun hz => absurd hz (by decide), fun _ => ?_⟩)
  refine am_goX 5 (show ((Int8.ofInt 8).toInt32 ≤ ((nI k) - (nI k)) → pz_S 7 none am_r189 2 Q 119 [(5, .long v), (4, .int (nI k)), (2, .int (nI k)), (1, .int (nI n)), (0, .ref 154)] [] h) ∧ (¬ ((Int8.ofInt 8).toInt32 ≤ ((nI k) - (nI k))) → pz_S 7 none am_r189 2 Q 99 [(5, .long v), (4, .int (nI k)), (2, .int (nI k)), (1, .int (nI n)), (0, .ref 154)] [] h) from ⟨fun hc => ?_, fun hc => ?_⟩)
  · refine am_goX 4 (show 5 + 1 < 7 ∧ 2 < 7 ∧ pz_S 7 none am_r189 2 Q 70 [(2, .int ((nI k) + Int32.ofInt 1)), (5, .long v), (4, .int (nI k)), (1, .int (nI n)), (0, .ref 154)] [] h from ⟨by decide, by decide, ?_⟩)
    rw [xw_i1]
    exact sv_S sv_189 (by intro q hq; simp only [List.mem_cons, List.not_mem_nil, or_false] at hq; rcases hq with rfl | rfl | rfl | rfl | rfl <;> rfl) (pz_cl_l hz hn h265 hl sz (k + 1) _ (by omega) (by omega) (by omega))
  · refine am_goX 5 (show am_sh h 154 = some (11, 0) ∧ pz_S 7 none am_r189 2 Q 109 [(5, .long v), (4, .int (nI k)), (2, .int (nI k)), (1, .int (nI n)), (0, .ref 154)] [am_rf (h.2.2.1 154 1), .long ((am_kl 26) * v)] h from ⟨pc_154 hP, ?_⟩)
    rw [pc_r1 hP]
    refine am_goX 2 (show ∃ jj nn : Nat, am_sh h 155 = some (13, nn) ∧ jj < nn ∧ (nI k) = nI jj ∧ pz_S 7 none am_r189 2 Q 111 [(5, .long v), (4, .int (nI k)), (2, .int (nI k)), (1, .int (nI n)), (0, .ref 154)] [.int (h.1 155 jj), .long ((am_kl 26) * v)] h from ⟨k, 1000, pc_155 hP, by omega, rfl, ?_⟩)
    refine am_goX 1 (show 2 ≤ 8 ∧ h.2.2.2.2 + am_al 191 ≤ 175 ∧ am_call am_cod 2 191 [.int (h.1 155 k)] h (fun vv h' => pz_S 7 none am_r189 2 Q 114 [(5, .long v), (4, .int (nI k)), (2, .int (nI k)), (1, .int (nI n)), (0, .ref 154)] (vv.toList ++ [.long ((am_kl 26) * v)]) h') from ⟨by decide, pc_lim hP rfl, pz_rank hP (fun rv => ?_)⟩)
    refine am_goX 6 (show 5 + 1 < 7 ∧ 2 < 7 ∧ pz_S 7 none am_r189 2 Q 70 [(2, .int ((nI k) + Int32.ofInt 1)), (5, .long (((am_kl 26) * v) + (rv).toInt64)), (4, .int (nI k)), (1, .int (nI n)), (0, .ref 154)] [] h from ⟨by decide, by decide, ?_⟩)
    rw [xw_i1]
    exact sv_S sv_189 (by intro q hq; simp only [List.mem_cons, List.not_mem_nil, or_false] at hq; rcases hq with rfl | rfl | rfl | rfl | rfl <;> rfl) (pz_cl_l hz hn h265 hl sz (k + 1) _ (by omega) (by omega) (by omega))
theorem pz_cd_e {Q : am_Q} {n k0 : Nat} (hz : sz ≤ 1000) (hn : n ≤ k0) (h265 : pz_k265 Q h0 sz n k0) (hl : ct h0 sz h) {k : Nat} {v : Int64} (hk : k0 + 1 ≤ k) (hks : k ≤ sz) : pz_S 7 none am_r189 2 Q 218 [(5, .long v), (4, .int (nI k0)), (2, .int (nI k)), (1, .int (nI n)), (0, .ref 154)] [] h := by
  have hP := hl.1
  refine am_goX 2 (show am_sh h 154 = some (11, 0) ∧ pz_S 7 none am_r189 2 Q 222 [(5, .long v), (4, .int (nI k0)), (2, .int (nI k)), (1, .int (nI n)), (0, .ref 154)] [am_rf (h.2.2.1 154 4)] h from ⟨pc_154 hP, ?_⟩)
  rw [pc_r4 hP]
  refine am_goX 6 (show (((nI k) - (nI k0)) ≤ (Int32.ofInt 4) → pz_S 7 none am_r189 2 Q 235 [(5, .long v), (4, .int (nI k0)), (2, .int (nI k)), (1, .int (nI n)), (0, .ref 154)] [.int (nI n), .ref 156] h) ∧ (¬ (((nI k) - (nI k0)) ≤ (Int32.ofInt 4)) → pz_S 7 none am_r189 2 Q 231 [(5, .long v), (4, .int (nI k0)), (2, .int (nI k)), (1, .int (nI n)), (0, .ref 154)] [.int (nI n), .ref 156] h) from ⟨fun hc => ?_, fun hc => ?_⟩)
  · refine am_goX 2 (show ∃ jj nn : Nat, am_so h 156 = some (13, nn) ∧ jj < nn ∧ (nI n) = nI jj ∧ pz_S 7 none am_r189 2 Q 237 [(5, .long v), (4, .int (nI k0)), (2, .int (nI k)), (1, .int (nI n)), (0, .ref 154)] [] (am_wI h 156 jj ((Int32.ofInt 2))) from ⟨n, 1002, pc_w156 hP, by omega, rfl, ?_⟩)
    have l1 := ct_w (o := 156) (k := n) (v := Int32.ofInt 2) hl (pz_Mtk (Or.inl rfl) (by omega)) (by omega) (by decide) (pz_sga pz_sg156 (by decide) (by decide))
    generalize am_wI h 156 n (Int32.ofInt 2) = h1 at l1 ⊢
    refine am_goX 1 (show pz_S 7 none am_r189 2 Q 265 [(5, .long v), (4, .int (nI k0)), (2, .int (nI k)), (1, .int (nI n)), (0, .ref 154)] [] h1 from ?_)
    exact sv_S sv_189 (by intro q hq; simp only [List.mem_cons, List.not_mem_nil, or_false] at hq; rcases hq with rfl | rfl | rfl | rfl <;> rfl) (h265 k v h1 hk hks l1)
  · refine am_goX 3 (show ∃ jj nn : Nat, am_so h 156 = some (13, nn) ∧ jj < nn ∧ (nI n) = nI jj ∧ pz_S 7 none am_r189 2 Q 237 [(5, .long v), (4, .int (nI k0)), (2, .int (nI k)), (1, .int (nI n)), (0, .ref 154)] [] (am_wI h 156 jj ((Int32.ofInt 4))) from ⟨n, 1002, pc_w156 hP, by omega, rfl, ?_⟩)
    have l1 := ct_w (o := 156) (k := n) (v := Int32.ofInt 4) hl (pz_Mtk (Or.inl rfl) (by omega)) (by omega) (by decide) (pz_sga pz_sg156 (by decide) (by decide))
    generalize am_wI h 156 n (Int32.ofInt 4) = h1 at l1 ⊢
    refine am_goX 1 (show pz_S 7 none am_r189 2 Q 265 [(5, .long v), (4, .int (nI k0)), (2, .int (nI k)), (1, .int (nI n)), (0, .ref 154)] [] h1 from ?_)
    exact sv_S sv_189 (by intro q hq; simp only [List.mem_cons, List.not_mem_nil, or_false] at hq; rcases hq with rfl | rfl | rfl | rfl <;> rfl) (h265 k v h1 hk hks l1)
theorem pz_cd_l {Q : am_Q} {n k0 : Nat} (hz : sz ≤ 1000) (hn : n ≤ k0) (h265 : pz_k265 Q h0 sz n k0) (hl : ct h0 sz h) : ∀ (m k : Nat) (v : Int64), sz ≤ k + m → k0 + 1 ≤ k → k ≤ sz → pz_S 7 none am_r189 2 Q 159 [(5, .long v), (4, .int (nI k0)), (2, .int (nI k)), (1, .int (nI n)), (0, .ref 154)] [] h := by
  have hP := hl.1
  intro m
  induction m with
  | zero =>
    intro k v hm hk hks
    have ek : k = sz := by omega
    refine am_goX 3 (show am_sh h 154 = some (11, 0) ∧ pz_S 7 none am_r189 2 Q 164 [(5, .long v), (4, .int (nI k0)), (2, .int (nI k)), (1, .int (nI n)), (0, .ref 154)] [.int (h.1 154 3), .int (nI k)] h from ⟨pc_154 hP, ?_⟩)
    rw [hl.2.2.1]
    refine am_goX 1 (show ((nI sz) ≤ (nI k) → pz_S 7 none am_r189 2 Q 218 [(5, .long v), (4, .int (nI k0)), (2, .int (nI k)), (1, .int (nI n)), (0, .ref 154)] [] h) ∧ (¬ ((nI sz) ≤ (nI k)) → pz_S 7 none am_r189 2 Q 167 [(5, .long v), (4, .int (nI k0)), (2, .int (nI k)), (1, .int (nI n)), (0, .ref 154)] [] h) from ⟨fun hc => ?_, fun hc => ?_⟩)
    · exact pz_cd_e hz hn h265 hl hk hks
    · exact absurd (nI_le (by omega) (by omega)) hc
  | succ m ih =>
    intro k v hm hk hks
    refine am_goX 3 (show am_sh h 154 = some (11, 0) ∧ pz_S 7 none am_r189 2 Q 164 [(5, .long v), (4, .int (nI k0)), (2, .int (nI k)), (1, .int (nI n)), (0, .ref 154)] [.int (h.1 154 3), .int (nI k)] h from ⟨pc_154 hP, ?_⟩)
    rw [hl.2.2.1]
    refine am_goX 1 (show ((nI sz) ≤ (nI k) → pz_S 7 none am_r189 2 Q 218 [(5, .long v), (4, .int (nI k0)), (2, .int (nI k)), (1, .int (nI n)), (0, .ref 154)] [] h) ∧ (¬ ((nI sz) ≤ (nI k)) → pz_S 7 none am_r189 2 Q 167 [(5, .long v), (4, .int (nI k0)), (2, .int (nI k)), (1, .int (nI n)), (0, .ref 154)] [] h) from ⟨fun hc => ?_, fun hc => ?_⟩)
    · exact pz_cd_e hz hn h265 hl hk hks
    have hks0 : k < sz := by
      rcases Nat.lt_or_ge k sz with w | w
      · exact w
      · exact absurd (nI_le w (by omega)) hc
    clear hc
    refine am_goX 2 (show am_sh h 154 = some (11, 0) ∧ pz_S 7 none am_r189 2 Q 171 [(5, .long v), (4, .int (nI k0)), (2, .int (nI k)), (1, .int (nI n)), (0, .ref 154)] [am_rf (h.2.2.1 154 1)] h from ⟨pc_154 hP, ?_⟩)
    rw [pc_r1 hP]
    refine am_goX 2 (show ∃ jj nn : Nat, am_sh h 155 = some (13, nn) ∧ jj < nn ∧ (nI k) = nI jj ∧ pz_S 7 none am_r189 2 Q 173 [(5, .long v), (4, .int (nI k0)), (2, .int (nI k)), (1, .int (nI n)), (0, .ref 154)] [.int (h.1 155 jj)] h from ⟨k, 1000, pc_155 hP, by omega, rfl, ?_⟩)
    refine am_goX 1 (show 0 ≤ 8 ∧ h.2.2.2.2 + am_al 192 ≤ 175 ∧ am_call am_cod 2 192 [.int (h.1 155 k)] h (fun vv h' => pz_S 7 none am_r189 2 Q 176 [(5, .long v), (4, .int (nI k0)), (2, .int (nI k)), (1, .int (nI n)), (0, .ref 154)] (vv.toList ++ []) h') from ⟨by decide, pc_lim hP rfl, am_call.up (pz_digC hP ?_) (by decide)⟩)
    cases eg : pz_dig (h.1 155 k) with
    | false =>
      refine am_goX 1 (show ((pz_b false) = 0 → pz_S 7 none am_r189 2 Q 218 [(5, .long v), (4, .int (nI k0)), (2, .int (nI k)), (1, .int (nI n)), (0, .ref 154)] [] h) ∧ (¬ ((pz_b false) = 0) → pz_S 7 none am_r189 2 Q 179 [(5, .long v), (4, .int (nI k0)), (2, .int (nI k)), (1, .int (nI n)), (0, .ref 154)] [] h) from ⟨fun _ => ?_, fun hz => absurd rfl hz⟩)
      exact pz_cd_e hz hn h265 hl hk hks
    | true =>
      refine am_goX 1 (show ((pz_b true) = 0 → pz_S 7 none am_r189 2 Q 218 [(5, .long v), (4, .int (nI k0)), (2, .int (nI k)), (1, .int (nI n)), (0, .ref 154)] [] h) ∧ (¬ ((pz_b true) = 0) → pz_S 7 none am_r189 2 Q 179 [(5, .long v), (4, .int (nI k0)), (2, .int (nI k)), (1, .int (nI n)), (0, .ref 154)] [] h) from ⟨fun hz => absurd hz (by decide), fun _ => ?_⟩)
      refine am_goX 5 (show ((Int32.ofInt 4) ≤ ((nI k) - (nI k0)) → pz_S 7 none am_r189 2 Q 208 [(5, .long v), (4, .int (nI k0)), (2, .int (nI k)), (1, .int (nI n)), (0, .ref 154)] [] h) ∧ (¬ ((Int32.ofInt 4) ≤ ((nI k) - (nI k0))) → pz_S 7 none am_r189 2 Q 187 [(5, .long v), (4, .int (nI k0)), (2, .int (nI k)), (1, .int (nI n)), (0, .ref 154)] [] h) from ⟨fun hc => ?_, fun hc => ?_⟩)
      · refine am_goX 4 (show 5 + 1 < 7 ∧ 2 < 7 ∧ pz_S 7 none am_r189 2 Q 159 [(2, .int ((nI k) + Int32.ofInt 1)), (5, .long v), (4, .int (nI k0)), (1, .int (nI n)), (0, .ref 154)] [] h from ⟨by decide, by decide, ?_⟩)
        rw [xw_i1]
        exact sv_S sv_189 (by intro q hq; simp only [List.mem_cons, List.not_mem_nil, or_false] at hq; rcases hq with rfl | rfl | rfl | rfl | rfl <;> rfl) (ih (k + 1) _ (by omega) (by omega) (by omega))
      · refine am_goX 5 (show am_sh h 154 = some (11, 0) ∧ pz_S 7 none am_r189 2 Q 197 [(5, .long v), (4, .int (nI k0)), (2, .int (nI k)), (1, .int (nI n)), (0, .ref 154)] [am_rf (h.2.2.1 154 1), .long ((am_kl 27) * v)] h from ⟨pc_154 hP, ?_⟩)
        rw [pc_r1 hP]
        refine am_goX 2 (show ∃ jj nn : Nat, am_sh h 155 = some (13, nn) ∧ jj < nn ∧ (nI k) = nI jj ∧ pz_S 7 none am_r189 2 Q 199 [(5, .long v), (4, .int (nI k0)), (2, .int (nI k)), (1, .int (nI n)), (0, .ref 154)] [.int (h.1 155 jj), .long ((am_kl 27) * v)] h from ⟨k, 1000, pc_155 hP, by omega, rfl, ?_⟩)
        refine am_goX 8 (show 5 + 1 < 7 ∧ 2 < 7 ∧ pz_S 7 none am_r189 2 Q 159 [(2, .int ((nI k) + Int32.ofInt 1)), (5, .long ((((am_kl 27) * v) + ((h.1 155 k)).toInt64) - (am_kl 28))), (4, .int (nI k0)), (1, .int (nI n)), (0, .ref 154)] [] h from ⟨by decide, by decide, ?_⟩)
        rw [xw_i1]
        exact sv_S sv_189 (by intro q hq; simp only [List.mem_cons, List.not_mem_nil, or_false] at hq; rcases hq with rfl | rfl | rfl | rfl | rfl <;> rfl) (ih (k + 1) _ (by omega) (by omega) (by omega))
theorem pz_cd {Q : am_Q} {n k : Nat} {v : Int64} (hz : sz ≤ 1000) (hn : n ≤ k) (h265 : pz_k265 Q h0 sz n k) (hl : ct h0 sz h) (hks0 : k < sz) (hgo : pz_dig (h.1 155 k) = true) : pz_S 7 none am_r189 2 Q 159 [(5, .long v), (4, .int (nI k)), (2, .int (nI k)), (1, .int (nI n)), (0, .ref 154)] [] h := by
  have hP := hl.1
  refine am_goX 3 (show am_sh h 154 = some (11, 0) ∧ pz_S 7 none am_r189 2 Q 164 [(5, .long v), (4, .int (nI k)), (2, .int (nI k)), (1, .int (nI n)), (0, .ref 154)] [.int (h.1 154 3), .int (nI k)] h from ⟨pc_154 hP, ?_⟩)
  rw [hl.2.2.1]
  refine am_goX 1 (show ((nI sz) ≤ (nI k) → pz_S 7 none am_r189 2 Q 218 [(5, .long v), (4, .int (nI k)), (2, .int (nI k)), (1, .int (nI n)), (0, .ref 154)] [] h) ∧ (¬ ((nI sz) ≤ (nI k)) → pz_S 7 none am_r189 2 Q 167 [(5, .long v), (4, .int (nI k)), (2, .int (nI k)), (1, .int (nI n)), (0, .ref 154)] [] h) from ⟨fun hz => absurd hz (nI_ge hks0 (by omega)), fun _ => ?_⟩)
  refine am_goX 2 (show am_sh h 154 = some (11, 0) ∧ pz_S 7 none am_r189 2 Q 171 [(5, .long v), (4, .int (nI k)), (2, .int (nI k)), (1, .int (nI n)), (0, .ref 154)] [am_rf (h.2.2.1 154 1)] h from ⟨pc_154 hP, ?_⟩)
  rw [pc_r1 hP]
  refine am_goX 2 (show ∃ jj nn : Nat, am_sh h 155 = some (13, nn) ∧ jj < nn ∧ (nI k) = nI jj ∧ pz_S 7 none am_r189 2 Q 173 [(5, .long v), (4, .int (nI k)), (2, .int (nI k)), (1, .int (nI n)), (0, .ref 154)] [.int (h.1 155 jj)] h from ⟨k, 1000, pc_155 hP, by omega, rfl, ?_⟩)
  refine am_goX 1 (show 0 ≤ 8 ∧ h.2.2.2.2 + am_al 192 ≤ 175 ∧ am_call am_cod 2 192 [.int (h.1 155 k)] h (fun vv h' => pz_S 7 none am_r189 2 Q 176 [(5, .long v), (4, .int (nI k)), (2, .int (nI k)), (1, .int (nI n)), (0, .ref 154)] (vv.toList ++ []) h') from ⟨by decide, pc_lim hP rfl, am_call.up (pz_digC hP ?_) (by decide)⟩)
  rw [hgo]
  refine am_goX 1 (show ((pz_b true) = 0 → pz_S 7 none am_r189 2 Q 218 [(5, .long v), (4, .int (nI k)), (2, .int (nI k)), (1, .int (nI n)), (0, .ref 154)] [] h) ∧ (¬ ((pz_b true) = 0) → pz_S 7 none am_r189 2 Q 179 [(5, .long v), (4, .int (nI k)), (2, .int (nI k)), (1, .int (nI n)), (0, .ref 154)] [] h) from ⟨fun hz => absurd hz (by decide), fun _ => ?_⟩)
  refine am_goX 5 (show ((Int32.ofInt 4) ≤ ((nI k) - (nI k)) → pz_S 7 none am_r189 2 Q 208 [(5, .long v), (4, .int (nI k)), (2, .int (nI k)), (1, .int (nI n)), (0, .ref 154)] [] h) ∧ (¬ ((Int32.ofInt 4) ≤ ((nI k) - (nI k))) → pz_S 7 none am_r189 2 Q 187 [(5, .long v), (4, .int (nI k)), (2, .int (nI k)), (1, .int (nI n)), (0, .ref 154)] [] h) from ⟨fun hc => ?_, fun hc => ?_⟩)
  · refine am_goX 4 (show 5 + 1 < 7 ∧ 2 < 7 ∧ pz_S 7 none am_r189 2 Q 159 [(2, .int ((nI k) + Int32.ofInt 1)), (5, .long v), (4, .int (nI k)), (1, .int (nI n)), (0, .ref 154)] [] h from ⟨by decide, by decide, ?_⟩)
    rw [xw_i1]
    exact sv_S sv_189 (by intro q hq; simp only [List.mem_cons, List.not_mem_nil, or_false] at hq; rcases hq with rfl | rfl | rfl | rfl | rfl <;> rfl) (pz_cd_l hz hn h265 hl sz (k + 1) _ (by omega) (by omega) (by omega))
  · refine am_goX 5 (show am_sh h 154 = some (11, 0) ∧ pz_S 7 none am_r189 2 Q 197 [(5, .long v), (4, .int (nI k)), (2, .int (nI k)), (1, .int (nI n)), (0, .ref 154)] [am_rf (h.2.2.1 154 1), .long ((am_kl 27) * v)] h from ⟨pc_154 hP, ?_⟩)
    rw [pc_r1 hP]
    refine am_goX 2 (show ∃ jj nn : Nat, am_sh h 155 = some (13, nn) ∧ jj < nn ∧ (nI k) = nI jj ∧ pz_S 7 none am_r189 2 Q 199 [(5, .long v), (4, .int (nI k)), (2, .int (nI k)), (1, .int (nI n)), (0, .ref 154)] [.int (h.1 155 jj), .long ((am_kl 27) * v)] h from ⟨k, 1000, pc_155 hP, by omega, rfl, ?_⟩)
    refine am_goX 8 (show 5 + 1 < 7 ∧ 2 < 7 ∧ pz_S 7 none am_r189 2 Q 159 [(2, .int ((nI k) + Int32.ofInt 1)), (5, .long ((((am_kl 27) * v) + ((h.1 155 k)).toInt64) - (am_kl 28))), (4, .int (nI k)), (1, .int (nI n)), (0, .ref 154)] [] h from ⟨by decide, by decide, ?_⟩)
    rw [xw_i1]
    exact sv_S sv_189 (by intro q hq; simp only [List.mem_cons, List.not_mem_nil, or_false] at hq; rcases hq with rfl | rfl | rfl | rfl | rfl <;> rfl) (pz_cd_l hz hn h265 hl sz (k + 1) _ (by omega) (by omega) (by omega))
theorem pz_cut_l {Q : am_Q} (hz : sz ≤ 1000) (hend : ∀ (n : Nat) (h1 : am_H), n ≤ sz → ct h0 sz h1 → pz_S 7 none am_r189 2 Q 279 [(1, .int (nI n)), (0, .ref 154)] [] h1) : ∀ (m n k : Nat) (h : am_H), sz ≤ k + m → n ≤ k → k ≤ sz → ct h0 sz h → pz_S 7 none am_r189 2 Q 17 [(2, .int (nI k)), (1, .int (nI n)), (0, .ref 154)] [] h := by
  intro m
  induction m with
  | zero =>
    intro n k h hm hnk hks hl
    have hP := hl.1
    refine am_goX 3 (show am_sh h 154 = some (11, 0) ∧ pz_S 7 none am_r189 2 Q 22 [(2, .int (nI k)), (1, .int (nI n)), (0, .ref 154)] [.int (h.1 154 3), .int (nI k)] h from ⟨pc_154 hP, ?_⟩)
    rw [hl.2.2.1]
    refine am_goX 1 (show ((nI sz) ≤ (nI k) → pz_S 7 none am_r189 2 Q 279 [(2, .int (nI k)), (1, .int (nI n)), (0, .ref 154)] [] h) ∧ (¬ ((nI sz) ≤ (nI k)) → pz_S 7 none am_r189 2 Q 25 [(2, .int (nI k)), (1, .int (nI n)), (0, .ref 154)] [] h) from ⟨fun hc => ?_, fun hc => ?_⟩)
    · exact sv_S sv_189 (by intro q hq; simp only [List.mem_cons, List.not_mem_nil, or_false] at hq; rcases hq with rfl | rfl <;> rfl) (hend n h (by omega) hl)
    · exact absurd (nI_le (by omega) (by omega)) hc
  | succ m ih =>
    intro n k h hm hnk hks hl
    have hP := hl.1
    refine am_goX 3 (show am_sh h 154 = some (11, 0) ∧ pz_S 7 none am_r189 2 Q 22 [(2, .int (nI k)), (1, .int (nI n)), (0, .ref 154)] [.int (h.1 154 3), .int (nI k)] h from ⟨pc_154 hP, ?_⟩)
    rw [hl.2.2.1]
    refine am_goX 1 (show ((nI sz) ≤ (nI k) → pz_S 7 none am_r189 2 Q 279 [(2, .int (nI k)), (1, .int (nI n)), (0, .ref 154)] [] h) ∧ (¬ ((nI sz) ≤ (nI k)) → pz_S 7 none am_r189 2 Q 25 [(2, .int (nI k)), (1, .int (nI n)), (0, .ref 154)] [] h) from ⟨fun hc => ?_, fun hc => ?_⟩)
    · exact sv_S sv_189 (by intro q hq; simp only [List.mem_cons, List.not_mem_nil, or_false] at hq; rcases hq with rfl | rfl <;> rfl) (hend n h (by omega) hl)
    have hks0 : k < sz := by
      rcases Nat.lt_or_ge k sz with w | w
      · exact w
      · exact absurd (nI_le w (by omega)) hc
    clear hc
    have h265 : pz_k265 Q h0 sz n k := by
      intro k1 v h1 q1 q2 q3
      have hP1 := q3.1
      refine am_goX 2 (show am_sh h1 154 = some (11, 0) ∧ pz_S 7 none am_r189 2 Q 269 [(5, .long v), (2, .int (nI k1)), (1, .int (nI n)), (0, .ref 154)] [am_rf (h1.2.2.1 154 6)] h1 from ⟨pc_154 hP1, ?_⟩)
      rw [pc_r6 hP1]
      refine am_goX 3 (show ∃ jj nn : Nat, am_so h1 158 = some (14, nn) ∧ jj < nn ∧ (nI n) = nI jj ∧ pz_S 7 none am_r189 2 Q 273 [(5, .long v), (2, .int (nI k1)), (1, .int (nI n)), (0, .ref 154)] [] (am_wL h1 158 jj (v)) from ⟨n, 1002, pc_w158 hP1, by omega, rfl, ?_⟩)
      have l1 := ct_wl (k := n) (v := v) q3 (pz_Mtk (Or.inr (Or.inr rfl)) (by omega))
      generalize am_wL h1 158 n v = h2 at l1 ⊢
      refine am_goX 2 (show 1 < 7 ∧ pz_S 7 none am_r189 2 Q 17 [(1, .int ((nI n) + Int32.ofInt 1)), (5, .long v), (2, .int (nI k1)), (0, .ref 154)] [] h2 from ⟨by decide, ?_⟩)
      rw [xw_i1]
      exact sv_S sv_189 (by intro q hq; simp only [List.mem_cons, List.not_mem_nil, or_false] at hq; rcases hq with rfl | rfl | rfl <;> rfl) (ih (n + 1) k1 h2 (by omega) (by omega) q2 l1)
    refine am_goX 2 (show am_sh h 154 = some (11, 0) ∧ pz_S 7 none am_r189 2 Q 29 [(2, .int (nI k)), (1, .int (nI n)), (0, .ref 154)] [am_rf (h.2.2.1 154 1)] h from ⟨pc_154 hP, ?_⟩)
    rw [pc_r1 hP]
    refine am_goX 2 (show ∃ jj nn : Nat, am_sh h 155 = some (13, nn) ∧ jj < nn ∧ (nI k) = nI jj ∧ pz_S 7 none am_r189 2 Q 31 [(2, .int (nI k)), (1, .int (nI n)), (0, .ref 154)] [.int (h.1 155 jj)] h from ⟨k, 1000, pc_155 hP, by omega, rfl, ?_⟩)
    generalize hcx : h.1 155 k = x
    have k44 : pz_S 7 none am_r189 2 Q 44 [(3, .int x), (2, .int (nI k)), (1, .int (nI n)), (0, .ref 154)] [] h := ?_
    rotate_left
    · refine am_goX 2 (show 2 < 7 ∧ pz_S 7 none am_r189 2 Q 17 [(2, .int ((nI k) + Int32.ofInt 1)), (3, .int x), (1, .int (nI n)), (0, .ref 154)] [] h from ⟨by decide, ?_⟩)
      rw [xw_i1]
      exact sv_S sv_189 (by intro q hq; simp only [List.mem_cons, List.not_mem_nil, or_false] at hq; rcases hq with rfl | rfl | rfl <;> rfl) (ih n (k + 1) h (by omega) (by omega) (by omega) hl)
    refine am_goX 4 (show 3 < 7 ∧ (x = (Int8.ofInt 10).toInt32 → pz_S 7 none am_r189 2 Q 44 [(3, .int x), (2, .int (nI k)), (1, .int (nI n)), (0, .ref 154)] [] h) ∧ (¬ (x = (Int8.ofInt 10).toInt32) → pz_S 7 none am_r189 2 Q 38 [(3, .int x), (2, .int (nI k)), (1, .int (nI n)), (0, .ref 154)] [] h) from ⟨by decide, fun hc => ?_, fun hc => ?_⟩)
    · exact k44
    clear hc
    refine am_goX 3 (show (¬ x = (Int8.ofInt 32).toInt32 → pz_S 7 none am_r189 2 Q 50 [(3, .int x), (2, .int (nI k)), (1, .int (nI n)), (0, .ref 154)] [] h) ∧ (¬ ¬ x = (Int8.ofInt 32).toInt32 → pz_S 7 none am_r189 2 Q 44 [(3, .int x), (2, .int (nI k)), (1, .int (nI n)), (0, .ref 154)] [] h) from ⟨fun hc => ?_, fun hc => ?_⟩)
    rotate_left
    · exact k44
    clear hc
    refine am_goX 6 (show 4 < 7 ∧ 5 + 1 < 7 ∧ am_sh h 154 = some (11, 0) ∧ pz_S 7 none am_r189 2 Q 60 [(5, .long (Int64.ofNat 0)), (4, .int (nI k)), (3, .int x), (2, .int (nI k)), (1, .int (nI n)), (0, .ref 154)] [am_rf (h.2.2.1 154 5)] h from ⟨by decide, by decide, pc_154 hP, ?_⟩)
    rw [pc_r5 hP]
    refine am_goX 3 (show ∃ jj nn : Nat, am_so h 157 = some (13, nn) ∧ jj < nn ∧ (nI n) = nI jj ∧ pz_S 7 none am_r189 2 Q 63 [(5, .long (Int64.ofNat 0)), (4, .int (nI k)), (3, .int x), (2, .int (nI k)), (1, .int (nI n)), (0, .ref 154)] [] (am_wI h 157 jj ((nI k))) from ⟨n, 1002, pc_w157 hP, by omega, rfl, ?_⟩)
    have hkt : (nI k).toInt = k := nI_toInt (by omega)
    have l1 := ct_w (o := 157) (k := n) (v := nI k) hl (pz_Mtk (Or.inr (Or.inl rfl)) (by omega)) (by omega) (by decide) (pz_sga pz_sg157 (by omega) (by omega))
    have hx1 : (am_wI h 157 n (nI k)).1 155 k = x := by rw [em_wn h _ (by omega)]; exact hcx
    generalize am_wI h 157 n (nI k) = h1 at l1 hx1 ⊢
    have hP1 := l1.1
    refine am_goX 2 (show 0 ≤ 8 ∧ h1.2.2.2.2 + am_al 190 ≤ 175 ∧ am_call am_cod 2 190 [.int x] h1 (fun vv h' => pz_S 7 none am_r189 2 Q 67 [(5, .long (Int64.ofNat 0)), (4, .int (nI k)), (3, .int x), (2, .int (nI k)), (1, .int (nI n)), (0, .ref 154)] (vv.toList ++ []) h') from ⟨by decide, pc_lim hP1 rfl, am_call.up (pz_letC hP1 ?_) (by decide)⟩)
    cases el : pz_let x with
    | true =>
      refine am_goX 1 (show ((pz_b true) = 0 → pz_S 7 none am_r189 2 Q 152 [(5, .long (Int64.ofNat 0)), (4, .int (nI k)), (3, .int x), (2, .int (nI k)), (1, .int (nI n)), (0, .ref 154)] [] h1) ∧ (¬ ((pz_b true) = 0) → pz_S 7 none am_r189 2 Q 70 [(5, .long (Int64.ofNat 0)), (4, .int (nI k)), (3, .int x), (2, .int (nI k)), (1, .int (nI n)), (0, .ref 154)] [] h1) from ⟨fun hz => absurd hz (by decide), fun _ => ?_⟩)
      exact sv_S sv_189 (by intro q hq; simp only [List.mem_cons, List.not_mem_nil, or_false] at hq; rcases hq with rfl | rfl | rfl | rfl | rfl <;> rfl) (pz_cl hz hnk h265 l1 hks0 (by rw [hx1]; exact el))
    | false =>
      refine am_goX 1 (show ((pz_b false) = 0 → pz_S 7 none am_r189 2 Q 152 [(5, .long (Int64.ofNat 0)), (4, .int (nI k)), (3, .int x), (2, .int (nI k)), (1, .int (nI n)), (0, .ref 154)] [] h1) ∧ (¬ ((pz_b false) = 0) → pz_S 7 none am_r189 2 Q 70 [(5, .long (Int64.ofNat 0)), (4, .int (nI k)), (3, .int x), (2, .int (nI k)), (1, .int (nI n)), (0, .ref 154)] [] h1) from ⟨fun _ => ?_, fun hz => absurd rfl hz⟩)
      refine am_goX 2 (show 0 ≤ 8 ∧ h1.2.2.2.2 + am_al 192 ≤ 175 ∧ am_call am_cod 2 192 [.int x] h1 (fun vv h' => pz_S 7 none am_r189 2 Q 156 [(5, .long (Int64.ofNat 0)), (4, .int (nI k)), (3, .int x), (2, .int (nI k)), (1, .int (nI n)), (0, .ref 154)] (vv.toList ++ []) h') from ⟨by decide, pc_lim hP1 rfl, am_call.up (pz_digC hP1 ?_) (by decide)⟩)
      cases ed : pz_dig x with
      | true =>
        refine am_goX 1 (show ((pz_b true) = 0 → pz_S 7 none am_r189 2 Q 240 [(5, .long (Int64.ofNat 0)), (4, .int (nI k)), (3, .int x), (2, .int (nI k)), (1, .int (nI n)), (0, .ref 154)] [] h1) ∧ (¬ ((pz_b true) = 0) → pz_S 7 none am_r189 2 Q 159 [(5, .long (Int64.ofNat 0)), (4, .int (nI k)), (3, .int x), (2, .int (nI k)), (1, .int (nI n)), (0, .ref 154)] [] h1) from ⟨fun hz => absurd hz (by decide), fun _ => ?_⟩)
        exact sv_S sv_189 (by intro q hq; simp only [List.mem_cons, List.not_mem_nil, or_false] at hq; rcases hq with rfl | rfl | rfl | rfl | rfl <;> rfl) (pz_cd hz hnk h265 l1 hks0 (by rw [hx1]; exact ed))
      | false =>
        refine am_goX 1 (show ((pz_b false) = 0 → pz_S 7 none am_r189 2 Q 240 [(5, .long (Int64.ofNat 0)), (4, .int (nI k)), (3, .int x), (2, .int (nI k)), (1, .int (nI n)), (0, .ref 154)] [] h1) ∧ (¬ ((pz_b false) = 0) → pz_S 7 none am_r189 2 Q 159 [(5, .long (Int64.ofNat 0)), (4, .int (nI k)), (3, .int x), (2, .int (nI k)), (1, .int (nI n)), (0, .ref 154)] [] h1) from ⟨fun _ => ?_, fun hz => absurd rfl hz⟩)
        refine am_goX 5 (show 5 + 1 < 7 ∧ am_sh h1 154 = some (11, 0) ∧ pz_S 7 none am_r189 2 Q 248 [(5, .long (x).toInt64), (4, .int (nI k)), (3, .int x), (2, .int (nI k)), (1, .int (nI n)), (0, .ref 154)] [am_rf (h1.2.2.1 154 4)] h1 from ⟨by decide, pc_154 hP1, ?_⟩)
        rw [pc_r4 hP1]
        refine am_goX 3 (show 2 ≤ 8 ∧ h1.2.2.2.2 + am_al 193 ≤ 175 ∧ am_call am_cod 2 193 [.int x] h1 (fun vv h' => pz_S 7 none am_r189 2 Q 253 [(5, .long (x).toInt64), (4, .int (nI k)), (3, .int x), (2, .int (nI k)), (1, .int (nI n)), (0, .ref 154)] (vv.toList ++ [.int (nI n), .ref 156]) h') from ⟨by decide, pc_lim hP1 rfl, am_call.up (pz_sgof hP1 ?_ ?_) (by decide)⟩)
        · refine am_goX 1 (show (1 = 0 → pz_S 7 none am_r189 2 Q 260 [(5, .long (x).toInt64), (4, .int (nI k)), (3, .int x), (2, .int (nI k)), (1, .int (nI n)), (0, .ref 154)] [.int (nI n), .ref 156] h1) ∧ (¬ (1 = 0) → pz_S 7 none am_r189 2 Q 256 [(5, .long (x).toInt64), (4, .int (nI k)), (3, .int x), (2, .int (nI k)), (1, .int (nI n)), (0, .ref 154)] [.int (nI n), .ref 156] h1) from ⟨fun hz => absurd hz (by decide), fun _ => ?_⟩)
          refine am_goX 3 (show ∃ jj nn : Nat, am_so h1 156 = some (13, nn) ∧ jj < nn ∧ (nI n) = nI jj ∧ pz_S 7 none am_r189 2 Q 262 [(5, .long (x).toInt64), (4, .int (nI k)), (3, .int x), (2, .int (nI k)), (1, .int (nI n)), (0, .ref 154)] [] (am_wI h1 156 jj ((Int32.ofInt 3))) from ⟨n, 1002, pc_w156 hP1, by omega, rfl, ?_⟩)
          have l2 := ct_w (o := 156) (k := n) (v := Int32.ofInt 3) l1 (pz_Mtk (Or.inl rfl) (by omega)) (by omega) (by decide) (pz_sga pz_sg156 (by decide) (by decide))
          generalize am_wI h1 156 n (Int32.ofInt 3) = h2 at l2 ⊢
          refine am_goX 1 (show 2 < 7 ∧ pz_S 7 none am_r189 2 Q 265 [(2, .int ((nI k) + Int32.ofInt 1)), (5, .long (x).toInt64), (4, .int (nI k)), (3, .int x), (1, .int (nI n)), (0, .ref 154)] [] h2 from ⟨by decide, ?_⟩)
          rw [xw_i1]
          exact sv_S sv_189 (by intro q hq; simp only [List.mem_cons, List.not_mem_nil, or_false] at hq; rcases hq with rfl | rfl | rfl | rfl <;> rfl) (h265 (k + 1) _ h2 (by omega) (by omega) l2)
        · refine am_goX 1 (show (0 = 0 → pz_S 7 none am_r189 2 Q 260 [(5, .long (x).toInt64), (4, .int (nI k)), (3, .int x), (2, .int (nI k)), (1, .int (nI n)), (0, .ref 154)] [.int (nI n), .ref 156] h1) ∧ (¬ (0 = 0) → pz_S 7 none am_r189 2 Q 256 [(5, .long (x).toInt64), (4, .int (nI k)), (3, .int x), (2, .int (nI k)), (1, .int (nI n)), (0, .ref 154)] [.int (nI n), .ref 156] h1) from ⟨fun _ => ?_, fun hz => absurd rfl hz⟩)
          refine am_goX 2 (show ∃ jj nn : Nat, am_so h1 156 = some (13, nn) ∧ jj < nn ∧ (nI n) = nI jj ∧ pz_S 7 none am_r189 2 Q 262 [(5, .long (x).toInt64), (4, .int (nI k)), (3, .int x), (2, .int (nI k)), (1, .int (nI n)), (0, .ref 154)] [] (am_wI h1 156 jj ((Int32.ofInt 4))) from ⟨n, 1002, pc_w156 hP1, by omega, rfl, ?_⟩)
          have l2 := ct_w (o := 156) (k := n) (v := Int32.ofInt 4) l1 (pz_Mtk (Or.inl rfl) (by omega)) (by omega) (by decide) (pz_sga pz_sg156 (by decide) (by decide))
          generalize am_wI h1 156 n (Int32.ofInt 4) = h2 at l2 ⊢
          refine am_goX 1 (show 2 < 7 ∧ pz_S 7 none am_r189 2 Q 265 [(2, .int ((nI k) + Int32.ofInt 1)), (5, .long (x).toInt64), (4, .int (nI k)), (3, .int x), (1, .int (nI n)), (0, .ref 154)] [] h2 from ⟨by decide, ?_⟩)
          rw [xw_i1]
          exact sv_S sv_189 (by intro q hq; simp only [List.mem_cons, List.not_mem_nil, or_false] at hq; rcases hq with rfl | rfl | rfl | rfl <;> rfl) (h265 (k + 1) _ h2 (by omega) (by omega) l2)
theorem pz_sg3 : (ag_sg 154).all (fun s => !(Nat.ble s.1 3 && Nat.ble 3 s.2.1) || (decide (s.2.2.2.2.1 ≤ 0) && decide (1000 ≤ s.2.2.2.2.2))) = true := by decide +kernel
theorem pz_sg2 : (ag_sg 154).all (fun s => !(Nat.ble s.1 2 && Nat.ble 2 s.2.1) || (decide (s.2.2.2.2.1 ≤ 0) && decide (1000 ≤ s.2.2.2.2.2))) = true := by decide +kernel
theorem pz_cutall {Q : am_Q} {N a c : Nat} (hP0 : pz_P N a c h) (hQ : ∀ N' h', pz_P N' 0 c h' → ag_fr pz_Mt h h' → h'.1 154 8 = 0 → h'.1 154 2 = 0 → Q none h') : am_call am_cod 3 189 [.ref 154] h Q := by
  have hP : pc_P h := ⟨hP0.1.1, hP0.1.2.1, hP0.2.1⟩
  have ht : 0 ≤ (h.1 154 2).toInt ∧ (h.1 154 2).toInt ≤ 1000 := hP0.1.2.1.1 154 (2, 2, 1, 0, 0, 1000) (iv_sgm (o := 154) (s := (2, 2, 1, 0, 0, 1000)) (by decide +kernel)) 2 (by decide) (by decide) (by decide)
  obtain ⟨sz, hsz⟩ : ∃ sz : Nat, h.1 154 2 = nI sz ∧ sz ≤ 1000 := by
    refine ⟨(h.1 154 2).toInt.toNat, Int32.toInt_inj.mp ?_, by omega⟩
    rw [nI_toInt (by omega)]
    omega
  obtain ⟨hsz, hz⟩ := hsz
  have hszt : (nI sz).toInt = sz := nI_toInt (by omega)
  refine pz_call (n := 189) (nL := 7) (rt := none) (rows := am_r189) (d := 2) (by decide +kernel) (by decide +kernel) rfl (by funext pc; rfl) (pc_175 hP) (by exact Nat.le_of_ble_eq_true rfl) ?_
  refine am_goX 4 (show am_sh h 154 = some (11, 0) ∧ am_sh h 154 = some (11, 0) ∧ narrow (am_fty 11 3) (.int ((h.1 154 2))) = .int ((h.1 154 2)) ∧ fits (am_fty 11 3) (.int ((h.1 154 2))) = true ∧ pz_S 7 none am_r189 2 Q 8 [(0, .ref 154)] [] (am_wI h 154 3 ((h.1 154 2))) from ⟨pc_154 hP, pc_154 hP, rfl, rfl, ?_⟩)
  rw [hsz]
  have l0 : pc_P (am_wI h 154 3 (nI sz)) ∧ ag_fr pz_Mt h (am_wI h 154 3 (nI sz)) ∧ (am_wI h 154 3 (nI sz)).1 154 3 = nI sz := ⟨⟨hP.1, pz_wG hP.2.1 (pz_sgv pz_sg3 (by omega) (by omega)), pc_wX hP.2.2 (by decide)⟩, pz_fr rfl, em_we h 154 3 _⟩
  generalize am_wI h 154 3 (nI sz) = h1 at l0 ⊢
  refine am_goX 3 (show am_sh h1 154 = some (11, 0) ∧ narrow (am_fty 11 2) (.int ((Int32.ofInt 0))) = .int ((Int32.ofInt 0)) ∧ fits (am_fty 11 2) (.int ((Int32.ofInt 0))) = true ∧ pz_S 7 none am_r189 2 Q 13 [(0, .ref 154)] [] (am_wI h1 154 2 ((Int32.ofInt 0))) from ⟨pc_154 l0.1, rfl, rfl, ?_⟩)
  have l1 : ct h sz (am_wI h1 154 2 (Int32.ofInt 0)) := ⟨⟨l0.1.1, pz_wG l0.1.2.1 (pz_sgv pz_sg2 (by decide) (by decide)), pc_wX l0.1.2.2 (by decide)⟩, pz_trt l0.2.1 (pz_fr rfl), by rw [em_wn h1 _ (by omega)]; exact l0.2.2, em_we h1 154 2 _⟩
  generalize am_wI h1 154 2 (Int32.ofInt 0) = h2 at l1 ⊢
  refine am_goX 4 (show 1 < 7 ∧ 2 < 7 ∧ pz_S 7 none am_r189 2 Q 17 [(2, .int (Int32.ofInt 0)), (1, .int (Int32.ofInt 0)), (0, .ref 154)] [] h2 from ⟨by decide, by decide, ?_⟩)
  refine pz_cut_l hz (fun n h3 hn l3 => ?_) sz 0 0 h2 (by omega) (Nat.le_refl _) (Nat.zero_le _) l1
  have hnt : (nI n).toInt = n := nI_toInt (by omega)
  have hP3 := l3.1
  refine am_goX 2 (show am_sh h3 154 = some (11, 0) ∧ pz_S 7 none am_r189 2 Q 283 [(1, .int (nI n)), (0, .ref 154)] [am_rf (h3.2.2.1 154 4)] h3 from ⟨pc_154 hP3, ?_⟩)
  rw [pc_r4 hP3]
  refine am_goX 3 (show ∃ jj nn : Nat, am_so h3 156 = some (13, nn) ∧ jj < nn ∧ (nI n) = nI jj ∧ pz_S 7 none am_r189 2 Q 286 [(1, .int (nI n)), (0, .ref 154)] [] (am_wI h3 156 jj ((Int32.ofInt 0))) from ⟨n, 1002, pc_w156 hP3, by omega, rfl, ?_⟩)
  have l4 := ct_w (o := 156) (k := n) (v := Int32.ofInt 0) l3 (pz_Mtk (Or.inl rfl) (by omega)) (by omega) (by decide) (pz_sga pz_sg156 (by decide) (by decide))
  have e4 : (am_wI h3 156 n (Int32.ofInt 0)).1 156 n = 0 := em_we h3 156 n _
  generalize am_wI h3 156 n (Int32.ofInt 0) = h4 at l4 e4 ⊢
  refine am_goX 2 (show am_sh h4 154 = some (11, 0) ∧ pz_S 7 none am_r189 2 Q 290 [(1, .int (nI n)), (0, .ref 154)] [am_rf (h4.2.2.1 154 5)] h4 from ⟨pc_154 l4.1, ?_⟩)
  rw [pc_r5 l4.1]
  refine am_goX 3 (show am_sh h4 154 = some (11, 0) ∧ pz_S 7 none am_r189 2 Q 295 [(1, .int (nI n)), (0, .ref 154)] [.int (h4.1 154 3), .int (nI n), .ref 157] h4 from ⟨pc_154 l4.1, ?_⟩)
  rw [l4.2.2.1]
  refine am_goX 1 (show ∃ jj nn : Nat, am_so h4 157 = some (13, nn) ∧ jj < nn ∧ (nI n) = nI jj ∧ pz_S 7 none am_r189 2 Q 296 [(1, .int (nI n)), (0, .ref 154)] [] (am_wI h4 157 jj ((nI sz))) from ⟨n, 1002, pc_w157 l4.1, by omega, rfl, ?_⟩)
  have l5 := ct_w (o := 157) (k := n) (v := nI sz) l4 (pz_Mtk (Or.inr (Or.inl rfl)) (by omega)) (by omega) (by decide) (pz_sga pz_sg157 (by omega) (by omega))
  have e5 : (am_wI h4 157 n (nI sz)).1 156 n = 0 := by rw [em_wn h4 _ (by omega)]; exact e4
  generalize am_wI h4 157 n (nI sz) = h5 at l5 e5 ⊢
  refine am_goX 3 (show am_sh h5 154 = some (11, 0) ∧ narrow (am_fty 11 7) (.int ((Int32.ofInt 0))) = .int ((Int32.ofInt 0)) ∧ fits (am_fty 11 7) (.int ((Int32.ofInt 0))) = true ∧ pz_S 7 none am_r189 2 Q 301 [(1, .int (nI n)), (0, .ref 154)] [] (am_wI h5 154 7 ((Int32.ofInt 0))) from ⟨pc_154 l5.1, rfl, rfl, ?_⟩)
  have l6 := ct_w (o := 154) (k := 7) (v := Int32.ofInt 0) l5 rfl (by decide) (by decide) (pz_sgv pz_sg7 (by decide) (by decide))
  have e6 : (am_wI h5 154 7 (Int32.ofInt 0)).1 156 n = 0 := by rw [em_wn h5 _ (by omega)]; exact e5
  have a6 : (am_wI h5 154 7 (Int32.ofInt 0)).1 154 7 = nI 0 := em_we h5 154 7 _
  generalize am_wI h5 154 7 (Int32.ofInt 0) = h6 at l6 e6 a6 ⊢
  refine am_goX 3 (show am_sh h6 154 = some (11, 0) ∧ narrow (am_fty 11 8) (.int ((Int32.ofInt 0))) = .int ((Int32.ofInt 0)) ∧ fits (am_fty 11 8) (.int ((Int32.ofInt 0))) = true ∧ pz_S 7 none am_r189 2 Q 306 [(1, .int (nI n)), (0, .ref 154)] [] (am_wI h6 154 8 ((Int32.ofInt 0))) from ⟨pc_154 l6.1, rfl, rfl, ?_⟩)
  have l7 := ct_w (o := 154) (k := 8) (v := Int32.ofInt 0) l6 rfl (by decide) (by decide) (pz_sgv pz_sg8 (by decide) (by decide))
  have e7 : (am_wI h6 154 8 (Int32.ofInt 0)).1 156 n = 0 := by rw [em_wn h6 _ (by omega)]; exact e6
  have a7 : (am_wI h6 154 8 (Int32.ofInt 0)).1 154 7 = nI 0 := by rw [em_wn h6 _ (by omega)]; exact a6
  have b7 : (am_wI h6 154 8 (Int32.ofInt 0)).1 154 8 = 0 := em_we h6 154 8 _
  generalize am_wI h6 154 8 (Int32.ofInt 0) = h7 at l7 e7 a7 b7 ⊢
  have hP7 : pz_P n 0 c h7 := ⟨⟨l7.1.1, l7.1.2.1, Int.natCast_nonneg n, e7⟩, l7.1.2.2, by omega, a7, Nat.zero_le _, ((l7.2.1.2 154 13 (by decide)).1).trans hP0.2.2.2.2.2.1, hP0.2.2.2.2.2.2⟩
  exact am_goX 1 (show (none : Option FieldType) = none ∧ h7.2.2.2.2 = 175 ∧ _ from ⟨rfl, pc_175 l7.1, hQ n h7 hP7 l7.2.1 b7 l7.2.2.2⟩)
