/-! THE TOKENS AS FUNCTIONS OF THE TAPE -/
def tk_bl (x : Int32) : Bool := decide (x = (Int8.ofInt 10).toInt32) || decide (x = (Int8.ofInt 32).toInt32)
def tk_rn (f : Int32 → Bool) (T : Nat → Int32) (sz : Nat) : Nat → Nat → Nat
  | 0, k => k
  | m + 1, k => bif decide (k < sz) && f (T k) then tk_rn f T sz m (k + 1) else k
/-- the first place from k on that isn't f, or the end -/
def tk_go (f : Int32 → Bool) (T : Nat → Int32) (sz k : Nat) : Nat := tk_rn f T sz sz k
theorem tk_rn_st {f : Int32 → Bool} {T : Nat → Int32} {sz : Nat} : ∀ (m m' k : Nat), sz ≤ k + m → sz ≤ k + m' → tk_rn f T sz m k = tk_rn f T sz m' k
  | 0, 0, _, _, _ => rfl
  | 0, m' + 1, k, h1, _ => by
    show k = (bif decide (k < sz) && f (T k) then tk_rn f T sz m' (k + 1) else k)
    rw [decide_eq_false (by omega : ¬ k < sz)]
    rfl
  | m + 1, 0, k, _, h2 => by
    show (bif decide (k < sz) && f (T k) then tk_rn f T sz m (k + 1) else k) = k
    rw [decide_eq_false (by omega : ¬ k < sz)]
    rfl
  | m + 1, m' + 1, k, h1, h2 => by
    show (bif decide (k < sz) && f (T k) then tk_rn f T sz m (k + 1) else k) = (bif decide (k < sz) && f (T k) then tk_rn f T sz m' (k + 1) else k)
    rw [tk_rn_st m m' (k + 1) (by omega) (by omega)]
theorem tk_go_y {f : Int32 → Bool} {T : Nat → Int32} {sz k : Nat} (hk : k < sz) (hf : f (T k) = true) : tk_go f T sz k = tk_go f T sz (k + 1) := by
  unfold tk_go
  rw [tk_rn_st sz (sz + 1) k (by omega) (by omega)]
  show (bif decide (k < sz) && f (T k) then tk_rn f T sz sz (k + 1) else k) = _
  rw [decide_eq_true hk, hf]
  rfl
theorem tk_go_n {f : Int32 → Bool} {T : Nat → Int32} {sz k : Nat} (hn : k < sz → f (T k) = false) : tk_go f T sz k = k := by
  unfold tk_go
  rw [tk_rn_st sz (sz + 1) k (by omega) (by omega)]
  show (bif decide (k < sz) && f (T k) then tk_rn f T sz sz (k + 1) else k) = k
  by_cases hk : k < sz
  · rw [hn hk, Bool.and_false]
    rfl
  · rw [decide_eq_false hk]
    rfl
def tk_rk (x : Int32) : Int32 := bif pz_let x then x - (Int8.ofInt 96).toInt32 else x - (Int8.ofInt 21).toInt32
def tk_sn (x : Int32) : Bool := decide (x = (Int8.ofInt 40).toInt32) || (decide (x = (Int8.ofInt 41).toInt32) || (decide (x = (Int8.ofInt 59).toInt32) || (decide (x = (Int8.ofInt 61).toInt32) || (decide (x = (Int8.ofInt 60).toInt32) || (decide (x = (Int8.ofInt 43).toInt32) || (decide (x = (Int8.ofInt 45).toInt32) || decide (x = (Int8.ofInt 42).toInt32)))))))
/-- what the first j letters, digits from p on are worth -/
def tk_lv (T : Nat → Int32) (p : Nat) : Nat → Int64
  | 0 => Int64.ofNat 0
  | j + 1 => bif Nat.blt j 8 then am_kl 26 * tk_lv T p j + (tk_rk (T (p + j))).toInt64 else tk_lv T p j
def tk_dv (T : Nat → Int32) (p : Nat) : Nat → Int64
  | 0 => Int64.ofNat 0
  | j + 1 => bif Nat.blt j 4 then am_kl 27 * tk_dv T p j + (T (p + j)).toInt64 - am_kl 28 else tk_dv T p j
/-- behind the token at p; its kind; its worth -/
def tk_en (T : Nat → Int32) (sz p : Nat) : Nat := bif pz_let (T p) then tk_go pz_let T sz p else bif pz_dig (T p) then tk_go pz_dig T sz p else p + 1
def tk_kd (T : Nat → Int32) (sz p : Nat) : Int32 := bif pz_let (T p) then (bif Nat.blt 8 (tk_go pz_let T sz p - p) then 4 else 1) else bif pz_dig (T p) then (bif Nat.blt 4 (tk_go pz_dig T sz p - p) then 4 else 2) else bif tk_sn (T p) then 3 else 4
def tk_vl (T : Nat → Int32) (sz p : Nat) : Int64 := bif pz_let (T p) then tk_lv T p (tk_go pz_let T sz p - p) else bif pz_dig (T p) then tk_dv T p (tk_go pz_dig T sz p - p) else (T p).toInt64
def tk_pl (T : Nat → Int32) (sz : Nat) : Nat → Nat
  | 0 => tk_go tk_bl T sz 0
  | i + 1 => tk_go tk_bl T sz (tk_en T sz (tk_pl T sz i))
variable {h h0 : am_H} {sz n : Nat} {T : Nat → Int32}
theorem tk_sub {a b : Nat} (h : a ≤ b) : nI b - nI a = nI (b - a) := by
  have e : nI b = nI (b - a) + nI a := by
    rw [nI_add, Nat.sub_add_cancel h]
  rw [e, Int32.add_sub_cancel]
theorem tk_blt {a b : Nat} : (Nat.blt a b = true) ↔ a < b := ⟨fun h => ae_blt h, fun h => Nat.ble_eq_true_of_le h⟩
theorem tk_bltf {a b : Nat} (h : ¬ a < b) : Nat.blt a b = false := by
  cases hb : Nat.blt a b with
  | false => rfl
  | true => exact absurd (tk_blt.mp hb) h
theorem tk_rank {Q : am_Q} {x : Int32} (hP : pc_P h) (hQ : Q (some (.int (tk_rk x))) h) : am_call am_cod 2 191 [.int x] h Q := by
  unfold tk_rk at hQ
  refine pz_call (n := 191) (nL := 1) (rt := (some .int)) (rows := am_r191) (d := 1) (by decide +kernel) (by decide +kernel) rfl (by funext pc; rfl) (pc_175 hP) (by exact Nat.le_of_ble_eq_true rfl) ?_
  refine am_goX 2 (show 0 ≤ 8 ∧ h.2.2.2.2 + am_al 190 ≤ 175 ∧ am_call am_cod 1 190 [.int x] h (fun vv h' => pz_S 1 (some .int) am_r191 1 Q 4 [(0, .int x)] (vv.toList ++ []) h') from ⟨by decide, pc_lim hP rfl, pz_letC hP ?_⟩)
  cases e : pz_let x with
  | true =>
    rw [e] at hQ
    refine am_goX 1 (show ((pz_b true) = 0 → pz_S 1 (some .int) am_r191 1 Q 14 [(0, .int x)] [] h) ∧ (¬ ((pz_b true) = 0) → pz_S 1 (some .int) am_r191 1 Q 7 [(0, .int x)] [] h) from ⟨fun hz => absurd hz (by decide), fun _ => ?_⟩)
    exact am_goX 5 (show (∃ ty, (some .int) = some ty ∧ narrow ty (.int ((x - (Int8.ofInt 96).toInt32))) = .int ((x - (Int8.ofInt 96).toInt32))) ∧ h.2.2.2.2 = 175 ∧ _ from ⟨⟨.int, rfl, rfl⟩, pc_175 hP, hQ⟩)
  | false =>
    rw [e] at hQ
    refine am_goX 1 (show ((pz_b false) = 0 → pz_S 1 (some .int) am_r191 1 Q 14 [(0, .int x)] [] h) ∧ (¬ ((pz_b false) = 0) → pz_S 1 (some .int) am_r191 1 Q 7 [(0, .int x)] [] h) from ⟨fun _ => ?_, fun hz => absurd rfl hz⟩)
    exact am_goX 4 (show (∃ ty, (some .int) = some ty ∧ narrow ty (.int ((x - (Int8.ofInt 21).toInt32))) = .int ((x - (Int8.ofInt 21).toInt32))) ∧ h.2.2.2.2 = 175 ∧ _ from ⟨⟨.int, rfl, rfl⟩, pc_175 hP, hQ⟩)
theorem tk_sgof {Q : am_Q} {x : Int32} (hP : pc_P h) (hQ : Q (some (.int (pz_b (tk_sn x)))) h) : am_call am_cod 1 193 [.int x] h Q := by
  refine pz_call (n := 193) (nL := 1) (rt := (some .boolean)) (rows := am_r193) (d := 0) (by decide +kernel) (by decide +kernel) rfl (by funext pc; rfl) (pc_175 hP) (by exact Nat.le_of_ble_eq_true rfl) ?_
  have k1 : tk_sn x = true → pz_S 1 (some .boolean) am_r193 0 Q 48 [(0, .int x)] [] h := ?_
  rotate_left
  · intro e
    rw [e] at hQ
    exact am_goX 3 (show (∃ ty, (some .boolean) = some ty ∧ narrow ty (.int ((Int32.ofInt 1))) = .int ((Int32.ofInt 1))) ∧ h.2.2.2.2 = 175 ∧ _ from ⟨⟨.boolean, rfl, rfl⟩, pc_175 hP, hQ⟩)
  refine am_goX 3 (show (x = (Int8.ofInt 40).toInt32 → pz_S 1 (some .boolean) am_r193 0 Q 48 [(0, .int x)] [] h) ∧ (¬ (x = (Int8.ofInt 40).toInt32) → pz_S 1 (some .boolean) am_r193 0 Q 6 [(0, .int x)] [] h) from ⟨fun hc => ?_, fun hc => ?_⟩)
  · exact k1 (by unfold tk_sn; simp [hc])
  have c0 := hc
  clear hc
  refine am_goX 3 (show (x = (Int8.ofInt 41).toInt32 → pz_S 1 (some .boolean) am_r193 0 Q 48 [(0, .int x)] [] h) ∧ (¬ (x = (Int8.ofInt 41).toInt32) → pz_S 1 (some .boolean) am_r193 0 Q 12 [(0, .int x)] [] h) from ⟨fun hc => ?_, fun hc => ?_⟩)
  · exact k1 (by unfold tk_sn; simp [hc])
  have c1 := hc
  clear hc
  refine am_goX 3 (show (x = (Int8.ofInt 59).toInt32 → pz_S 1 (some .boolean) am_r193 0 Q 48 [(0, .int x)] [] h) ∧ (¬ (x = (Int8.ofInt 59).toInt32) → pz_S 1 (some .boolean) am_r193 0 Q 18 [(0, .int x)] [] h) from ⟨fun hc => ?_, fun hc => ?_⟩)
  · exact k1 (by unfold tk_sn; simp [hc])
  have c2 := hc
  clear hc
  refine am_goX 3 (show (x = (Int8.ofInt 61).toInt32 → pz_S 1 (some .boolean) am_r193 0 Q 48 [(0, .int x)] [] h) ∧ (¬ (x = (Int8.ofInt 61).toInt32) → pz_S 1 (some .boolean) am_r193 0 Q 24 [(0, .int x)] [] h) from ⟨fun hc => ?_, fun hc => ?_⟩)
  · exact k1 (by unfold tk_sn; simp [hc])
  have c3 := hc
  clear hc
  refine am_goX 3 (show (x = (Int8.ofInt 60).toInt32 → pz_S 1 (some .boolean) am_r193 0 Q 48 [(0, .int x)] [] h) ∧ (¬ (x = (Int8.ofInt 60).toInt32) → pz_S 1 (some .boolean) am_r193 0 Q 30 [(0, .int x)] [] h) from ⟨fun hc => ?_, fun hc => ?_⟩)
  · exact k1 (by unfold tk_sn; simp [hc])
  have c4 := hc
  clear hc
  refine am_goX 3 (show (x = (Int8.ofInt 43).toInt32 → pz_S 1 (some .boolean) am_r193 0 Q 48 [(0, .int x)] [] h) ∧ (¬ (x = (Int8.ofInt 43).toInt32) → pz_S 1 (some .boolean) am_r193 0 Q 36 [(0, .int x)] [] h) from ⟨fun hc => ?_, fun hc => ?_⟩)
  · exact k1 (by unfold tk_sn; simp [hc])
  have c5 := hc
  clear hc
  refine am_goX 3 (show (x = (Int8.ofInt 45).toInt32 → pz_S 1 (some .boolean) am_r193 0 Q 48 [(0, .int x)] [] h) ∧ (¬ (x = (Int8.ofInt 45).toInt32) → pz_S 1 (some .boolean) am_r193 0 Q 42 [(0, .int x)] [] h) from ⟨fun hc => ?_, fun hc => ?_⟩)
  · exact k1 (by unfold tk_sn; simp [hc])
  have c6 := hc
  clear hc
  refine am_goX 3 (show (¬ x = (Int8.ofInt 42).toInt32 → pz_S 1 (some .boolean) am_r193 0 Q 52 [(0, .int x)] [] h) ∧ (¬ ¬ x = (Int8.ofInt 42).toInt32 → pz_S 1 (some .boolean) am_r193 0 Q 48 [(0, .int x)] [] h) from ⟨fun hc => ?_, fun hc => ?_⟩)
  rotate_left
  · exact k1 (by unfold tk_sn; simp [Decidable.not_not.mp hc])
  have e : tk_sn x = false := by
    unfold tk_sn
    rw [decide_eq_false c0, decide_eq_false c1, decide_eq_false c2, decide_eq_false c3, decide_eq_false c4, decide_eq_false c5, decide_eq_false c6, decide_eq_false hc]
    rfl
  rw [e] at hQ
  exact am_goX 2 (show (∃ ty, (some .boolean) = some ty ∧ narrow ty (.int ((Int32.ofInt 0))) = .int ((Int32.ofInt 0))) ∧ h.2.2.2.2 = 175 ∧ _ from ⟨⟨.boolean, rfl, rfl⟩, pc_175 hP, hQ⟩)
/-- n tokens are cut -/
def tx (h0 : am_H) (sz : Nat) (T : Nat → Int32) (n : Nat) (h : am_H) : Prop := ct h0 sz h ∧ (∀ q, h.1 155 q = T q) ∧ ∀ j, j < n → h.1 157 j = nI (tk_pl T sz j) ∧ h.1 156 j = tk_kd T sz (tk_pl T sz j) ∧ h.2.1 158 j = tk_vl T sz (tk_pl T sz j) ∧ tk_pl T sz j < sz
theorem tx_w {o k : Nat} {v : Int32} (q : tx h0 sz T n h) (ho : o = 156 ∨ o = 157) (hk : n ≤ k) (hk2 : k ≤ 1001) (hv : ∀ s ∈ ag_sg o, ag_seg s k v) : tx h0 sz T n (am_wI h o k v) := by
  refine ⟨ct_w q.1 (pz_Mtk (by omega) hk2) (by omega) (by omega) hv, fun p => ?_, fun j hj => ?_⟩
  · rw [em_wn h _ (by omega)]
    exact q.2.1 p
  · obtain ⟨q1, q2, q3, q4⟩ := q.2.2 j hj
    refine ⟨?_, ?_, q3, q4⟩
    · rw [em_wn h _ (by omega)]
      exact q1
    · rw [em_wn h _ (by omega)]
      exact q2
theorem tx_v {p : Nat} {v : Int64} (q : tx h0 sz T n h) (hn : n ≤ 1001) (e1 : h.1 157 n = nI p) (e2 : h.1 156 n = tk_kd T sz p) (e3 : v = tk_vl T sz p) (e4 : p = tk_pl T sz n) (e5 : p < sz) : tx h0 sz T (n + 1) (am_wL h 158 n v) := by
  refine ⟨ct_wl q.1 (pz_Mtk (Or.inr (Or.inr rfl)) hn), q.2.1, fun j hj => ?_⟩
  by_cases ej : j = n
  · subst ej
    rw [← e4]
    exact ⟨e1, e2, (show (if 158 = 158 ∧ j = j then v else h.2.1 158 j) = _ from (if_pos ⟨rfl, rfl⟩).trans e3), e5⟩
  · obtain ⟨q1, q2, q3, q4⟩ := q.2.2 j (by omega)
    exact ⟨q1, q2, (show (if 158 = 158 ∧ j = n then v else h.2.1 158 j) = _ from (if_neg (fun w => ej w.2)).trans q3), q4⟩
/-- behind a token -/
def tk_265 (Q : am_Q) (h0 : am_H) (sz : Nat) (T : Nat → Int32) (n k0 : Nat) : Prop := ∀ (k : Nat) (v : Int64) (h1 : am_H), k0 + 1 ≤ k → k ≤ sz → tx h0 sz T n h1 → h1.1 157 n = nI k0 → h1.1 156 n = tk_kd T sz k0 → v = tk_vl T sz k0 → k = tk_en T sz k0 → pz_S 7 none am_r189 2 Q 265 [(5, .long v), (2, .int (nI k)), (1, .int (nI n)), (0, .ref 154)] [] h1
theorem tk_cl_e {Q : am_Q} {k0 : Nat} (hgl : pz_let (T k0) = true) (hz : sz ≤ 1000) (hn : n ≤ k0) (h265 : tk_265 Q h0 sz T n k0) (hl : tx h0 sz T n h) (hpl : h.1 157 n = nI k0) {k : Nat} {v : Int64} (hk : k0 + 1 ≤ k) (hks : k ≤ sz) (hv : v = tk_lv T k0 (k - k0)) (hq : tk_go pz_let T sz k0 = k) : pz_S 7 none am_r189 2 Q 129 [(5, .long v), (4, .int (nI k0)), (2, .int (nI k)), (1, .int (nI n)), (0, .ref 154)] [] h := by
  have hP := hl.1.1
  have ev : v = tk_vl T sz k0 := by
    unfold tk_vl
    rw [hgl]
    show v = tk_lv T k0 (tk_go pz_let T sz k0 - k0)
    rw [hq]
    exact hv
  have ee : k = tk_en T sz k0 := by
    unfold tk_en
    rw [hgl]
    exact hq.symm
  refine am_goX 2 (show am_sh h 154 = some (11, 0) ∧ pz_S 7 none am_r189 2 Q 133 [(5, .long v), (4, .int (nI k0)), (2, .int (nI k)), (1, .int (nI n)), (0, .ref 154)] [am_rf (h.2.2.1 154 4)] h from ⟨pc_154 hP, ?_⟩)
  rw [pc_r4 hP]
  refine am_goX 5 (show pz_S 7 none am_r189 2 Q 140 [(5, .long v), (4, .int (nI k0)), (2, .int (nI k)), (1, .int (nI n)), (0, .ref 154)] [.int (Int8.ofInt 8).toInt32, .int ((nI k) - (nI k0)), .int (nI n), .ref 156] h from ?_)
  rw [tk_sub (by omega)]
  refine am_goX 1 (show ((nI (k - k0)) ≤ (Int8.ofInt 8).toInt32 → pz_S 7 none am_r189 2 Q 147 [(5, .long v), (4, .int (nI k0)), (2, .int (nI k)), (1, .int (nI n)), (0, .ref 154)] [.int (nI n), .ref 156] h) ∧ (¬ ((nI (k - k0)) ≤ (Int8.ofInt 8).toInt32) → pz_S 7 none am_r189 2 Q 143 [(5, .long v), (4, .int (nI k0)), (2, .int (nI k)), (1, .int (nI n)), (0, .ref 154)] [.int (nI n), .ref 156] h) from ⟨fun hc => ?_, fun hc => ?_⟩)
  · refine am_goX 2 (show ∃ jj nn : Nat, am_so h 156 = some (13, nn) ∧ jj < nn ∧ (nI n) = nI jj ∧ pz_S 7 none am_r189 2 Q 149 [(5, .long v), (4, .int (nI k0)), (2, .int (nI k)), (1, .int (nI n)), (0, .ref 154)] [] (am_wI h 156 jj ((Int32.ofInt 1))) from ⟨n, 1002, pc_w156 hP, by omega, rfl, ?_⟩)
    have hlt : ¬ k - k0 > 8 := by
      have hc1 :  nI (k - k0) ≤ nI 8 := hc
      rw [nI_leI (by omega) (by omega)] at hc1
      omega
    have ek : Int32.ofInt 1 = tk_kd T sz k0 := by
      unfold tk_kd
      rw [hgl]
      show _ = bif Nat.blt 8 (tk_go pz_let T sz k0 - k0) then 4 else 1
      rw [hq, tk_bltf hlt]
      rfl
    have l1 := tx_w (o := 156) (k := n) (v := Int32.ofInt 1) hl (Or.inl rfl) (Nat.le_refl _) (by omega) (pz_sga pz_sg156 (by decide) (by decide))
    have e1 : (am_wI h 156 n (Int32.ofInt 1)).1 157 n = nI k0 := by rw [em_wn h _ (by omega)]; exact hpl
    have e2 : (am_wI h 156 n (Int32.ofInt 1)).1 156 n = tk_kd T sz k0 := (em_we h 156 n _).trans ek
    generalize am_wI h 156 n (Int32.ofInt 1) = h1 at l1 e1 e2 ⊢
    refine am_goX 1 (show pz_S 7 none am_r189 2 Q 265 [(5, .long v), (4, .int (nI k0)), (2, .int (nI k)), (1, .int (nI n)), (0, .ref 154)] [] h1 from ?_)
    exact sv_S sv_189 (by intro q hq; simp only [List.mem_cons, List.not_mem_nil, or_false] at hq; rcases hq with rfl | rfl | rfl | rfl <;> rfl) (h265 k v h1 hk hks l1 e1 e2 ev ee)
  · refine am_goX 3 (show ∃ jj nn : Nat, am_so h 156 = some (13, nn) ∧ jj < nn ∧ (nI n) = nI jj ∧ pz_S 7 none am_r189 2 Q 149 [(5, .long v), (4, .int (nI k0)), (2, .int (nI k)), (1, .int (nI n)), (0, .ref 154)] [] (am_wI h 156 jj ((Int32.ofInt 4))) from ⟨n, 1002, pc_w156 hP, by omega, rfl, ?_⟩)
    have hlt :  k - k0 > 8 := by
      have hc1 : ¬ nI (k - k0) ≤ nI 8 := hc
      rw [nI_leI (by omega) (by omega)] at hc1
      omega
    have ek : Int32.ofInt 4 = tk_kd T sz k0 := by
      unfold tk_kd
      rw [hgl]
      show _ = bif Nat.blt 8 (tk_go pz_let T sz k0 - k0) then 4 else 1
      rw [hq, tk_blt.mpr hlt]
      rfl
    have l1 := tx_w (o := 156) (k := n) (v := Int32.ofInt 4) hl (Or.inl rfl) (Nat.le_refl _) (by omega) (pz_sga pz_sg156 (by decide) (by decide))
    have e1 : (am_wI h 156 n (Int32.ofInt 4)).1 157 n = nI k0 := by rw [em_wn h _ (by omega)]; exact hpl
    have e2 : (am_wI h 156 n (Int32.ofInt 4)).1 156 n = tk_kd T sz k0 := (em_we h 156 n _).trans ek
    generalize am_wI h 156 n (Int32.ofInt 4) = h1 at l1 e1 e2 ⊢
    refine am_goX 1 (show pz_S 7 none am_r189 2 Q 265 [(5, .long v), (4, .int (nI k0)), (2, .int (nI k)), (1, .int (nI n)), (0, .ref 154)] [] h1 from ?_)
    exact sv_S sv_189 (by intro q hq; simp only [List.mem_cons, List.not_mem_nil, or_false] at hq; rcases hq with rfl | rfl | rfl | rfl <;> rfl) (h265 k v h1 hk hks l1 e1 e2 ev ee)
theorem tk_cl_l {Q : am_Q} {k0 : Nat} (hgl : pz_let (T k0) = true) (hz : sz ≤ 1000) (hn : n ≤ k0) (h265 : tk_265 Q h0 sz T n k0) (hl : tx h0 sz T n h) (hpl : h.1 157 n = nI k0) : ∀ (m k : Nat) (v : Int64), sz ≤ k + m → k0 + 1 ≤ k → k ≤ sz → v = tk_lv T k0 (k - k0) → tk_go pz_let T sz k0 = tk_go pz_let T sz k → pz_S 7 none am_r189 2 Q 70 [(5, .long v), (4, .int (nI k0)), (2, .int (nI k)), (1, .int (nI n)), (0, .ref 154)] [] h := by
  have hP := hl.1.1
  intro m
  induction m with
  | zero =>
    intro k v hm hk hks hv hq
    refine am_goX 3 (show am_sh h 154 = some (11, 0) ∧ pz_S 7 none am_r189 2 Q 75 [(5, .long v), (4, .int (nI k0)), (2, .int (nI k)), (1, .int (nI n)), (0, .ref 154)] [.int (h.1 154 3), .int (nI k)] h from ⟨pc_154 hP, ?_⟩)
    rw [hl.1.2.2.1]
    refine am_goX 1 (show ((nI sz) ≤ (nI k) → pz_S 7 none am_r189 2 Q 129 [(5, .long v), (4, .int (nI k0)), (2, .int (nI k)), (1, .int (nI n)), (0, .ref 154)] [] h) ∧ (¬ ((nI sz) ≤ (nI k)) → pz_S 7 none am_r189 2 Q 78 [(5, .long v), (4, .int (nI k0)), (2, .int (nI k)), (1, .int (nI n)), (0, .ref 154)] [] h) from ⟨fun hc => ?_, fun hc => ?_⟩)
    · exact tk_cl_e hgl hz hn h265 hl hpl hk hks hv (by rw [hq]; exact tk_go_n (fun w => absurd w (by omega)))
    · exact absurd (nI_le (by omega) (by omega)) hc
  | succ m ih =>
    intro k v hm hk hks hv hq
    refine am_goX 3 (show am_sh h 154 = some (11, 0) ∧ pz_S 7 none am_r189 2 Q 75 [(5, .long v), (4, .int (nI k0)), (2, .int (nI k)), (1, .int (nI n)), (0, .ref 154)] [.int (h.1 154 3), .int (nI k)] h from ⟨pc_154 hP, ?_⟩)
    rw [hl.1.2.2.1]
    refine am_goX 1 (show ((nI sz) ≤ (nI k) → pz_S 7 none am_r189 2 Q 129 [(5, .long v), (4, .int (nI k0)), (2, .int (nI k)), (1, .int (nI n)), (0, .ref 154)] [] h) ∧ (¬ ((nI sz) ≤ (nI k)) → pz_S 7 none am_r189 2 Q 78 [(5, .long v), (4, .int (nI k0)), (2, .int (nI k)), (1, .int (nI n)), (0, .ref 154)] [] h) from ⟨fun hc => ?_, fun hc => ?_⟩)
    · have hge : sz ≤ k := by
        rw [nI_leI (by omega) (by omega)] at hc
        exact hc
      exact tk_cl_e hgl hz hn h265 hl hpl hk hks hv (by rw [hq]; exact tk_go_n (fun w => absurd w (by omega)))
    have hks0 : k < sz := by
      rcases Nat.lt_or_ge k sz with w | w
      · exact w
      · exact absurd (nI_le w (by omega)) hc
    clear hc
    refine am_goX 2 (show am_sh h 154 = some (11, 0) ∧ pz_S 7 none am_r189 2 Q 82 [(5, .long v), (4, .int (nI k0)), (2, .int (nI k)), (1, .int (nI n)), (0, .ref 154)] [am_rf (h.2.2.1 154 1)] h from ⟨pc_154 hP, ?_⟩)
    rw [pc_r1 hP]
    refine am_goX 2 (show ∃ jj nn : Nat, am_sh h 155 = some (13, nn) ∧ jj < nn ∧ (nI k) = nI jj ∧ pz_S 7 none am_r189 2 Q 84 [(5, .long v), (4, .int (nI k0)), (2, .int (nI k)), (1, .int (nI n)), (0, .ref 154)] [.int (h.1 155 jj)] h from ⟨k, 1000, pc_155 hP, by omega, rfl, ?_⟩)
    rw [hl.2.1 k]
    refine am_goX 1 (show 0 ≤ 8 ∧ h.2.2.2.2 + am_al 190 ≤ 175 ∧ am_call am_cod 2 190 [.int (T k)] h (fun vv h' => pz_S 7 none am_r189 2 Q 87 [(5, .long v), (4, .int (nI k0)), (2, .int (nI k)), (1, .int (nI n)), (0, .ref 154)] (vv.toList ++ []) h') from ⟨by decide, pc_lim hP rfl, am_call.up (pz_letC hP ?_) (by decide)⟩)
    cases eg : pz_let (T k) with
    | false =>
      refine am_goX 1 (show ((pz_b false) = 0 → pz_S 7 none am_r189 2 Q 129 [(5, .long v), (4, .int (nI k0)), (2, .int (nI k)), (1, .int (nI n)), (0, .ref 154)] [] h) ∧ (¬ ((pz_b false) = 0) → pz_S 7 none am_r189 2 Q 90 [(5, .long v), (4, .int (nI k0)), (2, .int (nI k)), (1, .int (nI n)), (0, .ref 154)] [] h) from ⟨fun _ => ?_, fun hz => absurd rfl hz⟩)
      exact tk_cl_e hgl hz hn h265 hl hpl hk hks hv (by rw [hq]; exact tk_go_n (fun w => eg))
    | true =>
      refine am_goX 1 (show ((pz_b true) = 0 → pz_S 7 none am_r189 2 Q 129 [(5, .long v), (4, .int (nI k0)), (2, .int (nI k)), (1, .int (nI n)), (0, .ref 154)] [] h) ∧ (¬ ((pz_b true) = 0) → pz_S 7 none am_r189 2 Q 90 [(5, .long v), (4, .int (nI k0)), (2, .int (nI k)), (1, .int (nI n)), (0, .ref 154)] [] h) from ⟨fun hz => absurd hz (by decide), fun _ => ?_⟩)
      refine am_goX 4 (show pz_S 7 none am_r189 2 Q 96 [(5, .long v), (4, .int (nI k0)), (2, .int (nI k)), (1, .int (nI n)), (0, .ref 154)] [.int (Int8.ofInt 8).toInt32, .int ((nI k) - (nI k0))] h from ?_)
      rw [tk_sub (by omega)]
      refine am_goX 1 (show ((Int8.ofInt 8).toInt32 ≤ (nI (k - k0)) → pz_S 7 none am_r189 2 Q 119 [(5, .long v), (4, .int (nI k0)), (2, .int (nI k)), (1, .int (nI n)), (0, .ref 154)] [] h) ∧ (¬ ((Int8.ofInt 8).toInt32 ≤ (nI (k - k0))) → pz_S 7 none am_r189 2 Q 99 [(5, .long v), (4, .int (nI k0)), (2, .int (nI k)), (1, .int (nI n)), (0, .ref 154)] [] h) from ⟨fun hc => ?_, fun hc => ?_⟩)
      · refine am_goX 4 (show 5 + 1 < 7 ∧ 2 < 7 ∧ pz_S 7 none am_r189 2 Q 70 [(2, .int ((nI k) + Int32.ofInt 1)), (5, .long v), (4, .int (nI k0)), (1, .int (nI n)), (0, .ref 154)] [] h from ⟨by decide, by decide, ?_⟩)
        rw [xw_i1]
        have hj : ¬ k - k0 < 8 := by
          have hc1 :  nI 8 ≤ nI (k - k0) := hc
          rw [nI_leI (by omega) (by omega)] at hc1
          omega
        have hv1 : v = tk_lv T k0 (k + 1 - k0) := by
          rw [show k + 1 - k0 = (k - k0) + 1 by omega]
          show _ = bif Nat.blt (k - k0) 8 then _ else _
          rw [tk_bltf hj, ← hv]
          rfl
        exact sv_S sv_189 (by intro q hq; simp only [List.mem_cons, List.not_mem_nil, or_false] at hq; rcases hq with rfl | rfl | rfl | rfl | rfl <;> rfl) (ih (k + 1) _ (by omega) (by omega) (by omega) hv1 (hq.trans (tk_go_y hks0 eg)))
      · refine am_goX 5 (show am_sh h 154 = some (11, 0) ∧ pz_S 7 none am_r189 2 Q 109 [(5, .long v), (4, .int (nI k0)), (2, .int (nI k)), (1, .int (nI n)), (0, .ref 154)] [am_rf (h.2.2.1 154 1), .long ((am_kl 26) * v)] h from ⟨pc_154 hP, ?_⟩)
        rw [pc_r1 hP]
        refine am_goX 2 (show ∃ jj nn : Nat, am_sh h 155 = some (13, nn) ∧ jj < nn ∧ (nI k) = nI jj ∧ pz_S 7 none am_r189 2 Q 111 [(5, .long v), (4, .int (nI k0)), (2, .int (nI k)), (1, .int (nI n)), (0, .ref 154)] [.int (h.1 155 jj), .long ((am_kl 26) * v)] h from ⟨k, 1000, pc_155 hP, by omega, rfl, ?_⟩)
        rw [hl.2.1 k]
        refine am_goX 1 (show 2 ≤ 8 ∧ h.2.2.2.2 + am_al 191 ≤ 175 ∧ am_call am_cod 2 191 [.int (T k)] h (fun vv h' => pz_S 7 none am_r189 2 Q 114 [(5, .long v), (4, .int (nI k0)), (2, .int (nI k)), (1, .int (nI n)), (0, .ref 154)] (vv.toList ++ [.long ((am_kl 26) * v)]) h') from ⟨by decide, pc_lim hP rfl, tk_rank hP ?_⟩)
        refine am_goX 6 (show 5 + 1 < 7 ∧ 2 < 7 ∧ pz_S 7 none am_r189 2 Q 70 [(2, .int ((nI k) + Int32.ofInt 1)), (5, .long (((am_kl 26) * v) + ((tk_rk (T k))).toInt64)), (4, .int (nI k0)), (1, .int (nI n)), (0, .ref 154)] [] h from ⟨by decide, by decide, ?_⟩)
        rw [xw_i1]
        have hj :  k - k0 < 8 := by
          have hc1 : ¬ nI 8 ≤ nI (k - k0) := hc
          rw [nI_leI (by omega) (by omega)] at hc1
          omega
        have hv1 : (((am_kl 26) * v) + ((tk_rk (T k))).toInt64) = tk_lv T k0 (k + 1 - k0) := by
          rw [show k + 1 - k0 = (k - k0) + 1 by omega]
          show _ = bif Nat.blt (k - k0) 8 then _ else _
          rw [tk_blt.mpr hj, show k0 + (k - k0) = k by omega, ← hv]
          rfl
        exact sv_S sv_189 (by intro q hq; simp only [List.mem_cons, List.not_mem_nil, or_false] at hq; rcases hq with rfl | rfl | rfl | rfl | rfl <;> rfl) (ih (k + 1) _ (by omega) (by omega) (by omega) hv1 (hq.trans (tk_go_y hks0 eg)))
theorem tk_cl {Q : am_Q} {k k0 : Nat} {v : Int64} (ek0 : k0 = k) (hgl : pz_let (T k0) = true) (hz : sz ≤ 1000) (hn : n ≤ k0) (h265 : tk_265 Q h0 sz T n k0) (hl : tx h0 sz T n h) (hpl : h.1 157 n = nI k0) (hks0 : k < sz) (hv : v = tk_lv T k0 (k - k0)) : pz_S 7 none am_r189 2 Q 70 [(5, .long v), (4, .int (nI k0)), (2, .int (nI k)), (1, .int (nI n)), (0, .ref 154)] [] h := by
  have hP := hl.1.1
  have hge : k0 ≤ k := by omega
  have hgx := hgl
  rw [ek0] at hgx
  refine am_goX 3 (show am_sh h 154 = some (11, 0) ∧ pz_S 7 none am_r189 2 Q 75 [(5, .long v), (4, .int (nI k0)), (2, .int (nI k)), (1, .int (nI n)), (0, .ref 154)] [.int (h.1 154 3), .int (nI k)] h from ⟨pc_154 hP, ?_⟩)
  rw [hl.1.2.2.1]
  refine am_goX 1 (show ((nI sz) ≤ (nI k) → pz_S 7 none am_r189 2 Q 129 [(5, .long v), (4, .int (nI k0)), (2, .int (nI k)), (1, .int (nI n)), (0, .ref 154)] [] h) ∧ (¬ ((nI sz) ≤ (nI k)) → pz_S 7 none am_r189 2 Q 78 [(5, .long v), (4, .int (nI k0)), (2, .int (nI k)), (1, .int (nI n)), (0, .ref 154)] [] h) from ⟨fun hz => absurd hz (nI_ge hks0 (by omega)), fun _ => ?_⟩)
  refine am_goX 2 (show am_sh h 154 = some (11, 0) ∧ pz_S 7 none am_r189 2 Q 82 [(5, .long v), (4, .int (nI k0)), (2, .int (nI k)), (1, .int (nI n)), (0, .ref 154)] [am_rf (h.2.2.1 154 1)] h from ⟨pc_154 hP, ?_⟩)
  rw [pc_r1 hP]
  refine am_goX 2 (show ∃ jj nn : Nat, am_sh h 155 = some (13, nn) ∧ jj < nn ∧ (nI k) = nI jj ∧ pz_S 7 none am_r189 2 Q 84 [(5, .long v), (4, .int (nI k0)), (2, .int (nI k)), (1, .int (nI n)), (0, .ref 154)] [.int (h.1 155 jj)] h from ⟨k, 1000, pc_155 hP, by omega, rfl, ?_⟩)
  rw [hl.2.1 k]
  refine am_goX 1 (show 0 ≤ 8 ∧ h.2.2.2.2 + am_al 190 ≤ 175 ∧ am_call am_cod 2 190 [.int (T k)] h (fun vv h' => pz_S 7 none am_r189 2 Q 87 [(5, .long v), (4, .int (nI k0)), (2, .int (nI k)), (1, .int (nI n)), (0, .ref 154)] (vv.toList ++ []) h') from ⟨by decide, pc_lim hP rfl, am_call.up (pz_letC hP ?_) (by decide)⟩)
  rw [hgx]
  refine am_goX 1 (show ((pz_b true) = 0 → pz_S 7 none am_r189 2 Q 129 [(5, .long v), (4, .int (nI k0)), (2, .int (nI k)), (1, .int (nI n)), (0, .ref 154)] [] h) ∧ (¬ ((pz_b true) = 0) → pz_S 7 none am_r189 2 Q 90 [(5, .long v), (4, .int (nI k0)), (2, .int (nI k)), (1, .int (nI n)), (0, .ref 154)] [] h) from ⟨fun hz => absurd hz (by decide), fun _ => ?_⟩)
  have eg : pz_let (T k) = true := hgx
  refine am_goX 4 (show pz_S 7 none am_r189 2 Q 96 [(5, .long v), (4, .int (nI k0)), (2, .int (nI k)), (1, .int (nI n)), (0, .ref 154)] [.int (Int8.ofInt 8).toInt32, .int ((nI k) - (nI k0))] h from ?_)
  rw [tk_sub (by omega)]
  refine am_goX 1 (show ((Int8.ofInt 8).toInt32 ≤ (nI (k - k0)) → pz_S 7 none am_r189 2 Q 119 [(5, .long v), (4, .int (nI k0)), (2, .int (nI k)), (1, .int (nI n)), (0, .ref 154)] [] h) ∧ (¬ ((Int8.ofInt 8).toInt32 ≤ (nI (k - k0))) → pz_S 7 none am_r189 2 Q 99 [(5, .long v), (4, .int (nI k0)), (2, .int (nI k)), (1, .int (nI n)), (0, .ref 154)] [] h) from ⟨fun hc => ?_, fun hc => ?_⟩)
  · refine am_goX 4 (show 5 + 1 < 7 ∧ 2 < 7 ∧ pz_S 7 none am_r189 2 Q 70 [(2, .int ((nI k) + Int32.ofInt 1)), (5, .long v), (4, .int (nI k0)), (1, .int (nI n)), (0, .ref 154)] [] h from ⟨by decide, by decide, ?_⟩)
    rw [xw_i1]
    have hj : ¬ k - k0 < 8 := by
      have hc1 :  nI 8 ≤ nI (k - k0) := hc
      rw [nI_leI (by omega) (by omega)] at hc1
      omega
    have hv1 : v = tk_lv T k0 (k + 1 - k0) := by
      rw [show k + 1 - k0 = (k - k0) + 1 by omega]
      show _ = bif Nat.blt (k - k0) 8 then _ else _
      rw [tk_bltf hj, ← hv]
      rfl
    exact sv_S sv_189 (by intro q hq; simp only [List.mem_cons, List.not_mem_nil, or_false] at hq; rcases hq with rfl | rfl | rfl | rfl | rfl <;> rfl) (tk_cl_l hgl hz hn h265 hl hpl sz (k + 1) _ (by omega) (by omega) (by omega) hv1 (by rw [ek0]; exact tk_go_y hks0 eg))
  · refine am_goX 5 (show am_sh h 154 = some (11, 0) ∧ pz_S 7 none am_r189 2 Q 109 [(5, .long v), (4, .int (nI k0)), (2, .int (nI k)), (1, .int (nI n)), (0, .ref 154)] [am_rf (h.2.2.1 154 1), .long ((am_kl 26) * v)] h from ⟨pc_154 hP, ?_⟩)
    rw [pc_r1 hP]
    refine am_goX 2 (show ∃ jj nn : Nat, am_sh h 155 = some (13, nn) ∧ jj < nn ∧ (nI k) = nI jj ∧ pz_S 7 none am_r189 2 Q 111 [(5, .long v), (4, .int (nI k0)), (2, .int (nI k)), (1, .int (nI n)), (0, .ref 154)] [.int (h.1 155 jj), .long ((am_kl 26) * v)] h from ⟨k, 1000, pc_155 hP, by omega, rfl, ?_⟩)
    rw [hl.2.1 k]
    refine am_goX 1 (show 2 ≤ 8 ∧ h.2.2.2.2 + am_al 191 ≤ 175 ∧ am_call am_cod 2 191 [.int (T k)] h (fun vv h' => pz_S 7 none am_r189 2 Q 114 [(5, .long v), (4, .int (nI k0)), (2, .int (nI k)), (1, .int (nI n)), (0, .ref 154)] (vv.toList ++ [.long ((am_kl 26) * v)]) h') from ⟨by decide, pc_lim hP rfl, tk_rank hP ?_⟩)
    refine am_goX 6 (show 5 + 1 < 7 ∧ 2 < 7 ∧ pz_S 7 none am_r189 2 Q 70 [(2, .int ((nI k) + Int32.ofInt 1)), (5, .long (((am_kl 26) * v) + ((tk_rk (T k))).toInt64)), (4, .int (nI k0)), (1, .int (nI n)), (0, .ref 154)] [] h from ⟨by decide, by decide, ?_⟩)
    rw [xw_i1]
    have hj :  k - k0 < 8 := by
      have hc1 : ¬ nI 8 ≤ nI (k - k0) := hc
      rw [nI_leI (by omega) (by omega)] at hc1
      omega
    have hv1 : (((am_kl 26) * v) + ((tk_rk (T k))).toInt64) = tk_lv T k0 (k + 1 - k0) := by
      rw [show k + 1 - k0 = (k - k0) + 1 by omega]
      show _ = bif Nat.blt (k - k0) 8 then _ else _
      rw [tk_blt.mpr hj, show k0 + (k - k0) = k by omega, ← hv]
      rfl
    exact sv_S sv_189 (by intro q hq; simp only [List.mem_cons, List.not_mem_nil, or_false] at hq; rcases hq with rfl | rfl | rfl | rfl | rfl <;> rfl) (tk_cl_l hgl hz hn h265 hl hpl sz (k + 1) _ (by omega) (by omega) (by omega) hv1 (by rw [ek0]; exact tk_go_y hks0 eg))
theorem tk_cd_e {Q : am_Q} {k0 : Nat} (hgl : pz_let (T k0) = false) (hgd : pz_dig (T k0) = true) (hz : sz ≤ 1000) (hn : n ≤ k0) (h265 : tk_265 Q h0 sz T n k0) (hl : tx h0 sz T n h) (hpl : h.1 157 n = nI k0) {k : Nat} {v : Int64} (hk : k0 + 1 ≤ k) (hks : k ≤ sz) (hv : v = tk_dv T k0 (k - k0)) (hq : tk_go pz_dig T sz k0 = k) : pz_S 7 none am_r189 2 Q 218 [(5, .long v), (4, .int (nI k0)), (2, .int (nI k)), (1, .int (nI n)), (0, .ref 154)] [] h := by
  have hP := hl.1.1
  have ev : v = tk_vl T sz k0 := by
    unfold tk_vl
    rw [hgl, hgd]
    show v = tk_dv T k0 (tk_go pz_dig T sz k0 - k0)
    rw [hq]
    exact hv
  have ee : k = tk_en T sz k0 := by
    unfold tk_en
    rw [hgl, hgd]
    exact hq.symm
  refine am_goX 2 (show am_sh h 154 = some (11, 0) ∧ pz_S 7 none am_r189 2 Q 222 [(5, .long v), (4, .int (nI k0)), (2, .int (nI k)), (1, .int (nI n)), (0, .ref 154)] [am_rf (h.2.2.1 154 4)] h from ⟨pc_154 hP, ?_⟩)
  rw [pc_r4 hP]
  refine am_goX 5 (show pz_S 7 none am_r189 2 Q 228 [(5, .long v), (4, .int (nI k0)), (2, .int (nI k)), (1, .int (nI n)), (0, .ref 154)] [.int (Int32.ofInt 4), .int ((nI k) - (nI k0)), .int (nI n), .ref 156] h from ?_)
  rw [tk_sub (by omega)]
  refine am_goX 1 (show ((nI (k - k0)) ≤ (Int32.ofInt 4) → pz_S 7 none am_r189 2 Q 235 [(5, .long v), (4, .int (nI k0)), (2, .int (nI k)), (1, .int (nI n)), (0, .ref 154)] [.int (nI n), .ref 156] h) ∧ (¬ ((nI (k - k0)) ≤ (Int32.ofInt 4)) → pz_S 7 none am_r189 2 Q 231 [(5, .long v), (4, .int (nI k0)), (2, .int (nI k)), (1, .int (nI n)), (0, .ref 154)] [.int (nI n), .ref 156] h) from ⟨fun hc => ?_, fun hc => ?_⟩)
  · refine am_goX 2 (show ∃ jj nn : Nat, am_so h 156 = some (13, nn) ∧ jj < nn ∧ (nI n) = nI jj ∧ pz_S 7 none am_r189 2 Q 237 [(5, .long v), (4, .int (nI k0)), (2, .int (nI k)), (1, .int (nI n)), (0, .ref 154)] [] (am_wI h 156 jj ((Int32.ofInt 2))) from ⟨n, 1002, pc_w156 hP, by omega, rfl, ?_⟩)
    have hlt : ¬ k - k0 > 4 := by
      have hc1 :  nI (k - k0) ≤ nI 4 := hc
      rw [nI_leI (by omega) (by omega)] at hc1
      omega
    have ek : Int32.ofInt 2 = tk_kd T sz k0 := by
      unfold tk_kd
      rw [hgl, hgd]
      show _ = bif Nat.blt 4 (tk_go pz_dig T sz k0 - k0) then 4 else 2
      rw [hq, tk_bltf hlt]
      rfl
    have l1 := tx_w (o := 156) (k := n) (v := Int32.ofInt 2) hl (Or.inl rfl) (Nat.le_refl _) (by omega) (pz_sga pz_sg156 (by decide) (by decide))
    have e1 : (am_wI h 156 n (Int32.ofInt 2)).1 157 n = nI k0 := by rw [em_wn h _ (by omega)]; exact hpl
    have e2 : (am_wI h 156 n (Int32.ofInt 2)).1 156 n = tk_kd T sz k0 := (em_we h 156 n _).trans ek
    generalize am_wI h 156 n (Int32.ofInt 2) = h1 at l1 e1 e2 ⊢
    refine am_goX 1 (show pz_S 7 none am_r189 2 Q 265 [(5, .long v), (4, .int (nI k0)), (2, .int (nI k)), (1, .int (nI n)), (0, .ref 154)] [] h1 from ?_)
    exact sv_S sv_189 (by intro q hq; simp only [List.mem_cons, List.not_mem_nil, or_false] at hq; rcases hq with rfl | rfl | rfl | rfl <;> rfl) (h265 k v h1 hk hks l1 e1 e2 ev ee)
  · refine am_goX 3 (show ∃ jj nn : Nat, am_so h 156 = some (13, nn) ∧ jj < nn ∧ (nI n) = nI jj ∧ pz_S 7 none am_r189 2 Q 237 [(5, .long v), (4, .int (nI k0)), (2, .int (nI k)), (1, .int (nI n)), (0, .ref 154)] [] (am_wI h 156 jj ((Int32.ofInt 4))) from ⟨n, 1002, pc_w156 hP, by omega, rfl, ?_⟩)
    have hlt :  k - k0 > 4 := by
      have hc1 : ¬ nI (k - k0) ≤ nI 4 := hc
      rw [nI_leI (by omega) (by omega)] at hc1
      omega
    have ek : Int32.ofInt 4 = tk_kd T sz k0 := by
      unfold tk_kd
      rw [hgl, hgd]
      show _ = bif Nat.blt 4 (tk_go pz_dig T sz k0 - k0) then 4 else 2
      rw [hq, tk_blt.mpr hlt]
      rfl
    have l1 := tx_w (o := 156) (k := n) (v := Int32.ofInt 4) hl (Or.inl rfl) (Nat.le_refl _) (by omega) (pz_sga pz_sg156 (by decide) (by decide))
    have e1 : (am_wI h 156 n (Int32.ofInt 4)).1 157 n = nI k0 := by rw [em_wn h _ (by omega)]; exact hpl
    have e2 : (am_wI h 156 n (Int32.ofInt 4)).1 156 n = tk_kd T sz k0 := (em_we h 156 n _).trans ek
    generalize am_wI h 156 n (Int32.ofInt 4) = h1 at l1 e1 e2 ⊢
    refine am_goX 1 (show pz_S 7 none am_r189 2 Q 265 [(5, .long v), (4, .int (nI k0)), (2, .int (nI k)), (1, .int (nI n)), (0, .ref 154)] [] h1 from ?_)
    exact sv_S sv_189 (by intro q hq; simp only [List.mem_cons, List.not_mem_nil, or_false] at hq; rcases hq with rfl | rfl | rfl | rfl <;> rfl) (h265 k v h1 hk hks l1 e1 e2 ev ee)
theorem tk_cd_l {Q : am_Q} {k0 : Nat} (hgl : pz_let (T k0) = false) (hgd : pz_dig (T k0) = true) (hz : sz ≤ 1000) (hn : n ≤ k0) (h265 : tk_265 Q h0 sz T n k0) (hl : tx h0 sz T n h) (hpl : h.1 157 n = nI k0) : ∀ (m k : Nat) (v : Int64), sz ≤ k + m → k0 + 1 ≤ k → k ≤ sz → v = tk_dv T k0 (k - k0) → tk_go pz_dig T sz k0 = tk_go pz_dig T sz k → pz_S 7 none am_r189 2 Q 159 [(5, .long v), (4, .int (nI k0)), (2, .int (nI k)), (1, .int (nI n)), (0, .ref 154)] [] h := by
  have hP := hl.1.1
  intro m
  induction m with
  | zero =>
    intro k v hm hk hks hv hq
    refine am_goX 3 (show am_sh h 154 = some (11, 0) ∧ pz_S 7 none am_r189 2 Q 164 [(5, .long v), (4, .int (nI k0)), (2, .int (nI k)), (1, .int (nI n)), (0, .ref 154)] [.int (h.1 154 3), .int (nI k)] h from ⟨pc_154 hP, ?_⟩)
    rw [hl.1.2.2.1]
    refine am_goX 1 (show ((nI sz) ≤ (nI k) → pz_S 7 none am_r189 2 Q 218 [(5, .long v), (4, .int (nI k0)), (2, .int (nI k)), (1, .int (nI n)), (0, .ref 154)] [] h) ∧ (¬ ((nI sz) ≤ (nI k)) → pz_S 7 none am_r189 2 Q 167 [(5, .long v), (4, .int (nI k0)), (2, .int (nI k)), (1, .int (nI n)), (0, .ref 154)] [] h) from ⟨fun hc => ?_, fun hc => ?_⟩)
    · exact tk_cd_e hgl hgd hz hn h265 hl hpl hk hks hv (by rw [hq]; exact tk_go_n (fun w => absurd w (by omega)))
    · exact absurd (nI_le (by omega) (by omega)) hc
  | succ m ih =>
    intro k v hm hk hks hv hq
    refine am_goX 3 (show am_sh h 154 = some (11, 0) ∧ pz_S 7 none am_r189 2 Q 164 [(5, .long v), (4, .int (nI k0)), (2, .int (nI k)), (1, .int (nI n)), (0, .ref 154)] [.int (h.1 154 3), .int (nI k)] h from ⟨pc_154 hP, ?_⟩)
    rw [hl.1.2.2.1]
    refine am_goX 1 (show ((nI sz) ≤ (nI k) → pz_S 7 none am_r189 2 Q 218 [(5, .long v), (4, .int (nI k0)), (2, .int (nI k)), (1, .int (nI n)), (0, .ref 154)] [] h) ∧ (¬ ((nI sz) ≤ (nI k)) → pz_S 7 none am_r189 2 Q 167 [(5, .long v), (4, .int (nI k0)), (2, .int (nI k)), (1, .int (nI n)), (0, .ref 154)] [] h) from ⟨fun hc => ?_, fun hc => ?_⟩)
    · have hge : sz ≤ k := by
        rw [nI_leI (by omega) (by omega)] at hc
        exact hc
      exact tk_cd_e hgl hgd hz hn h265 hl hpl hk hks hv (by rw [hq]; exact tk_go_n (fun w => absurd w (by omega)))
    have hks0 : k < sz := by
      rcases Nat.lt_or_ge k sz with w | w
      · exact w
      · exact absurd (nI_le w (by omega)) hc
    clear hc
    refine am_goX 2 (show am_sh h 154 = some (11, 0) ∧ pz_S 7 none am_r189 2 Q 171 [(5, .long v), (4, .int (nI k0)), (2, .int (nI k)), (1, .int (nI n)), (0, .ref 154)] [am_rf (h.2.2.1 154 1)] h from ⟨pc_154 hP, ?_⟩)
    rw [pc_r1 hP]
    refine am_goX 2 (show ∃ jj nn : Nat, am_sh h 155 = some (13, nn) ∧ jj < nn ∧ (nI k) = nI jj ∧ pz_S 7 none am_r189 2 Q 173 [(5, .long v), (4, .int (nI k0)), (2, .int (nI k)), (1, .int (nI n)), (0, .ref 154)] [.int (h.1 155 jj)] h from ⟨k, 1000, pc_155 hP, by omega, rfl, ?_⟩)
    rw [hl.2.1 k]
    refine am_goX 1 (show 0 ≤ 8 ∧ h.2.2.2.2 + am_al 192 ≤ 175 ∧ am_call am_cod 2 192 [.int (T k)] h (fun vv h' => pz_S 7 none am_r189 2 Q 176 [(5, .long v), (4, .int (nI k0)), (2, .int (nI k)), (1, .int (nI n)), (0, .ref 154)] (vv.toList ++ []) h') from ⟨by decide, pc_lim hP rfl, am_call.up (pz_digC hP ?_) (by decide)⟩)
    cases eg : pz_dig (T k) with
    | false =>
      refine am_goX 1 (show ((pz_b false) = 0 → pz_S 7 none am_r189 2 Q 218 [(5, .long v), (4, .int (nI k0)), (2, .int (nI k)), (1, .int (nI n)), (0, .ref 154)] [] h) ∧ (¬ ((pz_b false) = 0) → pz_S 7 none am_r189 2 Q 179 [(5, .long v), (4, .int (nI k0)), (2, .int (nI k)), (1, .int (nI n)), (0, .ref 154)] [] h) from ⟨fun _ => ?_, fun hz => absurd rfl hz⟩)
      exact tk_cd_e hgl hgd hz hn h265 hl hpl hk hks hv (by rw [hq]; exact tk_go_n (fun w => eg))
    | true =>
      refine am_goX 1 (show ((pz_b true) = 0 → pz_S 7 none am_r189 2 Q 218 [(5, .long v), (4, .int (nI k0)), (2, .int (nI k)), (1, .int (nI n)), (0, .ref 154)] [] h) ∧ (¬ ((pz_b true) = 0) → pz_S 7 none am_r189 2 Q 179 [(5, .long v), (4, .int (nI k0)), (2, .int (nI k)), (1, .int (nI n)), (0, .ref 154)] [] h) from ⟨fun hz => absurd hz (by decide), fun _ => ?_⟩)
      refine am_goX 4 (show pz_S 7 none am_r189 2 Q 184 [(5, .long v), (4, .int (nI k0)), (2, .int (nI k)), (1, .int (nI n)), (0, .ref 154)] [.int (Int32.ofInt 4), .int ((nI k) - (nI k0))] h from ?_)
      rw [tk_sub (by omega)]
      refine am_goX 1 (show ((Int32.ofInt 4) ≤ (nI (k - k0)) → pz_S 7 none am_r189 2 Q 208 [(5, .long v), (4, .int (nI k0)), (2, .int (nI k)), (1, .int (nI n)), (0, .ref 154)] [] h) ∧ (¬ ((Int32.ofInt 4) ≤ (nI (k - k0))) → pz_S 7 none am_r189 2 Q 187 [(5, .long v), (4, .int (nI k0)), (2, .int (nI k)), (1, .int (nI n)), (0, .ref 154)] [] h) from ⟨fun hc => ?_, fun hc => ?_⟩)
      · refine am_goX 4 (show 5 + 1 < 7 ∧ 2 < 7 ∧ pz_S 7 none am_r189 2 Q 159 [(2, .int ((nI k) + Int32.ofInt 1)), (5, .long v), (4, .int (nI k0)), (1, .int (nI n)), (0, .ref 154)] [] h from ⟨by decide, by decide, ?_⟩)
        rw [xw_i1]
        have hj : ¬ k - k0 < 4 := by
          have hc1 :  nI 4 ≤ nI (k - k0) := hc
          rw [nI_leI (by omega) (by omega)] at hc1
          omega
        have hv1 : v = tk_dv T k0 (k + 1 - k0) := by
          rw [show k + 1 - k0 = (k - k0) + 1 by omega]
          show _ = bif Nat.blt (k - k0) 4 then _ else _
          rw [tk_bltf hj, ← hv]
          rfl
        exact sv_S sv_189 (by intro q hq; simp only [List.mem_cons, List.not_mem_nil, or_false] at hq; rcases hq with rfl | rfl | rfl | rfl | rfl <;> rfl) (ih (k + 1) _ (by omega) (by omega) (by omega) hv1 (hq.trans (tk_go_y hks0 eg)))
      · refine am_goX 5 (show am_sh h 154 = some (11, 0) ∧ pz_S 7 none am_r189 2 Q 197 [(5, .long v), (4, .int (nI k0)), (2, .int (nI k)), (1, .int (nI n)), (0, .ref 154)] [am_rf (h.2.2.1 154 1), .long ((am_kl 27) * v)] h from ⟨pc_154 hP, ?_⟩)
        rw [pc_r1 hP]
        refine am_goX 2 (show ∃ jj nn : Nat, am_sh h 155 = some (13, nn) ∧ jj < nn ∧ (nI k) = nI jj ∧ pz_S 7 none am_r189 2 Q 199 [(5, .long v), (4, .int (nI k0)), (2, .int (nI k)), (1, .int (nI n)), (0, .ref 154)] [.int (h.1 155 jj), .long ((am_kl 27) * v)] h from ⟨k, 1000, pc_155 hP, by omega, rfl, ?_⟩)
        rw [hl.2.1 k]
        refine am_goX 8 (show 5 + 1 < 7 ∧ 2 < 7 ∧ pz_S 7 none am_r189 2 Q 159 [(2, .int ((nI k) + Int32.ofInt 1)), (5, .long ((((am_kl 27) * v) + ((T k)).toInt64) - (am_kl 28))), (4, .int (nI k0)), (1, .int (nI n)), (0, .ref 154)] [] h from ⟨by decide, by decide, ?_⟩)
        rw [xw_i1]
        have hj :  k - k0 < 4 := by
          have hc1 : ¬ nI 4 ≤ nI (k - k0) := hc
          rw [nI_leI (by omega) (by omega)] at hc1
          omega
        have hv1 : ((((am_kl 27) * v) + ((T k)).toInt64) - (am_kl 28)) = tk_dv T k0 (k + 1 - k0) := by
          rw [show k + 1 - k0 = (k - k0) + 1 by omega]
          show _ = bif Nat.blt (k - k0) 4 then _ else _
          rw [tk_blt.mpr hj, show k0 + (k - k0) = k by omega, ← hv]
          rfl
        exact sv_S sv_189 (by intro q hq; simp only [List.mem_cons, List.not_mem_nil, or_false] at hq; rcases hq with rfl | rfl | rfl | rfl | rfl <;> rfl) (ih (k + 1) _ (by omega) (by omega) (by omega) hv1 (hq.trans (tk_go_y hks0 eg)))
theorem tk_cd {Q : am_Q} {k k0 : Nat} {v : Int64} (ek0 : k0 = k) (hgl : pz_let (T k0) = false) (hgd : pz_dig (T k0) = true) (hz : sz ≤ 1000) (hn : n ≤ k0) (h265 : tk_265 Q h0 sz T n k0) (hl : tx h0 sz T n h) (hpl : h.1 157 n = nI k0) (hks0 : k < sz) (hv : v = tk_dv T k0 (k - k0)) : pz_S 7 none am_r189 2 Q 159 [(5, .long v), (4, .int (nI k0)), (2, .int (nI k)), (1, .int (nI n)), (0, .ref 154)] [] h := by
  have hP := hl.1.1
  have hge : k0 ≤ k := by omega
  have hgx := hgd
  rw [ek0] at hgx
  refine am_goX 3 (show am_sh h 154 = some (11, 0) ∧ pz_S 7 none am_r189 2 Q 164 [(5, .long v), (4, .int (nI k0)), (2, .int (nI k)), (1, .int (nI n)), (0, .ref 154)] [.int (h.1 154 3), .int (nI k)] h from ⟨pc_154 hP, ?_⟩)
  rw [hl.1.2.2.1]
  refine am_goX 1 (show ((nI sz) ≤ (nI k) → pz_S 7 none am_r189 2 Q 218 [(5, .long v), (4, .int (nI k0)), (2, .int (nI k)), (1, .int (nI n)), (0, .ref 154)] [] h) ∧ (¬ ((nI sz) ≤ (nI k)) → pz_S 7 none am_r189 2 Q 167 [(5, .long v), (4, .int (nI k0)), (2, .int (nI k)), (1, .int (nI n)), (0, .ref 154)] [] h) from ⟨fun hz => absurd hz (nI_ge hks0 (by omega)), fun _ => ?_⟩)
  refine am_goX 2 (show am_sh h 154 = some (11, 0) ∧ pz_S 7 none am_r189 2 Q 171 [(5, .long v), (4, .int (nI k0)), (2, .int (nI k)), (1, .int (nI n)), (0, .ref 154)] [am_rf (h.2.2.1 154 1)] h from ⟨pc_154 hP, ?_⟩)
  rw [pc_r1 hP]
  refine am_goX 2 (show ∃ jj nn : Nat, am_sh h 155 = some (13, nn) ∧ jj < nn ∧ (nI k) = nI jj ∧ pz_S 7 none am_r189 2 Q 173 [(5, .long v), (4, .int (nI k0)), (2, .int (nI k)), (1, .int (nI n)), (0, .ref 154)] [.int (h.1 155 jj)] h from ⟨k, 1000, pc_155 hP, by omega, rfl, ?_⟩)
  rw [hl.2.1 k]
  refine am_goX 1 (show 0 ≤ 8 ∧ h.2.2.2.2 + am_al 192 ≤ 175 ∧ am_call am_cod 2 192 [.int (T k)] h (fun vv h' => pz_S 7 none am_r189 2 Q 176 [(5, .long v), (4, .int (nI k0)), (2, .int (nI k)), (1, .int (nI n)), (0, .ref 154)] (vv.toList ++ []) h') from ⟨by decide, pc_lim hP rfl, am_call.up (pz_digC hP ?_) (by decide)⟩)
  rw [hgx]
  refine am_goX 1 (show ((pz_b true) = 0 → pz_S 7 none am_r189 2 Q 218 [(5, .long v), (4, .int (nI k0)), (2, .int (nI k)), (1, .int (nI n)), (0, .ref 154)] [] h) ∧ (¬ ((pz_b true) = 0) → pz_S 7 none am_r189 2 Q 179 [(5, .long v), (4, .int (nI k0)), (2, .int (nI k)), (1, .int (nI n)), (0, .ref 154)] [] h) from ⟨fun hz => absurd hz (by decide), fun _ => ?_⟩)
  have eg : pz_dig (T k) = true := hgx
  refine am_goX 4 (show pz_S 7 none am_r189 2 Q 184 [(5, .long v), (4, .int (nI k0)), (2, .int (nI k)), (1, .int (nI n)), (0, .ref 154)] [.int (Int32.ofInt 4), .int ((nI k) - (nI k0))] h from ?_)
  rw [tk_sub (by omega)]
  refine am_goX 1 (show ((Int32.ofInt 4) ≤ (nI (k - k0)) → pz_S 7 none am_r189 2 Q 208 [(5, .long v), (4, .int (nI k0)), (2, .int (nI k)), (1, .int (nI n)), (0, .ref 154)] [] h) ∧ (¬ ((Int32.ofInt 4) ≤ (nI (k - k0))) → pz_S 7 none am_r189 2 Q 187 [(5, .long v), (4, .int (nI k0)), (2, .int (nI k)), (1, .int (nI n)), (0, .ref 154)] [] h) from ⟨fun hc => ?_, fun hc => ?_⟩)
  · refine am_goX 4 (show 5 + 1 < 7 ∧ 2 < 7 ∧ pz_S 7 none am_r189 2 Q 159 [(2, .int ((nI k) + Int32.ofInt 1)), (5, .long v), (4, .int (nI k0)), (1, .int (nI n)), (0, .ref 154)] [] h from ⟨by decide, by decide, ?_⟩)
    rw [xw_i1]
    have hj : ¬ k - k0 < 4 := by
      have hc1 :  nI 4 ≤ nI (k - k0) := hc
      rw [nI_leI (by omega) (by omega)] at hc1
      omega
    have hv1 : v = tk_dv T k0 (k + 1 - k0) := by
      rw [show k + 1 - k0 = (k - k0) + 1 by omega]
      show _ = bif Nat.blt (k - k0) 4 then _ else _
      rw [tk_bltf hj, ← hv]
      rfl
    exact sv_S sv_189 (by intro q hq; simp only [List.mem_cons, List.not_mem_nil, or_false] at hq; rcases hq with rfl | rfl | rfl | rfl | rfl <;> rfl) (tk_cd_l hgl hgd hz hn h265 hl hpl sz (k + 1) _ (by omega) (by omega) (by omega) hv1 (by rw [ek0]; exact tk_go_y hks0 eg))
  · refine am_goX 5 (show am_sh h 154 = some (11, 0) ∧ pz_S 7 none am_r189 2 Q 197 [(5, .long v), (4, .int (nI k0)), (2, .int (nI k)), (1, .int (nI n)), (0, .ref 154)] [am_rf (h.2.2.1 154 1), .long ((am_kl 27) * v)] h from ⟨pc_154 hP, ?_⟩)
    rw [pc_r1 hP]
    refine am_goX 2 (show ∃ jj nn : Nat, am_sh h 155 = some (13, nn) ∧ jj < nn ∧ (nI k) = nI jj ∧ pz_S 7 none am_r189 2 Q 199 [(5, .long v), (4, .int (nI k0)), (2, .int (nI k)), (1, .int (nI n)), (0, .ref 154)] [.int (h.1 155 jj), .long ((am_kl 27) * v)] h from ⟨k, 1000, pc_155 hP, by omega, rfl, ?_⟩)
    rw [hl.2.1 k]
    refine am_goX 8 (show 5 + 1 < 7 ∧ 2 < 7 ∧ pz_S 7 none am_r189 2 Q 159 [(2, .int ((nI k) + Int32.ofInt 1)), (5, .long ((((am_kl 27) * v) + ((T k)).toInt64) - (am_kl 28))), (4, .int (nI k0)), (1, .int (nI n)), (0, .ref 154)] [] h from ⟨by decide, by decide, ?_⟩)
    rw [xw_i1]
    have hj :  k - k0 < 4 := by
      have hc1 : ¬ nI 4 ≤ nI (k - k0) := hc
      rw [nI_leI (by omega) (by omega)] at hc1
      omega
    have hv1 : ((((am_kl 27) * v) + ((T k)).toInt64) - (am_kl 28)) = tk_dv T k0 (k + 1 - k0) := by
      rw [show k + 1 - k0 = (k - k0) + 1 by omega]
      show _ = bif Nat.blt (k - k0) 4 then _ else _
      rw [tk_blt.mpr hj, show k0 + (k - k0) = k by omega, ← hv]
      rfl
    exact sv_S sv_189 (by intro q hq; simp only [List.mem_cons, List.not_mem_nil, or_false] at hq; rcases hq with rfl | rfl | rfl | rfl | rfl <;> rfl) (tk_cd_l hgl hgd hz hn h265 hl hpl sz (k + 1) _ (by omega) (by omega) (by omega) hv1 (by rw [ek0]; exact tk_go_y hks0 eg))
theorem tk_cut_l {Q : am_Q} (hz : sz ≤ 1000) (hend : ∀ (n : Nat) (h1 : am_H), n ≤ sz → tx h0 sz T n h1 → tk_pl T sz n = sz → pz_S 7 none am_r189 2 Q 279 [(1, .int (nI n)), (0, .ref 154)] [] h1) : ∀ (m n k : Nat) (h : am_H), sz ≤ k + m → n ≤ k → k ≤ sz → tx h0 sz T n h → tk_pl T sz n = tk_go tk_bl T sz k → pz_S 7 none am_r189 2 Q 17 [(2, .int (nI k)), (1, .int (nI n)), (0, .ref 154)] [] h := by
  intro m
  induction m with
  | zero =>
    intro n k h hm hnk hks hl hp
    have hP := hl.1.1
    refine am_goX 3 (show am_sh h 154 = some (11, 0) ∧ pz_S 7 none am_r189 2 Q 22 [(2, .int (nI k)), (1, .int (nI n)), (0, .ref 154)] [.int (h.1 154 3), .int (nI k)] h from ⟨pc_154 hP, ?_⟩)
    rw [hl.1.2.2.1]
    refine am_goX 1 (show ((nI sz) ≤ (nI k) → pz_S 7 none am_r189 2 Q 279 [(2, .int (nI k)), (1, .int (nI n)), (0, .ref 154)] [] h) ∧ (¬ ((nI sz) ≤ (nI k)) → pz_S 7 none am_r189 2 Q 25 [(2, .int (nI k)), (1, .int (nI n)), (0, .ref 154)] [] h) from ⟨fun hc => ?_, fun hc => ?_⟩)
    · have hge : sz ≤ k := by
        rw [nI_leI (by omega) (by omega)] at hc
        exact hc
      have ek : k = sz := by omega
      exact sv_S sv_189 (by intro q hq; simp only [List.mem_cons, List.not_mem_nil, or_false] at hq; rcases hq with rfl | rfl <;> rfl) (hend n h (by omega) hl (hp.trans ((tk_go_n (fun w => absurd w (by omega))).trans ek)))
    · exact absurd (nI_le (by omega) (by omega)) hc
  | succ m ih =>
    intro n k h hm hnk hks hl hp
    have hP := hl.1.1
    refine am_goX 3 (show am_sh h 154 = some (11, 0) ∧ pz_S 7 none am_r189 2 Q 22 [(2, .int (nI k)), (1, .int (nI n)), (0, .ref 154)] [.int (h.1 154 3), .int (nI k)] h from ⟨pc_154 hP, ?_⟩)
    rw [hl.1.2.2.1]
    refine am_goX 1 (show ((nI sz) ≤ (nI k) → pz_S 7 none am_r189 2 Q 279 [(2, .int (nI k)), (1, .int (nI n)), (0, .ref 154)] [] h) ∧ (¬ ((nI sz) ≤ (nI k)) → pz_S 7 none am_r189 2 Q 25 [(2, .int (nI k)), (1, .int (nI n)), (0, .ref 154)] [] h) from ⟨fun hc => ?_, fun hc => ?_⟩)
    · have hge : sz ≤ k := by
        rw [nI_leI (by omega) (by omega)] at hc
        exact hc
      have ek : k = sz := by omega
      exact sv_S sv_189 (by intro q hq; simp only [List.mem_cons, List.not_mem_nil, or_false] at hq; rcases hq with rfl | rfl <;> rfl) (hend n h (by omega) hl (hp.trans ((tk_go_n (fun w => absurd w (by omega))).trans ek)))
    have hks0 : k < sz := by
      rcases Nat.lt_or_ge k sz with w | w
      · exact w
      · exact absurd (nI_le w (by omega)) hc
    clear hc
    refine am_goX 2 (show am_sh h 154 = some (11, 0) ∧ pz_S 7 none am_r189 2 Q 29 [(2, .int (nI k)), (1, .int (nI n)), (0, .ref 154)] [am_rf (h.2.2.1 154 1)] h from ⟨pc_154 hP, ?_⟩)
    rw [pc_r1 hP]
    refine am_goX 2 (show ∃ jj nn : Nat, am_sh h 155 = some (13, nn) ∧ jj < nn ∧ (nI k) = nI jj ∧ pz_S 7 none am_r189 2 Q 31 [(2, .int (nI k)), (1, .int (nI n)), (0, .ref 154)] [.int (h.1 155 jj)] h from ⟨k, 1000, pc_155 hP, by omega, rfl, ?_⟩)
    rw [hl.2.1 k]
    have k44 : tk_bl (T k) = true → pz_S 7 none am_r189 2 Q 44 [(3, .int (T k)), (2, .int (nI k)), (1, .int (nI n)), (0, .ref 154)] [] h := ?_
    rotate_left
    · intro hb
      refine am_goX 2 (show 2 < 7 ∧ pz_S 7 none am_r189 2 Q 17 [(2, .int ((nI k) + Int32.ofInt 1)), (3, .int (T k)), (1, .int (nI n)), (0, .ref 154)] [] h from ⟨by decide, ?_⟩)
      rw [xw_i1]
      exact sv_S sv_189 (by intro q hq; simp only [List.mem_cons, List.not_mem_nil, or_false] at hq; rcases hq with rfl | rfl | rfl <;> rfl) (ih n (k + 1) h (by omega) (by omega) (by omega) hl (hp.trans (tk_go_y hks0 hb)))
    refine am_goX 4 (show 3 < 7 ∧ ((T k) = (Int8.ofInt 10).toInt32 → pz_S 7 none am_r189 2 Q 44 [(3, .int (T k)), (2, .int (nI k)), (1, .int (nI n)), (0, .ref 154)] [] h) ∧ (¬ ((T k) = (Int8.ofInt 10).toInt32) → pz_S 7 none am_r189 2 Q 38 [(3, .int (T k)), (2, .int (nI k)), (1, .int (nI n)), (0, .ref 154)] [] h) from ⟨by decide, fun hc => ?_, fun hc => ?_⟩)
    · exact k44 (by unfold tk_bl; rw [decide_eq_true hc]; rfl)
    have hc10 := hc
    clear hc
    refine am_goX 3 (show (¬ (T k) = (Int8.ofInt 32).toInt32 → pz_S 7 none am_r189 2 Q 50 [(3, .int (T k)), (2, .int (nI k)), (1, .int (nI n)), (0, .ref 154)] [] h) ∧ (¬ ¬ (T k) = (Int8.ofInt 32).toInt32 → pz_S 7 none am_r189 2 Q 44 [(3, .int (T k)), (2, .int (nI k)), (1, .int (nI n)), (0, .ref 154)] [] h) from ⟨fun hc => ?_, fun hc => ?_⟩)
    rotate_left
    · exact k44 (by unfold tk_bl; rw [decide_eq_true (Decidable.not_not.mp hc), Bool.or_true])
    have hnb : tk_bl (T k) = false := by
      unfold tk_bl
      rw [decide_eq_false hc10, decide_eq_false hc]
      rfl
    clear hc hc10
    have hpk : tk_pl T sz n = k := hp.trans (tk_go_n (fun _ => hnb))
    have h265 : tk_265 Q h0 sz T n k := by
      intro k1 v h1 q1 q2 q3 q4 q5 q6 q7
      have hP1 := q3.1.1
      refine am_goX 2 (show am_sh h1 154 = some (11, 0) ∧ pz_S 7 none am_r189 2 Q 269 [(5, .long v), (2, .int (nI k1)), (1, .int (nI n)), (0, .ref 154)] [am_rf (h1.2.2.1 154 6)] h1 from ⟨pc_154 hP1, ?_⟩)
      rw [pc_r6 hP1]
      refine am_goX 3 (show ∃ jj nn : Nat, am_so h1 158 = some (14, nn) ∧ jj < nn ∧ (nI n) = nI jj ∧ pz_S 7 none am_r189 2 Q 273 [(5, .long v), (2, .int (nI k1)), (1, .int (nI n)), (0, .ref 154)] [] (am_wL h1 158 jj (v)) from ⟨n, 1002, pc_w158 hP1, by omega, rfl, ?_⟩)
      have l1 := tx_v (p := k) q3 (by omega) q4 q5 q6 hpk.symm hks0
      generalize am_wL h1 158 n v = h2 at l1 ⊢
      refine am_goX 2 (show 1 < 7 ∧ pz_S 7 none am_r189 2 Q 17 [(1, .int ((nI n) + Int32.ofInt 1)), (5, .long v), (2, .int (nI k1)), (0, .ref 154)] [] h2 from ⟨by decide, ?_⟩)
      rw [xw_i1]
      exact sv_S sv_189 (by intro q hq; simp only [List.mem_cons, List.not_mem_nil, or_false] at hq; rcases hq with rfl | rfl | rfl <;> rfl) (ih (n + 1) k1 h2 (by omega) (by omega) q2 l1 (by show tk_go tk_bl T sz (tk_en T sz (tk_pl T sz n)) = _; rw [hpk, ← q7]))
    refine am_goX 6 (show 4 < 7 ∧ 5 + 1 < 7 ∧ am_sh h 154 = some (11, 0) ∧ pz_S 7 none am_r189 2 Q 60 [(5, .long (Int64.ofNat 0)), (4, .int (nI k)), (3, .int (T k)), (2, .int (nI k)), (1, .int (nI n)), (0, .ref 154)] [am_rf (h.2.2.1 154 5)] h from ⟨by decide, by decide, pc_154 hP, ?_⟩)
    rw [pc_r5 hP]
    refine am_goX 3 (show ∃ jj nn : Nat, am_so h 157 = some (13, nn) ∧ jj < nn ∧ (nI n) = nI jj ∧ pz_S 7 none am_r189 2 Q 63 [(5, .long (Int64.ofNat 0)), (4, .int (nI k)), (3, .int (T k)), (2, .int (nI k)), (1, .int (nI n)), (0, .ref 154)] [] (am_wI h 157 jj ((nI k))) from ⟨n, 1002, pc_w157 hP, by omega, rfl, ?_⟩)
    have hkt : (nI k).toInt = k := nI_toInt (by omega)
    have l1 := tx_w (o := 157) (k := n) (v := nI k) hl (Or.inr rfl) (Nat.le_refl _) (by omega) (pz_sga pz_sg157 (by omega) (by omega))
    have hpl1 : (am_wI h 157 n (nI k)).1 157 n = nI k := em_we h 157 n _
    generalize am_wI h 157 n (nI k) = h1 at l1 hpl1 ⊢
    have hP1 := l1.1.1
    refine am_goX 2 (show 0 ≤ 8 ∧ h1.2.2.2.2 + am_al 190 ≤ 175 ∧ am_call am_cod 2 190 [.int (T k)] h1 (fun vv h' => pz_S 7 none am_r189 2 Q 67 [(5, .long (Int64.ofNat 0)), (4, .int (nI k)), (3, .int (T k)), (2, .int (nI k)), (1, .int (nI n)), (0, .ref 154)] (vv.toList ++ []) h') from ⟨by decide, pc_lim hP1 rfl, am_call.up (pz_letC hP1 ?_) (by decide)⟩)
    cases el : pz_let (T k) with
    | true =>
      refine am_goX 1 (show ((pz_b true) = 0 → pz_S 7 none am_r189 2 Q 152 [(5, .long (Int64.ofNat 0)), (4, .int (nI k)), (3, .int (T k)), (2, .int (nI k)), (1, .int (nI n)), (0, .ref 154)] [] h1) ∧ (¬ ((pz_b true) = 0) → pz_S 7 none am_r189 2 Q 70 [(5, .long (Int64.ofNat 0)), (4, .int (nI k)), (3, .int (T k)), (2, .int (nI k)), (1, .int (nI n)), (0, .ref 154)] [] h1) from ⟨fun hz => absurd hz (by decide), fun _ => ?_⟩)
      exact sv_S sv_189 (by intro q hq; simp only [List.mem_cons, List.not_mem_nil, or_false] at hq; rcases hq with rfl | rfl | rfl | rfl | rfl <;> rfl) (tk_cl rfl el hz hnk h265 l1 hpl1 hks0 (by rw [Nat.sub_self]; rfl))
    | false =>
      refine am_goX 1 (show ((pz_b false) = 0 → pz_S 7 none am_r189 2 Q 152 [(5, .long (Int64.ofNat 0)), (4, .int (nI k)), (3, .int (T k)), (2, .int (nI k)), (1, .int (nI n)), (0, .ref 154)] [] h1) ∧ (¬ ((pz_b false) = 0) → pz_S 7 none am_r189 2 Q 70 [(5, .long (Int64.ofNat 0)), (4, .int (nI k)), (3, .int (T k)), (2, .int (nI k)), (1, .int (nI n)), (0, .ref 154)] [] h1) from ⟨fun _ => ?_, fun hz => absurd rfl hz⟩)
      refine am_goX 2 (show 0 ≤ 8 ∧ h1.2.2.2.2 + am_al 192 ≤ 175 ∧ am_call am_cod 2 192 [.int (T k)] h1 (fun vv h' => pz_S 7 none am_r189 2 Q 156 [(5, .long (Int64.ofNat 0)), (4, .int (nI k)), (3, .int (T k)), (2, .int (nI k)), (1, .int (nI n)), (0, .ref 154)] (vv.toList ++ []) h') from ⟨by decide, pc_lim hP1 rfl, am_call.up (pz_digC hP1 ?_) (by decide)⟩)
      cases ed : pz_dig (T k) with
      | true =>
        refine am_goX 1 (show ((pz_b true) = 0 → pz_S 7 none am_r189 2 Q 240 [(5, .long (Int64.ofNat 0)), (4, .int (nI k)), (3, .int (T k)), (2, .int (nI k)), (1, .int (nI n)), (0, .ref 154)] [] h1) ∧ (¬ ((pz_b true) = 0) → pz_S 7 none am_r189 2 Q 159 [(5, .long (Int64.ofNat 0)), (4, .int (nI k)), (3, .int (T k)), (2, .int (nI k)), (1, .int (nI n)), (0, .ref 154)] [] h1) from ⟨fun hz => absurd hz (by decide), fun _ => ?_⟩)
        exact sv_S sv_189 (by intro q hq; simp only [List.mem_cons, List.not_mem_nil, or_false] at hq; rcases hq with rfl | rfl | rfl | rfl | rfl <;> rfl) (tk_cd rfl el ed hz hnk h265 l1 hpl1 hks0 (by rw [Nat.sub_self]; rfl))
      | false =>
        refine am_goX 1 (show ((pz_b false) = 0 → pz_S 7 none am_r189 2 Q 240 [(5, .long (Int64.ofNat 0)), (4, .int (nI k)), (3, .int (T k)), (2, .int (nI k)), (1, .int (nI n)), (0, .ref 154)] [] h1) ∧ (¬ ((pz_b false) = 0) → pz_S 7 none am_r189 2 Q 159 [(5, .long (Int64.ofNat 0)), (4, .int (nI k)), (3, .int (T k)), (2, .int (nI k)), (1, .int (nI n)), (0, .ref 154)] [] h1) from ⟨fun _ => ?_, fun hz => absurd rfl hz⟩)
        refine am_goX 5 (show 5 + 1 < 7 ∧ am_sh h1 154 = some (11, 0) ∧ pz_S 7 none am_r189 2 Q 248 [(5, .long ((T k)).toInt64), (4, .int (nI k)), (3, .int (T k)), (2, .int (nI k)), (1, .int (nI n)), (0, .ref 154)] [am_rf (h1.2.2.1 154 4)] h1 from ⟨by decide, pc_154 hP1, ?_⟩)
        rw [pc_r4 hP1]
        refine am_goX 3 (show 2 ≤ 8 ∧ h1.2.2.2.2 + am_al 193 ≤ 175 ∧ am_call am_cod 2 193 [.int (T k)] h1 (fun vv h' => pz_S 7 none am_r189 2 Q 253 [(5, .long ((T k)).toInt64), (4, .int (nI k)), (3, .int (T k)), (2, .int (nI k)), (1, .int (nI n)), (0, .ref 154)] (vv.toList ++ [.int (nI n), .ref 156]) h') from ⟨by decide, pc_lim hP1 rfl, am_call.up (tk_sgof hP1 ?_) (by decide)⟩)
        have ev : (T k).toInt64 = tk_vl T sz k := by
          unfold tk_vl
          rw [el, ed]
          rfl
        have ee : k + 1 = tk_en T sz k := by
          unfold tk_en
          rw [el, ed]
          rfl
        cases es : tk_sn (T k) with
        | true =>
          refine am_goX 1 (show ((pz_b true) = 0 → pz_S 7 none am_r189 2 Q 260 [(5, .long ((T k)).toInt64), (4, .int (nI k)), (3, .int (T k)), (2, .int (nI k)), (1, .int (nI n)), (0, .ref 154)] [.int (nI n), .ref 156] h1) ∧ (¬ ((pz_b true) = 0) → pz_S 7 none am_r189 2 Q 256 [(5, .long ((T k)).toInt64), (4, .int (nI k)), (3, .int (T k)), (2, .int (nI k)), (1, .int (nI n)), (0, .ref 154)] [.int (nI n), .ref 156] h1) from ⟨fun hz => absurd hz (by decide), fun _ => ?_⟩)
          refine am_goX 3 (show ∃ jj nn : Nat, am_so h1 156 = some (13, nn) ∧ jj < nn ∧ (nI n) = nI jj ∧ pz_S 7 none am_r189 2 Q 262 [(5, .long ((T k)).toInt64), (4, .int (nI k)), (3, .int (T k)), (2, .int (nI k)), (1, .int (nI n)), (0, .ref 154)] [] (am_wI h1 156 jj ((Int32.ofInt 3))) from ⟨n, 1002, pc_w156 hP1, by omega, rfl, ?_⟩)
          have ek : Int32.ofInt 3 = tk_kd T sz k := by
            unfold tk_kd
            rw [el, ed, es]
            rfl
          have l2 := tx_w (o := 156) (k := n) (v := Int32.ofInt 3) l1 (Or.inl rfl) (Nat.le_refl _) (by omega) (pz_sga pz_sg156 (by decide) (by decide))
          have e1 : (am_wI h1 156 n (Int32.ofInt 3)).1 157 n = nI k := by rw [em_wn h1 _ (by omega)]; exact hpl1
          have e2 : (am_wI h1 156 n (Int32.ofInt 3)).1 156 n = tk_kd T sz k := (em_we h1 156 n _).trans ek
          generalize am_wI h1 156 n (Int32.ofInt 3) = h2 at l2 e1 e2 ⊢
          refine am_goX 1 (show 2 < 7 ∧ pz_S 7 none am_r189 2 Q 265 [(2, .int ((nI k) + Int32.ofInt 1)), (5, .long ((T k)).toInt64), (4, .int (nI k)), (3, .int (T k)), (1, .int (nI n)), (0, .ref 154)] [] h2 from ⟨by decide, ?_⟩)
          rw [xw_i1]
          exact sv_S sv_189 (by intro q hq; simp only [List.mem_cons, List.not_mem_nil, or_false] at hq; rcases hq with rfl | rfl | rfl | rfl <;> rfl) (h265 (k + 1) _ h2 (by omega) (by omega) l2 e1 e2 ev ee)
        | false =>
          refine am_goX 1 (show ((pz_b false) = 0 → pz_S 7 none am_r189 2 Q 260 [(5, .long ((T k)).toInt64), (4, .int (nI k)), (3, .int (T k)), (2, .int (nI k)), (1, .int (nI n)), (0, .ref 154)] [.int (nI n), .ref 156] h1) ∧ (¬ ((pz_b false) = 0) → pz_S 7 none am_r189 2 Q 256 [(5, .long ((T k)).toInt64), (4, .int (nI k)), (3, .int (T k)), (2, .int (nI k)), (1, .int (nI n)), (0, .ref 154)] [.int (nI n), .ref 156] h1) from ⟨fun _ => ?_, fun hz => absurd rfl hz⟩)
          refine am_goX 2 (show ∃ jj nn : Nat, am_so h1 156 = some (13, nn) ∧ jj < nn ∧ (nI n) = nI jj ∧ pz_S 7 none am_r189 2 Q 262 [(5, .long ((T k)).toInt64), (4, .int (nI k)), (3, .int (T k)), (2, .int (nI k)), (1, .int (nI n)), (0, .ref 154)] [] (am_wI h1 156 jj ((Int32.ofInt 4))) from ⟨n, 1002, pc_w156 hP1, by omega, rfl, ?_⟩)
          have ek : Int32.ofInt 4 = tk_kd T sz k := by
            unfold tk_kd
            rw [el, ed, es]
            rfl
          have l2 := tx_w (o := 156) (k := n) (v := Int32.ofInt 4) l1 (Or.inl rfl) (Nat.le_refl _) (by omega) (pz_sga pz_sg156 (by decide) (by decide))
          have e1 : (am_wI h1 156 n (Int32.ofInt 4)).1 157 n = nI k := by rw [em_wn h1 _ (by omega)]; exact hpl1
          have e2 : (am_wI h1 156 n (Int32.ofInt 4)).1 156 n = tk_kd T sz k := (em_we h1 156 n _).trans ek
          generalize am_wI h1 156 n (Int32.ofInt 4) = h2 at l2 e1 e2 ⊢
          refine am_goX 1 (show 2 < 7 ∧ pz_S 7 none am_r189 2 Q 265 [(2, .int ((nI k) + Int32.ofInt 1)), (5, .long ((T k)).toInt64), (4, .int (nI k)), (3, .int (T k)), (1, .int (nI n)), (0, .ref 154)] [] h2 from ⟨by decide, ?_⟩)
          rw [xw_i1]
          exact sv_S sv_189 (by intro q hq; simp only [List.mem_cons, List.not_mem_nil, or_false] at hq; rcases hq with rfl | rfl | rfl | rfl <;> rfl) (h265 (k + 1) _ h2 (by omega) (by omega) l2 e1 e2 ev ee)
