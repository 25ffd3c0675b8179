/-! WORDS, SIGNS, NUMBERS AT HAND -/
variable {h h0 : am_H} {sz a c : Nat} {T : Nat → Int32} {Q : am_Q} {s : sp_S}
theorem kz_v (T : Nat → Int32) (sz p : Nat) : kz T sz p = 0 ∨ kz T sz p = 1 ∨ kz T sz p = 2 ∨ kz T sz p = 3 ∨ kz T sz p = 4 := by
  by_cases hps : p < sz
  · cases hl : pz_let (T p) with
    | true =>
      rw [(cs_kw hps hl).1]
      cases Nat.blt 8 (tk_go pz_let T sz p - p) with
      | true => exact Or.inr (Or.inr (Or.inr (Or.inr rfl)))
      | false => exact Or.inr (Or.inl rfl)
    | false =>
      cases hd : pz_dig (T p) with
      | true =>
        rw [(cs_kn hps hl hd).1]
        cases Nat.blt 4 (tk_go pz_dig T sz p - p) with
        | true => exact Or.inr (Or.inr (Or.inr (Or.inr rfl)))
        | false => exact Or.inr (Or.inr (Or.inl rfl))
      | false =>
        rw [(cs_ks hps hl hd).1]
        cases tk_sn (T p) with
        | true => exact Or.inr (Or.inr (Or.inr (Or.inl rfl)))
        | false => exact Or.inr (Or.inr (Or.inr (Or.inr rfl)))
  · exact Or.inl (cs_ke hps).1
theorem kz_3 {p : Nat} (e : kz T sz p = 3) : tk_vl T sz p = (T p).toInt64 := by
  have hps : p < sz := kz_lt (by rw [e]; decide)
  cases hl : pz_let (T p) with
  | true =>
    rw [(cs_kw hps hl).1] at e
    cases hb : Nat.blt 8 (tk_go pz_let T sz p - p) with
    | true => rw [hb] at e; exact absurd e (by decide)
    | false => rw [hb] at e; exact absurd e (by decide)
  | false =>
    cases hd : pz_dig (T p) with
    | true =>
      rw [(cs_kn hps hl hd).1] at e
      cases hb : Nat.blt 4 (tk_go pz_dig T sz p - p) with
      | true => rw [hb] at e; exact absurd e (by decide)
      | false => rw [hb] at e; exact absurd e (by decide)
    | false => exact (cs_ks hps hl hd).2.2
theorem ck_1 (T : Nat → Int32) (sz a : Nat) : decide (ck (tt T sz a).1 = Int32.ofInt 1) = sp_k (tt T sz) a 1 := by
  unfold sp_k
  show decide (ck (kz T sz (tk_pl T sz a)) = Int32.ofInt 1) = decide (kz T sz (tk_pl T sz a) = 1)
  rcases kz_v T sz (tk_pl T sz a) with e | e | e | e | e <;> rw [e] <;> decide
theorem ck_2 (T : Nat → Int32) (sz a : Nat) : decide (ck (tt T sz a).1 = Int32.ofInt 2) = sp_k (tt T sz) a 2 := by
  unfold sp_k
  show decide (ck (kz T sz (tk_pl T sz a)) = Int32.ofInt 2) = decide (kz T sz (tk_pl T sz a) = 2)
  rcases kz_v T sz (tk_pl T sz a) with e | e | e | e | e <;> rw [e] <;> decide
theorem ck_3 (T : Nat → Int32) (sz a : Nat) : decide (ck (tt T sz a).1 = Int32.ofInt 3) = sp_k (tt T sz) a 3 := by
  unfold sp_k
  show decide (ck (kz T sz (tk_pl T sz a)) = Int32.ofInt 3) = decide (kz T sz (tk_pl T sz a) = 3)
  rcases kz_v T sz (tk_pl T sz a) with e | e | e | e | e <;> rw [e] <;> decide
theorem ck_4 (T : Nat → Int32) (sz a : Nat) : decide (ck (tt T sz a).1 = Int32.ofInt 4) = sp_k (tt T sz) a 0 := by
  unfold sp_k
  show decide (ck (kz T sz (tk_pl T sz a)) = Int32.ofInt 4) = decide (kz T sz (tk_pl T sz a) = 0)
  rcases kz_v T sz (tk_pl T sz a) with e | e | e | e | e <;> rw [e] <;> decide
theorem c_kd (l : c_t T sz a h) : h.1 1 2 = ck (tt T sz a).1 := l.2.2.2.2.2.2.2.1
theorem c_pl (l : c_t T sz a h) : h.1 1 3 = nI (tk_pl T sz a) := l.2.2.2.2.2.2.1
theorem sp_kt {τ : sp_T} {k : Int32} (e : sp_k τ a k = true) : (τ a).1 = k := of_decide_eq_true e
theorem c_wd (l : c_t T sz a h) (e : sp_k (tt T sz) a 1 = true) : cwk (tt T sz a).2.1 (h.2.1 1 5) := l.2.2.2.2.2.2.2.2.2.1 (sp_kt e)
theorem c_nm (l : c_t T sz a h) (e : sp_k (tt T sz) a 2 = true) : ∃ D : Nat, D ≤ 9999 ∧ sp_v (tt T sz) a = nI D ∧ h.1 1 6 = nI D := by
  obtain ⟨D, d1, d2, d3⟩ := l.2.2.2.2.2.2.2.2.2.2 (sp_kt e)
  refine ⟨D, d1, ?_, d3⟩
  show (tk_vl T sz (tk_pl T sz a)).toInt32 = nI D
  rw [d2]
  exact Int64.toInt32_ofNat'
theorem c_nv (l : c_t T sz a h) (e : sp_k (tt T sz) a 2 = true) : h.1 1 6 = sp_v (tt T sz) a := by
  obtain ⟨D, d1, d2, d3⟩ := c_nm l e
  rw [d2, d3]
theorem c_P (l : c_t T sz a h) : ex_P h := l.1.1
/-- the letters of a String, a byte each -/
def cpk (q : Nat) : Nat → Int64
  | 0 => Int64.ofNat 0
  | j + 1 => ((cpk q j) <<< (((Int8.ofInt 8).toInt32).toInt64 &&& 63)) ||| (st_b q j).toInt64
def cdg (l : List Nat) (i : Nat) : Nat := l.getD i 1
theorem cdg_v (l : List Nat) (hl : l.all (fun x => Nat.ble 1 x && Nat.ble x 26) = true) (n : Nat) : bsv (cdg l) n := by
  intro i _
  unfold cdg
  rw [List.getD_eq_getElem?_getD]
  cases hg : l[i]? with
  | none => exact ⟨by decide, by decide⟩
  | some x =>
    have w := List.all_eq_true.mp hl x (List.mem_of_getElem? hg)
    rw [Bool.and_eq_true] at w
    exact ⟨Nat.le_of_ble_eq_true w.1, Nat.le_of_ble_eq_true w.2⟩
theorem wq_1 : cwk 1119812451 (cpk 1 (am_sln.getD 1 0)) := ⟨6, cdg [16, 5, 18, 19, 15, 14], by decide, cdg_v _ (by decide) _, by decide +kernel, by decide +kernel⟩
theorem wq_3 : cwk 30596128 (cpk 3 (am_sln.getD 3 0)) := ⟨5, cdg [16, 12, 1, 9, 14], by decide, cdg_v _ (by decide) _, by decide +kernel, by decide +kernel⟩
theorem wq_4 : cwk 43567634 (cpk 4 (am_sln.getD 4 0)) := ⟨5, cdg [23, 9, 4, 15, 23], by decide, cdg_v _ (by decide) _, by decide +kernel, by decide +kernel⟩
theorem wq_5 : cwk 37900956 (cpk 5 (am_sln.getD 5 0)) := ⟨5, cdg [20, 8, 9, 5, 6], by decide, cdg_v _ (by decide) _, by decide +kernel, by decide +kernel⟩
theorem wq_6 : cwk 488058286 (cpk 6 (am_sln.getD 6 0)) := ⟨6, cdg [7, 1, 15, 12, 5, 18], by decide, cdg_v _ (by decide) _, by decide +kernel, by decide +kernel⟩
theorem wq_7 : cwk 17003 (cpk 7 (am_sln.getD 7 0)) := ⟨3, cdg [12, 15, 20], by decide, cdg_v _ (by decide) _, by decide +kernel, by decide +kernel⟩
theorem wq_8 : cwk 10492554 (cpk 8 (am_sln.getD 8 0)) := ⟨5, cdg [5, 22, 5, 14, 20], by decide, cdg_v _ (by decide) _, by decide +kernel, by decide +kernel⟩
theorem wq_9 : cwk 569 (cpk 9 (am_sln.getD 9 0)) := ⟨2, cdg [15, 14], by decide, cdg_v _ (by decide) _, by decide +kernel, by decide +kernel⟩
theorem wq_10 : cwk 26498531 (cpk 10 (am_sln.getD 10 0)) := ⟨5, cdg [14, 5, 5, 4, 19], by decide, cdg_v _ (by decide) _, by decide +kernel, by decide +kernel⟩
theorem wq_11 : cwk 6400279 (cpk 11 (am_sln.getD 11 0)) := ⟨5, cdg [3, 15, 13, 5, 19], by decide, cdg_v _ (by decide) _, by decide +kernel, by decide +kernel⟩
theorem wq_12 : cwk 982151 (cpk 12 (am_sln.getD 12 0)) := ⟨4, cdg [19, 14, 15, 23], by decide, cdg_v _ (by decide) _, by decide +kernel, by decide +kernel⟩
theorem wq_13 : cwk 375310 (cpk 13 (am_sln.getD 13 0)) := ⟨4, cdg [7, 15, 5, 19], by decide, cdg_v _ (by decide) _, by decide +kernel, by decide +kernel⟩
theorem wq_14 : cwk 20763 (cpk 14 (am_sln.getD 14 0)) := ⟨3, cdg [15, 6, 6], by decide, cdg_v _ (by decide) _, by decide +kernel, by decide +kernel⟩
theorem wq_15 : cwk 1172060 (cpk 15 (am_sln.getD 15 0)) := ⟨4, cdg [23, 5, 5, 11], by decide, cdg_v _ (by decide) _, by decide +kernel, by decide +kernel⟩
theorem wq_16 : cwk 18002 (cpk 16 (am_sln.getD 16 0)) := ⟨3, cdg [13, 5, 20], by decide, cdg_v _ (by decide) _, by decide +kernel, by decide +kernel⟩
theorem wq_17 : cwk 43523993 (cpk 17 (am_sln.getD 17 0)) := ⟨5, cdg [23, 8, 9, 20, 5], by decide, cdg_v _ (by decide) _, by decide +kernel, by decide +kernel⟩
theorem wq_18 : cwk 19741 (cpk 18 (am_sln.getD 18 0)) := ⟨3, cdg [14, 15, 20], by decide, cdg_v _ (by decide) _, by decide +kernel, by decide +kernel⟩
theorem wq_19 : cwk 1891 (cpk 19 (am_sln.getD 19 0)) := ⟨3, cdg [1, 14, 4], by decide, cdg_v _ (by decide) _, by decide +kernel, by decide +kernel⟩
theorem wq_20 : cwk 573 (cpk 20 (am_sln.getD 20 0)) := ⟨2, cdg [15, 18], by decide, cdg_v _ (by decide) _, by decide +kernel, by decide +kernel⟩
theorem wq_21 : cwk 5538 (cpk 21 (am_sln.getD 21 0)) := ⟨3, cdg [4, 1, 25], by decide, cdg_v _ (by decide) _, by decide +kernel, by decide +kernel⟩
theorem wq_22 : cwk 17003 (cpk 22 (am_sln.getD 22 0)) := ⟨3, cdg [12, 15, 20], by decide, cdg_v _ (by decide) _, by decide +kernel, by decide +kernel⟩
theorem wq_23 : cwk 2083 (cpk 23 (am_sln.getD 23 0)) := ⟨3, cdg [1, 19, 11], by decide, cdg_v _ (by decide) _, by decide +kernel, by decide +kernel⟩
theorem c_isw_l {q : Nat} (hP : ex_P h) (hq : q < 26) (hend : pz_S 5 (some .boolean) am_r44 4 Q 43 [(4, .int (nI (am_sln.getD q 0))), (2, .long (cpk q (am_sln.getD q 0))), (0, .ref 1), (1, .ref (4000000 + q))] [] h) : ∀ (m i : Nat), i + m = am_sln.getD q 0 → pz_S 5 (some .boolean) am_r44 4 Q 15 [(4, .int (nI i)), (2, .long (cpk q i)), (0, .ref 1), (1, .ref (4000000 + q))] [] h := by
  have hlt := st_lt q
  intro m
  induction m with
  | zero =>
    intro i hi
    refine am_goX 3 (show am_rc h (4000000 + q) 20 ∧ 1 ≤ 8 ∧ h.2.2.2.2 + am_al 24 ≤ 175 ∧ am_call am_cod 4 24 [.ref (4000000 + q)] h (fun vv h' => pz_S 5 (some .boolean) am_r44 4 Q 21 [(4, .int (nI i)), (2, .long (cpk q i)), (0, .ref 1), (1, .ref (4000000 + q))] (vv.toList ++ [.int (nI i)]) h') from ⟨st_rc hq, by decide, ex_lim hP rfl, am_call.up (st_len hq hP ?_) (by decide)⟩)
    refine am_goX 1 (show ((nI (am_sln.getD q 0)) ≤ (nI i) → pz_S 5 (some .boolean) am_r44 4 Q 43 [(4, .int (nI i)), (2, .long (cpk q i)), (0, .ref 1), (1, .ref (4000000 + q))] [] h) ∧ (¬ ((nI (am_sln.getD q 0)) ≤ (nI i)) → pz_S 5 (some .boolean) am_r44 4 Q 24 [(4, .int (nI i)), (2, .long (cpk q i)), (0, .ref 1), (1, .ref (4000000 + q))] [] h) from ⟨fun hc => ?_, fun hc => ?_⟩)
    · have ei : i = am_sln.getD q 0 := by omega
      rw [ei]
      exact hend
    · exact absurd (nI_le (by omega) (by omega)) hc
  | succ m ih =>
    intro i hi
    refine am_goX 3 (show am_rc h (4000000 + q) 20 ∧ 1 ≤ 8 ∧ h.2.2.2.2 + am_al 24 ≤ 175 ∧ am_call am_cod 4 24 [.ref (4000000 + q)] h (fun vv h' => pz_S 5 (some .boolean) am_r44 4 Q 21 [(4, .int (nI i)), (2, .long (cpk q i)), (0, .ref 1), (1, .ref (4000000 + q))] (vv.toList ++ [.int (nI i)]) h') from ⟨st_rc hq, by decide, ex_lim hP rfl, am_call.up (st_len hq hP ?_) (by decide)⟩)
    refine am_goX 1 (show ((nI (am_sln.getD q 0)) ≤ (nI i) → pz_S 5 (some .boolean) am_r44 4 Q 43 [(4, .int (nI i)), (2, .long (cpk q i)), (0, .ref 1), (1, .ref (4000000 + q))] [] h) ∧ (¬ ((nI (am_sln.getD q 0)) ≤ (nI i)) → pz_S 5 (some .boolean) am_r44 4 Q 24 [(4, .int (nI i)), (2, .long (cpk q i)), (0, .ref 1), (1, .ref (4000000 + q))] [] h) from ⟨fun hc => ?_, fun hc => ?_⟩)
    · rw [nI_leI (by omega) (by omega)] at hc
      omega
    clear hc
    refine am_goX 6 (show am_rc h (4000000 + q) 20 ∧ 2 ≤ 8 ∧ h.2.2.2.2 + am_al 45 ≤ 175 ∧ am_call am_cod 4 45 [.ref (4000000 + q), .int (nI i)] h (fun vv h' => pz_S 5 (some .boolean) am_r44 4 Q 34 [(4, .int (nI i)), (2, .long (cpk q i)), (0, .ref 1), (1, .ref (4000000 + q))] (vv.toList ++ [.long (((cpk q i)) <<< (((Int8.ofInt 8).toInt32).toInt64 &&& 63))]) h') from ⟨st_rc hq, by decide, ex_lim hP rfl, st_ch hq (by omega) hP ?_⟩)
    refine am_goX 5 (show 2 + 1 < 5 ∧ 4 < 5 ∧ pz_S 5 (some .boolean) am_r44 4 Q 15 [(4, .int ((nI i) + Int32.ofInt 1)), (2, .long (((((cpk q i)) <<< (((Int8.ofInt 8).toInt32).toInt64 &&& 63))) ||| (((st_b q i)).toInt64))), (0, .ref 1), (1, .ref (4000000 + q))] [] h from ⟨by decide, by decide, ?_⟩)
    rw [xw_i1]
    exact ih (i + 1) (by omega)
theorem c_isw {q : Nat} {w : Int64} (hq : q < 26) (hw : cwk w (cpk q (am_sln.getD q 0))) (l : c_t T sz a h) (hQ : Q (some (.int (pz_b (sp_w (tt T sz) a w)))) h) : am_call am_cod 5 44 [.ref 1, .ref (4000000 + q)] h Q := by
  have hP := c_P l
  have hk := ck_1 T sz a
  refine pz_call (n := 44) (nL := 5) (rt := (some .boolean)) (rows := am_r44) (d := 4) (by decide +kernel) (by decide +kernel) rfl (by funext pc; rfl) (ex_175 hP) (by exact Nat.le_of_ble_eq_true rfl) ?_
  refine am_goX 3 (show am_sh h 1 = some (7, 0) ∧ pz_S 5 (some .boolean) am_r44 4 Q 5 [(0, .ref 1), (1, .ref (4000000 + q))] [.int (Int32.ofInt 1), .int (h.1 1 2)] h from ⟨ex_1 hP, ?_⟩)
  rw [c_kd l]
  refine am_goX 1 (show ((ck (tt T sz a).1) = (Int32.ofInt 1) → pz_S 5 (some .boolean) am_r44 4 Q 10 [(0, .ref 1), (1, .ref (4000000 + q))] [] h) ∧ (¬ ((ck (tt T sz a).1) = (Int32.ofInt 1)) → pz_S 5 (some .boolean) am_r44 4 Q 8 [(0, .ref 1), (1, .ref (4000000 + q))] [] h) from ⟨fun hc => ?_, fun hc => ?_⟩)
  rotate_left
  · rw [decide_eq_false hc] at hk
    have e : sp_w (tt T sz) a w = false := by
      unfold sp_w
      rw [← hk]
      rfl
    rw [e] at hQ
    exact am_goX 2 (show (∃ ty, (some .boolean) = some ty ∧ narrow ty (.int ((Int32.ofInt 0))) = .int ((Int32.ofInt 0))) ∧ h.2.2.2.2 = 175 ∧ _ from ⟨⟨.boolean, rfl, rfl⟩, ex_175 hP, hQ⟩)
  rw [decide_eq_true hc] at hk
  have hw1 := c_wd l hk.symm
  have ew : sp_w (tt T sz) a w = decide ((tt T sz a).2.1 = w) := by
    unfold sp_w
    rw [← hk]
    rfl
  rw [ew] at hQ
  refine am_goX 4 (show 2 + 1 < 5 ∧ 4 < 5 ∧ pz_S 5 (some .boolean) am_r44 4 Q 15 [(4, .int (Int32.ofInt 0)), (2, .long (Int64.ofNat 0)), (0, .ref 1), (1, .ref (4000000 + q))] [] h from ⟨by decide, by decide, ?_⟩)
  refine c_isw_l hP hq ?_ (am_sln.getD q 0) 0 (Nat.zero_add _)
  refine am_goX 5 (show am_sh h 1 = some (7, 0) ∧ (¬ (lg_cmp ((h.2.1 1 5)) ((cpk q (am_sln.getD q 0)))) = 0 → pz_S 5 (some .boolean) am_r44 4 Q 56 [(4, .int (nI (am_sln.getD q 0))), (2, .long (cpk q (am_sln.getD q 0))), (0, .ref 1), (1, .ref (4000000 + q))] [] h) ∧ (¬ ¬ (lg_cmp ((h.2.1 1 5)) ((cpk q (am_sln.getD q 0)))) = 0 → pz_S 5 (some .boolean) am_r44 4 Q 52 [(4, .int (nI (am_sln.getD q 0))), (2, .long (cpk q (am_sln.getD q 0))), (0, .ref 1), (1, .ref (4000000 + q))] [] h) from ⟨ex_1 hP, fun hc => ?_, fun hc => ?_⟩)
  · have e : decide ((tt T sz a).2.1 = w) = false := decide_eq_false (fun e => hc ((pz_cmp _ _).mpr ((cwk_inj hw1 hw).mp e)))
    rw [e] at hQ
    exact am_goX 2 (show (∃ ty, (some .boolean) = some ty ∧ narrow ty (.int ((Int32.ofInt 0))) = .int ((Int32.ofInt 0))) ∧ h.2.2.2.2 = 175 ∧ _ from ⟨⟨.boolean, rfl, rfl⟩, ex_175 hP, hQ⟩)
  · have e : decide ((tt T sz a).2.1 = w) = true := decide_eq_true ((cwk_inj hw1 hw).mpr ((pz_cmp _ _).mp (Decidable.not_not.mp hc)))
    rw [e] at hQ
    exact am_goX 3 (show (∃ ty, (some .boolean) = some ty ∧ narrow ty (.int ((Int32.ofInt 1))) = .int ((Int32.ofInt 1))) ∧ h.2.2.2.2 = 175 ∧ _ from ⟨⟨.boolean, rfl, rfl⟩, ex_175 hP, hQ⟩)
theorem c_iss {x : Int32} (l : c_t T sz a h) (hQ : Q (some (.int (pz_b (sp_s (tt T sz) a x)))) h) : am_call am_cod 1 62 [.ref 1, .int x] h Q := by
  have hP := c_P l
  have hk := ck_3 T sz a
  refine pz_call (n := 62) (nL := 2) (rt := (some .boolean)) (rows := am_r62) (d := 0) (by decide +kernel) (by decide +kernel) rfl (by funext pc; rfl) (ex_175 hP) (by exact Nat.le_of_ble_eq_true rfl) ?_
  refine am_goX 3 (show am_sh h 1 = some (7, 0) ∧ pz_S 2 (some .boolean) am_r62 0 Q 5 [(0, .ref 1), (1, .int x)] [.int (Int32.ofInt 3), .int (h.1 1 2)] h from ⟨ex_1 hP, ?_⟩)
  rw [c_kd l]
  refine am_goX 1 (show (¬ (ck (tt T sz a).1) = (Int32.ofInt 3) → pz_S 2 (some .boolean) am_r62 0 Q 25 [(0, .ref 1), (1, .int x)] [] h) ∧ (¬ ¬ (ck (tt T sz a).1) = (Int32.ofInt 3) → pz_S 2 (some .boolean) am_r62 0 Q 8 [(0, .ref 1), (1, .int x)] [] h) from ⟨fun hc => ?_, fun hc => ?_⟩)
  · rw [decide_eq_false hc] at hk
    have e : sp_s (tt T sz) a x = false := by
      unfold sp_s
      rw [← hk]
      rfl
    rw [e] at hQ
    exact am_goX 2 (show (∃ ty, (some .boolean) = some ty ∧ narrow ty (.int ((Int32.ofInt 0))) = .int ((Int32.ofInt 0))) ∧ h.2.2.2.2 = 175 ∧ _ from ⟨⟨.boolean, rfl, rfl⟩, ex_175 hP, hQ⟩)
  rw [decide_eq_true (Decidable.not_not.mp hc)] at hk
  have h3 : kz T sz (tk_pl T sz a) = 3 := sp_kt hk.symm
  have hps : tk_pl T sz a < sz := kz_lt (by rw [h3]; decide)
  have hz := l.1.2.1
  have ev : (tt T sz a).2.1 = (T (tk_pl T sz a)).toInt64 := kz_3 h3
  have ew : sp_s (tt T sz) a x = decide ((T (tk_pl T sz a)).toInt64 = x.toInt64) := by
    unfold sp_s
    rw [← hk, ev]
    rfl
  rw [ew] at hQ
  clear hc
  refine am_goX 2 (show am_sh h 1 = some (7, 0) ∧ pz_S 2 (some .boolean) am_r62 0 Q 12 [(0, .ref 1), (1, .int x)] [am_rf (h.2.2.1 1 0)] h from ⟨ex_1 hP, ?_⟩)
  rw [ex_r1_0 hP]
  refine am_goX 3 (show am_sh h 1 = some (7, 0) ∧ ∃ jj nn : Nat, am_sh h 2 = some (12, nn) ∧ jj < nn ∧ (h.1 1 3) = nI jj ∧ pz_S 2 (some .boolean) am_r62 0 Q 17 [(0, .ref 1), (1, .int x)] [.int (h.1 2 jj)] h from ⟨ex_1 hP, (tk_pl T sz a), 1000, ex_2 hP, by omega, c_pl l, ?_⟩)
  rw [l.2.2.1 _ hps]
  refine am_goX 2 (show (¬ (T (tk_pl T sz a)) = x → pz_S 2 (some .boolean) am_r62 0 Q 25 [(0, .ref 1), (1, .int x)] [] h) ∧ (¬ ¬ (T (tk_pl T sz a)) = x → pz_S 2 (some .boolean) am_r62 0 Q 21 [(0, .ref 1), (1, .int x)] [] h) from ⟨fun hc => ?_, fun hc => ?_⟩)
  · have e : decide ((T (tk_pl T sz a)).toInt64 = x.toInt64) = false := decide_eq_false (fun e => hc (Int32.toInt_inj.mp (by rw [← Int32.toInt_toInt64, e, Int32.toInt_toInt64])))
    rw [e] at hQ
    exact am_goX 2 (show (∃ ty, (some .boolean) = some ty ∧ narrow ty (.int ((Int32.ofInt 0))) = .int ((Int32.ofInt 0))) ∧ h.2.2.2.2 = 175 ∧ _ from ⟨⟨.boolean, rfl, rfl⟩, ex_175 hP, hQ⟩)
  · have e : decide ((T (tk_pl T sz a)).toInt64 = x.toInt64) = true := decide_eq_true (by rw [Decidable.not_not.mp hc])
    rw [e] at hQ
    exact am_goX 3 (show (∃ ty, (some .boolean) = some ty ∧ narrow ty (.int ((Int32.ofInt 1))) = .int ((Int32.ofInt 1))) ∧ h.2.2.2.2 = 175 ∧ _ from ⟨⟨.boolean, rfl, rfl⟩, ex_175 hP, hQ⟩)
def nm_f (w : Int64) : Nat → Nat → Int64 → Bool
  | 0, _, _ => true
  | m + 1, i, k => bif decide (st_b 2 i = (Int8.ofInt 32).toInt32) then (bif decide (k = w) then false else nm_f w m (i + 1) (Int64.ofNat 0)) else nm_f w m (i + 1) (((k) <<< (((Int8.ofInt 8).toInt32).toInt64 &&& 63)) ||| ((st_b 2 i).toInt64))
def nm_l : Nat → Nat → Int64 → List Int64
  | 0, _, _ => []
  | m + 1, i, k => bif decide (st_b 2 i = (Int8.ofInt 32).toInt32) then k :: nm_l m (i + 1) (Int64.ofNat 0) else nm_l m (i + 1) (((k) <<< (((Int8.ofInt 8).toInt32).toInt64 &&& 63)) ||| ((st_b 2 i).toInt64))
theorem nm_fl (w : Int64) : ∀ (m i : Nat) (k : Int64), nm_f w m i k = (nm_l m i k).all (fun x => !decide (x = w))
  | 0, _, _ => rfl
  | m + 1, i, k => by
    unfold nm_f nm_l
    cases decide (st_b 2 i = (Int8.ofInt 32).toInt32) with
    | true =>
      show (bif decide (k = w) then false else nm_f w m (i + 1) (Int64.ofNat 0)) = (!decide (k = w) && (nm_l m (i + 1) (Int64.ofNat 0)).all (fun x => !decide (x = w)))
      rw [nm_fl w m (i + 1) (Int64.ofNat 0)]
      cases decide (k = w) with
      | true => rfl
      | false => rfl
    | false => exact nm_fl w m (i + 1) _
theorem nm_ln : am_sln.getD 2 0 = 86 := by decide +kernel
theorem nm_ls : nm_l 86 0 (Int64.ofNat 0) = [cpk 1 (am_sln.getD 1 0), cpk 7 (am_sln.getD 7 0), cpk 8 (am_sln.getD 8 0), cpk 9 (am_sln.getD 9 0), cpk 10 (am_sln.getD 10 0), cpk 11 (am_sln.getD 11 0), cpk 12 (am_sln.getD 12 0), cpk 13 (am_sln.getD 13 0), cpk 21 (am_sln.getD 21 0), cpk 23 (am_sln.getD 23 0), cpk 3 (am_sln.getD 3 0), cpk 4 (am_sln.getD 4 0), cpk 5 (am_sln.getD 5 0), cpk 6 (am_sln.getD 6 0), cpk 18 (am_sln.getD 18 0), cpk 19 (am_sln.getD 19 0), cpk 20 (am_sln.getD 20 0)] := by decide +kernel
theorem cwk_d {v w v1 w1 : Int64} (h1 : cwk v w) (h2 : cwk v1 w1) : decide (w1 = w) = decide (v = v1) := by
  by_cases e : v = v1
  · rw [decide_eq_true e, decide_eq_true ((cwk_inj h1 h2).mp e).symm]
  · rw [decide_eq_false e, decide_eq_false (fun z => e ((cwk_inj h1 h2).mpr z.symm))]
theorem nm_ok {v w : Int64} (hw : cwk v w) : nm_f w 86 0 (Int64.ofNat 0) = sp_rs.all (fun x => !decide (v = x)) := by
  rw [nm_fl, nm_ls]
  unfold sp_rs
  simp only [List.all_cons, List.all_nil, cwk_d hw wq_1, cwk_d hw wq_7, cwk_d hw wq_8, cwk_d hw wq_9, cwk_d hw wq_10, cwk_d hw wq_11, cwk_d hw wq_12, cwk_d hw wq_13, cwk_d hw wq_21, cwk_d hw wq_23, cwk_d hw wq_3, cwk_d hw wq_4, cwk_d hw wq_5, cwk_d hw wq_6, cwk_d hw wq_18, cwk_d hw wq_19, cwk_d hw wq_20]
theorem c_isn_l {w : Int64} (hP : ex_P h) (ew : h.2.1 1 5 = w) : ∀ (m i : Nat) (k : Int64), i + m = 86 → Q (some (.int (pz_b (nm_f w m i k)))) h → pz_S 4 (some .boolean) am_r54 4 Q 14 [(3, .int (nI i)), (1, .long k), (0, .ref 1)] [] h := by
  intro m
  induction m with
  | zero =>
    intro i k hi hQ
    refine am_goX 3 (show am_rc h (4000000 + 2) 20 ∧ 1 ≤ 8 ∧ h.2.2.2.2 + am_al 24 ≤ 175 ∧ am_call am_cod 4 24 [.ref (4000000 + 2)] h (fun vv h' => pz_S 4 (some .boolean) am_r54 4 Q 20 [(3, .int (nI i)), (1, .long k), (0, .ref 1)] (vv.toList ++ [.int (nI i)]) h') from ⟨st_rc (by decide), by decide, ex_lim hP rfl, am_call.up (st_len (by decide) hP ?_) (by decide)⟩)
    rw [nm_ln]
    refine am_goX 1 (show ((nI 86) ≤ (nI i) → pz_S 4 (some .boolean) am_r54 4 Q 69 [(3, .int (nI i)), (1, .long k), (0, .ref 1)] [] h) ∧ (¬ ((nI 86) ≤ (nI i)) → pz_S 4 (some .boolean) am_r54 4 Q 23 [(3, .int (nI i)), (1, .long k), (0, .ref 1)] [] h) from ⟨fun hc => ?_, fun hc => ?_⟩)
    · exact am_goX 2 (show (∃ ty, (some .boolean) = some ty ∧ narrow ty (.int ((Int32.ofInt 1))) = .int ((Int32.ofInt 1))) ∧ h.2.2.2.2 = 175 ∧ _ from ⟨⟨.boolean, rfl, rfl⟩, ex_175 hP, hQ⟩)
    · exact absurd (nI_le (by omega) (by omega)) hc
  | succ m ih =>
    intro i k hi hQ
    refine am_goX 3 (show am_rc h (4000000 + 2) 20 ∧ 1 ≤ 8 ∧ h.2.2.2.2 + am_al 24 ≤ 175 ∧ am_call am_cod 4 24 [.ref (4000000 + 2)] h (fun vv h' => pz_S 4 (some .boolean) am_r54 4 Q 20 [(3, .int (nI i)), (1, .long k), (0, .ref 1)] (vv.toList ++ [.int (nI i)]) h') from ⟨st_rc (by decide), by decide, ex_lim hP rfl, am_call.up (st_len (by decide) hP ?_) (by decide)⟩)
    rw [nm_ln]
    refine am_goX 1 (show ((nI 86) ≤ (nI i) → pz_S 4 (some .boolean) am_r54 4 Q 69 [(3, .int (nI i)), (1, .long k), (0, .ref 1)] [] h) ∧ (¬ ((nI 86) ≤ (nI i)) → pz_S 4 (some .boolean) am_r54 4 Q 23 [(3, .int (nI i)), (1, .long k), (0, .ref 1)] [] h) from ⟨fun hc => ?_, fun hc => ?_⟩)
    · rw [nI_leI (by omega) (by omega)] at hc
      omega
    clear hc
    have hil : i < am_sln.getD 2 0 := by rw [nm_ln]; omega
    unfold nm_f at hQ
    refine am_goX 3 (show am_rc h (4000000 + 2) 20 ∧ 0 ≤ 8 ∧ h.2.2.2.2 + am_al 45 ≤ 175 ∧ am_call am_cod 4 45 [.ref (4000000 + 2), .int (nI i)] h (fun vv h' => pz_S 4 (some .boolean) am_r54 4 Q 29 [(3, .int (nI i)), (1, .long k), (0, .ref 1)] (vv.toList ++ []) h') from ⟨st_rc (by decide), by decide, ex_lim hP rfl, st_ch (by decide) hil hP ?_⟩)
    refine am_goX 2 (show ((st_b 2 i) = (Int8.ofInt 32).toInt32 → pz_S 4 (some .boolean) am_r54 4 Q 50 [(3, .int (nI i)), (1, .long k), (0, .ref 1)] [] h) ∧ (¬ ((st_b 2 i) = (Int8.ofInt 32).toInt32) → pz_S 4 (some .boolean) am_r54 4 Q 34 [(3, .int (nI i)), (1, .long k), (0, .ref 1)] [] h) from ⟨fun hc => ?_, fun hc => ?_⟩)
    · rw [decide_eq_true hc] at hQ
      refine am_goX 5 (show am_sh h 1 = some (7, 0) ∧ (¬ (lg_cmp (k) ((h.2.1 1 5))) = 0 → pz_S 4 (some .boolean) am_r54 4 Q 61 [(3, .int (nI i)), (1, .long k), (0, .ref 1)] [] h) ∧ (¬ ¬ (lg_cmp (k) ((h.2.1 1 5))) = 0 → pz_S 4 (some .boolean) am_r54 4 Q 59 [(3, .int (nI i)), (1, .long k), (0, .ref 1)] [] h) from ⟨ex_1 hP, fun hc => ?_, fun hc => ?_⟩)
      · rw [decide_eq_false (fun e => hc ((pz_cmp _ _).mpr (e.trans ew.symm)))] at hQ
        refine am_goX 4 (show 1 + 1 < 4 ∧ 3 < 4 ∧ pz_S 4 (some .boolean) am_r54 4 Q 14 [(3, .int ((nI i) + Int32.ofInt 1)), (1, .long (Int64.ofNat 0)), (0, .ref 1)] [] h from ⟨by decide, by decide, ?_⟩)
        rw [xw_i1]
        exact ih (i + 1) _ (by omega) hQ
      · rw [decide_eq_true (((pz_cmp _ _).mp (Decidable.not_not.mp hc)).trans ew)] at hQ
        exact am_goX 2 (show (∃ ty, (some .boolean) = some ty ∧ narrow ty (.int ((Int32.ofInt 0))) = .int ((Int32.ofInt 0))) ∧ h.2.2.2.2 = 175 ∧ _ from ⟨⟨.boolean, rfl, rfl⟩, ex_175 hP, hQ⟩)
    · rw [decide_eq_false hc] at hQ
      refine am_goX 6 (show am_rc h (4000000 + 2) 20 ∧ 2 ≤ 8 ∧ h.2.2.2.2 + am_al 45 ≤ 175 ∧ am_call am_cod 4 45 [.ref (4000000 + 2), .int (nI i)] h (fun vv h' => pz_S 4 (some .boolean) am_r54 4 Q 44 [(3, .int (nI i)), (1, .long k), (0, .ref 1)] (vv.toList ++ [.long ((k) <<< (((Int8.ofInt 8).toInt32).toInt64 &&& 63))]) h') from ⟨st_rc (by decide), by decide, ex_lim hP rfl, st_ch (by decide) hil hP ?_⟩)
      refine am_goX 6 (show 1 + 1 < 4 ∧ 3 < 4 ∧ pz_S 4 (some .boolean) am_r54 4 Q 14 [(3, .int ((nI i) + Int32.ofInt 1)), (1, .long ((((k) <<< (((Int8.ofInt 8).toInt32).toInt64 &&& 63))) ||| (((st_b 2 i)).toInt64))), (0, .ref 1)] [] h from ⟨by decide, by decide, ?_⟩)
      rw [xw_i1]
      exact ih (i + 1) _ (by omega) hQ
theorem c_isn (l : c_t T sz a h) (hQ : Q (some (.int (pz_b (sp_n (tt T sz) a)))) h) : am_call am_cod 5 54 [.ref 1] h Q := by
  have hP := c_P l
  have hk := ck_1 T sz a
  refine pz_call (n := 54) (nL := 4) (rt := (some .boolean)) (rows := am_r54) (d := 4) (by decide +kernel) (by decide +kernel) rfl (by funext pc; rfl) (ex_175 hP) (by exact Nat.le_of_ble_eq_true rfl) ?_
  refine am_goX 3 (show am_sh h 1 = some (7, 0) ∧ pz_S 4 (some .boolean) am_r54 4 Q 5 [(0, .ref 1)] [.int (Int32.ofInt 1), .int (h.1 1 2)] h from ⟨ex_1 hP, ?_⟩)
  rw [c_kd l]
  refine am_goX 1 (show ((ck (tt T sz a).1) = (Int32.ofInt 1) → pz_S 4 (some .boolean) am_r54 4 Q 10 [(0, .ref 1)] [] h) ∧ (¬ ((ck (tt T sz a).1) = (Int32.ofInt 1)) → pz_S 4 (some .boolean) am_r54 4 Q 8 [(0, .ref 1)] [] h) from ⟨fun hc => ?_, fun hc => ?_⟩)
  rotate_left
  · rw [decide_eq_false hc] at hk
    have e : sp_n (tt T sz) a = false := by
      unfold sp_n
      rw [← hk]
      rfl
    rw [e] at hQ
    exact am_goX 2 (show (∃ ty, (some .boolean) = some ty ∧ narrow ty (.int ((Int32.ofInt 0))) = .int ((Int32.ofInt 0))) ∧ h.2.2.2.2 = 175 ∧ _ from ⟨⟨.boolean, rfl, rfl⟩, ex_175 hP, hQ⟩)
  rw [decide_eq_true hc] at hk
  have hw1 := c_wd l hk.symm
  have ew : sp_n (tt T sz) a = nm_f (h.2.1 1 5) 86 0 (Int64.ofNat 0) := by
    unfold sp_n
    rw [← hk, nm_ok hw1]
    rfl
  rw [ew] at hQ
  refine am_goX 4 (show 1 + 1 < 4 ∧ 3 < 4 ∧ pz_S 4 (some .boolean) am_r54 4 Q 14 [(3, .int (Int32.ofInt 0)), (1, .long (Int64.ofNat 0)), (0, .ref 1)] [] h from ⟨by decide, by decide, ?_⟩)
  exact c_isn_l hP rfl 86 0 _ rfl hQ
theorem c_refuse {k : Int32} (l : c_t T sz a h) (hQ : Q (some (.int (Int32.ofInt 0))) (am_wI h 1 7 (sp_ft (tt T sz) a k))) : am_call am_cod 1 52 [.ref 1, .int k] h Q := by
  have hP := c_P l
  refine pz_call (n := 52) (nL := 2) (rt := (some .boolean)) (rows := am_r52) (d := 0) (by decide +kernel) (by decide +kernel) rfl (by funext pc; rfl) (ex_175 hP) (by exact Nat.le_of_ble_eq_true rfl) ?_
  refine am_goX 8 (show am_sh h 1 = some (7, 0) ∧ am_sh h 1 = some (7, 0) ∧ narrow (am_fty 7 7) (.int ((k + ((Int8.ofInt 16).toInt32 * (h.1 1 3))))) = .int ((k + ((Int8.ofInt 16).toInt32 * (h.1 1 3)))) ∧ fits (am_fty 7 7) (.int ((k + ((Int8.ofInt 16).toInt32 * (h.1 1 3))))) = true ∧ pz_S 2 (some .boolean) am_r52 0 Q 13 [(0, .ref 1), (1, .int k)] [] (am_wI h 1 7 ((k + ((Int8.ofInt 16).toInt32 * (h.1 1 3))))) from ⟨ex_1 hP, ex_1 hP, rfl, rfl, ?_⟩)
  rw [c_pl l]
  exact am_goX 2 (show (∃ ty, (some .boolean) = some ty ∧ narrow ty (.int ((Int32.ofInt 0))) = .int ((Int32.ofInt 0))) ∧ (am_wI h 1 7 (k + (Int8.ofInt 16).toInt32 * nI (tk_pl T sz a))).2.2.2.2 = 175 ∧ _ from ⟨⟨.boolean, rfl, rfl⟩, ex_175 hP, hQ⟩)
/-! THE CANTON BEING READ: in the objects c .. c + 10 -/
/-- snow: none ahead of its line; 28 days -/
def sp_28 (x : Int32) : Prop := x.toBitVec.toNat < 268435456
def sp_sK (x : Bool × Int32) : Prop := (x.1 = false → x.2 = 0) ∧ sp_28 x.2
def c_c (c : Nat) (C : sp_C) (h : am_H) : Prop :=
  (h.1 c 0 = nI C.1.1 ∧ C.1.1 ≤ 6 ∧ ∀ i, i < C.1.1 → cwk (C.1.2.1 i) (h.2.1 (c + 1) i) ∧ h.1 (c + 2) i = C.1.2.2.1 i ∧ h.1 (c + 3) i = C.1.2.2.2 i) ∧
  (h.1 c 4 = nI C.2.1.1 ∧ C.2.1.1 ≤ 5 ∧ ∀ i, i < C.2.1.1 → cwk (C.2.1.2.1 i) (h.2.1 (c + 4) i) ∧ h.1 (c + 5) i = C.2.1.2.2.1 i ∧ h.1 (c + 6) i = C.2.1.2.2.2.1 i ∧ h.1 (c + 7) i = C.2.1.2.2.2.2 i) ∧
  (h.1 c 9 = pz_b C.2.2.1.1 ∧ h.1 c 10 = C.2.2.1.2 ∧ sp_sK C.2.2.1) ∧ (h.1 c 11 = pz_b C.2.2.2.1 ∧ h.1 (c + 8) 2 = nI C.2.2.2.2.1 ∧ C.2.2.2.2.1 ≤ 1000 ∧ ∀ i, i < C.2.2.2.2.1 → h.1 (c + 9) i = C.2.2.2.2.2 i)
def c_in (c o : Nat) : Prop := o = 1 ∨ (c ≤ o ∧ o ≤ c + 10)
def c_q (c : Nat) (h0 h : am_H) : Prop := h.2.2 = h0.2.2 ∧ ∀ o k, ¬ c_in c o → h.1 o k = h0.1 o k ∧ h.2.1 o k = h0.2.1 o k
/-- the a-th token at hand, the canton so far -/
def cr (h0 : am_H) (c : Nat) (T : Nat → Int32) (sz : Nat) (s : sp_S) (h : am_H) : Prop := c_t T sz s.1 h ∧ c_c c s.2 h ∧ c_q c h0 h ∧ s.2.2.2.2.2.1 ≤ s.1
/-- a fault was told -/
def cx (h0 : am_H) (c : Nat) (F : Int32) (h : am_H) : Prop := ex_P h ∧ (h.1 1 7 = F ∧ ¬ F = 0) ∧ c_q c h0 h ∧ ∃ k, k ≤ 1000 ∧ h.1 (c + 8) 2 = nI k
def cres (h0 : am_H) (c : Nat) (T : Nat → Int32) (sz : Nat) (r : sp_R) (v : Option Value) (h : am_H) : Prop := match r with
  | .inl F => v = some (.int 0) ∧ cx h0 c F h
  | .inr s => v = some (.int 1) ∧ cr h0 c T sz s h
theorem c_c_eq {C : sp_C} {h1 : am_H} (he : ∀ o k, c ≤ o → o ≤ c + 10 → h1.1 o k = h.1 o k ∧ h1.2.1 o k = h.2.1 o k) (l : c_c c C h) : c_c c C h1 := by
  obtain ⟨⟨a1, a2, a3⟩, ⟨b1, b2, b3⟩, ⟨d1, d2, d3⟩, ⟨e1, e2, e3, e4⟩⟩ := l
  refine ⟨⟨?_, a2, fun i hi => ?_⟩, ⟨?_, b2, fun i hi => ?_⟩, ⟨?_, ?_, d3⟩, ⟨?_, ?_, e3, fun i hi => ?_⟩⟩
  · rw [(he c 0 (by omega) (by omega)).1]; exact a1
  · rw [(he (c + 1) i (by omega) (by omega)).2, (he (c + 2) i (by omega) (by omega)).1, (he (c + 3) i (by omega) (by omega)).1]; exact a3 i hi
  · rw [(he c 4 (by omega) (by omega)).1]; exact b1
  · rw [(he (c + 4) i (by omega) (by omega)).2, (he (c + 5) i (by omega) (by omega)).1, (he (c + 6) i (by omega) (by omega)).1, (he (c + 7) i (by omega) (by omega)).1]; exact b3 i hi
  · rw [(he c 9 (by omega) (by omega)).1]; exact d1
  · rw [(he c 10 (by omega) (by omega)).1]; exact d2
  · rw [(he c 11 (by omega) (by omega)).1]; exact e1
  · rw [(he (c + 8) 2 (by omega) (by omega)).1]; exact e2
  · rw [(he (c + 9) i (by omega) (by omega)).1]; exact e4 i hi
theorem c_q_fr {h1 : am_H} (l : c_q c h0 h) (f : fr1 h h1) : c_q c h0 h1 := ⟨f.1.trans l.1, fun o k ho => by
  have h1 : ¬ o = 1 := fun z => ho (Or.inl z)
  exact ⟨(f.2 o k h1).1.trans (l.2 o k ho).1, (f.2 o k h1).2.trans (l.2 o k ho).2⟩⟩
theorem c_c_fr {C : sp_C} {h1 : am_H} (hc : 1 < c) (l : c_c c C h) (f : fr1 h h1) : c_c c C h1 := c_c_eq (fun o k h2 _ => f.2 o k (by omega)) l
/-- on to the next token -/
theorem cr_fr {h1 : am_H} {a' : Nat} {C : sp_C} (hc : 1 < c) (l : cr h0 c T sz (a, C) h) (t : c_t T sz a' h1) (ha : a ≤ a') (f : fr1 h h1) : cr h0 c T sz (a', C) h1 := ⟨t, c_c_fr hc l.2.1 f, c_q_fr l.2.2.1 f, Nat.le_trans l.2.2.2 ha⟩
theorem sp_ft0 (l : c_t T sz a h) {k : Int32} (hk : 1 ≤ k.toInt ∧ k.toInt ≤ 5) : ¬ sp_ft (tt T sz) a k = 0 := by
  intro e
  have e1 : (k + (Int8.ofInt 16).toInt32 * nI (tk_pl T sz a)).toInt = 0 := congrArg Int32.toInt e
  have hz := l.1.2.1
  have hp := l.2.2.2.2.2.1
  rw [Int32.toInt_add, Int32.toInt_mul, nI_toInt (by omega), show ((Int8.ofInt 16).toInt32).toInt = 16 from rfl, Int.bmod_eq_of_le (n := 16 * ↑(tk_pl T sz a)) (by omega) (by omega), Int.bmod_eq_of_le (by omega) (by omega)] at e1
  omega
theorem fr1_7 {v : Int32} : fr1 h (am_wI h 1 7 v) := ⟨rfl, fun _ _ ho => ⟨em_wn h _ (by omega), rfl⟩⟩
theorem cr_x {k : Int32} (hc : 1 < c) (l : cr h0 c T sz s h) (hk : 1 ≤ k.toInt ∧ k.toInt ≤ 5) : cx h0 c (sp_ft (tt T sz) s.1 k) (am_wI h 1 7 (sp_ft (tt T sz) s.1 k)) :=
  ⟨l.1.1.1, ⟨em_we h 1 7 _, sp_ft0 l.1 hk⟩, c_q_fr l.2.2.1 fr1_7, s.2.2.2.2.2.1, l.2.1.2.2.2.2.2.1, by rw [em_wn h _ (by omega)]; exact l.2.1.2.2.2.2.1⟩
theorem cres_inl {F : Int32} {r : sp_R} {v : Option Value} {h1 : am_H} (e : r = .inl F) (hv : v = some (.int 0)) (x : cx h0 c F h1) : cres h0 c T sz r v h1 := by
  rw [e]
  exact ⟨hv, x⟩
theorem cres_inr {s' : sp_S} {r : sp_R} {v : Option Value} {h1 : am_H} (e : r = .inr s') (hv : v = some (.int 1)) (x : cr h0 c T sz s' h1) : cres h0 c T sz r v h1 := by
  rw [e]
  exact ⟨hv, x⟩
theorem cres_cs {r : sp_R} {v : Option Value} {h1 : am_H} (x : cres h0 c T sz r v h1) : (∃ F, r = .inl F ∧ v = some (.int 0) ∧ cx h0 c F h1) ∨ (∃ s', r = .inr s' ∧ v = some (.int 1) ∧ cr h0 c T sz s' h1) := by
  cases r with
  | inl F => exact Or.inl ⟨F, rfl, x.1, x.2⟩
  | inr s' => exact Or.inr ⟨s', rfl, x.1, x.2⟩
theorem sp_kn {τ : sp_T} {k : Int32} (hk : ¬ k = 0) (e : sp_k τ a k = true) : ¬ (τ a).1 = 0 := fun z => hk ((sp_kt e).symm.trans z)
theorem sp_wn {τ : sp_T} {w : Int64} (e : sp_w τ a w = true) : ¬ (τ a).1 = 0 := sp_kn (by decide) (Bool.and_eq_true _ _ ▸ e : _ ∧ _).1
theorem sp_sn {τ : sp_T} {x : Int32} (e : sp_s τ a x = true) : ¬ (τ a).1 = 0 := sp_kn (by decide) (Bool.and_eq_true _ _ ▸ e : _ ∧ _).1
theorem sp_nn {τ : sp_T} (e : sp_n τ a = true) : ¬ (τ a).1 = 0 := sp_kn (by decide) (Bool.and_eq_true _ _ ▸ e : _ ∧ _).1
theorem c_tW {q : Nat} {w : Int64} (hq : q < 26) (hw : cwk w (cpk q (am_sln.getD q 0))) (hc : 1 < c) (l : cr h0 c T sz s h) (hQ : ∀ v h1, cres h0 c T sz (sp_tW (tt T sz) w s) v h1 → fr1 h h1 → Q v h1) : am_call am_cod 6 58 [.ref 1, .ref (4000000 + q)] h Q := by
  have hP := c_P l.1
  refine pz_call (n := 58) (nL := 2) (rt := (some .boolean)) (rows := am_r58) (d := 5) (by decide +kernel) (by decide +kernel) rfl (by funext pc; rfl) (ex_175 hP) (by exact Nat.le_of_ble_eq_true rfl) ?_
  refine am_goX 3 (show am_rc h 1 7 ∧ 0 ≤ 8 ∧ h.2.2.2.2 + am_al 44 ≤ 175 ∧ am_call am_cod 5 44 [.ref 1, .ref (4000000 + q)] h (fun vv h' => pz_S 2 (some .boolean) am_r58 5 Q 5 [(0, .ref 1), (1, .ref (4000000 + q))] (vv.toList ++ []) h') from ⟨Or.inl ⟨by decide, ex_1 hP⟩, by decide, ex_lim hP rfl, c_isw hq hw l.1 ?_⟩)
  cases e : sp_w (tt T sz) s.1 w with
  | true =>
    refine am_goX 1 (show (¬ (pz_b (true)) = 0 → pz_S 2 (some .boolean) am_r58 5 Q 14 [(0, .ref 1), (1, .ref (4000000 + q))] [] h) ∧ (¬ ¬ (pz_b (true)) = 0 → pz_S 2 (some .boolean) am_r58 5 Q 8 [(0, .ref 1), (1, .ref (4000000 + q))] [] h) from ⟨fun _ => ?_, fun hz => absurd (by decide) hz⟩)
    refine am_goX 2 (show am_rc h 1 7 ∧ 0 ≤ 8 ∧ h.2.2.2.2 + am_al 18 ≤ 175 ∧ am_call am_cod 5 18 [.ref 1] h (fun vv h' => pz_S 2 (some .boolean) am_r58 5 Q 18 [(0, .ref 1), (1, .ref (4000000 + q))] (vv.toList ++ []) h') from ⟨Or.inl ⟨by decide, ex_1 hP⟩, by decide, ex_lim hP rfl, am_call.up (c_step l.1 (sp_wn e) (fun h1 m f => ?_)) (by decide)⟩)
    exact am_goX 2 (show (∃ ty, (some .boolean) = some ty ∧ narrow ty (.int ((Int32.ofInt 1))) = .int ((Int32.ofInt 1))) ∧ h1.2.2.2.2 = 175 ∧ _ from ⟨⟨.boolean, rfl, rfl⟩, ex_175 (c_P m), hQ _ h1 (cres_inr (by unfold sp_tW; rw [e]; rfl) rfl (cr_fr (a := s.1) (C := s.2) hc l m (Nat.le_succ _) f)) f⟩)
  | false =>
    refine am_goX 1 (show (¬ (pz_b (false)) = 0 → pz_S 2 (some .boolean) am_r58 5 Q 14 [(0, .ref 1), (1, .ref (4000000 + q))] [] h) ∧ (¬ ¬ (pz_b (false)) = 0 → pz_S 2 (some .boolean) am_r58 5 Q 8 [(0, .ref 1), (1, .ref (4000000 + q))] [] h) from ⟨fun hz => absurd hz (by decide), fun _ => ?_⟩)
    refine am_goX 3 (show am_rc h 1 7 ∧ 0 ≤ 8 ∧ h.2.2.2.2 + am_al 52 ≤ 175 ∧ am_call am_cod 5 52 [.ref 1, .int (Int32.ofInt 1)] h (fun vv h' => pz_S 2 (some .boolean) am_r58 5 Q 13 [(0, .ref 1), (1, .ref (4000000 + q))] (vv.toList ++ []) h') from ⟨Or.inl ⟨by decide, ex_1 hP⟩, by decide, ex_lim hP rfl, am_call.up (c_refuse l.1 ?_) (by decide)⟩)
    exact am_goX 1 (show (∃ ty, (some .boolean) = some ty ∧ narrow ty (.int ((Int32.ofInt 0))) = .int ((Int32.ofInt 0))) ∧ (am_wI h 1 7 (sp_ft (tt T sz) s.1 (Int32.ofInt 1))).2.2.2.2 = 175 ∧ _ from ⟨⟨.boolean, rfl, rfl⟩, ex_175 hP, hQ _ _ (cres_inl (by unfold sp_tW; rw [e]; rfl) rfl (cr_x hc l (by decide))) fr1_7⟩)
theorem c_tS {x : Int32} (hc : 1 < c) (l : cr h0 c T sz s h) (hQ : ∀ v h1, cres h0 c T sz (sp_tS (tt T sz) x s) v h1 → fr1 h h1 → Q v h1) : am_call am_cod 6 61 [.ref 1, .int x] h Q := by
  have hP := c_P l.1
  refine pz_call (n := 61) (nL := 2) (rt := (some .boolean)) (rows := am_r61) (d := 5) (by decide +kernel) (by decide +kernel) rfl (by funext pc; rfl) (ex_175 hP) (by exact Nat.le_of_ble_eq_true rfl) ?_
  refine am_goX 3 (show am_rc h 1 7 ∧ 0 ≤ 8 ∧ h.2.2.2.2 + am_al 62 ≤ 175 ∧ am_call am_cod 5 62 [.ref 1, .int x] h (fun vv h' => pz_S 2 (some .boolean) am_r61 5 Q 5 [(0, .ref 1), (1, .int x)] (vv.toList ++ []) h') from ⟨Or.inl ⟨by decide, ex_1 hP⟩, by decide, ex_lim hP rfl, am_call.up (c_iss l.1 ?_) (by decide)⟩)
  cases e : sp_s (tt T sz) s.1 x with
  | true =>
    refine am_goX 1 (show (¬ (pz_b (true)) = 0 → pz_S 2 (some .boolean) am_r61 5 Q 14 [(0, .ref 1), (1, .int x)] [] h) ∧ (¬ ¬ (pz_b (true)) = 0 → pz_S 2 (some .boolean) am_r61 5 Q 8 [(0, .ref 1), (1, .int x)] [] h) from ⟨fun _ => ?_, fun hz => absurd (by decide) hz⟩)
    refine am_goX 2 (show am_rc h 1 7 ∧ 0 ≤ 8 ∧ h.2.2.2.2 + am_al 18 ≤ 175 ∧ am_call am_cod 5 18 [.ref 1] h (fun vv h' => pz_S 2 (some .boolean) am_r61 5 Q 18 [(0, .ref 1), (1, .int x)] (vv.toList ++ []) h') from ⟨Or.inl ⟨by decide, ex_1 hP⟩, by decide, ex_lim hP rfl, am_call.up (c_step l.1 (sp_sn e) (fun h1 m f => ?_)) (by decide)⟩)
    exact am_goX 2 (show (∃ ty, (some .boolean) = some ty ∧ narrow ty (.int ((Int32.ofInt 1))) = .int ((Int32.ofInt 1))) ∧ h1.2.2.2.2 = 175 ∧ _ from ⟨⟨.boolean, rfl, rfl⟩, ex_175 (c_P m), hQ _ h1 (cres_inr (by unfold sp_tS; rw [e]; rfl) rfl (cr_fr (a := s.1) (C := s.2) hc l m (Nat.le_succ _) f)) f⟩)
  | false =>
    refine am_goX 1 (show (¬ (pz_b (false)) = 0 → pz_S 2 (some .boolean) am_r61 5 Q 14 [(0, .ref 1), (1, .int x)] [] h) ∧ (¬ ¬ (pz_b (false)) = 0 → pz_S 2 (some .boolean) am_r61 5 Q 8 [(0, .ref 1), (1, .int x)] [] h) from ⟨fun hz => absurd hz (by decide), fun _ => ?_⟩)
    refine am_goX 3 (show am_rc h 1 7 ∧ 0 ≤ 8 ∧ h.2.2.2.2 + am_al 52 ≤ 175 ∧ am_call am_cod 5 52 [.ref 1, .int (Int32.ofInt 1)] h (fun vv h' => pz_S 2 (some .boolean) am_r61 5 Q 13 [(0, .ref 1), (1, .int x)] (vv.toList ++ []) h') from ⟨Or.inl ⟨by decide, ex_1 hP⟩, by decide, ex_lim hP rfl, am_call.up (c_refuse l.1 ?_) (by decide)⟩)
    exact am_goX 1 (show (∃ ty, (some .boolean) = some ty ∧ narrow ty (.int ((Int32.ofInt 0))) = .int ((Int32.ofInt 0))) ∧ (am_wI h 1 7 (sp_ft (tt T sz) s.1 (Int32.ofInt 1))).2.2.2.2 = 175 ∧ _ from ⟨⟨.boolean, rfl, rfl⟩, ex_175 hP, hQ _ _ (cres_inl (by unfold sp_tS; rw [e]; rfl) rfl (cr_x hc l (by decide))) fr1_7⟩)
theorem c_in3 {x lo hi : Int32} (hP : ex_P h) (hQ : Q (some (.int (pz_b (decide (lo ≤ x) && decide (x ≤ hi))))) h) : am_call am_cod 1 60 [.int x, .int lo, .int hi] h Q := by
  refine pz_call (n := 60) (nL := 3) (rt := (some .boolean)) (rows := am_r60) (d := 0) (by decide +kernel) (by decide +kernel) rfl (by funext pc; rfl) (ex_175 hP) (by exact Nat.le_of_ble_eq_true rfl) ?_
  refine am_goX 3 (show (x < lo → pz_S 3 (some .boolean) am_r60 0 Q 14 [(0, .int x), (1, .int lo), (2, .int hi)] [] h) ∧ (¬ (x < lo) → pz_S 3 (some .boolean) am_r60 0 Q 5 [(0, .int x), (1, .int lo), (2, .int hi)] [] h) from ⟨fun hc => ?_, fun hc => ?_⟩)
  · rw [decide_eq_false (Int32.not_le.mpr hc), Bool.false_and] at hQ
    exact am_goX 2 (show (∃ ty, (some .boolean) = some ty ∧ narrow ty (.int ((Int32.ofInt 0))) = .int ((Int32.ofInt 0))) ∧ h.2.2.2.2 = 175 ∧ _ from ⟨⟨.boolean, rfl, rfl⟩, ex_175 hP, hQ⟩)
  rw [decide_eq_true (Int32.not_lt.mp hc), Bool.true_and] at hQ
  clear hc
  refine am_goX 3 (show (hi < x → pz_S 3 (some .boolean) am_r60 0 Q 14 [(0, .int x), (1, .int lo), (2, .int hi)] [] h) ∧ (¬ (hi < x) → pz_S 3 (some .boolean) am_r60 0 Q 10 [(0, .int x), (1, .int lo), (2, .int hi)] [] h) from ⟨fun hc => ?_, fun hc => ?_⟩)
  · rw [decide_eq_false (Int32.not_le.mpr hc)] at hQ
    exact am_goX 2 (show (∃ ty, (some .boolean) = some ty ∧ narrow ty (.int ((Int32.ofInt 0))) = .int ((Int32.ofInt 0))) ∧ h.2.2.2.2 = 175 ∧ _ from ⟨⟨.boolean, rfl, rfl⟩, ex_175 hP, hQ⟩)
  · rw [decide_eq_true (Int32.not_lt.mp hc)] at hQ
    exact am_goX 3 (show (∃ ty, (some .boolean) = some ty ∧ narrow ty (.int ((Int32.ofInt 1))) = .int ((Int32.ofInt 1))) ∧ h.2.2.2.2 = 175 ∧ _ from ⟨⟨.boolean, rfl, rfl⟩, ex_175 hP, hQ⟩)
theorem c_tN {lo hi : Int32} (hc : 1 < c) (l : cr h0 c T sz s h) (hQ : ∀ v h1, cres h0 c T sz (sp_tN (tt T sz) lo hi s) v h1 → fr1 h h1 → Q v h1) : am_call am_cod 2 59 [.ref 1, .int lo, .int hi] h Q := by
  have hP := c_P l.1
  have hk := ck_2 T sz s.1
  refine pz_call (n := 59) (nL := 3) (rt := (some .boolean)) (rows := am_r59) (d := 1) (by decide +kernel) (by decide +kernel) rfl (by funext pc; rfl) (ex_175 hP) (by exact Nat.le_of_ble_eq_true rfl) ?_
  refine am_goX 3 (show am_sh h 1 = some (7, 0) ∧ pz_S 3 (some .boolean) am_r59 1 Q 5 [(0, .ref 1), (1, .int lo), (2, .int hi)] [.int (Int32.ofInt 2), .int (h.1 1 2)] h from ⟨ex_1 hP, ?_⟩)
  rw [c_kd l.1]
  refine am_goX 1 (show ((ck (tt T sz s.1).1) = (Int32.ofInt 2) → pz_S 3 (some .boolean) am_r59 1 Q 14 [(0, .ref 1), (1, .int lo), (2, .int hi)] [] h) ∧ (¬ ((ck (tt T sz s.1).1) = (Int32.ofInt 2)) → pz_S 3 (some .boolean) am_r59 1 Q 8 [(0, .ref 1), (1, .int lo), (2, .int hi)] [] h) from ⟨fun hc0 => ?_, fun hc0 => ?_⟩)
  rotate_left
  · rw [decide_eq_false hc0] at hk
    refine am_goX 3 (show am_rc h 1 7 ∧ 0 ≤ 8 ∧ h.2.2.2.2 + am_al 52 ≤ 175 ∧ am_call am_cod 1 52 [.ref 1, .int (Int32.ofInt 1)] h (fun vv h' => pz_S 3 (some .boolean) am_r59 1 Q 13 [(0, .ref 1), (1, .int lo), (2, .int hi)] (vv.toList ++ []) h') from ⟨Or.inl ⟨by decide, ex_1 hP⟩, by decide, ex_lim hP rfl, c_refuse l.1 ?_⟩)
    exact am_goX 1 (show (∃ ty, (some .boolean) = some ty ∧ narrow ty (.int ((Int32.ofInt 0))) = .int ((Int32.ofInt 0))) ∧ (am_wI h 1 7 (sp_ft (tt T sz) s.1 (Int32.ofInt 1))).2.2.2.2 = 175 ∧ _ from ⟨⟨.boolean, rfl, rfl⟩, ex_175 hP, hQ _ _ (cres_inl (by unfold sp_tN; rw [← hk]; rfl) rfl (cr_x hc l (by decide))) fr1_7⟩)
  rw [decide_eq_true hc0] at hk
  have hn := c_nv l.1 hk.symm
  refine am_goX 4 (show am_sh h 1 = some (7, 0) ∧ pz_S 3 (some .boolean) am_r59 1 Q 20 [(0, .ref 1), (1, .int lo), (2, .int hi)] [.int hi, .int lo, .int (h.1 1 6)] h from ⟨ex_1 hP, ?_⟩)
  rw [hn]
  refine am_goX 1 (show 0 ≤ 8 ∧ h.2.2.2.2 + am_al 60 ≤ 175 ∧ am_call am_cod 1 60 [.int (sp_v (tt T sz) s.1), .int lo, .int hi] h (fun vv h' => pz_S 3 (some .boolean) am_r59 1 Q 23 [(0, .ref 1), (1, .int lo), (2, .int hi)] (vv.toList ++ []) h') from ⟨by decide, ex_lim hP rfl, c_in3 hP ?_⟩)
  show pz_S 3 (some .boolean) am_r59 1 Q 23 [(0, .ref 1), (1, .int lo), (2, .int hi)] [.int (pz_b (sp_in (tt T sz) s.1 lo hi))] h
  cases e : sp_in (tt T sz) s.1 lo hi with
  | true =>
    refine am_goX 1 (show (¬ (pz_b (true)) = 0 → pz_S 3 (some .boolean) am_r59 1 Q 34 [(0, .ref 1), (1, .int lo), (2, .int hi)] [] h) ∧ (¬ ¬ (pz_b (true)) = 0 → pz_S 3 (some .boolean) am_r59 1 Q 26 [(0, .ref 1), (1, .int lo), (2, .int hi)] [] h) from ⟨fun _ => ?_, fun hz => absurd (by decide) hz⟩)
    exact am_goX 3 (show (∃ ty, (some .boolean) = some ty ∧ narrow ty (.int ((Int32.ofInt 1))) = .int ((Int32.ofInt 1))) ∧ h.2.2.2.2 = 175 ∧ _ from ⟨⟨.boolean, rfl, rfl⟩, ex_175 hP, hQ _ _ (cres_inr (by unfold sp_tN; rw [← hk, e]; rfl) rfl l) (fr1_refl h)⟩)
  | false =>
    refine am_goX 1 (show (¬ (pz_b (false)) = 0 → pz_S 3 (some .boolean) am_r59 1 Q 34 [(0, .ref 1), (1, .int lo), (2, .int hi)] [] h) ∧ (¬ ¬ (pz_b (false)) = 0 → pz_S 3 (some .boolean) am_r59 1 Q 26 [(0, .ref 1), (1, .int lo), (2, .int hi)] [] h) from ⟨fun hz => absurd hz (by decide), fun _ => ?_⟩)
    refine am_goX 3 (show am_rc h 1 7 ∧ 0 ≤ 8 ∧ h.2.2.2.2 + am_al 52 ≤ 175 ∧ am_call am_cod 1 52 [.ref 1, .int (Int32.ofInt 4)] h (fun vv h' => pz_S 3 (some .boolean) am_r59 1 Q 31 [(0, .ref 1), (1, .int lo), (2, .int hi)] (vv.toList ++ []) h') from ⟨Or.inl ⟨by decide, ex_1 hP⟩, by decide, ex_lim hP rfl, c_refuse l.1 ?_⟩)
    refine am_goX 1 (show ((Int32.ofInt 0) = 0 → pz_S 3 (some .boolean) am_r59 1 Q 38 [(0, .ref 1), (1, .int lo), (2, .int hi)] [] (am_wI h 1 7 (sp_ft (tt T sz) s.1 (Int32.ofInt 4)))) ∧ (¬ ((Int32.ofInt 0) = 0) → pz_S 3 (some .boolean) am_r59 1 Q 34 [(0, .ref 1), (1, .int lo), (2, .int hi)] [] (am_wI h 1 7 (sp_ft (tt T sz) s.1 (Int32.ofInt 4)))) from ⟨fun _ => ?_, fun hz => absurd (by decide) hz⟩)
    exact am_goX 2 (show (∃ ty, (some .boolean) = some ty ∧ narrow ty (.int ((Int32.ofInt 0))) = .int ((Int32.ofInt 0))) ∧ (am_wI h 1 7 (sp_ft (tt T sz) s.1 (Int32.ofInt 4))).2.2.2.2 = 175 ∧ _ from ⟨⟨.boolean, rfl, rfl⟩, ex_175 hP, hQ _ _ (cres_inl (by unfold sp_tN; rw [← hk, e]; rfl) rfl (cr_x hc l (by decide))) fr1_7⟩)
