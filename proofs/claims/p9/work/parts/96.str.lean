/-! STRINGS, EXACTLY -/
variable {h : am_H} {Q : am_Q} {q : Nat}
theorem st_rc (hq : q < 26) : am_rc h (4000000 + q) 20 := Or.inr ⟨rfl, q, hq, rfl⟩
theorem st_lat (hq : q < 26) (hP : ex_P h) (hQ : Q (some (.int 1)) h) : am_call am_cod 1 23 [.ref (4000000 + q)] h Q := by
  refine pz_call (n := 23) (nL := 1) (rt := (some .boolean)) (rows := am_r23) (d := 0) (by decide +kernel) (by decide +kernel) rfl (by funext pc; rfl) (ex_175 hP) (by exact Nat.le_of_ble_eq_true rfl) ?_
  refine am_goX 2 (show ((1 : Int32) = 0 → pz_S 1 (some .boolean) am_r23 0 Q 17 [(0, .ref (4000000 + q))] [] h) ∧ (¬ (1 : Int32) = 0 → pz_S 1 (some .boolean) am_r23 0 Q 6 [(0, .ref (4000000 + q))] [] h) from ⟨fun z => absurd z (by decide), fun _ => ?_⟩)
  refine am_goX 2 (show ∃ q9 : Nat, q9 < 26 ∧ 4000000 + q = 4000000 + q9 ∧ pz_S 1 (some .boolean) am_r23 0 Q 10 [(0, .ref (4000000 + q))] [.int 0] h from ⟨q, hq, rfl, ?_⟩)
  refine am_goX 1 (show (¬ (0 : Int32) = 0 → pz_S 1 (some .boolean) am_r23 0 Q 17 [(0, .ref (4000000 + q))] [] h) ∧ (¬ ¬ (0 : Int32) = 0 → pz_S 1 (some .boolean) am_r23 0 Q 13 [(0, .ref (4000000 + q))] [] h) from ⟨fun z => absurd rfl z, fun _ => ?_⟩)
  exact am_goX 3 (show (∃ ty, (some FieldType.boolean) = some ty ∧ narrow ty (.int (Int32.ofInt 1)) = .int (Int32.ofInt 1)) ∧ h.2.2.2.2 = 175 ∧ _ from ⟨⟨.boolean, rfl, rfl⟩, ex_175 hP, hQ⟩)
theorem st_cod (hq : q < 26) (hP : ex_P h) (hQ : Q (some (.int 0)) h) : am_call am_cod 1 25 [.ref (4000000 + q)] h Q := by
  refine pz_call (n := 25) (nL := 1) (rt := (some .byte)) (rows := am_r25) (d := 0) (by decide +kernel) (by decide +kernel) rfl (by funext pc; rfl) (ex_175 hP) (by exact Nat.le_of_ble_eq_true rfl) ?_
  refine am_goX 2 (show ((1 : Int32) = 0 → pz_S 1 (some .byte) am_r25 0 Q 13 [(0, .ref (4000000 + q))] [] h) ∧ (¬ (1 : Int32) = 0 → pz_S 1 (some .byte) am_r25 0 Q 6 [(0, .ref (4000000 + q))] [] h) from ⟨fun z => absurd z (by decide), fun _ => ?_⟩)
  refine am_goX 2 (show ∃ q9 : Nat, q9 < 26 ∧ 4000000 + q = 4000000 + q9 ∧ pz_S 1 (some .byte) am_r25 0 Q 10 [(0, .ref (4000000 + q))] [.int 0] h from ⟨q, hq, rfl, ?_⟩)
  exact am_goX 2 (show (∃ ty, (some FieldType.byte) = some ty ∧ narrow ty (.int 0) = .int 0) ∧ h.2.2.2.2 = 175 ∧ _ from ⟨⟨.byte, rfl, rfl⟩, ex_175 hP, hQ⟩)
theorem st_sh (x : Int32) : x >>> ((0 : Int32) &&& 31) = x := by
  rw [show ((0 : Int32) &&& 31) = 0 from rfl]
  exact Int32.shiftRight_zero
theorem st_len (hq : q < 26) (hP : ex_P h) (hQ : Q (some (.int (nI (am_sln.getD q 0)))) h) : am_call am_cod 2 24 [.ref (4000000 + q)] h Q := by
  refine pz_call (n := 24) (nL := 1) (rt := (some .int)) (rows := am_r24) (d := 1) (by decide +kernel) (by decide +kernel) rfl (by funext pc; rfl) (ex_175 hP) (by exact Nat.le_of_ble_eq_true rfl) ?_
  refine am_goX 2 (show ∃ q9 : Nat, q9 < 26 ∧ 4000000 + q = 4000000 + q9 ∧ pz_S 1 (some .int) am_r24 1 Q 4 [(0, .ref (4000000 + q))] [.ref (5000000 + q9)] h from ⟨q, hq, rfl, ?_⟩)
  refine am_goX 1 (show (∃ t n : Nat, am_sh h (5000000 + q) = some (t, n) ∧ 12 ≤ t ∧ pz_S 1 (some .int) am_r24 1 Q 5 [(0, .ref (4000000 + q))] [.int (nI n)] h) ∨ (∃ q9 : Nat, q9 < 26 ∧ 5000000 + q = 5000000 + q9 ∧ pz_S 1 (some .int) am_r24 1 Q 5 [(0, .ref (4000000 + q))] [.int (nI (am_sln.getD q9 0))] h) from Or.inr ⟨q, hq, rfl, ?_⟩)
  refine am_goX 2 (show am_rc h (4000000 + q) 20 ∧ 1 ≤ 8 ∧ h.2.2.2.2 + am_al 25 ≤ 175 ∧ am_call am_cod 1 25 [.ref (4000000 + q)] h (fun vv h' => pz_S 1 (some .int) am_r24 1 Q 9 [(0, .ref (4000000 + q))] (vv.toList ++ [.int (nI (am_sln.getD q 0))]) h') from ⟨st_rc hq, by decide, ex_lim hP rfl, st_cod hq hP ?_⟩)
  refine am_goX 2 (show (∃ ty, (some FieldType.int) = some ty ∧ narrow ty (.int (nI (am_sln.getD q 0) >>> ((0 : Int32) &&& 31))) = .int (nI (am_sln.getD q 0) >>> ((0 : Int32) &&& 31))) ∧ h.2.2.2.2 = 175 ∧ Q (some (.int (nI (am_sln.getD q 0) >>> ((0 : Int32) &&& 31)))) h from ⟨⟨.int, rfl, rfl⟩, ex_175 hP, ?_⟩)
  rw [st_sh]
  exact hQ
theorem st_chk {x y : Int32} (hP : ex_P h) (hx : 0 ≤ x) (hy : x < y) (hQ : Q none h) : am_call am_cod 2 47 [.int x, .int y] h Q := by
  refine pz_call (n := 47) (nL := 2) (rt := none) (rows := am_r47) (d := 1) (by decide +kernel) (by decide +kernel) rfl (by funext pc; rfl) (ex_175 hP) (by exact Nat.le_of_ble_eq_true rfl) ?_
  refine am_goX 4 (show 0 ≤ 8 ∧ h.2.2.2.2 + am_al 48 ≤ 175 ∧ am_call am_cod 1 48 [.int x, .int y, .int (Int32.ofInt 0)] h (fun vv h' => pz_S 2 none am_r47 1 Q 8 [(0, .int x), (1, .int y)] (vv.toList ++ []) h') from ⟨Nat.zero_le _, ex_lim hP rfl, am_48_fwd rfl hx hy ?_⟩)
  exact am_goX 2 (show (Value.int x).category = 1 ∧ (none : Option FieldType) = none ∧ h.2.2.2.2 = 175 ∧ _ from ⟨rfl, rfl, ex_175 hP, hQ⟩)
def st_b (q i : Nat) : Int32 := (am_sby.getD q []).getD i 0
theorem st_ln : (List.range 26).all (fun q => Nat.beq (am_sby.getD q []).length (am_sln.getD q 0)) = true := by decide +kernel
theorem st_by : am_sby.all (fun l => l.all (fun b => decide (((b &&& (Int16.ofInt 255).toInt32).toUInt32 % 65536).toInt32 = b) && decide (narrow .char (.int b) = .int b))) = true := by decide +kernel
theorem st_bb {i : Nat} (hq : q < 26) (hi : i < am_sln.getD q 0) : ((st_b q i &&& (Int16.ofInt 255).toInt32).toUInt32 % 65536).toInt32 = st_b q i ∧ narrow .char (.int (st_b q i)) = .int (st_b q i) := by
  have e1 := Nat.eq_of_beq_eq_true (List.all_eq_true.mp st_ln q (List.mem_range.mpr hq))
  have hl : i < (am_sby.getD q []).length := by rw [e1]; exact hi
  have hm : am_sby.getD q [] ∈ am_sby := by
    rw [List.getD_eq_getElem?_getD]
    cases hg : am_sby[q]? with
    | none =>
      rw [List.getD_eq_getElem?_getD, hg] at hl
      exact absurd hl (Nat.not_lt_zero _)
    | some l => exact List.mem_of_getElem? hg
  have hb : st_b q i ∈ am_sby.getD q [] := by
    unfold st_b
    rw [List.getD_eq_getElem?_getD (l := am_sby.getD q []), List.getElem?_eq_getElem hl]
    exact List.getElem_mem hl
  have w := List.all_eq_true.mp (List.all_eq_true.mp st_by _ hm) _ hb
  rw [Bool.and_eq_true, decide_eq_true_eq, decide_eq_true_eq] at w
  exact w
theorem st_l31 : am_sln.all (fun n => Nat.ble n 1000) = true := by decide +kernel
theorem st_lt (q : Nat) : am_sln.getD q 0 < 2 ^ 31 := by
  have := am_sln_le q
  omega
theorem st_ch1 {i : Nat} (hq : q < 26) (hi : i < am_sln.getD q 0) (hP : ex_P h) (hQ : Q (some (.int (st_b q i))) h) : am_call am_cod 3 46 [.ref (5000000 + q), .int (nI i)] h Q := by
  have hl := st_lt q
  refine pz_call (n := 46) (nL := 2) (rt := (some .char)) (rows := am_r46) (d := 2) (by decide +kernel) (by decide +kernel) rfl (by funext pc; rfl) (ex_175 hP) (by exact Nat.le_of_ble_eq_true rfl) ?_
  refine am_goX 3 (show (∃ t n : Nat, am_sh h (5000000 + q) = some (t, n) ∧ 12 ≤ t ∧ pz_S 2 (some .char) am_r46 2 Q 3 [(0, .ref (5000000 + q)), (1, .int (nI i))] [.int (nI n), .int (nI i)] h) ∨ (∃ q9 : Nat, q9 < 26 ∧ 5000000 + q = 5000000 + q9 ∧ pz_S 2 (some .char) am_r46 2 Q 3 [(0, .ref (5000000 + q)), (1, .int (nI i))] [.int (nI (am_sln.getD q9 0)), .int (nI i)] h) from Or.inr ⟨q, hq, rfl, ?_⟩)
  refine am_goX 1 (show 0 ≤ 8 ∧ h.2.2.2.2 + am_al 47 ≤ 175 ∧ am_call am_cod 2 47 [.int (nI i), .int (nI (am_sln.getD q 0))] h (fun vv h' => pz_S 2 (some .char) am_r46 2 Q 6 [(0, .ref (5000000 + q)), (1, .int (nI i))] (vv.toList ++ []) h') from ⟨Nat.zero_le _, ex_lim hP rfl, st_chk hP (nI_pos' (by omega)) (nI_lt hi hl) ?_⟩)
  refine am_goX 3 (show (∃ j n : Nat, am_sh h (5000000 + q) = some (15, n) ∧ j < n ∧ nI i = nI j ∧ pz_S 2 (some .char) am_r46 2 Q 9 [(0, .ref (5000000 + q)), (1, .int (nI i))] [.int (h.1 (5000000 + q) j)] h) ∨ (∃ q9 j : Nat, q9 < 26 ∧ 5000000 + q = 5000000 + q9 ∧ j < am_sln.getD q9 0 ∧ nI i = nI j ∧ pz_S 2 (some .char) am_r46 2 Q 9 [(0, .ref (5000000 + q)), (1, .int (nI i))] [.int (st_b q9 j)] h) from Or.inr ⟨q, i, hq, rfl, hi, rfl, ?_⟩)
  have e := st_bb hq hi
  refine am_goX 4 (show (∃ ty, (some FieldType.char) = some ty ∧ narrow ty (.int ((st_b q i &&& (Int16.ofInt 255).toInt32).toUInt32 % 65536).toInt32) = .int ((st_b q i &&& (Int16.ofInt 255).toInt32).toUInt32 % 65536).toInt32) ∧ h.2.2.2.2 = 175 ∧ Q (some (.int ((st_b q i &&& (Int16.ofInt 255).toInt32).toUInt32 % 65536).toInt32)) h from ?_)
  rw [e.1]
  exact ⟨⟨.char, rfl, e.2⟩, ex_175 hP, hQ⟩
theorem st_ch {i : Nat} (hq : q < 26) (hi : i < am_sln.getD q 0) (hP : ex_P h) (hQ : Q (some (.int (st_b q i))) h) : am_call am_cod 4 45 [.ref (4000000 + q), .int (nI i)] h Q := by
  have e := st_bb hq hi
  refine pz_call (n := 45) (nL := 2) (rt := (some .char)) (rows := am_r45) (d := 3) (by decide +kernel) (by decide +kernel) rfl (by funext pc; rfl) (ex_175 hP) (by exact Nat.le_of_ble_eq_true rfl) ?_
  refine am_goX 2 (show am_rc h (4000000 + q) 20 ∧ 0 ≤ 8 ∧ h.2.2.2.2 + am_al 23 ≤ 175 ∧ am_call am_cod 3 23 [.ref (4000000 + q)] h (fun vv h' => pz_S 2 (some .char) am_r45 3 Q 4 [(0, .ref (4000000 + q)), (1, .int (nI i))] (vv.toList ++ []) h') from ⟨st_rc hq, by decide, ex_lim hP rfl, am_call.up (st_lat hq hP ?_) (by decide)⟩)
  refine am_goX 1 (show ((1 : Int32) = 0 → pz_S 2 (some .char) am_r45 3 Q 16 [(0, .ref (4000000 + q)), (1, .int (nI i))] [] h) ∧ (¬ (1 : Int32) = 0 → pz_S 2 (some .char) am_r45 3 Q 7 [(0, .ref (4000000 + q)), (1, .int (nI i))] [] h) from ⟨fun z => absurd z (by decide), fun _ => ?_⟩)
  refine am_goX 2 (show ∃ q9 : Nat, q9 < 26 ∧ 4000000 + q = 4000000 + q9 ∧ pz_S 2 (some .char) am_r45 3 Q 11 [(0, .ref (4000000 + q)), (1, .int (nI i))] [.ref (5000000 + q9)] h from ⟨q, hq, rfl, ?_⟩)
  refine am_goX 2 (show 0 ≤ 8 ∧ h.2.2.2.2 + am_al 46 ≤ 175 ∧ am_call am_cod 3 46 [.ref (5000000 + q), .int (nI i)] h (fun vv h' => pz_S 2 (some .char) am_r45 3 Q 15 [(0, .ref (4000000 + q)), (1, .int (nI i))] (vv.toList ++ []) h') from ⟨Nat.zero_le _, ex_lim hP rfl, st_ch1 hq hi hP ?_⟩)
  exact am_goX 1 (show (∃ ty, (some FieldType.char) = some ty ∧ narrow ty (.int (st_b q i)) = .int (st_b q i)) ∧ h.2.2.2.2 = 175 ∧ _ from ⟨⟨.char, rfl, e.2⟩, ex_175 hP, hQ⟩)
