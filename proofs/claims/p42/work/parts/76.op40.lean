/-! THE LAW'S HEAD, ITS END, AND OPCODE 40 -/
def lw_G (rows : List (Nat × am_R)) (E : Nat → am_V → List Value → am_H → Prop) (Q : am_Q) : Nat → am_V → List Value → am_H → Prop := am_X (am_call am_cod 60) 7 175 (some .boolean) (am_find rows) E Q
def lw_no : am_Q := fun _ _ => False
theorem lw_x7 (i : Nat) : nI i + Int32.ofInt 7 = nI (i + 7) := nI_add i 7
theorem lw_le {i L : Nat} (hi : i ≤ L) (hL : L ≤ 3584) (hn : ¬ nI L - (Int8.ofInt 7).toInt32 < nI i) : i + 7 ≤ L := by
  have e : (nI L - (Int8.ofInt 7).toInt32).toInt = (L : Int) - 7 := by
    rw [Int32.toInt_sub, nI_toInt (by omega), show ((Int8.ofInt 7).toInt32).toInt = 7 by decide]
    exact Int.bmod_eq_of_le (by omega) (by omega)
  rw [Int32.lt_iff_toInt_lt, e, nI_toInt (by omega)] at hn
  omega
def lw_os : Array Int := #[192, 339, 352, 365, 402, 439, 452, 489, 514, 527, 552, 589, 626, 651, 688, 725, 750, 763, 788, 825, 890, 903, 916, 929, 942, 967, 980, 993, 1018, 1055, 1068, 1081, 1094, 1131, 1144, 1157, 1182, 1195, 1220, 1233, 1282, 1374, 1423, 1476]
def lw_hd : List Nat := [1541, 232, 379, 392, 405, 442, 479, 492, 529, 554, 567, 592, 629, 666, 691, 728, 765, 790, 803, 828, 865, 930, 943, 956, 969, 982, 1007, 1020, 1033, 1058, 1095, 1108, 1121, 1134, 1171, 1184, 1197, 1222, 1235, 1260, 1273, 1322, 1414, 1463, 1516]
theorem lw_hd_ok : (List.range 44).all (fun j => lw_hd.contains ((40 : Int) + (lw_os[j]?).getD 0).toNat) = true := by decide +kernel
def lw_EH (i : Nat) (h : am_H) : Nat → am_V → List Value → am_H → Prop := fun pc lv st h' => h' = h ∧ lv = lw_lv i ∧ st = [] ∧ ((i + 7 ≤ h.2.2.2.1 ∧ pc ∈ lw_hd) ∨ pc = 1547)
def lw_rH : List (Nat × am_R) := [(23, (.iload 4, 25, 0, 0, 0, 0)), (25, (.aload_n 0, 26, 0, 0, 0, 0)), (26, (.arraylength, 27, 0, 0, 0, 0)), (27, (.bipush 7, 29, 0, 0, 0, 0)), (29, (.isub, 30, 0, 0, 0, 0)), (30, (.if_icmp .gt 1517, 33, 1547, 0, 0, 0)), (33, (.aload_n 0, 34, 0, 0, 0, 0)), (34, (.iload 4, 36, 0, 0, 0, 0)), (36, (.iaload, 37, 0, 0, 0, 0)), (37, (.bipush 63, 39, 0, 0, 0, 0)), (39, (.iand, 40, 0, 0, 0, 0)), (40, (.tableswitch 1501 0 43 #[192, 339, 352, 365, 402, 439, 452, 489, 514, 527, 552, 589, 626, 651, 688, 725, 750, 763, 788, 825, 890, 903, 916, 929, 942, 967, 980, 993, 1018, 1055, 1068, 1081, 1094, 1131, 1144, 1157, 1182, 1195, 1220, 1233, 1282, 1374, 1423, 1476], 232, 0, 0, 0, 0))]
theorem lw_oH : lw_rH.all (fun q => am_okB false "MistCantonLaw" code q.1 q.2) = true := by decide +kernel
theorem lw_tH {i : Nat} {h : am_H} (hl : h.2.2.2.1 ≤ 3584) (hi : i ≤ h.2.2.2.1) : lw_G lw_rH (lw_EH i h) lw_no 23 (lw_lv i) [] h := by
  refine am_goX 3 (show (∃ t n : Nat, am_sh h 3000000 = some (t, n) ∧ 12 ≤ t ∧ lw_G lw_rH (lw_EH i h) lw_no 27 (lw_lv i) [.int (nI n), .int (nI i)] h) ∨ (∃ q : Nat, q < 26 ∧ 3000000 = 5000000 + q ∧ lw_G lw_rH (lw_EH i h) lw_no 27 (lw_lv i) [.int (nI (am_sln.getD q 0)), .int (nI i)] h) from Or.inl ⟨13, h.2.2.2.1, rfl, by decide, ?_⟩)
  refine am_goX 3 (show (nI h.2.2.2.1 - (Int8.ofInt 7).toInt32 < nI i → lw_G lw_rH (lw_EH i h) lw_no 1547 (lw_lv i) [] h) ∧ (¬ nI h.2.2.2.1 - (Int8.ofInt 7).toInt32 < nI i → lw_G lw_rH (lw_EH i h) lw_no 33 (lw_lv i) [] h) from ⟨fun _ => am_xexit ⟨rfl, rfl, rfl, Or.inr rfl⟩, fun hn => ?_⟩)
  have hle : i + 7 ≤ h.2.2.2.1 := lw_le hi hl hn
  refine am_goX 3 (show ∃ j n : Nat, am_sh h 3000000 = some (13, n) ∧ j < n ∧ nI i = nI j ∧ lw_G lw_rH (lw_EH i h) lw_no 37 (lw_lv i) [.int (h.1 3000000 j)] h from ⟨i, h.2.2.2.1, rfl, by omega, rfl, ?_⟩)
  generalize h.1 3000000 i = x
  refine am_goX 3 (show (((x &&& (Int8.ofInt 63).toInt32).toInt < 0 ∨ 43 < (x &&& (Int8.ofInt 63).toInt32).toInt) → lw_G lw_rH (lw_EH i h) lw_no 1541 (lw_lv i) [] h) ∧ (∀ j : Nat, (x &&& (Int8.ofInt 63).toInt32).toInt = 0 + (j : Int) → 0 + (j : Int) ≤ 43 → lw_G lw_rH (lw_EH i h) lw_no ((40 : Int) + (lw_os[j]?).getD 0).toNat (lw_lv i) [] h) from ⟨fun _ => am_xexit ⟨rfl, rfl, rfl, Or.inl ⟨hle, List.mem_cons_self⟩⟩, fun j _ hj => am_xexit ⟨rfl, rfl, rfl, Or.inl ⟨hle, ?_⟩⟩⟩)
  exact List.contains_iff_mem.mp (List.all_eq_true.mp lw_hd_ok j (List.mem_range.mpr (by omega)))
def lw_rE : List (Nat × am_R) := [(1547, (.iconst 1, 1548, 0, 0, 0, 0)), (1548, (.ireturn, 1549, 0, 0, 0, 0))]
theorem lw_oE : lw_rE.all (fun q => am_okB false "MistCantonLaw" code q.1 q.2) = true := by decide +kernel
theorem lw_tE {i : Nat} {h : am_H} : lw_G lw_rE (fun _ _ _ _ => False) (fun v _ => v = some (.int 1)) 1547 (lw_lv i) [] h :=
  am_goX 2 (show (∃ ty, some FieldType.boolean = some ty ∧ narrow ty (.int (Int32.ofInt 1)) = .int (Int32.ofInt 1)) ∧ some (Value.int (Int32.ofInt 1)) = some (.int 1) from ⟨⟨.boolean, rfl, rfl⟩, rfl⟩)
def lw_rN : List (Nat × am_R) := [(1541, (.iinc 4 7, 1544, 0, 0, 0, 0)), (1544, (.goto (-1521), 1547, 23, 0, 0, 0))]
theorem lw_oN : lw_rN.all (fun q => am_okB false "MistCantonLaw" code q.1 q.2) = true := by decide +kernel
theorem lw_tN {i : Nat} {h : am_H} (hI : iv_I h) : lw_G lw_rN (lw_Ex (i + 7) 23) lw_no 1541 (lw_lv i) [] h := by
  refine am_goX 2 (show 4 < 7 ∧ lw_G lw_rN (lw_Ex (i + 7) 23) lw_no 23 (am_s1 (lw_lv i) 4 (.int (nI i + Int32.ofInt 7))) [] h from ⟨by decide, am_xexit ⟨rfl, ?_, rfl, hI⟩⟩)
  rw [lw_x7]
  rfl
def lw_r1322 : List (Nat × am_R) := [(1322, (.aload_n 1, 1323, 0, 0, 0, 0)), (1323, (.aload_n 0, 1324, 0, 0, 0, 0)), (1324, (.iload 4, 1326, 0, 0, 0, 0)), (1326, (.iconst 1, 1327, 0, 0, 0, 0)), (1327, (.iadd, 1328, 0, 0, 0, 0)), (1328, (.iaload, 1329, 0, 0, 0, 0)), (1329, (.aload_n 0, 1330, 0, 0, 0, 0)), (1330, (.iload 4, 1332, 0, 0, 0, 0)), (1332, (.iconst 2, 1333, 0, 0, 0, 0)), (1333, (.iadd, 1334, 0, 0, 0, 0)), (1334, (.iaload, 1335, 0, 0, 0, 0)), (1335, (.aload_n 0, 1336, 0, 0, 0, 0)), (1336, (.iload 4, 1338, 0, 0, 0, 0)), (1338, (.iconst 3, 1339, 0, 0, 0, 0)), (1339, (.iadd, 1340, 0, 0, 0, 0)), (1340, (.iaload, 1341, 0, 0, 0, 0)), (1341, (.aload_n 0, 1342, 0, 0, 0, 0)), (1342, (.iload 4, 1344, 0, 0, 0, 0)), (1344, (.iconst 4, 1345, 0, 0, 0, 0)), (1345, (.iadd, 1346, 0, 0, 0, 0)), (1346, (.iaload, 1347, 0, 0, 0, 0)), (1347, (.aload_n 3, 1348, 0, 0, 0, 0))]
theorem lw_o1322 : lw_r1322.all (fun q => am_okB false "MistCantonLaw" code q.1 q.2) = true := by decide +kernel
def lw_E40 (i : Nat) (h : am_H) : Nat → am_V → List Value → am_H → Prop := fun pc lv st h' => pc = 1348 ∧ lv = lw_lv i ∧ st = [.ref 174, .int (h.1 3000000 (i + 4)), .int (h.1 3000000 (i + 3)), .int (h.1 3000000 (i + 2)), .int (h.1 3000000 (i + 1)), .ref 0] ∧ h' = h
theorem lw_t1322 {i : Nat} {h : am_H} (hL : i + 7 ≤ h.2.2.2.1) : lw_G lw_r1322 (lw_E40 i h) lw_no 1322 (lw_lv i) [] h := by
  refine am_goX 6 (show ∃ j n : Nat, am_sh h 3000000 = some (13, n) ∧ j < n ∧ nI i + Int32.ofInt 1 = nI j ∧ lw_G lw_r1322 (lw_E40 i h) lw_no 1329 (lw_lv i) [.int (h.1 3000000 j), .ref 0] h from ⟨i + 1, h.2.2.2.1, rfl, by omega, lw_x1 i, ?_⟩)
  refine am_goX 5 (show ∃ j n : Nat, am_sh h 3000000 = some (13, n) ∧ j < n ∧ nI i + Int32.ofInt 2 = nI j ∧ lw_G lw_r1322 (lw_E40 i h) lw_no 1335 (lw_lv i) [.int (h.1 3000000 j), .int (h.1 3000000 (i + 1)), .ref 0] h from ⟨i + 2, h.2.2.2.1, rfl, by omega, lw_x2 i, ?_⟩)
  refine am_goX 5 (show ∃ j n : Nat, am_sh h 3000000 = some (13, n) ∧ j < n ∧ nI i + Int32.ofInt 3 = nI j ∧ lw_G lw_r1322 (lw_E40 i h) lw_no 1341 (lw_lv i) [.int (h.1 3000000 j), .int (h.1 3000000 (i + 2)), .int (h.1 3000000 (i + 1)), .ref 0] h from ⟨i + 3, h.2.2.2.1, rfl, by omega, lw_x3 i, ?_⟩)
  refine am_goX 5 (show ∃ j n : Nat, am_sh h 3000000 = some (13, n) ∧ j < n ∧ nI i + Int32.ofInt 4 = nI j ∧ lw_G lw_r1322 (lw_E40 i h) lw_no 1347 (lw_lv i) [.int (h.1 3000000 j), .int (h.1 3000000 (i + 3)), .int (h.1 3000000 (i + 2)), .int (h.1 3000000 (i + 1)), .ref 0] h from ⟨i + 4, h.2.2.2.1, rfl, by omega, lw_x4 i, ?_⟩)
  exact am_goX 1 (show lw_G lw_r1322 (lw_E40 i h) lw_no 1348 (lw_lv i) [.ref 174, .int (h.1 3000000 (i + 4)), .int (h.1 3000000 (i + 3)), .int (h.1 3000000 (i + 2)), .int (h.1 3000000 (i + 1)), .ref 0] h from am_xexit ⟨rfl, rfl, rfl, rfl⟩)
def lw_r1351 : List (Nat × am_R) := [(1351, (.istore 5, 1353, 0, 0, 0, 0)), (1353, (.aload_n 2, 1354, 0, 0, 0, 0)), (1354, (.aload_n 0, 1355, 0, 0, 0, 0)), (1355, (.iload 4, 1357, 0, 0, 0, 0)), (1357, (.iconst 1, 1358, 0, 0, 0, 0)), (1358, (.iadd, 1359, 0, 0, 0, 0)), (1359, (.iaload, 1360, 0, 0, 0, 0)), (1360, (.aload_n 0, 1361, 0, 0, 0, 0)), (1361, (.iload 4, 1363, 0, 0, 0, 0)), (1363, (.iconst 2, 1364, 0, 0, 0, 0)), (1364, (.iadd, 1365, 0, 0, 0, 0)), (1365, (.iaload, 1366, 0, 0, 0, 0)), (1366, (.aload_n 0, 1367, 0, 0, 0, 0)), (1367, (.iload 4, 1369, 0, 0, 0, 0)), (1369, (.iconst 3, 1370, 0, 0, 0, 0)), (1370, (.iadd, 1371, 0, 0, 0, 0)), (1371, (.iaload, 1372, 0, 0, 0, 0)), (1372, (.aload_n 0, 1373, 0, 0, 0, 0)), (1373, (.iload 4, 1375, 0, 0, 0, 0)), (1375, (.iconst 4, 1376, 0, 0, 0, 0)), (1376, (.iadd, 1377, 0, 0, 0, 0)), (1377, (.iaload, 1378, 0, 0, 0, 0)), (1378, (.invokevirtual 193, 1381, 286, 4, 336, 11)), (1381, (.istore 6, 1383, 0, 0, 0, 0)), (1383, (.aload_n 2, 1384, 0, 0, 0, 0)), (1384, (.invokevirtual 194, 1387, 176, 0, 225, 11)), (1387, (.iload 5, 1389, 0, 0, 0, 0)), (1389, (.if_icmp .eq 5, 1392, 1394, 0, 0, 0)), (1392, (.iconst 0, 1393, 0, 0, 0, 0)), (1393, (.ireturn, 1394, 0, 0, 0, 0)), (1394, (.iload 5, 1396, 0, 0, 0, 0)), (1396, (.ifCond .ne 15, 1399, 1411, 0, 0, 0)), (1399, (.aload_n 3, 1400, 0, 0, 0, 0)), (1400, (.iconst 0, 1401, 0, 0, 0, 0)), (1401, (.laload, 1402, 0, 0, 0, 0)), (1402, (.iload 6, 1404, 0, 0, 0, 0)), (1404, (.i2l, 1405, 0, 0, 0, 0)), (1405, (.lcmp, 1406, 0, 0, 0, 0)), (1406, (.ifCond .eq 5, 1409, 1411, 0, 0, 0)), (1409, (.iconst 0, 1410, 0, 0, 0, 0)), (1410, (.ireturn, 1411, 0, 0, 0, 0)), (1411, (.goto 130, 1414, 1541, 0, 0, 0))]
theorem lw_o1351 : lw_r1351.all (fun q => am_okB false "MistCantonLaw" code q.1 q.2) = true := by decide +kernel
def lw_l5 (i : Nat) (k : Int32) : am_V := (5, .int k) :: lw_lv i
def lw_l6 (i : Nat) (k b : Int32) : am_V := (6, .int b) :: lw_l5 i k
def lw_Ex6 (i e : Nat) : Nat → am_V → List Value → am_H → Prop := fun pc lv st h' => pc = e ∧ (∃ k b, lv = lw_l6 i k b) ∧ st = [] ∧ iv_I h'
theorem lw_cmp0 (x : Int64) : lg_cmp x x = 0 := by
  unfold lg_cmp
  simp
theorem lw_t1351 {i K : Nat} {V : Int} {ys : Nat → Int32} {h : am_H} (hK : K = 0 ∨ K = 1) (hI : iv_I h) (hL : i + 7 ≤ h.2.2.2.1)
    (hR : ∀ h, iv_I h → am_call am_cod 60 286 [.ref 154, .int (ys 1), .int (ys 2), .int (ys 3), .int (ys 4)] h (fun v h' => iv_I h' ∧ ag_fr [(154, 0, 0)] h h' ∧ v = some (.int (Int32.ofInt V)) ∧ h'.1 154 0 = Int32.ofInt K))
    (y1 : h.1 3000000 (i + 1) = ys 1) (y2 : h.1 3000000 (i + 2) = ys 2) (y3 : h.1 3000000 (i + 3) = ys 3) (y4 : h.1 3000000 (i + 4) = ys 4) (hV : K = 0 → h.2.1 174 0 = (Int32.ofInt V).toInt64) :
    lw_G lw_r1351 (lw_Ex6 i 1541) lw_no 1351 (lw_lv i) [.int (Int32.ofInt K)] h := by
  refine am_goX 1 (show 5 < 7 ∧ lw_G lw_r1351 (lw_Ex6 i 1541) lw_no 1353 (lw_l5 i (Int32.ofInt K)) [] h from ⟨by decide, ?_⟩)
  refine am_goX 6 (show ∃ j n : Nat, am_sh h 3000000 = some (13, n) ∧ j < n ∧ nI i + Int32.ofInt 1 = nI j ∧ lw_G lw_r1351 (lw_Ex6 i 1541) lw_no 1360 (lw_l5 i (Int32.ofInt K)) [.int (h.1 3000000 j), .ref 154] h from ⟨i + 1, h.2.2.2.1, rfl, by omega, lw_x1 i, ?_⟩)
  rw [y1]
  refine am_goX 5 (show ∃ j n : Nat, am_sh h 3000000 = some (13, n) ∧ j < n ∧ nI i + Int32.ofInt 2 = nI j ∧ lw_G lw_r1351 (lw_Ex6 i 1541) lw_no 1366 (lw_l5 i (Int32.ofInt K)) [.int (h.1 3000000 j), .int (ys 1), .ref 154] h from ⟨i + 2, h.2.2.2.1, rfl, by omega, lw_x2 i, ?_⟩)
  rw [y2]
  refine am_goX 5 (show ∃ j n : Nat, am_sh h 3000000 = some (13, n) ∧ j < n ∧ nI i + Int32.ofInt 3 = nI j ∧ lw_G lw_r1351 (lw_Ex6 i 1541) lw_no 1372 (lw_l5 i (Int32.ofInt K)) [.int (h.1 3000000 j), .int (ys 2), .int (ys 1), .ref 154] h from ⟨i + 3, h.2.2.2.1, rfl, by omega, lw_x3 i, ?_⟩)
  rw [y3]
  refine am_goX 5 (show ∃ j n : Nat, am_sh h 3000000 = some (13, n) ∧ j < n ∧ nI i + Int32.ofInt 4 = nI j ∧ lw_G lw_r1351 (lw_Ex6 i 1541) lw_no 1378 (lw_l5 i (Int32.ofInt K)) [.int (h.1 3000000 j), .int (ys 3), .int (ys 2), .int (ys 1), .ref 154] h from ⟨i + 4, h.2.2.2.1, rfl, by omega, lw_x4 i, ?_⟩)
  rw [y4]
  refine am_goX 1 (show am_rc h 154 11 ∧ 0 ≤ 8 ∧ h.2.2.2.2 + am_al 286 ≤ 175 ∧ am_call am_cod 60 286 [.ref 154, .int (ys 1), .int (ys 2), .int (ys 3), .int (ys 4)] h (fun v h' => lw_G lw_r1351 (lw_Ex6 i 1541) lw_no 1381 (lw_l5 i (Int32.ofInt K)) (v.toList ++ []) h') from ⟨lw_rc154 hI, Nat.zero_le _, lw_lim hI rfl, am_call.mono (fun v h' q => ?_) (hR h hI)⟩)
  obtain ⟨q1, q2, rfl, q4⟩ := q
  have q5 := rs_keepL q2
  refine am_goX 1 (show 6 < 7 ∧ lw_G lw_r1351 (lw_Ex6 i 1541) lw_no 1383 (lw_l6 i (Int32.ofInt K) (Int32.ofInt V)) [] h' from ⟨by decide, ?_⟩)
  refine am_goX 2 (show am_rc h' 154 11 ∧ 0 ≤ 8 ∧ h'.2.2.2.2 + am_al 176 ≤ 175 ∧ am_call am_cod 60 176 [.ref 154] h' (fun v h2 => lw_G lw_r1351 (lw_Ex6 i 1541) lw_no 1387 (lw_l6 i (Int32.ofInt K) (Int32.ofInt V)) (v.toList ++ []) h2) from ⟨lw_rc154 q1, Nat.zero_le _, lw_lim q1 rfl, am_call.mono (fun v h2 q => ?_) (th_call q1)⟩)
  obtain ⟨e1, e2⟩ := q
  subst e1 e2
  rw [q4]
  refine am_goX 2 (show (Int32.ofInt K = Int32.ofInt K → lw_G lw_r1351 (lw_Ex6 i 1541) lw_no 1394 (lw_l6 i (Int32.ofInt K) (Int32.ofInt V)) [] h2) ∧ (¬ Int32.ofInt K = Int32.ofInt K → lw_G lw_r1351 (lw_Ex6 i 1541) lw_no 1392 (lw_l6 i (Int32.ofInt K) (Int32.ofInt V)) [] h2) from ⟨fun _ => ?_, fun z => absurd rfl z⟩)
  have fin : lw_G lw_r1351 (lw_Ex6 i 1541) lw_no 1411 (lw_l6 i (Int32.ofInt K) (Int32.ofInt V)) [] h2 := am_goX 1 (show lw_G lw_r1351 (lw_Ex6 i 1541) lw_no 1541 (lw_l6 i (Int32.ofInt K) (Int32.ofInt V)) [] h2 from am_xexit ⟨rfl, ⟨_, _, rfl⟩, rfl, q1⟩)
  refine am_goX 2 (show (¬ Int32.ofInt K = 0 → lw_G lw_r1351 (lw_Ex6 i 1541) lw_no 1411 (lw_l6 i (Int32.ofInt K) (Int32.ofInt V)) [] h2) ∧ (¬ ¬ Int32.ofInt K = 0 → lw_G lw_r1351 (lw_Ex6 i 1541) lw_no 1399 (lw_l6 i (Int32.ofInt K) (Int32.ofInt V)) [] h2) from ⟨fun _ => fin, fun hz => ?_⟩)
  have hK0 : K = 0 := by
    rcases hK with z | z
    · exact z
    · subst z
      exact absurd (by decide) hz
  have s174 : am_sh h2 174 = some (14, 1) := (ag_so_ok (D := ag_DD) (h := h2) (o := 174) (e := (14, 1)) ag_DD_sh (lw_175 q1) (by decide +kernel)).2
  refine am_goX 3 (show ∃ j n : Nat, am_sh h2 174 = some (14, n) ∧ j < n ∧ Int32.ofInt 0 = nI j ∧ lw_G lw_r1351 (lw_Ex6 i 1541) lw_no 1402 (lw_l6 i (Int32.ofInt K) (Int32.ofInt V)) [.long (h2.2.1 174 j)] h2 from ⟨0, 1, s174, by decide, rfl, ?_⟩)
  rw [q5, hV hK0]
  refine am_goX 4 (show (lg_cmp (Int32.ofInt V).toInt64 (Int32.ofInt V).toInt64 = 0 → lw_G lw_r1351 (lw_Ex6 i 1541) lw_no 1411 (lw_l6 i (Int32.ofInt K) (Int32.ofInt V)) [] h2) ∧ (¬ lg_cmp (Int32.ofInt V).toInt64 (Int32.ofInt V).toInt64 = 0 → lw_G lw_r1351 (lw_Ex6 i 1541) lw_no 1409 (lw_l6 i (Int32.ofInt K) (Int32.ofInt V)) [] h2) from ⟨fun _ => fin, fun z => absurd (lw_cmp0 _) z⟩)
