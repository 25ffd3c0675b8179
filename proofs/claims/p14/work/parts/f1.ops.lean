section
/-! THE LAW'S HEAD, ITS END, feed, AND OPCODE 40 -/
def lw_G (rows : List (Nat × am_R)) (E : Nat → am_V → List Value → am_H → Prop) (Q : am_Q) : Nat → am_V → List Value → am_H → Prop := am_X (am_call am_cod 60) 7 175 (some .boolean) (am_find rows) E Q
def lw_no : am_Q := fun _ _ => False
theorem lw_x7 (i : Nat) : nI i + Int32.ofInt 7 = nI (i + 7) := nI_add i 7
theorem lw_le {i L : Nat} (hi : i ≤ L) (hL : L ≤ 3584) (hn : ¬ nI L - (Int8.ofInt 7).toInt32 < nI i) : i + 7 ≤ L := by
  have e : (nI L - (Int8.ofInt 7).toInt32).toInt = (L : Int) - 7 := by
    rw [Int32.toInt_sub, nI_toInt (by omega), show ((Int8.ofInt 7).toInt32).toInt = 7 by decide]
    exact Int.bmod_eq_of_le (by omega) (by omega)
  rw [Int32.lt_iff_toInt_lt, e, nI_toInt (by omega)] at hn
  omega
def lw_os : Array Int := #[192, 339, 352, 365, 402, 439, 452, 489, 514, 527, 552, 589, 626, 651, 688, 725, 750, 763, 788, 825, 890, 903, 916, 929, 942, 967, 980, 993, 1018, 1055, 1068, 1081, 1094, 1131, 1144, 1157, 1182, 1195, 1220, 1233, 1282, 1346, 1395, 1448]
def lw_hd : List Nat := [1513, 232, 379, 392, 405, 442, 479, 492, 529, 554, 567, 592, 629, 666, 691, 728, 765, 790, 803, 828, 865, 930, 943, 956, 969, 982, 1007, 1020, 1033, 1058, 1095, 1108, 1121, 1134, 1171, 1184, 1197, 1222, 1235, 1260, 1273, 1322, 1386, 1435, 1488]
theorem lw_hd_ok : (List.range 44).all (fun j => lw_hd.contains ((40 : Int) + (lw_os[j]?).getD 0).toNat) = true := by decide +kernel
def lw_EH (i : Nat) (h : am_H) : Nat → am_V → List Value → am_H → Prop := fun pc lv st h' => h' = h ∧ lv = lw_lv i ∧ st = [] ∧ ((i + 7 ≤ h.2.2.2.1 ∧ pc ∈ lw_hd) ∨ pc = 1519)
def lw_rH : List (Nat × am_R) := [(23, (.iload 4, 25, 0, 0, 0, 0)), (25, (.aload_n 0, 26, 0, 0, 0, 0)), (26, (.arraylength, 27, 0, 0, 0, 0)), (27, (.bipush 7, 29, 0, 0, 0, 0)), (29, (.isub, 30, 0, 0, 0, 0)), (30, (.if_icmp .gt 1489, 33, 1519, 0, 0, 0)), (33, (.aload_n 0, 34, 0, 0, 0, 0)), (34, (.iload 4, 36, 0, 0, 0, 0)), (36, (.iaload, 37, 0, 0, 0, 0)), (37, (.bipush 63, 39, 0, 0, 0, 0)), (39, (.iand, 40, 0, 0, 0, 0)), (40, (.tableswitch 1473 0 43 #[192, 339, 352, 365, 402, 439, 452, 489, 514, 527, 552, 589, 626, 651, 688, 725, 750, 763, 788, 825, 890, 903, 916, 929, 942, 967, 980, 993, 1018, 1055, 1068, 1081, 1094, 1131, 1144, 1157, 1182, 1195, 1220, 1233, 1282, 1346, 1395, 1448], 232, 0, 0, 0, 0))]
theorem lw_oH : lw_rH.all (fun q => am_okB false "MistCantonLaw" code q.1 q.2) = true := am_wk_all 20 (by decide +kernel)
theorem lw_tH {i : Nat} {h : am_H} (hl : h.2.2.2.1 ≤ 3584) (hi : i ≤ h.2.2.2.1) : lw_G lw_rH (lw_EH i h) lw_no 23 (lw_lv i) [] h := by
  refine am_goX 3 (show (∃ t n : Nat, am_sh h 3000000 = some (t, n) ∧ 12 ≤ t ∧ lw_G lw_rH (lw_EH i h) lw_no 27 (lw_lv i) [.int (nI n), .int (nI i)] h) ∨ (∃ q : Nat, q < 26 ∧ 3000000 = 5000000 + q ∧ lw_G lw_rH (lw_EH i h) lw_no 27 (lw_lv i) [.int (nI (am_sln.getD q 0)), .int (nI i)] h) from Or.inl ⟨13, h.2.2.2.1, rfl, by decide, ?_⟩)
  refine am_goX 3 (show (nI h.2.2.2.1 - (Int8.ofInt 7).toInt32 < nI i → lw_G lw_rH (lw_EH i h) lw_no 1519 (lw_lv i) [] h) ∧ (¬ nI h.2.2.2.1 - (Int8.ofInt 7).toInt32 < nI i → lw_G lw_rH (lw_EH i h) lw_no 33 (lw_lv i) [] h) from ⟨fun _ => am_xexit ⟨rfl, rfl, rfl, Or.inr rfl⟩, fun hn => ?_⟩)
  have hle : i + 7 ≤ h.2.2.2.1 := lw_le hi hl hn
  refine am_goX 3 (show ∃ j n : Nat, am_sh h 3000000 = some (13, n) ∧ j < n ∧ nI i = nI j ∧ lw_G lw_rH (lw_EH i h) lw_no 37 (lw_lv i) [.int (h.1 3000000 j)] h from ⟨i, h.2.2.2.1, rfl, by omega, rfl, ?_⟩)
  generalize h.1 3000000 i = x
  refine am_goX 3 (show (((x &&& (Int8.ofInt 63).toInt32).toInt < 0 ∨ 43 < (x &&& (Int8.ofInt 63).toInt32).toInt) → lw_G lw_rH (lw_EH i h) lw_no 1513 (lw_lv i) [] h) ∧ (∀ j : Nat, (x &&& (Int8.ofInt 63).toInt32).toInt = 0 + (j : Int) → 0 + (j : Int) ≤ 43 → lw_G lw_rH (lw_EH i h) lw_no ((40 : Int) + (lw_os[j]?).getD 0).toNat (lw_lv i) [] h) from ⟨fun _ => am_xexit ⟨rfl, rfl, rfl, Or.inl ⟨hle, List.mem_cons_self⟩⟩, fun j _ hj => am_xexit ⟨rfl, rfl, rfl, Or.inl ⟨hle, ?_⟩⟩⟩)
  exact List.contains_iff_mem.mp (List.all_eq_true.mp lw_hd_ok j (List.mem_range.mpr (by omega)))
def lw_rE : List (Nat × am_R) := [(1519, (.iconst 1, 1520, 0, 0, 0, 0)), (1520, (.ireturn, 1521, 0, 0, 0, 0))]
theorem lw_oE : lw_rE.all (fun q => am_okB false "MistCantonLaw" code q.1 q.2) = true := am_wk_all 1516 (by decide +kernel)
theorem lw_tE {i : Nat} {h : am_H} : lw_G lw_rE (fun _ _ _ _ => False) (fun v _ => v = some (.int 1)) 1519 (lw_lv i) [] h :=
  am_goX 2 (show (∃ ty, some FieldType.boolean = some ty ∧ narrow ty (.int (Int32.ofInt 1)) = .int (Int32.ofInt 1)) ∧ some (Value.int (Int32.ofInt 1)) = some (.int 1) from ⟨⟨.boolean, rfl, rfl⟩, rfl⟩)
def lw_rN : List (Nat × am_R) := [(1513, (.iinc 4 7, 1516, 0, 0, 0, 0)), (1516, (.goto (-1493), 1519, 23, 0, 0, 0))]
theorem lw_oN : lw_rN.all (fun q => am_okB false "MistCantonLaw" code q.1 q.2) = true := am_wk_all 1512 (by decide +kernel)
theorem lw_tN {i : Nat} {h : am_H} (hI : lw_J (i + 7) h) : lw_G lw_rN (lw_Ex (lw_J (i + 7)) (i + 7) 23) lw_no 1513 (lw_lv i) [] h := by
  refine am_goX 2 (show 4 < 7 ∧ lw_G lw_rN (lw_Ex (lw_J (i + 7)) (i + 7) 23) lw_no 23 (am_s1 (lw_lv i) 4 (.int (nI i + Int32.ofInt 7))) [] h from ⟨by decide, am_xexit ⟨rfl, ?_, rfl, hI⟩⟩)
  rw [lw_x7]
  rfl
def lw_r1322 : List (Nat × am_R) := [(1322, (.aload_n 1, 1323, 0, 0, 0, 0)), (1323, (.aload_n 0, 1324, 0, 0, 0, 0)), (1324, (.iload 4, 1326, 0, 0, 0, 0)), (1326, (.iconst 1, 1327, 0, 0, 0, 0)), (1327, (.iadd, 1328, 0, 0, 0, 0)), (1328, (.iaload, 1329, 0, 0, 0, 0)), (1329, (.aload_n 0, 1330, 0, 0, 0, 0)), (1330, (.iload 4, 1332, 0, 0, 0, 0)), (1332, (.iconst 2, 1333, 0, 0, 0, 0)), (1333, (.iadd, 1334, 0, 0, 0, 0)), (1334, (.iaload, 1335, 0, 0, 0, 0)), (1335, (.aload_n 0, 1336, 0, 0, 0, 0)), (1336, (.iload 4, 1338, 0, 0, 0, 0)), (1338, (.iconst 3, 1339, 0, 0, 0, 0)), (1339, (.iadd, 1340, 0, 0, 0, 0)), (1340, (.iaload, 1341, 0, 0, 0, 0)), (1341, (.aload_n 0, 1342, 0, 0, 0, 0)), (1342, (.iload 4, 1344, 0, 0, 0, 0)), (1344, (.iconst 4, 1345, 0, 0, 0, 0)), (1345, (.iadd, 1346, 0, 0, 0, 0)), (1346, (.iaload, 1347, 0, 0, 0, 0)), (1347, (.aload_n 3, 1348, 0, 0, 0, 0))]
theorem lw_o1322 : lw_r1322.all (fun q => am_okB false "MistCantonLaw" code q.1 q.2) = true := am_wk_all 1320 (by decide +kernel)
def lw_E40 (i : Nat) (h : am_H) : Nat → am_V → List Value → am_H → Prop := fun pc lv st h' => pc = 1348 ∧ lv = lw_lv i ∧ st = [.ref 174, .int (h.1 3000000 (i + 4)), .int (h.1 3000000 (i + 3)), .int (h.1 3000000 (i + 2)), .int (h.1 3000000 (i + 1)), .ref 0] ∧ h' = h
theorem lw_t1322 {i : Nat} {h : am_H} (hL : i + 7 ≤ h.2.2.2.1) : lw_G lw_r1322 (lw_E40 i h) lw_no 1322 (lw_lv i) [] h := by
  refine am_goX 6 (show ∃ j n : Nat, am_sh h 3000000 = some (13, n) ∧ j < n ∧ nI i + Int32.ofInt 1 = nI j ∧ lw_G lw_r1322 (lw_E40 i h) lw_no 1329 (lw_lv i) [.int (h.1 3000000 j), .ref 0] h from ⟨i + 1, h.2.2.2.1, rfl, by omega, lw_x1 i, ?_⟩)
  refine am_goX 5 (show ∃ j n : Nat, am_sh h 3000000 = some (13, n) ∧ j < n ∧ nI i + Int32.ofInt 2 = nI j ∧ lw_G lw_r1322 (lw_E40 i h) lw_no 1335 (lw_lv i) [.int (h.1 3000000 j), .int (h.1 3000000 (i + 1)), .ref 0] h from ⟨i + 2, h.2.2.2.1, rfl, by omega, lw_x2 i, ?_⟩)
  refine am_goX 5 (show ∃ j n : Nat, am_sh h 3000000 = some (13, n) ∧ j < n ∧ nI i + Int32.ofInt 3 = nI j ∧ lw_G lw_r1322 (lw_E40 i h) lw_no 1341 (lw_lv i) [.int (h.1 3000000 j), .int (h.1 3000000 (i + 2)), .int (h.1 3000000 (i + 1)), .ref 0] h from ⟨i + 3, h.2.2.2.1, rfl, by omega, lw_x3 i, ?_⟩)
  refine am_goX 5 (show ∃ j n : Nat, am_sh h 3000000 = some (13, n) ∧ j < n ∧ nI i + Int32.ofInt 4 = nI j ∧ lw_G lw_r1322 (lw_E40 i h) lw_no 1347 (lw_lv i) [.int (h.1 3000000 j), .int (h.1 3000000 (i + 3)), .int (h.1 3000000 (i + 2)), .int (h.1 3000000 (i + 1)), .ref 0] h from ⟨i + 4, h.2.2.2.1, rfl, by omega, lw_x4 i, ?_⟩)
  exact am_goX 1 (show lw_G lw_r1322 (lw_E40 i h) lw_no 1348 (lw_lv i) [.ref 174, .int (h.1 3000000 (i + 4)), .int (h.1 3000000 (i + 3)), .int (h.1 3000000 (i + 2)), .int (h.1 3000000 (i + 1)), .ref 0] h from am_xexit ⟨rfl, rfl, rfl, rfl⟩)
def lw_r1351 : List (Nat × am_R) := [(1351, (.istore 5, 1353, 0, 0, 0, 0)), (1353, (.aload_n 2, 1354, 0, 0, 0, 0)), (1354, (.aload_n 0, 1355, 0, 0, 0, 0)), (1355, (.iload 4, 1357, 0, 0, 0, 0)), (1357, (.iconst 1, 1358, 0, 0, 0, 0)), (1358, (.iadd, 1359, 0, 0, 0, 0)), (1359, (.iaload, 1360, 0, 0, 0, 0)), (1360, (.aload_n 0, 1361, 0, 0, 0, 0)), (1361, (.iload 4, 1363, 0, 0, 0, 0)), (1363, (.iconst 2, 1364, 0, 0, 0, 0)), (1364, (.iadd, 1365, 0, 0, 0, 0)), (1365, (.iaload, 1366, 0, 0, 0, 0)), (1366, (.aload_n 0, 1367, 0, 0, 0, 0)), (1367, (.iload 4, 1369, 0, 0, 0, 0)), (1369, (.iconst 3, 1370, 0, 0, 0, 0)), (1370, (.iadd, 1371, 0, 0, 0, 0)), (1371, (.iaload, 1372, 0, 0, 0, 0)), (1372, (.aload_n 0, 1373, 0, 0, 0, 0)), (1373, (.iload 4, 1375, 0, 0, 0, 0)), (1375, (.iconst 4, 1376, 0, 0, 0, 0)), (1376, (.iadd, 1377, 0, 0, 0, 0)), (1377, (.iaload, 1378, 0, 0, 0, 0)), (1378, (.invokevirtual 193, 1381, 286, 4, 335, 11)), (1381, (.istore 6, 1383, 0, 0, 0, 0)), (1383, (.goto 130, 1386, 1513, 0, 0, 0))]
theorem lw_o1351 : lw_r1351.all (fun q => am_okB false "MistCantonLaw" code q.1 q.2) = true := am_wk_all 1348 (by decide +kernel)
def lw_l5 (i : Nat) (k : Int32) : am_V := (5, .int k) :: lw_lv i
def lw_l6 (i : Nat) (k b : Int32) : am_V := (6, .int b) :: lw_l5 i k
def lw_Ex6 (i e : Nat) : Nat → am_V → List Value → am_H → Prop := fun pc lv st h' => pc = e ∧ (∃ k b, lv = lw_l6 i k b) ∧ st = [] ∧ lw_J (i + 7) h'
theorem lw_t1351 {i K : Nat} {V : Int} {ys : Nat → Int32} {h : am_H} (hJ : lw_J i h) (hL : i + 7 ≤ h.2.2.2.1)
    (hR : ∀ h, iv_I h → am_call am_cod 60 286 [.ref 154, .int (ys 1), .int (ys 2), .int (ys 3), .int (ys 4)] h (fun v h' => iv_I h' ∧ ag_fr [(154, 0, 0)] h h' ∧ v = some (.int (Int32.ofInt V)) ∧ h'.1 154 0 = Int32.ofInt K))
    (y1 : h.1 3000000 (i + 1) = ys 1) (y2 : h.1 3000000 (i + 2) = ys 2) (y3 : h.1 3000000 (i + 3) = ys 3) (y4 : h.1 3000000 (i + 4) = ys 4) :
    lw_G lw_r1351 (lw_Ex6 i 1513) lw_no 1351 (lw_lv i) [.int (Int32.ofInt K)] h := by
  have hI := hJ.1
  refine am_goX 1 (show 5 < 7 ∧ lw_G lw_r1351 (lw_Ex6 i 1513) lw_no 1353 (lw_l5 i (Int32.ofInt K)) [] h from ⟨by decide, ?_⟩)
  refine am_goX 6 (show ∃ j n : Nat, am_sh h 3000000 = some (13, n) ∧ j < n ∧ nI i + Int32.ofInt 1 = nI j ∧ lw_G lw_r1351 (lw_Ex6 i 1513) lw_no 1360 (lw_l5 i (Int32.ofInt K)) [.int (h.1 3000000 j), .ref 154] h from ⟨i + 1, h.2.2.2.1, rfl, by omega, lw_x1 i, ?_⟩)
  rw [y1]
  refine am_goX 5 (show ∃ j n : Nat, am_sh h 3000000 = some (13, n) ∧ j < n ∧ nI i + Int32.ofInt 2 = nI j ∧ lw_G lw_r1351 (lw_Ex6 i 1513) lw_no 1366 (lw_l5 i (Int32.ofInt K)) [.int (h.1 3000000 j), .int (ys 1), .ref 154] h from ⟨i + 2, h.2.2.2.1, rfl, by omega, lw_x2 i, ?_⟩)
  rw [y2]
  refine am_goX 5 (show ∃ j n : Nat, am_sh h 3000000 = some (13, n) ∧ j < n ∧ nI i + Int32.ofInt 3 = nI j ∧ lw_G lw_r1351 (lw_Ex6 i 1513) lw_no 1372 (lw_l5 i (Int32.ofInt K)) [.int (h.1 3000000 j), .int (ys 2), .int (ys 1), .ref 154] h from ⟨i + 3, h.2.2.2.1, rfl, by omega, lw_x3 i, ?_⟩)
  rw [y3]
  refine am_goX 5 (show ∃ j n : Nat, am_sh h 3000000 = some (13, n) ∧ j < n ∧ nI i + Int32.ofInt 4 = nI j ∧ lw_G lw_r1351 (lw_Ex6 i 1513) lw_no 1378 (lw_l5 i (Int32.ofInt K)) [.int (h.1 3000000 j), .int (ys 3), .int (ys 2), .int (ys 1), .ref 154] h from ⟨i + 4, h.2.2.2.1, rfl, by omega, lw_x4 i, ?_⟩)
  rw [y4]
  refine am_goX 1 (show am_rc h 154 11 ∧ 0 ≤ 8 ∧ h.2.2.2.2 + am_al 286 ≤ 175 ∧ am_call am_cod 60 286 [.ref 154, .int (ys 1), .int (ys 2), .int (ys 3), .int (ys 4)] h (fun v h' => lw_G lw_r1351 (lw_Ex6 i 1513) lw_no 1381 (lw_l5 i (Int32.ofInt K)) (v.toList ++ []) h') from ⟨lw_rc154 hI, Nat.zero_le _, lw_lim hI rfl, am_call.mono (fun v h' q => ?_) (hR h hI)⟩)
  obtain ⟨q1, q2, rfl, -⟩ := q
  exact am_goX 2 (show 6 < 7 ∧ lw_G lw_r1351 (lw_Ex6 i 1513) lw_no 1513 (lw_l6 i (Int32.ofInt K) (Int32.ofInt V)) [] h' from ⟨by decide, am_xexit ⟨rfl, ⟨_, _, rfl⟩, rfl, lw_upJ ⟨q1, ((q2.2 1 1 (by decide)).1).trans (hJ.2.1.trans ((q2.2 154 2 (by decide)).1).symm), jt_k hJ.2.2.1 ((q2.2 154 2 (by decide)).1) (ks_of (by decide) q2), jw_k hJ.2.2.2.1 (ks_of (by decide) q2), jx_k (R := kr_Q) hJ.2.2.2.2 (kr_of (by decide +kernel) q2)⟩⟩⟩)
/-- what is fed to two tapes that hold the same -/
def fd_ag (s t : fd_T) : Prop := s.1 = t.1 ∧ ∀ q, q < s.1 → s.2 q = t.2 q ∧ fd_f (t.2 q) = true
theorem fd_1_ag {c : Int32} {s t : fd_T} (h : fd_ag s t) : fd_ag (fd_1 c s) (fd_1 c t) := by
  by_cases h1 : fd_f c = true
  · by_cases h2 : s.1 < 1000
    · rw [fd_1_y h1 h2, fd_1_y h1 (by rw [← h.1]; exact h2)]
      refine ⟨congrArg (· + 1) h.1, fun q hq => ?_⟩
      have hq : q < s.1 + 1 := hq
      show upd s.2 s.1 c q = upd t.2 t.1 c q ∧ fd_f (upd t.2 t.1 c q) = true
      unfold upd
      rw [← h.1]
      by_cases eq : q = s.1
      · simp only [eq, if_true, true_and]
        exact h1
      · simp only [eq, if_false]
        exact h.2 q (by omega)
    · rw [fd_1_n (Or.inr h2), fd_1_n (Or.inr (by rw [← h.1]; exact h2))]
      exact h
  · have h1 : fd_f c = false := by
      cases hq : fd_f c with
      | true => exact absurd hq h1
      | false => rfl
    rw [fd_1_n (Or.inl h1), fd_1_n (Or.inl h1)]
    exact h
theorem fd_8_ag {x : Int64} : ∀ (k : Nat) {s t : fd_T}, fd_ag s t → fd_ag (fd_8 x k s) (fd_8 x k t)
  | 0, _, _, h => h
  | k + 1, _, _, h => fd_8_ag k (fd_1_ag h)
theorem fd_3_ag {a b c : Int64} {s t : fd_T} (h : fd_ag s t) : fd_ag (fd_3 a b c s) (fd_3 a b c t) := fd_8_ag 8 (fd_8_ag 8 (fd_8_ag 8 h))
theorem lw_fb {o a b : Nat} {h : am_H} {s : fd_T} {q : Nat} (h1 : ¬ b = o) : (fd_h o a b h s).1 b q = s.2 q := by
  show (if b = o ∧ q = a then nI s.1 else if b = b then s.2 q else h.1 b q) = _
  rw [if_neg (fun z => h1 z.1), if_pos rfl]
theorem lw_fo {o a b : Nat} {h : am_H} {s : fd_T} {p q : Nat} (h1 : ¬ (p = o ∧ q = a)) (h2 : ¬ p = b) : (fd_h o a b h s).1 p q = h.1 p q := by
  show (if p = o ∧ q = a then nI s.1 else if p = b then s.2 q else h.1 p q) = _
  rw [if_neg h1, if_neg h2]
theorem lw_ref {h : am_H} (hI : iv_I h) {o k r : Nat} (hr : ag_lk ag_reft o k = some r) : h.2.2.1 o k = some r := by
  obtain ⟨N, hN, hW, -⟩ := hI
  exact hW.2.1.2.2 o k r hr
theorem lw_ch {h : am_H} (hI : iv_I h) {k : Nat} (hk : k < 1000) : 0 ≤ (h.1 2 k).toInt ∧ (h.1 2 k).toInt ≤ 65535 := by
  obtain ⟨N, hN, hW, -⟩ := hI
  exact hW.2.1.1 2 (0, 999, 1, 0, 0, 65535) (iv_sgm (o := 2) (s := (0, 999, 1, 0, 0, 65535)) (by decide +kernel)) k (Nat.zero_le _) (Nat.le_of_lt_succ hk) (Nat.mod_one _)
/-- a long of the script -/
def lw_lg (h : am_H) (i k : Nat) : Int64 := ((h.1 3000000 (i + k)).toInt64 <<< (((Int8.ofInt 32).toInt32).toInt64 &&& 63)) ||| ((h.1 3000000 (i + (k + 1))).toInt64 &&& (am_kl 34))
theorem lw_lgs {g h : am_H} (e : ∀ k, g.1 3000000 k = h.1 3000000 k) (i k : Nat) : lw_lg g i k = lw_lg h i k := by
  unfold lw_lg
  rw [e, e]
def lw_r232 : List (Nat × am_R) := [(232, (.aload_n 1, 233, 0, 0, 0, 0)), (233, (.aload_n 0, 234, 0, 0, 0, 0)), (234, (.iload 4, 236, 0, 0, 0, 0)), (236, (.iconst 1, 237, 0, 0, 0, 0)), (237, (.iadd, 238, 0, 0, 0, 0)), (238, (.iaload, 239, 0, 0, 0, 0)), (239, (.i2l, 240, 0, 0, 0, 0)), (240, (.bipush 32, 242, 0, 0, 0, 0)), (242, (.lshl, 243, 0, 0, 0, 0)), (243, (.aload_n 0, 244, 0, 0, 0, 0)), (244, (.iload 4, 246, 0, 0, 0, 0)), (246, (.iconst 2, 247, 0, 0, 0, 0)), (247, (.iadd, 248, 0, 0, 0, 0)), (248, (.iaload, 249, 0, 0, 0, 0)), (249, (.i2l, 250, 0, 0, 0, 0)), (250, (.ldc2_w 19, 253, 0, 0, 34, 0)), (253, (.land, 254, 0, 0, 0, 0)), (254, (.lor, 255, 0, 0, 0, 0)), (255, (.aload_n 0, 256, 0, 0, 0, 0)), (256, (.iload 4, 258, 0, 0, 0, 0)), (258, (.iconst 3, 259, 0, 0, 0, 0)), (259, (.iadd, 260, 0, 0, 0, 0)), (260, (.iaload, 261, 0, 0, 0, 0)), (261, (.i2l, 262, 0, 0, 0, 0)), (262, (.bipush 32, 264, 0, 0, 0, 0)), (264, (.lshl, 265, 0, 0, 0, 0)), (265, (.aload_n 0, 266, 0, 0, 0, 0)), (266, (.iload 4, 268, 0, 0, 0, 0)), (268, (.iconst 4, 269, 0, 0, 0, 0)), (269, (.iadd, 270, 0, 0, 0, 0)), (270, (.iaload, 271, 0, 0, 0, 0)), (271, (.i2l, 272, 0, 0, 0, 0)), (272, (.ldc2_w 19, 275, 0, 0, 34, 0)), (275, (.land, 276, 0, 0, 0, 0)), (276, (.lor, 277, 0, 0, 0, 0)), (277, (.aload_n 0, 278, 0, 0, 0, 0)), (278, (.iload 4, 280, 0, 0, 0, 0)), (280, (.iconst 5, 281, 0, 0, 0, 0)), (281, (.iadd, 282, 0, 0, 0, 0)), (282, (.iaload, 283, 0, 0, 0, 0)), (283, (.i2l, 284, 0, 0, 0, 0)), (284, (.bipush 32, 286, 0, 0, 0, 0)), (286, (.lshl, 287, 0, 0, 0, 0)), (287, (.aload_n 0, 288, 0, 0, 0, 0)), (288, (.iload 4, 290, 0, 0, 0, 0)), (290, (.bipush 6, 292, 0, 0, 0, 0)), (292, (.iadd, 293, 0, 0, 0, 0)), (293, (.iaload, 294, 0, 0, 0, 0)), (294, (.i2l, 295, 0, 0, 0, 0)), (295, (.ldc2_w 19, 298, 0, 0, 34, 0)), (298, (.land, 299, 0, 0, 0, 0)), (299, (.lor, 300, 0, 0, 0, 0)), (300, (.invokevirtual 21, 303, 12, 3, 24, 10)), (303, (.pop, 304, 0, 0, 0, 0)), (304, (.aload_n 2, 305, 0, 0, 0, 0)), (305, (.aload_n 0, 306, 0, 0, 0, 0)), (306, (.iload 4, 308, 0, 0, 0, 0)), (308, (.iconst 1, 309, 0, 0, 0, 0)), (309, (.iadd, 310, 0, 0, 0, 0)), (310, (.iaload, 311, 0, 0, 0, 0)), (311, (.i2l, 312, 0, 0, 0, 0)), (312, (.bipush 32, 314, 0, 0, 0, 0)), (314, (.lshl, 315, 0, 0, 0, 0)), (315, (.aload_n 0, 316, 0, 0, 0, 0)), (316, (.iload 4, 318, 0, 0, 0, 0)), (318, (.iconst 2, 319, 0, 0, 0, 0)), (319, (.iadd, 320, 0, 0, 0, 0)), (320, (.iaload, 321, 0, 0, 0, 0)), (321, (.i2l, 322, 0, 0, 0, 0)), (322, (.ldc2_w 19, 325, 0, 0, 34, 0)), (325, (.land, 326, 0, 0, 0, 0)), (326, (.lor, 327, 0, 0, 0, 0)), (327, (.aload_n 0, 328, 0, 0, 0, 0)), (328, (.iload 4, 330, 0, 0, 0, 0)), (330, (.iconst 3, 331, 0, 0, 0, 0)), (331, (.iadd, 332, 0, 0, 0, 0)), (332, (.iaload, 333, 0, 0, 0, 0)), (333, (.i2l, 334, 0, 0, 0, 0)), (334, (.bipush 32, 336, 0, 0, 0, 0)), (336, (.lshl, 337, 0, 0, 0, 0)), (337, (.aload_n 0, 338, 0, 0, 0, 0)), (338, (.iload 4, 340, 0, 0, 0, 0)), (340, (.iconst 4, 341, 0, 0, 0, 0)), (341, (.iadd, 342, 0, 0, 0, 0)), (342, (.iaload, 343, 0, 0, 0, 0)), (343, (.i2l, 344, 0, 0, 0, 0)), (344, (.ldc2_w 19, 347, 0, 0, 34, 0)), (347, (.land, 348, 0, 0, 0, 0)), (348, (.lor, 349, 0, 0, 0, 0)), (349, (.aload_n 0, 350, 0, 0, 0, 0)), (350, (.iload 4, 352, 0, 0, 0, 0)), (352, (.iconst 5, 353, 0, 0, 0, 0)), (353, (.iadd, 354, 0, 0, 0, 0)), (354, (.iaload, 355, 0, 0, 0, 0)), (355, (.i2l, 356, 0, 0, 0, 0)), (356, (.bipush 32, 358, 0, 0, 0, 0)), (358, (.lshl, 359, 0, 0, 0, 0)), (359, (.aload_n 0, 360, 0, 0, 0, 0)), (360, (.iload 4, 362, 0, 0, 0, 0)), (362, (.bipush 6, 364, 0, 0, 0, 0)), (364, (.iadd, 365, 0, 0, 0, 0)), (365, (.iaload, 366, 0, 0, 0, 0)), (366, (.i2l, 367, 0, 0, 0, 0)), (367, (.ldc2_w 19, 370, 0, 0, 34, 0)), (370, (.land, 371, 0, 0, 0, 0)), (371, (.lor, 372, 0, 0, 0, 0)), (372, (.invokevirtual 25, 375, 177, 3, 225, 11)), (375, (.pop, 376, 0, 0, 0, 0)), (376, (.goto 1137, 379, 1513, 0, 0, 0))]
theorem lw_o232 : lw_r232.all (fun q => am_okB false "MistCantonLaw" code q.1 q.2) = true := am_wk_all 232 (by decide +kernel)
theorem lw_t232 {i : Nat} {h : am_H} (hJ : lw_J i h) (hL : i + 7 ≤ h.2.2.2.1) (hb : h.2.2.2.1 ≤ 4096) : lw_S lw_r232 (lw_J (i + 7)) i 1513 232 (lw_lv i) [] h := by
  have hI := hJ.1
  obtain ⟨t, ht, hl⟩ := fd_t hI
  have ht1 : h.1 1 1 = nI t := hJ.2.1.trans ht
  have hag := hJ.2.2.1 t ht hl
  have h175 := lw_175 hI
  refine am_goX 6 (show ∃ j n : Nat, am_sh h 3000000 = some (13, n) ∧ j < n ∧ (nI i) + (Int32.ofInt 1) = nI j ∧ lw_S lw_r232 (lw_J (i + 7)) i 1513 239 (lw_lv i) [.int (h.1 3000000 j), .ref 0] h from ⟨i + 1, h.2.2.2.1, rfl, by omega, lw_x1 i, ?_⟩)
  refine am_goX 8 (show ∃ j n : Nat, am_sh h 3000000 = some (13, n) ∧ j < n ∧ (nI i) + (Int32.ofInt 2) = nI j ∧ lw_S lw_r232 (lw_J (i + 7)) i 1513 249 (lw_lv i) [.int (h.1 3000000 j), .long ((((h.1 3000000 (i + 1))).toInt64) <<< (((Int8.ofInt 32).toInt32).toInt64 &&& 63)), .ref 0] h from ⟨i + 2, h.2.2.2.1, rfl, by omega, lw_x2 i, ?_⟩)
  refine am_goX 4 (show lw_S lw_r232 (lw_J (i + 7)) i 1513 255 (lw_lv i) [.long (lw_lg h i 1), .ref 0] h from ?_)
  refine am_goX 5 (show ∃ j n : Nat, am_sh h 3000000 = some (13, n) ∧ j < n ∧ (nI i) + (Int32.ofInt 3) = nI j ∧ lw_S lw_r232 (lw_J (i + 7)) i 1513 261 (lw_lv i) [.int (h.1 3000000 j), .long (lw_lg h i 1), .ref 0] h from ⟨i + 3, h.2.2.2.1, rfl, by omega, lw_x3 i, ?_⟩)
  refine am_goX 8 (show ∃ j n : Nat, am_sh h 3000000 = some (13, n) ∧ j < n ∧ (nI i) + (Int32.ofInt 4) = nI j ∧ lw_S lw_r232 (lw_J (i + 7)) i 1513 271 (lw_lv i) [.int (h.1 3000000 j), .long ((((h.1 3000000 (i + 3))).toInt64) <<< (((Int8.ofInt 32).toInt32).toInt64 &&& 63)), .long (lw_lg h i 1), .ref 0] h from ⟨i + 4, h.2.2.2.1, rfl, by omega, lw_x4 i, ?_⟩)
  refine am_goX 4 (show lw_S lw_r232 (lw_J (i + 7)) i 1513 277 (lw_lv i) [.long (lw_lg h i 3), .long (lw_lg h i 1), .ref 0] h from ?_)
  refine am_goX 5 (show ∃ j n : Nat, am_sh h 3000000 = some (13, n) ∧ j < n ∧ (nI i) + (Int32.ofInt 5) = nI j ∧ lw_S lw_r232 (lw_J (i + 7)) i 1513 283 (lw_lv i) [.int (h.1 3000000 j), .long (lw_lg h i 3), .long (lw_lg h i 1), .ref 0] h from ⟨i + 5, h.2.2.2.1, rfl, by omega, lw_x5 i, ?_⟩)
  refine am_goX 8 (show ∃ j n : Nat, am_sh h 3000000 = some (13, n) ∧ j < n ∧ (nI i) + (Int8.ofInt 6).toInt32 = nI j ∧ lw_S lw_r232 (lw_J (i + 7)) i 1513 294 (lw_lv i) [.int (h.1 3000000 j), .long ((((h.1 3000000 (i + 5))).toInt64) <<< (((Int8.ofInt 32).toInt32).toInt64 &&& 63)), .long (lw_lg h i 3), .long (lw_lg h i 1), .ref 0] h from ⟨i + 6, h.2.2.2.1, rfl, by omega, lw_x6 i, ?_⟩)
  refine am_goX 4 (show lw_S lw_r232 (lw_J (i + 7)) i 1513 300 (lw_lv i) [.long (lw_lg h i 5), .long (lw_lg h i 3), .long (lw_lg h i 1), .ref 0] h from ?_)
  refine am_goX 1 (show am_rc h 0 10 ∧ 0 ≤ 8 ∧ h.2.2.2.2 + am_al 12 ≤ 175 ∧ am_call am_cod 60 12 [.ref 0, .long (lw_lg h i 1), .long (lw_lg h i 3), .long (lw_lg h i 5)] h (fun v h' => lw_S lw_r232 (lw_J (i + 7)) i 1513 303 (lw_lv i) (v.toList ++ []) h') from ⟨lw_rc0 hI, Nat.zero_le _, lw_lim hI rfl, fd_feedC (d := 58) (t := t) (ag_so_ok (D := ag_DD) (h := h) (o := 0) (e := (10, 0)) ag_DD_sh h175 (by decide +kernel)).1 (ag_so_ok (D := ag_DD) (h := h) (o := 1) (e := (7, 0)) ag_DD_sh h175 (by decide +kernel)).1 (ag_so_ok (D := ag_DD) (h := h) (o := 2) (e := (12, 1000)) ag_DD_sh h175 (by decide +kernel)).1 (lw_ref hI (by decide +kernel)) (lw_ref hI (by decide +kernel)) ht1 hl ?_⟩)
  have hok : fd_ok (fd_3 (lw_lg h i 1) (lw_lg h i 3) (lw_lg h i 5) (t, h.1 2)) := fd_3_ok ⟨hl, fun k hk => lw_ch hI hk⟩
  have hI1 : iv_I (fd_h 1 1 2 h (fd_3 (lw_lg h i 1) (lw_lg h i 3) (lw_lg h i 5) (t, h.1 2))) := by
    refine fd_iv hI (by decide) (by decide) (by decide) (pz_sgv fd_sg1 ?_ ?_) (fd_s2 hok.2)
    · rw [nI_toInt (by have := hok.1; omega)]
      omega
    · rw [nI_toInt (by have := hok.1; omega)]
      have := hok.1
      omega
  have e1 : (fd_h 1 1 2 h (fd_3 (lw_lg h i 1) (lw_lg h i 3) (lw_lg h i 5) (t, h.1 2))).1 1 1 = nI (fd_3 (lw_lg h i 1) (lw_lg h i 3) (lw_lg h i 5) (t, h.1 2)).1 := fd_h_n
  have e2 : (fd_h 1 1 2 h (fd_3 (lw_lg h i 1) (lw_lg h i 3) (lw_lg h i 5) (t, h.1 2))).1 154 2 = nI t := by
    rw [lw_fo (by omega) (by omega)]
    exact ht
  have e3 : ∀ k, (fd_h 1 1 2 h (fd_3 (lw_lg h i 1) (lw_lg h i 3) (lw_lg h i 5) (t, h.1 2))).1 3000000 k = h.1 3000000 k := fun k => by
    exact lw_fo (by omega) (by omega)
  have e4 : ∀ k, lw_lg (fd_h 1 1 2 h (fd_3 (lw_lg h i 1) (lw_lg h i 3) (lw_lg h i 5) (t, h.1 2))) i k = lw_lg h i k := fun k => lw_lgs e3 i k
  have e5 : (fd_h 1 1 2 h (fd_3 (lw_lg h i 1) (lw_lg h i 3) (lw_lg h i 5) (t, h.1 2))).2.2.2.1 = h.2.2.2.1 := rfl
  have e6 : ∀ q, (fd_h 1 1 2 h (fd_3 (lw_lg h i 1) (lw_lg h i 3) (lw_lg h i 5) (t, h.1 2))).1 2 q = (fd_3 (lw_lg h i 1) (lw_lg h i 3) (lw_lg h i 5) (t, h.1 2)).2 q := fun q => lw_fb (by decide)
  have e7 : (fd_h 1 1 2 h (fd_3 (lw_lg h i 1) (lw_lg h i 3) (lw_lg h i 5) (t, h.1 2))).1 155 = h.1 155 := by
    funext q
    exact lw_fo (by omega) (by omega)
  have e8 : jw (fd_h 1 1 2 h (fd_3 (lw_lg h i 1) (lw_lg h i 3) (lw_lg h i 5) (t, h.1 2))) := hJ.2.2.2.1
  have e9 : jx i (fd_h 1 1 2 h (fd_3 (lw_lg h i 1) (lw_lg h i 3) (lw_lg h i 5) (t, h.1 2))) := jx_k (R := kr_Q) hJ.2.2.2.2 (kr_fd (by decide +kernel) (by decide +kernel))
  have hL1 : i + 7 ≤ (fd_h 1 1 2 h (fd_3 (lw_lg h i 1) (lw_lg h i 3) (lw_lg h i 5) (t, h.1 2))).2.2.2.1 := hL
  generalize fd_h 1 1 2 h (fd_3 (lw_lg h i 1) (lw_lg h i 3) (lw_lg h i 5) (t, h.1 2)) = g at hI1 e1 e2 e4 e6 e7 e8 e9 hL1 ⊢
  clear e3 e5
  have g175 := lw_175 hI1
  generalize ew : nI (fd_3 (lw_lg h i 1) (lw_lg h i 3) (lw_lg h i 5) (t, h.1 2)).1 = w at e1 ⊢
  refine am_goX 1 (show (Value.int w).category = 1 ∧ lw_S lw_r232 (lw_J (i + 7)) i 1513 304 (lw_lv i) [] g from ⟨rfl, ?_⟩)
  refine am_goX 6 (show ∃ j n : Nat, am_sh g 3000000 = some (13, n) ∧ j < n ∧ (nI i) + (Int32.ofInt 1) = nI j ∧ lw_S lw_r232 (lw_J (i + 7)) i 1513 311 (lw_lv i) [.int (g.1 3000000 j), .ref 154] g from ⟨i + 1, g.2.2.2.1, rfl, by omega, lw_x1 i, ?_⟩)
  refine am_goX 8 (show ∃ j n : Nat, am_sh g 3000000 = some (13, n) ∧ j < n ∧ (nI i) + (Int32.ofInt 2) = nI j ∧ lw_S lw_r232 (lw_J (i + 7)) i 1513 321 (lw_lv i) [.int (g.1 3000000 j), .long ((((g.1 3000000 (i + 1))).toInt64) <<< (((Int8.ofInt 32).toInt32).toInt64 &&& 63)), .ref 154] g from ⟨i + 2, g.2.2.2.1, rfl, by omega, lw_x2 i, ?_⟩)
  refine am_goX 4 (show lw_S lw_r232 (lw_J (i + 7)) i 1513 327 (lw_lv i) [.long (lw_lg g i 1), .ref 154] g from ?_)
  refine am_goX 5 (show ∃ j n : Nat, am_sh g 3000000 = some (13, n) ∧ j < n ∧ (nI i) + (Int32.ofInt 3) = nI j ∧ lw_S lw_r232 (lw_J (i + 7)) i 1513 333 (lw_lv i) [.int (g.1 3000000 j), .long (lw_lg g i 1), .ref 154] g from ⟨i + 3, g.2.2.2.1, rfl, by omega, lw_x3 i, ?_⟩)
  refine am_goX 8 (show ∃ j n : Nat, am_sh g 3000000 = some (13, n) ∧ j < n ∧ (nI i) + (Int32.ofInt 4) = nI j ∧ lw_S lw_r232 (lw_J (i + 7)) i 1513 343 (lw_lv i) [.int (g.1 3000000 j), .long ((((g.1 3000000 (i + 3))).toInt64) <<< (((Int8.ofInt 32).toInt32).toInt64 &&& 63)), .long (lw_lg g i 1), .ref 154] g from ⟨i + 4, g.2.2.2.1, rfl, by omega, lw_x4 i, ?_⟩)
  refine am_goX 4 (show lw_S lw_r232 (lw_J (i + 7)) i 1513 349 (lw_lv i) [.long (lw_lg g i 3), .long (lw_lg g i 1), .ref 154] g from ?_)
  refine am_goX 5 (show ∃ j n : Nat, am_sh g 3000000 = some (13, n) ∧ j < n ∧ (nI i) + (Int32.ofInt 5) = nI j ∧ lw_S lw_r232 (lw_J (i + 7)) i 1513 355 (lw_lv i) [.int (g.1 3000000 j), .long (lw_lg g i 3), .long (lw_lg g i 1), .ref 154] g from ⟨i + 5, g.2.2.2.1, rfl, by omega, lw_x5 i, ?_⟩)
  refine am_goX 8 (show ∃ j n : Nat, am_sh g 3000000 = some (13, n) ∧ j < n ∧ (nI i) + (Int8.ofInt 6).toInt32 = nI j ∧ lw_S lw_r232 (lw_J (i + 7)) i 1513 366 (lw_lv i) [.int (g.1 3000000 j), .long ((((g.1 3000000 (i + 5))).toInt64) <<< (((Int8.ofInt 32).toInt32).toInt64 &&& 63)), .long (lw_lg g i 3), .long (lw_lg g i 1), .ref 154] g from ⟨i + 6, g.2.2.2.1, rfl, by omega, lw_x6 i, ?_⟩)
  refine am_goX 4 (show lw_S lw_r232 (lw_J (i + 7)) i 1513 372 (lw_lv i) [.long (lw_lg g i 5), .long (lw_lg g i 3), .long (lw_lg g i 1), .ref 154] g from ?_)
  refine am_goX 1 (show am_rc g 154 11 ∧ 0 ≤ 8 ∧ g.2.2.2.2 + am_al 177 ≤ 175 ∧ am_call am_cod 60 177 [.ref 154, .long (lw_lg g i 1), .long (lw_lg g i 3), .long (lw_lg g i 5)] g (fun v h' => lw_S lw_r232 (lw_J (i + 7)) i 1513 375 (lw_lv i) (v.toList ++ []) h') from ⟨lw_rc154 hI1, by decide, lw_lim hI1 rfl, fd_feedM (d := 58) (t := t) (ag_so_ok (D := ag_DD) (h := g) (o := 154) (e := (11, 0)) ag_DD_sh g175 (by decide +kernel)).1 (ag_so_ok (D := ag_DD) (h := g) (o := 155) (e := (13, 1000)) ag_DD_sh g175 (by decide +kernel)).1 (lw_ref hI1 (by decide +kernel)) e2 hl ?_⟩)
  rw [e4, e4, e4]
  have ew2 : nI (fd_3 (lw_lg h i 1) (lw_lg h i 3) (lw_lg h i 5) (t, g.1 155)).1 = w := by
    rw [← ew, fd_3_fst (s := (t, g.1 155)) (t := (t, h.1 2)) rfl]
  have hle : (fd_3 (lw_lg h i 1) (lw_lg h i 3) (lw_lg h i 5) (t, g.1 155)).1 ≤ 1000 := fd_8_le (fd_8_le (fd_8_le hl))
  have hI2 : iv_I (fd_h 154 2 155 (am_wI g 154 0 0) (fd_3 (lw_lg h i 1) (lw_lg h i 3) (lw_lg h i 5) (t, g.1 155))) := by
    refine fd_iv (fd_w hI1) (by decide) (by decide) (by decide) (pz_sgv pz_sg2 ?_ ?_) (fun k q hq => by rw [fd_sg155] at hq; exact absurd hq List.not_mem_nil)
    · rw [nI_toInt (by omega)]
      omega
    · rw [nI_toInt (by omega)]
      omega
  have f1 : (fd_h 154 2 155 (am_wI g 154 0 0) (fd_3 (lw_lg h i 1) (lw_lg h i 3) (lw_lg h i 5) (t, g.1 155))).1 154 2 = w := fd_h_n.trans ew2
  have f2 : (fd_h 154 2 155 (am_wI g 154 0 0) (fd_3 (lw_lg h i 1) (lw_lg h i 3) (lw_lg h i 5) (t, g.1 155))).1 1 1 = w := by
    rw [lw_fo (by omega) (by omega), em_wn g _ (by omega)]
    exact e1
  rw [ew2]
  have f3 : ∀ q, (fd_h 154 2 155 (am_wI g 154 0 0) (fd_3 (lw_lg h i 1) (lw_lg h i 3) (lw_lg h i 5) (t, g.1 155))).1 2 q = (fd_3 (lw_lg h i 1) (lw_lg h i 3) (lw_lg h i 5) (t, h.1 2)).2 q := fun q => by
    rw [lw_fo (by omega) (by omega), em_wn g _ (by omega)]
    exact e6 q
  have f4 : ∀ q, (fd_h 154 2 155 (am_wI g 154 0 0) (fd_3 (lw_lg h i 1) (lw_lg h i 3) (lw_lg h i 5) (t, g.1 155))).1 155 q = (fd_3 (lw_lg h i 1) (lw_lg h i 3) (lw_lg h i 5) (t, h.1 155)).2 q := fun q => by
    rw [← e7]
    exact lw_fb (by decide)
  have f5 : jw (fd_h 154 2 155 (am_wI g 154 0 0) (fd_3 (lw_lg h i 1) (lw_lg h i 3) (lw_lg h i 5) (t, g.1 155))) := e8
  have f6 : jx i (fd_h 154 2 155 (am_wI g 154 0 0) (fd_3 (lw_lg h i 1) (lw_lg h i 3) (lw_lg h i 5) (t, g.1 155))) := jx_k (R := kr_Q) e9 (kr_t (kr_w (by decide +kernel)) (kr_fd (by decide +kernel) (by decide +kernel)))
  have ag := fd_3_ag (a := lw_lg h i 1) (b := lw_lg h i 3) (c := lw_lg h i 5) (s := (t, h.1 2)) (t := (t, h.1 155)) ⟨rfl, hag⟩
  have fj : jt (fd_h 154 2 155 (am_wI g 154 0 0) (fd_3 (lw_lg h i 1) (lw_lg h i 3) (lw_lg h i 5) (t, g.1 155))) := by
    intro t2 ht2 hl2 q hq
    rw [f3, f4]
    have w1 := f1.symm.trans ht2
    rw [← ew] at w1
    have w2 := nI_inj2 (by have := hok.1; omega) (by omega) w1
    exact ag.2 q (by omega)
  generalize fd_h 154 2 155 (am_wI g 154 0 0) (fd_3 (lw_lg h i 1) (lw_lg h i 3) (lw_lg h i 5) (t, g.1 155)) = g2 at hI2 f1 f2 f5 f6 fj ⊢
  exact am_goX 2 (show (Value.int w).category = 1 ∧ lw_S lw_r232 (lw_J (i + 7)) i 1513 1513 (lw_lv i) [] g2 from ⟨rfl, am_xexit ⟨rfl, rfl, rfl, lw_upJ ⟨hI2, f2.trans f1.symm, fj, f5, f6⟩⟩⟩)
/-! the special segments -/
def lw_r379 : List (Nat × am_R) := [(379, (.aload_n 1, 380, 0, 0, 0, 0)), (380, (.invokevirtual 26, 383, 14, 0, 26, 10)), (383, (.pop, 384, 0, 0, 0, 0)), (384, (.aload_n 2, 385, 0, 0, 0, 0)), (385, (.invokevirtual 30, 388, 188, 0, 237, 11)), (388, (.pop, 389, 0, 0, 0, 0)), (389, (.goto 1124, 392, 1513, 0, 0, 0))]
theorem lw_o379 : lw_r379.all (fun q => am_okB false "MistCantonLaw" code q.1 q.2) = true := am_wk_all 376 (by decide +kernel)
theorem lw_t379 {i : Nat} {h : am_H} (hJ : lw_J i h) (hL : i + 7 ≤ h.2.2.2.1) (hb : h.2.2.2.1 ≤ 4096) : lw_S lw_r379 (lw_J (i + 7)) i 1513 379 (lw_lv i) [] h := by
  have hI := hJ.1
  obtain ⟨t, ht, hl⟩ := fd_t hI
  have ht1 : h.1 1 1 = nI t := hJ.2.1.trans ht
  have hag := hJ.2.2.1 t ht hl
  obtain ⟨C, s, H, M, x0, ki, j1, j2⟩ := hJ.2.2.2.2
  refine am_goX 2 (show am_rc h 0 10 ∧ 0 ≤ 8 ∧ h.2.2.2.2 + am_al 14 ≤ 175 ∧ am_call am_cod 60 14 [.ref 0] h (fun v h' => lw_S lw_r379 (lw_J (i + 7)) i 1513 383 (lw_lv i) (v.toList ++ []) h') from ⟨lw_rc0 hI, by decide, lw_lim hI rfl, am_det hb (lw_k0 (iv_m14 (vs := []) trivial hI)) (c_14y (T := h.1 155) hI hl (fun q hq => fd_f_r (hag q hq).2) ht1 (fun q hq => (hag q hq).1)) (fun v g q1 q2 => ?_)⟩)
  obtain ⟨hI1, ⟨x, rfl⟩, z1, z2, z3, z4⟩ := q1
  have hb1 : g.2.2.2.1 ≤ 4096 := by rw [z3.2.2.2]; exact hb
  have hL1 : i + 7 ≤ g.2.2.2.1 := by rw [z3.2.2.2]; exact hL
  have p2 := q2
  have hw1 : jw g := jw_k hJ.2.2.2.1 z3
  have eT : g.1 155 = h.1 155 := funext z3.2.1
  refine am_goX 1 (show (Value.int x).category = 1 ∧ lw_S lw_r379 (lw_J (i + 7)) i 1513 384 (lw_lv i) [] g from ⟨rfl, ?_⟩)
  refine am_goX 2 (show am_rc g 154 11 ∧ 0 ≤ 8 ∧ g.2.2.2.2 + am_al 188 ≤ 175 ∧ am_call am_cod 60 188 [.ref 154] g (fun v h' => lw_S lw_r379 (lw_J (i + 7)) i 1513 388 (lw_lv i) (v.toList ++ []) h') from ⟨lw_rc154 hI1, by decide, lw_lim hI1 rfl, am_det hb1 (iv_m188 hI1) (c_188y hI1 hb1 hw1 hl (z2.trans ht)) (fun v g2 q1 q2 => ?_)⟩)
  obtain ⟨hI2, ⟨y, rfl⟩, y1, y2, y3, y4⟩ := q1
  rw [eT] at q2
  have fin : lw_J (i + 7) g2 := lw_upJ ⟨hI2, (y1.trans z1).trans y2.symm, jt_0 y2, fun w hw => (y3 w).trans (hw1 w hw), K_cn ki p2 z4 q2 j1 j2⟩
  exact am_goX 2 (show (Value.int y).category = 1 ∧ lw_S lw_r379 (lw_J (i + 7)) i 1513 1513 (lw_lv i) [] g2 from ⟨rfl, am_xexit ⟨rfl, rfl, rfl, fin⟩⟩)
def lw_r392 : List (Nat × am_R) := [(392, (.aload_n 1, 393, 0, 0, 0, 0)), (393, (.invokevirtual 31, 396, 80, 0, 102, 10)), (396, (.pop, 397, 0, 0, 0, 0)), (397, (.aload_n 2, 398, 0, 0, 0, 0)), (398, (.invokevirtual 34, 401, 219, 0, 268, 11)), (401, (.pop, 402, 0, 0, 0, 0)), (402, (.goto 1111, 405, 1513, 0, 0, 0))]
theorem lw_o392 : lw_r392.all (fun q => am_okB false "MistCantonLaw" code q.1 q.2) = true := am_wk_all 392 (by decide +kernel)
theorem lw_t392 {i : Nat} {h : am_H} (hJ : lw_J i h) (hL : i + 7 ≤ h.2.2.2.1) (hb : h.2.2.2.1 ≤ 4096) : lw_S lw_r392 (lw_J (i + 7)) i 1513 392 (lw_lv i) [] h := by
  have hI := hJ.1
  refine am_goX 2 (show am_rc h 0 10 ∧ 0 ≤ 8 ∧ h.2.2.2.2 + am_al 80 ≤ 175 ∧ am_call am_cod 60 80 [.ref 0] h (fun v h' => lw_S lw_r392 (lw_J (i + 7)) i 1513 396 (lw_lv i) (v.toList ++ []) h') from ⟨lw_rc0 hI, by decide, lw_lim hI rfl, am_det hb (lw_k0 (iv_m80 (vs := []) trivial hI)) ((lw_k0 (iv_m80 (vs := []) trivial hI))) (fun v g q1 q2 => ?_)⟩)
  obtain ⟨hI1, ⟨x, rfl⟩, z1, z2, z3, z4⟩ := q1
  have hb1 : g.2.2.2.1 ≤ 4096 := by rw [z3.2.2.2]; exact hb
  have hL1 : i + 7 ≤ g.2.2.2.1 := by rw [z3.2.2.2]; exact hL
  clear q2
  have hw1 : jw g := jw_k hJ.2.2.2.1 z3
  refine am_goX 1 (show (Value.int x).category = 1 ∧ lw_S lw_r392 (lw_J (i + 7)) i 1513 397 (lw_lv i) [] g from ⟨rfl, ?_⟩)
  refine am_goX 2 (show am_rc g 154 11 ∧ 0 ≤ 8 ∧ g.2.2.2.2 + am_al 219 ≤ 175 ∧ am_call am_cod 60 219 [.ref 154] g (fun v h' => lw_S lw_r392 (lw_J (i + 7)) i 1513 401 (lw_lv i) (v.toList ++ []) h') from ⟨lw_rc154 hI1, by decide, lw_lim hI1 rfl, am_det hb1 (iv_m219 hI1) ((iv_m219 hI1)) (fun v g2 q1 q2 => ?_)⟩)
  clear q2
  obtain ⟨hI2, ⟨y, rfl⟩, ⟨y1, y2, y3, y4⟩, y5⟩ := q1
  have fin : lw_J (i + 7) g2 := lw_upJ ⟨hI2, (y1.trans z1).trans y2.symm, jt_0 y2, fun w hw => (y3 w).trans (hw1 w hw), jx_k (jx_k hJ.2.2.2.2 z4) y5⟩
  exact am_goX 2 (show (Value.int y).category = 1 ∧ lw_S lw_r392 (lw_J (i + 7)) i 1513 1513 (lw_lv i) [] g2 from ⟨rfl, am_xexit ⟨rfl, rfl, rfl, fin⟩⟩)
def lw_r479 : List (Nat × am_R) := [(479, (.aload_n 1, 480, 0, 0, 0, 0)), (480, (.invokevirtual 44, 483, 97, 0, 129, 10)), (483, (.pop, 484, 0, 0, 0, 0)), (484, (.aload_n 2, 485, 0, 0, 0, 0)), (485, (.invokevirtual 47, 488, 230, 0, 279, 11)), (488, (.pop, 489, 0, 0, 0, 0)), (489, (.goto 1024, 492, 1513, 0, 0, 0))]
theorem lw_o479 : lw_r479.all (fun q => am_okB false "MistCantonLaw" code q.1 q.2) = true := am_wk_all 476 (by decide +kernel)
theorem lw_t479 {i : Nat} {h : am_H} (hJ : lw_J i h) (hL : i + 7 ≤ h.2.2.2.1) (hb : h.2.2.2.1 ≤ 4096) : lw_S lw_r479 (lw_J (i + 7)) i 1513 479 (lw_lv i) [] h := by
  have hI := hJ.1
  obtain ⟨C, s, H, M, x0, ki, j1, j2⟩ := hJ.2.2.2.2
  refine am_goX 2 (show am_rc h 0 10 ∧ 0 ≤ 8 ∧ h.2.2.2.2 + am_al 97 ≤ 175 ∧ am_call am_cod 60 97 [.ref 0] h (fun v h' => lw_S lw_r479 (lw_J (i + 7)) i 1513 483 (lw_lv i) (v.toList ++ []) h') from ⟨lw_rc0 hI, by decide, lw_lim hI rfl, am_det hb (lw_k0 (iv_m97 (vs := []) trivial hI)) ((m_97 hI ki j1)) (fun v g q1 q2 => ?_)⟩)
  obtain ⟨hI1, ⟨x, rfl⟩, z1, z2, z3, z4⟩ := q1
  have hb1 : g.2.2.2.1 ≤ 4096 := by rw [z3.2.2.2]; exact hb
  have hL1 : i + 7 ≤ g.2.2.2.1 := by rw [z3.2.2.2]; exact hL
  have j3 := KR_k j2 (kr_sub (by decide +kernel) z4)
  have p2 := q2
  clear q2
  refine am_goX 1 (show (Value.int x).category = 1 ∧ lw_S lw_r479 (lw_J (i + 7)) i 1513 484 (lw_lv i) [] g from ⟨rfl, ?_⟩)
  refine am_goX 2 (show am_rc g 154 11 ∧ 0 ≤ 8 ∧ g.2.2.2.2 + am_al 230 ≤ 175 ∧ am_call am_cod 60 230 [.ref 154] g (fun v h' => lw_S lw_r479 (lw_J (i + 7)) i 1513 488 (lw_lv i) (v.toList ++ []) h') from ⟨lw_rc154 hI1, by decide, lw_lim hI1 rfl, am_det hb1 (lw_k0 (iv_m230 (vs := []) trivial hI1)) ((m_230 hI1 ki (by omega) j3)) (fun v g2 q1 q2 => ?_)⟩)
  obtain ⟨hI2, ⟨y, rfl⟩, y1, y2, y3, y4⟩ := q1
  have er : x = y := (Value.int.inj (Option.some.inj p2.1)).trans (Value.int.inj (Option.some.inj q2.1)).symm
  have fin : lw_J (i + 7) g2 := ⟨hI2, (y1.trans z1).trans (hJ.2.1.trans (y2.trans z2).symm), jt_k (jt_k hJ.2.2.1 z2 z3) y2 y3, jw_k (jw_k hJ.2.2.2.1 z3) y3, ⟨C, _, _, _, _, KI_up (E := (i + 7) / 7) (by omega) (i_day ki), KC_k p2.2 (kr_sub (by decide +kernel) y4), q2.2⟩⟩
  exact am_goX 2 (show (Value.int y).category = 1 ∧ lw_S lw_r479 (lw_J (i + 7)) i 1513 1513 (lw_lv i) [] g2 from ⟨rfl, am_xexit ⟨rfl, rfl, rfl, fin⟩⟩)
def lw_r492 : List (Nat × am_R) := [(492, (.aload_n 1, 493, 0, 0, 0, 0)), (493, (.aload_n 0, 494, 0, 0, 0, 0)), (494, (.iload 4, 496, 0, 0, 0, 0)), (496, (.iconst 1, 497, 0, 0, 0, 0)), (497, (.iadd, 498, 0, 0, 0, 0)), (498, (.iaload, 499, 0, 0, 0, 0)), (499, (.aload_n 0, 500, 0, 0, 0, 0)), (500, (.iload 4, 502, 0, 0, 0, 0)), (502, (.iconst 2, 503, 0, 0, 0, 0)), (503, (.iadd, 504, 0, 0, 0, 0)), (504, (.iaload, 505, 0, 0, 0, 0)), (505, (.invokevirtual 48, 508, 109, 2, 144, 10)), (508, (.pop, 509, 0, 0, 0, 0)), (509, (.aload_n 2, 510, 0, 0, 0, 0)), (510, (.aload_n 0, 511, 0, 0, 0, 0)), (511, (.iload 4, 513, 0, 0, 0, 0)), (513, (.iconst 1, 514, 0, 0, 0, 0)), (514, (.iadd, 515, 0, 0, 0, 0)), (515, (.iaload, 516, 0, 0, 0, 0)), (516, (.aload_n 0, 517, 0, 0, 0, 0)), (517, (.iload 4, 519, 0, 0, 0, 0)), (519, (.iconst 2, 520, 0, 0, 0, 0)), (520, (.iadd, 521, 0, 0, 0, 0)), (521, (.iaload, 522, 0, 0, 0, 0)), (522, (.invokevirtual 51, 525, 239, 2, 288, 11)), (525, (.pop, 526, 0, 0, 0, 0)), (526, (.goto 987, 529, 1513, 0, 0, 0))]
theorem lw_o492 : lw_r492.all (fun q => am_okB false "MistCantonLaw" code q.1 q.2) = true := am_wk_all 492 (by decide +kernel)
theorem lw_t492 {i : Nat} {h : am_H} (hJ : lw_J i h) (hL : i + 7 ≤ h.2.2.2.1) (hb : h.2.2.2.1 ≤ 4096) : lw_S lw_r492 (lw_J (i + 7)) i 1513 492 (lw_lv i) [] h := by
  have hI := hJ.1
  obtain ⟨C, s, H, M, x0, ki, j1, j2⟩ := hJ.2.2.2.2
  refine am_goX 6 (show ∃ j n : Nat, am_sh h 3000000 = some (13, n) ∧ j < n ∧ (nI i) + (Int32.ofInt 1) = nI j ∧ lw_S lw_r492 (lw_J (i + 7)) i 1513 499 (lw_lv i) [.int (h.1 3000000 j), .ref 0] h from ⟨i + 1, h.2.2.2.1, rfl, by omega, lw_x1 i, ?_⟩)
  generalize ex1 : h.1 3000000 (i + 1) = x1
  refine am_goX 5 (show ∃ j n : Nat, am_sh h 3000000 = some (13, n) ∧ j < n ∧ (nI i) + (Int32.ofInt 2) = nI j ∧ lw_S lw_r492 (lw_J (i + 7)) i 1513 505 (lw_lv i) [.int (h.1 3000000 j), .int x1, .ref 0] h from ⟨i + 2, h.2.2.2.1, rfl, by omega, lw_x2 i, ?_⟩)
  generalize ex2 : h.1 3000000 (i + 2) = x2
  refine am_goX 1 (show am_rc h 0 10 ∧ 0 ≤ 8 ∧ h.2.2.2.2 + am_al 109 ≤ 175 ∧ am_call am_cod 60 109 [.ref 0, .int x1, .int x2] h (fun v h' => lw_S lw_r492 (lw_J (i + 7)) i 1513 508 (lw_lv i) (v.toList ++ []) h') from ⟨lw_rc0 hI, by decide, lw_lim hI rfl, am_det hb (lw_k2 (iv_m109 (vs := [(x1).toInt, (x2).toInt]) ⟨lw_ir _, ⟨lw_ir _, trivial⟩⟩ hI)) ((m_109 hI ki j1 x1 x2)) (fun v g q1 q2 => ?_)⟩)
  obtain ⟨hI1, ⟨x, rfl⟩, z1, z2, z3, z4⟩ := q1
  have hb1 : g.2.2.2.1 ≤ 4096 := by rw [z3.2.2.2]; exact hb
  have hL1 : i + 7 ≤ g.2.2.2.1 := by rw [z3.2.2.2]; exact hL
  have j3 := KR_k j2 (kr_sub (by decide +kernel) z4)
  have p2 := q2
  clear q2
  refine am_goX 1 (show (Value.int x).category = 1 ∧ lw_S lw_r492 (lw_J (i + 7)) i 1513 509 (lw_lv i) [] g from ⟨rfl, ?_⟩)
  refine am_goX 6 (show ∃ j n : Nat, am_sh g 3000000 = some (13, n) ∧ j < n ∧ (nI i) + (Int32.ofInt 1) = nI j ∧ lw_S lw_r492 (lw_J (i + 7)) i 1513 516 (lw_lv i) [.int (g.1 3000000 j), .ref 154] g from ⟨i + 1, g.2.2.2.1, rfl, by omega, lw_x1 i, ?_⟩)
  rw [show g.1 3000000 (i + 1) = x1 from (z4 3000000 (i + 1) (kr_at (a := 0) (b := 5000) (by decide +kernel) (Nat.zero_le _) (by omega))).1.trans ex1]
  refine am_goX 5 (show ∃ j n : Nat, am_sh g 3000000 = some (13, n) ∧ j < n ∧ (nI i) + (Int32.ofInt 2) = nI j ∧ lw_S lw_r492 (lw_J (i + 7)) i 1513 522 (lw_lv i) [.int (g.1 3000000 j), .int x1, .ref 154] g from ⟨i + 2, g.2.2.2.1, rfl, by omega, lw_x2 i, ?_⟩)
  rw [show g.1 3000000 (i + 2) = x2 from (z4 3000000 (i + 2) (kr_at (a := 0) (b := 5000) (by decide +kernel) (Nat.zero_le _) (by omega))).1.trans ex2]
  refine am_goX 1 (show am_rc g 154 11 ∧ 0 ≤ 8 ∧ g.2.2.2.2 + am_al 239 ≤ 175 ∧ am_call am_cod 60 239 [.ref 154, .int x1, .int x2] g (fun v h' => lw_S lw_r492 (lw_J (i + 7)) i 1513 525 (lw_lv i) (v.toList ++ []) h') from ⟨lw_rc154 hI1, by decide, lw_lim hI1 rfl, am_det hb1 (lw_k2 (iv_m239 (vs := [(x1).toInt, (x2).toInt]) ⟨lw_ir _, ⟨lw_ir _, trivial⟩⟩ hI1)) ((m_239 hI1 ki j3 x1 x2)) (fun v g2 q1 q2 => ?_)⟩)
  obtain ⟨hI2, ⟨y, rfl⟩, y1, y2, y3, y4⟩ := q1
  have er : x = y := (Value.int.inj (Option.some.inj p2.1)).trans (Value.int.inj (Option.some.inj q2.1)).symm
  have fin : lw_J (i + 7) g2 := ⟨hI2, (y1.trans z1).trans (hJ.2.1.trans (y2.trans z2).symm), jt_k (jt_k hJ.2.2.1 z2 z3) y2 y3, jw_k (jw_k hJ.2.2.2.1 z3) y3, ⟨C, _, _, _, _, KI_up (E := (i + 7) / 7) (by omega) (i_lot ki x1 x2), KC_k p2.2 (kr_sub (by decide +kernel) y4), q2.2⟩⟩
  exact am_goX 2 (show (Value.int y).category = 1 ∧ lw_S lw_r492 (lw_J (i + 7)) i 1513 1513 (lw_lv i) [] g2 from ⟨rfl, am_xexit ⟨rfl, rfl, rfl, fin⟩⟩)
def lw_r529 : List (Nat × am_R) := [(529, (.aload_n 1, 530, 0, 0, 0, 0)), (530, (.aload_n 0, 531, 0, 0, 0, 0)), (531, (.iload 4, 533, 0, 0, 0, 0)), (533, (.iconst 1, 534, 0, 0, 0, 0)), (534, (.iadd, 535, 0, 0, 0, 0)), (535, (.iaload, 536, 0, 0, 0, 0)), (536, (.invokevirtual 52, 539, 110, 1, 146, 10)), (539, (.pop, 540, 0, 0, 0, 0)), (540, (.aload_n 2, 541, 0, 0, 0, 0)), (541, (.aload_n 0, 542, 0, 0, 0, 0)), (542, (.iload 4, 544, 0, 0, 0, 0)), (544, (.iconst 1, 545, 0, 0, 0, 0)), (545, (.iadd, 546, 0, 0, 0, 0)), (546, (.iaload, 547, 0, 0, 0, 0)), (547, (.invokevirtual 56, 550, 240, 1, 289, 11)), (550, (.pop, 551, 0, 0, 0, 0)), (551, (.goto 962, 554, 1513, 0, 0, 0))]
theorem lw_o529 : lw_r529.all (fun q => am_okB false "MistCantonLaw" code q.1 q.2) = true := am_wk_all 528 (by decide +kernel)
theorem lw_t529 {i : Nat} {h : am_H} (hJ : lw_J i h) (hL : i + 7 ≤ h.2.2.2.1) (hb : h.2.2.2.1 ≤ 4096) : lw_S lw_r529 (lw_J (i + 7)) i 1513 529 (lw_lv i) [] h := by
  have hI := hJ.1
  obtain ⟨C, s, H, M, x0, ki, j1, j2⟩ := hJ.2.2.2.2
  refine am_goX 6 (show ∃ j n : Nat, am_sh h 3000000 = some (13, n) ∧ j < n ∧ (nI i) + (Int32.ofInt 1) = nI j ∧ lw_S lw_r529 (lw_J (i + 7)) i 1513 536 (lw_lv i) [.int (h.1 3000000 j), .ref 0] h from ⟨i + 1, h.2.2.2.1, rfl, by omega, lw_x1 i, ?_⟩)
  generalize ex1 : h.1 3000000 (i + 1) = x1
  refine am_goX 1 (show am_rc h 0 10 ∧ 0 ≤ 8 ∧ h.2.2.2.2 + am_al 110 ≤ 175 ∧ am_call am_cod 60 110 [.ref 0, .int x1] h (fun v h' => lw_S lw_r529 (lw_J (i + 7)) i 1513 539 (lw_lv i) (v.toList ++ []) h') from ⟨lw_rc0 hI, by decide, lw_lim hI rfl, am_det hb (lw_k1 (iv_m110 (vs := [(x1).toInt]) ⟨lw_ir _, trivial⟩ hI)) ((m_110 hI ki j1 x1)) (fun v g q1 q2 => ?_)⟩)
  obtain ⟨hI1, ⟨x, rfl⟩, z1, z2, z3, z4⟩ := q1
  have hb1 : g.2.2.2.1 ≤ 4096 := by rw [z3.2.2.2]; exact hb
  have hL1 : i + 7 ≤ g.2.2.2.1 := by rw [z3.2.2.2]; exact hL
  have j3 := KR_k j2 (kr_sub (by decide +kernel) z4)
  have p2 := q2
  clear q2
  refine am_goX 1 (show (Value.int x).category = 1 ∧ lw_S lw_r529 (lw_J (i + 7)) i 1513 540 (lw_lv i) [] g from ⟨rfl, ?_⟩)
  refine am_goX 6 (show ∃ j n : Nat, am_sh g 3000000 = some (13, n) ∧ j < n ∧ (nI i) + (Int32.ofInt 1) = nI j ∧ lw_S lw_r529 (lw_J (i + 7)) i 1513 547 (lw_lv i) [.int (g.1 3000000 j), .ref 154] g from ⟨i + 1, g.2.2.2.1, rfl, by omega, lw_x1 i, ?_⟩)
  rw [show g.1 3000000 (i + 1) = x1 from (z4 3000000 (i + 1) (kr_at (a := 0) (b := 5000) (by decide +kernel) (Nat.zero_le _) (by omega))).1.trans ex1]
  refine am_goX 1 (show am_rc g 154 11 ∧ 0 ≤ 8 ∧ g.2.2.2.2 + am_al 240 ≤ 175 ∧ am_call am_cod 60 240 [.ref 154, .int x1] g (fun v h' => lw_S lw_r529 (lw_J (i + 7)) i 1513 550 (lw_lv i) (v.toList ++ []) h') from ⟨lw_rc154 hI1, by decide, lw_lim hI1 rfl, am_det hb1 (lw_k1 (iv_m240 (vs := [(x1).toInt]) ⟨lw_ir _, trivial⟩ hI1)) ((m_240 hI1 ki j3 x1)) (fun v g2 q1 q2 => ?_)⟩)
  obtain ⟨hI2, ⟨y, rfl⟩, y1, y2, y3, y4⟩ := q1
  have er : x = y := (Value.int.inj (Option.some.inj p2.1)).trans (Value.int.inj (Option.some.inj q2.1)).symm
  have fin : lw_J (i + 7) g2 := ⟨hI2, (y1.trans z1).trans (hJ.2.1.trans (y2.trans z2).symm), jt_k (jt_k hJ.2.2.1 z2 z3) y2 y3, jw_k (jw_k hJ.2.2.2.1 z3) y3, ⟨C, _, _, _, _, KI_up (E := (i + 7) / 7) (by omega) (i_ask ki x1), KC_k p2.2 (kr_sub (by decide +kernel) y4), q2.2⟩⟩
  exact am_goX 2 (show (Value.int y).category = 1 ∧ lw_S lw_r529 (lw_J (i + 7)) i 1513 1513 (lw_lv i) [] g2 from ⟨rfl, am_xexit ⟨rfl, rfl, rfl, fin⟩⟩)
def lw_r554 : List (Nat × am_R) := [(554, (.aload_n 1, 555, 0, 0, 0, 0)), (555, (.invokevirtual 57, 558, 112, 0, 148, 10)), (558, (.pop, 559, 0, 0, 0, 0)), (559, (.aload_n 2, 560, 0, 0, 0, 0)), (560, (.invokevirtual 61, 563, 242, 0, 291, 11)), (563, (.pop, 564, 0, 0, 0, 0)), (564, (.goto 949, 567, 1513, 0, 0, 0))]
theorem lw_o554 : lw_r554.all (fun q => am_okB false "MistCantonLaw" code q.1 q.2) = true := am_wk_all 552 (by decide +kernel)
theorem lw_t554 {i : Nat} {h : am_H} (hJ : lw_J i h) (hL : i + 7 ≤ h.2.2.2.1) (hb : h.2.2.2.1 ≤ 4096) : lw_S lw_r554 (lw_J (i + 7)) i 1513 554 (lw_lv i) [] h := by
  have hI := hJ.1
  obtain ⟨C, s, H, M, x0, ki, j1, j2⟩ := hJ.2.2.2.2
  refine am_goX 2 (show am_rc h 0 10 ∧ 0 ≤ 8 ∧ h.2.2.2.2 + am_al 112 ≤ 175 ∧ am_call am_cod 60 112 [.ref 0] h (fun v h' => lw_S lw_r554 (lw_J (i + 7)) i 1513 558 (lw_lv i) (v.toList ++ []) h') from ⟨lw_rc0 hI, by decide, lw_lim hI rfl, am_det hb (lw_k0 (iv_m112 (vs := []) trivial hI)) ((m_112 hI ki j1)) (fun v g q1 q2 => ?_)⟩)
  obtain ⟨hI1, ⟨x, rfl⟩, z1, z2, z3, z4⟩ := q1
  have hb1 : g.2.2.2.1 ≤ 4096 := by rw [z3.2.2.2]; exact hb
  have hL1 : i + 7 ≤ g.2.2.2.1 := by rw [z3.2.2.2]; exact hL
  have j3 := KR_k j2 (kr_sub (by decide +kernel) z4)
  have p2 := q2
  clear q2
  refine am_goX 1 (show (Value.int x).category = 1 ∧ lw_S lw_r554 (lw_J (i + 7)) i 1513 559 (lw_lv i) [] g from ⟨rfl, ?_⟩)
  refine am_goX 2 (show am_rc g 154 11 ∧ 0 ≤ 8 ∧ g.2.2.2.2 + am_al 242 ≤ 175 ∧ am_call am_cod 60 242 [.ref 154] g (fun v h' => lw_S lw_r554 (lw_J (i + 7)) i 1513 563 (lw_lv i) (v.toList ++ []) h') from ⟨lw_rc154 hI1, by decide, lw_lim hI1 rfl, am_det hb1 (lw_k0 (iv_m242 (vs := []) trivial hI1)) ((m_242 hI1 ki j3)) (fun v g2 q1 q2 => ?_)⟩)
  obtain ⟨hI2, ⟨y, rfl⟩, y1, y2, y3, y4⟩ := q1
  have er : x = y := (Value.int.inj (Option.some.inj p2.1)).trans (Value.int.inj (Option.some.inj q2.1)).symm
  have fin : lw_J (i + 7) g2 := ⟨hI2, (y1.trans z1).trans (hJ.2.1.trans (y2.trans z2).symm), jt_k (jt_k hJ.2.2.1 z2 z3) y2 y3, jw_k (jw_k hJ.2.2.2.1 z3) y3, ⟨C, _, _, _, _, KI_up (E := (i + 7) / 7) (by omega) (i_undo ki), KC_k p2.2 (kr_sub (by decide +kernel) y4), q2.2⟩⟩
  exact am_goX 2 (show (Value.int y).category = 1 ∧ lw_S lw_r554 (lw_J (i + 7)) i 1513 1513 (lw_lv i) [] g2 from ⟨rfl, am_xexit ⟨rfl, rfl, rfl, fin⟩⟩)
def lw_r666 : List (Nat × am_R) := [(666, (.aload_n 1, 667, 0, 0, 0, 0)), (667, (.aload_n 0, 668, 0, 0, 0, 0)), (668, (.iload 4, 670, 0, 0, 0, 0)), (670, (.iconst 1, 671, 0, 0, 0, 0)), (671, (.iadd, 672, 0, 0, 0, 0)), (672, (.iaload, 673, 0, 0, 0, 0)), (673, (.invokevirtual 74, 676, 121, 1, 160, 10)), (676, (.aload_n 2, 677, 0, 0, 0, 0)), (677, (.aload_n 0, 678, 0, 0, 0, 0)), (678, (.iload 4, 680, 0, 0, 0, 0)), (680, (.iconst 1, 681, 0, 0, 0, 0)), (681, (.iadd, 682, 0, 0, 0, 0)), (682, (.iaload, 683, 0, 0, 0, 0)), (683, (.invokevirtual 77, 686, 249, 1, 298, 11)), (686, (.if_icmp .eq 827, 689, 1513, 0, 0, 0)), (689, (.iconst 0, 690, 0, 0, 0, 0)), (690, (.ireturn, 691, 0, 0, 0, 0))]
theorem lw_o666 : lw_r666.all (fun q => am_okB false "MistCantonLaw" code q.1 q.2) = true := am_wk_all 664 (by decide +kernel)
theorem lw_t666 {i : Nat} {h : am_H} (hJ : lw_J i h) (hL : i + 7 ≤ h.2.2.2.1) (hb : h.2.2.2.1 ≤ 4096) : lw_S lw_r666 (lw_J (i + 7)) i 1513 666 (lw_lv i) [] h := by
  have hI := hJ.1
  obtain ⟨C, s, H, M, x0, ki, j1, j2⟩ := hJ.2.2.2.2
  refine am_goX 6 (show ∃ j n : Nat, am_sh h 3000000 = some (13, n) ∧ j < n ∧ (nI i) + (Int32.ofInt 1) = nI j ∧ lw_S lw_r666 (lw_J (i + 7)) i 1513 673 (lw_lv i) [.int (h.1 3000000 j), .ref 0] h from ⟨i + 1, h.2.2.2.1, rfl, by omega, lw_x1 i, ?_⟩)
  generalize ex1 : h.1 3000000 (i + 1) = x1
  refine am_goX 1 (show am_rc h 0 10 ∧ 0 ≤ 8 ∧ h.2.2.2.2 + am_al 121 ≤ 175 ∧ am_call am_cod 60 121 [.ref 0, .int x1] h (fun v h' => lw_S lw_r666 (lw_J (i + 7)) i 1513 676 (lw_lv i) (v.toList ++ []) h') from ⟨lw_rc0 hI, by decide, lw_lim hI rfl, am_det hb (lw_k1 (iv_m121 (vs := [(x1).toInt]) ⟨lw_ir _, trivial⟩ hI)) ((q_121 hI ki j1 x1)) (fun v g q1 q2 => ?_)⟩)
  obtain ⟨hI1, ⟨x, rfl⟩, z1, z2, z3, z4⟩ := q1
  have hb1 : g.2.2.2.1 ≤ 4096 := by rw [z3.2.2.2]; exact hb
  have hL1 : i + 7 ≤ g.2.2.2.1 := by rw [z3.2.2.2]; exact hL
  have ex := Value.int.inj (Option.some.inj q2)
  clear q2
  have j3 := KR_k j2 (kr_sub (by decide +kernel) z4)
  refine am_goX 6 (show ∃ j n : Nat, am_sh g 3000000 = some (13, n) ∧ j < n ∧ (nI i) + (Int32.ofInt 1) = nI j ∧ lw_S lw_r666 (lw_J (i + 7)) i 1513 683 (lw_lv i) [.int (g.1 3000000 j), .ref 154, .int x] g from ⟨i + 1, g.2.2.2.1, rfl, by omega, lw_x1 i, ?_⟩)
  rw [show g.1 3000000 (i + 1) = x1 from (z4 3000000 (i + 1) (kr_at (a := 0) (b := 5000) (by decide +kernel) (Nat.zero_le _) (by omega))).1.trans ex1]
  refine am_goX 1 (show am_rc g 154 11 ∧ 1 ≤ 8 ∧ g.2.2.2.2 + am_al 249 ≤ 175 ∧ am_call am_cod 60 249 [.ref 154, .int x1] g (fun v h' => lw_S lw_r666 (lw_J (i + 7)) i 1513 686 (lw_lv i) (v.toList ++ [.int x]) h') from ⟨lw_rc154 hI1, by decide, lw_lim hI1 rfl, am_det hb1 (lw_k1 (iv_m249 (vs := [(x1).toInt]) ⟨lw_ir _, trivial⟩ hI1)) ((q_249 hI1 ki (by omega) j3 x1)) (fun v g2 q1 q2 => ?_)⟩)
  obtain ⟨hI2, ⟨y, rfl⟩, y1, y2, y3, y4⟩ := q1
  have ey := Value.int.inj (Option.some.inj q2)
  have er : x = y := ex.trans ey.symm
  have fin : lw_J (i + 7) g2 := lw_upJ ⟨hI2, (y1.trans z1).trans (hJ.2.1.trans (y2.trans z2).symm), jt_k (jt_k hJ.2.2.1 z2 z3) y2 y3, jw_k (jw_k hJ.2.2.2.1 z3) y3, jx_k (jx_k hJ.2.2.2.2 z4) y4⟩
  exact am_goX 1 (show (x = y → lw_S lw_r666 (lw_J (i + 7)) i 1513 1513 (lw_lv i) [] g2) ∧ (¬ x = y → lw_S lw_r666 (lw_J (i + 7)) i 1513 689 (lw_lv i) [] g2) from ⟨fun _ => am_xexit ⟨rfl, rfl, rfl, fin⟩, fun w => absurd er w⟩)
def lw_r865 : List (Nat × am_R) := [(865, (.aload_n 1, 866, 0, 0, 0, 0)), (866, (.aload_n 0, 867, 0, 0, 0, 0)), (867, (.iload 4, 869, 0, 0, 0, 0)), (869, (.iconst 1, 870, 0, 0, 0, 0)), (870, (.iadd, 871, 0, 0, 0, 0)), (871, (.iaload, 872, 0, 0, 0, 0)), (872, (.aload_n 0, 873, 0, 0, 0, 0)), (873, (.iload 4, 875, 0, 0, 0, 0)), (875, (.iconst 2, 876, 0, 0, 0, 0)), (876, (.iadd, 877, 0, 0, 0, 0)), (877, (.iaload, 878, 0, 0, 0, 0)), (878, (.aload_n 0, 879, 0, 0, 0, 0)), (879, (.iload 4, 881, 0, 0, 0, 0)), (881, (.iconst 3, 882, 0, 0, 0, 0)), (882, (.iadd, 883, 0, 0, 0, 0)), (883, (.iaload, 884, 0, 0, 0, 0)), (884, (.ifCond .eq 7, 887, 891, 0, 0, 0)), (887, (.iconst 1, 888, 0, 0, 0, 0)), (888, (.goto 4, 891, 892, 0, 0, 0)), (891, (.iconst 0, 892, 0, 0, 0, 0)), (892, (.invokevirtual 102, 895, 148, 3, 190, 10)), (895, (.pop, 896, 0, 0, 0, 0)), (896, (.aload_n 2, 897, 0, 0, 0, 0)), (897, (.aload_n 0, 898, 0, 0, 0, 0)), (898, (.iload 4, 900, 0, 0, 0, 0)), (900, (.iconst 1, 901, 0, 0, 0, 0)), (901, (.iadd, 902, 0, 0, 0, 0)), (902, (.iaload, 903, 0, 0, 0, 0)), (903, (.aload_n 0, 904, 0, 0, 0, 0)), (904, (.iload 4, 906, 0, 0, 0, 0)), (906, (.iconst 2, 907, 0, 0, 0, 0)), (907, (.iadd, 908, 0, 0, 0, 0)), (908, (.iaload, 909, 0, 0, 0, 0)), (909, (.aload_n 0, 910, 0, 0, 0, 0)), (910, (.iload 4, 912, 0, 0, 0, 0)), (912, (.iconst 3, 913, 0, 0, 0, 0)), (913, (.iadd, 914, 0, 0, 0, 0)), (914, (.iaload, 915, 0, 0, 0, 0)), (915, (.ifCond .eq 7, 918, 922, 0, 0, 0)), (918, (.iconst 1, 919, 0, 0, 0, 0)), (919, (.goto 4, 922, 923, 0, 0, 0)), (922, (.iconst 0, 923, 0, 0, 0, 0)), (923, (.invokevirtual 106, 926, 266, 3, 315, 11)), (926, (.pop, 927, 0, 0, 0, 0)), (927, (.goto 586, 930, 1513, 0, 0, 0))]
theorem lw_o865 : lw_r865.all (fun q => am_okB false "MistCantonLaw" code q.1 q.2) = true := am_wk_all 864 (by decide +kernel)
theorem lw_t865 {i : Nat} {h : am_H} (hJ : lw_J i h) (hL : i + 7 ≤ h.2.2.2.1) (hb : h.2.2.2.1 ≤ 4096) : lw_S lw_r865 (lw_J (i + 7)) i 1513 865 (lw_lv i) [] h := by
  have hI := hJ.1
  obtain ⟨C, s, H, M, x0, ki, j1, j2⟩ := hJ.2.2.2.2
  refine am_goX 6 (show ∃ j n : Nat, am_sh h 3000000 = some (13, n) ∧ j < n ∧ (nI i) + (Int32.ofInt 1) = nI j ∧ lw_S lw_r865 (lw_J (i + 7)) i 1513 872 (lw_lv i) [.int (h.1 3000000 j), .ref 0] h from ⟨i + 1, h.2.2.2.1, rfl, by omega, lw_x1 i, ?_⟩)
  generalize ex1 : h.1 3000000 (i + 1) = x1
  refine am_goX 5 (show ∃ j n : Nat, am_sh h 3000000 = some (13, n) ∧ j < n ∧ (nI i) + (Int32.ofInt 2) = nI j ∧ lw_S lw_r865 (lw_J (i + 7)) i 1513 878 (lw_lv i) [.int (h.1 3000000 j), .int x1, .ref 0] h from ⟨i + 2, h.2.2.2.1, rfl, by omega, lw_x2 i, ?_⟩)
  generalize ex2 : h.1 3000000 (i + 2) = x2
  refine am_goX 5 (show ∃ j n : Nat, am_sh h 3000000 = some (13, n) ∧ j < n ∧ (nI i) + (Int32.ofInt 3) = nI j ∧ lw_S lw_r865 (lw_J (i + 7)) i 1513 884 (lw_lv i) [.int (h.1 3000000 j), .int x2, .int x1, .ref 0] h from ⟨i + 3, h.2.2.2.1, rfl, by omega, lw_x3 i, ?_⟩)
  generalize ex3 : h.1 3000000 (i + 3) = x3
  suffices key : ∀ z : Int, (0 ≤ z ∧ z ≤ 1) → (x3 = 0 ↔ z = 0) → lw_S lw_r865 (lw_J (i + 7)) i 1513 892 (lw_lv i) [.int (Int32.ofInt z), .int x2, .int x1, .ref 0] h by
    by_cases hx : x3 = 0
    · exact am_goX 1 (show (x3 = 0 → lw_S lw_r865 (lw_J (i + 7)) i 1513 891 (lw_lv i) [.int x2, .int x1, .ref 0] h) ∧ (¬ x3 = 0 → lw_S lw_r865 (lw_J (i + 7)) i 1513 887 (lw_lv i) [.int x2, .int x1, .ref 0] h) from ⟨fun _ => am_goX 1 (key 0 (by decide) ⟨fun _ => rfl, fun _ => hx⟩), fun w => absurd hx w⟩)
    · exact am_goX 1 (show (x3 = 0 → lw_S lw_r865 (lw_J (i + 7)) i 1513 891 (lw_lv i) [.int x2, .int x1, .ref 0] h) ∧ (¬ x3 = 0 → lw_S lw_r865 (lw_J (i + 7)) i 1513 887 (lw_lv i) [.int x2, .int x1, .ref 0] h) from ⟨fun w => absurd w hx, fun _ => am_goX 2 (key 1 (by decide) ⟨fun w => absurd w hx, fun w => absurd w (by decide)⟩)⟩)
  intro z hz hzx
  refine am_goX 1 (show am_rc h 0 10 ∧ 0 ≤ 8 ∧ h.2.2.2.2 + am_al 148 ≤ 175 ∧ am_call am_cod 60 148 [.ref 0, .int x1, .int x2, .int (Int32.ofInt z)] h (fun v h' => lw_S lw_r865 (lw_J (i + 7)) i 1513 895 (lw_lv i) (v.toList ++ []) h') from ⟨lw_rc0 hI, by decide, lw_lim hI rfl, am_det hb (lw_kb2 (iv_m148 (vs := [(x1).toInt, (x2).toInt, z]) ⟨lw_ir _, ⟨lw_ir _, ⟨hz, trivial⟩⟩⟩ hI)) ((m_148 hI ki j1 x1 x2 (Int32.ofInt z))) (fun v g q1 q2 => ?_)⟩)
  obtain ⟨hI1, ⟨x, rfl⟩, z1, z2, z3, z4⟩ := q1
  have hb1 : g.2.2.2.1 ≤ 4096 := by rw [z3.2.2.2]; exact hb
  have hL1 : i + 7 ≤ g.2.2.2.1 := by rw [z3.2.2.2]; exact hL
  have j3 := KR_k j2 (kr_sub (by decide +kernel) z4)
  have p2 := q2
  clear q2
  refine am_goX 1 (show (Value.int x).category = 1 ∧ lw_S lw_r865 (lw_J (i + 7)) i 1513 896 (lw_lv i) [] g from ⟨rfl, ?_⟩)
  refine am_goX 6 (show ∃ j n : Nat, am_sh g 3000000 = some (13, n) ∧ j < n ∧ (nI i) + (Int32.ofInt 1) = nI j ∧ lw_S lw_r865 (lw_J (i + 7)) i 1513 903 (lw_lv i) [.int (g.1 3000000 j), .ref 154] g from ⟨i + 1, g.2.2.2.1, rfl, by omega, lw_x1 i, ?_⟩)
  rw [show g.1 3000000 (i + 1) = x1 from (z4 3000000 (i + 1) (kr_at (a := 0) (b := 5000) (by decide +kernel) (Nat.zero_le _) (by omega))).1.trans ex1]
  refine am_goX 5 (show ∃ j n : Nat, am_sh g 3000000 = some (13, n) ∧ j < n ∧ (nI i) + (Int32.ofInt 2) = nI j ∧ lw_S lw_r865 (lw_J (i + 7)) i 1513 909 (lw_lv i) [.int (g.1 3000000 j), .int x1, .ref 154] g from ⟨i + 2, g.2.2.2.1, rfl, by omega, lw_x2 i, ?_⟩)
  rw [show g.1 3000000 (i + 2) = x2 from (z4 3000000 (i + 2) (kr_at (a := 0) (b := 5000) (by decide +kernel) (Nat.zero_le _) (by omega))).1.trans ex2]
  refine am_goX 5 (show ∃ j n : Nat, am_sh g 3000000 = some (13, n) ∧ j < n ∧ (nI i) + (Int32.ofInt 3) = nI j ∧ lw_S lw_r865 (lw_J (i + 7)) i 1513 915 (lw_lv i) [.int (g.1 3000000 j), .int x2, .int x1, .ref 154] g from ⟨i + 3, g.2.2.2.1, rfl, by omega, lw_x3 i, ?_⟩)
  rw [show g.1 3000000 (i + 3) = x3 from (z4 3000000 (i + 3) (kr_at (a := 0) (b := 5000) (by decide +kernel) (Nat.zero_le _) (by omega))).1.trans ex3]
  suffices key : lw_S lw_r865 (lw_J (i + 7)) i 1513 923 (lw_lv i) [.int (Int32.ofInt z), .int x2, .int x1, .ref 154] g by
    have zz : z = 0 ∨ z = 1 := by omega
    rcases zz with zz | zz
    · subst zz
      exact am_goX 1 (show (x3 = 0 → lw_S lw_r865 (lw_J (i + 7)) i 1513 922 (lw_lv i) [.int x2, .int x1, .ref 154] g) ∧ (¬ x3 = 0 → lw_S lw_r865 (lw_J (i + 7)) i 1513 918 (lw_lv i) [.int x2, .int x1, .ref 154] g) from ⟨fun _ => am_goX 1 key, fun w => absurd (hzx.mpr rfl) w⟩)
    · subst zz
      exact am_goX 1 (show (x3 = 0 → lw_S lw_r865 (lw_J (i + 7)) i 1513 922 (lw_lv i) [.int x2, .int x1, .ref 154] g) ∧ (¬ x3 = 0 → lw_S lw_r865 (lw_J (i + 7)) i 1513 918 (lw_lv i) [.int x2, .int x1, .ref 154] g) from ⟨fun w => absurd (hzx.mp w) (by decide), fun _ => am_goX 2 key⟩)
  refine am_goX 1 (show am_rc g 154 11 ∧ 0 ≤ 8 ∧ g.2.2.2.2 + am_al 266 ≤ 175 ∧ am_call am_cod 60 266 [.ref 154, .int x1, .int x2, .int (Int32.ofInt z)] g (fun v h' => lw_S lw_r865 (lw_J (i + 7)) i 1513 926 (lw_lv i) (v.toList ++ []) h') from ⟨lw_rc154 hI1, by decide, lw_lim hI1 rfl, am_det hb1 (lw_kb2 (iv_m266 (vs := [(x1).toInt, (x2).toInt, z]) ⟨lw_ir _, ⟨lw_ir _, ⟨hz, trivial⟩⟩⟩ hI1)) ((m_266 hI1 ki j3 x1 x2 (Int32.ofInt z))) (fun v g2 q1 q2 => ?_)⟩)
  obtain ⟨hI2, ⟨y, rfl⟩, y1, y2, y3, y4⟩ := q1
  have er : x = y := (Value.int.inj (Option.some.inj p2.1)).trans (Value.int.inj (Option.some.inj q2.1)).symm
  have fin : lw_J (i + 7) g2 := ⟨hI2, (y1.trans z1).trans (hJ.2.1.trans (y2.trans z2).symm), jt_k (jt_k hJ.2.2.1 z2 z3) y2 y3, jw_k (jw_k hJ.2.2.2.1 z3) y3, ⟨C, _, _, _, _, KI_up (E := (i + 7) / 7) (by omega) (i_see ki x1 x2), KC_k p2.2 (kr_sub (by decide +kernel) y4), q2.2⟩⟩
  exact am_goX 2 (show (Value.int y).category = 1 ∧ lw_S lw_r865 (lw_J (i + 7)) i 1513 1513 (lw_lv i) [] g2 from ⟨rfl, am_xexit ⟨rfl, rfl, rfl, fin⟩⟩)
def lw_r1197 : List (Nat × am_R) := [(1197, (.aload_n 1, 1198, 0, 0, 0, 0)), (1198, (.aload_n 0, 1199, 0, 0, 0, 0)), (1199, (.iload 4, 1201, 0, 0, 0, 0)), (1201, (.iconst 1, 1202, 0, 0, 0, 0)), (1202, (.iadd, 1203, 0, 0, 0, 0)), (1203, (.iaload, 1204, 0, 0, 0, 0)), (1204, (.invokevirtual 167, 1207, 131, 1, 170, 10)), (1207, (.pop, 1208, 0, 0, 0, 0)), (1208, (.aload_n 2, 1209, 0, 0, 0, 0)), (1209, (.aload_n 0, 1210, 0, 0, 0, 0)), (1210, (.iload 4, 1212, 0, 0, 0, 0)), (1212, (.iconst 1, 1213, 0, 0, 0, 0)), (1213, (.iadd, 1214, 0, 0, 0, 0)), (1214, (.iaload, 1215, 0, 0, 0, 0)), (1215, (.invokevirtual 170, 1218, 257, 1, 306, 11)), (1218, (.pop, 1219, 0, 0, 0, 0)), (1219, (.goto 294, 1222, 1513, 0, 0, 0))]
theorem lw_o1197 : lw_r1197.all (fun q => am_okB false "MistCantonLaw" code q.1 q.2) = true := am_wk_all 1196 (by decide +kernel)
theorem lw_t1197 {i : Nat} {h : am_H} (hJ : lw_J i h) (hL : i + 7 ≤ h.2.2.2.1) (hb : h.2.2.2.1 ≤ 4096) : lw_S lw_r1197 (lw_J (i + 7)) i 1513 1197 (lw_lv i) [] h := by
  have hI := hJ.1
  obtain ⟨C, s, H, M, x0, ki, j1, j2⟩ := hJ.2.2.2.2
  refine am_goX 6 (show ∃ j n : Nat, am_sh h 3000000 = some (13, n) ∧ j < n ∧ (nI i) + (Int32.ofInt 1) = nI j ∧ lw_S lw_r1197 (lw_J (i + 7)) i 1513 1204 (lw_lv i) [.int (h.1 3000000 j), .ref 0] h from ⟨i + 1, h.2.2.2.1, rfl, by omega, lw_x1 i, ?_⟩)
  generalize ex1 : h.1 3000000 (i + 1) = x1
  refine am_goX 1 (show am_rc h 0 10 ∧ 0 ≤ 8 ∧ h.2.2.2.2 + am_al 131 ≤ 175 ∧ am_call am_cod 60 131 [.ref 0, .int x1] h (fun v h' => lw_S lw_r1197 (lw_J (i + 7)) i 1513 1207 (lw_lv i) (v.toList ++ []) h') from ⟨lw_rc0 hI, by decide, lw_lim hI rfl, am_det hb (lw_k1 (iv_m131 (vs := [(x1).toInt]) ⟨lw_ir _, trivial⟩ hI)) ((m_131 hI ki j1 x1)) (fun v g q1 q2 => ?_)⟩)
  obtain ⟨hI1, ⟨x, rfl⟩, z1, z2, z3, z4⟩ := q1
  have hb1 : g.2.2.2.1 ≤ 4096 := by rw [z3.2.2.2]; exact hb
  have hL1 : i + 7 ≤ g.2.2.2.1 := by rw [z3.2.2.2]; exact hL
  have j3 := KR_k j2 (kr_sub (by decide +kernel) z4)
  have p2 := q2
  clear q2
  refine am_goX 1 (show (Value.int x).category = 1 ∧ lw_S lw_r1197 (lw_J (i + 7)) i 1513 1208 (lw_lv i) [] g from ⟨rfl, ?_⟩)
  refine am_goX 6 (show ∃ j n : Nat, am_sh g 3000000 = some (13, n) ∧ j < n ∧ (nI i) + (Int32.ofInt 1) = nI j ∧ lw_S lw_r1197 (lw_J (i + 7)) i 1513 1215 (lw_lv i) [.int (g.1 3000000 j), .ref 154] g from ⟨i + 1, g.2.2.2.1, rfl, by omega, lw_x1 i, ?_⟩)
  rw [show g.1 3000000 (i + 1) = x1 from (z4 3000000 (i + 1) (kr_at (a := 0) (b := 5000) (by decide +kernel) (Nat.zero_le _) (by omega))).1.trans ex1]
  refine am_goX 1 (show am_rc g 154 11 ∧ 0 ≤ 8 ∧ g.2.2.2.2 + am_al 257 ≤ 175 ∧ am_call am_cod 60 257 [.ref 154, .int x1] g (fun v h' => lw_S lw_r1197 (lw_J (i + 7)) i 1513 1218 (lw_lv i) (v.toList ++ []) h') from ⟨lw_rc154 hI1, by decide, lw_lim hI1 rfl, am_det hb1 (lw_k1 (iv_m257 (vs := [(x1).toInt]) ⟨lw_ir _, trivial⟩ hI1)) ((m_257 hI1 ki j3 x1)) (fun v g2 q1 q2 => ?_)⟩)
  obtain ⟨hI2, ⟨y, rfl⟩, y1, y2, y3, y4⟩ := q1
  have fin : lw_J (i + 7) g2 := lw_upJ ⟨hI2, (y1.trans z1).trans (hJ.2.1.trans (y2.trans z2).symm), jt_k (jt_k hJ.2.2.1 z2 z3) y2 y3, jw_k (jw_k hJ.2.2.2.1 z3) y3, ⟨C, s, H, M, x0, ki, KC_k (KC_km j1 (kr_sub (by decide +kernel) z4) p2) (kr_sub (by decide +kernel) y4), KR_km j3 (kr_sub (by decide +kernel) y4) q2⟩⟩
  exact am_goX 2 (show (Value.int y).category = 1 ∧ lw_S lw_r1197 (lw_J (i + 7)) i 1513 1513 (lw_lv i) [] g2 from ⟨rfl, am_xexit ⟨rfl, rfl, rfl, fin⟩⟩)
def lw_r1435 : List (Nat × am_R) := [(1435, (.aload_n 1, 1436, 0, 0, 0, 0)), (1436, (.aload_n 0, 1437, 0, 0, 0, 0)), (1437, (.iload 4, 1439, 0, 0, 0, 0)), (1439, (.iconst 1, 1440, 0, 0, 0, 0)), (1440, (.iadd, 1441, 0, 0, 0, 0)), (1441, (.iaload, 1442, 0, 0, 0, 0)), (1442, (.aload_n 0, 1443, 0, 0, 0, 0)), (1443, (.iload 4, 1445, 0, 0, 0, 0)), (1445, (.iconst 2, 1446, 0, 0, 0, 0)), (1446, (.iadd, 1447, 0, 0, 0, 0)), (1447, (.iaload, 1448, 0, 0, 0, 0)), (1448, (.ifCond .eq 7, 1451, 1455, 0, 0, 0)), (1451, (.iconst 1, 1452, 0, 0, 0, 0)), (1452, (.goto 4, 1455, 1456, 0, 0, 0)), (1455, (.iconst 0, 1456, 0, 0, 0, 0)), (1456, (.invokevirtual 198, 1459, 114, 2, 150, 10)), (1459, (.pop, 1460, 0, 0, 0, 0)), (1460, (.aload_n 2, 1461, 0, 0, 0, 0)), (1461, (.aload_n 0, 1462, 0, 0, 0, 0)), (1462, (.iload 4, 1464, 0, 0, 0, 0)), (1464, (.iconst 1, 1465, 0, 0, 0, 0)), (1465, (.iadd, 1466, 0, 0, 0, 0)), (1466, (.iaload, 1467, 0, 0, 0, 0)), (1467, (.aload_n 0, 1468, 0, 0, 0, 0)), (1468, (.iload 4, 1470, 0, 0, 0, 0)), (1470, (.iconst 2, 1471, 0, 0, 0, 0)), (1471, (.iadd, 1472, 0, 0, 0, 0)), (1472, (.iaload, 1473, 0, 0, 0, 0)), (1473, (.ifCond .eq 7, 1476, 1480, 0, 0, 0)), (1476, (.iconst 1, 1477, 0, 0, 0, 0)), (1477, (.goto 4, 1480, 1481, 0, 0, 0)), (1480, (.iconst 0, 1481, 0, 0, 0, 0)), (1481, (.invokevirtual 202, 1484, 291, 2, 340, 11)), (1484, (.pop, 1485, 0, 0, 0, 0)), (1485, (.goto 28, 1488, 1513, 0, 0, 0))]
theorem lw_o1435 : lw_r1435.all (fun q => am_okB false "MistCantonLaw" code q.1 q.2) = true := am_wk_all 1432 (by decide +kernel)
theorem lw_t1435 {i : Nat} {h : am_H} (hJ : lw_J i h) (hL : i + 7 ≤ h.2.2.2.1) (hb : h.2.2.2.1 ≤ 4096) : lw_S lw_r1435 (lw_J (i + 7)) i 1513 1435 (lw_lv i) [] h := by
  have hI := hJ.1
  obtain ⟨C, s, H, M, x0, ki, j1, j2⟩ := hJ.2.2.2.2
  refine am_goX 6 (show ∃ j n : Nat, am_sh h 3000000 = some (13, n) ∧ j < n ∧ (nI i) + (Int32.ofInt 1) = nI j ∧ lw_S lw_r1435 (lw_J (i + 7)) i 1513 1442 (lw_lv i) [.int (h.1 3000000 j), .ref 0] h from ⟨i + 1, h.2.2.2.1, rfl, by omega, lw_x1 i, ?_⟩)
  generalize ex1 : h.1 3000000 (i + 1) = x1
  refine am_goX 5 (show ∃ j n : Nat, am_sh h 3000000 = some (13, n) ∧ j < n ∧ (nI i) + (Int32.ofInt 2) = nI j ∧ lw_S lw_r1435 (lw_J (i + 7)) i 1513 1448 (lw_lv i) [.int (h.1 3000000 j), .int x1, .ref 0] h from ⟨i + 2, h.2.2.2.1, rfl, by omega, lw_x2 i, ?_⟩)
  generalize ex2 : h.1 3000000 (i + 2) = x2
  suffices key : ∀ z : Int, (0 ≤ z ∧ z ≤ 1) → (x2 = 0 ↔ z = 0) → lw_S lw_r1435 (lw_J (i + 7)) i 1513 1456 (lw_lv i) [.int (Int32.ofInt z), .int x1, .ref 0] h by
    by_cases hx : x2 = 0
    · exact am_goX 1 (show (x2 = 0 → lw_S lw_r1435 (lw_J (i + 7)) i 1513 1455 (lw_lv i) [.int x1, .ref 0] h) ∧ (¬ x2 = 0 → lw_S lw_r1435 (lw_J (i + 7)) i 1513 1451 (lw_lv i) [.int x1, .ref 0] h) from ⟨fun _ => am_goX 1 (key 0 (by decide) ⟨fun _ => rfl, fun _ => hx⟩), fun w => absurd hx w⟩)
    · exact am_goX 1 (show (x2 = 0 → lw_S lw_r1435 (lw_J (i + 7)) i 1513 1455 (lw_lv i) [.int x1, .ref 0] h) ∧ (¬ x2 = 0 → lw_S lw_r1435 (lw_J (i + 7)) i 1513 1451 (lw_lv i) [.int x1, .ref 0] h) from ⟨fun w => absurd w hx, fun _ => am_goX 2 (key 1 (by decide) ⟨fun w => absurd w hx, fun w => absurd w (by decide)⟩)⟩)
  intro z hz hzx
  refine am_goX 1 (show am_rc h 0 10 ∧ 0 ≤ 8 ∧ h.2.2.2.2 + am_al 114 ≤ 175 ∧ am_call am_cod 60 114 [.ref 0, .int x1, .int (Int32.ofInt z)] h (fun v h' => lw_S lw_r1435 (lw_J (i + 7)) i 1513 1459 (lw_lv i) (v.toList ++ []) h') from ⟨lw_rc0 hI, by decide, lw_lim hI rfl, am_det hb (lw_kb1 (iv_m114 (vs := [(x1).toInt, z]) ⟨lw_ir _, ⟨hz, trivial⟩⟩ hI)) ((m_114 hI ki j1 x1 hz)) (fun v g q1 q2 => ?_)⟩)
  obtain ⟨hI1, ⟨x, rfl⟩, z1, z2, z3, z4⟩ := q1
  have hb1 : g.2.2.2.1 ≤ 4096 := by rw [z3.2.2.2]; exact hb
  have hL1 : i + 7 ≤ g.2.2.2.1 := by rw [z3.2.2.2]; exact hL
  have j3 := KR_k j2 (kr_sub (by decide +kernel) z4)
  have p2 := q2
  clear q2
  refine am_goX 1 (show (Value.int x).category = 1 ∧ lw_S lw_r1435 (lw_J (i + 7)) i 1513 1460 (lw_lv i) [] g from ⟨rfl, ?_⟩)
  refine am_goX 6 (show ∃ j n : Nat, am_sh g 3000000 = some (13, n) ∧ j < n ∧ (nI i) + (Int32.ofInt 1) = nI j ∧ lw_S lw_r1435 (lw_J (i + 7)) i 1513 1467 (lw_lv i) [.int (g.1 3000000 j), .ref 154] g from ⟨i + 1, g.2.2.2.1, rfl, by omega, lw_x1 i, ?_⟩)
  rw [show g.1 3000000 (i + 1) = x1 from (z4 3000000 (i + 1) (kr_at (a := 0) (b := 5000) (by decide +kernel) (Nat.zero_le _) (by omega))).1.trans ex1]
  refine am_goX 5 (show ∃ j n : Nat, am_sh g 3000000 = some (13, n) ∧ j < n ∧ (nI i) + (Int32.ofInt 2) = nI j ∧ lw_S lw_r1435 (lw_J (i + 7)) i 1513 1473 (lw_lv i) [.int (g.1 3000000 j), .int x1, .ref 154] g from ⟨i + 2, g.2.2.2.1, rfl, by omega, lw_x2 i, ?_⟩)
  rw [show g.1 3000000 (i + 2) = x2 from (z4 3000000 (i + 2) (kr_at (a := 0) (b := 5000) (by decide +kernel) (Nat.zero_le _) (by omega))).1.trans ex2]
  suffices key : lw_S lw_r1435 (lw_J (i + 7)) i 1513 1481 (lw_lv i) [.int (Int32.ofInt z), .int x1, .ref 154] g by
    have zz : z = 0 ∨ z = 1 := by omega
    rcases zz with zz | zz
    · subst zz
      exact am_goX 1 (show (x2 = 0 → lw_S lw_r1435 (lw_J (i + 7)) i 1513 1480 (lw_lv i) [.int x1, .ref 154] g) ∧ (¬ x2 = 0 → lw_S lw_r1435 (lw_J (i + 7)) i 1513 1476 (lw_lv i) [.int x1, .ref 154] g) from ⟨fun _ => am_goX 1 key, fun w => absurd (hzx.mpr rfl) w⟩)
    · subst zz
      exact am_goX 1 (show (x2 = 0 → lw_S lw_r1435 (lw_J (i + 7)) i 1513 1480 (lw_lv i) [.int x1, .ref 154] g) ∧ (¬ x2 = 0 → lw_S lw_r1435 (lw_J (i + 7)) i 1513 1476 (lw_lv i) [.int x1, .ref 154] g) from ⟨fun w => absurd (hzx.mp w) (by decide), fun _ => am_goX 2 key⟩)
  refine am_goX 1 (show am_rc g 154 11 ∧ 0 ≤ 8 ∧ g.2.2.2.2 + am_al 291 ≤ 175 ∧ am_call am_cod 60 291 [.ref 154, .int x1, .int (Int32.ofInt z)] g (fun v h' => lw_S lw_r1435 (lw_J (i + 7)) i 1513 1484 (lw_lv i) (v.toList ++ []) h') from ⟨lw_rc154 hI1, by decide, lw_lim hI1 rfl, am_det hb1 (lw_kb1 (iv_m291 (vs := [(x1).toInt, z]) ⟨lw_ir _, ⟨hz, trivial⟩⟩ hI1)) ((m_291 hI1 ki j3 x1 hz)) (fun v g2 q1 q2 => ?_)⟩)
  obtain ⟨hI2, ⟨y, rfl⟩, y1, y2, y3, y4⟩ := q1
  have er : x = y := (Value.int.inj (Option.some.inj p2.1)).trans (Value.int.inj (Option.some.inj q2.1)).symm
  have fin : lw_J (i + 7) g2 := ⟨hI2, (y1.trans z1).trans (hJ.2.1.trans (y2.trans z2).symm), jt_k (jt_k hJ.2.2.1 z2 z3) y2 y3, jw_k (jw_k hJ.2.2.2.1 z3) y3, ⟨C, _, _, _, _, KI_up (E := (i + 7) / 7) (by omega) (i_mark ki x1 hz), KC_k p2.2 (kr_sub (by decide +kernel) y4), q2.2⟩⟩
  exact am_goX 2 (show (Value.int y).category = 1 ∧ lw_S lw_r1435 (lw_J (i + 7)) i 1513 1513 (lw_lv i) [] g2 from ⟨rfl, am_xexit ⟨rfl, rfl, rfl, fin⟩⟩)
end
section
/-! THE LAW, WALKED -/
def R_law : String := "MistCantonLaw"
def lw_P (b : Addr) (xs : List Int32) (args : Array Value) (s : State) : Prop := args = #[.ref b] ∧ s.IntsAt b xs ∧ xs.length ≤ 3584 ∧ (Jvm.Cond.and given_1 narrow_1).before args s = true
def lw_Q (_ : Array Value) (s : State) (o : Outcome) (t : State) : Prop := o = .returned (some (.int 1)) ∧ Framed s o t [] 601024 7293034
def lw_Z (below : List Frame) (a : Array Value) (s : State) : State → Prop := fun t => ∃ o, t.status = .running ∧ Ended t below o ∧ lw_Q a s o t
variable {p : Program} {l : Launch} {e : Env} {s : State} {m : MethodId} {below : List Frame} {meth : Method} {c : Code} {b L : Nat} {xs : Nat → Int32} {D : va_G} {cA : Nat → ClassId} {ad : Nat → Nat}
/-- the law's own end, with 1 on the stack, nothing written that was there before, its room as the claim has it -/
theorem lw_ret {H : Heap} (hx : p.tables.exec = Jvm.exec) (hb : c.code = code) (hr : meth.sig.returnType = ret) (hlocks : meth.locks = false) {pc : Nat} {ls : Array Slot} (hdg : decode code pc = .ok (.ireturn, 1)) : W p l e room_1 s m #[Value.ref b] below meth c H [] 601024 7293034 (lw_Z below #[Value.ref b] s) (F0 m pc ls [.int 1]) := by
  intro T hT X
  obtain ⟨fs, hret, hrun, hended, hW, hframe⟩ := X.leave (v := some (.int 1)) (hlocks := hlocks) (fun h => by rw [hr] at h; cases h)
  have hmeth' : T.vm.method? m = some meth := X.method'
  refine ⟨T.setFrames fs, ?_, .returned (some (.int 1)), hrun, hended, rfl, ⟨_, rfl⟩, hW, hframe⟩
  jvm_step X.here [X.here.top, hx, hb, hdg, hmeth', hr, ret, narrow_b1]
  (try refine ⟨rfl, ?_⟩); (try refine ⟨rfl, ?_⟩)
  first | (intro acts; rw [hret _ acts rfl rfl rfl]) | rw [hret _ _ rfl rfl rfl]
  exact Steps.refl _
/-- what holds at the law's entry -/
def lw_At (p : Program) (s : State) (m : MethodId) (meth : Method) (c : Code) (b L : Nat) (xs : Nat → Int32) : Prop :=
  p.tables.exec = Jvm.exec ∧ c.code = code ∧ meth.sig.returnType = ret ∧ c.maxLocals = 7 ∧ s.vm.findClass R_law = some m.cls ∧ (∀ w ∈ lw_tbl, w.before #[Value.ref b] s = true) ∧ va_X b L xs s s.heap ∧ b < s.heap.size ∧ meth.locks = false ∧ (Jvm.Cond.and given_1 narrow_1).before #[Value.ref b] s = true
/-- and the world that was found there -/
def lw_Fc (l : Launch) (p : Program) (s : State) (m : MethodId) (meth : Method) (c : Code) (b L : Nat) (xs : Nat → Int32) (D : va_G) (cA : Nat → ClassId) (ad : Nat → Nat) : Prop := lw_At p s m meth c b L xs ∧ am_E D cA ad s.heap.size b L xs s ∧ am_G ad s.heap.size b L ∧ L ≤ 3584 ∧ l.stackTraces = false
theorem lw_ss : am_ss 175 + 4000 ≤ 7293034 := by
  have h : Nat.ble (am_ss 175 + 4000) 7293034 = true := by decide +kernel
  generalize am_ss 175 = x at h ⊢
  exact Nat.le_of_ble_eq_true h
theorem lw_m0 (t : Nat) : 1000 * t % 1000 = 0 := Nat.mul_mod_right 1000 t
theorem lw_d0 (t : Nat) : 1000 * t / 1000 = t := Nat.mul_div_right t (by decide)
def lw_Kx (p : Program) (l : Launch) (e : Env) (s : State) (m : MethodId) (below : List Frame) (meth : Method) (c : Code) (b L : Nat) (xs : Nat → Int32) (D : va_G) (cA : Nat → ClassId) (ad : Nat → Nat) (t : Nat) (K : Nat → am_V → List Value → am_H → Prop) : Prop :=
  am_Kw p l e room_1 s m #[Value.ref b] below meth c (1000 * t) (lw_Z below #[Value.ref b] s) D cA ad s.heap.size L 7 xs K
def lw_Qx (p : Program) (l : Launch) (e : Env) (s : State) (m : MethodId) (below : List Frame) (meth : Method) (c : Code) (b L : Nat) (xs : Nat → Int32) (D : va_G) (cA : Nat → ClassId) (ad : Nat → Nat) (t : Nat) (Q : am_Q) : Prop :=
  am_Qr p l e room_1 s m #[Value.ref b] below meth c (1000 * t) (lw_Z below #[Value.ref b] s) D cA ad s.heap.size L xs code (some .boolean) Q
theorem lw_Qn {t : Nat} : lw_Qx p l e s m below meth c b L xs D cA ad t lw_no := fun _ _ _ _ _ _ _ q => q.elim
def lw_Qt : am_Q := fun v _ => v = some (.int 1)
theorem lw_end (C0 : lw_Fc l p s m meth c b L xs D cA ad) {t : Nat} (ht : t ≤ 512) : lw_Qx p l e s m below meth c b L xs D cA ad t lw_Qt := by
  obtain ⟨⟨hx, hb, hr, hml, hown, hts, hX, hbl, hlocks, hgv⟩, -⟩ := C0
  intro v h H locs pc ls st hQ hI hrk
  have hv : v = some (.int 1) := hQ
  subst hv
  rcases hrk with ⟨x, h1, rfl, hd, ty, h2, h3⟩ | ⟨x, h1, -⟩ | ⟨h1, -⟩
  · cases h1
    have h4 := hI.2.2.2.1
    rw [am_shl_len] at h4
    have h5 := am_ss_mono h4
    have h6 := lw_ss
    refine va_forget (fun q hq => hI.2.1.2.2 q hq) ?_
    refine W.widen (k := 601024) (n := 7293034) ?_ ?_ (lw_ret hx hb hr hlocks hd)
    · unfold am_ce
      rw [lw_d0]
      omega
    · unfold am_sc
      rw [lw_d0]
      omega
  · cases h1
  · cases h1
theorem lw_run (C0 : lw_Fc l p s m meth c b L xs D cA ad) {t : Nat} (ht : t ≤ 512) {rows : List (Nat × am_R)} (hok : rows.all (fun q => am_okB false "MistCantonLaw" code q.1 q.2) = true) {E : Nat → am_V → List Value → am_H → Prop} {Q : am_Q} (hE : lw_Kx p l e s m below meth c b L xs D cA ad t E) (hq : lw_Qx p l e s m below meth c b L xs D cA ad t Q) : lw_Kx p l e s m below meth c b L xs D cA ad t (lw_G rows E Q) := by
  obtain ⟨⟨hx, hb, hr, hml, hown, hts, hX, hbl, hlocks, hgv⟩, hEE, hG, hL, hl0⟩ := C0
  have hC : am_Cs l room_1 D cA ad s.heap.size b L xs (am_call am_cod 60) := by
    intro n As h Q k
    obtain ⟨d, h1, h2⟩ := am_Met am_cod_ok hG 60 n As h Q k
    exact ⟨d, h2, by show d + 1 ≤ 2048; omega, by show 40 + 40 * d ≤ 84000; omega⟩
  have hss := lw_ss
  exact am_X_sound (R := room_1) (lim := 175) (rt := some .boolean) (ini := false) (own := "MistCantonLaw") (cc := code) ⟨hx, hb, hml, hown, lw_gw hts, hEE, Nat.le_refl _, hG, fun _ => by rw [lw_m0]; rfl⟩ hC ⟨by rw [lw_m0, lw_d0]; show 175 - 0 + t ≤ 601024; omega, by rw [lw_m0, lw_d0]; show am_ss 175 - am_ss 0 + 6 * t ≤ 7293034; omega⟩ ⟨by show 1 ≤ 2048; omega, by show 20 ≤ 84000; omega⟩ (fun q => by cases q) (fun pc r hc => List.all_eq_true.mp hok _ (am_find_mem hc)) hE hq
theorem lw_seg (C0 : lw_Fc l p s m meth c b L xs D cA ad) {t i : Nat} (ht : t ≤ 512) (hi : i + 7 ≤ L) {a e' : Nat} {J J' : am_H → Prop} {rows : List (Nat × am_R)} (hok : rows.all (fun q => am_okB false "MistCantonLaw" code q.1 q.2) = true) (hrun : ∀ h, J h → i + 7 ≤ h.2.2.2.1 → h.2.2.2.1 ≤ 4096 → lw_S rows J' i e' a (lw_lv i) [] h) (hE : lw_Kx p l e s m below meth c b L xs D cA ad t (lw_Ex J' i e')) : lw_Kx p l e s m below meth c b L xs D cA ad t (lw_Ex J i a) := by
  intro pc lv st h H locs ls hx hI hl
  obtain ⟨rfl, rfl, rfl, hIv⟩ := hx
  exact lw_run C0 ht hok hE lw_Qn _ _ _ _ _ _ _ (hrun h hIv (by rw [hI.2.2.1.1]; exact hi) (by rw [hI.2.2.1.1]; exact Nat.le_trans C0.2.2.2.1 (by decide))) hI hl
theorem lw_K1513 (C0 : lw_Fc l p s m meth c b L xs D cA ad) {t i : Nat} (ht : t ≤ 512) (hE : lw_Kx p l e s m below meth c b L xs D cA ad t (lw_Ex (lw_J (i + 7)) (i + 7) 23)) : lw_Kx p l e s m below meth c b L xs D cA ad t (lw_Ex (lw_J (i + 7)) i 1513) := by
  intro pc lv st h H locs ls hx hI hl
  obtain ⟨rfl, rfl, rfl, hIv⟩ := hx
  exact lw_run C0 ht lw_oN hE lw_Qn _ _ _ _ _ _ _ (lw_tN hIv) hI hl
set_option maxHeartbeats 4000000 in
theorem lw_K40 (C0 : lw_Fc l p s m meth c b L xs D cA ad) {t i : Nat} (ht : t + 1 ≤ 512) (hi : i + 7 ≤ L) (hE : lw_Kx p l e s m below meth c b L xs D cA ad (t + 1) (lw_Ex (lw_J (i + 7)) i 1513)) : lw_Kx p l e s m below meth c b L xs D cA ad t (lw_Ex (lw_J i) i 1322) := by
  intro pc lv st h H locs ls hx hI hl
  obtain ⟨rfl, rfl, rfl, hIv⟩ := hx
  refine lw_run C0 (by omega) lw_o1322 (E := lw_E40 i h) ?_ lw_Qn _ _ _ _ _ _ _ (lw_t1322 (by rw [hI.2.2.1.1]; exact hi)) hI hl
  clear hI hl
  intro pc lv st h' H locs ls hx hI hl'
  obtain ⟨rfl, rfl, rfl, rfl⟩ := hx
  obtain ⟨⟨hx, hb, hr, hml, hown, hts, hX, hbl, hlocks, hgv⟩, hEE, hG, hL, hl0⟩ := id C0
  obtain ⟨K, V, hK01, hcx, hcr⟩ := rs_both (fun k => h'.1 3000000 (i + k))
  have hCX := hcx h' hIv.1
  have h175 : h'.2.2.2.2 = 175 := lw_175 hIv.1
  have hwf' : am_wf s.heap.size h' H := ⟨hI.2.2.2.1, fun z => absurd z (by rw [h175, am_shl_len]; decide)⟩
  have hd : decode code 1348 = .ok (.invokestatic 188, 3) := by decide +kernel
  have hG2 : GoodIn am_gw (va_wsS "MistCantonLaw" 188 rs_y rs_ws) := am_good_in (fun w hw => by
    unfold va_wsS at hw
    rcases List.mem_append.mp hw with q | q
    · simp only [List.mem_cons, List.not_mem_nil, or_false] at q
      rcases q with rfl | rfl | rfl <;> exact rs_w4_at (by simp)
    · rcases List.mem_cons.mp q with rfl | q
      · exact rs_w4_at (by simp)
      · exact q)
  have hss := lw_ss
  have hce : am_ce (1000 * t) h' = 175 + t := by
    unfold am_ce
    rw [lw_m0, lw_d0, h175]
  have hsc : am_sc (1000 * t) h' = am_ss 175 - am_ss 0 + 6 * t := by
    unfold am_sc
    rw [lw_m0, lw_d0, h175]
  have hrun := vx_runSW (H := H) (p := p) (e := e) (below := below) (meth := meth) (locs := locs) (cells := am_ce (1000 * t) h') (slots := am_sc (1000 * t) h') (g := F0 m 1348 ls (([.ref 174, .int (h'.1 3000000 (i + 4)), .int (h'.1 3000000 (i + 3)), .int (h'.1 3000000 (i + 2)), .int (h'.1 3000000 (i + 1)), .ref 0] : List Value).map (am_cv ad))) (As := (rs_Bs (fun k => h'.1 3000000 (i + k))).map (am_cv ad)) (rest := []) (cc := code) (nL := 7) ⟨hx, hb, hml, hown, lw_gw hts⟩ (rs_Met (D := D) (cA := cA) (h := h') hl0 hG h175 hCX) (vx_cwSW (R := room_1) 6 (lw_gw hts) hG2 rfl rfl rfl ⟨by decide, by decide, by decide +kernel⟩ ⟨by show 30 + 1 ≤ 2048; omega, by show 8 + (7 + 11) + 1200 ≤ 84000; omega⟩) ⟨rs_Pc.blind, fun U hU hW => ⟨⟨rfl, hEE.warm hW (fun x9 g9 g8 => by rw [hU]; exact hI.2.1.2.1 x9 g9 g8) hbl (fun q => absurd hbl (Nat.not_lt.mpr q)), by rw [hU]; exact hI.2.1.1, by rw [hU]; exact hI.1, hI.2.2.1, by rw [hU]; exact hwf'⟩, (rs_Z0 hts hgv).warm hW (by rw [hU]; exact hI.2.1.2.1)⟩⟩ rfl rfl hl'.1 rfl (lv_room (Nat.zero_le _)) hd ⟨by rw [hce]; show 175 + t + 1 ≤ 601024; omega, by rw [hsc]; show am_ss 175 - am_ss 0 + 6 * t + 6 ≤ 7293034; omega⟩
  intro T hT X
  obtain ⟨v, st₀, t', T', Lc, h0, X', hL', g1, g2, ⟨⟨v', h2, hv, hq, hP2, hro2, hwf2⟩, hz, hk⟩, st⟩ := hrun T hT X
  rw [h0] at hz hk
  have hS2 : va_S (am_A s.heap.size) s.heap T'.heap (locs ++ Lc) := ⟨Nat.le_trans hI.2.1.1 (by rw [g1]; exact hz), fun q h1 h2 => by rw [g1, hk q (Nat.lt_of_lt_of_le h1 hI.2.1.1) h2]; exact hI.2.1.2.1 q h1 h2, fun q hq => by
    rcases List.mem_append.mp hq with h | h
    · exact hI.2.1.2.2 q h
    · exact hL' q h⟩
  have hE6 : lw_Kx p l e s m below meth c b L xs D cA ad (t + 1) (lw_Ex6 i 1513) := by
    intro pc lv st h3 H3 locs3 ls3 hx3 hI3 hl3
    obtain ⟨rfl, ⟨k3, b3, rfl⟩, rfl, hIv3⟩ := hx3
    exact hE _ (lw_lv i) _ _ _ _ _ ⟨rfl, rfl, rfl, hIv3⟩ hI3 ⟨hl3.1, hl3.2.1, fun q hq => hl3.2.2 q (List.mem_cons_of_mem _ (List.mem_cons_of_mem _ hq))⟩
  have hi2 : i + 7 ≤ h2.2.2.2.1 := by
    rw [hro2.1]
    exact hi
  have fin : lw_J i h2 → h2.1 = h'.1 → ∃ t2, Steps p.tables e below (T'.setTop (F0 m 1351 ls (([.int (Int32.ofInt K)] : List Value).map (am_cv ad)))) t2 ∧ lw_Z below #[Value.ref b] s t2 := fun hIv2 hy => by
    have h275 : h2.2.2.2.2 = 175 := lw_175 hIv2.1
    have k3 := lw_run C0 ht lw_o1351 hE6 lw_Qn 1351 (lw_lv i) [.int (Int32.ofInt K)] h2 T'.heap (locs ++ Lc) ls (lw_t1351 (ys := fun k => h'.1 3000000 (i + k)) hIv2 hi2 hcr (by rw [hy]) (by rw [hy]) (by rw [hy]) (by rw [hy])) ⟨by rw [g1]; exact hP2, hS2, hro2, hwf2, by rw [lw_m0]; exact Nat.zero_le _, fun _ => by rw [h275, am_shl_len]⟩ hl'
    have z3 : am_ce (1000 * (t + 1)) h2 = am_ce (1000 * t) h' + 1 := by
      rw [hce]
      unfold am_ce
      rw [lw_m0, lw_d0, h275]
      omega
    have z4 : am_sc (1000 * (t + 1)) h2 = am_sc (1000 * t) h' + 6 := by
      rw [hsc]
      unfold am_sc
      rw [lw_m0, lw_d0, h275]
      omega
    rw [z3, z4] at k3
    exact k3 T' rfl X'
  rcases hq with ⟨hK, hv2, hh⟩ | ⟨hK, hv2, hh⟩
  · subst hv2
    cases hv
    subst hh
    subst hK
    obtain ⟨t2, a1, b1⟩ := fin hIv rfl
    exact ⟨t2, st t2 a1, b1⟩
  · subst hv2
    cases hv
    subst hh
    subst hK
    obtain ⟨t2, a1, b1⟩ := fin ⟨iv_wL hIv.1 _, hIv.2.1, hIv.2.2.1, fun w hw => (ex_ln (by omega)).trans (hIv.2.2.2.1 w hw), jx_k (R := kr_Q) hIv.2.2.2.2 (kr_l (by decide +kernel))⟩ rfl
    exact ⟨t2, st t2 a1, b1⟩
set_option maxHeartbeats 4000000 in
theorem lw_all (C0 : lw_Fc l p s m meth c b L xs D cA ad) {t i : Nat} (ht : t ≤ 512) (hi7 : 7 * t ≤ i) (hi : i + 7 ≤ L) (hn : ∀ t', t' ≤ t + 1 → lw_Kx p l e s m below meth c b L xs D cA ad t' (lw_Ex (lw_J (i + 7)) (i + 7) 23)) : ∀ a ∈ lw_hd, lw_Kx p l e s m below meth c b L xs D cA ad t (lw_Ex (lw_J i) i a) := by
  have hL : L ≤ 3584 := C0.2.2.2.1
  have k1 := lw_K1513 C0 ht (hn t (Nat.le_succ _))
  have k0 : lw_Kx p l e s m below meth c b L xs D cA ad t (lw_Ex (lw_J i) i 1513) := fun pc lv st h H locs ls hx => k1 pc lv st h H locs ls ⟨hx.1, hx.2.1, hx.2.2.1, lw_upJ hx.2.2.2⟩
  exact List.forall_mem_cons.mpr ⟨k0, List.forall_mem_cons.mpr ⟨lw_seg C0 ht hi lw_o232 (fun h hI hL hb => lw_t232 hI hL hb) k1,
  List.forall_mem_cons.mpr ⟨lw_seg C0 ht hi lw_o379 (fun h hI hL hb => lw_t379 hI hL hb) k1,
  List.forall_mem_cons.mpr ⟨lw_seg C0 ht hi lw_o392 (fun h hI hL hb => lw_t392 hI hL hb) k1,
  List.forall_mem_cons.mpr ⟨lw_seg C0 ht hi lw_o405 (fun h hI hL hb => lw_t405 hI hL hb) (lw_seg C0 ht hi lw_o422 (fun h hI hL hb => lw_t422 hI hL hb) (k1)),
  List.forall_mem_cons.mpr ⟨lw_seg C0 ht hi lw_o442 (fun h hI hL hb => lw_t442 hI hL hb) (lw_seg C0 ht hi lw_o459 (fun h hI hL hb => lw_t459 hI hL hb) (k1)),
  List.forall_mem_cons.mpr ⟨lw_seg C0 ht hi lw_o479 (fun h hI hL hb => lw_t479 hI hL hb) k1,
  List.forall_mem_cons.mpr ⟨lw_seg C0 ht hi lw_o492 (fun h hI hL hb => lw_t492 hI hL hb) k1,
  List.forall_mem_cons.mpr ⟨lw_seg C0 ht hi lw_o529 (fun h hI hL hb => lw_t529 hI hL hb) k1,
  List.forall_mem_cons.mpr ⟨lw_seg C0 ht hi lw_o554 (fun h hI hL hb => lw_t554 hI hL hb) k1,
  List.forall_mem_cons.mpr ⟨lw_seg C0 ht hi lw_o567 (fun h hI hL hb => lw_t567 hI hL hb) (lw_seg C0 ht hi lw_o578 (fun h hI hL hb => lw_t578 hI hL hb) (k1)),
  List.forall_mem_cons.mpr ⟨lw_seg C0 ht hi lw_o592 (fun h hI hL hb => lw_t592 hI hL hb) (lw_seg C0 ht hi lw_o609 (fun h hI hL hb => lw_t609 hI hL hb) (k1)),
  List.forall_mem_cons.mpr ⟨lw_seg C0 ht hi lw_o629 (fun h hI hL hb => lw_t629 hI hL hb) (lw_seg C0 ht hi lw_o646 (fun h hI hL hb => lw_t646 hI hL hb) (k1)),
  List.forall_mem_cons.mpr ⟨lw_seg C0 ht hi lw_o666 (fun h hI hL hb => lw_t666 hI hL hb) k1,
  List.forall_mem_cons.mpr ⟨lw_seg C0 ht hi lw_o691 (fun h hI hL hb => lw_t691 hI hL hb) (lw_seg C0 ht hi lw_o708 (fun h hI hL hb => lw_t708 hI hL hb) (k1)),
  List.forall_mem_cons.mpr ⟨lw_seg C0 ht hi lw_o728 (fun h hI hL hb => lw_t728 hI hL hb) (lw_seg C0 ht hi lw_o745 (fun h hI hL hb => lw_t745 hI hL hb) (k1)),
  List.forall_mem_cons.mpr ⟨lw_seg C0 ht hi lw_o765 (fun h hI hL hb => lw_t765 hI hL hb) (lw_seg C0 ht hi lw_o776 (fun h hI hL hb => lw_t776 hI hL hb) (k1)),
  List.forall_mem_cons.mpr ⟨lw_seg C0 ht hi lw_o790 (fun h hI hL hb => lw_t790 hI hL hb) (lw_seg C0 ht hi lw_o795 (fun h hI hL hb => lw_t795 hI hL hb) (k1)),
  List.forall_mem_cons.mpr ⟨lw_seg C0 ht hi lw_o803 (fun h hI hL hb => lw_t803 hI hL hb) (lw_seg C0 ht hi lw_o814 (fun h hI hL hb => lw_t814 hI hL hb) (k1)),
  List.forall_mem_cons.mpr ⟨lw_seg C0 ht hi lw_o828 (fun h hI hL hb => lw_t828 hI hL hb) (lw_seg C0 ht hi lw_o845 (fun h hI hL hb => lw_t845 hI hL hb) (k1)),
  List.forall_mem_cons.mpr ⟨lw_seg C0 ht hi lw_o865 (fun h hI hL hb => lw_t865 hI hL hb) k1,
  List.forall_mem_cons.mpr ⟨lw_seg C0 ht hi lw_o930 (fun h hI hL hb => lw_t930 hI hL hb) (lw_seg C0 ht hi lw_o935 (fun h hI hL hb => lw_t935 hI hL hb) (k1)),
  List.forall_mem_cons.mpr ⟨lw_seg C0 ht hi lw_o943 (fun h hI hL hb => lw_t943 hI hL hb) (lw_seg C0 ht hi lw_o948 (fun h hI hL hb => lw_t948 hI hL hb) (k1)),
  List.forall_mem_cons.mpr ⟨lw_seg C0 ht hi lw_o956 (fun h hI hL hb => lw_t956 hI hL hb) (lw_seg C0 ht hi lw_o961 (fun h hI hL hb => lw_t961 hI hL hb) (k1)),
  List.forall_mem_cons.mpr ⟨lw_seg C0 ht hi lw_o969 (fun h hI hL hb => lw_t969 hI hL hb) (lw_seg C0 ht hi lw_o974 (fun h hI hL hb => lw_t974 hI hL hb) (k1)),
  List.forall_mem_cons.mpr ⟨lw_seg C0 ht hi lw_o982 (fun h hI hL hb => lw_t982 hI hL hb) (lw_seg C0 ht hi lw_o993 (fun h hI hL hb => lw_t993 hI hL hb) (k1)),
  List.forall_mem_cons.mpr ⟨lw_seg C0 ht hi lw_o1007 (fun h hI hL hb => lw_t1007 hI hL hb) (lw_seg C0 ht hi lw_o1012 (fun h hI hL hb => lw_t1012 hI hL hb) (k1)),
  List.forall_mem_cons.mpr ⟨lw_seg C0 ht hi lw_o1020 (fun h hI hL hb => lw_t1020 hI hL hb) (lw_seg C0 ht hi lw_o1025 (fun h hI hL hb => lw_t1025 hI hL hb) (k1)),
  List.forall_mem_cons.mpr ⟨lw_seg C0 ht hi lw_o1033 (fun h hI hL hb => lw_t1033 hI hL hb) (lw_seg C0 ht hi lw_o1044 (fun h hI hL hb => lw_t1044 hI hL hb) (k1)),
  List.forall_mem_cons.mpr ⟨lw_seg C0 ht hi lw_o1058 (fun h hI hL hb => lw_t1058 hI hL hb) (lw_seg C0 ht hi lw_o1075 (fun h hI hL hb => lw_t1075 hI hL hb) (k1)),
  List.forall_mem_cons.mpr ⟨lw_seg C0 ht hi lw_o1095 (fun h hI hL hb => lw_t1095 hI hL hb) (lw_seg C0 ht hi lw_o1100 (fun h hI hL hb => lw_t1100 hI hL hb) (k1)),
  List.forall_mem_cons.mpr ⟨lw_seg C0 ht hi lw_o1108 (fun h hI hL hb => lw_t1108 hI hL hb) (lw_seg C0 ht hi lw_o1113 (fun h hI hL hb => lw_t1113 hI hL hb) (k1)),
  List.forall_mem_cons.mpr ⟨lw_seg C0 ht hi lw_o1121 (fun h hI hL hb => lw_t1121 hI hL hb) (lw_seg C0 ht hi lw_o1126 (fun h hI hL hb => lw_t1126 hI hL hb) (k1)),
  List.forall_mem_cons.mpr ⟨lw_seg C0 ht hi lw_o1134 (fun h hI hL hb => lw_t1134 hI hL hb) (lw_seg C0 ht hi lw_o1151 (fun h hI hL hb => lw_t1151 hI hL hb) (k1)),
  List.forall_mem_cons.mpr ⟨lw_seg C0 ht hi lw_o1171 (fun h hI hL hb => lw_t1171 hI hL hb) (lw_seg C0 ht hi lw_o1176 (fun h hI hL hb => lw_t1176 hI hL hb) (k1)),
  List.forall_mem_cons.mpr ⟨lw_seg C0 ht hi lw_o1184 (fun h hI hL hb => lw_t1184 hI hL hb) (lw_seg C0 ht hi lw_o1189 (fun h hI hL hb => lw_t1189 hI hL hb) (k1)),
  List.forall_mem_cons.mpr ⟨lw_seg C0 ht hi lw_o1197 (fun h hI hL hb => lw_t1197 hI hL hb) k1,
  List.forall_mem_cons.mpr ⟨lw_seg C0 ht hi lw_o1222 (fun h hI hL hb => lw_t1222 hI hL hb) (lw_seg C0 ht hi lw_o1227 (fun h hI hL hb => lw_t1227 hI hL hb) (k1)),
  List.forall_mem_cons.mpr ⟨lw_seg C0 ht hi lw_o1235 (fun h hI hL hb => lw_t1235 hI hL hb) (lw_seg C0 ht hi lw_o1246 (fun h hI hL hb => lw_t1246 hI hL hb) (k1)),
  List.forall_mem_cons.mpr ⟨lw_seg C0 ht hi lw_o1260 (fun h hI hL hb => lw_t1260 hI hL hb) (lw_seg C0 ht hi lw_o1265 (fun h hI hL hb => lw_t1265 hI hL hb) (k1)),
  List.forall_mem_cons.mpr ⟨lw_seg C0 ht hi lw_o1273 (fun h hI hL hb => lw_t1273 hI hL hb) (lw_seg C0 ht hi lw_o1296 (fun h hI hL hb => lw_t1296 hI hL hb) (k1)),
  List.forall_mem_cons.mpr ⟨lw_K40 C0 (by omega) hi (lw_K1513 C0 (by omega) (hn (t + 1) (Nat.le_refl _))),
  List.forall_mem_cons.mpr ⟨lw_seg C0 ht hi lw_o1386 (fun h hI hL hb => lw_t1386 hI hL hb) (lw_seg C0 ht hi lw_o1409 (fun h hI hL hb => lw_t1409 hI hL hb) (k1)),
  List.forall_mem_cons.mpr ⟨lw_seg C0 ht hi lw_o1435 (fun h hI hL hb => lw_t1435 hI hL hb) k1,
  List.forall_mem_cons.mpr ⟨lw_seg C0 ht hi lw_o1488 (fun h hI hL hb => lw_t1488 hI hL hb) (lw_seg C0 ht hi lw_o1499 (fun h hI hL hb => lw_t1499 hI hL hb) (k1)),
  fun _ z => absurd z List.not_mem_nil⟩⟩⟩⟩⟩⟩⟩⟩⟩⟩⟩⟩⟩⟩⟩⟩⟩⟩⟩⟩⟩⟩⟩⟩⟩⟩⟩⟩⟩⟩⟩⟩⟩⟩⟩⟩⟩⟩⟩⟩⟩⟩⟩⟩⟩
theorem lw_step (C0 : lw_Fc l p s m meth c b L xs D cA ad) {t i : Nat} (hi7 : 7 * t ≤ i) (hi : i ≤ L) (hn : i + 7 ≤ L → ∀ t', t' ≤ t + 1 → lw_Kx p l e s m below meth c b L xs D cA ad t' (lw_Ex (lw_J (i + 7)) (i + 7) 23)) : lw_Kx p l e s m below meth c b L xs D cA ad t (lw_Ex (lw_J i) i 23) := by
  have hL : L ≤ 3584 := C0.2.2.2.1
  have ht : t ≤ 512 := by omega
  intro pc lv st h H locs ls hx hI hl
  obtain ⟨rfl, rfl, rfl, hIv⟩ := hx
  have hl4 : h.2.2.2.1 = L := hI.2.2.1.1
  refine lw_run C0 ht lw_oH (E := lw_EH i h) ?_ lw_Qn _ _ _ _ _ _ _ (lw_tH (by rw [hl4]; exact hL) (by rw [hl4]; exact hi)) hI hl
  clear hI hl
  intro pc lv st h' H locs ls hx hI hl
  obtain ⟨rfl, rfl, rfl, hcase⟩ := hx
  rcases hcase with ⟨hle, hm⟩ | rfl
  · rw [hl4] at hle
    exact lw_all C0 ht hi7 hle (hn hle) pc hm _ _ _ _ _ _ _ ⟨rfl, rfl, rfl, hIv⟩ hI hl
  · exact lw_run C0 ht lw_oE (E := fun _ _ _ _ => False) (fun _ _ _ _ _ _ _ q => q.elim) (lw_end C0 ht) _ _ _ _ _ _ _ lw_tE hI hl
theorem lw_loop (C0 : lw_Fc l p s m meth c b L xs D cA ad) : ∀ n i t, L ≤ i + n → i ≤ L → 7 * t ≤ i → lw_Kx p l e s m below meth c b L xs D cA ad t (lw_Ex (lw_J i) i 23) := by
  intro n
  induction n with
  | zero => exact fun i t h1 h2 h3 => lw_step C0 h3 h2 (fun z => absurd z (by omega))
  | succ n ih => exact fun i t h1 h2 h3 => lw_step C0 h3 h2 (fun z t' ht' => ih (i + 7) t' (by omega) z (by omega))
def lw_h0 (xs : Nat → Int32) (L : Nat) : am_H := (fun o j => if o = 3000000 then xs j else 0, fun _ _ => 0, fun _ _ => none, L, 0)
theorem lw_lv0 : ae_cl (fun _ => 0) ae_lv0 = lw_lv 0 := rfl
theorem lw_in0 : ae_in (fun _ => 0) ae_env0 := by
  refine ⟨fun i w hw => ?_, by decide⟩
  have hm := List.mem_of_getElem? hw
  have hz : ae_env0.all (fun w => decide (w.1 ≤ 0) && decide (0 ≤ w.2)) = true := by decide +kernel
  have := List.all_eq_true.mp hz w hm
  simp only [Bool.and_eq_true, decide_eq_true_eq] at this
  exact this
def lw_X0 (xs : Nat → Int32) (L : Nat) : Prop := am_X (am_call am_cod 20) 7 175 (some .boolean) (am_find am_rL) (lw_Ex (lw_J 0) 0 23) lw_no 0 [(0, .ref 3000000)] [] (lw_h0 xs L)
theorem jx_s {ρ : Nat → Int32} {h : am_H} (hR : ae_R ρ 0 ae_H0 h) : jx 0 h := K_s hR
theorem lw_0 {xs : Nat → Int32} {L : Nat} : lw_X0 xs L := by
  unfold lw_X0
  have hR : ae_R (fun _ => 0) 0 ([], [], 0, 0) (lw_h0 xs L) := ⟨rfl, fun z => absurd z (by decide), by decide, fun o k ho => by have : 0 ≤ o ∧ o < 0 := ho; omega, fun o k ho => by have : 0 ≤ o ∧ o < 0 := ho; omega, fun j hj => by omega, fun _ _ _ => rfl, fun _ _ _ => rfl⟩
  refine am_X_sub (am_X.mono (fun pc lv st h q => ?_) (fun _ _ q => q) (wd_law (fun _ _ _ _ e => e.1) (ae_go_ok (ρ := fun _ => 0) (LL := 0) (E := fun pc lv st h => pc = 23 ∧ lv = ae_cl (fun _ => 0) ae_lv0 ∧ st = [] ∧ ae_R (fun _ => 0) 0 ae_H0 h) (Q := lw_no0) (fun _ _ _ _ z => by cases z) (fun env pc lv st H z1 z2 hi h' hr => by
    unfold ae_fin0 at z2
    simp only [Bool.and_eq_true, decide_eq_true_eq] at z2
    obtain ⟨q1, q2, q3, q4, q5⟩ := z2
    subst q1
    have e2 : st = [] := List.isEmpty_iff.mp q2
    subst e2
    exact ⟨Nat.eq_of_beq_eq_true z1, rfl, rfl, ae_R_same hr q3 q4 q5⟩) (fun _ _ _ z => by cases z) _ _ _ _ _ _ _ _ _ _ _ _ ae_run1 lw_in0 (lw_h0 xs L) hR)))
  obtain ⟨⟨rfl, rfl, rfl, hr⟩, hW⟩ := q
  have e2 : h.1 154 2 = 0 := by
    rcases iv_int (k := 2) hr (o := 154) (by decide) with ⟨w2, -, -⟩ | ⟨w2, -, -⟩ | ⟨w2, -, -⟩
    · exact w2
    · exact absurd w2 (by decide)
    · exact absurd w2 (by decide)
  refine am_xexit ⟨rfl, lw_lv0, rfl, iv_start hr, ?_, jt_0 e2, hW.2, jx_s hr⟩
  rcases iv_int (k := 1) hr (o := 1) (by decide) with ⟨w, -, -⟩ | ⟨w, -, -⟩ | ⟨w, -, -⟩
  · rcases iv_int (k := 2) hr (o := 154) (by decide) with ⟨w2, -, -⟩ | ⟨w2, -, -⟩ | ⟨w2, -, -⟩
    · rw [w, w2]
    · exact absurd w2 (by decide)
    · exact absurd w2 (by decide)
  · exact absurd w (by decide)
  · exact absurd w (by decide)
end
