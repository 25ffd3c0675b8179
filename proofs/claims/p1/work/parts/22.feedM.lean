/-! FEED of the reference, and both calls -/
theorem fd_bv (v : BitVec 64) (n : Nat) (hn : n ≤ 56) : ((v.sshiftRight n).setWidth 32 &&& 255#32) = ((v >>> n) &&& 255#64).setWidth 32 := by
  apply BitVec.eq_of_getLsbD_eq
  intro i hi
  have e1 : (255#32).getLsbD i = decide (i < 8) := by
    rw [show (255#32) = BitVec.ofNat 32 (2 ^ 8 - 1) from rfl, BitVec.getLsbD_ofNat, Nat.testBit_two_pow_sub_one]
    simp [hi]
  have e2 : (255#64).getLsbD i = decide (i < 8) := by
    rw [show (255#64) = BitVec.ofNat 64 (2 ^ 8 - 1) from rfl, BitVec.getLsbD_ofNat, Nat.testBit_two_pow_sub_one]
    simp [show i < 64 by omega]
  rw [BitVec.getLsbD_and, BitVec.getLsbD_setWidth, BitVec.getLsbD_setWidth, BitVec.getLsbD_and, BitVec.getLsbD_sshiftRight, BitVec.getLsbD_ushiftRight, e1, e2]
  by_cases h8 : i < 8
  · simp [hi, h8, show n + i < 64 by omega, show ¬ 64 ≤ i by omega]
  · simp [h8]
theorem fd_cl (x : Int64) : ∀ k, k < 8 → ((x >>> ((fd_s (k + 1)).toInt64 &&& 63)).toInt32 &&& (Int16.ofInt 255).toInt32) = fd_c x (fd_s (k + 1)) := by
  intro k hk
  have hD : (((fd_s (k + 1)).toInt64 &&& 63).toBitVec.smod 64).toNat = 8 * k := by
    revert k
    decide
  have hU : ((fd_s (k + 1)).toInt64.toUInt64 &&& Int64.toUInt64 63).toNat % 64 = 8 * k := by
    revert k
    decide
  unfold fd_c
  apply Int32.toBitVec_inj.mp
  have e1 : (x >>> ((fd_s (k + 1)).toInt64 &&& 63)).toBitVec = x.toBitVec.sshiftRight (8 * k) := by
    rw [← hD]
    rfl
  have e2 : (x.toUInt64 >>> ((fd_s (k + 1)).toInt64.toUInt64 &&& Int64.toUInt64 63)).toInt64.toBitVec = x.toBitVec >>> (8 * k) := by
    apply BitVec.eq_of_toNat_eq
    show (x.toUInt64 >>> ((fd_s (k + 1)).toInt64.toUInt64 &&& Int64.toUInt64 63)).toNat = _
    rw [UInt64.toNat_shiftRight, hU, BitVec.toNat_ushiftRight]
    rfl
  rw [Int32.toBitVec_and]
  show (x >>> ((fd_s (k + 1)).toInt64 &&& 63)).toBitVec.signExtend 32 &&& (Int16.ofInt 255).toInt32.toBitVec = ((x.toUInt64 >>> ((fd_s (k + 1)).toInt64.toUInt64 &&& Int64.toUInt64 63)).toInt64 &&& 255).toBitVec.signExtend 32
  rw [BitVec.signExtend_eq_setWidth_of_le _ (by decide), BitVec.signExtend_eq_setWidth_of_le _ (by decide), Int64.toBitVec_and, e1, e2, show (Int16.ofInt 255).toInt32.toBitVec = 255#32 by decide]
  exact fd_bv _ _ (by omega)
def fd_L (d lim : Nat) (Q : am_Q) : Nat → am_V → List Value → am_H → Prop := am_X (am_call am_cod d) 5 lim none (am_find am_r178) (fun _ _ _ _ => False) Q
set_option maxHeartbeats 1000000 in
/-- the loop of lay -/
theorem fd_la_loop {d lim : Nat} {Q : am_Q} {x : Int64} {h : am_H} (hsh : am_so h 154 = some (11, 0)) (hsh2 : am_so h 155 = some (13, 1000)) (hr : h.2.2.1 154 1 = some 155) :
    ∀ k, k ≤ 8 → ∀ (s : fd_T), s.1 ≤ 1000 → ∀ lv : am_V, (lv = [(3, .int (fd_s k)), (0, .ref 154), (1, .long x)] ∨ ∃ b : Int32, lv = [(3, .int (fd_s k)), (4, .int b), (0, .ref 154), (1, .long x)]) → Q none (fd_h 154 2 155 h (fd_8 x k s)) → fd_L d lim Q 3 lv [] (fd_h 154 2 155 h s) := by
  intro k
  induction k with
  | zero =>
    intro _ s hs lv hlv hQ
    have e : fd_L d lim Q 75 lv [] (fd_h 154 2 155 h s) := am_goX 1 (show none = none ∧ Q none (fd_h 154 2 155 h s) from ⟨rfl, hQ⟩)
    have q : (fd_s 0 < 0 → fd_L d lim Q 75 lv [] (fd_h 154 2 155 h s)) ∧ (¬ fd_s 0 < 0 → fd_L d lim Q 7 lv [] (fd_h 154 2 155 h s)) := ⟨fun _ => e, fun z => absurd (by decide) z⟩
    rcases hlv with rfl | ⟨b, rfl⟩ <;> exact am_goX 2 q
  | succ k ih =>
    intro hk s hs lv hlv hQ
    have hneg := fd_s_neg k (by omega)
    have hQ1 : Q none (fd_h 154 2 155 h (fd_8 x k (fd_1 (fd_c x (fd_s (k + 1))) s))) := hQ
    have hcl := fd_cl x k (by omega)
    generalize hc : fd_c x (fd_s (k + 1)) = c at hQ1 hcl
    have tail : ∀ (s' : fd_T), s'.1 ≤ 1000 → Q none (fd_h 154 2 155 h (fd_8 x k s')) → fd_L d lim Q 69 [(4, .int c), (3, .int (fd_s (k + 1))), (0, .ref 154), (1, .long x)] [] (fd_h 154 2 155 h s') := fun s' hs' hQ' =>
      am_goX 2 (show 3 < 5 ∧ fd_L d lim Q 3 [(3, .int (fd_s (k + 1) + Int32.ofInt (-8))), (4, .int c), (0, .ref 154), (1, .long x)] [] (fd_h 154 2 155 h s') from ⟨by decide, by rw [fd_s_dec k (by omega)]; exact ih (by omega) s' hs' _ (Or.inr ⟨c, rfl⟩) hQ'⟩)
    have no : fd_f c = false → fd_L d lim Q 69 [(4, .int c), (3, .int (fd_s (k + 1))), (0, .ref 154), (1, .long x)] [] (fd_h 154 2 155 h s) := fun hf => tail s hs (by rw [fd_1_n (Or.inl hf)] at hQ1; exact hQ1)
    have yes : fd_f c = true → fd_L d lim Q 38 [(4, .int c), (3, .int (fd_s (k + 1))), (0, .ref 154), (1, .long x)] [] (fd_h 154 2 155 h s) := by
      intro hf
      refine am_goX 4 (show am_sh (fd_h 154 2 155 h s) 154 = some (11, 0) ∧ ((Int16.ofInt 1000).toInt32 ≤ (fd_h 154 2 155 h s).1 154 2 → fd_L d lim Q 69 [(4, .int c), (3, .int (fd_s (k + 1))), (0, .ref 154), (1, .long x)] [] (fd_h 154 2 155 h s)) ∧ (¬ (Int16.ofInt 1000).toInt32 ≤ (fd_h 154 2 155 h s).1 154 2 → fd_L d lim Q 48 [(4, .int c), (3, .int (fd_s (k + 1))), (0, .ref 154), (1, .long x)] [] (fd_h 154 2 155 h s)) from ⟨hsh, fun z => ?_, fun z => ?_⟩)
      · rw [fd_1000, fd_h_n, nI_leI (by decide) (by omega)] at z
        exact tail s hs (by rw [fd_1_n (Or.inr (by omega))] at hQ1; exact hQ1)
      · rw [fd_1000, fd_h_n, nI_leI (by decide) (by omega)] at z
        have hlt : s.1 < 1000 := by omega
        rw [fd_1_y hf hlt] at hQ1
        refine am_goX 2 (show am_sh (fd_h 154 2 155 h s) 154 = some (11, 0) ∧ fd_L d lim Q 52 [(4, .int c), (3, .int (fd_s (k + 1))), (0, .ref 154), (1, .long x)] [am_rf (h.2.2.1 154 1)] (fd_h 154 2 155 h s) from ⟨hsh, ?_⟩)
        rw [hr]
        refine am_goX 4 (show am_sh (fd_h 154 2 155 h s) 154 = some (11, 0) ∧ ∃ j n : Nat, am_so (fd_h 154 2 155 h s) 155 = some (13, n) ∧ j < n ∧ (fd_h 154 2 155 h s).1 154 2 = nI j ∧ fd_L d lim Q 59 [(4, .int c), (3, .int (fd_s (k + 1))), (0, .ref 154), (1, .long x)] [] (am_wI (fd_h 154 2 155 h s) 155 j c) from ⟨hsh, s.1, 1000, hsh2, hlt, fd_h_n, ?_⟩)
        refine am_goX 6 (show (Value.ref 154).category = 1 ∧ am_sh (am_wI (fd_h 154 2 155 h s) 155 s.1 c) 154 = some (11, 0) ∧ am_sh (am_wI (fd_h 154 2 155 h s) 155 s.1 c) 154 = some (11, 0) ∧ narrow (am_fty 11 2) (.int ((am_wI (fd_h 154 2 155 h s) 155 s.1 c).1 154 2 + Int32.ofInt 1)) = .int ((am_wI (fd_h 154 2 155 h s) 155 s.1 c).1 154 2 + Int32.ofInt 1) ∧ fits (am_fty 11 2) (.int ((am_wI (fd_h 154 2 155 h s) 155 s.1 c).1 154 2 + Int32.ofInt 1)) = true ∧ fd_L d lim Q 69 [(4, .int c), (3, .int (fd_s (k + 1))), (0, .ref 154), (1, .long x)] [] (am_wI (am_wI (fd_h 154 2 155 h s) 155 s.1 c) 154 2 ((am_wI (fd_h 154 2 155 h s) 155 s.1 c).1 154 2 + Int32.ofInt 1)) from ⟨rfl, hsh, hsh, rfl, rfl, ?_⟩)
        have e1 : (am_wI (fd_h 154 2 155 h s) 155 s.1 c).1 154 2 + Int32.ofInt 1 = nI s.1 + 1 := by
          show (if 154 = 155 ∧ 2 = s.1 then c else (fd_h 154 2 155 h s).1 154 2) + Int32.ofInt 1 = _
          rw [if_neg (fun z => absurd z.1 (by decide)), fd_h_n]
          rfl
        rw [e1, fd_h_put (by decide)]
        exact tail _ hlt hQ1
    have g31 : ¬ c = 10 → ¬ c < 32 → fd_L d lim Q 31 [(4, .int c), (3, .int (fd_s (k + 1))), (0, .ref 154), (1, .long x)] [] (fd_h 154 2 155 h s) := by
      intro h1 h2
      refine am_goX 3 (show ((Int8.ofInt 126).toInt32 < c → fd_L d lim Q 69 [(4, .int c), (3, .int (fd_s (k + 1))), (0, .ref 154), (1, .long x)] [] (fd_h 154 2 155 h s)) ∧ (¬ (Int8.ofInt 126).toInt32 < c → fd_L d lim Q 38 [(4, .int c), (3, .int (fd_s (k + 1))), (0, .ref 154), (1, .long x)] [] (fd_h 154 2 155 h s)) from ?_)
      rw [fd_126]
      exact ⟨fun z => no (fd_f_n2 h1 z), fun z => yes (fd_f_y2 h2 z)⟩
    have g24 : ¬ c = 10 → fd_L d lim Q 24 [(4, .int c), (3, .int (fd_s (k + 1))), (0, .ref 154), (1, .long x)] [] (fd_h 154 2 155 h s) := by
      intro h1
      refine am_goX 3 (show (c < (Int8.ofInt 32).toInt32 → fd_L d lim Q 69 [(4, .int c), (3, .int (fd_s (k + 1))), (0, .ref 154), (1, .long x)] [] (fd_h 154 2 155 h s)) ∧ (¬ c < (Int8.ofInt 32).toInt32 → fd_L d lim Q 31 [(4, .int c), (3, .int (fd_s (k + 1))), (0, .ref 154), (1, .long x)] [] (fd_h 154 2 155 h s)) from ?_)
      rw [fd_32]
      exact ⟨fun z => no (fd_f_n1 h1 z), fun z => g31 h1 z⟩
    have mid : fd_L d lim Q 17 [(4, .int c), (3, .int (fd_s (k + 1))), (0, .ref 154), (1, .long x)] [] (fd_h 154 2 155 h s) := by
      refine am_goX 3 (show (c = (Int8.ofInt 10).toInt32 → fd_L d lim Q 38 [(4, .int c), (3, .int (fd_s (k + 1))), (0, .ref 154), (1, .long x)] [] (fd_h 154 2 155 h s)) ∧ (¬ c = (Int8.ofInt 10).toInt32 → fd_L d lim Q 24 [(4, .int c), (3, .int (fd_s (k + 1))), (0, .ref 154), (1, .long x)] [] (fd_h 154 2 155 h s)) from ?_)
      rw [fd_10]
      exact ⟨fun z => yes (fd_f_y1 z), fun z => g24 z⟩
    have q7 : fd_L d lim Q 7 lv [] (fd_h 154 2 155 h s) := by
      rcases hlv with rfl | ⟨b, rfl⟩
      all_goals
        refine am_goX 7 (show 4 < 5 ∧ fd_L d lim Q 17 [(4, .int ((x >>> ((fd_s (k + 1)).toInt64 &&& 63)).toInt32 &&& (Int16.ofInt 255).toInt32)), (3, .int (fd_s (k + 1))), (0, .ref 154), (1, .long x)] [] (fd_h 154 2 155 h s) from ⟨by decide, ?_⟩)
        rw [hcl]
        exact mid
    have q : (fd_s (k + 1) < 0 → fd_L d lim Q 75 lv [] (fd_h 154 2 155 h s)) ∧ (¬ fd_s (k + 1) < 0 → fd_L d lim Q 7 lv [] (fd_h 154 2 155 h s)) := ⟨fun z => absurd z hneg, fun _ => q7⟩
    clear q7
    rcases hlv with rfl | ⟨b, rfl⟩ <;> exact am_goX 2 q
theorem fd_cod178 : am_cod 178 = am_find am_r178 := by
  funext pc
  rfl
theorem fd_lay {d : Nat} {Q : am_Q} {x : Int64} {h : am_H} {s : fd_T} (hsh : am_so h 154 = some (11, 0)) (hsh2 : am_so h 155 = some (13, 1000)) (hr : h.2.2.1 154 1 = some 155) (hs : s.1 ≤ 1000) (hQ : Q none (fd_h 154 2 155 h (fd_8 x 8 s))) : am_call am_cod (d + 1) 178 [.ref 154, .long x] (fd_h 154 2 155 h s) Q := by
  refine Or.inr ⟨show 3 ≤ am_nL 178 by decide +kernel, ?_⟩
  rw [fd_cod178]
  refine am_goX 2 (show 3 < 5 ∧ fd_L d (h.2.2.2.2 + am_al 178) (fun v h' => h'.2.2.2.2 = h.2.2.2.2 + am_al 178 ∧ Q v h') 3 [(3, .int (Int8.ofInt 56).toInt32), (0, .ref 154), (1, .long x)] [] (fd_h 154 2 155 h s) from ⟨by decide, ?_⟩)
  rw [show (Int8.ofInt 56).toInt32 = fd_s 8 by decide]
  exact fd_la_loop hsh hsh2 hr 8 (Nat.le_refl _) s hs _ (Or.inl rfl) ⟨rfl, hQ⟩
/-- three times eight -/
def fd_3 (a b c : Int64) (s : fd_T) : fd_T := fd_8 c 8 (fd_8 b 8 (fd_8 a 8 s))
theorem fd_3_fst {a b c : Int64} {s t : fd_T} (h : s.1 = t.1) : (fd_3 a b c s).1 = (fd_3 a b c t).1 := fd_8_fst 8 (fd_8_fst 8 (fd_8_fst 8 h))
theorem fd_cod12 : am_cod 12 = am_find am_r12 := by
  funext pc
  rfl
theorem fd_cod177 : am_cod 177 = am_find am_r177 := by
  funext pc
  rfl
def fd_C (d lim : Nat) (Q : am_Q) : Nat → am_V → List Value → am_H → Prop := am_X (am_call am_cod d) 7 lim (some .int) (am_find am_r12) (fun _ _ _ _ => False) Q
def fd_M (d lim : Nat) (Q : am_Q) : Nat → am_V → List Value → am_H → Prop := am_X (am_call am_cod d) 7 lim (some .int) (am_find am_r177) (fun _ _ _ _ => False) Q
set_option maxHeartbeats 1000000 in
theorem fd_feedC {d t : Nat} {Q : am_Q} {a b c : Int64} {h : am_H} (h0 : am_so h 0 = some (10, 0)) (h1 : am_so h 1 = some (7, 0)) (h2 : am_so h 2 = some (12, 1000)) (r0 : h.2.2.1 0 0 = some 1) (r1 : h.2.2.1 1 0 = some 2) (ht : h.1 1 1 = nI t) (hl : t ≤ 1000) (hQ : Q (some (.int (nI (fd_3 a b c (t, h.1 2)).1))) (fd_h 1 1 2 h (fd_3 a b c (t, h.1 2)))) : am_call am_cod (d + 2) 12 [.ref 0, .long a, .long b, .long c] h Q := by
  refine Or.inr ⟨show 7 ≤ am_nL 12 by decide +kernel, ?_⟩
  rw [fd_cod12]
  have l1 : (t, h.1 2).1 ≤ 1000 := hl
  have l2 : (fd_8 a 8 (t, h.1 2)).1 ≤ 1000 := fd_8_le l1
  have l3 : (fd_8 b 8 (fd_8 a 8 (t, h.1 2))).1 ≤ 1000 := fd_8_le l2
  have hself : fd_h 1 1 2 h (t, h.1 2) = h := fd_h_self (by decide) ht
  have f25 : fd_C (d + 1) (h.2.2.2.2 + am_al 12) (fun v h' => h'.2.2.2.2 = h.2.2.2.2 + am_al 12 ∧ Q v h') 25 [(0, .ref 0), (1, .long a), (3, .long b), (5, .long c)] [] (fd_h 1 1 2 h (fd_3 a b c (t, h.1 2))) := by
    refine am_goX 2 (show am_sh (fd_h 1 1 2 h (fd_3 a b c (t, h.1 2))) 0 = some (10, 0) ∧ fd_C (d + 1) (h.2.2.2.2 + am_al 12) (fun v h' => h'.2.2.2.2 = h.2.2.2.2 + am_al 12 ∧ Q v h') 29 [(0, .ref 0), (1, .long a), (3, .long b), (5, .long c)] [am_rf (h.2.2.1 0 0)] (fd_h 1 1 2 h (fd_3 a b c (t, h.1 2))) from ⟨h0, ?_⟩)
    rw [r0]
    refine am_goX 2 (show am_sh (fd_h 1 1 2 h (fd_3 a b c (t, h.1 2))) 1 = some (7, 0) ∧ ((∃ ty, some FieldType.int = some ty ∧ narrow ty (.int ((fd_h 1 1 2 h (fd_3 a b c (t, h.1 2))).1 1 1)) = .int ((fd_h 1 1 2 h (fd_3 a b c (t, h.1 2))).1 1 1)) ∧ (fd_h 1 1 2 h (fd_3 a b c (t, h.1 2))).2.2.2.2 = h.2.2.2.2 + am_al 12 ∧ Q (some (.int ((fd_h 1 1 2 h (fd_3 a b c (t, h.1 2))).1 1 1))) (fd_h 1 1 2 h (fd_3 a b c (t, h.1 2)))) from ⟨h1, ⟨.int, rfl, rfl⟩, rfl, ?_⟩)
    rw [fd_h_n]
    exact hQ
  have f16 : fd_C (d + 1) (h.2.2.2.2 + am_al 12) (fun v h' => h'.2.2.2.2 = h.2.2.2.2 + am_al 12 ∧ Q v h') 16 [(0, .ref 0), (1, .long a), (3, .long b), (5, .long c)] [] (fd_h 1 1 2 h (fd_8 b 8 (fd_8 a 8 (t, h.1 2)))) := by
    refine am_goX 2 (show am_sh (fd_h 1 1 2 h (fd_8 b 8 (fd_8 a 8 (t, h.1 2)))) 0 = some (10, 0) ∧ fd_C (d + 1) (h.2.2.2.2 + am_al 12) (fun v h' => h'.2.2.2.2 = h.2.2.2.2 + am_al 12 ∧ Q v h') 20 [(0, .ref 0), (1, .long a), (3, .long b), (5, .long c)] [am_rf (h.2.2.1 0 0)] (fd_h 1 1 2 h (fd_8 b 8 (fd_8 a 8 (t, h.1 2)))) from ⟨h0, ?_⟩)
    rw [r0]
    exact am_goX 2 (show am_sh (fd_h 1 1 2 h (fd_8 b 8 (fd_8 a 8 (t, h.1 2)))) 1 = some (7, 0) ∧ 0 ≤ 8 ∧ h.2.2.2.2 + am_al 13 ≤ h.2.2.2.2 + am_al 12 ∧ am_call am_cod (d + 1) 13 [.ref 1, .long c] (fd_h 1 1 2 h (fd_8 b 8 (fd_8 a 8 (t, h.1 2)))) (fun v h' => fd_C (d + 1) (h.2.2.2.2 + am_al 12) (fun v h' => h'.2.2.2.2 = h.2.2.2.2 + am_al 12 ∧ Q v h') 25 [(0, .ref 0), (1, .long a), (3, .long b), (5, .long c)] (v.toList ++ []) h') from ⟨h1, Nat.zero_le _, Nat.le_refl _, fd_append h1 h2 r1 l3 f25⟩)
  have f8 : fd_C (d + 1) (h.2.2.2.2 + am_al 12) (fun v h' => h'.2.2.2.2 = h.2.2.2.2 + am_al 12 ∧ Q v h') 8 [(0, .ref 0), (1, .long a), (3, .long b), (5, .long c)] [] (fd_h 1 1 2 h (fd_8 a 8 (t, h.1 2))) := by
    refine am_goX 2 (show am_sh (fd_h 1 1 2 h (fd_8 a 8 (t, h.1 2))) 0 = some (10, 0) ∧ fd_C (d + 1) (h.2.2.2.2 + am_al 12) (fun v h' => h'.2.2.2.2 = h.2.2.2.2 + am_al 12 ∧ Q v h') 12 [(0, .ref 0), (1, .long a), (3, .long b), (5, .long c)] [am_rf (h.2.2.1 0 0)] (fd_h 1 1 2 h (fd_8 a 8 (t, h.1 2))) from ⟨h0, ?_⟩)
    rw [r0]
    exact am_goX 2 (show am_sh (fd_h 1 1 2 h (fd_8 a 8 (t, h.1 2))) 1 = some (7, 0) ∧ 0 ≤ 8 ∧ h.2.2.2.2 + am_al 13 ≤ h.2.2.2.2 + am_al 12 ∧ am_call am_cod (d + 1) 13 [.ref 1, .long b] (fd_h 1 1 2 h (fd_8 a 8 (t, h.1 2))) (fun v h' => fd_C (d + 1) (h.2.2.2.2 + am_al 12) (fun v h' => h'.2.2.2.2 = h.2.2.2.2 + am_al 12 ∧ Q v h') 16 [(0, .ref 0), (1, .long a), (3, .long b), (5, .long c)] (v.toList ++ []) h') from ⟨h1, Nat.zero_le _, Nat.le_refl _, fd_append h1 h2 r1 l2 f16⟩)
  have f0 : fd_C (d + 1) (h.2.2.2.2 + am_al 12) (fun v h' => h'.2.2.2.2 = h.2.2.2.2 + am_al 12 ∧ Q v h') 0 [(0, .ref 0), (1, .long a), (3, .long b), (5, .long c)] [] (fd_h 1 1 2 h (t, h.1 2)) := by
    refine am_goX 2 (show am_sh (fd_h 1 1 2 h (t, h.1 2)) 0 = some (10, 0) ∧ fd_C (d + 1) (h.2.2.2.2 + am_al 12) (fun v h' => h'.2.2.2.2 = h.2.2.2.2 + am_al 12 ∧ Q v h') 4 [(0, .ref 0), (1, .long a), (3, .long b), (5, .long c)] [am_rf (h.2.2.1 0 0)] (fd_h 1 1 2 h (t, h.1 2)) from ⟨h0, ?_⟩)
    rw [r0]
    exact am_goX 2 (show am_sh (fd_h 1 1 2 h (t, h.1 2)) 1 = some (7, 0) ∧ 0 ≤ 8 ∧ h.2.2.2.2 + am_al 13 ≤ h.2.2.2.2 + am_al 12 ∧ am_call am_cod (d + 1) 13 [.ref 1, .long a] (fd_h 1 1 2 h (t, h.1 2)) (fun v h' => fd_C (d + 1) (h.2.2.2.2 + am_al 12) (fun v h' => h'.2.2.2.2 = h.2.2.2.2 + am_al 12 ∧ Q v h') 8 [(0, .ref 0), (1, .long a), (3, .long b), (5, .long c)] (v.toList ++ []) h') from ⟨h1, Nat.zero_le _, Nat.le_refl _, fd_append h1 h2 r1 l1 f8⟩)
  rw [hself] at f0
  exact f0
set_option maxHeartbeats 1000000 in
theorem fd_feedM {d t : Nat} {Q : am_Q} {a b c : Int64} {h : am_H} (h1 : am_so h 154 = some (11, 0)) (h2 : am_so h 155 = some (13, 1000)) (r1 : h.2.2.1 154 1 = some 155) (ht : h.1 154 2 = nI t) (hl : t ≤ 1000) (hQ : Q (some (.int (nI (fd_3 a b c (t, h.1 155)).1))) (fd_h 154 2 155 (am_wI h 154 0 0) (fd_3 a b c (t, h.1 155)))) : am_call am_cod (d + 2) 177 [.ref 154, .long a, .long b, .long c] h Q := by
  refine Or.inr ⟨show 7 ≤ am_nL 177 by decide +kernel, ?_⟩
  rw [fd_cod177]
  have l1 : (t, h.1 155).1 ≤ 1000 := hl
  have l2 : (fd_8 a 8 (t, h.1 155)).1 ≤ 1000 := fd_8_le l1
  have l3 : (fd_8 b 8 (fd_8 a 8 (t, h.1 155))).1 ≤ 1000 := fd_8_le l2
  have e155 : (am_wI h 154 0 0).1 155 = h.1 155 := by
    funext q
    show (if 155 = 154 ∧ q = 0 then 0 else h.1 155 q) = _
    rw [if_neg (fun z => absurd z.1 (by decide))]
  have hself : fd_h 154 2 155 (am_wI h 154 0 0) (t, h.1 155) = am_wI h 154 0 0 := by
    rw [← e155]
    refine fd_h_self (by decide) ?_
    show (if 154 = 154 ∧ 2 = 0 then 0 else h.1 154 2) = _
    rw [if_neg (fun z => absurd z.2 (by decide))]
    exact ht
  have f21 : fd_M (d + 1) (h.2.2.2.2 + am_al 177) (fun v h' => h'.2.2.2.2 = h.2.2.2.2 + am_al 177 ∧ Q v h') 21 [(0, .ref 154), (1, .long a), (3, .long b), (5, .long c)] [] (fd_h 154 2 155 (am_wI h 154 0 0) (fd_3 a b c (t, h.1 155))) := by
    refine am_goX 3 (show am_sh (fd_h 154 2 155 (am_wI h 154 0 0) (fd_3 a b c (t, h.1 155))) 154 = some (11, 0) ∧ ((∃ ty, some FieldType.int = some ty ∧ narrow ty (.int ((fd_h 154 2 155 (am_wI h 154 0 0) (fd_3 a b c (t, h.1 155))).1 154 2)) = .int ((fd_h 154 2 155 (am_wI h 154 0 0) (fd_3 a b c (t, h.1 155))).1 154 2)) ∧ (fd_h 154 2 155 (am_wI h 154 0 0) (fd_3 a b c (t, h.1 155))).2.2.2.2 = h.2.2.2.2 + am_al 177 ∧ Q (some (.int ((fd_h 154 2 155 (am_wI h 154 0 0) (fd_3 a b c (t, h.1 155))).1 154 2))) (fd_h 154 2 155 (am_wI h 154 0 0) (fd_3 a b c (t, h.1 155)))) from ⟨h1, ⟨.int, rfl, rfl⟩, rfl, ?_⟩)
    rw [fd_h_n]
    exact hQ
  have f15 : fd_M (d + 1) (h.2.2.2.2 + am_al 177) (fun v h' => h'.2.2.2.2 = h.2.2.2.2 + am_al 177 ∧ Q v h') 15 [(0, .ref 154), (1, .long a), (3, .long b), (5, .long c)] [] (fd_h 154 2 155 (am_wI h 154 0 0) (fd_8 b 8 (fd_8 a 8 (t, h.1 155)))) :=
    am_goX 3 (show am_sh (fd_h 154 2 155 (am_wI h 154 0 0) (fd_8 b 8 (fd_8 a 8 (t, h.1 155)))) 154 = some (11, 0) ∧ 0 ≤ 8 ∧ h.2.2.2.2 + am_al 178 ≤ h.2.2.2.2 + am_al 177 ∧ am_call am_cod (d + 1) 178 [.ref 154, .long c] (fd_h 154 2 155 (am_wI h 154 0 0) (fd_8 b 8 (fd_8 a 8 (t, h.1 155)))) (fun v h' => fd_M (d + 1) (h.2.2.2.2 + am_al 177) (fun v h' => h'.2.2.2.2 = h.2.2.2.2 + am_al 177 ∧ Q v h') 21 [(0, .ref 154), (1, .long a), (3, .long b), (5, .long c)] (v.toList ++ []) h') from ⟨h1, Nat.zero_le _, Nat.le_refl _, fd_lay (h := am_wI h 154 0 0) h1 h2 r1 l3 f21⟩)
  have f10 : fd_M (d + 1) (h.2.2.2.2 + am_al 177) (fun v h' => h'.2.2.2.2 = h.2.2.2.2 + am_al 177 ∧ Q v h') 10 [(0, .ref 154), (1, .long a), (3, .long b), (5, .long c)] [] (fd_h 154 2 155 (am_wI h 154 0 0) (fd_8 a 8 (t, h.1 155))) :=
    am_goX 3 (show am_sh (fd_h 154 2 155 (am_wI h 154 0 0) (fd_8 a 8 (t, h.1 155))) 154 = some (11, 0) ∧ 0 ≤ 8 ∧ h.2.2.2.2 + am_al 178 ≤ h.2.2.2.2 + am_al 177 ∧ am_call am_cod (d + 1) 178 [.ref 154, .long b] (fd_h 154 2 155 (am_wI h 154 0 0) (fd_8 a 8 (t, h.1 155))) (fun v h' => fd_M (d + 1) (h.2.2.2.2 + am_al 177) (fun v h' => h'.2.2.2.2 = h.2.2.2.2 + am_al 177 ∧ Q v h') 15 [(0, .ref 154), (1, .long a), (3, .long b), (5, .long c)] (v.toList ++ []) h') from ⟨h1, Nat.zero_le _, Nat.le_refl _, fd_lay (h := am_wI h 154 0 0) h1 h2 r1 l2 f15⟩)
  have f5 : fd_M (d + 1) (h.2.2.2.2 + am_al 177) (fun v h' => h'.2.2.2.2 = h.2.2.2.2 + am_al 177 ∧ Q v h') 5 [(0, .ref 154), (1, .long a), (3, .long b), (5, .long c)] [] (fd_h 154 2 155 (am_wI h 154 0 0) (t, h.1 155)) :=
    am_goX 3 (show am_sh (fd_h 154 2 155 (am_wI h 154 0 0) (t, h.1 155)) 154 = some (11, 0) ∧ 0 ≤ 8 ∧ h.2.2.2.2 + am_al 178 ≤ h.2.2.2.2 + am_al 177 ∧ am_call am_cod (d + 1) 178 [.ref 154, .long a] (fd_h 154 2 155 (am_wI h 154 0 0) (t, h.1 155)) (fun v h' => fd_M (d + 1) (h.2.2.2.2 + am_al 177) (fun v h' => h'.2.2.2.2 = h.2.2.2.2 + am_al 177 ∧ Q v h') 10 [(0, .ref 154), (1, .long a), (3, .long b), (5, .long c)] (v.toList ++ []) h') from ⟨h1, Nat.zero_le _, Nat.le_refl _, fd_lay (h := am_wI h 154 0 0) h1 h2 r1 l1 f10⟩)
  rw [hself] at f5
  exact am_goX 3 (show am_sh h 154 = some (11, 0) ∧ narrow (am_fty 11 0) (.int (Int32.ofInt 0)) = .int (Int32.ofInt 0) ∧ fits (am_fty 11 0) (.int (Int32.ofInt 0)) = true ∧ fd_M (d + 1) (h.2.2.2.2 + am_al 177) (fun v h' => h'.2.2.2.2 = h.2.2.2.2 + am_al 177 ∧ Q v h') 5 [(0, .ref 154), (1, .long a), (3, .long b), (5, .long c)] [] (am_wI h 154 0 (Int32.ofInt 0)) from ⟨h1, rfl, rfl, f5⟩)
