/-! BITS BY NUMBERS -/
def bN (x : Int32) : Nat := x.toBitVec.toNat
theorem bN_and (a b : Int32) : bN (a &&& b) = bN a &&& bN b := by
  unfold bN
  rw [Int32.toBitVec_and, BitVec.toNat_and]
theorem bN_or (a b : Int32) : bN (a ||| b) = bN a ||| bN b := by
  unfold bN
  rw [Int32.toBitVec_or, BitVec.toNat_or]
theorem bN_add (a b : Int32) : bN (a + b) = (bN a + bN b) % 4294967296 := by
  unfold bN
  rw [Int32.toBitVec_add, BitVec.toNat_add]
theorem bN_sub (a b : Int32) : bN (a - b) = (4294967296 - bN b + bN a) % 4294967296 := by
  unfold bN
  rw [Int32.toBitVec_sub, BitVec.toNat_sub]
theorem bN_lt (a : Int32) : bN a < 4294967296 := a.toBitVec.isLt
theorem bN_inj {a b : Int32} (e : bN a = bN b) : a = b := Int32.toBitVec_inj.mp (BitVec.eq_of_toNat_eq e)
theorem bN_nI {n : Nat} (hn : n < 4294967296) : bN (nI n) = n := by
  show (BitVec.ofNat 32 n).toNat = n
  rw [BitVec.toNat_ofNat]
  exact Nat.mod_eq_of_lt hn
theorem bN_u1 (x : Int32) : bN ((x.toUInt32 >>> ((Int32.ofInt 1).toUInt32 &&& Int32.toUInt32 31)).toInt32) = bN x / 2 := by
  show (x.toBitVec >>> (1 : Nat)).toNat = _
  rw [BitVec.toNat_ushiftRight, Nat.shiftRight_eq_div_pow]
  rfl
theorem bN_u2 (x : Int32) : bN ((x.toUInt32 >>> ((Int32.ofInt 2).toUInt32 &&& Int32.toUInt32 31)).toInt32) = bN x / 4 := by
  show (x.toBitVec >>> (2 : Nat)).toNat = _
  rw [BitVec.toNat_ushiftRight, Nat.shiftRight_eq_div_pow]
  rfl
theorem bN_u4 (x : Int32) : bN ((x.toUInt32 >>> ((Int32.ofInt 4).toUInt32 &&& Int32.toUInt32 31)).toInt32) = bN x / 16 := by
  show (x.toBitVec >>> (4 : Nat)).toNat = _
  rw [BitVec.toNat_ushiftRight, Nat.shiftRight_eq_div_pow]
  rfl
theorem bN_u8 (x : Int32) : bN ((x.toUInt32 >>> (((Int8.ofInt 8).toInt32).toUInt32 &&& Int32.toUInt32 31)).toInt32) = bN x / 256 := by
  show (x.toBitVec >>> (8 : Nat)).toNat = _
  rw [BitVec.toNat_ushiftRight, Nat.shiftRight_eq_div_pow]
  rfl
theorem bN_u16 (x : Int32) : bN ((x.toUInt32 >>> (((Int8.ofInt 16).toInt32).toUInt32 &&& Int32.toUInt32 31)).toInt32) = bN x / 65536 := by
  show (x.toBitVec >>> (16 : Nat)).toNat = _
  rw [BitVec.toNat_ushiftRight, Nat.shiftRight_eq_div_pow]
  rfl
/-- four bytes -/
def cb (a b c d : Nat) : Nat := 256 * (256 * (256 * d + c) + b) + a
theorem and256 {a b m n : Nat} (hb : b < 256) (hn : n < 256) : (256 * a + b) &&& (256 * m + n) = 256 * (a &&& m) + (b &&& n) := by
  apply Nat.eq_of_testBit_eq
  intro i
  have hbn : b &&& n < 2 ^ 8 := Nat.and_lt_two_pow b (show n < 2 ^ 8 by omega)
  rw [Nat.testBit_and, show (256 : Nat) = 2 ^ 8 from rfl, Nat.testBit_two_pow_mul_add a (show b < 2 ^ 8 by omega), Nat.testBit_two_pow_mul_add m (show n < 2 ^ 8 by omega), Nat.testBit_two_pow_mul_add (a &&& m) hbn]
  by_cases hi : i < 8
  · simp only [if_pos hi, Nat.testBit_and]
  · simp only [if_neg hi, Nat.testBit_and]
theorem and_cb {a b c d m1 m2 m3 m4 : Nat} (ha : a < 256) (hb : b < 256) (hc : c < 256) (h1 : m1 < 256) (h2 : m2 < 256) (h3 : m3 < 256) : cb a b c d &&& cb m1 m2 m3 m4 = cb (a &&& m1) (b &&& m2) (c &&& m3) (d &&& m4) := by
  unfold cb
  rw [and256 ha h1, and256 hb h2, and256 hc h3]
def q1 (b : Nat) : Nat := b - ((b / 2) &&& 85)
def q2 (a : Nat) : Nat := (a &&& 51) + ((a / 4) &&& 51)
def q3 (v : Nat) : Nat := (v + v / 16) &&& 15
def tbN (n : Nat) : Nat → Nat
  | 0 => 0
  | m + 1 => tbN n m + (n.testBit m).toNat
theorem q_tab : ∀ b, b < 256 → ((b / 2) &&& 85) ≤ b ∧ q1 b < 256 ∧ (q1 b &&& 51) + ((q1 b / 4) &&& 51) ≤ 68 ∧ q2 (q1 b) ≤ 68 ∧ q2 (q1 b) % 16 ≤ 4 ∧ q3 (q2 (q1 b)) = tbN b 8 ∧ tbN b 8 ≤ 8 := by decide +kernel
theorem q_85 : ∀ a, a < 256 → ∀ r, r < 2 → (a / 2 + 128 * r) &&& 85 = (a / 2) &&& 85 := by decide +kernel
theorem q_51 : ∀ a, a < 256 → ∀ r, r < 4 → (a / 4 + 64 * r) &&& 51 = (a / 4) &&& 51 := by decide +kernel
theorem q_15 : ∀ v, v < 69 → ∀ r, r < 5 → (v + v / 16 + 16 * r) &&& 15 = (v + v / 16) &&& 15 := by decide +kernel
theorem cb_2 (a b c d : Nat) (ha : a < 256) (hb : b < 256) (hc : c < 256) : cb a b c d / 2 = cb (a / 2 + 128 * (b % 2)) (b / 2 + 128 * (c % 2)) (c / 2 + 128 * (d % 2)) (d / 2) := by
  unfold cb
  omega
theorem cb_4 (a b c d : Nat) (ha : a < 256) (hb : b < 256) (hc : c < 256) : cb a b c d / 4 = cb (a / 4 + 64 * (b % 4)) (b / 4 + 64 * (c % 4)) (c / 4 + 64 * (d % 4)) (d / 4) := by
  unfold cb
  omega
theorem bc_1 {a b c d : Nat} (ha : a < 256) (hb : b < 256) (hc : c < 256) (hd : d < 256) : (4294967296 - (cb a b c d / 2 &&& cb 85 85 85 85) + cb a b c d) % 4294967296 = cb (q1 a) (q1 b) (q1 c) (q1 d) := by
  have e : cb a b c d / 2 &&& cb 85 85 85 85 = cb ((a / 2) &&& 85) ((b / 2) &&& 85) ((c / 2) &&& 85) ((d / 2) &&& 85) := by
    rw [cb_2 a b c d ha hb hc, and_cb (by omega) (by omega) (by omega) (by decide) (by decide) (by decide), q_85 a ha _ (by omega), q_85 b hb _ (by omega), q_85 c hc _ (by omega)]
  rw [e]
  have t1 := (q_tab a ha).1
  have t2 := (q_tab b hb).1
  have t3 := (q_tab c hc).1
  have t4 := (q_tab d hd).1
  unfold q1 cb
  generalize (a / 2) &&& 85 = x1 at *
  generalize (b / 2) &&& 85 = x2 at *
  generalize (c / 2) &&& 85 = x3 at *
  generalize (d / 2) &&& 85 = x4 at *
  omega
theorem bc_2 {a b c d : Nat} (ha : a < 256) (hb : b < 256) (hc : c < 256) (h1 : (a &&& 51) + ((a / 4) &&& 51) ≤ 68) (h2 : (b &&& 51) + ((b / 4) &&& 51) ≤ 68) (h3 : (c &&& 51) + ((c / 4) &&& 51) ≤ 68) (h4 : (d &&& 51) + ((d / 4) &&& 51) ≤ 68) : ((cb a b c d &&& cb 51 51 51 51) + (cb a b c d / 4 &&& cb 51 51 51 51)) % 4294967296 = cb (q2 a) (q2 b) (q2 c) (q2 d) := by
  rw [cb_4 a b c d ha hb hc, and_cb ha hb hc (by decide) (by decide) (by decide), and_cb (by omega) (by omega) (by omega) (by decide) (by decide) (by decide), q_51 a ha _ (by omega), q_51 b hb _ (by omega), q_51 c hc _ (by omega)]
  unfold q2 cb
  generalize a &&& 51 = x1 at *
  generalize b &&& 51 = x2 at *
  generalize c &&& 51 = x3 at *
  generalize d &&& 51 = x4 at *
  generalize (a / 4) &&& 51 = y1 at *
  generalize (b / 4) &&& 51 = y2 at *
  generalize (c / 4) &&& 51 = y3 at *
  generalize (d / 4) &&& 51 = y4 at *
  omega
theorem bc_3 {a b c d : Nat} (ha : a ≤ 68) (hb : b ≤ 68) (hc : c ≤ 68) (hd : d ≤ 68) (h2 : b % 16 ≤ 4) (h3 : c % 16 ≤ 4) (h4 : d % 16 ≤ 4) : (cb a b c d + cb a b c d / 16) % 4294967296 &&& cb 15 15 15 15 = cb (q3 a) (q3 b) (q3 c) (q3 d) := by
  have e : (cb a b c d + cb a b c d / 16) % 4294967296 = cb (a + a / 16 + 16 * (b % 16)) (b + b / 16 + 16 * (c % 16)) (c + c / 16 + 16 * (d % 16)) (d + d / 16) := by
    unfold cb
    omega
  rw [e, and_cb (by omega) (by omega) (by omega) (by decide) (by decide) (by decide), q_15 a (by omega) _ (by omega), q_15 b (by omega) _ (by omega), q_15 c (by omega) _ (by omega)]
  rfl
theorem bc_4 {a b c d : Nat} (ha : a ≤ 8) (hb : b ≤ 8) (hc : c ≤ 8) (hd : d ≤ 8) : (((cb a b c d + cb a b c d / 256) % 4294967296 + (cb a b c d + cb a b c d / 256) % 4294967296 / 65536) % 4294967296) &&& 63 = a + b + c + d := by
  have e1 : (cb a b c d + cb a b c d / 256) % 4294967296 = cb (a + b) (b + c) (c + d) d := by
    unfold cb
    omega
  have e2 : (cb (a + b) (b + c) (c + d) d + cb (a + b) (b + c) (c + d) d / 65536) % 4294967296 = cb (a + b + (c + d)) (b + c + d) (c + d) d := by
    clear e1
    have e3 : cb (a + b) (b + c) (c + d) d / 65536 = 256 * d + (c + d) := by
      unfold cb
      omega
    rw [e3]
    have e4 : cb (a + b) (b + c) (c + d) d + (256 * d + (c + d)) < 4294967296 := by
      unfold cb
      omega
    rw [Nat.mod_eq_of_lt e4]
    unfold cb
    omega
  rw [show (63 : Nat) = 2 ^ 6 - 1 from rfl, Nat.and_two_pow_sub_one_eq_mod, e1, e2]
  unfold cb
  omega
theorem tbN_div (n : Nat) (k : Nat) : ∀ m, tbN n (k + m) = tbN n k + tbN (n / 2 ^ k) m
  | 0 => rfl
  | m + 1 => by
    show tbN n (k + m) + (n.testBit (k + m)).toNat = tbN n k + (tbN (n / 2 ^ k) m + ((n / 2 ^ k).testBit m).toNat)
    rw [tbN_div n k m, Nat.testBit_div_two_pow, Nat.add_comm m k, Nat.add_assoc]
theorem tbN_mod (n k : Nat) : ∀ m, m ≤ k → tbN (n % 2 ^ k) m = tbN n m
  | 0, _ => rfl
  | m + 1, hm => by
    show tbN (n % 2 ^ k) m + ((n % 2 ^ k).testBit m).toNat = tbN n m + (n.testBit m).toNat
    rw [tbN_mod n k m (by omega), Nat.testBit_mod_two_pow, decide_eq_true (show m < k by omega), Bool.true_and]
theorem tbN_28 {n : Nat} (hn : n < 268435456) : tbN n 28 = tbN (n % 256) 8 + tbN (n / 256 % 256) 8 + tbN (n / 65536 % 256) 8 + tbN (n / 16777216) 8 := by
  have h1 := tbN_div n 8 20
  have h2 := tbN_div (n / 2 ^ 8) 8 12
  have h3 := tbN_div (n / 2 ^ 8 / 2 ^ 8) 8 4
  have h4 := tbN_mod n 8 8 (Nat.le_refl 8)
  have h5 := tbN_mod (n / 2 ^ 8) 8 8 (Nat.le_refl 8)
  have h6 := tbN_mod (n / 2 ^ 8 / 2 ^ 8) 8 8 (Nat.le_refl 8)
  have k16 : ∀ b, b < 16 → tbN b 4 = tbN b 8 := by decide +kernel
  have h7 := k16 (n / 2 ^ 8 / 2 ^ 8 / 2 ^ 8) (by omega)
  have e1 : n / 2 ^ 8 = n / 256 := rfl
  have e2 : n / 2 ^ 8 / 2 ^ 8 = n / 65536 := by omega
  have e3 : n / 2 ^ 8 / 2 ^ 8 / 2 ^ 8 = n / 16777216 := by omega
  rw [e3] at h7 h3
  rw [e2] at h3 h6 h2
  rw [e1] at h1 h2 h5
  have h4 : tbN (n % 256) 8 = tbN n 8 := h4
  have h5 : tbN (n / 256 % 256) 8 = tbN (n / 256) 8 := h5
  have h6 : tbN (n / 65536 % 256) 8 = tbN (n / 65536) 8 := h6
  have h1 : tbN n 28 = tbN n 8 + tbN (n / 256) 20 := h1
  have h2 : tbN (n / 256) 20 = tbN (n / 256) 8 + tbN (n / 65536) 12 := h2
  have h3 : tbN (n / 65536) 12 = tbN (n / 65536) 8 + tbN (n / 16777216) 4 := h3
  omega
theorem bc_N {n y1 y2 y3 y4 y5 y6 : Nat} (hn : n < 268435456) (e1 : y1 = (4294967296 - (n / 2 &&& 1431655765) + n) % 4294967296) (e2 : y2 = ((y1 &&& 858993459) + (y1 / 4 &&& 858993459)) % 4294967296) (e3 : y3 = (y2 + y2 / 16) % 4294967296 &&& 252645135) (e4 : y4 = (y3 + y3 / 256) % 4294967296) (e5 : y5 = (y4 + y4 / 65536) % 4294967296) (e6 : y6 = y5 &&& 63) : y6 = tbN n 28 := by
  have en : n = cb (n % 256) (n / 256 % 256) (n / 65536 % 256) (n / 16777216) := by
    unfold cb
    omega
  rw [tbN_28 hn]
  have b0 : n % 256 < 256 := by omega
  have b1 : n / 256 % 256 < 256 := by omega
  have b2 : n / 65536 % 256 < 256 := by omega
  have b3 : n / 16777216 < 256 := by omega
  generalize n % 256 = x0 at *
  generalize n / 256 % 256 = x1 at *
  generalize n / 65536 % 256 = x2 at *
  generalize n / 16777216 = x3 at *
  obtain ⟨-, p0, r0, s0, u0, v0, w0⟩ := q_tab x0 b0
  obtain ⟨-, p1, r1, s1, u1, v1, w1⟩ := q_tab x1 b1
  obtain ⟨-, p2, r2, s2, u2, v2, w2⟩ := q_tab x2 b2
  obtain ⟨-, p3, r3, s3, u3, v3, w3⟩ := q_tab x3 b3
  have f1 : y1 = cb (q1 x0) (q1 x1) (q1 x2) (q1 x3) := by
    rw [e1, en]
    exact bc_1 b0 b1 b2 b3
  have f2 : y2 = cb (q2 (q1 x0)) (q2 (q1 x1)) (q2 (q1 x2)) (q2 (q1 x3)) := by
    rw [e2, f1]
    exact bc_2 p0 p1 p2 r0 r1 r2 r3
  have f3 : y3 = cb (tbN x0 8) (tbN x1 8) (tbN x2 8) (tbN x3 8) := by
    rw [e3, f2, ← v0, ← v1, ← v2, ← v3]
    exact bc_3 s0 s1 s2 s3 u1 u2 u3
  rw [e6, e5, e4, f3]
  exact bc_4 w0 w1 w2 w3
/-- a bit, by its number -/
theorem sp_bit_tb {x : Int32} (hx : sp_28 x) {m : Nat} (hm : m < 28) : sp_bit x (nI m) = (bN x).testBit m := by
  have k0 : ∀ m, m < 28 → ((nI m &&& 31).toBitVec.smod 32).toNat = m := by decide +kernel
  have hm1 : x.toBitVec.msb = false := by
    rw [BitVec.msb_eq_false_iff_two_mul_lt]
    have : x.toBitVec.toNat < 268435456 := hx
    omega
  have e : bN ((x >>> (nI m &&& 31)) &&& Int32.ofInt 1) = 1 &&& (bN x >>> m) := by
    rw [bN_and, Nat.and_comm]
    congr 1
    unfold bN
    rw [Int32.toBitVec_shiftRight]
    show (x.toBitVec.sshiftRight ((nI m &&& 31).toBitVec.smod 32).toNat).toNat = x.toBitVec.toNat >>> m
    rw [k0 m hm, BitVec.sshiftRight_eq_of_msb_false hm1, BitVec.toNat_ushiftRight]
  unfold sp_bit Nat.testBit
  rw [← e]
  by_cases hz : ((x >>> (nI m &&& 31)) &&& Int32.ofInt 1) = 0
  · rw [hz]
    rfl
  · rw [decide_eq_true hz]
    have : ¬ bN ((x >>> (nI m &&& 31)) &&& Int32.ofInt 1) = 0 := fun z => hz (bN_inj z)
    exact (bne_iff_ne.mpr this).symm
theorem sp_pc_tb {x : Int32} (hx : sp_28 x) : ∀ m, m ≤ 28 → sp_pc x m = tbN (bN x) m
  | 0, _ => rfl
  | m + 1, hm => by
    show sp_pc x m + (bif sp_bit x (nI m) then 1 else 0) = tbN (bN x) m + ((bN x).testBit m).toNat
    rw [sp_pc_tb hx m (by omega), sp_bit_tb hx (by omega)]
    cases (bN x).testBit m with
    | true => rfl
    | false => rfl
theorem tbN_le (n : Nat) : ∀ m, tbN n m ≤ m
  | 0 => Nat.le_refl 0
  | m + 1 => by
    have := tbN_le n m
    show tbN n m + (n.testBit m).toNat ≤ m + 1
    cases n.testBit m with
    | true => show tbN n m + 1 ≤ m + 1; omega
    | false => show tbN n m + 0 ≤ m + 1; omega
variable {h : am_H} {Q : am_Q}
theorem c_65 {x i : Int32} (hP : ex_P h) (hQ : Q (some (.int (pz_b (sp_bit x i)))) h) : am_call am_cod 1 65 [.int x, .int i] h Q := by
  refine pz_call (n := 65) (nL := 2) (rt := (some .boolean)) (rows := am_r65) (d := 0) (by decide +kernel) (by decide +kernel) rfl (by funext pc; rfl) (ex_175 hP) (by exact Nat.le_of_ble_eq_true rfl) ?_
  refine am_goX 6 (show (((x >>> (i &&& 31)) &&& (Int32.ofInt 1)) = 0 → pz_S 2 (some .boolean) am_r65 0 Q 12 [(0, .int x), (1, .int i)] [] h) ∧ (¬ (((x >>> (i &&& 31)) &&& (Int32.ofInt 1)) = 0) → pz_S 2 (some .boolean) am_r65 0 Q 8 [(0, .int x), (1, .int i)] [] h) from ⟨fun hc => ?_, fun hc => ?_⟩)
  · have e : sp_bit x i = false := decide_eq_false (fun z => z hc)
    rw [e] at hQ
    exact am_goX 2 (show (∃ ty, (some .boolean) = some ty ∧ narrow ty (.int ((Int32.ofInt 0))) = .int ((Int32.ofInt 0))) ∧ h.2.2.2.2 = 175 ∧ _ from ⟨⟨.boolean, rfl, rfl⟩, ex_175 hP, hQ⟩)
  · have e : sp_bit x i = true := decide_eq_true hc
    rw [e] at hQ
    exact am_goX 3 (show (∃ ty, (some .boolean) = some ty ∧ narrow ty (.int ((Int32.ofInt 1))) = .int ((Int32.ofInt 1))) ∧ h.2.2.2.2 = 175 ∧ _ from ⟨⟨.boolean, rfl, rfl⟩, ex_175 hP, hQ⟩)
theorem c_69 {x : Int32} (hP : ex_P h) (hx : sp_28 x) (hQ : Q (some (.int (nI (sp_pc x 28)))) h) : am_call am_cod 1 69 [.int x] h Q := by
  rw [sp_pc_tb hx 28 (Nat.le_refl _)] at hQ
  refine pz_call (n := 69) (nL := 1) (rt := (some .int)) (rows := am_r69) (d := 0) (by decide +kernel) (by decide +kernel) rfl (by funext pc; rfl) (ex_175 hP) (by exact Nat.le_of_ble_eq_true rfl) ?_
  refine am_goX 8 (show 0 < 1 ∧ pz_S 1 (some .int) am_r69 0 Q 10 [(0, .int (x - ((x.toUInt32 >>> (((Int32.ofInt 1)).toUInt32 &&& Int32.toUInt32 31)).toInt32 &&& (am_ki 3))))] [] h from ⟨by decide, ?_⟩)
  generalize g1 : (x - ((x.toUInt32 >>> (((Int32.ofInt 1)).toUInt32 &&& Int32.toUInt32 31)).toInt32 &&& (am_ki 3))) = y1
  refine am_goX 10 (show 0 < 1 ∧ pz_S 1 (some .int) am_r69 0 Q 24 [(0, .int ((y1 &&& (am_ki 4)) + ((y1.toUInt32 >>> (((Int32.ofInt 2)).toUInt32 &&& Int32.toUInt32 31)).toInt32 &&& (am_ki 4))))] [] h from ⟨by decide, ?_⟩)
  generalize g2 : ((y1 &&& (am_ki 4)) + ((y1.toUInt32 >>> (((Int32.ofInt 2)).toUInt32 &&& Int32.toUInt32 31)).toInt32 &&& (am_ki 4))) = y2
  refine am_goX 8 (show 0 < 1 ∧ pz_S 1 (some .int) am_r69 0 Q 34 [(0, .int ((y2 + (y2.toUInt32 >>> (((Int32.ofInt 4)).toUInt32 &&& Int32.toUInt32 31)).toInt32) &&& (am_ki 5)))] [] h from ⟨by decide, ?_⟩)
  generalize g3 : ((y2 + (y2.toUInt32 >>> (((Int32.ofInt 4)).toUInt32 &&& Int32.toUInt32 31)).toInt32) &&& (am_ki 5)) = y3
  refine am_goX 6 (show 0 < 1 ∧ pz_S 1 (some .int) am_r69 0 Q 41 [(0, .int (y3 + (y3.toUInt32 >>> (((Int8.ofInt 8).toInt32).toUInt32 &&& Int32.toUInt32 31)).toInt32))] [] h from ⟨by decide, ?_⟩)
  generalize g4 : (y3 + (y3.toUInt32 >>> (((Int8.ofInt 8).toInt32).toUInt32 &&& Int32.toUInt32 31)).toInt32) = y4
  refine am_goX 6 (show 0 < 1 ∧ pz_S 1 (some .int) am_r69 0 Q 48 [(0, .int (y4 + (y4.toUInt32 >>> (((Int8.ofInt 16).toInt32).toUInt32 &&& Int32.toUInt32 31)).toInt32))] [] h from ⟨by decide, ?_⟩)
  generalize g5 : (y4 + (y4.toUInt32 >>> (((Int8.ofInt 16).toInt32).toUInt32 &&& Int32.toUInt32 31)).toInt32) = y5
  refine am_goX 3 (show pz_S 1 (some .int) am_r69 0 Q 52 [(0, .int y5)] [.int (y5 &&& (Int8.ofInt 63).toInt32)] h from ?_)
  have k3 : bN (am_ki 3) = 1431655765 := by decide +kernel
  have k4 : bN (am_ki 4) = 858993459 := by decide +kernel
  have k5 : bN (am_ki 5) = 252645135 := by decide +kernel
  have k6 : bN (Int8.ofInt 63).toInt32 = 63 := by decide +kernel
  have e1 := (congrArg bN g1).symm
  simp only [bN_add, bN_sub, bN_and, bN_u1, k3, k4, k5] at e1
  have e2 := (congrArg bN g2).symm
  simp only [bN_add, bN_sub, bN_and, bN_u2, k3, k4, k5] at e2
  have e3 := (congrArg bN g3).symm
  simp only [bN_add, bN_sub, bN_and, bN_u4, k3, k4, k5] at e3
  have e4 := (congrArg bN g4).symm
  simp only [bN_add, bN_sub, bN_and, bN_u8, k3, k4, k5] at e4
  have e5 := (congrArg bN g5).symm
  simp only [bN_add, bN_sub, bN_and, bN_u16, k3, k4, k5] at e5
  have e6 : bN (y5 &&& (Int8.ofInt 63).toInt32) = bN y5 &&& 63 := by rw [bN_and, k6]
  have e7 := bc_N (n := bN x) hx e1 e2 e3 e4 e5 e6
  have e8 : (y5 &&& (Int8.ofInt 63).toInt32) = nI (tbN (bN x) 28) := bN_inj (by
    rw [e7, bN_nI (by have := tbN_le (bN x) 28; omega)])
  rw [e8]
  exact am_goX 1 (show (∃ ty, (some .int) = some ty ∧ narrow ty (.int ((nI (tbN (bN x) 28)))) = .int ((nI (tbN (bN x) 28)))) ∧ h.2.2.2.2 = 175 ∧ _ from ⟨⟨.int, rfl, rfl⟩, ex_175 hP, hQ⟩)
