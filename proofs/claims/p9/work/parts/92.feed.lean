/-! feed, EXACTLY -/
def fd_c (x : Int64) (s : Int32) : Int32 := ((x.toUInt64 >>> (s.toInt64.toUInt64 &&& Int64.toUInt64 63)).toInt64 &&& 255).toInt32
def fd_f (c : Int32) : Bool := decide (c = 10) || (!decide (c < 32) && !decide (126 < c))
/-- a tape: how many signs, which -/
abbrev fd_T : Type := Nat × (Nat → Int32)
def fd_1 (c : Int32) (s : fd_T) : fd_T := bif fd_f c && Nat.blt s.1 1000 then (s.1 + 1, upd s.2 s.1 c) else s
theorem fd_1_y {c : Int32} {s : fd_T} (h1 : fd_f c = true) (h2 : s.1 < 1000) : fd_1 c s = (s.1 + 1, upd s.2 s.1 c) := by
  unfold fd_1
  rw [h1, ae_bltd, decide_eq_true h2]
  rfl
theorem fd_1_n {c : Int32} {s : fd_T} (h : fd_f c = false ∨ ¬ s.1 < 1000) : fd_1 c s = s := by
  unfold fd_1
  rcases h with h | h
  · rw [h]
    rfl
  · rw [ae_bltd, decide_eq_false h, Bool.and_false]
    rfl
def fd_s : Nat → Int32
  | 0 => -8
  | k + 1 => nI (8 * k)
/-- the last k of eight -/
def fd_8 (x : Int64) : Nat → fd_T → fd_T
  | 0, s => s
  | k + 1, s => fd_8 x k (fd_1 (fd_c x (fd_s (k + 1))) s)
theorem fd_1_le {c : Int32} {s : fd_T} (h : s.1 ≤ 1000) : (fd_1 c s).1 ≤ 1000 := by
  by_cases h1 : fd_f c = true
  · by_cases h2 : s.1 < 1000
    · rw [fd_1_y h1 h2]
      exact h2
    · rw [fd_1_n (Or.inr h2)]
      exact h
  · rw [fd_1_n (Or.inl (by simpa using h1))]
    exact h
theorem fd_8_le {x : Int64} : ∀ {k : Nat} {s : fd_T}, s.1 ≤ 1000 → (fd_8 x k s).1 ≤ 1000
  | 0, _, h => h
  | k + 1, s, h => fd_8_le (x := x) (k := k) (s := fd_1 (fd_c x (fd_s (k + 1))) s) (fd_1_le h)
theorem fd_s_dec : ∀ k, k < 8 → fd_s (k + 1) + Int32.ofInt (-8) = fd_s k := by decide
theorem fd_s_neg : ∀ k, k < 8 → ¬ fd_s (k + 1) < 0 := by decide
/-- a heap whose tape (object o: number at place a; its signs in object b) is so -/
def fd_h (o a b : Nat) (h : am_H) (s : fd_T) : am_H := (fun p q => if p = o ∧ q = a then nI s.1 else if p = b then s.2 q else h.1 p q, h.2)
theorem fd_h_n {o a b : Nat} {h : am_H} {s : fd_T} : (fd_h o a b h s).1 o a = nI s.1 := by simp [fd_h]
theorem fd_h_put {o a b : Nat} (hob : b ≠ o) {h : am_H} {s : fd_T} {c : Int32} : am_wI (am_wI (fd_h o a b h s) b s.1 c) o a (nI s.1 + 1) = fd_h o a b h (s.1 + 1, upd s.2 s.1 c) := by
  unfold fd_h am_wI
  refine Prod.ext ?_ rfl
  funext p q
  dsimp only
  by_cases h1 : p = o ∧ q = a
  · rw [if_pos h1, if_pos h1, nI_1]
  · simp only [if_neg h1]
    by_cases h2 : p = b
    · subst h2
      by_cases h3 : q = s.1 <;> simp [h3, upd]
    · simp [h2]
theorem fd_c_lt (x : Int64) (s : Int32) : ∃ n, n < 256 ∧ fd_c x s = nI n := by
  unfold fd_c
  generalize (x.toUInt64 >>> (s.toInt64.toUInt64 &&& Int64.toUInt64 63)).toInt64 = y
  refine ⟨y.toBitVec.toNat % 256, Nat.mod_lt _ (by decide), ?_⟩
  have e1 : y &&& 255 = lN (y.toBitVec.toNat % 256) := by
    apply Int64.toBitVec_inj.mp
    apply BitVec.eq_of_toNat_eq
    rw [Int64.toBitVec_and, BitVec.toNat_and]
    show y.toBitVec.toNat &&& 255 = (BitVec.ofNat 64 (y.toBitVec.toNat % 256)).toNat
    rw [BitVec.toNat_ofNat, show (255 : Nat) = 2 ^ 8 - 1 from rfl, Nat.and_two_pow_sub_one_eq_mod]
    rw [Nat.mod_eq_of_lt (Nat.lt_trans (Nat.mod_lt _ (by decide)) (by decide))]
  rw [e1, lN_i]
theorem fd_c_char (x : Int64) (s : Int32) : vp_nar .char ((fd_c x s).toUInt32 % 65536).toInt32 = fd_c x s := by
  rw [pk_vc]
  obtain ⟨n, h1, h2⟩ := fd_c_lt x s
  rw [h2, pk_char, pk_tn (by omega), Nat.mod_eq_of_lt (by omega)]
theorem fd_1_fst {c : Int32} {s t : fd_T} (h : s.1 = t.1) : (fd_1 c s).1 = (fd_1 c t).1 := by
  unfold fd_1
  rw [h]
  cases (fd_f c && Nat.blt t.1 1000)
  · exact h
  · rfl
theorem fd_8_fst {x : Int64} : ∀ (k : Nat) {s t : fd_T}, s.1 = t.1 → (fd_8 x k s).1 = (fd_8 x k t).1
  | 0, _, _, h => h
  | k + 1, _, _, h => fd_8_fst k (fd_1_fst h)
theorem fd_h_self {o a b : Nat} {h : am_H} {t : Nat} (hob : b ≠ o) (ht : h.1 o a = nI t) : fd_h o a b h (t, h.1 b) = h := by
  unfold fd_h
  refine Prod.ext ?_ rfl
  funext p q
  dsimp only
  by_cases h1 : p = o ∧ q = a
  · rw [if_pos h1, h1.1, h1.2, ht]
  · rw [if_neg h1]
    by_cases h2 : p = b
    · rw [if_pos h2, h2]
    · rw [if_neg h2]
theorem fd_10 : (Int8.ofInt 10).toInt32 = 10 := by decide
theorem fd_32 : (Int8.ofInt 32).toInt32 = 32 := by decide
theorem fd_126 : (Int8.ofInt 126).toInt32 = 126 := by decide
theorem fd_1000 : (Int16.ofInt 1000).toInt32 = nI 1000 := by decide
theorem fd_f_y1 {c : Int32} (h : c = 10) : fd_f c = true := by simp [fd_f, h]
theorem fd_f_y2 {c : Int32} (h1 : ¬ c < 32) (h2 : ¬ 126 < c) : fd_f c = true := by simp [fd_f, h1, h2]
theorem fd_f_n1 {c : Int32} (h : ¬ c = 10) (h1 : c < 32) : fd_f c = false := by simp [fd_f, h, h1]
theorem fd_f_n2 {c : Int32} (h : ¬ c = 10) (h1 : 126 < c) : fd_f c = false := by simp [fd_f, h, h1]
def fd_S (d lim : Nat) (Q : am_Q) : Nat → am_V → List Value → am_H → Prop := am_X (am_call am_cod d) 6 lim none (am_find am_r13) (fun _ _ _ _ => False) Q
set_option maxHeartbeats 1000000 in
/-- the loop of append -/
theorem fd_ap_loop {d lim : Nat} {Q : am_Q} {x : Int64} {h : am_H} (hsh : am_so h 1 = some (7, 0)) (hsh2 : am_so h 2 = some (12, 1000)) (hr : h.2.2.1 1 0 = some 2) :
    ∀ k, k ≤ 8 → ∀ (s : fd_T), s.1 ≤ 1000 → ∀ lv : am_V, (lv = [(3, .int (fd_s k)), (0, .ref 1), (1, .long x)] ∨ ∃ a b : Int32, lv = [(3, .int (fd_s k)), (5, .int a), (4, .int b), (0, .ref 1), (1, .long x)]) → Q none (fd_h 1 1 2 h (fd_8 x k s)) → fd_S d lim Q 3 lv [] (fd_h 1 1 2 h s) := by
  intro k
  induction k with
  | zero =>
    intro _ s hs lv hlv hQ
    have e : fd_S d lim Q 88 lv [] (fd_h 1 1 2 h s) := am_goX 1 (show none = none ∧ Q none (fd_h 1 1 2 h s) from ⟨rfl, hQ⟩)
    rcases hlv with rfl | ⟨a, b, rfl⟩
    · exact am_goX 2 (show (fd_s 0 < 0 → fd_S d lim Q 88 [(3, .int (fd_s 0)), (0, .ref 1), (1, .long x)] [] (fd_h 1 1 2 h s)) ∧ (¬ fd_s 0 < 0 → fd_S d lim Q 7 [(3, .int (fd_s 0)), (0, .ref 1), (1, .long x)] [] (fd_h 1 1 2 h s)) from ⟨fun _ => e, fun z => absurd (by decide) z⟩)
    · exact am_goX 2 (show (fd_s 0 < 0 → fd_S d lim Q 88 [(3, .int (fd_s 0)), (5, .int a), (4, .int b), (0, .ref 1), (1, .long x)] [] (fd_h 1 1 2 h s)) ∧ (¬ fd_s 0 < 0 → fd_S d lim Q 7 [(3, .int (fd_s 0)), (5, .int a), (4, .int b), (0, .ref 1), (1, .long x)] [] (fd_h 1 1 2 h s)) from ⟨fun _ => e, fun z => absurd (by decide) z⟩)
  | succ k ih =>
    intro hk s hs lv hlv hQ
    have hneg := fd_s_neg k (by omega)
    have hQ1 : Q none (fd_h 1 1 2 h (fd_8 x k (fd_1 (fd_c x (fd_s (k + 1))) s))) := hQ
    generalize hc : fd_c x (fd_s (k + 1)) = c at hQ1
    have tail : ∀ (v : Int32) (s' : fd_T), s'.1 ≤ 1000 → Q none (fd_h 1 1 2 h (fd_8 x k s')) → fd_S d lim Q 82 [(5, .int v), (4, .int c), (3, .int (fd_s (k + 1))), (0, .ref 1), (1, .long x)] [] (fd_h 1 1 2 h s') := fun v s' hs' hQ' =>
      am_goX 2 (show 3 < 6 ∧ fd_S d lim Q 3 [(3, .int (fd_s (k + 1) + Int32.ofInt (-8))), (5, .int v), (4, .int c), (0, .ref 1), (1, .long x)] [] (fd_h 1 1 2 h s') from ⟨by decide, by rw [fd_s_dec k (by omega)]; exact ih (by omega) s' hs' _ (Or.inr ⟨v, c, rfl⟩) hQ'⟩)
    have no : fd_f c = false → fd_S d lim Q 82 [(5, .int 0), (4, .int c), (3, .int (fd_s (k + 1))), (0, .ref 1), (1, .long x)] [] (fd_h 1 1 2 h s) := fun hf => tail 0 s hs (by rw [fd_1_n (Or.inl hf)] at hQ1; exact hQ1)
    have yes : fd_f c = true → fd_S d lim Q 50 [(5, .int 1), (4, .int c), (3, .int (fd_s (k + 1))), (0, .ref 1), (1, .long x)] [] (fd_h 1 1 2 h s) := by
      intro hf
      refine am_goX 4 (show am_sh (fd_h 1 1 2 h s) 1 = some (7, 0) ∧ ((Int16.ofInt 1000).toInt32 ≤ (fd_h 1 1 2 h s).1 1 1 → fd_S d lim Q 82 [(5, .int 1), (4, .int c), (3, .int (fd_s (k + 1))), (0, .ref 1), (1, .long x)] [] (fd_h 1 1 2 h s)) ∧ (¬ (Int16.ofInt 1000).toInt32 ≤ (fd_h 1 1 2 h s).1 1 1 → fd_S d lim Q 60 [(5, .int 1), (4, .int c), (3, .int (fd_s (k + 1))), (0, .ref 1), (1, .long x)] [] (fd_h 1 1 2 h s)) from ⟨hsh, fun z => ?_, fun z => ?_⟩)
      · rw [fd_1000, fd_h_n, nI_leI (by decide) (by omega)] at z
        exact tail 1 s hs (by rw [fd_1_n (Or.inr (by omega))] at hQ1; exact hQ1)
      · rw [fd_1000, fd_h_n, nI_leI (by decide) (by omega)] at z
        have hlt : s.1 < 1000 := by omega
        rw [fd_1_y hf hlt] at hQ1
        refine am_goX 2 (show am_sh (fd_h 1 1 2 h s) 1 = some (7, 0) ∧ fd_S d lim Q 64 [(5, .int 1), (4, .int c), (3, .int (fd_s (k + 1))), (0, .ref 1), (1, .long x)] [am_rf (h.2.2.1 1 0)] (fd_h 1 1 2 h s) from ⟨hsh, ?_⟩)
        rw [hr]
        refine am_goX 5 (show am_sh (fd_h 1 1 2 h s) 1 = some (7, 0) ∧ ∃ j n : Nat, am_so (fd_h 1 1 2 h s) 2 = some (12, n) ∧ j < n ∧ (fd_h 1 1 2 h s).1 1 1 = nI j ∧ fd_S d lim Q 72 [(5, .int 1), (4, .int c), (3, .int (fd_s (k + 1))), (0, .ref 1), (1, .long x)] [] (am_wI (fd_h 1 1 2 h s) 2 j (vp_nar .char (c.toUInt32 % 65536).toInt32)) from ⟨hsh, s.1, 1000, hsh2, hlt, fd_h_n, ?_⟩)
        rw [← hc, fd_c_char, hc]
        refine am_goX 6 (show (Value.ref 1).category = 1 ∧ am_sh (am_wI (fd_h 1 1 2 h s) 2 s.1 c) 1 = some (7, 0) ∧ am_sh (am_wI (fd_h 1 1 2 h s) 2 s.1 c) 1 = some (7, 0) ∧ narrow (am_fty 7 1) (.int ((am_wI (fd_h 1 1 2 h s) 2 s.1 c).1 1 1 + Int32.ofInt 1)) = .int ((am_wI (fd_h 1 1 2 h s) 2 s.1 c).1 1 1 + Int32.ofInt 1) ∧ fits (am_fty 7 1) (.int ((am_wI (fd_h 1 1 2 h s) 2 s.1 c).1 1 1 + Int32.ofInt 1)) = true ∧ fd_S d lim Q 82 [(5, .int 1), (4, .int c), (3, .int (fd_s (k + 1))), (0, .ref 1), (1, .long x)] [] (am_wI (am_wI (fd_h 1 1 2 h s) 2 s.1 c) 1 1 ((am_wI (fd_h 1 1 2 h s) 2 s.1 c).1 1 1 + Int32.ofInt 1)) from ⟨rfl, hsh, hsh, rfl, rfl, ?_⟩)
        have e1 : (am_wI (fd_h 1 1 2 h s) 2 s.1 c).1 1 1 + Int32.ofInt 1 = nI s.1 + 1 := by
          show (if 1 = 2 ∧ 1 = s.1 then c else (fd_h 1 1 2 h s).1 1 1) + Int32.ofInt 1 = _
          rw [if_neg (fun z => absurd z.1 (by decide)), fd_h_n]
          rfl
        rw [e1, fd_h_put (by decide)]
        exact tail 1 _ hlt hQ1
    have mid : ∀ lv2 : am_V, (lv2 = [(4, .int c), (3, .int (fd_s (k + 1))), (0, .ref 1), (1, .long x)] ∨ ∃ a : Int32, lv2 = [(4, .int c), (3, .int (fd_s (k + 1))), (5, .int a), (0, .ref 1), (1, .long x)]) → fd_S d lim Q 17 lv2 [] (fd_h 1 1 2 h s) := by
      intro lv2 hl2
      have y38 : fd_f c = true → fd_S d lim Q 38 lv2 [] (fd_h 1 1 2 h s) := by
        intro hf
        rcases hl2 with rfl | ⟨a, rfl⟩ <;> exact am_goX 5 (show 5 < 6 ∧ ((Int32.ofInt 1 = 0 → fd_S d lim Q 82 [(5, .int (Int32.ofInt 1)), (4, .int c), (3, .int (fd_s (k + 1))), (0, .ref 1), (1, .long x)] [] (fd_h 1 1 2 h s)) ∧ (¬ Int32.ofInt 1 = 0 → fd_S d lim Q 50 [(5, .int (Int32.ofInt 1)), (4, .int c), (3, .int (fd_s (k + 1))), (0, .ref 1), (1, .long x)] [] (fd_h 1 1 2 h s))) from ⟨by decide, fun z => absurd z (by decide), fun _ => yes hf⟩)
      have n42 : fd_f c = false → fd_S d lim Q 42 lv2 [] (fd_h 1 1 2 h s) := by
        intro hf
        rcases hl2 with rfl | ⟨a, rfl⟩ <;> exact am_goX 4 (show 5 < 6 ∧ ((Int32.ofInt 0 = 0 → fd_S d lim Q 82 [(5, .int (Int32.ofInt 0)), (4, .int c), (3, .int (fd_s (k + 1))), (0, .ref 1), (1, .long x)] [] (fd_h 1 1 2 h s)) ∧ (¬ Int32.ofInt 0 = 0 → fd_S d lim Q 50 [(5, .int (Int32.ofInt 0)), (4, .int c), (3, .int (fd_s (k + 1))), (0, .ref 1), (1, .long x)] [] (fd_h 1 1 2 h s))) from ⟨by decide, fun _ => no hf, fun z => absurd (by decide) z⟩)
      have g31 : ¬ c = 10 → ¬ c < 32 → fd_S d lim Q 31 lv2 [] (fd_h 1 1 2 h s) := by
        intro h1 h2
        have q : ((Int8.ofInt 126).toInt32 < c → fd_S d lim Q 42 lv2 [] (fd_h 1 1 2 h s)) ∧ (¬ (Int8.ofInt 126).toInt32 < c → fd_S d lim Q 38 lv2 [] (fd_h 1 1 2 h s)) := by
          rw [fd_126]
          exact ⟨fun z => n42 (fd_f_n2 h1 z), fun z => y38 (fd_f_y2 h2 z)⟩
        rcases hl2 with rfl | ⟨a, rfl⟩ <;> exact am_goX 3 q
      have g24 : ¬ c = 10 → fd_S d lim Q 24 lv2 [] (fd_h 1 1 2 h s) := by
        intro h1
        have q : (c < (Int8.ofInt 32).toInt32 → fd_S d lim Q 42 lv2 [] (fd_h 1 1 2 h s)) ∧ (¬ c < (Int8.ofInt 32).toInt32 → fd_S d lim Q 31 lv2 [] (fd_h 1 1 2 h s)) := by
          rw [fd_32]
          exact ⟨fun z => n42 (fd_f_n1 h1 z), fun z => g31 h1 z⟩
        rcases hl2 with rfl | ⟨a, rfl⟩ <;> exact am_goX 3 q
      have q : (c = (Int8.ofInt 10).toInt32 → fd_S d lim Q 38 lv2 [] (fd_h 1 1 2 h s)) ∧ (¬ c = (Int8.ofInt 10).toInt32 → fd_S d lim Q 24 lv2 [] (fd_h 1 1 2 h s)) := by
        rw [fd_10]
        exact ⟨fun z => y38 (fd_f_y1 z), fun z => g24 z⟩
      rcases hl2 with rfl | ⟨a, rfl⟩ <;> exact am_goX 3 q
    rcases hlv with rfl | ⟨a, b, rfl⟩
    · refine am_goX 2 (show (fd_s (k + 1) < 0 → fd_S d lim Q 88 [(3, .int (fd_s (k + 1))), (0, .ref 1), (1, .long x)] [] (fd_h 1 1 2 h s)) ∧ (¬ fd_s (k + 1) < 0 → fd_S d lim Q 7 [(3, .int (fd_s (k + 1))), (0, .ref 1), (1, .long x)] [] (fd_h 1 1 2 h s)) from ⟨fun z => absurd z hneg, fun _ => ?_⟩)
      refine am_goX 7 (show 4 < 6 ∧ fd_S d lim Q 17 [(4, .int (fd_c x (fd_s (k + 1)))), (3, .int (fd_s (k + 1))), (0, .ref 1), (1, .long x)] [] (fd_h 1 1 2 h s) from ⟨by decide, ?_⟩)
      rw [hc]
      exact mid _ (Or.inl rfl)
    · refine am_goX 2 (show (fd_s (k + 1) < 0 → fd_S d lim Q 88 [(3, .int (fd_s (k + 1))), (5, .int a), (4, .int b), (0, .ref 1), (1, .long x)] [] (fd_h 1 1 2 h s)) ∧ (¬ fd_s (k + 1) < 0 → fd_S d lim Q 7 [(3, .int (fd_s (k + 1))), (5, .int a), (4, .int b), (0, .ref 1), (1, .long x)] [] (fd_h 1 1 2 h s)) from ⟨fun z => absurd z hneg, fun _ => ?_⟩)
      refine am_goX 7 (show 4 < 6 ∧ fd_S d lim Q 17 [(4, .int (fd_c x (fd_s (k + 1)))), (3, .int (fd_s (k + 1))), (5, .int a), (0, .ref 1), (1, .long x)] [] (fd_h 1 1 2 h s) from ⟨by decide, ?_⟩)
      rw [hc]
      exact mid _ (Or.inr ⟨a, rfl⟩)
theorem fd_cod13 : am_cod 13 = am_find am_r13 := by
  funext pc
  rfl
theorem fd_append {d : Nat} {Q : am_Q} {x : Int64} {h : am_H} {s : fd_T} (hsh : am_so h 1 = some (7, 0)) (hsh2 : am_so h 2 = some (12, 1000)) (hr : h.2.2.1 1 0 = some 2) (hs : s.1 ≤ 1000) (hQ : Q none (fd_h 1 1 2 h (fd_8 x 8 s))) : am_call am_cod (d + 1) 13 [.ref 1, .long x] (fd_h 1 1 2 h s) Q := by
  refine Or.inr ⟨show 3 ≤ am_nL 13 by decide +kernel, ?_⟩
  rw [fd_cod13]
  refine am_goX 2 (show 3 < 6 ∧ fd_S d (h.2.2.2.2 + am_al 13) (fun v h' => h'.2.2.2.2 = h.2.2.2.2 + am_al 13 ∧ Q v h') 3 [(3, .int (Int8.ofInt 56).toInt32), (0, .ref 1), (1, .long x)] [] (fd_h 1 1 2 h s) from ⟨by decide, ?_⟩)
  rw [show (Int8.ofInt 56).toInt32 = fd_s 8 by decide]
  exact fd_ap_loop hsh hsh2 hr 8 (Nat.le_refl _) s hs _ (Or.inl rfl) ⟨rfl, hQ⟩
/-! FEED of the reference, and both calls -/
theorem fd_bv (v : BitVec 64) (n : Nat) (hn : n ≤ 56) : ((v.sshiftRight n).setWidth 32 &&& 255#32) = ((v >>> n) &&& 255#64).setWidth 32 := by
  apply BitVec.eq_of_getLsbD_eq
  intro i hi
  have e1 : (255#32).getLsbD i = decide (i < 8) := by
    rw [show (255#32) = BitVec.ofNat 32 (2 ^ 8 - 1) from rfl, BitVec.getLsbD_ofNat, Nat.testBit_two_pow_sub_one]
    simp [hi]
  have e2 : (255#64).getLsbD i = decide (i < 8) := by
    rw [show (255#64) = BitVec.ofNat 64 (2 ^ 8 - 1) from rfl, BitVec.getLsbD_ofNat, Nat.testBit_two_pow_sub_one]
    simp [show i < 64 by omega]
  rw [BitVec.getLsbD_and, BitVec.getLsbD_setWidth, BitVec.getLsbD_setWidth, BitVec.getLsbD_and, BitVec.getLsbD_sshiftRight, BitVec.getLsbD_ushiftRight, e1, e2]
  by_cases h8 : i < 8
  · simp [hi, h8, show n + i < 64 by omega, show ¬ 64 ≤ i by omega]
  · simp [h8]
theorem fd_cl (x : Int64) : ∀ k, k < 8 → ((x >>> ((fd_s (k + 1)).toInt64 &&& 63)).toInt32 &&& (Int16.ofInt 255).toInt32) = fd_c x (fd_s (k + 1)) := by
  intro k hk
  have hD : (((fd_s (k + 1)).toInt64 &&& 63).toBitVec.smod 64).toNat = 8 * k := by
    revert k
    decide
  have hU : ((fd_s (k + 1)).toInt64.toUInt64 &&& Int64.toUInt64 63).toNat % 64 = 8 * k := by
    revert k
    decide
  unfold fd_c
  apply Int32.toBitVec_inj.mp
  have e1 : (x >>> ((fd_s (k + 1)).toInt64 &&& 63)).toBitVec = x.toBitVec.sshiftRight (8 * k) := by
    rw [← hD]
    rfl
  have e2 : (x.toUInt64 >>> ((fd_s (k + 1)).toInt64.toUInt64 &&& Int64.toUInt64 63)).toInt64.toBitVec = x.toBitVec >>> (8 * k) := by
    apply BitVec.eq_of_toNat_eq
    show (x.toUInt64 >>> ((fd_s (k + 1)).toInt64.toUInt64 &&& Int64.toUInt64 63)).toNat = _
    rw [UInt64.toNat_shiftRight, hU, BitVec.toNat_ushiftRight]
    rfl
  rw [Int32.toBitVec_and]
  show (x >>> ((fd_s (k + 1)).toInt64 &&& 63)).toBitVec.signExtend 32 &&& (Int16.ofInt 255).toInt32.toBitVec = ((x.toUInt64 >>> ((fd_s (k + 1)).toInt64.toUInt64 &&& Int64.toUInt64 63)).toInt64 &&& 255).toBitVec.signExtend 32
  rw [BitVec.signExtend_eq_setWidth_of_le _ (by decide), BitVec.signExtend_eq_setWidth_of_le _ (by decide), Int64.toBitVec_and, e1, e2, show (Int16.ofInt 255).toInt32.toBitVec = 255#32 by decide]
  exact fd_bv _ _ (by omega)
def fd_L (d lim : Nat) (Q : am_Q) : Nat → am_V → List Value → am_H → Prop := am_X (am_call am_cod d) 5 lim none (am_find am_r178) (fun _ _ _ _ => False) Q
set_option maxHeartbeats 1000000 in
/-- the loop of lay -/
theorem fd_la_loop {d lim : Nat} {Q : am_Q} {x : Int64} {h : am_H} (hsh : am_so h 154 = some (11, 0)) (hsh2 : am_so h 155 = some (13, 1000)) (hr : h.2.2.1 154 1 = some 155) :
    ∀ k, k ≤ 8 → ∀ (s : fd_T), s.1 ≤ 1000 → ∀ lv : am_V, (lv = [(3, .int (fd_s k)), (0, .ref 154), (1, .long x)] ∨ ∃ b : Int32, lv = [(3, .int (fd_s k)), (4, .int b), (0, .ref 154), (1, .long x)]) → Q none (fd_h 154 2 155 h (fd_8 x k s)) → fd_L d lim Q 3 lv [] (fd_h 154 2 155 h s) := by
  intro k
  induction k with
  | zero =>
    intro _ s hs lv hlv hQ
    have e : fd_L d lim Q 75 lv [] (fd_h 154 2 155 h s) := am_goX 1 (show none = none ∧ Q none (fd_h 154 2 155 h s) from ⟨rfl, hQ⟩)
    have q : (fd_s 0 < 0 → fd_L d lim Q 75 lv [] (fd_h 154 2 155 h s)) ∧ (¬ fd_s 0 < 0 → fd_L d lim Q 7 lv [] (fd_h 154 2 155 h s)) := ⟨fun _ => e, fun z => absurd (by decide) z⟩
    rcases hlv with rfl | ⟨b, rfl⟩ <;> exact am_goX 2 q
  | succ k ih =>
    intro hk s hs lv hlv hQ
    have hneg := fd_s_neg k (by omega)
    have hQ1 : Q none (fd_h 154 2 155 h (fd_8 x k (fd_1 (fd_c x (fd_s (k + 1))) s))) := hQ
    have hcl := fd_cl x k (by omega)
    generalize hc : fd_c x (fd_s (k + 1)) = c at hQ1 hcl
    have tail : ∀ (s' : fd_T), s'.1 ≤ 1000 → Q none (fd_h 154 2 155 h (fd_8 x k s')) → fd_L d lim Q 69 [(4, .int c), (3, .int (fd_s (k + 1))), (0, .ref 154), (1, .long x)] [] (fd_h 154 2 155 h s') := fun s' hs' hQ' =>
      am_goX 2 (show 3 < 5 ∧ fd_L d lim Q 3 [(3, .int (fd_s (k + 1) + Int32.ofInt (-8))), (4, .int c), (0, .ref 154), (1, .long x)] [] (fd_h 154 2 155 h s') from ⟨by decide, by rw [fd_s_dec k (by omega)]; exact ih (by omega) s' hs' _ (Or.inr ⟨c, rfl⟩) hQ'⟩)
    have no : fd_f c = false → fd_L d lim Q 69 [(4, .int c), (3, .int (fd_s (k + 1))), (0, .ref 154), (1, .long x)] [] (fd_h 154 2 155 h s) := fun hf => tail s hs (by rw [fd_1_n (Or.inl hf)] at hQ1; exact hQ1)
    have yes : fd_f c = true → fd_L d lim Q 38 [(4, .int c), (3, .int (fd_s (k + 1))), (0, .ref 154), (1, .long x)] [] (fd_h 154 2 155 h s) := by
      intro hf
      refine am_goX 4 (show am_sh (fd_h 154 2 155 h s) 154 = some (11, 0) ∧ ((Int16.ofInt 1000).toInt32 ≤ (fd_h 154 2 155 h s).1 154 2 → fd_L d lim Q 69 [(4, .int c), (3, .int (fd_s (k + 1))), (0, .ref 154), (1, .long x)] [] (fd_h 154 2 155 h s)) ∧ (¬ (Int16.ofInt 1000).toInt32 ≤ (fd_h 154 2 155 h s).1 154 2 → fd_L d lim Q 48 [(4, .int c), (3, .int (fd_s (k + 1))), (0, .ref 154), (1, .long x)] [] (fd_h 154 2 155 h s)) from ⟨hsh, fun z => ?_, fun z => ?_⟩)
      · rw [fd_1000, fd_h_n, nI_leI (by decide) (by omega)] at z
        exact tail s hs (by rw [fd_1_n (Or.inr (by omega))] at hQ1; exact hQ1)
      · rw [fd_1000, fd_h_n, nI_leI (by decide) (by omega)] at z
        have hlt : s.1 < 1000 := by omega
        rw [fd_1_y hf hlt] at hQ1
        refine am_goX 2 (show am_sh (fd_h 154 2 155 h s) 154 = some (11, 0) ∧ fd_L d lim Q 52 [(4, .int c), (3, .int (fd_s (k + 1))), (0, .ref 154), (1, .long x)] [am_rf (h.2.2.1 154 1)] (fd_h 154 2 155 h s) from ⟨hsh, ?_⟩)
        rw [hr]
        refine am_goX 4 (show am_sh (fd_h 154 2 155 h s) 154 = some (11, 0) ∧ ∃ j n : Nat, am_so (fd_h 154 2 155 h s) 155 = some (13, n) ∧ j < n ∧ (fd_h 154 2 155 h s).1 154 2 = nI j ∧ fd_L d lim Q 59 [(4, .int c), (3, .int (fd_s (k + 1))), (0, .ref 154), (1, .long x)] [] (am_wI (fd_h 154 2 155 h s) 155 j c) from ⟨hsh, s.1, 1000, hsh2, hlt, fd_h_n, ?_⟩)
        refine am_goX 6 (show (Value.ref 154).category = 1 ∧ am_sh (am_wI (fd_h 154 2 155 h s) 155 s.1 c) 154 = some (11, 0) ∧ am_sh (am_wI (fd_h 154 2 155 h s) 155 s.1 c) 154 = some (11, 0) ∧ narrow (am_fty 11 2) (.int ((am_wI (fd_h 154 2 155 h s) 155 s.1 c).1 154 2 + Int32.ofInt 1)) = .int ((am_wI (fd_h 154 2 155 h s) 155 s.1 c).1 154 2 + Int32.ofInt 1) ∧ fits (am_fty 11 2) (.int ((am_wI (fd_h 154 2 155 h s) 155 s.1 c).1 154 2 + Int32.ofInt 1)) = true ∧ fd_L d lim Q 69 [(4, .int c), (3, .int (fd_s (k + 1))), (0, .ref 154), (1, .long x)] [] (am_wI (am_wI (fd_h 154 2 155 h s) 155 s.1 c) 154 2 ((am_wI (fd_h 154 2 155 h s) 155 s.1 c).1 154 2 + Int32.ofInt 1)) from ⟨rfl, hsh, hsh, rfl, rfl, ?_⟩)
        have e1 : (am_wI (fd_h 154 2 155 h s) 155 s.1 c).1 154 2 + Int32.ofInt 1 = nI s.1 + 1 := by
          show (if 154 = 155 ∧ 2 = s.1 then c else (fd_h 154 2 155 h s).1 154 2) + Int32.ofInt 1 = _
          rw [if_neg (fun z => absurd z.1 (by decide)), fd_h_n]
          rfl
        rw [e1, fd_h_put (by decide)]
        exact tail _ hlt hQ1
    have g31 : ¬ c = 10 → ¬ c < 32 → fd_L d lim Q 31 [(4, .int c), (3, .int (fd_s (k + 1))), (0, .ref 154), (1, .long x)] [] (fd_h 154 2 155 h s) := by
      intro h1 h2
      refine am_goX 3 (show ((Int8.ofInt 126).toInt32 < c → fd_L d lim Q 69 [(4, .int c), (3, .int (fd_s (k + 1))), (0, .ref 154), (1, .long x)] [] (fd_h 154 2 155 h s)) ∧ (¬ (Int8.ofInt 126).toInt32 < c → fd_L d lim Q 38 [(4, .int c), (3, .int (fd_s (k + 1))), (0, .ref 154), (1, .long x)] [] (fd_h 154 2 155 h s)) from ?_)
      rw [fd_126]
      exact ⟨fun z => no (fd_f_n2 h1 z), fun z => yes (fd_f_y2 h2 z)⟩
    have g24 : ¬ c = 10 → fd_L d lim Q 24 [(4, .int c), (3, .int (fd_s (k + 1))), (0, .ref 154), (1, .long x)] [] (fd_h 154 2 155 h s) := by
      intro h1
      refine am_goX 3 (show (c < (Int8.ofInt 32).toInt32 → fd_L d lim Q 69 [(4, .int c), (3, .int (fd_s (k + 1))), (0, .ref 154), (1, .long x)] [] (fd_h 154 2 155 h s)) ∧ (¬ c < (Int8.ofInt 32).toInt32 → fd_L d lim Q 31 [(4, .int c), (3, .int (fd_s (k + 1))), (0, .ref 154), (1, .long x)] [] (fd_h 154 2 155 h s)) from ?_)
      rw [fd_32]
      exact ⟨fun z => no (fd_f_n1 h1 z), fun z => g31 h1 z⟩
    have mid : fd_L d lim Q 17 [(4, .int c), (3, .int (fd_s (k + 1))), (0, .ref 154), (1, .long x)] [] (fd_h 154 2 155 h s) := by
      refine am_goX 3 (show (c = (Int8.ofInt 10).toInt32 → fd_L d lim Q 38 [(4, .int c), (3, .int (fd_s (k + 1))), (0, .ref 154), (1, .long x)] [] (fd_h 154 2 155 h s)) ∧ (¬ c = (Int8.ofInt 10).toInt32 → fd_L d lim Q 24 [(4, .int c), (3, .int (fd_s (k + 1))), (0, .ref 154), (1, .long x)] [] (fd_h 154 2 155 h s)) from ?_)
      rw [fd_10]
      exact ⟨fun z => yes (fd_f_y1 z), fun z => g24 z⟩
    have q7 : fd_L d lim Q 7 lv [] (fd_h 154 2 155 h s) := by
      rcases hlv with rfl | ⟨b, rfl⟩
      all_goals
        refine am_goX 7 (show 4 < 5 ∧ fd_L d lim Q 17 [(4, .int ((x >>> ((fd_s (k + 1)).toInt64 &&& 63)).toInt32 &&& (Int16.ofInt 255).toInt32)), (3, .int (fd_s (k + 1))), (0, .ref 154), (1, .long x)] [] (fd_h 154 2 155 h s) from ⟨by decide, ?_⟩)
        rw [hcl]
        exact mid
    have q : (fd_s (k + 1) < 0 → fd_L d lim Q 75 lv [] (fd_h 154 2 155 h s)) ∧ (¬ fd_s (k + 1) < 0 → fd_L d lim Q 7 lv [] (fd_h 154 2 155 h s)) := ⟨fun z => absurd z hneg, fun _ => q7⟩
    clear q7
    rcases hlv with rfl | ⟨b, rfl⟩ <;> exact am_goX 2 q
theorem fd_cod178 : am_cod 178 = am_find am_r178 := by
  funext pc
  rfl
theorem fd_lay {d : Nat} {Q : am_Q} {x : Int64} {h : am_H} {s : fd_T} (hsh : am_so h 154 = some (11, 0)) (hsh2 : am_so h 155 = some (13, 1000)) (hr : h.2.2.1 154 1 = some 155) (hs : s.1 ≤ 1000) (hQ : Q none (fd_h 154 2 155 h (fd_8 x 8 s))) : am_call am_cod (d + 1) 178 [.ref 154, .long x] (fd_h 154 2 155 h s) Q := by
  refine Or.inr ⟨show 3 ≤ am_nL 178 by decide +kernel, ?_⟩
  rw [fd_cod178]
  refine am_goX 2 (show 3 < 5 ∧ fd_L d (h.2.2.2.2 + am_al 178) (fun v h' => h'.2.2.2.2 = h.2.2.2.2 + am_al 178 ∧ Q v h') 3 [(3, .int (Int8.ofInt 56).toInt32), (0, .ref 154), (1, .long x)] [] (fd_h 154 2 155 h s) from ⟨by decide, ?_⟩)
  rw [show (Int8.ofInt 56).toInt32 = fd_s 8 by decide]
  exact fd_la_loop hsh hsh2 hr 8 (Nat.le_refl _) s hs _ (Or.inl rfl) ⟨rfl, hQ⟩
/-- three times eight -/
def fd_3 (a b c : Int64) (s : fd_T) : fd_T := fd_8 c 8 (fd_8 b 8 (fd_8 a 8 s))
theorem fd_3_fst {a b c : Int64} {s t : fd_T} (h : s.1 = t.1) : (fd_3 a b c s).1 = (fd_3 a b c t).1 := fd_8_fst 8 (fd_8_fst 8 (fd_8_fst 8 h))
theorem fd_cod12 : am_cod 12 = am_find am_r12 := by
  funext pc
  rfl
theorem fd_cod177 : am_cod 177 = am_find am_r177 := by
  funext pc
  rfl
def fd_C (d lim : Nat) (Q : am_Q) : Nat → am_V → List Value → am_H → Prop := am_X (am_call am_cod d) 7 lim (some .int) (am_find am_r12) (fun _ _ _ _ => False) Q
def fd_M (d lim : Nat) (Q : am_Q) : Nat → am_V → List Value → am_H → Prop := am_X (am_call am_cod d) 7 lim (some .int) (am_find am_r177) (fun _ _ _ _ => False) Q
set_option maxHeartbeats 1000000 in
theorem fd_feedC {d t : Nat} {Q : am_Q} {a b c : Int64} {h : am_H} (h0 : am_so h 0 = some (10, 0)) (h1 : am_so h 1 = some (7, 0)) (h2 : am_so h 2 = some (12, 1000)) (r0 : h.2.2.1 0 0 = some 1) (r1 : h.2.2.1 1 0 = some 2) (ht : h.1 1 1 = nI t) (hl : t ≤ 1000) (hQ : Q (some (.int (nI (fd_3 a b c (t, h.1 2)).1))) (fd_h 1 1 2 h (fd_3 a b c (t, h.1 2)))) : am_call am_cod (d + 2) 12 [.ref 0, .long a, .long b, .long c] h Q := by
  refine Or.inr ⟨show 7 ≤ am_nL 12 by decide +kernel, ?_⟩
  rw [fd_cod12]
  have l1 : (t, h.1 2).1 ≤ 1000 := hl
  have l2 : (fd_8 a 8 (t, h.1 2)).1 ≤ 1000 := fd_8_le l1
  have l3 : (fd_8 b 8 (fd_8 a 8 (t, h.1 2))).1 ≤ 1000 := fd_8_le l2
  have hself : fd_h 1 1 2 h (t, h.1 2) = h := fd_h_self (by decide) ht
  have f25 : fd_C (d + 1) (h.2.2.2.2 + am_al 12) (fun v h' => h'.2.2.2.2 = h.2.2.2.2 + am_al 12 ∧ Q v h') 25 [(0, .ref 0), (1, .long a), (3, .long b), (5, .long c)] [] (fd_h 1 1 2 h (fd_3 a b c (t, h.1 2))) := by
    refine am_goX 2 (show am_sh (fd_h 1 1 2 h (fd_3 a b c (t, h.1 2))) 0 = some (10, 0) ∧ fd_C (d + 1) (h.2.2.2.2 + am_al 12) (fun v h' => h'.2.2.2.2 = h.2.2.2.2 + am_al 12 ∧ Q v h') 29 [(0, .ref 0), (1, .long a), (3, .long b), (5, .long c)] [am_rf (h.2.2.1 0 0)] (fd_h 1 1 2 h (fd_3 a b c (t, h.1 2))) from ⟨h0, ?_⟩)
    rw [r0]
    refine am_goX 2 (show am_sh (fd_h 1 1 2 h (fd_3 a b c (t, h.1 2))) 1 = some (7, 0) ∧ ((∃ ty, some FieldType.int = some ty ∧ narrow ty (.int ((fd_h 1 1 2 h (fd_3 a b c (t, h.1 2))).1 1 1)) = .int ((fd_h 1 1 2 h (fd_3 a b c (t, h.1 2))).1 1 1)) ∧ (fd_h 1 1 2 h (fd_3 a b c (t, h.1 2))).2.2.2.2 = h.2.2.2.2 + am_al 12 ∧ Q (some (.int ((fd_h 1 1 2 h (fd_3 a b c (t, h.1 2))).1 1 1))) (fd_h 1 1 2 h (fd_3 a b c (t, h.1 2)))) from ⟨h1, ⟨.int, rfl, rfl⟩, rfl, ?_⟩)
    rw [fd_h_n]
    exact hQ
  have f16 : fd_C (d + 1) (h.2.2.2.2 + am_al 12) (fun v h' => h'.2.2.2.2 = h.2.2.2.2 + am_al 12 ∧ Q v h') 16 [(0, .ref 0), (1, .long a), (3, .long b), (5, .long c)] [] (fd_h 1 1 2 h (fd_8 b 8 (fd_8 a 8 (t, h.1 2)))) := by
    refine am_goX 2 (show am_sh (fd_h 1 1 2 h (fd_8 b 8 (fd_8 a 8 (t, h.1 2)))) 0 = some (10, 0) ∧ fd_C (d + 1) (h.2.2.2.2 + am_al 12) (fun v h' => h'.2.2.2.2 = h.2.2.2.2 + am_al 12 ∧ Q v h') 20 [(0, .ref 0), (1, .long a), (3, .long b), (5, .long c)] [am_rf (h.2.2.1 0 0)] (fd_h 1 1 2 h (fd_8 b 8 (fd_8 a 8 (t, h.1 2)))) from ⟨h0, ?_⟩)
    rw [r0]
    exact am_goX 2 (show am_rc (fd_h 1 1 2 h (fd_8 b 8 (fd_8 a 8 (t, h.1 2)))) 1 7 ∧ 0 ≤ 8 ∧ h.2.2.2.2 + am_al 13 ≤ h.2.2.2.2 + am_al 12 ∧ am_call am_cod (d + 1) 13 [.ref 1, .long c] (fd_h 1 1 2 h (fd_8 b 8 (fd_8 a 8 (t, h.1 2)))) (fun v h' => fd_C (d + 1) (h.2.2.2.2 + am_al 12) (fun v h' => h'.2.2.2.2 = h.2.2.2.2 + am_al 12 ∧ Q v h') 25 [(0, .ref 0), (1, .long a), (3, .long b), (5, .long c)] (v.toList ++ []) h') from ⟨Or.inl ⟨by decide, h1⟩, Nat.zero_le _, Nat.le_refl _, fd_append h1 h2 r1 l3 f25⟩)
  have f8 : fd_C (d + 1) (h.2.2.2.2 + am_al 12) (fun v h' => h'.2.2.2.2 = h.2.2.2.2 + am_al 12 ∧ Q v h') 8 [(0, .ref 0), (1, .long a), (3, .long b), (5, .long c)] [] (fd_h 1 1 2 h (fd_8 a 8 (t, h.1 2))) := by
    refine am_goX 2 (show am_sh (fd_h 1 1 2 h (fd_8 a 8 (t, h.1 2))) 0 = some (10, 0) ∧ fd_C (d + 1) (h.2.2.2.2 + am_al 12) (fun v h' => h'.2.2.2.2 = h.2.2.2.2 + am_al 12 ∧ Q v h') 12 [(0, .ref 0), (1, .long a), (3, .long b), (5, .long c)] [am_rf (h.2.2.1 0 0)] (fd_h 1 1 2 h (fd_8 a 8 (t, h.1 2))) from ⟨h0, ?_⟩)
    rw [r0]
    exact am_goX 2 (show am_rc (fd_h 1 1 2 h (fd_8 a 8 (t, h.1 2))) 1 7 ∧ 0 ≤ 8 ∧ h.2.2.2.2 + am_al 13 ≤ h.2.2.2.2 + am_al 12 ∧ am_call am_cod (d + 1) 13 [.ref 1, .long b] (fd_h 1 1 2 h (fd_8 a 8 (t, h.1 2))) (fun v h' => fd_C (d + 1) (h.2.2.2.2 + am_al 12) (fun v h' => h'.2.2.2.2 = h.2.2.2.2 + am_al 12 ∧ Q v h') 16 [(0, .ref 0), (1, .long a), (3, .long b), (5, .long c)] (v.toList ++ []) h') from ⟨Or.inl ⟨by decide, h1⟩, Nat.zero_le _, Nat.le_refl _, fd_append h1 h2 r1 l2 f16⟩)
  have f0 : fd_C (d + 1) (h.2.2.2.2 + am_al 12) (fun v h' => h'.2.2.2.2 = h.2.2.2.2 + am_al 12 ∧ Q v h') 0 [(0, .ref 0), (1, .long a), (3, .long b), (5, .long c)] [] (fd_h 1 1 2 h (t, h.1 2)) := by
    refine am_goX 2 (show am_sh (fd_h 1 1 2 h (t, h.1 2)) 0 = some (10, 0) ∧ fd_C (d + 1) (h.2.2.2.2 + am_al 12) (fun v h' => h'.2.2.2.2 = h.2.2.2.2 + am_al 12 ∧ Q v h') 4 [(0, .ref 0), (1, .long a), (3, .long b), (5, .long c)] [am_rf (h.2.2.1 0 0)] (fd_h 1 1 2 h (t, h.1 2)) from ⟨h0, ?_⟩)
    rw [r0]
    exact am_goX 2 (show am_rc (fd_h 1 1 2 h (t, h.1 2)) 1 7 ∧ 0 ≤ 8 ∧ h.2.2.2.2 + am_al 13 ≤ h.2.2.2.2 + am_al 12 ∧ am_call am_cod (d + 1) 13 [.ref 1, .long a] (fd_h 1 1 2 h (t, h.1 2)) (fun v h' => fd_C (d + 1) (h.2.2.2.2 + am_al 12) (fun v h' => h'.2.2.2.2 = h.2.2.2.2 + am_al 12 ∧ Q v h') 8 [(0, .ref 0), (1, .long a), (3, .long b), (5, .long c)] (v.toList ++ []) h') from ⟨Or.inl ⟨by decide, h1⟩, Nat.zero_le _, Nat.le_refl _, fd_append h1 h2 r1 l1 f8⟩)
  rw [hself] at f0
  exact f0
set_option maxHeartbeats 1000000 in
theorem fd_feedM {d t : Nat} {Q : am_Q} {a b c : Int64} {h : am_H} (h1 : am_so h 154 = some (11, 0)) (h2 : am_so h 155 = some (13, 1000)) (r1 : h.2.2.1 154 1 = some 155) (ht : h.1 154 2 = nI t) (hl : t ≤ 1000) (hQ : Q (some (.int (nI (fd_3 a b c (t, h.1 155)).1))) (fd_h 154 2 155 (am_wI h 154 0 0) (fd_3 a b c (t, h.1 155)))) : am_call am_cod (d + 2) 177 [.ref 154, .long a, .long b, .long c] h Q := by
  refine Or.inr ⟨show 7 ≤ am_nL 177 by decide +kernel, ?_⟩
  rw [fd_cod177]
  have l1 : (t, h.1 155).1 ≤ 1000 := hl
  have l2 : (fd_8 a 8 (t, h.1 155)).1 ≤ 1000 := fd_8_le l1
  have l3 : (fd_8 b 8 (fd_8 a 8 (t, h.1 155))).1 ≤ 1000 := fd_8_le l2
  have e155 : (am_wI h 154 0 0).1 155 = h.1 155 := by
    funext q
    show (if 155 = 154 ∧ q = 0 then 0 else h.1 155 q) = _
    rw [if_neg (fun z => absurd z.1 (by decide))]
  have hself : fd_h 154 2 155 (am_wI h 154 0 0) (t, h.1 155) = am_wI h 154 0 0 := by
    rw [← e155]
    refine fd_h_self (by decide) ?_
    show (if 154 = 154 ∧ 2 = 0 then 0 else h.1 154 2) = _
    rw [if_neg (fun z => absurd z.2 (by decide))]
    exact ht
  have f21 : fd_M (d + 1) (h.2.2.2.2 + am_al 177) (fun v h' => h'.2.2.2.2 = h.2.2.2.2 + am_al 177 ∧ Q v h') 21 [(0, .ref 154), (1, .long a), (3, .long b), (5, .long c)] [] (fd_h 154 2 155 (am_wI h 154 0 0) (fd_3 a b c (t, h.1 155))) := by
    refine am_goX 3 (show am_sh (fd_h 154 2 155 (am_wI h 154 0 0) (fd_3 a b c (t, h.1 155))) 154 = some (11, 0) ∧ ((∃ ty, some FieldType.int = some ty ∧ narrow ty (.int ((fd_h 154 2 155 (am_wI h 154 0 0) (fd_3 a b c (t, h.1 155))).1 154 2)) = .int ((fd_h 154 2 155 (am_wI h 154 0 0) (fd_3 a b c (t, h.1 155))).1 154 2)) ∧ (fd_h 154 2 155 (am_wI h 154 0 0) (fd_3 a b c (t, h.1 155))).2.2.2.2 = h.2.2.2.2 + am_al 177 ∧ Q (some (.int ((fd_h 154 2 155 (am_wI h 154 0 0) (fd_3 a b c (t, h.1 155))).1 154 2))) (fd_h 154 2 155 (am_wI h 154 0 0) (fd_3 a b c (t, h.1 155)))) from ⟨h1, ⟨.int, rfl, rfl⟩, rfl, ?_⟩)
    rw [fd_h_n]
    exact hQ
  have f15 : fd_M (d + 1) (h.2.2.2.2 + am_al 177) (fun v h' => h'.2.2.2.2 = h.2.2.2.2 + am_al 177 ∧ Q v h') 15 [(0, .ref 154), (1, .long a), (3, .long b), (5, .long c)] [] (fd_h 154 2 155 (am_wI h 154 0 0) (fd_8 b 8 (fd_8 a 8 (t, h.1 155)))) :=
    am_goX 3 (show am_rc (fd_h 154 2 155 (am_wI h 154 0 0) (fd_8 b 8 (fd_8 a 8 (t, h.1 155)))) 154 11 ∧ 0 ≤ 8 ∧ h.2.2.2.2 + am_al 178 ≤ h.2.2.2.2 + am_al 177 ∧ am_call am_cod (d + 1) 178 [.ref 154, .long c] (fd_h 154 2 155 (am_wI h 154 0 0) (fd_8 b 8 (fd_8 a 8 (t, h.1 155)))) (fun v h' => fd_M (d + 1) (h.2.2.2.2 + am_al 177) (fun v h' => h'.2.2.2.2 = h.2.2.2.2 + am_al 177 ∧ Q v h') 21 [(0, .ref 154), (1, .long a), (3, .long b), (5, .long c)] (v.toList ++ []) h') from ⟨Or.inl ⟨by decide, h1⟩, Nat.zero_le _, Nat.le_refl _, fd_lay (h := am_wI h 154 0 0) h1 h2 r1 l3 f21⟩)
  have f10 : fd_M (d + 1) (h.2.2.2.2 + am_al 177) (fun v h' => h'.2.2.2.2 = h.2.2.2.2 + am_al 177 ∧ Q v h') 10 [(0, .ref 154), (1, .long a), (3, .long b), (5, .long c)] [] (fd_h 154 2 155 (am_wI h 154 0 0) (fd_8 a 8 (t, h.1 155))) :=
    am_goX 3 (show am_rc (fd_h 154 2 155 (am_wI h 154 0 0) (fd_8 a 8 (t, h.1 155))) 154 11 ∧ 0 ≤ 8 ∧ h.2.2.2.2 + am_al 178 ≤ h.2.2.2.2 + am_al 177 ∧ am_call am_cod (d + 1) 178 [.ref 154, .long b] (fd_h 154 2 155 (am_wI h 154 0 0) (fd_8 a 8 (t, h.1 155))) (fun v h' => fd_M (d + 1) (h.2.2.2.2 + am_al 177) (fun v h' => h'.2.2.2.2 = h.2.2.2.2 + am_al 177 ∧ Q v h') 15 [(0, .ref 154), (1, .long a), (3, .long b), (5, .long c)] (v.toList ++ []) h') from ⟨Or.inl ⟨by decide, h1⟩, Nat.zero_le _, Nat.le_refl _, fd_lay (h := am_wI h 154 0 0) h1 h2 r1 l2 f15⟩)
  have f5 : fd_M (d + 1) (h.2.2.2.2 + am_al 177) (fun v h' => h'.2.2.2.2 = h.2.2.2.2 + am_al 177 ∧ Q v h') 5 [(0, .ref 154), (1, .long a), (3, .long b), (5, .long c)] [] (fd_h 154 2 155 (am_wI h 154 0 0) (t, h.1 155)) :=
    am_goX 3 (show am_rc (fd_h 154 2 155 (am_wI h 154 0 0) (t, h.1 155)) 154 11 ∧ 0 ≤ 8 ∧ h.2.2.2.2 + am_al 178 ≤ h.2.2.2.2 + am_al 177 ∧ am_call am_cod (d + 1) 178 [.ref 154, .long a] (fd_h 154 2 155 (am_wI h 154 0 0) (t, h.1 155)) (fun v h' => fd_M (d + 1) (h.2.2.2.2 + am_al 177) (fun v h' => h'.2.2.2.2 = h.2.2.2.2 + am_al 177 ∧ Q v h') 10 [(0, .ref 154), (1, .long a), (3, .long b), (5, .long c)] (v.toList ++ []) h') from ⟨Or.inl ⟨by decide, h1⟩, Nat.zero_le _, Nat.le_refl _, fd_lay (h := am_wI h 154 0 0) h1 h2 r1 l1 f10⟩)
  rw [hself] at f5
  exact am_goX 3 (show am_sh h 154 = some (11, 0) ∧ narrow (am_fty 11 0) (.int (Int32.ofInt 0)) = .int (Int32.ofInt 0) ∧ fits (am_fty 11 0) (.int (Int32.ofInt 0)) = true ∧ fd_M (d + 1) (h.2.2.2.2 + am_al 177) (fun v h' => h'.2.2.2.2 = h.2.2.2.2 + am_al 177 ∧ Q v h') 5 [(0, .ref 154), (1, .long a), (3, .long b), (5, .long c)] [] (am_wI h 154 0 (Int32.ofInt 0)) from ⟨h1, rfl, rfl, f5⟩)

/-! what holds between calls holds behind feed -/
def fd_ok (s : fd_T) : Prop := s.1 ≤ 1000 ∧ ∀ k, k < 1000 → 0 ≤ (s.2 k).toInt ∧ (s.2 k).toInt ≤ 65535
theorem fd_1_ok {x : Int64} {q : Int32} {s : fd_T} (hs : fd_ok s) : fd_ok (fd_1 (fd_c x q) s) := by
  refine ⟨fd_1_le hs.1, ?_⟩
  obtain ⟨n, hn, e⟩ := fd_c_lt x q
  by_cases h1 : fd_f (fd_c x q) = true
  · by_cases h2 : s.1 < 1000
    · rw [fd_1_y h1 h2]
      intro k hk
      show 0 ≤ (upd s.2 s.1 (fd_c x q) k).toInt ∧ (upd s.2 s.1 (fd_c x q) k).toInt ≤ 65535
      unfold upd
      split
      · rw [e, nI_toInt (by omega)]
        omega
      · exact hs.2 k hk
    · rw [fd_1_n (Or.inr h2)]
      exact hs.2
  · rw [fd_1_n (Or.inl (by cases hq : fd_f (fd_c x q) with
      | true => exact absurd hq h1
      | false => rfl))]
    exact hs.2
theorem fd_8_ok {x : Int64} : ∀ {k : Nat} {s : fd_T}, fd_ok s → fd_ok (fd_8 x k s)
  | 0, _, h => h
  | k + 1, s, h => fd_8_ok (k := k) (fd_1_ok h)
theorem fd_3_ok {a b c : Int64} {s : fd_T} (h : fd_ok s) : fd_ok (fd_3 a b c s) := fd_8_ok (fd_8_ok (fd_8_ok h))
theorem fd_sg1 : (ag_sg 1).all (fun s => !(Nat.ble s.1 1 && Nat.ble 1 s.2.1) || (decide (s.2.2.2.2.1 ≤ 0) && decide (1000 ≤ s.2.2.2.2.2))) = true := by decide +kernel
theorem fd_sg2 : (ag_sg 2).all (fun s => Nat.ble s.2.1 999 && (decide (s.2.2.2.2.1 ≤ 0) && decide (65535 ≤ s.2.2.2.2.2))) = true := by decide +kernel
theorem fd_s2 {s : fd_T} (hs : ∀ k, k < 1000 → 0 ≤ (s.2 k).toInt ∧ (s.2 k).toInt ≤ 65535) : ∀ k, ∀ q ∈ ag_sg 2, ag_seg q k (s.2 k) := by
  intro k q hq k1 k2 _
  have w := List.all_eq_true.mp fd_sg2 q hq
  rw [Bool.and_eq_true, Bool.and_eq_true, decide_eq_true_eq, decide_eq_true_eq] at w
  have w1 := Nat.le_of_ble_eq_true w.1
  have := hs k (by omega)
  omega
theorem fd_sg155 : ag_sg 155 = [] := by decide +kernel
theorem fd_G {o a b : Nat} {h : am_H} {s : fd_T} (hG : ag_G ag_DD h) (h1 : ∀ q ∈ ag_sg o, ag_seg q a (nI s.1)) (h2 : ∀ k, ∀ q ∈ ag_sg b, ag_seg q k (s.2 k)) : ag_G ag_DD (fd_h o a b h s) := by
  refine ⟨fun o' q hq k => ?_, hG.2.1, hG.2.2⟩
  show ag_seg q k (if o' = o ∧ k = a then nI s.1 else if o' = b then s.2 k else h.1 o' k)
  split
  · rename_i w
    rw [w.1] at hq
    rw [w.2]
    exact h1 q hq
  · split
    · rename_i w
      rw [w] at hq
      exact h2 k q hq
    · exact hG.1 o' q hq k
theorem fd_iv {o a b : Nat} {h : am_H} {s : fd_T} (hI : iv_I h) (hob : ¬ o = 156 ∧ ¬ b = 156 ∧ ¬ o = 160 ∧ ¬ b = 160 ∧ ¬ o = 161 ∧ ¬ b = 161 ∧ ¬ o = 162 ∧ ¬ b = 162) (h7 : ¬ (o = 154 ∧ a = 7)) (hb : ¬ b = 154) (h1 : ∀ q ∈ ag_sg o, ag_seg q a (nI s.1)) (h2 : ∀ k, ∀ q ∈ ag_sg b, ag_seg q k (s.2 k)) : iv_I (fd_h o a b h s) := by
  obtain ⟨N, hN, hW, hX, ha, hc⟩ := hI
  have e : ∀ p q, ¬ (p = o ∧ q = a) → ¬ p = b → (fd_h o a b h s).1 p q = h.1 p q := fun p q w1 w2 => by
    show (if p = o ∧ q = a then nI s.1 else if p = b then s.2 q else h.1 p q) = h.1 p q
    rw [if_neg w1, if_neg w2]
  refine ⟨N, hN, ⟨hW.1, fd_G hW.2.1 h1 h2, hW.2.2.1, ?_⟩, xw_Xk h _ (fun p q hk => e p q ?_ ?_) hX, ?_, hc⟩
  · rw [e 156 _ (by omega) (by omega)]
    exact hW.2.2.2
  · unfold ag_kp at hk
    omega
  · unfold ag_kp at hk
    omega
  · rw [e 154 7 (by omega) (by omega)]
    exact ha
theorem fd_t {h : am_H} (hI : iv_I h) : ∃ t : Nat, h.1 154 2 = nI t ∧ t ≤ 1000 := by
  obtain ⟨N, hN, hW, -⟩ := hI
  have ht : 0 ≤ (h.1 154 2).toInt ∧ (h.1 154 2).toInt ≤ 1000 := hW.2.1.1 154 (2, 2, 1, 0, 0, 1000) (iv_sgm (o := 154) (s := (2, 2, 1, 0, 0, 1000)) (by decide +kernel)) 2 (by decide) (by decide) (by decide)
  refine ⟨(h.1 154 2).toInt.toNat, Int32.toInt_inj.mp ?_, by omega⟩
  rw [nI_toInt (by omega)]
  omega
theorem fd_w {h : am_H} (hI : iv_I h) {v : Int32} : iv_I (am_wI h 154 0 v) := by
  obtain ⟨N, hN, hW, hX, ha, hc⟩ := hI
  refine ⟨N, hN, pz_wW hW (by decide) pz_s0, pz_wX hX (by unfold ag_kp; omega), ?_, hc⟩
  rw [em_wn h _ (by omega)]
  exact ha
