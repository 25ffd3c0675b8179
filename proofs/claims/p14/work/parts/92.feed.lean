section
/-! feed, EXACTLY -/
def fd_c (x : Int64) (s : Int32) : Int32 := ((x.toUInt64 >>> (s.toInt64.toUInt64 &&& Int64.toUInt64 63)).toInt64 &&& 255).toInt32
def fd_f (c : Int32) : Bool := decide (c = 10) || (!decide (c < 32) && !decide (126 < c))
/-- a tape: how many signs, which -/
abbrev fd_T : Type := Nat × (Nat → Int32)
def fd_1 (c : Int32) (s : fd_T) : fd_T := bif fd_f c && Nat.blt s.1 1000 then (s.1 + 1, upd s.2 s.1 c) else s
theorem fd_1_y {c : Int32} {s : fd_T} (h1 : fd_f c = true) (h2 : s.1 < 1000) : fd_1 c s = (s.1 + 1, upd s.2 s.1 c) := by
  unfold fd_1
  rw [h1, ae_bltd, decide_eq_true h2]
  rfl
theorem fd_1_n {c : Int32} {s : fd_T} (h : fd_f c = false ∨ ¬ s.1 < 1000) : fd_1 c s = s := by
  unfold fd_1
  rcases h with h | h
  · rw [h]
    rfl
  · rw [ae_bltd, decide_eq_false h, Bool.and_false]
    rfl
def fd_s : Nat → Int32
  | 0 => -8
  | k + 1 => nI (8 * k)
/-- the last k of eight -/
def fd_8 (x : Int64) : Nat → fd_T → fd_T
  | 0, s => s
  | k + 1, s => fd_8 x k (fd_1 (fd_c x (fd_s (k + 1))) s)
theorem fd_1_le {c : Int32} {s : fd_T} (h : s.1 ≤ 1000) : (fd_1 c s).1 ≤ 1000 := by
  by_cases h1 : fd_f c = true
  · by_cases h2 : s.1 < 1000
    · rw [fd_1_y h1 h2]
      exact h2
    · rw [fd_1_n (Or.inr h2)]
      exact h
  · rw [fd_1_n (Or.inl (by simpa using h1))]
    exact h
theorem fd_8_le {x : Int64} : ∀ {k : Nat} {s : fd_T}, s.1 ≤ 1000 → (fd_8 x k s).1 ≤ 1000
  | 0, _, h => h
  | k + 1, s, h => fd_8_le (x := x) (k := k) (s := fd_1 (fd_c x (fd_s (k + 1))) s) (fd_1_le h)
theorem fd_s_dec : ∀ k, k < 8 → fd_s (k + 1) + Int32.ofInt (-8) = fd_s k := by decide
theorem fd_s_neg : ∀ k, k < 8 → ¬ fd_s (k + 1) < 0 := by decide
/-- a heap whose tape (object o: number at place a; its signs in object b) is so -/
def fd_h (o a b : Nat) (h : am_H) (s : fd_T) : am_H := (fun p q => if p = o ∧ q = a then nI s.1 else if p = b then s.2 q else h.1 p q, h.2)
theorem fd_h_n {o a b : Nat} {h : am_H} {s : fd_T} : (fd_h o a b h s).1 o a = nI s.1 := by simp [fd_h]
theorem fd_h_put {o a b : Nat} (hob : b ≠ o) {h : am_H} {s : fd_T} {c : Int32} : am_wI (am_wI (fd_h o a b h s) b s.1 c) o a (nI s.1 + 1) = fd_h o a b h (s.1 + 1, upd s.2 s.1 c) := by
  unfold fd_h am_wI
  refine Prod.ext ?_ rfl
  funext p q
  dsimp only
  by_cases h1 : p = o ∧ q = a
  · rw [if_pos h1, if_pos h1, nI_1]
  · simp only [if_neg h1]
    by_cases h2 : p = b
    · subst h2
      by_cases h3 : q = s.1 <;> simp [h3, upd]
    · simp [h2]
theorem fd_c_lt (x : Int64) (s : Int32) : ∃ n, n < 256 ∧ fd_c x s = nI n := by
  unfold fd_c
  generalize (x.toUInt64 >>> (s.toInt64.toUInt64 &&& Int64.toUInt64 63)).toInt64 = y
  refine ⟨y.toBitVec.toNat % 256, Nat.mod_lt _ (by decide), ?_⟩
  have e1 : y &&& 255 = lN (y.toBitVec.toNat % 256) := by
    apply Int64.toBitVec_inj.mp
    apply BitVec.eq_of_toNat_eq
    rw [Int64.toBitVec_and, BitVec.toNat_and]
    show y.toBitVec.toNat &&& 255 = (BitVec.ofNat 64 (y.toBitVec.toNat % 256)).toNat
    rw [BitVec.toNat_ofNat, show (255 : Nat) = 2 ^ 8 - 1 from rfl, Nat.and_two_pow_sub_one_eq_mod]
    rw [Nat.mod_eq_of_lt (Nat.lt_trans (Nat.mod_lt _ (by decide)) (by decide))]
  rw [e1, lN_i]
theorem fd_c_char (x : Int64) (s : Int32) : vp_nar .char ((fd_c x s).toUInt32 % 65536).toInt32 = fd_c x s := by
  rw [pk_vc]
  obtain ⟨n, h1, h2⟩ := fd_c_lt x s
  rw [h2, pk_char, pk_tn (by omega), Nat.mod_eq_of_lt (by omega)]
theorem fd_1_fst {c : Int32} {s t : fd_T} (h : s.1 = t.1) : (fd_1 c s).1 = (fd_1 c t).1 := by
  unfold fd_1
  rw [h]
  cases (fd_f c && Nat.blt t.1 1000)
  · exact h
  · rfl
theorem fd_8_fst {x : Int64} : ∀ (k : Nat) {s t : fd_T}, s.1 = t.1 → (fd_8 x k s).1 = (fd_8 x k t).1
  | 0, _, _, h => h
  | k + 1, _, _, h => fd_8_fst k (fd_1_fst h)
theorem fd_h_self {o a b : Nat} {h : am_H} {t : Nat} (hob : b ≠ o) (ht : h.1 o a = nI t) : fd_h o a b h (t, h.1 b) = h := by
  unfold fd_h
  refine Prod.ext ?_ rfl
  funext p q
  dsimp only
  by_cases h1 : p = o ∧ q = a
  · rw [if_pos h1, h1.1, h1.2, ht]
  · rw [if_neg h1]
    by_cases h2 : p = b
    · rw [if_pos h2, h2]
    · rw [if_neg h2]
theorem fd_10 : (Int8.ofInt 10).toInt32 = 10 := by decide
theorem fd_32 : (Int8.ofInt 32).toInt32 = 32 := by decide
theorem fd_126 : (Int8.ofInt 126).toInt32 = 126 := by decide
theorem fd_1000 : (Int16.ofInt 1000).toInt32 = nI 1000 := by decide
theorem fd_f_y1 {c : Int32} (h : c = 10) : fd_f c = true := by simp [fd_f, h]
theorem fd_f_y2 {c : Int32} (h1 : ¬ c < 32) (h2 : ¬ 126 < c) : fd_f c = true := by simp [fd_f, h1, h2]
theorem fd_f_n1 {c : Int32} (h : ¬ c = 10) (h1 : c < 32) : fd_f c = false := by simp [fd_f, h, h1]
theorem fd_f_n2 {c : Int32} (h : ¬ c = 10) (h1 : 126 < c) : fd_f c = false := by simp [fd_f, h, h1]
def fd_S (d lim : Nat) (Q : am_Q) : Nat → am_V → List Value → am_H → Prop := am_X (am_call am_cod d) 6 lim none (am_find am_r13) (fun _ _ _ _ => False) Q
set_option maxHeartbeats 1000000 in
/-- the loop of append -/
theorem fd_ap_loop {d lim : Nat} {Q : am_Q} {x : Int64} {h : am_H} (hsh : am_so h 1 = some (7, 0)) (hsh2 : am_so h 2 = some (12, 1000)) (hr : h.2.2.1 1 0 = some 2) :
    ∀ k, k ≤ 8 → ∀ (s : fd_T), s.1 ≤ 1000 → ∀ lv : am_V, (lv = [(3, .int (fd_s k)), (0, .ref 1), (1, .long x)] ∨ ∃ a b : Int32, lv = [(3, .int (fd_s k)), (5, .int a), (4, .int b), (0, .ref 1), (1, .long x)]) → Q none (fd_h 1 1 2 h (fd_8 x k s)) → fd_S d lim Q 3 lv [] (fd_h 1 1 2 h s) := by
  intro k
  induction k with
  | zero =>
    intro _ s hs lv hlv hQ
    have e : fd_S d lim Q 88 lv [] (fd_h 1 1 2 h s) := am_goX 1 (show none = none ∧ Q none (fd_h 1 1 2 h s) from ⟨rfl, hQ⟩)
    rcases hlv with rfl | ⟨a, b, rfl⟩
    · exact am_goX 2 (show (fd_s 0 < 0 → fd_S d lim Q 88 [(3, .int (fd_s 0)), (0, .ref 1), (1, .long x)] [] (fd_h 1 1 2 h s)) ∧ (¬ fd_s 0 < 0 → fd_S d lim Q 7 [(3, .int (fd_s 0)), (0, .ref 1), (1, .long x)] [] (fd_h 1 1 2 h s)) from ⟨fun _ => e, fun z => absurd (by decide) z⟩)
    · exact am_goX 2 (show (fd_s 0 < 0 → fd_S d lim Q 88 [(3, .int (fd_s 0)), (5, .int a), (4, .int b), (0, .ref 1), (1, .long x)] [] (fd_h 1 1 2 h s)) ∧ (¬ fd_s 0 < 0 → fd_S d lim Q 7 [(3, .int (fd_s 0)), (5, .int a), (4, .int b), (0, .ref 1), (1, .long x)] [] (fd_h 1 1 2 h s)) from ⟨fun _ => e, fun z => absurd (by decide) z⟩)
  | succ k ih =>
    intro hk s hs lv hlv hQ
    have hneg := fd_s_neg k (by omega)
    have hQ1 : Q none (fd_h 1 1 2 h (fd_8 x k (fd_1 (fd_c x (fd_s (k + 1))) s))) := hQ
    generalize hc : fd_c x (fd_s (k + 1)) = c at hQ1
    have tail : ∀ (v : Int32) (s' : fd_T), s'.1 ≤ 1000 → Q none (fd_h 1 1 2 h (fd_8 x k s')) → fd_S d lim Q 82 [(5, .int v), (4, .int c), (3, .int (fd_s (k + 1))), (0, .ref 1), (1, .long x)] [] (fd_h 1 1 2 h s') := fun v s' hs' hQ' =>
      am_goX 2 (show 3 < 6 ∧ fd_S d lim Q 3 [(3, .int (fd_s (k + 1) + Int32.ofInt (-8))), (5, .int v), (4, .int c), (0, .ref 1), (1, .long x)] [] (fd_h 1 1 2 h s') from ⟨by decide, by rw [fd_s_dec k (by omega)]; exact ih (by omega) s' hs' _ (Or.inr ⟨v, c, rfl⟩) hQ'⟩)
    have no : fd_f c = false → fd_S d lim Q 82 [(5, .int 0), (4, .int c), (3, .int (fd_s (k + 1))), (0, .ref 1), (1, .long x)] [] (fd_h 1 1 2 h s) := fun hf => tail 0 s hs (by rw [fd_1_n (Or.inl hf)] at hQ1; exact hQ1)
    have yes : fd_f c = true → fd_S d lim Q 50 [(5, .int 1), (4, .int c), (3, .int (fd_s (k + 1))), (0, .ref 1), (1, .long x)] [] (fd_h 1 1 2 h s) := by
      intro hf
      refine am_goX 4 (show am_sh (fd_h 1 1 2 h s) 1 = some (7, 0) ∧ ((Int16.ofInt 1000).toInt32 ≤ (fd_h 1 1 2 h s).1 1 1 → fd_S d lim Q 82 [(5, .int 1), (4, .int c), (3, .int (fd_s (k + 1))), (0, .ref 1), (1, .long x)] [] (fd_h 1 1 2 h s)) ∧ (¬ (Int16.ofInt 1000).toInt32 ≤ (fd_h 1 1 2 h s).1 1 1 → fd_S d lim Q 60 [(5, .int 1), (4, .int c), (3, .int (fd_s (k + 1))), (0, .ref 1), (1, .long x)] [] (fd_h 1 1 2 h s)) from ⟨hsh, fun z => ?_, fun z => ?_⟩)
      · rw [fd_1000, fd_h_n, nI_leI (by decide) (by omega)] at z
        exact tail 1 s hs (by rw [fd_1_n (Or.inr (by omega))] at hQ1; exact hQ1)
      · rw [fd_1000, fd_h_n, nI_leI (by decide) (by omega)] at z
        have hlt : s.1 < 1000 := by omega
        rw [fd_1_y hf hlt] at hQ1
        refine am_goX 2 (show am_sh (fd_h 1 1 2 h s) 1 = some (7, 0) ∧ fd_S d lim Q 64 [(5, .int 1), (4, .int c), (3, .int (fd_s (k + 1))), (0, .ref 1), (1, .long x)] [am_rf (h.2.2.1 1 0)] (fd_h 1 1 2 h s) from ⟨hsh, ?_⟩)
        rw [hr]
        refine am_goX 5 (show am_sh (fd_h 1 1 2 h s) 1 = some (7, 0) ∧ ∃ j n : Nat, am_so (fd_h 1 1 2 h s) 2 = some (12, n) ∧ j < n ∧ (fd_h 1 1 2 h s).1 1 1 = nI j ∧ fd_S d lim Q 72 [(5, .int 1), (4, .int c), (3, .int (fd_s (k + 1))), (0, .ref 1), (1, .long x)] [] (am_wI (fd_h 1 1 2 h s) 2 j (vp_nar .char (c.toUInt32 % 65536).toInt32)) from ⟨hsh, s.1, 1000, hsh2, hlt, fd_h_n, ?_⟩)
        rw [← hc, fd_c_char, hc]
        refine am_goX 6 (show (Value.ref 1).category = 1 ∧ am_sh (am_wI (fd_h 1 1 2 h s) 2 s.1 c) 1 = some (7, 0) ∧ am_sh (am_wI (fd_h 1 1 2 h s) 2 s.1 c) 1 = some (7, 0) ∧ narrow (am_fty 7 1) (.int ((am_wI (fd_h 1 1 2 h s) 2 s.1 c).1 1 1 + Int32.ofInt 1)) = .int ((am_wI (fd_h 1 1 2 h s) 2 s.1 c).1 1 1 + Int32.ofInt 1) ∧ fits (am_fty 7 1) (.int ((am_wI (fd_h 1 1 2 h s) 2 s.1 c).1 1 1 + Int32.ofInt 1)) = true ∧ fd_S d lim Q 82 [(5, .int 1), (4, .int c), (3, .int (fd_s (k + 1))), (0, .ref 1), (1, .long x)] [] (am_wI (am_wI (fd_h 1 1 2 h s) 2 s.1 c) 1 1 ((am_wI (fd_h 1 1 2 h s) 2 s.1 c).1 1 1 + Int32.ofInt 1)) from ⟨rfl, hsh, hsh, rfl, rfl, ?_⟩)
        have e1 : (am_wI (fd_h 1 1 2 h s) 2 s.1 c).1 1 1 + Int32.ofInt 1 = nI s.1 + 1 := by
          show (if 1 = 2 ∧ 1 = s.1 then c else (fd_h 1 1 2 h s).1 1 1) + Int32.ofInt 1 = _
          rw [if_neg (fun z => absurd z.1 (by decide)), fd_h_n]
          rfl
        rw [e1, fd_h_put (by decide)]
        exact tail 1 _ hlt hQ1
    have mid : ∀ lv2 : am_V, (lv2 = [(4, .int c), (3, .int (fd_s (k + 1))), (0, .ref 1), (1, .long x)] ∨ ∃ a : Int32, lv2 = [(4, .int c), (3, .int (fd_s (k + 1))), (5, .int a), (0, .ref 1), (1, .long x)]) → fd_S d lim Q 17 lv2 [] (fd_h 1 1 2 h s) := by
      intro lv2 hl2
      have y38 : fd_f c = true → fd_S d lim Q 38 lv2 [] (fd_h 1 1 2 h s) := by
        intro hf
        rcases hl2 with rfl | ⟨a, rfl⟩ <;> exact am_goX 5 (show 5 < 6 ∧ ((Int32.ofInt 1 = 0 → fd_S d lim Q 82 [(5, .int (Int32.ofInt 1)), (4, .int c), (3, .int (fd_s (k + 1))), (0, .ref 1), (1, .long x)] [] (fd_h 1 1 2 h s)) ∧ (¬ Int32.ofInt 1 = 0 → fd_S d lim Q 50 [(5, .int (Int32.ofInt 1)), (4, .int c), (3, .int (fd_s (k + 1))), (0, .ref 1), (1, .long x)] [] (fd_h 1 1 2 h s))) from ⟨by decide, fun z => absurd z (by decide), fun _ => yes hf⟩)
      have n42 : fd_f c = false → fd_S d lim Q 42 lv2 [] (fd_h 1 1 2 h s) := by
        intro hf
        rcases hl2 with rfl | ⟨a, rfl⟩ <;> exact am_goX 4 (show 5 < 6 ∧ ((Int32.ofInt 0 = 0 → fd_S d lim Q 82 [(5, .int (Int32.ofInt 0)), (4, .int c), (3, .int (fd_s (k + 1))), (0, .ref 1), (1, .long x)] [] (fd_h 1 1 2 h s)) ∧ (¬ Int32.ofInt 0 = 0 → fd_S d lim Q 50 [(5, .int (Int32.ofInt 0)), (4, .int c), (3, .int (fd_s (k + 1))), (0, .ref 1), (1, .long x)] [] (fd_h 1 1 2 h s))) from ⟨by decide, fun _ => no hf, fun z => absurd (by decide) z⟩)
      have g31 : ¬ c = 10 → ¬ c < 32 → fd_S d lim Q 31 lv2 [] (fd_h 1 1 2 h s) := by
        intro h1 h2
        have q : ((Int8.ofInt 126).toInt32 < c → fd_S d lim Q 42 lv2 [] (fd_h 1 1 2 h s)) ∧ (¬ (Int8.ofInt 126).toInt32 < c → fd_S d lim Q 38 lv2 [] (fd_h 1 1 2 h s)) := by
          rw [fd_126]
          exact ⟨fun z => n42 (fd_f_n2 h1 z), fun z => y38 (fd_f_y2 h2 z)⟩
        rcases hl2 with rfl | ⟨a, rfl⟩ <;> exact am_goX 3 q
      have g24 : ¬ c = 10 → fd_S d lim Q 24 lv2 [] (fd_h 1 1 2 h s) := by
        intro h1
        have q : (c < (Int8.ofInt 32).toInt32 → fd_S d lim Q 42 lv2 [] (fd_h 1 1 2 h s)) ∧ (¬ c < (Int8.ofInt 32).toInt32 → fd_S d lim Q 31 lv2 [] (fd_h 1 1 2 h s)) := by
          rw [fd_32]
          exact ⟨fun z => n42 (fd_f_n1 h1 z), fun z => g31 h1 z⟩
        rcases hl2 with rfl | ⟨a, rfl⟩ <;> exact am_goX 3 q
      have q : (c = (Int8.ofInt 10).toInt32 → fd_S d lim Q 38 lv2 [] (fd_h 1 1 2 h s)) ∧ (¬ c = (Int8.ofInt 10).toInt32 → fd_S d lim Q 24 lv2 [] (fd_h 1 1 2 h s)) := by
        rw [fd_10]
        exact ⟨fun z => y38 (fd_f_y1 z), fun z => g24 z⟩
      rcases hl2 with rfl | ⟨a, rfl⟩ <;> exact am_goX 3 q
    rcases hlv with rfl | ⟨a, b, rfl⟩
    · refine am_goX 2 (show (fd_s (k + 1) < 0 → fd_S d lim Q 88 [(3, .int (fd_s (k + 1))), (0, .ref 1), (1, .long x)] [] (fd_h 1 1 2 h s)) ∧ (¬ fd_s (k + 1) < 0 → fd_S d lim Q 7 [(3, .int (fd_s (k + 1))), (0, .ref 1), (1, .long x)] [] (fd_h 1 1 2 h s)) from ⟨fun z => absurd z hneg, fun _ => ?_⟩)
      refine am_goX 7 (show 4 < 6 ∧ fd_S d lim Q 17 [(4, .int (fd_c x (fd_s (k + 1)))), (3, .int (fd_s (k + 1))), (0, .ref 1), (1, .long x)] [] (fd_h 1 1 2 h s) from ⟨by decide, ?_⟩)
      rw [hc]
      exact mid _ (Or.inl rfl)
    · refine am_goX 2 (show (fd_s (k + 1) < 0 → fd_S d lim Q 88 [(3, .int (fd_s (k + 1))), (5, .int a), (4, .int b), (0, .ref 1), (1, .long x)] [] (fd_h 1 1 2 h s)) ∧ (¬ fd_s (k + 1) < 0 → fd_S d lim Q 7 [(3, .int (fd_s (k + 1))), (5, .int a), (4, .int b), (0, .ref 1), (1, .long x)] [] (fd_h 1 1 2 h s)) from ⟨fun z => absurd z hneg, fun _ => ?_⟩)
      refine am_goX 7 (show 4 < 6 ∧ fd_S d lim Q 17 [(4, .int (fd_c x (fd_s (k + 1)))), (3, .int (fd_s (k + 1))), (5, .int a), (0, .ref 1), (1, .long x)] [] (fd_h 1 1 2 h s) from ⟨by decide, ?_⟩)
      rw [hc]
      exact mid _ (Or.inr ⟨a, rfl⟩)
theorem fd_cod13 : am_cod 13 = am_find am_r13 := by
  funext pc
  rfl
theorem fd_append {d : Nat} {Q : am_Q} {x : Int64} {h : am_H} {s : fd_T} (hsh : am_so h 1 = some (7, 0)) (hsh2 : am_so h 2 = some (12, 1000)) (hr : h.2.2.1 1 0 = some 2) (hs : s.1 ≤ 1000) (hQ : Q none (fd_h 1 1 2 h (fd_8 x 8 s))) : am_call am_cod (d + 1) 13 [.ref 1, .long x] (fd_h 1 1 2 h s) Q := by
  refine Or.inr ⟨show 3 ≤ am_nL 13 by decide +kernel, ?_⟩
  rw [fd_cod13]
  refine am_goX 2 (show 3 < 6 ∧ fd_S d (h.2.2.2.2 + am_al 13) (fun v h' => h'.2.2.2.2 = h.2.2.2.2 + am_al 13 ∧ Q v h') 3 [(3, .int (Int8.ofInt 56).toInt32), (0, .ref 1), (1, .long x)] [] (fd_h 1 1 2 h s) from ⟨by decide, ?_⟩)
  rw [show (Int8.ofInt 56).toInt32 = fd_s 8 by decide]
  exact fd_ap_loop hsh hsh2 hr 8 (Nat.le_refl _) s hs _ (Or.inl rfl) ⟨rfl, hQ⟩
/-! FEED of the reference, and both calls -/
theorem fd_bv (v : BitVec 64) (n : Nat) (hn : n ≤ 56) : ((v.sshiftRight n).setWidth 32 &&& 255#32) = ((v >>> n) &&& 255#64).setWidth 32 := by
  apply BitVec.eq_of_getLsbD_eq
  intro i hi
  have e1 : (255#32).getLsbD i = decide (i < 8) := by
    rw [show (255#32) = BitVec.ofNat 32 (2 ^ 8 - 1) from rfl, BitVec.getLsbD_ofNat, Nat.testBit_two_pow_sub_one]
    simp [hi]
  have e2 : (255#64).getLsbD i = decide (i < 8) := by
    rw [show (255#64) = BitVec.ofNat 64 (2 ^ 8 - 1) from rfl, BitVec.getLsbD_ofNat, Nat.testBit_two_pow_sub_one]
    simp [show i < 64 by omega]
  rw [BitVec.getLsbD_and, BitVec.getLsbD_setWidth, BitVec.getLsbD_setWidth, BitVec.getLsbD_and, BitVec.getLsbD_sshiftRight, BitVec.getLsbD_ushiftRight, e1, e2]
  by_cases h8 : i < 8
  · simp [hi, h8, show n + i < 64 by omega, show ¬ 64 ≤ i by omega]
  · simp [h8]
theorem fd_cl (x : Int64) : ∀ k, k < 8 → ((x >>> ((fd_s (k + 1)).toInt64 &&& 63)).toInt32 &&& (Int16.ofInt 255).toInt32) = fd_c x (fd_s (k + 1)) := by
  intro k hk
  have hD : (((fd_s (k + 1)).toInt64 &&& 63).toBitVec.smod 64).toNat = 8 * k := by
    revert k
    decide
  have hU : ((fd_s (k + 1)).toInt64.toUInt64 &&& Int64.toUInt64 63).toNat % 64 = 8 * k := by
    revert k
    decide
  unfold fd_c
  apply Int32.toBitVec_inj.mp
  have e1 : (x >>> ((fd_s (k + 1)).toInt64 &&& 63)).toBitVec = x.toBitVec.sshiftRight (8 * k) := by
    rw [← hD]
    rfl
  have e2 : (x.toUInt64 >>> ((fd_s (k + 1)).toInt64.toUInt64 &&& Int64.toUInt64 63)).toInt64.toBitVec = x.toBitVec >>> (8 * k) := by
    apply BitVec.eq_of_toNat_eq
    show (x.toUInt64 >>> ((fd_s (k + 1)).toInt64.toUInt64 &&& Int64.toUInt64 63)).toNat = _
    rw [UInt64.toNat_shiftRight, hU, BitVec.toNat_ushiftRight]
    rfl
  rw [Int32.toBitVec_and]
  show (x >>> ((fd_s (k + 1)).toInt64 &&& 63)).toBitVec.signExtend 32 &&& (Int16.ofInt 255).toInt32.toBitVec = ((x.toUInt64 >>> ((fd_s (k + 1)).toInt64.toUInt64 &&& Int64.toUInt64 63)).toInt64 &&& 255).toBitVec.signExtend 32
  rw [BitVec.signExtend_eq_setWidth_of_le _ (by decide), BitVec.signExtend_eq_setWidth_of_le _ (by decide), Int64.toBitVec_and, e1, e2, show (Int16.ofInt 255).toInt32.toBitVec = 255#32 by decide]
  exact fd_bv _ _ (by omega)
def fd_L (d lim : Nat) (Q : am_Q) : Nat → am_V → List Value → am_H → Prop := am_X (am_call am_cod d) 5 lim none (am_find am_r178) (fun _ _ _ _ => False) Q
set_option maxHeartbeats 1000000 in
/-- the loop of lay -/
theorem fd_la_loop {d lim : Nat} {Q : am_Q} {x : Int64} {h : am_H} (hsh : am_so h 154 = some (11, 0)) (hsh2 : am_so h 155 = some (13, 1000)) (hr : h.2.2.1 154 1 = some 155) :
    ∀ k, k ≤ 8 → ∀ (s : fd_T), s.1 ≤ 1000 → ∀ lv : am_V, (lv = [(3, .int (fd_s k)), (0, .ref 154), (1, .long x)] ∨ ∃ b : Int32, lv = [(3, .int (fd_s k)), (4, .int b), (0, .ref 154), (1, .long x)]) → Q none (fd_h 154 2 155 h (fd_8 x k s)) → fd_L d lim Q 3 lv [] (fd_h 154 2 155 h s) := by
  intro k
  induction k with
  | zero =>
    intro _ s hs lv hlv hQ
    have e : fd_L d lim Q 75 lv [] (fd_h 154 2 155 h s) := am_goX 1 (show none = none ∧ Q none (fd_h 154 2 155 h s) from ⟨rfl, hQ⟩)
    have q : (fd_s 0 < 0 → fd_L d lim Q 75 lv [] (fd_h 154 2 155 h s)) ∧ (¬ fd_s 0 < 0 → fd_L d lim Q 7 lv [] (fd_h 154 2 155 h s)) := ⟨fun _ => e, fun z => absurd (by decide) z⟩
    rcases hlv with rfl | ⟨b, rfl⟩ <;> exact am_goX 2 q
  | succ k ih =>
    intro hk s hs lv hlv hQ
    have hneg := fd_s_neg k (by omega)
    have hQ1 : Q none (fd_h 154 2 155 h (fd_8 x k (fd_1 (fd_c x (fd_s (k + 1))) s))) := hQ
    have hcl := fd_cl x k (by omega)
    generalize hc : fd_c x (fd_s (k + 1)) = c at hQ1 hcl
    have tail : ∀ (s' : fd_T), s'.1 ≤ 1000 → Q none (fd_h 154 2 155 h (fd_8 x k s')) → fd_L d lim Q 69 [(4, .int c), (3, .int (fd_s (k + 1))), (0, .ref 154), (1, .long x)] [] (fd_h 154 2 155 h s') := fun s' hs' hQ' =>
      am_goX 2 (show 3 < 5 ∧ fd_L d lim Q 3 [(3, .int (fd_s (k + 1) + Int32.ofInt (-8))), (4, .int c), (0, .ref 154), (1, .long x)] [] (fd_h 154 2 155 h s') from ⟨by decide, by rw [fd_s_dec k (by omega)]; exact ih (by omega) s' hs' _ (Or.inr ⟨c, rfl⟩) hQ'⟩)
    have no : fd_f c = false → fd_L d lim Q 69 [(4, .int c), (3, .int (fd_s (k + 1))), (0, .ref 154), (1, .long x)] [] (fd_h 154 2 155 h s) := fun hf => tail s hs (by rw [fd_1_n (Or.inl hf)] at hQ1; exact hQ1)
    have yes : fd_f c = true → fd_L d lim Q 38 [(4, .int c), (3, .int (fd_s (k + 1))), (0, .ref 154), (1, .long x)] [] (fd_h 154 2 155 h s) := by
      intro hf
      refine am_goX 4 (show am_sh (fd_h 154 2 155 h s) 154 = some (11, 0) ∧ ((Int16.ofInt 1000).toInt32 ≤ (fd_h 154 2 155 h s).1 154 2 → fd_L d lim Q 69 [(4, .int c), (3, .int (fd_s (k + 1))), (0, .ref 154), (1, .long x)] [] (fd_h 154 2 155 h s)) ∧ (¬ (Int16.ofInt 1000).toInt32 ≤ (fd_h 154 2 155 h s).1 154 2 → fd_L d lim Q 48 [(4, .int c), (3, .int (fd_s (k + 1))), (0, .ref 154), (1, .long x)] [] (fd_h 154 2 155 h s)) from ⟨hsh, fun z => ?_, fun z => ?_⟩)
      · rw [fd_1000, fd_h_n, nI_leI (by decide) (by omega)] at z
        exact tail s hs (by rw [fd_1_n (Or.inr (by omega))] at hQ1; exact hQ1)
      · rw [fd_1000, fd_h_n, nI_leI (by decide) (by omega)] at z
        have hlt : s.1 < 1000 := by omega
        rw [fd_1_y hf hlt] at hQ1
        refine am_goX 2 (show am_sh (fd_h 154 2 155 h s) 154 = some (11, 0) ∧ fd_L d lim Q 52 [(4, .int c), (3, .int (fd_s (k + 1))), (0, .ref 154), (1, .long x)] [am_rf (h.2.2.1 154 1)] (fd_h 154 2 155 h s) from ⟨hsh, ?_⟩)
        rw [hr]
        refine am_goX 4 (show am_sh (fd_h 154 2 155 h s) 154 = some (11, 0) ∧ ∃ j n : Nat, am_so (fd_h 154 2 155 h s) 155 = some (13, n) ∧ j < n ∧ (fd_h 154 2 155 h s).1 154 2 = nI j ∧ fd_L d lim Q 59 [(4, .int c), (3, .int (fd_s (k + 1))), (0, .ref 154), (1, .long x)] [] (am_wI (fd_h 154 2 155 h s) 155 j c) from ⟨hsh, s.1, 1000, hsh2, hlt, fd_h_n, ?_⟩)
        refine am_goX 6 (show (Value.ref 154).category = 1 ∧ am_sh (am_wI (fd_h 154 2 155 h s) 155 s.1 c) 154 = some (11, 0) ∧ am_sh (am_wI (fd_h 154 2 155 h s) 155 s.1 c) 154 = some (11, 0) ∧ narrow (am_fty 11 2) (.int ((am_wI (fd_h 154 2 155 h s) 155 s.1 c).1 154 2 + Int32.ofInt 1)) = .int ((am_wI (fd_h 154 2 155 h s) 155 s.1 c).1 154 2 + Int32.ofInt 1) ∧ fits (am_fty 11 2) (.int ((am_wI (fd_h 154 2 155 h s) 155 s.1 c).1 154 2 + Int32.ofInt 1)) = true ∧ fd_L d lim Q 69 [(4, .int c), (3, .int (fd_s (k + 1))), (0, .ref 154), (1, .long x)] [] (am_wI (am_wI (fd_h 154 2 155 h s) 155 s.1 c) 154 2 ((am_wI (fd_h 154 2 155 h s) 155 s.1 c).1 154 2 + Int32.ofInt 1)) from ⟨rfl, hsh, hsh, rfl, rfl, ?_⟩)
        have e1 : (am_wI (fd_h 154 2 155 h s) 155 s.1 c).1 154 2 + Int32.ofInt 1 = nI s.1 + 1 := by
          show (if 154 = 155 ∧ 2 = s.1 then c else (fd_h 154 2 155 h s).1 154 2) + Int32.ofInt 1 = _
          rw [if_neg (fun z => absurd z.1 (by decide)), fd_h_n]
          rfl
        rw [e1, fd_h_put (by decide)]
        exact tail _ hlt hQ1
    have g31 : ¬ c = 10 → ¬ c < 32 → fd_L d lim Q 31 [(4, .int c), (3, .int (fd_s (k + 1))), (0, .ref 154), (1, .long x)] [] (fd_h 154 2 155 h s) := by
      intro h1 h2
      refine am_goX 3 (show ((Int8.ofInt 126).toInt32 < c → fd_L d lim Q 69 [(4, .int c), (3, .int (fd_s (k + 1))), (0, .ref 154), (1, .long x)] [] (fd_h 154 2 155 h s)) ∧ (¬ (Int8.ofInt 126).toInt32 < c → fd_L d lim Q 38 [(4, .int c), (3, .int (fd_s (k + 1))), (0, .ref 154), (1, .long x)] [] (fd_h 154 2 155 h s)) from ?_)
      rw [fd_126]
      exact ⟨fun z => no (fd_f_n2 h1 z), fun z => yes (fd_f_y2 h2 z)⟩
    have g24 : ¬ c = 10 → fd_L d lim Q 24 [(4, .int c), (3, .int (fd_s (k + 1))), (0, .ref 154), (1, .long x)] [] (fd_h 154 2 155 h s) := by
      intro h1
      refine am_goX 3 (show (c < (Int8.ofInt 32).toInt32 → fd_L d lim Q 69 [(4, .int c), (3, .int (fd_s (k + 1))), (0, .ref 154), (1, .long x)] [] (fd_h 154 2 155 h s)) ∧ (¬ c < (Int8.ofInt 32).toInt32 → fd_L d lim Q 31 [(4, .int c), (3, .int (fd_s (k + 1))), (0, .ref 154), (1, .long x)] [] (fd_h 154 2 155 h s)) from ?_)
      rw [fd_32]
      exact ⟨fun z => no (fd_f_n1 h1 z), fun z => g31 h1 z⟩
    have mid : fd_L d lim Q 17 [(4, .int c), (3, .int (fd_s (k + 1))), (0, .ref 154), (1, .long x)] [] (fd_h 154 2 155 h s) := by
      refine am_goX 3 (show (c = (Int8.ofInt 10).toInt32 → fd_L d lim Q 38 [(4, .int c), (3, .int (fd_s (k + 1))), (0, .ref 154), (1, .long x)] [] (fd_h 154 2 155 h s)) ∧ (¬ c = (Int8.ofInt 10).toInt32 → fd_L d lim Q 24 [(4, .int c), (3, .int (fd_s (k + 1))), (0, .ref 154), (1, .long x)] [] (fd_h 154 2 155 h s)) from ?_)
      rw [fd_10]
      exact ⟨fun z => yes (fd_f_y1 z), fun z => g24 z⟩
    have q7 : fd_L d lim Q 7 lv [] (fd_h 154 2 155 h s) := by
      rcases hlv with rfl | ⟨b, rfl⟩
      all_goals
        refine am_goX 7 (show 4 < 5 ∧ fd_L d lim Q 17 [(4, .int ((x >>> ((fd_s (k + 1)).toInt64 &&& 63)).toInt32 &&& (Int16.ofInt 255).toInt32)), (3, .int (fd_s (k + 1))), (0, .ref 154), (1, .long x)] [] (fd_h 154 2 155 h s) from ⟨by decide, ?_⟩)
        rw [hcl]
        exact mid
    have q : (fd_s (k + 1) < 0 → fd_L d lim Q 75 lv [] (fd_h 154 2 155 h s)) ∧ (¬ fd_s (k + 1) < 0 → fd_L d lim Q 7 lv [] (fd_h 154 2 155 h s)) := ⟨fun z => absurd z hneg, fun _ => q7⟩
    clear q7
    rcases hlv with rfl | ⟨b, rfl⟩ <;> exact am_goX 2 q
theorem fd_cod178 : am_cod 178 = am_find am_r178 := by
  funext pc
  rfl
theorem fd_lay {d : Nat} {Q : am_Q} {x : Int64} {h : am_H} {s : fd_T} (hsh : am_so h 154 = some (11, 0)) (hsh2 : am_so h 155 = some (13, 1000)) (hr : h.2.2.1 154 1 = some 155) (hs : s.1 ≤ 1000) (hQ : Q none (fd_h 154 2 155 h (fd_8 x 8 s))) : am_call am_cod (d + 1) 178 [.ref 154, .long x] (fd_h 154 2 155 h s) Q := by
  refine Or.inr ⟨show 3 ≤ am_nL 178 by decide +kernel, ?_⟩
  rw [fd_cod178]
  refine am_goX 2 (show 3 < 5 ∧ fd_L d (h.2.2.2.2 + am_al 178) (fun v h' => h'.2.2.2.2 = h.2.2.2.2 + am_al 178 ∧ Q v h') 3 [(3, .int (Int8.ofInt 56).toInt32), (0, .ref 154), (1, .long x)] [] (fd_h 154 2 155 h s) from ⟨by decide, ?_⟩)
  rw [show (Int8.ofInt 56).toInt32 = fd_s 8 by decide]
  exact fd_la_loop hsh hsh2 hr 8 (Nat.le_refl _) s hs _ (Or.inl rfl) ⟨rfl, hQ⟩
/-- three times eight -/
def fd_3 (a b c : Int64) (s : fd_T) : fd_T := fd_8 c 8 (fd_8 b 8 (fd_8 a 8 s))
theorem fd_3_fst {a b c : Int64} {s t : fd_T} (h : s.1 = t.1) : (fd_3 a b c s).1 = (fd_3 a b c t).1 := fd_8_fst 8 (fd_8_fst 8 (fd_8_fst 8 h))
theorem fd_cod12 : am_cod 12 = am_find am_r12 := by
  funext pc
  rfl
theorem fd_cod177 : am_cod 177 = am_find am_r177 := by
  funext pc
  rfl
def fd_C (d lim : Nat) (Q : am_Q) : Nat → am_V → List Value → am_H → Prop := am_X (am_call am_cod d) 7 lim (some .int) (am_find am_r12) (fun _ _ _ _ => False) Q
def fd_M (d lim : Nat) (Q : am_Q) : Nat → am_V → List Value → am_H → Prop := am_X (am_call am_cod d) 7 lim (some .int) (am_find am_r177) (fun _ _ _ _ => False) Q
set_option maxHeartbeats 1000000 in
theorem fd_feedC {d t : Nat} {Q : am_Q} {a b c : Int64} {h : am_H} (h0 : am_so h 0 = some (10, 0)) (h1 : am_so h 1 = some (7, 0)) (h2 : am_so h 2 = some (12, 1000)) (r0 : h.2.2.1 0 0 = some 1) (r1 : h.2.2.1 1 0 = some 2) (ht : h.1 1 1 = nI t) (hl : t ≤ 1000) (hQ : Q (some (.int (nI (fd_3 a b c (t, h.1 2)).1))) (fd_h 1 1 2 h (fd_3 a b c (t, h.1 2)))) : am_call am_cod (d + 2) 12 [.ref 0, .long a, .long b, .long c] h Q := by
  refine Or.inr ⟨show 7 ≤ am_nL 12 by decide +kernel, ?_⟩
  rw [fd_cod12]
  have l1 : (t, h.1 2).1 ≤ 1000 := hl
  have l2 : (fd_8 a 8 (t, h.1 2)).1 ≤ 1000 := fd_8_le l1
  have l3 : (fd_8 b 8 (fd_8 a 8 (t, h.1 2))).1 ≤ 1000 := fd_8_le l2
  have hself : fd_h 1 1 2 h (t, h.1 2) = h := fd_h_self (by decide) ht
  have f25 : fd_C (d + 1) (h.2.2.2.2 + am_al 12) (fun v h' => h'.2.2.2.2 = h.2.2.2.2 + am_al 12 ∧ Q v h') 25 [(0, .ref 0), (1, .long a), (3, .long b), (5, .long c)] [] (fd_h 1 1 2 h (fd_3 a b c (t, h.1 2))) := by
    refine am_goX 2 (show am_sh (fd_h 1 1 2 h (fd_3 a b c (t, h.1 2))) 0 = some (10, 0) ∧ fd_C (d + 1) (h.2.2.2.2 + am_al 12) (fun v h' => h'.2.2.2.2 = h.2.2.2.2 + am_al 12 ∧ Q v h') 29 [(0, .ref 0), (1, .long a), (3, .long b), (5, .long c)] [am_rf (h.2.2.1 0 0)] (fd_h 1 1 2 h (fd_3 a b c (t, h.1 2))) from ⟨h0, ?_⟩)
    rw [r0]
    refine am_goX 2 (show am_sh (fd_h 1 1 2 h (fd_3 a b c (t, h.1 2))) 1 = some (7, 0) ∧ ((∃ ty, some FieldType.int = some ty ∧ narrow ty (.int ((fd_h 1 1 2 h (fd_3 a b c (t, h.1 2))).1 1 1)) = .int ((fd_h 1 1 2 h (fd_3 a b c (t, h.1 2))).1 1 1)) ∧ (fd_h 1 1 2 h (fd_3 a b c (t, h.1 2))).2.2.2.2 = h.2.2.2.2 + am_al 12 ∧ Q (some (.int ((fd_h 1 1 2 h (fd_3 a b c (t, h.1 2))).1 1 1))) (fd_h 1 1 2 h (fd_3 a b c (t, h.1 2)))) from ⟨h1, ⟨.int, rfl, rfl⟩, rfl, ?_⟩)
    rw [fd_h_n]
    exact hQ
  have f16 : fd_C (d + 1) (h.2.2.2.2 + am_al 12) (fun v h' => h'.2.2.2.2 = h.2.2.2.2 + am_al 12 ∧ Q v h') 16 [(0, .ref 0), (1, .long a), (3, .long b), (5, .long c)] [] (fd_h 1 1 2 h (fd_8 b 8 (fd_8 a 8 (t, h.1 2)))) := by
    refine am_goX 2 (show am_sh (fd_h 1 1 2 h (fd_8 b 8 (fd_8 a 8 (t, h.1 2)))) 0 = some (10, 0) ∧ fd_C (d + 1) (h.2.2.2.2 + am_al 12) (fun v h' => h'.2.2.2.2 = h.2.2.2.2 + am_al 12 ∧ Q v h') 20 [(0, .ref 0), (1, .long a), (3, .long b), (5, .long c)] [am_rf (h.2.2.1 0 0)] (fd_h 1 1 2 h (fd_8 b 8 (fd_8 a 8 (t, h.1 2)))) from ⟨h0, ?_⟩)
    rw [r0]
    exact am_goX 2 (show am_rc (fd_h 1 1 2 h (fd_8 b 8 (fd_8 a 8 (t, h.1 2)))) 1 7 ∧ 0 ≤ 8 ∧ h.2.2.2.2 + am_al 13 ≤ h.2.2.2.2 + am_al 12 ∧ am_call am_cod (d + 1) 13 [.ref 1, .long c] (fd_h 1 1 2 h (fd_8 b 8 (fd_8 a 8 (t, h.1 2)))) (fun v h' => fd_C (d + 1) (h.2.2.2.2 + am_al 12) (fun v h' => h'.2.2.2.2 = h.2.2.2.2 + am_al 12 ∧ Q v h') 25 [(0, .ref 0), (1, .long a), (3, .long b), (5, .long c)] (v.toList ++ []) h') from ⟨Or.inl ⟨by decide, h1⟩, Nat.zero_le _, Nat.le_refl _, fd_append h1 h2 r1 l3 f25⟩)
  have f8 : fd_C (d + 1) (h.2.2.2.2 + am_al 12) (fun v h' => h'.2.2.2.2 = h.2.2.2.2 + am_al 12 ∧ Q v h') 8 [(0, .ref 0), (1, .long a), (3, .long b), (5, .long c)] [] (fd_h 1 1 2 h (fd_8 a 8 (t, h.1 2))) := by
    refine am_goX 2 (show am_sh (fd_h 1 1 2 h (fd_8 a 8 (t, h.1 2))) 0 = some (10, 0) ∧ fd_C (d + 1) (h.2.2.2.2 + am_al 12) (fun v h' => h'.2.2.2.2 = h.2.2.2.2 + am_al 12 ∧ Q v h') 12 [(0, .ref 0), (1, .long a), (3, .long b), (5, .long c)] [am_rf (h.2.2.1 0 0)] (fd_h 1 1 2 h (fd_8 a 8 (t, h.1 2))) from ⟨h0, ?_⟩)
    rw [r0]
    exact am_goX 2 (show am_rc (fd_h 1 1 2 h (fd_8 a 8 (t, h.1 2))) 1 7 ∧ 0 ≤ 8 ∧ h.2.2.2.2 + am_al 13 ≤ h.2.2.2.2 + am_al 12 ∧ am_call am_cod (d + 1) 13 [.ref 1, .long b] (fd_h 1 1 2 h (fd_8 a 8 (t, h.1 2))) (fun v h' => fd_C (d + 1) (h.2.2.2.2 + am_al 12) (fun v h' => h'.2.2.2.2 = h.2.2.2.2 + am_al 12 ∧ Q v h') 16 [(0, .ref 0), (1, .long a), (3, .long b), (5, .long c)] (v.toList ++ []) h') from ⟨Or.inl ⟨by decide, h1⟩, Nat.zero_le _, Nat.le_refl _, fd_append h1 h2 r1 l2 f16⟩)
  have f0 : fd_C (d + 1) (h.2.2.2.2 + am_al 12) (fun v h' => h'.2.2.2.2 = h.2.2.2.2 + am_al 12 ∧ Q v h') 0 [(0, .ref 0), (1, .long a), (3, .long b), (5, .long c)] [] (fd_h 1 1 2 h (t, h.1 2)) := by
    refine am_goX 2 (show am_sh (fd_h 1 1 2 h (t, h.1 2)) 0 = some (10, 0) ∧ fd_C (d + 1) (h.2.2.2.2 + am_al 12) (fun v h' => h'.2.2.2.2 = h.2.2.2.2 + am_al 12 ∧ Q v h') 4 [(0, .ref 0), (1, .long a), (3, .long b), (5, .long c)] [am_rf (h.2.2.1 0 0)] (fd_h 1 1 2 h (t, h.1 2)) from ⟨h0, ?_⟩)
    rw [r0]
    exact am_goX 2 (show am_rc (fd_h 1 1 2 h (t, h.1 2)) 1 7 ∧ 0 ≤ 8 ∧ h.2.2.2.2 + am_al 13 ≤ h.2.2.2.2 + am_al 12 ∧ am_call am_cod (d + 1) 13 [.ref 1, .long a] (fd_h 1 1 2 h (t, h.1 2)) (fun v h' => fd_C (d + 1) (h.2.2.2.2 + am_al 12) (fun v h' => h'.2.2.2.2 = h.2.2.2.2 + am_al 12 ∧ Q v h') 8 [(0, .ref 0), (1, .long a), (3, .long b), (5, .long c)] (v.toList ++ []) h') from ⟨Or.inl ⟨by decide, h1⟩, Nat.zero_le _, Nat.le_refl _, fd_append h1 h2 r1 l1 f8⟩)
  rw [hself] at f0
  exact f0
set_option maxHeartbeats 1000000 in
theorem fd_feedM {d t : Nat} {Q : am_Q} {a b c : Int64} {h : am_H} (h1 : am_so h 154 = some (11, 0)) (h2 : am_so h 155 = some (13, 1000)) (r1 : h.2.2.1 154 1 = some 155) (ht : h.1 154 2 = nI t) (hl : t ≤ 1000) (hQ : Q (some (.int (nI (fd_3 a b c (t, h.1 155)).1))) (fd_h 154 2 155 (am_wI h 154 0 0) (fd_3 a b c (t, h.1 155)))) : am_call am_cod (d + 2) 177 [.ref 154, .long a, .long b, .long c] h Q := by
  refine Or.inr ⟨show 7 ≤ am_nL 177 by decide +kernel, ?_⟩
  rw [fd_cod177]
  have l1 : (t, h.1 155).1 ≤ 1000 := hl
  have l2 : (fd_8 a 8 (t, h.1 155)).1 ≤ 1000 := fd_8_le l1
  have l3 : (fd_8 b 8 (fd_8 a 8 (t, h.1 155))).1 ≤ 1000 := fd_8_le l2
  have e155 : (am_wI h 154 0 0).1 155 = h.1 155 := by
    funext q
    show (if 155 = 154 ∧ q = 0 then 0 else h.1 155 q) = _
    rw [if_neg (fun z => absurd z.1 (by decide))]
  have hself : fd_h 154 2 155 (am_wI h 154 0 0) (t, h.1 155) = am_wI h 154 0 0 := by
    rw [← e155]
    refine fd_h_self (by decide) ?_
    show (if 154 = 154 ∧ 2 = 0 then 0 else h.1 154 2) = _
    rw [if_neg (fun z => absurd z.2 (by decide))]
    exact ht
  have f21 : fd_M (d + 1) (h.2.2.2.2 + am_al 177) (fun v h' => h'.2.2.2.2 = h.2.2.2.2 + am_al 177 ∧ Q v h') 21 [(0, .ref 154), (1, .long a), (3, .long b), (5, .long c)] [] (fd_h 154 2 155 (am_wI h 154 0 0) (fd_3 a b c (t, h.1 155))) := by
    refine am_goX 3 (show am_sh (fd_h 154 2 155 (am_wI h 154 0 0) (fd_3 a b c (t, h.1 155))) 154 = some (11, 0) ∧ ((∃ ty, some FieldType.int = some ty ∧ narrow ty (.int ((fd_h 154 2 155 (am_wI h 154 0 0) (fd_3 a b c (t, h.1 155))).1 154 2)) = .int ((fd_h 154 2 155 (am_wI h 154 0 0) (fd_3 a b c (t, h.1 155))).1 154 2)) ∧ (fd_h 154 2 155 (am_wI h 154 0 0) (fd_3 a b c (t, h.1 155))).2.2.2.2 = h.2.2.2.2 + am_al 177 ∧ Q (some (.int ((fd_h 154 2 155 (am_wI h 154 0 0) (fd_3 a b c (t, h.1 155))).1 154 2))) (fd_h 154 2 155 (am_wI h 154 0 0) (fd_3 a b c (t, h.1 155)))) from ⟨h1, ⟨.int, rfl, rfl⟩, rfl, ?_⟩)
    rw [fd_h_n]
    exact hQ
  have f15 : fd_M (d + 1) (h.2.2.2.2 + am_al 177) (fun v h' => h'.2.2.2.2 = h.2.2.2.2 + am_al 177 ∧ Q v h') 15 [(0, .ref 154), (1, .long a), (3, .long b), (5, .long c)] [] (fd_h 154 2 155 (am_wI h 154 0 0) (fd_8 b 8 (fd_8 a 8 (t, h.1 155)))) :=
    am_goX 3 (show am_rc (fd_h 154 2 155 (am_wI h 154 0 0) (fd_8 b 8 (fd_8 a 8 (t, h.1 155)))) 154 11 ∧ 0 ≤ 8 ∧ h.2.2.2.2 + am_al 178 ≤ h.2.2.2.2 + am_al 177 ∧ am_call am_cod (d + 1) 178 [.ref 154, .long c] (fd_h 154 2 155 (am_wI h 154 0 0) (fd_8 b 8 (fd_8 a 8 (t, h.1 155)))) (fun v h' => fd_M (d + 1) (h.2.2.2.2 + am_al 177) (fun v h' => h'.2.2.2.2 = h.2.2.2.2 + am_al 177 ∧ Q v h') 21 [(0, .ref 154), (1, .long a), (3, .long b), (5, .long c)] (v.toList ++ []) h') from ⟨Or.inl ⟨by decide, h1⟩, Nat.zero_le _, Nat.le_refl _, fd_lay (h := am_wI h 154 0 0) h1 h2 r1 l3 f21⟩)
  have f10 : fd_M (d + 1) (h.2.2.2.2 + am_al 177) (fun v h' => h'.2.2.2.2 = h.2.2.2.2 + am_al 177 ∧ Q v h') 10 [(0, .ref 154), (1, .long a), (3, .long b), (5, .long c)] [] (fd_h 154 2 155 (am_wI h 154 0 0) (fd_8 a 8 (t, h.1 155))) :=
    am_goX 3 (show am_rc (fd_h 154 2 155 (am_wI h 154 0 0) (fd_8 a 8 (t, h.1 155))) 154 11 ∧ 0 ≤ 8 ∧ h.2.2.2.2 + am_al 178 ≤ h.2.2.2.2 + am_al 177 ∧ am_call am_cod (d + 1) 178 [.ref 154, .long b] (fd_h 154 2 155 (am_wI h 154 0 0) (fd_8 a 8 (t, h.1 155))) (fun v h' => fd_M (d + 1) (h.2.2.2.2 + am_al 177) (fun v h' => h'.2.2.2.2 = h.2.2.2.2 + am_al 177 ∧ Q v h') 15 [(0, .ref 154), (1, .long a), (3, .long b), (5, .long c)] (v.toList ++ []) h') from ⟨Or.inl ⟨by decide, h1⟩, Nat.zero_le _, Nat.le_refl _, fd_lay (h := am_wI h 154 0 0) h1 h2 r1 l2 f15⟩)
  have f5 : fd_M (d + 1) (h.2.2.2.2 + am_al 177) (fun v h' => h'.2.2.2.2 = h.2.2.2.2 + am_al 177 ∧ Q v h') 5 [(0, .ref 154), (1, .long a), (3, .long b), (5, .long c)] [] (fd_h 154 2 155 (am_wI h 154 0 0) (t, h.1 155)) :=
    am_goX 3 (show am_rc (fd_h 154 2 155 (am_wI h 154 0 0) (t, h.1 155)) 154 11 ∧ 0 ≤ 8 ∧ h.2.2.2.2 + am_al 178 ≤ h.2.2.2.2 + am_al 177 ∧ am_call am_cod (d + 1) 178 [.ref 154, .long a] (fd_h 154 2 155 (am_wI h 154 0 0) (t, h.1 155)) (fun v h' => fd_M (d + 1) (h.2.2.2.2 + am_al 177) (fun v h' => h'.2.2.2.2 = h.2.2.2.2 + am_al 177 ∧ Q v h') 10 [(0, .ref 154), (1, .long a), (3, .long b), (5, .long c)] (v.toList ++ []) h') from ⟨Or.inl ⟨by decide, h1⟩, Nat.zero_le _, Nat.le_refl _, fd_lay (h := am_wI h 154 0 0) h1 h2 r1 l1 f10⟩)
  rw [hself] at f5
  exact am_goX 3 (show am_sh h 154 = some (11, 0) ∧ narrow (am_fty 11 0) (.int (Int32.ofInt 0)) = .int (Int32.ofInt 0) ∧ fits (am_fty 11 0) (.int (Int32.ofInt 0)) = true ∧ fd_M (d + 1) (h.2.2.2.2 + am_al 177) (fun v h' => h'.2.2.2.2 = h.2.2.2.2 + am_al 177 ∧ Q v h') 5 [(0, .ref 154), (1, .long a), (3, .long b), (5, .long c)] [] (am_wI h 154 0 (Int32.ofInt 0)) from ⟨h1, rfl, rfl, f5⟩)

/-! what holds between calls holds behind feed -/
def fd_ok (s : fd_T) : Prop := s.1 ≤ 1000 ∧ ∀ k, k < 1000 → 0 ≤ (s.2 k).toInt ∧ (s.2 k).toInt ≤ 65535
theorem fd_1_ok {x : Int64} {q : Int32} {s : fd_T} (hs : fd_ok s) : fd_ok (fd_1 (fd_c x q) s) := by
  refine ⟨fd_1_le hs.1, ?_⟩
  obtain ⟨n, hn, e⟩ := fd_c_lt x q
  by_cases h1 : fd_f (fd_c x q) = true
  · by_cases h2 : s.1 < 1000
    · rw [fd_1_y h1 h2]
      intro k hk
      show 0 ≤ (upd s.2 s.1 (fd_c x q) k).toInt ∧ (upd s.2 s.1 (fd_c x q) k).toInt ≤ 65535
      unfold upd
      split
      · rw [e, nI_toInt (by omega)]
        omega
      · exact hs.2 k hk
    · rw [fd_1_n (Or.inr h2)]
      exact hs.2
  · rw [fd_1_n (Or.inl (by cases hq : fd_f (fd_c x q) with
      | true => exact absurd hq h1
      | false => rfl))]
    exact hs.2
theorem fd_8_ok {x : Int64} : ∀ {k : Nat} {s : fd_T}, fd_ok s → fd_ok (fd_8 x k s)
  | 0, _, h => h
  | k + 1, s, h => fd_8_ok (k := k) (fd_1_ok h)
theorem fd_3_ok {a b c : Int64} {s : fd_T} (h : fd_ok s) : fd_ok (fd_3 a b c s) := fd_8_ok (fd_8_ok (fd_8_ok h))
theorem fd_sg1 : (ag_sg 1).all (fun s => !(Nat.ble s.1 1 && Nat.ble 1 s.2.1) || (decide (s.2.2.2.2.1 ≤ 0) && decide (1000 ≤ s.2.2.2.2.2))) = true := by decide +kernel
theorem fd_sg2 : (ag_sg 2).all (fun s => Nat.ble s.2.1 999 && (decide (s.2.2.2.2.1 ≤ 0) && decide (65535 ≤ s.2.2.2.2.2))) = true := by decide +kernel
theorem fd_s2 {s : fd_T} (hs : ∀ k, k < 1000 → 0 ≤ (s.2 k).toInt ∧ (s.2 k).toInt ≤ 65535) : ∀ k, ∀ q ∈ ag_sg 2, ag_seg q k (s.2 k) := by
  intro k q hq k1 k2 _
  have w := List.all_eq_true.mp fd_sg2 q hq
  rw [Bool.and_eq_true, Bool.and_eq_true, decide_eq_true_eq, decide_eq_true_eq] at w
  have w1 := Nat.le_of_ble_eq_true w.1
  have := hs k (by omega)
  omega
theorem fd_sg155 : ag_sg 155 = [] := by decide +kernel
theorem fd_G {o a b : Nat} {h : am_H} {s : fd_T} (hG : ag_G ag_DD h) (h1 : ∀ q ∈ ag_sg o, ag_seg q a (nI s.1)) (h2 : ∀ k, ∀ q ∈ ag_sg b, ag_seg q k (s.2 k)) : ag_G ag_DD (fd_h o a b h s) := by
  refine ⟨fun o' q hq k => ?_, hG.2.1, hG.2.2⟩
  show ag_seg q k (if o' = o ∧ k = a then nI s.1 else if o' = b then s.2 k else h.1 o' k)
  split
  · rename_i w
    rw [w.1] at hq
    rw [w.2]
    exact h1 q hq
  · split
    · rename_i w
      rw [w] at hq
      exact h2 k q hq
    · exact hG.1 o' q hq k
theorem fd_iv {o a b : Nat} {h : am_H} {s : fd_T} (hI : iv_I h) (hob : ¬ o = 156 ∧ ¬ b = 156 ∧ ¬ o = 160 ∧ ¬ b = 160 ∧ ¬ o = 161 ∧ ¬ b = 161 ∧ ¬ o = 162 ∧ ¬ b = 162) (h7 : ¬ (o = 154 ∧ a = 7)) (hb : ¬ b = 154) (h1 : ∀ q ∈ ag_sg o, ag_seg q a (nI s.1)) (h2 : ∀ k, ∀ q ∈ ag_sg b, ag_seg q k (s.2 k)) : iv_I (fd_h o a b h s) := by
  obtain ⟨N, hN, hW, hX, ha, hc⟩ := hI
  have e : ∀ p q, ¬ (p = o ∧ q = a) → ¬ p = b → (fd_h o a b h s).1 p q = h.1 p q := fun p q w1 w2 => by
    show (if p = o ∧ q = a then nI s.1 else if p = b then s.2 q else h.1 p q) = h.1 p q
    rw [if_neg w1, if_neg w2]
  refine ⟨N, hN, ⟨hW.1, fd_G hW.2.1 h1 h2, hW.2.2.1, ?_⟩, xw_Xk h _ (fun p q hk => e p q ?_ ?_) hX, ?_, hc⟩
  · rw [e 156 _ (by omega) (by omega)]
    exact hW.2.2.2
  · unfold ag_kp at hk
    omega
  · unfold ag_kp at hk
    omega
  · rw [e 154 7 (by omega) (by omega)]
    exact ha
theorem fd_t {h : am_H} (hI : iv_I h) : ∃ t : Nat, h.1 154 2 = nI t ∧ t ≤ 1000 := by
  obtain ⟨N, hN, hW, -⟩ := hI
  have ht : 0 ≤ (h.1 154 2).toInt ∧ (h.1 154 2).toInt ≤ 1000 := hW.2.1.1 154 (2, 2, 1, 0, 0, 1000) (iv_sgm (o := 154) (s := (2, 2, 1, 0, 0, 1000)) (by decide +kernel)) 2 (by decide) (by decide) (by decide)
  refine ⟨(h.1 154 2).toInt.toNat, Int32.toInt_inj.mp ?_, by omega⟩
  rw [nI_toInt (by omega)]
  omega
theorem fd_w {h : am_H} (hI : iv_I h) {v : Int32} : iv_I (am_wI h 154 0 v) := by
  obtain ⟨N, hN, hW, hX, ha, hc⟩ := hI
  refine ⟨N, hN, pz_wW hW (by decide) pz_s0, pz_wX hX (by unfold ag_kp; omega), ?_, hc⟩
  rw [em_wn h _ (by omega)]
  exact ha
end
section
/-! THE MACHINE IS DETERMINATE: two contracts of one call are one -/
theorem dt_pI {st : List Value} {k1 k2 k : Int32 → List Value → Prop} (h1 : am_pI st k1) (h2 : am_pI st k2) (f : ∀ x r, k1 x r → k2 x r → k x r) : am_pI st k := by
  obtain ⟨x, r, rfl, h⟩ := h1.inv
  exact f x r h h2
theorem dt_pL {st : List Value} {k1 k2 k : Int64 → List Value → Prop} (h1 : am_pL st k1) (h2 : am_pL st k2) (f : ∀ x r, k1 x r → k2 x r → k x r) : am_pL st k := by
  obtain ⟨x, r, rfl, h⟩ := h1.inv
  exact f x r h h2
theorem dt_pR {st : List Value} {k1 k2 k : Nat → List Value → Prop} (h1 : am_pR st k1) (h2 : am_pR st k2) (f : ∀ x r, k1 x r → k2 x r → k x r) : am_pR st k := by
  obtain ⟨x, r, rfl, h⟩ := h1.inv
  exact f x r h h2
theorem dt_pV {st : List Value} {k1 k2 k : Value → List Value → Prop} (h1 : am_pV st k1) (h2 : am_pV st k2) (f : ∀ x r, k1 x r → k2 x r → k x r) : am_pV st k := by
  obtain ⟨x, r, rfl, h⟩ := h1.inv
  exact f x r h h2
theorem dt_li {lv : am_V} {i : Nat} {k1 k2 k : Int32 → Prop} (h1 : am_li lv i k1) (h2 : am_li lv i k2) (f : ∀ x, k1 x → k2 x → k x) : am_li lv i k := by
  obtain ⟨x, e, h⟩ := am_li.inv h1
  unfold am_li at h2 ⊢
  rw [e] at h2 ⊢
  exact f x h h2
theorem dt_ll {lv : am_V} {i : Nat} {k1 k2 k : Int64 → Prop} (h1 : am_ll lv i k1) (h2 : am_ll lv i k2) (f : ∀ x, k1 x → k2 x → k x) : am_ll lv i k := by
  obtain ⟨x, e, h⟩ := am_ll.inv h1
  unfold am_ll at h2 ⊢
  rw [e] at h2 ⊢
  exact f x h h2
theorem dt_la {lv : am_V} {i : Nat} {k1 k2 k : Nat → Prop} (h1 : am_la lv i k1) (h2 : am_la lv i k2) (f : ∀ x, k1 x → k2 x → k x) : am_la lv i k := by
  obtain ⟨x, e, h⟩ := am_la.inv h1
  unfold am_la at h2 ⊢
  rw [e] at h2 ⊢
  exact f x h h2
theorem dt_shl : am_shl.all (fun q => Nat.ble q.2 4096) = true := by decide +kernel
theorem dt_so {h : am_H} {o t n : Nat} (e : am_so h o = some (t, n)) : n ≤ 4096 := by
  unfold am_so at e
  cases hb : Nat.blt o h.2.2.2.2 with
  | false =>
    rw [hb] at e
    cases e
  | true =>
    rw [hb] at e
    exact Nat.le_of_ble_eq_true (List.all_eq_true.mp dt_shl _ (List.mem_of_getElem? e))
theorem dt_sh {h : am_H} {o t n : Nat} (hb : h.2.2.2.1 ≤ 4096) (e : am_sh h o = some (t, n)) : n ≤ 4096 := by
  unfold am_sh at e
  cases hq : Nat.beq o 3000000 with
  | false =>
    rw [hq] at e
    exact dt_so e
  | true =>
    rw [hq] at e
    cases e
    exact hb
theorem dt_big {h : am_H} {q : Nat} {x : Nat × Nat} (e : am_sh h (5000000 + q) = some x) : False := by
  unfold am_sh at e
  have hb3 : Nat.beq (5000000 + q) 3000000 = false := by
    cases hb : Nat.beq (5000000 + q) 3000000 with
    | false => rfl
    | true => exact absurd (Nat.eq_of_beq_eq_true hb) (by omega)
  rw [hb3] at e
  unfold am_so at e
  have e : (bif Nat.blt (5000000 + q) h.2.2.2.2 then am_shl[5000000 + q]? else none) = some x := e
  cases hb : Nat.blt (5000000 + q) h.2.2.2.2 with
  | false =>
    rw [hb] at e
    cases e
  | true =>
    rw [hb] at e
    have hlen : am_shl.length ≤ 175 := by decide +kernel
    have := (List.getElem?_eq_some_iff.mp e).1
    omega
theorem dt_nI {i j : Nat} (hi : i < 4096) (hj : j < 4096) (e : nI i = nI j) : i = j := by
  have e1 : (nI i).toInt = (nI j).toInt := by rw [e]
  rw [nI_toInt (by omega), nI_toInt (by omega)] at e1
  omega
theorem dt_sln : ∀ q, q < 26 → am_sln.getD q 0 ≤ 4096 := by decide +kernel
theorem dt_stp {cp1 cp2 cp : am_P} {nL lim : Nat} {rt : Option FieldType} {pc : Nat} {r : am_R} {lv : am_V} {st : List Value} {h : am_H} {K1 K2 : Nat → am_V → List Value → am_H → Prop} {Q1 Q2 : am_Q}
    (hcp : ∀ n As h Q1 Q2, h.2.2.2.1 ≤ 4096 → cp1 n As h Q1 → cp2 n As h Q2 → cp n As h (fun v h' => (Q1 v h' ∧ Q2 v h') ∧ h'.2.2.2.1 = h.2.2.2.1)) (hb : h.2.2.2.1 ≤ 4096) (k1 : am_stp cp1 nL lim rt pc r lv st h K1 Q1) (k2 : am_stp cp2 nL lim rt pc r lv st h K2 Q2) :
    am_stp cp nL lim rt pc r lv st h (fun pc lv st h' => (K1 pc lv st h' ∧ K2 pc lv st h') ∧ h'.2.2.2.1 = h.2.2.2.1) (fun v h' => (Q1 v h' ∧ Q2 v h') ∧ h'.2.2.2.1 = h.2.2.2.1) := by
  obtain ⟨i, nx, a, b, c, d⟩ := r
  cases i
  case iconst n => exact ⟨⟨k1, k2⟩, rfl⟩
  case bipush n => exact ⟨⟨k1, k2⟩, rfl⟩
  case sipush n => exact ⟨⟨k1, k2⟩, rfl⟩
  case lconst n => exact ⟨⟨k1, k2⟩, rfl⟩
  case ldc2_w n => exact ⟨⟨k1, k2⟩, rfl⟩
  case goto n => exact ⟨⟨k1, k2⟩, rfl⟩
  case ldc_w n =>
    simp only [am_stp] at k1 k2 ⊢
    cases hq : Nat.beq b 1 with
    | true =>
      rw [hq] at k1 k2
      exact ⟨⟨k1, k2⟩, by trivial⟩
    | false =>
      rw [hq] at k1 k2
      exact ⟨⟨k1, k2⟩, by trivial⟩
  case ldc n =>
    simp only [am_stp] at k1 k2 ⊢
    cases hq : Nat.beq b 1 with
    | true =>
      rw [hq] at k1 k2
      exact ⟨⟨k1, k2⟩, by trivial⟩
    | false =>
      rw [hq] at k1 k2
      exact ⟨⟨k1, k2⟩, by trivial⟩
  case getstatic n =>
    simp only [am_stp] at k1 k2 ⊢
    cases hq : Nat.beq b 1 with
    | true =>
      rw [hq] at k1 k2
      exact ⟨⟨k1, k2⟩, by trivial⟩
    | false =>
      rw [hq] at k1 k2
      exact ⟨⟨k1, k2⟩, by trivial⟩
  case iload_n k => exact dt_li k1 k2 (fun _ a b => ⟨⟨a, b⟩, by trivial⟩)
  case iload k => exact dt_li k1 k2 (fun _ a b => ⟨⟨a, b⟩, by trivial⟩)
  case lload_n k => exact dt_ll k1 k2 (fun _ a b => ⟨⟨a, b⟩, by trivial⟩)
  case lload k => exact dt_ll k1 k2 (fun _ a b => ⟨⟨a, b⟩, by trivial⟩)
  case aload_n k => exact dt_la k1 k2 (fun _ a b => ⟨⟨a, b⟩, by trivial⟩)
  case aload k => exact dt_la k1 k2 (fun _ a b => ⟨⟨a, b⟩, by trivial⟩)
  case istore_n k => exact dt_pI k1 k2 (fun _ _ a b => ⟨a.1, ⟨a.2, b.2⟩, by trivial⟩)
  case istore k => exact dt_pI k1 k2 (fun _ _ a b => ⟨a.1, ⟨a.2, b.2⟩, by trivial⟩)
  case lstore_n k => exact dt_pL k1 k2 (fun _ _ a b => ⟨a.1, ⟨a.2, b.2⟩, by trivial⟩)
  case lstore k => exact dt_pL k1 k2 (fun _ _ a b => ⟨a.1, ⟨a.2, b.2⟩, by trivial⟩)
  case astore_n k => exact dt_pR k1 k2 (fun _ _ a b => ⟨a.1, ⟨a.2, b.2⟩, by trivial⟩)
  case astore k => exact dt_pR k1 k2 (fun _ _ a b => ⟨a.1, ⟨a.2, b.2⟩, by trivial⟩)
  case iinc k n => exact dt_li k1 k2 (fun _ a b => ⟨a.1, ⟨a.2, b.2⟩, by trivial⟩)
  case iadd => exact dt_pI k1 k2 (fun _ _ a b => dt_pI a b (fun _ _ a b => ⟨⟨a, b⟩, by trivial⟩))
  case isub => exact dt_pI k1 k2 (fun _ _ a b => dt_pI a b (fun _ _ a b => ⟨⟨a, b⟩, by trivial⟩))
  case imul => exact dt_pI k1 k2 (fun _ _ a b => dt_pI a b (fun _ _ a b => ⟨⟨a, b⟩, by trivial⟩))
  case iand => exact dt_pI k1 k2 (fun _ _ a b => dt_pI a b (fun _ _ a b => ⟨⟨a, b⟩, by trivial⟩))
  case ior => exact dt_pI k1 k2 (fun _ _ a b => dt_pI a b (fun _ _ a b => ⟨⟨a, b⟩, by trivial⟩))
  case ixor => exact dt_pI k1 k2 (fun _ _ a b => dt_pI a b (fun _ _ a b => ⟨⟨a, b⟩, by trivial⟩))
  case ishl => exact dt_pI k1 k2 (fun _ _ a b => dt_pI a b (fun _ _ a b => ⟨⟨a, b⟩, by trivial⟩))
  case ishr => exact dt_pI k1 k2 (fun _ _ a b => dt_pI a b (fun _ _ a b => ⟨⟨a, b⟩, by trivial⟩))
  case iushr => exact dt_pI k1 k2 (fun _ _ a b => dt_pI a b (fun _ _ a b => ⟨⟨a, b⟩, by trivial⟩))
  case idiv => exact dt_pI k1 k2 (fun _ _ a b => dt_pI a b (fun _ _ a b => ⟨a.1, ⟨a.2, b.2⟩, by trivial⟩))
  case irem => exact dt_pI k1 k2 (fun _ _ a b => dt_pI a b (fun _ _ a b => ⟨a.1, ⟨a.2, b.2⟩, by trivial⟩))
  case ladd => exact dt_pL k1 k2 (fun _ _ a b => dt_pL a b (fun _ _ a b => ⟨⟨a, b⟩, by trivial⟩))
  case lsub => exact dt_pL k1 k2 (fun _ _ a b => dt_pL a b (fun _ _ a b => ⟨⟨a, b⟩, by trivial⟩))
  case lmul => exact dt_pL k1 k2 (fun _ _ a b => dt_pL a b (fun _ _ a b => ⟨⟨a, b⟩, by trivial⟩))
  case land => exact dt_pL k1 k2 (fun _ _ a b => dt_pL a b (fun _ _ a b => ⟨⟨a, b⟩, by trivial⟩))
  case lor => exact dt_pL k1 k2 (fun _ _ a b => dt_pL a b (fun _ _ a b => ⟨⟨a, b⟩, by trivial⟩))
  case lcmp => exact dt_pL k1 k2 (fun _ _ a b => dt_pL a b (fun _ _ a b => ⟨⟨a, b⟩, by trivial⟩))
  case ldiv => exact dt_pL k1 k2 (fun _ _ a b => dt_pL a b (fun _ _ a b => ⟨a.1, ⟨a.2, b.2⟩, by trivial⟩))
  case lrem => exact dt_pL k1 k2 (fun _ _ a b => dt_pL a b (fun _ _ a b => ⟨a.1, ⟨a.2, b.2⟩, by trivial⟩))
  case lshl => exact dt_pI k1 k2 (fun _ _ a b => dt_pL a b (fun _ _ a b => ⟨⟨a, b⟩, by trivial⟩))
  case lshr => exact dt_pI k1 k2 (fun _ _ a b => dt_pL a b (fun _ _ a b => ⟨⟨a, b⟩, by trivial⟩))
  case lushr => exact dt_pI k1 k2 (fun _ _ a b => dt_pL a b (fun _ _ a b => ⟨⟨a, b⟩, by trivial⟩))
  case i2b => exact dt_pI k1 k2 (fun _ _ a b => ⟨⟨a, b⟩, by trivial⟩)
  case ineg => exact dt_pI k1 k2 (fun _ _ a b => ⟨⟨a, b⟩, by trivial⟩)
  case i2l => exact dt_pI k1 k2 (fun _ _ a b => ⟨⟨a, b⟩, by trivial⟩)
  case i2c => exact dt_pI k1 k2 (fun _ _ a b => ⟨⟨a, b⟩, by trivial⟩)
  case l2i => exact dt_pL k1 k2 (fun _ _ a b => ⟨⟨a, b⟩, by trivial⟩)
  case dup => exact dt_pV k1 k2 (fun _ _ a b => ⟨a.1, ⟨a.2, b.2⟩, by trivial⟩)
  case pop => exact dt_pV k1 k2 (fun _ _ a b => ⟨a.1, ⟨a.2, b.2⟩, by trivial⟩)
  case dup2 => exact dt_pV k1 k2 (fun _ _ a b => dt_pV a b (fun _ _ a b => ⟨a.1, a.2.1, ⟨a.2.2, b.2.2⟩, by trivial⟩))
  case if_icmp w n => exact dt_pI k1 k2 (fun _ _ a b => dt_pI a b (fun _ _ a b => ⟨fun z => ⟨⟨a.1 z, b.1 z⟩, by trivial⟩, fun z => ⟨⟨a.2 z, b.2 z⟩, by trivial⟩⟩))
  case ifCond w n => exact dt_pI k1 k2 (fun _ _ a b => ⟨fun z => ⟨⟨a.1 z, b.1 z⟩, by trivial⟩, fun z => ⟨⟨a.2 z, b.2 z⟩, by trivial⟩⟩)
  case tableswitch x y z w => exact dt_pI k1 k2 (fun _ _ a b => ⟨fun z => ⟨⟨a.1 z, b.1 z⟩, by trivial⟩, fun j u v => ⟨⟨a.2 j u v, b.2 j u v⟩, by trivial⟩⟩)
  case lookupswitch x y => exact dt_pI k1 k2 (fun _ _ a b => ⟨⟨a, b⟩, by trivial⟩)
  case getfield n =>
    simp only [am_stp] at k1 k2 ⊢
    cases hq : Nat.beq b 20 with
    | true =>
      rw [hq] at k1 k2
      refine dt_pR k1 k2 (fun o r a b => ?_)
      obtain ⟨q, a1, a2, a3⟩ := a
      obtain ⟨q', b1, b2, b3⟩ := b
      have e : q' = q := by omega
      subst e
      exact ⟨q', a1, a2, ⟨a3, b3⟩, by trivial⟩
    | false =>
      rw [hq] at k1 k2
      exact dt_pR k1 k2 (fun o r a b => ⟨a.1, ⟨a.2, b.2⟩, by trivial⟩)
  case putfield n =>
    simp only [am_stp] at k1 k2 ⊢
    rcases hq : am_kd b a with _ | _ | m
    · simp only [hq] at k1 k2 ⊢
      exact dt_pI k1 k2 (fun _ _ a b => dt_pR a b (fun _ _ a b => ⟨a.1, a.2.1, a.2.2.1, ⟨a.2.2.2, b.2.2.2⟩, by trivial⟩))
    · simp only [hq] at k1 k2 ⊢
      exact dt_pL k1 k2 (fun _ _ a b => dt_pR a b (fun _ _ a b => ⟨a.1, ⟨a.2, b.2⟩, by trivial⟩))
    · simp only [hq] at k1 k2 ⊢
      exact dt_pR k1 k2 (fun _ _ a b => dt_pR a b (fun _ _ a b => ⟨a.1, ⟨a.2, b.2⟩, by trivial⟩))
  case iaload =>
    refine dt_pI k1 k2 (fun _ _ a b => dt_pR a b (fun _ _ a b => ?_))
    obtain ⟨j, n, a1, a2, a3, a4⟩ := a
    obtain ⟨j', n', b1, b2, b3, b4⟩ := b
    have en : n' = n := by
      have e := a1.symm.trans b1
      simp only [Option.some.injEq, Prod.mk.injEq] at e
      exact e.2.symm
    have hn := dt_sh hb a1
    have ej : j' = j := dt_nI (by omega) (by omega) (b3.symm.trans a3)
    subst ej
    exact ⟨j', n, a1, a2, a3, ⟨a4, b4⟩, by trivial⟩
  case caload =>
    refine dt_pI k1 k2 (fun _ _ a b => dt_pR a b (fun _ _ a b => ?_))
    obtain ⟨j, n, a1, a2, a3, a4⟩ := a
    obtain ⟨j', n', b1, b2, b3, b4⟩ := b
    have en : n' = n := by
      have e := a1.symm.trans b1
      simp only [Option.some.injEq, Prod.mk.injEq] at e
      exact e.2.symm
    have hn := dt_sh hb a1
    have ej : j' = j := dt_nI (by omega) (by omega) (b3.symm.trans a3)
    subst ej
    exact ⟨j', n, a1, a2, a3, ⟨a4, b4⟩, by trivial⟩
  case laload =>
    refine dt_pI k1 k2 (fun _ _ a b => dt_pR a b (fun _ _ a b => ?_))
    obtain ⟨j, n, a1, a2, a3, a4⟩ := a
    obtain ⟨j', n', b1, b2, b3, b4⟩ := b
    have en : n' = n := by
      have e := a1.symm.trans b1
      simp only [Option.some.injEq, Prod.mk.injEq] at e
      exact e.2.symm
    have hn := dt_sh hb a1
    have ej : j' = j := dt_nI (by omega) (by omega) (b3.symm.trans a3)
    subst ej
    exact ⟨j', n, a1, a2, a3, ⟨a4, b4⟩, by trivial⟩
  case iastore =>
    refine dt_pI k1 k2 (fun _ _ a b => dt_pI a b (fun _ _ a b => dt_pR a b (fun _ _ a b => ?_)))
    obtain ⟨j, n, a1, a2, a3, a4⟩ := a
    obtain ⟨j', n', b1, b2, b3, b4⟩ := b
    have en : n' = n := by
      have e := a1.symm.trans b1
      simp only [Option.some.injEq, Prod.mk.injEq] at e
      exact e.2.symm
    have hn := dt_so a1
    have ej : j' = j := dt_nI (by omega) (by omega) (b3.symm.trans a3)
    subst ej
    exact ⟨j', n, a1, a2, a3, ⟨a4, b4⟩, by trivial⟩
  case castore =>
    refine dt_pI k1 k2 (fun _ _ a b => dt_pI a b (fun _ _ a b => dt_pR a b (fun _ _ a b => ?_)))
    obtain ⟨j, n, a1, a2, a3, a4⟩ := a
    obtain ⟨j', n', b1, b2, b3, b4⟩ := b
    have en : n' = n := by
      have e := a1.symm.trans b1
      simp only [Option.some.injEq, Prod.mk.injEq] at e
      exact e.2.symm
    have hn := dt_so a1
    have ej : j' = j := dt_nI (by omega) (by omega) (b3.symm.trans a3)
    subst ej
    exact ⟨j', n, a1, a2, a3, ⟨a4, b4⟩, by trivial⟩
  case bastore =>
    refine dt_pI k1 k2 (fun _ _ a b => dt_pI a b (fun _ _ a b => dt_pR a b (fun _ _ a b => ?_)))
    obtain ⟨j, n, a1, a2, a3, a4⟩ := a
    obtain ⟨j', n', b1, b2, b3, b4⟩ := b
    have en : n' = n := by
      have e := a1.symm.trans b1
      simp only [Option.some.injEq, Prod.mk.injEq] at e
      exact e.2.symm
    have hn := dt_so a1
    have ej : j' = j := dt_nI (by omega) (by omega) (b3.symm.trans a3)
    subst ej
    exact ⟨j', n, a1, a2, a3, ⟨a4, b4⟩, by trivial⟩
  case lastore =>
    refine dt_pL k1 k2 (fun _ _ a b => dt_pI a b (fun _ _ a b => dt_pR a b (fun _ _ a b => ?_)))
    obtain ⟨j, n, a1, a2, a3, a4⟩ := a
    obtain ⟨j', n', b1, b2, b3, b4⟩ := b
    have en : n' = n := by
      have e := a1.symm.trans b1
      simp only [Option.some.injEq, Prod.mk.injEq] at e
      exact e.2.symm
    have hn := dt_so a1
    have ej : j' = j := dt_nI (by omega) (by omega) (b3.symm.trans a3)
    subst ej
    exact ⟨j', n, a1, a2, a3, ⟨a4, b4⟩, by trivial⟩
  case baload =>
    refine dt_pI k1 k2 (fun _ _ a b => dt_pR a b (fun _ _ a b => ?_))
    rcases a with ⟨j, n, a1, a2, a3, a4⟩ | ⟨q, j, a0, a1, a2, a3, a4⟩
    · rcases b with ⟨j', n', b1, b2, b3, b4⟩ | ⟨q', j', b0, b1, b2, b3, b4⟩
      · have en : n' = n := by
          have e := a1.symm.trans b1
          simp only [Option.some.injEq, Prod.mk.injEq] at e
          exact e.2.symm
        have hn := dt_sh hb a1
        have ej : j' = j := dt_nI (by omega) (by omega) (b3.symm.trans a3)
        subst ej
        exact Or.inl ⟨j', n, a1, a2, a3, ⟨a4, b4⟩, rfl⟩
      · rw [b1] at a1
        exact (dt_big a1).elim
    · rcases b with ⟨j', n', b1, b2, b3, b4⟩ | ⟨q', j', b0, b1, b2, b3, b4⟩
      · rw [a1] at b1
        exact (dt_big b1).elim
      · have e : q' = q := by omega
        subst e
        have hn := dt_sln q' a0
        have ej : j' = j := dt_nI (by omega) (by omega) (b3.symm.trans a3)
        subst ej
        exact Or.inr ⟨q', j', a0, a1, a2, a3, ⟨a4, b4⟩, rfl⟩
  case arraylength =>
    refine dt_pR k1 k2 (fun _ _ a b => ?_)
    rcases a with ⟨t, n, a1, a2, a3⟩ | ⟨q, a0, a1, a2⟩
    · rcases b with ⟨t', n', b1, b2, b3⟩ | ⟨q', b0, b1, b2⟩
      · have e := a1.symm.trans b1
        simp only [Option.some.injEq, Prod.mk.injEq] at e
        obtain ⟨-, rfl⟩ := e
        exact Or.inl ⟨t, n, a1, a2, ⟨a3, b3⟩, rfl⟩
      · rw [b1] at a1
        exact (dt_big a1).elim
    · rcases b with ⟨t', n', b1, b2, b3⟩ | ⟨q', b0, b1, b2⟩
      · rw [a1] at b1
        exact (dt_big b1).elim
      · have e : q' = q := by omega
        subst e
        exact Or.inr ⟨q', a0, a1, ⟨a2, b2⟩, rfl⟩
  case aaload =>
    refine dt_pI k1 k2 (fun _ _ a b => dt_pR a b (fun _ _ a b => ?_))
    obtain ⟨j, n, a1, a2, a3, a4⟩ := a
    obtain ⟨j', n', b1, b2, b3, b4⟩ := b
    have hn : n ≤ 4096 := a1.elim (dt_sh hb) (dt_sh hb)
    have hn' : n' ≤ 4096 := b1.elim (dt_sh hb) (dt_sh hb)
    have ej : j' = j := dt_nI (by omega) (by omega) (b3.symm.trans a3)
    subst ej
    exact ⟨j', n, a1, a2, a3, ⟨a4, b4⟩, rfl⟩
  case aastore =>
    refine dt_pR k1 k2 (fun _ _ a b => dt_pI a b (fun _ _ a b => dt_pR a b (fun _ _ a b => ?_)))
    obtain ⟨j, n, a1, a2, a3, a4⟩ := a
    obtain ⟨j', n', b1, b2, b3, b4⟩ := b
    have hn : n ≤ 4096 := a1.elim (fun z => dt_so z.1) (fun z => dt_so z.1)
    have hn' : n' ≤ 4096 := b1.elim (fun z => dt_so z.1) (fun z => dt_so z.1)
    have ej : j' = j := dt_nI (by omega) (by omega) (b3.symm.trans a3)
    subst ej
    exact ⟨j', n, a1, a2, a3, ⟨a4, b4⟩, rfl⟩
  case new n => exact ⟨k1.1, k1.2.1, ⟨k1.2.2, k2.2.2⟩, rfl⟩
  case newarray w =>
    refine dt_pI k1 k2 (fun _ _ a b => ?_)
    obtain ⟨n, a1, a2, a3, a4⟩ := a
    obtain ⟨n', b1, b2, b3, b4⟩ := b
    exact ⟨n, a1, a2, a3, ⟨a4, b4⟩, rfl⟩
  case anewarray w =>
    refine dt_pI k1 k2 (fun _ _ a b => ?_)
    obtain ⟨n, a1, a2, a3, a4⟩ := a
    obtain ⟨n', b1, b2, b3, b4⟩ := b
    exact ⟨n, a1, a2, a3, ⟨a4, b4⟩, rfl⟩
  case invokevirtual n =>
    simp only [am_stp] at k1 k2 ⊢
    split at k1
    · rename_i As o r e
      simp only [e] at k2 ⊢
      exact ⟨k1.1, k1.2.1, k1.2.2.1, hcp _ _ _ _ _ hb k1.2.2.2 k2.2.2.2⟩
    · exact k1.elim
  case invokespecial n =>
    simp only [am_stp] at k1 k2 ⊢
    split at k1
    · rename_i As o r e
      simp only [e] at k2 ⊢
      refine ⟨k1.1, ?_⟩
      have k1 := k1.2
      have k2 := k2.2
      cases hq : Nat.beq a 1 with
      | true =>
        rw [hq] at k1 k2
        exact ⟨k1.1, ⟨k1.2, k2.2⟩, by trivial⟩
      | false =>
        rw [hq] at k1 k2
        exact ⟨k1.1, hcp _ _ _ _ _ hb k1.2 k2.2⟩
    · exact k1.elim
  case invokestatic n =>
    simp only [am_stp] at k1 k2 ⊢
    split at k1
    · rename_i As r e
      simp only [e] at k2 ⊢
      exact ⟨k1.1, k1.2.1, hcp _ _ _ _ _ hb k1.2.2 k2.2.2⟩
    · exact k1.elim
  case ireturn =>
    simp only [am_stp] at k1 k2 ⊢
    split at k1
    · exact ⟨k1.1, ⟨k1.2, k2.2⟩, by trivial⟩
    · exact k1.elim
  case lreturn =>
    simp only [am_stp] at k1 k2 ⊢
    split at k1
    · exact ⟨k1.1, ⟨k1.2, k2.2⟩, by trivial⟩
    · exact k1.elim
  case return_ =>
    simp only [am_stp] at k1 k2 ⊢
    split at k1
    · exact ⟨k1.1, ⟨k1.2, k2.2⟩, by trivial⟩
    · exact k1.elim
  all_goals exact False.elim k1
theorem dt_W {cp1 cp2 cp : am_P} {nL lim B : Nat} {rt : Option FieldType} {cod : Nat → Option am_R} {Q1 Q2 : am_Q} {pc : Nat} {lv : am_V} {st : List Value} {h : am_H} (hB : B ≤ 4096)
    (hcp : ∀ n As h Q1 Q2, h.2.2.2.1 ≤ 4096 → cp1 n As h Q1 → cp2 n As h Q2 → cp n As h (fun v h' => (Q1 v h' ∧ Q2 v h') ∧ h'.2.2.2.1 = h.2.2.2.1)) (k1 : am_W cp1 nL lim rt cod Q1 pc lv st h) (hb : h.2.2.2.1 = B) (k2 : am_W cp2 nL lim rt cod Q2 pc lv st h) : am_W cp nL lim rt cod (fun v h' => (Q1 v h' ∧ Q2 v h') ∧ h'.2.2.2.1 = B) pc lv st h :=
  k1 (fun pc lv st h => h.2.2.2.1 = B → am_W cp2 nL lim rt cod Q2 pc lv st h → am_W cp nL lim rt cod (fun v h' => (Q1 v h' ∧ Q2 v h') ∧ h'.2.2.2.1 = B) pc lv st h) (fun _ _ _ _ z => z.elim) (fun pc lv st h r K0 Q0 hc hs hk hq hb k2 => by
    obtain ⟨K2, Q2', hs2, hk2, hq2⟩ := am_X.inv1 (fun z => z) hc k2
    have key := dt_stp hcp (by rw [hb]; exact hB) hs hs2
    exact fun P hE hP => hP pc lv st h r _ _ hc key (fun pc lv st h' z => hk pc lv st h' z.1.1 (z.2.trans hb) (hk2 pc lv st h' z.1.2) P hE hP) (fun v h' z => ⟨⟨hq v h' z.1.1, hq2 v h' z.1.2⟩, z.2.trans hb⟩)) hb k2
theorem dt_call {cods : Nat → Nat → Option am_R} : ∀ (d1 d2 n : Nat) (As : List Value) (h : am_H) (Q1 Q2 : am_Q), h.2.2.2.1 ≤ 4096 → am_call cods d1 n As h Q1 → am_call cods d2 n As h Q2 → am_call cods (max d1 d2) n As h (fun v h' => (Q1 v h' ∧ Q2 v h') ∧ h'.2.2.2.1 = h.2.2.2.1) := by
  intro d1
  induction d1 with
  | zero => intro d2 n As h Q1 Q2 hb k1 k2; exact k1.elim
  | succ d1 ih1 =>
    intro d2
    induction d2 with
    | zero => intro n As h Q1 Q2 hb k1 k2; exact k2.elim
    | succ d2 ih2 =>
      intro n As h Q1 Q2 hb k1 k2
      rcases k1 with k1 | k1
      · exact (ih1 (d2 + 1) n As h Q1 Q2 hb k1 k2).up (by omega)
      · rcases k2 with k2 | k2
        · exact (ih2 n As h Q1 Q2 hb (Or.inr k1) k2).up (by omega)
        · rw [show max (d1 + 1) (d2 + 1) = max d1 d2 + 1 by omega]
          exact Or.inr ⟨k1.1, (dt_W hb (ih1 d2) k1.2 rfl k2.2).mono (fun v h' q => ⟨q.1.1.1, ⟨⟨q.1.1.2, q.1.2.2⟩, q.2⟩⟩)⟩
/-- two contracts of one call, joined -/
theorem am_det {d n : Nat} {As : List Value} {h : am_H} {Q1 Q2 Q : am_Q} (hb : h.2.2.2.1 ≤ 4096) (k1 : am_call am_cod d n As h Q1) (k2 : am_call am_cod d n As h Q2) (hQ : ∀ v h', Q1 v h' → Q2 v h' → Q v h') : am_call am_cod d n As h Q := by
  have k := dt_call d d n As h Q1 Q2 hb k1 k2
  rw [Nat.max_self] at k
  exact k.mono (fun v h' q => hQ v h' q.1.1 q.1.2)
end
section
/-! THE TOKENS AS FUNCTIONS OF THE TAPE -/
def tk_bl (x : Int32) : Bool := decide (x = (Int8.ofInt 10).toInt32) || decide (x = (Int8.ofInt 32).toInt32)
def tk_rn (f : Int32 → Bool) (T : Nat → Int32) (sz : Nat) : Nat → Nat → Nat
  | 0, k => k
  | m + 1, k => bif decide (k < sz) && f (T k) then tk_rn f T sz m (k + 1) else k
/-- the first place from k on that isn't f, or the end -/
def tk_go (f : Int32 → Bool) (T : Nat → Int32) (sz k : Nat) : Nat := tk_rn f T sz sz k
theorem tk_rn_st {f : Int32 → Bool} {T : Nat → Int32} {sz : Nat} : ∀ (m m' k : Nat), sz ≤ k + m → sz ≤ k + m' → tk_rn f T sz m k = tk_rn f T sz m' k
  | 0, 0, _, _, _ => rfl
  | 0, m' + 1, k, h1, _ => by
    show k = (bif decide (k < sz) && f (T k) then tk_rn f T sz m' (k + 1) else k)
    rw [decide_eq_false (by omega : ¬ k < sz)]
    rfl
  | m + 1, 0, k, _, h2 => by
    show (bif decide (k < sz) && f (T k) then tk_rn f T sz m (k + 1) else k) = k
    rw [decide_eq_false (by omega : ¬ k < sz)]
    rfl
  | m + 1, m' + 1, k, h1, h2 => by
    show (bif decide (k < sz) && f (T k) then tk_rn f T sz m (k + 1) else k) = (bif decide (k < sz) && f (T k) then tk_rn f T sz m' (k + 1) else k)
    rw [tk_rn_st m m' (k + 1) (by omega) (by omega)]
theorem tk_go_y {f : Int32 → Bool} {T : Nat → Int32} {sz k : Nat} (hk : k < sz) (hf : f (T k) = true) : tk_go f T sz k = tk_go f T sz (k + 1) := by
  unfold tk_go
  rw [tk_rn_st sz (sz + 1) k (by omega) (by omega)]
  show (bif decide (k < sz) && f (T k) then tk_rn f T sz sz (k + 1) else k) = _
  rw [decide_eq_true hk, hf]
  rfl
theorem tk_go_n {f : Int32 → Bool} {T : Nat → Int32} {sz k : Nat} (hn : k < sz → f (T k) = false) : tk_go f T sz k = k := by
  unfold tk_go
  rw [tk_rn_st sz (sz + 1) k (by omega) (by omega)]
  show (bif decide (k < sz) && f (T k) then tk_rn f T sz sz (k + 1) else k) = k
  by_cases hk : k < sz
  · rw [hn hk, Bool.and_false]
    rfl
  · rw [decide_eq_false hk]
    rfl
def tk_rk (x : Int32) : Int32 := bif pz_let x then x - (Int8.ofInt 96).toInt32 else x - (Int8.ofInt 21).toInt32
def tk_sn (x : Int32) : Bool := decide (x = (Int8.ofInt 40).toInt32) || (decide (x = (Int8.ofInt 41).toInt32) || (decide (x = (Int8.ofInt 59).toInt32) || (decide (x = (Int8.ofInt 61).toInt32) || (decide (x = (Int8.ofInt 60).toInt32) || (decide (x = (Int8.ofInt 43).toInt32) || (decide (x = (Int8.ofInt 45).toInt32) || decide (x = (Int8.ofInt 42).toInt32)))))))
/-- what the first j letters, digits from p on are worth -/
def tk_lv (T : Nat → Int32) (p : Nat) : Nat → Int64
  | 0 => Int64.ofNat 0
  | j + 1 => bif Nat.blt j 8 then am_kl 26 * tk_lv T p j + (tk_rk (T (p + j))).toInt64 else tk_lv T p j
def tk_dv (T : Nat → Int32) (p : Nat) : Nat → Int64
  | 0 => Int64.ofNat 0
  | j + 1 => bif Nat.blt j 4 then am_kl 27 * tk_dv T p j + (T (p + j)).toInt64 - am_kl 28 else tk_dv T p j
/-- behind the token at p; its kind; its worth -/
def tk_en (T : Nat → Int32) (sz p : Nat) : Nat := bif pz_let (T p) then tk_go pz_let T sz p else bif pz_dig (T p) then tk_go pz_dig T sz p else p + 1
def tk_kd (T : Nat → Int32) (sz p : Nat) : Int32 := bif pz_let (T p) then (bif Nat.blt 8 (tk_go pz_let T sz p - p) then 4 else 1) else bif pz_dig (T p) then (bif Nat.blt 4 (tk_go pz_dig T sz p - p) then 4 else 2) else bif tk_sn (T p) then 3 else 4
def tk_vl (T : Nat → Int32) (sz p : Nat) : Int64 := bif pz_let (T p) then tk_lv T p (tk_go pz_let T sz p - p) else bif pz_dig (T p) then tk_dv T p (tk_go pz_dig T sz p - p) else (T p).toInt64
def tk_pl (T : Nat → Int32) (sz : Nat) : Nat → Nat
  | 0 => tk_go tk_bl T sz 0
  | i + 1 => tk_go tk_bl T sz (tk_en T sz (tk_pl T sz i))
variable {h h0 : am_H} {sz n : Nat} {T : Nat → Int32}
theorem tk_sub {a b : Nat} (h : a ≤ b) : nI b - nI a = nI (b - a) := by
  have e : nI b = nI (b - a) + nI a := by
    rw [nI_add, Nat.sub_add_cancel h]
  rw [e, Int32.add_sub_cancel]
theorem tk_blt {a b : Nat} : (Nat.blt a b = true) ↔ a < b := ⟨fun h => ae_blt h, fun h => Nat.ble_eq_true_of_le h⟩
theorem tk_bltf {a b : Nat} (h : ¬ a < b) : Nat.blt a b = false := by
  cases hb : Nat.blt a b with
  | false => rfl
  | true => exact absurd (tk_blt.mp hb) h
theorem tk_rank {Q : am_Q} {x : Int32} (hP : pc_P h) (hQ : Q (some (.int (tk_rk x))) h) : am_call am_cod 2 191 [.int x] h Q := by
  unfold tk_rk at hQ
  refine pz_call (n := 191) (nL := 1) (rt := (some .int)) (rows := am_r191) (d := 1) (by decide +kernel) (by decide +kernel) rfl (by funext pc; rfl) (pc_175 hP) (by exact Nat.le_of_ble_eq_true rfl) ?_
  refine am_goX 2 (show 0 ≤ 8 ∧ h.2.2.2.2 + am_al 190 ≤ 175 ∧ am_call am_cod 1 190 [.int x] h (fun vv h' => pz_S 1 (some .int) am_r191 1 Q 4 [(0, .int x)] (vv.toList ++ []) h') from ⟨by decide, pc_lim hP rfl, pz_letC hP ?_⟩)
  cases e : pz_let x with
  | true =>
    rw [e] at hQ
    refine am_goX 1 (show ((pz_b true) = 0 → pz_S 1 (some .int) am_r191 1 Q 14 [(0, .int x)] [] h) ∧ (¬ ((pz_b true) = 0) → pz_S 1 (some .int) am_r191 1 Q 7 [(0, .int x)] [] h) from ⟨fun hz => absurd hz (by decide), fun _ => ?_⟩)
    exact am_goX 5 (show (∃ ty, (some .int) = some ty ∧ narrow ty (.int ((x - (Int8.ofInt 96).toInt32))) = .int ((x - (Int8.ofInt 96).toInt32))) ∧ h.2.2.2.2 = 175 ∧ _ from ⟨⟨.int, rfl, rfl⟩, pc_175 hP, hQ⟩)
  | false =>
    rw [e] at hQ
    refine am_goX 1 (show ((pz_b false) = 0 → pz_S 1 (some .int) am_r191 1 Q 14 [(0, .int x)] [] h) ∧ (¬ ((pz_b false) = 0) → pz_S 1 (some .int) am_r191 1 Q 7 [(0, .int x)] [] h) from ⟨fun _ => ?_, fun hz => absurd rfl hz⟩)
    exact am_goX 4 (show (∃ ty, (some .int) = some ty ∧ narrow ty (.int ((x - (Int8.ofInt 21).toInt32))) = .int ((x - (Int8.ofInt 21).toInt32))) ∧ h.2.2.2.2 = 175 ∧ _ from ⟨⟨.int, rfl, rfl⟩, pc_175 hP, hQ⟩)
theorem tk_sgof {Q : am_Q} {x : Int32} (hP : pc_P h) (hQ : Q (some (.int (pz_b (tk_sn x)))) h) : am_call am_cod 1 193 [.int x] h Q := by
  refine pz_call (n := 193) (nL := 1) (rt := (some .boolean)) (rows := am_r193) (d := 0) (by decide +kernel) (by decide +kernel) rfl (by funext pc; rfl) (pc_175 hP) (by exact Nat.le_of_ble_eq_true rfl) ?_
  have k1 : tk_sn x = true → pz_S 1 (some .boolean) am_r193 0 Q 48 [(0, .int x)] [] h := ?_
  rotate_left
  · intro e
    rw [e] at hQ
    exact am_goX 3 (show (∃ ty, (some .boolean) = some ty ∧ narrow ty (.int ((Int32.ofInt 1))) = .int ((Int32.ofInt 1))) ∧ h.2.2.2.2 = 175 ∧ _ from ⟨⟨.boolean, rfl, rfl⟩, pc_175 hP, hQ⟩)
  refine am_goX 3 (show (x = (Int8.ofInt 40).toInt32 → pz_S 1 (some .boolean) am_r193 0 Q 48 [(0, .int x)] [] h) ∧ (¬ (x = (Int8.ofInt 40).toInt32) → pz_S 1 (some .boolean) am_r193 0 Q 6 [(0, .int x)] [] h) from ⟨fun hc => ?_, fun hc => ?_⟩)
  · exact k1 (by unfold tk_sn; simp [hc])
  have c0 := hc
  clear hc
  refine am_goX 3 (show (x = (Int8.ofInt 41).toInt32 → pz_S 1 (some .boolean) am_r193 0 Q 48 [(0, .int x)] [] h) ∧ (¬ (x = (Int8.ofInt 41).toInt32) → pz_S 1 (some .boolean) am_r193 0 Q 12 [(0, .int x)] [] h) from ⟨fun hc => ?_, fun hc => ?_⟩)
  · exact k1 (by unfold tk_sn; simp [hc])
  have c1 := hc
  clear hc
  refine am_goX 3 (show (x = (Int8.ofInt 59).toInt32 → pz_S 1 (some .boolean) am_r193 0 Q 48 [(0, .int x)] [] h) ∧ (¬ (x = (Int8.ofInt 59).toInt32) → pz_S 1 (some .boolean) am_r193 0 Q 18 [(0, .int x)] [] h) from ⟨fun hc => ?_, fun hc => ?_⟩)
  · exact k1 (by unfold tk_sn; simp [hc])
  have c2 := hc
  clear hc
  refine am_goX 3 (show (x = (Int8.ofInt 61).toInt32 → pz_S 1 (some .boolean) am_r193 0 Q 48 [(0, .int x)] [] h) ∧ (¬ (x = (Int8.ofInt 61).toInt32) → pz_S 1 (some .boolean) am_r193 0 Q 24 [(0, .int x)] [] h) from ⟨fun hc => ?_, fun hc => ?_⟩)
  · exact k1 (by unfold tk_sn; simp [hc])
  have c3 := hc
  clear hc
  refine am_goX 3 (show (x = (Int8.ofInt 60).toInt32 → pz_S 1 (some .boolean) am_r193 0 Q 48 [(0, .int x)] [] h) ∧ (¬ (x = (Int8.ofInt 60).toInt32) → pz_S 1 (some .boolean) am_r193 0 Q 30 [(0, .int x)] [] h) from ⟨fun hc => ?_, fun hc => ?_⟩)
  · exact k1 (by unfold tk_sn; simp [hc])
  have c4 := hc
  clear hc
  refine am_goX 3 (show (x = (Int8.ofInt 43).toInt32 → pz_S 1 (some .boolean) am_r193 0 Q 48 [(0, .int x)] [] h) ∧ (¬ (x = (Int8.ofInt 43).toInt32) → pz_S 1 (some .boolean) am_r193 0 Q 36 [(0, .int x)] [] h) from ⟨fun hc => ?_, fun hc => ?_⟩)
  · exact k1 (by unfold tk_sn; simp [hc])
  have c5 := hc
  clear hc
  refine am_goX 3 (show (x = (Int8.ofInt 45).toInt32 → pz_S 1 (some .boolean) am_r193 0 Q 48 [(0, .int x)] [] h) ∧ (¬ (x = (Int8.ofInt 45).toInt32) → pz_S 1 (some .boolean) am_r193 0 Q 42 [(0, .int x)] [] h) from ⟨fun hc => ?_, fun hc => ?_⟩)
  · exact k1 (by unfold tk_sn; simp [hc])
  have c6 := hc
  clear hc
  refine am_goX 3 (show (¬ x = (Int8.ofInt 42).toInt32 → pz_S 1 (some .boolean) am_r193 0 Q 52 [(0, .int x)] [] h) ∧ (¬ ¬ x = (Int8.ofInt 42).toInt32 → pz_S 1 (some .boolean) am_r193 0 Q 48 [(0, .int x)] [] h) from ⟨fun hc => ?_, fun hc => ?_⟩)
  rotate_left
  · exact k1 (by unfold tk_sn; simp [Decidable.not_not.mp hc])
  have e : tk_sn x = false := by
    unfold tk_sn
    rw [decide_eq_false c0, decide_eq_false c1, decide_eq_false c2, decide_eq_false c3, decide_eq_false c4, decide_eq_false c5, decide_eq_false c6, decide_eq_false hc]
    rfl
  rw [e] at hQ
  exact am_goX 2 (show (∃ ty, (some .boolean) = some ty ∧ narrow ty (.int ((Int32.ofInt 0))) = .int ((Int32.ofInt 0))) ∧ h.2.2.2.2 = 175 ∧ _ from ⟨⟨.boolean, rfl, rfl⟩, pc_175 hP, hQ⟩)
/-- n tokens are cut -/
def tx (h0 : am_H) (sz : Nat) (T : Nat → Int32) (n : Nat) (h : am_H) : Prop := ct h0 sz h ∧ (∀ q, h.1 155 q = T q) ∧ ∀ j, j < n → h.1 157 j = nI (tk_pl T sz j) ∧ h.1 156 j = tk_kd T sz (tk_pl T sz j) ∧ h.2.1 158 j = tk_vl T sz (tk_pl T sz j) ∧ tk_pl T sz j < sz
theorem tx_w {o k : Nat} {v : Int32} (q : tx h0 sz T n h) (ho : o = 156 ∨ o = 157) (hk : n ≤ k) (hk2 : k ≤ 1001) (hv : ∀ s ∈ ag_sg o, ag_seg s k v) : tx h0 sz T n (am_wI h o k v) := by
  refine ⟨ct_w q.1 (pz_Mtk (by omega) hk2) (by omega) (by omega) hv, fun p => ?_, fun j hj => ?_⟩
  · rw [em_wn h _ (by omega)]
    exact q.2.1 p
  · obtain ⟨q1, q2, q3, q4⟩ := q.2.2 j hj
    refine ⟨?_, ?_, q3, q4⟩
    · rw [em_wn h _ (by omega)]
      exact q1
    · rw [em_wn h _ (by omega)]
      exact q2
theorem tx_v {p : Nat} {v : Int64} (q : tx h0 sz T n h) (hn : n ≤ 1001) (e1 : h.1 157 n = nI p) (e2 : h.1 156 n = tk_kd T sz p) (e3 : v = tk_vl T sz p) (e4 : p = tk_pl T sz n) (e5 : p < sz) : tx h0 sz T (n + 1) (am_wL h 158 n v) := by
  refine ⟨ct_wl q.1 (pz_Mtk (Or.inr (Or.inr rfl)) hn), q.2.1, fun j hj => ?_⟩
  by_cases ej : j = n
  · subst ej
    rw [← e4]
    exact ⟨e1, e2, (show (if 158 = 158 ∧ j = j then v else h.2.1 158 j) = _ from (if_pos ⟨rfl, rfl⟩).trans e3), e5⟩
  · obtain ⟨q1, q2, q3, q4⟩ := q.2.2 j (by omega)
    exact ⟨q1, q2, (show (if 158 = 158 ∧ j = n then v else h.2.1 158 j) = _ from (if_neg (fun w => ej w.2)).trans q3), q4⟩
/-- behind a token -/
def tk_265 (Q : am_Q) (h0 : am_H) (sz : Nat) (T : Nat → Int32) (n k0 : Nat) : Prop := ∀ (k : Nat) (v : Int64) (h1 : am_H), k0 + 1 ≤ k → k ≤ sz → tx h0 sz T n h1 → h1.1 157 n = nI k0 → h1.1 156 n = tk_kd T sz k0 → v = tk_vl T sz k0 → k = tk_en T sz k0 → pz_S 7 none am_r189 2 Q 265 [(5, .long v), (2, .int (nI k)), (1, .int (nI n)), (0, .ref 154)] [] h1
theorem tk_cl_e {Q : am_Q} {k0 : Nat} (hgl : pz_let (T k0) = true) (hz : sz ≤ 1000) (hn : n ≤ k0) (h265 : tk_265 Q h0 sz T n k0) (hl : tx h0 sz T n h) (hpl : h.1 157 n = nI k0) {k : Nat} {v : Int64} (hk : k0 + 1 ≤ k) (hks : k ≤ sz) (hv : v = tk_lv T k0 (k - k0)) (hq : tk_go pz_let T sz k0 = k) : pz_S 7 none am_r189 2 Q 129 [(5, .long v), (4, .int (nI k0)), (2, .int (nI k)), (1, .int (nI n)), (0, .ref 154)] [] h := by
  have hP := hl.1.1
  have ev : v = tk_vl T sz k0 := by
    unfold tk_vl
    rw [hgl]
    show v = tk_lv T k0 (tk_go pz_let T sz k0 - k0)
    rw [hq]
    exact hv
  have ee : k = tk_en T sz k0 := by
    unfold tk_en
    rw [hgl]
    exact hq.symm
  refine am_goX 2 (show am_sh h 154 = some (11, 0) ∧ pz_S 7 none am_r189 2 Q 133 [(5, .long v), (4, .int (nI k0)), (2, .int (nI k)), (1, .int (nI n)), (0, .ref 154)] [am_rf (h.2.2.1 154 4)] h from ⟨pc_154 hP, ?_⟩)
  rw [pc_r4 hP]
  refine am_goX 5 (show pz_S 7 none am_r189 2 Q 140 [(5, .long v), (4, .int (nI k0)), (2, .int (nI k)), (1, .int (nI n)), (0, .ref 154)] [.int (Int8.ofInt 8).toInt32, .int ((nI k) - (nI k0)), .int (nI n), .ref 156] h from ?_)
  rw [tk_sub (by omega)]
  refine am_goX 1 (show ((nI (k - k0)) ≤ (Int8.ofInt 8).toInt32 → pz_S 7 none am_r189 2 Q 147 [(5, .long v), (4, .int (nI k0)), (2, .int (nI k)), (1, .int (nI n)), (0, .ref 154)] [.int (nI n), .ref 156] h) ∧ (¬ ((nI (k - k0)) ≤ (Int8.ofInt 8).toInt32) → pz_S 7 none am_r189 2 Q 143 [(5, .long v), (4, .int (nI k0)), (2, .int (nI k)), (1, .int (nI n)), (0, .ref 154)] [.int (nI n), .ref 156] h) from ⟨fun hc => ?_, fun hc => ?_⟩)
  · refine am_goX 2 (show ∃ jj nn : Nat, am_so h 156 = some (13, nn) ∧ jj < nn ∧ (nI n) = nI jj ∧ pz_S 7 none am_r189 2 Q 149 [(5, .long v), (4, .int (nI k0)), (2, .int (nI k)), (1, .int (nI n)), (0, .ref 154)] [] (am_wI h 156 jj ((Int32.ofInt 1))) from ⟨n, 1002, pc_w156 hP, by omega, rfl, ?_⟩)
    have hlt : ¬ k - k0 > 8 := by
      have hc1 :  nI (k - k0) ≤ nI 8 := hc
      rw [nI_leI (by omega) (by omega)] at hc1
      omega
    have ek : Int32.ofInt 1 = tk_kd T sz k0 := by
      unfold tk_kd
      rw [hgl]
      show _ = bif Nat.blt 8 (tk_go pz_let T sz k0 - k0) then 4 else 1
      rw [hq, tk_bltf hlt]
      rfl
    have l1 := tx_w (o := 156) (k := n) (v := Int32.ofInt 1) hl (Or.inl rfl) (Nat.le_refl _) (by omega) (pz_sga pz_sg156 (by decide) (by decide))
    have e1 : (am_wI h 156 n (Int32.ofInt 1)).1 157 n = nI k0 := by rw [em_wn h _ (by omega)]; exact hpl
    have e2 : (am_wI h 156 n (Int32.ofInt 1)).1 156 n = tk_kd T sz k0 := (em_we h 156 n _).trans ek
    generalize am_wI h 156 n (Int32.ofInt 1) = h1 at l1 e1 e2 ⊢
    refine am_goX 1 (show pz_S 7 none am_r189 2 Q 265 [(5, .long v), (4, .int (nI k0)), (2, .int (nI k)), (1, .int (nI n)), (0, .ref 154)] [] h1 from ?_)
    exact sv_S sv_189 (by intro q hq; simp only [List.mem_cons, List.not_mem_nil, or_false] at hq; rcases hq with rfl | rfl | rfl | rfl <;> rfl) (h265 k v h1 hk hks l1 e1 e2 ev ee)
  · refine am_goX 3 (show ∃ jj nn : Nat, am_so h 156 = some (13, nn) ∧ jj < nn ∧ (nI n) = nI jj ∧ pz_S 7 none am_r189 2 Q 149 [(5, .long v), (4, .int (nI k0)), (2, .int (nI k)), (1, .int (nI n)), (0, .ref 154)] [] (am_wI h 156 jj ((Int32.ofInt 4))) from ⟨n, 1002, pc_w156 hP, by omega, rfl, ?_⟩)
    have hlt :  k - k0 > 8 := by
      have hc1 : ¬ nI (k - k0) ≤ nI 8 := hc
      rw [nI_leI (by omega) (by omega)] at hc1
      omega
    have ek : Int32.ofInt 4 = tk_kd T sz k0 := by
      unfold tk_kd
      rw [hgl]
      show _ = bif Nat.blt 8 (tk_go pz_let T sz k0 - k0) then 4 else 1
      rw [hq, tk_blt.mpr hlt]
      rfl
    have l1 := tx_w (o := 156) (k := n) (v := Int32.ofInt 4) hl (Or.inl rfl) (Nat.le_refl _) (by omega) (pz_sga pz_sg156 (by decide) (by decide))
    have e1 : (am_wI h 156 n (Int32.ofInt 4)).1 157 n = nI k0 := by rw [em_wn h _ (by omega)]; exact hpl
    have e2 : (am_wI h 156 n (Int32.ofInt 4)).1 156 n = tk_kd T sz k0 := (em_we h 156 n _).trans ek
    generalize am_wI h 156 n (Int32.ofInt 4) = h1 at l1 e1 e2 ⊢
    refine am_goX 1 (show pz_S 7 none am_r189 2 Q 265 [(5, .long v), (4, .int (nI k0)), (2, .int (nI k)), (1, .int (nI n)), (0, .ref 154)] [] h1 from ?_)
    exact sv_S sv_189 (by intro q hq; simp only [List.mem_cons, List.not_mem_nil, or_false] at hq; rcases hq with rfl | rfl | rfl | rfl <;> rfl) (h265 k v h1 hk hks l1 e1 e2 ev ee)
theorem tk_cl_l {Q : am_Q} {k0 : Nat} (hgl : pz_let (T k0) = true) (hz : sz ≤ 1000) (hn : n ≤ k0) (h265 : tk_265 Q h0 sz T n k0) (hl : tx h0 sz T n h) (hpl : h.1 157 n = nI k0) : ∀ (m k : Nat) (v : Int64), sz ≤ k + m → k0 + 1 ≤ k → k ≤ sz → v = tk_lv T k0 (k - k0) → tk_go pz_let T sz k0 = tk_go pz_let T sz k → pz_S 7 none am_r189 2 Q 70 [(5, .long v), (4, .int (nI k0)), (2, .int (nI k)), (1, .int (nI n)), (0, .ref 154)] [] h := by
  have hP := hl.1.1
  intro m
  induction m with
  | zero =>
    intro k v hm hk hks hv hq
    refine am_goX 3 (show am_sh h 154 = some (11, 0) ∧ pz_S 7 none am_r189 2 Q 75 [(5, .long v), (4, .int (nI k0)), (2, .int (nI k)), (1, .int (nI n)), (0, .ref 154)] [.int (h.1 154 3), .int (nI k)] h from ⟨pc_154 hP, ?_⟩)
    rw [hl.1.2.2.1]
    refine am_goX 1 (show ((nI sz) ≤ (nI k) → pz_S 7 none am_r189 2 Q 129 [(5, .long v), (4, .int (nI k0)), (2, .int (nI k)), (1, .int (nI n)), (0, .ref 154)] [] h) ∧ (¬ ((nI sz) ≤ (nI k)) → pz_S 7 none am_r189 2 Q 78 [(5, .long v), (4, .int (nI k0)), (2, .int (nI k)), (1, .int (nI n)), (0, .ref 154)] [] h) from ⟨fun hc => ?_, fun hc => ?_⟩)
    · exact tk_cl_e hgl hz hn h265 hl hpl hk hks hv (by rw [hq]; exact tk_go_n (fun w => absurd w (by omega)))
    · exact absurd (nI_le (by omega) (by omega)) hc
  | succ m ih =>
    intro k v hm hk hks hv hq
    refine am_goX 3 (show am_sh h 154 = some (11, 0) ∧ pz_S 7 none am_r189 2 Q 75 [(5, .long v), (4, .int (nI k0)), (2, .int (nI k)), (1, .int (nI n)), (0, .ref 154)] [.int (h.1 154 3), .int (nI k)] h from ⟨pc_154 hP, ?_⟩)
    rw [hl.1.2.2.1]
    refine am_goX 1 (show ((nI sz) ≤ (nI k) → pz_S 7 none am_r189 2 Q 129 [(5, .long v), (4, .int (nI k0)), (2, .int (nI k)), (1, .int (nI n)), (0, .ref 154)] [] h) ∧ (¬ ((nI sz) ≤ (nI k)) → pz_S 7 none am_r189 2 Q 78 [(5, .long v), (4, .int (nI k0)), (2, .int (nI k)), (1, .int (nI n)), (0, .ref 154)] [] h) from ⟨fun hc => ?_, fun hc => ?_⟩)
    · have hge : sz ≤ k := by
        rw [nI_leI (by omega) (by omega)] at hc
        exact hc
      exact tk_cl_e hgl hz hn h265 hl hpl hk hks hv (by rw [hq]; exact tk_go_n (fun w => absurd w (by omega)))
    have hks0 : k < sz := by
      rcases Nat.lt_or_ge k sz with w | w
      · exact w
      · exact absurd (nI_le w (by omega)) hc
    clear hc
    refine am_goX 2 (show am_sh h 154 = some (11, 0) ∧ pz_S 7 none am_r189 2 Q 82 [(5, .long v), (4, .int (nI k0)), (2, .int (nI k)), (1, .int (nI n)), (0, .ref 154)] [am_rf (h.2.2.1 154 1)] h from ⟨pc_154 hP, ?_⟩)
    rw [pc_r1 hP]
    refine am_goX 2 (show ∃ jj nn : Nat, am_sh h 155 = some (13, nn) ∧ jj < nn ∧ (nI k) = nI jj ∧ pz_S 7 none am_r189 2 Q 84 [(5, .long v), (4, .int (nI k0)), (2, .int (nI k)), (1, .int (nI n)), (0, .ref 154)] [.int (h.1 155 jj)] h from ⟨k, 1000, pc_155 hP, by omega, rfl, ?_⟩)
    rw [hl.2.1 k]
    refine am_goX 1 (show 0 ≤ 8 ∧ h.2.2.2.2 + am_al 190 ≤ 175 ∧ am_call am_cod 2 190 [.int (T k)] h (fun vv h' => pz_S 7 none am_r189 2 Q 87 [(5, .long v), (4, .int (nI k0)), (2, .int (nI k)), (1, .int (nI n)), (0, .ref 154)] (vv.toList ++ []) h') from ⟨by decide, pc_lim hP rfl, am_call.up (pz_letC hP ?_) (by decide)⟩)
    cases eg : pz_let (T k) with
    | false =>
      refine am_goX 1 (show ((pz_b false) = 0 → pz_S 7 none am_r189 2 Q 129 [(5, .long v), (4, .int (nI k0)), (2, .int (nI k)), (1, .int (nI n)), (0, .ref 154)] [] h) ∧ (¬ ((pz_b false) = 0) → pz_S 7 none am_r189 2 Q 90 [(5, .long v), (4, .int (nI k0)), (2, .int (nI k)), (1, .int (nI n)), (0, .ref 154)] [] h) from ⟨fun _ => ?_, fun hz => absurd rfl hz⟩)
      exact tk_cl_e hgl hz hn h265 hl hpl hk hks hv (by rw [hq]; exact tk_go_n (fun w => eg))
    | true =>
      refine am_goX 1 (show ((pz_b true) = 0 → pz_S 7 none am_r189 2 Q 129 [(5, .long v), (4, .int (nI k0)), (2, .int (nI k)), (1, .int (nI n)), (0, .ref 154)] [] h) ∧ (¬ ((pz_b true) = 0) → pz_S 7 none am_r189 2 Q 90 [(5, .long v), (4, .int (nI k0)), (2, .int (nI k)), (1, .int (nI n)), (0, .ref 154)] [] h) from ⟨fun hz => absurd hz (by decide), fun _ => ?_⟩)
      refine am_goX 4 (show pz_S 7 none am_r189 2 Q 96 [(5, .long v), (4, .int (nI k0)), (2, .int (nI k)), (1, .int (nI n)), (0, .ref 154)] [.int (Int8.ofInt 8).toInt32, .int ((nI k) - (nI k0))] h from ?_)
      rw [tk_sub (by omega)]
      refine am_goX 1 (show ((Int8.ofInt 8).toInt32 ≤ (nI (k - k0)) → pz_S 7 none am_r189 2 Q 119 [(5, .long v), (4, .int (nI k0)), (2, .int (nI k)), (1, .int (nI n)), (0, .ref 154)] [] h) ∧ (¬ ((Int8.ofInt 8).toInt32 ≤ (nI (k - k0))) → pz_S 7 none am_r189 2 Q 99 [(5, .long v), (4, .int (nI k0)), (2, .int (nI k)), (1, .int (nI n)), (0, .ref 154)] [] h) from ⟨fun hc => ?_, fun hc => ?_⟩)
      · refine am_goX 4 (show 5 + 1 < 7 ∧ 2 < 7 ∧ pz_S 7 none am_r189 2 Q 70 [(2, .int ((nI k) + Int32.ofInt 1)), (5, .long v), (4, .int (nI k0)), (1, .int (nI n)), (0, .ref 154)] [] h from ⟨by decide, by decide, ?_⟩)
        rw [xw_i1]
        have hj : ¬ k - k0 < 8 := by
          have hc1 :  nI 8 ≤ nI (k - k0) := hc
          rw [nI_leI (by omega) (by omega)] at hc1
          omega
        have hv1 : v = tk_lv T k0 (k + 1 - k0) := by
          rw [show k + 1 - k0 = (k - k0) + 1 by omega]
          show _ = bif Nat.blt (k - k0) 8 then _ else _
          rw [tk_bltf hj, ← hv]
          rfl
        exact sv_S sv_189 (by intro q hq; simp only [List.mem_cons, List.not_mem_nil, or_false] at hq; rcases hq with rfl | rfl | rfl | rfl | rfl <;> rfl) (ih (k + 1) _ (by omega) (by omega) (by omega) hv1 (hq.trans (tk_go_y hks0 eg)))
      · refine am_goX 5 (show am_sh h 154 = some (11, 0) ∧ pz_S 7 none am_r189 2 Q 109 [(5, .long v), (4, .int (nI k0)), (2, .int (nI k)), (1, .int (nI n)), (0, .ref 154)] [am_rf (h.2.2.1 154 1), .long ((am_kl 26) * v)] h from ⟨pc_154 hP, ?_⟩)
        rw [pc_r1 hP]
        refine am_goX 2 (show ∃ jj nn : Nat, am_sh h 155 = some (13, nn) ∧ jj < nn ∧ (nI k) = nI jj ∧ pz_S 7 none am_r189 2 Q 111 [(5, .long v), (4, .int (nI k0)), (2, .int (nI k)), (1, .int (nI n)), (0, .ref 154)] [.int (h.1 155 jj), .long ((am_kl 26) * v)] h from ⟨k, 1000, pc_155 hP, by omega, rfl, ?_⟩)
        rw [hl.2.1 k]
        refine am_goX 1 (show 2 ≤ 8 ∧ h.2.2.2.2 + am_al 191 ≤ 175 ∧ am_call am_cod 2 191 [.int (T k)] h (fun vv h' => pz_S 7 none am_r189 2 Q 114 [(5, .long v), (4, .int (nI k0)), (2, .int (nI k)), (1, .int (nI n)), (0, .ref 154)] (vv.toList ++ [.long ((am_kl 26) * v)]) h') from ⟨by decide, pc_lim hP rfl, tk_rank hP ?_⟩)
        refine am_goX 6 (show 5 + 1 < 7 ∧ 2 < 7 ∧ pz_S 7 none am_r189 2 Q 70 [(2, .int ((nI k) + Int32.ofInt 1)), (5, .long (((am_kl 26) * v) + ((tk_rk (T k))).toInt64)), (4, .int (nI k0)), (1, .int (nI n)), (0, .ref 154)] [] h from ⟨by decide, by decide, ?_⟩)
        rw [xw_i1]
        have hj :  k - k0 < 8 := by
          have hc1 : ¬ nI 8 ≤ nI (k - k0) := hc
          rw [nI_leI (by omega) (by omega)] at hc1
          omega
        have hv1 : (((am_kl 26) * v) + ((tk_rk (T k))).toInt64) = tk_lv T k0 (k + 1 - k0) := by
          rw [show k + 1 - k0 = (k - k0) + 1 by omega]
          show _ = bif Nat.blt (k - k0) 8 then _ else _
          rw [tk_blt.mpr hj, show k0 + (k - k0) = k by omega, ← hv]
          rfl
        exact sv_S sv_189 (by intro q hq; simp only [List.mem_cons, List.not_mem_nil, or_false] at hq; rcases hq with rfl | rfl | rfl | rfl | rfl <;> rfl) (ih (k + 1) _ (by omega) (by omega) (by omega) hv1 (hq.trans (tk_go_y hks0 eg)))
theorem tk_cl {Q : am_Q} {k k0 : Nat} {v : Int64} (ek0 : k0 = k) (hgl : pz_let (T k0) = true) (hz : sz ≤ 1000) (hn : n ≤ k0) (h265 : tk_265 Q h0 sz T n k0) (hl : tx h0 sz T n h) (hpl : h.1 157 n = nI k0) (hks0 : k < sz) (hv : v = tk_lv T k0 (k - k0)) : pz_S 7 none am_r189 2 Q 70 [(5, .long v), (4, .int (nI k0)), (2, .int (nI k)), (1, .int (nI n)), (0, .ref 154)] [] h := by
  have hP := hl.1.1
  have hge : k0 ≤ k := by omega
  have hgx := hgl
  rw [ek0] at hgx
  refine am_goX 3 (show am_sh h 154 = some (11, 0) ∧ pz_S 7 none am_r189 2 Q 75 [(5, .long v), (4, .int (nI k0)), (2, .int (nI k)), (1, .int (nI n)), (0, .ref 154)] [.int (h.1 154 3), .int (nI k)] h from ⟨pc_154 hP, ?_⟩)
  rw [hl.1.2.2.1]
  refine am_goX 1 (show ((nI sz) ≤ (nI k) → pz_S 7 none am_r189 2 Q 129 [(5, .long v), (4, .int (nI k0)), (2, .int (nI k)), (1, .int (nI n)), (0, .ref 154)] [] h) ∧ (¬ ((nI sz) ≤ (nI k)) → pz_S 7 none am_r189 2 Q 78 [(5, .long v), (4, .int (nI k0)), (2, .int (nI k)), (1, .int (nI n)), (0, .ref 154)] [] h) from ⟨fun hz => absurd hz (nI_ge hks0 (by omega)), fun _ => ?_⟩)
  refine am_goX 2 (show am_sh h 154 = some (11, 0) ∧ pz_S 7 none am_r189 2 Q 82 [(5, .long v), (4, .int (nI k0)), (2, .int (nI k)), (1, .int (nI n)), (0, .ref 154)] [am_rf (h.2.2.1 154 1)] h from ⟨pc_154 hP, ?_⟩)
  rw [pc_r1 hP]
  refine am_goX 2 (show ∃ jj nn : Nat, am_sh h 155 = some (13, nn) ∧ jj < nn ∧ (nI k) = nI jj ∧ pz_S 7 none am_r189 2 Q 84 [(5, .long v), (4, .int (nI k0)), (2, .int (nI k)), (1, .int (nI n)), (0, .ref 154)] [.int (h.1 155 jj)] h from ⟨k, 1000, pc_155 hP, by omega, rfl, ?_⟩)
  rw [hl.2.1 k]
  refine am_goX 1 (show 0 ≤ 8 ∧ h.2.2.2.2 + am_al 190 ≤ 175 ∧ am_call am_cod 2 190 [.int (T k)] h (fun vv h' => pz_S 7 none am_r189 2 Q 87 [(5, .long v), (4, .int (nI k0)), (2, .int (nI k)), (1, .int (nI n)), (0, .ref 154)] (vv.toList ++ []) h') from ⟨by decide, pc_lim hP rfl, am_call.up (pz_letC hP ?_) (by decide)⟩)
  rw [hgx]
  refine am_goX 1 (show ((pz_b true) = 0 → pz_S 7 none am_r189 2 Q 129 [(5, .long v), (4, .int (nI k0)), (2, .int (nI k)), (1, .int (nI n)), (0, .ref 154)] [] h) ∧ (¬ ((pz_b true) = 0) → pz_S 7 none am_r189 2 Q 90 [(5, .long v), (4, .int (nI k0)), (2, .int (nI k)), (1, .int (nI n)), (0, .ref 154)] [] h) from ⟨fun hz => absurd hz (by decide), fun _ => ?_⟩)
  have eg : pz_let (T k) = true := hgx
  refine am_goX 4 (show pz_S 7 none am_r189 2 Q 96 [(5, .long v), (4, .int (nI k0)), (2, .int (nI k)), (1, .int (nI n)), (0, .ref 154)] [.int (Int8.ofInt 8).toInt32, .int ((nI k) - (nI k0))] h from ?_)
  rw [tk_sub (by omega)]
  refine am_goX 1 (show ((Int8.ofInt 8).toInt32 ≤ (nI (k - k0)) → pz_S 7 none am_r189 2 Q 119 [(5, .long v), (4, .int (nI k0)), (2, .int (nI k)), (1, .int (nI n)), (0, .ref 154)] [] h) ∧ (¬ ((Int8.ofInt 8).toInt32 ≤ (nI (k - k0))) → pz_S 7 none am_r189 2 Q 99 [(5, .long v), (4, .int (nI k0)), (2, .int (nI k)), (1, .int (nI n)), (0, .ref 154)] [] h) from ⟨fun hc => ?_, fun hc => ?_⟩)
  · refine am_goX 4 (show 5 + 1 < 7 ∧ 2 < 7 ∧ pz_S 7 none am_r189 2 Q 70 [(2, .int ((nI k) + Int32.ofInt 1)), (5, .long v), (4, .int (nI k0)), (1, .int (nI n)), (0, .ref 154)] [] h from ⟨by decide, by decide, ?_⟩)
    rw [xw_i1]
    have hj : ¬ k - k0 < 8 := by
      have hc1 :  nI 8 ≤ nI (k - k0) := hc
      rw [nI_leI (by omega) (by omega)] at hc1
      omega
    have hv1 : v = tk_lv T k0 (k + 1 - k0) := by
      rw [show k + 1 - k0 = (k - k0) + 1 by omega]
      show _ = bif Nat.blt (k - k0) 8 then _ else _
      rw [tk_bltf hj, ← hv]
      rfl
    exact sv_S sv_189 (by intro q hq; simp only [List.mem_cons, List.not_mem_nil, or_false] at hq; rcases hq with rfl | rfl | rfl | rfl | rfl <;> rfl) (tk_cl_l hgl hz hn h265 hl hpl sz (k + 1) _ (by omega) (by omega) (by omega) hv1 (by rw [ek0]; exact tk_go_y hks0 eg))
  · refine am_goX 5 (show am_sh h 154 = some (11, 0) ∧ pz_S 7 none am_r189 2 Q 109 [(5, .long v), (4, .int (nI k0)), (2, .int (nI k)), (1, .int (nI n)), (0, .ref 154)] [am_rf (h.2.2.1 154 1), .long ((am_kl 26) * v)] h from ⟨pc_154 hP, ?_⟩)
    rw [pc_r1 hP]
    refine am_goX 2 (show ∃ jj nn : Nat, am_sh h 155 = some (13, nn) ∧ jj < nn ∧ (nI k) = nI jj ∧ pz_S 7 none am_r189 2 Q 111 [(5, .long v), (4, .int (nI k0)), (2, .int (nI k)), (1, .int (nI n)), (0, .ref 154)] [.int (h.1 155 jj), .long ((am_kl 26) * v)] h from ⟨k, 1000, pc_155 hP, by omega, rfl, ?_⟩)
    rw [hl.2.1 k]
    refine am_goX 1 (show 2 ≤ 8 ∧ h.2.2.2.2 + am_al 191 ≤ 175 ∧ am_call am_cod 2 191 [.int (T k)] h (fun vv h' => pz_S 7 none am_r189 2 Q 114 [(5, .long v), (4, .int (nI k0)), (2, .int (nI k)), (1, .int (nI n)), (0, .ref 154)] (vv.toList ++ [.long ((am_kl 26) * v)]) h') from ⟨by decide, pc_lim hP rfl, tk_rank hP ?_⟩)
    refine am_goX 6 (show 5 + 1 < 7 ∧ 2 < 7 ∧ pz_S 7 none am_r189 2 Q 70 [(2, .int ((nI k) + Int32.ofInt 1)), (5, .long (((am_kl 26) * v) + ((tk_rk (T k))).toInt64)), (4, .int (nI k0)), (1, .int (nI n)), (0, .ref 154)] [] h from ⟨by decide, by decide, ?_⟩)
    rw [xw_i1]
    have hj :  k - k0 < 8 := by
      have hc1 : ¬ nI 8 ≤ nI (k - k0) := hc
      rw [nI_leI (by omega) (by omega)] at hc1
      omega
    have hv1 : (((am_kl 26) * v) + ((tk_rk (T k))).toInt64) = tk_lv T k0 (k + 1 - k0) := by
      rw [show k + 1 - k0 = (k - k0) + 1 by omega]
      show _ = bif Nat.blt (k - k0) 8 then _ else _
      rw [tk_blt.mpr hj, show k0 + (k - k0) = k by omega, ← hv]
      rfl
    exact sv_S sv_189 (by intro q hq; simp only [List.mem_cons, List.not_mem_nil, or_false] at hq; rcases hq with rfl | rfl | rfl | rfl | rfl <;> rfl) (tk_cl_l hgl hz hn h265 hl hpl sz (k + 1) _ (by omega) (by omega) (by omega) hv1 (by rw [ek0]; exact tk_go_y hks0 eg))
theorem tk_cd_e {Q : am_Q} {k0 : Nat} (hgl : pz_let (T k0) = false) (hgd : pz_dig (T k0) = true) (hz : sz ≤ 1000) (hn : n ≤ k0) (h265 : tk_265 Q h0 sz T n k0) (hl : tx h0 sz T n h) (hpl : h.1 157 n = nI k0) {k : Nat} {v : Int64} (hk : k0 + 1 ≤ k) (hks : k ≤ sz) (hv : v = tk_dv T k0 (k - k0)) (hq : tk_go pz_dig T sz k0 = k) : pz_S 7 none am_r189 2 Q 218 [(5, .long v), (4, .int (nI k0)), (2, .int (nI k)), (1, .int (nI n)), (0, .ref 154)] [] h := by
  have hP := hl.1.1
  have ev : v = tk_vl T sz k0 := by
    unfold tk_vl
    rw [hgl, hgd]
    show v = tk_dv T k0 (tk_go pz_dig T sz k0 - k0)
    rw [hq]
    exact hv
  have ee : k = tk_en T sz k0 := by
    unfold tk_en
    rw [hgl, hgd]
    exact hq.symm
  refine am_goX 2 (show am_sh h 154 = some (11, 0) ∧ pz_S 7 none am_r189 2 Q 222 [(5, .long v), (4, .int (nI k0)), (2, .int (nI k)), (1, .int (nI n)), (0, .ref 154)] [am_rf (h.2.2.1 154 4)] h from ⟨pc_154 hP, ?_⟩)
  rw [pc_r4 hP]
  refine am_goX 5 (show pz_S 7 none am_r189 2 Q 228 [(5, .long v), (4, .int (nI k0)), (2, .int (nI k)), (1, .int (nI n)), (0, .ref 154)] [.int (Int32.ofInt 4), .int ((nI k) - (nI k0)), .int (nI n), .ref 156] h from ?_)
  rw [tk_sub (by omega)]
  refine am_goX 1 (show ((nI (k - k0)) ≤ (Int32.ofInt 4) → pz_S 7 none am_r189 2 Q 235 [(5, .long v), (4, .int (nI k0)), (2, .int (nI k)), (1, .int (nI n)), (0, .ref 154)] [.int (nI n), .ref 156] h) ∧ (¬ ((nI (k - k0)) ≤ (Int32.ofInt 4)) → pz_S 7 none am_r189 2 Q 231 [(5, .long v), (4, .int (nI k0)), (2, .int (nI k)), (1, .int (nI n)), (0, .ref 154)] [.int (nI n), .ref 156] h) from ⟨fun hc => ?_, fun hc => ?_⟩)
  · refine am_goX 2 (show ∃ jj nn : Nat, am_so h 156 = some (13, nn) ∧ jj < nn ∧ (nI n) = nI jj ∧ pz_S 7 none am_r189 2 Q 237 [(5, .long v), (4, .int (nI k0)), (2, .int (nI k)), (1, .int (nI n)), (0, .ref 154)] [] (am_wI h 156 jj ((Int32.ofInt 2))) from ⟨n, 1002, pc_w156 hP, by omega, rfl, ?_⟩)
    have hlt : ¬ k - k0 > 4 := by
      have hc1 :  nI (k - k0) ≤ nI 4 := hc
      rw [nI_leI (by omega) (by omega)] at hc1
      omega
    have ek : Int32.ofInt 2 = tk_kd T sz k0 := by
      unfold tk_kd
      rw [hgl, hgd]
      show _ = bif Nat.blt 4 (tk_go pz_dig T sz k0 - k0) then 4 else 2
      rw [hq, tk_bltf hlt]
      rfl
    have l1 := tx_w (o := 156) (k := n) (v := Int32.ofInt 2) hl (Or.inl rfl) (Nat.le_refl _) (by omega) (pz_sga pz_sg156 (by decide) (by decide))
    have e1 : (am_wI h 156 n (Int32.ofInt 2)).1 157 n = nI k0 := by rw [em_wn h _ (by omega)]; exact hpl
    have e2 : (am_wI h 156 n (Int32.ofInt 2)).1 156 n = tk_kd T sz k0 := (em_we h 156 n _).trans ek
    generalize am_wI h 156 n (Int32.ofInt 2) = h1 at l1 e1 e2 ⊢
    refine am_goX 1 (show pz_S 7 none am_r189 2 Q 265 [(5, .long v), (4, .int (nI k0)), (2, .int (nI k)), (1, .int (nI n)), (0, .ref 154)] [] h1 from ?_)
    exact sv_S sv_189 (by intro q hq; simp only [List.mem_cons, List.not_mem_nil, or_false] at hq; rcases hq with rfl | rfl | rfl | rfl <;> rfl) (h265 k v h1 hk hks l1 e1 e2 ev ee)
  · refine am_goX 3 (show ∃ jj nn : Nat, am_so h 156 = some (13, nn) ∧ jj < nn ∧ (nI n) = nI jj ∧ pz_S 7 none am_r189 2 Q 237 [(5, .long v), (4, .int (nI k0)), (2, .int (nI k)), (1, .int (nI n)), (0, .ref 154)] [] (am_wI h 156 jj ((Int32.ofInt 4))) from ⟨n, 1002, pc_w156 hP, by omega, rfl, ?_⟩)
    have hlt :  k - k0 > 4 := by
      have hc1 : ¬ nI (k - k0) ≤ nI 4 := hc
      rw [nI_leI (by omega) (by omega)] at hc1
      omega
    have ek : Int32.ofInt 4 = tk_kd T sz k0 := by
      unfold tk_kd
      rw [hgl, hgd]
      show _ = bif Nat.blt 4 (tk_go pz_dig T sz k0 - k0) then 4 else 2
      rw [hq, tk_blt.mpr hlt]
      rfl
    have l1 := tx_w (o := 156) (k := n) (v := Int32.ofInt 4) hl (Or.inl rfl) (Nat.le_refl _) (by omega) (pz_sga pz_sg156 (by decide) (by decide))
    have e1 : (am_wI h 156 n (Int32.ofInt 4)).1 157 n = nI k0 := by rw [em_wn h _ (by omega)]; exact hpl
    have e2 : (am_wI h 156 n (Int32.ofInt 4)).1 156 n = tk_kd T sz k0 := (em_we h 156 n _).trans ek
    generalize am_wI h 156 n (Int32.ofInt 4) = h1 at l1 e1 e2 ⊢
    refine am_goX 1 (show pz_S 7 none am_r189 2 Q 265 [(5, .long v), (4, .int (nI k0)), (2, .int (nI k)), (1, .int (nI n)), (0, .ref 154)] [] h1 from ?_)
    exact sv_S sv_189 (by intro q hq; simp only [List.mem_cons, List.not_mem_nil, or_false] at hq; rcases hq with rfl | rfl | rfl | rfl <;> rfl) (h265 k v h1 hk hks l1 e1 e2 ev ee)
theorem tk_cd_l {Q : am_Q} {k0 : Nat} (hgl : pz_let (T k0) = false) (hgd : pz_dig (T k0) = true) (hz : sz ≤ 1000) (hn : n ≤ k0) (h265 : tk_265 Q h0 sz T n k0) (hl : tx h0 sz T n h) (hpl : h.1 157 n = nI k0) : ∀ (m k : Nat) (v : Int64), sz ≤ k + m → k0 + 1 ≤ k → k ≤ sz → v = tk_dv T k0 (k - k0) → tk_go pz_dig T sz k0 = tk_go pz_dig T sz k → pz_S 7 none am_r189 2 Q 159 [(5, .long v), (4, .int (nI k0)), (2, .int (nI k)), (1, .int (nI n)), (0, .ref 154)] [] h := by
  have hP := hl.1.1
  intro m
  induction m with
  | zero =>
    intro k v hm hk hks hv hq
    refine am_goX 3 (show am_sh h 154 = some (11, 0) ∧ pz_S 7 none am_r189 2 Q 164 [(5, .long v), (4, .int (nI k0)), (2, .int (nI k)), (1, .int (nI n)), (0, .ref 154)] [.int (h.1 154 3), .int (nI k)] h from ⟨pc_154 hP, ?_⟩)
    rw [hl.1.2.2.1]
    refine am_goX 1 (show ((nI sz) ≤ (nI k) → pz_S 7 none am_r189 2 Q 218 [(5, .long v), (4, .int (nI k0)), (2, .int (nI k)), (1, .int (nI n)), (0, .ref 154)] [] h) ∧ (¬ ((nI sz) ≤ (nI k)) → pz_S 7 none am_r189 2 Q 167 [(5, .long v), (4, .int (nI k0)), (2, .int (nI k)), (1, .int (nI n)), (0, .ref 154)] [] h) from ⟨fun hc => ?_, fun hc => ?_⟩)
    · exact tk_cd_e hgl hgd hz hn h265 hl hpl hk hks hv (by rw [hq]; exact tk_go_n (fun w => absurd w (by omega)))
    · exact absurd (nI_le (by omega) (by omega)) hc
  | succ m ih =>
    intro k v hm hk hks hv hq
    refine am_goX 3 (show am_sh h 154 = some (11, 0) ∧ pz_S 7 none am_r189 2 Q 164 [(5, .long v), (4, .int (nI k0)), (2, .int (nI k)), (1, .int (nI n)), (0, .ref 154)] [.int (h.1 154 3), .int (nI k)] h from ⟨pc_154 hP, ?_⟩)
    rw [hl.1.2.2.1]
    refine am_goX 1 (show ((nI sz) ≤ (nI k) → pz_S 7 none am_r189 2 Q 218 [(5, .long v), (4, .int (nI k0)), (2, .int (nI k)), (1, .int (nI n)), (0, .ref 154)] [] h) ∧ (¬ ((nI sz) ≤ (nI k)) → pz_S 7 none am_r189 2 Q 167 [(5, .long v), (4, .int (nI k0)), (2, .int (nI k)), (1, .int (nI n)), (0, .ref 154)] [] h) from ⟨fun hc => ?_, fun hc => ?_⟩)
    · have hge : sz ≤ k := by
        rw [nI_leI (by omega) (by omega)] at hc
        exact hc
      exact tk_cd_e hgl hgd hz hn h265 hl hpl hk hks hv (by rw [hq]; exact tk_go_n (fun w => absurd w (by omega)))
    have hks0 : k < sz := by
      rcases Nat.lt_or_ge k sz with w | w
      · exact w
      · exact absurd (nI_le w (by omega)) hc
    clear hc
    refine am_goX 2 (show am_sh h 154 = some (11, 0) ∧ pz_S 7 none am_r189 2 Q 171 [(5, .long v), (4, .int (nI k0)), (2, .int (nI k)), (1, .int (nI n)), (0, .ref 154)] [am_rf (h.2.2.1 154 1)] h from ⟨pc_154 hP, ?_⟩)
    rw [pc_r1 hP]
    refine am_goX 2 (show ∃ jj nn : Nat, am_sh h 155 = some (13, nn) ∧ jj < nn ∧ (nI k) = nI jj ∧ pz_S 7 none am_r189 2 Q 173 [(5, .long v), (4, .int (nI k0)), (2, .int (nI k)), (1, .int (nI n)), (0, .ref 154)] [.int (h.1 155 jj)] h from ⟨k, 1000, pc_155 hP, by omega, rfl, ?_⟩)
    rw [hl.2.1 k]
    refine am_goX 1 (show 0 ≤ 8 ∧ h.2.2.2.2 + am_al 192 ≤ 175 ∧ am_call am_cod 2 192 [.int (T k)] h (fun vv h' => pz_S 7 none am_r189 2 Q 176 [(5, .long v), (4, .int (nI k0)), (2, .int (nI k)), (1, .int (nI n)), (0, .ref 154)] (vv.toList ++ []) h') from ⟨by decide, pc_lim hP rfl, am_call.up (pz_digC hP ?_) (by decide)⟩)
    cases eg : pz_dig (T k) with
    | false =>
      refine am_goX 1 (show ((pz_b false) = 0 → pz_S 7 none am_r189 2 Q 218 [(5, .long v), (4, .int (nI k0)), (2, .int (nI k)), (1, .int (nI n)), (0, .ref 154)] [] h) ∧ (¬ ((pz_b false) = 0) → pz_S 7 none am_r189 2 Q 179 [(5, .long v), (4, .int (nI k0)), (2, .int (nI k)), (1, .int (nI n)), (0, .ref 154)] [] h) from ⟨fun _ => ?_, fun hz => absurd rfl hz⟩)
      exact tk_cd_e hgl hgd hz hn h265 hl hpl hk hks hv (by rw [hq]; exact tk_go_n (fun w => eg))
    | true =>
      refine am_goX 1 (show ((pz_b true) = 0 → pz_S 7 none am_r189 2 Q 218 [(5, .long v), (4, .int (nI k0)), (2, .int (nI k)), (1, .int (nI n)), (0, .ref 154)] [] h) ∧ (¬ ((pz_b true) = 0) → pz_S 7 none am_r189 2 Q 179 [(5, .long v), (4, .int (nI k0)), (2, .int (nI k)), (1, .int (nI n)), (0, .ref 154)] [] h) from ⟨fun hz => absurd hz (by decide), fun _ => ?_⟩)
      refine am_goX 4 (show pz_S 7 none am_r189 2 Q 184 [(5, .long v), (4, .int (nI k0)), (2, .int (nI k)), (1, .int (nI n)), (0, .ref 154)] [.int (Int32.ofInt 4), .int ((nI k) - (nI k0))] h from ?_)
      rw [tk_sub (by omega)]
      refine am_goX 1 (show ((Int32.ofInt 4) ≤ (nI (k - k0)) → pz_S 7 none am_r189 2 Q 208 [(5, .long v), (4, .int (nI k0)), (2, .int (nI k)), (1, .int (nI n)), (0, .ref 154)] [] h) ∧ (¬ ((Int32.ofInt 4) ≤ (nI (k - k0))) → pz_S 7 none am_r189 2 Q 187 [(5, .long v), (4, .int (nI k0)), (2, .int (nI k)), (1, .int (nI n)), (0, .ref 154)] [] h) from ⟨fun hc => ?_, fun hc => ?_⟩)
      · refine am_goX 4 (show 5 + 1 < 7 ∧ 2 < 7 ∧ pz_S 7 none am_r189 2 Q 159 [(2, .int ((nI k) + Int32.ofInt 1)), (5, .long v), (4, .int (nI k0)), (1, .int (nI n)), (0, .ref 154)] [] h from ⟨by decide, by decide, ?_⟩)
        rw [xw_i1]
        have hj : ¬ k - k0 < 4 := by
          have hc1 :  nI 4 ≤ nI (k - k0) := hc
          rw [nI_leI (by omega) (by omega)] at hc1
          omega
        have hv1 : v = tk_dv T k0 (k + 1 - k0) := by
          rw [show k + 1 - k0 = (k - k0) + 1 by omega]
          show _ = bif Nat.blt (k - k0) 4 then _ else _
          rw [tk_bltf hj, ← hv]
          rfl
        exact sv_S sv_189 (by intro q hq; simp only [List.mem_cons, List.not_mem_nil, or_false] at hq; rcases hq with rfl | rfl | rfl | rfl | rfl <;> rfl) (ih (k + 1) _ (by omega) (by omega) (by omega) hv1 (hq.trans (tk_go_y hks0 eg)))
      · refine am_goX 5 (show am_sh h 154 = some (11, 0) ∧ pz_S 7 none am_r189 2 Q 197 [(5, .long v), (4, .int (nI k0)), (2, .int (nI k)), (1, .int (nI n)), (0, .ref 154)] [am_rf (h.2.2.1 154 1), .long ((am_kl 27) * v)] h from ⟨pc_154 hP, ?_⟩)
        rw [pc_r1 hP]
        refine am_goX 2 (show ∃ jj nn : Nat, am_sh h 155 = some (13, nn) ∧ jj < nn ∧ (nI k) = nI jj ∧ pz_S 7 none am_r189 2 Q 199 [(5, .long v), (4, .int (nI k0)), (2, .int (nI k)), (1, .int (nI n)), (0, .ref 154)] [.int (h.1 155 jj), .long ((am_kl 27) * v)] h from ⟨k, 1000, pc_155 hP, by omega, rfl, ?_⟩)
        rw [hl.2.1 k]
        refine am_goX 8 (show 5 + 1 < 7 ∧ 2 < 7 ∧ pz_S 7 none am_r189 2 Q 159 [(2, .int ((nI k) + Int32.ofInt 1)), (5, .long ((((am_kl 27) * v) + ((T k)).toInt64) - (am_kl 28))), (4, .int (nI k0)), (1, .int (nI n)), (0, .ref 154)] [] h from ⟨by decide, by decide, ?_⟩)
        rw [xw_i1]
        have hj :  k - k0 < 4 := by
          have hc1 : ¬ nI 4 ≤ nI (k - k0) := hc
          rw [nI_leI (by omega) (by omega)] at hc1
          omega
        have hv1 : ((((am_kl 27) * v) + ((T k)).toInt64) - (am_kl 28)) = tk_dv T k0 (k + 1 - k0) := by
          rw [show k + 1 - k0 = (k - k0) + 1 by omega]
          show _ = bif Nat.blt (k - k0) 4 then _ else _
          rw [tk_blt.mpr hj, show k0 + (k - k0) = k by omega, ← hv]
          rfl
        exact sv_S sv_189 (by intro q hq; simp only [List.mem_cons, List.not_mem_nil, or_false] at hq; rcases hq with rfl | rfl | rfl | rfl | rfl <;> rfl) (ih (k + 1) _ (by omega) (by omega) (by omega) hv1 (hq.trans (tk_go_y hks0 eg)))
theorem tk_cd {Q : am_Q} {k k0 : Nat} {v : Int64} (ek0 : k0 = k) (hgl : pz_let (T k0) = false) (hgd : pz_dig (T k0) = true) (hz : sz ≤ 1000) (hn : n ≤ k0) (h265 : tk_265 Q h0 sz T n k0) (hl : tx h0 sz T n h) (hpl : h.1 157 n = nI k0) (hks0 : k < sz) (hv : v = tk_dv T k0 (k - k0)) : pz_S 7 none am_r189 2 Q 159 [(5, .long v), (4, .int (nI k0)), (2, .int (nI k)), (1, .int (nI n)), (0, .ref 154)] [] h := by
  have hP := hl.1.1
  have hge : k0 ≤ k := by omega
  have hgx := hgd
  rw [ek0] at hgx
  refine am_goX 3 (show am_sh h 154 = some (11, 0) ∧ pz_S 7 none am_r189 2 Q 164 [(5, .long v), (4, .int (nI k0)), (2, .int (nI k)), (1, .int (nI n)), (0, .ref 154)] [.int (h.1 154 3), .int (nI k)] h from ⟨pc_154 hP, ?_⟩)
  rw [hl.1.2.2.1]
  refine am_goX 1 (show ((nI sz) ≤ (nI k) → pz_S 7 none am_r189 2 Q 218 [(5, .long v), (4, .int (nI k0)), (2, .int (nI k)), (1, .int (nI n)), (0, .ref 154)] [] h) ∧ (¬ ((nI sz) ≤ (nI k)) → pz_S 7 none am_r189 2 Q 167 [(5, .long v), (4, .int (nI k0)), (2, .int (nI k)), (1, .int (nI n)), (0, .ref 154)] [] h) from ⟨fun hz => absurd hz (nI_ge hks0 (by omega)), fun _ => ?_⟩)
  refine am_goX 2 (show am_sh h 154 = some (11, 0) ∧ pz_S 7 none am_r189 2 Q 171 [(5, .long v), (4, .int (nI k0)), (2, .int (nI k)), (1, .int (nI n)), (0, .ref 154)] [am_rf (h.2.2.1 154 1)] h from ⟨pc_154 hP, ?_⟩)
  rw [pc_r1 hP]
  refine am_goX 2 (show ∃ jj nn : Nat, am_sh h 155 = some (13, nn) ∧ jj < nn ∧ (nI k) = nI jj ∧ pz_S 7 none am_r189 2 Q 173 [(5, .long v), (4, .int (nI k0)), (2, .int (nI k)), (1, .int (nI n)), (0, .ref 154)] [.int (h.1 155 jj)] h from ⟨k, 1000, pc_155 hP, by omega, rfl, ?_⟩)
  rw [hl.2.1 k]
  refine am_goX 1 (show 0 ≤ 8 ∧ h.2.2.2.2 + am_al 192 ≤ 175 ∧ am_call am_cod 2 192 [.int (T k)] h (fun vv h' => pz_S 7 none am_r189 2 Q 176 [(5, .long v), (4, .int (nI k0)), (2, .int (nI k)), (1, .int (nI n)), (0, .ref 154)] (vv.toList ++ []) h') from ⟨by decide, pc_lim hP rfl, am_call.up (pz_digC hP ?_) (by decide)⟩)
  rw [hgx]
  refine am_goX 1 (show ((pz_b true) = 0 → pz_S 7 none am_r189 2 Q 218 [(5, .long v), (4, .int (nI k0)), (2, .int (nI k)), (1, .int (nI n)), (0, .ref 154)] [] h) ∧ (¬ ((pz_b true) = 0) → pz_S 7 none am_r189 2 Q 179 [(5, .long v), (4, .int (nI k0)), (2, .int (nI k)), (1, .int (nI n)), (0, .ref 154)] [] h) from ⟨fun hz => absurd hz (by decide), fun _ => ?_⟩)
  have eg : pz_dig (T k) = true := hgx
  refine am_goX 4 (show pz_S 7 none am_r189 2 Q 184 [(5, .long v), (4, .int (nI k0)), (2, .int (nI k)), (1, .int (nI n)), (0, .ref 154)] [.int (Int32.ofInt 4), .int ((nI k) - (nI k0))] h from ?_)
  rw [tk_sub (by omega)]
  refine am_goX 1 (show ((Int32.ofInt 4) ≤ (nI (k - k0)) → pz_S 7 none am_r189 2 Q 208 [(5, .long v), (4, .int (nI k0)), (2, .int (nI k)), (1, .int (nI n)), (0, .ref 154)] [] h) ∧ (¬ ((Int32.ofInt 4) ≤ (nI (k - k0))) → pz_S 7 none am_r189 2 Q 187 [(5, .long v), (4, .int (nI k0)), (2, .int (nI k)), (1, .int (nI n)), (0, .ref 154)] [] h) from ⟨fun hc => ?_, fun hc => ?_⟩)
  · refine am_goX 4 (show 5 + 1 < 7 ∧ 2 < 7 ∧ pz_S 7 none am_r189 2 Q 159 [(2, .int ((nI k) + Int32.ofInt 1)), (5, .long v), (4, .int (nI k0)), (1, .int (nI n)), (0, .ref 154)] [] h from ⟨by decide, by decide, ?_⟩)
    rw [xw_i1]
    have hj : ¬ k - k0 < 4 := by
      have hc1 :  nI 4 ≤ nI (k - k0) := hc
      rw [nI_leI (by omega) (by omega)] at hc1
      omega
    have hv1 : v = tk_dv T k0 (k + 1 - k0) := by
      rw [show k + 1 - k0 = (k - k0) + 1 by omega]
      show _ = bif Nat.blt (k - k0) 4 then _ else _
      rw [tk_bltf hj, ← hv]
      rfl
    exact sv_S sv_189 (by intro q hq; simp only [List.mem_cons, List.not_mem_nil, or_false] at hq; rcases hq with rfl | rfl | rfl | rfl | rfl <;> rfl) (tk_cd_l hgl hgd hz hn h265 hl hpl sz (k + 1) _ (by omega) (by omega) (by omega) hv1 (by rw [ek0]; exact tk_go_y hks0 eg))
  · refine am_goX 5 (show am_sh h 154 = some (11, 0) ∧ pz_S 7 none am_r189 2 Q 197 [(5, .long v), (4, .int (nI k0)), (2, .int (nI k)), (1, .int (nI n)), (0, .ref 154)] [am_rf (h.2.2.1 154 1), .long ((am_kl 27) * v)] h from ⟨pc_154 hP, ?_⟩)
    rw [pc_r1 hP]
    refine am_goX 2 (show ∃ jj nn : Nat, am_sh h 155 = some (13, nn) ∧ jj < nn ∧ (nI k) = nI jj ∧ pz_S 7 none am_r189 2 Q 199 [(5, .long v), (4, .int (nI k0)), (2, .int (nI k)), (1, .int (nI n)), (0, .ref 154)] [.int (h.1 155 jj), .long ((am_kl 27) * v)] h from ⟨k, 1000, pc_155 hP, by omega, rfl, ?_⟩)
    rw [hl.2.1 k]
    refine am_goX 8 (show 5 + 1 < 7 ∧ 2 < 7 ∧ pz_S 7 none am_r189 2 Q 159 [(2, .int ((nI k) + Int32.ofInt 1)), (5, .long ((((am_kl 27) * v) + ((T k)).toInt64) - (am_kl 28))), (4, .int (nI k0)), (1, .int (nI n)), (0, .ref 154)] [] h from ⟨by decide, by decide, ?_⟩)
    rw [xw_i1]
    have hj :  k - k0 < 4 := by
      have hc1 : ¬ nI 4 ≤ nI (k - k0) := hc
      rw [nI_leI (by omega) (by omega)] at hc1
      omega
    have hv1 : ((((am_kl 27) * v) + ((T k)).toInt64) - (am_kl 28)) = tk_dv T k0 (k + 1 - k0) := by
      rw [show k + 1 - k0 = (k - k0) + 1 by omega]
      show _ = bif Nat.blt (k - k0) 4 then _ else _
      rw [tk_blt.mpr hj, show k0 + (k - k0) = k by omega, ← hv]
      rfl
    exact sv_S sv_189 (by intro q hq; simp only [List.mem_cons, List.not_mem_nil, or_false] at hq; rcases hq with rfl | rfl | rfl | rfl | rfl <;> rfl) (tk_cd_l hgl hgd hz hn h265 hl hpl sz (k + 1) _ (by omega) (by omega) (by omega) hv1 (by rw [ek0]; exact tk_go_y hks0 eg))
theorem tk_cut_l {Q : am_Q} (hz : sz ≤ 1000) (hend : ∀ (n : Nat) (h1 : am_H), n ≤ sz → tx h0 sz T n h1 → tk_pl T sz n = sz → pz_S 7 none am_r189 2 Q 279 [(1, .int (nI n)), (0, .ref 154)] [] h1) : ∀ (m n k : Nat) (h : am_H), sz ≤ k + m → n ≤ k → k ≤ sz → tx h0 sz T n h → tk_pl T sz n = tk_go tk_bl T sz k → pz_S 7 none am_r189 2 Q 17 [(2, .int (nI k)), (1, .int (nI n)), (0, .ref 154)] [] h := by
  intro m
  induction m with
  | zero =>
    intro n k h hm hnk hks hl hp
    have hP := hl.1.1
    refine am_goX 3 (show am_sh h 154 = some (11, 0) ∧ pz_S 7 none am_r189 2 Q 22 [(2, .int (nI k)), (1, .int (nI n)), (0, .ref 154)] [.int (h.1 154 3), .int (nI k)] h from ⟨pc_154 hP, ?_⟩)
    rw [hl.1.2.2.1]
    refine am_goX 1 (show ((nI sz) ≤ (nI k) → pz_S 7 none am_r189 2 Q 279 [(2, .int (nI k)), (1, .int (nI n)), (0, .ref 154)] [] h) ∧ (¬ ((nI sz) ≤ (nI k)) → pz_S 7 none am_r189 2 Q 25 [(2, .int (nI k)), (1, .int (nI n)), (0, .ref 154)] [] h) from ⟨fun hc => ?_, fun hc => ?_⟩)
    · have hge : sz ≤ k := by
        rw [nI_leI (by omega) (by omega)] at hc
        exact hc
      have ek : k = sz := by omega
      exact sv_S sv_189 (by intro q hq; simp only [List.mem_cons, List.not_mem_nil, or_false] at hq; rcases hq with rfl | rfl <;> rfl) (hend n h (by omega) hl (hp.trans ((tk_go_n (fun w => absurd w (by omega))).trans ek)))
    · exact absurd (nI_le (by omega) (by omega)) hc
  | succ m ih =>
    intro n k h hm hnk hks hl hp
    have hP := hl.1.1
    refine am_goX 3 (show am_sh h 154 = some (11, 0) ∧ pz_S 7 none am_r189 2 Q 22 [(2, .int (nI k)), (1, .int (nI n)), (0, .ref 154)] [.int (h.1 154 3), .int (nI k)] h from ⟨pc_154 hP, ?_⟩)
    rw [hl.1.2.2.1]
    refine am_goX 1 (show ((nI sz) ≤ (nI k) → pz_S 7 none am_r189 2 Q 279 [(2, .int (nI k)), (1, .int (nI n)), (0, .ref 154)] [] h) ∧ (¬ ((nI sz) ≤ (nI k)) → pz_S 7 none am_r189 2 Q 25 [(2, .int (nI k)), (1, .int (nI n)), (0, .ref 154)] [] h) from ⟨fun hc => ?_, fun hc => ?_⟩)
    · have hge : sz ≤ k := by
        rw [nI_leI (by omega) (by omega)] at hc
        exact hc
      have ek : k = sz := by omega
      exact sv_S sv_189 (by intro q hq; simp only [List.mem_cons, List.not_mem_nil, or_false] at hq; rcases hq with rfl | rfl <;> rfl) (hend n h (by omega) hl (hp.trans ((tk_go_n (fun w => absurd w (by omega))).trans ek)))
    have hks0 : k < sz := by
      rcases Nat.lt_or_ge k sz with w | w
      · exact w
      · exact absurd (nI_le w (by omega)) hc
    clear hc
    refine am_goX 2 (show am_sh h 154 = some (11, 0) ∧ pz_S 7 none am_r189 2 Q 29 [(2, .int (nI k)), (1, .int (nI n)), (0, .ref 154)] [am_rf (h.2.2.1 154 1)] h from ⟨pc_154 hP, ?_⟩)
    rw [pc_r1 hP]
    refine am_goX 2 (show ∃ jj nn : Nat, am_sh h 155 = some (13, nn) ∧ jj < nn ∧ (nI k) = nI jj ∧ pz_S 7 none am_r189 2 Q 31 [(2, .int (nI k)), (1, .int (nI n)), (0, .ref 154)] [.int (h.1 155 jj)] h from ⟨k, 1000, pc_155 hP, by omega, rfl, ?_⟩)
    rw [hl.2.1 k]
    have k44 : tk_bl (T k) = true → pz_S 7 none am_r189 2 Q 44 [(3, .int (T k)), (2, .int (nI k)), (1, .int (nI n)), (0, .ref 154)] [] h := ?_
    rotate_left
    · intro hb
      refine am_goX 2 (show 2 < 7 ∧ pz_S 7 none am_r189 2 Q 17 [(2, .int ((nI k) + Int32.ofInt 1)), (3, .int (T k)), (1, .int (nI n)), (0, .ref 154)] [] h from ⟨by decide, ?_⟩)
      rw [xw_i1]
      exact sv_S sv_189 (by intro q hq; simp only [List.mem_cons, List.not_mem_nil, or_false] at hq; rcases hq with rfl | rfl | rfl <;> rfl) (ih n (k + 1) h (by omega) (by omega) (by omega) hl (hp.trans (tk_go_y hks0 hb)))
    refine am_goX 4 (show 3 < 7 ∧ ((T k) = (Int8.ofInt 10).toInt32 → pz_S 7 none am_r189 2 Q 44 [(3, .int (T k)), (2, .int (nI k)), (1, .int (nI n)), (0, .ref 154)] [] h) ∧ (¬ ((T k) = (Int8.ofInt 10).toInt32) → pz_S 7 none am_r189 2 Q 38 [(3, .int (T k)), (2, .int (nI k)), (1, .int (nI n)), (0, .ref 154)] [] h) from ⟨by decide, fun hc => ?_, fun hc => ?_⟩)
    · exact k44 (by unfold tk_bl; rw [decide_eq_true hc]; rfl)
    have hc10 := hc
    clear hc
    refine am_goX 3 (show (¬ (T k) = (Int8.ofInt 32).toInt32 → pz_S 7 none am_r189 2 Q 50 [(3, .int (T k)), (2, .int (nI k)), (1, .int (nI n)), (0, .ref 154)] [] h) ∧ (¬ ¬ (T k) = (Int8.ofInt 32).toInt32 → pz_S 7 none am_r189 2 Q 44 [(3, .int (T k)), (2, .int (nI k)), (1, .int (nI n)), (0, .ref 154)] [] h) from ⟨fun hc => ?_, fun hc => ?_⟩)
    rotate_left
    · exact k44 (by unfold tk_bl; rw [decide_eq_true (Decidable.not_not.mp hc), Bool.or_true])
    have hnb : tk_bl (T k) = false := by
      unfold tk_bl
      rw [decide_eq_false hc10, decide_eq_false hc]
      rfl
    clear hc hc10
    have hpk : tk_pl T sz n = k := hp.trans (tk_go_n (fun _ => hnb))
    have h265 : tk_265 Q h0 sz T n k := by
      intro k1 v h1 q1 q2 q3 q4 q5 q6 q7
      have hP1 := q3.1.1
      refine am_goX 2 (show am_sh h1 154 = some (11, 0) ∧ pz_S 7 none am_r189 2 Q 269 [(5, .long v), (2, .int (nI k1)), (1, .int (nI n)), (0, .ref 154)] [am_rf (h1.2.2.1 154 6)] h1 from ⟨pc_154 hP1, ?_⟩)
      rw [pc_r6 hP1]
      refine am_goX 3 (show ∃ jj nn : Nat, am_so h1 158 = some (14, nn) ∧ jj < nn ∧ (nI n) = nI jj ∧ pz_S 7 none am_r189 2 Q 273 [(5, .long v), (2, .int (nI k1)), (1, .int (nI n)), (0, .ref 154)] [] (am_wL h1 158 jj (v)) from ⟨n, 1002, pc_w158 hP1, by omega, rfl, ?_⟩)
      have l1 := tx_v (p := k) q3 (by omega) q4 q5 q6 hpk.symm hks0
      generalize am_wL h1 158 n v = h2 at l1 ⊢
      refine am_goX 2 (show 1 < 7 ∧ pz_S 7 none am_r189 2 Q 17 [(1, .int ((nI n) + Int32.ofInt 1)), (5, .long v), (2, .int (nI k1)), (0, .ref 154)] [] h2 from ⟨by decide, ?_⟩)
      rw [xw_i1]
      exact sv_S sv_189 (by intro q hq; simp only [List.mem_cons, List.not_mem_nil, or_false] at hq; rcases hq with rfl | rfl | rfl <;> rfl) (ih (n + 1) k1 h2 (by omega) (by omega) q2 l1 (by show tk_go tk_bl T sz (tk_en T sz (tk_pl T sz n)) = _; rw [hpk, ← q7]))
    refine am_goX 6 (show 4 < 7 ∧ 5 + 1 < 7 ∧ am_sh h 154 = some (11, 0) ∧ pz_S 7 none am_r189 2 Q 60 [(5, .long (Int64.ofNat 0)), (4, .int (nI k)), (3, .int (T k)), (2, .int (nI k)), (1, .int (nI n)), (0, .ref 154)] [am_rf (h.2.2.1 154 5)] h from ⟨by decide, by decide, pc_154 hP, ?_⟩)
    rw [pc_r5 hP]
    refine am_goX 3 (show ∃ jj nn : Nat, am_so h 157 = some (13, nn) ∧ jj < nn ∧ (nI n) = nI jj ∧ pz_S 7 none am_r189 2 Q 63 [(5, .long (Int64.ofNat 0)), (4, .int (nI k)), (3, .int (T k)), (2, .int (nI k)), (1, .int (nI n)), (0, .ref 154)] [] (am_wI h 157 jj ((nI k))) from ⟨n, 1002, pc_w157 hP, by omega, rfl, ?_⟩)
    have hkt : (nI k).toInt = k := nI_toInt (by omega)
    have l1 := tx_w (o := 157) (k := n) (v := nI k) hl (Or.inr rfl) (Nat.le_refl _) (by omega) (pz_sga pz_sg157 (by omega) (by omega))
    have hpl1 : (am_wI h 157 n (nI k)).1 157 n = nI k := em_we h 157 n _
    generalize am_wI h 157 n (nI k) = h1 at l1 hpl1 ⊢
    have hP1 := l1.1.1
    refine am_goX 2 (show 0 ≤ 8 ∧ h1.2.2.2.2 + am_al 190 ≤ 175 ∧ am_call am_cod 2 190 [.int (T k)] h1 (fun vv h' => pz_S 7 none am_r189 2 Q 67 [(5, .long (Int64.ofNat 0)), (4, .int (nI k)), (3, .int (T k)), (2, .int (nI k)), (1, .int (nI n)), (0, .ref 154)] (vv.toList ++ []) h') from ⟨by decide, pc_lim hP1 rfl, am_call.up (pz_letC hP1 ?_) (by decide)⟩)
    cases el : pz_let (T k) with
    | true =>
      refine am_goX 1 (show ((pz_b true) = 0 → pz_S 7 none am_r189 2 Q 152 [(5, .long (Int64.ofNat 0)), (4, .int (nI k)), (3, .int (T k)), (2, .int (nI k)), (1, .int (nI n)), (0, .ref 154)] [] h1) ∧ (¬ ((pz_b true) = 0) → pz_S 7 none am_r189 2 Q 70 [(5, .long (Int64.ofNat 0)), (4, .int (nI k)), (3, .int (T k)), (2, .int (nI k)), (1, .int (nI n)), (0, .ref 154)] [] h1) from ⟨fun hz => absurd hz (by decide), fun _ => ?_⟩)
      exact sv_S sv_189 (by intro q hq; simp only [List.mem_cons, List.not_mem_nil, or_false] at hq; rcases hq with rfl | rfl | rfl | rfl | rfl <;> rfl) (tk_cl rfl el hz hnk h265 l1 hpl1 hks0 (by rw [Nat.sub_self]; rfl))
    | false =>
      refine am_goX 1 (show ((pz_b false) = 0 → pz_S 7 none am_r189 2 Q 152 [(5, .long (Int64.ofNat 0)), (4, .int (nI k)), (3, .int (T k)), (2, .int (nI k)), (1, .int (nI n)), (0, .ref 154)] [] h1) ∧ (¬ ((pz_b false) = 0) → pz_S 7 none am_r189 2 Q 70 [(5, .long (Int64.ofNat 0)), (4, .int (nI k)), (3, .int (T k)), (2, .int (nI k)), (1, .int (nI n)), (0, .ref 154)] [] h1) from ⟨fun _ => ?_, fun hz => absurd rfl hz⟩)
      refine am_goX 2 (show 0 ≤ 8 ∧ h1.2.2.2.2 + am_al 192 ≤ 175 ∧ am_call am_cod 2 192 [.int (T k)] h1 (fun vv h' => pz_S 7 none am_r189 2 Q 156 [(5, .long (Int64.ofNat 0)), (4, .int (nI k)), (3, .int (T k)), (2, .int (nI k)), (1, .int (nI n)), (0, .ref 154)] (vv.toList ++ []) h') from ⟨by decide, pc_lim hP1 rfl, am_call.up (pz_digC hP1 ?_) (by decide)⟩)
      cases ed : pz_dig (T k) with
      | true =>
        refine am_goX 1 (show ((pz_b true) = 0 → pz_S 7 none am_r189 2 Q 240 [(5, .long (Int64.ofNat 0)), (4, .int (nI k)), (3, .int (T k)), (2, .int (nI k)), (1, .int (nI n)), (0, .ref 154)] [] h1) ∧ (¬ ((pz_b true) = 0) → pz_S 7 none am_r189 2 Q 159 [(5, .long (Int64.ofNat 0)), (4, .int (nI k)), (3, .int (T k)), (2, .int (nI k)), (1, .int (nI n)), (0, .ref 154)] [] h1) from ⟨fun hz => absurd hz (by decide), fun _ => ?_⟩)
        exact sv_S sv_189 (by intro q hq; simp only [List.mem_cons, List.not_mem_nil, or_false] at hq; rcases hq with rfl | rfl | rfl | rfl | rfl <;> rfl) (tk_cd rfl el ed hz hnk h265 l1 hpl1 hks0 (by rw [Nat.sub_self]; rfl))
      | false =>
        refine am_goX 1 (show ((pz_b false) = 0 → pz_S 7 none am_r189 2 Q 240 [(5, .long (Int64.ofNat 0)), (4, .int (nI k)), (3, .int (T k)), (2, .int (nI k)), (1, .int (nI n)), (0, .ref 154)] [] h1) ∧ (¬ ((pz_b false) = 0) → pz_S 7 none am_r189 2 Q 159 [(5, .long (Int64.ofNat 0)), (4, .int (nI k)), (3, .int (T k)), (2, .int (nI k)), (1, .int (nI n)), (0, .ref 154)] [] h1) from ⟨fun _ => ?_, fun hz => absurd rfl hz⟩)
        refine am_goX 5 (show 5 + 1 < 7 ∧ am_sh h1 154 = some (11, 0) ∧ pz_S 7 none am_r189 2 Q 248 [(5, .long ((T k)).toInt64), (4, .int (nI k)), (3, .int (T k)), (2, .int (nI k)), (1, .int (nI n)), (0, .ref 154)] [am_rf (h1.2.2.1 154 4)] h1 from ⟨by decide, pc_154 hP1, ?_⟩)
        rw [pc_r4 hP1]
        refine am_goX 3 (show 2 ≤ 8 ∧ h1.2.2.2.2 + am_al 193 ≤ 175 ∧ am_call am_cod 2 193 [.int (T k)] h1 (fun vv h' => pz_S 7 none am_r189 2 Q 253 [(5, .long ((T k)).toInt64), (4, .int (nI k)), (3, .int (T k)), (2, .int (nI k)), (1, .int (nI n)), (0, .ref 154)] (vv.toList ++ [.int (nI n), .ref 156]) h') from ⟨by decide, pc_lim hP1 rfl, am_call.up (tk_sgof hP1 ?_) (by decide)⟩)
        have ev : (T k).toInt64 = tk_vl T sz k := by
          unfold tk_vl
          rw [el, ed]
          rfl
        have ee : k + 1 = tk_en T sz k := by
          unfold tk_en
          rw [el, ed]
          rfl
        cases es : tk_sn (T k) with
        | true =>
          refine am_goX 1 (show ((pz_b true) = 0 → pz_S 7 none am_r189 2 Q 260 [(5, .long ((T k)).toInt64), (4, .int (nI k)), (3, .int (T k)), (2, .int (nI k)), (1, .int (nI n)), (0, .ref 154)] [.int (nI n), .ref 156] h1) ∧ (¬ ((pz_b true) = 0) → pz_S 7 none am_r189 2 Q 256 [(5, .long ((T k)).toInt64), (4, .int (nI k)), (3, .int (T k)), (2, .int (nI k)), (1, .int (nI n)), (0, .ref 154)] [.int (nI n), .ref 156] h1) from ⟨fun hz => absurd hz (by decide), fun _ => ?_⟩)
          refine am_goX 3 (show ∃ jj nn : Nat, am_so h1 156 = some (13, nn) ∧ jj < nn ∧ (nI n) = nI jj ∧ pz_S 7 none am_r189 2 Q 262 [(5, .long ((T k)).toInt64), (4, .int (nI k)), (3, .int (T k)), (2, .int (nI k)), (1, .int (nI n)), (0, .ref 154)] [] (am_wI h1 156 jj ((Int32.ofInt 3))) from ⟨n, 1002, pc_w156 hP1, by omega, rfl, ?_⟩)
          have ek : Int32.ofInt 3 = tk_kd T sz k := by
            unfold tk_kd
            rw [el, ed, es]
            rfl
          have l2 := tx_w (o := 156) (k := n) (v := Int32.ofInt 3) l1 (Or.inl rfl) (Nat.le_refl _) (by omega) (pz_sga pz_sg156 (by decide) (by decide))
          have e1 : (am_wI h1 156 n (Int32.ofInt 3)).1 157 n = nI k := by rw [em_wn h1 _ (by omega)]; exact hpl1
          have e2 : (am_wI h1 156 n (Int32.ofInt 3)).1 156 n = tk_kd T sz k := (em_we h1 156 n _).trans ek
          generalize am_wI h1 156 n (Int32.ofInt 3) = h2 at l2 e1 e2 ⊢
          refine am_goX 1 (show 2 < 7 ∧ pz_S 7 none am_r189 2 Q 265 [(2, .int ((nI k) + Int32.ofInt 1)), (5, .long ((T k)).toInt64), (4, .int (nI k)), (3, .int (T k)), (1, .int (nI n)), (0, .ref 154)] [] h2 from ⟨by decide, ?_⟩)
          rw [xw_i1]
          exact sv_S sv_189 (by intro q hq; simp only [List.mem_cons, List.not_mem_nil, or_false] at hq; rcases hq with rfl | rfl | rfl | rfl <;> rfl) (h265 (k + 1) _ h2 (by omega) (by omega) l2 e1 e2 ev ee)
        | false =>
          refine am_goX 1 (show ((pz_b false) = 0 → pz_S 7 none am_r189 2 Q 260 [(5, .long ((T k)).toInt64), (4, .int (nI k)), (3, .int (T k)), (2, .int (nI k)), (1, .int (nI n)), (0, .ref 154)] [.int (nI n), .ref 156] h1) ∧ (¬ ((pz_b false) = 0) → pz_S 7 none am_r189 2 Q 256 [(5, .long ((T k)).toInt64), (4, .int (nI k)), (3, .int (T k)), (2, .int (nI k)), (1, .int (nI n)), (0, .ref 154)] [.int (nI n), .ref 156] h1) from ⟨fun _ => ?_, fun hz => absurd rfl hz⟩)
          refine am_goX 2 (show ∃ jj nn : Nat, am_so h1 156 = some (13, nn) ∧ jj < nn ∧ (nI n) = nI jj ∧ pz_S 7 none am_r189 2 Q 262 [(5, .long ((T k)).toInt64), (4, .int (nI k)), (3, .int (T k)), (2, .int (nI k)), (1, .int (nI n)), (0, .ref 154)] [] (am_wI h1 156 jj ((Int32.ofInt 4))) from ⟨n, 1002, pc_w156 hP1, by omega, rfl, ?_⟩)
          have ek : Int32.ofInt 4 = tk_kd T sz k := by
            unfold tk_kd
            rw [el, ed, es]
            rfl
          have l2 := tx_w (o := 156) (k := n) (v := Int32.ofInt 4) l1 (Or.inl rfl) (Nat.le_refl _) (by omega) (pz_sga pz_sg156 (by decide) (by decide))
          have e1 : (am_wI h1 156 n (Int32.ofInt 4)).1 157 n = nI k := by rw [em_wn h1 _ (by omega)]; exact hpl1
          have e2 : (am_wI h1 156 n (Int32.ofInt 4)).1 156 n = tk_kd T sz k := (em_we h1 156 n _).trans ek
          generalize am_wI h1 156 n (Int32.ofInt 4) = h2 at l2 e1 e2 ⊢
          refine am_goX 1 (show 2 < 7 ∧ pz_S 7 none am_r189 2 Q 265 [(2, .int ((nI k) + Int32.ofInt 1)), (5, .long ((T k)).toInt64), (4, .int (nI k)), (3, .int (T k)), (1, .int (nI n)), (0, .ref 154)] [] h2 from ⟨by decide, ?_⟩)
          rw [xw_i1]
          exact sv_S sv_189 (by intro q hq; simp only [List.mem_cons, List.not_mem_nil, or_false] at hq; rcases hq with rfl | rfl | rfl | rfl <;> rfl) (h265 (k + 1) _ h2 (by omega) (by omega) l2 e1 e2 ev ee)
end
section
/-! A LIGHT FOOTING: how many objects there are, the references that never change -/
def ex_P (h : am_H) : Prop := h.2.2.2.2 = 175 ∧ ∀ o k r, ag_lk ag_DD.2.2.1 o k = some r → h.2.2.1 o k = some r
theorem ex_175 {h : am_H} (hP : ex_P h) : h.2.2.2.2 = 175 := hP.1
theorem ex_so {h : am_H} (hP : ex_P h) {o : Nat} {e : Nat × Nat} (he : ag_so ag_DD o = some e) : am_so h o = some e ∧ am_sh h o = some e := ag_so_ok (D := ag_DD) ag_DD_sh hP.1 he
theorem ex_lim {h : am_H} (hP : ex_P h) {n : Nat} (hn : am_al n = 0) : h.2.2.2.2 + am_al n ≤ 175 := by
  rw [hP.1, hn]
  exact Nat.le_refl _
theorem ex_G {h : am_H} (h1 : h.2.2.2.2 = 175) (hG : ag_G ag_DD h) : ex_P h := ⟨h1, hG.2.2⟩
/-! WORDS IN TWO PACKINGS -/
def bse (B f : Nat) (r : Nat → Nat) : Nat → Nat
  | 0 => 0
  | n + 1 => B * bse B f r n + (f + r n)
def bsv (r : Nat → Nat) (n : Nat) : Prop := ∀ i, i < n → 1 ≤ r i ∧ r i ≤ 26
theorem bse_lt {B f : Nat} {r : Nat → Nat} (hB : f + 26 < B) : ∀ {n : Nat}, bsv r n → bse B f r n < B ^ n
  | 0, _ => Nat.lt_succ_self 0
  | n + 1, h => by
    have ih := bse_lt hB (n := n) (fun i hi => h i (by omega))
    have hr := h n (by omega)
    have h1 : B * bse B f r n + B ≤ B * B ^ n := by
      rw [← Nat.mul_succ]
      exact Nat.mul_le_mul_left B ih
    show B * bse B f r n + (f + r n) < B ^ n * B
    rw [Nat.mul_comm (B ^ n) B]
    omega
theorem bse_inj {B f : Nat} {r r' : Nat → Nat} (hB : f + 26 < B) : ∀ {n n' : Nat}, bsv r n → bsv r' n' → bse B f r n = bse B f r' n' → n = n' ∧ ∀ i, i < n → r i = r' i
  | 0, 0, _, _, _ => ⟨rfl, fun i hi => absurd hi (Nat.not_lt_zero i)⟩
  | 0, n' + 1, _, h', e => by
    have hr := h' n' (by omega)
    have e : 0 = B * bse B f r' n' + (f + r' n') := e
    omega
  | n + 1, 0, h, _, e => by
    have hr := h n (by omega)
    have e : B * bse B f r n + (f + r n) = 0 := e
    omega
  | n + 1, n' + 1, h, h', e => by
    have hr := h n (by omega)
    have hr' := h' n' (by omega)
    have e : B * bse B f r n + (f + r n) = B * bse B f r' n' + (f + r' n') := e
    have m := congrArg (· % B) e
    simp only [Nat.mul_add_mod] at m
    rw [Nat.mod_eq_of_lt (by omega), Nat.mod_eq_of_lt (by omega)] at m
    have e2 : bse B f r n = bse B f r' n' := Nat.eq_of_mul_eq_mul_left (show 0 < B by omega) (by omega)
    obtain ⟨e3, e4⟩ := bse_inj hB (fun i hi => h i (by omega)) (fun i hi => h' i (by omega)) e2
    refine ⟨by omega, fun i hi => ?_⟩
    by_cases hin : i = n
    · subst hin
      have : n' = i := e3.symm
      subst this
      omega
    · exact e4 i (by omega)
theorem bse_cg {B f : Nat} {r r' : Nat → Nat} : ∀ {n : Nat}, (∀ i, i < n → r i = r' i) → bse B f r n = bse B f r' n
  | 0, _ => rfl
  | n + 1, h => by
    show B * bse B f r n + (f + r n) = B * bse B f r' n + (f + r' n)
    rw [bse_cg (fun i hi => h i (by omega)), h n (by omega)]
theorem i64_inj {x y : Nat} (hx : x < 2 ^ 64) (hy : y < 2 ^ 64) (e : Int64.ofNat x = Int64.ofNat y) : x = y := by
  have e1 : (BitVec.ofNat 64 x).toNat = (BitVec.ofNat 64 y).toNat := congrArg (fun z : Int64 => z.toBitVec.toNat) e
  rw [BitVec.toNat_ofNat, BitVec.toNat_ofNat, Nat.mod_eq_of_lt hx, Nat.mod_eq_of_lt hy] at e1
  exact e1
/-- a word: in base 37, a byte each -/
def cwk (v w : Int64) : Prop := ∃ (n : Nat) (r : Nat → Nat), n ≤ 8 ∧ bsv r n ∧ v = Int64.ofNat (bse 37 0 r n) ∧ w = Int64.ofNat (bse 256 96 r n)
theorem cwk_lt {B f : Nat} {r : Nat → Nat} {n : Nat} (hB : f + 26 < B) (hB2 : B ≤ 256) (hn : n ≤ 8) (h : bsv r n) : bse B f r n < 2 ^ 64 := by
  have h1 := bse_lt hB h
  have h2 : B ^ n ≤ B ^ 8 := Nat.pow_le_pow_right (by omega) hn
  have h3 : B ^ 8 ≤ 256 ^ 8 := Nat.pow_le_pow_left hB2 8
  have h4 : (256 : Nat) ^ 8 = 2 ^ 64 := by decide +kernel
  omega
theorem cwk_inj {v w v' w' : Int64} (h1 : cwk v w) (h2 : cwk v' w') : v = v' ↔ w = w' := by
  obtain ⟨n, r, a1, a2, rfl, rfl⟩ := h1
  obtain ⟨n', r', b1, b2, rfl, rfl⟩ := h2
  constructor
  · intro e
    obtain ⟨e1, e2⟩ := bse_inj (by decide) a2 b2 (i64_inj (cwk_lt (by decide) (by decide) a1 a2) (cwk_lt (by decide) (by decide) b1 b2) e)
    subst e1
    rw [bse_cg e2]
  · intro e
    obtain ⟨e1, e2⟩ := bse_inj (by decide) a2 b2 (i64_inj (cwk_lt (by decide) (by decide) a1 a2) (cwk_lt (by decide) (by decide) b1 b2) e)
    subst e1
    rw [bse_cg e2]
theorem i64_sh {A x : Nat} (hA : A < 2 ^ 56) (hx : x < 256) : ((Int64.ofNat A) <<< (((Int8.ofInt 8).toInt32).toInt64 &&& 63)) ||| Int64.ofNat x = Int64.ofNat (256 * A + x) := by
  apply Int64.toBitVec_inj.mp
  show (BitVec.ofNat 64 A <<< 8) ||| BitVec.ofNat 64 x = BitVec.ofNat 64 (256 * A + x)
  apply BitVec.eq_of_toNat_eq
  rw [BitVec.toNat_or, BitVec.toNat_shiftLeft, BitVec.toNat_ofNat, BitVec.toNat_ofNat, BitVec.toNat_ofNat, Nat.mod_eq_of_lt (show A < 2 ^ 64 by omega), Nat.mod_eq_of_lt (show x < 2 ^ 64 by omega), Nat.mod_eq_of_lt (show 256 * A + x < 2 ^ 64 by omega), Nat.shiftLeft_eq, Nat.mod_eq_of_lt (show A * 2 ^ 8 < 2 ^ 64 by omega)]
  have e := Nat.shiftLeft_add_eq_or_of_lt (show x < 2 ^ 8 by omega) A
  rw [Nat.shiftLeft_eq] at e
  rw [← e]
  omega
/-- a number of at most four digits -/
def cnk (v : Int64) (x : Int32) : Prop := ∃ D : Nat, D ≤ 9999 ∧ v = Int64.ofNat D ∧ x = nI D
/-! WHAT A CANTON'S TEXT SAYS; tokens by their number: kind (0 the end, 1 word, 2 number, 3 sign, 4 none), worth, place -/
abbrev sp_T : Type := Nat → Int32 × Int64 × Nat
/-- persons: names, kinds, lots; events: names, days, needs, guests; snow told, on which days; law told, how long, its parts -/
abbrev sp_C : Type := (Nat × (Nat → Int64) × (Nat → Int32) × (Nat → Int32)) × (Nat × (Nat → Int64) × (Nat → Int32) × (Nat → Int32) × (Nat → Int32)) × (Bool × Int32) × (Bool × Nat × (Nat → Int32))
abbrev sp_S : Type := Nat × sp_C
abbrev sp_R : Type := Sum Int32 sp_S
def sp_b (r : sp_R) (f : sp_S → sp_R) : sp_R := match r with
  | .inl F => .inl F
  | .inr s => f s
def sp_ft (τ : sp_T) (a : Nat) (k : Int32) : Int32 := k + (Int8.ofInt 16).toInt32 * nI (τ a).2.2
def sp_f (τ : sp_T) (a : Nat) (k : Int32) : sp_R := .inl (sp_ft τ a k)
def sp_k (τ : sp_T) (a : Nat) (k : Int32) : Bool := decide ((τ a).1 = k)
def sp_w (τ : sp_T) (a : Nat) (w : Int64) : Bool := sp_k τ a 1 && decide ((τ a).2.1 = w)
def sp_s (τ : sp_T) (a : Nat) (x : Int32) : Bool := sp_k τ a 3 && decide ((τ a).2.1 = x.toInt64)
def sp_rs : List Int64 := [1119812451, 17003, 10492554, 569, 26498531, 6400279, 982151, 375310, 5538, 2083, 30596128, 43567634, 37900956, 488058286, 19741, 1891, 573]
def sp_n (τ : sp_T) (a : Nat) : Bool := sp_k τ a 1 && sp_rs.all (fun w => !decide ((τ a).2.1 = w))
def sp_v (τ : sp_T) (a : Nat) : Int32 := (τ a).2.1.toInt32
def sp_uI (f : Nat → Int32) (k : Nat) (v : Int32) : Nat → Int32 := fun i => if i = k then v else f i
def sp_uL (f : Nat → Int64) (k : Nat) (v : Int64) : Nat → Int64 := fun i => if i = k then v else f i
/-- the first of so many, from one on, that is v -/
def sp_fd (f : Nat → Int64) (v : Int64) : Nat → Nat → Option Nat
  | 0, _ => none
  | m + 1, i => bif decide (f i = v) then some i else sp_fd f v m (i + 1)
def sp_pf (C : sp_C) (v : Int64) : Option Nat := sp_fd C.1.2.1 v C.1.1 0
def sp_ef (C : sp_C) (v : Int64) : Option Nat := sp_fd C.2.1.2.1 v C.2.1.1 0
def sp_tS (τ : sp_T) (x : Int32) (s : sp_S) : sp_R := bif sp_s τ s.1 x then .inr (s.1 + 1, s.2) else sp_f τ s.1 (Int32.ofInt 1)
def sp_tW (τ : sp_T) (w : Int64) (s : sp_S) : sp_R := bif sp_w τ s.1 w then .inr (s.1 + 1, s.2) else sp_f τ s.1 (Int32.ofInt 1)
def sp_in (τ : sp_T) (a : Nat) (lo hi : Int32) : Bool := decide (lo ≤ sp_v τ a) && decide (sp_v τ a ≤ hi)
def sp_tN (τ : sp_T) (lo hi : Int32) (s : sp_S) : sp_R := bif sp_k τ s.1 2 then (bif sp_in τ s.1 lo hi then .inr s else sp_f τ s.1 (Int32.ofInt 4)) else sp_f τ s.1 (Int32.ofInt 1)
def sp_fn (τ : sp_T) (s : sp_S) : sp_R := bif sp_n τ s.1 then (bif (sp_pf s.2 (τ s.1).2.1).isSome || (sp_ef s.2 (τ s.1).2.1).isSome then sp_f τ s.1 (Int32.ofInt 3) else .inr s) else sp_f τ s.1 (Int32.ofInt 1)
def sp_kd (τ : sp_T) (a : Nat) : Option Int32 := bif sp_w τ a 30596128 then some 0 else bif sp_w τ a 43567634 then some 1 else bif sp_w τ a 37900956 then some 2 else bif sp_w τ a 488058286 then some 3 else none
def sp_cP (C : sp_C) (v : Int64) (k l : Int32) : sp_C := ((C.1.1 + 1, sp_uL C.1.2.1 C.1.1 v, sp_uI C.1.2.2.1 C.1.1 k, sp_uI C.1.2.2.2 C.1.1 l), C.2)
def sp_cE (C : sp_C) (v : Int64) (d n : Int32) : sp_C := (C.1, (C.2.1.1 + 1, sp_uL C.2.1.2.1 C.2.1.1 v, sp_uI C.2.1.2.2.1 C.2.1.1 d, sp_uI C.2.1.2.2.2.1 C.2.1.1 n, sp_uI C.2.1.2.2.2.2 C.2.1.1 0), C.2.2)
def sp_cG (C : sp_C) (e p : Nat) : sp_C := (C.1, (C.2.1.1, C.2.1.2.1, C.2.1.2.2.1, C.2.1.2.2.2.1, sp_uI C.2.1.2.2.2.2 e (C.2.1.2.2.2.2 e ||| ((Int32.ofInt 1) <<< (nI p &&& 31)))), C.2.2)
def sp_cS (C : sp_C) (b : Bool) (s : Int32) : sp_C := (C.1, C.2.1, (b, s), C.2.2.2)
def sp_cL (C : sp_C) : sp_C := (C.1, C.2.1, C.2.2.1, (true, C.2.2.2.2))
def sp_em (C : sp_C) (x : Int32) : sp_C := (C.1, C.2.1, C.2.2.1, (C.2.2.2.1, C.2.2.2.2.1 + 1, sp_uI C.2.2.2.2.2 C.2.2.2.2.1 x))
def sp_bit (x : Int32) (i : Int32) : Bool := decide (¬ ((x >>> (i &&& 31)) &&& Int32.ofInt 1) = 0)
def sp_person (τ : sp_T) (s : sp_S) : sp_R := bif Nat.ble 6 s.2.1.1 then sp_f τ s.1 (Int32.ofInt 5) else
  sp_b (sp_fn τ (s.1 + 1, s.2)) fun s1 => match sp_kd τ (s1.1 + 1) with
    | none => sp_f τ (s1.1 + 1) (Int32.ofInt 1)
    | some k => sp_b (sp_tW τ 17003 (s1.1 + 1 + 1, s1.2)) fun s2 => sp_b (sp_tN τ (Int32.ofInt 0) (Int32.ofInt 4) s2) fun s3 => sp_tS τ (Int8.ofInt 59).toInt32 (s3.1 + 1, sp_cP s3.2 (τ s1.1).2.1 k (sp_v τ s3.1))
def sp_event (τ : sp_T) (s : sp_S) : sp_R := bif Nat.ble 5 s.2.2.1.1 then sp_f τ s.1 (Int32.ofInt 5) else
  sp_b (sp_fn τ (s.1 + 1, s.2)) fun s1 => sp_b (sp_tW τ 569 (s1.1 + 1, s1.2)) fun s2 => sp_b (sp_tN τ (Int32.ofInt 0) (Int8.ofInt 6).toInt32 s2) fun s3 => sp_b (sp_tW τ 26498531 (s3.1 + 1, s3.2)) fun s4 => sp_b (sp_tN τ (Int32.ofInt 1) (Int8.ofInt 6).toInt32 s4) fun s5 =>
    sp_tS τ (Int8.ofInt 59).toInt32 (s5.1 + 1, sp_cE s5.2 (τ s1.1).2.1 (sp_v τ s3.1) (sp_v τ s5.1))
def sp_comes (τ : sp_T) (s : sp_S) : sp_R := bif sp_n τ (s.1 + 1) then (match sp_pf s.2 (τ (s.1 + 1)).2.1 with
    | none => sp_f τ (s.1 + 1) (Int32.ofInt 2)
    | some p => bif sp_n τ (s.1 + 1 + 1) then (match sp_ef s.2 (τ (s.1 + 1 + 1)).2.1 with
        | none => sp_f τ (s.1 + 1 + 1) (Int32.ofInt 2)
        | some e => bif sp_bit (s.2.2.1.2.2.2.2 e) (nI p) then sp_f τ (s.1 + 1 + 1) (Int32.ofInt 3) else sp_tS τ (Int8.ofInt 59).toInt32 (s.1 + 1 + 1 + 1, sp_cG s.2 e p)) else sp_f τ (s.1 + 1 + 1) (Int32.ofInt 1)) else sp_f τ (s.1 + 1) (Int32.ofInt 1)
/-- how many of 28 bits are 1 -/
def sp_pc (x : Int32) : Nat → Nat
  | 0 => 0
  | m + 1 => sp_pc x m + (bif sp_bit x (nI m) then 1 else 0)
def sp_sd (τ : sp_T) (s : sp_S) : sp_R := bif sp_k τ s.1 2 then (bif sp_in τ s.1 (Int32.ofInt 0) (Int8.ofInt 27).toInt32 then (bif sp_bit s.2.2.2.1.2 (sp_v τ s.1) then sp_f τ s.1 (Int32.ofInt 3) else bif Nat.ble 8 (sp_pc s.2.2.2.1.2 28) then sp_f τ s.1 (Int32.ofInt 5) else .inr (s.1 + 1, sp_cS s.2 s.2.2.2.1.1 (s.2.2.2.1.2 ||| ((Int32.ofInt 1) <<< (sp_v τ s.1 &&& 31))))) else sp_f τ s.1 (Int32.ofInt 4)) else sp_f τ s.1 (Int32.ofInt 1)
def sp_sl (τ : sp_T) : Nat → sp_S → sp_R
  | 0, s => .inr s
  | m + 1, s => bif sp_k τ s.1 2 then sp_b (sp_sd τ s) (sp_sl τ m) else .inr s
def sp_snow (τ : sp_T) (s : sp_S) : sp_R := bif s.2.2.2.1.1 then sp_f τ s.1 (Int32.ofInt 3) else sp_b (sp_sd τ (s.1 + 1, sp_cS s.2 true s.2.2.2.1.2)) fun s1 => sp_b (sp_sl τ 1001 s1) (sp_tS τ (Int8.ofInt 59).toInt32)
/-- the law: by what a PART is -/
def sp_pL (τ : sp_T) (p : sp_S → sp_R) : Nat → sp_S → sp_R
  | 0, s => .inr s
  | m + 1, s => bif sp_s τ s.1 (Int8.ofInt 42).toInt32 then sp_b (p (s.1 + 1, s.2)) (fun t => sp_pL τ p m (t.1, sp_em t.2 ((Int8.ofInt (-12)).toInt32))) else .inr s
def sp_p (τ : sp_T) (p : sp_S → sp_R) (s : sp_S) : sp_R := sp_b (p s) (sp_pL τ p 1001)
def sp_sL (τ : sp_T) (p : sp_S → sp_R) : Nat → sp_S → sp_R
  | 0, s => .inr s
  | m + 1, s => bif sp_s τ s.1 (Int8.ofInt 43).toInt32 then sp_b (sp_p τ p (s.1 + 1, s.2)) (fun t => sp_sL τ p m (t.1, sp_em t.2 ((Int8.ofInt (-10)).toInt32))) else bif sp_s τ s.1 (Int8.ofInt 45).toInt32 then sp_b (sp_p τ p (s.1 + 1, s.2)) (fun t => sp_sL τ p m (t.1, sp_em t.2 ((Int8.ofInt (-11)).toInt32))) else .inr s
def sp_su (τ : sp_T) (p : sp_S → sp_R) (s : sp_S) : sp_R := sp_b (sp_p τ p s) (sp_sL τ p 1001)
def sp_te (τ : sp_T) (p : sp_S → sp_R) (s : sp_S) : sp_R := sp_b (sp_su τ p s) fun t => bif sp_s τ t.1 (Int8.ofInt 60).toInt32 then sp_b (sp_su τ p (t.1 + 1, t.2)) (fun u => .inr (u.1, sp_em u.2 ((Int8.ofInt (-8)).toInt32))) else bif sp_s τ t.1 (Int8.ofInt 61).toInt32 then sp_b (sp_su τ p (t.1 + 1, t.2)) (fun u => .inr (u.1, sp_em u.2 ((Int8.ofInt (-9)).toInt32))) else .inr t
def sp_wL (τ : sp_T) (p : sp_S → sp_R) : Nat → sp_S → sp_R
  | 0, s => .inr s
  | m + 1, s => bif sp_w τ s.1 1891 then sp_b (sp_te τ p (s.1 + 1, s.2)) (fun t => sp_wL τ p m (t.1, sp_em t.2 ((Int8.ofInt (-6)).toInt32))) else bif sp_w τ s.1 573 then sp_b (sp_te τ p (s.1 + 1, s.2)) (fun t => sp_wL τ p m (t.1, sp_em t.2 ((Int8.ofInt (-7)).toInt32))) else .inr s
def sp_wh (τ : sp_T) (p : sp_S → sp_R) (s : sp_S) : sp_R := sp_b (sp_te τ p s) (sp_wL τ p 1001)
/-- a fact: off, week, met, white -/
def sp_fa (τ : sp_T) (a : Nat) : Int32 := bif sp_w τ a 20763 then Int32.ofInt (-1) else bif sp_w τ a 1172060 then (Int8.ofInt (-2)).toInt32 else bif sp_w τ a 18002 then (Int8.ofInt (-3)).toInt32 else bif sp_w τ a 43523993 then (Int8.ofInt (-4)).toInt32 else Int32.ofInt 0
def sp_pt (τ : sp_T) : Nat → sp_S → sp_R
  | 0, s => bif decide (sp_fa τ s.1 = 0) && (!sp_k τ s.1 2 && (!sp_w τ s.1 19741 && !sp_s τ s.1 (Int8.ofInt 40).toInt32)) then sp_f τ s.1 (Int32.ofInt 1) else sp_f τ s.1 (Int32.ofInt 5)
  | d + 1, s => bif decide (sp_fa τ s.1 = 0) && (!sp_k τ s.1 2 && (!sp_w τ s.1 19741 && !sp_s τ s.1 (Int8.ofInt 40).toInt32)) then sp_f τ s.1 (Int32.ofInt 1) else
    bif sp_k τ s.1 2 then .inr (s.1 + 1, sp_em s.2 (sp_v τ s.1)) else bif !decide (sp_fa τ s.1 = 0) then .inr (s.1 + 1, sp_em s.2 (sp_fa τ s.1)) else
    bif sp_w τ s.1 19741 then sp_b (sp_pt τ d (s.1 + 1, s.2)) (fun t => .inr (t.1, sp_em t.2 ((Int8.ofInt (-5)).toInt32))) else sp_b (sp_wh τ (sp_pt τ d) (s.1 + 1, s.2)) (sp_tS τ (Int8.ofInt 41).toInt32)
def sp_goes (τ : sp_T) (s : sp_S) : sp_R := bif s.2.2.2.2.1 then sp_f τ s.1 (Int32.ofInt 3) else sp_b (sp_wh τ (sp_pt τ 5) (s.1 + 1, sp_cL s.2)) (sp_tS τ (Int8.ofInt 59).toInt32)
def sp_line (τ : sp_T) (s : sp_S) : sp_R := bif sp_w τ s.1 1119812451 then sp_person τ s else bif sp_w τ s.1 10492554 then sp_event τ s else bif sp_w τ s.1 6400279 then sp_comes τ s else bif sp_w τ s.1 982151 then sp_snow τ s else bif sp_w τ s.1 375310 then sp_goes τ s else sp_f τ s.1 (Int32.ofInt 1)
def sp_all (τ : sp_T) : Nat → sp_S → sp_R
  | 0, s => .inr s
  | m + 1, s => bif sp_k τ s.1 0 then .inr s else sp_b (sp_line τ s) (sp_all τ m)
def sp_C0 : sp_C := ((0, fun _ => 0, fun _ => 0, fun _ => 0), (0, fun _ => 0, fun _ => 0, fun _ => 0, fun _ => 0), (false, 0), (false, 0, fun _ => 0))
def sp_canton (τ : sp_T) : sp_R := sp_all τ 1001 (0, sp_C0)
/-- what canton answers -/
def sp_ans (r : sp_R) : Int32 := match r with
  | .inl F => F
  | .inr _ => 0
end
section
/-! STRINGS, EXACTLY -/
variable {h : am_H} {Q : am_Q} {q : Nat}
theorem st_rc (hq : q < 26) : am_rc h (4000000 + q) 20 := Or.inr ⟨rfl, q, hq, rfl⟩
theorem st_lat (hq : q < 26) (hP : ex_P h) (hQ : Q (some (.int 1)) h) : am_call am_cod 1 23 [.ref (4000000 + q)] h Q := by
  refine pz_call (n := 23) (nL := 1) (rt := (some .boolean)) (rows := am_r23) (d := 0) (by decide +kernel) (by decide +kernel) rfl (by funext pc; rfl) (ex_175 hP) (by exact Nat.le_of_ble_eq_true rfl) ?_
  refine am_goX 2 (show ((1 : Int32) = 0 → pz_S 1 (some .boolean) am_r23 0 Q 17 [(0, .ref (4000000 + q))] [] h) ∧ (¬ (1 : Int32) = 0 → pz_S 1 (some .boolean) am_r23 0 Q 6 [(0, .ref (4000000 + q))] [] h) from ⟨fun z => absurd z (by decide), fun _ => ?_⟩)
  refine am_goX 2 (show ∃ q9 : Nat, q9 < 26 ∧ 4000000 + q = 4000000 + q9 ∧ pz_S 1 (some .boolean) am_r23 0 Q 10 [(0, .ref (4000000 + q))] [.int 0] h from ⟨q, hq, rfl, ?_⟩)
  refine am_goX 1 (show (¬ (0 : Int32) = 0 → pz_S 1 (some .boolean) am_r23 0 Q 17 [(0, .ref (4000000 + q))] [] h) ∧ (¬ ¬ (0 : Int32) = 0 → pz_S 1 (some .boolean) am_r23 0 Q 13 [(0, .ref (4000000 + q))] [] h) from ⟨fun z => absurd rfl z, fun _ => ?_⟩)
  exact am_goX 3 (show (∃ ty, (some FieldType.boolean) = some ty ∧ narrow ty (.int (Int32.ofInt 1)) = .int (Int32.ofInt 1)) ∧ h.2.2.2.2 = 175 ∧ _ from ⟨⟨.boolean, rfl, rfl⟩, ex_175 hP, hQ⟩)
theorem st_cod (hq : q < 26) (hP : ex_P h) (hQ : Q (some (.int 0)) h) : am_call am_cod 1 25 [.ref (4000000 + q)] h Q := by
  refine pz_call (n := 25) (nL := 1) (rt := (some .byte)) (rows := am_r25) (d := 0) (by decide +kernel) (by decide +kernel) rfl (by funext pc; rfl) (ex_175 hP) (by exact Nat.le_of_ble_eq_true rfl) ?_
  refine am_goX 2 (show ((1 : Int32) = 0 → pz_S 1 (some .byte) am_r25 0 Q 13 [(0, .ref (4000000 + q))] [] h) ∧ (¬ (1 : Int32) = 0 → pz_S 1 (some .byte) am_r25 0 Q 6 [(0, .ref (4000000 + q))] [] h) from ⟨fun z => absurd z (by decide), fun _ => ?_⟩)
  refine am_goX 2 (show ∃ q9 : Nat, q9 < 26 ∧ 4000000 + q = 4000000 + q9 ∧ pz_S 1 (some .byte) am_r25 0 Q 10 [(0, .ref (4000000 + q))] [.int 0] h from ⟨q, hq, rfl, ?_⟩)
  exact am_goX 2 (show (∃ ty, (some FieldType.byte) = some ty ∧ narrow ty (.int 0) = .int 0) ∧ h.2.2.2.2 = 175 ∧ _ from ⟨⟨.byte, rfl, rfl⟩, ex_175 hP, hQ⟩)
theorem st_sh (x : Int32) : x >>> ((0 : Int32) &&& 31) = x := by
  rw [show ((0 : Int32) &&& 31) = 0 from rfl]
  exact Int32.shiftRight_zero
theorem st_len (hq : q < 26) (hP : ex_P h) (hQ : Q (some (.int (nI (am_sln.getD q 0)))) h) : am_call am_cod 2 24 [.ref (4000000 + q)] h Q := by
  refine pz_call (n := 24) (nL := 1) (rt := (some .int)) (rows := am_r24) (d := 1) (by decide +kernel) (by decide +kernel) rfl (by funext pc; rfl) (ex_175 hP) (by exact Nat.le_of_ble_eq_true rfl) ?_
  refine am_goX 2 (show ∃ q9 : Nat, q9 < 26 ∧ 4000000 + q = 4000000 + q9 ∧ pz_S 1 (some .int) am_r24 1 Q 4 [(0, .ref (4000000 + q))] [.ref (5000000 + q9)] h from ⟨q, hq, rfl, ?_⟩)
  refine am_goX 1 (show (∃ t n : Nat, am_sh h (5000000 + q) = some (t, n) ∧ 12 ≤ t ∧ pz_S 1 (some .int) am_r24 1 Q 5 [(0, .ref (4000000 + q))] [.int (nI n)] h) ∨ (∃ q9 : Nat, q9 < 26 ∧ 5000000 + q = 5000000 + q9 ∧ pz_S 1 (some .int) am_r24 1 Q 5 [(0, .ref (4000000 + q))] [.int (nI (am_sln.getD q9 0))] h) from Or.inr ⟨q, hq, rfl, ?_⟩)
  refine am_goX 2 (show am_rc h (4000000 + q) 20 ∧ 1 ≤ 8 ∧ h.2.2.2.2 + am_al 25 ≤ 175 ∧ am_call am_cod 1 25 [.ref (4000000 + q)] h (fun vv h' => pz_S 1 (some .int) am_r24 1 Q 9 [(0, .ref (4000000 + q))] (vv.toList ++ [.int (nI (am_sln.getD q 0))]) h') from ⟨st_rc hq, by decide, ex_lim hP rfl, st_cod hq hP ?_⟩)
  refine am_goX 2 (show (∃ ty, (some FieldType.int) = some ty ∧ narrow ty (.int (nI (am_sln.getD q 0) >>> ((0 : Int32) &&& 31))) = .int (nI (am_sln.getD q 0) >>> ((0 : Int32) &&& 31))) ∧ h.2.2.2.2 = 175 ∧ Q (some (.int (nI (am_sln.getD q 0) >>> ((0 : Int32) &&& 31)))) h from ⟨⟨.int, rfl, rfl⟩, ex_175 hP, ?_⟩)
  rw [st_sh]
  exact hQ
theorem st_chk {x y : Int32} (hP : ex_P h) (hx : 0 ≤ x) (hy : x < y) (hQ : Q none h) : am_call am_cod 2 47 [.int x, .int y] h Q := by
  refine pz_call (n := 47) (nL := 2) (rt := none) (rows := am_r47) (d := 1) (by decide +kernel) (by decide +kernel) rfl (by funext pc; rfl) (ex_175 hP) (by exact Nat.le_of_ble_eq_true rfl) ?_
  refine am_goX 4 (show 0 ≤ 8 ∧ h.2.2.2.2 + am_al 48 ≤ 175 ∧ am_call am_cod 1 48 [.int x, .int y, .int (Int32.ofInt 0)] h (fun vv h' => pz_S 2 none am_r47 1 Q 8 [(0, .int x), (1, .int y)] (vv.toList ++ []) h') from ⟨Nat.zero_le _, ex_lim hP rfl, am_48_fwd rfl hx hy ?_⟩)
  exact am_goX 2 (show (Value.int x).category = 1 ∧ (none : Option FieldType) = none ∧ h.2.2.2.2 = 175 ∧ _ from ⟨rfl, rfl, ex_175 hP, hQ⟩)
def st_b (q i : Nat) : Int32 := (am_sby.getD q []).getD i 0
theorem st_ln : (List.range 26).all (fun q => Nat.beq (am_sby.getD q []).length (am_sln.getD q 0)) = true := by decide +kernel
theorem st_by : am_sby.all (fun l => l.all (fun b => decide (((b &&& (Int16.ofInt 255).toInt32).toUInt32 % 65536).toInt32 = b) && decide (narrow .char (.int b) = .int b))) = true := by decide +kernel
theorem st_bb {i : Nat} (hq : q < 26) (hi : i < am_sln.getD q 0) : ((st_b q i &&& (Int16.ofInt 255).toInt32).toUInt32 % 65536).toInt32 = st_b q i ∧ narrow .char (.int (st_b q i)) = .int (st_b q i) := by
  have e1 := Nat.eq_of_beq_eq_true (List.all_eq_true.mp st_ln q (List.mem_range.mpr hq))
  have hl : i < (am_sby.getD q []).length := by rw [e1]; exact hi
  have hm : am_sby.getD q [] ∈ am_sby := by
    rw [List.getD_eq_getElem?_getD]
    cases hg : am_sby[q]? with
    | none =>
      rw [List.getD_eq_getElem?_getD, hg] at hl
      exact absurd hl (Nat.not_lt_zero _)
    | some l => exact List.mem_of_getElem? hg
  have hb : st_b q i ∈ am_sby.getD q [] := by
    unfold st_b
    rw [List.getD_eq_getElem?_getD (l := am_sby.getD q []), List.getElem?_eq_getElem hl]
    exact List.getElem_mem hl
  have w := List.all_eq_true.mp (List.all_eq_true.mp st_by _ hm) _ hb
  rw [Bool.and_eq_true, decide_eq_true_eq, decide_eq_true_eq] at w
  exact w
theorem st_l31 : am_sln.all (fun n => Nat.ble n 1000) = true := by decide +kernel
theorem st_lt (q : Nat) : am_sln.getD q 0 < 2 ^ 31 := by
  have := am_sln_le q
  omega
theorem st_ch1 {i : Nat} (hq : q < 26) (hi : i < am_sln.getD q 0) (hP : ex_P h) (hQ : Q (some (.int (st_b q i))) h) : am_call am_cod 3 46 [.ref (5000000 + q), .int (nI i)] h Q := by
  have hl := st_lt q
  refine pz_call (n := 46) (nL := 2) (rt := (some .char)) (rows := am_r46) (d := 2) (by decide +kernel) (by decide +kernel) rfl (by funext pc; rfl) (ex_175 hP) (by exact Nat.le_of_ble_eq_true rfl) ?_
  refine am_goX 3 (show (∃ t n : Nat, am_sh h (5000000 + q) = some (t, n) ∧ 12 ≤ t ∧ pz_S 2 (some .char) am_r46 2 Q 3 [(0, .ref (5000000 + q)), (1, .int (nI i))] [.int (nI n), .int (nI i)] h) ∨ (∃ q9 : Nat, q9 < 26 ∧ 5000000 + q = 5000000 + q9 ∧ pz_S 2 (some .char) am_r46 2 Q 3 [(0, .ref (5000000 + q)), (1, .int (nI i))] [.int (nI (am_sln.getD q9 0)), .int (nI i)] h) from Or.inr ⟨q, hq, rfl, ?_⟩)
  refine am_goX 1 (show 0 ≤ 8 ∧ h.2.2.2.2 + am_al 47 ≤ 175 ∧ am_call am_cod 2 47 [.int (nI i), .int (nI (am_sln.getD q 0))] h (fun vv h' => pz_S 2 (some .char) am_r46 2 Q 6 [(0, .ref (5000000 + q)), (1, .int (nI i))] (vv.toList ++ []) h') from ⟨Nat.zero_le _, ex_lim hP rfl, st_chk hP (nI_pos' (by omega)) (nI_lt hi hl) ?_⟩)
  refine am_goX 3 (show (∃ j n : Nat, am_sh h (5000000 + q) = some (15, n) ∧ j < n ∧ nI i = nI j ∧ pz_S 2 (some .char) am_r46 2 Q 9 [(0, .ref (5000000 + q)), (1, .int (nI i))] [.int (h.1 (5000000 + q) j)] h) ∨ (∃ q9 j : Nat, q9 < 26 ∧ 5000000 + q = 5000000 + q9 ∧ j < am_sln.getD q9 0 ∧ nI i = nI j ∧ pz_S 2 (some .char) am_r46 2 Q 9 [(0, .ref (5000000 + q)), (1, .int (nI i))] [.int (st_b q9 j)] h) from Or.inr ⟨q, i, hq, rfl, hi, rfl, ?_⟩)
  have e := st_bb hq hi
  refine am_goX 4 (show (∃ ty, (some FieldType.char) = some ty ∧ narrow ty (.int ((st_b q i &&& (Int16.ofInt 255).toInt32).toUInt32 % 65536).toInt32) = .int ((st_b q i &&& (Int16.ofInt 255).toInt32).toUInt32 % 65536).toInt32) ∧ h.2.2.2.2 = 175 ∧ Q (some (.int ((st_b q i &&& (Int16.ofInt 255).toInt32).toUInt32 % 65536).toInt32)) h from ?_)
  rw [e.1]
  exact ⟨⟨.char, rfl, e.2⟩, ex_175 hP, hQ⟩
theorem st_ch {i : Nat} (hq : q < 26) (hi : i < am_sln.getD q 0) (hP : ex_P h) (hQ : Q (some (.int (st_b q i))) h) : am_call am_cod 4 45 [.ref (4000000 + q), .int (nI i)] h Q := by
  have e := st_bb hq hi
  refine pz_call (n := 45) (nL := 2) (rt := (some .char)) (rows := am_r45) (d := 3) (by decide +kernel) (by decide +kernel) rfl (by funext pc; rfl) (ex_175 hP) (by exact Nat.le_of_ble_eq_true rfl) ?_
  refine am_goX 2 (show am_rc h (4000000 + q) 20 ∧ 0 ≤ 8 ∧ h.2.2.2.2 + am_al 23 ≤ 175 ∧ am_call am_cod 3 23 [.ref (4000000 + q)] h (fun vv h' => pz_S 2 (some .char) am_r45 3 Q 4 [(0, .ref (4000000 + q)), (1, .int (nI i))] (vv.toList ++ []) h') from ⟨st_rc hq, by decide, ex_lim hP rfl, am_call.up (st_lat hq hP ?_) (by decide)⟩)
  refine am_goX 1 (show ((1 : Int32) = 0 → pz_S 2 (some .char) am_r45 3 Q 16 [(0, .ref (4000000 + q)), (1, .int (nI i))] [] h) ∧ (¬ (1 : Int32) = 0 → pz_S 2 (some .char) am_r45 3 Q 7 [(0, .ref (4000000 + q)), (1, .int (nI i))] [] h) from ⟨fun z => absurd z (by decide), fun _ => ?_⟩)
  refine am_goX 2 (show ∃ q9 : Nat, q9 < 26 ∧ 4000000 + q = 4000000 + q9 ∧ pz_S 2 (some .char) am_r45 3 Q 11 [(0, .ref (4000000 + q)), (1, .int (nI i))] [.ref (5000000 + q9)] h from ⟨q, hq, rfl, ?_⟩)
  refine am_goX 2 (show 0 ≤ 8 ∧ h.2.2.2.2 + am_al 46 ≤ 175 ∧ am_call am_cod 3 46 [.ref (5000000 + q), .int (nI i)] h (fun vv h' => pz_S 2 (some .char) am_r45 3 Q 15 [(0, .ref (4000000 + q)), (1, .int (nI i))] (vv.toList ++ []) h') from ⟨Nat.zero_le _, ex_lim hP rfl, st_ch1 hq hi hP ?_⟩)
  exact am_goX 1 (show (∃ ty, (some FieldType.char) = some ty ∧ narrow ty (.int (st_b q i)) = .int (st_b q i)) ∧ h.2.2.2.2 = 175 ∧ _ from ⟨⟨.char, rfl, e.2⟩, ex_175 hP, hQ⟩)
end
section
/-! THE CLASS'S TAPE, EXACTLY -/
variable {h h0 : am_H} {sz p a : Nat} {T : Nat → Int32} {Q : am_Q}
/-- the letters of a word, a byte each; a number -/
def cw (T : Nat → Int32) (p : Nat) : Nat → Int64
  | 0 => Int64.ofNat 0
  | j + 1 => ((cw T p j) <<< (((Int8.ofInt 8).toInt32).toInt64 &&& 63)) ||| (T (p + j)).toInt64
def cn (T : Nat → Int32) (p : Nat) : Nat → Int32
  | 0 => Int32.ofInt 0
  | j + 1 => cn T p j * (Int8.ofInt 10).toInt32 + (T (p + j) - (Int8.ofInt 48).toInt32)
/-- the class's kind of a token -/
def ck (k : Int32) : Int32 := bif decide (k = 0) then 4 else bif decide (k = 4) then 0 else k
/-- nothing but the tape's own fields is touched -/
def fr1 (h0 h : am_H) : Prop := h.2.2 = h0.2.2 ∧ ∀ o k, ¬ o = 1 → h.1 o k = h0.1 o k ∧ h.2.1 o k = h0.2.1 o k
theorem fr1_refl (h : am_H) : fr1 h h := ⟨rfl, fun _ _ _ => ⟨rfl, rfl⟩⟩
theorem fr1_tr {h1 h2 : am_H} (f : fr1 h h1) (g : fr1 h1 h2) : fr1 h h2 := ⟨g.1.trans f.1, fun o k ho => ⟨((g.2 o k ho).1).trans (f.2 o k ho).1, ((g.2 o k ho).2).trans (f.2 o k ho).2⟩⟩
def ctp (h0 : am_H) (sz : Nat) (T : Nat → Int32) (h : am_H) : Prop := ex_P h ∧ fr1 h0 h ∧ h.1 1 1 = nI sz ∧ (∀ q, q < sz → h.1 2 q = T q) ∧ h.1 1 7 = h0.1 1 7
theorem ct1_w {k : Nat} {v : Int32} (q : ctp h0 sz T h) (hk : 2 ≤ k ∧ k ≤ 6) : ctp h0 sz T (am_wI h 1 k v) := by
  refine ⟨q.1, ⟨q.2.1.1, fun o j ho => ⟨?_, (q.2.1.2 o j ho).2⟩⟩, ?_, fun j hj => ?_, ?_⟩
  · rw [em_wn h _ (by omega)]
    exact (q.2.1.2 o j ho).1
  · rw [em_wn h _ (by omega)]
    exact q.2.2.1
  · rw [em_wn h _ (by omega)]
    exact q.2.2.2.1 j hj
  · rw [em_wn h _ (by omega)]
    exact q.2.2.2.2
theorem ex_lw {o k : Nat} {v : Int64} : (am_wL h o k v).2.1 o k = v := if_pos ⟨rfl, rfl⟩
theorem ex_ln {o k o' k' : Nat} {v : Int64} (hn : ¬ (o' = o ∧ k' = k)) : (am_wL h o k v).2.1 o' k' = h.2.1 o' k' := if_neg hn
theorem ct1_l {v : Int64} (q : ctp h0 sz T h) : ctp h0 sz T (am_wL h 1 5 v) := ⟨q.1, ⟨q.2.1.1, fun o j ho => ⟨(q.2.1.2 o j ho).1, (ex_ln (by omega)).trans (q.2.1.2 o j ho).2⟩⟩, q.2.2.1, q.2.2.2.1, q.2.2.2.2⟩
theorem ct1_2 {v : Int32} (q : ctp h0 sz T h) : ctp h0 sz T (am_wI h 1 2 v) := ct1_w q (by omega)
theorem ct1_3 {v : Int32} (q : ctp h0 sz T h) : ctp h0 sz T (am_wI h 1 3 v) := ct1_w q (by omega)
theorem ct1_4 {v : Int32} (q : ctp h0 sz T h) : ctp h0 sz T (am_wI h 1 4 v) := ct1_w q (by omega)
theorem ct1_6 {v : Int32} (q : ctp h0 sz T h) : ctp h0 sz T (am_wI h 1 6 v) := ct1_w q (by omega)
theorem ex_1 {h : am_H} (hP : ex_P h) : am_sh h 1 = some (7, 0) := (ex_so hP (by decide +kernel)).2
theorem ex_2 {h : am_H} (hP : ex_P h) : am_sh h 2 = some (12, 1000) := (ex_so hP (by decide +kernel)).2
theorem ex_w2 {h : am_H} (hP : ex_P h) : am_so h 2 = some (12, 1000) := (ex_so hP (by decide +kernel)).1
theorem ex_r1_0 {h : am_H} (hP : ex_P h) : h.2.2.1 1 0 = some 2 := hP.2 1 0 2 (by decide +kernel)
theorem tk_ge (f : Int32 → Bool) (T : Nat → Int32) {sz : Nat} : ∀ {k : Nat}, k ≤ sz → k ≤ tk_go f T sz k ∧ tk_go f T sz k ≤ sz := by
  have key : ∀ m k, k ≤ sz → sz ≤ k + m → k ≤ tk_go f T sz k ∧ tk_go f T sz k ≤ sz := by
    intro m
    induction m with
    | zero =>
      intro k hk hm
      rw [tk_go_n (fun w => absurd w (by omega))]
      omega
    | succ m ih =>
      intro k hk hm
      by_cases w : k < sz ∧ f (T k) = true
      · rw [tk_go_y w.1 w.2]
        have := ih (k + 1) (by omega) (by omega)
        omega
      · rw [tk_go_n (fun z => by
          cases hb : f (T k) with
          | false => rfl
          | true => exact absurd ⟨z, hb⟩ w)]
        omega
  intro k hk
  exact key sz k hk (by omega)
theorem cs_word_l (hz : sz ≤ 1000) (hend : ∀ h1, ctp h0 sz T h1 → h1.1 1 3 = nI p → h1.1 1 4 = nI (tk_go pz_let T sz p) → h1.2.1 1 5 = cw T p (tk_go pz_let T sz p - p) → pz_S 1 none am_r19 0 Q 79 [(0, .ref 1)] [] h1) : ∀ (m k : Nat) (h : am_H), sz ≤ k + m → p ≤ k → k ≤ sz → tk_go pz_let T sz p = tk_go pz_let T sz k → ctp h0 sz T h → h.1 1 3 = nI p → h.1 1 4 = nI k → h.2.1 1 5 = cw T p (k - p) → pz_S 1 none am_r19 0 Q 5 [(0, .ref 1)] [] h := by
  intro m
  induction m with
  | zero =>
    intro k h hm hpk hks hq l e3 e4 ew
    have hP := l.1
    refine am_goX 4 (show am_sh h 1 = some (7, 0) ∧ am_sh h 1 = some (7, 0) ∧ pz_S 1 none am_r19 0 Q 13 [(0, .ref 1)] [.int (h.1 1 1), .int (h.1 1 4)] h from ⟨ex_1 hP, ex_1 hP, ?_⟩)
    rw [e4, l.2.2.1]
    refine am_goX 1 (show ((nI sz) ≤ (nI k) → pz_S 1 none am_r19 0 Q 79 [(0, .ref 1)] [] h) ∧ (¬ ((nI sz) ≤ (nI k)) → pz_S 1 none am_r19 0 Q 16 [(0, .ref 1)] [] h) from ⟨fun hc => ?_, fun hc => ?_⟩)
    · have hge : sz ≤ k := by
        rw [nI_leI (by omega) (by omega)] at hc
        exact hc
      have ek : tk_go pz_let T sz p = k := hq.trans (tk_go_n (fun w => absurd w (by omega)))
      exact hend h l e3 (by rw [ek]; exact e4) (by rw [ek]; exact ew)
    · exact absurd (nI_le (by omega) (by omega)) hc
  | succ m ih =>
    intro k h hm hpk hks hq l e3 e4 ew
    have hP := l.1
    refine am_goX 4 (show am_sh h 1 = some (7, 0) ∧ am_sh h 1 = some (7, 0) ∧ pz_S 1 none am_r19 0 Q 13 [(0, .ref 1)] [.int (h.1 1 1), .int (h.1 1 4)] h from ⟨ex_1 hP, ex_1 hP, ?_⟩)
    rw [e4, l.2.2.1]
    refine am_goX 1 (show ((nI sz) ≤ (nI k) → pz_S 1 none am_r19 0 Q 79 [(0, .ref 1)] [] h) ∧ (¬ ((nI sz) ≤ (nI k)) → pz_S 1 none am_r19 0 Q 16 [(0, .ref 1)] [] h) from ⟨fun hc => ?_, fun hc => ?_⟩)
    · have hge : sz ≤ k := by
        rw [nI_leI (by omega) (by omega)] at hc
        exact hc
      have ek : tk_go pz_let T sz p = k := hq.trans (tk_go_n (fun w => absurd w (by omega)))
      exact hend h l e3 (by rw [ek]; exact e4) (by rw [ek]; exact ew)
    have hks0 : k < sz := by
      rcases Nat.lt_or_ge k sz with w | w
      · exact w
      · exact absurd (nI_le w (by omega)) hc
    clear hc
    refine am_goX 2 (show am_sh h 1 = some (7, 0) ∧ pz_S 1 none am_r19 0 Q 20 [(0, .ref 1)] [am_rf (h.2.2.1 1 0)] h from ⟨ex_1 hP, ?_⟩)
    rw [ex_r1_0 hP]
    refine am_goX 3 (show am_sh h 1 = some (7, 0) ∧ ∃ jj nn : Nat, am_sh h 2 = some (12, nn) ∧ jj < nn ∧ (h.1 1 4) = nI jj ∧ pz_S 1 none am_r19 0 Q 25 [(0, .ref 1)] [.int (h.1 2 jj)] h from ⟨ex_1 hP, k, 1000, ex_2 hP, by omega, e4, ?_⟩)
    rw [l.2.2.2.1 k hks0]
    refine am_goX 2 (show ((T k) < (Int8.ofInt 97).toInt32 → pz_S 1 none am_r19 0 Q 79 [(0, .ref 1)] [] h) ∧ (¬ ((T k) < (Int8.ofInt 97).toInt32) → pz_S 1 none am_r19 0 Q 30 [(0, .ref 1)] [] h) from ⟨fun hc => ?_, fun hc => ?_⟩)
    · have ef : pz_let (T k) = false := by
        unfold pz_let
        rw [decide_eq_true hc]
        rfl
      have ek : tk_go pz_let T sz p = k := hq.trans (tk_go_n (fun w => ef))
      exact hend h l e3 (by rw [ek]; exact e4) (by rw [ek]; exact ew)
    have hc1 := hc
    clear hc
    refine am_goX 2 (show am_sh h 1 = some (7, 0) ∧ pz_S 1 none am_r19 0 Q 34 [(0, .ref 1)] [am_rf (h.2.2.1 1 0)] h from ⟨ex_1 hP, ?_⟩)
    rw [ex_r1_0 hP]
    refine am_goX 3 (show am_sh h 1 = some (7, 0) ∧ ∃ jj nn : Nat, am_sh h 2 = some (12, nn) ∧ jj < nn ∧ (h.1 1 4) = nI jj ∧ pz_S 1 none am_r19 0 Q 39 [(0, .ref 1)] [.int (h.1 2 jj)] h from ⟨ex_1 hP, k, 1000, ex_2 hP, by omega, e4, ?_⟩)
    rw [l.2.2.2.1 k hks0]
    refine am_goX 2 (show ((Int8.ofInt 122).toInt32 < (T k) → pz_S 1 none am_r19 0 Q 79 [(0, .ref 1)] [] h) ∧ (¬ ((Int8.ofInt 122).toInt32 < (T k)) → pz_S 1 none am_r19 0 Q 44 [(0, .ref 1)] [] h) from ⟨fun hc => ?_, fun hc => ?_⟩)
    · have ef : pz_let (T k) = false := by
        unfold pz_let
        rw [decide_eq_true hc, Bool.not_true, Bool.and_false]
      have ek : tk_go pz_let T sz p = k := hq.trans (tk_go_n (fun w => ef))
      exact hend h l e3 (by rw [ek]; exact e4) (by rw [ek]; exact ew)
    have eg : pz_let (T k) = true := by
      unfold pz_let
      rw [decide_eq_false hc1, decide_eq_false hc]
      rfl
    clear hc hc1
    refine am_goX 7 (show am_sh h 1 = some (7, 0) ∧ am_sh h 1 = some (7, 0) ∧ pz_S 1 none am_r19 0 Q 56 [(0, .ref 1)] [am_rf (h.2.2.1 1 0), .long (((h.2.1 1 5)) <<< (((Int8.ofInt 8).toInt32).toInt64 &&& 63)), .ref 1] h from ⟨ex_1 hP, ex_1 hP, ?_⟩)
    rw [ex_r1_0 hP]
    refine am_goX 3 (show am_sh h 1 = some (7, 0) ∧ ∃ jj nn : Nat, am_sh h 2 = some (12, nn) ∧ jj < nn ∧ (h.1 1 4) = nI jj ∧ pz_S 1 none am_r19 0 Q 61 [(0, .ref 1)] [.int (h.1 2 jj), .long (((h.2.1 1 5)) <<< (((Int8.ofInt 8).toInt32).toInt64 &&& 63)), .ref 1] h from ⟨ex_1 hP, k, 1000, ex_2 hP, by omega, e4, ?_⟩)
    rw [l.2.2.2.1 k hks0]
    refine am_goX 3 (show am_sh h 1 = some (7, 0) ∧ pz_S 1 none am_r19 0 Q 66 [(0, .ref 1)] [] (am_wL h 1 5 ((((((h.2.1 1 5)) <<< (((Int8.ofInt 8).toInt32).toInt64 &&& 63))) ||| (((T k)).toInt64)))) from ⟨ex_1 hP, ?_⟩)
    rw [ew]
    have l1 := ct1_l (v := (((((cw T p (k - p))) <<< (((Int8.ofInt 8).toInt32).toInt64 &&& 63))) ||| (((T k)).toInt64))) l
    have x3 : (am_wL h 1 5 ((((((cw T p (k - p))) <<< (((Int8.ofInt 8).toInt32).toInt64 &&& 63))) ||| (((T k)).toInt64)))).1 1 3 = nI p := e3
    have x4 : (am_wL h 1 5 ((((((cw T p (k - p))) <<< (((Int8.ofInt 8).toInt32).toInt64 &&& 63))) ||| (((T k)).toInt64)))).1 1 4 = nI k := e4
    have xw : (am_wL h 1 5 ((((((cw T p (k - p))) <<< (((Int8.ofInt 8).toInt32).toInt64 &&& 63))) ||| (((T k)).toInt64)))).2.1 1 5 = cw T p (k + 1 - p) := by
      rw [ex_lw, show k + 1 - p = (k - p) + 1 by omega]
      show _ = ((cw T p (k - p)) <<< (((Int8.ofInt 8).toInt32).toInt64 &&& 63)) ||| (T (p + (k - p))).toInt64
      rw [show p + (k - p) = k by omega]
    generalize am_wL h 1 5 ((((((cw T p (k - p))) <<< (((Int8.ofInt 8).toInt32).toInt64 &&& 63))) ||| (((T k)).toInt64))) = h1 at l1 x3 x4 xw ⊢
    refine am_goX 6 (show (Value.ref 1).category = 1 ∧ am_sh h1 1 = some (7, 0) ∧ am_sh h1 1 = some (7, 0) ∧ narrow (am_fty 7 4) (.int (((h1.1 1 4) + (Int32.ofInt 1)))) = .int (((h1.1 1 4) + (Int32.ofInt 1))) ∧ fits (am_fty 7 4) (.int (((h1.1 1 4) + (Int32.ofInt 1)))) = true ∧ pz_S 1 none am_r19 0 Q 76 [(0, .ref 1)] [] (am_wI h1 1 4 (((h1.1 1 4) + (Int32.ofInt 1)))) from ⟨rfl, ex_1 l1.1, ex_1 l1.1, rfl, rfl, ?_⟩)
    rw [x4, xw_i1]
    have l2 := ct1_4 (v := nI (k + 1)) l1
    have y3 : (am_wI h1 1 4 (nI (k + 1))).1 1 3 = nI p := by rw [em_wn h1 _ (by omega)]; exact x3
    have y4 : (am_wI h1 1 4 (nI (k + 1))).1 1 4 = nI (k + 1) := em_we h1 1 4 _
    have yw : (am_wI h1 1 4 (nI (k + 1))).2.1 1 5 = cw T p (k + 1 - p) := xw
    generalize am_wI h1 1 4 (nI (k + 1)) = h2 at l2 y3 y4 yw ⊢
    refine am_goX 1 (show pz_S 1 none am_r19 0 Q 5 [(0, .ref 1)] [] h2 from ?_)
    exact ih (k + 1) h2 (by omega) (by omega) (by omega) (hq.trans (tk_go_y hks0 eg)) l2 y3 y4 yw
theorem cs_word (hz : sz ≤ 1000) (hps : p ≤ sz) (l : ctp h0 sz T h) (e3 : h.1 1 3 = nI p) (e4 : h.1 1 4 = nI p) (hQ : ∀ h1, ctp h0 sz T h1 → h1.1 1 3 = nI p → h1.1 1 4 = nI (tk_go pz_let T sz p) → h1.2.1 1 5 = cw T p (tk_go pz_let T sz p - p) → h1.1 1 2 = (bif Nat.blt 8 (tk_go pz_let T sz p - p) then 0 else 1) → Q none h1) : am_call am_cod 1 19 [.ref 1] h Q := by
  have hP := l.1
  have hge := tk_ge pz_let T hps
  refine pz_call (n := 19) (nL := 1) (rt := none) (rows := am_r19) (d := 0) (by decide +kernel) (by decide +kernel) rfl (by funext pc; rfl) (ex_175 hP) (by exact Nat.le_of_ble_eq_true rfl) ?_
  refine am_goX 3 (show am_sh h 1 = some (7, 0) ∧ pz_S 1 none am_r19 0 Q 5 [(0, .ref 1)] [] (am_wL h 1 5 ((Int64.ofNat 0))) from ⟨ex_1 hP, ?_⟩)
  have l1 := ct1_l (v := Int64.ofNat 0) l
  have x3 : (am_wL h 1 5 (Int64.ofNat 0)).1 1 3 = nI p := e3
  have x4 : (am_wL h 1 5 (Int64.ofNat 0)).1 1 4 = nI p := e4
  have xw : (am_wL h 1 5 (Int64.ofNat 0)).2.1 1 5 = cw T p (p - p) := by
    rw [Nat.sub_self, ex_lw]
    rfl
  generalize am_wL h 1 5 (Int64.ofNat 0) = h1 at l1 x3 x4 xw ⊢
  refine cs_word_l hz (fun h2 l2 y3 y4 yw => ?_) sz p h1 (by omega) (Nat.le_refl _) hps rfl l1 x3 x4 xw
  have hP2 := l2.1
  refine am_goX 7 (show am_sh h2 1 = some (7, 0) ∧ am_sh h2 1 = some (7, 0) ∧ pz_S 1 none am_r19 0 Q 91 [(0, .ref 1)] [.int (Int8.ofInt 8).toInt32, .int ((h2.1 1 4) - (h2.1 1 3)), .ref 1] h2 from ⟨ex_1 hP2, ex_1 hP2, ?_⟩)
  rw [y3, y4, tk_sub hge.1]
  refine am_goX 1 (show ((Int8.ofInt 8).toInt32 < (nI (tk_go pz_let T sz p - p)) → pz_S 1 none am_r19 0 Q 98 [(0, .ref 1)] [.ref 1] h2) ∧ (¬ ((Int8.ofInt 8).toInt32 < (nI (tk_go pz_let T sz p - p))) → pz_S 1 none am_r19 0 Q 94 [(0, .ref 1)] [.ref 1] h2) from ⟨fun hc => ?_, fun hc => ?_⟩)
  · refine am_goX 2 (show am_sh h2 1 = some (7, 0) ∧ narrow (am_fty 7 2) (.int ((Int32.ofInt 0))) = .int ((Int32.ofInt 0)) ∧ fits (am_fty 7 2) (.int ((Int32.ofInt 0))) = true ∧ pz_S 1 none am_r19 0 Q 102 [(0, .ref 1)] [] (am_wI h2 1 2 ((Int32.ofInt 0))) from ⟨ex_1 hP2, rfl, rfl, ?_⟩)
    have hlt :  8 < tk_go pz_let T sz p - p := by
      have hc1 :  nI 8 < nI (tk_go pz_let T sz p - p) := hc
      rw [nI_ltI (by omega) (by omega)] at hc1
      exact hc1
    have l3 := ct1_2 (v := Int32.ofInt 0) l2
    have z2 : (am_wI h2 1 2 (Int32.ofInt 0)).1 1 2 = (bif Nat.blt 8 (tk_go pz_let T sz p - p) then 0 else 1) := by
      rw [em_we, tk_blt.mpr hlt]
      rfl
    have z3 : (am_wI h2 1 2 (Int32.ofInt 0)).1 1 3 = nI p := by rw [em_wn h2 _ (by omega)]; exact y3
    have z4 : (am_wI h2 1 2 (Int32.ofInt 0)).1 1 4 = nI (tk_go pz_let T sz p) := by rw [em_wn h2 _ (by omega)]; exact y4
    have zw : (am_wI h2 1 2 (Int32.ofInt 0)).2.1 1 5 = cw T p (tk_go pz_let T sz p - p) := yw
    generalize am_wI h2 1 2 (Int32.ofInt 0) = h3 at l3 z2 z3 z4 zw ⊢
    exact am_goX 1 (show (none : Option FieldType) = none ∧ h3.2.2.2.2 = 175 ∧ _ from ⟨rfl, ex_175 l3.1, hQ h3 l3 z3 z4 zw z2⟩)
  · refine am_goX 3 (show am_sh h2 1 = some (7, 0) ∧ narrow (am_fty 7 2) (.int ((Int32.ofInt 1))) = .int ((Int32.ofInt 1)) ∧ fits (am_fty 7 2) (.int ((Int32.ofInt 1))) = true ∧ pz_S 1 none am_r19 0 Q 102 [(0, .ref 1)] [] (am_wI h2 1 2 ((Int32.ofInt 1))) from ⟨ex_1 hP2, rfl, rfl, ?_⟩)
    have hlt : ¬ 8 < tk_go pz_let T sz p - p := by
      have hc1 : ¬ nI 8 < nI (tk_go pz_let T sz p - p) := hc
      rw [nI_ltI (by omega) (by omega)] at hc1
      exact hc1
    have l3 := ct1_2 (v := Int32.ofInt 1) l2
    have z2 : (am_wI h2 1 2 (Int32.ofInt 1)).1 1 2 = (bif Nat.blt 8 (tk_go pz_let T sz p - p) then 0 else 1) := by
      rw [em_we, tk_bltf hlt]
      rfl
    have z3 : (am_wI h2 1 2 (Int32.ofInt 1)).1 1 3 = nI p := by rw [em_wn h2 _ (by omega)]; exact y3
    have z4 : (am_wI h2 1 2 (Int32.ofInt 1)).1 1 4 = nI (tk_go pz_let T sz p) := by rw [em_wn h2 _ (by omega)]; exact y4
    have zw : (am_wI h2 1 2 (Int32.ofInt 1)).2.1 1 5 = cw T p (tk_go pz_let T sz p - p) := yw
    generalize am_wI h2 1 2 (Int32.ofInt 1) = h3 at l3 z2 z3 z4 zw ⊢
    exact am_goX 1 (show (none : Option FieldType) = none ∧ h3.2.2.2.2 = 175 ∧ _ from ⟨rfl, ex_175 l3.1, hQ h3 l3 z3 z4 zw z2⟩)
theorem cs_num_l (hz : sz ≤ 1000) (hend : ∀ h1, ctp h0 sz T h1 → h1.1 1 3 = nI p → h1.1 1 4 = nI (tk_go pz_dig T sz p) → h1.1 1 6 = cn T p (tk_go pz_dig T sz p - p) → pz_S 1 none am_r20 0 Q 81 [(0, .ref 1)] [] h1) : ∀ (m k : Nat) (h : am_H), sz ≤ k + m → p ≤ k → k ≤ sz → tk_go pz_dig T sz p = tk_go pz_dig T sz k → ctp h0 sz T h → h.1 1 3 = nI p → h.1 1 4 = nI k → h.1 1 6 = cn T p (k - p) → pz_S 1 none am_r20 0 Q 5 [(0, .ref 1)] [] h := by
  intro m
  induction m with
  | zero =>
    intro k h hm hpk hks hq l e3 e4 ew
    have hP := l.1
    refine am_goX 4 (show am_sh h 1 = some (7, 0) ∧ am_sh h 1 = some (7, 0) ∧ pz_S 1 none am_r20 0 Q 13 [(0, .ref 1)] [.int (h.1 1 1), .int (h.1 1 4)] h from ⟨ex_1 hP, ex_1 hP, ?_⟩)
    rw [e4, l.2.2.1]
    refine am_goX 1 (show ((nI sz) ≤ (nI k) → pz_S 1 none am_r20 0 Q 81 [(0, .ref 1)] [] h) ∧ (¬ ((nI sz) ≤ (nI k)) → pz_S 1 none am_r20 0 Q 16 [(0, .ref 1)] [] h) from ⟨fun hc => ?_, fun hc => ?_⟩)
    · have hge : sz ≤ k := by
        rw [nI_leI (by omega) (by omega)] at hc
        exact hc
      have ek : tk_go pz_dig T sz p = k := hq.trans (tk_go_n (fun w => absurd w (by omega)))
      exact hend h l e3 (by rw [ek]; exact e4) (by rw [ek]; exact ew)
    · exact absurd (nI_le (by omega) (by omega)) hc
  | succ m ih =>
    intro k h hm hpk hks hq l e3 e4 ew
    have hP := l.1
    refine am_goX 4 (show am_sh h 1 = some (7, 0) ∧ am_sh h 1 = some (7, 0) ∧ pz_S 1 none am_r20 0 Q 13 [(0, .ref 1)] [.int (h.1 1 1), .int (h.1 1 4)] h from ⟨ex_1 hP, ex_1 hP, ?_⟩)
    rw [e4, l.2.2.1]
    refine am_goX 1 (show ((nI sz) ≤ (nI k) → pz_S 1 none am_r20 0 Q 81 [(0, .ref 1)] [] h) ∧ (¬ ((nI sz) ≤ (nI k)) → pz_S 1 none am_r20 0 Q 16 [(0, .ref 1)] [] h) from ⟨fun hc => ?_, fun hc => ?_⟩)
    · have hge : sz ≤ k := by
        rw [nI_leI (by omega) (by omega)] at hc
        exact hc
      have ek : tk_go pz_dig T sz p = k := hq.trans (tk_go_n (fun w => absurd w (by omega)))
      exact hend h l e3 (by rw [ek]; exact e4) (by rw [ek]; exact ew)
    have hks0 : k < sz := by
      rcases Nat.lt_or_ge k sz with w | w
      · exact w
      · exact absurd (nI_le w (by omega)) hc
    clear hc
    refine am_goX 2 (show am_sh h 1 = some (7, 0) ∧ pz_S 1 none am_r20 0 Q 20 [(0, .ref 1)] [am_rf (h.2.2.1 1 0)] h from ⟨ex_1 hP, ?_⟩)
    rw [ex_r1_0 hP]
    refine am_goX 3 (show am_sh h 1 = some (7, 0) ∧ ∃ jj nn : Nat, am_sh h 2 = some (12, nn) ∧ jj < nn ∧ (h.1 1 4) = nI jj ∧ pz_S 1 none am_r20 0 Q 25 [(0, .ref 1)] [.int (h.1 2 jj)] h from ⟨ex_1 hP, k, 1000, ex_2 hP, by omega, e4, ?_⟩)
    rw [l.2.2.2.1 k hks0]
    refine am_goX 2 (show ((T k) < (Int8.ofInt 48).toInt32 → pz_S 1 none am_r20 0 Q 81 [(0, .ref 1)] [] h) ∧ (¬ ((T k) < (Int8.ofInt 48).toInt32) → pz_S 1 none am_r20 0 Q 30 [(0, .ref 1)] [] h) from ⟨fun hc => ?_, fun hc => ?_⟩)
    · have ef : pz_dig (T k) = false := by
        unfold pz_dig
        rw [decide_eq_true hc]
        rfl
      have ek : tk_go pz_dig T sz p = k := hq.trans (tk_go_n (fun w => ef))
      exact hend h l e3 (by rw [ek]; exact e4) (by rw [ek]; exact ew)
    have hc1 := hc
    clear hc
    refine am_goX 2 (show am_sh h 1 = some (7, 0) ∧ pz_S 1 none am_r20 0 Q 34 [(0, .ref 1)] [am_rf (h.2.2.1 1 0)] h from ⟨ex_1 hP, ?_⟩)
    rw [ex_r1_0 hP]
    refine am_goX 3 (show am_sh h 1 = some (7, 0) ∧ ∃ jj nn : Nat, am_sh h 2 = some (12, nn) ∧ jj < nn ∧ (h.1 1 4) = nI jj ∧ pz_S 1 none am_r20 0 Q 39 [(0, .ref 1)] [.int (h.1 2 jj)] h from ⟨ex_1 hP, k, 1000, ex_2 hP, by omega, e4, ?_⟩)
    rw [l.2.2.2.1 k hks0]
    refine am_goX 2 (show ((Int8.ofInt 57).toInt32 < (T k) → pz_S 1 none am_r20 0 Q 81 [(0, .ref 1)] [] h) ∧ (¬ ((Int8.ofInt 57).toInt32 < (T k)) → pz_S 1 none am_r20 0 Q 44 [(0, .ref 1)] [] h) from ⟨fun hc => ?_, fun hc => ?_⟩)
    · have ef : pz_dig (T k) = false := by
        unfold pz_dig
        rw [decide_eq_true hc, Bool.not_true, Bool.and_false]
      have ek : tk_go pz_dig T sz p = k := hq.trans (tk_go_n (fun w => ef))
      exact hend h l e3 (by rw [ek]; exact e4) (by rw [ek]; exact ew)
    have eg : pz_dig (T k) = true := by
      unfold pz_dig
      rw [decide_eq_false hc1, decide_eq_false hc]
      rfl
    clear hc hc1
    refine am_goX 7 (show am_sh h 1 = some (7, 0) ∧ am_sh h 1 = some (7, 0) ∧ pz_S 1 none am_r20 0 Q 56 [(0, .ref 1)] [am_rf (h.2.2.1 1 0), .int ((h.1 1 6) * (Int8.ofInt 10).toInt32), .ref 1] h from ⟨ex_1 hP, ex_1 hP, ?_⟩)
    rw [ex_r1_0 hP]
    refine am_goX 3 (show am_sh h 1 = some (7, 0) ∧ ∃ jj nn : Nat, am_sh h 2 = some (12, nn) ∧ jj < nn ∧ (h.1 1 4) = nI jj ∧ pz_S 1 none am_r20 0 Q 61 [(0, .ref 1)] [.int (h.1 2 jj), .int ((h.1 1 6) * (Int8.ofInt 10).toInt32), .ref 1] h from ⟨ex_1 hP, k, 1000, ex_2 hP, by omega, e4, ?_⟩)
    rw [l.2.2.2.1 k hks0]
    refine am_goX 4 (show am_sh h 1 = some (7, 0) ∧ narrow (am_fty 7 6) (.int ((((h.1 1 6) * (Int8.ofInt 10).toInt32) + ((T k) - (Int8.ofInt 48).toInt32)))) = .int ((((h.1 1 6) * (Int8.ofInt 10).toInt32) + ((T k) - (Int8.ofInt 48).toInt32))) ∧ fits (am_fty 7 6) (.int ((((h.1 1 6) * (Int8.ofInt 10).toInt32) + ((T k) - (Int8.ofInt 48).toInt32)))) = true ∧ pz_S 1 none am_r20 0 Q 68 [(0, .ref 1)] [] (am_wI h 1 6 ((((h.1 1 6) * (Int8.ofInt 10).toInt32) + ((T k) - (Int8.ofInt 48).toInt32)))) from ⟨ex_1 hP, rfl, rfl, ?_⟩)
    rw [ew]
    have l1 := ct1_6 (v := (((cn T p (k - p)) * (Int8.ofInt 10).toInt32) + ((T k) - (Int8.ofInt 48).toInt32))) l
    have x3 : (am_wI h 1 6 ((((cn T p (k - p)) * (Int8.ofInt 10).toInt32) + ((T k) - (Int8.ofInt 48).toInt32)))).1 1 3 = nI p := by rw [em_wn h _ (by omega)]; exact e3
    have x4 : (am_wI h 1 6 ((((cn T p (k - p)) * (Int8.ofInt 10).toInt32) + ((T k) - (Int8.ofInt 48).toInt32)))).1 1 4 = nI k := by rw [em_wn h _ (by omega)]; exact e4
    have xw : (am_wI h 1 6 ((((cn T p (k - p)) * (Int8.ofInt 10).toInt32) + ((T k) - (Int8.ofInt 48).toInt32)))).1 1 6 = cn T p (k + 1 - p) := by
      rw [em_we, show k + 1 - p = (k - p) + 1 by omega]
      show _ = cn T p (k - p) * (Int8.ofInt 10).toInt32 + (T (p + (k - p)) - (Int8.ofInt 48).toInt32)
      rw [show p + (k - p) = k by omega]
    generalize am_wI h 1 6 ((((cn T p (k - p)) * (Int8.ofInt 10).toInt32) + ((T k) - (Int8.ofInt 48).toInt32))) = h1 at l1 x3 x4 xw ⊢
    refine am_goX 6 (show (Value.ref 1).category = 1 ∧ am_sh h1 1 = some (7, 0) ∧ am_sh h1 1 = some (7, 0) ∧ narrow (am_fty 7 4) (.int (((h1.1 1 4) + (Int32.ofInt 1)))) = .int (((h1.1 1 4) + (Int32.ofInt 1))) ∧ fits (am_fty 7 4) (.int (((h1.1 1 4) + (Int32.ofInt 1)))) = true ∧ pz_S 1 none am_r20 0 Q 78 [(0, .ref 1)] [] (am_wI h1 1 4 (((h1.1 1 4) + (Int32.ofInt 1)))) from ⟨rfl, ex_1 l1.1, ex_1 l1.1, rfl, rfl, ?_⟩)
    rw [x4, xw_i1]
    have l2 := ct1_4 (v := nI (k + 1)) l1
    have y3 : (am_wI h1 1 4 (nI (k + 1))).1 1 3 = nI p := by rw [em_wn h1 _ (by omega)]; exact x3
    have y4 : (am_wI h1 1 4 (nI (k + 1))).1 1 4 = nI (k + 1) := em_we h1 1 4 _
    have yw : (am_wI h1 1 4 (nI (k + 1))).1 1 6 = cn T p (k + 1 - p) := (by rw [em_wn h1 _ (by omega)]; exact xw)
    generalize am_wI h1 1 4 (nI (k + 1)) = h2 at l2 y3 y4 yw ⊢
    refine am_goX 1 (show pz_S 1 none am_r20 0 Q 5 [(0, .ref 1)] [] h2 from ?_)
    exact ih (k + 1) h2 (by omega) (by omega) (by omega) (hq.trans (tk_go_y hks0 eg)) l2 y3 y4 yw
theorem cs_num (hz : sz ≤ 1000) (hps : p ≤ sz) (l : ctp h0 sz T h) (e3 : h.1 1 3 = nI p) (e4 : h.1 1 4 = nI p) (hQ : ∀ h1, ctp h0 sz T h1 → h1.1 1 3 = nI p → h1.1 1 4 = nI (tk_go pz_dig T sz p) → h1.1 1 6 = cn T p (tk_go pz_dig T sz p - p) → h1.1 1 2 = (bif Nat.blt 4 (tk_go pz_dig T sz p - p) then 0 else 2) → Q none h1) : am_call am_cod 1 20 [.ref 1] h Q := by
  have hP := l.1
  have hge := tk_ge pz_dig T hps
  refine pz_call (n := 20) (nL := 1) (rt := none) (rows := am_r20) (d := 0) (by decide +kernel) (by decide +kernel) rfl (by funext pc; rfl) (ex_175 hP) (by exact Nat.le_of_ble_eq_true rfl) ?_
  refine am_goX 3 (show am_sh h 1 = some (7, 0) ∧ narrow (am_fty 7 6) (.int ((Int32.ofInt 0))) = .int ((Int32.ofInt 0)) ∧ fits (am_fty 7 6) (.int ((Int32.ofInt 0))) = true ∧ pz_S 1 none am_r20 0 Q 5 [(0, .ref 1)] [] (am_wI h 1 6 ((Int32.ofInt 0))) from ⟨ex_1 hP, rfl, rfl, ?_⟩)
  have l1 := ct1_6 (v := Int32.ofInt 0) l
  have x3 : (am_wI h 1 6 (Int32.ofInt 0)).1 1 3 = nI p := by rw [em_wn h _ (by omega)]; exact e3
  have x4 : (am_wI h 1 6 (Int32.ofInt 0)).1 1 4 = nI p := by rw [em_wn h _ (by omega)]; exact e4
  have xw : (am_wI h 1 6 (Int32.ofInt 0)).1 1 6 = cn T p (p - p) := by
    rw [Nat.sub_self]
    exact em_we h 1 6 _
  generalize am_wI h 1 6 (Int32.ofInt 0) = h1 at l1 x3 x4 xw ⊢
  refine cs_num_l hz (fun h2 l2 y3 y4 yw => ?_) sz p h1 (by omega) (Nat.le_refl _) hps rfl l1 x3 x4 xw
  have hP2 := l2.1
  refine am_goX 7 (show am_sh h2 1 = some (7, 0) ∧ am_sh h2 1 = some (7, 0) ∧ pz_S 1 none am_r20 0 Q 92 [(0, .ref 1)] [.int (Int32.ofInt 4), .int ((h2.1 1 4) - (h2.1 1 3)), .ref 1] h2 from ⟨ex_1 hP2, ex_1 hP2, ?_⟩)
  rw [y3, y4, tk_sub hge.1]
  refine am_goX 1 (show ((Int32.ofInt 4) < (nI (tk_go pz_dig T sz p - p)) → pz_S 1 none am_r20 0 Q 99 [(0, .ref 1)] [.ref 1] h2) ∧ (¬ ((Int32.ofInt 4) < (nI (tk_go pz_dig T sz p - p))) → pz_S 1 none am_r20 0 Q 95 [(0, .ref 1)] [.ref 1] h2) from ⟨fun hc => ?_, fun hc => ?_⟩)
  · refine am_goX 2 (show am_sh h2 1 = some (7, 0) ∧ narrow (am_fty 7 2) (.int ((Int32.ofInt 0))) = .int ((Int32.ofInt 0)) ∧ fits (am_fty 7 2) (.int ((Int32.ofInt 0))) = true ∧ pz_S 1 none am_r20 0 Q 103 [(0, .ref 1)] [] (am_wI h2 1 2 ((Int32.ofInt 0))) from ⟨ex_1 hP2, rfl, rfl, ?_⟩)
    have hlt :  4 < tk_go pz_dig T sz p - p := by
      have hc1 :  nI 4 < nI (tk_go pz_dig T sz p - p) := hc
      rw [nI_ltI (by omega) (by omega)] at hc1
      exact hc1
    have l3 := ct1_2 (v := Int32.ofInt 0) l2
    have z2 : (am_wI h2 1 2 (Int32.ofInt 0)).1 1 2 = (bif Nat.blt 4 (tk_go pz_dig T sz p - p) then 0 else 2) := by
      rw [em_we, tk_blt.mpr hlt]
      rfl
    have z3 : (am_wI h2 1 2 (Int32.ofInt 0)).1 1 3 = nI p := by rw [em_wn h2 _ (by omega)]; exact y3
    have z4 : (am_wI h2 1 2 (Int32.ofInt 0)).1 1 4 = nI (tk_go pz_dig T sz p) := by rw [em_wn h2 _ (by omega)]; exact y4
    have zw : (am_wI h2 1 2 (Int32.ofInt 0)).1 1 6 = cn T p (tk_go pz_dig T sz p - p) := (by rw [em_wn h2 _ (by omega)]; exact yw)
    generalize am_wI h2 1 2 (Int32.ofInt 0) = h3 at l3 z2 z3 z4 zw ⊢
    exact am_goX 1 (show (none : Option FieldType) = none ∧ h3.2.2.2.2 = 175 ∧ _ from ⟨rfl, ex_175 l3.1, hQ h3 l3 z3 z4 zw z2⟩)
  · refine am_goX 3 (show am_sh h2 1 = some (7, 0) ∧ narrow (am_fty 7 2) (.int ((Int32.ofInt 2))) = .int ((Int32.ofInt 2)) ∧ fits (am_fty 7 2) (.int ((Int32.ofInt 2))) = true ∧ pz_S 1 none am_r20 0 Q 103 [(0, .ref 1)] [] (am_wI h2 1 2 ((Int32.ofInt 2))) from ⟨ex_1 hP2, rfl, rfl, ?_⟩)
    have hlt : ¬ 4 < tk_go pz_dig T sz p - p := by
      have hc1 : ¬ nI 4 < nI (tk_go pz_dig T sz p - p) := hc
      rw [nI_ltI (by omega) (by omega)] at hc1
      exact hc1
    have l3 := ct1_2 (v := Int32.ofInt 2) l2
    have z2 : (am_wI h2 1 2 (Int32.ofInt 2)).1 1 2 = (bif Nat.blt 4 (tk_go pz_dig T sz p - p) then 0 else 2) := by
      rw [em_we, tk_bltf hlt]
      rfl
    have z3 : (am_wI h2 1 2 (Int32.ofInt 2)).1 1 3 = nI p := by rw [em_wn h2 _ (by omega)]; exact y3
    have z4 : (am_wI h2 1 2 (Int32.ofInt 2)).1 1 4 = nI (tk_go pz_dig T sz p) := by rw [em_wn h2 _ (by omega)]; exact y4
    have zw : (am_wI h2 1 2 (Int32.ofInt 2)).1 1 6 = cn T p (tk_go pz_dig T sz p - p) := (by rw [em_wn h2 _ (by omega)]; exact yw)
    generalize am_wI h2 1 2 (Int32.ofInt 2) = h3 at l3 z2 z3 z4 zw ⊢
    exact am_goX 1 (show (none : Option FieldType) = none ∧ h3.2.2.2.2 = 175 ∧ _ from ⟨rfl, ex_175 l3.1, hQ h3 l3 z3 z4 zw z2⟩)
end
section
/-! THE CLASS'S TOKEN AT HAND -/
variable {h h0 : am_H} {sz p a n : Nat} {T : Nat → Int32} {Q : am_Q}
theorem i32_nI {x : Int32} (h0 : 0 ≤ x.toInt) : x = nI x.toInt.toNat := by
  have := x.toInt_lt
  refine Int32.toInt_inj.mp ?_
  rw [nI_toInt (by omega)]
  omega
theorem tk_all {f : Int32 → Bool} {sz : Nat} : ∀ (m k : Nat), k ≤ sz → sz ≤ k + m → ∀ j, k ≤ j → j < tk_go f T sz k → f (T j) = true := by
  intro m
  induction m with
  | zero =>
    intro k hk hm j h1 h2
    rw [tk_go_n (fun w => absurd w (by omega))] at h2
    omega
  | succ m ih =>
    intro k hk hm j h1 h2
    by_cases w : k < sz ∧ f (T k) = true
    · by_cases ej : j = k
      · rw [ej]
        exact w.2
      · rw [tk_go_y w.1 w.2] at h2
        exact ih (k + 1) (by omega) (by omega) j (by omega) h2
    · rw [tk_go_n (fun z => by
        cases hb : f (T k) with
        | false => rfl
        | true => exact absurd ⟨z, hb⟩ w)] at h2
      omega
def tk_r (T : Nat → Int32) (b p j : Nat) : Nat := (T (p + j)).toInt.toNat - b
theorem lt_let {x : Int32} (e : pz_let x = true) : 97 ≤ x.toInt ∧ x.toInt ≤ 122 := by
  unfold pz_let at e
  simp only [Bool.and_eq_true, Bool.not_eq_true', decide_eq_false_iff_not, Int32.lt_iff_toInt_lt] at e
  have e1 : ¬ x.toInt < 97 := e.1
  have e2 : ¬ 122 < x.toInt := e.2
  omega
theorem lt_dig {x : Int32} (e : pz_dig x = true) : 48 ≤ x.toInt ∧ x.toInt ≤ 57 := by
  unfold pz_dig at e
  simp only [Bool.and_eq_true, Bool.not_eq_true', decide_eq_false_iff_not, Int32.lt_iff_toInt_lt] at e
  have e1 : ¬ x.toInt < 48 := e.1
  have e2 : ¬ 57 < x.toInt := e.2
  omega
theorem cw_eq : ∀ {n : Nat}, (∀ j, j < n → pz_let (T (p + j)) = true) → n ≤ 8 → tk_lv T p n = Int64.ofNat (bse 37 0 (tk_r T 96 p) n) ∧ cw T p n = Int64.ofNat (bse 256 96 (tk_r T 96 p) n) ∧ bsv (tk_r T 96 p) n
  | 0, _, _ => ⟨rfl, rfl, fun i hi => absurd hi (Nat.not_lt_zero i)⟩
  | n + 1, hT, hn => by
    obtain ⟨e1, e2, e3⟩ := cw_eq (n := n) (fun j hj => hT j (by omega)) (by omega)
    have hb := lt_let (hT n (by omega))
    have hx := i32_nI (x := T (p + n)) (by omega)
    have hv : bsv (tk_r T 96 p) (n + 1) := by
      intro i hi
      have hb := lt_let (hT i hi)
      unfold tk_r
      omega
    have hm : (T (p + n)).toInt.toNat = 96 + tk_r T 96 p n := by
      unfold tk_r
      omega
    refine ⟨?_, ?_, hv⟩
    · show (bif Nat.blt n 8 then am_kl 26 * tk_lv T p n + (tk_rk (T (p + n))).toInt64 else tk_lv T p n) = Int64.ofNat (37 * bse 37 0 (tk_r T 96 p) n + (0 + tk_r T 96 p n))
      rw [tk_blt.mpr (show n < 8 by omega)]
      show am_kl 26 * tk_lv T p n + (tk_rk (T (p + n))).toInt64 = _
      unfold tk_rk
      rw [hT n (by omega), e1]
      show Int64.ofNat 37 * _ + (T (p + n) - nI 96).toInt64 = _
      rw [hx, hm, tk_sub (by omega), Int64.ofNat_add, Int64.ofNat_mul, Nat.zero_add, Nat.add_sub_cancel_left]
      congr 1
      have h4 := hv n (by omega)
      exact Int64.toInt_inj.mp (by rw [Int32.toInt_toInt64, nI_toInt (by omega), Int64.toInt_ofNat_of_lt (by omega)])
    · show ((cw T p n) <<< (((Int8.ofInt 8).toInt32).toInt64 &&& 63)) ||| (T (p + n)).toInt64 = Int64.ofNat (256 * bse 256 96 (tk_r T 96 p) n + (96 + tk_r T 96 p n))
      have h4 := hv n (by omega)
      have h5 := bse_lt (B := 256) (f := 96) (by decide) e3
      have h6 : 256 ^ n ≤ 256 ^ 7 := Nat.pow_le_pow_right (by omega) (by omega)
      have h7 : (256 : Nat) ^ 7 = 2 ^ 56 := by decide +kernel
      rw [e2, hx, hm, ← i64_sh (by omega) (by omega)]
      congr 1
      exact Int64.toInt_inj.mp (by rw [Int32.toInt_toInt64, nI_toInt (by omega), Int64.toInt_ofNat_of_lt (by omega)])
theorem cn_lt {r : Nat → Nat} : ∀ {n : Nat}, (∀ i, i < n → r i ≤ 9) → bse 10 0 r n < 10 ^ n
  | 0, _ => Nat.lt_succ_self 0
  | n + 1, h => by
    have ih := cn_lt (n := n) (fun i hi => h i (by omega))
    have hr := h n (by omega)
    show 10 * bse 10 0 r n + (0 + r n) < 10 ^ n * 10
    omega
theorem cn_eq : ∀ {n : Nat}, (∀ j, j < n → pz_dig (T (p + j)) = true) → n ≤ 4 → tk_dv T p n = Int64.ofNat (bse 10 0 (tk_r T 48 p) n) ∧ cn T p n = nI (bse 10 0 (tk_r T 48 p) n) ∧ ∀ i, i < n → tk_r T 48 p i ≤ 9
  | 0, _, _ => ⟨rfl, rfl, fun i hi => absurd hi (Nat.not_lt_zero i)⟩
  | n + 1, hT, hn => by
    obtain ⟨e1, e2, e3⟩ := cn_eq (n := n) (fun j hj => hT j (by omega)) (by omega)
    have hb := lt_dig (hT n (by omega))
    have hx := i32_nI (x := T (p + n)) (by omega)
    have hv : ∀ i, i < n + 1 → tk_r T 48 p i ≤ 9 := by
      intro i hi
      have hb := lt_dig (hT i hi)
      unfold tk_r
      omega
    have hm : (T (p + n)).toInt.toNat = tk_r T 48 p n + 48 := by
      unfold tk_r
      omega
    have h4 := hv n (by omega)
    refine ⟨?_, ?_, hv⟩
    · show (bif Nat.blt n 4 then am_kl 27 * tk_dv T p n + (T (p + n)).toInt64 - am_kl 28 else tk_dv T p n) = Int64.ofNat (10 * bse 10 0 (tk_r T 48 p) n + (0 + tk_r T 48 p n))
      rw [tk_blt.mpr (show n < 4 by omega)]
      show Int64.ofNat 10 * tk_dv T p n + (T (p + n)).toInt64 - Int64.ofNat 48 = _
      have h5 : (nI (tk_r T 48 p n + 48)).toInt64 = Int64.ofNat (tk_r T 48 p n + 48) := Int64.toInt_inj.mp (by rw [Int32.toInt_toInt64, nI_toInt (by omega), Int64.toInt_ofNat_of_lt (by omega)])
      rw [e1, hx, hm, h5, Int64.ofNat_add, ← Int64.add_assoc, Int64.add_sub_cancel, Int64.ofNat_add, Int64.ofNat_mul, Nat.zero_add]
    · show cn T p n * nI 10 + (T (p + n) - nI 48) = nI (10 * bse 10 0 (tk_r T 48 p) n + (0 + tk_r T 48 p n))
      rw [e2, hx, hm, tk_sub (by omega), Nat.add_sub_cancel, Nat.zero_add, ← nI_add, Nat.mul_comm]
      congr 1
      exact (Int32.ofNat_mul _ _).symm
/-- the kind of the token at a place, where it ends -/
def kz (T : Nat → Int32) (sz p : Nat) : Int32 := bif Nat.blt p sz then tk_kd T sz p else 0
def ez (T : Nat → Int32) (sz p : Nat) : Nat := bif Nat.blt p sz then tk_en T sz p else p
def c_p (T : Nat → Int32) (sz p : Nat) (h : am_H) : Prop := h.1 1 3 = nI p ∧ h.1 1 2 = ck (kz T sz p) ∧ h.1 1 4 = nI (ez T sz p) ∧ (kz T sz p = 1 → cwk (tk_vl T sz p) (h.2.1 1 5)) ∧ (kz T sz p = 2 → cnk (tk_vl T sz p) (h.1 1 6))
theorem cs_kw (hps : p < sz) (hl : pz_let (T p) = true) : kz T sz p = (bif Nat.blt 8 (tk_go pz_let T sz p - p) then 4 else 1) ∧ ez T sz p = tk_go pz_let T sz p ∧ tk_vl T sz p = tk_lv T p (tk_go pz_let T sz p - p) := by
  unfold kz ez tk_kd tk_en tk_vl
  rw [tk_blt.mpr hps, hl]
  exact ⟨rfl, rfl, rfl⟩
theorem cs_kn (hps : p < sz) (hl : pz_let (T p) = false) (hd : pz_dig (T p) = true) : kz T sz p = (bif Nat.blt 4 (tk_go pz_dig T sz p - p) then 4 else 2) ∧ ez T sz p = tk_go pz_dig T sz p ∧ tk_vl T sz p = tk_dv T p (tk_go pz_dig T sz p - p) := by
  unfold kz ez tk_kd tk_en tk_vl
  rw [tk_blt.mpr hps, hl, hd]
  exact ⟨rfl, rfl, rfl⟩
theorem cs_ks (hps : p < sz) (hl : pz_let (T p) = false) (hd : pz_dig (T p) = false) : kz T sz p = (bif tk_sn (T p) then 3 else 4) ∧ ez T sz p = p + 1 ∧ tk_vl T sz p = (T p).toInt64 := by
  unfold kz ez tk_kd tk_en tk_vl
  rw [tk_blt.mpr hps, hl, hd]
  exact ⟨rfl, rfl, rfl⟩
theorem cs_ke (hps : ¬ p < sz) : kz T sz p = 0 ∧ ez T sz p = p := by
  unfold kz ez
  rw [tk_bltf hps]
  exact ⟨rfl, rfl⟩
/-- after stepWord -/
theorem c_pw (hps : p < sz) (hl : pz_let (T p) = true) (e3 : h.1 1 3 = nI p) (e4 : h.1 1 4 = nI (tk_go pz_let T sz p)) (e5 : h.2.1 1 5 = cw T p (tk_go pz_let T sz p - p)) (e2 : h.1 1 2 = (bif Nat.blt 8 (tk_go pz_let T sz p - p) then 0 else 1)) : c_p T sz p h := by
  obtain ⟨k1, k2, k3⟩ := cs_kw hps hl
  have hge := tk_ge pz_let T (Nat.le_of_lt hps)
  unfold c_p
  rw [k1, k2, k3]
  cases hb : Nat.blt 8 (tk_go pz_let T sz p - p) with
  | true =>
    rw [hb] at e2
    exact ⟨e3, e2, e4, fun w => absurd w (by decide), fun w => absurd w (by decide)⟩
  | false =>
    rw [hb] at e2
    refine ⟨e3, e2, e4, fun _ => ?_, fun w => absurd w (by decide)⟩
    have hn : tk_go pz_let T sz p - p ≤ 8 := by
      rcases Nat.lt_or_ge 8 (tk_go pz_let T sz p - p) with w | w
      · rw [tk_blt.mpr w] at hb
        cases hb
      · exact w
    have hall := tk_all (T := T) (f := pz_let) (sz := sz) sz p (by omega) (by omega)
    obtain ⟨w1, w2, w3⟩ := cw_eq (T := T) (p := p) (n := tk_go pz_let T sz p - p) (fun j hj => hall (p + j) (by omega) (by omega)) hn
    exact ⟨_, _, hn, w3, w1, e5.trans w2⟩
theorem c_pn (hps : p < sz) (hl : pz_let (T p) = false) (hd : pz_dig (T p) = true) (e3 : h.1 1 3 = nI p) (e4 : h.1 1 4 = nI (tk_go pz_dig T sz p)) (e5 : h.1 1 6 = cn T p (tk_go pz_dig T sz p - p)) (e2 : h.1 1 2 = (bif Nat.blt 4 (tk_go pz_dig T sz p - p) then 0 else 2)) : c_p T sz p h := by
  obtain ⟨k1, k2, k3⟩ := cs_kn hps hl hd
  have hge := tk_ge pz_dig T (Nat.le_of_lt hps)
  unfold c_p
  rw [k1, k2, k3]
  cases hb : Nat.blt 4 (tk_go pz_dig T sz p - p) with
  | true =>
    rw [hb] at e2
    exact ⟨e3, e2, e4, fun w => absurd w (by decide), fun w => absurd w (by decide)⟩
  | false =>
    rw [hb] at e2
    refine ⟨e3, e2, e4, fun w => absurd w (by decide), fun _ => ?_⟩
    have hn : tk_go pz_dig T sz p - p ≤ 4 := by
      rcases Nat.lt_or_ge 4 (tk_go pz_dig T sz p - p) with w | w
      · rw [tk_blt.mpr w] at hb
        cases hb
      · exact w
    have hall := tk_all (T := T) (f := pz_dig) (sz := sz) sz p (by omega) (by omega)
    obtain ⟨w1, w2, w3⟩ := cn_eq (T := T) (p := p) (n := tk_go pz_dig T sz p - p) (fun j hj => hall (p + j) (by omega) (by omega)) hn
    have h5 := cn_lt w3
    have h6 : 10 ^ (tk_go pz_dig T sz p - p) ≤ 10 ^ 4 := Nat.pow_le_pow_right (by omega) hn
    exact ⟨_, by omega, w1, e5.trans w2⟩
/-- the tokens, as the spec has them -/
def tt (T : Nat → Int32) (sz : Nat) : sp_T := fun a => (kz T sz (tk_pl T sz a), tk_vl T sz (tk_pl T sz a), tk_pl T sz a)
/-- the token at hand is the a-th -/
def c_t (T : Nat → Int32) (sz a : Nat) (h : am_H) : Prop := (ex_P h ∧ sz ≤ 1000 ∧ (∀ q, q < sz → 0 ≤ (T q).toInt ∧ (T q).toInt ≤ 126)) ∧ h.1 1 1 = nI sz ∧ (∀ q, q < sz → h.1 2 q = T q) ∧ h.1 1 7 = 0 ∧ a ≤ tk_pl T sz a ∧ tk_pl T sz a ≤ sz ∧ c_p T sz (tk_pl T sz a) h
theorem sg_b : st_b 0 0 = 40 ∧ st_b 0 1 = 41 ∧ st_b 0 2 = 60 ∧ st_b 0 3 = 61 ∧ st_b 0 4 = 43 ∧ st_b 0 5 = 45 ∧ st_b 0 6 = 42 ∧ st_b 0 7 = 59 ∧ am_sln.getD 0 0 = 8 := by decide +kernel
def sg_r (x : Int32) : Int32 := bif tk_sn x then 0 else -1
/-- the first of the signs from i on that is x, or -1 -/
def sg_i (x : Int32) : Nat → Nat → Int32
  | 0, _ => Int32.ofInt (-1)
  | m + 1, i => bif decide (st_b 0 i = x) then nI i else sg_i x m (i + 1)
theorem sg_ok {x : Int32} : decide (sg_i x 8 0 < 0) = !tk_sn x := by
  obtain ⟨b0, b1, b2, b3, b4, b5, b6, b7, -⟩ := sg_b
  simp only [sg_i, b0, b1, b2, b3, b4, b5, b6, b7]
  by_cases c0 : x = 40
  · subst c0; decide +kernel
  by_cases c1 : x = 41
  · subst c1; decide +kernel
  by_cases c2 : x = 60
  · subst c2; decide +kernel
  by_cases c3 : x = 61
  · subst c3; decide +kernel
  by_cases c4 : x = 43
  · subst c4; decide +kernel
  by_cases c5 : x = 45
  · subst c5; decide +kernel
  by_cases c6 : x = 42
  · subst c6; decide +kernel
  by_cases c7 : x = 59
  · subst c7; decide +kernel
  rw [decide_eq_false (show ¬ (40 : Int32) = x from fun e => c0 e.symm), decide_eq_false (show ¬ (41 : Int32) = x from fun e => c1 e.symm), decide_eq_false (show ¬ (60 : Int32) = x from fun e => c2 e.symm), decide_eq_false (show ¬ (61 : Int32) = x from fun e => c3 e.symm), decide_eq_false (show ¬ (43 : Int32) = x from fun e => c4 e.symm), decide_eq_false (show ¬ (45 : Int32) = x from fun e => c5 e.symm), decide_eq_false (show ¬ (42 : Int32) = x from fun e => c6 e.symm), decide_eq_false (show ¬ (59 : Int32) = x from fun e => c7 e.symm)]
  have e : tk_sn x = false := by
    unfold tk_sn
    rw [decide_eq_false (show ¬ x = (Int8.ofInt 40).toInt32 from c0), decide_eq_false (show ¬ x = (Int8.ofInt 41).toInt32 from c1), decide_eq_false (show ¬ x = (Int8.ofInt 59).toInt32 from c7), decide_eq_false (show ¬ x = (Int8.ofInt 61).toInt32 from c3), decide_eq_false (show ¬ x = (Int8.ofInt 60).toInt32 from c2), decide_eq_false (show ¬ x = (Int8.ofInt 43).toInt32 from c4), decide_eq_false (show ¬ x = (Int8.ofInt 45).toInt32 from c5), decide_eq_false (show ¬ x = (Int8.ofInt 42).toInt32 from c6)]
    rfl
  rw [e]
  decide +kernel
theorem sg_30l {x y : Int32} (hP : ex_P h) : ∀ (m i : Nat), i + m = 8 → Q (some (.int (sg_i x m i))) h → pz_S 6 (some .int) am_r30 0 Q 7 [(5, .int (nI i)), (4, .int x), (0, .ref (5000000 + 0)), (1, .int y), (2, .int (nI 0)), (3, .int (nI 8))] [] h := by
  intro m
  induction m with
  | zero =>
    intro i hi hQ
    refine am_goX 3 (show (nI 8 ≤ nI i → pz_S 6 (some .int) am_r30 0 Q 31 [(5, .int (nI i)), (4, .int x), (0, .ref (5000000 + 0)), (1, .int y), (2, .int (nI 0)), (3, .int (nI 8))] [] h) ∧ (¬ nI 8 ≤ nI i → pz_S 6 (some .int) am_r30 0 Q 13 [(5, .int (nI i)), (4, .int x), (0, .ref (5000000 + 0)), (1, .int y), (2, .int (nI 0)), (3, .int (nI 8))] [] h) from ⟨fun _ => ?_, fun z => absurd (nI_le (by omega) (by omega)) z⟩)
    exact am_goX 2 (show (∃ ty, (some FieldType.int) = some ty ∧ narrow ty (.int (Int32.ofInt (-1))) = .int (Int32.ofInt (-1))) ∧ h.2.2.2.2 = 175 ∧ _ from ⟨⟨.int, rfl, rfl⟩, ex_175 hP, hQ⟩)
  | succ m ih =>
    intro i hi hQ
    refine am_goX 3 (show (nI 8 ≤ nI i → pz_S 6 (some .int) am_r30 0 Q 31 [(5, .int (nI i)), (4, .int x), (0, .ref (5000000 + 0)), (1, .int y), (2, .int (nI 0)), (3, .int (nI 8))] [] h) ∧ (¬ nI 8 ≤ nI i → pz_S 6 (some .int) am_r30 0 Q 13 [(5, .int (nI i)), (4, .int x), (0, .ref (5000000 + 0)), (1, .int y), (2, .int (nI 0)), (3, .int (nI 8))] [] h) from ⟨fun z => absurd (by rw [nI_leI (by omega) (by omega)] at z; exact z) (by omega : ¬ 8 ≤ i), fun _ => ?_⟩)
    refine am_goX 3 (show (∃ j n : Nat, am_sh h (5000000 + 0) = some (15, n) ∧ j < n ∧ nI i = nI j ∧ pz_S 6 (some .int) am_r30 0 Q 17 [(5, .int (nI i)), (4, .int x), (0, .ref (5000000 + 0)), (1, .int y), (2, .int (nI 0)), (3, .int (nI 8))] [.int (h.1 (5000000 + 0) j)] h) ∨ (∃ q9 j : Nat, q9 < 26 ∧ 5000000 + 0 = 5000000 + q9 ∧ j < am_sln.getD q9 0 ∧ nI i = nI j ∧ pz_S 6 (some .int) am_r30 0 Q 17 [(5, .int (nI i)), (4, .int x), (0, .ref (5000000 + 0)), (1, .int y), (2, .int (nI 0)), (3, .int (nI 8))] [.int (st_b q9 j)] h) from Or.inr ⟨0, i, by decide, rfl, by rw [sg_b.2.2.2.2.2.2.2.2]; omega, rfl, ?_⟩)
    refine am_goX 2 (show (¬ st_b 0 i = x → pz_S 6 (some .int) am_r30 0 Q 25 [(5, .int (nI i)), (4, .int x), (0, .ref (5000000 + 0)), (1, .int y), (2, .int (nI 0)), (3, .int (nI 8))] [] h) ∧ (¬ ¬ st_b 0 i = x → pz_S 6 (some .int) am_r30 0 Q 22 [(5, .int (nI i)), (4, .int x), (0, .ref (5000000 + 0)), (1, .int y), (2, .int (nI 0)), (3, .int (nI 8))] [] h) from ⟨fun hc => ?_, fun hc => ?_⟩)
    · refine am_goX 2 (show 5 < 6 ∧ pz_S 6 (some .int) am_r30 0 Q 7 [(5, .int (nI i + Int32.ofInt 1)), (4, .int x), (0, .ref (5000000 + 0)), (1, .int y), (2, .int (nI 0)), (3, .int (nI 8))] [] h from ⟨by decide, ?_⟩)
      rw [xw_i1]
      have e : sg_i x (m + 1) i = sg_i x m (i + 1) := by
        show (bif decide (st_b 0 i = x) then nI i else sg_i x m (i + 1)) = _
        rw [decide_eq_false hc]
        rfl
      rw [e] at hQ
      exact ih (i + 1) (by omega) hQ
    · have e : sg_i x (m + 1) i = nI i := by
        show (bif decide (st_b 0 i = x) then nI i else sg_i x m (i + 1)) = _
        rw [decide_eq_true (Decidable.not_not.mp hc)]
        rfl
      rw [e] at hQ
      exact am_goX 2 (show (∃ ty, (some FieldType.int) = some ty ∧ narrow ty (.int (nI i)) = .int (nI i)) ∧ h.2.2.2.2 = 175 ∧ _ from ⟨⟨.int, rfl, rfl⟩, ex_175 hP, hQ⟩)
theorem sg_30 {x : Int32} (hP : ex_P h) (hx : 0 ≤ x.toInt ∧ x.toInt ≤ 126) (hQ : Q (some (.int (sg_i x 8 0))) h) : am_call am_cod 1 30 [.ref (5000000 + 0), .int x, .int (nI 0), .int (nI 8)] h Q := by
  refine pz_call (n := 30) (nL := 6) (rt := (some .int)) (rows := am_r30) (d := 0) (by decide +kernel) (by decide +kernel) rfl (by funext pc; rfl) (ex_175 hP) (by exact Nat.le_of_ble_eq_true rfl) ?_
  refine am_goX 5 (show 4 < 6 ∧ 5 < 6 ∧ pz_S 6 (some .int) am_r30 0 Q 7 [(5, .int (nI 0)), (4, .int x.toInt8.toInt32), (0, .ref (5000000 + 0)), (1, .int x), (2, .int (nI 0)), (3, .int (nI 8))] [] h from ⟨by decide, by decide, ?_⟩)
  have e : x.toInt8.toInt32 = x := by
    refine Int32.toInt_inj.mp ?_
    rw [Int8.toInt_toInt32, Int32.toInt_toInt8]
    exact Int.bmod_eq_of_le (by omega) (by omega)
  rw [e]
  exact sg_30l hP 8 0 rfl hQ
theorem sg_28 (hP : ex_P h) (hQ : Q (some (.int (nI 0))) h) : am_call am_cod 1 28 [.int (nI 0), .int (Int32.ofInt 0)] h Q := by
  refine pz_call (n := 28) (nL := 2) (rt := (some .int)) (rows := am_r28) (d := 0) (by decide +kernel) (by decide +kernel) rfl (by funext pc; rfl) (ex_175 hP) (by exact Nat.le_of_ble_eq_true rfl) ?_
  refine am_goX 3 (show (nI 0 < Int32.ofInt 0 → pz_S 2 (some .int) am_r28 0 Q 9 [(0, .int (nI 0)), (1, .int (Int32.ofInt 0))] [] h) ∧ (¬ nI 0 < Int32.ofInt 0 → pz_S 2 (some .int) am_r28 0 Q 5 [(0, .int (nI 0)), (1, .int (Int32.ofInt 0))] [] h) from ⟨fun z => absurd z (by decide), fun _ => ?_⟩)
  exact am_goX 3 (show (∃ ty, (some FieldType.int) = some ty ∧ narrow ty (.int (nI 0)) = .int (nI 0)) ∧ h.2.2.2.2 = 175 ∧ _ from ⟨⟨.int, rfl, rfl⟩, ex_175 hP, hQ⟩)
theorem sg_29 (hP : ex_P h) (hQ : Q (some (.int (nI 8))) h) : am_call am_cod 1 29 [.int (nI 8), .int (nI 8)] h Q := by
  refine pz_call (n := 29) (nL := 2) (rt := (some .int)) (rows := am_r29) (d := 0) (by decide +kernel) (by decide +kernel) rfl (by funext pc; rfl) (ex_175 hP) (by exact Nat.le_of_ble_eq_true rfl) ?_
  refine am_goX 3 (show (nI 8 < nI 8 → pz_S 2 (some .int) am_r29 0 Q 9 [(0, .int (nI 8)), (1, .int (nI 8))] [] h) ∧ (¬ nI 8 < nI 8 → pz_S 2 (some .int) am_r29 0 Q 5 [(0, .int (nI 8)), (1, .int (nI 8))] [] h) from ⟨fun z => absurd z (by decide), fun _ => ?_⟩)
  exact am_goX 3 (show (∃ ty, (some FieldType.int) = some ty ∧ narrow ty (.int (nI 8)) = .int (nI 8)) ∧ h.2.2.2.2 = 175 ∧ _ from ⟨⟨.int, rfl, rfl⟩, ex_175 hP, hQ⟩)
theorem sg_27 {x : Int32} (hP : ex_P h) (hx : 0 ≤ x.toInt ∧ x.toInt ≤ 126) (hQ : Q (some (.int (Int32.ofInt 1))) h) : am_call am_cod 1 27 [.int x] h Q := by
  refine pz_call (n := 27) (nL := 1) (rt := (some .boolean)) (rows := am_r27) (d := 0) (by decide +kernel) (by decide +kernel) rfl (by funext pc; rfl) (ex_175 hP) (by exact Nat.le_of_ble_eq_true rfl) ?_
  refine am_goX 2 (show (x < 0 → pz_S 1 (some .boolean) am_r27 0 Q 15 [(0, .int x)] [] h) ∧ (¬ x < 0 → pz_S 1 (some .boolean) am_r27 0 Q 4 [(0, .int x)] [] h) from ⟨fun z => absurd (Int32.lt_iff_toInt_lt.mp z) (by rw [show (0 : Int32).toInt = 0 from rfl]; omega), fun _ => ?_⟩)
  refine am_goX 3 (show ((Int16.ofInt 255).toInt32 < x → pz_S 1 (some .boolean) am_r27 0 Q 15 [(0, .int x)] [] h) ∧ (¬ (Int16.ofInt 255).toInt32 < x → pz_S 1 (some .boolean) am_r27 0 Q 11 [(0, .int x)] [] h) from ⟨fun z => absurd (Int32.lt_iff_toInt_lt.mp z) (by rw [show ((Int16.ofInt 255).toInt32).toInt = 255 from rfl]; omega), fun _ => ?_⟩)
  exact am_goX 3 (show (∃ ty, (some FieldType.boolean) = some ty ∧ narrow ty (.int (Int32.ofInt 1)) = .int (Int32.ofInt 1)) ∧ h.2.2.2.2 = 175 ∧ _ from ⟨⟨.boolean, rfl, rfl⟩, ex_175 hP, hQ⟩)
theorem sg_26 {x : Int32} (hP : ex_P h) (hx : 0 ≤ x.toInt ∧ x.toInt ≤ 126) (hQ : Q (some (.int (sg_i x 8 0))) h) : am_call am_cod 2 26 [.ref (5000000 + 0), .int x, .int (nI 0), .int (nI 8)] h Q := by
  refine pz_call (n := 26) (nL := 4) (rt := (some .int)) (rows := am_r26) (d := 1) (by decide +kernel) (by decide +kernel) rfl (by funext pc; rfl) (ex_175 hP) (by exact Nat.le_of_ble_eq_true rfl) ?_
  refine am_goX 2 (show 0 ≤ 8 ∧ h.2.2.2.2 + am_al 27 ≤ 175 ∧ am_call am_cod 1 27 [.int x] h (fun vv h' => pz_S 4 (some .int) am_r26 1 Q 4 [(0, .ref (5000000 + 0)), (1, .int x), (2, .int (nI 0)), (3, .int (nI 8))] (vv.toList ++ []) h') from ⟨by decide, ex_lim hP rfl, sg_27 hP hx ?_⟩)
  refine am_goX 1 (show (¬ Int32.ofInt 1 = 0 → pz_S 4 (some .int) am_r26 1 Q 9 [(0, .ref (5000000 + 0)), (1, .int x), (2, .int (nI 0)), (3, .int (nI 8))] [] h) ∧ (¬ ¬ Int32.ofInt 1 = 0 → pz_S 4 (some .int) am_r26 1 Q 7 [(0, .ref (5000000 + 0)), (1, .int x), (2, .int (nI 0)), (3, .int (nI 8))] [] h) from ⟨fun _ => ?_, fun z => absurd (by decide) z⟩)
  refine am_goX 3 (show 0 ≤ 8 ∧ h.2.2.2.2 + am_al 28 ≤ 175 ∧ am_call am_cod 1 28 [.int (nI 0), .int (Int32.ofInt 0)] h (fun vv h' => pz_S 4 (some .int) am_r26 1 Q 14 [(0, .ref (5000000 + 0)), (1, .int x), (2, .int (nI 0)), (3, .int (nI 8))] (vv.toList ++ []) h') from ⟨by decide, ex_lim hP rfl, sg_28 hP ?_⟩)
  refine am_goX 3 (show 2 < 4 ∧ pz_S 4 (some .int) am_r26 1 Q 17 [(2, .int (nI 0)), (0, .ref (5000000 + 0)), (1, .int x), (3, .int (nI 8))] [.ref (5000000 + 0), .int (nI 8)] h from ⟨by decide, ?_⟩)
  refine am_goX 1 (show (∃ t n : Nat, am_sh h (5000000 + 0) = some (t, n) ∧ 12 ≤ t ∧ pz_S 4 (some .int) am_r26 1 Q 18 [(2, .int (nI 0)), (0, .ref (5000000 + 0)), (1, .int x), (3, .int (nI 8))] [.int (nI n), .int (nI 8)] h) ∨ (∃ q9 : Nat, q9 < 26 ∧ 5000000 + 0 = 5000000 + q9 ∧ pz_S 4 (some .int) am_r26 1 Q 18 [(2, .int (nI 0)), (0, .ref (5000000 + 0)), (1, .int x), (3, .int (nI 8))] [.int (nI (am_sln.getD q9 0)), .int (nI 8)] h) from Or.inr ⟨0, by decide, rfl, ?_⟩)
  rw [sg_b.2.2.2.2.2.2.2.2]
  refine am_goX 1 (show 0 ≤ 8 ∧ h.2.2.2.2 + am_al 29 ≤ 175 ∧ am_call am_cod 1 29 [.int (nI 8), .int (nI 8)] h (fun vv h' => pz_S 4 (some .int) am_r26 1 Q 21 [(2, .int (nI 0)), (0, .ref (5000000 + 0)), (1, .int x), (3, .int (nI 8))] (vv.toList ++ []) h') from ⟨by decide, ex_lim hP rfl, sg_29 hP ?_⟩)
  refine am_goX 4 (show 3 < 4 ∧ (nI 0 < nI 8 → pz_S 4 (some .int) am_r26 1 Q 29 [(3, .int (nI 8)), (2, .int (nI 0)), (0, .ref (5000000 + 0)), (1, .int x)] [] h) ∧ (¬ nI 0 < nI 8 → pz_S 4 (some .int) am_r26 1 Q 27 [(3, .int (nI 8)), (2, .int (nI 0)), (0, .ref (5000000 + 0)), (1, .int x)] [] h) from ⟨by decide, fun _ => ?_, fun z => absurd (by decide) z⟩)
  refine am_goX 5 (show 0 ≤ 8 ∧ h.2.2.2.2 + am_al 30 ≤ 175 ∧ am_call am_cod 1 30 [.ref (5000000 + 0), .int x, .int (nI 0), .int (nI 8)] h (fun vv h' => pz_S 4 (some .int) am_r26 1 Q 36 [(3, .int (nI 8)), (2, .int (nI 0)), (0, .ref (5000000 + 0)), (1, .int x)] (vv.toList ++ []) h') from ⟨by decide, ex_lim hP rfl, sg_30 hP hx ?_⟩)
  exact am_goX 1 (show (∃ ty, (some FieldType.int) = some ty ∧ narrow ty (.int (sg_i x 8 0)) = .int (sg_i x 8 0)) ∧ h.2.2.2.2 = 175 ∧ _ from ⟨⟨.int, rfl, rfl⟩, ex_175 hP, hQ⟩)
theorem sg_22 {x : Int32} (hP : ex_P h) (hx : 0 ≤ x.toInt ∧ x.toInt ≤ 126) (hQ : Q (some (.int (sg_i x 8 0))) h) : am_call am_cod 3 22 [.ref (4000000 + 0), .int x, .int (Int32.ofInt 0)] h Q := by
  refine pz_call (n := 22) (nL := 3) (rt := (some .int)) (rows := am_r22) (d := 2) (by decide +kernel) (by decide +kernel) rfl (by funext pc; rfl) (ex_175 hP) (by exact Nat.le_of_ble_eq_true rfl) ?_
  refine am_goX 2 (show am_rc h (4000000 + 0) 20 ∧ 0 ≤ 8 ∧ h.2.2.2.2 + am_al 23 ≤ 175 ∧ am_call am_cod 2 23 [.ref (4000000 + 0)] h (fun vv h' => pz_S 3 (some .int) am_r22 2 Q 4 [(0, .ref (4000000 + 0)), (1, .int x), (2, .int (Int32.ofInt 0))] (vv.toList ++ []) h') from ⟨st_rc (by decide), by decide, ex_lim hP rfl, am_call.up (st_lat (by decide) hP ?_) (by decide)⟩)
  refine am_goX 1 (show ((1 : Int32) = 0 → pz_S 3 (some .int) am_r22 2 Q 23 [(0, .ref (4000000 + 0)), (1, .int x), (2, .int (Int32.ofInt 0))] [] h) ∧ (¬ (1 : Int32) = 0 → pz_S 3 (some .int) am_r22 2 Q 7 [(0, .ref (4000000 + 0)), (1, .int x), (2, .int (Int32.ofInt 0))] [] h) from ⟨fun z => absurd z (by decide), fun _ => ?_⟩)
  refine am_goX 2 (show ∃ q9 : Nat, q9 < 26 ∧ 4000000 + 0 = 4000000 + q9 ∧ pz_S 3 (some .int) am_r22 2 Q 11 [(0, .ref (4000000 + 0)), (1, .int x), (2, .int (Int32.ofInt 0))] [.ref (5000000 + q9)] h from ⟨0, by decide, rfl, ?_⟩)
  refine am_goX 4 (show am_rc h (4000000 + 0) 20 ∧ 3 ≤ 8 ∧ h.2.2.2.2 + am_al 24 ≤ 175 ∧ am_call am_cod 2 24 [.ref (4000000 + 0)] h (fun vv h' => pz_S 3 (some .int) am_r22 2 Q 17 [(0, .ref (4000000 + 0)), (1, .int x), (2, .int (Int32.ofInt 0))] (vv.toList ++ [.int (Int32.ofInt 0), .int x, .ref (5000000 + 0)]) h') from ⟨st_rc (by decide), by decide, ex_lim hP rfl, st_len (by decide) hP ?_⟩)
  rw [sg_b.2.2.2.2.2.2.2.2]
  refine am_goX 1 (show 0 ≤ 8 ∧ h.2.2.2.2 + am_al 26 ≤ 175 ∧ am_call am_cod 2 26 [.ref (5000000 + 0), .int x, .int (Int32.ofInt 0), .int (nI 8)] h (fun vv h' => pz_S 3 (some .int) am_r22 2 Q 20 [(0, .ref (4000000 + 0)), (1, .int x), (2, .int (Int32.ofInt 0))] (vv.toList ++ []) h') from ⟨by decide, ex_lim hP rfl, sg_26 hP hx ?_⟩)
  exact am_goX 2 (show (∃ ty, (some FieldType.int) = some ty ∧ narrow ty (.int (sg_i x 8 0)) = .int (sg_i x 8 0)) ∧ h.2.2.2.2 = 175 ∧ _ from ⟨⟨.int, rfl, rfl⟩, ex_175 hP, hQ⟩)
theorem sg_21 {x : Int32} (hP : ex_P h) (hx : 0 ≤ x.toInt ∧ x.toInt ≤ 126) (hQ : Q (some (.int (sg_i x 8 0))) h) : am_call am_cod 4 21 [.ref (4000000 + 0), .int x] h Q := by
  refine pz_call (n := 21) (nL := 2) (rt := (some .int)) (rows := am_r21) (d := 3) (by decide +kernel) (by decide +kernel) rfl (by funext pc; rfl) (ex_175 hP) (by exact Nat.le_of_ble_eq_true rfl) ?_
  refine am_goX 4 (show am_rc h (4000000 + 0) 20 ∧ 0 ≤ 8 ∧ h.2.2.2.2 + am_al 22 ≤ 175 ∧ am_call am_cod 3 22 [.ref (4000000 + 0), .int x, .int (Int32.ofInt 0)] h (fun vv h' => pz_S 2 (some .int) am_r21 3 Q 6 [(0, .ref (4000000 + 0)), (1, .int x)] (vv.toList ++ []) h') from ⟨st_rc (by decide), by decide, ex_lim hP rfl, sg_22 hP hx ?_⟩)
  exact am_goX 1 (show (∃ ty, (some FieldType.int) = some ty ∧ narrow ty (.int (sg_i x 8 0)) = .int (sg_i x 8 0)) ∧ h.2.2.2.2 = 175 ∧ _ from ⟨⟨.int, rfl, rfl⟩, ex_175 hP, hQ⟩)
theorem cs_st_l (hend : ∀ h1, ctp h0 sz T h1 → h1.1 1 4 = nI p → pz_S 1 none am_r18 4 Q 52 [(0, .ref 1)] [] h1) (hz : sz ≤ 1000) : ∀ (m k : Nat) (h : am_H), sz ≤ k + m → k ≤ sz → p = tk_go tk_bl T sz k → ctp h0 sz T h → h.1 1 4 = nI k → pz_S 1 none am_r18 4 Q 0 [(0, .ref 1)] [] h := by
  intro m
  induction m with
  | zero =>
    intro k h hm hks hq l e4
    have hP := l.1
    refine am_goX 4 (show am_sh h 1 = some (7, 0) ∧ am_sh h 1 = some (7, 0) ∧ pz_S 1 none am_r18 4 Q 8 [(0, .ref 1)] [.int (h.1 1 1), .int (h.1 1 4)] h from ⟨ex_1 hP, ex_1 hP, ?_⟩)
    rw [e4, l.2.2.1]
    refine am_goX 1 (show ((nI sz) ≤ (nI k) → pz_S 1 none am_r18 4 Q 52 [(0, .ref 1)] [] h) ∧ (¬ ((nI sz) ≤ (nI k)) → pz_S 1 none am_r18 4 Q 11 [(0, .ref 1)] [] h) from ⟨fun hc => ?_, fun hc => ?_⟩)
    · have hge : sz ≤ k := by
        rw [nI_leI (by omega) (by omega)] at hc
        exact hc
      have ek : p = k := hq.trans (tk_go_n (fun w => absurd w (by omega)))
      exact hend h l (by rw [ek]; exact e4)
    · exact absurd (nI_le (by omega) (by omega)) hc
  | succ m ih =>
    intro k h hm hks hq l e4
    have hP := l.1
    refine am_goX 4 (show am_sh h 1 = some (7, 0) ∧ am_sh h 1 = some (7, 0) ∧ pz_S 1 none am_r18 4 Q 8 [(0, .ref 1)] [.int (h.1 1 1), .int (h.1 1 4)] h from ⟨ex_1 hP, ex_1 hP, ?_⟩)
    rw [e4, l.2.2.1]
    refine am_goX 1 (show ((nI sz) ≤ (nI k) → pz_S 1 none am_r18 4 Q 52 [(0, .ref 1)] [] h) ∧ (¬ ((nI sz) ≤ (nI k)) → pz_S 1 none am_r18 4 Q 11 [(0, .ref 1)] [] h) from ⟨fun hc => ?_, fun hc => ?_⟩)
    · have hge : sz ≤ k := by
        rw [nI_leI (by omega) (by omega)] at hc
        exact hc
      have ek : p = k := hq.trans (tk_go_n (fun w => absurd w (by omega)))
      exact hend h l (by rw [ek]; exact e4)
    have hks0 : k < sz := by
      rcases Nat.lt_or_ge k sz with w | w
      · exact w
      · exact absurd (nI_le w (by omega)) hc
    clear hc
    have k39 : tk_bl (T k) = true → pz_S 1 none am_r18 4 Q 39 [(0, .ref 1)] [] h := by
      intro eb
      refine am_goX 6 (show (Value.ref 1).category = 1 ∧ am_sh h 1 = some (7, 0) ∧ am_sh h 1 = some (7, 0) ∧ narrow (am_fty 7 4) (.int (((h.1 1 4) + (Int32.ofInt 1)))) = .int (((h.1 1 4) + (Int32.ofInt 1))) ∧ fits (am_fty 7 4) (.int (((h.1 1 4) + (Int32.ofInt 1)))) = true ∧ pz_S 1 none am_r18 4 Q 49 [(0, .ref 1)] [] (am_wI h 1 4 (((h.1 1 4) + (Int32.ofInt 1)))) from ⟨rfl, ex_1 hP, ex_1 hP, rfl, rfl, ?_⟩)
      rw [e4, xw_i1]
      have l2 := ct1_4 (v := nI (k + 1)) l
      have y4 : (am_wI h 1 4 (nI (k + 1))).1 1 4 = nI (k + 1) := em_we h 1 4 _
      generalize am_wI h 1 4 (nI (k + 1)) = h2 at l2 y4 ⊢
      refine am_goX 1 (show pz_S 1 none am_r18 4 Q 0 [(0, .ref 1)] [] h2 from ?_)
      exact ih (k + 1) h2 (by omega) (by omega) (hq.trans (tk_go_y hks0 eb)) l2 y4
    refine am_goX 2 (show am_sh h 1 = some (7, 0) ∧ pz_S 1 none am_r18 4 Q 15 [(0, .ref 1)] [am_rf (h.2.2.1 1 0)] h from ⟨ex_1 hP, ?_⟩)
    rw [ex_r1_0 hP]
    refine am_goX 3 (show am_sh h 1 = some (7, 0) ∧ ∃ jj nn : Nat, am_sh h 2 = some (12, nn) ∧ jj < nn ∧ (h.1 1 4) = nI jj ∧ pz_S 1 none am_r18 4 Q 20 [(0, .ref 1)] [.int (h.1 2 jj)] h from ⟨ex_1 hP, k, 1000, ex_2 hP, by omega, e4, ?_⟩)
    rw [l.2.2.2.1 k hks0]
    refine am_goX 2 (show ((T k) = (Int8.ofInt 10).toInt32 → pz_S 1 none am_r18 4 Q 39 [(0, .ref 1)] [] h) ∧ (¬ ((T k) = (Int8.ofInt 10).toInt32) → pz_S 1 none am_r18 4 Q 25 [(0, .ref 1)] [] h) from ⟨fun hc => ?_, fun hc => ?_⟩)
    · exact k39 (by unfold tk_bl; rw [decide_eq_true hc]; rfl)
    have hc1 := hc
    clear hc
    refine am_goX 2 (show am_sh h 1 = some (7, 0) ∧ pz_S 1 none am_r18 4 Q 29 [(0, .ref 1)] [am_rf (h.2.2.1 1 0)] h from ⟨ex_1 hP, ?_⟩)
    rw [ex_r1_0 hP]
    refine am_goX 3 (show am_sh h 1 = some (7, 0) ∧ ∃ jj nn : Nat, am_sh h 2 = some (12, nn) ∧ jj < nn ∧ (h.1 1 4) = nI jj ∧ pz_S 1 none am_r18 4 Q 34 [(0, .ref 1)] [.int (h.1 2 jj)] h from ⟨ex_1 hP, k, 1000, ex_2 hP, by omega, e4, ?_⟩)
    rw [l.2.2.2.1 k hks0]
    refine am_goX 2 (show (¬ (T k) = (Int8.ofInt 32).toInt32 → pz_S 1 none am_r18 4 Q 52 [(0, .ref 1)] [] h) ∧ (¬ ¬ (T k) = (Int8.ofInt 32).toInt32 → pz_S 1 none am_r18 4 Q 39 [(0, .ref 1)] [] h) from ⟨fun hc => ?_, fun hc => ?_⟩)
    · have ef : tk_bl (T k) = false := by
        unfold tk_bl
        rw [decide_eq_false hc1, decide_eq_false hc]
        rfl
      have ek : p = k := hq.trans (tk_go_n (fun w => ef))
      exact hend h l (by rw [ek]; exact e4)
    · exact k39 (by unfold tk_bl; rw [decide_eq_true (Decidable.not_not.mp hc), Bool.or_true])
theorem cs_st {k : Nat} (hz : sz ≤ 1000) (hch : ∀ q, q < sz → 0 ≤ (T q).toInt ∧ (T q).toInt ≤ 126) (hks : k ≤ sz) (l : ctp h0 sz T h) (e4 : h.1 1 4 = nI k) (hQ : ∀ h1, ctp h0 sz T h1 → c_p T sz (tk_go tk_bl T sz k) h1 → Q none h1) : am_call am_cod 5 18 [.ref 1] h Q := by
  have hP := l.1
  have hge := tk_ge tk_bl T hks
  refine pz_call (n := 18) (nL := 1) (rt := none) (rows := am_r18) (d := 4) (by decide +kernel) (by decide +kernel) rfl (by funext pc; rfl) (ex_175 hP) (by exact Nat.le_of_ble_eq_true rfl) ?_
  refine cs_st_l (p := tk_go tk_bl T sz k) ?_ hz sz k h (by omega) hks rfl l e4
  generalize tk_go tk_bl T sz k = p at hQ hge
  intro h9 l9 e49
  have hP9 := l9.1
  refine am_goX 4 (show am_sh h9 1 = some (7, 0) ∧ am_sh h9 1 = some (7, 0) ∧ narrow (am_fty 7 3) (.int ((h9.1 1 4))) = .int ((h9.1 1 4)) ∧ fits (am_fty 7 3) (.int ((h9.1 1 4))) = true ∧ pz_S 1 none am_r18 4 Q 60 [(0, .ref 1)] [] (am_wI h9 1 3 ((h9.1 1 4))) from ⟨ex_1 hP9, ex_1 hP9, rfl, rfl, ?_⟩)
  rw [e49]
  have l1 := ct1_3 (v := nI p) l9
  have x3 : (am_wI h9 1 3 (nI p)).1 1 3 = nI p := em_we h9 1 3 _
  have x4 : (am_wI h9 1 3 (nI p)).1 1 4 = nI p := by rw [em_wn h9 _ (by omega)]; exact e49
  generalize am_wI h9 1 3 (nI p) = h1 at l1 x3 x4 ⊢
  refine am_goX 4 (show am_sh h1 1 = some (7, 0) ∧ am_sh h1 1 = some (7, 0) ∧ pz_S 1 none am_r18 4 Q 68 [(0, .ref 1)] [.int (h1.1 1 1), .int (h1.1 1 3)] h1 from ⟨ex_1 l1.1, ex_1 l1.1, ?_⟩)
  rw [x3, l1.2.2.1]
  refine am_goX 1 (show ((nI p) < (nI sz) → pz_S 1 none am_r18 4 Q 79 [(0, .ref 1)] [] h1) ∧ (¬ ((nI p) < (nI sz)) → pz_S 1 none am_r18 4 Q 71 [(0, .ref 1)] [] h1) from ⟨fun hc => ?_, fun hc => ?_⟩)
  rotate_left
  · have hps : ¬ p < sz := fun w => hc (nI_lt w (by omega))
    refine am_goX 3 (show am_sh h1 1 = some (7, 0) ∧ narrow (am_fty 7 2) (.int ((Int32.ofInt 4))) = .int ((Int32.ofInt 4)) ∧ fits (am_fty 7 2) (.int ((Int32.ofInt 4))) = true ∧ pz_S 1 none am_r18 4 Q 76 [(0, .ref 1)] [] (am_wI h1 1 2 ((Int32.ofInt 4))) from ⟨ex_1 l1.1, rfl, rfl, ?_⟩)
    have l2 := ct1_2 (v := Int32.ofInt 4) l1
    have y2 : (am_wI h1 1 2 (Int32.ofInt 4)).1 1 2 = Int32.ofInt 4 := em_we h1 1 2 _
    have y3 : (am_wI h1 1 2 (Int32.ofInt 4)).1 1 3 = nI p := by rw [em_wn h1 _ (by omega)]; exact x3
    have y4 : (am_wI h1 1 2 (Int32.ofInt 4)).1 1 4 = nI p := by rw [em_wn h1 _ (by omega)]; exact x4
    generalize am_wI h1 1 2 (Int32.ofInt 4) = h2 at l2 y2 y3 y4 ⊢
    obtain ⟨k1, k2⟩ := cs_ke (T := T) hps
    exact am_goX 2 (show (none : Option FieldType) = none ∧ h2.2.2.2.2 = 175 ∧ _ from ⟨rfl, ex_175 l2.1, hQ h2 l2 (by unfold c_p; rw [k1, k2]; exact ⟨y3, y2, y4, fun w => absurd w (by decide), fun w => absurd w (by decide)⟩)⟩)
  have hps : p < sz := by
    rw [nI_ltI (by omega) (by omega)] at hc
    exact hc
  clear hc
  have k149 : pz_let (T p) = false → pz_dig (T p) = false → pz_S 1 none am_r18 4 Q 149 [(0, .ref 1)] [] h1 := by
    intro ul ud
    obtain ⟨k1, k2, k3⟩ := cs_ks hps ul ud
    refine am_goX 4 (show am_sh h1 1 = some (7, 0) ∧ pz_S 1 none am_r18 4 Q 156 [(0, .ref 1)] [am_rf (h1.2.2.1 1 0), .ref (4000000 + 0), .ref 1] h1 from ⟨ex_1 l1.1, ?_⟩)
    rw [ex_r1_0 l1.1]
    refine am_goX 3 (show am_sh h1 1 = some (7, 0) ∧ ∃ jj nn : Nat, am_sh h1 2 = some (12, nn) ∧ jj < nn ∧ (h1.1 1 3) = nI jj ∧ pz_S 1 none am_r18 4 Q 161 [(0, .ref 1)] [.int (h1.1 2 jj), .ref (4000000 + 0), .ref 1] h1 from ⟨ex_1 l1.1, p, 1000, ex_2 l1.1, by omega, x3, ?_⟩)
    rw [l1.2.2.2.1 p hps]
    refine am_goX 1 (show am_rc h1 (4000000 + 0) 20 ∧ 1 ≤ 8 ∧ h1.2.2.2.2 + am_al 21 ≤ 175 ∧ am_call am_cod 4 21 [.ref (4000000 + 0), .int (T p)] h1 (fun vv h' => pz_S 1 none am_r18 4 Q 164 [(0, .ref 1)] (vv.toList ++ [.ref 1]) h') from ⟨st_rc (by decide), by decide, ex_lim l1.1 rfl, sg_21 l1.1 (hch p hps) ?_⟩)
    refine am_goX 1 (show ((sg_i (T p) 8 0) < 0 → pz_S 1 none am_r18 4 Q 171 [(0, .ref 1)] [.ref 1] h1) ∧ (¬ ((sg_i (T p) 8 0) < 0) → pz_S 1 none am_r18 4 Q 167 [(0, .ref 1)] [.ref 1] h1) from ⟨fun hc => ?_, fun hc => ?_⟩)
    · have es : tk_sn (T p) = false := by
        have e := sg_ok (x := T p)
        rw [decide_eq_true hc] at e
        cases hb : tk_sn (T p) with
        | false => rfl
        | true =>
          rw [hb] at e
          cases e
      refine am_goX 2 (show am_sh h1 1 = some (7, 0) ∧ narrow (am_fty 7 2) (.int ((Int32.ofInt 0))) = .int ((Int32.ofInt 0)) ∧ fits (am_fty 7 2) (.int ((Int32.ofInt 0))) = true ∧ pz_S 1 none am_r18 4 Q 175 [(0, .ref 1)] [] (am_wI h1 1 2 ((Int32.ofInt 0))) from ⟨ex_1 l1.1, rfl, rfl, ?_⟩)
      have l2 := ct1_2 (v := Int32.ofInt 0) l1
      have y2 : (am_wI h1 1 2 (Int32.ofInt 0)).1 1 2 = Int32.ofInt 0 := em_we h1 1 2 _
      have y3 : (am_wI h1 1 2 (Int32.ofInt 0)).1 1 3 = nI p := by rw [em_wn h1 _ (by omega)]; exact x3
      have y4 : (am_wI h1 1 2 (Int32.ofInt 0)).1 1 4 = nI p := by rw [em_wn h1 _ (by omega)]; exact x4
      generalize am_wI h1 1 2 (Int32.ofInt 0) = h2 at l2 y2 y3 y4 ⊢
      refine am_goX 6 (show (Value.ref 1).category = 1 ∧ am_sh h2 1 = some (7, 0) ∧ am_sh h2 1 = some (7, 0) ∧ narrow (am_fty 7 4) (.int (((h2.1 1 4) + (Int32.ofInt 1)))) = .int (((h2.1 1 4) + (Int32.ofInt 1))) ∧ fits (am_fty 7 4) (.int (((h2.1 1 4) + (Int32.ofInt 1)))) = true ∧ pz_S 1 none am_r18 4 Q 185 [(0, .ref 1)] [] (am_wI h2 1 4 (((h2.1 1 4) + (Int32.ofInt 1)))) from ⟨rfl, ex_1 l2.1, ex_1 l2.1, rfl, rfl, ?_⟩)
      rw [y4, xw_i1]
      have l3 := ct1_4 (v := nI (p + 1)) l2
      have w2 : (am_wI h2 1 4 (nI (p + 1))).1 1 2 = Int32.ofInt 0 := by rw [em_wn h2 _ (by omega)]; exact y2
      have w3 : (am_wI h2 1 4 (nI (p + 1))).1 1 3 = nI p := by rw [em_wn h2 _ (by omega)]; exact y3
      have w4 : (am_wI h2 1 4 (nI (p + 1))).1 1 4 = nI (p + 1) := em_we h2 1 4 _
      generalize am_wI h2 1 4 (nI (p + 1)) = h3 at l3 w2 w3 w4 ⊢
      exact am_goX 1 (show (none : Option FieldType) = none ∧ h3.2.2.2.2 = 175 ∧ _ from ⟨rfl, ex_175 l3.1, hQ h3 l3 (by unfold c_p; rw [k1, k2, es]; exact ⟨w3, w2, w4, fun w => absurd w (by decide), fun w => absurd w (by decide)⟩)⟩)
    · have es : tk_sn (T p) = true := by
        have e := sg_ok (x := T p)
        rw [decide_eq_false hc] at e
        cases hb : tk_sn (T p) with
        | true => rfl
        | false =>
          rw [hb] at e
          cases e
      refine am_goX 3 (show am_sh h1 1 = some (7, 0) ∧ narrow (am_fty 7 2) (.int ((Int32.ofInt 3))) = .int ((Int32.ofInt 3)) ∧ fits (am_fty 7 2) (.int ((Int32.ofInt 3))) = true ∧ pz_S 1 none am_r18 4 Q 175 [(0, .ref 1)] [] (am_wI h1 1 2 ((Int32.ofInt 3))) from ⟨ex_1 l1.1, rfl, rfl, ?_⟩)
      have l2 := ct1_2 (v := Int32.ofInt 3) l1
      have y2 : (am_wI h1 1 2 (Int32.ofInt 3)).1 1 2 = Int32.ofInt 3 := em_we h1 1 2 _
      have y3 : (am_wI h1 1 2 (Int32.ofInt 3)).1 1 3 = nI p := by rw [em_wn h1 _ (by omega)]; exact x3
      have y4 : (am_wI h1 1 2 (Int32.ofInt 3)).1 1 4 = nI p := by rw [em_wn h1 _ (by omega)]; exact x4
      generalize am_wI h1 1 2 (Int32.ofInt 3) = h2 at l2 y2 y3 y4 ⊢
      refine am_goX 6 (show (Value.ref 1).category = 1 ∧ am_sh h2 1 = some (7, 0) ∧ am_sh h2 1 = some (7, 0) ∧ narrow (am_fty 7 4) (.int (((h2.1 1 4) + (Int32.ofInt 1)))) = .int (((h2.1 1 4) + (Int32.ofInt 1))) ∧ fits (am_fty 7 4) (.int (((h2.1 1 4) + (Int32.ofInt 1)))) = true ∧ pz_S 1 none am_r18 4 Q 185 [(0, .ref 1)] [] (am_wI h2 1 4 (((h2.1 1 4) + (Int32.ofInt 1)))) from ⟨rfl, ex_1 l2.1, ex_1 l2.1, rfl, rfl, ?_⟩)
      rw [y4, xw_i1]
      have l3 := ct1_4 (v := nI (p + 1)) l2
      have w2 : (am_wI h2 1 4 (nI (p + 1))).1 1 2 = Int32.ofInt 3 := by rw [em_wn h2 _ (by omega)]; exact y2
      have w3 : (am_wI h2 1 4 (nI (p + 1))).1 1 3 = nI p := by rw [em_wn h2 _ (by omega)]; exact y3
      have w4 : (am_wI h2 1 4 (nI (p + 1))).1 1 4 = nI (p + 1) := em_we h2 1 4 _
      generalize am_wI h2 1 4 (nI (p + 1)) = h3 at l3 w2 w3 w4 ⊢
      exact am_goX 1 (show (none : Option FieldType) = none ∧ h3.2.2.2.2 = 175 ∧ _ from ⟨rfl, ex_175 l3.1, hQ h3 l3 (by unfold c_p; rw [k1, k2, es]; exact ⟨w3, w2, w4, fun w => absurd w (by decide), fun w => absurd w (by decide)⟩)⟩)
  have k114 : pz_let (T p) = false → pz_S 1 none am_r18 4 Q 114 [(0, .ref 1)] [] h1 := by
    intro ul
    refine am_goX 2 (show am_sh h1 1 = some (7, 0) ∧ pz_S 1 none am_r18 4 Q 118 [(0, .ref 1)] [am_rf (h1.2.2.1 1 0)] h1 from ⟨ex_1 l1.1, ?_⟩)
    rw [ex_r1_0 l1.1]
    refine am_goX 3 (show am_sh h1 1 = some (7, 0) ∧ ∃ jj nn : Nat, am_sh h1 2 = some (12, nn) ∧ jj < nn ∧ (h1.1 1 3) = nI jj ∧ pz_S 1 none am_r18 4 Q 123 [(0, .ref 1)] [.int (h1.1 2 jj)] h1 from ⟨ex_1 l1.1, p, 1000, ex_2 l1.1, by omega, x3, ?_⟩)
    rw [l1.2.2.2.1 p hps]
    refine am_goX 2 (show ((T p) < (Int8.ofInt 48).toInt32 → pz_S 1 none am_r18 4 Q 149 [(0, .ref 1)] [] h1) ∧ (¬ ((T p) < (Int8.ofInt 48).toInt32) → pz_S 1 none am_r18 4 Q 128 [(0, .ref 1)] [] h1) from ⟨fun hc => ?_, fun hc => ?_⟩)
    · exact k149 ul (by unfold pz_dig; rw [decide_eq_true hc]; rfl)
    have hc1 := hc
    clear hc
    refine am_goX 2 (show am_sh h1 1 = some (7, 0) ∧ pz_S 1 none am_r18 4 Q 132 [(0, .ref 1)] [am_rf (h1.2.2.1 1 0)] h1 from ⟨ex_1 l1.1, ?_⟩)
    rw [ex_r1_0 l1.1]
    refine am_goX 3 (show am_sh h1 1 = some (7, 0) ∧ ∃ jj nn : Nat, am_sh h1 2 = some (12, nn) ∧ jj < nn ∧ (h1.1 1 3) = nI jj ∧ pz_S 1 none am_r18 4 Q 137 [(0, .ref 1)] [.int (h1.1 2 jj)] h1 from ⟨ex_1 l1.1, p, 1000, ex_2 l1.1, by omega, x3, ?_⟩)
    rw [l1.2.2.2.1 p hps]
    refine am_goX 2 (show ((Int8.ofInt 57).toInt32 < (T p) → pz_S 1 none am_r18 4 Q 149 [(0, .ref 1)] [] h1) ∧ (¬ ((Int8.ofInt 57).toInt32 < (T p)) → pz_S 1 none am_r18 4 Q 142 [(0, .ref 1)] [] h1) from ⟨fun hc => ?_, fun hc => ?_⟩)
    · exact k149 ul (by unfold pz_dig; rw [decide_eq_true hc, Bool.not_true, Bool.and_false])
    have ud : pz_dig (T p) = true := by
      unfold pz_dig
      rw [decide_eq_false hc1, decide_eq_false hc]
      rfl
    refine am_goX 2 (show am_rc h1 1 7 ∧ 0 ≤ 8 ∧ h1.2.2.2.2 + am_al 20 ≤ 175 ∧ am_call am_cod 4 20 [.ref 1] h1 (fun vv h' => pz_S 1 none am_r18 4 Q 146 [(0, .ref 1)] (vv.toList ++ []) h') from ⟨Or.inl ⟨by decide, ex_1 l1.1⟩, by decide, ex_lim l1.1 rfl, am_call.up (cs_num hz (by omega) l1 x3 x4 (fun h2 l2 y3 y4 yw y2 => ?_)) (by decide)⟩)
    exact am_goX 2 (show (none : Option FieldType) = none ∧ h2.2.2.2.2 = 175 ∧ _ from ⟨rfl, ex_175 l2.1, hQ h2 l2 (c_pn hps ul ud y3 y4 yw y2)⟩)
  refine am_goX 2 (show am_sh h1 1 = some (7, 0) ∧ pz_S 1 none am_r18 4 Q 83 [(0, .ref 1)] [am_rf (h1.2.2.1 1 0)] h1 from ⟨ex_1 l1.1, ?_⟩)
  rw [ex_r1_0 l1.1]
  refine am_goX 3 (show am_sh h1 1 = some (7, 0) ∧ ∃ jj nn : Nat, am_sh h1 2 = some (12, nn) ∧ jj < nn ∧ (h1.1 1 3) = nI jj ∧ pz_S 1 none am_r18 4 Q 88 [(0, .ref 1)] [.int (h1.1 2 jj)] h1 from ⟨ex_1 l1.1, p, 1000, ex_2 l1.1, by omega, x3, ?_⟩)
  rw [l1.2.2.2.1 p hps]
  refine am_goX 2 (show ((T p) < (Int8.ofInt 97).toInt32 → pz_S 1 none am_r18 4 Q 114 [(0, .ref 1)] [] h1) ∧ (¬ ((T p) < (Int8.ofInt 97).toInt32) → pz_S 1 none am_r18 4 Q 93 [(0, .ref 1)] [] h1) from ⟨fun hc => ?_, fun hc => ?_⟩)
  · exact k114 (by unfold pz_let; rw [decide_eq_true hc]; rfl)
  have hc1 := hc
  clear hc
  refine am_goX 2 (show am_sh h1 1 = some (7, 0) ∧ pz_S 1 none am_r18 4 Q 97 [(0, .ref 1)] [am_rf (h1.2.2.1 1 0)] h1 from ⟨ex_1 l1.1, ?_⟩)
  rw [ex_r1_0 l1.1]
  refine am_goX 3 (show am_sh h1 1 = some (7, 0) ∧ ∃ jj nn : Nat, am_sh h1 2 = some (12, nn) ∧ jj < nn ∧ (h1.1 1 3) = nI jj ∧ pz_S 1 none am_r18 4 Q 102 [(0, .ref 1)] [.int (h1.1 2 jj)] h1 from ⟨ex_1 l1.1, p, 1000, ex_2 l1.1, by omega, x3, ?_⟩)
  rw [l1.2.2.2.1 p hps]
  refine am_goX 2 (show ((Int8.ofInt 122).toInt32 < (T p) → pz_S 1 none am_r18 4 Q 114 [(0, .ref 1)] [] h1) ∧ (¬ ((Int8.ofInt 122).toInt32 < (T p)) → pz_S 1 none am_r18 4 Q 107 [(0, .ref 1)] [] h1) from ⟨fun hc => ?_, fun hc => ?_⟩)
  · exact k114 (by unfold pz_let; rw [decide_eq_true hc, Bool.not_true, Bool.and_false])
  have ul : pz_let (T p) = true := by
    unfold pz_let
    rw [decide_eq_false hc1, decide_eq_false hc]
    rfl
  refine am_goX 2 (show am_rc h1 1 7 ∧ 0 ≤ 8 ∧ h1.2.2.2.2 + am_al 19 ≤ 175 ∧ am_call am_cod 4 19 [.ref 1] h1 (fun vv h' => pz_S 1 none am_r18 4 Q 111 [(0, .ref 1)] (vv.toList ++ []) h') from ⟨Or.inl ⟨by decide, ex_1 l1.1⟩, by decide, ex_lim l1.1 rfl, am_call.up (cs_word hz (by omega) l1 x3 x4 (fun h2 l2 y3 y4 yw y2 => ?_)) (by decide)⟩)
  exact am_goX 2 (show (none : Option FieldType) = none ∧ h2.2.2.2.2 = 175 ∧ _ from ⟨rfl, ex_175 l2.1, hQ h2 l2 (c_pw hps ul y3 y4 yw y2)⟩)
theorem ez_gt (hps : p < sz) : p + 1 ≤ ez T sz p ∧ ez T sz p ≤ sz := by
  cases hl : pz_let (T p) with
  | true =>
    rw [(cs_kw hps hl).2.1, tk_go_y hps hl]
    have := tk_ge pz_let T (show p + 1 ≤ sz by omega)
    omega
  | false =>
    cases hd : pz_dig (T p) with
    | true =>
      rw [(cs_kn hps hl hd).2.1, tk_go_y hps hd]
      have := tk_ge pz_dig T (show p + 1 ≤ sz by omega)
      omega
    | false =>
      rw [(cs_ks hps hl hd).2.1]
      omega
theorem tk_plS (hps : tk_pl T sz a < sz) : tk_pl T sz (a + 1) = tk_go tk_bl T sz (ez T sz (tk_pl T sz a)) := by
  show tk_go tk_bl T sz (tk_en T sz (tk_pl T sz a)) = _
  unfold ez
  rw [tk_blt.mpr hps]
  rfl
theorem kz_lt (e : ¬ kz T sz p = 0) : p < sz := by
  rcases Nat.lt_or_ge p sz with w | w
  · exact w
  · exact absurd (cs_ke (T := T) (by omega)).1 e
theorem c_step (l : c_t T sz a h) (hk : ¬ (tt T sz a).1 = 0) (hQ : ∀ h1, c_t T sz (a + 1) h1 → fr1 h h1 → Q none h1) : am_call am_cod 5 18 [.ref 1] h Q := by
  obtain ⟨⟨hP, hz, hch⟩, l1, l2, l3, l4, l5, l6⟩ := l
  have hps : tk_pl T sz a < sz := kz_lt hk
  have he := ez_gt (T := T) hps
  have hg := tk_ge tk_bl T he.2
  refine cs_st (h0 := h) hz hch he.2 ⟨hP, fr1_refl h, l1, l2, rfl⟩ l6.2.2.1 (fun h1 m c => hQ h1 ⟨⟨m.1, hz, hch⟩, m.2.2.1, m.2.2.2.1, m.2.2.2.2.trans l3, ?_, ?_, ?_⟩ m.2.1)
  · rw [tk_plS hps]
    omega
  · rw [tk_plS hps]
    omega
  · rw [tk_plS hps]
    exact c
theorem c_begin (hP : ex_P h) (hz : sz ≤ 1000) (hch : ∀ q, q < sz → 0 ≤ (T q).toInt ∧ (T q).toInt ≤ 126) (l1 : h.1 1 1 = nI sz) (l2 : ∀ q, q < sz → h.1 2 q = T q) (hQ : ∀ h1, c_t T sz 0 h1 → fr1 h h1 → Q none h1) : am_call am_cod 6 17 [.ref 1] h Q := by
  refine pz_call (n := 17) (nL := 1) (rt := none) (rows := am_r17) (d := 5) (by decide +kernel) (by decide +kernel) rfl (by funext pc; rfl) (ex_175 hP) (by exact Nat.le_of_ble_eq_true rfl) ?_
  refine am_goX 3 (show am_sh h 1 = some (7, 0) ∧ narrow (am_fty 7 7) (.int ((Int32.ofInt 0))) = .int ((Int32.ofInt 0)) ∧ fits (am_fty 7 7) (.int ((Int32.ofInt 0))) = true ∧ pz_S 1 none am_r17 5 Q 5 [(0, .ref 1)] [] (am_wI h 1 7 ((Int32.ofInt 0))) from ⟨ex_1 hP, rfl, rfl, ?_⟩)
  have f1 : fr1 h (am_wI h 1 7 (Int32.ofInt 0)) := ⟨rfl, fun o k ho => ⟨em_wn h _ (by omega), rfl⟩⟩
  have m1 : (am_wI h 1 7 (Int32.ofInt 0)).1 1 1 = nI sz := by rw [em_wn h _ (by omega)]; exact l1
  have m2 : ∀ q, q < sz → (am_wI h 1 7 (Int32.ofInt 0)).1 2 q = T q := fun q hq => by rw [em_wn h _ (by omega)]; exact l2 q hq
  have m3 : (am_wI h 1 7 (Int32.ofInt 0)).1 1 7 = 0 := em_we h 1 7 _
  have hP1 : ex_P (am_wI h 1 7 (Int32.ofInt 0)) := hP
  generalize am_wI h 1 7 (Int32.ofInt 0) = h1 at f1 m1 m2 m3 hP1 ⊢
  refine am_goX 3 (show am_sh h1 1 = some (7, 0) ∧ narrow (am_fty 7 4) (.int ((Int32.ofInt 0))) = .int ((Int32.ofInt 0)) ∧ fits (am_fty 7 4) (.int ((Int32.ofInt 0))) = true ∧ pz_S 1 none am_r17 5 Q 10 [(0, .ref 1)] [] (am_wI h1 1 4 ((Int32.ofInt 0))) from ⟨ex_1 hP1, rfl, rfl, ?_⟩)
  have l3 := ct1_4 (h0 := h1) (v := Int32.ofInt 0) (⟨hP1, fr1_refl h1, m1, m2, rfl⟩ : ctp h1 sz T h1)
  have m4 : (am_wI h1 1 4 (Int32.ofInt 0)).1 1 4 = nI 0 := em_we h1 1 4 _
  generalize am_wI h1 1 4 (Int32.ofInt 0) = h2 at l3 m4 ⊢
  refine am_goX 2 (show am_rc h2 1 7 ∧ 0 ≤ 8 ∧ h2.2.2.2.2 + am_al 18 ≤ 175 ∧ am_call am_cod 5 18 [.ref 1] h2 (fun vv h' => pz_S 1 none am_r17 5 Q 14 [(0, .ref 1)] (vv.toList ++ []) h') from ⟨Or.inl ⟨by decide, ex_1 l3.1⟩, by decide, ex_lim l3.1 rfl, cs_st hz hch (Nat.zero_le _) l3 m4 (fun h3 m c => ?_)⟩)
  have hg := tk_ge tk_bl T (Nat.zero_le sz)
  exact am_goX 1 (show (none : Option FieldType) = none ∧ h3.2.2.2.2 = 175 ∧ _ from ⟨rfl, ex_175 m.1, hQ h3 ⟨⟨m.1, hz, hch⟩, m.2.2.1, m.2.2.2.1, m.2.2.2.2.trans m3, Nat.zero_le _, hg.2, c⟩ (fr1_tr f1 m.2.1)⟩)
end
section
/-! WORDS, SIGNS, NUMBERS AT HAND -/
variable {h h0 : am_H} {sz a c : Nat} {T : Nat → Int32} {Q : am_Q} {s : sp_S}
theorem kz_v (T : Nat → Int32) (sz p : Nat) : kz T sz p = 0 ∨ kz T sz p = 1 ∨ kz T sz p = 2 ∨ kz T sz p = 3 ∨ kz T sz p = 4 := by
  by_cases hps : p < sz
  · cases hl : pz_let (T p) with
    | true =>
      rw [(cs_kw hps hl).1]
      cases Nat.blt 8 (tk_go pz_let T sz p - p) with
      | true => exact Or.inr (Or.inr (Or.inr (Or.inr rfl)))
      | false => exact Or.inr (Or.inl rfl)
    | false =>
      cases hd : pz_dig (T p) with
      | true =>
        rw [(cs_kn hps hl hd).1]
        cases Nat.blt 4 (tk_go pz_dig T sz p - p) with
        | true => exact Or.inr (Or.inr (Or.inr (Or.inr rfl)))
        | false => exact Or.inr (Or.inr (Or.inl rfl))
      | false =>
        rw [(cs_ks hps hl hd).1]
        cases tk_sn (T p) with
        | true => exact Or.inr (Or.inr (Or.inr (Or.inl rfl)))
        | false => exact Or.inr (Or.inr (Or.inr (Or.inr rfl)))
  · exact Or.inl (cs_ke hps).1
theorem kz_3 {p : Nat} (e : kz T sz p = 3) : tk_vl T sz p = (T p).toInt64 := by
  have hps : p < sz := kz_lt (by rw [e]; decide)
  cases hl : pz_let (T p) with
  | true =>
    rw [(cs_kw hps hl).1] at e
    cases hb : Nat.blt 8 (tk_go pz_let T sz p - p) with
    | true => rw [hb] at e; exact absurd e (by decide)
    | false => rw [hb] at e; exact absurd e (by decide)
  | false =>
    cases hd : pz_dig (T p) with
    | true =>
      rw [(cs_kn hps hl hd).1] at e
      cases hb : Nat.blt 4 (tk_go pz_dig T sz p - p) with
      | true => rw [hb] at e; exact absurd e (by decide)
      | false => rw [hb] at e; exact absurd e (by decide)
    | false => exact (cs_ks hps hl hd).2.2
theorem ck_1 (T : Nat → Int32) (sz a : Nat) : decide (ck (tt T sz a).1 = Int32.ofInt 1) = sp_k (tt T sz) a 1 := by
  unfold sp_k
  show decide (ck (kz T sz (tk_pl T sz a)) = Int32.ofInt 1) = decide (kz T sz (tk_pl T sz a) = 1)
  rcases kz_v T sz (tk_pl T sz a) with e | e | e | e | e <;> rw [e] <;> decide
theorem ck_2 (T : Nat → Int32) (sz a : Nat) : decide (ck (tt T sz a).1 = Int32.ofInt 2) = sp_k (tt T sz) a 2 := by
  unfold sp_k
  show decide (ck (kz T sz (tk_pl T sz a)) = Int32.ofInt 2) = decide (kz T sz (tk_pl T sz a) = 2)
  rcases kz_v T sz (tk_pl T sz a) with e | e | e | e | e <;> rw [e] <;> decide
theorem ck_3 (T : Nat → Int32) (sz a : Nat) : decide (ck (tt T sz a).1 = Int32.ofInt 3) = sp_k (tt T sz) a 3 := by
  unfold sp_k
  show decide (ck (kz T sz (tk_pl T sz a)) = Int32.ofInt 3) = decide (kz T sz (tk_pl T sz a) = 3)
  rcases kz_v T sz (tk_pl T sz a) with e | e | e | e | e <;> rw [e] <;> decide
theorem ck_4 (T : Nat → Int32) (sz a : Nat) : decide (ck (tt T sz a).1 = Int32.ofInt 4) = sp_k (tt T sz) a 0 := by
  unfold sp_k
  show decide (ck (kz T sz (tk_pl T sz a)) = Int32.ofInt 4) = decide (kz T sz (tk_pl T sz a) = 0)
  rcases kz_v T sz (tk_pl T sz a) with e | e | e | e | e <;> rw [e] <;> decide
theorem c_kd (l : c_t T sz a h) : h.1 1 2 = ck (tt T sz a).1 := l.2.2.2.2.2.2.2.1
theorem c_pl (l : c_t T sz a h) : h.1 1 3 = nI (tk_pl T sz a) := l.2.2.2.2.2.2.1
theorem sp_kt {τ : sp_T} {k : Int32} (e : sp_k τ a k = true) : (τ a).1 = k := of_decide_eq_true e
theorem c_wd (l : c_t T sz a h) (e : sp_k (tt T sz) a 1 = true) : cwk (tt T sz a).2.1 (h.2.1 1 5) := l.2.2.2.2.2.2.2.2.2.1 (sp_kt e)
theorem c_nm (l : c_t T sz a h) (e : sp_k (tt T sz) a 2 = true) : ∃ D : Nat, D ≤ 9999 ∧ sp_v (tt T sz) a = nI D ∧ h.1 1 6 = nI D := by
  obtain ⟨D, d1, d2, d3⟩ := l.2.2.2.2.2.2.2.2.2.2 (sp_kt e)
  refine ⟨D, d1, ?_, d3⟩
  show (tk_vl T sz (tk_pl T sz a)).toInt32 = nI D
  rw [d2]
  exact Int64.toInt32_ofNat'
theorem c_nv (l : c_t T sz a h) (e : sp_k (tt T sz) a 2 = true) : h.1 1 6 = sp_v (tt T sz) a := by
  obtain ⟨D, d1, d2, d3⟩ := c_nm l e
  rw [d2, d3]
theorem c_P (l : c_t T sz a h) : ex_P h := l.1.1
/-- the letters of a String, a byte each -/
def cpk (q : Nat) : Nat → Int64
  | 0 => Int64.ofNat 0
  | j + 1 => ((cpk q j) <<< (((Int8.ofInt 8).toInt32).toInt64 &&& 63)) ||| (st_b q j).toInt64
def cdg (l : List Nat) (i : Nat) : Nat := l.getD i 1
theorem cdg_v (l : List Nat) (hl : l.all (fun x => Nat.ble 1 x && Nat.ble x 26) = true) (n : Nat) : bsv (cdg l) n := by
  intro i _
  unfold cdg
  rw [List.getD_eq_getElem?_getD]
  cases hg : l[i]? with
  | none => exact ⟨by decide, by decide⟩
  | some x =>
    have w := List.all_eq_true.mp hl x (List.mem_of_getElem? hg)
    rw [Bool.and_eq_true] at w
    exact ⟨Nat.le_of_ble_eq_true w.1, Nat.le_of_ble_eq_true w.2⟩
theorem wq_1 : cwk 1119812451 (cpk 1 (am_sln.getD 1 0)) := ⟨6, cdg [16, 5, 18, 19, 15, 14], by decide, cdg_v _ (by decide) _, by decide +kernel, by decide +kernel⟩
theorem wq_3 : cwk 30596128 (cpk 3 (am_sln.getD 3 0)) := ⟨5, cdg [16, 12, 1, 9, 14], by decide, cdg_v _ (by decide) _, by decide +kernel, by decide +kernel⟩
theorem wq_4 : cwk 43567634 (cpk 4 (am_sln.getD 4 0)) := ⟨5, cdg [23, 9, 4, 15, 23], by decide, cdg_v _ (by decide) _, by decide +kernel, by decide +kernel⟩
theorem wq_5 : cwk 37900956 (cpk 5 (am_sln.getD 5 0)) := ⟨5, cdg [20, 8, 9, 5, 6], by decide, cdg_v _ (by decide) _, by decide +kernel, by decide +kernel⟩
theorem wq_6 : cwk 488058286 (cpk 6 (am_sln.getD 6 0)) := ⟨6, cdg [7, 1, 15, 12, 5, 18], by decide, cdg_v _ (by decide) _, by decide +kernel, by decide +kernel⟩
theorem wq_7 : cwk 17003 (cpk 7 (am_sln.getD 7 0)) := ⟨3, cdg [12, 15, 20], by decide, cdg_v _ (by decide) _, by decide +kernel, by decide +kernel⟩
theorem wq_8 : cwk 10492554 (cpk 8 (am_sln.getD 8 0)) := ⟨5, cdg [5, 22, 5, 14, 20], by decide, cdg_v _ (by decide) _, by decide +kernel, by decide +kernel⟩
theorem wq_9 : cwk 569 (cpk 9 (am_sln.getD 9 0)) := ⟨2, cdg [15, 14], by decide, cdg_v _ (by decide) _, by decide +kernel, by decide +kernel⟩
theorem wq_10 : cwk 26498531 (cpk 10 (am_sln.getD 10 0)) := ⟨5, cdg [14, 5, 5, 4, 19], by decide, cdg_v _ (by decide) _, by decide +kernel, by decide +kernel⟩
theorem wq_11 : cwk 6400279 (cpk 11 (am_sln.getD 11 0)) := ⟨5, cdg [3, 15, 13, 5, 19], by decide, cdg_v _ (by decide) _, by decide +kernel, by decide +kernel⟩
theorem wq_12 : cwk 982151 (cpk 12 (am_sln.getD 12 0)) := ⟨4, cdg [19, 14, 15, 23], by decide, cdg_v _ (by decide) _, by decide +kernel, by decide +kernel⟩
theorem wq_13 : cwk 375310 (cpk 13 (am_sln.getD 13 0)) := ⟨4, cdg [7, 15, 5, 19], by decide, cdg_v _ (by decide) _, by decide +kernel, by decide +kernel⟩
theorem wq_14 : cwk 20763 (cpk 14 (am_sln.getD 14 0)) := ⟨3, cdg [15, 6, 6], by decide, cdg_v _ (by decide) _, by decide +kernel, by decide +kernel⟩
theorem wq_15 : cwk 1172060 (cpk 15 (am_sln.getD 15 0)) := ⟨4, cdg [23, 5, 5, 11], by decide, cdg_v _ (by decide) _, by decide +kernel, by decide +kernel⟩
theorem wq_16 : cwk 18002 (cpk 16 (am_sln.getD 16 0)) := ⟨3, cdg [13, 5, 20], by decide, cdg_v _ (by decide) _, by decide +kernel, by decide +kernel⟩
theorem wq_17 : cwk 43523993 (cpk 17 (am_sln.getD 17 0)) := ⟨5, cdg [23, 8, 9, 20, 5], by decide, cdg_v _ (by decide) _, by decide +kernel, by decide +kernel⟩
theorem wq_18 : cwk 19741 (cpk 18 (am_sln.getD 18 0)) := ⟨3, cdg [14, 15, 20], by decide, cdg_v _ (by decide) _, by decide +kernel, by decide +kernel⟩
theorem wq_19 : cwk 1891 (cpk 19 (am_sln.getD 19 0)) := ⟨3, cdg [1, 14, 4], by decide, cdg_v _ (by decide) _, by decide +kernel, by decide +kernel⟩
theorem wq_20 : cwk 573 (cpk 20 (am_sln.getD 20 0)) := ⟨2, cdg [15, 18], by decide, cdg_v _ (by decide) _, by decide +kernel, by decide +kernel⟩
theorem wq_21 : cwk 5538 (cpk 21 (am_sln.getD 21 0)) := ⟨3, cdg [4, 1, 25], by decide, cdg_v _ (by decide) _, by decide +kernel, by decide +kernel⟩
theorem wq_22 : cwk 17003 (cpk 22 (am_sln.getD 22 0)) := ⟨3, cdg [12, 15, 20], by decide, cdg_v _ (by decide) _, by decide +kernel, by decide +kernel⟩
theorem wq_23 : cwk 2083 (cpk 23 (am_sln.getD 23 0)) := ⟨3, cdg [1, 19, 11], by decide, cdg_v _ (by decide) _, by decide +kernel, by decide +kernel⟩
theorem c_isw_l {q : Nat} (hP : ex_P h) (hq : q < 26) (hend : pz_S 5 (some .boolean) am_r44 4 Q 43 [(4, .int (nI (am_sln.getD q 0))), (2, .long (cpk q (am_sln.getD q 0))), (0, .ref 1), (1, .ref (4000000 + q))] [] h) : ∀ (m i : Nat), i + m = am_sln.getD q 0 → pz_S 5 (some .boolean) am_r44 4 Q 15 [(4, .int (nI i)), (2, .long (cpk q i)), (0, .ref 1), (1, .ref (4000000 + q))] [] h := by
  have hlt := st_lt q
  intro m
  induction m with
  | zero =>
    intro i hi
    refine am_goX 3 (show am_rc h (4000000 + q) 20 ∧ 1 ≤ 8 ∧ h.2.2.2.2 + am_al 24 ≤ 175 ∧ am_call am_cod 4 24 [.ref (4000000 + q)] h (fun vv h' => pz_S 5 (some .boolean) am_r44 4 Q 21 [(4, .int (nI i)), (2, .long (cpk q i)), (0, .ref 1), (1, .ref (4000000 + q))] (vv.toList ++ [.int (nI i)]) h') from ⟨st_rc hq, by decide, ex_lim hP rfl, am_call.up (st_len hq hP ?_) (by decide)⟩)
    refine am_goX 1 (show ((nI (am_sln.getD q 0)) ≤ (nI i) → pz_S 5 (some .boolean) am_r44 4 Q 43 [(4, .int (nI i)), (2, .long (cpk q i)), (0, .ref 1), (1, .ref (4000000 + q))] [] h) ∧ (¬ ((nI (am_sln.getD q 0)) ≤ (nI i)) → pz_S 5 (some .boolean) am_r44 4 Q 24 [(4, .int (nI i)), (2, .long (cpk q i)), (0, .ref 1), (1, .ref (4000000 + q))] [] h) from ⟨fun hc => ?_, fun hc => ?_⟩)
    · have ei : i = am_sln.getD q 0 := by omega
      rw [ei]
      exact hend
    · exact absurd (nI_le (by omega) (by omega)) hc
  | succ m ih =>
    intro i hi
    refine am_goX 3 (show am_rc h (4000000 + q) 20 ∧ 1 ≤ 8 ∧ h.2.2.2.2 + am_al 24 ≤ 175 ∧ am_call am_cod 4 24 [.ref (4000000 + q)] h (fun vv h' => pz_S 5 (some .boolean) am_r44 4 Q 21 [(4, .int (nI i)), (2, .long (cpk q i)), (0, .ref 1), (1, .ref (4000000 + q))] (vv.toList ++ [.int (nI i)]) h') from ⟨st_rc hq, by decide, ex_lim hP rfl, am_call.up (st_len hq hP ?_) (by decide)⟩)
    refine am_goX 1 (show ((nI (am_sln.getD q 0)) ≤ (nI i) → pz_S 5 (some .boolean) am_r44 4 Q 43 [(4, .int (nI i)), (2, .long (cpk q i)), (0, .ref 1), (1, .ref (4000000 + q))] [] h) ∧ (¬ ((nI (am_sln.getD q 0)) ≤ (nI i)) → pz_S 5 (some .boolean) am_r44 4 Q 24 [(4, .int (nI i)), (2, .long (cpk q i)), (0, .ref 1), (1, .ref (4000000 + q))] [] h) from ⟨fun hc => ?_, fun hc => ?_⟩)
    · rw [nI_leI (by omega) (by omega)] at hc
      omega
    clear hc
    refine am_goX 6 (show am_rc h (4000000 + q) 20 ∧ 2 ≤ 8 ∧ h.2.2.2.2 + am_al 45 ≤ 175 ∧ am_call am_cod 4 45 [.ref (4000000 + q), .int (nI i)] h (fun vv h' => pz_S 5 (some .boolean) am_r44 4 Q 34 [(4, .int (nI i)), (2, .long (cpk q i)), (0, .ref 1), (1, .ref (4000000 + q))] (vv.toList ++ [.long (((cpk q i)) <<< (((Int8.ofInt 8).toInt32).toInt64 &&& 63))]) h') from ⟨st_rc hq, by decide, ex_lim hP rfl, st_ch hq (by omega) hP ?_⟩)
    refine am_goX 5 (show 2 + 1 < 5 ∧ 4 < 5 ∧ pz_S 5 (some .boolean) am_r44 4 Q 15 [(4, .int ((nI i) + Int32.ofInt 1)), (2, .long (((((cpk q i)) <<< (((Int8.ofInt 8).toInt32).toInt64 &&& 63))) ||| (((st_b q i)).toInt64))), (0, .ref 1), (1, .ref (4000000 + q))] [] h from ⟨by decide, by decide, ?_⟩)
    rw [xw_i1]
    exact ih (i + 1) (by omega)
theorem c_isw {q : Nat} {w : Int64} (hq : q < 26) (hw : cwk w (cpk q (am_sln.getD q 0))) (l : c_t T sz a h) (hQ : Q (some (.int (pz_b (sp_w (tt T sz) a w)))) h) : am_call am_cod 5 44 [.ref 1, .ref (4000000 + q)] h Q := by
  have hP := c_P l
  have hk := ck_1 T sz a
  refine pz_call (n := 44) (nL := 5) (rt := (some .boolean)) (rows := am_r44) (d := 4) (by decide +kernel) (by decide +kernel) rfl (by funext pc; rfl) (ex_175 hP) (by exact Nat.le_of_ble_eq_true rfl) ?_
  refine am_goX 3 (show am_sh h 1 = some (7, 0) ∧ pz_S 5 (some .boolean) am_r44 4 Q 5 [(0, .ref 1), (1, .ref (4000000 + q))] [.int (Int32.ofInt 1), .int (h.1 1 2)] h from ⟨ex_1 hP, ?_⟩)
  rw [c_kd l]
  refine am_goX 1 (show ((ck (tt T sz a).1) = (Int32.ofInt 1) → pz_S 5 (some .boolean) am_r44 4 Q 10 [(0, .ref 1), (1, .ref (4000000 + q))] [] h) ∧ (¬ ((ck (tt T sz a).1) = (Int32.ofInt 1)) → pz_S 5 (some .boolean) am_r44 4 Q 8 [(0, .ref 1), (1, .ref (4000000 + q))] [] h) from ⟨fun hc => ?_, fun hc => ?_⟩)
  rotate_left
  · rw [decide_eq_false hc] at hk
    have e : sp_w (tt T sz) a w = false := by
      unfold sp_w
      rw [← hk]
      rfl
    rw [e] at hQ
    exact am_goX 2 (show (∃ ty, (some .boolean) = some ty ∧ narrow ty (.int ((Int32.ofInt 0))) = .int ((Int32.ofInt 0))) ∧ h.2.2.2.2 = 175 ∧ _ from ⟨⟨.boolean, rfl, rfl⟩, ex_175 hP, hQ⟩)
  rw [decide_eq_true hc] at hk
  have hw1 := c_wd l hk.symm
  have ew : sp_w (tt T sz) a w = decide ((tt T sz a).2.1 = w) := by
    unfold sp_w
    rw [← hk]
    rfl
  rw [ew] at hQ
  refine am_goX 4 (show 2 + 1 < 5 ∧ 4 < 5 ∧ pz_S 5 (some .boolean) am_r44 4 Q 15 [(4, .int (Int32.ofInt 0)), (2, .long (Int64.ofNat 0)), (0, .ref 1), (1, .ref (4000000 + q))] [] h from ⟨by decide, by decide, ?_⟩)
  refine c_isw_l hP hq ?_ (am_sln.getD q 0) 0 (Nat.zero_add _)
  refine am_goX 5 (show am_sh h 1 = some (7, 0) ∧ (¬ (lg_cmp ((h.2.1 1 5)) ((cpk q (am_sln.getD q 0)))) = 0 → pz_S 5 (some .boolean) am_r44 4 Q 56 [(4, .int (nI (am_sln.getD q 0))), (2, .long (cpk q (am_sln.getD q 0))), (0, .ref 1), (1, .ref (4000000 + q))] [] h) ∧ (¬ ¬ (lg_cmp ((h.2.1 1 5)) ((cpk q (am_sln.getD q 0)))) = 0 → pz_S 5 (some .boolean) am_r44 4 Q 52 [(4, .int (nI (am_sln.getD q 0))), (2, .long (cpk q (am_sln.getD q 0))), (0, .ref 1), (1, .ref (4000000 + q))] [] h) from ⟨ex_1 hP, fun hc => ?_, fun hc => ?_⟩)
  · have e : decide ((tt T sz a).2.1 = w) = false := decide_eq_false (fun e => hc ((pz_cmp _ _).mpr ((cwk_inj hw1 hw).mp e)))
    rw [e] at hQ
    exact am_goX 2 (show (∃ ty, (some .boolean) = some ty ∧ narrow ty (.int ((Int32.ofInt 0))) = .int ((Int32.ofInt 0))) ∧ h.2.2.2.2 = 175 ∧ _ from ⟨⟨.boolean, rfl, rfl⟩, ex_175 hP, hQ⟩)
  · have e : decide ((tt T sz a).2.1 = w) = true := decide_eq_true ((cwk_inj hw1 hw).mpr ((pz_cmp _ _).mp (Decidable.not_not.mp hc)))
    rw [e] at hQ
    exact am_goX 3 (show (∃ ty, (some .boolean) = some ty ∧ narrow ty (.int ((Int32.ofInt 1))) = .int ((Int32.ofInt 1))) ∧ h.2.2.2.2 = 175 ∧ _ from ⟨⟨.boolean, rfl, rfl⟩, ex_175 hP, hQ⟩)
theorem c_iss {x : Int32} (l : c_t T sz a h) (hQ : Q (some (.int (pz_b (sp_s (tt T sz) a x)))) h) : am_call am_cod 1 62 [.ref 1, .int x] h Q := by
  have hP := c_P l
  have hk := ck_3 T sz a
  refine pz_call (n := 62) (nL := 2) (rt := (some .boolean)) (rows := am_r62) (d := 0) (by decide +kernel) (by decide +kernel) rfl (by funext pc; rfl) (ex_175 hP) (by exact Nat.le_of_ble_eq_true rfl) ?_
  refine am_goX 3 (show am_sh h 1 = some (7, 0) ∧ pz_S 2 (some .boolean) am_r62 0 Q 5 [(0, .ref 1), (1, .int x)] [.int (Int32.ofInt 3), .int (h.1 1 2)] h from ⟨ex_1 hP, ?_⟩)
  rw [c_kd l]
  refine am_goX 1 (show (¬ (ck (tt T sz a).1) = (Int32.ofInt 3) → pz_S 2 (some .boolean) am_r62 0 Q 25 [(0, .ref 1), (1, .int x)] [] h) ∧ (¬ ¬ (ck (tt T sz a).1) = (Int32.ofInt 3) → pz_S 2 (some .boolean) am_r62 0 Q 8 [(0, .ref 1), (1, .int x)] [] h) from ⟨fun hc => ?_, fun hc => ?_⟩)
  · rw [decide_eq_false hc] at hk
    have e : sp_s (tt T sz) a x = false := by
      unfold sp_s
      rw [← hk]
      rfl
    rw [e] at hQ
    exact am_goX 2 (show (∃ ty, (some .boolean) = some ty ∧ narrow ty (.int ((Int32.ofInt 0))) = .int ((Int32.ofInt 0))) ∧ h.2.2.2.2 = 175 ∧ _ from ⟨⟨.boolean, rfl, rfl⟩, ex_175 hP, hQ⟩)
  rw [decide_eq_true (Decidable.not_not.mp hc)] at hk
  have h3 : kz T sz (tk_pl T sz a) = 3 := sp_kt hk.symm
  have hps : tk_pl T sz a < sz := kz_lt (by rw [h3]; decide)
  have hz := l.1.2.1
  have ev : (tt T sz a).2.1 = (T (tk_pl T sz a)).toInt64 := kz_3 h3
  have ew : sp_s (tt T sz) a x = decide ((T (tk_pl T sz a)).toInt64 = x.toInt64) := by
    unfold sp_s
    rw [← hk, ev]
    rfl
  rw [ew] at hQ
  clear hc
  refine am_goX 2 (show am_sh h 1 = some (7, 0) ∧ pz_S 2 (some .boolean) am_r62 0 Q 12 [(0, .ref 1), (1, .int x)] [am_rf (h.2.2.1 1 0)] h from ⟨ex_1 hP, ?_⟩)
  rw [ex_r1_0 hP]
  refine am_goX 3 (show am_sh h 1 = some (7, 0) ∧ ∃ jj nn : Nat, am_sh h 2 = some (12, nn) ∧ jj < nn ∧ (h.1 1 3) = nI jj ∧ pz_S 2 (some .boolean) am_r62 0 Q 17 [(0, .ref 1), (1, .int x)] [.int (h.1 2 jj)] h from ⟨ex_1 hP, (tk_pl T sz a), 1000, ex_2 hP, by omega, c_pl l, ?_⟩)
  rw [l.2.2.1 _ hps]
  refine am_goX 2 (show (¬ (T (tk_pl T sz a)) = x → pz_S 2 (some .boolean) am_r62 0 Q 25 [(0, .ref 1), (1, .int x)] [] h) ∧ (¬ ¬ (T (tk_pl T sz a)) = x → pz_S 2 (some .boolean) am_r62 0 Q 21 [(0, .ref 1), (1, .int x)] [] h) from ⟨fun hc => ?_, fun hc => ?_⟩)
  · have e : decide ((T (tk_pl T sz a)).toInt64 = x.toInt64) = false := decide_eq_false (fun e => hc (Int32.toInt_inj.mp (by rw [← Int32.toInt_toInt64, e, Int32.toInt_toInt64])))
    rw [e] at hQ
    exact am_goX 2 (show (∃ ty, (some .boolean) = some ty ∧ narrow ty (.int ((Int32.ofInt 0))) = .int ((Int32.ofInt 0))) ∧ h.2.2.2.2 = 175 ∧ _ from ⟨⟨.boolean, rfl, rfl⟩, ex_175 hP, hQ⟩)
  · have e : decide ((T (tk_pl T sz a)).toInt64 = x.toInt64) = true := decide_eq_true (by rw [Decidable.not_not.mp hc])
    rw [e] at hQ
    exact am_goX 3 (show (∃ ty, (some .boolean) = some ty ∧ narrow ty (.int ((Int32.ofInt 1))) = .int ((Int32.ofInt 1))) ∧ h.2.2.2.2 = 175 ∧ _ from ⟨⟨.boolean, rfl, rfl⟩, ex_175 hP, hQ⟩)
def nm_f (w : Int64) : Nat → Nat → Int64 → Bool
  | 0, _, _ => true
  | m + 1, i, k => bif decide (st_b 2 i = (Int8.ofInt 32).toInt32) then (bif decide (k = w) then false else nm_f w m (i + 1) (Int64.ofNat 0)) else nm_f w m (i + 1) (((k) <<< (((Int8.ofInt 8).toInt32).toInt64 &&& 63)) ||| ((st_b 2 i).toInt64))
def nm_l : Nat → Nat → Int64 → List Int64
  | 0, _, _ => []
  | m + 1, i, k => bif decide (st_b 2 i = (Int8.ofInt 32).toInt32) then k :: nm_l m (i + 1) (Int64.ofNat 0) else nm_l m (i + 1) (((k) <<< (((Int8.ofInt 8).toInt32).toInt64 &&& 63)) ||| ((st_b 2 i).toInt64))
theorem nm_fl (w : Int64) : ∀ (m i : Nat) (k : Int64), nm_f w m i k = (nm_l m i k).all (fun x => !decide (x = w))
  | 0, _, _ => rfl
  | m + 1, i, k => by
    unfold nm_f nm_l
    cases decide (st_b 2 i = (Int8.ofInt 32).toInt32) with
    | true =>
      show (bif decide (k = w) then false else nm_f w m (i + 1) (Int64.ofNat 0)) = (!decide (k = w) && (nm_l m (i + 1) (Int64.ofNat 0)).all (fun x => !decide (x = w)))
      rw [nm_fl w m (i + 1) (Int64.ofNat 0)]
      cases decide (k = w) with
      | true => rfl
      | false => rfl
    | false => exact nm_fl w m (i + 1) _
theorem nm_ln : am_sln.getD 2 0 = 86 := by decide +kernel
theorem nm_ls : nm_l 86 0 (Int64.ofNat 0) = [cpk 1 (am_sln.getD 1 0), cpk 7 (am_sln.getD 7 0), cpk 8 (am_sln.getD 8 0), cpk 9 (am_sln.getD 9 0), cpk 10 (am_sln.getD 10 0), cpk 11 (am_sln.getD 11 0), cpk 12 (am_sln.getD 12 0), cpk 13 (am_sln.getD 13 0), cpk 21 (am_sln.getD 21 0), cpk 23 (am_sln.getD 23 0), cpk 3 (am_sln.getD 3 0), cpk 4 (am_sln.getD 4 0), cpk 5 (am_sln.getD 5 0), cpk 6 (am_sln.getD 6 0), cpk 18 (am_sln.getD 18 0), cpk 19 (am_sln.getD 19 0), cpk 20 (am_sln.getD 20 0)] := by decide +kernel
theorem cwk_d {v w v1 w1 : Int64} (h1 : cwk v w) (h2 : cwk v1 w1) : decide (w1 = w) = decide (v = v1) := by
  by_cases e : v = v1
  · rw [decide_eq_true e, decide_eq_true ((cwk_inj h1 h2).mp e).symm]
  · rw [decide_eq_false e, decide_eq_false (fun z => e ((cwk_inj h1 h2).mpr z.symm))]
theorem nm_ok {v w : Int64} (hw : cwk v w) : nm_f w 86 0 (Int64.ofNat 0) = sp_rs.all (fun x => !decide (v = x)) := by
  rw [nm_fl, nm_ls]
  unfold sp_rs
  simp only [List.all_cons, List.all_nil, cwk_d hw wq_1, cwk_d hw wq_7, cwk_d hw wq_8, cwk_d hw wq_9, cwk_d hw wq_10, cwk_d hw wq_11, cwk_d hw wq_12, cwk_d hw wq_13, cwk_d hw wq_21, cwk_d hw wq_23, cwk_d hw wq_3, cwk_d hw wq_4, cwk_d hw wq_5, cwk_d hw wq_6, cwk_d hw wq_18, cwk_d hw wq_19, cwk_d hw wq_20]
theorem c_isn_l {w : Int64} (hP : ex_P h) (ew : h.2.1 1 5 = w) : ∀ (m i : Nat) (k : Int64), i + m = 86 → Q (some (.int (pz_b (nm_f w m i k)))) h → pz_S 4 (some .boolean) am_r54 4 Q 14 [(3, .int (nI i)), (1, .long k), (0, .ref 1)] [] h := by
  intro m
  induction m with
  | zero =>
    intro i k hi hQ
    refine am_goX 3 (show am_rc h (4000000 + 2) 20 ∧ 1 ≤ 8 ∧ h.2.2.2.2 + am_al 24 ≤ 175 ∧ am_call am_cod 4 24 [.ref (4000000 + 2)] h (fun vv h' => pz_S 4 (some .boolean) am_r54 4 Q 20 [(3, .int (nI i)), (1, .long k), (0, .ref 1)] (vv.toList ++ [.int (nI i)]) h') from ⟨st_rc (by decide), by decide, ex_lim hP rfl, am_call.up (st_len (by decide) hP ?_) (by decide)⟩)
    rw [nm_ln]
    refine am_goX 1 (show ((nI 86) ≤ (nI i) → pz_S 4 (some .boolean) am_r54 4 Q 69 [(3, .int (nI i)), (1, .long k), (0, .ref 1)] [] h) ∧ (¬ ((nI 86) ≤ (nI i)) → pz_S 4 (some .boolean) am_r54 4 Q 23 [(3, .int (nI i)), (1, .long k), (0, .ref 1)] [] h) from ⟨fun hc => ?_, fun hc => ?_⟩)
    · exact am_goX 2 (show (∃ ty, (some .boolean) = some ty ∧ narrow ty (.int ((Int32.ofInt 1))) = .int ((Int32.ofInt 1))) ∧ h.2.2.2.2 = 175 ∧ _ from ⟨⟨.boolean, rfl, rfl⟩, ex_175 hP, hQ⟩)
    · exact absurd (nI_le (by omega) (by omega)) hc
  | succ m ih =>
    intro i k hi hQ
    refine am_goX 3 (show am_rc h (4000000 + 2) 20 ∧ 1 ≤ 8 ∧ h.2.2.2.2 + am_al 24 ≤ 175 ∧ am_call am_cod 4 24 [.ref (4000000 + 2)] h (fun vv h' => pz_S 4 (some .boolean) am_r54 4 Q 20 [(3, .int (nI i)), (1, .long k), (0, .ref 1)] (vv.toList ++ [.int (nI i)]) h') from ⟨st_rc (by decide), by decide, ex_lim hP rfl, am_call.up (st_len (by decide) hP ?_) (by decide)⟩)
    rw [nm_ln]
    refine am_goX 1 (show ((nI 86) ≤ (nI i) → pz_S 4 (some .boolean) am_r54 4 Q 69 [(3, .int (nI i)), (1, .long k), (0, .ref 1)] [] h) ∧ (¬ ((nI 86) ≤ (nI i)) → pz_S 4 (some .boolean) am_r54 4 Q 23 [(3, .int (nI i)), (1, .long k), (0, .ref 1)] [] h) from ⟨fun hc => ?_, fun hc => ?_⟩)
    · rw [nI_leI (by omega) (by omega)] at hc
      omega
    clear hc
    have hil : i < am_sln.getD 2 0 := by rw [nm_ln]; omega
    unfold nm_f at hQ
    refine am_goX 3 (show am_rc h (4000000 + 2) 20 ∧ 0 ≤ 8 ∧ h.2.2.2.2 + am_al 45 ≤ 175 ∧ am_call am_cod 4 45 [.ref (4000000 + 2), .int (nI i)] h (fun vv h' => pz_S 4 (some .boolean) am_r54 4 Q 29 [(3, .int (nI i)), (1, .long k), (0, .ref 1)] (vv.toList ++ []) h') from ⟨st_rc (by decide), by decide, ex_lim hP rfl, st_ch (by decide) hil hP ?_⟩)
    refine am_goX 2 (show ((st_b 2 i) = (Int8.ofInt 32).toInt32 → pz_S 4 (some .boolean) am_r54 4 Q 50 [(3, .int (nI i)), (1, .long k), (0, .ref 1)] [] h) ∧ (¬ ((st_b 2 i) = (Int8.ofInt 32).toInt32) → pz_S 4 (some .boolean) am_r54 4 Q 34 [(3, .int (nI i)), (1, .long k), (0, .ref 1)] [] h) from ⟨fun hc => ?_, fun hc => ?_⟩)
    · rw [decide_eq_true hc] at hQ
      refine am_goX 5 (show am_sh h 1 = some (7, 0) ∧ (¬ (lg_cmp (k) ((h.2.1 1 5))) = 0 → pz_S 4 (some .boolean) am_r54 4 Q 61 [(3, .int (nI i)), (1, .long k), (0, .ref 1)] [] h) ∧ (¬ ¬ (lg_cmp (k) ((h.2.1 1 5))) = 0 → pz_S 4 (some .boolean) am_r54 4 Q 59 [(3, .int (nI i)), (1, .long k), (0, .ref 1)] [] h) from ⟨ex_1 hP, fun hc => ?_, fun hc => ?_⟩)
      · rw [decide_eq_false (fun e => hc ((pz_cmp _ _).mpr (e.trans ew.symm)))] at hQ
        refine am_goX 4 (show 1 + 1 < 4 ∧ 3 < 4 ∧ pz_S 4 (some .boolean) am_r54 4 Q 14 [(3, .int ((nI i) + Int32.ofInt 1)), (1, .long (Int64.ofNat 0)), (0, .ref 1)] [] h from ⟨by decide, by decide, ?_⟩)
        rw [xw_i1]
        exact ih (i + 1) _ (by omega) hQ
      · rw [decide_eq_true (((pz_cmp _ _).mp (Decidable.not_not.mp hc)).trans ew)] at hQ
        exact am_goX 2 (show (∃ ty, (some .boolean) = some ty ∧ narrow ty (.int ((Int32.ofInt 0))) = .int ((Int32.ofInt 0))) ∧ h.2.2.2.2 = 175 ∧ _ from ⟨⟨.boolean, rfl, rfl⟩, ex_175 hP, hQ⟩)
    · rw [decide_eq_false hc] at hQ
      refine am_goX 6 (show am_rc h (4000000 + 2) 20 ∧ 2 ≤ 8 ∧ h.2.2.2.2 + am_al 45 ≤ 175 ∧ am_call am_cod 4 45 [.ref (4000000 + 2), .int (nI i)] h (fun vv h' => pz_S 4 (some .boolean) am_r54 4 Q 44 [(3, .int (nI i)), (1, .long k), (0, .ref 1)] (vv.toList ++ [.long ((k) <<< (((Int8.ofInt 8).toInt32).toInt64 &&& 63))]) h') from ⟨st_rc (by decide), by decide, ex_lim hP rfl, st_ch (by decide) hil hP ?_⟩)
      refine am_goX 6 (show 1 + 1 < 4 ∧ 3 < 4 ∧ pz_S 4 (some .boolean) am_r54 4 Q 14 [(3, .int ((nI i) + Int32.ofInt 1)), (1, .long ((((k) <<< (((Int8.ofInt 8).toInt32).toInt64 &&& 63))) ||| (((st_b 2 i)).toInt64))), (0, .ref 1)] [] h from ⟨by decide, by decide, ?_⟩)
      rw [xw_i1]
      exact ih (i + 1) _ (by omega) hQ
theorem c_isn (l : c_t T sz a h) (hQ : Q (some (.int (pz_b (sp_n (tt T sz) a)))) h) : am_call am_cod 5 54 [.ref 1] h Q := by
  have hP := c_P l
  have hk := ck_1 T sz a
  refine pz_call (n := 54) (nL := 4) (rt := (some .boolean)) (rows := am_r54) (d := 4) (by decide +kernel) (by decide +kernel) rfl (by funext pc; rfl) (ex_175 hP) (by exact Nat.le_of_ble_eq_true rfl) ?_
  refine am_goX 3 (show am_sh h 1 = some (7, 0) ∧ pz_S 4 (some .boolean) am_r54 4 Q 5 [(0, .ref 1)] [.int (Int32.ofInt 1), .int (h.1 1 2)] h from ⟨ex_1 hP, ?_⟩)
  rw [c_kd l]
  refine am_goX 1 (show ((ck (tt T sz a).1) = (Int32.ofInt 1) → pz_S 4 (some .boolean) am_r54 4 Q 10 [(0, .ref 1)] [] h) ∧ (¬ ((ck (tt T sz a).1) = (Int32.ofInt 1)) → pz_S 4 (some .boolean) am_r54 4 Q 8 [(0, .ref 1)] [] h) from ⟨fun hc => ?_, fun hc => ?_⟩)
  rotate_left
  · rw [decide_eq_false hc] at hk
    have e : sp_n (tt T sz) a = false := by
      unfold sp_n
      rw [← hk]
      rfl
    rw [e] at hQ
    exact am_goX 2 (show (∃ ty, (some .boolean) = some ty ∧ narrow ty (.int ((Int32.ofInt 0))) = .int ((Int32.ofInt 0))) ∧ h.2.2.2.2 = 175 ∧ _ from ⟨⟨.boolean, rfl, rfl⟩, ex_175 hP, hQ⟩)
  rw [decide_eq_true hc] at hk
  have hw1 := c_wd l hk.symm
  have ew : sp_n (tt T sz) a = nm_f (h.2.1 1 5) 86 0 (Int64.ofNat 0) := by
    unfold sp_n
    rw [← hk, nm_ok hw1]
    rfl
  rw [ew] at hQ
  refine am_goX 4 (show 1 + 1 < 4 ∧ 3 < 4 ∧ pz_S 4 (some .boolean) am_r54 4 Q 14 [(3, .int (Int32.ofInt 0)), (1, .long (Int64.ofNat 0)), (0, .ref 1)] [] h from ⟨by decide, by decide, ?_⟩)
  exact c_isn_l hP rfl 86 0 _ rfl hQ
theorem c_refuse {k : Int32} (l : c_t T sz a h) (hQ : Q (some (.int (Int32.ofInt 0))) (am_wI h 1 7 (sp_ft (tt T sz) a k))) : am_call am_cod 1 52 [.ref 1, .int k] h Q := by
  have hP := c_P l
  refine pz_call (n := 52) (nL := 2) (rt := (some .boolean)) (rows := am_r52) (d := 0) (by decide +kernel) (by decide +kernel) rfl (by funext pc; rfl) (ex_175 hP) (by exact Nat.le_of_ble_eq_true rfl) ?_
  refine am_goX 8 (show am_sh h 1 = some (7, 0) ∧ am_sh h 1 = some (7, 0) ∧ narrow (am_fty 7 7) (.int ((k + ((Int8.ofInt 16).toInt32 * (h.1 1 3))))) = .int ((k + ((Int8.ofInt 16).toInt32 * (h.1 1 3)))) ∧ fits (am_fty 7 7) (.int ((k + ((Int8.ofInt 16).toInt32 * (h.1 1 3))))) = true ∧ pz_S 2 (some .boolean) am_r52 0 Q 13 [(0, .ref 1), (1, .int k)] [] (am_wI h 1 7 ((k + ((Int8.ofInt 16).toInt32 * (h.1 1 3))))) from ⟨ex_1 hP, ex_1 hP, rfl, rfl, ?_⟩)
  rw [c_pl l]
  exact am_goX 2 (show (∃ ty, (some .boolean) = some ty ∧ narrow ty (.int ((Int32.ofInt 0))) = .int ((Int32.ofInt 0))) ∧ (am_wI h 1 7 (k + (Int8.ofInt 16).toInt32 * nI (tk_pl T sz a))).2.2.2.2 = 175 ∧ _ from ⟨⟨.boolean, rfl, rfl⟩, ex_175 hP, hQ⟩)
/-! THE CANTON BEING READ: in the objects c .. c + 10 -/
/-- snow: none ahead of its line; 28 days -/
def sp_28 (x : Int32) : Prop := x.toBitVec.toNat < 268435456
def sp_sK (x : Bool × Int32) : Prop := (x.1 = false → x.2 = 0) ∧ sp_28 x.2
def c_c (c : Nat) (C : sp_C) (h : am_H) : Prop :=
  (h.1 c 0 = nI C.1.1 ∧ C.1.1 ≤ 6 ∧ ∀ i, i < C.1.1 → cwk (C.1.2.1 i) (h.2.1 (c + 1) i) ∧ h.1 (c + 2) i = C.1.2.2.1 i ∧ h.1 (c + 3) i = C.1.2.2.2 i) ∧
  (h.1 c 4 = nI C.2.1.1 ∧ C.2.1.1 ≤ 5 ∧ ∀ i, i < C.2.1.1 → cwk (C.2.1.2.1 i) (h.2.1 (c + 4) i) ∧ h.1 (c + 5) i = C.2.1.2.2.1 i ∧ h.1 (c + 6) i = C.2.1.2.2.2.1 i ∧ h.1 (c + 7) i = C.2.1.2.2.2.2 i) ∧
  (h.1 c 9 = pz_b C.2.2.1.1 ∧ h.1 c 10 = C.2.2.1.2 ∧ sp_sK C.2.2.1) ∧ (h.1 c 11 = pz_b C.2.2.2.1 ∧ h.1 (c + 8) 2 = nI C.2.2.2.2.1 ∧ C.2.2.2.2.1 ≤ 1000 ∧ ∀ i, i < C.2.2.2.2.1 → h.1 (c + 9) i = C.2.2.2.2.2 i)
def c_in (c o : Nat) : Prop := o = 1 ∨ (c ≤ o ∧ o ≤ c + 10)
def c_q (c : Nat) (h0 h : am_H) : Prop := h.2.2 = h0.2.2 ∧ ∀ o k, ¬ c_in c o → h.1 o k = h0.1 o k ∧ h.2.1 o k = h0.2.1 o k
/-- the a-th token at hand, the canton so far -/
def cr (h0 : am_H) (c : Nat) (T : Nat → Int32) (sz : Nat) (s : sp_S) (h : am_H) : Prop := c_t T sz s.1 h ∧ c_c c s.2 h ∧ c_q c h0 h ∧ s.2.2.2.2.2.1 ≤ s.1
/-- a fault was told -/
def cx (h0 : am_H) (c : Nat) (F : Int32) (h : am_H) : Prop := ex_P h ∧ (h.1 1 7 = F ∧ ¬ F = 0) ∧ c_q c h0 h ∧ ∃ k, k ≤ 1000 ∧ h.1 (c + 8) 2 = nI k
def cres (h0 : am_H) (c : Nat) (T : Nat → Int32) (sz : Nat) (r : sp_R) (v : Option Value) (h : am_H) : Prop := match r with
  | .inl F => v = some (.int 0) ∧ cx h0 c F h
  | .inr s => v = some (.int 1) ∧ cr h0 c T sz s h
theorem c_c_eq {C : sp_C} {h1 : am_H} (he : ∀ o k, c ≤ o → o ≤ c + 10 → h1.1 o k = h.1 o k ∧ h1.2.1 o k = h.2.1 o k) (l : c_c c C h) : c_c c C h1 := by
  obtain ⟨⟨a1, a2, a3⟩, ⟨b1, b2, b3⟩, ⟨d1, d2, d3⟩, ⟨e1, e2, e3, e4⟩⟩ := l
  refine ⟨⟨?_, a2, fun i hi => ?_⟩, ⟨?_, b2, fun i hi => ?_⟩, ⟨?_, ?_, d3⟩, ⟨?_, ?_, e3, fun i hi => ?_⟩⟩
  · rw [(he c 0 (by omega) (by omega)).1]; exact a1
  · rw [(he (c + 1) i (by omega) (by omega)).2, (he (c + 2) i (by omega) (by omega)).1, (he (c + 3) i (by omega) (by omega)).1]; exact a3 i hi
  · rw [(he c 4 (by omega) (by omega)).1]; exact b1
  · rw [(he (c + 4) i (by omega) (by omega)).2, (he (c + 5) i (by omega) (by omega)).1, (he (c + 6) i (by omega) (by omega)).1, (he (c + 7) i (by omega) (by omega)).1]; exact b3 i hi
  · rw [(he c 9 (by omega) (by omega)).1]; exact d1
  · rw [(he c 10 (by omega) (by omega)).1]; exact d2
  · rw [(he c 11 (by omega) (by omega)).1]; exact e1
  · rw [(he (c + 8) 2 (by omega) (by omega)).1]; exact e2
  · rw [(he (c + 9) i (by omega) (by omega)).1]; exact e4 i hi
theorem c_q_fr {h1 : am_H} (l : c_q c h0 h) (f : fr1 h h1) : c_q c h0 h1 := ⟨f.1.trans l.1, fun o k ho => by
  have h1 : ¬ o = 1 := fun z => ho (Or.inl z)
  exact ⟨(f.2 o k h1).1.trans (l.2 o k ho).1, (f.2 o k h1).2.trans (l.2 o k ho).2⟩⟩
theorem c_c_fr {C : sp_C} {h1 : am_H} (hc : 1 < c) (l : c_c c C h) (f : fr1 h h1) : c_c c C h1 := c_c_eq (fun o k h2 _ => f.2 o k (by omega)) l
/-- on to the next token -/
theorem cr_fr {h1 : am_H} {a' : Nat} {C : sp_C} (hc : 1 < c) (l : cr h0 c T sz (a, C) h) (t : c_t T sz a' h1) (ha : a ≤ a') (f : fr1 h h1) : cr h0 c T sz (a', C) h1 := ⟨t, c_c_fr hc l.2.1 f, c_q_fr l.2.2.1 f, Nat.le_trans l.2.2.2 ha⟩
theorem sp_ft0 (l : c_t T sz a h) {k : Int32} (hk : 1 ≤ k.toInt ∧ k.toInt ≤ 5) : ¬ sp_ft (tt T sz) a k = 0 := by
  intro e
  have e1 : (k + (Int8.ofInt 16).toInt32 * nI (tk_pl T sz a)).toInt = 0 := congrArg Int32.toInt e
  have hz := l.1.2.1
  have hp := l.2.2.2.2.2.1
  rw [Int32.toInt_add, Int32.toInt_mul, nI_toInt (by omega), show ((Int8.ofInt 16).toInt32).toInt = 16 from rfl, Int.bmod_eq_of_le (n := 16 * ↑(tk_pl T sz a)) (by omega) (by omega), Int.bmod_eq_of_le (by omega) (by omega)] at e1
  omega
theorem fr1_7 {v : Int32} : fr1 h (am_wI h 1 7 v) := ⟨rfl, fun _ _ ho => ⟨em_wn h _ (by omega), rfl⟩⟩
theorem cr_x {k : Int32} (hc : 1 < c) (l : cr h0 c T sz s h) (hk : 1 ≤ k.toInt ∧ k.toInt ≤ 5) : cx h0 c (sp_ft (tt T sz) s.1 k) (am_wI h 1 7 (sp_ft (tt T sz) s.1 k)) :=
  ⟨l.1.1.1, ⟨em_we h 1 7 _, sp_ft0 l.1 hk⟩, c_q_fr l.2.2.1 fr1_7, s.2.2.2.2.2.1, l.2.1.2.2.2.2.2.1, by rw [em_wn h _ (by omega)]; exact l.2.1.2.2.2.2.1⟩
theorem cres_inl {F : Int32} {r : sp_R} {v : Option Value} {h1 : am_H} (e : r = .inl F) (hv : v = some (.int 0)) (x : cx h0 c F h1) : cres h0 c T sz r v h1 := by
  rw [e]
  exact ⟨hv, x⟩
theorem cres_inr {s' : sp_S} {r : sp_R} {v : Option Value} {h1 : am_H} (e : r = .inr s') (hv : v = some (.int 1)) (x : cr h0 c T sz s' h1) : cres h0 c T sz r v h1 := by
  rw [e]
  exact ⟨hv, x⟩
theorem cres_cs {r : sp_R} {v : Option Value} {h1 : am_H} (x : cres h0 c T sz r v h1) : (∃ F, r = .inl F ∧ v = some (.int 0) ∧ cx h0 c F h1) ∨ (∃ s', r = .inr s' ∧ v = some (.int 1) ∧ cr h0 c T sz s' h1) := by
  cases r with
  | inl F => exact Or.inl ⟨F, rfl, x.1, x.2⟩
  | inr s' => exact Or.inr ⟨s', rfl, x.1, x.2⟩
theorem sp_kn {τ : sp_T} {k : Int32} (hk : ¬ k = 0) (e : sp_k τ a k = true) : ¬ (τ a).1 = 0 := fun z => hk ((sp_kt e).symm.trans z)
theorem sp_wn {τ : sp_T} {w : Int64} (e : sp_w τ a w = true) : ¬ (τ a).1 = 0 := sp_kn (by decide) (Bool.and_eq_true _ _ ▸ e : _ ∧ _).1
theorem sp_sn {τ : sp_T} {x : Int32} (e : sp_s τ a x = true) : ¬ (τ a).1 = 0 := sp_kn (by decide) (Bool.and_eq_true _ _ ▸ e : _ ∧ _).1
theorem sp_nn {τ : sp_T} (e : sp_n τ a = true) : ¬ (τ a).1 = 0 := sp_kn (by decide) (Bool.and_eq_true _ _ ▸ e : _ ∧ _).1
theorem c_tW {q : Nat} {w : Int64} (hq : q < 26) (hw : cwk w (cpk q (am_sln.getD q 0))) (hc : 1 < c) (l : cr h0 c T sz s h) (hQ : ∀ v h1, cres h0 c T sz (sp_tW (tt T sz) w s) v h1 → fr1 h h1 → Q v h1) : am_call am_cod 6 58 [.ref 1, .ref (4000000 + q)] h Q := by
  have hP := c_P l.1
  refine pz_call (n := 58) (nL := 2) (rt := (some .boolean)) (rows := am_r58) (d := 5) (by decide +kernel) (by decide +kernel) rfl (by funext pc; rfl) (ex_175 hP) (by exact Nat.le_of_ble_eq_true rfl) ?_
  refine am_goX 3 (show am_rc h 1 7 ∧ 0 ≤ 8 ∧ h.2.2.2.2 + am_al 44 ≤ 175 ∧ am_call am_cod 5 44 [.ref 1, .ref (4000000 + q)] h (fun vv h' => pz_S 2 (some .boolean) am_r58 5 Q 5 [(0, .ref 1), (1, .ref (4000000 + q))] (vv.toList ++ []) h') from ⟨Or.inl ⟨by decide, ex_1 hP⟩, by decide, ex_lim hP rfl, c_isw hq hw l.1 ?_⟩)
  cases e : sp_w (tt T sz) s.1 w with
  | true =>
    refine am_goX 1 (show (¬ (pz_b (true)) = 0 → pz_S 2 (some .boolean) am_r58 5 Q 14 [(0, .ref 1), (1, .ref (4000000 + q))] [] h) ∧ (¬ ¬ (pz_b (true)) = 0 → pz_S 2 (some .boolean) am_r58 5 Q 8 [(0, .ref 1), (1, .ref (4000000 + q))] [] h) from ⟨fun _ => ?_, fun hz => absurd (by decide) hz⟩)
    refine am_goX 2 (show am_rc h 1 7 ∧ 0 ≤ 8 ∧ h.2.2.2.2 + am_al 18 ≤ 175 ∧ am_call am_cod 5 18 [.ref 1] h (fun vv h' => pz_S 2 (some .boolean) am_r58 5 Q 18 [(0, .ref 1), (1, .ref (4000000 + q))] (vv.toList ++ []) h') from ⟨Or.inl ⟨by decide, ex_1 hP⟩, by decide, ex_lim hP rfl, am_call.up (c_step l.1 (sp_wn e) (fun h1 m f => ?_)) (by decide)⟩)
    exact am_goX 2 (show (∃ ty, (some .boolean) = some ty ∧ narrow ty (.int ((Int32.ofInt 1))) = .int ((Int32.ofInt 1))) ∧ h1.2.2.2.2 = 175 ∧ _ from ⟨⟨.boolean, rfl, rfl⟩, ex_175 (c_P m), hQ _ h1 (cres_inr (by unfold sp_tW; rw [e]; rfl) rfl (cr_fr (a := s.1) (C := s.2) hc l m (Nat.le_succ _) f)) f⟩)
  | false =>
    refine am_goX 1 (show (¬ (pz_b (false)) = 0 → pz_S 2 (some .boolean) am_r58 5 Q 14 [(0, .ref 1), (1, .ref (4000000 + q))] [] h) ∧ (¬ ¬ (pz_b (false)) = 0 → pz_S 2 (some .boolean) am_r58 5 Q 8 [(0, .ref 1), (1, .ref (4000000 + q))] [] h) from ⟨fun hz => absurd hz (by decide), fun _ => ?_⟩)
    refine am_goX 3 (show am_rc h 1 7 ∧ 0 ≤ 8 ∧ h.2.2.2.2 + am_al 52 ≤ 175 ∧ am_call am_cod 5 52 [.ref 1, .int (Int32.ofInt 1)] h (fun vv h' => pz_S 2 (some .boolean) am_r58 5 Q 13 [(0, .ref 1), (1, .ref (4000000 + q))] (vv.toList ++ []) h') from ⟨Or.inl ⟨by decide, ex_1 hP⟩, by decide, ex_lim hP rfl, am_call.up (c_refuse l.1 ?_) (by decide)⟩)
    exact am_goX 1 (show (∃ ty, (some .boolean) = some ty ∧ narrow ty (.int ((Int32.ofInt 0))) = .int ((Int32.ofInt 0))) ∧ (am_wI h 1 7 (sp_ft (tt T sz) s.1 (Int32.ofInt 1))).2.2.2.2 = 175 ∧ _ from ⟨⟨.boolean, rfl, rfl⟩, ex_175 hP, hQ _ _ (cres_inl (by unfold sp_tW; rw [e]; rfl) rfl (cr_x hc l (by decide))) fr1_7⟩)
theorem c_tS {x : Int32} (hc : 1 < c) (l : cr h0 c T sz s h) (hQ : ∀ v h1, cres h0 c T sz (sp_tS (tt T sz) x s) v h1 → fr1 h h1 → Q v h1) : am_call am_cod 6 61 [.ref 1, .int x] h Q := by
  have hP := c_P l.1
  refine pz_call (n := 61) (nL := 2) (rt := (some .boolean)) (rows := am_r61) (d := 5) (by decide +kernel) (by decide +kernel) rfl (by funext pc; rfl) (ex_175 hP) (by exact Nat.le_of_ble_eq_true rfl) ?_
  refine am_goX 3 (show am_rc h 1 7 ∧ 0 ≤ 8 ∧ h.2.2.2.2 + am_al 62 ≤ 175 ∧ am_call am_cod 5 62 [.ref 1, .int x] h (fun vv h' => pz_S 2 (some .boolean) am_r61 5 Q 5 [(0, .ref 1), (1, .int x)] (vv.toList ++ []) h') from ⟨Or.inl ⟨by decide, ex_1 hP⟩, by decide, ex_lim hP rfl, am_call.up (c_iss l.1 ?_) (by decide)⟩)
  cases e : sp_s (tt T sz) s.1 x with
  | true =>
    refine am_goX 1 (show (¬ (pz_b (true)) = 0 → pz_S 2 (some .boolean) am_r61 5 Q 14 [(0, .ref 1), (1, .int x)] [] h) ∧ (¬ ¬ (pz_b (true)) = 0 → pz_S 2 (some .boolean) am_r61 5 Q 8 [(0, .ref 1), (1, .int x)] [] h) from ⟨fun _ => ?_, fun hz => absurd (by decide) hz⟩)
    refine am_goX 2 (show am_rc h 1 7 ∧ 0 ≤ 8 ∧ h.2.2.2.2 + am_al 18 ≤ 175 ∧ am_call am_cod 5 18 [.ref 1] h (fun vv h' => pz_S 2 (some .boolean) am_r61 5 Q 18 [(0, .ref 1), (1, .int x)] (vv.toList ++ []) h') from ⟨Or.inl ⟨by decide, ex_1 hP⟩, by decide, ex_lim hP rfl, am_call.up (c_step l.1 (sp_sn e) (fun h1 m f => ?_)) (by decide)⟩)
    exact am_goX 2 (show (∃ ty, (some .boolean) = some ty ∧ narrow ty (.int ((Int32.ofInt 1))) = .int ((Int32.ofInt 1))) ∧ h1.2.2.2.2 = 175 ∧ _ from ⟨⟨.boolean, rfl, rfl⟩, ex_175 (c_P m), hQ _ h1 (cres_inr (by unfold sp_tS; rw [e]; rfl) rfl (cr_fr (a := s.1) (C := s.2) hc l m (Nat.le_succ _) f)) f⟩)
  | false =>
    refine am_goX 1 (show (¬ (pz_b (false)) = 0 → pz_S 2 (some .boolean) am_r61 5 Q 14 [(0, .ref 1), (1, .int x)] [] h) ∧ (¬ ¬ (pz_b (false)) = 0 → pz_S 2 (some .boolean) am_r61 5 Q 8 [(0, .ref 1), (1, .int x)] [] h) from ⟨fun hz => absurd hz (by decide), fun _ => ?_⟩)
    refine am_goX 3 (show am_rc h 1 7 ∧ 0 ≤ 8 ∧ h.2.2.2.2 + am_al 52 ≤ 175 ∧ am_call am_cod 5 52 [.ref 1, .int (Int32.ofInt 1)] h (fun vv h' => pz_S 2 (some .boolean) am_r61 5 Q 13 [(0, .ref 1), (1, .int x)] (vv.toList ++ []) h') from ⟨Or.inl ⟨by decide, ex_1 hP⟩, by decide, ex_lim hP rfl, am_call.up (c_refuse l.1 ?_) (by decide)⟩)
    exact am_goX 1 (show (∃ ty, (some .boolean) = some ty ∧ narrow ty (.int ((Int32.ofInt 0))) = .int ((Int32.ofInt 0))) ∧ (am_wI h 1 7 (sp_ft (tt T sz) s.1 (Int32.ofInt 1))).2.2.2.2 = 175 ∧ _ from ⟨⟨.boolean, rfl, rfl⟩, ex_175 hP, hQ _ _ (cres_inl (by unfold sp_tS; rw [e]; rfl) rfl (cr_x hc l (by decide))) fr1_7⟩)
theorem c_in3 {x lo hi : Int32} (hP : ex_P h) (hQ : Q (some (.int (pz_b (decide (lo ≤ x) && decide (x ≤ hi))))) h) : am_call am_cod 1 60 [.int x, .int lo, .int hi] h Q := by
  refine pz_call (n := 60) (nL := 3) (rt := (some .boolean)) (rows := am_r60) (d := 0) (by decide +kernel) (by decide +kernel) rfl (by funext pc; rfl) (ex_175 hP) (by exact Nat.le_of_ble_eq_true rfl) ?_
  refine am_goX 3 (show (x < lo → pz_S 3 (some .boolean) am_r60 0 Q 14 [(0, .int x), (1, .int lo), (2, .int hi)] [] h) ∧ (¬ (x < lo) → pz_S 3 (some .boolean) am_r60 0 Q 5 [(0, .int x), (1, .int lo), (2, .int hi)] [] h) from ⟨fun hc => ?_, fun hc => ?_⟩)
  · rw [decide_eq_false (Int32.not_le.mpr hc), Bool.false_and] at hQ
    exact am_goX 2 (show (∃ ty, (some .boolean) = some ty ∧ narrow ty (.int ((Int32.ofInt 0))) = .int ((Int32.ofInt 0))) ∧ h.2.2.2.2 = 175 ∧ _ from ⟨⟨.boolean, rfl, rfl⟩, ex_175 hP, hQ⟩)
  rw [decide_eq_true (Int32.not_lt.mp hc), Bool.true_and] at hQ
  clear hc
  refine am_goX 3 (show (hi < x → pz_S 3 (some .boolean) am_r60 0 Q 14 [(0, .int x), (1, .int lo), (2, .int hi)] [] h) ∧ (¬ (hi < x) → pz_S 3 (some .boolean) am_r60 0 Q 10 [(0, .int x), (1, .int lo), (2, .int hi)] [] h) from ⟨fun hc => ?_, fun hc => ?_⟩)
  · rw [decide_eq_false (Int32.not_le.mpr hc)] at hQ
    exact am_goX 2 (show (∃ ty, (some .boolean) = some ty ∧ narrow ty (.int ((Int32.ofInt 0))) = .int ((Int32.ofInt 0))) ∧ h.2.2.2.2 = 175 ∧ _ from ⟨⟨.boolean, rfl, rfl⟩, ex_175 hP, hQ⟩)
  · rw [decide_eq_true (Int32.not_lt.mp hc)] at hQ
    exact am_goX 3 (show (∃ ty, (some .boolean) = some ty ∧ narrow ty (.int ((Int32.ofInt 1))) = .int ((Int32.ofInt 1))) ∧ h.2.2.2.2 = 175 ∧ _ from ⟨⟨.boolean, rfl, rfl⟩, ex_175 hP, hQ⟩)
theorem c_tN {lo hi : Int32} (hc : 1 < c) (l : cr h0 c T sz s h) (hQ : ∀ v h1, cres h0 c T sz (sp_tN (tt T sz) lo hi s) v h1 → fr1 h h1 → Q v h1) : am_call am_cod 2 59 [.ref 1, .int lo, .int hi] h Q := by
  have hP := c_P l.1
  have hk := ck_2 T sz s.1
  refine pz_call (n := 59) (nL := 3) (rt := (some .boolean)) (rows := am_r59) (d := 1) (by decide +kernel) (by decide +kernel) rfl (by funext pc; rfl) (ex_175 hP) (by exact Nat.le_of_ble_eq_true rfl) ?_
  refine am_goX 3 (show am_sh h 1 = some (7, 0) ∧ pz_S 3 (some .boolean) am_r59 1 Q 5 [(0, .ref 1), (1, .int lo), (2, .int hi)] [.int (Int32.ofInt 2), .int (h.1 1 2)] h from ⟨ex_1 hP, ?_⟩)
  rw [c_kd l.1]
  refine am_goX 1 (show ((ck (tt T sz s.1).1) = (Int32.ofInt 2) → pz_S 3 (some .boolean) am_r59 1 Q 14 [(0, .ref 1), (1, .int lo), (2, .int hi)] [] h) ∧ (¬ ((ck (tt T sz s.1).1) = (Int32.ofInt 2)) → pz_S 3 (some .boolean) am_r59 1 Q 8 [(0, .ref 1), (1, .int lo), (2, .int hi)] [] h) from ⟨fun hc0 => ?_, fun hc0 => ?_⟩)
  rotate_left
  · rw [decide_eq_false hc0] at hk
    refine am_goX 3 (show am_rc h 1 7 ∧ 0 ≤ 8 ∧ h.2.2.2.2 + am_al 52 ≤ 175 ∧ am_call am_cod 1 52 [.ref 1, .int (Int32.ofInt 1)] h (fun vv h' => pz_S 3 (some .boolean) am_r59 1 Q 13 [(0, .ref 1), (1, .int lo), (2, .int hi)] (vv.toList ++ []) h') from ⟨Or.inl ⟨by decide, ex_1 hP⟩, by decide, ex_lim hP rfl, c_refuse l.1 ?_⟩)
    exact am_goX 1 (show (∃ ty, (some .boolean) = some ty ∧ narrow ty (.int ((Int32.ofInt 0))) = .int ((Int32.ofInt 0))) ∧ (am_wI h 1 7 (sp_ft (tt T sz) s.1 (Int32.ofInt 1))).2.2.2.2 = 175 ∧ _ from ⟨⟨.boolean, rfl, rfl⟩, ex_175 hP, hQ _ _ (cres_inl (by unfold sp_tN; rw [← hk]; rfl) rfl (cr_x hc l (by decide))) fr1_7⟩)
  rw [decide_eq_true hc0] at hk
  have hn := c_nv l.1 hk.symm
  refine am_goX 4 (show am_sh h 1 = some (7, 0) ∧ pz_S 3 (some .boolean) am_r59 1 Q 20 [(0, .ref 1), (1, .int lo), (2, .int hi)] [.int hi, .int lo, .int (h.1 1 6)] h from ⟨ex_1 hP, ?_⟩)
  rw [hn]
  refine am_goX 1 (show 0 ≤ 8 ∧ h.2.2.2.2 + am_al 60 ≤ 175 ∧ am_call am_cod 1 60 [.int (sp_v (tt T sz) s.1), .int lo, .int hi] h (fun vv h' => pz_S 3 (some .boolean) am_r59 1 Q 23 [(0, .ref 1), (1, .int lo), (2, .int hi)] (vv.toList ++ []) h') from ⟨by decide, ex_lim hP rfl, c_in3 hP ?_⟩)
  show pz_S 3 (some .boolean) am_r59 1 Q 23 [(0, .ref 1), (1, .int lo), (2, .int hi)] [.int (pz_b (sp_in (tt T sz) s.1 lo hi))] h
  cases e : sp_in (tt T sz) s.1 lo hi with
  | true =>
    refine am_goX 1 (show (¬ (pz_b (true)) = 0 → pz_S 3 (some .boolean) am_r59 1 Q 34 [(0, .ref 1), (1, .int lo), (2, .int hi)] [] h) ∧ (¬ ¬ (pz_b (true)) = 0 → pz_S 3 (some .boolean) am_r59 1 Q 26 [(0, .ref 1), (1, .int lo), (2, .int hi)] [] h) from ⟨fun _ => ?_, fun hz => absurd (by decide) hz⟩)
    exact am_goX 3 (show (∃ ty, (some .boolean) = some ty ∧ narrow ty (.int ((Int32.ofInt 1))) = .int ((Int32.ofInt 1))) ∧ h.2.2.2.2 = 175 ∧ _ from ⟨⟨.boolean, rfl, rfl⟩, ex_175 hP, hQ _ _ (cres_inr (by unfold sp_tN; rw [← hk, e]; rfl) rfl l) (fr1_refl h)⟩)
  | false =>
    refine am_goX 1 (show (¬ (pz_b (false)) = 0 → pz_S 3 (some .boolean) am_r59 1 Q 34 [(0, .ref 1), (1, .int lo), (2, .int hi)] [] h) ∧ (¬ ¬ (pz_b (false)) = 0 → pz_S 3 (some .boolean) am_r59 1 Q 26 [(0, .ref 1), (1, .int lo), (2, .int hi)] [] h) from ⟨fun hz => absurd hz (by decide), fun _ => ?_⟩)
    refine am_goX 3 (show am_rc h 1 7 ∧ 0 ≤ 8 ∧ h.2.2.2.2 + am_al 52 ≤ 175 ∧ am_call am_cod 1 52 [.ref 1, .int (Int32.ofInt 4)] h (fun vv h' => pz_S 3 (some .boolean) am_r59 1 Q 31 [(0, .ref 1), (1, .int lo), (2, .int hi)] (vv.toList ++ []) h') from ⟨Or.inl ⟨by decide, ex_1 hP⟩, by decide, ex_lim hP rfl, c_refuse l.1 ?_⟩)
    refine am_goX 1 (show ((Int32.ofInt 0) = 0 → pz_S 3 (some .boolean) am_r59 1 Q 38 [(0, .ref 1), (1, .int lo), (2, .int hi)] [] (am_wI h 1 7 (sp_ft (tt T sz) s.1 (Int32.ofInt 4)))) ∧ (¬ ((Int32.ofInt 0) = 0) → pz_S 3 (some .boolean) am_r59 1 Q 34 [(0, .ref 1), (1, .int lo), (2, .int hi)] [] (am_wI h 1 7 (sp_ft (tt T sz) s.1 (Int32.ofInt 4)))) from ⟨fun _ => ?_, fun hz => absurd (by decide) hz⟩)
    exact am_goX 2 (show (∃ ty, (some .boolean) = some ty ∧ narrow ty (.int ((Int32.ofInt 0))) = .int ((Int32.ofInt 0))) ∧ (am_wI h 1 7 (sp_ft (tt T sz) s.1 (Int32.ofInt 4))).2.2.2.2 = 175 ∧ _ from ⟨⟨.boolean, rfl, rfl⟩, ex_175 hP, hQ _ _ (cres_inl (by unfold sp_tN; rw [← hk, e]; rfl) rfl (cr_x hc l (by decide))) fr1_7⟩)
end
section
/-! HOW MANY TOKENS ARE TAKEN, HOW MANY CODES ARE LAID -/
variable {τ : sp_T} {p : sp_S → sp_R} {s s' : sp_S}
/-- one token at least is taken, and no more codes are laid than tokens are taken -/
def sp_le (s s' : sp_S) : Prop := s.1 < s'.1 ∧ s'.2.2.2.2.2.1 + s.1 ≤ s.2.2.2.2.2.1 + s'.1
def sp_ok (p : sp_S → sp_R) : Prop := ∀ s s', p s = .inr s' → sp_le s s'
theorem sp_bI {r : sp_R} {f : sp_S → sp_R} (e : sp_b r f = .inr s') : ∃ t, r = .inr t ∧ f t = .inr s' := by
  cases r with
  | inl F => cases e
  | inr t => exact ⟨t, rfl, e⟩
theorem sp_le_tr {t : sp_S} (h1 : sp_le s t) (h2 : sp_le t s') : sp_le s s' := by
  unfold sp_le at *
  omega
/-- none or more -/
def sp_l0 (s s' : sp_S) : Prop := s.1 ≤ s'.1 ∧ s'.2.2.2.2.2.1 + s.1 ≤ s.2.2.2.2.2.1 + s'.1
theorem sp_l0_tr {t : sp_S} (h1 : sp_le s t) (h2 : sp_l0 t s') : sp_le s s' := by
  unfold sp_le sp_l0 at *
  omega
theorem sp_l1 {t : sp_S} {C : sp_C} {a : Nat} {x : Int32} (h1 : sp_le (a + 1, C) t) (h2 : sp_l0 (t.1, sp_em t.2 x) s') : sp_l0 (a, C) s' := by
  unfold sp_le sp_l0 sp_em at *
  dsimp only at *
  omega
theorem sp_pL_ok (hp : sp_ok p) : ∀ (m : Nat) (s s' : sp_S), sp_pL τ p m s = .inr s' → sp_l0 s s'
  | 0, s, s', e => by
    cases e
    exact ⟨Nat.le_refl _, Nat.le_refl _⟩
  | m + 1, s, s', e => by
    unfold sp_pL at e
    cases h1 : sp_s τ s.1 (Int8.ofInt 42).toInt32 with
    | true =>
      rw [h1] at e
      obtain ⟨t, e1, e2⟩ := sp_bI e
      exact sp_l1 (hp _ _ e1) (sp_pL_ok hp m _ _ e2)
    | false =>
      rw [h1] at e
      cases e
      exact ⟨Nat.le_refl _, Nat.le_refl _⟩
theorem sp_p_ok (hp : sp_ok p) : sp_ok (sp_p τ p) := fun s s' e => by
  obtain ⟨t, e1, e2⟩ := sp_bI e
  exact sp_l0_tr (hp _ _ e1) (sp_pL_ok hp _ _ _ e2)
theorem sp_sL_ok (hp : sp_ok p) : ∀ (m : Nat) (s s' : sp_S), sp_sL τ p m s = .inr s' → sp_l0 s s'
  | 0, s, s', e => by
    cases e
    exact ⟨Nat.le_refl _, Nat.le_refl _⟩
  | m + 1, s, s', e => by
    unfold sp_sL at e
    cases h1 : sp_s τ s.1 (Int8.ofInt 43).toInt32 with
    | true =>
      rw [h1] at e
      obtain ⟨t, e1, e2⟩ := sp_bI e
      exact sp_l1 (sp_p_ok hp _ _ e1) (sp_sL_ok hp m _ _ e2)
    | false =>
      rw [h1] at e
      cases h2 : sp_s τ s.1 (Int8.ofInt 45).toInt32 with
      | true =>
        rw [h2] at e
        obtain ⟨t, e1, e2⟩ := sp_bI e
        exact sp_l1 (sp_p_ok hp _ _ e1) (sp_sL_ok hp m _ _ e2)
      | false =>
        rw [h2] at e
        cases e
        exact ⟨Nat.le_refl _, Nat.le_refl _⟩
theorem sp_su_ok (hp : sp_ok p) : sp_ok (sp_su τ p) := fun s s' e => by
  obtain ⟨t, e1, e2⟩ := sp_bI e
  exact sp_l0_tr (sp_p_ok hp _ _ e1) (sp_sL_ok hp _ _ _ e2)
theorem sp_te_ok (hp : sp_ok p) : sp_ok (sp_te τ p) := fun s s' e => by
  obtain ⟨t, e1, e2⟩ := sp_bI e
  refine sp_l0_tr (sp_su_ok hp _ _ e1) ?_
  cases h1 : sp_s τ t.1 (Int8.ofInt 60).toInt32 with
  | true =>
    rw [h1] at e2
    obtain ⟨u, e3, e4⟩ := sp_bI e2
    cases e4
    exact sp_l1 (sp_su_ok hp _ _ e3) ⟨Nat.le_refl _, Nat.le_refl _⟩
  | false =>
    rw [h1] at e2
    cases h2 : sp_s τ t.1 (Int8.ofInt 61).toInt32 with
    | true =>
      rw [h2] at e2
      obtain ⟨u, e3, e4⟩ := sp_bI e2
      cases e4
      exact sp_l1 (sp_su_ok hp _ _ e3) ⟨Nat.le_refl _, Nat.le_refl _⟩
    | false =>
      rw [h2] at e2
      cases e2
      exact ⟨Nat.le_refl _, Nat.le_refl _⟩
theorem sp_wL_ok (hp : sp_ok p) : ∀ (m : Nat) (s s' : sp_S), sp_wL τ p m s = .inr s' → sp_l0 s s'
  | 0, s, s', e => by
    cases e
    exact ⟨Nat.le_refl _, Nat.le_refl _⟩
  | m + 1, s, s', e => by
    unfold sp_wL at e
    cases h1 : sp_w τ s.1 1891 with
    | true =>
      rw [h1] at e
      obtain ⟨t, e1, e2⟩ := sp_bI e
      exact sp_l1 (sp_te_ok hp _ _ e1) (sp_wL_ok hp m _ _ e2)
    | false =>
      rw [h1] at e
      cases h2 : sp_w τ s.1 573 with
      | true =>
        rw [h2] at e
        obtain ⟨t, e1, e2⟩ := sp_bI e
        exact sp_l1 (sp_te_ok hp _ _ e1) (sp_wL_ok hp m _ _ e2)
      | false =>
        rw [h2] at e
        cases e
        exact ⟨Nat.le_refl _, Nat.le_refl _⟩
theorem sp_wh_ok (hp : sp_ok p) : sp_ok (sp_wh τ p) := fun s s' e => by
  obtain ⟨t, e1, e2⟩ := sp_bI e
  exact sp_l0_tr (sp_te_ok hp _ _ e1) (sp_wL_ok hp _ _ _ e2)
theorem sp_tS_ok {x : Int32} (e : sp_tS τ x s = .inr s') : s' = (s.1 + 1, s.2) := by
  unfold sp_tS at e
  cases h1 : sp_s τ s.1 x with
  | true =>
    rw [h1] at e
    cases e
    rfl
  | false =>
    rw [h1] at e
    cases e
theorem sp_pt_ok : ∀ (r : Nat), sp_ok (sp_pt τ r)
  | 0 => fun s s' e => by
    unfold sp_pt at e
    cases h1 : decide (sp_fa τ s.1 = 0) && (!sp_k τ s.1 2 && (!sp_w τ s.1 19741 && !sp_s τ s.1 (Int8.ofInt 40).toInt32)) with
    | true => rw [h1] at e; cases e
    | false => rw [h1] at e; cases e
  | r + 1 => fun s s' e => by
    unfold sp_pt at e
    cases h1 : decide (sp_fa τ s.1 = 0) && (!sp_k τ s.1 2 && (!sp_w τ s.1 19741 && !sp_s τ s.1 (Int8.ofInt 40).toInt32)) with
    | true => rw [h1] at e; cases e
    | false =>
      rw [h1] at e
      cases h2 : sp_k τ s.1 2 with
      | true =>
        rw [h2] at e
        cases e
        unfold sp_le sp_em
        dsimp only
        omega
      | false =>
        rw [h2] at e
        cases h3 : !decide (sp_fa τ s.1 = 0) with
        | true =>
          rw [h3] at e
          cases e
          unfold sp_le sp_em
          dsimp only
          omega
        | false =>
          rw [h3] at e
          cases h4 : sp_w τ s.1 19741 with
          | true =>
            rw [h4] at e
            obtain ⟨t, e1, e2⟩ := sp_bI e
            cases e2
            have := sp_pt_ok r _ _ e1
            unfold sp_le sp_em at *
            dsimp only at *
            omega
          | false =>
            rw [h4] at e
            obtain ⟨t, e1, e2⟩ := sp_bI e
            have := sp_wh_ok (sp_pt_ok r) _ _ e1
            rw [sp_tS_ok e2]
            unfold sp_le at *
            dsimp only at *
            omega
theorem sp_sL_1 : sp_sL τ p 1001 s = bif sp_s τ s.1 (Int8.ofInt 43).toInt32 then sp_b (sp_p τ p (s.1 + 1, s.2)) (fun t => sp_sL τ p 1000 (t.1, sp_em t.2 ((Int8.ofInt (-10)).toInt32))) else bif sp_s τ s.1 (Int8.ofInt 45).toInt32 then sp_b (sp_p τ p (s.1 + 1, s.2)) (fun t => sp_sL τ p 1000 (t.1, sp_em t.2 ((Int8.ofInt (-11)).toInt32))) else .inr s := rfl
theorem sp_wL_1 : sp_wL τ p 1001 s = bif sp_w τ s.1 1891 then sp_b (sp_te τ p (s.1 + 1, s.2)) (fun t => sp_wL τ p 1000 (t.1, sp_em t.2 ((Int8.ofInt (-6)).toInt32))) else bif sp_w τ s.1 573 then sp_b (sp_te τ p (s.1 + 1, s.2)) (fun t => sp_wL τ p 1000 (t.1, sp_em t.2 ((Int8.ofInt (-7)).toInt32))) else .inr s := rfl
end
section
/-! THE CLASS'S LAW, EXACTLY -/
theorem ct_wI {h : am_H} {sz a o k : Nat} {T : Nat → Int32} {v : Int32} (l : c_t T sz a h) (ho : ¬ o = 1 ∧ ¬ o = 2) : c_t T sz a (am_wI h o k v) := by
  obtain ⟨l0, l1, l2, l3, l4, l5, l6, l7, l8, l9, l10⟩ := l
  refine ⟨l0, ?_, fun q hq => ?_, ?_, l4, l5, ?_, ?_, ?_, l9, ?_⟩
  · rw [em_wn h _ (by omega)]; exact l1
  · rw [em_wn h _ (by omega)]; exact l2 q hq
  · rw [em_wn h _ (by omega)]; exact l3
  · rw [em_wn h _ (by omega)]; exact l6
  · rw [em_wn h _ (by omega)]; exact l7
  · rw [em_wn h _ (by omega)]; exact l8
  · rw [em_wn h _ (by omega)]; exact l10
theorem ct_wL {h : am_H} {sz a o k : Nat} {T : Nat → Int32} {v : Int64} (l : c_t T sz a h) (ho : ¬ o = 1) : c_t T sz a (am_wL h o k v) := by
  obtain ⟨l0, l1, l2, l3, l4, l5, l6, l7, l8, l9, l10⟩ := l
  refine ⟨l0, l1, l2, l3, l4, l5, l6, l7, l8, ?_, l10⟩
  rw [ex_ln (by omega)]
  exact l9
theorem cq_wI {h h0 : am_H} {c o k : Nat} {v : Int32} (l : c_q c h0 h) (ho : c ≤ o ∧ o ≤ c + 10) : c_q c h0 (am_wI h o k v) := ⟨l.1, fun o' k' hn => ⟨by
  rw [em_wn h _ (fun z => hn (Or.inr (by omega)))]
  exact (l.2 o' k' hn).1, (l.2 o' k' hn).2⟩⟩
theorem cq_wL {h h0 : am_H} {c o k : Nat} {v : Int64} (l : c_q c h0 h) (ho : c ≤ o ∧ o ≤ c + 10) : c_q c h0 (am_wL h o k v) := ⟨l.1, fun o' k' hn => ⟨(l.2 o' k' hn).1, (ex_ln (fun z => hn (Or.inr (by omega)))).trans (l.2 o' k' hn).2⟩⟩
theorem cr_em {h h0 : am_H} {c sz a : Nat} {T : Nat → Int32} {C : sp_C} {x : Int32} (hc : 2 < c) (l : cr h0 c T sz (a, C) h) (hn : C.2.2.2.2.1 < a) : cr h0 c T sz (a, sp_em C x) (am_wI (am_wI h (c + 9) C.2.2.2.2.1 x) (c + 8) 2 (nI (C.2.2.2.2.1 + 1))) := by
  have hz := l.1.1.2.1
  have h4 := l.1.2.2.2.2.1
  have h5 := l.1.2.2.2.2.2.1
  obtain ⟨l1, ⟨⟨a1, a2, a3⟩, ⟨b1, b2, b3⟩, ⟨d1, d2, d3⟩, ⟨e1, e2, e3, e4⟩⟩, l3, l4⟩ := l
  have w : ∀ o k, ¬ o = c + 8 → ¬ o = c + 9 → (am_wI (am_wI h (c + 9) C.2.2.2.2.1 x) (c + 8) 2 (nI (C.2.2.2.2.1 + 1))).1 o k = h.1 o k := fun o k h1 h2 => by
    rw [em_wn _ _ (by omega), em_wn _ _ (by omega)]
  refine ⟨ct_wI (ct_wI l1 (by omega)) (by omega), ⟨⟨?_, a2, fun i hi => ⟨(a3 i hi).1, ?_, ?_⟩⟩, ⟨?_, b2, fun i hi => ⟨(b3 i hi).1, ?_, ?_, ?_⟩⟩, ⟨?_, ?_, d3⟩, ⟨?_, ?_, ?_, fun i hi => ?_⟩⟩, cq_wI (cq_wI l3 (by omega)) (by omega), ?_⟩
  · rw [w _ _ (by omega) (by omega)]; exact a1
  · rw [w _ _ (by omega) (by omega)]; exact (a3 i hi).2.1
  · rw [w _ _ (by omega) (by omega)]; exact (a3 i hi).2.2
  · rw [w _ _ (by omega) (by omega)]; exact b1
  · rw [w _ _ (by omega) (by omega)]; exact (b3 i hi).2.1
  · rw [w _ _ (by omega) (by omega)]; exact (b3 i hi).2.2.1
  · rw [w _ _ (by omega) (by omega)]; exact (b3 i hi).2.2.2
  · rw [w _ _ (by omega) (by omega)]; exact d1
  · rw [w _ _ (by omega) (by omega)]; exact d2
  · rw [w _ _ (by omega) (by omega)]; exact e1
  · exact em_we _ _ _ _
  · show C.2.2.2.2.1 + 1 ≤ 1000
    have h4 : a ≤ _ := h4
    have h5 : tk_pl T sz a ≤ sz := h5
    omega
  · show _ = (if i = C.2.2.2.2.1 then x else C.2.2.2.2.2 i)
    rw [em_wn _ _ (by omega)]
    have hi : i < C.2.2.2.2.1 + 1 := hi
    by_cases ei : i = C.2.2.2.2.1
    · rw [if_pos ei, ei]
      exact em_we _ _ _ _
    · rw [if_neg ei, em_wn _ _ (by omega)]
      exact e4 i (show i < C.2.2.2.2.1 by omega)
  · show C.2.2.2.2.1 + 1 ≤ a
    omega
theorem cx_w {h h0 : am_H} {c k : Nat} {F x : Int32} (hc : 2 < c) (l : cx h0 c F h) (hk : k < 1000) : cx h0 c F (am_wI (am_wI h (c + 9) k x) (c + 8) 2 (nI (k + 1))) :=
  ⟨l.1, ⟨by rw [em_wn _ _ (by omega), em_wn _ _ (by omega)]; exact l.2.1.1, l.2.1.2⟩, cq_wI (cq_wI l.2.2.1 (by omega)) (by omega), k + 1, by omega, em_we _ _ _ _⟩
/-- a reader of the law that does what the spec says -/
def lw_c (h0 : am_H) (c : Nat) (T : Nat → Int32) (sz d n : Nat) (dep : Int32) (f : sp_S → sp_R) : Prop := ∀ (s : sp_S) (h : am_H) (Q : am_Q), cr h0 c T sz s h → (∀ v h1, cres h0 c T sz (f s) v h1 → Q v h1) → am_call am_cod d n [.ref 4, .ref (c + 8), .int dep] h Q
theorem lw_up {h0 : am_H} {c sz d d' n : Nat} {T : Nat → Int32} {dep : Int32} {f : sp_S → sp_R} (k : lw_c h0 c T sz d n dep f) (hd : d ≤ d') : lw_c h0 c T sz d' n dep f := fun s h Q l q => (k s h Q l q).up hd
theorem cr_a {h h0 : am_H} {c sz : Nat} {T : Nat → Int32} {s : sp_S} (l : cr h0 c T sz s h) : s.1 ≤ sz ∧ sz ≤ 1000 := by
  have h4 := l.1.2.2.2.2.1
  have h5 := l.1.2.2.2.2.2.1
  exact ⟨Nat.le_trans h4 h5, l.1.1.2.1⟩
theorem cr_lt {h h0 : am_H} {c sz : Nat} {T : Nat → Int32} {s : sp_S} (l : cr h0 c T sz s h) (hn : ¬ (tt T sz s.1).1 = 0) : s.2.2.2.2.2.1 < 1000 := by
  have h1 : tk_pl T sz s.1 < sz := kz_lt hn
  have h2 := l.1.2.2.2.2.1
  have h3 := l.1.1.2.1
  have h4 := l.2.2.2
  omega
theorem i1000 {i : Nat} (hi : i < 1000) : ¬ (Int16.ofInt 1000).toInt32 ≤ nI i := by
  show ¬ nI 1000 ≤ nI i
  rw [nI_leI (by omega) (by omega)]
  omega
/-- a code is laid ahead of the step -/
def cr1 (h0 : am_H) (c : Nat) (T : Nat → Int32) (sz a : Nat) (C : sp_C) (h : am_H) : Prop := c_t T sz a h ∧ c_c c C h ∧ c_q c h0 h ∧ C.2.2.2.2.1 ≤ a + 1
theorem cr1_em {h h0 : am_H} {c sz : Nat} {T : Nat → Int32} {s : sp_S} {x : Int32} (hc : 2 < c) (l : cr h0 c T sz s h) (hn : s.2.2.2.2.2.1 < 1000) : cr1 h0 c T sz s.1 (sp_em s.2 x) (am_wI (am_wI h (c + 9) s.2.2.2.2.2.1 x) (c + 8) 2 (nI (s.2.2.2.2.2.1 + 1))) := by
  obtain ⟨l1, ⟨⟨a1, a2, a3⟩, ⟨b1, b2, b3⟩, ⟨d1, d2, d3⟩, ⟨e1, e2, e3, e4⟩⟩, l3, l4⟩ := l
  have w : ∀ o k, ¬ o = c + 8 → ¬ o = c + 9 → (am_wI (am_wI h (c + 9) s.2.2.2.2.2.1 x) (c + 8) 2 (nI (s.2.2.2.2.2.1 + 1))).1 o k = h.1 o k := fun o k h1 h2 => by
    rw [em_wn _ _ (by omega), em_wn _ _ (by omega)]
  refine ⟨ct_wI (ct_wI l1 (by omega)) (by omega), ⟨⟨?_, a2, fun i hi => ⟨(a3 i hi).1, ?_, ?_⟩⟩, ⟨?_, b2, fun i hi => ⟨(b3 i hi).1, ?_, ?_, ?_⟩⟩, ⟨?_, ?_, d3⟩, ⟨?_, ?_, ?_, fun i hi => ?_⟩⟩, cq_wI (cq_wI l3 (by omega)) (by omega), ?_⟩
  · rw [w _ _ (by omega) (by omega)]; exact a1
  · rw [w _ _ (by omega) (by omega)]; exact (a3 i hi).2.1
  · rw [w _ _ (by omega) (by omega)]; exact (a3 i hi).2.2
  · rw [w _ _ (by omega) (by omega)]; exact b1
  · rw [w _ _ (by omega) (by omega)]; exact (b3 i hi).2.1
  · rw [w _ _ (by omega) (by omega)]; exact (b3 i hi).2.2.1
  · rw [w _ _ (by omega) (by omega)]; exact (b3 i hi).2.2.2
  · rw [w _ _ (by omega) (by omega)]; exact d1
  · rw [w _ _ (by omega) (by omega)]; exact d2
  · rw [w _ _ (by omega) (by omega)]; exact e1
  · exact em_we _ _ _ _
  · show s.2.2.2.2.2.1 + 1 ≤ 1000
    omega
  · show _ = (if i = s.2.2.2.2.2.1 then x else s.2.2.2.2.2.2 i)
    rw [em_wn _ _ (by omega)]
    have hi : i < s.2.2.2.2.2.1 + 1 := hi
    by_cases ei : i = s.2.2.2.2.2.1
    · rw [if_pos ei, ei]
      exact em_we _ _ _ _
    · rw [if_neg ei, em_wn _ _ (by omega)]
      exact e4 i (by omega)
  · show s.2.2.2.2.2.1 + 1 ≤ s.1 + 1
    omega
theorem cr_em2 {h h1 h0 : am_H} {c sz a : Nat} {T : Nat → Int32} {C : sp_C} (hc : 1 < c) (l : cr1 h0 c T sz a C h) (t : c_t T sz (a + 1) h1) (f : fr1 h h1) : cr h0 c T sz (a + 1, C) h1 := ⟨t, c_c_fr hc l.2.1 f, c_q_fr l.2.2.1 f, l.2.2.2⟩
theorem c_fan {τ : sp_T} {a : Nat} (e : ¬ sp_fa τ a = 0) : ¬ (τ a).1 = 0 := by
  intro z
  apply e
  have k : sp_k τ a 1 = false := decide_eq_false (by rw [z]; decide)
  unfold sp_fa sp_w
  rw [k]
  rfl
variable {h h0 : am_H} {sz a d : Nat} {T : Nat → Int32} {Q : am_Q} {s : sp_S} {p : sp_S → sp_R} {dep : Int32}
theorem ex_4 {h : am_H} (hP : ex_P h) : am_sh h 4 = some (4, 0) := (ex_so hP (by decide +kernel)).2
theorem ex_14 {h : am_H} (hP : ex_P h) : am_sh h 14 = some (3, 0) := (ex_so hP (by decide +kernel)).2
theorem ex_15 {h : am_H} (hP : ex_P h) : am_sh h 15 = some (13, 1000) := (ex_so hP (by decide +kernel)).2
theorem ex_w15 {h : am_H} (hP : ex_P h) : am_so h 15 = some (13, 1000) := (ex_so hP (by decide +kernel)).1
theorem ex_r4_0 {h : am_H} (hP : ex_P h) : h.2.2.1 4 0 = some 1 := hP.2 4 0 1 (by decide +kernel)
theorem ex_r14_0 {h : am_H} (hP : ex_P h) : h.2.2.1 14 0 = some 15 := hP.2 14 0 15 (by decide +kernel)
theorem c_add_6 {x : Int32} {C : sp_C} (l : cr h0 6 T sz (a, C) h) (hn : C.2.2.2.2.1 < a) (hQ : ∀ h1, cr h0 6 T sz (a, sp_em C x) h1 → Q none h1) : am_call am_cod 1 77 [.ref 14, .int x] h Q := by
  have hP := c_P l.1
  have ha := cr_a l
  have e2 : h.1 14 2 = nI C.2.2.2.2.1 := l.2.1.2.2.2.2.1
  have hk : C.2.2.2.2.1 < 1000 := by
    have h1 : a ≤ sz := ha.1
    omega
  refine pz_call (n := 77) (nL := 2) (rt := none) (rows := am_r77) (d := 0) (by decide +kernel) (by decide +kernel) rfl (by funext pc; rfl) (ex_175 hP) (by exact Nat.le_of_ble_eq_true rfl) ?_
  refine am_goX 3 (show am_sh h 14 = some (3, 0) ∧ pz_S 2 none am_r77 0 Q 7 [(0, .ref 14), (1, .int x)] [.int (Int16.ofInt 1000).toInt32, .int (h.1 14 2)] h from ⟨ex_14 hP, ?_⟩)
  rw [e2]
  refine am_goX 1 (show ((Int16.ofInt 1000).toInt32 ≤ (nI C.2.2.2.2.1) → pz_S 2 none am_r77 0 Q 30 [(0, .ref 14), (1, .int x)] [] h) ∧ (¬ ((Int16.ofInt 1000).toInt32 ≤ (nI C.2.2.2.2.1)) → pz_S 2 none am_r77 0 Q 10 [(0, .ref 14), (1, .int x)] [] h) from ⟨fun hz => absurd hz (i1000 hk), fun _ => ?_⟩)
  refine am_goX 2 (show am_sh h 14 = some (3, 0) ∧ pz_S 2 none am_r77 0 Q 14 [(0, .ref 14), (1, .int x)] [am_rf (h.2.2.1 14 0)] h from ⟨ex_14 hP, ?_⟩)
  rw [ex_r14_0 hP]
  refine am_goX 4 (show am_sh h 14 = some (3, 0) ∧ ∃ jj nn : Nat, am_so h 15 = some (13, nn) ∧ jj < nn ∧ (h.1 14 2) = nI jj ∧ pz_S 2 none am_r77 0 Q 20 [(0, .ref 14), (1, .int x)] [] (am_wI h 15 jj (x)) from ⟨ex_14 hP, C.2.2.2.2.1, 1000, ex_w15 hP, hk, e2, ?_⟩)
  refine am_goX 6 (show (Value.ref 14).category = 1 ∧ am_sh (am_wI h 15 (C.2.2.2.2.1) (x)) 14 = some (3, 0) ∧ am_sh (am_wI h 15 (C.2.2.2.2.1) (x)) 14 = some (3, 0) ∧ narrow (am_fty 3 2) (.int ((((am_wI h 15 (C.2.2.2.2.1) (x)).1 14 2) + (Int32.ofInt 1)))) = .int ((((am_wI h 15 (C.2.2.2.2.1) (x)).1 14 2) + (Int32.ofInt 1))) ∧ fits (am_fty 3 2) (.int ((((am_wI h 15 (C.2.2.2.2.1) (x)).1 14 2) + (Int32.ofInt 1)))) = true ∧ pz_S 2 none am_r77 0 Q 30 [(0, .ref 14), (1, .int x)] [] (am_wI (am_wI h 15 (C.2.2.2.2.1) (x)) 14 2 ((((am_wI h 15 (C.2.2.2.2.1) (x)).1 14 2) + (Int32.ofInt 1)))) from ⟨rfl, ex_14 hP, ex_14 hP, rfl, rfl, ?_⟩)
  rw [em_wn h _ (by omega), e2, xw_i1]
  exact am_goX 1 (show (none : Option FieldType) = none ∧ (am_wI (am_wI h 15 C.2.2.2.2.1 x) 14 2 (nI (C.2.2.2.2.1 + 1))).2.2.2.2 = 175 ∧ _ from ⟨rfl, ex_175 hP, hQ _ (cr_em (c := 6) (by decide) l hn)⟩)
theorem c_addx_6 {x F : Int32} (l : cx h0 6 F h) (hQ : ∀ h1, cx h0 6 F h1 → Q none h1) : am_call am_cod 1 77 [.ref 14, .int x] h Q := by
  have hP := l.1
  obtain ⟨k, hk0, e2⟩ := l.2.2.2
  have e2 : h.1 14 2 = nI k := e2
  refine pz_call (n := 77) (nL := 2) (rt := none) (rows := am_r77) (d := 0) (by decide +kernel) (by decide +kernel) rfl (by funext pc; rfl) (ex_175 hP) (by exact Nat.le_of_ble_eq_true rfl) ?_
  refine am_goX 3 (show am_sh h 14 = some (3, 0) ∧ pz_S 2 none am_r77 0 Q 7 [(0, .ref 14), (1, .int x)] [.int (Int16.ofInt 1000).toInt32, .int (h.1 14 2)] h from ⟨ex_14 hP, ?_⟩)
  rw [e2]
  refine am_goX 1 (show ((Int16.ofInt 1000).toInt32 ≤ (nI k) → pz_S 2 none am_r77 0 Q 30 [(0, .ref 14), (1, .int x)] [] h) ∧ (¬ ((Int16.ofInt 1000).toInt32 ≤ (nI k)) → pz_S 2 none am_r77 0 Q 10 [(0, .ref 14), (1, .int x)] [] h) from ⟨fun hc => ?_, fun hc => ?_⟩)
  · exact am_goX 1 (show (none : Option FieldType) = none ∧ h.2.2.2.2 = 175 ∧ _ from ⟨rfl, ex_175 hP, hQ _ l⟩)
  have hk : k < 1000 := by
    have hc1 : ¬ nI 1000 ≤ nI k := hc
    rw [nI_leI (by omega) (by omega)] at hc1
    omega
  clear hc
  refine am_goX 2 (show am_sh h 14 = some (3, 0) ∧ pz_S 2 none am_r77 0 Q 14 [(0, .ref 14), (1, .int x)] [am_rf (h.2.2.1 14 0)] h from ⟨ex_14 hP, ?_⟩)
  rw [ex_r14_0 hP]
  refine am_goX 4 (show am_sh h 14 = some (3, 0) ∧ ∃ jj nn : Nat, am_so h 15 = some (13, nn) ∧ jj < nn ∧ (h.1 14 2) = nI jj ∧ pz_S 2 none am_r77 0 Q 20 [(0, .ref 14), (1, .int x)] [] (am_wI h 15 jj (x)) from ⟨ex_14 hP, k, 1000, ex_w15 hP, hk, e2, ?_⟩)
  refine am_goX 6 (show (Value.ref 14).category = 1 ∧ am_sh (am_wI h 15 (k) (x)) 14 = some (3, 0) ∧ am_sh (am_wI h 15 (k) (x)) 14 = some (3, 0) ∧ narrow (am_fty 3 2) (.int ((((am_wI h 15 (k) (x)).1 14 2) + (Int32.ofInt 1)))) = .int ((((am_wI h 15 (k) (x)).1 14 2) + (Int32.ofInt 1))) ∧ fits (am_fty 3 2) (.int ((((am_wI h 15 (k) (x)).1 14 2) + (Int32.ofInt 1)))) = true ∧ pz_S 2 none am_r77 0 Q 30 [(0, .ref 14), (1, .int x)] [] (am_wI (am_wI h 15 (k) (x)) 14 2 ((((am_wI h 15 (k) (x)).1 14 2) + (Int32.ofInt 1)))) from ⟨rfl, ex_14 hP, ex_14 hP, rfl, rfl, ?_⟩)
  rw [em_wn h _ (by omega), e2, xw_i1]
  exact am_goX 1 (show (none : Option FieldType) = none ∧ (am_wI (am_wI h 15 k x) 14 2 (nI (k + 1))).2.2.2.2 = 175 ∧ _ from ⟨rfl, ex_175 hP, hQ _ (cx_w (c := 6) (by decide) l hk)⟩)
theorem c_fact_6 (l : cr h0 6 T sz s h) (hQ : Q (some (.int (sp_fa (tt T sz) s.1))) h) : am_call am_cod 6 76 [.ref 4] h Q := by
  have hP := c_P l.1
  unfold sp_fa at hQ
  refine pz_call (n := 76) (nL := 1) (rt := (some .int)) (rows := am_r76) (d := 5) (by decide +kernel) (by decide +kernel) rfl (by funext pc; rfl) (ex_175 hP) (by exact Nat.le_of_ble_eq_true rfl) ?_
  refine am_goX 2 (show am_sh h 4 = some (4, 0) ∧ pz_S 1 (some .int) am_r76 5 Q 4 [(0, .ref 4)] [am_rf (h.2.2.1 4 0)] h from ⟨ex_4 (c_P l.1), ?_⟩)
  rw [ex_r4_0 (c_P l.1)]
  refine am_goX 2 (show am_rc h 1 7 ∧ 0 ≤ 8 ∧ h.2.2.2.2 + am_al 44 ≤ 175 ∧ am_call am_cod 5 44 [.ref 1, .ref (4000000 + 14)] h (fun vv h' => pz_S 1 (some .int) am_r76 5 Q 9 [(0, .ref 4)] (vv.toList ++ []) h') from ⟨Or.inl ⟨by decide, ex_1 (c_P l.1)⟩, by decide, ex_lim (c_P l.1) rfl, am_call.up (c_isw (by decide) wq_14 l.1 ?_) (by omega)⟩)
  cases e1 : sp_w (tt T sz) s.1 20763 with
  | true =>
    refine am_goX 1 (show ((pz_b (true)) = 0 → pz_S 1 (some .int) am_r76 5 Q 14 [(0, .ref 4)] [] h) ∧ (¬ ((pz_b (true)) = 0) → pz_S 1 (some .int) am_r76 5 Q 12 [(0, .ref 4)] [] h) from ⟨fun hz => absurd hz (by decide), fun _ => ?_⟩)
    refine am_goX 1 (show pz_S 1 (some .int) am_r76 5 Q 13 [(0, .ref 4)] [.int (Int32.ofInt (-1))] h from ?_)
    simp only [e1, cond_true, cond_false] at hQ
    exact am_goX 1 (show (∃ ty, (some .int) = some ty ∧ narrow ty (.int ((Int32.ofInt (-1)))) = .int ((Int32.ofInt (-1)))) ∧ h.2.2.2.2 = 175 ∧ _ from ⟨⟨.int, rfl, rfl⟩, ex_175 (c_P l.1), hQ⟩)
  | false =>
    refine am_goX 1 (show ((pz_b (false)) = 0 → pz_S 1 (some .int) am_r76 5 Q 14 [(0, .ref 4)] [] h) ∧ (¬ ((pz_b (false)) = 0) → pz_S 1 (some .int) am_r76 5 Q 12 [(0, .ref 4)] [] h) from ⟨fun _ => ?_, fun hz => absurd (by decide) hz⟩)
    refine am_goX 2 (show am_sh h 4 = some (4, 0) ∧ pz_S 1 (some .int) am_r76 5 Q 18 [(0, .ref 4)] [am_rf (h.2.2.1 4 0)] h from ⟨ex_4 (c_P l.1), ?_⟩)
    rw [ex_r4_0 (c_P l.1)]
    refine am_goX 2 (show am_rc h 1 7 ∧ 0 ≤ 8 ∧ h.2.2.2.2 + am_al 44 ≤ 175 ∧ am_call am_cod 5 44 [.ref 1, .ref (4000000 + 15)] h (fun vv h' => pz_S 1 (some .int) am_r76 5 Q 23 [(0, .ref 4)] (vv.toList ++ []) h') from ⟨Or.inl ⟨by decide, ex_1 (c_P l.1)⟩, by decide, ex_lim (c_P l.1) rfl, am_call.up (c_isw (by decide) wq_15 l.1 ?_) (by omega)⟩)
    cases e2 : sp_w (tt T sz) s.1 1172060 with
    | true =>
      refine am_goX 1 (show ((pz_b (true)) = 0 → pz_S 1 (some .int) am_r76 5 Q 29 [(0, .ref 4)] [] h) ∧ (¬ ((pz_b (true)) = 0) → pz_S 1 (some .int) am_r76 5 Q 26 [(0, .ref 4)] [] h) from ⟨fun hz => absurd hz (by decide), fun _ => ?_⟩)
      refine am_goX 1 (show pz_S 1 (some .int) am_r76 5 Q 28 [(0, .ref 4)] [.int (Int8.ofInt (-2)).toInt32] h from ?_)
      simp only [e1, e2, cond_true, cond_false] at hQ
      exact am_goX 1 (show (∃ ty, (some .int) = some ty ∧ narrow ty (.int ((Int8.ofInt (-2)).toInt32)) = .int ((Int8.ofInt (-2)).toInt32)) ∧ h.2.2.2.2 = 175 ∧ _ from ⟨⟨.int, rfl, rfl⟩, ex_175 (c_P l.1), hQ⟩)
    | false =>
      refine am_goX 1 (show ((pz_b (false)) = 0 → pz_S 1 (some .int) am_r76 5 Q 29 [(0, .ref 4)] [] h) ∧ (¬ ((pz_b (false)) = 0) → pz_S 1 (some .int) am_r76 5 Q 26 [(0, .ref 4)] [] h) from ⟨fun _ => ?_, fun hz => absurd (by decide) hz⟩)
      refine am_goX 2 (show am_sh h 4 = some (4, 0) ∧ pz_S 1 (some .int) am_r76 5 Q 33 [(0, .ref 4)] [am_rf (h.2.2.1 4 0)] h from ⟨ex_4 (c_P l.1), ?_⟩)
      rw [ex_r4_0 (c_P l.1)]
      refine am_goX 2 (show am_rc h 1 7 ∧ 0 ≤ 8 ∧ h.2.2.2.2 + am_al 44 ≤ 175 ∧ am_call am_cod 5 44 [.ref 1, .ref (4000000 + 16)] h (fun vv h' => pz_S 1 (some .int) am_r76 5 Q 38 [(0, .ref 4)] (vv.toList ++ []) h') from ⟨Or.inl ⟨by decide, ex_1 (c_P l.1)⟩, by decide, ex_lim (c_P l.1) rfl, am_call.up (c_isw (by decide) wq_16 l.1 ?_) (by omega)⟩)
      cases e3 : sp_w (tt T sz) s.1 18002 with
      | true =>
        refine am_goX 1 (show ((pz_b (true)) = 0 → pz_S 1 (some .int) am_r76 5 Q 44 [(0, .ref 4)] [] h) ∧ (¬ ((pz_b (true)) = 0) → pz_S 1 (some .int) am_r76 5 Q 41 [(0, .ref 4)] [] h) from ⟨fun hz => absurd hz (by decide), fun _ => ?_⟩)
        refine am_goX 1 (show pz_S 1 (some .int) am_r76 5 Q 43 [(0, .ref 4)] [.int (Int8.ofInt (-3)).toInt32] h from ?_)
        simp only [e1, e2, e3, cond_true, cond_false] at hQ
        exact am_goX 1 (show (∃ ty, (some .int) = some ty ∧ narrow ty (.int ((Int8.ofInt (-3)).toInt32)) = .int ((Int8.ofInt (-3)).toInt32)) ∧ h.2.2.2.2 = 175 ∧ _ from ⟨⟨.int, rfl, rfl⟩, ex_175 (c_P l.1), hQ⟩)
      | false =>
        refine am_goX 1 (show ((pz_b (false)) = 0 → pz_S 1 (some .int) am_r76 5 Q 44 [(0, .ref 4)] [] h) ∧ (¬ ((pz_b (false)) = 0) → pz_S 1 (some .int) am_r76 5 Q 41 [(0, .ref 4)] [] h) from ⟨fun _ => ?_, fun hz => absurd (by decide) hz⟩)
        refine am_goX 2 (show am_sh h 4 = some (4, 0) ∧ pz_S 1 (some .int) am_r76 5 Q 48 [(0, .ref 4)] [am_rf (h.2.2.1 4 0)] h from ⟨ex_4 (c_P l.1), ?_⟩)
        rw [ex_r4_0 (c_P l.1)]
        refine am_goX 2 (show am_rc h 1 7 ∧ 0 ≤ 8 ∧ h.2.2.2.2 + am_al 44 ≤ 175 ∧ am_call am_cod 5 44 [.ref 1, .ref (4000000 + 17)] h (fun vv h' => pz_S 1 (some .int) am_r76 5 Q 53 [(0, .ref 4)] (vv.toList ++ []) h') from ⟨Or.inl ⟨by decide, ex_1 (c_P l.1)⟩, by decide, ex_lim (c_P l.1) rfl, am_call.up (c_isw (by decide) wq_17 l.1 ?_) (by omega)⟩)
        cases e4 : sp_w (tt T sz) s.1 43523993 with
        | true =>
          refine am_goX 1 (show ((pz_b (true)) = 0 → pz_S 1 (some .int) am_r76 5 Q 61 [(0, .ref 4)] [] h) ∧ (¬ ((pz_b (true)) = 0) → pz_S 1 (some .int) am_r76 5 Q 56 [(0, .ref 4)] [] h) from ⟨fun hz => absurd hz (by decide), fun _ => ?_⟩)
          refine am_goX 2 (show pz_S 1 (some .int) am_r76 5 Q 62 [(0, .ref 4)] [.int (Int8.ofInt (-4)).toInt32] h from ?_)
          simp only [e1, e2, e3, e4, cond_true, cond_false] at hQ
          exact am_goX 1 (show (∃ ty, (some .int) = some ty ∧ narrow ty (.int ((Int8.ofInt (-4)).toInt32)) = .int ((Int8.ofInt (-4)).toInt32)) ∧ h.2.2.2.2 = 175 ∧ _ from ⟨⟨.int, rfl, rfl⟩, ex_175 (c_P l.1), hQ⟩)
        | false =>
          refine am_goX 1 (show ((pz_b (false)) = 0 → pz_S 1 (some .int) am_r76 5 Q 61 [(0, .ref 4)] [] h) ∧ (¬ ((pz_b (false)) = 0) → pz_S 1 (some .int) am_r76 5 Q 56 [(0, .ref 4)] [] h) from ⟨fun _ => ?_, fun hz => absurd (by decide) hz⟩)
          refine am_goX 1 (show pz_S 1 (some .int) am_r76 5 Q 62 [(0, .ref 4)] [.int (Int32.ofInt 0)] h from ?_)
          simp only [e1, e2, e3, e4, cond_true, cond_false] at hQ
          exact am_goX 1 (show (∃ ty, (some .int) = some ty ∧ narrow ty (.int ((Int32.ofInt 0))) = .int ((Int32.ofInt 0))) ∧ h.2.2.2.2 = 175 ∧ _ from ⟨⟨.int, rfl, rfl⟩, ex_175 (c_P l.1), hQ⟩)
theorem c_74l_6 (hd : 6 ≤ d) (ks : lw_c h0 6 T sz d 75 dep (p)) (hok : sp_ok (p)) : ∀ (m i : Nat) (s : sp_S) (h : am_H) (Q : am_Q), sz < s.1 + m → i + 1 ≤ s.1 → cr h0 6 T sz s h → (∀ v h1, cres h0 6 T sz (sp_pL (tt T sz) p m s) v h1 → Q v h1) → pz_S 5 (some .boolean) am_r74 d Q 10 [(4, .int (nI i)), (3, .int 1), (0, .ref 4), (1, .ref 14), (2, .int dep)] [] h := by
  intro m
  induction m with
  | zero =>
    intro i s h Q hm hi l hQ
    have := (cr_a l).1
    omega
  | succ m ih =>
    intro i s h Q hm hi l hQ
    have ha := cr_a l
    refine am_goX 2 (show (1 = 0 → pz_S 5 (some .boolean) am_r74 d Q 62 [(4, .int (nI i)), (3, .int 1), (0, .ref 4), (1, .ref 14), (2, .int dep)] [] h) ∧ (¬ (1 = 0) → pz_S 5 (some .boolean) am_r74 d Q 14 [(4, .int (nI i)), (3, .int 1), (0, .ref 4), (1, .ref 14), (2, .int dep)] [] h) from ⟨fun hz => absurd hz (by decide), fun _ => ?_⟩)
    refine am_goX 3 (show ((Int16.ofInt 1000).toInt32 ≤ (nI i) → pz_S 5 (some .boolean) am_r74 d Q 62 [(4, .int (nI i)), (3, .int 1), (0, .ref 4), (1, .ref 14), (2, .int dep)] [] h) ∧ (¬ ((Int16.ofInt 1000).toInt32 ≤ (nI i)) → pz_S 5 (some .boolean) am_r74 d Q 22 [(4, .int (nI i)), (3, .int 1), (0, .ref 4), (1, .ref 14), (2, .int dep)] [] h) from ⟨fun hz => absurd hz (i1000 (by omega)), fun _ => ?_⟩)
    refine am_goX 2 (show am_sh h 4 = some (4, 0) ∧ pz_S 5 (some .boolean) am_r74 d Q 26 [(4, .int (nI i)), (3, .int 1), (0, .ref 4), (1, .ref 14), (2, .int dep)] [am_rf (h.2.2.1 4 0)] h from ⟨ex_4 (c_P l.1), ?_⟩)
    rw [ex_r4_0 (c_P l.1)]
    refine am_goX 2 (show am_rc h 1 7 ∧ 0 ≤ 8 ∧ h.2.2.2.2 + am_al 62 ≤ 175 ∧ am_call am_cod d 62 [.ref 1, .int (Int8.ofInt 42).toInt32] h (fun vv h' => pz_S 5 (some .boolean) am_r74 d Q 31 [(4, .int (nI i)), (3, .int 1), (0, .ref 4), (1, .ref 14), (2, .int dep)] (vv.toList ++ []) h') from ⟨Or.inl ⟨by decide, ex_1 (c_P l.1)⟩, by decide, ex_lim (c_P l.1) rfl, am_call.up (c_iss l.1 ?_) (by omega)⟩)
    cases e5 : sp_s (tt T sz) s.1 (Int8.ofInt 42).toInt32 with
    | true =>
      refine am_goX 1 (show (¬ (pz_b (true)) = 0 → pz_S 5 (some .boolean) am_r74 d Q 36 [(4, .int (nI i)), (3, .int 1), (0, .ref 4), (1, .ref 14), (2, .int dep)] [] h) ∧ (¬ ¬ (pz_b (true)) = 0 → pz_S 5 (some .boolean) am_r74 d Q 34 [(4, .int (nI i)), (3, .int 1), (0, .ref 4), (1, .ref 14), (2, .int dep)] [] h) from ⟨fun _ => ?_, fun hz => absurd (by decide) hz⟩)
      refine am_goX 2 (show am_sh h 4 = some (4, 0) ∧ pz_S 5 (some .boolean) am_r74 d Q 40 [(4, .int (nI i)), (3, .int 1), (0, .ref 4), (1, .ref 14), (2, .int dep)] [am_rf (h.2.2.1 4 0)] h from ⟨ex_4 (c_P l.1), ?_⟩)
      rw [ex_r4_0 (c_P l.1)]
      refine am_goX 1 (show am_rc h 1 7 ∧ 0 ≤ 8 ∧ h.2.2.2.2 + am_al 18 ≤ 175 ∧ am_call am_cod d 18 [.ref 1] h (fun vv h' => pz_S 5 (some .boolean) am_r74 d Q 43 [(4, .int (nI i)), (3, .int 1), (0, .ref 4), (1, .ref 14), (2, .int dep)] (vv.toList ++ []) h') from ⟨Or.inl ⟨by decide, ex_1 (c_P l.1)⟩, by decide, ex_lim (c_P l.1) rfl, am_call.up (c_step l.1 (sp_sn e5) (fun h6 m7 f8 => ?_)) (by omega)⟩)
      have l9 : cr h0 6 T sz ((s.1 + 1), s.2) h6 := cr_fr (a := s.1) (C := s.2) (by decide) l m7 (Nat.le_succ _) f8
      refine am_goX 4 (show am_rc h6 4 4 ∧ 0 ≤ 8 ∧ h6.2.2.2.2 + am_al 75 ≤ 175 ∧ am_call am_cod d 75 [.ref 4, .ref 14, .int dep] h6 (fun vv h' => pz_S 5 (some .boolean) am_r74 d Q 49 [(4, .int (nI i)), (3, .int 1), (0, .ref 4), (1, .ref 14), (2, .int dep)] (vv.toList ++ []) h') from ⟨Or.inl ⟨by decide, ex_4 (c_P l9.1)⟩, by decide, ex_lim (c_P l9.1) rfl, ks _ _ _ l9 (fun v10 h11 x12 => ?_)⟩)
      rcases cres_cs x12 with ⟨F14, e16, rfl, y17⟩ | ⟨t15, e16, rfl, y17⟩
      ·
        refine am_goX 4 (show 3 < 5 ∧ am_rc h11 14 3 ∧ 0 ≤ 8 ∧ h11.2.2.2.2 + am_al 77 ≤ 175 ∧ am_call am_cod d 77 [.ref 14, .int (Int8.ofInt (-12)).toInt32] h11 (fun vv h' => pz_S 5 (some .boolean) am_r74 d Q 56 [(3, .int 0), (4, .int (nI i)), (0, .ref 4), (1, .ref 14), (2, .int dep)] (vv.toList ++ []) h') from ⟨by decide, Or.inl ⟨by decide, ex_14 y17.1⟩, by decide, ex_lim y17.1 rfl, am_call.up (c_addx_6 y17 (fun h18 y19 => ?_)) (by omega)⟩)
        refine am_goX 4 (show 4 < 5 ∧ (0 = 0 → pz_S 5 (some .boolean) am_r74 d Q 62 [(4, .int ((nI i) + Int32.ofInt 1)), (3, .int 0), (0, .ref 4), (1, .ref 14), (2, .int dep)] [] h18) ∧ (¬ (0 = 0) → pz_S 5 (some .boolean) am_r74 d Q 14 [(4, .int ((nI i) + Int32.ofInt 1)), (3, .int 0), (0, .ref 4), (1, .ref 14), (2, .int dep)] [] h18) from ⟨by decide, fun _ => ?_, fun hz => absurd (by decide) hz⟩)
        exact am_goX 2 (show (∃ ty, (some .boolean) = some ty ∧ narrow ty (.int (0)) = .int (0)) ∧ h18.2.2.2.2 = 175 ∧ _ from ⟨⟨.boolean, rfl, rfl⟩, ex_175 y19.1, hQ _ _ (cres_inl (F := F14) (by simp only [sp_pL, sp_b, sp_f, cond_true, cond_false, e5, e16]) rfl y19)⟩)
      ·
        refine am_goX 4 (show 3 < 5 ∧ am_rc h11 14 3 ∧ 0 ≤ 8 ∧ h11.2.2.2.2 + am_al 77 ≤ 175 ∧ am_call am_cod d 77 [.ref 14, .int (Int8.ofInt (-12)).toInt32] h11 (fun vv h' => pz_S 5 (some .boolean) am_r74 d Q 56 [(3, .int 1), (4, .int (nI i)), (0, .ref 4), (1, .ref 14), (2, .int dep)] (vv.toList ++ []) h') from ⟨by decide, Or.inl ⟨by decide, ex_14 (c_P y17.1)⟩, by decide, ex_lim (c_P y17.1) rfl, am_call.up (c_add_6 (a := t15.1) (C := t15.2) y17 (by
            have h7 := hok _ _ e16
            have h8 := l.2.2.2
            unfold sp_le at h7
            dsimp only at h7
            omega) (fun h20 l21 => ?_)) (by omega)⟩)
        refine am_goX 2 (show 4 < 5 ∧ pz_S 5 (some .boolean) am_r74 d Q 10 [(4, .int ((nI i) + Int32.ofInt 1)), (3, .int 1), (0, .ref 4), (1, .ref 14), (2, .int dep)] [] h20 from ⟨by decide, ?_⟩)
        rw [xw_i1]
        have hx : sp_pL (tt T sz) p (m + 1) s = sp_pL (tt T sz) p m (t15.1, sp_em t15.2 ((Int8.ofInt (-12)).toInt32)) := by simp only [sp_pL, sp_b, cond_true, cond_false, e5, e16]
        have h7 := hok _ _ e16
        unfold sp_le at h7
        dsimp only at h7
        exact ih (i + 1) (t15.1, sp_em t15.2 ((Int8.ofInt (-12)).toInt32)) h20 Q (by dsimp only; omega) (by dsimp only; omega) l21 (fun v h1 q => hQ v h1 (by rw [hx]; exact q))
    | false =>
      refine am_goX 1 (show (¬ (pz_b (false)) = 0 → pz_S 5 (some .boolean) am_r74 d Q 36 [(4, .int (nI i)), (3, .int 1), (0, .ref 4), (1, .ref 14), (2, .int dep)] [] h) ∧ (¬ ¬ (pz_b (false)) = 0 → pz_S 5 (some .boolean) am_r74 d Q 34 [(4, .int (nI i)), (3, .int 1), (0, .ref 4), (1, .ref 14), (2, .int dep)] [] h) from ⟨fun hz => absurd hz (by decide), fun _ => ?_⟩)
      exact am_goX 2 (show (∃ ty, (some .boolean) = some ty ∧ narrow ty (.int ((Int32.ofInt 1))) = .int ((Int32.ofInt 1))) ∧ h.2.2.2.2 = 175 ∧ _ from ⟨⟨.boolean, rfl, rfl⟩, ex_175 (c_P l.1), hQ _ _ (cres_inr (s' := s) (by simp only [sp_pL, sp_b, sp_f, cond_true, cond_false, e5]) rfl l)⟩)
theorem c_74_6 (hd : 6 ≤ d) (ks : lw_c h0 6 T sz d 75 dep (p)) (hok : sp_ok (p)) : lw_c h0 6 T sz (d + 1) 74 dep (sp_p (tt T sz) p) := by
  intro s h Q l hQ
  have hP := c_P l.1
  have ha := cr_a l
  refine pz_call (n := 74) (nL := 5) (rt := (some .boolean)) (rows := am_r74) (d := d) (by decide +kernel) (by decide +kernel) rfl (by funext pc; rfl) (ex_175 hP) (by exact Nat.le_of_ble_eq_true rfl) ?_
  refine am_goX 4 (show am_rc h 4 4 ∧ 0 ≤ 8 ∧ h.2.2.2.2 + am_al 75 ≤ 175 ∧ am_call am_cod d 75 [.ref 4, .ref 14, .int dep] h (fun vv h' => pz_S 5 (some .boolean) am_r74 d Q 6 [(0, .ref 4), (1, .ref 14), (2, .int dep)] (vv.toList ++ []) h') from ⟨Or.inl ⟨by decide, ex_4 (c_P l.1)⟩, by decide, ex_lim (c_P l.1) rfl, ks _ _ _ l (fun v22 h23 x24 => ?_)⟩)
  rcases cres_cs x24 with ⟨F26, e28, rfl, y29⟩ | ⟨t27, e28, rfl, y29⟩
  ·
    refine am_goX 5 (show 3 < 5 ∧ 4 < 5 ∧ (0 = 0 → pz_S 5 (some .boolean) am_r74 d Q 62 [(4, .int (Int32.ofInt 0)), (3, .int 0), (0, .ref 4), (1, .ref 14), (2, .int dep)] [] h23) ∧ (¬ (0 = 0) → pz_S 5 (some .boolean) am_r74 d Q 14 [(4, .int (Int32.ofInt 0)), (3, .int 0), (0, .ref 4), (1, .ref 14), (2, .int dep)] [] h23) from ⟨by decide, by decide, fun _ => ?_, fun hz => absurd (by decide) hz⟩)
    exact am_goX 2 (show (∃ ty, (some .boolean) = some ty ∧ narrow ty (.int (0)) = .int (0)) ∧ h23.2.2.2.2 = 175 ∧ _ from ⟨⟨.boolean, rfl, rfl⟩, ex_175 y29.1, hQ _ _ (cres_inl (F := F26) (by simp only [sp_p, sp_b, sp_f, cond_true, cond_false, e28]) rfl y29)⟩)
  ·
    refine am_goX 3 (show 3 < 5 ∧ 4 < 5 ∧ pz_S 5 (some .boolean) am_r74 d Q 10 [(4, .int (Int32.ofInt 0)), (3, .int 1), (0, .ref 4), (1, .ref 14), (2, .int dep)] [] h23 from ⟨by decide, by decide, ?_⟩)
    have h7 := hok _ _ e28
    unfold sp_le at h7
    exact c_74l_6 hd ks hok 1001 0 t27 h23 Q (by omega) (by omega) y29 (fun v h1 q => hQ v h1 (by unfold sp_p; rw [e28]; exact q))
theorem c_73l_6 (hd : 6 ≤ d) (ks : lw_c h0 6 T sz d 74 dep (sp_p (tt T sz) p)) (hok : sp_ok (sp_p (tt T sz) p)) : ∀ (m i : Nat) (s : sp_S) (h : am_H) (Q : am_Q) (y5 : Int32), sz < s.1 + m → i + 1 ≤ s.1 → cr h0 6 T sz s h → (∀ v h1, cres h0 6 T sz (sp_sL (tt T sz) p m s) v h1 → Q v h1) → pz_S 6 (some .boolean) am_r73 d Q 10 [(4, .int (nI i)), (3, .int 1), (5, .int y5), (0, .ref 4), (1, .ref 14), (2, .int dep)] [] h := by
  intro m
  induction m with
  | zero =>
    intro i s h Q y5 hm hi l hQ
    have := (cr_a l).1
    omega
  | succ m ih =>
    intro i s h Q y5 hm hi l hQ
    have ha := cr_a l
    refine am_goX 2 (show (1 = 0 → pz_S 6 (some .boolean) am_r73 d Q 92 [(4, .int (nI i)), (3, .int 1), (5, .int y5), (0, .ref 4), (1, .ref 14), (2, .int dep)] [] h) ∧ (¬ (1 = 0) → pz_S 6 (some .boolean) am_r73 d Q 14 [(4, .int (nI i)), (3, .int 1), (5, .int y5), (0, .ref 4), (1, .ref 14), (2, .int dep)] [] h) from ⟨fun hz => absurd hz (by decide), fun _ => ?_⟩)
    refine am_goX 3 (show ((Int16.ofInt 1000).toInt32 ≤ (nI i) → pz_S 6 (some .boolean) am_r73 d Q 92 [(4, .int (nI i)), (3, .int 1), (5, .int y5), (0, .ref 4), (1, .ref 14), (2, .int dep)] [] h) ∧ (¬ ((Int16.ofInt 1000).toInt32 ≤ (nI i)) → pz_S 6 (some .boolean) am_r73 d Q 22 [(4, .int (nI i)), (3, .int 1), (5, .int y5), (0, .ref 4), (1, .ref 14), (2, .int dep)] [] h) from ⟨fun hz => absurd hz (i1000 (by omega)), fun _ => ?_⟩)
    refine am_goX 2 (show am_sh h 4 = some (4, 0) ∧ pz_S 6 (some .boolean) am_r73 d Q 26 [(4, .int (nI i)), (3, .int 1), (5, .int y5), (0, .ref 4), (1, .ref 14), (2, .int dep)] [am_rf (h.2.2.1 4 0)] h from ⟨ex_4 (c_P l.1), ?_⟩)
    rw [ex_r4_0 (c_P l.1)]
    refine am_goX 2 (show am_rc h 1 7 ∧ 0 ≤ 8 ∧ h.2.2.2.2 + am_al 62 ≤ 175 ∧ am_call am_cod d 62 [.ref 1, .int (Int8.ofInt 43).toInt32] h (fun vv h' => pz_S 6 (some .boolean) am_r73 d Q 31 [(4, .int (nI i)), (3, .int 1), (5, .int y5), (0, .ref 4), (1, .ref 14), (2, .int dep)] (vv.toList ++ []) h') from ⟨Or.inl ⟨by decide, ex_1 (c_P l.1)⟩, by decide, ex_lim (c_P l.1) rfl, am_call.up (c_iss l.1 ?_) (by omega)⟩)
    cases e30 : sp_s (tt T sz) s.1 (Int8.ofInt 43).toInt32 with
    | true =>
      refine am_goX 1 (show ((pz_b (true)) = 0 → pz_S 6 (some .boolean) am_r73 d Q 39 [(4, .int (nI i)), (3, .int 1), (5, .int y5), (0, .ref 4), (1, .ref 14), (2, .int dep)] [] h) ∧ (¬ ((pz_b (true)) = 0) → pz_S 6 (some .boolean) am_r73 d Q 34 [(4, .int (nI i)), (3, .int 1), (5, .int y5), (0, .ref 4), (1, .ref 14), (2, .int dep)] [] h) from ⟨fun hz => absurd hz (by decide), fun _ => ?_⟩)
      refine am_goX 5 (show 5 < 6 ∧ (¬ (Int8.ofInt (-10)).toInt32 = 0 → pz_S 6 (some .boolean) am_r73 d Q 66 [(5, .int (Int8.ofInt (-10)).toInt32), (4, .int (nI i)), (3, .int 1), (0, .ref 4), (1, .ref 14), (2, .int dep)] [] h) ∧ (¬ ¬ (Int8.ofInt (-10)).toInt32 = 0 → pz_S 6 (some .boolean) am_r73 d Q 64 [(5, .int (Int8.ofInt (-10)).toInt32), (4, .int (nI i)), (3, .int 1), (0, .ref 4), (1, .ref 14), (2, .int dep)] [] h) from ⟨by decide, fun _ => ?_, fun hz => absurd (by decide) hz⟩)
      refine am_goX 2 (show am_sh h 4 = some (4, 0) ∧ pz_S 6 (some .boolean) am_r73 d Q 70 [(5, .int (Int8.ofInt (-10)).toInt32), (4, .int (nI i)), (3, .int 1), (0, .ref 4), (1, .ref 14), (2, .int dep)] [am_rf (h.2.2.1 4 0)] h from ⟨ex_4 (c_P l.1), ?_⟩)
      rw [ex_r4_0 (c_P l.1)]
      refine am_goX 1 (show am_rc h 1 7 ∧ 0 ≤ 8 ∧ h.2.2.2.2 + am_al 18 ≤ 175 ∧ am_call am_cod d 18 [.ref 1] h (fun vv h' => pz_S 6 (some .boolean) am_r73 d Q 73 [(5, .int (Int8.ofInt (-10)).toInt32), (4, .int (nI i)), (3, .int 1), (0, .ref 4), (1, .ref 14), (2, .int dep)] (vv.toList ++ []) h') from ⟨Or.inl ⟨by decide, ex_1 (c_P l.1)⟩, by decide, ex_lim (c_P l.1) rfl, am_call.up (c_step l.1 (sp_sn e30) (fun h31 m32 f33 => ?_)) (by omega)⟩)
      have l34 : cr h0 6 T sz ((s.1 + 1), s.2) h31 := cr_fr (a := s.1) (C := s.2) (by decide) l m32 (Nat.le_succ _) f33
      refine am_goX 4 (show am_rc h31 4 4 ∧ 0 ≤ 8 ∧ h31.2.2.2.2 + am_al 74 ≤ 175 ∧ am_call am_cod d 74 [.ref 4, .ref 14, .int dep] h31 (fun vv h' => pz_S 6 (some .boolean) am_r73 d Q 79 [(5, .int (Int8.ofInt (-10)).toInt32), (4, .int (nI i)), (3, .int 1), (0, .ref 4), (1, .ref 14), (2, .int dep)] (vv.toList ++ []) h') from ⟨Or.inl ⟨by decide, ex_4 (c_P l34.1)⟩, by decide, ex_lim (c_P l34.1) rfl, ks _ _ _ l34 (fun v35 h36 x37 => ?_)⟩)
      rcases cres_cs x37 with ⟨F39, e41, rfl, y42⟩ | ⟨t40, e41, rfl, y42⟩
      ·
        refine am_goX 4 (show 3 < 6 ∧ am_rc h36 14 3 ∧ 0 ≤ 8 ∧ h36.2.2.2.2 + am_al 77 ≤ 175 ∧ am_call am_cod d 77 [.ref 14, .int (Int8.ofInt (-10)).toInt32] h36 (fun vv h' => pz_S 6 (some .boolean) am_r73 d Q 86 [(3, .int 0), (5, .int (Int8.ofInt (-10)).toInt32), (4, .int (nI i)), (0, .ref 4), (1, .ref 14), (2, .int dep)] (vv.toList ++ []) h') from ⟨by decide, Or.inl ⟨by decide, ex_14 y42.1⟩, by decide, ex_lim y42.1 rfl, am_call.up (c_addx_6 y42 (fun h43 y44 => ?_)) (by omega)⟩)
        refine am_goX 4 (show 4 < 6 ∧ (0 = 0 → pz_S 6 (some .boolean) am_r73 d Q 92 [(4, .int ((nI i) + Int32.ofInt 1)), (3, .int 0), (5, .int (Int8.ofInt (-10)).toInt32), (0, .ref 4), (1, .ref 14), (2, .int dep)] [] h43) ∧ (¬ (0 = 0) → pz_S 6 (some .boolean) am_r73 d Q 14 [(4, .int ((nI i) + Int32.ofInt 1)), (3, .int 0), (5, .int (Int8.ofInt (-10)).toInt32), (0, .ref 4), (1, .ref 14), (2, .int dep)] [] h43) from ⟨by decide, fun _ => ?_, fun hz => absurd (by decide) hz⟩)
        exact am_goX 2 (show (∃ ty, (some .boolean) = some ty ∧ narrow ty (.int (0)) = .int (0)) ∧ h43.2.2.2.2 = 175 ∧ _ from ⟨⟨.boolean, rfl, rfl⟩, ex_175 y44.1, hQ _ _ (cres_inl (F := F39) (by simp only [sp_sL, sp_b, sp_f, cond_true, cond_false, e30, e41]) rfl y44)⟩)
      ·
        refine am_goX 4 (show 3 < 6 ∧ am_rc h36 14 3 ∧ 0 ≤ 8 ∧ h36.2.2.2.2 + am_al 77 ≤ 175 ∧ am_call am_cod d 77 [.ref 14, .int (Int8.ofInt (-10)).toInt32] h36 (fun vv h' => pz_S 6 (some .boolean) am_r73 d Q 86 [(3, .int 1), (5, .int (Int8.ofInt (-10)).toInt32), (4, .int (nI i)), (0, .ref 4), (1, .ref 14), (2, .int dep)] (vv.toList ++ []) h') from ⟨by decide, Or.inl ⟨by decide, ex_14 (c_P y42.1)⟩, by decide, ex_lim (c_P y42.1) rfl, am_call.up (c_add_6 (a := t40.1) (C := t40.2) y42 (by
            have h7 := hok _ _ e41
            have h8 := l.2.2.2
            unfold sp_le at h7
            dsimp only at h7
            omega) (fun h45 l46 => ?_)) (by omega)⟩)
        refine am_goX 2 (show 4 < 6 ∧ pz_S 6 (some .boolean) am_r73 d Q 10 [(4, .int ((nI i) + Int32.ofInt 1)), (3, .int 1), (5, .int (Int8.ofInt (-10)).toInt32), (0, .ref 4), (1, .ref 14), (2, .int dep)] [] h45 from ⟨by decide, ?_⟩)
        rw [xw_i1]
        have hx : sp_sL (tt T sz) p (m + 1) s = sp_sL (tt T sz) p m (t40.1, sp_em t40.2 ((Int8.ofInt (-10)).toInt32)) := by simp only [sp_sL, sp_b, cond_true, cond_false, e30, e41]
        have h7 := hok _ _ e41
        unfold sp_le at h7
        dsimp only at h7
        exact ih (i + 1) (t40.1, sp_em t40.2 ((Int8.ofInt (-10)).toInt32)) h45 Q ((Int8.ofInt (-10)).toInt32) (by dsimp only; omega) (by dsimp only; omega) l46 (fun v h1 q => hQ v h1 (by rw [hx]; exact q))
    | false =>
      refine am_goX 1 (show ((pz_b (false)) = 0 → pz_S 6 (some .boolean) am_r73 d Q 39 [(4, .int (nI i)), (3, .int 1), (5, .int y5), (0, .ref 4), (1, .ref 14), (2, .int dep)] [] h) ∧ (¬ ((pz_b (false)) = 0) → pz_S 6 (some .boolean) am_r73 d Q 34 [(4, .int (nI i)), (3, .int 1), (5, .int y5), (0, .ref 4), (1, .ref 14), (2, .int dep)] [] h) from ⟨fun _ => ?_, fun hz => absurd (by decide) hz⟩)
      refine am_goX 2 (show am_sh h 4 = some (4, 0) ∧ pz_S 6 (some .boolean) am_r73 d Q 43 [(4, .int (nI i)), (3, .int 1), (5, .int y5), (0, .ref 4), (1, .ref 14), (2, .int dep)] [am_rf (h.2.2.1 4 0)] h from ⟨ex_4 (c_P l.1), ?_⟩)
      rw [ex_r4_0 (c_P l.1)]
      refine am_goX 2 (show am_rc h 1 7 ∧ 0 ≤ 8 ∧ h.2.2.2.2 + am_al 62 ≤ 175 ∧ am_call am_cod d 62 [.ref 1, .int (Int8.ofInt 45).toInt32] h (fun vv h' => pz_S 6 (some .boolean) am_r73 d Q 48 [(4, .int (nI i)), (3, .int 1), (5, .int y5), (0, .ref 4), (1, .ref 14), (2, .int dep)] (vv.toList ++ []) h') from ⟨Or.inl ⟨by decide, ex_1 (c_P l.1)⟩, by decide, ex_lim (c_P l.1) rfl, am_call.up (c_iss l.1 ?_) (by omega)⟩)
      cases e47 : sp_s (tt T sz) s.1 (Int8.ofInt 45).toInt32 with
      | true =>
        refine am_goX 1 (show ((pz_b (true)) = 0 → pz_S 6 (some .boolean) am_r73 d Q 56 [(4, .int (nI i)), (3, .int 1), (5, .int y5), (0, .ref 4), (1, .ref 14), (2, .int dep)] [] h) ∧ (¬ ((pz_b (true)) = 0) → pz_S 6 (some .boolean) am_r73 d Q 51 [(4, .int (nI i)), (3, .int 1), (5, .int y5), (0, .ref 4), (1, .ref 14), (2, .int dep)] [] h) from ⟨fun hz => absurd hz (by decide), fun _ => ?_⟩)
        refine am_goX 5 (show 5 < 6 ∧ (¬ (Int8.ofInt (-11)).toInt32 = 0 → pz_S 6 (some .boolean) am_r73 d Q 66 [(5, .int (Int8.ofInt (-11)).toInt32), (4, .int (nI i)), (3, .int 1), (0, .ref 4), (1, .ref 14), (2, .int dep)] [] h) ∧ (¬ ¬ (Int8.ofInt (-11)).toInt32 = 0 → pz_S 6 (some .boolean) am_r73 d Q 64 [(5, .int (Int8.ofInt (-11)).toInt32), (4, .int (nI i)), (3, .int 1), (0, .ref 4), (1, .ref 14), (2, .int dep)] [] h) from ⟨by decide, fun _ => ?_, fun hz => absurd (by decide) hz⟩)
        refine am_goX 2 (show am_sh h 4 = some (4, 0) ∧ pz_S 6 (some .boolean) am_r73 d Q 70 [(5, .int (Int8.ofInt (-11)).toInt32), (4, .int (nI i)), (3, .int 1), (0, .ref 4), (1, .ref 14), (2, .int dep)] [am_rf (h.2.2.1 4 0)] h from ⟨ex_4 (c_P l.1), ?_⟩)
        rw [ex_r4_0 (c_P l.1)]
        refine am_goX 1 (show am_rc h 1 7 ∧ 0 ≤ 8 ∧ h.2.2.2.2 + am_al 18 ≤ 175 ∧ am_call am_cod d 18 [.ref 1] h (fun vv h' => pz_S 6 (some .boolean) am_r73 d Q 73 [(5, .int (Int8.ofInt (-11)).toInt32), (4, .int (nI i)), (3, .int 1), (0, .ref 4), (1, .ref 14), (2, .int dep)] (vv.toList ++ []) h') from ⟨Or.inl ⟨by decide, ex_1 (c_P l.1)⟩, by decide, ex_lim (c_P l.1) rfl, am_call.up (c_step l.1 (sp_sn e47) (fun h48 m49 f50 => ?_)) (by omega)⟩)
        have l51 : cr h0 6 T sz ((s.1 + 1), s.2) h48 := cr_fr (a := s.1) (C := s.2) (by decide) l m49 (Nat.le_succ _) f50
        refine am_goX 4 (show am_rc h48 4 4 ∧ 0 ≤ 8 ∧ h48.2.2.2.2 + am_al 74 ≤ 175 ∧ am_call am_cod d 74 [.ref 4, .ref 14, .int dep] h48 (fun vv h' => pz_S 6 (some .boolean) am_r73 d Q 79 [(5, .int (Int8.ofInt (-11)).toInt32), (4, .int (nI i)), (3, .int 1), (0, .ref 4), (1, .ref 14), (2, .int dep)] (vv.toList ++ []) h') from ⟨Or.inl ⟨by decide, ex_4 (c_P l51.1)⟩, by decide, ex_lim (c_P l51.1) rfl, ks _ _ _ l51 (fun v52 h53 x54 => ?_)⟩)
        rcases cres_cs x54 with ⟨F56, e58, rfl, y59⟩ | ⟨t57, e58, rfl, y59⟩
        ·
          refine am_goX 4 (show 3 < 6 ∧ am_rc h53 14 3 ∧ 0 ≤ 8 ∧ h53.2.2.2.2 + am_al 77 ≤ 175 ∧ am_call am_cod d 77 [.ref 14, .int (Int8.ofInt (-11)).toInt32] h53 (fun vv h' => pz_S 6 (some .boolean) am_r73 d Q 86 [(3, .int 0), (5, .int (Int8.ofInt (-11)).toInt32), (4, .int (nI i)), (0, .ref 4), (1, .ref 14), (2, .int dep)] (vv.toList ++ []) h') from ⟨by decide, Or.inl ⟨by decide, ex_14 y59.1⟩, by decide, ex_lim y59.1 rfl, am_call.up (c_addx_6 y59 (fun h60 y61 => ?_)) (by omega)⟩)
          refine am_goX 4 (show 4 < 6 ∧ (0 = 0 → pz_S 6 (some .boolean) am_r73 d Q 92 [(4, .int ((nI i) + Int32.ofInt 1)), (3, .int 0), (5, .int (Int8.ofInt (-11)).toInt32), (0, .ref 4), (1, .ref 14), (2, .int dep)] [] h60) ∧ (¬ (0 = 0) → pz_S 6 (some .boolean) am_r73 d Q 14 [(4, .int ((nI i) + Int32.ofInt 1)), (3, .int 0), (5, .int (Int8.ofInt (-11)).toInt32), (0, .ref 4), (1, .ref 14), (2, .int dep)] [] h60) from ⟨by decide, fun _ => ?_, fun hz => absurd (by decide) hz⟩)
          exact am_goX 2 (show (∃ ty, (some .boolean) = some ty ∧ narrow ty (.int (0)) = .int (0)) ∧ h60.2.2.2.2 = 175 ∧ _ from ⟨⟨.boolean, rfl, rfl⟩, ex_175 y61.1, hQ _ _ (cres_inl (F := F56) (by simp only [sp_sL, sp_b, sp_f, cond_true, cond_false, e30, e47, e58]) rfl y61)⟩)
        ·
          refine am_goX 4 (show 3 < 6 ∧ am_rc h53 14 3 ∧ 0 ≤ 8 ∧ h53.2.2.2.2 + am_al 77 ≤ 175 ∧ am_call am_cod d 77 [.ref 14, .int (Int8.ofInt (-11)).toInt32] h53 (fun vv h' => pz_S 6 (some .boolean) am_r73 d Q 86 [(3, .int 1), (5, .int (Int8.ofInt (-11)).toInt32), (4, .int (nI i)), (0, .ref 4), (1, .ref 14), (2, .int dep)] (vv.toList ++ []) h') from ⟨by decide, Or.inl ⟨by decide, ex_14 (c_P y59.1)⟩, by decide, ex_lim (c_P y59.1) rfl, am_call.up (c_add_6 (a := t57.1) (C := t57.2) y59 (by
              have h7 := hok _ _ e58
              have h8 := l.2.2.2
              unfold sp_le at h7
              dsimp only at h7
              omega) (fun h62 l63 => ?_)) (by omega)⟩)
          refine am_goX 2 (show 4 < 6 ∧ pz_S 6 (some .boolean) am_r73 d Q 10 [(4, .int ((nI i) + Int32.ofInt 1)), (3, .int 1), (5, .int (Int8.ofInt (-11)).toInt32), (0, .ref 4), (1, .ref 14), (2, .int dep)] [] h62 from ⟨by decide, ?_⟩)
          rw [xw_i1]
          have hx : sp_sL (tt T sz) p (m + 1) s = sp_sL (tt T sz) p m (t57.1, sp_em t57.2 ((Int8.ofInt (-11)).toInt32)) := by simp only [sp_sL, sp_b, cond_true, cond_false, e30, e47, e58]
          have h7 := hok _ _ e58
          unfold sp_le at h7
          dsimp only at h7
          exact ih (i + 1) (t57.1, sp_em t57.2 ((Int8.ofInt (-11)).toInt32)) h62 Q ((Int8.ofInt (-11)).toInt32) (by dsimp only; omega) (by dsimp only; omega) l63 (fun v h1 q => hQ v h1 (by rw [hx]; exact q))
      | false =>
        refine am_goX 1 (show ((pz_b (false)) = 0 → pz_S 6 (some .boolean) am_r73 d Q 56 [(4, .int (nI i)), (3, .int 1), (5, .int y5), (0, .ref 4), (1, .ref 14), (2, .int dep)] [] h) ∧ (¬ ((pz_b (false)) = 0) → pz_S 6 (some .boolean) am_r73 d Q 51 [(4, .int (nI i)), (3, .int 1), (5, .int y5), (0, .ref 4), (1, .ref 14), (2, .int dep)] [] h) from ⟨fun _ => ?_, fun hz => absurd (by decide) hz⟩)
        refine am_goX 4 (show 5 < 6 ∧ (¬ (Int32.ofInt 0) = 0 → pz_S 6 (some .boolean) am_r73 d Q 66 [(5, .int (Int32.ofInt 0)), (4, .int (nI i)), (3, .int 1), (0, .ref 4), (1, .ref 14), (2, .int dep)] [] h) ∧ (¬ ¬ (Int32.ofInt 0) = 0 → pz_S 6 (some .boolean) am_r73 d Q 64 [(5, .int (Int32.ofInt 0)), (4, .int (nI i)), (3, .int 1), (0, .ref 4), (1, .ref 14), (2, .int dep)] [] h) from ⟨by decide, fun hz => absurd hz (by decide), fun _ => ?_⟩)
        exact am_goX 2 (show (∃ ty, (some .boolean) = some ty ∧ narrow ty (.int ((Int32.ofInt 1))) = .int ((Int32.ofInt 1))) ∧ h.2.2.2.2 = 175 ∧ _ from ⟨⟨.boolean, rfl, rfl⟩, ex_175 (c_P l.1), hQ _ _ (cres_inr (s' := s) (by simp only [sp_sL, sp_b, sp_f, cond_true, cond_false, e30, e47]) rfl l)⟩)
theorem c_73_6 (hd : 6 ≤ d) (ks : lw_c h0 6 T sz d 74 dep (sp_p (tt T sz) p)) (hok : sp_ok (sp_p (tt T sz) p)) : lw_c h0 6 T sz (d + 1) 73 dep (sp_su (tt T sz) p) := by
  intro s h Q l hQ
  have hP := c_P l.1
  have ha := cr_a l
  refine pz_call (n := 73) (nL := 6) (rt := (some .boolean)) (rows := am_r73) (d := d) (by decide +kernel) (by decide +kernel) rfl (by funext pc; rfl) (ex_175 hP) (by exact Nat.le_of_ble_eq_true rfl) ?_
  refine am_goX 4 (show am_rc h 4 4 ∧ 0 ≤ 8 ∧ h.2.2.2.2 + am_al 74 ≤ 175 ∧ am_call am_cod d 74 [.ref 4, .ref 14, .int dep] h (fun vv h' => pz_S 6 (some .boolean) am_r73 d Q 6 [(0, .ref 4), (1, .ref 14), (2, .int dep)] (vv.toList ++ []) h') from ⟨Or.inl ⟨by decide, ex_4 (c_P l.1)⟩, by decide, ex_lim (c_P l.1) rfl, ks _ _ _ l (fun v64 h65 x66 => ?_)⟩)
  rcases cres_cs x66 with ⟨F68, e70, rfl, y71⟩ | ⟨t69, e70, rfl, y71⟩
  ·
    refine am_goX 5 (show 3 < 6 ∧ 4 < 6 ∧ (0 = 0 → pz_S 6 (some .boolean) am_r73 d Q 92 [(4, .int (Int32.ofInt 0)), (3, .int 0), (0, .ref 4), (1, .ref 14), (2, .int dep)] [] h65) ∧ (¬ (0 = 0) → pz_S 6 (some .boolean) am_r73 d Q 14 [(4, .int (Int32.ofInt 0)), (3, .int 0), (0, .ref 4), (1, .ref 14), (2, .int dep)] [] h65) from ⟨by decide, by decide, fun _ => ?_, fun hz => absurd (by decide) hz⟩)
    exact am_goX 2 (show (∃ ty, (some .boolean) = some ty ∧ narrow ty (.int (0)) = .int (0)) ∧ h65.2.2.2.2 = 175 ∧ _ from ⟨⟨.boolean, rfl, rfl⟩, ex_175 y71.1, hQ _ _ (cres_inl (F := F68) (by simp only [sp_su, sp_b, sp_f, cond_true, cond_false, e70]) rfl y71)⟩)
  ·
    refine am_goX 3 (show 3 < 6 ∧ 4 < 6 ∧ pz_S 6 (some .boolean) am_r73 d Q 10 [(4, .int (Int32.ofInt 0)), (3, .int 1), (0, .ref 4), (1, .ref 14), (2, .int dep)] [] h65 from ⟨by decide, by decide, ?_⟩)
    have h7 := hok _ _ e70
    unfold sp_le at h7
    have ha := cr_a y71
    have h8 := l.2.2.2
    refine am_goX 2 (show (1 = 0 → pz_S 6 (some .boolean) am_r73 d Q 92 [(4, .int (nI 0)), (3, .int 1), (0, .ref 4), (1, .ref 14), (2, .int dep)] [] h65) ∧ (¬ (1 = 0) → pz_S 6 (some .boolean) am_r73 d Q 14 [(4, .int (nI 0)), (3, .int 1), (0, .ref 4), (1, .ref 14), (2, .int dep)] [] h65) from ⟨fun hz => absurd hz (by decide), fun _ => ?_⟩)
    refine am_goX 3 (show ((Int16.ofInt 1000).toInt32 ≤ (nI 0) → pz_S 6 (some .boolean) am_r73 d Q 92 [(4, .int (nI 0)), (3, .int 1), (0, .ref 4), (1, .ref 14), (2, .int dep)] [] h65) ∧ (¬ ((Int16.ofInt 1000).toInt32 ≤ (nI 0)) → pz_S 6 (some .boolean) am_r73 d Q 22 [(4, .int (nI 0)), (3, .int 1), (0, .ref 4), (1, .ref 14), (2, .int dep)] [] h65) from ⟨fun hz => absurd hz (i1000 (by omega)), fun _ => ?_⟩)
    refine am_goX 2 (show am_sh h65 4 = some (4, 0) ∧ pz_S 6 (some .boolean) am_r73 d Q 26 [(4, .int (nI 0)), (3, .int 1), (0, .ref 4), (1, .ref 14), (2, .int dep)] [am_rf (h65.2.2.1 4 0)] h65 from ⟨ex_4 (c_P y71.1), ?_⟩)
    rw [ex_r4_0 (c_P y71.1)]
    refine am_goX 2 (show am_rc h65 1 7 ∧ 0 ≤ 8 ∧ h65.2.2.2.2 + am_al 62 ≤ 175 ∧ am_call am_cod d 62 [.ref 1, .int (Int8.ofInt 43).toInt32] h65 (fun vv h' => pz_S 6 (some .boolean) am_r73 d Q 31 [(4, .int (nI 0)), (3, .int 1), (0, .ref 4), (1, .ref 14), (2, .int dep)] (vv.toList ++ []) h') from ⟨Or.inl ⟨by decide, ex_1 (c_P y71.1)⟩, by decide, ex_lim (c_P y71.1) rfl, am_call.up (c_iss y71.1 ?_) (by omega)⟩)
    cases e72 : sp_s (tt T sz) t69.1 (Int8.ofInt 43).toInt32 with
    | true =>
      refine am_goX 1 (show ((pz_b (true)) = 0 → pz_S 6 (some .boolean) am_r73 d Q 39 [(4, .int (nI 0)), (3, .int 1), (0, .ref 4), (1, .ref 14), (2, .int dep)] [] h65) ∧ (¬ ((pz_b (true)) = 0) → pz_S 6 (some .boolean) am_r73 d Q 34 [(4, .int (nI 0)), (3, .int 1), (0, .ref 4), (1, .ref 14), (2, .int dep)] [] h65) from ⟨fun hz => absurd hz (by decide), fun _ => ?_⟩)
      refine am_goX 5 (show 5 < 6 ∧ (¬ (Int8.ofInt (-10)).toInt32 = 0 → pz_S 6 (some .boolean) am_r73 d Q 66 [(5, .int (Int8.ofInt (-10)).toInt32), (4, .int (nI 0)), (3, .int 1), (0, .ref 4), (1, .ref 14), (2, .int dep)] [] h65) ∧ (¬ ¬ (Int8.ofInt (-10)).toInt32 = 0 → pz_S 6 (some .boolean) am_r73 d Q 64 [(5, .int (Int8.ofInt (-10)).toInt32), (4, .int (nI 0)), (3, .int 1), (0, .ref 4), (1, .ref 14), (2, .int dep)] [] h65) from ⟨by decide, fun _ => ?_, fun hz => absurd (by decide) hz⟩)
      refine am_goX 2 (show am_sh h65 4 = some (4, 0) ∧ pz_S 6 (some .boolean) am_r73 d Q 70 [(5, .int (Int8.ofInt (-10)).toInt32), (4, .int (nI 0)), (3, .int 1), (0, .ref 4), (1, .ref 14), (2, .int dep)] [am_rf (h65.2.2.1 4 0)] h65 from ⟨ex_4 (c_P y71.1), ?_⟩)
      rw [ex_r4_0 (c_P y71.1)]
      refine am_goX 1 (show am_rc h65 1 7 ∧ 0 ≤ 8 ∧ h65.2.2.2.2 + am_al 18 ≤ 175 ∧ am_call am_cod d 18 [.ref 1] h65 (fun vv h' => pz_S 6 (some .boolean) am_r73 d Q 73 [(5, .int (Int8.ofInt (-10)).toInt32), (4, .int (nI 0)), (3, .int 1), (0, .ref 4), (1, .ref 14), (2, .int dep)] (vv.toList ++ []) h') from ⟨Or.inl ⟨by decide, ex_1 (c_P y71.1)⟩, by decide, ex_lim (c_P y71.1) rfl, am_call.up (c_step y71.1 (sp_sn e72) (fun h73 m74 f75 => ?_)) (by omega)⟩)
      have l76 : cr h0 6 T sz ((t69.1 + 1), t69.2) h73 := cr_fr (a := t69.1) (C := t69.2) (by decide) y71 m74 (Nat.le_succ _) f75
      refine am_goX 4 (show am_rc h73 4 4 ∧ 0 ≤ 8 ∧ h73.2.2.2.2 + am_al 74 ≤ 175 ∧ am_call am_cod d 74 [.ref 4, .ref 14, .int dep] h73 (fun vv h' => pz_S 6 (some .boolean) am_r73 d Q 79 [(5, .int (Int8.ofInt (-10)).toInt32), (4, .int (nI 0)), (3, .int 1), (0, .ref 4), (1, .ref 14), (2, .int dep)] (vv.toList ++ []) h') from ⟨Or.inl ⟨by decide, ex_4 (c_P l76.1)⟩, by decide, ex_lim (c_P l76.1) rfl, ks _ _ _ l76 (fun v77 h78 x79 => ?_)⟩)
      rcases cres_cs x79 with ⟨F81, e83, rfl, y84⟩ | ⟨t82, e83, rfl, y84⟩
      ·
        refine am_goX 4 (show 3 < 6 ∧ am_rc h78 14 3 ∧ 0 ≤ 8 ∧ h78.2.2.2.2 + am_al 77 ≤ 175 ∧ am_call am_cod d 77 [.ref 14, .int (Int8.ofInt (-10)).toInt32] h78 (fun vv h' => pz_S 6 (some .boolean) am_r73 d Q 86 [(3, .int 0), (5, .int (Int8.ofInt (-10)).toInt32), (4, .int (nI 0)), (0, .ref 4), (1, .ref 14), (2, .int dep)] (vv.toList ++ []) h') from ⟨by decide, Or.inl ⟨by decide, ex_14 y84.1⟩, by decide, ex_lim y84.1 rfl, am_call.up (c_addx_6 y84 (fun h85 y86 => ?_)) (by omega)⟩)
        refine am_goX 4 (show 4 < 6 ∧ (0 = 0 → pz_S 6 (some .boolean) am_r73 d Q 92 [(4, .int ((nI 0) + Int32.ofInt 1)), (3, .int 0), (5, .int (Int8.ofInt (-10)).toInt32), (0, .ref 4), (1, .ref 14), (2, .int dep)] [] h85) ∧ (¬ (0 = 0) → pz_S 6 (some .boolean) am_r73 d Q 14 [(4, .int ((nI 0) + Int32.ofInt 1)), (3, .int 0), (5, .int (Int8.ofInt (-10)).toInt32), (0, .ref 4), (1, .ref 14), (2, .int dep)] [] h85) from ⟨by decide, fun _ => ?_, fun hz => absurd (by decide) hz⟩)
        exact am_goX 2 (show (∃ ty, (some .boolean) = some ty ∧ narrow ty (.int (0)) = .int (0)) ∧ h85.2.2.2.2 = 175 ∧ _ from ⟨⟨.boolean, rfl, rfl⟩, ex_175 y86.1, hQ _ _ (cres_inl (F := F81) (by simp only [sp_su, sp_sL_1, sp_b, sp_f, cond_true, cond_false, e70, e72, e83]) rfl y86)⟩)
      ·
        refine am_goX 4 (show 3 < 6 ∧ am_rc h78 14 3 ∧ 0 ≤ 8 ∧ h78.2.2.2.2 + am_al 77 ≤ 175 ∧ am_call am_cod d 77 [.ref 14, .int (Int8.ofInt (-10)).toInt32] h78 (fun vv h' => pz_S 6 (some .boolean) am_r73 d Q 86 [(3, .int 1), (5, .int (Int8.ofInt (-10)).toInt32), (4, .int (nI 0)), (0, .ref 4), (1, .ref 14), (2, .int dep)] (vv.toList ++ []) h') from ⟨by decide, Or.inl ⟨by decide, ex_14 (c_P y84.1)⟩, by decide, ex_lim (c_P y84.1) rfl, am_call.up (c_add_6 (a := t82.1) (C := t82.2) y84 (by
            have h7 := hok _ _ e83
            have h8 := y71.2.2.2
            unfold sp_le at h7
            dsimp only at h7
            omega) (fun h87 l88 => ?_)) (by omega)⟩)
        refine am_goX 2 (show 4 < 6 ∧ pz_S 6 (some .boolean) am_r73 d Q 10 [(4, .int ((nI 0) + Int32.ofInt 1)), (3, .int 1), (5, .int (Int8.ofInt (-10)).toInt32), (0, .ref 4), (1, .ref 14), (2, .int dep)] [] h87 from ⟨by decide, ?_⟩)
        rw [xw_i1]
        have hx : sp_sL (tt T sz) p 1001 t69 = sp_sL (tt T sz) p 1000 (t82.1, sp_em t82.2 ((Int8.ofInt (-10)).toInt32)) := by simp only [sp_sL_1, sp_b, cond_true, cond_false, e70, e72, e83]
        have h7 := hok _ _ e83
        unfold sp_le at h7
        dsimp only at h7
        exact c_73l_6 hd ks hok 1000 (0 + 1) (t82.1, sp_em t82.2 ((Int8.ofInt (-10)).toInt32)) h87 Q ((Int8.ofInt (-10)).toInt32) (by dsimp only; omega) (by dsimp only; omega) l88 (fun v h1 q => hQ v h1 (by unfold sp_su; rw [e70]; show cres _ _ _ _ (sp_sL (tt T sz) p 1001 t69) _ _; rw [hx]; exact q))
    | false =>
      refine am_goX 1 (show ((pz_b (false)) = 0 → pz_S 6 (some .boolean) am_r73 d Q 39 [(4, .int (nI 0)), (3, .int 1), (0, .ref 4), (1, .ref 14), (2, .int dep)] [] h65) ∧ (¬ ((pz_b (false)) = 0) → pz_S 6 (some .boolean) am_r73 d Q 34 [(4, .int (nI 0)), (3, .int 1), (0, .ref 4), (1, .ref 14), (2, .int dep)] [] h65) from ⟨fun _ => ?_, fun hz => absurd (by decide) hz⟩)
      refine am_goX 2 (show am_sh h65 4 = some (4, 0) ∧ pz_S 6 (some .boolean) am_r73 d Q 43 [(4, .int (nI 0)), (3, .int 1), (0, .ref 4), (1, .ref 14), (2, .int dep)] [am_rf (h65.2.2.1 4 0)] h65 from ⟨ex_4 (c_P y71.1), ?_⟩)
      rw [ex_r4_0 (c_P y71.1)]
      refine am_goX 2 (show am_rc h65 1 7 ∧ 0 ≤ 8 ∧ h65.2.2.2.2 + am_al 62 ≤ 175 ∧ am_call am_cod d 62 [.ref 1, .int (Int8.ofInt 45).toInt32] h65 (fun vv h' => pz_S 6 (some .boolean) am_r73 d Q 48 [(4, .int (nI 0)), (3, .int 1), (0, .ref 4), (1, .ref 14), (2, .int dep)] (vv.toList ++ []) h') from ⟨Or.inl ⟨by decide, ex_1 (c_P y71.1)⟩, by decide, ex_lim (c_P y71.1) rfl, am_call.up (c_iss y71.1 ?_) (by omega)⟩)
      cases e89 : sp_s (tt T sz) t69.1 (Int8.ofInt 45).toInt32 with
      | true =>
        refine am_goX 1 (show ((pz_b (true)) = 0 → pz_S 6 (some .boolean) am_r73 d Q 56 [(4, .int (nI 0)), (3, .int 1), (0, .ref 4), (1, .ref 14), (2, .int dep)] [] h65) ∧ (¬ ((pz_b (true)) = 0) → pz_S 6 (some .boolean) am_r73 d Q 51 [(4, .int (nI 0)), (3, .int 1), (0, .ref 4), (1, .ref 14), (2, .int dep)] [] h65) from ⟨fun hz => absurd hz (by decide), fun _ => ?_⟩)
        refine am_goX 5 (show 5 < 6 ∧ (¬ (Int8.ofInt (-11)).toInt32 = 0 → pz_S 6 (some .boolean) am_r73 d Q 66 [(5, .int (Int8.ofInt (-11)).toInt32), (4, .int (nI 0)), (3, .int 1), (0, .ref 4), (1, .ref 14), (2, .int dep)] [] h65) ∧ (¬ ¬ (Int8.ofInt (-11)).toInt32 = 0 → pz_S 6 (some .boolean) am_r73 d Q 64 [(5, .int (Int8.ofInt (-11)).toInt32), (4, .int (nI 0)), (3, .int 1), (0, .ref 4), (1, .ref 14), (2, .int dep)] [] h65) from ⟨by decide, fun _ => ?_, fun hz => absurd (by decide) hz⟩)
        refine am_goX 2 (show am_sh h65 4 = some (4, 0) ∧ pz_S 6 (some .boolean) am_r73 d Q 70 [(5, .int (Int8.ofInt (-11)).toInt32), (4, .int (nI 0)), (3, .int 1), (0, .ref 4), (1, .ref 14), (2, .int dep)] [am_rf (h65.2.2.1 4 0)] h65 from ⟨ex_4 (c_P y71.1), ?_⟩)
        rw [ex_r4_0 (c_P y71.1)]
        refine am_goX 1 (show am_rc h65 1 7 ∧ 0 ≤ 8 ∧ h65.2.2.2.2 + am_al 18 ≤ 175 ∧ am_call am_cod d 18 [.ref 1] h65 (fun vv h' => pz_S 6 (some .boolean) am_r73 d Q 73 [(5, .int (Int8.ofInt (-11)).toInt32), (4, .int (nI 0)), (3, .int 1), (0, .ref 4), (1, .ref 14), (2, .int dep)] (vv.toList ++ []) h') from ⟨Or.inl ⟨by decide, ex_1 (c_P y71.1)⟩, by decide, ex_lim (c_P y71.1) rfl, am_call.up (c_step y71.1 (sp_sn e89) (fun h90 m91 f92 => ?_)) (by omega)⟩)
        have l93 : cr h0 6 T sz ((t69.1 + 1), t69.2) h90 := cr_fr (a := t69.1) (C := t69.2) (by decide) y71 m91 (Nat.le_succ _) f92
        refine am_goX 4 (show am_rc h90 4 4 ∧ 0 ≤ 8 ∧ h90.2.2.2.2 + am_al 74 ≤ 175 ∧ am_call am_cod d 74 [.ref 4, .ref 14, .int dep] h90 (fun vv h' => pz_S 6 (some .boolean) am_r73 d Q 79 [(5, .int (Int8.ofInt (-11)).toInt32), (4, .int (nI 0)), (3, .int 1), (0, .ref 4), (1, .ref 14), (2, .int dep)] (vv.toList ++ []) h') from ⟨Or.inl ⟨by decide, ex_4 (c_P l93.1)⟩, by decide, ex_lim (c_P l93.1) rfl, ks _ _ _ l93 (fun v94 h95 x96 => ?_)⟩)
        rcases cres_cs x96 with ⟨F98, e100, rfl, y101⟩ | ⟨t99, e100, rfl, y101⟩
        ·
          refine am_goX 4 (show 3 < 6 ∧ am_rc h95 14 3 ∧ 0 ≤ 8 ∧ h95.2.2.2.2 + am_al 77 ≤ 175 ∧ am_call am_cod d 77 [.ref 14, .int (Int8.ofInt (-11)).toInt32] h95 (fun vv h' => pz_S 6 (some .boolean) am_r73 d Q 86 [(3, .int 0), (5, .int (Int8.ofInt (-11)).toInt32), (4, .int (nI 0)), (0, .ref 4), (1, .ref 14), (2, .int dep)] (vv.toList ++ []) h') from ⟨by decide, Or.inl ⟨by decide, ex_14 y101.1⟩, by decide, ex_lim y101.1 rfl, am_call.up (c_addx_6 y101 (fun h102 y103 => ?_)) (by omega)⟩)
          refine am_goX 4 (show 4 < 6 ∧ (0 = 0 → pz_S 6 (some .boolean) am_r73 d Q 92 [(4, .int ((nI 0) + Int32.ofInt 1)), (3, .int 0), (5, .int (Int8.ofInt (-11)).toInt32), (0, .ref 4), (1, .ref 14), (2, .int dep)] [] h102) ∧ (¬ (0 = 0) → pz_S 6 (some .boolean) am_r73 d Q 14 [(4, .int ((nI 0) + Int32.ofInt 1)), (3, .int 0), (5, .int (Int8.ofInt (-11)).toInt32), (0, .ref 4), (1, .ref 14), (2, .int dep)] [] h102) from ⟨by decide, fun _ => ?_, fun hz => absurd (by decide) hz⟩)
          exact am_goX 2 (show (∃ ty, (some .boolean) = some ty ∧ narrow ty (.int (0)) = .int (0)) ∧ h102.2.2.2.2 = 175 ∧ _ from ⟨⟨.boolean, rfl, rfl⟩, ex_175 y103.1, hQ _ _ (cres_inl (F := F98) (by simp only [sp_su, sp_sL_1, sp_b, sp_f, cond_true, cond_false, e70, e72, e89, e100]) rfl y103)⟩)
        ·
          refine am_goX 4 (show 3 < 6 ∧ am_rc h95 14 3 ∧ 0 ≤ 8 ∧ h95.2.2.2.2 + am_al 77 ≤ 175 ∧ am_call am_cod d 77 [.ref 14, .int (Int8.ofInt (-11)).toInt32] h95 (fun vv h' => pz_S 6 (some .boolean) am_r73 d Q 86 [(3, .int 1), (5, .int (Int8.ofInt (-11)).toInt32), (4, .int (nI 0)), (0, .ref 4), (1, .ref 14), (2, .int dep)] (vv.toList ++ []) h') from ⟨by decide, Or.inl ⟨by decide, ex_14 (c_P y101.1)⟩, by decide, ex_lim (c_P y101.1) rfl, am_call.up (c_add_6 (a := t99.1) (C := t99.2) y101 (by
              have h7 := hok _ _ e100
              have h8 := y71.2.2.2
              unfold sp_le at h7
              dsimp only at h7
              omega) (fun h104 l105 => ?_)) (by omega)⟩)
          refine am_goX 2 (show 4 < 6 ∧ pz_S 6 (some .boolean) am_r73 d Q 10 [(4, .int ((nI 0) + Int32.ofInt 1)), (3, .int 1), (5, .int (Int8.ofInt (-11)).toInt32), (0, .ref 4), (1, .ref 14), (2, .int dep)] [] h104 from ⟨by decide, ?_⟩)
          rw [xw_i1]
          have hx : sp_sL (tt T sz) p 1001 t69 = sp_sL (tt T sz) p 1000 (t99.1, sp_em t99.2 ((Int8.ofInt (-11)).toInt32)) := by simp only [sp_sL_1, sp_b, cond_true, cond_false, e70, e72, e89, e100]
          have h7 := hok _ _ e100
          unfold sp_le at h7
          dsimp only at h7
          exact c_73l_6 hd ks hok 1000 (0 + 1) (t99.1, sp_em t99.2 ((Int8.ofInt (-11)).toInt32)) h104 Q ((Int8.ofInt (-11)).toInt32) (by dsimp only; omega) (by dsimp only; omega) l105 (fun v h1 q => hQ v h1 (by unfold sp_su; rw [e70]; show cres _ _ _ _ (sp_sL (tt T sz) p 1001 t69) _ _; rw [hx]; exact q))
      | false =>
        refine am_goX 1 (show ((pz_b (false)) = 0 → pz_S 6 (some .boolean) am_r73 d Q 56 [(4, .int (nI 0)), (3, .int 1), (0, .ref 4), (1, .ref 14), (2, .int dep)] [] h65) ∧ (¬ ((pz_b (false)) = 0) → pz_S 6 (some .boolean) am_r73 d Q 51 [(4, .int (nI 0)), (3, .int 1), (0, .ref 4), (1, .ref 14), (2, .int dep)] [] h65) from ⟨fun _ => ?_, fun hz => absurd (by decide) hz⟩)
        refine am_goX 4 (show 5 < 6 ∧ (¬ (Int32.ofInt 0) = 0 → pz_S 6 (some .boolean) am_r73 d Q 66 [(5, .int (Int32.ofInt 0)), (4, .int (nI 0)), (3, .int 1), (0, .ref 4), (1, .ref 14), (2, .int dep)] [] h65) ∧ (¬ ¬ (Int32.ofInt 0) = 0 → pz_S 6 (some .boolean) am_r73 d Q 64 [(5, .int (Int32.ofInt 0)), (4, .int (nI 0)), (3, .int 1), (0, .ref 4), (1, .ref 14), (2, .int dep)] [] h65) from ⟨by decide, fun hz => absurd hz (by decide), fun _ => ?_⟩)
        exact am_goX 2 (show (∃ ty, (some .boolean) = some ty ∧ narrow ty (.int ((Int32.ofInt 1))) = .int ((Int32.ofInt 1))) ∧ h65.2.2.2.2 = 175 ∧ _ from ⟨⟨.boolean, rfl, rfl⟩, ex_175 (c_P y71.1), hQ _ _ (cres_inr (s' := t69) (by simp only [sp_su, sp_sL_1, sp_b, sp_f, cond_true, cond_false, e70, e72, e89]) rfl y71)⟩)
theorem c_72_6 (hd : 6 ≤ d) (ks : lw_c h0 6 T sz d 73 dep (sp_su (tt T sz) p)) (hok : sp_ok (sp_su (tt T sz) p)) : lw_c h0 6 T sz (d + 1) 72 dep (sp_te (tt T sz) p) := by
  intro s h Q l hQ
  have hP := c_P l.1
  refine pz_call (n := 72) (nL := 5) (rt := (some .boolean)) (rows := am_r72) (d := d) (by decide +kernel) (by decide +kernel) rfl (by funext pc; rfl) (ex_175 hP) (by exact Nat.le_of_ble_eq_true rfl) ?_
  refine am_goX 4 (show am_rc h 4 4 ∧ 0 ≤ 8 ∧ h.2.2.2.2 + am_al 73 ≤ 175 ∧ am_call am_cod d 73 [.ref 4, .ref 14, .int dep] h (fun vv h' => pz_S 5 (some .boolean) am_r72 d Q 6 [(0, .ref 4), (1, .ref 14), (2, .int dep)] (vv.toList ++ []) h') from ⟨Or.inl ⟨by decide, ex_4 (c_P l.1)⟩, by decide, ex_lim (c_P l.1) rfl, ks _ _ _ l (fun v106 h107 x108 => ?_)⟩)
  rcases cres_cs x108 with ⟨F110, e112, rfl, y113⟩ | ⟨t111, e112, rfl, y113⟩
  ·
    refine am_goX 1 (show (¬ 0 = 0 → pz_S 5 (some .boolean) am_r72 d Q 11 [(0, .ref 4), (1, .ref 14), (2, .int dep)] [] h107) ∧ (¬ ¬ 0 = 0 → pz_S 5 (some .boolean) am_r72 d Q 9 [(0, .ref 4), (1, .ref 14), (2, .int dep)] [] h107) from ⟨fun hz => absurd hz (by decide), fun _ => ?_⟩)
    exact am_goX 2 (show (∃ ty, (some .boolean) = some ty ∧ narrow ty (.int ((Int32.ofInt 0))) = .int ((Int32.ofInt 0))) ∧ h107.2.2.2.2 = 175 ∧ _ from ⟨⟨.boolean, rfl, rfl⟩, ex_175 y113.1, hQ _ _ (cres_inl (F := F110) (by simp only [sp_te, sp_b, sp_f, cond_true, cond_false, e112]) rfl y113)⟩)
  ·
    refine am_goX 1 (show (¬ 1 = 0 → pz_S 5 (some .boolean) am_r72 d Q 11 [(0, .ref 4), (1, .ref 14), (2, .int dep)] [] h107) ∧ (¬ ¬ 1 = 0 → pz_S 5 (some .boolean) am_r72 d Q 9 [(0, .ref 4), (1, .ref 14), (2, .int dep)] [] h107) from ⟨fun _ => ?_, fun hz => absurd (by decide) hz⟩)
    refine am_goX 2 (show am_sh h107 4 = some (4, 0) ∧ pz_S 5 (some .boolean) am_r72 d Q 15 [(0, .ref 4), (1, .ref 14), (2, .int dep)] [am_rf (h107.2.2.1 4 0)] h107 from ⟨ex_4 (c_P y113.1), ?_⟩)
    rw [ex_r4_0 (c_P y113.1)]
    refine am_goX 2 (show am_rc h107 1 7 ∧ 0 ≤ 8 ∧ h107.2.2.2.2 + am_al 62 ≤ 175 ∧ am_call am_cod d 62 [.ref 1, .int (Int8.ofInt 60).toInt32] h107 (fun vv h' => pz_S 5 (some .boolean) am_r72 d Q 20 [(0, .ref 4), (1, .ref 14), (2, .int dep)] (vv.toList ++ []) h') from ⟨Or.inl ⟨by decide, ex_1 (c_P y113.1)⟩, by decide, ex_lim (c_P y113.1) rfl, am_call.up (c_iss y113.1 ?_) (by omega)⟩)
    cases e114 : sp_s (tt T sz) t111.1 (Int8.ofInt 60).toInt32 with
    | true =>
      refine am_goX 1 (show ((pz_b (true)) = 0 → pz_S 5 (some .boolean) am_r72 d Q 28 [(0, .ref 4), (1, .ref 14), (2, .int dep)] [] h107) ∧ (¬ ((pz_b (true)) = 0) → pz_S 5 (some .boolean) am_r72 d Q 23 [(0, .ref 4), (1, .ref 14), (2, .int dep)] [] h107) from ⟨fun hz => absurd hz (by decide), fun _ => ?_⟩)
      refine am_goX 5 (show 3 < 5 ∧ (¬ (Int8.ofInt (-8)).toInt32 = 0 → pz_S 5 (some .boolean) am_r72 d Q 53 [(3, .int (Int8.ofInt (-8)).toInt32), (0, .ref 4), (1, .ref 14), (2, .int dep)] [] h107) ∧ (¬ ¬ (Int8.ofInt (-8)).toInt32 = 0 → pz_S 5 (some .boolean) am_r72 d Q 51 [(3, .int (Int8.ofInt (-8)).toInt32), (0, .ref 4), (1, .ref 14), (2, .int dep)] [] h107) from ⟨by decide, fun _ => ?_, fun hz => absurd (by decide) hz⟩)
      refine am_goX 2 (show am_sh h107 4 = some (4, 0) ∧ pz_S 5 (some .boolean) am_r72 d Q 57 [(3, .int (Int8.ofInt (-8)).toInt32), (0, .ref 4), (1, .ref 14), (2, .int dep)] [am_rf (h107.2.2.1 4 0)] h107 from ⟨ex_4 (c_P y113.1), ?_⟩)
      rw [ex_r4_0 (c_P y113.1)]
      refine am_goX 1 (show am_rc h107 1 7 ∧ 0 ≤ 8 ∧ h107.2.2.2.2 + am_al 18 ≤ 175 ∧ am_call am_cod d 18 [.ref 1] h107 (fun vv h' => pz_S 5 (some .boolean) am_r72 d Q 60 [(3, .int (Int8.ofInt (-8)).toInt32), (0, .ref 4), (1, .ref 14), (2, .int dep)] (vv.toList ++ []) h') from ⟨Or.inl ⟨by decide, ex_1 (c_P y113.1)⟩, by decide, ex_lim (c_P y113.1) rfl, am_call.up (c_step y113.1 (sp_sn e114) (fun h115 m116 f117 => ?_)) (by omega)⟩)
      have l118 : cr h0 6 T sz ((t111.1 + 1), t111.2) h115 := cr_fr (a := t111.1) (C := t111.2) (by decide) y113 m116 (Nat.le_succ _) f117
      refine am_goX 4 (show am_rc h115 4 4 ∧ 0 ≤ 8 ∧ h115.2.2.2.2 + am_al 73 ≤ 175 ∧ am_call am_cod d 73 [.ref 4, .ref 14, .int dep] h115 (fun vv h' => pz_S 5 (some .boolean) am_r72 d Q 66 [(3, .int (Int8.ofInt (-8)).toInt32), (0, .ref 4), (1, .ref 14), (2, .int dep)] (vv.toList ++ []) h') from ⟨Or.inl ⟨by decide, ex_4 (c_P l118.1)⟩, by decide, ex_lim (c_P l118.1) rfl, ks _ _ _ l118 (fun v119 h120 x121 => ?_)⟩)
      rcases cres_cs x121 with ⟨F123, e125, rfl, y126⟩ | ⟨t124, e125, rfl, y126⟩
      ·
        refine am_goX 4 (show 4 < 5 ∧ am_rc h120 14 3 ∧ 0 ≤ 8 ∧ h120.2.2.2.2 + am_al 77 ≤ 175 ∧ am_call am_cod d 77 [.ref 14, .int (Int8.ofInt (-8)).toInt32] h120 (fun vv h' => pz_S 5 (some .boolean) am_r72 d Q 73 [(4, .int 0), (3, .int (Int8.ofInt (-8)).toInt32), (0, .ref 4), (1, .ref 14), (2, .int dep)] (vv.toList ++ []) h') from ⟨by decide, Or.inl ⟨by decide, ex_14 y126.1⟩, by decide, ex_lim y126.1 rfl, am_call.up (c_addx_6 y126 (fun h127 y128 => ?_)) (by omega)⟩)
        exact am_goX 2 (show (∃ ty, (some .boolean) = some ty ∧ narrow ty (.int (0)) = .int (0)) ∧ h127.2.2.2.2 = 175 ∧ _ from ⟨⟨.boolean, rfl, rfl⟩, ex_175 y128.1, hQ _ _ (cres_inl (F := F123) (by simp only [sp_te, sp_b, sp_f, cond_true, cond_false, e112, e114, e125]) rfl y128)⟩)
      ·
        refine am_goX 4 (show 4 < 5 ∧ am_rc h120 14 3 ∧ 0 ≤ 8 ∧ h120.2.2.2.2 + am_al 77 ≤ 175 ∧ am_call am_cod d 77 [.ref 14, .int (Int8.ofInt (-8)).toInt32] h120 (fun vv h' => pz_S 5 (some .boolean) am_r72 d Q 73 [(4, .int 1), (3, .int (Int8.ofInt (-8)).toInt32), (0, .ref 4), (1, .ref 14), (2, .int dep)] (vv.toList ++ []) h') from ⟨by decide, Or.inl ⟨by decide, ex_14 (c_P y126.1)⟩, by decide, ex_lim (c_P y126.1) rfl, am_call.up (c_add_6 (a := t124.1) (C := t124.2) y126 (by
            have h7 := hok _ _ e125
            have h6 := hok _ _ e112
            have h8 := l.2.2.2
            unfold sp_le at h6 h7
            dsimp only at h6 h7
            omega) (fun h129 l130 => ?_)) (by omega)⟩)
        exact am_goX 2 (show (∃ ty, (some .boolean) = some ty ∧ narrow ty (.int (1)) = .int (1)) ∧ h129.2.2.2.2 = 175 ∧ _ from ⟨⟨.boolean, rfl, rfl⟩, ex_175 (c_P l130.1), hQ _ _ (cres_inr (s' := (t124.1, sp_em t124.2 ((Int8.ofInt (-8)).toInt32))) (by simp only [sp_te, sp_b, sp_f, cond_true, cond_false, e112, e114, e125]) rfl l130)⟩)
    | false =>
      refine am_goX 1 (show ((pz_b (false)) = 0 → pz_S 5 (some .boolean) am_r72 d Q 28 [(0, .ref 4), (1, .ref 14), (2, .int dep)] [] h107) ∧ (¬ ((pz_b (false)) = 0) → pz_S 5 (some .boolean) am_r72 d Q 23 [(0, .ref 4), (1, .ref 14), (2, .int dep)] [] h107) from ⟨fun _ => ?_, fun hz => absurd (by decide) hz⟩)
      refine am_goX 2 (show am_sh h107 4 = some (4, 0) ∧ pz_S 5 (some .boolean) am_r72 d Q 32 [(0, .ref 4), (1, .ref 14), (2, .int dep)] [am_rf (h107.2.2.1 4 0)] h107 from ⟨ex_4 (c_P y113.1), ?_⟩)
      rw [ex_r4_0 (c_P y113.1)]
      refine am_goX 2 (show am_rc h107 1 7 ∧ 0 ≤ 8 ∧ h107.2.2.2.2 + am_al 62 ≤ 175 ∧ am_call am_cod d 62 [.ref 1, .int (Int8.ofInt 61).toInt32] h107 (fun vv h' => pz_S 5 (some .boolean) am_r72 d Q 37 [(0, .ref 4), (1, .ref 14), (2, .int dep)] (vv.toList ++ []) h') from ⟨Or.inl ⟨by decide, ex_1 (c_P y113.1)⟩, by decide, ex_lim (c_P y113.1) rfl, am_call.up (c_iss y113.1 ?_) (by omega)⟩)
      cases e131 : sp_s (tt T sz) t111.1 (Int8.ofInt 61).toInt32 with
      | true =>
        refine am_goX 1 (show ((pz_b (true)) = 0 → pz_S 5 (some .boolean) am_r72 d Q 45 [(0, .ref 4), (1, .ref 14), (2, .int dep)] [] h107) ∧ (¬ ((pz_b (true)) = 0) → pz_S 5 (some .boolean) am_r72 d Q 40 [(0, .ref 4), (1, .ref 14), (2, .int dep)] [] h107) from ⟨fun hz => absurd hz (by decide), fun _ => ?_⟩)
        refine am_goX 5 (show 3 < 5 ∧ (¬ (Int8.ofInt (-9)).toInt32 = 0 → pz_S 5 (some .boolean) am_r72 d Q 53 [(3, .int (Int8.ofInt (-9)).toInt32), (0, .ref 4), (1, .ref 14), (2, .int dep)] [] h107) ∧ (¬ ¬ (Int8.ofInt (-9)).toInt32 = 0 → pz_S 5 (some .boolean) am_r72 d Q 51 [(3, .int (Int8.ofInt (-9)).toInt32), (0, .ref 4), (1, .ref 14), (2, .int dep)] [] h107) from ⟨by decide, fun _ => ?_, fun hz => absurd (by decide) hz⟩)
        refine am_goX 2 (show am_sh h107 4 = some (4, 0) ∧ pz_S 5 (some .boolean) am_r72 d Q 57 [(3, .int (Int8.ofInt (-9)).toInt32), (0, .ref 4), (1, .ref 14), (2, .int dep)] [am_rf (h107.2.2.1 4 0)] h107 from ⟨ex_4 (c_P y113.1), ?_⟩)
        rw [ex_r4_0 (c_P y113.1)]
        refine am_goX 1 (show am_rc h107 1 7 ∧ 0 ≤ 8 ∧ h107.2.2.2.2 + am_al 18 ≤ 175 ∧ am_call am_cod d 18 [.ref 1] h107 (fun vv h' => pz_S 5 (some .boolean) am_r72 d Q 60 [(3, .int (Int8.ofInt (-9)).toInt32), (0, .ref 4), (1, .ref 14), (2, .int dep)] (vv.toList ++ []) h') from ⟨Or.inl ⟨by decide, ex_1 (c_P y113.1)⟩, by decide, ex_lim (c_P y113.1) rfl, am_call.up (c_step y113.1 (sp_sn e131) (fun h132 m133 f134 => ?_)) (by omega)⟩)
        have l135 : cr h0 6 T sz ((t111.1 + 1), t111.2) h132 := cr_fr (a := t111.1) (C := t111.2) (by decide) y113 m133 (Nat.le_succ _) f134
        refine am_goX 4 (show am_rc h132 4 4 ∧ 0 ≤ 8 ∧ h132.2.2.2.2 + am_al 73 ≤ 175 ∧ am_call am_cod d 73 [.ref 4, .ref 14, .int dep] h132 (fun vv h' => pz_S 5 (some .boolean) am_r72 d Q 66 [(3, .int (Int8.ofInt (-9)).toInt32), (0, .ref 4), (1, .ref 14), (2, .int dep)] (vv.toList ++ []) h') from ⟨Or.inl ⟨by decide, ex_4 (c_P l135.1)⟩, by decide, ex_lim (c_P l135.1) rfl, ks _ _ _ l135 (fun v136 h137 x138 => ?_)⟩)
        rcases cres_cs x138 with ⟨F140, e142, rfl, y143⟩ | ⟨t141, e142, rfl, y143⟩
        ·
          refine am_goX 4 (show 4 < 5 ∧ am_rc h137 14 3 ∧ 0 ≤ 8 ∧ h137.2.2.2.2 + am_al 77 ≤ 175 ∧ am_call am_cod d 77 [.ref 14, .int (Int8.ofInt (-9)).toInt32] h137 (fun vv h' => pz_S 5 (some .boolean) am_r72 d Q 73 [(4, .int 0), (3, .int (Int8.ofInt (-9)).toInt32), (0, .ref 4), (1, .ref 14), (2, .int dep)] (vv.toList ++ []) h') from ⟨by decide, Or.inl ⟨by decide, ex_14 y143.1⟩, by decide, ex_lim y143.1 rfl, am_call.up (c_addx_6 y143 (fun h144 y145 => ?_)) (by omega)⟩)
          exact am_goX 2 (show (∃ ty, (some .boolean) = some ty ∧ narrow ty (.int (0)) = .int (0)) ∧ h144.2.2.2.2 = 175 ∧ _ from ⟨⟨.boolean, rfl, rfl⟩, ex_175 y145.1, hQ _ _ (cres_inl (F := F140) (by simp only [sp_te, sp_b, sp_f, cond_true, cond_false, e112, e114, e131, e142]) rfl y145)⟩)
        ·
          refine am_goX 4 (show 4 < 5 ∧ am_rc h137 14 3 ∧ 0 ≤ 8 ∧ h137.2.2.2.2 + am_al 77 ≤ 175 ∧ am_call am_cod d 77 [.ref 14, .int (Int8.ofInt (-9)).toInt32] h137 (fun vv h' => pz_S 5 (some .boolean) am_r72 d Q 73 [(4, .int 1), (3, .int (Int8.ofInt (-9)).toInt32), (0, .ref 4), (1, .ref 14), (2, .int dep)] (vv.toList ++ []) h') from ⟨by decide, Or.inl ⟨by decide, ex_14 (c_P y143.1)⟩, by decide, ex_lim (c_P y143.1) rfl, am_call.up (c_add_6 (a := t141.1) (C := t141.2) y143 (by
              have h7 := hok _ _ e142
              have h6 := hok _ _ e112
              have h8 := l.2.2.2
              unfold sp_le at h6 h7
              dsimp only at h6 h7
              omega) (fun h146 l147 => ?_)) (by omega)⟩)
          exact am_goX 2 (show (∃ ty, (some .boolean) = some ty ∧ narrow ty (.int (1)) = .int (1)) ∧ h146.2.2.2.2 = 175 ∧ _ from ⟨⟨.boolean, rfl, rfl⟩, ex_175 (c_P l147.1), hQ _ _ (cres_inr (s' := (t141.1, sp_em t141.2 ((Int8.ofInt (-9)).toInt32))) (by simp only [sp_te, sp_b, sp_f, cond_true, cond_false, e112, e114, e131, e142]) rfl l147)⟩)
      | false =>
        refine am_goX 1 (show ((pz_b (false)) = 0 → pz_S 5 (some .boolean) am_r72 d Q 45 [(0, .ref 4), (1, .ref 14), (2, .int dep)] [] h107) ∧ (¬ ((pz_b (false)) = 0) → pz_S 5 (some .boolean) am_r72 d Q 40 [(0, .ref 4), (1, .ref 14), (2, .int dep)] [] h107) from ⟨fun _ => ?_, fun hz => absurd (by decide) hz⟩)
        refine am_goX 4 (show 3 < 5 ∧ (¬ (Int32.ofInt 0) = 0 → pz_S 5 (some .boolean) am_r72 d Q 53 [(3, .int (Int32.ofInt 0)), (0, .ref 4), (1, .ref 14), (2, .int dep)] [] h107) ∧ (¬ ¬ (Int32.ofInt 0) = 0 → pz_S 5 (some .boolean) am_r72 d Q 51 [(3, .int (Int32.ofInt 0)), (0, .ref 4), (1, .ref 14), (2, .int dep)] [] h107) from ⟨by decide, fun hz => absurd hz (by decide), fun _ => ?_⟩)
        exact am_goX 2 (show (∃ ty, (some .boolean) = some ty ∧ narrow ty (.int ((Int32.ofInt 1))) = .int ((Int32.ofInt 1))) ∧ h107.2.2.2.2 = 175 ∧ _ from ⟨⟨.boolean, rfl, rfl⟩, ex_175 (c_P y113.1), hQ _ _ (cres_inr (s' := t111) (by simp only [sp_te, sp_b, sp_f, cond_true, cond_false, e112, e114, e131]) rfl y113)⟩)
theorem c_71l_6 (hd : 6 ≤ d) (ks : lw_c h0 6 T sz d 72 dep (sp_te (tt T sz) p)) (hok : sp_ok (sp_te (tt T sz) p)) : ∀ (m i : Nat) (s : sp_S) (h : am_H) (Q : am_Q) (y5 : Int32), sz < s.1 + m → i + 1 ≤ s.1 → cr h0 6 T sz s h → (∀ v h1, cres h0 6 T sz (sp_wL (tt T sz) p m s) v h1 → Q v h1) → pz_S 6 (some .boolean) am_r71 d Q 10 [(4, .int (nI i)), (3, .int 1), (5, .int y5), (0, .ref 4), (1, .ref 14), (2, .int dep)] [] h := by
  intro m
  induction m with
  | zero =>
    intro i s h Q y5 hm hi l hQ
    have := (cr_a l).1
    omega
  | succ m ih =>
    intro i s h Q y5 hm hi l hQ
    have ha := cr_a l
    refine am_goX 2 (show (1 = 0 → pz_S 6 (some .boolean) am_r71 d Q 92 [(4, .int (nI i)), (3, .int 1), (5, .int y5), (0, .ref 4), (1, .ref 14), (2, .int dep)] [] h) ∧ (¬ (1 = 0) → pz_S 6 (some .boolean) am_r71 d Q 14 [(4, .int (nI i)), (3, .int 1), (5, .int y5), (0, .ref 4), (1, .ref 14), (2, .int dep)] [] h) from ⟨fun hz => absurd hz (by decide), fun _ => ?_⟩)
    refine am_goX 3 (show ((Int16.ofInt 1000).toInt32 ≤ (nI i) → pz_S 6 (some .boolean) am_r71 d Q 92 [(4, .int (nI i)), (3, .int 1), (5, .int y5), (0, .ref 4), (1, .ref 14), (2, .int dep)] [] h) ∧ (¬ ((Int16.ofInt 1000).toInt32 ≤ (nI i)) → pz_S 6 (some .boolean) am_r71 d Q 22 [(4, .int (nI i)), (3, .int 1), (5, .int y5), (0, .ref 4), (1, .ref 14), (2, .int dep)] [] h) from ⟨fun hz => absurd hz (i1000 (by omega)), fun _ => ?_⟩)
    refine am_goX 2 (show am_sh h 4 = some (4, 0) ∧ pz_S 6 (some .boolean) am_r71 d Q 26 [(4, .int (nI i)), (3, .int 1), (5, .int y5), (0, .ref 4), (1, .ref 14), (2, .int dep)] [am_rf (h.2.2.1 4 0)] h from ⟨ex_4 (c_P l.1), ?_⟩)
    rw [ex_r4_0 (c_P l.1)]
    refine am_goX 2 (show am_rc h 1 7 ∧ 0 ≤ 8 ∧ h.2.2.2.2 + am_al 44 ≤ 175 ∧ am_call am_cod d 44 [.ref 1, .ref (4000000 + 19)] h (fun vv h' => pz_S 6 (some .boolean) am_r71 d Q 31 [(4, .int (nI i)), (3, .int 1), (5, .int y5), (0, .ref 4), (1, .ref 14), (2, .int dep)] (vv.toList ++ []) h') from ⟨Or.inl ⟨by decide, ex_1 (c_P l.1)⟩, by decide, ex_lim (c_P l.1) rfl, am_call.up (c_isw (by decide) wq_19 l.1 ?_) (by omega)⟩)
    cases e148 : sp_w (tt T sz) s.1 1891 with
    | true =>
      refine am_goX 1 (show ((pz_b (true)) = 0 → pz_S 6 (some .boolean) am_r71 d Q 39 [(4, .int (nI i)), (3, .int 1), (5, .int y5), (0, .ref 4), (1, .ref 14), (2, .int dep)] [] h) ∧ (¬ ((pz_b (true)) = 0) → pz_S 6 (some .boolean) am_r71 d Q 34 [(4, .int (nI i)), (3, .int 1), (5, .int y5), (0, .ref 4), (1, .ref 14), (2, .int dep)] [] h) from ⟨fun hz => absurd hz (by decide), fun _ => ?_⟩)
      refine am_goX 5 (show 5 < 6 ∧ (¬ (Int8.ofInt (-6)).toInt32 = 0 → pz_S 6 (some .boolean) am_r71 d Q 66 [(5, .int (Int8.ofInt (-6)).toInt32), (4, .int (nI i)), (3, .int 1), (0, .ref 4), (1, .ref 14), (2, .int dep)] [] h) ∧ (¬ ¬ (Int8.ofInt (-6)).toInt32 = 0 → pz_S 6 (some .boolean) am_r71 d Q 64 [(5, .int (Int8.ofInt (-6)).toInt32), (4, .int (nI i)), (3, .int 1), (0, .ref 4), (1, .ref 14), (2, .int dep)] [] h) from ⟨by decide, fun _ => ?_, fun hz => absurd (by decide) hz⟩)
      refine am_goX 2 (show am_sh h 4 = some (4, 0) ∧ pz_S 6 (some .boolean) am_r71 d Q 70 [(5, .int (Int8.ofInt (-6)).toInt32), (4, .int (nI i)), (3, .int 1), (0, .ref 4), (1, .ref 14), (2, .int dep)] [am_rf (h.2.2.1 4 0)] h from ⟨ex_4 (c_P l.1), ?_⟩)
      rw [ex_r4_0 (c_P l.1)]
      refine am_goX 1 (show am_rc h 1 7 ∧ 0 ≤ 8 ∧ h.2.2.2.2 + am_al 18 ≤ 175 ∧ am_call am_cod d 18 [.ref 1] h (fun vv h' => pz_S 6 (some .boolean) am_r71 d Q 73 [(5, .int (Int8.ofInt (-6)).toInt32), (4, .int (nI i)), (3, .int 1), (0, .ref 4), (1, .ref 14), (2, .int dep)] (vv.toList ++ []) h') from ⟨Or.inl ⟨by decide, ex_1 (c_P l.1)⟩, by decide, ex_lim (c_P l.1) rfl, am_call.up (c_step l.1 (sp_wn e148) (fun h149 m150 f151 => ?_)) (by omega)⟩)
      have l152 : cr h0 6 T sz ((s.1 + 1), s.2) h149 := cr_fr (a := s.1) (C := s.2) (by decide) l m150 (Nat.le_succ _) f151
      refine am_goX 4 (show am_rc h149 4 4 ∧ 0 ≤ 8 ∧ h149.2.2.2.2 + am_al 72 ≤ 175 ∧ am_call am_cod d 72 [.ref 4, .ref 14, .int dep] h149 (fun vv h' => pz_S 6 (some .boolean) am_r71 d Q 79 [(5, .int (Int8.ofInt (-6)).toInt32), (4, .int (nI i)), (3, .int 1), (0, .ref 4), (1, .ref 14), (2, .int dep)] (vv.toList ++ []) h') from ⟨Or.inl ⟨by decide, ex_4 (c_P l152.1)⟩, by decide, ex_lim (c_P l152.1) rfl, ks _ _ _ l152 (fun v153 h154 x155 => ?_)⟩)
      rcases cres_cs x155 with ⟨F157, e159, rfl, y160⟩ | ⟨t158, e159, rfl, y160⟩
      ·
        refine am_goX 4 (show 3 < 6 ∧ am_rc h154 14 3 ∧ 0 ≤ 8 ∧ h154.2.2.2.2 + am_al 77 ≤ 175 ∧ am_call am_cod d 77 [.ref 14, .int (Int8.ofInt (-6)).toInt32] h154 (fun vv h' => pz_S 6 (some .boolean) am_r71 d Q 86 [(3, .int 0), (5, .int (Int8.ofInt (-6)).toInt32), (4, .int (nI i)), (0, .ref 4), (1, .ref 14), (2, .int dep)] (vv.toList ++ []) h') from ⟨by decide, Or.inl ⟨by decide, ex_14 y160.1⟩, by decide, ex_lim y160.1 rfl, am_call.up (c_addx_6 y160 (fun h161 y162 => ?_)) (by omega)⟩)
        refine am_goX 4 (show 4 < 6 ∧ (0 = 0 → pz_S 6 (some .boolean) am_r71 d Q 92 [(4, .int ((nI i) + Int32.ofInt 1)), (3, .int 0), (5, .int (Int8.ofInt (-6)).toInt32), (0, .ref 4), (1, .ref 14), (2, .int dep)] [] h161) ∧ (¬ (0 = 0) → pz_S 6 (some .boolean) am_r71 d Q 14 [(4, .int ((nI i) + Int32.ofInt 1)), (3, .int 0), (5, .int (Int8.ofInt (-6)).toInt32), (0, .ref 4), (1, .ref 14), (2, .int dep)] [] h161) from ⟨by decide, fun _ => ?_, fun hz => absurd (by decide) hz⟩)
        exact am_goX 2 (show (∃ ty, (some .boolean) = some ty ∧ narrow ty (.int (0)) = .int (0)) ∧ h161.2.2.2.2 = 175 ∧ _ from ⟨⟨.boolean, rfl, rfl⟩, ex_175 y162.1, hQ _ _ (cres_inl (F := F157) (by simp only [sp_wL, sp_b, sp_f, cond_true, cond_false, e148, e159]) rfl y162)⟩)
      ·
        refine am_goX 4 (show 3 < 6 ∧ am_rc h154 14 3 ∧ 0 ≤ 8 ∧ h154.2.2.2.2 + am_al 77 ≤ 175 ∧ am_call am_cod d 77 [.ref 14, .int (Int8.ofInt (-6)).toInt32] h154 (fun vv h' => pz_S 6 (some .boolean) am_r71 d Q 86 [(3, .int 1), (5, .int (Int8.ofInt (-6)).toInt32), (4, .int (nI i)), (0, .ref 4), (1, .ref 14), (2, .int dep)] (vv.toList ++ []) h') from ⟨by decide, Or.inl ⟨by decide, ex_14 (c_P y160.1)⟩, by decide, ex_lim (c_P y160.1) rfl, am_call.up (c_add_6 (a := t158.1) (C := t158.2) y160 (by
            have h7 := hok _ _ e159
            have h8 := l.2.2.2
            unfold sp_le at h7
            dsimp only at h7
            omega) (fun h163 l164 => ?_)) (by omega)⟩)
        refine am_goX 2 (show 4 < 6 ∧ pz_S 6 (some .boolean) am_r71 d Q 10 [(4, .int ((nI i) + Int32.ofInt 1)), (3, .int 1), (5, .int (Int8.ofInt (-6)).toInt32), (0, .ref 4), (1, .ref 14), (2, .int dep)] [] h163 from ⟨by decide, ?_⟩)
        rw [xw_i1]
        have hx : sp_wL (tt T sz) p (m + 1) s = sp_wL (tt T sz) p m (t158.1, sp_em t158.2 ((Int8.ofInt (-6)).toInt32)) := by simp only [sp_wL, sp_b, cond_true, cond_false, e148, e159]
        have h7 := hok _ _ e159
        unfold sp_le at h7
        dsimp only at h7
        exact ih (i + 1) (t158.1, sp_em t158.2 ((Int8.ofInt (-6)).toInt32)) h163 Q ((Int8.ofInt (-6)).toInt32) (by dsimp only; omega) (by dsimp only; omega) l164 (fun v h1 q => hQ v h1 (by rw [hx]; exact q))
    | false =>
      refine am_goX 1 (show ((pz_b (false)) = 0 → pz_S 6 (some .boolean) am_r71 d Q 39 [(4, .int (nI i)), (3, .int 1), (5, .int y5), (0, .ref 4), (1, .ref 14), (2, .int dep)] [] h) ∧ (¬ ((pz_b (false)) = 0) → pz_S 6 (some .boolean) am_r71 d Q 34 [(4, .int (nI i)), (3, .int 1), (5, .int y5), (0, .ref 4), (1, .ref 14), (2, .int dep)] [] h) from ⟨fun _ => ?_, fun hz => absurd (by decide) hz⟩)
      refine am_goX 2 (show am_sh h 4 = some (4, 0) ∧ pz_S 6 (some .boolean) am_r71 d Q 43 [(4, .int (nI i)), (3, .int 1), (5, .int y5), (0, .ref 4), (1, .ref 14), (2, .int dep)] [am_rf (h.2.2.1 4 0)] h from ⟨ex_4 (c_P l.1), ?_⟩)
      rw [ex_r4_0 (c_P l.1)]
      refine am_goX 2 (show am_rc h 1 7 ∧ 0 ≤ 8 ∧ h.2.2.2.2 + am_al 44 ≤ 175 ∧ am_call am_cod d 44 [.ref 1, .ref (4000000 + 20)] h (fun vv h' => pz_S 6 (some .boolean) am_r71 d Q 48 [(4, .int (nI i)), (3, .int 1), (5, .int y5), (0, .ref 4), (1, .ref 14), (2, .int dep)] (vv.toList ++ []) h') from ⟨Or.inl ⟨by decide, ex_1 (c_P l.1)⟩, by decide, ex_lim (c_P l.1) rfl, am_call.up (c_isw (by decide) wq_20 l.1 ?_) (by omega)⟩)
      cases e165 : sp_w (tt T sz) s.1 573 with
      | true =>
        refine am_goX 1 (show ((pz_b (true)) = 0 → pz_S 6 (some .boolean) am_r71 d Q 56 [(4, .int (nI i)), (3, .int 1), (5, .int y5), (0, .ref 4), (1, .ref 14), (2, .int dep)] [] h) ∧ (¬ ((pz_b (true)) = 0) → pz_S 6 (some .boolean) am_r71 d Q 51 [(4, .int (nI i)), (3, .int 1), (5, .int y5), (0, .ref 4), (1, .ref 14), (2, .int dep)] [] h) from ⟨fun hz => absurd hz (by decide), fun _ => ?_⟩)
        refine am_goX 5 (show 5 < 6 ∧ (¬ (Int8.ofInt (-7)).toInt32 = 0 → pz_S 6 (some .boolean) am_r71 d Q 66 [(5, .int (Int8.ofInt (-7)).toInt32), (4, .int (nI i)), (3, .int 1), (0, .ref 4), (1, .ref 14), (2, .int dep)] [] h) ∧ (¬ ¬ (Int8.ofInt (-7)).toInt32 = 0 → pz_S 6 (some .boolean) am_r71 d Q 64 [(5, .int (Int8.ofInt (-7)).toInt32), (4, .int (nI i)), (3, .int 1), (0, .ref 4), (1, .ref 14), (2, .int dep)] [] h) from ⟨by decide, fun _ => ?_, fun hz => absurd (by decide) hz⟩)
        refine am_goX 2 (show am_sh h 4 = some (4, 0) ∧ pz_S 6 (some .boolean) am_r71 d Q 70 [(5, .int (Int8.ofInt (-7)).toInt32), (4, .int (nI i)), (3, .int 1), (0, .ref 4), (1, .ref 14), (2, .int dep)] [am_rf (h.2.2.1 4 0)] h from ⟨ex_4 (c_P l.1), ?_⟩)
        rw [ex_r4_0 (c_P l.1)]
        refine am_goX 1 (show am_rc h 1 7 ∧ 0 ≤ 8 ∧ h.2.2.2.2 + am_al 18 ≤ 175 ∧ am_call am_cod d 18 [.ref 1] h (fun vv h' => pz_S 6 (some .boolean) am_r71 d Q 73 [(5, .int (Int8.ofInt (-7)).toInt32), (4, .int (nI i)), (3, .int 1), (0, .ref 4), (1, .ref 14), (2, .int dep)] (vv.toList ++ []) h') from ⟨Or.inl ⟨by decide, ex_1 (c_P l.1)⟩, by decide, ex_lim (c_P l.1) rfl, am_call.up (c_step l.1 (sp_wn e165) (fun h166 m167 f168 => ?_)) (by omega)⟩)
        have l169 : cr h0 6 T sz ((s.1 + 1), s.2) h166 := cr_fr (a := s.1) (C := s.2) (by decide) l m167 (Nat.le_succ _) f168
        refine am_goX 4 (show am_rc h166 4 4 ∧ 0 ≤ 8 ∧ h166.2.2.2.2 + am_al 72 ≤ 175 ∧ am_call am_cod d 72 [.ref 4, .ref 14, .int dep] h166 (fun vv h' => pz_S 6 (some .boolean) am_r71 d Q 79 [(5, .int (Int8.ofInt (-7)).toInt32), (4, .int (nI i)), (3, .int 1), (0, .ref 4), (1, .ref 14), (2, .int dep)] (vv.toList ++ []) h') from ⟨Or.inl ⟨by decide, ex_4 (c_P l169.1)⟩, by decide, ex_lim (c_P l169.1) rfl, ks _ _ _ l169 (fun v170 h171 x172 => ?_)⟩)
        rcases cres_cs x172 with ⟨F174, e176, rfl, y177⟩ | ⟨t175, e176, rfl, y177⟩
        ·
          refine am_goX 4 (show 3 < 6 ∧ am_rc h171 14 3 ∧ 0 ≤ 8 ∧ h171.2.2.2.2 + am_al 77 ≤ 175 ∧ am_call am_cod d 77 [.ref 14, .int (Int8.ofInt (-7)).toInt32] h171 (fun vv h' => pz_S 6 (some .boolean) am_r71 d Q 86 [(3, .int 0), (5, .int (Int8.ofInt (-7)).toInt32), (4, .int (nI i)), (0, .ref 4), (1, .ref 14), (2, .int dep)] (vv.toList ++ []) h') from ⟨by decide, Or.inl ⟨by decide, ex_14 y177.1⟩, by decide, ex_lim y177.1 rfl, am_call.up (c_addx_6 y177 (fun h178 y179 => ?_)) (by omega)⟩)
          refine am_goX 4 (show 4 < 6 ∧ (0 = 0 → pz_S 6 (some .boolean) am_r71 d Q 92 [(4, .int ((nI i) + Int32.ofInt 1)), (3, .int 0), (5, .int (Int8.ofInt (-7)).toInt32), (0, .ref 4), (1, .ref 14), (2, .int dep)] [] h178) ∧ (¬ (0 = 0) → pz_S 6 (some .boolean) am_r71 d Q 14 [(4, .int ((nI i) + Int32.ofInt 1)), (3, .int 0), (5, .int (Int8.ofInt (-7)).toInt32), (0, .ref 4), (1, .ref 14), (2, .int dep)] [] h178) from ⟨by decide, fun _ => ?_, fun hz => absurd (by decide) hz⟩)
          exact am_goX 2 (show (∃ ty, (some .boolean) = some ty ∧ narrow ty (.int (0)) = .int (0)) ∧ h178.2.2.2.2 = 175 ∧ _ from ⟨⟨.boolean, rfl, rfl⟩, ex_175 y179.1, hQ _ _ (cres_inl (F := F174) (by simp only [sp_wL, sp_b, sp_f, cond_true, cond_false, e148, e165, e176]) rfl y179)⟩)
        ·
          refine am_goX 4 (show 3 < 6 ∧ am_rc h171 14 3 ∧ 0 ≤ 8 ∧ h171.2.2.2.2 + am_al 77 ≤ 175 ∧ am_call am_cod d 77 [.ref 14, .int (Int8.ofInt (-7)).toInt32] h171 (fun vv h' => pz_S 6 (some .boolean) am_r71 d Q 86 [(3, .int 1), (5, .int (Int8.ofInt (-7)).toInt32), (4, .int (nI i)), (0, .ref 4), (1, .ref 14), (2, .int dep)] (vv.toList ++ []) h') from ⟨by decide, Or.inl ⟨by decide, ex_14 (c_P y177.1)⟩, by decide, ex_lim (c_P y177.1) rfl, am_call.up (c_add_6 (a := t175.1) (C := t175.2) y177 (by
              have h7 := hok _ _ e176
              have h8 := l.2.2.2
              unfold sp_le at h7
              dsimp only at h7
              omega) (fun h180 l181 => ?_)) (by omega)⟩)
          refine am_goX 2 (show 4 < 6 ∧ pz_S 6 (some .boolean) am_r71 d Q 10 [(4, .int ((nI i) + Int32.ofInt 1)), (3, .int 1), (5, .int (Int8.ofInt (-7)).toInt32), (0, .ref 4), (1, .ref 14), (2, .int dep)] [] h180 from ⟨by decide, ?_⟩)
          rw [xw_i1]
          have hx : sp_wL (tt T sz) p (m + 1) s = sp_wL (tt T sz) p m (t175.1, sp_em t175.2 ((Int8.ofInt (-7)).toInt32)) := by simp only [sp_wL, sp_b, cond_true, cond_false, e148, e165, e176]
          have h7 := hok _ _ e176
          unfold sp_le at h7
          dsimp only at h7
          exact ih (i + 1) (t175.1, sp_em t175.2 ((Int8.ofInt (-7)).toInt32)) h180 Q ((Int8.ofInt (-7)).toInt32) (by dsimp only; omega) (by dsimp only; omega) l181 (fun v h1 q => hQ v h1 (by rw [hx]; exact q))
      | false =>
        refine am_goX 1 (show ((pz_b (false)) = 0 → pz_S 6 (some .boolean) am_r71 d Q 56 [(4, .int (nI i)), (3, .int 1), (5, .int y5), (0, .ref 4), (1, .ref 14), (2, .int dep)] [] h) ∧ (¬ ((pz_b (false)) = 0) → pz_S 6 (some .boolean) am_r71 d Q 51 [(4, .int (nI i)), (3, .int 1), (5, .int y5), (0, .ref 4), (1, .ref 14), (2, .int dep)] [] h) from ⟨fun _ => ?_, fun hz => absurd (by decide) hz⟩)
        refine am_goX 4 (show 5 < 6 ∧ (¬ (Int32.ofInt 0) = 0 → pz_S 6 (some .boolean) am_r71 d Q 66 [(5, .int (Int32.ofInt 0)), (4, .int (nI i)), (3, .int 1), (0, .ref 4), (1, .ref 14), (2, .int dep)] [] h) ∧ (¬ ¬ (Int32.ofInt 0) = 0 → pz_S 6 (some .boolean) am_r71 d Q 64 [(5, .int (Int32.ofInt 0)), (4, .int (nI i)), (3, .int 1), (0, .ref 4), (1, .ref 14), (2, .int dep)] [] h) from ⟨by decide, fun hz => absurd hz (by decide), fun _ => ?_⟩)
        exact am_goX 2 (show (∃ ty, (some .boolean) = some ty ∧ narrow ty (.int ((Int32.ofInt 1))) = .int ((Int32.ofInt 1))) ∧ h.2.2.2.2 = 175 ∧ _ from ⟨⟨.boolean, rfl, rfl⟩, ex_175 (c_P l.1), hQ _ _ (cres_inr (s' := s) (by simp only [sp_wL, sp_b, sp_f, cond_true, cond_false, e148, e165]) rfl l)⟩)
theorem c_71_6 (hd : 6 ≤ d) (ks : lw_c h0 6 T sz d 72 dep (sp_te (tt T sz) p)) (hok : sp_ok (sp_te (tt T sz) p)) : lw_c h0 6 T sz (d + 1) 71 dep (sp_wh (tt T sz) p) := by
  intro s h Q l hQ
  have hP := c_P l.1
  have ha := cr_a l
  refine pz_call (n := 71) (nL := 6) (rt := (some .boolean)) (rows := am_r71) (d := d) (by decide +kernel) (by decide +kernel) rfl (by funext pc; rfl) (ex_175 hP) (by exact Nat.le_of_ble_eq_true rfl) ?_
  refine am_goX 4 (show am_rc h 4 4 ∧ 0 ≤ 8 ∧ h.2.2.2.2 + am_al 72 ≤ 175 ∧ am_call am_cod d 72 [.ref 4, .ref 14, .int dep] h (fun vv h' => pz_S 6 (some .boolean) am_r71 d Q 6 [(0, .ref 4), (1, .ref 14), (2, .int dep)] (vv.toList ++ []) h') from ⟨Or.inl ⟨by decide, ex_4 (c_P l.1)⟩, by decide, ex_lim (c_P l.1) rfl, ks _ _ _ l (fun v182 h183 x184 => ?_)⟩)
  rcases cres_cs x184 with ⟨F186, e188, rfl, y189⟩ | ⟨t187, e188, rfl, y189⟩
  ·
    refine am_goX 5 (show 3 < 6 ∧ 4 < 6 ∧ (0 = 0 → pz_S 6 (some .boolean) am_r71 d Q 92 [(4, .int (Int32.ofInt 0)), (3, .int 0), (0, .ref 4), (1, .ref 14), (2, .int dep)] [] h183) ∧ (¬ (0 = 0) → pz_S 6 (some .boolean) am_r71 d Q 14 [(4, .int (Int32.ofInt 0)), (3, .int 0), (0, .ref 4), (1, .ref 14), (2, .int dep)] [] h183) from ⟨by decide, by decide, fun _ => ?_, fun hz => absurd (by decide) hz⟩)
    exact am_goX 2 (show (∃ ty, (some .boolean) = some ty ∧ narrow ty (.int (0)) = .int (0)) ∧ h183.2.2.2.2 = 175 ∧ _ from ⟨⟨.boolean, rfl, rfl⟩, ex_175 y189.1, hQ _ _ (cres_inl (F := F186) (by simp only [sp_wh, sp_b, sp_f, cond_true, cond_false, e188]) rfl y189)⟩)
  ·
    refine am_goX 3 (show 3 < 6 ∧ 4 < 6 ∧ pz_S 6 (some .boolean) am_r71 d Q 10 [(4, .int (Int32.ofInt 0)), (3, .int 1), (0, .ref 4), (1, .ref 14), (2, .int dep)] [] h183 from ⟨by decide, by decide, ?_⟩)
    have h7 := hok _ _ e188
    unfold sp_le at h7
    have ha := cr_a y189
    have h8 := l.2.2.2
    refine am_goX 2 (show (1 = 0 → pz_S 6 (some .boolean) am_r71 d Q 92 [(4, .int (nI 0)), (3, .int 1), (0, .ref 4), (1, .ref 14), (2, .int dep)] [] h183) ∧ (¬ (1 = 0) → pz_S 6 (some .boolean) am_r71 d Q 14 [(4, .int (nI 0)), (3, .int 1), (0, .ref 4), (1, .ref 14), (2, .int dep)] [] h183) from ⟨fun hz => absurd hz (by decide), fun _ => ?_⟩)
    refine am_goX 3 (show ((Int16.ofInt 1000).toInt32 ≤ (nI 0) → pz_S 6 (some .boolean) am_r71 d Q 92 [(4, .int (nI 0)), (3, .int 1), (0, .ref 4), (1, .ref 14), (2, .int dep)] [] h183) ∧ (¬ ((Int16.ofInt 1000).toInt32 ≤ (nI 0)) → pz_S 6 (some .boolean) am_r71 d Q 22 [(4, .int (nI 0)), (3, .int 1), (0, .ref 4), (1, .ref 14), (2, .int dep)] [] h183) from ⟨fun hz => absurd hz (i1000 (by omega)), fun _ => ?_⟩)
    refine am_goX 2 (show am_sh h183 4 = some (4, 0) ∧ pz_S 6 (some .boolean) am_r71 d Q 26 [(4, .int (nI 0)), (3, .int 1), (0, .ref 4), (1, .ref 14), (2, .int dep)] [am_rf (h183.2.2.1 4 0)] h183 from ⟨ex_4 (c_P y189.1), ?_⟩)
    rw [ex_r4_0 (c_P y189.1)]
    refine am_goX 2 (show am_rc h183 1 7 ∧ 0 ≤ 8 ∧ h183.2.2.2.2 + am_al 44 ≤ 175 ∧ am_call am_cod d 44 [.ref 1, .ref (4000000 + 19)] h183 (fun vv h' => pz_S 6 (some .boolean) am_r71 d Q 31 [(4, .int (nI 0)), (3, .int 1), (0, .ref 4), (1, .ref 14), (2, .int dep)] (vv.toList ++ []) h') from ⟨Or.inl ⟨by decide, ex_1 (c_P y189.1)⟩, by decide, ex_lim (c_P y189.1) rfl, am_call.up (c_isw (by decide) wq_19 y189.1 ?_) (by omega)⟩)
    cases e190 : sp_w (tt T sz) t187.1 1891 with
    | true =>
      refine am_goX 1 (show ((pz_b (true)) = 0 → pz_S 6 (some .boolean) am_r71 d Q 39 [(4, .int (nI 0)), (3, .int 1), (0, .ref 4), (1, .ref 14), (2, .int dep)] [] h183) ∧ (¬ ((pz_b (true)) = 0) → pz_S 6 (some .boolean) am_r71 d Q 34 [(4, .int (nI 0)), (3, .int 1), (0, .ref 4), (1, .ref 14), (2, .int dep)] [] h183) from ⟨fun hz => absurd hz (by decide), fun _ => ?_⟩)
      refine am_goX 5 (show 5 < 6 ∧ (¬ (Int8.ofInt (-6)).toInt32 = 0 → pz_S 6 (some .boolean) am_r71 d Q 66 [(5, .int (Int8.ofInt (-6)).toInt32), (4, .int (nI 0)), (3, .int 1), (0, .ref 4), (1, .ref 14), (2, .int dep)] [] h183) ∧ (¬ ¬ (Int8.ofInt (-6)).toInt32 = 0 → pz_S 6 (some .boolean) am_r71 d Q 64 [(5, .int (Int8.ofInt (-6)).toInt32), (4, .int (nI 0)), (3, .int 1), (0, .ref 4), (1, .ref 14), (2, .int dep)] [] h183) from ⟨by decide, fun _ => ?_, fun hz => absurd (by decide) hz⟩)
      refine am_goX 2 (show am_sh h183 4 = some (4, 0) ∧ pz_S 6 (some .boolean) am_r71 d Q 70 [(5, .int (Int8.ofInt (-6)).toInt32), (4, .int (nI 0)), (3, .int 1), (0, .ref 4), (1, .ref 14), (2, .int dep)] [am_rf (h183.2.2.1 4 0)] h183 from ⟨ex_4 (c_P y189.1), ?_⟩)
      rw [ex_r4_0 (c_P y189.1)]
      refine am_goX 1 (show am_rc h183 1 7 ∧ 0 ≤ 8 ∧ h183.2.2.2.2 + am_al 18 ≤ 175 ∧ am_call am_cod d 18 [.ref 1] h183 (fun vv h' => pz_S 6 (some .boolean) am_r71 d Q 73 [(5, .int (Int8.ofInt (-6)).toInt32), (4, .int (nI 0)), (3, .int 1), (0, .ref 4), (1, .ref 14), (2, .int dep)] (vv.toList ++ []) h') from ⟨Or.inl ⟨by decide, ex_1 (c_P y189.1)⟩, by decide, ex_lim (c_P y189.1) rfl, am_call.up (c_step y189.1 (sp_wn e190) (fun h191 m192 f193 => ?_)) (by omega)⟩)
      have l194 : cr h0 6 T sz ((t187.1 + 1), t187.2) h191 := cr_fr (a := t187.1) (C := t187.2) (by decide) y189 m192 (Nat.le_succ _) f193
      refine am_goX 4 (show am_rc h191 4 4 ∧ 0 ≤ 8 ∧ h191.2.2.2.2 + am_al 72 ≤ 175 ∧ am_call am_cod d 72 [.ref 4, .ref 14, .int dep] h191 (fun vv h' => pz_S 6 (some .boolean) am_r71 d Q 79 [(5, .int (Int8.ofInt (-6)).toInt32), (4, .int (nI 0)), (3, .int 1), (0, .ref 4), (1, .ref 14), (2, .int dep)] (vv.toList ++ []) h') from ⟨Or.inl ⟨by decide, ex_4 (c_P l194.1)⟩, by decide, ex_lim (c_P l194.1) rfl, ks _ _ _ l194 (fun v195 h196 x197 => ?_)⟩)
      rcases cres_cs x197 with ⟨F199, e201, rfl, y202⟩ | ⟨t200, e201, rfl, y202⟩
      ·
        refine am_goX 4 (show 3 < 6 ∧ am_rc h196 14 3 ∧ 0 ≤ 8 ∧ h196.2.2.2.2 + am_al 77 ≤ 175 ∧ am_call am_cod d 77 [.ref 14, .int (Int8.ofInt (-6)).toInt32] h196 (fun vv h' => pz_S 6 (some .boolean) am_r71 d Q 86 [(3, .int 0), (5, .int (Int8.ofInt (-6)).toInt32), (4, .int (nI 0)), (0, .ref 4), (1, .ref 14), (2, .int dep)] (vv.toList ++ []) h') from ⟨by decide, Or.inl ⟨by decide, ex_14 y202.1⟩, by decide, ex_lim y202.1 rfl, am_call.up (c_addx_6 y202 (fun h203 y204 => ?_)) (by omega)⟩)
        refine am_goX 4 (show 4 < 6 ∧ (0 = 0 → pz_S 6 (some .boolean) am_r71 d Q 92 [(4, .int ((nI 0) + Int32.ofInt 1)), (3, .int 0), (5, .int (Int8.ofInt (-6)).toInt32), (0, .ref 4), (1, .ref 14), (2, .int dep)] [] h203) ∧ (¬ (0 = 0) → pz_S 6 (some .boolean) am_r71 d Q 14 [(4, .int ((nI 0) + Int32.ofInt 1)), (3, .int 0), (5, .int (Int8.ofInt (-6)).toInt32), (0, .ref 4), (1, .ref 14), (2, .int dep)] [] h203) from ⟨by decide, fun _ => ?_, fun hz => absurd (by decide) hz⟩)
        exact am_goX 2 (show (∃ ty, (some .boolean) = some ty ∧ narrow ty (.int (0)) = .int (0)) ∧ h203.2.2.2.2 = 175 ∧ _ from ⟨⟨.boolean, rfl, rfl⟩, ex_175 y204.1, hQ _ _ (cres_inl (F := F199) (by simp only [sp_wh, sp_wL_1, sp_b, sp_f, cond_true, cond_false, e188, e190, e201]) rfl y204)⟩)
      ·
        refine am_goX 4 (show 3 < 6 ∧ am_rc h196 14 3 ∧ 0 ≤ 8 ∧ h196.2.2.2.2 + am_al 77 ≤ 175 ∧ am_call am_cod d 77 [.ref 14, .int (Int8.ofInt (-6)).toInt32] h196 (fun vv h' => pz_S 6 (some .boolean) am_r71 d Q 86 [(3, .int 1), (5, .int (Int8.ofInt (-6)).toInt32), (4, .int (nI 0)), (0, .ref 4), (1, .ref 14), (2, .int dep)] (vv.toList ++ []) h') from ⟨by decide, Or.inl ⟨by decide, ex_14 (c_P y202.1)⟩, by decide, ex_lim (c_P y202.1) rfl, am_call.up (c_add_6 (a := t200.1) (C := t200.2) y202 (by
            have h7 := hok _ _ e201
            have h8 := y189.2.2.2
            unfold sp_le at h7
            dsimp only at h7
            omega) (fun h205 l206 => ?_)) (by omega)⟩)
        refine am_goX 2 (show 4 < 6 ∧ pz_S 6 (some .boolean) am_r71 d Q 10 [(4, .int ((nI 0) + Int32.ofInt 1)), (3, .int 1), (5, .int (Int8.ofInt (-6)).toInt32), (0, .ref 4), (1, .ref 14), (2, .int dep)] [] h205 from ⟨by decide, ?_⟩)
        rw [xw_i1]
        have hx : sp_wL (tt T sz) p 1001 t187 = sp_wL (tt T sz) p 1000 (t200.1, sp_em t200.2 ((Int8.ofInt (-6)).toInt32)) := by simp only [sp_wL_1, sp_b, cond_true, cond_false, e188, e190, e201]
        have h7 := hok _ _ e201
        unfold sp_le at h7
        dsimp only at h7
        exact c_71l_6 hd ks hok 1000 (0 + 1) (t200.1, sp_em t200.2 ((Int8.ofInt (-6)).toInt32)) h205 Q ((Int8.ofInt (-6)).toInt32) (by dsimp only; omega) (by dsimp only; omega) l206 (fun v h1 q => hQ v h1 (by unfold sp_wh; rw [e188]; show cres _ _ _ _ (sp_wL (tt T sz) p 1001 t187) _ _; rw [hx]; exact q))
    | false =>
      refine am_goX 1 (show ((pz_b (false)) = 0 → pz_S 6 (some .boolean) am_r71 d Q 39 [(4, .int (nI 0)), (3, .int 1), (0, .ref 4), (1, .ref 14), (2, .int dep)] [] h183) ∧ (¬ ((pz_b (false)) = 0) → pz_S 6 (some .boolean) am_r71 d Q 34 [(4, .int (nI 0)), (3, .int 1), (0, .ref 4), (1, .ref 14), (2, .int dep)] [] h183) from ⟨fun _ => ?_, fun hz => absurd (by decide) hz⟩)
      refine am_goX 2 (show am_sh h183 4 = some (4, 0) ∧ pz_S 6 (some .boolean) am_r71 d Q 43 [(4, .int (nI 0)), (3, .int 1), (0, .ref 4), (1, .ref 14), (2, .int dep)] [am_rf (h183.2.2.1 4 0)] h183 from ⟨ex_4 (c_P y189.1), ?_⟩)
      rw [ex_r4_0 (c_P y189.1)]
      refine am_goX 2 (show am_rc h183 1 7 ∧ 0 ≤ 8 ∧ h183.2.2.2.2 + am_al 44 ≤ 175 ∧ am_call am_cod d 44 [.ref 1, .ref (4000000 + 20)] h183 (fun vv h' => pz_S 6 (some .boolean) am_r71 d Q 48 [(4, .int (nI 0)), (3, .int 1), (0, .ref 4), (1, .ref 14), (2, .int dep)] (vv.toList ++ []) h') from ⟨Or.inl ⟨by decide, ex_1 (c_P y189.1)⟩, by decide, ex_lim (c_P y189.1) rfl, am_call.up (c_isw (by decide) wq_20 y189.1 ?_) (by omega)⟩)
      cases e207 : sp_w (tt T sz) t187.1 573 with
      | true =>
        refine am_goX 1 (show ((pz_b (true)) = 0 → pz_S 6 (some .boolean) am_r71 d Q 56 [(4, .int (nI 0)), (3, .int 1), (0, .ref 4), (1, .ref 14), (2, .int dep)] [] h183) ∧ (¬ ((pz_b (true)) = 0) → pz_S 6 (some .boolean) am_r71 d Q 51 [(4, .int (nI 0)), (3, .int 1), (0, .ref 4), (1, .ref 14), (2, .int dep)] [] h183) from ⟨fun hz => absurd hz (by decide), fun _ => ?_⟩)
        refine am_goX 5 (show 5 < 6 ∧ (¬ (Int8.ofInt (-7)).toInt32 = 0 → pz_S 6 (some .boolean) am_r71 d Q 66 [(5, .int (Int8.ofInt (-7)).toInt32), (4, .int (nI 0)), (3, .int 1), (0, .ref 4), (1, .ref 14), (2, .int dep)] [] h183) ∧ (¬ ¬ (Int8.ofInt (-7)).toInt32 = 0 → pz_S 6 (some .boolean) am_r71 d Q 64 [(5, .int (Int8.ofInt (-7)).toInt32), (4, .int (nI 0)), (3, .int 1), (0, .ref 4), (1, .ref 14), (2, .int dep)] [] h183) from ⟨by decide, fun _ => ?_, fun hz => absurd (by decide) hz⟩)
        refine am_goX 2 (show am_sh h183 4 = some (4, 0) ∧ pz_S 6 (some .boolean) am_r71 d Q 70 [(5, .int (Int8.ofInt (-7)).toInt32), (4, .int (nI 0)), (3, .int 1), (0, .ref 4), (1, .ref 14), (2, .int dep)] [am_rf (h183.2.2.1 4 0)] h183 from ⟨ex_4 (c_P y189.1), ?_⟩)
        rw [ex_r4_0 (c_P y189.1)]
        refine am_goX 1 (show am_rc h183 1 7 ∧ 0 ≤ 8 ∧ h183.2.2.2.2 + am_al 18 ≤ 175 ∧ am_call am_cod d 18 [.ref 1] h183 (fun vv h' => pz_S 6 (some .boolean) am_r71 d Q 73 [(5, .int (Int8.ofInt (-7)).toInt32), (4, .int (nI 0)), (3, .int 1), (0, .ref 4), (1, .ref 14), (2, .int dep)] (vv.toList ++ []) h') from ⟨Or.inl ⟨by decide, ex_1 (c_P y189.1)⟩, by decide, ex_lim (c_P y189.1) rfl, am_call.up (c_step y189.1 (sp_wn e207) (fun h208 m209 f210 => ?_)) (by omega)⟩)
        have l211 : cr h0 6 T sz ((t187.1 + 1), t187.2) h208 := cr_fr (a := t187.1) (C := t187.2) (by decide) y189 m209 (Nat.le_succ _) f210
        refine am_goX 4 (show am_rc h208 4 4 ∧ 0 ≤ 8 ∧ h208.2.2.2.2 + am_al 72 ≤ 175 ∧ am_call am_cod d 72 [.ref 4, .ref 14, .int dep] h208 (fun vv h' => pz_S 6 (some .boolean) am_r71 d Q 79 [(5, .int (Int8.ofInt (-7)).toInt32), (4, .int (nI 0)), (3, .int 1), (0, .ref 4), (1, .ref 14), (2, .int dep)] (vv.toList ++ []) h') from ⟨Or.inl ⟨by decide, ex_4 (c_P l211.1)⟩, by decide, ex_lim (c_P l211.1) rfl, ks _ _ _ l211 (fun v212 h213 x214 => ?_)⟩)
        rcases cres_cs x214 with ⟨F216, e218, rfl, y219⟩ | ⟨t217, e218, rfl, y219⟩
        ·
          refine am_goX 4 (show 3 < 6 ∧ am_rc h213 14 3 ∧ 0 ≤ 8 ∧ h213.2.2.2.2 + am_al 77 ≤ 175 ∧ am_call am_cod d 77 [.ref 14, .int (Int8.ofInt (-7)).toInt32] h213 (fun vv h' => pz_S 6 (some .boolean) am_r71 d Q 86 [(3, .int 0), (5, .int (Int8.ofInt (-7)).toInt32), (4, .int (nI 0)), (0, .ref 4), (1, .ref 14), (2, .int dep)] (vv.toList ++ []) h') from ⟨by decide, Or.inl ⟨by decide, ex_14 y219.1⟩, by decide, ex_lim y219.1 rfl, am_call.up (c_addx_6 y219 (fun h220 y221 => ?_)) (by omega)⟩)
          refine am_goX 4 (show 4 < 6 ∧ (0 = 0 → pz_S 6 (some .boolean) am_r71 d Q 92 [(4, .int ((nI 0) + Int32.ofInt 1)), (3, .int 0), (5, .int (Int8.ofInt (-7)).toInt32), (0, .ref 4), (1, .ref 14), (2, .int dep)] [] h220) ∧ (¬ (0 = 0) → pz_S 6 (some .boolean) am_r71 d Q 14 [(4, .int ((nI 0) + Int32.ofInt 1)), (3, .int 0), (5, .int (Int8.ofInt (-7)).toInt32), (0, .ref 4), (1, .ref 14), (2, .int dep)] [] h220) from ⟨by decide, fun _ => ?_, fun hz => absurd (by decide) hz⟩)
          exact am_goX 2 (show (∃ ty, (some .boolean) = some ty ∧ narrow ty (.int (0)) = .int (0)) ∧ h220.2.2.2.2 = 175 ∧ _ from ⟨⟨.boolean, rfl, rfl⟩, ex_175 y221.1, hQ _ _ (cres_inl (F := F216) (by simp only [sp_wh, sp_wL_1, sp_b, sp_f, cond_true, cond_false, e188, e190, e207, e218]) rfl y221)⟩)
        ·
          refine am_goX 4 (show 3 < 6 ∧ am_rc h213 14 3 ∧ 0 ≤ 8 ∧ h213.2.2.2.2 + am_al 77 ≤ 175 ∧ am_call am_cod d 77 [.ref 14, .int (Int8.ofInt (-7)).toInt32] h213 (fun vv h' => pz_S 6 (some .boolean) am_r71 d Q 86 [(3, .int 1), (5, .int (Int8.ofInt (-7)).toInt32), (4, .int (nI 0)), (0, .ref 4), (1, .ref 14), (2, .int dep)] (vv.toList ++ []) h') from ⟨by decide, Or.inl ⟨by decide, ex_14 (c_P y219.1)⟩, by decide, ex_lim (c_P y219.1) rfl, am_call.up (c_add_6 (a := t217.1) (C := t217.2) y219 (by
              have h7 := hok _ _ e218
              have h8 := y189.2.2.2
              unfold sp_le at h7
              dsimp only at h7
              omega) (fun h222 l223 => ?_)) (by omega)⟩)
          refine am_goX 2 (show 4 < 6 ∧ pz_S 6 (some .boolean) am_r71 d Q 10 [(4, .int ((nI 0) + Int32.ofInt 1)), (3, .int 1), (5, .int (Int8.ofInt (-7)).toInt32), (0, .ref 4), (1, .ref 14), (2, .int dep)] [] h222 from ⟨by decide, ?_⟩)
          rw [xw_i1]
          have hx : sp_wL (tt T sz) p 1001 t187 = sp_wL (tt T sz) p 1000 (t217.1, sp_em t217.2 ((Int8.ofInt (-7)).toInt32)) := by simp only [sp_wL_1, sp_b, cond_true, cond_false, e188, e190, e207, e218]
          have h7 := hok _ _ e218
          unfold sp_le at h7
          dsimp only at h7
          exact c_71l_6 hd ks hok 1000 (0 + 1) (t217.1, sp_em t217.2 ((Int8.ofInt (-7)).toInt32)) h222 Q ((Int8.ofInt (-7)).toInt32) (by dsimp only; omega) (by dsimp only; omega) l223 (fun v h1 q => hQ v h1 (by unfold sp_wh; rw [e188]; show cres _ _ _ _ (sp_wL (tt T sz) p 1001 t187) _ _; rw [hx]; exact q))
      | false =>
        refine am_goX 1 (show ((pz_b (false)) = 0 → pz_S 6 (some .boolean) am_r71 d Q 56 [(4, .int (nI 0)), (3, .int 1), (0, .ref 4), (1, .ref 14), (2, .int dep)] [] h183) ∧ (¬ ((pz_b (false)) = 0) → pz_S 6 (some .boolean) am_r71 d Q 51 [(4, .int (nI 0)), (3, .int 1), (0, .ref 4), (1, .ref 14), (2, .int dep)] [] h183) from ⟨fun _ => ?_, fun hz => absurd (by decide) hz⟩)
        refine am_goX 4 (show 5 < 6 ∧ (¬ (Int32.ofInt 0) = 0 → pz_S 6 (some .boolean) am_r71 d Q 66 [(5, .int (Int32.ofInt 0)), (4, .int (nI 0)), (3, .int 1), (0, .ref 4), (1, .ref 14), (2, .int dep)] [] h183) ∧ (¬ ¬ (Int32.ofInt 0) = 0 → pz_S 6 (some .boolean) am_r71 d Q 64 [(5, .int (Int32.ofInt 0)), (4, .int (nI 0)), (3, .int 1), (0, .ref 4), (1, .ref 14), (2, .int dep)] [] h183) from ⟨by decide, fun hz => absurd hz (by decide), fun _ => ?_⟩)
        exact am_goX 2 (show (∃ ty, (some .boolean) = some ty ∧ narrow ty (.int ((Int32.ofInt 1))) = .int ((Int32.ofInt 1))) ∧ h183.2.2.2.2 = 175 ∧ _ from ⟨⟨.boolean, rfl, rfl⟩, ex_175 (c_P y189.1), hQ _ _ (cres_inr (s' := t187) (by simp only [sp_wh, sp_wL_1, sp_b, sp_f, cond_true, cond_false, e188, e190, e207]) rfl y189)⟩)
theorem c_addn_6 {x : Int32} (l : cr h0 6 T sz s h) (hlt : s.2.2.2.2.2.1 < 1000) (hQ : ∀ h1, cr1 h0 6 T sz s.1 (sp_em s.2 x) h1 → Q none h1) : am_call am_cod 1 77 [.ref 14, .int x] h Q := by
  have hP := c_P l.1
  have e2 : h.1 14 2 = nI s.2.2.2.2.2.1 := l.2.1.2.2.2.2.1
  refine pz_call (n := 77) (nL := 2) (rt := none) (rows := am_r77) (d := 0) (by decide +kernel) (by decide +kernel) rfl (by funext pc; rfl) (ex_175 hP) (by exact Nat.le_of_ble_eq_true rfl) ?_
  refine am_goX 3 (show am_sh h 14 = some (3, 0) ∧ pz_S 2 none am_r77 0 Q 7 [(0, .ref 14), (1, .int x)] [.int (Int16.ofInt 1000).toInt32, .int (h.1 14 2)] h from ⟨ex_14 hP, ?_⟩)
  rw [e2]
  refine am_goX 1 (show ((Int16.ofInt 1000).toInt32 ≤ (nI s.2.2.2.2.2.1) → pz_S 2 none am_r77 0 Q 30 [(0, .ref 14), (1, .int x)] [] h) ∧ (¬ ((Int16.ofInt 1000).toInt32 ≤ (nI s.2.2.2.2.2.1)) → pz_S 2 none am_r77 0 Q 10 [(0, .ref 14), (1, .int x)] [] h) from ⟨fun hz => absurd hz (i1000 hlt), fun _ => ?_⟩)
  refine am_goX 2 (show am_sh h 14 = some (3, 0) ∧ pz_S 2 none am_r77 0 Q 14 [(0, .ref 14), (1, .int x)] [am_rf (h.2.2.1 14 0)] h from ⟨ex_14 hP, ?_⟩)
  rw [ex_r14_0 hP]
  refine am_goX 4 (show am_sh h 14 = some (3, 0) ∧ ∃ jj nn : Nat, am_so h 15 = some (13, nn) ∧ jj < nn ∧ (h.1 14 2) = nI jj ∧ pz_S 2 none am_r77 0 Q 20 [(0, .ref 14), (1, .int x)] [] (am_wI h 15 jj (x)) from ⟨ex_14 hP, s.2.2.2.2.2.1, 1000, ex_w15 hP, hlt, e2, ?_⟩)
  refine am_goX 6 (show (Value.ref 14).category = 1 ∧ am_sh (am_wI h 15 (s.2.2.2.2.2.1) (x)) 14 = some (3, 0) ∧ am_sh (am_wI h 15 (s.2.2.2.2.2.1) (x)) 14 = some (3, 0) ∧ narrow (am_fty 3 2) (.int ((((am_wI h 15 (s.2.2.2.2.2.1) (x)).1 14 2) + (Int32.ofInt 1)))) = .int ((((am_wI h 15 (s.2.2.2.2.2.1) (x)).1 14 2) + (Int32.ofInt 1))) ∧ fits (am_fty 3 2) (.int ((((am_wI h 15 (s.2.2.2.2.2.1) (x)).1 14 2) + (Int32.ofInt 1)))) = true ∧ pz_S 2 none am_r77 0 Q 30 [(0, .ref 14), (1, .int x)] [] (am_wI (am_wI h 15 (s.2.2.2.2.2.1) (x)) 14 2 ((((am_wI h 15 (s.2.2.2.2.2.1) (x)).1 14 2) + (Int32.ofInt 1)))) from ⟨rfl, ex_14 hP, ex_14 hP, rfl, rfl, ?_⟩)
  rw [em_wn h _ (by omega), e2, xw_i1]
  exact am_goX 1 (show (none : Option FieldType) = none ∧ (am_wI (am_wI h 15 s.2.2.2.2.2.1 x) 14 2 (nI (s.2.2.2.2.2.1 + 1))).2.2.2.2 = 175 ∧ _ from ⟨rfl, ex_175 hP, hQ _ (cr1_em (c := 6) (by decide) l hlt)⟩)
theorem c_75z_6 {r : Nat} (hd : 6 ≤ d) (hdp : dep = Int32.ofInt 5) : lw_c h0 6 T sz (d + 1) 75 dep (sp_pt (tt T sz) 0) := by
  intro s h Q l hQ
  have hP := c_P l.1
  have hk := ck_2 T sz s.1
  refine pz_call (n := 75) (nL := 7) (rt := (some .boolean)) (rows := am_r75) (d := d) (by decide +kernel) (by decide +kernel) rfl (by funext pc; rfl) (ex_175 hP) (by exact Nat.le_of_ble_eq_true rfl) ?_
  refine am_goX 2 (show am_rc h 4 4 ∧ 0 ≤ 8 ∧ h.2.2.2.2 + am_al 76 ≤ 175 ∧ am_call am_cod d 76 [.ref 4] h (fun vv h' => pz_S 7 (some .boolean) am_r75 d Q 4 [(0, .ref 4), (1, .ref 14), (2, .int dep)] (vv.toList ++ []) h') from ⟨Or.inl ⟨by decide, ex_4 (c_P l.1)⟩, by decide, ex_lim (c_P l.1) rfl, am_call.up (c_fact_6 l ?_) (by omega)⟩)
  refine am_goX 3 (show 3 < 7 ∧ am_sh h 4 = some (4, 0) ∧ pz_S 7 (some .boolean) am_r75 d Q 9 [(3, .int (sp_fa (tt T sz) s.1)), (0, .ref 4), (1, .ref 14), (2, .int dep)] [am_rf (h.2.2.1 4 0)] h from ⟨by decide, ex_4 (c_P l.1), ?_⟩)
  rw [ex_r4_0 (c_P l.1)]
  refine am_goX 2 (show am_sh h 1 = some (7, 0) ∧ pz_S 7 (some .boolean) am_r75 d Q 13 [(3, .int (sp_fa (tt T sz) s.1)), (0, .ref 4), (1, .ref 14), (2, .int dep)] [.int (Int32.ofInt 2), .int (h.1 1 2)] h from ⟨ex_1 (c_P l.1), ?_⟩)
  rw [c_kd l.1]
  refine am_goX 1 (show (¬ (ck (tt T sz s.1).1) = (Int32.ofInt 2) → pz_S 7 (some .boolean) am_r75 d Q 20 [(3, .int (sp_fa (tt T sz) s.1)), (0, .ref 4), (1, .ref 14), (2, .int dep)] [] h) ∧ (¬ ¬ (ck (tt T sz s.1).1) = (Int32.ofInt 2) → pz_S 7 (some .boolean) am_r75 d Q 16 [(3, .int (sp_fa (tt T sz) s.1)), (0, .ref 4), (1, .ref 14), (2, .int dep)] [] h) from ⟨fun hc => ?_, fun hc => ?_⟩)
  ·
    have e2 : sp_k (tt T sz) s.1 2 = false := by rw [← hk]; exact decide_eq_false hc
    clear hc
    refine am_goX 4 (show 4 < 7 ∧ am_sh h 4 = some (4, 0) ∧ pz_S 7 (some .boolean) am_r75 d Q 27 [(4, .int (Int32.ofInt 0)), (3, .int (sp_fa (tt T sz) s.1)), (0, .ref 4), (1, .ref 14), (2, .int dep)] [am_rf (h.2.2.1 4 0)] h from ⟨by decide, ex_4 (c_P l.1), ?_⟩)
    rw [ex_r4_0 (c_P l.1)]
    refine am_goX 2 (show am_rc h 1 7 ∧ 0 ≤ 8 ∧ h.2.2.2.2 + am_al 44 ≤ 175 ∧ am_call am_cod d 44 [.ref 1, .ref (4000000 + 18)] h (fun vv h' => pz_S 7 (some .boolean) am_r75 d Q 32 [(4, .int (Int32.ofInt 0)), (3, .int (sp_fa (tt T sz) s.1)), (0, .ref 4), (1, .ref 14), (2, .int dep)] (vv.toList ++ []) h') from ⟨Or.inl ⟨by decide, ex_1 (c_P l.1)⟩, by decide, ex_lim (c_P l.1) rfl, am_call.up (c_isw (by decide) wq_18 l.1 ?_) (by omega)⟩)
    refine am_goX 3 (show 5 < 7 ∧ (¬ (sp_fa (tt T sz) s.1) = 0 → pz_S 7 (some .boolean) am_r75 d Q 69 [(5, .int (pz_b (sp_w (tt T sz) s.1 19741))), (4, .int (Int32.ofInt 0)), (3, .int (sp_fa (tt T sz) s.1)), (0, .ref 4), (1, .ref 14), (2, .int dep)] [] h) ∧ (¬ ¬ (sp_fa (tt T sz) s.1) = 0 → pz_S 7 (some .boolean) am_r75 d Q 38 [(5, .int (pz_b (sp_w (tt T sz) s.1 19741))), (4, .int (Int32.ofInt 0)), (3, .int (sp_fa (tt T sz) s.1)), (0, .ref 4), (1, .ref 14), (2, .int dep)] [] h) from ⟨by decide, fun hc => ?_, fun hc => ?_⟩)
    ·
      have e3n : ¬ sp_fa (tt T sz) s.1 = 0 := hc
      have e3 : decide (sp_fa (tt T sz) s.1 = 0) = false := decide_eq_false e3n
      clear hc
      refine am_goX 3 (show (dep < (Int32.ofInt 5) → pz_S 7 (some .boolean) am_r75 d Q 83 [(5, .int (pz_b (sp_w (tt T sz) s.1 19741))), (4, .int (Int32.ofInt 0)), (3, .int (sp_fa (tt T sz) s.1)), (0, .ref 4), (1, .ref 14), (2, .int dep)] [] h) ∧ (¬ (dep < (Int32.ofInt 5)) → pz_S 7 (some .boolean) am_r75 d Q 74 [(5, .int (pz_b (sp_w (tt T sz) s.1 19741))), (4, .int (Int32.ofInt 0)), (3, .int (sp_fa (tt T sz) s.1)), (0, .ref 4), (1, .ref 14), (2, .int dep)] [] h) from ⟨fun hz => absurd hz (by rw [hdp]; decide), fun _ => ?_⟩)
      refine am_goX 2 (show am_sh h 4 = some (4, 0) ∧ pz_S 7 (some .boolean) am_r75 d Q 78 [(5, .int (pz_b (sp_w (tt T sz) s.1 19741))), (4, .int (Int32.ofInt 0)), (3, .int (sp_fa (tt T sz) s.1)), (0, .ref 4), (1, .ref 14), (2, .int dep)] [am_rf (h.2.2.1 4 0)] h from ⟨ex_4 (c_P l.1), ?_⟩)
      rw [ex_r4_0 (c_P l.1)]
      refine am_goX 2 (show am_rc h 1 7 ∧ 0 ≤ 8 ∧ h.2.2.2.2 + am_al 52 ≤ 175 ∧ am_call am_cod d 52 [.ref 1, .int (Int32.ofInt 5)] h (fun vv h' => pz_S 7 (some .boolean) am_r75 d Q 82 [(5, .int (pz_b (sp_w (tt T sz) s.1 19741))), (4, .int (Int32.ofInt 0)), (3, .int (sp_fa (tt T sz) s.1)), (0, .ref 4), (1, .ref 14), (2, .int dep)] (vv.toList ++ []) h') from ⟨Or.inl ⟨by decide, ex_1 (c_P l.1)⟩, by decide, ex_lim (c_P l.1) rfl, am_call.up (c_refuse l.1 ?_) (by omega)⟩)
      have x224 := cr_x (s := s) (k := (Int32.ofInt 5)) (by decide) l (by decide)
      exact am_goX 1 (show (∃ ty, (some .boolean) = some ty ∧ narrow ty (.int ((Int32.ofInt 0))) = .int ((Int32.ofInt 0))) ∧ (am_wI h 1 7 (sp_ft (tt T sz) s.1 (Int32.ofInt 5))).2.2.2.2 = 175 ∧ _ from ⟨⟨.boolean, rfl, rfl⟩, ex_175 x224.1, hQ _ _ (cres_inl (F := sp_ft (tt T sz) s.1 (Int32.ofInt 5)) (by simp only [sp_pt, sp_b, sp_f, cond_true, cond_false, e2, e3, Bool.and_true, Bool.and_false, Bool.true_and, Bool.false_and, Bool.not_true, Bool.not_false]) rfl x224)⟩)
    ·
      have e3a : sp_fa (tt T sz) s.1 = 0 := Decidable.not_not.mp hc
      have e3 : decide (sp_fa (tt T sz) s.1 = 0) = true := decide_eq_true e3a
      clear hc
      refine am_goX 2 (show (¬ (Int32.ofInt 0) = 0 → pz_S 7 (some .boolean) am_r75 d Q 69 [(5, .int (pz_b (sp_w (tt T sz) s.1 19741))), (4, .int (Int32.ofInt 0)), (3, .int (sp_fa (tt T sz) s.1)), (0, .ref 4), (1, .ref 14), (2, .int dep)] [] h) ∧ (¬ ¬ (Int32.ofInt 0) = 0 → pz_S 7 (some .boolean) am_r75 d Q 43 [(5, .int (pz_b (sp_w (tt T sz) s.1 19741))), (4, .int (Int32.ofInt 0)), (3, .int (sp_fa (tt T sz) s.1)), (0, .ref 4), (1, .ref 14), (2, .int dep)] [] h) from ⟨fun hz => absurd hz (by decide), fun _ => ?_⟩)
      refine am_goX 1 (show pz_S 7 (some .boolean) am_r75 d Q 45 [(5, .int (pz_b (sp_w (tt T sz) s.1 19741))), (4, .int (Int32.ofInt 0)), (3, .int (sp_fa (tt T sz) s.1)), (0, .ref 4), (1, .ref 14), (2, .int dep)] [.int (pz_b (sp_w (tt T sz) s.1 19741))] h from ?_)
      cases e225 : sp_w (tt T sz) s.1 19741 with
      | true =>
        refine am_goX 1 (show (¬ (pz_b (true)) = 0 → pz_S 7 (some .boolean) am_r75 d Q 69 [(5, .int (pz_b (true))), (4, .int (Int32.ofInt 0)), (3, .int (sp_fa (tt T sz) s.1)), (0, .ref 4), (1, .ref 14), (2, .int dep)] [] h) ∧ (¬ ¬ (pz_b (true)) = 0 → pz_S 7 (some .boolean) am_r75 d Q 48 [(5, .int (pz_b (true))), (4, .int (Int32.ofInt 0)), (3, .int (sp_fa (tt T sz) s.1)), (0, .ref 4), (1, .ref 14), (2, .int dep)] [] h) from ⟨fun _ => ?_, fun hz => absurd (by decide) hz⟩)
        refine am_goX 3 (show (dep < (Int32.ofInt 5) → pz_S 7 (some .boolean) am_r75 d Q 83 [(5, .int (pz_b (true))), (4, .int (Int32.ofInt 0)), (3, .int (sp_fa (tt T sz) s.1)), (0, .ref 4), (1, .ref 14), (2, .int dep)] [] h) ∧ (¬ (dep < (Int32.ofInt 5)) → pz_S 7 (some .boolean) am_r75 d Q 74 [(5, .int (pz_b (true))), (4, .int (Int32.ofInt 0)), (3, .int (sp_fa (tt T sz) s.1)), (0, .ref 4), (1, .ref 14), (2, .int dep)] [] h) from ⟨fun hz => absurd hz (by rw [hdp]; decide), fun _ => ?_⟩)
        refine am_goX 2 (show am_sh h 4 = some (4, 0) ∧ pz_S 7 (some .boolean) am_r75 d Q 78 [(5, .int (pz_b (true))), (4, .int (Int32.ofInt 0)), (3, .int (sp_fa (tt T sz) s.1)), (0, .ref 4), (1, .ref 14), (2, .int dep)] [am_rf (h.2.2.1 4 0)] h from ⟨ex_4 (c_P l.1), ?_⟩)
        rw [ex_r4_0 (c_P l.1)]
        refine am_goX 2 (show am_rc h 1 7 ∧ 0 ≤ 8 ∧ h.2.2.2.2 + am_al 52 ≤ 175 ∧ am_call am_cod d 52 [.ref 1, .int (Int32.ofInt 5)] h (fun vv h' => pz_S 7 (some .boolean) am_r75 d Q 82 [(5, .int (pz_b (true))), (4, .int (Int32.ofInt 0)), (3, .int (sp_fa (tt T sz) s.1)), (0, .ref 4), (1, .ref 14), (2, .int dep)] (vv.toList ++ []) h') from ⟨Or.inl ⟨by decide, ex_1 (c_P l.1)⟩, by decide, ex_lim (c_P l.1) rfl, am_call.up (c_refuse l.1 ?_) (by omega)⟩)
        have x226 := cr_x (s := s) (k := (Int32.ofInt 5)) (by decide) l (by decide)
        exact am_goX 1 (show (∃ ty, (some .boolean) = some ty ∧ narrow ty (.int ((Int32.ofInt 0))) = .int ((Int32.ofInt 0))) ∧ (am_wI h 1 7 (sp_ft (tt T sz) s.1 (Int32.ofInt 5))).2.2.2.2 = 175 ∧ _ from ⟨⟨.boolean, rfl, rfl⟩, ex_175 x226.1, hQ _ _ (cres_inl (F := sp_ft (tt T sz) s.1 (Int32.ofInt 5)) (by simp only [sp_pt, sp_b, sp_f, cond_true, cond_false, e2, e3, e225, Bool.and_true, Bool.and_false, Bool.true_and, Bool.false_and, Bool.not_true, Bool.not_false]) rfl x226)⟩)
      | false =>
        refine am_goX 1 (show (¬ (pz_b (false)) = 0 → pz_S 7 (some .boolean) am_r75 d Q 69 [(5, .int (pz_b (false))), (4, .int (Int32.ofInt 0)), (3, .int (sp_fa (tt T sz) s.1)), (0, .ref 4), (1, .ref 14), (2, .int dep)] [] h) ∧ (¬ ¬ (pz_b (false)) = 0 → pz_S 7 (some .boolean) am_r75 d Q 48 [(5, .int (pz_b (false))), (4, .int (Int32.ofInt 0)), (3, .int (sp_fa (tt T sz) s.1)), (0, .ref 4), (1, .ref 14), (2, .int dep)] [] h) from ⟨fun hz => absurd hz (by decide), fun _ => ?_⟩)
        refine am_goX 2 (show am_sh h 4 = some (4, 0) ∧ pz_S 7 (some .boolean) am_r75 d Q 52 [(5, .int (pz_b (false))), (4, .int (Int32.ofInt 0)), (3, .int (sp_fa (tt T sz) s.1)), (0, .ref 4), (1, .ref 14), (2, .int dep)] [am_rf (h.2.2.1 4 0)] h from ⟨ex_4 (c_P l.1), ?_⟩)
        rw [ex_r4_0 (c_P l.1)]
        refine am_goX 2 (show am_rc h 1 7 ∧ 0 ≤ 8 ∧ h.2.2.2.2 + am_al 62 ≤ 175 ∧ am_call am_cod d 62 [.ref 1, .int (Int8.ofInt 40).toInt32] h (fun vv h' => pz_S 7 (some .boolean) am_r75 d Q 57 [(5, .int (pz_b (false))), (4, .int (Int32.ofInt 0)), (3, .int (sp_fa (tt T sz) s.1)), (0, .ref 4), (1, .ref 14), (2, .int dep)] (vv.toList ++ []) h') from ⟨Or.inl ⟨by decide, ex_1 (c_P l.1)⟩, by decide, ex_lim (c_P l.1) rfl, am_call.up (c_iss l.1 ?_) (by omega)⟩)
        cases e227 : sp_s (tt T sz) s.1 (Int8.ofInt 40).toInt32 with
        | true =>
          refine am_goX 1 (show (¬ (pz_b (true)) = 0 → pz_S 7 (some .boolean) am_r75 d Q 69 [(5, .int (pz_b (false))), (4, .int (Int32.ofInt 0)), (3, .int (sp_fa (tt T sz) s.1)), (0, .ref 4), (1, .ref 14), (2, .int dep)] [] h) ∧ (¬ ¬ (pz_b (true)) = 0 → pz_S 7 (some .boolean) am_r75 d Q 60 [(5, .int (pz_b (false))), (4, .int (Int32.ofInt 0)), (3, .int (sp_fa (tt T sz) s.1)), (0, .ref 4), (1, .ref 14), (2, .int dep)] [] h) from ⟨fun _ => ?_, fun hz => absurd (by decide) hz⟩)
          refine am_goX 3 (show (dep < (Int32.ofInt 5) → pz_S 7 (some .boolean) am_r75 d Q 83 [(5, .int (pz_b (false))), (4, .int (Int32.ofInt 0)), (3, .int (sp_fa (tt T sz) s.1)), (0, .ref 4), (1, .ref 14), (2, .int dep)] [] h) ∧ (¬ (dep < (Int32.ofInt 5)) → pz_S 7 (some .boolean) am_r75 d Q 74 [(5, .int (pz_b (false))), (4, .int (Int32.ofInt 0)), (3, .int (sp_fa (tt T sz) s.1)), (0, .ref 4), (1, .ref 14), (2, .int dep)] [] h) from ⟨fun hz => absurd hz (by rw [hdp]; decide), fun _ => ?_⟩)
          refine am_goX 2 (show am_sh h 4 = some (4, 0) ∧ pz_S 7 (some .boolean) am_r75 d Q 78 [(5, .int (pz_b (false))), (4, .int (Int32.ofInt 0)), (3, .int (sp_fa (tt T sz) s.1)), (0, .ref 4), (1, .ref 14), (2, .int dep)] [am_rf (h.2.2.1 4 0)] h from ⟨ex_4 (c_P l.1), ?_⟩)
          rw [ex_r4_0 (c_P l.1)]
          refine am_goX 2 (show am_rc h 1 7 ∧ 0 ≤ 8 ∧ h.2.2.2.2 + am_al 52 ≤ 175 ∧ am_call am_cod d 52 [.ref 1, .int (Int32.ofInt 5)] h (fun vv h' => pz_S 7 (some .boolean) am_r75 d Q 82 [(5, .int (pz_b (false))), (4, .int (Int32.ofInt 0)), (3, .int (sp_fa (tt T sz) s.1)), (0, .ref 4), (1, .ref 14), (2, .int dep)] (vv.toList ++ []) h') from ⟨Or.inl ⟨by decide, ex_1 (c_P l.1)⟩, by decide, ex_lim (c_P l.1) rfl, am_call.up (c_refuse l.1 ?_) (by omega)⟩)
          have x228 := cr_x (s := s) (k := (Int32.ofInt 5)) (by decide) l (by decide)
          exact am_goX 1 (show (∃ ty, (some .boolean) = some ty ∧ narrow ty (.int ((Int32.ofInt 0))) = .int ((Int32.ofInt 0))) ∧ (am_wI h 1 7 (sp_ft (tt T sz) s.1 (Int32.ofInt 5))).2.2.2.2 = 175 ∧ _ from ⟨⟨.boolean, rfl, rfl⟩, ex_175 x228.1, hQ _ _ (cres_inl (F := sp_ft (tt T sz) s.1 (Int32.ofInt 5)) (by simp only [sp_pt, sp_b, sp_f, cond_true, cond_false, e2, e3, e225, e227, Bool.and_true, Bool.and_false, Bool.true_and, Bool.false_and, Bool.not_true, Bool.not_false]) rfl x228)⟩)
        | false =>
          refine am_goX 1 (show (¬ (pz_b (false)) = 0 → pz_S 7 (some .boolean) am_r75 d Q 69 [(5, .int (pz_b (false))), (4, .int (Int32.ofInt 0)), (3, .int (sp_fa (tt T sz) s.1)), (0, .ref 4), (1, .ref 14), (2, .int dep)] [] h) ∧ (¬ ¬ (pz_b (false)) = 0 → pz_S 7 (some .boolean) am_r75 d Q 60 [(5, .int (pz_b (false))), (4, .int (Int32.ofInt 0)), (3, .int (sp_fa (tt T sz) s.1)), (0, .ref 4), (1, .ref 14), (2, .int dep)] [] h) from ⟨fun hz => absurd hz (by decide), fun _ => ?_⟩)
          refine am_goX 2 (show am_sh h 4 = some (4, 0) ∧ pz_S 7 (some .boolean) am_r75 d Q 64 [(5, .int (pz_b (false))), (4, .int (Int32.ofInt 0)), (3, .int (sp_fa (tt T sz) s.1)), (0, .ref 4), (1, .ref 14), (2, .int dep)] [am_rf (h.2.2.1 4 0)] h from ⟨ex_4 (c_P l.1), ?_⟩)
          rw [ex_r4_0 (c_P l.1)]
          refine am_goX 2 (show am_rc h 1 7 ∧ 0 ≤ 8 ∧ h.2.2.2.2 + am_al 52 ≤ 175 ∧ am_call am_cod d 52 [.ref 1, .int (Int32.ofInt 1)] h (fun vv h' => pz_S 7 (some .boolean) am_r75 d Q 68 [(5, .int (pz_b (false))), (4, .int (Int32.ofInt 0)), (3, .int (sp_fa (tt T sz) s.1)), (0, .ref 4), (1, .ref 14), (2, .int dep)] (vv.toList ++ []) h') from ⟨Or.inl ⟨by decide, ex_1 (c_P l.1)⟩, by decide, ex_lim (c_P l.1) rfl, am_call.up (c_refuse l.1 ?_) (by omega)⟩)
          have x229 := cr_x (s := s) (k := (Int32.ofInt 1)) (by decide) l (by decide)
          exact am_goX 1 (show (∃ ty, (some .boolean) = some ty ∧ narrow ty (.int ((Int32.ofInt 0))) = .int ((Int32.ofInt 0))) ∧ (am_wI h 1 7 (sp_ft (tt T sz) s.1 (Int32.ofInt 1))).2.2.2.2 = 175 ∧ _ from ⟨⟨.boolean, rfl, rfl⟩, ex_175 x229.1, hQ _ _ (cres_inl (F := sp_ft (tt T sz) s.1 (Int32.ofInt 1)) (by simp only [sp_pt, sp_b, sp_f, cond_true, cond_false, e2, e3, e225, e227, Bool.and_true, Bool.and_false, Bool.true_and, Bool.false_and, Bool.not_true, Bool.not_false]) rfl x229)⟩)
  ·
    have e2 : sp_k (tt T sz) s.1 2 = true := by rw [← hk]; exact decide_eq_true (Decidable.not_not.mp hc)
    clear hc
    refine am_goX 5 (show 4 < 7 ∧ am_sh h 4 = some (4, 0) ∧ pz_S 7 (some .boolean) am_r75 d Q 27 [(4, .int (Int32.ofInt 1)), (3, .int (sp_fa (tt T sz) s.1)), (0, .ref 4), (1, .ref 14), (2, .int dep)] [am_rf (h.2.2.1 4 0)] h from ⟨by decide, ex_4 (c_P l.1), ?_⟩)
    rw [ex_r4_0 (c_P l.1)]
    refine am_goX 2 (show am_rc h 1 7 ∧ 0 ≤ 8 ∧ h.2.2.2.2 + am_al 44 ≤ 175 ∧ am_call am_cod d 44 [.ref 1, .ref (4000000 + 18)] h (fun vv h' => pz_S 7 (some .boolean) am_r75 d Q 32 [(4, .int (Int32.ofInt 1)), (3, .int (sp_fa (tt T sz) s.1)), (0, .ref 4), (1, .ref 14), (2, .int dep)] (vv.toList ++ []) h') from ⟨Or.inl ⟨by decide, ex_1 (c_P l.1)⟩, by decide, ex_lim (c_P l.1) rfl, am_call.up (c_isw (by decide) wq_18 l.1 ?_) (by omega)⟩)
    refine am_goX 3 (show 5 < 7 ∧ (¬ (sp_fa (tt T sz) s.1) = 0 → pz_S 7 (some .boolean) am_r75 d Q 69 [(5, .int (pz_b (sp_w (tt T sz) s.1 19741))), (4, .int (Int32.ofInt 1)), (3, .int (sp_fa (tt T sz) s.1)), (0, .ref 4), (1, .ref 14), (2, .int dep)] [] h) ∧ (¬ ¬ (sp_fa (tt T sz) s.1) = 0 → pz_S 7 (some .boolean) am_r75 d Q 38 [(5, .int (pz_b (sp_w (tt T sz) s.1 19741))), (4, .int (Int32.ofInt 1)), (3, .int (sp_fa (tt T sz) s.1)), (0, .ref 4), (1, .ref 14), (2, .int dep)] [] h) from ⟨by decide, fun hc => ?_, fun hc => ?_⟩)
    ·
      have e3n : ¬ sp_fa (tt T sz) s.1 = 0 := hc
      have e3 : decide (sp_fa (tt T sz) s.1 = 0) = false := decide_eq_false e3n
      clear hc
      refine am_goX 3 (show (dep < (Int32.ofInt 5) → pz_S 7 (some .boolean) am_r75 d Q 83 [(5, .int (pz_b (sp_w (tt T sz) s.1 19741))), (4, .int (Int32.ofInt 1)), (3, .int (sp_fa (tt T sz) s.1)), (0, .ref 4), (1, .ref 14), (2, .int dep)] [] h) ∧ (¬ (dep < (Int32.ofInt 5)) → pz_S 7 (some .boolean) am_r75 d Q 74 [(5, .int (pz_b (sp_w (tt T sz) s.1 19741))), (4, .int (Int32.ofInt 1)), (3, .int (sp_fa (tt T sz) s.1)), (0, .ref 4), (1, .ref 14), (2, .int dep)] [] h) from ⟨fun hz => absurd hz (by rw [hdp]; decide), fun _ => ?_⟩)
      refine am_goX 2 (show am_sh h 4 = some (4, 0) ∧ pz_S 7 (some .boolean) am_r75 d Q 78 [(5, .int (pz_b (sp_w (tt T sz) s.1 19741))), (4, .int (Int32.ofInt 1)), (3, .int (sp_fa (tt T sz) s.1)), (0, .ref 4), (1, .ref 14), (2, .int dep)] [am_rf (h.2.2.1 4 0)] h from ⟨ex_4 (c_P l.1), ?_⟩)
      rw [ex_r4_0 (c_P l.1)]
      refine am_goX 2 (show am_rc h 1 7 ∧ 0 ≤ 8 ∧ h.2.2.2.2 + am_al 52 ≤ 175 ∧ am_call am_cod d 52 [.ref 1, .int (Int32.ofInt 5)] h (fun vv h' => pz_S 7 (some .boolean) am_r75 d Q 82 [(5, .int (pz_b (sp_w (tt T sz) s.1 19741))), (4, .int (Int32.ofInt 1)), (3, .int (sp_fa (tt T sz) s.1)), (0, .ref 4), (1, .ref 14), (2, .int dep)] (vv.toList ++ []) h') from ⟨Or.inl ⟨by decide, ex_1 (c_P l.1)⟩, by decide, ex_lim (c_P l.1) rfl, am_call.up (c_refuse l.1 ?_) (by omega)⟩)
      have x230 := cr_x (s := s) (k := (Int32.ofInt 5)) (by decide) l (by decide)
      exact am_goX 1 (show (∃ ty, (some .boolean) = some ty ∧ narrow ty (.int ((Int32.ofInt 0))) = .int ((Int32.ofInt 0))) ∧ (am_wI h 1 7 (sp_ft (tt T sz) s.1 (Int32.ofInt 5))).2.2.2.2 = 175 ∧ _ from ⟨⟨.boolean, rfl, rfl⟩, ex_175 x230.1, hQ _ _ (cres_inl (F := sp_ft (tt T sz) s.1 (Int32.ofInt 5)) (by simp only [sp_pt, sp_b, sp_f, cond_true, cond_false, e2, e3, Bool.and_true, Bool.and_false, Bool.true_and, Bool.false_and, Bool.not_true, Bool.not_false]) rfl x230)⟩)
    ·
      have e3a : sp_fa (tt T sz) s.1 = 0 := Decidable.not_not.mp hc
      have e3 : decide (sp_fa (tt T sz) s.1 = 0) = true := decide_eq_true e3a
      clear hc
      refine am_goX 2 (show (¬ (Int32.ofInt 1) = 0 → pz_S 7 (some .boolean) am_r75 d Q 69 [(5, .int (pz_b (sp_w (tt T sz) s.1 19741))), (4, .int (Int32.ofInt 1)), (3, .int (sp_fa (tt T sz) s.1)), (0, .ref 4), (1, .ref 14), (2, .int dep)] [] h) ∧ (¬ ¬ (Int32.ofInt 1) = 0 → pz_S 7 (some .boolean) am_r75 d Q 43 [(5, .int (pz_b (sp_w (tt T sz) s.1 19741))), (4, .int (Int32.ofInt 1)), (3, .int (sp_fa (tt T sz) s.1)), (0, .ref 4), (1, .ref 14), (2, .int dep)] [] h) from ⟨fun _ => ?_, fun hz => absurd (by decide) hz⟩)
      refine am_goX 3 (show (dep < (Int32.ofInt 5) → pz_S 7 (some .boolean) am_r75 d Q 83 [(5, .int (pz_b (sp_w (tt T sz) s.1 19741))), (4, .int (Int32.ofInt 1)), (3, .int (sp_fa (tt T sz) s.1)), (0, .ref 4), (1, .ref 14), (2, .int dep)] [] h) ∧ (¬ (dep < (Int32.ofInt 5)) → pz_S 7 (some .boolean) am_r75 d Q 74 [(5, .int (pz_b (sp_w (tt T sz) s.1 19741))), (4, .int (Int32.ofInt 1)), (3, .int (sp_fa (tt T sz) s.1)), (0, .ref 4), (1, .ref 14), (2, .int dep)] [] h) from ⟨fun hz => absurd hz (by rw [hdp]; decide), fun _ => ?_⟩)
      refine am_goX 2 (show am_sh h 4 = some (4, 0) ∧ pz_S 7 (some .boolean) am_r75 d Q 78 [(5, .int (pz_b (sp_w (tt T sz) s.1 19741))), (4, .int (Int32.ofInt 1)), (3, .int (sp_fa (tt T sz) s.1)), (0, .ref 4), (1, .ref 14), (2, .int dep)] [am_rf (h.2.2.1 4 0)] h from ⟨ex_4 (c_P l.1), ?_⟩)
      rw [ex_r4_0 (c_P l.1)]
      refine am_goX 2 (show am_rc h 1 7 ∧ 0 ≤ 8 ∧ h.2.2.2.2 + am_al 52 ≤ 175 ∧ am_call am_cod d 52 [.ref 1, .int (Int32.ofInt 5)] h (fun vv h' => pz_S 7 (some .boolean) am_r75 d Q 82 [(5, .int (pz_b (sp_w (tt T sz) s.1 19741))), (4, .int (Int32.ofInt 1)), (3, .int (sp_fa (tt T sz) s.1)), (0, .ref 4), (1, .ref 14), (2, .int dep)] (vv.toList ++ []) h') from ⟨Or.inl ⟨by decide, ex_1 (c_P l.1)⟩, by decide, ex_lim (c_P l.1) rfl, am_call.up (c_refuse l.1 ?_) (by omega)⟩)
      have x231 := cr_x (s := s) (k := (Int32.ofInt 5)) (by decide) l (by decide)
      exact am_goX 1 (show (∃ ty, (some .boolean) = some ty ∧ narrow ty (.int ((Int32.ofInt 0))) = .int ((Int32.ofInt 0))) ∧ (am_wI h 1 7 (sp_ft (tt T sz) s.1 (Int32.ofInt 5))).2.2.2.2 = 175 ∧ _ from ⟨⟨.boolean, rfl, rfl⟩, ex_175 x231.1, hQ _ _ (cres_inl (F := sp_ft (tt T sz) s.1 (Int32.ofInt 5)) (by simp only [sp_pt, sp_b, sp_f, cond_true, cond_false, e2, e3, Bool.and_true, Bool.and_false, Bool.true_and, Bool.false_and, Bool.not_true, Bool.not_false]) rfl x231)⟩)
theorem c_75s_6 {r : Nat} (hd : 6 ≤ d) (hdp : dep < Int32.ofInt 5) (k75 : lw_c h0 6 T sz d 75 (dep + Int32.ofInt 1) (sp_pt (tt T sz) r)) (k71 : lw_c h0 6 T sz d 71 (dep + Int32.ofInt 1) (sp_wh (tt T sz) (sp_pt (tt T sz) r))) : lw_c h0 6 T sz (d + 1) 75 dep (sp_pt (tt T sz) (r + 1)) := by
  intro s h Q l hQ
  have hP := c_P l.1
  have hk := ck_2 T sz s.1
  refine pz_call (n := 75) (nL := 7) (rt := (some .boolean)) (rows := am_r75) (d := d) (by decide +kernel) (by decide +kernel) rfl (by funext pc; rfl) (ex_175 hP) (by exact Nat.le_of_ble_eq_true rfl) ?_
  refine am_goX 2 (show am_rc h 4 4 ∧ 0 ≤ 8 ∧ h.2.2.2.2 + am_al 76 ≤ 175 ∧ am_call am_cod d 76 [.ref 4] h (fun vv h' => pz_S 7 (some .boolean) am_r75 d Q 4 [(0, .ref 4), (1, .ref 14), (2, .int dep)] (vv.toList ++ []) h') from ⟨Or.inl ⟨by decide, ex_4 (c_P l.1)⟩, by decide, ex_lim (c_P l.1) rfl, am_call.up (c_fact_6 l ?_) (by omega)⟩)
  refine am_goX 3 (show 3 < 7 ∧ am_sh h 4 = some (4, 0) ∧ pz_S 7 (some .boolean) am_r75 d Q 9 [(3, .int (sp_fa (tt T sz) s.1)), (0, .ref 4), (1, .ref 14), (2, .int dep)] [am_rf (h.2.2.1 4 0)] h from ⟨by decide, ex_4 (c_P l.1), ?_⟩)
  rw [ex_r4_0 (c_P l.1)]
  refine am_goX 2 (show am_sh h 1 = some (7, 0) ∧ pz_S 7 (some .boolean) am_r75 d Q 13 [(3, .int (sp_fa (tt T sz) s.1)), (0, .ref 4), (1, .ref 14), (2, .int dep)] [.int (Int32.ofInt 2), .int (h.1 1 2)] h from ⟨ex_1 (c_P l.1), ?_⟩)
  rw [c_kd l.1]
  refine am_goX 1 (show (¬ (ck (tt T sz s.1).1) = (Int32.ofInt 2) → pz_S 7 (some .boolean) am_r75 d Q 20 [(3, .int (sp_fa (tt T sz) s.1)), (0, .ref 4), (1, .ref 14), (2, .int dep)] [] h) ∧ (¬ ¬ (ck (tt T sz s.1).1) = (Int32.ofInt 2) → pz_S 7 (some .boolean) am_r75 d Q 16 [(3, .int (sp_fa (tt T sz) s.1)), (0, .ref 4), (1, .ref 14), (2, .int dep)] [] h) from ⟨fun hc => ?_, fun hc => ?_⟩)
  ·
    have e2 : sp_k (tt T sz) s.1 2 = false := by rw [← hk]; exact decide_eq_false hc
    clear hc
    refine am_goX 4 (show 4 < 7 ∧ am_sh h 4 = some (4, 0) ∧ pz_S 7 (some .boolean) am_r75 d Q 27 [(4, .int (Int32.ofInt 0)), (3, .int (sp_fa (tt T sz) s.1)), (0, .ref 4), (1, .ref 14), (2, .int dep)] [am_rf (h.2.2.1 4 0)] h from ⟨by decide, ex_4 (c_P l.1), ?_⟩)
    rw [ex_r4_0 (c_P l.1)]
    refine am_goX 2 (show am_rc h 1 7 ∧ 0 ≤ 8 ∧ h.2.2.2.2 + am_al 44 ≤ 175 ∧ am_call am_cod d 44 [.ref 1, .ref (4000000 + 18)] h (fun vv h' => pz_S 7 (some .boolean) am_r75 d Q 32 [(4, .int (Int32.ofInt 0)), (3, .int (sp_fa (tt T sz) s.1)), (0, .ref 4), (1, .ref 14), (2, .int dep)] (vv.toList ++ []) h') from ⟨Or.inl ⟨by decide, ex_1 (c_P l.1)⟩, by decide, ex_lim (c_P l.1) rfl, am_call.up (c_isw (by decide) wq_18 l.1 ?_) (by omega)⟩)
    refine am_goX 3 (show 5 < 7 ∧ (¬ (sp_fa (tt T sz) s.1) = 0 → pz_S 7 (some .boolean) am_r75 d Q 69 [(5, .int (pz_b (sp_w (tt T sz) s.1 19741))), (4, .int (Int32.ofInt 0)), (3, .int (sp_fa (tt T sz) s.1)), (0, .ref 4), (1, .ref 14), (2, .int dep)] [] h) ∧ (¬ ¬ (sp_fa (tt T sz) s.1) = 0 → pz_S 7 (some .boolean) am_r75 d Q 38 [(5, .int (pz_b (sp_w (tt T sz) s.1 19741))), (4, .int (Int32.ofInt 0)), (3, .int (sp_fa (tt T sz) s.1)), (0, .ref 4), (1, .ref 14), (2, .int dep)] [] h) from ⟨by decide, fun hc => ?_, fun hc => ?_⟩)
    ·
      have e3n : ¬ sp_fa (tt T sz) s.1 = 0 := hc
      have e3 : decide (sp_fa (tt T sz) s.1 = 0) = false := decide_eq_false e3n
      clear hc
      refine am_goX 3 (show (dep < (Int32.ofInt 5) → pz_S 7 (some .boolean) am_r75 d Q 83 [(5, .int (pz_b (sp_w (tt T sz) s.1 19741))), (4, .int (Int32.ofInt 0)), (3, .int (sp_fa (tt T sz) s.1)), (0, .ref 4), (1, .ref 14), (2, .int dep)] [] h) ∧ (¬ (dep < (Int32.ofInt 5)) → pz_S 7 (some .boolean) am_r75 d Q 74 [(5, .int (pz_b (sp_w (tt T sz) s.1 19741))), (4, .int (Int32.ofInt 0)), (3, .int (sp_fa (tt T sz) s.1)), (0, .ref 4), (1, .ref 14), (2, .int dep)] [] h) from ⟨fun _ => ?_, fun hz => absurd hdp hz⟩)
      refine am_goX 2 (show (¬ (Int32.ofInt 0) = 0 → pz_S 7 (some .boolean) am_r75 d Q 92 [(5, .int (pz_b (sp_w (tt T sz) s.1 19741))), (4, .int (Int32.ofInt 0)), (3, .int (sp_fa (tt T sz) s.1)), (0, .ref 4), (1, .ref 14), (2, .int dep)] [] h) ∧ (¬ ¬ (Int32.ofInt 0) = 0 → pz_S 7 (some .boolean) am_r75 d Q 88 [(5, .int (pz_b (sp_w (tt T sz) s.1 19741))), (4, .int (Int32.ofInt 0)), (3, .int (sp_fa (tt T sz) s.1)), (0, .ref 4), (1, .ref 14), (2, .int dep)] [] h) from ⟨fun hz => absurd hz (by decide), fun _ => ?_⟩)
      refine am_goX 2 (show ((sp_fa (tt T sz) s.1) = 0 → pz_S 7 (some .boolean) am_r75 d Q 121 [(5, .int (pz_b (sp_w (tt T sz) s.1 19741))), (4, .int (Int32.ofInt 0)), (3, .int (sp_fa (tt T sz) s.1)), (0, .ref 4), (1, .ref 14), (2, .int dep)] [] h) ∧ (¬ ((sp_fa (tt T sz) s.1) = 0) → pz_S 7 (some .boolean) am_r75 d Q 92 [(5, .int (pz_b (sp_w (tt T sz) s.1 19741))), (4, .int (Int32.ofInt 0)), (3, .int (sp_fa (tt T sz) s.1)), (0, .ref 4), (1, .ref 14), (2, .int dep)] [] h) from ⟨fun hz => absurd hz e3n, fun _ => ?_⟩)
      refine am_goX 3 (show ((Int32.ofInt 0) = 0 → pz_S 7 (some .boolean) am_r75 d Q 108 [(5, .int (pz_b (sp_w (tt T sz) s.1 19741))), (4, .int (Int32.ofInt 0)), (3, .int (sp_fa (tt T sz) s.1)), (0, .ref 4), (1, .ref 14), (2, .int dep)] [.ref 14] h) ∧ (¬ ((Int32.ofInt 0) = 0) → pz_S 7 (some .boolean) am_r75 d Q 98 [(5, .int (pz_b (sp_w (tt T sz) s.1 19741))), (4, .int (Int32.ofInt 0)), (3, .int (sp_fa (tt T sz) s.1)), (0, .ref 4), (1, .ref 14), (2, .int dep)] [.ref 14] h) from ⟨fun _ => ?_, fun hz => absurd (by decide) hz⟩)
      refine am_goX 2 (show am_rc h 14 3 ∧ 0 ≤ 8 ∧ h.2.2.2.2 + am_al 77 ≤ 175 ∧ am_call am_cod d 77 [.ref 14, .int (sp_fa (tt T sz) s.1)] h (fun vv h' => pz_S 7 (some .boolean) am_r75 d Q 112 [(5, .int (pz_b (sp_w (tt T sz) s.1 19741))), (4, .int (Int32.ofInt 0)), (3, .int (sp_fa (tt T sz) s.1)), (0, .ref 4), (1, .ref 14), (2, .int dep)] (vv.toList ++ []) h') from ⟨Or.inl ⟨by decide, ex_14 (c_P l.1)⟩, by decide, ex_lim (c_P l.1) rfl, am_call.up (c_addn_6 l (cr_lt l (c_fan e3n)) (fun h232 m233 => ?_)) (by omega)⟩)
      refine am_goX 2 (show am_sh h232 4 = some (4, 0) ∧ pz_S 7 (some .boolean) am_r75 d Q 116 [(5, .int (pz_b (sp_w (tt T sz) s.1 19741))), (4, .int (Int32.ofInt 0)), (3, .int (sp_fa (tt T sz) s.1)), (0, .ref 4), (1, .ref 14), (2, .int dep)] [am_rf (h232.2.2.1 4 0)] h232 from ⟨ex_4 (c_P m233.1), ?_⟩)
      rw [ex_r4_0 (c_P m233.1)]
      refine am_goX 1 (show am_rc h232 1 7 ∧ 0 ≤ 8 ∧ h232.2.2.2.2 + am_al 18 ≤ 175 ∧ am_call am_cod d 18 [.ref 1] h232 (fun vv h' => pz_S 7 (some .boolean) am_r75 d Q 119 [(5, .int (pz_b (sp_w (tt T sz) s.1 19741))), (4, .int (Int32.ofInt 0)), (3, .int (sp_fa (tt T sz) s.1)), (0, .ref 4), (1, .ref 14), (2, .int dep)] (vv.toList ++ []) h') from ⟨Or.inl ⟨by decide, ex_1 (c_P m233.1)⟩, by decide, ex_lim (c_P m233.1) rfl, am_call.up (c_step m233.1 (c_fan e3n) (fun h234 m235 f236 => ?_)) (by omega)⟩)
      have l237 := cr_em2 (by decide) m233 m235 f236
      exact am_goX 2 (show (∃ ty, (some .boolean) = some ty ∧ narrow ty (.int ((Int32.ofInt 1))) = .int ((Int32.ofInt 1))) ∧ h234.2.2.2.2 = 175 ∧ _ from ⟨⟨.boolean, rfl, rfl⟩, ex_175 (c_P l237.1), hQ _ _ (cres_inr (s' := (s.1 + 1, sp_em s.2 (sp_fa (tt T sz) s.1))) (by simp only [sp_pt, sp_b, sp_f, cond_true, cond_false, e2, e3, Bool.and_true, Bool.and_false, Bool.true_and, Bool.false_and, Bool.not_true, Bool.not_false]) rfl l237)⟩)
    ·
      have e3a : sp_fa (tt T sz) s.1 = 0 := Decidable.not_not.mp hc
      have e3 : decide (sp_fa (tt T sz) s.1 = 0) = true := decide_eq_true e3a
      clear hc
      refine am_goX 2 (show (¬ (Int32.ofInt 0) = 0 → pz_S 7 (some .boolean) am_r75 d Q 69 [(5, .int (pz_b (sp_w (tt T sz) s.1 19741))), (4, .int (Int32.ofInt 0)), (3, .int (sp_fa (tt T sz) s.1)), (0, .ref 4), (1, .ref 14), (2, .int dep)] [] h) ∧ (¬ ¬ (Int32.ofInt 0) = 0 → pz_S 7 (some .boolean) am_r75 d Q 43 [(5, .int (pz_b (sp_w (tt T sz) s.1 19741))), (4, .int (Int32.ofInt 0)), (3, .int (sp_fa (tt T sz) s.1)), (0, .ref 4), (1, .ref 14), (2, .int dep)] [] h) from ⟨fun hz => absurd hz (by decide), fun _ => ?_⟩)
      refine am_goX 1 (show pz_S 7 (some .boolean) am_r75 d Q 45 [(5, .int (pz_b (sp_w (tt T sz) s.1 19741))), (4, .int (Int32.ofInt 0)), (3, .int (sp_fa (tt T sz) s.1)), (0, .ref 4), (1, .ref 14), (2, .int dep)] [.int (pz_b (sp_w (tt T sz) s.1 19741))] h from ?_)
      cases e238 : sp_w (tt T sz) s.1 19741 with
      | true =>
        refine am_goX 1 (show (¬ (pz_b (true)) = 0 → pz_S 7 (some .boolean) am_r75 d Q 69 [(5, .int (pz_b (true))), (4, .int (Int32.ofInt 0)), (3, .int (sp_fa (tt T sz) s.1)), (0, .ref 4), (1, .ref 14), (2, .int dep)] [] h) ∧ (¬ ¬ (pz_b (true)) = 0 → pz_S 7 (some .boolean) am_r75 d Q 48 [(5, .int (pz_b (true))), (4, .int (Int32.ofInt 0)), (3, .int (sp_fa (tt T sz) s.1)), (0, .ref 4), (1, .ref 14), (2, .int dep)] [] h) from ⟨fun _ => ?_, fun hz => absurd (by decide) hz⟩)
        refine am_goX 3 (show (dep < (Int32.ofInt 5) → pz_S 7 (some .boolean) am_r75 d Q 83 [(5, .int (pz_b (true))), (4, .int (Int32.ofInt 0)), (3, .int (sp_fa (tt T sz) s.1)), (0, .ref 4), (1, .ref 14), (2, .int dep)] [] h) ∧ (¬ (dep < (Int32.ofInt 5)) → pz_S 7 (some .boolean) am_r75 d Q 74 [(5, .int (pz_b (true))), (4, .int (Int32.ofInt 0)), (3, .int (sp_fa (tt T sz) s.1)), (0, .ref 4), (1, .ref 14), (2, .int dep)] [] h) from ⟨fun _ => ?_, fun hz => absurd hdp hz⟩)
        refine am_goX 2 (show (¬ (Int32.ofInt 0) = 0 → pz_S 7 (some .boolean) am_r75 d Q 92 [(5, .int (pz_b (true))), (4, .int (Int32.ofInt 0)), (3, .int (sp_fa (tt T sz) s.1)), (0, .ref 4), (1, .ref 14), (2, .int dep)] [] h) ∧ (¬ ¬ (Int32.ofInt 0) = 0 → pz_S 7 (some .boolean) am_r75 d Q 88 [(5, .int (pz_b (true))), (4, .int (Int32.ofInt 0)), (3, .int (sp_fa (tt T sz) s.1)), (0, .ref 4), (1, .ref 14), (2, .int dep)] [] h) from ⟨fun hz => absurd hz (by decide), fun _ => ?_⟩)
        refine am_goX 2 (show ((sp_fa (tt T sz) s.1) = 0 → pz_S 7 (some .boolean) am_r75 d Q 121 [(5, .int (pz_b (true))), (4, .int (Int32.ofInt 0)), (3, .int (sp_fa (tt T sz) s.1)), (0, .ref 4), (1, .ref 14), (2, .int dep)] [] h) ∧ (¬ ((sp_fa (tt T sz) s.1) = 0) → pz_S 7 (some .boolean) am_r75 d Q 92 [(5, .int (pz_b (true))), (4, .int (Int32.ofInt 0)), (3, .int (sp_fa (tt T sz) s.1)), (0, .ref 4), (1, .ref 14), (2, .int dep)] [] h) from ⟨fun _ => ?_, fun hz => absurd e3a hz⟩)
        refine am_goX 2 (show am_sh h 4 = some (4, 0) ∧ pz_S 7 (some .boolean) am_r75 d Q 125 [(5, .int (pz_b (true))), (4, .int (Int32.ofInt 0)), (3, .int (sp_fa (tt T sz) s.1)), (0, .ref 4), (1, .ref 14), (2, .int dep)] [am_rf (h.2.2.1 4 0)] h from ⟨ex_4 (c_P l.1), ?_⟩)
        rw [ex_r4_0 (c_P l.1)]
        refine am_goX 1 (show am_rc h 1 7 ∧ 0 ≤ 8 ∧ h.2.2.2.2 + am_al 18 ≤ 175 ∧ am_call am_cod d 18 [.ref 1] h (fun vv h' => pz_S 7 (some .boolean) am_r75 d Q 128 [(5, .int (pz_b (true))), (4, .int (Int32.ofInt 0)), (3, .int (sp_fa (tt T sz) s.1)), (0, .ref 4), (1, .ref 14), (2, .int dep)] (vv.toList ++ []) h') from ⟨Or.inl ⟨by decide, ex_1 (c_P l.1)⟩, by decide, ex_lim (c_P l.1) rfl, am_call.up (c_step l.1 (sp_wn e238) (fun h239 m240 f241 => ?_)) (by omega)⟩)
        have l242 : cr h0 6 T sz ((s.1 + 1), s.2) h239 := cr_fr (a := s.1) (C := s.2) (by decide) l m240 (Nat.le_succ _) f241
        refine am_goX 2 (show ((pz_b (true)) = 0 → pz_S 7 (some .boolean) am_r75 d Q 152 [(5, .int (pz_b (true))), (4, .int (Int32.ofInt 0)), (3, .int (sp_fa (tt T sz) s.1)), (0, .ref 4), (1, .ref 14), (2, .int dep)] [] h239) ∧ (¬ ((pz_b (true)) = 0) → pz_S 7 (some .boolean) am_r75 d Q 133 [(5, .int (pz_b (true))), (4, .int (Int32.ofInt 0)), (3, .int (sp_fa (tt T sz) s.1)), (0, .ref 4), (1, .ref 14), (2, .int dep)] [] h239) from ⟨fun hz => absurd hz (by decide), fun _ => ?_⟩)
        refine am_goX 6 (show am_rc h239 4 4 ∧ 0 ≤ 8 ∧ h239.2.2.2.2 + am_al 75 ≤ 175 ∧ am_call am_cod d 75 [.ref 4, .ref 14, .int (dep + (Int32.ofInt 1))] h239 (fun vv h' => pz_S 7 (some .boolean) am_r75 d Q 141 [(5, .int (pz_b (true))), (4, .int (Int32.ofInt 0)), (3, .int (sp_fa (tt T sz) s.1)), (0, .ref 4), (1, .ref 14), (2, .int dep)] (vv.toList ++ []) h') from ⟨Or.inl ⟨by decide, ex_4 (c_P l242.1)⟩, by decide, ex_lim (c_P l242.1) rfl, k75 _ _ _ l242 (fun v243 h244 x245 => ?_)⟩)
        rcases cres_cs x245 with ⟨F247, e249, rfl, y250⟩ | ⟨t248, e249, rfl, y250⟩
        ·
          refine am_goX 4 (show 6 < 7 ∧ am_rc h244 14 3 ∧ 0 ≤ 8 ∧ h244.2.2.2.2 + am_al 77 ≤ 175 ∧ am_call am_cod d 77 [.ref 14, .int (Int8.ofInt (-5)).toInt32] h244 (fun vv h' => pz_S 7 (some .boolean) am_r75 d Q 149 [(6, .int 0), (5, .int (pz_b (true))), (4, .int (Int32.ofInt 0)), (3, .int (sp_fa (tt T sz) s.1)), (0, .ref 4), (1, .ref 14), (2, .int dep)] (vv.toList ++ []) h') from ⟨by decide, Or.inl ⟨by decide, ex_14 y250.1⟩, by decide, ex_lim y250.1 rfl, am_call.up (c_addx_6 y250 (fun h251 y252 => ?_)) (by omega)⟩)
          exact am_goX 2 (show (∃ ty, (some .boolean) = some ty ∧ narrow ty (.int (0)) = .int (0)) ∧ h251.2.2.2.2 = 175 ∧ _ from ⟨⟨.boolean, rfl, rfl⟩, ex_175 y252.1, hQ _ _ (cres_inl (F := F247) (by simp only [sp_pt, sp_b, sp_f, cond_true, cond_false, e2, e3, e238, e249, Bool.and_true, Bool.and_false, Bool.true_and, Bool.false_and, Bool.not_true, Bool.not_false]) rfl y252)⟩)
        ·
          refine am_goX 4 (show 6 < 7 ∧ am_rc h244 14 3 ∧ 0 ≤ 8 ∧ h244.2.2.2.2 + am_al 77 ≤ 175 ∧ am_call am_cod d 77 [.ref 14, .int (Int8.ofInt (-5)).toInt32] h244 (fun vv h' => pz_S 7 (some .boolean) am_r75 d Q 149 [(6, .int 1), (5, .int (pz_b (true))), (4, .int (Int32.ofInt 0)), (3, .int (sp_fa (tt T sz) s.1)), (0, .ref 4), (1, .ref 14), (2, .int dep)] (vv.toList ++ []) h') from ⟨by decide, Or.inl ⟨by decide, ex_14 (c_P y250.1)⟩, by decide, ex_lim (c_P y250.1) rfl, am_call.up (c_add_6 (a := t248.1) (C := t248.2) y250 (by
              have h7 := sp_pt_ok r _ _ e249
              have h8 := l.2.2.2
              unfold sp_le at h7
              dsimp only at h7
              omega) (fun h253 l254 => ?_)) (by omega)⟩)
          exact am_goX 2 (show (∃ ty, (some .boolean) = some ty ∧ narrow ty (.int (1)) = .int (1)) ∧ h253.2.2.2.2 = 175 ∧ _ from ⟨⟨.boolean, rfl, rfl⟩, ex_175 (c_P l254.1), hQ _ _ (cres_inr (s' := (t248.1, sp_em t248.2 ((Int8.ofInt (-5)).toInt32))) (by simp only [sp_pt, sp_b, sp_f, cond_true, cond_false, e2, e3, e238, e249, Bool.and_true, Bool.and_false, Bool.true_and, Bool.false_and, Bool.not_true, Bool.not_false]) rfl l254)⟩)
      | false =>
        refine am_goX 1 (show (¬ (pz_b (false)) = 0 → pz_S 7 (some .boolean) am_r75 d Q 69 [(5, .int (pz_b (false))), (4, .int (Int32.ofInt 0)), (3, .int (sp_fa (tt T sz) s.1)), (0, .ref 4), (1, .ref 14), (2, .int dep)] [] h) ∧ (¬ ¬ (pz_b (false)) = 0 → pz_S 7 (some .boolean) am_r75 d Q 48 [(5, .int (pz_b (false))), (4, .int (Int32.ofInt 0)), (3, .int (sp_fa (tt T sz) s.1)), (0, .ref 4), (1, .ref 14), (2, .int dep)] [] h) from ⟨fun hz => absurd hz (by decide), fun _ => ?_⟩)
        refine am_goX 2 (show am_sh h 4 = some (4, 0) ∧ pz_S 7 (some .boolean) am_r75 d Q 52 [(5, .int (pz_b (false))), (4, .int (Int32.ofInt 0)), (3, .int (sp_fa (tt T sz) s.1)), (0, .ref 4), (1, .ref 14), (2, .int dep)] [am_rf (h.2.2.1 4 0)] h from ⟨ex_4 (c_P l.1), ?_⟩)
        rw [ex_r4_0 (c_P l.1)]
        refine am_goX 2 (show am_rc h 1 7 ∧ 0 ≤ 8 ∧ h.2.2.2.2 + am_al 62 ≤ 175 ∧ am_call am_cod d 62 [.ref 1, .int (Int8.ofInt 40).toInt32] h (fun vv h' => pz_S 7 (some .boolean) am_r75 d Q 57 [(5, .int (pz_b (false))), (4, .int (Int32.ofInt 0)), (3, .int (sp_fa (tt T sz) s.1)), (0, .ref 4), (1, .ref 14), (2, .int dep)] (vv.toList ++ []) h') from ⟨Or.inl ⟨by decide, ex_1 (c_P l.1)⟩, by decide, ex_lim (c_P l.1) rfl, am_call.up (c_iss l.1 ?_) (by omega)⟩)
        cases e255 : sp_s (tt T sz) s.1 (Int8.ofInt 40).toInt32 with
        | true =>
          refine am_goX 1 (show (¬ (pz_b (true)) = 0 → pz_S 7 (some .boolean) am_r75 d Q 69 [(5, .int (pz_b (false))), (4, .int (Int32.ofInt 0)), (3, .int (sp_fa (tt T sz) s.1)), (0, .ref 4), (1, .ref 14), (2, .int dep)] [] h) ∧ (¬ ¬ (pz_b (true)) = 0 → pz_S 7 (some .boolean) am_r75 d Q 60 [(5, .int (pz_b (false))), (4, .int (Int32.ofInt 0)), (3, .int (sp_fa (tt T sz) s.1)), (0, .ref 4), (1, .ref 14), (2, .int dep)] [] h) from ⟨fun _ => ?_, fun hz => absurd (by decide) hz⟩)
          refine am_goX 3 (show (dep < (Int32.ofInt 5) → pz_S 7 (some .boolean) am_r75 d Q 83 [(5, .int (pz_b (false))), (4, .int (Int32.ofInt 0)), (3, .int (sp_fa (tt T sz) s.1)), (0, .ref 4), (1, .ref 14), (2, .int dep)] [] h) ∧ (¬ (dep < (Int32.ofInt 5)) → pz_S 7 (some .boolean) am_r75 d Q 74 [(5, .int (pz_b (false))), (4, .int (Int32.ofInt 0)), (3, .int (sp_fa (tt T sz) s.1)), (0, .ref 4), (1, .ref 14), (2, .int dep)] [] h) from ⟨fun _ => ?_, fun hz => absurd hdp hz⟩)
          refine am_goX 2 (show (¬ (Int32.ofInt 0) = 0 → pz_S 7 (some .boolean) am_r75 d Q 92 [(5, .int (pz_b (false))), (4, .int (Int32.ofInt 0)), (3, .int (sp_fa (tt T sz) s.1)), (0, .ref 4), (1, .ref 14), (2, .int dep)] [] h) ∧ (¬ ¬ (Int32.ofInt 0) = 0 → pz_S 7 (some .boolean) am_r75 d Q 88 [(5, .int (pz_b (false))), (4, .int (Int32.ofInt 0)), (3, .int (sp_fa (tt T sz) s.1)), (0, .ref 4), (1, .ref 14), (2, .int dep)] [] h) from ⟨fun hz => absurd hz (by decide), fun _ => ?_⟩)
          refine am_goX 2 (show ((sp_fa (tt T sz) s.1) = 0 → pz_S 7 (some .boolean) am_r75 d Q 121 [(5, .int (pz_b (false))), (4, .int (Int32.ofInt 0)), (3, .int (sp_fa (tt T sz) s.1)), (0, .ref 4), (1, .ref 14), (2, .int dep)] [] h) ∧ (¬ ((sp_fa (tt T sz) s.1) = 0) → pz_S 7 (some .boolean) am_r75 d Q 92 [(5, .int (pz_b (false))), (4, .int (Int32.ofInt 0)), (3, .int (sp_fa (tt T sz) s.1)), (0, .ref 4), (1, .ref 14), (2, .int dep)] [] h) from ⟨fun _ => ?_, fun hz => absurd e3a hz⟩)
          refine am_goX 2 (show am_sh h 4 = some (4, 0) ∧ pz_S 7 (some .boolean) am_r75 d Q 125 [(5, .int (pz_b (false))), (4, .int (Int32.ofInt 0)), (3, .int (sp_fa (tt T sz) s.1)), (0, .ref 4), (1, .ref 14), (2, .int dep)] [am_rf (h.2.2.1 4 0)] h from ⟨ex_4 (c_P l.1), ?_⟩)
          rw [ex_r4_0 (c_P l.1)]
          refine am_goX 1 (show am_rc h 1 7 ∧ 0 ≤ 8 ∧ h.2.2.2.2 + am_al 18 ≤ 175 ∧ am_call am_cod d 18 [.ref 1] h (fun vv h' => pz_S 7 (some .boolean) am_r75 d Q 128 [(5, .int (pz_b (false))), (4, .int (Int32.ofInt 0)), (3, .int (sp_fa (tt T sz) s.1)), (0, .ref 4), (1, .ref 14), (2, .int dep)] (vv.toList ++ []) h') from ⟨Or.inl ⟨by decide, ex_1 (c_P l.1)⟩, by decide, ex_lim (c_P l.1) rfl, am_call.up (c_step l.1 (sp_sn e255) (fun h256 m257 f258 => ?_)) (by omega)⟩)
          have l259 : cr h0 6 T sz ((s.1 + 1), s.2) h256 := cr_fr (a := s.1) (C := s.2) (by decide) l m257 (Nat.le_succ _) f258
          refine am_goX 2 (show ((pz_b (false)) = 0 → pz_S 7 (some .boolean) am_r75 d Q 152 [(5, .int (pz_b (false))), (4, .int (Int32.ofInt 0)), (3, .int (sp_fa (tt T sz) s.1)), (0, .ref 4), (1, .ref 14), (2, .int dep)] [] h256) ∧ (¬ ((pz_b (false)) = 0) → pz_S 7 (some .boolean) am_r75 d Q 133 [(5, .int (pz_b (false))), (4, .int (Int32.ofInt 0)), (3, .int (sp_fa (tt T sz) s.1)), (0, .ref 4), (1, .ref 14), (2, .int dep)] [] h256) from ⟨fun _ => ?_, fun hz => absurd (by decide) hz⟩)
          refine am_goX 6 (show am_rc h256 4 4 ∧ 0 ≤ 8 ∧ h256.2.2.2.2 + am_al 71 ≤ 175 ∧ am_call am_cod d 71 [.ref 4, .ref 14, .int (dep + (Int32.ofInt 1))] h256 (fun vv h' => pz_S 7 (some .boolean) am_r75 d Q 160 [(5, .int (pz_b (false))), (4, .int (Int32.ofInt 0)), (3, .int (sp_fa (tt T sz) s.1)), (0, .ref 4), (1, .ref 14), (2, .int dep)] (vv.toList ++ []) h') from ⟨Or.inl ⟨by decide, ex_4 (c_P l259.1)⟩, by decide, ex_lim (c_P l259.1) rfl, k71 _ _ _ l259 (fun v260 h261 x262 => ?_)⟩)
          rcases cres_cs x262 with ⟨F264, e266, rfl, y267⟩ | ⟨t265, e266, rfl, y267⟩
          ·
            refine am_goX 1 (show (0 = 0 → pz_S 7 (some .boolean) am_r75 d Q 179 [(5, .int (pz_b (false))), (4, .int (Int32.ofInt 0)), (3, .int (sp_fa (tt T sz) s.1)), (0, .ref 4), (1, .ref 14), (2, .int dep)] [] h261) ∧ (¬ (0 = 0) → pz_S 7 (some .boolean) am_r75 d Q 163 [(5, .int (pz_b (false))), (4, .int (Int32.ofInt 0)), (3, .int (sp_fa (tt T sz) s.1)), (0, .ref 4), (1, .ref 14), (2, .int dep)] [] h261) from ⟨fun _ => ?_, fun hz => absurd (by decide) hz⟩)
            exact am_goX 2 (show (∃ ty, (some .boolean) = some ty ∧ narrow ty (.int ((Int32.ofInt 0))) = .int ((Int32.ofInt 0))) ∧ h261.2.2.2.2 = 175 ∧ _ from ⟨⟨.boolean, rfl, rfl⟩, ex_175 y267.1, hQ _ _ (cres_inl (F := F264) (by simp only [sp_pt, sp_b, sp_f, cond_true, cond_false, e2, e3, e238, e255, e266, Bool.and_true, Bool.and_false, Bool.true_and, Bool.false_and, Bool.not_true, Bool.not_false]) rfl y267)⟩)
          ·
            refine am_goX 1 (show (1 = 0 → pz_S 7 (some .boolean) am_r75 d Q 179 [(5, .int (pz_b (false))), (4, .int (Int32.ofInt 0)), (3, .int (sp_fa (tt T sz) s.1)), (0, .ref 4), (1, .ref 14), (2, .int dep)] [] h261) ∧ (¬ (1 = 0) → pz_S 7 (some .boolean) am_r75 d Q 163 [(5, .int (pz_b (false))), (4, .int (Int32.ofInt 0)), (3, .int (sp_fa (tt T sz) s.1)), (0, .ref 4), (1, .ref 14), (2, .int dep)] [] h261) from ⟨fun hz => absurd hz (by decide), fun _ => ?_⟩)
            refine am_goX 2 (show am_sh h261 4 = some (4, 0) ∧ pz_S 7 (some .boolean) am_r75 d Q 167 [(5, .int (pz_b (false))), (4, .int (Int32.ofInt 0)), (3, .int (sp_fa (tt T sz) s.1)), (0, .ref 4), (1, .ref 14), (2, .int dep)] [am_rf (h261.2.2.1 4 0)] h261 from ⟨ex_4 (c_P y267.1), ?_⟩)
            rw [ex_r4_0 (c_P y267.1)]
            refine am_goX 2 (show am_rc h261 1 7 ∧ 0 ≤ 8 ∧ h261.2.2.2.2 + am_al 61 ≤ 175 ∧ am_call am_cod d 61 [.ref 1, .int (Int8.ofInt 41).toInt32] h261 (fun vv h' => pz_S 7 (some .boolean) am_r75 d Q 172 [(5, .int (pz_b (false))), (4, .int (Int32.ofInt 0)), (3, .int (sp_fa (tt T sz) s.1)), (0, .ref 4), (1, .ref 14), (2, .int dep)] (vv.toList ++ []) h') from ⟨Or.inl ⟨by decide, ex_1 (c_P y267.1)⟩, by decide, ex_lim (c_P y267.1) rfl, am_call.up (c_tS (s := t265) (by decide) y267 (fun v268 h269 x270 f271 => ?_)) (by omega)⟩)
            rcases cres_cs x270 with ⟨F272, e274, rfl, y275⟩ | ⟨t273, e274, rfl, y275⟩
            ·
              refine am_goX 1 (show (0 = 0 → pz_S 7 (some .boolean) am_r75 d Q 179 [(5, .int (pz_b (false))), (4, .int (Int32.ofInt 0)), (3, .int (sp_fa (tt T sz) s.1)), (0, .ref 4), (1, .ref 14), (2, .int dep)] [] h269) ∧ (¬ (0 = 0) → pz_S 7 (some .boolean) am_r75 d Q 175 [(5, .int (pz_b (false))), (4, .int (Int32.ofInt 0)), (3, .int (sp_fa (tt T sz) s.1)), (0, .ref 4), (1, .ref 14), (2, .int dep)] [] h269) from ⟨fun _ => ?_, fun hz => absurd (by decide) hz⟩)
              exact am_goX 2 (show (∃ ty, (some .boolean) = some ty ∧ narrow ty (.int ((Int32.ofInt 0))) = .int ((Int32.ofInt 0))) ∧ h269.2.2.2.2 = 175 ∧ _ from ⟨⟨.boolean, rfl, rfl⟩, ex_175 y275.1, hQ _ _ (cres_inl (F := F272) (by simp only [sp_pt, sp_b, sp_f, cond_true, cond_false, e2, e3, e238, e255, e266, e274, Bool.and_true, Bool.and_false, Bool.true_and, Bool.false_and, Bool.not_true, Bool.not_false]) rfl y275)⟩)
            ·
              refine am_goX 1 (show (1 = 0 → pz_S 7 (some .boolean) am_r75 d Q 179 [(5, .int (pz_b (false))), (4, .int (Int32.ofInt 0)), (3, .int (sp_fa (tt T sz) s.1)), (0, .ref 4), (1, .ref 14), (2, .int dep)] [] h269) ∧ (¬ (1 = 0) → pz_S 7 (some .boolean) am_r75 d Q 175 [(5, .int (pz_b (false))), (4, .int (Int32.ofInt 0)), (3, .int (sp_fa (tt T sz) s.1)), (0, .ref 4), (1, .ref 14), (2, .int dep)] [] h269) from ⟨fun hz => absurd hz (by decide), fun _ => ?_⟩)
              exact am_goX 3 (show (∃ ty, (some .boolean) = some ty ∧ narrow ty (.int ((Int32.ofInt 1))) = .int ((Int32.ofInt 1))) ∧ h269.2.2.2.2 = 175 ∧ _ from ⟨⟨.boolean, rfl, rfl⟩, ex_175 (c_P y275.1), hQ _ _ (cres_inr (s' := t273) (by simp only [sp_pt, sp_b, sp_f, cond_true, cond_false, e2, e3, e238, e255, e266, e274, Bool.and_true, Bool.and_false, Bool.true_and, Bool.false_and, Bool.not_true, Bool.not_false]) rfl y275)⟩)
        | false =>
          refine am_goX 1 (show (¬ (pz_b (false)) = 0 → pz_S 7 (some .boolean) am_r75 d Q 69 [(5, .int (pz_b (false))), (4, .int (Int32.ofInt 0)), (3, .int (sp_fa (tt T sz) s.1)), (0, .ref 4), (1, .ref 14), (2, .int dep)] [] h) ∧ (¬ ¬ (pz_b (false)) = 0 → pz_S 7 (some .boolean) am_r75 d Q 60 [(5, .int (pz_b (false))), (4, .int (Int32.ofInt 0)), (3, .int (sp_fa (tt T sz) s.1)), (0, .ref 4), (1, .ref 14), (2, .int dep)] [] h) from ⟨fun hz => absurd hz (by decide), fun _ => ?_⟩)
          refine am_goX 2 (show am_sh h 4 = some (4, 0) ∧ pz_S 7 (some .boolean) am_r75 d Q 64 [(5, .int (pz_b (false))), (4, .int (Int32.ofInt 0)), (3, .int (sp_fa (tt T sz) s.1)), (0, .ref 4), (1, .ref 14), (2, .int dep)] [am_rf (h.2.2.1 4 0)] h from ⟨ex_4 (c_P l.1), ?_⟩)
          rw [ex_r4_0 (c_P l.1)]
          refine am_goX 2 (show am_rc h 1 7 ∧ 0 ≤ 8 ∧ h.2.2.2.2 + am_al 52 ≤ 175 ∧ am_call am_cod d 52 [.ref 1, .int (Int32.ofInt 1)] h (fun vv h' => pz_S 7 (some .boolean) am_r75 d Q 68 [(5, .int (pz_b (false))), (4, .int (Int32.ofInt 0)), (3, .int (sp_fa (tt T sz) s.1)), (0, .ref 4), (1, .ref 14), (2, .int dep)] (vv.toList ++ []) h') from ⟨Or.inl ⟨by decide, ex_1 (c_P l.1)⟩, by decide, ex_lim (c_P l.1) rfl, am_call.up (c_refuse l.1 ?_) (by omega)⟩)
          have x276 := cr_x (s := s) (k := (Int32.ofInt 1)) (by decide) l (by decide)
          exact am_goX 1 (show (∃ ty, (some .boolean) = some ty ∧ narrow ty (.int ((Int32.ofInt 0))) = .int ((Int32.ofInt 0))) ∧ (am_wI h 1 7 (sp_ft (tt T sz) s.1 (Int32.ofInt 1))).2.2.2.2 = 175 ∧ _ from ⟨⟨.boolean, rfl, rfl⟩, ex_175 x276.1, hQ _ _ (cres_inl (F := sp_ft (tt T sz) s.1 (Int32.ofInt 1)) (by simp only [sp_pt, sp_b, sp_f, cond_true, cond_false, e2, e3, e238, e255, Bool.and_true, Bool.and_false, Bool.true_and, Bool.false_and, Bool.not_true, Bool.not_false]) rfl x276)⟩)
  ·
    have e2 : sp_k (tt T sz) s.1 2 = true := by rw [← hk]; exact decide_eq_true (Decidable.not_not.mp hc)
    clear hc
    refine am_goX 5 (show 4 < 7 ∧ am_sh h 4 = some (4, 0) ∧ pz_S 7 (some .boolean) am_r75 d Q 27 [(4, .int (Int32.ofInt 1)), (3, .int (sp_fa (tt T sz) s.1)), (0, .ref 4), (1, .ref 14), (2, .int dep)] [am_rf (h.2.2.1 4 0)] h from ⟨by decide, ex_4 (c_P l.1), ?_⟩)
    rw [ex_r4_0 (c_P l.1)]
    refine am_goX 2 (show am_rc h 1 7 ∧ 0 ≤ 8 ∧ h.2.2.2.2 + am_al 44 ≤ 175 ∧ am_call am_cod d 44 [.ref 1, .ref (4000000 + 18)] h (fun vv h' => pz_S 7 (some .boolean) am_r75 d Q 32 [(4, .int (Int32.ofInt 1)), (3, .int (sp_fa (tt T sz) s.1)), (0, .ref 4), (1, .ref 14), (2, .int dep)] (vv.toList ++ []) h') from ⟨Or.inl ⟨by decide, ex_1 (c_P l.1)⟩, by decide, ex_lim (c_P l.1) rfl, am_call.up (c_isw (by decide) wq_18 l.1 ?_) (by omega)⟩)
    refine am_goX 3 (show 5 < 7 ∧ (¬ (sp_fa (tt T sz) s.1) = 0 → pz_S 7 (some .boolean) am_r75 d Q 69 [(5, .int (pz_b (sp_w (tt T sz) s.1 19741))), (4, .int (Int32.ofInt 1)), (3, .int (sp_fa (tt T sz) s.1)), (0, .ref 4), (1, .ref 14), (2, .int dep)] [] h) ∧ (¬ ¬ (sp_fa (tt T sz) s.1) = 0 → pz_S 7 (some .boolean) am_r75 d Q 38 [(5, .int (pz_b (sp_w (tt T sz) s.1 19741))), (4, .int (Int32.ofInt 1)), (3, .int (sp_fa (tt T sz) s.1)), (0, .ref 4), (1, .ref 14), (2, .int dep)] [] h) from ⟨by decide, fun hc => ?_, fun hc => ?_⟩)
    ·
      have e3n : ¬ sp_fa (tt T sz) s.1 = 0 := hc
      have e3 : decide (sp_fa (tt T sz) s.1 = 0) = false := decide_eq_false e3n
      clear hc
      refine am_goX 3 (show (dep < (Int32.ofInt 5) → pz_S 7 (some .boolean) am_r75 d Q 83 [(5, .int (pz_b (sp_w (tt T sz) s.1 19741))), (4, .int (Int32.ofInt 1)), (3, .int (sp_fa (tt T sz) s.1)), (0, .ref 4), (1, .ref 14), (2, .int dep)] [] h) ∧ (¬ (dep < (Int32.ofInt 5)) → pz_S 7 (some .boolean) am_r75 d Q 74 [(5, .int (pz_b (sp_w (tt T sz) s.1 19741))), (4, .int (Int32.ofInt 1)), (3, .int (sp_fa (tt T sz) s.1)), (0, .ref 4), (1, .ref 14), (2, .int dep)] [] h) from ⟨fun _ => ?_, fun hz => absurd hdp hz⟩)
      refine am_goX 2 (show (¬ (Int32.ofInt 1) = 0 → pz_S 7 (some .boolean) am_r75 d Q 92 [(5, .int (pz_b (sp_w (tt T sz) s.1 19741))), (4, .int (Int32.ofInt 1)), (3, .int (sp_fa (tt T sz) s.1)), (0, .ref 4), (1, .ref 14), (2, .int dep)] [] h) ∧ (¬ ¬ (Int32.ofInt 1) = 0 → pz_S 7 (some .boolean) am_r75 d Q 88 [(5, .int (pz_b (sp_w (tt T sz) s.1 19741))), (4, .int (Int32.ofInt 1)), (3, .int (sp_fa (tt T sz) s.1)), (0, .ref 4), (1, .ref 14), (2, .int dep)] [] h) from ⟨fun _ => ?_, fun hz => absurd (by decide) hz⟩)
      refine am_goX 3 (show ((Int32.ofInt 1) = 0 → pz_S 7 (some .boolean) am_r75 d Q 108 [(5, .int (pz_b (sp_w (tt T sz) s.1 19741))), (4, .int (Int32.ofInt 1)), (3, .int (sp_fa (tt T sz) s.1)), (0, .ref 4), (1, .ref 14), (2, .int dep)] [.ref 14] h) ∧ (¬ ((Int32.ofInt 1) = 0) → pz_S 7 (some .boolean) am_r75 d Q 98 [(5, .int (pz_b (sp_w (tt T sz) s.1 19741))), (4, .int (Int32.ofInt 1)), (3, .int (sp_fa (tt T sz) s.1)), (0, .ref 4), (1, .ref 14), (2, .int dep)] [.ref 14] h) from ⟨fun hz => absurd hz (by decide), fun _ => ?_⟩)
      refine am_goX 2 (show am_sh h 4 = some (4, 0) ∧ pz_S 7 (some .boolean) am_r75 d Q 102 [(5, .int (pz_b (sp_w (tt T sz) s.1 19741))), (4, .int (Int32.ofInt 1)), (3, .int (sp_fa (tt T sz) s.1)), (0, .ref 4), (1, .ref 14), (2, .int dep)] [am_rf (h.2.2.1 4 0), .ref 14] h from ⟨ex_4 (c_P l.1), ?_⟩)
      rw [ex_r4_0 (c_P l.1)]
      refine am_goX 2 (show am_sh h 1 = some (7, 0) ∧ pz_S 7 (some .boolean) am_r75 d Q 109 [(5, .int (pz_b (sp_w (tt T sz) s.1 19741))), (4, .int (Int32.ofInt 1)), (3, .int (sp_fa (tt T sz) s.1)), (0, .ref 4), (1, .ref 14), (2, .int dep)] [.int (h.1 1 6), .ref 14] h from ⟨ex_1 (c_P l.1), ?_⟩)
      rw [c_nv l.1 e2]
      refine am_goX 1 (show am_rc h 14 3 ∧ 0 ≤ 8 ∧ h.2.2.2.2 + am_al 77 ≤ 175 ∧ am_call am_cod d 77 [.ref 14, .int (sp_v (tt T sz) s.1)] h (fun vv h' => pz_S 7 (some .boolean) am_r75 d Q 112 [(5, .int (pz_b (sp_w (tt T sz) s.1 19741))), (4, .int (Int32.ofInt 1)), (3, .int (sp_fa (tt T sz) s.1)), (0, .ref 4), (1, .ref 14), (2, .int dep)] (vv.toList ++ []) h') from ⟨Or.inl ⟨by decide, ex_14 (c_P l.1)⟩, by decide, ex_lim (c_P l.1) rfl, am_call.up (c_addn_6 l (cr_lt l (c_fan e3n)) (fun h277 m278 => ?_)) (by omega)⟩)
      refine am_goX 2 (show am_sh h277 4 = some (4, 0) ∧ pz_S 7 (some .boolean) am_r75 d Q 116 [(5, .int (pz_b (sp_w (tt T sz) s.1 19741))), (4, .int (Int32.ofInt 1)), (3, .int (sp_fa (tt T sz) s.1)), (0, .ref 4), (1, .ref 14), (2, .int dep)] [am_rf (h277.2.2.1 4 0)] h277 from ⟨ex_4 (c_P m278.1), ?_⟩)
      rw [ex_r4_0 (c_P m278.1)]
      refine am_goX 1 (show am_rc h277 1 7 ∧ 0 ≤ 8 ∧ h277.2.2.2.2 + am_al 18 ≤ 175 ∧ am_call am_cod d 18 [.ref 1] h277 (fun vv h' => pz_S 7 (some .boolean) am_r75 d Q 119 [(5, .int (pz_b (sp_w (tt T sz) s.1 19741))), (4, .int (Int32.ofInt 1)), (3, .int (sp_fa (tt T sz) s.1)), (0, .ref 4), (1, .ref 14), (2, .int dep)] (vv.toList ++ []) h') from ⟨Or.inl ⟨by decide, ex_1 (c_P m278.1)⟩, by decide, ex_lim (c_P m278.1) rfl, am_call.up (c_step m278.1 (c_fan e3n) (fun h279 m280 f281 => ?_)) (by omega)⟩)
      have l282 := cr_em2 (by decide) m278 m280 f281
      exact am_goX 2 (show (∃ ty, (some .boolean) = some ty ∧ narrow ty (.int ((Int32.ofInt 1))) = .int ((Int32.ofInt 1))) ∧ h279.2.2.2.2 = 175 ∧ _ from ⟨⟨.boolean, rfl, rfl⟩, ex_175 (c_P l282.1), hQ _ _ (cres_inr (s' := (s.1 + 1, sp_em s.2 (sp_v (tt T sz) s.1))) (by simp only [sp_pt, sp_b, sp_f, cond_true, cond_false, e2, e3, Bool.and_true, Bool.and_false, Bool.true_and, Bool.false_and, Bool.not_true, Bool.not_false]) rfl l282)⟩)
    ·
      have e3a : sp_fa (tt T sz) s.1 = 0 := Decidable.not_not.mp hc
      have e3 : decide (sp_fa (tt T sz) s.1 = 0) = true := decide_eq_true e3a
      clear hc
      refine am_goX 2 (show (¬ (Int32.ofInt 1) = 0 → pz_S 7 (some .boolean) am_r75 d Q 69 [(5, .int (pz_b (sp_w (tt T sz) s.1 19741))), (4, .int (Int32.ofInt 1)), (3, .int (sp_fa (tt T sz) s.1)), (0, .ref 4), (1, .ref 14), (2, .int dep)] [] h) ∧ (¬ ¬ (Int32.ofInt 1) = 0 → pz_S 7 (some .boolean) am_r75 d Q 43 [(5, .int (pz_b (sp_w (tt T sz) s.1 19741))), (4, .int (Int32.ofInt 1)), (3, .int (sp_fa (tt T sz) s.1)), (0, .ref 4), (1, .ref 14), (2, .int dep)] [] h) from ⟨fun _ => ?_, fun hz => absurd (by decide) hz⟩)
      refine am_goX 3 (show (dep < (Int32.ofInt 5) → pz_S 7 (some .boolean) am_r75 d Q 83 [(5, .int (pz_b (sp_w (tt T sz) s.1 19741))), (4, .int (Int32.ofInt 1)), (3, .int (sp_fa (tt T sz) s.1)), (0, .ref 4), (1, .ref 14), (2, .int dep)] [] h) ∧ (¬ (dep < (Int32.ofInt 5)) → pz_S 7 (some .boolean) am_r75 d Q 74 [(5, .int (pz_b (sp_w (tt T sz) s.1 19741))), (4, .int (Int32.ofInt 1)), (3, .int (sp_fa (tt T sz) s.1)), (0, .ref 4), (1, .ref 14), (2, .int dep)] [] h) from ⟨fun _ => ?_, fun hz => absurd hdp hz⟩)
      refine am_goX 2 (show (¬ (Int32.ofInt 1) = 0 → pz_S 7 (some .boolean) am_r75 d Q 92 [(5, .int (pz_b (sp_w (tt T sz) s.1 19741))), (4, .int (Int32.ofInt 1)), (3, .int (sp_fa (tt T sz) s.1)), (0, .ref 4), (1, .ref 14), (2, .int dep)] [] h) ∧ (¬ ¬ (Int32.ofInt 1) = 0 → pz_S 7 (some .boolean) am_r75 d Q 88 [(5, .int (pz_b (sp_w (tt T sz) s.1 19741))), (4, .int (Int32.ofInt 1)), (3, .int (sp_fa (tt T sz) s.1)), (0, .ref 4), (1, .ref 14), (2, .int dep)] [] h) from ⟨fun _ => ?_, fun hz => absurd (by decide) hz⟩)
      refine am_goX 3 (show ((Int32.ofInt 1) = 0 → pz_S 7 (some .boolean) am_r75 d Q 108 [(5, .int (pz_b (sp_w (tt T sz) s.1 19741))), (4, .int (Int32.ofInt 1)), (3, .int (sp_fa (tt T sz) s.1)), (0, .ref 4), (1, .ref 14), (2, .int dep)] [.ref 14] h) ∧ (¬ ((Int32.ofInt 1) = 0) → pz_S 7 (some .boolean) am_r75 d Q 98 [(5, .int (pz_b (sp_w (tt T sz) s.1 19741))), (4, .int (Int32.ofInt 1)), (3, .int (sp_fa (tt T sz) s.1)), (0, .ref 4), (1, .ref 14), (2, .int dep)] [.ref 14] h) from ⟨fun hz => absurd hz (by decide), fun _ => ?_⟩)
      refine am_goX 2 (show am_sh h 4 = some (4, 0) ∧ pz_S 7 (some .boolean) am_r75 d Q 102 [(5, .int (pz_b (sp_w (tt T sz) s.1 19741))), (4, .int (Int32.ofInt 1)), (3, .int (sp_fa (tt T sz) s.1)), (0, .ref 4), (1, .ref 14), (2, .int dep)] [am_rf (h.2.2.1 4 0), .ref 14] h from ⟨ex_4 (c_P l.1), ?_⟩)
      rw [ex_r4_0 (c_P l.1)]
      refine am_goX 2 (show am_sh h 1 = some (7, 0) ∧ pz_S 7 (some .boolean) am_r75 d Q 109 [(5, .int (pz_b (sp_w (tt T sz) s.1 19741))), (4, .int (Int32.ofInt 1)), (3, .int (sp_fa (tt T sz) s.1)), (0, .ref 4), (1, .ref 14), (2, .int dep)] [.int (h.1 1 6), .ref 14] h from ⟨ex_1 (c_P l.1), ?_⟩)
      rw [c_nv l.1 e2]
      refine am_goX 1 (show am_rc h 14 3 ∧ 0 ≤ 8 ∧ h.2.2.2.2 + am_al 77 ≤ 175 ∧ am_call am_cod d 77 [.ref 14, .int (sp_v (tt T sz) s.1)] h (fun vv h' => pz_S 7 (some .boolean) am_r75 d Q 112 [(5, .int (pz_b (sp_w (tt T sz) s.1 19741))), (4, .int (Int32.ofInt 1)), (3, .int (sp_fa (tt T sz) s.1)), (0, .ref 4), (1, .ref 14), (2, .int dep)] (vv.toList ++ []) h') from ⟨Or.inl ⟨by decide, ex_14 (c_P l.1)⟩, by decide, ex_lim (c_P l.1) rfl, am_call.up (c_addn_6 l (cr_lt l (sp_kn (by decide) e2)) (fun h283 m284 => ?_)) (by omega)⟩)
      refine am_goX 2 (show am_sh h283 4 = some (4, 0) ∧ pz_S 7 (some .boolean) am_r75 d Q 116 [(5, .int (pz_b (sp_w (tt T sz) s.1 19741))), (4, .int (Int32.ofInt 1)), (3, .int (sp_fa (tt T sz) s.1)), (0, .ref 4), (1, .ref 14), (2, .int dep)] [am_rf (h283.2.2.1 4 0)] h283 from ⟨ex_4 (c_P m284.1), ?_⟩)
      rw [ex_r4_0 (c_P m284.1)]
      refine am_goX 1 (show am_rc h283 1 7 ∧ 0 ≤ 8 ∧ h283.2.2.2.2 + am_al 18 ≤ 175 ∧ am_call am_cod d 18 [.ref 1] h283 (fun vv h' => pz_S 7 (some .boolean) am_r75 d Q 119 [(5, .int (pz_b (sp_w (tt T sz) s.1 19741))), (4, .int (Int32.ofInt 1)), (3, .int (sp_fa (tt T sz) s.1)), (0, .ref 4), (1, .ref 14), (2, .int dep)] (vv.toList ++ []) h') from ⟨Or.inl ⟨by decide, ex_1 (c_P m284.1)⟩, by decide, ex_lim (c_P m284.1) rfl, am_call.up (c_step m284.1 (sp_kn (by decide) e2) (fun h285 m286 f287 => ?_)) (by omega)⟩)
      have l288 := cr_em2 (by decide) m284 m286 f287
      exact am_goX 2 (show (∃ ty, (some .boolean) = some ty ∧ narrow ty (.int ((Int32.ofInt 1))) = .int ((Int32.ofInt 1))) ∧ h285.2.2.2.2 = 175 ∧ _ from ⟨⟨.boolean, rfl, rfl⟩, ex_175 (c_P l288.1), hQ _ _ (cres_inr (s' := (s.1 + 1, sp_em s.2 (sp_v (tt T sz) s.1))) (by simp only [sp_pt, sp_b, sp_f, cond_true, cond_false, e2, e3, Bool.and_true, Bool.and_false, Bool.true_and, Bool.false_and, Bool.not_true, Bool.not_false]) rfl l288)⟩)
theorem c_law_6 (hsz : 0 < sz ∨ True) : ∀ (r : Nat) (dep : Int32), r ≤ 5 → dep = Int32.ofInt (5 - r) → lw_c h0 6 T sz (7 + 5 * r) 75 dep (sp_pt (tt T sz) r) ∧ lw_c h0 6 T sz (11 + 5 * r) 71 dep (sp_wh (tt T sz) (sp_pt (tt T sz) r)) := by
  have up : ∀ (r : Nat) (dep : Int32) (d : Nat), 6 ≤ d → lw_c h0 6 T sz d 75 dep (sp_pt (tt T sz) r) → lw_c h0 6 T sz (d + 1 + 1 + 1 + 1) 71 dep (sp_wh (tt T sz) (sp_pt (tt T sz) r)) := fun r dep d hd k =>
    c_71_6 (by omega) (c_72_6 (by omega) (c_73_6 (by omega) (c_74_6 hd k (sp_pt_ok r)) (sp_p_ok (sp_pt_ok r))) (sp_su_ok (sp_pt_ok r))) (sp_te_ok (sp_pt_ok r))
  intro r
  induction r with
  | zero =>
    intro dep _ e
    have k : lw_c h0 6 T sz 7 75 dep (sp_pt (tt T sz) 0) := c_75z_6 (r := 0) (d := 6) (by omega) e
    exact ⟨k, up 0 dep 7 (by omega) k⟩
  | succ r ih =>
    intro dep hr e
    obtain ⟨i1, i2⟩ := ih (dep + Int32.ofInt 1) (by omega) (by
      rw [e, ← Int32.ofInt_add]
      congr 1
      omega)
    have hlt : dep < Int32.ofInt 5 := by
      rw [e]
      have h5 : r = 0 ∨ r = 1 ∨ r = 2 ∨ r = 3 ∨ r = 4 := by omega
      rcases h5 with rfl | rfl | rfl | rfl | rfl <;> decide
    have k : lw_c h0 6 T sz (7 + 5 * (r + 1)) 75 dep (sp_pt (tt T sz) (r + 1)) := lw_up (c_75s_6 (d := 11 + 5 * r) (by omega) hlt (lw_up i1 (by omega)) i2) (by omega)
    exact ⟨k, lw_up (up (r + 1) dep (7 + 5 * (r + 1)) (by omega) k) (by omega)⟩
end
