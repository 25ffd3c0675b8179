/-! FEED, both sides, on any tape -/
def am_go (cp : am_P) (nL lim : Nat) (rt : Option FieldType) (rows : List (Nat × am_R)) (S : Nat → am_V → List Value → am_H → Prop) (Q : am_Q) : Nat → Nat → am_V → List Value → am_H → Prop
  | 0, pc, lv, st, h => S pc lv st h
  | n + 1, pc, lv, st, h => match am_find rows pc with
    | some r => am_stp cp nL lim rt pc r lv st h (am_go cp nL lim rt rows S Q n) Q
    | none => False
theorem am_goX {cp : am_P} {nL lim : Nat} {rt : Option FieldType} {rows : List (Nat × am_R)} {E : Nat → am_V → List Value → am_H → Prop} {Q : am_Q} (n : Nat) {pc : Nat} {lv : am_V} {st : List Value} {h : am_H} (k : am_go cp nL lim rt rows (am_X cp nL lim rt (am_find rows) E Q) Q n pc lv st h) : am_X cp nL lim rt (am_find rows) E Q pc lv st h := by
  induction n generalizing pc lv st h with
  | zero => exact k
  | succ n ih =>
    unfold am_go at k
    split at k
    · rename_i r hr
      exact fun P hE hP => hP pc lv st h r _ Q hr k (fun _ _ _ _ z => ih z P hE hP) (fun _ _ q => q)
    · exact k.elim
/-- the sign at a shift, as the class takes it out of eight -/
def fd_c (x : Int64) (s : Int32) : Int32 := ((x.toUInt64 >>> (s.toInt64.toUInt64 &&& Int64.toUInt64 63)).toInt64 &&& 255).toInt32
def fd_f (c : Int32) : Bool := decide (c = 10) || (!decide (c < 32) && !decide (126 < c))
/-- a tape: how many signs, which -/
abbrev fd_T : Type := Nat × (Nat → Int32)
def fd_1 (c : Int32) (s : fd_T) : fd_T := bif fd_f c && Nat.blt s.1 1000 then (s.1 + 1, upd s.2 s.1 c) else s
theorem fd_1_y {c : Int32} {s : fd_T} (h1 : fd_f c = true) (h2 : s.1 < 1000) : fd_1 c s = (s.1 + 1, upd s.2 s.1 c) := by
  unfold fd_1
  rw [h1, ae_bltd, decide_eq_true h2]
  rfl
theorem fd_1_n {c : Int32} {s : fd_T} (h : fd_f c = false ∨ ¬ s.1 < 1000) : fd_1 c s = s := by
  unfold fd_1
  rcases h with h | h
  · rw [h]
    rfl
  · rw [ae_bltd, decide_eq_false h, Bool.and_false]
    rfl
def fd_s : Nat → Int32
  | 0 => -8
  | k + 1 => nI (8 * k)
/-- the last k of eight -/
def fd_8 (x : Int64) : Nat → fd_T → fd_T
  | 0, s => s
  | k + 1, s => fd_8 x k (fd_1 (fd_c x (fd_s (k + 1))) s)
theorem fd_1_le {c : Int32} {s : fd_T} (h : s.1 ≤ 1000) : (fd_1 c s).1 ≤ 1000 := by
  by_cases h1 : fd_f c = true
  · by_cases h2 : s.1 < 1000
    · rw [fd_1_y h1 h2]
      exact h2
    · rw [fd_1_n (Or.inr h2)]
      exact h
  · rw [fd_1_n (Or.inl (by simpa using h1))]
    exact h
theorem fd_8_le {x : Int64} : ∀ {k : Nat} {s : fd_T}, s.1 ≤ 1000 → (fd_8 x k s).1 ≤ 1000
  | 0, _, h => h
  | k + 1, s, h => fd_8_le (x := x) (k := k) (s := fd_1 (fd_c x (fd_s (k + 1))) s) (fd_1_le h)
theorem fd_s_dec : ∀ k, k < 8 → fd_s (k + 1) + Int32.ofInt (-8) = fd_s k := by decide
theorem fd_s_neg : ∀ k, k < 8 → ¬ fd_s (k + 1) < 0 := by decide
/-- a heap whose tape (object o: number at place a; its signs in object b) is so -/
def fd_h (o a b : Nat) (h : am_H) (s : fd_T) : am_H := (fun p q => if p = o ∧ q = a then nI s.1 else if p = b then s.2 q else h.1 p q, h.2)
theorem fd_h_n {o a b : Nat} {h : am_H} {s : fd_T} : (fd_h o a b h s).1 o a = nI s.1 := by simp [fd_h]
theorem fd_h_put {o a b : Nat} (hob : b ≠ o) {h : am_H} {s : fd_T} {c : Int32} : am_wI (am_wI (fd_h o a b h s) b s.1 c) o a (nI s.1 + 1) = fd_h o a b h (s.1 + 1, upd s.2 s.1 c) := by
  unfold fd_h am_wI
  refine Prod.ext ?_ rfl
  funext p q
  dsimp only
  by_cases h1 : p = o ∧ q = a
  · rw [if_pos h1, if_pos h1, nI_1]
  · simp only [if_neg h1]
    by_cases h2 : p = b
    · subst h2
      by_cases h3 : q = s.1 <;> simp [h3, upd]
    · simp [h2]
theorem fd_c_lt (x : Int64) (s : Int32) : ∃ n, n < 256 ∧ fd_c x s = nI n := by
  unfold fd_c
  generalize (x.toUInt64 >>> (s.toInt64.toUInt64 &&& Int64.toUInt64 63)).toInt64 = y
  refine ⟨y.toBitVec.toNat % 256, Nat.mod_lt _ (by decide), ?_⟩
  have e1 : y &&& 255 = lN (y.toBitVec.toNat % 256) := by
    apply Int64.toBitVec_inj.mp
    apply BitVec.eq_of_toNat_eq
    rw [Int64.toBitVec_and, BitVec.toNat_and]
    show y.toBitVec.toNat &&& 255 = (BitVec.ofNat 64 (y.toBitVec.toNat % 256)).toNat
    rw [BitVec.toNat_ofNat, show (255 : Nat) = 2 ^ 8 - 1 from rfl, Nat.and_two_pow_sub_one_eq_mod]
    rw [Nat.mod_eq_of_lt (Nat.lt_trans (Nat.mod_lt _ (by decide)) (by decide))]
  rw [e1, lN_i]
theorem fd_c_char (x : Int64) (s : Int32) : vp_nar .char ((fd_c x s).toUInt32 % 65536).toInt32 = fd_c x s := by
  rw [pk_vc]
  obtain ⟨n, h1, h2⟩ := fd_c_lt x s
  rw [h2, pk_char, pk_tn (by omega), Nat.mod_eq_of_lt (by omega)]
theorem fd_1_fst {c : Int32} {s t : fd_T} (h : s.1 = t.1) : (fd_1 c s).1 = (fd_1 c t).1 := by
  unfold fd_1
  rw [h]
  cases (fd_f c && Nat.blt t.1 1000)
  · exact h
  · rfl
theorem fd_8_fst {x : Int64} : ∀ (k : Nat) {s t : fd_T}, s.1 = t.1 → (fd_8 x k s).1 = (fd_8 x k t).1
  | 0, _, _, h => h
  | k + 1, _, _, h => fd_8_fst k (fd_1_fst h)
theorem fd_h_self {o a b : Nat} {h : am_H} {t : Nat} (hob : b ≠ o) (ht : h.1 o a = nI t) : fd_h o a b h (t, h.1 b) = h := by
  unfold fd_h
  refine Prod.ext ?_ rfl
  funext p q
  dsimp only
  by_cases h1 : p = o ∧ q = a
  · rw [if_pos h1, h1.1, h1.2, ht]
  · rw [if_neg h1]
    by_cases h2 : p = b
    · rw [if_pos h2, h2]
    · rw [if_neg h2]
theorem fd_10 : (Int8.ofInt 10).toInt32 = 10 := by decide
theorem fd_32 : (Int8.ofInt 32).toInt32 = 32 := by decide
theorem fd_126 : (Int8.ofInt 126).toInt32 = 126 := by decide
theorem fd_1000 : (Int16.ofInt 1000).toInt32 = nI 1000 := by decide
theorem fd_f_y1 {c : Int32} (h : c = 10) : fd_f c = true := by simp [fd_f, h]
theorem fd_f_y2 {c : Int32} (h1 : ¬ c < 32) (h2 : ¬ 126 < c) : fd_f c = true := by simp [fd_f, h1, h2]
theorem fd_f_n1 {c : Int32} (h : ¬ c = 10) (h1 : c < 32) : fd_f c = false := by simp [fd_f, h, h1]
theorem fd_f_n2 {c : Int32} (h : ¬ c = 10) (h1 : 126 < c) : fd_f c = false := by simp [fd_f, h, h1]
def fd_S (d lim : Nat) (Q : am_Q) : Nat → am_V → List Value → am_H → Prop := am_X (am_call am_cod d) 6 lim none (am_find am_r13) (fun _ _ _ _ => False) Q
set_option maxHeartbeats 1000000 in
/-- the loop of append -/
theorem fd_ap_loop {d lim : Nat} {Q : am_Q} {x : Int64} {h : am_H} (hsh : am_so h 1 = some (7, 0)) (hsh2 : am_so h 2 = some (12, 1000)) (hr : h.2.2.1 1 0 = some 2) :
    ∀ k, k ≤ 8 → ∀ (s : fd_T), s.1 ≤ 1000 → ∀ lv : am_V, (lv = [(3, .int (fd_s k)), (0, .ref 1), (1, .long x)] ∨ ∃ a b : Int32, lv = [(3, .int (fd_s k)), (5, .int a), (4, .int b), (0, .ref 1), (1, .long x)]) → Q none (fd_h 1 1 2 h (fd_8 x k s)) → fd_S d lim Q 3 lv [] (fd_h 1 1 2 h s) := by
  intro k
  induction k with
  | zero =>
    intro _ s hs lv hlv hQ
    have e : fd_S d lim Q 88 lv [] (fd_h 1 1 2 h s) := am_goX 1 (show none = none ∧ Q none (fd_h 1 1 2 h s) from ⟨rfl, hQ⟩)
    rcases hlv with rfl | ⟨a, b, rfl⟩
    · exact am_goX 2 (show (fd_s 0 < 0 → fd_S d lim Q 88 [(3, .int (fd_s 0)), (0, .ref 1), (1, .long x)] [] (fd_h 1 1 2 h s)) ∧ (¬ fd_s 0 < 0 → fd_S d lim Q 7 [(3, .int (fd_s 0)), (0, .ref 1), (1, .long x)] [] (fd_h 1 1 2 h s)) from ⟨fun _ => e, fun z => absurd (by decide) z⟩)
    · exact am_goX 2 (show (fd_s 0 < 0 → fd_S d lim Q 88 [(3, .int (fd_s 0)), (5, .int a), (4, .int b), (0, .ref 1), (1, .long x)] [] (fd_h 1 1 2 h s)) ∧ (¬ fd_s 0 < 0 → fd_S d lim Q 7 [(3, .int (fd_s 0)), (5, .int a), (4, .int b), (0, .ref 1), (1, .long x)] [] (fd_h 1 1 2 h s)) from ⟨fun _ => e, fun z => absurd (by decide) z⟩)
  | succ k ih =>
    intro hk s hs lv hlv hQ
    have hneg := fd_s_neg k (by omega)
    have hQ1 : Q none (fd_h 1 1 2 h (fd_8 x k (fd_1 (fd_c x (fd_s (k + 1))) s))) := hQ
    generalize hc : fd_c x (fd_s (k + 1)) = c at hQ1
    have tail : ∀ (v : Int32) (s' : fd_T), s'.1 ≤ 1000 → Q none (fd_h 1 1 2 h (fd_8 x k s')) → fd_S d lim Q 82 [(5, .int v), (4, .int c), (3, .int (fd_s (k + 1))), (0, .ref 1), (1, .long x)] [] (fd_h 1 1 2 h s') := fun v s' hs' hQ' =>
      am_goX 2 (show 3 < 6 ∧ fd_S d lim Q 3 [(3, .int (fd_s (k + 1) + Int32.ofInt (-8))), (5, .int v), (4, .int c), (0, .ref 1), (1, .long x)] [] (fd_h 1 1 2 h s') from ⟨by decide, by rw [fd_s_dec k (by omega)]; exact ih (by omega) s' hs' _ (Or.inr ⟨v, c, rfl⟩) hQ'⟩)
    have no : fd_f c = false → fd_S d lim Q 82 [(5, .int 0), (4, .int c), (3, .int (fd_s (k + 1))), (0, .ref 1), (1, .long x)] [] (fd_h 1 1 2 h s) := fun hf => tail 0 s hs (by rw [fd_1_n (Or.inl hf)] at hQ1; exact hQ1)
    have yes : fd_f c = true → fd_S d lim Q 50 [(5, .int 1), (4, .int c), (3, .int (fd_s (k + 1))), (0, .ref 1), (1, .long x)] [] (fd_h 1 1 2 h s) := by
      intro hf
      refine am_goX 4 (show am_sh (fd_h 1 1 2 h s) 1 = some (7, 0) ∧ ((Int16.ofInt 1000).toInt32 ≤ (fd_h 1 1 2 h s).1 1 1 → fd_S d lim Q 82 [(5, .int 1), (4, .int c), (3, .int (fd_s (k + 1))), (0, .ref 1), (1, .long x)] [] (fd_h 1 1 2 h s)) ∧ (¬ (Int16.ofInt 1000).toInt32 ≤ (fd_h 1 1 2 h s).1 1 1 → fd_S d lim Q 60 [(5, .int 1), (4, .int c), (3, .int (fd_s (k + 1))), (0, .ref 1), (1, .long x)] [] (fd_h 1 1 2 h s)) from ⟨hsh, fun z => ?_, fun z => ?_⟩)
      · rw [fd_1000, fd_h_n, nI_leI (by decide) (by omega)] at z
        exact tail 1 s hs (by rw [fd_1_n (Or.inr (by omega))] at hQ1; exact hQ1)
      · rw [fd_1000, fd_h_n, nI_leI (by decide) (by omega)] at z
        have hlt : s.1 < 1000 := by omega
        rw [fd_1_y hf hlt] at hQ1
        refine am_goX 2 (show am_sh (fd_h 1 1 2 h s) 1 = some (7, 0) ∧ fd_S d lim Q 64 [(5, .int 1), (4, .int c), (3, .int (fd_s (k + 1))), (0, .ref 1), (1, .long x)] [am_rf (h.2.2.1 1 0)] (fd_h 1 1 2 h s) from ⟨hsh, ?_⟩)
        rw [hr]
        refine am_goX 5 (show am_sh (fd_h 1 1 2 h s) 1 = some (7, 0) ∧ ∃ j n : Nat, am_so (fd_h 1 1 2 h s) 2 = some (12, n) ∧ j < n ∧ (fd_h 1 1 2 h s).1 1 1 = nI j ∧ fd_S d lim Q 72 [(5, .int 1), (4, .int c), (3, .int (fd_s (k + 1))), (0, .ref 1), (1, .long x)] [] (am_wI (fd_h 1 1 2 h s) 2 j (vp_nar .char (c.toUInt32 % 65536).toInt32)) from ⟨hsh, s.1, 1000, hsh2, hlt, fd_h_n, ?_⟩)
        rw [← hc, fd_c_char, hc]
        refine am_goX 6 (show (Value.ref 1).category = 1 ∧ am_sh (am_wI (fd_h 1 1 2 h s) 2 s.1 c) 1 = some (7, 0) ∧ am_sh (am_wI (fd_h 1 1 2 h s) 2 s.1 c) 1 = some (7, 0) ∧ narrow (am_fty 7 1) (.int ((am_wI (fd_h 1 1 2 h s) 2 s.1 c).1 1 1 + Int32.ofInt 1)) = .int ((am_wI (fd_h 1 1 2 h s) 2 s.1 c).1 1 1 + Int32.ofInt 1) ∧ fits (am_fty 7 1) (.int ((am_wI (fd_h 1 1 2 h s) 2 s.1 c).1 1 1 + Int32.ofInt 1)) = true ∧ fd_S d lim Q 82 [(5, .int 1), (4, .int c), (3, .int (fd_s (k + 1))), (0, .ref 1), (1, .long x)] [] (am_wI (am_wI (fd_h 1 1 2 h s) 2 s.1 c) 1 1 ((am_wI (fd_h 1 1 2 h s) 2 s.1 c).1 1 1 + Int32.ofInt 1)) from ⟨rfl, hsh, hsh, rfl, rfl, ?_⟩)
        have e1 : (am_wI (fd_h 1 1 2 h s) 2 s.1 c).1 1 1 + Int32.ofInt 1 = nI s.1 + 1 := by
          show (if 1 = 2 ∧ 1 = s.1 then c else (fd_h 1 1 2 h s).1 1 1) + Int32.ofInt 1 = _
          rw [if_neg (fun z => absurd z.1 (by decide)), fd_h_n]
          rfl
        rw [e1, fd_h_put (by decide)]
        exact tail 1 _ hlt hQ1
    have mid : ∀ lv2 : am_V, (lv2 = [(4, .int c), (3, .int (fd_s (k + 1))), (0, .ref 1), (1, .long x)] ∨ ∃ a : Int32, lv2 = [(4, .int c), (3, .int (fd_s (k + 1))), (5, .int a), (0, .ref 1), (1, .long x)]) → fd_S d lim Q 17 lv2 [] (fd_h 1 1 2 h s) := by
      intro lv2 hl2
      have y38 : fd_f c = true → fd_S d lim Q 38 lv2 [] (fd_h 1 1 2 h s) := by
        intro hf
        rcases hl2 with rfl | ⟨a, rfl⟩ <;> exact am_goX 5 (show 5 < 6 ∧ ((Int32.ofInt 1 = 0 → fd_S d lim Q 82 [(5, .int (Int32.ofInt 1)), (4, .int c), (3, .int (fd_s (k + 1))), (0, .ref 1), (1, .long x)] [] (fd_h 1 1 2 h s)) ∧ (¬ Int32.ofInt 1 = 0 → fd_S d lim Q 50 [(5, .int (Int32.ofInt 1)), (4, .int c), (3, .int (fd_s (k + 1))), (0, .ref 1), (1, .long x)] [] (fd_h 1 1 2 h s))) from ⟨by decide, fun z => absurd z (by decide), fun _ => yes hf⟩)
      have n42 : fd_f c = false → fd_S d lim Q 42 lv2 [] (fd_h 1 1 2 h s) := by
        intro hf
        rcases hl2 with rfl | ⟨a, rfl⟩ <;> exact am_goX 4 (show 5 < 6 ∧ ((Int32.ofInt 0 = 0 → fd_S d lim Q 82 [(5, .int (Int32.ofInt 0)), (4, .int c), (3, .int (fd_s (k + 1))), (0, .ref 1), (1, .long x)] [] (fd_h 1 1 2 h s)) ∧ (¬ Int32.ofInt 0 = 0 → fd_S d lim Q 50 [(5, .int (Int32.ofInt 0)), (4, .int c), (3, .int (fd_s (k + 1))), (0, .ref 1), (1, .long x)] [] (fd_h 1 1 2 h s))) from ⟨by decide, fun _ => no hf, fun z => absurd (by decide) z⟩)
      have g31 : ¬ c = 10 → ¬ c < 32 → fd_S d lim Q 31 lv2 [] (fd_h 1 1 2 h s) := by
        intro h1 h2
        have q : ((Int8.ofInt 126).toInt32 < c → fd_S d lim Q 42 lv2 [] (fd_h 1 1 2 h s)) ∧ (¬ (Int8.ofInt 126).toInt32 < c → fd_S d lim Q 38 lv2 [] (fd_h 1 1 2 h s)) := by
          rw [fd_126]
          exact ⟨fun z => n42 (fd_f_n2 h1 z), fun z => y38 (fd_f_y2 h2 z)⟩
        rcases hl2 with rfl | ⟨a, rfl⟩ <;> exact am_goX 3 q
      have g24 : ¬ c = 10 → fd_S d lim Q 24 lv2 [] (fd_h 1 1 2 h s) := by
        intro h1
        have q : (c < (Int8.ofInt 32).toInt32 → fd_S d lim Q 42 lv2 [] (fd_h 1 1 2 h s)) ∧ (¬ c < (Int8.ofInt 32).toInt32 → fd_S d lim Q 31 lv2 [] (fd_h 1 1 2 h s)) := by
          rw [fd_32]
          exact ⟨fun z => n42 (fd_f_n1 h1 z), fun z => g31 h1 z⟩
        rcases hl2 with rfl | ⟨a, rfl⟩ <;> exact am_goX 3 q
      have q : (c = (Int8.ofInt 10).toInt32 → fd_S d lim Q 38 lv2 [] (fd_h 1 1 2 h s)) ∧ (¬ c = (Int8.ofInt 10).toInt32 → fd_S d lim Q 24 lv2 [] (fd_h 1 1 2 h s)) := by
        rw [fd_10]
        exact ⟨fun z => y38 (fd_f_y1 z), fun z => g24 z⟩
      rcases hl2 with rfl | ⟨a, rfl⟩ <;> exact am_goX 3 q
    rcases hlv with rfl | ⟨a, b, rfl⟩
    · refine am_goX 2 (show (fd_s (k + 1) < 0 → fd_S d lim Q 88 [(3, .int (fd_s (k + 1))), (0, .ref 1), (1, .long x)] [] (fd_h 1 1 2 h s)) ∧ (¬ fd_s (k + 1) < 0 → fd_S d lim Q 7 [(3, .int (fd_s (k + 1))), (0, .ref 1), (1, .long x)] [] (fd_h 1 1 2 h s)) from ⟨fun z => absurd z hneg, fun _ => ?_⟩)
      refine am_goX 7 (show 4 < 6 ∧ fd_S d lim Q 17 [(4, .int (fd_c x (fd_s (k + 1)))), (3, .int (fd_s (k + 1))), (0, .ref 1), (1, .long x)] [] (fd_h 1 1 2 h s) from ⟨by decide, ?_⟩)
      rw [hc]
      exact mid _ (Or.inl rfl)
    · refine am_goX 2 (show (fd_s (k + 1) < 0 → fd_S d lim Q 88 [(3, .int (fd_s (k + 1))), (5, .int a), (4, .int b), (0, .ref 1), (1, .long x)] [] (fd_h 1 1 2 h s)) ∧ (¬ fd_s (k + 1) < 0 → fd_S d lim Q 7 [(3, .int (fd_s (k + 1))), (5, .int a), (4, .int b), (0, .ref 1), (1, .long x)] [] (fd_h 1 1 2 h s)) from ⟨fun z => absurd z hneg, fun _ => ?_⟩)
      refine am_goX 7 (show 4 < 6 ∧ fd_S d lim Q 17 [(4, .int (fd_c x (fd_s (k + 1)))), (3, .int (fd_s (k + 1))), (5, .int a), (0, .ref 1), (1, .long x)] [] (fd_h 1 1 2 h s) from ⟨by decide, ?_⟩)
      rw [hc]
      exact mid _ (Or.inr ⟨a, rfl⟩)
theorem fd_cod13 : am_cod 13 = am_find am_r13 := by
  funext pc
  rfl
theorem fd_append {d : Nat} {Q : am_Q} {x : Int64} {h : am_H} {s : fd_T} (hsh : am_so h 1 = some (7, 0)) (hsh2 : am_so h 2 = some (12, 1000)) (hr : h.2.2.1 1 0 = some 2) (hs : s.1 ≤ 1000) (hQ : Q none (fd_h 1 1 2 h (fd_8 x 8 s))) : am_call am_cod (d + 1) 13 [.ref 1, .long x] (fd_h 1 1 2 h s) Q := by
  refine Or.inr ⟨show 3 ≤ am_nL 13 by decide +kernel, ?_⟩
  rw [fd_cod13]
  refine am_goX 2 (show 3 < 6 ∧ fd_S d (h.2.2.2.2 + am_al 13) (fun v h' => h'.2.2.2.2 = h.2.2.2.2 + am_al 13 ∧ Q v h') 3 [(3, .int (Int8.ofInt 56).toInt32), (0, .ref 1), (1, .long x)] [] (fd_h 1 1 2 h s) from ⟨by decide, ?_⟩)
  rw [show (Int8.ofInt 56).toInt32 = fd_s 8 by decide]
  exact fd_ap_loop hsh hsh2 hr 8 (Nat.le_refl _) s hs _ (Or.inl rfl) ⟨rfl, hQ⟩
