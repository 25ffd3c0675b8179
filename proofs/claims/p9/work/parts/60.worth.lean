/-! worthAt: a law that is told is well formed, and is worked out safely -/
/-- one code: a number, a fact, not, one of two -/
def xw_st (h : am_H) (dep : Nat → Nat) (i : Nat) : Prop :=
  (h.1 161 i = 1 ∧ dep (i + 1) = dep i + 1) ∨ (h.1 161 i = 2 ∧ (∃ a : Nat, a < 4 ∧ h.1 162 i = nI a) ∧ dep (i + 1) = dep i + 1) ∨ (h.1 161 i = 3 ∧ 1 ≤ dep i ∧ dep (i + 1) = dep i) ∨ ((∃ k : Nat, 4 ≤ k ∧ k ≤ 10 ∧ h.1 161 i = nI k) ∧ 2 ≤ dep i ∧ dep (i + 1) + 1 = dep i)
/-- the law that is told: none, or codes up to an end -/
def xw_X (h : am_H) : Prop := h.1 160 3 = -1 ∨ (h.1 160 3 = 0 ∧ ∃ m : Nat, m < 1100 ∧ h.1 161 m = 0 ∧ ∃ dep : Nat → Nat, dep 0 = 0 ∧ ∀ i, i < m → xw_st h dep i)
theorem xw_Xk : ag_Xk xw_X := by
  intro h h' hk hX
  have e160 : h'.1 160 3 = h.1 160 3 := hk 160 3 (Or.inr (Or.inr ⟨rfl, rfl⟩))
  rcases hX with hX | ⟨hX, m, hm, h0, dep, d0, hd⟩
  · exact Or.inl (e160.trans hX)
  · refine Or.inr ⟨e160.trans hX, m, hm, (hk 161 m (Or.inr (Or.inl ⟨Or.inl rfl, hm⟩))).trans h0, dep, d0, fun i hi => ?_⟩
    have e1 : h'.1 161 i = h.1 161 i := hk 161 i (Or.inr (Or.inl ⟨Or.inl rfl, by omega⟩))
    have e2 : h'.1 162 i = h.1 162 i := hk 162 i (Or.inr (Or.inl ⟨Or.inr rfl, by omega⟩))
    unfold xw_st
    rw [e1, e2]
    exact hd i hi
def xw_h (h : am_H) (g : Nat → Int32) : am_H := (fun a b => if a = 169 then g b else h.1 a b, h.2)
theorem xw_h_o (h : am_H) (g : Nat → Int32) {o : Nat} (ho : ¬ o = 169) (k : Nat) : (xw_h h g).1 o k = h.1 o k := if_neg ho
theorem xw_h_p (h : am_H) (g : Nat → Int32) (k : Nat) : (xw_h h g).1 169 k = g k := by
  show (if (169 : Nat) = 169 then g k else h.1 169 k) = g k
  rw [if_pos rfl]
theorem xw_h_w (h : am_H) (g : Nat → Int32) (j : Nat) (v : Int32) : am_wI (xw_h h g) 169 j v = xw_h h (upd g j v) := by
  refine Prod.ext ?_ rfl
  funext a b
  show (if a = 169 ∧ b = j then v else if a = 169 then g b else h.1 a b) = if a = 169 then upd g j v b else h.1 a b
  by_cases ha : a = 169
  · by_cases hb : b = j <;> simp [ha, hb, upd]
  · simp [ha]
theorem xw_h_id (h : am_H) : xw_h h (h.1 169) = h := by
  refine Prod.ext ?_ rfl
  funext a b
  show (if a = 169 then h.1 169 b else h.1 a b) = h.1 a b
  by_cases ha : a = 169
  · rw [if_pos ha, ha]
  · rw [if_neg ha]
def xw_S (Q : am_Q) : Nat → am_V → List Value → am_H → Prop := am_X (am_call am_cod 2) 5 175 (some .int) (am_find am_r236) (fun _ _ _ _ => False) Q
/-- the objects that worthAt reads -/
def xw_ob (h : am_H) : Prop := h.2.2.2.2 = 175 ∧ h.2.2.1 154 11 = some 161 ∧ h.2.2.1 154 12 = some 162 ∧ h.2.2.1 154 22 = some 168 ∧ h.2.2.1 154 23 = some 169
theorem xw_sh {h : am_H} (hc : h.2.2.2.2 = 175) (g : Nat → Int32) {o : Nat} {e : Nat × Nat} (he : ae_shl[o]? = some e) : am_sh (xw_h h g) o = some e ∧ am_so (xw_h h g) o = some e := by
  have q := ag_so_ok (D := ag_DD) (h := xw_h h g) (o := o) (e := e) ag_DD_sh hc he
  exact ⟨q.2, q.1⟩
/-- both, by the second checker -/
def ag_Iboth : ag_I := ((237, 1, [([(0, 1000), (-1100, 1000), (0, 24), (-2147483648, 2147483647), (-2147483648, 2147483647), (-2147483648, 2147483647)], [(0, 0, 0), (0, 1, 0), (0, 2, 0)], [(0, .inl ([(3, 1)], 0)), (1, .inl ([(4, 1)], 0)), (2, .inl ([(5, 1)], 0))], ([], [], [], [], []))], [([(0, 1000), (-1100, 1000), (0, 24), (-2147483648, 2147483647)], [(0, 1000, 0)], [(1000, .inl ([(3, 1)], 0))], ([], [], [], [], []))], []), [], [], 300)
theorem ag_Kboth : ag_chk ag_DD [] ag_Iboth = true := by decide +kernel
theorem xw_both {h : am_H} {N : Int} (hW : ag_WH ag_DD N h) (hN : N ≤ 1000) (a b c : Int32) {Q : am_Q} (hQ : ∀ v : Int32, Q (some (.int v)) h) : am_call am_cod 2 237 [.int a, .int b, .int c] h Q := by
  have ok := ag_chk_ok ag_DD_sh ag_DD_lg (Xp := fun _ => True) (fun _ _ _ _ => trivial) (tab := []) (fun _ z => absurd z List.not_mem_nil) ag_Kboth
  have r := ok _ List.mem_cons_self (fun j => match j with
    | 0 => N
    | 1 => 0
    | 2 => 0
    | 3 => a.toInt
    | 4 => b.toInt
    | 5 => c.toInt
    | _ => 0) [.int a, .int b, .int c] h hW trivial ?_ (show 3 ≤ am_nL 237 by decide +kernel) rfl
  · refine am_call.mono (fun v h' hh => ?_) (am_call.up r (by decide))
    obtain ⟨-, hf, P, hP, τ, -, hT, -⟩ := hh
    have e : h' = h := ag_fr_nil hf
    subst e
    rcases List.mem_cons.mp hP with e | e
    · subst e
      have z := hT.2.2.1 (1000, ag_c τ (.inl ([(3, 1)], 0))) List.mem_cons_self
      cases v with
      | none => cases z
      | some x =>
        have z : some x = some (Value.int (Int32.ofInt (ag_ev τ ([(3, 1)], 0)))) := z
        rw [z]
        exact hQ _
    · exact absurd e List.not_mem_nil
  · refine ⟨fun i q hq => ?_, fun j hj => ?_, fun q hq => ?_, fun q hq => absurd hq List.not_mem_nil, fun q hq => absurd hq List.not_mem_nil, fun q hq => absurd hq List.not_mem_nil, fun q hq => absurd hq List.not_mem_nil, fun q hq => absurd hq List.not_mem_nil⟩
    · match i, hq with
      | 0, hq => cases hq; exact ⟨hW.2.2.1, hN⟩
      | 1, hq => cases hq; exact (show (-1100 : Int) ≤ 0 ∧ (0 : Int) ≤ 1000 by decide)
      | 2, hq => cases hq; exact (show (0 : Int) ≤ 0 ∧ (0 : Int) ≤ 24 by decide)
      | 3, hq => cases hq; exact ag_i32r a
      | 4, hq => cases hq; exact ag_i32r b
      | 5, hq => cases hq; exact ag_i32r c
      | i + 6, hq => cases hq
    · match j, hj with
      | 0, hj => exact absurd hj (by decide)
      | 1, hj => exact absurd hj (by decide)
      | 2, hj => exact absurd hj (by decide)
      | 3, hj => exact absurd hj (by decide)
      | 4, hj => exact absurd hj (by decide)
      | 5, hj => exact absurd hj (by decide)
      | j + 6, _ => rfl
    · have hq : q ∈ [((0 : Nat), Value.int (Int32.ofInt (1 * a.toInt + 0 + 0))), (1, Value.int (Int32.ofInt (1 * b.toInt + 0 + 0))), (2, Value.int (Int32.ofInt (1 * c.toInt + 0 + 0)))] := hq
      simp only [Int.one_mul, Int.add_zero, Int32.ofInt_toInt] at hq
      rcases List.mem_cons.mp hq with e | e
      · rw [e]; rfl
      · rcases List.mem_cons.mp e with e | e
        · rw [e]; rfl
        · rcases List.mem_cons.mp e with e | e
          · rw [e]; rfl
          · exact absurd e List.not_mem_nil
theorem xw_WH {h : am_H} {N : Int} (hW : ag_WH ag_DD N h) (g : Nat → Int32) : ag_WH ag_DD N (xw_h h g) := by
  obtain ⟨w1, ⟨w2, w3, w4⟩, w5, w6⟩ := hW
  refine ⟨w1, ⟨fun o s hs k => ?_, w3, w4⟩, w5, ?_⟩
  · by_cases ho : o = 169
    · subst ho
      have hs : s ∈ ([] : List ag_S) := hs
      exact absurd hs List.not_mem_nil
    · rw [xw_h_o h g ho]
      exact w2 o s hs k
  · rw [xw_h_o h g (by decide)]
    exact w6
def xw_lv (i t : Nat) (lv : am_V) : Prop := lv = [(3, .int (nI i)), (2, .int (nI t)), (0, .ref 154), (1, .int 0)] ∨ (∃ c : Int32, lv = [(3, .int (nI i)), (2, .int (nI t)), (4, .int c), (0, .ref 154), (1, .int 0)]) ∨ (∃ c : Int32, lv = [(3, .int (nI i)), (4, .int c), (2, .int (nI t)), (0, .ref 154), (1, .int 0)])
def xw_4 (c : Int32) (i t : Nat) : am_V := [(4, .int c), (3, .int (nI i)), (2, .int (nI t)), (0, .ref 154), (1, .int 0)]
variable {h : am_H} {Q : am_Q} {g : Nat → Int32} {i t : Nat} {c : Int32} {lv : am_V}
/-- up to the code at hand -/
theorem xw_pre (hob : xw_ob h) (hi : i < 1100) (hc : h.1 161 i = c) (hlv : xw_lv i t lv) (k0 : c = 0 → xw_S Q 140 lv [] (xw_h h g)) (k1 : ¬ c = 0 → xw_S Q 21 (xw_4 c i t) [] (xw_h h g)) : xw_S Q 4 lv [] (xw_h h g) := by
  have s154 := (xw_sh hob.1 g (o := 154) (e := (11, 0)) (by decide +kernel)).1
  have s161 := (xw_sh hob.1 g (o := 161) (e := (13, 2200)) (by decide +kernel)).1
  have hv : (xw_h h g).1 161 i = c := by rw [xw_h_o h g (by decide), hc]
  rcases hlv with rfl | ⟨c0, rfl⟩ | ⟨c0, rfl⟩
  all_goals
    refine am_goX 2 (show am_sh (xw_h h g) 154 = some (11, 0) ∧ xw_S Q 8 _ [am_rf (h.2.2.1 154 11)] (xw_h h g) from ⟨s154, ?_⟩)
    rw [hob.2.1]
    refine am_goX 2 (show ∃ j n : Nat, am_sh (xw_h h g) 161 = some (13, n) ∧ j < n ∧ nI i = nI j ∧ xw_S Q 10 _ [.int ((xw_h h g).1 161 j)] (xw_h h g) from ⟨i, 2200, s161, by omega, rfl, ?_⟩)
    rw [hv]
    refine am_goX 1 (show (c = 0 → xw_S Q 140 _ [] (xw_h h g)) ∧ (¬ c = 0 → xw_S Q 13 _ [] (xw_h h g)) from ⟨k0, fun hne => ?_⟩)
    refine am_goX 2 (show am_sh (xw_h h g) 154 = some (11, 0) ∧ xw_S Q 17 _ [am_rf (h.2.2.1 154 11)] (xw_h h g) from ⟨s154, ?_⟩)
    rw [hob.2.1]
    refine am_goX 2 (show ∃ j n : Nat, am_sh (xw_h h g) 161 = some (13, n) ∧ j < n ∧ nI i = nI j ∧ xw_S Q 19 _ [.int ((xw_h h g).1 161 j)] (xw_h h g) from ⟨i, 2200, s161, by omega, rfl, ?_⟩)
    rw [hv]
    exact am_goX 1 (show 4 < 5 ∧ xw_S Q 21 (xw_4 c i t) [] (xw_h h g) from ⟨by decide, k1 hne⟩)
/-- the end -/
theorem xw_end (hob : xw_ob h) (hlv : xw_lv i t lv) (hQ : Q (some (.int (g 0))) (xw_h h g)) : xw_S Q 140 lv [] (xw_h h g) := by
  have s154 := (xw_sh hob.1 g (o := 154) (e := (11, 0)) (by decide +kernel)).1
  have s169 := (xw_sh hob.1 g (o := 169) (e := (13, 1100)) (by decide +kernel)).1
  rcases hlv with rfl | ⟨c0, rfl⟩ | ⟨c0, rfl⟩
  all_goals
    refine am_goX 2 (show am_sh (xw_h h g) 154 = some (11, 0) ∧ xw_S Q 144 _ [am_rf (h.2.2.1 154 23)] (xw_h h g) from ⟨s154, ?_⟩)
    rw [hob.2.2.2.2]
    refine am_goX 2 (show ∃ j n : Nat, am_sh (xw_h h g) 169 = some (13, n) ∧ j < n ∧ Int32.ofInt 0 = nI j ∧ xw_S Q 146 _ [.int ((xw_h h g).1 169 j)] (xw_h h g) from ⟨0, 1100, s169, by decide, by decide, ?_⟩)
    rw [xw_h_p]
    exact am_goX 1 (show (∃ ty, some FieldType.int = some ty ∧ narrow ty (.int (g 0)) = .int (g 0)) ∧ Q (some (.int (g 0))) (xw_h h g) from ⟨⟨.int, rfl, rfl⟩, hQ⟩)
theorem xw_i1 (n : Nat) : nI n + Int32.ofInt 1 = nI (n + 1) := nI_1 n
/-- behind a code: the place of the next one -/
theorem xw_nx (lv5 : am_V) (h3 : am_lk lv5 3 = some (.int (nI i))) (k : xw_S Q 4 (am_s1 lv5 3 (.int (nI (i + 1)))) [] (xw_h h g)) : xw_S Q 134 lv5 [] (xw_h h g) := by
  refine am_goX 2 (show am_li lv5 3 (fun x => 3 < 5 ∧ xw_S Q 4 (am_s1 lv5 3 (.int (x + Int32.ofInt 1))) [] (xw_h h g)) from ?_)
  unfold am_li
  rw [h3]
  refine ⟨by decide, ?_⟩
  rw [xw_i1]
  exact k
/-- a number or a fact goes onto the pile -/
theorem xw_push (hob : xw_ob h) (ht : t < 1100) {x : Int32} (k : xw_S Q 4 [(3, .int (nI (i + 1))), (2, .int (nI (t + 1))), (4, .int c), (0, .ref 154), (1, .int 0)] [] (xw_h h (upd g t x))) : xw_S Q 64 (xw_4 c i t) [.int x, .int (nI t), .ref 169] (xw_h h g) := by
  have s169 := (xw_sh hob.1 g (o := 169) (e := (13, 1100)) (by decide +kernel)).2
  refine am_goX 1 (show ∃ j n : Nat, am_so (xw_h h g) 169 = some (13, n) ∧ j < n ∧ nI t = nI j ∧ xw_S Q 65 (xw_4 c i t) [] (am_wI (xw_h h g) 169 j x) from ⟨t, 1100, s169, ht, rfl, ?_⟩)
  rw [xw_h_w]
  refine am_goX 2 (show 2 < 5 ∧ xw_S Q 134 [(2, .int (nI t + Int32.ofInt 1)), (4, .int c), (3, .int (nI i)), (0, .ref 154), (1, .int 0)] [] (xw_h h (upd g t x)) from ⟨by decide, ?_⟩)
  rw [xw_i1]
  exact xw_nx _ rfl k
theorem xw_num (hob : xw_ob h) (hi : i < 1100) (ht : t < 1100) (hc : c = 1) (k : ∀ x, xw_S Q 4 [(3, .int (nI (i + 1))), (2, .int (nI (t + 1))), (4, .int c), (0, .ref 154), (1, .int 0)] [] (xw_h h (upd g t x))) : xw_S Q 21 (xw_4 c i t) [] (xw_h h g) := by
  subst hc
  have s154 := (xw_sh hob.1 g (o := 154) (e := (11, 0)) (by decide +kernel)).1
  have s162 := (xw_sh hob.1 g (o := 162) (e := (13, 2200)) (by decide +kernel)).1
  refine am_goX 3 (show ((1 : Int32) = Int32.ofInt 1 → xw_S Q 33 (xw_4 1 i t) [] (xw_h h g)) ∧ (¬ (1 : Int32) = Int32.ofInt 1 → xw_S Q 27 (xw_4 1 i t) [] (xw_h h g)) from ⟨fun _ => ?_, fun z => absurd (by decide) z⟩)
  refine am_goX 2 (show am_sh (xw_h h g) 154 = some (11, 0) ∧ xw_S Q 37 (xw_4 1 i t) [am_rf (h.2.2.1 154 23)] (xw_h h g) from ⟨s154, ?_⟩)
  rw [hob.2.2.2.2]
  refine am_goX 4 (show (¬ (1 : Int32) = Int32.ofInt 1 → xw_S Q 53 (xw_4 1 i t) [.int (nI t), .ref 169] (xw_h h g)) ∧ (¬ ¬ (1 : Int32) = Int32.ofInt 1 → xw_S Q 44 (xw_4 1 i t) [.int (nI t), .ref 169] (xw_h h g)) from ⟨fun z => absurd (by decide) z, fun _ => ?_⟩)
  refine am_goX 2 (show am_sh (xw_h h g) 154 = some (11, 0) ∧ xw_S Q 48 (xw_4 1 i t) [am_rf (h.2.2.1 154 12), .int (nI t), .ref 169] (xw_h h g) from ⟨s154, ?_⟩)
  rw [hob.2.2.1]
  refine am_goX 3 (show ∃ j n : Nat, am_sh (xw_h h g) 162 = some (13, n) ∧ j < n ∧ nI i = nI j ∧ xw_S Q 64 (xw_4 1 i t) [.int ((xw_h h g).1 162 j), .int (nI t), .ref 169] (xw_h h g) from ⟨i, 2200, s162, by omega, rfl, ?_⟩)
  exact xw_push hob ht (k _)
theorem xw_fact (hob : xw_ob h) (hi : i < 1100) (ht : t < 1100) (hc : c = 2) {a : Nat} (ha : a < 4) (he : h.1 162 i = nI a) (k : ∀ x, xw_S Q 4 [(3, .int (nI (i + 1))), (2, .int (nI (t + 1))), (4, .int c), (0, .ref 154), (1, .int 0)] [] (xw_h h (upd g t x))) : xw_S Q 21 (xw_4 c i t) [] (xw_h h g) := by
  subst hc
  have s154 := (xw_sh hob.1 g (o := 154) (e := (11, 0)) (by decide +kernel)).1
  have s162 := (xw_sh hob.1 g (o := 162) (e := (13, 2200)) (by decide +kernel)).1
  have s168 := (xw_sh hob.1 g (o := 168) (e := (13, 4)) (by decide +kernel)).1
  refine am_goX 3 (show ((2 : Int32) = Int32.ofInt 1 → xw_S Q 33 (xw_4 2 i t) [] (xw_h h g)) ∧ (¬ (2 : Int32) = Int32.ofInt 1 → xw_S Q 27 (xw_4 2 i t) [] (xw_h h g)) from ⟨fun z => absurd z (by decide), fun _ => ?_⟩)
  refine am_goX 3 (show (¬ (2 : Int32) = Int32.ofInt 2 → xw_S Q 71 (xw_4 2 i t) [] (xw_h h g)) ∧ (¬ ¬ (2 : Int32) = Int32.ofInt 2 → xw_S Q 33 (xw_4 2 i t) [] (xw_h h g)) from ⟨fun z => absurd (by decide) z, fun _ => ?_⟩)
  refine am_goX 2 (show am_sh (xw_h h g) 154 = some (11, 0) ∧ xw_S Q 37 (xw_4 2 i t) [am_rf (h.2.2.1 154 23)] (xw_h h g) from ⟨s154, ?_⟩)
  rw [hob.2.2.2.2]
  refine am_goX 4 (show (¬ (2 : Int32) = Int32.ofInt 1 → xw_S Q 53 (xw_4 2 i t) [.int (nI t), .ref 169] (xw_h h g)) ∧ (¬ ¬ (2 : Int32) = Int32.ofInt 1 → xw_S Q 44 (xw_4 2 i t) [.int (nI t), .ref 169] (xw_h h g)) from ⟨fun _ => ?_, fun z => absurd (by decide) z⟩)
  refine am_goX 2 (show am_sh (xw_h h g) 154 = some (11, 0) ∧ xw_S Q 57 (xw_4 2 i t) [am_rf (h.2.2.1 154 22), .int (nI t), .ref 169] (xw_h h g) from ⟨s154, ?_⟩)
  rw [hob.2.2.2.1]
  refine am_goX 2 (show am_sh (xw_h h g) 154 = some (11, 0) ∧ xw_S Q 61 (xw_4 2 i t) [am_rf (h.2.2.1 154 12), .ref 168, .int (nI t), .ref 169] (xw_h h g) from ⟨s154, ?_⟩)
  rw [hob.2.2.1]
  refine am_goX 2 (show ∃ j n : Nat, am_sh (xw_h h g) 162 = some (13, n) ∧ j < n ∧ nI i = nI j ∧ xw_S Q 63 (xw_4 2 i t) [.int ((xw_h h g).1 162 j), .ref 168, .int (nI t), .ref 169] (xw_h h g) from ⟨i, 2200, s162, by omega, rfl, ?_⟩)
  rw [xw_h_o h g (by decide), he]
  refine am_goX 1 (show ∃ j n : Nat, am_sh (xw_h h g) 168 = some (13, n) ∧ j < n ∧ nI a = nI j ∧ xw_S Q 64 (xw_4 2 i t) [.int ((xw_h h g).1 168 j), .int (nI t), .ref 169] (xw_h h g) from ⟨a, 4, s168, ha, rfl, ?_⟩)
  exact xw_push hob ht (k _)
theorem xw_s1 {n : Nat} (hn : 1 ≤ n) : nI n - Int32.ofInt 1 = nI (n - 1) := by
  obtain ⟨q, rfl⟩ : ∃ q, n = q + 1 := ⟨n - 1, by omega⟩
  exact nI_pred q
theorem xw_not (hob : xw_ob h) (ht : t < 1100) (h1 : 1 ≤ t) (hc : c = 3) (k : ∀ x, xw_S Q 4 [(3, .int (nI (i + 1))), (4, .int c), (2, .int (nI t)), (0, .ref 154), (1, .int 0)] [] (xw_h h (upd g (t - 1) x))) : xw_S Q 21 (xw_4 c i t) [] (xw_h h g) := by
  subst hc
  have s154 := (xw_sh hob.1 g (o := 154) (e := (11, 0)) (by decide +kernel)).1
  have s169 := xw_sh hob.1 g (o := 169) (e := (13, 1100)) (by decide +kernel)
  refine am_goX 3 (show ((3 : Int32) = Int32.ofInt 1 → xw_S Q 33 (xw_4 3 i t) [] (xw_h h g)) ∧ (¬ (3 : Int32) = Int32.ofInt 1 → xw_S Q 27 (xw_4 3 i t) [] (xw_h h g)) from ⟨fun z => absurd z (by decide), fun _ => ?_⟩)
  refine am_goX 3 (show (¬ (3 : Int32) = Int32.ofInt 2 → xw_S Q 71 (xw_4 3 i t) [] (xw_h h g)) ∧ (¬ ¬ (3 : Int32) = Int32.ofInt 2 → xw_S Q 33 (xw_4 3 i t) [] (xw_h h g)) from ⟨fun _ => ?_, fun z => absurd (by decide) z⟩)
  refine am_goX 3 (show (¬ (3 : Int32) = Int32.ofInt 3 → xw_S Q 104 (xw_4 3 i t) [] (xw_h h g)) ∧ (¬ ¬ (3 : Int32) = Int32.ofInt 3 → xw_S Q 77 (xw_4 3 i t) [] (xw_h h g)) from ⟨fun z => absurd (by decide) z, fun _ => ?_⟩)
  refine am_goX 2 (show am_sh (xw_h h g) 154 = some (11, 0) ∧ xw_S Q 81 (xw_4 3 i t) [am_rf (h.2.2.1 154 23)] (xw_h h g) from ⟨s154, ?_⟩)
  rw [hob.2.2.2.2]
  refine am_goX 5 (show am_sh (xw_h h g) 154 = some (11, 0) ∧ xw_S Q 88 (xw_4 3 i t) [am_rf (h.2.2.1 154 23), .int (nI t - Int32.ofInt 1), .ref 169] (xw_h h g) from ⟨s154, ?_⟩)
  rw [hob.2.2.2.2, xw_s1 h1]
  refine am_goX 4 (show ∃ j n : Nat, am_sh (xw_h h g) 169 = some (13, n) ∧ j < n ∧ nI t - Int32.ofInt 1 = nI j ∧ xw_S Q 92 (xw_4 3 i t) [.int ((xw_h h g).1 169 j), .int (nI (t - 1)), .ref 169] (xw_h h g) from ⟨t - 1, 1100, s169.1, by omega, xw_s1 h1, ?_⟩)
  have st : ∀ x : Int32, xw_S Q 100 (xw_4 3 i t) [.int x, .int (nI (t - 1)), .ref 169] (xw_h h g) := by
    intro x
    refine am_goX 2 (show ∃ j n : Nat, am_so (xw_h h g) 169 = some (13, n) ∧ j < n ∧ nI (t - 1) = nI j ∧ xw_S Q 134 (xw_4 3 i t) [] (am_wI (xw_h h g) 169 j x) from ⟨t - 1, 1100, s169.2, by omega, rfl, ?_⟩)
    rw [xw_h_w]
    exact xw_nx _ rfl (k x)
  refine am_goX 1 (show (¬ (xw_h h g).1 169 (t - 1) = 0 → xw_S Q 99 (xw_4 3 i t) [.int (nI (t - 1)), .ref 169] (xw_h h g)) ∧ (¬ ¬ (xw_h h g).1 169 (t - 1) = 0 → xw_S Q 95 (xw_4 3 i t) [.int (nI (t - 1)), .ref 169] (xw_h h g)) from ⟨fun _ => ?_, fun _ => ?_⟩)
  · exact am_goX 1 (show xw_S Q 100 (xw_4 3 i t) [.int (Int32.ofInt 0), .int (nI (t - 1)), .ref 169] (xw_h h g) from st _)
  · exact am_goX 2 (show xw_S Q 100 (xw_4 3 i t) [.int (Int32.ofInt 1), .int (nI (t - 1)), .ref 169] (xw_h h g) from st _)
theorem xw_m1 {n : Nat} (hn : 1 ≤ n) : nI n + Int32.ofInt (-1) = nI (n - 1) := by
  obtain ⟨q, rfl⟩ : ∃ q, n = q + 1 := ⟨n - 1, by omega⟩
  exact pk_m1 q
theorem xw_two {N : Int} (hW : ag_WH ag_DD N h) (hN : N ≤ 1000) (hob : xw_ob h) (ht : t < 1100) (h2 : 2 ≤ t) {q : Nat} (hq1 : 4 ≤ q) (hq2 : q ≤ 10) (hc : c = nI q) (k : ∀ x, xw_S Q 4 [(3, .int (nI (i + 1))), (2, .int (nI (t - 1))), (4, .int c), (0, .ref 154), (1, .int 0)] [] (xw_h h (upd g (t - 1 - 1) x))) : xw_S Q 21 (xw_4 c i t) [] (xw_h h g) := by
  have s154 := (xw_sh hob.1 g (o := 154) (e := (11, 0)) (by decide +kernel)).1
  have s169 := xw_sh hob.1 g (o := 169) (e := (13, 1100)) (by decide +kernel)
  have ne : ∀ z, z < 4 → ¬ c = nI z := fun z hz e => by
    rw [hc, nI_eq (by omega) (by omega)] at e
    omega
  refine am_goX 3 (show (c = Int32.ofInt 1 → xw_S Q 33 (xw_4 c i t) [] (xw_h h g)) ∧ (¬ c = Int32.ofInt 1 → xw_S Q 27 (xw_4 c i t) [] (xw_h h g)) from ⟨fun z => absurd z (ne 1 (by decide)), fun _ => ?_⟩)
  refine am_goX 3 (show (¬ c = Int32.ofInt 2 → xw_S Q 71 (xw_4 c i t) [] (xw_h h g)) ∧ (¬ ¬ c = Int32.ofInt 2 → xw_S Q 33 (xw_4 c i t) [] (xw_h h g)) from ⟨fun _ => ?_, fun z => absurd (ne 2 (by decide)) z⟩)
  refine am_goX 3 (show (¬ c = Int32.ofInt 3 → xw_S Q 104 (xw_4 c i t) [] (xw_h h g)) ∧ (¬ ¬ c = Int32.ofInt 3 → xw_S Q 77 (xw_4 c i t) [] (xw_h h g)) from ⟨fun _ => ?_, fun z => absurd (ne 3 (by decide)) z⟩)
  refine am_goX 1 (show 2 < 5 ∧ xw_S Q 107 [(2, .int (nI t + Int32.ofInt (-1))), (4, .int c), (3, .int (nI i)), (0, .ref 154), (1, .int 0)] [] (xw_h h g) from ⟨by decide, ?_⟩)
  rw [xw_m1 (by omega)]
  refine am_goX 2 (show am_sh (xw_h h g) 154 = some (11, 0) ∧ xw_S Q 111 [(2, .int (nI (t - 1))), (4, .int c), (3, .int (nI i)), (0, .ref 154), (1, .int 0)] [am_rf (h.2.2.1 154 23)] (xw_h h g) from ⟨s154, ?_⟩)
  rw [hob.2.2.2.2]
  refine am_goX 6 (show am_sh (xw_h h g) 154 = some (11, 0) ∧ xw_S Q 120 [(2, .int (nI (t - 1))), (4, .int c), (3, .int (nI i)), (0, .ref 154), (1, .int 0)] [am_rf (h.2.2.1 154 23), .int c, .int (nI (t - 1) - Int32.ofInt 1), .ref 169] (xw_h h g) from ⟨s154, ?_⟩)
  rw [hob.2.2.2.2, xw_s1 (by omega)]
  refine am_goX 4 (show ∃ j n : Nat, am_sh (xw_h h g) 169 = some (13, n) ∧ j < n ∧ nI (t - 1) - Int32.ofInt 1 = nI j ∧ xw_S Q 124 [(2, .int (nI (t - 1))), (4, .int c), (3, .int (nI i)), (0, .ref 154), (1, .int 0)] [.int ((xw_h h g).1 169 j), .int c, .int (nI (t - 1 - 1)), .ref 169] (xw_h h g) from ⟨t - 1 - 1, 1100, s169.1, by omega, xw_s1 (by omega), ?_⟩)
  refine am_goX 2 (show am_sh (xw_h h g) 154 = some (11, 0) ∧ xw_S Q 128 [(2, .int (nI (t - 1))), (4, .int c), (3, .int (nI i)), (0, .ref 154), (1, .int 0)] [am_rf (h.2.2.1 154 23), .int ((xw_h h g).1 169 (t - 1 - 1)), .int c, .int (nI (t - 1 - 1)), .ref 169] (xw_h h g) from ⟨s154, ?_⟩)
  rw [hob.2.2.2.2]
  refine am_goX 2 (show ∃ j n : Nat, am_sh (xw_h h g) 169 = some (13, n) ∧ j < n ∧ nI (t - 1) = nI j ∧ xw_S Q 130 [(2, .int (nI (t - 1))), (4, .int c), (3, .int (nI i)), (0, .ref 154), (1, .int 0)] [.int ((xw_h h g).1 169 j), .int ((xw_h h g).1 169 (t - 1 - 1)), .int c, .int (nI (t - 1 - 1)), .ref 169] (xw_h h g) from ⟨t - 1, 1100, s169.1, by omega, rfl, ?_⟩)
  refine am_goX 1 (show 1 + (1 + 0) ≤ 8 ∧ (xw_h h g).2.2.2.2 + am_al 237 ≤ 175 ∧ am_call am_cod 2 237 [.int c, .int ((xw_h h g).1 169 (t - 1 - 1)), .int ((xw_h h g).1 169 (t - 1))] (xw_h h g) (fun v h' => xw_S Q 133 [(2, .int (nI (t - 1))), (4, .int c), (3, .int (nI i)), (0, .ref 154), (1, .int 0)] (v.toList ++ [.int (nI (t - 1 - 1)), .ref 169]) h') from ⟨by decide, by show h.2.2.2.2 + am_al 237 ≤ 175; rw [hob.1]; decide, ?_⟩)
  refine xw_both (xw_WH hW g) hN _ _ _ (fun x => ?_)
  refine am_goX 1 (show ∃ j n : Nat, am_so (xw_h h g) 169 = some (13, n) ∧ j < n ∧ nI (t - 1 - 1) = nI j ∧ xw_S Q 134 [(2, .int (nI (t - 1))), (4, .int c), (3, .int (nI i)), (0, .ref 154), (1, .int 0)] [] (am_wI (xw_h h g) 169 j x) from ⟨t - 1 - 1, 1100, s169.2, by omega, rfl, ?_⟩)
  rw [xw_h_w]
  exact xw_nx _ rfl (k x)
theorem xw_dep {m : Nat} {dep : Nat → Nat} (d0 : dep 0 = 0) (hd : ∀ i, i < m → xw_st h dep i) : ∀ i, i ≤ m → dep i ≤ i
  | 0, _ => by rw [d0]; exact Nat.le_refl _
  | i + 1, hi => by
    have ih := xw_dep d0 hd i (by omega)
    rcases hd i (by omega) with ⟨-, e⟩ | ⟨-, -, e⟩ | ⟨-, -, e⟩ | ⟨-, -, e⟩ <;> omega
theorem xw_upd {j : Nat} {x : Int32} (hg : ∀ k, 1100 ≤ k → g k = h.1 169 k) (hj : j < 1100) : ∀ k, 1100 ≤ k → upd g j x k = h.1 169 k := by
  intro k hk
  have e : upd g j x k = g k := by
    have : ¬ k = j := by omega
    simp [upd, this]
  rw [e]
  exact hg k hk
theorem xw_loop {N : Int} (hW : ag_WH ag_DD N h) (hN : N ≤ 1000) (hob : xw_ob h) {m : Nat} (hm : m < 1100) (h0 : h.1 161 m = 0) {dep : Nat → Nat} (d0 : dep 0 = 0) (hd : ∀ i, i < m → xw_st h dep i) (hQ : ∀ g : Nat → Int32, (∀ k, 1100 ≤ k → g k = h.1 169 k) → Q (some (.int (g 0))) (xw_h h g)) :
    ∀ (k i : Nat), i + k = m → ∀ (g : Nat → Int32) (lv : am_V), (∀ k, 1100 ≤ k → g k = h.1 169 k) → xw_lv i (dep i) lv → xw_S Q 4 lv [] (xw_h h g) := by
  intro k
  induction k with
  | zero =>
    intro i hi g lv hg hlv
    have e : i = m := by omega
    subst e
    exact xw_pre hob hm h0 hlv (fun _ => xw_end hob hlv (hQ g hg)) (fun z => absurd rfl z)
  | succ k ih =>
    intro i hi g lv hg hlv
    have hdi := xw_dep d0 hd i (by omega)
    rcases hd i (by omega) with ⟨e1, e2⟩ | ⟨e1, ⟨a, ha, e3⟩, e2⟩ | ⟨e1, e3, e2⟩ | ⟨⟨q, hq1, hq2, e1⟩, e3, e2⟩
    · refine xw_pre hob (by omega) e1 hlv (fun z => absurd z (by decide)) (fun _ => xw_num hob (by omega) (by omega) rfl (fun x => ih (i + 1) (by omega) _ _ (xw_upd hg (by omega)) ?_))
      rw [e2]
      exact Or.inr (Or.inl ⟨_, rfl⟩)
    · refine xw_pre hob (by omega) e1 hlv (fun z => absurd z (by decide)) (fun _ => xw_fact hob (by omega) (by omega) rfl ha e3 (fun x => ih (i + 1) (by omega) _ _ (xw_upd hg (by omega)) ?_))
      rw [e2]
      exact Or.inr (Or.inl ⟨_, rfl⟩)
    · refine xw_pre hob (by omega) e1 hlv (fun z => absurd z (by decide)) (fun _ => xw_not hob (by omega) e3 rfl (fun x => ih (i + 1) (by omega) _ _ (xw_upd hg (by omega)) ?_))
      rw [e2]
      exact Or.inr (Or.inr ⟨_, rfl⟩)
    · refine xw_pre hob (by omega) e1 hlv (fun z => ?_) (fun _ => xw_two hW hN hob (by omega) e3 hq1 hq2 rfl (fun x => ih (i + 1) (by omega) _ _ (xw_upd hg (by omega)) ?_))
      · have z : nI q = nI 0 := z
        rw [nI_eq (by omega) (by omega)] at z
        omega
      · have e4 : dep (i + 1) = dep i - 1 := by omega
        rw [e4]
        exact Or.inr (Or.inl ⟨_, rfl⟩)
theorem xw_refs : ag_lk ag_reft 154 11 = some 161 ∧ ag_lk ag_reft 154 12 = some 162 ∧ ag_lk ag_reft 154 22 = some 168 ∧ ag_lk ag_reft 154 23 = some 169 := by decide +kernel
theorem xw_cod : am_cod 236 = am_find am_r236 := by
  funext pc
  rfl
theorem xw_fr (g : Nat → Int32) (hg : ∀ k, 1100 ≤ k → g k = h.1 169 k) : ag_fr [(169, 0, 1099)] h (xw_h h g) := by
  refine ⟨rfl, fun o k hk => ⟨?_, rfl, rfl⟩⟩
  by_cases ho : o = 169
  · subst ho
    rw [xw_h_p]
    refine hg k ?_
    rcases Nat.lt_or_ge k 1100 with z | z
    · have : ag_atM [(169, 0, 1099)] 169 k = true := by
        show (((Nat.beq 169 169) && (Nat.ble 0 k && Nat.ble k 1099)) || false) = true
        rw [Nat.ble_eq_true_of_le (show k ≤ 1099 by omega)]
        simp
      rw [this] at hk
      cases hk
    · exact z
  · exact xw_h_o h g ho k
/-- worthAt's contract -/
theorem xw_ok : ag_ok ag_DD xw_X ag_Cworth := by
  intro T hT ρ args h hW hX hTS hlen hal
  rcases List.mem_cons.mp hT with e | e
  · subst e
    have e1 : ρ 3 = 0 := by
      have q := hTS.1 3 (0, 0) rfl
      have q1 : (0 : Int) ≤ ρ 3 := q.1
      have q2 : ρ 3 ≤ 0 := q.2
      omega
    have hN : ρ 0 ≤ 1000 := (hTS.1 0 (0, 1000) rfl).2
    have l0 : am_lk (lv_args 0 args) 0 = some (.ref 154) := hTS.2.2.1 (0, .ref 154) List.mem_cons_self
    have l1 : am_lk (lv_args 0 args) 1 = some (.int (Int32.ofInt (ag_ev ρ ([(3, 1)], 0)))) := hTS.2.2.1 (1, _) (List.mem_cons_of_mem _ List.mem_cons_self)
    have e2 : Int32.ofInt (ag_ev ρ ([(3, 1)], 0)) = 0 := by
      rw [show ag_ev ρ ([(3, 1)], 0) = ρ 3 from ag_ev_y 3, e1]
      rfl
    rw [e2] at l1
    match args, hal, l0, l1 with
    | [a0, a1], _, l0, l1 =>
      have h0 : a0 = .ref 154 := Option.some.inj l0
      subst h0
      have h1 : a1 = .int 0 := Option.some.inj l1
      subst h1
      have hob : xw_ob h := ⟨hW.1, hW.2.1.2.2 154 11 161 xw_refs.1, hW.2.1.2.2 154 12 162 xw_refs.2.1, hW.2.1.2.2 154 22 168 xw_refs.2.2.1, hW.2.1.2.2 154 23 169 xw_refs.2.2.2⟩
      refine Or.inr ⟨show 2 ≤ am_nL 236 by decide +kernel, ?_⟩
      show am_W (am_call am_cod 2) (am_nL 236) (h.2.2.2.2 + am_al 236) (am_rt 236) (am_cod 236) (fun v h' => h'.2.2.2.2 = h.2.2.2.2 + am_al 236 ∧ ag_WH ag_DD (ρ 0) h' ∧ ag_fr ag_Cworth.2.2.2.2 h h' ∧ ∃ P ∈ ag_Cworth.2.2.2.1, ∃ τ : Nat → Int, (∀ j, j < 3 → τ j = ρ j) ∧ ag_TS P τ (ag_rv v) h' ∧ v.isSome = (ag_lv P.2.2.1 1000).isSome) 0 [(0, .ref 154), (1, .int 0)] [] h
      rw [xw_cod]
      have e5 : h.2.2.2.2 + am_al 236 = 175 := by rw [hW.1]; decide
      rw [e5]
      have e3 : ρ 4 = 0 := by
        have q := hTS.1 4 (0, 0) rfl
        have q1 : (0 : Int) ≤ ρ 4 := q.1
        have q2 : ρ 4 ≤ 0 := q.2
        omega
      have e6 : h.1 160 3 = 0 := by
        have q : h.1 160 3 = Int32.ofInt (ag_ev ρ ([(4, 1)], 0)) := hTS.2.2.2.1 (160, 3, ([(4, 1)], 0)) List.mem_cons_self
        rw [q, show ag_ev ρ ([(4, 1)], 0) = ρ 4 from ag_ev_y 4, e3]
        rfl
      rcases hX with hX | ⟨-, m, hm, h0, dep, d0, hd⟩
      · rw [e6] at hX
        exact absurd hX (by decide)
      · have key := xw_loop (Q := fun v h' => h'.2.2.2.2 = 175 ∧ ag_WH ag_DD (ρ 0) h' ∧ ag_fr ag_Cworth.2.2.2.2 h h' ∧ ∃ P ∈ ag_Cworth.2.2.2.1, ∃ τ : Nat → Int, (∀ j, j < 3 → τ j = ρ j) ∧ ag_TS P τ (ag_rv v) h' ∧ v.isSome = (ag_lv P.2.2.1 1000).isSome) hW hN hob hm h0 d0 hd ?_ m 0 (by omega) (h.1 169) [(3, .int (nI 0)), (2, .int (nI 0)), (0, .ref 154), (1, .int 0)] (fun _ _ => rfl) (by rw [d0]; exact Or.inl rfl)
        · rw [xw_h_id] at key
          exact am_goX 4 (show 2 < 5 ∧ 3 < 5 ∧ xw_S _ 4 [(3, .int 0), (2, .int (Int32.ofInt 0)), (0, .ref 154), (1, .int 0)] [] h from ⟨by decide, by decide, key⟩)
        · intro g hg
          refine ⟨hW.1, xw_WH hW g, xw_fr g hg, _, List.mem_cons_self, (fun j => match j with
            | 0 => ρ 0
            | 1 => ρ 1
            | 2 => ρ 2
            | 3 => (g 0).toInt
            | _ => 0), (fun j hj => by match j, hj with
              | 0, _ => rfl
              | 1, _ => rfl
              | 2, _ => rfl
              | j + 3, hj => exact absurd hj (by omega)), ?_, rfl⟩
          refine ⟨fun i q hq => ?_, fun j hj => ?_, fun q hq => ?_, fun q hq => absurd hq List.not_mem_nil, fun q hq => absurd hq List.not_mem_nil, fun q hq => absurd hq List.not_mem_nil, fun q hq => absurd hq List.not_mem_nil, fun q hq => absurd hq List.not_mem_nil⟩
          · match i, hq with
            | 0, hq => cases hq; exact ⟨hW.2.2.1, hN⟩
            | 1, hq => cases hq; exact hTS.1 1 _ rfl
            | 2, hq => cases hq; exact hTS.1 2 _ rfl
            | 3, hq => cases hq; exact ag_i32r (g 0)
            | i + 4, hq => cases hq
          · match j, hj with
            | 0, hj => exact absurd hj (by decide)
            | 1, hj => exact absurd hj (by decide)
            | 2, hj => exact absurd hj (by decide)
            | 3, hj => exact absurd hj (by decide)
            | j + 4, _ => rfl
          · have hq : q ∈ [((1000 : Nat), Value.int (Int32.ofInt (1 * (g 0).toInt + 0 + 0)))] := hq
            simp only [Int.one_mul, Int.add_zero, Int32.ofInt_toInt] at hq
            rcases List.mem_cons.mp hq with e | e
            · rw [e]; rfl
            · exact absurd e List.not_mem_nil
  · exact absurd e List.not_mem_nil
