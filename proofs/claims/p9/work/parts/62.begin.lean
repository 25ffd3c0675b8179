/-! THE START KEEPS ALL THAT THE SECOND CHECKER ASKS FOR -/
theorem iv_seg : (List.range 175).all (fun o => (ag_sg o).all (fun s => (decide (s.2.2.2.2.1 ≤ 0) && decide (0 ≤ s.2.2.2.2.2)) && (!(Nat.beq o 0) && ((!(Nat.beq o 160) || !(Nat.ble s.1 3 && Nat.ble 3 s.2.1)) || decide (s.2.2.2.2.1 ≤ -1))))) = true := by decide +kernel
theorem iv_ref : ag_reft.all (fun q => Nat.blt q.1 175 && decide (ae_lk ae_H0.2.1 q.1 q.2.1 none = some q.2.2)) = true := by decide +kernel
theorem iv_sgl : ag_sgl.length = 175 := by decide +kernel
variable {ρ : Nat → Int32} {h : am_H}
theorem iv_int (hR : ae_R ρ 0 ae_H0 h) {o k : Nat} (ho : o < 175) : (h.1 o k = 0 ∧ ¬ (o = 0 ∧ k = 13) ∧ ¬ (o = 160 ∧ k = 3)) ∨ (o = 0 ∧ k = 13 ∧ h.1 o k = 31) ∨ (o = 160 ∧ k = 3 ∧ h.1 o k = -1) := by
  have q := hR.2.2.2.1 o k ⟨Nat.zero_le _, ho⟩
  have e : ae_lk ae_H0.1 o k (.inl 0) = if 0 = o ∧ 13 = k then .inl 31 else if 160 = o ∧ 3 = k then .inl (-1) else .inl 0 := by
    show (bif Nat.beq 13 k && Nat.beq 0 o then (.inl 31 : Int ⊕ Nat) else bif Nat.beq 3 k && Nat.beq 160 o then .inl (-1) else .inl 0) = _
    rw [ae_b2, ae_b2, ae_cond, ae_cond]
  rw [e] at q
  by_cases h1 : 0 = o ∧ 13 = k
  · rw [if_pos h1] at q
    exact Or.inr (Or.inl ⟨h1.1.symm, h1.2.symm, q⟩)
  · rw [if_neg h1] at q
    by_cases h2 : 160 = o ∧ 3 = k
    · rw [if_pos h2] at q
      exact Or.inr (Or.inr ⟨h2.1.symm, h2.2.symm, q⟩)
    · rw [if_neg h2] at q
      exact Or.inl ⟨q, fun z => h1 ⟨z.1.symm, z.2.symm⟩, fun z => h2 ⟨z.1.symm, z.2.symm⟩⟩
theorem iv_WH (hR : ae_R ρ 0 ae_H0 h) : ag_WH ag_DD 0 h := by
  refine ⟨hR.1, ⟨fun o s hs k => ?_, fun o k => ag_i64r _, fun o k r hr => ?_⟩, Int.le_refl _, ?_⟩
  · have hs : s ∈ ag_sgl.getD o [] := hs
    have ho : o < 175 := by
      rcases Nat.lt_or_ge o 175 with z | z
      · exact z
      · rw [List.getD_eq_getElem?_getD, List.getElem?_eq_none (by rw [iv_sgl]; exact z)] at hs
        exact absurd hs List.not_mem_nil
    have w := List.all_eq_true.mp (List.all_eq_true.mp iv_seg o (List.mem_range.mpr ho)) s hs
    rw [Bool.and_eq_true, Bool.and_eq_true, Bool.and_eq_true, decide_eq_true_eq, decide_eq_true_eq] at w
    obtain ⟨⟨w1, w2⟩, w3, w4⟩ := w
    intro k1 k2 k3
    rcases iv_int (k := k) hR ho with ⟨e, -, -⟩ | ⟨e1, -, -⟩ | ⟨e1, e2, e⟩
    · rw [e]
      exact ⟨w1, w2⟩
    · rw [e1] at w3
      exact absurd w3 (by decide)
    · rw [e]
      subst e1
      subst e2
      rcases Bool.or_eq_true_iff.mp w4 with z | z
      · rcases Bool.or_eq_true_iff.mp z with z | z
        · exact absurd z (by decide)
        · rw [Nat.ble_eq_true_of_le k1, Nat.ble_eq_true_of_le k2] at z
          exact absurd z (by decide)
      · exact ⟨of_decide_eq_true z, Int.le_trans (by decide) w2⟩
  · have m := ag_lk_mem hr
    have w := List.all_eq_true.mp iv_ref _ m
    rw [Bool.and_eq_true, decide_eq_true_eq] at w
    have q := hR.2.2.2.2.1 o k ⟨Nat.zero_le _, ae_blt w.1⟩
    rw [q]
    exact w.2
  · show h.1 156 (0 : Int).toNat = 0
    rcases iv_int (k := 0) hR (o := 156) (by decide) with ⟨e, -, -⟩ | ⟨e, -, -⟩ | ⟨e, -, -⟩
    · exact e
    · exact absurd e (by decide)
    · exact absurd e (by decide)
theorem iv_X (hR : ae_R ρ 0 ae_H0 h) : xw_X h := by
  rcases iv_int (k := 3) hR (o := 160) (by decide) with ⟨-, -, e⟩ | ⟨e, -, -⟩ | ⟨-, -, e⟩
  · exact absurd ⟨rfl, rfl⟩ e
  · exact absurd e (by decide)
  · exact Or.inl e
/-- which canton is told, which week: two ways each -/
def iv_cfg (a b : Nat) (h : am_H) : Prop := h.2.2.1 0 3 = some a ∧ h.2.2.1 0 4 = some (23 - a) ∧ h.2.2.1 0 5 = some b ∧ h.2.2.1 0 6 = some (60 - b)
theorem iv_c0 (hR : ae_R ρ 0 ae_H0 h) : iv_cfg 6 28 h := by
  have q := fun k => hR.2.2.2.2.1 0 k ⟨Nat.zero_le _, (by decide : 0 < 175)⟩
  exact ⟨(q 3).trans (by decide), (q 4).trans (by decide), (q 5).trans (by decide), (q 6).trans (by decide)⟩
/-- what holds between two calls -/
def iv_I (h : am_H) : Prop := ∃ N : Int, N ≤ 1000 ∧ ag_WH ag_DD N h ∧ xw_X h ∧ (h.1 154 7).toInt ≤ N ∧ ((iv_cfg 6 28 h ∨ iv_cfg 6 32 h) ∨ (iv_cfg 17 28 h ∨ iv_cfg 17 32 h))
theorem iv_start (hR : ae_R ρ 0 ae_H0 h) : iv_I h := by
  refine ⟨0, by decide, iv_WH hR, iv_X hR, ?_, Or.inl (Or.inl (iv_c0 hR))⟩
  rcases iv_int (k := 7) hR (o := 154) (by decide) with ⟨e, -, -⟩ | ⟨e, -, -⟩ | ⟨e, -, -⟩
  · rw [e]; decide
  · exact absurd e (by decide)
  · exact absurd e (by decide)
