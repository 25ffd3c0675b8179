/-! rests OF BOTH: the same answer, the same throw, in any state -/
theorem iv_wL {h : am_H} (hI : iv_I h) (x : Int64) : iv_I (am_wL h 174 0 x) := by
  obtain ⟨N, hN, ⟨a, ⟨b1, b2, b3⟩, c, d⟩, hX, ha, hc⟩ := hI
  exact ⟨N, hN, ⟨a, ⟨b1, fun o k => ag_i64r _, b3⟩, c, d⟩, hX, ha, hc⟩
theorem rs_K01 : rs_bx.all (fun q => Nat.beq q.1 0 || Nat.beq q.1 1) = true := by decide +kernel
theorem rs_both (ys : Nat → Int32) : ∃ (K : Nat) (V : Int), (K = 0 ∨ K = 1) ∧
    (∀ h, iv_I h → am_X (am_call am_cod 9) 9 175 (some .int) (am_find am_r168) (fun pc _ st h' => K = 1 ∧ (pc = 30 ∨ pc = 144) ∧ st = [] ∧ h' = h) (fun v h' => K = 0 ∧ v = some (.int (Int32.ofInt V)) ∧ h' = h) 0 (lv_args 0 (rs_As ys)) [] h) ∧
    (∀ h, iv_I h → am_call am_cod 60 286 [.ref 154, .int (ys 1), .int (ys 2), .int (ys 3), .int (ys 4)] h (fun v h' => iv_I h' ∧ ag_fr [(154, 0, 0)] h h' ∧ v = some (.int (Int32.ofInt V)) ∧ h'.1 154 0 = Int32.ofInt K)) := by
  obtain ⟨q, hq, hat⟩ := rs_cov ys
  have hK := List.all_eq_true.mp rs_K01 q hq
  refine ⟨q.1, q.2.1, ?_, fun h hI => rc_run hq hat hI, fun h hI => rq_call hq hat hI⟩
  rcases Bool.or_eq_true_iff.mp hK with z | z
  · exact Or.inl (Nat.eq_of_beq_eq_true z)
  · exact Or.inr (Nat.eq_of_beq_eq_true z)
/-- what the reference's calls leave alone: the answer that the class gave -/
theorem rs_keepL {h h' : am_H} (hf : ag_fr [(154, 0, 0)] h h') : h'.2.1 174 0 = h.2.1 174 0 := (hf.2 174 0 (by decide)).2.1
