/-! thrown of the reference: its fault is told -/
theorem th_cod : am_cod 176 = am_find am_r176 := by
  funext pc
  rfl
def th_S (Q : am_Q) : Nat → am_V → List Value → am_H → Prop := am_X (am_call am_cod 0) 1 175 (am_rt 176) (am_find am_r176) (fun _ _ _ _ => False) Q
theorem th_call {h : am_H} (hI : iv_I h) : am_call am_cod 60 176 [.ref 154] h (fun v h' => h' = h ∧ v = some (.int (h.1 154 0))) := by
  obtain ⟨N, hN, hW, hX, ha, hc⟩ := hI
  have hcnt : h.2.2.2.2 = 175 := hW.1
  have s154 : am_sh h 154 = some (11, 0) := (ag_so_ok (D := ag_DD) (h := h) (o := 154) (e := (11, 0)) ag_DD_sh hcnt (by decide +kernel)).2
  refine am_call.up (d := 1) (Or.inr ⟨show 1 ≤ am_nL 176 by decide +kernel, ?_⟩) (by decide)
  rw [th_cod]
  have e5 : h.2.2.2.2 + am_al 176 = 175 := by rw [hcnt]; decide
  rw [e5]
  refine am_goX 2 (show am_sh h 154 = some (11, 0) ∧ th_S _ 4 [(0, .ref 154)] [.int (h.1 154 0)] h from ⟨s154, ?_⟩)
  exact am_goX 1 (show (∃ ty, am_rt 176 = some ty ∧ narrow ty (.int (h.1 154 0)) = .int (h.1 154 0)) ∧ (h.2.2.2.2 = 175 ∧ h = h ∧ some (Value.int (h.1 154 0)) = some (.int (h.1 154 0))) from ⟨⟨.int, by rfl, rfl⟩, hcnt, rfl, rfl⟩)
