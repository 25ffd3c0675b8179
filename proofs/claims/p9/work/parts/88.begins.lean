/-! begins, BY THE SECOND CHECKER -/
/- MistCantonModel.onsAsTold -/
def ag_I600 : ag_I := ((182, 2, [([(0, 1000), ((-1100), 1000), (0, 24)], [], [(0, .inr (.inr 154))], ([], [], [], [], []))], [([(0, 1000), ((-1100), 1000), (0, 24)], [], [], ([], [], [], [], []))], [(172, 0, 4)]), [(2, ([(0, 1000), ((-1100), 1000), (0, 24), (0, 5)], [(0, 1, 0)], [(0, .inr (.inr 154)), (1, .inl ([(3, 1)], 0))], ([], [], [], [], [])), ([(3, -1)], 16769029))], [], 3000)
theorem ag_K600 : ag_chk ag_DD [] ag_I600 = true := by decide +kernel
theorem ag_O600 {Xp : am_H → Prop} (hX : ag_Xk Xp) (hw : ag_ok ag_DD Xp ag_Cworth) : ag_ok ag_DD Xp ag_I600.1 := ag_chk_ok ag_DD_sh ag_DD_lg hX (fun _ h => absurd h List.not_mem_nil) ag_K600
/- MistCantonModel.starts -/
def ag_I601 : ag_I := ((185, 2, [([(0, 1000), ((-1100), 1000), (0, 24), (0, 0)], [(0, 1, 0)], [(0, .inr (.inr 154)), (1, .inl ([(3, 1)], 0))], ([], [], [], [], []))], [([(0, 1000), ((-1100), 1000), (0, 24)], [], [], ([], [], [], [], []))], [(170, 0, 23)]), [(2, ([(0, 1000), ((-1100), 1000), (0, 24), (0, 0), (0, 27)], [(0, 1, 0), (0, 2, 0)], [(0, .inr (.inr 154)), (1, .inl ([(3, 1)], 0)), (2, .inl ([(4, 1)], 0))], ([], [], [], [], [])), ([(4, -1)], 16769051)),
  (25, ([(0, 1000), ((-1100), 1000), (0, 24), (0, 0), (0, 6)], [(0, 1, 0), (0, 2, 0)], [(0, .inr (.inr 154)), (1, .inl ([(3, 1)], 0)), (2, .inl ([(4, 1)], 0))], ([], [], [], [], [])), ([(4, -1)], 16764934))], [], 3000)
theorem ag_K601 : ag_chk ag_DD [] ag_I601 = true := by decide +kernel
theorem ag_O601 {Xp : am_H → Prop} (hX : ag_Xk Xp) (hw : ag_ok ag_DD Xp ag_Cworth) : ag_ok ag_DD Xp ag_I601.1 := ag_chk_ok ag_DD_sh ag_DD_lg hX (fun _ h => absurd h List.not_mem_nil) ag_K601
/- MistCantonModel.begins -/
def ag_I602 : ag_I := ((181, 3, [([(0, 1000), ((-1100), 1000), (0, 24)], [], [(0, .inr (.inr 154))], ([], [], [], [], []))], [([(0, 1000), ((-1100), 1000), (0, 24)], [], [], ([], [], [], [], []))], [(154, 25, 25), (167, 0, 0), (170, 0, 24), (171, 0, 3), (172, 0, 4)]), [(31, ([(0, 1000), ((-1100), 1000), (0, 24), (0, 4), (0, 0)], [(0, 1, 0), (1, 154, 25)], [(0, .inr (.inr 154)), (1, .inl ([(3, 1)], 0))], ([(154, 25, ([(4, 1)], 0))], [], [], [], [])), ([(3, -1)], 16769028))], [], 3000)
theorem ag_K602 : ag_chk ag_DD [ag_I600.1, ag_I601.1] ag_I602 = true := by decide +kernel
theorem ag_O602 {Xp : am_H → Prop} (hX : ag_Xk Xp) (hw : ag_ok ag_DD Xp ag_Cworth) : ag_ok ag_DD Xp ag_I602.1 := ag_chk_ok ag_DD_sh ag_DD_lg hX (List.forall_mem_cons.mpr ⟨ag_O600 hX hw, List.forall_mem_cons.mpr ⟨ag_O601 hX hw, fun _ h => absurd h List.not_mem_nil⟩⟩) ag_K602
theorem pb_M : ag_Mok ag_I602.1.2.2.2.2 = true ∧ ag_Msb ag_I602.1.2.2.2.2 [(154, 25, 25), (167, 0, 0), (170, 0, 24), (171, 0, 3), (172, 0, 4)] = true := by decide +kernel
theorem pb_call {Q : am_Q} {N a c : Nat} {h : am_H} (hP : pz_P N a c h) (hQ : ∀ h', pz_P N a c h' → ag_fr [(154, 25, 25), (167, 0, 0), (170, 0, 24), (171, 0, 3), (172, 0, 4)] h h' → Q none h') : am_call am_cod 3 181 [.ref 154] h Q := by
  have hok := ag_O602 xw_Xk xw_ok
  have e1 : ag_I602.1.2.2.1 = [iv_std 154 [] []] := rfl
  have hT : iv_std 154 [] [] ∈ ag_I602.1.2.2.1 := by rw [e1]; exact List.mem_cons_self
  refine am_call.mono (fun v h' q => ?_) (hok _ hT (iv_rho N []) [.ref 154] h hP.1 hP.2.1 (iv_TS (ks := []) (vs := []) hP.1.2.2.1 (by have := hP.2.2.1; omega) trivial (fun q hq => absurd hq List.not_mem_nil)) (Nat.le_of_ble_eq_true (by decide +kernel)) rfl)
  obtain ⟨q1, q2, P, hP9, τ, -, -, q5⟩ := q
  have hv : v = none := by
    have e2 : ag_I602.1.2.2.2.1.all (fun P => !(ag_lv P.2.2.1 1000).isSome) = true := by decide +kernel
    have e3 := List.all_eq_true.mp e2 P hP9
    rw [← q5] at e3
    cases v with
    | none => rfl
    | some x => cases e3
  subst hv
  have f : ag_fr [(154, 25, 25), (167, 0, 0), (170, 0, 24), (171, 0, 3), (172, 0, 4)] h h' := (ag_fr.refl h).trans pb_M.2 q2
  obtain ⟨p1, p2, p3, p4, p5, p6, p7⟩ := hP
  refine hQ h' ⟨q1, xw_Xk h h' (fun o k hk => (q2.2 o k (ag_Mok_at pb_M.1 hk)).1) p2, p3, ((f.2 154 7 (by decide)).1).trans p4, p5, ((f.2 154 13 (by decide)).1).trans p6, p7⟩ f
