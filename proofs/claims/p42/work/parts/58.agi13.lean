/-! INSTANCES OF THE SECOND CHECKER -/
/- MistCantonModel.copies -/
def ag_I509 : ag_I := ((232, 1, [([(0, 1000), (0, 0), (98, 98), (49, 49)], [(0, 1, 0), (0, 2, 0), (0, 3, 0)], [(0, .inr (.inr 154)), (1, .inl ([(1, 1)], 0)), (2, .inl ([(2, 1)], 0)), (3, .inl ([(3, 1)], 0))], ([], [], [], []))], [([(0, 1000)], [], [], ([], [], [], []))], [(170, 98, 146)]), [], [], 3000)
theorem ag_K509 : ag_chk ag_DD [] ag_I509 = true := by decide +kernel
theorem ag_O509 {Xp : am_H → Prop} (hX : ag_Xk Xp) (hw : ag_ok ag_DD Xp ag_Cworth) : ag_ok ag_DD Xp ag_I509.1 := ag_chk_ok ag_DD_sh ag_DD_lg hX (fun _ h => absurd h List.not_mem_nil) ag_K509
/- MistCantonModel.copies -/
def ag_I510 : ag_I := ((232, 1, [([(0, 1000), (49, 49), (0, 0), (49, 49)], [(0, 1, 0), (0, 2, 0), (0, 3, 0)], [(0, .inr (.inr 154)), (1, .inl ([(1, 1)], 0)), (2, .inl ([(2, 1)], 0)), (3, .inl ([(3, 1)], 0))], ([], [], [], []))], [([(0, 1000)], [], [], ([], [], [], []))], [(170, 0, 48)]), [], [], 3000)
theorem ag_K510 : ag_chk ag_DD [] ag_I510 = true := by decide +kernel
theorem ag_O510 {Xp : am_H → Prop} (hX : ag_Xk Xp) (hw : ag_ok ag_DD Xp ag_Cworth) : ag_ok ag_DD Xp ag_I510.1 := ag_chk_ok ag_DD_sh ag_DD_lg hX (fun _ h => absurd h List.not_mem_nil) ag_K510
/- MistCantonModel.copies -/
def ag_I511 : ag_I := ((232, 1, [([(0, 1000), (196, 196), (0, 0), (49, 49)], [(0, 1, 0), (0, 2, 0), (0, 3, 0)], [(0, .inr (.inr 154)), (1, .inl ([(1, 1)], 0)), (2, .inl ([(2, 1)], 0)), (3, .inl ([(3, 1)], 0))], ([], [], [], []))], [([(0, 1000)], [], [], ([], [], [], []))], [(170, 0, 48)]), [], [], 3000)
theorem ag_K511 : ag_chk ag_DD [] ag_I511 = true := by decide +kernel
theorem ag_O511 {Xp : am_H → Prop} (hX : ag_Xk Xp) (hw : ag_ok ag_DD Xp ag_Cworth) : ag_ok ag_DD Xp ag_I511.1 := ag_chk_ok ag_DD_sh ag_DD_lg hX (fun _ h => absurd h List.not_mem_nil) ag_K511
/- MistCantonModel.copies -/
def ag_I512 : ag_I := ((232, 1, [([(0, 1000), (147, 147), (0, 0), (49, 49)], [(0, 1, 0), (0, 2, 0), (0, 3, 0)], [(0, .inr (.inr 154)), (1, .inl ([(1, 1)], 0)), (2, .inl ([(2, 1)], 0)), (3, .inl ([(3, 1)], 0))], ([], [], [], []))], [([(0, 1000)], [], [], ([], [], [], []))], [(170, 0, 48)]), [], [], 3000)
theorem ag_K512 : ag_chk ag_DD [] ag_I512 = true := by decide +kernel
theorem ag_O512 {Xp : am_H → Prop} (hX : ag_Xk Xp) (hw : ag_ok ag_DD Xp ag_Cworth) : ag_ok ag_DD Xp ag_I512.1 := ag_chk_ok ag_DD_sh ag_DD_lg hX (fun _ h => absurd h List.not_mem_nil) ag_K512
/- MistCantonModel.copies -/
def ag_I513 : ag_I := ((232, 1, [([(0, 1000), (98, 98), (0, 0), (49, 49)], [(0, 1, 0), (0, 2, 0), (0, 3, 0)], [(0, .inr (.inr 154)), (1, .inl ([(1, 1)], 0)), (2, .inl ([(2, 1)], 0)), (3, .inl ([(3, 1)], 0))], ([], [], [], []))], [([(0, 1000)], [], [], ([], [], [], []))], [(170, 0, 48)]), [], [], 3000)
theorem ag_K513 : ag_chk ag_DD [] ag_I513 = true := by decide +kernel
theorem ag_O513 {Xp : am_H → Prop} (hX : ag_Xk Xp) (hw : ag_ok ag_DD Xp ag_Cworth) : ag_ok ag_DD Xp ag_I513.1 := ag_chk_ok ag_DD_sh ag_DD_lg hX (fun _ h => absurd h List.not_mem_nil) ag_K513
/- MistCantonModel.mark -/
def ag_I514 : ag_I := ((291, 2, [([(0, 1000), ((-2147483648), 2147483647), (0, 1)], [(0, 1, 0), (0, 2, 0)], [(0, .inr (.inr 154)), (1, .inl ([(1, 1)], 0)), (2, .inl ([(2, 1)], 0))], ([], [], [], []))], [([(0, 1000), (0, 1)], [(0, 1000, 0)], [(1000, .inl ([(1, 1)], 0))], ([], [], [], []))], [(154, 0, 0), (154, 25, 25), (170, 0, 244), (171, 0, 3)]), [], [(29, 0, 1, 0)], 3000)
theorem ag_K514 : ag_chk ag_DD [ag_I506.1, ag_I507.1, ag_I508.1, ag_I509.1, ag_I510.1, ag_I511.1, ag_I512.1, ag_I513.1] ag_I514 = true := by decide +kernel
theorem ag_O514 {Xp : am_H → Prop} (hX : ag_Xk Xp) (hw : ag_ok ag_DD Xp ag_Cworth) : ag_ok ag_DD Xp ag_I514.1 := ag_chk_ok ag_DD_sh ag_DD_lg hX (List.forall_mem_cons.mpr ⟨ag_O506 hX hw, List.forall_mem_cons.mpr ⟨ag_O507 hX hw, List.forall_mem_cons.mpr ⟨ag_O508 hX hw, List.forall_mem_cons.mpr ⟨ag_O509 hX hw, List.forall_mem_cons.mpr ⟨ag_O510 hX hw, List.forall_mem_cons.mpr ⟨ag_O511 hX hw, List.forall_mem_cons.mpr ⟨ag_O512 hX hw, List.forall_mem_cons.mpr ⟨ag_O513 hX hw, fun _ h => absurd h List.not_mem_nil⟩⟩⟩⟩⟩⟩⟩⟩) ag_K514
/- MistCantonModel.pairsMet -/
def ag_I515 : ag_I := ((244, 2, [([(0, 1000), (0, 0)], [(0, 1, 0)], [(0, .inr (.inr 154)), (1, .inl ([(1, 1)], 0))], ([], [], [], []))], [([(0, 1000), ((-2147483648), 2147483647)], [(0, 1000, 0)], [(1000, .inl ([(1, 1)], 0))], ([], [], [], []))], []), [(4, ([(0, 1000), (0, 0), ((-2147483648), 2147483647), (0, 6)], [(0, 1, 0), (0, 2, 0), (0, 3, 0)], [(0, .inr (.inr 154)), (1, .inl ([(1, 1)], 0)), (2, .inl ([(2, 1)], 0)), (3, .inl ([(3, 1)], 0))], ([], [], [], [])), ([(3, -1)], 16769030))], [], 3000)
theorem ag_K515 : ag_chk ag_DD [ag_I433.1] ag_I515 = true := by decide +kernel
theorem ag_O515 {Xp : am_H → Prop} (hX : ag_Xk Xp) (hw : ag_ok ag_DD Xp ag_Cworth) : ag_ok ag_DD Xp ag_I515.1 := ag_chk_ok ag_DD_sh ag_DD_lg hX (List.forall_mem_cons.mpr ⟨ag_O433 hX hw, fun _ h => absurd h List.not_mem_nil⟩) ag_K515
/- MistCantonModel.count -/
def ag_I516 : ag_I := ((292, 3, [([(0, 1000), ((-2147483648), 2147483647)], [(0, 1, 0)], [(0, .inr (.inr 154)), (1, .inl ([(1, 1)], 0))], ([], [], [], []))], [([(0, 1000), ((-2147483648), 2147483647)], [(0, 1000, 0)], [(1000, .inl ([(1, 1)], 0))], ([], [], [], []))], [(154, 0, 0)]), [], [], 3000)
theorem ag_K516 : ag_chk ag_DD [ag_I504.1, ag_I515.1] ag_I516 = true := by decide +kernel
theorem ag_O516 {Xp : am_H → Prop} (hX : ag_Xk Xp) (hw : ag_ok ag_DD Xp ag_Cworth) : ag_ok ag_DD Xp ag_I516.1 := ag_chk_ok ag_DD_sh ag_DD_lg hX (List.forall_mem_cons.mpr ⟨ag_O504 hX hw, List.forall_mem_cons.mpr ⟨ag_O515 hX hw, fun _ h => absurd h List.not_mem_nil⟩⟩) ag_K516
/- MistCanton.group -/
def ag_I517 : ag_I := ((141, 3, [([(0, 1000), ((-2147483648), 2147483647)], [(0, 1, 0)], [(0, .inr (.inr 0)), (1, .inl ([(1, 1)], 0))], ([], [], [(0, 3, 6)], []))], [([(0, 1000), ((-2147483648), 2147483647)], [(0, 1000, 0)], [(1000, .inl ([(1, 1)], 0))], ([], [], [], []))], []), [(15, ([(0, 1000), (0, 4), ((-2147483648), 2147483647), ((-2), 3), (1, 5)], [(0, 1, 0), (0, 2, 0), (0, 3, 0), (1, 6, 4)], [(0, .inr (.inr 0)), (1, .inl ([(1, 1)], 0)), (2, .inl ([(2, 1)], 0)), (3, .inl ([(3, 1)], 0))], ([(6, 4, ([(4, 1)], 0))], [], [(0, 3, 6)], [])), ([(3, -1)], 16769027))], [], 3000)
theorem ag_K517 : ag_chk ag_DD [ag_I88.1, ag_I336.1] ag_I517 = true := by decide +kernel
theorem ag_O517 {Xp : am_H → Prop} (hX : ag_Xk Xp) (hw : ag_ok ag_DD Xp ag_Cworth) : ag_ok ag_DD Xp ag_I517.1 := ag_chk_ok ag_DD_sh ag_DD_lg hX (List.forall_mem_cons.mpr ⟨ag_O88 hX hw, List.forall_mem_cons.mpr ⟨ag_O336 hX hw, fun _ h => absurd h List.not_mem_nil⟩⟩) ag_K517
/- MistCanton.group -/
def ag_I518 : ag_I := ((141, 3, [([(0, 1000), ((-2147483648), 2147483647)], [(0, 1, 0)], [(0, .inr (.inr 0)), (1, .inl ([(1, 1)], 0))], ([], [], [(0, 3, 17)], []))], [([(0, 1000), ((-2147483648), 2147483647)], [(0, 1000, 0)], [(1000, .inl ([(1, 1)], 0))], ([], [], [], []))], []), [(15, ([(0, 1000), (0, 4), ((-2147483648), 2147483647), ((-2), 3), (1, 5)], [(0, 1, 0), (0, 2, 0), (0, 3, 0), (1, 17, 4)], [(0, .inr (.inr 0)), (1, .inl ([(1, 1)], 0)), (2, .inl ([(2, 1)], 0)), (3, .inl ([(3, 1)], 0))], ([(17, 4, ([(4, 1)], 0))], [], [(0, 3, 17)], [])), ([(3, -1)], 16769027))], [], 3000)
theorem ag_K518 : ag_chk ag_DD [ag_I88.1, ag_I338.1] ag_I518 = true := by decide +kernel
theorem ag_O518 {Xp : am_H → Prop} (hX : ag_Xk Xp) (hw : ag_ok ag_DD Xp ag_Cworth) : ag_ok ag_DD Xp ag_I518.1 := ag_chk_ok ag_DD_sh ag_DD_lg hX (List.forall_mem_cons.mpr ⟨ag_O88 hX hw, List.forall_mem_cons.mpr ⟨ag_O338 hX hw, fun _ h => absurd h List.not_mem_nil⟩⟩) ag_K518
/- MistCanton.spread -/
def ag_I519 : ag_I := ((155, 4, [([(0, 1000)], [], [(0, .inr (.inr 0))], ([], [], [(0, 3, 6)], []))], [([(0, 1000), ((-2147483648), 2147483647)], [(0, 1000, 0)], [(1000, .inl ([(1, 1)], 0))], ([], [], [], []))], []), [(4, ([(0, 1000), ((-2147483648), 2147483647), (0, 7)], [(0, 1, 0), (0, 2, 0)], [(0, .inr (.inr 0)), (1, .inl ([(1, 1)], 0)), (2, .inl ([(2, 1)], 0))], ([], [], [(0, 3, 6)], [])), ([(2, -1)], 16769031))], [], 3000)
theorem ag_K519 : ag_chk ag_DD [ag_I330.1] ag_I519 = true := by decide +kernel
theorem ag_O519 {Xp : am_H → Prop} (hX : ag_Xk Xp) (hw : ag_ok ag_DD Xp ag_Cworth) : ag_ok ag_DD Xp ag_I519.1 := ag_chk_ok ag_DD_sh ag_DD_lg hX (List.forall_mem_cons.mpr ⟨ag_O330 hX hw, fun _ h => absurd h List.not_mem_nil⟩) ag_K519
/- MistCanton.spread -/
def ag_I520 : ag_I := ((155, 4, [([(0, 1000)], [], [(0, .inr (.inr 0))], ([], [], [(0, 3, 17)], []))], [([(0, 1000), ((-2147483648), 2147483647)], [(0, 1000, 0)], [(1000, .inl ([(1, 1)], 0))], ([], [], [], []))], []), [(4, ([(0, 1000), ((-2147483648), 2147483647), (0, 7)], [(0, 1, 0), (0, 2, 0)], [(0, .inr (.inr 0)), (1, .inl ([(1, 1)], 0)), (2, .inl ([(2, 1)], 0))], ([], [], [(0, 3, 17)], [])), ([(2, -1)], 16769031))], [], 3000)
theorem ag_K520 : ag_chk ag_DD [ag_I333.1] ag_I520 = true := by decide +kernel
theorem ag_O520 {Xp : am_H → Prop} (hX : ag_Xk Xp) (hw : ag_ok ag_DD Xp ag_Cworth) : ag_ok ag_DD Xp ag_I520.1 := ag_chk_ok ag_DD_sh ag_DD_lg hX (List.forall_mem_cons.mpr ⟨ag_O333 hX hw, fun _ h => absurd h List.not_mem_nil⟩) ag_K520
/- MistCanton.pairs -/
def ag_I521 : ag_I := ((156, 4, [([(0, 1000)], [], [(0, .inr (.inr 0))], ([], [], [(0, 3, 6)], []))], [([(0, 1000), ((-2147483648), 2147483647)], [(0, 1000, 0)], [(1000, .inl ([(1, 1)], 0))], ([], [], [], []))], []), [(4, ([(0, 1000), ((-2147483648), 2147483647), (0, 7)], [(0, 1, 0), (0, 2, 0)], [(0, .inr (.inr 0)), (1, .inl ([(1, 1)], 0)), (2, .inl ([(2, 1)], 0))], ([], [], [(0, 3, 6)], [])), ([(2, -1)], 16769031))], [], 3000)
theorem ag_K521 : ag_chk ag_DD [ag_I88.1, ag_I330.1] ag_I521 = true := by decide +kernel
theorem ag_O521 {Xp : am_H → Prop} (hX : ag_Xk Xp) (hw : ag_ok ag_DD Xp ag_Cworth) : ag_ok ag_DD Xp ag_I521.1 := ag_chk_ok ag_DD_sh ag_DD_lg hX (List.forall_mem_cons.mpr ⟨ag_O88 hX hw, List.forall_mem_cons.mpr ⟨ag_O330 hX hw, fun _ h => absurd h List.not_mem_nil⟩⟩) ag_K521
/- MistCanton.pairs -/
def ag_I522 : ag_I := ((156, 4, [([(0, 1000)], [], [(0, .inr (.inr 0))], ([], [], [(0, 3, 17)], []))], [([(0, 1000), ((-2147483648), 2147483647)], [(0, 1000, 0)], [(1000, .inl ([(1, 1)], 0))], ([], [], [], []))], []), [(4, ([(0, 1000), ((-2147483648), 2147483647), (0, 7)], [(0, 1, 0), (0, 2, 0)], [(0, .inr (.inr 0)), (1, .inl ([(1, 1)], 0)), (2, .inl ([(2, 1)], 0))], ([], [], [(0, 3, 17)], [])), ([(2, -1)], 16769031))], [], 3000)
theorem ag_K522 : ag_chk ag_DD [ag_I88.1, ag_I333.1] ag_I522 = true := by decide +kernel
theorem ag_O522 {Xp : am_H → Prop} (hX : ag_Xk Xp) (hw : ag_ok ag_DD Xp ag_Cworth) : ag_ok ag_DD Xp ag_I522.1 := ag_chk_ok ag_DD_sh ag_DD_lg hX (List.forall_mem_cons.mpr ⟨ag_O88 hX hw, List.forall_mem_cons.mpr ⟨ag_O333 hX hw, fun _ h => absurd h List.not_mem_nil⟩⟩) ag_K522
/- MistCantonModel.group -/
def ag_I523 : ag_I := ((261, 4, [([(0, 1000), ((-2147483648), 2147483647)], [(0, 1, 0)], [(0, .inr (.inr 154)), (1, .inl ([(1, 1)], 0))], ([], [], [], []))], [([(0, 1000), ((-2147483648), 2147483647)], [(0, 1000, 0)], [(1000, .inl ([(1, 1)], 0))], ([], [], [], []))], [(154, 0, 0)]), [(20, ([(0, 1000), (0, 4), ((-2147483648), 2147483647), ((-2), 3), (0, 0)], [(0, 1, 0), (0, 2, 0), (0, 3, 0), (1, 154, 0)], [(0, .inr (.inr 154)), (1, .inl ([(1, 1)], 0)), (2, .inl ([(2, 1)], 0)), (3, .inl ([(3, 1)], 0))], ([(154, 0, ([(4, 1)], 0))], [], [], [])), ([(3, -1)], 16769027))], [], 3000)
theorem ag_K523 : ag_chk ag_DD [ag_I399.1, ag_I433.1, ag_I481.1] ag_I523 = true := by decide +kernel
theorem ag_O523 {Xp : am_H → Prop} (hX : ag_Xk Xp) (hw : ag_ok ag_DD Xp ag_Cworth) : ag_ok ag_DD Xp ag_I523.1 := ag_chk_ok ag_DD_sh ag_DD_lg hX (List.forall_mem_cons.mpr ⟨ag_O399 hX hw, List.forall_mem_cons.mpr ⟨ag_O433 hX hw, List.forall_mem_cons.mpr ⟨ag_O481 hX hw, fun _ h => absurd h List.not_mem_nil⟩⟩⟩) ag_K523
/- MistCantonModel.through -/
def ag_I524 : ag_I := ((279, 3, [([(0, 1000), ((-2147483648), 2147483647), ((-2147483648), 2147483647)], [(0, 1, 0), (0, 2, 0)], [(0, .inr (.inr 154)), (1, .inl ([(1, 1)], 0)), (2, .inl ([(2, 1)], 0))], ([], [], [], []))], [([(0, 1000), ((-1), 5)], [(0, 1000, 0)], [(1000, .inl ([(1, 1)], 0))], ([], [], [], []))], [(154, 0, 0)]), [(7, ([(0, 1000), ((-2147483648), 2147483647), ((-2147483648), 2147483647), (0, 6), (0, 0)], [(0, 1, 0), (0, 2, 0), (0, 3, 0), (1, 154, 0)], [(0, .inr (.inr 154)), (1, .inl ([(1, 1)], 0)), (2, .inl ([(2, 1)], 0)), (3, .inl ([(3, 1)], 0))], ([(154, 0, ([(4, 1)], 0))], [], [], [])), ([(3, -1)], 16769030))], [], 3000)
theorem ag_K524 : ag_chk ag_DD [ag_I487.1] ag_I524 = true := by decide +kernel
theorem ag_O524 {Xp : am_H → Prop} (hX : ag_Xk Xp) (hw : ag_ok ag_DD Xp ag_Cworth) : ag_ok ag_DD Xp ag_I524.1 := ag_chk_ok ag_DD_sh ag_DD_lg hX (List.forall_mem_cons.mpr ⟨ag_O487 hX hw, fun _ h => absurd h List.not_mem_nil⟩) ag_K524
