/-! INSTANCES OF THE SECOND CHECKER -/
/- MistCantonModel.copies -/
def ag_I408 : ag_I := ((232, 1, [([(0, 1000), ((-1100), 1000), (0, 24), (0, 0), (686, 686), (24, 24)], [(0, 1, 0), (0, 2, 0), (0, 3, 0)], [(0, .inr (.inr 154)), (1, .inl ([(3, 1)], 0)), (2, .inl ([(4, 1)], 0)), (3, .inl ([(5, 1)], 0))], ([], [], [], [], []))], [([(0, 1000), ((-1100), 1000), (0, 24)], [], [], ([], [], [], [], []))], [(170, 686, 709)]), [], [], 3000)
theorem ag_K408 : ag_chk ag_DD [] ag_I408 = true := by decide +kernel
theorem ag_O408 {Xp : am_H → Prop} (hX : ag_Xk Xp) (hw : ag_ok ag_DD Xp ag_Cworth) : ag_ok ag_DD Xp ag_I408.1 := ag_chk_ok ag_DD_sh ag_DD_lg hX (fun _ h => absurd h List.not_mem_nil) ag_K408
/- MistCantonModel.copies -/
def ag_I409 : ag_I := ((232, 1, [([(0, 1000), ((-1100), 1000), (0, 24), (0, 0), (637, 637), (24, 24)], [(0, 1, 0), (0, 2, 0), (0, 3, 0)], [(0, .inr (.inr 154)), (1, .inl ([(3, 1)], 0)), (2, .inl ([(4, 1)], 0)), (3, .inl ([(5, 1)], 0))], ([], [], [], [], []))], [([(0, 1000), ((-1100), 1000), (0, 24)], [], [], ([], [], [], [], []))], [(170, 637, 660)]), [], [], 3000)
theorem ag_K409 : ag_chk ag_DD [] ag_I409 = true := by decide +kernel
theorem ag_O409 {Xp : am_H → Prop} (hX : ag_Xk Xp) (hw : ag_ok ag_DD Xp ag_Cworth) : ag_ok ag_DD Xp ag_I409.1 := ag_chk_ok ag_DD_sh ag_DD_lg hX (fun _ h => absurd h List.not_mem_nil) ag_K409
/- MistCantonModel.copies -/
def ag_I410 : ag_I := ((232, 1, [([(0, 1000), ((-1100), 1000), (0, 24), (0, 0), (588, 588), (24, 24)], [(0, 1, 0), (0, 2, 0), (0, 3, 0)], [(0, .inr (.inr 154)), (1, .inl ([(3, 1)], 0)), (2, .inl ([(4, 1)], 0)), (3, .inl ([(5, 1)], 0))], ([], [], [], [], []))], [([(0, 1000), ((-1100), 1000), (0, 24)], [], [], ([], [], [], [], []))], [(170, 588, 611)]), [], [], 3000)
theorem ag_K410 : ag_chk ag_DD [] ag_I410 = true := by decide +kernel
theorem ag_O410 {Xp : am_H → Prop} (hX : ag_Xk Xp) (hw : ag_ok ag_DD Xp ag_Cworth) : ag_ok ag_DD Xp ag_I410.1 := ag_chk_ok ag_DD_sh ag_DD_lg hX (fun _ h => absurd h List.not_mem_nil) ag_K410
/- MistCantonModel.copies -/
def ag_I411 : ag_I := ((232, 1, [([(0, 1000), ((-1100), 1000), (0, 24), (0, 0), (539, 539), (24, 24)], [(0, 1, 0), (0, 2, 0), (0, 3, 0)], [(0, .inr (.inr 154)), (1, .inl ([(3, 1)], 0)), (2, .inl ([(4, 1)], 0)), (3, .inl ([(5, 1)], 0))], ([], [], [], [], []))], [([(0, 1000), ((-1100), 1000), (0, 24)], [], [], ([], [], [], [], []))], [(170, 539, 562)]), [], [], 3000)
theorem ag_K411 : ag_chk ag_DD [] ag_I411 = true := by decide +kernel
theorem ag_O411 {Xp : am_H → Prop} (hX : ag_Xk Xp) (hw : ag_ok ag_DD Xp ag_Cworth) : ag_ok ag_DD Xp ag_I411.1 := ag_chk_ok ag_DD_sh ag_DD_lg hX (fun _ h => absurd h List.not_mem_nil) ag_K411
/- MistCantonModel.copies -/
def ag_I412 : ag_I := ((232, 1, [([(0, 1000), ((-1100), 1000), (0, 24), (0, 0), (490, 490), (24, 24)], [(0, 1, 0), (0, 2, 0), (0, 3, 0)], [(0, .inr (.inr 154)), (1, .inl ([(3, 1)], 0)), (2, .inl ([(4, 1)], 0)), (3, .inl ([(5, 1)], 0))], ([], [], [], [], []))], [([(0, 1000), ((-1100), 1000), (0, 24)], [], [], ([], [], [], [], []))], [(170, 490, 513)]), [], [], 3000)
theorem ag_K412 : ag_chk ag_DD [] ag_I412 = true := by decide +kernel
theorem ag_O412 {Xp : am_H → Prop} (hX : ag_Xk Xp) (hw : ag_ok ag_DD Xp ag_Cworth) : ag_ok ag_DD Xp ag_I412.1 := ag_chk_ok ag_DD_sh ag_DD_lg hX (fun _ h => absurd h List.not_mem_nil) ag_K412
/- MistCantonModel.copies -/
def ag_I413 : ag_I := ((232, 1, [([(0, 1000), ((-1100), 1000), (0, 24), (0, 0), (441, 441), (24, 24)], [(0, 1, 0), (0, 2, 0), (0, 3, 0)], [(0, .inr (.inr 154)), (1, .inl ([(3, 1)], 0)), (2, .inl ([(4, 1)], 0)), (3, .inl ([(5, 1)], 0))], ([], [], [], [], []))], [([(0, 1000), ((-1100), 1000), (0, 24)], [], [], ([], [], [], [], []))], [(170, 441, 464)]), [], [], 3000)
theorem ag_K413 : ag_chk ag_DD [] ag_I413 = true := by decide +kernel
theorem ag_O413 {Xp : am_H → Prop} (hX : ag_Xk Xp) (hw : ag_ok ag_DD Xp ag_Cworth) : ag_ok ag_DD Xp ag_I413.1 := ag_chk_ok ag_DD_sh ag_DD_lg hX (fun _ h => absurd h List.not_mem_nil) ag_K413
/- MistCantonModel.copies -/
def ag_I414 : ag_I := ((232, 1, [([(0, 1000), ((-1100), 1000), (0, 24), (0, 0), (392, 392), (24, 24)], [(0, 1, 0), (0, 2, 0), (0, 3, 0)], [(0, .inr (.inr 154)), (1, .inl ([(3, 1)], 0)), (2, .inl ([(4, 1)], 0)), (3, .inl ([(5, 1)], 0))], ([], [], [], [], []))], [([(0, 1000), ((-1100), 1000), (0, 24)], [], [], ([], [], [], [], []))], [(170, 392, 415)]), [], [], 3000)
theorem ag_K414 : ag_chk ag_DD [] ag_I414 = true := by decide +kernel
theorem ag_O414 {Xp : am_H → Prop} (hX : ag_Xk Xp) (hw : ag_ok ag_DD Xp ag_Cworth) : ag_ok ag_DD Xp ag_I414.1 := ag_chk_ok ag_DD_sh ag_DD_lg hX (fun _ h => absurd h List.not_mem_nil) ag_K414
/- MistCantonModel.copies -/
def ag_I415 : ag_I := ((232, 1, [([(0, 1000), ((-1100), 1000), (0, 24), (0, 0), (343, 343), (24, 24)], [(0, 1, 0), (0, 2, 0), (0, 3, 0)], [(0, .inr (.inr 154)), (1, .inl ([(3, 1)], 0)), (2, .inl ([(4, 1)], 0)), (3, .inl ([(5, 1)], 0))], ([], [], [], [], []))], [([(0, 1000), ((-1100), 1000), (0, 24)], [], [], ([], [], [], [], []))], [(170, 343, 366)]), [], [], 3000)
theorem ag_K415 : ag_chk ag_DD [] ag_I415 = true := by decide +kernel
theorem ag_O415 {Xp : am_H → Prop} (hX : ag_Xk Xp) (hw : ag_ok ag_DD Xp ag_Cworth) : ag_ok ag_DD Xp ag_I415.1 := ag_chk_ok ag_DD_sh ag_DD_lg hX (fun _ h => absurd h List.not_mem_nil) ag_K415
/- MistCantonModel.copies -/
def ag_I416 : ag_I := ((232, 1, [([(0, 1000), ((-1100), 1000), (0, 24), (0, 0), (294, 294), (24, 24)], [(0, 1, 0), (0, 2, 0), (0, 3, 0)], [(0, .inr (.inr 154)), (1, .inl ([(3, 1)], 0)), (2, .inl ([(4, 1)], 0)), (3, .inl ([(5, 1)], 0))], ([], [], [], [], []))], [([(0, 1000), ((-1100), 1000), (0, 24)], [], [], ([], [], [], [], []))], [(170, 294, 317)]), [], [], 3000)
theorem ag_K416 : ag_chk ag_DD [] ag_I416 = true := by decide +kernel
theorem ag_O416 {Xp : am_H → Prop} (hX : ag_Xk Xp) (hw : ag_ok ag_DD Xp ag_Cworth) : ag_ok ag_DD Xp ag_I416.1 := ag_chk_ok ag_DD_sh ag_DD_lg hX (fun _ h => absurd h List.not_mem_nil) ag_K416
/- MistCantonModel.copies -/
def ag_I417 : ag_I := ((232, 1, [([(0, 1000), ((-1100), 1000), (0, 24), (294, 294), (245, 245), (24, 24)], [(0, 1, 0), (0, 2, 0), (0, 3, 0)], [(0, .inr (.inr 154)), (1, .inl ([(3, 1)], 0)), (2, .inl ([(4, 1)], 0)), (3, .inl ([(5, 1)], 0))], ([], [], [], [], []))], [([(0, 1000), ((-1100), 1000), (0, 24)], [], [], ([], [], [], [], []))], [(170, 245, 268)]), [], [], 3000)
theorem ag_K417 : ag_chk ag_DD [] ag_I417 = true := by decide +kernel
theorem ag_O417 {Xp : am_H → Prop} (hX : ag_Xk Xp) (hw : ag_ok ag_DD Xp ag_Cworth) : ag_ok ag_DD Xp ag_I417.1 := ag_chk_ok ag_DD_sh ag_DD_lg hX (fun _ h => absurd h List.not_mem_nil) ag_K417
/- MistCantonModel.copies -/
def ag_I418 : ag_I := ((232, 1, [([(0, 1000), ((-1100), 1000), (0, 24), (343, 343), (294, 294), (24, 24)], [(0, 1, 0), (0, 2, 0), (0, 3, 0)], [(0, .inr (.inr 154)), (1, .inl ([(3, 1)], 0)), (2, .inl ([(4, 1)], 0)), (3, .inl ([(5, 1)], 0))], ([], [], [], [], []))], [([(0, 1000), ((-1100), 1000), (0, 24)], [], [], ([], [], [], [], []))], [(170, 294, 317)]), [], [], 3000)
theorem ag_K418 : ag_chk ag_DD [] ag_I418 = true := by decide +kernel
theorem ag_O418 {Xp : am_H → Prop} (hX : ag_Xk Xp) (hw : ag_ok ag_DD Xp ag_Cworth) : ag_ok ag_DD Xp ag_I418.1 := ag_chk_ok ag_DD_sh ag_DD_lg hX (fun _ h => absurd h List.not_mem_nil) ag_K418
/- MistCantonModel.copies -/
def ag_I419 : ag_I := ((232, 1, [([(0, 1000), ((-1100), 1000), (0, 24), (392, 392), (343, 343), (24, 24)], [(0, 1, 0), (0, 2, 0), (0, 3, 0)], [(0, .inr (.inr 154)), (1, .inl ([(3, 1)], 0)), (2, .inl ([(4, 1)], 0)), (3, .inl ([(5, 1)], 0))], ([], [], [], [], []))], [([(0, 1000), ((-1100), 1000), (0, 24)], [], [], ([], [], [], [], []))], [(170, 343, 366)]), [], [], 3000)
theorem ag_K419 : ag_chk ag_DD [] ag_I419 = true := by decide +kernel
theorem ag_O419 {Xp : am_H → Prop} (hX : ag_Xk Xp) (hw : ag_ok ag_DD Xp ag_Cworth) : ag_ok ag_DD Xp ag_I419.1 := ag_chk_ok ag_DD_sh ag_DD_lg hX (fun _ h => absurd h List.not_mem_nil) ag_K419
/- MistCantonModel.copies -/
def ag_I420 : ag_I := ((232, 1, [([(0, 1000), ((-1100), 1000), (0, 24), (441, 441), (392, 392), (24, 24)], [(0, 1, 0), (0, 2, 0), (0, 3, 0)], [(0, .inr (.inr 154)), (1, .inl ([(3, 1)], 0)), (2, .inl ([(4, 1)], 0)), (3, .inl ([(5, 1)], 0))], ([], [], [], [], []))], [([(0, 1000), ((-1100), 1000), (0, 24)], [], [], ([], [], [], [], []))], [(170, 392, 415)]), [], [], 3000)
theorem ag_K420 : ag_chk ag_DD [] ag_I420 = true := by decide +kernel
theorem ag_O420 {Xp : am_H → Prop} (hX : ag_Xk Xp) (hw : ag_ok ag_DD Xp ag_Cworth) : ag_ok ag_DD Xp ag_I420.1 := ag_chk_ok ag_DD_sh ag_DD_lg hX (fun _ h => absurd h List.not_mem_nil) ag_K420
/- MistCantonModel.copies -/
def ag_I421 : ag_I := ((232, 1, [([(0, 1000), ((-1100), 1000), (0, 24), (490, 490), (441, 441), (24, 24)], [(0, 1, 0), (0, 2, 0), (0, 3, 0)], [(0, .inr (.inr 154)), (1, .inl ([(3, 1)], 0)), (2, .inl ([(4, 1)], 0)), (3, .inl ([(5, 1)], 0))], ([], [], [], [], []))], [([(0, 1000), ((-1100), 1000), (0, 24)], [], [], ([], [], [], [], []))], [(170, 441, 464)]), [], [], 3000)
theorem ag_K421 : ag_chk ag_DD [] ag_I421 = true := by decide +kernel
theorem ag_O421 {Xp : am_H → Prop} (hX : ag_Xk Xp) (hw : ag_ok ag_DD Xp ag_Cworth) : ag_ok ag_DD Xp ag_I421.1 := ag_chk_ok ag_DD_sh ag_DD_lg hX (fun _ h => absurd h List.not_mem_nil) ag_K421
/- MistCantonModel.copies -/
def ag_I422 : ag_I := ((232, 1, [([(0, 1000), ((-1100), 1000), (0, 24), (539, 539), (490, 490), (24, 24)], [(0, 1, 0), (0, 2, 0), (0, 3, 0)], [(0, .inr (.inr 154)), (1, .inl ([(3, 1)], 0)), (2, .inl ([(4, 1)], 0)), (3, .inl ([(5, 1)], 0))], ([], [], [], [], []))], [([(0, 1000), ((-1100), 1000), (0, 24)], [], [], ([], [], [], [], []))], [(170, 490, 513)]), [], [], 3000)
theorem ag_K422 : ag_chk ag_DD [] ag_I422 = true := by decide +kernel
theorem ag_O422 {Xp : am_H → Prop} (hX : ag_Xk Xp) (hw : ag_ok ag_DD Xp ag_Cworth) : ag_ok ag_DD Xp ag_I422.1 := ag_chk_ok ag_DD_sh ag_DD_lg hX (fun _ h => absurd h List.not_mem_nil) ag_K422
/- MistCantonModel.copies -/
def ag_I423 : ag_I := ((232, 1, [([(0, 1000), ((-1100), 1000), (0, 24), (588, 588), (539, 539), (24, 24)], [(0, 1, 0), (0, 2, 0), (0, 3, 0)], [(0, .inr (.inr 154)), (1, .inl ([(3, 1)], 0)), (2, .inl ([(4, 1)], 0)), (3, .inl ([(5, 1)], 0))], ([], [], [], [], []))], [([(0, 1000), ((-1100), 1000), (0, 24)], [], [], ([], [], [], [], []))], [(170, 539, 562)]), [], [], 3000)
theorem ag_K423 : ag_chk ag_DD [] ag_I423 = true := by decide +kernel
theorem ag_O423 {Xp : am_H → Prop} (hX : ag_Xk Xp) (hw : ag_ok ag_DD Xp ag_Cworth) : ag_ok ag_DD Xp ag_I423.1 := ag_chk_ok ag_DD_sh ag_DD_lg hX (fun _ h => absurd h List.not_mem_nil) ag_K423
/- MistCantonModel.copies -/
def ag_I424 : ag_I := ((232, 1, [([(0, 1000), ((-1100), 1000), (0, 24), (637, 637), (588, 588), (24, 24)], [(0, 1, 0), (0, 2, 0), (0, 3, 0)], [(0, .inr (.inr 154)), (1, .inl ([(3, 1)], 0)), (2, .inl ([(4, 1)], 0)), (3, .inl ([(5, 1)], 0))], ([], [], [], [], []))], [([(0, 1000), ((-1100), 1000), (0, 24)], [], [], ([], [], [], [], []))], [(170, 588, 611)]), [], [], 3000)
theorem ag_K424 : ag_chk ag_DD [] ag_I424 = true := by decide +kernel
theorem ag_O424 {Xp : am_H → Prop} (hX : ag_Xk Xp) (hw : ag_ok ag_DD Xp ag_Cworth) : ag_ok ag_DD Xp ag_I424.1 := ag_chk_ok ag_DD_sh ag_DD_lg hX (fun _ h => absurd h List.not_mem_nil) ag_K424
