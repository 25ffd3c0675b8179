/-! one step -/
/-- where the count began (c0 % 1000), and how many cells more there are (c0 / 1000: made by what threw), none before all objects are there -/
def am_c0 (c0 n : Nat) : Prop := c0 % 1000 ≤ n ∧ (1000 ≤ c0 → n = am_shl.length)
def am_Inv (D : va_G) (cA : Nat → ClassId) (ad : Nat → Nat) (base L : Nat) (xs : Nat → Int32) (s : State) (c0 : Nat) (h : am_H) (H : Heap) (locs : List Loc) : Prop :=
  va_P D vwCl (am_cc cA ad h) H ∧ va_S (am_A base) s.heap H locs ∧ am_ro L xs h ∧ h.2.2.2.2 ≤ am_shl.length ∧ am_c0 c0 h.2.2.2.2
/-- a method's body as it is walked: the machine, the code, the words, what stays -/
def am_Fx (p : Program) (s : State) (m : MethodId) (args : Array Value) (c : Code) (D : va_G) (cA : Nat → ClassId) (ad : Nat → Nat) (base b L : Nat) (xs : Nat → Int32) (own : String) (cc : ByteArray) (nL c0 : Nat) : Prop :=
  p.tables.exec = Jvm.exec ∧ c.code = cc ∧ c.maxLocals = nL ∧ s.vm.findClass own = some m.cls ∧ (∀ w ∈ am_gw, w.before args s = true) ∧ am_E D cA ad base b L xs s ∧ base ≤ s.heap.size ∧ am_G ad base b L ∧ (c0 % 1000 < am_shl.length → s.heap.size = base + c0 % 1000)
/-- what is known of the calls -/
def am_Cs (l : Launch) (R : Room) (D : va_G) (cA : Nat → ClassId) (ad : Nat → Nat) (base b L : Nat) (xs : Nat → Int32) (cp : am_P) : Prop :=
  ∀ n As h Q, cp n As h Q → ∃ d : Nat, Met l (am_y n) (am_ws n) (am_rm d (am_al n) (am_ms n h)) (am_Pc D cA ad base b L xs As h) (am_Qc D cA ad base L xs (fun v h' => h'.2.2.2.2 = h.2.2.2.2 + am_al n ∧ Q v h')) (am_al n) (am_ms n h) (am_A base) ∧ d + 1 ≤ R.frames ∧ 40 + 40 * d ≤ R.locals
theorem am_ok3 {A B : Prop} {C : Bool} [Decidable A] [Decidable B] (h : (decide A && (decide B && C)) = true) : A ∧ B ∧ C = true := by
  simp only [Bool.and_eq_true, decide_eq_true_eq] at h
  exact h
theorem am_ci_ok : ∀ ci, ci < 12 → ∃ (C : String) (T : u_T) (N : Nat), vwCl[ci]? = some (C, T, N) ∧ am_nf ci = N ∧ am_cn ci = C ∧ (∀ k, am_fd ci k = T k) ∧ (∀ w ∈ u_ws C T N, w ∈ am_gw) ∧ ∃ ty : Nat → FieldType, (∀ k, k < N → parseFieldDescriptor (T k).2.2.1 = some (ty k)) ∧ (∀ a, a < N → ∀ b, b < N → a ≠ b → (T a).2.1 ≠ (T b).2.1) ∧ ∀ k, k < N → am_kd ci k = (match ty k with
    | .long => 1
    | .object _ => 2
    | .array _ => 2
    | _ => 0) ∧ am_fty ci k = ty k := by
  intro ci h
  have hci : ci = 0 ∨ ci = 1 ∨ ci = 2 ∨ ci = 3 ∨ ci = 4 ∨ ci = 5 ∨ ci = 6 ∨ ci = 7 ∨ ci = 8 ∨ ci = 9 ∨ ci = 10 ∨ ci = 11 := by omega
  rcases hci with rfl | rfl | rfl | rfl | rfl | rfl | rfl | rfl | rfl | rfl | rfl | rfl
  · exact ⟨RX0, TX0, 13, rfl, by decide +kernel, rfl, fun _ => rfl, by decide +kernel, tyX0, tyX0_ok, nmX0, by decide +kernel⟩
  · exact ⟨RX1, TX1, 2, rfl, by decide +kernel, rfl, fun _ => rfl, by decide +kernel, tyX1, tyX1_ok, nmX1, by decide +kernel⟩
  · exact ⟨RX2, TX2, 3, rfl, by decide +kernel, rfl, fun _ => rfl, by decide +kernel, tyX2, tyX2_ok, nmX2, by decide +kernel⟩
  · exact ⟨RX3, TX3, 3, rfl, by decide +kernel, rfl, fun _ => rfl, by decide +kernel, tyX3, tyX3_ok, nmX3, by decide +kernel⟩
  · exact ⟨RX4, TX4, 1, rfl, by decide +kernel, rfl, fun _ => rfl, by decide +kernel, tyX4, tyX4_ok, nmX4, by decide +kernel⟩
  · exact ⟨RX5, TX5, 4, rfl, by decide +kernel, rfl, fun _ => rfl, by decide +kernel, tyX5, tyX5_ok, nmX5, by decide +kernel⟩
  · exact ⟨RX6, TX6, 6, rfl, by decide +kernel, rfl, fun _ => rfl, by decide +kernel, tyX6, tyX6_ok, nmX6, by decide +kernel⟩
  · exact ⟨RX7, TX7, 8, rfl, by decide +kernel, rfl, fun _ => rfl, by decide +kernel, tyX7, tyX7_ok, nmX7, by decide +kernel⟩
  · exact ⟨RX8, TX8, 4, rfl, by decide +kernel, rfl, fun _ => rfl, by decide +kernel, tyX8, tyX8_ok, nmX8, by decide +kernel⟩
  · exact ⟨RX9, TX9, 1, rfl, by decide +kernel, rfl, fun _ => rfl, by decide +kernel, tyX9, tyX9_ok, nmX9, by decide +kernel⟩
  · exact ⟨RX10, TX10, 14, rfl, by decide +kernel, rfl, fun _ => rfl, by decide +kernel, tyX10, tyX10_ok, nmX10, by decide +kernel⟩
  · exact ⟨RX11, TX11, 31, rfl, by decide +kernel, rfl, fun _ => rfl, by decide +kernel, tyX11, tyX11_ok, nmX11, by decide +kernel⟩
theorem am_cell_obj {cA : Nat → ClassId} {ad : Nat → Nat} {h : am_H} {o ci n : Nat} (hc : ci < 12) : am_cell cA ad h o (ci, n) = .inr (ci, (List.range (am_nf ci)).map (fun k => am_cv ad (am_gv h ci k o))) := by
  simp [am_cell, hc]
theorem am_fs_at {ad : Nat → Nat} {h : am_H} {o ci k : Nat} (hk : k < am_nf ci) : ((List.range (am_nf ci)).map (fun k => am_cv ad (am_gv h ci k o)))[k]? = some (am_cv ad (am_gv h ci k o)) := by
  simp [hk]
theorem am_fs_set {ad : Nat → Nat} {h h' : am_H} {o ci k : Nat} (hk : k < am_nf ci) (hs : ∀ j, j ≠ k → am_gv h' ci j o = am_gv h ci j o) :
    ((List.range (am_nf ci)).map (fun k => am_cv ad (am_gv h ci k o))).set k (am_cv ad (am_gv h' ci k o)) = (List.range (am_nf ci)).map (fun k => am_cv ad (am_gv h' ci k o)) := by
  apply List.ext_getElem?
  intro j
  by_cases hj : j = k
  · subst hj
    rw [List.getElem?_set_self (by simp [hk]), am_fs_at hk]
  · rw [List.getElem?_set_ne (fun q => hj q.symm)]
    simp only [List.getElem?_map]
    cases hr : (List.range (am_nf ci))[j]? with
    | none => rfl
    | some x =>
      obtain ⟨h1, h2⟩ := List.getElem?_eq_some_iff.mp hr
      have h3 : x = j := by rw [← h2]; simp
      subst h3
      simp only [Option.map_some, hs _ hj]
theorem am_rf_cv (ad : Nat → Nat) (r : Option Nat) : am_cv ad (am_rf r) = va_rf (r.map ad) := by cases r <;> rfl
