/-! THE ROWS ARE RIGHT -/
theorem am_find_mem : ∀ {l : List (Nat × am_R)} {pc : Nat} {r : am_R}, am_find l pc = some r → (pc, r) ∈ l
  | q :: l, pc, r, h => by
    unfold am_find at h
    cases hq : Nat.beq q.1 pc with
    | true =>
      rw [hq] at h
      have e1 : q.1 = pc := Nat.eq_of_beq_eq_true hq
      have e2 : q.2 = r := Option.some.inj h
      rw [← e1, ← e2]
      exact List.mem_cons_self
    | false =>
      rw [hq] at h
      exact List.mem_cons_of_mem _ (am_find_mem h)
theorem am_inf_len : am_inf.length = am_mi.length := by decide +kernel
theorem am_zip_app {α β : Type} {p : α × β → Bool} {a1 a2 : List α} {b1 b2 : List β} (hl : a1.length = b1.length) (h1 : (a1.zip b1).all p = true) (h2 : (a2.zip b2).all p = true) : ((a1 ++ a2).zip (b1 ++ b2)).all p = true := by
  rw [List.zip_append hl, List.all_append, h1, h2]
  rfl
theorem am_inf_ok : (am_mi.zip am_inf).all am_chk = true :=
  am_zip_app rfl am_ck_0 (am_zip_app rfl am_ck_1 (am_zip_app rfl am_ck_2 (am_zip_app rfl am_ck_3 (am_zip_app rfl am_ck_4 (am_zip_app rfl am_ck_5 (am_zip_app rfl am_ck_6 am_ck_7))))))
theorem am_inf_at {n : Nat} {q : List (Nat × am_R) × Nat × Option FieldType} (h : am_inf[n]? = some q) : q.2.1 = am_nL n ∧ q.2.2 = am_rt n ∧ (∀ pc r, am_find q.1 pc = some r → plainFor (am_y n) = true ∧ ((am_y n = am_47 ∧ pc = 2) ∨ am_okB (decide ((am_y n).name = "<init>")) (am_y n).cls (am_by n) pc r = true)) := by
  have hn : n < am_mi.length := by rw [← am_inf_len]; exact (List.getElem?_eq_some_iff.mp h).1
  have h1 : am_mi[n]? = some am_mi[n] := List.getElem?_eq_getElem hn
  have hz : (am_mi.zip am_inf)[n]? = some (am_mi[n], q) := by
    rw [List.getElem?_zip_eq_some]
    exact ⟨h1, h⟩
  have h2 := List.all_eq_true.mp am_inf_ok _ (List.mem_of_getElem? hz)
  unfold am_chk at h2
  rw [Bool.and_eq_true, Bool.and_eq_true, Bool.and_eq_true, Bool.or_eq_true, decide_eq_true_eq, decide_eq_true_eq] at h2
  obtain ⟨e1, e2, e3, e4⟩ := h2
  unfold am_nL am_rt am_y am_by
  rw [h1]
  refine ⟨e1.symm, e2.symm, fun pc r hr => ?_⟩
  have hm := am_find_mem hr
  refine ⟨e3.resolve_left (fun q' => ?_), ?_⟩
  rotate_left
  · have e5 := List.all_eq_true.mp e4 _ hm
    rw [Bool.or_eq_true, Bool.and_eq_true, decide_eq_true_eq] at e5
    exact e5.imp (fun z => ⟨z.1, Nat.eq_of_beq_eq_true z.2⟩) (fun z => z)
  rw [List.isEmpty_iff] at q'
  rw [q'] at hm
  cases hm
theorem am_cod_ok : am_Rok am_cod := by
  intro n pc r h
  unfold am_cod at h
  split at h
  · rename_i q hq
    exact (am_inf_at hq).2.2 pc r h
  · cases h
theorem am_law_ok : ∀ pc r, am_find am_rL pc = some r → am_okB false "MistCantonLaw" code pc r = true := fun _ _ h => List.all_eq_true.mp am_rL_ok _ (am_find_mem h)
