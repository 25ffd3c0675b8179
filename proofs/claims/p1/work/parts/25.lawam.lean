/-! THE LAW IN THE ABSTRACT MACHINE -/
def lw_rho (xs : Nat → Int32) (v8 v9 : Int32) (i : Nat) : Int32 := bif Nat.blt i 7 then xs i else bif Nat.beq i 7 then xs 0 &&& 63 else bif Nat.beq i 8 then v8 else v9
theorem ae_run1 : (List.range 8).all (fun LL => ae_go LL (fun _ _ _ => none) (fun pc => Nat.beq pc 23) ae_fin0 (fun _ _ _ => false) 9000 ae_env0 20 ([], [], 0, 0) (am_rL, 7, some .boolean, 175, 0, [(0, .inr (.inr (.inl 3000000)))], []) []) = true := by decide +kernel
theorem lw_63 (x : Int32) : ∃ j : Nat, j < 64 ∧ x &&& 63 = nI j := pk_andE x 6 (by decide)
theorem lw_full (x : Int32) : (-2147483648 : Int) ≤ x.toInt ∧ x.toInt ≤ 2147483647 := ⟨Int32.le_toInt x, Int32.toInt_le x⟩
theorem lw_in {xs : Nat → Int32} {v8 v9 : Int32} {lo hi : Int} (h1 : lo ≤ (xs 0 &&& 63).toInt) (h2 : (xs 0 &&& 63).toInt ≤ hi) : ae_in (lw_rho xs v8 v9) (ae_env0.set 7 (lo, hi)) := by
  refine ⟨fun i q hq => ?_, rfl⟩
  match i, hq with
  | 0, hq => cases hq; exact lw_full _
  | 1, hq => cases hq; exact lw_full _
  | 2, hq => cases hq; exact lw_full _
  | 3, hq => cases hq; exact lw_full _
  | 4, hq => cases hq; exact lw_full _
  | 5, hq => cases hq; exact lw_full _
  | 6, hq => cases hq; exact lw_full _
  | 7, hq => cases hq; exact ⟨h1, h2⟩
  | i + 8, hq => simp [ae_env0] at hq
theorem lw_in0 {xs : Nat → Int32} {v8 v9 : Int32} : ae_in (lw_rho xs v8 v9) ae_env0 := by
  obtain ⟨j, hj, e⟩ := lw_63 (xs 0)
  have ht : (xs 0 &&& 63).toInt = j := by rw [e, nI_toInt (by omega)]
  exact lw_in (lo := 0) (hi := 63) (by omega) (by omega)
def lw_Qt : am_Q := fun v _ => v = some (.int 1)
def lw_X (E : Nat → am_V → List Value → am_H → Prop) : Nat → am_V → List Value → am_H → Prop := am_X (am_call am_cod 20) 7 175 (some .boolean) (am_find am_rL) E lw_Qt
theorem lw_opA {ρ : Nat → Int32} {asm : Nat → List ae_v → ae_H → Option (Nat × Nat)} {LL : Nat} {env : ae_e} {h : am_H} {E : Nat → am_V → List Value → am_H → Prop} (hs : ae_opA asm LL env = true) (hin : ae_in ρ env) (hR : ae_R ρ LL ae_H0 h)
    (hasm : ∀ a As H w, asm a As H = some w → ∀ h, ae_R ρ LL H h → am_call am_cod 10 a (As.map (ae_c ρ)) h (fun v h' => v = some (.int (ρ w.1)) ∧ ae_R ρ LL (H.1, H.2.1, H.2.2.1, w.2) h')) : lw_X E 23 (ae_cl ρ ae_lv0) [] h := by
  have w := ae_go_ok (ρ := ρ) (E := E) (Q := lw_Qt) hasm (fun _ _ _ _ _ z => by cases z) (fun env v H z _ h _ => by rw [of_decide_eq_true z]; rfl) _ _ _ _ _ _ _ _ _ _ _ _ hs hin h hR
  exact w
/-- the known calls are right -/
theorem lw_asI {xs : Nat → Int32} {v9 : Int32} : ∀ a As H w, ae_asI a As H = some w → ∀ h, ae_R (lw_rho xs (ae_vid (xs 1)) v9) 7 H h → am_call am_cod 10 a (As.map (ae_c (lw_rho xs (ae_vid (xs 1)) v9))) h (fun v h' => v = some (.int (lw_rho xs (ae_vid (xs 1)) v9 w.1)) ∧ ae_R (lw_rho xs (ae_vid (xs 1)) v9) 7 (H.1, H.2.1, H.2.2.1, w.2) h') := by
  intro a As H w hs h hR
  rcases ae_as_inv hs with ⟨rfl, rfl, rfl, rfl⟩ | ⟨rfl, rfl, rfl, rfl⟩
  · refine ae_mth_ok ae_idC lw_in0 hR rfl (fun env v H' z hi h' hr => ?_)
    rw [Bool.and_eq_true] at z
    have hk := ae_keep_ok z.2 hr
    refine ⟨?_, ae_idv_ok z.1 hi, hk⟩
    have := hr.1
    rw [hk.1] at this
    exact this.symm
  · refine ae_mth_ok ae_idM lw_in0 hR rfl (fun env v H' z hi h' hr => ?_)
    rw [Bool.and_eq_true] at z
    have h1 : H'.2.2.1 = 175 := Nat.eq_of_beq_eq_true z.2
    exact ⟨h1, ae_idv_ok z.1 hi, ae_R_no (H' := ae_H0) hr h1 ae_H0_7 ae_H0_8⟩
theorem lw_yr_in {xs : Nat → Int32} {v8 v9 : Int32} {lo hi : Int} (h1 : lo ≤ (xs 3).toInt) (h2 : (xs 3).toInt ≤ hi) : ae_in (lw_rho xs v8 v9) (ae_env0.set 3 (lo, hi)) := ae_in_set lw_in0 h1 h2
theorem lw_asY {xs : Nat → Int32} {v9 : Int32} : ∀ a As H w, ae_asY a As H = some w → ∀ h, ae_R (lw_rho xs (ae_vyr (xs 1) (xs 2) (xs 3)) v9) 7 H h → am_call am_cod 10 a (As.map (ae_c (lw_rho xs (ae_vyr (xs 1) (xs 2) (xs 3)) v9))) h (fun v h' => v = some (.int (lw_rho xs (ae_vyr (xs 1) (xs 2) (xs 3)) v9 w.1)) ∧ ae_R (lw_rho xs (ae_vyr (xs 1) (xs 2) (xs 3)) v9) 7 (H.1, H.2.1, H.2.2.1, w.2) h') := by
  intro a As H w hs h hR
  have hw := lw_full (xs 3)
  have five : (-2147483648 ≤ (xs 3).toInt ∧ (xs 3).toInt ≤ -1) ∨ (0 ≤ (xs 3).toInt ∧ (xs 3).toInt ≤ 0) ∨ (1 ≤ (xs 3).toInt ∧ (xs 3).toInt ≤ 1) ∨ (2 ≤ (xs 3).toInt ∧ (xs 3).toInt ≤ 2) ∨ (3 ≤ (xs 3).toInt ∧ (xs 3).toInt ≤ 2147483647) := by omega
  rcases ae_as_inv hs with ⟨rfl, rfl, rfl, rfl⟩ | ⟨rfl, rfl, rfl, rfl⟩
  · have fin : ∀ env v H', (ae_yrv env v && ae_keep H') = true → ae_in (lw_rho xs (ae_vyr (xs 1) (xs 2) (xs 3)) v9) env → ∀ h', ae_R (lw_rho xs (ae_vyr (xs 1) (xs 2) (xs 3)) v9) 7 H' h' → H'.2.2.1 = 175 ∧ (v.map (ae_c (lw_rho xs (ae_vyr (xs 1) (xs 2) (xs 3)) v9)) = some (.int (ae_vyr (xs 1) (xs 2) (xs 3))) ∧ ae_R (lw_rho xs (ae_vyr (xs 1) (xs 2) (xs 3)) v9) 7 ae_Hr h') := by
      intro env v H' z hi h' hr
      rw [Bool.and_eq_true] at z
      have hk := ae_keep_ok z.2 hr
      refine ⟨?_, ae_yrv_ok z.1 hi, hk⟩
      have := hr.1
      rw [hk.1] at this
      exact this.symm
    rcases five with q | q | q | q | q
    · exact ae_mth_ok ae_yrC0 (lw_yr_in q.1 q.2) hR rfl fin
    · exact ae_mth_ok ae_yrC1 (lw_yr_in q.1 q.2) hR rfl fin
    · exact ae_mth_ok ae_yrC2 (lw_yr_in q.1 q.2) hR rfl fin
    · exact ae_mth_ok ae_yrC3 (lw_yr_in q.1 q.2) hR rfl fin
    · exact ae_mth_ok ae_yrC4 (lw_yr_in q.1 q.2) hR rfl fin
  · have fin : ∀ env v H', (ae_yrv env v && Nat.beq H'.2.2.1 175) = true → ae_in (lw_rho xs (ae_vyr (xs 1) (xs 2) (xs 3)) v9) env → ∀ h', ae_R (lw_rho xs (ae_vyr (xs 1) (xs 2) (xs 3)) v9) 7 H' h' → H'.2.2.1 = 175 ∧ (v.map (ae_c (lw_rho xs (ae_vyr (xs 1) (xs 2) (xs 3)) v9)) = some (.int (ae_vyr (xs 1) (xs 2) (xs 3))) ∧ ae_R (lw_rho xs (ae_vyr (xs 1) (xs 2) (xs 3)) v9) 7 (ae_H0.1, ae_H0.2.1, 175, 175) h') := by
      intro env v H' z hi h' hr
      rw [Bool.and_eq_true] at z
      have h1 : H'.2.2.1 = 175 := Nat.eq_of_beq_eq_true z.2
      exact ⟨h1, ae_yrv_ok z.1 hi, ae_R_no (H' := ae_H0) hr h1 ae_H0_7 ae_H0_8⟩
    rcases five with q | q | q | q | q
    · exact ae_mth_ok ae_yrM0 (lw_yr_in q.1 q.2) hR rfl fin
    · exact ae_mth_ok ae_yrM1 (lw_yr_in q.1 q.2) hR rfl fin
    · exact ae_mth_ok ae_yrM2 (lw_yr_in q.1 q.2) hR rfl fin
    · exact ae_mth_ok ae_yrM3 (lw_yr_in q.1 q.2) hR rfl fin
    · exact ae_mth_ok ae_yrM4 (lw_yr_in q.1 q.2) hR rfl fin
/-- eight signs out of two ints -/
def lw_l (xs : Nat → Int32) (c : Nat) : Int64 := ae_lc (lw_rho xs 0 0) c
theorem lw_lc {xs : Nat → Int32} {v8 v9 w8 w9 : Int32} (c : Nat) (hc : c = 1012 ∨ c = 1034 ∨ c = 1056) : ae_lc (lw_rho xs v8 v9) c = ae_lc (lw_rho xs w8 w9) c := by
  have key : ∀ i j : Nat, i < 7 → j < 7 → ae_lc (lw_rho xs v8 v9) (1000 + (10 * i + j)) = ae_lc (lw_rho xs w8 w9) (1000 + (10 * i + j)) := by
    intro i j hi hj
    have e : ∀ (u v : Int32) (k : Nat), k < 7 → lw_rho xs u v k = xs k := by
      intro u v k hk
      unfold lw_rho
      rw [ae_bltd, decide_eq_true hk]
      rfl
    rw [ae_lc_3 (by omega) (by omega), ae_lc_3 (by omega) (by omega)]
    unfold ae_sh ae_mk
    rw [e _ _ i hi, e _ _ j hj, e _ _ i hi, e _ _ j hj]
  rcases hc with rfl | rfl | rfl
  · exact key 1 2 (by decide) (by decide)
  · exact key 3 4 (by decide) (by decide)
  · exact key 5 6 (by decide) (by decide)
def lw_vf (xs : Nat → Int32) : Int32 := nI (fd_3 (lw_l xs 1012) (lw_l xs 1034) (lw_l xs 1056) (0, fun _ => 0)).1
theorem lw_so {ρ : Nat → Int32} {H : ae_H} {h : am_H} {o : Nat} {e : Nat × Nat} (hR : ae_R ρ 7 H h) (h1 : ae_so H o = some e) : am_so h o = some e := ae_so_ok hR h1
theorem lw_fdh {o a b p q : Nat} {h : am_H} {s : fd_T} (h1 : p ≠ o) (h2 : p ≠ b) : (fd_h o a b h s).1 p q = h.1 p q := by simp [fd_h, h1, h2]
theorem lw_asF {xs : Nat → Int32} {v9 : Int32} : ∀ a As H w, ae_asF a As H = some w → ∀ h, ae_R (lw_rho xs (lw_vf xs) v9) 7 H h → am_call am_cod 10 a (As.map (ae_c (lw_rho xs (lw_vf xs) v9))) h (fun v h' => v = some (.int (lw_rho xs (lw_vf xs) v9 w.1)) ∧ ae_R (lw_rho xs (lw_vf xs) v9) 7 (H.1, H.2.1, H.2.2.1, w.2) h') := by
  intro a As H w hs h hR
  have c1 : ae_lc (lw_rho xs (lw_vf xs) v9) 1012 = lw_l xs 1012 := lw_lc _ (Or.inl rfl)
  have c2 : ae_lc (lw_rho xs (lw_vf xs) v9) 1034 = lw_l xs 1034 := lw_lc _ (Or.inr (Or.inl rfl))
  have c3 : ae_lc (lw_rho xs (lw_vf xs) v9) 1056 = lw_l xs 1056 := lw_lc _ (Or.inr (Or.inr rfl))
  obtain ⟨r1, r2, r3, r4, r5, r6, r7, r8⟩ := id hR
  rcases ae_as_inv hs with ⟨rfl, rfl, rfl, rfl⟩ | ⟨rfl, rfl, rfl, rfl⟩
  · show am_call am_cod 10 12 [.ref 0, .long (ae_lc (lw_rho xs (lw_vf xs) v9) 1012), .long (ae_lc (lw_rho xs (lw_vf xs) v9) 1034), .long (ae_lc (lw_rho xs (lw_vf xs) v9) 1056)] h _
    rw [c1, c2, c3]
    refine fd_feedC (d := 8) (t := 0) (lw_so hR (by decide +kernel)) (lw_so hR (by decide +kernel)) (lw_so hR (by decide +kernel)) ((r5 0 0 (by decide)).trans (by decide +kernel)) ((r5 1 0 (by decide)).trans (by decide +kernel)) ((r4 1 1 (by decide)).trans ?_) (by decide) ⟨?_, ?_⟩
    · rw [show ae_lk ae_H0.1 1 1 (.inl 0) = .inl 0 by decide +kernel]
      rfl
    · rw [fd_3_fst (s := (0, h.1 2)) (t := (0, fun _ => 0)) rfl]
      rfl
    · refine ⟨r1, r2, r3, fun o k ho => ?_, fun o k ho => r5 o k ⟨Nat.zero_le _, ho.2⟩, fun j hj => ?_, r7, r8⟩
      · have ho : 154 ≤ o ∧ o < 175 := ho
        refine Eq.trans ?_ (r4 o k ⟨Nat.zero_le _, ho.2⟩)
        exact lw_fdh (by omega) (by omega)
      · exact (lw_fdh (by decide) (by decide)).trans (r6 j hj)
  · show am_call am_cod 10 177 [.ref 154, .long (ae_lc (lw_rho xs (lw_vf xs) v9) 1012), .long (ae_lc (lw_rho xs (lw_vf xs) v9) 1034), .long (ae_lc (lw_rho xs (lw_vf xs) v9) 1056)] h _
    rw [c1, c2, c3]
    refine fd_feedM (d := 8) (t := 0) (lw_so hR (by decide +kernel)) (lw_so hR (by decide +kernel)) ((r5 154 1 (by decide)).trans (by decide +kernel)) ((r4 154 2 (by decide)).trans ?_) (by decide) ⟨?_, ?_⟩
    · rw [show ae_lk ae_Hr.1 154 2 (.inl 0) = .inl 0 by decide +kernel]
      rfl
    · rw [fd_3_fst (s := (0, h.1 155)) (t := (0, fun _ => 0)) rfl]
      rfl
    · refine ⟨r1, r2, r3, fun o k ho => by have : 175 ≤ o ∧ o < 175 := ho; omega, fun o k ho => by have : 175 ≤ o ∧ o < 175 := ho; omega, fun j hj => ?_, r7, r8⟩
      refine (lw_fdh (by decide) (by decide)).trans (Eq.trans ?_ (r6 j hj))
      simp [am_wI]

theorem ae_ops (j : Nat) (hj : j < 44) : j = 0 ∨ j = 15 ∨ j = 40 ∨ j = 41 ∨ ae_op 7 j = true := by
  have h : j = 0 ∨ j = 1 ∨ j = 2 ∨ j = 3 ∨ j = 4 ∨ j = 5 ∨ j = 6 ∨ j = 7 ∨ j = 8 ∨ j = 9 ∨ j = 10 ∨ j = 11 ∨ j = 12 ∨ j = 13 ∨ j = 14 ∨ j = 15 ∨ j = 16 ∨ j = 17 ∨ j = 18 ∨ j = 19 ∨ j = 20 ∨ j = 21 ∨ j = 22 ∨ j = 23 ∨ j = 24 ∨ j = 25 ∨ j = 26 ∨ j = 27 ∨ j = 28 ∨ j = 29 ∨ j = 30 ∨ j = 31 ∨ j = 32 ∨ j = 33 ∨ j = 34 ∨ j = 35 ∨ j = 36 ∨ j = 37 ∨ j = 38 ∨ j = 39 ∨ j = 40 ∨ j = 41 ∨ j = 42 ∨ j = 43 := by omega
  rcases h with rfl | rfl | rfl | rfl | rfl | rfl | rfl | rfl | rfl | rfl | rfl | rfl | rfl | rfl | rfl | rfl | rfl | rfl | rfl | rfl | rfl | rfl | rfl | rfl | rfl | rfl | rfl | rfl | rfl | rfl | rfl | rfl | rfl | rfl | rfl | rfl | rfl | rfl | rfl | rfl | rfl | rfl | rfl | rfl
  · exact Or.inl rfl
  · exact Or.inr (Or.inr (Or.inr (Or.inr ae_op_1)))
  · exact Or.inr (Or.inr (Or.inr (Or.inr ae_op_2)))
  · exact Or.inr (Or.inr (Or.inr (Or.inr ae_op_3)))
  · exact Or.inr (Or.inr (Or.inr (Or.inr ae_op_4)))
  · exact Or.inr (Or.inr (Or.inr (Or.inr ae_op_5)))
  · exact Or.inr (Or.inr (Or.inr (Or.inr ae_op_6)))
  · exact Or.inr (Or.inr (Or.inr (Or.inr ae_op_7)))
  · exact Or.inr (Or.inr (Or.inr (Or.inr ae_op_8)))
  · exact Or.inr (Or.inr (Or.inr (Or.inr ae_op_9)))
  · exact Or.inr (Or.inr (Or.inr (Or.inr ae_op_10)))
  · exact Or.inr (Or.inr (Or.inr (Or.inr ae_op_11)))
  · exact Or.inr (Or.inr (Or.inr (Or.inr ae_op_12)))
  · exact Or.inr (Or.inr (Or.inr (Or.inr ae_op_13)))
  · exact Or.inr (Or.inr (Or.inr (Or.inr ae_op_14)))
  · exact Or.inr (Or.inl rfl)
  · exact Or.inr (Or.inr (Or.inr (Or.inr ae_op_16)))
  · exact Or.inr (Or.inr (Or.inr (Or.inr ae_op_17)))
  · exact Or.inr (Or.inr (Or.inr (Or.inr ae_op_18)))
  · exact Or.inr (Or.inr (Or.inr (Or.inr ae_op_19)))
  · exact Or.inr (Or.inr (Or.inr (Or.inr ae_op_20)))
  · exact Or.inr (Or.inr (Or.inr (Or.inr ae_op_21)))
  · exact Or.inr (Or.inr (Or.inr (Or.inr ae_op_22)))
  · exact Or.inr (Or.inr (Or.inr (Or.inr ae_op_23)))
  · exact Or.inr (Or.inr (Or.inr (Or.inr ae_op_24)))
  · exact Or.inr (Or.inr (Or.inr (Or.inr ae_op_25)))
  · exact Or.inr (Or.inr (Or.inr (Or.inr ae_op_26)))
  · exact Or.inr (Or.inr (Or.inr (Or.inr ae_op_27)))
  · exact Or.inr (Or.inr (Or.inr (Or.inr ae_op_28)))
  · exact Or.inr (Or.inr (Or.inr (Or.inr ae_op_29)))
  · exact Or.inr (Or.inr (Or.inr (Or.inr ae_op_30)))
  · exact Or.inr (Or.inr (Or.inr (Or.inr ae_op_31)))
  · exact Or.inr (Or.inr (Or.inr (Or.inr ae_op_32)))
  · exact Or.inr (Or.inr (Or.inr (Or.inr ae_op_33)))
  · exact Or.inr (Or.inr (Or.inr (Or.inr ae_op_34)))
  · exact Or.inr (Or.inr (Or.inr (Or.inr ae_op_35)))
  · exact Or.inr (Or.inr (Or.inr (Or.inr ae_op_36)))
  · exact Or.inr (Or.inr (Or.inr (Or.inr ae_op_37)))
  · exact Or.inr (Or.inr (Or.inr (Or.inr ae_op_38)))
  · exact Or.inr (Or.inr (Or.inr (Or.inr ae_op_39)))
  · exact Or.inr (Or.inr (Or.inl rfl))
  · exact Or.inr (Or.inr (Or.inr (Or.inl rfl)))
  · exact Or.inr (Or.inr (Or.inr (Or.inr ae_op_42)))
  · exact Or.inr (Or.inr (Or.inr (Or.inr ae_op_43)))
