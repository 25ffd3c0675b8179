/-! A STEP OF THE CHECKER -/
variable {ρ : Nat → Int32} {env : ae_e} {H : ae_H} {h : am_H} {LL : Nat}
theorem ae_kd3 (n : Nat) : n = 0 ∨ n = 1 ∨ ∃ m, n = m + 2 := by
  match n with
  | 0 => exact Or.inl rfl
  | 1 => exact Or.inr (Or.inl rfl)
  | m + 2 => exact Or.inr (Or.inr ⟨m, rfl⟩)
theorem ae_blt {a b : Nat} (h : Nat.blt a b = true) : a < b := Nat.le_of_ble_eq_true h
set_option maxHeartbeats 4000000 in
set_option maxRecDepth 20000 in
theorem ae_stp_ok {nL lim : Nat} {rt : Option FieldType} {pc nx a b c d : Nat} {i : Instr} {lv : ae_l} {st : List ae_v} {K : ae_e → Nat → ae_l → List ae_v → ae_H → Bool} {C : Nat → List ae_v → Nat → List ae_v → Bool} {Rt : Option ae_v → Bool} {cp : am_P} {S : Nat → am_V → List Value → am_H → Prop} {Qr : am_Q} (hin : ae_in ρ env) (hR : ae_R ρ LL H h)
    (hK : ∀ env' pc' lv' st' H', K env' pc' lv' st' H' = true → ae_in ρ env' → ∀ h', ae_R ρ LL H' h' → S pc' (ae_cl ρ lv') (st'.map (ae_c ρ)) h')
    (hC : ∀ a As nx rest, C a As nx rest = true → cp a (As.map (ae_c ρ)) h (fun v h' => S nx (ae_cl ρ lv) (v.toList ++ rest.map (ae_c ρ)) h'))
    (hRt : ∀ v, Rt v = true → Qr (v.map (ae_c ρ)) h)
    (hs : ae_stp i nx a b c d LL env H nL lim rt pc lv st K C Rt = true) : am_stp cp nL lim rt pc (i, nx, a, b, c, d) (ae_cl ρ lv) (st.map (ae_c ρ)) h S Qr := by
  have go : ∀ {env' : ae_e} {pc' : Nat} {lv' : ae_l} {st' : List ae_v} {H' : ae_H}, K env' pc' lv' st' H' = true → ae_in ρ env' → ∀ {h'}, ae_R ρ LL H' h' → S pc' (ae_cl ρ lv') (st'.map (ae_c ρ)) h' := fun k i _ r => hK _ _ _ _ _ k i _ r
  cases i
  case iconst n =>
    unfold ae_stp at hs
    dsimp only at hs
    exact go hs hin hR
  case bipush n =>
    unfold ae_stp at hs
    dsimp only at hs
    have q := go hs hin hR
    rw [List.map_cons, ae_ofI] at q
    exact q
  case sipush n =>
    unfold ae_stp at hs
    dsimp only at hs
    have q := go hs hin hR
    rw [List.map_cons, ae_ofI] at q
    exact q
  case ldc_w n =>
    unfold ae_stp at hs
    dsimp only at hs
    rw [Bool.and_eq_true] at hs
    have hb1 : Nat.beq b 1 = false := by
      cases hz : Nat.beq b 1 with
      | false => rfl
      | true => rw [hz] at hs; exact absurd hs.1 (by decide)
    have q := go hs.2 hin hR
    rw [List.map_cons, ae_ofI] at q
    show (bif Nat.beq b 1 then _ else _)
    rw [hb1]
    exact q
  case ldc n =>
    unfold ae_stp at hs
    dsimp only at hs
    rw [Bool.and_eq_true] at hs
    have hb1 : Nat.beq b 1 = false := by
      cases hz : Nat.beq b 1 with
      | false => rfl
      | true => rw [hz] at hs; exact absurd hs.1 (by decide)
    have q := go hs.2 hin hR
    rw [List.map_cons, ae_ofI] at q
    show (bif Nat.beq b 1 then _ else _)
    rw [hb1]
    exact q
  case lconst n =>
    unfold ae_stp at hs
    dsimp only at hs
    have q := go hs hin hR
    rw [List.map_cons, ae_ofL] at q
    exact q
  case ldc2_w n =>
    unfold ae_stp at hs
    dsimp only at hs
    have q := go hs hin hR
    rw [List.map_cons, ae_ofL] at q
    exact q
  case iload_n k =>
    unfold ae_stp at hs
    dsimp only at hs
    obtain ⟨x, y, e1, e2, hs1⟩ := ae_li_inv (ρ := ρ) hs
    have q := go hs1 hin hR
    rw [List.map_cons, e2] at q
    show am_li _ _ _
    unfold am_li
    rw [e1]
    exact q
  case iload k =>
    unfold ae_stp at hs
    dsimp only at hs
    obtain ⟨x, y, e1, e2, hs1⟩ := ae_li_inv (ρ := ρ) hs
    have q := go hs1 hin hR
    rw [List.map_cons, e2] at q
    show am_li _ _ _
    unfold am_li
    rw [e1]
    exact q
  case lload_n k =>
    unfold ae_stp at hs
    dsimp only at hs
    obtain ⟨x, y, e1, e2, hs1⟩ := ae_ll_inv (ρ := ρ) hs
    have q := go hs1 hin hR
    rw [List.map_cons, e2] at q
    show am_ll _ _ _
    unfold am_ll
    rw [e1]
    exact q
  case lload k =>
    unfold ae_stp at hs
    dsimp only at hs
    obtain ⟨x, y, e1, e2, hs1⟩ := ae_ll_inv (ρ := ρ) hs
    have q := go hs1 hin hR
    rw [List.map_cons, e2] at q
    show am_ll _ _ _
    unfold am_ll
    rw [e1]
    exact q
  case aload_n k =>
    unfold ae_stp at hs
    dsimp only at hs
    obtain ⟨x, y, e1, e2, hs1⟩ := ae_la_inv (ρ := ρ) hs
    have q := go hs1 hin hR
    rw [List.map_cons, e2] at q
    show am_la _ _ _
    unfold am_la
    rw [e1]
    exact q
  case aload k =>
    unfold ae_stp at hs
    dsimp only at hs
    obtain ⟨x, y, e1, e2, hs1⟩ := ae_la_inv (ρ := ρ) hs
    have q := go hs1 hin hR
    rw [List.map_cons, e2] at q
    show am_la _ _ _
    unfold am_la
    rw [e1]
    exact q
  case istore_n k =>
    unfold ae_stp at hs
    dsimp only at hs
    obtain ⟨x, r, e1, hs1⟩ := ae_pS_inv hin hs
    rw [Bool.and_eq_true] at hs1
    have q := go hs1.2 hin hR
    rw [ae_s1_c, ae_iv_c] at q
    rw [e1]
    exact ⟨ae_blt hs1.1, q⟩
  case lstore_n k =>
    unfold ae_stp at hs
    dsimp only at hs
    obtain ⟨x, y, r, e0, e1, hs1⟩ := ae_pL_inv (ρ := ρ) hs
    rw [Bool.and_eq_true] at hs1
    have q := go hs1.2 hin hR
    rw [ae_s2_c, e0] at q
    rw [e1]
    exact ⟨ae_blt hs1.1, q⟩
  case astore_n k =>
    unfold ae_stp at hs
    dsimp only at hs
    obtain ⟨x, r, e1, hs1⟩ := ae_pR_inv (ρ := ρ) hs
    rw [Bool.and_eq_true] at hs1
    have q := go hs1.2 hin hR
    rw [ae_s1_c] at q
    rw [e1]
    exact ⟨ae_blt hs1.1, q⟩
  case istore k =>
    unfold ae_stp at hs
    dsimp only at hs
    obtain ⟨x, r, e1, hs1⟩ := ae_pS_inv hin hs
    rw [Bool.and_eq_true] at hs1
    have q := go hs1.2 hin hR
    rw [ae_s1_c, ae_iv_c] at q
    rw [e1]
    exact ⟨ae_blt hs1.1, q⟩
  case lstore k =>
    unfold ae_stp at hs
    dsimp only at hs
    obtain ⟨x, y, r, e0, e1, hs1⟩ := ae_pL_inv (ρ := ρ) hs
    rw [Bool.and_eq_true] at hs1
    have q := go hs1.2 hin hR
    rw [ae_s2_c, e0] at q
    rw [e1]
    exact ⟨ae_blt hs1.1, q⟩
  case astore k =>
    unfold ae_stp at hs
    dsimp only at hs
    obtain ⟨x, r, e1, hs1⟩ := ae_pR_inv (ρ := ρ) hs
    rw [Bool.and_eq_true] at hs1
    have q := go hs1.2 hin hR
    rw [ae_s1_c] at q
    rw [e1]
    exact ⟨ae_blt hs1.1, q⟩
  case iinc k n =>
    unfold ae_stp at hs
    dsimp only at hs
    obtain ⟨x, y, e1, e2, hs1⟩ := ae_li_inv (ρ := ρ) hs
    obtain ⟨z, r, e3, hs2⟩ := ae_pI_inv hin hs1
    rw [Bool.and_eq_true] at hs2
    have q := go hs2.2 hin hR
    have e4 : y = Int32.ofInt z := by
      have w : [ae_c ρ x] = .int (Int32.ofInt z) :: r.map (ae_c ρ) := e3
      rw [e2] at w
      injection w with w1 w2
      injection w1
    rw [ae_s1_c, ae_i2_c, ← e4] at q
    show am_li _ _ _
    unfold am_li
    rw [e1]
    exact ⟨ae_blt hs2.1, q⟩
  case iadd =>
    unfold ae_stp at hs
    dsimp only at hs
    obtain ⟨y, r, e1, hs1⟩ := ae_pI_inv hin hs
    obtain ⟨x, r2, e2, hs2⟩ := ae_pI_inv hin hs1
    have q := go hs2 hin hR
    rw [List.map_cons, ae_i2_c] at q
    rw [e1, e2]
    exact q
  case isub =>
    unfold ae_stp at hs
    dsimp only at hs
    obtain ⟨y, r, e1, hs1⟩ := ae_pI_inv hin hs
    obtain ⟨x, r2, e2, hs2⟩ := ae_pI_inv hin hs1
    have q := go hs2 hin hR
    rw [List.map_cons, ae_i2_c] at q
    rw [e1, e2]
    exact q
  case imul =>
    unfold ae_stp at hs
    dsimp only at hs
    obtain ⟨y, r, e1, hs1⟩ := ae_pI_inv hin hs
    obtain ⟨x, r2, e2, hs2⟩ := ae_pI_inv hin hs1
    have q := go hs2 hin hR
    rw [List.map_cons, ae_i2_c] at q
    rw [e1, e2]
    exact q
  case ior =>
    unfold ae_stp at hs
    dsimp only at hs
    obtain ⟨y, r, e1, hs1⟩ := ae_pI_inv hin hs
    obtain ⟨x, r2, e2, hs2⟩ := ae_pI_inv hin hs1
    have q := go hs2 hin hR
    rw [List.map_cons, ae_i2_c] at q
    rw [e1, e2]
    exact q
  case ixor =>
    unfold ae_stp at hs
    dsimp only at hs
    obtain ⟨y, r, e1, hs1⟩ := ae_pI_inv hin hs
    obtain ⟨x, r2, e2, hs2⟩ := ae_pI_inv hin hs1
    have q := go hs2 hin hR
    rw [List.map_cons, ae_i2_c] at q
    rw [e1, e2]
    exact q
  case ishl =>
    unfold ae_stp at hs
    dsimp only at hs
    obtain ⟨y, r, e1, hs1⟩ := ae_pI_inv hin hs
    obtain ⟨x, r2, e2, hs2⟩ := ae_pI_inv hin hs1
    have q := go hs2 hin hR
    rw [List.map_cons, ae_i2_c] at q
    rw [e1, e2]
    exact q
  case ishr =>
    unfold ae_stp at hs
    dsimp only at hs
    obtain ⟨y, r, e1, hs1⟩ := ae_pI_inv hin hs
    obtain ⟨x, r2, e2, hs2⟩ := ae_pI_inv hin hs1
    have q := go hs2 hin hR
    rw [List.map_cons, ae_i2_c] at q
    rw [e1, e2]
    exact q
  case iushr =>
    unfold ae_stp at hs
    dsimp only at hs
    obtain ⟨y, r, e1, hs1⟩ := ae_pI_inv hin hs
    obtain ⟨x, r2, e2, hs2⟩ := ae_pI_inv hin hs1
    have q := go hs2 hin hR
    rw [List.map_cons, ae_i2_c] at q
    rw [e1, e2]
    exact q
  case iand =>
    unfold ae_stp at hs
    dsimp only at hs
    obtain ⟨y, r, e1, hs1⟩ := ae_pI_inv hin hs
    obtain ⟨x, r2, e2, hs2⟩ := ae_pS_inv hin hs1
    rcases x with x | x
    · have q := go hs2 hin hR
      rw [List.map_cons, ae_i2_c] at q
      rw [e1, e2]
      exact q
    · rw [Bool.and_eq_true, Bool.and_eq_true] at hs2
      have q := go hs2.2.2 hin hR
      have e3 : x = 0 := Nat.eq_of_beq_eq_true hs2.1
      have e4 : y = 63 := of_decide_eq_true hs2.2.1
      rw [e1, e2, e3, e4]
      have e5 : ae_c ρ (.inr (.inl 7)) = .int (ρ 0 &&& Int32.ofInt 63) := by
        show Value.int (ρ 7) = _
        rw [hin.2]
        rfl
      rw [List.map_cons, e5] at q
      exact q
  case idiv =>
    unfold ae_stp at hs
    dsimp only at hs
    obtain ⟨y, r, e1, hs1⟩ := ae_pI_inv hin hs
    obtain ⟨x, r2, e2, hs2⟩ := ae_pI_inv hin hs1
    rw [Bool.and_eq_true] at hs2
    have q := go hs2.2 hin hR
    rw [List.map_cons, ae_i2_c] at q
    rw [e1, e2]
    exact ⟨fun z => by simp [z] at hs2, q⟩
  case irem =>
    unfold ae_stp at hs
    dsimp only at hs
    obtain ⟨y, r, e1, hs1⟩ := ae_pI_inv hin hs
    obtain ⟨x, r2, e2, hs2⟩ := ae_pI_inv hin hs1
    rw [Bool.and_eq_true] at hs2
    have q := go hs2.2 hin hR
    rw [List.map_cons, ae_i2_c] at q
    rw [e1, e2]
    exact ⟨fun z => by simp [z] at hs2, q⟩
  case ineg =>
    unfold ae_stp at hs
    dsimp only at hs
    obtain ⟨y, r, e1, hs1⟩ := ae_pI_inv hin hs
    have q := go hs1 hin hR
    rw [List.map_cons, ae_ofI] at q
    rw [e1]
    exact q
  case i2l =>
    unfold ae_stp at hs
    dsimp only at hs
    obtain ⟨x, r, e1, hs1⟩ := ae_pS_inv hin hs
    rw [e1]
    rcases x with x | x
    · have q := go hs1 hin hR
      rw [List.map_cons, ae_ofL] at q
      exact q
    · have hs1 : (Nat.blt x 10 && K env nx lv (.inr (.inr (.inr (.inr x))) :: r) H) = true := hs1
      rw [Bool.and_eq_true] at hs1
      have q := go hs1.2 hin hR
      have e2 : ae_c ρ (.inr (.inr (.inr (.inr x)))) = .long (ρ x).toInt64 := by
        show Value.long (ae_lc ρ x) = _
        rw [ae_lc_0 (ae_blt hs1.1)]
      rw [List.map_cons, e2] at q
      exact q
  case lshl =>
    unfold ae_stp at hs
    dsimp only at hs
    obtain ⟨y, r, e1, hs1⟩ := ae_pI_inv hin hs
    obtain ⟨x, r2, e2, hs2⟩ := ae_pL_inv2 (ρ := ρ) hs1
    rw [e1, e2]
    rcases x with x | x
    · exact Bool.noConfusion hs2
    · have hs2 : (decide (y = 32) && (Nat.blt x 10 && K env nx lv (.inr (.inr (.inr (.inr (100 + x)))) :: r2) H)) = true := hs2
      rw [Bool.and_eq_true, Bool.and_eq_true] at hs2
      have q := go hs2.2.2 hin hR
      have hx := ae_blt hs2.2.1
      have e3 : ae_c ρ (.inr (.inr (.inr (.inr (100 + x))))) = .long ((ρ x).toInt64 <<< ((Int32.ofInt y).toInt64 &&& 63)) := by
        show Value.long (ae_lc ρ (100 + x)) = _
        rw [ae_lc_1 hx, of_decide_eq_true hs2.1]
        rfl
      have e4 : ae_c ρ (.inr (.inr (.inr (.inr x)))) = .long (ρ x).toInt64 := by
        show Value.long (ae_lc ρ x) = _
        rw [ae_lc_0 hx]
      rw [List.map_cons, e3] at q
      rw [e4]
      exact q
  case land =>
    unfold ae_stp at hs
    dsimp only at hs
    obtain ⟨y, r, e1, hs1⟩ := ae_pL_inv2 (ρ := ρ) hs
    obtain ⟨x, r2, e2, hs2⟩ := ae_pL_inv2 (ρ := ρ) hs1
    rw [e1, e2]
    rcases x with x | x
    · exact Bool.noConfusion hs2
    · rcases y with y | y
      · have hs2 : (decide (y = 4294967295) && (Nat.blt x 10 && K env nx lv (.inr (.inr (.inr (.inr (200 + x)))) :: r2) H)) = true := hs2
        rw [Bool.and_eq_true, Bool.and_eq_true] at hs2
        have q := go hs2.2.2 hin hR
        have hx := ae_blt hs2.2.1
        have e3 : ae_c ρ (.inr (.inr (.inr (.inr (200 + x))))) = .long ((ρ x).toInt64 &&& Int64.ofInt y) := by
          show Value.long (ae_lc ρ (200 + x)) = _
          rw [ae_lc_2 hx, of_decide_eq_true hs2.1]
          rfl
        have e4 : ae_c ρ (.inr (.inr (.inr (.inr x)))) = .long (ρ x).toInt64 := by
          show Value.long (ae_lc ρ x) = _
          rw [ae_lc_0 hx]
        rw [List.map_cons, e3] at q
        rw [e4]
        exact q
      · exact Bool.noConfusion hs2
  case lor =>
    unfold ae_stp at hs
    dsimp only at hs
    obtain ⟨y, r, e1, hs1⟩ := ae_pL_inv2 (ρ := ρ) hs
    obtain ⟨x, r2, e2, hs2⟩ := ae_pL_inv2 (ρ := ρ) hs1
    rw [e1, e2]
    rcases x with x | x
    · exact Bool.noConfusion hs2
    · rcases y with y | y
      · exact Bool.noConfusion hs2
      · have hs2 : ((Nat.ble 100 x && Nat.blt x 110) && ((Nat.ble 200 y && Nat.blt y 210) && K env nx lv (.inr (.inr (.inr (.inr (1000 + (10 * (x - 100) + (y - 200)))))) :: r2) H)) = true := hs2
        rw [Bool.and_eq_true, Bool.and_eq_true, Bool.and_eq_true, Bool.and_eq_true] at hs2
        obtain ⟨⟨g1, g2⟩, ⟨g3, g4⟩, g5⟩ := hs2
        have g1 := Nat.le_of_ble_eq_true g1
        have g2 := ae_blt g2
        have g3 := Nat.le_of_ble_eq_true g3
        have g4 := ae_blt g4
        have q := go g5 hin hR
        have e3 : ae_c ρ (.inr (.inr (.inr (.inr (1000 + (10 * (x - 100) + (y - 200))))))) = .long (ae_lc ρ x ||| ae_lc ρ y) := by
          show Value.long (ae_lc ρ _) = _
          rw [ae_lc_3 (by omega) (by omega), ← ae_lc_1 (ρ := ρ) (i := x - 100) (by omega), ← ae_lc_2 (ρ := ρ) (i := y - 200) (by omega), show 100 + (x - 100) = x by omega, show 200 + (y - 200) = y by omega]
        rw [List.map_cons, e3] at q
        exact q
  case dup =>
    unfold ae_stp at hs
    dsimp only at hs
    obtain ⟨v, r, e1, hs1⟩ := ae_pV_inv (ρ := ρ) hs
    rw [Bool.and_eq_true] at hs1
    rw [e1]
    exact ⟨by rw [ae_cat_c]; exact Nat.eq_of_beq_eq_true hs1.1, go hs1.2 hin hR⟩
  case pop =>
    unfold ae_stp at hs
    dsimp only at hs
    obtain ⟨v, r, e1, hs1⟩ := ae_pV_inv (ρ := ρ) hs
    rw [Bool.and_eq_true] at hs1
    rw [e1]
    exact ⟨by rw [ae_cat_c]; exact Nat.eq_of_beq_eq_true hs1.1, go hs1.2 hin hR⟩
  case dup2 =>
    unfold ae_stp at hs
    dsimp only at hs
    obtain ⟨v, r, e1, hs1⟩ := ae_pV_inv (ρ := ρ) hs
    obtain ⟨w, r2, e2, hs2⟩ := ae_pV_inv (ρ := ρ) hs1
    rw [Bool.and_eq_true, Bool.and_eq_true] at hs2
    rw [e1, e2]
    exact ⟨by rw [ae_cat_c]; exact Nat.eq_of_beq_eq_true hs2.1, by rw [ae_cat_c]; exact Nat.eq_of_beq_eq_true hs2.2.1, go hs2.2.2 hin hR⟩
  case goto o =>
    unfold ae_stp at hs
    dsimp only at hs
    exact go hs hin hR
  case if_icmp q o =>
    unfold ae_stp at hs
    dsimp only at hs
    obtain ⟨y, r, e1, hs1⟩ := ae_pS_inv hin hs
    obtain ⟨x, r2, e2, hs2⟩ := ae_pS_inv hin hs1
    obtain ⟨env', t, hin', hs3, hc⟩ := ae_br_inv hin hs2
    rw [e1, e2]
    have q := go hs3 hin' hR
    cases t
    · exact ⟨fun z => absurd (hc.mp z) (by decide), fun _ => q⟩
    · exact ⟨fun _ => q, fun z => absurd (hc.mpr rfl) z⟩
  case ifCond q o =>
    unfold ae_stp at hs
    dsimp only at hs
    obtain ⟨x, r, e1, hs1⟩ := ae_pS_inv hin hs
    obtain ⟨env', t, hin', hs3, hc⟩ := ae_br_inv hin hs1
    rw [e1]
    have q := go hs3 hin' hR
    cases t
    · exact ⟨fun z => absurd (hc.mp z) (by decide), fun _ => q⟩
    · exact ⟨fun _ => q, fun z => absurd (hc.mpr rfl) z⟩
  case tableswitch df lo hi os =>
    unfold ae_stp at hs
    dsimp only at hs
    obtain ⟨x, r, e1, hs1⟩ := ae_pS_inv hin hs
    rw [e1]
    rcases x with n | i
    · have q := go hs1 hin hR
      unfold ae_ts at q
      refine ⟨fun z => ?_, fun j hj hj2 => ?_⟩
      · have z : (Int32.ofInt n).toInt < lo ∨ hi < (Int32.ofInt n).toInt := z
        have e2 : (decide ((Int32.ofInt n).toInt < lo) || decide (hi < (Int32.ofInt n).toInt)) = true := by
          rw [Bool.or_eq_true, decide_eq_true_eq, decide_eq_true_eq]
          exact z
        rw [e2] at q
        exact q
      · have hj : (Int32.ofInt n).toInt = lo + j := hj
        have e2 : (decide ((Int32.ofInt n).toInt < lo) || decide (hi < (Int32.ofInt n).toInt)) = false := by
          rw [Bool.or_eq_false_iff]
          exact ⟨decide_eq_false (by omega), decide_eq_false (by omega)⟩
        rw [e2] at q
        have e3 : ((Int32.ofInt n).toInt - lo).toNat = j := by omega
        rw [e3] at q
        exact q
    · have hs1 : (match env[i]? with
        | some w => (bif decide (w.1 ≤ min w.2 (lo - 1)) then K (env.set i (w.1, min w.2 (lo - 1))) (ae_tgt pc df) lv r H else true) && ((bif decide (max w.1 (hi + 1) ≤ w.2) then K (env.set i (max w.1 (hi + 1), w.2)) (ae_tgt pc df) lv r H else true) && (List.range (hi - lo + 1).toNat).all (fun j => bif decide (w.1 ≤ lo + j) && decide (lo + j ≤ w.2) then K (env.set i (lo + j, lo + j)) (ae_tgt pc ((os[j]?).getD 0)) lv r H else true))
        | none => false) = true := hs1
      split at hs1
      · rename_i w hw
        rw [Bool.and_eq_true, Bool.and_eq_true] at hs1
        obtain ⟨k1, k2, k3⟩ := hs1
        have hb := hin.1 i w hw
        refine ⟨fun z => ?_, fun j hj hj2 => ?_⟩
        · have z : (ρ i).toInt < lo ∨ hi < (ρ i).toInt := z
          rcases z with z | z
          · rw [decide_eq_true (by omega : w.1 ≤ min w.2 (lo - 1))] at k1
            exact go k1 (ae_in_set hin hb.1 (by show (ρ i).toInt ≤ min w.2 (lo - 1); omega)) hR
          · rw [decide_eq_true (by omega : max w.1 (hi + 1) ≤ w.2)] at k2
            exact go k2 (ae_in_set hin (by show max w.1 (hi + 1) ≤ (ρ i).toInt; omega) hb.2) hR
        · have hj : (ρ i).toInt = lo + j := hj
          have k4 := List.all_eq_true.mp k3 j (List.mem_range.mpr (by omega))
          rw [decide_eq_true (by omega : w.1 ≤ lo + j), decide_eq_true (by omega : lo + j ≤ w.2)] at k4
          exact go k4 (ae_in_set hin (by show lo + (j : Int) ≤ (ρ i).toInt; omega) (by show (ρ i).toInt ≤ lo + (j : Int); omega)) hR
      · cases hs1
  case getfield k =>
    unfold ae_stp at hs
    dsimp only at hs
    rw [Bool.and_eq_true] at hs
    have hb1 : Nat.beq b 20 = false := by
      cases hz : Nat.beq b 20 with
      | false => rfl
      | true => rw [hz] at hs; exact absurd hs.1 (by decide)
    obtain ⟨o, r, e1, hs1⟩ := ae_pR_inv (ρ := ρ) hs.2
    show (bif Nat.beq b 20 then _ else _)
    rw [hb1]
    rw [Bool.and_eq_true] at hs1
    have ho := ae_ob_inv hs1.1
    have hlt := ae_so_lt hR ho
    have hs2 := hs1.2
    rw [e1]
    refine ⟨ae_sh_ok hR ho, ?_⟩
    unfold am_gv
    rcases ae_kd3 (am_kd b a) with hk | hk | ⟨m, hk⟩
    · rw [hk] at hs2 ⊢
      have q := go hs2 hin hR
      rw [List.map_cons, ae_iv_c, ← hR.2.2.2.1 o a hlt] at q
      exact q
    · rw [hk] at hs2
      cases hs2
    · rw [hk] at hs2 ⊢
      have hs2 : (match ae_lk H.2.1 o a none with
        | some x => K env nx lv (.inr (.inr (.inl x)) :: r) H
        | none => false) = true := hs2
      split at hs2
      · rename_i x hx
        have q := go hs2 hin hR
        show S nx (ae_cl ρ lv) (am_rf (h.2.2.1 o a) :: r.map (ae_c ρ)) h
        rw [hR.2.2.2.2.1 o a hlt, hx]
        exact q
      · cases hs2
  case putfield k =>
    unfold ae_stp at hs
    unfold am_stp
    dsimp only at hs ⊢
    rcases ae_kd3 (am_kd b a) with hk | hk | ⟨m, hk⟩
    · rw [hk] at hs ⊢
      obtain ⟨x, r, e1, hs1⟩ := ae_pS_inv hin hs
      obtain ⟨o, r2, e2, hs2⟩ := ae_pR_inv (ρ := ρ) hs1
      rw [Bool.and_eq_true, Bool.and_eq_true] at hs2
      have ho := ae_ob_inv hs2.1
      rw [e1, e2]
      exact ⟨ae_sh_ok hR ho, (ae_fit_inv hs2.2.1).1, (ae_fit_inv hs2.2.1).2, go hs2.2.2 hin (ae_R_wI hR (ae_so_lt hR ho) x)⟩
    · rw [hk] at hs ⊢
      obtain ⟨x, y, r, e0, e1, hs1⟩ := ae_pL_inv (ρ := ρ) hs
      obtain ⟨o, r2, e2, hs2⟩ := ae_pR_inv (ρ := ρ) hs1
      rw [Bool.and_eq_true] at hs2
      have ho := ae_ob_inv hs2.1
      rw [e1, e2]
      exact ⟨ae_sh_ok hR ho, go hs2.2 hin (h' := am_wL h o a y) hR⟩
    · rw [hk] at hs ⊢
      obtain ⟨x, r, e1, hs1⟩ := ae_pR_inv (ρ := ρ) hs
      obtain ⟨o, r2, e2, hs2⟩ := ae_pR_inv (ρ := ρ) hs1
      rw [Bool.and_eq_true] at hs2
      have ho := ae_ob_inv hs2.1
      rw [e1, e2]
      exact ⟨ae_sh_ok hR ho, go hs2.2 hin (ae_R_wR hR (ae_so_lt hR ho) (some x))⟩
  case iaload =>
    unfold ae_stp at hs
    dsimp only at hs
    obtain ⟨j, r, e1, hs1⟩ := ae_pI_inv hin hs
    obtain ⟨o, r2, e2, hs2⟩ := ae_pR_inv (ρ := ρ) hs1
    rw [e1, e2]
    cases hq : Nat.beq o 3000000 with
    | true =>
      rw [hq] at hs2
      have ho : o = 3000000 := Nat.eq_of_beq_eq_true hq
      subst ho
      cases j with
      | ofNat j =>
        have hs3 : (Nat.blt j LL && K env nx lv (.inr (.inl j) :: r2) H) = true := hs2
        rw [Bool.and_eq_true] at hs3
        have hj := ae_blt hs3.1
        have q := go hs3.2 hin hR
        refine ⟨j, LL, by show some (13, h.2.2.2.1) = _; rw [hR.2.1 (by omega)], hj, ae_nI j, ?_⟩
        rw [hR.2.2.2.2.2.1 j hj]
        exact q
      | negSucc j => exact absurd (show false = true from hs2) (by decide)
    | false =>
      rw [hq] at hs2
      obtain ⟨n, j', h1, h2, h3, h4⟩ := ae_ar_inv hs2
      subst h2
      have q := go h4 hin hR
      rw [List.map_cons, ae_iv_c, ← hR.2.2.2.1 o j' (ae_so_lt hR h1)] at q
      exact ⟨j', n, ae_sh_ok hR h1, h3, ae_nI j', q⟩
  case baload =>
    unfold ae_stp at hs
    dsimp only at hs
    obtain ⟨j, r, e1, hs1⟩ := ae_pI_inv hin hs
    obtain ⟨o, r2, e2, hs2⟩ := ae_pR_inv (ρ := ρ) hs1
    rw [e1, e2]
    cases hq : Nat.beq o 3000000 with
    | true =>
      rw [hq] at hs2
      cases hs2
    | false =>
      rw [hq] at hs2
      obtain ⟨n, j', h1, h2, h3, h4⟩ := ae_ar_inv hs2
      subst h2
      have q := go h4 hin hR
      rw [List.map_cons, ae_iv_c, ← hR.2.2.2.1 o j' (ae_so_lt hR h1)] at q
      exact Or.inl ⟨j', n, ae_sh_ok hR h1, h3, ae_nI j', q⟩
  case aaload =>
    unfold ae_stp at hs
    dsimp only at hs
    obtain ⟨j, r, e1, hs1⟩ := ae_pI_inv hin hs
    obtain ⟨o, r2, e2, hs2⟩ := ae_pR_inv (ρ := ρ) hs1
    rw [e1, e2]
    cases hq : Nat.beq o 3000000 with
    | true =>
      rw [hq] at hs2
      cases hs2
    | false =>
      rw [hq] at hs2
      have hs2 : ((ae_ar (ae_so H o) 16 j (fun _ => true) || ae_ar (ae_so H o) 17 j (fun _ => true)) && (match ae_lk H.2.1 o j.toNat none with
        | some x => K env nx lv (.inr (.inr (.inl x)) :: r2) H
        | none => false)) = true := hs2
      rw [Bool.and_eq_true, Bool.or_eq_true] at hs2
      obtain ⟨h0, hs3⟩ := hs2
      have h1 : ∃ t n j' : Nat, (t = 16 ∨ t = 17) ∧ ae_so H o = some (t, n) ∧ j = (j' : Int) ∧ j' < n := by
        rcases h0 with h0 | h0
        · obtain ⟨n, j', h1, h2, h3, -⟩ := ae_ar_inv h0
          exact ⟨16, n, j', Or.inl rfl, h1, h2, h3⟩
        · obtain ⟨n, j', h1, h2, h3, -⟩ := ae_ar_inv h0
          exact ⟨17, n, j', Or.inr rfl, h1, h2, h3⟩
      obtain ⟨t, n, j', ht, h1, h2, h3⟩ := h1
      subst h2
      split at hs3
      · rename_i x hx
        have q := go hs3 hin hR
        refine ⟨j', n, ?_, h3, ae_nI j', ?_⟩
        · have h5 := ae_sh_ok hR h1
          rcases ht with rfl | rfl
          · exact Or.inl h5
          · exact Or.inr h5
        · rw [hR.2.2.2.2.1 o j' (ae_so_lt hR h1)]
          have hx : ae_lk H.2.1 o j' none = some x := hx
          rw [hx]
          exact q
      · cases hs3
  case iastore =>
    unfold ae_stp at hs
    dsimp only at hs
    obtain ⟨x, r, e1, hs1⟩ := ae_pS_inv hin hs
    obtain ⟨j, r2, e2, hs2⟩ := ae_pI_inv hin hs1
    obtain ⟨o, r3, e3, hs3⟩ := ae_pR_inv (ρ := ρ) hs2
    obtain ⟨n, j', h1, h2, h3, h4⟩ := ae_ar_inv hs3
    subst h2
    rw [e1, e2, e3]
    exact ⟨j', n, ae_so_ok hR h1, h3, ae_nI j', go h4 hin (ae_R_wI hR (ae_so_lt hR h1) x)⟩
  case bastore =>
    unfold ae_stp at hs
    dsimp only at hs
    obtain ⟨x, r, e1, hs1⟩ := ae_pI_inv hin hs
    obtain ⟨j, r2, e2, hs2⟩ := ae_pI_inv hin hs1
    obtain ⟨o, r3, e3, hs3⟩ := ae_pR_inv (ρ := ρ) hs2
    obtain ⟨n, j', h1, h2, h3, h4⟩ := ae_ar_inv hs3
    subst h2
    rw [e1, e2, e3]
    have w := ae_R_wI (k := j') hR (ae_so_lt hR h1) (.inl (vp_nar .boolean (Int32.ofInt x)).toInt)
    have e5 : ae_ci ρ (.inl (vp_nar .boolean (Int32.ofInt x)).toInt) = vp_nar .boolean (Int32.ofInt x) := Int32.ofInt_toInt _
    rw [e5] at w
    exact ⟨j', n, ae_so_ok hR h1, h3, ae_nI j', go h4 hin w⟩
  case lastore =>
    unfold ae_stp at hs
    dsimp only at hs
    obtain ⟨x, y, r, e0, e1, hs1⟩ := ae_pL_inv (ρ := ρ) hs
    obtain ⟨j, r2, e2, hs2⟩ := ae_pI_inv hin hs1
    obtain ⟨o, r3, e3, hs3⟩ := ae_pR_inv (ρ := ρ) hs2
    obtain ⟨n, j', h1, h2, h3, h4⟩ := ae_ar_inv hs3
    subst h2
    rw [e1, e2, e3]
    exact ⟨j', n, ae_so_ok hR h1, h3, ae_nI j', go h4 hin (h' := am_wL h o j' y) hR⟩
  case aastore =>
    unfold ae_stp at hs
    dsimp only at hs
    obtain ⟨x, r, e1, hs1⟩ := ae_pR_inv (ρ := ρ) hs
    obtain ⟨j, r2, e2, hs2⟩ := ae_pI_inv hin hs1
    obtain ⟨o, r3, e3, hs3⟩ := ae_pR_inv (ρ := ρ) hs2
    rw [Bool.and_eq_true, Bool.or_eq_true] at hs3
    rw [e1, e2, e3]
    rcases hs3 with ⟨h0 | h0, hs4⟩
    · obtain ⟨n, j', h1, h2, h3, h4⟩ := ae_ar_inv h0
      subst h2
      exact ⟨j', n, Or.inl ⟨ae_so_ok hR h1, ae_so_ok hR (ae_ob_inv h4)⟩, h3, ae_nI j', go hs4 hin (ae_R_wR hR (ae_so_lt hR h1) (some x))⟩
    · obtain ⟨n, j', h1, h2, h3, h4⟩ := ae_ar_inv h0
      subst h2
      exact ⟨j', n, Or.inr ⟨ae_so_ok hR h1, ae_so_ok hR (ae_ob_inv h4)⟩, h3, ae_nI j', go hs4 hin (ae_R_wR hR (ae_so_lt hR h1) (some x))⟩
  case new k =>
    unfold ae_stp at hs
    dsimp only at hs
    have hs0 : (ae_new H lim b 0 && K env nx lv (.inr (.inr (.inl H.2.2.1)) :: st) (ae_nx H)) = true := hs
    rw [Bool.and_eq_true] at hs0
    obtain ⟨m, h1, h2, h3, h4⟩ := ae_new_inv hR hs0.1
    have h5 : m = 0 := by omega
    subst h5
    have q := go hs0.2 hin (ae_R_nx hR h4)
    have e5 : ae_c ρ (.inr (.inr (.inl H.2.2.1))) = .ref h.2.2.2.2 := by rw [hR.1]; rfl
    rw [List.map_cons, e5] at q
    exact ⟨h2, h3, q⟩
  case newarray t =>
    unfold ae_stp at hs
    dsimp only at hs
    obtain ⟨n, r, e1, hs1⟩ := ae_pI_inv hin hs
    rw [Bool.and_eq_true] at hs1
    obtain ⟨m, h1, h2, h3, h4⟩ := ae_new_inv hR hs1.1
    subst h1
    have q := go hs1.2 hin (ae_R_nx hR h4)
    have e5 : ae_c ρ (.inr (.inr (.inl H.2.2.1))) = .ref h.2.2.2.2 := by rw [hR.1]; rfl
    rw [List.map_cons, e5] at q
    rw [e1]
    exact ⟨m, h2, ae_nI m, h3, q⟩
  case anewarray k =>
    unfold ae_stp at hs
    dsimp only at hs
    obtain ⟨n, r, e1, hs1⟩ := ae_pI_inv hin hs
    rw [Bool.and_eq_true] at hs1
    obtain ⟨m, h1, h2, h3, h4⟩ := ae_new_inv hR hs1.1
    subst h1
    have q := go hs1.2 hin (ae_R_nx hR h4)
    have e5 : ae_c ρ (.inr (.inr (.inl H.2.2.1))) = .ref h.2.2.2.2 := by rw [hR.1]; rfl
    rw [List.map_cons, e5] at q
    rw [e1]
    exact ⟨m, h2, ae_nI m, h3, q⟩
  case arraylength =>
    unfold ae_stp at hs
    dsimp only at hs
    obtain ⟨o, r, e1, hs1⟩ := ae_pR_inv (ρ := ρ) hs
    rw [e1]
    cases hq : Nat.beq o 3000000 with
    | true =>
      rw [hq] at hs1
      have ho : o = 3000000 := Nat.eq_of_beq_eq_true hq
      subst ho
      have hs1 : (Nat.blt 0 LL && K env nx lv (.inl LL :: r) H) = true := hs1
      rw [Bool.and_eq_true] at hs1
      have q := go hs1.2 hin hR
      have e5 : ae_c ρ (.inl (LL : Int)) = .int (nI LL) := by
        show Value.int (Int32.ofInt (LL : Int)) = _
        rw [ae_nI]
      rw [List.map_cons, e5] at q
      exact Or.inl ⟨13, LL, by show some (13, h.2.2.2.1) = _; rw [hR.2.1 (ae_blt hs1.1)], by decide, q⟩
    | false =>
      rw [hq] at hs1
      cases hs1
  case invokevirtual k =>
    unfold ae_stp at hs
    unfold am_stp
    dsimp only at hs ⊢
    have hp := ae_pop_c (ρ := ρ) b [] st
    rw [List.map_nil] at hp
    rw [hp]
    split at hs
    · rename_i As o r hpop
      rw [hpop]
      rw [Bool.and_eq_true, Bool.and_eq_true, Bool.and_eq_true, Bool.and_eq_true] at hs
      obtain ⟨h1, ⟨hd, h2⟩, h3, h4⟩ := hs
      refine ⟨Or.inl ⟨fun z => by rw [z] at hd; exact absurd hd (by decide), ae_sh_ok hR (ae_ob_inv h1)⟩, ?_, by rw [hR.1]; exact Nat.le_of_ble_eq_true h3, hC _ _ _ _ h4⟩
      show ((r.map (ae_c ρ)).map fun v => v.category).sum ≤ 8
      rw [ae_sum_c]
      exact Nat.le_of_ble_eq_true h2
    · cases hs
  case invokespecial k =>
    unfold ae_stp at hs
    unfold am_stp
    dsimp only at hs ⊢
    have hp := ae_pop_c (ρ := ρ) b [] st
    rw [List.map_nil] at hp
    rw [hp]
    split at hs
    · rename_i As o r hpop
      rw [hpop]
      rw [Bool.and_eq_true] at hs
      obtain ⟨h2, h5⟩ := hs
      refine ⟨?_, ?_⟩
      · show ((r.map (ae_c ρ)).map fun v => v.category).sum ≤ 8
        rw [ae_sum_c]
        exact Nat.le_of_ble_eq_true h2
      · cases hq : Nat.beq a 1 with
        | true =>
          rw [hq] at h5
          cases As with
          | nil => exact ⟨rfl, go (show K env nx lv r H = true from h5) hin hR⟩
          | cons x y => exact absurd (show false = true from h5) (by decide)
        | false =>
          rw [hq] at h5
          have h5 : (Nat.ble (H.2.2.1 + am_al a) lim && C a (.inr (.inr (.inl o)) :: As) nx r) = true := h5
          rw [Bool.and_eq_true] at h5
          exact ⟨by rw [hR.1]; exact Nat.le_of_ble_eq_true h5.1, hC _ _ _ _ h5.2⟩
    · cases hs
  case invokestatic k =>
    unfold ae_stp at hs
    unfold am_stp
    dsimp only at hs ⊢
    have hp := ae_pop_c (ρ := ρ) b [] st
    rw [List.map_nil] at hp
    rw [hp]
    split at hs
    · rename_i As r hpop
      rw [hpop]
      rw [Bool.and_eq_true, Bool.and_eq_true] at hs
      obtain ⟨h2, h3, h4⟩ := hs
      refine ⟨?_, by rw [hR.1]; exact Nat.le_of_ble_eq_true h3, hC _ _ _ _ h4⟩
      show ((r.map (ae_c ρ)).map fun v => v.category).sum ≤ 8
      rw [ae_sum_c]
      exact Nat.le_of_ble_eq_true h2
    · cases hs
  case ireturn =>
    unfold ae_stp at hs
    dsimp only at hs
    split at hs
    · rename_i x
      obtain ⟨y, r, e1, hs1⟩ := ae_pS_inv hin hs
      have e2 : ae_c ρ x = .int (ae_ci ρ y) := by
        have w : [ae_c ρ x] = .int (ae_ci ρ y) :: r.map (ae_c ρ) := e1
        injection w
      split at hs1
      · rename_i ty
        rw [Bool.and_eq_true] at hs1
        have q := hRt _ hs1.2
        rw [Option.map_some, ae_iv_c] at q
        rw [List.map_cons, List.map_nil, e2]
        exact ⟨⟨ty, rfl, (ae_fit_inv hs1.1).1⟩, q⟩
      · cases hs1
    · cases hs
  case return_ =>
    unfold ae_stp at hs
    dsimp only at hs
    split at hs
    · split at hs
      · exact ⟨rfl, hRt _ hs⟩
      · cases hs
    · cases hs
  all_goals exact Bool.noConfusion hs
