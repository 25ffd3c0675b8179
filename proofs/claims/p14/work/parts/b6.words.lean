section
/-! THE REFERENCE'S WORDS, FROM THE START ON -/
theorem la_imp {lv : am_V} {i : Nat} {k k' : Nat → Prop} (f : ∀ x, k x → k' x) (h : am_la lv i k) : am_la lv i k' := by
  obtain ⟨x, e, h⟩ := am_la.inv h
  unfold am_la
  rw [e]
  exact f x h
theorem li_imp {lv : am_V} {i : Nat} {k k' : Int32 → Prop} (f : ∀ x, k x → k' x) (h : am_li lv i k) : am_li lv i k' := by
  obtain ⟨x, e, h⟩ := am_li.inv h
  unfold am_li
  rw [e]
  exact f x h
def nl_set (n : Nat) : Bool := Nat.ble 180 n && Nat.ble n 187
def nl_br (r : am_R) : Bool := match r.1 with
  | .goto _ => true
  | .if_icmp _ _ => true
  | _ => false
def nl_ok (r : am_R) : Bool := match r.1 with
  | .iconst _ => true
  | .bipush _ => true
  | .sipush _ => true
  | .iload_n _ => true
  | .aload_n _ => true
  | .istore_n _ => true
  | .iinc _ _ => true
  | .iadd => true
  | .imul => true
  | .goto _ => true
  | .if_icmp _ _ => true
  | .iaload => true
  | .iastore => true
  | .bastore => true
  | .newarray _ => true
  | .return_ => true
  | .ireturn => true
  | .getfield _ => !(Nat.beq r.2.2.2.1 20)
  | .putfield _ => !(Nat.beq (am_kd r.2.2.2.1 r.2.2.1) 1)
  | .invokespecial _ => Nat.beq r.2.2.1 1
  | .invokevirtual _ => nl_set r.2.2.1
  | _ => false
theorem nl_stp {W : am_H → Prop} (wI : ∀ h o k v, W h → W (am_wI h o k v)) (wR : ∀ h o k v, W h → W (am_wR h o k v)) (wN : ∀ h, W h → W (am_nx h)) {cp : am_P} {nL lim : Nat} {rt : Option FieldType} {pc : Nat} {r : am_R} {lv : am_V} {st : List Value} {h : am_H} {K : Nat → am_V → List Value → am_H → Prop} {Q : am_Q} (hm : ∀ n As h Q Q', (∀ v h, Q v h → Q' v h) → cp n As h Q → cp n As h Q') (hcp : ∀ n As h Q, nl_set n = true → W h → cp n As h Q → cp n As h (fun v h' => Q v h' ∧ W h')) (hok : nl_ok r = true) (hW : W h) (hs : am_stp cp nL lim rt pc r lv st h K Q) :
    am_stp cp nL lim rt pc r lv st h (fun pc' lv' st' h' => K pc' lv' st' h' ∧ W h' ∧ (pc' = r.2.1 ∨ (nl_br r = true ∧ pc' = r.2.2.1))) (fun v h' => Q v h' ∧ W h') := by
  obtain ⟨i, nx, a, b, c, d⟩ := r
  cases i
  case iconst n => exact ⟨hs, hW, Or.inl rfl⟩
  case bipush n => exact ⟨hs, hW, Or.inl rfl⟩
  case sipush n => exact ⟨hs, hW, Or.inl rfl⟩
  case iload_n k => exact li_imp (fun _ q => ⟨q, hW, Or.inl rfl⟩) hs
  case aload_n k => exact la_imp (fun _ q => ⟨q, hW, Or.inl rfl⟩) hs
  case istore_n k => exact am_pI.imp (fun _ _ q => ⟨q.1, q.2, hW, Or.inl rfl⟩) hs
  case iinc k n => exact li_imp (fun _ q => ⟨q.1, q.2, hW, Or.inl rfl⟩) hs
  case iadd => exact am_pI.imp (fun _ _ q => am_pI.imp (fun _ _ q => ⟨q, hW, Or.inl rfl⟩) q) hs
  case imul => exact am_pI.imp (fun _ _ q => am_pI.imp (fun _ _ q => ⟨q, hW, Or.inl rfl⟩) q) hs
  case goto n => exact ⟨hs, hW, Or.inr ⟨rfl, rfl⟩⟩
  case if_icmp w n => exact am_pI.imp (fun _ _ q => am_pI.imp (fun _ _ q => ⟨fun z => ⟨q.1 z, hW, Or.inr ⟨rfl, rfl⟩⟩, fun z => ⟨q.2 z, hW, Or.inl rfl⟩⟩) q) hs
  case iaload => exact am_pI.imp (fun _ _ q => am_pR.imp (fun _ _ ⟨j, n, q1, q2, q3, q4⟩ => ⟨j, n, q1, q2, q3, q4, hW, Or.inl rfl⟩) q) hs
  case iastore => exact am_pI.imp (fun _ _ q => am_pI.imp (fun _ _ q => am_pR.imp (fun _ _ ⟨j, n, q1, q2, q3, q4⟩ => ⟨j, n, q1, q2, q3, q4, wI _ _ _ _ hW, Or.inl rfl⟩) q) q) hs
  case bastore => exact am_pI.imp (fun _ _ q => am_pI.imp (fun _ _ q => am_pR.imp (fun _ _ ⟨j, n, q1, q2, q3, q4⟩ => ⟨j, n, q1, q2, q3, q4, wI _ _ _ _ hW, Or.inl rfl⟩) q) q) hs
  case newarray t => exact am_pI.imp (fun _ _ ⟨n, q1, q2, q3, q4⟩ => ⟨n, q1, q2, q3, q4, wN _ hW, Or.inl rfl⟩) hs
  case getfield n =>
    have hb : Nat.beq b 20 = false := by
      cases hb : Nat.beq b 20 with
      | false => rfl
      | true =>
        have hok : (!(Nat.beq b 20)) = true := hok
        rw [hb] at hok
        cases hok
    simp only [am_stp, hb] at hs ⊢
    exact am_pR.imp (fun _ _ q => ⟨q.1, q.2, hW, Or.inl trivial⟩) hs
  case putfield n =>
    have hok : (!(Nat.beq (am_kd b a) 1)) = true := hok
    cases hk : am_kd b a with
    | zero =>
      simp only [am_stp, hk] at hs ⊢
      exact am_pI.imp (fun _ _ q => am_pR.imp (fun _ _ q => ⟨q.1, q.2.1, q.2.2.1, q.2.2.2, wI _ _ _ _ hW, Or.inl trivial⟩) q) hs
    | succ m =>
      cases m with
      | zero => rw [hk] at hok; exact absurd hok (by decide)
      | succ m =>
        simp only [am_stp, hk] at hs ⊢
        exact am_pR.imp (fun _ _ q => am_pR.imp (fun _ _ q => ⟨q.1, q.2, wR _ _ _ _ hW, Or.inl trivial⟩) q) hs
  case return_ =>
    simp only [am_stp] at hs ⊢
    split at hs
    · exact ⟨hs.1, hs.2, hW⟩
    · exact hs.elim
  case ireturn =>
    simp only [am_stp] at hs ⊢
    split at hs
    · exact ⟨hs.1, hs.2, hW⟩
    · exact hs.elim
  case invokespecial n =>
    have ha : Nat.beq a 1 = true := hok
    simp only [am_stp, ha] at hs ⊢
    split at hs
    · exact ⟨hs.1, hs.2.1, hs.2.2, hW, Or.inl trivial⟩
    · exact hs.elim
  case invokevirtual n =>
    simp only [am_stp] at hs ⊢
    split at hs
    · exact ⟨hs.1, hs.2.1, hs.2.2.1, hm _ _ _ _ _ (fun v h' q => ⟨q.1, q.2, Or.inl trivial⟩) (hcp _ _ _ _ hok hW hs.2.2.2)⟩
    · exact hs.elim
  all_goals exact absurd hok (by simp [nl_ok])
/-- the words stand -/
def wd_W (h : am_H) : Prop := 159 < h.2.2.2.2 ∧ ∀ w, w < 21 → h.2.1 159 w = rw_w w
theorem wd_I (h : am_H) (o k : Nat) (v : Int32) (w : wd_W h) : wd_W (am_wI h o k v) := w
theorem wd_R (h : am_H) (o k : Nat) (v : Option Nat) (w : wd_W h) : wd_W (am_wR h o k v) := w
theorem wd_N (h : am_H) (w : wd_W h) : wd_W (am_nx h) := by
  refine ⟨Nat.lt_succ_of_lt w.1, fun q hq => ?_⟩
  show (if 159 = h.2.2.2.2 then 0 else h.2.1 159 q) = _
  rw [if_neg (by have := w.1; omega)]
  exact w.2 q hq
def nl_m (n : Nat) : List (Nat × am_R) := match n with
  | 180 => am_r180
  | 181 => am_r181
  | 182 => am_r182
  | 183 => am_r183
  | 184 => am_r184
  | 185 => am_r185
  | 186 => am_r186
  | _ => am_r187
theorem nl_mk : ∀ n, n < 8 → (nl_m (180 + n)).all (fun q => nl_ok q.2) = true := by decide +kernel
theorem nl_cod {n : Nat} (hn : nl_set n = true) : am_cod n = am_find (nl_m n) ∧ (nl_m n).all (fun q => nl_ok q.2) = true := by
  unfold nl_set at hn
  rw [Bool.and_eq_true] at hn
  have h1 := Nat.le_of_ble_eq_true hn.1
  have h2 := Nat.le_of_ble_eq_true hn.2
  have hh : n = 180 ∨ n = 181 ∨ n = 182 ∨ n = 183 ∨ n = 184 ∨ n = 185 ∨ n = 186 ∨ n = 187 := by omega
  rcases hh with rfl | rfl | rfl | rfl | rfl | rfl | rfl | rfl
  · exact ⟨by funext pc; rfl, nl_mk 0 (by decide)⟩
  · exact ⟨by funext pc; rfl, nl_mk 1 (by decide)⟩
  · exact ⟨by funext pc; rfl, nl_mk 2 (by decide)⟩
  · exact ⟨by funext pc; rfl, nl_mk 3 (by decide)⟩
  · exact ⟨by funext pc; rfl, nl_mk 4 (by decide)⟩
  · exact ⟨by funext pc; rfl, nl_mk 5 (by decide)⟩
  · exact ⟨by funext pc; rfl, nl_mk 6 (by decide)⟩
  · exact ⟨by funext pc; rfl, nl_mk 7 (by decide)⟩
theorem wd_call : ∀ (d n : Nat) (As : List Value) (h : am_H) (Q : am_Q), nl_set n = true → wd_W h → am_call am_cod d n As h Q → am_call am_cod d n As h (fun v h' => Q v h' ∧ wd_W h')
  | 0, _, _, _, _, _, _, k => k.elim
  | d + 1, n, As, h, Q, hn, hW, k => by
    rcases k with k | ⟨k1, k⟩
    · exact Or.inl (wd_call d n As h Q hn hW k)
    · refine Or.inr ⟨k1, ?_⟩
      obtain ⟨e1, e2⟩ := nl_cod hn
      unfold am_W at k ⊢
      rw [e1] at k ⊢
      exact k (fun pc lv st h1 => wd_W h1 → am_X (am_call am_cod d) (am_nL n) (h.2.2.2.2 + am_al n) (am_rt n) (am_find (nl_m n)) (fun _ _ _ _ => False) (fun v h' => h'.2.2.2.2 = h.2.2.2.2 + am_al n ∧ Q v h' ∧ wd_W h') pc lv st h1) (fun _ _ _ _ z => z.elim) (fun pc lv st h1 r K0 Q0 hc hs hk hq hW1 => fun P hE hP => hP pc lv st h1 r _ _ hc (nl_stp wd_I wd_R wd_N (fun _ _ _ _ _ f k => am_call.mono f k) (fun n As h Q hn hW k => wd_call d n As h Q hn hW k) (List.all_eq_true.mp e2 _ (am_find_mem hc)) hW1 hs) (fun pc lv st h2 q => hk pc lv st h2 q.1 q.2.1 P hE hP) (fun v h2 q => ⟨(hq v h2 q.1).1, (hq v h2 q.1).2, q.2⟩)) hW
theorem shl_n : am_shl.all (fun q => Nat.ble q.2 4096) = true := by decide +kernel
theorem shl_159 : ∀ c, c < 175 → am_shl[c]? = some (14, 21) → c = 159 := by decide +kernel
theorem shl_len : am_shl.length = 175 := by decide +kernel
theorem shl_le {c t n : Nat} (e : am_shl[c]? = some (t, n)) : n ≤ 4096 ∧ c < 175 := by
  have m := List.mem_of_getElem? e
  have w := List.all_eq_true.mp shl_n _ m
  refine ⟨Nat.le_of_ble_eq_true w, ?_⟩
  have := (List.getElem?_eq_some_iff.mp e).1
  rw [shl_len] at this
  exact this
theorem nI_inj2 {a b : Nat} (ha : a ≤ 4096) (hb : b ≤ 4096) (e : nI a = nI b) : a = b := by
  have w := congrArg Int32.toInt e
  rw [nI_toInt (by omega), nI_toInt (by omega)] at w
  omega
def wd_i (i : Nat) (h : am_H) : Prop := 159 < h.2.2.2.2 ∧ ∀ w, w < i → h.2.1 159 w = rw_w w
theorem wd_s {i j n : Nat} {h : am_H} {x : Int64} (hw : wd_i i h) (hi : i < 21) (e : am_so h 159 = some (14, n)) (hj : j < n) (ej : nI i = nI j) (ex : x = rw_w i) : wd_i (i + 1) (am_wL h 159 j x) := by
  unfold am_so at e
  rw [show Nat.blt 159 h.2.2.2.2 = true from Nat.ble_eq_true_of_le hw.1] at e
  have e : am_shl[159]? = some (14, n) := e
  have hn := (shl_le e).1
  have ij : i = j := nI_inj2 (by omega) (by omega) ej
  refine ⟨hw.1, fun w hw1 => ?_⟩
  show (if 159 = 159 ∧ w = j then x else h.2.1 159 w) = _
  by_cases ew : w = j
  · rw [if_pos ⟨rfl, ew⟩, ex, ew, ij]
  · rw [if_neg (fun z => ew z.2)]
    exact hw.2 w (by omega)
theorem w179_A : am_r179.all (fun q => !(Nat.blt q.1 41) || (nl_ok q.2 && (!(nl_br q.2) && Nat.ble q.2.2.1 41))) = true := by decide +kernel
theorem w179_C : am_r179.all (fun q => !(Nat.ble 186 q.1) || (nl_ok q.2 && (!(nl_br q.2) && Nat.ble 186 q.2.2.1))) = true := by decide +kernel
theorem w179_cod : am_cod 179 = am_find am_r179 := by
  funext pc
  rfl
theorem w179_c {d lim : Nat} {Q : am_Q} {pc : Nat} {lv : am_V} {st : List Value} {h : am_H} (hpc : 186 ≤ pc) (hW : wd_W h) (k : am_X (am_call am_cod d) (am_nL 179) lim (am_rt 179) (am_find am_r179) (fun _ _ _ _ => False) Q pc lv st h) : am_X (am_call am_cod d) (am_nL 179) lim (am_rt 179) (am_find am_r179) (fun _ _ _ _ => False) (fun v h' => Q v h' ∧ wd_W h') pc lv st h :=
  k (fun pc lv st h => 186 ≤ pc → wd_W h → am_X (am_call am_cod d) (am_nL 179) lim (am_rt 179) (am_find am_r179) (fun _ _ _ _ => False) (fun v h' => Q v h' ∧ wd_W h') pc lv st h) (fun _ _ _ _ z => z.elim) (fun pc lv st h1 r K0 Q0 hc hs hk hq hpc hW1 => by
    have w := List.all_eq_true.mp w179_C _ (am_find_mem hc)
    rw [show Nat.ble 186 pc = true from Nat.ble_eq_true_of_le hpc] at w
    have w : (nl_ok r && (!(nl_br r) && Nat.ble 186 r.2.1)) = true := w
    rw [Bool.and_eq_true, Bool.and_eq_true] at w
    obtain ⟨w1, w2, w3⟩ := w
    exact fun P hE hP => hP pc lv st h1 r _ _ hc (nl_stp wd_I wd_R wd_N (fun _ _ _ _ _ f k => am_call.mono f k) (fun n As h Q hn hW k => wd_call d n As h Q hn hW k) w1 hW1 hs) (fun pc' lv st h2 q => hk pc' lv st h2 q.1 (by
      rcases q.2.2 with z | z
      · rw [z]; exact Nat.le_of_ble_eq_true w3
      · rw [z.1] at w2; cases w2) q.2.1 P hE hP) (fun v h2 q => ⟨hq v h2 q.1, q.2⟩)) hpc hW
theorem w179_b {d lim : Nat} {Q : am_Q} {lv : am_V} {st : List Value} {h : am_H} (k : am_X (am_call am_cod d) (am_nL 179) lim (am_rt 179) (am_find am_r179) (fun _ _ _ _ => False) Q 41 lv st h) : am_X (am_call am_cod d) (am_nL 179) lim (am_rt 179) (am_find am_r179) (fun _ _ _ _ => False) (fun v h' => Q v h' ∧ wd_W h') 41 lv st h := by
  obtain ⟨K0, Q0, hs, hk, -⟩ := am_X.inv1 (r := (.bipush 21, 43, 0, 0, 0, 0)) (fun z => z) rfl k
  have hs : K0 43 lv (.int (Int8.ofInt 21).toInt32 :: st) h := hs
  replace k := hk _ _ _ _ hs
  refine am_xstep (r := (.bipush 21, 43, 0, 0, 0, 0)) rfl (show am_X (am_call am_cod d) (am_nL 179) lim (am_rt 179) (am_find am_r179) (fun _ _ _ _ => False) (fun v h' => Q v h' ∧ wd_W h') 43 lv (.int (Int8.ofInt 21).toInt32 :: st) h from ?_)
  obtain ⟨K0, Q0, hs, hk, -⟩ := am_X.inv1 (r := (.newarray .long, 45, 0, 14, 0, 0)) (fun z => z) rfl k
  have hs : ∃ n : Nat, am_shl[h.2.2.2.2]? = some (14, n) ∧ (Int8.ofInt 21).toInt32 = nI n ∧ h.2.2.2.2 + 1 ≤ lim ∧ K0 45 lv (.ref h.2.2.2.2 :: st) (am_nx h) := hs
  obtain ⟨n, q1, q2, q3, q4⟩ := hs
  replace k := hk _ _ _ _ q4
  have en : n = 21 := (nI_inj2 (a := 21) (by decide) (shl_le q1).1 (show nI 21 = nI n from q2)).symm
  refine am_xstep (r := (.newarray .long, 45, 0, 14, 0, 0)) rfl (show ∃ n : Nat, am_shl[h.2.2.2.2]? = some (14, n) ∧ (Int8.ofInt 21).toInt32 = nI n ∧ h.2.2.2.2 + 1 ≤ lim ∧ am_X (am_call am_cod d) (am_nL 179) lim (am_rt 179) (am_find am_r179) (fun _ _ _ _ => False) (fun v h' => Q v h' ∧ wd_W h') 45 lv (.ref h.2.2.2.2 :: st) (am_nx h) from ⟨n, q1, q2, q3, ?_⟩)
  rw [en] at q1
  have ec := shl_159 _ (shl_le q1).2 q1
  have g0 : wd_i 0 (am_nx h) := ⟨by show 159 < h.2.2.2.2 + 1; omega, fun w hw => absurd hw (Nat.not_lt_zero w)⟩
  rw [ec] at k ⊢
  generalize am_nx h = v0 at k g0 ⊢
  obtain ⟨K0, Q0, hs, hk, -⟩ := am_X.inv1 (r := (.dup, 46, 0, 0, 0, 0)) (fun z => z) rfl k
  have hs : (Value.ref 159).category = 1 ∧ K0 46 lv (.ref 159 :: .ref 159 :: st) v0 := hs
  replace k := hk _ _ _ _ hs.2
  refine am_xstep (r := (.dup, 46, 0, 0, 0, 0)) rfl (show (Value.ref 159).category = 1 ∧ am_X (am_call am_cod d) (am_nL 179) lim (am_rt 179) (am_find am_r179) (fun _ _ _ _ => False) (fun v h' => Q v h' ∧ wd_W h') 46 lv (.ref 159 :: .ref 159 :: st) v0 from ⟨rfl, ?_⟩)
  obtain ⟨K0, Q0, hs, hk, -⟩ := am_X.inv1 (r := (.iconst 0, 47, 0, 0, 0, 0)) (fun z => z) rfl k
  have hs : K0 47 lv (.int (Int32.ofInt 0) :: .ref 159 :: .ref 159 :: st) v0 := hs
  replace k := hk _ _ _ _ hs
  refine am_xstep (r := (.iconst 0, 47, 0, 0, 0, 0)) rfl (show am_X (am_call am_cod d) (am_nL 179) lim (am_rt 179) (am_find am_r179) (fun _ _ _ _ => False) (fun v h' => Q v h' ∧ wd_W h') 47 lv (.int (Int32.ofInt 0) :: .ref 159 :: .ref 159 :: st) v0 from ?_)
  obtain ⟨K0, Q0, hs, hk, -⟩ := am_X.inv1 (r := (.ldc2_w 34, 50, 0, 0, 5, 0)) (fun z => z) rfl k
  have hs : K0 50 lv (.long (am_kl 5) :: .int (Int32.ofInt 0) :: .ref 159 :: .ref 159 :: st) v0 := hs
  replace k := hk _ _ _ _ hs
  refine am_xstep (r := (.ldc2_w 34, 50, 0, 0, 5, 0)) rfl (show am_X (am_call am_cod d) (am_nL 179) lim (am_rt 179) (am_find am_r179) (fun _ _ _ _ => False) (fun v h' => Q v h' ∧ wd_W h') 50 lv (.long (am_kl 5) :: .int (Int32.ofInt 0) :: .ref 159 :: .ref 159 :: st) v0 from ?_)
  obtain ⟨K0, Q0, hs, hk, -⟩ := am_X.inv1 (r := (.lastore, 51, 0, 0, 0, 0)) (fun z => z) rfl k
  have hs : ∃ j n : Nat, am_so v0 159 = some (14, n) ∧ j < n ∧ (Int32.ofInt 0) = nI j ∧ K0 51 lv (.ref 159 :: st) (am_wL v0 159 j (am_kl 5)) := hs
  obtain ⟨j, n0, z1, z2, z3, z4⟩ := hs
  replace k := hk _ _ _ _ z4
  refine am_xstep (r := (.lastore, 51, 0, 0, 0, 0)) rfl (show ∃ j n : Nat, am_so v0 159 = some (14, n) ∧ j < n ∧ (Int32.ofInt 0) = nI j ∧ am_X (am_call am_cod d) (am_nL 179) lim (am_rt 179) (am_find am_r179) (fun _ _ _ _ => False) (fun v h' => Q v h' ∧ wd_W h') 51 lv (.ref 159 :: st) (am_wL v0 159 j (am_kl 5)) from ⟨j, n0, z1, z2, z3, ?_⟩)
  have g1 := wd_s (i := 0) g0 (by decide) z1 z2 (show nI 0 = nI j from z3) (show am_kl 5 = rw_w 0 by decide +kernel)
  clear z4 hk z1 z2 z3 g0
  generalize am_wL v0 159 j (am_kl 5) = v1 at k g1 ⊢
  obtain ⟨K0, Q0, hs, hk, -⟩ := am_X.inv1 (r := (.dup, 52, 0, 0, 0, 0)) (fun z => z) rfl k
  have hs : (Value.ref 159).category = 1 ∧ K0 52 lv (.ref 159 :: .ref 159 :: st) v1 := hs
  replace k := hk _ _ _ _ hs.2
  refine am_xstep (r := (.dup, 52, 0, 0, 0, 0)) rfl (show (Value.ref 159).category = 1 ∧ am_X (am_call am_cod d) (am_nL 179) lim (am_rt 179) (am_find am_r179) (fun _ _ _ _ => False) (fun v h' => Q v h' ∧ wd_W h') 52 lv (.ref 159 :: .ref 159 :: st) v1 from ⟨rfl, ?_⟩)
  obtain ⟨K0, Q0, hs, hk, -⟩ := am_X.inv1 (r := (.iconst 1, 53, 0, 0, 0, 0)) (fun z => z) rfl k
  have hs : K0 53 lv (.int (Int32.ofInt 1) :: .ref 159 :: .ref 159 :: st) v1 := hs
  replace k := hk _ _ _ _ hs
  refine am_xstep (r := (.iconst 1, 53, 0, 0, 0, 0)) rfl (show am_X (am_call am_cod d) (am_nL 179) lim (am_rt 179) (am_find am_r179) (fun _ _ _ _ => False) (fun v h' => Q v h' ∧ wd_W h') 53 lv (.int (Int32.ofInt 1) :: .ref 159 :: .ref 159 :: st) v1 from ?_)
  obtain ⟨K0, Q0, hs, hk, -⟩ := am_X.inv1 (r := (.ldc2_w 36, 56, 0, 0, 6, 0)) (fun z => z) rfl k
  have hs : K0 56 lv (.long (am_kl 6) :: .int (Int32.ofInt 1) :: .ref 159 :: .ref 159 :: st) v1 := hs
  replace k := hk _ _ _ _ hs
  refine am_xstep (r := (.ldc2_w 36, 56, 0, 0, 6, 0)) rfl (show am_X (am_call am_cod d) (am_nL 179) lim (am_rt 179) (am_find am_r179) (fun _ _ _ _ => False) (fun v h' => Q v h' ∧ wd_W h') 56 lv (.long (am_kl 6) :: .int (Int32.ofInt 1) :: .ref 159 :: .ref 159 :: st) v1 from ?_)
  obtain ⟨K0, Q0, hs, hk, -⟩ := am_X.inv1 (r := (.lastore, 57, 0, 0, 0, 0)) (fun z => z) rfl k
  have hs : ∃ j n : Nat, am_so v1 159 = some (14, n) ∧ j < n ∧ (Int32.ofInt 1) = nI j ∧ K0 57 lv (.ref 159 :: st) (am_wL v1 159 j (am_kl 6)) := hs
  obtain ⟨j, n1, z1, z2, z3, z4⟩ := hs
  replace k := hk _ _ _ _ z4
  refine am_xstep (r := (.lastore, 57, 0, 0, 0, 0)) rfl (show ∃ j n : Nat, am_so v1 159 = some (14, n) ∧ j < n ∧ (Int32.ofInt 1) = nI j ∧ am_X (am_call am_cod d) (am_nL 179) lim (am_rt 179) (am_find am_r179) (fun _ _ _ _ => False) (fun v h' => Q v h' ∧ wd_W h') 57 lv (.ref 159 :: st) (am_wL v1 159 j (am_kl 6)) from ⟨j, n1, z1, z2, z3, ?_⟩)
  have g2 := wd_s (i := 1) g1 (by decide) z1 z2 (show nI 1 = nI j from z3) (show am_kl 6 = rw_w 1 by decide +kernel)
  clear z4 hk z1 z2 z3 g1
  generalize am_wL v1 159 j (am_kl 6) = v2 at k g2 ⊢
  obtain ⟨K0, Q0, hs, hk, -⟩ := am_X.inv1 (r := (.dup, 58, 0, 0, 0, 0)) (fun z => z) rfl k
  have hs : (Value.ref 159).category = 1 ∧ K0 58 lv (.ref 159 :: .ref 159 :: st) v2 := hs
  replace k := hk _ _ _ _ hs.2
  refine am_xstep (r := (.dup, 58, 0, 0, 0, 0)) rfl (show (Value.ref 159).category = 1 ∧ am_X (am_call am_cod d) (am_nL 179) lim (am_rt 179) (am_find am_r179) (fun _ _ _ _ => False) (fun v h' => Q v h' ∧ wd_W h') 58 lv (.ref 159 :: .ref 159 :: st) v2 from ⟨rfl, ?_⟩)
  obtain ⟨K0, Q0, hs, hk, -⟩ := am_X.inv1 (r := (.iconst 2, 59, 0, 0, 0, 0)) (fun z => z) rfl k
  have hs : K0 59 lv (.int (Int32.ofInt 2) :: .ref 159 :: .ref 159 :: st) v2 := hs
  replace k := hk _ _ _ _ hs
  refine am_xstep (r := (.iconst 2, 59, 0, 0, 0, 0)) rfl (show am_X (am_call am_cod d) (am_nL 179) lim (am_rt 179) (am_find am_r179) (fun _ _ _ _ => False) (fun v h' => Q v h' ∧ wd_W h') 59 lv (.int (Int32.ofInt 2) :: .ref 159 :: .ref 159 :: st) v2 from ?_)
  obtain ⟨K0, Q0, hs, hk, -⟩ := am_X.inv1 (r := (.ldc2_w 38, 62, 0, 0, 7, 0)) (fun z => z) rfl k
  have hs : K0 62 lv (.long (am_kl 7) :: .int (Int32.ofInt 2) :: .ref 159 :: .ref 159 :: st) v2 := hs
  replace k := hk _ _ _ _ hs
  refine am_xstep (r := (.ldc2_w 38, 62, 0, 0, 7, 0)) rfl (show am_X (am_call am_cod d) (am_nL 179) lim (am_rt 179) (am_find am_r179) (fun _ _ _ _ => False) (fun v h' => Q v h' ∧ wd_W h') 62 lv (.long (am_kl 7) :: .int (Int32.ofInt 2) :: .ref 159 :: .ref 159 :: st) v2 from ?_)
  obtain ⟨K0, Q0, hs, hk, -⟩ := am_X.inv1 (r := (.lastore, 63, 0, 0, 0, 0)) (fun z => z) rfl k
  have hs : ∃ j n : Nat, am_so v2 159 = some (14, n) ∧ j < n ∧ (Int32.ofInt 2) = nI j ∧ K0 63 lv (.ref 159 :: st) (am_wL v2 159 j (am_kl 7)) := hs
  obtain ⟨j, n2, z1, z2, z3, z4⟩ := hs
  replace k := hk _ _ _ _ z4
  refine am_xstep (r := (.lastore, 63, 0, 0, 0, 0)) rfl (show ∃ j n : Nat, am_so v2 159 = some (14, n) ∧ j < n ∧ (Int32.ofInt 2) = nI j ∧ am_X (am_call am_cod d) (am_nL 179) lim (am_rt 179) (am_find am_r179) (fun _ _ _ _ => False) (fun v h' => Q v h' ∧ wd_W h') 63 lv (.ref 159 :: st) (am_wL v2 159 j (am_kl 7)) from ⟨j, n2, z1, z2, z3, ?_⟩)
  have g3 := wd_s (i := 2) g2 (by decide) z1 z2 (show nI 2 = nI j from z3) (show am_kl 7 = rw_w 2 by decide +kernel)
  clear z4 hk z1 z2 z3 g2
  generalize am_wL v2 159 j (am_kl 7) = v3 at k g3 ⊢
  obtain ⟨K0, Q0, hs, hk, -⟩ := am_X.inv1 (r := (.dup, 64, 0, 0, 0, 0)) (fun z => z) rfl k
  have hs : (Value.ref 159).category = 1 ∧ K0 64 lv (.ref 159 :: .ref 159 :: st) v3 := hs
  replace k := hk _ _ _ _ hs.2
  refine am_xstep (r := (.dup, 64, 0, 0, 0, 0)) rfl (show (Value.ref 159).category = 1 ∧ am_X (am_call am_cod d) (am_nL 179) lim (am_rt 179) (am_find am_r179) (fun _ _ _ _ => False) (fun v h' => Q v h' ∧ wd_W h') 64 lv (.ref 159 :: .ref 159 :: st) v3 from ⟨rfl, ?_⟩)
  obtain ⟨K0, Q0, hs, hk, -⟩ := am_X.inv1 (r := (.iconst 3, 65, 0, 0, 0, 0)) (fun z => z) rfl k
  have hs : K0 65 lv (.int (Int32.ofInt 3) :: .ref 159 :: .ref 159 :: st) v3 := hs
  replace k := hk _ _ _ _ hs
  refine am_xstep (r := (.iconst 3, 65, 0, 0, 0, 0)) rfl (show am_X (am_call am_cod d) (am_nL 179) lim (am_rt 179) (am_find am_r179) (fun _ _ _ _ => False) (fun v h' => Q v h' ∧ wd_W h') 65 lv (.int (Int32.ofInt 3) :: .ref 159 :: .ref 159 :: st) v3 from ?_)
  obtain ⟨K0, Q0, hs, hk, -⟩ := am_X.inv1 (r := (.ldc2_w 40, 68, 0, 0, 8, 0)) (fun z => z) rfl k
  have hs : K0 68 lv (.long (am_kl 8) :: .int (Int32.ofInt 3) :: .ref 159 :: .ref 159 :: st) v3 := hs
  replace k := hk _ _ _ _ hs
  refine am_xstep (r := (.ldc2_w 40, 68, 0, 0, 8, 0)) rfl (show am_X (am_call am_cod d) (am_nL 179) lim (am_rt 179) (am_find am_r179) (fun _ _ _ _ => False) (fun v h' => Q v h' ∧ wd_W h') 68 lv (.long (am_kl 8) :: .int (Int32.ofInt 3) :: .ref 159 :: .ref 159 :: st) v3 from ?_)
  obtain ⟨K0, Q0, hs, hk, -⟩ := am_X.inv1 (r := (.lastore, 69, 0, 0, 0, 0)) (fun z => z) rfl k
  have hs : ∃ j n : Nat, am_so v3 159 = some (14, n) ∧ j < n ∧ (Int32.ofInt 3) = nI j ∧ K0 69 lv (.ref 159 :: st) (am_wL v3 159 j (am_kl 8)) := hs
  obtain ⟨j, n3, z1, z2, z3, z4⟩ := hs
  replace k := hk _ _ _ _ z4
  refine am_xstep (r := (.lastore, 69, 0, 0, 0, 0)) rfl (show ∃ j n : Nat, am_so v3 159 = some (14, n) ∧ j < n ∧ (Int32.ofInt 3) = nI j ∧ am_X (am_call am_cod d) (am_nL 179) lim (am_rt 179) (am_find am_r179) (fun _ _ _ _ => False) (fun v h' => Q v h' ∧ wd_W h') 69 lv (.ref 159 :: st) (am_wL v3 159 j (am_kl 8)) from ⟨j, n3, z1, z2, z3, ?_⟩)
  have g4 := wd_s (i := 3) g3 (by decide) z1 z2 (show nI 3 = nI j from z3) (show am_kl 8 = rw_w 3 by decide +kernel)
  clear z4 hk z1 z2 z3 g3
  generalize am_wL v3 159 j (am_kl 8) = v4 at k g4 ⊢
  obtain ⟨K0, Q0, hs, hk, -⟩ := am_X.inv1 (r := (.dup, 70, 0, 0, 0, 0)) (fun z => z) rfl k
  have hs : (Value.ref 159).category = 1 ∧ K0 70 lv (.ref 159 :: .ref 159 :: st) v4 := hs
  replace k := hk _ _ _ _ hs.2
  refine am_xstep (r := (.dup, 70, 0, 0, 0, 0)) rfl (show (Value.ref 159).category = 1 ∧ am_X (am_call am_cod d) (am_nL 179) lim (am_rt 179) (am_find am_r179) (fun _ _ _ _ => False) (fun v h' => Q v h' ∧ wd_W h') 70 lv (.ref 159 :: .ref 159 :: st) v4 from ⟨rfl, ?_⟩)
  obtain ⟨K0, Q0, hs, hk, -⟩ := am_X.inv1 (r := (.iconst 4, 71, 0, 0, 0, 0)) (fun z => z) rfl k
  have hs : K0 71 lv (.int (Int32.ofInt 4) :: .ref 159 :: .ref 159 :: st) v4 := hs
  replace k := hk _ _ _ _ hs
  refine am_xstep (r := (.iconst 4, 71, 0, 0, 0, 0)) rfl (show am_X (am_call am_cod d) (am_nL 179) lim (am_rt 179) (am_find am_r179) (fun _ _ _ _ => False) (fun v h' => Q v h' ∧ wd_W h') 71 lv (.int (Int32.ofInt 4) :: .ref 159 :: .ref 159 :: st) v4 from ?_)
  obtain ⟨K0, Q0, hs, hk, -⟩ := am_X.inv1 (r := (.ldc2_w 42, 74, 0, 0, 9, 0)) (fun z => z) rfl k
  have hs : K0 74 lv (.long (am_kl 9) :: .int (Int32.ofInt 4) :: .ref 159 :: .ref 159 :: st) v4 := hs
  replace k := hk _ _ _ _ hs
  refine am_xstep (r := (.ldc2_w 42, 74, 0, 0, 9, 0)) rfl (show am_X (am_call am_cod d) (am_nL 179) lim (am_rt 179) (am_find am_r179) (fun _ _ _ _ => False) (fun v h' => Q v h' ∧ wd_W h') 74 lv (.long (am_kl 9) :: .int (Int32.ofInt 4) :: .ref 159 :: .ref 159 :: st) v4 from ?_)
  obtain ⟨K0, Q0, hs, hk, -⟩ := am_X.inv1 (r := (.lastore, 75, 0, 0, 0, 0)) (fun z => z) rfl k
  have hs : ∃ j n : Nat, am_so v4 159 = some (14, n) ∧ j < n ∧ (Int32.ofInt 4) = nI j ∧ K0 75 lv (.ref 159 :: st) (am_wL v4 159 j (am_kl 9)) := hs
  obtain ⟨j, n4, z1, z2, z3, z4⟩ := hs
  replace k := hk _ _ _ _ z4
  refine am_xstep (r := (.lastore, 75, 0, 0, 0, 0)) rfl (show ∃ j n : Nat, am_so v4 159 = some (14, n) ∧ j < n ∧ (Int32.ofInt 4) = nI j ∧ am_X (am_call am_cod d) (am_nL 179) lim (am_rt 179) (am_find am_r179) (fun _ _ _ _ => False) (fun v h' => Q v h' ∧ wd_W h') 75 lv (.ref 159 :: st) (am_wL v4 159 j (am_kl 9)) from ⟨j, n4, z1, z2, z3, ?_⟩)
  have g5 := wd_s (i := 4) g4 (by decide) z1 z2 (show nI 4 = nI j from z3) (show am_kl 9 = rw_w 4 by decide +kernel)
  clear z4 hk z1 z2 z3 g4
  generalize am_wL v4 159 j (am_kl 9) = v5 at k g5 ⊢
  obtain ⟨K0, Q0, hs, hk, -⟩ := am_X.inv1 (r := (.dup, 76, 0, 0, 0, 0)) (fun z => z) rfl k
  have hs : (Value.ref 159).category = 1 ∧ K0 76 lv (.ref 159 :: .ref 159 :: st) v5 := hs
  replace k := hk _ _ _ _ hs.2
  refine am_xstep (r := (.dup, 76, 0, 0, 0, 0)) rfl (show (Value.ref 159).category = 1 ∧ am_X (am_call am_cod d) (am_nL 179) lim (am_rt 179) (am_find am_r179) (fun _ _ _ _ => False) (fun v h' => Q v h' ∧ wd_W h') 76 lv (.ref 159 :: .ref 159 :: st) v5 from ⟨rfl, ?_⟩)
  obtain ⟨K0, Q0, hs, hk, -⟩ := am_X.inv1 (r := (.iconst 5, 77, 0, 0, 0, 0)) (fun z => z) rfl k
  have hs : K0 77 lv (.int (Int32.ofInt 5) :: .ref 159 :: .ref 159 :: st) v5 := hs
  replace k := hk _ _ _ _ hs
  refine am_xstep (r := (.iconst 5, 77, 0, 0, 0, 0)) rfl (show am_X (am_call am_cod d) (am_nL 179) lim (am_rt 179) (am_find am_r179) (fun _ _ _ _ => False) (fun v h' => Q v h' ∧ wd_W h') 77 lv (.int (Int32.ofInt 5) :: .ref 159 :: .ref 159 :: st) v5 from ?_)
  obtain ⟨K0, Q0, hs, hk, -⟩ := am_X.inv1 (r := (.ldc2_w 44, 80, 0, 0, 10, 0)) (fun z => z) rfl k
  have hs : K0 80 lv (.long (am_kl 10) :: .int (Int32.ofInt 5) :: .ref 159 :: .ref 159 :: st) v5 := hs
  replace k := hk _ _ _ _ hs
  refine am_xstep (r := (.ldc2_w 44, 80, 0, 0, 10, 0)) rfl (show am_X (am_call am_cod d) (am_nL 179) lim (am_rt 179) (am_find am_r179) (fun _ _ _ _ => False) (fun v h' => Q v h' ∧ wd_W h') 80 lv (.long (am_kl 10) :: .int (Int32.ofInt 5) :: .ref 159 :: .ref 159 :: st) v5 from ?_)
  obtain ⟨K0, Q0, hs, hk, -⟩ := am_X.inv1 (r := (.lastore, 81, 0, 0, 0, 0)) (fun z => z) rfl k
  have hs : ∃ j n : Nat, am_so v5 159 = some (14, n) ∧ j < n ∧ (Int32.ofInt 5) = nI j ∧ K0 81 lv (.ref 159 :: st) (am_wL v5 159 j (am_kl 10)) := hs
  obtain ⟨j, n5, z1, z2, z3, z4⟩ := hs
  replace k := hk _ _ _ _ z4
  refine am_xstep (r := (.lastore, 81, 0, 0, 0, 0)) rfl (show ∃ j n : Nat, am_so v5 159 = some (14, n) ∧ j < n ∧ (Int32.ofInt 5) = nI j ∧ am_X (am_call am_cod d) (am_nL 179) lim (am_rt 179) (am_find am_r179) (fun _ _ _ _ => False) (fun v h' => Q v h' ∧ wd_W h') 81 lv (.ref 159 :: st) (am_wL v5 159 j (am_kl 10)) from ⟨j, n5, z1, z2, z3, ?_⟩)
  have g6 := wd_s (i := 5) g5 (by decide) z1 z2 (show nI 5 = nI j from z3) (show am_kl 10 = rw_w 5 by decide +kernel)
  clear z4 hk z1 z2 z3 g5
  generalize am_wL v5 159 j (am_kl 10) = v6 at k g6 ⊢
  obtain ⟨K0, Q0, hs, hk, -⟩ := am_X.inv1 (r := (.dup, 82, 0, 0, 0, 0)) (fun z => z) rfl k
  have hs : (Value.ref 159).category = 1 ∧ K0 82 lv (.ref 159 :: .ref 159 :: st) v6 := hs
  replace k := hk _ _ _ _ hs.2
  refine am_xstep (r := (.dup, 82, 0, 0, 0, 0)) rfl (show (Value.ref 159).category = 1 ∧ am_X (am_call am_cod d) (am_nL 179) lim (am_rt 179) (am_find am_r179) (fun _ _ _ _ => False) (fun v h' => Q v h' ∧ wd_W h') 82 lv (.ref 159 :: .ref 159 :: st) v6 from ⟨rfl, ?_⟩)
  obtain ⟨K0, Q0, hs, hk, -⟩ := am_X.inv1 (r := (.bipush 6, 84, 0, 0, 0, 0)) (fun z => z) rfl k
  have hs : K0 84 lv (.int (Int8.ofInt 6).toInt32 :: .ref 159 :: .ref 159 :: st) v6 := hs
  replace k := hk _ _ _ _ hs
  refine am_xstep (r := (.bipush 6, 84, 0, 0, 0, 0)) rfl (show am_X (am_call am_cod d) (am_nL 179) lim (am_rt 179) (am_find am_r179) (fun _ _ _ _ => False) (fun v h' => Q v h' ∧ wd_W h') 84 lv (.int (Int8.ofInt 6).toInt32 :: .ref 159 :: .ref 159 :: st) v6 from ?_)
  obtain ⟨K0, Q0, hs, hk, -⟩ := am_X.inv1 (r := (.ldc2_w 46, 87, 0, 0, 11, 0)) (fun z => z) rfl k
  have hs : K0 87 lv (.long (am_kl 11) :: .int (Int8.ofInt 6).toInt32 :: .ref 159 :: .ref 159 :: st) v6 := hs
  replace k := hk _ _ _ _ hs
  refine am_xstep (r := (.ldc2_w 46, 87, 0, 0, 11, 0)) rfl (show am_X (am_call am_cod d) (am_nL 179) lim (am_rt 179) (am_find am_r179) (fun _ _ _ _ => False) (fun v h' => Q v h' ∧ wd_W h') 87 lv (.long (am_kl 11) :: .int (Int8.ofInt 6).toInt32 :: .ref 159 :: .ref 159 :: st) v6 from ?_)
  obtain ⟨K0, Q0, hs, hk, -⟩ := am_X.inv1 (r := (.lastore, 88, 0, 0, 0, 0)) (fun z => z) rfl k
  have hs : ∃ j n : Nat, am_so v6 159 = some (14, n) ∧ j < n ∧ (Int8.ofInt 6).toInt32 = nI j ∧ K0 88 lv (.ref 159 :: st) (am_wL v6 159 j (am_kl 11)) := hs
  obtain ⟨j, n6, z1, z2, z3, z4⟩ := hs
  replace k := hk _ _ _ _ z4
  refine am_xstep (r := (.lastore, 88, 0, 0, 0, 0)) rfl (show ∃ j n : Nat, am_so v6 159 = some (14, n) ∧ j < n ∧ (Int8.ofInt 6).toInt32 = nI j ∧ am_X (am_call am_cod d) (am_nL 179) lim (am_rt 179) (am_find am_r179) (fun _ _ _ _ => False) (fun v h' => Q v h' ∧ wd_W h') 88 lv (.ref 159 :: st) (am_wL v6 159 j (am_kl 11)) from ⟨j, n6, z1, z2, z3, ?_⟩)
  have g7 := wd_s (i := 6) g6 (by decide) z1 z2 (show nI 6 = nI j from z3) (show am_kl 11 = rw_w 6 by decide +kernel)
  clear z4 hk z1 z2 z3 g6
  generalize am_wL v6 159 j (am_kl 11) = v7 at k g7 ⊢
  obtain ⟨K0, Q0, hs, hk, -⟩ := am_X.inv1 (r := (.dup, 89, 0, 0, 0, 0)) (fun z => z) rfl k
  have hs : (Value.ref 159).category = 1 ∧ K0 89 lv (.ref 159 :: .ref 159 :: st) v7 := hs
  replace k := hk _ _ _ _ hs.2
  refine am_xstep (r := (.dup, 89, 0, 0, 0, 0)) rfl (show (Value.ref 159).category = 1 ∧ am_X (am_call am_cod d) (am_nL 179) lim (am_rt 179) (am_find am_r179) (fun _ _ _ _ => False) (fun v h' => Q v h' ∧ wd_W h') 89 lv (.ref 159 :: .ref 159 :: st) v7 from ⟨rfl, ?_⟩)
  obtain ⟨K0, Q0, hs, hk, -⟩ := am_X.inv1 (r := (.bipush 7, 91, 0, 0, 0, 0)) (fun z => z) rfl k
  have hs : K0 91 lv (.int (Int8.ofInt 7).toInt32 :: .ref 159 :: .ref 159 :: st) v7 := hs
  replace k := hk _ _ _ _ hs
  refine am_xstep (r := (.bipush 7, 91, 0, 0, 0, 0)) rfl (show am_X (am_call am_cod d) (am_nL 179) lim (am_rt 179) (am_find am_r179) (fun _ _ _ _ => False) (fun v h' => Q v h' ∧ wd_W h') 91 lv (.int (Int8.ofInt 7).toInt32 :: .ref 159 :: .ref 159 :: st) v7 from ?_)
  obtain ⟨K0, Q0, hs, hk, -⟩ := am_X.inv1 (r := (.ldc2_w 48, 94, 0, 0, 12, 0)) (fun z => z) rfl k
  have hs : K0 94 lv (.long (am_kl 12) :: .int (Int8.ofInt 7).toInt32 :: .ref 159 :: .ref 159 :: st) v7 := hs
  replace k := hk _ _ _ _ hs
  refine am_xstep (r := (.ldc2_w 48, 94, 0, 0, 12, 0)) rfl (show am_X (am_call am_cod d) (am_nL 179) lim (am_rt 179) (am_find am_r179) (fun _ _ _ _ => False) (fun v h' => Q v h' ∧ wd_W h') 94 lv (.long (am_kl 12) :: .int (Int8.ofInt 7).toInt32 :: .ref 159 :: .ref 159 :: st) v7 from ?_)
  obtain ⟨K0, Q0, hs, hk, -⟩ := am_X.inv1 (r := (.lastore, 95, 0, 0, 0, 0)) (fun z => z) rfl k
  have hs : ∃ j n : Nat, am_so v7 159 = some (14, n) ∧ j < n ∧ (Int8.ofInt 7).toInt32 = nI j ∧ K0 95 lv (.ref 159 :: st) (am_wL v7 159 j (am_kl 12)) := hs
  obtain ⟨j, n7, z1, z2, z3, z4⟩ := hs
  replace k := hk _ _ _ _ z4
  refine am_xstep (r := (.lastore, 95, 0, 0, 0, 0)) rfl (show ∃ j n : Nat, am_so v7 159 = some (14, n) ∧ j < n ∧ (Int8.ofInt 7).toInt32 = nI j ∧ am_X (am_call am_cod d) (am_nL 179) lim (am_rt 179) (am_find am_r179) (fun _ _ _ _ => False) (fun v h' => Q v h' ∧ wd_W h') 95 lv (.ref 159 :: st) (am_wL v7 159 j (am_kl 12)) from ⟨j, n7, z1, z2, z3, ?_⟩)
  have g8 := wd_s (i := 7) g7 (by decide) z1 z2 (show nI 7 = nI j from z3) (show am_kl 12 = rw_w 7 by decide +kernel)
  clear z4 hk z1 z2 z3 g7
  generalize am_wL v7 159 j (am_kl 12) = v8 at k g8 ⊢
  obtain ⟨K0, Q0, hs, hk, -⟩ := am_X.inv1 (r := (.dup, 96, 0, 0, 0, 0)) (fun z => z) rfl k
  have hs : (Value.ref 159).category = 1 ∧ K0 96 lv (.ref 159 :: .ref 159 :: st) v8 := hs
  replace k := hk _ _ _ _ hs.2
  refine am_xstep (r := (.dup, 96, 0, 0, 0, 0)) rfl (show (Value.ref 159).category = 1 ∧ am_X (am_call am_cod d) (am_nL 179) lim (am_rt 179) (am_find am_r179) (fun _ _ _ _ => False) (fun v h' => Q v h' ∧ wd_W h') 96 lv (.ref 159 :: .ref 159 :: st) v8 from ⟨rfl, ?_⟩)
  obtain ⟨K0, Q0, hs, hk, -⟩ := am_X.inv1 (r := (.bipush 8, 98, 0, 0, 0, 0)) (fun z => z) rfl k
  have hs : K0 98 lv (.int (Int8.ofInt 8).toInt32 :: .ref 159 :: .ref 159 :: st) v8 := hs
  replace k := hk _ _ _ _ hs
  refine am_xstep (r := (.bipush 8, 98, 0, 0, 0, 0)) rfl (show am_X (am_call am_cod d) (am_nL 179) lim (am_rt 179) (am_find am_r179) (fun _ _ _ _ => False) (fun v h' => Q v h' ∧ wd_W h') 98 lv (.int (Int8.ofInt 8).toInt32 :: .ref 159 :: .ref 159 :: st) v8 from ?_)
  obtain ⟨K0, Q0, hs, hk, -⟩ := am_X.inv1 (r := (.ldc2_w 50, 101, 0, 0, 13, 0)) (fun z => z) rfl k
  have hs : K0 101 lv (.long (am_kl 13) :: .int (Int8.ofInt 8).toInt32 :: .ref 159 :: .ref 159 :: st) v8 := hs
  replace k := hk _ _ _ _ hs
  refine am_xstep (r := (.ldc2_w 50, 101, 0, 0, 13, 0)) rfl (show am_X (am_call am_cod d) (am_nL 179) lim (am_rt 179) (am_find am_r179) (fun _ _ _ _ => False) (fun v h' => Q v h' ∧ wd_W h') 101 lv (.long (am_kl 13) :: .int (Int8.ofInt 8).toInt32 :: .ref 159 :: .ref 159 :: st) v8 from ?_)
  obtain ⟨K0, Q0, hs, hk, -⟩ := am_X.inv1 (r := (.lastore, 102, 0, 0, 0, 0)) (fun z => z) rfl k
  have hs : ∃ j n : Nat, am_so v8 159 = some (14, n) ∧ j < n ∧ (Int8.ofInt 8).toInt32 = nI j ∧ K0 102 lv (.ref 159 :: st) (am_wL v8 159 j (am_kl 13)) := hs
  obtain ⟨j, n8, z1, z2, z3, z4⟩ := hs
  replace k := hk _ _ _ _ z4
  refine am_xstep (r := (.lastore, 102, 0, 0, 0, 0)) rfl (show ∃ j n : Nat, am_so v8 159 = some (14, n) ∧ j < n ∧ (Int8.ofInt 8).toInt32 = nI j ∧ am_X (am_call am_cod d) (am_nL 179) lim (am_rt 179) (am_find am_r179) (fun _ _ _ _ => False) (fun v h' => Q v h' ∧ wd_W h') 102 lv (.ref 159 :: st) (am_wL v8 159 j (am_kl 13)) from ⟨j, n8, z1, z2, z3, ?_⟩)
  have g9 := wd_s (i := 8) g8 (by decide) z1 z2 (show nI 8 = nI j from z3) (show am_kl 13 = rw_w 8 by decide +kernel)
  clear z4 hk z1 z2 z3 g8
  generalize am_wL v8 159 j (am_kl 13) = v9 at k g9 ⊢
  obtain ⟨K0, Q0, hs, hk, -⟩ := am_X.inv1 (r := (.dup, 103, 0, 0, 0, 0)) (fun z => z) rfl k
  have hs : (Value.ref 159).category = 1 ∧ K0 103 lv (.ref 159 :: .ref 159 :: st) v9 := hs
  replace k := hk _ _ _ _ hs.2
  refine am_xstep (r := (.dup, 103, 0, 0, 0, 0)) rfl (show (Value.ref 159).category = 1 ∧ am_X (am_call am_cod d) (am_nL 179) lim (am_rt 179) (am_find am_r179) (fun _ _ _ _ => False) (fun v h' => Q v h' ∧ wd_W h') 103 lv (.ref 159 :: .ref 159 :: st) v9 from ⟨rfl, ?_⟩)
  obtain ⟨K0, Q0, hs, hk, -⟩ := am_X.inv1 (r := (.bipush 9, 105, 0, 0, 0, 0)) (fun z => z) rfl k
  have hs : K0 105 lv (.int (Int8.ofInt 9).toInt32 :: .ref 159 :: .ref 159 :: st) v9 := hs
  replace k := hk _ _ _ _ hs
  refine am_xstep (r := (.bipush 9, 105, 0, 0, 0, 0)) rfl (show am_X (am_call am_cod d) (am_nL 179) lim (am_rt 179) (am_find am_r179) (fun _ _ _ _ => False) (fun v h' => Q v h' ∧ wd_W h') 105 lv (.int (Int8.ofInt 9).toInt32 :: .ref 159 :: .ref 159 :: st) v9 from ?_)
  obtain ⟨K0, Q0, hs, hk, -⟩ := am_X.inv1 (r := (.ldc2_w 52, 108, 0, 0, 14, 0)) (fun z => z) rfl k
  have hs : K0 108 lv (.long (am_kl 14) :: .int (Int8.ofInt 9).toInt32 :: .ref 159 :: .ref 159 :: st) v9 := hs
  replace k := hk _ _ _ _ hs
  refine am_xstep (r := (.ldc2_w 52, 108, 0, 0, 14, 0)) rfl (show am_X (am_call am_cod d) (am_nL 179) lim (am_rt 179) (am_find am_r179) (fun _ _ _ _ => False) (fun v h' => Q v h' ∧ wd_W h') 108 lv (.long (am_kl 14) :: .int (Int8.ofInt 9).toInt32 :: .ref 159 :: .ref 159 :: st) v9 from ?_)
  obtain ⟨K0, Q0, hs, hk, -⟩ := am_X.inv1 (r := (.lastore, 109, 0, 0, 0, 0)) (fun z => z) rfl k
  have hs : ∃ j n : Nat, am_so v9 159 = some (14, n) ∧ j < n ∧ (Int8.ofInt 9).toInt32 = nI j ∧ K0 109 lv (.ref 159 :: st) (am_wL v9 159 j (am_kl 14)) := hs
  obtain ⟨j, n9, z1, z2, z3, z4⟩ := hs
  replace k := hk _ _ _ _ z4
  refine am_xstep (r := (.lastore, 109, 0, 0, 0, 0)) rfl (show ∃ j n : Nat, am_so v9 159 = some (14, n) ∧ j < n ∧ (Int8.ofInt 9).toInt32 = nI j ∧ am_X (am_call am_cod d) (am_nL 179) lim (am_rt 179) (am_find am_r179) (fun _ _ _ _ => False) (fun v h' => Q v h' ∧ wd_W h') 109 lv (.ref 159 :: st) (am_wL v9 159 j (am_kl 14)) from ⟨j, n9, z1, z2, z3, ?_⟩)
  have g10 := wd_s (i := 9) g9 (by decide) z1 z2 (show nI 9 = nI j from z3) (show am_kl 14 = rw_w 9 by decide +kernel)
  clear z4 hk z1 z2 z3 g9
  generalize am_wL v9 159 j (am_kl 14) = v10 at k g10 ⊢
  obtain ⟨K0, Q0, hs, hk, -⟩ := am_X.inv1 (r := (.dup, 110, 0, 0, 0, 0)) (fun z => z) rfl k
  have hs : (Value.ref 159).category = 1 ∧ K0 110 lv (.ref 159 :: .ref 159 :: st) v10 := hs
  replace k := hk _ _ _ _ hs.2
  refine am_xstep (r := (.dup, 110, 0, 0, 0, 0)) rfl (show (Value.ref 159).category = 1 ∧ am_X (am_call am_cod d) (am_nL 179) lim (am_rt 179) (am_find am_r179) (fun _ _ _ _ => False) (fun v h' => Q v h' ∧ wd_W h') 110 lv (.ref 159 :: .ref 159 :: st) v10 from ⟨rfl, ?_⟩)
  obtain ⟨K0, Q0, hs, hk, -⟩ := am_X.inv1 (r := (.bipush 10, 112, 0, 0, 0, 0)) (fun z => z) rfl k
  have hs : K0 112 lv (.int (Int8.ofInt 10).toInt32 :: .ref 159 :: .ref 159 :: st) v10 := hs
  replace k := hk _ _ _ _ hs
  refine am_xstep (r := (.bipush 10, 112, 0, 0, 0, 0)) rfl (show am_X (am_call am_cod d) (am_nL 179) lim (am_rt 179) (am_find am_r179) (fun _ _ _ _ => False) (fun v h' => Q v h' ∧ wd_W h') 112 lv (.int (Int8.ofInt 10).toInt32 :: .ref 159 :: .ref 159 :: st) v10 from ?_)
  obtain ⟨K0, Q0, hs, hk, -⟩ := am_X.inv1 (r := (.ldc2_w 54, 115, 0, 0, 15, 0)) (fun z => z) rfl k
  have hs : K0 115 lv (.long (am_kl 15) :: .int (Int8.ofInt 10).toInt32 :: .ref 159 :: .ref 159 :: st) v10 := hs
  replace k := hk _ _ _ _ hs
  refine am_xstep (r := (.ldc2_w 54, 115, 0, 0, 15, 0)) rfl (show am_X (am_call am_cod d) (am_nL 179) lim (am_rt 179) (am_find am_r179) (fun _ _ _ _ => False) (fun v h' => Q v h' ∧ wd_W h') 115 lv (.long (am_kl 15) :: .int (Int8.ofInt 10).toInt32 :: .ref 159 :: .ref 159 :: st) v10 from ?_)
  obtain ⟨K0, Q0, hs, hk, -⟩ := am_X.inv1 (r := (.lastore, 116, 0, 0, 0, 0)) (fun z => z) rfl k
  have hs : ∃ j n : Nat, am_so v10 159 = some (14, n) ∧ j < n ∧ (Int8.ofInt 10).toInt32 = nI j ∧ K0 116 lv (.ref 159 :: st) (am_wL v10 159 j (am_kl 15)) := hs
  obtain ⟨j, n10, z1, z2, z3, z4⟩ := hs
  replace k := hk _ _ _ _ z4
  refine am_xstep (r := (.lastore, 116, 0, 0, 0, 0)) rfl (show ∃ j n : Nat, am_so v10 159 = some (14, n) ∧ j < n ∧ (Int8.ofInt 10).toInt32 = nI j ∧ am_X (am_call am_cod d) (am_nL 179) lim (am_rt 179) (am_find am_r179) (fun _ _ _ _ => False) (fun v h' => Q v h' ∧ wd_W h') 116 lv (.ref 159 :: st) (am_wL v10 159 j (am_kl 15)) from ⟨j, n10, z1, z2, z3, ?_⟩)
  have g11 := wd_s (i := 10) g10 (by decide) z1 z2 (show nI 10 = nI j from z3) (show am_kl 15 = rw_w 10 by decide +kernel)
  clear z4 hk z1 z2 z3 g10
  generalize am_wL v10 159 j (am_kl 15) = v11 at k g11 ⊢
  obtain ⟨K0, Q0, hs, hk, -⟩ := am_X.inv1 (r := (.dup, 117, 0, 0, 0, 0)) (fun z => z) rfl k
  have hs : (Value.ref 159).category = 1 ∧ K0 117 lv (.ref 159 :: .ref 159 :: st) v11 := hs
  replace k := hk _ _ _ _ hs.2
  refine am_xstep (r := (.dup, 117, 0, 0, 0, 0)) rfl (show (Value.ref 159).category = 1 ∧ am_X (am_call am_cod d) (am_nL 179) lim (am_rt 179) (am_find am_r179) (fun _ _ _ _ => False) (fun v h' => Q v h' ∧ wd_W h') 117 lv (.ref 159 :: .ref 159 :: st) v11 from ⟨rfl, ?_⟩)
  obtain ⟨K0, Q0, hs, hk, -⟩ := am_X.inv1 (r := (.bipush 11, 119, 0, 0, 0, 0)) (fun z => z) rfl k
  have hs : K0 119 lv (.int (Int8.ofInt 11).toInt32 :: .ref 159 :: .ref 159 :: st) v11 := hs
  replace k := hk _ _ _ _ hs
  refine am_xstep (r := (.bipush 11, 119, 0, 0, 0, 0)) rfl (show am_X (am_call am_cod d) (am_nL 179) lim (am_rt 179) (am_find am_r179) (fun _ _ _ _ => False) (fun v h' => Q v h' ∧ wd_W h') 119 lv (.int (Int8.ofInt 11).toInt32 :: .ref 159 :: .ref 159 :: st) v11 from ?_)
  obtain ⟨K0, Q0, hs, hk, -⟩ := am_X.inv1 (r := (.ldc2_w 56, 122, 0, 0, 16, 0)) (fun z => z) rfl k
  have hs : K0 122 lv (.long (am_kl 16) :: .int (Int8.ofInt 11).toInt32 :: .ref 159 :: .ref 159 :: st) v11 := hs
  replace k := hk _ _ _ _ hs
  refine am_xstep (r := (.ldc2_w 56, 122, 0, 0, 16, 0)) rfl (show am_X (am_call am_cod d) (am_nL 179) lim (am_rt 179) (am_find am_r179) (fun _ _ _ _ => False) (fun v h' => Q v h' ∧ wd_W h') 122 lv (.long (am_kl 16) :: .int (Int8.ofInt 11).toInt32 :: .ref 159 :: .ref 159 :: st) v11 from ?_)
  obtain ⟨K0, Q0, hs, hk, -⟩ := am_X.inv1 (r := (.lastore, 123, 0, 0, 0, 0)) (fun z => z) rfl k
  have hs : ∃ j n : Nat, am_so v11 159 = some (14, n) ∧ j < n ∧ (Int8.ofInt 11).toInt32 = nI j ∧ K0 123 lv (.ref 159 :: st) (am_wL v11 159 j (am_kl 16)) := hs
  obtain ⟨j, n11, z1, z2, z3, z4⟩ := hs
  replace k := hk _ _ _ _ z4
  refine am_xstep (r := (.lastore, 123, 0, 0, 0, 0)) rfl (show ∃ j n : Nat, am_so v11 159 = some (14, n) ∧ j < n ∧ (Int8.ofInt 11).toInt32 = nI j ∧ am_X (am_call am_cod d) (am_nL 179) lim (am_rt 179) (am_find am_r179) (fun _ _ _ _ => False) (fun v h' => Q v h' ∧ wd_W h') 123 lv (.ref 159 :: st) (am_wL v11 159 j (am_kl 16)) from ⟨j, n11, z1, z2, z3, ?_⟩)
  have g12 := wd_s (i := 11) g11 (by decide) z1 z2 (show nI 11 = nI j from z3) (show am_kl 16 = rw_w 11 by decide +kernel)
  clear z4 hk z1 z2 z3 g11
  generalize am_wL v11 159 j (am_kl 16) = v12 at k g12 ⊢
  obtain ⟨K0, Q0, hs, hk, -⟩ := am_X.inv1 (r := (.dup, 124, 0, 0, 0, 0)) (fun z => z) rfl k
  have hs : (Value.ref 159).category = 1 ∧ K0 124 lv (.ref 159 :: .ref 159 :: st) v12 := hs
  replace k := hk _ _ _ _ hs.2
  refine am_xstep (r := (.dup, 124, 0, 0, 0, 0)) rfl (show (Value.ref 159).category = 1 ∧ am_X (am_call am_cod d) (am_nL 179) lim (am_rt 179) (am_find am_r179) (fun _ _ _ _ => False) (fun v h' => Q v h' ∧ wd_W h') 124 lv (.ref 159 :: .ref 159 :: st) v12 from ⟨rfl, ?_⟩)
  obtain ⟨K0, Q0, hs, hk, -⟩ := am_X.inv1 (r := (.bipush 12, 126, 0, 0, 0, 0)) (fun z => z) rfl k
  have hs : K0 126 lv (.int (Int8.ofInt 12).toInt32 :: .ref 159 :: .ref 159 :: st) v12 := hs
  replace k := hk _ _ _ _ hs
  refine am_xstep (r := (.bipush 12, 126, 0, 0, 0, 0)) rfl (show am_X (am_call am_cod d) (am_nL 179) lim (am_rt 179) (am_find am_r179) (fun _ _ _ _ => False) (fun v h' => Q v h' ∧ wd_W h') 126 lv (.int (Int8.ofInt 12).toInt32 :: .ref 159 :: .ref 159 :: st) v12 from ?_)
  obtain ⟨K0, Q0, hs, hk, -⟩ := am_X.inv1 (r := (.ldc2_w 58, 129, 0, 0, 17, 0)) (fun z => z) rfl k
  have hs : K0 129 lv (.long (am_kl 17) :: .int (Int8.ofInt 12).toInt32 :: .ref 159 :: .ref 159 :: st) v12 := hs
  replace k := hk _ _ _ _ hs
  refine am_xstep (r := (.ldc2_w 58, 129, 0, 0, 17, 0)) rfl (show am_X (am_call am_cod d) (am_nL 179) lim (am_rt 179) (am_find am_r179) (fun _ _ _ _ => False) (fun v h' => Q v h' ∧ wd_W h') 129 lv (.long (am_kl 17) :: .int (Int8.ofInt 12).toInt32 :: .ref 159 :: .ref 159 :: st) v12 from ?_)
  obtain ⟨K0, Q0, hs, hk, -⟩ := am_X.inv1 (r := (.lastore, 130, 0, 0, 0, 0)) (fun z => z) rfl k
  have hs : ∃ j n : Nat, am_so v12 159 = some (14, n) ∧ j < n ∧ (Int8.ofInt 12).toInt32 = nI j ∧ K0 130 lv (.ref 159 :: st) (am_wL v12 159 j (am_kl 17)) := hs
  obtain ⟨j, n12, z1, z2, z3, z4⟩ := hs
  replace k := hk _ _ _ _ z4
  refine am_xstep (r := (.lastore, 130, 0, 0, 0, 0)) rfl (show ∃ j n : Nat, am_so v12 159 = some (14, n) ∧ j < n ∧ (Int8.ofInt 12).toInt32 = nI j ∧ am_X (am_call am_cod d) (am_nL 179) lim (am_rt 179) (am_find am_r179) (fun _ _ _ _ => False) (fun v h' => Q v h' ∧ wd_W h') 130 lv (.ref 159 :: st) (am_wL v12 159 j (am_kl 17)) from ⟨j, n12, z1, z2, z3, ?_⟩)
  have g13 := wd_s (i := 12) g12 (by decide) z1 z2 (show nI 12 = nI j from z3) (show am_kl 17 = rw_w 12 by decide +kernel)
  clear z4 hk z1 z2 z3 g12
  generalize am_wL v12 159 j (am_kl 17) = v13 at k g13 ⊢
  obtain ⟨K0, Q0, hs, hk, -⟩ := am_X.inv1 (r := (.dup, 131, 0, 0, 0, 0)) (fun z => z) rfl k
  have hs : (Value.ref 159).category = 1 ∧ K0 131 lv (.ref 159 :: .ref 159 :: st) v13 := hs
  replace k := hk _ _ _ _ hs.2
  refine am_xstep (r := (.dup, 131, 0, 0, 0, 0)) rfl (show (Value.ref 159).category = 1 ∧ am_X (am_call am_cod d) (am_nL 179) lim (am_rt 179) (am_find am_r179) (fun _ _ _ _ => False) (fun v h' => Q v h' ∧ wd_W h') 131 lv (.ref 159 :: .ref 159 :: st) v13 from ⟨rfl, ?_⟩)
  obtain ⟨K0, Q0, hs, hk, -⟩ := am_X.inv1 (r := (.bipush 13, 133, 0, 0, 0, 0)) (fun z => z) rfl k
  have hs : K0 133 lv (.int (Int8.ofInt 13).toInt32 :: .ref 159 :: .ref 159 :: st) v13 := hs
  replace k := hk _ _ _ _ hs
  refine am_xstep (r := (.bipush 13, 133, 0, 0, 0, 0)) rfl (show am_X (am_call am_cod d) (am_nL 179) lim (am_rt 179) (am_find am_r179) (fun _ _ _ _ => False) (fun v h' => Q v h' ∧ wd_W h') 133 lv (.int (Int8.ofInt 13).toInt32 :: .ref 159 :: .ref 159 :: st) v13 from ?_)
  obtain ⟨K0, Q0, hs, hk, -⟩ := am_X.inv1 (r := (.ldc2_w 60, 136, 0, 0, 18, 0)) (fun z => z) rfl k
  have hs : K0 136 lv (.long (am_kl 18) :: .int (Int8.ofInt 13).toInt32 :: .ref 159 :: .ref 159 :: st) v13 := hs
  replace k := hk _ _ _ _ hs
  refine am_xstep (r := (.ldc2_w 60, 136, 0, 0, 18, 0)) rfl (show am_X (am_call am_cod d) (am_nL 179) lim (am_rt 179) (am_find am_r179) (fun _ _ _ _ => False) (fun v h' => Q v h' ∧ wd_W h') 136 lv (.long (am_kl 18) :: .int (Int8.ofInt 13).toInt32 :: .ref 159 :: .ref 159 :: st) v13 from ?_)
  obtain ⟨K0, Q0, hs, hk, -⟩ := am_X.inv1 (r := (.lastore, 137, 0, 0, 0, 0)) (fun z => z) rfl k
  have hs : ∃ j n : Nat, am_so v13 159 = some (14, n) ∧ j < n ∧ (Int8.ofInt 13).toInt32 = nI j ∧ K0 137 lv (.ref 159 :: st) (am_wL v13 159 j (am_kl 18)) := hs
  obtain ⟨j, n13, z1, z2, z3, z4⟩ := hs
  replace k := hk _ _ _ _ z4
  refine am_xstep (r := (.lastore, 137, 0, 0, 0, 0)) rfl (show ∃ j n : Nat, am_so v13 159 = some (14, n) ∧ j < n ∧ (Int8.ofInt 13).toInt32 = nI j ∧ am_X (am_call am_cod d) (am_nL 179) lim (am_rt 179) (am_find am_r179) (fun _ _ _ _ => False) (fun v h' => Q v h' ∧ wd_W h') 137 lv (.ref 159 :: st) (am_wL v13 159 j (am_kl 18)) from ⟨j, n13, z1, z2, z3, ?_⟩)
  have g14 := wd_s (i := 13) g13 (by decide) z1 z2 (show nI 13 = nI j from z3) (show am_kl 18 = rw_w 13 by decide +kernel)
  clear z4 hk z1 z2 z3 g13
  generalize am_wL v13 159 j (am_kl 18) = v14 at k g14 ⊢
  obtain ⟨K0, Q0, hs, hk, -⟩ := am_X.inv1 (r := (.dup, 138, 0, 0, 0, 0)) (fun z => z) rfl k
  have hs : (Value.ref 159).category = 1 ∧ K0 138 lv (.ref 159 :: .ref 159 :: st) v14 := hs
  replace k := hk _ _ _ _ hs.2
  refine am_xstep (r := (.dup, 138, 0, 0, 0, 0)) rfl (show (Value.ref 159).category = 1 ∧ am_X (am_call am_cod d) (am_nL 179) lim (am_rt 179) (am_find am_r179) (fun _ _ _ _ => False) (fun v h' => Q v h' ∧ wd_W h') 138 lv (.ref 159 :: .ref 159 :: st) v14 from ⟨rfl, ?_⟩)
  obtain ⟨K0, Q0, hs, hk, -⟩ := am_X.inv1 (r := (.bipush 14, 140, 0, 0, 0, 0)) (fun z => z) rfl k
  have hs : K0 140 lv (.int (Int8.ofInt 14).toInt32 :: .ref 159 :: .ref 159 :: st) v14 := hs
  replace k := hk _ _ _ _ hs
  refine am_xstep (r := (.bipush 14, 140, 0, 0, 0, 0)) rfl (show am_X (am_call am_cod d) (am_nL 179) lim (am_rt 179) (am_find am_r179) (fun _ _ _ _ => False) (fun v h' => Q v h' ∧ wd_W h') 140 lv (.int (Int8.ofInt 14).toInt32 :: .ref 159 :: .ref 159 :: st) v14 from ?_)
  obtain ⟨K0, Q0, hs, hk, -⟩ := am_X.inv1 (r := (.ldc2_w 62, 143, 0, 0, 19, 0)) (fun z => z) rfl k
  have hs : K0 143 lv (.long (am_kl 19) :: .int (Int8.ofInt 14).toInt32 :: .ref 159 :: .ref 159 :: st) v14 := hs
  replace k := hk _ _ _ _ hs
  refine am_xstep (r := (.ldc2_w 62, 143, 0, 0, 19, 0)) rfl (show am_X (am_call am_cod d) (am_nL 179) lim (am_rt 179) (am_find am_r179) (fun _ _ _ _ => False) (fun v h' => Q v h' ∧ wd_W h') 143 lv (.long (am_kl 19) :: .int (Int8.ofInt 14).toInt32 :: .ref 159 :: .ref 159 :: st) v14 from ?_)
  obtain ⟨K0, Q0, hs, hk, -⟩ := am_X.inv1 (r := (.lastore, 144, 0, 0, 0, 0)) (fun z => z) rfl k
  have hs : ∃ j n : Nat, am_so v14 159 = some (14, n) ∧ j < n ∧ (Int8.ofInt 14).toInt32 = nI j ∧ K0 144 lv (.ref 159 :: st) (am_wL v14 159 j (am_kl 19)) := hs
  obtain ⟨j, n14, z1, z2, z3, z4⟩ := hs
  replace k := hk _ _ _ _ z4
  refine am_xstep (r := (.lastore, 144, 0, 0, 0, 0)) rfl (show ∃ j n : Nat, am_so v14 159 = some (14, n) ∧ j < n ∧ (Int8.ofInt 14).toInt32 = nI j ∧ am_X (am_call am_cod d) (am_nL 179) lim (am_rt 179) (am_find am_r179) (fun _ _ _ _ => False) (fun v h' => Q v h' ∧ wd_W h') 144 lv (.ref 159 :: st) (am_wL v14 159 j (am_kl 19)) from ⟨j, n14, z1, z2, z3, ?_⟩)
  have g15 := wd_s (i := 14) g14 (by decide) z1 z2 (show nI 14 = nI j from z3) (show am_kl 19 = rw_w 14 by decide +kernel)
  clear z4 hk z1 z2 z3 g14
  generalize am_wL v14 159 j (am_kl 19) = v15 at k g15 ⊢
  obtain ⟨K0, Q0, hs, hk, -⟩ := am_X.inv1 (r := (.dup, 145, 0, 0, 0, 0)) (fun z => z) rfl k
  have hs : (Value.ref 159).category = 1 ∧ K0 145 lv (.ref 159 :: .ref 159 :: st) v15 := hs
  replace k := hk _ _ _ _ hs.2
  refine am_xstep (r := (.dup, 145, 0, 0, 0, 0)) rfl (show (Value.ref 159).category = 1 ∧ am_X (am_call am_cod d) (am_nL 179) lim (am_rt 179) (am_find am_r179) (fun _ _ _ _ => False) (fun v h' => Q v h' ∧ wd_W h') 145 lv (.ref 159 :: .ref 159 :: st) v15 from ⟨rfl, ?_⟩)
  obtain ⟨K0, Q0, hs, hk, -⟩ := am_X.inv1 (r := (.bipush 15, 147, 0, 0, 0, 0)) (fun z => z) rfl k
  have hs : K0 147 lv (.int (Int8.ofInt 15).toInt32 :: .ref 159 :: .ref 159 :: st) v15 := hs
  replace k := hk _ _ _ _ hs
  refine am_xstep (r := (.bipush 15, 147, 0, 0, 0, 0)) rfl (show am_X (am_call am_cod d) (am_nL 179) lim (am_rt 179) (am_find am_r179) (fun _ _ _ _ => False) (fun v h' => Q v h' ∧ wd_W h') 147 lv (.int (Int8.ofInt 15).toInt32 :: .ref 159 :: .ref 159 :: st) v15 from ?_)
  obtain ⟨K0, Q0, hs, hk, -⟩ := am_X.inv1 (r := (.ldc2_w 64, 150, 0, 0, 20, 0)) (fun z => z) rfl k
  have hs : K0 150 lv (.long (am_kl 20) :: .int (Int8.ofInt 15).toInt32 :: .ref 159 :: .ref 159 :: st) v15 := hs
  replace k := hk _ _ _ _ hs
  refine am_xstep (r := (.ldc2_w 64, 150, 0, 0, 20, 0)) rfl (show am_X (am_call am_cod d) (am_nL 179) lim (am_rt 179) (am_find am_r179) (fun _ _ _ _ => False) (fun v h' => Q v h' ∧ wd_W h') 150 lv (.long (am_kl 20) :: .int (Int8.ofInt 15).toInt32 :: .ref 159 :: .ref 159 :: st) v15 from ?_)
  obtain ⟨K0, Q0, hs, hk, -⟩ := am_X.inv1 (r := (.lastore, 151, 0, 0, 0, 0)) (fun z => z) rfl k
  have hs : ∃ j n : Nat, am_so v15 159 = some (14, n) ∧ j < n ∧ (Int8.ofInt 15).toInt32 = nI j ∧ K0 151 lv (.ref 159 :: st) (am_wL v15 159 j (am_kl 20)) := hs
  obtain ⟨j, n15, z1, z2, z3, z4⟩ := hs
  replace k := hk _ _ _ _ z4
  refine am_xstep (r := (.lastore, 151, 0, 0, 0, 0)) rfl (show ∃ j n : Nat, am_so v15 159 = some (14, n) ∧ j < n ∧ (Int8.ofInt 15).toInt32 = nI j ∧ am_X (am_call am_cod d) (am_nL 179) lim (am_rt 179) (am_find am_r179) (fun _ _ _ _ => False) (fun v h' => Q v h' ∧ wd_W h') 151 lv (.ref 159 :: st) (am_wL v15 159 j (am_kl 20)) from ⟨j, n15, z1, z2, z3, ?_⟩)
  have g16 := wd_s (i := 15) g15 (by decide) z1 z2 (show nI 15 = nI j from z3) (show am_kl 20 = rw_w 15 by decide +kernel)
  clear z4 hk z1 z2 z3 g15
  generalize am_wL v15 159 j (am_kl 20) = v16 at k g16 ⊢
  obtain ⟨K0, Q0, hs, hk, -⟩ := am_X.inv1 (r := (.dup, 152, 0, 0, 0, 0)) (fun z => z) rfl k
  have hs : (Value.ref 159).category = 1 ∧ K0 152 lv (.ref 159 :: .ref 159 :: st) v16 := hs
  replace k := hk _ _ _ _ hs.2
  refine am_xstep (r := (.dup, 152, 0, 0, 0, 0)) rfl (show (Value.ref 159).category = 1 ∧ am_X (am_call am_cod d) (am_nL 179) lim (am_rt 179) (am_find am_r179) (fun _ _ _ _ => False) (fun v h' => Q v h' ∧ wd_W h') 152 lv (.ref 159 :: .ref 159 :: st) v16 from ⟨rfl, ?_⟩)
  obtain ⟨K0, Q0, hs, hk, -⟩ := am_X.inv1 (r := (.bipush 16, 154, 0, 0, 0, 0)) (fun z => z) rfl k
  have hs : K0 154 lv (.int (Int8.ofInt 16).toInt32 :: .ref 159 :: .ref 159 :: st) v16 := hs
  replace k := hk _ _ _ _ hs
  refine am_xstep (r := (.bipush 16, 154, 0, 0, 0, 0)) rfl (show am_X (am_call am_cod d) (am_nL 179) lim (am_rt 179) (am_find am_r179) (fun _ _ _ _ => False) (fun v h' => Q v h' ∧ wd_W h') 154 lv (.int (Int8.ofInt 16).toInt32 :: .ref 159 :: .ref 159 :: st) v16 from ?_)
  obtain ⟨K0, Q0, hs, hk, -⟩ := am_X.inv1 (r := (.ldc2_w 66, 157, 0, 0, 21, 0)) (fun z => z) rfl k
  have hs : K0 157 lv (.long (am_kl 21) :: .int (Int8.ofInt 16).toInt32 :: .ref 159 :: .ref 159 :: st) v16 := hs
  replace k := hk _ _ _ _ hs
  refine am_xstep (r := (.ldc2_w 66, 157, 0, 0, 21, 0)) rfl (show am_X (am_call am_cod d) (am_nL 179) lim (am_rt 179) (am_find am_r179) (fun _ _ _ _ => False) (fun v h' => Q v h' ∧ wd_W h') 157 lv (.long (am_kl 21) :: .int (Int8.ofInt 16).toInt32 :: .ref 159 :: .ref 159 :: st) v16 from ?_)
  obtain ⟨K0, Q0, hs, hk, -⟩ := am_X.inv1 (r := (.lastore, 158, 0, 0, 0, 0)) (fun z => z) rfl k
  have hs : ∃ j n : Nat, am_so v16 159 = some (14, n) ∧ j < n ∧ (Int8.ofInt 16).toInt32 = nI j ∧ K0 158 lv (.ref 159 :: st) (am_wL v16 159 j (am_kl 21)) := hs
  obtain ⟨j, n16, z1, z2, z3, z4⟩ := hs
  replace k := hk _ _ _ _ z4
  refine am_xstep (r := (.lastore, 158, 0, 0, 0, 0)) rfl (show ∃ j n : Nat, am_so v16 159 = some (14, n) ∧ j < n ∧ (Int8.ofInt 16).toInt32 = nI j ∧ am_X (am_call am_cod d) (am_nL 179) lim (am_rt 179) (am_find am_r179) (fun _ _ _ _ => False) (fun v h' => Q v h' ∧ wd_W h') 158 lv (.ref 159 :: st) (am_wL v16 159 j (am_kl 21)) from ⟨j, n16, z1, z2, z3, ?_⟩)
  have g17 := wd_s (i := 16) g16 (by decide) z1 z2 (show nI 16 = nI j from z3) (show am_kl 21 = rw_w 16 by decide +kernel)
  clear z4 hk z1 z2 z3 g16
  generalize am_wL v16 159 j (am_kl 21) = v17 at k g17 ⊢
  obtain ⟨K0, Q0, hs, hk, -⟩ := am_X.inv1 (r := (.dup, 159, 0, 0, 0, 0)) (fun z => z) rfl k
  have hs : (Value.ref 159).category = 1 ∧ K0 159 lv (.ref 159 :: .ref 159 :: st) v17 := hs
  replace k := hk _ _ _ _ hs.2
  refine am_xstep (r := (.dup, 159, 0, 0, 0, 0)) rfl (show (Value.ref 159).category = 1 ∧ am_X (am_call am_cod d) (am_nL 179) lim (am_rt 179) (am_find am_r179) (fun _ _ _ _ => False) (fun v h' => Q v h' ∧ wd_W h') 159 lv (.ref 159 :: .ref 159 :: st) v17 from ⟨rfl, ?_⟩)
  obtain ⟨K0, Q0, hs, hk, -⟩ := am_X.inv1 (r := (.bipush 17, 161, 0, 0, 0, 0)) (fun z => z) rfl k
  have hs : K0 161 lv (.int (Int8.ofInt 17).toInt32 :: .ref 159 :: .ref 159 :: st) v17 := hs
  replace k := hk _ _ _ _ hs
  refine am_xstep (r := (.bipush 17, 161, 0, 0, 0, 0)) rfl (show am_X (am_call am_cod d) (am_nL 179) lim (am_rt 179) (am_find am_r179) (fun _ _ _ _ => False) (fun v h' => Q v h' ∧ wd_W h') 161 lv (.int (Int8.ofInt 17).toInt32 :: .ref 159 :: .ref 159 :: st) v17 from ?_)
  obtain ⟨K0, Q0, hs, hk, -⟩ := am_X.inv1 (r := (.ldc2_w 68, 164, 0, 0, 22, 0)) (fun z => z) rfl k
  have hs : K0 164 lv (.long (am_kl 22) :: .int (Int8.ofInt 17).toInt32 :: .ref 159 :: .ref 159 :: st) v17 := hs
  replace k := hk _ _ _ _ hs
  refine am_xstep (r := (.ldc2_w 68, 164, 0, 0, 22, 0)) rfl (show am_X (am_call am_cod d) (am_nL 179) lim (am_rt 179) (am_find am_r179) (fun _ _ _ _ => False) (fun v h' => Q v h' ∧ wd_W h') 164 lv (.long (am_kl 22) :: .int (Int8.ofInt 17).toInt32 :: .ref 159 :: .ref 159 :: st) v17 from ?_)
  obtain ⟨K0, Q0, hs, hk, -⟩ := am_X.inv1 (r := (.lastore, 165, 0, 0, 0, 0)) (fun z => z) rfl k
  have hs : ∃ j n : Nat, am_so v17 159 = some (14, n) ∧ j < n ∧ (Int8.ofInt 17).toInt32 = nI j ∧ K0 165 lv (.ref 159 :: st) (am_wL v17 159 j (am_kl 22)) := hs
  obtain ⟨j, n17, z1, z2, z3, z4⟩ := hs
  replace k := hk _ _ _ _ z4
  refine am_xstep (r := (.lastore, 165, 0, 0, 0, 0)) rfl (show ∃ j n : Nat, am_so v17 159 = some (14, n) ∧ j < n ∧ (Int8.ofInt 17).toInt32 = nI j ∧ am_X (am_call am_cod d) (am_nL 179) lim (am_rt 179) (am_find am_r179) (fun _ _ _ _ => False) (fun v h' => Q v h' ∧ wd_W h') 165 lv (.ref 159 :: st) (am_wL v17 159 j (am_kl 22)) from ⟨j, n17, z1, z2, z3, ?_⟩)
  have g18 := wd_s (i := 17) g17 (by decide) z1 z2 (show nI 17 = nI j from z3) (show am_kl 22 = rw_w 17 by decide +kernel)
  clear z4 hk z1 z2 z3 g17
  generalize am_wL v17 159 j (am_kl 22) = v18 at k g18 ⊢
  obtain ⟨K0, Q0, hs, hk, -⟩ := am_X.inv1 (r := (.dup, 166, 0, 0, 0, 0)) (fun z => z) rfl k
  have hs : (Value.ref 159).category = 1 ∧ K0 166 lv (.ref 159 :: .ref 159 :: st) v18 := hs
  replace k := hk _ _ _ _ hs.2
  refine am_xstep (r := (.dup, 166, 0, 0, 0, 0)) rfl (show (Value.ref 159).category = 1 ∧ am_X (am_call am_cod d) (am_nL 179) lim (am_rt 179) (am_find am_r179) (fun _ _ _ _ => False) (fun v h' => Q v h' ∧ wd_W h') 166 lv (.ref 159 :: .ref 159 :: st) v18 from ⟨rfl, ?_⟩)
  obtain ⟨K0, Q0, hs, hk, -⟩ := am_X.inv1 (r := (.bipush 18, 168, 0, 0, 0, 0)) (fun z => z) rfl k
  have hs : K0 168 lv (.int (Int8.ofInt 18).toInt32 :: .ref 159 :: .ref 159 :: st) v18 := hs
  replace k := hk _ _ _ _ hs
  refine am_xstep (r := (.bipush 18, 168, 0, 0, 0, 0)) rfl (show am_X (am_call am_cod d) (am_nL 179) lim (am_rt 179) (am_find am_r179) (fun _ _ _ _ => False) (fun v h' => Q v h' ∧ wd_W h') 168 lv (.int (Int8.ofInt 18).toInt32 :: .ref 159 :: .ref 159 :: st) v18 from ?_)
  obtain ⟨K0, Q0, hs, hk, -⟩ := am_X.inv1 (r := (.ldc2_w 70, 171, 0, 0, 23, 0)) (fun z => z) rfl k
  have hs : K0 171 lv (.long (am_kl 23) :: .int (Int8.ofInt 18).toInt32 :: .ref 159 :: .ref 159 :: st) v18 := hs
  replace k := hk _ _ _ _ hs
  refine am_xstep (r := (.ldc2_w 70, 171, 0, 0, 23, 0)) rfl (show am_X (am_call am_cod d) (am_nL 179) lim (am_rt 179) (am_find am_r179) (fun _ _ _ _ => False) (fun v h' => Q v h' ∧ wd_W h') 171 lv (.long (am_kl 23) :: .int (Int8.ofInt 18).toInt32 :: .ref 159 :: .ref 159 :: st) v18 from ?_)
  obtain ⟨K0, Q0, hs, hk, -⟩ := am_X.inv1 (r := (.lastore, 172, 0, 0, 0, 0)) (fun z => z) rfl k
  have hs : ∃ j n : Nat, am_so v18 159 = some (14, n) ∧ j < n ∧ (Int8.ofInt 18).toInt32 = nI j ∧ K0 172 lv (.ref 159 :: st) (am_wL v18 159 j (am_kl 23)) := hs
  obtain ⟨j, n18, z1, z2, z3, z4⟩ := hs
  replace k := hk _ _ _ _ z4
  refine am_xstep (r := (.lastore, 172, 0, 0, 0, 0)) rfl (show ∃ j n : Nat, am_so v18 159 = some (14, n) ∧ j < n ∧ (Int8.ofInt 18).toInt32 = nI j ∧ am_X (am_call am_cod d) (am_nL 179) lim (am_rt 179) (am_find am_r179) (fun _ _ _ _ => False) (fun v h' => Q v h' ∧ wd_W h') 172 lv (.ref 159 :: st) (am_wL v18 159 j (am_kl 23)) from ⟨j, n18, z1, z2, z3, ?_⟩)
  have g19 := wd_s (i := 18) g18 (by decide) z1 z2 (show nI 18 = nI j from z3) (show am_kl 23 = rw_w 18 by decide +kernel)
  clear z4 hk z1 z2 z3 g18
  generalize am_wL v18 159 j (am_kl 23) = v19 at k g19 ⊢
  obtain ⟨K0, Q0, hs, hk, -⟩ := am_X.inv1 (r := (.dup, 173, 0, 0, 0, 0)) (fun z => z) rfl k
  have hs : (Value.ref 159).category = 1 ∧ K0 173 lv (.ref 159 :: .ref 159 :: st) v19 := hs
  replace k := hk _ _ _ _ hs.2
  refine am_xstep (r := (.dup, 173, 0, 0, 0, 0)) rfl (show (Value.ref 159).category = 1 ∧ am_X (am_call am_cod d) (am_nL 179) lim (am_rt 179) (am_find am_r179) (fun _ _ _ _ => False) (fun v h' => Q v h' ∧ wd_W h') 173 lv (.ref 159 :: .ref 159 :: st) v19 from ⟨rfl, ?_⟩)
  obtain ⟨K0, Q0, hs, hk, -⟩ := am_X.inv1 (r := (.bipush 19, 175, 0, 0, 0, 0)) (fun z => z) rfl k
  have hs : K0 175 lv (.int (Int8.ofInt 19).toInt32 :: .ref 159 :: .ref 159 :: st) v19 := hs
  replace k := hk _ _ _ _ hs
  refine am_xstep (r := (.bipush 19, 175, 0, 0, 0, 0)) rfl (show am_X (am_call am_cod d) (am_nL 179) lim (am_rt 179) (am_find am_r179) (fun _ _ _ _ => False) (fun v h' => Q v h' ∧ wd_W h') 175 lv (.int (Int8.ofInt 19).toInt32 :: .ref 159 :: .ref 159 :: st) v19 from ?_)
  obtain ⟨K0, Q0, hs, hk, -⟩ := am_X.inv1 (r := (.ldc2_w 72, 178, 0, 0, 24, 0)) (fun z => z) rfl k
  have hs : K0 178 lv (.long (am_kl 24) :: .int (Int8.ofInt 19).toInt32 :: .ref 159 :: .ref 159 :: st) v19 := hs
  replace k := hk _ _ _ _ hs
  refine am_xstep (r := (.ldc2_w 72, 178, 0, 0, 24, 0)) rfl (show am_X (am_call am_cod d) (am_nL 179) lim (am_rt 179) (am_find am_r179) (fun _ _ _ _ => False) (fun v h' => Q v h' ∧ wd_W h') 178 lv (.long (am_kl 24) :: .int (Int8.ofInt 19).toInt32 :: .ref 159 :: .ref 159 :: st) v19 from ?_)
  obtain ⟨K0, Q0, hs, hk, -⟩ := am_X.inv1 (r := (.lastore, 179, 0, 0, 0, 0)) (fun z => z) rfl k
  have hs : ∃ j n : Nat, am_so v19 159 = some (14, n) ∧ j < n ∧ (Int8.ofInt 19).toInt32 = nI j ∧ K0 179 lv (.ref 159 :: st) (am_wL v19 159 j (am_kl 24)) := hs
  obtain ⟨j, n19, z1, z2, z3, z4⟩ := hs
  replace k := hk _ _ _ _ z4
  refine am_xstep (r := (.lastore, 179, 0, 0, 0, 0)) rfl (show ∃ j n : Nat, am_so v19 159 = some (14, n) ∧ j < n ∧ (Int8.ofInt 19).toInt32 = nI j ∧ am_X (am_call am_cod d) (am_nL 179) lim (am_rt 179) (am_find am_r179) (fun _ _ _ _ => False) (fun v h' => Q v h' ∧ wd_W h') 179 lv (.ref 159 :: st) (am_wL v19 159 j (am_kl 24)) from ⟨j, n19, z1, z2, z3, ?_⟩)
  have g20 := wd_s (i := 19) g19 (by decide) z1 z2 (show nI 19 = nI j from z3) (show am_kl 24 = rw_w 19 by decide +kernel)
  clear z4 hk z1 z2 z3 g19
  generalize am_wL v19 159 j (am_kl 24) = v20 at k g20 ⊢
  obtain ⟨K0, Q0, hs, hk, -⟩ := am_X.inv1 (r := (.dup, 180, 0, 0, 0, 0)) (fun z => z) rfl k
  have hs : (Value.ref 159).category = 1 ∧ K0 180 lv (.ref 159 :: .ref 159 :: st) v20 := hs
  replace k := hk _ _ _ _ hs.2
  refine am_xstep (r := (.dup, 180, 0, 0, 0, 0)) rfl (show (Value.ref 159).category = 1 ∧ am_X (am_call am_cod d) (am_nL 179) lim (am_rt 179) (am_find am_r179) (fun _ _ _ _ => False) (fun v h' => Q v h' ∧ wd_W h') 180 lv (.ref 159 :: .ref 159 :: st) v20 from ⟨rfl, ?_⟩)
  obtain ⟨K0, Q0, hs, hk, -⟩ := am_X.inv1 (r := (.bipush 20, 182, 0, 0, 0, 0)) (fun z => z) rfl k
  have hs : K0 182 lv (.int (Int8.ofInt 20).toInt32 :: .ref 159 :: .ref 159 :: st) v20 := hs
  replace k := hk _ _ _ _ hs
  refine am_xstep (r := (.bipush 20, 182, 0, 0, 0, 0)) rfl (show am_X (am_call am_cod d) (am_nL 179) lim (am_rt 179) (am_find am_r179) (fun _ _ _ _ => False) (fun v h' => Q v h' ∧ wd_W h') 182 lv (.int (Int8.ofInt 20).toInt32 :: .ref 159 :: .ref 159 :: st) v20 from ?_)
  obtain ⟨K0, Q0, hs, hk, -⟩ := am_X.inv1 (r := (.ldc2_w 74, 185, 0, 0, 25, 0)) (fun z => z) rfl k
  have hs : K0 185 lv (.long (am_kl 25) :: .int (Int8.ofInt 20).toInt32 :: .ref 159 :: .ref 159 :: st) v20 := hs
  replace k := hk _ _ _ _ hs
  refine am_xstep (r := (.ldc2_w 74, 185, 0, 0, 25, 0)) rfl (show am_X (am_call am_cod d) (am_nL 179) lim (am_rt 179) (am_find am_r179) (fun _ _ _ _ => False) (fun v h' => Q v h' ∧ wd_W h') 185 lv (.long (am_kl 25) :: .int (Int8.ofInt 20).toInt32 :: .ref 159 :: .ref 159 :: st) v20 from ?_)
  obtain ⟨K0, Q0, hs, hk, -⟩ := am_X.inv1 (r := (.lastore, 186, 0, 0, 0, 0)) (fun z => z) rfl k
  have hs : ∃ j n : Nat, am_so v20 159 = some (14, n) ∧ j < n ∧ (Int8.ofInt 20).toInt32 = nI j ∧ K0 186 lv (.ref 159 :: st) (am_wL v20 159 j (am_kl 25)) := hs
  obtain ⟨j, n20, z1, z2, z3, z4⟩ := hs
  replace k := hk _ _ _ _ z4
  refine am_xstep (r := (.lastore, 186, 0, 0, 0, 0)) rfl (show ∃ j n : Nat, am_so v20 159 = some (14, n) ∧ j < n ∧ (Int8.ofInt 20).toInt32 = nI j ∧ am_X (am_call am_cod d) (am_nL 179) lim (am_rt 179) (am_find am_r179) (fun _ _ _ _ => False) (fun v h' => Q v h' ∧ wd_W h') 186 lv (.ref 159 :: st) (am_wL v20 159 j (am_kl 25)) from ⟨j, n20, z1, z2, z3, ?_⟩)
  have g21 := wd_s (i := 20) g20 (by decide) z1 z2 (show nI 20 = nI j from z3) (show am_kl 25 = rw_w 20 by decide +kernel)
  clear z4 hk z1 z2 z3 g20
  generalize am_wL v20 159 j (am_kl 25) = v21 at k g21 ⊢
  exact w179_c (Nat.le_refl _) g21 k
theorem w179_R : am_r179.all (fun q => !(Nat.blt q.1 41) || (match q.2.1 with | .aload_n _ => true | .sipush _ => true | .newarray _ => true | .putfield _ => true | .invokespecial _ => Nat.beq q.2.2.2.1 1 | _ => false)) = true := by decide +kernel
theorem w179_q {cp : am_P} {nL lim pc : Nat} {rt : Option FieldType} {r : am_R} {lv : am_V} {st : List Value} {h : am_H} {K : Nat → am_V → List Value → am_H → Prop} {Q Q' : am_Q} (hR : (match r.1 with | .aload_n _ => true | .sipush _ => true | .newarray _ => true | .putfield _ => true | .invokespecial _ => Nat.beq r.2.2.1 1 | _ => false) = true) (hs : am_stp cp nL lim rt pc r lv st h K Q) : am_stp cp nL lim rt pc r lv st h K Q' := by
  obtain ⟨i, nx, a, b, c, d⟩ := r
  cases i
  case aload_n k => exact hs
  case sipush k => exact hs
  case newarray k => exact hs
  case putfield k => exact hs
  case invokespecial k =>
    have ha : Nat.beq a 1 = true := hR
    simp only [am_stp, ha] at hs ⊢
    exact hs
  all_goals exact absurd hR (by simp)
theorem w179_a {d lim : Nat} {Q : am_Q} {lv : am_V} {st : List Value} {h : am_H} (k : am_X (am_call am_cod d) (am_nL 179) lim (am_rt 179) (am_find am_r179) (fun _ _ _ _ => False) Q 0 lv st h) : am_X (am_call am_cod d) (am_nL 179) lim (am_rt 179) (am_find am_r179) (fun _ _ _ _ => False) (fun v h' => Q v h' ∧ wd_W h') 0 lv st h :=
  (k (fun pc lv st h => am_X (am_call am_cod d) (am_nL 179) lim (am_rt 179) (am_find am_r179) (fun _ _ _ _ => False) Q pc lv st h ∧ (pc ≤ 41 → am_X (am_call am_cod d) (am_nL 179) lim (am_rt 179) (am_find am_r179) (fun _ _ _ _ => False) (fun v h' => Q v h' ∧ wd_W h') pc lv st h)) (fun _ _ _ _ z => z.elim) (fun pc lv st h1 r K0 Q0 hc hs hk hq => by
    have k1 : am_X (am_call am_cod d) (am_nL 179) lim (am_rt 179) (am_find am_r179) (fun _ _ _ _ => False) Q pc lv st h1 := fun P hE hP => hP pc lv st h1 r K0 Q0 hc hs (fun pc lv st h q => (hk pc lv st h q).1 P hE hP) hq
    refine ⟨k1, fun hpc => ?_⟩
    by_cases e41 : pc = 41
    · subst e41
      exact w179_b k1
    · have w := List.all_eq_true.mp w179_A _ (am_find_mem hc)
      rw [show Nat.blt pc 41 = true from Nat.ble_eq_true_of_le (show pc + 1 ≤ 41 by omega)] at w
      have w : (nl_ok r && (!(nl_br r) && Nat.ble r.2.1 41)) = true := w
      rw [Bool.and_eq_true, Bool.and_eq_true] at w
      obtain ⟨w1, w2, w3⟩ := w
      have hs2 := nl_stp (cp := am_call am_cod d) (W := fun _ => True) (fun _ _ _ _ _ => trivial) (fun _ _ _ _ _ => trivial) (fun _ _ => trivial) (fun _ _ _ _ _ f k => am_call.mono f k) (fun n As h Q hn hW k => am_call.mono (fun v h q => ⟨q, trivial⟩) k) w1 trivial hs
      have w5 := List.all_eq_true.mp w179_R _ (am_find_mem hc)
      rw [show Nat.blt pc 41 = true from Nat.ble_eq_true_of_le (show pc + 1 ≤ 41 by omega)] at w5
      exact fun P hE hP => hP pc lv st h1 r _ _ hc (w179_q (Q' := fun _ _ => False) w5 hs2) (fun pc' lv st h2 q => (hk pc' lv st h2 q.1).2 (by
        rcases q.2.2 with z | z
        · rw [z]; exact Nat.le_of_ble_eq_true w3
        · rw [z.1] at w2; cases w2) P hE hP) (fun v h2 q => q.elim))).2 (by decide)
theorem w179 : ∀ (d : Nat) (As : List Value) (h : am_H) (Q : am_Q), am_call am_cod d 179 As h Q → am_call am_cod d 179 As h (fun v h' => Q v h' ∧ wd_W h')
  | 0, _, _, _, k => k.elim
  | d + 1, As, h, Q, k => by
    rcases k with k | ⟨k1, k⟩
    · exact Or.inl (w179 d As h Q k)
    · refine Or.inr ⟨k1, ?_⟩
      unfold am_W at k ⊢
      rw [w179_cod] at k ⊢
      exact am_X.mono (fun _ _ _ _ z => z.elim) (fun v h' q => ⟨q.1.1, q.1.2, q.2⟩) (w179_a k)
def am_rLs : List (Nat × am_R) := [(0, (.new 8, 3, 0, 10, 0, 0)), (3, (.dup, 4, 0, 0, 0, 0)), (4, (.invokespecial 15, 7, 0, 0, 0, 0)), (7, (.astore_n 1, 8, 0, 0, 0, 0)), (8, (.new 16, 11, 0, 11, 15, 0)), (11, (.dup, 12, 0, 0, 0, 0)), (12, (.invokespecial 18, 15, 179, 0, 227, 0)), (15, (.astore_n 2, 16, 0, 0, 0, 0)), (16, (.iconst 1, 17, 0, 0, 0, 0)), (17, (.newarray .long, 19, 0, 14, 0, 0)), (19, (.astore_n 3, 20, 0, 0, 0, 0)), (20, (.iconst 0, 21, 0, 0, 0, 0)), (21, (.istore 4, 23, 0, 0, 0, 0))]
theorem ae_run1 : ae_go 0 (fun _ _ _ => none) (fun pc => Nat.beq pc 23) ae_fin0 (fun _ _ _ => false) 9000 ae_env0 20 ([], [], 0, 0) (am_rLs, 7, some .boolean, 175, 0, [(0, .inr (.inr (.inl 3000000)))], []) [] = true := by decide +kernel
theorem am_rLs_sub : ∀ {pc : Nat} {r : am_R}, am_find am_rLs pc = some r → am_find am_rL pc = some r := by
  intro pc r h
  have m := am_find_mem h
  have w : am_rLs.all (fun q => decide (am_find am_rL q.1 = some q.2)) = true := by decide +kernel
  exact of_decide_eq_true (List.all_eq_true.mp w _ m)
theorem am_X_sub {cp : am_P} {nL lim : Nat} {rt : Option FieldType} {E : Nat → am_V → List Value → am_H → Prop} {Q : am_Q} {pc : Nat} {lv : am_V} {st : List Value} {h : am_H} (k : am_X cp nL lim rt (am_find am_rLs) E Q pc lv st h) : am_X cp nL lim rt (am_find am_rL) E Q pc lv st h :=
  fun P hE hP => k P hE (fun pc lv st h r K0 Q0 hc hs hk hq => hP pc lv st h r K0 Q0 (am_rLs_sub hc) hs hk hq)
def lw_no0 : am_Q := fun _ _ => False
theorem wd_law {E : Nat → am_V → List Value → am_H → Prop} (hE : ∀ pc lv st h, E pc lv st h → pc = 23) {lv : am_V} {h : am_H} (k : am_X (am_call am_cod 20) 7 175 (some .boolean) (am_find am_rLs) E lw_no0 0 lv [] h) : am_X (am_call am_cod 20) 7 175 (some .boolean) (am_find am_rLs) (fun pc lv st h => E pc lv st h ∧ wd_W h) lw_no0 0 lv [] h := by
  have no : ∀ {pc lv st h}, ¬ pc = 23 → ¬ E pc lv st h := fun n e => n (hE _ _ _ _ e)
  obtain ⟨K0, Q0, hs, hk, -⟩ := am_X.inv1 (r := (.new 8, 3, 0, 10, 0, 0)) (no (by decide)) rfl k
  have hs : am_shl[h.2.2.2.2]? = some (10, 0) ∧ h.2.2.2.2 + 1 ≤ 175 ∧ K0 3 lv [.ref h.2.2.2.2] (am_nx h) := hs
  replace k := hk _ _ _ _ hs.2.2
  refine am_xstep (r := (.new 8, 3, 0, 10, 0, 0)) rfl (show am_shl[h.2.2.2.2]? = some (10, 0) ∧ h.2.2.2.2 + 1 ≤ 175 ∧ am_X (am_call am_cod 20) 7 175 (some .boolean) (am_find am_rLs) (fun pc lv st h => E pc lv st h ∧ wd_W h) lw_no0 3 lv ([.ref h.2.2.2.2]) (am_nx h) from ⟨hs.1, hs.2.1, ?_⟩)
  clear hs hk
  generalize h.2.2.2.2 = r0 at k ⊢
  generalize am_nx h = g at k ⊢
  obtain ⟨K0, Q0, hs, hk, -⟩ := am_X.inv1 (r := (.dup, 4, 0, 0, 0, 0)) (no (by decide)) rfl k
  have hs : (Value.ref r0).category = 1 ∧ K0 4 lv [.ref r0, .ref r0] g := hs
  replace k := hk _ _ _ _ hs.2
  refine am_xstep (r := (.dup, 4, 0, 0, 0, 0)) rfl (show (Value.ref r0).category = 1 ∧ am_X (am_call am_cod 20) 7 175 (some .boolean) (am_find am_rLs) (fun pc lv st h => E pc lv st h ∧ wd_W h) lw_no0 4 lv ([.ref r0, .ref r0]) g from ⟨rfl, ?_⟩)
  obtain ⟨K0, Q0, hs, hk, -⟩ := am_X.inv1 (r := (.invokespecial 15, 7, 0, 0, 0, 0)) (no (by decide)) rfl k
  have hs : ([Value.ref r0].map fun v => v.category).sum ≤ 8 ∧ (g.2.2.2.2 + am_al 0 ≤ 175 ∧ am_call am_cod 20 0 [.ref r0] g (fun v h' => K0 7 lv (v.toList ++ [.ref r0]) h')) := hs
  refine am_xstep (r := (.invokespecial 15, 7, 0, 0, 0, 0)) rfl (show ([Value.ref r0].map fun v => v.category).sum ≤ 8 ∧ (g.2.2.2.2 + am_al 0 ≤ 175 ∧ am_call am_cod 20 0 [.ref r0] g (fun v h' => am_X (am_call am_cod 20) 7 175 (some .boolean) (am_find am_rLs) (fun pc lv st h => E pc lv st h ∧ wd_W h) lw_no0 7 lv (v.toList ++ [.ref r0]) h')) from ⟨hs.1, hs.2.1, am_call.mono (fun v g1 q => ?_) hs.2.2⟩)
  replace k := hk _ _ _ _ q
  clear hs hk q
  generalize v.toList ++ [.ref r0] = st at k ⊢
  obtain ⟨K0, Q0, hs, hk, -⟩ := am_X.inv1 (r := (.astore_n 1, 8, 0, 0, 0, 0)) (no (by decide)) rfl k
  have hs : am_pR st fun x r => 1 < 7 ∧ K0 8 (am_s1 lv 1 (.ref x)) r g1 := hs
  refine am_xstep (r := (.astore_n 1, 8, 0, 0, 0, 0)) rfl (show am_pR st fun x r => 1 < 7 ∧ am_X (am_call am_cod 20) 7 175 (some .boolean) (am_find am_rLs) (fun pc lv st h => E pc lv st h ∧ wd_W h) lw_no0 8 (am_s1 lv 1 (.ref x)) r g1 from am_pR.imp (fun x r q => ⟨q.1, ?_⟩) hs)
  replace k := hk _ _ _ _ q.2
  clear hs hk q
  generalize am_s1 lv 1 (.ref x) = lv1 at k ⊢
  obtain ⟨K0, Q0, hs, hk, -⟩ := am_X.inv1 (r := (.new 16, 11, 0, 11, 15, 0)) (no (by decide)) rfl k
  have hs : am_shl[g1.2.2.2.2]? = some (11, 0) ∧ g1.2.2.2.2 + 1 ≤ 175 ∧ K0 11 lv1 (.ref g1.2.2.2.2 :: r) (am_nx g1) := hs
  replace k := hk _ _ _ _ hs.2.2
  refine am_xstep (r := (.new 16, 11, 0, 11, 15, 0)) rfl (show am_shl[g1.2.2.2.2]? = some (11, 0) ∧ g1.2.2.2.2 + 1 ≤ 175 ∧ am_X (am_call am_cod 20) 7 175 (some .boolean) (am_find am_rLs) (fun pc lv st h => E pc lv st h ∧ wd_W h) lw_no0 11 lv1 (.ref g1.2.2.2.2 :: r) (am_nx g1) from ⟨hs.1, hs.2.1, ?_⟩)
  clear hs hk
  generalize g1.2.2.2.2 = r1 at k ⊢
  generalize am_nx g1 = g2 at k ⊢
  obtain ⟨K0, Q0, hs, hk, -⟩ := am_X.inv1 (r := (.dup, 12, 0, 0, 0, 0)) (no (by decide)) rfl k
  have hs : (Value.ref r1).category = 1 ∧ K0 12 lv1 (.ref r1 :: .ref r1 :: r) g2 := hs
  replace k := hk _ _ _ _ hs.2
  refine am_xstep (r := (.dup, 12, 0, 0, 0, 0)) rfl (show (Value.ref r1).category = 1 ∧ am_X (am_call am_cod 20) 7 175 (some .boolean) (am_find am_rLs) (fun pc lv st h => E pc lv st h ∧ wd_W h) lw_no0 12 lv1 (.ref r1 :: .ref r1 :: r) g2 from ⟨rfl, ?_⟩)
  obtain ⟨K0, Q0, hs, hk, -⟩ := am_X.inv1 (r := (.invokespecial 18, 15, 179, 0, 227, 0)) (no (by decide)) rfl k
  have hs : ((Value.ref r1 :: r).map fun v => v.category).sum ≤ 8 ∧ (g2.2.2.2.2 + am_al 179 ≤ 175 ∧ am_call am_cod 20 179 [.ref r1] g2 (fun v h' => K0 15 lv1 (v.toList ++ (.ref r1 :: r)) h')) := hs
  refine am_xstep (r := (.invokespecial 18, 15, 179, 0, 227, 0)) rfl (show ((Value.ref r1 :: r).map fun v => v.category).sum ≤ 8 ∧ (g2.2.2.2.2 + am_al 179 ≤ 175 ∧ am_call am_cod 20 179 [.ref r1] g2 (fun v h' => am_X (am_call am_cod 20) 7 175 (some .boolean) (am_find am_rLs) (fun pc lv st h => E pc lv st h ∧ wd_W h) lw_no0 15 lv1 (v.toList ++ (.ref r1 :: r)) h')) from ⟨hs.1, hs.2.1, am_call.mono (fun v g3 q => ?_) (w179 _ _ _ _ hs.2.2)⟩)
  have hW := q.2
  replace k := hk _ _ _ _ q.1
  clear hs hk q
  generalize v.toList ++ (.ref r1 :: r) = st2 at k ⊢
  obtain ⟨K0, Q0, hs, hk, -⟩ := am_X.inv1 (r := (.astore_n 2, 16, 0, 0, 0, 0)) (no (by decide)) rfl k
  have hs : am_pR st2 fun x r => 2 < 7 ∧ K0 16 (am_s1 lv1 2 (.ref x)) r g3 := hs
  refine am_xstep (r := (.astore_n 2, 16, 0, 0, 0, 0)) rfl (show am_pR st2 fun x r => 2 < 7 ∧ am_X (am_call am_cod 20) 7 175 (some .boolean) (am_find am_rLs) (fun pc lv st h => E pc lv st h ∧ wd_W h) lw_no0 16 (am_s1 lv1 2 (.ref x)) r g3 from am_pR.imp (fun x2 s2 q => ⟨q.1, ?_⟩) hs)
  replace k := hk _ _ _ _ q.2
  clear hs hk q
  generalize am_s1 lv1 2 (.ref x2) = lv2 at k ⊢
  obtain ⟨K0, Q0, hs, hk, -⟩ := am_X.inv1 (r := (.iconst 1, 17, 0, 0, 0, 0)) (no (by decide)) rfl k
  have hs : K0 17 lv2 (.int (Int32.ofInt 1) :: s2) g3 := hs
  replace k := hk _ _ _ _ hs
  refine am_xstep (r := (.iconst 1, 17, 0, 0, 0, 0)) rfl (show am_X (am_call am_cod 20) 7 175 (some .boolean) (am_find am_rLs) (fun pc lv st h => E pc lv st h ∧ wd_W h) lw_no0 17 lv2 (.int (Int32.ofInt 1) :: s2) g3 from ?_)
  obtain ⟨K0, Q0, hs, hk, -⟩ := am_X.inv1 (r := (.newarray .long, 19, 0, 14, 0, 0)) (no (by decide)) rfl k
  have hs : ∃ n : Nat, am_shl[g3.2.2.2.2]? = some (14, n) ∧ Int32.ofInt 1 = nI n ∧ g3.2.2.2.2 + 1 ≤ 175 ∧ K0 19 lv2 (.ref g3.2.2.2.2 :: s2) (am_nx g3) := hs
  obtain ⟨n, q1, q2, q3, q4⟩ := hs
  replace k := hk _ _ _ _ q4
  refine am_xstep (r := (.newarray .long, 19, 0, 14, 0, 0)) rfl (show ∃ n : Nat, am_shl[g3.2.2.2.2]? = some (14, n) ∧ Int32.ofInt 1 = nI n ∧ g3.2.2.2.2 + 1 ≤ 175 ∧ am_X (am_call am_cod 20) 7 175 (some .boolean) (am_find am_rLs) (fun pc lv st h => E pc lv st h ∧ wd_W h) lw_no0 19 lv2 (.ref g3.2.2.2.2 :: s2) (am_nx g3) from ⟨n, q1, q2, q3, ?_⟩)
  replace hW := wd_N _ hW
  clear hk q4
  generalize g3.2.2.2.2 = r3 at k ⊢
  generalize am_nx g3 = g4 at k hW ⊢
  obtain ⟨K0, Q0, hs, hk, -⟩ := am_X.inv1 (r := (.astore_n 3, 20, 0, 0, 0, 0)) (no (by decide)) rfl k
  have hs : 3 < 7 ∧ K0 20 (am_s1 lv2 3 (.ref r3)) s2 g4 := hs
  refine am_xstep (r := (.astore_n 3, 20, 0, 0, 0, 0)) rfl (show 3 < 7 ∧ am_X (am_call am_cod 20) 7 175 (some .boolean) (am_find am_rLs) (fun pc lv st h => E pc lv st h ∧ wd_W h) lw_no0 20 (am_s1 lv2 3 (.ref r3)) (s2) g4 from ⟨hs.1, ?_⟩)
  replace k := hk _ _ _ _ hs.2
  clear hs hk
  generalize am_s1 lv2 3 (.ref r3) = lv3 at k ⊢
  obtain ⟨K0, Q0, hs, hk, -⟩ := am_X.inv1 (r := (.iconst 0, 21, 0, 0, 0, 0)) (no (by decide)) rfl k
  have hs : K0 21 lv3 (.int (Int32.ofInt 0) :: s2) g4 := hs
  replace k := hk _ _ _ _ hs
  refine am_xstep (r := (.iconst 0, 21, 0, 0, 0, 0)) rfl (show am_X (am_call am_cod 20) 7 175 (some .boolean) (am_find am_rLs) (fun pc lv st h => E pc lv st h ∧ wd_W h) lw_no0 21 lv3 (.int (Int32.ofInt 0) :: s2) g4 from ?_)
  obtain ⟨K0, Q0, hs, hk, -⟩ := am_X.inv1 (r := (.istore 4, 23, 0, 0, 0, 0)) (no (by decide)) rfl k
  have hs : 4 < 7 ∧ K0 23 (am_s1 lv3 4 (.int (Int32.ofInt 0))) s2 g4 := hs
  refine am_xstep (r := (.istore 4, 23, 0, 0, 0, 0)) rfl (show 4 < 7 ∧ am_X (am_call am_cod 20) 7 175 (some .boolean) (am_find am_rLs) (fun pc lv st h => E pc lv st h ∧ wd_W h) lw_no0 23 (am_s1 lv3 4 (.int (Int32.ofInt 0))) (s2) g4 from ⟨hs.1, ?_⟩)
  replace k := hk _ _ _ _ hs.2
  have e := k (fun pc lv st h => pc = 23 → E pc lv st h) (fun _ _ _ _ e _ => e) (fun pc lv st h r K0 Q0 hc _ _ _ z => by
    rw [z] at hc
    have e0 : am_find am_rLs 23 = none := by decide +kernel
    rw [e0] at hc
    cases hc) rfl
  exact am_xexit ⟨e, hW⟩
end
section
/-! CANTON OF THE CLASS, WITH ALL THAT IT LEAVES -/
/-- what beginAnew writes -/
def bg_w (o k : Nat) : Prop := (36 ≤ o ∧ o ≤ 40) ∨ ((o = 28 ∨ o = 32) ∧ k = 3) ∨ (o = 47 ∧ k = 2) ∨ (o = 0 ∧ (k = 12 ∨ k = 13)) ∨ ((o = 130 ∨ o = 136 ∨ o = 142 ∨ o = 148) ∧ k = 0)
/-- now, as a canton begins -/
def bg_s (c : Nat) (h h1 : am_H) : Prop := (h1.1 36 0 = 0 ∧ h1.1 36 1 = 0) ∧ (∀ i, i < 6 → h1.1 37 i = h.1 (c + 3) i ∧ h1.1 38 i = 0) ∧ (∀ i, i < 5 → h1.1 39 i = 0 ∧ h1.1 40 i = 0)
def bg_n (c w : Nat) (h h1 : am_H) : Prop := h1.2 = h.2 ∧ (∀ o k, ¬ bg_w o k → h1.1 o k = h.1 o k) ∧ bg_s c h h1 ∧ (h1.1 w 3 = 0 ∧ h1.1 47 2 = 0 ∧ h1.1 0 12 = 0 ∧ h1.1 0 13 = 31) ∧ (h1.1 130 0 = 0 ∧ h1.1 136 0 = 0 ∧ h1.1 142 0 = 0 ∧ h1.1 148 0 = 0)
/-- the heap behind a canton that was told: the spare one is told, all begins anew -/
def bg_t (c d w : Nat) (h h1 : am_H) : Prop := bg_n c w (am_wR (am_wR (am_wI h 1 1 (Int32.ofInt 0)) 0 4 (some d)) 0 3 (some c)) h1
variable {h h0 : am_H} {sz a : Nat} {T : Nat → Int32} {Q : am_Q}
theorem c_79Fb_6 : ∀ (m i : Nat) (h : am_H), i + m = 5 → ex_P h → (∀ j, j < i → h.1 39 j = 0 ∧ h.1 40 j = 0) → (∀ h1, ex_P h1 → h1.2 = h.2 → (∀ o k, ¬ (o = 39 ∨ o = 40) → h1.1 o k = h.1 o k) → (∀ j, j < 5 → h1.1 39 j = 0 ∧ h1.1 40 j = 0) → Q none h1) → pz_S 3 none am_r79 0 Q 45 [(2, .int (nI i)), (0, .ref 36), (1, .ref 6)] [] h := by
  intro m
  induction m with
  | zero =>
    intro i h hi hP hj hQ
    refine am_goX 3 (show ((Int32.ofInt 5) ≤ (nI i) → pz_S 3 none am_r79 0 Q 70 [(2, .int (nI i)), (0, .ref 36), (1, .ref 6)] [] h) ∧ (¬ ((Int32.ofInt 5) ≤ (nI i)) → pz_S 3 none am_r79 0 Q 50 [(2, .int (nI i)), (0, .ref 36), (1, .ref 6)] [] h) from ⟨fun hc => ?_, fun hc => ?_⟩)
    ·
      exact am_goX 1 (show (none : Option FieldType) = none ∧ h.2.2.2.2 = 175 ∧ _ from ⟨rfl, ex_175 hP, hQ _ hP rfl (fun _ _ _ => rfl) (fun j hj1 => hj j (by omega))⟩)
    · exact absurd (show nI 5 ≤ nI i from nI_le (by omega) (by omega)) hc
  | succ m ih =>
    intro i h hi hP hj hQ
    refine am_goX 3 (show ((Int32.ofInt 5) ≤ (nI i) → pz_S 3 none am_r79 0 Q 70 [(2, .int (nI i)), (0, .ref 36), (1, .ref 6)] [] h) ∧ (¬ ((Int32.ofInt 5) ≤ (nI i)) → pz_S 3 none am_r79 0 Q 50 [(2, .int (nI i)), (0, .ref 36), (1, .ref 6)] [] h) from ⟨fun hc => ?_, fun hc => ?_⟩)
    · have hc1 : nI 5 ≤ nI i := hc
      rw [nI_leI (by omega) (by omega)] at hc1
      omega
    clear hc
    refine am_goX 2 (show am_sh h 36 = some (6, 0) ∧ pz_S 3 none am_r79 0 Q 54 [(2, .int (nI i)), (0, .ref 36), (1, .ref 6)] [am_rf (h.2.2.1 36 4)] h from ⟨ex_36 hP, ?_⟩)
    rw [ex_r36_4 (h := h) hP]
    refine am_goX 3 (show ∃ jj nn : Nat, am_so h 39 = some (13, nn) ∧ jj < nn ∧ (nI i) = nI jj ∧ pz_S 3 none am_r79 0 Q 57 [(2, .int (nI i)), (0, .ref 36), (1, .ref 6)] [] (am_wI h 39 jj (Int32.ofInt 0)) from ⟨i, 5, ex_w39 hP, by omega, rfl, ?_⟩)
    refine am_goX 2 (show am_sh (am_wI h 39 (i) (Int32.ofInt 0)) 36 = some (6, 0) ∧ pz_S 3 none am_r79 0 Q 61 [(2, .int (nI i)), (0, .ref 36), (1, .ref 6)] [am_rf ((am_wI h 39 (i) (Int32.ofInt 0)).2.2.1 36 5)] (am_wI h 39 (i) (Int32.ofInt 0)) from ⟨ex_36 hP, ?_⟩)
    rw [ex_r36_5 (h := am_wI h 39 (i) (Int32.ofInt 0)) hP]
    refine am_goX 3 (show ∃ jj nn : Nat, am_so (am_wI h 39 (i) (Int32.ofInt 0)) 40 = some (13, nn) ∧ jj < nn ∧ (nI i) = nI jj ∧ pz_S 3 none am_r79 0 Q 64 [(2, .int (nI i)), (0, .ref 36), (1, .ref 6)] [] (am_wI (am_wI h 39 (i) (Int32.ofInt 0)) 40 jj (Int32.ofInt 0)) from ⟨i, 5, ex_w40 hP, by omega, rfl, ?_⟩)
    refine am_goX 2 (show 2 < 3 ∧ pz_S 3 none am_r79 0 Q 45 [(2, .int ((nI i) + Int32.ofInt 1)), (0, .ref 36), (1, .ref 6)] [] (am_wI (am_wI h 39 (i) (Int32.ofInt 0)) 40 (i) (Int32.ofInt 0)) from ⟨by decide, ?_⟩)
    rw [xw_i1]
    refine ih (i + 1) _ (by omega) hP (fun j hj1 => ?_) (fun h1 p1 p2 p3 p4 => hQ h1 p1 p2 (fun o k hn => (p3 o k hn).trans (by rw [em_wn _ _ (by omega), em_wn _ _ (by omega)])) p4)
    by_cases ej : j = i
    · rw [ej, em_wn _ _ (by omega), em_we, em_we]
      exact ⟨rfl, rfl⟩
    · rw [em_wn _ _ (by omega), em_wn _ _ (by omega), em_wn _ _ (by omega), em_wn _ _ (by omega)]
      exact hj j (by omega)
theorem c_79Fa_6 {L : Nat → Int32} : ∀ (m i : Nat) (h : am_H), i + m = 6 → ex_P h → (∀ j, j < i → h.1 37 j = L j ∧ h.1 38 j = 0) → (∀ j, j < 6 → h.1 9 j = L j) → (∀ h1, ex_P h1 → h1.2 = h.2 → (∀ o k, ¬ (37 ≤ o ∧ o ≤ 40) → h1.1 o k = h.1 o k) → (∀ j, j < 6 → h1.1 37 j = L j ∧ h1.1 38 j = 0) → (∀ j, j < 5 → h1.1 39 j = 0 ∧ h1.1 40 j = 0) → Q none h1) → pz_S 3 none am_r79 0 Q 12 [(2, .int (nI i)), (0, .ref 36), (1, .ref 6)] [] h := by
  intro m
  induction m with
  | zero =>
    intro i h hi hP hj hL hQ
    refine am_goX 3 (show ((Int8.ofInt 6).toInt32 ≤ (nI i) → pz_S 3 none am_r79 0 Q 43 [(2, .int (nI i)), (0, .ref 36), (1, .ref 6)] [] h) ∧ (¬ ((Int8.ofInt 6).toInt32 ≤ (nI i)) → pz_S 3 none am_r79 0 Q 18 [(2, .int (nI i)), (0, .ref 36), (1, .ref 6)] [] h) from ⟨fun hc => ?_, fun hc => ?_⟩)
    ·
      refine am_goX 2 (show 2 < 3 ∧ pz_S 3 none am_r79 0 Q 45 [(2, .int (Int32.ofInt 0)), (0, .ref 36), (1, .ref 6)] [] h from ⟨by decide, ?_⟩)
      exact c_79Fb_6 5 0 _ rfl hP (fun j hj1 => absurd hj1 (Nat.not_lt_zero j)) (fun h1 p1 p2 p3 p4 => hQ h1 p1 p2 (fun o k hn => p3 o k (by omega)) (fun j hj1 => by rw [p3 37 j (by omega), p3 38 j (by omega)]; exact hj j (by omega)) p4)
    · exact absurd (show nI 6 ≤ nI i from nI_le (by omega) (by omega)) hc
  | succ m ih =>
    intro i h hi hP hj hL hQ
    refine am_goX 3 (show ((Int8.ofInt 6).toInt32 ≤ (nI i) → pz_S 3 none am_r79 0 Q 43 [(2, .int (nI i)), (0, .ref 36), (1, .ref 6)] [] h) ∧ (¬ ((Int8.ofInt 6).toInt32 ≤ (nI i)) → pz_S 3 none am_r79 0 Q 18 [(2, .int (nI i)), (0, .ref 36), (1, .ref 6)] [] h) from ⟨fun hc => ?_, fun hc => ?_⟩)
    · have hc1 : nI 6 ≤ nI i := hc
      rw [nI_leI (by omega) (by omega)] at hc1
      omega
    clear hc
    refine am_goX 2 (show am_sh h 36 = some (6, 0) ∧ pz_S 3 none am_r79 0 Q 22 [(2, .int (nI i)), (0, .ref 36), (1, .ref 6)] [am_rf (h.2.2.1 36 2)] h from ⟨ex_36 hP, ?_⟩)
    rw [ex_r36_2 (h := h) hP]
    refine am_goX 3 (show am_sh h 6 = some (0, 0) ∧ pz_S 3 none am_r79 0 Q 27 [(2, .int (nI i)), (0, .ref 36), (1, .ref 6)] [am_rf (h.2.2.1 6 3), .int (nI i), .ref 37] h from ⟨ex_6 hP, ?_⟩)
    rw [ex_r6_3 (h := h) hP]
    refine am_goX 2 (show ∃ jj nn : Nat, am_sh h 9 = some (13, nn) ∧ jj < nn ∧ (nI i) = nI jj ∧ pz_S 3 none am_r79 0 Q 29 [(2, .int (nI i)), (0, .ref 36), (1, .ref 6)] [.int (h.1 9 jj), .int (nI i), .ref 37] h from ⟨i, 6, ex_9 hP, by omega, rfl, ?_⟩)
    rw [hL i (by omega)]
    refine am_goX 1 (show ∃ jj nn : Nat, am_so h 37 = some (13, nn) ∧ jj < nn ∧ (nI i) = nI jj ∧ pz_S 3 none am_r79 0 Q 30 [(2, .int (nI i)), (0, .ref 36), (1, .ref 6)] [] (am_wI h 37 jj (L i)) from ⟨i, 6, ex_w37 hP, by omega, rfl, ?_⟩)
    refine am_goX 2 (show am_sh (am_wI h 37 (i) (L i)) 36 = some (6, 0) ∧ pz_S 3 none am_r79 0 Q 34 [(2, .int (nI i)), (0, .ref 36), (1, .ref 6)] [am_rf ((am_wI h 37 (i) (L i)).2.2.1 36 3)] (am_wI h 37 (i) (L i)) from ⟨ex_36 hP, ?_⟩)
    rw [ex_r36_3 (h := am_wI h 37 (i) (L i)) hP]
    refine am_goX 3 (show ∃ jj nn : Nat, am_so (am_wI h 37 (i) (L i)) 38 = some (13, nn) ∧ jj < nn ∧ (nI i) = nI jj ∧ pz_S 3 none am_r79 0 Q 37 [(2, .int (nI i)), (0, .ref 36), (1, .ref 6)] [] (am_wI (am_wI h 37 (i) (L i)) 38 jj (Int32.ofInt 0)) from ⟨i, 6, ex_w38 hP, by omega, rfl, ?_⟩)
    refine am_goX 2 (show 2 < 3 ∧ pz_S 3 none am_r79 0 Q 12 [(2, .int ((nI i) + Int32.ofInt 1)), (0, .ref 36), (1, .ref 6)] [] (am_wI (am_wI h 37 (i) (L i)) 38 (i) (Int32.ofInt 0)) from ⟨by decide, ?_⟩)
    rw [xw_i1]
    refine ih (i + 1) _ (by omega) hP (fun j hj1 => ?_) (fun j hj1 => by rw [em_wn _ _ (by omega), em_wn _ _ (by omega)]; exact hL j hj1) (fun h1 p1 p2 p3 p4 p5 => hQ h1 p1 p2 (fun o k hn => (p3 o k hn).trans (by rw [em_wn _ _ (by omega), em_wn _ _ (by omega)])) p4 p5)
    by_cases ej : j = i
    · rw [ej, em_wn _ _ (by omega), em_we, em_we]
      exact ⟨rfl, rfl⟩
    · rw [em_wn _ _ (by omega), em_wn _ _ (by omega), em_wn _ _ (by omega), em_wn _ _ (by omega)]
      exact hj j (by omega)
theorem c_79F_6 (hP : ex_P h) (hQ : ∀ h1, ex_P h1 → h1.2 = h.2 → (∀ o k, ¬ (36 ≤ o ∧ o ≤ 40) → h1.1 o k = h.1 o k) → bg_s 6 h h1 → Q none h1) : am_call am_cod 1 79 [.ref 36, .ref 6] h Q := by
  refine pz_call (n := 79) (nL := 3) (rt := none) (rows := am_r79) (d := 0) (by decide +kernel) (by decide +kernel) rfl (by funext pc; rfl) (ex_175 hP) (by exact Nat.le_of_ble_eq_true rfl) ?_
  refine am_goX 3 (show am_sh h 36 = some (6, 0) ∧ narrow (am_fty 6 0) (.int ((Int32.ofInt 0))) = .int ((Int32.ofInt 0)) ∧ fits (am_fty 6 0) (.int ((Int32.ofInt 0))) = true ∧ pz_S 3 none am_r79 0 Q 5 [(0, .ref 36), (1, .ref 6)] [] (am_wI h 36 0 ((Int32.ofInt 0))) from ⟨ex_36 hP, rfl, rfl, ?_⟩)
  refine am_goX 3 (show am_sh (am_wI h 36 0 ((Int32.ofInt 0))) 36 = some (6, 0) ∧ narrow (am_fty 6 1) (.int ((Int32.ofInt 0))) = .int ((Int32.ofInt 0)) ∧ fits (am_fty 6 1) (.int ((Int32.ofInt 0))) = true ∧ pz_S 3 none am_r79 0 Q 10 [(0, .ref 36), (1, .ref 6)] [] (am_wI (am_wI h 36 0 ((Int32.ofInt 0))) 36 1 ((Int32.ofInt 0))) from ⟨ex_36 hP, rfl, rfl, ?_⟩)
  refine am_goX 2 (show 2 < 3 ∧ pz_S 3 none am_r79 0 Q 12 [(2, .int (Int32.ofInt 0)), (0, .ref 36), (1, .ref 6)] [] (am_wI (am_wI h 36 0 ((Int32.ofInt 0))) 36 1 ((Int32.ofInt 0))) from ⟨by decide, ?_⟩)
  exact c_79Fa_6 (L := h.1 9) 6 0 _ rfl hP (fun j hj1 => absurd hj1 (Nat.not_lt_zero j)) (fun j _ => by rw [em_wn _ _ (by omega), em_wn _ _ (by omega)]) (fun h1 p1 p2 p3 p4 p5 => hQ h1 p1 p2 (fun o k hn => by rw [p3 o k (by omega), em_wn _ _ (by omega), em_wn _ _ (by omega)]) ⟨⟨by rw [p3 36 0 (by omega), em_wn _ _ (by omega), em_we]; rfl, by rw [p3 36 1 (by omega), em_we]; rfl⟩, p4, p5⟩)
theorem c_78F_6w28 (hP : ex_P h) (ht : h.2.2.1 0 3 = some 6) (hw : h.2.2.1 0 5 = some 28) (hQ : ∀ h1, ex_P h1 → bg_n 6 28 h h1 → Q none h1) : am_call am_cod 2 78 [.ref 0] h Q := by
  refine pz_call (n := 78) (nL := 2) (rt := none) (rows := am_r78) (d := 1) (by decide +kernel) (by decide +kernel) rfl (by funext pc; rfl) (ex_175 hP) (by exact Nat.le_of_ble_eq_true rfl) ?_
  refine am_goX 2 (show am_sh h 0 = some (10, 0) ∧ pz_S 2 none am_r78 1 Q 4 [(0, .ref 0)] [am_rf (h.2.2.1 0 7)] h from ⟨ex_0 hP, ?_⟩)
  rw [ex_r0_7 (h := h) hP]
  refine am_goX 2 (show am_sh h 0 = some (10, 0) ∧ pz_S 2 none am_r78 1 Q 8 [(0, .ref 0)] [am_rf (h.2.2.1 0 3), .ref 36] h from ⟨ex_0 hP, ?_⟩)
  rw [ht]
  refine am_goX 1 (show am_rc h 36 6 ∧ 0 ≤ 8 ∧ h.2.2.2.2 + am_al 79 ≤ 175 ∧ am_call am_cod 1 79 [.ref 36, .ref 6] h (fun vv h' => pz_S 2 none am_r78 1 Q 11 [(0, .ref 0)] (vv.toList ++ []) h') from ⟨Or.inl ⟨by decide, ex_36 hP⟩, by decide, ex_lim hP rfl, c_79F_6 hP (fun h1 hP1 hr1 hf1 hs1 => ?_)⟩)
  have hw1 : h1.2.2.1 0 5 = some 28 := by rw [hr1]; exact hw
  refine am_goX 2 (show am_sh h1 0 = some (10, 0) ∧ pz_S 2 none am_r78 1 Q 15 [(0, .ref 0)] [am_rf (h1.2.2.1 0 5)] h1 from ⟨ex_0 hP1, ?_⟩)
  rw [hw1]
  refine am_goX 2 (show am_sh h1 28 = some (8, 0) ∧ narrow (am_fty 8 3) (.int ((Int32.ofInt 0))) = .int ((Int32.ofInt 0)) ∧ fits (am_fty 8 3) (.int ((Int32.ofInt 0))) = true ∧ pz_S 2 none am_r78 1 Q 19 [(0, .ref 0)] [] (am_wI h1 28 3 ((Int32.ofInt 0))) from ⟨ex_28 hP1, rfl, rfl, ?_⟩)
  refine am_goX 2 (show am_sh (am_wI h1 28 3 ((Int32.ofInt 0))) 0 = some (10, 0) ∧ pz_S 2 none am_r78 1 Q 23 [(0, .ref 0)] [am_rf ((am_wI h1 28 3 ((Int32.ofInt 0))).2.2.1 0 10)] (am_wI h1 28 3 ((Int32.ofInt 0))) from ⟨ex_0 hP1, ?_⟩)
  rw [ex_r0_10 (h := am_wI h1 28 3 ((Int32.ofInt 0))) hP1]
  refine am_goX 2 (show am_sh (am_wI h1 28 3 ((Int32.ofInt 0))) 47 = some (2, 0) ∧ narrow (am_fty 2 2) (.int ((Int32.ofInt 0))) = .int ((Int32.ofInt 0)) ∧ fits (am_fty 2 2) (.int ((Int32.ofInt 0))) = true ∧ pz_S 2 none am_r78 1 Q 27 [(0, .ref 0)] [] (am_wI (am_wI h1 28 3 ((Int32.ofInt 0))) 47 2 ((Int32.ofInt 0))) from ⟨ex_47 hP1, rfl, rfl, ?_⟩)
  refine am_goX 3 (show am_sh (am_wI (am_wI h1 28 3 ((Int32.ofInt 0))) 47 2 ((Int32.ofInt 0))) 0 = some (10, 0) ∧ narrow (am_fty 10 12) (.int ((Int32.ofInt 0))) = .int ((Int32.ofInt 0)) ∧ fits (am_fty 10 12) (.int ((Int32.ofInt 0))) = true ∧ pz_S 2 none am_r78 1 Q 32 [(0, .ref 0)] [] (am_wI (am_wI (am_wI h1 28 3 ((Int32.ofInt 0))) 47 2 ((Int32.ofInt 0))) 0 12 ((Int32.ofInt 0))) from ⟨ex_0 hP1, rfl, rfl, ?_⟩)
  refine am_goX 3 (show am_sh (am_wI (am_wI (am_wI h1 28 3 ((Int32.ofInt 0))) 47 2 ((Int32.ofInt 0))) 0 12 ((Int32.ofInt 0))) 0 = some (10, 0) ∧ narrow (am_fty 10 13) (.int ((Int8.ofInt 31).toInt32)) = .int ((Int8.ofInt 31).toInt32) ∧ fits (am_fty 10 13) (.int ((Int8.ofInt 31).toInt32)) = true ∧ pz_S 2 none am_r78 1 Q 38 [(0, .ref 0)] [] (am_wI (am_wI (am_wI (am_wI h1 28 3 ((Int32.ofInt 0))) 47 2 ((Int32.ofInt 0))) 0 12 ((Int32.ofInt 0))) 0 13 ((Int8.ofInt 31).toInt32)) from ⟨ex_0 hP1, rfl, rfl, ?_⟩)
  refine am_goX 5 (show 1 < 2 ∧ ((Int32.ofInt 4) ≤ (Int32.ofInt 0) → pz_S 2 none am_r78 1 Q 61 [(1, .int (Int32.ofInt 0)), (0, .ref 0)] [] (am_wI (am_wI (am_wI (am_wI h1 28 3 ((Int32.ofInt 0))) 47 2 ((Int32.ofInt 0))) 0 12 ((Int32.ofInt 0))) 0 13 ((Int8.ofInt 31).toInt32))) ∧ (¬ ((Int32.ofInt 4) ≤ (Int32.ofInt 0)) → pz_S 2 none am_r78 1 Q 45 [(1, .int (Int32.ofInt 0)), (0, .ref 0)] [] (am_wI (am_wI (am_wI (am_wI h1 28 3 ((Int32.ofInt 0))) 47 2 ((Int32.ofInt 0))) 0 12 ((Int32.ofInt 0))) 0 13 ((Int8.ofInt 31).toInt32))) from ⟨by decide, fun hz => absurd hz (by decide), fun _ => ?_⟩)
  refine am_goX 2 (show am_sh (am_wI (am_wI (am_wI (am_wI h1 28 3 ((Int32.ofInt 0))) 47 2 ((Int32.ofInt 0))) 0 12 ((Int32.ofInt 0))) 0 13 ((Int8.ofInt 31).toInt32)) 0 = some (10, 0) ∧ pz_S 2 none am_r78 1 Q 49 [(1, .int (Int32.ofInt 0)), (0, .ref 0)] [am_rf ((am_wI (am_wI (am_wI (am_wI h1 28 3 ((Int32.ofInt 0))) 47 2 ((Int32.ofInt 0))) 0 12 ((Int32.ofInt 0))) 0 13 ((Int8.ofInt 31).toInt32)).2.2.1 0 11)] (am_wI (am_wI (am_wI (am_wI h1 28 3 ((Int32.ofInt 0))) 47 2 ((Int32.ofInt 0))) 0 12 ((Int32.ofInt 0))) 0 13 ((Int8.ofInt 31).toInt32)) from ⟨ex_0 hP1, ?_⟩)
  rw [ex_r0_11 (h := am_wI (am_wI (am_wI (am_wI h1 28 3 ((Int32.ofInt 0))) 47 2 ((Int32.ofInt 0))) 0 12 ((Int32.ofInt 0))) 0 13 ((Int8.ofInt 31).toInt32)) hP1]
  refine am_goX 2 (show ∃ jj nn : Nat, (am_sh (am_wI (am_wI (am_wI (am_wI h1 28 3 ((Int32.ofInt 0))) 47 2 ((Int32.ofInt 0))) 0 12 ((Int32.ofInt 0))) 0 13 ((Int8.ofInt 31).toInt32)) 129 = some (16, nn) ∨ am_sh (am_wI (am_wI (am_wI (am_wI h1 28 3 ((Int32.ofInt 0))) 47 2 ((Int32.ofInt 0))) 0 12 ((Int32.ofInt 0))) 0 13 ((Int8.ofInt 31).toInt32)) 129 = some (17, nn)) ∧ jj < nn ∧ (Int32.ofInt 0) = nI jj ∧ pz_S 2 none am_r78 1 Q 51 [(1, .int (Int32.ofInt 0)), (0, .ref 0)] [am_rf ((am_wI (am_wI (am_wI (am_wI h1 28 3 ((Int32.ofInt 0))) 47 2 ((Int32.ofInt 0))) 0 12 ((Int32.ofInt 0))) 0 13 ((Int8.ofInt 31).toInt32)).2.2.1 129 jj)] (am_wI (am_wI (am_wI (am_wI h1 28 3 ((Int32.ofInt 0))) 47 2 ((Int32.ofInt 0))) 0 12 ((Int32.ofInt 0))) 0 13 ((Int8.ofInt 31).toInt32)) from ⟨0, 4, Or.inl (ex_129 hP1), by decide, by decide, ?_⟩)
  rw [ex_r129_0 (h := am_wI (am_wI (am_wI (am_wI h1 28 3 ((Int32.ofInt 0))) 47 2 ((Int32.ofInt 0))) 0 12 ((Int32.ofInt 0))) 0 13 ((Int8.ofInt 31).toInt32)) hP1]
  refine am_goX 2 (show am_sh (am_wI (am_wI (am_wI (am_wI h1 28 3 ((Int32.ofInt 0))) 47 2 ((Int32.ofInt 0))) 0 12 ((Int32.ofInt 0))) 0 13 ((Int8.ofInt 31).toInt32)) 130 = some (5, 0) ∧ narrow (am_fty 5 0) (.int ((Int32.ofInt 0))) = .int ((Int32.ofInt 0)) ∧ fits (am_fty 5 0) (.int ((Int32.ofInt 0))) = true ∧ pz_S 2 none am_r78 1 Q 55 [(1, .int (Int32.ofInt 0)), (0, .ref 0)] [] (am_wI (am_wI (am_wI (am_wI (am_wI h1 28 3 ((Int32.ofInt 0))) 47 2 ((Int32.ofInt 0))) 0 12 ((Int32.ofInt 0))) 0 13 ((Int8.ofInt 31).toInt32)) 130 0 ((Int32.ofInt 0))) from ⟨ex_130 hP1, rfl, rfl, ?_⟩)
  refine am_goX 5 (show 1 < 2 ∧ ((Int32.ofInt 4) ≤ ((Int32.ofInt 0) + Int32.ofInt 1) → pz_S 2 none am_r78 1 Q 61 [(1, .int ((Int32.ofInt 0) + Int32.ofInt 1)), (0, .ref 0)] [] (am_wI (am_wI (am_wI (am_wI (am_wI h1 28 3 ((Int32.ofInt 0))) 47 2 ((Int32.ofInt 0))) 0 12 ((Int32.ofInt 0))) 0 13 ((Int8.ofInt 31).toInt32)) 130 0 ((Int32.ofInt 0)))) ∧ (¬ ((Int32.ofInt 4) ≤ ((Int32.ofInt 0) + Int32.ofInt 1)) → pz_S 2 none am_r78 1 Q 45 [(1, .int ((Int32.ofInt 0) + Int32.ofInt 1)), (0, .ref 0)] [] (am_wI (am_wI (am_wI (am_wI (am_wI h1 28 3 ((Int32.ofInt 0))) 47 2 ((Int32.ofInt 0))) 0 12 ((Int32.ofInt 0))) 0 13 ((Int8.ofInt 31).toInt32)) 130 0 ((Int32.ofInt 0)))) from ⟨by decide, fun hz => absurd hz (by decide), fun _ => ?_⟩)
  refine am_goX 2 (show am_sh (am_wI (am_wI (am_wI (am_wI (am_wI h1 28 3 ((Int32.ofInt 0))) 47 2 ((Int32.ofInt 0))) 0 12 ((Int32.ofInt 0))) 0 13 ((Int8.ofInt 31).toInt32)) 130 0 ((Int32.ofInt 0))) 0 = some (10, 0) ∧ pz_S 2 none am_r78 1 Q 49 [(1, .int ((Int32.ofInt 0) + Int32.ofInt 1)), (0, .ref 0)] [am_rf ((am_wI (am_wI (am_wI (am_wI (am_wI h1 28 3 ((Int32.ofInt 0))) 47 2 ((Int32.ofInt 0))) 0 12 ((Int32.ofInt 0))) 0 13 ((Int8.ofInt 31).toInt32)) 130 0 ((Int32.ofInt 0))).2.2.1 0 11)] (am_wI (am_wI (am_wI (am_wI (am_wI h1 28 3 ((Int32.ofInt 0))) 47 2 ((Int32.ofInt 0))) 0 12 ((Int32.ofInt 0))) 0 13 ((Int8.ofInt 31).toInt32)) 130 0 ((Int32.ofInt 0))) from ⟨ex_0 hP1, ?_⟩)
  rw [ex_r0_11 (h := am_wI (am_wI (am_wI (am_wI (am_wI h1 28 3 ((Int32.ofInt 0))) 47 2 ((Int32.ofInt 0))) 0 12 ((Int32.ofInt 0))) 0 13 ((Int8.ofInt 31).toInt32)) 130 0 ((Int32.ofInt 0))) hP1]
  refine am_goX 2 (show ∃ jj nn : Nat, (am_sh (am_wI (am_wI (am_wI (am_wI (am_wI h1 28 3 ((Int32.ofInt 0))) 47 2 ((Int32.ofInt 0))) 0 12 ((Int32.ofInt 0))) 0 13 ((Int8.ofInt 31).toInt32)) 130 0 ((Int32.ofInt 0))) 129 = some (16, nn) ∨ am_sh (am_wI (am_wI (am_wI (am_wI (am_wI h1 28 3 ((Int32.ofInt 0))) 47 2 ((Int32.ofInt 0))) 0 12 ((Int32.ofInt 0))) 0 13 ((Int8.ofInt 31).toInt32)) 130 0 ((Int32.ofInt 0))) 129 = some (17, nn)) ∧ jj < nn ∧ ((Int32.ofInt 0) + Int32.ofInt 1) = nI jj ∧ pz_S 2 none am_r78 1 Q 51 [(1, .int ((Int32.ofInt 0) + Int32.ofInt 1)), (0, .ref 0)] [am_rf ((am_wI (am_wI (am_wI (am_wI (am_wI h1 28 3 ((Int32.ofInt 0))) 47 2 ((Int32.ofInt 0))) 0 12 ((Int32.ofInt 0))) 0 13 ((Int8.ofInt 31).toInt32)) 130 0 ((Int32.ofInt 0))).2.2.1 129 jj)] (am_wI (am_wI (am_wI (am_wI (am_wI h1 28 3 ((Int32.ofInt 0))) 47 2 ((Int32.ofInt 0))) 0 12 ((Int32.ofInt 0))) 0 13 ((Int8.ofInt 31).toInt32)) 130 0 ((Int32.ofInt 0))) from ⟨1, 4, Or.inl (ex_129 hP1), by decide, by decide, ?_⟩)
  rw [ex_r129_1 (h := am_wI (am_wI (am_wI (am_wI (am_wI h1 28 3 ((Int32.ofInt 0))) 47 2 ((Int32.ofInt 0))) 0 12 ((Int32.ofInt 0))) 0 13 ((Int8.ofInt 31).toInt32)) 130 0 ((Int32.ofInt 0))) hP1]
  refine am_goX 2 (show am_sh (am_wI (am_wI (am_wI (am_wI (am_wI h1 28 3 ((Int32.ofInt 0))) 47 2 ((Int32.ofInt 0))) 0 12 ((Int32.ofInt 0))) 0 13 ((Int8.ofInt 31).toInt32)) 130 0 ((Int32.ofInt 0))) 136 = some (5, 0) ∧ narrow (am_fty 5 0) (.int ((Int32.ofInt 0))) = .int ((Int32.ofInt 0)) ∧ fits (am_fty 5 0) (.int ((Int32.ofInt 0))) = true ∧ pz_S 2 none am_r78 1 Q 55 [(1, .int ((Int32.ofInt 0) + Int32.ofInt 1)), (0, .ref 0)] [] (am_wI (am_wI (am_wI (am_wI (am_wI (am_wI h1 28 3 ((Int32.ofInt 0))) 47 2 ((Int32.ofInt 0))) 0 12 ((Int32.ofInt 0))) 0 13 ((Int8.ofInt 31).toInt32)) 130 0 ((Int32.ofInt 0))) 136 0 ((Int32.ofInt 0))) from ⟨ex_136 hP1, rfl, rfl, ?_⟩)
  refine am_goX 5 (show 1 < 2 ∧ ((Int32.ofInt 4) ≤ (((Int32.ofInt 0) + Int32.ofInt 1) + Int32.ofInt 1) → pz_S 2 none am_r78 1 Q 61 [(1, .int (((Int32.ofInt 0) + Int32.ofInt 1) + Int32.ofInt 1)), (0, .ref 0)] [] (am_wI (am_wI (am_wI (am_wI (am_wI (am_wI h1 28 3 ((Int32.ofInt 0))) 47 2 ((Int32.ofInt 0))) 0 12 ((Int32.ofInt 0))) 0 13 ((Int8.ofInt 31).toInt32)) 130 0 ((Int32.ofInt 0))) 136 0 ((Int32.ofInt 0)))) ∧ (¬ ((Int32.ofInt 4) ≤ (((Int32.ofInt 0) + Int32.ofInt 1) + Int32.ofInt 1)) → pz_S 2 none am_r78 1 Q 45 [(1, .int (((Int32.ofInt 0) + Int32.ofInt 1) + Int32.ofInt 1)), (0, .ref 0)] [] (am_wI (am_wI (am_wI (am_wI (am_wI (am_wI h1 28 3 ((Int32.ofInt 0))) 47 2 ((Int32.ofInt 0))) 0 12 ((Int32.ofInt 0))) 0 13 ((Int8.ofInt 31).toInt32)) 130 0 ((Int32.ofInt 0))) 136 0 ((Int32.ofInt 0)))) from ⟨by decide, fun hz => absurd hz (by decide), fun _ => ?_⟩)
  refine am_goX 2 (show am_sh (am_wI (am_wI (am_wI (am_wI (am_wI (am_wI h1 28 3 ((Int32.ofInt 0))) 47 2 ((Int32.ofInt 0))) 0 12 ((Int32.ofInt 0))) 0 13 ((Int8.ofInt 31).toInt32)) 130 0 ((Int32.ofInt 0))) 136 0 ((Int32.ofInt 0))) 0 = some (10, 0) ∧ pz_S 2 none am_r78 1 Q 49 [(1, .int (((Int32.ofInt 0) + Int32.ofInt 1) + Int32.ofInt 1)), (0, .ref 0)] [am_rf ((am_wI (am_wI (am_wI (am_wI (am_wI (am_wI h1 28 3 ((Int32.ofInt 0))) 47 2 ((Int32.ofInt 0))) 0 12 ((Int32.ofInt 0))) 0 13 ((Int8.ofInt 31).toInt32)) 130 0 ((Int32.ofInt 0))) 136 0 ((Int32.ofInt 0))).2.2.1 0 11)] (am_wI (am_wI (am_wI (am_wI (am_wI (am_wI h1 28 3 ((Int32.ofInt 0))) 47 2 ((Int32.ofInt 0))) 0 12 ((Int32.ofInt 0))) 0 13 ((Int8.ofInt 31).toInt32)) 130 0 ((Int32.ofInt 0))) 136 0 ((Int32.ofInt 0))) from ⟨ex_0 hP1, ?_⟩)
  rw [ex_r0_11 (h := am_wI (am_wI (am_wI (am_wI (am_wI (am_wI h1 28 3 ((Int32.ofInt 0))) 47 2 ((Int32.ofInt 0))) 0 12 ((Int32.ofInt 0))) 0 13 ((Int8.ofInt 31).toInt32)) 130 0 ((Int32.ofInt 0))) 136 0 ((Int32.ofInt 0))) hP1]
  refine am_goX 2 (show ∃ jj nn : Nat, (am_sh (am_wI (am_wI (am_wI (am_wI (am_wI (am_wI h1 28 3 ((Int32.ofInt 0))) 47 2 ((Int32.ofInt 0))) 0 12 ((Int32.ofInt 0))) 0 13 ((Int8.ofInt 31).toInt32)) 130 0 ((Int32.ofInt 0))) 136 0 ((Int32.ofInt 0))) 129 = some (16, nn) ∨ am_sh (am_wI (am_wI (am_wI (am_wI (am_wI (am_wI h1 28 3 ((Int32.ofInt 0))) 47 2 ((Int32.ofInt 0))) 0 12 ((Int32.ofInt 0))) 0 13 ((Int8.ofInt 31).toInt32)) 130 0 ((Int32.ofInt 0))) 136 0 ((Int32.ofInt 0))) 129 = some (17, nn)) ∧ jj < nn ∧ (((Int32.ofInt 0) + Int32.ofInt 1) + Int32.ofInt 1) = nI jj ∧ pz_S 2 none am_r78 1 Q 51 [(1, .int (((Int32.ofInt 0) + Int32.ofInt 1) + Int32.ofInt 1)), (0, .ref 0)] [am_rf ((am_wI (am_wI (am_wI (am_wI (am_wI (am_wI h1 28 3 ((Int32.ofInt 0))) 47 2 ((Int32.ofInt 0))) 0 12 ((Int32.ofInt 0))) 0 13 ((Int8.ofInt 31).toInt32)) 130 0 ((Int32.ofInt 0))) 136 0 ((Int32.ofInt 0))).2.2.1 129 jj)] (am_wI (am_wI (am_wI (am_wI (am_wI (am_wI h1 28 3 ((Int32.ofInt 0))) 47 2 ((Int32.ofInt 0))) 0 12 ((Int32.ofInt 0))) 0 13 ((Int8.ofInt 31).toInt32)) 130 0 ((Int32.ofInt 0))) 136 0 ((Int32.ofInt 0))) from ⟨2, 4, Or.inl (ex_129 hP1), by decide, by decide, ?_⟩)
  rw [ex_r129_2 (h := am_wI (am_wI (am_wI (am_wI (am_wI (am_wI h1 28 3 ((Int32.ofInt 0))) 47 2 ((Int32.ofInt 0))) 0 12 ((Int32.ofInt 0))) 0 13 ((Int8.ofInt 31).toInt32)) 130 0 ((Int32.ofInt 0))) 136 0 ((Int32.ofInt 0))) hP1]
  refine am_goX 2 (show am_sh (am_wI (am_wI (am_wI (am_wI (am_wI (am_wI h1 28 3 ((Int32.ofInt 0))) 47 2 ((Int32.ofInt 0))) 0 12 ((Int32.ofInt 0))) 0 13 ((Int8.ofInt 31).toInt32)) 130 0 ((Int32.ofInt 0))) 136 0 ((Int32.ofInt 0))) 142 = some (5, 0) ∧ narrow (am_fty 5 0) (.int ((Int32.ofInt 0))) = .int ((Int32.ofInt 0)) ∧ fits (am_fty 5 0) (.int ((Int32.ofInt 0))) = true ∧ pz_S 2 none am_r78 1 Q 55 [(1, .int (((Int32.ofInt 0) + Int32.ofInt 1) + Int32.ofInt 1)), (0, .ref 0)] [] (am_wI (am_wI (am_wI (am_wI (am_wI (am_wI (am_wI h1 28 3 ((Int32.ofInt 0))) 47 2 ((Int32.ofInt 0))) 0 12 ((Int32.ofInt 0))) 0 13 ((Int8.ofInt 31).toInt32)) 130 0 ((Int32.ofInt 0))) 136 0 ((Int32.ofInt 0))) 142 0 ((Int32.ofInt 0))) from ⟨ex_142 hP1, rfl, rfl, ?_⟩)
  refine am_goX 5 (show 1 < 2 ∧ ((Int32.ofInt 4) ≤ ((((Int32.ofInt 0) + Int32.ofInt 1) + Int32.ofInt 1) + Int32.ofInt 1) → pz_S 2 none am_r78 1 Q 61 [(1, .int ((((Int32.ofInt 0) + Int32.ofInt 1) + Int32.ofInt 1) + Int32.ofInt 1)), (0, .ref 0)] [] (am_wI (am_wI (am_wI (am_wI (am_wI (am_wI (am_wI h1 28 3 ((Int32.ofInt 0))) 47 2 ((Int32.ofInt 0))) 0 12 ((Int32.ofInt 0))) 0 13 ((Int8.ofInt 31).toInt32)) 130 0 ((Int32.ofInt 0))) 136 0 ((Int32.ofInt 0))) 142 0 ((Int32.ofInt 0)))) ∧ (¬ ((Int32.ofInt 4) ≤ ((((Int32.ofInt 0) + Int32.ofInt 1) + Int32.ofInt 1) + Int32.ofInt 1)) → pz_S 2 none am_r78 1 Q 45 [(1, .int ((((Int32.ofInt 0) + Int32.ofInt 1) + Int32.ofInt 1) + Int32.ofInt 1)), (0, .ref 0)] [] (am_wI (am_wI (am_wI (am_wI (am_wI (am_wI (am_wI h1 28 3 ((Int32.ofInt 0))) 47 2 ((Int32.ofInt 0))) 0 12 ((Int32.ofInt 0))) 0 13 ((Int8.ofInt 31).toInt32)) 130 0 ((Int32.ofInt 0))) 136 0 ((Int32.ofInt 0))) 142 0 ((Int32.ofInt 0)))) from ⟨by decide, fun hz => absurd hz (by decide), fun _ => ?_⟩)
  refine am_goX 2 (show am_sh (am_wI (am_wI (am_wI (am_wI (am_wI (am_wI (am_wI h1 28 3 ((Int32.ofInt 0))) 47 2 ((Int32.ofInt 0))) 0 12 ((Int32.ofInt 0))) 0 13 ((Int8.ofInt 31).toInt32)) 130 0 ((Int32.ofInt 0))) 136 0 ((Int32.ofInt 0))) 142 0 ((Int32.ofInt 0))) 0 = some (10, 0) ∧ pz_S 2 none am_r78 1 Q 49 [(1, .int ((((Int32.ofInt 0) + Int32.ofInt 1) + Int32.ofInt 1) + Int32.ofInt 1)), (0, .ref 0)] [am_rf ((am_wI (am_wI (am_wI (am_wI (am_wI (am_wI (am_wI h1 28 3 ((Int32.ofInt 0))) 47 2 ((Int32.ofInt 0))) 0 12 ((Int32.ofInt 0))) 0 13 ((Int8.ofInt 31).toInt32)) 130 0 ((Int32.ofInt 0))) 136 0 ((Int32.ofInt 0))) 142 0 ((Int32.ofInt 0))).2.2.1 0 11)] (am_wI (am_wI (am_wI (am_wI (am_wI (am_wI (am_wI h1 28 3 ((Int32.ofInt 0))) 47 2 ((Int32.ofInt 0))) 0 12 ((Int32.ofInt 0))) 0 13 ((Int8.ofInt 31).toInt32)) 130 0 ((Int32.ofInt 0))) 136 0 ((Int32.ofInt 0))) 142 0 ((Int32.ofInt 0))) from ⟨ex_0 hP1, ?_⟩)
  rw [ex_r0_11 (h := am_wI (am_wI (am_wI (am_wI (am_wI (am_wI (am_wI h1 28 3 ((Int32.ofInt 0))) 47 2 ((Int32.ofInt 0))) 0 12 ((Int32.ofInt 0))) 0 13 ((Int8.ofInt 31).toInt32)) 130 0 ((Int32.ofInt 0))) 136 0 ((Int32.ofInt 0))) 142 0 ((Int32.ofInt 0))) hP1]
  refine am_goX 2 (show ∃ jj nn : Nat, (am_sh (am_wI (am_wI (am_wI (am_wI (am_wI (am_wI (am_wI h1 28 3 ((Int32.ofInt 0))) 47 2 ((Int32.ofInt 0))) 0 12 ((Int32.ofInt 0))) 0 13 ((Int8.ofInt 31).toInt32)) 130 0 ((Int32.ofInt 0))) 136 0 ((Int32.ofInt 0))) 142 0 ((Int32.ofInt 0))) 129 = some (16, nn) ∨ am_sh (am_wI (am_wI (am_wI (am_wI (am_wI (am_wI (am_wI h1 28 3 ((Int32.ofInt 0))) 47 2 ((Int32.ofInt 0))) 0 12 ((Int32.ofInt 0))) 0 13 ((Int8.ofInt 31).toInt32)) 130 0 ((Int32.ofInt 0))) 136 0 ((Int32.ofInt 0))) 142 0 ((Int32.ofInt 0))) 129 = some (17, nn)) ∧ jj < nn ∧ ((((Int32.ofInt 0) + Int32.ofInt 1) + Int32.ofInt 1) + Int32.ofInt 1) = nI jj ∧ pz_S 2 none am_r78 1 Q 51 [(1, .int ((((Int32.ofInt 0) + Int32.ofInt 1) + Int32.ofInt 1) + Int32.ofInt 1)), (0, .ref 0)] [am_rf ((am_wI (am_wI (am_wI (am_wI (am_wI (am_wI (am_wI h1 28 3 ((Int32.ofInt 0))) 47 2 ((Int32.ofInt 0))) 0 12 ((Int32.ofInt 0))) 0 13 ((Int8.ofInt 31).toInt32)) 130 0 ((Int32.ofInt 0))) 136 0 ((Int32.ofInt 0))) 142 0 ((Int32.ofInt 0))).2.2.1 129 jj)] (am_wI (am_wI (am_wI (am_wI (am_wI (am_wI (am_wI h1 28 3 ((Int32.ofInt 0))) 47 2 ((Int32.ofInt 0))) 0 12 ((Int32.ofInt 0))) 0 13 ((Int8.ofInt 31).toInt32)) 130 0 ((Int32.ofInt 0))) 136 0 ((Int32.ofInt 0))) 142 0 ((Int32.ofInt 0))) from ⟨3, 4, Or.inl (ex_129 hP1), by decide, by decide, ?_⟩)
  rw [ex_r129_3 (h := am_wI (am_wI (am_wI (am_wI (am_wI (am_wI (am_wI h1 28 3 ((Int32.ofInt 0))) 47 2 ((Int32.ofInt 0))) 0 12 ((Int32.ofInt 0))) 0 13 ((Int8.ofInt 31).toInt32)) 130 0 ((Int32.ofInt 0))) 136 0 ((Int32.ofInt 0))) 142 0 ((Int32.ofInt 0))) hP1]
  refine am_goX 2 (show am_sh (am_wI (am_wI (am_wI (am_wI (am_wI (am_wI (am_wI h1 28 3 ((Int32.ofInt 0))) 47 2 ((Int32.ofInt 0))) 0 12 ((Int32.ofInt 0))) 0 13 ((Int8.ofInt 31).toInt32)) 130 0 ((Int32.ofInt 0))) 136 0 ((Int32.ofInt 0))) 142 0 ((Int32.ofInt 0))) 148 = some (5, 0) ∧ narrow (am_fty 5 0) (.int ((Int32.ofInt 0))) = .int ((Int32.ofInt 0)) ∧ fits (am_fty 5 0) (.int ((Int32.ofInt 0))) = true ∧ pz_S 2 none am_r78 1 Q 55 [(1, .int ((((Int32.ofInt 0) + Int32.ofInt 1) + Int32.ofInt 1) + Int32.ofInt 1)), (0, .ref 0)] [] (am_wI (am_wI (am_wI (am_wI (am_wI (am_wI (am_wI (am_wI h1 28 3 ((Int32.ofInt 0))) 47 2 ((Int32.ofInt 0))) 0 12 ((Int32.ofInt 0))) 0 13 ((Int8.ofInt 31).toInt32)) 130 0 ((Int32.ofInt 0))) 136 0 ((Int32.ofInt 0))) 142 0 ((Int32.ofInt 0))) 148 0 ((Int32.ofInt 0))) from ⟨ex_148 hP1, rfl, rfl, ?_⟩)
  refine am_goX 5 (show 1 < 2 ∧ ((Int32.ofInt 4) ≤ (((((Int32.ofInt 0) + Int32.ofInt 1) + Int32.ofInt 1) + Int32.ofInt 1) + Int32.ofInt 1) → pz_S 2 none am_r78 1 Q 61 [(1, .int (((((Int32.ofInt 0) + Int32.ofInt 1) + Int32.ofInt 1) + Int32.ofInt 1) + Int32.ofInt 1)), (0, .ref 0)] [] (am_wI (am_wI (am_wI (am_wI (am_wI (am_wI (am_wI (am_wI h1 28 3 ((Int32.ofInt 0))) 47 2 ((Int32.ofInt 0))) 0 12 ((Int32.ofInt 0))) 0 13 ((Int8.ofInt 31).toInt32)) 130 0 ((Int32.ofInt 0))) 136 0 ((Int32.ofInt 0))) 142 0 ((Int32.ofInt 0))) 148 0 ((Int32.ofInt 0)))) ∧ (¬ ((Int32.ofInt 4) ≤ (((((Int32.ofInt 0) + Int32.ofInt 1) + Int32.ofInt 1) + Int32.ofInt 1) + Int32.ofInt 1)) → pz_S 2 none am_r78 1 Q 45 [(1, .int (((((Int32.ofInt 0) + Int32.ofInt 1) + Int32.ofInt 1) + Int32.ofInt 1) + Int32.ofInt 1)), (0, .ref 0)] [] (am_wI (am_wI (am_wI (am_wI (am_wI (am_wI (am_wI (am_wI h1 28 3 ((Int32.ofInt 0))) 47 2 ((Int32.ofInt 0))) 0 12 ((Int32.ofInt 0))) 0 13 ((Int8.ofInt 31).toInt32)) 130 0 ((Int32.ofInt 0))) 136 0 ((Int32.ofInt 0))) 142 0 ((Int32.ofInt 0))) 148 0 ((Int32.ofInt 0)))) from ⟨by decide, fun _ => ?_, fun hz => absurd (by decide) hz⟩)
  refine am_goX 1 (show (none : Option FieldType) = none ∧ (am_wI (am_wI (am_wI (am_wI (am_wI (am_wI (am_wI (am_wI h1 28 3 ((Int32.ofInt 0))) 47 2 ((Int32.ofInt 0))) 0 12 ((Int32.ofInt 0))) 0 13 ((Int8.ofInt 31).toInt32)) 130 0 ((Int32.ofInt 0))) 136 0 ((Int32.ofInt 0))) 142 0 ((Int32.ofInt 0))) 148 0 ((Int32.ofInt 0))).2.2.2.2 = 175 ∧ _ from ⟨rfl, ex_175 hP1, hQ _ hP1 ⟨hr1, fun o k hn => ?_, ⟨⟨?_, ?_⟩, fun i hi => ⟨?_, ?_⟩, fun i hi => ⟨?_, ?_⟩⟩, ⟨(by rw [em_wn _ _ (by omega), em_wn _ _ (by omega), em_wn _ _ (by omega), em_wn _ _ (by omega), em_wn _ _ (by omega), em_wn _ _ (by omega), em_wn _ _ (by omega), em_we]; rfl), (by rw [em_wn _ _ (by omega), em_wn _ _ (by omega), em_wn _ _ (by omega), em_wn _ _ (by omega), em_wn _ _ (by omega), em_wn _ _ (by omega), em_we]; rfl), (by rw [em_wn _ _ (by omega), em_wn _ _ (by omega), em_wn _ _ (by omega), em_wn _ _ (by omega), em_wn _ _ (by omega), em_we]; rfl), (by rw [em_wn _ _ (by omega), em_wn _ _ (by omega), em_wn _ _ (by omega), em_wn _ _ (by omega), em_we]; rfl)⟩, ⟨(by rw [em_wn _ _ (by omega), em_wn _ _ (by omega), em_wn _ _ (by omega), em_we]; rfl), (by rw [em_wn _ _ (by omega), em_wn _ _ (by omega), em_we]; rfl), (by rw [em_wn _ _ (by omega), em_we]; rfl), (by rw [em_we]; rfl)⟩⟩⟩)
  · unfold bg_w at hn
    rw [em_wn _ _ (by omega), em_wn _ _ (by omega), em_wn _ _ (by omega), em_wn _ _ (by omega), em_wn _ _ (by omega), em_wn _ _ (by omega), em_wn _ _ (by omega), em_wn _ _ (by omega)]
    exact hf1 o k (by omega)
  · rw [em_wn _ _ (by omega), em_wn _ _ (by omega), em_wn _ _ (by omega), em_wn _ _ (by omega), em_wn _ _ (by omega), em_wn _ _ (by omega), em_wn _ _ (by omega), em_wn _ _ (by omega)]
    exact hs1.1.1
  · rw [em_wn _ _ (by omega), em_wn _ _ (by omega), em_wn _ _ (by omega), em_wn _ _ (by omega), em_wn _ _ (by omega), em_wn _ _ (by omega), em_wn _ _ (by omega), em_wn _ _ (by omega)]
    exact hs1.1.2
  · rw [em_wn _ _ (by omega), em_wn _ _ (by omega), em_wn _ _ (by omega), em_wn _ _ (by omega), em_wn _ _ (by omega), em_wn _ _ (by omega), em_wn _ _ (by omega), em_wn _ _ (by omega)]
    exact (hs1.2.1 i hi).1
  · rw [em_wn _ _ (by omega), em_wn _ _ (by omega), em_wn _ _ (by omega), em_wn _ _ (by omega), em_wn _ _ (by omega), em_wn _ _ (by omega), em_wn _ _ (by omega), em_wn _ _ (by omega)]
    exact (hs1.2.1 i hi).2
  · rw [em_wn _ _ (by omega), em_wn _ _ (by omega), em_wn _ _ (by omega), em_wn _ _ (by omega), em_wn _ _ (by omega), em_wn _ _ (by omega), em_wn _ _ (by omega), em_wn _ _ (by omega)]
    exact (hs1.2.2 i hi).1
  · rw [em_wn _ _ (by omega), em_wn _ _ (by omega), em_wn _ _ (by omega), em_wn _ _ (by omega), em_wn _ _ (by omega), em_wn _ _ (by omega), em_wn _ _ (by omega), em_wn _ _ (by omega)]
    exact (hs1.2.2 i hi).2
theorem c_78F_6w32 (hP : ex_P h) (ht : h.2.2.1 0 3 = some 6) (hw : h.2.2.1 0 5 = some 32) (hQ : ∀ h1, ex_P h1 → bg_n 6 32 h h1 → Q none h1) : am_call am_cod 2 78 [.ref 0] h Q := by
  refine pz_call (n := 78) (nL := 2) (rt := none) (rows := am_r78) (d := 1) (by decide +kernel) (by decide +kernel) rfl (by funext pc; rfl) (ex_175 hP) (by exact Nat.le_of_ble_eq_true rfl) ?_
  refine am_goX 2 (show am_sh h 0 = some (10, 0) ∧ pz_S 2 none am_r78 1 Q 4 [(0, .ref 0)] [am_rf (h.2.2.1 0 7)] h from ⟨ex_0 hP, ?_⟩)
  rw [ex_r0_7 (h := h) hP]
  refine am_goX 2 (show am_sh h 0 = some (10, 0) ∧ pz_S 2 none am_r78 1 Q 8 [(0, .ref 0)] [am_rf (h.2.2.1 0 3), .ref 36] h from ⟨ex_0 hP, ?_⟩)
  rw [ht]
  refine am_goX 1 (show am_rc h 36 6 ∧ 0 ≤ 8 ∧ h.2.2.2.2 + am_al 79 ≤ 175 ∧ am_call am_cod 1 79 [.ref 36, .ref 6] h (fun vv h' => pz_S 2 none am_r78 1 Q 11 [(0, .ref 0)] (vv.toList ++ []) h') from ⟨Or.inl ⟨by decide, ex_36 hP⟩, by decide, ex_lim hP rfl, c_79F_6 hP (fun h1 hP1 hr1 hf1 hs1 => ?_)⟩)
  have hw1 : h1.2.2.1 0 5 = some 32 := by rw [hr1]; exact hw
  refine am_goX 2 (show am_sh h1 0 = some (10, 0) ∧ pz_S 2 none am_r78 1 Q 15 [(0, .ref 0)] [am_rf (h1.2.2.1 0 5)] h1 from ⟨ex_0 hP1, ?_⟩)
  rw [hw1]
  refine am_goX 2 (show am_sh h1 32 = some (8, 0) ∧ narrow (am_fty 8 3) (.int ((Int32.ofInt 0))) = .int ((Int32.ofInt 0)) ∧ fits (am_fty 8 3) (.int ((Int32.ofInt 0))) = true ∧ pz_S 2 none am_r78 1 Q 19 [(0, .ref 0)] [] (am_wI h1 32 3 ((Int32.ofInt 0))) from ⟨ex_32 hP1, rfl, rfl, ?_⟩)
  refine am_goX 2 (show am_sh (am_wI h1 32 3 ((Int32.ofInt 0))) 0 = some (10, 0) ∧ pz_S 2 none am_r78 1 Q 23 [(0, .ref 0)] [am_rf ((am_wI h1 32 3 ((Int32.ofInt 0))).2.2.1 0 10)] (am_wI h1 32 3 ((Int32.ofInt 0))) from ⟨ex_0 hP1, ?_⟩)
  rw [ex_r0_10 (h := am_wI h1 32 3 ((Int32.ofInt 0))) hP1]
  refine am_goX 2 (show am_sh (am_wI h1 32 3 ((Int32.ofInt 0))) 47 = some (2, 0) ∧ narrow (am_fty 2 2) (.int ((Int32.ofInt 0))) = .int ((Int32.ofInt 0)) ∧ fits (am_fty 2 2) (.int ((Int32.ofInt 0))) = true ∧ pz_S 2 none am_r78 1 Q 27 [(0, .ref 0)] [] (am_wI (am_wI h1 32 3 ((Int32.ofInt 0))) 47 2 ((Int32.ofInt 0))) from ⟨ex_47 hP1, rfl, rfl, ?_⟩)
  refine am_goX 3 (show am_sh (am_wI (am_wI h1 32 3 ((Int32.ofInt 0))) 47 2 ((Int32.ofInt 0))) 0 = some (10, 0) ∧ narrow (am_fty 10 12) (.int ((Int32.ofInt 0))) = .int ((Int32.ofInt 0)) ∧ fits (am_fty 10 12) (.int ((Int32.ofInt 0))) = true ∧ pz_S 2 none am_r78 1 Q 32 [(0, .ref 0)] [] (am_wI (am_wI (am_wI h1 32 3 ((Int32.ofInt 0))) 47 2 ((Int32.ofInt 0))) 0 12 ((Int32.ofInt 0))) from ⟨ex_0 hP1, rfl, rfl, ?_⟩)
  refine am_goX 3 (show am_sh (am_wI (am_wI (am_wI h1 32 3 ((Int32.ofInt 0))) 47 2 ((Int32.ofInt 0))) 0 12 ((Int32.ofInt 0))) 0 = some (10, 0) ∧ narrow (am_fty 10 13) (.int ((Int8.ofInt 31).toInt32)) = .int ((Int8.ofInt 31).toInt32) ∧ fits (am_fty 10 13) (.int ((Int8.ofInt 31).toInt32)) = true ∧ pz_S 2 none am_r78 1 Q 38 [(0, .ref 0)] [] (am_wI (am_wI (am_wI (am_wI h1 32 3 ((Int32.ofInt 0))) 47 2 ((Int32.ofInt 0))) 0 12 ((Int32.ofInt 0))) 0 13 ((Int8.ofInt 31).toInt32)) from ⟨ex_0 hP1, rfl, rfl, ?_⟩)
  refine am_goX 5 (show 1 < 2 ∧ ((Int32.ofInt 4) ≤ (Int32.ofInt 0) → pz_S 2 none am_r78 1 Q 61 [(1, .int (Int32.ofInt 0)), (0, .ref 0)] [] (am_wI (am_wI (am_wI (am_wI h1 32 3 ((Int32.ofInt 0))) 47 2 ((Int32.ofInt 0))) 0 12 ((Int32.ofInt 0))) 0 13 ((Int8.ofInt 31).toInt32))) ∧ (¬ ((Int32.ofInt 4) ≤ (Int32.ofInt 0)) → pz_S 2 none am_r78 1 Q 45 [(1, .int (Int32.ofInt 0)), (0, .ref 0)] [] (am_wI (am_wI (am_wI (am_wI h1 32 3 ((Int32.ofInt 0))) 47 2 ((Int32.ofInt 0))) 0 12 ((Int32.ofInt 0))) 0 13 ((Int8.ofInt 31).toInt32))) from ⟨by decide, fun hz => absurd hz (by decide), fun _ => ?_⟩)
  refine am_goX 2 (show am_sh (am_wI (am_wI (am_wI (am_wI h1 32 3 ((Int32.ofInt 0))) 47 2 ((Int32.ofInt 0))) 0 12 ((Int32.ofInt 0))) 0 13 ((Int8.ofInt 31).toInt32)) 0 = some (10, 0) ∧ pz_S 2 none am_r78 1 Q 49 [(1, .int (Int32.ofInt 0)), (0, .ref 0)] [am_rf ((am_wI (am_wI (am_wI (am_wI h1 32 3 ((Int32.ofInt 0))) 47 2 ((Int32.ofInt 0))) 0 12 ((Int32.ofInt 0))) 0 13 ((Int8.ofInt 31).toInt32)).2.2.1 0 11)] (am_wI (am_wI (am_wI (am_wI h1 32 3 ((Int32.ofInt 0))) 47 2 ((Int32.ofInt 0))) 0 12 ((Int32.ofInt 0))) 0 13 ((Int8.ofInt 31).toInt32)) from ⟨ex_0 hP1, ?_⟩)
  rw [ex_r0_11 (h := am_wI (am_wI (am_wI (am_wI h1 32 3 ((Int32.ofInt 0))) 47 2 ((Int32.ofInt 0))) 0 12 ((Int32.ofInt 0))) 0 13 ((Int8.ofInt 31).toInt32)) hP1]
  refine am_goX 2 (show ∃ jj nn : Nat, (am_sh (am_wI (am_wI (am_wI (am_wI h1 32 3 ((Int32.ofInt 0))) 47 2 ((Int32.ofInt 0))) 0 12 ((Int32.ofInt 0))) 0 13 ((Int8.ofInt 31).toInt32)) 129 = some (16, nn) ∨ am_sh (am_wI (am_wI (am_wI (am_wI h1 32 3 ((Int32.ofInt 0))) 47 2 ((Int32.ofInt 0))) 0 12 ((Int32.ofInt 0))) 0 13 ((Int8.ofInt 31).toInt32)) 129 = some (17, nn)) ∧ jj < nn ∧ (Int32.ofInt 0) = nI jj ∧ pz_S 2 none am_r78 1 Q 51 [(1, .int (Int32.ofInt 0)), (0, .ref 0)] [am_rf ((am_wI (am_wI (am_wI (am_wI h1 32 3 ((Int32.ofInt 0))) 47 2 ((Int32.ofInt 0))) 0 12 ((Int32.ofInt 0))) 0 13 ((Int8.ofInt 31).toInt32)).2.2.1 129 jj)] (am_wI (am_wI (am_wI (am_wI h1 32 3 ((Int32.ofInt 0))) 47 2 ((Int32.ofInt 0))) 0 12 ((Int32.ofInt 0))) 0 13 ((Int8.ofInt 31).toInt32)) from ⟨0, 4, Or.inl (ex_129 hP1), by decide, by decide, ?_⟩)
  rw [ex_r129_0 (h := am_wI (am_wI (am_wI (am_wI h1 32 3 ((Int32.ofInt 0))) 47 2 ((Int32.ofInt 0))) 0 12 ((Int32.ofInt 0))) 0 13 ((Int8.ofInt 31).toInt32)) hP1]
  refine am_goX 2 (show am_sh (am_wI (am_wI (am_wI (am_wI h1 32 3 ((Int32.ofInt 0))) 47 2 ((Int32.ofInt 0))) 0 12 ((Int32.ofInt 0))) 0 13 ((Int8.ofInt 31).toInt32)) 130 = some (5, 0) ∧ narrow (am_fty 5 0) (.int ((Int32.ofInt 0))) = .int ((Int32.ofInt 0)) ∧ fits (am_fty 5 0) (.int ((Int32.ofInt 0))) = true ∧ pz_S 2 none am_r78 1 Q 55 [(1, .int (Int32.ofInt 0)), (0, .ref 0)] [] (am_wI (am_wI (am_wI (am_wI (am_wI h1 32 3 ((Int32.ofInt 0))) 47 2 ((Int32.ofInt 0))) 0 12 ((Int32.ofInt 0))) 0 13 ((Int8.ofInt 31).toInt32)) 130 0 ((Int32.ofInt 0))) from ⟨ex_130 hP1, rfl, rfl, ?_⟩)
  refine am_goX 5 (show 1 < 2 ∧ ((Int32.ofInt 4) ≤ ((Int32.ofInt 0) + Int32.ofInt 1) → pz_S 2 none am_r78 1 Q 61 [(1, .int ((Int32.ofInt 0) + Int32.ofInt 1)), (0, .ref 0)] [] (am_wI (am_wI (am_wI (am_wI (am_wI h1 32 3 ((Int32.ofInt 0))) 47 2 ((Int32.ofInt 0))) 0 12 ((Int32.ofInt 0))) 0 13 ((Int8.ofInt 31).toInt32)) 130 0 ((Int32.ofInt 0)))) ∧ (¬ ((Int32.ofInt 4) ≤ ((Int32.ofInt 0) + Int32.ofInt 1)) → pz_S 2 none am_r78 1 Q 45 [(1, .int ((Int32.ofInt 0) + Int32.ofInt 1)), (0, .ref 0)] [] (am_wI (am_wI (am_wI (am_wI (am_wI h1 32 3 ((Int32.ofInt 0))) 47 2 ((Int32.ofInt 0))) 0 12 ((Int32.ofInt 0))) 0 13 ((Int8.ofInt 31).toInt32)) 130 0 ((Int32.ofInt 0)))) from ⟨by decide, fun hz => absurd hz (by decide), fun _ => ?_⟩)
  refine am_goX 2 (show am_sh (am_wI (am_wI (am_wI (am_wI (am_wI h1 32 3 ((Int32.ofInt 0))) 47 2 ((Int32.ofInt 0))) 0 12 ((Int32.ofInt 0))) 0 13 ((Int8.ofInt 31).toInt32)) 130 0 ((Int32.ofInt 0))) 0 = some (10, 0) ∧ pz_S 2 none am_r78 1 Q 49 [(1, .int ((Int32.ofInt 0) + Int32.ofInt 1)), (0, .ref 0)] [am_rf ((am_wI (am_wI (am_wI (am_wI (am_wI h1 32 3 ((Int32.ofInt 0))) 47 2 ((Int32.ofInt 0))) 0 12 ((Int32.ofInt 0))) 0 13 ((Int8.ofInt 31).toInt32)) 130 0 ((Int32.ofInt 0))).2.2.1 0 11)] (am_wI (am_wI (am_wI (am_wI (am_wI h1 32 3 ((Int32.ofInt 0))) 47 2 ((Int32.ofInt 0))) 0 12 ((Int32.ofInt 0))) 0 13 ((Int8.ofInt 31).toInt32)) 130 0 ((Int32.ofInt 0))) from ⟨ex_0 hP1, ?_⟩)
  rw [ex_r0_11 (h := am_wI (am_wI (am_wI (am_wI (am_wI h1 32 3 ((Int32.ofInt 0))) 47 2 ((Int32.ofInt 0))) 0 12 ((Int32.ofInt 0))) 0 13 ((Int8.ofInt 31).toInt32)) 130 0 ((Int32.ofInt 0))) hP1]
  refine am_goX 2 (show ∃ jj nn : Nat, (am_sh (am_wI (am_wI (am_wI (am_wI (am_wI h1 32 3 ((Int32.ofInt 0))) 47 2 ((Int32.ofInt 0))) 0 12 ((Int32.ofInt 0))) 0 13 ((Int8.ofInt 31).toInt32)) 130 0 ((Int32.ofInt 0))) 129 = some (16, nn) ∨ am_sh (am_wI (am_wI (am_wI (am_wI (am_wI h1 32 3 ((Int32.ofInt 0))) 47 2 ((Int32.ofInt 0))) 0 12 ((Int32.ofInt 0))) 0 13 ((Int8.ofInt 31).toInt32)) 130 0 ((Int32.ofInt 0))) 129 = some (17, nn)) ∧ jj < nn ∧ ((Int32.ofInt 0) + Int32.ofInt 1) = nI jj ∧ pz_S 2 none am_r78 1 Q 51 [(1, .int ((Int32.ofInt 0) + Int32.ofInt 1)), (0, .ref 0)] [am_rf ((am_wI (am_wI (am_wI (am_wI (am_wI h1 32 3 ((Int32.ofInt 0))) 47 2 ((Int32.ofInt 0))) 0 12 ((Int32.ofInt 0))) 0 13 ((Int8.ofInt 31).toInt32)) 130 0 ((Int32.ofInt 0))).2.2.1 129 jj)] (am_wI (am_wI (am_wI (am_wI (am_wI h1 32 3 ((Int32.ofInt 0))) 47 2 ((Int32.ofInt 0))) 0 12 ((Int32.ofInt 0))) 0 13 ((Int8.ofInt 31).toInt32)) 130 0 ((Int32.ofInt 0))) from ⟨1, 4, Or.inl (ex_129 hP1), by decide, by decide, ?_⟩)
  rw [ex_r129_1 (h := am_wI (am_wI (am_wI (am_wI (am_wI h1 32 3 ((Int32.ofInt 0))) 47 2 ((Int32.ofInt 0))) 0 12 ((Int32.ofInt 0))) 0 13 ((Int8.ofInt 31).toInt32)) 130 0 ((Int32.ofInt 0))) hP1]
  refine am_goX 2 (show am_sh (am_wI (am_wI (am_wI (am_wI (am_wI h1 32 3 ((Int32.ofInt 0))) 47 2 ((Int32.ofInt 0))) 0 12 ((Int32.ofInt 0))) 0 13 ((Int8.ofInt 31).toInt32)) 130 0 ((Int32.ofInt 0))) 136 = some (5, 0) ∧ narrow (am_fty 5 0) (.int ((Int32.ofInt 0))) = .int ((Int32.ofInt 0)) ∧ fits (am_fty 5 0) (.int ((Int32.ofInt 0))) = true ∧ pz_S 2 none am_r78 1 Q 55 [(1, .int ((Int32.ofInt 0) + Int32.ofInt 1)), (0, .ref 0)] [] (am_wI (am_wI (am_wI (am_wI (am_wI (am_wI h1 32 3 ((Int32.ofInt 0))) 47 2 ((Int32.ofInt 0))) 0 12 ((Int32.ofInt 0))) 0 13 ((Int8.ofInt 31).toInt32)) 130 0 ((Int32.ofInt 0))) 136 0 ((Int32.ofInt 0))) from ⟨ex_136 hP1, rfl, rfl, ?_⟩)
  refine am_goX 5 (show 1 < 2 ∧ ((Int32.ofInt 4) ≤ (((Int32.ofInt 0) + Int32.ofInt 1) + Int32.ofInt 1) → pz_S 2 none am_r78 1 Q 61 [(1, .int (((Int32.ofInt 0) + Int32.ofInt 1) + Int32.ofInt 1)), (0, .ref 0)] [] (am_wI (am_wI (am_wI (am_wI (am_wI (am_wI h1 32 3 ((Int32.ofInt 0))) 47 2 ((Int32.ofInt 0))) 0 12 ((Int32.ofInt 0))) 0 13 ((Int8.ofInt 31).toInt32)) 130 0 ((Int32.ofInt 0))) 136 0 ((Int32.ofInt 0)))) ∧ (¬ ((Int32.ofInt 4) ≤ (((Int32.ofInt 0) + Int32.ofInt 1) + Int32.ofInt 1)) → pz_S 2 none am_r78 1 Q 45 [(1, .int (((Int32.ofInt 0) + Int32.ofInt 1) + Int32.ofInt 1)), (0, .ref 0)] [] (am_wI (am_wI (am_wI (am_wI (am_wI (am_wI h1 32 3 ((Int32.ofInt 0))) 47 2 ((Int32.ofInt 0))) 0 12 ((Int32.ofInt 0))) 0 13 ((Int8.ofInt 31).toInt32)) 130 0 ((Int32.ofInt 0))) 136 0 ((Int32.ofInt 0)))) from ⟨by decide, fun hz => absurd hz (by decide), fun _ => ?_⟩)
  refine am_goX 2 (show am_sh (am_wI (am_wI (am_wI (am_wI (am_wI (am_wI h1 32 3 ((Int32.ofInt 0))) 47 2 ((Int32.ofInt 0))) 0 12 ((Int32.ofInt 0))) 0 13 ((Int8.ofInt 31).toInt32)) 130 0 ((Int32.ofInt 0))) 136 0 ((Int32.ofInt 0))) 0 = some (10, 0) ∧ pz_S 2 none am_r78 1 Q 49 [(1, .int (((Int32.ofInt 0) + Int32.ofInt 1) + Int32.ofInt 1)), (0, .ref 0)] [am_rf ((am_wI (am_wI (am_wI (am_wI (am_wI (am_wI h1 32 3 ((Int32.ofInt 0))) 47 2 ((Int32.ofInt 0))) 0 12 ((Int32.ofInt 0))) 0 13 ((Int8.ofInt 31).toInt32)) 130 0 ((Int32.ofInt 0))) 136 0 ((Int32.ofInt 0))).2.2.1 0 11)] (am_wI (am_wI (am_wI (am_wI (am_wI (am_wI h1 32 3 ((Int32.ofInt 0))) 47 2 ((Int32.ofInt 0))) 0 12 ((Int32.ofInt 0))) 0 13 ((Int8.ofInt 31).toInt32)) 130 0 ((Int32.ofInt 0))) 136 0 ((Int32.ofInt 0))) from ⟨ex_0 hP1, ?_⟩)
  rw [ex_r0_11 (h := am_wI (am_wI (am_wI (am_wI (am_wI (am_wI h1 32 3 ((Int32.ofInt 0))) 47 2 ((Int32.ofInt 0))) 0 12 ((Int32.ofInt 0))) 0 13 ((Int8.ofInt 31).toInt32)) 130 0 ((Int32.ofInt 0))) 136 0 ((Int32.ofInt 0))) hP1]
  refine am_goX 2 (show ∃ jj nn : Nat, (am_sh (am_wI (am_wI (am_wI (am_wI (am_wI (am_wI h1 32 3 ((Int32.ofInt 0))) 47 2 ((Int32.ofInt 0))) 0 12 ((Int32.ofInt 0))) 0 13 ((Int8.ofInt 31).toInt32)) 130 0 ((Int32.ofInt 0))) 136 0 ((Int32.ofInt 0))) 129 = some (16, nn) ∨ am_sh (am_wI (am_wI (am_wI (am_wI (am_wI (am_wI h1 32 3 ((Int32.ofInt 0))) 47 2 ((Int32.ofInt 0))) 0 12 ((Int32.ofInt 0))) 0 13 ((Int8.ofInt 31).toInt32)) 130 0 ((Int32.ofInt 0))) 136 0 ((Int32.ofInt 0))) 129 = some (17, nn)) ∧ jj < nn ∧ (((Int32.ofInt 0) + Int32.ofInt 1) + Int32.ofInt 1) = nI jj ∧ pz_S 2 none am_r78 1 Q 51 [(1, .int (((Int32.ofInt 0) + Int32.ofInt 1) + Int32.ofInt 1)), (0, .ref 0)] [am_rf ((am_wI (am_wI (am_wI (am_wI (am_wI (am_wI h1 32 3 ((Int32.ofInt 0))) 47 2 ((Int32.ofInt 0))) 0 12 ((Int32.ofInt 0))) 0 13 ((Int8.ofInt 31).toInt32)) 130 0 ((Int32.ofInt 0))) 136 0 ((Int32.ofInt 0))).2.2.1 129 jj)] (am_wI (am_wI (am_wI (am_wI (am_wI (am_wI h1 32 3 ((Int32.ofInt 0))) 47 2 ((Int32.ofInt 0))) 0 12 ((Int32.ofInt 0))) 0 13 ((Int8.ofInt 31).toInt32)) 130 0 ((Int32.ofInt 0))) 136 0 ((Int32.ofInt 0))) from ⟨2, 4, Or.inl (ex_129 hP1), by decide, by decide, ?_⟩)
  rw [ex_r129_2 (h := am_wI (am_wI (am_wI (am_wI (am_wI (am_wI h1 32 3 ((Int32.ofInt 0))) 47 2 ((Int32.ofInt 0))) 0 12 ((Int32.ofInt 0))) 0 13 ((Int8.ofInt 31).toInt32)) 130 0 ((Int32.ofInt 0))) 136 0 ((Int32.ofInt 0))) hP1]
  refine am_goX 2 (show am_sh (am_wI (am_wI (am_wI (am_wI (am_wI (am_wI h1 32 3 ((Int32.ofInt 0))) 47 2 ((Int32.ofInt 0))) 0 12 ((Int32.ofInt 0))) 0 13 ((Int8.ofInt 31).toInt32)) 130 0 ((Int32.ofInt 0))) 136 0 ((Int32.ofInt 0))) 142 = some (5, 0) ∧ narrow (am_fty 5 0) (.int ((Int32.ofInt 0))) = .int ((Int32.ofInt 0)) ∧ fits (am_fty 5 0) (.int ((Int32.ofInt 0))) = true ∧ pz_S 2 none am_r78 1 Q 55 [(1, .int (((Int32.ofInt 0) + Int32.ofInt 1) + Int32.ofInt 1)), (0, .ref 0)] [] (am_wI (am_wI (am_wI (am_wI (am_wI (am_wI (am_wI h1 32 3 ((Int32.ofInt 0))) 47 2 ((Int32.ofInt 0))) 0 12 ((Int32.ofInt 0))) 0 13 ((Int8.ofInt 31).toInt32)) 130 0 ((Int32.ofInt 0))) 136 0 ((Int32.ofInt 0))) 142 0 ((Int32.ofInt 0))) from ⟨ex_142 hP1, rfl, rfl, ?_⟩)
  refine am_goX 5 (show 1 < 2 ∧ ((Int32.ofInt 4) ≤ ((((Int32.ofInt 0) + Int32.ofInt 1) + Int32.ofInt 1) + Int32.ofInt 1) → pz_S 2 none am_r78 1 Q 61 [(1, .int ((((Int32.ofInt 0) + Int32.ofInt 1) + Int32.ofInt 1) + Int32.ofInt 1)), (0, .ref 0)] [] (am_wI (am_wI (am_wI (am_wI (am_wI (am_wI (am_wI h1 32 3 ((Int32.ofInt 0))) 47 2 ((Int32.ofInt 0))) 0 12 ((Int32.ofInt 0))) 0 13 ((Int8.ofInt 31).toInt32)) 130 0 ((Int32.ofInt 0))) 136 0 ((Int32.ofInt 0))) 142 0 ((Int32.ofInt 0)))) ∧ (¬ ((Int32.ofInt 4) ≤ ((((Int32.ofInt 0) + Int32.ofInt 1) + Int32.ofInt 1) + Int32.ofInt 1)) → pz_S 2 none am_r78 1 Q 45 [(1, .int ((((Int32.ofInt 0) + Int32.ofInt 1) + Int32.ofInt 1) + Int32.ofInt 1)), (0, .ref 0)] [] (am_wI (am_wI (am_wI (am_wI (am_wI (am_wI (am_wI h1 32 3 ((Int32.ofInt 0))) 47 2 ((Int32.ofInt 0))) 0 12 ((Int32.ofInt 0))) 0 13 ((Int8.ofInt 31).toInt32)) 130 0 ((Int32.ofInt 0))) 136 0 ((Int32.ofInt 0))) 142 0 ((Int32.ofInt 0)))) from ⟨by decide, fun hz => absurd hz (by decide), fun _ => ?_⟩)
  refine am_goX 2 (show am_sh (am_wI (am_wI (am_wI (am_wI (am_wI (am_wI (am_wI h1 32 3 ((Int32.ofInt 0))) 47 2 ((Int32.ofInt 0))) 0 12 ((Int32.ofInt 0))) 0 13 ((Int8.ofInt 31).toInt32)) 130 0 ((Int32.ofInt 0))) 136 0 ((Int32.ofInt 0))) 142 0 ((Int32.ofInt 0))) 0 = some (10, 0) ∧ pz_S 2 none am_r78 1 Q 49 [(1, .int ((((Int32.ofInt 0) + Int32.ofInt 1) + Int32.ofInt 1) + Int32.ofInt 1)), (0, .ref 0)] [am_rf ((am_wI (am_wI (am_wI (am_wI (am_wI (am_wI (am_wI h1 32 3 ((Int32.ofInt 0))) 47 2 ((Int32.ofInt 0))) 0 12 ((Int32.ofInt 0))) 0 13 ((Int8.ofInt 31).toInt32)) 130 0 ((Int32.ofInt 0))) 136 0 ((Int32.ofInt 0))) 142 0 ((Int32.ofInt 0))).2.2.1 0 11)] (am_wI (am_wI (am_wI (am_wI (am_wI (am_wI (am_wI h1 32 3 ((Int32.ofInt 0))) 47 2 ((Int32.ofInt 0))) 0 12 ((Int32.ofInt 0))) 0 13 ((Int8.ofInt 31).toInt32)) 130 0 ((Int32.ofInt 0))) 136 0 ((Int32.ofInt 0))) 142 0 ((Int32.ofInt 0))) from ⟨ex_0 hP1, ?_⟩)
  rw [ex_r0_11 (h := am_wI (am_wI (am_wI (am_wI (am_wI (am_wI (am_wI h1 32 3 ((Int32.ofInt 0))) 47 2 ((Int32.ofInt 0))) 0 12 ((Int32.ofInt 0))) 0 13 ((Int8.ofInt 31).toInt32)) 130 0 ((Int32.ofInt 0))) 136 0 ((Int32.ofInt 0))) 142 0 ((Int32.ofInt 0))) hP1]
  refine am_goX 2 (show ∃ jj nn : Nat, (am_sh (am_wI (am_wI (am_wI (am_wI (am_wI (am_wI (am_wI h1 32 3 ((Int32.ofInt 0))) 47 2 ((Int32.ofInt 0))) 0 12 ((Int32.ofInt 0))) 0 13 ((Int8.ofInt 31).toInt32)) 130 0 ((Int32.ofInt 0))) 136 0 ((Int32.ofInt 0))) 142 0 ((Int32.ofInt 0))) 129 = some (16, nn) ∨ am_sh (am_wI (am_wI (am_wI (am_wI (am_wI (am_wI (am_wI h1 32 3 ((Int32.ofInt 0))) 47 2 ((Int32.ofInt 0))) 0 12 ((Int32.ofInt 0))) 0 13 ((Int8.ofInt 31).toInt32)) 130 0 ((Int32.ofInt 0))) 136 0 ((Int32.ofInt 0))) 142 0 ((Int32.ofInt 0))) 129 = some (17, nn)) ∧ jj < nn ∧ ((((Int32.ofInt 0) + Int32.ofInt 1) + Int32.ofInt 1) + Int32.ofInt 1) = nI jj ∧ pz_S 2 none am_r78 1 Q 51 [(1, .int ((((Int32.ofInt 0) + Int32.ofInt 1) + Int32.ofInt 1) + Int32.ofInt 1)), (0, .ref 0)] [am_rf ((am_wI (am_wI (am_wI (am_wI (am_wI (am_wI (am_wI h1 32 3 ((Int32.ofInt 0))) 47 2 ((Int32.ofInt 0))) 0 12 ((Int32.ofInt 0))) 0 13 ((Int8.ofInt 31).toInt32)) 130 0 ((Int32.ofInt 0))) 136 0 ((Int32.ofInt 0))) 142 0 ((Int32.ofInt 0))).2.2.1 129 jj)] (am_wI (am_wI (am_wI (am_wI (am_wI (am_wI (am_wI h1 32 3 ((Int32.ofInt 0))) 47 2 ((Int32.ofInt 0))) 0 12 ((Int32.ofInt 0))) 0 13 ((Int8.ofInt 31).toInt32)) 130 0 ((Int32.ofInt 0))) 136 0 ((Int32.ofInt 0))) 142 0 ((Int32.ofInt 0))) from ⟨3, 4, Or.inl (ex_129 hP1), by decide, by decide, ?_⟩)
  rw [ex_r129_3 (h := am_wI (am_wI (am_wI (am_wI (am_wI (am_wI (am_wI h1 32 3 ((Int32.ofInt 0))) 47 2 ((Int32.ofInt 0))) 0 12 ((Int32.ofInt 0))) 0 13 ((Int8.ofInt 31).toInt32)) 130 0 ((Int32.ofInt 0))) 136 0 ((Int32.ofInt 0))) 142 0 ((Int32.ofInt 0))) hP1]
  refine am_goX 2 (show am_sh (am_wI (am_wI (am_wI (am_wI (am_wI (am_wI (am_wI h1 32 3 ((Int32.ofInt 0))) 47 2 ((Int32.ofInt 0))) 0 12 ((Int32.ofInt 0))) 0 13 ((Int8.ofInt 31).toInt32)) 130 0 ((Int32.ofInt 0))) 136 0 ((Int32.ofInt 0))) 142 0 ((Int32.ofInt 0))) 148 = some (5, 0) ∧ narrow (am_fty 5 0) (.int ((Int32.ofInt 0))) = .int ((Int32.ofInt 0)) ∧ fits (am_fty 5 0) (.int ((Int32.ofInt 0))) = true ∧ pz_S 2 none am_r78 1 Q 55 [(1, .int ((((Int32.ofInt 0) + Int32.ofInt 1) + Int32.ofInt 1) + Int32.ofInt 1)), (0, .ref 0)] [] (am_wI (am_wI (am_wI (am_wI (am_wI (am_wI (am_wI (am_wI h1 32 3 ((Int32.ofInt 0))) 47 2 ((Int32.ofInt 0))) 0 12 ((Int32.ofInt 0))) 0 13 ((Int8.ofInt 31).toInt32)) 130 0 ((Int32.ofInt 0))) 136 0 ((Int32.ofInt 0))) 142 0 ((Int32.ofInt 0))) 148 0 ((Int32.ofInt 0))) from ⟨ex_148 hP1, rfl, rfl, ?_⟩)
  refine am_goX 5 (show 1 < 2 ∧ ((Int32.ofInt 4) ≤ (((((Int32.ofInt 0) + Int32.ofInt 1) + Int32.ofInt 1) + Int32.ofInt 1) + Int32.ofInt 1) → pz_S 2 none am_r78 1 Q 61 [(1, .int (((((Int32.ofInt 0) + Int32.ofInt 1) + Int32.ofInt 1) + Int32.ofInt 1) + Int32.ofInt 1)), (0, .ref 0)] [] (am_wI (am_wI (am_wI (am_wI (am_wI (am_wI (am_wI (am_wI h1 32 3 ((Int32.ofInt 0))) 47 2 ((Int32.ofInt 0))) 0 12 ((Int32.ofInt 0))) 0 13 ((Int8.ofInt 31).toInt32)) 130 0 ((Int32.ofInt 0))) 136 0 ((Int32.ofInt 0))) 142 0 ((Int32.ofInt 0))) 148 0 ((Int32.ofInt 0)))) ∧ (¬ ((Int32.ofInt 4) ≤ (((((Int32.ofInt 0) + Int32.ofInt 1) + Int32.ofInt 1) + Int32.ofInt 1) + Int32.ofInt 1)) → pz_S 2 none am_r78 1 Q 45 [(1, .int (((((Int32.ofInt 0) + Int32.ofInt 1) + Int32.ofInt 1) + Int32.ofInt 1) + Int32.ofInt 1)), (0, .ref 0)] [] (am_wI (am_wI (am_wI (am_wI (am_wI (am_wI (am_wI (am_wI h1 32 3 ((Int32.ofInt 0))) 47 2 ((Int32.ofInt 0))) 0 12 ((Int32.ofInt 0))) 0 13 ((Int8.ofInt 31).toInt32)) 130 0 ((Int32.ofInt 0))) 136 0 ((Int32.ofInt 0))) 142 0 ((Int32.ofInt 0))) 148 0 ((Int32.ofInt 0)))) from ⟨by decide, fun _ => ?_, fun hz => absurd (by decide) hz⟩)
  refine am_goX 1 (show (none : Option FieldType) = none ∧ (am_wI (am_wI (am_wI (am_wI (am_wI (am_wI (am_wI (am_wI h1 32 3 ((Int32.ofInt 0))) 47 2 ((Int32.ofInt 0))) 0 12 ((Int32.ofInt 0))) 0 13 ((Int8.ofInt 31).toInt32)) 130 0 ((Int32.ofInt 0))) 136 0 ((Int32.ofInt 0))) 142 0 ((Int32.ofInt 0))) 148 0 ((Int32.ofInt 0))).2.2.2.2 = 175 ∧ _ from ⟨rfl, ex_175 hP1, hQ _ hP1 ⟨hr1, fun o k hn => ?_, ⟨⟨?_, ?_⟩, fun i hi => ⟨?_, ?_⟩, fun i hi => ⟨?_, ?_⟩⟩, ⟨(by rw [em_wn _ _ (by omega), em_wn _ _ (by omega), em_wn _ _ (by omega), em_wn _ _ (by omega), em_wn _ _ (by omega), em_wn _ _ (by omega), em_wn _ _ (by omega), em_we]; rfl), (by rw [em_wn _ _ (by omega), em_wn _ _ (by omega), em_wn _ _ (by omega), em_wn _ _ (by omega), em_wn _ _ (by omega), em_wn _ _ (by omega), em_we]; rfl), (by rw [em_wn _ _ (by omega), em_wn _ _ (by omega), em_wn _ _ (by omega), em_wn _ _ (by omega), em_wn _ _ (by omega), em_we]; rfl), (by rw [em_wn _ _ (by omega), em_wn _ _ (by omega), em_wn _ _ (by omega), em_wn _ _ (by omega), em_we]; rfl)⟩, ⟨(by rw [em_wn _ _ (by omega), em_wn _ _ (by omega), em_wn _ _ (by omega), em_we]; rfl), (by rw [em_wn _ _ (by omega), em_wn _ _ (by omega), em_we]; rfl), (by rw [em_wn _ _ (by omega), em_we]; rfl), (by rw [em_we]; rfl)⟩⟩⟩)
  · unfold bg_w at hn
    rw [em_wn _ _ (by omega), em_wn _ _ (by omega), em_wn _ _ (by omega), em_wn _ _ (by omega), em_wn _ _ (by omega), em_wn _ _ (by omega), em_wn _ _ (by omega), em_wn _ _ (by omega)]
    exact hf1 o k (by omega)
  · rw [em_wn _ _ (by omega), em_wn _ _ (by omega), em_wn _ _ (by omega), em_wn _ _ (by omega), em_wn _ _ (by omega), em_wn _ _ (by omega), em_wn _ _ (by omega), em_wn _ _ (by omega)]
    exact hs1.1.1
  · rw [em_wn _ _ (by omega), em_wn _ _ (by omega), em_wn _ _ (by omega), em_wn _ _ (by omega), em_wn _ _ (by omega), em_wn _ _ (by omega), em_wn _ _ (by omega), em_wn _ _ (by omega)]
    exact hs1.1.2
  · rw [em_wn _ _ (by omega), em_wn _ _ (by omega), em_wn _ _ (by omega), em_wn _ _ (by omega), em_wn _ _ (by omega), em_wn _ _ (by omega), em_wn _ _ (by omega), em_wn _ _ (by omega)]
    exact (hs1.2.1 i hi).1
  · rw [em_wn _ _ (by omega), em_wn _ _ (by omega), em_wn _ _ (by omega), em_wn _ _ (by omega), em_wn _ _ (by omega), em_wn _ _ (by omega), em_wn _ _ (by omega), em_wn _ _ (by omega)]
    exact (hs1.2.1 i hi).2
  · rw [em_wn _ _ (by omega), em_wn _ _ (by omega), em_wn _ _ (by omega), em_wn _ _ (by omega), em_wn _ _ (by omega), em_wn _ _ (by omega), em_wn _ _ (by omega), em_wn _ _ (by omega)]
    exact (hs1.2.2 i hi).1
  · rw [em_wn _ _ (by omega), em_wn _ _ (by omega), em_wn _ _ (by omega), em_wn _ _ (by omega), em_wn _ _ (by omega), em_wn _ _ (by omega), em_wn _ _ (by omega), em_wn _ _ (by omega)]
    exact (hs1.2.2 i hi).2
theorem c_79Fb_17 : ∀ (m i : Nat) (h : am_H), i + m = 5 → ex_P h → (∀ j, j < i → h.1 39 j = 0 ∧ h.1 40 j = 0) → (∀ h1, ex_P h1 → h1.2 = h.2 → (∀ o k, ¬ (o = 39 ∨ o = 40) → h1.1 o k = h.1 o k) → (∀ j, j < 5 → h1.1 39 j = 0 ∧ h1.1 40 j = 0) → Q none h1) → pz_S 3 none am_r79 0 Q 45 [(2, .int (nI i)), (0, .ref 36), (1, .ref 17)] [] h := by
  intro m
  induction m with
  | zero =>
    intro i h hi hP hj hQ
    refine am_goX 3 (show ((Int32.ofInt 5) ≤ (nI i) → pz_S 3 none am_r79 0 Q 70 [(2, .int (nI i)), (0, .ref 36), (1, .ref 17)] [] h) ∧ (¬ ((Int32.ofInt 5) ≤ (nI i)) → pz_S 3 none am_r79 0 Q 50 [(2, .int (nI i)), (0, .ref 36), (1, .ref 17)] [] h) from ⟨fun hc => ?_, fun hc => ?_⟩)
    ·
      exact am_goX 1 (show (none : Option FieldType) = none ∧ h.2.2.2.2 = 175 ∧ _ from ⟨rfl, ex_175 hP, hQ _ hP rfl (fun _ _ _ => rfl) (fun j hj1 => hj j (by omega))⟩)
    · exact absurd (show nI 5 ≤ nI i from nI_le (by omega) (by omega)) hc
  | succ m ih =>
    intro i h hi hP hj hQ
    refine am_goX 3 (show ((Int32.ofInt 5) ≤ (nI i) → pz_S 3 none am_r79 0 Q 70 [(2, .int (nI i)), (0, .ref 36), (1, .ref 17)] [] h) ∧ (¬ ((Int32.ofInt 5) ≤ (nI i)) → pz_S 3 none am_r79 0 Q 50 [(2, .int (nI i)), (0, .ref 36), (1, .ref 17)] [] h) from ⟨fun hc => ?_, fun hc => ?_⟩)
    · have hc1 : nI 5 ≤ nI i := hc
      rw [nI_leI (by omega) (by omega)] at hc1
      omega
    clear hc
    refine am_goX 2 (show am_sh h 36 = some (6, 0) ∧ pz_S 3 none am_r79 0 Q 54 [(2, .int (nI i)), (0, .ref 36), (1, .ref 17)] [am_rf (h.2.2.1 36 4)] h from ⟨ex_36 hP, ?_⟩)
    rw [ex_r36_4 (h := h) hP]
    refine am_goX 3 (show ∃ jj nn : Nat, am_so h 39 = some (13, nn) ∧ jj < nn ∧ (nI i) = nI jj ∧ pz_S 3 none am_r79 0 Q 57 [(2, .int (nI i)), (0, .ref 36), (1, .ref 17)] [] (am_wI h 39 jj (Int32.ofInt 0)) from ⟨i, 5, ex_w39 hP, by omega, rfl, ?_⟩)
    refine am_goX 2 (show am_sh (am_wI h 39 (i) (Int32.ofInt 0)) 36 = some (6, 0) ∧ pz_S 3 none am_r79 0 Q 61 [(2, .int (nI i)), (0, .ref 36), (1, .ref 17)] [am_rf ((am_wI h 39 (i) (Int32.ofInt 0)).2.2.1 36 5)] (am_wI h 39 (i) (Int32.ofInt 0)) from ⟨ex_36 hP, ?_⟩)
    rw [ex_r36_5 (h := am_wI h 39 (i) (Int32.ofInt 0)) hP]
    refine am_goX 3 (show ∃ jj nn : Nat, am_so (am_wI h 39 (i) (Int32.ofInt 0)) 40 = some (13, nn) ∧ jj < nn ∧ (nI i) = nI jj ∧ pz_S 3 none am_r79 0 Q 64 [(2, .int (nI i)), (0, .ref 36), (1, .ref 17)] [] (am_wI (am_wI h 39 (i) (Int32.ofInt 0)) 40 jj (Int32.ofInt 0)) from ⟨i, 5, ex_w40 hP, by omega, rfl, ?_⟩)
    refine am_goX 2 (show 2 < 3 ∧ pz_S 3 none am_r79 0 Q 45 [(2, .int ((nI i) + Int32.ofInt 1)), (0, .ref 36), (1, .ref 17)] [] (am_wI (am_wI h 39 (i) (Int32.ofInt 0)) 40 (i) (Int32.ofInt 0)) from ⟨by decide, ?_⟩)
    rw [xw_i1]
    refine ih (i + 1) _ (by omega) hP (fun j hj1 => ?_) (fun h1 p1 p2 p3 p4 => hQ h1 p1 p2 (fun o k hn => (p3 o k hn).trans (by rw [em_wn _ _ (by omega), em_wn _ _ (by omega)])) p4)
    by_cases ej : j = i
    · rw [ej, em_wn _ _ (by omega), em_we, em_we]
      exact ⟨rfl, rfl⟩
    · rw [em_wn _ _ (by omega), em_wn _ _ (by omega), em_wn _ _ (by omega), em_wn _ _ (by omega)]
      exact hj j (by omega)
theorem c_79Fa_17 {L : Nat → Int32} : ∀ (m i : Nat) (h : am_H), i + m = 6 → ex_P h → (∀ j, j < i → h.1 37 j = L j ∧ h.1 38 j = 0) → (∀ j, j < 6 → h.1 20 j = L j) → (∀ h1, ex_P h1 → h1.2 = h.2 → (∀ o k, ¬ (37 ≤ o ∧ o ≤ 40) → h1.1 o k = h.1 o k) → (∀ j, j < 6 → h1.1 37 j = L j ∧ h1.1 38 j = 0) → (∀ j, j < 5 → h1.1 39 j = 0 ∧ h1.1 40 j = 0) → Q none h1) → pz_S 3 none am_r79 0 Q 12 [(2, .int (nI i)), (0, .ref 36), (1, .ref 17)] [] h := by
  intro m
  induction m with
  | zero =>
    intro i h hi hP hj hL hQ
    refine am_goX 3 (show ((Int8.ofInt 6).toInt32 ≤ (nI i) → pz_S 3 none am_r79 0 Q 43 [(2, .int (nI i)), (0, .ref 36), (1, .ref 17)] [] h) ∧ (¬ ((Int8.ofInt 6).toInt32 ≤ (nI i)) → pz_S 3 none am_r79 0 Q 18 [(2, .int (nI i)), (0, .ref 36), (1, .ref 17)] [] h) from ⟨fun hc => ?_, fun hc => ?_⟩)
    ·
      refine am_goX 2 (show 2 < 3 ∧ pz_S 3 none am_r79 0 Q 45 [(2, .int (Int32.ofInt 0)), (0, .ref 36), (1, .ref 17)] [] h from ⟨by decide, ?_⟩)
      exact c_79Fb_17 5 0 _ rfl hP (fun j hj1 => absurd hj1 (Nat.not_lt_zero j)) (fun h1 p1 p2 p3 p4 => hQ h1 p1 p2 (fun o k hn => p3 o k (by omega)) (fun j hj1 => by rw [p3 37 j (by omega), p3 38 j (by omega)]; exact hj j (by omega)) p4)
    · exact absurd (show nI 6 ≤ nI i from nI_le (by omega) (by omega)) hc
  | succ m ih =>
    intro i h hi hP hj hL hQ
    refine am_goX 3 (show ((Int8.ofInt 6).toInt32 ≤ (nI i) → pz_S 3 none am_r79 0 Q 43 [(2, .int (nI i)), (0, .ref 36), (1, .ref 17)] [] h) ∧ (¬ ((Int8.ofInt 6).toInt32 ≤ (nI i)) → pz_S 3 none am_r79 0 Q 18 [(2, .int (nI i)), (0, .ref 36), (1, .ref 17)] [] h) from ⟨fun hc => ?_, fun hc => ?_⟩)
    · have hc1 : nI 6 ≤ nI i := hc
      rw [nI_leI (by omega) (by omega)] at hc1
      omega
    clear hc
    refine am_goX 2 (show am_sh h 36 = some (6, 0) ∧ pz_S 3 none am_r79 0 Q 22 [(2, .int (nI i)), (0, .ref 36), (1, .ref 17)] [am_rf (h.2.2.1 36 2)] h from ⟨ex_36 hP, ?_⟩)
    rw [ex_r36_2 (h := h) hP]
    refine am_goX 3 (show am_sh h 17 = some (0, 0) ∧ pz_S 3 none am_r79 0 Q 27 [(2, .int (nI i)), (0, .ref 36), (1, .ref 17)] [am_rf (h.2.2.1 17 3), .int (nI i), .ref 37] h from ⟨ex_17 hP, ?_⟩)
    rw [ex_r17_3 (h := h) hP]
    refine am_goX 2 (show ∃ jj nn : Nat, am_sh h 20 = some (13, nn) ∧ jj < nn ∧ (nI i) = nI jj ∧ pz_S 3 none am_r79 0 Q 29 [(2, .int (nI i)), (0, .ref 36), (1, .ref 17)] [.int (h.1 20 jj), .int (nI i), .ref 37] h from ⟨i, 6, ex_20 hP, by omega, rfl, ?_⟩)
    rw [hL i (by omega)]
    refine am_goX 1 (show ∃ jj nn : Nat, am_so h 37 = some (13, nn) ∧ jj < nn ∧ (nI i) = nI jj ∧ pz_S 3 none am_r79 0 Q 30 [(2, .int (nI i)), (0, .ref 36), (1, .ref 17)] [] (am_wI h 37 jj (L i)) from ⟨i, 6, ex_w37 hP, by omega, rfl, ?_⟩)
    refine am_goX 2 (show am_sh (am_wI h 37 (i) (L i)) 36 = some (6, 0) ∧ pz_S 3 none am_r79 0 Q 34 [(2, .int (nI i)), (0, .ref 36), (1, .ref 17)] [am_rf ((am_wI h 37 (i) (L i)).2.2.1 36 3)] (am_wI h 37 (i) (L i)) from ⟨ex_36 hP, ?_⟩)
    rw [ex_r36_3 (h := am_wI h 37 (i) (L i)) hP]
    refine am_goX 3 (show ∃ jj nn : Nat, am_so (am_wI h 37 (i) (L i)) 38 = some (13, nn) ∧ jj < nn ∧ (nI i) = nI jj ∧ pz_S 3 none am_r79 0 Q 37 [(2, .int (nI i)), (0, .ref 36), (1, .ref 17)] [] (am_wI (am_wI h 37 (i) (L i)) 38 jj (Int32.ofInt 0)) from ⟨i, 6, ex_w38 hP, by omega, rfl, ?_⟩)
    refine am_goX 2 (show 2 < 3 ∧ pz_S 3 none am_r79 0 Q 12 [(2, .int ((nI i) + Int32.ofInt 1)), (0, .ref 36), (1, .ref 17)] [] (am_wI (am_wI h 37 (i) (L i)) 38 (i) (Int32.ofInt 0)) from ⟨by decide, ?_⟩)
    rw [xw_i1]
    refine ih (i + 1) _ (by omega) hP (fun j hj1 => ?_) (fun j hj1 => by rw [em_wn _ _ (by omega), em_wn _ _ (by omega)]; exact hL j hj1) (fun h1 p1 p2 p3 p4 p5 => hQ h1 p1 p2 (fun o k hn => (p3 o k hn).trans (by rw [em_wn _ _ (by omega), em_wn _ _ (by omega)])) p4 p5)
    by_cases ej : j = i
    · rw [ej, em_wn _ _ (by omega), em_we, em_we]
      exact ⟨rfl, rfl⟩
    · rw [em_wn _ _ (by omega), em_wn _ _ (by omega), em_wn _ _ (by omega), em_wn _ _ (by omega)]
      exact hj j (by omega)
theorem c_79F_17 (hP : ex_P h) (hQ : ∀ h1, ex_P h1 → h1.2 = h.2 → (∀ o k, ¬ (36 ≤ o ∧ o ≤ 40) → h1.1 o k = h.1 o k) → bg_s 17 h h1 → Q none h1) : am_call am_cod 1 79 [.ref 36, .ref 17] h Q := by
  refine pz_call (n := 79) (nL := 3) (rt := none) (rows := am_r79) (d := 0) (by decide +kernel) (by decide +kernel) rfl (by funext pc; rfl) (ex_175 hP) (by exact Nat.le_of_ble_eq_true rfl) ?_
  refine am_goX 3 (show am_sh h 36 = some (6, 0) ∧ narrow (am_fty 6 0) (.int ((Int32.ofInt 0))) = .int ((Int32.ofInt 0)) ∧ fits (am_fty 6 0) (.int ((Int32.ofInt 0))) = true ∧ pz_S 3 none am_r79 0 Q 5 [(0, .ref 36), (1, .ref 17)] [] (am_wI h 36 0 ((Int32.ofInt 0))) from ⟨ex_36 hP, rfl, rfl, ?_⟩)
  refine am_goX 3 (show am_sh (am_wI h 36 0 ((Int32.ofInt 0))) 36 = some (6, 0) ∧ narrow (am_fty 6 1) (.int ((Int32.ofInt 0))) = .int ((Int32.ofInt 0)) ∧ fits (am_fty 6 1) (.int ((Int32.ofInt 0))) = true ∧ pz_S 3 none am_r79 0 Q 10 [(0, .ref 36), (1, .ref 17)] [] (am_wI (am_wI h 36 0 ((Int32.ofInt 0))) 36 1 ((Int32.ofInt 0))) from ⟨ex_36 hP, rfl, rfl, ?_⟩)
  refine am_goX 2 (show 2 < 3 ∧ pz_S 3 none am_r79 0 Q 12 [(2, .int (Int32.ofInt 0)), (0, .ref 36), (1, .ref 17)] [] (am_wI (am_wI h 36 0 ((Int32.ofInt 0))) 36 1 ((Int32.ofInt 0))) from ⟨by decide, ?_⟩)
  exact c_79Fa_17 (L := h.1 20) 6 0 _ rfl hP (fun j hj1 => absurd hj1 (Nat.not_lt_zero j)) (fun j _ => by rw [em_wn _ _ (by omega), em_wn _ _ (by omega)]) (fun h1 p1 p2 p3 p4 p5 => hQ h1 p1 p2 (fun o k hn => by rw [p3 o k (by omega), em_wn _ _ (by omega), em_wn _ _ (by omega)]) ⟨⟨by rw [p3 36 0 (by omega), em_wn _ _ (by omega), em_we]; rfl, by rw [p3 36 1 (by omega), em_we]; rfl⟩, p4, p5⟩)
theorem c_78F_17w28 (hP : ex_P h) (ht : h.2.2.1 0 3 = some 17) (hw : h.2.2.1 0 5 = some 28) (hQ : ∀ h1, ex_P h1 → bg_n 17 28 h h1 → Q none h1) : am_call am_cod 2 78 [.ref 0] h Q := by
  refine pz_call (n := 78) (nL := 2) (rt := none) (rows := am_r78) (d := 1) (by decide +kernel) (by decide +kernel) rfl (by funext pc; rfl) (ex_175 hP) (by exact Nat.le_of_ble_eq_true rfl) ?_
  refine am_goX 2 (show am_sh h 0 = some (10, 0) ∧ pz_S 2 none am_r78 1 Q 4 [(0, .ref 0)] [am_rf (h.2.2.1 0 7)] h from ⟨ex_0 hP, ?_⟩)
  rw [ex_r0_7 (h := h) hP]
  refine am_goX 2 (show am_sh h 0 = some (10, 0) ∧ pz_S 2 none am_r78 1 Q 8 [(0, .ref 0)] [am_rf (h.2.2.1 0 3), .ref 36] h from ⟨ex_0 hP, ?_⟩)
  rw [ht]
  refine am_goX 1 (show am_rc h 36 6 ∧ 0 ≤ 8 ∧ h.2.2.2.2 + am_al 79 ≤ 175 ∧ am_call am_cod 1 79 [.ref 36, .ref 17] h (fun vv h' => pz_S 2 none am_r78 1 Q 11 [(0, .ref 0)] (vv.toList ++ []) h') from ⟨Or.inl ⟨by decide, ex_36 hP⟩, by decide, ex_lim hP rfl, c_79F_17 hP (fun h1 hP1 hr1 hf1 hs1 => ?_)⟩)
  have hw1 : h1.2.2.1 0 5 = some 28 := by rw [hr1]; exact hw
  refine am_goX 2 (show am_sh h1 0 = some (10, 0) ∧ pz_S 2 none am_r78 1 Q 15 [(0, .ref 0)] [am_rf (h1.2.2.1 0 5)] h1 from ⟨ex_0 hP1, ?_⟩)
  rw [hw1]
  refine am_goX 2 (show am_sh h1 28 = some (8, 0) ∧ narrow (am_fty 8 3) (.int ((Int32.ofInt 0))) = .int ((Int32.ofInt 0)) ∧ fits (am_fty 8 3) (.int ((Int32.ofInt 0))) = true ∧ pz_S 2 none am_r78 1 Q 19 [(0, .ref 0)] [] (am_wI h1 28 3 ((Int32.ofInt 0))) from ⟨ex_28 hP1, rfl, rfl, ?_⟩)
  refine am_goX 2 (show am_sh (am_wI h1 28 3 ((Int32.ofInt 0))) 0 = some (10, 0) ∧ pz_S 2 none am_r78 1 Q 23 [(0, .ref 0)] [am_rf ((am_wI h1 28 3 ((Int32.ofInt 0))).2.2.1 0 10)] (am_wI h1 28 3 ((Int32.ofInt 0))) from ⟨ex_0 hP1, ?_⟩)
  rw [ex_r0_10 (h := am_wI h1 28 3 ((Int32.ofInt 0))) hP1]
  refine am_goX 2 (show am_sh (am_wI h1 28 3 ((Int32.ofInt 0))) 47 = some (2, 0) ∧ narrow (am_fty 2 2) (.int ((Int32.ofInt 0))) = .int ((Int32.ofInt 0)) ∧ fits (am_fty 2 2) (.int ((Int32.ofInt 0))) = true ∧ pz_S 2 none am_r78 1 Q 27 [(0, .ref 0)] [] (am_wI (am_wI h1 28 3 ((Int32.ofInt 0))) 47 2 ((Int32.ofInt 0))) from ⟨ex_47 hP1, rfl, rfl, ?_⟩)
  refine am_goX 3 (show am_sh (am_wI (am_wI h1 28 3 ((Int32.ofInt 0))) 47 2 ((Int32.ofInt 0))) 0 = some (10, 0) ∧ narrow (am_fty 10 12) (.int ((Int32.ofInt 0))) = .int ((Int32.ofInt 0)) ∧ fits (am_fty 10 12) (.int ((Int32.ofInt 0))) = true ∧ pz_S 2 none am_r78 1 Q 32 [(0, .ref 0)] [] (am_wI (am_wI (am_wI h1 28 3 ((Int32.ofInt 0))) 47 2 ((Int32.ofInt 0))) 0 12 ((Int32.ofInt 0))) from ⟨ex_0 hP1, rfl, rfl, ?_⟩)
  refine am_goX 3 (show am_sh (am_wI (am_wI (am_wI h1 28 3 ((Int32.ofInt 0))) 47 2 ((Int32.ofInt 0))) 0 12 ((Int32.ofInt 0))) 0 = some (10, 0) ∧ narrow (am_fty 10 13) (.int ((Int8.ofInt 31).toInt32)) = .int ((Int8.ofInt 31).toInt32) ∧ fits (am_fty 10 13) (.int ((Int8.ofInt 31).toInt32)) = true ∧ pz_S 2 none am_r78 1 Q 38 [(0, .ref 0)] [] (am_wI (am_wI (am_wI (am_wI h1 28 3 ((Int32.ofInt 0))) 47 2 ((Int32.ofInt 0))) 0 12 ((Int32.ofInt 0))) 0 13 ((Int8.ofInt 31).toInt32)) from ⟨ex_0 hP1, rfl, rfl, ?_⟩)
  refine am_goX 5 (show 1 < 2 ∧ ((Int32.ofInt 4) ≤ (Int32.ofInt 0) → pz_S 2 none am_r78 1 Q 61 [(1, .int (Int32.ofInt 0)), (0, .ref 0)] [] (am_wI (am_wI (am_wI (am_wI h1 28 3 ((Int32.ofInt 0))) 47 2 ((Int32.ofInt 0))) 0 12 ((Int32.ofInt 0))) 0 13 ((Int8.ofInt 31).toInt32))) ∧ (¬ ((Int32.ofInt 4) ≤ (Int32.ofInt 0)) → pz_S 2 none am_r78 1 Q 45 [(1, .int (Int32.ofInt 0)), (0, .ref 0)] [] (am_wI (am_wI (am_wI (am_wI h1 28 3 ((Int32.ofInt 0))) 47 2 ((Int32.ofInt 0))) 0 12 ((Int32.ofInt 0))) 0 13 ((Int8.ofInt 31).toInt32))) from ⟨by decide, fun hz => absurd hz (by decide), fun _ => ?_⟩)
  refine am_goX 2 (show am_sh (am_wI (am_wI (am_wI (am_wI h1 28 3 ((Int32.ofInt 0))) 47 2 ((Int32.ofInt 0))) 0 12 ((Int32.ofInt 0))) 0 13 ((Int8.ofInt 31).toInt32)) 0 = some (10, 0) ∧ pz_S 2 none am_r78 1 Q 49 [(1, .int (Int32.ofInt 0)), (0, .ref 0)] [am_rf ((am_wI (am_wI (am_wI (am_wI h1 28 3 ((Int32.ofInt 0))) 47 2 ((Int32.ofInt 0))) 0 12 ((Int32.ofInt 0))) 0 13 ((Int8.ofInt 31).toInt32)).2.2.1 0 11)] (am_wI (am_wI (am_wI (am_wI h1 28 3 ((Int32.ofInt 0))) 47 2 ((Int32.ofInt 0))) 0 12 ((Int32.ofInt 0))) 0 13 ((Int8.ofInt 31).toInt32)) from ⟨ex_0 hP1, ?_⟩)
  rw [ex_r0_11 (h := am_wI (am_wI (am_wI (am_wI h1 28 3 ((Int32.ofInt 0))) 47 2 ((Int32.ofInt 0))) 0 12 ((Int32.ofInt 0))) 0 13 ((Int8.ofInt 31).toInt32)) hP1]
  refine am_goX 2 (show ∃ jj nn : Nat, (am_sh (am_wI (am_wI (am_wI (am_wI h1 28 3 ((Int32.ofInt 0))) 47 2 ((Int32.ofInt 0))) 0 12 ((Int32.ofInt 0))) 0 13 ((Int8.ofInt 31).toInt32)) 129 = some (16, nn) ∨ am_sh (am_wI (am_wI (am_wI (am_wI h1 28 3 ((Int32.ofInt 0))) 47 2 ((Int32.ofInt 0))) 0 12 ((Int32.ofInt 0))) 0 13 ((Int8.ofInt 31).toInt32)) 129 = some (17, nn)) ∧ jj < nn ∧ (Int32.ofInt 0) = nI jj ∧ pz_S 2 none am_r78 1 Q 51 [(1, .int (Int32.ofInt 0)), (0, .ref 0)] [am_rf ((am_wI (am_wI (am_wI (am_wI h1 28 3 ((Int32.ofInt 0))) 47 2 ((Int32.ofInt 0))) 0 12 ((Int32.ofInt 0))) 0 13 ((Int8.ofInt 31).toInt32)).2.2.1 129 jj)] (am_wI (am_wI (am_wI (am_wI h1 28 3 ((Int32.ofInt 0))) 47 2 ((Int32.ofInt 0))) 0 12 ((Int32.ofInt 0))) 0 13 ((Int8.ofInt 31).toInt32)) from ⟨0, 4, Or.inl (ex_129 hP1), by decide, by decide, ?_⟩)
  rw [ex_r129_0 (h := am_wI (am_wI (am_wI (am_wI h1 28 3 ((Int32.ofInt 0))) 47 2 ((Int32.ofInt 0))) 0 12 ((Int32.ofInt 0))) 0 13 ((Int8.ofInt 31).toInt32)) hP1]
  refine am_goX 2 (show am_sh (am_wI (am_wI (am_wI (am_wI h1 28 3 ((Int32.ofInt 0))) 47 2 ((Int32.ofInt 0))) 0 12 ((Int32.ofInt 0))) 0 13 ((Int8.ofInt 31).toInt32)) 130 = some (5, 0) ∧ narrow (am_fty 5 0) (.int ((Int32.ofInt 0))) = .int ((Int32.ofInt 0)) ∧ fits (am_fty 5 0) (.int ((Int32.ofInt 0))) = true ∧ pz_S 2 none am_r78 1 Q 55 [(1, .int (Int32.ofInt 0)), (0, .ref 0)] [] (am_wI (am_wI (am_wI (am_wI (am_wI h1 28 3 ((Int32.ofInt 0))) 47 2 ((Int32.ofInt 0))) 0 12 ((Int32.ofInt 0))) 0 13 ((Int8.ofInt 31).toInt32)) 130 0 ((Int32.ofInt 0))) from ⟨ex_130 hP1, rfl, rfl, ?_⟩)
  refine am_goX 5 (show 1 < 2 ∧ ((Int32.ofInt 4) ≤ ((Int32.ofInt 0) + Int32.ofInt 1) → pz_S 2 none am_r78 1 Q 61 [(1, .int ((Int32.ofInt 0) + Int32.ofInt 1)), (0, .ref 0)] [] (am_wI (am_wI (am_wI (am_wI (am_wI h1 28 3 ((Int32.ofInt 0))) 47 2 ((Int32.ofInt 0))) 0 12 ((Int32.ofInt 0))) 0 13 ((Int8.ofInt 31).toInt32)) 130 0 ((Int32.ofInt 0)))) ∧ (¬ ((Int32.ofInt 4) ≤ ((Int32.ofInt 0) + Int32.ofInt 1)) → pz_S 2 none am_r78 1 Q 45 [(1, .int ((Int32.ofInt 0) + Int32.ofInt 1)), (0, .ref 0)] [] (am_wI (am_wI (am_wI (am_wI (am_wI h1 28 3 ((Int32.ofInt 0))) 47 2 ((Int32.ofInt 0))) 0 12 ((Int32.ofInt 0))) 0 13 ((Int8.ofInt 31).toInt32)) 130 0 ((Int32.ofInt 0)))) from ⟨by decide, fun hz => absurd hz (by decide), fun _ => ?_⟩)
  refine am_goX 2 (show am_sh (am_wI (am_wI (am_wI (am_wI (am_wI h1 28 3 ((Int32.ofInt 0))) 47 2 ((Int32.ofInt 0))) 0 12 ((Int32.ofInt 0))) 0 13 ((Int8.ofInt 31).toInt32)) 130 0 ((Int32.ofInt 0))) 0 = some (10, 0) ∧ pz_S 2 none am_r78 1 Q 49 [(1, .int ((Int32.ofInt 0) + Int32.ofInt 1)), (0, .ref 0)] [am_rf ((am_wI (am_wI (am_wI (am_wI (am_wI h1 28 3 ((Int32.ofInt 0))) 47 2 ((Int32.ofInt 0))) 0 12 ((Int32.ofInt 0))) 0 13 ((Int8.ofInt 31).toInt32)) 130 0 ((Int32.ofInt 0))).2.2.1 0 11)] (am_wI (am_wI (am_wI (am_wI (am_wI h1 28 3 ((Int32.ofInt 0))) 47 2 ((Int32.ofInt 0))) 0 12 ((Int32.ofInt 0))) 0 13 ((Int8.ofInt 31).toInt32)) 130 0 ((Int32.ofInt 0))) from ⟨ex_0 hP1, ?_⟩)
  rw [ex_r0_11 (h := am_wI (am_wI (am_wI (am_wI (am_wI h1 28 3 ((Int32.ofInt 0))) 47 2 ((Int32.ofInt 0))) 0 12 ((Int32.ofInt 0))) 0 13 ((Int8.ofInt 31).toInt32)) 130 0 ((Int32.ofInt 0))) hP1]
  refine am_goX 2 (show ∃ jj nn : Nat, (am_sh (am_wI (am_wI (am_wI (am_wI (am_wI h1 28 3 ((Int32.ofInt 0))) 47 2 ((Int32.ofInt 0))) 0 12 ((Int32.ofInt 0))) 0 13 ((Int8.ofInt 31).toInt32)) 130 0 ((Int32.ofInt 0))) 129 = some (16, nn) ∨ am_sh (am_wI (am_wI (am_wI (am_wI (am_wI h1 28 3 ((Int32.ofInt 0))) 47 2 ((Int32.ofInt 0))) 0 12 ((Int32.ofInt 0))) 0 13 ((Int8.ofInt 31).toInt32)) 130 0 ((Int32.ofInt 0))) 129 = some (17, nn)) ∧ jj < nn ∧ ((Int32.ofInt 0) + Int32.ofInt 1) = nI jj ∧ pz_S 2 none am_r78 1 Q 51 [(1, .int ((Int32.ofInt 0) + Int32.ofInt 1)), (0, .ref 0)] [am_rf ((am_wI (am_wI (am_wI (am_wI (am_wI h1 28 3 ((Int32.ofInt 0))) 47 2 ((Int32.ofInt 0))) 0 12 ((Int32.ofInt 0))) 0 13 ((Int8.ofInt 31).toInt32)) 130 0 ((Int32.ofInt 0))).2.2.1 129 jj)] (am_wI (am_wI (am_wI (am_wI (am_wI h1 28 3 ((Int32.ofInt 0))) 47 2 ((Int32.ofInt 0))) 0 12 ((Int32.ofInt 0))) 0 13 ((Int8.ofInt 31).toInt32)) 130 0 ((Int32.ofInt 0))) from ⟨1, 4, Or.inl (ex_129 hP1), by decide, by decide, ?_⟩)
  rw [ex_r129_1 (h := am_wI (am_wI (am_wI (am_wI (am_wI h1 28 3 ((Int32.ofInt 0))) 47 2 ((Int32.ofInt 0))) 0 12 ((Int32.ofInt 0))) 0 13 ((Int8.ofInt 31).toInt32)) 130 0 ((Int32.ofInt 0))) hP1]
  refine am_goX 2 (show am_sh (am_wI (am_wI (am_wI (am_wI (am_wI h1 28 3 ((Int32.ofInt 0))) 47 2 ((Int32.ofInt 0))) 0 12 ((Int32.ofInt 0))) 0 13 ((Int8.ofInt 31).toInt32)) 130 0 ((Int32.ofInt 0))) 136 = some (5, 0) ∧ narrow (am_fty 5 0) (.int ((Int32.ofInt 0))) = .int ((Int32.ofInt 0)) ∧ fits (am_fty 5 0) (.int ((Int32.ofInt 0))) = true ∧ pz_S 2 none am_r78 1 Q 55 [(1, .int ((Int32.ofInt 0) + Int32.ofInt 1)), (0, .ref 0)] [] (am_wI (am_wI (am_wI (am_wI (am_wI (am_wI h1 28 3 ((Int32.ofInt 0))) 47 2 ((Int32.ofInt 0))) 0 12 ((Int32.ofInt 0))) 0 13 ((Int8.ofInt 31).toInt32)) 130 0 ((Int32.ofInt 0))) 136 0 ((Int32.ofInt 0))) from ⟨ex_136 hP1, rfl, rfl, ?_⟩)
  refine am_goX 5 (show 1 < 2 ∧ ((Int32.ofInt 4) ≤ (((Int32.ofInt 0) + Int32.ofInt 1) + Int32.ofInt 1) → pz_S 2 none am_r78 1 Q 61 [(1, .int (((Int32.ofInt 0) + Int32.ofInt 1) + Int32.ofInt 1)), (0, .ref 0)] [] (am_wI (am_wI (am_wI (am_wI (am_wI (am_wI h1 28 3 ((Int32.ofInt 0))) 47 2 ((Int32.ofInt 0))) 0 12 ((Int32.ofInt 0))) 0 13 ((Int8.ofInt 31).toInt32)) 130 0 ((Int32.ofInt 0))) 136 0 ((Int32.ofInt 0)))) ∧ (¬ ((Int32.ofInt 4) ≤ (((Int32.ofInt 0) + Int32.ofInt 1) + Int32.ofInt 1)) → pz_S 2 none am_r78 1 Q 45 [(1, .int (((Int32.ofInt 0) + Int32.ofInt 1) + Int32.ofInt 1)), (0, .ref 0)] [] (am_wI (am_wI (am_wI (am_wI (am_wI (am_wI h1 28 3 ((Int32.ofInt 0))) 47 2 ((Int32.ofInt 0))) 0 12 ((Int32.ofInt 0))) 0 13 ((Int8.ofInt 31).toInt32)) 130 0 ((Int32.ofInt 0))) 136 0 ((Int32.ofInt 0)))) from ⟨by decide, fun hz => absurd hz (by decide), fun _ => ?_⟩)
  refine am_goX 2 (show am_sh (am_wI (am_wI (am_wI (am_wI (am_wI (am_wI h1 28 3 ((Int32.ofInt 0))) 47 2 ((Int32.ofInt 0))) 0 12 ((Int32.ofInt 0))) 0 13 ((Int8.ofInt 31).toInt32)) 130 0 ((Int32.ofInt 0))) 136 0 ((Int32.ofInt 0))) 0 = some (10, 0) ∧ pz_S 2 none am_r78 1 Q 49 [(1, .int (((Int32.ofInt 0) + Int32.ofInt 1) + Int32.ofInt 1)), (0, .ref 0)] [am_rf ((am_wI (am_wI (am_wI (am_wI (am_wI (am_wI h1 28 3 ((Int32.ofInt 0))) 47 2 ((Int32.ofInt 0))) 0 12 ((Int32.ofInt 0))) 0 13 ((Int8.ofInt 31).toInt32)) 130 0 ((Int32.ofInt 0))) 136 0 ((Int32.ofInt 0))).2.2.1 0 11)] (am_wI (am_wI (am_wI (am_wI (am_wI (am_wI h1 28 3 ((Int32.ofInt 0))) 47 2 ((Int32.ofInt 0))) 0 12 ((Int32.ofInt 0))) 0 13 ((Int8.ofInt 31).toInt32)) 130 0 ((Int32.ofInt 0))) 136 0 ((Int32.ofInt 0))) from ⟨ex_0 hP1, ?_⟩)
  rw [ex_r0_11 (h := am_wI (am_wI (am_wI (am_wI (am_wI (am_wI h1 28 3 ((Int32.ofInt 0))) 47 2 ((Int32.ofInt 0))) 0 12 ((Int32.ofInt 0))) 0 13 ((Int8.ofInt 31).toInt32)) 130 0 ((Int32.ofInt 0))) 136 0 ((Int32.ofInt 0))) hP1]
  refine am_goX 2 (show ∃ jj nn : Nat, (am_sh (am_wI (am_wI (am_wI (am_wI (am_wI (am_wI h1 28 3 ((Int32.ofInt 0))) 47 2 ((Int32.ofInt 0))) 0 12 ((Int32.ofInt 0))) 0 13 ((Int8.ofInt 31).toInt32)) 130 0 ((Int32.ofInt 0))) 136 0 ((Int32.ofInt 0))) 129 = some (16, nn) ∨ am_sh (am_wI (am_wI (am_wI (am_wI (am_wI (am_wI h1 28 3 ((Int32.ofInt 0))) 47 2 ((Int32.ofInt 0))) 0 12 ((Int32.ofInt 0))) 0 13 ((Int8.ofInt 31).toInt32)) 130 0 ((Int32.ofInt 0))) 136 0 ((Int32.ofInt 0))) 129 = some (17, nn)) ∧ jj < nn ∧ (((Int32.ofInt 0) + Int32.ofInt 1) + Int32.ofInt 1) = nI jj ∧ pz_S 2 none am_r78 1 Q 51 [(1, .int (((Int32.ofInt 0) + Int32.ofInt 1) + Int32.ofInt 1)), (0, .ref 0)] [am_rf ((am_wI (am_wI (am_wI (am_wI (am_wI (am_wI h1 28 3 ((Int32.ofInt 0))) 47 2 ((Int32.ofInt 0))) 0 12 ((Int32.ofInt 0))) 0 13 ((Int8.ofInt 31).toInt32)) 130 0 ((Int32.ofInt 0))) 136 0 ((Int32.ofInt 0))).2.2.1 129 jj)] (am_wI (am_wI (am_wI (am_wI (am_wI (am_wI h1 28 3 ((Int32.ofInt 0))) 47 2 ((Int32.ofInt 0))) 0 12 ((Int32.ofInt 0))) 0 13 ((Int8.ofInt 31).toInt32)) 130 0 ((Int32.ofInt 0))) 136 0 ((Int32.ofInt 0))) from ⟨2, 4, Or.inl (ex_129 hP1), by decide, by decide, ?_⟩)
  rw [ex_r129_2 (h := am_wI (am_wI (am_wI (am_wI (am_wI (am_wI h1 28 3 ((Int32.ofInt 0))) 47 2 ((Int32.ofInt 0))) 0 12 ((Int32.ofInt 0))) 0 13 ((Int8.ofInt 31).toInt32)) 130 0 ((Int32.ofInt 0))) 136 0 ((Int32.ofInt 0))) hP1]
  refine am_goX 2 (show am_sh (am_wI (am_wI (am_wI (am_wI (am_wI (am_wI h1 28 3 ((Int32.ofInt 0))) 47 2 ((Int32.ofInt 0))) 0 12 ((Int32.ofInt 0))) 0 13 ((Int8.ofInt 31).toInt32)) 130 0 ((Int32.ofInt 0))) 136 0 ((Int32.ofInt 0))) 142 = some (5, 0) ∧ narrow (am_fty 5 0) (.int ((Int32.ofInt 0))) = .int ((Int32.ofInt 0)) ∧ fits (am_fty 5 0) (.int ((Int32.ofInt 0))) = true ∧ pz_S 2 none am_r78 1 Q 55 [(1, .int (((Int32.ofInt 0) + Int32.ofInt 1) + Int32.ofInt 1)), (0, .ref 0)] [] (am_wI (am_wI (am_wI (am_wI (am_wI (am_wI (am_wI h1 28 3 ((Int32.ofInt 0))) 47 2 ((Int32.ofInt 0))) 0 12 ((Int32.ofInt 0))) 0 13 ((Int8.ofInt 31).toInt32)) 130 0 ((Int32.ofInt 0))) 136 0 ((Int32.ofInt 0))) 142 0 ((Int32.ofInt 0))) from ⟨ex_142 hP1, rfl, rfl, ?_⟩)
  refine am_goX 5 (show 1 < 2 ∧ ((Int32.ofInt 4) ≤ ((((Int32.ofInt 0) + Int32.ofInt 1) + Int32.ofInt 1) + Int32.ofInt 1) → pz_S 2 none am_r78 1 Q 61 [(1, .int ((((Int32.ofInt 0) + Int32.ofInt 1) + Int32.ofInt 1) + Int32.ofInt 1)), (0, .ref 0)] [] (am_wI (am_wI (am_wI (am_wI (am_wI (am_wI (am_wI h1 28 3 ((Int32.ofInt 0))) 47 2 ((Int32.ofInt 0))) 0 12 ((Int32.ofInt 0))) 0 13 ((Int8.ofInt 31).toInt32)) 130 0 ((Int32.ofInt 0))) 136 0 ((Int32.ofInt 0))) 142 0 ((Int32.ofInt 0)))) ∧ (¬ ((Int32.ofInt 4) ≤ ((((Int32.ofInt 0) + Int32.ofInt 1) + Int32.ofInt 1) + Int32.ofInt 1)) → pz_S 2 none am_r78 1 Q 45 [(1, .int ((((Int32.ofInt 0) + Int32.ofInt 1) + Int32.ofInt 1) + Int32.ofInt 1)), (0, .ref 0)] [] (am_wI (am_wI (am_wI (am_wI (am_wI (am_wI (am_wI h1 28 3 ((Int32.ofInt 0))) 47 2 ((Int32.ofInt 0))) 0 12 ((Int32.ofInt 0))) 0 13 ((Int8.ofInt 31).toInt32)) 130 0 ((Int32.ofInt 0))) 136 0 ((Int32.ofInt 0))) 142 0 ((Int32.ofInt 0)))) from ⟨by decide, fun hz => absurd hz (by decide), fun _ => ?_⟩)
  refine am_goX 2 (show am_sh (am_wI (am_wI (am_wI (am_wI (am_wI (am_wI (am_wI h1 28 3 ((Int32.ofInt 0))) 47 2 ((Int32.ofInt 0))) 0 12 ((Int32.ofInt 0))) 0 13 ((Int8.ofInt 31).toInt32)) 130 0 ((Int32.ofInt 0))) 136 0 ((Int32.ofInt 0))) 142 0 ((Int32.ofInt 0))) 0 = some (10, 0) ∧ pz_S 2 none am_r78 1 Q 49 [(1, .int ((((Int32.ofInt 0) + Int32.ofInt 1) + Int32.ofInt 1) + Int32.ofInt 1)), (0, .ref 0)] [am_rf ((am_wI (am_wI (am_wI (am_wI (am_wI (am_wI (am_wI h1 28 3 ((Int32.ofInt 0))) 47 2 ((Int32.ofInt 0))) 0 12 ((Int32.ofInt 0))) 0 13 ((Int8.ofInt 31).toInt32)) 130 0 ((Int32.ofInt 0))) 136 0 ((Int32.ofInt 0))) 142 0 ((Int32.ofInt 0))).2.2.1 0 11)] (am_wI (am_wI (am_wI (am_wI (am_wI (am_wI (am_wI h1 28 3 ((Int32.ofInt 0))) 47 2 ((Int32.ofInt 0))) 0 12 ((Int32.ofInt 0))) 0 13 ((Int8.ofInt 31).toInt32)) 130 0 ((Int32.ofInt 0))) 136 0 ((Int32.ofInt 0))) 142 0 ((Int32.ofInt 0))) from ⟨ex_0 hP1, ?_⟩)
  rw [ex_r0_11 (h := am_wI (am_wI (am_wI (am_wI (am_wI (am_wI (am_wI h1 28 3 ((Int32.ofInt 0))) 47 2 ((Int32.ofInt 0))) 0 12 ((Int32.ofInt 0))) 0 13 ((Int8.ofInt 31).toInt32)) 130 0 ((Int32.ofInt 0))) 136 0 ((Int32.ofInt 0))) 142 0 ((Int32.ofInt 0))) hP1]
  refine am_goX 2 (show ∃ jj nn : Nat, (am_sh (am_wI (am_wI (am_wI (am_wI (am_wI (am_wI (am_wI h1 28 3 ((Int32.ofInt 0))) 47 2 ((Int32.ofInt 0))) 0 12 ((Int32.ofInt 0))) 0 13 ((Int8.ofInt 31).toInt32)) 130 0 ((Int32.ofInt 0))) 136 0 ((Int32.ofInt 0))) 142 0 ((Int32.ofInt 0))) 129 = some (16, nn) ∨ am_sh (am_wI (am_wI (am_wI (am_wI (am_wI (am_wI (am_wI h1 28 3 ((Int32.ofInt 0))) 47 2 ((Int32.ofInt 0))) 0 12 ((Int32.ofInt 0))) 0 13 ((Int8.ofInt 31).toInt32)) 130 0 ((Int32.ofInt 0))) 136 0 ((Int32.ofInt 0))) 142 0 ((Int32.ofInt 0))) 129 = some (17, nn)) ∧ jj < nn ∧ ((((Int32.ofInt 0) + Int32.ofInt 1) + Int32.ofInt 1) + Int32.ofInt 1) = nI jj ∧ pz_S 2 none am_r78 1 Q 51 [(1, .int ((((Int32.ofInt 0) + Int32.ofInt 1) + Int32.ofInt 1) + Int32.ofInt 1)), (0, .ref 0)] [am_rf ((am_wI (am_wI (am_wI (am_wI (am_wI (am_wI (am_wI h1 28 3 ((Int32.ofInt 0))) 47 2 ((Int32.ofInt 0))) 0 12 ((Int32.ofInt 0))) 0 13 ((Int8.ofInt 31).toInt32)) 130 0 ((Int32.ofInt 0))) 136 0 ((Int32.ofInt 0))) 142 0 ((Int32.ofInt 0))).2.2.1 129 jj)] (am_wI (am_wI (am_wI (am_wI (am_wI (am_wI (am_wI h1 28 3 ((Int32.ofInt 0))) 47 2 ((Int32.ofInt 0))) 0 12 ((Int32.ofInt 0))) 0 13 ((Int8.ofInt 31).toInt32)) 130 0 ((Int32.ofInt 0))) 136 0 ((Int32.ofInt 0))) 142 0 ((Int32.ofInt 0))) from ⟨3, 4, Or.inl (ex_129 hP1), by decide, by decide, ?_⟩)
  rw [ex_r129_3 (h := am_wI (am_wI (am_wI (am_wI (am_wI (am_wI (am_wI h1 28 3 ((Int32.ofInt 0))) 47 2 ((Int32.ofInt 0))) 0 12 ((Int32.ofInt 0))) 0 13 ((Int8.ofInt 31).toInt32)) 130 0 ((Int32.ofInt 0))) 136 0 ((Int32.ofInt 0))) 142 0 ((Int32.ofInt 0))) hP1]
  refine am_goX 2 (show am_sh (am_wI (am_wI (am_wI (am_wI (am_wI (am_wI (am_wI h1 28 3 ((Int32.ofInt 0))) 47 2 ((Int32.ofInt 0))) 0 12 ((Int32.ofInt 0))) 0 13 ((Int8.ofInt 31).toInt32)) 130 0 ((Int32.ofInt 0))) 136 0 ((Int32.ofInt 0))) 142 0 ((Int32.ofInt 0))) 148 = some (5, 0) ∧ narrow (am_fty 5 0) (.int ((Int32.ofInt 0))) = .int ((Int32.ofInt 0)) ∧ fits (am_fty 5 0) (.int ((Int32.ofInt 0))) = true ∧ pz_S 2 none am_r78 1 Q 55 [(1, .int ((((Int32.ofInt 0) + Int32.ofInt 1) + Int32.ofInt 1) + Int32.ofInt 1)), (0, .ref 0)] [] (am_wI (am_wI (am_wI (am_wI (am_wI (am_wI (am_wI (am_wI h1 28 3 ((Int32.ofInt 0))) 47 2 ((Int32.ofInt 0))) 0 12 ((Int32.ofInt 0))) 0 13 ((Int8.ofInt 31).toInt32)) 130 0 ((Int32.ofInt 0))) 136 0 ((Int32.ofInt 0))) 142 0 ((Int32.ofInt 0))) 148 0 ((Int32.ofInt 0))) from ⟨ex_148 hP1, rfl, rfl, ?_⟩)
  refine am_goX 5 (show 1 < 2 ∧ ((Int32.ofInt 4) ≤ (((((Int32.ofInt 0) + Int32.ofInt 1) + Int32.ofInt 1) + Int32.ofInt 1) + Int32.ofInt 1) → pz_S 2 none am_r78 1 Q 61 [(1, .int (((((Int32.ofInt 0) + Int32.ofInt 1) + Int32.ofInt 1) + Int32.ofInt 1) + Int32.ofInt 1)), (0, .ref 0)] [] (am_wI (am_wI (am_wI (am_wI (am_wI (am_wI (am_wI (am_wI h1 28 3 ((Int32.ofInt 0))) 47 2 ((Int32.ofInt 0))) 0 12 ((Int32.ofInt 0))) 0 13 ((Int8.ofInt 31).toInt32)) 130 0 ((Int32.ofInt 0))) 136 0 ((Int32.ofInt 0))) 142 0 ((Int32.ofInt 0))) 148 0 ((Int32.ofInt 0)))) ∧ (¬ ((Int32.ofInt 4) ≤ (((((Int32.ofInt 0) + Int32.ofInt 1) + Int32.ofInt 1) + Int32.ofInt 1) + Int32.ofInt 1)) → pz_S 2 none am_r78 1 Q 45 [(1, .int (((((Int32.ofInt 0) + Int32.ofInt 1) + Int32.ofInt 1) + Int32.ofInt 1) + Int32.ofInt 1)), (0, .ref 0)] [] (am_wI (am_wI (am_wI (am_wI (am_wI (am_wI (am_wI (am_wI h1 28 3 ((Int32.ofInt 0))) 47 2 ((Int32.ofInt 0))) 0 12 ((Int32.ofInt 0))) 0 13 ((Int8.ofInt 31).toInt32)) 130 0 ((Int32.ofInt 0))) 136 0 ((Int32.ofInt 0))) 142 0 ((Int32.ofInt 0))) 148 0 ((Int32.ofInt 0)))) from ⟨by decide, fun _ => ?_, fun hz => absurd (by decide) hz⟩)
  refine am_goX 1 (show (none : Option FieldType) = none ∧ (am_wI (am_wI (am_wI (am_wI (am_wI (am_wI (am_wI (am_wI h1 28 3 ((Int32.ofInt 0))) 47 2 ((Int32.ofInt 0))) 0 12 ((Int32.ofInt 0))) 0 13 ((Int8.ofInt 31).toInt32)) 130 0 ((Int32.ofInt 0))) 136 0 ((Int32.ofInt 0))) 142 0 ((Int32.ofInt 0))) 148 0 ((Int32.ofInt 0))).2.2.2.2 = 175 ∧ _ from ⟨rfl, ex_175 hP1, hQ _ hP1 ⟨hr1, fun o k hn => ?_, ⟨⟨?_, ?_⟩, fun i hi => ⟨?_, ?_⟩, fun i hi => ⟨?_, ?_⟩⟩, ⟨(by rw [em_wn _ _ (by omega), em_wn _ _ (by omega), em_wn _ _ (by omega), em_wn _ _ (by omega), em_wn _ _ (by omega), em_wn _ _ (by omega), em_wn _ _ (by omega), em_we]; rfl), (by rw [em_wn _ _ (by omega), em_wn _ _ (by omega), em_wn _ _ (by omega), em_wn _ _ (by omega), em_wn _ _ (by omega), em_wn _ _ (by omega), em_we]; rfl), (by rw [em_wn _ _ (by omega), em_wn _ _ (by omega), em_wn _ _ (by omega), em_wn _ _ (by omega), em_wn _ _ (by omega), em_we]; rfl), (by rw [em_wn _ _ (by omega), em_wn _ _ (by omega), em_wn _ _ (by omega), em_wn _ _ (by omega), em_we]; rfl)⟩, ⟨(by rw [em_wn _ _ (by omega), em_wn _ _ (by omega), em_wn _ _ (by omega), em_we]; rfl), (by rw [em_wn _ _ (by omega), em_wn _ _ (by omega), em_we]; rfl), (by rw [em_wn _ _ (by omega), em_we]; rfl), (by rw [em_we]; rfl)⟩⟩⟩)
  · unfold bg_w at hn
    rw [em_wn _ _ (by omega), em_wn _ _ (by omega), em_wn _ _ (by omega), em_wn _ _ (by omega), em_wn _ _ (by omega), em_wn _ _ (by omega), em_wn _ _ (by omega), em_wn _ _ (by omega)]
    exact hf1 o k (by omega)
  · rw [em_wn _ _ (by omega), em_wn _ _ (by omega), em_wn _ _ (by omega), em_wn _ _ (by omega), em_wn _ _ (by omega), em_wn _ _ (by omega), em_wn _ _ (by omega), em_wn _ _ (by omega)]
    exact hs1.1.1
  · rw [em_wn _ _ (by omega), em_wn _ _ (by omega), em_wn _ _ (by omega), em_wn _ _ (by omega), em_wn _ _ (by omega), em_wn _ _ (by omega), em_wn _ _ (by omega), em_wn _ _ (by omega)]
    exact hs1.1.2
  · rw [em_wn _ _ (by omega), em_wn _ _ (by omega), em_wn _ _ (by omega), em_wn _ _ (by omega), em_wn _ _ (by omega), em_wn _ _ (by omega), em_wn _ _ (by omega), em_wn _ _ (by omega)]
    exact (hs1.2.1 i hi).1
  · rw [em_wn _ _ (by omega), em_wn _ _ (by omega), em_wn _ _ (by omega), em_wn _ _ (by omega), em_wn _ _ (by omega), em_wn _ _ (by omega), em_wn _ _ (by omega), em_wn _ _ (by omega)]
    exact (hs1.2.1 i hi).2
  · rw [em_wn _ _ (by omega), em_wn _ _ (by omega), em_wn _ _ (by omega), em_wn _ _ (by omega), em_wn _ _ (by omega), em_wn _ _ (by omega), em_wn _ _ (by omega), em_wn _ _ (by omega)]
    exact (hs1.2.2 i hi).1
  · rw [em_wn _ _ (by omega), em_wn _ _ (by omega), em_wn _ _ (by omega), em_wn _ _ (by omega), em_wn _ _ (by omega), em_wn _ _ (by omega), em_wn _ _ (by omega), em_wn _ _ (by omega)]
    exact (hs1.2.2 i hi).2
theorem c_78F_17w32 (hP : ex_P h) (ht : h.2.2.1 0 3 = some 17) (hw : h.2.2.1 0 5 = some 32) (hQ : ∀ h1, ex_P h1 → bg_n 17 32 h h1 → Q none h1) : am_call am_cod 2 78 [.ref 0] h Q := by
  refine pz_call (n := 78) (nL := 2) (rt := none) (rows := am_r78) (d := 1) (by decide +kernel) (by decide +kernel) rfl (by funext pc; rfl) (ex_175 hP) (by exact Nat.le_of_ble_eq_true rfl) ?_
  refine am_goX 2 (show am_sh h 0 = some (10, 0) ∧ pz_S 2 none am_r78 1 Q 4 [(0, .ref 0)] [am_rf (h.2.2.1 0 7)] h from ⟨ex_0 hP, ?_⟩)
  rw [ex_r0_7 (h := h) hP]
  refine am_goX 2 (show am_sh h 0 = some (10, 0) ∧ pz_S 2 none am_r78 1 Q 8 [(0, .ref 0)] [am_rf (h.2.2.1 0 3), .ref 36] h from ⟨ex_0 hP, ?_⟩)
  rw [ht]
  refine am_goX 1 (show am_rc h 36 6 ∧ 0 ≤ 8 ∧ h.2.2.2.2 + am_al 79 ≤ 175 ∧ am_call am_cod 1 79 [.ref 36, .ref 17] h (fun vv h' => pz_S 2 none am_r78 1 Q 11 [(0, .ref 0)] (vv.toList ++ []) h') from ⟨Or.inl ⟨by decide, ex_36 hP⟩, by decide, ex_lim hP rfl, c_79F_17 hP (fun h1 hP1 hr1 hf1 hs1 => ?_)⟩)
  have hw1 : h1.2.2.1 0 5 = some 32 := by rw [hr1]; exact hw
  refine am_goX 2 (show am_sh h1 0 = some (10, 0) ∧ pz_S 2 none am_r78 1 Q 15 [(0, .ref 0)] [am_rf (h1.2.2.1 0 5)] h1 from ⟨ex_0 hP1, ?_⟩)
  rw [hw1]
  refine am_goX 2 (show am_sh h1 32 = some (8, 0) ∧ narrow (am_fty 8 3) (.int ((Int32.ofInt 0))) = .int ((Int32.ofInt 0)) ∧ fits (am_fty 8 3) (.int ((Int32.ofInt 0))) = true ∧ pz_S 2 none am_r78 1 Q 19 [(0, .ref 0)] [] (am_wI h1 32 3 ((Int32.ofInt 0))) from ⟨ex_32 hP1, rfl, rfl, ?_⟩)
  refine am_goX 2 (show am_sh (am_wI h1 32 3 ((Int32.ofInt 0))) 0 = some (10, 0) ∧ pz_S 2 none am_r78 1 Q 23 [(0, .ref 0)] [am_rf ((am_wI h1 32 3 ((Int32.ofInt 0))).2.2.1 0 10)] (am_wI h1 32 3 ((Int32.ofInt 0))) from ⟨ex_0 hP1, ?_⟩)
  rw [ex_r0_10 (h := am_wI h1 32 3 ((Int32.ofInt 0))) hP1]
  refine am_goX 2 (show am_sh (am_wI h1 32 3 ((Int32.ofInt 0))) 47 = some (2, 0) ∧ narrow (am_fty 2 2) (.int ((Int32.ofInt 0))) = .int ((Int32.ofInt 0)) ∧ fits (am_fty 2 2) (.int ((Int32.ofInt 0))) = true ∧ pz_S 2 none am_r78 1 Q 27 [(0, .ref 0)] [] (am_wI (am_wI h1 32 3 ((Int32.ofInt 0))) 47 2 ((Int32.ofInt 0))) from ⟨ex_47 hP1, rfl, rfl, ?_⟩)
  refine am_goX 3 (show am_sh (am_wI (am_wI h1 32 3 ((Int32.ofInt 0))) 47 2 ((Int32.ofInt 0))) 0 = some (10, 0) ∧ narrow (am_fty 10 12) (.int ((Int32.ofInt 0))) = .int ((Int32.ofInt 0)) ∧ fits (am_fty 10 12) (.int ((Int32.ofInt 0))) = true ∧ pz_S 2 none am_r78 1 Q 32 [(0, .ref 0)] [] (am_wI (am_wI (am_wI h1 32 3 ((Int32.ofInt 0))) 47 2 ((Int32.ofInt 0))) 0 12 ((Int32.ofInt 0))) from ⟨ex_0 hP1, rfl, rfl, ?_⟩)
  refine am_goX 3 (show am_sh (am_wI (am_wI (am_wI h1 32 3 ((Int32.ofInt 0))) 47 2 ((Int32.ofInt 0))) 0 12 ((Int32.ofInt 0))) 0 = some (10, 0) ∧ narrow (am_fty 10 13) (.int ((Int8.ofInt 31).toInt32)) = .int ((Int8.ofInt 31).toInt32) ∧ fits (am_fty 10 13) (.int ((Int8.ofInt 31).toInt32)) = true ∧ pz_S 2 none am_r78 1 Q 38 [(0, .ref 0)] [] (am_wI (am_wI (am_wI (am_wI h1 32 3 ((Int32.ofInt 0))) 47 2 ((Int32.ofInt 0))) 0 12 ((Int32.ofInt 0))) 0 13 ((Int8.ofInt 31).toInt32)) from ⟨ex_0 hP1, rfl, rfl, ?_⟩)
  refine am_goX 5 (show 1 < 2 ∧ ((Int32.ofInt 4) ≤ (Int32.ofInt 0) → pz_S 2 none am_r78 1 Q 61 [(1, .int (Int32.ofInt 0)), (0, .ref 0)] [] (am_wI (am_wI (am_wI (am_wI h1 32 3 ((Int32.ofInt 0))) 47 2 ((Int32.ofInt 0))) 0 12 ((Int32.ofInt 0))) 0 13 ((Int8.ofInt 31).toInt32))) ∧ (¬ ((Int32.ofInt 4) ≤ (Int32.ofInt 0)) → pz_S 2 none am_r78 1 Q 45 [(1, .int (Int32.ofInt 0)), (0, .ref 0)] [] (am_wI (am_wI (am_wI (am_wI h1 32 3 ((Int32.ofInt 0))) 47 2 ((Int32.ofInt 0))) 0 12 ((Int32.ofInt 0))) 0 13 ((Int8.ofInt 31).toInt32))) from ⟨by decide, fun hz => absurd hz (by decide), fun _ => ?_⟩)
  refine am_goX 2 (show am_sh (am_wI (am_wI (am_wI (am_wI h1 32 3 ((Int32.ofInt 0))) 47 2 ((Int32.ofInt 0))) 0 12 ((Int32.ofInt 0))) 0 13 ((Int8.ofInt 31).toInt32)) 0 = some (10, 0) ∧ pz_S 2 none am_r78 1 Q 49 [(1, .int (Int32.ofInt 0)), (0, .ref 0)] [am_rf ((am_wI (am_wI (am_wI (am_wI h1 32 3 ((Int32.ofInt 0))) 47 2 ((Int32.ofInt 0))) 0 12 ((Int32.ofInt 0))) 0 13 ((Int8.ofInt 31).toInt32)).2.2.1 0 11)] (am_wI (am_wI (am_wI (am_wI h1 32 3 ((Int32.ofInt 0))) 47 2 ((Int32.ofInt 0))) 0 12 ((Int32.ofInt 0))) 0 13 ((Int8.ofInt 31).toInt32)) from ⟨ex_0 hP1, ?_⟩)
  rw [ex_r0_11 (h := am_wI (am_wI (am_wI (am_wI h1 32 3 ((Int32.ofInt 0))) 47 2 ((Int32.ofInt 0))) 0 12 ((Int32.ofInt 0))) 0 13 ((Int8.ofInt 31).toInt32)) hP1]
  refine am_goX 2 (show ∃ jj nn : Nat, (am_sh (am_wI (am_wI (am_wI (am_wI h1 32 3 ((Int32.ofInt 0))) 47 2 ((Int32.ofInt 0))) 0 12 ((Int32.ofInt 0))) 0 13 ((Int8.ofInt 31).toInt32)) 129 = some (16, nn) ∨ am_sh (am_wI (am_wI (am_wI (am_wI h1 32 3 ((Int32.ofInt 0))) 47 2 ((Int32.ofInt 0))) 0 12 ((Int32.ofInt 0))) 0 13 ((Int8.ofInt 31).toInt32)) 129 = some (17, nn)) ∧ jj < nn ∧ (Int32.ofInt 0) = nI jj ∧ pz_S 2 none am_r78 1 Q 51 [(1, .int (Int32.ofInt 0)), (0, .ref 0)] [am_rf ((am_wI (am_wI (am_wI (am_wI h1 32 3 ((Int32.ofInt 0))) 47 2 ((Int32.ofInt 0))) 0 12 ((Int32.ofInt 0))) 0 13 ((Int8.ofInt 31).toInt32)).2.2.1 129 jj)] (am_wI (am_wI (am_wI (am_wI h1 32 3 ((Int32.ofInt 0))) 47 2 ((Int32.ofInt 0))) 0 12 ((Int32.ofInt 0))) 0 13 ((Int8.ofInt 31).toInt32)) from ⟨0, 4, Or.inl (ex_129 hP1), by decide, by decide, ?_⟩)
  rw [ex_r129_0 (h := am_wI (am_wI (am_wI (am_wI h1 32 3 ((Int32.ofInt 0))) 47 2 ((Int32.ofInt 0))) 0 12 ((Int32.ofInt 0))) 0 13 ((Int8.ofInt 31).toInt32)) hP1]
  refine am_goX 2 (show am_sh (am_wI (am_wI (am_wI (am_wI h1 32 3 ((Int32.ofInt 0))) 47 2 ((Int32.ofInt 0))) 0 12 ((Int32.ofInt 0))) 0 13 ((Int8.ofInt 31).toInt32)) 130 = some (5, 0) ∧ narrow (am_fty 5 0) (.int ((Int32.ofInt 0))) = .int ((Int32.ofInt 0)) ∧ fits (am_fty 5 0) (.int ((Int32.ofInt 0))) = true ∧ pz_S 2 none am_r78 1 Q 55 [(1, .int (Int32.ofInt 0)), (0, .ref 0)] [] (am_wI (am_wI (am_wI (am_wI (am_wI h1 32 3 ((Int32.ofInt 0))) 47 2 ((Int32.ofInt 0))) 0 12 ((Int32.ofInt 0))) 0 13 ((Int8.ofInt 31).toInt32)) 130 0 ((Int32.ofInt 0))) from ⟨ex_130 hP1, rfl, rfl, ?_⟩)
  refine am_goX 5 (show 1 < 2 ∧ ((Int32.ofInt 4) ≤ ((Int32.ofInt 0) + Int32.ofInt 1) → pz_S 2 none am_r78 1 Q 61 [(1, .int ((Int32.ofInt 0) + Int32.ofInt 1)), (0, .ref 0)] [] (am_wI (am_wI (am_wI (am_wI (am_wI h1 32 3 ((Int32.ofInt 0))) 47 2 ((Int32.ofInt 0))) 0 12 ((Int32.ofInt 0))) 0 13 ((Int8.ofInt 31).toInt32)) 130 0 ((Int32.ofInt 0)))) ∧ (¬ ((Int32.ofInt 4) ≤ ((Int32.ofInt 0) + Int32.ofInt 1)) → pz_S 2 none am_r78 1 Q 45 [(1, .int ((Int32.ofInt 0) + Int32.ofInt 1)), (0, .ref 0)] [] (am_wI (am_wI (am_wI (am_wI (am_wI h1 32 3 ((Int32.ofInt 0))) 47 2 ((Int32.ofInt 0))) 0 12 ((Int32.ofInt 0))) 0 13 ((Int8.ofInt 31).toInt32)) 130 0 ((Int32.ofInt 0)))) from ⟨by decide, fun hz => absurd hz (by decide), fun _ => ?_⟩)
  refine am_goX 2 (show am_sh (am_wI (am_wI (am_wI (am_wI (am_wI h1 32 3 ((Int32.ofInt 0))) 47 2 ((Int32.ofInt 0))) 0 12 ((Int32.ofInt 0))) 0 13 ((Int8.ofInt 31).toInt32)) 130 0 ((Int32.ofInt 0))) 0 = some (10, 0) ∧ pz_S 2 none am_r78 1 Q 49 [(1, .int ((Int32.ofInt 0) + Int32.ofInt 1)), (0, .ref 0)] [am_rf ((am_wI (am_wI (am_wI (am_wI (am_wI h1 32 3 ((Int32.ofInt 0))) 47 2 ((Int32.ofInt 0))) 0 12 ((Int32.ofInt 0))) 0 13 ((Int8.ofInt 31).toInt32)) 130 0 ((Int32.ofInt 0))).2.2.1 0 11)] (am_wI (am_wI (am_wI (am_wI (am_wI h1 32 3 ((Int32.ofInt 0))) 47 2 ((Int32.ofInt 0))) 0 12 ((Int32.ofInt 0))) 0 13 ((Int8.ofInt 31).toInt32)) 130 0 ((Int32.ofInt 0))) from ⟨ex_0 hP1, ?_⟩)
  rw [ex_r0_11 (h := am_wI (am_wI (am_wI (am_wI (am_wI h1 32 3 ((Int32.ofInt 0))) 47 2 ((Int32.ofInt 0))) 0 12 ((Int32.ofInt 0))) 0 13 ((Int8.ofInt 31).toInt32)) 130 0 ((Int32.ofInt 0))) hP1]
  refine am_goX 2 (show ∃ jj nn : Nat, (am_sh (am_wI (am_wI (am_wI (am_wI (am_wI h1 32 3 ((Int32.ofInt 0))) 47 2 ((Int32.ofInt 0))) 0 12 ((Int32.ofInt 0))) 0 13 ((Int8.ofInt 31).toInt32)) 130 0 ((Int32.ofInt 0))) 129 = some (16, nn) ∨ am_sh (am_wI (am_wI (am_wI (am_wI (am_wI h1 32 3 ((Int32.ofInt 0))) 47 2 ((Int32.ofInt 0))) 0 12 ((Int32.ofInt 0))) 0 13 ((Int8.ofInt 31).toInt32)) 130 0 ((Int32.ofInt 0))) 129 = some (17, nn)) ∧ jj < nn ∧ ((Int32.ofInt 0) + Int32.ofInt 1) = nI jj ∧ pz_S 2 none am_r78 1 Q 51 [(1, .int ((Int32.ofInt 0) + Int32.ofInt 1)), (0, .ref 0)] [am_rf ((am_wI (am_wI (am_wI (am_wI (am_wI h1 32 3 ((Int32.ofInt 0))) 47 2 ((Int32.ofInt 0))) 0 12 ((Int32.ofInt 0))) 0 13 ((Int8.ofInt 31).toInt32)) 130 0 ((Int32.ofInt 0))).2.2.1 129 jj)] (am_wI (am_wI (am_wI (am_wI (am_wI h1 32 3 ((Int32.ofInt 0))) 47 2 ((Int32.ofInt 0))) 0 12 ((Int32.ofInt 0))) 0 13 ((Int8.ofInt 31).toInt32)) 130 0 ((Int32.ofInt 0))) from ⟨1, 4, Or.inl (ex_129 hP1), by decide, by decide, ?_⟩)
  rw [ex_r129_1 (h := am_wI (am_wI (am_wI (am_wI (am_wI h1 32 3 ((Int32.ofInt 0))) 47 2 ((Int32.ofInt 0))) 0 12 ((Int32.ofInt 0))) 0 13 ((Int8.ofInt 31).toInt32)) 130 0 ((Int32.ofInt 0))) hP1]
  refine am_goX 2 (show am_sh (am_wI (am_wI (am_wI (am_wI (am_wI h1 32 3 ((Int32.ofInt 0))) 47 2 ((Int32.ofInt 0))) 0 12 ((Int32.ofInt 0))) 0 13 ((Int8.ofInt 31).toInt32)) 130 0 ((Int32.ofInt 0))) 136 = some (5, 0) ∧ narrow (am_fty 5 0) (.int ((Int32.ofInt 0))) = .int ((Int32.ofInt 0)) ∧ fits (am_fty 5 0) (.int ((Int32.ofInt 0))) = true ∧ pz_S 2 none am_r78 1 Q 55 [(1, .int ((Int32.ofInt 0) + Int32.ofInt 1)), (0, .ref 0)] [] (am_wI (am_wI (am_wI (am_wI (am_wI (am_wI h1 32 3 ((Int32.ofInt 0))) 47 2 ((Int32.ofInt 0))) 0 12 ((Int32.ofInt 0))) 0 13 ((Int8.ofInt 31).toInt32)) 130 0 ((Int32.ofInt 0))) 136 0 ((Int32.ofInt 0))) from ⟨ex_136 hP1, rfl, rfl, ?_⟩)
  refine am_goX 5 (show 1 < 2 ∧ ((Int32.ofInt 4) ≤ (((Int32.ofInt 0) + Int32.ofInt 1) + Int32.ofInt 1) → pz_S 2 none am_r78 1 Q 61 [(1, .int (((Int32.ofInt 0) + Int32.ofInt 1) + Int32.ofInt 1)), (0, .ref 0)] [] (am_wI (am_wI (am_wI (am_wI (am_wI (am_wI h1 32 3 ((Int32.ofInt 0))) 47 2 ((Int32.ofInt 0))) 0 12 ((Int32.ofInt 0))) 0 13 ((Int8.ofInt 31).toInt32)) 130 0 ((Int32.ofInt 0))) 136 0 ((Int32.ofInt 0)))) ∧ (¬ ((Int32.ofInt 4) ≤ (((Int32.ofInt 0) + Int32.ofInt 1) + Int32.ofInt 1)) → pz_S 2 none am_r78 1 Q 45 [(1, .int (((Int32.ofInt 0) + Int32.ofInt 1) + Int32.ofInt 1)), (0, .ref 0)] [] (am_wI (am_wI (am_wI (am_wI (am_wI (am_wI h1 32 3 ((Int32.ofInt 0))) 47 2 ((Int32.ofInt 0))) 0 12 ((Int32.ofInt 0))) 0 13 ((Int8.ofInt 31).toInt32)) 130 0 ((Int32.ofInt 0))) 136 0 ((Int32.ofInt 0)))) from ⟨by decide, fun hz => absurd hz (by decide), fun _ => ?_⟩)
  refine am_goX 2 (show am_sh (am_wI (am_wI (am_wI (am_wI (am_wI (am_wI h1 32 3 ((Int32.ofInt 0))) 47 2 ((Int32.ofInt 0))) 0 12 ((Int32.ofInt 0))) 0 13 ((Int8.ofInt 31).toInt32)) 130 0 ((Int32.ofInt 0))) 136 0 ((Int32.ofInt 0))) 0 = some (10, 0) ∧ pz_S 2 none am_r78 1 Q 49 [(1, .int (((Int32.ofInt 0) + Int32.ofInt 1) + Int32.ofInt 1)), (0, .ref 0)] [am_rf ((am_wI (am_wI (am_wI (am_wI (am_wI (am_wI h1 32 3 ((Int32.ofInt 0))) 47 2 ((Int32.ofInt 0))) 0 12 ((Int32.ofInt 0))) 0 13 ((Int8.ofInt 31).toInt32)) 130 0 ((Int32.ofInt 0))) 136 0 ((Int32.ofInt 0))).2.2.1 0 11)] (am_wI (am_wI (am_wI (am_wI (am_wI (am_wI h1 32 3 ((Int32.ofInt 0))) 47 2 ((Int32.ofInt 0))) 0 12 ((Int32.ofInt 0))) 0 13 ((Int8.ofInt 31).toInt32)) 130 0 ((Int32.ofInt 0))) 136 0 ((Int32.ofInt 0))) from ⟨ex_0 hP1, ?_⟩)
  rw [ex_r0_11 (h := am_wI (am_wI (am_wI (am_wI (am_wI (am_wI h1 32 3 ((Int32.ofInt 0))) 47 2 ((Int32.ofInt 0))) 0 12 ((Int32.ofInt 0))) 0 13 ((Int8.ofInt 31).toInt32)) 130 0 ((Int32.ofInt 0))) 136 0 ((Int32.ofInt 0))) hP1]
  refine am_goX 2 (show ∃ jj nn : Nat, (am_sh (am_wI (am_wI (am_wI (am_wI (am_wI (am_wI h1 32 3 ((Int32.ofInt 0))) 47 2 ((Int32.ofInt 0))) 0 12 ((Int32.ofInt 0))) 0 13 ((Int8.ofInt 31).toInt32)) 130 0 ((Int32.ofInt 0))) 136 0 ((Int32.ofInt 0))) 129 = some (16, nn) ∨ am_sh (am_wI (am_wI (am_wI (am_wI (am_wI (am_wI h1 32 3 ((Int32.ofInt 0))) 47 2 ((Int32.ofInt 0))) 0 12 ((Int32.ofInt 0))) 0 13 ((Int8.ofInt 31).toInt32)) 130 0 ((Int32.ofInt 0))) 136 0 ((Int32.ofInt 0))) 129 = some (17, nn)) ∧ jj < nn ∧ (((Int32.ofInt 0) + Int32.ofInt 1) + Int32.ofInt 1) = nI jj ∧ pz_S 2 none am_r78 1 Q 51 [(1, .int (((Int32.ofInt 0) + Int32.ofInt 1) + Int32.ofInt 1)), (0, .ref 0)] [am_rf ((am_wI (am_wI (am_wI (am_wI (am_wI (am_wI h1 32 3 ((Int32.ofInt 0))) 47 2 ((Int32.ofInt 0))) 0 12 ((Int32.ofInt 0))) 0 13 ((Int8.ofInt 31).toInt32)) 130 0 ((Int32.ofInt 0))) 136 0 ((Int32.ofInt 0))).2.2.1 129 jj)] (am_wI (am_wI (am_wI (am_wI (am_wI (am_wI h1 32 3 ((Int32.ofInt 0))) 47 2 ((Int32.ofInt 0))) 0 12 ((Int32.ofInt 0))) 0 13 ((Int8.ofInt 31).toInt32)) 130 0 ((Int32.ofInt 0))) 136 0 ((Int32.ofInt 0))) from ⟨2, 4, Or.inl (ex_129 hP1), by decide, by decide, ?_⟩)
  rw [ex_r129_2 (h := am_wI (am_wI (am_wI (am_wI (am_wI (am_wI h1 32 3 ((Int32.ofInt 0))) 47 2 ((Int32.ofInt 0))) 0 12 ((Int32.ofInt 0))) 0 13 ((Int8.ofInt 31).toInt32)) 130 0 ((Int32.ofInt 0))) 136 0 ((Int32.ofInt 0))) hP1]
  refine am_goX 2 (show am_sh (am_wI (am_wI (am_wI (am_wI (am_wI (am_wI h1 32 3 ((Int32.ofInt 0))) 47 2 ((Int32.ofInt 0))) 0 12 ((Int32.ofInt 0))) 0 13 ((Int8.ofInt 31).toInt32)) 130 0 ((Int32.ofInt 0))) 136 0 ((Int32.ofInt 0))) 142 = some (5, 0) ∧ narrow (am_fty 5 0) (.int ((Int32.ofInt 0))) = .int ((Int32.ofInt 0)) ∧ fits (am_fty 5 0) (.int ((Int32.ofInt 0))) = true ∧ pz_S 2 none am_r78 1 Q 55 [(1, .int (((Int32.ofInt 0) + Int32.ofInt 1) + Int32.ofInt 1)), (0, .ref 0)] [] (am_wI (am_wI (am_wI (am_wI (am_wI (am_wI (am_wI h1 32 3 ((Int32.ofInt 0))) 47 2 ((Int32.ofInt 0))) 0 12 ((Int32.ofInt 0))) 0 13 ((Int8.ofInt 31).toInt32)) 130 0 ((Int32.ofInt 0))) 136 0 ((Int32.ofInt 0))) 142 0 ((Int32.ofInt 0))) from ⟨ex_142 hP1, rfl, rfl, ?_⟩)
  refine am_goX 5 (show 1 < 2 ∧ ((Int32.ofInt 4) ≤ ((((Int32.ofInt 0) + Int32.ofInt 1) + Int32.ofInt 1) + Int32.ofInt 1) → pz_S 2 none am_r78 1 Q 61 [(1, .int ((((Int32.ofInt 0) + Int32.ofInt 1) + Int32.ofInt 1) + Int32.ofInt 1)), (0, .ref 0)] [] (am_wI (am_wI (am_wI (am_wI (am_wI (am_wI (am_wI h1 32 3 ((Int32.ofInt 0))) 47 2 ((Int32.ofInt 0))) 0 12 ((Int32.ofInt 0))) 0 13 ((Int8.ofInt 31).toInt32)) 130 0 ((Int32.ofInt 0))) 136 0 ((Int32.ofInt 0))) 142 0 ((Int32.ofInt 0)))) ∧ (¬ ((Int32.ofInt 4) ≤ ((((Int32.ofInt 0) + Int32.ofInt 1) + Int32.ofInt 1) + Int32.ofInt 1)) → pz_S 2 none am_r78 1 Q 45 [(1, .int ((((Int32.ofInt 0) + Int32.ofInt 1) + Int32.ofInt 1) + Int32.ofInt 1)), (0, .ref 0)] [] (am_wI (am_wI (am_wI (am_wI (am_wI (am_wI (am_wI h1 32 3 ((Int32.ofInt 0))) 47 2 ((Int32.ofInt 0))) 0 12 ((Int32.ofInt 0))) 0 13 ((Int8.ofInt 31).toInt32)) 130 0 ((Int32.ofInt 0))) 136 0 ((Int32.ofInt 0))) 142 0 ((Int32.ofInt 0)))) from ⟨by decide, fun hz => absurd hz (by decide), fun _ => ?_⟩)
  refine am_goX 2 (show am_sh (am_wI (am_wI (am_wI (am_wI (am_wI (am_wI (am_wI h1 32 3 ((Int32.ofInt 0))) 47 2 ((Int32.ofInt 0))) 0 12 ((Int32.ofInt 0))) 0 13 ((Int8.ofInt 31).toInt32)) 130 0 ((Int32.ofInt 0))) 136 0 ((Int32.ofInt 0))) 142 0 ((Int32.ofInt 0))) 0 = some (10, 0) ∧ pz_S 2 none am_r78 1 Q 49 [(1, .int ((((Int32.ofInt 0) + Int32.ofInt 1) + Int32.ofInt 1) + Int32.ofInt 1)), (0, .ref 0)] [am_rf ((am_wI (am_wI (am_wI (am_wI (am_wI (am_wI (am_wI h1 32 3 ((Int32.ofInt 0))) 47 2 ((Int32.ofInt 0))) 0 12 ((Int32.ofInt 0))) 0 13 ((Int8.ofInt 31).toInt32)) 130 0 ((Int32.ofInt 0))) 136 0 ((Int32.ofInt 0))) 142 0 ((Int32.ofInt 0))).2.2.1 0 11)] (am_wI (am_wI (am_wI (am_wI (am_wI (am_wI (am_wI h1 32 3 ((Int32.ofInt 0))) 47 2 ((Int32.ofInt 0))) 0 12 ((Int32.ofInt 0))) 0 13 ((Int8.ofInt 31).toInt32)) 130 0 ((Int32.ofInt 0))) 136 0 ((Int32.ofInt 0))) 142 0 ((Int32.ofInt 0))) from ⟨ex_0 hP1, ?_⟩)
  rw [ex_r0_11 (h := am_wI (am_wI (am_wI (am_wI (am_wI (am_wI (am_wI h1 32 3 ((Int32.ofInt 0))) 47 2 ((Int32.ofInt 0))) 0 12 ((Int32.ofInt 0))) 0 13 ((Int8.ofInt 31).toInt32)) 130 0 ((Int32.ofInt 0))) 136 0 ((Int32.ofInt 0))) 142 0 ((Int32.ofInt 0))) hP1]
  refine am_goX 2 (show ∃ jj nn : Nat, (am_sh (am_wI (am_wI (am_wI (am_wI (am_wI (am_wI (am_wI h1 32 3 ((Int32.ofInt 0))) 47 2 ((Int32.ofInt 0))) 0 12 ((Int32.ofInt 0))) 0 13 ((Int8.ofInt 31).toInt32)) 130 0 ((Int32.ofInt 0))) 136 0 ((Int32.ofInt 0))) 142 0 ((Int32.ofInt 0))) 129 = some (16, nn) ∨ am_sh (am_wI (am_wI (am_wI (am_wI (am_wI (am_wI (am_wI h1 32 3 ((Int32.ofInt 0))) 47 2 ((Int32.ofInt 0))) 0 12 ((Int32.ofInt 0))) 0 13 ((Int8.ofInt 31).toInt32)) 130 0 ((Int32.ofInt 0))) 136 0 ((Int32.ofInt 0))) 142 0 ((Int32.ofInt 0))) 129 = some (17, nn)) ∧ jj < nn ∧ ((((Int32.ofInt 0) + Int32.ofInt 1) + Int32.ofInt 1) + Int32.ofInt 1) = nI jj ∧ pz_S 2 none am_r78 1 Q 51 [(1, .int ((((Int32.ofInt 0) + Int32.ofInt 1) + Int32.ofInt 1) + Int32.ofInt 1)), (0, .ref 0)] [am_rf ((am_wI (am_wI (am_wI (am_wI (am_wI (am_wI (am_wI h1 32 3 ((Int32.ofInt 0))) 47 2 ((Int32.ofInt 0))) 0 12 ((Int32.ofInt 0))) 0 13 ((Int8.ofInt 31).toInt32)) 130 0 ((Int32.ofInt 0))) 136 0 ((Int32.ofInt 0))) 142 0 ((Int32.ofInt 0))).2.2.1 129 jj)] (am_wI (am_wI (am_wI (am_wI (am_wI (am_wI (am_wI h1 32 3 ((Int32.ofInt 0))) 47 2 ((Int32.ofInt 0))) 0 12 ((Int32.ofInt 0))) 0 13 ((Int8.ofInt 31).toInt32)) 130 0 ((Int32.ofInt 0))) 136 0 ((Int32.ofInt 0))) 142 0 ((Int32.ofInt 0))) from ⟨3, 4, Or.inl (ex_129 hP1), by decide, by decide, ?_⟩)
  rw [ex_r129_3 (h := am_wI (am_wI (am_wI (am_wI (am_wI (am_wI (am_wI h1 32 3 ((Int32.ofInt 0))) 47 2 ((Int32.ofInt 0))) 0 12 ((Int32.ofInt 0))) 0 13 ((Int8.ofInt 31).toInt32)) 130 0 ((Int32.ofInt 0))) 136 0 ((Int32.ofInt 0))) 142 0 ((Int32.ofInt 0))) hP1]
  refine am_goX 2 (show am_sh (am_wI (am_wI (am_wI (am_wI (am_wI (am_wI (am_wI h1 32 3 ((Int32.ofInt 0))) 47 2 ((Int32.ofInt 0))) 0 12 ((Int32.ofInt 0))) 0 13 ((Int8.ofInt 31).toInt32)) 130 0 ((Int32.ofInt 0))) 136 0 ((Int32.ofInt 0))) 142 0 ((Int32.ofInt 0))) 148 = some (5, 0) ∧ narrow (am_fty 5 0) (.int ((Int32.ofInt 0))) = .int ((Int32.ofInt 0)) ∧ fits (am_fty 5 0) (.int ((Int32.ofInt 0))) = true ∧ pz_S 2 none am_r78 1 Q 55 [(1, .int ((((Int32.ofInt 0) + Int32.ofInt 1) + Int32.ofInt 1) + Int32.ofInt 1)), (0, .ref 0)] [] (am_wI (am_wI (am_wI (am_wI (am_wI (am_wI (am_wI (am_wI h1 32 3 ((Int32.ofInt 0))) 47 2 ((Int32.ofInt 0))) 0 12 ((Int32.ofInt 0))) 0 13 ((Int8.ofInt 31).toInt32)) 130 0 ((Int32.ofInt 0))) 136 0 ((Int32.ofInt 0))) 142 0 ((Int32.ofInt 0))) 148 0 ((Int32.ofInt 0))) from ⟨ex_148 hP1, rfl, rfl, ?_⟩)
  refine am_goX 5 (show 1 < 2 ∧ ((Int32.ofInt 4) ≤ (((((Int32.ofInt 0) + Int32.ofInt 1) + Int32.ofInt 1) + Int32.ofInt 1) + Int32.ofInt 1) → pz_S 2 none am_r78 1 Q 61 [(1, .int (((((Int32.ofInt 0) + Int32.ofInt 1) + Int32.ofInt 1) + Int32.ofInt 1) + Int32.ofInt 1)), (0, .ref 0)] [] (am_wI (am_wI (am_wI (am_wI (am_wI (am_wI (am_wI (am_wI h1 32 3 ((Int32.ofInt 0))) 47 2 ((Int32.ofInt 0))) 0 12 ((Int32.ofInt 0))) 0 13 ((Int8.ofInt 31).toInt32)) 130 0 ((Int32.ofInt 0))) 136 0 ((Int32.ofInt 0))) 142 0 ((Int32.ofInt 0))) 148 0 ((Int32.ofInt 0)))) ∧ (¬ ((Int32.ofInt 4) ≤ (((((Int32.ofInt 0) + Int32.ofInt 1) + Int32.ofInt 1) + Int32.ofInt 1) + Int32.ofInt 1)) → pz_S 2 none am_r78 1 Q 45 [(1, .int (((((Int32.ofInt 0) + Int32.ofInt 1) + Int32.ofInt 1) + Int32.ofInt 1) + Int32.ofInt 1)), (0, .ref 0)] [] (am_wI (am_wI (am_wI (am_wI (am_wI (am_wI (am_wI (am_wI h1 32 3 ((Int32.ofInt 0))) 47 2 ((Int32.ofInt 0))) 0 12 ((Int32.ofInt 0))) 0 13 ((Int8.ofInt 31).toInt32)) 130 0 ((Int32.ofInt 0))) 136 0 ((Int32.ofInt 0))) 142 0 ((Int32.ofInt 0))) 148 0 ((Int32.ofInt 0)))) from ⟨by decide, fun _ => ?_, fun hz => absurd (by decide) hz⟩)
  refine am_goX 1 (show (none : Option FieldType) = none ∧ (am_wI (am_wI (am_wI (am_wI (am_wI (am_wI (am_wI (am_wI h1 32 3 ((Int32.ofInt 0))) 47 2 ((Int32.ofInt 0))) 0 12 ((Int32.ofInt 0))) 0 13 ((Int8.ofInt 31).toInt32)) 130 0 ((Int32.ofInt 0))) 136 0 ((Int32.ofInt 0))) 142 0 ((Int32.ofInt 0))) 148 0 ((Int32.ofInt 0))).2.2.2.2 = 175 ∧ _ from ⟨rfl, ex_175 hP1, hQ _ hP1 ⟨hr1, fun o k hn => ?_, ⟨⟨?_, ?_⟩, fun i hi => ⟨?_, ?_⟩, fun i hi => ⟨?_, ?_⟩⟩, ⟨(by rw [em_wn _ _ (by omega), em_wn _ _ (by omega), em_wn _ _ (by omega), em_wn _ _ (by omega), em_wn _ _ (by omega), em_wn _ _ (by omega), em_wn _ _ (by omega), em_we]; rfl), (by rw [em_wn _ _ (by omega), em_wn _ _ (by omega), em_wn _ _ (by omega), em_wn _ _ (by omega), em_wn _ _ (by omega), em_wn _ _ (by omega), em_we]; rfl), (by rw [em_wn _ _ (by omega), em_wn _ _ (by omega), em_wn _ _ (by omega), em_wn _ _ (by omega), em_wn _ _ (by omega), em_we]; rfl), (by rw [em_wn _ _ (by omega), em_wn _ _ (by omega), em_wn _ _ (by omega), em_wn _ _ (by omega), em_we]; rfl)⟩, ⟨(by rw [em_wn _ _ (by omega), em_wn _ _ (by omega), em_wn _ _ (by omega), em_we]; rfl), (by rw [em_wn _ _ (by omega), em_wn _ _ (by omega), em_we]; rfl), (by rw [em_wn _ _ (by omega), em_we]; rfl), (by rw [em_we]; rfl)⟩⟩⟩)
  · unfold bg_w at hn
    rw [em_wn _ _ (by omega), em_wn _ _ (by omega), em_wn _ _ (by omega), em_wn _ _ (by omega), em_wn _ _ (by omega), em_wn _ _ (by omega), em_wn _ _ (by omega), em_wn _ _ (by omega)]
    exact hf1 o k (by omega)
  · rw [em_wn _ _ (by omega), em_wn _ _ (by omega), em_wn _ _ (by omega), em_wn _ _ (by omega), em_wn _ _ (by omega), em_wn _ _ (by omega), em_wn _ _ (by omega), em_wn _ _ (by omega)]
    exact hs1.1.1
  · rw [em_wn _ _ (by omega), em_wn _ _ (by omega), em_wn _ _ (by omega), em_wn _ _ (by omega), em_wn _ _ (by omega), em_wn _ _ (by omega), em_wn _ _ (by omega), em_wn _ _ (by omega)]
    exact hs1.1.2
  · rw [em_wn _ _ (by omega), em_wn _ _ (by omega), em_wn _ _ (by omega), em_wn _ _ (by omega), em_wn _ _ (by omega), em_wn _ _ (by omega), em_wn _ _ (by omega), em_wn _ _ (by omega)]
    exact (hs1.2.1 i hi).1
  · rw [em_wn _ _ (by omega), em_wn _ _ (by omega), em_wn _ _ (by omega), em_wn _ _ (by omega), em_wn _ _ (by omega), em_wn _ _ (by omega), em_wn _ _ (by omega), em_wn _ _ (by omega)]
    exact (hs1.2.1 i hi).2
  · rw [em_wn _ _ (by omega), em_wn _ _ (by omega), em_wn _ _ (by omega), em_wn _ _ (by omega), em_wn _ _ (by omega), em_wn _ _ (by omega), em_wn _ _ (by omega), em_wn _ _ (by omega)]
    exact (hs1.2.2 i hi).1
  · rw [em_wn _ _ (by omega), em_wn _ _ (by omega), em_wn _ _ (by omega), em_wn _ _ (by omega), em_wn _ _ (by omega), em_wn _ _ (by omega), em_wn _ _ (by omega), em_wn _ _ (by omega)]
    exact (hs1.2.2 i hi).2
theorem c_14F_6w28 (hw : h.2.2.1 0 5 = some 28) (hP : ex_P h) (hs : h.2.2.1 0 4 = some 6) (ht : h.2.2.1 0 3 = some 17) (hz : sz ≤ 1000) (hch : ∀ q, q < sz → 0 ≤ (T q).toInt ∧ (T q).toInt ≤ 126) (l1 : h.1 1 1 = nI sz) (l2 : ∀ q, q < sz → h.1 2 q = T q) (hF : ∀ F h1, sp_canton (tt T sz) = .inl F → cx h 6 F h1 → Q (some (.int F)) (am_wI h1 1 1 (Int32.ofInt 0))) (hQ : ∀ s h1 h2, sp_canton (tt T sz) = .inr s → cr h 6 T sz s h1 → bg_t 6 17 28 h1 h2 → Q (some (.int (Int32.ofInt 0))) h2) : am_call am_cod 40 14 [.ref 0] h Q := by
  refine pz_call (n := 14) (nL := 3) (rt := (some .int)) (rows := am_r14) (d := 39) (by decide +kernel) (by decide +kernel) rfl (by funext pc; rfl) (ex_175 hP) (by exact Nat.le_of_ble_eq_true rfl) ?_
  refine am_goX 2 (show am_sh h 0 = some (10, 0) ∧ pz_S 3 (some .int) am_r14 39 Q 4 [(0, .ref 0)] [am_rf (h.2.2.1 0 1)] h from ⟨ex_0 hP, ?_⟩)
  rw [ex_r0_1 (h := h) hP]
  refine am_goX 2 (show am_sh h 0 = some (10, 0) ∧ pz_S 3 (some .int) am_r14 39 Q 8 [(0, .ref 0)] [am_rf (h.2.2.1 0 4), .ref 3] h from ⟨ex_0 hP, ?_⟩)
  rw [hs]
  refine am_goX 1 (show am_rc h 3 1 ∧ 0 ≤ 8 ∧ h.2.2.2.2 + am_al 15 ≤ 175 ∧ am_call am_cod 39 15 [.ref 3, .ref 6] h (fun vv h' => pz_S 3 (some .int) am_r14 39 Q 11 [(0, .ref 0)] (vv.toList ++ []) h') from ⟨Or.inl ⟨by decide, ex_3 hP⟩, by decide, ex_lim hP rfl, c_15_6 hP hz hch l1 l2 (fun h1 w => ?_)⟩)
  obtain ⟨hP1, hq⟩ := cfin_q w
  have q4 : h1.2.2.1 0 4 = some 6 := by rw [hq.1]; exact hs
  have q3 : h1.2.2.1 0 3 = some 17 := by rw [hq.1]; exact ht
  have q5 : h1.2.2.1 0 5 = some 28 := by rw [hq.1]; exact hw
  refine am_goX 3 (show 1 < 3 ∧ am_sh h1 0 = some (10, 0) ∧ pz_S 3 (some .int) am_r14 39 Q 16 [(1, .int (sp_ans (sp_canton (tt T sz)))), (0, .ref 0)] [am_rf (h1.2.2.1 0 0)] h1 from ⟨by decide, ex_0 hP1, ?_⟩)
  rw [ex_r0_0 (h := h1) hP1]
  refine am_goX 2 (show am_sh h1 1 = some (7, 0) ∧ narrow (am_fty 7 1) (.int ((Int32.ofInt 0))) = .int ((Int32.ofInt 0)) ∧ fits (am_fty 7 1) (.int ((Int32.ofInt 0))) = true ∧ pz_S 3 (some .int) am_r14 39 Q 20 [(1, .int (sp_ans (sp_canton (tt T sz)))), (0, .ref 0)] [] (am_wI h1 1 1 ((Int32.ofInt 0))) from ⟨ex_1 hP1, rfl, rfl, ?_⟩)
  refine am_goX 2 (show ((sp_ans (sp_canton (tt T sz))) = 0 → pz_S 3 (some .int) am_r14 39 Q 26 [(1, .int (sp_ans (sp_canton (tt T sz)))), (0, .ref 0)] [] (am_wI h1 1 1 ((Int32.ofInt 0)))) ∧ (¬ ((sp_ans (sp_canton (tt T sz))) = 0) → pz_S 3 (some .int) am_r14 39 Q 24 [(1, .int (sp_ans (sp_canton (tt T sz)))), (0, .ref 0)] [] (am_wI h1 1 1 ((Int32.ofInt 0)))) from ⟨fun hc => ?_, fun hc => ?_⟩)
  rotate_left
  · cases hr : sp_canton (tt T sz) with
    | inr s => exact absurd (by rw [hr]; rfl) hc
    | inl F =>
      rw [hr] at w
      show pz_S 3 (some .int) am_r14 39 Q 24 [(1, .int F), (0, .ref 0)] [] (am_wI h1 1 1 ((Int32.ofInt 0)))
      exact am_goX 2 (show (∃ ty, (some .int) = some ty ∧ narrow ty (.int (F)) = .int (F)) ∧ (am_wI h1 1 1 ((Int32.ofInt 0))).2.2.2.2 = 175 ∧ _ from ⟨⟨.int, rfl, rfl⟩, ex_175 hP1, hF F h1 hr w⟩)
  cases hr : sp_canton (tt T sz) with
  | inl F =>
    rw [hr] at hc w
    exact absurd hc w.2.1.2
  | inr s =>
    rw [hr] at w
    refine am_goX 2 (show am_sh (am_wI h1 1 1 ((Int32.ofInt 0))) 0 = some (10, 0) ∧ pz_S 3 (some .int) am_r14 39 Q 30 [(1, .int (sp_ans (Sum.inr s))), (0, .ref 0)] [am_rf ((am_wI h1 1 1 ((Int32.ofInt 0))).2.2.1 0 4)] (am_wI h1 1 1 ((Int32.ofInt 0))) from ⟨ex_0 hP1, ?_⟩)
    rw [show (am_wI h1 1 1 ((Int32.ofInt 0))).2.2.1 0 4 = some 6 from q4]
    refine am_goX 4 (show 2 < 3 ∧ am_sh (am_wI h1 1 1 ((Int32.ofInt 0))) 0 = some (10, 0) ∧ pz_S 3 (some .int) am_r14 39 Q 36 [(2, .ref 6), (1, .int (sp_ans (Sum.inr s))), (0, .ref 0)] [am_rf ((am_wI h1 1 1 ((Int32.ofInt 0))).2.2.1 0 3), .ref 0] (am_wI h1 1 1 ((Int32.ofInt 0))) from ⟨by decide, ex_0 hP1, ?_⟩)
    rw [show (am_wI h1 1 1 ((Int32.ofInt 0))).2.2.1 0 3 = some 17 from q3]
    refine am_goX 1 (show am_sh (am_wI h1 1 1 ((Int32.ofInt 0))) 0 = some (10, 0) ∧ pz_S 3 (some .int) am_r14 39 Q 39 [(2, .ref 6), (1, .int (sp_ans (Sum.inr s))), (0, .ref 0)] [] (am_wR (am_wI h1 1 1 ((Int32.ofInt 0))) 0 4 (some 17)) from ⟨ex_0 hP1, ?_⟩)
    have hPw4 : ex_P (am_wR (am_wI h1 1 1 ((Int32.ofInt 0))) 0 4 (some 17)) := ex_wR (by decide) hP1
    refine am_goX 3 (show am_sh (am_wR (am_wI h1 1 1 ((Int32.ofInt 0))) 0 4 (some 17)) 0 = some (10, 0) ∧ pz_S 3 (some .int) am_r14 39 Q 44 [(2, .ref 6), (1, .int (sp_ans (Sum.inr s))), (0, .ref 0)] [] (am_wR (am_wR (am_wI h1 1 1 ((Int32.ofInt 0))) 0 4 (some 17)) 0 3 (some 6)) from ⟨ex_0 hPw4, ?_⟩)
    have hPw3 : ex_P (am_wR (am_wR (am_wI h1 1 1 ((Int32.ofInt 0))) 0 4 (some 17)) 0 3 (some 6)) := ex_wR (by decide) hPw4
    refine am_goX 2 (show am_rc (am_wR (am_wR (am_wI h1 1 1 ((Int32.ofInt 0))) 0 4 (some 17)) 0 3 (some 6)) 0 10 ∧ 0 ≤ 8 ∧ (am_wR (am_wR (am_wI h1 1 1 ((Int32.ofInt 0))) 0 4 (some 17)) 0 3 (some 6)).2.2.2.2 + am_al 78 ≤ 175 ∧ am_call am_cod 39 78 [.ref 0] (am_wR (am_wR (am_wI h1 1 1 ((Int32.ofInt 0))) 0 4 (some 17)) 0 3 (some 6)) (fun vv h' => pz_S 3 (some .int) am_r14 39 Q 48 [(2, .ref 6), (1, .int (sp_ans (Sum.inr s))), (0, .ref 0)] (vv.toList ++ []) h') from ⟨Or.inl ⟨by decide, ex_0 hPw3⟩, by decide, ex_lim hPw3 rfl, am_call.up (c_78F_6w28 hPw3 rfl q5 (fun h3 hP3 hb3 => ?_)) (by decide)⟩)
    exact am_goX 2 (show (∃ ty, (some .int) = some ty ∧ narrow ty (.int ((Int32.ofInt 0))) = .int ((Int32.ofInt 0))) ∧ h3.2.2.2.2 = 175 ∧ _ from ⟨⟨.int, rfl, rfl⟩, ex_175 hP3, hQ s h1 h3 hr w hb3⟩)
theorem c_14F_6w32 (hw : h.2.2.1 0 5 = some 32) (hP : ex_P h) (hs : h.2.2.1 0 4 = some 6) (ht : h.2.2.1 0 3 = some 17) (hz : sz ≤ 1000) (hch : ∀ q, q < sz → 0 ≤ (T q).toInt ∧ (T q).toInt ≤ 126) (l1 : h.1 1 1 = nI sz) (l2 : ∀ q, q < sz → h.1 2 q = T q) (hF : ∀ F h1, sp_canton (tt T sz) = .inl F → cx h 6 F h1 → Q (some (.int F)) (am_wI h1 1 1 (Int32.ofInt 0))) (hQ : ∀ s h1 h2, sp_canton (tt T sz) = .inr s → cr h 6 T sz s h1 → bg_t 6 17 32 h1 h2 → Q (some (.int (Int32.ofInt 0))) h2) : am_call am_cod 40 14 [.ref 0] h Q := by
  refine pz_call (n := 14) (nL := 3) (rt := (some .int)) (rows := am_r14) (d := 39) (by decide +kernel) (by decide +kernel) rfl (by funext pc; rfl) (ex_175 hP) (by exact Nat.le_of_ble_eq_true rfl) ?_
  refine am_goX 2 (show am_sh h 0 = some (10, 0) ∧ pz_S 3 (some .int) am_r14 39 Q 4 [(0, .ref 0)] [am_rf (h.2.2.1 0 1)] h from ⟨ex_0 hP, ?_⟩)
  rw [ex_r0_1 (h := h) hP]
  refine am_goX 2 (show am_sh h 0 = some (10, 0) ∧ pz_S 3 (some .int) am_r14 39 Q 8 [(0, .ref 0)] [am_rf (h.2.2.1 0 4), .ref 3] h from ⟨ex_0 hP, ?_⟩)
  rw [hs]
  refine am_goX 1 (show am_rc h 3 1 ∧ 0 ≤ 8 ∧ h.2.2.2.2 + am_al 15 ≤ 175 ∧ am_call am_cod 39 15 [.ref 3, .ref 6] h (fun vv h' => pz_S 3 (some .int) am_r14 39 Q 11 [(0, .ref 0)] (vv.toList ++ []) h') from ⟨Or.inl ⟨by decide, ex_3 hP⟩, by decide, ex_lim hP rfl, c_15_6 hP hz hch l1 l2 (fun h1 w => ?_)⟩)
  obtain ⟨hP1, hq⟩ := cfin_q w
  have q4 : h1.2.2.1 0 4 = some 6 := by rw [hq.1]; exact hs
  have q3 : h1.2.2.1 0 3 = some 17 := by rw [hq.1]; exact ht
  have q5 : h1.2.2.1 0 5 = some 32 := by rw [hq.1]; exact hw
  refine am_goX 3 (show 1 < 3 ∧ am_sh h1 0 = some (10, 0) ∧ pz_S 3 (some .int) am_r14 39 Q 16 [(1, .int (sp_ans (sp_canton (tt T sz)))), (0, .ref 0)] [am_rf (h1.2.2.1 0 0)] h1 from ⟨by decide, ex_0 hP1, ?_⟩)
  rw [ex_r0_0 (h := h1) hP1]
  refine am_goX 2 (show am_sh h1 1 = some (7, 0) ∧ narrow (am_fty 7 1) (.int ((Int32.ofInt 0))) = .int ((Int32.ofInt 0)) ∧ fits (am_fty 7 1) (.int ((Int32.ofInt 0))) = true ∧ pz_S 3 (some .int) am_r14 39 Q 20 [(1, .int (sp_ans (sp_canton (tt T sz)))), (0, .ref 0)] [] (am_wI h1 1 1 ((Int32.ofInt 0))) from ⟨ex_1 hP1, rfl, rfl, ?_⟩)
  refine am_goX 2 (show ((sp_ans (sp_canton (tt T sz))) = 0 → pz_S 3 (some .int) am_r14 39 Q 26 [(1, .int (sp_ans (sp_canton (tt T sz)))), (0, .ref 0)] [] (am_wI h1 1 1 ((Int32.ofInt 0)))) ∧ (¬ ((sp_ans (sp_canton (tt T sz))) = 0) → pz_S 3 (some .int) am_r14 39 Q 24 [(1, .int (sp_ans (sp_canton (tt T sz)))), (0, .ref 0)] [] (am_wI h1 1 1 ((Int32.ofInt 0)))) from ⟨fun hc => ?_, fun hc => ?_⟩)
  rotate_left
  · cases hr : sp_canton (tt T sz) with
    | inr s => exact absurd (by rw [hr]; rfl) hc
    | inl F =>
      rw [hr] at w
      show pz_S 3 (some .int) am_r14 39 Q 24 [(1, .int F), (0, .ref 0)] [] (am_wI h1 1 1 ((Int32.ofInt 0)))
      exact am_goX 2 (show (∃ ty, (some .int) = some ty ∧ narrow ty (.int (F)) = .int (F)) ∧ (am_wI h1 1 1 ((Int32.ofInt 0))).2.2.2.2 = 175 ∧ _ from ⟨⟨.int, rfl, rfl⟩, ex_175 hP1, hF F h1 hr w⟩)
  cases hr : sp_canton (tt T sz) with
  | inl F =>
    rw [hr] at hc w
    exact absurd hc w.2.1.2
  | inr s =>
    rw [hr] at w
    refine am_goX 2 (show am_sh (am_wI h1 1 1 ((Int32.ofInt 0))) 0 = some (10, 0) ∧ pz_S 3 (some .int) am_r14 39 Q 30 [(1, .int (sp_ans (Sum.inr s))), (0, .ref 0)] [am_rf ((am_wI h1 1 1 ((Int32.ofInt 0))).2.2.1 0 4)] (am_wI h1 1 1 ((Int32.ofInt 0))) from ⟨ex_0 hP1, ?_⟩)
    rw [show (am_wI h1 1 1 ((Int32.ofInt 0))).2.2.1 0 4 = some 6 from q4]
    refine am_goX 4 (show 2 < 3 ∧ am_sh (am_wI h1 1 1 ((Int32.ofInt 0))) 0 = some (10, 0) ∧ pz_S 3 (some .int) am_r14 39 Q 36 [(2, .ref 6), (1, .int (sp_ans (Sum.inr s))), (0, .ref 0)] [am_rf ((am_wI h1 1 1 ((Int32.ofInt 0))).2.2.1 0 3), .ref 0] (am_wI h1 1 1 ((Int32.ofInt 0))) from ⟨by decide, ex_0 hP1, ?_⟩)
    rw [show (am_wI h1 1 1 ((Int32.ofInt 0))).2.2.1 0 3 = some 17 from q3]
    refine am_goX 1 (show am_sh (am_wI h1 1 1 ((Int32.ofInt 0))) 0 = some (10, 0) ∧ pz_S 3 (some .int) am_r14 39 Q 39 [(2, .ref 6), (1, .int (sp_ans (Sum.inr s))), (0, .ref 0)] [] (am_wR (am_wI h1 1 1 ((Int32.ofInt 0))) 0 4 (some 17)) from ⟨ex_0 hP1, ?_⟩)
    have hPw4 : ex_P (am_wR (am_wI h1 1 1 ((Int32.ofInt 0))) 0 4 (some 17)) := ex_wR (by decide) hP1
    refine am_goX 3 (show am_sh (am_wR (am_wI h1 1 1 ((Int32.ofInt 0))) 0 4 (some 17)) 0 = some (10, 0) ∧ pz_S 3 (some .int) am_r14 39 Q 44 [(2, .ref 6), (1, .int (sp_ans (Sum.inr s))), (0, .ref 0)] [] (am_wR (am_wR (am_wI h1 1 1 ((Int32.ofInt 0))) 0 4 (some 17)) 0 3 (some 6)) from ⟨ex_0 hPw4, ?_⟩)
    have hPw3 : ex_P (am_wR (am_wR (am_wI h1 1 1 ((Int32.ofInt 0))) 0 4 (some 17)) 0 3 (some 6)) := ex_wR (by decide) hPw4
    refine am_goX 2 (show am_rc (am_wR (am_wR (am_wI h1 1 1 ((Int32.ofInt 0))) 0 4 (some 17)) 0 3 (some 6)) 0 10 ∧ 0 ≤ 8 ∧ (am_wR (am_wR (am_wI h1 1 1 ((Int32.ofInt 0))) 0 4 (some 17)) 0 3 (some 6)).2.2.2.2 + am_al 78 ≤ 175 ∧ am_call am_cod 39 78 [.ref 0] (am_wR (am_wR (am_wI h1 1 1 ((Int32.ofInt 0))) 0 4 (some 17)) 0 3 (some 6)) (fun vv h' => pz_S 3 (some .int) am_r14 39 Q 48 [(2, .ref 6), (1, .int (sp_ans (Sum.inr s))), (0, .ref 0)] (vv.toList ++ []) h') from ⟨Or.inl ⟨by decide, ex_0 hPw3⟩, by decide, ex_lim hPw3 rfl, am_call.up (c_78F_6w32 hPw3 rfl q5 (fun h3 hP3 hb3 => ?_)) (by decide)⟩)
    exact am_goX 2 (show (∃ ty, (some .int) = some ty ∧ narrow ty (.int ((Int32.ofInt 0))) = .int ((Int32.ofInt 0))) ∧ h3.2.2.2.2 = 175 ∧ _ from ⟨⟨.int, rfl, rfl⟩, ex_175 hP3, hQ s h1 h3 hr w hb3⟩)
theorem c_14F_17w28 (hw : h.2.2.1 0 5 = some 28) (hP : ex_P h) (hs : h.2.2.1 0 4 = some 17) (ht : h.2.2.1 0 3 = some 6) (hz : sz ≤ 1000) (hch : ∀ q, q < sz → 0 ≤ (T q).toInt ∧ (T q).toInt ≤ 126) (l1 : h.1 1 1 = nI sz) (l2 : ∀ q, q < sz → h.1 2 q = T q) (hF : ∀ F h1, sp_canton (tt T sz) = .inl F → cx h 17 F h1 → Q (some (.int F)) (am_wI h1 1 1 (Int32.ofInt 0))) (hQ : ∀ s h1 h2, sp_canton (tt T sz) = .inr s → cr h 17 T sz s h1 → bg_t 17 6 28 h1 h2 → Q (some (.int (Int32.ofInt 0))) h2) : am_call am_cod 40 14 [.ref 0] h Q := by
  refine pz_call (n := 14) (nL := 3) (rt := (some .int)) (rows := am_r14) (d := 39) (by decide +kernel) (by decide +kernel) rfl (by funext pc; rfl) (ex_175 hP) (by exact Nat.le_of_ble_eq_true rfl) ?_
  refine am_goX 2 (show am_sh h 0 = some (10, 0) ∧ pz_S 3 (some .int) am_r14 39 Q 4 [(0, .ref 0)] [am_rf (h.2.2.1 0 1)] h from ⟨ex_0 hP, ?_⟩)
  rw [ex_r0_1 (h := h) hP]
  refine am_goX 2 (show am_sh h 0 = some (10, 0) ∧ pz_S 3 (some .int) am_r14 39 Q 8 [(0, .ref 0)] [am_rf (h.2.2.1 0 4), .ref 3] h from ⟨ex_0 hP, ?_⟩)
  rw [hs]
  refine am_goX 1 (show am_rc h 3 1 ∧ 0 ≤ 8 ∧ h.2.2.2.2 + am_al 15 ≤ 175 ∧ am_call am_cod 39 15 [.ref 3, .ref 17] h (fun vv h' => pz_S 3 (some .int) am_r14 39 Q 11 [(0, .ref 0)] (vv.toList ++ []) h') from ⟨Or.inl ⟨by decide, ex_3 hP⟩, by decide, ex_lim hP rfl, c_15_17 hP hz hch l1 l2 (fun h1 w => ?_)⟩)
  obtain ⟨hP1, hq⟩ := cfin_q w
  have q4 : h1.2.2.1 0 4 = some 17 := by rw [hq.1]; exact hs
  have q3 : h1.2.2.1 0 3 = some 6 := by rw [hq.1]; exact ht
  have q5 : h1.2.2.1 0 5 = some 28 := by rw [hq.1]; exact hw
  refine am_goX 3 (show 1 < 3 ∧ am_sh h1 0 = some (10, 0) ∧ pz_S 3 (some .int) am_r14 39 Q 16 [(1, .int (sp_ans (sp_canton (tt T sz)))), (0, .ref 0)] [am_rf (h1.2.2.1 0 0)] h1 from ⟨by decide, ex_0 hP1, ?_⟩)
  rw [ex_r0_0 (h := h1) hP1]
  refine am_goX 2 (show am_sh h1 1 = some (7, 0) ∧ narrow (am_fty 7 1) (.int ((Int32.ofInt 0))) = .int ((Int32.ofInt 0)) ∧ fits (am_fty 7 1) (.int ((Int32.ofInt 0))) = true ∧ pz_S 3 (some .int) am_r14 39 Q 20 [(1, .int (sp_ans (sp_canton (tt T sz)))), (0, .ref 0)] [] (am_wI h1 1 1 ((Int32.ofInt 0))) from ⟨ex_1 hP1, rfl, rfl, ?_⟩)
  refine am_goX 2 (show ((sp_ans (sp_canton (tt T sz))) = 0 → pz_S 3 (some .int) am_r14 39 Q 26 [(1, .int (sp_ans (sp_canton (tt T sz)))), (0, .ref 0)] [] (am_wI h1 1 1 ((Int32.ofInt 0)))) ∧ (¬ ((sp_ans (sp_canton (tt T sz))) = 0) → pz_S 3 (some .int) am_r14 39 Q 24 [(1, .int (sp_ans (sp_canton (tt T sz)))), (0, .ref 0)] [] (am_wI h1 1 1 ((Int32.ofInt 0)))) from ⟨fun hc => ?_, fun hc => ?_⟩)
  rotate_left
  · cases hr : sp_canton (tt T sz) with
    | inr s => exact absurd (by rw [hr]; rfl) hc
    | inl F =>
      rw [hr] at w
      show pz_S 3 (some .int) am_r14 39 Q 24 [(1, .int F), (0, .ref 0)] [] (am_wI h1 1 1 ((Int32.ofInt 0)))
      exact am_goX 2 (show (∃ ty, (some .int) = some ty ∧ narrow ty (.int (F)) = .int (F)) ∧ (am_wI h1 1 1 ((Int32.ofInt 0))).2.2.2.2 = 175 ∧ _ from ⟨⟨.int, rfl, rfl⟩, ex_175 hP1, hF F h1 hr w⟩)
  cases hr : sp_canton (tt T sz) with
  | inl F =>
    rw [hr] at hc w
    exact absurd hc w.2.1.2
  | inr s =>
    rw [hr] at w
    refine am_goX 2 (show am_sh (am_wI h1 1 1 ((Int32.ofInt 0))) 0 = some (10, 0) ∧ pz_S 3 (some .int) am_r14 39 Q 30 [(1, .int (sp_ans (Sum.inr s))), (0, .ref 0)] [am_rf ((am_wI h1 1 1 ((Int32.ofInt 0))).2.2.1 0 4)] (am_wI h1 1 1 ((Int32.ofInt 0))) from ⟨ex_0 hP1, ?_⟩)
    rw [show (am_wI h1 1 1 ((Int32.ofInt 0))).2.2.1 0 4 = some 17 from q4]
    refine am_goX 4 (show 2 < 3 ∧ am_sh (am_wI h1 1 1 ((Int32.ofInt 0))) 0 = some (10, 0) ∧ pz_S 3 (some .int) am_r14 39 Q 36 [(2, .ref 17), (1, .int (sp_ans (Sum.inr s))), (0, .ref 0)] [am_rf ((am_wI h1 1 1 ((Int32.ofInt 0))).2.2.1 0 3), .ref 0] (am_wI h1 1 1 ((Int32.ofInt 0))) from ⟨by decide, ex_0 hP1, ?_⟩)
    rw [show (am_wI h1 1 1 ((Int32.ofInt 0))).2.2.1 0 3 = some 6 from q3]
    refine am_goX 1 (show am_sh (am_wI h1 1 1 ((Int32.ofInt 0))) 0 = some (10, 0) ∧ pz_S 3 (some .int) am_r14 39 Q 39 [(2, .ref 17), (1, .int (sp_ans (Sum.inr s))), (0, .ref 0)] [] (am_wR (am_wI h1 1 1 ((Int32.ofInt 0))) 0 4 (some 6)) from ⟨ex_0 hP1, ?_⟩)
    have hPw4 : ex_P (am_wR (am_wI h1 1 1 ((Int32.ofInt 0))) 0 4 (some 6)) := ex_wR (by decide) hP1
    refine am_goX 3 (show am_sh (am_wR (am_wI h1 1 1 ((Int32.ofInt 0))) 0 4 (some 6)) 0 = some (10, 0) ∧ pz_S 3 (some .int) am_r14 39 Q 44 [(2, .ref 17), (1, .int (sp_ans (Sum.inr s))), (0, .ref 0)] [] (am_wR (am_wR (am_wI h1 1 1 ((Int32.ofInt 0))) 0 4 (some 6)) 0 3 (some 17)) from ⟨ex_0 hPw4, ?_⟩)
    have hPw3 : ex_P (am_wR (am_wR (am_wI h1 1 1 ((Int32.ofInt 0))) 0 4 (some 6)) 0 3 (some 17)) := ex_wR (by decide) hPw4
    refine am_goX 2 (show am_rc (am_wR (am_wR (am_wI h1 1 1 ((Int32.ofInt 0))) 0 4 (some 6)) 0 3 (some 17)) 0 10 ∧ 0 ≤ 8 ∧ (am_wR (am_wR (am_wI h1 1 1 ((Int32.ofInt 0))) 0 4 (some 6)) 0 3 (some 17)).2.2.2.2 + am_al 78 ≤ 175 ∧ am_call am_cod 39 78 [.ref 0] (am_wR (am_wR (am_wI h1 1 1 ((Int32.ofInt 0))) 0 4 (some 6)) 0 3 (some 17)) (fun vv h' => pz_S 3 (some .int) am_r14 39 Q 48 [(2, .ref 17), (1, .int (sp_ans (Sum.inr s))), (0, .ref 0)] (vv.toList ++ []) h') from ⟨Or.inl ⟨by decide, ex_0 hPw3⟩, by decide, ex_lim hPw3 rfl, am_call.up (c_78F_17w28 hPw3 rfl q5 (fun h3 hP3 hb3 => ?_)) (by decide)⟩)
    exact am_goX 2 (show (∃ ty, (some .int) = some ty ∧ narrow ty (.int ((Int32.ofInt 0))) = .int ((Int32.ofInt 0))) ∧ h3.2.2.2.2 = 175 ∧ _ from ⟨⟨.int, rfl, rfl⟩, ex_175 hP3, hQ s h1 h3 hr w hb3⟩)
theorem c_14F_17w32 (hw : h.2.2.1 0 5 = some 32) (hP : ex_P h) (hs : h.2.2.1 0 4 = some 17) (ht : h.2.2.1 0 3 = some 6) (hz : sz ≤ 1000) (hch : ∀ q, q < sz → 0 ≤ (T q).toInt ∧ (T q).toInt ≤ 126) (l1 : h.1 1 1 = nI sz) (l2 : ∀ q, q < sz → h.1 2 q = T q) (hF : ∀ F h1, sp_canton (tt T sz) = .inl F → cx h 17 F h1 → Q (some (.int F)) (am_wI h1 1 1 (Int32.ofInt 0))) (hQ : ∀ s h1 h2, sp_canton (tt T sz) = .inr s → cr h 17 T sz s h1 → bg_t 17 6 32 h1 h2 → Q (some (.int (Int32.ofInt 0))) h2) : am_call am_cod 40 14 [.ref 0] h Q := by
  refine pz_call (n := 14) (nL := 3) (rt := (some .int)) (rows := am_r14) (d := 39) (by decide +kernel) (by decide +kernel) rfl (by funext pc; rfl) (ex_175 hP) (by exact Nat.le_of_ble_eq_true rfl) ?_
  refine am_goX 2 (show am_sh h 0 = some (10, 0) ∧ pz_S 3 (some .int) am_r14 39 Q 4 [(0, .ref 0)] [am_rf (h.2.2.1 0 1)] h from ⟨ex_0 hP, ?_⟩)
  rw [ex_r0_1 (h := h) hP]
  refine am_goX 2 (show am_sh h 0 = some (10, 0) ∧ pz_S 3 (some .int) am_r14 39 Q 8 [(0, .ref 0)] [am_rf (h.2.2.1 0 4), .ref 3] h from ⟨ex_0 hP, ?_⟩)
  rw [hs]
  refine am_goX 1 (show am_rc h 3 1 ∧ 0 ≤ 8 ∧ h.2.2.2.2 + am_al 15 ≤ 175 ∧ am_call am_cod 39 15 [.ref 3, .ref 17] h (fun vv h' => pz_S 3 (some .int) am_r14 39 Q 11 [(0, .ref 0)] (vv.toList ++ []) h') from ⟨Or.inl ⟨by decide, ex_3 hP⟩, by decide, ex_lim hP rfl, c_15_17 hP hz hch l1 l2 (fun h1 w => ?_)⟩)
  obtain ⟨hP1, hq⟩ := cfin_q w
  have q4 : h1.2.2.1 0 4 = some 17 := by rw [hq.1]; exact hs
  have q3 : h1.2.2.1 0 3 = some 6 := by rw [hq.1]; exact ht
  have q5 : h1.2.2.1 0 5 = some 32 := by rw [hq.1]; exact hw
  refine am_goX 3 (show 1 < 3 ∧ am_sh h1 0 = some (10, 0) ∧ pz_S 3 (some .int) am_r14 39 Q 16 [(1, .int (sp_ans (sp_canton (tt T sz)))), (0, .ref 0)] [am_rf (h1.2.2.1 0 0)] h1 from ⟨by decide, ex_0 hP1, ?_⟩)
  rw [ex_r0_0 (h := h1) hP1]
  refine am_goX 2 (show am_sh h1 1 = some (7, 0) ∧ narrow (am_fty 7 1) (.int ((Int32.ofInt 0))) = .int ((Int32.ofInt 0)) ∧ fits (am_fty 7 1) (.int ((Int32.ofInt 0))) = true ∧ pz_S 3 (some .int) am_r14 39 Q 20 [(1, .int (sp_ans (sp_canton (tt T sz)))), (0, .ref 0)] [] (am_wI h1 1 1 ((Int32.ofInt 0))) from ⟨ex_1 hP1, rfl, rfl, ?_⟩)
  refine am_goX 2 (show ((sp_ans (sp_canton (tt T sz))) = 0 → pz_S 3 (some .int) am_r14 39 Q 26 [(1, .int (sp_ans (sp_canton (tt T sz)))), (0, .ref 0)] [] (am_wI h1 1 1 ((Int32.ofInt 0)))) ∧ (¬ ((sp_ans (sp_canton (tt T sz))) = 0) → pz_S 3 (some .int) am_r14 39 Q 24 [(1, .int (sp_ans (sp_canton (tt T sz)))), (0, .ref 0)] [] (am_wI h1 1 1 ((Int32.ofInt 0)))) from ⟨fun hc => ?_, fun hc => ?_⟩)
  rotate_left
  · cases hr : sp_canton (tt T sz) with
    | inr s => exact absurd (by rw [hr]; rfl) hc
    | inl F =>
      rw [hr] at w
      show pz_S 3 (some .int) am_r14 39 Q 24 [(1, .int F), (0, .ref 0)] [] (am_wI h1 1 1 ((Int32.ofInt 0)))
      exact am_goX 2 (show (∃ ty, (some .int) = some ty ∧ narrow ty (.int (F)) = .int (F)) ∧ (am_wI h1 1 1 ((Int32.ofInt 0))).2.2.2.2 = 175 ∧ _ from ⟨⟨.int, rfl, rfl⟩, ex_175 hP1, hF F h1 hr w⟩)
  cases hr : sp_canton (tt T sz) with
  | inl F =>
    rw [hr] at hc w
    exact absurd hc w.2.1.2
  | inr s =>
    rw [hr] at w
    refine am_goX 2 (show am_sh (am_wI h1 1 1 ((Int32.ofInt 0))) 0 = some (10, 0) ∧ pz_S 3 (some .int) am_r14 39 Q 30 [(1, .int (sp_ans (Sum.inr s))), (0, .ref 0)] [am_rf ((am_wI h1 1 1 ((Int32.ofInt 0))).2.2.1 0 4)] (am_wI h1 1 1 ((Int32.ofInt 0))) from ⟨ex_0 hP1, ?_⟩)
    rw [show (am_wI h1 1 1 ((Int32.ofInt 0))).2.2.1 0 4 = some 17 from q4]
    refine am_goX 4 (show 2 < 3 ∧ am_sh (am_wI h1 1 1 ((Int32.ofInt 0))) 0 = some (10, 0) ∧ pz_S 3 (some .int) am_r14 39 Q 36 [(2, .ref 17), (1, .int (sp_ans (Sum.inr s))), (0, .ref 0)] [am_rf ((am_wI h1 1 1 ((Int32.ofInt 0))).2.2.1 0 3), .ref 0] (am_wI h1 1 1 ((Int32.ofInt 0))) from ⟨by decide, ex_0 hP1, ?_⟩)
    rw [show (am_wI h1 1 1 ((Int32.ofInt 0))).2.2.1 0 3 = some 6 from q3]
    refine am_goX 1 (show am_sh (am_wI h1 1 1 ((Int32.ofInt 0))) 0 = some (10, 0) ∧ pz_S 3 (some .int) am_r14 39 Q 39 [(2, .ref 17), (1, .int (sp_ans (Sum.inr s))), (0, .ref 0)] [] (am_wR (am_wI h1 1 1 ((Int32.ofInt 0))) 0 4 (some 6)) from ⟨ex_0 hP1, ?_⟩)
    have hPw4 : ex_P (am_wR (am_wI h1 1 1 ((Int32.ofInt 0))) 0 4 (some 6)) := ex_wR (by decide) hP1
    refine am_goX 3 (show am_sh (am_wR (am_wI h1 1 1 ((Int32.ofInt 0))) 0 4 (some 6)) 0 = some (10, 0) ∧ pz_S 3 (some .int) am_r14 39 Q 44 [(2, .ref 17), (1, .int (sp_ans (Sum.inr s))), (0, .ref 0)] [] (am_wR (am_wR (am_wI h1 1 1 ((Int32.ofInt 0))) 0 4 (some 6)) 0 3 (some 17)) from ⟨ex_0 hPw4, ?_⟩)
    have hPw3 : ex_P (am_wR (am_wR (am_wI h1 1 1 ((Int32.ofInt 0))) 0 4 (some 6)) 0 3 (some 17)) := ex_wR (by decide) hPw4
    refine am_goX 2 (show am_rc (am_wR (am_wR (am_wI h1 1 1 ((Int32.ofInt 0))) 0 4 (some 6)) 0 3 (some 17)) 0 10 ∧ 0 ≤ 8 ∧ (am_wR (am_wR (am_wI h1 1 1 ((Int32.ofInt 0))) 0 4 (some 6)) 0 3 (some 17)).2.2.2.2 + am_al 78 ≤ 175 ∧ am_call am_cod 39 78 [.ref 0] (am_wR (am_wR (am_wI h1 1 1 ((Int32.ofInt 0))) 0 4 (some 6)) 0 3 (some 17)) (fun vv h' => pz_S 3 (some .int) am_r14 39 Q 48 [(2, .ref 17), (1, .int (sp_ans (Sum.inr s))), (0, .ref 0)] (vv.toList ++ []) h') from ⟨Or.inl ⟨by decide, ex_0 hPw3⟩, by decide, ex_lim hPw3 rfl, am_call.up (c_78F_17w32 hPw3 rfl q5 (fun h3 hP3 hb3 => ?_)) (by decide)⟩)
    exact am_goX 2 (show (∃ ty, (some .int) = some ty ∧ narrow ty (.int ((Int32.ofInt 0))) = .int ((Int32.ofInt 0))) ∧ h3.2.2.2.2 = 175 ∧ _ from ⟨⟨.int, rfl, rfl⟩, ex_175 hP3, hQ s h1 h3 hr w hb3⟩)
end
section
/-! begins OF THE REFERENCE, EXACTLY -/
/-- state 0 as a canton begins -/
def bs_v (P : Nat) (h : am_H) (k : Nat) : Int32 := if 2 ≤ k ∧ k < 2 + P then h.1 160 (5 + 3 * (k - 2)) else 0
def bR (P E : Nat) (h h1 : am_H) : Prop := h1.2 = h.2 ∧ (∀ o k, ¬ ((o = 154 ∧ k = 25) ∨ (o = 167 ∧ k = 0) ∨ (o = 170 ∧ k ≤ 24) ∨ (o = 171 ∧ k < 4) ∨ (o = 172 ∧ k < 5)) → h1.1 o k = h.1 o k) ∧ ((∀ k, k < 24 → h1.1 170 k = bs_v P h k) ∧ h1.1 170 24 = 0) ∧ h1.1 167 0 = 0 ∧ h1.1 154 25 = 0 ∧ (∀ m, m < 4 → h1.1 171 m = 0) ∧ (∀ e, e < E → h1.1 172 e = h.1 160 (22 + 2 * e))
variable {h : am_H} {P E : Nat} {Q : am_Q}
theorem ex_167 {h : am_H} (hP : ex_P h) : am_sh h 167 = some (13, 250) := (ex_so hP (by decide +kernel)).2
theorem ex_w167 {h : am_H} (hP : ex_P h) : am_so h 167 = some (13, 250) := (ex_so hP (by decide +kernel)).1
theorem ex_170 {h : am_H} (hP : ex_P h) : am_sh h 170 = some (13, 1127) := (ex_so hP (by decide +kernel)).2
theorem ex_w170 {h : am_H} (hP : ex_P h) : am_so h 170 = some (13, 1127) := (ex_so hP (by decide +kernel)).1
theorem ex_171 {h : am_H} (hP : ex_P h) : am_sh h 171 = some (15, 4) := (ex_so hP (by decide +kernel)).2
theorem ex_w171 {h : am_H} (hP : ex_P h) : am_so h 171 = some (15, 4) := (ex_so hP (by decide +kernel)).1
theorem ex_172 {h : am_H} (hP : ex_P h) : am_sh h 172 = some (13, 5) := (ex_so hP (by decide +kernel)).2
theorem ex_w172 {h : am_H} (hP : ex_P h) : am_so h 172 = some (13, 5) := (ex_so hP (by decide +kernel)).1
theorem ex_r154_21 {h : am_H} (hP : ex_P h) : h.2.2.1 154 21 = some 167 := hP.2 154 21 167 (by decide +kernel)
theorem ex_r154_24 {h : am_H} (hP : ex_P h) : h.2.2.1 154 24 = some 170 := hP.2 154 24 170 (by decide +kernel)
theorem ex_r154_26 {h : am_H} (hP : ex_P h) : h.2.2.1 154 26 = some 171 := hP.2 154 26 171 (by decide +kernel)
theorem ex_r154_27 {h : am_H} (hP : ex_P h) : h.2.2.1 154 27 = some 172 := hP.2 154 27 172 (by decide +kernel)
theorem b_183 (hP : ex_P h) (hQ : Q (some (.int (h.1 160 1))) h) : am_call am_cod 1 183 [.ref 154] h Q := by
  refine pz_call (n := 183) (nL := 1) (rt := (some .int)) (rows := am_r183) (d := 0) (by decide +kernel) (by decide +kernel) rfl (by funext pc; rfl) (ex_175 hP) (by exact Nat.le_of_ble_eq_true rfl) ?_
  refine am_goX 2 (show am_sh h 154 = some (11, 0) ∧ pz_S 1 (some .int) am_r183 0 Q 4 [(0, .ref 154)] [am_rf (h.2.2.1 154 10)] h from ⟨ex_154 hP, ?_⟩)
  rw [ex_r154_10 (h := h) hP]
  refine am_goX 2 (show ∃ jj nn : Nat, am_sh h 160 = some (13, nn) ∧ jj < nn ∧ (Int32.ofInt 1) = nI jj ∧ pz_S 1 (some .int) am_r183 0 Q 6 [(0, .ref 154)] [.int (h.1 160 jj)] h from ⟨1, 80, ex_160 hP, by decide, by decide, ?_⟩)
  exact am_goX 1 (show (∃ ty, (some .int) = some ty ∧ narrow ty (.int ((h.1 160 1))) = .int ((h.1 160 1))) ∧ h.2.2.2.2 = 175 ∧ _ from ⟨⟨.int, rfl, rfl⟩, ex_175 hP, hQ⟩)
theorem b_186 (hP : ex_P h) (hQ : Q (some (.int (h.1 160 0))) h) : am_call am_cod 1 186 [.ref 154] h Q := by
  refine pz_call (n := 186) (nL := 1) (rt := (some .int)) (rows := am_r186) (d := 0) (by decide +kernel) (by decide +kernel) rfl (by funext pc; rfl) (ex_175 hP) (by exact Nat.le_of_ble_eq_true rfl) ?_
  refine am_goX 2 (show am_sh h 154 = some (11, 0) ∧ pz_S 1 (some .int) am_r186 0 Q 4 [(0, .ref 154)] [am_rf (h.2.2.1 154 10)] h from ⟨ex_154 hP, ?_⟩)
  rw [ex_r154_10 (h := h) hP]
  refine am_goX 2 (show ∃ jj nn : Nat, am_sh h 160 = some (13, nn) ∧ jj < nn ∧ (Int32.ofInt 0) = nI jj ∧ pz_S 1 (some .int) am_r186 0 Q 6 [(0, .ref 154)] [.int (h.1 160 jj)] h from ⟨0, 80, ex_160 hP, by decide, by decide, ?_⟩)
  exact am_goX 1 (show (∃ ty, (some .int) = some ty ∧ narrow ty (.int ((h.1 160 0))) = .int ((h.1 160 0))) ∧ h.2.2.2.2 = 175 ∧ _ from ⟨⟨.int, rfl, rfl⟩, ex_175 hP, hQ⟩)
theorem b_184 {i : Nat} (hi : i < 6) (hP : ex_P h) (hQ : Q (some (.int (h.1 160 (22 + 2 * i)))) h) : am_call am_cod 1 184 [.ref 154, .int (nI i), .int (Int32.ofInt 0)] h Q := by
  refine pz_call (n := 184) (nL := 3) (rt := (some .int)) (rows := am_r184) (d := 0) (by decide +kernel) (by decide +kernel) rfl (by funext pc; rfl) (ex_175 hP) (by exact Nat.le_of_ble_eq_true rfl) ?_
  refine am_goX 2 (show am_sh h 154 = some (11, 0) ∧ pz_S 3 (some .int) am_r184 0 Q 4 [(0, .ref 154), (1, .int (nI i)), (2, .int (Int32.ofInt 0))] [am_rf (h.2.2.1 154 10)] h from ⟨ex_154 hP, ?_⟩)
  rw [ex_r154_10 (h := h) hP]
  refine am_goX 8 (show ∃ jj nn : Nat, am_sh h 160 = some (13, nn) ∧ jj < nn ∧ (((Int8.ofInt 22).toInt32 + ((Int32.ofInt 2) * (nI i))) + (Int32.ofInt 0)) = nI jj ∧ pz_S 3 (some .int) am_r184 0 Q 13 [(0, .ref 154), (1, .int (nI i)), (2, .int (Int32.ofInt 0))] [.int (h.1 160 jj)] h from ⟨(22 + 2 * i), 80, ex_160 hP, by omega, (by
    rw [show Int32.ofInt 2 * nI i = nI (2 * i) from nI_mul 2 _, show (Int8.ofInt 22).toInt32 + nI (2 * i) = nI (22 + 2 * i) from nI_add 22 _]
    exact Int32.add_zero _), ?_⟩)
  exact am_goX 1 (show (∃ ty, (some .int) = some ty ∧ narrow ty (.int ((h.1 160 (22 + 2 * i)))) = .int ((h.1 160 (22 + 2 * i)))) ∧ h.2.2.2.2 = 175 ∧ _ from ⟨⟨.int, rfl, rfl⟩, ex_175 hP, hQ⟩)
theorem b_187 {i : Nat} (hi : i < 6) (hP : ex_P h) (hQ : Q (some (.int (h.1 160 (5 + 3 * i)))) h) : am_call am_cod 1 187 [.ref 154, .int (nI i), .int (Int32.ofInt 1)] h Q := by
  refine pz_call (n := 187) (nL := 3) (rt := (some .int)) (rows := am_r187) (d := 0) (by decide +kernel) (by decide +kernel) rfl (by funext pc; rfl) (ex_175 hP) (by exact Nat.le_of_ble_eq_true rfl) ?_
  refine am_goX 2 (show am_sh h 154 = some (11, 0) ∧ pz_S 3 (some .int) am_r187 0 Q 4 [(0, .ref 154), (1, .int (nI i)), (2, .int (Int32.ofInt 1))] [am_rf (h.2.2.1 154 10)] h from ⟨ex_154 hP, ?_⟩)
  rw [ex_r154_10 (h := h) hP]
  refine am_goX 8 (show ∃ jj nn : Nat, am_sh h 160 = some (13, nn) ∧ jj < nn ∧ (((Int32.ofInt 4) + ((Int32.ofInt 3) * (nI i))) + (Int32.ofInt 1)) = nI jj ∧ pz_S 3 (some .int) am_r187 0 Q 12 [(0, .ref 154), (1, .int (nI i)), (2, .int (Int32.ofInt 1))] [.int (h.1 160 jj)] h from ⟨(5 + 3 * i), 80, ex_160 hP, by omega, (by
    rw [show Int32.ofInt 3 * nI i = nI (3 * i) from nI_mul 3 _, show Int32.ofInt 4 + nI (3 * i) = nI (4 + 3 * i) from nI_add 4 _, xw_i1]
    congr 1
    omega), ?_⟩)
  exact am_goX 1 (show (∃ ty, (some .int) = some ty ∧ narrow ty (.int ((h.1 160 (5 + 3 * i)))) = .int ((h.1 160 (5 + 3 * i)))) ∧ h.2.2.2.2 = 175 ∧ _ from ⟨⟨.int, rfl, rfl⟩, ex_175 hP, hQ⟩)
theorem b_182l (hE : E ≤ 5) : ∀ (m i : Nat) (h : am_H), i + m = E → ex_P h → h.1 160 1 = nI E → (∀ e, e < i → h.1 172 e = h.1 160 (22 + 2 * e)) → (∀ h1, ex_P h1 → h1.2 = h.2 → (∀ o k, ¬ (o = 172 ∧ k < 5) → h1.1 o k = h.1 o k) → (∀ e, e < E → h1.1 172 e = h.1 160 (22 + 2 * e)) → Q none h1) → pz_S 2 none am_r182 1 Q 2 [(1, .int (nI i)), (0, .ref 154)] [] h := by
  intro m
  induction m with
  | zero =>
    intro i h hi hP e1 hj hQ
    refine am_goX 3 (show am_rc h 154 11 ∧ 1 ≤ 8 ∧ h.2.2.2.2 + am_al 183 ≤ 175 ∧ am_call am_cod 1 183 [.ref 154] h (fun vv h' => pz_S 2 none am_r182 1 Q 7 [(1, .int (nI i)), (0, .ref 154)] (vv.toList ++ [.int (nI i)]) h') from ⟨Or.inl ⟨by decide, ex_154 hP⟩, by decide, ex_lim hP rfl, b_183 hP ?_⟩)
    rw [e1]
    refine am_goX 1 (show ((nI E) ≤ (nI i) → pz_S 2 none am_r182 1 Q 28 [(1, .int (nI i)), (0, .ref 154)] [] h) ∧ (¬ ((nI E) ≤ (nI i)) → pz_S 2 none am_r182 1 Q 10 [(1, .int (nI i)), (0, .ref 154)] [] h) from ⟨fun _ => ?_, fun hz => absurd (nI_le (by omega) (by omega)) hz⟩)
    exact am_goX 1 (show (none : Option FieldType) = none ∧ h.2.2.2.2 = 175 ∧ _ from ⟨rfl, ex_175 hP, hQ _ hP rfl (fun _ _ _ => rfl) (fun e he => hj e (by omega))⟩)
  | succ m ih =>
    intro i h hi hP e1 hj hQ
    refine am_goX 3 (show am_rc h 154 11 ∧ 1 ≤ 8 ∧ h.2.2.2.2 + am_al 183 ≤ 175 ∧ am_call am_cod 1 183 [.ref 154] h (fun vv h' => pz_S 2 none am_r182 1 Q 7 [(1, .int (nI i)), (0, .ref 154)] (vv.toList ++ [.int (nI i)]) h') from ⟨Or.inl ⟨by decide, ex_154 hP⟩, by decide, ex_lim hP rfl, b_183 hP ?_⟩)
    rw [e1]
    refine am_goX 1 (show ((nI E) ≤ (nI i) → pz_S 2 none am_r182 1 Q 28 [(1, .int (nI i)), (0, .ref 154)] [] h) ∧ (¬ ((nI E) ≤ (nI i)) → pz_S 2 none am_r182 1 Q 10 [(1, .int (nI i)), (0, .ref 154)] [] h) from ⟨fun hz => absurd hz (by rw [nI_leI (by omega) (by omega)]; omega), fun _ => ?_⟩)
    refine am_goX 2 (show am_sh h 154 = some (11, 0) ∧ pz_S 2 none am_r182 1 Q 14 [(1, .int (nI i)), (0, .ref 154)] [am_rf (h.2.2.1 154 27)] h from ⟨ex_154 hP, ?_⟩)
    rw [ex_r154_27 (h := h) hP]
    refine am_goX 5 (show am_rc h 154 11 ∧ 2 ≤ 8 ∧ h.2.2.2.2 + am_al 184 ≤ 175 ∧ am_call am_cod 1 184 [.ref 154, .int (nI i), .int (Int32.ofInt 0)] h (fun vv h' => pz_S 2 none am_r182 1 Q 21 [(1, .int (nI i)), (0, .ref 154)] (vv.toList ++ [.int (nI i), .ref 172]) h') from ⟨Or.inl ⟨by decide, ex_154 hP⟩, by decide, ex_lim hP rfl, b_184 (by omega) hP ?_⟩)
    refine am_goX 1 (show ∃ jj nn : Nat, am_so h 172 = some (13, nn) ∧ jj < nn ∧ (nI i) = nI jj ∧ pz_S 2 none am_r182 1 Q 22 [(1, .int (nI i)), (0, .ref 154)] [] (am_wI h 172 jj ((h.1 160 (22 + 2 * i)))) from ⟨i, 5, ex_w172 hP, by omega, rfl, ?_⟩)
    refine am_goX 2 (show 1 < 2 ∧ pz_S 2 none am_r182 1 Q 2 [(1, .int ((nI i) + Int32.ofInt 1)), (0, .ref 154)] [] (am_wI h 172 i ((h.1 160 (22 + 2 * i)))) from ⟨by decide, ?_⟩)
    rw [xw_i1]
    refine ih (i + 1) _ (by omega) hP (by rw [em_wn _ _ (by omega)]; exact e1) (fun e he => ?_) (fun h1 p1 p2 p3 p4 => hQ h1 p1 p2 (fun o k hn => by rw [p3 o k hn, em_wn _ _ (by omega)]) (fun e he => by rw [p4 e he, em_wn _ _ (by omega)]))
    by_cases ee : e = i
    · rw [ee, em_we, em_wn _ _ (by omega)]
    · rw [em_wn _ _ (by omega), em_wn _ _ (by omega)]
      exact hj e (by omega)
theorem b_182 (hE : E ≤ 5) (hP : ex_P h) (e1 : h.1 160 1 = nI E) (hQ : ∀ h1, ex_P h1 → h1.2 = h.2 → (∀ o k, ¬ (o = 172 ∧ k < 5) → h1.1 o k = h.1 o k) → (∀ e, e < E → h1.1 172 e = h.1 160 (22 + 2 * e)) → Q none h1) : am_call am_cod 2 182 [.ref 154] h Q := by
  refine pz_call (n := 182) (nL := 2) (rt := none) (rows := am_r182) (d := 1) (by decide +kernel) (by decide +kernel) rfl (by funext pc; rfl) (ex_175 hP) (by exact Nat.le_of_ble_eq_true rfl) ?_
  refine am_goX 2 (show 1 < 2 ∧ pz_S 2 none am_r182 1 Q 2 [(1, .int (Int32.ofInt 0)), (0, .ref 154)] [] h from ⟨by decide, ?_⟩)
  exact b_182l hE E 0 h (Nat.zero_add _) hP e1 (fun e he => absurd he (Nat.not_lt_zero e)) hQ
theorem b_185b (hPm : P ≤ 6) : ∀ (m i : Nat) (h : am_H), i + m = P → ex_P h → h.1 160 0 = nI P → (∀ j, j < i → h.1 170 (2 + j) = h.1 160 (5 + 3 * j)) → (∀ h1, ex_P h1 → h1.2 = h.2 → (∀ o k, ¬ (o = 170 ∧ 2 ≤ k ∧ k < 2 + P) → h1.1 o k = h.1 o k) → (∀ j, j < P → h1.1 170 (2 + j) = h.1 160 (5 + 3 * j)) → Q none h1) → pz_S 3 none am_r185 1 Q 25 [(2, .int (nI i)), (0, .ref 154), (1, .int (Int32.ofInt 0))] [] h := by
  intro m
  induction m with
  | zero =>
    intro i h hi hP e1 hj hQ
    refine am_goX 3 (show am_rc h 154 11 ∧ 1 ≤ 8 ∧ h.2.2.2.2 + am_al 186 ≤ 175 ∧ am_call am_cod 1 186 [.ref 154] h (fun vv h' => pz_S 3 none am_r185 1 Q 30 [(2, .int (nI i)), (0, .ref 154), (1, .int (Int32.ofInt 0))] (vv.toList ++ [.int (nI i)]) h') from ⟨Or.inl ⟨by decide, ex_154 hP⟩, by decide, ex_lim hP rfl, b_186 hP ?_⟩)
    rw [e1]
    refine am_goX 1 (show ((nI P) ≤ (nI i) → pz_S 3 none am_r185 1 Q 55 [(2, .int (nI i)), (0, .ref 154), (1, .int (Int32.ofInt 0))] [] h) ∧ (¬ ((nI P) ≤ (nI i)) → pz_S 3 none am_r185 1 Q 33 [(2, .int (nI i)), (0, .ref 154), (1, .int (Int32.ofInt 0))] [] h) from ⟨fun _ => ?_, fun hz => absurd (nI_le (by omega) (by omega)) hz⟩)
    exact am_goX 1 (show (none : Option FieldType) = none ∧ h.2.2.2.2 = 175 ∧ _ from ⟨rfl, ex_175 hP, hQ _ hP rfl (fun _ _ _ => rfl) (fun e he => hj e (by omega))⟩)
  | succ m ih =>
    intro i h hi hP e1 hj hQ
    refine am_goX 3 (show am_rc h 154 11 ∧ 1 ≤ 8 ∧ h.2.2.2.2 + am_al 186 ≤ 175 ∧ am_call am_cod 1 186 [.ref 154] h (fun vv h' => pz_S 3 none am_r185 1 Q 30 [(2, .int (nI i)), (0, .ref 154), (1, .int (Int32.ofInt 0))] (vv.toList ++ [.int (nI i)]) h') from ⟨Or.inl ⟨by decide, ex_154 hP⟩, by decide, ex_lim hP rfl, b_186 hP ?_⟩)
    rw [e1]
    refine am_goX 1 (show ((nI P) ≤ (nI i) → pz_S 3 none am_r185 1 Q 55 [(2, .int (nI i)), (0, .ref 154), (1, .int (Int32.ofInt 0))] [] h) ∧ (¬ ((nI P) ≤ (nI i)) → pz_S 3 none am_r185 1 Q 33 [(2, .int (nI i)), (0, .ref 154), (1, .int (Int32.ofInt 0))] [] h) from ⟨fun hz => absurd hz (by rw [nI_leI (by omega) (by omega)]; omega), fun _ => ?_⟩)
    refine am_goX 2 (show am_sh h 154 = some (11, 0) ∧ pz_S 3 none am_r185 1 Q 37 [(2, .int (nI i)), (0, .ref 154), (1, .int (Int32.ofInt 0))] [am_rf (h.2.2.1 154 24)] h from ⟨ex_154 hP, ?_⟩)
    rw [ex_r154_24 (h := h) hP]
    refine am_goX 9 (show am_rc h 154 11 ∧ 2 ≤ 8 ∧ h.2.2.2.2 + am_al 187 ≤ 175 ∧ am_call am_cod 1 187 [.ref 154, .int (nI i), .int (Int32.ofInt 1)] h (fun vv h' => pz_S 3 none am_r185 1 Q 48 [(2, .int (nI i)), (0, .ref 154), (1, .int (Int32.ofInt 0))] (vv.toList ++ [.int (((Int32.ofInt 0) + (Int32.ofInt 2)) + (nI i)), .ref 170]) h') from ⟨Or.inl ⟨by decide, ex_154 hP⟩, by decide, ex_lim hP rfl, b_187 (by omega) hP ?_⟩)
    refine am_goX 1 (show ∃ jj nn : Nat, am_so h 170 = some (13, nn) ∧ jj < nn ∧ (((Int32.ofInt 0) + (Int32.ofInt 2)) + (nI i)) = nI jj ∧ pz_S 3 none am_r185 1 Q 49 [(2, .int (nI i)), (0, .ref 154), (1, .int (Int32.ofInt 0))] [] (am_wI h 170 jj ((h.1 160 (5 + 3 * i)))) from ⟨(2 + i), 1127, ex_w170 hP, by omega, (by rw [show Int32.ofInt 0 + Int32.ofInt 2 = nI 2 by decide]; exact nI_add 2 i), ?_⟩)
    refine am_goX 2 (show 2 < 3 ∧ pz_S 3 none am_r185 1 Q 25 [(2, .int ((nI i) + Int32.ofInt 1)), (0, .ref 154), (1, .int (Int32.ofInt 0))] [] (am_wI h 170 (2 + i) ((h.1 160 (5 + 3 * i)))) from ⟨by decide, ?_⟩)
    rw [xw_i1]
    refine ih (i + 1) _ (by omega) hP (by rw [em_wn _ _ (by omega)]; exact e1) (fun e he => ?_) (fun h1 p1 p2 p3 p4 => hQ h1 p1 p2 (fun o k hn => by rw [p3 o k hn, em_wn _ _ (by omega)]) (fun e he => by rw [p4 e he, em_wn _ _ (by omega)]))
    by_cases ee : e = i
    · rw [ee, em_we, em_wn _ _ (by omega)]
    · rw [em_wn _ _ (by omega), em_wn _ _ (by omega)]
      exact hj e (by omega)
theorem b_185a (hPm : P ≤ 6) : ∀ (m i : Nat) (h : am_H), i + m = 24 → ex_P h → h.1 160 0 = nI P → (∀ j, j < i → h.1 170 j = 0) → (∀ h1, ex_P h1 → h1.2 = h.2 → (∀ o k, ¬ (o = 170 ∧ k < 24) → h1.1 o k = h.1 o k) → (∀ k, k < 24 → h1.1 170 k = bs_v P h k) → Q none h1) → pz_S 3 none am_r185 1 Q 2 [(2, .int (nI i)), (0, .ref 154), (1, .int (Int32.ofInt 0))] [] h := by
  intro m
  induction m with
  | zero =>
    intro i h hi hP e1 hj hQ
    refine am_goX 3 (show ((Int8.ofInt 24).toInt32 ≤ (nI i) → pz_S 3 none am_r185 1 Q 23 [(2, .int (nI i)), (0, .ref 154), (1, .int (Int32.ofInt 0))] [] h) ∧ (¬ ((Int8.ofInt 24).toInt32 ≤ (nI i)) → pz_S 3 none am_r185 1 Q 8 [(2, .int (nI i)), (0, .ref 154), (1, .int (Int32.ofInt 0))] [] h) from ⟨fun _ => ?_, fun hz => absurd (show nI 24 ≤ nI i from nI_le (by omega) (by omega)) hz⟩)
    refine am_goX 2 (show 2 < 3 ∧ pz_S 3 none am_r185 1 Q 25 [(2, .int (Int32.ofInt 0)), (0, .ref 154), (1, .int (Int32.ofInt 0))] [] h from ⟨by decide, ?_⟩)
    exact b_185b hPm P 0 h (Nat.zero_add _) hP e1 (fun j hj1 => absurd hj1 (Nat.not_lt_zero j)) (fun h1 p1 p2 p3 p4 => hQ h1 p1 p2 (fun o k hn => p3 o k (by omega)) (fun k hk => by
      unfold bs_v
      by_cases g : 2 ≤ k ∧ k < 2 + P
      · rw [if_pos g]
        have := p4 (k - 2) (by omega)
        rw [show 2 + (k - 2) = k by omega] at this
        exact this
      · rw [if_neg g, p3 170 k (by omega)]
        exact hj k (by omega)))
  | succ m ih =>
    intro i h hi hP e1 hj hQ
    refine am_goX 3 (show ((Int8.ofInt 24).toInt32 ≤ (nI i) → pz_S 3 none am_r185 1 Q 23 [(2, .int (nI i)), (0, .ref 154), (1, .int (Int32.ofInt 0))] [] h) ∧ (¬ ((Int8.ofInt 24).toInt32 ≤ (nI i)) → pz_S 3 none am_r185 1 Q 8 [(2, .int (nI i)), (0, .ref 154), (1, .int (Int32.ofInt 0))] [] h) from ⟨fun hz => absurd hz (show ¬ nI 24 ≤ nI i by rw [nI_leI (by omega) (by omega)]; omega), fun _ => ?_⟩)
    refine am_goX 2 (show am_sh h 154 = some (11, 0) ∧ pz_S 3 none am_r185 1 Q 12 [(2, .int (nI i)), (0, .ref 154), (1, .int (Int32.ofInt 0))] [am_rf (h.2.2.1 154 24)] h from ⟨ex_154 hP, ?_⟩)
    rw [ex_r154_24 (h := h) hP]
    refine am_goX 5 (show ∃ jj nn : Nat, am_so h 170 = some (13, nn) ∧ jj < nn ∧ ((Int32.ofInt 0) + (nI i)) = nI jj ∧ pz_S 3 none am_r185 1 Q 17 [(2, .int (nI i)), (0, .ref 154), (1, .int (Int32.ofInt 0))] [] (am_wI h 170 jj ((Int32.ofInt 0))) from ⟨i, 1127, ex_w170 hP, by omega, (by exact Int32.zero_add _), ?_⟩)
    refine am_goX 2 (show 2 < 3 ∧ pz_S 3 none am_r185 1 Q 2 [(2, .int ((nI i) + Int32.ofInt 1)), (0, .ref 154), (1, .int (Int32.ofInt 0))] [] (am_wI h 170 i ((Int32.ofInt 0))) from ⟨by decide, ?_⟩)
    rw [xw_i1]
    refine ih (i + 1) _ (by omega) hP (by rw [em_wn _ _ (by omega)]; exact e1) (fun e he => ?_) (fun h1 p1 p2 p3 p4 => hQ h1 p1 p2 (fun o k hn => by rw [p3 o k hn, em_wn _ _ (by omega)]) (fun k hk => by
      rw [p4 k hk]
      unfold bs_v
      by_cases g : 2 ≤ k ∧ k < 2 + P
      · rw [if_pos g, if_pos g, em_wn _ _ (by omega)]
      · rw [if_neg g, if_neg g]))
    by_cases ee : e = i
    · rw [ee, em_we]
      rfl
    · rw [em_wn _ _ (by omega)]
      exact hj e (by omega)
theorem b_185 (hPm : P ≤ 6) (hP : ex_P h) (e1 : h.1 160 0 = nI P) (hQ : ∀ h1, ex_P h1 → h1.2 = h.2 → (∀ o k, ¬ (o = 170 ∧ k < 24) → h1.1 o k = h.1 o k) → (∀ k, k < 24 → h1.1 170 k = bs_v P h k) → Q none h1) : am_call am_cod 2 185 [.ref 154, .int (Int32.ofInt 0)] h Q := by
  refine pz_call (n := 185) (nL := 3) (rt := none) (rows := am_r185) (d := 1) (by decide +kernel) (by decide +kernel) rfl (by funext pc; rfl) (ex_175 hP) (by exact Nat.le_of_ble_eq_true rfl) ?_
  refine am_goX 2 (show 2 < 3 ∧ pz_S 3 none am_r185 1 Q 2 [(2, .int (Int32.ofInt 0)), (0, .ref 154), (1, .int (Int32.ofInt 0))] [] h from ⟨by decide, ?_⟩)
  exact b_185a hPm 24 0 h rfl hP e1 (fun e he => absurd he (Nat.not_lt_zero e)) hQ
theorem b_181 (hPm : P ≤ 6) (hE : E ≤ 5) (hP : ex_P h) (e0 : h.1 160 0 = nI P) (e1 : h.1 160 1 = nI E) (hQ : ∀ h1, ex_P h1 → bR P E h h1 → Q none h1) : am_call am_cod 3 181 [.ref 154] h Q := by
  refine pz_call (n := 181) (nL := 2) (rt := none) (rows := am_r181) (d := 2) (by decide +kernel) (by decide +kernel) rfl (by funext pc; rfl) (ex_175 hP) (by exact Nat.le_of_ble_eq_true rfl) ?_
  refine am_goX 2 (show am_rc h 154 11 ∧ 0 ≤ 8 ∧ h.2.2.2.2 + am_al 182 ≤ 175 ∧ am_call am_cod 2 182 [.ref 154] h (fun vv h' => pz_S 2 none am_r181 2 Q 4 [(0, .ref 154)] (vv.toList ++ []) h') from ⟨Or.inl ⟨by decide, ex_154 hP⟩, by decide, ex_lim hP rfl, b_182 hE hP e1 (fun h1 p1 p2 p3 p4 => ?_)⟩)
  refine am_goX 3 (show am_rc h1 154 11 ∧ 0 ≤ 8 ∧ h1.2.2.2.2 + am_al 185 ≤ 175 ∧ am_call am_cod 2 185 [.ref 154, .int (Int32.ofInt 0)] h1 (fun vv h' => pz_S 2 none am_r181 2 Q 9 [(0, .ref 154)] (vv.toList ++ []) h') from ⟨Or.inl ⟨by decide, ex_154 p1⟩, by decide, ex_lim p1 rfl, b_185 hPm p1 (by rw [p3 160 0 (by omega)]; exact e0) (fun h2 q1 q2 q3 q4 => ?_)⟩)
  refine am_goX 2 (show am_sh h2 154 = some (11, 0) ∧ pz_S 2 none am_r181 2 Q 13 [(0, .ref 154)] [am_rf (h2.2.2.1 154 24)] h2 from ⟨ex_154 q1, ?_⟩)
  rw [ex_r154_24 (h := h2) q1]
  refine am_goX 3 (show ∃ jj nn : Nat, am_so h2 170 = some (13, nn) ∧ jj < nn ∧ (Int8.ofInt 24).toInt32 = nI jj ∧ pz_S 2 none am_r181 2 Q 17 [(0, .ref 154)] [] (am_wI h2 170 jj ((Int32.ofInt 0))) from ⟨24, 1127, ex_w170 q1, by decide, by decide, ?_⟩)
  refine am_goX 2 (show am_sh (am_wI h2 170 24 ((Int32.ofInt 0))) 154 = some (11, 0) ∧ pz_S 2 none am_r181 2 Q 21 [(0, .ref 154)] [am_rf ((am_wI h2 170 24 ((Int32.ofInt 0))).2.2.1 154 21)] (am_wI h2 170 24 ((Int32.ofInt 0))) from ⟨ex_154 q1, ?_⟩)
  rw [ex_r154_21 (h := am_wI h2 170 24 ((Int32.ofInt 0))) q1]
  refine am_goX 3 (show ∃ jj nn : Nat, am_so (am_wI h2 170 24 ((Int32.ofInt 0))) 167 = some (13, nn) ∧ jj < nn ∧ (Int32.ofInt 0) = nI jj ∧ pz_S 2 none am_r181 2 Q 24 [(0, .ref 154)] [] (am_wI (am_wI h2 170 24 ((Int32.ofInt 0))) 167 jj ((Int32.ofInt 0))) from ⟨0, 250, ex_w167 q1, by decide, by decide, ?_⟩)
  refine am_goX 3 (show am_sh (am_wI (am_wI h2 170 24 ((Int32.ofInt 0))) 167 0 ((Int32.ofInt 0))) 154 = some (11, 0) ∧ narrow (am_fty 11 25) (.int ((Int32.ofInt 0))) = .int ((Int32.ofInt 0)) ∧ fits (am_fty 11 25) (.int ((Int32.ofInt 0))) = true ∧ pz_S 2 none am_r181 2 Q 29 [(0, .ref 154)] [] (am_wI (am_wI (am_wI h2 170 24 ((Int32.ofInt 0))) 167 0 ((Int32.ofInt 0))) 154 25 ((Int32.ofInt 0))) from ⟨ex_154 q1, rfl, rfl, ?_⟩)
  refine am_goX 5 (show 1 < 2 ∧ ((Int32.ofInt 4) ≤ (Int32.ofInt 0) → pz_S 2 none am_r181 2 Q 49 [(1, .int (Int32.ofInt 0)), (0, .ref 154)] [] (am_wI (am_wI (am_wI h2 170 24 ((Int32.ofInt 0))) 167 0 ((Int32.ofInt 0))) 154 25 ((Int32.ofInt 0)))) ∧ (¬ ((Int32.ofInt 4) ≤ (Int32.ofInt 0)) → pz_S 2 none am_r181 2 Q 36 [(1, .int (Int32.ofInt 0)), (0, .ref 154)] [] (am_wI (am_wI (am_wI h2 170 24 ((Int32.ofInt 0))) 167 0 ((Int32.ofInt 0))) 154 25 ((Int32.ofInt 0)))) from ⟨by decide, fun hz => absurd hz (by decide), fun _ => ?_⟩)
  refine am_goX 2 (show am_sh (am_wI (am_wI (am_wI h2 170 24 ((Int32.ofInt 0))) 167 0 ((Int32.ofInt 0))) 154 25 ((Int32.ofInt 0))) 154 = some (11, 0) ∧ pz_S 2 none am_r181 2 Q 40 [(1, .int (Int32.ofInt 0)), (0, .ref 154)] [am_rf ((am_wI (am_wI (am_wI h2 170 24 ((Int32.ofInt 0))) 167 0 ((Int32.ofInt 0))) 154 25 ((Int32.ofInt 0))).2.2.1 154 26)] (am_wI (am_wI (am_wI h2 170 24 ((Int32.ofInt 0))) 167 0 ((Int32.ofInt 0))) 154 25 ((Int32.ofInt 0))) from ⟨ex_154 q1, ?_⟩)
  rw [ex_r154_26 (h := am_wI (am_wI (am_wI h2 170 24 ((Int32.ofInt 0))) 167 0 ((Int32.ofInt 0))) 154 25 ((Int32.ofInt 0))) q1]
  refine am_goX 3 (show ∃ jj nn : Nat, am_so (am_wI (am_wI (am_wI h2 170 24 ((Int32.ofInt 0))) 167 0 ((Int32.ofInt 0))) 154 25 ((Int32.ofInt 0))) 171 = some (15, nn) ∧ jj < nn ∧ (Int32.ofInt 0) = nI jj ∧ pz_S 2 none am_r181 2 Q 43 [(1, .int (Int32.ofInt 0)), (0, .ref 154)] [] (am_wI (am_wI (am_wI (am_wI h2 170 24 ((Int32.ofInt 0))) 167 0 ((Int32.ofInt 0))) 154 25 ((Int32.ofInt 0))) 171 jj (vp_nar .boolean (Int32.ofInt 0))) from ⟨0, 4, ex_w171 q1, by decide, by decide, ?_⟩)
  refine am_goX 5 (show 1 < 2 ∧ ((Int32.ofInt 4) ≤ ((Int32.ofInt 0) + Int32.ofInt 1) → pz_S 2 none am_r181 2 Q 49 [(1, .int ((Int32.ofInt 0) + Int32.ofInt 1)), (0, .ref 154)] [] (am_wI (am_wI (am_wI (am_wI h2 170 24 ((Int32.ofInt 0))) 167 0 ((Int32.ofInt 0))) 154 25 ((Int32.ofInt 0))) 171 0 (vp_nar .boolean (Int32.ofInt 0)))) ∧ (¬ ((Int32.ofInt 4) ≤ ((Int32.ofInt 0) + Int32.ofInt 1)) → pz_S 2 none am_r181 2 Q 36 [(1, .int ((Int32.ofInt 0) + Int32.ofInt 1)), (0, .ref 154)] [] (am_wI (am_wI (am_wI (am_wI h2 170 24 ((Int32.ofInt 0))) 167 0 ((Int32.ofInt 0))) 154 25 ((Int32.ofInt 0))) 171 0 (vp_nar .boolean (Int32.ofInt 0)))) from ⟨by decide, fun hz => absurd hz (by decide), fun _ => ?_⟩)
  refine am_goX 2 (show am_sh (am_wI (am_wI (am_wI (am_wI h2 170 24 ((Int32.ofInt 0))) 167 0 ((Int32.ofInt 0))) 154 25 ((Int32.ofInt 0))) 171 0 (vp_nar .boolean (Int32.ofInt 0))) 154 = some (11, 0) ∧ pz_S 2 none am_r181 2 Q 40 [(1, .int ((Int32.ofInt 0) + Int32.ofInt 1)), (0, .ref 154)] [am_rf ((am_wI (am_wI (am_wI (am_wI h2 170 24 ((Int32.ofInt 0))) 167 0 ((Int32.ofInt 0))) 154 25 ((Int32.ofInt 0))) 171 0 (vp_nar .boolean (Int32.ofInt 0))).2.2.1 154 26)] (am_wI (am_wI (am_wI (am_wI h2 170 24 ((Int32.ofInt 0))) 167 0 ((Int32.ofInt 0))) 154 25 ((Int32.ofInt 0))) 171 0 (vp_nar .boolean (Int32.ofInt 0))) from ⟨ex_154 q1, ?_⟩)
  rw [ex_r154_26 (h := am_wI (am_wI (am_wI (am_wI h2 170 24 ((Int32.ofInt 0))) 167 0 ((Int32.ofInt 0))) 154 25 ((Int32.ofInt 0))) 171 0 (vp_nar .boolean (Int32.ofInt 0))) q1]
  refine am_goX 3 (show ∃ jj nn : Nat, am_so (am_wI (am_wI (am_wI (am_wI h2 170 24 ((Int32.ofInt 0))) 167 0 ((Int32.ofInt 0))) 154 25 ((Int32.ofInt 0))) 171 0 (vp_nar .boolean (Int32.ofInt 0))) 171 = some (15, nn) ∧ jj < nn ∧ ((Int32.ofInt 0) + Int32.ofInt 1) = nI jj ∧ pz_S 2 none am_r181 2 Q 43 [(1, .int ((Int32.ofInt 0) + Int32.ofInt 1)), (0, .ref 154)] [] (am_wI (am_wI (am_wI (am_wI (am_wI h2 170 24 ((Int32.ofInt 0))) 167 0 ((Int32.ofInt 0))) 154 25 ((Int32.ofInt 0))) 171 0 (vp_nar .boolean (Int32.ofInt 0))) 171 jj (vp_nar .boolean (Int32.ofInt 0))) from ⟨1, 4, ex_w171 q1, by decide, by decide, ?_⟩)
  refine am_goX 5 (show 1 < 2 ∧ ((Int32.ofInt 4) ≤ (((Int32.ofInt 0) + Int32.ofInt 1) + Int32.ofInt 1) → pz_S 2 none am_r181 2 Q 49 [(1, .int (((Int32.ofInt 0) + Int32.ofInt 1) + Int32.ofInt 1)), (0, .ref 154)] [] (am_wI (am_wI (am_wI (am_wI (am_wI h2 170 24 ((Int32.ofInt 0))) 167 0 ((Int32.ofInt 0))) 154 25 ((Int32.ofInt 0))) 171 0 (vp_nar .boolean (Int32.ofInt 0))) 171 1 (vp_nar .boolean (Int32.ofInt 0)))) ∧ (¬ ((Int32.ofInt 4) ≤ (((Int32.ofInt 0) + Int32.ofInt 1) + Int32.ofInt 1)) → pz_S 2 none am_r181 2 Q 36 [(1, .int (((Int32.ofInt 0) + Int32.ofInt 1) + Int32.ofInt 1)), (0, .ref 154)] [] (am_wI (am_wI (am_wI (am_wI (am_wI h2 170 24 ((Int32.ofInt 0))) 167 0 ((Int32.ofInt 0))) 154 25 ((Int32.ofInt 0))) 171 0 (vp_nar .boolean (Int32.ofInt 0))) 171 1 (vp_nar .boolean (Int32.ofInt 0)))) from ⟨by decide, fun hz => absurd hz (by decide), fun _ => ?_⟩)
  refine am_goX 2 (show am_sh (am_wI (am_wI (am_wI (am_wI (am_wI h2 170 24 ((Int32.ofInt 0))) 167 0 ((Int32.ofInt 0))) 154 25 ((Int32.ofInt 0))) 171 0 (vp_nar .boolean (Int32.ofInt 0))) 171 1 (vp_nar .boolean (Int32.ofInt 0))) 154 = some (11, 0) ∧ pz_S 2 none am_r181 2 Q 40 [(1, .int (((Int32.ofInt 0) + Int32.ofInt 1) + Int32.ofInt 1)), (0, .ref 154)] [am_rf ((am_wI (am_wI (am_wI (am_wI (am_wI h2 170 24 ((Int32.ofInt 0))) 167 0 ((Int32.ofInt 0))) 154 25 ((Int32.ofInt 0))) 171 0 (vp_nar .boolean (Int32.ofInt 0))) 171 1 (vp_nar .boolean (Int32.ofInt 0))).2.2.1 154 26)] (am_wI (am_wI (am_wI (am_wI (am_wI h2 170 24 ((Int32.ofInt 0))) 167 0 ((Int32.ofInt 0))) 154 25 ((Int32.ofInt 0))) 171 0 (vp_nar .boolean (Int32.ofInt 0))) 171 1 (vp_nar .boolean (Int32.ofInt 0))) from ⟨ex_154 q1, ?_⟩)
  rw [ex_r154_26 (h := am_wI (am_wI (am_wI (am_wI (am_wI h2 170 24 ((Int32.ofInt 0))) 167 0 ((Int32.ofInt 0))) 154 25 ((Int32.ofInt 0))) 171 0 (vp_nar .boolean (Int32.ofInt 0))) 171 1 (vp_nar .boolean (Int32.ofInt 0))) q1]
  refine am_goX 3 (show ∃ jj nn : Nat, am_so (am_wI (am_wI (am_wI (am_wI (am_wI h2 170 24 ((Int32.ofInt 0))) 167 0 ((Int32.ofInt 0))) 154 25 ((Int32.ofInt 0))) 171 0 (vp_nar .boolean (Int32.ofInt 0))) 171 1 (vp_nar .boolean (Int32.ofInt 0))) 171 = some (15, nn) ∧ jj < nn ∧ (((Int32.ofInt 0) + Int32.ofInt 1) + Int32.ofInt 1) = nI jj ∧ pz_S 2 none am_r181 2 Q 43 [(1, .int (((Int32.ofInt 0) + Int32.ofInt 1) + Int32.ofInt 1)), (0, .ref 154)] [] (am_wI (am_wI (am_wI (am_wI (am_wI (am_wI h2 170 24 ((Int32.ofInt 0))) 167 0 ((Int32.ofInt 0))) 154 25 ((Int32.ofInt 0))) 171 0 (vp_nar .boolean (Int32.ofInt 0))) 171 1 (vp_nar .boolean (Int32.ofInt 0))) 171 jj (vp_nar .boolean (Int32.ofInt 0))) from ⟨2, 4, ex_w171 q1, by decide, by decide, ?_⟩)
  refine am_goX 5 (show 1 < 2 ∧ ((Int32.ofInt 4) ≤ ((((Int32.ofInt 0) + Int32.ofInt 1) + Int32.ofInt 1) + Int32.ofInt 1) → pz_S 2 none am_r181 2 Q 49 [(1, .int ((((Int32.ofInt 0) + Int32.ofInt 1) + Int32.ofInt 1) + Int32.ofInt 1)), (0, .ref 154)] [] (am_wI (am_wI (am_wI (am_wI (am_wI (am_wI h2 170 24 ((Int32.ofInt 0))) 167 0 ((Int32.ofInt 0))) 154 25 ((Int32.ofInt 0))) 171 0 (vp_nar .boolean (Int32.ofInt 0))) 171 1 (vp_nar .boolean (Int32.ofInt 0))) 171 2 (vp_nar .boolean (Int32.ofInt 0)))) ∧ (¬ ((Int32.ofInt 4) ≤ ((((Int32.ofInt 0) + Int32.ofInt 1) + Int32.ofInt 1) + Int32.ofInt 1)) → pz_S 2 none am_r181 2 Q 36 [(1, .int ((((Int32.ofInt 0) + Int32.ofInt 1) + Int32.ofInt 1) + Int32.ofInt 1)), (0, .ref 154)] [] (am_wI (am_wI (am_wI (am_wI (am_wI (am_wI h2 170 24 ((Int32.ofInt 0))) 167 0 ((Int32.ofInt 0))) 154 25 ((Int32.ofInt 0))) 171 0 (vp_nar .boolean (Int32.ofInt 0))) 171 1 (vp_nar .boolean (Int32.ofInt 0))) 171 2 (vp_nar .boolean (Int32.ofInt 0)))) from ⟨by decide, fun hz => absurd hz (by decide), fun _ => ?_⟩)
  refine am_goX 2 (show am_sh (am_wI (am_wI (am_wI (am_wI (am_wI (am_wI h2 170 24 ((Int32.ofInt 0))) 167 0 ((Int32.ofInt 0))) 154 25 ((Int32.ofInt 0))) 171 0 (vp_nar .boolean (Int32.ofInt 0))) 171 1 (vp_nar .boolean (Int32.ofInt 0))) 171 2 (vp_nar .boolean (Int32.ofInt 0))) 154 = some (11, 0) ∧ pz_S 2 none am_r181 2 Q 40 [(1, .int ((((Int32.ofInt 0) + Int32.ofInt 1) + Int32.ofInt 1) + Int32.ofInt 1)), (0, .ref 154)] [am_rf ((am_wI (am_wI (am_wI (am_wI (am_wI (am_wI h2 170 24 ((Int32.ofInt 0))) 167 0 ((Int32.ofInt 0))) 154 25 ((Int32.ofInt 0))) 171 0 (vp_nar .boolean (Int32.ofInt 0))) 171 1 (vp_nar .boolean (Int32.ofInt 0))) 171 2 (vp_nar .boolean (Int32.ofInt 0))).2.2.1 154 26)] (am_wI (am_wI (am_wI (am_wI (am_wI (am_wI h2 170 24 ((Int32.ofInt 0))) 167 0 ((Int32.ofInt 0))) 154 25 ((Int32.ofInt 0))) 171 0 (vp_nar .boolean (Int32.ofInt 0))) 171 1 (vp_nar .boolean (Int32.ofInt 0))) 171 2 (vp_nar .boolean (Int32.ofInt 0))) from ⟨ex_154 q1, ?_⟩)
  rw [ex_r154_26 (h := am_wI (am_wI (am_wI (am_wI (am_wI (am_wI h2 170 24 ((Int32.ofInt 0))) 167 0 ((Int32.ofInt 0))) 154 25 ((Int32.ofInt 0))) 171 0 (vp_nar .boolean (Int32.ofInt 0))) 171 1 (vp_nar .boolean (Int32.ofInt 0))) 171 2 (vp_nar .boolean (Int32.ofInt 0))) q1]
  refine am_goX 3 (show ∃ jj nn : Nat, am_so (am_wI (am_wI (am_wI (am_wI (am_wI (am_wI h2 170 24 ((Int32.ofInt 0))) 167 0 ((Int32.ofInt 0))) 154 25 ((Int32.ofInt 0))) 171 0 (vp_nar .boolean (Int32.ofInt 0))) 171 1 (vp_nar .boolean (Int32.ofInt 0))) 171 2 (vp_nar .boolean (Int32.ofInt 0))) 171 = some (15, nn) ∧ jj < nn ∧ ((((Int32.ofInt 0) + Int32.ofInt 1) + Int32.ofInt 1) + Int32.ofInt 1) = nI jj ∧ pz_S 2 none am_r181 2 Q 43 [(1, .int ((((Int32.ofInt 0) + Int32.ofInt 1) + Int32.ofInt 1) + Int32.ofInt 1)), (0, .ref 154)] [] (am_wI (am_wI (am_wI (am_wI (am_wI (am_wI (am_wI h2 170 24 ((Int32.ofInt 0))) 167 0 ((Int32.ofInt 0))) 154 25 ((Int32.ofInt 0))) 171 0 (vp_nar .boolean (Int32.ofInt 0))) 171 1 (vp_nar .boolean (Int32.ofInt 0))) 171 2 (vp_nar .boolean (Int32.ofInt 0))) 171 jj (vp_nar .boolean (Int32.ofInt 0))) from ⟨3, 4, ex_w171 q1, by decide, by decide, ?_⟩)
  refine am_goX 5 (show 1 < 2 ∧ ((Int32.ofInt 4) ≤ (((((Int32.ofInt 0) + Int32.ofInt 1) + Int32.ofInt 1) + Int32.ofInt 1) + Int32.ofInt 1) → pz_S 2 none am_r181 2 Q 49 [(1, .int (((((Int32.ofInt 0) + Int32.ofInt 1) + Int32.ofInt 1) + Int32.ofInt 1) + Int32.ofInt 1)), (0, .ref 154)] [] (am_wI (am_wI (am_wI (am_wI (am_wI (am_wI (am_wI h2 170 24 ((Int32.ofInt 0))) 167 0 ((Int32.ofInt 0))) 154 25 ((Int32.ofInt 0))) 171 0 (vp_nar .boolean (Int32.ofInt 0))) 171 1 (vp_nar .boolean (Int32.ofInt 0))) 171 2 (vp_nar .boolean (Int32.ofInt 0))) 171 3 (vp_nar .boolean (Int32.ofInt 0)))) ∧ (¬ ((Int32.ofInt 4) ≤ (((((Int32.ofInt 0) + Int32.ofInt 1) + Int32.ofInt 1) + Int32.ofInt 1) + Int32.ofInt 1)) → pz_S 2 none am_r181 2 Q 36 [(1, .int (((((Int32.ofInt 0) + Int32.ofInt 1) + Int32.ofInt 1) + Int32.ofInt 1) + Int32.ofInt 1)), (0, .ref 154)] [] (am_wI (am_wI (am_wI (am_wI (am_wI (am_wI (am_wI h2 170 24 ((Int32.ofInt 0))) 167 0 ((Int32.ofInt 0))) 154 25 ((Int32.ofInt 0))) 171 0 (vp_nar .boolean (Int32.ofInt 0))) 171 1 (vp_nar .boolean (Int32.ofInt 0))) 171 2 (vp_nar .boolean (Int32.ofInt 0))) 171 3 (vp_nar .boolean (Int32.ofInt 0)))) from ⟨by decide, fun _ => ?_, fun hz => absurd (by decide) hz⟩)
  refine am_goX 1 (show (none : Option FieldType) = none ∧ (am_wI (am_wI (am_wI (am_wI (am_wI (am_wI (am_wI h2 170 24 ((Int32.ofInt 0))) 167 0 ((Int32.ofInt 0))) 154 25 ((Int32.ofInt 0))) 171 0 (vp_nar .boolean (Int32.ofInt 0))) 171 1 (vp_nar .boolean (Int32.ofInt 0))) 171 2 (vp_nar .boolean (Int32.ofInt 0))) 171 3 (vp_nar .boolean (Int32.ofInt 0))).2.2.2.2 = 175 ∧ _ from ⟨rfl, ex_175 q1, hQ _ q1 ⟨q2.trans p2, fun o k hn => ?_, ⟨fun k hk => ?_, (by rw [em_wn _ _ (by omega), em_wn _ _ (by omega), em_wn _ _ (by omega), em_wn _ _ (by omega), em_wn _ _ (by omega), em_wn _ _ (by omega), em_we]; rfl)⟩, (by rw [em_wn _ _ (by omega), em_wn _ _ (by omega), em_wn _ _ (by omega), em_wn _ _ (by omega), em_wn _ _ (by omega), em_we]; rfl), (by rw [em_wn _ _ (by omega), em_wn _ _ (by omega), em_wn _ _ (by omega), em_wn _ _ (by omega), em_we]; rfl), fun m hm => ?_, fun e he => ?_⟩⟩)
  · rw [em_wn _ _ (by omega), em_wn _ _ (by omega), em_wn _ _ (by omega), em_wn _ _ (by omega), em_wn _ _ (by omega), em_wn _ _ (by omega), em_wn _ _ (by omega), q3 o k (by omega), p3 o k (by omega)]
  · rw [em_wn _ _ (by omega), em_wn _ _ (by omega), em_wn _ _ (by omega), em_wn _ _ (by omega), em_wn _ _ (by omega), em_wn _ _ (by omega), em_wn _ _ (by omega), q4 k hk]
    unfold bs_v
    by_cases g : 2 ≤ k ∧ k < 2 + P
    · rw [if_pos g, if_pos g, p3 160 _ (by omega)]
    · rw [if_neg g, if_neg g]
  · have hm : m = 0 ∨ m = 1 ∨ m = 2 ∨ m = 3 := by omega
    rcases hm with rfl | rfl | rfl | rfl
    · exact (by rw [em_wn _ _ (by omega), em_wn _ _ (by omega), em_wn _ _ (by omega), em_we]; rfl)
    · exact (by rw [em_wn _ _ (by omega), em_wn _ _ (by omega), em_we]; rfl)
    · exact (by rw [em_wn _ _ (by omega), em_we]; rfl)
    · exact (by rw [em_we]; rfl)
  · rw [em_wn _ _ (by omega), em_wn _ _ (by omega), em_wn _ _ (by omega), em_wn _ _ (by omega), em_wn _ _ (by omega), em_wn _ _ (by omega), em_wn _ _ (by omega), q3 172 e (by omega)]
    exact p4 e he
end
section
/-! canton OF THE REFERENCE, WITH ALL THAT IT LEAVES -/
variable {N a c p e z : Nat} {h h0 : am_H}
/-- names told as they were read -/
def nmc (hA : am_H) (k : Nat) (g : am_H) : Prop := ∀ j, j < k → g.2.1 163 j = hA.2.1 164 j ∧ g.1 165 j = hA.1 166 j
/-- what was read, told: the copies -/
def cqF (hA : am_H) (c z : Nat) (g : am_H) : Prop := ag_fr pz_Mk2 hA g ∧ (∀ j, j < 40 → g.1 160 j = hA.1 160 (40 + j)) ∧ (∀ j, j < c → g.1 161 j = hA.1 161 (1100 + j) ∧ g.1 162 j = hA.1 162 (1100 + j)) ∧ nmc hA z g ∧ g.1 154 18 = nI z
theorem pf_cn3 {Q : am_Q} {hA : am_H} (l : ln N a c h0 p e z hA) (hz : z ≤ 11) (hend : ∀ g, cq hA 40 c g → nmc hA z g → pz_S 2 (some .int) am_r188 35 Q 191 [(0, .ref 154)] [] g) : ∀ (m k : Nat) (g : am_H), k + m = z → cq hA 40 c g → nmc hA k g → pz_S 2 (some .int) am_r188 35 Q 153 [(1, .int (nI k)), (0, .ref 154)] [] g := by
  intro m
  induction m with
  | zero =>
    intro k g hk q nn
    have hP := q.1
    have e19 : g.1 154 19 = nI z := ((q.2.1.2 154 19 (by decide)).1).trans l.2.2.2.2.2.1
    refine am_goX 3 (show am_sh g 154 = some (11, 0) ∧ pz_S 2 (some .int) am_r188 35 Q 158 [(1, .int (nI k)), (0, .ref 154)] [.int (g.1 154 19), .int (nI k)] g from ⟨px_154 hP, ?_⟩)
    rw [e19]
    refine am_goX 1 (show ((nI z) ≤ (nI k) → pz_S 2 (some .int) am_r188 35 Q 191 [(1, .int (nI k)), (0, .ref 154)] [] g) ∧ (¬ ((nI z) ≤ (nI k)) → pz_S 2 (some .int) am_r188 35 Q 161 [(1, .int (nI k)), (0, .ref 154)] [] g) from ⟨fun hc => ?_, fun hc => ?_⟩)
    · exact sv_S sv_188 (by intro q hq; simp only [List.mem_cons, List.not_mem_nil, or_false] at hq; rcases hq with rfl <;> rfl) (hend g q (fun j hj => nn j (by omega)))
    · exact absurd (nI_le (by omega) (by omega)) hc
  | succ m ih =>
    intro k g hk q nn
    have hP := q.1
    have e19 : g.1 154 19 = nI z := ((q.2.1.2 154 19 (by decide)).1).trans l.2.2.2.2.2.1
    refine am_goX 3 (show am_sh g 154 = some (11, 0) ∧ pz_S 2 (some .int) am_r188 35 Q 158 [(1, .int (nI k)), (0, .ref 154)] [.int (g.1 154 19), .int (nI k)] g from ⟨px_154 hP, ?_⟩)
    rw [e19]
    refine am_goX 1 (show ((nI z) ≤ (nI k) → pz_S 2 (some .int) am_r188 35 Q 191 [(1, .int (nI k)), (0, .ref 154)] [] g) ∧ (¬ ((nI z) ≤ (nI k)) → pz_S 2 (some .int) am_r188 35 Q 161 [(1, .int (nI k)), (0, .ref 154)] [] g) from ⟨fun hc => ?_, fun hc => ?_⟩)
    · exact absurd hc (nI_ge (by omega) (by omega))
    · refine am_goX 2 (show am_sh g 154 = some (11, 0) ∧ pz_S 2 (some .int) am_r188 35 Q 165 [(1, .int (nI k)), (0, .ref 154)] [am_rf (g.2.2.1 154 14)] g from ⟨px_154 hP, ?_⟩)
      rw [px_r14 hP]
      refine am_goX 3 (show am_sh g 154 = some (11, 0) ∧ pz_S 2 (some .int) am_r188 35 Q 170 [(1, .int (nI k)), (0, .ref 154)] [am_rf (g.2.2.1 154 15), .int (nI k), .ref 163] g from ⟨px_154 hP, ?_⟩)
      rw [px_r15 hP]
      refine am_goX 2 (show ∃ jj nn : Nat, am_sh g 164 = some (14, nn) ∧ jj < nn ∧ (nI k) = nI jj ∧ pz_S 2 (some .int) am_r188 35 Q 172 [(1, .int (nI k)), (0, .ref 154)] [.long (g.2.1 164 jj), .int (nI k), .ref 163] g from ⟨k, 11, px_164 hP, by omega, rfl, ?_⟩)
      refine am_goX 1 (show ∃ jj nn : Nat, am_so g 163 = some (14, nn) ∧ jj < nn ∧ (nI k) = nI jj ∧ pz_S 2 (some .int) am_r188 35 Q 173 [(1, .int (nI k)), (0, .ref 154)] [] (am_wL g 163 jj ((g.2.1 164 k))) from ⟨k, 11, px_w163 hP, by omega, rfl, ?_⟩)
      have q1 := cq_163 (k := k) (v := g.2.1 164 k) q (by omega)
      have e1 : (am_wL g 163 k (g.2.1 164 k)).1 166 k = hA.1 166 k := (q.2.1.2 166 k (by simp [ag_atM, pz_Mk2])).1
      have n1 : (∀ j, j < k → (am_wL g 163 k (g.2.1 164 k)).2.1 163 j = hA.2.1 164 j ∧ (am_wL g 163 k (g.2.1 164 k)).1 165 j = hA.1 166 j) ∧ (am_wL g 163 k (g.2.1 164 k)).2.1 163 k = hA.2.1 164 k := ⟨fun j hj => ⟨(ex_ln (by omega)).trans (nn j hj).1, (nn j hj).2⟩, (ex_lq _ _ _).trans (q.2.1.2 164 k (by simp [ag_atM, pz_Mk2])).2.1⟩
      generalize am_wL g 163 k (g.2.1 164 k) = g1 at q1 e1 n1 ⊢
      have hP1 := q1.1
      refine am_goX 2 (show am_sh g1 154 = some (11, 0) ∧ pz_S 2 (some .int) am_r188 35 Q 177 [(1, .int (nI k)), (0, .ref 154)] [am_rf (g1.2.2.1 154 16)] g1 from ⟨px_154 hP1, ?_⟩)
      rw [px_r16 hP1]
      refine am_goX 3 (show am_sh g1 154 = some (11, 0) ∧ pz_S 2 (some .int) am_r188 35 Q 182 [(1, .int (nI k)), (0, .ref 154)] [am_rf (g1.2.2.1 154 17), .int (nI k), .ref 165] g1 from ⟨px_154 hP1, ?_⟩)
      rw [px_r17 hP1]
      refine am_goX 2 (show ∃ jj nn : Nat, am_sh g1 166 = some (13, nn) ∧ jj < nn ∧ (nI k) = nI jj ∧ pz_S 2 (some .int) am_r188 35 Q 184 [(1, .int (nI k)), (0, .ref 154)] [.int (g1.1 166 jj), .int (nI k), .ref 165] g1 from ⟨k, 11, px_166 hP1, by omega, rfl, ?_⟩)
      refine am_goX 1 (show ∃ jj nn : Nat, am_so g1 165 = some (13, nn) ∧ jj < nn ∧ (nI k) = nI jj ∧ pz_S 2 (some .int) am_r188 35 Q 185 [(1, .int (nI k)), (0, .ref 154)] [] (am_wI g1 165 jj ((g1.1 166 k))) from ⟨k, 11, px_w165 hP1, by omega, rfl, ?_⟩)
      have q2 := cq_165 (k := k) (v := g1.1 166 k) q1 (by omega) (by rw [e1]; exact (pz_nof l.1 (by omega)).2)
      have n2 : nmc hA (k + 1) (am_wI g1 165 k (g1.1 166 k)) := by
        intro j hj
        by_cases ej : j = k
        · rw [ej]
          exact ⟨n1.2, (em_we _ _ _ _).trans e1⟩
        · exact ⟨(n1.1 j (by omega)).1, by rw [em_wn _ _ (by omega)]; exact (n1.1 j (by omega)).2⟩
      generalize am_wI g1 165 k (g1.1 166 k) = g2 at q2 n2 ⊢
      have hP2 := q2.1
      refine am_goX 2 (show 1 < 2 ∧ pz_S 2 (some .int) am_r188 35 Q 153 [(1, .int ((nI k) + Int32.ofInt 1)), (0, .ref 154)] [] g2 from ⟨by decide, ?_⟩)
      rw [xw_i1]
      exact ih (k + 1) g2 (by omega) q2 n2
theorem pf_cnE {Q : am_Q} {hA : am_H} (l : ln N a c h0 p e z hA) (hz : z ≤ 11) (hp : p ≤ 6) (he : e ≤ 5) (hb : hA.2.2.2.1 ≤ 4096) (hQ : ∀ g h', pz_P N a c h' → ag_fr pz_Mz hA h' → cqF hA c z g → bR p e g h' → Q (some (.int (Int32.ofInt 0))) h') : pz_S 2 (some .int) am_r188 35 Q 74 [(0, .ref 154)] [] hA := by
  have hA0 : cq hA 0 0 hA := ⟨⟨l.1.1.1, l.1.1.2.1⟩, ag_fr.refl hA, fun j hj => absurd hj (by omega), fun j hj => absurd hj (by omega)⟩
  have hPA := hA0.1
  refine am_goX 2 (show 1 < 2 ∧ pz_S 2 (some .int) am_r188 35 Q 76 [(1, .int (Int32.ofInt 0)), (0, .ref 154)] [] hA from ⟨by decide, ?_⟩)
  refine pz_cn1 l hp he (fun g q => ?_) 40 0 hA rfl hA0
  have hP := q.1
  refine am_goX 2 (show 1 < 2 ∧ pz_S 2 (some .int) am_r188 35 Q 105 [(1, .int (Int32.ofInt 0)), (0, .ref 154)] [] g from ⟨by decide, ?_⟩)
  refine pz_cn2 l (fun g1 q1 => ?_) c 0 g (Nat.zero_add c) q
  have hP1 := q1.1
  refine am_goX 2 (show 1 < 2 ∧ pz_S 2 (some .int) am_r188 35 Q 153 [(1, .int (Int32.ofInt 0)), (0, .ref 154)] [] g1 from ⟨by decide, ?_⟩)
  refine pf_cn3 l hz (fun g2 q2 nn => ?_) z 0 g1 (Nat.zero_add z) q1 (fun j hj => absurd hj (Nat.not_lt_zero j))
  have hP2 := q2.1
  refine am_goX 4 (show am_sh g2 154 = some (11, 0) ∧ am_sh g2 154 = some (11, 0) ∧ narrow (am_fty 11 18) (.int ((g2.1 154 19))) = .int ((g2.1 154 19)) ∧ fits (am_fty 11 18) (.int ((g2.1 154 19))) = true ∧ pz_S 2 (some .int) am_r188 35 Q 199 [(0, .ref 154)] [] (am_wI g2 154 18 ((g2.1 154 19))) from ⟨px_154 hP2, px_154 hP2, rfl, rfl, ?_⟩)
  rw [((q2.2.1.2 154 19 (by decide)).1).trans l.2.2.2.2.2.1]
  have q3 := cq_18 q2 hz
  have n3 : cqF hA c z (am_wI g2 154 18 (nI z)) := ⟨q3.2.1, q3.2.2.1, q3.2.2.2, fun j hj => ⟨(nn j hj).1, by rw [em_wn _ _ (by omega)]; exact (nn j hj).2⟩, em_we _ _ _ _⟩
  generalize am_wI g2 154 18 (nI z) = g3 at q3 n3 ⊢
  have f3 := q3.2.1
  have hP3 : pz_P N a c g3 := by
    obtain ⟨p1, p2, p3, p4, p5, p6, p7⟩ := l.1
    refine ⟨⟨q3.1.1, q3.1.2, p1.2.2.1, ?_⟩, pz_told l q3, p3, ((f3.2 154 7 (by decide)).1).trans p4, p5, ((f3.2 154 13 (by decide)).1).trans p6, p7⟩
    rw [(f3.2 156 (N : Int).toNat (by simp [ag_atM, pz_Mk2])).1]
    exact p1.2.2.2
  refine am_goX 2 (show am_rc g3 154 11 ∧ 0 ≤ 8 ∧ g3.2.2.2.2 + am_al 181 ≤ 175 ∧ am_call am_cod 35 181 [.ref 154] g3 (fun vv h' => pz_S 2 (some .int) am_r188 35 Q 203 [(0, .ref 154)] (vv.toList ++ []) h') from ⟨pz_rc hP3, by decide, pz_lim hP3 rfl, am_call.up (am_det (by rw [f3.1]; exact hb) (pb_call (Q := fun v h4 => v = none ∧ pz_P N a c h4 ∧ ag_fr [(154, 25, 25), (167, 0, 0), (170, 0, 24), (171, 0, 3), (172, 0, 4)] g3 h4) hP3 (fun h4 q4 f4 => ⟨rfl, q4, f4⟩)) (b_181 (P := p) (E := e) (Q := fun v h4 => bR p e g3 h4) hp he (ex_G hP3.1.1 hP3.1.2.1) ((n3.2.1 0 (by decide)).trans l.2.2.2.1) ((n3.2.1 1 (by decide)).trans l.2.2.2.2.1) (fun h4 _ q => q)) ?_) (by decide)⟩)
  rintro v h4 ⟨rfl, q4, f4⟩ b4
  exact am_goX 2 (show (∃ ty, (some .int) = some ty ∧ narrow ty (.int ((Int32.ofInt 0))) = .int ((Int32.ofInt 0))) ∧ h4.2.2.2.2 = 175 ∧ _ from ⟨⟨.int, rfl, rfl⟩, pz_175 q4, hQ g3 h4 q4 ((ag_fr.refl hA).trans (by decide +kernel) (f3) |>.trans (by decide +kernel) f4) n3 b4⟩)
def pz_Mq : ag_M := [(154, 13, 13), (154, 19, 20), (160, 40, 79)]
def pz_Mf : ag_M := [(154, 0, 0), (154, 2, 3), (154, 7, 8), (154, 13, 13), (154, 19, 20), (156, 0, 1001), (157, 0, 1001), (158, 0, 1001), (160, 40, 79), (161, 1100, 2199), (162, 1100, 2199), (164, 0, 10), (166, 0, 10)]
theorem rf_canton {Q : am_Q} {sz : Nat} (hb : h.2.2.2.1 ≤ 4096) (hsz : h.1 154 2 = nI sz) (hz : sz ≤ 1000) (hw : ∀ w, w < 21 → h.2.1 159 w = rw_w w) (hP0 : pz_P N a c h) (hF : ∀ N' a' c' h' F, sp_canton (tt (h.1 155) sz) = .inl F → pz_P N' a' c' h' → rg h h' → ag_fr pz_Mf h h' → Q (some (.int F)) h') (hQ : ∀ N' a' c' p e s h6 hA g h', sp_canton (tt (h.1 155) sz) = .inr s → (p ≤ 6 ∧ e ≤ 5) → pz_P N' a' c' h' → rg h h' → ag_fr pz_Mf h hA → rr h6 (rz s.2) (tt (h.1 155) sz) N' s hA → ln N' a' c' h6 p e (p + e) hA → cqF hA c' (p + e) g → bR p e g h' → Q (some (.int (Int32.ofInt 0))) h') : am_call am_cod 36 188 [.ref 154] h Q := by
  refine pz_call (n := 188) (nL := 2) (rt := (some .int)) (rows := am_r188) (d := 35) (by decide +kernel) (by decide +kernel) rfl (by funext pc; rfl) (pz_175 hP0) (by exact Nat.le_of_ble_eq_true rfl) ?_
  refine am_goX 3 (show am_sh h 154 = some (11, 0) ∧ narrow (am_fty 11 0) (.int ((Int32.ofInt 0))) = .int ((Int32.ofInt 0)) ∧ fits (am_fty 11 0) (.int ((Int32.ofInt 0))) = true ∧ pz_S 2 (some .int) am_r188 35 Q 5 [(0, .ref 154)] [] (am_wI h 154 0 ((Int32.ofInt 0))) from ⟨pz_154 hP0, rfl, rfl, ?_⟩)
  have hP1 := pz_w (o := 154) (k := 0) (v := Int32.ofInt 0) hP0 (by omega) (by unfold ag_kp; omega) pz_s0
  have r1 : (am_wI h 154 0 (Int32.ofInt 0)).1 1 1 = h.1 1 1 ∧ (am_wI h 154 0 (Int32.ofInt 0)).2 = h.2 := ⟨em_wn h _ (by omega), rfl⟩
  have sz1 : (am_wI h 154 0 (Int32.ofInt 0)).1 154 2 = nI sz := by rw [em_wn h _ (by omega)]; exact hsz
  have hw1 : ∀ w, w < 21 → (am_wI h 154 0 (Int32.ofInt 0)).2.1 159 w = rw_w w := hw
  have hb1 : (am_wI h 154 0 (Int32.ofInt 0)).2.2.2.1 ≤ 4096 := hb
  have hT : (am_wI h 154 0 (Int32.ofInt 0)).1 155 = h.1 155 := by funext q; exact em_wn h _ (by omega)
  rw [← hT] at hQ hF
  have fm1 : ag_fr pz_Mf h (am_wI h 154 0 (Int32.ofInt 0)) := pz_fr (by decide)
  generalize am_wI h 154 0 (Int32.ofInt 0) = h1 at hP1 r1 sz1 hw1 hb1 hQ hF fm1 ⊢
  refine am_goX 2 (show am_rc h1 154 11 ∧ 0 ≤ 8 ∧ h1.2.2.2.2 + am_al 189 ≤ 175 ∧ am_call am_cod 35 189 [.ref 154] h1 (fun vv h' => pz_S 2 (some .int) am_r188 35 Q 9 [(0, .ref 154)] (vv.toList ++ []) h') from ⟨pz_rc hP1, by decide, pz_lim hP1 rfl, am_call.up (rx_cutall hP1 sz1 hz (fun N2 h2 hP2 f2 b2 t2 nsz k2 ep2 y6 y7 => ?_)) (by decide)⟩)
  have hw2 : ∀ w, w < 21 → h2.2.1 159 w = rw_w w := fun w hw => ((f2.2 159 w (at155 w).2.1).2.1).trans (hw1 w hw)
  have hb2 : h2.2.2.2.1 ≤ 4096 := by rw [f2.1]; exact hb1
  have g2 : gx (h1.1 155) sz N2 h2 := ⟨k2, y6, y7, hw2, hb2⟩
  have r2 : rf h2 h2 := ag_fr.refl h2
  refine am_goX 3 (show am_sh h2 154 = some (11, 0) ∧ narrow (am_fty 11 13) (.int ((Int32.ofInt 0))) = .int ((Int32.ofInt 0)) ∧ fits (am_fty 11 13) (.int ((Int32.ofInt 0))) = true ∧ pz_S 2 (some .int) am_r188 35 Q 14 [(0, .ref 154)] [] (am_wI h2 154 13 ((Int32.ofInt 0))) from ⟨pz_154 hP2, rfl, rfl, ?_⟩)
  have hP3 := pz_c0 hP2
  have b3 : (am_wI h2 154 13 (Int32.ofInt 0)).1 154 8 = 0 := by rw [em_wn h2 _ (by omega)]; exact b2
  have s3 : ag_fr pz_Mq h2 (am_wI h2 154 13 (Int32.ofInt 0)) := pz_fr (by decide)
  have r3 : rf h2 (am_wI h2 154 13 (Int32.ofInt 0)) := rf_t r2 (pz_fr (by decide))
  have g3 := gx_w (k := 13) (v := Int32.ofInt 0) g2
  have z3 : (am_wI h2 154 13 (Int32.ofInt 0)).1 154 13 = 0 := em_we h2 154 13 _
  generalize am_wI h2 154 13 (Int32.ofInt 0) = h3 at hP3 b3 r3 g3 z3 s3 ⊢
  refine am_goX 3 (show am_sh h3 154 = some (11, 0) ∧ narrow (am_fty 11 19) (.int ((Int32.ofInt 0))) = .int ((Int32.ofInt 0)) ∧ fits (am_fty 11 19) (.int ((Int32.ofInt 0))) = true ∧ pz_S 2 (some .int) am_r188 35 Q 19 [(0, .ref 154)] [] (am_wI h3 154 19 ((Int32.ofInt 0))) from ⟨pz_154 hP3, rfl, rfl, ?_⟩)
  have hP4 := pz_w (o := 154) (k := 19) (v := Int32.ofInt 0) hP3 (by omega) (by unfold ag_kp; omega) (pz_sgv pz_sg19 (by decide) (by decide))
  have b4 : (am_wI h3 154 19 (Int32.ofInt 0)).1 154 8 = 0 := by rw [em_wn h3 _ (by omega)]; exact b3
  have c4 : (am_wI h3 154 19 (Int32.ofInt 0)).1 154 19 = 0 := em_we h3 154 19 _
  have s4 : ag_fr pz_Mq h2 (am_wI h3 154 19 (Int32.ofInt 0)) := s3.trans (by decide +kernel) (pz_fr (M := pz_Mq) (by decide))
  have r4 : rf h2 (am_wI h3 154 19 (Int32.ofInt 0)) := rf_t r3 (pz_fr (by decide))
  have g4 := gx_w (k := 19) (v := Int32.ofInt 0) g3
  have z4 : (am_wI h3 154 19 (Int32.ofInt 0)).1 154 13 = 0 := by rw [em_wn h3 _ (by omega)]; exact z3
  generalize am_wI h3 154 19 (Int32.ofInt 0) = h4 at hP4 b4 c4 r4 g4 z4 s4 ⊢
  refine am_goX 3 (show am_sh h4 154 = some (11, 0) ∧ narrow (am_fty 11 20) (.int ((Int32.ofInt 0))) = .int ((Int32.ofInt 0)) ∧ fits (am_fty 11 20) (.int ((Int32.ofInt 0))) = true ∧ pz_S 2 (some .int) am_r188 35 Q 24 [(0, .ref 154)] [] (am_wI h4 154 20 ((Int32.ofInt 0))) from ⟨pz_154 hP4, rfl, rfl, ?_⟩)
  have hP5 := pz_w (o := 154) (k := 20) (v := Int32.ofInt 0) hP4 (by omega) (by unfold ag_kp; omega) pz_s20
  have b5 : (am_wI h4 154 20 (Int32.ofInt 0)).1 154 8 = 0 := by rw [em_wn h4 _ (by omega)]; exact b4
  have c5 : (am_wI h4 154 20 (Int32.ofInt 0)).1 154 19 = 0 := by rw [em_wn h4 _ (by omega)]; exact c4
  have d5 : (am_wI h4 154 20 (Int32.ofInt 0)).1 154 20 = 0 := em_we h4 154 20 _
  have s5 : ag_fr pz_Mq h2 (am_wI h4 154 20 (Int32.ofInt 0)) := s4.trans (by decide +kernel) (pz_fr (M := pz_Mq) (by decide))
  have r5 : rf h2 (am_wI h4 154 20 (Int32.ofInt 0)) := rf_t r4 (pz_fr (by decide))
  have g5 := gx_w (k := 20) (v := Int32.ofInt 0) g4
  have z5 : (am_wI h4 154 20 (Int32.ofInt 0)).1 154 13 = 0 := by rw [em_wn h4 _ (by omega)]; exact z4
  generalize am_wI h4 154 20 (Int32.ofInt 0) = h5 at hP5 b5 c5 d5 r5 g5 z5 s5 ⊢
  refine am_goX 3 (show am_rc h5 154 11 ∧ 0 ≤ 8 ∧ h5.2.2.2.2 + am_al 180 ≤ 175 ∧ am_call am_cod 35 180 [.ref 154, .int (Int8.ofInt 40).toInt32] h5 (fun vv h' => pz_S 2 (some .int) am_r188 35 Q 30 [(0, .ref 154)] (vv.toList ++ []) h') from ⟨pz_rc hP5, by decide, pz_lim hP5 rfl, am_call.up (rx_std hP5 (fun h6 hP6 f6 x40 x41 x43 xx => ?_)) (by decide)⟩)
  have r6 : rf h2 h6 := rf_t r5 (rf_of (by decide +kernel) f6)
  have rr6 : ag_fr pz_Mq h2 h6 := s5.trans (by decide +kernel) f6
  have l6 : ln N2 0 0 h6 0 0 (0 + 0) h6 := ⟨hP6, ag_fr.refl h6, ((f6.2 154 8 (by decide)).1).trans b5, x40, x41, ((f6.2 154 19 (by decide)).1).trans c5, Or.inl ⟨x43, rfl, Or.inl (((f6.2 154 20 (by decide)).1).trans d5)⟩⟩
  have g6 := gx_f g5 f6
  have fm2 : ag_fr pz_Mf h h2 := fm1.trans (by decide +kernel) f2
  have fm6 : ag_fr pz_Mf h h6 := fm2.trans (by decide +kernel) rr6
  have lx : rr h6 (rz sp_C0) (tt (h1.1 155) sz) N2 (0, sp_C0) h6 := by
    refine ⟨⟨rt_of (ex_G hP6.1.1 hP6.1.2.1) hz nsz g6.1 ep2 g6.2.1 g6.2.2.1 g6.2.2.2.1, ⟨hP6.2.2.2.1, Nat.zero_le _⟩, l6.2.2.1⟩, ⟨⟨x40, by decide, fun i hi => absurd hi (Nat.not_lt_zero i)⟩, ⟨x41, by decide, fun i hi => absurd hi (Nat.not_lt_zero i)⟩, fun p e hp he => ?_, ⟨xx 42 (by decide) (by decide) (by decide), fun _ => rfl, (by show sp_28 0; unfold sp_28; decide)⟩, ?_, ⟨?_, fun j hj => absurd hj (Nat.not_lt_zero j), fun q => absurd q (by decide), fun _ => rfl, x43⟩, ⟨l6.2.2.2.2.2.1, fun k hk => absurd hk (Nat.not_lt_zero k), fun i hi => absurd hi (Nat.not_lt_zero i), fun i hi => absurd hi (Nat.not_lt_zero i), fun k k' hk => absurd hk (Nat.not_lt_zero k)⟩⟩, ⟨rfl, fun o k _ => ⟨rfl, rfl⟩⟩, Nat.zero_le _⟩
    · rw [xx (46 + 3 * p) (by omega) (by omega) (by omega)]
      have key : ∀ e, e < 5 → sp_bit 0 (nI e) = false := by decide +kernel
      refine ⟨?_, by decide⟩
      rw [key e he]
      show false = (decide (e < 0) && _)
      rw [decide_eq_false (Nat.not_lt_zero e)]
      rfl
    · show h6.1 154 20 = rb2 false false
      exact ((f6.2 154 20 (by decide)).1).trans d5
    · show h6.1 154 13 = nI 0
      exact ((f6.2 154 13 (by decide)).1).trans z5
  refine rx_cnl (r := sp_canton (tt (h1.1 155) sz)) g6.2.2.2.2 (fun h7 F er7 f7 => ?_) (fun h7 a7 c7 p7 e7 s7 er7 l7 lx7 hp7 he7 => ?_) 1001 0 0 0 0 (0, sp_C0) h6 (by omega) rfl lx l6 (by decide) (by decide)
  · obtain ⟨⟨a9, c9, w1⟩, w2, w3⟩ := f7
    exact hF N2 a9 c9 h7 F er7 w1 (rg_of r1 f2 t2 (rf_t r6 (rf_of (by decide +kernel) w2))) (fm6.trans (by decide +kernel) w2)
  · exact pf_cnE l7 (by omega) hp7 he7 (by rw [l7.2.1.1]; exact g6.2.2.2.2) (fun g h8 hP8 r8 cq8 bR8 => hQ N2 a7 c7 p7 e7 s7 h6 h7 g h8 er7 ⟨hp7, he7⟩ hP8 (rg_of r1 f2 t2 (rf_t (rf_t r6 (rf_of (by decide +kernel) l7.2.1)) r8)) (fm6.trans (by decide +kernel) l7.2.1) lx7 l7 cq8 bR8)
end
section
/-! THE NAMES TOLD -/
/-- the names of the canton told -/
def rkN (C : sp_C) (h : am_H) : Prop := h.1 154 18 = nI (C.1.1 + C.2.1.1) ∧
  (∀ k, k < C.1.1 + C.2.1.1 → (∃ i, i < C.1.1 ∧ h.1 165 k = nI i ∧ h.2.1 163 k = C.1.2.1 i) ∨ (∃ i, i < C.2.1.1 ∧ h.1 165 k = nI (20 + i) ∧ h.2.1 163 k = C.2.1.2.1 i)) ∧
  (∀ i, i < C.1.1 → ∃ k, k < C.1.1 + C.2.1.1 ∧ h.1 165 k = nI i ∧ h.2.1 163 k = C.1.2.1 i) ∧
  (∀ i, i < C.2.1.1 → ∃ k, k < C.1.1 + C.2.1.1 ∧ h.1 165 k = nI (20 + i) ∧ h.2.1 163 k = C.2.1.2.1 i) ∧
  (∀ k k', k < C.1.1 + C.2.1.1 → k' < C.1.1 + C.2.1.1 → h.2.1 163 k = h.2.1 163 k' → k = k')
end
section
/-! MORE LOCALS DO NO HARM, FOR MORE ROWS -/
def sv2_ok (r : am_R) : Bool := sv_ok r || (match r with
  | (i, _, _, b, _, _) => match i with
    | .idiv | .irem | .ineg | .iushr | .ixor | .land | .lor | .ldiv | .lrem | .lshl | .lushr | .lshr | .aload _ | .astore _ | .astore_n _ | .tableswitch _ _ _ _ | .lookupswitch _ _ | .baload | .bastore => true
    | .ldc _ | .ldc_w _ => Nat.beq b 0
    | _ => false)
theorem sv2_stp {cp : am_P} {nL lim : Nat} {rt : Option FieldType} {pc : Nat} {r : am_R} {lv lv' : am_V} {st : List Value} {h : am_H} {K : Nat → am_V → List Value → am_H → Prop} {Q : am_Q} (hm : ∀ n As h Q Q', (∀ v h, Q v h → Q' v h) → cp n As h Q → cp n As h Q') (hok : sv2_ok r = true) (hv : sv lv lv') (hs : am_stp cp nL lim rt pc r lv st h K Q) :
    am_stp cp nL lim rt pc r lv' st h (fun pc lv2 st h => ∃ lv1, sv lv1 lv2 ∧ K pc lv1 st h) Q := by
  rcases Bool.or_eq_true_iff.mp hok with w | w
  · exact sv_stp hm w hv hs
  · obtain ⟨i, nx, a, b, c, d⟩ := r
    cases i
    case idiv => exact am_pI.imp (fun _ _ q => am_pI.imp (fun _ _ q => ⟨q.1, lv, hv, q.2⟩) q) hs
    case irem => exact am_pI.imp (fun _ _ q => am_pI.imp (fun _ _ q => ⟨q.1, lv, hv, q.2⟩) q) hs
    case ineg => exact am_pI.imp (fun _ _ q => ⟨lv, hv, q⟩) hs
    case iushr => exact am_pI.imp (fun _ _ q => am_pI.imp (fun _ _ q => ⟨lv, hv, q⟩) q) hs
    case ixor => exact am_pI.imp (fun _ _ q => am_pI.imp (fun _ _ q => ⟨lv, hv, q⟩) q) hs
    case land => exact am_pL.imp (fun _ _ q => am_pL.imp (fun _ _ q => ⟨lv, hv, q⟩) q) hs
    case lor => exact am_pL.imp (fun _ _ q => am_pL.imp (fun _ _ q => ⟨lv, hv, q⟩) q) hs
    case ldiv => exact am_pL.imp (fun _ _ q => am_pL.imp (fun _ _ q => ⟨q.1, lv, hv, q.2⟩) q) hs
    case lrem => exact am_pL.imp (fun _ _ q => am_pL.imp (fun _ _ q => ⟨q.1, lv, hv, q.2⟩) q) hs
    case lshl => exact am_pI.imp (fun _ _ q => am_pL.imp (fun _ _ q => ⟨lv, hv, q⟩) q) hs
    case lshr => exact am_pI.imp (fun _ _ q => am_pL.imp (fun _ _ q => ⟨lv, hv, q⟩) q) hs
    case lushr => exact am_pI.imp (fun _ _ q => am_pL.imp (fun _ _ q => ⟨lv, hv, q⟩) q) hs
    case aload k => exact sv_la hv (fun _ q => ⟨lv, hv, q⟩) hs
    case astore k => exact am_pR.imp (fun _ _ q => ⟨q.1, _, sv_s1 hv, q.2⟩) hs
    case astore_n k => exact am_pR.imp (fun _ _ q => ⟨q.1, _, sv_s1 hv, q.2⟩) hs
    case tableswitch df lo hi os => exact am_pI.imp (fun _ _ q => ⟨fun z => ⟨lv, hv, q.1 z⟩, fun j z1 z2 => ⟨lv, hv, q.2 j z1 z2⟩⟩) hs
    case lookupswitch df ps => exact am_pI.imp (fun _ _ q => ⟨lv, hv, q⟩) hs
    case baload => exact am_pI.imp (fun _ _ q => am_pR.imp (fun _ _ q => q.imp (fun ⟨j, n, q1, q2, q3, q4⟩ => ⟨j, n, q1, q2, q3, lv, hv, q4⟩) (fun ⟨j, n, q1, q2, q3, q4, q5⟩ => ⟨j, n, q1, q2, q3, q4, lv, hv, q5⟩)) q) hs
    case bastore => exact am_pI.imp (fun _ _ q => am_pI.imp (fun _ _ q => am_pR.imp (fun _ _ ⟨j, n, q1, q2, q3, q4⟩ => ⟨j, n, q1, q2, q3, lv, hv, q4⟩) q) q) hs
    case ldc k =>
      have hb : Nat.beq b 1 = false := by
        have : b = 0 := Nat.eq_of_beq_eq_true w
        rw [this]; rfl
      simp only [am_stp, hb] at hs ⊢
      exact ⟨lv, hv, hs⟩
    case ldc_w k =>
      have hb : Nat.beq b 1 = false := by
        have : b = 0 := Nat.eq_of_beq_eq_true w
        rw [this]; rfl
      simp only [am_stp, hb] at hs ⊢
      exact ⟨lv, hv, hs⟩
    all_goals exact absurd w (by simp)
theorem sv2_X {cp : am_P} {nL lim : Nat} {rt : Option FieldType} {cod : Nat → Option am_R} {Q : am_Q} {pc : Nat} {lv lv' : am_V} {st : List Value} {h : am_H} (hm : ∀ n As h Q Q', (∀ v h, Q v h → Q' v h) → cp n As h Q → cp n As h Q') (hok : ∀ pc r, cod pc = some r → sv2_ok r = true) (hv : sv lv lv') (k : am_X cp nL lim rt cod (fun _ _ _ _ => False) Q pc lv st h) : am_X cp nL lim rt cod (fun _ _ _ _ => False) Q pc lv' st h :=
  k (fun pc lv st h => ∀ lv', sv lv lv' → am_X cp nL lim rt cod (fun _ _ _ _ => False) Q pc lv' st h) (fun _ _ _ _ z => z.elim) (fun pc lv st h r K0 Q0 hc hs hk hq lv' hv => fun P hE hP => hP pc lv' st h r _ Q0 hc (sv2_stp hm (hok pc r hc) hv hs) (fun pc lv2 st h ⟨lv1, w1, w2⟩ => hk pc lv1 st h w2 lv2 w1 P hE hP) hq) lv' hv
theorem sv_S2 {nL d : Nat} {rt : Option FieldType} {rows : List (Nat × am_R)} {Q : am_Q} {pc : Nat} {lv lv' : am_V} {st : List Value} {h : am_H} (hok : rows.all (fun q => sv2_ok q.2) = true) (hv : sv lv lv') (k : pz_S nL rt rows d Q pc lv st h) : pz_S nL rt rows d Q pc lv' st h :=
  sv2_X (fun _ _ _ _ _ f k => am_call.mono f k) (fun _ _ hc => List.all_eq_true.mp hok _ (am_find_mem hc)) hv k
theorem dn_a {x y : Int32} {a b : Nat} (h1 : x = nI a) (h2 : y = nI b) : x + y = nI (a + b) := by rw [h1, h2, nI_add]
theorem dn_m {x y : Int32} {a b : Nat} (h1 : x = nI a) (h2 : y = nI b) : x * y = nI (a * b) := by rw [h1, h2, nI_mul]
theorem dn_q {Q : am_Q} {h : am_H} {x y : Int32} (e : x = y) (q : Q (some (.int x)) h) : Q (some (.int y)) h := e ▸ q
theorem am_wI_id (h : am_H) (o k : Nat) : am_wI h o k (h.1 o k) = h := by
  obtain ⟨a, b⟩ := h
  have : (fun x y => if x = o ∧ y = k then a o k else a x y) = a := by
    funext x y
    by_cases e : x = o ∧ y = k
    · rw [if_pos e, e.1, e.2]
    · rw [if_neg e]
  show ((fun x y => if x = o ∧ y = k then a o k else a x y), b) = (a, b)
  rw [this]
/-! STATES: day, crimes, lots, met, held, came -/
abbrev dS : Type := Int32 × Int32 × (Nat → Int32) × (Nat → Int32) × (Nat → Int32) × (Nat → Int32)
/-- of a canton: persons, events, kinds, lots told, days of the week, needs, who is to come, snow, the law's length and parts -/
abbrev dP (C : sp_C) : Nat := C.1.1
abbrev dE (C : sp_C) : Nat := C.2.1.1
abbrev dK (C : sp_C) (i : Nat) : Int32 := C.1.2.2.1 i
abbrev dL (C : sp_C) (i : Nat) : Int32 := C.1.2.2.2 i
abbrev dW (C : sp_C) (e : Nat) : Int32 := C.2.1.2.2.1 e
abbrev dN (C : sp_C) (e : Nat) : Int32 := C.2.1.2.2.2.1 e
abbrev dG (C : sp_C) (e : Nat) : Int32 := C.2.1.2.2.2.2 e
abbrev dO (C : sp_C) : Int32 := C.2.2.1.2
abbrev dM (C : sp_C) : Nat := C.2.2.2.2.1
abbrev dT (C : sp_C) (i : Nat) : Int32 := C.2.2.2.2.2 i
/-- the law's place, as the reference has it -/
abbrev dQ (C : sp_C) : Int32 := bif C.2.2.2.1 then nI 0 else Int32.ofInt (-1)
/-- the class's State o is s -/
def sC (o : Nat) (s : dS) (h : am_H) : Prop := (h.1 o 0 = s.1 ∧ h.1 o 1 = s.2.1) ∧ (∀ i, i < 6 → h.1 (o + 1) i = s.2.2.1 i ∧ h.1 (o + 2) i = s.2.2.2.1 i) ∧ (∀ i, i < 5 → h.1 (o + 3) i = s.2.2.2.2.1 i ∧ h.1 (o + 4) i = s.2.2.2.2.2 i)
/-- the reference's state at b, of P persons, is s -/
def sR (b P : Nat) (s : dS) (h : am_H) : Prop := (h.1 170 b = s.1 ∧ h.1 170 (b + 1) = s.2.1) ∧ (∀ i, i < P → h.1 170 (b + 2 + i) = s.2.2.1 i) ∧ (∀ i, i < 6 → h.1 170 (b + 8 + i) = s.2.2.2.1 i) ∧ (∀ i, i < 5 → h.1 170 (b + 14 + i) = s.2.2.2.2.1 i ∧ h.1 170 (b + 19 + i) = s.2.2.2.2.2 i)
/-- the reference's told canton is C -/
def tR (C : sp_C) (h : am_H) : Prop := (h.1 160 0 = nI (dP C) ∧ dP C ≤ 6 ∧ ∀ i, i < dP C → h.1 160 (4 + 3 * i) = dK C i ∧ h.1 160 (5 + 3 * i) = dL C i) ∧
  (h.1 160 1 = nI (dE C) ∧ dE C ≤ 5 ∧ ∀ i, i < dE C → h.1 160 (22 + 2 * i) = dW C i ∧ h.1 160 (23 + 2 * i) = dN C i) ∧
  (∀ p e, p < 6 → e < 5 → sp_bit (h.1 160 (6 + 3 * p)) (nI e) = (decide (e < dE C) && sp_bit (dG C e) (nI p)) ∧ bN (h.1 160 (6 + 3 * p)) < 32) ∧
  (h.1 160 2 = dO C ∧ sp_sK C.2.2.1) ∧
  (dM C ≤ 1000 ∧ (∀ j, j < dM C → h.1 161 j = rb_o (dT C j) ∧ h.1 162 j = rb_a (dT C j)) ∧ (C.2.2.2.1 = true → h.1 161 (dM C) = 0) ∧ (C.2.2.2.1 = false → dM C = 0) ∧ h.1 160 3 = dQ C)
/-- the class's told canton (in the objects from c on) is C: all but names and days of the week -/
def c_v (c : Nat) (C : sp_C) (h : am_H) : Prop :=
  (h.1 c 0 = nI (dP C) ∧ dP C ≤ 6 ∧ ∀ i, i < dP C → h.1 (c + 2) i = dK C i ∧ h.1 (c + 3) i = dL C i) ∧
  (h.1 c 4 = nI (dE C) ∧ dE C ≤ 5 ∧ ∀ i, i < dE C → h.1 (c + 6) i = dN C i ∧ h.1 (c + 7) i = dG C i) ∧
  (h.1 c 10 = dO C ∧ sp_sK C.2.2.1) ∧ (h.1 (c + 8) 2 = nI (dM C) ∧ dM C ≤ 1000 ∧ ∀ i, i < dM C → h.1 (c + 9) i = dT C i)
def c_d (c : Nat) (C : sp_C) (h : am_H) : Prop := ∀ i, i < dE C → h.1 (c + 5) i = dW C i
theorem c_c_v {c : Nat} {C : sp_C} {h : am_H} (l : c_c c C h) : c_v c C h ∧ c_d c C h := ⟨⟨⟨l.1.1, l.1.2.1, fun i hi => (l.1.2.2 i hi).2⟩, ⟨l.2.1.1, l.2.1.2.1, fun i hi => (l.2.1.2.2 i hi).2.2⟩, l.2.2.1.2, l.2.2.2.2⟩, fun i hi => (l.2.1.2.2 i hi).2.1⟩
theorem tR_w {C : sp_C} {h : am_H} {o k : Nat} {v : Int32} (hn : ¬ (o = 160 ∨ o = 161 ∨ o = 162)) (l : tR C h) : tR C (am_wI h o k v) := by
  have e : ∀ a b, (a = 160 ∨ a = 161 ∨ a = 162) → (am_wI h o k v).1 a b = h.1 a b := fun a b z => em_wn _ _ (fun y => hn (by rw [← y.1]; exact z))
  obtain ⟨⟨a1, a2, a3⟩, ⟨b1, b2, b3⟩, c3, ⟨d1, d2⟩, e1, e2, e3, e4, e5⟩ := l
  refine ⟨⟨?_, a2, fun i hi => ?_⟩, ⟨?_, b2, fun i hi => ?_⟩, fun p q hp hq => ?_, ⟨?_, d2⟩, e1, fun j hj => ?_, fun w => ?_, e4, ?_⟩
  · rw [e _ _ (Or.inl rfl)]; exact a1
  · rw [e _ _ (Or.inl rfl), e _ _ (Or.inl rfl)]; exact a3 i hi
  · rw [e _ _ (Or.inl rfl)]; exact b1
  · rw [e _ _ (Or.inl rfl), e _ _ (Or.inl rfl)]; exact b3 i hi
  · rw [e _ _ (Or.inl rfl)]; exact c3 p q hp hq
  · rw [e _ _ (Or.inl rfl)]; exact d1
  · rw [e _ _ (Or.inr (Or.inl rfl)), e _ _ (Or.inr (Or.inr rfl))]; exact e2 j hj
  · rw [e _ _ (Or.inr (Or.inl rfl))]; exact e3 w
  · rw [e _ _ (Or.inl rfl)]; exact e5
end
section
/-! WHAT THE TWO CANTONS LEAVE -/
theorem fd_f_r {x : Int32} (e : fd_f x = true) : 0 ≤ x.toInt ∧ x.toInt ≤ 126 := by
  unfold fd_f at e
  rcases Bool.or_eq_true_iff.mp e with e | e
  · rw [of_decide_eq_true e]
    decide
  · rw [Bool.and_eq_true, Bool.not_eq_true', Bool.not_eq_true'] at e
    have h1 := of_decide_eq_false e.1
    have h2 := of_decide_eq_false e.2
    have h3 := mt Int32.lt_iff_toInt_lt.mpr h1
    have h4 := mt Int32.lt_iff_toInt_lt.mpr h2
    have e1 : (32 : Int32).toInt = 32 := by decide
    have e2 : (126 : Int32).toInt = 126 := by decide
    omega
/-- the class begins anew: now, the week, the history, what is seen, the marks -/
def cnB (c : Nat) (g : am_H) : Prop := (g.1 36 0 = 0 ∧ g.1 36 1 = 0) ∧ (∀ i, i < 6 → g.1 37 i = g.1 (c + 3) i ∧ g.1 38 i = 0) ∧ (∀ i, i < 5 → g.1 39 i = 0 ∧ g.1 40 i = 0) ∧ (∃ w, (w = 28 ∨ w = 32) ∧ g.2.2.1 0 5 = some w ∧ g.1 w 3 = 0) ∧ (g.1 47 2 = 0 ∧ g.1 0 12 = 0 ∧ g.1 0 13 = 31) ∧ (∀ j, j < 4 → g.1 (130 + 6 * j) 0 = 0)
/-- the class's canton: a fault leaves all but the tape and the spare one; else the spare one is told -/
def cnC (T : Nat → Int32) (sz : Nat) (h g : am_H) : Prop := (∃ F, sp_canton (tt T sz) = .inl F ∧ ∃ c d, ((c = 6 ∧ d = 17) ∨ (c = 17 ∧ d = 6)) ∧ h.2.2.1 0 3 = some d ∧ g.2.2 = h.2.2 ∧ ∀ o k, ¬ c_in c o → g.1 o k = h.1 o k ∧ g.2.1 o k = h.2.1 o k) ∨
  (∃ s, sp_canton (tt T sz) = .inr s ∧ ∃ c, (c = 6 ∨ c = 17) ∧ g.2.2.1 0 3 = some c ∧ c_c c s.2 g ∧ cnB c g)
theorem cnC_f {h h1 : am_H} {T : Nat → Int32} {sz c d : Nat} {F : Int32} (hc : (c = 6 ∧ d = 17) ∨ (c = 17 ∧ d = 6)) (ht : h.2.2.1 0 3 = some d) (e : sp_canton (tt T sz) = .inl F) (x : cx h c F h1) : cnC T sz h (am_wI h1 1 1 (Int32.ofInt 0)) := by
  obtain ⟨q1, q2⟩ := x.2.2.1
  exact Or.inl ⟨F, e, c, d, hc, ht, q1, fun o k z => ⟨(em_wn _ _ (fun y => z (Or.inl y.1))).trans (q2 o k z).1, (q2 o k z).2⟩⟩
theorem cnC_s {h h1 g : am_H} {T : Nat → Int32} {sz c d w : Nat} {s : sp_S} (hc : c = 6 ∨ c = 17) (hw : w = 28 ∨ w = 32) (hw5 : h.2.2.1 0 5 = some w) (e : sp_canton (tt T sz) = .inr s) (l : cr h c T sz s h1) (b : bg_t c d w h1 g) : cnC T sz h g := by
  obtain ⟨b1, b2, ⟨b3, b4, b5⟩, ⟨b6, b7, b8, b9⟩, f0, f1, f2, f3⟩ := b
  have q1 := l.2.2.1.1
  have n : ∀ o k, ¬ bg_w o k → ¬ o = 1 → g.1 o k = h1.1 o k := fun o k z z1 => by
    rw [b2 o k z]
    show (am_wI h1 1 1 (Int32.ofInt 0)).1 o k = _
    exact em_wn _ _ (fun y => z1 y.1)
  refine Or.inr ⟨s, e, c, hc, ?_, ?_, ⟨b3, fun i hi => ⟨?_, (b4 i hi).2⟩, b5, ⟨w, hw, ?_, b6⟩, ⟨b7, b8, b9⟩, fun j hj => ?_⟩⟩
  · rw [b1]
    show (if (0 : Nat) = 0 ∧ (3 : Nat) = 3 then some c else (if (0 : Nat) = 0 ∧ (3 : Nat) = 4 then some d else h1.2.2.1 0 3)) = some c
    rfl
  · have hs : c_c c s.2 h1 := l.2.1
    refine c_c_eq (h := h1) (fun o k z1 z2 => ⟨n o k (by unfold bg_w; omega) (by omega), ?_⟩) hs
    rw [b1]
    rfl
  · rw [(b4 i hi).1]
    show (am_wI h1 1 1 (Int32.ofInt 0)).1 (c + 3) i = _
    rw [em_wn _ _ (by omega), n (c + 3) i (by unfold bg_w; omega) (by omega)]
  · rw [b1]
    show (if (0 : Nat) = 0 ∧ (5 : Nat) = 3 then some c else (if (0 : Nat) = 0 ∧ (5 : Nat) = 4 then some d else h1.2.2.1 0 5)) = some w
    have q1 : h1.2.2 = h.2.2 := q1
    rw [q1]
    exact hw5
  · have w : j = 0 ∨ j = 1 ∨ j = 2 ∨ j = 3 := by omega
    rcases w with rfl | rfl | rfl | rfl
    · exact f0
    · exact f1
    · exact f2
    · exact f3
theorem c_14y {h : am_H} {sz : Nat} {T : Nat → Int32} (hI : iv_I h) (hz : sz ≤ 1000) (hch : ∀ q, q < sz → 0 ≤ (T q).toInt ∧ (T q).toInt ≤ 126) (l1 : h.1 1 1 = nI sz) (l2 : ∀ q, q < sz → h.1 2 q = T q) : am_call am_cod 60 14 [.ref 0] h (fun _ g => cnC T sz h g) := by
  obtain ⟨N, hN, hW, hX, ha, hc⟩ := hI
  have hP : ex_P h := ex_G hW.1 hW.2.1
  rcases hc with (c | c) | (c | c)
  · exact am_call.up (c_14F_17w28 c.2.2.1 hP c.2.1 c.1 hz hch l1 l2 (fun F h1 e x => cnC_f (Or.inr ⟨rfl, rfl⟩) c.1 e x) (fun s h1 h2 e l b => cnC_s (Or.inr rfl) (Or.inl rfl) c.2.2.1 e l b)) (by decide)
  · exact am_call.up (c_14F_17w32 c.2.2.1 hP c.2.1 c.1 hz hch l1 l2 (fun F h1 e x => cnC_f (Or.inr ⟨rfl, rfl⟩) c.1 e x) (fun s h1 h2 e l b => cnC_s (Or.inr rfl) (Or.inr rfl) c.2.2.1 e l b)) (by decide)
  · exact am_call.up (c_14F_6w28 c.2.2.1 hP c.2.1 c.1 hz hch l1 l2 (fun F h1 e x => cnC_f (Or.inl ⟨rfl, rfl⟩) c.1 e x) (fun s h1 h2 e l b => cnC_s (Or.inl rfl) (Or.inl rfl) c.2.2.1 e l b)) (by decide)
  · exact am_call.up (c_14F_6w32 c.2.2.1 hP c.2.1 c.1 hz hch l1 l2 (fun F h1 e x => cnC_f (Or.inl ⟨rfl, rfl⟩) c.1 e x) (fun s h1 h2 e l b => cnC_s (Or.inl rfl) (Or.inr rfl) c.2.2.1 e l b)) (by decide)
/-- the reference's names told are those of C -/
theorem cnN {hA g h' : am_H} {p e P : Nat} {C : sp_C} (hC : C.1.1 ≤ 6 ∧ C.2.1.1 ≤ 5) (l : rcN C hA) (hz : hA.1 154 19 = nI (p + e)) (q : cqF hA P (p + e) g) (b : bR p e g h') : rkN C h' := by
  obtain ⟨l1, l2, l3, l4, l5⟩ := l
  have hle : C.1.1 + C.2.1.1 ≤ p + e := by
    rcases Nat.lt_or_ge (p + e) 1000 with w | w
    · have := nI_inj2 (by omega) (by omega) (l1.symm.trans hz)
      omega
    · omega
  have e1 : ∀ k, k < C.1.1 + C.2.1.1 → h'.1 165 k = hA.1 166 k ∧ h'.2.1 163 k = hA.2.1 164 k := fun k hk => ⟨(b.2.1 165 k (by omega)).trans (q.2.2.2.1 k (by omega)).2, by rw [b.1]; exact (q.2.2.2.1 k (by omega)).1⟩
  refine ⟨(b.2.1 154 18 (by omega)).trans (q.2.2.2.2.trans (hz.symm.trans l1)), fun k hk => ?_, fun i hi => ?_, fun i hi => ?_, fun a a' ha hb ee => l5 a a' ha hb (by rw [← (e1 a ha).2, ← (e1 a' hb).2]; exact ee)⟩
  · rw [(e1 k hk).1, (e1 k hk).2]; exact l2 k hk
  · obtain ⟨k, h1, h2, h3⟩ := l3 i hi
    exact ⟨k, h1, by rw [(e1 k h1).1]; exact h2, by rw [(e1 k h1).2]; exact h3⟩
  · obtain ⟨k, h1, h2, h3⟩ := l4 i hi
    exact ⟨k, h1, by rw [(e1 k h1).1]; exact h2, by rw [(e1 k h1).2]; exact h3⟩
/-- the reference begins anew -/
def cnS (C : sp_C) (g : am_H) : Prop := (∀ k, k < 24 → g.1 170 k = if 2 ≤ k ∧ k < 2 + C.1.1 then C.1.2.2.2 (k - 2) else 0) ∧ g.1 170 24 = 0 ∧ g.1 167 0 = 0 ∧ g.1 154 25 = 0 ∧ (∀ m, m < 4 → g.1 171 m = 0) ∧ (∀ e, e < C.2.1.1 → g.1 172 e = C.2.1.2.2.1 e)
/-- the class's cells -/
def kr_C : ag_M := kr_Q.filter (fun r => Nat.blt r.1 154 || Nat.beq r.1 3000000)
def kr_R : ag_M := kr_Q.filter (fun r => Nat.ble 154 r.1 && Nat.blt r.1 200)
def cnR (τ : sp_T) (h g : am_H) : Prop := kr kr_C h g ∧ ((∃ F, sp_canton τ = .inl F ∧ kr kr_R h g) ∨ (∃ s, sp_canton τ = .inr s ∧ tR s.2 g ∧ rkN s.2 g ∧ cnS s.2 g))
theorem kr_t {R : ag_M} {h h1 h2 : am_H} (a : kr R h h1) (b : kr R h1 h2) : kr R h h2 := fun o k e => ⟨(b o k e).1.trans (a o k e).1, (b o k e).2.1.trans (a o k e).2.1, (b o k e).2.2.trans (a o k e).2.2⟩
/-- the reference's words stand -/
def jw (h : am_H) : Prop := ∀ w, w < 21 → h.2.1 159 w = rw_w w
theorem kr_b {p e : Nat} {g h' : am_H} (b : bR p e g h') : kr kr_C g h' := fun o k w => by
  have ho : o < 154 ∨ o = 3000000 := by
    unfold ag_atM at w
    obtain ⟨m, m1, m2⟩ := List.any_eq_true.mp w
    have m2 : (Nat.beq m.1 o && (Nat.ble m.2.1 k && Nat.ble k m.2.2)) = true := m2
    rw [Bool.and_eq_true] at m2
    have e1 := Nat.eq_of_beq_eq_true m2.1
    have := (List.mem_filter.mp m1).2
    rcases Bool.or_eq_true_iff.mp this with z | z
    · have := Nat.le_of_ble_eq_true z
      omega
    · have := Nat.eq_of_beq_eq_true z
      omega
  exact ⟨b.2.1 o k (by omega), by rw [b.1], by rw [b.1]⟩
theorem cn_t {hA g h' : am_H} {p e c' : Nat} {z : Nat} {C : sp_C} (l : rc z C hA) (hz : z = (bif C.2.2.2.1 then 1 else 0)) (hp : hA.1 160 40 = nI p) (he : hA.1 160 41 = nI e) (hpe : hA.1 154 19 = nI (p + e)) (hb : p ≤ 6 ∧ e ≤ 5) (hl : C.2.2.2.2.1 ≤ 1000) (hc : hA.1 154 13 = nI c') (q : cqF hA c' (p + e) g) (b : bR p e g h') : tR C h' ∧ rkN C h' ∧ cnS C h' := by
  obtain ⟨⟨p1, p2, p3⟩, ⟨e1, e2, e3⟩, lB, ⟨s1, s2⟩, lO, ⟨l1, l2, l3, l4, l5⟩, lN⟩ := l
  have n160 : ∀ j, j < 40 → h'.1 160 j = hA.1 160 (40 + j) := fun j hj => (b.2.1 160 j (by omega)).trans (q.2.1 j hj)
  have hcc : C.2.2.2.2.1 + z ≤ c' := by
    rcases Nat.lt_or_ge c' 4000 with w | w
    · have hz1 : z ≤ 1 := by
        rw [hz]
        cases C.2.2.2.1 <;> decide
      have := nI_inj2 (by omega) (by omega) (l1.symm.trans hc)
      omega
    · have hz1 : z ≤ 1 := by
        rw [hz]
        cases C.2.2.2.1 <;> decide
      omega
  have n161 : ∀ j, j < c' → h'.1 161 j = hA.1 161 (1100 + j) ∧ h'.1 162 j = hA.1 162 (1100 + j) := fun j hj => ⟨(b.2.1 161 j (by omega)).trans (q.2.2.1 j hj).1, (b.2.1 162 j (by omega)).trans (q.2.2.1 j hj).2⟩
  have P : nI p = nI C.1.1 := hp.symm.trans p1
  have E : nI e = nI C.2.1.1 := he.symm.trans e1
  have hP : p = C.1.1 := nI_inj2 (by omega) (by omega) P
  have hE : e = C.2.1.1 := nI_inj2 (by omega) (by omega) E
  refine ⟨⟨⟨?_, p2, fun i hi => ?_⟩, ⟨?_, e2, fun i hi => ?_⟩, fun i j hi hj => ?_, ⟨?_, s2⟩, hl, fun j hj => ?_, fun w => ?_, l4, ?_⟩, cnN ⟨p2, e2⟩ lN hpe q b, ?_⟩
  · rw [n160 0 (by omega)]; exact p1
  · have hi : i < C.1.1 := hi
    rw [n160 (4 + 3 * i) (by omega), n160 (5 + 3 * i) (by omega), show 40 + (4 + 3 * i) = 44 + 3 * i by omega, show 40 + (5 + 3 * i) = 45 + 3 * i by omega]; exact p3 i hi
  · rw [n160 1 (by omega)]; exact e1
  · have hi : i < C.2.1.1 := hi
    rw [n160 (22 + 2 * i) (by omega), n160 (23 + 2 * i) (by omega), show 40 + (22 + 2 * i) = 62 + 2 * i by omega, show 40 + (23 + 2 * i) = 63 + 2 * i by omega]; exact e3 i hi
  · rw [n160 (6 + 3 * i) (by omega), show 40 + (6 + 3 * i) = 46 + 3 * i by omega]; exact lB i j hi hj
  · rw [n160 2 (by omega)]; exact s1
  · have hj : j < C.2.2.2.2.1 := hj
    rw [(n161 j (by omega)).1, (n161 j (by omega)).2]; exact l2 j hj
  · have hz1 : z = 1 := by rw [hz, w]; rfl
    rw [(n161 (dM C) (show C.2.2.2.2.1 < c' by omega)).1]
    exact l3 hz1
  · rw [n160 3 (by omega)]; exact l5
  · obtain ⟨-, -, ⟨b3, b4⟩, b5, b6, b7, b8⟩ := b
    refine ⟨fun k hk => ?_, b4, b5, b6, b7, fun e' he' => ?_⟩
    · rw [b3 k hk]
      unfold bs_v
      rw [hP]
      by_cases w : 2 ≤ k ∧ k < 2 + C.1.1
      · rw [if_pos w, if_pos w, q.2.1 _ (by omega), show 40 + (5 + 3 * (k - 2)) = 45 + 3 * (k - 2) by omega]
        exact (p3 (k - 2) (by omega)).2
      · rw [if_neg w, if_neg w]
    · rw [b8 e' (by omega), q.2.1 _ (by omega), show 40 + (22 + 2 * e') = 62 + 2 * e' by omega]
      exact (e3 e' he').1
theorem c_188y {h : am_H} {sz : Nat} (hI : iv_I h) (hb : h.2.2.2.1 ≤ 4096) (hj : jw h) (hz : sz ≤ 1000) (l1 : h.1 154 2 = nI sz) : am_call am_cod 60 188 [.ref 154] h (fun _ g => cnR (tt (h.1 155) sz) h g) := by
  obtain ⟨N, a, c, hP⟩ := pz_iv hI
  exact am_call.up (rf_canton (Q := fun _ g => cnR (tt (h.1 155) sz) h g) hb l1 hz hj hP (fun N' a' c' g F e _ _ f => ⟨kr_of (by decide +kernel) f, Or.inl ⟨F, e, kr_of (by decide +kernel) f⟩⟩) (fun N' a' c' p e s h6 hA g0 g er hpe _ _ f rl l q b => by
    obtain ⟨t1, t2, t3⟩ := cn_t (hA := hA) (g := g0) (h' := g) rl.2.1 rfl l.2.2.2.1 l.2.2.2.2.1 l.2.2.2.2.2.1 hpe (Nat.le_trans rl.2.2.2 (Nat.le_trans rl.1.2.1.2 rl.1.1.2.1)) l.1.2.2.2.2.2.1 q b
    exact ⟨kr_t (kr_of (by decide +kernel) f) (kr_t (kr_of (by decide +kernel) q.1) (kr_b b)), Or.inr ⟨s, er, t1, t2, t3⟩⟩)) (by decide)
end
