/-! THE REFERENCE'S WORDS, FROM THE START ON -/
theorem la_imp {lv : am_V} {i : Nat} {k k' : Nat → Prop} (f : ∀ x, k x → k' x) (h : am_la lv i k) : am_la lv i k' := by
  obtain ⟨x, e, h⟩ := am_la.inv h
  unfold am_la
  rw [e]
  exact f x h
theorem li_imp {lv : am_V} {i : Nat} {k k' : Int32 → Prop} (f : ∀ x, k x → k' x) (h : am_li lv i k) : am_li lv i k' := by
  obtain ⟨x, e, h⟩ := am_li.inv h
  unfold am_li
  rw [e]
  exact f x h
def nl_set (n : Nat) : Bool := Nat.ble 180 n && Nat.ble n 187
def nl_br (r : am_R) : Bool := match r.1 with
  | .goto _ => true
  | .if_icmp _ _ => true
  | _ => false
def nl_ok (r : am_R) : Bool := match r.1 with
  | .iconst _ => true
  | .bipush _ => true
  | .sipush _ => true
  | .iload_n _ => true
  | .aload_n _ => true
  | .istore_n _ => true
  | .iinc _ _ => true
  | .iadd => true
  | .imul => true
  | .goto _ => true
  | .if_icmp _ _ => true
  | .iaload => true
  | .iastore => true
  | .bastore => true
  | .newarray _ => true
  | .return_ => true
  | .ireturn => true
  | .getfield _ => !(Nat.beq r.2.2.2.1 20)
  | .putfield _ => !(Nat.beq (am_kd r.2.2.2.1 r.2.2.1) 1)
  | .invokespecial _ => Nat.beq r.2.2.1 1
  | .invokevirtual _ => nl_set r.2.2.1
  | _ => false
theorem nl_stp {W : am_H → Prop} (wI : ∀ h o k v, W h → W (am_wI h o k v)) (wR : ∀ h o k v, W h → W (am_wR h o k v)) (wN : ∀ h, W h → W (am_nx h)) {cp : am_P} {nL lim : Nat} {rt : Option FieldType} {pc : Nat} {r : am_R} {lv : am_V} {st : List Value} {h : am_H} {K : Nat → am_V → List Value → am_H → Prop} {Q : am_Q} (hm : ∀ n As h Q Q', (∀ v h, Q v h → Q' v h) → cp n As h Q → cp n As h Q') (hcp : ∀ n As h Q, nl_set n = true → W h → cp n As h Q → cp n As h (fun v h' => Q v h' ∧ W h')) (hok : nl_ok r = true) (hW : W h) (hs : am_stp cp nL lim rt pc r lv st h K Q) :
    am_stp cp nL lim rt pc r lv st h (fun pc' lv' st' h' => K pc' lv' st' h' ∧ W h' ∧ (pc' = r.2.1 ∨ (nl_br r = true ∧ pc' = r.2.2.1))) (fun v h' => Q v h' ∧ W h') := by
  obtain ⟨i, nx, a, b, c, d⟩ := r
  cases i
  case iconst n => exact ⟨hs, hW, Or.inl rfl⟩
  case bipush n => exact ⟨hs, hW, Or.inl rfl⟩
  case sipush n => exact ⟨hs, hW, Or.inl rfl⟩
  case iload_n k => exact li_imp (fun _ q => ⟨q, hW, Or.inl rfl⟩) hs
  case aload_n k => exact la_imp (fun _ q => ⟨q, hW, Or.inl rfl⟩) hs
  case istore_n k => exact am_pI.imp (fun _ _ q => ⟨q.1, q.2, hW, Or.inl rfl⟩) hs
  case iinc k n => exact li_imp (fun _ q => ⟨q.1, q.2, hW, Or.inl rfl⟩) hs
  case iadd => exact am_pI.imp (fun _ _ q => am_pI.imp (fun _ _ q => ⟨q, hW, Or.inl rfl⟩) q) hs
  case imul => exact am_pI.imp (fun _ _ q => am_pI.imp (fun _ _ q => ⟨q, hW, Or.inl rfl⟩) q) hs
  case goto n => exact ⟨hs, hW, Or.inr ⟨rfl, rfl⟩⟩
  case if_icmp w n => exact am_pI.imp (fun _ _ q => am_pI.imp (fun _ _ q => ⟨fun z => ⟨q.1 z, hW, Or.inr ⟨rfl, rfl⟩⟩, fun z => ⟨q.2 z, hW, Or.inl rfl⟩⟩) q) hs
  case iaload => exact am_pI.imp (fun _ _ q => am_pR.imp (fun _ _ ⟨j, n, q1, q2, q3, q4⟩ => ⟨j, n, q1, q2, q3, q4, hW, Or.inl rfl⟩) q) hs
  case iastore => exact am_pI.imp (fun _ _ q => am_pI.imp (fun _ _ q => am_pR.imp (fun _ _ ⟨j, n, q1, q2, q3, q4⟩ => ⟨j, n, q1, q2, q3, q4, wI _ _ _ _ hW, Or.inl rfl⟩) q) q) hs
  case bastore => exact am_pI.imp (fun _ _ q => am_pI.imp (fun _ _ q => am_pR.imp (fun _ _ ⟨j, n, q1, q2, q3, q4⟩ => ⟨j, n, q1, q2, q3, q4, wI _ _ _ _ hW, Or.inl rfl⟩) q) q) hs
  case newarray t => exact am_pI.imp (fun _ _ ⟨n, q1, q2, q3, q4⟩ => ⟨n, q1, q2, q3, q4, wN _ hW, Or.inl rfl⟩) hs
  case getfield n =>
    have hb : Nat.beq b 20 = false := by
      cases hb : Nat.beq b 20 with
      | false => rfl
      | true =>
        have hok : (!(Nat.beq b 20)) = true := hok
        rw [hb] at hok
        cases hok
    simp only [am_stp, hb] at hs ⊢
    exact am_pR.imp (fun _ _ q => ⟨q.1, q.2, hW, Or.inl trivial⟩) hs
  case putfield n =>
    have hok : (!(Nat.beq (am_kd b a) 1)) = true := hok
    cases hk : am_kd b a with
    | zero =>
      simp only [am_stp, hk] at hs ⊢
      exact am_pI.imp (fun _ _ q => am_pR.imp (fun _ _ q => ⟨q.1, q.2.1, q.2.2.1, q.2.2.2, wI _ _ _ _ hW, Or.inl trivial⟩) q) hs
    | succ m =>
      cases m with
      | zero => rw [hk] at hok; exact absurd hok (by decide)
      | succ m =>
        simp only [am_stp, hk] at hs ⊢
        exact am_pR.imp (fun _ _ q => am_pR.imp (fun _ _ q => ⟨q.1, q.2, wR _ _ _ _ hW, Or.inl trivial⟩) q) hs
  case return_ =>
    simp only [am_stp] at hs ⊢
    split at hs
    · exact ⟨hs.1, hs.2, hW⟩
    · exact hs.elim
  case ireturn =>
    simp only [am_stp] at hs ⊢
    split at hs
    · exact ⟨hs.1, hs.2, hW⟩
    · exact hs.elim
  case invokespecial n =>
    have ha : Nat.beq a 1 = true := hok
    simp only [am_stp, ha] at hs ⊢
    split at hs
    · exact ⟨hs.1, hs.2.1, hs.2.2, hW, Or.inl trivial⟩
    · exact hs.elim
  case invokevirtual n =>
    simp only [am_stp] at hs ⊢
    split at hs
    · exact ⟨hs.1, hs.2.1, hs.2.2.1, hm _ _ _ _ _ (fun v h' q => ⟨q.1, q.2, Or.inl trivial⟩) (hcp _ _ _ _ hok hW hs.2.2.2)⟩
    · exact hs.elim
  all_goals exact absurd hok (by simp [nl_ok])
/-- the words stand -/
def wd_W (h : am_H) : Prop := 159 < h.2.2.2.2 ∧ ∀ w, w < 21 → h.2.1 159 w = rw_w w
theorem wd_I (h : am_H) (o k : Nat) (v : Int32) (w : wd_W h) : wd_W (am_wI h o k v) := w
theorem wd_R (h : am_H) (o k : Nat) (v : Option Nat) (w : wd_W h) : wd_W (am_wR h o k v) := w
theorem wd_N (h : am_H) (w : wd_W h) : wd_W (am_nx h) := by
  refine ⟨Nat.lt_succ_of_lt w.1, fun q hq => ?_⟩
  show (if 159 = h.2.2.2.2 then 0 else h.2.1 159 q) = _
  rw [if_neg (by have := w.1; omega)]
  exact w.2 q hq
def nl_m (n : Nat) : List (Nat × am_R) := match n with
  | 180 => am_r180
  | 181 => am_r181
  | 182 => am_r182
  | 183 => am_r183
  | 184 => am_r184
  | 185 => am_r185
  | 186 => am_r186
  | _ => am_r187
theorem nl_mk : ∀ n, n < 8 → (nl_m (180 + n)).all (fun q => nl_ok q.2) = true := by decide +kernel
theorem nl_cod {n : Nat} (hn : nl_set n = true) : am_cod n = am_find (nl_m n) ∧ (nl_m n).all (fun q => nl_ok q.2) = true := by
  unfold nl_set at hn
  rw [Bool.and_eq_true] at hn
  have h1 := Nat.le_of_ble_eq_true hn.1
  have h2 := Nat.le_of_ble_eq_true hn.2
  have hh : n = 180 ∨ n = 181 ∨ n = 182 ∨ n = 183 ∨ n = 184 ∨ n = 185 ∨ n = 186 ∨ n = 187 := by omega
  rcases hh with rfl | rfl | rfl | rfl | rfl | rfl | rfl | rfl
  · exact ⟨by funext pc; rfl, nl_mk 0 (by decide)⟩
  · exact ⟨by funext pc; rfl, nl_mk 1 (by decide)⟩
  · exact ⟨by funext pc; rfl, nl_mk 2 (by decide)⟩
  · exact ⟨by funext pc; rfl, nl_mk 3 (by decide)⟩
  · exact ⟨by funext pc; rfl, nl_mk 4 (by decide)⟩
  · exact ⟨by funext pc; rfl, nl_mk 5 (by decide)⟩
  · exact ⟨by funext pc; rfl, nl_mk 6 (by decide)⟩
  · exact ⟨by funext pc; rfl, nl_mk 7 (by decide)⟩
theorem wd_call : ∀ (d n : Nat) (As : List Value) (h : am_H) (Q : am_Q), nl_set n = true → wd_W h → am_call am_cod d n As h Q → am_call am_cod d n As h (fun v h' => Q v h' ∧ wd_W h')
  | 0, _, _, _, _, _, _, k => k.elim
  | d + 1, n, As, h, Q, hn, hW, k => by
    rcases k with k | ⟨k1, k⟩
    · exact Or.inl (wd_call d n As h Q hn hW k)
    · refine Or.inr ⟨k1, ?_⟩
      obtain ⟨e1, e2⟩ := nl_cod hn
      unfold am_W at k ⊢
      rw [e1] at k ⊢
      exact k (fun pc lv st h1 => wd_W h1 → am_X (am_call am_cod d) (am_nL n) (h.2.2.2.2 + am_al n) (am_rt n) (am_find (nl_m n)) (fun _ _ _ _ => False) (fun v h' => h'.2.2.2.2 = h.2.2.2.2 + am_al n ∧ Q v h' ∧ wd_W h') pc lv st h1) (fun _ _ _ _ z => z.elim) (fun pc lv st h1 r K0 Q0 hc hs hk hq hW1 => fun P hE hP => hP pc lv st h1 r _ _ hc (nl_stp wd_I wd_R wd_N (fun _ _ _ _ _ f k => am_call.mono f k) (fun n As h Q hn hW k => wd_call d n As h Q hn hW k) (List.all_eq_true.mp e2 _ (am_find_mem hc)) hW1 hs) (fun pc lv st h2 q => hk pc lv st h2 q.1 q.2.1 P hE hP) (fun v h2 q => ⟨(hq v h2 q.1).1, (hq v h2 q.1).2, q.2⟩)) hW
theorem shl_n : am_shl.all (fun q => Nat.ble q.2 4096) = true := by decide +kernel
theorem shl_159 : ∀ c, c < 175 → am_shl[c]? = some (14, 21) → c = 159 := by decide +kernel
theorem shl_len : am_shl.length = 175 := by decide +kernel
theorem shl_le {c t n : Nat} (e : am_shl[c]? = some (t, n)) : n ≤ 4096 ∧ c < 175 := by
  have m := List.mem_of_getElem? e
  have w := List.all_eq_true.mp shl_n _ m
  refine ⟨Nat.le_of_ble_eq_true w, ?_⟩
  have := (List.getElem?_eq_some_iff.mp e).1
  rw [shl_len] at this
  exact this
theorem nI_inj2 {a b : Nat} (ha : a ≤ 4096) (hb : b ≤ 4096) (e : nI a = nI b) : a = b := by
  have w := congrArg Int32.toInt e
  rw [nI_toInt (by omega), nI_toInt (by omega)] at w
  omega
def wd_i (i : Nat) (h : am_H) : Prop := 159 < h.2.2.2.2 ∧ ∀ w, w < i → h.2.1 159 w = rw_w w
theorem wd_s {i j n : Nat} {h : am_H} {x : Int64} (hw : wd_i i h) (hi : i < 21) (e : am_so h 159 = some (14, n)) (hj : j < n) (ej : nI i = nI j) (ex : x = rw_w i) : wd_i (i + 1) (am_wL h 159 j x) := by
  unfold am_so at e
  rw [show Nat.blt 159 h.2.2.2.2 = true from Nat.ble_eq_true_of_le hw.1] at e
  have e : am_shl[159]? = some (14, n) := e
  have hn := (shl_le e).1
  have ij : i = j := nI_inj2 (by omega) (by omega) ej
  refine ⟨hw.1, fun w hw1 => ?_⟩
  show (if 159 = 159 ∧ w = j then x else h.2.1 159 w) = _
  by_cases ew : w = j
  · rw [if_pos ⟨rfl, ew⟩, ex, ew, ij]
  · rw [if_neg (fun z => ew z.2)]
    exact hw.2 w (by omega)
theorem w179_A : am_r179.all (fun q => !(Nat.blt q.1 41) || (nl_ok q.2 && (!(nl_br q.2) && Nat.ble q.2.2.1 41))) = true := by decide +kernel
theorem w179_C : am_r179.all (fun q => !(Nat.ble 186 q.1) || (nl_ok q.2 && (!(nl_br q.2) && Nat.ble 186 q.2.2.1))) = true := by decide +kernel
theorem w179_cod : am_cod 179 = am_find am_r179 := by
  funext pc
  rfl
theorem w179_c {d lim : Nat} {Q : am_Q} {pc : Nat} {lv : am_V} {st : List Value} {h : am_H} (hpc : 186 ≤ pc) (hW : wd_W h) (k : am_X (am_call am_cod d) (am_nL 179) lim (am_rt 179) (am_find am_r179) (fun _ _ _ _ => False) Q pc lv st h) : am_X (am_call am_cod d) (am_nL 179) lim (am_rt 179) (am_find am_r179) (fun _ _ _ _ => False) (fun v h' => Q v h' ∧ wd_W h') pc lv st h :=
  k (fun pc lv st h => 186 ≤ pc → wd_W h → am_X (am_call am_cod d) (am_nL 179) lim (am_rt 179) (am_find am_r179) (fun _ _ _ _ => False) (fun v h' => Q v h' ∧ wd_W h') pc lv st h) (fun _ _ _ _ z => z.elim) (fun pc lv st h1 r K0 Q0 hc hs hk hq hpc hW1 => by
    have w := List.all_eq_true.mp w179_C _ (am_find_mem hc)
    rw [show Nat.ble 186 pc = true from Nat.ble_eq_true_of_le hpc] at w
    have w : (nl_ok r && (!(nl_br r) && Nat.ble 186 r.2.1)) = true := w
    rw [Bool.and_eq_true, Bool.and_eq_true] at w
    obtain ⟨w1, w2, w3⟩ := w
    exact fun P hE hP => hP pc lv st h1 r _ _ hc (nl_stp wd_I wd_R wd_N (fun _ _ _ _ _ f k => am_call.mono f k) (fun n As h Q hn hW k => wd_call d n As h Q hn hW k) w1 hW1 hs) (fun pc' lv st h2 q => hk pc' lv st h2 q.1 (by
      rcases q.2.2 with z | z
      · rw [z]; exact Nat.le_of_ble_eq_true w3
      · rw [z.1] at w2; cases w2) q.2.1 P hE hP) (fun v h2 q => ⟨hq v h2 q.1, q.2⟩)) hpc hW
theorem w179_b {d lim : Nat} {Q : am_Q} {lv : am_V} {st : List Value} {h : am_H} (k : am_X (am_call am_cod d) (am_nL 179) lim (am_rt 179) (am_find am_r179) (fun _ _ _ _ => False) Q 41 lv st h) : am_X (am_call am_cod d) (am_nL 179) lim (am_rt 179) (am_find am_r179) (fun _ _ _ _ => False) (fun v h' => Q v h' ∧ wd_W h') 41 lv st h := by
  obtain ⟨K0, Q0, hs, hk, -⟩ := am_X.inv1 (r := (.bipush 21, 43, 0, 0, 0, 0)) (fun z => z) rfl k
  have hs : K0 43 lv (.int (Int8.ofInt 21).toInt32 :: st) h := hs
  replace k := hk _ _ _ _ hs
  refine am_xstep (r := (.bipush 21, 43, 0, 0, 0, 0)) rfl (show am_X (am_call am_cod d) (am_nL 179) lim (am_rt 179) (am_find am_r179) (fun _ _ _ _ => False) (fun v h' => Q v h' ∧ wd_W h') 43 lv (.int (Int8.ofInt 21).toInt32 :: st) h from ?_)
  obtain ⟨K0, Q0, hs, hk, -⟩ := am_X.inv1 (r := (.newarray .long, 45, 0, 14, 0, 0)) (fun z => z) rfl k
  have hs : ∃ n : Nat, am_shl[h.2.2.2.2]? = some (14, n) ∧ (Int8.ofInt 21).toInt32 = nI n ∧ h.2.2.2.2 + 1 ≤ lim ∧ K0 45 lv (.ref h.2.2.2.2 :: st) (am_nx h) := hs
  obtain ⟨n, q1, q2, q3, q4⟩ := hs
  replace k := hk _ _ _ _ q4
  have en : n = 21 := (nI_inj2 (a := 21) (by decide) (shl_le q1).1 (show nI 21 = nI n from q2)).symm
  refine am_xstep (r := (.newarray .long, 45, 0, 14, 0, 0)) rfl (show ∃ n : Nat, am_shl[h.2.2.2.2]? = some (14, n) ∧ (Int8.ofInt 21).toInt32 = nI n ∧ h.2.2.2.2 + 1 ≤ lim ∧ am_X (am_call am_cod d) (am_nL 179) lim (am_rt 179) (am_find am_r179) (fun _ _ _ _ => False) (fun v h' => Q v h' ∧ wd_W h') 45 lv (.ref h.2.2.2.2 :: st) (am_nx h) from ⟨n, q1, q2, q3, ?_⟩)
  rw [en] at q1
  have ec := shl_159 _ (shl_le q1).2 q1
  have g0 : wd_i 0 (am_nx h) := ⟨by show 159 < h.2.2.2.2 + 1; omega, fun w hw => absurd hw (Nat.not_lt_zero w)⟩
  rw [ec] at k ⊢
  generalize am_nx h = v0 at k g0 ⊢
  obtain ⟨K0, Q0, hs, hk, -⟩ := am_X.inv1 (r := (.dup, 46, 0, 0, 0, 0)) (fun z => z) rfl k
  have hs : (Value.ref 159).category = 1 ∧ K0 46 lv (.ref 159 :: .ref 159 :: st) v0 := hs
  replace k := hk _ _ _ _ hs.2
  refine am_xstep (r := (.dup, 46, 0, 0, 0, 0)) rfl (show (Value.ref 159).category = 1 ∧ am_X (am_call am_cod d) (am_nL 179) lim (am_rt 179) (am_find am_r179) (fun _ _ _ _ => False) (fun v h' => Q v h' ∧ wd_W h') 46 lv (.ref 159 :: .ref 159 :: st) v0 from ⟨rfl, ?_⟩)
  obtain ⟨K0, Q0, hs, hk, -⟩ := am_X.inv1 (r := (.iconst 0, 47, 0, 0, 0, 0)) (fun z => z) rfl k
  have hs : K0 47 lv (.int (Int32.ofInt 0) :: .ref 159 :: .ref 159 :: st) v0 := hs
  replace k := hk _ _ _ _ hs
  refine am_xstep (r := (.iconst 0, 47, 0, 0, 0, 0)) rfl (show am_X (am_call am_cod d) (am_nL 179) lim (am_rt 179) (am_find am_r179) (fun _ _ _ _ => False) (fun v h' => Q v h' ∧ wd_W h') 47 lv (.int (Int32.ofInt 0) :: .ref 159 :: .ref 159 :: st) v0 from ?_)
  obtain ⟨K0, Q0, hs, hk, -⟩ := am_X.inv1 (r := (.ldc2_w 34, 50, 0, 0, 5, 0)) (fun z => z) rfl k
  have hs : K0 50 lv (.long (am_kl 5) :: .int (Int32.ofInt 0) :: .ref 159 :: .ref 159 :: st) v0 := hs
  replace k := hk _ _ _ _ hs
  refine am_xstep (r := (.ldc2_w 34, 50, 0, 0, 5, 0)) rfl (show am_X (am_call am_cod d) (am_nL 179) lim (am_rt 179) (am_find am_r179) (fun _ _ _ _ => False) (fun v h' => Q v h' ∧ wd_W h') 50 lv (.long (am_kl 5) :: .int (Int32.ofInt 0) :: .ref 159 :: .ref 159 :: st) v0 from ?_)
  obtain ⟨K0, Q0, hs, hk, -⟩ := am_X.inv1 (r := (.lastore, 51, 0, 0, 0, 0)) (fun z => z) rfl k
  have hs : ∃ j n : Nat, am_so v0 159 = some (14, n) ∧ j < n ∧ (Int32.ofInt 0) = nI j ∧ K0 51 lv (.ref 159 :: st) (am_wL v0 159 j (am_kl 5)) := hs
  obtain ⟨j, n0, z1, z2, z3, z4⟩ := hs
  replace k := hk _ _ _ _ z4
  refine am_xstep (r := (.lastore, 51, 0, 0, 0, 0)) rfl (show ∃ j n : Nat, am_so v0 159 = some (14, n) ∧ j < n ∧ (Int32.ofInt 0) = nI j ∧ am_X (am_call am_cod d) (am_nL 179) lim (am_rt 179) (am_find am_r179) (fun _ _ _ _ => False) (fun v h' => Q v h' ∧ wd_W h') 51 lv (.ref 159 :: st) (am_wL v0 159 j (am_kl 5)) from ⟨j, n0, z1, z2, z3, ?_⟩)
  have g1 := wd_s (i := 0) g0 (by decide) z1 z2 (show nI 0 = nI j from z3) (show am_kl 5 = rw_w 0 by decide +kernel)
  clear z4 hk z1 z2 z3 g0
  generalize am_wL v0 159 j (am_kl 5) = v1 at k g1 ⊢
  obtain ⟨K0, Q0, hs, hk, -⟩ := am_X.inv1 (r := (.dup, 52, 0, 0, 0, 0)) (fun z => z) rfl k
  have hs : (Value.ref 159).category = 1 ∧ K0 52 lv (.ref 159 :: .ref 159 :: st) v1 := hs
  replace k := hk _ _ _ _ hs.2
  refine am_xstep (r := (.dup, 52, 0, 0, 0, 0)) rfl (show (Value.ref 159).category = 1 ∧ am_X (am_call am_cod d) (am_nL 179) lim (am_rt 179) (am_find am_r179) (fun _ _ _ _ => False) (fun v h' => Q v h' ∧ wd_W h') 52 lv (.ref 159 :: .ref 159 :: st) v1 from ⟨rfl, ?_⟩)
  obtain ⟨K0, Q0, hs, hk, -⟩ := am_X.inv1 (r := (.iconst 1, 53, 0, 0, 0, 0)) (fun z => z) rfl k
  have hs : K0 53 lv (.int (Int32.ofInt 1) :: .ref 159 :: .ref 159 :: st) v1 := hs
  replace k := hk _ _ _ _ hs
  refine am_xstep (r := (.iconst 1, 53, 0, 0, 0, 0)) rfl (show am_X (am_call am_cod d) (am_nL 179) lim (am_rt 179) (am_find am_r179) (fun _ _ _ _ => False) (fun v h' => Q v h' ∧ wd_W h') 53 lv (.int (Int32.ofInt 1) :: .ref 159 :: .ref 159 :: st) v1 from ?_)
  obtain ⟨K0, Q0, hs, hk, -⟩ := am_X.inv1 (r := (.ldc2_w 36, 56, 0, 0, 6, 0)) (fun z => z) rfl k
  have hs : K0 56 lv (.long (am_kl 6) :: .int (Int32.ofInt 1) :: .ref 159 :: .ref 159 :: st) v1 := hs
  replace k := hk _ _ _ _ hs
  refine am_xstep (r := (.ldc2_w 36, 56, 0, 0, 6, 0)) rfl (show am_X (am_call am_cod d) (am_nL 179) lim (am_rt 179) (am_find am_r179) (fun _ _ _ _ => False) (fun v h' => Q v h' ∧ wd_W h') 56 lv (.long (am_kl 6) :: .int (Int32.ofInt 1) :: .ref 159 :: .ref 159 :: st) v1 from ?_)
  obtain ⟨K0, Q0, hs, hk, -⟩ := am_X.inv1 (r := (.lastore, 57, 0, 0, 0, 0)) (fun z => z) rfl k
  have hs : ∃ j n : Nat, am_so v1 159 = some (14, n) ∧ j < n ∧ (Int32.ofInt 1) = nI j ∧ K0 57 lv (.ref 159 :: st) (am_wL v1 159 j (am_kl 6)) := hs
  obtain ⟨j, n1, z1, z2, z3, z4⟩ := hs
  replace k := hk _ _ _ _ z4
  refine am_xstep (r := (.lastore, 57, 0, 0, 0, 0)) rfl (show ∃ j n : Nat, am_so v1 159 = some (14, n) ∧ j < n ∧ (Int32.ofInt 1) = nI j ∧ am_X (am_call am_cod d) (am_nL 179) lim (am_rt 179) (am_find am_r179) (fun _ _ _ _ => False) (fun v h' => Q v h' ∧ wd_W h') 57 lv (.ref 159 :: st) (am_wL v1 159 j (am_kl 6)) from ⟨j, n1, z1, z2, z3, ?_⟩)
  have g2 := wd_s (i := 1) g1 (by decide) z1 z2 (show nI 1 = nI j from z3) (show am_kl 6 = rw_w 1 by decide +kernel)
  clear z4 hk z1 z2 z3 g1
  generalize am_wL v1 159 j (am_kl 6) = v2 at k g2 ⊢
  obtain ⟨K0, Q0, hs, hk, -⟩ := am_X.inv1 (r := (.dup, 58, 0, 0, 0, 0)) (fun z => z) rfl k
  have hs : (Value.ref 159).category = 1 ∧ K0 58 lv (.ref 159 :: .ref 159 :: st) v2 := hs
  replace k := hk _ _ _ _ hs.2
  refine am_xstep (r := (.dup, 58, 0, 0, 0, 0)) rfl (show (Value.ref 159).category = 1 ∧ am_X (am_call am_cod d) (am_nL 179) lim (am_rt 179) (am_find am_r179) (fun _ _ _ _ => False) (fun v h' => Q v h' ∧ wd_W h') 58 lv (.ref 159 :: .ref 159 :: st) v2 from ⟨rfl, ?_⟩)
  obtain ⟨K0, Q0, hs, hk, -⟩ := am_X.inv1 (r := (.iconst 2, 59, 0, 0, 0, 0)) (fun z => z) rfl k
  have hs : K0 59 lv (.int (Int32.ofInt 2) :: .ref 159 :: .ref 159 :: st) v2 := hs
  replace k := hk _ _ _ _ hs
  refine am_xstep (r := (.iconst 2, 59, 0, 0, 0, 0)) rfl (show am_X (am_call am_cod d) (am_nL 179) lim (am_rt 179) (am_find am_r179) (fun _ _ _ _ => False) (fun v h' => Q v h' ∧ wd_W h') 59 lv (.int (Int32.ofInt 2) :: .ref 159 :: .ref 159 :: st) v2 from ?_)
  obtain ⟨K0, Q0, hs, hk, -⟩ := am_X.inv1 (r := (.ldc2_w 38, 62, 0, 0, 7, 0)) (fun z => z) rfl k
  have hs : K0 62 lv (.long (am_kl 7) :: .int (Int32.ofInt 2) :: .ref 159 :: .ref 159 :: st) v2 := hs
  replace k := hk _ _ _ _ hs
  refine am_xstep (r := (.ldc2_w 38, 62, 0, 0, 7, 0)) rfl (show am_X (am_call am_cod d) (am_nL 179) lim (am_rt 179) (am_find am_r179) (fun _ _ _ _ => False) (fun v h' => Q v h' ∧ wd_W h') 62 lv (.long (am_kl 7) :: .int (Int32.ofInt 2) :: .ref 159 :: .ref 159 :: st) v2 from ?_)
  obtain ⟨K0, Q0, hs, hk, -⟩ := am_X.inv1 (r := (.lastore, 63, 0, 0, 0, 0)) (fun z => z) rfl k
  have hs : ∃ j n : Nat, am_so v2 159 = some (14, n) ∧ j < n ∧ (Int32.ofInt 2) = nI j ∧ K0 63 lv (.ref 159 :: st) (am_wL v2 159 j (am_kl 7)) := hs
  obtain ⟨j, n2, z1, z2, z3, z4⟩ := hs
  replace k := hk _ _ _ _ z4
  refine am_xstep (r := (.lastore, 63, 0, 0, 0, 0)) rfl (show ∃ j n : Nat, am_so v2 159 = some (14, n) ∧ j < n ∧ (Int32.ofInt 2) = nI j ∧ am_X (am_call am_cod d) (am_nL 179) lim (am_rt 179) (am_find am_r179) (fun _ _ _ _ => False) (fun v h' => Q v h' ∧ wd_W h') 63 lv (.ref 159 :: st) (am_wL v2 159 j (am_kl 7)) from ⟨j, n2, z1, z2, z3, ?_⟩)
  have g3 := wd_s (i := 2) g2 (by decide) z1 z2 (show nI 2 = nI j from z3) (show am_kl 7 = rw_w 2 by decide +kernel)
  clear z4 hk z1 z2 z3 g2
  generalize am_wL v2 159 j (am_kl 7) = v3 at k g3 ⊢
  obtain ⟨K0, Q0, hs, hk, -⟩ := am_X.inv1 (r := (.dup, 64, 0, 0, 0, 0)) (fun z => z) rfl k
  have hs : (Value.ref 159).category = 1 ∧ K0 64 lv (.ref 159 :: .ref 159 :: st) v3 := hs
  replace k := hk _ _ _ _ hs.2
  refine am_xstep (r := (.dup, 64, 0, 0, 0, 0)) rfl (show (Value.ref 159).category = 1 ∧ am_X (am_call am_cod d) (am_nL 179) lim (am_rt 179) (am_find am_r179) (fun _ _ _ _ => False) (fun v h' => Q v h' ∧ wd_W h') 64 lv (.ref 159 :: .ref 159 :: st) v3 from ⟨rfl, ?_⟩)
  obtain ⟨K0, Q0, hs, hk, -⟩ := am_X.inv1 (r := (.iconst 3, 65, 0, 0, 0, 0)) (fun z => z) rfl k
  have hs : K0 65 lv (.int (Int32.ofInt 3) :: .ref 159 :: .ref 159 :: st) v3 := hs
  replace k := hk _ _ _ _ hs
  refine am_xstep (r := (.iconst 3, 65, 0, 0, 0, 0)) rfl (show am_X (am_call am_cod d) (am_nL 179) lim (am_rt 179) (am_find am_r179) (fun _ _ _ _ => False) (fun v h' => Q v h' ∧ wd_W h') 65 lv (.int (Int32.ofInt 3) :: .ref 159 :: .ref 159 :: st) v3 from ?_)
  obtain ⟨K0, Q0, hs, hk, -⟩ := am_X.inv1 (r := (.ldc2_w 40, 68, 0, 0, 8, 0)) (fun z => z) rfl k
  have hs : K0 68 lv (.long (am_kl 8) :: .int (Int32.ofInt 3) :: .ref 159 :: .ref 159 :: st) v3 := hs
  replace k := hk _ _ _ _ hs
  refine am_xstep (r := (.ldc2_w 40, 68, 0, 0, 8, 0)) rfl (show am_X (am_call am_cod d) (am_nL 179) lim (am_rt 179) (am_find am_r179) (fun _ _ _ _ => False) (fun v h' => Q v h' ∧ wd_W h') 68 lv (.long (am_kl 8) :: .int (Int32.ofInt 3) :: .ref 159 :: .ref 159 :: st) v3 from ?_)
  obtain ⟨K0, Q0, hs, hk, -⟩ := am_X.inv1 (r := (.lastore, 69, 0, 0, 0, 0)) (fun z => z) rfl k
  have hs : ∃ j n : Nat, am_so v3 159 = some (14, n) ∧ j < n ∧ (Int32.ofInt 3) = nI j ∧ K0 69 lv (.ref 159 :: st) (am_wL v3 159 j (am_kl 8)) := hs
  obtain ⟨j, n3, z1, z2, z3, z4⟩ := hs
  replace k := hk _ _ _ _ z4
  refine am_xstep (r := (.lastore, 69, 0, 0, 0, 0)) rfl (show ∃ j n : Nat, am_so v3 159 = some (14, n) ∧ j < n ∧ (Int32.ofInt 3) = nI j ∧ am_X (am_call am_cod d) (am_nL 179) lim (am_rt 179) (am_find am_r179) (fun _ _ _ _ => False) (fun v h' => Q v h' ∧ wd_W h') 69 lv (.ref 159 :: st) (am_wL v3 159 j (am_kl 8)) from ⟨j, n3, z1, z2, z3, ?_⟩)
  have g4 := wd_s (i := 3) g3 (by decide) z1 z2 (show nI 3 = nI j from z3) (show am_kl 8 = rw_w 3 by decide +kernel)
  clear z4 hk z1 z2 z3 g3
  generalize am_wL v3 159 j (am_kl 8) = v4 at k g4 ⊢
  obtain ⟨K0, Q0, hs, hk, -⟩ := am_X.inv1 (r := (.dup, 70, 0, 0, 0, 0)) (fun z => z) rfl k
  have hs : (Value.ref 159).category = 1 ∧ K0 70 lv (.ref 159 :: .ref 159 :: st) v4 := hs
  replace k := hk _ _ _ _ hs.2
  refine am_xstep (r := (.dup, 70, 0, 0, 0, 0)) rfl (show (Value.ref 159).category = 1 ∧ am_X (am_call am_cod d) (am_nL 179) lim (am_rt 179) (am_find am_r179) (fun _ _ _ _ => False) (fun v h' => Q v h' ∧ wd_W h') 70 lv (.ref 159 :: .ref 159 :: st) v4 from ⟨rfl, ?_⟩)
  obtain ⟨K0, Q0, hs, hk, -⟩ := am_X.inv1 (r := (.iconst 4, 71, 0, 0, 0, 0)) (fun z => z) rfl k
  have hs : K0 71 lv (.int (Int32.ofInt 4) :: .ref 159 :: .ref 159 :: st) v4 := hs
  replace k := hk _ _ _ _ hs
  refine am_xstep (r := (.iconst 4, 71, 0, 0, 0, 0)) rfl (show am_X (am_call am_cod d) (am_nL 179) lim (am_rt 179) (am_find am_r179) (fun _ _ _ _ => False) (fun v h' => Q v h' ∧ wd_W h') 71 lv (.int (Int32.ofInt 4) :: .ref 159 :: .ref 159 :: st) v4 from ?_)
  obtain ⟨K0, Q0, hs, hk, -⟩ := am_X.inv1 (r := (.ldc2_w 42, 74, 0, 0, 9, 0)) (fun z => z) rfl k
  have hs : K0 74 lv (.long (am_kl 9) :: .int (Int32.ofInt 4) :: .ref 159 :: .ref 159 :: st) v4 := hs
  replace k := hk _ _ _ _ hs
  refine am_xstep (r := (.ldc2_w 42, 74, 0, 0, 9, 0)) rfl (show am_X (am_call am_cod d) (am_nL 179) lim (am_rt 179) (am_find am_r179) (fun _ _ _ _ => False) (fun v h' => Q v h' ∧ wd_W h') 74 lv (.long (am_kl 9) :: .int (Int32.ofInt 4) :: .ref 159 :: .ref 159 :: st) v4 from ?_)
  obtain ⟨K0, Q0, hs, hk, -⟩ := am_X.inv1 (r := (.lastore, 75, 0, 0, 0, 0)) (fun z => z) rfl k
  have hs : ∃ j n : Nat, am_so v4 159 = some (14, n) ∧ j < n ∧ (Int32.ofInt 4) = nI j ∧ K0 75 lv (.ref 159 :: st) (am_wL v4 159 j (am_kl 9)) := hs
  obtain ⟨j, n4, z1, z2, z3, z4⟩ := hs
  replace k := hk _ _ _ _ z4
  refine am_xstep (r := (.lastore, 75, 0, 0, 0, 0)) rfl (show ∃ j n : Nat, am_so v4 159 = some (14, n) ∧ j < n ∧ (Int32.ofInt 4) = nI j ∧ am_X (am_call am_cod d) (am_nL 179) lim (am_rt 179) (am_find am_r179) (fun _ _ _ _ => False) (fun v h' => Q v h' ∧ wd_W h') 75 lv (.ref 159 :: st) (am_wL v4 159 j (am_kl 9)) from ⟨j, n4, z1, z2, z3, ?_⟩)
  have g5 := wd_s (i := 4) g4 (by decide) z1 z2 (show nI 4 = nI j from z3) (show am_kl 9 = rw_w 4 by decide +kernel)
  clear z4 hk z1 z2 z3 g4
  generalize am_wL v4 159 j (am_kl 9) = v5 at k g5 ⊢
  obtain ⟨K0, Q0, hs, hk, -⟩ := am_X.inv1 (r := (.dup, 76, 0, 0, 0, 0)) (fun z => z) rfl k
  have hs : (Value.ref 159).category = 1 ∧ K0 76 lv (.ref 159 :: .ref 159 :: st) v5 := hs
  replace k := hk _ _ _ _ hs.2
  refine am_xstep (r := (.dup, 76, 0, 0, 0, 0)) rfl (show (Value.ref 159).category = 1 ∧ am_X (am_call am_cod d) (am_nL 179) lim (am_rt 179) (am_find am_r179) (fun _ _ _ _ => False) (fun v h' => Q v h' ∧ wd_W h') 76 lv (.ref 159 :: .ref 159 :: st) v5 from ⟨rfl, ?_⟩)
  obtain ⟨K0, Q0, hs, hk, -⟩ := am_X.inv1 (r := (.iconst 5, 77, 0, 0, 0, 0)) (fun z => z) rfl k
  have hs : K0 77 lv (.int (Int32.ofInt 5) :: .ref 159 :: .ref 159 :: st) v5 := hs
  replace k := hk _ _ _ _ hs
  refine am_xstep (r := (.iconst 5, 77, 0, 0, 0, 0)) rfl (show am_X (am_call am_cod d) (am_nL 179) lim (am_rt 179) (am_find am_r179) (fun _ _ _ _ => False) (fun v h' => Q v h' ∧ wd_W h') 77 lv (.int (Int32.ofInt 5) :: .ref 159 :: .ref 159 :: st) v5 from ?_)
  obtain ⟨K0, Q0, hs, hk, -⟩ := am_X.inv1 (r := (.ldc2_w 44, 80, 0, 0, 10, 0)) (fun z => z) rfl k
  have hs : K0 80 lv (.long (am_kl 10) :: .int (Int32.ofInt 5) :: .ref 159 :: .ref 159 :: st) v5 := hs
  replace k := hk _ _ _ _ hs
  refine am_xstep (r := (.ldc2_w 44, 80, 0, 0, 10, 0)) rfl (show am_X (am_call am_cod d) (am_nL 179) lim (am_rt 179) (am_find am_r179) (fun _ _ _ _ => False) (fun v h' => Q v h' ∧ wd_W h') 80 lv (.long (am_kl 10) :: .int (Int32.ofInt 5) :: .ref 159 :: .ref 159 :: st) v5 from ?_)
  obtain ⟨K0, Q0, hs, hk, -⟩ := am_X.inv1 (r := (.lastore, 81, 0, 0, 0, 0)) (fun z => z) rfl k
  have hs : ∃ j n : Nat, am_so v5 159 = some (14, n) ∧ j < n ∧ (Int32.ofInt 5) = nI j ∧ K0 81 lv (.ref 159 :: st) (am_wL v5 159 j (am_kl 10)) := hs
  obtain ⟨j, n5, z1, z2, z3, z4⟩ := hs
  replace k := hk _ _ _ _ z4
  refine am_xstep (r := (.lastore, 81, 0, 0, 0, 0)) rfl (show ∃ j n : Nat, am_so v5 159 = some (14, n) ∧ j < n ∧ (Int32.ofInt 5) = nI j ∧ am_X (am_call am_cod d) (am_nL 179) lim (am_rt 179) (am_find am_r179) (fun _ _ _ _ => False) (fun v h' => Q v h' ∧ wd_W h') 81 lv (.ref 159 :: st) (am_wL v5 159 j (am_kl 10)) from ⟨j, n5, z1, z2, z3, ?_⟩)
  have g6 := wd_s (i := 5) g5 (by decide) z1 z2 (show nI 5 = nI j from z3) (show am_kl 10 = rw_w 5 by decide +kernel)
  clear z4 hk z1 z2 z3 g5
  generalize am_wL v5 159 j (am_kl 10) = v6 at k g6 ⊢
  obtain ⟨K0, Q0, hs, hk, -⟩ := am_X.inv1 (r := (.dup, 82, 0, 0, 0, 0)) (fun z => z) rfl k
  have hs : (Value.ref 159).category = 1 ∧ K0 82 lv (.ref 159 :: .ref 159 :: st) v6 := hs
  replace k := hk _ _ _ _ hs.2
  refine am_xstep (r := (.dup, 82, 0, 0, 0, 0)) rfl (show (Value.ref 159).category = 1 ∧ am_X (am_call am_cod d) (am_nL 179) lim (am_rt 179) (am_find am_r179) (fun _ _ _ _ => False) (fun v h' => Q v h' ∧ wd_W h') 82 lv (.ref 159 :: .ref 159 :: st) v6 from ⟨rfl, ?_⟩)
  obtain ⟨K0, Q0, hs, hk, -⟩ := am_X.inv1 (r := (.bipush 6, 84, 0, 0, 0, 0)) (fun z => z) rfl k
  have hs : K0 84 lv (.int (Int8.ofInt 6).toInt32 :: .ref 159 :: .ref 159 :: st) v6 := hs
  replace k := hk _ _ _ _ hs
  refine am_xstep (r := (.bipush 6, 84, 0, 0, 0, 0)) rfl (show am_X (am_call am_cod d) (am_nL 179) lim (am_rt 179) (am_find am_r179) (fun _ _ _ _ => False) (fun v h' => Q v h' ∧ wd_W h') 84 lv (.int (Int8.ofInt 6).toInt32 :: .ref 159 :: .ref 159 :: st) v6 from ?_)
  obtain ⟨K0, Q0, hs, hk, -⟩ := am_X.inv1 (r := (.ldc2_w 46, 87, 0, 0, 11, 0)) (fun z => z) rfl k
  have hs : K0 87 lv (.long (am_kl 11) :: .int (Int8.ofInt 6).toInt32 :: .ref 159 :: .ref 159 :: st) v6 := hs
  replace k := hk _ _ _ _ hs
  refine am_xstep (r := (.ldc2_w 46, 87, 0, 0, 11, 0)) rfl (show am_X (am_call am_cod d) (am_nL 179) lim (am_rt 179) (am_find am_r179) (fun _ _ _ _ => False) (fun v h' => Q v h' ∧ wd_W h') 87 lv (.long (am_kl 11) :: .int (Int8.ofInt 6).toInt32 :: .ref 159 :: .ref 159 :: st) v6 from ?_)
  obtain ⟨K0, Q0, hs, hk, -⟩ := am_X.inv1 (r := (.lastore, 88, 0, 0, 0, 0)) (fun z => z) rfl k
  have hs : ∃ j n : Nat, am_so v6 159 = some (14, n) ∧ j < n ∧ (Int8.ofInt 6).toInt32 = nI j ∧ K0 88 lv (.ref 159 :: st) (am_wL v6 159 j (am_kl 11)) := hs
  obtain ⟨j, n6, z1, z2, z3, z4⟩ := hs
  replace k := hk _ _ _ _ z4
  refine am_xstep (r := (.lastore, 88, 0, 0, 0, 0)) rfl (show ∃ j n : Nat, am_so v6 159 = some (14, n) ∧ j < n ∧ (Int8.ofInt 6).toInt32 = nI j ∧ am_X (am_call am_cod d) (am_nL 179) lim (am_rt 179) (am_find am_r179) (fun _ _ _ _ => False) (fun v h' => Q v h' ∧ wd_W h') 88 lv (.ref 159 :: st) (am_wL v6 159 j (am_kl 11)) from ⟨j, n6, z1, z2, z3, ?_⟩)
  have g7 := wd_s (i := 6) g6 (by decide) z1 z2 (show nI 6 = nI j from z3) (show am_kl 11 = rw_w 6 by decide +kernel)
  clear z4 hk z1 z2 z3 g6
  generalize am_wL v6 159 j (am_kl 11) = v7 at k g7 ⊢
  obtain ⟨K0, Q0, hs, hk, -⟩ := am_X.inv1 (r := (.dup, 89, 0, 0, 0, 0)) (fun z => z) rfl k
  have hs : (Value.ref 159).category = 1 ∧ K0 89 lv (.ref 159 :: .ref 159 :: st) v7 := hs
  replace k := hk _ _ _ _ hs.2
  refine am_xstep (r := (.dup, 89, 0, 0, 0, 0)) rfl (show (Value.ref 159).category = 1 ∧ am_X (am_call am_cod d) (am_nL 179) lim (am_rt 179) (am_find am_r179) (fun _ _ _ _ => False) (fun v h' => Q v h' ∧ wd_W h') 89 lv (.ref 159 :: .ref 159 :: st) v7 from ⟨rfl, ?_⟩)
  obtain ⟨K0, Q0, hs, hk, -⟩ := am_X.inv1 (r := (.bipush 7, 91, 0, 0, 0, 0)) (fun z => z) rfl k
  have hs : K0 91 lv (.int (Int8.ofInt 7).toInt32 :: .ref 159 :: .ref 159 :: st) v7 := hs
  replace k := hk _ _ _ _ hs
  refine am_xstep (r := (.bipush 7, 91, 0, 0, 0, 0)) rfl (show am_X (am_call am_cod d) (am_nL 179) lim (am_rt 179) (am_find am_r179) (fun _ _ _ _ => False) (fun v h' => Q v h' ∧ wd_W h') 91 lv (.int (Int8.ofInt 7).toInt32 :: .ref 159 :: .ref 159 :: st) v7 from ?_)
  obtain ⟨K0, Q0, hs, hk, -⟩ := am_X.inv1 (r := (.ldc2_w 48, 94, 0, 0, 12, 0)) (fun z => z) rfl k
  have hs : K0 94 lv (.long (am_kl 12) :: .int (Int8.ofInt 7).toInt32 :: .ref 159 :: .ref 159 :: st) v7 := hs
  replace k := hk _ _ _ _ hs
  refine am_xstep (r := (.ldc2_w 48, 94, 0, 0, 12, 0)) rfl (show am_X (am_call am_cod d) (am_nL 179) lim (am_rt 179) (am_find am_r179) (fun _ _ _ _ => False) (fun v h' => Q v h' ∧ wd_W h') 94 lv (.long (am_kl 12) :: .int (Int8.ofInt 7).toInt32 :: .ref 159 :: .ref 159 :: st) v7 from ?_)
  obtain ⟨K0, Q0, hs, hk, -⟩ := am_X.inv1 (r := (.lastore, 95, 0, 0, 0, 0)) (fun z => z) rfl k
  have hs : ∃ j n : Nat, am_so v7 159 = some (14, n) ∧ j < n ∧ (Int8.ofInt 7).toInt32 = nI j ∧ K0 95 lv (.ref 159 :: st) (am_wL v7 159 j (am_kl 12)) := hs
  obtain ⟨j, n7, z1, z2, z3, z4⟩ := hs
  replace k := hk _ _ _ _ z4
  refine am_xstep (r := (.lastore, 95, 0, 0, 0, 0)) rfl (show ∃ j n : Nat, am_so v7 159 = some (14, n) ∧ j < n ∧ (Int8.ofInt 7).toInt32 = nI j ∧ am_X (am_call am_cod d) (am_nL 179) lim (am_rt 179) (am_find am_r179) (fun _ _ _ _ => False) (fun v h' => Q v h' ∧ wd_W h') 95 lv (.ref 159 :: st) (am_wL v7 159 j (am_kl 12)) from ⟨j, n7, z1, z2, z3, ?_⟩)
  have g8 := wd_s (i := 7) g7 (by decide) z1 z2 (show nI 7 = nI j from z3) (show am_kl 12 = rw_w 7 by decide +kernel)
  clear z4 hk z1 z2 z3 g7
  generalize am_wL v7 159 j (am_kl 12) = v8 at k g8 ⊢
  obtain ⟨K0, Q0, hs, hk, -⟩ := am_X.inv1 (r := (.dup, 96, 0, 0, 0, 0)) (fun z => z) rfl k
  have hs : (Value.ref 159).category = 1 ∧ K0 96 lv (.ref 159 :: .ref 159 :: st) v8 := hs
  replace k := hk _ _ _ _ hs.2
  refine am_xstep (r := (.dup, 96, 0, 0, 0, 0)) rfl (show (Value.ref 159).category = 1 ∧ am_X (am_call am_cod d) (am_nL 179) lim (am_rt 179) (am_find am_r179) (fun _ _ _ _ => False) (fun v h' => Q v h' ∧ wd_W h') 96 lv (.ref 159 :: .ref 159 :: st) v8 from ⟨rfl, ?_⟩)
  obtain ⟨K0, Q0, hs, hk, -⟩ := am_X.inv1 (r := (.bipush 8, 98, 0, 0, 0, 0)) (fun z => z) rfl k
  have hs : K0 98 lv (.int (Int8.ofInt 8).toInt32 :: .ref 159 :: .ref 159 :: st) v8 := hs
  replace k := hk _ _ _ _ hs
  refine am_xstep (r := (.bipush 8, 98, 0, 0, 0, 0)) rfl (show am_X (am_call am_cod d) (am_nL 179) lim (am_rt 179) (am_find am_r179) (fun _ _ _ _ => False) (fun v h' => Q v h' ∧ wd_W h') 98 lv (.int (Int8.ofInt 8).toInt32 :: .ref 159 :: .ref 159 :: st) v8 from ?_)
  obtain ⟨K0, Q0, hs, hk, -⟩ := am_X.inv1 (r := (.ldc2_w 50, 101, 0, 0, 13, 0)) (fun z => z) rfl k
  have hs : K0 101 lv (.long (am_kl 13) :: .int (Int8.ofInt 8).toInt32 :: .ref 159 :: .ref 159 :: st) v8 := hs
  replace k := hk _ _ _ _ hs
  refine am_xstep (r := (.ldc2_w 50, 101, 0, 0, 13, 0)) rfl (show am_X (am_call am_cod d) (am_nL 179) lim (am_rt 179) (am_find am_r179) (fun _ _ _ _ => False) (fun v h' => Q v h' ∧ wd_W h') 101 lv (.long (am_kl 13) :: .int (Int8.ofInt 8).toInt32 :: .ref 159 :: .ref 159 :: st) v8 from ?_)
  obtain ⟨K0, Q0, hs, hk, -⟩ := am_X.inv1 (r := (.lastore, 102, 0, 0, 0, 0)) (fun z => z) rfl k
  have hs : ∃ j n : Nat, am_so v8 159 = some (14, n) ∧ j < n ∧ (Int8.ofInt 8).toInt32 = nI j ∧ K0 102 lv (.ref 159 :: st) (am_wL v8 159 j (am_kl 13)) := hs
  obtain ⟨j, n8, z1, z2, z3, z4⟩ := hs
  replace k := hk _ _ _ _ z4
  refine am_xstep (r := (.lastore, 102, 0, 0, 0, 0)) rfl (show ∃ j n : Nat, am_so v8 159 = some (14, n) ∧ j < n ∧ (Int8.ofInt 8).toInt32 = nI j ∧ am_X (am_call am_cod d) (am_nL 179) lim (am_rt 179) (am_find am_r179) (fun _ _ _ _ => False) (fun v h' => Q v h' ∧ wd_W h') 102 lv (.ref 159 :: st) (am_wL v8 159 j (am_kl 13)) from ⟨j, n8, z1, z2, z3, ?_⟩)
  have g9 := wd_s (i := 8) g8 (by decide) z1 z2 (show nI 8 = nI j from z3) (show am_kl 13 = rw_w 8 by decide +kernel)
  clear z4 hk z1 z2 z3 g8
  generalize am_wL v8 159 j (am_kl 13) = v9 at k g9 ⊢
  obtain ⟨K0, Q0, hs, hk, -⟩ := am_X.inv1 (r := (.dup, 103, 0, 0, 0, 0)) (fun z => z) rfl k
  have hs : (Value.ref 159).category = 1 ∧ K0 103 lv (.ref 159 :: .ref 159 :: st) v9 := hs
  replace k := hk _ _ _ _ hs.2
  refine am_xstep (r := (.dup, 103, 0, 0, 0, 0)) rfl (show (Value.ref 159).category = 1 ∧ am_X (am_call am_cod d) (am_nL 179) lim (am_rt 179) (am_find am_r179) (fun _ _ _ _ => False) (fun v h' => Q v h' ∧ wd_W h') 103 lv (.ref 159 :: .ref 159 :: st) v9 from ⟨rfl, ?_⟩)
  obtain ⟨K0, Q0, hs, hk, -⟩ := am_X.inv1 (r := (.bipush 9, 105, 0, 0, 0, 0)) (fun z => z) rfl k
  have hs : K0 105 lv (.int (Int8.ofInt 9).toInt32 :: .ref 159 :: .ref 159 :: st) v9 := hs
  replace k := hk _ _ _ _ hs
  refine am_xstep (r := (.bipush 9, 105, 0, 0, 0, 0)) rfl (show am_X (am_call am_cod d) (am_nL 179) lim (am_rt 179) (am_find am_r179) (fun _ _ _ _ => False) (fun v h' => Q v h' ∧ wd_W h') 105 lv (.int (Int8.ofInt 9).toInt32 :: .ref 159 :: .ref 159 :: st) v9 from ?_)
  obtain ⟨K0, Q0, hs, hk, -⟩ := am_X.inv1 (r := (.ldc2_w 52, 108, 0, 0, 14, 0)) (fun z => z) rfl k
  have hs : K0 108 lv (.long (am_kl 14) :: .int (Int8.ofInt 9).toInt32 :: .ref 159 :: .ref 159 :: st) v9 := hs
  replace k := hk _ _ _ _ hs
  refine am_xstep (r := (.ldc2_w 52, 108, 0, 0, 14, 0)) rfl (show am_X (am_call am_cod d) (am_nL 179) lim (am_rt 179) (am_find am_r179) (fun _ _ _ _ => False) (fun v h' => Q v h' ∧ wd_W h') 108 lv (.long (am_kl 14) :: .int (Int8.ofInt 9).toInt32 :: .ref 159 :: .ref 159 :: st) v9 from ?_)
  obtain ⟨K0, Q0, hs, hk, -⟩ := am_X.inv1 (r := (.lastore, 109, 0, 0, 0, 0)) (fun z => z) rfl k
  have hs : ∃ j n : Nat, am_so v9 159 = some (14, n) ∧ j < n ∧ (Int8.ofInt 9).toInt32 = nI j ∧ K0 109 lv (.ref 159 :: st) (am_wL v9 159 j (am_kl 14)) := hs
  obtain ⟨j, n9, z1, z2, z3, z4⟩ := hs
  replace k := hk _ _ _ _ z4
  refine am_xstep (r := (.lastore, 109, 0, 0, 0, 0)) rfl (show ∃ j n : Nat, am_so v9 159 = some (14, n) ∧ j < n ∧ (Int8.ofInt 9).toInt32 = nI j ∧ am_X (am_call am_cod d) (am_nL 179) lim (am_rt 179) (am_find am_r179) (fun _ _ _ _ => False) (fun v h' => Q v h' ∧ wd_W h') 109 lv (.ref 159 :: st) (am_wL v9 159 j (am_kl 14)) from ⟨j, n9, z1, z2, z3, ?_⟩)
  have g10 := wd_s (i := 9) g9 (by decide) z1 z2 (show nI 9 = nI j from z3) (show am_kl 14 = rw_w 9 by decide +kernel)
  clear z4 hk z1 z2 z3 g9
  generalize am_wL v9 159 j (am_kl 14) = v10 at k g10 ⊢
  obtain ⟨K0, Q0, hs, hk, -⟩ := am_X.inv1 (r := (.dup, 110, 0, 0, 0, 0)) (fun z => z) rfl k
  have hs : (Value.ref 159).category = 1 ∧ K0 110 lv (.ref 159 :: .ref 159 :: st) v10 := hs
  replace k := hk _ _ _ _ hs.2
  refine am_xstep (r := (.dup, 110, 0, 0, 0, 0)) rfl (show (Value.ref 159).category = 1 ∧ am_X (am_call am_cod d) (am_nL 179) lim (am_rt 179) (am_find am_r179) (fun _ _ _ _ => False) (fun v h' => Q v h' ∧ wd_W h') 110 lv (.ref 159 :: .ref 159 :: st) v10 from ⟨rfl, ?_⟩)
  obtain ⟨K0, Q0, hs, hk, -⟩ := am_X.inv1 (r := (.bipush 10, 112, 0, 0, 0, 0)) (fun z => z) rfl k
  have hs : K0 112 lv (.int (Int8.ofInt 10).toInt32 :: .ref 159 :: .ref 159 :: st) v10 := hs
  replace k := hk _ _ _ _ hs
  refine am_xstep (r := (.bipush 10, 112, 0, 0, 0, 0)) rfl (show am_X (am_call am_cod d) (am_nL 179) lim (am_rt 179) (am_find am_r179) (fun _ _ _ _ => False) (fun v h' => Q v h' ∧ wd_W h') 112 lv (.int (Int8.ofInt 10).toInt32 :: .ref 159 :: .ref 159 :: st) v10 from ?_)
  obtain ⟨K0, Q0, hs, hk, -⟩ := am_X.inv1 (r := (.ldc2_w 54, 115, 0, 0, 15, 0)) (fun z => z) rfl k
  have hs : K0 115 lv (.long (am_kl 15) :: .int (Int8.ofInt 10).toInt32 :: .ref 159 :: .ref 159 :: st) v10 := hs
  replace k := hk _ _ _ _ hs
  refine am_xstep (r := (.ldc2_w 54, 115, 0, 0, 15, 0)) rfl (show am_X (am_call am_cod d) (am_nL 179) lim (am_rt 179) (am_find am_r179) (fun _ _ _ _ => False) (fun v h' => Q v h' ∧ wd_W h') 115 lv (.long (am_kl 15) :: .int (Int8.ofInt 10).toInt32 :: .ref 159 :: .ref 159 :: st) v10 from ?_)
  obtain ⟨K0, Q0, hs, hk, -⟩ := am_X.inv1 (r := (.lastore, 116, 0, 0, 0, 0)) (fun z => z) rfl k
  have hs : ∃ j n : Nat, am_so v10 159 = some (14, n) ∧ j < n ∧ (Int8.ofInt 10).toInt32 = nI j ∧ K0 116 lv (.ref 159 :: st) (am_wL v10 159 j (am_kl 15)) := hs
  obtain ⟨j, n10, z1, z2, z3, z4⟩ := hs
  replace k := hk _ _ _ _ z4
  refine am_xstep (r := (.lastore, 116, 0, 0, 0, 0)) rfl (show ∃ j n : Nat, am_so v10 159 = some (14, n) ∧ j < n ∧ (Int8.ofInt 10).toInt32 = nI j ∧ am_X (am_call am_cod d) (am_nL 179) lim (am_rt 179) (am_find am_r179) (fun _ _ _ _ => False) (fun v h' => Q v h' ∧ wd_W h') 116 lv (.ref 159 :: st) (am_wL v10 159 j (am_kl 15)) from ⟨j, n10, z1, z2, z3, ?_⟩)
  have g11 := wd_s (i := 10) g10 (by decide) z1 z2 (show nI 10 = nI j from z3) (show am_kl 15 = rw_w 10 by decide +kernel)
  clear z4 hk z1 z2 z3 g10
  generalize am_wL v10 159 j (am_kl 15) = v11 at k g11 ⊢
  obtain ⟨K0, Q0, hs, hk, -⟩ := am_X.inv1 (r := (.dup, 117, 0, 0, 0, 0)) (fun z => z) rfl k
  have hs : (Value.ref 159).category = 1 ∧ K0 117 lv (.ref 159 :: .ref 159 :: st) v11 := hs
  replace k := hk _ _ _ _ hs.2
  refine am_xstep (r := (.dup, 117, 0, 0, 0, 0)) rfl (show (Value.ref 159).category = 1 ∧ am_X (am_call am_cod d) (am_nL 179) lim (am_rt 179) (am_find am_r179) (fun _ _ _ _ => False) (fun v h' => Q v h' ∧ wd_W h') 117 lv (.ref 159 :: .ref 159 :: st) v11 from ⟨rfl, ?_⟩)
  obtain ⟨K0, Q0, hs, hk, -⟩ := am_X.inv1 (r := (.bipush 11, 119, 0, 0, 0, 0)) (fun z => z) rfl k
  have hs : K0 119 lv (.int (Int8.ofInt 11).toInt32 :: .ref 159 :: .ref 159 :: st) v11 := hs
  replace k := hk _ _ _ _ hs
  refine am_xstep (r := (.bipush 11, 119, 0, 0, 0, 0)) rfl (show am_X (am_call am_cod d) (am_nL 179) lim (am_rt 179) (am_find am_r179) (fun _ _ _ _ => False) (fun v h' => Q v h' ∧ wd_W h') 119 lv (.int (Int8.ofInt 11).toInt32 :: .ref 159 :: .ref 159 :: st) v11 from ?_)
  obtain ⟨K0, Q0, hs, hk, -⟩ := am_X.inv1 (r := (.ldc2_w 56, 122, 0, 0, 16, 0)) (fun z => z) rfl k
  have hs : K0 122 lv (.long (am_kl 16) :: .int (Int8.ofInt 11).toInt32 :: .ref 159 :: .ref 159 :: st) v11 := hs
  replace k := hk _ _ _ _ hs
  refine am_xstep (r := (.ldc2_w 56, 122, 0, 0, 16, 0)) rfl (show am_X (am_call am_cod d) (am_nL 179) lim (am_rt 179) (am_find am_r179) (fun _ _ _ _ => False) (fun v h' => Q v h' ∧ wd_W h') 122 lv (.long (am_kl 16) :: .int (Int8.ofInt 11).toInt32 :: .ref 159 :: .ref 159 :: st) v11 from ?_)
  obtain ⟨K0, Q0, hs, hk, -⟩ := am_X.inv1 (r := (.lastore, 123, 0, 0, 0, 0)) (fun z => z) rfl k
  have hs : ∃ j n : Nat, am_so v11 159 = some (14, n) ∧ j < n ∧ (Int8.ofInt 11).toInt32 = nI j ∧ K0 123 lv (.ref 159 :: st) (am_wL v11 159 j (am_kl 16)) := hs
  obtain ⟨j, n11, z1, z2, z3, z4⟩ := hs
  replace k := hk _ _ _ _ z4
  refine am_xstep (r := (.lastore, 123, 0, 0, 0, 0)) rfl (show ∃ j n : Nat, am_so v11 159 = some (14, n) ∧ j < n ∧ (Int8.ofInt 11).toInt32 = nI j ∧ am_X (am_call am_cod d) (am_nL 179) lim (am_rt 179) (am_find am_r179) (fun _ _ _ _ => False) (fun v h' => Q v h' ∧ wd_W h') 123 lv (.ref 159 :: st) (am_wL v11 159 j (am_kl 16)) from ⟨j, n11, z1, z2, z3, ?_⟩)
  have g12 := wd_s (i := 11) g11 (by decide) z1 z2 (show nI 11 = nI j from z3) (show am_kl 16 = rw_w 11 by decide +kernel)
  clear z4 hk z1 z2 z3 g11
  generalize am_wL v11 159 j (am_kl 16) = v12 at k g12 ⊢
  obtain ⟨K0, Q0, hs, hk, -⟩ := am_X.inv1 (r := (.dup, 124, 0, 0, 0, 0)) (fun z => z) rfl k
  have hs : (Value.ref 159).category = 1 ∧ K0 124 lv (.ref 159 :: .ref 159 :: st) v12 := hs
  replace k := hk _ _ _ _ hs.2
  refine am_xstep (r := (.dup, 124, 0, 0, 0, 0)) rfl (show (Value.ref 159).category = 1 ∧ am_X (am_call am_cod d) (am_nL 179) lim (am_rt 179) (am_find am_r179) (fun _ _ _ _ => False) (fun v h' => Q v h' ∧ wd_W h') 124 lv (.ref 159 :: .ref 159 :: st) v12 from ⟨rfl, ?_⟩)
  obtain ⟨K0, Q0, hs, hk, -⟩ := am_X.inv1 (r := (.bipush 12, 126, 0, 0, 0, 0)) (fun z => z) rfl k
  have hs : K0 126 lv (.int (Int8.ofInt 12).toInt32 :: .ref 159 :: .ref 159 :: st) v12 := hs
  replace k := hk _ _ _ _ hs
  refine am_xstep (r := (.bipush 12, 126, 0, 0, 0, 0)) rfl (show am_X (am_call am_cod d) (am_nL 179) lim (am_rt 179) (am_find am_r179) (fun _ _ _ _ => False) (fun v h' => Q v h' ∧ wd_W h') 126 lv (.int (Int8.ofInt 12).toInt32 :: .ref 159 :: .ref 159 :: st) v12 from ?_)
  obtain ⟨K0, Q0, hs, hk, -⟩ := am_X.inv1 (r := (.ldc2_w 58, 129, 0, 0, 17, 0)) (fun z => z) rfl k
  have hs : K0 129 lv (.long (am_kl 17) :: .int (Int8.ofInt 12).toInt32 :: .ref 159 :: .ref 159 :: st) v12 := hs
  replace k := hk _ _ _ _ hs
  refine am_xstep (r := (.ldc2_w 58, 129, 0, 0, 17, 0)) rfl (show am_X (am_call am_cod d) (am_nL 179) lim (am_rt 179) (am_find am_r179) (fun _ _ _ _ => False) (fun v h' => Q v h' ∧ wd_W h') 129 lv (.long (am_kl 17) :: .int (Int8.ofInt 12).toInt32 :: .ref 159 :: .ref 159 :: st) v12 from ?_)
  obtain ⟨K0, Q0, hs, hk, -⟩ := am_X.inv1 (r := (.lastore, 130, 0, 0, 0, 0)) (fun z => z) rfl k
  have hs : ∃ j n : Nat, am_so v12 159 = some (14, n) ∧ j < n ∧ (Int8.ofInt 12).toInt32 = nI j ∧ K0 130 lv (.ref 159 :: st) (am_wL v12 159 j (am_kl 17)) := hs
  obtain ⟨j, n12, z1, z2, z3, z4⟩ := hs
  replace k := hk _ _ _ _ z4
  refine am_xstep (r := (.lastore, 130, 0, 0, 0, 0)) rfl (show ∃ j n : Nat, am_so v12 159 = some (14, n) ∧ j < n ∧ (Int8.ofInt 12).toInt32 = nI j ∧ am_X (am_call am_cod d) (am_nL 179) lim (am_rt 179) (am_find am_r179) (fun _ _ _ _ => False) (fun v h' => Q v h' ∧ wd_W h') 130 lv (.ref 159 :: st) (am_wL v12 159 j (am_kl 17)) from ⟨j, n12, z1, z2, z3, ?_⟩)
  have g13 := wd_s (i := 12) g12 (by decide) z1 z2 (show nI 12 = nI j from z3) (show am_kl 17 = rw_w 12 by decide +kernel)
  clear z4 hk z1 z2 z3 g12
  generalize am_wL v12 159 j (am_kl 17) = v13 at k g13 ⊢
  obtain ⟨K0, Q0, hs, hk, -⟩ := am_X.inv1 (r := (.dup, 131, 0, 0, 0, 0)) (fun z => z) rfl k
  have hs : (Value.ref 159).category = 1 ∧ K0 131 lv (.ref 159 :: .ref 159 :: st) v13 := hs
  replace k := hk _ _ _ _ hs.2
  refine am_xstep (r := (.dup, 131, 0, 0, 0, 0)) rfl (show (Value.ref 159).category = 1 ∧ am_X (am_call am_cod d) (am_nL 179) lim (am_rt 179) (am_find am_r179) (fun _ _ _ _ => False) (fun v h' => Q v h' ∧ wd_W h') 131 lv (.ref 159 :: .ref 159 :: st) v13 from ⟨rfl, ?_⟩)
  obtain ⟨K0, Q0, hs, hk, -⟩ := am_X.inv1 (r := (.bipush 13, 133, 0, 0, 0, 0)) (fun z => z) rfl k
  have hs : K0 133 lv (.int (Int8.ofInt 13).toInt32 :: .ref 159 :: .ref 159 :: st) v13 := hs
  replace k := hk _ _ _ _ hs
  refine am_xstep (r := (.bipush 13, 133, 0, 0, 0, 0)) rfl (show am_X (am_call am_cod d) (am_nL 179) lim (am_rt 179) (am_find am_r179) (fun _ _ _ _ => False) (fun v h' => Q v h' ∧ wd_W h') 133 lv (.int (Int8.ofInt 13).toInt32 :: .ref 159 :: .ref 159 :: st) v13 from ?_)
  obtain ⟨K0, Q0, hs, hk, -⟩ := am_X.inv1 (r := (.ldc2_w 60, 136, 0, 0, 18, 0)) (fun z => z) rfl k
  have hs : K0 136 lv (.long (am_kl 18) :: .int (Int8.ofInt 13).toInt32 :: .ref 159 :: .ref 159 :: st) v13 := hs
  replace k := hk _ _ _ _ hs
  refine am_xstep (r := (.ldc2_w 60, 136, 0, 0, 18, 0)) rfl (show am_X (am_call am_cod d) (am_nL 179) lim (am_rt 179) (am_find am_r179) (fun _ _ _ _ => False) (fun v h' => Q v h' ∧ wd_W h') 136 lv (.long (am_kl 18) :: .int (Int8.ofInt 13).toInt32 :: .ref 159 :: .ref 159 :: st) v13 from ?_)
  obtain ⟨K0, Q0, hs, hk, -⟩ := am_X.inv1 (r := (.lastore, 137, 0, 0, 0, 0)) (fun z => z) rfl k
  have hs : ∃ j n : Nat, am_so v13 159 = some (14, n) ∧ j < n ∧ (Int8.ofInt 13).toInt32 = nI j ∧ K0 137 lv (.ref 159 :: st) (am_wL v13 159 j (am_kl 18)) := hs
  obtain ⟨j, n13, z1, z2, z3, z4⟩ := hs
  replace k := hk _ _ _ _ z4
  refine am_xstep (r := (.lastore, 137, 0, 0, 0, 0)) rfl (show ∃ j n : Nat, am_so v13 159 = some (14, n) ∧ j < n ∧ (Int8.ofInt 13).toInt32 = nI j ∧ am_X (am_call am_cod d) (am_nL 179) lim (am_rt 179) (am_find am_r179) (fun _ _ _ _ => False) (fun v h' => Q v h' ∧ wd_W h') 137 lv (.ref 159 :: st) (am_wL v13 159 j (am_kl 18)) from ⟨j, n13, z1, z2, z3, ?_⟩)
  have g14 := wd_s (i := 13) g13 (by decide) z1 z2 (show nI 13 = nI j from z3) (show am_kl 18 = rw_w 13 by decide +kernel)
  clear z4 hk z1 z2 z3 g13
  generalize am_wL v13 159 j (am_kl 18) = v14 at k g14 ⊢
  obtain ⟨K0, Q0, hs, hk, -⟩ := am_X.inv1 (r := (.dup, 138, 0, 0, 0, 0)) (fun z => z) rfl k
  have hs : (Value.ref 159).category = 1 ∧ K0 138 lv (.ref 159 :: .ref 159 :: st) v14 := hs
  replace k := hk _ _ _ _ hs.2
  refine am_xstep (r := (.dup, 138, 0, 0, 0, 0)) rfl (show (Value.ref 159).category = 1 ∧ am_X (am_call am_cod d) (am_nL 179) lim (am_rt 179) (am_find am_r179) (fun _ _ _ _ => False) (fun v h' => Q v h' ∧ wd_W h') 138 lv (.ref 159 :: .ref 159 :: st) v14 from ⟨rfl, ?_⟩)
  obtain ⟨K0, Q0, hs, hk, -⟩ := am_X.inv1 (r := (.bipush 14, 140, 0, 0, 0, 0)) (fun z => z) rfl k
  have hs : K0 140 lv (.int (Int8.ofInt 14).toInt32 :: .ref 159 :: .ref 159 :: st) v14 := hs
  replace k := hk _ _ _ _ hs
  refine am_xstep (r := (.bipush 14, 140, 0, 0, 0, 0)) rfl (show am_X (am_call am_cod d) (am_nL 179) lim (am_rt 179) (am_find am_r179) (fun _ _ _ _ => False) (fun v h' => Q v h' ∧ wd_W h') 140 lv (.int (Int8.ofInt 14).toInt32 :: .ref 159 :: .ref 159 :: st) v14 from ?_)
  obtain ⟨K0, Q0, hs, hk, -⟩ := am_X.inv1 (r := (.ldc2_w 62, 143, 0, 0, 19, 0)) (fun z => z) rfl k
  have hs : K0 143 lv (.long (am_kl 19) :: .int (Int8.ofInt 14).toInt32 :: .ref 159 :: .ref 159 :: st) v14 := hs
  replace k := hk _ _ _ _ hs
  refine am_xstep (r := (.ldc2_w 62, 143, 0, 0, 19, 0)) rfl (show am_X (am_call am_cod d) (am_nL 179) lim (am_rt 179) (am_find am_r179) (fun _ _ _ _ => False) (fun v h' => Q v h' ∧ wd_W h') 143 lv (.long (am_kl 19) :: .int (Int8.ofInt 14).toInt32 :: .ref 159 :: .ref 159 :: st) v14 from ?_)
  obtain ⟨K0, Q0, hs, hk, -⟩ := am_X.inv1 (r := (.lastore, 144, 0, 0, 0, 0)) (fun z => z) rfl k
  have hs : ∃ j n : Nat, am_so v14 159 = some (14, n) ∧ j < n ∧ (Int8.ofInt 14).toInt32 = nI j ∧ K0 144 lv (.ref 159 :: st) (am_wL v14 159 j (am_kl 19)) := hs
  obtain ⟨j, n14, z1, z2, z3, z4⟩ := hs
  replace k := hk _ _ _ _ z4
  refine am_xstep (r := (.lastore, 144, 0, 0, 0, 0)) rfl (show ∃ j n : Nat, am_so v14 159 = some (14, n) ∧ j < n ∧ (Int8.ofInt 14).toInt32 = nI j ∧ am_X (am_call am_cod d) (am_nL 179) lim (am_rt 179) (am_find am_r179) (fun _ _ _ _ => False) (fun v h' => Q v h' ∧ wd_W h') 144 lv (.ref 159 :: st) (am_wL v14 159 j (am_kl 19)) from ⟨j, n14, z1, z2, z3, ?_⟩)
  have g15 := wd_s (i := 14) g14 (by decide) z1 z2 (show nI 14 = nI j from z3) (show am_kl 19 = rw_w 14 by decide +kernel)
  clear z4 hk z1 z2 z3 g14
  generalize am_wL v14 159 j (am_kl 19) = v15 at k g15 ⊢
  obtain ⟨K0, Q0, hs, hk, -⟩ := am_X.inv1 (r := (.dup, 145, 0, 0, 0, 0)) (fun z => z) rfl k
  have hs : (Value.ref 159).category = 1 ∧ K0 145 lv (.ref 159 :: .ref 159 :: st) v15 := hs
  replace k := hk _ _ _ _ hs.2
  refine am_xstep (r := (.dup, 145, 0, 0, 0, 0)) rfl (show (Value.ref 159).category = 1 ∧ am_X (am_call am_cod d) (am_nL 179) lim (am_rt 179) (am_find am_r179) (fun _ _ _ _ => False) (fun v h' => Q v h' ∧ wd_W h') 145 lv (.ref 159 :: .ref 159 :: st) v15 from ⟨rfl, ?_⟩)
  obtain ⟨K0, Q0, hs, hk, -⟩ := am_X.inv1 (r := (.bipush 15, 147, 0, 0, 0, 0)) (fun z => z) rfl k
  have hs : K0 147 lv (.int (Int8.ofInt 15).toInt32 :: .ref 159 :: .ref 159 :: st) v15 := hs
  replace k := hk _ _ _ _ hs
  refine am_xstep (r := (.bipush 15, 147, 0, 0, 0, 0)) rfl (show am_X (am_call am_cod d) (am_nL 179) lim (am_rt 179) (am_find am_r179) (fun _ _ _ _ => False) (fun v h' => Q v h' ∧ wd_W h') 147 lv (.int (Int8.ofInt 15).toInt32 :: .ref 159 :: .ref 159 :: st) v15 from ?_)
  obtain ⟨K0, Q0, hs, hk, -⟩ := am_X.inv1 (r := (.ldc2_w 64, 150, 0, 0, 20, 0)) (fun z => z) rfl k
  have hs : K0 150 lv (.long (am_kl 20) :: .int (Int8.ofInt 15).toInt32 :: .ref 159 :: .ref 159 :: st) v15 := hs
  replace k := hk _ _ _ _ hs
  refine am_xstep (r := (.ldc2_w 64, 150, 0, 0, 20, 0)) rfl (show am_X (am_call am_cod d) (am_nL 179) lim (am_rt 179) (am_find am_r179) (fun _ _ _ _ => False) (fun v h' => Q v h' ∧ wd_W h') 150 lv (.long (am_kl 20) :: .int (Int8.ofInt 15).toInt32 :: .ref 159 :: .ref 159 :: st) v15 from ?_)
  obtain ⟨K0, Q0, hs, hk, -⟩ := am_X.inv1 (r := (.lastore, 151, 0, 0, 0, 0)) (fun z => z) rfl k
  have hs : ∃ j n : Nat, am_so v15 159 = some (14, n) ∧ j < n ∧ (Int8.ofInt 15).toInt32 = nI j ∧ K0 151 lv (.ref 159 :: st) (am_wL v15 159 j (am_kl 20)) := hs
  obtain ⟨j, n15, z1, z2, z3, z4⟩ := hs
  replace k := hk _ _ _ _ z4
  refine am_xstep (r := (.lastore, 151, 0, 0, 0, 0)) rfl (show ∃ j n : Nat, am_so v15 159 = some (14, n) ∧ j < n ∧ (Int8.ofInt 15).toInt32 = nI j ∧ am_X (am_call am_cod d) (am_nL 179) lim (am_rt 179) (am_find am_r179) (fun _ _ _ _ => False) (fun v h' => Q v h' ∧ wd_W h') 151 lv (.ref 159 :: st) (am_wL v15 159 j (am_kl 20)) from ⟨j, n15, z1, z2, z3, ?_⟩)
  have g16 := wd_s (i := 15) g15 (by decide) z1 z2 (show nI 15 = nI j from z3) (show am_kl 20 = rw_w 15 by decide +kernel)
  clear z4 hk z1 z2 z3 g15
  generalize am_wL v15 159 j (am_kl 20) = v16 at k g16 ⊢
  obtain ⟨K0, Q0, hs, hk, -⟩ := am_X.inv1 (r := (.dup, 152, 0, 0, 0, 0)) (fun z => z) rfl k
  have hs : (Value.ref 159).category = 1 ∧ K0 152 lv (.ref 159 :: .ref 159 :: st) v16 := hs
  replace k := hk _ _ _ _ hs.2
  refine am_xstep (r := (.dup, 152, 0, 0, 0, 0)) rfl (show (Value.ref 159).category = 1 ∧ am_X (am_call am_cod d) (am_nL 179) lim (am_rt 179) (am_find am_r179) (fun _ _ _ _ => False) (fun v h' => Q v h' ∧ wd_W h') 152 lv (.ref 159 :: .ref 159 :: st) v16 from ⟨rfl, ?_⟩)
  obtain ⟨K0, Q0, hs, hk, -⟩ := am_X.inv1 (r := (.bipush 16, 154, 0, 0, 0, 0)) (fun z => z) rfl k
  have hs : K0 154 lv (.int (Int8.ofInt 16).toInt32 :: .ref 159 :: .ref 159 :: st) v16 := hs
  replace k := hk _ _ _ _ hs
  refine am_xstep (r := (.bipush 16, 154, 0, 0, 0, 0)) rfl (show am_X (am_call am_cod d) (am_nL 179) lim (am_rt 179) (am_find am_r179) (fun _ _ _ _ => False) (fun v h' => Q v h' ∧ wd_W h') 154 lv (.int (Int8.ofInt 16).toInt32 :: .ref 159 :: .ref 159 :: st) v16 from ?_)
  obtain ⟨K0, Q0, hs, hk, -⟩ := am_X.inv1 (r := (.ldc2_w 66, 157, 0, 0, 21, 0)) (fun z => z) rfl k
  have hs : K0 157 lv (.long (am_kl 21) :: .int (Int8.ofInt 16).toInt32 :: .ref 159 :: .ref 159 :: st) v16 := hs
  replace k := hk _ _ _ _ hs
  refine am_xstep (r := (.ldc2_w 66, 157, 0, 0, 21, 0)) rfl (show am_X (am_call am_cod d) (am_nL 179) lim (am_rt 179) (am_find am_r179) (fun _ _ _ _ => False) (fun v h' => Q v h' ∧ wd_W h') 157 lv (.long (am_kl 21) :: .int (Int8.ofInt 16).toInt32 :: .ref 159 :: .ref 159 :: st) v16 from ?_)
  obtain ⟨K0, Q0, hs, hk, -⟩ := am_X.inv1 (r := (.lastore, 158, 0, 0, 0, 0)) (fun z => z) rfl k
  have hs : ∃ j n : Nat, am_so v16 159 = some (14, n) ∧ j < n ∧ (Int8.ofInt 16).toInt32 = nI j ∧ K0 158 lv (.ref 159 :: st) (am_wL v16 159 j (am_kl 21)) := hs
  obtain ⟨j, n16, z1, z2, z3, z4⟩ := hs
  replace k := hk _ _ _ _ z4
  refine am_xstep (r := (.lastore, 158, 0, 0, 0, 0)) rfl (show ∃ j n : Nat, am_so v16 159 = some (14, n) ∧ j < n ∧ (Int8.ofInt 16).toInt32 = nI j ∧ am_X (am_call am_cod d) (am_nL 179) lim (am_rt 179) (am_find am_r179) (fun _ _ _ _ => False) (fun v h' => Q v h' ∧ wd_W h') 158 lv (.ref 159 :: st) (am_wL v16 159 j (am_kl 21)) from ⟨j, n16, z1, z2, z3, ?_⟩)
  have g17 := wd_s (i := 16) g16 (by decide) z1 z2 (show nI 16 = nI j from z3) (show am_kl 21 = rw_w 16 by decide +kernel)
  clear z4 hk z1 z2 z3 g16
  generalize am_wL v16 159 j (am_kl 21) = v17 at k g17 ⊢
  obtain ⟨K0, Q0, hs, hk, -⟩ := am_X.inv1 (r := (.dup, 159, 0, 0, 0, 0)) (fun z => z) rfl k
  have hs : (Value.ref 159).category = 1 ∧ K0 159 lv (.ref 159 :: .ref 159 :: st) v17 := hs
  replace k := hk _ _ _ _ hs.2
  refine am_xstep (r := (.dup, 159, 0, 0, 0, 0)) rfl (show (Value.ref 159).category = 1 ∧ am_X (am_call am_cod d) (am_nL 179) lim (am_rt 179) (am_find am_r179) (fun _ _ _ _ => False) (fun v h' => Q v h' ∧ wd_W h') 159 lv (.ref 159 :: .ref 159 :: st) v17 from ⟨rfl, ?_⟩)
  obtain ⟨K0, Q0, hs, hk, -⟩ := am_X.inv1 (r := (.bipush 17, 161, 0, 0, 0, 0)) (fun z => z) rfl k
  have hs : K0 161 lv (.int (Int8.ofInt 17).toInt32 :: .ref 159 :: .ref 159 :: st) v17 := hs
  replace k := hk _ _ _ _ hs
  refine am_xstep (r := (.bipush 17, 161, 0, 0, 0, 0)) rfl (show am_X (am_call am_cod d) (am_nL 179) lim (am_rt 179) (am_find am_r179) (fun _ _ _ _ => False) (fun v h' => Q v h' ∧ wd_W h') 161 lv (.int (Int8.ofInt 17).toInt32 :: .ref 159 :: .ref 159 :: st) v17 from ?_)
  obtain ⟨K0, Q0, hs, hk, -⟩ := am_X.inv1 (r := (.ldc2_w 68, 164, 0, 0, 22, 0)) (fun z => z) rfl k
  have hs : K0 164 lv (.long (am_kl 22) :: .int (Int8.ofInt 17).toInt32 :: .ref 159 :: .ref 159 :: st) v17 := hs
  replace k := hk _ _ _ _ hs
  refine am_xstep (r := (.ldc2_w 68, 164, 0, 0, 22, 0)) rfl (show am_X (am_call am_cod d) (am_nL 179) lim (am_rt 179) (am_find am_r179) (fun _ _ _ _ => False) (fun v h' => Q v h' ∧ wd_W h') 164 lv (.long (am_kl 22) :: .int (Int8.ofInt 17).toInt32 :: .ref 159 :: .ref 159 :: st) v17 from ?_)
  obtain ⟨K0, Q0, hs, hk, -⟩ := am_X.inv1 (r := (.lastore, 165, 0, 0, 0, 0)) (fun z => z) rfl k
  have hs : ∃ j n : Nat, am_so v17 159 = some (14, n) ∧ j < n ∧ (Int8.ofInt 17).toInt32 = nI j ∧ K0 165 lv (.ref 159 :: st) (am_wL v17 159 j (am_kl 22)) := hs
  obtain ⟨j, n17, z1, z2, z3, z4⟩ := hs
  replace k := hk _ _ _ _ z4
  refine am_xstep (r := (.lastore, 165, 0, 0, 0, 0)) rfl (show ∃ j n : Nat, am_so v17 159 = some (14, n) ∧ j < n ∧ (Int8.ofInt 17).toInt32 = nI j ∧ am_X (am_call am_cod d) (am_nL 179) lim (am_rt 179) (am_find am_r179) (fun _ _ _ _ => False) (fun v h' => Q v h' ∧ wd_W h') 165 lv (.ref 159 :: st) (am_wL v17 159 j (am_kl 22)) from ⟨j, n17, z1, z2, z3, ?_⟩)
  have g18 := wd_s (i := 17) g17 (by decide) z1 z2 (show nI 17 = nI j from z3) (show am_kl 22 = rw_w 17 by decide +kernel)
  clear z4 hk z1 z2 z3 g17
  generalize am_wL v17 159 j (am_kl 22) = v18 at k g18 ⊢
  obtain ⟨K0, Q0, hs, hk, -⟩ := am_X.inv1 (r := (.dup, 166, 0, 0, 0, 0)) (fun z => z) rfl k
  have hs : (Value.ref 159).category = 1 ∧ K0 166 lv (.ref 159 :: .ref 159 :: st) v18 := hs
  replace k := hk _ _ _ _ hs.2
  refine am_xstep (r := (.dup, 166, 0, 0, 0, 0)) rfl (show (Value.ref 159).category = 1 ∧ am_X (am_call am_cod d) (am_nL 179) lim (am_rt 179) (am_find am_r179) (fun _ _ _ _ => False) (fun v h' => Q v h' ∧ wd_W h') 166 lv (.ref 159 :: .ref 159 :: st) v18 from ⟨rfl, ?_⟩)
  obtain ⟨K0, Q0, hs, hk, -⟩ := am_X.inv1 (r := (.bipush 18, 168, 0, 0, 0, 0)) (fun z => z) rfl k
  have hs : K0 168 lv (.int (Int8.ofInt 18).toInt32 :: .ref 159 :: .ref 159 :: st) v18 := hs
  replace k := hk _ _ _ _ hs
  refine am_xstep (r := (.bipush 18, 168, 0, 0, 0, 0)) rfl (show am_X (am_call am_cod d) (am_nL 179) lim (am_rt 179) (am_find am_r179) (fun _ _ _ _ => False) (fun v h' => Q v h' ∧ wd_W h') 168 lv (.int (Int8.ofInt 18).toInt32 :: .ref 159 :: .ref 159 :: st) v18 from ?_)
  obtain ⟨K0, Q0, hs, hk, -⟩ := am_X.inv1 (r := (.ldc2_w 70, 171, 0, 0, 23, 0)) (fun z => z) rfl k
  have hs : K0 171 lv (.long (am_kl 23) :: .int (Int8.ofInt 18).toInt32 :: .ref 159 :: .ref 159 :: st) v18 := hs
  replace k := hk _ _ _ _ hs
  refine am_xstep (r := (.ldc2_w 70, 171, 0, 0, 23, 0)) rfl (show am_X (am_call am_cod d) (am_nL 179) lim (am_rt 179) (am_find am_r179) (fun _ _ _ _ => False) (fun v h' => Q v h' ∧ wd_W h') 171 lv (.long (am_kl 23) :: .int (Int8.ofInt 18).toInt32 :: .ref 159 :: .ref 159 :: st) v18 from ?_)
  obtain ⟨K0, Q0, hs, hk, -⟩ := am_X.inv1 (r := (.lastore, 172, 0, 0, 0, 0)) (fun z => z) rfl k
  have hs : ∃ j n : Nat, am_so v18 159 = some (14, n) ∧ j < n ∧ (Int8.ofInt 18).toInt32 = nI j ∧ K0 172 lv (.ref 159 :: st) (am_wL v18 159 j (am_kl 23)) := hs
  obtain ⟨j, n18, z1, z2, z3, z4⟩ := hs
  replace k := hk _ _ _ _ z4
  refine am_xstep (r := (.lastore, 172, 0, 0, 0, 0)) rfl (show ∃ j n : Nat, am_so v18 159 = some (14, n) ∧ j < n ∧ (Int8.ofInt 18).toInt32 = nI j ∧ am_X (am_call am_cod d) (am_nL 179) lim (am_rt 179) (am_find am_r179) (fun _ _ _ _ => False) (fun v h' => Q v h' ∧ wd_W h') 172 lv (.ref 159 :: st) (am_wL v18 159 j (am_kl 23)) from ⟨j, n18, z1, z2, z3, ?_⟩)
  have g19 := wd_s (i := 18) g18 (by decide) z1 z2 (show nI 18 = nI j from z3) (show am_kl 23 = rw_w 18 by decide +kernel)
  clear z4 hk z1 z2 z3 g18
  generalize am_wL v18 159 j (am_kl 23) = v19 at k g19 ⊢
  obtain ⟨K0, Q0, hs, hk, -⟩ := am_X.inv1 (r := (.dup, 173, 0, 0, 0, 0)) (fun z => z) rfl k
  have hs : (Value.ref 159).category = 1 ∧ K0 173 lv (.ref 159 :: .ref 159 :: st) v19 := hs
  replace k := hk _ _ _ _ hs.2
  refine am_xstep (r := (.dup, 173, 0, 0, 0, 0)) rfl (show (Value.ref 159).category = 1 ∧ am_X (am_call am_cod d) (am_nL 179) lim (am_rt 179) (am_find am_r179) (fun _ _ _ _ => False) (fun v h' => Q v h' ∧ wd_W h') 173 lv (.ref 159 :: .ref 159 :: st) v19 from ⟨rfl, ?_⟩)
  obtain ⟨K0, Q0, hs, hk, -⟩ := am_X.inv1 (r := (.bipush 19, 175, 0, 0, 0, 0)) (fun z => z) rfl k
  have hs : K0 175 lv (.int (Int8.ofInt 19).toInt32 :: .ref 159 :: .ref 159 :: st) v19 := hs
  replace k := hk _ _ _ _ hs
  refine am_xstep (r := (.bipush 19, 175, 0, 0, 0, 0)) rfl (show am_X (am_call am_cod d) (am_nL 179) lim (am_rt 179) (am_find am_r179) (fun _ _ _ _ => False) (fun v h' => Q v h' ∧ wd_W h') 175 lv (.int (Int8.ofInt 19).toInt32 :: .ref 159 :: .ref 159 :: st) v19 from ?_)
  obtain ⟨K0, Q0, hs, hk, -⟩ := am_X.inv1 (r := (.ldc2_w 72, 178, 0, 0, 24, 0)) (fun z => z) rfl k
  have hs : K0 178 lv (.long (am_kl 24) :: .int (Int8.ofInt 19).toInt32 :: .ref 159 :: .ref 159 :: st) v19 := hs
  replace k := hk _ _ _ _ hs
  refine am_xstep (r := (.ldc2_w 72, 178, 0, 0, 24, 0)) rfl (show am_X (am_call am_cod d) (am_nL 179) lim (am_rt 179) (am_find am_r179) (fun _ _ _ _ => False) (fun v h' => Q v h' ∧ wd_W h') 178 lv (.long (am_kl 24) :: .int (Int8.ofInt 19).toInt32 :: .ref 159 :: .ref 159 :: st) v19 from ?_)
  obtain ⟨K0, Q0, hs, hk, -⟩ := am_X.inv1 (r := (.lastore, 179, 0, 0, 0, 0)) (fun z => z) rfl k
  have hs : ∃ j n : Nat, am_so v19 159 = some (14, n) ∧ j < n ∧ (Int8.ofInt 19).toInt32 = nI j ∧ K0 179 lv (.ref 159 :: st) (am_wL v19 159 j (am_kl 24)) := hs
  obtain ⟨j, n19, z1, z2, z3, z4⟩ := hs
  replace k := hk _ _ _ _ z4
  refine am_xstep (r := (.lastore, 179, 0, 0, 0, 0)) rfl (show ∃ j n : Nat, am_so v19 159 = some (14, n) ∧ j < n ∧ (Int8.ofInt 19).toInt32 = nI j ∧ am_X (am_call am_cod d) (am_nL 179) lim (am_rt 179) (am_find am_r179) (fun _ _ _ _ => False) (fun v h' => Q v h' ∧ wd_W h') 179 lv (.ref 159 :: st) (am_wL v19 159 j (am_kl 24)) from ⟨j, n19, z1, z2, z3, ?_⟩)
  have g20 := wd_s (i := 19) g19 (by decide) z1 z2 (show nI 19 = nI j from z3) (show am_kl 24 = rw_w 19 by decide +kernel)
  clear z4 hk z1 z2 z3 g19
  generalize am_wL v19 159 j (am_kl 24) = v20 at k g20 ⊢
  obtain ⟨K0, Q0, hs, hk, -⟩ := am_X.inv1 (r := (.dup, 180, 0, 0, 0, 0)) (fun z => z) rfl k
  have hs : (Value.ref 159).category = 1 ∧ K0 180 lv (.ref 159 :: .ref 159 :: st) v20 := hs
  replace k := hk _ _ _ _ hs.2
  refine am_xstep (r := (.dup, 180, 0, 0, 0, 0)) rfl (show (Value.ref 159).category = 1 ∧ am_X (am_call am_cod d) (am_nL 179) lim (am_rt 179) (am_find am_r179) (fun _ _ _ _ => False) (fun v h' => Q v h' ∧ wd_W h') 180 lv (.ref 159 :: .ref 159 :: st) v20 from ⟨rfl, ?_⟩)
  obtain ⟨K0, Q0, hs, hk, -⟩ := am_X.inv1 (r := (.bipush 20, 182, 0, 0, 0, 0)) (fun z => z) rfl k
  have hs : K0 182 lv (.int (Int8.ofInt 20).toInt32 :: .ref 159 :: .ref 159 :: st) v20 := hs
  replace k := hk _ _ _ _ hs
  refine am_xstep (r := (.bipush 20, 182, 0, 0, 0, 0)) rfl (show am_X (am_call am_cod d) (am_nL 179) lim (am_rt 179) (am_find am_r179) (fun _ _ _ _ => False) (fun v h' => Q v h' ∧ wd_W h') 182 lv (.int (Int8.ofInt 20).toInt32 :: .ref 159 :: .ref 159 :: st) v20 from ?_)
  obtain ⟨K0, Q0, hs, hk, -⟩ := am_X.inv1 (r := (.ldc2_w 74, 185, 0, 0, 25, 0)) (fun z => z) rfl k
  have hs : K0 185 lv (.long (am_kl 25) :: .int (Int8.ofInt 20).toInt32 :: .ref 159 :: .ref 159 :: st) v20 := hs
  replace k := hk _ _ _ _ hs
  refine am_xstep (r := (.ldc2_w 74, 185, 0, 0, 25, 0)) rfl (show am_X (am_call am_cod d) (am_nL 179) lim (am_rt 179) (am_find am_r179) (fun _ _ _ _ => False) (fun v h' => Q v h' ∧ wd_W h') 185 lv (.long (am_kl 25) :: .int (Int8.ofInt 20).toInt32 :: .ref 159 :: .ref 159 :: st) v20 from ?_)
  obtain ⟨K0, Q0, hs, hk, -⟩ := am_X.inv1 (r := (.lastore, 186, 0, 0, 0, 0)) (fun z => z) rfl k
  have hs : ∃ j n : Nat, am_so v20 159 = some (14, n) ∧ j < n ∧ (Int8.ofInt 20).toInt32 = nI j ∧ K0 186 lv (.ref 159 :: st) (am_wL v20 159 j (am_kl 25)) := hs
  obtain ⟨j, n20, z1, z2, z3, z4⟩ := hs
  replace k := hk _ _ _ _ z4
  refine am_xstep (r := (.lastore, 186, 0, 0, 0, 0)) rfl (show ∃ j n : Nat, am_so v20 159 = some (14, n) ∧ j < n ∧ (Int8.ofInt 20).toInt32 = nI j ∧ am_X (am_call am_cod d) (am_nL 179) lim (am_rt 179) (am_find am_r179) (fun _ _ _ _ => False) (fun v h' => Q v h' ∧ wd_W h') 186 lv (.ref 159 :: st) (am_wL v20 159 j (am_kl 25)) from ⟨j, n20, z1, z2, z3, ?_⟩)
  have g21 := wd_s (i := 20) g20 (by decide) z1 z2 (show nI 20 = nI j from z3) (show am_kl 25 = rw_w 20 by decide +kernel)
  clear z4 hk z1 z2 z3 g20
  generalize am_wL v20 159 j (am_kl 25) = v21 at k g21 ⊢
  exact w179_c (Nat.le_refl _) g21 k
theorem w179_R : am_r179.all (fun q => !(Nat.blt q.1 41) || (match q.2.1 with | .aload_n _ => true | .sipush _ => true | .newarray _ => true | .putfield _ => true | .invokespecial _ => Nat.beq q.2.2.2.1 1 | _ => false)) = true := by decide +kernel
theorem w179_q {cp : am_P} {nL lim pc : Nat} {rt : Option FieldType} {r : am_R} {lv : am_V} {st : List Value} {h : am_H} {K : Nat → am_V → List Value → am_H → Prop} {Q Q' : am_Q} (hR : (match r.1 with | .aload_n _ => true | .sipush _ => true | .newarray _ => true | .putfield _ => true | .invokespecial _ => Nat.beq r.2.2.1 1 | _ => false) = true) (hs : am_stp cp nL lim rt pc r lv st h K Q) : am_stp cp nL lim rt pc r lv st h K Q' := by
  obtain ⟨i, nx, a, b, c, d⟩ := r
  cases i
  case aload_n k => exact hs
  case sipush k => exact hs
  case newarray k => exact hs
  case putfield k => exact hs
  case invokespecial k =>
    have ha : Nat.beq a 1 = true := hR
    simp only [am_stp, ha] at hs ⊢
    exact hs
  all_goals exact absurd hR (by simp)
theorem w179_a {d lim : Nat} {Q : am_Q} {lv : am_V} {st : List Value} {h : am_H} (k : am_X (am_call am_cod d) (am_nL 179) lim (am_rt 179) (am_find am_r179) (fun _ _ _ _ => False) Q 0 lv st h) : am_X (am_call am_cod d) (am_nL 179) lim (am_rt 179) (am_find am_r179) (fun _ _ _ _ => False) (fun v h' => Q v h' ∧ wd_W h') 0 lv st h :=
  (k (fun pc lv st h => am_X (am_call am_cod d) (am_nL 179) lim (am_rt 179) (am_find am_r179) (fun _ _ _ _ => False) Q pc lv st h ∧ (pc ≤ 41 → am_X (am_call am_cod d) (am_nL 179) lim (am_rt 179) (am_find am_r179) (fun _ _ _ _ => False) (fun v h' => Q v h' ∧ wd_W h') pc lv st h)) (fun _ _ _ _ z => z.elim) (fun pc lv st h1 r K0 Q0 hc hs hk hq => by
    have k1 : am_X (am_call am_cod d) (am_nL 179) lim (am_rt 179) (am_find am_r179) (fun _ _ _ _ => False) Q pc lv st h1 := fun P hE hP => hP pc lv st h1 r K0 Q0 hc hs (fun pc lv st h q => (hk pc lv st h q).1 P hE hP) hq
    refine ⟨k1, fun hpc => ?_⟩
    by_cases e41 : pc = 41
    · subst e41
      exact w179_b k1
    · have w := List.all_eq_true.mp w179_A _ (am_find_mem hc)
      rw [show Nat.blt pc 41 = true from Nat.ble_eq_true_of_le (show pc + 1 ≤ 41 by omega)] at w
      have w : (nl_ok r && (!(nl_br r) && Nat.ble r.2.1 41)) = true := w
      rw [Bool.and_eq_true, Bool.and_eq_true] at w
      obtain ⟨w1, w2, w3⟩ := w
      have hs2 := nl_stp (cp := am_call am_cod d) (W := fun _ => True) (fun _ _ _ _ _ => trivial) (fun _ _ _ _ _ => trivial) (fun _ _ => trivial) (fun _ _ _ _ _ f k => am_call.mono f k) (fun n As h Q hn hW k => am_call.mono (fun v h q => ⟨q, trivial⟩) k) w1 trivial hs
      have w5 := List.all_eq_true.mp w179_R _ (am_find_mem hc)
      rw [show Nat.blt pc 41 = true from Nat.ble_eq_true_of_le (show pc + 1 ≤ 41 by omega)] at w5
      exact fun P hE hP => hP pc lv st h1 r _ _ hc (w179_q (Q' := fun _ _ => False) w5 hs2) (fun pc' lv st h2 q => (hk pc' lv st h2 q.1).2 (by
        rcases q.2.2 with z | z
        · rw [z]; exact Nat.le_of_ble_eq_true w3
        · rw [z.1] at w2; cases w2) P hE hP) (fun v h2 q => q.elim))).2 (by decide)
theorem w179 : ∀ (d : Nat) (As : List Value) (h : am_H) (Q : am_Q), am_call am_cod d 179 As h Q → am_call am_cod d 179 As h (fun v h' => Q v h' ∧ wd_W h')
  | 0, _, _, _, k => k.elim
  | d + 1, As, h, Q, k => by
    rcases k with k | ⟨k1, k⟩
    · exact Or.inl (w179 d As h Q k)
    · refine Or.inr ⟨k1, ?_⟩
      unfold am_W at k ⊢
      rw [w179_cod] at k ⊢
      exact am_X.mono (fun _ _ _ _ z => z.elim) (fun v h' q => ⟨q.1.1, q.1.2, q.2⟩) (w179_a k)
def am_rLs : List (Nat × am_R) := [(0, (.new 8, 3, 0, 10, 0, 0)), (3, (.dup, 4, 0, 0, 0, 0)), (4, (.invokespecial 15, 7, 0, 0, 0, 0)), (7, (.astore_n 1, 8, 0, 0, 0, 0)), (8, (.new 16, 11, 0, 11, 15, 0)), (11, (.dup, 12, 0, 0, 0, 0)), (12, (.invokespecial 18, 15, 179, 0, 227, 0)), (15, (.astore_n 2, 16, 0, 0, 0, 0)), (16, (.iconst 1, 17, 0, 0, 0, 0)), (17, (.newarray .long, 19, 0, 14, 0, 0)), (19, (.astore_n 3, 20, 0, 0, 0, 0)), (20, (.iconst 0, 21, 0, 0, 0, 0)), (21, (.istore 4, 23, 0, 0, 0, 0))]
theorem ae_run1 : ae_go 0 (fun _ _ _ => none) (fun pc => Nat.beq pc 23) ae_fin0 (fun _ _ _ => false) 9000 ae_env0 20 ([], [], 0, 0) (am_rLs, 7, some .boolean, 175, 0, [(0, .inr (.inr (.inl 3000000)))], []) [] = true := by decide +kernel
theorem am_rLs_sub : ∀ {pc : Nat} {r : am_R}, am_find am_rLs pc = some r → am_find am_rL pc = some r := by
  intro pc r h
  have m := am_find_mem h
  have w : am_rLs.all (fun q => decide (am_find am_rL q.1 = some q.2)) = true := by decide +kernel
  exact of_decide_eq_true (List.all_eq_true.mp w _ m)
theorem am_X_sub {cp : am_P} {nL lim : Nat} {rt : Option FieldType} {E : Nat → am_V → List Value → am_H → Prop} {Q : am_Q} {pc : Nat} {lv : am_V} {st : List Value} {h : am_H} (k : am_X cp nL lim rt (am_find am_rLs) E Q pc lv st h) : am_X cp nL lim rt (am_find am_rL) E Q pc lv st h :=
  fun P hE hP => k P hE (fun pc lv st h r K0 Q0 hc hs hk hq => hP pc lv st h r K0 Q0 (am_rLs_sub hc) hs hk hq)
def lw_no0 : am_Q := fun _ _ => False
theorem wd_law {E : Nat → am_V → List Value → am_H → Prop} (hE : ∀ pc lv st h, E pc lv st h → pc = 23) {lv : am_V} {h : am_H} (k : am_X (am_call am_cod 20) 7 175 (some .boolean) (am_find am_rLs) E lw_no0 0 lv [] h) : am_X (am_call am_cod 20) 7 175 (some .boolean) (am_find am_rLs) (fun pc lv st h => E pc lv st h ∧ wd_W h) lw_no0 0 lv [] h := by
  have no : ∀ {pc lv st h}, ¬ pc = 23 → ¬ E pc lv st h := fun n e => n (hE _ _ _ _ e)
  obtain ⟨K0, Q0, hs, hk, -⟩ := am_X.inv1 (r := (.new 8, 3, 0, 10, 0, 0)) (no (by decide)) rfl k
  have hs : am_shl[h.2.2.2.2]? = some (10, 0) ∧ h.2.2.2.2 + 1 ≤ 175 ∧ K0 3 lv [.ref h.2.2.2.2] (am_nx h) := hs
  replace k := hk _ _ _ _ hs.2.2
  refine am_xstep (r := (.new 8, 3, 0, 10, 0, 0)) rfl (show am_shl[h.2.2.2.2]? = some (10, 0) ∧ h.2.2.2.2 + 1 ≤ 175 ∧ am_X (am_call am_cod 20) 7 175 (some .boolean) (am_find am_rLs) (fun pc lv st h => E pc lv st h ∧ wd_W h) lw_no0 3 lv ([.ref h.2.2.2.2]) (am_nx h) from ⟨hs.1, hs.2.1, ?_⟩)
  clear hs hk
  generalize h.2.2.2.2 = r0 at k ⊢
  generalize am_nx h = g at k ⊢
  obtain ⟨K0, Q0, hs, hk, -⟩ := am_X.inv1 (r := (.dup, 4, 0, 0, 0, 0)) (no (by decide)) rfl k
  have hs : (Value.ref r0).category = 1 ∧ K0 4 lv [.ref r0, .ref r0] g := hs
  replace k := hk _ _ _ _ hs.2
  refine am_xstep (r := (.dup, 4, 0, 0, 0, 0)) rfl (show (Value.ref r0).category = 1 ∧ am_X (am_call am_cod 20) 7 175 (some .boolean) (am_find am_rLs) (fun pc lv st h => E pc lv st h ∧ wd_W h) lw_no0 4 lv ([.ref r0, .ref r0]) g from ⟨rfl, ?_⟩)
  obtain ⟨K0, Q0, hs, hk, -⟩ := am_X.inv1 (r := (.invokespecial 15, 7, 0, 0, 0, 0)) (no (by decide)) rfl k
  have hs : ([Value.ref r0].map fun v => v.category).sum ≤ 8 ∧ (g.2.2.2.2 + am_al 0 ≤ 175 ∧ am_call am_cod 20 0 [.ref r0] g (fun v h' => K0 7 lv (v.toList ++ [.ref r0]) h')) := hs
  refine am_xstep (r := (.invokespecial 15, 7, 0, 0, 0, 0)) rfl (show ([Value.ref r0].map fun v => v.category).sum ≤ 8 ∧ (g.2.2.2.2 + am_al 0 ≤ 175 ∧ am_call am_cod 20 0 [.ref r0] g (fun v h' => am_X (am_call am_cod 20) 7 175 (some .boolean) (am_find am_rLs) (fun pc lv st h => E pc lv st h ∧ wd_W h) lw_no0 7 lv (v.toList ++ [.ref r0]) h')) from ⟨hs.1, hs.2.1, am_call.mono (fun v g1 q => ?_) hs.2.2⟩)
  replace k := hk _ _ _ _ q
  clear hs hk q
  generalize v.toList ++ [.ref r0] = st at k ⊢
  obtain ⟨K0, Q0, hs, hk, -⟩ := am_X.inv1 (r := (.astore_n 1, 8, 0, 0, 0, 0)) (no (by decide)) rfl k
  have hs : am_pR st fun x r => 1 < 7 ∧ K0 8 (am_s1 lv 1 (.ref x)) r g1 := hs
  refine am_xstep (r := (.astore_n 1, 8, 0, 0, 0, 0)) rfl (show am_pR st fun x r => 1 < 7 ∧ am_X (am_call am_cod 20) 7 175 (some .boolean) (am_find am_rLs) (fun pc lv st h => E pc lv st h ∧ wd_W h) lw_no0 8 (am_s1 lv 1 (.ref x)) r g1 from am_pR.imp (fun x r q => ⟨q.1, ?_⟩) hs)
  replace k := hk _ _ _ _ q.2
  clear hs hk q
  generalize am_s1 lv 1 (.ref x) = lv1 at k ⊢
  obtain ⟨K0, Q0, hs, hk, -⟩ := am_X.inv1 (r := (.new 16, 11, 0, 11, 15, 0)) (no (by decide)) rfl k
  have hs : am_shl[g1.2.2.2.2]? = some (11, 0) ∧ g1.2.2.2.2 + 1 ≤ 175 ∧ K0 11 lv1 (.ref g1.2.2.2.2 :: r) (am_nx g1) := hs
  replace k := hk _ _ _ _ hs.2.2
  refine am_xstep (r := (.new 16, 11, 0, 11, 15, 0)) rfl (show am_shl[g1.2.2.2.2]? = some (11, 0) ∧ g1.2.2.2.2 + 1 ≤ 175 ∧ am_X (am_call am_cod 20) 7 175 (some .boolean) (am_find am_rLs) (fun pc lv st h => E pc lv st h ∧ wd_W h) lw_no0 11 lv1 (.ref g1.2.2.2.2 :: r) (am_nx g1) from ⟨hs.1, hs.2.1, ?_⟩)
  clear hs hk
  generalize g1.2.2.2.2 = r1 at k ⊢
  generalize am_nx g1 = g2 at k ⊢
  obtain ⟨K0, Q0, hs, hk, -⟩ := am_X.inv1 (r := (.dup, 12, 0, 0, 0, 0)) (no (by decide)) rfl k
  have hs : (Value.ref r1).category = 1 ∧ K0 12 lv1 (.ref r1 :: .ref r1 :: r) g2 := hs
  replace k := hk _ _ _ _ hs.2
  refine am_xstep (r := (.dup, 12, 0, 0, 0, 0)) rfl (show (Value.ref r1).category = 1 ∧ am_X (am_call am_cod 20) 7 175 (some .boolean) (am_find am_rLs) (fun pc lv st h => E pc lv st h ∧ wd_W h) lw_no0 12 lv1 (.ref r1 :: .ref r1 :: r) g2 from ⟨rfl, ?_⟩)
  obtain ⟨K0, Q0, hs, hk, -⟩ := am_X.inv1 (r := (.invokespecial 18, 15, 179, 0, 227, 0)) (no (by decide)) rfl k
  have hs : ((Value.ref r1 :: r).map fun v => v.category).sum ≤ 8 ∧ (g2.2.2.2.2 + am_al 179 ≤ 175 ∧ am_call am_cod 20 179 [.ref r1] g2 (fun v h' => K0 15 lv1 (v.toList ++ (.ref r1 :: r)) h')) := hs
  refine am_xstep (r := (.invokespecial 18, 15, 179, 0, 227, 0)) rfl (show ((Value.ref r1 :: r).map fun v => v.category).sum ≤ 8 ∧ (g2.2.2.2.2 + am_al 179 ≤ 175 ∧ am_call am_cod 20 179 [.ref r1] g2 (fun v h' => am_X (am_call am_cod 20) 7 175 (some .boolean) (am_find am_rLs) (fun pc lv st h => E pc lv st h ∧ wd_W h) lw_no0 15 lv1 (v.toList ++ (.ref r1 :: r)) h')) from ⟨hs.1, hs.2.1, am_call.mono (fun v g3 q => ?_) (w179 _ _ _ _ hs.2.2)⟩)
  have hW := q.2
  replace k := hk _ _ _ _ q.1
  clear hs hk q
  generalize v.toList ++ (.ref r1 :: r) = st2 at k ⊢
  obtain ⟨K0, Q0, hs, hk, -⟩ := am_X.inv1 (r := (.astore_n 2, 16, 0, 0, 0, 0)) (no (by decide)) rfl k
  have hs : am_pR st2 fun x r => 2 < 7 ∧ K0 16 (am_s1 lv1 2 (.ref x)) r g3 := hs
  refine am_xstep (r := (.astore_n 2, 16, 0, 0, 0, 0)) rfl (show am_pR st2 fun x r => 2 < 7 ∧ am_X (am_call am_cod 20) 7 175 (some .boolean) (am_find am_rLs) (fun pc lv st h => E pc lv st h ∧ wd_W h) lw_no0 16 (am_s1 lv1 2 (.ref x)) r g3 from am_pR.imp (fun x2 s2 q => ⟨q.1, ?_⟩) hs)
  replace k := hk _ _ _ _ q.2
  clear hs hk q
  generalize am_s1 lv1 2 (.ref x2) = lv2 at k ⊢
  obtain ⟨K0, Q0, hs, hk, -⟩ := am_X.inv1 (r := (.iconst 1, 17, 0, 0, 0, 0)) (no (by decide)) rfl k
  have hs : K0 17 lv2 (.int (Int32.ofInt 1) :: s2) g3 := hs
  replace k := hk _ _ _ _ hs
  refine am_xstep (r := (.iconst 1, 17, 0, 0, 0, 0)) rfl (show am_X (am_call am_cod 20) 7 175 (some .boolean) (am_find am_rLs) (fun pc lv st h => E pc lv st h ∧ wd_W h) lw_no0 17 lv2 (.int (Int32.ofInt 1) :: s2) g3 from ?_)
  obtain ⟨K0, Q0, hs, hk, -⟩ := am_X.inv1 (r := (.newarray .long, 19, 0, 14, 0, 0)) (no (by decide)) rfl k
  have hs : ∃ n : Nat, am_shl[g3.2.2.2.2]? = some (14, n) ∧ Int32.ofInt 1 = nI n ∧ g3.2.2.2.2 + 1 ≤ 175 ∧ K0 19 lv2 (.ref g3.2.2.2.2 :: s2) (am_nx g3) := hs
  obtain ⟨n, q1, q2, q3, q4⟩ := hs
  replace k := hk _ _ _ _ q4
  refine am_xstep (r := (.newarray .long, 19, 0, 14, 0, 0)) rfl (show ∃ n : Nat, am_shl[g3.2.2.2.2]? = some (14, n) ∧ Int32.ofInt 1 = nI n ∧ g3.2.2.2.2 + 1 ≤ 175 ∧ am_X (am_call am_cod 20) 7 175 (some .boolean) (am_find am_rLs) (fun pc lv st h => E pc lv st h ∧ wd_W h) lw_no0 19 lv2 (.ref g3.2.2.2.2 :: s2) (am_nx g3) from ⟨n, q1, q2, q3, ?_⟩)
  replace hW := wd_N _ hW
  clear hk q4
  generalize g3.2.2.2.2 = r3 at k ⊢
  generalize am_nx g3 = g4 at k hW ⊢
  obtain ⟨K0, Q0, hs, hk, -⟩ := am_X.inv1 (r := (.astore_n 3, 20, 0, 0, 0, 0)) (no (by decide)) rfl k
  have hs : 3 < 7 ∧ K0 20 (am_s1 lv2 3 (.ref r3)) s2 g4 := hs
  refine am_xstep (r := (.astore_n 3, 20, 0, 0, 0, 0)) rfl (show 3 < 7 ∧ am_X (am_call am_cod 20) 7 175 (some .boolean) (am_find am_rLs) (fun pc lv st h => E pc lv st h ∧ wd_W h) lw_no0 20 (am_s1 lv2 3 (.ref r3)) (s2) g4 from ⟨hs.1, ?_⟩)
  replace k := hk _ _ _ _ hs.2
  clear hs hk
  generalize am_s1 lv2 3 (.ref r3) = lv3 at k ⊢
  obtain ⟨K0, Q0, hs, hk, -⟩ := am_X.inv1 (r := (.iconst 0, 21, 0, 0, 0, 0)) (no (by decide)) rfl k
  have hs : K0 21 lv3 (.int (Int32.ofInt 0) :: s2) g4 := hs
  replace k := hk _ _ _ _ hs
  refine am_xstep (r := (.iconst 0, 21, 0, 0, 0, 0)) rfl (show am_X (am_call am_cod 20) 7 175 (some .boolean) (am_find am_rLs) (fun pc lv st h => E pc lv st h ∧ wd_W h) lw_no0 21 lv3 (.int (Int32.ofInt 0) :: s2) g4 from ?_)
  obtain ⟨K0, Q0, hs, hk, -⟩ := am_X.inv1 (r := (.istore 4, 23, 0, 0, 0, 0)) (no (by decide)) rfl k
  have hs : 4 < 7 ∧ K0 23 (am_s1 lv3 4 (.int (Int32.ofInt 0))) s2 g4 := hs
  refine am_xstep (r := (.istore 4, 23, 0, 0, 0, 0)) rfl (show 4 < 7 ∧ am_X (am_call am_cod 20) 7 175 (some .boolean) (am_find am_rLs) (fun pc lv st h => E pc lv st h ∧ wd_W h) lw_no0 23 (am_s1 lv3 4 (.int (Int32.ofInt 0))) (s2) g4 from ⟨hs.1, ?_⟩)
  replace k := hk _ _ _ _ hs.2
  have e := k (fun pc lv st h => pc = 23 → E pc lv st h) (fun _ _ _ _ e _ => e) (fun pc lv st h r K0 Q0 hc _ _ _ z => by
    rw [z] at hc
    have e0 : am_find am_rLs 23 = none := by decide +kernel
    rw [e0] at hc
    cases hc) rfl
  exact am_xexit ⟨e, hW⟩
