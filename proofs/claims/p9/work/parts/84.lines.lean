/-! BETWEEN TWO LINES OF A CANTON -/
def pz_Mc : ag_M := [(154, 7, 8), (154, 13, 13), (154, 19, 20), (160, 40, 79), (161, 1100, 2199), (162, 1100, 2199), (164, 0, 10), (166, 0, 10)]
/-- no law yet, or a law laid -/
def plg (c : Nat) (h : am_H) : Prop := (h.1 160 43 = -1 ∧ c = 0 ∧ (h.1 154 20 = 0 ∨ h.1 154 20 = 1)) ∨ ((h.1 154 20 = 2 ∨ h.1 154 20 = 3) ∧ xf_P 1 0 h)
def pz_sup (o k : Nat) : Prop := (o = 160 ∧ k = 43) ∨ (o = 154 ∧ (k = 20 ∨ k = 13)) ∨ o = 161 ∨ o = 162
theorem plg_same {c : Nat} {h h' : am_H} (e : ∀ o k, pz_sup o k → h'.1 o k = h.1 o k) (q : plg c h) : plg c h' := by
  have e1 := e 160 43 (Or.inl ⟨rfl, rfl⟩)
  have e2 := e 154 20 (Or.inr (Or.inl ⟨rfl, Or.inl rfl⟩))
  unfold plg at q ⊢
  rw [e1, e2]
  rcases q with q | ⟨q1, q2⟩
  · exact Or.inl q
  · refine Or.inr ⟨q1, xf_keep (fun s hs j j1 j2 => ?_) q2⟩
    have hs : s ∈ ([(161, 1100, 2199), (162, 1100, 2199), (154, 13, 13), (160, 43, 43)] : ag_M) := hs
    simp only [List.mem_cons, List.not_mem_nil, or_false] at hs
    rcases hs with rfl | rfl | rfl | rfl
    · exact e 161 j (Or.inr (Or.inr (Or.inl rfl)))
    · exact e 162 j (Or.inr (Or.inr (Or.inr rfl)))
    · have j1 : 13 ≤ j := j1
      have j2 : j ≤ 13 := j2
      have : j = 13 := by omega
      subst this
      exact e 154 13 (Or.inr (Or.inl ⟨rfl, Or.inr rfl⟩))
    · have j1 : 43 ≤ j := j1
      have j2 : j ≤ 43 := j2
      have : j = 43 := by omega
      subst this
      exact e1
def ln (N a c : Nat) (h0 : am_H) (p e z : Nat) (h : am_H) : Prop := pz_P N a c h ∧ ag_fr pz_Mc h0 h ∧ h.1 154 8 = 0 ∧ h.1 160 40 = nI p ∧ h.1 160 41 = nI e ∧ h.1 154 19 = nI z ∧ plg c h
/-- a fault -/
def fl (N : Nat) (h0 h : am_H) : Prop := (∃ a c, pz_P N a c h) ∧ ag_fr pz_Mc h0 h ∧ ¬ h.1 154 8 = 0
variable {N a c p e z : Nat} {h h0 : am_H}
theorem pz_trc {h1 h2 : am_H} (f1 : ag_fr pz_Mc h h1) (f2 : ag_fr pz_Mc h1 h2) : ag_fr pz_Mc h h2 := f1.trans (by decide +kernel) f2
theorem pz_Fc {h1 h2 : am_H} (f1 : ag_fr pz_Mc h h1) (f2 : ag_fr pz_F h1 h2) : ag_fr pz_Mc h h2 := f1.trans (by decide +kernel) f2
theorem pz_Fs {h' : am_H} (f : ag_fr pz_F h h') : ∀ o k, ¬ (o = 154 ∧ (k = 7 ∨ k = 8)) → h'.1 o k = h.1 o k := by
  intro o k hn
  refine (f.2 o k ?_).1
  unfold ag_atM pz_F
  simp only [List.any, Bool.or_false]
  cases hb : Nat.beq 154 o && (Nat.ble 7 k && Nat.ble k 8) with
  | false => rfl
  | true =>
    rw [Bool.and_eq_true, Bool.and_eq_true] at hb
    have b1 := Nat.eq_of_beq_eq_true hb.1
    have b2 := Nat.le_of_ble_eq_true hb.2.1
    have b3 := Nat.le_of_ble_eq_true hb.2.2
    exact absurd ⟨b1.symm, by omega⟩ hn
/-- behind a taker -/
theorem ln_F {a' : Nat} {h' : am_H} (q : ln N a c h0 p e z h) (f : pq N a c h a' h') : fl N h0 h' ∨ ln N a' c h0 p e z h' := by
  obtain ⟨q1, q2, q3, q4, q5, q6, q7⟩ := q
  obtain ⟨f1, f2, f3, f4⟩ := f
  by_cases hf : h'.1 154 8 = 0
  · refine Or.inr ⟨f1, pz_Fc q2 f2, hf, ?_, ?_, ?_, plg_same (fun o k hs => pz_Fs f2 o k ?_) q7⟩
    · rw [pz_Fs f2 160 40 (by omega)]
      exact q4
    · rw [pz_Fs f2 160 41 (by omega)]
      exact q5
    · rw [pz_Fs f2 154 19 (by omega)]
      exact q6
    · unfold pz_sup at hs
      omega
  · exact Or.inl ⟨⟨a', c, f1⟩, pz_Fc q2 f2, hf⟩
theorem fl_F {a' : Nat} {h' : am_H} (q : ag_fr pz_Mc h0 h) (hf : ¬ h.1 154 8 = 0) (f : pq N a c h a' h') : fl N h0 h' := ⟨⟨a', c, f.1⟩, pz_Fc q f.2.1, fun w => hf (f.2.2.2 w)⟩
/-- an int is written that no other part speaks of -/
theorem pz_w {o k : Nat} {v : Int32} (hP : pz_P N a c h) (h7 : ¬ (o = 154 ∧ (k = 7 ∨ k = 13))) (hkp : ¬ ag_kp o k) (hv : ∀ s ∈ ag_sg o, ag_seg s k v) : pz_P N a c (am_wI h o k v) := by
  obtain ⟨p1, p2, p3, p4, p5, p6, p7⟩ := hP
  refine ⟨pz_wW p1 (fun w => hkp (Or.inl w)) hv, pz_wX p2 hkp, p3, ?_, p5, ?_, p7⟩
  · rw [em_wn h _ (by omega)]
    exact p4
  · rw [em_wn h _ (by omega)]
    exact p6
theorem pz_wl {o k : Nat} {v : Int64} (hP : pz_P N a c h) (ho : ¬ o = 154) : pz_P N a c (am_wL h o k v) := by
  obtain ⟨⟨w1, ⟨g1, g2, g3⟩, w3⟩, p2, p3, p4, p5, p6, p7⟩ := hP
  refine ⟨⟨w1, ⟨g1, fun o' k' => ?_, g3⟩, w3⟩, p2, p3, p4, p5, p6, p7⟩
  by_cases z : o' = o
  · subst z
    rw [ag_DD_lg o' k' ho]
    exact ag_i64r _
  · have e9 : (am_wL h o k v).2.1 o' k' = h.2.1 o' k' := if_neg (fun w => z w.1)
    rw [e9]
    exact g2 o' k'
theorem pz_frL {o k : Nat} {v : Int64} {M : ag_M} (hm : ag_atM M o k = true) : ag_fr M h (am_wL h o k v) := by
  refine ⟨rfl, fun o' k' hk => ⟨rfl, ?_, rfl⟩⟩
  show (if o' = o ∧ k' = k then v else h.2.1 o' k') = h.2.1 o' k'
  rw [if_neg (fun z => by rw [z.1, z.2, hm] at hk; cases hk)]
theorem ln_w {o k : Nat} {v : Int32} (q : ln N a c h0 p e z h) (hm : ag_atM pz_Mc o k = true) (h1 : ¬ o = 154 ∧ ¬ o = 156 ∧ ¬ o = 161 ∧ ¬ o = 162) (h2 : o = 160 → k = 42 ∨ 44 ≤ k) (hv : ∀ s ∈ ag_sg o, ag_seg s k v) : ln N a c h0 p e z (am_wI h o k v) := by
  obtain ⟨q1, q2, q3, q4, q5, q6, q7⟩ := q
  refine ⟨pz_w q1 (by omega) (by unfold ag_kp; omega) hv, pz_trc q2 (pz_fr hm), ?_, ?_, ?_, ?_, plg_same (fun o' k' hs => em_wn h _ ?_) q7⟩
  · rw [em_wn h _ (by omega)]
    exact q3
  · rw [em_wn h _ (by omega)]
    exact q4
  · rw [em_wn h _ (by omega)]
    exact q5
  · rw [em_wn h _ (by omega)]
    exact q6
  · unfold pz_sup at hs
    omega
theorem ln_wl {k : Nat} {v : Int64} (q : ln N a c h0 p e z h) (hm : ag_atM pz_Mc 164 k = true) : ln N a c h0 p e z (am_wL h 164 k v) := by
  obtain ⟨q1, q2, q3, q4, q5, q6, q7⟩ := q
  exact ⟨pz_wl q1 (by decide), pz_trc q2 (pz_frL hm), q3, q4, q5, q6, plg_same (fun _ _ _ => rfl) q7⟩
theorem ln_at {a' : Nat} (q : ln N a c h0 p e z h) (ha : a' ≤ N) : ln N a' c h0 p e z (am_wI h 154 7 (nI a')) := by
  obtain ⟨q1, q2, q3, q4, q5, q6, q7⟩ := q
  refine ⟨pz_at q1 ha, pz_trc q2 (pz_fr rfl), ?_, ?_, ?_, ?_, plg_same (fun o' k' hs => em_wn h _ ?_) q7⟩
  · rw [em_wn h _ (by omega)]
    exact q3
  · rw [em_wn h _ (by omega)]
    exact q4
  · rw [em_wn h _ (by omega)]
    exact q5
  · rw [em_wn h _ (by omega)]
    exact q6
  · unfold pz_sup at hs
    omega
theorem pz_sg19 : (ag_sg 154).all (fun s => !(Nat.ble s.1 19 && Nat.ble 19 s.2.1) || (decide (s.2.2.2.2.1 ≤ 0) && decide (11 ≤ s.2.2.2.2.2))) = true := by decide +kernel
theorem pz_sg40 : (ag_sg 160).all (fun s => !(Nat.ble s.1 40 && Nat.ble 40 s.2.1) || (decide (s.2.2.2.2.1 ≤ 0) && decide (6 ≤ s.2.2.2.2.2))) = true := by decide +kernel
theorem pz_sg41 : (ag_sg 160).all (fun s => !(Nat.ble s.1 41 && Nat.ble 41 s.2.1) || (decide (s.2.2.2.2.1 ≤ 0) && decide (5 ≤ s.2.2.2.2.2))) = true := by decide +kernel
theorem pz_sg166 : (ag_sg 166).all (fun s => decide (s.2.2.2.2.1 ≤ 0) && decide (24 ≤ s.2.2.2.2.2)) = true := by decide +kernel
theorem pz_s166 {k v : Nat} (hv : v ≤ 24) : ∀ s ∈ ag_sg 166, ag_seg s k (nI v) := by
  intro s hs _ _ _
  have w := List.all_eq_true.mp pz_sg166 s hs
  rw [Bool.and_eq_true, decide_eq_true_eq, decide_eq_true_eq] at w
  rw [nI_toInt (by omega)]
  omega
theorem pz_sg160 : (ag_sg 160).all (fun s => Nat.beq s.1 s.2.1 && (Nat.ble s.1 3 || (Nat.beq s.1 40 || (Nat.beq s.1 41 || Nat.beq s.1 43)))) = true := by decide +kernel
theorem pz_s160 {k : Nat} {v : Int32} (hk : k = 42 ∨ 44 ≤ k) : ∀ s ∈ ag_sg 160, ag_seg s k v := by
  intro s hs k1 k2 _
  have w := List.all_eq_true.mp pz_sg160 s hs
  rw [Bool.and_eq_true, Bool.or_eq_true, Bool.or_eq_true, Bool.or_eq_true] at w
  have w1 := Nat.eq_of_beq_eq_true w.1
  exfalso
  rcases w.2 with z | z | z | z
  · have := Nat.le_of_ble_eq_true z
    omega
  · have := Nat.eq_of_beq_eq_true z
    omega
  · have := Nat.eq_of_beq_eq_true z
    omega
  · have := Nat.eq_of_beq_eq_true z
    omega
theorem ln_19 (q : ln N a c h0 p e z h) (hz : z + 1 ≤ 11) : ln N a c h0 p e (z + 1) (am_wI h 154 19 (nI (z + 1))) := by
  obtain ⟨q1, q2, q3, q4, q5, q6, q7⟩ := q
  have ht : (nI (z + 1)).toInt = (z + 1 : Nat) := nI_toInt (by omega)
  refine ⟨pz_w q1 (by omega) (by unfold ag_kp; omega) (pz_sgv pz_sg19 (by omega) (by omega)), pz_trc q2 (pz_fr rfl), ?_, ?_, ?_, em_we h 154 19 _, plg_same (fun o' k' hs => em_wn h _ ?_) q7⟩
  · rw [em_wn h _ (by omega)]
    exact q3
  · rw [em_wn h _ (by omega)]
    exact q4
  · rw [em_wn h _ (by omega)]
    exact q5
  · unfold pz_sup at hs
    omega
theorem ln_40 (q : ln N a c h0 p e z h) (hz : p + 1 ≤ 6) : ln N a c h0 (p + 1) e z (am_wI h 160 40 (nI (p + 1))) := by
  obtain ⟨q1, q2, q3, q4, q5, q6, q7⟩ := q
  have ht : (nI (p + 1)).toInt = (p + 1 : Nat) := nI_toInt (by omega)
  refine ⟨pz_w q1 (by omega) (by unfold ag_kp; omega) (pz_sgv pz_sg40 (by omega) (by omega)), pz_trc q2 (pz_fr rfl), ?_, em_we h 160 40 _, ?_, ?_, plg_same (fun o' k' hs => em_wn h _ ?_) q7⟩
  · rw [em_wn h _ (by omega)]
    exact q3
  · rw [em_wn h _ (by omega)]
    exact q5
  · rw [em_wn h _ (by omega)]
    exact q6
  · unfold pz_sup at hs
    omega
theorem ln_41 (q : ln N a c h0 p e z h) (hz : e + 1 ≤ 5) : ln N a c h0 p (e + 1) z (am_wI h 160 41 (nI (e + 1))) := by
  obtain ⟨q1, q2, q3, q4, q5, q6, q7⟩ := q
  have ht : (nI (e + 1)).toInt = (e + 1 : Nat) := nI_toInt (by omega)
  refine ⟨pz_w q1 (by omega) (by unfold ag_kp; omega) (pz_sgv pz_sg41 (by omega) (by omega)), pz_trc q2 (pz_fr rfl), ?_, ?_, em_we h 160 41 _, ?_, plg_same (fun o' k' hs => em_wn h _ ?_) q7⟩
  · rw [em_wn h _ (by omega)]
    exact q3
  · rw [em_wn h _ (by omega)]
    exact q4
  · rw [em_wn h _ (by omega)]
    exact q6
  · unfold pz_sup at hs
    omega
theorem pz_Mc10 {o k : Nat} (ho : o = 164 ∨ o = 166) (hk : k ≤ 10) : ag_atM pz_Mc o k = true := by
  have e1 : Nat.ble k 10 = true := Nat.ble_eq_true_of_le hk
  unfold ag_atM pz_Mc
  rcases ho with rfl | rfl
  · simp [List.any, e1]
  · simp [List.any, e1]
theorem pz_Mc160 {k : Nat} (h1 : 40 ≤ k) (h2 : k ≤ 79) : ag_atM pz_Mc 160 k = true := by
  have e1 : Nat.ble 40 k = true := Nat.ble_eq_true_of_le h1
  have e2 : Nat.ble k 79 = true := Nat.ble_eq_true_of_le h2
  unfold ag_atM pz_Mc
  simp [List.any, e1, e2]
theorem pz_rname0 {Q : am_Q} (hl : ln N a c h0 p e (p + e) h) (hp6 : p ≤ 6) (he5 : e ≤ 5) (hlt : a < N) (hQ : ∀ a' h', a ≤ a' → fl N h0 h' ∨ (ln N a' c h0 (p + 1) (e) (p + 1 + (e)) h' ∧ p + 1 ≤ 6) → Q none h') : am_call am_cod 4 196 [.ref 154, .int (Int32.ofInt 0), .int (Int8.ofInt 6).toInt32, .int (Int32.ofInt 0)] h Q := by
  have hP := hl.1
  refine pz_call (n := 196) (nL := 5) (rt := none) (rows := am_r196) (d := 3) (by decide +kernel) (by decide +kernel) rfl (by funext pc; rfl) (pz_175 hP) (by exact Nat.le_of_ble_eq_true rfl) ?_
  refine am_goX 2 (show am_sh h 154 = some (11, 0) ∧ pz_S 5 none am_r196 3 Q 4 [(0, .ref 154), (1, .int (Int32.ofInt 0)), (2, .int (Int8.ofInt 6).toInt32), (3, .int (Int32.ofInt 0))] [am_rf (h.2.2.1 154 10)] h from ⟨pz_154 hP, ?_⟩)
  rw [pz_r10 hP]
  refine am_goX 4 (show ∃ jj nn : Nat, am_sh h 160 = some (13, nn) ∧ jj < nn ∧ ((Int8.ofInt 40).toInt32 + (Int32.ofInt 0)) = nI jj ∧ pz_S 5 none am_r196 3 Q 9 [(0, .ref 154), (1, .int (Int32.ofInt 0)), (2, .int (Int8.ofInt 6).toInt32), (3, .int (Int32.ofInt 0))] [.int (h.1 160 jj)] h from ⟨40, 80, pz_160 hP, by decide, by decide, ?_⟩)
  rw [hl.2.2.2.1]
  refine am_goX 4 (show 4 < 5 ∧ (¬ (nI p) = (Int8.ofInt 6).toInt32 → pz_S 5 none am_r196 3 Q 23 [(4, .int (nI p)), (0, .ref 154), (1, .int (Int32.ofInt 0)), (2, .int (Int8.ofInt 6).toInt32), (3, .int (Int32.ofInt 0))] [] h) ∧ (¬ ¬ (nI p) = (Int8.ofInt 6).toInt32 → pz_S 5 none am_r196 3 Q 17 [(4, .int (nI p)), (0, .ref 154), (1, .int (Int32.ofInt 0)), (2, .int (Int8.ofInt 6).toInt32), (3, .int (Int32.ofInt 0))] [] h) from ⟨by decide, fun hc => ?_, fun hc => ?_⟩)
  rotate_left
  · refine am_goX 3 (show am_rc h 154 11 ∧ 0 ≤ 8 ∧ h.2.2.2.2 + am_al 197 ≤ 175 ∧ am_call am_cod 3 197 [.ref 154, .int (Int32.ofInt 5)] h (fun vv h' => pz_S 5 none am_r196 3 Q 22 [(4, .int (nI p)), (0, .ref 154), (1, .int (Int32.ofInt 0)), (2, .int (Int8.ofInt 6).toInt32), (3, .int (Int32.ofInt 0))] (vv.toList ++ []) h') from ⟨pz_rc hP, by decide, pz_lim hP rfl, am_call.up (pz_wrongF hP (by decide) (fun h' q1 q2 q3 => ?_)) (by decide)⟩)
    exact am_goX 1 (show (none : Option FieldType) = none ∧ h'.2.2.2.2 = 175 ∧ _ from ⟨rfl, pz_175 q1, hQ a h' (Nat.le_refl _) (Or.inl ⟨⟨a, c, q1⟩, pz_Fc hl.2.1 q2, q3⟩)⟩)
  have hs1 : p + 1 ≤ 6 := by
    rcases Nat.lt_or_ge p 6 with w | w
    · omega
    · exact absurd (by rw [show p = 6 by omega]; rfl) hc
  clear hc
  refine am_goX 6 (show (Value.ref 154).category = 1 ∧ am_sh h 154 = some (11, 0) ∧ am_sh h 154 = some (11, 0) ∧ narrow (am_fty 11 7) (.int (((h.1 154 7) + (Int32.ofInt 1)))) = .int (((h.1 154 7) + (Int32.ofInt 1))) ∧ fits (am_fty 11 7) (.int (((h.1 154 7) + (Int32.ofInt 1)))) = true ∧ pz_S 5 none am_r196 3 Q 33 [(4, .int (nI p)), (0, .ref 154), (1, .int (Int32.ofInt 0)), (2, .int (Int8.ofInt 6).toInt32), (3, .int (Int32.ofInt 0))] [] (am_wI h 154 7 (((h.1 154 7) + (Int32.ofInt 1)))) from ⟨rfl, pz_154 hP, pz_154 hP, rfl, rfl, ?_⟩)
  rw [hP.2.2.2.1, xw_i1]
  have l1 := ln_at (a' := a + 1) hl (by omega)
  generalize am_wI h 154 7 (nI (a + 1)) = h1 at l1 ⊢
  have hP1 := l1.1
  have kf : ∀ h', pz_P N (a + 1) c h' → ag_fr pz_F h1 h' → ¬ h'.1 154 8 = 0 → pz_S 5 none am_r196 3 Q 61 [(4, .int (nI p)), (0, .ref 154), (1, .int (Int32.ofInt 0)), (2, .int (Int8.ofInt 6).toInt32), (3, .int (Int32.ofInt 0))] [] h' := ?_
  rotate_left
  · intro h' q1 q2 q3
    refine am_goX 3 (show am_sh h' 154 = some (11, 0) ∧ (¬ (h'.1 154 8) = 0 → pz_S 5 none am_r196 3 Q 132 [(4, .int (nI p)), (0, .ref 154), (1, .int (Int32.ofInt 0)), (2, .int (Int8.ofInt 6).toInt32), (3, .int (Int32.ofInt 0))] [] h') ∧ (¬ ¬ (h'.1 154 8) = 0 → pz_S 5 none am_r196 3 Q 68 [(4, .int (nI p)), (0, .ref 154), (1, .int (Int32.ofInt 0)), (2, .int (Int8.ofInt 6).toInt32), (3, .int (Int32.ofInt 0))] [] h') from ⟨pz_154 q1, fun _ => ?_, fun hz => absurd q3 hz⟩)
    exact am_goX 1 (show (none : Option FieldType) = none ∧ h'.2.2.2.2 = 175 ∧ _ from ⟨rfl, pz_175 q1, hQ (a + 1) h' (by omega) (Or.inl ⟨⟨_, _, q1⟩, pz_Fc l1.2.1 q2, q3⟩)⟩)
  refine am_goX 2 (show am_rc h1 154 11 ∧ 0 ≤ 8 ∧ h1.2.2.2.2 + am_al 198 ≤ 175 ∧ am_call am_cod 3 198 [.ref 154] h1 (fun vv h' => pz_S 5 none am_r196 3 Q 37 [(4, .int (nI p)), (0, .ref 154), (1, .int (Int32.ofInt 0)), (2, .int (Int8.ofInt 6).toInt32), (3, .int (Int32.ofInt 0))] (vv.toList ++ []) h') from ⟨pz_rc hP1, by decide, pz_lim hP1 rfl, pz_isn hP1 (fun hf1 hlt1 => ?_) ?_⟩)
  rotate_left
  · refine am_goX 1 (show (¬ 0 = 0 → pz_S 5 none am_r196 3 Q 48 [(4, .int (nI p)), (0, .ref 154), (1, .int (Int32.ofInt 0)), (2, .int (Int8.ofInt 6).toInt32), (3, .int (Int32.ofInt 0))] [] h1) ∧ (¬ ¬ 0 = 0 → pz_S 5 none am_r196 3 Q 40 [(4, .int (nI p)), (0, .ref 154), (1, .int (Int32.ofInt 0)), (2, .int (Int8.ofInt 6).toInt32), (3, .int (Int32.ofInt 0))] [] h1) from ⟨fun hz => absurd hz (fun w => w rfl), fun _ => ?_⟩)
    refine am_goX 3 (show am_rc h1 154 11 ∧ 0 ≤ 8 ∧ h1.2.2.2.2 + am_al 197 ≤ 175 ∧ am_call am_cod 3 197 [.ref 154, .int (Int32.ofInt 1)] h1 (fun vv h' => pz_S 5 none am_r196 3 Q 45 [(4, .int (nI p)), (0, .ref 154), (1, .int (Int32.ofInt 0)), (2, .int (Int8.ofInt 6).toInt32), (3, .int (Int32.ofInt 0))] (vv.toList ++ []) h') from ⟨pz_rc hP1, by decide, pz_lim hP1 rfl, am_call.up (pz_wrongF hP1 (by decide) (fun h' q1 q2 q3 => ?_)) (by decide)⟩)
    exact am_goX 1 (kf h' q1 q2 q3)
  refine am_goX 1 (show (¬ 1 = 0 → pz_S 5 none am_r196 3 Q 48 [(4, .int (nI p)), (0, .ref 154), (1, .int (Int32.ofInt 0)), (2, .int (Int8.ofInt 6).toInt32), (3, .int (Int32.ofInt 0))] [] h1) ∧ (¬ ¬ 1 = 0 → pz_S 5 none am_r196 3 Q 40 [(4, .int (nI p)), (0, .ref 154), (1, .int (Int32.ofInt 0)), (2, .int (Int8.ofInt 6).toInt32), (3, .int (Int32.ofInt 0))] [] h1) from ⟨fun _ => ?_, fun hz => absurd (by decide) hz⟩)
  refine am_goX 3 (show am_rc h1 154 11 ∧ 0 ≤ 8 ∧ h1.2.2.2.2 + am_al 200 ≤ 175 ∧ am_call am_cod 3 200 [.ref 154, .int (Int32.ofInt 1)] h1 (fun vv h' => pz_S 5 none am_r196 3 Q 53 [(4, .int (nI p)), (0, .ref 154), (1, .int (Int32.ofInt 0)), (2, .int (Int8.ofInt 6).toInt32), (3, .int (Int32.ofInt 0))] (vv.toList ++ []) h') from ⟨pz_rc hP1, by decide, pz_lim hP1 rfl, am_call.up (pz_nm1 hP1 (fun r hr => ?_)) (by decide)⟩)
  refine am_goX 1 (show (r < 0 → pz_S 5 none am_r196 3 Q 61 [(4, .int (nI p)), (0, .ref 154), (1, .int (Int32.ofInt 0)), (2, .int (Int8.ofInt 6).toInt32), (3, .int (Int32.ofInt 0))] [] h1) ∧ (¬ (r < 0) → pz_S 5 none am_r196 3 Q 56 [(4, .int (nI p)), (0, .ref 154), (1, .int (Int32.ofInt 0)), (2, .int (Int8.ofInt 6).toInt32), (3, .int (Int32.ofInt 0))] [] h1) from ⟨fun hc => ?_, fun hc => ?_⟩)
  rotate_left
  · refine am_goX 3 (show am_rc h1 154 11 ∧ 0 ≤ 8 ∧ h1.2.2.2.2 + am_al 197 ≤ 175 ∧ am_call am_cod 3 197 [.ref 154, .int (Int32.ofInt 3)] h1 (fun vv h' => pz_S 5 none am_r196 3 Q 61 [(4, .int (nI p)), (0, .ref 154), (1, .int (Int32.ofInt 0)), (2, .int (Int8.ofInt 6).toInt32), (3, .int (Int32.ofInt 0))] (vv.toList ++ []) h') from ⟨pz_rc hP1, by decide, pz_lim hP1 rfl, am_call.up (pz_wrongF hP1 (by decide) (fun h' q1 q2 q3 => ?_)) (by decide)⟩)
    exact kf h' q1 q2 q3
  clear hc
  refine am_goX 3 (show am_sh h1 154 = some (11, 0) ∧ (¬ (h1.1 154 8) = 0 → pz_S 5 none am_r196 3 Q 132 [(4, .int (nI p)), (0, .ref 154), (1, .int (Int32.ofInt 0)), (2, .int (Int8.ofInt 6).toInt32), (3, .int (Int32.ofInt 0))] [] h1) ∧ (¬ ¬ (h1.1 154 8) = 0 → pz_S 5 none am_r196 3 Q 68 [(4, .int (nI p)), (0, .ref 154), (1, .int (Int32.ofInt 0)), (2, .int (Int8.ofInt 6).toInt32), (3, .int (Int32.ofInt 0))] [] h1) from ⟨pz_154 hP1, fun hz => absurd hz (fun w => w hf1), fun _ => ?_⟩)
  refine am_goX 2 (show am_sh h1 154 = some (11, 0) ∧ pz_S 5 none am_r196 3 Q 72 [(4, .int (nI p)), (0, .ref 154), (1, .int (Int32.ofInt 0)), (2, .int (Int8.ofInt 6).toInt32), (3, .int (Int32.ofInt 0))] [am_rf (h1.2.2.1 154 15)] h1 from ⟨pz_154 hP1, ?_⟩)
  rw [pz_r15 hP1]
  refine am_goX 4 (show am_sh h1 154 = some (11, 0) ∧ am_sh h1 154 = some (11, 0) ∧ pz_S 5 none am_r196 3 Q 80 [(4, .int (nI p)), (0, .ref 154), (1, .int (Int32.ofInt 0)), (2, .int (Int8.ofInt 6).toInt32), (3, .int (Int32.ofInt 0))] [am_rf (h1.2.2.1 154 6), .int (h1.1 154 19), .ref 164] h1 from ⟨pz_154 hP1, pz_154 hP1, ?_⟩)
  rw [pz_r6 hP1]
  refine am_goX 3 (show am_sh h1 154 = some (11, 0) ∧ ∃ jj nn : Nat, am_sh h1 158 = some (14, nn) ∧ jj < nn ∧ (h1.1 154 7) = nI jj ∧ pz_S 5 none am_r196 3 Q 85 [(4, .int (nI p)), (0, .ref 154), (1, .int (Int32.ofInt 0)), (2, .int (Int8.ofInt 6).toInt32), (3, .int (Int32.ofInt 0))] [.long (h1.2.1 158 jj), .int (h1.1 154 19), .ref 164] h1 from ⟨pz_154 hP1, (a + 1), 1002, pz_158 hP1, pz_al hP1, hP1.2.2.2.1, ?_⟩)
  refine am_goX 1 (show ∃ jj nn : Nat, am_so h1 164 = some (14, nn) ∧ jj < nn ∧ (h1.1 154 19) = nI jj ∧ pz_S 5 none am_r196 3 Q 86 [(4, .int (nI p)), (0, .ref 154), (1, .int (Int32.ofInt 0)), (2, .int (Int8.ofInt 6).toInt32), (3, .int (Int32.ofInt 0))] [] (am_wL h1 164 jj ((h1.2.1 158 (a + 1)))) from ⟨(p + e), 11, pz_w164 hP1, by omega, l1.2.2.2.2.2.1, ?_⟩)
  have l2 := ln_wl (k := p + e) (v := h1.2.1 158 (a + 1)) l1 (pz_Mc10 (Or.inl rfl) (by omega))
  generalize am_wL h1 164 (p + e) (h1.2.1 158 (a + 1)) = h2 at l2 ⊢
  have hP2 := l2.1
  refine am_goX 2 (show am_sh h2 154 = some (11, 0) ∧ pz_S 5 none am_r196 3 Q 90 [(4, .int (nI p)), (0, .ref 154), (1, .int (Int32.ofInt 0)), (2, .int (Int8.ofInt 6).toInt32), (3, .int (Int32.ofInt 0))] [am_rf (h2.2.2.1 154 17)] h2 from ⟨pz_154 hP2, ?_⟩)
  rw [pz_r17 hP2]
  refine am_goX 6 (show am_sh h2 154 = some (11, 0) ∧ ∃ jj nn : Nat, am_so h2 166 = some (13, nn) ∧ jj < nn ∧ (h2.1 154 19) = nI jj ∧ pz_S 5 none am_r196 3 Q 99 [(4, .int (nI p)), (0, .ref 154), (1, .int (Int32.ofInt 0)), (2, .int (Int8.ofInt 6).toInt32), (3, .int (Int32.ofInt 0))] [] (am_wI h2 166 jj (((Int32.ofInt 0) + (nI p)))) from ⟨pz_154 hP2, (p + e), 11, pz_w166 hP2, by omega, l2.2.2.2.2.2.1, ?_⟩)
  rw [show (Int32.ofInt 0 + nI p) = nI (0 + p) from nI_add 0 p]
  have l3 := ln_w (o := 166) (k := p + e) (v := nI (0 + p)) l2 (pz_Mc10 (Or.inr rfl) (by omega)) (by decide) (fun w => absurd w (by decide)) (pz_s166 (by omega))
  generalize am_wI h2 166 (p + e) (nI (0 + p)) = h3 at l3 ⊢
  have hP3 := l3.1
  refine am_goX 6 (show (Value.ref 154).category = 1 ∧ am_sh h3 154 = some (11, 0) ∧ am_sh h3 154 = some (11, 0) ∧ narrow (am_fty 11 19) (.int (((h3.1 154 19) + (Int32.ofInt 1)))) = .int (((h3.1 154 19) + (Int32.ofInt 1))) ∧ fits (am_fty 11 19) (.int (((h3.1 154 19) + (Int32.ofInt 1)))) = true ∧ pz_S 5 none am_r196 3 Q 109 [(4, .int (nI p)), (0, .ref 154), (1, .int (Int32.ofInt 0)), (2, .int (Int8.ofInt 6).toInt32), (3, .int (Int32.ofInt 0))] [] (am_wI h3 154 19 (((h3.1 154 19) + (Int32.ofInt 1)))) from ⟨rfl, pz_154 hP3, pz_154 hP3, rfl, rfl, ?_⟩)
  rw [l3.2.2.2.2.2.1, xw_i1]
  have l4 := ln_19 l3 (by omega)
  generalize am_wI h3 154 19 (nI (p + e + 1)) = h4 at l4 ⊢
  have hP4 := l4.1
  refine am_goX 6 (show (Value.ref 154).category = 1 ∧ am_sh h4 154 = some (11, 0) ∧ am_sh h4 154 = some (11, 0) ∧ narrow (am_fty 11 7) (.int (((h4.1 154 7) + (Int32.ofInt 1)))) = .int (((h4.1 154 7) + (Int32.ofInt 1))) ∧ fits (am_fty 11 7) (.int (((h4.1 154 7) + (Int32.ofInt 1)))) = true ∧ pz_S 5 none am_r196 3 Q 119 [(4, .int (nI p)), (0, .ref 154), (1, .int (Int32.ofInt 0)), (2, .int (Int8.ofInt 6).toInt32), (3, .int (Int32.ofInt 0))] [] (am_wI h4 154 7 (((h4.1 154 7) + (Int32.ofInt 1)))) from ⟨rfl, pz_154 hP4, pz_154 hP4, rfl, rfl, ?_⟩)
  rw [hP4.2.2.2.1, xw_i1]
  have l5 := ln_at (a' := a + 1 + 1) l4 (by omega)
  generalize am_wI h4 154 7 (nI (a + 1 + 1)) = h5 at l5 ⊢
  have hP5 := l5.1
  refine am_goX 2 (show am_sh h5 154 = some (11, 0) ∧ pz_S 5 none am_r196 3 Q 123 [(4, .int (nI p)), (0, .ref 154), (1, .int (Int32.ofInt 0)), (2, .int (Int8.ofInt 6).toInt32), (3, .int (Int32.ofInt 0))] [am_rf (h5.2.2.1 154 10)] h5 from ⟨pz_154 hP5, ?_⟩)
  rw [pz_r10 hP5]
  refine am_goX 5 (show (Value.int ((Int8.ofInt 40).toInt32 + (Int32.ofInt 0))).category = 1 ∧ (Value.ref 160).category = 1 ∧ ∃ jj nn : Nat, am_sh h5 160 = some (13, nn) ∧ jj < nn ∧ ((Int8.ofInt 40).toInt32 + (Int32.ofInt 0)) = nI jj ∧ pz_S 5 none am_r196 3 Q 129 [(4, .int (nI p)), (0, .ref 154), (1, .int (Int32.ofInt 0)), (2, .int (Int8.ofInt 6).toInt32), (3, .int (Int32.ofInt 0))] [.int (h5.1 160 jj), .int ((Int8.ofInt 40).toInt32 + (Int32.ofInt 0)), .ref 160] h5 from ⟨rfl, rfl, 40, 80, pz_160 hP5, by decide, by decide, ?_⟩)
  rw [l5.2.2.2.1]
  refine am_goX 3 (show ∃ jj nn : Nat, am_so h5 160 = some (13, nn) ∧ jj < nn ∧ ((Int8.ofInt 40).toInt32 + (Int32.ofInt 0)) = nI jj ∧ pz_S 5 none am_r196 3 Q 132 [(4, .int (nI p)), (0, .ref 154), (1, .int (Int32.ofInt 0)), (2, .int (Int8.ofInt 6).toInt32), (3, .int (Int32.ofInt 0))] [] (am_wI h5 160 jj (((nI p) + (Int32.ofInt 1)))) from ⟨40, 80, pz_w160 hP5, by decide, by decide, ?_⟩)
  rw [xw_i1]
  have l6 := ln_40 l5 (by omega)
  generalize am_wI h5 160 40 (nI (p + 1)) = h6 at l6 ⊢
  have hP6 := l6.1
  exact am_goX 1 (show (none : Option FieldType) = none ∧ h6.2.2.2.2 = 175 ∧ _ from ⟨rfl, pz_175 hP6, hQ (a + 1 + 1) h6 (by omega) (Or.inr ⟨by rw [show p + 1 + (e) = p + e + 1 by omega]; exact l6, hs1⟩)⟩)
theorem pz_rname1 {Q : am_Q} (hl : ln N a c h0 p e (p + e) h) (hp6 : p ≤ 6) (he5 : e ≤ 5) (hlt : a < N) (hQ : ∀ a' h', a ≤ a' → fl N h0 h' ∨ (ln N a' c h0 (p) (e + 1) (p + (e + 1)) h' ∧ e + 1 ≤ 5) → Q none h') : am_call am_cod 4 196 [.ref 154, .int (Int32.ofInt 1), .int (Int32.ofInt 5), .int (Int8.ofInt 20).toInt32] h Q := by
  have hP := hl.1
  refine pz_call (n := 196) (nL := 5) (rt := none) (rows := am_r196) (d := 3) (by decide +kernel) (by decide +kernel) rfl (by funext pc; rfl) (pz_175 hP) (by exact Nat.le_of_ble_eq_true rfl) ?_
  refine am_goX 2 (show am_sh h 154 = some (11, 0) ∧ pz_S 5 none am_r196 3 Q 4 [(0, .ref 154), (1, .int (Int32.ofInt 1)), (2, .int (Int32.ofInt 5)), (3, .int (Int8.ofInt 20).toInt32)] [am_rf (h.2.2.1 154 10)] h from ⟨pz_154 hP, ?_⟩)
  rw [pz_r10 hP]
  refine am_goX 4 (show ∃ jj nn : Nat, am_sh h 160 = some (13, nn) ∧ jj < nn ∧ ((Int8.ofInt 40).toInt32 + (Int32.ofInt 1)) = nI jj ∧ pz_S 5 none am_r196 3 Q 9 [(0, .ref 154), (1, .int (Int32.ofInt 1)), (2, .int (Int32.ofInt 5)), (3, .int (Int8.ofInt 20).toInt32)] [.int (h.1 160 jj)] h from ⟨41, 80, pz_160 hP, by decide, by decide, ?_⟩)
  rw [hl.2.2.2.2.1]
  refine am_goX 4 (show 4 < 5 ∧ (¬ (nI e) = (Int32.ofInt 5) → pz_S 5 none am_r196 3 Q 23 [(4, .int (nI e)), (0, .ref 154), (1, .int (Int32.ofInt 1)), (2, .int (Int32.ofInt 5)), (3, .int (Int8.ofInt 20).toInt32)] [] h) ∧ (¬ ¬ (nI e) = (Int32.ofInt 5) → pz_S 5 none am_r196 3 Q 17 [(4, .int (nI e)), (0, .ref 154), (1, .int (Int32.ofInt 1)), (2, .int (Int32.ofInt 5)), (3, .int (Int8.ofInt 20).toInt32)] [] h) from ⟨by decide, fun hc => ?_, fun hc => ?_⟩)
  rotate_left
  · refine am_goX 3 (show am_rc h 154 11 ∧ 0 ≤ 8 ∧ h.2.2.2.2 + am_al 197 ≤ 175 ∧ am_call am_cod 3 197 [.ref 154, .int (Int32.ofInt 5)] h (fun vv h' => pz_S 5 none am_r196 3 Q 22 [(4, .int (nI e)), (0, .ref 154), (1, .int (Int32.ofInt 1)), (2, .int (Int32.ofInt 5)), (3, .int (Int8.ofInt 20).toInt32)] (vv.toList ++ []) h') from ⟨pz_rc hP, by decide, pz_lim hP rfl, am_call.up (pz_wrongF hP (by decide) (fun h' q1 q2 q3 => ?_)) (by decide)⟩)
    exact am_goX 1 (show (none : Option FieldType) = none ∧ h'.2.2.2.2 = 175 ∧ _ from ⟨rfl, pz_175 q1, hQ a h' (Nat.le_refl _) (Or.inl ⟨⟨a, c, q1⟩, pz_Fc hl.2.1 q2, q3⟩)⟩)
  have hs1 : e + 1 ≤ 5 := by
    rcases Nat.lt_or_ge e 5 with w | w
    · omega
    · exact absurd (by rw [show e = 5 by omega]; rfl) hc
  clear hc
  refine am_goX 6 (show (Value.ref 154).category = 1 ∧ am_sh h 154 = some (11, 0) ∧ am_sh h 154 = some (11, 0) ∧ narrow (am_fty 11 7) (.int (((h.1 154 7) + (Int32.ofInt 1)))) = .int (((h.1 154 7) + (Int32.ofInt 1))) ∧ fits (am_fty 11 7) (.int (((h.1 154 7) + (Int32.ofInt 1)))) = true ∧ pz_S 5 none am_r196 3 Q 33 [(4, .int (nI e)), (0, .ref 154), (1, .int (Int32.ofInt 1)), (2, .int (Int32.ofInt 5)), (3, .int (Int8.ofInt 20).toInt32)] [] (am_wI h 154 7 (((h.1 154 7) + (Int32.ofInt 1)))) from ⟨rfl, pz_154 hP, pz_154 hP, rfl, rfl, ?_⟩)
  rw [hP.2.2.2.1, xw_i1]
  have l1 := ln_at (a' := a + 1) hl (by omega)
  generalize am_wI h 154 7 (nI (a + 1)) = h1 at l1 ⊢
  have hP1 := l1.1
  have kf : ∀ h', pz_P N (a + 1) c h' → ag_fr pz_F h1 h' → ¬ h'.1 154 8 = 0 → pz_S 5 none am_r196 3 Q 61 [(4, .int (nI e)), (0, .ref 154), (1, .int (Int32.ofInt 1)), (2, .int (Int32.ofInt 5)), (3, .int (Int8.ofInt 20).toInt32)] [] h' := ?_
  rotate_left
  · intro h' q1 q2 q3
    refine am_goX 3 (show am_sh h' 154 = some (11, 0) ∧ (¬ (h'.1 154 8) = 0 → pz_S 5 none am_r196 3 Q 132 [(4, .int (nI e)), (0, .ref 154), (1, .int (Int32.ofInt 1)), (2, .int (Int32.ofInt 5)), (3, .int (Int8.ofInt 20).toInt32)] [] h') ∧ (¬ ¬ (h'.1 154 8) = 0 → pz_S 5 none am_r196 3 Q 68 [(4, .int (nI e)), (0, .ref 154), (1, .int (Int32.ofInt 1)), (2, .int (Int32.ofInt 5)), (3, .int (Int8.ofInt 20).toInt32)] [] h') from ⟨pz_154 q1, fun _ => ?_, fun hz => absurd q3 hz⟩)
    exact am_goX 1 (show (none : Option FieldType) = none ∧ h'.2.2.2.2 = 175 ∧ _ from ⟨rfl, pz_175 q1, hQ (a + 1) h' (by omega) (Or.inl ⟨⟨_, _, q1⟩, pz_Fc l1.2.1 q2, q3⟩)⟩)
  refine am_goX 2 (show am_rc h1 154 11 ∧ 0 ≤ 8 ∧ h1.2.2.2.2 + am_al 198 ≤ 175 ∧ am_call am_cod 3 198 [.ref 154] h1 (fun vv h' => pz_S 5 none am_r196 3 Q 37 [(4, .int (nI e)), (0, .ref 154), (1, .int (Int32.ofInt 1)), (2, .int (Int32.ofInt 5)), (3, .int (Int8.ofInt 20).toInt32)] (vv.toList ++ []) h') from ⟨pz_rc hP1, by decide, pz_lim hP1 rfl, pz_isn hP1 (fun hf1 hlt1 => ?_) ?_⟩)
  rotate_left
  · refine am_goX 1 (show (¬ 0 = 0 → pz_S 5 none am_r196 3 Q 48 [(4, .int (nI e)), (0, .ref 154), (1, .int (Int32.ofInt 1)), (2, .int (Int32.ofInt 5)), (3, .int (Int8.ofInt 20).toInt32)] [] h1) ∧ (¬ ¬ 0 = 0 → pz_S 5 none am_r196 3 Q 40 [(4, .int (nI e)), (0, .ref 154), (1, .int (Int32.ofInt 1)), (2, .int (Int32.ofInt 5)), (3, .int (Int8.ofInt 20).toInt32)] [] h1) from ⟨fun hz => absurd hz (fun w => w rfl), fun _ => ?_⟩)
    refine am_goX 3 (show am_rc h1 154 11 ∧ 0 ≤ 8 ∧ h1.2.2.2.2 + am_al 197 ≤ 175 ∧ am_call am_cod 3 197 [.ref 154, .int (Int32.ofInt 1)] h1 (fun vv h' => pz_S 5 none am_r196 3 Q 45 [(4, .int (nI e)), (0, .ref 154), (1, .int (Int32.ofInt 1)), (2, .int (Int32.ofInt 5)), (3, .int (Int8.ofInt 20).toInt32)] (vv.toList ++ []) h') from ⟨pz_rc hP1, by decide, pz_lim hP1 rfl, am_call.up (pz_wrongF hP1 (by decide) (fun h' q1 q2 q3 => ?_)) (by decide)⟩)
    exact am_goX 1 (kf h' q1 q2 q3)
  refine am_goX 1 (show (¬ 1 = 0 → pz_S 5 none am_r196 3 Q 48 [(4, .int (nI e)), (0, .ref 154), (1, .int (Int32.ofInt 1)), (2, .int (Int32.ofInt 5)), (3, .int (Int8.ofInt 20).toInt32)] [] h1) ∧ (¬ ¬ 1 = 0 → pz_S 5 none am_r196 3 Q 40 [(4, .int (nI e)), (0, .ref 154), (1, .int (Int32.ofInt 1)), (2, .int (Int32.ofInt 5)), (3, .int (Int8.ofInt 20).toInt32)] [] h1) from ⟨fun _ => ?_, fun hz => absurd (by decide) hz⟩)
  refine am_goX 3 (show am_rc h1 154 11 ∧ 0 ≤ 8 ∧ h1.2.2.2.2 + am_al 200 ≤ 175 ∧ am_call am_cod 3 200 [.ref 154, .int (Int32.ofInt 1)] h1 (fun vv h' => pz_S 5 none am_r196 3 Q 53 [(4, .int (nI e)), (0, .ref 154), (1, .int (Int32.ofInt 1)), (2, .int (Int32.ofInt 5)), (3, .int (Int8.ofInt 20).toInt32)] (vv.toList ++ []) h') from ⟨pz_rc hP1, by decide, pz_lim hP1 rfl, am_call.up (pz_nm1 hP1 (fun r hr => ?_)) (by decide)⟩)
  refine am_goX 1 (show (r < 0 → pz_S 5 none am_r196 3 Q 61 [(4, .int (nI e)), (0, .ref 154), (1, .int (Int32.ofInt 1)), (2, .int (Int32.ofInt 5)), (3, .int (Int8.ofInt 20).toInt32)] [] h1) ∧ (¬ (r < 0) → pz_S 5 none am_r196 3 Q 56 [(4, .int (nI e)), (0, .ref 154), (1, .int (Int32.ofInt 1)), (2, .int (Int32.ofInt 5)), (3, .int (Int8.ofInt 20).toInt32)] [] h1) from ⟨fun hc => ?_, fun hc => ?_⟩)
  rotate_left
  · refine am_goX 3 (show am_rc h1 154 11 ∧ 0 ≤ 8 ∧ h1.2.2.2.2 + am_al 197 ≤ 175 ∧ am_call am_cod 3 197 [.ref 154, .int (Int32.ofInt 3)] h1 (fun vv h' => pz_S 5 none am_r196 3 Q 61 [(4, .int (nI e)), (0, .ref 154), (1, .int (Int32.ofInt 1)), (2, .int (Int32.ofInt 5)), (3, .int (Int8.ofInt 20).toInt32)] (vv.toList ++ []) h') from ⟨pz_rc hP1, by decide, pz_lim hP1 rfl, am_call.up (pz_wrongF hP1 (by decide) (fun h' q1 q2 q3 => ?_)) (by decide)⟩)
    exact kf h' q1 q2 q3
  clear hc
  refine am_goX 3 (show am_sh h1 154 = some (11, 0) ∧ (¬ (h1.1 154 8) = 0 → pz_S 5 none am_r196 3 Q 132 [(4, .int (nI e)), (0, .ref 154), (1, .int (Int32.ofInt 1)), (2, .int (Int32.ofInt 5)), (3, .int (Int8.ofInt 20).toInt32)] [] h1) ∧ (¬ ¬ (h1.1 154 8) = 0 → pz_S 5 none am_r196 3 Q 68 [(4, .int (nI e)), (0, .ref 154), (1, .int (Int32.ofInt 1)), (2, .int (Int32.ofInt 5)), (3, .int (Int8.ofInt 20).toInt32)] [] h1) from ⟨pz_154 hP1, fun hz => absurd hz (fun w => w hf1), fun _ => ?_⟩)
  refine am_goX 2 (show am_sh h1 154 = some (11, 0) ∧ pz_S 5 none am_r196 3 Q 72 [(4, .int (nI e)), (0, .ref 154), (1, .int (Int32.ofInt 1)), (2, .int (Int32.ofInt 5)), (3, .int (Int8.ofInt 20).toInt32)] [am_rf (h1.2.2.1 154 15)] h1 from ⟨pz_154 hP1, ?_⟩)
  rw [pz_r15 hP1]
  refine am_goX 4 (show am_sh h1 154 = some (11, 0) ∧ am_sh h1 154 = some (11, 0) ∧ pz_S 5 none am_r196 3 Q 80 [(4, .int (nI e)), (0, .ref 154), (1, .int (Int32.ofInt 1)), (2, .int (Int32.ofInt 5)), (3, .int (Int8.ofInt 20).toInt32)] [am_rf (h1.2.2.1 154 6), .int (h1.1 154 19), .ref 164] h1 from ⟨pz_154 hP1, pz_154 hP1, ?_⟩)
  rw [pz_r6 hP1]
  refine am_goX 3 (show am_sh h1 154 = some (11, 0) ∧ ∃ jj nn : Nat, am_sh h1 158 = some (14, nn) ∧ jj < nn ∧ (h1.1 154 7) = nI jj ∧ pz_S 5 none am_r196 3 Q 85 [(4, .int (nI e)), (0, .ref 154), (1, .int (Int32.ofInt 1)), (2, .int (Int32.ofInt 5)), (3, .int (Int8.ofInt 20).toInt32)] [.long (h1.2.1 158 jj), .int (h1.1 154 19), .ref 164] h1 from ⟨pz_154 hP1, (a + 1), 1002, pz_158 hP1, pz_al hP1, hP1.2.2.2.1, ?_⟩)
  refine am_goX 1 (show ∃ jj nn : Nat, am_so h1 164 = some (14, nn) ∧ jj < nn ∧ (h1.1 154 19) = nI jj ∧ pz_S 5 none am_r196 3 Q 86 [(4, .int (nI e)), (0, .ref 154), (1, .int (Int32.ofInt 1)), (2, .int (Int32.ofInt 5)), (3, .int (Int8.ofInt 20).toInt32)] [] (am_wL h1 164 jj ((h1.2.1 158 (a + 1)))) from ⟨(p + e), 11, pz_w164 hP1, by omega, l1.2.2.2.2.2.1, ?_⟩)
  have l2 := ln_wl (k := p + e) (v := h1.2.1 158 (a + 1)) l1 (pz_Mc10 (Or.inl rfl) (by omega))
  generalize am_wL h1 164 (p + e) (h1.2.1 158 (a + 1)) = h2 at l2 ⊢
  have hP2 := l2.1
  refine am_goX 2 (show am_sh h2 154 = some (11, 0) ∧ pz_S 5 none am_r196 3 Q 90 [(4, .int (nI e)), (0, .ref 154), (1, .int (Int32.ofInt 1)), (2, .int (Int32.ofInt 5)), (3, .int (Int8.ofInt 20).toInt32)] [am_rf (h2.2.2.1 154 17)] h2 from ⟨pz_154 hP2, ?_⟩)
  rw [pz_r17 hP2]
  refine am_goX 6 (show am_sh h2 154 = some (11, 0) ∧ ∃ jj nn : Nat, am_so h2 166 = some (13, nn) ∧ jj < nn ∧ (h2.1 154 19) = nI jj ∧ pz_S 5 none am_r196 3 Q 99 [(4, .int (nI e)), (0, .ref 154), (1, .int (Int32.ofInt 1)), (2, .int (Int32.ofInt 5)), (3, .int (Int8.ofInt 20).toInt32)] [] (am_wI h2 166 jj (((Int8.ofInt 20).toInt32 + (nI e)))) from ⟨pz_154 hP2, (p + e), 11, pz_w166 hP2, by omega, l2.2.2.2.2.2.1, ?_⟩)
  rw [show ((Int8.ofInt 20).toInt32 + nI e) = nI (20 + e) from nI_add 20 e]
  have l3 := ln_w (o := 166) (k := p + e) (v := nI (20 + e)) l2 (pz_Mc10 (Or.inr rfl) (by omega)) (by decide) (fun w => absurd w (by decide)) (pz_s166 (by omega))
  generalize am_wI h2 166 (p + e) (nI (20 + e)) = h3 at l3 ⊢
  have hP3 := l3.1
  refine am_goX 6 (show (Value.ref 154).category = 1 ∧ am_sh h3 154 = some (11, 0) ∧ am_sh h3 154 = some (11, 0) ∧ narrow (am_fty 11 19) (.int (((h3.1 154 19) + (Int32.ofInt 1)))) = .int (((h3.1 154 19) + (Int32.ofInt 1))) ∧ fits (am_fty 11 19) (.int (((h3.1 154 19) + (Int32.ofInt 1)))) = true ∧ pz_S 5 none am_r196 3 Q 109 [(4, .int (nI e)), (0, .ref 154), (1, .int (Int32.ofInt 1)), (2, .int (Int32.ofInt 5)), (3, .int (Int8.ofInt 20).toInt32)] [] (am_wI h3 154 19 (((h3.1 154 19) + (Int32.ofInt 1)))) from ⟨rfl, pz_154 hP3, pz_154 hP3, rfl, rfl, ?_⟩)
  rw [l3.2.2.2.2.2.1, xw_i1]
  have l4 := ln_19 l3 (by omega)
  generalize am_wI h3 154 19 (nI (p + e + 1)) = h4 at l4 ⊢
  have hP4 := l4.1
  refine am_goX 6 (show (Value.ref 154).category = 1 ∧ am_sh h4 154 = some (11, 0) ∧ am_sh h4 154 = some (11, 0) ∧ narrow (am_fty 11 7) (.int (((h4.1 154 7) + (Int32.ofInt 1)))) = .int (((h4.1 154 7) + (Int32.ofInt 1))) ∧ fits (am_fty 11 7) (.int (((h4.1 154 7) + (Int32.ofInt 1)))) = true ∧ pz_S 5 none am_r196 3 Q 119 [(4, .int (nI e)), (0, .ref 154), (1, .int (Int32.ofInt 1)), (2, .int (Int32.ofInt 5)), (3, .int (Int8.ofInt 20).toInt32)] [] (am_wI h4 154 7 (((h4.1 154 7) + (Int32.ofInt 1)))) from ⟨rfl, pz_154 hP4, pz_154 hP4, rfl, rfl, ?_⟩)
  rw [hP4.2.2.2.1, xw_i1]
  have l5 := ln_at (a' := a + 1 + 1) l4 (by omega)
  generalize am_wI h4 154 7 (nI (a + 1 + 1)) = h5 at l5 ⊢
  have hP5 := l5.1
  refine am_goX 2 (show am_sh h5 154 = some (11, 0) ∧ pz_S 5 none am_r196 3 Q 123 [(4, .int (nI e)), (0, .ref 154), (1, .int (Int32.ofInt 1)), (2, .int (Int32.ofInt 5)), (3, .int (Int8.ofInt 20).toInt32)] [am_rf (h5.2.2.1 154 10)] h5 from ⟨pz_154 hP5, ?_⟩)
  rw [pz_r10 hP5]
  refine am_goX 5 (show (Value.int ((Int8.ofInt 40).toInt32 + (Int32.ofInt 1))).category = 1 ∧ (Value.ref 160).category = 1 ∧ ∃ jj nn : Nat, am_sh h5 160 = some (13, nn) ∧ jj < nn ∧ ((Int8.ofInt 40).toInt32 + (Int32.ofInt 1)) = nI jj ∧ pz_S 5 none am_r196 3 Q 129 [(4, .int (nI e)), (0, .ref 154), (1, .int (Int32.ofInt 1)), (2, .int (Int32.ofInt 5)), (3, .int (Int8.ofInt 20).toInt32)] [.int (h5.1 160 jj), .int ((Int8.ofInt 40).toInt32 + (Int32.ofInt 1)), .ref 160] h5 from ⟨rfl, rfl, 41, 80, pz_160 hP5, by decide, by decide, ?_⟩)
  rw [l5.2.2.2.2.1]
  refine am_goX 3 (show ∃ jj nn : Nat, am_so h5 160 = some (13, nn) ∧ jj < nn ∧ ((Int8.ofInt 40).toInt32 + (Int32.ofInt 1)) = nI jj ∧ pz_S 5 none am_r196 3 Q 132 [(4, .int (nI e)), (0, .ref 154), (1, .int (Int32.ofInt 1)), (2, .int (Int32.ofInt 5)), (3, .int (Int8.ofInt 20).toInt32)] [] (am_wI h5 160 jj (((nI e) + (Int32.ofInt 1)))) from ⟨41, 80, pz_w160 hP5, by decide, by decide, ?_⟩)
  rw [xw_i1]
  have l6 := ln_41 l5 (by omega)
  generalize am_wI h5 160 41 (nI (e + 1)) = h6 at l6 ⊢
  have hP6 := l6.1
  exact am_goX 1 (show (none : Option FieldType) = none ∧ h6.2.2.2.2 = 175 ∧ _ from ⟨rfl, pz_175 hP6, hQ (a + 1 + 1) h6 (by omega) (Or.inr ⟨by rw [show p + (e + 1) = p + e + 1 by omega]; exact l6, hs1⟩)⟩)
theorem pz_snl {Q : am_Q} (hQ : ∀ a' h', a ≤ a' → fl N h0 h' ∨ ln N a' c h0 p e z h' → Q none h') : ∀ (m a1 n : Nat) (v : Int32) (h1 : am_H), n + m = 8 → a ≤ a1 → ln N a1 c h0 p e z h1 → pz_S 3 none am_r209 2 Q 2 [(1, .int (nI n)), (2, .int v), (0, .ref 154)] [] h1 := by
  intro m
  induction m with
  | zero =>
    intro a1 n v0 h1 hn haa l1
    have hP1 := l1.1
    have hf1 := l1.2.2.1
    refine am_goX 3 (show am_sh h1 154 = some (11, 0) ∧ (¬ (h1.1 154 8) = 0 → pz_S 3 none am_r209 2 Q 125 [(1, .int (nI n)), (2, .int v0), (0, .ref 154)] [] h1) ∧ (¬ ¬ (h1.1 154 8) = 0 → pz_S 3 none am_r209 2 Q 9 [(1, .int (nI n)), (2, .int v0), (0, .ref 154)] [] h1) from ⟨pz_154 hP1, fun hz => absurd hz (fun w => w hf1), fun _ => ?_⟩)
    have k26 : pz_S 3 none am_r209 2 Q 26 [(1, .int (nI n)), (2, .int v0), (0, .ref 154)] [] h1 := ?_
    rotate_left
    · refine am_goX 4 (show am_rc h1 154 11 ∧ 0 ≤ 8 ∧ h1.2.2.2.2 + am_al 205 ≤ 175 ∧ am_call am_cod 2 205 [.ref 154, .int (Int32.ofInt 0), .int (Int8.ofInt 27).toInt32] h1 (fun vv h' => pz_S 3 none am_r209 2 Q 33 [(1, .int (nI n)), (2, .int v0), (0, .ref 154)] (vv.toList ++ []) h') from ⟨pz_rc hP1, by decide, pz_lim hP1 rfl, pz_tnum hP1 (fun a2 h2 v q => ?_)⟩)
      have kf : ∀ h', fl N h0 h' → pz_S 3 none am_r209 2 Q 89 [(2, .int v), (1, .int (nI n)), (0, .ref 154)] [] h' := ?_
      rotate_left
      · intro h' q1
        obtain ⟨⟨a', c', q4⟩, q2, q3⟩ := id q1
        refine am_goX 3 (show am_sh h' 154 = some (11, 0) ∧ (¬ (h'.1 154 8) = 0 → pz_S 3 none am_r209 2 Q 122 [(2, .int v), (1, .int (nI n)), (0, .ref 154)] [] h') ∧ (¬ ¬ (h'.1 154 8) = 0 → pz_S 3 none am_r209 2 Q 96 [(2, .int v), (1, .int (nI n)), (0, .ref 154)] [] h') from ⟨pz_154 q4, fun _ => ?_, fun hz => absurd q3 hz⟩)
        refine am_goX 4 (show am_sh h' 154 = some (11, 0) ∧ (¬ (h'.1 154 8) = 0 → pz_S 3 none am_r209 2 Q 125 [(2, .int v), (1, .int (nI n)), (0, .ref 154)] [] h') ∧ (¬ ¬ (h'.1 154 8) = 0 → pz_S 3 none am_r209 2 Q 9 [(2, .int v), (1, .int (nI n)), (0, .ref 154)] [] h') from ⟨pz_154 q4, fun _ => ?_, fun hz => absurd q3 hz⟩)
        exact am_goX 1 (show (none : Option FieldType) = none ∧ h'.2.2.2.2 = 175 ∧ _ from ⟨rfl, pz_175 q4, hQ a h' (Nat.le_refl _) (Or.inl q1)⟩)
      rcases q with ⟨w1, w2, ⟨w3, w4⟩ | ⟨w3, w5, w4⟩⟩
      · have hfl : fl N h0 h2 := ⟨⟨_, _, w1⟩, pz_Fc l1.2.1 w2, w3⟩
        refine am_goX 7 (show 2 < 3 ∧ (Value.ref 154).category = 1 ∧ am_sh h2 154 = some (11, 0) ∧ am_sh h2 154 = some (11, 0) ∧ ((h2.1 154 8) ≤ 0 → pz_S 3 none am_r209 2 Q 50 [(2, .int v), (1, .int (nI n)), (0, .ref 154)] [.int (h2.1 154 7), .ref 154] h2) ∧ (¬ ((h2.1 154 8) ≤ 0) → pz_S 3 none am_r209 2 Q 46 [(2, .int v), (1, .int (nI n)), (0, .ref 154)] [.int (h2.1 154 7), .ref 154] h2) from ⟨by decide, rfl, pz_154 w1, pz_154 w1, fun hz => absurd hz (fun w => w3 (pz_eq0 w1 w)), fun _ => ?_⟩)
        refine am_goX 4 (show am_sh h2 154 = some (11, 0) ∧ narrow (am_fty 11 7) (.int (((h2.1 154 7) - (Int32.ofInt 0)))) = .int (((h2.1 154 7) - (Int32.ofInt 0))) ∧ fits (am_fty 11 7) (.int (((h2.1 154 7) - (Int32.ofInt 0)))) = true ∧ pz_S 3 none am_r209 2 Q 55 [(2, .int v), (1, .int (nI n)), (0, .ref 154)] [] (am_wI h2 154 7 (((h2.1 154 7) - (Int32.ofInt 0)))) from ⟨pz_154 w1, rfl, rfl, ?_⟩)
        rw [pz_same (show h2.1 154 7 = h2.1 154 7 - Int32.ofInt 0 from (by rw [show (Int32.ofInt 0 : Int32) = 0 from rfl, Int32.sub_zero]))]
        refine am_goX 2 (show am_sh h2 154 = some (11, 0) ∧ pz_S 3 none am_r209 2 Q 59 [(2, .int v), (1, .int (nI n)), (0, .ref 154)] [am_rf (h2.2.2.1 154 10)] h2 from ⟨pz_154 w1, ?_⟩)
        rw [pz_r10 w1]
        refine am_goX 2 (show ∃ jj nn : Nat, am_sh h2 160 = some (13, nn) ∧ jj < nn ∧ (Int8.ofInt 42).toInt32 = nI jj ∧ pz_S 3 none am_r209 2 Q 62 [(2, .int v), (1, .int (nI n)), (0, .ref 154)] [.int (h2.1 160 jj)] h2 from ⟨42, 80, pz_160 w1, by decide, by decide, ?_⟩)
        refine am_goX 6 (show (¬ (((h2.1 160 42) >>> (v &&& 31)) &&& (Int32.ofInt 1)) = (Int32.ofInt 1) → pz_S 3 none am_r209 2 Q 78 [(2, .int v), (1, .int (nI n)), (0, .ref 154)] [] h2) ∧ (¬ ¬ (((h2.1 160 42) >>> (v &&& 31)) &&& (Int32.ofInt 1)) = (Int32.ofInt 1) → pz_S 3 none am_r209 2 Q 70 [(2, .int v), (1, .int (nI n)), (0, .ref 154)] [] h2) from ⟨fun hc => ?_, fun hc => ?_⟩)
        · refine am_goX 3 (show (¬ (nI n) = (Int8.ofInt 8).toInt32 → pz_S 3 none am_r209 2 Q 89 [(2, .int v), (1, .int (nI n)), (0, .ref 154)] [] h2) ∧ (¬ ¬ (nI n) = (Int8.ofInt 8).toInt32 → pz_S 3 none am_r209 2 Q 84 [(2, .int v), (1, .int (nI n)), (0, .ref 154)] [] h2) from ⟨fun hc => ?_, fun hc => ?_⟩)
          · exact kf h2 hfl
          · refine am_goX 3 (show am_rc h2 154 11 ∧ 0 ≤ 8 ∧ h2.2.2.2.2 + am_al 197 ≤ 175 ∧ am_call am_cod 2 197 [.ref 154, .int (Int32.ofInt 5)] h2 (fun vv h' => pz_S 3 none am_r209 2 Q 89 [(2, .int v), (1, .int (nI n)), (0, .ref 154)] (vv.toList ++ []) h') from ⟨pz_rc w1, by decide, pz_lim w1 rfl, am_call.up (pz_wrongF w1 (by decide) (fun h' q1 q2 q3 => ?_)) (by decide)⟩)
            exact kf h' ⟨⟨_, _, q1⟩, pz_Fc hfl.2.1 q2, q3⟩
        · refine am_goX 3 (show am_rc h2 154 11 ∧ 0 ≤ 8 ∧ h2.2.2.2.2 + am_al 197 ≤ 175 ∧ am_call am_cod 2 197 [.ref 154, .int (Int32.ofInt 3)] h2 (fun vv h' => pz_S 3 none am_r209 2 Q 75 [(2, .int v), (1, .int (nI n)), (0, .ref 154)] (vv.toList ++ []) h') from ⟨pz_rc w1, by decide, pz_lim w1 rfl, am_call.up (pz_wrongF w1 (by decide) (fun h' q1 q2 q3 => ?_)) (by decide)⟩)
          exact am_goX 1 (kf h' ⟨⟨_, _, q1⟩, pz_Fc hfl.2.1 q2, q3⟩)
      · have l2 : ln N a2 c h0 p e z h2 := (ln_F l1 (pk_q ⟨w1, w2, Or.inr ⟨w3, w5, w4⟩⟩)).resolve_left (fun w => w.2.2 w3)
        have w6 : a2 ≤ N := w1.2.2.2.2.1
        refine am_goX 7 (show 2 < 3 ∧ (Value.ref 154).category = 1 ∧ am_sh h2 154 = some (11, 0) ∧ am_sh h2 154 = some (11, 0) ∧ ((h2.1 154 8) ≤ 0 → pz_S 3 none am_r209 2 Q 50 [(2, .int v), (1, .int (nI n)), (0, .ref 154)] [.int (h2.1 154 7), .ref 154] h2) ∧ (¬ ((h2.1 154 8) ≤ 0) → pz_S 3 none am_r209 2 Q 46 [(2, .int v), (1, .int (nI n)), (0, .ref 154)] [.int (h2.1 154 7), .ref 154] h2) from ⟨by decide, rfl, pz_154 w1, pz_154 w1, fun _ => ?_, fun hz => absurd (by rw [w3]; decide) hz⟩)
        refine am_goX 3 (show am_sh h2 154 = some (11, 0) ∧ narrow (am_fty 11 7) (.int (((h2.1 154 7) - (Int32.ofInt 1)))) = .int (((h2.1 154 7) - (Int32.ofInt 1))) ∧ fits (am_fty 11 7) (.int (((h2.1 154 7) - (Int32.ofInt 1)))) = true ∧ pz_S 3 none am_r209 2 Q 55 [(2, .int v), (1, .int (nI n)), (0, .ref 154)] [] (am_wI h2 154 7 (((h2.1 154 7) - (Int32.ofInt 1)))) from ⟨pz_154 w1, rfl, rfl, ?_⟩)
        rw [w1.2.2.2.1, w4, show nI (a1 + 1) - Int32.ofInt 1 = nI a1 from nI_pred a1]
        have l3 := ln_at (a' := a1) l2 (by omega)
        generalize am_wI h2 154 7 (nI a1) = h3 at l3 ⊢
        have hP3 := l3.1
        refine am_goX 2 (show am_sh h3 154 = some (11, 0) ∧ pz_S 3 none am_r209 2 Q 59 [(2, .int v), (1, .int (nI n)), (0, .ref 154)] [am_rf (h3.2.2.1 154 10)] h3 from ⟨pz_154 hP3, ?_⟩)
        rw [pz_r10 hP3]
        refine am_goX 2 (show ∃ jj nn : Nat, am_sh h3 160 = some (13, nn) ∧ jj < nn ∧ (Int8.ofInt 42).toInt32 = nI jj ∧ pz_S 3 none am_r209 2 Q 62 [(2, .int v), (1, .int (nI n)), (0, .ref 154)] [.int (h3.1 160 jj)] h3 from ⟨42, 80, pz_160 hP3, by decide, by decide, ?_⟩)
        refine am_goX 6 (show (¬ (((h3.1 160 42) >>> (v &&& 31)) &&& (Int32.ofInt 1)) = (Int32.ofInt 1) → pz_S 3 none am_r209 2 Q 78 [(2, .int v), (1, .int (nI n)), (0, .ref 154)] [] h3) ∧ (¬ ¬ (((h3.1 160 42) >>> (v &&& 31)) &&& (Int32.ofInt 1)) = (Int32.ofInt 1) → pz_S 3 none am_r209 2 Q 70 [(2, .int v), (1, .int (nI n)), (0, .ref 154)] [] h3) from ⟨fun hc => ?_, fun hc => ?_⟩)
        rotate_left
        · refine am_goX 3 (show am_rc h3 154 11 ∧ 0 ≤ 8 ∧ h3.2.2.2.2 + am_al 197 ≤ 175 ∧ am_call am_cod 2 197 [.ref 154, .int (Int32.ofInt 3)] h3 (fun vv h' => pz_S 3 none am_r209 2 Q 75 [(2, .int v), (1, .int (nI n)), (0, .ref 154)] (vv.toList ++ []) h') from ⟨pz_rc hP3, by decide, pz_lim hP3 rfl, am_call.up (pz_wrongF hP3 (by decide) (fun h' q1 q2 q3 => ?_)) (by decide)⟩)
          exact am_goX 1 (kf h' ⟨⟨_, _, q1⟩, pz_Fc l3.2.1 q2, q3⟩)
        clear hc
        refine am_goX 3 (show (¬ (nI n) = (Int8.ofInt 8).toInt32 → pz_S 3 none am_r209 2 Q 89 [(2, .int v), (1, .int (nI n)), (0, .ref 154)] [] h3) ∧ (¬ ¬ (nI n) = (Int8.ofInt 8).toInt32 → pz_S 3 none am_r209 2 Q 84 [(2, .int v), (1, .int (nI n)), (0, .ref 154)] [] h3) from ⟨fun hc => ?_, fun hc => ?_⟩)
        rotate_left
        · refine am_goX 3 (show am_rc h3 154 11 ∧ 0 ≤ 8 ∧ h3.2.2.2.2 + am_al 197 ≤ 175 ∧ am_call am_cod 2 197 [.ref 154, .int (Int32.ofInt 5)] h3 (fun vv h' => pz_S 3 none am_r209 2 Q 89 [(2, .int v), (1, .int (nI n)), (0, .ref 154)] (vv.toList ++ []) h') from ⟨pz_rc hP3, by decide, pz_lim hP3 rfl, am_call.up (pz_wrongF hP3 (by decide) (fun h' q1 q2 q3 => ?_)) (by decide)⟩)
          exact kf h' ⟨⟨_, _, q1⟩, pz_Fc l3.2.1 q2, q3⟩
        have hn8 : ¬ n = 8 := fun w => hc (by rw [w]; rfl)
        clear hc
        refine am_goX 3 (show am_sh h3 154 = some (11, 0) ∧ (¬ (h3.1 154 8) = 0 → pz_S 3 none am_r209 2 Q 122 [(2, .int v), (1, .int (nI n)), (0, .ref 154)] [] h3) ∧ (¬ ¬ (h3.1 154 8) = 0 → pz_S 3 none am_r209 2 Q 96 [(2, .int v), (1, .int (nI n)), (0, .ref 154)] [] h3) from ⟨pz_154 hP3, fun hz => absurd hz (fun w => w l3.2.2.1), fun _ => ?_⟩)
        refine am_goX 2 (show am_sh h3 154 = some (11, 0) ∧ pz_S 3 none am_r209 2 Q 100 [(2, .int v), (1, .int (nI n)), (0, .ref 154)] [am_rf (h3.2.2.1 154 10)] h3 from ⟨pz_154 hP3, ?_⟩)
        rw [pz_r10 hP3]
        refine am_goX 3 (show (Value.int (Int8.ofInt 42).toInt32).category = 1 ∧ (Value.ref 160).category = 1 ∧ ∃ jj nn : Nat, am_sh h3 160 = some (13, nn) ∧ jj < nn ∧ (Int8.ofInt 42).toInt32 = nI jj ∧ pz_S 3 none am_r209 2 Q 104 [(2, .int v), (1, .int (nI n)), (0, .ref 154)] [.int (h3.1 160 jj), .int (Int8.ofInt 42).toInt32, .ref 160] h3 from ⟨rfl, rfl, 42, 80, pz_160 hP3, by decide, by decide, ?_⟩)
        refine am_goX 5 (show ∃ jj nn : Nat, am_so h3 160 = some (13, nn) ∧ jj < nn ∧ (Int8.ofInt 42).toInt32 = nI jj ∧ pz_S 3 none am_r209 2 Q 109 [(2, .int v), (1, .int (nI n)), (0, .ref 154)] [] (am_wI h3 160 jj (((h3.1 160 42) ||| ((Int32.ofInt 1) <<< (v &&& 31))))) from ⟨42, 80, pz_w160 hP3, by decide, by decide, ?_⟩)
        generalize ((h3.1 160 42) ||| ((Int32.ofInt 1) <<< (v &&& 31))) = vv
        have l4 := ln_w (o := 160) (k := 42) (v := vv) l3 rfl (by decide) (fun _ => Or.inl rfl) (pz_s160 (Or.inl rfl))
        generalize am_wI h3 160 42 vv = h4 at l4 ⊢
        have hP4 := l4.1
        refine am_goX 6 (show (Value.ref 154).category = 1 ∧ am_sh h4 154 = some (11, 0) ∧ am_sh h4 154 = some (11, 0) ∧ narrow (am_fty 11 7) (.int (((h4.1 154 7) + (Int32.ofInt 1)))) = .int (((h4.1 154 7) + (Int32.ofInt 1))) ∧ fits (am_fty 11 7) (.int (((h4.1 154 7) + (Int32.ofInt 1)))) = true ∧ pz_S 3 none am_r209 2 Q 119 [(2, .int v), (1, .int (nI n)), (0, .ref 154)] [] (am_wI h4 154 7 (((h4.1 154 7) + (Int32.ofInt 1)))) from ⟨rfl, pz_154 hP4, pz_154 hP4, rfl, rfl, ?_⟩)
        rw [hP4.2.2.2.1, xw_i1]
        have l5 := ln_at (a' := a1 + 1) l4 (by omega)
        generalize am_wI h4 154 7 (nI (a1 + 1)) = h5 at l5 ⊢
        have hP5 := l5.1
        refine am_goX 2 (show 1 < 3 ∧ pz_S 3 none am_r209 2 Q 2 [(1, .int ((nI n) + Int32.ofInt 1)), (2, .int v), (0, .ref 154)] [] h5 from ⟨by decide, ?_⟩)
        rw [xw_i1]
        exact absurd hn8 (by omega)
    refine am_goX 2 (show ((nI n) = 0 → pz_S 3 none am_r209 2 Q 26 [(1, .int (nI n)), (2, .int v0), (0, .ref 154)] [] h1) ∧ (¬ ((nI n) = 0) → pz_S 3 none am_r209 2 Q 13 [(1, .int (nI n)), (2, .int v0), (0, .ref 154)] [] h1) from ⟨fun hc => ?_, fun hc => ?_⟩)
    · exact k26
    · refine am_goX 2 (show am_sh h1 154 = some (11, 0) ∧ pz_S 3 none am_r209 2 Q 17 [(1, .int (nI n)), (2, .int v0), (0, .ref 154)] [am_rf (h1.2.2.1 154 4)] h1 from ⟨pz_154 hP1, ?_⟩)
      rw [pz_r4 hP1]
      refine am_goX 3 (show am_sh h1 154 = some (11, 0) ∧ ∃ jj nn : Nat, am_sh h1 156 = some (13, nn) ∧ jj < nn ∧ (h1.1 154 7) = nI jj ∧ pz_S 3 none am_r209 2 Q 22 [(1, .int (nI n)), (2, .int v0), (0, .ref 154)] [.int (h1.1 156 jj)] h1 from ⟨pz_154 hP1, a1, 1002, pz_156 hP1, pz_al hP1, hP1.2.2.2.1, ?_⟩)
      refine am_goX 2 (show (¬ (h1.1 156 a1) = (Int32.ofInt 2) → pz_S 3 none am_r209 2 Q 125 [(1, .int (nI n)), (2, .int v0), (0, .ref 154)] [] h1) ∧ (¬ ¬ (h1.1 156 a1) = (Int32.ofInt 2) → pz_S 3 none am_r209 2 Q 26 [(1, .int (nI n)), (2, .int v0), (0, .ref 154)] [] h1) from ⟨fun hc => ?_, fun hc => ?_⟩)
      · exact am_goX 1 (show (none : Option FieldType) = none ∧ h1.2.2.2.2 = 175 ∧ _ from ⟨rfl, pz_175 hP1, hQ a1 h1 haa (Or.inr l1)⟩)
      · exact k26
  | succ m ih =>
    intro a1 n v0 h1 hn haa l1
    have hP1 := l1.1
    have hf1 := l1.2.2.1
    refine am_goX 3 (show am_sh h1 154 = some (11, 0) ∧ (¬ (h1.1 154 8) = 0 → pz_S 3 none am_r209 2 Q 125 [(1, .int (nI n)), (2, .int v0), (0, .ref 154)] [] h1) ∧ (¬ ¬ (h1.1 154 8) = 0 → pz_S 3 none am_r209 2 Q 9 [(1, .int (nI n)), (2, .int v0), (0, .ref 154)] [] h1) from ⟨pz_154 hP1, fun hz => absurd hz (fun w => w hf1), fun _ => ?_⟩)
    have k26 : pz_S 3 none am_r209 2 Q 26 [(1, .int (nI n)), (2, .int v0), (0, .ref 154)] [] h1 := ?_
    rotate_left
    · refine am_goX 4 (show am_rc h1 154 11 ∧ 0 ≤ 8 ∧ h1.2.2.2.2 + am_al 205 ≤ 175 ∧ am_call am_cod 2 205 [.ref 154, .int (Int32.ofInt 0), .int (Int8.ofInt 27).toInt32] h1 (fun vv h' => pz_S 3 none am_r209 2 Q 33 [(1, .int (nI n)), (2, .int v0), (0, .ref 154)] (vv.toList ++ []) h') from ⟨pz_rc hP1, by decide, pz_lim hP1 rfl, pz_tnum hP1 (fun a2 h2 v q => ?_)⟩)
      have kf : ∀ h', fl N h0 h' → pz_S 3 none am_r209 2 Q 89 [(2, .int v), (1, .int (nI n)), (0, .ref 154)] [] h' := ?_
      rotate_left
      · intro h' q1
        obtain ⟨⟨a', c', q4⟩, q2, q3⟩ := id q1
        refine am_goX 3 (show am_sh h' 154 = some (11, 0) ∧ (¬ (h'.1 154 8) = 0 → pz_S 3 none am_r209 2 Q 122 [(2, .int v), (1, .int (nI n)), (0, .ref 154)] [] h') ∧ (¬ ¬ (h'.1 154 8) = 0 → pz_S 3 none am_r209 2 Q 96 [(2, .int v), (1, .int (nI n)), (0, .ref 154)] [] h') from ⟨pz_154 q4, fun _ => ?_, fun hz => absurd q3 hz⟩)
        refine am_goX 4 (show am_sh h' 154 = some (11, 0) ∧ (¬ (h'.1 154 8) = 0 → pz_S 3 none am_r209 2 Q 125 [(2, .int v), (1, .int (nI n)), (0, .ref 154)] [] h') ∧ (¬ ¬ (h'.1 154 8) = 0 → pz_S 3 none am_r209 2 Q 9 [(2, .int v), (1, .int (nI n)), (0, .ref 154)] [] h') from ⟨pz_154 q4, fun _ => ?_, fun hz => absurd q3 hz⟩)
        exact am_goX 1 (show (none : Option FieldType) = none ∧ h'.2.2.2.2 = 175 ∧ _ from ⟨rfl, pz_175 q4, hQ a h' (Nat.le_refl _) (Or.inl q1)⟩)
      rcases q with ⟨w1, w2, ⟨w3, w4⟩ | ⟨w3, w5, w4⟩⟩
      · have hfl : fl N h0 h2 := ⟨⟨_, _, w1⟩, pz_Fc l1.2.1 w2, w3⟩
        refine am_goX 7 (show 2 < 3 ∧ (Value.ref 154).category = 1 ∧ am_sh h2 154 = some (11, 0) ∧ am_sh h2 154 = some (11, 0) ∧ ((h2.1 154 8) ≤ 0 → pz_S 3 none am_r209 2 Q 50 [(2, .int v), (1, .int (nI n)), (0, .ref 154)] [.int (h2.1 154 7), .ref 154] h2) ∧ (¬ ((h2.1 154 8) ≤ 0) → pz_S 3 none am_r209 2 Q 46 [(2, .int v), (1, .int (nI n)), (0, .ref 154)] [.int (h2.1 154 7), .ref 154] h2) from ⟨by decide, rfl, pz_154 w1, pz_154 w1, fun hz => absurd hz (fun w => w3 (pz_eq0 w1 w)), fun _ => ?_⟩)
        refine am_goX 4 (show am_sh h2 154 = some (11, 0) ∧ narrow (am_fty 11 7) (.int (((h2.1 154 7) - (Int32.ofInt 0)))) = .int (((h2.1 154 7) - (Int32.ofInt 0))) ∧ fits (am_fty 11 7) (.int (((h2.1 154 7) - (Int32.ofInt 0)))) = true ∧ pz_S 3 none am_r209 2 Q 55 [(2, .int v), (1, .int (nI n)), (0, .ref 154)] [] (am_wI h2 154 7 (((h2.1 154 7) - (Int32.ofInt 0)))) from ⟨pz_154 w1, rfl, rfl, ?_⟩)
        rw [pz_same (show h2.1 154 7 = h2.1 154 7 - Int32.ofInt 0 from (by rw [show (Int32.ofInt 0 : Int32) = 0 from rfl, Int32.sub_zero]))]
        refine am_goX 2 (show am_sh h2 154 = some (11, 0) ∧ pz_S 3 none am_r209 2 Q 59 [(2, .int v), (1, .int (nI n)), (0, .ref 154)] [am_rf (h2.2.2.1 154 10)] h2 from ⟨pz_154 w1, ?_⟩)
        rw [pz_r10 w1]
        refine am_goX 2 (show ∃ jj nn : Nat, am_sh h2 160 = some (13, nn) ∧ jj < nn ∧ (Int8.ofInt 42).toInt32 = nI jj ∧ pz_S 3 none am_r209 2 Q 62 [(2, .int v), (1, .int (nI n)), (0, .ref 154)] [.int (h2.1 160 jj)] h2 from ⟨42, 80, pz_160 w1, by decide, by decide, ?_⟩)
        refine am_goX 6 (show (¬ (((h2.1 160 42) >>> (v &&& 31)) &&& (Int32.ofInt 1)) = (Int32.ofInt 1) → pz_S 3 none am_r209 2 Q 78 [(2, .int v), (1, .int (nI n)), (0, .ref 154)] [] h2) ∧ (¬ ¬ (((h2.1 160 42) >>> (v &&& 31)) &&& (Int32.ofInt 1)) = (Int32.ofInt 1) → pz_S 3 none am_r209 2 Q 70 [(2, .int v), (1, .int (nI n)), (0, .ref 154)] [] h2) from ⟨fun hc => ?_, fun hc => ?_⟩)
        · refine am_goX 3 (show (¬ (nI n) = (Int8.ofInt 8).toInt32 → pz_S 3 none am_r209 2 Q 89 [(2, .int v), (1, .int (nI n)), (0, .ref 154)] [] h2) ∧ (¬ ¬ (nI n) = (Int8.ofInt 8).toInt32 → pz_S 3 none am_r209 2 Q 84 [(2, .int v), (1, .int (nI n)), (0, .ref 154)] [] h2) from ⟨fun hc => ?_, fun hc => ?_⟩)
          · exact kf h2 hfl
          · refine am_goX 3 (show am_rc h2 154 11 ∧ 0 ≤ 8 ∧ h2.2.2.2.2 + am_al 197 ≤ 175 ∧ am_call am_cod 2 197 [.ref 154, .int (Int32.ofInt 5)] h2 (fun vv h' => pz_S 3 none am_r209 2 Q 89 [(2, .int v), (1, .int (nI n)), (0, .ref 154)] (vv.toList ++ []) h') from ⟨pz_rc w1, by decide, pz_lim w1 rfl, am_call.up (pz_wrongF w1 (by decide) (fun h' q1 q2 q3 => ?_)) (by decide)⟩)
            exact kf h' ⟨⟨_, _, q1⟩, pz_Fc hfl.2.1 q2, q3⟩
        · refine am_goX 3 (show am_rc h2 154 11 ∧ 0 ≤ 8 ∧ h2.2.2.2.2 + am_al 197 ≤ 175 ∧ am_call am_cod 2 197 [.ref 154, .int (Int32.ofInt 3)] h2 (fun vv h' => pz_S 3 none am_r209 2 Q 75 [(2, .int v), (1, .int (nI n)), (0, .ref 154)] (vv.toList ++ []) h') from ⟨pz_rc w1, by decide, pz_lim w1 rfl, am_call.up (pz_wrongF w1 (by decide) (fun h' q1 q2 q3 => ?_)) (by decide)⟩)
          exact am_goX 1 (kf h' ⟨⟨_, _, q1⟩, pz_Fc hfl.2.1 q2, q3⟩)
      · have l2 : ln N a2 c h0 p e z h2 := (ln_F l1 (pk_q ⟨w1, w2, Or.inr ⟨w3, w5, w4⟩⟩)).resolve_left (fun w => w.2.2 w3)
        have w6 : a2 ≤ N := w1.2.2.2.2.1
        refine am_goX 7 (show 2 < 3 ∧ (Value.ref 154).category = 1 ∧ am_sh h2 154 = some (11, 0) ∧ am_sh h2 154 = some (11, 0) ∧ ((h2.1 154 8) ≤ 0 → pz_S 3 none am_r209 2 Q 50 [(2, .int v), (1, .int (nI n)), (0, .ref 154)] [.int (h2.1 154 7), .ref 154] h2) ∧ (¬ ((h2.1 154 8) ≤ 0) → pz_S 3 none am_r209 2 Q 46 [(2, .int v), (1, .int (nI n)), (0, .ref 154)] [.int (h2.1 154 7), .ref 154] h2) from ⟨by decide, rfl, pz_154 w1, pz_154 w1, fun _ => ?_, fun hz => absurd (by rw [w3]; decide) hz⟩)
        refine am_goX 3 (show am_sh h2 154 = some (11, 0) ∧ narrow (am_fty 11 7) (.int (((h2.1 154 7) - (Int32.ofInt 1)))) = .int (((h2.1 154 7) - (Int32.ofInt 1))) ∧ fits (am_fty 11 7) (.int (((h2.1 154 7) - (Int32.ofInt 1)))) = true ∧ pz_S 3 none am_r209 2 Q 55 [(2, .int v), (1, .int (nI n)), (0, .ref 154)] [] (am_wI h2 154 7 (((h2.1 154 7) - (Int32.ofInt 1)))) from ⟨pz_154 w1, rfl, rfl, ?_⟩)
        rw [w1.2.2.2.1, w4, show nI (a1 + 1) - Int32.ofInt 1 = nI a1 from nI_pred a1]
        have l3 := ln_at (a' := a1) l2 (by omega)
        generalize am_wI h2 154 7 (nI a1) = h3 at l3 ⊢
        have hP3 := l3.1
        refine am_goX 2 (show am_sh h3 154 = some (11, 0) ∧ pz_S 3 none am_r209 2 Q 59 [(2, .int v), (1, .int (nI n)), (0, .ref 154)] [am_rf (h3.2.2.1 154 10)] h3 from ⟨pz_154 hP3, ?_⟩)
        rw [pz_r10 hP3]
        refine am_goX 2 (show ∃ jj nn : Nat, am_sh h3 160 = some (13, nn) ∧ jj < nn ∧ (Int8.ofInt 42).toInt32 = nI jj ∧ pz_S 3 none am_r209 2 Q 62 [(2, .int v), (1, .int (nI n)), (0, .ref 154)] [.int (h3.1 160 jj)] h3 from ⟨42, 80, pz_160 hP3, by decide, by decide, ?_⟩)
        refine am_goX 6 (show (¬ (((h3.1 160 42) >>> (v &&& 31)) &&& (Int32.ofInt 1)) = (Int32.ofInt 1) → pz_S 3 none am_r209 2 Q 78 [(2, .int v), (1, .int (nI n)), (0, .ref 154)] [] h3) ∧ (¬ ¬ (((h3.1 160 42) >>> (v &&& 31)) &&& (Int32.ofInt 1)) = (Int32.ofInt 1) → pz_S 3 none am_r209 2 Q 70 [(2, .int v), (1, .int (nI n)), (0, .ref 154)] [] h3) from ⟨fun hc => ?_, fun hc => ?_⟩)
        rotate_left
        · refine am_goX 3 (show am_rc h3 154 11 ∧ 0 ≤ 8 ∧ h3.2.2.2.2 + am_al 197 ≤ 175 ∧ am_call am_cod 2 197 [.ref 154, .int (Int32.ofInt 3)] h3 (fun vv h' => pz_S 3 none am_r209 2 Q 75 [(2, .int v), (1, .int (nI n)), (0, .ref 154)] (vv.toList ++ []) h') from ⟨pz_rc hP3, by decide, pz_lim hP3 rfl, am_call.up (pz_wrongF hP3 (by decide) (fun h' q1 q2 q3 => ?_)) (by decide)⟩)
          exact am_goX 1 (kf h' ⟨⟨_, _, q1⟩, pz_Fc l3.2.1 q2, q3⟩)
        clear hc
        refine am_goX 3 (show (¬ (nI n) = (Int8.ofInt 8).toInt32 → pz_S 3 none am_r209 2 Q 89 [(2, .int v), (1, .int (nI n)), (0, .ref 154)] [] h3) ∧ (¬ ¬ (nI n) = (Int8.ofInt 8).toInt32 → pz_S 3 none am_r209 2 Q 84 [(2, .int v), (1, .int (nI n)), (0, .ref 154)] [] h3) from ⟨fun hc => ?_, fun hc => ?_⟩)
        rotate_left
        · refine am_goX 3 (show am_rc h3 154 11 ∧ 0 ≤ 8 ∧ h3.2.2.2.2 + am_al 197 ≤ 175 ∧ am_call am_cod 2 197 [.ref 154, .int (Int32.ofInt 5)] h3 (fun vv h' => pz_S 3 none am_r209 2 Q 89 [(2, .int v), (1, .int (nI n)), (0, .ref 154)] (vv.toList ++ []) h') from ⟨pz_rc hP3, by decide, pz_lim hP3 rfl, am_call.up (pz_wrongF hP3 (by decide) (fun h' q1 q2 q3 => ?_)) (by decide)⟩)
          exact kf h' ⟨⟨_, _, q1⟩, pz_Fc l3.2.1 q2, q3⟩
        have hn8 : ¬ n = 8 := fun w => hc (by rw [w]; rfl)
        clear hc
        refine am_goX 3 (show am_sh h3 154 = some (11, 0) ∧ (¬ (h3.1 154 8) = 0 → pz_S 3 none am_r209 2 Q 122 [(2, .int v), (1, .int (nI n)), (0, .ref 154)] [] h3) ∧ (¬ ¬ (h3.1 154 8) = 0 → pz_S 3 none am_r209 2 Q 96 [(2, .int v), (1, .int (nI n)), (0, .ref 154)] [] h3) from ⟨pz_154 hP3, fun hz => absurd hz (fun w => w l3.2.2.1), fun _ => ?_⟩)
        refine am_goX 2 (show am_sh h3 154 = some (11, 0) ∧ pz_S 3 none am_r209 2 Q 100 [(2, .int v), (1, .int (nI n)), (0, .ref 154)] [am_rf (h3.2.2.1 154 10)] h3 from ⟨pz_154 hP3, ?_⟩)
        rw [pz_r10 hP3]
        refine am_goX 3 (show (Value.int (Int8.ofInt 42).toInt32).category = 1 ∧ (Value.ref 160).category = 1 ∧ ∃ jj nn : Nat, am_sh h3 160 = some (13, nn) ∧ jj < nn ∧ (Int8.ofInt 42).toInt32 = nI jj ∧ pz_S 3 none am_r209 2 Q 104 [(2, .int v), (1, .int (nI n)), (0, .ref 154)] [.int (h3.1 160 jj), .int (Int8.ofInt 42).toInt32, .ref 160] h3 from ⟨rfl, rfl, 42, 80, pz_160 hP3, by decide, by decide, ?_⟩)
        refine am_goX 5 (show ∃ jj nn : Nat, am_so h3 160 = some (13, nn) ∧ jj < nn ∧ (Int8.ofInt 42).toInt32 = nI jj ∧ pz_S 3 none am_r209 2 Q 109 [(2, .int v), (1, .int (nI n)), (0, .ref 154)] [] (am_wI h3 160 jj (((h3.1 160 42) ||| ((Int32.ofInt 1) <<< (v &&& 31))))) from ⟨42, 80, pz_w160 hP3, by decide, by decide, ?_⟩)
        generalize ((h3.1 160 42) ||| ((Int32.ofInt 1) <<< (v &&& 31))) = vv
        have l4 := ln_w (o := 160) (k := 42) (v := vv) l3 rfl (by decide) (fun _ => Or.inl rfl) (pz_s160 (Or.inl rfl))
        generalize am_wI h3 160 42 vv = h4 at l4 ⊢
        have hP4 := l4.1
        refine am_goX 6 (show (Value.ref 154).category = 1 ∧ am_sh h4 154 = some (11, 0) ∧ am_sh h4 154 = some (11, 0) ∧ narrow (am_fty 11 7) (.int (((h4.1 154 7) + (Int32.ofInt 1)))) = .int (((h4.1 154 7) + (Int32.ofInt 1))) ∧ fits (am_fty 11 7) (.int (((h4.1 154 7) + (Int32.ofInt 1)))) = true ∧ pz_S 3 none am_r209 2 Q 119 [(2, .int v), (1, .int (nI n)), (0, .ref 154)] [] (am_wI h4 154 7 (((h4.1 154 7) + (Int32.ofInt 1)))) from ⟨rfl, pz_154 hP4, pz_154 hP4, rfl, rfl, ?_⟩)
        rw [hP4.2.2.2.1, xw_i1]
        have l5 := ln_at (a' := a1 + 1) l4 (by omega)
        generalize am_wI h4 154 7 (nI (a1 + 1)) = h5 at l5 ⊢
        have hP5 := l5.1
        refine am_goX 2 (show 1 < 3 ∧ pz_S 3 none am_r209 2 Q 2 [(1, .int ((nI n) + Int32.ofInt 1)), (2, .int v), (0, .ref 154)] [] h5 from ⟨by decide, ?_⟩)
        rw [xw_i1]
        exact ih (a1 + 1) (n + 1) v h5 (by omega) (by omega) l5
    refine am_goX 2 (show ((nI n) = 0 → pz_S 3 none am_r209 2 Q 26 [(1, .int (nI n)), (2, .int v0), (0, .ref 154)] [] h1) ∧ (¬ ((nI n) = 0) → pz_S 3 none am_r209 2 Q 13 [(1, .int (nI n)), (2, .int v0), (0, .ref 154)] [] h1) from ⟨fun hc => ?_, fun hc => ?_⟩)
    · exact k26
    · refine am_goX 2 (show am_sh h1 154 = some (11, 0) ∧ pz_S 3 none am_r209 2 Q 17 [(1, .int (nI n)), (2, .int v0), (0, .ref 154)] [am_rf (h1.2.2.1 154 4)] h1 from ⟨pz_154 hP1, ?_⟩)
      rw [pz_r4 hP1]
      refine am_goX 3 (show am_sh h1 154 = some (11, 0) ∧ ∃ jj nn : Nat, am_sh h1 156 = some (13, nn) ∧ jj < nn ∧ (h1.1 154 7) = nI jj ∧ pz_S 3 none am_r209 2 Q 22 [(1, .int (nI n)), (2, .int v0), (0, .ref 154)] [.int (h1.1 156 jj)] h1 from ⟨pz_154 hP1, a1, 1002, pz_156 hP1, pz_al hP1, hP1.2.2.2.1, ?_⟩)
      refine am_goX 2 (show (¬ (h1.1 156 a1) = (Int32.ofInt 2) → pz_S 3 none am_r209 2 Q 125 [(1, .int (nI n)), (2, .int v0), (0, .ref 154)] [] h1) ∧ (¬ ¬ (h1.1 156 a1) = (Int32.ofInt 2) → pz_S 3 none am_r209 2 Q 26 [(1, .int (nI n)), (2, .int v0), (0, .ref 154)] [] h1) from ⟨fun hc => ?_, fun hc => ?_⟩)
      · exact am_goX 1 (show (none : Option FieldType) = none ∧ h1.2.2.2.2 = 175 ∧ _ from ⟨rfl, pz_175 hP1, hQ a1 h1 haa (Or.inr l1)⟩)
      · exact k26
theorem pz_rsnow {Q : am_Q} (l : ln N a c h0 p e z h) (hQ : ∀ a' h', a ≤ a' → fl N h0 h' ∨ ln N a' c h0 p e z h' → Q none h') : am_call am_cod 3 209 [.ref 154] h Q := by
  have hP := l.1
  refine pz_call (n := 209) (nL := 3) (rt := none) (rows := am_r209) (d := 2) (by decide +kernel) (by decide +kernel) rfl (by funext pc; rfl) (pz_175 hP) (by exact Nat.le_of_ble_eq_true rfl) ?_
  have main : ∀ (a1 n : Nat) (h1 : am_H), n ≤ 8 → a ≤ a1 → ln N a1 c h0 p e z h1 → pz_S 3 none am_r209 2 Q 2 [(1, .int (nI n)), (0, .ref 154)] [] h1 := by
    intro a1 n h1 hn haa l1
    have hP1 := l1.1
    have hf1 := l1.2.2.1
    refine am_goX 3 (show am_sh h1 154 = some (11, 0) ∧ (¬ (h1.1 154 8) = 0 → pz_S 3 none am_r209 2 Q 125 [(1, .int (nI n)), (0, .ref 154)] [] h1) ∧ (¬ ¬ (h1.1 154 8) = 0 → pz_S 3 none am_r209 2 Q 9 [(1, .int (nI n)), (0, .ref 154)] [] h1) from ⟨pz_154 hP1, fun hz => absurd hz (fun w => w hf1), fun _ => ?_⟩)
    have k26 : pz_S 3 none am_r209 2 Q 26 [(1, .int (nI n)), (0, .ref 154)] [] h1 := ?_
    rotate_left
    · refine am_goX 4 (show am_rc h1 154 11 ∧ 0 ≤ 8 ∧ h1.2.2.2.2 + am_al 205 ≤ 175 ∧ am_call am_cod 2 205 [.ref 154, .int (Int32.ofInt 0), .int (Int8.ofInt 27).toInt32] h1 (fun vv h' => pz_S 3 none am_r209 2 Q 33 [(1, .int (nI n)), (0, .ref 154)] (vv.toList ++ []) h') from ⟨pz_rc hP1, by decide, pz_lim hP1 rfl, pz_tnum hP1 (fun a2 h2 v q => ?_)⟩)
      have kf : ∀ h', fl N h0 h' → pz_S 3 none am_r209 2 Q 89 [(2, .int v), (1, .int (nI n)), (0, .ref 154)] [] h' := ?_
      rotate_left
      · intro h' q1
        obtain ⟨⟨a', c', q4⟩, q2, q3⟩ := id q1
        refine am_goX 3 (show am_sh h' 154 = some (11, 0) ∧ (¬ (h'.1 154 8) = 0 → pz_S 3 none am_r209 2 Q 122 [(2, .int v), (1, .int (nI n)), (0, .ref 154)] [] h') ∧ (¬ ¬ (h'.1 154 8) = 0 → pz_S 3 none am_r209 2 Q 96 [(2, .int v), (1, .int (nI n)), (0, .ref 154)] [] h') from ⟨pz_154 q4, fun _ => ?_, fun hz => absurd q3 hz⟩)
        refine am_goX 4 (show am_sh h' 154 = some (11, 0) ∧ (¬ (h'.1 154 8) = 0 → pz_S 3 none am_r209 2 Q 125 [(2, .int v), (1, .int (nI n)), (0, .ref 154)] [] h') ∧ (¬ ¬ (h'.1 154 8) = 0 → pz_S 3 none am_r209 2 Q 9 [(2, .int v), (1, .int (nI n)), (0, .ref 154)] [] h') from ⟨pz_154 q4, fun _ => ?_, fun hz => absurd q3 hz⟩)
        exact am_goX 1 (show (none : Option FieldType) = none ∧ h'.2.2.2.2 = 175 ∧ _ from ⟨rfl, pz_175 q4, hQ a h' (Nat.le_refl _) (Or.inl q1)⟩)
      rcases q with ⟨w1, w2, ⟨w3, w4⟩ | ⟨w3, w5, w4⟩⟩
      · have hfl : fl N h0 h2 := ⟨⟨_, _, w1⟩, pz_Fc l1.2.1 w2, w3⟩
        refine am_goX 7 (show 2 < 3 ∧ (Value.ref 154).category = 1 ∧ am_sh h2 154 = some (11, 0) ∧ am_sh h2 154 = some (11, 0) ∧ ((h2.1 154 8) ≤ 0 → pz_S 3 none am_r209 2 Q 50 [(2, .int v), (1, .int (nI n)), (0, .ref 154)] [.int (h2.1 154 7), .ref 154] h2) ∧ (¬ ((h2.1 154 8) ≤ 0) → pz_S 3 none am_r209 2 Q 46 [(2, .int v), (1, .int (nI n)), (0, .ref 154)] [.int (h2.1 154 7), .ref 154] h2) from ⟨by decide, rfl, pz_154 w1, pz_154 w1, fun hz => absurd hz (fun w => w3 (pz_eq0 w1 w)), fun _ => ?_⟩)
        refine am_goX 4 (show am_sh h2 154 = some (11, 0) ∧ narrow (am_fty 11 7) (.int (((h2.1 154 7) - (Int32.ofInt 0)))) = .int (((h2.1 154 7) - (Int32.ofInt 0))) ∧ fits (am_fty 11 7) (.int (((h2.1 154 7) - (Int32.ofInt 0)))) = true ∧ pz_S 3 none am_r209 2 Q 55 [(2, .int v), (1, .int (nI n)), (0, .ref 154)] [] (am_wI h2 154 7 (((h2.1 154 7) - (Int32.ofInt 0)))) from ⟨pz_154 w1, rfl, rfl, ?_⟩)
        rw [pz_same (show h2.1 154 7 = h2.1 154 7 - Int32.ofInt 0 from (by rw [show (Int32.ofInt 0 : Int32) = 0 from rfl, Int32.sub_zero]))]
        refine am_goX 2 (show am_sh h2 154 = some (11, 0) ∧ pz_S 3 none am_r209 2 Q 59 [(2, .int v), (1, .int (nI n)), (0, .ref 154)] [am_rf (h2.2.2.1 154 10)] h2 from ⟨pz_154 w1, ?_⟩)
        rw [pz_r10 w1]
        refine am_goX 2 (show ∃ jj nn : Nat, am_sh h2 160 = some (13, nn) ∧ jj < nn ∧ (Int8.ofInt 42).toInt32 = nI jj ∧ pz_S 3 none am_r209 2 Q 62 [(2, .int v), (1, .int (nI n)), (0, .ref 154)] [.int (h2.1 160 jj)] h2 from ⟨42, 80, pz_160 w1, by decide, by decide, ?_⟩)
        refine am_goX 6 (show (¬ (((h2.1 160 42) >>> (v &&& 31)) &&& (Int32.ofInt 1)) = (Int32.ofInt 1) → pz_S 3 none am_r209 2 Q 78 [(2, .int v), (1, .int (nI n)), (0, .ref 154)] [] h2) ∧ (¬ ¬ (((h2.1 160 42) >>> (v &&& 31)) &&& (Int32.ofInt 1)) = (Int32.ofInt 1) → pz_S 3 none am_r209 2 Q 70 [(2, .int v), (1, .int (nI n)), (0, .ref 154)] [] h2) from ⟨fun hc => ?_, fun hc => ?_⟩)
        · refine am_goX 3 (show (¬ (nI n) = (Int8.ofInt 8).toInt32 → pz_S 3 none am_r209 2 Q 89 [(2, .int v), (1, .int (nI n)), (0, .ref 154)] [] h2) ∧ (¬ ¬ (nI n) = (Int8.ofInt 8).toInt32 → pz_S 3 none am_r209 2 Q 84 [(2, .int v), (1, .int (nI n)), (0, .ref 154)] [] h2) from ⟨fun hc => ?_, fun hc => ?_⟩)
          · exact kf h2 hfl
          · refine am_goX 3 (show am_rc h2 154 11 ∧ 0 ≤ 8 ∧ h2.2.2.2.2 + am_al 197 ≤ 175 ∧ am_call am_cod 2 197 [.ref 154, .int (Int32.ofInt 5)] h2 (fun vv h' => pz_S 3 none am_r209 2 Q 89 [(2, .int v), (1, .int (nI n)), (0, .ref 154)] (vv.toList ++ []) h') from ⟨pz_rc w1, by decide, pz_lim w1 rfl, am_call.up (pz_wrongF w1 (by decide) (fun h' q1 q2 q3 => ?_)) (by decide)⟩)
            exact kf h' ⟨⟨_, _, q1⟩, pz_Fc hfl.2.1 q2, q3⟩
        · refine am_goX 3 (show am_rc h2 154 11 ∧ 0 ≤ 8 ∧ h2.2.2.2.2 + am_al 197 ≤ 175 ∧ am_call am_cod 2 197 [.ref 154, .int (Int32.ofInt 3)] h2 (fun vv h' => pz_S 3 none am_r209 2 Q 75 [(2, .int v), (1, .int (nI n)), (0, .ref 154)] (vv.toList ++ []) h') from ⟨pz_rc w1, by decide, pz_lim w1 rfl, am_call.up (pz_wrongF w1 (by decide) (fun h' q1 q2 q3 => ?_)) (by decide)⟩)
          exact am_goX 1 (kf h' ⟨⟨_, _, q1⟩, pz_Fc hfl.2.1 q2, q3⟩)
      · have l2 : ln N a2 c h0 p e z h2 := (ln_F l1 (pk_q ⟨w1, w2, Or.inr ⟨w3, w5, w4⟩⟩)).resolve_left (fun w => w.2.2 w3)
        have w6 : a2 ≤ N := w1.2.2.2.2.1
        refine am_goX 7 (show 2 < 3 ∧ (Value.ref 154).category = 1 ∧ am_sh h2 154 = some (11, 0) ∧ am_sh h2 154 = some (11, 0) ∧ ((h2.1 154 8) ≤ 0 → pz_S 3 none am_r209 2 Q 50 [(2, .int v), (1, .int (nI n)), (0, .ref 154)] [.int (h2.1 154 7), .ref 154] h2) ∧ (¬ ((h2.1 154 8) ≤ 0) → pz_S 3 none am_r209 2 Q 46 [(2, .int v), (1, .int (nI n)), (0, .ref 154)] [.int (h2.1 154 7), .ref 154] h2) from ⟨by decide, rfl, pz_154 w1, pz_154 w1, fun _ => ?_, fun hz => absurd (by rw [w3]; decide) hz⟩)
        refine am_goX 3 (show am_sh h2 154 = some (11, 0) ∧ narrow (am_fty 11 7) (.int (((h2.1 154 7) - (Int32.ofInt 1)))) = .int (((h2.1 154 7) - (Int32.ofInt 1))) ∧ fits (am_fty 11 7) (.int (((h2.1 154 7) - (Int32.ofInt 1)))) = true ∧ pz_S 3 none am_r209 2 Q 55 [(2, .int v), (1, .int (nI n)), (0, .ref 154)] [] (am_wI h2 154 7 (((h2.1 154 7) - (Int32.ofInt 1)))) from ⟨pz_154 w1, rfl, rfl, ?_⟩)
        rw [w1.2.2.2.1, w4, show nI (a1 + 1) - Int32.ofInt 1 = nI a1 from nI_pred a1]
        have l3 := ln_at (a' := a1) l2 (by omega)
        generalize am_wI h2 154 7 (nI a1) = h3 at l3 ⊢
        have hP3 := l3.1
        refine am_goX 2 (show am_sh h3 154 = some (11, 0) ∧ pz_S 3 none am_r209 2 Q 59 [(2, .int v), (1, .int (nI n)), (0, .ref 154)] [am_rf (h3.2.2.1 154 10)] h3 from ⟨pz_154 hP3, ?_⟩)
        rw [pz_r10 hP3]
        refine am_goX 2 (show ∃ jj nn : Nat, am_sh h3 160 = some (13, nn) ∧ jj < nn ∧ (Int8.ofInt 42).toInt32 = nI jj ∧ pz_S 3 none am_r209 2 Q 62 [(2, .int v), (1, .int (nI n)), (0, .ref 154)] [.int (h3.1 160 jj)] h3 from ⟨42, 80, pz_160 hP3, by decide, by decide, ?_⟩)
        refine am_goX 6 (show (¬ (((h3.1 160 42) >>> (v &&& 31)) &&& (Int32.ofInt 1)) = (Int32.ofInt 1) → pz_S 3 none am_r209 2 Q 78 [(2, .int v), (1, .int (nI n)), (0, .ref 154)] [] h3) ∧ (¬ ¬ (((h3.1 160 42) >>> (v &&& 31)) &&& (Int32.ofInt 1)) = (Int32.ofInt 1) → pz_S 3 none am_r209 2 Q 70 [(2, .int v), (1, .int (nI n)), (0, .ref 154)] [] h3) from ⟨fun hc => ?_, fun hc => ?_⟩)
        rotate_left
        · refine am_goX 3 (show am_rc h3 154 11 ∧ 0 ≤ 8 ∧ h3.2.2.2.2 + am_al 197 ≤ 175 ∧ am_call am_cod 2 197 [.ref 154, .int (Int32.ofInt 3)] h3 (fun vv h' => pz_S 3 none am_r209 2 Q 75 [(2, .int v), (1, .int (nI n)), (0, .ref 154)] (vv.toList ++ []) h') from ⟨pz_rc hP3, by decide, pz_lim hP3 rfl, am_call.up (pz_wrongF hP3 (by decide) (fun h' q1 q2 q3 => ?_)) (by decide)⟩)
          exact am_goX 1 (kf h' ⟨⟨_, _, q1⟩, pz_Fc l3.2.1 q2, q3⟩)
        clear hc
        refine am_goX 3 (show (¬ (nI n) = (Int8.ofInt 8).toInt32 → pz_S 3 none am_r209 2 Q 89 [(2, .int v), (1, .int (nI n)), (0, .ref 154)] [] h3) ∧ (¬ ¬ (nI n) = (Int8.ofInt 8).toInt32 → pz_S 3 none am_r209 2 Q 84 [(2, .int v), (1, .int (nI n)), (0, .ref 154)] [] h3) from ⟨fun hc => ?_, fun hc => ?_⟩)
        rotate_left
        · refine am_goX 3 (show am_rc h3 154 11 ∧ 0 ≤ 8 ∧ h3.2.2.2.2 + am_al 197 ≤ 175 ∧ am_call am_cod 2 197 [.ref 154, .int (Int32.ofInt 5)] h3 (fun vv h' => pz_S 3 none am_r209 2 Q 89 [(2, .int v), (1, .int (nI n)), (0, .ref 154)] (vv.toList ++ []) h') from ⟨pz_rc hP3, by decide, pz_lim hP3 rfl, am_call.up (pz_wrongF hP3 (by decide) (fun h' q1 q2 q3 => ?_)) (by decide)⟩)
          exact kf h' ⟨⟨_, _, q1⟩, pz_Fc l3.2.1 q2, q3⟩
        have hn8 : ¬ n = 8 := fun w => hc (by rw [w]; rfl)
        clear hc
        refine am_goX 3 (show am_sh h3 154 = some (11, 0) ∧ (¬ (h3.1 154 8) = 0 → pz_S 3 none am_r209 2 Q 122 [(2, .int v), (1, .int (nI n)), (0, .ref 154)] [] h3) ∧ (¬ ¬ (h3.1 154 8) = 0 → pz_S 3 none am_r209 2 Q 96 [(2, .int v), (1, .int (nI n)), (0, .ref 154)] [] h3) from ⟨pz_154 hP3, fun hz => absurd hz (fun w => w l3.2.2.1), fun _ => ?_⟩)
        refine am_goX 2 (show am_sh h3 154 = some (11, 0) ∧ pz_S 3 none am_r209 2 Q 100 [(2, .int v), (1, .int (nI n)), (0, .ref 154)] [am_rf (h3.2.2.1 154 10)] h3 from ⟨pz_154 hP3, ?_⟩)
        rw [pz_r10 hP3]
        refine am_goX 3 (show (Value.int (Int8.ofInt 42).toInt32).category = 1 ∧ (Value.ref 160).category = 1 ∧ ∃ jj nn : Nat, am_sh h3 160 = some (13, nn) ∧ jj < nn ∧ (Int8.ofInt 42).toInt32 = nI jj ∧ pz_S 3 none am_r209 2 Q 104 [(2, .int v), (1, .int (nI n)), (0, .ref 154)] [.int (h3.1 160 jj), .int (Int8.ofInt 42).toInt32, .ref 160] h3 from ⟨rfl, rfl, 42, 80, pz_160 hP3, by decide, by decide, ?_⟩)
        refine am_goX 5 (show ∃ jj nn : Nat, am_so h3 160 = some (13, nn) ∧ jj < nn ∧ (Int8.ofInt 42).toInt32 = nI jj ∧ pz_S 3 none am_r209 2 Q 109 [(2, .int v), (1, .int (nI n)), (0, .ref 154)] [] (am_wI h3 160 jj (((h3.1 160 42) ||| ((Int32.ofInt 1) <<< (v &&& 31))))) from ⟨42, 80, pz_w160 hP3, by decide, by decide, ?_⟩)
        generalize ((h3.1 160 42) ||| ((Int32.ofInt 1) <<< (v &&& 31))) = vv
        have l4 := ln_w (o := 160) (k := 42) (v := vv) l3 rfl (by decide) (fun _ => Or.inl rfl) (pz_s160 (Or.inl rfl))
        generalize am_wI h3 160 42 vv = h4 at l4 ⊢
        have hP4 := l4.1
        refine am_goX 6 (show (Value.ref 154).category = 1 ∧ am_sh h4 154 = some (11, 0) ∧ am_sh h4 154 = some (11, 0) ∧ narrow (am_fty 11 7) (.int (((h4.1 154 7) + (Int32.ofInt 1)))) = .int (((h4.1 154 7) + (Int32.ofInt 1))) ∧ fits (am_fty 11 7) (.int (((h4.1 154 7) + (Int32.ofInt 1)))) = true ∧ pz_S 3 none am_r209 2 Q 119 [(2, .int v), (1, .int (nI n)), (0, .ref 154)] [] (am_wI h4 154 7 (((h4.1 154 7) + (Int32.ofInt 1)))) from ⟨rfl, pz_154 hP4, pz_154 hP4, rfl, rfl, ?_⟩)
        rw [hP4.2.2.2.1, xw_i1]
        have l5 := ln_at (a' := a1 + 1) l4 (by omega)
        generalize am_wI h4 154 7 (nI (a1 + 1)) = h5 at l5 ⊢
        have hP5 := l5.1
        refine am_goX 2 (show 1 < 3 ∧ pz_S 3 none am_r209 2 Q 2 [(1, .int ((nI n) + Int32.ofInt 1)), (2, .int v), (0, .ref 154)] [] h5 from ⟨by decide, ?_⟩)
        rw [xw_i1]
        exact pz_snl hQ (7 - n) (a1 + 1) (n + 1) v h5 (by omega) (by omega) l5
    refine am_goX 2 (show ((nI n) = 0 → pz_S 3 none am_r209 2 Q 26 [(1, .int (nI n)), (0, .ref 154)] [] h1) ∧ (¬ ((nI n) = 0) → pz_S 3 none am_r209 2 Q 13 [(1, .int (nI n)), (0, .ref 154)] [] h1) from ⟨fun hc => ?_, fun hc => ?_⟩)
    · exact k26
    · refine am_goX 2 (show am_sh h1 154 = some (11, 0) ∧ pz_S 3 none am_r209 2 Q 17 [(1, .int (nI n)), (0, .ref 154)] [am_rf (h1.2.2.1 154 4)] h1 from ⟨pz_154 hP1, ?_⟩)
      rw [pz_r4 hP1]
      refine am_goX 3 (show am_sh h1 154 = some (11, 0) ∧ ∃ jj nn : Nat, am_sh h1 156 = some (13, nn) ∧ jj < nn ∧ (h1.1 154 7) = nI jj ∧ pz_S 3 none am_r209 2 Q 22 [(1, .int (nI n)), (0, .ref 154)] [.int (h1.1 156 jj)] h1 from ⟨pz_154 hP1, a1, 1002, pz_156 hP1, pz_al hP1, hP1.2.2.2.1, ?_⟩)
      refine am_goX 2 (show (¬ (h1.1 156 a1) = (Int32.ofInt 2) → pz_S 3 none am_r209 2 Q 125 [(1, .int (nI n)), (0, .ref 154)] [] h1) ∧ (¬ ¬ (h1.1 156 a1) = (Int32.ofInt 2) → pz_S 3 none am_r209 2 Q 26 [(1, .int (nI n)), (0, .ref 154)] [] h1) from ⟨fun hc => ?_, fun hc => ?_⟩)
      · exact am_goX 1 (show (none : Option FieldType) = none ∧ h1.2.2.2.2 = 175 ∧ _ from ⟨rfl, pz_175 hP1, hQ a1 h1 haa (Or.inr l1)⟩)
      · exact k26
  refine am_goX 2 (show 1 < 3 ∧ pz_S 3 none am_r209 2 Q 2 [(1, .int (Int32.ofInt 0)), (0, .ref 154)] [] h from ⟨by decide, ?_⟩)
  exact main a 0 h (by decide) (Nat.le_refl _) l
