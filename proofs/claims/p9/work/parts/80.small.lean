/-! THE REFERENCE'S PARSER BY HAND: its state between two steps: N tokens, a of them taken, c codes laid -/
def pz_P (N a c : Nat) (h : am_H) : Prop := ag_WH ag_DD N h ∧ xw_X h ∧ N ≤ 1000 ∧ h.1 154 7 = nI a ∧ a ≤ N ∧ h.1 154 13 = nI c ∧ c ≤ 1100
def pz_M : ag_M := [(154, 7, 8), (154, 13, 13), (161, 1100, 2199), (162, 1100, 2199)]
/-- one more of a fault, or of the codes that make k -/
def pz_K (k : Nat) (h : am_H) : Prop := ¬ h.1 154 8 = 0 ∨ xf_P 0 k h
def pz_S (nL : Nat) (rt : Option FieldType) (rows : List (Nat × am_R)) (d : Nat) (Q : am_Q) : Nat → am_V → List Value → am_H → Prop := am_X (am_call am_cod d) nL 175 rt (am_find rows) (fun _ _ _ _ => False) (fun v h' => h'.2.2.2.2 = 175 ∧ Q v h')
theorem pz_call {n d nL : Nat} {rt : Option FieldType} {rows : List (Nat × am_R)} {args : List Value} {h : am_H} {Q : am_Q} (hn : am_nL n = nL) (hr : am_rt n = rt) (hal : am_al n = 0) (hc : am_cod n = am_find rows) (h175 : h.2.2.2.2 = 175) (hlen : (lg_sl args).length ≤ nL) (k : pz_S nL rt rows d Q 0 (lv_args 0 args) [] h) : am_call am_cod (d + 1) n args h Q := by
  refine Or.inr ⟨by rw [hn]; exact hlen, ?_⟩
  rw [hn, hr, hal, hc, h175]
  exact k
variable {N a c : Nat} {h : am_H}
theorem pz_175 (hP : pz_P N a c h) : h.2.2.2.2 = 175 := hP.1.1
theorem pz_so (hP : pz_P N a c h) {o : Nat} {e : Nat × Nat} (he : ag_so ag_DD o = some e) : am_so h o = some e ∧ am_sh h o = some e := ag_so_ok (D := ag_DD) ag_DD_sh hP.1.1 he
theorem pz_154 (hP : pz_P N a c h) : am_sh h 154 = some (11, 0) := (pz_so hP (by decide +kernel)).2
theorem pz_155 (hP : pz_P N a c h) : am_sh h 155 = some (13, 1000) := (pz_so hP (by decide +kernel)).2
theorem pz_w155 (hP : pz_P N a c h) : am_so h 155 = some (13, 1000) := (pz_so hP (by decide +kernel)).1
theorem pz_156 (hP : pz_P N a c h) : am_sh h 156 = some (13, 1002) := (pz_so hP (by decide +kernel)).2
theorem pz_w156 (hP : pz_P N a c h) : am_so h 156 = some (13, 1002) := (pz_so hP (by decide +kernel)).1
theorem pz_157 (hP : pz_P N a c h) : am_sh h 157 = some (13, 1002) := (pz_so hP (by decide +kernel)).2
theorem pz_w157 (hP : pz_P N a c h) : am_so h 157 = some (13, 1002) := (pz_so hP (by decide +kernel)).1
theorem pz_158 (hP : pz_P N a c h) : am_sh h 158 = some (14, 1002) := (pz_so hP (by decide +kernel)).2
theorem pz_w158 (hP : pz_P N a c h) : am_so h 158 = some (14, 1002) := (pz_so hP (by decide +kernel)).1
theorem pz_159 (hP : pz_P N a c h) : am_sh h 159 = some (14, 21) := (pz_so hP (by decide +kernel)).2
theorem pz_w159 (hP : pz_P N a c h) : am_so h 159 = some (14, 21) := (pz_so hP (by decide +kernel)).1
theorem pz_160 (hP : pz_P N a c h) : am_sh h 160 = some (13, 80) := (pz_so hP (by decide +kernel)).2
theorem pz_w160 (hP : pz_P N a c h) : am_so h 160 = some (13, 80) := (pz_so hP (by decide +kernel)).1
theorem pz_161 (hP : pz_P N a c h) : am_sh h 161 = some (13, 2200) := (pz_so hP (by decide +kernel)).2
theorem pz_w161 (hP : pz_P N a c h) : am_so h 161 = some (13, 2200) := (pz_so hP (by decide +kernel)).1
theorem pz_162 (hP : pz_P N a c h) : am_sh h 162 = some (13, 2200) := (pz_so hP (by decide +kernel)).2
theorem pz_w162 (hP : pz_P N a c h) : am_so h 162 = some (13, 2200) := (pz_so hP (by decide +kernel)).1
theorem pz_163 (hP : pz_P N a c h) : am_sh h 163 = some (14, 11) := (pz_so hP (by decide +kernel)).2
theorem pz_w163 (hP : pz_P N a c h) : am_so h 163 = some (14, 11) := (pz_so hP (by decide +kernel)).1
theorem pz_164 (hP : pz_P N a c h) : am_sh h 164 = some (14, 11) := (pz_so hP (by decide +kernel)).2
theorem pz_w164 (hP : pz_P N a c h) : am_so h 164 = some (14, 11) := (pz_so hP (by decide +kernel)).1
theorem pz_165 (hP : pz_P N a c h) : am_sh h 165 = some (13, 11) := (pz_so hP (by decide +kernel)).2
theorem pz_w165 (hP : pz_P N a c h) : am_so h 165 = some (13, 11) := (pz_so hP (by decide +kernel)).1
theorem pz_166 (hP : pz_P N a c h) : am_sh h 166 = some (13, 11) := (pz_so hP (by decide +kernel)).2
theorem pz_w166 (hP : pz_P N a c h) : am_so h 166 = some (13, 11) := (pz_so hP (by decide +kernel)).1
theorem pz_167 (hP : pz_P N a c h) : am_sh h 167 = some (13, 250) := (pz_so hP (by decide +kernel)).2
theorem pz_w167 (hP : pz_P N a c h) : am_so h 167 = some (13, 250) := (pz_so hP (by decide +kernel)).1
theorem pz_168 (hP : pz_P N a c h) : am_sh h 168 = some (13, 4) := (pz_so hP (by decide +kernel)).2
theorem pz_w168 (hP : pz_P N a c h) : am_so h 168 = some (13, 4) := (pz_so hP (by decide +kernel)).1
theorem pz_169 (hP : pz_P N a c h) : am_sh h 169 = some (13, 1100) := (pz_so hP (by decide +kernel)).2
theorem pz_w169 (hP : pz_P N a c h) : am_so h 169 = some (13, 1100) := (pz_so hP (by decide +kernel)).1
theorem pz_refs : ag_lk ag_reft 154 1 = some 155 ∧ ag_lk ag_reft 154 4 = some 156 ∧ ag_lk ag_reft 154 5 = some 157 ∧ ag_lk ag_reft 154 6 = some 158 ∧ ag_lk ag_reft 154 9 = some 159 ∧ ag_lk ag_reft 154 10 = some 160 ∧ ag_lk ag_reft 154 11 = some 161 ∧ ag_lk ag_reft 154 12 = some 162 ∧ ag_lk ag_reft 154 14 = some 163 ∧ ag_lk ag_reft 154 15 = some 164 ∧ ag_lk ag_reft 154 16 = some 165 ∧ ag_lk ag_reft 154 17 = some 166 ∧ ag_lk ag_reft 154 21 = some 167 ∧ ag_lk ag_reft 154 22 = some 168 ∧ ag_lk ag_reft 154 23 = some 169 := by decide +kernel
theorem pz_r1 (hP : pz_P N a c h) : h.2.2.1 154 1 = some 155 := hP.1.2.1.2.2 154 1 155 pz_refs.1
theorem pz_r4 (hP : pz_P N a c h) : h.2.2.1 154 4 = some 156 := hP.1.2.1.2.2 154 4 156 pz_refs.2.1
theorem pz_r5 (hP : pz_P N a c h) : h.2.2.1 154 5 = some 157 := hP.1.2.1.2.2 154 5 157 pz_refs.2.2.1
theorem pz_r6 (hP : pz_P N a c h) : h.2.2.1 154 6 = some 158 := hP.1.2.1.2.2 154 6 158 pz_refs.2.2.2.1
theorem pz_r9 (hP : pz_P N a c h) : h.2.2.1 154 9 = some 159 := hP.1.2.1.2.2 154 9 159 pz_refs.2.2.2.2.1
theorem pz_r10 (hP : pz_P N a c h) : h.2.2.1 154 10 = some 160 := hP.1.2.1.2.2 154 10 160 pz_refs.2.2.2.2.2.1
theorem pz_r11 (hP : pz_P N a c h) : h.2.2.1 154 11 = some 161 := hP.1.2.1.2.2 154 11 161 pz_refs.2.2.2.2.2.2.1
theorem pz_r12 (hP : pz_P N a c h) : h.2.2.1 154 12 = some 162 := hP.1.2.1.2.2 154 12 162 pz_refs.2.2.2.2.2.2.2.1
theorem pz_r14 (hP : pz_P N a c h) : h.2.2.1 154 14 = some 163 := hP.1.2.1.2.2 154 14 163 pz_refs.2.2.2.2.2.2.2.2.1
theorem pz_r15 (hP : pz_P N a c h) : h.2.2.1 154 15 = some 164 := hP.1.2.1.2.2 154 15 164 pz_refs.2.2.2.2.2.2.2.2.2.1
theorem pz_r16 (hP : pz_P N a c h) : h.2.2.1 154 16 = some 165 := hP.1.2.1.2.2 154 16 165 pz_refs.2.2.2.2.2.2.2.2.2.2.1
theorem pz_r17 (hP : pz_P N a c h) : h.2.2.1 154 17 = some 166 := hP.1.2.1.2.2 154 17 166 pz_refs.2.2.2.2.2.2.2.2.2.2.2.1
theorem pz_r21 (hP : pz_P N a c h) : h.2.2.1 154 21 = some 167 := hP.1.2.1.2.2 154 21 167 pz_refs.2.2.2.2.2.2.2.2.2.2.2.2.1
theorem pz_r22 (hP : pz_P N a c h) : h.2.2.1 154 22 = some 168 := hP.1.2.1.2.2 154 22 168 pz_refs.2.2.2.2.2.2.2.2.2.2.2.2.2.1
theorem pz_r23 (hP : pz_P N a c h) : h.2.2.1 154 23 = some 169 := hP.1.2.1.2.2 154 23 169 pz_refs.2.2.2.2.2.2.2.2.2.2.2.2.2.2
theorem pz_rc (hP : pz_P N a c h) : am_rc h 154 11 := Or.inl ⟨by decide, pz_154 hP⟩
theorem pz_lim (hP : pz_P N a c h) {n : Nat} (hn : am_al n = 0) : h.2.2.2.2 + am_al n ≤ 175 := by
  rw [pz_175 hP, hn]
  exact Nat.le_refl _
theorem pz_same {o k : Nat} {v : Int32} (e : h.1 o k = v) : am_wI h o k v = h := by
  obtain ⟨i, r⟩ := h
  show ((fun a b => if a = o ∧ b = k then v else i a b), r) = (i, r)
  congr 1
  funext x y
  by_cases z : x = o ∧ y = k
  · rw [if_pos z, z.1, z.2]
    exact e.symm
  · rw [if_neg z]
/-- an int is written that keeps its interval -/
theorem pz_wG {o k : Nat} {v : Int32} (hG : ag_G ag_DD h) (hv : ∀ s ∈ ag_sg o, ag_seg s k v) : ag_G ag_DD (am_wI h o k v) := by
  refine ⟨fun o' s hs k' => ?_, hG.2.1, hG.2.2⟩
  show ag_seg s k' (if o' = o ∧ k' = k then v else h.1 o' k')
  by_cases z : o' = o ∧ k' = k
  · rw [if_pos z]
    obtain ⟨z1, z2⟩ := z
    subst z1
    subst z2
    exact hv s hs
  · rw [if_neg z]
    exact hG.1 o' s hs k'
theorem pz_wW {o k : Nat} {v : Int32} {N' : Int} (hW : ag_WH ag_DD N' h) (ho : ¬ o = 156) (hv : ∀ s ∈ ag_sg o, ag_seg s k v) : ag_WH ag_DD N' (am_wI h o k v) := by
  refine ⟨hW.1, pz_wG hW.2.1 hv, hW.2.2.1, ?_⟩
  show (if (156 : Nat) = o ∧ N'.toNat = k then v else h.1 156 N'.toNat) = 0
  rw [if_neg (fun z => ho z.1.symm)]
  exact hW.2.2.2
theorem pz_wX {o k : Nat} {v : Int32} (hX : xw_X h) (ho : ¬ ag_kp o k) : xw_X (am_wI h o k v) := by
  refine xw_Xk h _ (fun o' k' hk => ?_) hX
  show (if o' = o ∧ k' = k then v else h.1 o' k') = h.1 o' k'
  rw [if_neg (fun z => ho (by rw [← z.1, ← z.2]; exact hk))]
theorem pz_fr {o k : Nat} {v : Int32} {M : ag_M} (hm : ag_atM M o k = true) : ag_fr M h (am_wI h o k v) := by
  refine ⟨rfl, fun o' k' hk => ⟨?_, rfl, rfl⟩⟩
  show (if o' = o ∧ k' = k then v else h.1 o' k') = h.1 o' k'
  rw [if_neg (fun z => by rw [z.1, z.2, hm] at hk; cases hk)]
theorem pz_tr {h1 h2 : am_H} (f1 : ag_fr pz_M h h1) (f2 : ag_fr pz_M h1 h2) : ag_fr pz_M h h2 := f1.trans (by decide +kernel) f2
theorem pz_sg7 : (ag_sg 154).all (fun s => !(Nat.ble s.1 7 && Nat.ble 7 s.2.1) || (decide (s.2.2.2.2.1 ≤ 0) && decide (1000 ≤ s.2.2.2.2.2))) = true := by decide +kernel
theorem pz_sg8 : (ag_sg 154).all (fun s => !(Nat.ble s.1 8 && Nat.ble 8 s.2.1) || (decide (s.2.2.2.2.1 ≤ 0) && decide (16005 ≤ s.2.2.2.2.2))) = true := by decide +kernel
theorem pz_sg13 : (ag_sg 154).all (fun s => !(Nat.ble s.1 13 && Nat.ble 13 s.2.1) || (decide (s.2.2.2.2.1 ≤ 0) && decide (1100 ≤ s.2.2.2.2.2))) = true := by decide +kernel
theorem pz_sgv {o k : Nat} {lo hi : Int} {v : Int32} (hs : (ag_sg o).all (fun s => !(Nat.ble s.1 k && Nat.ble k s.2.1) || (decide (s.2.2.2.2.1 ≤ lo) && decide (hi ≤ s.2.2.2.2.2))) = true) (h1 : lo ≤ v.toInt) (h2 : v.toInt ≤ hi) : ∀ s ∈ ag_sg o, ag_seg s k v := by
  intro s hm k1 k2 _
  have w := List.all_eq_true.mp hs s hm
  rw [Nat.ble_eq_true_of_le k1, Nat.ble_eq_true_of_le k2] at w
  have w : (decide (s.2.2.2.2.1 ≤ lo) && decide (hi ≤ s.2.2.2.2.2)) = true := w
  rw [Bool.and_eq_true, decide_eq_true_eq, decide_eq_true_eq] at w
  omega
/-- the place in the tokens is written -/
theorem pz_at {a' : Nat} (hP : pz_P N a c h) (ha : a' ≤ N) : pz_P N a' c (am_wI h 154 7 (nI a')) := by
  obtain ⟨p1, p2, p3, p4, p5, p6, p7⟩ := hP
  have hz : (nI a').toInt = a' := nI_toInt (by omega)
  refine ⟨pz_wW p1 (by decide) (pz_sgv pz_sg7 (by omega) (by omega)), pz_wX p2 (by unfold ag_kp; omega), p3, em_we h 154 7 _, ha, ?_, p7⟩
  rw [em_wn h _ (by decide)]
  exact p6
theorem pz_atf {a' : Nat} : ag_fr pz_M h (am_wI h 154 7 (nI a')) := pz_fr rfl
theorem pz_atK {a' k : Nat} (hK : pz_K k h) : pz_K k (am_wI h 154 7 (nI a')) := by
  rcases hK with z | z
  · left
    rw [em_wn h _ (by decide)]
    exact z
  · right
    refine xf_keep (fun s hs j _ _ => em_wn h _ (fun w => ?_)) z
    have hs : s ∈ ([(161, 1100, 2199), (162, 1100, 2199), (154, 13, 13)] : ag_M) := hs
    simp only [List.mem_cons, List.not_mem_nil, or_false] at hs
    rcases hs with rfl | rfl | rfl
    · exact absurd w.1 (by decide)
    · exact absurd w.1 (by decide)
    · rename_i j1 j2
      have : j = 13 := by
        have j1 : 13 ≤ j := j1
        have j2 : j ≤ 13 := j2
        omega
      omega
/-- a fault is written -/
theorem pz_ft {v : Int32} (hP : pz_P N a c h) (h1 : 0 < v.toInt) (h2 : v.toInt ≤ 16005) : pz_P N a c (am_wI h 154 8 v) ∧ ¬ (am_wI h 154 8 v).1 154 8 = 0 := by
  obtain ⟨p1, p2, p3, p4, p5, p6, p7⟩ := hP
  refine ⟨⟨pz_wW p1 (by decide) (pz_sgv pz_sg8 (by omega) h2), pz_wX p2 (by unfold ag_kp; omega), p3, ?_, p5, ?_, p7⟩, ?_⟩
  · rw [em_wn h _ (by decide)]
    exact p4
  · rw [em_wn h _ (by decide)]
    exact p6
  · rw [em_we]
    intro z
    rw [z] at h1
    exact absurd h1 (by decide)
theorem pz_ft0 (hP : pz_P N a c h) : 0 ≤ (h.1 154 8).toInt ∧ (h.1 154 8).toInt ≤ 16005 := hP.1.2.1.1 154 (8, 8, 1, 0, 0, 16005) (iv_sgm (o := 154) (s := (8, 8, 1, 0, 0, 16005)) (by decide +kernel)) 8 (by decide) (by decide) (by decide)
theorem pz_le0 (hP : pz_P N a c h) (hc : ¬ h.1 154 8 ≤ 0) : ¬ h.1 154 8 = 0 := fun z => hc (by rw [z]; decide)
theorem pz_eq0 (hP : pz_P N a c h) (hc : h.1 154 8 ≤ 0) : h.1 154 8 = 0 := by
  have z := (pz_ft0 hP).1
  rw [Int32.le_iff_toInt_le] at hc
  have hc : (h.1 154 8).toInt ≤ 0 := hc
  have e : (h.1 154 8).toInt = (0 : Int32).toInt := by
    show _ = (0 : Int)
    omega
  exact Int32.toInt_inj.mp e
/-- what is at a place before the last is no end -/
theorem pz_lt (hP : pz_P N a c h) (hs : ¬ h.1 156 a = 0) : a < N := by
  rcases Nat.lt_or_ge a N with z | z
  · exact z
  · have e : a = N := Nat.le_antisymm hP.2.2.2.2.1 z
    have hw : h.1 156 N = 0 := hP.1.2.2.2
    rw [e] at hs
    exact absurd hw hs
def pz_b (b : Bool) : Int32 := bif b then 1 else 0
def pz_sg (h : am_H) (a : Nat) (x : Int32) : Bool := decide (h.1 154 8 = 0) && (decide (h.1 156 a = 3) && decide (h.2.1 158 a = x.toInt64))
def pz_wd (h : am_H) (a w : Nat) : Bool := decide (h.1 154 8 = 0) && (decide (h.1 156 a = 1) && decide (h.2.1 158 a = h.2.1 159 w))
theorem pz_sg_lt {x : Int32} (hP : pz_P N a c h) (hs : pz_sg h a x = true) : h.1 154 8 = 0 ∧ a < N := by
  unfold pz_sg at hs
  rw [Bool.and_eq_true, Bool.and_eq_true, decide_eq_true_eq, decide_eq_true_eq] at hs
  exact ⟨hs.1, pz_lt hP (by rw [hs.2.1]; decide)⟩
theorem pz_wd_lt {w : Nat} (hP : pz_P N a c h) (hs : pz_wd h a w = true) : h.1 154 8 = 0 ∧ a < N := by
  unfold pz_wd at hs
  rw [Bool.and_eq_true, Bool.and_eq_true, decide_eq_true_eq, decide_eq_true_eq] at hs
  exact ⟨hs.1, pz_lt hP (by rw [hs.2.1]; decide)⟩
theorem pz_al (hP : pz_P N a c h) : a < 1002 := by
  have := hP.2.2.1
  have := hP.2.2.2.2.1
  omega
theorem pz_cmp (x y : Int64) : lg_cmp x y = 0 ↔ x = y := by
  constructor
  · intro z
    unfold lg_cmp at z
    by_cases h1 : x > y
    · rw [if_pos h1] at z
      exact absurd z (by decide)
    · rw [if_neg h1] at z
      by_cases h2 : x = y
      · exact h2
      · rw [if_neg h2] at z
        exact absurd z (by decide)
  · intro z
    rw [z]
    unfold lg_cmp
    simp
theorem pz_sign {Q : am_Q} {x : Int32} (hP : pz_P N a c h) (hQ : Q (some (.int (pz_b (pz_sg h a x)))) h) : am_call am_cod 1 215 [.ref 154, .int x] h Q := by
  refine pz_call (n := 215) (nL := 2) (rt := (some .boolean)) (rows := am_r215) (d := 0) (by decide +kernel) (by decide +kernel) rfl (by funext pc; rfl) (pz_175 hP) (by exact Nat.le_of_ble_eq_true rfl) ?_
  refine am_goX 3 (show am_sh h 154 = some (11, 0) ∧ (¬ (h.1 154 8) = 0 → pz_S 2 (some .boolean) am_r215 0 Q 39 [(0, .ref 154), (1, .int x)] [] h) ∧ (¬ ¬ (h.1 154 8) = 0 → pz_S 2 (some .boolean) am_r215 0 Q 7 [(0, .ref 154), (1, .int x)] [] h) from ⟨pz_154 hP, fun hc => ?_, fun hc => ?_⟩)
  · have e : pz_sg h a x = false := by
      unfold pz_sg
      rw [decide_eq_false hc]; rfl
    rw [e] at hQ
    exact am_goX 2 (show (∃ ty, (some .boolean) = some ty ∧ narrow ty (.int ((Int32.ofInt 0))) = .int ((Int32.ofInt 0))) ∧ h.2.2.2.2 = 175 ∧ _ from ⟨⟨.boolean, rfl, rfl⟩, pz_175 hP, hQ⟩)
  · have hf : h.1 154 8 = 0 := Decidable.not_not.mp hc
    clear hc
    refine am_goX 2 (show am_sh h 154 = some (11, 0) ∧ pz_S 2 (some .boolean) am_r215 0 Q 11 [(0, .ref 154), (1, .int x)] [am_rf (h.2.2.1 154 4)] h from ⟨pz_154 hP, ?_⟩)
    rw [pz_r4 hP]
    refine am_goX 3 (show am_sh h 154 = some (11, 0) ∧ ∃ j n : Nat, am_sh h 156 = some (13, n) ∧ j < n ∧ (h.1 154 7) = nI j ∧ pz_S 2 (some .boolean) am_r215 0 Q 16 [(0, .ref 154), (1, .int x)] [.int (h.1 156 j)] h from ⟨pz_154 hP, a, 1002, pz_156 hP, pz_al hP, hP.2.2.2.1, ?_⟩)
    refine am_goX 2 (show (¬ (h.1 156 a) = (Int32.ofInt 3) → pz_S 2 (some .boolean) am_r215 0 Q 39 [(0, .ref 154), (1, .int x)] [] h) ∧ (¬ ¬ (h.1 156 a) = (Int32.ofInt 3) → pz_S 2 (some .boolean) am_r215 0 Q 20 [(0, .ref 154), (1, .int x)] [] h) from ⟨fun hc => ?_, fun hc => ?_⟩)
    · have e : pz_sg h a x = false := by
        unfold pz_sg
        rw [decide_eq_true hf, decide_eq_false (show ¬ h.1 156 a = 3 from hc)]; rfl
      rw [e] at hQ
      exact am_goX 2 (show (∃ ty, (some .boolean) = some ty ∧ narrow ty (.int ((Int32.ofInt 0))) = .int ((Int32.ofInt 0))) ∧ h.2.2.2.2 = 175 ∧ _ from ⟨⟨.boolean, rfl, rfl⟩, pz_175 hP, hQ⟩)
    · have hs : h.1 156 a = 3 := Decidable.not_not.mp hc
      clear hc
      refine am_goX 2 (show am_sh h 154 = some (11, 0) ∧ pz_S 2 (some .boolean) am_r215 0 Q 24 [(0, .ref 154), (1, .int x)] [am_rf (h.2.2.1 154 6)] h from ⟨pz_154 hP, ?_⟩)
      rw [pz_r6 hP]
      refine am_goX 3 (show am_sh h 154 = some (11, 0) ∧ ∃ j n : Nat, am_sh h 158 = some (14, n) ∧ j < n ∧ (h.1 154 7) = nI j ∧ pz_S 2 (some .boolean) am_r215 0 Q 29 [(0, .ref 154), (1, .int x)] [.long (h.2.1 158 j)] h from ⟨pz_154 hP, a, 1002, pz_158 hP, pz_al hP, hP.2.2.2.1, ?_⟩)
      refine am_goX 4 (show (¬ (lg_cmp ((h.2.1 158 a)) ((x).toInt64)) = 0 → pz_S 2 (some .boolean) am_r215 0 Q 39 [(0, .ref 154), (1, .int x)] [] h) ∧ (¬ ¬ (lg_cmp ((h.2.1 158 a)) ((x).toInt64)) = 0 → pz_S 2 (some .boolean) am_r215 0 Q 35 [(0, .ref 154), (1, .int x)] [] h) from ⟨fun hc => ?_, fun hc => ?_⟩)
      · have e : pz_sg h a x = false := by
          unfold pz_sg
          rw [decide_eq_true hf, decide_eq_true hs, decide_eq_false (fun z => hc ((pz_cmp _ _).mpr z))]; rfl
        rw [e] at hQ
        exact am_goX 2 (show (∃ ty, (some .boolean) = some ty ∧ narrow ty (.int ((Int32.ofInt 0))) = .int ((Int32.ofInt 0))) ∧ h.2.2.2.2 = 175 ∧ _ from ⟨⟨.boolean, rfl, rfl⟩, pz_175 hP, hQ⟩)
      · have e : pz_sg h a x = true := by
          unfold pz_sg
          rw [decide_eq_true hf, decide_eq_true hs, decide_eq_true ((pz_cmp _ _).mp (Decidable.not_not.mp hc))]; rfl
        rw [e] at hQ
        exact am_goX 3 (show (∃ ty, (some .boolean) = some ty ∧ narrow ty (.int ((Int32.ofInt 1))) = .int ((Int32.ofInt 1))) ∧ h.2.2.2.2 = 175 ∧ _ from ⟨⟨.boolean, rfl, rfl⟩, pz_175 hP, hQ⟩)
theorem pz_word {Q : am_Q} {w : Nat} (hP : pz_P N a c h) (hw : w < 21) (hQ : Q (some (.int (pz_b (pz_wd h a w)))) h) : am_call am_cod 1 195 [.ref 154, .int (nI w)] h Q := by
  refine pz_call (n := 195) (nL := 2) (rt := (some .boolean)) (rows := am_r195) (d := 0) (by decide +kernel) (by decide +kernel) rfl (by funext pc; rfl) (pz_175 hP) (by exact Nat.le_of_ble_eq_true rfl) ?_
  refine am_goX 3 (show am_sh h 154 = some (11, 0) ∧ (¬ (h.1 154 8) = 0 → pz_S 2 (some .boolean) am_r195 0 Q 43 [(0, .ref 154), (1, .int (nI w))] [] h) ∧ (¬ ¬ (h.1 154 8) = 0 → pz_S 2 (some .boolean) am_r195 0 Q 7 [(0, .ref 154), (1, .int (nI w))] [] h) from ⟨pz_154 hP, fun hc => ?_, fun hc => ?_⟩)
  · have e : pz_wd h a w = false := by
      unfold pz_wd
      rw [decide_eq_false hc]; rfl
    rw [e] at hQ
    exact am_goX 2 (show (∃ ty, (some .boolean) = some ty ∧ narrow ty (.int ((Int32.ofInt 0))) = .int ((Int32.ofInt 0))) ∧ h.2.2.2.2 = 175 ∧ _ from ⟨⟨.boolean, rfl, rfl⟩, pz_175 hP, hQ⟩)
  · have hf : h.1 154 8 = 0 := Decidable.not_not.mp hc
    clear hc
    refine am_goX 2 (show am_sh h 154 = some (11, 0) ∧ pz_S 2 (some .boolean) am_r195 0 Q 11 [(0, .ref 154), (1, .int (nI w))] [am_rf (h.2.2.1 154 4)] h from ⟨pz_154 hP, ?_⟩)
    rw [pz_r4 hP]
    refine am_goX 3 (show am_sh h 154 = some (11, 0) ∧ ∃ j n : Nat, am_sh h 156 = some (13, n) ∧ j < n ∧ (h.1 154 7) = nI j ∧ pz_S 2 (some .boolean) am_r195 0 Q 16 [(0, .ref 154), (1, .int (nI w))] [.int (h.1 156 j)] h from ⟨pz_154 hP, a, 1002, pz_156 hP, pz_al hP, hP.2.2.2.1, ?_⟩)
    refine am_goX 2 (show (¬ (h.1 156 a) = (Int32.ofInt 1) → pz_S 2 (some .boolean) am_r195 0 Q 43 [(0, .ref 154), (1, .int (nI w))] [] h) ∧ (¬ ¬ (h.1 156 a) = (Int32.ofInt 1) → pz_S 2 (some .boolean) am_r195 0 Q 20 [(0, .ref 154), (1, .int (nI w))] [] h) from ⟨fun hc => ?_, fun hc => ?_⟩)
    · have e : pz_wd h a w = false := by
        unfold pz_wd
        rw [decide_eq_true hf, decide_eq_false (show ¬ h.1 156 a = 1 from hc)]; rfl
      rw [e] at hQ
      exact am_goX 2 (show (∃ ty, (some .boolean) = some ty ∧ narrow ty (.int ((Int32.ofInt 0))) = .int ((Int32.ofInt 0))) ∧ h.2.2.2.2 = 175 ∧ _ from ⟨⟨.boolean, rfl, rfl⟩, pz_175 hP, hQ⟩)
    · have hs : h.1 156 a = 1 := Decidable.not_not.mp hc
      clear hc
      refine am_goX 2 (show am_sh h 154 = some (11, 0) ∧ pz_S 2 (some .boolean) am_r195 0 Q 24 [(0, .ref 154), (1, .int (nI w))] [am_rf (h.2.2.1 154 6)] h from ⟨pz_154 hP, ?_⟩)
      rw [pz_r6 hP]
      refine am_goX 3 (show am_sh h 154 = some (11, 0) ∧ ∃ j n : Nat, am_sh h 158 = some (14, n) ∧ j < n ∧ (h.1 154 7) = nI j ∧ pz_S 2 (some .boolean) am_r195 0 Q 29 [(0, .ref 154), (1, .int (nI w))] [.long (h.2.1 158 j)] h from ⟨pz_154 hP, a, 1002, pz_158 hP, pz_al hP, hP.2.2.2.1, ?_⟩)
      refine am_goX 2 (show am_sh h 154 = some (11, 0) ∧ pz_S 2 (some .boolean) am_r195 0 Q 33 [(0, .ref 154), (1, .int (nI w))] [am_rf (h.2.2.1 154 9), .long (h.2.1 158 a)] h from ⟨pz_154 hP, ?_⟩)
      rw [pz_r9 hP]
      refine am_goX 2 (show ∃ j n : Nat, am_sh h 159 = some (14, n) ∧ j < n ∧ (nI w) = nI j ∧ pz_S 2 (some .boolean) am_r195 0 Q 35 [(0, .ref 154), (1, .int (nI w))] [.long (h.2.1 159 j), .long (h.2.1 158 a)] h from ⟨w, 21, pz_159 hP, hw, rfl, ?_⟩)
      refine am_goX 2 (show (¬ (lg_cmp ((h.2.1 158 a)) ((h.2.1 159 w))) = 0 → pz_S 2 (some .boolean) am_r195 0 Q 43 [(0, .ref 154), (1, .int (nI w))] [] h) ∧ (¬ ¬ (lg_cmp ((h.2.1 158 a)) ((h.2.1 159 w))) = 0 → pz_S 2 (some .boolean) am_r195 0 Q 39 [(0, .ref 154), (1, .int (nI w))] [] h) from ⟨fun hc => ?_, fun hc => ?_⟩)
      · have e : pz_wd h a w = false := by
          unfold pz_wd
          rw [decide_eq_true hf, decide_eq_true hs, decide_eq_false (fun z => hc ((pz_cmp _ _).mpr z))]; rfl
        rw [e] at hQ
        exact am_goX 2 (show (∃ ty, (some .boolean) = some ty ∧ narrow ty (.int ((Int32.ofInt 0))) = .int ((Int32.ofInt 0))) ∧ h.2.2.2.2 = 175 ∧ _ from ⟨⟨.boolean, rfl, rfl⟩, pz_175 hP, hQ⟩)
      · have e : pz_wd h a w = true := by
          unfold pz_wd
          rw [decide_eq_true hf, decide_eq_true hs, decide_eq_true ((pz_cmp _ _).mp (Decidable.not_not.mp hc))]; rfl
        rw [e] at hQ
        exact am_goX 3 (show (∃ ty, (some .boolean) = some ty ∧ narrow ty (.int ((Int32.ofInt 1))) = .int ((Int32.ofInt 1))) ∧ h.2.2.2.2 = 175 ∧ _ from ⟨⟨.boolean, rfl, rfl⟩, pz_175 hP, hQ⟩)
theorem pz_plr (hP : pz_P N a c h) : 0 ≤ (h.1 157 a).toInt ∧ (h.1 157 a).toInt ≤ 1000 := hP.1.2.1.1 157 (0, 1001, 1, 0, 0, 1000) (iv_sgm (o := 157) (s := (0, 1001, 1, 0, 0, 1000)) (by decide +kernel)) a (Nat.zero_le _) (Nat.le_of_lt_succ (pz_al hP)) (Nat.mod_one _)
theorem pz_wv {x : Int32} (hx : 1 ≤ x.toInt ∧ x.toInt ≤ 5) {y : Int32} (hy : 0 ≤ y.toInt ∧ y.toInt ≤ 1000) : 0 < (x + (Int8.ofInt 16).toInt32 * y).toInt ∧ (x + (Int8.ofInt 16).toInt32 * y).toInt ≤ 16005 := by
  have e16 : ((Int8.ofInt 16).toInt32).toInt = 16 := by decide
  have e1 : ((Int8.ofInt 16).toInt32 * y).toInt = 16 * y.toInt := by
    rw [Int32.toInt_mul, e16]
    exact Int.bmod_eq_of_le (by omega) (by omega)
  have e2 : (x + (Int8.ofInt 16).toInt32 * y).toInt = x.toInt + 16 * y.toInt := by
    rw [Int32.toInt_add, e1]
    exact Int.bmod_eq_of_le (by omega) (by omega)
  omega
def pz_wh (h : am_H) (a : Nat) (x : Int32) : am_H := am_wI h 154 8 (x + (Int8.ofInt 16).toInt32 * h.1 157 a)
theorem pz_wrong {Q : am_Q} {x : Int32} (hP : pz_P N a c h) (hx : 1 ≤ x.toInt ∧ x.toInt ≤ 5) (hQ : ∀ h', pz_P N a c h' → ag_fr pz_M h h' → ¬ h'.1 154 8 = 0 → Q none h') : am_call am_cod 1 197 [.ref 154, .int x] h Q := by
  refine pz_call (n := 197) (nL := 2) (rt := none) (rows := am_r197) (d := 0) (by decide +kernel) (by decide +kernel) rfl (by funext pc; rfl) (pz_175 hP) (by exact Nat.le_of_ble_eq_true rfl) ?_
  refine am_goX 3 (show am_sh h 154 = some (11, 0) ∧ (¬ (h.1 154 8) = 0 → pz_S 2 none am_r197 0 Q 25 [(0, .ref 154), (1, .int x)] [] h) ∧ (¬ ¬ (h.1 154 8) = 0 → pz_S 2 none am_r197 0 Q 7 [(0, .ref 154), (1, .int x)] [] h) from ⟨pz_154 hP, fun hc => ?_, fun hc => ?_⟩)
  · exact am_goX 1 (show (none : Option FieldType) = none ∧ h.2.2.2.2 = 175 ∧ _ from ⟨rfl, pz_175 hP, hQ h hP (ag_fr.refl h) hc⟩)
  · refine am_goX 5 (show am_sh h 154 = some (11, 0) ∧ pz_S 2 none am_r197 0 Q 15 [(0, .ref 154), (1, .int x)] [am_rf (h.2.2.1 154 5), .int (Int8.ofInt 16).toInt32, .int x, .ref 154] h from ⟨pz_154 hP, ?_⟩)
    rw [pz_r5 hP]
    refine am_goX 3 (show am_sh h 154 = some (11, 0) ∧ ∃ j n : Nat, am_sh h 157 = some (13, n) ∧ j < n ∧ (h.1 154 7) = nI j ∧ pz_S 2 none am_r197 0 Q 20 [(0, .ref 154), (1, .int x)] [.int (h.1 157 j), .int (Int8.ofInt 16).toInt32, .int x, .ref 154] h from ⟨pz_154 hP, a, 1002, pz_157 hP, pz_al hP, hP.2.2.2.1, ?_⟩)
    refine am_goX 3 (show am_sh h 154 = some (11, 0) ∧ narrow (am_fty 11 8) (.int ((x + ((Int8.ofInt 16).toInt32 * (h.1 157 a))))) = .int ((x + ((Int8.ofInt 16).toInt32 * (h.1 157 a)))) ∧ fits (am_fty 11 8) (.int ((x + ((Int8.ofInt 16).toInt32 * (h.1 157 a))))) = true ∧ pz_S 2 none am_r197 0 Q 25 [(0, .ref 154), (1, .int x)] [] (am_wI h 154 8 ((x + ((Int8.ofInt 16).toInt32 * (h.1 157 a))))) from ⟨pz_154 hP, rfl, rfl, ?_⟩)
    have hv := pz_wv hx (pz_plr hP)
    have hf := pz_ft hP hv.1 hv.2
    exact am_goX 1 (show (none : Option FieldType) = none ∧ (am_wI h 154 8 ((x + ((Int8.ofInt 16).toInt32 * (h.1 157 a))))).2.2.2.2 = 175 ∧ _ from ⟨rfl, pz_175 hf.1, hQ _ hf.1 (pz_fr rfl) hf.2⟩)
theorem pz_hsign {Q : am_Q} {x : Int32} (hP : pz_P N a c h) (h1 : pz_sg h a x = true → Q (some (.int 1)) (am_wI h 154 7 (nI (a + 1)))) (h0 : pz_sg h a x = false → Q (some (.int 0)) h) : am_call am_cod 2 217 [.ref 154, .int x] h Q := by
  refine pz_call (n := 217) (nL := 3) (rt := (some .boolean)) (rows := am_r217) (d := 1) (by decide +kernel) (by decide +kernel) rfl (by funext pc; rfl) (pz_175 hP) (by exact Nat.le_of_ble_eq_true rfl) ?_
  refine am_goX 3 (show am_rc h 154 11 ∧ 0 ≤ 8 ∧ h.2.2.2.2 + am_al 215 ≤ 175 ∧ am_call am_cod 1 215 [.ref 154, .int x] h (fun vv h' => pz_S 3 (some .boolean) am_r217 1 Q 5 [(0, .ref 154), (1, .int x)] (vv.toList ++ []) h') from ⟨pz_rc hP, by decide, pz_lim hP rfl, pz_sign hP ?_⟩)
  cases e : pz_sg h a x with
  | true =>
    refine am_goX 6 (show 2 < 3 ∧ (Value.ref 154).category = 1 ∧ am_sh h 154 = some (11, 0) ∧ (pz_b true = 0 → pz_S 3 (some .boolean) am_r217 1 Q 19 [(2, .int (pz_b true)), (0, .ref 154), (1, .int x)] [.int (h.1 154 7), .ref 154] h) ∧ (¬ pz_b true = 0 → pz_S 3 (some .boolean) am_r217 1 Q 15 [(2, .int (pz_b true)), (0, .ref 154), (1, .int x)] [.int (h.1 154 7), .ref 154] h) from ⟨by decide, rfl, pz_154 hP, fun z => absurd z (by decide), fun _ => ?_⟩)
    refine am_goX 4 (show am_sh h 154 = some (11, 0) ∧ narrow (am_fty 11 7) (.int (((h.1 154 7) + (Int32.ofInt 1)))) = .int (((h.1 154 7) + (Int32.ofInt 1))) ∧ fits (am_fty 11 7) (.int (((h.1 154 7) + (Int32.ofInt 1)))) = true ∧ pz_S 3 (some .boolean) am_r217 1 Q 24 [(2, .int (pz_b true)), (0, .ref 154), (1, .int x)] [] (am_wI h 154 7 (((h.1 154 7) + (Int32.ofInt 1)))) from ⟨pz_154 hP, rfl, rfl, ?_⟩)
    rw [hP.2.2.2.1, xw_i1]
    have hP1 := pz_at (a' := a + 1) hP (by have := (pz_sg_lt hP e).2; omega)
    exact am_goX 2 (show (∃ ty, (some .boolean) = some ty ∧ narrow ty (.int ((pz_b true))) = .int ((pz_b true))) ∧ (am_wI h 154 7 (nI (a + 1))).2.2.2.2 = 175 ∧ _ from ⟨⟨.boolean, rfl, rfl⟩, pz_175 hP1, h1 e⟩)
  | false =>
    refine am_goX 6 (show 2 < 3 ∧ (Value.ref 154).category = 1 ∧ am_sh h 154 = some (11, 0) ∧ (pz_b false = 0 → pz_S 3 (some .boolean) am_r217 1 Q 19 [(2, .int (pz_b false)), (0, .ref 154), (1, .int x)] [.int (h.1 154 7), .ref 154] h) ∧ (¬ pz_b false = 0 → pz_S 3 (some .boolean) am_r217 1 Q 15 [(2, .int (pz_b false)), (0, .ref 154), (1, .int x)] [.int (h.1 154 7), .ref 154] h) from ⟨by decide, rfl, pz_154 hP, fun _ => ?_, fun z => absurd rfl z⟩)
    refine am_goX 3 (show am_sh h 154 = some (11, 0) ∧ narrow (am_fty 11 7) (.int (((h.1 154 7) + (Int32.ofInt 0)))) = .int (((h.1 154 7) + (Int32.ofInt 0))) ∧ fits (am_fty 11 7) (.int (((h.1 154 7) + (Int32.ofInt 0)))) = true ∧ pz_S 3 (some .boolean) am_r217 1 Q 24 [(2, .int (pz_b false)), (0, .ref 154), (1, .int x)] [] (am_wI h 154 7 (((h.1 154 7) + (Int32.ofInt 0)))) from ⟨pz_154 hP, rfl, rfl, ?_⟩)
    rw [pz_same (show h.1 154 7 = h.1 154 7 + Int32.ofInt 0 from (Int32.add_zero _).symm)]
    exact am_goX 2 (show (∃ ty, (some .boolean) = some ty ∧ narrow ty (.int ((pz_b false))) = .int ((pz_b false))) ∧ h.2.2.2.2 = 175 ∧ _ from ⟨⟨.boolean, rfl, rfl⟩, pz_175 hP, h0 e⟩)
theorem pz_hword {Q : am_Q} {w : Nat} (hP : pz_P N a c h) (hw : w < 21) (h1 : pz_wd h a w = true → Q (some (.int 1)) (am_wI h 154 7 (nI (a + 1)))) (h0 : pz_wd h a w = false → Q (some (.int 0)) h) : am_call am_cod 2 204 [.ref 154, .int (nI w)] h Q := by
  refine pz_call (n := 204) (nL := 3) (rt := (some .boolean)) (rows := am_r204) (d := 1) (by decide +kernel) (by decide +kernel) rfl (by funext pc; rfl) (pz_175 hP) (by exact Nat.le_of_ble_eq_true rfl) ?_
  refine am_goX 3 (show am_rc h 154 11 ∧ 0 ≤ 8 ∧ h.2.2.2.2 + am_al 195 ≤ 175 ∧ am_call am_cod 1 195 [.ref 154, .int (nI w)] h (fun vv h' => pz_S 3 (some .boolean) am_r204 1 Q 5 [(0, .ref 154), (1, .int (nI w))] (vv.toList ++ []) h') from ⟨pz_rc hP, by decide, pz_lim hP rfl, pz_word hP hw ?_⟩)
  cases e : pz_wd h a w with
  | true =>
    refine am_goX 6 (show 2 < 3 ∧ (Value.ref 154).category = 1 ∧ am_sh h 154 = some (11, 0) ∧ (pz_b true = 0 → pz_S 3 (some .boolean) am_r204 1 Q 19 [(2, .int (pz_b true)), (0, .ref 154), (1, .int (nI w))] [.int (h.1 154 7), .ref 154] h) ∧ (¬ pz_b true = 0 → pz_S 3 (some .boolean) am_r204 1 Q 15 [(2, .int (pz_b true)), (0, .ref 154), (1, .int (nI w))] [.int (h.1 154 7), .ref 154] h) from ⟨by decide, rfl, pz_154 hP, fun z => absurd z (by decide), fun _ => ?_⟩)
    refine am_goX 4 (show am_sh h 154 = some (11, 0) ∧ narrow (am_fty 11 7) (.int (((h.1 154 7) + (Int32.ofInt 1)))) = .int (((h.1 154 7) + (Int32.ofInt 1))) ∧ fits (am_fty 11 7) (.int (((h.1 154 7) + (Int32.ofInt 1)))) = true ∧ pz_S 3 (some .boolean) am_r204 1 Q 24 [(2, .int (pz_b true)), (0, .ref 154), (1, .int (nI w))] [] (am_wI h 154 7 (((h.1 154 7) + (Int32.ofInt 1)))) from ⟨pz_154 hP, rfl, rfl, ?_⟩)
    rw [hP.2.2.2.1, xw_i1]
    have hP1 := pz_at (a' := a + 1) hP (by have := (pz_wd_lt hP e).2; omega)
    exact am_goX 2 (show (∃ ty, (some .boolean) = some ty ∧ narrow ty (.int ((pz_b true))) = .int ((pz_b true))) ∧ (am_wI h 154 7 (nI (a + 1))).2.2.2.2 = 175 ∧ _ from ⟨⟨.boolean, rfl, rfl⟩, pz_175 hP1, h1 e⟩)
  | false =>
    refine am_goX 6 (show 2 < 3 ∧ (Value.ref 154).category = 1 ∧ am_sh h 154 = some (11, 0) ∧ (pz_b false = 0 → pz_S 3 (some .boolean) am_r204 1 Q 19 [(2, .int (pz_b false)), (0, .ref 154), (1, .int (nI w))] [.int (h.1 154 7), .ref 154] h) ∧ (¬ pz_b false = 0 → pz_S 3 (some .boolean) am_r204 1 Q 15 [(2, .int (pz_b false)), (0, .ref 154), (1, .int (nI w))] [.int (h.1 154 7), .ref 154] h) from ⟨by decide, rfl, pz_154 hP, fun _ => ?_, fun z => absurd rfl z⟩)
    refine am_goX 3 (show am_sh h 154 = some (11, 0) ∧ narrow (am_fty 11 7) (.int (((h.1 154 7) + (Int32.ofInt 0)))) = .int (((h.1 154 7) + (Int32.ofInt 0))) ∧ fits (am_fty 11 7) (.int (((h.1 154 7) + (Int32.ofInt 0)))) = true ∧ pz_S 3 (some .boolean) am_r204 1 Q 24 [(2, .int (pz_b false)), (0, .ref 154), (1, .int (nI w))] [] (am_wI h 154 7 (((h.1 154 7) + (Int32.ofInt 0)))) from ⟨pz_154 hP, rfl, rfl, ?_⟩)
    rw [pz_same (show h.1 154 7 = h.1 154 7 + Int32.ofInt 0 from (Int32.add_zero _).symm)]
    exact am_goX 2 (show (∃ ty, (some .boolean) = some ty ∧ narrow ty (.int ((pz_b false))) = .int ((pz_b false))) ∧ h.2.2.2.2 = 175 ∧ _ from ⟨⟨.boolean, rfl, rfl⟩, pz_175 hP, h0 e⟩)
theorem pz_tsign {Q : am_Q} {x : Int32} (hP : pz_P N a c h) (h1 : pz_sg h a x = true → Q none (am_wI h 154 7 (nI (a + 1)))) (h0 : ∀ h', pz_P N a c h' → ag_fr pz_M h h' → ¬ h'.1 154 8 = 0 → Q none h') : am_call am_cod 2 218 [.ref 154, .int x] h Q := by
  refine pz_call (n := 218) (nL := 2) (rt := none) (rows := am_r218) (d := 1) (by decide +kernel) (by decide +kernel) rfl (by funext pc; rfl) (pz_175 hP) (by exact Nat.le_of_ble_eq_true rfl) ?_
  refine am_goX 3 (show am_rc h 154 11 ∧ 0 ≤ 8 ∧ h.2.2.2.2 + am_al 215 ≤ 175 ∧ am_call am_cod 1 215 [.ref 154, .int x] h (fun vv h' => pz_S 2 none am_r218 1 Q 5 [(0, .ref 154), (1, .int x)] (vv.toList ++ []) h') from ⟨pz_rc hP, by decide, pz_lim hP rfl, pz_sign hP ?_⟩)
  cases e : pz_sg h a x with
  | true =>
    refine am_goX 1 (show (pz_b true = 0 → pz_S 2 none am_r218 1 Q 21 [(0, .ref 154), (1, .int x)] [] h) ∧ (¬ pz_b true = 0 → pz_S 2 none am_r218 1 Q 8 [(0, .ref 154), (1, .int x)] [] h) from ⟨fun z => absurd z (by decide), fun _ => ?_⟩)
    refine am_goX 6 (show (Value.ref 154).category = 1 ∧ am_sh h 154 = some (11, 0) ∧ am_sh h 154 = some (11, 0) ∧ narrow (am_fty 11 7) (.int (((h.1 154 7) + (Int32.ofInt 1)))) = .int (((h.1 154 7) + (Int32.ofInt 1))) ∧ fits (am_fty 11 7) (.int (((h.1 154 7) + (Int32.ofInt 1)))) = true ∧ pz_S 2 none am_r218 1 Q 18 [(0, .ref 154), (1, .int x)] [] (am_wI h 154 7 (((h.1 154 7) + (Int32.ofInt 1)))) from ⟨rfl, pz_154 hP, pz_154 hP, rfl, rfl, ?_⟩)
    rw [hP.2.2.2.1, xw_i1]
    have hP1 := pz_at (a' := a + 1) hP (by have := (pz_sg_lt hP e).2; omega)
    exact am_goX 2 (show (none : Option FieldType) = none ∧ (am_wI h 154 7 (nI (a + 1))).2.2.2.2 = 175 ∧ _ from ⟨rfl, pz_175 hP1, h1 e⟩)
  | false =>
    refine am_goX 1 (show (pz_b false = 0 → pz_S 2 none am_r218 1 Q 21 [(0, .ref 154), (1, .int x)] [] h) ∧ (¬ pz_b false = 0 → pz_S 2 none am_r218 1 Q 8 [(0, .ref 154), (1, .int x)] [] h) from ⟨fun _ => ?_, fun z => absurd rfl z⟩)
    refine am_goX 3 (show am_rc h 154 11 ∧ 0 ≤ 8 ∧ h.2.2.2.2 + am_al 197 ≤ 175 ∧ am_call am_cod 1 197 [.ref 154, .int (Int32.ofInt 1)] h (fun vv h' => pz_S 2 none am_r218 1 Q 26 [(0, .ref 154), (1, .int x)] (vv.toList ++ []) h') from ⟨pz_rc hP, by decide, pz_lim hP rfl, pz_wrong hP (by decide) (fun h' q1 q2 q3 => ?_)⟩)
    exact am_goX 1 (show (none : Option FieldType) = none ∧ h'.2.2.2.2 = 175 ∧ _ from ⟨rfl, pz_175 q1, h0 h' q1 q2 q3⟩)
