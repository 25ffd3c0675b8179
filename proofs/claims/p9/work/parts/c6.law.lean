/-! WALKS: the class's day, its small functions -/
theorem dn_s {x y : Int32} {a b : Nat} (hb : b ≤ a) (h1 : x = nI a) (h2 : y = nI b) : x - y = nI (a - b) := by
  rw [h1, h2]
  have e := nI_add (a - b) b
  rw [Nat.sub_add_cancel hb] at e
  rw [← e, Int32.add_sub_cancel]
theorem dn_d {x y : Int32} {a b : Nat} (hb : b ≤ a) (h1 : x = nI a) (h2 : y = - nI b) : x + y = nI (a - b) := by
  rw [h1, h2, ← Int32.sub_eq_add_neg]
  exact dn_s hb rfl rfl
/-! states written to -/
abbrev sSD (s : dS) (v : Int32) : dS := (v, s.2)
abbrev sSX (s : dS) (v : Int32) : dS := (s.1, v, s.2.2)
abbrev sSL (s : dS) (i : Nat) (v : Int32) : dS := (s.1, s.2.1, sp_uI s.2.2.1 i v, s.2.2.2)
abbrev sSM (s : dS) (i : Nat) (v : Int32) : dS := (s.1, s.2.1, s.2.2.1, sp_uI s.2.2.2.1 i v, s.2.2.2.2)
abbrev sSH (s : dS) (i : Nat) (v : Int32) : dS := (s.1, s.2.1, s.2.2.1, s.2.2.2.1, sp_uI s.2.2.2.2.1 i v, s.2.2.2.2.2)
abbrev sSA (s : dS) (i : Nat) (v : Int32) : dS := (s.1, s.2.1, s.2.2.1, s.2.2.2.1, s.2.2.2.2.1, sp_uI s.2.2.2.2.2 i v)
theorem em_u (h : am_H) (o k j : Nat) (v : Int32) : (am_wI h o k v).1 o j = if j = k then v else h.1 o j := by
  show (if o = o ∧ j = k then v else h.1 o j) = _
  by_cases e : j = k
  · rw [if_pos ⟨rfl, e⟩, if_pos e]
  · rw [if_neg (fun w => e w.2), if_neg e]
theorem sC_w {o ob k : Nat} {v : Int32} {s : dS} {h : am_H} (hn : ¬ (o ≤ ob ∧ ob ≤ o + 4)) (l : sC o s h) : sC o s (am_wI h ob k v) := by
  obtain ⟨⟨a, b⟩, c, d⟩ := l
  refine ⟨⟨?_, ?_⟩, fun i hi => ⟨?_, ?_⟩, fun i hi => ⟨?_, ?_⟩⟩ <;> rw [em_wn _ _ (by omega)]
  · exact a
  · exact b
  · exact (c i hi).1
  · exact (c i hi).2
  · exact (d i hi).1
  · exact (d i hi).2
theorem sC_wD {o : Nat} {v : Int32} {s : dS} {h : am_H} (_ : 0 = 0) (l : sC o s h) : sC o (sSD s v) (am_wI h o 0 v) := by
  obtain ⟨⟨a, b⟩, c, d⟩ := l
  refine ⟨⟨em_we _ _ _ _, ?_⟩, fun i hi => ⟨?_, ?_⟩, fun i hi => ⟨?_, ?_⟩⟩ <;> rw [em_wn _ _ (by omega)]
  · exact b
  · exact (c i hi).1
  · exact (c i hi).2
  · exact (d i hi).1
  · exact (d i hi).2
theorem sC_wX {o : Nat} {v : Int32} {s : dS} {h : am_H} (_ : 0 = 0) (l : sC o s h) : sC o (sSX s v) (am_wI h o 1 v) := by
  obtain ⟨⟨a, b⟩, c, d⟩ := l
  refine ⟨⟨?_, em_we _ _ _ _⟩, fun i hi => ⟨?_, ?_⟩, fun i hi => ⟨?_, ?_⟩⟩ <;> rw [em_wn _ _ (by omega)]
  · exact a
  · exact (c i hi).1
  · exact (c i hi).2
  · exact (d i hi).1
  · exact (d i hi).2

theorem sC_wL {o k : Nat} {v : Int32} {s : dS} {h : am_H} (_ : 0 = 0) (l : sC o s h) : sC o (sSL s k v) (am_wI h (o + 1) k v) := by
  obtain ⟨⟨a, b⟩, c, d⟩ := l
  refine ⟨⟨?_, ?_⟩, fun i hi => ⟨?_, ?_⟩, fun i hi => ⟨?_, ?_⟩⟩
  · rw [em_wn _ _ (by omega)]; exact a
  · rw [em_wn _ _ (by omega)]; exact b
  · rw [em_u, (c i hi).1]; rfl
  · rw [em_wn _ _ (by omega)]; exact (c i hi).2
  · rw [em_wn _ _ (by omega)]; exact (d i hi).1
  · rw [em_wn _ _ (by omega)]; exact (d i hi).2
theorem sC_wM {o k : Nat} {v : Int32} {s : dS} {h : am_H} (_ : 0 = 0) (l : sC o s h) : sC o (sSM s k v) (am_wI h (o + 2) k v) := by
  obtain ⟨⟨a, b⟩, c, d⟩ := l
  refine ⟨⟨?_, ?_⟩, fun i hi => ⟨?_, ?_⟩, fun i hi => ⟨?_, ?_⟩⟩
  · rw [em_wn _ _ (by omega)]; exact a
  · rw [em_wn _ _ (by omega)]; exact b
  · rw [em_wn _ _ (by omega)]; exact (c i hi).1
  · rw [em_u, (c i hi).2]; rfl
  · rw [em_wn _ _ (by omega)]; exact (d i hi).1
  · rw [em_wn _ _ (by omega)]; exact (d i hi).2
theorem sC_wH {o k : Nat} {v : Int32} {s : dS} {h : am_H} (_ : 0 = 0) (l : sC o s h) : sC o (sSH s k v) (am_wI h (o + 3) k v) := by
  obtain ⟨⟨a, b⟩, c, d⟩ := l
  refine ⟨⟨?_, ?_⟩, fun i hi => ⟨?_, ?_⟩, fun i hi => ⟨?_, ?_⟩⟩
  · rw [em_wn _ _ (by omega)]; exact a
  · rw [em_wn _ _ (by omega)]; exact b
  · rw [em_wn _ _ (by omega)]; exact (c i hi).1
  · rw [em_wn _ _ (by omega)]; exact (c i hi).2
  · rw [em_u, (d i hi).1]; rfl
  · rw [em_wn _ _ (by omega)]; exact (d i hi).2
theorem sC_wA {o k : Nat} {v : Int32} {s : dS} {h : am_H} (_ : 0 = 0) (l : sC o s h) : sC o (sSA s k v) (am_wI h (o + 4) k v) := by
  obtain ⟨⟨a, b⟩, c, d⟩ := l
  refine ⟨⟨?_, ?_⟩, fun i hi => ⟨?_, ?_⟩, fun i hi => ⟨?_, ?_⟩⟩
  · rw [em_wn _ _ (by omega)]; exact a
  · rw [em_wn _ _ (by omega)]; exact b
  · rw [em_wn _ _ (by omega)]; exact (c i hi).1
  · rw [em_wn _ _ (by omega)]; exact (c i hi).2
  · rw [em_wn _ _ (by omega)]; exact (d i hi).1
  · rw [em_u, (d i hi).2]; rfl
theorem c_v_w {c ob k : Nat} {v : Int32} {C : sp_C} {h : am_H} (hn : ¬ (c ≤ ob ∧ ob ≤ c + 9)) (l : c_v c C h) : c_v c C (am_wI h ob k v) := by
  obtain ⟨⟨a1, a2, a3⟩, ⟨b1, b2, b3⟩, ⟨d1, d2⟩, f1, f2, f3⟩ := l
  refine ⟨⟨?_, a2, fun i hi => ⟨?_, ?_⟩⟩, ⟨?_, b2, fun i hi => ⟨?_, ?_⟩⟩, ⟨?_, d2⟩, ?_, f2, fun i hi => ?_⟩ <;> rw [em_wn _ _ (by omega)]
  · exact a1
  · exact (a3 i hi).1
  · exact (a3 i hi).2
  · exact b1
  · exact (b3 i hi).1
  · exact (b3 i hi).2
  · exact d1
  · exact f1
  · exact f3 i hi
theorem c_d_w {c ob k : Nat} {v : Int32} {C : sp_C} {h : am_H} (hn : ¬ ob = c + 5) (l : c_d c C h) : c_d c C (am_wI h ob k v) := fun i hi => by
  rw [em_wn _ _ (by omega)]
  exact l i hi
theorem stk_w {o k m : Nat} {v : Int32} {f : Nat → Int32} {h : am_H} (l : ∀ j, j < m → h.1 o j = f j) : ∀ j, j < m → (am_wI h o k v).1 o j = sp_uI f k v j := fun j hj => by
  rw [em_u, l j hj]
  rfl
/-- what the law leaves: all but its stack o -/
def lfr (o : Nat) (h0 h : am_H) : Prop := h.2 = h0.2 ∧ ∀ a k, ¬ a = o → h.1 a k = h0.1 a k
theorem lfr_w {o k : Nat} {v : Int32} {h0 h : am_H} (l : lfr o h0 h) : lfr o h0 (am_wI h o k v) := ⟨l.1, fun a j hn => (em_wn _ _ (fun w => hn w.1)).trans (l.2 a j hn)⟩
theorem lfr_0 {o : Nat} {h : am_H} : lfr o h h := ⟨rfl, fun _ _ _ => rfl⟩
theorem lfr_P {o : Nat} {h0 h : am_H} (l : lfr o h0 h) (hP : ex_P h0) : ex_P h := by
  unfold ex_P
  rw [l.1]
  exact hP
theorem lfr_c {o c : Nat} {C : sp_C} {h0 h : am_H} (l : lfr o h0 h) (hn : ¬ (c ≤ o ∧ o ≤ c + 9)) (t : c_v c C h0) : c_v c C h := by
  have n : ∀ a k, c ≤ a → a ≤ c + 9 → h.1 a k = h0.1 a k := fun a k h1 h2 => l.2 a k (by omega)
  exact c_v_x (n _ _ (by omega) (by omega)) (n _ _ (by omega) (by omega)) (n _ _ (by omega) (by omega)) (fun i _ => ⟨n _ _ (by omega) (by omega), n _ _ (by omega) (by omega)⟩) (fun i _ => ⟨n _ _ (by omega) (by omega), n _ _ (by omega) (by omega)⟩) (n _ _ (by omega) (by omega)) (fun i _ => n _ _ (by omega) (by omega)) t
theorem lfr_d {o c : Nat} {C : sp_C} {h0 h : am_H} (l : lfr o h0 h) (hn : ¬ o = c + 5) (t : c_d c C h0) : c_d c C h := fun i hi => (l.2 _ _ (by omega)).trans (t i hi)
theorem lfr_s {o b : Nat} {s : dS} {h0 h : am_H} (l : lfr o h0 h) (hn : ¬ (b ≤ o ∧ o ≤ b + 4)) (t : sC b s h0) : sC b s h := by
  obtain ⟨⟨a1, a2⟩, a3, a4⟩ := t
  exact ⟨⟨(l.2 _ _ (by omega)).trans a1, (l.2 _ _ (by omega)).trans a2⟩, fun i hi => ⟨(l.2 _ _ (by omega)).trans (a3 i hi).1, (l.2 _ _ (by omega)).trans (a3 i hi).2⟩, fun i hi => ⟨(l.2 _ _ (by omega)).trans (a4 i hi).1, (l.2 _ _ (by omega)).trans (a4 i hi).2⟩⟩
theorem nI_g0 {n : Nat} (hn : n ≤ 4096) (h : ¬ nI n ≤ 0) : 0 < n := by
  rcases Nat.eq_zero_or_pos n with w | w
  · rw [w] at h
    exact absurd (by decide) h
  · exact w
variable {h : am_H} {Q : am_Q} {C : sp_C} {x y w a b c d : Int32} {p q e : Nat} {s u : dS} {h0 : am_H} {f : Nat → Int32}
theorem ex_16 {h : am_H} (hP : ex_P h) : am_sh h 16 = some (13, 32) := (ex_so hP (by decide +kernel)).2
theorem ex_w16 {h : am_H} (hP : ex_P h) : am_so h 16 = some (13, 32) := (ex_so hP (by decide +kernel)).1
theorem ex_27 {h : am_H} (hP : ex_P h) : am_sh h 27 = some (13, 32) := (ex_so hP (by decide +kernel)).2
theorem ex_w27 {h : am_H} (hP : ex_P h) : am_so h 27 = some (13, 32) := (ex_so hP (by decide +kernel)).1
theorem ex_r14_1 {h : am_H} (hP : ex_P h) : h.2.2.1 14 1 = some 16 := hP.2 14 1 16 (by decide +kernel)
theorem ex_r25_1 {h : am_H} (hP : ex_P h) : h.2.2.1 25 1 = some 27 := hP.2 25 1 27 (by decide +kernel)
theorem sv2_60 : am_r60.all (fun q => sv2_ok q.2) = true := by decide +kernel
theorem sv2_102 : am_r102.all (fun q => sv2_ok q.2) = true := by decide +kernel
theorem sv2_103 : am_r103.all (fun q => sv2_ok q.2) = true := by decide +kernel
theorem sv2_105 : am_r105.all (fun q => sv2_ok q.2) = true := by decide +kernel
theorem sv2_107 : am_r107.all (fun q => sv2_ok q.2) = true := by decide +kernel
def d_60 (x y w : Int32) : Int32 := (if x < y then Int32.ofInt 0 else (if w < x then Int32.ofInt 0 else Int32.ofInt 1))
theorem d_60_w (hP : ex_P h)  (hQ : Q (some (.int (d_60 x y w))) h) : am_call am_cod 1 60 [.int x, .int y, .int w] h Q := by
  refine pz_call (n := 60) (nL := 3) (rt := (some .boolean)) (rows := am_r60) (d := 0) (by decide +kernel) (by decide +kernel) rfl (by funext pc; rfl) (ex_175 hP) (by exact Nat.le_of_ble_eq_true rfl) ?_
  suffices key : ∀ (v2 : Int32), v2 = (if x < y then Int32.ofInt 0 else (if w < x then Int32.ofInt 0 else Int32.ofInt 1)) → pz_S 3 (some .boolean) am_r60 0 Q 15 [] [.int v2] h by
    refine am_goX 3 (show (x < y → pz_S 3 (some .boolean) am_r60 0 Q 14 [(0, .int x), (1, .int y), (2, .int w)] [] h) ∧ (¬ (x < y) → pz_S 3 (some .boolean) am_r60 0 Q 5 [(0, .int x), (1, .int y), (2, .int w)] [] h) from ⟨fun c1 => ?_, fun c1 => ?_⟩)
    · refine am_goX 1 (show pz_S 3 (some .boolean) am_r60 0 Q 15 [(0, .int x), (1, .int y), (2, .int w)] [.int (Int32.ofInt 0)] h from ?_)
      exact sv_S2 sv2_60 (fun q hq => absurd hq List.not_mem_nil) (key _ (if_pos c1).symm)
    · suffices key : ∀ (v4 : Int32), v4 = (if w < x then Int32.ofInt 0 else Int32.ofInt 1) → pz_S 3 (some .boolean) am_r60 0 Q 15 [] [.int v4] h by
        refine am_goX 3 (show (w < x → pz_S 3 (some .boolean) am_r60 0 Q 14 [(0, .int x), (1, .int y), (2, .int w)] [] h) ∧ (¬ (w < x) → pz_S 3 (some .boolean) am_r60 0 Q 10 [(0, .int x), (1, .int y), (2, .int w)] [] h) from ⟨fun c3 => ?_, fun c3 => ?_⟩)
        · refine am_goX 1 (show pz_S 3 (some .boolean) am_r60 0 Q 15 [(0, .int x), (1, .int y), (2, .int w)] [.int (Int32.ofInt 0)] h from ?_)
          exact sv_S2 sv2_60 (fun q hq => absurd hq List.not_mem_nil) (key _ (if_pos c3).symm)
        · refine am_goX 2 (show pz_S 3 (some .boolean) am_r60 0 Q 15 [(0, .int x), (1, .int y), (2, .int w)] [.int (Int32.ofInt 1)] h from ?_)
          exact sv_S2 sv2_60 (fun q hq => absurd hq List.not_mem_nil) (key _ (if_neg c3).symm)
      intro v4 e5
      subst e5
      exact sv_S2 sv2_60 (fun q hq => absurd hq List.not_mem_nil) (key _ (if_neg c1).symm)
  intro v2 e6
  subst e6
  exact am_goX 1 (show (∃ ty, (some .boolean) = some ty ∧ narrow ty (.int (if x < y then Int32.ofInt 0 else (if w < x then Int32.ofInt 0 else Int32.ofInt 1))) = .int (if x < y then Int32.ofInt 0 else (if w < x then Int32.ofInt 0 else Int32.ofInt 1))) ∧ h.2.2.2.2 = 175 ∧ _ from ⟨⟨.boolean, rfl, (by (repeat' split) <;> rfl)⟩, ex_175 hP, hQ⟩)
def d_90 (x : Int32) : Int32 := (if 0 ≤ (x ^^^ ((Int8.ofInt 7).toInt32)) then x - x / ((Int8.ofInt 7).toInt32) * ((Int8.ofInt 7).toInt32) else (if (x - x / ((Int8.ofInt 7).toInt32) * ((Int8.ofInt 7).toInt32)) = 0 then x - x / ((Int8.ofInt 7).toInt32) * ((Int8.ofInt 7).toInt32) else (x - x / ((Int8.ofInt 7).toInt32) * ((Int8.ofInt 7).toInt32)) + ((Int8.ofInt 7).toInt32)))
theorem d_90_w (hP : ex_P h)  (hQ : Q (some (.int (d_90 x))) h) : am_call am_cod 1 90 [.int x, .int ((Int8.ofInt 7).toInt32)] h Q := by
  refine pz_call (n := 90) (nL := 3) (rt := (some .int)) (rows := am_r90) (d := 0) (by decide +kernel) (by decide +kernel) rfl (by funext pc; rfl) (ex_175 hP) (by exact Nat.le_of_ble_eq_true rfl) ?_
  refine am_goX 8 (show ¬ ((Int8.ofInt 7).toInt32) = 0 ∧ 2 < 3 ∧ (0 ≤ (x ^^^ ((Int8.ofInt 7).toInt32)) → pz_S 3 (some .int) am_r90 0 Q 18 [(2, .int (x - x / ((Int8.ofInt 7).toInt32) * ((Int8.ofInt 7).toInt32))), (0, .int x), (1, .int ((Int8.ofInt 7).toInt32))] [] h) ∧ (¬ (0 ≤ (x ^^^ ((Int8.ofInt 7).toInt32))) → pz_S 3 (some .int) am_r90 0 Q 10 [(2, .int (x - x / ((Int8.ofInt 7).toInt32) * ((Int8.ofInt 7).toInt32))), (0, .int x), (1, .int ((Int8.ofInt 7).toInt32))] [] h) from ⟨by decide, by decide, fun c7 => ?_, fun c7 => ?_⟩)
  · exact am_goX 2 (show (∃ ty, (some .int) = some ty ∧ narrow ty (.int (x - x / ((Int8.ofInt 7).toInt32) * ((Int8.ofInt 7).toInt32))) = .int (x - x / ((Int8.ofInt 7).toInt32) * ((Int8.ofInt 7).toInt32))) ∧ h.2.2.2.2 = 175 ∧ _ from ⟨⟨.int, rfl, rfl⟩, ex_175 hP, dn_q (if_pos c7) hQ⟩)
  · refine am_goX 2 (show ((x - x / ((Int8.ofInt 7).toInt32) * ((Int8.ofInt 7).toInt32)) = 0 → pz_S 3 (some .int) am_r90 0 Q 18 [(2, .int (x - x / ((Int8.ofInt 7).toInt32) * ((Int8.ofInt 7).toInt32))), (0, .int x), (1, .int ((Int8.ofInt 7).toInt32))] [] h) ∧ (¬ ((x - x / ((Int8.ofInt 7).toInt32) * ((Int8.ofInt 7).toInt32)) = 0) → pz_S 3 (some .int) am_r90 0 Q 14 [(2, .int (x - x / ((Int8.ofInt 7).toInt32) * ((Int8.ofInt 7).toInt32))), (0, .int x), (1, .int ((Int8.ofInt 7).toInt32))] [] h) from ⟨fun c8 => ?_, fun c8 => ?_⟩)
    · exact am_goX 2 (show (∃ ty, (some .int) = some ty ∧ narrow ty (.int (x - x / ((Int8.ofInt 7).toInt32) * ((Int8.ofInt 7).toInt32))) = .int (x - x / ((Int8.ofInt 7).toInt32) * ((Int8.ofInt 7).toInt32))) ∧ h.2.2.2.2 = 175 ∧ _ from ⟨⟨.int, rfl, rfl⟩, ex_175 hP, dn_q ((if_neg c7).trans (if_pos c8)) hQ⟩)
    · exact am_goX 4 (show (∃ ty, (some .int) = some ty ∧ narrow ty (.int ((x - x / ((Int8.ofInt 7).toInt32) * ((Int8.ofInt 7).toInt32)) + ((Int8.ofInt 7).toInt32))) = .int ((x - x / ((Int8.ofInt 7).toInt32) * ((Int8.ofInt 7).toInt32)) + ((Int8.ofInt 7).toInt32))) ∧ h.2.2.2.2 = 175 ∧ _ from ⟨⟨.int, rfl, rfl⟩, ex_175 hP, dn_q ((if_neg c7).trans (if_neg c8)) hQ⟩)
def d_103 (x y w : Int32) : Int32 := (if ¬ x = (Int32.ofInt 2) then (if w = y then Int32.ofInt 1 else (if ¬ x = (Int32.ofInt 1) then Int32.ofInt 0 else (if ¬ w = ((y + (Int32.ofInt 1)) - (y + (Int32.ofInt 1)) / ((Int8.ofInt 7).toInt32) * ((Int8.ofInt 7).toInt32)) then Int32.ofInt 0 else Int32.ofInt 1))) else (if y = (Int32.ofInt 1) then (if w = y then Int32.ofInt 1 else (if ¬ x = (Int32.ofInt 1) then Int32.ofInt 0 else (if ¬ w = ((y + (Int32.ofInt 1)) - (y + (Int32.ofInt 1)) / ((Int8.ofInt 7).toInt32) * ((Int8.ofInt 7).toInt32)) then Int32.ofInt 0 else Int32.ofInt 1))) else Int32.ofInt 0))
theorem d_103_w (hP : ex_P h)  (hQ : Q (some (.int (d_103 x y w))) h) : am_call am_cod 1 103 [.int x, .int y, .int w] h Q := by
  refine pz_call (n := 103) (nL := 3) (rt := (some .boolean)) (rows := am_r103) (d := 0) (by decide +kernel) (by decide +kernel) rfl (by funext pc; rfl) (ex_175 hP) (by exact Nat.le_of_ble_eq_true rfl) ?_
  refine am_goX 3 (show (¬ x = (Int32.ofInt 2) → pz_S 3 (some .boolean) am_r103 0 Q 12 [(0, .int x), (1, .int y), (2, .int w)] [] h) ∧ (¬ ¬ x = (Int32.ofInt 2) → pz_S 3 (some .boolean) am_r103 0 Q 5 [(0, .int x), (1, .int y), (2, .int w)] [] h) from ⟨fun c9 => ?_, fun c9 => ?_⟩)
  · suffices key : ∀ (v11 : Int32), v11 = (if w = y then Int32.ofInt 1 else (if ¬ x = (Int32.ofInt 1) then Int32.ofInt 0 else (if ¬ w = ((y + (Int32.ofInt 1)) - (y + (Int32.ofInt 1)) / ((Int8.ofInt 7).toInt32) * ((Int8.ofInt 7).toInt32)) then Int32.ofInt 0 else Int32.ofInt 1))) → pz_S 3 (some .boolean) am_r103 0 Q 37 [] [.int v11] h by
      refine am_goX 3 (show (w = y → pz_S 3 (some .boolean) am_r103 0 Q 32 [(0, .int x), (1, .int y), (2, .int w)] [] h) ∧ (¬ (w = y) → pz_S 3 (some .boolean) am_r103 0 Q 17 [(0, .int x), (1, .int y), (2, .int w)] [] h) from ⟨fun c10 => ?_, fun c10 => ?_⟩)
      · refine am_goX 2 (show pz_S 3 (some .boolean) am_r103 0 Q 37 [(0, .int x), (1, .int y), (2, .int w)] [.int (Int32.ofInt 1)] h from ?_)
        exact sv_S2 sv2_103 (fun q hq => absurd hq List.not_mem_nil) (key _ (if_pos c10).symm)
      · suffices key : ∀ (v13 : Int32), v13 = (if ¬ x = (Int32.ofInt 1) then Int32.ofInt 0 else (if ¬ w = ((y + (Int32.ofInt 1)) - (y + (Int32.ofInt 1)) / ((Int8.ofInt 7).toInt32) * ((Int8.ofInt 7).toInt32)) then Int32.ofInt 0 else Int32.ofInt 1)) → pz_S 3 (some .boolean) am_r103 0 Q 37 [] [.int v13] h by
          refine am_goX 3 (show (¬ x = (Int32.ofInt 1) → pz_S 3 (some .boolean) am_r103 0 Q 36 [(0, .int x), (1, .int y), (2, .int w)] [] h) ∧ (¬ ¬ x = (Int32.ofInt 1) → pz_S 3 (some .boolean) am_r103 0 Q 22 [(0, .int x), (1, .int y), (2, .int w)] [] h) from ⟨fun c12 => ?_, fun c12 => ?_⟩)
          · refine am_goX 1 (show pz_S 3 (some .boolean) am_r103 0 Q 37 [(0, .int x), (1, .int y), (2, .int w)] [.int (Int32.ofInt 0)] h from ?_)
            exact sv_S2 sv2_103 (fun q hq => absurd hq List.not_mem_nil) (key _ (if_pos c12).symm)
          · suffices key : ∀ (v15 : Int32), v15 = (if ¬ w = ((y + (Int32.ofInt 1)) - (y + (Int32.ofInt 1)) / ((Int8.ofInt 7).toInt32) * ((Int8.ofInt 7).toInt32)) then Int32.ofInt 0 else Int32.ofInt 1) → pz_S 3 (some .boolean) am_r103 0 Q 37 [] [.int v15] h by
              refine am_goX 7 (show ¬ ((Int8.ofInt 7).toInt32) = 0 ∧ (¬ w = ((y + (Int32.ofInt 1)) - (y + (Int32.ofInt 1)) / ((Int8.ofInt 7).toInt32) * ((Int8.ofInt 7).toInt32)) → pz_S 3 (some .boolean) am_r103 0 Q 36 [(0, .int x), (1, .int y), (2, .int w)] [] h) ∧ (¬ ¬ w = ((y + (Int32.ofInt 1)) - (y + (Int32.ofInt 1)) / ((Int8.ofInt 7).toInt32) * ((Int8.ofInt 7).toInt32)) → pz_S 3 (some .boolean) am_r103 0 Q 32 [(0, .int x), (1, .int y), (2, .int w)] [] h) from ⟨by decide, fun c14 => ?_, fun c14 => ?_⟩)
              · refine am_goX 1 (show pz_S 3 (some .boolean) am_r103 0 Q 37 [(0, .int x), (1, .int y), (2, .int w)] [.int (Int32.ofInt 0)] h from ?_)
                exact sv_S2 sv2_103 (fun q hq => absurd hq List.not_mem_nil) (key _ (if_pos c14).symm)
              · refine am_goX 2 (show pz_S 3 (some .boolean) am_r103 0 Q 37 [(0, .int x), (1, .int y), (2, .int w)] [.int (Int32.ofInt 1)] h from ?_)
                exact sv_S2 sv2_103 (fun q hq => absurd hq List.not_mem_nil) (key _ (if_neg c14).symm)
            intro v15 e16
            subst e16
            exact sv_S2 sv2_103 (fun q hq => absurd hq List.not_mem_nil) (key _ (if_neg c12).symm)
        intro v13 e17
        subst e17
        exact sv_S2 sv2_103 (fun q hq => absurd hq List.not_mem_nil) (key _ (if_neg c10).symm)
    intro v11 e18
    subst e18
    exact am_goX 1 (show (∃ ty, (some .boolean) = some ty ∧ narrow ty (.int (if w = y then Int32.ofInt 1 else (if ¬ x = (Int32.ofInt 1) then Int32.ofInt 0 else (if ¬ w = ((y + (Int32.ofInt 1)) - (y + (Int32.ofInt 1)) / ((Int8.ofInt 7).toInt32) * ((Int8.ofInt 7).toInt32)) then Int32.ofInt 0 else Int32.ofInt 1)))) = .int (if w = y then Int32.ofInt 1 else (if ¬ x = (Int32.ofInt 1) then Int32.ofInt 0 else (if ¬ w = ((y + (Int32.ofInt 1)) - (y + (Int32.ofInt 1)) / ((Int8.ofInt 7).toInt32) * ((Int8.ofInt 7).toInt32)) then Int32.ofInt 0 else Int32.ofInt 1)))) ∧ h.2.2.2.2 = 175 ∧ _ from ⟨⟨.boolean, rfl, (by (repeat' split) <;> rfl)⟩, ex_175 hP, dn_q (if_pos c9) hQ⟩)
  · refine am_goX 3 (show (y = (Int32.ofInt 1) → pz_S 3 (some .boolean) am_r103 0 Q 12 [(0, .int x), (1, .int y), (2, .int w)] [] h) ∧ (¬ (y = (Int32.ofInt 1)) → pz_S 3 (some .boolean) am_r103 0 Q 10 [(0, .int x), (1, .int y), (2, .int w)] [] h) from ⟨fun c19 => ?_, fun c19 => ?_⟩)
    · suffices key : ∀ (v21 : Int32), v21 = (if w = y then Int32.ofInt 1 else (if ¬ x = (Int32.ofInt 1) then Int32.ofInt 0 else (if ¬ w = ((y + (Int32.ofInt 1)) - (y + (Int32.ofInt 1)) / ((Int8.ofInt 7).toInt32) * ((Int8.ofInt 7).toInt32)) then Int32.ofInt 0 else Int32.ofInt 1))) → pz_S 3 (some .boolean) am_r103 0 Q 37 [] [.int v21] h by
        refine am_goX 3 (show (w = y → pz_S 3 (some .boolean) am_r103 0 Q 32 [(0, .int x), (1, .int y), (2, .int w)] [] h) ∧ (¬ (w = y) → pz_S 3 (some .boolean) am_r103 0 Q 17 [(0, .int x), (1, .int y), (2, .int w)] [] h) from ⟨fun c20 => ?_, fun c20 => ?_⟩)
        · refine am_goX 2 (show pz_S 3 (some .boolean) am_r103 0 Q 37 [(0, .int x), (1, .int y), (2, .int w)] [.int (Int32.ofInt 1)] h from ?_)
          exact sv_S2 sv2_103 (fun q hq => absurd hq List.not_mem_nil) (key _ (if_pos c20).symm)
        · suffices key : ∀ (v23 : Int32), v23 = (if ¬ x = (Int32.ofInt 1) then Int32.ofInt 0 else (if ¬ w = ((y + (Int32.ofInt 1)) - (y + (Int32.ofInt 1)) / ((Int8.ofInt 7).toInt32) * ((Int8.ofInt 7).toInt32)) then Int32.ofInt 0 else Int32.ofInt 1)) → pz_S 3 (some .boolean) am_r103 0 Q 37 [] [.int v23] h by
            refine am_goX 3 (show (¬ x = (Int32.ofInt 1) → pz_S 3 (some .boolean) am_r103 0 Q 36 [(0, .int x), (1, .int y), (2, .int w)] [] h) ∧ (¬ ¬ x = (Int32.ofInt 1) → pz_S 3 (some .boolean) am_r103 0 Q 22 [(0, .int x), (1, .int y), (2, .int w)] [] h) from ⟨fun c22 => ?_, fun c22 => ?_⟩)
            · refine am_goX 1 (show pz_S 3 (some .boolean) am_r103 0 Q 37 [(0, .int x), (1, .int y), (2, .int w)] [.int (Int32.ofInt 0)] h from ?_)
              exact sv_S2 sv2_103 (fun q hq => absurd hq List.not_mem_nil) (key _ (if_pos c22).symm)
            · suffices key : ∀ (v25 : Int32), v25 = (if ¬ w = ((y + (Int32.ofInt 1)) - (y + (Int32.ofInt 1)) / ((Int8.ofInt 7).toInt32) * ((Int8.ofInt 7).toInt32)) then Int32.ofInt 0 else Int32.ofInt 1) → pz_S 3 (some .boolean) am_r103 0 Q 37 [] [.int v25] h by
                refine am_goX 7 (show ¬ ((Int8.ofInt 7).toInt32) = 0 ∧ (¬ w = ((y + (Int32.ofInt 1)) - (y + (Int32.ofInt 1)) / ((Int8.ofInt 7).toInt32) * ((Int8.ofInt 7).toInt32)) → pz_S 3 (some .boolean) am_r103 0 Q 36 [(0, .int x), (1, .int y), (2, .int w)] [] h) ∧ (¬ ¬ w = ((y + (Int32.ofInt 1)) - (y + (Int32.ofInt 1)) / ((Int8.ofInt 7).toInt32) * ((Int8.ofInt 7).toInt32)) → pz_S 3 (some .boolean) am_r103 0 Q 32 [(0, .int x), (1, .int y), (2, .int w)] [] h) from ⟨by decide, fun c24 => ?_, fun c24 => ?_⟩)
                · refine am_goX 1 (show pz_S 3 (some .boolean) am_r103 0 Q 37 [(0, .int x), (1, .int y), (2, .int w)] [.int (Int32.ofInt 0)] h from ?_)
                  exact sv_S2 sv2_103 (fun q hq => absurd hq List.not_mem_nil) (key _ (if_pos c24).symm)
                · refine am_goX 2 (show pz_S 3 (some .boolean) am_r103 0 Q 37 [(0, .int x), (1, .int y), (2, .int w)] [.int (Int32.ofInt 1)] h from ?_)
                  exact sv_S2 sv2_103 (fun q hq => absurd hq List.not_mem_nil) (key _ (if_neg c24).symm)
              intro v25 e26
              subst e26
              exact sv_S2 sv2_103 (fun q hq => absurd hq List.not_mem_nil) (key _ (if_neg c22).symm)
          intro v23 e27
          subst e27
          exact sv_S2 sv2_103 (fun q hq => absurd hq List.not_mem_nil) (key _ (if_neg c20).symm)
      intro v21 e28
      subst e28
      exact am_goX 1 (show (∃ ty, (some .boolean) = some ty ∧ narrow ty (.int (if w = y then Int32.ofInt 1 else (if ¬ x = (Int32.ofInt 1) then Int32.ofInt 0 else (if ¬ w = ((y + (Int32.ofInt 1)) - (y + (Int32.ofInt 1)) / ((Int8.ofInt 7).toInt32) * ((Int8.ofInt 7).toInt32)) then Int32.ofInt 0 else Int32.ofInt 1)))) = .int (if w = y then Int32.ofInt 1 else (if ¬ x = (Int32.ofInt 1) then Int32.ofInt 0 else (if ¬ w = ((y + (Int32.ofInt 1)) - (y + (Int32.ofInt 1)) / ((Int8.ofInt 7).toInt32) * ((Int8.ofInt 7).toInt32)) then Int32.ofInt 0 else Int32.ofInt 1)))) ∧ h.2.2.2.2 = 175 ∧ _ from ⟨⟨.boolean, rfl, (by (repeat' split) <;> rfl)⟩, ex_175 hP, dn_q ((if_neg c9).trans (if_pos c19)) hQ⟩)
    · exact am_goX 2 (show (∃ ty, (some .boolean) = some ty ∧ narrow ty (.int (Int32.ofInt 0)) = .int (Int32.ofInt 0)) ∧ h.2.2.2.2 = 175 ∧ _ from ⟨⟨.boolean, rfl, rfl⟩, ex_175 hP, dn_q ((if_neg c9).trans (if_neg c19)) hQ⟩)
def d_106 (x a b c d : Int32) : Int32 := (if x = Int32.ofInt (-3) then c else (if x = Int32.ofInt (-2) then b else (if x = Int32.ofInt (-1) then a else d)))
theorem d_106_w (hP : ex_P h)  (hQ : Q (some (.int (d_106 x a b c d))) h) : am_call am_cod 1 106 [.int x, .int a, .int b, .int c, .int d] h Q := by
  refine pz_call (n := 106) (nL := 5) (rt := (some .int)) (rows := am_r106) (d := 0) (by decide +kernel) (by decide +kernel) rfl (by funext pc; rfl) (ex_175 hP) (by exact Nat.le_of_ble_eq_true rfl) ?_
  refine am_goX 2 (show ((x.toInt < (-3) ∨ (-1) < x.toInt) → pz_S 5 (some .int) am_r106 0 Q 34 [(0, .int x), (1, .int a), (2, .int b), (3, .int c), (4, .int d)] [] h) ∧ (∀ j : Nat, x.toInt = (-3) + (j : Int) → (-3) + (j : Int) ≤ (-1) → pz_S 5 (some .int) am_r106 0 Q ((1 : Int) + ((#[31, 29, 27] : Array Int)[j]?).getD 0).toNat [(0, .int x), (1, .int a), (2, .int b), (3, .int c), (4, .int d)] [] h) from ⟨fun hd => ?_, fun j hj1 hj2 => ?_⟩)
  · have c29 : ¬ x = Int32.ofInt (-3) := fun w => by rw [w] at hd; revert hd; decide
    have c30 : ¬ x = Int32.ofInt (-2) := fun w => by rw [w] at hd; revert hd; decide
    have c31 : ¬ x = Int32.ofInt (-1) := fun w => by rw [w] at hd; revert hd; decide
    exact am_goX 2 (show (∃ ty, (some .int) = some ty ∧ narrow ty (.int d) = .int d) ∧ h.2.2.2.2 = 175 ∧ _ from ⟨⟨.int, rfl, rfl⟩, ex_175 hP, dn_q ((if_neg c29).trans ((if_neg c30).trans (if_neg c31))) hQ⟩)
  · have hj : j = 0 ∨ j = 1 ∨ j = 2 := by omega
    rcases hj with rfl | rfl | rfl
    · have c29 : x = Int32.ofInt (-3) := Int32.toInt_inj.mp (hj1.trans (by decide))
      show pz_S 5 (some .int) am_r106 0 Q 32 [(0, .int x), (1, .int a), (2, .int b), (3, .int c), (4, .int d)] [] h
      exact am_goX 2 (show (∃ ty, (some .int) = some ty ∧ narrow ty (.int c) = .int c) ∧ h.2.2.2.2 = 175 ∧ _ from ⟨⟨.int, rfl, rfl⟩, ex_175 hP, dn_q (if_pos c29) hQ⟩)
    · have c30 : x = Int32.ofInt (-2) := Int32.toInt_inj.mp (hj1.trans (by decide))
      have c29 : ¬ x = Int32.ofInt (-3) := by rw [c30]; decide
      show pz_S 5 (some .int) am_r106 0 Q 30 [(0, .int x), (1, .int a), (2, .int b), (3, .int c), (4, .int d)] [] h
      exact am_goX 2 (show (∃ ty, (some .int) = some ty ∧ narrow ty (.int b) = .int b) ∧ h.2.2.2.2 = 175 ∧ _ from ⟨⟨.int, rfl, rfl⟩, ex_175 hP, dn_q ((if_neg c29).trans (if_pos c30)) hQ⟩)
    · have c31 : x = Int32.ofInt (-1) := Int32.toInt_inj.mp (hj1.trans (by decide))
      have c29 : ¬ x = Int32.ofInt (-3) := by rw [c31]; decide
      have c30 : ¬ x = Int32.ofInt (-2) := by rw [c31]; decide
      show pz_S 5 (some .int) am_r106 0 Q 28 [(0, .int x), (1, .int a), (2, .int b), (3, .int c), (4, .int d)] [] h
      exact am_goX 2 (show (∃ ty, (some .int) = some ty ∧ narrow ty (.int a) = .int a) ∧ h.2.2.2.2 = 175 ∧ _ from ⟨⟨.int, rfl, rfl⟩, ex_175 hP, dn_q ((if_neg c29).trans ((if_neg c30).trans (if_pos c31))) hQ⟩)
def d_107 (x a b : Int32) : Int32 := (if x = Int32.ofInt (-11) then a - b else (if x = Int32.ofInt (-10) then a + b else (if x = Int32.ofInt (-9) then (if ¬ a = b then Int32.ofInt 0 else Int32.ofInt 1) else (if x = Int32.ofInt (-8) then (if b ≤ a then Int32.ofInt 0 else Int32.ofInt 1) else (if x = Int32.ofInt (-7) then (if ¬ a = 0 then Int32.ofInt 1 else (if b = 0 then Int32.ofInt 0 else Int32.ofInt 1)) else (if x = Int32.ofInt (-6) then (if a = 0 then Int32.ofInt 0 else (if b = 0 then Int32.ofInt 0 else Int32.ofInt 1)) else a * b))))))
theorem d_107_w (hP : ex_P h)  (hQ : Q (some (.int (d_107 x a b))) h) : am_call am_cod 1 107 [.int x, .int a, .int b] h Q := by
  refine pz_call (n := 107) (nL := 3) (rt := (some .int)) (rows := am_r107) (d := 0) (by decide +kernel) (by decide +kernel) rfl (by funext pc; rfl) (ex_175 hP) (by exact Nat.le_of_ble_eq_true rfl) ?_
  refine am_goX 2 (show ((x.toInt < (-11) ∨ (-6) < x.toInt) → pz_S 3 (some .int) am_r107 0 Q 98 [(0, .int x), (1, .int a), (2, .int b)] [] h) ∧ (∀ j : Nat, x.toInt = (-11) + (j : Int) → (-11) + (j : Int) ≤ (-6) → pz_S 3 (some .int) am_r107 0 Q ((1 : Int) + ((#[93, 89, 78, 67, 53, 39] : Array Int)[j]?).getD 0).toNat [(0, .int x), (1, .int a), (2, .int b)] [] h) from ⟨fun hd => ?_, fun j hj1 hj2 => ?_⟩)
  · have c32 : ¬ x = Int32.ofInt (-11) := fun w => by rw [w] at hd; revert hd; decide
    have c33 : ¬ x = Int32.ofInt (-10) := fun w => by rw [w] at hd; revert hd; decide
    have c34 : ¬ x = Int32.ofInt (-9) := fun w => by rw [w] at hd; revert hd; decide
    have c35 : ¬ x = Int32.ofInt (-8) := fun w => by rw [w] at hd; revert hd; decide
    have c36 : ¬ x = Int32.ofInt (-7) := fun w => by rw [w] at hd; revert hd; decide
    have c37 : ¬ x = Int32.ofInt (-6) := fun w => by rw [w] at hd; revert hd; decide
    exact am_goX 4 (show (∃ ty, (some .int) = some ty ∧ narrow ty (.int (a * b)) = .int (a * b)) ∧ h.2.2.2.2 = 175 ∧ _ from ⟨⟨.int, rfl, rfl⟩, ex_175 hP, dn_q ((if_neg c32).trans ((if_neg c33).trans ((if_neg c34).trans ((if_neg c35).trans ((if_neg c36).trans (if_neg c37)))))) hQ⟩)
  · have hj : j = 0 ∨ j = 1 ∨ j = 2 ∨ j = 3 ∨ j = 4 ∨ j = 5 := by omega
    rcases hj with rfl | rfl | rfl | rfl | rfl | rfl
    · have c32 : x = Int32.ofInt (-11) := Int32.toInt_inj.mp (hj1.trans (by decide))
      show pz_S 3 (some .int) am_r107 0 Q 94 [(0, .int x), (1, .int a), (2, .int b)] [] h
      exact am_goX 4 (show (∃ ty, (some .int) = some ty ∧ narrow ty (.int (a - b)) = .int (a - b)) ∧ h.2.2.2.2 = 175 ∧ _ from ⟨⟨.int, rfl, rfl⟩, ex_175 hP, dn_q (if_pos c32) hQ⟩)
    · have c33 : x = Int32.ofInt (-10) := Int32.toInt_inj.mp (hj1.trans (by decide))
      have c32 : ¬ x = Int32.ofInt (-11) := by rw [c33]; decide
      show pz_S 3 (some .int) am_r107 0 Q 90 [(0, .int x), (1, .int a), (2, .int b)] [] h
      exact am_goX 4 (show (∃ ty, (some .int) = some ty ∧ narrow ty (.int (a + b)) = .int (a + b)) ∧ h.2.2.2.2 = 175 ∧ _ from ⟨⟨.int, rfl, rfl⟩, ex_175 hP, dn_q ((if_neg c32).trans (if_pos c33)) hQ⟩)
    · have c34 : x = Int32.ofInt (-9) := Int32.toInt_inj.mp (hj1.trans (by decide))
      have c32 : ¬ x = Int32.ofInt (-11) := by rw [c34]; decide
      have c33 : ¬ x = Int32.ofInt (-10) := by rw [c34]; decide
      show pz_S 3 (some .int) am_r107 0 Q 79 [(0, .int x), (1, .int a), (2, .int b)] [] h
      suffices key : ∀ (v39 : Int32), v39 = (if ¬ a = b then Int32.ofInt 0 else Int32.ofInt 1) → pz_S 3 (some .int) am_r107 0 Q 89 [] [.int v39] h by
        refine am_goX 3 (show (¬ a = b → pz_S 3 (some .int) am_r107 0 Q 88 [(0, .int x), (1, .int a), (2, .int b)] [] h) ∧ (¬ ¬ a = b → pz_S 3 (some .int) am_r107 0 Q 84 [(0, .int x), (1, .int a), (2, .int b)] [] h) from ⟨fun c38 => ?_, fun c38 => ?_⟩)
        · refine am_goX 1 (show pz_S 3 (some .int) am_r107 0 Q 89 [(0, .int x), (1, .int a), (2, .int b)] [.int (Int32.ofInt 0)] h from ?_)
          exact sv_S2 sv2_107 (fun q hq => absurd hq List.not_mem_nil) (key _ (if_pos c38).symm)
        · refine am_goX 2 (show pz_S 3 (some .int) am_r107 0 Q 89 [(0, .int x), (1, .int a), (2, .int b)] [.int (Int32.ofInt 1)] h from ?_)
          exact sv_S2 sv2_107 (fun q hq => absurd hq List.not_mem_nil) (key _ (if_neg c38).symm)
      intro v39 e40
      subst e40
      exact am_goX 1 (show (∃ ty, (some .int) = some ty ∧ narrow ty (.int (if ¬ a = b then Int32.ofInt 0 else Int32.ofInt 1)) = .int (if ¬ a = b then Int32.ofInt 0 else Int32.ofInt 1)) ∧ h.2.2.2.2 = 175 ∧ _ from ⟨⟨.int, rfl, rfl⟩, ex_175 hP, dn_q ((if_neg c32).trans ((if_neg c33).trans (if_pos c34))) hQ⟩)
    · have c35 : x = Int32.ofInt (-8) := Int32.toInt_inj.mp (hj1.trans (by decide))
      have c32 : ¬ x = Int32.ofInt (-11) := by rw [c35]; decide
      have c33 : ¬ x = Int32.ofInt (-10) := by rw [c35]; decide
      have c34 : ¬ x = Int32.ofInt (-9) := by rw [c35]; decide
      show pz_S 3 (some .int) am_r107 0 Q 68 [(0, .int x), (1, .int a), (2, .int b)] [] h
      suffices key : ∀ (v42 : Int32), v42 = (if b ≤ a then Int32.ofInt 0 else Int32.ofInt 1) → pz_S 3 (some .int) am_r107 0 Q 78 [] [.int v42] h by
        refine am_goX 3 (show (b ≤ a → pz_S 3 (some .int) am_r107 0 Q 77 [(0, .int x), (1, .int a), (2, .int b)] [] h) ∧ (¬ (b ≤ a) → pz_S 3 (some .int) am_r107 0 Q 73 [(0, .int x), (1, .int a), (2, .int b)] [] h) from ⟨fun c41 => ?_, fun c41 => ?_⟩)
        · refine am_goX 1 (show pz_S 3 (some .int) am_r107 0 Q 78 [(0, .int x), (1, .int a), (2, .int b)] [.int (Int32.ofInt 0)] h from ?_)
          exact sv_S2 sv2_107 (fun q hq => absurd hq List.not_mem_nil) (key _ (if_pos c41).symm)
        · refine am_goX 2 (show pz_S 3 (some .int) am_r107 0 Q 78 [(0, .int x), (1, .int a), (2, .int b)] [.int (Int32.ofInt 1)] h from ?_)
          exact sv_S2 sv2_107 (fun q hq => absurd hq List.not_mem_nil) (key _ (if_neg c41).symm)
      intro v42 e43
      subst e43
      exact am_goX 1 (show (∃ ty, (some .int) = some ty ∧ narrow ty (.int (if b ≤ a then Int32.ofInt 0 else Int32.ofInt 1)) = .int (if b ≤ a then Int32.ofInt 0 else Int32.ofInt 1)) ∧ h.2.2.2.2 = 175 ∧ _ from ⟨⟨.int, rfl, rfl⟩, ex_175 hP, dn_q ((if_neg c32).trans ((if_neg c33).trans ((if_neg c34).trans (if_pos c35)))) hQ⟩)
    · have c36 : x = Int32.ofInt (-7) := Int32.toInt_inj.mp (hj1.trans (by decide))
      have c32 : ¬ x = Int32.ofInt (-11) := by rw [c36]; decide
      have c33 : ¬ x = Int32.ofInt (-10) := by rw [c36]; decide
      have c34 : ¬ x = Int32.ofInt (-9) := by rw [c36]; decide
      have c35 : ¬ x = Int32.ofInt (-8) := by rw [c36]; decide
      show pz_S 3 (some .int) am_r107 0 Q 54 [(0, .int x), (1, .int a), (2, .int b)] [] h
      suffices key : ∀ (v45 : Int32), v45 = (if ¬ a = 0 then Int32.ofInt 1 else (if b = 0 then Int32.ofInt 0 else Int32.ofInt 1)) → pz_S 3 (some .int) am_r107 0 Q 67 [] [.int v45] h by
        refine am_goX 2 (show (¬ a = 0 → pz_S 3 (some .int) am_r107 0 Q 62 [(0, .int x), (1, .int a), (2, .int b)] [] h) ∧ (¬ ¬ a = 0 → pz_S 3 (some .int) am_r107 0 Q 58 [(0, .int x), (1, .int a), (2, .int b)] [] h) from ⟨fun c44 => ?_, fun c44 => ?_⟩)
        · refine am_goX 2 (show pz_S 3 (some .int) am_r107 0 Q 67 [(0, .int x), (1, .int a), (2, .int b)] [.int (Int32.ofInt 1)] h from ?_)
          exact sv_S2 sv2_107 (fun q hq => absurd hq List.not_mem_nil) (key _ (if_pos c44).symm)
        · suffices key : ∀ (v47 : Int32), v47 = (if b = 0 then Int32.ofInt 0 else Int32.ofInt 1) → pz_S 3 (some .int) am_r107 0 Q 67 [] [.int v47] h by
            refine am_goX 2 (show (b = 0 → pz_S 3 (some .int) am_r107 0 Q 66 [(0, .int x), (1, .int a), (2, .int b)] [] h) ∧ (¬ (b = 0) → pz_S 3 (some .int) am_r107 0 Q 62 [(0, .int x), (1, .int a), (2, .int b)] [] h) from ⟨fun c46 => ?_, fun c46 => ?_⟩)
            · refine am_goX 1 (show pz_S 3 (some .int) am_r107 0 Q 67 [(0, .int x), (1, .int a), (2, .int b)] [.int (Int32.ofInt 0)] h from ?_)
              exact sv_S2 sv2_107 (fun q hq => absurd hq List.not_mem_nil) (key _ (if_pos c46).symm)
            · refine am_goX 2 (show pz_S 3 (some .int) am_r107 0 Q 67 [(0, .int x), (1, .int a), (2, .int b)] [.int (Int32.ofInt 1)] h from ?_)
              exact sv_S2 sv2_107 (fun q hq => absurd hq List.not_mem_nil) (key _ (if_neg c46).symm)
          intro v47 e48
          subst e48
          exact sv_S2 sv2_107 (fun q hq => absurd hq List.not_mem_nil) (key _ (if_neg c44).symm)
      intro v45 e49
      subst e49
      exact am_goX 1 (show (∃ ty, (some .int) = some ty ∧ narrow ty (.int (if ¬ a = 0 then Int32.ofInt 1 else (if b = 0 then Int32.ofInt 0 else Int32.ofInt 1))) = .int (if ¬ a = 0 then Int32.ofInt 1 else (if b = 0 then Int32.ofInt 0 else Int32.ofInt 1))) ∧ h.2.2.2.2 = 175 ∧ _ from ⟨⟨.int, rfl, rfl⟩, ex_175 hP, dn_q ((if_neg c32).trans ((if_neg c33).trans ((if_neg c34).trans ((if_neg c35).trans (if_pos c36))))) hQ⟩)
    · have c37 : x = Int32.ofInt (-6) := Int32.toInt_inj.mp (hj1.trans (by decide))
      have c32 : ¬ x = Int32.ofInt (-11) := by rw [c37]; decide
      have c33 : ¬ x = Int32.ofInt (-10) := by rw [c37]; decide
      have c34 : ¬ x = Int32.ofInt (-9) := by rw [c37]; decide
      have c35 : ¬ x = Int32.ofInt (-8) := by rw [c37]; decide
      have c36 : ¬ x = Int32.ofInt (-7) := by rw [c37]; decide
      show pz_S 3 (some .int) am_r107 0 Q 40 [(0, .int x), (1, .int a), (2, .int b)] [] h
      suffices key : ∀ (v51 : Int32), v51 = (if a = 0 then Int32.ofInt 0 else (if b = 0 then Int32.ofInt 0 else Int32.ofInt 1)) → pz_S 3 (some .int) am_r107 0 Q 53 [] [.int v51] h by
        refine am_goX 2 (show (a = 0 → pz_S 3 (some .int) am_r107 0 Q 52 [(0, .int x), (1, .int a), (2, .int b)] [] h) ∧ (¬ (a = 0) → pz_S 3 (some .int) am_r107 0 Q 44 [(0, .int x), (1, .int a), (2, .int b)] [] h) from ⟨fun c50 => ?_, fun c50 => ?_⟩)
        · refine am_goX 1 (show pz_S 3 (some .int) am_r107 0 Q 53 [(0, .int x), (1, .int a), (2, .int b)] [.int (Int32.ofInt 0)] h from ?_)
          exact sv_S2 sv2_107 (fun q hq => absurd hq List.not_mem_nil) (key _ (if_pos c50).symm)
        · suffices key : ∀ (v53 : Int32), v53 = (if b = 0 then Int32.ofInt 0 else Int32.ofInt 1) → pz_S 3 (some .int) am_r107 0 Q 53 [] [.int v53] h by
            refine am_goX 2 (show (b = 0 → pz_S 3 (some .int) am_r107 0 Q 52 [(0, .int x), (1, .int a), (2, .int b)] [] h) ∧ (¬ (b = 0) → pz_S 3 (some .int) am_r107 0 Q 48 [(0, .int x), (1, .int a), (2, .int b)] [] h) from ⟨fun c52 => ?_, fun c52 => ?_⟩)
            · refine am_goX 1 (show pz_S 3 (some .int) am_r107 0 Q 53 [(0, .int x), (1, .int a), (2, .int b)] [.int (Int32.ofInt 0)] h from ?_)
              exact sv_S2 sv2_107 (fun q hq => absurd hq List.not_mem_nil) (key _ (if_pos c52).symm)
            · refine am_goX 2 (show pz_S 3 (some .int) am_r107 0 Q 53 [(0, .int x), (1, .int a), (2, .int b)] [.int (Int32.ofInt 1)] h from ?_)
              exact sv_S2 sv2_107 (fun q hq => absurd hq List.not_mem_nil) (key _ (if_neg c52).symm)
          intro v53 e54
          subst e54
          exact sv_S2 sv2_107 (fun q hq => absurd hq List.not_mem_nil) (key _ (if_neg c50).symm)
      intro v51 e55
      subst e55
      exact am_goX 1 (show (∃ ty, (some .int) = some ty ∧ narrow ty (.int (if a = 0 then Int32.ofInt 0 else (if b = 0 then Int32.ofInt 0 else Int32.ofInt 1))) = .int (if a = 0 then Int32.ofInt 0 else (if b = 0 then Int32.ofInt 0 else Int32.ofInt 1))) ∧ h.2.2.2.2 = 175 ∧ _ from ⟨⟨.int, rfl, rfl⟩, ex_175 hP, dn_q ((if_neg c32).trans ((if_neg c33).trans ((if_neg c34).trans ((if_neg c35).trans ((if_neg c36).trans (if_pos c37)))))) hQ⟩)
theorem d_65_n (x y : Int32) : narrow .boolean (.int (d_65 x y)) = .int (d_65 x y) := by
  unfold d_65
  split <;> rfl
def d_68 (C : sp_C) (x : Int32) : Int32 := d_65 (dO C) (x - x / ((Int8.ofInt 28).toInt32) * ((Int8.ofInt 28).toInt32))
theorem d_68_t6 (hP : ex_P h) (hT : c_v 6 C h)  (hQ : Q (some (.int (d_68 C x))) h) : am_call am_cod 2 68 [.ref 6, .int x] h Q := by
  have h6 := hT.1.2.1
  have h5 := hT.2.1.2.1
  refine pz_call (n := 68) (nL := 2) (rt := (some .boolean)) (rows := am_r68) (d := 1) (by decide +kernel) (by decide +kernel) rfl (by funext pc; rfl) (ex_175 hP) (by exact Nat.le_of_ble_eq_true rfl) ?_
  refine am_goX 2 (show am_sh h 6 = some (0, 0) ∧ pz_S 2 (some .boolean) am_r68 1 Q 4 [(0, .ref 6), (1, .int x)] [.int (h.1 6 10)] h from ⟨ex_6 hP, ?_⟩)
  rw [show h.1 6 10 = dO C from hT.2.2.1.1]
  refine am_goX 4 (show ¬ ((Int8.ofInt 28).toInt32) = 0 ∧ 0 ≤ 8 ∧ h.2.2.2.2 + am_al 65 ≤ 175 ∧ am_call am_cod 1 65 [.int (dO C), .int (x - x / ((Int8.ofInt 28).toInt32) * ((Int8.ofInt 28).toInt32))] h (fun vv h' => pz_S 2 (some .boolean) am_r68 1 Q 11 [(0, .ref 6), (1, .int x)] (vv.toList ++ []) h') from ⟨by decide, by decide, ex_lim hP rfl, am_call.up (d_65_w hP ?_) (by decide)⟩)
  exact am_goX 1 (show (∃ ty, (some .boolean) = some ty ∧ narrow ty (.int (d_65 (dO C) (x - x / ((Int8.ofInt 28).toInt32) * ((Int8.ofInt 28).toInt32)))) = .int (d_65 (dO C) (x - x / ((Int8.ofInt 28).toInt32) * ((Int8.ofInt 28).toInt32)))) ∧ h.2.2.2.2 = 175 ∧ _ from ⟨⟨.boolean, rfl, d_65_n _ _⟩, ex_175 hP, hQ⟩)
def d_102_5 (C : sp_C) (p : Nat) (y : Int32) : Nat → Nat → Int32 → Int32
  | 0, _, a3 => a3
  | m + 1, k, a3 => d_102_5 C p y m (k + 1) (if (d_65 (dG C k) (nI p)) = 0 then a3 else (if (d_103 (dK C p) (dW C k) y) = 0 then a3 else a3 ||| ((Int32.ofInt 1) <<< ((nI k) &&& 31))))
theorem d_102_5_w6 (hP : ex_P h) (hT : c_v 6 C h) (hD : c_d 6 C h) (hp : p < dP C) : ∀ (m k : Nat) (a3 : Int32), k + m = dE C → (pz_S 5 (some .int) am_r102 1 Q 61 [(3, .int (d_102_5 C p y m k a3))] [] h) → pz_S 5 (some .int) am_r102 1 Q 5 [(0, .ref 6), (1, .int (nI p)), (2, .int y), (3, .int a3), (4, .int (nI k))] [] h := by
  intro m
  induction m with
  | zero =>
    intro k a3 hk hZ
    have h6 := hT.1.2.1
    have h5 := hT.2.1.2.1
    refine am_goX 3 (show am_sh h 6 = some (0, 0) ∧ pz_S 5 (some .int) am_r102 1 Q 11 [(0, .ref 6), (1, .int (nI p)), (2, .int y), (3, .int a3), (4, .int (nI k))] [.int (h.1 6 4), .int (nI k)] h from ⟨ex_6 hP, ?_⟩)
    rw [show h.1 6 4 = nI (dE C) from hT.2.1.1]
    refine am_goX 1 (show ((nI (dE C)) ≤ (nI k) → pz_S 5 (some .int) am_r102 1 Q 61 [(0, .ref 6), (1, .int (nI p)), (2, .int y), (3, .int a3), (4, .int (nI k))] [] h) ∧ (¬ ((nI (dE C)) ≤ (nI k)) → pz_S 5 (some .int) am_r102 1 Q 14 [(0, .ref 6), (1, .int (nI p)), (2, .int y), (3, .int a3), (4, .int (nI k))] [] h) from ⟨fun _ => ?_, fun hz => absurd (show nI (dE C) ≤ nI k from nI_le (by omega) (by omega)) hz⟩)
    exact sv_S2 sv2_102 (by intro q hq; simp only [List.mem_cons, List.not_mem_nil, or_false] at hq; rcases hq with rfl <;> rfl) (hZ)
  | succ m ih =>
    intro k a3 hk hZ
    have h6 := hT.1.2.1
    have h5 := hT.2.1.2.1
    refine am_goX 3 (show am_sh h 6 = some (0, 0) ∧ pz_S 5 (some .int) am_r102 1 Q 11 [(0, .ref 6), (1, .int (nI p)), (2, .int y), (3, .int a3), (4, .int (nI k))] [.int (h.1 6 4), .int (nI k)] h from ⟨ex_6 hP, ?_⟩)
    rw [show h.1 6 4 = nI (dE C) from hT.2.1.1]
    refine am_goX 1 (show ((nI (dE C)) ≤ (nI k) → pz_S 5 (some .int) am_r102 1 Q 61 [(0, .ref 6), (1, .int (nI p)), (2, .int y), (3, .int a3), (4, .int (nI k))] [] h) ∧ (¬ ((nI (dE C)) ≤ (nI k)) → pz_S 5 (some .int) am_r102 1 Q 14 [(0, .ref 6), (1, .int (nI p)), (2, .int y), (3, .int a3), (4, .int (nI k))] [] h) from ⟨fun hz => absurd hz (show ¬ (nI (dE C) ≤ nI k) by rw [nI_leI (by omega) (by omega)]; omega), fun _ => ?_⟩)
    refine am_goX 2 (show am_sh h 6 = some (0, 0) ∧ pz_S 5 (some .int) am_r102 1 Q 18 [(0, .ref 6), (1, .int (nI p)), (2, .int y), (3, .int a3), (4, .int (nI k))] [am_rf (h.2.2.1 6 8)] h from ⟨ex_6 hP, ?_⟩)
    rw [show am_rf (h.2.2.1 6 8) = .ref 13 from congrArg am_rf (ex_r6_8 hP)]
    refine am_goX 2 (show ∃ jj nn : Nat, am_sh h 13 = some (13, nn) ∧ jj < nn ∧ nI k = nI jj ∧ pz_S 5 (some .int) am_r102 1 Q 21 [(0, .ref 6), (1, .int (nI p)), (2, .int y), (3, .int a3), (4, .int (nI k))] [.int (h.1 13 jj)] h from ⟨k, 5, ex_13 hP, (by omega), rfl, ?_⟩)
    rw [show h.1 13 k = dG C k from (hT.2.1.2.2 k (by omega)).2]
    refine am_goX 2 (show 0 ≤ 8 ∧ h.2.2.2.2 + am_al 65 ≤ 175 ∧ am_call am_cod 1 65 [.int (dG C k), .int (nI p)] h (fun vv h' => pz_S 5 (some .int) am_r102 1 Q 25 [(0, .ref 6), (1, .int (nI p)), (2, .int y), (3, .int a3), (4, .int (nI k))] (vv.toList ++ []) h') from ⟨by decide, ex_lim hP rfl, am_call.up (d_65_w hP ?_) (by decide)⟩)
    suffices key : ∀ (v57 : Int32), v57 = (if (d_65 (dG C k) (nI p)) = 0 then a3 else (if (d_103 (dK C p) (dW C k) y) = 0 then a3 else a3 ||| ((Int32.ofInt 1) <<< ((nI k) &&& 31)))) → pz_S 5 (some .int) am_r102 1 Q 55 [(0, .ref 6), (1, .int (nI p)), (2, .int y), (3, .int v57), (4, .int (nI k))] [] h by
      refine am_goX 1 (show ((d_65 (dG C k) (nI p)) = 0 → pz_S 5 (some .int) am_r102 1 Q 55 [(0, .ref 6), (1, .int (nI p)), (2, .int y), (3, .int a3), (4, .int (nI k))] [] h) ∧ (¬ ((d_65 (dG C k) (nI p)) = 0) → pz_S 5 (some .int) am_r102 1 Q 28 [(0, .ref 6), (1, .int (nI p)), (2, .int y), (3, .int a3), (4, .int (nI k))] [] h) from ⟨fun c56 => ?_, fun c56 => ?_⟩)
      · exact sv_S2 sv2_102 (by intro q hq; simp only [List.mem_cons, List.not_mem_nil, or_false] at hq; rcases hq with rfl | rfl | rfl | rfl | rfl <;> rfl) (key _ (if_pos c56).symm)
      · refine am_goX 2 (show am_sh h 6 = some (0, 0) ∧ pz_S 5 (some .int) am_r102 1 Q 32 [(0, .ref 6), (1, .int (nI p)), (2, .int y), (3, .int a3), (4, .int (nI k))] [am_rf (h.2.2.1 6 2)] h from ⟨ex_6 hP, ?_⟩)
        rw [show am_rf (h.2.2.1 6 2) = .ref 8 from congrArg am_rf (ex_r6_2 hP)]
        refine am_goX 2 (show ∃ jj nn : Nat, am_sh h 8 = some (13, nn) ∧ jj < nn ∧ nI p = nI jj ∧ pz_S 5 (some .int) am_r102 1 Q 34 [(0, .ref 6), (1, .int (nI p)), (2, .int y), (3, .int a3), (4, .int (nI k))] [.int (h.1 8 jj)] h from ⟨p, 6, ex_8 hP, (by omega), rfl, ?_⟩)
        rw [show h.1 8 p = dK C p from (hT.1.2.2 p (by omega)).1]
        refine am_goX 2 (show am_sh h 6 = some (0, 0) ∧ pz_S 5 (some .int) am_r102 1 Q 38 [(0, .ref 6), (1, .int (nI p)), (2, .int y), (3, .int a3), (4, .int (nI k))] [am_rf (h.2.2.1 6 6), .int (dK C p)] h from ⟨ex_6 hP, ?_⟩)
        rw [show am_rf (h.2.2.1 6 6) = .ref 11 from congrArg am_rf (ex_r6_6 hP)]
        refine am_goX 2 (show ∃ jj nn : Nat, am_sh h 11 = some (13, nn) ∧ jj < nn ∧ nI k = nI jj ∧ pz_S 5 (some .int) am_r102 1 Q 41 [(0, .ref 6), (1, .int (nI p)), (2, .int y), (3, .int a3), (4, .int (nI k))] [.int (h.1 11 jj), .int (dK C p)] h from ⟨k, 5, ex_11 hP, (by omega), rfl, ?_⟩)
        rw [show h.1 11 k = dW C k from hD k (by omega)]
        refine am_goX 2 (show 0 ≤ 8 ∧ h.2.2.2.2 + am_al 103 ≤ 175 ∧ am_call am_cod 1 103 [.int (dK C p), .int (dW C k), .int y] h (fun vv h' => pz_S 5 (some .int) am_r102 1 Q 45 [(0, .ref 6), (1, .int (nI p)), (2, .int y), (3, .int a3), (4, .int (nI k))] (vv.toList ++ []) h') from ⟨by decide, ex_lim hP rfl, am_call.up (d_103_w hP ?_) (by decide)⟩)
        suffices key : ∀ (v59 : Int32), v59 = (if (d_103 (dK C p) (dW C k) y) = 0 then a3 else a3 ||| ((Int32.ofInt 1) <<< ((nI k) &&& 31))) → pz_S 5 (some .int) am_r102 1 Q 55 [(0, .ref 6), (1, .int (nI p)), (2, .int y), (3, .int v59), (4, .int (nI k))] [] h by
          refine am_goX 1 (show ((d_103 (dK C p) (dW C k) y) = 0 → pz_S 5 (some .int) am_r102 1 Q 55 [(0, .ref 6), (1, .int (nI p)), (2, .int y), (3, .int a3), (4, .int (nI k))] [] h) ∧ (¬ ((d_103 (dK C p) (dW C k) y) = 0) → pz_S 5 (some .int) am_r102 1 Q 48 [(0, .ref 6), (1, .int (nI p)), (2, .int y), (3, .int a3), (4, .int (nI k))] [] h) from ⟨fun c58 => ?_, fun c58 => ?_⟩)
          · exact sv_S2 sv2_102 (by intro q hq; simp only [List.mem_cons, List.not_mem_nil, or_false] at hq; rcases hq with rfl | rfl | rfl | rfl | rfl <;> rfl) (key _ (if_pos c58).symm)
          · refine am_goX 6 (show 3 < 5 ∧ pz_S 5 (some .int) am_r102 1 Q 55 [(3, .int (a3 ||| ((Int32.ofInt 1) <<< ((nI k) &&& 31)))), (0, .ref 6), (1, .int (nI p)), (2, .int y), (4, .int (nI k))] [] h from ⟨by decide, ?_⟩)
            exact sv_S2 sv2_102 (by intro q hq; simp only [List.mem_cons, List.not_mem_nil, or_false] at hq; rcases hq with rfl | rfl | rfl | rfl | rfl <;> rfl) (key _ (if_neg c58).symm)
        intro v59 e60
        subst e60
        exact sv_S2 sv2_102 (by intro q hq; simp only [List.mem_cons, List.not_mem_nil, or_false] at hq; rcases hq with rfl | rfl | rfl | rfl | rfl <;> rfl) (key _ (if_neg c56).symm)
    intro v57 e61
    subst e61
    refine am_goX 2 (show 4 < 5 ∧ pz_S 5 (some .int) am_r102 1 Q 5 [(4, .int ((nI k) + (Int32.ofInt 1))), (0, .ref 6), (1, .int (nI p)), (2, .int y), (3, .int (if (d_65 (dG C k) (nI p)) = 0 then a3 else (if (d_103 (dK C p) (dW C k) y) = 0 then a3 else a3 ||| ((Int32.ofInt 1) <<< ((nI k) &&& 31)))))] [] h from ⟨by decide, ?_⟩)
    rw [show (nI k) + (Int32.ofInt 1) = nI (k + 1) from (dn_a rfl rfl)]
    exact sv_S2 sv2_102 (by intro q hq; simp only [List.mem_cons, List.not_mem_nil, or_false] at hq; rcases hq with rfl | rfl | rfl | rfl | rfl <;> rfl) (ih (k + 1) (if (d_65 (dG C k) (nI p)) = 0 then a3 else (if (d_103 (dK C p) (dW C k) y) = 0 then a3 else a3 ||| ((Int32.ofInt 1) <<< ((nI k) &&& 31)))) (by omega) hZ)
def d_102 (C : sp_C) (p : Nat) (y : Int32) : Int32 := d_102_5 C p y (dE C) 0 (Int32.ofInt 0)
theorem d_102_w6 (hP : ex_P h) (hT : c_v 6 C h) (hD : c_d 6 C h) (hp : p < dP C) (hQ : Q (some (.int (d_102 C p y))) h) : am_call am_cod 2 102 [.ref 6, .int (nI p), .int y] h Q := by
  have h6 := hT.1.2.1
  have h5 := hT.2.1.2.1
  refine pz_call (n := 102) (nL := 5) (rt := (some .int)) (rows := am_r102) (d := 1) (by decide +kernel) (by decide +kernel) rfl (by funext pc; rfl) (ex_175 hP) (by exact Nat.le_of_ble_eq_true rfl) ?_
  refine am_goX 4 (show 3 < 5 ∧ 4 < 5 ∧ pz_S 5 (some .int) am_r102 1 Q 5 [(4, .int (Int32.ofInt 0)), (3, .int (Int32.ofInt 0)), (0, .ref 6), (1, .int (nI p)), (2, .int y)] [] h from ⟨by decide, by decide, ?_⟩)
  refine sv_S2 sv2_102 (by intro q hq; simp only [List.mem_cons, List.not_mem_nil, or_false] at hq; rcases hq with rfl | rfl | rfl | rfl | rfl <;> rfl) (d_102_5_w6 hP hT hD hp (dE C) 0 (Int32.ofInt 0) (by omega) ?_)
  exact am_goX 2 (show (∃ ty, (some .int) = some ty ∧ narrow ty (.int (d_102_5 C p y (dE C) 0 (Int32.ofInt 0))) = .int (d_102_5 C p y (dE C) 0 (Int32.ofInt 0))) ∧ h.2.2.2.2 = 175 ∧ _ from ⟨⟨.int, rfl, rfl⟩, ex_175 hP, hQ⟩)
def d_105_6 (C : sp_C) (a b c d : Int32) : Nat → Nat → Nat → (Nat → Int32) → Nat × (Nat → Int32)
  | 0, _, a5, f => (a5, f)
  | m + 1, k, a5, f => (if (dT C k) < ((Int8.ofInt (-4)).toInt32) then (if ¬ (dT C k) = ((Int8.ofInt (-5)).toInt32) then (if ((Int8.ofInt (-5)).toInt32) ≤ (dT C k) then (d_105_6 C a b c d m (k + 1) a5 f) else (if (nI a5) ≤ (Int32.ofInt 1) then (d_105_6 C a b c d m (k + 1) a5 f) else (d_105_6 C a b c d m (k + 1) (a5 - 1) (sp_uI f ((a5 - 1) - 1) (d_107 (dT C k) (f ((a5 - 1) - 1)) (f (a5 - 1))))))) else (if (nI a5) ≤ 0 then (if ((Int8.ofInt (-5)).toInt32) ≤ (dT C k) then (d_105_6 C a b c d m (k + 1) a5 f) else (if (nI a5) ≤ (Int32.ofInt 1) then (d_105_6 C a b c d m (k + 1) a5 f) else (d_105_6 C a b c d m (k + 1) (a5 - 1) (sp_uI f ((a5 - 1) - 1) (d_107 (dT C k) (f ((a5 - 1) - 1)) (f (a5 - 1))))))) else (d_105_6 C a b c d m (k + 1) a5 (sp_uI f (a5 - 1) (if ¬ (f (a5 - 1)) = 0 then Int32.ofInt 0 else Int32.ofInt 1))))) else (if ((Int8.ofInt 32).toInt32) ≤ (nI a5) then (if ¬ (dT C k) = ((Int8.ofInt (-5)).toInt32) then (if ((Int8.ofInt (-5)).toInt32) ≤ (dT C k) then (d_105_6 C a b c d m (k + 1) a5 f) else (if (nI a5) ≤ (Int32.ofInt 1) then (d_105_6 C a b c d m (k + 1) a5 f) else (d_105_6 C a b c d m (k + 1) (a5 - 1) (sp_uI f ((a5 - 1) - 1) (d_107 (dT C k) (f ((a5 - 1) - 1)) (f (a5 - 1))))))) else (if (nI a5) ≤ 0 then (if ((Int8.ofInt (-5)).toInt32) ≤ (dT C k) then (d_105_6 C a b c d m (k + 1) a5 f) else (if (nI a5) ≤ (Int32.ofInt 1) then (d_105_6 C a b c d m (k + 1) a5 f) else (d_105_6 C a b c d m (k + 1) (a5 - 1) (sp_uI f ((a5 - 1) - 1) (d_107 (dT C k) (f ((a5 - 1) - 1)) (f (a5 - 1))))))) else (d_105_6 C a b c d m (k + 1) a5 (sp_uI f (a5 - 1) (if ¬ (f (a5 - 1)) = 0 then Int32.ofInt 0 else Int32.ofInt 1))))) else (d_105_6 C a b c d m (k + 1) (a5 + 1) (sp_uI f a5 (if (dT C k) < 0 then d_106 (dT C k) a b c d else dT C k)))))
theorem d_105_6_l6 : ∀ (m k : Nat) (a5 : Nat) (f : (Nat → Int32)) (h : am_H), k + m = dM C → (ex_P h) → (c_v 6 C h) → (lfr 16 h0 h) → (∀ j, j < 32 → h.1 16 j = f j) → (a5 ≤ 32) → (∀ h1, (ex_P h1) → (c_v 6 C h1) → (lfr 16 h0 h1) → (∀ j, j < 32 → h1.1 16 j = ((d_105_6 C a b c d m k a5 f).2) j) → ((d_105_6 C a b c d m k a5 f).1 ≤ 32) → pz_S 8 (some .int) am_r105 1 Q 164 [(0, .ref 14), (5, .int (nI ((d_105_6 C a b c d m k a5 f).1)))] [] h1) → pz_S 8 (some .int) am_r105 1 Q 6 [(0, .ref 14), (1, .int a), (2, .int b), (3, .int c), (4, .int d), (5, .int (nI a5)), (6, .int (nI k))] [] h := by
  intro m
  induction m with
  | zero =>
    intro k a5 f h hk hP hT hF hK hn hZ
    have hM := hT.2.2.2.2.1
    refine am_goX 3 (show am_sh h 14 = some (3, 0) ∧ pz_S 8 (some .int) am_r105 1 Q 12 [(0, .ref 14), (1, .int a), (2, .int b), (3, .int c), (4, .int d), (5, .int (nI a5)), (6, .int (nI k))] [.int (h.1 14 2), .int (nI k)] h from ⟨ex_14 hP, ?_⟩)
    rw [show h.1 14 2 = nI (dM C) from hT.2.2.2.1]
    refine am_goX 1 (show ((nI (dM C)) ≤ (nI k) → pz_S 8 (some .int) am_r105 1 Q 164 [(0, .ref 14), (1, .int a), (2, .int b), (3, .int c), (4, .int d), (5, .int (nI a5)), (6, .int (nI k))] [] h) ∧ (¬ ((nI (dM C)) ≤ (nI k)) → pz_S 8 (some .int) am_r105 1 Q 15 [(0, .ref 14), (1, .int a), (2, .int b), (3, .int c), (4, .int d), (5, .int (nI a5)), (6, .int (nI k))] [] h) from ⟨fun _ => ?_, fun hz => absurd (show nI (dM C) ≤ nI k from nI_le (by omega) (by omega)) hz⟩)
    exact sv_S2 sv2_105 (by intro q hq; simp only [List.mem_cons, List.not_mem_nil, or_false] at hq; rcases hq with rfl | rfl <;> rfl) (hZ _ hP hT hF hK hn)
  | succ m ih =>
    intro k a5 f h hk hP hT hF hK hn hZ
    have hM := hT.2.2.2.2.1
    refine am_goX 3 (show am_sh h 14 = some (3, 0) ∧ pz_S 8 (some .int) am_r105 1 Q 12 [(0, .ref 14), (1, .int a), (2, .int b), (3, .int c), (4, .int d), (5, .int (nI a5)), (6, .int (nI k))] [.int (h.1 14 2), .int (nI k)] h from ⟨ex_14 hP, ?_⟩)
    rw [show h.1 14 2 = nI (dM C) from hT.2.2.2.1]
    refine am_goX 1 (show ((nI (dM C)) ≤ (nI k) → pz_S 8 (some .int) am_r105 1 Q 164 [(0, .ref 14), (1, .int a), (2, .int b), (3, .int c), (4, .int d), (5, .int (nI a5)), (6, .int (nI k))] [] h) ∧ (¬ ((nI (dM C)) ≤ (nI k)) → pz_S 8 (some .int) am_r105 1 Q 15 [(0, .ref 14), (1, .int a), (2, .int b), (3, .int c), (4, .int d), (5, .int (nI a5)), (6, .int (nI k))] [] h) from ⟨fun hz => absurd hz (show ¬ (nI (dM C) ≤ nI k) by rw [nI_leI (by omega) (by omega)]; omega), fun _ => ?_⟩)
    refine am_goX 2 (show am_sh h 14 = some (3, 0) ∧ pz_S 8 (some .int) am_r105 1 Q 19 [(0, .ref 14), (1, .int a), (2, .int b), (3, .int c), (4, .int d), (5, .int (nI a5)), (6, .int (nI k))] [am_rf (h.2.2.1 14 0)] h from ⟨ex_14 hP, ?_⟩)
    rw [show am_rf (h.2.2.1 14 0) = .ref 15 from congrArg am_rf (ex_r14_0 hP)]
    refine am_goX 2 (show ∃ jj nn : Nat, am_sh h 15 = some (13, nn) ∧ jj < nn ∧ nI k = nI jj ∧ pz_S 8 (some .int) am_r105 1 Q 22 [(0, .ref 14), (1, .int a), (2, .int b), (3, .int c), (4, .int d), (5, .int (nI a5)), (6, .int (nI k))] [.int (h.1 15 jj)] h from ⟨k, 1000, ex_15 hP, (by omega), rfl, ?_⟩)
    rw [show h.1 15 k = dT C k from hT.2.2.2.2.2 k (by omega)]
    refine am_goX 4 (show 7 < 8 ∧ ((dT C k) < ((Int8.ofInt (-4)).toInt32) → pz_S 8 (some .int) am_r105 1 Q 71 [(7, .int (dT C k)), (0, .ref 14), (1, .int a), (2, .int b), (3, .int c), (4, .int d), (5, .int (nI a5)), (6, .int (nI k))] [] h) ∧ (¬ ((dT C k) < ((Int8.ofInt (-4)).toInt32)) → pz_S 8 (some .int) am_r105 1 Q 31 [(7, .int (dT C k)), (0, .ref 14), (1, .int a), (2, .int b), (3, .int c), (4, .int d), (5, .int (nI a5)), (6, .int (nI k))] [] h) from ⟨by decide, fun c62 => ?_, fun c62 => ?_⟩)
    · refine am_goX 3 (show (¬ (dT C k) = ((Int8.ofInt (-5)).toInt32) → pz_S 8 (some .int) am_r105 1 Q 112 [(7, .int (dT C k)), (0, .ref 14), (1, .int a), (2, .int b), (3, .int c), (4, .int d), (5, .int (nI a5)), (6, .int (nI k))] [] h) ∧ (¬ ¬ (dT C k) = ((Int8.ofInt (-5)).toInt32) → pz_S 8 (some .int) am_r105 1 Q 78 [(7, .int (dT C k)), (0, .ref 14), (1, .int a), (2, .int b), (3, .int c), (4, .int d), (5, .int (nI a5)), (6, .int (nI k))] [] h) from ⟨fun c63 => ?_, fun c63 => ?_⟩)
      · refine am_goX 3 (show (((Int8.ofInt (-5)).toInt32) ≤ (dT C k) → pz_S 8 (some .int) am_r105 1 Q 158 [(7, .int (dT C k)), (0, .ref 14), (1, .int a), (2, .int b), (3, .int c), (4, .int d), (5, .int (nI a5)), (6, .int (nI k))] [] h) ∧ (¬ (((Int8.ofInt (-5)).toInt32) ≤ (dT C k)) → pz_S 8 (some .int) am_r105 1 Q 119 [(7, .int (dT C k)), (0, .ref 14), (1, .int a), (2, .int b), (3, .int c), (4, .int d), (5, .int (nI a5)), (6, .int (nI k))] [] h) from ⟨fun c64 => ?_, fun c64 => ?_⟩)
        · refine am_goX 2 (show 6 < 8 ∧ pz_S 8 (some .int) am_r105 1 Q 6 [(6, .int ((nI k) + (Int32.ofInt 1))), (7, .int (dT C k)), (0, .ref 14), (1, .int a), (2, .int b), (3, .int c), (4, .int d), (5, .int (nI a5))] [] h from ⟨by decide, ?_⟩)
          rw [show d_105_6 C a b c d (m + 1) k a5 f = d_105_6 C a b c d m (k + 1) a5 f from (if_pos c62).trans ((if_pos c63).trans (if_pos c64))] at hZ
          rw [show (nI k) + (Int32.ofInt 1) = nI (k + 1) from (dn_a rfl rfl)]
          exact sv_S2 sv2_105 (by intro q hq; simp only [List.mem_cons, List.not_mem_nil, or_false] at hq; rcases hq with rfl | rfl | rfl | rfl | rfl | rfl | rfl <;> rfl) (ih (k + 1) a5 f _ (by omega) hP hT hF hK (by omega) hZ)
        · refine am_goX 3 (show ((nI a5) ≤ (Int32.ofInt 1) → pz_S 8 (some .int) am_r105 1 Q 158 [(7, .int (dT C k)), (0, .ref 14), (1, .int a), (2, .int b), (3, .int c), (4, .int d), (5, .int (nI a5)), (6, .int (nI k))] [] h) ∧ (¬ ((nI a5) ≤ (Int32.ofInt 1)) → pz_S 8 (some .int) am_r105 1 Q 125 [(7, .int (dT C k)), (0, .ref 14), (1, .int a), (2, .int b), (3, .int c), (4, .int d), (5, .int (nI a5)), (6, .int (nI k))] [] h) from ⟨fun c65 => ?_, fun c65 => ?_⟩)
          · have c65n : a5 ≤ 1 := (nI_leI (by omega) (by omega)).mp (show nI a5 ≤ nI 1 from c65)
            refine am_goX 2 (show 6 < 8 ∧ pz_S 8 (some .int) am_r105 1 Q 6 [(6, .int ((nI k) + (Int32.ofInt 1))), (7, .int (dT C k)), (0, .ref 14), (1, .int a), (2, .int b), (3, .int c), (4, .int d), (5, .int (nI a5))] [] h from ⟨by decide, ?_⟩)
            rw [show d_105_6 C a b c d (m + 1) k a5 f = d_105_6 C a b c d m (k + 1) a5 f from (if_pos c62).trans ((if_pos c63).trans ((if_neg c64).trans (if_pos c65)))] at hZ
            rw [show (nI k) + (Int32.ofInt 1) = nI (k + 1) from (dn_a rfl rfl)]
            exact sv_S2 sv2_105 (by intro q hq; simp only [List.mem_cons, List.not_mem_nil, or_false] at hq; rcases hq with rfl | rfl | rfl | rfl | rfl | rfl | rfl <;> rfl) (ih (k + 1) a5 f _ (by omega) hP hT hF hK (by omega) hZ)
          · have c65n : ¬ (a5 ≤ 1) := fun w => absurd (show nI a5 ≤ nI 1 from (nI_leI (by omega) (by omega)).mpr w) c65
            refine am_goX 3 (show 5 < 8 ∧ am_sh h 14 = some (3, 0) ∧ pz_S 8 (some .int) am_r105 1 Q 132 [(5, .int ((nI a5) + (Int32.ofInt (-1)))), (7, .int (dT C k)), (0, .ref 14), (1, .int a), (2, .int b), (3, .int c), (4, .int d), (6, .int (nI k))] [am_rf (h.2.2.1 14 1)] h from ⟨by decide, ex_14 hP, ?_⟩)
            rw [show am_rf (h.2.2.1 14 1) = .ref 16 from congrArg am_rf (ex_r14_1 hP)]
            refine am_goX 6 (show am_sh h 14 = some (3, 0) ∧ pz_S 8 (some .int) am_r105 1 Q 142 [(5, .int ((nI a5) + (Int32.ofInt (-1)))), (7, .int (dT C k)), (0, .ref 14), (1, .int a), (2, .int b), (3, .int c), (4, .int d), (6, .int (nI k))] [am_rf (h.2.2.1 14 1), .int (dT C k), .int (((nI a5) + (Int32.ofInt (-1))) - (Int32.ofInt 1)), .ref 16] h from ⟨ex_14 hP, ?_⟩)
            rw [show am_rf (h.2.2.1 14 1) = .ref 16 from congrArg am_rf (ex_r14_1 hP)]
            refine am_goX 4 (show ∃ jj nn : Nat, am_sh h 16 = some (13, nn) ∧ jj < nn ∧ ((nI a5) + (Int32.ofInt (-1))) - (Int32.ofInt 1) = nI jj ∧ pz_S 8 (some .int) am_r105 1 Q 147 [(5, .int ((nI a5) + (Int32.ofInt (-1)))), (7, .int (dT C k)), (0, .ref 14), (1, .int a), (2, .int b), (3, .int c), (4, .int d), (6, .int (nI k))] [.int (h.1 16 jj), .int (dT C k), .int (((nI a5) + (Int32.ofInt (-1))) - (Int32.ofInt 1)), .ref 16] h from ⟨((a5 - 1) - 1), 32, ex_16 hP, (by omega), (dn_s (by omega) (dn_d (by omega) rfl (by decide)) rfl), ?_⟩)
            rw [show h.1 16 ((a5 - 1) - 1) = f ((a5 - 1) - 1) from hK ((a5 - 1) - 1) (by omega)]
            refine am_goX 2 (show am_sh h 14 = some (3, 0) ∧ pz_S 8 (some .int) am_r105 1 Q 151 [(5, .int ((nI a5) + (Int32.ofInt (-1)))), (7, .int (dT C k)), (0, .ref 14), (1, .int a), (2, .int b), (3, .int c), (4, .int d), (6, .int (nI k))] [am_rf (h.2.2.1 14 1), .int (f ((a5 - 1) - 1)), .int (dT C k), .int (((nI a5) + (Int32.ofInt (-1))) - (Int32.ofInt 1)), .ref 16] h from ⟨ex_14 hP, ?_⟩)
            rw [show am_rf (h.2.2.1 14 1) = .ref 16 from congrArg am_rf (ex_r14_1 hP)]
            refine am_goX 2 (show ∃ jj nn : Nat, am_sh h 16 = some (13, nn) ∧ jj < nn ∧ (nI a5) + (Int32.ofInt (-1)) = nI jj ∧ pz_S 8 (some .int) am_r105 1 Q 154 [(5, .int ((nI a5) + (Int32.ofInt (-1)))), (7, .int (dT C k)), (0, .ref 14), (1, .int a), (2, .int b), (3, .int c), (4, .int d), (6, .int (nI k))] [.int (h.1 16 jj), .int (f ((a5 - 1) - 1)), .int (dT C k), .int (((nI a5) + (Int32.ofInt (-1))) - (Int32.ofInt 1)), .ref 16] h from ⟨(a5 - 1), 32, ex_16 hP, (by omega), (dn_d (by omega) rfl (by decide)), ?_⟩)
            rw [show h.1 16 (a5 - 1) = f (a5 - 1) from hK (a5 - 1) (by omega)]
            refine am_goX 1 (show 2 ≤ 8 ∧ h.2.2.2.2 + am_al 107 ≤ 175 ∧ am_call am_cod 1 107 [.int (dT C k), .int (f ((a5 - 1) - 1)), .int (f (a5 - 1))] h (fun vv h' => pz_S 8 (some .int) am_r105 1 Q 157 [(5, .int ((nI a5) + (Int32.ofInt (-1)))), (7, .int (dT C k)), (0, .ref 14), (1, .int a), (2, .int b), (3, .int c), (4, .int d), (6, .int (nI k))] (vv.toList ++ [.int (((nI a5) + (Int32.ofInt (-1))) - (Int32.ofInt 1)), .ref 16]) h') from ⟨by decide, ex_lim hP rfl, am_call.up (d_107_w hP ?_) (by decide)⟩)
            refine am_goX 1 (show ∃ jj nn : Nat, am_so h 16 = some (13, nn) ∧ jj < nn ∧ ((nI a5) + (Int32.ofInt (-1))) - (Int32.ofInt 1) = nI jj ∧ pz_S 8 (some .int) am_r105 1 Q 158 [(5, .int ((nI a5) + (Int32.ofInt (-1)))), (7, .int (dT C k)), (0, .ref 14), (1, .int a), (2, .int b), (3, .int c), (4, .int d), (6, .int (nI k))] [] (am_wI h 16 jj (d_107 (dT C k) (f ((a5 - 1) - 1)) (f (a5 - 1)))) from ⟨((a5 - 1) - 1), 32, ex_w16 hP, (by omega), (dn_s (by omega) (dn_d (by omega) rfl (by decide)) rfl), ?_⟩)
            have f67 : ex_P (am_wI h 16 ((a5 - 1) - 1) (d_107 (dT C k) (f ((a5 - 1) - 1)) (f (a5 - 1)))) := hP
            have f68 : c_v 6 C (am_wI h 16 ((a5 - 1) - 1) (d_107 (dT C k) (f ((a5 - 1) - 1)) (f (a5 - 1)))) := c_v_w (by omega) hT
            have f69 : lfr 16 h0 (am_wI h 16 ((a5 - 1) - 1) (d_107 (dT C k) (f ((a5 - 1) - 1)) (f (a5 - 1)))) := lfr_w hF
            have f70 : ∀ j, j < 32 → (am_wI h 16 ((a5 - 1) - 1) (d_107 (dT C k) (f ((a5 - 1) - 1)) (f (a5 - 1)))).1 16 j = (sp_uI f ((a5 - 1) - 1) (d_107 (dT C k) (f ((a5 - 1) - 1)) (f (a5 - 1)))) j := stk_w hK
            generalize am_wI h 16 ((a5 - 1) - 1) (d_107 (dT C k) (f ((a5 - 1) - 1)) (f (a5 - 1))) = h66 at f67 f68 f69 f70 ⊢
            refine am_goX 2 (show 6 < 8 ∧ pz_S 8 (some .int) am_r105 1 Q 6 [(6, .int ((nI k) + (Int32.ofInt 1))), (5, .int ((nI a5) + (Int32.ofInt (-1)))), (7, .int (dT C k)), (0, .ref 14), (1, .int a), (2, .int b), (3, .int c), (4, .int d)] [] h66 from ⟨by decide, ?_⟩)
            rw [show d_105_6 C a b c d (m + 1) k a5 f = d_105_6 C a b c d m (k + 1) (a5 - 1) (sp_uI f ((a5 - 1) - 1) (d_107 (dT C k) (f ((a5 - 1) - 1)) (f (a5 - 1)))) from (if_pos c62).trans ((if_pos c63).trans ((if_neg c64).trans (if_neg c65)))] at hZ
            rw [show (nI k) + (Int32.ofInt 1) = nI (k + 1) from (dn_a rfl rfl)]
            rw [show (nI a5) + (Int32.ofInt (-1)) = nI (a5 - 1) from (dn_d (by omega) rfl (by decide))]
            exact sv_S2 sv2_105 (by intro q hq; simp only [List.mem_cons, List.not_mem_nil, or_false] at hq; rcases hq with rfl | rfl | rfl | rfl | rfl | rfl | rfl <;> rfl) (ih (k + 1) (a5 - 1) (sp_uI f ((a5 - 1) - 1) (d_107 (dT C k) (f ((a5 - 1) - 1)) (f (a5 - 1)))) _ (by omega) f67 f68 f69 f70 (by omega) hZ)
      · refine am_goX 2 (show ((nI a5) ≤ 0 → pz_S 8 (some .int) am_r105 1 Q 112 [(7, .int (dT C k)), (0, .ref 14), (1, .int a), (2, .int b), (3, .int c), (4, .int d), (5, .int (nI a5)), (6, .int (nI k))] [] h) ∧ (¬ ((nI a5) ≤ 0) → pz_S 8 (some .int) am_r105 1 Q 83 [(7, .int (dT C k)), (0, .ref 14), (1, .int a), (2, .int b), (3, .int c), (4, .int d), (5, .int (nI a5)), (6, .int (nI k))] [] h) from ⟨fun c71 => ?_, fun c71 => ?_⟩)
        · have c71n : a5 ≤ 0 := (nI_leI (by omega) (by omega)).mp (show nI a5 ≤ nI 0 from c71)
          refine am_goX 3 (show (((Int8.ofInt (-5)).toInt32) ≤ (dT C k) → pz_S 8 (some .int) am_r105 1 Q 158 [(7, .int (dT C k)), (0, .ref 14), (1, .int a), (2, .int b), (3, .int c), (4, .int d), (5, .int (nI a5)), (6, .int (nI k))] [] h) ∧ (¬ (((Int8.ofInt (-5)).toInt32) ≤ (dT C k)) → pz_S 8 (some .int) am_r105 1 Q 119 [(7, .int (dT C k)), (0, .ref 14), (1, .int a), (2, .int b), (3, .int c), (4, .int d), (5, .int (nI a5)), (6, .int (nI k))] [] h) from ⟨fun c72 => ?_, fun c72 => ?_⟩)
          · refine am_goX 2 (show 6 < 8 ∧ pz_S 8 (some .int) am_r105 1 Q 6 [(6, .int ((nI k) + (Int32.ofInt 1))), (7, .int (dT C k)), (0, .ref 14), (1, .int a), (2, .int b), (3, .int c), (4, .int d), (5, .int (nI a5))] [] h from ⟨by decide, ?_⟩)
            rw [show d_105_6 C a b c d (m + 1) k a5 f = d_105_6 C a b c d m (k + 1) a5 f from (if_pos c62).trans ((if_neg c63).trans ((if_pos c71).trans (if_pos c72)))] at hZ
            rw [show (nI k) + (Int32.ofInt 1) = nI (k + 1) from (dn_a rfl rfl)]
            exact sv_S2 sv2_105 (by intro q hq; simp only [List.mem_cons, List.not_mem_nil, or_false] at hq; rcases hq with rfl | rfl | rfl | rfl | rfl | rfl | rfl <;> rfl) (ih (k + 1) a5 f _ (by omega) hP hT hF hK (by omega) hZ)
          · refine am_goX 3 (show ((nI a5) ≤ (Int32.ofInt 1) → pz_S 8 (some .int) am_r105 1 Q 158 [(7, .int (dT C k)), (0, .ref 14), (1, .int a), (2, .int b), (3, .int c), (4, .int d), (5, .int (nI a5)), (6, .int (nI k))] [] h) ∧ (¬ ((nI a5) ≤ (Int32.ofInt 1)) → pz_S 8 (some .int) am_r105 1 Q 125 [(7, .int (dT C k)), (0, .ref 14), (1, .int a), (2, .int b), (3, .int c), (4, .int d), (5, .int (nI a5)), (6, .int (nI k))] [] h) from ⟨fun c73 => ?_, fun c73 => ?_⟩)
            · have c73n : a5 ≤ 1 := (nI_leI (by omega) (by omega)).mp (show nI a5 ≤ nI 1 from c73)
              refine am_goX 2 (show 6 < 8 ∧ pz_S 8 (some .int) am_r105 1 Q 6 [(6, .int ((nI k) + (Int32.ofInt 1))), (7, .int (dT C k)), (0, .ref 14), (1, .int a), (2, .int b), (3, .int c), (4, .int d), (5, .int (nI a5))] [] h from ⟨by decide, ?_⟩)
              rw [show d_105_6 C a b c d (m + 1) k a5 f = d_105_6 C a b c d m (k + 1) a5 f from (if_pos c62).trans ((if_neg c63).trans ((if_pos c71).trans ((if_neg c72).trans (if_pos c73))))] at hZ
              rw [show (nI k) + (Int32.ofInt 1) = nI (k + 1) from (dn_a rfl rfl)]
              exact sv_S2 sv2_105 (by intro q hq; simp only [List.mem_cons, List.not_mem_nil, or_false] at hq; rcases hq with rfl | rfl | rfl | rfl | rfl | rfl | rfl <;> rfl) (ih (k + 1) a5 f _ (by omega) hP hT hF hK (by omega) hZ)
            · have c73n : ¬ (a5 ≤ 1) := fun w => absurd (show nI a5 ≤ nI 1 from (nI_leI (by omega) (by omega)).mpr w) c73
              refine am_goX 3 (show 5 < 8 ∧ am_sh h 14 = some (3, 0) ∧ pz_S 8 (some .int) am_r105 1 Q 132 [(5, .int ((nI a5) + (Int32.ofInt (-1)))), (7, .int (dT C k)), (0, .ref 14), (1, .int a), (2, .int b), (3, .int c), (4, .int d), (6, .int (nI k))] [am_rf (h.2.2.1 14 1)] h from ⟨by decide, ex_14 hP, ?_⟩)
              rw [show am_rf (h.2.2.1 14 1) = .ref 16 from congrArg am_rf (ex_r14_1 hP)]
              refine am_goX 6 (show am_sh h 14 = some (3, 0) ∧ pz_S 8 (some .int) am_r105 1 Q 142 [(5, .int ((nI a5) + (Int32.ofInt (-1)))), (7, .int (dT C k)), (0, .ref 14), (1, .int a), (2, .int b), (3, .int c), (4, .int d), (6, .int (nI k))] [am_rf (h.2.2.1 14 1), .int (dT C k), .int (((nI a5) + (Int32.ofInt (-1))) - (Int32.ofInt 1)), .ref 16] h from ⟨ex_14 hP, ?_⟩)
              rw [show am_rf (h.2.2.1 14 1) = .ref 16 from congrArg am_rf (ex_r14_1 hP)]
              refine am_goX 4 (show ∃ jj nn : Nat, am_sh h 16 = some (13, nn) ∧ jj < nn ∧ ((nI a5) + (Int32.ofInt (-1))) - (Int32.ofInt 1) = nI jj ∧ pz_S 8 (some .int) am_r105 1 Q 147 [(5, .int ((nI a5) + (Int32.ofInt (-1)))), (7, .int (dT C k)), (0, .ref 14), (1, .int a), (2, .int b), (3, .int c), (4, .int d), (6, .int (nI k))] [.int (h.1 16 jj), .int (dT C k), .int (((nI a5) + (Int32.ofInt (-1))) - (Int32.ofInt 1)), .ref 16] h from ⟨((a5 - 1) - 1), 32, ex_16 hP, (by omega), (dn_s (by omega) (dn_d (by omega) rfl (by decide)) rfl), ?_⟩)
              rw [show h.1 16 ((a5 - 1) - 1) = f ((a5 - 1) - 1) from hK ((a5 - 1) - 1) (by omega)]
              refine am_goX 2 (show am_sh h 14 = some (3, 0) ∧ pz_S 8 (some .int) am_r105 1 Q 151 [(5, .int ((nI a5) + (Int32.ofInt (-1)))), (7, .int (dT C k)), (0, .ref 14), (1, .int a), (2, .int b), (3, .int c), (4, .int d), (6, .int (nI k))] [am_rf (h.2.2.1 14 1), .int (f ((a5 - 1) - 1)), .int (dT C k), .int (((nI a5) + (Int32.ofInt (-1))) - (Int32.ofInt 1)), .ref 16] h from ⟨ex_14 hP, ?_⟩)
              rw [show am_rf (h.2.2.1 14 1) = .ref 16 from congrArg am_rf (ex_r14_1 hP)]
              refine am_goX 2 (show ∃ jj nn : Nat, am_sh h 16 = some (13, nn) ∧ jj < nn ∧ (nI a5) + (Int32.ofInt (-1)) = nI jj ∧ pz_S 8 (some .int) am_r105 1 Q 154 [(5, .int ((nI a5) + (Int32.ofInt (-1)))), (7, .int (dT C k)), (0, .ref 14), (1, .int a), (2, .int b), (3, .int c), (4, .int d), (6, .int (nI k))] [.int (h.1 16 jj), .int (f ((a5 - 1) - 1)), .int (dT C k), .int (((nI a5) + (Int32.ofInt (-1))) - (Int32.ofInt 1)), .ref 16] h from ⟨(a5 - 1), 32, ex_16 hP, (by omega), (dn_d (by omega) rfl (by decide)), ?_⟩)
              rw [show h.1 16 (a5 - 1) = f (a5 - 1) from hK (a5 - 1) (by omega)]
              refine am_goX 1 (show 2 ≤ 8 ∧ h.2.2.2.2 + am_al 107 ≤ 175 ∧ am_call am_cod 1 107 [.int (dT C k), .int (f ((a5 - 1) - 1)), .int (f (a5 - 1))] h (fun vv h' => pz_S 8 (some .int) am_r105 1 Q 157 [(5, .int ((nI a5) + (Int32.ofInt (-1)))), (7, .int (dT C k)), (0, .ref 14), (1, .int a), (2, .int b), (3, .int c), (4, .int d), (6, .int (nI k))] (vv.toList ++ [.int (((nI a5) + (Int32.ofInt (-1))) - (Int32.ofInt 1)), .ref 16]) h') from ⟨by decide, ex_lim hP rfl, am_call.up (d_107_w hP ?_) (by decide)⟩)
              refine am_goX 1 (show ∃ jj nn : Nat, am_so h 16 = some (13, nn) ∧ jj < nn ∧ ((nI a5) + (Int32.ofInt (-1))) - (Int32.ofInt 1) = nI jj ∧ pz_S 8 (some .int) am_r105 1 Q 158 [(5, .int ((nI a5) + (Int32.ofInt (-1)))), (7, .int (dT C k)), (0, .ref 14), (1, .int a), (2, .int b), (3, .int c), (4, .int d), (6, .int (nI k))] [] (am_wI h 16 jj (d_107 (dT C k) (f ((a5 - 1) - 1)) (f (a5 - 1)))) from ⟨((a5 - 1) - 1), 32, ex_w16 hP, (by omega), (dn_s (by omega) (dn_d (by omega) rfl (by decide)) rfl), ?_⟩)
              have f75 : ex_P (am_wI h 16 ((a5 - 1) - 1) (d_107 (dT C k) (f ((a5 - 1) - 1)) (f (a5 - 1)))) := hP
              have f76 : c_v 6 C (am_wI h 16 ((a5 - 1) - 1) (d_107 (dT C k) (f ((a5 - 1) - 1)) (f (a5 - 1)))) := c_v_w (by omega) hT
              have f77 : lfr 16 h0 (am_wI h 16 ((a5 - 1) - 1) (d_107 (dT C k) (f ((a5 - 1) - 1)) (f (a5 - 1)))) := lfr_w hF
              have f78 : ∀ j, j < 32 → (am_wI h 16 ((a5 - 1) - 1) (d_107 (dT C k) (f ((a5 - 1) - 1)) (f (a5 - 1)))).1 16 j = (sp_uI f ((a5 - 1) - 1) (d_107 (dT C k) (f ((a5 - 1) - 1)) (f (a5 - 1)))) j := stk_w hK
              generalize am_wI h 16 ((a5 - 1) - 1) (d_107 (dT C k) (f ((a5 - 1) - 1)) (f (a5 - 1))) = h74 at f75 f76 f77 f78 ⊢
              refine am_goX 2 (show 6 < 8 ∧ pz_S 8 (some .int) am_r105 1 Q 6 [(6, .int ((nI k) + (Int32.ofInt 1))), (5, .int ((nI a5) + (Int32.ofInt (-1)))), (7, .int (dT C k)), (0, .ref 14), (1, .int a), (2, .int b), (3, .int c), (4, .int d)] [] h74 from ⟨by decide, ?_⟩)
              rw [show d_105_6 C a b c d (m + 1) k a5 f = d_105_6 C a b c d m (k + 1) (a5 - 1) (sp_uI f ((a5 - 1) - 1) (d_107 (dT C k) (f ((a5 - 1) - 1)) (f (a5 - 1)))) from (if_pos c62).trans ((if_neg c63).trans ((if_pos c71).trans ((if_neg c72).trans (if_neg c73))))] at hZ
              rw [show (nI k) + (Int32.ofInt 1) = nI (k + 1) from (dn_a rfl rfl)]
              rw [show (nI a5) + (Int32.ofInt (-1)) = nI (a5 - 1) from (dn_d (by omega) rfl (by decide))]
              exact sv_S2 sv2_105 (by intro q hq; simp only [List.mem_cons, List.not_mem_nil, or_false] at hq; rcases hq with rfl | rfl | rfl | rfl | rfl | rfl | rfl <;> rfl) (ih (k + 1) (a5 - 1) (sp_uI f ((a5 - 1) - 1) (d_107 (dT C k) (f ((a5 - 1) - 1)) (f (a5 - 1)))) _ (by omega) f75 f76 f77 f78 (by omega) hZ)
        · have c71n : ¬ (a5 ≤ 0) := fun w => absurd (show nI a5 ≤ nI 0 from (nI_leI (by omega) (by omega)).mpr w) c71
          refine am_goX 2 (show am_sh h 14 = some (3, 0) ∧ pz_S 8 (some .int) am_r105 1 Q 87 [(7, .int (dT C k)), (0, .ref 14), (1, .int a), (2, .int b), (3, .int c), (4, .int d), (5, .int (nI a5)), (6, .int (nI k))] [am_rf (h.2.2.1 14 1)] h from ⟨ex_14 hP, ?_⟩)
          rw [show am_rf (h.2.2.1 14 1) = .ref 16 from congrArg am_rf (ex_r14_1 hP)]
          refine am_goX 5 (show am_sh h 14 = some (3, 0) ∧ pz_S 8 (some .int) am_r105 1 Q 95 [(7, .int (dT C k)), (0, .ref 14), (1, .int a), (2, .int b), (3, .int c), (4, .int d), (5, .int (nI a5)), (6, .int (nI k))] [am_rf (h.2.2.1 14 1), .int ((nI a5) - (Int32.ofInt 1)), .ref 16] h from ⟨ex_14 hP, ?_⟩)
          rw [show am_rf (h.2.2.1 14 1) = .ref 16 from congrArg am_rf (ex_r14_1 hP)]
          refine am_goX 4 (show ∃ jj nn : Nat, am_sh h 16 = some (13, nn) ∧ jj < nn ∧ (nI a5) - (Int32.ofInt 1) = nI jj ∧ pz_S 8 (some .int) am_r105 1 Q 100 [(7, .int (dT C k)), (0, .ref 14), (1, .int a), (2, .int b), (3, .int c), (4, .int d), (5, .int (nI a5)), (6, .int (nI k))] [.int (h.1 16 jj), .int ((nI a5) - (Int32.ofInt 1)), .ref 16] h from ⟨(a5 - 1), 32, ex_16 hP, (by omega), (dn_s (by omega) rfl rfl), ?_⟩)
          rw [show h.1 16 (a5 - 1) = f (a5 - 1) from hK (a5 - 1) (by omega)]
          suffices key : ∀ (v80 : Int32), v80 = (if ¬ (f (a5 - 1)) = 0 then Int32.ofInt 0 else Int32.ofInt 1) → pz_S 8 (some .int) am_r105 1 Q 108 [(0, .ref 14), (1, .int a), (2, .int b), (3, .int c), (4, .int d), (5, .int (nI a5)), (6, .int (nI k))] [.int v80, .int ((nI a5) - (Int32.ofInt 1)), .ref 16] h by
            refine am_goX 1 (show (¬ (f (a5 - 1)) = 0 → pz_S 8 (some .int) am_r105 1 Q 107 [(7, .int (dT C k)), (0, .ref 14), (1, .int a), (2, .int b), (3, .int c), (4, .int d), (5, .int (nI a5)), (6, .int (nI k))] [.int ((nI a5) - (Int32.ofInt 1)), .ref 16] h) ∧ (¬ ¬ (f (a5 - 1)) = 0 → pz_S 8 (some .int) am_r105 1 Q 103 [(7, .int (dT C k)), (0, .ref 14), (1, .int a), (2, .int b), (3, .int c), (4, .int d), (5, .int (nI a5)), (6, .int (nI k))] [.int ((nI a5) - (Int32.ofInt 1)), .ref 16] h) from ⟨fun c79 => ?_, fun c79 => ?_⟩)
            · refine am_goX 1 (show pz_S 8 (some .int) am_r105 1 Q 108 [(7, .int (dT C k)), (0, .ref 14), (1, .int a), (2, .int b), (3, .int c), (4, .int d), (5, .int (nI a5)), (6, .int (nI k))] [.int (Int32.ofInt 0), .int ((nI a5) - (Int32.ofInt 1)), .ref 16] h from ?_)
              exact sv_S2 sv2_105 (by intro q hq; simp only [List.mem_cons, List.not_mem_nil, or_false] at hq; rcases hq with rfl | rfl | rfl | rfl | rfl | rfl | rfl <;> rfl) (key _ (if_pos c79).symm)
            · refine am_goX 2 (show pz_S 8 (some .int) am_r105 1 Q 108 [(7, .int (dT C k)), (0, .ref 14), (1, .int a), (2, .int b), (3, .int c), (4, .int d), (5, .int (nI a5)), (6, .int (nI k))] [.int (Int32.ofInt 1), .int ((nI a5) - (Int32.ofInt 1)), .ref 16] h from ?_)
              exact sv_S2 sv2_105 (by intro q hq; simp only [List.mem_cons, List.not_mem_nil, or_false] at hq; rcases hq with rfl | rfl | rfl | rfl | rfl | rfl | rfl <;> rfl) (key _ (if_neg c79).symm)
          intro v80 e81
          subst e81
          refine am_goX 1 (show ∃ jj nn : Nat, am_so h 16 = some (13, nn) ∧ jj < nn ∧ (nI a5) - (Int32.ofInt 1) = nI jj ∧ pz_S 8 (some .int) am_r105 1 Q 109 [(0, .ref 14), (1, .int a), (2, .int b), (3, .int c), (4, .int d), (5, .int (nI a5)), (6, .int (nI k))] [] (am_wI h 16 jj (if ¬ (f (a5 - 1)) = 0 then Int32.ofInt 0 else Int32.ofInt 1)) from ⟨(a5 - 1), 32, ex_w16 hP, (by omega), (dn_s (by omega) rfl rfl), ?_⟩)
          have f83 : ex_P (am_wI h 16 (a5 - 1) (if ¬ (f (a5 - 1)) = 0 then Int32.ofInt 0 else Int32.ofInt 1)) := hP
          have f84 : c_v 6 C (am_wI h 16 (a5 - 1) (if ¬ (f (a5 - 1)) = 0 then Int32.ofInt 0 else Int32.ofInt 1)) := c_v_w (by omega) hT
          have f85 : lfr 16 h0 (am_wI h 16 (a5 - 1) (if ¬ (f (a5 - 1)) = 0 then Int32.ofInt 0 else Int32.ofInt 1)) := lfr_w hF
          have f86 : ∀ j, j < 32 → (am_wI h 16 (a5 - 1) (if ¬ (f (a5 - 1)) = 0 then Int32.ofInt 0 else Int32.ofInt 1)).1 16 j = (sp_uI f (a5 - 1) (if ¬ (f (a5 - 1)) = 0 then Int32.ofInt 0 else Int32.ofInt 1)) j := stk_w hK
          generalize am_wI h 16 (a5 - 1) (if ¬ (f (a5 - 1)) = 0 then Int32.ofInt 0 else Int32.ofInt 1) = h82 at f83 f84 f85 f86 ⊢
          refine am_goX 3 (show 6 < 8 ∧ pz_S 8 (some .int) am_r105 1 Q 6 [(6, .int ((nI k) + (Int32.ofInt 1))), (0, .ref 14), (1, .int a), (2, .int b), (3, .int c), (4, .int d), (5, .int (nI a5))] [] h82 from ⟨by decide, ?_⟩)
          rw [show d_105_6 C a b c d (m + 1) k a5 f = d_105_6 C a b c d m (k + 1) a5 (sp_uI f (a5 - 1) (if ¬ (f (a5 - 1)) = 0 then Int32.ofInt 0 else Int32.ofInt 1)) from (if_pos c62).trans ((if_neg c63).trans (if_neg c71))] at hZ
          rw [show (nI k) + (Int32.ofInt 1) = nI (k + 1) from (dn_a rfl rfl)]
          exact sv_S2 sv2_105 (by intro q hq; simp only [List.mem_cons, List.not_mem_nil, or_false] at hq; rcases hq with rfl | rfl | rfl | rfl | rfl | rfl | rfl <;> rfl) (ih (k + 1) a5 (sp_uI f (a5 - 1) (if ¬ (f (a5 - 1)) = 0 then Int32.ofInt 0 else Int32.ofInt 1)) _ (by omega) f83 f84 f85 f86 (by omega) hZ)
    · refine am_goX 3 (show (((Int8.ofInt 32).toInt32) ≤ (nI a5) → pz_S 8 (some .int) am_r105 1 Q 71 [(7, .int (dT C k)), (0, .ref 14), (1, .int a), (2, .int b), (3, .int c), (4, .int d), (5, .int (nI a5)), (6, .int (nI k))] [] h) ∧ (¬ (((Int8.ofInt 32).toInt32) ≤ (nI a5)) → pz_S 8 (some .int) am_r105 1 Q 38 [(7, .int (dT C k)), (0, .ref 14), (1, .int a), (2, .int b), (3, .int c), (4, .int d), (5, .int (nI a5)), (6, .int (nI k))] [] h) from ⟨fun c87 => ?_, fun c87 => ?_⟩)
      · have c87n : 32 ≤ a5 := (nI_leI (by omega) (by omega)).mp (show nI 32 ≤ nI a5 from c87)
        refine am_goX 3 (show (¬ (dT C k) = ((Int8.ofInt (-5)).toInt32) → pz_S 8 (some .int) am_r105 1 Q 112 [(7, .int (dT C k)), (0, .ref 14), (1, .int a), (2, .int b), (3, .int c), (4, .int d), (5, .int (nI a5)), (6, .int (nI k))] [] h) ∧ (¬ ¬ (dT C k) = ((Int8.ofInt (-5)).toInt32) → pz_S 8 (some .int) am_r105 1 Q 78 [(7, .int (dT C k)), (0, .ref 14), (1, .int a), (2, .int b), (3, .int c), (4, .int d), (5, .int (nI a5)), (6, .int (nI k))] [] h) from ⟨fun c88 => ?_, fun c88 => ?_⟩)
        · refine am_goX 3 (show (((Int8.ofInt (-5)).toInt32) ≤ (dT C k) → pz_S 8 (some .int) am_r105 1 Q 158 [(7, .int (dT C k)), (0, .ref 14), (1, .int a), (2, .int b), (3, .int c), (4, .int d), (5, .int (nI a5)), (6, .int (nI k))] [] h) ∧ (¬ (((Int8.ofInt (-5)).toInt32) ≤ (dT C k)) → pz_S 8 (some .int) am_r105 1 Q 119 [(7, .int (dT C k)), (0, .ref 14), (1, .int a), (2, .int b), (3, .int c), (4, .int d), (5, .int (nI a5)), (6, .int (nI k))] [] h) from ⟨fun c89 => ?_, fun c89 => ?_⟩)
          · refine am_goX 2 (show 6 < 8 ∧ pz_S 8 (some .int) am_r105 1 Q 6 [(6, .int ((nI k) + (Int32.ofInt 1))), (7, .int (dT C k)), (0, .ref 14), (1, .int a), (2, .int b), (3, .int c), (4, .int d), (5, .int (nI a5))] [] h from ⟨by decide, ?_⟩)
            rw [show d_105_6 C a b c d (m + 1) k a5 f = d_105_6 C a b c d m (k + 1) a5 f from (if_neg c62).trans ((if_pos c87).trans ((if_pos c88).trans (if_pos c89)))] at hZ
            rw [show (nI k) + (Int32.ofInt 1) = nI (k + 1) from (dn_a rfl rfl)]
            exact sv_S2 sv2_105 (by intro q hq; simp only [List.mem_cons, List.not_mem_nil, or_false] at hq; rcases hq with rfl | rfl | rfl | rfl | rfl | rfl | rfl <;> rfl) (ih (k + 1) a5 f _ (by omega) hP hT hF hK (by omega) hZ)
          · refine am_goX 3 (show ((nI a5) ≤ (Int32.ofInt 1) → pz_S 8 (some .int) am_r105 1 Q 158 [(7, .int (dT C k)), (0, .ref 14), (1, .int a), (2, .int b), (3, .int c), (4, .int d), (5, .int (nI a5)), (6, .int (nI k))] [] h) ∧ (¬ ((nI a5) ≤ (Int32.ofInt 1)) → pz_S 8 (some .int) am_r105 1 Q 125 [(7, .int (dT C k)), (0, .ref 14), (1, .int a), (2, .int b), (3, .int c), (4, .int d), (5, .int (nI a5)), (6, .int (nI k))] [] h) from ⟨fun c90 => ?_, fun c90 => ?_⟩)
            · have c90n : a5 ≤ 1 := (nI_leI (by omega) (by omega)).mp (show nI a5 ≤ nI 1 from c90)
              refine am_goX 2 (show 6 < 8 ∧ pz_S 8 (some .int) am_r105 1 Q 6 [(6, .int ((nI k) + (Int32.ofInt 1))), (7, .int (dT C k)), (0, .ref 14), (1, .int a), (2, .int b), (3, .int c), (4, .int d), (5, .int (nI a5))] [] h from ⟨by decide, ?_⟩)
              rw [show d_105_6 C a b c d (m + 1) k a5 f = d_105_6 C a b c d m (k + 1) a5 f from (if_neg c62).trans ((if_pos c87).trans ((if_pos c88).trans ((if_neg c89).trans (if_pos c90))))] at hZ
              rw [show (nI k) + (Int32.ofInt 1) = nI (k + 1) from (dn_a rfl rfl)]
              exact sv_S2 sv2_105 (by intro q hq; simp only [List.mem_cons, List.not_mem_nil, or_false] at hq; rcases hq with rfl | rfl | rfl | rfl | rfl | rfl | rfl <;> rfl) (ih (k + 1) a5 f _ (by omega) hP hT hF hK (by omega) hZ)
            · have c90n : ¬ (a5 ≤ 1) := fun w => absurd (show nI a5 ≤ nI 1 from (nI_leI (by omega) (by omega)).mpr w) c90
              refine am_goX 3 (show 5 < 8 ∧ am_sh h 14 = some (3, 0) ∧ pz_S 8 (some .int) am_r105 1 Q 132 [(5, .int ((nI a5) + (Int32.ofInt (-1)))), (7, .int (dT C k)), (0, .ref 14), (1, .int a), (2, .int b), (3, .int c), (4, .int d), (6, .int (nI k))] [am_rf (h.2.2.1 14 1)] h from ⟨by decide, ex_14 hP, ?_⟩)
              rw [show am_rf (h.2.2.1 14 1) = .ref 16 from congrArg am_rf (ex_r14_1 hP)]
              refine am_goX 6 (show am_sh h 14 = some (3, 0) ∧ pz_S 8 (some .int) am_r105 1 Q 142 [(5, .int ((nI a5) + (Int32.ofInt (-1)))), (7, .int (dT C k)), (0, .ref 14), (1, .int a), (2, .int b), (3, .int c), (4, .int d), (6, .int (nI k))] [am_rf (h.2.2.1 14 1), .int (dT C k), .int (((nI a5) + (Int32.ofInt (-1))) - (Int32.ofInt 1)), .ref 16] h from ⟨ex_14 hP, ?_⟩)
              rw [show am_rf (h.2.2.1 14 1) = .ref 16 from congrArg am_rf (ex_r14_1 hP)]
              refine am_goX 4 (show ∃ jj nn : Nat, am_sh h 16 = some (13, nn) ∧ jj < nn ∧ ((nI a5) + (Int32.ofInt (-1))) - (Int32.ofInt 1) = nI jj ∧ pz_S 8 (some .int) am_r105 1 Q 147 [(5, .int ((nI a5) + (Int32.ofInt (-1)))), (7, .int (dT C k)), (0, .ref 14), (1, .int a), (2, .int b), (3, .int c), (4, .int d), (6, .int (nI k))] [.int (h.1 16 jj), .int (dT C k), .int (((nI a5) + (Int32.ofInt (-1))) - (Int32.ofInt 1)), .ref 16] h from ⟨((a5 - 1) - 1), 32, ex_16 hP, (by omega), (dn_s (by omega) (dn_d (by omega) rfl (by decide)) rfl), ?_⟩)
              rw [show h.1 16 ((a5 - 1) - 1) = f ((a5 - 1) - 1) from hK ((a5 - 1) - 1) (by omega)]
              refine am_goX 2 (show am_sh h 14 = some (3, 0) ∧ pz_S 8 (some .int) am_r105 1 Q 151 [(5, .int ((nI a5) + (Int32.ofInt (-1)))), (7, .int (dT C k)), (0, .ref 14), (1, .int a), (2, .int b), (3, .int c), (4, .int d), (6, .int (nI k))] [am_rf (h.2.2.1 14 1), .int (f ((a5 - 1) - 1)), .int (dT C k), .int (((nI a5) + (Int32.ofInt (-1))) - (Int32.ofInt 1)), .ref 16] h from ⟨ex_14 hP, ?_⟩)
              rw [show am_rf (h.2.2.1 14 1) = .ref 16 from congrArg am_rf (ex_r14_1 hP)]
              refine am_goX 2 (show ∃ jj nn : Nat, am_sh h 16 = some (13, nn) ∧ jj < nn ∧ (nI a5) + (Int32.ofInt (-1)) = nI jj ∧ pz_S 8 (some .int) am_r105 1 Q 154 [(5, .int ((nI a5) + (Int32.ofInt (-1)))), (7, .int (dT C k)), (0, .ref 14), (1, .int a), (2, .int b), (3, .int c), (4, .int d), (6, .int (nI k))] [.int (h.1 16 jj), .int (f ((a5 - 1) - 1)), .int (dT C k), .int (((nI a5) + (Int32.ofInt (-1))) - (Int32.ofInt 1)), .ref 16] h from ⟨(a5 - 1), 32, ex_16 hP, (by omega), (dn_d (by omega) rfl (by decide)), ?_⟩)
              rw [show h.1 16 (a5 - 1) = f (a5 - 1) from hK (a5 - 1) (by omega)]
              refine am_goX 1 (show 2 ≤ 8 ∧ h.2.2.2.2 + am_al 107 ≤ 175 ∧ am_call am_cod 1 107 [.int (dT C k), .int (f ((a5 - 1) - 1)), .int (f (a5 - 1))] h (fun vv h' => pz_S 8 (some .int) am_r105 1 Q 157 [(5, .int ((nI a5) + (Int32.ofInt (-1)))), (7, .int (dT C k)), (0, .ref 14), (1, .int a), (2, .int b), (3, .int c), (4, .int d), (6, .int (nI k))] (vv.toList ++ [.int (((nI a5) + (Int32.ofInt (-1))) - (Int32.ofInt 1)), .ref 16]) h') from ⟨by decide, ex_lim hP rfl, am_call.up (d_107_w hP ?_) (by decide)⟩)
              refine am_goX 1 (show ∃ jj nn : Nat, am_so h 16 = some (13, nn) ∧ jj < nn ∧ ((nI a5) + (Int32.ofInt (-1))) - (Int32.ofInt 1) = nI jj ∧ pz_S 8 (some .int) am_r105 1 Q 158 [(5, .int ((nI a5) + (Int32.ofInt (-1)))), (7, .int (dT C k)), (0, .ref 14), (1, .int a), (2, .int b), (3, .int c), (4, .int d), (6, .int (nI k))] [] (am_wI h 16 jj (d_107 (dT C k) (f ((a5 - 1) - 1)) (f (a5 - 1)))) from ⟨((a5 - 1) - 1), 32, ex_w16 hP, (by omega), (dn_s (by omega) (dn_d (by omega) rfl (by decide)) rfl), ?_⟩)
              have f92 : ex_P (am_wI h 16 ((a5 - 1) - 1) (d_107 (dT C k) (f ((a5 - 1) - 1)) (f (a5 - 1)))) := hP
              have f93 : c_v 6 C (am_wI h 16 ((a5 - 1) - 1) (d_107 (dT C k) (f ((a5 - 1) - 1)) (f (a5 - 1)))) := c_v_w (by omega) hT
              have f94 : lfr 16 h0 (am_wI h 16 ((a5 - 1) - 1) (d_107 (dT C k) (f ((a5 - 1) - 1)) (f (a5 - 1)))) := lfr_w hF
              have f95 : ∀ j, j < 32 → (am_wI h 16 ((a5 - 1) - 1) (d_107 (dT C k) (f ((a5 - 1) - 1)) (f (a5 - 1)))).1 16 j = (sp_uI f ((a5 - 1) - 1) (d_107 (dT C k) (f ((a5 - 1) - 1)) (f (a5 - 1)))) j := stk_w hK
              generalize am_wI h 16 ((a5 - 1) - 1) (d_107 (dT C k) (f ((a5 - 1) - 1)) (f (a5 - 1))) = h91 at f92 f93 f94 f95 ⊢
              refine am_goX 2 (show 6 < 8 ∧ pz_S 8 (some .int) am_r105 1 Q 6 [(6, .int ((nI k) + (Int32.ofInt 1))), (5, .int ((nI a5) + (Int32.ofInt (-1)))), (7, .int (dT C k)), (0, .ref 14), (1, .int a), (2, .int b), (3, .int c), (4, .int d)] [] h91 from ⟨by decide, ?_⟩)
              rw [show d_105_6 C a b c d (m + 1) k a5 f = d_105_6 C a b c d m (k + 1) (a5 - 1) (sp_uI f ((a5 - 1) - 1) (d_107 (dT C k) (f ((a5 - 1) - 1)) (f (a5 - 1)))) from (if_neg c62).trans ((if_pos c87).trans ((if_pos c88).trans ((if_neg c89).trans (if_neg c90))))] at hZ
              rw [show (nI k) + (Int32.ofInt 1) = nI (k + 1) from (dn_a rfl rfl)]
              rw [show (nI a5) + (Int32.ofInt (-1)) = nI (a5 - 1) from (dn_d (by omega) rfl (by decide))]
              exact sv_S2 sv2_105 (by intro q hq; simp only [List.mem_cons, List.not_mem_nil, or_false] at hq; rcases hq with rfl | rfl | rfl | rfl | rfl | rfl | rfl <;> rfl) (ih (k + 1) (a5 - 1) (sp_uI f ((a5 - 1) - 1) (d_107 (dT C k) (f ((a5 - 1) - 1)) (f (a5 - 1)))) _ (by omega) f92 f93 f94 f95 (by omega) hZ)
        · refine am_goX 2 (show ((nI a5) ≤ 0 → pz_S 8 (some .int) am_r105 1 Q 112 [(7, .int (dT C k)), (0, .ref 14), (1, .int a), (2, .int b), (3, .int c), (4, .int d), (5, .int (nI a5)), (6, .int (nI k))] [] h) ∧ (¬ ((nI a5) ≤ 0) → pz_S 8 (some .int) am_r105 1 Q 83 [(7, .int (dT C k)), (0, .ref 14), (1, .int a), (2, .int b), (3, .int c), (4, .int d), (5, .int (nI a5)), (6, .int (nI k))] [] h) from ⟨fun c96 => ?_, fun c96 => ?_⟩)
          · have c96n : a5 ≤ 0 := (nI_leI (by omega) (by omega)).mp (show nI a5 ≤ nI 0 from c96)
            refine am_goX 3 (show (((Int8.ofInt (-5)).toInt32) ≤ (dT C k) → pz_S 8 (some .int) am_r105 1 Q 158 [(7, .int (dT C k)), (0, .ref 14), (1, .int a), (2, .int b), (3, .int c), (4, .int d), (5, .int (nI a5)), (6, .int (nI k))] [] h) ∧ (¬ (((Int8.ofInt (-5)).toInt32) ≤ (dT C k)) → pz_S 8 (some .int) am_r105 1 Q 119 [(7, .int (dT C k)), (0, .ref 14), (1, .int a), (2, .int b), (3, .int c), (4, .int d), (5, .int (nI a5)), (6, .int (nI k))] [] h) from ⟨fun c97 => ?_, fun c97 => ?_⟩)
            · refine am_goX 2 (show 6 < 8 ∧ pz_S 8 (some .int) am_r105 1 Q 6 [(6, .int ((nI k) + (Int32.ofInt 1))), (7, .int (dT C k)), (0, .ref 14), (1, .int a), (2, .int b), (3, .int c), (4, .int d), (5, .int (nI a5))] [] h from ⟨by decide, ?_⟩)
              rw [show d_105_6 C a b c d (m + 1) k a5 f = d_105_6 C a b c d m (k + 1) a5 f from (if_neg c62).trans ((if_pos c87).trans ((if_neg c88).trans ((if_pos c96).trans (if_pos c97))))] at hZ
              rw [show (nI k) + (Int32.ofInt 1) = nI (k + 1) from (dn_a rfl rfl)]
              exact sv_S2 sv2_105 (by intro q hq; simp only [List.mem_cons, List.not_mem_nil, or_false] at hq; rcases hq with rfl | rfl | rfl | rfl | rfl | rfl | rfl <;> rfl) (ih (k + 1) a5 f _ (by omega) hP hT hF hK (by omega) hZ)
            · refine am_goX 3 (show ((nI a5) ≤ (Int32.ofInt 1) → pz_S 8 (some .int) am_r105 1 Q 158 [(7, .int (dT C k)), (0, .ref 14), (1, .int a), (2, .int b), (3, .int c), (4, .int d), (5, .int (nI a5)), (6, .int (nI k))] [] h) ∧ (¬ ((nI a5) ≤ (Int32.ofInt 1)) → pz_S 8 (some .int) am_r105 1 Q 125 [(7, .int (dT C k)), (0, .ref 14), (1, .int a), (2, .int b), (3, .int c), (4, .int d), (5, .int (nI a5)), (6, .int (nI k))] [] h) from ⟨fun c98 => ?_, fun c98 => ?_⟩)
              · have c98n : a5 ≤ 1 := (nI_leI (by omega) (by omega)).mp (show nI a5 ≤ nI 1 from c98)
                refine am_goX 2 (show 6 < 8 ∧ pz_S 8 (some .int) am_r105 1 Q 6 [(6, .int ((nI k) + (Int32.ofInt 1))), (7, .int (dT C k)), (0, .ref 14), (1, .int a), (2, .int b), (3, .int c), (4, .int d), (5, .int (nI a5))] [] h from ⟨by decide, ?_⟩)
                rw [show d_105_6 C a b c d (m + 1) k a5 f = d_105_6 C a b c d m (k + 1) a5 f from (if_neg c62).trans ((if_pos c87).trans ((if_neg c88).trans ((if_pos c96).trans ((if_neg c97).trans (if_pos c98)))))] at hZ
                rw [show (nI k) + (Int32.ofInt 1) = nI (k + 1) from (dn_a rfl rfl)]
                exact sv_S2 sv2_105 (by intro q hq; simp only [List.mem_cons, List.not_mem_nil, or_false] at hq; rcases hq with rfl | rfl | rfl | rfl | rfl | rfl | rfl <;> rfl) (ih (k + 1) a5 f _ (by omega) hP hT hF hK (by omega) hZ)
              · have c98n : ¬ (a5 ≤ 1) := fun w => absurd (show nI a5 ≤ nI 1 from (nI_leI (by omega) (by omega)).mpr w) c98
                refine am_goX 3 (show 5 < 8 ∧ am_sh h 14 = some (3, 0) ∧ pz_S 8 (some .int) am_r105 1 Q 132 [(5, .int ((nI a5) + (Int32.ofInt (-1)))), (7, .int (dT C k)), (0, .ref 14), (1, .int a), (2, .int b), (3, .int c), (4, .int d), (6, .int (nI k))] [am_rf (h.2.2.1 14 1)] h from ⟨by decide, ex_14 hP, ?_⟩)
                rw [show am_rf (h.2.2.1 14 1) = .ref 16 from congrArg am_rf (ex_r14_1 hP)]
                refine am_goX 6 (show am_sh h 14 = some (3, 0) ∧ pz_S 8 (some .int) am_r105 1 Q 142 [(5, .int ((nI a5) + (Int32.ofInt (-1)))), (7, .int (dT C k)), (0, .ref 14), (1, .int a), (2, .int b), (3, .int c), (4, .int d), (6, .int (nI k))] [am_rf (h.2.2.1 14 1), .int (dT C k), .int (((nI a5) + (Int32.ofInt (-1))) - (Int32.ofInt 1)), .ref 16] h from ⟨ex_14 hP, ?_⟩)
                rw [show am_rf (h.2.2.1 14 1) = .ref 16 from congrArg am_rf (ex_r14_1 hP)]
                refine am_goX 4 (show ∃ jj nn : Nat, am_sh h 16 = some (13, nn) ∧ jj < nn ∧ ((nI a5) + (Int32.ofInt (-1))) - (Int32.ofInt 1) = nI jj ∧ pz_S 8 (some .int) am_r105 1 Q 147 [(5, .int ((nI a5) + (Int32.ofInt (-1)))), (7, .int (dT C k)), (0, .ref 14), (1, .int a), (2, .int b), (3, .int c), (4, .int d), (6, .int (nI k))] [.int (h.1 16 jj), .int (dT C k), .int (((nI a5) + (Int32.ofInt (-1))) - (Int32.ofInt 1)), .ref 16] h from ⟨((a5 - 1) - 1), 32, ex_16 hP, (by omega), (dn_s (by omega) (dn_d (by omega) rfl (by decide)) rfl), ?_⟩)
                rw [show h.1 16 ((a5 - 1) - 1) = f ((a5 - 1) - 1) from hK ((a5 - 1) - 1) (by omega)]
                refine am_goX 2 (show am_sh h 14 = some (3, 0) ∧ pz_S 8 (some .int) am_r105 1 Q 151 [(5, .int ((nI a5) + (Int32.ofInt (-1)))), (7, .int (dT C k)), (0, .ref 14), (1, .int a), (2, .int b), (3, .int c), (4, .int d), (6, .int (nI k))] [am_rf (h.2.2.1 14 1), .int (f ((a5 - 1) - 1)), .int (dT C k), .int (((nI a5) + (Int32.ofInt (-1))) - (Int32.ofInt 1)), .ref 16] h from ⟨ex_14 hP, ?_⟩)
                rw [show am_rf (h.2.2.1 14 1) = .ref 16 from congrArg am_rf (ex_r14_1 hP)]
                refine am_goX 2 (show ∃ jj nn : Nat, am_sh h 16 = some (13, nn) ∧ jj < nn ∧ (nI a5) + (Int32.ofInt (-1)) = nI jj ∧ pz_S 8 (some .int) am_r105 1 Q 154 [(5, .int ((nI a5) + (Int32.ofInt (-1)))), (7, .int (dT C k)), (0, .ref 14), (1, .int a), (2, .int b), (3, .int c), (4, .int d), (6, .int (nI k))] [.int (h.1 16 jj), .int (f ((a5 - 1) - 1)), .int (dT C k), .int (((nI a5) + (Int32.ofInt (-1))) - (Int32.ofInt 1)), .ref 16] h from ⟨(a5 - 1), 32, ex_16 hP, (by omega), (dn_d (by omega) rfl (by decide)), ?_⟩)
                rw [show h.1 16 (a5 - 1) = f (a5 - 1) from hK (a5 - 1) (by omega)]
                refine am_goX 1 (show 2 ≤ 8 ∧ h.2.2.2.2 + am_al 107 ≤ 175 ∧ am_call am_cod 1 107 [.int (dT C k), .int (f ((a5 - 1) - 1)), .int (f (a5 - 1))] h (fun vv h' => pz_S 8 (some .int) am_r105 1 Q 157 [(5, .int ((nI a5) + (Int32.ofInt (-1)))), (7, .int (dT C k)), (0, .ref 14), (1, .int a), (2, .int b), (3, .int c), (4, .int d), (6, .int (nI k))] (vv.toList ++ [.int (((nI a5) + (Int32.ofInt (-1))) - (Int32.ofInt 1)), .ref 16]) h') from ⟨by decide, ex_lim hP rfl, am_call.up (d_107_w hP ?_) (by decide)⟩)
                refine am_goX 1 (show ∃ jj nn : Nat, am_so h 16 = some (13, nn) ∧ jj < nn ∧ ((nI a5) + (Int32.ofInt (-1))) - (Int32.ofInt 1) = nI jj ∧ pz_S 8 (some .int) am_r105 1 Q 158 [(5, .int ((nI a5) + (Int32.ofInt (-1)))), (7, .int (dT C k)), (0, .ref 14), (1, .int a), (2, .int b), (3, .int c), (4, .int d), (6, .int (nI k))] [] (am_wI h 16 jj (d_107 (dT C k) (f ((a5 - 1) - 1)) (f (a5 - 1)))) from ⟨((a5 - 1) - 1), 32, ex_w16 hP, (by omega), (dn_s (by omega) (dn_d (by omega) rfl (by decide)) rfl), ?_⟩)
                have f100 : ex_P (am_wI h 16 ((a5 - 1) - 1) (d_107 (dT C k) (f ((a5 - 1) - 1)) (f (a5 - 1)))) := hP
                have f101 : c_v 6 C (am_wI h 16 ((a5 - 1) - 1) (d_107 (dT C k) (f ((a5 - 1) - 1)) (f (a5 - 1)))) := c_v_w (by omega) hT
                have f102 : lfr 16 h0 (am_wI h 16 ((a5 - 1) - 1) (d_107 (dT C k) (f ((a5 - 1) - 1)) (f (a5 - 1)))) := lfr_w hF
                have f103 : ∀ j, j < 32 → (am_wI h 16 ((a5 - 1) - 1) (d_107 (dT C k) (f ((a5 - 1) - 1)) (f (a5 - 1)))).1 16 j = (sp_uI f ((a5 - 1) - 1) (d_107 (dT C k) (f ((a5 - 1) - 1)) (f (a5 - 1)))) j := stk_w hK
                generalize am_wI h 16 ((a5 - 1) - 1) (d_107 (dT C k) (f ((a5 - 1) - 1)) (f (a5 - 1))) = h99 at f100 f101 f102 f103 ⊢
                refine am_goX 2 (show 6 < 8 ∧ pz_S 8 (some .int) am_r105 1 Q 6 [(6, .int ((nI k) + (Int32.ofInt 1))), (5, .int ((nI a5) + (Int32.ofInt (-1)))), (7, .int (dT C k)), (0, .ref 14), (1, .int a), (2, .int b), (3, .int c), (4, .int d)] [] h99 from ⟨by decide, ?_⟩)
                rw [show d_105_6 C a b c d (m + 1) k a5 f = d_105_6 C a b c d m (k + 1) (a5 - 1) (sp_uI f ((a5 - 1) - 1) (d_107 (dT C k) (f ((a5 - 1) - 1)) (f (a5 - 1)))) from (if_neg c62).trans ((if_pos c87).trans ((if_neg c88).trans ((if_pos c96).trans ((if_neg c97).trans (if_neg c98)))))] at hZ
                rw [show (nI k) + (Int32.ofInt 1) = nI (k + 1) from (dn_a rfl rfl)]
                rw [show (nI a5) + (Int32.ofInt (-1)) = nI (a5 - 1) from (dn_d (by omega) rfl (by decide))]
                exact sv_S2 sv2_105 (by intro q hq; simp only [List.mem_cons, List.not_mem_nil, or_false] at hq; rcases hq with rfl | rfl | rfl | rfl | rfl | rfl | rfl <;> rfl) (ih (k + 1) (a5 - 1) (sp_uI f ((a5 - 1) - 1) (d_107 (dT C k) (f ((a5 - 1) - 1)) (f (a5 - 1)))) _ (by omega) f100 f101 f102 f103 (by omega) hZ)
          · have c96n : ¬ (a5 ≤ 0) := fun w => absurd (show nI a5 ≤ nI 0 from (nI_leI (by omega) (by omega)).mpr w) c96
            refine am_goX 2 (show am_sh h 14 = some (3, 0) ∧ pz_S 8 (some .int) am_r105 1 Q 87 [(7, .int (dT C k)), (0, .ref 14), (1, .int a), (2, .int b), (3, .int c), (4, .int d), (5, .int (nI a5)), (6, .int (nI k))] [am_rf (h.2.2.1 14 1)] h from ⟨ex_14 hP, ?_⟩)
            rw [show am_rf (h.2.2.1 14 1) = .ref 16 from congrArg am_rf (ex_r14_1 hP)]
            refine am_goX 5 (show am_sh h 14 = some (3, 0) ∧ pz_S 8 (some .int) am_r105 1 Q 95 [(7, .int (dT C k)), (0, .ref 14), (1, .int a), (2, .int b), (3, .int c), (4, .int d), (5, .int (nI a5)), (6, .int (nI k))] [am_rf (h.2.2.1 14 1), .int ((nI a5) - (Int32.ofInt 1)), .ref 16] h from ⟨ex_14 hP, ?_⟩)
            rw [show am_rf (h.2.2.1 14 1) = .ref 16 from congrArg am_rf (ex_r14_1 hP)]
            refine am_goX 4 (show ∃ jj nn : Nat, am_sh h 16 = some (13, nn) ∧ jj < nn ∧ (nI a5) - (Int32.ofInt 1) = nI jj ∧ pz_S 8 (some .int) am_r105 1 Q 100 [(7, .int (dT C k)), (0, .ref 14), (1, .int a), (2, .int b), (3, .int c), (4, .int d), (5, .int (nI a5)), (6, .int (nI k))] [.int (h.1 16 jj), .int ((nI a5) - (Int32.ofInt 1)), .ref 16] h from ⟨(a5 - 1), 32, ex_16 hP, (by omega), (dn_s (by omega) rfl rfl), ?_⟩)
            rw [show h.1 16 (a5 - 1) = f (a5 - 1) from hK (a5 - 1) (by omega)]
            suffices key : ∀ (v105 : Int32), v105 = (if ¬ (f (a5 - 1)) = 0 then Int32.ofInt 0 else Int32.ofInt 1) → pz_S 8 (some .int) am_r105 1 Q 108 [(0, .ref 14), (1, .int a), (2, .int b), (3, .int c), (4, .int d), (5, .int (nI a5)), (6, .int (nI k))] [.int v105, .int ((nI a5) - (Int32.ofInt 1)), .ref 16] h by
              refine am_goX 1 (show (¬ (f (a5 - 1)) = 0 → pz_S 8 (some .int) am_r105 1 Q 107 [(7, .int (dT C k)), (0, .ref 14), (1, .int a), (2, .int b), (3, .int c), (4, .int d), (5, .int (nI a5)), (6, .int (nI k))] [.int ((nI a5) - (Int32.ofInt 1)), .ref 16] h) ∧ (¬ ¬ (f (a5 - 1)) = 0 → pz_S 8 (some .int) am_r105 1 Q 103 [(7, .int (dT C k)), (0, .ref 14), (1, .int a), (2, .int b), (3, .int c), (4, .int d), (5, .int (nI a5)), (6, .int (nI k))] [.int ((nI a5) - (Int32.ofInt 1)), .ref 16] h) from ⟨fun c104 => ?_, fun c104 => ?_⟩)
              · refine am_goX 1 (show pz_S 8 (some .int) am_r105 1 Q 108 [(7, .int (dT C k)), (0, .ref 14), (1, .int a), (2, .int b), (3, .int c), (4, .int d), (5, .int (nI a5)), (6, .int (nI k))] [.int (Int32.ofInt 0), .int ((nI a5) - (Int32.ofInt 1)), .ref 16] h from ?_)
                exact sv_S2 sv2_105 (by intro q hq; simp only [List.mem_cons, List.not_mem_nil, or_false] at hq; rcases hq with rfl | rfl | rfl | rfl | rfl | rfl | rfl <;> rfl) (key _ (if_pos c104).symm)
              · refine am_goX 2 (show pz_S 8 (some .int) am_r105 1 Q 108 [(7, .int (dT C k)), (0, .ref 14), (1, .int a), (2, .int b), (3, .int c), (4, .int d), (5, .int (nI a5)), (6, .int (nI k))] [.int (Int32.ofInt 1), .int ((nI a5) - (Int32.ofInt 1)), .ref 16] h from ?_)
                exact sv_S2 sv2_105 (by intro q hq; simp only [List.mem_cons, List.not_mem_nil, or_false] at hq; rcases hq with rfl | rfl | rfl | rfl | rfl | rfl | rfl <;> rfl) (key _ (if_neg c104).symm)
            intro v105 e106
            subst e106
            refine am_goX 1 (show ∃ jj nn : Nat, am_so h 16 = some (13, nn) ∧ jj < nn ∧ (nI a5) - (Int32.ofInt 1) = nI jj ∧ pz_S 8 (some .int) am_r105 1 Q 109 [(0, .ref 14), (1, .int a), (2, .int b), (3, .int c), (4, .int d), (5, .int (nI a5)), (6, .int (nI k))] [] (am_wI h 16 jj (if ¬ (f (a5 - 1)) = 0 then Int32.ofInt 0 else Int32.ofInt 1)) from ⟨(a5 - 1), 32, ex_w16 hP, (by omega), (dn_s (by omega) rfl rfl), ?_⟩)
            have f108 : ex_P (am_wI h 16 (a5 - 1) (if ¬ (f (a5 - 1)) = 0 then Int32.ofInt 0 else Int32.ofInt 1)) := hP
            have f109 : c_v 6 C (am_wI h 16 (a5 - 1) (if ¬ (f (a5 - 1)) = 0 then Int32.ofInt 0 else Int32.ofInt 1)) := c_v_w (by omega) hT
            have f110 : lfr 16 h0 (am_wI h 16 (a5 - 1) (if ¬ (f (a5 - 1)) = 0 then Int32.ofInt 0 else Int32.ofInt 1)) := lfr_w hF
            have f111 : ∀ j, j < 32 → (am_wI h 16 (a5 - 1) (if ¬ (f (a5 - 1)) = 0 then Int32.ofInt 0 else Int32.ofInt 1)).1 16 j = (sp_uI f (a5 - 1) (if ¬ (f (a5 - 1)) = 0 then Int32.ofInt 0 else Int32.ofInt 1)) j := stk_w hK
            generalize am_wI h 16 (a5 - 1) (if ¬ (f (a5 - 1)) = 0 then Int32.ofInt 0 else Int32.ofInt 1) = h107 at f108 f109 f110 f111 ⊢
            refine am_goX 3 (show 6 < 8 ∧ pz_S 8 (some .int) am_r105 1 Q 6 [(6, .int ((nI k) + (Int32.ofInt 1))), (0, .ref 14), (1, .int a), (2, .int b), (3, .int c), (4, .int d), (5, .int (nI a5))] [] h107 from ⟨by decide, ?_⟩)
            rw [show d_105_6 C a b c d (m + 1) k a5 f = d_105_6 C a b c d m (k + 1) a5 (sp_uI f (a5 - 1) (if ¬ (f (a5 - 1)) = 0 then Int32.ofInt 0 else Int32.ofInt 1)) from (if_neg c62).trans ((if_pos c87).trans ((if_neg c88).trans (if_neg c96)))] at hZ
            rw [show (nI k) + (Int32.ofInt 1) = nI (k + 1) from (dn_a rfl rfl)]
            exact sv_S2 sv2_105 (by intro q hq; simp only [List.mem_cons, List.not_mem_nil, or_false] at hq; rcases hq with rfl | rfl | rfl | rfl | rfl | rfl | rfl <;> rfl) (ih (k + 1) a5 (sp_uI f (a5 - 1) (if ¬ (f (a5 - 1)) = 0 then Int32.ofInt 0 else Int32.ofInt 1)) _ (by omega) f108 f109 f110 f111 (by omega) hZ)
      · have c87n : ¬ (32 ≤ a5) := fun w => absurd (show nI 32 ≤ nI a5 from (nI_leI (by omega) (by omega)).mpr w) c87
        refine am_goX 2 (show am_sh h 14 = some (3, 0) ∧ pz_S 8 (some .int) am_r105 1 Q 42 [(7, .int (dT C k)), (0, .ref 14), (1, .int a), (2, .int b), (3, .int c), (4, .int d), (5, .int (nI a5)), (6, .int (nI k))] [am_rf (h.2.2.1 14 1)] h from ⟨ex_14 hP, ?_⟩)
        rw [show am_rf (h.2.2.1 14 1) = .ref 16 from congrArg am_rf (ex_r14_1 hP)]
        suffices key : ∀ (v113 : Int32), v113 = (if (dT C k) < 0 then d_106 (dT C k) a b c d else dT C k) → pz_S 8 (some .int) am_r105 1 Q 64 [(0, .ref 14), (1, .int a), (2, .int b), (3, .int c), (4, .int d), (5, .int (nI a5)), (6, .int (nI k))] [.int v113, .int (nI a5), .ref 16] h by
          refine am_goX 3 (show ((dT C k) < 0 → pz_S 8 (some .int) am_r105 1 Q 54 [(7, .int (dT C k)), (0, .ref 14), (1, .int a), (2, .int b), (3, .int c), (4, .int d), (5, .int (nI a5)), (6, .int (nI k))] [.int (nI a5), .ref 16] h) ∧ (¬ ((dT C k) < 0) → pz_S 8 (some .int) am_r105 1 Q 49 [(7, .int (dT C k)), (0, .ref 14), (1, .int a), (2, .int b), (3, .int c), (4, .int d), (5, .int (nI a5)), (6, .int (nI k))] [.int (nI a5), .ref 16] h) from ⟨fun c112 => ?_, fun c112 => ?_⟩)
          · refine am_goX 6 (show 2 ≤ 8 ∧ h.2.2.2.2 + am_al 106 ≤ 175 ∧ am_call am_cod 1 106 [.int (dT C k), .int a, .int b, .int c, .int d] h (fun vv h' => pz_S 8 (some .int) am_r105 1 Q 64 [(7, .int (dT C k)), (0, .ref 14), (1, .int a), (2, .int b), (3, .int c), (4, .int d), (5, .int (nI a5)), (6, .int (nI k))] (vv.toList ++ [.int (nI a5), .ref 16]) h') from ⟨by decide, ex_lim hP rfl, am_call.up (d_106_w hP ?_) (by decide)⟩)
            exact sv_S2 sv2_105 (by intro q hq; simp only [List.mem_cons, List.not_mem_nil, or_false] at hq; rcases hq with rfl | rfl | rfl | rfl | rfl | rfl | rfl <;> rfl) (key _ (if_pos c112).symm)
          · refine am_goX 2 (show pz_S 8 (some .int) am_r105 1 Q 64 [(7, .int (dT C k)), (0, .ref 14), (1, .int a), (2, .int b), (3, .int c), (4, .int d), (5, .int (nI a5)), (6, .int (nI k))] [.int (dT C k), .int (nI a5), .ref 16] h from ?_)
            exact sv_S2 sv2_105 (by intro q hq; simp only [List.mem_cons, List.not_mem_nil, or_false] at hq; rcases hq with rfl | rfl | rfl | rfl | rfl | rfl | rfl <;> rfl) (key _ (if_neg c112).symm)
        intro v113 e114
        subst e114
        refine am_goX 1 (show ∃ jj nn : Nat, am_so h 16 = some (13, nn) ∧ jj < nn ∧ nI a5 = nI jj ∧ pz_S 8 (some .int) am_r105 1 Q 65 [(0, .ref 14), (1, .int a), (2, .int b), (3, .int c), (4, .int d), (5, .int (nI a5)), (6, .int (nI k))] [] (am_wI h 16 jj (if (dT C k) < 0 then d_106 (dT C k) a b c d else dT C k)) from ⟨a5, 32, ex_w16 hP, (by omega), rfl, ?_⟩)
        have f116 : ex_P (am_wI h 16 a5 (if (dT C k) < 0 then d_106 (dT C k) a b c d else dT C k)) := hP
        have f117 : c_v 6 C (am_wI h 16 a5 (if (dT C k) < 0 then d_106 (dT C k) a b c d else dT C k)) := c_v_w (by omega) hT
        have f118 : lfr 16 h0 (am_wI h 16 a5 (if (dT C k) < 0 then d_106 (dT C k) a b c d else dT C k)) := lfr_w hF
        have f119 : ∀ j, j < 32 → (am_wI h 16 a5 (if (dT C k) < 0 then d_106 (dT C k) a b c d else dT C k)).1 16 j = (sp_uI f a5 (if (dT C k) < 0 then d_106 (dT C k) a b c d else dT C k)) j := stk_w hK
        generalize am_wI h 16 a5 (if (dT C k) < 0 then d_106 (dT C k) a b c d else dT C k) = h115 at f116 f117 f118 f119 ⊢
        refine am_goX 4 (show 5 < 8 ∧ 6 < 8 ∧ pz_S 8 (some .int) am_r105 1 Q 6 [(6, .int ((nI k) + (Int32.ofInt 1))), (5, .int ((nI a5) + (Int32.ofInt 1))), (0, .ref 14), (1, .int a), (2, .int b), (3, .int c), (4, .int d)] [] h115 from ⟨by decide, by decide, ?_⟩)
        rw [show d_105_6 C a b c d (m + 1) k a5 f = d_105_6 C a b c d m (k + 1) (a5 + 1) (sp_uI f a5 (if (dT C k) < 0 then d_106 (dT C k) a b c d else dT C k)) from (if_neg c62).trans (if_neg c87)] at hZ
        rw [show (nI k) + (Int32.ofInt 1) = nI (k + 1) from (dn_a rfl rfl)]
        rw [show (nI a5) + (Int32.ofInt 1) = nI (a5 + 1) from (dn_a rfl rfl)]
        exact sv_S2 sv2_105 (by intro q hq; simp only [List.mem_cons, List.not_mem_nil, or_false] at hq; rcases hq with rfl | rfl | rfl | rfl | rfl | rfl | rfl <;> rfl) (ih (k + 1) (a5 + 1) (sp_uI f a5 (if (dT C k) < 0 then d_106 (dT C k) a b c d else dT C k)) _ (by omega) f116 f117 f118 f119 (by omega) hZ)
def d_105_f (C : sp_C) (a b c d : Int32) (f : Nat → Int32) : Nat → Int32 := (d_105_6 C a b c d (dM C) 0 0 f).2
def d_105 (C : sp_C) (a b c d : Int32) (f : Nat → Int32) : Int32 := (if (nI ((d_105_6 C a b c d (dM C) 0 0 f).1)) ≤ 0 then Int32.ofInt 1 else ((d_105_6 C a b c d (dM C) 0 0 f).2) 0)
theorem d_105_l6 (hP : ex_P h) (hT : c_v 6 C h) (hF : lfr 16 h0 h) (hK : ∀ j, j < 32 → h.1 16 j = f j)  (hQ : ∀ h1, (ex_P h1) → (c_v 6 C h1) → (lfr 16 h0 h1) → (∀ j, j < 32 → h1.1 16 j = (d_105_f C a b c d f) j) → Q (some (.int (d_105 C a b c d f))) h1) : am_call am_cod 2 105 [.ref 14, .int a, .int b, .int c, .int d] h Q := by
  have hM := hT.2.2.2.2.1
  refine pz_call (n := 105) (nL := 8) (rt := (some .int)) (rows := am_r105) (d := 1) (by decide +kernel) (by decide +kernel) rfl (by funext pc; rfl) (ex_175 hP) (by exact Nat.le_of_ble_eq_true rfl) ?_
  refine am_goX 4 (show 5 < 8 ∧ 6 < 8 ∧ pz_S 8 (some .int) am_r105 1 Q 6 [(6, .int (Int32.ofInt 0)), (5, .int (Int32.ofInt 0)), (0, .ref 14), (1, .int a), (2, .int b), (3, .int c), (4, .int d)] [] h from ⟨by decide, by decide, ?_⟩)
  refine sv_S2 sv2_105 (by intro q hq; simp only [List.mem_cons, List.not_mem_nil, or_false] at hq; rcases hq with rfl | rfl | rfl | rfl | rfl | rfl | rfl <;> rfl) (d_105_6_l6 (dM C) 0 0 f _ (by omega) hP hT hF hK (by omega) (fun h120 f121 f122 f123 f124 i125 => ?_))
  suffices key : ∀ (v127 : Int32), v127 = (if (nI ((d_105_6 C a b c d (dM C) 0 0 f).1)) ≤ 0 then Int32.ofInt 1 else ((d_105_6 C a b c d (dM C) 0 0 f).2) 0) → pz_S 8 (some .int) am_r105 1 Q 179 [] [.int v127] h120 by
    refine am_goX 2 (show ((nI ((d_105_6 C a b c d (dM C) 0 0 f).1)) ≤ 0 → pz_S 8 (some .int) am_r105 1 Q 178 [(0, .ref 14), (5, .int (nI ((d_105_6 C a b c d (dM C) 0 0 f).1)))] [] h120) ∧ (¬ ((nI ((d_105_6 C a b c d (dM C) 0 0 f).1)) ≤ 0) → pz_S 8 (some .int) am_r105 1 Q 169 [(0, .ref 14), (5, .int (nI ((d_105_6 C a b c d (dM C) 0 0 f).1)))] [] h120) from ⟨fun c126 => ?_, fun c126 => ?_⟩)
    · have c126n : (d_105_6 C a b c d (dM C) 0 0 f).1 ≤ 0 := (nI_leI (by omega) (by omega)).mp (show nI ((d_105_6 C a b c d (dM C) 0 0 f).1) ≤ nI 0 from c126)
      refine am_goX 1 (show pz_S 8 (some .int) am_r105 1 Q 179 [(0, .ref 14), (5, .int (nI ((d_105_6 C a b c d (dM C) 0 0 f).1)))] [.int (Int32.ofInt 1)] h120 from ?_)
      exact sv_S2 sv2_105 (fun q hq => absurd hq List.not_mem_nil) (key _ (if_pos c126).symm)
    · have c126n : ¬ ((d_105_6 C a b c d (dM C) 0 0 f).1 ≤ 0) := fun w => absurd (show nI ((d_105_6 C a b c d (dM C) 0 0 f).1) ≤ nI 0 from (nI_leI (by omega) (by omega)).mpr w) c126
      refine am_goX 2 (show am_sh h120 14 = some (3, 0) ∧ pz_S 8 (some .int) am_r105 1 Q 173 [(0, .ref 14), (5, .int (nI ((d_105_6 C a b c d (dM C) 0 0 f).1)))] [am_rf (h120.2.2.1 14 1)] h120 from ⟨ex_14 f121, ?_⟩)
      rw [show am_rf (h120.2.2.1 14 1) = .ref 16 from congrArg am_rf (ex_r14_1 f121)]
      refine am_goX 2 (show ∃ jj nn : Nat, am_sh h120 16 = some (13, nn) ∧ jj < nn ∧ Int32.ofInt 0 = nI jj ∧ pz_S 8 (some .int) am_r105 1 Q 175 [(0, .ref 14), (5, .int (nI ((d_105_6 C a b c d (dM C) 0 0 f).1)))] [.int (h120.1 16 jj)] h120 from ⟨0, 32, ex_16 f121, (by omega), rfl, ?_⟩)
      rw [show h120.1 16 0 = ((d_105_6 C a b c d (dM C) 0 0 f).2) 0 from f124 0 (by omega)]
      refine am_goX 1 (show pz_S 8 (some .int) am_r105 1 Q 179 [(0, .ref 14), (5, .int (nI ((d_105_6 C a b c d (dM C) 0 0 f).1)))] [.int (((d_105_6 C a b c d (dM C) 0 0 f).2) 0)] h120 from ?_)
      exact sv_S2 sv2_105 (fun q hq => absurd hq List.not_mem_nil) (key _ (if_neg c126).symm)
  intro v127 e128
  subst e128
  exact am_goX 1 (show (∃ ty, (some .int) = some ty ∧ narrow ty (.int (if (nI ((d_105_6 C a b c d (dM C) 0 0 f).1)) ≤ 0 then Int32.ofInt 1 else ((d_105_6 C a b c d (dM C) 0 0 f).2) 0)) = .int (if (nI ((d_105_6 C a b c d (dM C) 0 0 f).1)) ≤ 0 then Int32.ofInt 1 else ((d_105_6 C a b c d (dM C) 0 0 f).2) 0)) ∧ h120.2.2.2.2 = 175 ∧ _ from ⟨⟨.int, rfl, rfl⟩, ex_175 f121, hQ _ f121 f122 f123 f124⟩)
theorem d_68_t17 (hP : ex_P h) (hT : c_v 17 C h)  (hQ : Q (some (.int (d_68 C x))) h) : am_call am_cod 2 68 [.ref 17, .int x] h Q := by
  have h6 := hT.1.2.1
  have h5 := hT.2.1.2.1
  refine pz_call (n := 68) (nL := 2) (rt := (some .boolean)) (rows := am_r68) (d := 1) (by decide +kernel) (by decide +kernel) rfl (by funext pc; rfl) (ex_175 hP) (by exact Nat.le_of_ble_eq_true rfl) ?_
  refine am_goX 2 (show am_sh h 17 = some (0, 0) ∧ pz_S 2 (some .boolean) am_r68 1 Q 4 [(0, .ref 17), (1, .int x)] [.int (h.1 17 10)] h from ⟨ex_17 hP, ?_⟩)
  rw [show h.1 17 10 = dO C from hT.2.2.1.1]
  refine am_goX 4 (show ¬ ((Int8.ofInt 28).toInt32) = 0 ∧ 0 ≤ 8 ∧ h.2.2.2.2 + am_al 65 ≤ 175 ∧ am_call am_cod 1 65 [.int (dO C), .int (x - x / ((Int8.ofInt 28).toInt32) * ((Int8.ofInt 28).toInt32))] h (fun vv h' => pz_S 2 (some .boolean) am_r68 1 Q 11 [(0, .ref 17), (1, .int x)] (vv.toList ++ []) h') from ⟨by decide, by decide, ex_lim hP rfl, am_call.up (d_65_w hP ?_) (by decide)⟩)
  exact am_goX 1 (show (∃ ty, (some .boolean) = some ty ∧ narrow ty (.int (d_65 (dO C) (x - x / ((Int8.ofInt 28).toInt32) * ((Int8.ofInt 28).toInt32)))) = .int (d_65 (dO C) (x - x / ((Int8.ofInt 28).toInt32) * ((Int8.ofInt 28).toInt32)))) ∧ h.2.2.2.2 = 175 ∧ _ from ⟨⟨.boolean, rfl, d_65_n _ _⟩, ex_175 hP, hQ⟩)
theorem d_102_5_w17 (hP : ex_P h) (hT : c_v 17 C h) (hD : c_d 17 C h) (hp : p < dP C) : ∀ (m k : Nat) (a3 : Int32), k + m = dE C → (pz_S 5 (some .int) am_r102 1 Q 61 [(3, .int (d_102_5 C p y m k a3))] [] h) → pz_S 5 (some .int) am_r102 1 Q 5 [(0, .ref 17), (1, .int (nI p)), (2, .int y), (3, .int a3), (4, .int (nI k))] [] h := by
  intro m
  induction m with
  | zero =>
    intro k a3 hk hZ
    have h6 := hT.1.2.1
    have h5 := hT.2.1.2.1
    refine am_goX 3 (show am_sh h 17 = some (0, 0) ∧ pz_S 5 (some .int) am_r102 1 Q 11 [(0, .ref 17), (1, .int (nI p)), (2, .int y), (3, .int a3), (4, .int (nI k))] [.int (h.1 17 4), .int (nI k)] h from ⟨ex_17 hP, ?_⟩)
    rw [show h.1 17 4 = nI (dE C) from hT.2.1.1]
    refine am_goX 1 (show ((nI (dE C)) ≤ (nI k) → pz_S 5 (some .int) am_r102 1 Q 61 [(0, .ref 17), (1, .int (nI p)), (2, .int y), (3, .int a3), (4, .int (nI k))] [] h) ∧ (¬ ((nI (dE C)) ≤ (nI k)) → pz_S 5 (some .int) am_r102 1 Q 14 [(0, .ref 17), (1, .int (nI p)), (2, .int y), (3, .int a3), (4, .int (nI k))] [] h) from ⟨fun _ => ?_, fun hz => absurd (show nI (dE C) ≤ nI k from nI_le (by omega) (by omega)) hz⟩)
    exact sv_S2 sv2_102 (by intro q hq; simp only [List.mem_cons, List.not_mem_nil, or_false] at hq; rcases hq with rfl <;> rfl) (hZ)
  | succ m ih =>
    intro k a3 hk hZ
    have h6 := hT.1.2.1
    have h5 := hT.2.1.2.1
    refine am_goX 3 (show am_sh h 17 = some (0, 0) ∧ pz_S 5 (some .int) am_r102 1 Q 11 [(0, .ref 17), (1, .int (nI p)), (2, .int y), (3, .int a3), (4, .int (nI k))] [.int (h.1 17 4), .int (nI k)] h from ⟨ex_17 hP, ?_⟩)
    rw [show h.1 17 4 = nI (dE C) from hT.2.1.1]
    refine am_goX 1 (show ((nI (dE C)) ≤ (nI k) → pz_S 5 (some .int) am_r102 1 Q 61 [(0, .ref 17), (1, .int (nI p)), (2, .int y), (3, .int a3), (4, .int (nI k))] [] h) ∧ (¬ ((nI (dE C)) ≤ (nI k)) → pz_S 5 (some .int) am_r102 1 Q 14 [(0, .ref 17), (1, .int (nI p)), (2, .int y), (3, .int a3), (4, .int (nI k))] [] h) from ⟨fun hz => absurd hz (show ¬ (nI (dE C) ≤ nI k) by rw [nI_leI (by omega) (by omega)]; omega), fun _ => ?_⟩)
    refine am_goX 2 (show am_sh h 17 = some (0, 0) ∧ pz_S 5 (some .int) am_r102 1 Q 18 [(0, .ref 17), (1, .int (nI p)), (2, .int y), (3, .int a3), (4, .int (nI k))] [am_rf (h.2.2.1 17 8)] h from ⟨ex_17 hP, ?_⟩)
    rw [show am_rf (h.2.2.1 17 8) = .ref 24 from congrArg am_rf (ex_r17_8 hP)]
    refine am_goX 2 (show ∃ jj nn : Nat, am_sh h 24 = some (13, nn) ∧ jj < nn ∧ nI k = nI jj ∧ pz_S 5 (some .int) am_r102 1 Q 21 [(0, .ref 17), (1, .int (nI p)), (2, .int y), (3, .int a3), (4, .int (nI k))] [.int (h.1 24 jj)] h from ⟨k, 5, ex_24 hP, (by omega), rfl, ?_⟩)
    rw [show h.1 24 k = dG C k from (hT.2.1.2.2 k (by omega)).2]
    refine am_goX 2 (show 0 ≤ 8 ∧ h.2.2.2.2 + am_al 65 ≤ 175 ∧ am_call am_cod 1 65 [.int (dG C k), .int (nI p)] h (fun vv h' => pz_S 5 (some .int) am_r102 1 Q 25 [(0, .ref 17), (1, .int (nI p)), (2, .int y), (3, .int a3), (4, .int (nI k))] (vv.toList ++ []) h') from ⟨by decide, ex_lim hP rfl, am_call.up (d_65_w hP ?_) (by decide)⟩)
    suffices key : ∀ (v130 : Int32), v130 = (if (d_65 (dG C k) (nI p)) = 0 then a3 else (if (d_103 (dK C p) (dW C k) y) = 0 then a3 else a3 ||| ((Int32.ofInt 1) <<< ((nI k) &&& 31)))) → pz_S 5 (some .int) am_r102 1 Q 55 [(0, .ref 17), (1, .int (nI p)), (2, .int y), (3, .int v130), (4, .int (nI k))] [] h by
      refine am_goX 1 (show ((d_65 (dG C k) (nI p)) = 0 → pz_S 5 (some .int) am_r102 1 Q 55 [(0, .ref 17), (1, .int (nI p)), (2, .int y), (3, .int a3), (4, .int (nI k))] [] h) ∧ (¬ ((d_65 (dG C k) (nI p)) = 0) → pz_S 5 (some .int) am_r102 1 Q 28 [(0, .ref 17), (1, .int (nI p)), (2, .int y), (3, .int a3), (4, .int (nI k))] [] h) from ⟨fun c129 => ?_, fun c129 => ?_⟩)
      · exact sv_S2 sv2_102 (by intro q hq; simp only [List.mem_cons, List.not_mem_nil, or_false] at hq; rcases hq with rfl | rfl | rfl | rfl | rfl <;> rfl) (key _ (if_pos c129).symm)
      · refine am_goX 2 (show am_sh h 17 = some (0, 0) ∧ pz_S 5 (some .int) am_r102 1 Q 32 [(0, .ref 17), (1, .int (nI p)), (2, .int y), (3, .int a3), (4, .int (nI k))] [am_rf (h.2.2.1 17 2)] h from ⟨ex_17 hP, ?_⟩)
        rw [show am_rf (h.2.2.1 17 2) = .ref 19 from congrArg am_rf (ex_r17_2 hP)]
        refine am_goX 2 (show ∃ jj nn : Nat, am_sh h 19 = some (13, nn) ∧ jj < nn ∧ nI p = nI jj ∧ pz_S 5 (some .int) am_r102 1 Q 34 [(0, .ref 17), (1, .int (nI p)), (2, .int y), (3, .int a3), (4, .int (nI k))] [.int (h.1 19 jj)] h from ⟨p, 6, ex_19 hP, (by omega), rfl, ?_⟩)
        rw [show h.1 19 p = dK C p from (hT.1.2.2 p (by omega)).1]
        refine am_goX 2 (show am_sh h 17 = some (0, 0) ∧ pz_S 5 (some .int) am_r102 1 Q 38 [(0, .ref 17), (1, .int (nI p)), (2, .int y), (3, .int a3), (4, .int (nI k))] [am_rf (h.2.2.1 17 6), .int (dK C p)] h from ⟨ex_17 hP, ?_⟩)
        rw [show am_rf (h.2.2.1 17 6) = .ref 22 from congrArg am_rf (ex_r17_6 hP)]
        refine am_goX 2 (show ∃ jj nn : Nat, am_sh h 22 = some (13, nn) ∧ jj < nn ∧ nI k = nI jj ∧ pz_S 5 (some .int) am_r102 1 Q 41 [(0, .ref 17), (1, .int (nI p)), (2, .int y), (3, .int a3), (4, .int (nI k))] [.int (h.1 22 jj), .int (dK C p)] h from ⟨k, 5, ex_22 hP, (by omega), rfl, ?_⟩)
        rw [show h.1 22 k = dW C k from hD k (by omega)]
        refine am_goX 2 (show 0 ≤ 8 ∧ h.2.2.2.2 + am_al 103 ≤ 175 ∧ am_call am_cod 1 103 [.int (dK C p), .int (dW C k), .int y] h (fun vv h' => pz_S 5 (some .int) am_r102 1 Q 45 [(0, .ref 17), (1, .int (nI p)), (2, .int y), (3, .int a3), (4, .int (nI k))] (vv.toList ++ []) h') from ⟨by decide, ex_lim hP rfl, am_call.up (d_103_w hP ?_) (by decide)⟩)
        suffices key : ∀ (v132 : Int32), v132 = (if (d_103 (dK C p) (dW C k) y) = 0 then a3 else a3 ||| ((Int32.ofInt 1) <<< ((nI k) &&& 31))) → pz_S 5 (some .int) am_r102 1 Q 55 [(0, .ref 17), (1, .int (nI p)), (2, .int y), (3, .int v132), (4, .int (nI k))] [] h by
          refine am_goX 1 (show ((d_103 (dK C p) (dW C k) y) = 0 → pz_S 5 (some .int) am_r102 1 Q 55 [(0, .ref 17), (1, .int (nI p)), (2, .int y), (3, .int a3), (4, .int (nI k))] [] h) ∧ (¬ ((d_103 (dK C p) (dW C k) y) = 0) → pz_S 5 (some .int) am_r102 1 Q 48 [(0, .ref 17), (1, .int (nI p)), (2, .int y), (3, .int a3), (4, .int (nI k))] [] h) from ⟨fun c131 => ?_, fun c131 => ?_⟩)
          · exact sv_S2 sv2_102 (by intro q hq; simp only [List.mem_cons, List.not_mem_nil, or_false] at hq; rcases hq with rfl | rfl | rfl | rfl | rfl <;> rfl) (key _ (if_pos c131).symm)
          · refine am_goX 6 (show 3 < 5 ∧ pz_S 5 (some .int) am_r102 1 Q 55 [(3, .int (a3 ||| ((Int32.ofInt 1) <<< ((nI k) &&& 31)))), (0, .ref 17), (1, .int (nI p)), (2, .int y), (4, .int (nI k))] [] h from ⟨by decide, ?_⟩)
            exact sv_S2 sv2_102 (by intro q hq; simp only [List.mem_cons, List.not_mem_nil, or_false] at hq; rcases hq with rfl | rfl | rfl | rfl | rfl <;> rfl) (key _ (if_neg c131).symm)
        intro v132 e133
        subst e133
        exact sv_S2 sv2_102 (by intro q hq; simp only [List.mem_cons, List.not_mem_nil, or_false] at hq; rcases hq with rfl | rfl | rfl | rfl | rfl <;> rfl) (key _ (if_neg c129).symm)
    intro v130 e134
    subst e134
    refine am_goX 2 (show 4 < 5 ∧ pz_S 5 (some .int) am_r102 1 Q 5 [(4, .int ((nI k) + (Int32.ofInt 1))), (0, .ref 17), (1, .int (nI p)), (2, .int y), (3, .int (if (d_65 (dG C k) (nI p)) = 0 then a3 else (if (d_103 (dK C p) (dW C k) y) = 0 then a3 else a3 ||| ((Int32.ofInt 1) <<< ((nI k) &&& 31)))))] [] h from ⟨by decide, ?_⟩)
    rw [show (nI k) + (Int32.ofInt 1) = nI (k + 1) from (dn_a rfl rfl)]
    exact sv_S2 sv2_102 (by intro q hq; simp only [List.mem_cons, List.not_mem_nil, or_false] at hq; rcases hq with rfl | rfl | rfl | rfl | rfl <;> rfl) (ih (k + 1) (if (d_65 (dG C k) (nI p)) = 0 then a3 else (if (d_103 (dK C p) (dW C k) y) = 0 then a3 else a3 ||| ((Int32.ofInt 1) <<< ((nI k) &&& 31)))) (by omega) hZ)
theorem d_102_w17 (hP : ex_P h) (hT : c_v 17 C h) (hD : c_d 17 C h) (hp : p < dP C) (hQ : Q (some (.int (d_102 C p y))) h) : am_call am_cod 2 102 [.ref 17, .int (nI p), .int y] h Q := by
  have h6 := hT.1.2.1
  have h5 := hT.2.1.2.1
  refine pz_call (n := 102) (nL := 5) (rt := (some .int)) (rows := am_r102) (d := 1) (by decide +kernel) (by decide +kernel) rfl (by funext pc; rfl) (ex_175 hP) (by exact Nat.le_of_ble_eq_true rfl) ?_
  refine am_goX 4 (show 3 < 5 ∧ 4 < 5 ∧ pz_S 5 (some .int) am_r102 1 Q 5 [(4, .int (Int32.ofInt 0)), (3, .int (Int32.ofInt 0)), (0, .ref 17), (1, .int (nI p)), (2, .int y)] [] h from ⟨by decide, by decide, ?_⟩)
  refine sv_S2 sv2_102 (by intro q hq; simp only [List.mem_cons, List.not_mem_nil, or_false] at hq; rcases hq with rfl | rfl | rfl | rfl | rfl <;> rfl) (d_102_5_w17 hP hT hD hp (dE C) 0 (Int32.ofInt 0) (by omega) ?_)
  exact am_goX 2 (show (∃ ty, (some .int) = some ty ∧ narrow ty (.int (d_102_5 C p y (dE C) 0 (Int32.ofInt 0))) = .int (d_102_5 C p y (dE C) 0 (Int32.ofInt 0))) ∧ h.2.2.2.2 = 175 ∧ _ from ⟨⟨.int, rfl, rfl⟩, ex_175 hP, hQ⟩)
theorem d_105_6_l17 : ∀ (m k : Nat) (a5 : Nat) (f : (Nat → Int32)) (h : am_H), k + m = dM C → (ex_P h) → (c_v 17 C h) → (lfr 27 h0 h) → (∀ j, j < 32 → h.1 27 j = f j) → (a5 ≤ 32) → (∀ h1, (ex_P h1) → (c_v 17 C h1) → (lfr 27 h0 h1) → (∀ j, j < 32 → h1.1 27 j = ((d_105_6 C a b c d m k a5 f).2) j) → ((d_105_6 C a b c d m k a5 f).1 ≤ 32) → pz_S 8 (some .int) am_r105 1 Q 164 [(0, .ref 25), (5, .int (nI ((d_105_6 C a b c d m k a5 f).1)))] [] h1) → pz_S 8 (some .int) am_r105 1 Q 6 [(0, .ref 25), (1, .int a), (2, .int b), (3, .int c), (4, .int d), (5, .int (nI a5)), (6, .int (nI k))] [] h := by
  intro m
  induction m with
  | zero =>
    intro k a5 f h hk hP hT hF hK hn hZ
    have hM := hT.2.2.2.2.1
    refine am_goX 3 (show am_sh h 25 = some (3, 0) ∧ pz_S 8 (some .int) am_r105 1 Q 12 [(0, .ref 25), (1, .int a), (2, .int b), (3, .int c), (4, .int d), (5, .int (nI a5)), (6, .int (nI k))] [.int (h.1 25 2), .int (nI k)] h from ⟨ex_25 hP, ?_⟩)
    rw [show h.1 25 2 = nI (dM C) from hT.2.2.2.1]
    refine am_goX 1 (show ((nI (dM C)) ≤ (nI k) → pz_S 8 (some .int) am_r105 1 Q 164 [(0, .ref 25), (1, .int a), (2, .int b), (3, .int c), (4, .int d), (5, .int (nI a5)), (6, .int (nI k))] [] h) ∧ (¬ ((nI (dM C)) ≤ (nI k)) → pz_S 8 (some .int) am_r105 1 Q 15 [(0, .ref 25), (1, .int a), (2, .int b), (3, .int c), (4, .int d), (5, .int (nI a5)), (6, .int (nI k))] [] h) from ⟨fun _ => ?_, fun hz => absurd (show nI (dM C) ≤ nI k from nI_le (by omega) (by omega)) hz⟩)
    exact sv_S2 sv2_105 (by intro q hq; simp only [List.mem_cons, List.not_mem_nil, or_false] at hq; rcases hq with rfl | rfl <;> rfl) (hZ _ hP hT hF hK hn)
  | succ m ih =>
    intro k a5 f h hk hP hT hF hK hn hZ
    have hM := hT.2.2.2.2.1
    refine am_goX 3 (show am_sh h 25 = some (3, 0) ∧ pz_S 8 (some .int) am_r105 1 Q 12 [(0, .ref 25), (1, .int a), (2, .int b), (3, .int c), (4, .int d), (5, .int (nI a5)), (6, .int (nI k))] [.int (h.1 25 2), .int (nI k)] h from ⟨ex_25 hP, ?_⟩)
    rw [show h.1 25 2 = nI (dM C) from hT.2.2.2.1]
    refine am_goX 1 (show ((nI (dM C)) ≤ (nI k) → pz_S 8 (some .int) am_r105 1 Q 164 [(0, .ref 25), (1, .int a), (2, .int b), (3, .int c), (4, .int d), (5, .int (nI a5)), (6, .int (nI k))] [] h) ∧ (¬ ((nI (dM C)) ≤ (nI k)) → pz_S 8 (some .int) am_r105 1 Q 15 [(0, .ref 25), (1, .int a), (2, .int b), (3, .int c), (4, .int d), (5, .int (nI a5)), (6, .int (nI k))] [] h) from ⟨fun hz => absurd hz (show ¬ (nI (dM C) ≤ nI k) by rw [nI_leI (by omega) (by omega)]; omega), fun _ => ?_⟩)
    refine am_goX 2 (show am_sh h 25 = some (3, 0) ∧ pz_S 8 (some .int) am_r105 1 Q 19 [(0, .ref 25), (1, .int a), (2, .int b), (3, .int c), (4, .int d), (5, .int (nI a5)), (6, .int (nI k))] [am_rf (h.2.2.1 25 0)] h from ⟨ex_25 hP, ?_⟩)
    rw [show am_rf (h.2.2.1 25 0) = .ref 26 from congrArg am_rf (ex_r25_0 hP)]
    refine am_goX 2 (show ∃ jj nn : Nat, am_sh h 26 = some (13, nn) ∧ jj < nn ∧ nI k = nI jj ∧ pz_S 8 (some .int) am_r105 1 Q 22 [(0, .ref 25), (1, .int a), (2, .int b), (3, .int c), (4, .int d), (5, .int (nI a5)), (6, .int (nI k))] [.int (h.1 26 jj)] h from ⟨k, 1000, ex_26 hP, (by omega), rfl, ?_⟩)
    rw [show h.1 26 k = dT C k from hT.2.2.2.2.2 k (by omega)]
    refine am_goX 4 (show 7 < 8 ∧ ((dT C k) < ((Int8.ofInt (-4)).toInt32) → pz_S 8 (some .int) am_r105 1 Q 71 [(7, .int (dT C k)), (0, .ref 25), (1, .int a), (2, .int b), (3, .int c), (4, .int d), (5, .int (nI a5)), (6, .int (nI k))] [] h) ∧ (¬ ((dT C k) < ((Int8.ofInt (-4)).toInt32)) → pz_S 8 (some .int) am_r105 1 Q 31 [(7, .int (dT C k)), (0, .ref 25), (1, .int a), (2, .int b), (3, .int c), (4, .int d), (5, .int (nI a5)), (6, .int (nI k))] [] h) from ⟨by decide, fun c135 => ?_, fun c135 => ?_⟩)
    · refine am_goX 3 (show (¬ (dT C k) = ((Int8.ofInt (-5)).toInt32) → pz_S 8 (some .int) am_r105 1 Q 112 [(7, .int (dT C k)), (0, .ref 25), (1, .int a), (2, .int b), (3, .int c), (4, .int d), (5, .int (nI a5)), (6, .int (nI k))] [] h) ∧ (¬ ¬ (dT C k) = ((Int8.ofInt (-5)).toInt32) → pz_S 8 (some .int) am_r105 1 Q 78 [(7, .int (dT C k)), (0, .ref 25), (1, .int a), (2, .int b), (3, .int c), (4, .int d), (5, .int (nI a5)), (6, .int (nI k))] [] h) from ⟨fun c136 => ?_, fun c136 => ?_⟩)
      · refine am_goX 3 (show (((Int8.ofInt (-5)).toInt32) ≤ (dT C k) → pz_S 8 (some .int) am_r105 1 Q 158 [(7, .int (dT C k)), (0, .ref 25), (1, .int a), (2, .int b), (3, .int c), (4, .int d), (5, .int (nI a5)), (6, .int (nI k))] [] h) ∧ (¬ (((Int8.ofInt (-5)).toInt32) ≤ (dT C k)) → pz_S 8 (some .int) am_r105 1 Q 119 [(7, .int (dT C k)), (0, .ref 25), (1, .int a), (2, .int b), (3, .int c), (4, .int d), (5, .int (nI a5)), (6, .int (nI k))] [] h) from ⟨fun c137 => ?_, fun c137 => ?_⟩)
        · refine am_goX 2 (show 6 < 8 ∧ pz_S 8 (some .int) am_r105 1 Q 6 [(6, .int ((nI k) + (Int32.ofInt 1))), (7, .int (dT C k)), (0, .ref 25), (1, .int a), (2, .int b), (3, .int c), (4, .int d), (5, .int (nI a5))] [] h from ⟨by decide, ?_⟩)
          rw [show d_105_6 C a b c d (m + 1) k a5 f = d_105_6 C a b c d m (k + 1) a5 f from (if_pos c135).trans ((if_pos c136).trans (if_pos c137))] at hZ
          rw [show (nI k) + (Int32.ofInt 1) = nI (k + 1) from (dn_a rfl rfl)]
          exact sv_S2 sv2_105 (by intro q hq; simp only [List.mem_cons, List.not_mem_nil, or_false] at hq; rcases hq with rfl | rfl | rfl | rfl | rfl | rfl | rfl <;> rfl) (ih (k + 1) a5 f _ (by omega) hP hT hF hK (by omega) hZ)
        · refine am_goX 3 (show ((nI a5) ≤ (Int32.ofInt 1) → pz_S 8 (some .int) am_r105 1 Q 158 [(7, .int (dT C k)), (0, .ref 25), (1, .int a), (2, .int b), (3, .int c), (4, .int d), (5, .int (nI a5)), (6, .int (nI k))] [] h) ∧ (¬ ((nI a5) ≤ (Int32.ofInt 1)) → pz_S 8 (some .int) am_r105 1 Q 125 [(7, .int (dT C k)), (0, .ref 25), (1, .int a), (2, .int b), (3, .int c), (4, .int d), (5, .int (nI a5)), (6, .int (nI k))] [] h) from ⟨fun c138 => ?_, fun c138 => ?_⟩)
          · have c138n : a5 ≤ 1 := (nI_leI (by omega) (by omega)).mp (show nI a5 ≤ nI 1 from c138)
            refine am_goX 2 (show 6 < 8 ∧ pz_S 8 (some .int) am_r105 1 Q 6 [(6, .int ((nI k) + (Int32.ofInt 1))), (7, .int (dT C k)), (0, .ref 25), (1, .int a), (2, .int b), (3, .int c), (4, .int d), (5, .int (nI a5))] [] h from ⟨by decide, ?_⟩)
            rw [show d_105_6 C a b c d (m + 1) k a5 f = d_105_6 C a b c d m (k + 1) a5 f from (if_pos c135).trans ((if_pos c136).trans ((if_neg c137).trans (if_pos c138)))] at hZ
            rw [show (nI k) + (Int32.ofInt 1) = nI (k + 1) from (dn_a rfl rfl)]
            exact sv_S2 sv2_105 (by intro q hq; simp only [List.mem_cons, List.not_mem_nil, or_false] at hq; rcases hq with rfl | rfl | rfl | rfl | rfl | rfl | rfl <;> rfl) (ih (k + 1) a5 f _ (by omega) hP hT hF hK (by omega) hZ)
          · have c138n : ¬ (a5 ≤ 1) := fun w => absurd (show nI a5 ≤ nI 1 from (nI_leI (by omega) (by omega)).mpr w) c138
            refine am_goX 3 (show 5 < 8 ∧ am_sh h 25 = some (3, 0) ∧ pz_S 8 (some .int) am_r105 1 Q 132 [(5, .int ((nI a5) + (Int32.ofInt (-1)))), (7, .int (dT C k)), (0, .ref 25), (1, .int a), (2, .int b), (3, .int c), (4, .int d), (6, .int (nI k))] [am_rf (h.2.2.1 25 1)] h from ⟨by decide, ex_25 hP, ?_⟩)
            rw [show am_rf (h.2.2.1 25 1) = .ref 27 from congrArg am_rf (ex_r25_1 hP)]
            refine am_goX 6 (show am_sh h 25 = some (3, 0) ∧ pz_S 8 (some .int) am_r105 1 Q 142 [(5, .int ((nI a5) + (Int32.ofInt (-1)))), (7, .int (dT C k)), (0, .ref 25), (1, .int a), (2, .int b), (3, .int c), (4, .int d), (6, .int (nI k))] [am_rf (h.2.2.1 25 1), .int (dT C k), .int (((nI a5) + (Int32.ofInt (-1))) - (Int32.ofInt 1)), .ref 27] h from ⟨ex_25 hP, ?_⟩)
            rw [show am_rf (h.2.2.1 25 1) = .ref 27 from congrArg am_rf (ex_r25_1 hP)]
            refine am_goX 4 (show ∃ jj nn : Nat, am_sh h 27 = some (13, nn) ∧ jj < nn ∧ ((nI a5) + (Int32.ofInt (-1))) - (Int32.ofInt 1) = nI jj ∧ pz_S 8 (some .int) am_r105 1 Q 147 [(5, .int ((nI a5) + (Int32.ofInt (-1)))), (7, .int (dT C k)), (0, .ref 25), (1, .int a), (2, .int b), (3, .int c), (4, .int d), (6, .int (nI k))] [.int (h.1 27 jj), .int (dT C k), .int (((nI a5) + (Int32.ofInt (-1))) - (Int32.ofInt 1)), .ref 27] h from ⟨((a5 - 1) - 1), 32, ex_27 hP, (by omega), (dn_s (by omega) (dn_d (by omega) rfl (by decide)) rfl), ?_⟩)
            rw [show h.1 27 ((a5 - 1) - 1) = f ((a5 - 1) - 1) from hK ((a5 - 1) - 1) (by omega)]
            refine am_goX 2 (show am_sh h 25 = some (3, 0) ∧ pz_S 8 (some .int) am_r105 1 Q 151 [(5, .int ((nI a5) + (Int32.ofInt (-1)))), (7, .int (dT C k)), (0, .ref 25), (1, .int a), (2, .int b), (3, .int c), (4, .int d), (6, .int (nI k))] [am_rf (h.2.2.1 25 1), .int (f ((a5 - 1) - 1)), .int (dT C k), .int (((nI a5) + (Int32.ofInt (-1))) - (Int32.ofInt 1)), .ref 27] h from ⟨ex_25 hP, ?_⟩)
            rw [show am_rf (h.2.2.1 25 1) = .ref 27 from congrArg am_rf (ex_r25_1 hP)]
            refine am_goX 2 (show ∃ jj nn : Nat, am_sh h 27 = some (13, nn) ∧ jj < nn ∧ (nI a5) + (Int32.ofInt (-1)) = nI jj ∧ pz_S 8 (some .int) am_r105 1 Q 154 [(5, .int ((nI a5) + (Int32.ofInt (-1)))), (7, .int (dT C k)), (0, .ref 25), (1, .int a), (2, .int b), (3, .int c), (4, .int d), (6, .int (nI k))] [.int (h.1 27 jj), .int (f ((a5 - 1) - 1)), .int (dT C k), .int (((nI a5) + (Int32.ofInt (-1))) - (Int32.ofInt 1)), .ref 27] h from ⟨(a5 - 1), 32, ex_27 hP, (by omega), (dn_d (by omega) rfl (by decide)), ?_⟩)
            rw [show h.1 27 (a5 - 1) = f (a5 - 1) from hK (a5 - 1) (by omega)]
            refine am_goX 1 (show 2 ≤ 8 ∧ h.2.2.2.2 + am_al 107 ≤ 175 ∧ am_call am_cod 1 107 [.int (dT C k), .int (f ((a5 - 1) - 1)), .int (f (a5 - 1))] h (fun vv h' => pz_S 8 (some .int) am_r105 1 Q 157 [(5, .int ((nI a5) + (Int32.ofInt (-1)))), (7, .int (dT C k)), (0, .ref 25), (1, .int a), (2, .int b), (3, .int c), (4, .int d), (6, .int (nI k))] (vv.toList ++ [.int (((nI a5) + (Int32.ofInt (-1))) - (Int32.ofInt 1)), .ref 27]) h') from ⟨by decide, ex_lim hP rfl, am_call.up (d_107_w hP ?_) (by decide)⟩)
            refine am_goX 1 (show ∃ jj nn : Nat, am_so h 27 = some (13, nn) ∧ jj < nn ∧ ((nI a5) + (Int32.ofInt (-1))) - (Int32.ofInt 1) = nI jj ∧ pz_S 8 (some .int) am_r105 1 Q 158 [(5, .int ((nI a5) + (Int32.ofInt (-1)))), (7, .int (dT C k)), (0, .ref 25), (1, .int a), (2, .int b), (3, .int c), (4, .int d), (6, .int (nI k))] [] (am_wI h 27 jj (d_107 (dT C k) (f ((a5 - 1) - 1)) (f (a5 - 1)))) from ⟨((a5 - 1) - 1), 32, ex_w27 hP, (by omega), (dn_s (by omega) (dn_d (by omega) rfl (by decide)) rfl), ?_⟩)
            have f140 : ex_P (am_wI h 27 ((a5 - 1) - 1) (d_107 (dT C k) (f ((a5 - 1) - 1)) (f (a5 - 1)))) := hP
            have f141 : c_v 17 C (am_wI h 27 ((a5 - 1) - 1) (d_107 (dT C k) (f ((a5 - 1) - 1)) (f (a5 - 1)))) := c_v_w (by omega) hT
            have f142 : lfr 27 h0 (am_wI h 27 ((a5 - 1) - 1) (d_107 (dT C k) (f ((a5 - 1) - 1)) (f (a5 - 1)))) := lfr_w hF
            have f143 : ∀ j, j < 32 → (am_wI h 27 ((a5 - 1) - 1) (d_107 (dT C k) (f ((a5 - 1) - 1)) (f (a5 - 1)))).1 27 j = (sp_uI f ((a5 - 1) - 1) (d_107 (dT C k) (f ((a5 - 1) - 1)) (f (a5 - 1)))) j := stk_w hK
            generalize am_wI h 27 ((a5 - 1) - 1) (d_107 (dT C k) (f ((a5 - 1) - 1)) (f (a5 - 1))) = h139 at f140 f141 f142 f143 ⊢
            refine am_goX 2 (show 6 < 8 ∧ pz_S 8 (some .int) am_r105 1 Q 6 [(6, .int ((nI k) + (Int32.ofInt 1))), (5, .int ((nI a5) + (Int32.ofInt (-1)))), (7, .int (dT C k)), (0, .ref 25), (1, .int a), (2, .int b), (3, .int c), (4, .int d)] [] h139 from ⟨by decide, ?_⟩)
            rw [show d_105_6 C a b c d (m + 1) k a5 f = d_105_6 C a b c d m (k + 1) (a5 - 1) (sp_uI f ((a5 - 1) - 1) (d_107 (dT C k) (f ((a5 - 1) - 1)) (f (a5 - 1)))) from (if_pos c135).trans ((if_pos c136).trans ((if_neg c137).trans (if_neg c138)))] at hZ
            rw [show (nI k) + (Int32.ofInt 1) = nI (k + 1) from (dn_a rfl rfl)]
            rw [show (nI a5) + (Int32.ofInt (-1)) = nI (a5 - 1) from (dn_d (by omega) rfl (by decide))]
            exact sv_S2 sv2_105 (by intro q hq; simp only [List.mem_cons, List.not_mem_nil, or_false] at hq; rcases hq with rfl | rfl | rfl | rfl | rfl | rfl | rfl <;> rfl) (ih (k + 1) (a5 - 1) (sp_uI f ((a5 - 1) - 1) (d_107 (dT C k) (f ((a5 - 1) - 1)) (f (a5 - 1)))) _ (by omega) f140 f141 f142 f143 (by omega) hZ)
      · refine am_goX 2 (show ((nI a5) ≤ 0 → pz_S 8 (some .int) am_r105 1 Q 112 [(7, .int (dT C k)), (0, .ref 25), (1, .int a), (2, .int b), (3, .int c), (4, .int d), (5, .int (nI a5)), (6, .int (nI k))] [] h) ∧ (¬ ((nI a5) ≤ 0) → pz_S 8 (some .int) am_r105 1 Q 83 [(7, .int (dT C k)), (0, .ref 25), (1, .int a), (2, .int b), (3, .int c), (4, .int d), (5, .int (nI a5)), (6, .int (nI k))] [] h) from ⟨fun c144 => ?_, fun c144 => ?_⟩)
        · have c144n : a5 ≤ 0 := (nI_leI (by omega) (by omega)).mp (show nI a5 ≤ nI 0 from c144)
          refine am_goX 3 (show (((Int8.ofInt (-5)).toInt32) ≤ (dT C k) → pz_S 8 (some .int) am_r105 1 Q 158 [(7, .int (dT C k)), (0, .ref 25), (1, .int a), (2, .int b), (3, .int c), (4, .int d), (5, .int (nI a5)), (6, .int (nI k))] [] h) ∧ (¬ (((Int8.ofInt (-5)).toInt32) ≤ (dT C k)) → pz_S 8 (some .int) am_r105 1 Q 119 [(7, .int (dT C k)), (0, .ref 25), (1, .int a), (2, .int b), (3, .int c), (4, .int d), (5, .int (nI a5)), (6, .int (nI k))] [] h) from ⟨fun c145 => ?_, fun c145 => ?_⟩)
          · refine am_goX 2 (show 6 < 8 ∧ pz_S 8 (some .int) am_r105 1 Q 6 [(6, .int ((nI k) + (Int32.ofInt 1))), (7, .int (dT C k)), (0, .ref 25), (1, .int a), (2, .int b), (3, .int c), (4, .int d), (5, .int (nI a5))] [] h from ⟨by decide, ?_⟩)
            rw [show d_105_6 C a b c d (m + 1) k a5 f = d_105_6 C a b c d m (k + 1) a5 f from (if_pos c135).trans ((if_neg c136).trans ((if_pos c144).trans (if_pos c145)))] at hZ
            rw [show (nI k) + (Int32.ofInt 1) = nI (k + 1) from (dn_a rfl rfl)]
            exact sv_S2 sv2_105 (by intro q hq; simp only [List.mem_cons, List.not_mem_nil, or_false] at hq; rcases hq with rfl | rfl | rfl | rfl | rfl | rfl | rfl <;> rfl) (ih (k + 1) a5 f _ (by omega) hP hT hF hK (by omega) hZ)
          · refine am_goX 3 (show ((nI a5) ≤ (Int32.ofInt 1) → pz_S 8 (some .int) am_r105 1 Q 158 [(7, .int (dT C k)), (0, .ref 25), (1, .int a), (2, .int b), (3, .int c), (4, .int d), (5, .int (nI a5)), (6, .int (nI k))] [] h) ∧ (¬ ((nI a5) ≤ (Int32.ofInt 1)) → pz_S 8 (some .int) am_r105 1 Q 125 [(7, .int (dT C k)), (0, .ref 25), (1, .int a), (2, .int b), (3, .int c), (4, .int d), (5, .int (nI a5)), (6, .int (nI k))] [] h) from ⟨fun c146 => ?_, fun c146 => ?_⟩)
            · have c146n : a5 ≤ 1 := (nI_leI (by omega) (by omega)).mp (show nI a5 ≤ nI 1 from c146)
              refine am_goX 2 (show 6 < 8 ∧ pz_S 8 (some .int) am_r105 1 Q 6 [(6, .int ((nI k) + (Int32.ofInt 1))), (7, .int (dT C k)), (0, .ref 25), (1, .int a), (2, .int b), (3, .int c), (4, .int d), (5, .int (nI a5))] [] h from ⟨by decide, ?_⟩)
              rw [show d_105_6 C a b c d (m + 1) k a5 f = d_105_6 C a b c d m (k + 1) a5 f from (if_pos c135).trans ((if_neg c136).trans ((if_pos c144).trans ((if_neg c145).trans (if_pos c146))))] at hZ
              rw [show (nI k) + (Int32.ofInt 1) = nI (k + 1) from (dn_a rfl rfl)]
              exact sv_S2 sv2_105 (by intro q hq; simp only [List.mem_cons, List.not_mem_nil, or_false] at hq; rcases hq with rfl | rfl | rfl | rfl | rfl | rfl | rfl <;> rfl) (ih (k + 1) a5 f _ (by omega) hP hT hF hK (by omega) hZ)
            · have c146n : ¬ (a5 ≤ 1) := fun w => absurd (show nI a5 ≤ nI 1 from (nI_leI (by omega) (by omega)).mpr w) c146
              refine am_goX 3 (show 5 < 8 ∧ am_sh h 25 = some (3, 0) ∧ pz_S 8 (some .int) am_r105 1 Q 132 [(5, .int ((nI a5) + (Int32.ofInt (-1)))), (7, .int (dT C k)), (0, .ref 25), (1, .int a), (2, .int b), (3, .int c), (4, .int d), (6, .int (nI k))] [am_rf (h.2.2.1 25 1)] h from ⟨by decide, ex_25 hP, ?_⟩)
              rw [show am_rf (h.2.2.1 25 1) = .ref 27 from congrArg am_rf (ex_r25_1 hP)]
              refine am_goX 6 (show am_sh h 25 = some (3, 0) ∧ pz_S 8 (some .int) am_r105 1 Q 142 [(5, .int ((nI a5) + (Int32.ofInt (-1)))), (7, .int (dT C k)), (0, .ref 25), (1, .int a), (2, .int b), (3, .int c), (4, .int d), (6, .int (nI k))] [am_rf (h.2.2.1 25 1), .int (dT C k), .int (((nI a5) + (Int32.ofInt (-1))) - (Int32.ofInt 1)), .ref 27] h from ⟨ex_25 hP, ?_⟩)
              rw [show am_rf (h.2.2.1 25 1) = .ref 27 from congrArg am_rf (ex_r25_1 hP)]
              refine am_goX 4 (show ∃ jj nn : Nat, am_sh h 27 = some (13, nn) ∧ jj < nn ∧ ((nI a5) + (Int32.ofInt (-1))) - (Int32.ofInt 1) = nI jj ∧ pz_S 8 (some .int) am_r105 1 Q 147 [(5, .int ((nI a5) + (Int32.ofInt (-1)))), (7, .int (dT C k)), (0, .ref 25), (1, .int a), (2, .int b), (3, .int c), (4, .int d), (6, .int (nI k))] [.int (h.1 27 jj), .int (dT C k), .int (((nI a5) + (Int32.ofInt (-1))) - (Int32.ofInt 1)), .ref 27] h from ⟨((a5 - 1) - 1), 32, ex_27 hP, (by omega), (dn_s (by omega) (dn_d (by omega) rfl (by decide)) rfl), ?_⟩)
              rw [show h.1 27 ((a5 - 1) - 1) = f ((a5 - 1) - 1) from hK ((a5 - 1) - 1) (by omega)]
              refine am_goX 2 (show am_sh h 25 = some (3, 0) ∧ pz_S 8 (some .int) am_r105 1 Q 151 [(5, .int ((nI a5) + (Int32.ofInt (-1)))), (7, .int (dT C k)), (0, .ref 25), (1, .int a), (2, .int b), (3, .int c), (4, .int d), (6, .int (nI k))] [am_rf (h.2.2.1 25 1), .int (f ((a5 - 1) - 1)), .int (dT C k), .int (((nI a5) + (Int32.ofInt (-1))) - (Int32.ofInt 1)), .ref 27] h from ⟨ex_25 hP, ?_⟩)
              rw [show am_rf (h.2.2.1 25 1) = .ref 27 from congrArg am_rf (ex_r25_1 hP)]
              refine am_goX 2 (show ∃ jj nn : Nat, am_sh h 27 = some (13, nn) ∧ jj < nn ∧ (nI a5) + (Int32.ofInt (-1)) = nI jj ∧ pz_S 8 (some .int) am_r105 1 Q 154 [(5, .int ((nI a5) + (Int32.ofInt (-1)))), (7, .int (dT C k)), (0, .ref 25), (1, .int a), (2, .int b), (3, .int c), (4, .int d), (6, .int (nI k))] [.int (h.1 27 jj), .int (f ((a5 - 1) - 1)), .int (dT C k), .int (((nI a5) + (Int32.ofInt (-1))) - (Int32.ofInt 1)), .ref 27] h from ⟨(a5 - 1), 32, ex_27 hP, (by omega), (dn_d (by omega) rfl (by decide)), ?_⟩)
              rw [show h.1 27 (a5 - 1) = f (a5 - 1) from hK (a5 - 1) (by omega)]
              refine am_goX 1 (show 2 ≤ 8 ∧ h.2.2.2.2 + am_al 107 ≤ 175 ∧ am_call am_cod 1 107 [.int (dT C k), .int (f ((a5 - 1) - 1)), .int (f (a5 - 1))] h (fun vv h' => pz_S 8 (some .int) am_r105 1 Q 157 [(5, .int ((nI a5) + (Int32.ofInt (-1)))), (7, .int (dT C k)), (0, .ref 25), (1, .int a), (2, .int b), (3, .int c), (4, .int d), (6, .int (nI k))] (vv.toList ++ [.int (((nI a5) + (Int32.ofInt (-1))) - (Int32.ofInt 1)), .ref 27]) h') from ⟨by decide, ex_lim hP rfl, am_call.up (d_107_w hP ?_) (by decide)⟩)
              refine am_goX 1 (show ∃ jj nn : Nat, am_so h 27 = some (13, nn) ∧ jj < nn ∧ ((nI a5) + (Int32.ofInt (-1))) - (Int32.ofInt 1) = nI jj ∧ pz_S 8 (some .int) am_r105 1 Q 158 [(5, .int ((nI a5) + (Int32.ofInt (-1)))), (7, .int (dT C k)), (0, .ref 25), (1, .int a), (2, .int b), (3, .int c), (4, .int d), (6, .int (nI k))] [] (am_wI h 27 jj (d_107 (dT C k) (f ((a5 - 1) - 1)) (f (a5 - 1)))) from ⟨((a5 - 1) - 1), 32, ex_w27 hP, (by omega), (dn_s (by omega) (dn_d (by omega) rfl (by decide)) rfl), ?_⟩)
              have f148 : ex_P (am_wI h 27 ((a5 - 1) - 1) (d_107 (dT C k) (f ((a5 - 1) - 1)) (f (a5 - 1)))) := hP
              have f149 : c_v 17 C (am_wI h 27 ((a5 - 1) - 1) (d_107 (dT C k) (f ((a5 - 1) - 1)) (f (a5 - 1)))) := c_v_w (by omega) hT
              have f150 : lfr 27 h0 (am_wI h 27 ((a5 - 1) - 1) (d_107 (dT C k) (f ((a5 - 1) - 1)) (f (a5 - 1)))) := lfr_w hF
              have f151 : ∀ j, j < 32 → (am_wI h 27 ((a5 - 1) - 1) (d_107 (dT C k) (f ((a5 - 1) - 1)) (f (a5 - 1)))).1 27 j = (sp_uI f ((a5 - 1) - 1) (d_107 (dT C k) (f ((a5 - 1) - 1)) (f (a5 - 1)))) j := stk_w hK
              generalize am_wI h 27 ((a5 - 1) - 1) (d_107 (dT C k) (f ((a5 - 1) - 1)) (f (a5 - 1))) = h147 at f148 f149 f150 f151 ⊢
              refine am_goX 2 (show 6 < 8 ∧ pz_S 8 (some .int) am_r105 1 Q 6 [(6, .int ((nI k) + (Int32.ofInt 1))), (5, .int ((nI a5) + (Int32.ofInt (-1)))), (7, .int (dT C k)), (0, .ref 25), (1, .int a), (2, .int b), (3, .int c), (4, .int d)] [] h147 from ⟨by decide, ?_⟩)
              rw [show d_105_6 C a b c d (m + 1) k a5 f = d_105_6 C a b c d m (k + 1) (a5 - 1) (sp_uI f ((a5 - 1) - 1) (d_107 (dT C k) (f ((a5 - 1) - 1)) (f (a5 - 1)))) from (if_pos c135).trans ((if_neg c136).trans ((if_pos c144).trans ((if_neg c145).trans (if_neg c146))))] at hZ
              rw [show (nI k) + (Int32.ofInt 1) = nI (k + 1) from (dn_a rfl rfl)]
              rw [show (nI a5) + (Int32.ofInt (-1)) = nI (a5 - 1) from (dn_d (by omega) rfl (by decide))]
              exact sv_S2 sv2_105 (by intro q hq; simp only [List.mem_cons, List.not_mem_nil, or_false] at hq; rcases hq with rfl | rfl | rfl | rfl | rfl | rfl | rfl <;> rfl) (ih (k + 1) (a5 - 1) (sp_uI f ((a5 - 1) - 1) (d_107 (dT C k) (f ((a5 - 1) - 1)) (f (a5 - 1)))) _ (by omega) f148 f149 f150 f151 (by omega) hZ)
        · have c144n : ¬ (a5 ≤ 0) := fun w => absurd (show nI a5 ≤ nI 0 from (nI_leI (by omega) (by omega)).mpr w) c144
          refine am_goX 2 (show am_sh h 25 = some (3, 0) ∧ pz_S 8 (some .int) am_r105 1 Q 87 [(7, .int (dT C k)), (0, .ref 25), (1, .int a), (2, .int b), (3, .int c), (4, .int d), (5, .int (nI a5)), (6, .int (nI k))] [am_rf (h.2.2.1 25 1)] h from ⟨ex_25 hP, ?_⟩)
          rw [show am_rf (h.2.2.1 25 1) = .ref 27 from congrArg am_rf (ex_r25_1 hP)]
          refine am_goX 5 (show am_sh h 25 = some (3, 0) ∧ pz_S 8 (some .int) am_r105 1 Q 95 [(7, .int (dT C k)), (0, .ref 25), (1, .int a), (2, .int b), (3, .int c), (4, .int d), (5, .int (nI a5)), (6, .int (nI k))] [am_rf (h.2.2.1 25 1), .int ((nI a5) - (Int32.ofInt 1)), .ref 27] h from ⟨ex_25 hP, ?_⟩)
          rw [show am_rf (h.2.2.1 25 1) = .ref 27 from congrArg am_rf (ex_r25_1 hP)]
          refine am_goX 4 (show ∃ jj nn : Nat, am_sh h 27 = some (13, nn) ∧ jj < nn ∧ (nI a5) - (Int32.ofInt 1) = nI jj ∧ pz_S 8 (some .int) am_r105 1 Q 100 [(7, .int (dT C k)), (0, .ref 25), (1, .int a), (2, .int b), (3, .int c), (4, .int d), (5, .int (nI a5)), (6, .int (nI k))] [.int (h.1 27 jj), .int ((nI a5) - (Int32.ofInt 1)), .ref 27] h from ⟨(a5 - 1), 32, ex_27 hP, (by omega), (dn_s (by omega) rfl rfl), ?_⟩)
          rw [show h.1 27 (a5 - 1) = f (a5 - 1) from hK (a5 - 1) (by omega)]
          suffices key : ∀ (v153 : Int32), v153 = (if ¬ (f (a5 - 1)) = 0 then Int32.ofInt 0 else Int32.ofInt 1) → pz_S 8 (some .int) am_r105 1 Q 108 [(0, .ref 25), (1, .int a), (2, .int b), (3, .int c), (4, .int d), (5, .int (nI a5)), (6, .int (nI k))] [.int v153, .int ((nI a5) - (Int32.ofInt 1)), .ref 27] h by
            refine am_goX 1 (show (¬ (f (a5 - 1)) = 0 → pz_S 8 (some .int) am_r105 1 Q 107 [(7, .int (dT C k)), (0, .ref 25), (1, .int a), (2, .int b), (3, .int c), (4, .int d), (5, .int (nI a5)), (6, .int (nI k))] [.int ((nI a5) - (Int32.ofInt 1)), .ref 27] h) ∧ (¬ ¬ (f (a5 - 1)) = 0 → pz_S 8 (some .int) am_r105 1 Q 103 [(7, .int (dT C k)), (0, .ref 25), (1, .int a), (2, .int b), (3, .int c), (4, .int d), (5, .int (nI a5)), (6, .int (nI k))] [.int ((nI a5) - (Int32.ofInt 1)), .ref 27] h) from ⟨fun c152 => ?_, fun c152 => ?_⟩)
            · refine am_goX 1 (show pz_S 8 (some .int) am_r105 1 Q 108 [(7, .int (dT C k)), (0, .ref 25), (1, .int a), (2, .int b), (3, .int c), (4, .int d), (5, .int (nI a5)), (6, .int (nI k))] [.int (Int32.ofInt 0), .int ((nI a5) - (Int32.ofInt 1)), .ref 27] h from ?_)
              exact sv_S2 sv2_105 (by intro q hq; simp only [List.mem_cons, List.not_mem_nil, or_false] at hq; rcases hq with rfl | rfl | rfl | rfl | rfl | rfl | rfl <;> rfl) (key _ (if_pos c152).symm)
            · refine am_goX 2 (show pz_S 8 (some .int) am_r105 1 Q 108 [(7, .int (dT C k)), (0, .ref 25), (1, .int a), (2, .int b), (3, .int c), (4, .int d), (5, .int (nI a5)), (6, .int (nI k))] [.int (Int32.ofInt 1), .int ((nI a5) - (Int32.ofInt 1)), .ref 27] h from ?_)
              exact sv_S2 sv2_105 (by intro q hq; simp only [List.mem_cons, List.not_mem_nil, or_false] at hq; rcases hq with rfl | rfl | rfl | rfl | rfl | rfl | rfl <;> rfl) (key _ (if_neg c152).symm)
          intro v153 e154
          subst e154
          refine am_goX 1 (show ∃ jj nn : Nat, am_so h 27 = some (13, nn) ∧ jj < nn ∧ (nI a5) - (Int32.ofInt 1) = nI jj ∧ pz_S 8 (some .int) am_r105 1 Q 109 [(0, .ref 25), (1, .int a), (2, .int b), (3, .int c), (4, .int d), (5, .int (nI a5)), (6, .int (nI k))] [] (am_wI h 27 jj (if ¬ (f (a5 - 1)) = 0 then Int32.ofInt 0 else Int32.ofInt 1)) from ⟨(a5 - 1), 32, ex_w27 hP, (by omega), (dn_s (by omega) rfl rfl), ?_⟩)
          have f156 : ex_P (am_wI h 27 (a5 - 1) (if ¬ (f (a5 - 1)) = 0 then Int32.ofInt 0 else Int32.ofInt 1)) := hP
          have f157 : c_v 17 C (am_wI h 27 (a5 - 1) (if ¬ (f (a5 - 1)) = 0 then Int32.ofInt 0 else Int32.ofInt 1)) := c_v_w (by omega) hT
          have f158 : lfr 27 h0 (am_wI h 27 (a5 - 1) (if ¬ (f (a5 - 1)) = 0 then Int32.ofInt 0 else Int32.ofInt 1)) := lfr_w hF
          have f159 : ∀ j, j < 32 → (am_wI h 27 (a5 - 1) (if ¬ (f (a5 - 1)) = 0 then Int32.ofInt 0 else Int32.ofInt 1)).1 27 j = (sp_uI f (a5 - 1) (if ¬ (f (a5 - 1)) = 0 then Int32.ofInt 0 else Int32.ofInt 1)) j := stk_w hK
          generalize am_wI h 27 (a5 - 1) (if ¬ (f (a5 - 1)) = 0 then Int32.ofInt 0 else Int32.ofInt 1) = h155 at f156 f157 f158 f159 ⊢
          refine am_goX 3 (show 6 < 8 ∧ pz_S 8 (some .int) am_r105 1 Q 6 [(6, .int ((nI k) + (Int32.ofInt 1))), (0, .ref 25), (1, .int a), (2, .int b), (3, .int c), (4, .int d), (5, .int (nI a5))] [] h155 from ⟨by decide, ?_⟩)
          rw [show d_105_6 C a b c d (m + 1) k a5 f = d_105_6 C a b c d m (k + 1) a5 (sp_uI f (a5 - 1) (if ¬ (f (a5 - 1)) = 0 then Int32.ofInt 0 else Int32.ofInt 1)) from (if_pos c135).trans ((if_neg c136).trans (if_neg c144))] at hZ
          rw [show (nI k) + (Int32.ofInt 1) = nI (k + 1) from (dn_a rfl rfl)]
          exact sv_S2 sv2_105 (by intro q hq; simp only [List.mem_cons, List.not_mem_nil, or_false] at hq; rcases hq with rfl | rfl | rfl | rfl | rfl | rfl | rfl <;> rfl) (ih (k + 1) a5 (sp_uI f (a5 - 1) (if ¬ (f (a5 - 1)) = 0 then Int32.ofInt 0 else Int32.ofInt 1)) _ (by omega) f156 f157 f158 f159 (by omega) hZ)
    · refine am_goX 3 (show (((Int8.ofInt 32).toInt32) ≤ (nI a5) → pz_S 8 (some .int) am_r105 1 Q 71 [(7, .int (dT C k)), (0, .ref 25), (1, .int a), (2, .int b), (3, .int c), (4, .int d), (5, .int (nI a5)), (6, .int (nI k))] [] h) ∧ (¬ (((Int8.ofInt 32).toInt32) ≤ (nI a5)) → pz_S 8 (some .int) am_r105 1 Q 38 [(7, .int (dT C k)), (0, .ref 25), (1, .int a), (2, .int b), (3, .int c), (4, .int d), (5, .int (nI a5)), (6, .int (nI k))] [] h) from ⟨fun c160 => ?_, fun c160 => ?_⟩)
      · have c160n : 32 ≤ a5 := (nI_leI (by omega) (by omega)).mp (show nI 32 ≤ nI a5 from c160)
        refine am_goX 3 (show (¬ (dT C k) = ((Int8.ofInt (-5)).toInt32) → pz_S 8 (some .int) am_r105 1 Q 112 [(7, .int (dT C k)), (0, .ref 25), (1, .int a), (2, .int b), (3, .int c), (4, .int d), (5, .int (nI a5)), (6, .int (nI k))] [] h) ∧ (¬ ¬ (dT C k) = ((Int8.ofInt (-5)).toInt32) → pz_S 8 (some .int) am_r105 1 Q 78 [(7, .int (dT C k)), (0, .ref 25), (1, .int a), (2, .int b), (3, .int c), (4, .int d), (5, .int (nI a5)), (6, .int (nI k))] [] h) from ⟨fun c161 => ?_, fun c161 => ?_⟩)
        · refine am_goX 3 (show (((Int8.ofInt (-5)).toInt32) ≤ (dT C k) → pz_S 8 (some .int) am_r105 1 Q 158 [(7, .int (dT C k)), (0, .ref 25), (1, .int a), (2, .int b), (3, .int c), (4, .int d), (5, .int (nI a5)), (6, .int (nI k))] [] h) ∧ (¬ (((Int8.ofInt (-5)).toInt32) ≤ (dT C k)) → pz_S 8 (some .int) am_r105 1 Q 119 [(7, .int (dT C k)), (0, .ref 25), (1, .int a), (2, .int b), (3, .int c), (4, .int d), (5, .int (nI a5)), (6, .int (nI k))] [] h) from ⟨fun c162 => ?_, fun c162 => ?_⟩)
          · refine am_goX 2 (show 6 < 8 ∧ pz_S 8 (some .int) am_r105 1 Q 6 [(6, .int ((nI k) + (Int32.ofInt 1))), (7, .int (dT C k)), (0, .ref 25), (1, .int a), (2, .int b), (3, .int c), (4, .int d), (5, .int (nI a5))] [] h from ⟨by decide, ?_⟩)
            rw [show d_105_6 C a b c d (m + 1) k a5 f = d_105_6 C a b c d m (k + 1) a5 f from (if_neg c135).trans ((if_pos c160).trans ((if_pos c161).trans (if_pos c162)))] at hZ
            rw [show (nI k) + (Int32.ofInt 1) = nI (k + 1) from (dn_a rfl rfl)]
            exact sv_S2 sv2_105 (by intro q hq; simp only [List.mem_cons, List.not_mem_nil, or_false] at hq; rcases hq with rfl | rfl | rfl | rfl | rfl | rfl | rfl <;> rfl) (ih (k + 1) a5 f _ (by omega) hP hT hF hK (by omega) hZ)
          · refine am_goX 3 (show ((nI a5) ≤ (Int32.ofInt 1) → pz_S 8 (some .int) am_r105 1 Q 158 [(7, .int (dT C k)), (0, .ref 25), (1, .int a), (2, .int b), (3, .int c), (4, .int d), (5, .int (nI a5)), (6, .int (nI k))] [] h) ∧ (¬ ((nI a5) ≤ (Int32.ofInt 1)) → pz_S 8 (some .int) am_r105 1 Q 125 [(7, .int (dT C k)), (0, .ref 25), (1, .int a), (2, .int b), (3, .int c), (4, .int d), (5, .int (nI a5)), (6, .int (nI k))] [] h) from ⟨fun c163 => ?_, fun c163 => ?_⟩)
            · have c163n : a5 ≤ 1 := (nI_leI (by omega) (by omega)).mp (show nI a5 ≤ nI 1 from c163)
              refine am_goX 2 (show 6 < 8 ∧ pz_S 8 (some .int) am_r105 1 Q 6 [(6, .int ((nI k) + (Int32.ofInt 1))), (7, .int (dT C k)), (0, .ref 25), (1, .int a), (2, .int b), (3, .int c), (4, .int d), (5, .int (nI a5))] [] h from ⟨by decide, ?_⟩)
              rw [show d_105_6 C a b c d (m + 1) k a5 f = d_105_6 C a b c d m (k + 1) a5 f from (if_neg c135).trans ((if_pos c160).trans ((if_pos c161).trans ((if_neg c162).trans (if_pos c163))))] at hZ
              rw [show (nI k) + (Int32.ofInt 1) = nI (k + 1) from (dn_a rfl rfl)]
              exact sv_S2 sv2_105 (by intro q hq; simp only [List.mem_cons, List.not_mem_nil, or_false] at hq; rcases hq with rfl | rfl | rfl | rfl | rfl | rfl | rfl <;> rfl) (ih (k + 1) a5 f _ (by omega) hP hT hF hK (by omega) hZ)
            · have c163n : ¬ (a5 ≤ 1) := fun w => absurd (show nI a5 ≤ nI 1 from (nI_leI (by omega) (by omega)).mpr w) c163
              refine am_goX 3 (show 5 < 8 ∧ am_sh h 25 = some (3, 0) ∧ pz_S 8 (some .int) am_r105 1 Q 132 [(5, .int ((nI a5) + (Int32.ofInt (-1)))), (7, .int (dT C k)), (0, .ref 25), (1, .int a), (2, .int b), (3, .int c), (4, .int d), (6, .int (nI k))] [am_rf (h.2.2.1 25 1)] h from ⟨by decide, ex_25 hP, ?_⟩)
              rw [show am_rf (h.2.2.1 25 1) = .ref 27 from congrArg am_rf (ex_r25_1 hP)]
              refine am_goX 6 (show am_sh h 25 = some (3, 0) ∧ pz_S 8 (some .int) am_r105 1 Q 142 [(5, .int ((nI a5) + (Int32.ofInt (-1)))), (7, .int (dT C k)), (0, .ref 25), (1, .int a), (2, .int b), (3, .int c), (4, .int d), (6, .int (nI k))] [am_rf (h.2.2.1 25 1), .int (dT C k), .int (((nI a5) + (Int32.ofInt (-1))) - (Int32.ofInt 1)), .ref 27] h from ⟨ex_25 hP, ?_⟩)
              rw [show am_rf (h.2.2.1 25 1) = .ref 27 from congrArg am_rf (ex_r25_1 hP)]
              refine am_goX 4 (show ∃ jj nn : Nat, am_sh h 27 = some (13, nn) ∧ jj < nn ∧ ((nI a5) + (Int32.ofInt (-1))) - (Int32.ofInt 1) = nI jj ∧ pz_S 8 (some .int) am_r105 1 Q 147 [(5, .int ((nI a5) + (Int32.ofInt (-1)))), (7, .int (dT C k)), (0, .ref 25), (1, .int a), (2, .int b), (3, .int c), (4, .int d), (6, .int (nI k))] [.int (h.1 27 jj), .int (dT C k), .int (((nI a5) + (Int32.ofInt (-1))) - (Int32.ofInt 1)), .ref 27] h from ⟨((a5 - 1) - 1), 32, ex_27 hP, (by omega), (dn_s (by omega) (dn_d (by omega) rfl (by decide)) rfl), ?_⟩)
              rw [show h.1 27 ((a5 - 1) - 1) = f ((a5 - 1) - 1) from hK ((a5 - 1) - 1) (by omega)]
              refine am_goX 2 (show am_sh h 25 = some (3, 0) ∧ pz_S 8 (some .int) am_r105 1 Q 151 [(5, .int ((nI a5) + (Int32.ofInt (-1)))), (7, .int (dT C k)), (0, .ref 25), (1, .int a), (2, .int b), (3, .int c), (4, .int d), (6, .int (nI k))] [am_rf (h.2.2.1 25 1), .int (f ((a5 - 1) - 1)), .int (dT C k), .int (((nI a5) + (Int32.ofInt (-1))) - (Int32.ofInt 1)), .ref 27] h from ⟨ex_25 hP, ?_⟩)
              rw [show am_rf (h.2.2.1 25 1) = .ref 27 from congrArg am_rf (ex_r25_1 hP)]
              refine am_goX 2 (show ∃ jj nn : Nat, am_sh h 27 = some (13, nn) ∧ jj < nn ∧ (nI a5) + (Int32.ofInt (-1)) = nI jj ∧ pz_S 8 (some .int) am_r105 1 Q 154 [(5, .int ((nI a5) + (Int32.ofInt (-1)))), (7, .int (dT C k)), (0, .ref 25), (1, .int a), (2, .int b), (3, .int c), (4, .int d), (6, .int (nI k))] [.int (h.1 27 jj), .int (f ((a5 - 1) - 1)), .int (dT C k), .int (((nI a5) + (Int32.ofInt (-1))) - (Int32.ofInt 1)), .ref 27] h from ⟨(a5 - 1), 32, ex_27 hP, (by omega), (dn_d (by omega) rfl (by decide)), ?_⟩)
              rw [show h.1 27 (a5 - 1) = f (a5 - 1) from hK (a5 - 1) (by omega)]
              refine am_goX 1 (show 2 ≤ 8 ∧ h.2.2.2.2 + am_al 107 ≤ 175 ∧ am_call am_cod 1 107 [.int (dT C k), .int (f ((a5 - 1) - 1)), .int (f (a5 - 1))] h (fun vv h' => pz_S 8 (some .int) am_r105 1 Q 157 [(5, .int ((nI a5) + (Int32.ofInt (-1)))), (7, .int (dT C k)), (0, .ref 25), (1, .int a), (2, .int b), (3, .int c), (4, .int d), (6, .int (nI k))] (vv.toList ++ [.int (((nI a5) + (Int32.ofInt (-1))) - (Int32.ofInt 1)), .ref 27]) h') from ⟨by decide, ex_lim hP rfl, am_call.up (d_107_w hP ?_) (by decide)⟩)
              refine am_goX 1 (show ∃ jj nn : Nat, am_so h 27 = some (13, nn) ∧ jj < nn ∧ ((nI a5) + (Int32.ofInt (-1))) - (Int32.ofInt 1) = nI jj ∧ pz_S 8 (some .int) am_r105 1 Q 158 [(5, .int ((nI a5) + (Int32.ofInt (-1)))), (7, .int (dT C k)), (0, .ref 25), (1, .int a), (2, .int b), (3, .int c), (4, .int d), (6, .int (nI k))] [] (am_wI h 27 jj (d_107 (dT C k) (f ((a5 - 1) - 1)) (f (a5 - 1)))) from ⟨((a5 - 1) - 1), 32, ex_w27 hP, (by omega), (dn_s (by omega) (dn_d (by omega) rfl (by decide)) rfl), ?_⟩)
              have f165 : ex_P (am_wI h 27 ((a5 - 1) - 1) (d_107 (dT C k) (f ((a5 - 1) - 1)) (f (a5 - 1)))) := hP
              have f166 : c_v 17 C (am_wI h 27 ((a5 - 1) - 1) (d_107 (dT C k) (f ((a5 - 1) - 1)) (f (a5 - 1)))) := c_v_w (by omega) hT
              have f167 : lfr 27 h0 (am_wI h 27 ((a5 - 1) - 1) (d_107 (dT C k) (f ((a5 - 1) - 1)) (f (a5 - 1)))) := lfr_w hF
              have f168 : ∀ j, j < 32 → (am_wI h 27 ((a5 - 1) - 1) (d_107 (dT C k) (f ((a5 - 1) - 1)) (f (a5 - 1)))).1 27 j = (sp_uI f ((a5 - 1) - 1) (d_107 (dT C k) (f ((a5 - 1) - 1)) (f (a5 - 1)))) j := stk_w hK
              generalize am_wI h 27 ((a5 - 1) - 1) (d_107 (dT C k) (f ((a5 - 1) - 1)) (f (a5 - 1))) = h164 at f165 f166 f167 f168 ⊢
              refine am_goX 2 (show 6 < 8 ∧ pz_S 8 (some .int) am_r105 1 Q 6 [(6, .int ((nI k) + (Int32.ofInt 1))), (5, .int ((nI a5) + (Int32.ofInt (-1)))), (7, .int (dT C k)), (0, .ref 25), (1, .int a), (2, .int b), (3, .int c), (4, .int d)] [] h164 from ⟨by decide, ?_⟩)
              rw [show d_105_6 C a b c d (m + 1) k a5 f = d_105_6 C a b c d m (k + 1) (a5 - 1) (sp_uI f ((a5 - 1) - 1) (d_107 (dT C k) (f ((a5 - 1) - 1)) (f (a5 - 1)))) from (if_neg c135).trans ((if_pos c160).trans ((if_pos c161).trans ((if_neg c162).trans (if_neg c163))))] at hZ
              rw [show (nI k) + (Int32.ofInt 1) = nI (k + 1) from (dn_a rfl rfl)]
              rw [show (nI a5) + (Int32.ofInt (-1)) = nI (a5 - 1) from (dn_d (by omega) rfl (by decide))]
              exact sv_S2 sv2_105 (by intro q hq; simp only [List.mem_cons, List.not_mem_nil, or_false] at hq; rcases hq with rfl | rfl | rfl | rfl | rfl | rfl | rfl <;> rfl) (ih (k + 1) (a5 - 1) (sp_uI f ((a5 - 1) - 1) (d_107 (dT C k) (f ((a5 - 1) - 1)) (f (a5 - 1)))) _ (by omega) f165 f166 f167 f168 (by omega) hZ)
        · refine am_goX 2 (show ((nI a5) ≤ 0 → pz_S 8 (some .int) am_r105 1 Q 112 [(7, .int (dT C k)), (0, .ref 25), (1, .int a), (2, .int b), (3, .int c), (4, .int d), (5, .int (nI a5)), (6, .int (nI k))] [] h) ∧ (¬ ((nI a5) ≤ 0) → pz_S 8 (some .int) am_r105 1 Q 83 [(7, .int (dT C k)), (0, .ref 25), (1, .int a), (2, .int b), (3, .int c), (4, .int d), (5, .int (nI a5)), (6, .int (nI k))] [] h) from ⟨fun c169 => ?_, fun c169 => ?_⟩)
          · have c169n : a5 ≤ 0 := (nI_leI (by omega) (by omega)).mp (show nI a5 ≤ nI 0 from c169)
            refine am_goX 3 (show (((Int8.ofInt (-5)).toInt32) ≤ (dT C k) → pz_S 8 (some .int) am_r105 1 Q 158 [(7, .int (dT C k)), (0, .ref 25), (1, .int a), (2, .int b), (3, .int c), (4, .int d), (5, .int (nI a5)), (6, .int (nI k))] [] h) ∧ (¬ (((Int8.ofInt (-5)).toInt32) ≤ (dT C k)) → pz_S 8 (some .int) am_r105 1 Q 119 [(7, .int (dT C k)), (0, .ref 25), (1, .int a), (2, .int b), (3, .int c), (4, .int d), (5, .int (nI a5)), (6, .int (nI k))] [] h) from ⟨fun c170 => ?_, fun c170 => ?_⟩)
            · refine am_goX 2 (show 6 < 8 ∧ pz_S 8 (some .int) am_r105 1 Q 6 [(6, .int ((nI k) + (Int32.ofInt 1))), (7, .int (dT C k)), (0, .ref 25), (1, .int a), (2, .int b), (3, .int c), (4, .int d), (5, .int (nI a5))] [] h from ⟨by decide, ?_⟩)
              rw [show d_105_6 C a b c d (m + 1) k a5 f = d_105_6 C a b c d m (k + 1) a5 f from (if_neg c135).trans ((if_pos c160).trans ((if_neg c161).trans ((if_pos c169).trans (if_pos c170))))] at hZ
              rw [show (nI k) + (Int32.ofInt 1) = nI (k + 1) from (dn_a rfl rfl)]
              exact sv_S2 sv2_105 (by intro q hq; simp only [List.mem_cons, List.not_mem_nil, or_false] at hq; rcases hq with rfl | rfl | rfl | rfl | rfl | rfl | rfl <;> rfl) (ih (k + 1) a5 f _ (by omega) hP hT hF hK (by omega) hZ)
            · refine am_goX 3 (show ((nI a5) ≤ (Int32.ofInt 1) → pz_S 8 (some .int) am_r105 1 Q 158 [(7, .int (dT C k)), (0, .ref 25), (1, .int a), (2, .int b), (3, .int c), (4, .int d), (5, .int (nI a5)), (6, .int (nI k))] [] h) ∧ (¬ ((nI a5) ≤ (Int32.ofInt 1)) → pz_S 8 (some .int) am_r105 1 Q 125 [(7, .int (dT C k)), (0, .ref 25), (1, .int a), (2, .int b), (3, .int c), (4, .int d), (5, .int (nI a5)), (6, .int (nI k))] [] h) from ⟨fun c171 => ?_, fun c171 => ?_⟩)
              · have c171n : a5 ≤ 1 := (nI_leI (by omega) (by omega)).mp (show nI a5 ≤ nI 1 from c171)
                refine am_goX 2 (show 6 < 8 ∧ pz_S 8 (some .int) am_r105 1 Q 6 [(6, .int ((nI k) + (Int32.ofInt 1))), (7, .int (dT C k)), (0, .ref 25), (1, .int a), (2, .int b), (3, .int c), (4, .int d), (5, .int (nI a5))] [] h from ⟨by decide, ?_⟩)
                rw [show d_105_6 C a b c d (m + 1) k a5 f = d_105_6 C a b c d m (k + 1) a5 f from (if_neg c135).trans ((if_pos c160).trans ((if_neg c161).trans ((if_pos c169).trans ((if_neg c170).trans (if_pos c171)))))] at hZ
                rw [show (nI k) + (Int32.ofInt 1) = nI (k + 1) from (dn_a rfl rfl)]
                exact sv_S2 sv2_105 (by intro q hq; simp only [List.mem_cons, List.not_mem_nil, or_false] at hq; rcases hq with rfl | rfl | rfl | rfl | rfl | rfl | rfl <;> rfl) (ih (k + 1) a5 f _ (by omega) hP hT hF hK (by omega) hZ)
              · have c171n : ¬ (a5 ≤ 1) := fun w => absurd (show nI a5 ≤ nI 1 from (nI_leI (by omega) (by omega)).mpr w) c171
                refine am_goX 3 (show 5 < 8 ∧ am_sh h 25 = some (3, 0) ∧ pz_S 8 (some .int) am_r105 1 Q 132 [(5, .int ((nI a5) + (Int32.ofInt (-1)))), (7, .int (dT C k)), (0, .ref 25), (1, .int a), (2, .int b), (3, .int c), (4, .int d), (6, .int (nI k))] [am_rf (h.2.2.1 25 1)] h from ⟨by decide, ex_25 hP, ?_⟩)
                rw [show am_rf (h.2.2.1 25 1) = .ref 27 from congrArg am_rf (ex_r25_1 hP)]
                refine am_goX 6 (show am_sh h 25 = some (3, 0) ∧ pz_S 8 (some .int) am_r105 1 Q 142 [(5, .int ((nI a5) + (Int32.ofInt (-1)))), (7, .int (dT C k)), (0, .ref 25), (1, .int a), (2, .int b), (3, .int c), (4, .int d), (6, .int (nI k))] [am_rf (h.2.2.1 25 1), .int (dT C k), .int (((nI a5) + (Int32.ofInt (-1))) - (Int32.ofInt 1)), .ref 27] h from ⟨ex_25 hP, ?_⟩)
                rw [show am_rf (h.2.2.1 25 1) = .ref 27 from congrArg am_rf (ex_r25_1 hP)]
                refine am_goX 4 (show ∃ jj nn : Nat, am_sh h 27 = some (13, nn) ∧ jj < nn ∧ ((nI a5) + (Int32.ofInt (-1))) - (Int32.ofInt 1) = nI jj ∧ pz_S 8 (some .int) am_r105 1 Q 147 [(5, .int ((nI a5) + (Int32.ofInt (-1)))), (7, .int (dT C k)), (0, .ref 25), (1, .int a), (2, .int b), (3, .int c), (4, .int d), (6, .int (nI k))] [.int (h.1 27 jj), .int (dT C k), .int (((nI a5) + (Int32.ofInt (-1))) - (Int32.ofInt 1)), .ref 27] h from ⟨((a5 - 1) - 1), 32, ex_27 hP, (by omega), (dn_s (by omega) (dn_d (by omega) rfl (by decide)) rfl), ?_⟩)
                rw [show h.1 27 ((a5 - 1) - 1) = f ((a5 - 1) - 1) from hK ((a5 - 1) - 1) (by omega)]
                refine am_goX 2 (show am_sh h 25 = some (3, 0) ∧ pz_S 8 (some .int) am_r105 1 Q 151 [(5, .int ((nI a5) + (Int32.ofInt (-1)))), (7, .int (dT C k)), (0, .ref 25), (1, .int a), (2, .int b), (3, .int c), (4, .int d), (6, .int (nI k))] [am_rf (h.2.2.1 25 1), .int (f ((a5 - 1) - 1)), .int (dT C k), .int (((nI a5) + (Int32.ofInt (-1))) - (Int32.ofInt 1)), .ref 27] h from ⟨ex_25 hP, ?_⟩)
                rw [show am_rf (h.2.2.1 25 1) = .ref 27 from congrArg am_rf (ex_r25_1 hP)]
                refine am_goX 2 (show ∃ jj nn : Nat, am_sh h 27 = some (13, nn) ∧ jj < nn ∧ (nI a5) + (Int32.ofInt (-1)) = nI jj ∧ pz_S 8 (some .int) am_r105 1 Q 154 [(5, .int ((nI a5) + (Int32.ofInt (-1)))), (7, .int (dT C k)), (0, .ref 25), (1, .int a), (2, .int b), (3, .int c), (4, .int d), (6, .int (nI k))] [.int (h.1 27 jj), .int (f ((a5 - 1) - 1)), .int (dT C k), .int (((nI a5) + (Int32.ofInt (-1))) - (Int32.ofInt 1)), .ref 27] h from ⟨(a5 - 1), 32, ex_27 hP, (by omega), (dn_d (by omega) rfl (by decide)), ?_⟩)
                rw [show h.1 27 (a5 - 1) = f (a5 - 1) from hK (a5 - 1) (by omega)]
                refine am_goX 1 (show 2 ≤ 8 ∧ h.2.2.2.2 + am_al 107 ≤ 175 ∧ am_call am_cod 1 107 [.int (dT C k), .int (f ((a5 - 1) - 1)), .int (f (a5 - 1))] h (fun vv h' => pz_S 8 (some .int) am_r105 1 Q 157 [(5, .int ((nI a5) + (Int32.ofInt (-1)))), (7, .int (dT C k)), (0, .ref 25), (1, .int a), (2, .int b), (3, .int c), (4, .int d), (6, .int (nI k))] (vv.toList ++ [.int (((nI a5) + (Int32.ofInt (-1))) - (Int32.ofInt 1)), .ref 27]) h') from ⟨by decide, ex_lim hP rfl, am_call.up (d_107_w hP ?_) (by decide)⟩)
                refine am_goX 1 (show ∃ jj nn : Nat, am_so h 27 = some (13, nn) ∧ jj < nn ∧ ((nI a5) + (Int32.ofInt (-1))) - (Int32.ofInt 1) = nI jj ∧ pz_S 8 (some .int) am_r105 1 Q 158 [(5, .int ((nI a5) + (Int32.ofInt (-1)))), (7, .int (dT C k)), (0, .ref 25), (1, .int a), (2, .int b), (3, .int c), (4, .int d), (6, .int (nI k))] [] (am_wI h 27 jj (d_107 (dT C k) (f ((a5 - 1) - 1)) (f (a5 - 1)))) from ⟨((a5 - 1) - 1), 32, ex_w27 hP, (by omega), (dn_s (by omega) (dn_d (by omega) rfl (by decide)) rfl), ?_⟩)
                have f173 : ex_P (am_wI h 27 ((a5 - 1) - 1) (d_107 (dT C k) (f ((a5 - 1) - 1)) (f (a5 - 1)))) := hP
                have f174 : c_v 17 C (am_wI h 27 ((a5 - 1) - 1) (d_107 (dT C k) (f ((a5 - 1) - 1)) (f (a5 - 1)))) := c_v_w (by omega) hT
                have f175 : lfr 27 h0 (am_wI h 27 ((a5 - 1) - 1) (d_107 (dT C k) (f ((a5 - 1) - 1)) (f (a5 - 1)))) := lfr_w hF
                have f176 : ∀ j, j < 32 → (am_wI h 27 ((a5 - 1) - 1) (d_107 (dT C k) (f ((a5 - 1) - 1)) (f (a5 - 1)))).1 27 j = (sp_uI f ((a5 - 1) - 1) (d_107 (dT C k) (f ((a5 - 1) - 1)) (f (a5 - 1)))) j := stk_w hK
                generalize am_wI h 27 ((a5 - 1) - 1) (d_107 (dT C k) (f ((a5 - 1) - 1)) (f (a5 - 1))) = h172 at f173 f174 f175 f176 ⊢
                refine am_goX 2 (show 6 < 8 ∧ pz_S 8 (some .int) am_r105 1 Q 6 [(6, .int ((nI k) + (Int32.ofInt 1))), (5, .int ((nI a5) + (Int32.ofInt (-1)))), (7, .int (dT C k)), (0, .ref 25), (1, .int a), (2, .int b), (3, .int c), (4, .int d)] [] h172 from ⟨by decide, ?_⟩)
                rw [show d_105_6 C a b c d (m + 1) k a5 f = d_105_6 C a b c d m (k + 1) (a5 - 1) (sp_uI f ((a5 - 1) - 1) (d_107 (dT C k) (f ((a5 - 1) - 1)) (f (a5 - 1)))) from (if_neg c135).trans ((if_pos c160).trans ((if_neg c161).trans ((if_pos c169).trans ((if_neg c170).trans (if_neg c171)))))] at hZ
                rw [show (nI k) + (Int32.ofInt 1) = nI (k + 1) from (dn_a rfl rfl)]
                rw [show (nI a5) + (Int32.ofInt (-1)) = nI (a5 - 1) from (dn_d (by omega) rfl (by decide))]
                exact sv_S2 sv2_105 (by intro q hq; simp only [List.mem_cons, List.not_mem_nil, or_false] at hq; rcases hq with rfl | rfl | rfl | rfl | rfl | rfl | rfl <;> rfl) (ih (k + 1) (a5 - 1) (sp_uI f ((a5 - 1) - 1) (d_107 (dT C k) (f ((a5 - 1) - 1)) (f (a5 - 1)))) _ (by omega) f173 f174 f175 f176 (by omega) hZ)
          · have c169n : ¬ (a5 ≤ 0) := fun w => absurd (show nI a5 ≤ nI 0 from (nI_leI (by omega) (by omega)).mpr w) c169
            refine am_goX 2 (show am_sh h 25 = some (3, 0) ∧ pz_S 8 (some .int) am_r105 1 Q 87 [(7, .int (dT C k)), (0, .ref 25), (1, .int a), (2, .int b), (3, .int c), (4, .int d), (5, .int (nI a5)), (6, .int (nI k))] [am_rf (h.2.2.1 25 1)] h from ⟨ex_25 hP, ?_⟩)
            rw [show am_rf (h.2.2.1 25 1) = .ref 27 from congrArg am_rf (ex_r25_1 hP)]
            refine am_goX 5 (show am_sh h 25 = some (3, 0) ∧ pz_S 8 (some .int) am_r105 1 Q 95 [(7, .int (dT C k)), (0, .ref 25), (1, .int a), (2, .int b), (3, .int c), (4, .int d), (5, .int (nI a5)), (6, .int (nI k))] [am_rf (h.2.2.1 25 1), .int ((nI a5) - (Int32.ofInt 1)), .ref 27] h from ⟨ex_25 hP, ?_⟩)
            rw [show am_rf (h.2.2.1 25 1) = .ref 27 from congrArg am_rf (ex_r25_1 hP)]
            refine am_goX 4 (show ∃ jj nn : Nat, am_sh h 27 = some (13, nn) ∧ jj < nn ∧ (nI a5) - (Int32.ofInt 1) = nI jj ∧ pz_S 8 (some .int) am_r105 1 Q 100 [(7, .int (dT C k)), (0, .ref 25), (1, .int a), (2, .int b), (3, .int c), (4, .int d), (5, .int (nI a5)), (6, .int (nI k))] [.int (h.1 27 jj), .int ((nI a5) - (Int32.ofInt 1)), .ref 27] h from ⟨(a5 - 1), 32, ex_27 hP, (by omega), (dn_s (by omega) rfl rfl), ?_⟩)
            rw [show h.1 27 (a5 - 1) = f (a5 - 1) from hK (a5 - 1) (by omega)]
            suffices key : ∀ (v178 : Int32), v178 = (if ¬ (f (a5 - 1)) = 0 then Int32.ofInt 0 else Int32.ofInt 1) → pz_S 8 (some .int) am_r105 1 Q 108 [(0, .ref 25), (1, .int a), (2, .int b), (3, .int c), (4, .int d), (5, .int (nI a5)), (6, .int (nI k))] [.int v178, .int ((nI a5) - (Int32.ofInt 1)), .ref 27] h by
              refine am_goX 1 (show (¬ (f (a5 - 1)) = 0 → pz_S 8 (some .int) am_r105 1 Q 107 [(7, .int (dT C k)), (0, .ref 25), (1, .int a), (2, .int b), (3, .int c), (4, .int d), (5, .int (nI a5)), (6, .int (nI k))] [.int ((nI a5) - (Int32.ofInt 1)), .ref 27] h) ∧ (¬ ¬ (f (a5 - 1)) = 0 → pz_S 8 (some .int) am_r105 1 Q 103 [(7, .int (dT C k)), (0, .ref 25), (1, .int a), (2, .int b), (3, .int c), (4, .int d), (5, .int (nI a5)), (6, .int (nI k))] [.int ((nI a5) - (Int32.ofInt 1)), .ref 27] h) from ⟨fun c177 => ?_, fun c177 => ?_⟩)
              · refine am_goX 1 (show pz_S 8 (some .int) am_r105 1 Q 108 [(7, .int (dT C k)), (0, .ref 25), (1, .int a), (2, .int b), (3, .int c), (4, .int d), (5, .int (nI a5)), (6, .int (nI k))] [.int (Int32.ofInt 0), .int ((nI a5) - (Int32.ofInt 1)), .ref 27] h from ?_)
                exact sv_S2 sv2_105 (by intro q hq; simp only [List.mem_cons, List.not_mem_nil, or_false] at hq; rcases hq with rfl | rfl | rfl | rfl | rfl | rfl | rfl <;> rfl) (key _ (if_pos c177).symm)
              · refine am_goX 2 (show pz_S 8 (some .int) am_r105 1 Q 108 [(7, .int (dT C k)), (0, .ref 25), (1, .int a), (2, .int b), (3, .int c), (4, .int d), (5, .int (nI a5)), (6, .int (nI k))] [.int (Int32.ofInt 1), .int ((nI a5) - (Int32.ofInt 1)), .ref 27] h from ?_)
                exact sv_S2 sv2_105 (by intro q hq; simp only [List.mem_cons, List.not_mem_nil, or_false] at hq; rcases hq with rfl | rfl | rfl | rfl | rfl | rfl | rfl <;> rfl) (key _ (if_neg c177).symm)
            intro v178 e179
            subst e179
            refine am_goX 1 (show ∃ jj nn : Nat, am_so h 27 = some (13, nn) ∧ jj < nn ∧ (nI a5) - (Int32.ofInt 1) = nI jj ∧ pz_S 8 (some .int) am_r105 1 Q 109 [(0, .ref 25), (1, .int a), (2, .int b), (3, .int c), (4, .int d), (5, .int (nI a5)), (6, .int (nI k))] [] (am_wI h 27 jj (if ¬ (f (a5 - 1)) = 0 then Int32.ofInt 0 else Int32.ofInt 1)) from ⟨(a5 - 1), 32, ex_w27 hP, (by omega), (dn_s (by omega) rfl rfl), ?_⟩)
            have f181 : ex_P (am_wI h 27 (a5 - 1) (if ¬ (f (a5 - 1)) = 0 then Int32.ofInt 0 else Int32.ofInt 1)) := hP
            have f182 : c_v 17 C (am_wI h 27 (a5 - 1) (if ¬ (f (a5 - 1)) = 0 then Int32.ofInt 0 else Int32.ofInt 1)) := c_v_w (by omega) hT
            have f183 : lfr 27 h0 (am_wI h 27 (a5 - 1) (if ¬ (f (a5 - 1)) = 0 then Int32.ofInt 0 else Int32.ofInt 1)) := lfr_w hF
            have f184 : ∀ j, j < 32 → (am_wI h 27 (a5 - 1) (if ¬ (f (a5 - 1)) = 0 then Int32.ofInt 0 else Int32.ofInt 1)).1 27 j = (sp_uI f (a5 - 1) (if ¬ (f (a5 - 1)) = 0 then Int32.ofInt 0 else Int32.ofInt 1)) j := stk_w hK
            generalize am_wI h 27 (a5 - 1) (if ¬ (f (a5 - 1)) = 0 then Int32.ofInt 0 else Int32.ofInt 1) = h180 at f181 f182 f183 f184 ⊢
            refine am_goX 3 (show 6 < 8 ∧ pz_S 8 (some .int) am_r105 1 Q 6 [(6, .int ((nI k) + (Int32.ofInt 1))), (0, .ref 25), (1, .int a), (2, .int b), (3, .int c), (4, .int d), (5, .int (nI a5))] [] h180 from ⟨by decide, ?_⟩)
            rw [show d_105_6 C a b c d (m + 1) k a5 f = d_105_6 C a b c d m (k + 1) a5 (sp_uI f (a5 - 1) (if ¬ (f (a5 - 1)) = 0 then Int32.ofInt 0 else Int32.ofInt 1)) from (if_neg c135).trans ((if_pos c160).trans ((if_neg c161).trans (if_neg c169)))] at hZ
            rw [show (nI k) + (Int32.ofInt 1) = nI (k + 1) from (dn_a rfl rfl)]
            exact sv_S2 sv2_105 (by intro q hq; simp only [List.mem_cons, List.not_mem_nil, or_false] at hq; rcases hq with rfl | rfl | rfl | rfl | rfl | rfl | rfl <;> rfl) (ih (k + 1) a5 (sp_uI f (a5 - 1) (if ¬ (f (a5 - 1)) = 0 then Int32.ofInt 0 else Int32.ofInt 1)) _ (by omega) f181 f182 f183 f184 (by omega) hZ)
      · have c160n : ¬ (32 ≤ a5) := fun w => absurd (show nI 32 ≤ nI a5 from (nI_leI (by omega) (by omega)).mpr w) c160
        refine am_goX 2 (show am_sh h 25 = some (3, 0) ∧ pz_S 8 (some .int) am_r105 1 Q 42 [(7, .int (dT C k)), (0, .ref 25), (1, .int a), (2, .int b), (3, .int c), (4, .int d), (5, .int (nI a5)), (6, .int (nI k))] [am_rf (h.2.2.1 25 1)] h from ⟨ex_25 hP, ?_⟩)
        rw [show am_rf (h.2.2.1 25 1) = .ref 27 from congrArg am_rf (ex_r25_1 hP)]
        suffices key : ∀ (v186 : Int32), v186 = (if (dT C k) < 0 then d_106 (dT C k) a b c d else dT C k) → pz_S 8 (some .int) am_r105 1 Q 64 [(0, .ref 25), (1, .int a), (2, .int b), (3, .int c), (4, .int d), (5, .int (nI a5)), (6, .int (nI k))] [.int v186, .int (nI a5), .ref 27] h by
          refine am_goX 3 (show ((dT C k) < 0 → pz_S 8 (some .int) am_r105 1 Q 54 [(7, .int (dT C k)), (0, .ref 25), (1, .int a), (2, .int b), (3, .int c), (4, .int d), (5, .int (nI a5)), (6, .int (nI k))] [.int (nI a5), .ref 27] h) ∧ (¬ ((dT C k) < 0) → pz_S 8 (some .int) am_r105 1 Q 49 [(7, .int (dT C k)), (0, .ref 25), (1, .int a), (2, .int b), (3, .int c), (4, .int d), (5, .int (nI a5)), (6, .int (nI k))] [.int (nI a5), .ref 27] h) from ⟨fun c185 => ?_, fun c185 => ?_⟩)
          · refine am_goX 6 (show 2 ≤ 8 ∧ h.2.2.2.2 + am_al 106 ≤ 175 ∧ am_call am_cod 1 106 [.int (dT C k), .int a, .int b, .int c, .int d] h (fun vv h' => pz_S 8 (some .int) am_r105 1 Q 64 [(7, .int (dT C k)), (0, .ref 25), (1, .int a), (2, .int b), (3, .int c), (4, .int d), (5, .int (nI a5)), (6, .int (nI k))] (vv.toList ++ [.int (nI a5), .ref 27]) h') from ⟨by decide, ex_lim hP rfl, am_call.up (d_106_w hP ?_) (by decide)⟩)
            exact sv_S2 sv2_105 (by intro q hq; simp only [List.mem_cons, List.not_mem_nil, or_false] at hq; rcases hq with rfl | rfl | rfl | rfl | rfl | rfl | rfl <;> rfl) (key _ (if_pos c185).symm)
          · refine am_goX 2 (show pz_S 8 (some .int) am_r105 1 Q 64 [(7, .int (dT C k)), (0, .ref 25), (1, .int a), (2, .int b), (3, .int c), (4, .int d), (5, .int (nI a5)), (6, .int (nI k))] [.int (dT C k), .int (nI a5), .ref 27] h from ?_)
            exact sv_S2 sv2_105 (by intro q hq; simp only [List.mem_cons, List.not_mem_nil, or_false] at hq; rcases hq with rfl | rfl | rfl | rfl | rfl | rfl | rfl <;> rfl) (key _ (if_neg c185).symm)
        intro v186 e187
        subst e187
        refine am_goX 1 (show ∃ jj nn : Nat, am_so h 27 = some (13, nn) ∧ jj < nn ∧ nI a5 = nI jj ∧ pz_S 8 (some .int) am_r105 1 Q 65 [(0, .ref 25), (1, .int a), (2, .int b), (3, .int c), (4, .int d), (5, .int (nI a5)), (6, .int (nI k))] [] (am_wI h 27 jj (if (dT C k) < 0 then d_106 (dT C k) a b c d else dT C k)) from ⟨a5, 32, ex_w27 hP, (by omega), rfl, ?_⟩)
        have f189 : ex_P (am_wI h 27 a5 (if (dT C k) < 0 then d_106 (dT C k) a b c d else dT C k)) := hP
        have f190 : c_v 17 C (am_wI h 27 a5 (if (dT C k) < 0 then d_106 (dT C k) a b c d else dT C k)) := c_v_w (by omega) hT
        have f191 : lfr 27 h0 (am_wI h 27 a5 (if (dT C k) < 0 then d_106 (dT C k) a b c d else dT C k)) := lfr_w hF
        have f192 : ∀ j, j < 32 → (am_wI h 27 a5 (if (dT C k) < 0 then d_106 (dT C k) a b c d else dT C k)).1 27 j = (sp_uI f a5 (if (dT C k) < 0 then d_106 (dT C k) a b c d else dT C k)) j := stk_w hK
        generalize am_wI h 27 a5 (if (dT C k) < 0 then d_106 (dT C k) a b c d else dT C k) = h188 at f189 f190 f191 f192 ⊢
        refine am_goX 4 (show 5 < 8 ∧ 6 < 8 ∧ pz_S 8 (some .int) am_r105 1 Q 6 [(6, .int ((nI k) + (Int32.ofInt 1))), (5, .int ((nI a5) + (Int32.ofInt 1))), (0, .ref 25), (1, .int a), (2, .int b), (3, .int c), (4, .int d)] [] h188 from ⟨by decide, by decide, ?_⟩)
        rw [show d_105_6 C a b c d (m + 1) k a5 f = d_105_6 C a b c d m (k + 1) (a5 + 1) (sp_uI f a5 (if (dT C k) < 0 then d_106 (dT C k) a b c d else dT C k)) from (if_neg c135).trans (if_neg c160)] at hZ
        rw [show (nI k) + (Int32.ofInt 1) = nI (k + 1) from (dn_a rfl rfl)]
        rw [show (nI a5) + (Int32.ofInt 1) = nI (a5 + 1) from (dn_a rfl rfl)]
        exact sv_S2 sv2_105 (by intro q hq; simp only [List.mem_cons, List.not_mem_nil, or_false] at hq; rcases hq with rfl | rfl | rfl | rfl | rfl | rfl | rfl <;> rfl) (ih (k + 1) (a5 + 1) (sp_uI f a5 (if (dT C k) < 0 then d_106 (dT C k) a b c d else dT C k)) _ (by omega) f189 f190 f191 f192 (by omega) hZ)
theorem d_105_l17 (hP : ex_P h) (hT : c_v 17 C h) (hF : lfr 27 h0 h) (hK : ∀ j, j < 32 → h.1 27 j = f j)  (hQ : ∀ h1, (ex_P h1) → (c_v 17 C h1) → (lfr 27 h0 h1) → (∀ j, j < 32 → h1.1 27 j = (d_105_f C a b c d f) j) → Q (some (.int (d_105 C a b c d f))) h1) : am_call am_cod 2 105 [.ref 25, .int a, .int b, .int c, .int d] h Q := by
  have hM := hT.2.2.2.2.1
  refine pz_call (n := 105) (nL := 8) (rt := (some .int)) (rows := am_r105) (d := 1) (by decide +kernel) (by decide +kernel) rfl (by funext pc; rfl) (ex_175 hP) (by exact Nat.le_of_ble_eq_true rfl) ?_
  refine am_goX 4 (show 5 < 8 ∧ 6 < 8 ∧ pz_S 8 (some .int) am_r105 1 Q 6 [(6, .int (Int32.ofInt 0)), (5, .int (Int32.ofInt 0)), (0, .ref 25), (1, .int a), (2, .int b), (3, .int c), (4, .int d)] [] h from ⟨by decide, by decide, ?_⟩)
  refine sv_S2 sv2_105 (by intro q hq; simp only [List.mem_cons, List.not_mem_nil, or_false] at hq; rcases hq with rfl | rfl | rfl | rfl | rfl | rfl | rfl <;> rfl) (d_105_6_l17 (dM C) 0 0 f _ (by omega) hP hT hF hK (by omega) (fun h193 f194 f195 f196 f197 i198 => ?_))
  suffices key : ∀ (v200 : Int32), v200 = (if (nI ((d_105_6 C a b c d (dM C) 0 0 f).1)) ≤ 0 then Int32.ofInt 1 else ((d_105_6 C a b c d (dM C) 0 0 f).2) 0) → pz_S 8 (some .int) am_r105 1 Q 179 [] [.int v200] h193 by
    refine am_goX 2 (show ((nI ((d_105_6 C a b c d (dM C) 0 0 f).1)) ≤ 0 → pz_S 8 (some .int) am_r105 1 Q 178 [(0, .ref 25), (5, .int (nI ((d_105_6 C a b c d (dM C) 0 0 f).1)))] [] h193) ∧ (¬ ((nI ((d_105_6 C a b c d (dM C) 0 0 f).1)) ≤ 0) → pz_S 8 (some .int) am_r105 1 Q 169 [(0, .ref 25), (5, .int (nI ((d_105_6 C a b c d (dM C) 0 0 f).1)))] [] h193) from ⟨fun c199 => ?_, fun c199 => ?_⟩)
    · have c199n : (d_105_6 C a b c d (dM C) 0 0 f).1 ≤ 0 := (nI_leI (by omega) (by omega)).mp (show nI ((d_105_6 C a b c d (dM C) 0 0 f).1) ≤ nI 0 from c199)
      refine am_goX 1 (show pz_S 8 (some .int) am_r105 1 Q 179 [(0, .ref 25), (5, .int (nI ((d_105_6 C a b c d (dM C) 0 0 f).1)))] [.int (Int32.ofInt 1)] h193 from ?_)
      exact sv_S2 sv2_105 (fun q hq => absurd hq List.not_mem_nil) (key _ (if_pos c199).symm)
    · have c199n : ¬ ((d_105_6 C a b c d (dM C) 0 0 f).1 ≤ 0) := fun w => absurd (show nI ((d_105_6 C a b c d (dM C) 0 0 f).1) ≤ nI 0 from (nI_leI (by omega) (by omega)).mpr w) c199
      refine am_goX 2 (show am_sh h193 25 = some (3, 0) ∧ pz_S 8 (some .int) am_r105 1 Q 173 [(0, .ref 25), (5, .int (nI ((d_105_6 C a b c d (dM C) 0 0 f).1)))] [am_rf (h193.2.2.1 25 1)] h193 from ⟨ex_25 f194, ?_⟩)
      rw [show am_rf (h193.2.2.1 25 1) = .ref 27 from congrArg am_rf (ex_r25_1 f194)]
      refine am_goX 2 (show ∃ jj nn : Nat, am_sh h193 27 = some (13, nn) ∧ jj < nn ∧ Int32.ofInt 0 = nI jj ∧ pz_S 8 (some .int) am_r105 1 Q 175 [(0, .ref 25), (5, .int (nI ((d_105_6 C a b c d (dM C) 0 0 f).1)))] [.int (h193.1 27 jj)] h193 from ⟨0, 32, ex_27 f194, (by omega), rfl, ?_⟩)
      rw [show h193.1 27 0 = ((d_105_6 C a b c d (dM C) 0 0 f).2) 0 from f197 0 (by omega)]
      refine am_goX 1 (show pz_S 8 (some .int) am_r105 1 Q 179 [(0, .ref 25), (5, .int (nI ((d_105_6 C a b c d (dM C) 0 0 f).1)))] [.int (((d_105_6 C a b c d (dM C) 0 0 f).2) 0)] h193 from ?_)
      exact sv_S2 sv2_105 (fun q hq => absurd hq List.not_mem_nil) (key _ (if_neg c199).symm)
  intro v200 e201
  subst e201
  exact am_goX 1 (show (∃ ty, (some .int) = some ty ∧ narrow ty (.int (if (nI ((d_105_6 C a b c d (dM C) 0 0 f).1)) ≤ 0 then Int32.ofInt 1 else ((d_105_6 C a b c d (dM C) 0 0 f).2) 0)) = .int (if (nI ((d_105_6 C a b c d (dM C) 0 0 f).1)) ≤ 0 then Int32.ofInt 1 else ((d_105_6 C a b c d (dM C) 0 0 f).2) 0)) ∧ h193.2.2.2.2 = 175 ∧ _ from ⟨⟨.int, rfl, rfl⟩, ex_175 f194, hQ _ f194 f195 f196 f197⟩)
