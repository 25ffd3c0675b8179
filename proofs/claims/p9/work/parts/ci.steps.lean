/-! STEPS OF THE WHOLE RELATION -/
abbrev dF : Type := Int32 × dS × dH × dMk × Nat
def KCf (C : sp_C) (f : dF) (v : Option Value) (g : am_H) : Prop := v = some (.int f.1) ∧ KC C f.2.1 f.2.2.1 f.2.2.2.1 f.2.2.2.2 g
def KRf (C : sp_C) (f : dF) (v : Option Value) (g : am_H) : Prop := v = some (.int f.1) ∧ KR C f.2.1 f.2.2.1 f.2.2.2.1 f.2.2.2.2 g
def KIf (C : sp_C) (D : Nat) (f : dF) : Prop := KI C D f.2.1 f.2.2.1 f.2.2.2.1 f.2.2.2.2
variable {h : am_H} {C : sp_C} {D : Nat} {s : dS} {H : dH} {M : dMk} {x : Nat}
def f_day (C : sp_C) (s : dS) (H : dH) (M : dMk) (x : Nat) : dF := (d_97 C s H, d_97_s C s H, hP1 H s, M, x)
def f_lot (C : sp_C) (s : dS) (H : dH) (M : dMk) (x : Nat) (a b : Int32) : dF := if d_87 C a = Int32.ofInt 0 then (Int32.ofInt (-1), s, H, M, x) else if d_60 b (Int32.ofInt 0) (Int32.ofInt 4) = Int32.ofInt 0 then (Int32.ofInt (-1), s, H, M, x) else (s.2.2.1 a.toInt.toNat, sSL s a.toInt.toNat b, hP1 H s, M, x)
def f_ask (C : sp_C) (s : dS) (H : dH) (M : dMk) (x : Nat) (a : Int32) : dF := if d_87 C a = Int32.ofInt 0 then (Int32.ofInt (-1), s, H, M, x) else (s.2.1 + Int32.ofInt 1, d_111_s s a.toInt.toNat, hP1 H s, M, x)
def f_undo (s : dS) (H : dH) (M : dMk) (x : Nat) : dF := if H.1 = 0 then (Int32.ofInt 0, s, H, M, x) else (Int32.ofInt 1, H.2 0, hP0 H, M, x)
def f_see (C : sp_C) (s : dS) (H : dH) (M : dMk) (x : Nat) (a b : Int32) : dF := if d_93 C a = Int32.ofInt 0 then (Int32.ofInt 0, s, H, M, x) else if d_60 b (Int32.ofInt 1) ((Int8.ofInt 28).toInt32) = Int32.ofInt 0 then (Int32.ofInt 0, s, H, M, x) else if x = 8 then (Int32.ofInt 0, s, H, M, x) else (Int32.ofInt 1, s, H, M, x + 1)
def f_mark (s : dS) (H : dH) (M : dMk) (x : Nat) (a : Int32) (z : Int) : dF := if d_60 a (Int32.ofInt 0) (Int32.ofInt 3) = Int32.ofInt 0 then (Int32.ofInt 0, s, H, M, x) else if z = 0 then (Int32.ofInt 1, s, H, mset M a.toInt.toNat s x, x) else if M.1 a.toInt.toNat = false then (Int32.ofInt 0, s, H, M, x) else (Int32.ofInt 1, M.2.1 a.toInt.toNat, (0, H.2), M, M.2.2 a.toInt.toNat)
theorem v_60b {l : Nat} (h1 : 1 ≤ l) (h2 : l ≤ 28) : d_60 (nI l) (Int32.ofInt 1) ((Int8.ofInt 28).toInt32) = Int32.ofInt 1 := by
  rw [show (Int8.ofInt 28).toInt32 = nI 28 by decide]
  exact v_60 (lo := 1) (hi := 28) h1 h2 (by decide)
theorem c_60b (x : Int32) : d_60 x (Int32.ofInt 1) ((Int8.ofInt 28).toInt32) = Int32.ofInt 0 ∨ ∃ l, 1 ≤ l ∧ l ≤ 28 ∧ x = nI l := by
  rw [show (Int8.ofInt 28).toInt32 = nI 28 by decide]
  exact c_60 (lo := 1) (hi := 28) (by decide) (by decide) x
theorem nI_tnn {p : Nat} (hp : p < 4096) : (nI p).toInt.toNat = p := by
  rw [nI_toInt (by omega)]
  rfl
theorem v_87b {p : Nat} (hp : p < dP C) (h6 : dP C ≤ 6) : ¬ d_87 C (nI p) = Int32.ofInt 0 := by
  rw [v_87 hp]
  decide
theorem v_93b {p : Nat} (hp : p < dE C) (h5 : dE C ≤ 5) : ¬ d_93 C (nI p) = Int32.ofInt 0 := by
  rw [show d_93 C (nI p) = Int32.ofInt 1 from v_93 hp h5]
  decide
theorem f_lot1 {a b : Int32} (e : d_87 C a = Int32.ofInt 0) : f_lot C s H M x a b = (Int32.ofInt (-1), s, H, M, x) := if_pos e
theorem f_lot2 {p : Nat} {b : Int32} (hp : p < dP C) (h6 : dP C ≤ 6) (e : d_60 b (Int32.ofInt 0) (Int32.ofInt 4) = Int32.ofInt 0) : f_lot C s H M x (nI p) b = (Int32.ofInt (-1), s, H, M, x) := (if_neg (v_87b hp h6)).trans (if_pos e)
theorem f_lot3 {p l : Nat} (hp : p < dP C) (h6 : dP C ≤ 6) (hl : l < 5) : f_lot C s H M x (nI p) (nI l) = (s.2.2.1 p, sSL s p (nI l), hP1 H s, M, x) := by
  unfold f_lot
  rw [if_neg (v_87b hp h6), if_neg (show ¬ d_60 (nI l) (Int32.ofInt 0) (Int32.ofInt 4) = Int32.ofInt 0 by rw [show d_60 (nI l) (Int32.ofInt 0) (Int32.ofInt 4) = Int32.ofInt 1 from v_60 (lo := 0) (hi := 4) (by omega) (by omega) (by decide)]; decide), nI_tnn (by omega)]
theorem f_ask1 {a : Int32} (e : d_87 C a = Int32.ofInt 0) : f_ask C s H M x a = (Int32.ofInt (-1), s, H, M, x) := if_pos e
theorem f_ask2 {p : Nat} (hp : p < dP C) (h6 : dP C ≤ 6) : f_ask C s H M x (nI p) = (s.2.1 + Int32.ofInt 1, d_111_s s p, hP1 H s, M, x) := by
  unfold f_ask
  rw [if_neg (v_87b hp h6), nI_tnn (by omega)]
theorem f_undo1 (e : H.1 = 0) : f_undo s H M x = (Int32.ofInt 0, s, H, M, x) := if_pos e
theorem f_undo2 (e : 0 < H.1) : f_undo s H M x = (Int32.ofInt 1, H.2 0, hP0 H, M, x) := if_neg (by omega)
theorem f_see1 {a b : Int32} (e : d_93 C a = Int32.ofInt 0) : f_see C s H M x a b = (Int32.ofInt 0, s, H, M, x) := if_pos e
theorem f_see2 {p : Nat} {b : Int32} (hp : p < dE C) (h5 : dE C ≤ 5) (e : d_60 b (Int32.ofInt 1) ((Int8.ofInt 28).toInt32) = Int32.ofInt 0) : f_see C s H M x (nI p) b = (Int32.ofInt 0, s, H, M, x) := (if_neg (v_93b hp h5)).trans (if_pos e)
theorem v_60c {l : Nat} (h1 : 1 ≤ l) (h2 : l ≤ 28) : ¬ d_60 (nI l) (Int32.ofInt 1) ((Int8.ofInt 28).toInt32) = Int32.ofInt 0 := by
  rw [v_60b h1 h2]
  decide
theorem f_see3 {p l : Nat} (hp : p < dE C) (h5 : dE C ≤ 5) (h1 : 1 ≤ l) (h2 : l ≤ 28) (e : x = 8) : f_see C s H M x (nI p) (nI l) = (Int32.ofInt 0, s, H, M, x) := (if_neg (v_93b hp h5)).trans ((if_neg (v_60c h1 h2)).trans (if_pos e))
theorem f_see4 {p l : Nat} (hp : p < dE C) (h5 : dE C ≤ 5) (h1 : 1 ≤ l) (h2 : l ≤ 28) (e : x < 8) : f_see C s H M x (nI p) (nI l) = (Int32.ofInt 1, s, H, M, x + 1) := (if_neg (v_93b hp h5)).trans ((if_neg (v_60c h1 h2)).trans (if_neg (by omega)))
theorem f_mark1 {a : Int32} {z : Int} (e : d_60 a (Int32.ofInt 0) (Int32.ofInt 3) = Int32.ofInt 0) : f_mark s H M x a z = (Int32.ofInt 0, s, H, M, x) := if_pos e
theorem v_60d {l : Nat} (h : l < 4) : ¬ d_60 (nI l) (Int32.ofInt 0) (Int32.ofInt 3) = Int32.ofInt 0 := by
  rw [show d_60 (nI l) (Int32.ofInt 0) (Int32.ofInt 3) = Int32.ofInt 1 from v_60 (lo := 0) (hi := 3) (by omega) (by omega) (by decide)]
  decide
theorem f_mark2 {m : Nat} (h : m < 4) : f_mark s H M x (nI m) 0 = (Int32.ofInt 1, s, H, mset M m s x, x) := by
  unfold f_mark
  rw [if_neg (v_60d h), if_pos rfl, nI_tnn (by omega)]
theorem f_mark3 {m : Nat} (h : m < 4) (e : M.1 m = false) : f_mark s H M x (nI m) 1 = (Int32.ofInt 0, s, H, M, x) := by
  unfold f_mark
  rw [if_neg (v_60d h), if_neg (by decide), nI_tnn (by omega), if_pos e]
theorem f_mark4 {m : Nat} (h : m < 4) (e : M.1 m = true) : f_mark s H M x (nI m) 1 = (Int32.ofInt 1, M.2.1 m, (0, H.2), M, M.2.2 m) := by
  unfold f_mark
  rw [if_neg (v_60d h), if_neg (by decide), nI_tnn (by omega), if_neg (by rw [e]; decide)]
/-! what stays well formed -/
theorem sH_1 (h1 : sI C D s) (h2 : sH C D H) : sH C D (hP1 H s) := fun j hj => by
  have hj : j < min (H.1 + 1) 16 := hj
  show sI C D (if j = 0 then s else H.2 (j - 1))
  by_cases e : j = 0
  · rw [if_pos e]; exact h1
  · rw [if_neg e]; exact h2 _ (by omega)
theorem sI_L {p l : Nat} (hl : l < 5) (hs : sI C D s) : sI C D (sSL s p (nI l)) := by
  obtain ⟨h1, h2, h3⟩ := hs
  refine ⟨h1, fun q hq => ?_, h3⟩
  show ∃ l', l' < 5 ∧ (if q = p then nI l else s.2.2.1 q) = nI l'
  by_cases e : q = p
  · rw [if_pos e]; exact ⟨l, hl, rfl⟩
  · rw [if_neg e]; exact h2 q hq
theorem i_day (i : KI C D s H M x) : KIf C (D + 1) (f_day C s H M x) := ⟨i.1, sI_up (by omega) (sI_day i.1 i.2.1), fun j hj => sI_up (by omega) (sH_1 i.2.1 i.2.2.1 j hj), (KI_up (E := D + 1) (by omega) i).2.2.2⟩
theorem i_lot (i : KI C D s H M x) (a b : Int32) : KIf C (D + 1) (f_lot C s H M x a b) := by
  have h6 := i.1.1.1
  have i7 := KI_up (E := D + 1) (by omega) i
  rcases c_87 h6 a with e | ⟨p, hp, rfl⟩
  · rw [f_lot1 e]; exact i7
  · rcases c_60 (lo := 0) (hi := 4) (by decide) (by decide) b with e | ⟨l, -, hl, rfl⟩
    · rw [f_lot2 hp h6 e]; exact i7
    · rw [f_lot3 hp h6 (by omega)]
      exact ⟨i7.1, sI_L (by omega) i7.2.1, sH_1 i7.2.1 i7.2.2.1, i7.2.2.2⟩
theorem i_ask (i : KI C D s H M x) (a : Int32) : KIf C (D + 1) (f_ask C s H M x a) := by
  have h6 := i.1.1.1
  have i7 := KI_up (E := D + 1) (by omega) i
  rcases c_87 h6 a with e | ⟨p, hp, rfl⟩
  · rw [f_ask1 e]; exact i7
  · rw [f_ask2 hp h6]
    exact ⟨i7.1, sI_L (p := p) (l := 2) (by decide) i7.2.1, sH_1 i7.2.1 i7.2.2.1, i7.2.2.2⟩
theorem i_undo (i : KI C D s H M x) : KIf C (D + 1) (f_undo s H M x) := by
  have i7 := KI_up (E := D + 1) (by omega) i
  by_cases e : H.1 = 0
  · rw [f_undo1 e]; exact i7
  · rw [f_undo2 (by omega)]
    exact ⟨i7.1, i7.2.2.1 0 (by omega), fun j hj => i7.2.2.1 (j + 1) (by have hj : j < H.1 - 1 := hj; omega), i7.2.2.2⟩
theorem i_see (i : KI C D s H M x) (a b : Int32) : KIf C (D + 1) (f_see C s H M x a b) := by
  have h5 := i.1.1.2
  have i7 := KI_up (E := D + 1) (by omega) i
  have hx := i.2.2.2.2
  rcases c_93 h5 a with e | ⟨p, hp, rfl⟩
  · rw [f_see1 e]; exact i7
  · rcases c_60b b with e | ⟨l, h1, h2, rfl⟩
    · rw [f_see2 hp h5 e]; exact i7
    · by_cases e : x = 8
      · rw [f_see3 hp h5 h1 h2 e]; exact i7
      · rw [f_see4 hp h5 h1 h2 (by omega)]
        exact ⟨i7.1, i7.2.1, i7.2.2.1, i7.2.2.2.1, (by show x + 1 ≤ 8; omega)⟩
theorem i_mark (i : KI C D s H M x) (a : Int32) {z : Int} (hz : 0 ≤ z ∧ z ≤ 1) : KIf C (D + 1) (f_mark s H M x a z) := by
  have i7 := KI_up (E := D + 1) (by omega) i
  rcases c_60 (lo := 0) (hi := 3) (by decide) (by decide) a with e | ⟨m, -, hm, rfl⟩
  · rw [f_mark1 e]; exact i7
  · have zz : z = 0 ∨ z = 1 := by omega
    rcases zz with rfl | rfl
    · rw [f_mark2 (by omega)]
      refine ⟨i7.1, i7.2.1, i7.2.2.1, fun j hj w => ?_, i7.2.2.2.2⟩
      show sI C (D + 1) (if j = m then s else M.2.1 j) ∧ (if j = m then x else M.2.2 j) ≤ 8
      by_cases e : j = m
      · rw [if_pos e, if_pos e]; exact ⟨i7.2.1, i7.2.2.2.2⟩
      · have w : (if j = m then true else M.1 j) = true := w
        rw [if_neg e] at w
        rw [if_neg e, if_neg e]
        exact i7.2.2.2.1 j hj w
    · by_cases e : M.1 m = true
      · rw [f_mark4 (by omega) e]
        exact ⟨i7.1, (i7.2.2.2.1 m (by omega) e).1, fun j hj => absurd hj (Nat.not_lt_zero j), i7.2.2.2.1, (i7.2.2.2.1 m (by omega) e).2⟩
      · rw [f_mark3 (by omega) (Bool.eq_false_iff.mpr e)]; exact i7
theorem day_rs (i : KI C D s H M x) (hD : D ≤ 4090) : d_230 C C s H = d_97 C s H ∧ d_230_s C C s H = d_97_s C s H := by
  have w : d_224 C (s.1 + Int32.ofInt 1) = Int32.ofInt 0 ∨ d_224 C (s.1 + Int32.ofInt 1) = Int32.ofInt 1 := d_224_01 C _
  obtain ⟨e1, e2⟩ := day_e (V := C) i.1 i.2.1 (by omega) (fun _ _ => rfl) w
  unfold d_97 d_97_s
  rw [d_68_e]
  exact ⟨e1, e2⟩
theorem m_97 (hI : iv_I h) (i : KI C D s H M x) (j : KC C s H M x h) : am_call am_cod 60 97 [.ref 0] h (KCf C (f_day C s H M x)) := by
  have hP := iv_P hI
  have hc := i.1
  have h6 := hc.1.1
  have h5 := hc.1.2
  have hx := i.2.2.2.2
  obtain ⟨c, c1, c2, c3, c4, c5, c6, c7, c8⟩ := j
  rcases c1 with rfl | rfl
  · refine am_call.up (d_97_K6 hP hc c3 c4 c2 c5 c6 c7 c8 (fun g1 p1 p2 p3 p4 p5 p6 p7 p8 p9 => ?_)) (by decide)
    exact ⟨rfl, 6, Or.inl rfl, p5, p3, p4, p6, p7, p8, p9⟩
  · refine am_call.up (d_97_K17 hP hc c3 c4 c2 c5 c6 c7 c8 (fun g1 p1 p2 p3 p4 p5 p6 p7 p8 p9 => ?_)) (by decide)
    exact ⟨rfl, 17, Or.inr rfl, p5, p3, p4, p6, p7, p8, p9⟩
theorem m_230 (hI : iv_I h) (i : KI C D s H M x) (hD : D ≤ 4090) (j : KR C s H M x h) : am_call am_cod 60 230 [.ref 154] h (KRf C (f_day C s H M x)) := by
  have hP := iv_P hI
  have hc := i.1
  have h6 := hc.1.1
  have h5 := hc.1.2
  have hx := i.2.2.2.2
  obtain ⟨r1, r2, r3, r4, r5, r6⟩ := j
  obtain ⟨e1, e2⟩ := day_rs i hD
  refine am_call.up (d_230_L hP hc r1 r2 r3 r4 r5 r6 (fun g1 p1 p2 p3 p4 p5 p6 p7 p8 => ?_)) (by decide)
  rw [e1]
  rw [e2] at p5
  exact ⟨rfl, p3, p4, p5, p6, p7, p8⟩
theorem m_109 (hI : iv_I h) (i : KI C D s H M x) (j : KC C s H M x h) (a : Int32) (b : Int32) : am_call am_cod 60 109 [.ref 0, .int a, .int b] h (KCf C (f_lot C s H M x a b)) := by
  have hP := iv_P hI
  have hc := i.1
  have h6 := hc.1.1
  have h5 := hc.1.2
  have hx := i.2.2.2.2
  obtain ⟨c, c1, c2, c3, c4, c5, c6, c7, c8⟩ := j
  rcases c_87 h6 a with e | ⟨p, hp, rfl⟩
  · rcases c1 with rfl | rfl
    · refine am_call.up (d_109_xK6 hP hc c3 c4 c2 c5 c6 c7 c8 e (fun g1 p1 p2 p3 p4 p5 p6 p7 p8 p9 => ?_)) (by decide)
      rw [f_lot1 e]
      exact ⟨rfl, 6, Or.inl rfl, p5, p3, p4, p6, p7, p8, p9⟩
    · refine am_call.up (d_109_xK17 hP hc c3 c4 c2 c5 c6 c7 c8 e (fun g1 p1 p2 p3 p4 p5 p6 p7 p8 p9 => ?_)) (by decide)
      rw [f_lot1 e]
      exact ⟨rfl, 17, Or.inr rfl, p5, p3, p4, p6, p7, p8, p9⟩
  · rcases c_60 (lo := 0) (hi := 4) (by decide) (by decide) b with e | ⟨l, -, hl, rfl⟩
    · rcases c1 with rfl | rfl
      · refine am_call.up (d_109_yK6 hP hc c3 c4 c2 c5 c6 c7 c8 hp e (fun g1 p1 p2 p3 p4 p5 p6 p7 p8 p9 => ?_)) (by decide)
        rw [f_lot2 hp h6 e]
        exact ⟨rfl, 6, Or.inl rfl, p5, p3, p4, p6, p7, p8, p9⟩
      · refine am_call.up (d_109_yK17 hP hc c3 c4 c2 c5 c6 c7 c8 hp e (fun g1 p1 p2 p3 p4 p5 p6 p7 p8 p9 => ?_)) (by decide)
        rw [f_lot2 hp h6 e]
        exact ⟨rfl, 17, Or.inr rfl, p5, p3, p4, p6, p7, p8, p9⟩
    · rcases c1 with rfl | rfl
      · refine am_call.up (d_109_K6 hP hc c3 c4 c2 c5 c6 c7 c8 hp (by omega) (fun g1 p1 p2 p3 p4 p5 p6 p7 p8 p9 => ?_)) (by decide)
        rw [f_lot3 hp h6 (show l < 5 by omega)]
        exact ⟨rfl, 6, Or.inl rfl, p5, p3, p4, p6, p7, p8, p9⟩
      · refine am_call.up (d_109_K17 hP hc c3 c4 c2 c5 c6 c7 c8 hp (by omega) (fun g1 p1 p2 p3 p4 p5 p6 p7 p8 p9 => ?_)) (by decide)
        rw [f_lot3 hp h6 (show l < 5 by omega)]
        exact ⟨rfl, 17, Or.inr rfl, p5, p3, p4, p6, p7, p8, p9⟩
theorem m_110 (hI : iv_I h) (i : KI C D s H M x) (j : KC C s H M x h) (a : Int32) : am_call am_cod 60 110 [.ref 0, .int a] h (KCf C (f_ask C s H M x a)) := by
  have hP := iv_P hI
  have hc := i.1
  have h6 := hc.1.1
  have h5 := hc.1.2
  have hx := i.2.2.2.2
  obtain ⟨c, c1, c2, c3, c4, c5, c6, c7, c8⟩ := j
  rcases c_87 h6 a with e | ⟨p, hp, rfl⟩
  · rcases c1 with rfl | rfl
    · refine am_call.up (d_110_xK6 hP hc c3 c4 c2 c5 c6 c7 c8 e (fun g1 p1 p2 p3 p4 p5 p6 p7 p8 p9 => ?_)) (by decide)
      rw [f_ask1 e]
      exact ⟨rfl, 6, Or.inl rfl, p5, p3, p4, p6, p7, p8, p9⟩
    · refine am_call.up (d_110_xK17 hP hc c3 c4 c2 c5 c6 c7 c8 e (fun g1 p1 p2 p3 p4 p5 p6 p7 p8 p9 => ?_)) (by decide)
      rw [f_ask1 e]
      exact ⟨rfl, 17, Or.inr rfl, p5, p3, p4, p6, p7, p8, p9⟩
  · rcases c1 with rfl | rfl
    · refine am_call.up (d_110_K6 hP hc c3 c4 c2 c5 c6 c7 c8 hp (fun g1 p1 p2 p3 p4 p5 p6 p7 p8 p9 => ?_)) (by decide)
      rw [f_ask2 hp h6]
      exact ⟨rfl, 6, Or.inl rfl, p5, p3, p4, p6, p7, p8, p9⟩
    · refine am_call.up (d_110_K17 hP hc c3 c4 c2 c5 c6 c7 c8 hp (fun g1 p1 p2 p3 p4 p5 p6 p7 p8 p9 => ?_)) (by decide)
      rw [f_ask2 hp h6]
      exact ⟨rfl, 17, Or.inr rfl, p5, p3, p4, p6, p7, p8, p9⟩
theorem m_112 (hI : iv_I h) (i : KI C D s H M x) (j : KC C s H M x h) : am_call am_cod 60 112 [.ref 0] h (KCf C (f_undo s H M x)) := by
  have hP := iv_P hI
  have hc := i.1
  have h6 := hc.1.1
  have h5 := hc.1.2
  have hx := i.2.2.2.2
  obtain ⟨c, c1, c2, c3, c4, c5, c6, c7, c8⟩ := j
  by_cases e : H.1 = 0
  · rcases c1 with rfl | rfl
    · refine am_call.up (d_112_zK6 hP hc c3 c4 c2 c5 c6 c7 c8 e (fun g1 p1 p2 p3 p4 p5 p6 p7 p8 p9 => ?_)) (by decide)
      rw [f_undo1 e]
      exact ⟨rfl, 6, Or.inl rfl, p5, p3, p4, p6, p7, p8, p9⟩
    · refine am_call.up (d_112_zK17 hP hc c3 c4 c2 c5 c6 c7 c8 e (fun g1 p1 p2 p3 p4 p5 p6 p7 p8 p9 => ?_)) (by decide)
      rw [f_undo1 e]
      exact ⟨rfl, 17, Or.inr rfl, p5, p3, p4, p6, p7, p8, p9⟩
  · rcases c1 with rfl | rfl
    · refine am_call.up (d_112_K6 hP hc c3 c4 c2 c5 c6 c7 c8 (by omega) (fun g1 p1 p2 p3 p4 p5 p6 p7 p8 p9 => ?_)) (by decide)
      rw [f_undo2 (show 0 < H.1 by omega)]
      exact ⟨rfl, 6, Or.inl rfl, p5, p3, p4, p6, p7, p8, p9⟩
    · refine am_call.up (d_112_K17 hP hc c3 c4 c2 c5 c6 c7 c8 (by omega) (fun g1 p1 p2 p3 p4 p5 p6 p7 p8 p9 => ?_)) (by decide)
      rw [f_undo2 (show 0 < H.1 by omega)]
      exact ⟨rfl, 17, Or.inr rfl, p5, p3, p4, p6, p7, p8, p9⟩
theorem m_148 (hI : iv_I h) (i : KI C D s H M x) (j : KC C s H M x h) (a : Int32) (b : Int32) (w : Int32) : am_call am_cod 60 148 [.ref 0, .int a, .int b, .int w] h (KCf C (f_see C s H M x a b)) := by
  have hP := iv_P hI
  have hc := i.1
  have h6 := hc.1.1
  have h5 := hc.1.2
  have hx := i.2.2.2.2
  obtain ⟨c, c1, c2, c3, c4, c5, c6, c7, c8⟩ := j
  rcases c_93 h5 a with e | ⟨p, hp, rfl⟩
  · rcases c1 with rfl | rfl
    · refine am_call.up (d_148_xK6 hP hc c3 c4 c2 c5 c6 c7 c8 e (fun g1 p1 p2 p3 p4 p5 p6 p7 p8 p9 => ?_)) (by decide)
      rw [f_see1 e]
      exact ⟨rfl, 6, Or.inl rfl, p5, p3, p4, p6, p7, p8, p9⟩
    · refine am_call.up (d_148_xK17 hP hc c3 c4 c2 c5 c6 c7 c8 e (fun g1 p1 p2 p3 p4 p5 p6 p7 p8 p9 => ?_)) (by decide)
      rw [f_see1 e]
      exact ⟨rfl, 17, Or.inr rfl, p5, p3, p4, p6, p7, p8, p9⟩
  · rcases c_60b b with e | ⟨l, h1, h2, rfl⟩
    · rcases c1 with rfl | rfl
      · refine am_call.up (d_148_yK6 hP hc c3 c4 c2 c5 c6 c7 c8 hp e (fun g1 p1 p2 p3 p4 p5 p6 p7 p8 p9 => ?_)) (by decide)
        rw [f_see2 hp h5 e]
        exact ⟨rfl, 6, Or.inl rfl, p5, p3, p4, p6, p7, p8, p9⟩
      · refine am_call.up (d_148_yK17 hP hc c3 c4 c2 c5 c6 c7 c8 hp e (fun g1 p1 p2 p3 p4 p5 p6 p7 p8 p9 => ?_)) (by decide)
        rw [f_see2 hp h5 e]
        exact ⟨rfl, 17, Or.inr rfl, p5, p3, p4, p6, p7, p8, p9⟩
    · by_cases e : x = 8
      · rcases c1 with rfl | rfl
        · refine am_call.up (d_148_zK6 hP hc c3 c4 c2 c5 c6 c7 c8 hp h1 h2 e (fun g1 p1 p2 p3 p4 p5 p6 p7 p8 p9 => ?_)) (by decide)
          rw [f_see3 hp h5 h1 h2 e]
          exact ⟨rfl, 6, Or.inl rfl, p5, p3, p4, p6, p7, p8, p9⟩
        · refine am_call.up (d_148_zK17 hP hc c3 c4 c2 c5 c6 c7 c8 hp h1 h2 e (fun g1 p1 p2 p3 p4 p5 p6 p7 p8 p9 => ?_)) (by decide)
          rw [f_see3 hp h5 h1 h2 e]
          exact ⟨rfl, 17, Or.inr rfl, p5, p3, p4, p6, p7, p8, p9⟩
      · rcases c1 with rfl | rfl
        · refine am_call.up (d_148_K6 hP hc c3 c4 c2 c5 c6 c7 c8 hp h1 h2 (by omega) (fun g1 p1 p2 p3 p4 p5 p6 p7 p8 p9 => ?_)) (by decide)
          rw [f_see4 hp h5 h1 h2 (show x < 8 by omega)]
          exact ⟨rfl, 6, Or.inl rfl, p5, p3, p4, p6, p7, p8, p9⟩
        · refine am_call.up (d_148_K17 hP hc c3 c4 c2 c5 c6 c7 c8 hp h1 h2 (by omega) (fun g1 p1 p2 p3 p4 p5 p6 p7 p8 p9 => ?_)) (by decide)
          rw [f_see4 hp h5 h1 h2 (show x < 8 by omega)]
          exact ⟨rfl, 17, Or.inr rfl, p5, p3, p4, p6, p7, p8, p9⟩
theorem m_239 (hI : iv_I h) (i : KI C D s H M x) (j : KR C s H M x h) (a : Int32) (b : Int32) : am_call am_cod 60 239 [.ref 154, .int a, .int b] h (KRf C (f_lot C s H M x a b)) := by
  have hP := iv_P hI
  have hc := i.1
  have h6 := hc.1.1
  have h5 := hc.1.2
  have hx := i.2.2.2.2
  obtain ⟨r1, r2, r3, r4, r5, r6⟩ := j
  rcases c_87 h6 a with e | ⟨p, hp, rfl⟩
  · refine am_call.up (d_239_xL hP hc r1 r2 r3 r4 r5 r6 e (fun g1 p1 p2 p3 p4 p5 p6 p7 p8 => ?_)) (by decide)
    rw [f_lot1 e]
    exact ⟨rfl, p3, p4, p5, p6, p7, p8⟩
  · rcases c_60 (lo := 0) (hi := 4) (by decide) (by decide) b with e | ⟨l, -, hl, rfl⟩
    · refine am_call.up (d_239_yL hP hc r1 r2 r3 r4 r5 r6 hp e (fun g1 p1 p2 p3 p4 p5 p6 p7 p8 => ?_)) (by decide)
      rw [f_lot2 hp h6 e]
      exact ⟨rfl, p3, p4, p5, p6, p7, p8⟩
    · refine am_call.up (d_239_L hP hc r1 r2 r3 r4 r5 r6 hp (by omega) (fun g1 p1 p2 p3 p4 p5 p6 p7 p8 => ?_)) (by decide)
      rw [f_lot3 hp h6 (show l < 5 by omega)]
      exact ⟨rfl, p3, p4, p5, p6, p7, p8⟩
theorem m_240 (hI : iv_I h) (i : KI C D s H M x) (j : KR C s H M x h) (a : Int32) : am_call am_cod 60 240 [.ref 154, .int a] h (KRf C (f_ask C s H M x a)) := by
  have hP := iv_P hI
  have hc := i.1
  have h6 := hc.1.1
  have h5 := hc.1.2
  have hx := i.2.2.2.2
  obtain ⟨r1, r2, r3, r4, r5, r6⟩ := j
  rcases c_87 h6 a with e | ⟨p, hp, rfl⟩
  · refine am_call.up (d_240_xL hP hc r1 r2 r3 r4 r5 r6 e (fun g1 p1 p2 p3 p4 p5 p6 p7 p8 => ?_)) (by decide)
    rw [f_ask1 e]
    exact ⟨rfl, p3, p4, p5, p6, p7, p8⟩
  · refine am_call.up (d_240_L hP hc r1 r2 r3 r4 r5 r6 hp (fun g1 p1 p2 p3 p4 p5 p6 p7 p8 => ?_)) (by decide)
    rw [f_ask2 hp h6]
    exact ⟨rfl, p3, p4, p5, p6, p7, p8⟩
theorem m_242 (hI : iv_I h) (i : KI C D s H M x) (j : KR C s H M x h) : am_call am_cod 60 242 [.ref 154] h (KRf C (f_undo s H M x)) := by
  have hP := iv_P hI
  have hc := i.1
  have h6 := hc.1.1
  have h5 := hc.1.2
  have hx := i.2.2.2.2
  obtain ⟨r1, r2, r3, r4, r5, r6⟩ := j
  by_cases e : H.1 = 0
  · refine am_call.up (d_242_zL hP hc r1 r2 r3 r4 r5 r6 e (fun g1 p1 p2 p3 p4 p5 p6 p7 p8 => ?_)) (by decide)
    rw [f_undo1 e]
    exact ⟨rfl, p3, p4, p5, p6, p7, p8⟩
  · refine am_call.up (d_242_L hP hc r1 r2 r3 r4 r5 r6 (by omega) (fun g1 p1 p2 p3 p4 p5 p6 p7 p8 => ?_)) (by decide)
    rw [f_undo2 (show 0 < H.1 by omega)]
    exact ⟨rfl, p3, p4, p5, p6, p7, p8⟩
theorem m_266 (hI : iv_I h) (i : KI C D s H M x) (j : KR C s H M x h) (a : Int32) (b : Int32) (w : Int32) : am_call am_cod 60 266 [.ref 154, .int a, .int b, .int w] h (KRf C (f_see C s H M x a b)) := by
  have hP := iv_P hI
  have hc := i.1
  have h6 := hc.1.1
  have h5 := hc.1.2
  have hx := i.2.2.2.2
  obtain ⟨r1, r2, r3, r4, r5, r6⟩ := j
  rcases c_93 h5 a with e | ⟨p, hp, rfl⟩
  · refine am_call.up (d_266_xL hP hc r1 r2 r3 r4 r5 r6 e (fun g1 p1 p2 p3 p4 p5 p6 p7 p8 => ?_)) (by decide)
    rw [f_see1 e]
    exact ⟨rfl, p3, p4, p5, p6, p7, p8⟩
  · rcases c_60b b with e | ⟨l, h1, h2, rfl⟩
    · refine am_call.up (d_266_yL hP hc r1 r2 r3 r4 r5 r6 hp e (fun g1 p1 p2 p3 p4 p5 p6 p7 p8 => ?_)) (by decide)
      rw [f_see2 hp h5 e]
      exact ⟨rfl, p3, p4, p5, p6, p7, p8⟩
    · by_cases e : x = 8
      · refine am_call.up (d_266_zL hP hc r1 r2 r3 r4 r5 r6 hp h1 h2 e (fun g1 p1 p2 p3 p4 p5 p6 p7 p8 => ?_)) (by decide)
        rw [f_see3 hp h5 h1 h2 e]
        exact ⟨rfl, p3, p4, p5, p6, p7, p8⟩
      · refine am_call.up (d_266_L hP hc r1 r2 r3 r4 r5 r6 hp h1 h2 (by omega) (fun g1 p1 p2 p3 p4 p5 p6 p7 p8 => ?_)) (by decide)
        rw [f_see4 hp h5 h1 h2 (show x < 8 by omega)]
        exact ⟨rfl, p3, p4, p5, p6, p7, p8⟩
theorem m_114 (hI : iv_I h) (i : KI C D s H M x) (j : KC C s H M x h) (a : Int32) {z : Int} (hz : 0 ≤ z ∧ z ≤ 1) : am_call am_cod 60 114 [.ref 0, .int a, .int (Int32.ofInt z)] h (KCf C (f_mark s H M x a z)) := by
  have hP := iv_P hI
  have hc := i.1
  have h6 := hc.1.1
  have h5 := hc.1.2
  have hx := i.2.2.2.2
  obtain ⟨c, c1, c2, c3, c4, c5, c6, c7, c8⟩ := j
  rcases c_60 (lo := 0) (hi := 3) (by decide) (by decide) a with e | ⟨m, -, hm, rfl⟩
  · rcases c1 with rfl | rfl
    · refine am_call.up (d_114_xK6 hP hc c3 c4 c2 c5 c6 c7 c8 e (fun g1 p1 p2 p3 p4 p5 p6 p7 p8 p9 => ?_)) (by decide)
      rw [f_mark1 e]
      exact ⟨rfl, 6, Or.inl rfl, p5, p3, p4, p6, p7, p8, p9⟩
    · refine am_call.up (d_114_xK17 hP hc c3 c4 c2 c5 c6 c7 c8 e (fun g1 p1 p2 p3 p4 p5 p6 p7 p8 p9 => ?_)) (by decide)
      rw [f_mark1 e]
      exact ⟨rfl, 17, Or.inr rfl, p5, p3, p4, p6, p7, p8, p9⟩
  · have zz : z = 0 ∨ z = 1 := by omega
    have mm : m = 0 ∨ m = 1 ∨ m = 2 ∨ m = 3 := by omega
    rcases mm with rfl | rfl | rfl | rfl
    · rcases zz with rfl | rfl
      · rcases c1 with rfl | rfl
        · refine am_call.up (d_114_lK6_0 hP hc c3 c4 c2 c5 c6 c7 c8 (fun g1 p1 p2 p3 p4 p5 p6 p7 p8 p9 => ?_)) (by decide)
          rw [f_mark2 (m := 0) (by decide)]
          exact ⟨rfl, 6, Or.inl rfl, p5, p3, p4, p6, p7, p8, p9⟩
        · refine am_call.up (d_114_lK17_0 hP hc c3 c4 c2 c5 c6 c7 c8 (fun g1 p1 p2 p3 p4 p5 p6 p7 p8 p9 => ?_)) (by decide)
          rw [f_mark2 (m := 0) (by decide)]
          exact ⟨rfl, 17, Or.inr rfl, p5, p3, p4, p6, p7, p8, p9⟩
      · by_cases e : M.1 0 = true
        · rcases c1 with rfl | rfl
          · refine am_call.up (d_114_bK6_0 hP hc c3 c4 c2 c5 c6 c7 c8 e (fun g1 p1 p2 p3 p4 p5 p6 p7 p8 p9 => ?_)) (by decide)
            rw [f_mark4 (m := 0) (by decide) e]
            exact ⟨rfl, 6, Or.inl rfl, p5, p3, p4, p6, p7, p8, p9⟩
          · refine am_call.up (d_114_bK17_0 hP hc c3 c4 c2 c5 c6 c7 c8 e (fun g1 p1 p2 p3 p4 p5 p6 p7 p8 p9 => ?_)) (by decide)
            rw [f_mark4 (m := 0) (by decide) e]
            exact ⟨rfl, 17, Or.inr rfl, p5, p3, p4, p6, p7, p8, p9⟩
        · have e := Bool.eq_false_iff.mpr e
          rcases c1 with rfl | rfl
          · refine am_call.up (d_114_nK6_0 hP hc c3 c4 c2 c5 c6 c7 c8 e (fun g1 p1 p2 p3 p4 p5 p6 p7 p8 p9 => ?_)) (by decide)
            rw [f_mark3 (m := 0) (by decide) e]
            exact ⟨rfl, 6, Or.inl rfl, p5, p3, p4, p6, p7, p8, p9⟩
          · refine am_call.up (d_114_nK17_0 hP hc c3 c4 c2 c5 c6 c7 c8 e (fun g1 p1 p2 p3 p4 p5 p6 p7 p8 p9 => ?_)) (by decide)
            rw [f_mark3 (m := 0) (by decide) e]
            exact ⟨rfl, 17, Or.inr rfl, p5, p3, p4, p6, p7, p8, p9⟩
    · rcases zz with rfl | rfl
      · rcases c1 with rfl | rfl
        · refine am_call.up (d_114_lK6_1 hP hc c3 c4 c2 c5 c6 c7 c8 (fun g1 p1 p2 p3 p4 p5 p6 p7 p8 p9 => ?_)) (by decide)
          rw [f_mark2 (m := 1) (by decide)]
          exact ⟨rfl, 6, Or.inl rfl, p5, p3, p4, p6, p7, p8, p9⟩
        · refine am_call.up (d_114_lK17_1 hP hc c3 c4 c2 c5 c6 c7 c8 (fun g1 p1 p2 p3 p4 p5 p6 p7 p8 p9 => ?_)) (by decide)
          rw [f_mark2 (m := 1) (by decide)]
          exact ⟨rfl, 17, Or.inr rfl, p5, p3, p4, p6, p7, p8, p9⟩
      · by_cases e : M.1 1 = true
        · rcases c1 with rfl | rfl
          · refine am_call.up (d_114_bK6_1 hP hc c3 c4 c2 c5 c6 c7 c8 e (fun g1 p1 p2 p3 p4 p5 p6 p7 p8 p9 => ?_)) (by decide)
            rw [f_mark4 (m := 1) (by decide) e]
            exact ⟨rfl, 6, Or.inl rfl, p5, p3, p4, p6, p7, p8, p9⟩
          · refine am_call.up (d_114_bK17_1 hP hc c3 c4 c2 c5 c6 c7 c8 e (fun g1 p1 p2 p3 p4 p5 p6 p7 p8 p9 => ?_)) (by decide)
            rw [f_mark4 (m := 1) (by decide) e]
            exact ⟨rfl, 17, Or.inr rfl, p5, p3, p4, p6, p7, p8, p9⟩
        · have e := Bool.eq_false_iff.mpr e
          rcases c1 with rfl | rfl
          · refine am_call.up (d_114_nK6_1 hP hc c3 c4 c2 c5 c6 c7 c8 e (fun g1 p1 p2 p3 p4 p5 p6 p7 p8 p9 => ?_)) (by decide)
            rw [f_mark3 (m := 1) (by decide) e]
            exact ⟨rfl, 6, Or.inl rfl, p5, p3, p4, p6, p7, p8, p9⟩
          · refine am_call.up (d_114_nK17_1 hP hc c3 c4 c2 c5 c6 c7 c8 e (fun g1 p1 p2 p3 p4 p5 p6 p7 p8 p9 => ?_)) (by decide)
            rw [f_mark3 (m := 1) (by decide) e]
            exact ⟨rfl, 17, Or.inr rfl, p5, p3, p4, p6, p7, p8, p9⟩
    · rcases zz with rfl | rfl
      · rcases c1 with rfl | rfl
        · refine am_call.up (d_114_lK6_2 hP hc c3 c4 c2 c5 c6 c7 c8 (fun g1 p1 p2 p3 p4 p5 p6 p7 p8 p9 => ?_)) (by decide)
          rw [f_mark2 (m := 2) (by decide)]
          exact ⟨rfl, 6, Or.inl rfl, p5, p3, p4, p6, p7, p8, p9⟩
        · refine am_call.up (d_114_lK17_2 hP hc c3 c4 c2 c5 c6 c7 c8 (fun g1 p1 p2 p3 p4 p5 p6 p7 p8 p9 => ?_)) (by decide)
          rw [f_mark2 (m := 2) (by decide)]
          exact ⟨rfl, 17, Or.inr rfl, p5, p3, p4, p6, p7, p8, p9⟩
      · by_cases e : M.1 2 = true
        · rcases c1 with rfl | rfl
          · refine am_call.up (d_114_bK6_2 hP hc c3 c4 c2 c5 c6 c7 c8 e (fun g1 p1 p2 p3 p4 p5 p6 p7 p8 p9 => ?_)) (by decide)
            rw [f_mark4 (m := 2) (by decide) e]
            exact ⟨rfl, 6, Or.inl rfl, p5, p3, p4, p6, p7, p8, p9⟩
          · refine am_call.up (d_114_bK17_2 hP hc c3 c4 c2 c5 c6 c7 c8 e (fun g1 p1 p2 p3 p4 p5 p6 p7 p8 p9 => ?_)) (by decide)
            rw [f_mark4 (m := 2) (by decide) e]
            exact ⟨rfl, 17, Or.inr rfl, p5, p3, p4, p6, p7, p8, p9⟩
        · have e := Bool.eq_false_iff.mpr e
          rcases c1 with rfl | rfl
          · refine am_call.up (d_114_nK6_2 hP hc c3 c4 c2 c5 c6 c7 c8 e (fun g1 p1 p2 p3 p4 p5 p6 p7 p8 p9 => ?_)) (by decide)
            rw [f_mark3 (m := 2) (by decide) e]
            exact ⟨rfl, 6, Or.inl rfl, p5, p3, p4, p6, p7, p8, p9⟩
          · refine am_call.up (d_114_nK17_2 hP hc c3 c4 c2 c5 c6 c7 c8 e (fun g1 p1 p2 p3 p4 p5 p6 p7 p8 p9 => ?_)) (by decide)
            rw [f_mark3 (m := 2) (by decide) e]
            exact ⟨rfl, 17, Or.inr rfl, p5, p3, p4, p6, p7, p8, p9⟩
    · rcases zz with rfl | rfl
      · rcases c1 with rfl | rfl
        · refine am_call.up (d_114_lK6_3 hP hc c3 c4 c2 c5 c6 c7 c8 (fun g1 p1 p2 p3 p4 p5 p6 p7 p8 p9 => ?_)) (by decide)
          rw [f_mark2 (m := 3) (by decide)]
          exact ⟨rfl, 6, Or.inl rfl, p5, p3, p4, p6, p7, p8, p9⟩
        · refine am_call.up (d_114_lK17_3 hP hc c3 c4 c2 c5 c6 c7 c8 (fun g1 p1 p2 p3 p4 p5 p6 p7 p8 p9 => ?_)) (by decide)
          rw [f_mark2 (m := 3) (by decide)]
          exact ⟨rfl, 17, Or.inr rfl, p5, p3, p4, p6, p7, p8, p9⟩
      · by_cases e : M.1 3 = true
        · rcases c1 with rfl | rfl
          · refine am_call.up (d_114_bK6_3 hP hc c3 c4 c2 c5 c6 c7 c8 e (fun g1 p1 p2 p3 p4 p5 p6 p7 p8 p9 => ?_)) (by decide)
            rw [f_mark4 (m := 3) (by decide) e]
            exact ⟨rfl, 6, Or.inl rfl, p5, p3, p4, p6, p7, p8, p9⟩
          · refine am_call.up (d_114_bK17_3 hP hc c3 c4 c2 c5 c6 c7 c8 e (fun g1 p1 p2 p3 p4 p5 p6 p7 p8 p9 => ?_)) (by decide)
            rw [f_mark4 (m := 3) (by decide) e]
            exact ⟨rfl, 17, Or.inr rfl, p5, p3, p4, p6, p7, p8, p9⟩
        · have e := Bool.eq_false_iff.mpr e
          rcases c1 with rfl | rfl
          · refine am_call.up (d_114_nK6_3 hP hc c3 c4 c2 c5 c6 c7 c8 e (fun g1 p1 p2 p3 p4 p5 p6 p7 p8 p9 => ?_)) (by decide)
            rw [f_mark3 (m := 3) (by decide) e]
            exact ⟨rfl, 6, Or.inl rfl, p5, p3, p4, p6, p7, p8, p9⟩
          · refine am_call.up (d_114_nK17_3 hP hc c3 c4 c2 c5 c6 c7 c8 e (fun g1 p1 p2 p3 p4 p5 p6 p7 p8 p9 => ?_)) (by decide)
            rw [f_mark3 (m := 3) (by decide) e]
            exact ⟨rfl, 17, Or.inr rfl, p5, p3, p4, p6, p7, p8, p9⟩
theorem m_291 (hI : iv_I h) (i : KI C D s H M x) (j : KR C s H M x h) (a : Int32) {z : Int} (hz : 0 ≤ z ∧ z ≤ 1) : am_call am_cod 60 291 [.ref 154, .int a, .int (Int32.ofInt z)] h (KRf C (f_mark s H M x a z)) := by
  have hP := iv_P hI
  have hc := i.1
  have h6 := hc.1.1
  have h5 := hc.1.2
  have hx := i.2.2.2.2
  obtain ⟨r1, r2, r3, r4, r5, r6⟩ := j
  rcases c_60 (lo := 0) (hi := 3) (by decide) (by decide) a with e | ⟨m, -, hm, rfl⟩
  · refine am_call.up (d_291_xL hP hc r1 r2 r3 r4 r5 r6 e (fun g1 p1 p2 p3 p4 p5 p6 p7 p8 => ?_)) (by decide)
    rw [f_mark1 e]
    exact ⟨rfl, p3, p4, p5, p6, p7, p8⟩
  · have zz : z = 0 ∨ z = 1 := by omega
    rcases zz with rfl | rfl
    · refine am_call.up (d_291_l hP hc r1 r2 r3 r4 r6 r5 (by omega) (fun g1 p1 p2 p3 p4 p5 p6 p7 p8 => ?_)) (by decide)
      rw [f_mark2 (m := m) (by omega)]
      exact ⟨rfl, p3, p4, p5, p6, p7, p8⟩
    · by_cases e : M.1 m = true
      · refine am_call.up (d_291_b hP hc r1 r2 r3 r4 r5 r6 (by omega) e (fun g1 p1 p2 p3 p4 p5 p6 p7 p8 => ?_)) (by decide)
        rw [f_mark4 (m := m) (by omega) e]
        exact ⟨rfl, p3, p4, p5, p6, p7, p8⟩
      · have e := Bool.eq_false_iff.mpr e
        refine am_call.up (d_291_n hP hc r1 r2 r3 r4 r5 r6 (by omega) e (fun g1 p1 p2 p3 p4 p5 p6 p7 p8 => ?_)) (by decide)
        rw [f_mark3 (m := m) (by omega) e]
        exact ⟨rfl, p3, p4, p5, p6, p7, p8⟩
