/-! THE WEEK IN THE WHOLE RELATION -/
/-- a week's lines are well formed -/
def wI (C : sp_C) (W : sw_W) : Prop := ∀ i, i < W.1 → (∃ a, a < 3 ∧ W.2.1 i = nI a ∧ (a = 0 ∨ ∃ p, p < dP C ∧ W.2.2.1 i = nI p)) ∧ ∃ l, l < 5 ∧ W.2.2.2 i = nI l
theorem wI_0 {C : sp_C} : wI C sw_W0 := fun i hi => absurd hi (Nat.not_lt_zero i)
theorem wI_ad {C : sp_C} {W : sw_W} {a : Nat} {k p l : Int32} (hW : wI C W) (ha : a < 3) (hk : k = nI a) (hp : a = 0 ∨ ∃ q, q < dP C ∧ p = nI q) (hl : ∃ q, q < 5 ∧ l = nI q) : wI C (sw_ad W k p l) := fun i hi => by
  have hi : i < W.1 + 1 := hi
  show (∃ a, a < 3 ∧ (if i = W.1 then k else W.2.1 i) = nI a ∧ (a = 0 ∨ ∃ q, q < dP C ∧ (if i = W.1 then p else W.2.2.1 i) = nI q)) ∧ ∃ q, q < 5 ∧ (if i = W.1 then l else W.2.2.2 i) = nI q
  by_cases e : i = W.1
  · rw [if_pos e, if_pos e, if_pos e]
    exact ⟨⟨a, ha, hk, hp⟩, hl⟩
  · rw [if_neg e, if_neg e, if_neg e]
    exact hW i (by omega)
theorem wI_end {C : sp_C} {τ : sp_T} {W : sw_W} {b : Nat} {k p l : Int32} {a : Nat} {t : sw_S} (hW : wI C W) (ha : a < 3) (hk : k = nI a) (hp : a = 0 ∨ ∃ q, q < dP C ∧ p = nI q) (hl : ∃ q, q < 5 ∧ l = nI q) (e : sw_end τ W k p l b = .inr t) : wI C t.2 := by
  unfold sw_end at e
  cases e1 : sp_s τ b (Int8.ofInt 59).toInt32 with
  | true =>
    rw [e1] at e
    cases e
    exact wI_ad hW ha hk hp hl
  | false =>
    rw [e1] at e
    cases e
theorem wI_pn {C : sp_C} {τ : sp_T} {a p : Nat} (e : sw_pn τ (C.1.1, C.1.2.1) a = .inr p) : p < dP C := by
  unfold sw_pn at e
  cases e1 : sp_n τ a with
  | false =>
    rw [e1] at e
    cases e
  | true =>
    rw [e1] at e
    dsimp only [cond_true] at e
    cases e2 : sp_fd C.1.2.1 (τ a).2.1 C.1.1 0 with
    | none =>
      rw [e2] at e
      cases e
    | some q =>
      rw [e2] at e
      cases e
      have := fd_lt _ _ _ e2
      show p < C.1.1
      omega
theorem wI_lt {τ : sp_T} {a : Nat} {v : Int32} (e : sw_lt τ a = .inr v) : ∃ q, q < 5 ∧ v = nI q := by
  unfold sw_lt at e
  cases e1 : sp_k τ a 2 with
  | false =>
    rw [e1] at e
    cases e
  | true =>
    rw [e1] at e
    dsimp only [cond_true] at e
    cases e2 : sp_in τ a (Int32.ofInt 0) (Int32.ofInt 4) with
    | false =>
      rw [e2] at e
      cases e
    | true =>
      rw [e2] at e
      cases e
      obtain ⟨l, l1, l2, l3⟩ := in_nat (lo := Int32.ofInt 0) (hi := Int32.ofInt 4) (m := 0) (n := 4) rfl rfl (by decide) (by decide) e2
      exact ⟨l, by omega, l3⟩
theorem wI_line {C : sp_C} {τ : sp_T} {s t : sw_S} (hW : wI C s.2) (e : sw_line τ (C.1.1, C.1.2.1) s = .inr t) : wI C t.2 := by
  unfold sw_line at e
  cases e1 : sw_act τ s.1 with
  | none =>
    rw [e1] at e
    cases e
  | some k =>
    have hk : ∃ a, a < 3 ∧ k = nI a ∧ (k = 0 ↔ a = 0) := by
      rcases sw_act_cs τ s.1 with w | ⟨w | w | w, -⟩
      · rw [e1] at w; cases w
      · rw [e1] at w; cases w; exact ⟨0, by decide, rfl, ⟨fun _ => rfl, fun _ => rfl⟩⟩
      · rw [e1] at w; cases w; exact ⟨1, by decide, rfl, by decide⟩
      · rw [e1] at w; cases w; exact ⟨2, by decide, rfl, by decide⟩
    obtain ⟨a, ha, ek, ez⟩ := hk
    rw [e1] at e
    dsimp only at e
    cases e2 : Nat.ble 40 s.2.1 with
    | true =>
      rw [e2] at e
      cases e
    | false =>
      rw [e2] at e
      dsimp only [cond_false] at e
      cases e3 : decide (k = 0) with
      | true =>
        rw [e3] at e
        exact wI_end hW ha ek (Or.inl (ez.mp (of_decide_eq_true e3))) ⟨0, by decide, rfl⟩ e
      | false =>
        rw [e3] at e
        dsimp only [cond_false] at e
        cases e4 : sw_pn τ (C.1.1, C.1.2.1) (s.1 + 1) with
        | inl F =>
          rw [e4] at e
          cases e
        | inr p =>
          have hp := wI_pn e4
          rw [e4] at e
          dsimp only at e
          cases e5 : decide (k = 1) with
          | true =>
            rw [e5] at e
            dsimp only [cond_true] at e
            cases e6 : sw_lt τ (s.1 + 1 + 1) with
            | inl F =>
              rw [e6] at e
              cases e
            | inr v =>
              rw [e6] at e
              exact wI_end hW ha ek (Or.inr ⟨p, hp, rfl⟩) (wI_lt e6) e
          | false =>
            rw [e5] at e
            exact wI_end hW ha ek (Or.inr ⟨p, hp, rfl⟩) ⟨0, by decide, rfl⟩ e
theorem wI_all {C : sp_C} {τ : sp_T} : ∀ (m : Nat) (s t : sw_S), wI C s.2 → sw_all τ (C.1.1, C.1.2.1) m s = .inr t → wI C t.2 := by
  intro m
  induction m with
  | zero =>
    intro s t hW e
    have e : Sum.inr s = Sum.inr t := e
    cases e
    exact hW
  | succ m ih =>
    intro s t hW e
    unfold sw_all at e
    cases e1 : sp_k τ s.1 0 with
    | true =>
      rw [e1] at e
      cases e
      exact hW
    | false =>
      rw [e1] at e
      dsimp only [cond_false] at e
      cases e2 : sw_line τ (C.1.1, C.1.2.1) s with
      | inl F =>
        rw [e2] at e
        cases e
      | inr q =>
        rw [e2] at e
        exact ih q t (wI_line hW e2) e
theorem wI_week {C : sp_C} {τ : sp_T} {t : sw_S} (e : sw_week τ (C.1.1, C.1.2.1) = .inr t) : wI C t.2 := wI_all 1001 (0, sw_W0) t wI_0 e
def wC (C : sp_C) (W : sw_W) (h : am_H) : Prop := (∃ c, (c = 6 ∨ c = 17) ∧ h.2.2.1 0 3 = some c ∧ cnm c (C.1.1, C.1.2.1) h) ∧ ∃ w, (w = 28 ∨ w = 32) ∧ h.2.2.1 0 5 = some w ∧ cww w W h
def wR (C : sp_C) (W : sw_W) (h : am_H) : Prop := rkN C h ∧ rkV W h
def kr_WC : ag_M := [(0, 3, 3), (0, 5, 5), (6, 0, 0), (7, 0, 5), (17, 0, 0), (18, 0, 5), (28, 3, 3), (29, 0, 39), (30, 0, 39), (31, 0, 39), (32, 3, 3), (33, 0, 39), (34, 0, 39), (35, 0, 39)]
def kr_WR : ag_M := [(154, 18, 18), (163, 0, 10), (165, 0, 10), (167, 0, 124)]
theorem wC_k {C : sp_C} {W : sw_W} {h h' : am_H} (j : wC C W h) (k : kr kr_WC h h') : wC C W h' := by
  obtain ⟨⟨c, c1, c2, d1, d2, d3⟩, w, w1, w2, e1, e2, e3⟩ := j
  have d2' : C.1.1 ≤ 6 := d2
  refine ⟨⟨c, c1, (k 0 3 (by decide +kernel)).2.2.trans c2, ?_, d2, fun i hi => ?_⟩, w, w1, (k 0 5 (by decide +kernel)).2.2.trans w2, ?_, e2, fun i hi => ?_⟩
  · rcases c1 with rfl | rfl
    · rw [(k 6 0 (by decide +kernel)).1]; exact d1
    · rw [(k 17 0 (by decide +kernel)).1]; exact d1
  · have hi : i < C.1.1 := hi
    rcases c1 with rfl | rfl
    · rw [(k 7 i (kr_at (a := 0) (b := 5) (by decide +kernel) (Nat.zero_le _) (by omega))).2.1]; exact d3 i hi
    · rw [(k 18 i (kr_at (a := 0) (b := 5) (by decide +kernel) (Nat.zero_le _) (by omega))).2.1]; exact d3 i hi
  · rcases w1 with rfl | rfl
    · rw [(k 28 3 (by decide +kernel)).1]; exact e1
    · rw [(k 32 3 (by decide +kernel)).1]; exact e1
  · rcases w1 with rfl | rfl
    · rw [(k 29 i (kr_at (a := 0) (b := 39) (by decide +kernel) (Nat.zero_le _) (by omega))).1, (k 30 i (kr_at (a := 0) (b := 39) (by decide +kernel) (Nat.zero_le _) (by omega))).1, (k 31 i (kr_at (a := 0) (b := 39) (by decide +kernel) (Nat.zero_le _) (by omega))).1]; exact e3 i hi
    · rw [(k 33 i (kr_at (a := 0) (b := 39) (by decide +kernel) (Nat.zero_le _) (by omega))).1, (k 34 i (kr_at (a := 0) (b := 39) (by decide +kernel) (Nat.zero_le _) (by omega))).1, (k 35 i (kr_at (a := 0) (b := 39) (by decide +kernel) (Nat.zero_le _) (by omega))).1]; exact e3 i hi
theorem rkV_e {W : sw_W} {h h' : am_H} (e : ∀ k, k < 125 → h'.1 167 k = h.1 167 k) (j : rkV W h) : rkV W h' := by
  obtain ⟨a, b, c⟩ := j
  refine ⟨(e 0 (by decide)).trans a, b, fun i hi => ?_⟩
  rw [e _ (by omega), e _ (by omega), e _ (by omega)]
  exact c i hi
theorem wR_k {C : sp_C} {W : sw_W} {h h' : am_H} (hC : dP C ≤ 6 ∧ dE C ≤ 5) (j : wR C W h) (k : kr kr_WR h h') : wR C W h' := by
  obtain ⟨⟨l1, l2, l3, l4, l5⟩, v⟩ := j
  obtain ⟨h6, h5⟩ := hC
  have h6 : C.1.1 ≤ 6 := h6
  have h5 : C.2.1.1 ≤ 5 := h5
  have e1 : ∀ q, q ≤ 10 → h'.1 165 q = h.1 165 q := fun q hq => (k 165 q (kr_at (a := 0) (b := 10) (by decide +kernel) (Nat.zero_le _) hq)).1
  have e2 : ∀ q, q ≤ 10 → h'.2.1 163 q = h.2.1 163 q := fun q hq => (k 163 q (kr_at (a := 0) (b := 10) (by decide +kernel) (Nat.zero_le _) hq)).2.1
  refine ⟨⟨(k 154 18 (by decide +kernel)).1.trans l1, fun q hq => ?_, fun i hi => ?_, fun i hi => ?_, fun a b ha hb e => l5 a b ha hb (by rw [← e2 a (by omega), ← e2 b (by omega)]; exact e)⟩, rkV_e (fun q hq => (k 167 q (kr_at (a := 0) (b := 124) (by decide +kernel) (Nat.zero_le _) (by omega))).1) v⟩
  · rw [e1 q (by omega), e2 q (by omega)]; exact l2 q hq
  · obtain ⟨q, h1, h2, h3⟩ := l3 i hi
    exact ⟨q, h1, by rw [e1 q (by omega)]; exact h2, by rw [e2 q (by omega)]; exact h3⟩
  · obtain ⟨q, h1, h2, h3⟩ := l4 i hi
    exact ⟨q, h1, by rw [e1 q (by omega)]; exact h2, by rw [e2 q (by omega)]; exact h3⟩
theorem c_c_nm {c : Nat} {C : sp_C} {h : am_H} (l : c_c c C h) : cnm c (C.1.1, C.1.2.1) h := ⟨l.1.1, l.1.2.1, fun i hi => (l.1.2.2 i hi).1⟩
theorem K_cn3 {D : Nat} {T : Nat → Int32} {sz : Nat} {h g g2 : am_H} {C : sp_C} {s : dS} {H : dH} {M : dMk} {x : Nat} (i : KI C D s H M x) (p : cnC T sz h g) (k : kr kr_14 h g) (r : cnR (tt T sz) g g2) (j1 : KC C s H M x h) (j2 : KR C s H M x h) : (∃ F, sp_canton (tt T sz) = .inl F ∧ KI C D s H M x ∧ KC C s H M x g2 ∧ KR C s H M x g2) ∨ ∃ s1, sp_canton (tt T sz) = .inr s1 ∧ ∃ s' H' M' x', KI s1.2 D s' H' M' x' ∧ KC s1.2 s' H' M' x' g2 ∧ KR s1.2 s' H' M' x' g2 := by
  have j2g := KR_k j2 (kr_sub (by decide +kernel) k)
  rcases p with ⟨F, e, c, d, hc, ht, e2, w⟩ | ⟨s1, e, c, hc, ht, l, b⟩
  · rcases r.2 with ⟨F', e', w'⟩ | ⟨s', e', w'⟩
    · obtain ⟨d', c1, c2, c3, c4, c5, c6, c7, c8⟩ := j1
      have eb : d' = d := Option.some.inj (c2.symm.trans ht)
      subst eb
      have w1 : ∀ a q, ¬ a = 1 → ¬ (c ≤ a ∧ a ≤ c + 10) → g.1 a q = h.1 a q := fun a q n1 n2 => (w a q (by unfold c_in; omega)).1
      have jg : KC C s H M x g := ⟨d', c1, by rw [e2]; exact c2, c_v_q hc w c3, fun q hq => (w1 _ _ (by omega) (by omega)).trans (c4 q hq), sC_fr (fun a q u1 u2 => w1 a q (by omega) (by omega)) c5, hC_fr (fun a q u1 u2 => w1 a q (by omega) (by omega)) c6, mC_fr (fun a q u1 u2 => w1 a q (by omega) (by omega)) c7, (w1 _ _ (by omega) (by omega)).trans c8⟩
      exact Or.inl ⟨F, e, i, KC_k jg (kr_sub (by decide +kernel) r.1), KR_k j2g (kr_sub (by decide +kernel) w')⟩
    · rw [e] at e'
      cases e'
  · rcases r.2 with ⟨F', e', w'⟩ | ⟨s', e', w1, -, w3⟩
    · rw [e] at e'
      cases e'
    · rw [e] at e'
      cases e'
      obtain ⟨b1, b2, b3, ⟨ww, -, -, -⟩, ⟨b5, b6, -⟩, b8⟩ := b
      obtain ⟨-, -, -, -, -, -, ⟨-, -, q, hq, hq1, -⟩, -, -⟩ := j1
      obtain ⟨lv, ld⟩ := c_c_v l
      have hcI := cI_canton e
      have hf : ∀ p, p < dP s1.2 → g.1 37 p = dL s1.2 p := fun p hp => (b2 p (by have := hcI.1.1; omega)).1.trans (lv.1.2.2 p hp).2
      have jg : KC s1.2 (s00 (g.1 37)) (0, fun _ => s00 (g.1 37)) (fun _ => false, fun _ => s00 (g.1 37), fun _ => 0) 0 g := ⟨c, hc, ht, lv, ld, ⟨b1, fun i hi => ⟨rfl, (b2 i hi).2⟩, b3⟩, ⟨Nat.zero_le _, b5, q, hq, (kc (a := 1) (b := 1) (by decide +kernel) k (by decide) (by decide)).trans hq1, fun j hj => absurd hj (Nat.not_lt_zero j)⟩, fun m hm => ⟨b8 m hm, fun z => by cases z⟩, b6⟩
      obtain ⟨v1, v2, v3, v4, v5, v6⟩ := w3
      have h6 := hcI.1.1
      refine Or.inr ⟨s1, e, _, _, _, 0, ⟨hcI, sI_00 hcI hf, fun j hj => absurd hj (Nat.not_lt_zero j), fun m hm z => (by cases z), Nat.zero_le _⟩, KC_k jg (kr_sub (by decide +kernel) r.1), w1, v6, ⟨⟨?_, ?_⟩, fun i hi => ?_, fun i hi => ?_, fun i hi => ⟨?_, ?_⟩⟩, ⟨Nat.zero_le _, v4, fun j hj => absurd hj (Nat.not_lt_zero j)⟩, fun m hm => ⟨v5 m hm, fun z => by cases z⟩, v2⟩
      · rw [v1 _ (by omega), if_neg (by omega)]; rfl
      · rw [v1 _ (by omega), if_neg (by omega)]; rfl
      · have hi' : i < s1.2.1.1 := hi
        rw [v1 _ (by omega), if_pos (by omega)]
        show dL s1.2 (0 + 2 + i - 2) = g.1 37 i
        rw [show 0 + 2 + i - 2 = i by omega, hf i hi]
      · rw [v1 _ (by omega), if_neg (by have : s1.2.1.1 ≤ 6 := h6; omega)]; rfl
      · rw [v1 _ (by omega), if_neg (by have : s1.2.1.1 ≤ 6 := h6; omega)]; rfl
      · rw [v1 _ (by omega), if_neg (by have : s1.2.1.1 ≤ 6 := h6; omega)]; rfl
theorem K_s4 {ρ : Nat → Int32} {h : am_H} (hR : ae_R ρ 0 ae_H0 h) : KI sp_C0 0 (s00 (fun _ => 0)) (0, fun _ => s00 (fun _ => 0)) (fun _ => false, fun _ => s00 (fun _ => 0), fun _ => 0) 0 ∧ KC sp_C0 (s00 (fun _ => 0)) (0, fun _ => s00 (fun _ => 0)) (fun _ => false, fun _ => s00 (fun _ => 0), fun _ => 0) 0 h ∧ KR sp_C0 (s00 (fun _ => 0)) (0, fun _ => s00 (fun _ => 0)) (fun _ => false, fun _ => s00 (fun _ => 0), fun _ => 0) 0 h := by
  have z : ∀ o k, o < 175 → ¬ (o = 0 ∧ k = 13) → ¬ (o = 160 ∧ k = 3) → h.1 o k = 0 := fun o k h1 h2 h3 => by
    rcases iv_int (k := k) hR h1 with ⟨w, -, -⟩ | ⟨w1, w2, -⟩ | ⟨w1, w2, -⟩
    · exact w
    · exact absurd ⟨w1, w2⟩ h2
    · exact absurd ⟨w1, w2⟩ h3
  have y3 : h.1 160 3 = Int32.ofInt (-1) := by
    rcases iv_int (o := 160) (k := 3) hR (by decide) with ⟨-, -, w⟩ | ⟨w, -, -⟩ | ⟨-, -, w⟩
    · exact absurd ⟨rfl, rfl⟩ w
    · exact absurd w (by decide)
    · rw [w]; rfl
  have n : ∀ i, ¬ i < 0 := Nat.not_lt_zero
  have cv : c_v 6 sp_C0 h := ⟨⟨z 6 0 (by decide) (by decide) (by decide), by decide, fun i hi => absurd hi (n i)⟩, ⟨z 6 4 (by decide) (by decide) (by decide), by decide, fun i hi => absurd hi (n i)⟩, ⟨z 6 10 (by decide) (by decide) (by decide), fun _ => rfl, (by show sp_28 0; unfold sp_28; decide)⟩, z 14 2 (by decide) (by decide) (by decide), by decide, fun i hi => absurd hi (n i)⟩
  have ct : tR sp_C0 h := ⟨⟨z 160 0 (by decide) (by decide) (by decide), by decide, fun i hi => absurd hi (n i)⟩, ⟨z 160 1 (by decide) (by decide) (by decide), by decide, fun i hi => absurd hi (n i)⟩, fun p e hp he => (by
    rw [z 160 (6 + 3 * p) (by decide) (by omega) (by omega)]
    refine ⟨?_, by decide⟩
    have key : ∀ e, e < 5 → sp_bit 0 (nI e) = false := by decide +kernel
    rw [key e he]
    show false = (decide (e < 0) && _)
    rw [decide_eq_false (n e)]
    rfl), ⟨z 160 2 (by decide) (by decide) (by decide), fun _ => rfl, (by show sp_28 0; unfold sp_28; decide)⟩, by decide, fun j hj => absurd hj (n j), fun w => absurd w (by decide), fun _ => rfl, y3⟩
  refine ⟨⟨cI_0, sI_00 cI_0 (fun p hp => absurd hp (n p)), fun j hj => absurd hj (n j), fun m hm w => (by cases w), Nat.zero_le _⟩, ⟨6, Or.inl rfl, (iv_c0 hR).1, cv, fun i hi => absurd hi (n i), ⟨⟨z _ _ (by decide) (by decide) (by decide), z _ _ (by decide) (by decide) (by decide)⟩, fun i hi => ⟨z _ _ (by decide) (by omega) (by omega), z _ _ (by decide) (by omega) (by omega)⟩, fun i hi => ⟨z _ _ (by decide) (by omega) (by omega), z _ _ (by decide) (by omega) (by omega)⟩⟩, ⟨Nat.zero_le _, z _ _ (by decide) (by decide) (by decide), 0, by decide, z _ _ (by decide) (by decide) (by decide), fun j hj => absurd hj (n j)⟩, fun m hm => ⟨z _ _ (by omega) (by omega) (by omega), fun w => (by cases w)⟩, z _ _ (by decide) (by decide) (by decide)⟩, ct, fun e he => absurd he (n e), ⟨⟨z _ _ (by decide) (by decide) (by decide), z _ _ (by decide) (by decide) (by decide)⟩, fun i hi => absurd hi (n i), fun i hi => z _ _ (by decide) (by omega) (by omega), fun i hi => ⟨z _ _ (by decide) (by omega) (by omega), z _ _ (by decide) (by omega) (by omega)⟩⟩, ⟨Nat.zero_le _, z _ _ (by decide) (by decide) (by decide), fun j hj => absurd hj (n j)⟩, fun m hm => ⟨z _ _ (by decide) (by omega) (by omega), fun w => (by cases w)⟩, z _ _ (by decide) (by decide) (by decide)⟩
/-- what the cantons make of names and week -/
theorem W_cn {T : Nat → Int32} {sz : Nat} {h g g2 : am_H} {C : sp_C} {W : sw_W} (hC : dP C ≤ 6 ∧ dE C ≤ 5) (p : cnC T sz h g) (k : kr kr_14 h g) (r : cnR (tt T sz) g g2) (j1 : wC C W h) (j2 : wR C W h) : (∃ F, sp_canton (tt T sz) = .inl F ∧ wC C W g2 ∧ wR C W g2) ∨ ∃ s, sp_canton (tt T sz) = .inr s ∧ wC s.2 sw_W0 g2 ∧ wR s.2 sw_W0 g2 := by
  have j2g := wR_k hC j2 (kr_sub (by decide +kernel) k)
  rcases p with ⟨F, e, c, d, hc, ht, e2, w⟩ | ⟨s1, e, c, hc, ht, l, b⟩
  · rcases r.2 with ⟨F', e', w'⟩ | ⟨s', e', w'⟩
    · refine Or.inl ⟨F, e, wC_k ?_ (kr_sub (by decide +kernel) r.1), wR_k hC j2g (kr_sub (by decide +kernel) w')⟩
      obtain ⟨⟨c', c1, c2, d1, d2, d3⟩, v, v1, v2, f1, f2, f3⟩ := j1
      have eb : c' = d := Option.some.inj (c2.symm.trans ht)
      subst eb
      refine ⟨⟨c', c1, by rw [e2]; exact c2, (w c' 0 (by unfold c_in; omega)).1.trans d1, d2, fun i hi => ?_⟩, v, v1, by rw [e2]; exact v2, (w v 3 (by unfold c_in; omega)).1.trans f1, f2, fun i hi => ?_⟩
      · rw [(w (c' + 1) i (by unfold c_in; omega)).2]; exact d3 i hi
      · rw [(w (v + 1) i (by unfold c_in; omega)).1, (w (v + 2) i (by unfold c_in; omega)).1, (w (v + 3) i (by unfold c_in; omega)).1]; exact f3 i hi
    · rw [e] at e'
      cases e'
  · rcases r.2 with ⟨F', e', w'⟩ | ⟨s', e', w1, w2, w3⟩
    · rw [e] at e'
      cases e'
    · rw [e] at e'
      cases e'
      obtain ⟨b1, b2, b3, ⟨ww, q1, q2, q3⟩, -⟩ := b
      obtain ⟨v1, v2, v3, -⟩ := w3
      exact Or.inr ⟨s1, e, wC_k (W := sw_W0) ⟨⟨c, hc, ht, c_c_nm l⟩, ww, q1, q2, q3, Nat.zero_le _, fun i hi => absurd hi (Nat.not_lt_zero i)⟩ (kr_sub (by decide +kernel) r.1), w2, v3, Nat.zero_le _, fun i hi => absurd hi (Nat.not_lt_zero i)⟩
theorem K_cn4 {D : Nat} {T : Nat → Int32} {sz : Nat} {h g g2 : am_H} {C : sp_C} {s : dS} {H : dH} {M : dMk} {x : Nat} {W : sw_W} (i : KI C D s H M x) (p : cnC T sz h g) (k : kr kr_14 h g) (r : cnR (tt T sz) g g2) (j1 : KC C s H M x h) (j2 : KR C s H M x h) (v1 : wI C W) (v2 : wC C W h) (v3 : wR C W h) : ∃ C' s' H' M' x' W', KI C' D s' H' M' x' ∧ KC C' s' H' M' x' g2 ∧ KR C' s' H' M' x' g2 ∧ wI C' W' ∧ wC C' W' g2 ∧ wR C' W' g2 := by
  rcases W_cn i.1.1 p k r v2 v3 with ⟨F, e, w2, w3⟩ | ⟨t, e, w2, w3⟩
  · rcases K_cn3 i p k r j1 j2 with ⟨F', e', q1, q2, q3⟩ | ⟨t', e', -⟩
    · exact ⟨C, s, H, M, x, W, q1, q2, q3, v1, w2, w3⟩
    · rw [e] at e'
      cases e'
  · rcases K_cn3 i p k r j1 j2 with ⟨F', e', -⟩ | ⟨t', e', s', H', M', x', q1, q2, q3⟩
    · rw [e] at e'
      cases e'
    · rw [e] at e'
      cases e'
      exact ⟨t.2, s', H', M', x', sw_W0, q1, q2, q3, wI_0, w2, w3⟩
theorem W_s {ρ : Nat → Int32} {h : am_H} (hR : ae_R ρ 0 ae_H0 h) : wC sp_C0 sw_W0 h ∧ wR sp_C0 sw_W0 h := by
  have z : ∀ o k, o < 175 → ¬ o = 0 → ¬ o = 160 → h.1 o k = 0 := fun o k h1 h2 h3 => by
    rcases iv_int (k := k) hR h1 with ⟨w, -, -⟩ | ⟨w, -, -⟩ | ⟨w, -, -⟩
    · exact w
    · exact absurd w h2
    · exact absurd w h3
  have n : ∀ i, ¬ i < 0 := Nat.not_lt_zero
  exact ⟨⟨⟨6, Or.inl rfl, (iv_c0 hR).1, z 6 0 (by decide) (by decide) (by decide), by decide, fun i hi => absurd hi (n i)⟩, 28, Or.inl rfl, (iv_c0 hR).2.2.1, z 28 3 (by decide) (by decide) (by decide), by decide, fun i hi => absurd hi (n i)⟩, ⟨z 154 18 (by decide) (by decide) (by decide), fun q hq => absurd hq (n q), fun q hq => absurd hq (n q), fun q hq => absurd hq (n q), fun a b ha => absurd ha (n a)⟩, z 167 0 (by decide) (by decide) (by decide), by decide, fun i hi => absurd hi (n i)⟩
theorem wC_f {C : sp_C} {W : sw_W} {h h1 : am_H} {sp tw : Nat} {v : Int32} (hs : (sp = 28 ∧ tw = 32) ∨ (sp = 32 ∧ tw = 28)) (ht : h.2.2.1 0 5 = some tw) (q : cwq sp h h1) (j : wC C W h) : wC C W (am_wI h1 1 1 v) := by
  obtain ⟨⟨c, c1, c2, d1, d2, d3⟩, w, w1, w2, e1, e2, e3⟩ := j
  have ew : w = tw := Option.some.inj (w2.symm.trans ht)
  subst ew
  have k1 : ∀ o k, ¬ (o = 1 ∨ (sp ≤ o ∧ o ≤ sp + 3)) → (am_wI h1 1 1 v).1 o k = h.1 o k := fun o k hn => (em_wn _ _ (by omega)).trans (q.2 o k hn).1
  refine ⟨⟨c, c1, by show h1.2.2.1 0 3 = _; rw [q.1]; exact c2, (k1 c 0 (by omega)).trans d1, d2, fun i hi => ?_⟩, w, w1, by show h1.2.2.1 0 5 = _; rw [q.1]; exact w2, (k1 w 3 (by omega)).trans e1, e2, fun i hi => ?_⟩
  · show cwk _ (h1.2.1 (c + 1) i)
    rw [(q.2 (c + 1) i (by omega)).2]
    exact d3 i hi
  · rw [k1 _ _ (by omega), k1 _ _ (by omega), k1 _ _ (by omega)]
    exact e3 i hi
theorem wC_s {C : sp_C} {T : Nat → Int32} {sz : Nat} {t : sw_S} {h h1 : am_H} {sp tw c : Nat} {v : Int32} (hc : c = 6 ∨ c = 17) (hs : (sp = 28 ∧ tw = 32) ∨ (sp = 32 ∧ tw = 28)) (ht : h.2.2.1 0 3 = some c) (q : cwr h sp c (C.1.1, C.1.2.1) T sz t h1) : wC C t.2 (am_wR (am_wR (am_wI h1 1 1 v) 0 6 (some tw)) 0 5 (some sp)) := by
  obtain ⟨-, ⟨e1, e2, e3⟩, q, d1, d2, d3⟩ := q
  have k1 : ∀ o k, ¬ o = 1 → (am_wR (am_wR (am_wI h1 1 1 v) 0 6 (some tw)) 0 5 (some sp)).1 o k = h1.1 o k := fun o k hn => em_wn _ _ (by omega)
  refine ⟨⟨c, hc, ?_, (k1 c 0 (by omega)).trans d1, d2, d3⟩, sp, by omega, rfl, (k1 _ _ (by omega)).trans e1, e2, fun i hi => ?_⟩
  · show (if (0 : Nat) = 0 ∧ (3 : Nat) = 5 then some sp else (if (0 : Nat) = 0 ∧ (3 : Nat) = 6 then some tw else h1.2.2.1 0 3)) = some c
    rw [if_neg (by omega), if_neg (by omega), q.1]
    exact ht
  · rw [k1 _ _ (by omega), k1 _ _ (by omega), k1 _ _ (by omega)]
    exact e3 i hi
/-- week of the class -/
theorem c_80w {h : am_H} {sz : Nat} {T : Nat → Int32} {C : sp_C} {W : sw_W} (hI : iv_I h) (hz : sz ≤ 1000) (hch : ∀ q, q < sz → 0 ≤ (T q).toInt ∧ (T q).toInt ≤ 126) (l1 : h.1 1 1 = nI sz) (l2 : ∀ q, q < sz → h.1 2 q = T q) (j : wC C W h) : am_call am_cod 60 80 [.ref 0] h (fun _ g => (∃ F, sw_week (tt T sz) (C.1.1, C.1.2.1) = .inl F ∧ wC C W g) ∨ ∃ t, sw_week (tt T sz) (C.1.1, C.1.2.1) = .inr t ∧ wC C t.2 g) := by
  obtain ⟨N, hN, hW, hX, ha, hc⟩ := hI
  have hP : ex_P h := ex_G hW.1 hW.2.1
  obtain ⟨d, d1, d2, d3⟩ := j.1
  rcases hc with (c | c) | (c | c)
  · have ed : d = 6 := Option.some.inj (d2.symm.trans c.1)
    subst ed
    exact am_call.up (c_80_32_6 c.2.2.2 c.2.2.1 c.1 hP hz hch l1 l2 d3 (fun F h1 e x => Or.inl ⟨F, e, wC_f (sp := 32) (tw := 28) (by decide) c.2.2.1 x.2.2 j⟩) (fun t h1 e x => Or.inr ⟨t, e, wC_s (c := 6) (sp := 32) (tw := 28) (by decide) (by decide) c.1 x⟩)) (by decide)
  · have ed : d = 6 := Option.some.inj (d2.symm.trans c.1)
    subst ed
    exact am_call.up (c_80_28_6 c.2.2.2 c.2.2.1 c.1 hP hz hch l1 l2 d3 (fun F h1 e x => Or.inl ⟨F, e, wC_f (sp := 28) (tw := 32) (by decide) c.2.2.1 x.2.2 j⟩) (fun t h1 e x => Or.inr ⟨t, e, wC_s (c := 6) (sp := 28) (tw := 32) (by decide) (by decide) c.1 x⟩)) (by decide)
  · have ed : d = 17 := Option.some.inj (d2.symm.trans c.1)
    subst ed
    exact am_call.up (c_80_32_17 c.2.2.2 c.2.2.1 c.1 hP hz hch l1 l2 d3 (fun F h1 e x => Or.inl ⟨F, e, wC_f (sp := 32) (tw := 28) (by decide) c.2.2.1 x.2.2 j⟩) (fun t h1 e x => Or.inr ⟨t, e, wC_s (c := 17) (sp := 32) (tw := 28) (by decide) (by decide) c.1 x⟩)) (by decide)
  · have ed : d = 17 := Option.some.inj (d2.symm.trans c.1)
    subst ed
    exact am_call.up (c_80_28_17 c.2.2.2 c.2.2.1 c.1 hP hz hch l1 l2 d3 (fun F h1 e x => Or.inl ⟨F, e, wC_f (sp := 28) (tw := 32) (by decide) c.2.2.1 x.2.2 j⟩) (fun t h1 e x => Or.inr ⟨t, e, wC_s (c := 17) (sp := 28) (tw := 32) (by decide) (by decide) c.1 x⟩)) (by decide)
/-- week of the reference, with names and lines -/
theorem at167 (q : Nat) : ag_atM pz_Mt 167 q = false := by
  unfold ag_atM pz_Mt
  simp [List.any]
section wk
variable {h : am_H} {N a c sz : Nat} {C : sp_C} {W : sw_W} {Q : am_Q}
theorem k_219w (hsz : h.1 154 2 = nI sz) (hz : sz ≤ 1000) (hw : ∀ w, w < 21 → h.2.1 159 w = rw_w w) (hP0 : pz_P N a c h) (hC : C.1.1 ≤ 6 ∧ C.2.1.1 ≤ 5 ∧ rkN C h) (hC0 : C.2.2.2.2.1 = 0) (hV : rkV W h) (hF : ∀ F h1, sw_week (tt (h.1 155) sz) (C.1.1, C.1.2.1) = .inl F → rkN C h1 → rkV W h1 → Q (some (.int F)) h1) (hS : ∀ t h1, sw_week (tt (h.1 155) sz) (C.1.1, C.1.2.1) = .inr t → rkN C h1 → rkV t.2 h1 → Q (some (.int (Int32.ofInt 0))) h1) : am_call am_cod 6 219 [.ref 154] h Q := by
  refine pz_call (n := 219) (nL := 4) (rt := (some .int)) (rows := am_r219) (d := 5) (by decide +kernel) (by decide +kernel) rfl (by funext pc; rfl) (pz_175 hP0) (by exact Nat.le_of_ble_eq_true rfl) ?_
  refine am_goX 3 (show am_sh h 154 = some (11, 0) ∧ narrow (am_fty 11 0) (.int ((Int32.ofInt 0))) = .int ((Int32.ofInt 0)) ∧ fits (am_fty 11 0) (.int ((Int32.ofInt 0))) = true ∧ pz_S 4 (some .int) am_r219 5 Q 5 [(0, .ref 154)] [] (am_wI h 154 0 ((Int32.ofInt 0))) from ⟨pz_154 hP0, rfl, rfl, ?_⟩)
  have hP1 := pz_w (o := 154) (k := 0) (v := Int32.ofInt 0) hP0 (by omega) (by unfold ag_kp; omega) pz_s0
  have sz1 : (am_wI h 154 0 (Int32.ofInt 0)).1 154 2 = nI sz := by rw [em_wn h _ (by omega)]; exact hsz
  have hw1 : ∀ w, w < 21 → (am_wI h 154 0 (Int32.ofInt 0)).2.1 159 w = rw_w w := hw
  have hC1 : rkN C (am_wI h 154 0 (Int32.ofInt 0)) := rkN_w (by omega) hC.2.2
  have hV1 : rkV W (am_wI h 154 0 (Int32.ofInt 0)) := rkV_e (fun k _ => em_wn h _ (by omega)) hV
  have hT : (am_wI h 154 0 (Int32.ofInt 0)).1 155 = h.1 155 := by funext q; exact em_wn h _ (by omega)
  rw [← hT] at hS hF
  generalize am_wI h 154 0 (Int32.ofInt 0) = h1 at hP1 sz1 hw1 hC1 hV1 hS hF ⊢
  refine am_goX 2 (show am_rc h1 154 11 ∧ 0 ≤ 8 ∧ h1.2.2.2.2 + am_al 189 ≤ 175 ∧ am_call am_cod 5 189 [.ref 154] h1 (fun vv h' => pz_S 4 (some .int) am_r219 5 Q 9 [(0, .ref 154)] (vv.toList ++ []) h') from ⟨pz_rc hP1, by decide, pz_lim hP1 rfl, am_call.up (rx_cutall hP1 sz1 hz (fun N2 h2 hP2 f2 b2 t2 nsz k2 ep2 y6 y7 => ?_)) (by decide)⟩)
  have hw2 : ∀ w, w < 21 → h2.2.1 159 w = rw_w w := fun w hw => ((f2.2 159 w (at155 w).2.1).2.1).trans (hw1 w hw)
  have x2 : ex_P h2 := ex_G hP2.1.1 hP2.1.2.1
  have hV2 : rkV W h2 := rkV_e (fun k _ => (f2.2 167 k (at167 k)).1) hV1
  have hC2 : rkN C h2 := rkN_e (f2.2 154 18 (at163 0).2.2).1 (fun k => (f2.2 165 k (at163 k).2.1).1) (fun k => (f2.2 163 k (at163 k).1).2.1) hC1
  have t3 : rt (tt (h1.1 155) sz) N2 h2 := rt_of x2 hz nsz k2 ep2 y6 y7 hw2
  have l : rk h2 0 (tt (h1.1 155) sz) N2 (0, C) h2 := ⟨⟨t3, ⟨hP2.2.2.2.1, Nat.zero_le _⟩, b2⟩, ⟨hC.1, hC.2.1, rkN_e (f2.2 154 18 (at163 0).2.2).1 (fun k => (f2.2 165 k (at163 k).2.1).1) (fun k => (f2.2 163 k (at163 k).1).2.1) hC1⟩, ⟨rfl, fun _ _ _ => ⟨rfl, rfl⟩⟩, Nat.le_of_eq hC0⟩
  refine am_goX 2 (show 1 < 4 ∧ pz_S 4 (some .int) am_r219 5 Q 11 [(1, .int (nI sw_W0.1)), (0, .ref 154)] [] h2 from ⟨by decide, ?_⟩)
  exact k_219h (m := 1000) (h0 := h2) (W := sw_W0) (by omega) l ⟨by decide, fun i hi => absurd hi (Nat.not_lt_zero i)⟩ ⟨rfl, fun _ _ _ => ⟨rfl, rfl⟩⟩ (fun F h3 e _ w => hF F h3 e (rkN_e (w.2 154 18 (by omega)).1 (fun k => (w.2 165 k (by omega)).1) (fun k => (w.2 163 k (by omega)).2) hC2) (rkV_e (fun k hk => (w.2 167 k (by omega)).1) hV2)) (fun t h3 e _ v w => hS t h3 e (rkN_e (w.2 154 18 (by omega)).1 (fun k => (w.2 165 k (by omega)).1) (fun k => (w.2 163 k (by omega)).2) hC2) v)
end wk
theorem c_219w {h : am_H} {sz : Nat} {C : sp_C} {W : sw_W} (hI : iv_I h) (hj : jw h) (hz : sz ≤ 1000) (l1 : h.1 154 2 = nI sz) (hC : dP C ≤ 6 ∧ dE C ≤ 5) (j : wR C W h) : am_call am_cod 60 219 [.ref 154] h (fun _ g => (∃ F, sw_week (tt (h.1 155) sz) (C.1.1, C.1.2.1) = .inl F ∧ wR C W g) ∨ ∃ t, sw_week (tt (h.1 155) sz) (C.1.1, C.1.2.1) = .inr t ∧ wR C t.2 g) := by
  obtain ⟨N, a, c, hP⟩ := pz_iv hI
  exact am_call.up (k_219w (C := (C.1, C.2.1, C.2.2.1, (C.2.2.2.1, 0, C.2.2.2.2.2))) l1 hz hj hP ⟨hC.1, hC.2, j.1⟩ rfl j.2 (fun F h1 e n v => Or.inl ⟨F, e, n, v⟩) (fun t h1 e n v => Or.inr ⟨t, e, n, v⟩)) (by decide)
/-- week keeps the whole relation -/
theorem W_wk {τ : sp_T} {C : sp_C} {W : sw_W} {g g2 : am_H} (h5 : dP C ≤ 6 ∧ dE C ≤ 5) (i : wI C W) (p : (∃ F, sw_week τ (C.1.1, C.1.2.1) = .inl F ∧ wC C W g) ∨ ∃ t, sw_week τ (C.1.1, C.1.2.1) = .inr t ∧ wC C t.2 g) (q : (∃ F, sw_week τ (C.1.1, C.1.2.1) = .inl F ∧ wR C W g2) ∨ ∃ t, sw_week τ (C.1.1, C.1.2.1) = .inr t ∧ wR C t.2 g2) (k : kr kr_WC g g2) : ∃ W', wI C W' ∧ wC C W' g2 ∧ wR C W' g2 := by
  rcases p with ⟨F, e, p⟩ | ⟨t, e, p⟩
  · rcases q with ⟨F', e', q⟩ | ⟨t', e', q⟩
    · exact ⟨W, i, wC_k p k, q⟩
    · rw [e] at e'
      cases e'
  · rcases q with ⟨F', e', q⟩ | ⟨t', e', q⟩
    · rw [e] at e'
      cases e'
    · rw [e] at e'
      cases e'
      exact ⟨t.2, wI_week e, wC_k p k, q⟩
