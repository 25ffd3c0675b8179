/-! BOTH DAYS ARE ONE: THE STATES -/
/-- what one person adds to an event's bits -/
def tmk (C : sp_C) (s : dS) (w : Int32) (p e : Nat) : Int32 := if d_102 C p (d_88 C s p w) = 0 then Int32.ofInt 0 else if d_104 C s p w = 0 then Int32.ofInt 0 else (((d_102 C p (d_88 C s p w)) >>> ((nI e) &&& 31)) &&& (Int32.ofInt 1)) <<< ((nI p) &&& 31)
def cf (C : sp_C) (s : dS) (w : Int32) (e : Nat) : Nat → Nat → Int32 → Int32
  | 0, _, a => a
  | m + 1, k, a => cf C s w e m (k + 1) (a ||| tmk C s w k e)
theorem or0 (a : Int32) : a ||| Int32.ofInt 0 = a := Int32.or_zero
/-- two states that tell a day alike -/
def sEq (s t : dS) : Prop := s.1 = t.1 ∧ s.2.2.1 = t.2.2.1 ∧ s.2.2.2.1 = t.2.2.2.1
theorem tmk_c {C : sp_C} {s t : dS} (h : sEq s t) (w : Int32) (p e : Nat) : tmk C s w p e = tmk C t w p e ∧ d_102 C p (d_88 C s p w) = d_102 C p (d_88 C t p w) ∧ d_104 C s p w = d_104 C t p w := by
  obtain ⟨a, b, c, d, f, g⟩ := s
  obtain ⟨a', b', c', d', f', g'⟩ := t
  obtain ⟨h1, h2, h3⟩ := h
  have h1 : a = a' := h1
  have h2 : c = c' := h2
  have h3 : d = d' := h3
  subst h1
  subst h2
  subst h3
  exact ⟨rfl, rfl, rfl⟩
theorem cf_c {C : sp_C} {s t : dS} (h : sEq s t) (w : Int32) (e : Nat) : ∀ (m k : Nat) (a : Int32), cf C s w e m k a = cf C t w e m k a := by
  intro m
  induction m with
  | zero => exact fun _ _ => rfl
  | succ m ih =>
    intro k a
    show cf C s w e m (k + 1) _ = cf C t w e m (k + 1) _
    rw [(tmk_c h w k e).1, ih]
theorem in65 {C : sp_C} {w x : Int32} {p : Nat} : ∀ (m k : Nat) (s : dS), d_101_65 C w p x m k s = (s.1, s.2.1, s.2.2.1, s.2.2.2.1, s.2.2.2.2.1, fun e => if k ≤ e ∧ e < k + m then s.2.2.2.2.2 e ||| (((x >>> ((nI e) &&& 31)) &&& (Int32.ofInt 1)) <<< ((nI p) &&& 31)) else s.2.2.2.2.2 e) := by
  intro m
  induction m with
  | zero =>
    intro k s
    show s = _
    refine Prod.ext rfl (Prod.ext rfl (Prod.ext rfl (Prod.ext rfl (Prod.ext rfl (funext fun e => ?_)))))
    show _ = if k ≤ e ∧ e < k + 0 then _ else _
    rw [if_neg (by omega)]
  | succ m ih =>
    intro k s
    show d_101_65 C w p x m (k + 1) _ = _
    rw [ih]
    refine Prod.ext rfl (Prod.ext rfl (Prod.ext rfl (Prod.ext rfl (Prod.ext rfl (funext fun e => ?_)))))
    show (if k + 1 ≤ e ∧ e < k + 1 + m then (if e = k then _ else s.2.2.2.2.2 e) ||| _ else (if e = k then _ else s.2.2.2.2.2 e)) = if k ≤ e ∧ e < k + (m + 1) then _ else _
    by_cases ek : e = k
    · rw [if_neg (by omega), if_pos ek, if_pos (by omega), ek]
    · by_cases h : k + 1 ≤ e ∧ e < k + 1 + m
      · rw [if_pos h, if_neg ek, if_pos (by omega)]
      · rw [if_neg h, if_neg ek, if_neg (by omega)]
theorem in2 {C : sp_C} {w : Int32} : ∀ (m k : Nat) (s : dS), d_101_2 C w m k s = (s.1, s.2.1, s.2.2.1, s.2.2.2.1, s.2.2.2.2.1, fun e => if k ≤ e ∧ e < k + m then Int32.ofInt 0 else s.2.2.2.2.2 e) := by
  intro m
  induction m with
  | zero =>
    intro k s
    show s = _
    refine Prod.ext rfl (Prod.ext rfl (Prod.ext rfl (Prod.ext rfl (Prod.ext rfl (funext fun e => ?_)))))
    show _ = if k ≤ e ∧ e < k + 0 then _ else _
    rw [if_neg (by omega)]
  | succ m ih =>
    intro k s
    show d_101_2 C w m (k + 1) _ = _
    rw [ih]
    refine Prod.ext rfl (Prod.ext rfl (Prod.ext rfl (Prod.ext rfl (Prod.ext rfl (funext fun e => ?_)))))
    show (if k + 1 ≤ e ∧ e < k + 1 + m then _ else (if e = k then _ else s.2.2.2.2.2 e)) = if k ≤ e ∧ e < k + (m + 1) then _ else _
    by_cases ek : e = k
    · rw [if_neg (by omega), if_pos ek, if_pos (by omega)]
    · by_cases h : k + 1 ≤ e ∧ e < k + 1 + m
      · rw [if_pos h, if_pos (by omega)]
      · rw [if_neg h, if_neg ek, if_neg (by omega)]
theorem in25 {C : sp_C} {w : Int32} : ∀ (m k : Nat) (s : dS), d_101_25 C w m k s = (s.1, s.2.1, s.2.2.1, s.2.2.2.1, s.2.2.2.2.1, fun e => if e < dE C then cf C s w e m k (s.2.2.2.2.2 e) else s.2.2.2.2.2 e) := by
  intro m
  induction m with
  | zero =>
    intro k s
    show s = _
    refine Prod.ext rfl (Prod.ext rfl (Prod.ext rfl (Prod.ext rfl (Prod.ext rfl (funext fun e => ?_)))))
    show _ = if e < dE C then s.2.2.2.2.2 e else s.2.2.2.2.2 e
    split <;> rfl
  | succ m ih =>
    intro k s
    rw [d_101_25]
    by_cases h1 : d_102 C k (d_88 C s k w) = 0
    · rw [if_pos h1, ih]
      refine Prod.ext rfl (Prod.ext rfl (Prod.ext rfl (Prod.ext rfl (Prod.ext rfl (funext fun e => ?_)))))
      show (if e < dE C then cf C s w e m (k + 1) (s.2.2.2.2.2 e) else s.2.2.2.2.2 e) = if e < dE C then cf C s w e m (k + 1) (s.2.2.2.2.2 e ||| tmk C s w k e) else _
      rw [show tmk C s w k e = Int32.ofInt 0 from if_pos h1, or0]
    · rw [if_neg h1]
      by_cases h2 : d_104 C s k w = 0
      · rw [if_pos h2, ih]
        refine Prod.ext rfl (Prod.ext rfl (Prod.ext rfl (Prod.ext rfl (Prod.ext rfl (funext fun e => ?_)))))
        show (if e < dE C then cf C s w e m (k + 1) (s.2.2.2.2.2 e) else s.2.2.2.2.2 e) = if e < dE C then cf C s w e m (k + 1) (s.2.2.2.2.2 e ||| tmk C s w k e) else _
        rw [show tmk C s w k e = Int32.ofInt 0 from (if_neg h1).trans (if_pos h2), or0]
      · rw [if_neg h2, ih, in65]
        refine Prod.ext rfl (Prod.ext rfl (Prod.ext rfl (Prod.ext rfl (Prod.ext rfl (funext fun e => ?_)))))
        show (if e < dE C then cf C (s.1, s.2.1, s.2.2.1, s.2.2.2.1, s.2.2.2.2.1, _) w e m (k + 1) (if 0 ≤ e ∧ e < 0 + dE C then _ else s.2.2.2.2.2 e) else (if 0 ≤ e ∧ e < 0 + dE C then _ else s.2.2.2.2.2 e)) = if e < dE C then cf C s w e m (k + 1) (s.2.2.2.2.2 e ||| tmk C s w k e) else _
        by_cases he : e < dE C
        · rw [if_pos he, if_pos he, if_pos (by omega), show tmk C s w k e = _ from (if_neg h1).trans (if_neg h2)]
          refine cf_c ?_ w e m (k + 1) _
          exact ⟨rfl, rfl, rfl⟩
        · rw [if_neg he, if_neg he, if_neg (by omega)]
/-- who goes out, as the reference says -/
def goR (C : sp_C) (s : dS) (w : Int32) (p : Nat) : Bool := decide (dQ C < 0) || !decide (dlaw C (d_223 C s p) (s.1 / ((Int8.ofInt 7).toInt32)) (d_235 (s.2.2.2.1 p)) w = 0)
theorem in19 {C : sp_C} {s : dS} {w : Int32} : ∀ (m k : Nat) (gg : Int32), k + m ≤ 6 → (d_234_19 C w m k s gg).1 = s ∧ ∀ p, p < 6 → sp_bit (d_234_19 C w m k s gg).2 (nI p) = (sp_bit gg (nI p) || (decide (k ≤ p ∧ p < k + m) && goR C s w p)) := by
  intro m
  induction m with
  | zero =>
    intro k gg hk
    refine ⟨rfl, fun p hp => ?_⟩
    rw [decide_eq_false (by omega), Bool.false_and, Bool.or_false]
    rfl
  | succ m ih =>
    intro k gg hk
    have stp : d_234_19 C w (m + 1) k s gg = d_234_19 C w m (k + 1) s (if goR C s w k = true then gg ||| ((Int32.ofInt 1) <<< ((nI k) &&& 31)) else gg) := by
      rw [d_234_19]
      unfold goR
      by_cases h1 : dQ C < 0
      · rw [if_pos h1, decide_eq_true h1, Bool.true_or, if_pos rfl]
      · rw [if_neg h1, decide_eq_false h1, Bool.false_or]
        by_cases h2 : dlaw C (d_223 C s k) (s.1 / ((Int8.ofInt 7).toInt32)) (d_235 (s.2.2.2.1 k)) w = 0
        · rw [if_pos h2, decide_eq_true h2, if_neg (by decide), or0]
        · rw [if_neg h2, decide_eq_false h2, if_pos (by decide)]
    rw [stp]
    obtain ⟨i1, i2⟩ := ih (k + 1) (if goR C s w k = true then gg ||| ((Int32.ofInt 1) <<< ((nI k) &&& 31)) else gg) (by omega)
    refine ⟨i1, fun p hp => ?_⟩
    rw [i2 p hp]
    by_cases ek : p = k
    · rw [ek, decide_eq_false (show ¬ (k + 1 ≤ k ∧ k < k + 1 + m) by omega), decide_eq_true (show k ≤ k ∧ k < k + (m + 1) by omega), Bool.false_and, Bool.or_false, Bool.true_and]
      cases hb : goR C s w k with
      | true => rw [if_pos rfl, bit_or (by omega) (by omega), decide_eq_true rfl]
      | false => rw [if_neg (by decide), Bool.or_false]
    · rw [show decide (k + 1 ≤ p ∧ p < k + 1 + m) = decide (k ≤ p ∧ p < k + (m + 1)) from decide_eq_decide.mpr (by omega)]
      cases hb : goR C s w k with
      | true => rw [if_pos rfl, bit_or (by omega) (by omega), decide_eq_false (fun q => ek q.symm), Bool.or_false]
      | false => rw [if_neg (by decide)]
theorem go_e {C : sp_C} {D : Nat} {s : dS} (hc : cI C) (hs : sI C D s) {p : Nat} {w : Int32} (hw : w = Int32.ofInt 0 ∨ w = Int32.ofInt 1) : (d_104 C s p w = 0) ↔ goR C s w p = false := by
  have hm : d_69 (s.2.2.2.1 p) = d_235 (s.2.2.2.1 p) := bc_x (Nat.lt_of_lt_of_le (hs.2.2.1 p).1 (p64 hc.1.1))
  have w01 : (if w = 0 then Int32.ofInt 0 else Int32.ofInt 1) = w := by
    rcases hw with rfl | rfl
    · rfl
    · rfl
  unfold d_104 goR
  rw [hm, w01]
  show ((if dlaw C (d_223 C s p) _ _ w = 0 then Int32.ofInt 0 else Int32.ofInt 1) = 0) ↔ _
  by_cases h1 : dQ C < 0
  · have hM : dM C = 0 := by
      rcases hc.2.2.2 with q | q
      · exact q.2
      · rw [dQ_f h1] at q
        cases q.1
    rw [dlaw_0 hM, if_neg (by decide), decide_eq_true h1, Bool.true_or]
    exact ⟨fun z => absurd z (by decide), fun z => by cases z⟩
  · rw [decide_eq_false h1, Bool.false_or]
    by_cases h2 : dlaw C (d_223 C s p) (s.1 / ((Int8.ofInt 7).toInt32)) (d_235 (s.2.2.2.1 p)) w = 0
    · rw [if_pos h2, decide_eq_true h2]
      exact ⟨fun _ => rfl, fun _ => rfl⟩
    · rw [if_neg h2, decide_eq_false h2]
      exact ⟨fun z => absurd z (by decide), fun z => by cases z⟩
theorem sh0 : ∀ p, p < 6 → (Int32.ofInt 0) <<< ((nI p) &&& 31) = Int32.ofInt 0 := by decide +kernel
/-- what one person adds, both ways -/
theorem tmk_e {C V : sp_C} {D : Nat} {s t : dS} (hc : cI C) (hs : sI C D s) (hD : D ≤ 4200) (hst : s.1 = t.1 ∧ s.2.2.1 = t.2.2.1) {p e : Nat} (hp : p < dP C) (he : e < dE C) (hV : dW V e = dW C e) {w gg : Int32} (hw : w = Int32.ofInt 0 ∨ w = Int32.ofInt 1) (hg : sp_bit gg (nI p) = goR C s w p) : (if ¬ ((gg >>> ((nI p) &&& 31)) &&& (Int32.ofInt 1)) = (Int32.ofInt 1) then Int32.ofInt 0 else (if (d_238 C V t p e w) = 0 then Int32.ofInt 0 else (Int32.ofInt 1) <<< ((nI p) &&& 31))) = tmk C s w p e := by
  have h6 := hc.1.1
  have h5 := hc.1.2
  have e238 : d_238 C V t p e w = d_238 C V s p e w := by
    obtain ⟨a, b, c, d, f, g⟩ := s
    obtain ⟨a', b', c', d', f', g'⟩ := t
    obtain ⟨h1, h2⟩ := hst
    have h1 : a = a' := h1
    have h2 : c = c' := h2
    subst h1
    subst h2
    rfl
  rw [e238]
  have hcm := come_e (V := V) hc hs hD hp he hV hw
  unfold tmk
  cases hb : dwc C p e (d_88 C s p w) with
  | false =>
    rw [if_pos (hcm.mpr hb), d_102_v h5 he, hb, if_neg (show ¬ false = true by decide), sh0 p (by omega)]
    split <;> (split <;> (first | rfl | (split <;> rfl)))
  | true =>
    have n1 : ¬ d_102 C p (d_88 C s p w) = 0 := fun z => by
      rw [d_102_0 h5 z he] at hb
      cases hb
    have n2 : ¬ d_238 C V s p e w = 0 := fun z => by
      rw [hcm.mp z] at hb
      cases hb
    rw [if_neg n1, if_neg n2, d_102_v h5 he, hb, if_pos rfl]
    by_cases h4 : d_104 C s p w = 0
    · rw [if_pos h4]
      refine if_pos (fun z => ?_)
      rw [(bit_1 _ _).mp z] at hg
      rw [(go_e hc hs hw).mp h4] at hg
      cases hg
    · rw [if_neg h4]
      refine if_neg (fun z => z ((bit_1 _ _).mpr ?_))
      rw [hg]
      cases hx : goR C s w p with
      | true => rfl
      | false => exact absurd ((go_e hc hs hw).mpr hx) h4
theorem in147 {C V : sp_C} {D : Nat} {s t : dS} (hc : cI C) (hs : sI C D s) (hD : D ≤ 4200) (hst : s.1 = t.1 ∧ s.2.2.1 = t.2.2.1) {e : Nat} (he : e < dE C) (hV : dW V e = dW C e) {w gg : Int32} (hw : w = Int32.ofInt 0 ∨ w = Int32.ofInt 1) (hg : ∀ p, p < dP C → sp_bit gg (nI p) = goR C s w p) : ∀ (m k : Nat) (a : Int32), k + m = dP C → d_234_147 C V t gg w e m k a = cf C s w e m k a := by
  intro m
  induction m with
  | zero => exact fun _ _ _ => rfl
  | succ m ih =>
    intro k a hk
    show d_234_147 C V t gg w e m (k + 1) (a ||| _) = cf C s w e m (k + 1) (a ||| _)
    rw [tmk_e hc hs hD hst (by omega) he hV hw (hg k (by omega)), ih _ _ (by omega)]
theorem in108 {x : Int32} : ∀ (m k : Nat) (s : dS), d_108_2 x m k s = (s.1, s.2.1, s.2.2.1, (fun i => if k ≤ i ∧ i < k + m ∧ sp_bit x (nI i) = true then s.2.2.2.1 i ||| (x &&& (((Int32.ofInt 1) <<< ((nI i) &&& 31)) ^^^ (Int32.ofInt (-1)))) else s.2.2.2.1 i), s.2.2.2.2.1, s.2.2.2.2.2) := by
  intro m
  induction m with
  | zero =>
    intro k s
    show s = _
    refine Prod.ext rfl (Prod.ext rfl (Prod.ext rfl (Prod.ext (funext fun i => ?_) rfl)))
    show _ = if k ≤ i ∧ i < k + 0 ∧ sp_bit x (nI i) = true then _ else _
    rw [if_neg (by omega)]
  | succ m ih =>
    intro k s
    rw [d_108_2]
    by_cases hb : sp_bit x (nI k) = false
    · rw [if_pos (by rw [d_65_b]; exact hb), ih]
      refine Prod.ext rfl (Prod.ext rfl (Prod.ext rfl (Prod.ext (funext fun i => ?_) rfl)))
      show (if k + 1 ≤ i ∧ i < k + 1 + m ∧ sp_bit x (nI i) = true then _ else _) = if k ≤ i ∧ i < k + (m + 1) ∧ sp_bit x (nI i) = true then _ else _
      by_cases ek : i = k
      · rw [if_neg (fun z => by omega), if_neg (fun z => by rw [ek, hb] at z; cases z.2.2)]
      · by_cases h : k + 1 ≤ i ∧ i < k + 1 + m ∧ sp_bit x (nI i) = true
        · rw [if_pos h, if_pos ⟨by omega, by omega, h.2.2⟩]
        · rw [if_neg h, if_neg (fun z => h ⟨by omega, by omega, z.2.2⟩)]
    · rw [if_neg (by rw [d_65_b]; exact hb), ih]
      have hb : sp_bit x (nI k) = true := by
        cases h : sp_bit x (nI k) with
        | true => rfl
        | false => exact absurd h hb
      refine Prod.ext rfl (Prod.ext rfl (Prod.ext rfl (Prod.ext (funext fun i => ?_) rfl)))
      show (if k + 1 ≤ i ∧ i < k + 1 + m ∧ sp_bit x (nI i) = true then (if i = k then _ else s.2.2.2.1 i) ||| _ else (if i = k then _ else s.2.2.2.1 i)) = if k ≤ i ∧ i < k + (m + 1) ∧ sp_bit x (nI i) = true then _ else _
      by_cases ek : i = k
      · rw [if_neg (fun z => by omega), if_pos ek, if_pos ⟨by omega, by omega, by rw [ek]; exact hb⟩, ek]
      · by_cases h : k + 1 ≤ i ∧ i < k + 1 + m ∧ sp_bit x (nI i) = true
        · rw [if_pos h, if_neg ek, if_pos ⟨by omega, by omega, h.2.2⟩]
        · rw [if_neg h, if_neg ek, if_neg (fun z => h ⟨by omega, by omega, z.2.2⟩)]
theorem in281 {C : sp_C} {x : Int32} : ∀ (m k : Nat) (s : dS), d_234_281 C x m k s = (s.1, s.2.1, s.2.2.1, (fun i => if k ≤ i ∧ i < k + m then s.2.2.2.1 i ||| (if ¬ ((x >>> ((nI i) &&& 31)) &&& (Int32.ofInt 1)) = (Int32.ofInt 1) then Int32.ofInt 0 else x &&& (((Int32.ofInt 1) <<< ((nI i) &&& 31)) ^^^ (Int32.ofInt (-1)))) else s.2.2.2.1 i), s.2.2.2.2.1, s.2.2.2.2.2) := by
  intro m
  induction m with
  | zero =>
    intro k s
    show s = _
    refine Prod.ext rfl (Prod.ext rfl (Prod.ext rfl (Prod.ext (funext fun i => ?_) rfl)))
    show _ = if k ≤ i ∧ i < k + 0 then _ else _
    rw [if_neg (by omega)]
  | succ m ih =>
    intro k s
    show d_234_281 C x m (k + 1) _ = _
    rw [ih]
    refine Prod.ext rfl (Prod.ext rfl (Prod.ext rfl (Prod.ext (funext fun i => ?_) rfl)))
    show (if k + 1 ≤ i ∧ i < k + 1 + m then (if i = k then _ else s.2.2.2.1 i) ||| _ else (if i = k then _ else s.2.2.2.1 i)) = if k ≤ i ∧ i < k + (m + 1) then _ else _
    by_cases ek : i = k
    · rw [if_neg (show ¬ (k + 1 ≤ i ∧ i < k + 1 + m) by omega), if_pos ek, if_pos (show k ≤ i ∧ i < k + (m + 1) by omega), ek]
    · by_cases h : k + 1 ≤ i ∧ i < k + 1 + m
      · rw [if_pos h, if_neg ek, if_pos (show k ≤ i ∧ i < k + (m + 1) by omega)]
      · rw [if_neg h, if_neg ek, if_neg (show ¬ (k ≤ i ∧ i < k + (m + 1)) by omega)]
/-- who have come to one event meet: both ways -/
theorem meet_e {C : sp_C} {x : Int32} (h6 : dP C ≤ 6) (hx : bN x < 2 ^ dP C) (s : dS) : d_108_s s x = d_234_281 C x (dP C) 0 s := by
  unfold d_108_s
  rw [in108, in281]
  refine Prod.ext rfl (Prod.ext rfl (Prod.ext rfl (Prod.ext (funext fun i => ?_) rfl)))
  show (if 0 ≤ i ∧ i < 0 + 6 ∧ sp_bit x (nI i) = true then _ else _) = if 0 ≤ i ∧ i < 0 + dP C then _ ||| (if ¬ ((x >>> ((nI i) &&& 31)) &&& (Int32.ofInt 1)) = (Int32.ofInt 1) then Int32.ofInt 0 else _) else _
  by_cases hi : i < dP C
  · rw [if_pos (show 0 ≤ i ∧ i < 0 + dP C by omega)]
    by_cases hb : sp_bit x (nI i) = true
    · rw [if_pos ⟨by omega, by omega, hb⟩, if_neg (fun z => z ((bit_1 _ _).mpr hb))]
    · rw [if_neg (fun z => hb z.2.2), if_pos (fun z => hb ((bit_1 _ _).mp z)), or0]
  · rw [if_neg (show ¬ (0 ≤ i ∧ i < 0 + dP C) by omega)]
    refine if_neg (fun z => ?_)
    have hb := z.2.2
    rw [sp_bit_tg (by omega), Nat.testBit_lt_two_pow (Nat.lt_of_lt_of_le hx (Nat.pow_le_pow_right (by decide) (by omega)))] at hb
    cases hb
theorem cf_lt {C : sp_C} {s : dS} {w : Int32} {e : Nat} (h6 : dP C ≤ 6) (h5 : dE C ≤ 5) (he : e < dE C) : ∀ (m k : Nat) (a : Int32), k + m = dP C → bN a < 2 ^ dP C → bN (cf C s w e m k a) < 2 ^ dP C := by
  intro m
  induction m with
  | zero => exact fun _ _ _ ha => ha
  | succ m ih =>
    intro k a hk ha
    refine ih (k + 1) _ (by omega) ?_
    rw [bN_or]
    refine Nat.or_lt_two_pow ha ?_
    have hz : bN (Int32.ofInt 0) < 2 ^ dP C := by
      rw [show bN (Int32.ofInt 0) = 0 by decide]
      exact Nat.two_pow_pos _
    unfold tmk
    by_cases h1 : d_102 C k (d_88 C s k w) = 0
    · rw [if_pos h1]; exact hz
    · rw [if_neg h1]
      by_cases h2 : d_104 C s k w = 0
      · rw [if_pos h2]; exact hz
      · rw [if_neg h2, d_102_v h5 he]
        cases hb : dwc C k e (d_88 C s k w) with
        | true =>
          rw [if_pos rfl, bN_1s (by omega)]
          exact Nat.pow_lt_pow_right (by decide) (by omega)
        | false =>
          rw [if_neg (show ¬ false = true by decide), sh0 k (by omega)]
          exact hz
/-- the events of a day, both ways -/
theorem ev_e {C V : sp_C} {D : Nat} {s1 : dS} (hc : cI C) (hs : sI C D s1) (hD : D ≤ 4200) (hV : ∀ e, e < dE C → dW V e = dW C e) {w gg : Int32} (hw : w = Int32.ofInt 0 ∨ w = Int32.ofInt 1) (hg : ∀ p, p < dP C → sp_bit gg (nI p) = goR C s1 w p) : ∀ (m k : Nat) (a : Int32) (s t : dS), k + m = dE C → (s.1 = s1.1 ∧ s.2.2.1 = s1.2.2.1) → (∀ e, e < dE C → s.2.2.2.2.2 e = cf C s1 w e (dP C) 0 (Int32.ofInt 0)) → (t.1 = s.1 ∧ t.2.1 = s.2.1 ∧ t.2.2.1 = s.2.2.1 ∧ t.2.2.2.1 = s.2.2.2.1 ∧ t.2.2.2.2.1 = s.2.2.2.2.1) → (∀ e, e < k ∨ dE C ≤ e → t.2.2.2.2.2 e = s.2.2.2.2.2 e) → d_234_132 C V gg w m k a t = d_100_21 C m k a s := by
  have h6 := hc.1.1
  have h5 := hc.1.2
  intro m
  induction m with
  | zero =>
    intro k a s t hk h1 h2 h3 h4
    show (a, t) = (a, s)
    refine Prod.ext rfl (Prod.ext h3.1 (Prod.ext h3.2.1 (Prod.ext h3.2.2.1 (Prod.ext h3.2.2.2.1 (Prod.ext h3.2.2.2.2 (funext fun e => h4 e (by omega)))))))
  | succ m ih =>
    intro k a s t hk h1 h2 h3 h4
    have hx : d_234_147 C V t gg w k (dP C) 0 (Int32.ofInt 0) = s.2.2.2.2.2 k := by
      rw [h2 k (by omega)]
      exact in147 hc hs hD ⟨h1.1.symm.trans h3.1.symm, h1.2.symm.trans h3.2.2.1.symm⟩ (by omega) (hV k (by omega)) hw hg (dP C) 0 _ (by omega)
    have hlt : bN (s.2.2.2.2.2 k) < 2 ^ dP C := by
      rw [h2 k (by omega)]
      exact cf_lt h6 h5 (by omega) _ _ _ (by omega) (by rw [show bN (Int32.ofInt 0) = 0 by decide]; exact Nat.two_pow_pos _)
    rw [d_234_132, d_100_21, hx]
    have hc2 : (d_108_s s (s.2.2.2.2.2 k)).2.2.2.2.2 k = s.2.2.2.2.2 k := by
      unfold d_108_s
      rw [in108]
    have hh2 : (d_108_s s (s.2.2.2.2.2 k)).2.2.2.2.1 k = s.2.2.2.2.1 k := by
      unfold d_108_s
      rw [in108]
    rw [hc2, bc_x (Nat.lt_of_lt_of_le hlt (p64 h6))]
    have m1 := meet_e (s := s) h6 hlt
    by_cases hn : d_235 (s.2.2.2.2.2 k) < dN C k
    · rw [if_pos hn, if_pos hn, if_pos (show Int32.ofInt 0 = 0 from rfl), or0]
      refine ih (k + 1) a _ _ (by omega) ?_ ?_ ?_ ?_
      · unfold d_108_s; rw [in108]; exact h1
      · unfold d_108_s; rw [in108]; exact h2
      · rw [m1, in281, in281]
        refine ⟨h3.1, h3.2.1, h3.2.2.1, ?_, ?_⟩
        · show (fun i => if 0 ≤ i ∧ i < 0 + dP C then t.2.2.2.1 i ||| _ else t.2.2.2.1 i) = _
          rw [h3.2.2.2.1]
        · show (fun i => if i = k then t.2.2.2.2.1 k + Int32.ofInt 0 else t.2.2.2.2.1 i) = s.2.2.2.2.1
          rw [h3.2.2.2.2]
          funext i
          by_cases ik : i = k
          · rw [if_pos ik, ik]
            exact Int32.add_zero _
          · rw [if_neg ik]
      · intro e he
        rw [in281]
        unfold d_108_s
        rw [in108]
        show (if e = k then s.2.2.2.2.2 k else t.2.2.2.2.2 e) = s.2.2.2.2.2 e
        by_cases ek : e = k
        · rw [if_pos ek, ek]
        · rw [if_neg ek, h4 e (by omega)]
    · rw [if_neg hn, if_neg hn, if_neg (show ¬ Int32.ofInt 1 = 0 by decide), if_neg (show ¬ Int32.ofInt 1 = 0 by decide), hh2]
      refine ih (k + 1) _ _ _ (by omega) ?_ ?_ ?_ ?_
      · unfold d_108_s; rw [in108]; exact h1
      · unfold d_108_s; rw [in108]; exact h2
      · rw [m1, in281, in281]
        refine ⟨h3.1, h3.2.1, h3.2.2.1, ?_, ?_⟩
        · show (fun i => if 0 ≤ i ∧ i < 0 + dP C then t.2.2.2.1 i ||| _ else t.2.2.2.1 i) = _
          rw [h3.2.2.2.1]
        · show (fun i => if i = k then t.2.2.2.2.1 k + Int32.ofInt 1 else t.2.2.2.2.1 i) = fun i => if i = k then s.2.2.2.2.1 k + Int32.ofInt 1 else s.2.2.2.2.1 i
          rw [h3.2.2.2.2]
      · intro e he
        rw [in281]
        unfold d_108_s
        rw [in108]
        show (if e = k then s.2.2.2.2.2 k else t.2.2.2.2.2 e) = s.2.2.2.2.2 e
        by_cases ek : e = k
        · rw [if_pos ek, ek]
        · rw [if_neg ek, h4 e (by omega)]
theorem sI_d {C : sp_C} {D : Nat} {s : dS} (hs : sI C D s) : sI C (D + 1) (sSD s (s.1 + Int32.ofInt 1)) := by
  obtain ⟨⟨d, h1, h2⟩, h3⟩ := hs
  refine ⟨⟨d + 1, by omega, ?_⟩, h3⟩
  show s.1 + Int32.ofInt 1 = nI (d + 1)
  rw [h2, xw_i1]
/-- both days are one -/
theorem day_e {C V : sp_C} {D : Nat} {s : dS} (hc : cI C) (hs : sI C D s) (hD : D ≤ 4100) (hV : ∀ e, e < dE C → dW V e = dW C e) {w : Int32} (hw : w = Int32.ofInt 0 ∨ w = Int32.ofInt 1) : d_234 C V s w = d_100 C s w ∧ d_234_s C V s w = d_100_s C s w := by
  have h6 := hc.1.1
  have s1 := sI_d hs
  have key : ∀ s1 : dS, sI C (D + 1) s1 → d_234_132 C V ((d_234_19 C w (dP C) 0 s1 (Int32.ofInt 0)).2) w (dE C) 0 (Int32.ofInt 0) ((d_234_19 C w (dP C) 0 s1 (Int32.ofInt 0)).1) = d_100_21 C (dE C) 0 (Int32.ofInt 0) (d_101_s C s1 w) := by
    intro s1 hs1
    obtain ⟨i1, i2⟩ := in19 (C := C) (s := s1) (w := w) (dP C) 0 (Int32.ofInt 0) (by omega)
    rw [i1]
    have z : ∀ p, p < 6 → sp_bit (Int32.ofInt 0) (nI p) = false := by decide +kernel
    refine ev_e hc hs1 (by omega) hV hw (fun p hp => ?_) (dE C) 0 _ _ _ (by omega) ?_ (fun e he => ?_) ?_ (fun e he => ?_)
    · rw [i2 p (by omega), z p (by omega), Bool.false_or, decide_eq_true (by omega), Bool.true_and]
    · unfold d_101_s; rw [in25, in2]; exact ⟨rfl, rfl⟩
    · unfold d_101_s
      rw [in25, in2]
      show (if e < dE C then cf C _ w e (dP C) 0 (if 0 ≤ e ∧ e < 0 + dE C then Int32.ofInt 0 else _) else _) = _
      rw [if_pos he, if_pos (by omega)]
      refine cf_c ?_ w e _ _ _
      exact ⟨rfl, rfl, rfl⟩
    · unfold d_101_s; rw [in25, in2]; exact ⟨rfl, rfl, rfl, rfl, rfl⟩
    · unfold d_101_s
      rw [in25, in2]
      show _ = if e < dE C then _ else (if 0 ≤ e ∧ e < 0 + dE C then _ else s1.2.2.2.2.2 e)
      rw [if_neg (by omega), if_neg (by omega)]
  have k := key _ s1
  exact ⟨congrArg Prod.fst k, congrArg Prod.snd k⟩
