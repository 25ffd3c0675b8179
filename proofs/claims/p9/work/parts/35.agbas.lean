/-! THE SECOND CHECKER IS SOUND: sums, intervals, new symbols -/
variable {ρ ρ' : Nat → Int} {env env' : ag_e}
def ag_in (ρ : Nat → Int) (env : ag_e) : Prop := ∀ (i : Nat) (q : Int × Int), env[i]? = some q → q.1 ≤ ρ i ∧ ρ i ≤ q.2
def ag_wt (m : Nat) (f : ag_f) : Prop := ∀ q ∈ f.1, q.1 < m
def ag_wv (m : Nat) (v : ag_v) : Prop := match v with
  | .inl f => ag_wt m f
  | .inr (.inl f) => ag_wt m f
  | .inr (.inr _) => True
def ag_c (ρ : Nat → Int) (v : ag_v) : Value := match v with
  | .inl f => .int (Int32.ofInt (ag_ev ρ f))
  | .inr (.inl f) => .long (Int64.ofInt (ag_ev ρ f))
  | .inr (.inr o) => .ref o
theorem ag_ts_ins (i : Nat) (c : Int) : ∀ t : List (Nat × Int), ag_ts ρ (ag_ins i c t) = c * ρ i + ag_ts ρ t
  | [] => rfl
  | q :: r => by
    unfold ag_ins
    rw [ae_beq, ae_cond]
    by_cases h : q.1 = i
    · rw [if_pos h, ae_cond]
      by_cases h2 : q.2 + c = 0
      · rw [if_pos h2]
        show ag_ts ρ r = c * ρ i + (q.2 * ρ q.1 + ag_ts ρ r)
        rw [h, ← Int.add_assoc, ← Int.add_mul, Int.add_comm c, h2, Int.zero_mul, Int.zero_add]
      · rw [if_neg h2]
        show (q.2 + c) * ρ i + ag_ts ρ r = c * ρ i + (q.2 * ρ q.1 + ag_ts ρ r)
        rw [h, ← Int.add_assoc, ← Int.add_mul, Int.add_comm c]
    · rw [if_neg h]
      cases Nat.blt i q.1 with
      | true => rfl
      | false =>
        show q.2 * ρ q.1 + ag_ts ρ (ag_ins i c r) = c * ρ i + (q.2 * ρ q.1 + ag_ts ρ r)
        rw [ag_ts_ins i c r]
        omega
theorem ag_ts_addt : ∀ t g : List (Nat × Int), ag_ts ρ (ag_addt t g) = ag_ts ρ t + ag_ts ρ g
  | [], g => by
    show ag_ts ρ g = 0 + ag_ts ρ g
    omega
  | q :: r, g => by
    show ag_ts ρ (ag_ins q.1 q.2 (ag_addt r g)) = q.2 * ρ q.1 + ag_ts ρ r + ag_ts ρ g
    rw [ag_ts_ins, ag_ts_addt r g]
    omega
theorem ag_ev_add (f g : ag_f) : ag_ev ρ (ag_add f g) = ag_ev ρ f + ag_ev ρ g := by
  show ag_ts ρ (ag_addt f.1 g.1) + (f.2 + g.2) = (ag_ts ρ f.1 + f.2) + (ag_ts ρ g.1 + g.2)
  rw [ag_ts_addt]
  omega
theorem ag_ts_scl (c : Int) : ∀ t : List (Nat × Int), ag_ts ρ (t.map (fun q => (q.1, c * q.2))) = c * ag_ts ρ t
  | [] => by
    show (0 : Int) = c * 0
    rw [Int.mul_zero]
  | q :: r => by
    show c * q.2 * ρ q.1 + ag_ts ρ (r.map (fun q => (q.1, c * q.2))) = c * (q.2 * ρ q.1 + ag_ts ρ r)
    rw [ag_ts_scl c r, Int.mul_add, Int.mul_assoc]
theorem ag_ev_scl (c : Int) (f : ag_f) : ag_ev ρ (ag_scl c f) = c * ag_ev ρ f := by
  unfold ag_scl
  rw [ae_cond]
  by_cases h : c = 0
  · rw [if_pos h, h, Int.zero_mul]
    rfl
  · rw [if_neg h]
    show ag_ts ρ (f.1.map (fun q => (q.1, c * q.2))) + c * f.2 = c * (ag_ts ρ f.1 + f.2)
    rw [ag_ts_scl, Int.mul_add]
theorem ag_ev_sub (f g : ag_f) : ag_ev ρ (ag_sub f g) = ag_ev ρ f - ag_ev ρ g := by
  unfold ag_sub
  rw [ag_ev_add, ag_ev_scl]
  omega
theorem ag_ev_k (c : Int) : ag_ev ρ (ag_k c) = c := by
  show 0 + c = c
  omega
theorem ag_ev_y (i : Nat) : ag_ev ρ (ag_y i) = ρ i := by
  show 1 * ρ i + 0 + 0 = ρ i
  omega
/-! which symbols -/
theorem ag_wt_ins {m i : Nat} {c : Int} (hi : i < m) : ∀ {t : List (Nat × Int)}, (∀ q ∈ t, q.1 < m) → ∀ q ∈ ag_ins i c t, q.1 < m
  | [], _, q, hq => by
    rcases List.mem_cons.mp hq with h | h
    · rw [h]; exact hi
    · exact absurd h List.not_mem_nil
  | p :: r, h, q, hq => by
    have hr : ∀ q ∈ r, q.1 < m := fun q hq => h q (List.mem_cons_of_mem _ hq)
    unfold ag_ins at hq
    cases h1 : Nat.beq p.1 i with
    | true =>
      rw [h1] at hq
      dsimp only [cond] at hq
      cases h2 : decide (p.2 + c = 0) with
      | true => rw [h2] at hq; exact hr q hq
      | false =>
        rw [h2] at hq
        rcases List.mem_cons.mp hq with h3 | h3
        · rw [h3]; exact hi
        · exact hr q h3
    | false =>
      rw [h1] at hq
      dsimp only [cond] at hq
      cases h2 : Nat.blt i p.1 with
      | true =>
        rw [h2] at hq
        rcases List.mem_cons.mp hq with h3 | h3
        · rw [h3]; exact hi
        · exact h q h3
      | false =>
        rw [h2] at hq
        rcases List.mem_cons.mp hq with h3 | h3
        · rw [h3]; exact h p List.mem_cons_self
        · exact ag_wt_ins hi hr q h3
theorem ag_wt_addt {m : Nat} : ∀ {t g : List (Nat × Int)}, (∀ q ∈ t, q.1 < m) → (∀ q ∈ g, q.1 < m) → ∀ q ∈ ag_addt t g, q.1 < m
  | [], _, _, hg => hg
  | p :: r, _, ht, hg => ag_wt_ins (ht p List.mem_cons_self) (ag_wt_addt (fun q hq => ht q (List.mem_cons_of_mem _ hq)) hg)
theorem ag_wt_add {m : Nat} {f g : ag_f} (hf : ag_wt m f) (hg : ag_wt m g) : ag_wt m (ag_add f g) := ag_wt_addt hf hg
theorem ag_wt_scl {m : Nat} {c : Int} {f : ag_f} (hf : ag_wt m f) : ag_wt m (ag_scl c f) := by
  unfold ag_scl
  cases decide (c = 0) with
  | true => exact fun q hq => absurd hq List.not_mem_nil
  | false =>
    intro q hq
    obtain ⟨p, hp, e⟩ := List.mem_map.mp (show q ∈ f.1.map (fun q => (q.1, c * q.2)) from hq)
    rw [← e]
    exact hf p hp
theorem ag_wt_sub {m : Nat} {f g : ag_f} (hf : ag_wt m f) (hg : ag_wt m g) : ag_wt m (ag_sub f g) := ag_wt_add hf (ag_wt_scl hg)
theorem ag_wt_k {m : Nat} {c : Int} : ag_wt m (ag_k c) := fun _ hq => absurd hq List.not_mem_nil
theorem ag_wt_y {m i : Nat} (h : i < m) : ag_wt m (ag_y i) := by
  intro q hq
  rcases List.mem_cons.mp (show q ∈ [(i, (1 : Int))] from hq) with h3 | h3
  · rw [h3]; exact h
  · exact absurd h3 List.not_mem_nil
theorem ag_wt.up {m n : Nat} {f : ag_f} (h : ag_wt m f) (hn : m ≤ n) : ag_wt n f := fun q hq => Nat.lt_of_lt_of_le (h q hq) hn
theorem ag_wv.up {m n : Nat} {v : ag_v} (h : ag_wv m v) (hn : m ≤ n) : ag_wv n v := by
  rcases v with f | f | o
  · exact ag_wt.up h hn
  · exact ag_wt.up h hn
  · trivial
theorem ag_ts_same {m : Nat} (hs : ∀ i, i < m → ρ' i = ρ i) : ∀ {t : List (Nat × Int)}, (∀ q ∈ t, q.1 < m) → ag_ts ρ' t = ag_ts ρ t
  | [], _ => rfl
  | q :: r, h => by
    show q.2 * ρ' q.1 + ag_ts ρ' r = q.2 * ρ q.1 + ag_ts ρ r
    rw [hs q.1 (h q List.mem_cons_self), ag_ts_same hs (fun p hp => h p (List.mem_cons_of_mem _ hp))]
theorem ag_ev_same {m : Nat} (hs : ∀ i, i < m → ρ' i = ρ i) {f : ag_f} (h : ag_wt m f) : ag_ev ρ' f = ag_ev ρ f := by
  unfold ag_ev
  rw [ag_ts_same hs h]
theorem ag_c_same {m : Nat} (hs : ∀ i, i < m → ρ' i = ρ i) {v : ag_v} (h : ag_wv m v) : ag_c ρ' v = ag_c ρ v := by
  rcases v with f | f | o
  · show Value.int _ = Value.int _
    rw [ag_ev_same hs h]
  · show Value.long _ = Value.long _
    rw [ag_ev_same hs h]
  · rfl
/-! intervals -/
theorem ag_ivt_ok (hin : ag_in ρ env) : ∀ {t : List (Nat × Int)} {z : Int × Int}, ag_ivt env t = some z → z.1 ≤ ag_ts ρ t ∧ ag_ts ρ t ≤ z.2
  | [], z, h => by
    cases h
    exact ⟨Int.le_refl _, Int.le_refl _⟩
  | q :: r, z, h => by
    unfold ag_ivt at h
    split at h
    · rename_i w hw
      split at h
      · rename_i y hy
        have h1 := hin q.1 w hw
        have h2 := ag_ivt_ok hin hy
        have e := Option.some.inj h
        rw [ae_cond] at e
        show z.1 ≤ q.2 * ρ q.1 + ag_ts ρ r ∧ q.2 * ρ q.1 + ag_ts ρ r ≤ z.2
        by_cases h3 : 0 ≤ q.2
        · rw [if_pos h3] at e
          rw [← e]
          have a1 := Int.mul_le_mul_of_nonneg_left h1.1 h3
          have a2 := Int.mul_le_mul_of_nonneg_left h1.2 h3
          exact ⟨by show q.2 * w.1 + y.1 ≤ _; omega, by show _ ≤ q.2 * w.2 + y.2; omega⟩
        · rw [if_neg h3] at e
          rw [← e]
          have a1 := Int.mul_le_mul_of_nonpos_left (show q.2 ≤ 0 by omega) h1.1
          have a2 := Int.mul_le_mul_of_nonpos_left (show q.2 ≤ 0 by omega) h1.2
          exact ⟨by show q.2 * w.2 + y.1 ≤ _; omega, by show _ ≤ q.2 * w.1 + y.2; omega⟩
      · cases h
    · cases h
theorem ag_iv_ok (hin : ag_in ρ env) {f : ag_f} {z : Int × Int} (h : ag_iv env f = some z) : z.1 ≤ ag_ev ρ f ∧ ag_ev ρ f ≤ z.2 := by
  unfold ag_iv at h
  split at h
  · rename_i y hy
    have h1 := ag_ivt_ok hin hy
    cases h
    unfold ag_ev
    exact ⟨by show y.1 + f.2 ≤ _; omega, by show _ ≤ y.2 + f.2; omega⟩
  · cases h
/-- a term against the whole -/
theorem ag_ivt_term (hin : ag_in ρ env) : ∀ {t : List (Nat × Int)} {z : Int × Int} {i : Nat} {c : Int} {w : Int × Int}, ag_ivt env t = some z → (i, c) ∈ t → env[i]? = some w → (c = 1 → ag_ts ρ t ≤ ρ i + (z.2 - w.2)) ∧ (c = -1 → ag_ts ρ t ≤ z.2 + w.1 - ρ i)
  | [], _, _, _, _, _, hm, _ => absurd hm List.not_mem_nil
  | q :: r, z, i, c, w, h, hm, hw => by
    unfold ag_ivt at h
    split at h
    · rename_i w' hw'
      split at h
      · rename_i y hy
        have h1 := hin q.1 w' hw'
        have h2 := ag_ivt_ok hin hy
        have e := Option.some.inj h
        rw [ae_cond] at e
        have ht : ag_ts ρ (q :: r) = q.2 * ρ q.1 + ag_ts ρ r := rfl
        rw [ht]
        rcases List.mem_cons.mp hm with h3 | h3
        · subst h3
          rw [hw] at hw'
          cases hw'
          refine ⟨fun hc => ?_, fun hc => ?_⟩
          · subst hc
            rw [if_pos (show (0 : Int) ≤ 1 by decide)] at e
            rw [← e]
            show 1 * ρ i + ag_ts ρ r ≤ ρ i + (1 * w.2 + y.2 - w.2)
            omega
          · subst hc
            rw [if_neg (show ¬ (0 : Int) ≤ -1 by decide)] at e
            rw [← e]
            show -1 * ρ i + ag_ts ρ r ≤ -1 * w.1 + y.2 + w.1 - ρ i
            omega
        · have h4 := ag_ivt_term hin hy h3 hw
          have h5 : q.2 * ρ q.1 ≤ z.2 - y.2 := by
            by_cases h6 : 0 ≤ q.2
            · rw [if_pos h6] at e
              rw [← e]
              have a2 := Int.mul_le_mul_of_nonneg_left h1.2 h6
              show _ ≤ q.2 * w'.2 + y.2 - y.2
              omega
            · rw [if_neg h6] at e
              rw [← e]
              have a1 := Int.mul_le_mul_of_nonpos_left (show q.2 ≤ 0 by omega) h1.1
              show _ ≤ q.2 * w'.1 + y.2 - y.2
              omega
          refine ⟨fun hc => ?_, fun hc => ?_⟩
          · have := h4.1 hc
            omega
          · have := h4.2 hc
            omega
      · cases h
    · cases h
theorem ag_in_set {i : Nat} {q : Int × Int} (hin : ag_in ρ env) (h1 : q.1 ≤ ρ i) (h2 : ρ i ≤ q.2) : ag_in ρ (env.set i q) := by
  intro j w hw
  by_cases hj : j = i
  · subst hj
    rw [List.getElem?_set] at hw
    split at hw
    · split at hw
      · cases hw
        exact ⟨h1, h2⟩
      · cases hw
    · rename_i hne
      exact absurd rfl hne
  · rw [List.getElem?_set_ne (fun z => hj z.symm)] at hw
    exact hin j w hw
theorem ag_fold_ok {env0 : ag_e} (hin0 : ag_in ρ env0) {g : ag_f} {z : Int × Int} (hz : ag_ivt env0 g.1 = some z) (hg : 0 ≤ ag_ev ρ g) :
    ∀ (t : List (Nat × Int)) (env : ag_e), (∀ q ∈ t, q ∈ g.1) → ag_in ρ env → env.length = env0.length → (∀ (i : Nat) (w w0 : Int × Int), env[i]? = some w → env0[i]? = some w0 → w0.1 ≤ w.1 ∧ w.2 ≤ w0.2) → ag_in ρ (t.foldl (ag_rf1 (z.2 + g.2)) env) ∧ (t.foldl (ag_rf1 (z.2 + g.2)) env).length = env0.length
  | [], env, _, h, hl, _ => ⟨h, hl⟩
  | q :: r, env, ht, h, hl, hb => by
    have hr : ∀ p ∈ r, p ∈ g.1 := fun p hp => ht p (List.mem_cons_of_mem _ hp)
    have hev : ag_ev ρ g = ag_ts ρ g.1 + g.2 := rfl
    show ag_in ρ (r.foldl _ (ag_rf1 (z.2 + g.2) env q)) ∧ _
    have key : ag_in ρ (ag_rf1 (z.2 + g.2) env q) ∧ (ag_rf1 (z.2 + g.2) env q).length = env0.length ∧ (∀ (i : Nat) (w w0 : Int × Int), (ag_rf1 (z.2 + g.2) env q)[i]? = some w → env0[i]? = some w0 → w0.1 ≤ w.1 ∧ w.2 ≤ w0.2) := by
      unfold ag_rf1
      split
      · rename_i w hw
        have hlt : q.1 < env0.length := by rw [← hl]; exact (List.getElem?_eq_some_iff.mp hw).1
        have hw0 : env0[q.1]? = some env0[q.1] := List.getElem?_eq_getElem hlt
        have b := hb q.1 w _ hw hw0
        have i1 := h q.1 w hw
        have tm := ag_ivt_term hin0 (i := q.1) (c := q.2) hz (ht q List.mem_cons_self) hw0
        have upd : ∀ w' : Int × Int, w'.1 ≤ ρ q.1 → ρ q.1 ≤ w'.2 → (env0[q.1]).1 ≤ w'.1 → w'.2 ≤ (env0[q.1]).2 → ag_in ρ (env.set q.1 w') ∧ (env.set q.1 w').length = env0.length ∧ (∀ (i : Nat) (w w0 : Int × Int), (env.set q.1 w')[i]? = some w → env0[i]? = some w0 → w0.1 ≤ w.1 ∧ w.2 ≤ w0.2) := by
          intro w' a1 a2 a3 a4
          refine ⟨ag_in_set h a1 a2, by rw [List.length_set]; exact hl, fun i w w0 e1 e2 => ?_⟩
          by_cases hi : i = q.1
          · subst hi
            rw [List.getElem?_set_self (by rw [hl]; exact hlt)] at e1
            rw [hw0] at e2
            cases e1
            cases e2
            exact ⟨a3, a4⟩
          · rw [List.getElem?_set_ne (fun z => hi z.symm)] at e1
            exact hb i w w0 e1 e2
        rw [ae_cond, ae_cond]
        by_cases c1 : q.2 = 1
        · rw [if_pos c1]
          have := tm.1 c1
          exact upd _ (by show max w.1 (w.2 - (z.2 + g.2)) ≤ _; omega) i1.2 (by show _ ≤ max w.1 (w.2 - (z.2 + g.2)); omega) b.2
        · rw [if_neg c1]
          by_cases c2 : q.2 = -1
          · rw [if_pos c2]
            have := tm.2 c2
            exact upd _ i1.1 (by show _ ≤ min w.2 (w.1 + (z.2 + g.2)); omega) b.1 (by show min w.2 (w.1 + (z.2 + g.2)) ≤ _; omega)
          · rw [if_neg c2]
            exact ⟨h, hl, hb⟩
      · exact ⟨h, hl, hb⟩
    exact ag_fold_ok hin0 hz hg r _ hr key.1 key.2.1 key.2.2
theorem ag_ge_ok (hin : ag_in ρ env) {g : ag_f} {k : ag_e → Bool} (hg : 0 ≤ ag_ev ρ g) (hs : ag_ge env g k = true) : ∃ env', ag_in ρ env' ∧ env'.length = env.length ∧ k env' = true := by
  unfold ag_ge at hs
  split at hs
  · rename_i w hw
    have h1 := ag_iv_ok hin hw
    rw [ae_cond, if_neg (by omega), ae_cond] at hs
    by_cases h2 : 0 ≤ w.1
    · rw [if_pos h2] at hs
      exact ⟨env, hin, rfl, hs⟩
    · rw [if_neg h2] at hs
      unfold ag_iv at hw
      split at hw
      · rename_i z hz
        cases hw
        obtain ⟨a1, a2⟩ := ag_fold_ok hin hz hg g.1 env (fun _ h => h) hin rfl (fun i w w0 e1 e2 => by rw [e1] at e2; cases e2; exact ⟨Int.le_refl _, Int.le_refl _⟩)
        exact ⟨_, a1, a2, hs⟩
      · cases hw
  · cases hs
theorem ag_eq_ok (hin : ag_in ρ env) {g : ag_f} {k : ag_e → Bool} (hg : ag_ev ρ g = 0) (hs : ag_eq env g k = true) : ∃ env', ag_in ρ env' ∧ env'.length = env.length ∧ k env' = true := by
  obtain ⟨e1, i1, l1, h1⟩ := ag_ge_ok hin (by omega) hs
  obtain ⟨e2, i2, l2, h2⟩ := ag_ge_ok i1 (by rw [ag_ev_scl]; omega) h1
  exact ⟨e2, i2, l2.trans l1, h2⟩
theorem ag_ne_ok (hin : ag_in ρ env) {g : ag_f} {k : ag_e → Bool} (hg : ¬ ag_ev ρ g = 0) (hs : ag_ne env g k = true) : ∃ env', ag_in ρ env' ∧ env'.length = env.length ∧ k env' = true := by
  unfold ag_ne at hs
  split at hs
  · rename_i w hw
    have h1 := ag_iv_ok hin hw
    rw [ae_cond, ae_cond] at hs
    by_cases h2 : w.1 = 0
    · rw [if_pos h2] at hs
      exact ag_ge_ok hin (by rw [ag_ev_sub, ag_ev_k]; omega) hs
    · rw [if_neg h2] at hs
      by_cases h3 : w.2 = 0
      · rw [if_pos h3] at hs
        exact ag_ge_ok hin (by rw [ag_ev_sub, ag_ev_k, ag_ev_scl]; omega) hs
      · rw [if_neg h3] at hs
        exact ⟨env, hin, rfl, hs⟩
  · cases hs
theorem ag_cmp_ok (hin : ag_in ρ env) {q : Jvm.ClassFile.Cond} {x y : ag_f} {k : ag_e → Bool → Bool} (hs : ag_cmp env q x y k = true) : ∃ env' t, ag_in ρ env' ∧ env'.length = env.length ∧ (ae_ti q (ag_ev ρ x) (ag_ev ρ y) ↔ t = true) ∧ k env' t = true := by
  have gg : ∀ {g : ag_f} {t : Bool}, 0 ≤ ag_ev ρ g → ag_ge env g (fun e => k e t) = true → ∃ env', ag_in ρ env' ∧ env'.length = env.length ∧ k env' t = true := fun h1 h2 => ag_ge_ok hin h1 h2
  unfold ag_cmp at hs
  cases q <;> rw [Bool.and_eq_true] at hs <;> obtain ⟨s1, s2⟩ := hs
  case eq =>
    by_cases h : ag_ev ρ x = ag_ev ρ y
    · obtain ⟨e, a, b, c⟩ := ag_eq_ok hin (by rw [ag_ev_sub]; omega) s1
      exact ⟨e, true, a, b, ⟨fun _ => rfl, fun _ => h⟩, c⟩
    · obtain ⟨e, a, b, c⟩ := ag_ne_ok hin (by rw [ag_ev_sub]; omega) s2
      exact ⟨e, false, a, b, ⟨fun z => absurd z h, fun z => Bool.noConfusion z⟩, c⟩
  case ne =>
    by_cases h : ag_ev ρ x = ag_ev ρ y
    · obtain ⟨e, a, b, c⟩ := ag_eq_ok hin (by rw [ag_ev_sub]; omega) s2
      exact ⟨e, false, a, b, ⟨fun z => absurd h z, fun z => Bool.noConfusion z⟩, c⟩
    · obtain ⟨e, a, b, c⟩ := ag_ne_ok hin (by rw [ag_ev_sub]; omega) s1
      exact ⟨e, true, a, b, ⟨fun _ => rfl, fun _ => h⟩, c⟩
  case lt =>
    by_cases h : ag_ev ρ x < ag_ev ρ y
    · obtain ⟨e, a, b, c⟩ := gg (by rw [ag_ev_sub, ag_ev_sub, ag_ev_k]; omega) s1
      exact ⟨e, true, a, b, ⟨fun _ => rfl, fun _ => h⟩, c⟩
    · obtain ⟨e, a, b, c⟩ := gg (by rw [ag_ev_sub]; omega) s2
      exact ⟨e, false, a, b, ⟨fun z => absurd z h, fun z => Bool.noConfusion z⟩, c⟩
  case ge =>
    by_cases h : ag_ev ρ y ≤ ag_ev ρ x
    · obtain ⟨e, a, b, c⟩ := gg (by rw [ag_ev_sub]; omega) s1
      exact ⟨e, true, a, b, ⟨fun _ => rfl, fun _ => h⟩, c⟩
    · obtain ⟨e, a, b, c⟩ := gg (by rw [ag_ev_sub, ag_ev_sub, ag_ev_k]; omega) s2
      exact ⟨e, false, a, b, ⟨fun z => absurd z h, fun z => Bool.noConfusion z⟩, c⟩
  case gt =>
    by_cases h : ag_ev ρ y < ag_ev ρ x
    · obtain ⟨e, a, b, c⟩ := gg (by rw [ag_ev_sub, ag_ev_sub, ag_ev_k]; omega) s1
      exact ⟨e, true, a, b, ⟨fun _ => rfl, fun _ => h⟩, c⟩
    · obtain ⟨e, a, b, c⟩ := gg (by rw [ag_ev_sub]; omega) s2
      exact ⟨e, false, a, b, ⟨fun z => absurd z h, fun z => Bool.noConfusion z⟩, c⟩
  case le =>
    by_cases h : ag_ev ρ x ≤ ag_ev ρ y
    · obtain ⟨e, a, b, c⟩ := gg (by rw [ag_ev_sub]; omega) s1
      exact ⟨e, true, a, b, ⟨fun _ => rfl, fun _ => h⟩, c⟩
    · obtain ⟨e, a, b, c⟩ := gg (by rw [ag_ev_sub, ag_ev_sub, ag_ev_k]; omega) s2
      exact ⟨e, false, a, b, ⟨fun z => absurd z h, fun z => Bool.noConfusion z⟩, c⟩
