/-! THE SECOND CHECKER IS SOUND: what is written, the state -/
variable {ρ ρ' : Nat → Int} {env env' : ag_e} {D : ag_D} {M : ag_M} {h0 h : am_H} {H : ag_H}
theorem ag_inM_at {o n : Nat} {lo hi : Int} (hs : ag_inM M o lo hi = true) (h1 : lo ≤ n) (h2 : (n : Int) ≤ hi) : ag_atM M o n = true := by
  obtain ⟨q, hq, hh⟩ := List.any_eq_true.mp hs
  rw [Bool.and_eq_true, Bool.and_eq_true, decide_eq_true_eq, decide_eq_true_eq] at hh
  refine List.any_eq_true.mpr ⟨q, hq, ?_⟩
  rw [Bool.and_eq_true, Bool.and_eq_true]
  exact ⟨hh.1, Nat.ble_eq_true_of_le (by omega), Nat.ble_eq_true_of_le (by omega)⟩
/-- places that no checked method writes -/
def ag_kp (o k : Nat) : Prop := o = 156 ∨ ((o = 161 ∨ o = 162) ∧ k < 1100) ∨ (o = 160 ∧ k = 3)
theorem ag_Mok_at (hM : ag_Mok M = true) {o k : Nat} (hk : ag_kp o k) : ag_atM M o k = false := by
  cases hb : ag_atM M o k with
  | false => rfl
  | true =>
    obtain ⟨q, hq, hh⟩ := List.any_eq_true.mp hb
    have hm := List.all_eq_true.mp hM q hq
    rw [Bool.and_eq_true, Bool.and_eq_true] at hh
    obtain ⟨a1, a2, a3⟩ := hh
    have a1 := Nat.eq_of_beq_eq_true a1
    have a2 := Nat.le_of_ble_eq_true a2
    have a3 := Nat.le_of_ble_eq_true a3
    simp only [Bool.and_eq_true, Bool.or_eq_true, Bool.not_eq_true', ae_beq, decide_eq_false_iff_not, Nat.ble_eq] at hm
    obtain ⟨b1, b2, b3, b4⟩ := hm
    rcases hk with k1 | ⟨k1 | k1, k2⟩ | ⟨k1, k2⟩
    · exact absurd (a1.trans k1) b1
    · rcases b2 with b2 | b2
      · exact absurd (a1.trans k1) b2
      · omega
    · rcases b3 with b3 | b3
      · exact absurd (a1.trans k1) b3
      · omega
    · have e1 := a1.trans k1
      have e2 : Nat.ble q.2.1 3 = true := Nat.ble_eq_true_of_le (by omega)
      have e3 : Nat.ble 3 q.2.2 = true := Nat.ble_eq_true_of_le (by omega)
      rw [e1, e2, e3] at b4
      exact absurd b4 (by decide)
theorem ag_out_mem {α : Type} {l : List (Nat × Nat × α)} {o n : Nat} {lo hi : Int} {q : Nat × Nat × α} (hq : q ∈ ag_out l o lo hi) (h1 : lo ≤ n) (h2 : (n : Int) ≤ hi) : q ∈ l ∧ ¬ (q.1 = o ∧ q.2.1 = n) := by
  obtain ⟨a, b⟩ := List.mem_filter.mp hq
  refine ⟨a, fun z => ?_⟩
  rw [ae_beq, decide_eq_true z.1, z.2, decide_eq_true h1, decide_eq_true h2] at b
  exact absurd b (by decide)
theorem ag_wI_ok {m : Nat} (hM : ag_Mok M = true) (hp : ag_Hp D M h0 ρ m H h) {o n : Nat} {j v : ag_f} {lo hi a b : Int} {x : Int32} (hn : ag_ev ρ j = (n : Int)) (h1 : lo ≤ n) (h2 : (n : Int) ≤ hi) (hv : ag_wt m v) (hx : x = Int32.ofInt (ag_ev ρ v)) (hx1 : x.toInt = ag_ev ρ v) (ha : a ≤ ag_ev ρ v) (hb : ag_ev ρ v ≤ b) {K : ag_H → Bool} (hs : ag_wI D M H o j lo hi v a b K = true) : ∃ H', ag_Hp D M h0 ρ m H' (am_wI h o n x) ∧ K H' = true := by
  unfold ag_wI at hs
  rw [Bool.and_eq_true, Bool.and_eq_true] at hs
  obtain ⟨s1, s2, s3⟩ := hs
  refine ⟨_, ?_, s3⟩
  have hat := ag_inM_at s1 h1 h2
  obtain ⟨a1, a2, a3, a4, a5, a6, a7, a8⟩ := hp
  have hne : ¬ o = 156 := by
    intro z
    have := ag_Mok_at hM (o := o) (k := n) (Or.inl z)
    rw [hat] at this
    cases this
  refine ⟨a1, ⟨fun o' s hs k => ?_, a2.2.1, a2.2.2⟩, fun q hq => ?_, a4, a5, ⟨a6.1, fun q hq => ?_⟩, ⟨a7.1, ?_⟩, a8.1, fun o' k' hk => ?_⟩
  · show ag_seg s k (if o' = o ∧ k = n then x else h.1 o' k)
    by_cases e : o' = o ∧ k = n
    · rw [if_pos e]
      obtain ⟨e1, e2⟩ := e
      subst e1
      subst e2
      have w := List.all_eq_true.mp s2 s hs
      intro k1 k2 k3
      simp only [Bool.or_eq_true, Bool.and_eq_true, decide_eq_true_eq] at w
      rcases w with (w | w) | w | w
      · omega
      · omega
      · split at w
        · rename_i r hr
          have e3 := ag_rs_ok hr hn h1 h2
          rw [ae_beq, decide_eq_true (e3.symm.trans k3)] at w
          cases w
        · cases w
      · rw [hx1]
        omega
    · rw [if_neg e]
      exact a2.1 o' s hs k
  · show ag_wt m q.2.2 ∧ (if q.1 = o ∧ q.2.1 = n then x else h.1 q.1 q.2.1) = _
    rw [ae_cond] at hq
    by_cases e1 : lo = hi
    · rw [if_pos e1] at hq
      rcases List.mem_cons.mp hq with e | e
      · have en : lo.toNat = n := by omega
        rw [e]
        refine ⟨hv, ?_⟩
        show (if o = o ∧ lo.toNat = n then x else h.1 o lo.toNat) = _
        rw [if_pos ⟨rfl, en⟩]
        exact hx
      · obtain ⟨b1, b2⟩ := ag_out_mem e h1 h2
        rw [if_neg b2]
        exact a3 q b1
    · rw [if_neg e1] at hq
      obtain ⟨b1, b2⟩ := ag_out_mem hq h1 h2
      rw [if_neg b2]
      exact a3 q b1
  · obtain ⟨q1, q2⟩ := List.mem_filter.mp hq
    refine ⟨(a6.2 q q1).1, xf_keep (fun s hs k k1 k2 => ?_) (a6.2 q q1).2⟩
    have w := List.all_eq_true.mp q2 s hs
    show (if s.1 = o ∧ k = n then x else h.1 s.1 k) = h.1 s.1 k
    refine if_neg (fun z => ?_)
    rw [ae_beq, decide_eq_true z.1, decide_eq_true (show lo ≤ (s.2.2 : Int) by omega), decide_eq_true (show (s.2.1 : Int) ≤ hi by omega)] at w
    cases w
  · show (if 156 = o ∧ (ρ 0).toNat = n then x else h.1 156 (ρ 0).toNat) = 0
    rw [if_neg (fun z => hne z.1.symm)]
    exact a7.2
  · have hh := a8.2 o' k' hk
    refine ⟨?_, hh.2⟩
    show (if o' = o ∧ k' = n then x else h.1 o' k') = _
    rw [if_neg (fun z => by rw [z.1, z.2, hat] at hk; cases hk)]
    exact hh.1
theorem ag_wL_ok {m : Nat} (hDL : ∀ o k, ¬ o = 154 → D.2.1 o k = (-9223372036854775808, 9223372036854775807)) (hp : ag_Hp D M h0 ρ m H h) {o n : Nat} {v : ag_f} {lo hi a b : Int} {x : Int64} (h1 : lo ≤ n) (h2 : (n : Int) ≤ hi) (hv : ag_wt m v) (hx : x = Int64.ofInt (ag_ev ρ v)) (hx1 : x.toInt = ag_ev ρ v) (ha : a ≤ ag_ev ρ v) (hb : ag_ev ρ v ≤ b) {K : ag_H → Bool} (hs : ag_wL D M H o lo hi v a b K = true) : ∃ H', ag_Hp D M h0 ρ m H' (am_wL h o n x) ∧ K H' = true := by
  unfold ag_wL at hs
  rw [Bool.and_eq_true, Bool.and_eq_true] at hs
  obtain ⟨s1, s2, s3⟩ := hs
  refine ⟨_, ?_, s3⟩
  have hat := ag_inM_at s1 h1 h2
  obtain ⟨a1, a2, a3, a4, a5, a6, a7, a8⟩ := hp
  refine ⟨a1, ⟨a2.1, fun o' k' => ?_, a2.2.2⟩, a3, fun q hq => ?_, a5, ⟨a6.1, fun q hq => ⟨(a6.2 q hq).1, xf_keep (fun _ _ _ _ _ => rfl) (a6.2 q hq).2⟩⟩, a7, a8.1, fun o' k' hk => ?_⟩
  · show (D.2.1 o' k').1 ≤ (if o' = o ∧ k' = n then x else h.2.1 o' k').toInt ∧ (if o' = o ∧ k' = n then x else h.2.1 o' k').toInt ≤ (D.2.1 o' k').2
    by_cases e : o' = o ∧ k' = n
    · rw [if_pos e]
      obtain ⟨e1, e2⟩ := e
      subst e1
      subst e2
      rw [ae_cond] at s2
      by_cases e1 : lo = hi
      · rw [if_pos e1] at s2
        have en : lo.toNat = k' := by omega
        rw [en, Bool.and_eq_true, decide_eq_true_eq, decide_eq_true_eq] at s2
        rw [hx1]
        exact ⟨Int.le_trans s2.1 ha, Int.le_trans hb s2.2⟩
      · rw [if_neg e1, ae_beq] at s2
        have : ¬ o' = 154 := by
          intro z
          rw [decide_eq_true z] at s2
          cases s2
        rw [hDL o' k' this]
        exact ag_i64r x
    · rw [if_neg e]
      exact a2.2.1 o' k'
  · show ag_wt m q.2.2 ∧ (if q.1 = o ∧ q.2.1 = n then x else h.2.1 q.1 q.2.1) = _
    rw [ae_cond] at hq
    by_cases e1 : lo = hi
    · rw [if_pos e1] at hq
      rcases List.mem_cons.mp hq with e | e
      · have en : lo.toNat = n := by omega
        rw [e]
        refine ⟨hv, ?_⟩
        show (if o = o ∧ lo.toNat = n then x else h.2.1 o lo.toNat) = _
        rw [if_pos ⟨rfl, en⟩]
        exact hx
      · obtain ⟨b1, b2⟩ := ag_out_mem e h1 h2
        rw [if_neg b2]
        exact a4 q b1
    · rw [if_neg e1] at hq
      obtain ⟨b1, b2⟩ := ag_out_mem hq h1 h2
      rw [if_neg b2]
      exact a4 q b1
  · have hh := a8.2 o' k' hk
    refine ⟨hh.1, ?_, hh.2.2⟩
    show (if o' = o ∧ k' = n then x else h.2.1 o' k') = _
    rw [if_neg (fun z => by rw [z.1, z.2, hat] at hk; cases hk)]
    exact hh.2.1
theorem ag_wR_ok {m : Nat} (hp : ag_Hp D M h0 ρ m H h) {o n x : Nat} (s1 : ag_inM M o n n = true) (s2 : (ag_lk D.2.2.1 o n).isNone = true) : ag_Hp D M h0 ρ m (H.1, H.2.1, (o, n, x) :: ag_out H.2.2.1 o n n, H.2.2.2) (am_wR h o n (some x)) := by
  have hat := ag_inM_at s1 (Int.le_refl _) (Int.le_refl _)
  obtain ⟨a1, a2, a3, a4, a5, a6, a7, a8⟩ := hp
  refine ⟨a1, ⟨a2.1, a2.2.1, fun o' k' r hr => ?_⟩, a3, a4, fun q hq => ?_, ⟨a6.1, fun q hq => ⟨(a6.2 q hq).1, xf_keep (fun _ _ _ _ _ => rfl) (a6.2 q hq).2⟩⟩, a7, a8.1, fun o' k' hk => ?_⟩
  · show (if o' = o ∧ k' = n then some x else h.2.2.1 o' k') = some r
    rw [if_neg (fun z => by rw [z.1, z.2] at hr; rw [hr] at s2; cases s2)]
    exact a2.2.2 o' k' r hr
  · show (if q.1 = o ∧ q.2.1 = n then some x else h.2.2.1 q.1 q.2.1) = some q.2.2
    rcases List.mem_cons.mp hq with e | e
    · rw [e, if_pos ⟨rfl, rfl⟩]
    · obtain ⟨b1, b2⟩ := ag_out_mem e (Int.le_refl (n : Int)) (Int.le_refl (n : Int))
      rw [if_neg b2]
      exact a5 q b1
  · have hh := a8.2 o' k' hk
    refine ⟨hh.1, hh.2.1, ?_⟩
    show (if o' = o ∧ k' = n then some x else h.2.2.1 o' k') = _
    rw [if_neg (fun z => by rw [z.1, z.2, hat] at hk; cases hk)]
    exact hh.2.2
/-! the state -/
def ag_cl (ρ : Nat → Int) (lv : ag_l) : am_V := lv.map (fun q => (q.1, ag_c ρ q.2))
def ag_wl (m : Nat) (lv : ag_l) : Prop := ∀ q ∈ lv, ag_wv m q.2
def ag_ws (m : Nat) (st : List ag_v) : Prop := ∀ v ∈ st, ag_wv m v
/-- locals that are among others -/
def ag_lR (lv lv' : am_V) : Prop := ∀ q ∈ lv, am_lk lv' q.1 = some q.2
def ag_St (D : ag_D) (M : ag_M) (h0 : am_H) (ρ : Nat → Int) (env : ag_e) (lv : ag_l) (st : List ag_v) (H : ag_H) (lvc : am_V) (stc : List Value) (h : am_H) : Prop :=
  ag_in ρ env ∧ (ag_wl env.length lv ∧ ag_lR (ag_cl ρ lv) lvc) ∧ (ag_ws env.length st ∧ stc = st.map (ag_c ρ)) ∧ ag_Hp D M h0 ρ env.length H h
theorem ag_cl_same {m : Nat} (hs : ∀ i, i < m → ρ' i = ρ i) {lv : ag_l} (hw : ag_wl m lv) : ag_cl ρ' lv = ag_cl ρ lv := by
  unfold ag_cl
  apply List.map_congr_left
  intro q hq
  rw [ag_c_same hs (hw q hq)]
theorem ag_st_same {m : Nat} (hs : ∀ i, i < m → ρ' i = ρ i) {st : List ag_v} (hw : ag_ws m st) : st.map (ag_c ρ') = st.map (ag_c ρ) := by
  apply List.map_congr_left
  intro q hq
  rw [ag_c_same hs (hw q hq)]
theorem ag_wl.up {m n : Nat} {lv : ag_l} (h : ag_wl m lv) (hn : m ≤ n) : ag_wl n lv := fun q hq => (h q hq).up hn
theorem ag_ws.up {m n : Nat} {st : List ag_v} (h : ag_ws m st) (hn : m ≤ n) : ag_ws n st := fun q hq => (h q hq).up hn
theorem ag_lv_mem : ∀ {lv : ag_l} {i : Nat} {v : ag_v}, ag_lv lv i = some v → (i, v) ∈ lv
  | q :: r, i, v, h => by
    unfold ag_lv at h
    rw [ae_beq, ae_cond] at h
    by_cases hh : q.1 = i
    · rw [if_pos hh] at h
      cases h
      rw [← hh]
      exact List.mem_cons_self
    · rw [if_neg hh] at h
      exact List.mem_cons_of_mem _ (ag_lv_mem h)
theorem ag_lv_c (lv : ag_l) (i : Nat) : am_lk (ag_cl ρ lv) i = (ag_lv lv i).map (ag_c ρ) := by
  induction lv with
  | nil => rfl
  | cons q r ih =>
    show (bif Nat.beq q.1 i then some (ag_c ρ q.2) else am_lk (ag_cl ρ r) i) = (bif Nat.beq q.1 i then some q.2 else ag_lv r i).map (ag_c ρ)
    rw [ih]
    cases Nat.beq q.1 i <;> rfl
theorem ag_cat_c (a : ag_v) : (ag_c ρ a).category = ag_cat a := by
  rcases a with f | f | o <;> rfl
theorem ag_s1_c (lv : ag_l) (i : Nat) (v : ag_v) : ag_cl ρ (ag_s1 lv i v) = am_s1 (ag_cl ρ lv) i (ag_c ρ v) := by
  simp only [ag_cl, ag_s1, am_s1, List.map_cons, List.filter_map]
  congr 2
  apply List.filter_congr
  intro q _
  simp only [ae_beq, Function.comp, ag_cat_c]
  rfl
theorem ag_s2_c (lv : ag_l) (i : Nat) (v : ag_v) : ag_cl ρ (ag_s2 lv i v) = am_s2 (ag_cl ρ lv) i (ag_c ρ v) := by
  simp only [ag_cl, ag_s2, am_s2, List.map_cons, List.filter_map]
  congr 2
  apply List.filter_congr
  intro q _
  simp only [ae_beq, Function.comp, ag_cat_c]
  rfl
theorem ag_wl_s1 {m : Nat} {lv : ag_l} {i : Nat} {v : ag_v} (h : ag_wl m lv) (hv : ag_wv m v) : ag_wl m (ag_s1 lv i v) := by
  intro q hq
  rcases List.mem_cons.mp hq with e | e
  · rw [e]; exact hv
  · exact h q (List.mem_filter.mp e).1
theorem ag_wl_s2 {m : Nat} {lv : ag_l} {i : Nat} {v : ag_v} (h : ag_wl m lv) (hv : ag_wv m v) : ag_wl m (ag_s2 lv i v) := by
  intro q hq
  rcases List.mem_cons.mp hq with e | e
  · rw [e]; exact hv
  · exact h q (List.mem_filter.mp e).1
theorem ag_ws_cons {m : Nat} {st : List ag_v} {v : ag_v} (h : ag_ws m st) (hv : ag_wv m v) : ag_ws m (v :: st) := by
  intro q hq
  rcases List.mem_cons.mp hq with e | e
  · rw [e]; exact hv
  · exact h q e
theorem ag_pop_c : ∀ (n : Nat) (acc st : List ag_v), am_pop n (acc.map (ag_c ρ)) (st.map (ag_c ρ)) = (ag_pop n acc st).map (fun q => (q.1.map (ag_c ρ), q.2.map (ag_c ρ)))
  | 0, acc, st => rfl
  | n + 1, acc, v :: st => ag_pop_c n (v :: acc) st
  | n + 1, acc, [] => rfl
theorem ag_pop_w {m : Nat} : ∀ (n : Nat) (acc st As r : List ag_v), ag_pop n acc st = some (As, r) → ag_ws m acc → ag_ws m st → ag_ws m As ∧ ag_ws m r
  | 0, acc, st, As, r, h, h1, h2 => by
    cases h
    exact ⟨h1, h2⟩
  | n + 1, acc, v :: st, As, r, h, h1, h2 => ag_pop_w n (v :: acc) st As r h (ag_ws_cons h1 (h2 v List.mem_cons_self)) (fun q hq => h2 q (List.mem_cons_of_mem _ hq))
  | n + 1, acc, [], As, r, h, h1, h2 => by cases h
theorem ag_sum_c (r : List ag_v) : ((r.map (ag_c ρ)).map fun v => v.category).sum = (r.map ag_cat).sum := by
  rw [List.map_map]
  congr 1
  apply List.map_congr_left
  intro v _
  exact ag_cat_c v
theorem ag_so_ok {o : Nat} {e : Nat × Nat} (hD : D.2.2.2 = am_shl) (hc : h.2.2.2.2 = 175) (hs : ag_so D o = some e) : am_so h o = some e ∧ am_sh h o = some e := by
  unfold ag_so at hs
  rw [hD] at hs
  have hlt := am_sh_lt hs
  have e1 : am_so h o = some e := by
    unfold am_so
    rw [hc, ae_bltd, decide_eq_true hlt]
    exact hs
  refine ⟨e1, ?_⟩
  unfold am_sh
  rw [ae_beq, decide_eq_false (by omega)]
  exact e1
theorem ag_ob_inv {e : Option (Nat × Nat)} {b : Nat} (hs : ag_ob e b = true) : e = some (b, 0) := by
  unfold ag_ob at hs
  split at hs
  · rw [Bool.and_eq_true] at hs
    rw [Nat.eq_of_beq_eq_true hs.1, Nat.eq_of_beq_eq_true hs.2]
  · cases hs
theorem ag_ar_inv {e : Option (Nat × Nat)} {b : Nat} {lo hi : Int} (hs : ag_ar e b lo hi = true) : ∃ n, e = some (b, n) ∧ 0 ≤ lo ∧ hi < (n : Int) := by
  unfold ag_ar at hs
  split at hs
  · rename_i t n
    rw [Bool.and_eq_true, Bool.and_eq_true, decide_eq_true_eq, decide_eq_true_eq] at hs
    exact ⟨n, by rw [Nat.eq_of_beq_eq_true hs.1], hs.2⟩
  · cases hs
theorem ag_ty_ok {ty : FieldType} {a b : Int} {x : Int32} (hs : ag_ty ty a b = true) (h1 : a ≤ x.toInt) (h2 : x.toInt ≤ b) : narrow ty (.int x) = .int x ∧ fits ty (.int x) = true := by
  cases ty <;> try (exact Bool.noConfusion (show false = true from hs))
  case int => exact ⟨rfl, rfl⟩
  case boolean =>
    simp only [ag_ty, Bool.and_eq_true, decide_eq_true_eq] at hs
    have e : x.toInt = 0 ∨ x.toInt = 1 := by omega
    rcases e with e | e
    · have : x = 0 := Int32.toInt_inj.mp e
      subst this
      exact ⟨rfl, rfl⟩
    · have : x = 1 := Int32.toInt_inj.mp e
      subst this
      exact ⟨rfl, rfl⟩
  case char =>
    simp only [ag_ty, Bool.and_eq_true, decide_eq_true_eq] at hs
    have e : x = nI x.toInt.toNat := by
      apply Int32.toInt_inj.mp
      rw [nI_toInt (by omega)]
      omega
    rw [e]
    exact pk_charN (by omega)
  case byte =>
    simp only [ag_ty, Bool.and_eq_true, decide_eq_true_eq] at hs
    have e : x.toInt8.toInt32 = x := by
      apply Int32.toInt_inj.mp
      rw [Int8.toInt_toInt32, Int32.toInt_toInt8]
      exact Int.bmod_eq_of_le (by omega) (by omega)
    refine ⟨congrArg Value.int e, ?_⟩
    show (decide ((-128 : Int32) ≤ x) && decide (x ≤ 127)) = true
    have a1 : (-128 : Int32) ≤ x := Int32.le_iff_toInt_le.mpr (show (-128 : Int) ≤ x.toInt by omega)
    have a2 : x ≤ (127 : Int32) := Int32.le_iff_toInt_le.mpr (show x.toInt ≤ (127 : Int) by omega)
    rw [decide_eq_true a1, decide_eq_true a2]
    rfl
theorem ag_lk_of {lv : ag_l} {lvc : am_V} (hl : ag_lR (ag_cl ρ lv) lvc) {i : Nat} {v : ag_v} (he : ag_lv lv i = some v) : am_lk lvc i = some (ag_c ρ v) := hl (i, ag_c ρ v) (List.mem_map.mpr ⟨(i, v), ag_lv_mem he, rfl⟩)
theorem ag_lk_fil (p : Nat × Value → Bool) : ∀ {l : am_V} {i : Nat} {v : Value}, am_lk l i = some v → p (i, v) = true → am_lk (l.filter p) i = some v
  | q :: r, i, v, h, hp => by
    unfold am_lk at h
    rw [ae_beq, ae_cond] at h
    by_cases hq : q.1 = i
    · rw [if_pos hq] at h
      have e : q.2 = v := Option.some.inj h
      have e2 : q = (i, v) := by rw [← hq, ← e]
      rw [e2, List.filter_cons, if_pos hp]
      show (bif Nat.beq i i then some v else _) = some v
      rw [ae_beq, decide_eq_true rfl]
      rfl
    · rw [if_neg hq] at h
      rw [List.filter_cons]
      by_cases hp2 : p q = true
      · rw [if_pos hp2]
        show (bif Nat.beq q.1 i then some q.2 else am_lk (r.filter p) i) = some v
        rw [ae_beq, decide_eq_false hq]
        exact ag_lk_fil p h hp
      · rw [if_neg hp2]
        exact ag_lk_fil p h hp
theorem ag_lR_cons {l l' : am_V} {i : Nat} {v : Value} {p : Nat × Value → Bool} (hl : ag_lR l l') (hp : ∀ w, p (i, w) = false) : ag_lR ((i, v) :: l.filter p) ((i, v) :: l'.filter p) := by
  intro q hq
  rcases List.mem_cons.mp hq with e | e
  · rw [e]
    show (bif Nat.beq i i then some v else _) = some v
    rw [ae_beq, decide_eq_true rfl]
    rfl
  · obtain ⟨h1, h2⟩ := List.mem_filter.mp e
    have hne : ¬ i = q.1 := fun z => by
      have := hp q.2
      rw [z] at this
      rw [h2] at this
      cases this
    show (bif Nat.beq i q.1 then some v else am_lk (l'.filter p) q.1) = some q.2
    rw [ae_beq, decide_eq_false hne]
    exact ag_lk_fil p (hl q h1) h2
theorem ag_lR_s1 {lv : ag_l} {lvc : am_V} (hl : ag_lR (ag_cl ρ lv) lvc) (i : Nat) (v : ag_v) : ag_lR (ag_cl ρ (ag_s1 lv i v)) (am_s1 lvc i (ag_c ρ v)) := by
  rw [ag_s1_c]
  exact ag_lR_cons hl (fun w => by simp)
theorem ag_lR_s2 {lv : ag_l} {lvc : am_V} (hl : ag_lR (ag_cl ρ lv) lvc) (i : Nat) (v : ag_v) : ag_lR (ag_cl ρ (ag_s2 lv i v)) (am_s2 lvc i (ag_c ρ v)) := by
  rw [ag_s2_c]
  exact ag_lR_cons hl (fun w => by simp)
