/-! THE SECOND CHECKER IS SOUND: numbers, new symbols, the heap -/
variable {ρ ρ' : Nat → Int} {env env' : ag_e} {D : ag_D} {M : ag_M} {h0 h : am_H} {H : ag_H}
theorem ag_i32 {n : Int} (h1 : -2147483648 ≤ n) (h2 : n ≤ 2147483647) : (Int32.ofInt n).toInt = n := Int32.toInt_ofInt_of_le (by omega) (by omega)
theorem ag_i64 {n : Int} (h1 : -9223372036854775808 ≤ n) (h2 : n ≤ 9223372036854775807) : (Int64.ofInt n).toInt = n := Int64.toInt_ofInt_of_le (by omega) (by omega)
theorem ag_i32r (x : Int32) : -2147483648 ≤ x.toInt ∧ x.toInt ≤ 2147483647 := by
  have h1 := x.toInt_lt
  have h2 := x.le_toInt
  omega
theorem ag_i64r (x : Int64) : -9223372036854775808 ≤ x.toInt ∧ x.toInt ≤ 9223372036854775807 := by
  have h1 := x.toInt_lt
  have h2 := x.le_toInt
  omega
def ag_xt (ρ : Nat → Int) (env : ag_e) (ρ' : Nat → Int) (env' : ag_e) : Prop := env.length ≤ env'.length ∧ (∀ i, i < env.length → ρ' i = ρ i) ∧ ag_in ρ' env'
theorem ag_xt.refl (hin : ag_in ρ env) : ag_xt ρ env ρ env := ⟨Nat.le_refl _, fun _ _ => rfl, hin⟩
theorem ag_xt.trans {ρ'' : Nat → Int} {env'' : ag_e} (h1 : ag_xt ρ env ρ' env') (h2 : ag_xt ρ' env' ρ'' env'') : ag_xt ρ env ρ'' env'' := ⟨Nat.le_trans h1.1 h2.1, fun i hi => (h2.2.1 i (Nat.lt_of_lt_of_le hi h1.1)).trans (h1.2.1 i hi), h2.2.2⟩
theorem ag_xt.cut (hin : ag_in ρ env') (hl : env'.length = env.length) : ag_xt ρ env ρ env' := ⟨Nat.le_of_eq hl.symm, fun _ _ => rfl, hin⟩
theorem ag_new (hin : ag_in ρ env) {lo hi x : Int} (h1 : lo ≤ x) (h2 : x ≤ hi) : ag_xt ρ env (fun i => if i = env.length then x else ρ i) (env ++ [(lo, hi)]) := by
  refine ⟨by simp, fun i hi => if_neg (by omega), fun i q hq => ?_⟩
  by_cases hlt : i < env.length
  · rw [List.getElem?_append_left hlt] at hq
    show q.1 ≤ (if i = env.length then x else ρ i) ∧ (if i = env.length then x else ρ i) ≤ q.2
    rw [if_neg (by omega)]
    exact hin i q hq
  · rw [List.getElem?_append_right (by omega)] at hq
    have hl : i - env.length < 1 := (List.getElem?_eq_some_iff.mp hq).1
    have he : i = env.length := by omega
    subst he
    rw [Nat.sub_self] at hq
    cases hq
    show lo ≤ (if env.length = env.length then x else ρ env.length) ∧ (if env.length = env.length then x else ρ env.length) ≤ hi
    rw [if_pos rfl]
    exact ⟨h1, h2⟩
theorem ag_new_f (env : ag_e) (lo hi x : Int) : ag_wt (env ++ [(lo, hi)]).length (ag_y env.length) ∧ ag_ev (fun i => if i = env.length then x else ρ i) (ag_y env.length) = x := by
  refine ⟨ag_wt_y (by simp), ?_⟩
  rw [ag_ev_y, if_pos rfl]
theorem ag_nw_ok (hin : ag_in ρ env) {lo hi x : Int} (h1 : lo ≤ x) (h2 : x ≤ hi) {k : ag_e → ag_f → Bool} (hs : ag_nw env lo hi k = true) : ∃ ρ' env' f, ag_xt ρ env ρ' env' ∧ ag_wt env'.length f ∧ ag_ev ρ' f = x ∧ k env' f = true := by
  unfold ag_nw at hs
  rw [ae_cond] at hs
  by_cases h : lo = hi
  · rw [if_pos h] at hs
    exact ⟨ρ, env, ag_k lo, ag_xt.refl hin, ag_wt_k, by rw [ag_ev_k]; omega, hs⟩
  · rw [if_neg h] at hs
    exact ⟨_, _, _, ag_new hin h1 h2, (ag_new_f (ρ := ρ) env lo hi x).1, (ag_new_f env lo hi x).2, hs⟩
theorem ag_nI_ok (hin : ag_in ρ env) (x : Int32) {k : ag_e → ag_f → Bool} (hs : ag_nI env k = true) : ∃ ρ' env' f, ag_xt ρ env ρ' env' ∧ ag_wt env'.length f ∧ ag_ev ρ' f = x.toInt ∧ k env' f = true :=
  ⟨_, _, _, ag_new hin (ag_i32r x).1 (ag_i32r x).2, (ag_new_f (ρ := ρ) env (-2147483648) 2147483647 x.toInt).1, (ag_new_f env (-2147483648) 2147483647 x.toInt).2, hs⟩
theorem ag_nL_ok (hin : ag_in ρ env) (x : Int64) {k : ag_e → ag_f → Bool} (hs : ag_nL env k = true) : ∃ ρ' env' f, ag_xt ρ env ρ' env' ∧ ag_wt env'.length f ∧ ag_ev ρ' f = x.toInt ∧ k env' f = true :=
  ⟨_, _, _, ag_new hin (ag_i64r x).1 (ag_i64r x).2, (ag_new_f (ρ := ρ) env (-9223372036854775808) 9223372036854775807 x.toInt).1, (ag_new_f env (-9223372036854775808) 9223372036854775807 x.toInt).2, hs⟩
theorem ag_mI_ok (hin : ag_in ρ env) {f : ag_f} (hw : ag_wt env.length f) {k : ag_e → ag_f → Int → Int → Bool} (hs : ag_mI env f k = true) : ∃ ρ' env' f' lo hi, ag_xt ρ env ρ' env' ∧ ag_wt env'.length f' ∧ Int32.ofInt (ag_ev ρ f) = Int32.ofInt (ag_ev ρ' f') ∧ (Int32.ofInt (ag_ev ρ f)).toInt = ag_ev ρ' f' ∧ lo ≤ ag_ev ρ' f' ∧ ag_ev ρ' f' ≤ hi ∧ k env' f' lo hi = true := by
  unfold ag_mI at hs
  split at hs
  · rename_i w hiv
    have h1 := ag_iv_ok hin hiv
    cases hb : (decide (-2147483648 ≤ w.1) && decide (w.2 ≤ 2147483647)) with
    | true =>
      rw [hb] at hs
      simp only [Bool.and_eq_true, decide_eq_true_eq] at hb
      exact ⟨ρ, env, f, w.1, w.2, ag_xt.refl hin, hw, rfl, ag_i32 (by omega) (by omega), h1.1, h1.2, hs⟩
    | false =>
      rw [hb] at hs
      dsimp only [cond] at hs
      obtain ⟨ρ', env', f', a1, a2, a3, a4⟩ := ag_nI_ok hin (Int32.ofInt (ag_ev ρ f)) hs
      have r := ag_i32r (Int32.ofInt (ag_ev ρ f))
      exact ⟨ρ', env', f', _, _, a1, a2, by rw [a3, Int32.ofInt_toInt], a3.symm, by rw [a3]; exact r.1, by rw [a3]; exact r.2, a4⟩
  · cases hs
theorem ag_mL_ok (hin : ag_in ρ env) {f : ag_f} (hw : ag_wt env.length f) {k : ag_e → ag_f → Int → Int → Bool} (hs : ag_mL env f k = true) : ∃ ρ' env' f' lo hi, ag_xt ρ env ρ' env' ∧ ag_wt env'.length f' ∧ Int64.ofInt (ag_ev ρ f) = Int64.ofInt (ag_ev ρ' f') ∧ (Int64.ofInt (ag_ev ρ f)).toInt = ag_ev ρ' f' ∧ lo ≤ ag_ev ρ' f' ∧ ag_ev ρ' f' ≤ hi ∧ k env' f' lo hi = true := by
  unfold ag_mL at hs
  split at hs
  · rename_i w hiv
    have h1 := ag_iv_ok hin hiv
    cases hb : (decide (-9223372036854775808 ≤ w.1) && decide (w.2 ≤ 9223372036854775807)) with
    | true =>
      rw [hb] at hs
      simp only [Bool.and_eq_true, decide_eq_true_eq] at hb
      exact ⟨ρ, env, f, w.1, w.2, ag_xt.refl hin, hw, rfl, ag_i64 (by omega) (by omega), h1.1, h1.2, hs⟩
    | false =>
      rw [hb] at hs
      dsimp only [cond] at hs
      obtain ⟨ρ', env', f', a1, a2, a3, a4⟩ := ag_nL_ok hin (Int64.ofInt (ag_ev ρ f)) hs
      have r := ag_i64r (Int64.ofInt (ag_ev ρ f))
      exact ⟨ρ', env', f', _, _, a1, a2, by rw [a3, Int64.ofInt_toInt], a3.symm, by rw [a3]; exact r.1, by rw [a3]; exact r.2, a4⟩
  · cases hs
/-! the heap -/
/-- one code that is laid at a place: a number, a fact, not, one of two -/
def xf_st (h : am_H) (b : Nat) (dep : Nat → Nat) (i : Nat) : Prop :=
  (h.1 161 (b + i) = 1 ∧ dep (i + 1) = dep i + 1) ∨ (h.1 161 (b + i) = 2 ∧ (∃ a : Nat, a < 4 ∧ h.1 162 (b + i) = nI a) ∧ dep (i + 1) = dep i + 1) ∨ (h.1 161 (b + i) = 3 ∧ 1 ≤ dep i ∧ dep (i + 1) = dep i) ∨ ((∃ k : Nat, 4 ≤ k ∧ k ≤ 10 ∧ h.1 161 (b + i) = nI k) ∧ 2 ≤ dep i ∧ dep (i + 1) + 1 = dep i)
/-- facts: 0, the codes that are laid make so many; 1, they are a law, its end laid, and its place is told -/
def xf_P (id : Nat) (x : Int) (h : am_H) : Prop := bif Nat.beq id 0 then ∃ (c : Nat) (dep : Nat → Nat), h.1 154 13 = nI c ∧ c ≤ 1099 ∧ dep 0 = 0 ∧ (∀ i, i < c → xf_st h 1100 dep i) ∧ (dep c : Int) = x
  else ∃ (m : Nat) (dep : Nat → Nat), h.1 154 13 = nI (m + 1) ∧ m < 1099 ∧ h.1 160 43 = 0 ∧ h.1 161 (1100 + m) = 0 ∧ dep 0 = 0 ∧ ∀ i, i < m → xf_st h 1100 dep i
theorem xf_keep {id : Nat} {x : Int} {h h' : am_H} (hk : ∀ s ∈ ag_sup id, ∀ k, s.2.1 ≤ k → k ≤ s.2.2 → h'.1 s.1 k = h.1 s.1 k) (hp : xf_P id x h) : xf_P id x h' := by
  have st : ∀ {dep : Nat → Nat} {i : Nat}, i < 1100 → (h'.1 161 (1100 + i) = h.1 161 (1100 + i)) → (h'.1 162 (1100 + i) = h.1 162 (1100 + i)) → xf_st h 1100 dep i → xf_st h' 1100 dep i := by
    intro dep i _ e1 e2 hs
    unfold xf_st
    rw [e1, e2]
    exact hs
  unfold xf_P at hp ⊢
  unfold ag_sup at hk
  cases hb : Nat.beq id 0 with
  | true =>
    rw [hb] at hp hk
    obtain ⟨c, dep, h1, h2, h3, h4, h5⟩ := hp
    have k1 : ∀ i, i < 1100 → h'.1 161 (1100 + i) = h.1 161 (1100 + i) := fun i hi => hk (161, 1100, 2199) List.mem_cons_self (1100 + i) (Nat.le_add_right _ _) (show 1100 + i ≤ 2199 by omega)
    have k2 : ∀ i, i < 1100 → h'.1 162 (1100 + i) = h.1 162 (1100 + i) := fun i hi => hk (162, 1100, 2199) (List.mem_cons_of_mem _ List.mem_cons_self) (1100 + i) (Nat.le_add_right _ _) (show 1100 + i ≤ 2199 by omega)
    have k3 : h'.1 154 13 = h.1 154 13 := hk (154, 13, 13) (List.mem_cons_of_mem _ (List.mem_cons_of_mem _ List.mem_cons_self)) 13 (Nat.le_refl _) (Nat.le_refl _)
    exact ⟨c, dep, k3.trans h1, h2, h3, fun i hi => st (by omega) (k1 i (by omega)) (k2 i (by omega)) (h4 i hi), h5⟩
  | false =>
    rw [hb] at hp hk
    obtain ⟨m, dep, h1, h2, h6, h7, h3, h4⟩ := hp
    have k1 : ∀ i, i < 1100 → h'.1 161 (1100 + i) = h.1 161 (1100 + i) := fun i hi => hk (161, 1100, 2199) List.mem_cons_self (1100 + i) (Nat.le_add_right _ _) (show 1100 + i ≤ 2199 by omega)
    have k2 : ∀ i, i < 1100 → h'.1 162 (1100 + i) = h.1 162 (1100 + i) := fun i hi => hk (162, 1100, 2199) (List.mem_cons_of_mem _ List.mem_cons_self) (1100 + i) (Nat.le_add_right _ _) (show 1100 + i ≤ 2199 by omega)
    have k3 : h'.1 154 13 = h.1 154 13 := hk (154, 13, 13) (List.mem_cons_of_mem _ (List.mem_cons_of_mem _ List.mem_cons_self)) 13 (Nat.le_refl _) (Nat.le_refl _)
    have k4 : h'.1 160 43 = h.1 160 43 := hk (160, 43, 43) (List.mem_cons_of_mem _ (List.mem_cons_of_mem _ (List.mem_cons_of_mem _ List.mem_cons_self))) 43 (Nat.le_refl _) (Nat.le_refl _)
    exact ⟨m, dep, k3.trans h1, h2, k4.trans h6, (k1 m (by omega)).trans h7, h3, fun i hi => st (by omega) (k1 i (by omega)) (k2 i (by omega)) (h4 i hi)⟩
def ag_seg (s : ag_S) (k : Nat) (x : Int32) : Prop := s.1 ≤ k → k ≤ s.2.1 → k % s.2.2.1 = s.2.2.2.1 → s.2.2.2.2.1 ≤ x.toInt ∧ x.toInt ≤ s.2.2.2.2.2
def ag_G (D : ag_D) (h : am_H) : Prop := (∀ o, ∀ s ∈ D.1 o, ∀ k, ag_seg s k (h.1 o k)) ∧ (∀ o k, (D.2.1 o k).1 ≤ (h.2.1 o k).toInt ∧ (h.2.1 o k).toInt ≤ (D.2.1 o k).2) ∧ (∀ o k r, ag_lk D.2.2.1 o k = some r → h.2.2.1 o k = some r)
def ag_fr (M : ag_M) (h0 h : am_H) : Prop := h.2.2.2 = h0.2.2.2 ∧ ∀ o k, ag_atM M o k = false → h.1 o k = h0.1 o k ∧ h.2.1 o k = h0.2.1 o k ∧ h.2.2.1 o k = h0.2.2.1 o k
def ag_Hp (D : ag_D) (M : ag_M) (h0 : am_H) (ρ : Nat → Int) (m : Nat) (H : ag_H) (h : am_H) : Prop :=
  (h.2.2.2.2 = 175 ∧ 3 ≤ m) ∧ ag_G D h ∧ (∀ q ∈ H.1, ag_wt m q.2.2 ∧ h.1 q.1 q.2.1 = Int32.ofInt (ag_ev ρ q.2.2)) ∧ (∀ q ∈ H.2.1, ag_wt m q.2.2 ∧ h.2.1 q.1 q.2.1 = Int64.ofInt (ag_ev ρ q.2.2)) ∧
  (∀ q ∈ H.2.2.1, h.2.2.1 q.1 q.2.1 = some q.2.2) ∧ ((∀ g ∈ H.2.2.2.1, ag_wt m g ∧ 0 ≤ ag_ev ρ g) ∧ ∀ q ∈ H.2.2.2.2, ag_wt m q.2 ∧ xf_P q.1 (ag_ev ρ q.2) h) ∧ (0 ≤ ρ 0 ∧ h.1 156 (ρ 0).toNat = 0) ∧ ag_fr M h0 h
theorem ag_Hp.up (hp : ag_Hp D M h0 ρ env.length H h) (hx : ag_xt ρ env ρ' env') : ag_Hp D M h0 ρ' env'.length H h := by
  obtain ⟨⟨a1, a1'⟩, a2, a3, a4, a5, a6, a7, a8⟩ := hp
  have z : ρ' 0 = ρ 0 := hx.2.1 0 (by omega)
  refine ⟨⟨a1, Nat.le_trans a1' hx.1⟩, a2, fun q hq => ⟨(a3 q hq).1.up hx.1, ?_⟩, fun q hq => ⟨(a4 q hq).1.up hx.1, ?_⟩, a5, ⟨fun g hg => ⟨(a6.1 g hg).1.up hx.1, ?_⟩, fun q hq => ⟨(a6.2 q hq).1.up hx.1, ?_⟩⟩, ?_, a8⟩
  · rw [ag_ev_same hx.2.1 (a3 q hq).1]
    exact (a3 q hq).2
  · rw [ag_ev_same hx.2.1 (a4 q hq).1]
    exact (a4 q hq).2
  · rw [ag_ev_same hx.2.1 (a6.1 g hg).1]
    exact (a6.1 g hg).2
  · rw [ag_ev_same hx.2.1 (a6.2 q hq).1]
    exact (a6.2 q hq).2
  · rw [z]
    exact a7
theorem ag_lk_mem {α : Type} : ∀ {l : List (Nat × Nat × α)} {o k : Nat} {v : α}, ag_lk l o k = some v → (o, k, v) ∈ l
  | q :: r, o, k, v, h => by
    unfold ag_lk at h
    rw [ae_b2, ae_cond] at h
    by_cases hh : q.1 = o ∧ q.2.1 = k
    · rw [if_pos hh] at h
      cases h
      rw [← hh.1, ← hh.2]
      exact List.mem_cons_self
    · rw [if_neg hh] at h
      exact List.mem_cons_of_mem _ (ag_lk_mem h)
theorem ag_ts_dvd {s : Int} : ∀ {t : List (Nat × Int)}, (∀ q ∈ t, q.2 % s = 0) → s ∣ ag_ts ρ t
  | [], _ => ⟨0, by show (0 : Int) = s * 0; rw [Int.mul_zero]⟩
  | q :: r, h => by
    obtain ⟨a, ha⟩ := Int.dvd_of_emod_eq_zero (h q List.mem_cons_self)
    obtain ⟨b, hb⟩ := ag_ts_dvd (fun p hp => h p (List.mem_cons_of_mem _ hp))
    refine ⟨a * ρ q.1 + b, ?_⟩
    show q.2 * ρ q.1 + ag_ts ρ r = s * (a * ρ q.1 + b)
    rw [hb, Int.mul_add, ← Int.mul_assoc, ← ha]
theorem ag_rs_ok {st r n : Nat} {f : ag_f} {lo hi : Int} (h : ag_rs st f lo hi = some r) (hn : ag_ev ρ f = (n : Int)) (h1 : lo ≤ n) (h2 : (n : Int) ≤ hi) : n % st = r := by
  unfold ag_rs at h
  rw [ae_beq, ae_cond] at h
  by_cases e1 : st = 1
  · rw [if_pos e1] at h
    cases h
    rw [e1, Nat.mod_one]
  · rw [if_neg e1, ae_cond] at h
    by_cases e2 : lo = hi
    · rw [if_pos e2] at h
      cases h
      have : lo = (n : Int) := by omega
      rw [this]
      rfl
    · rw [if_neg e2] at h
      cases e3 : f.1.all (fun q => decide (q.2 % (st : Int) = 0)) with
      | true =>
        rw [e3] at h
        have h := Option.some.inj h
        have h3 : ∀ q ∈ f.1, q.2 % (st : Int) = 0 := fun q hq => of_decide_eq_true (List.all_eq_true.mp e3 q hq)
        obtain ⟨b, hb⟩ := ag_ts_dvd (ρ := ρ) h3
        have h4 : (n : Int) % (st : Int) = f.2 % (st : Int) := by
          rw [← hn]
          unfold ag_ev
          rw [hb, Int.add_comm, Int.add_mul_emod_self_left]
        rw [← h, ← h4]
        have h5 : ((n : Int) % (st : Int)) = ((n % st : Nat) : Int) := (Int.natCast_emod n st).symm
        rw [h5]
        rfl
      | false =>
        rw [e3] at h
        cases h
theorem ag_Dr_ok {o n : Nat} {j : ag_f} {lo hi : Int} (hG : ag_G D h) (hn : ag_ev ρ j = (n : Int)) (h1 : lo ≤ n) (h2 : (n : Int) ≤ hi) : (ag_Dr (D.1 o) j lo hi).1 ≤ (h.1 o n).toInt ∧ (h.1 o n).toInt ≤ (ag_Dr (D.1 o) j lo hi).2 := by
  unfold ag_Dr
  split
  · rename_i s hs
    have hm := List.mem_of_find?_eq_some hs
    have hh := List.find?_some hs
    unfold ag_hit at hh
    rw [Bool.and_eq_true, Bool.and_eq_true, decide_eq_true_eq, decide_eq_true_eq] at hh
    obtain ⟨a1, a2, a3⟩ := hh
    split at a3
    · rename_i r hr
      exact hG.1 o s hm n (by omega) (by omega) ((ag_rs_ok hr hn h1 h2).trans (Nat.eq_of_beq_eq_true a3))
    · cases a3
  · exact ag_i32r _
theorem ag_Hp.add1 {o k : Nat} {f : ag_f} {m : Nat} (hp : ag_Hp D M h0 ρ m H h) (hw : ag_wt m f) (he : h.1 o k = Int32.ofInt (ag_ev ρ f)) : ag_Hp D M h0 ρ m ((o, k, f) :: H.1, H.2) h := by
  obtain ⟨a1, a2, a3, a4, a5, a6, a7, a8⟩ := hp
  refine ⟨a1, a2, fun q hq => ?_, a4, a5, a6, a7, a8⟩
  rcases List.mem_cons.mp hq with e | e
  · rw [e]
    exact ⟨hw, he⟩
  · exact a3 q e
theorem ag_Hp.add2 {o k : Nat} {f : ag_f} {m : Nat} (hp : ag_Hp D M h0 ρ m H h) (hw : ag_wt m f) (he : h.2.1 o k = Int64.ofInt (ag_ev ρ f)) : ag_Hp D M h0 ρ m (H.1, (o, k, f) :: H.2.1, H.2.2) h := by
  obtain ⟨a1, a2, a3, a4, a5, a6, a7, a8⟩ := hp
  refine ⟨a1, a2, a3, fun q hq => ?_, a5, a6, a7, a8⟩
  rcases List.mem_cons.mp hq with e | e
  · rw [e]
    exact ⟨hw, he⟩
  · exact a4 q e
theorem ag_Hp.add4 {g : ag_f} {m : Nat} (hp : ag_Hp D M h0 ρ m H h) (hw : ag_wt m g) (he : 0 ≤ ag_ev ρ g) : ag_Hp D M h0 ρ m (H.1, H.2.1, H.2.2.1, g :: H.2.2.2.1, H.2.2.2.2) h := by
  obtain ⟨a1, a2, a3, a4, a5, a6, a7, a8⟩ := hp
  refine ⟨a1, a2, a3, a4, a5, ⟨fun q hq => ?_, a6.2⟩, a7, a8⟩
  rcases List.mem_cons.mp hq with e | e
  · rw [e]
    exact ⟨hw, he⟩
  · exact a6.1 q e
theorem ag_rd_ok (hin : ag_in ρ env) (hp : ag_Hp D M h0 ρ env.length H h) {o k : Nat} {K : ag_e → ag_H → ag_f → Bool} (hs : ag_rd D env H o k K = true) : ∃ ρ' env' H' f, ag_xt ρ env ρ' env' ∧ ag_Hp D M h0 ρ' env'.length H' h ∧ ag_wt env'.length f ∧ h.1 o k = Int32.ofInt (ag_ev ρ' f) ∧ K env' H' f = true := by
  unfold ag_rd at hs
  split at hs
  · rename_i f hf
    have := hp.2.2.1 _ (ag_lk_mem hf)
    exact ⟨ρ, env, H, f, ag_xt.refl hin, hp, this.1, this.2, hs⟩
  · have b := ag_Dr_ok (ρ := ρ) (o := o) (n := k) (j := ag_k k) (lo := k) (hi := k) hp.2.1 (ag_ev_k _) (Int.le_refl _) (Int.le_refl _)
    obtain ⟨ρ', env', f, x1, x2, x3, x4⟩ := ag_nw_ok hin b.1 b.2 hs
    have e : h.1 o k = Int32.ofInt (ag_ev ρ' f) := by rw [x3, Int32.ofInt_toInt]
    exact ⟨ρ', env', _, f, x1, (hp.up x1).add1 x2 e, x2, e, x4⟩
theorem ag_rL_ok (hin : ag_in ρ env) (hp : ag_Hp D M h0 ρ env.length H h) {o k : Nat} {K : ag_e → ag_H → ag_f → Bool} (hs : ag_rL D env H o k K = true) : ∃ ρ' env' H' f, ag_xt ρ env ρ' env' ∧ ag_Hp D M h0 ρ' env'.length H' h ∧ ag_wt env'.length f ∧ h.2.1 o k = Int64.ofInt (ag_ev ρ' f) ∧ K env' H' f = true := by
  unfold ag_rL at hs
  split at hs
  · rename_i f hf
    have := hp.2.2.2.1 _ (ag_lk_mem hf)
    exact ⟨ρ, env, H, f, ag_xt.refl hin, hp, this.1, this.2, hs⟩
  · have b := hp.2.1.2.1 o k
    obtain ⟨ρ', env', f, x1, x2, x3, x4⟩ := ag_nw_ok hin b.1 b.2 hs
    have e : h.2.1 o k = Int64.ofInt (ag_ev ρ' f) := by rw [x3, Int64.ofInt_toInt]
    exact ⟨ρ', env', _, f, x1, (hp.up x1).add2 x2 e, x2, e, x4⟩
theorem ag_rA_ok (hin : ag_in ρ env) (hp : ag_Hp D M h0 ρ env.length H h) {o n : Nat} {j : ag_f} {lo hi : Int} (hn : ag_ev ρ j = (n : Int)) (h1 : lo ≤ n) (h2 : (n : Int) ≤ hi) {K : ag_e → ag_H → ag_f → Bool} (hs : ag_rA D env H o j lo hi K = true) : ∃ ρ' env' H' f, ag_xt ρ env ρ' env' ∧ ag_Hp D M h0 ρ' env'.length H' h ∧ ag_wt env'.length f ∧ h.1 o n = Int32.ofInt (ag_ev ρ' f) ∧ K env' H' f = true := by
  unfold ag_rA at hs
  rw [ae_cond] at hs
  by_cases e1 : lo = hi
  · rw [if_pos e1] at hs
    have : lo.toNat = n := by omega
    rw [this] at hs
    exact ag_rd_ok hin hp hs
  · rw [if_neg e1] at hs
    have b := ag_Dr_ok (o := o) hp.2.1 hn h1 h2
    obtain ⟨ρ', env', f, x1, x2, x3, x4⟩ := ag_nw_ok hin b.1 b.2 hs
    exact ⟨ρ', env', H, f, x1, hp.up x1, x2, by rw [x3, Int32.ofInt_toInt], x4⟩
theorem ag_nn_ok (hin : ag_in ρ env) {C : List ag_f} (hC : ∀ g ∈ C, 0 ≤ ag_ev ρ g) {g : ag_f} (hs : ag_nn env C g = true) : 0 ≤ ag_ev ρ g := by
  unfold ag_nn at hs
  rcases Bool.or_eq_true_iff.mp hs with hs | hs
  · split at hs
    · rename_i w hw
      have := ag_iv_ok hin hw
      have := of_decide_eq_true hs
      omega
    · cases hs
  · obtain ⟨c, hc, h1⟩ := List.any_eq_true.mp hs
    split at h1
    · rename_i w hw
      have a := ag_iv_ok hin hw
      have b := of_decide_eq_true h1
      have d := hC c hc
      rw [ag_ev_sub] at a
      omega
    · cases h1
theorem ag_rS_ok (hin : ag_in ρ env) (hp : ag_Hp D M h0 ρ env.length H h) {o n : Nat} {j : ag_f} {lo hi : Int} (hj : ag_wt env.length j) (hn : ag_ev ρ j = (n : Int)) (h1 : lo ≤ n) (h2 : (n : Int) ≤ hi) {K : ag_e → ag_H → ag_f → Bool} (hs : ag_rS D env H o j lo hi K = true) : ∃ ρ' env' H' f, ag_xt ρ env ρ' env' ∧ ag_Hp D M h0 ρ' env'.length H' h ∧ ag_wt env'.length f ∧ h.1 o n = Int32.ofInt (ag_ev ρ' f) ∧ K env' H' f = true := by
  unfold ag_rS at hs
  cases hb : (Nat.beq o 156 && ag_nn env H.2.2.2.1 (ag_sub (ag_y 0) j)) with
  | true =>
    rw [hb] at hs
    have hs : (ag_eq env (ag_sub (ag_y 0) j) (fun env => K env H (ag_k 0)) && ag_ge env (ag_sub (ag_sub (ag_y 0) j) (ag_k 1)) (fun env => ag_rA D env (H.1, H.2.1, H.2.2.1, ag_sub (ag_sub (ag_y 0) j) (ag_k 1) :: H.2.2.2.1, H.2.2.2.2) o j lo hi K)) = true := hs
    rw [Bool.and_eq_true] at hs hb
    have ho := Nat.eq_of_beq_eq_true hb.1
    have nn := ag_nn_ok hin (fun g hg => (hp.2.2.2.2.2.1.1 g hg).2) hb.2
    rw [ag_ev_sub, ag_ev_y] at nn
    by_cases e : ρ 0 - ag_ev ρ j = 0
    · obtain ⟨env', x1, x2, x3⟩ := ag_eq_ok hin (g := ag_sub (ag_y 0) j) (by rw [ag_ev_sub, ag_ev_y]; exact e) hs.1
      have xt : ag_xt ρ env ρ env' := ag_xt.cut x1 x2
      refine ⟨ρ, env', H, ag_k 0, xt, hp.up xt, ag_wt_k, ?_, x3⟩
      have z := hp.2.2.2.2.2.2.1.2
      have e2 : (ρ 0).toNat = n := by omega
      rw [e2] at z
      rw [ho, z, ag_ev_k]
      rfl
    · have g0 : 0 ≤ ag_ev ρ (ag_sub (ag_sub (ag_y 0) j) (ag_k 1)) := by
        rw [ag_ev_sub, ag_ev_sub, ag_ev_y, ag_ev_k]
        omega
      obtain ⟨env', x1, x2, x3⟩ := ag_ge_ok hin g0 hs.2
      have xt : ag_xt ρ env ρ env' := ag_xt.cut x1 x2
      have hl : 1 ≤ env'.length := by rw [x2]; exact Nat.le_trans (by decide) hp.1.2
      have w1 : ag_wt env'.length (ag_sub (ag_sub (ag_y 0) j) (ag_k 1)) := ag_wt_sub (ag_wt_sub (ag_wt_y hl) (hj.up xt.1)) ag_wt_k
      obtain ⟨ρ', env'', H', f, y1, y2, y3, y4, y5⟩ := ag_rA_ok x1 ((hp.up xt).add4 w1 g0) hn h1 h2 x3
      exact ⟨ρ', env'', H', f, xt.trans y1, y2, y3, y4, y5⟩
  | false =>
    rw [hb] at hs
    exact ag_rA_ok hin hp hn h1 h2 hs
