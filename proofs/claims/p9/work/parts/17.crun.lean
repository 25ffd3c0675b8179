/-! A RUN OF THE CHECKER -/
variable {ρ : Nat → Int32} {LL : Nat}
def ae_ex (fs : List ae_F) (E : Nat → am_V → List Value → am_H → Prop) : Nat → am_V → List Value → am_H → Prop := match fs with
  | [] => E
  | _ :: _ => fun _ _ _ _ => False
def ae_qr (ρ : Nat → Int32) (E : Nat → am_V → List Value → am_H → Prop) (Q : am_Q) : List ae_F → Nat → Nat → am_Q
  | [], _, _ => Q
  | (rows, nL, rt, lim', pc, lv, st) :: fs, d, lim => fun v h => h.2.2.2.2 = lim ∧ am_X (am_call am_cod (d + 1)) nL lim' rt (am_find rows) (ae_ex fs E) (ae_qr ρ E Q fs (d + 1) lim') pc (ae_cl ρ lv) (v.toList ++ st.map (ae_c ρ)) h
def ae_sm (ρ : Nat → Int32) (E : Nat → am_V → List Value → am_H → Prop) (Q : am_Q) (fs : List ae_F) (d : Nat) (rows : List (Nat × am_R)) (nL : Nat) (rt : Option FieldType) (lim : Nat) : Nat → am_V → List Value → am_H → Prop :=
  am_X (am_call am_cod d) nL lim rt (am_find rows) (ae_ex fs E) (ae_qr ρ E Q fs d lim)
theorem ae_args_c : ∀ (As : List ae_v) (i : Nat), ae_cl ρ (ae_args i As) = lv_args i (As.map (ae_c ρ))
  | [], i => rfl
  | v :: vs, i => by
    show (i, ae_c ρ v) :: ae_cl ρ (ae_args (bif Nat.beq (ae_cat v) 2 then i + 2 else i + 1) vs) = (i, ae_c ρ v) :: lv_args (if (ae_c ρ v).category = 2 then i + 2 else i + 1) (vs.map (ae_c ρ))
    rw [ae_args_c vs, ae_beq, ae_cond, ae_cat_c]
theorem ae_sl_c : ∀ (As : List ae_v), (lg_sl (As.map (ae_c ρ))).length = (As.map ae_cat).sum
  | [] => rfl
  | v :: vs => by
    have ih := ae_sl_c vs
    unfold lg_sl at ih ⊢
    rw [List.map_cons, List.flatMap_cons, List.length_append, ih, List.map_cons, List.sum_cons, ae_cat_c]
    rcases v with n | i | o | n | i <;> rfl
set_option maxHeartbeats 4000000 in
theorem ae_go_ok {asm : Nat → List ae_v → ae_H → Option (Nat × Nat)} {ex : Nat → Bool} {fin : ae_e → Nat → ae_l → List ae_v → ae_H → Bool} {fr : ae_e → Option ae_v → ae_H → Bool} {E : Nat → am_V → List Value → am_H → Prop} {Q : am_Q}
    (hasm : ∀ a As H w, asm a As H = some w → ∀ h, ae_R ρ LL H h → am_call am_cod 10 a (As.map (ae_c ρ)) h (fun v h' => v = some (.int (ρ w.1)) ∧ ae_R ρ LL (H.1, H.2.1, H.2.2.1, w.2) h'))
    (hfin : ∀ env pc lv st H, ex pc = true → fin env pc lv st H = true → ae_in ρ env → ∀ h, ae_R ρ LL H h → E pc (ae_cl ρ lv) (st.map (ae_c ρ)) h) (hfr : ∀ env v H, fr env v H = true → ae_in ρ env → ∀ h, ae_R ρ LL H h → Q (v.map (ae_c ρ)) h) :
    ∀ f env d H rows nL rt lim pc lv st fs, ae_go LL asm ex fin fr f env d H (rows, nL, rt, lim, pc, lv, st) fs = true → ae_in ρ env → ∀ h, ae_R ρ LL H h → ae_sm ρ E Q fs d rows nL rt lim pc (ae_cl ρ lv) (st.map (ae_c ρ)) h := by
  intro f
  induction f with
  | zero => intro env d H rows nL rt lim pc lv st fs hs; cases hs
  | succ f ih =>
    intro env d H rows nL rt lim pc lv st fs hs hin h hR
    unfold ae_go at hs
    cases hx : (fs.isEmpty && ex pc) with
    | true =>
      rw [hx] at hs
      rw [Bool.and_eq_true] at hx
      have e1 : fs = [] := List.isEmpty_iff.mp hx.1
      subst e1
      exact am_xexit (hfin _ _ _ _ _ hx.2 hs hin h hR)
    | false =>
      rw [hx] at hs
      have hs : (match am_find rows pc with
        | none => false
        | some r => _) = true := hs
      split at hs
      · cases hs
      · rename_i r hr
        split at hs
        · rename_i i hi
          obtain ⟨env', h1, h2⟩ := ae_all_inv hin hs
          exact ih env' d H rows nL rt lim pc lv st fs h2 h1 h hR
        · obtain ⟨i, nx, a, b, c, dd⟩ := r
          refine am_xstep hr (ae_stp_ok hin hR (fun env' pc' lv' st' H' k i' h' r' => ih env' d H' rows nL rt lim pc' lv' st' fs k i' h' r') ?_ ?_ hs)
          · intro a As nx rest k
            cases hw : asm a As H with
            | some w =>
              rw [hw] at k
              have k : (Nat.ble 10 d && (Nat.ble H.2.2.2 w.2 && (Nat.beq (am_al a) 0 && ae_go LL asm ex fin fr f env d (H.1, H.2.1, H.2.2.1, w.2) (rows, nL, rt, lim, nx, lv, .inr (.inl w.1) :: rest) fs))) = true := k
              rw [Bool.and_eq_true, Bool.and_eq_true, Bool.and_eq_true] at k
              refine am_call.mono (fun v h' q => ?_) (am_call.up (hasm a As H w hw h hR) (Nat.le_of_ble_eq_true k.1))
              have z := ih env d (H.1, H.2.1, H.2.2.1, w.2) rows nL rt lim nx lv (.inr (.inl w.1) :: rest) fs k.2.2.2 hin h' q.2
              rw [q.1]
              exact z
            | none =>
            rw [hw] at k
            match d, k with
            | 0, k => exact Bool.noConfusion k
            | d + 1, k =>
              have k : (match am_inf[a]? with
                | some q => Nat.ble ((As.map ae_cat).sum) q.2.1 && ae_go LL asm ex fin fr f env d H (q.1, q.2.1, q.2.2, H.2.2.1 + am_al a, 0, ae_args 0 As, []) ((rows, nL, rt, lim, nx, lv, rest) :: fs)
                | none => false) = true := k
              split at k
              · rename_i q hq
                rw [Bool.and_eq_true] at k
                obtain ⟨e1, e2, -⟩ := am_inf_at hq
                have e3 : am_cod a = am_find q.1 := by
                  funext pc
                  unfold am_cod
                  rw [hq]
                have w := ih env d H q.1 q.2.1 q.2.2 (H.2.2.1 + am_al a) 0 (ae_args 0 As) [] ((rows, nL, rt, lim, nx, lv, rest) :: fs) k.2 hin h hR
                refine Or.inr ⟨by rw [ae_sl_c, ← e1]; exact Nat.le_of_ble_eq_true k.1, ?_⟩
                rw [e3, ← e1, ← e2, hR.1, ← ae_args_c]
                exact w
              · cases k
          · intro v k
            match fs, k with
            | [], k => exact hfr _ _ _ k hin h hR
            | (rows', nL', rt', lim', pc', lv', st') :: fs', k =>
              have k : (Nat.beq H.2.2.1 lim && ae_go LL asm ex fin fr f env (d + 1) H (rows', nL', rt', lim', pc', lv', v.toList ++ st') fs') = true := k
              rw [Bool.and_eq_true] at k
              have w := ih env (d + 1) H rows' nL' rt' lim' pc' lv' (v.toList ++ st') fs' k.2 hin h hR
              rw [List.map_append] at w
              refine ⟨by rw [hR.1]; exact Nat.eq_of_beq_eq_true k.1, ?_⟩
              cases v <;> exact w
/-- two heaps of the checker that say the same -/
def ae_same {α : Type} (eq : α → α → Bool) (l1 l2 : List (Nat × Nat × α)) (d : α) : Bool := l1.all (fun q => eq (ae_lk l2 q.1 q.2.1 d) q.2.2) && l2.all (fun q => eq (ae_lk l1 q.1 q.2.1 d) q.2.2)
theorem ae_lk_cases {α : Type} : ∀ (l : List (Nat × Nat × α)) (o k : Nat) (d : α), (∃ v, (o, k, v) ∈ l ∧ ae_lk l o k d = v) ∨ (ae_lk l o k d = d ∧ ∀ v, (o, k, v) ∉ l)
  | [], o, k, d => Or.inr ⟨rfl, fun v => List.not_mem_nil⟩
  | q :: r, o, k, d => by
    unfold ae_lk
    rw [ae_b2, ae_cond]
    by_cases hh : q.1 = o ∧ q.2.1 = k
    · rw [if_pos hh]
      exact Or.inl ⟨q.2.2, by rw [← hh.1, ← hh.2]; exact List.mem_cons_self, rfl⟩
    · rw [if_neg hh]
      rcases ae_lk_cases r o k d with ⟨v, h1, h2⟩ | ⟨h1, h2⟩
      · exact Or.inl ⟨v, List.mem_cons_of_mem _ h1, h2⟩
      · refine Or.inr ⟨h1, fun v hv => ?_⟩
        rcases List.mem_cons.mp hv with h3 | h3
        · exact hh ⟨by rw [← h3], by rw [← h3]⟩
        · exact h2 v h3
theorem ae_same_ok {α : Type} {eq : α → α → Bool} (heq : ∀ x y, eq x y = true → x = y) {l1 l2 : List (Nat × Nat × α)} {d : α} (hs : ae_same eq l1 l2 d = true) (o k : Nat) : ae_lk l1 o k d = ae_lk l2 o k d := by
  unfold ae_same at hs
  rw [Bool.and_eq_true] at hs
  rcases ae_lk_cases l1 o k d with ⟨v, h1, h2⟩ | ⟨h1, h2⟩
  · have h3 := heq _ _ (List.all_eq_true.mp hs.1 _ h1)
    rw [h2]
    exact h3.symm
  · rcases ae_lk_cases l2 o k d with ⟨v, h3, h4⟩ | ⟨h3, h4⟩
    · have h5 := heq _ _ (List.all_eq_true.mp hs.2 _ h3)
      rw [h4]
      exact h5
    · rw [h1, h3]
theorem ae_R_same {H H' : ae_H} {h : am_H} (hR : ae_R ρ LL H h) (h1 : ae_same (fun x y => decide (x = y)) H.1 H'.1 (.inl 0) = true) (h2 : ae_same (fun x y => decide (x = y)) H.2.1 H'.2.1 none = true) (h3 : H.2.2 = H'.2.2) : ae_R ρ LL H' h := by
  obtain ⟨r1, r2, r3, r4, r5, r6, r7, r8⟩ := hR
  have e1 := ae_same_ok (fun x y (q : decide (x = y) = true) => of_decide_eq_true q) h1
  have e2 := ae_same_ok (fun x y (q : decide (x = y) = true) => of_decide_eq_true q) h2
  have h4 := congrArg Prod.fst h3
  have h5 := congrArg Prod.snd h3
  refine ⟨r1.trans h4, r2, by rw [← h4]; exact r3, fun o k ho => ?_, fun o k ho => ?_, r6, fun o k ho => ?_, fun o k ho => ?_⟩
  · rw [← e1]
    exact r4 o k (by rw [h4, h5]; exact ho)
  · rw [← e2]
    exact r5 o k (by rw [h4, h5]; exact ho)
  · rw [← e1]
    exact r7 o k (by rw [h4]; exact ho)
  · rw [← e2]
    exact r8 o k (by rw [h4]; exact ho)
