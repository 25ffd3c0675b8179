/-! WHAT STANDS AT THE LAW'S ENTRY -/
theorem am_nl_ok : am_nl.all (fun q => decide (Cond.methodLinkNest q.1 q.2.1 (am_y q.2.2) "MistCanton" ∈ lw_tbl)) = true := by decide +kernel
theorem am_ao_ok : Cond.arrayOver (.object "MistCanton$Mark") ∈ lw_tbl ∧ Cond.arrayOver (.object "MistCanton$State") ∈ lw_tbl := by decide +kernel
theorem lw_gw {args : Array Value} {s : State} (hts : ∀ w ∈ lw_tbl, w.before args s = true) : ∀ w ∈ am_gw, w.before args s = true := fun w hw => hts w (List.mem_filter.mp hw).1
theorem lw_arr {args : Array Value} {s : State} {ty : FieldType} (hp : ∀ C, ty ≠ .object C) (h : (Cond.arrayClass ty).before args s = true) : ∃ cA : ClassId, ArrOfT s cA ty ∧ va_RA s cA ty := by
  obtain ⟨cA, kA, comp, h1, h2, h3⟩ := Cond.arrayClass_spec h
  refine ⟨cA, fun n z => ⟨fun k h => (by cases h), kA, h2, comp, h3⟩, ?_⟩
  cases ty with
  | object C => exact absurd rfl (hp C)
  | _ => exact h1
theorem lw_arrO {args : Array Value} {s : State} {C : String} (h : (Cond.arrayOver (.object C)).before args s = true) : ∃ cA : ClassId, ArrOfT s cA (.object C) ∧ va_RA s cA (.object C) := by
  obtain ⟨comp, cA, kA, h1, h2, h3, h4, h5⟩ := Cond.arrayOver_spec h
  exact ⟨cA, fun n z => ⟨fun k h => (by cases h), kA, h3, comp, h4⟩, kA, comp, h3, h4, h1, h5⟩
def lw_fl : List Cond := flatC (Jvm.Cond.and given_1 narrow_1)
def lw_tm (i : Nat) : Term := match am_stt[i]? with
  | some q => .string q.1 q.2.1
  | none => .string "" 0
def lw_vl (i : Nat) : Term := .field (lw_tm i) "java/lang/String" "value" "[B"
/-- the conditions of each String, in the Statement's order -/
def lw_wn (i : Nat) : List Cond := [Cond.exactly (lw_tm i) "java/lang/String", Cond.eq (.field (lw_tm i) "java/lang/String" "coder" "B") (.int 0), Cond.arrayOf (lw_vl i) .byte, Cond.eq (.length (lw_vl i)) (.int (Int32.ofNat (am_sln.getD i 0)))] ++ (List.range (am_sln.getD i 0)).map (fun j => Cond.eq (.elem (lw_vl i) (.int (Int32.ofNat j))) (.int ((am_sby.getD i []).getD j 0)))
def lw_sub : List Cond → List Cond → Bool
  | ws, [] => ws.isEmpty
  | ws, c :: cs => match ws with
    | [] => true
    | w :: ws' => bif decide (w = c) then lw_sub ws' cs else lw_sub (w :: ws') cs
theorem lw_sub_ok : ∀ (cs ws : List Cond), lw_sub ws cs = true → ∀ w ∈ ws, w ∈ cs
  | [], ws, h, w, hw => by
    have e : ws = [] := List.isEmpty_iff.mp h
    rw [e] at hw
    exact absurd hw List.not_mem_nil
  | c :: cs, [], _, w, hw => absurd hw List.not_mem_nil
  | c :: cs, w0 :: ws', h, w, hw => by
    have h : (bif decide (w0 = c) then lw_sub ws' cs else lw_sub (w0 :: ws') cs) = true := h
    cases hd : decide (w0 = c) with
    | true =>
      rw [hd] at h
      rcases List.mem_cons.mp hw with z | z
      · rw [z, of_decide_eq_true hd]
        exact List.mem_cons_self
      · exact List.mem_cons_of_mem _ (lw_sub_ok cs ws' h w z)
    | false =>
      rw [hd] at h
      exact List.mem_cons_of_mem _ (lw_sub_ok cs (w0 :: ws') h w hw)
theorem lw_q1 : lw_sub ((List.range 26).flatMap lw_wn) lw_fl = true := by decide +kernel
theorem lw_wm {i : Nat} (hi : i < 26) {w : Cond} (hw : w ∈ lw_wn i) : w ∈ lw_fl := lw_sub_ok _ _ lw_q1 w (List.mem_flatMap.mpr ⟨i, List.mem_range.mpr hi, hw⟩)
theorem lw_q6 : am_stt.all (fun q => decide (Cond.stringRef q.1 q.2.1 q.2.2 ∈ lw_tbl)) = true := by decide +kernel
theorem lw_q7 : am_stt.length = 26 := by decide +kernel
theorem lw_q8 : am_sln.all (fun n => Nat.ble n 1000) = true := by decide +kernel
theorem lw_str {s : State} {b : Nat} (hgv : (Jvm.Cond.and given_1 narrow_1).before #[Value.ref b] s = true) : ∃ adK adV : Nat → Nat, ∀ i, i < 26 → vk_S 1 [am_sln.getD i 0] [am_sby.getD i []] (fun _ => adK i) (fun _ => adV i) (fun q => s.heap.size ≤ q) s s.heap ∧ (lw_tm i).eval #[Value.ref b] s none [] s = some (.ref (adK i)) := by
  have hs : ∀ w ∈ lw_fl, w.before #[Value.ref b] s = true := flat_of_before _ hgv
  have hA : ∀ a : Nat, a < s.heap.size → ¬ (fun q => s.heap.size ≤ q) a := fun a h q => absurd h (Nat.not_lt.mpr q)
  have h0 : ∀ i : Nat, ∃ q : Nat × Nat, i < 26 → vk_S 1 [am_sln.getD i 0] [am_sby.getD i []] (fun _ => q.1) (fun _ => q.2) (fun q => s.heap.size ≤ q) s s.heap ∧ (lw_tm i).eval #[Value.ref b] s none [] s = some (.ref q.1) := by
    intro i
    by_cases hi : i < 26
    · have e0 : ∀ k : Nat, k < 1 → k = 0 := fun k hk => by omega
      obtain ⟨adK, adV, h1, h2⟩ := vk_Sof (args := #[Value.ref b]) (s := s) (N := 1) (tm := fun _ => lw_tm i) (len := [am_sln.getD i 0]) (byt := [am_sby.getD i []]) (A := fun q => s.heap.size ≤ q)
        (fun k hk => by
          have e := e0 k hk
          subst e
          show am_sln.getD i 0 < 2 ^ 31
          have := am_sln_le i
          omega)
        (fun k hk => hs _ (lw_wm hi (List.mem_append_left _ List.mem_cons_self)))
        (fun k hk => hs _ (lw_wm hi (List.mem_append_left _ (List.mem_cons_of_mem _ List.mem_cons_self))))
        (fun k hk => hs _ (lw_wm hi (List.mem_append_left _ (List.mem_cons_of_mem _ (List.mem_cons_of_mem _ List.mem_cons_self)))))
        (fun k hk => by
          have e := e0 k hk
          subst e
          exact hs _ (lw_wm hi (List.mem_append_left _ (List.mem_cons_of_mem _ (List.mem_cons_of_mem _ (List.mem_cons_of_mem _ List.mem_cons_self))))))
        (fun k hk j hj => by
          have e := e0 k hk
          subst e
          exact hs _ (lw_wm hi (List.mem_append_right _ (List.mem_map.mpr ⟨j, List.mem_range.mpr hj, rfl⟩))))
        (fun k k' hk hk' hne => absurd ((e0 k hk).trans (e0 k' hk').symm) hne) hA
      refine ⟨(adK 0, adV 0), fun _ => ⟨⟨fun k hk => ?_, fun k k' hk hk' _ => (e0 k hk).trans (e0 k' hk').symm⟩, h2 0 (by decide)⟩⟩
      have e := e0 k hk
      subst e
      exact h1.1 0 (by decide)
    · exact ⟨(0, 0), fun h => absurd h hi⟩
  obtain ⟨f, hf⟩ := Classical.axiomOfChoice h0
  exact ⟨fun i => (f i).1, fun i => (f i).2, fun i hi => hf i hi⟩
theorem lw_rm {s : State} {b i : Nat} {own tx : String} {k a : Nat} (hts : ∀ w ∈ lw_tbl, w.before #[Value.ref b] s = true) (hk : am_stt[i]? = some (own, k, tx)) (he : (lw_tm i).eval #[Value.ref b] s none [] s = some (.ref a)) : vk_R own k tx a s := by
  have h1 := hts _ (of_decide_eq_true (List.all_eq_true.mp lw_q6 _ (List.mem_of_getElem? hk)))
  unfold lw_tm at he
  rw [hk] at he
  exact vk_R.of h1 he
def lw_ad (adK adV : Nat → Nat) (t z b : Nat) (o : Nat) : Nat := if o = 3000000 then b else if o = 6000000 then t else if 5000000 ≤ o then adV (o - 5000000) else if 4000000 ≤ o then adK (o - 4000000) else z + o
theorem lw_ad4 (adK adV : Nat → Nat) (t z b : Nat) {i : Nat} (hi : i < 26) : lw_ad adK adV t z b (4000000 + i) = adK i := by
  unfold lw_ad
  rw [if_neg (by omega), if_neg (by omega), if_neg (by omega), if_pos (by omega), Nat.add_sub_cancel_left]
theorem lw_ad5 (adK adV : Nat → Nat) (t z b : Nat) {i : Nat} (hi : i < 26) : lw_ad adK adV t z b (5000000 + i) = adV i := by
  unfold lw_ad
  rw [if_neg (by omega), if_neg (by omega), if_pos (by omega), Nat.add_sub_cancel_left]
theorem lw_ad6 (adK adV : Nat → Nat) (t z b : Nat) : lw_ad adK adV t z b 6000000 = t := by
  unfold lw_ad
  rw [if_neg (by omega), if_pos rfl]
theorem lw_ad0 (adK adV : Nat → Nat) (t z b : Nat) {o : Nat} (ho : o < 175) : lw_ad adK adV t z b o = z + o := by
  unfold lw_ad
  rw [if_neg (by omega), if_neg (by omega), if_neg (by omega), if_neg (by omega)]
set_option maxRecDepth 20000 in
/-- what stays, at the law's entry -/
theorem lw_EE {s : State} {b L : Nat} {xs : Nat → Int32} (hts : ∀ w ∈ lw_tbl, w.before #[Value.ref b] s = true) (hgv : (Jvm.Cond.and given_1 narrow_1).before #[Value.ref b] s = true) (hX : va_X b L xs s s.heap) (hbl : b < s.heap.size) (hL : L < 2 ^ 31) : ∃ (D : va_G) (cA : Nat → ClassId) (ad : Nat → Nat), am_E D cA ad s.heap.size b L xs s ∧ am_G ad s.heap.size b L := by
  have hgw := lw_gw hts
  have hs : ∀ w ∈ lw_fl, w.before #[Value.ref b] s = true := flat_of_before _ hgv
  have hA : ∀ a : Nat, a < s.heap.size → ¬ (fun q => s.heap.size ≤ q) a := fun a h q => absurd h (Nat.not_lt.mpr q)
  have hk : ∀ ci : Nat, ∃ q : ClassId × (Nat → Nat), ∀ r : vw_C, vwCl[ci]? = some r → u_Kn s r.1 r.2.1 r.2.2 q.1 q.2 := by
    intro ci
    by_cases hci : ci < 12
    · obtain ⟨C, T, N, e1, e2, e3, e4, e5, -⟩ := am_ci_ok ci hci
      have q := List.all_eq_true.mp am_iaw_ok ci (List.mem_range.mpr hci)
      rw [e2, e3] at q
      obtain ⟨cC, iS, hK⟩ := u_known hgw e5 (hgw _ (am_gw_ia (of_decide_eq_true q)))
      refine ⟨(cC, iS), fun r hr => ?_⟩
      cases e1.symm.trans hr
      exact hK
    · refine ⟨(0, fun _ => 0), fun r hr => ?_⟩
      have := (List.getElem?_eq_some_iff.mp hr).1
      exact absurd this hci
  obtain ⟨f, hf⟩ := Classical.axiomOfChoice hk
  obtain ⟨a12, p12⟩ := lw_arr (by intro C h; cases h) (hts _ am_ac_char)
  obtain ⟨a13, p13⟩ := lw_arr (by intro C h; cases h) (hts _ am_ac_int)
  obtain ⟨a14, p14⟩ := lw_arr (by intro C h; cases h) (hts _ am_ac_long)
  obtain ⟨a15, p15⟩ := lw_arr (by intro C h; cases h) (hts _ am_ac_boolean)
  obtain ⟨a16, p16⟩ := lw_arrO (hts _ am_ao_ok.1)
  obtain ⟨a17, p17⟩ := lw_arrO (hts _ am_ao_ok.2)
  obtain ⟨adK, adV, hst⟩ := lw_str hgv
  have hzc : va_Z "java/lang/String" "COMPACT_STRINGS" "Z" (.int 1) (fun q => s.heap.size ≤ q) s s.heap := va_Zof (hts _ (by decide +kernel)) (hts _ (by decide +kernel)) (va_eqt (hs _ (by decide +kernel))) hA
  have hzf : ∃ t : Nat, va_Z "jdk/internal/util/Preconditions" "SIOOBE_FORMATTER" "Ljava/util/function/BiFunction;" .null (fun q => s.heap.size ≤ q) s s.heap ∨ va_Z "jdk/internal/util/Preconditions" "SIOOBE_FORMATTER" "Ljava/util/function/BiFunction;" (.ref t) (fun q => s.heap.size ≤ q) s s.heap := by
    rcases va_Zqof (C := "jdk/internal/util/Preconditions") (n := "SIOOBE_FORMATTER") (d := "Ljava/util/function/BiFunction;") (A := fun q => s.heap.size ≤ q) (hts _ (by decide +kernel)) (hts _ (by decide +kernel)) (hs _ (by decide +kernel)) hA with z | ⟨t, z⟩
    · exact ⟨0, Or.inl z⟩
    · exact ⟨t, Or.inr z⟩
  obtain ⟨t, hzf⟩ := hzf
  refine ⟨(fun ci => (f ci).1, fun ci => (f ci).2), fun t => if t = 12 then a12 else if t = 13 then a13 else if t = 14 then a14 else if t = 15 then a15 else if t = 16 then a16 else a17, lw_ad adK adV t s.heap.size b, ⟨⟨fun c q hq => hf c q hq, fun k q hq => ?_⟩, fun k i n a hk => ?_, hX, va_AO.of (hts _ am_ao_ok.1), va_AO.of (hts _ am_ao_ok.2), fun i hi => ?_, fun i k own tx hk => ?_, hzc, ?_⟩, ⟨fun o ho => ?_, if_pos rfl, hbl, hL⟩⟩
  · match k, hq with
    | 0, hq => cases hq; exact p12
    | 1, hq => cases hq; exact p13
    | 2, hq => cases hq; exact p14
    | 3, hq => cases hq; exact p15
    | 4, hq => cases hq; exact p16
    | 5, hq => cases hq; exact p17
    | k + 6, hq => simp [am_tys] at hq
  · have q : decide (Cond.methodLinkNest a i (am_y n) "MistCanton" ∈ lw_tbl) = true := List.all_eq_true.mp am_nl_ok (a, i, n) (List.mem_of_getElem? hk)
    have q2 := of_decide_eq_true q
    have q3 := hts _ q2
    exact va_Nw.of rfl q3
  · rw [lw_ad4 _ _ _ _ _ hi, lw_ad5 _ _ _ _ _ hi]
    exact (hst i hi).1
  · have hi : i < 26 := by
      have := (List.getElem?_eq_some_iff.mp hk).1
      rw [lw_q7] at this
      exact this
    rw [lw_ad4 _ _ _ _ _ hi]
    exact lw_rm hts hk (hst i hi).2
  · rw [lw_ad6]
    exact hzf
  · rw [am_shl_len] at ho
    exact lw_ad0 _ _ _ _ _ ho
