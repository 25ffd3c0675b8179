/-! SOUNDNESS: a step of the abstract machine is a step of the machine -/
/-- the array classes in their order -/
def am_tys (cA : Nat → ClassId) : List (ClassId × FieldType) := [(cA 12, .char), (cA 13, .int), (cA 14, .long), (cA 15, .boolean), (cA 16, .object "MistCanton$Mark"), (cA 17, .object "MistCanton$State")]
def am_nw (U : State) : Prop := ∀ (k i n : Nat) (a : String), am_nl[k]? = some (a, i, n) → va_Nw (.methodLinkNest a i (am_y n) "MistCanton") U
/-- String constants, and the statics that their methods read -/
def am_SE (ad : Nat → Nat) (A : Nat → Prop) (U : State) (H : Heap) : Prop := (∀ i : Nat, i < 26 → vk_S 1 [am_sln.getD i 0] [am_sby.getD i []] (fun _ => ad (4000000 + i)) (fun _ => ad (5000000 + i)) A U H) ∧ (∀ (i k : Nat) (own tx : String), am_stt[i]? = some (own, k, tx) → vk_R own k tx (ad (4000000 + i)) U) ∧ va_Z "java/lang/String" "COMPACT_STRINGS" "Z" (.int 1) A U H ∧ (va_Z "jdk/internal/util/Preconditions" "SIOOBE_FORMATTER" "Ljava/util/function/BiFunction;" .null A U H ∨ va_Z "jdk/internal/util/Preconditions" "SIOOBE_FORMATTER" "Ljava/util/function/BiFunction;" (.ref (ad 6000000)) A U H)
def am_E (D : va_G) (cA : Nat → ClassId) (ad : Nat → Nat) (base b L : Nat) (xs : Nat → Int32) (U : State) : Prop := va_K D vwCl (am_tys cA) U ∧ am_nw U ∧ va_X b L xs U U.heap ∧ va_AO "MistCanton$Mark" U ∧ va_AO "MistCanton$State" U ∧ am_SE ad (fun q => base ≤ q) U U.heap
def am_ro (L : Nat) (xs : Nat → Int32) (h : am_H) : Prop := h.2.2.2.1 = L ∧ ∀ j, j < L → h.1 3000000 j = xs j
def am_G (ad : Nat → Nat) (base b L : Nat) : Prop := (∀ o, o < am_shl.length → ad o = base + o) ∧ ad 3000000 = b ∧ b < base ∧ L < 2 ^ 31
theorem am_SE.warm {ad : Nat → Nat} {A : Nat → Prop} {s U : State} (hW : s.WarmedH U.vm) (hq : ∀ a : Nat, a < s.heap.size → ¬ A a → U.heap[a]? = s.heap[a]?) (h : am_SE ad A s s.heap) : am_SE ad A U U.heap :=
  ⟨fun i hi => ((h.1 i hi).moved hW.alike).kept hq, fun i k own tx hk => (h.2.1 i k own tx hk).warm hW, (h.2.2.1.moved hW.alike).kept hq, h.2.2.2.imp (fun z => (z.moved hW.alike).kept hq) (fun z => (z.moved hW.alike).kept hq)⟩
theorem am_SE.calling {ad : Nat → Nat} {A : Nat → Prop} {U : State} {g : JFrame} {mk : MethodId} {a : Array Value} (h : am_SE ad A U U.heap) : am_SE ad A (U.calling g mk a) (U.calling g mk a).heap :=
  ⟨fun i hi => vk_S.moved (u := U) (U := U.calling g mk a) (Vm.Alike.refl U.vm) (h.1 i hi), fun i k own tx hk => vk_R.same (u := U) rfl (h.2.1 i k own tx hk), va_Z.moved (u := U) (U := U.calling g mk a) (Vm.Alike.refl U.vm) h.2.2.1, h.2.2.2.imp (fun z => va_Z.moved (u := U) (U := U.calling g mk a) (Vm.Alike.refl U.vm) z) (fun z => va_Z.moved (u := U) (U := U.calling g mk a) (Vm.Alike.refl U.vm) z)⟩
theorem am_E.warm {D : va_G} {cA : Nat → ClassId} {ad : Nat → Nat} {base b L : Nat} {xs : Nat → Int32} {s U : State} (hW : s.WarmedH U.vm) (hq : ∀ a : Nat, a < s.heap.size → ¬ base ≤ a → U.heap[a]? = s.heap[a]?) (hb1 : b < s.heap.size) (hb2 : ¬ base ≤ b) (h : am_E D cA ad base b L xs s) : am_E D cA ad base b L xs U :=
  ⟨h.1.moved hW.alike, fun k i n a hk => (h.2.1 k i n a hk).warmM hW, (h.2.2.1.moved hW.alike).kept (hq b hb1 hb2), h.2.2.2.1.moved hW.alike, h.2.2.2.2.1.moved hW.alike, h.2.2.2.2.2.warm hW hq⟩
theorem am_E.calling {D : va_G} {cA : Nat → ClassId} {ad : Nat → Nat} {base b L : Nat} {xs : Nat → Int32} {U : State} {g : JFrame} {mk : MethodId} {a : Array Value} (h : am_E D cA ad base b L xs U) : am_E D cA ad base b L xs (U.calling g mk a) :=
  ⟨va_K.moved (u := U) (U := U.calling g mk a) (Vm.Alike.refl U.vm) h.1, fun k i n x hk => va_Nw.same (u := U) rfl rfl (h.2.1 k i n x hk), va_X.moved (u := U) (U := U.calling g mk a) (Vm.Alike.refl U.vm) h.2.2.1, va_AO.moved (u := U) (U := U.calling g mk a) (Vm.Alike.refl U.vm) h.2.2.2.1, va_AO.moved (u := U) (U := U.calling g mk a) (Vm.Alike.refl U.vm) h.2.2.2.2.1, h.2.2.2.2.2.calling⟩
def am_A (base : Nat) : Nat → Prop := fun q => base ≤ q
def am_ws (n : Nat) : List Cond := Cond.code (am_y n) (am_by n) (am_nL n) (am_rt n) :: am_gw
def am_siz (e : Nat × Nat) : Nat := bif Nat.blt e.1 12 then am_nf e.1 else e.2
/-- the slots of the first k objects -/
def am_ss (k : Nat) : Nat := ((am_shl.take k).map am_siz).sum
theorem am_ss_succ {k : Nat} {e : Nat × Nat} (h : am_shl[k]? = some e) : am_ss (k + 1) = am_ss k + am_siz e := by
  unfold am_ss
  rw [List.take_succ, h]
  simp
theorem am_ss_mono {a b : Nat} (h : a ≤ b) : am_ss a ≤ am_ss b := by
  induction h with
  | refl => exact Nat.le_refl _
  | @step m _ ih =>
    cases hq : am_shl[m]? with
    | none =>
      refine Nat.le_trans ih (Nat.le_of_eq ?_)
      unfold am_ss
      rw [List.take_succ, hq]
      simp
    | some e =>
      rw [am_ss_succ hq]
      omega
def am_rm (d mc ms : Nat) : Room := { frames := d, cells := mc, slots := ms, locals := 40 * d }
def am_ms (n : Nat) (h : am_H) : Nat := am_ss (h.2.2.2.2 + am_al n) - am_ss h.2.2.2.2
/-- while objects are made they lie one behind the other -/
def am_wf (base : Nat) (h : am_H) (H : Heap) : Prop := h.2.2.2.2 ≤ am_shl.length ∧ (h.2.2.2.2 < am_shl.length → H.size = base + h.2.2.2.2)
def am_Pc (D : va_G) (cA : Nat → ClassId) (ad : Nat → Nat) (base b L : Nat) (xs : Nat → Int32) (args : List Value) (h : am_H) : Array Value → State → Prop :=
  va_Pc (args.map (am_cv ad)) (fun U => am_E D cA ad base b L xs U ∧ base ≤ U.heap.size ∧ va_P D vwCl (am_cc cA ad h) U.heap ∧ am_ro L xs h ∧ am_wf base h U.heap)
def am_Qc (D : va_G) (cA : Nat → ClassId) (ad : Nat → Nat) (base L : Nat) (xs : Nat → Int32) (Q : am_Q) : Array Value → State → Outcome → State → Prop := fun _ st o t =>
  (∃ v h', o = .returned (v.map (am_cv ad)) ∧ Q v h' ∧ va_P D vwCl (am_cc cA ad h') t.heap ∧ am_ro L xs h' ∧ h'.2.2.2.2 ≤ am_shl.length) ∧ va_F (am_A base) st t
theorem am_Pc.blind {D : va_G} {cA : Nat → ClassId} {ad : Nat → Nat} {base b L : Nat} {xs : Nat → Int32} {args : List Value} {h : am_H} : FrameBlind (am_Pc D cA ad base b L xs args h) := by
  intro a U g mk hp
  obtain ⟨h1, h2, h3, h4, h5, h6⟩ := hp
  exact ⟨h1, h2.calling, h3, h4, h5, h6⟩
theorem am_pI.inv {st : List Value} {k : Int32 → List Value → Prop} (h : am_pI st k) : ∃ x r, st = .int x :: r ∧ k x r := by
  unfold am_pI at h
  split at h
  · exact ⟨_, _, rfl, h⟩
  · exact h.elim
theorem am_pL.inv {st : List Value} {k : Int64 → List Value → Prop} (h : am_pL st k) : ∃ x r, st = .long x :: r ∧ k x r := by
  unfold am_pL at h
  split at h
  · exact ⟨_, _, rfl, h⟩
  · exact h.elim
theorem am_pR.inv {st : List Value} {k : Nat → List Value → Prop} (h : am_pR st k) : ∃ x r, st = .ref x :: r ∧ k x r := by
  unfold am_pR at h
  split at h
  · exact ⟨_, _, rfl, h⟩
  · exact h.elim
theorem am_pV.inv {st : List Value} {k : Value → List Value → Prop} (h : am_pV st k) : ∃ x r, st = x :: r ∧ k x r := by
  unfold am_pV at h
  split at h
  · exact ⟨_, _, rfl, h⟩
  · exact h.elim
theorem am_li.inv {lv : am_V} {i : Nat} {k : Int32 → Prop} (h : am_li lv i k) : ∃ x, am_lk lv i = some (.int x) ∧ k x := by
  unfold am_li at h
  split at h
  · exact ⟨_, ‹_›, h⟩
  · exact h.elim
theorem am_ll.inv {lv : am_V} {i : Nat} {k : Int64 → Prop} (h : am_ll lv i k) : ∃ x, am_lk lv i = some (.long x) ∧ k x := by
  unfold am_ll at h
  split at h
  · exact ⟨_, ‹_›, h⟩
  · exact h.elim
theorem am_la.inv {lv : am_V} {i : Nat} {k : Nat → Prop} (h : am_la lv i k) : ∃ x, am_lk lv i = some (.ref x) ∧ k x := by
  unfold am_la at h
  split at h
  · exact ⟨_, ‹_›, h⟩
  · exact h.elim
theorem am_lk_mem {lv : am_V} {i : Nat} {v : Value} (h : am_lk lv i = some v) : (i, v) ∈ lv := by
  induction lv with
  | nil => cases h
  | cons q r ih =>
    unfold am_lk at h
    cases hq : Nat.beq q.1 i with
    | true =>
      rw [hq] at h
      have e : q.1 = i := Nat.eq_of_beq_eq_true hq
      have e2 : q.2 = v := Option.some.inj h
      rw [← e, ← e2]
      exact List.mem_cons_self
    | false =>
      rw [hq] at h
      exact List.mem_cons_of_mem _ (ih h)
theorem am_lk_at {ad : Nat → Nat} {ls : Array Slot} {nL : Nat} {lv : am_V} {i : Nat} {v : Value} (hl : lv_has ls nL (am_cl2 ad lv)) (h : am_lk lv i = some v) : ls[i]? = some (.val (am_cv ad v)) :=
  hl.2.2 (i, am_cv ad v) (List.mem_map.mpr ⟨(i, v), am_lk_mem h, rfl⟩)
theorem am_lk_pl {ad : Nat → Nat} {lv : am_V} {i : Nat} {v : Value} (h : am_lk lv i = some v) : ∃ k : Nat, (am_cl2 ad lv)[k]? = some (i, am_cv ad v) := by
  obtain ⟨k, hk, e⟩ := List.getElem_of_mem (am_lk_mem h)
  exact ⟨k, by simp [am_cl2, hk, e]⟩
theorem am_s1_cl (ad : Nat → Nat) (lv : am_V) (i : Nat) (v : Value) : (i, am_cv ad v) :: (am_cl2 ad lv).filter (fun q => !(q.1 == i) && !(q.1 + 1 == i && q.2.category == 2)) = am_cl2 ad (am_s1 lv i v) := by
  simp only [am_cl2, am_s1, List.map_cons, List.filter_map]
  congr 2
  apply List.filter_congr
  intro q _
  simp [am_cv_cat]
theorem am_s2_cl (ad : Nat → Nat) (lv : am_V) (i : Nat) (v : Value) : (i, am_cv ad v) :: (am_cl2 ad lv).filter (fun q => !(q.1 == i) && (!(q.1 == i + 1) && !(q.1 + 1 == i && q.2.category == 2))) = am_cl2 ad (am_s2 lv i v) := by
  simp only [am_cl2, am_s2, List.map_cons, List.filter_map]
  congr 2
  apply List.filter_congr
  intro q _
  simp [am_cv_cat]
theorem am_pop_inv : ∀ {n : Nat} {acc st As r : List Value}, am_pop n acc st = some (As, r) → ∃ B, As = B ++ acc ∧ B.length = n ∧ st = B.reverse ++ r
  | 0, acc, st, As, r, h => by
    cases h
    exact ⟨[], rfl, rfl, rfl⟩
  | n + 1, acc, v :: st, As, r, h => by
    obtain ⟨B, h1, h2, h3⟩ := am_pop_inv (n := n) (acc := v :: acc) (st := st) h
    exact ⟨B ++ [v], by rw [h1]; simp, by simp [h2], by rw [h3]; simp⟩
  | n + 1, acc, [], As, r, h => by cases h
theorem am_len_sh : ∀ e ∈ am_shl, e.2 < 2 ^ 31 := by decide +kernel
theorem am_shl_len : am_shl.length = 175 := by decide +kernel
theorem am_sh_lt {o : Nat} {e : Nat × Nat} (h : am_shl[o]? = some e) : o < 175 := by
  have h1 := (List.getElem?_eq_some_iff.mp h).1
  rw [am_shl_len] at h1
  exact h1
theorem am_sh_cases {h : am_H} {o : Nat} {e : Nat × Nat} (he : am_sh h o = some e) : (o = 3000000 ∧ e = (13, h.2.2.2.1)) ∨ am_so h o = some e := by
  unfold am_sh at he
  cases hq : Nat.beq o 3000000 with
  | true =>
    rw [hq] at he
    exact Or.inl ⟨Nat.eq_of_beq_eq_true hq, (Option.some.inj he).symm⟩
  | false =>
    rw [hq] at he
    exact Or.inr he
theorem am_ro.wI {L : Nat} {xs : Nat → Int32} {h : am_H} {o k : Nat} {v : Int32} (hr : am_ro L xs h) (ho : o < 175) : am_ro L xs (am_wI h o k v) := by
  refine ⟨hr.1, fun j hj => ?_⟩
  show (if 3000000 = o ∧ j = k then v else h.1 3000000 j) = xs j
  rw [if_neg (fun q => by omega)]
  exact hr.2 j hj
