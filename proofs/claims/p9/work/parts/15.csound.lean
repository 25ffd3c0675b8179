/-! THE CHECKER IS SOUND -/
variable {ρ : Nat → Int32} {env : ae_e} {H : ae_H} {h : am_H} {LL : Nat}
/-- the symbols lie in their intervals; symbol 7 is the call's number -/
def ae_in (ρ : Nat → Int32) (env : ae_e) : Prop := (∀ (i : Nat) (q : Int × Int), env[i]? = some q → q.1 ≤ (ρ i).toInt ∧ (ρ i).toInt ≤ q.2) ∧ ρ 7 = ρ 0 &&& 63
def ae_cl (ρ : Nat → Int32) (lv : ae_l) : am_V := lv.map (fun q => (q.1, ae_c ρ q.2))
def ae_R (ρ : Nat → Int32) (LL : Nat) (H : ae_H) (h : am_H) : Prop := h.2.2.2.2 = H.2.2.1 ∧ (0 < LL → h.2.2.2.1 = LL) ∧ H.2.2.1 ≤ 175 ∧ (∀ o k, H.2.2.2 ≤ o ∧ o < H.2.2.1 → h.1 o k = ae_ci ρ (ae_lk H.1 o k (.inl 0))) ∧ (∀ o k, H.2.2.2 ≤ o ∧ o < H.2.2.1 → h.2.2.1 o k = ae_lk H.2.1 o k none) ∧ (∀ j, j < LL → h.1 3000000 j = ρ j) ∧ (∀ o k, H.2.2.1 ≤ o → ae_lk H.1 o k (.inl 0) = .inl 0) ∧ (∀ o k, H.2.2.1 ≤ o → ae_lk H.2.1 o k none = none)
theorem ae_beq (a b : Nat) : Nat.beq a b = decide (a = b) := by
  cases hq : Nat.beq a b with
  | true => rw [decide_eq_true (Nat.eq_of_beq_eq_true hq)]
  | false => rw [decide_eq_false (Nat.ne_of_beq_eq_false hq)]
theorem ae_b2 (a b c d : Nat) : (Nat.beq a b && Nat.beq c d) = decide (c = d ∧ a = b) := by
  rw [ae_beq, ae_beq]
  by_cases h1 : a = b <;> by_cases h2 : c = d <;> simp [h1, h2]
theorem ae_cond {α : Type} {c : Prop} [Decidable c] (x y : α) : (bif decide c then x else y) = if c then x else y := by
  by_cases h : c <;> simp [h]
theorem ae_lk_up {α : Type} (l : List (Nat × Nat × α)) (o k o' k' : Nat) (v d : α) : ae_lk (ae_up l o k v) o' k' d = if o' = o ∧ k' = k then v else ae_lk l o' k' d := by
  induction l with
  | nil =>
    simp only [ae_up, ae_lk, ae_b2, ae_cond]
    by_cases hh : o = o' ∧ k = k'
    · rw [if_pos hh, if_pos ⟨hh.1.symm, hh.2.symm⟩]
    · rw [if_neg hh, if_neg (fun q => hh ⟨q.1.symm, q.2.symm⟩)]
  | cons q r ih =>
    simp only [ae_up, ae_b2, ae_cond]
    by_cases h1 : q.1 = o ∧ q.2.1 = k
    · rw [if_pos h1]
      simp only [ae_lk, ae_b2, ae_cond]
      by_cases hh : o = o' ∧ k = k'
      · rw [if_pos hh, if_pos ⟨hh.1.symm, hh.2.symm⟩]
      · rw [if_neg hh, if_neg (fun q => hh ⟨q.1.symm, q.2.symm⟩), if_neg (fun z => hh ⟨by rw [← h1.1]; exact z.1, by rw [← h1.2]; exact z.2⟩)]
    · rw [if_neg h1]
      simp only [ae_lk, ae_b2, ae_cond, ih]
      by_cases h2 : q.1 = o' ∧ q.2.1 = k'
      · rw [if_pos h2, if_pos h2, if_neg (fun z => h1 ⟨by rw [h2.1, z.1], by rw [h2.2, z.2]⟩)]
      · rw [if_neg h2, if_neg h2]
theorem ae_n_c (hin : ae_in ρ env) (a : ae_v) : ae_c ρ (ae_n env a) = ae_c ρ a := by
  unfold ae_n
  split
  · rename_i i
    split
    · rename_i q hq
      by_cases hh : q.1 = q.2
      · rw [decide_eq_true hh]
        have h1 := hin.1 i q hq
        have h2 : (ρ i).toInt = q.1 := by omega
        show Value.int (Int32.ofInt q.1) = Value.int (ρ i)
        rw [← h2, Int32.ofInt_toInt]
      · rw [decide_eq_false hh]
        rfl
    · rfl
  · rfl
theorem ae_cat_c (a : ae_v) : (ae_c ρ a).category = ae_cat a := by
  rcases a with n | i | o | n | i <;> rfl
theorem ae_iv_c (x : Int ⊕ Nat) : ae_c ρ (ae_iv x) = .int (ae_ci ρ x) := by cases x <;> rfl
theorem ae_pI_inv (hin : ae_in ρ env) {st : List ae_v} {k : Int → List ae_v → Bool} (hs : ae_pI env st k = true) : ∃ n r, st.map (ae_c ρ) = .int (Int32.ofInt n) :: r.map (ae_c ρ) ∧ k n r = true := by
  unfold ae_pI at hs
  split at hs
  · rename_i a r
    split at hs
    · rename_i n hn
      refine ⟨n, r, ?_, hs⟩
      rw [List.map_cons, ← ae_n_c hin a, hn]
      rfl
    · cases hs
  · cases hs
theorem ae_pS_inv (hin : ae_in ρ env) {st : List ae_v} {k : Int ⊕ Nat → List ae_v → Bool} (hs : ae_pS env st k = true) : ∃ x r, st.map (ae_c ρ) = .int (ae_ci ρ x) :: r.map (ae_c ρ) ∧ k x r = true := by
  unfold ae_pS at hs
  split at hs
  · rename_i a r
    split at hs
    · rename_i n hn
      refine ⟨.inl n, r, ?_, hs⟩
      rw [List.map_cons, ← ae_n_c hin a, hn]
      rfl
    · rename_i n hn
      refine ⟨.inr n, r, ?_, hs⟩
      rw [List.map_cons, ← ae_n_c hin a, hn]
      rfl
    · cases hs
  · cases hs
theorem ae_pR_inv {st : List ae_v} {k : Nat → List ae_v → Bool} (hs : ae_pR st k = true) : ∃ o r, st.map (ae_c ρ) = .ref o :: r.map (ae_c ρ) ∧ k o r = true := by
  unfold ae_pR at hs
  split at hs
  · exact ⟨_, _, rfl, hs⟩
  · cases hs
theorem ae_pL_inv {st : List ae_v} {k : ae_v → List ae_v → Bool} (hs : ae_pL st k = true) : ∃ a x r, ae_c ρ a = .long x ∧ st.map (ae_c ρ) = .long x :: r.map (ae_c ρ) ∧ k a r = true := by
  unfold ae_pL at hs
  split at hs
  · rename_i x r
    rcases x with n | i
    · exact ⟨_, Int64.ofInt n, r, rfl, rfl, hs⟩
    · exact ⟨_, ae_lc ρ i, r, rfl, rfl, hs⟩
  · cases hs
theorem ae_pL_inv2 {st : List ae_v} {k : ae_v → List ae_v → Bool} (hs : ae_pL st k = true) : ∃ x r, st.map (ae_c ρ) = ae_c ρ (.inr (.inr (.inr x))) :: r.map (ae_c ρ) ∧ k (.inr (.inr (.inr x))) r = true := by
  unfold ae_pL at hs
  split at hs
  · exact ⟨_, _, rfl, hs⟩
  · cases hs
theorem ae_pV_inv {st : List ae_v} {k : ae_v → List ae_v → Bool} (hs : ae_pV st k = true) : ∃ a r, st.map (ae_c ρ) = ae_c ρ a :: r.map (ae_c ρ) ∧ k a r = true := by
  unfold ae_pV at hs
  split at hs
  · exact ⟨_, _, rfl, hs⟩
  · cases hs
theorem ae_lv_c (lv : ae_l) (i : Nat) : am_lk (ae_cl ρ lv) i = (ae_lv lv i).map (ae_c ρ) := by
  induction lv with
  | nil => rfl
  | cons q r ih =>
    show (bif Nat.beq q.1 i then some (ae_c ρ q.2) else am_lk (ae_cl ρ r) i) = (bif Nat.beq q.1 i then some q.2 else ae_lv r i).map (ae_c ρ)
    rw [ih]
    cases Nat.beq q.1 i <;> rfl
theorem ae_li_inv {lv : ae_l} {i : Nat} {k : ae_v → Bool} (hs : ae_li lv i k = true) : ∃ a x, am_lk (ae_cl ρ lv) i = some (.int x) ∧ ae_c ρ a = .int x ∧ k a = true := by
  unfold ae_li at hs
  split at hs
  · rename_i n hn
    exact ⟨_, _, by rw [ae_lv_c, hn]; rfl, rfl, hs⟩
  · rename_i n hn
    exact ⟨_, _, by rw [ae_lv_c, hn]; rfl, rfl, hs⟩
  · cases hs
theorem ae_ll_inv {lv : ae_l} {i : Nat} {k : ae_v → Bool} (hs : ae_ll lv i k = true) : ∃ a x, am_lk (ae_cl ρ lv) i = some (.long x) ∧ ae_c ρ a = .long x ∧ k a = true := by
  unfold ae_ll at hs
  split at hs
  · rename_i x hn
    rcases x with n | j
    · exact ⟨_, Int64.ofInt n, by rw [ae_lv_c, hn]; rfl, rfl, hs⟩
    · exact ⟨_, ae_lc ρ j, by rw [ae_lv_c, hn]; rfl, rfl, hs⟩
  · cases hs
theorem ae_la_inv {lv : ae_l} {i : Nat} {k : ae_v → Bool} (hs : ae_la lv i k = true) : ∃ a x, am_lk (ae_cl ρ lv) i = some (.ref x) ∧ ae_c ρ a = .ref x ∧ k a = true := by
  unfold ae_la at hs
  split at hs
  · rename_i n hn
    exact ⟨_, _, by rw [ae_lv_c, hn]; rfl, rfl, hs⟩
  · cases hs
theorem ae_s1_c (lv : ae_l) (i : Nat) (v : ae_v) : ae_cl ρ (ae_s1 lv i v) = am_s1 (ae_cl ρ lv) i (ae_c ρ v) := by
  simp only [ae_cl, ae_s1, am_s1, List.map_cons, List.filter_map]
  congr 2
  apply List.filter_congr
  intro q _
  simp only [ae_beq, Function.comp, ae_cat_c]
  rfl
theorem ae_s2_c (lv : ae_l) (i : Nat) (v : ae_v) : ae_cl ρ (ae_s2 lv i v) = am_s2 (ae_cl ρ lv) i (ae_c ρ v) := by
  simp only [ae_cl, ae_s2, am_s2, List.map_cons, List.filter_map]
  congr 2
  apply List.filter_congr
  intro q _
  simp only [ae_beq, Function.comp, ae_cat_c]
  rfl
theorem ae_i2_c (f : Int32 → Int32 → Int32) (n m : Int) : ae_c ρ (ae_i2 f n m) = .int (f (Int32.ofInt n) (Int32.ofInt m)) := by
  show Value.int (Int32.ofInt (f (Int32.ofInt n) (Int32.ofInt m)).toInt) = _
  rw [Int32.ofInt_toInt]
theorem ae_ofI (x : Int32) : ae_c ρ (.inl x.toInt) = .int x := by
  show Value.int (Int32.ofInt x.toInt) = _
  rw [Int32.ofInt_toInt]
theorem ae_ofL (x : Int64) : ae_c ρ (.inr (.inr (.inr (.inl x.toInt)))) = .long x := by
  show Value.long (Int64.ofInt x.toInt) = _
  rw [Int64.ofInt_toInt]
theorem ae_bltd (a b : Nat) : Nat.blt a b = decide (a < b) := by
  cases hq : Nat.blt a b with
  | true => rw [decide_eq_true (show a < b from Nat.le_of_ble_eq_true hq)]
  | false =>
    rw [decide_eq_false]
    intro hlt
    have : Nat.blt a b = true := Nat.ble_eq_true_of_le hlt
    rw [hq] at this
    cases this
theorem ae_lc_0 {i : Nat} (h : i < 10) : ae_lc ρ i = (ρ i).toInt64 := by
  unfold ae_lc
  rw [ae_bltd, decide_eq_true (by omega : i < 100)]
  rfl
theorem ae_lc_1 {i : Nat} (h : i < 10) : ae_lc ρ (100 + i) = ae_sh ρ i := by
  unfold ae_lc
  rw [ae_bltd, ae_bltd, decide_eq_false (by omega : ¬ 100 + i < 100), decide_eq_true (by omega : 100 + i < 200), show 100 + i - 100 = i by omega]
  rfl
theorem ae_lc_2 {i : Nat} (h : i < 10) : ae_lc ρ (200 + i) = ae_mk ρ i := by
  unfold ae_lc
  rw [ae_bltd, ae_bltd, ae_bltd, decide_eq_false (by omega : ¬ 200 + i < 100), decide_eq_false (by omega : ¬ 200 + i < 200), decide_eq_true (by omega : 200 + i < 300), show 200 + i - 200 = i by omega]
  rfl
theorem ae_lc_3 {i j : Nat} (h : i < 10) (hj : j < 10) : ae_lc ρ (1000 + (10 * i + j)) = ae_sh ρ i ||| ae_mk ρ j := by
  unfold ae_lc
  rw [ae_bltd, ae_bltd, ae_bltd, decide_eq_false (by omega : ¬ 1000 + (10 * i + j) < 100), decide_eq_false (by omega : ¬ 1000 + (10 * i + j) < 200), decide_eq_false (by omega : ¬ 1000 + (10 * i + j) < 300), show (1000 + (10 * i + j) - 1000) / 10 = i by omega, show (1000 + (10 * i + j) - 1000) % 10 = j by omega]
  rfl
theorem ae_nI (n : Nat) : Int32.ofInt (n : Int) = nI n := by
  unfold nI
  first
    | rfl
    | exact Int32.ofInt_eq_ofNat
    | simp
theorem ae_in_set {i : Nat} {q : Int × Int} (hin : ae_in ρ env) (h1 : q.1 ≤ (ρ i).toInt) (h2 : (ρ i).toInt ≤ q.2) : ae_in ρ (env.set i q) := by
  refine ⟨fun j w hw => ?_, hin.2⟩
  by_cases hj : j = i
  · subst hj
    have hl : j < env.length := by
      have := (List.getElem?_eq_some_iff.mp hw).1
      simpa using this
    rw [List.getElem?_set_self hl] at hw
    cases hw
    exact ⟨h1, h2⟩
  · rw [List.getElem?_set_ne (fun z => hj z.symm)] at hw
    exact hin.1 j w hw
/-- a comparison of whole numbers -/
def ae_ti (q : Jvm.ClassFile.Cond) (x y : Int) : Prop := match q with
  | .eq => x = y
  | .ne => ¬ x = y
  | .lt => x < y
  | .ge => y ≤ x
  | .gt => y < x
  | .le => x ≤ y
theorem ae_ti_c (q : Jvm.ClassFile.Cond) (x y : Int32) : am_c q x y ↔ ae_ti q x.toInt y.toInt := by
  cases q
  · exact Int32.toInt_inj.symm
  · exact not_congr Int32.toInt_inj.symm
  · exact Int32.lt_iff_toInt_lt
  · exact Int32.le_iff_toInt_le
  · exact Int32.lt_iff_toInt_lt
  · exact Int32.le_iff_toInt_le
theorem ae_flip_ti (q : Jvm.ClassFile.Cond) (x y : Int) : ae_ti (ae_flip q) x y ↔ ae_ti q y x := by
  cases q
  · exact eq_comm
  · exact not_congr eq_comm
  all_goals exact Iff.rfl
theorem ae_cut_ok (q : Jvm.ClassFile.Cond) {lo hi m z : Int} (h1 : lo ≤ z) (h2 : z ≤ hi) : ∃ c ∈ ae_cut q lo hi m, (c.1 ≤ z ∧ z ≤ c.2.1) ∧ (ae_ti q z m ↔ c.2.2 = true) := by
  cases q
  case lt =>
    by_cases h : z < m
    · exact ⟨_, List.mem_cons_self, ⟨h1, by show z ≤ min hi (m - 1); omega⟩, by simp [ae_ti, h]⟩
    · exact ⟨_, List.mem_cons_of_mem _ List.mem_cons_self, ⟨by show max lo m ≤ z; omega, h2⟩, by simp [ae_ti, h]⟩
  case ge =>
    by_cases h : z < m
    · exact ⟨_, List.mem_cons_self, ⟨h1, by show z ≤ min hi (m - 1); omega⟩, by simp [ae_ti]; omega⟩
    · exact ⟨_, List.mem_cons_of_mem _ List.mem_cons_self, ⟨by show max lo m ≤ z; omega, h2⟩, by simp [ae_ti]; omega⟩
  case le =>
    by_cases h : z ≤ m
    · exact ⟨_, List.mem_cons_self, ⟨h1, by show z ≤ min hi m; omega⟩, by simp [ae_ti, h]⟩
    · exact ⟨_, List.mem_cons_of_mem _ List.mem_cons_self, ⟨by show max lo (m + 1) ≤ z; omega, h2⟩, by simp [ae_ti, h]⟩
  case gt =>
    by_cases h : z ≤ m
    · exact ⟨_, List.mem_cons_self, ⟨h1, by show z ≤ min hi m; omega⟩, by simp [ae_ti]; omega⟩
    · exact ⟨_, List.mem_cons_of_mem _ List.mem_cons_self, ⟨by show max lo (m + 1) ≤ z; omega, h2⟩, by simp [ae_ti]; omega⟩
  case eq =>
    by_cases h : z = m
    · exact ⟨_, List.mem_cons_self, ⟨by show max lo m ≤ z; omega, by show z ≤ min hi m; omega⟩, by simp [ae_ti, h]⟩
    · by_cases h3 : z < m
      · exact ⟨_, List.mem_cons_of_mem _ List.mem_cons_self, ⟨h1, by show z ≤ min hi (m - 1); omega⟩, by simp [ae_ti, h]⟩
      · exact ⟨_, List.mem_cons_of_mem _ (List.mem_cons_of_mem _ List.mem_cons_self), ⟨by show max lo (m + 1) ≤ z; omega, h2⟩, by simp [ae_ti, h]⟩
  case ne =>
    by_cases h : z = m
    · exact ⟨_, List.mem_cons_self, ⟨by show max lo m ≤ z; omega, by show z ≤ min hi m; omega⟩, by simp [ae_ti, h]⟩
    · by_cases h3 : z < m
      · exact ⟨_, List.mem_cons_of_mem _ List.mem_cons_self, ⟨h1, by show z ≤ min hi (m - 1); omega⟩, by simp [ae_ti, h]⟩
      · exact ⟨_, List.mem_cons_of_mem _ (List.mem_cons_of_mem _ List.mem_cons_self), ⟨by show max lo (m + 1) ≤ z; omega, h2⟩, by simp [ae_ti, h]⟩
theorem ae_br_inv (hin : ae_in ρ env) {q : Jvm.ClassFile.Cond} {x y : Int ⊕ Nat} {k : ae_e → Bool → Bool} (hs : ae_br env q x y k = true) : ∃ env' t, ae_in ρ env' ∧ k env' t = true ∧ (am_c q (ae_ci ρ x) (ae_ci ρ y) ↔ t = true) := by
  have pick : ∀ (q : Jvm.ClassFile.Cond) (i : Nat) (w : Int × Int) (m : Int), env[i]? = some w → (ae_cut q w.1 w.2 m).all (fun c => bif decide (c.1 ≤ c.2.1) then k (env.set i (c.1, c.2.1)) c.2.2 else true) = true → ∃ env' t, ae_in ρ env' ∧ k env' t = true ∧ (ae_ti q (ρ i).toInt m ↔ t = true) := by
    intro q i w m hw ha
    have hb := hin.1 i w hw
    obtain ⟨c, hc, ⟨c1, c2⟩, c3⟩ := ae_cut_ok q (m := m) hb.1 hb.2
    have h1 := List.all_eq_true.mp ha c hc
    rw [decide_eq_true (by omega : c.1 ≤ c.2.1)] at h1
    exact ⟨_, _, ae_in_set hin c1 c2, h1, c3⟩
  unfold ae_br at hs
  split at hs
  · rename_i n m
    refine ⟨env, _, hin, hs, ?_⟩
    cases q <;> simp [am_c, ae_cc, ae_ci]
  · rename_i i m
    split at hs
    · rename_i w hw
      obtain ⟨env', t, e1, e2, e3⟩ := pick q i w _ hw hs
      exact ⟨env', t, e1, e2, (ae_ti_c _ _ _).trans e3⟩
    · cases hs
  · rename_i m i
    split at hs
    · rename_i w hw
      obtain ⟨env', t, e1, e2, e3⟩ := pick (ae_flip q) i w _ hw hs
      exact ⟨env', t, e1, e2, (ae_ti_c _ _ _).trans ((ae_flip_ti q _ _).symm.trans e3)⟩
    · cases hs
  · rename_i i j
    rw [Bool.and_eq_true] at hs
    have e1 : i = j := Nat.eq_of_beq_eq_true hs.1
    subst e1
    refine ⟨env, _, hin, hs.2, ?_⟩
    rw [ae_ti_c]
    cases q <;> simp [ae_ti]
theorem ae_all_inv (hin : ae_in ρ env) {i : Nat} {k : ae_e → Bool} (hs : ae_all env i k = true) : ∃ env', ae_in ρ env' ∧ k env' = true := by
  unfold ae_all at hs
  split at hs
  · rename_i w hw
    rw [Bool.and_eq_true] at hs
    have hb := hin.1 i w hw
    have h1 := List.all_eq_true.mp hs.2 ((ρ i).toInt - w.1).toNat (List.mem_range.mpr (by omega))
    refine ⟨_, ae_in_set hin ?_ ?_, h1⟩
    · show w.1 + (((ρ i).toInt - w.1).toNat : Int) ≤ (ρ i).toInt
      omega
    · show (ρ i).toInt ≤ w.1 + (((ρ i).toInt - w.1).toNat : Int)
      omega
  · cases hs
theorem ae_shl_eq : ae_shl = am_shl := by decide +kernel
theorem ae_so_ok (hR : ae_R ρ LL H h) {o : Nat} {e : Nat × Nat} (hs : ae_so H o = some e) : am_so h o = some e := by
  unfold ae_so at hs
  unfold am_so
  rw [hR.1, ← ae_shl_eq]
  cases hq : Nat.blt o H.2.2.1 with
  | true =>
    rw [hq] at hs
    cases hz : Nat.ble H.2.2.2 o with
    | true =>
      rw [hz] at hs
      exact hs
    | false =>
      rw [hz] at hs
      cases hs
  | false =>
    rw [hq] at hs
    cases hs
theorem ae_so_lt (hR : ae_R ρ LL H h) {o : Nat} {e : Nat × Nat} (hs : ae_so H o = some e) : H.2.2.2 ≤ o ∧ o < H.2.2.1 := by
  have := (am_so_lt (ae_so_ok hR hs)).1
  rw [hR.1] at this
  refine ⟨?_, this⟩
  unfold ae_so at hs
  cases hz : Nat.ble H.2.2.2 o with
  | true => exact Nat.le_of_ble_eq_true hz
  | false =>
    rw [hz, Bool.and_false] at hs
    cases hs
theorem ae_sh_ok (hR : ae_R ρ LL H h) {o : Nat} {e : Nat × Nat} (hs : ae_so H o = some e) : am_sh h o = some e := by
  unfold am_sh
  have h1 := ae_so_lt hR hs
  have h2 := hR.2.2.1
  have : Nat.beq o 3000000 = false := by
    rw [ae_beq]
    exact decide_eq_false (by omega)
  rw [this]
  exact ae_so_ok hR hs
theorem ae_ob_inv {e : Option (Nat × Nat)} {b : Nat} (hs : ae_ob e b = true) : e = some (b, 0) := by
  unfold ae_ob at hs
  split at hs
  · rw [Bool.and_eq_true] at hs
    rw [Nat.eq_of_beq_eq_true hs.1, Nat.eq_of_beq_eq_true hs.2]
  · cases hs
theorem ae_ar_inv {e : Option (Nat × Nat)} {b : Nat} {j : Int} {k : Nat → Bool} (hs : ae_ar e b j k = true) : ∃ n i : Nat, e = some (b, n) ∧ j = (i : Int) ∧ i < n ∧ k i = true := by
  unfold ae_ar at hs
  split at hs
  · rename_i t n
    rw [Bool.and_eq_true] at hs
    obtain ⟨h1, h2⟩ := hs
    split at h2
    · rename_i i
      rw [Bool.and_eq_true] at h2
      exact ⟨n, i, by rw [Nat.eq_of_beq_eq_true h1], rfl, Nat.le_of_ble_eq_true h2.1, h2.2⟩
    · cases h2
  · cases hs
theorem ae_R_wI (hR : ae_R ρ LL H h) {o k : Nat} (ho : H.2.2.2 ≤ o ∧ o < H.2.2.1) (v : Int ⊕ Nat) : ae_R ρ LL (ae_wI H o k v) (am_wI h o k (ae_ci ρ v)) := by
  obtain ⟨r1, r2, r3, r4, r5, r6, r7, r8⟩ := hR
  refine ⟨r1, r2, r3, fun a b ha => ?_, r5, fun j hj => ?_, fun a b ha => ?_, r8⟩
  · show (if a = o ∧ b = k then ae_ci ρ v else h.1 a b) = ae_ci ρ (ae_lk (ae_up H.1 o k v) a b (.inl 0))
    rw [ae_lk_up]
    by_cases hh : a = o ∧ b = k
    · rw [if_pos hh, if_pos hh]
    · rw [if_neg hh, if_neg hh]
      exact r4 a b ha
  · show (if 3000000 = o ∧ j = k then ae_ci ρ v else h.1 3000000 j) = ρ j
    rw [if_neg (fun q => by omega)]
    exact r6 j hj
  · show ae_lk (ae_up H.1 o k v) a b (.inl 0) = .inl 0
    have ha : H.2.2.1 ≤ a := ha
    rw [ae_lk_up, if_neg (fun q => by omega)]
    exact r7 a b ha
theorem ae_R_wR (hR : ae_R ρ LL H h) {o k : Nat} (ho : H.2.2.2 ≤ o ∧ o < H.2.2.1) (v : Option Nat) : ae_R ρ LL (ae_wR H o k v) (am_wR h o k v) := by
  obtain ⟨r1, r2, r3, r4, r5, r6, r7, r8⟩ := hR
  refine ⟨r1, r2, r3, r4, fun a b ha => ?_, r6, r7, fun a b ha => ?_⟩
  · show (if a = o ∧ b = k then v else h.2.2.1 a b) = ae_lk (ae_up H.2.1 o k v) a b none
    rw [ae_lk_up]
    by_cases hh : a = o ∧ b = k
    · rw [if_pos hh, if_pos hh]
    · rw [if_neg hh, if_neg hh]
      exact r5 a b ha
  · show ae_lk (ae_up H.2.1 o k v) a b none = none
    have ha : H.2.2.1 ≤ a := ha
    rw [ae_lk_up, if_neg (fun q => by omega)]
    exact r8 a b ha
theorem ae_R_nx (hR : ae_R ρ LL H h) (hl : H.2.2.1 < 175) : ae_R ρ LL (ae_nx H) (am_nx h) := by
  obtain ⟨r1, r2, r3, r4, r5, r6, r7, r8⟩ := hR
  refine ⟨by show h.2.2.2.2 + 1 = H.2.2.1 + 1; rw [r1], r2, hl, fun a b ha => ?_, fun a b ha => ?_, fun j hj => ?_, fun a b ha => r7 a b (Nat.le_of_succ_le ha), fun a b ha => r8 a b (Nat.le_of_succ_le ha)⟩
  · show (if a = h.2.2.2.2 then 0 else h.1 a b) = _
    rw [r1]
    by_cases hh : a = H.2.2.1
    · rw [if_pos hh]
      show _ = ae_ci ρ (ae_lk H.1 a b (.inl 0))
      rw [r7 a b (by omega)]
      rfl
    · rw [if_neg hh]
      exact r4 a b (by have : H.2.2.2 ≤ a ∧ a < H.2.2.1 + 1 := ha; omega)
  · show (if a = h.2.2.2.2 then none else h.2.2.1 a b) = _
    rw [r1]
    by_cases hh : a = H.2.2.1
    · rw [if_pos hh]
      show _ = ae_lk H.2.1 a b none
      rw [r8 a b (by omega)]
    · rw [if_neg hh]
      exact r5 a b (by have : H.2.2.2 ≤ a ∧ a < H.2.2.1 + 1 := ha; omega)
  · show (if 3000000 = h.2.2.2.2 then 0 else h.1 3000000 j) = ρ j
    rw [if_neg (by rw [r1]; omega)]
    exact r6 j hj
theorem ae_new_inv (hR : ae_R ρ LL H h) {lim b : Nat} {n : Int} (hs : ae_new H lim b n = true) : ∃ m : Nat, n = (m : Int) ∧ am_shl[h.2.2.2.2]? = some (b, m) ∧ h.2.2.2.2 + 1 ≤ lim ∧ H.2.2.1 < 175 := by
  unfold ae_new at hs
  split at hs
  · rename_i t m hm
    rw [Bool.and_eq_true, Bool.and_eq_true] at hs
    rw [ae_shl_eq] at hm
    exact ⟨m, of_decide_eq_true hs.2.1, by rw [hR.1, hm, Nat.eq_of_beq_eq_true hs.1], by rw [hR.1]; exact Nat.le_of_ble_eq_true hs.2.2, am_sh_lt hm⟩
  · cases hs
theorem ae_fit_inv {ty : FieldType} {x : Int ⊕ Nat} (hs : ae_fit ty x = true) : narrow ty (.int (ae_ci ρ x)) = .int (ae_ci ρ x) ∧ fits ty (.int (ae_ci ρ x)) = true := by
  unfold ae_fit at hs
  split at hs
  · rw [Bool.and_eq_true] at hs
    exact ⟨of_decide_eq_true hs.1, hs.2⟩
  · rw [of_decide_eq_true hs]
    exact ⟨rfl, rfl⟩
theorem ae_pop_c : ∀ (n : Nat) (acc st : List ae_v), am_pop n (acc.map (ae_c ρ)) (st.map (ae_c ρ)) = (ae_pop n acc st).map (fun q => (q.1.map (ae_c ρ), q.2.map (ae_c ρ)))
  | 0, acc, st => rfl
  | n + 1, acc, v :: st => ae_pop_c n (v :: acc) st
  | n + 1, acc, [] => rfl
theorem ae_sum_c (r : List ae_v) : ((r.map (ae_c ρ)).map fun v => v.category).sum = (r.map ae_cat).sum := by
  rw [List.map_map]
  congr 1
  exact List.map_congr_left (fun a _ => ae_cat_c a)
