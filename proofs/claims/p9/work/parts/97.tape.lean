/-! THE CLASS'S TAPE, EXACTLY -/
variable {h h0 : am_H} {sz p a : Nat} {T : Nat → Int32} {Q : am_Q}
/-- the letters of a word, a byte each; a number -/
def cw (T : Nat → Int32) (p : Nat) : Nat → Int64
  | 0 => Int64.ofNat 0
  | j + 1 => ((cw T p j) <<< (((Int8.ofInt 8).toInt32).toInt64 &&& 63)) ||| (T (p + j)).toInt64
def cn (T : Nat → Int32) (p : Nat) : Nat → Int32
  | 0 => Int32.ofInt 0
  | j + 1 => cn T p j * (Int8.ofInt 10).toInt32 + (T (p + j) - (Int8.ofInt 48).toInt32)
/-- the class's kind of a token -/
def ck (k : Int32) : Int32 := bif decide (k = 0) then 4 else bif decide (k = 4) then 0 else k
/-- nothing but the tape's own fields is touched -/
def fr1 (h0 h : am_H) : Prop := h.2.2 = h0.2.2 ∧ ∀ o k, ¬ o = 1 → h.1 o k = h0.1 o k ∧ h.2.1 o k = h0.2.1 o k
theorem fr1_refl (h : am_H) : fr1 h h := ⟨rfl, fun _ _ _ => ⟨rfl, rfl⟩⟩
theorem fr1_tr {h1 h2 : am_H} (f : fr1 h h1) (g : fr1 h1 h2) : fr1 h h2 := ⟨g.1.trans f.1, fun o k ho => ⟨((g.2 o k ho).1).trans (f.2 o k ho).1, ((g.2 o k ho).2).trans (f.2 o k ho).2⟩⟩
def ctp (h0 : am_H) (sz : Nat) (T : Nat → Int32) (h : am_H) : Prop := ex_P h ∧ fr1 h0 h ∧ h.1 1 1 = nI sz ∧ (∀ q, q < sz → h.1 2 q = T q) ∧ h.1 1 7 = h0.1 1 7
theorem ct1_w {k : Nat} {v : Int32} (q : ctp h0 sz T h) (hk : 2 ≤ k ∧ k ≤ 6) : ctp h0 sz T (am_wI h 1 k v) := by
  refine ⟨q.1, ⟨q.2.1.1, fun o j ho => ⟨?_, (q.2.1.2 o j ho).2⟩⟩, ?_, fun j hj => ?_, ?_⟩
  · rw [em_wn h _ (by omega)]
    exact (q.2.1.2 o j ho).1
  · rw [em_wn h _ (by omega)]
    exact q.2.2.1
  · rw [em_wn h _ (by omega)]
    exact q.2.2.2.1 j hj
  · rw [em_wn h _ (by omega)]
    exact q.2.2.2.2
theorem ex_lw {o k : Nat} {v : Int64} : (am_wL h o k v).2.1 o k = v := if_pos ⟨rfl, rfl⟩
theorem ex_ln {o k o' k' : Nat} {v : Int64} (hn : ¬ (o' = o ∧ k' = k)) : (am_wL h o k v).2.1 o' k' = h.2.1 o' k' := if_neg hn
theorem ct1_l {v : Int64} (q : ctp h0 sz T h) : ctp h0 sz T (am_wL h 1 5 v) := ⟨q.1, ⟨q.2.1.1, fun o j ho => ⟨(q.2.1.2 o j ho).1, (ex_ln (by omega)).trans (q.2.1.2 o j ho).2⟩⟩, q.2.2.1, q.2.2.2.1, q.2.2.2.2⟩
theorem ct1_2 {v : Int32} (q : ctp h0 sz T h) : ctp h0 sz T (am_wI h 1 2 v) := ct1_w q (by omega)
theorem ct1_3 {v : Int32} (q : ctp h0 sz T h) : ctp h0 sz T (am_wI h 1 3 v) := ct1_w q (by omega)
theorem ct1_4 {v : Int32} (q : ctp h0 sz T h) : ctp h0 sz T (am_wI h 1 4 v) := ct1_w q (by omega)
theorem ct1_6 {v : Int32} (q : ctp h0 sz T h) : ctp h0 sz T (am_wI h 1 6 v) := ct1_w q (by omega)
theorem ex_1 {h : am_H} (hP : ex_P h) : am_sh h 1 = some (7, 0) := (ex_so hP (by decide +kernel)).2
theorem ex_2 {h : am_H} (hP : ex_P h) : am_sh h 2 = some (12, 1000) := (ex_so hP (by decide +kernel)).2
theorem ex_w2 {h : am_H} (hP : ex_P h) : am_so h 2 = some (12, 1000) := (ex_so hP (by decide +kernel)).1
theorem ex_r1_0 {h : am_H} (hP : ex_P h) : h.2.2.1 1 0 = some 2 := hP.2 1 0 2 (by decide +kernel)
theorem tk_ge (f : Int32 → Bool) (T : Nat → Int32) {sz : Nat} : ∀ {k : Nat}, k ≤ sz → k ≤ tk_go f T sz k ∧ tk_go f T sz k ≤ sz := by
  have key : ∀ m k, k ≤ sz → sz ≤ k + m → k ≤ tk_go f T sz k ∧ tk_go f T sz k ≤ sz := by
    intro m
    induction m with
    | zero =>
      intro k hk hm
      rw [tk_go_n (fun w => absurd w (by omega))]
      omega
    | succ m ih =>
      intro k hk hm
      by_cases w : k < sz ∧ f (T k) = true
      · rw [tk_go_y w.1 w.2]
        have := ih (k + 1) (by omega) (by omega)
        omega
      · rw [tk_go_n (fun z => by
          cases hb : f (T k) with
          | false => rfl
          | true => exact absurd ⟨z, hb⟩ w)]
        omega
  intro k hk
  exact key sz k hk (by omega)
theorem cs_word_l (hz : sz ≤ 1000) (hend : ∀ h1, ctp h0 sz T h1 → h1.1 1 3 = nI p → h1.1 1 4 = nI (tk_go pz_let T sz p) → h1.2.1 1 5 = cw T p (tk_go pz_let T sz p - p) → pz_S 1 none am_r19 0 Q 79 [(0, .ref 1)] [] h1) : ∀ (m k : Nat) (h : am_H), sz ≤ k + m → p ≤ k → k ≤ sz → tk_go pz_let T sz p = tk_go pz_let T sz k → ctp h0 sz T h → h.1 1 3 = nI p → h.1 1 4 = nI k → h.2.1 1 5 = cw T p (k - p) → pz_S 1 none am_r19 0 Q 5 [(0, .ref 1)] [] h := by
  intro m
  induction m with
  | zero =>
    intro k h hm hpk hks hq l e3 e4 ew
    have hP := l.1
    refine am_goX 4 (show am_sh h 1 = some (7, 0) ∧ am_sh h 1 = some (7, 0) ∧ pz_S 1 none am_r19 0 Q 13 [(0, .ref 1)] [.int (h.1 1 1), .int (h.1 1 4)] h from ⟨ex_1 hP, ex_1 hP, ?_⟩)
    rw [e4, l.2.2.1]
    refine am_goX 1 (show ((nI sz) ≤ (nI k) → pz_S 1 none am_r19 0 Q 79 [(0, .ref 1)] [] h) ∧ (¬ ((nI sz) ≤ (nI k)) → pz_S 1 none am_r19 0 Q 16 [(0, .ref 1)] [] h) from ⟨fun hc => ?_, fun hc => ?_⟩)
    · have hge : sz ≤ k := by
        rw [nI_leI (by omega) (by omega)] at hc
        exact hc
      have ek : tk_go pz_let T sz p = k := hq.trans (tk_go_n (fun w => absurd w (by omega)))
      exact hend h l e3 (by rw [ek]; exact e4) (by rw [ek]; exact ew)
    · exact absurd (nI_le (by omega) (by omega)) hc
  | succ m ih =>
    intro k h hm hpk hks hq l e3 e4 ew
    have hP := l.1
    refine am_goX 4 (show am_sh h 1 = some (7, 0) ∧ am_sh h 1 = some (7, 0) ∧ pz_S 1 none am_r19 0 Q 13 [(0, .ref 1)] [.int (h.1 1 1), .int (h.1 1 4)] h from ⟨ex_1 hP, ex_1 hP, ?_⟩)
    rw [e4, l.2.2.1]
    refine am_goX 1 (show ((nI sz) ≤ (nI k) → pz_S 1 none am_r19 0 Q 79 [(0, .ref 1)] [] h) ∧ (¬ ((nI sz) ≤ (nI k)) → pz_S 1 none am_r19 0 Q 16 [(0, .ref 1)] [] h) from ⟨fun hc => ?_, fun hc => ?_⟩)
    · have hge : sz ≤ k := by
        rw [nI_leI (by omega) (by omega)] at hc
        exact hc
      have ek : tk_go pz_let T sz p = k := hq.trans (tk_go_n (fun w => absurd w (by omega)))
      exact hend h l e3 (by rw [ek]; exact e4) (by rw [ek]; exact ew)
    have hks0 : k < sz := by
      rcases Nat.lt_or_ge k sz with w | w
      · exact w
      · exact absurd (nI_le w (by omega)) hc
    clear hc
    refine am_goX 2 (show am_sh h 1 = some (7, 0) ∧ pz_S 1 none am_r19 0 Q 20 [(0, .ref 1)] [am_rf (h.2.2.1 1 0)] h from ⟨ex_1 hP, ?_⟩)
    rw [ex_r1_0 hP]
    refine am_goX 3 (show am_sh h 1 = some (7, 0) ∧ ∃ jj nn : Nat, am_sh h 2 = some (12, nn) ∧ jj < nn ∧ (h.1 1 4) = nI jj ∧ pz_S 1 none am_r19 0 Q 25 [(0, .ref 1)] [.int (h.1 2 jj)] h from ⟨ex_1 hP, k, 1000, ex_2 hP, by omega, e4, ?_⟩)
    rw [l.2.2.2.1 k hks0]
    refine am_goX 2 (show ((T k) < (Int8.ofInt 97).toInt32 → pz_S 1 none am_r19 0 Q 79 [(0, .ref 1)] [] h) ∧ (¬ ((T k) < (Int8.ofInt 97).toInt32) → pz_S 1 none am_r19 0 Q 30 [(0, .ref 1)] [] h) from ⟨fun hc => ?_, fun hc => ?_⟩)
    · have ef : pz_let (T k) = false := by
        unfold pz_let
        rw [decide_eq_true hc]
        rfl
      have ek : tk_go pz_let T sz p = k := hq.trans (tk_go_n (fun w => ef))
      exact hend h l e3 (by rw [ek]; exact e4) (by rw [ek]; exact ew)
    have hc1 := hc
    clear hc
    refine am_goX 2 (show am_sh h 1 = some (7, 0) ∧ pz_S 1 none am_r19 0 Q 34 [(0, .ref 1)] [am_rf (h.2.2.1 1 0)] h from ⟨ex_1 hP, ?_⟩)
    rw [ex_r1_0 hP]
    refine am_goX 3 (show am_sh h 1 = some (7, 0) ∧ ∃ jj nn : Nat, am_sh h 2 = some (12, nn) ∧ jj < nn ∧ (h.1 1 4) = nI jj ∧ pz_S 1 none am_r19 0 Q 39 [(0, .ref 1)] [.int (h.1 2 jj)] h from ⟨ex_1 hP, k, 1000, ex_2 hP, by omega, e4, ?_⟩)
    rw [l.2.2.2.1 k hks0]
    refine am_goX 2 (show ((Int8.ofInt 122).toInt32 < (T k) → pz_S 1 none am_r19 0 Q 79 [(0, .ref 1)] [] h) ∧ (¬ ((Int8.ofInt 122).toInt32 < (T k)) → pz_S 1 none am_r19 0 Q 44 [(0, .ref 1)] [] h) from ⟨fun hc => ?_, fun hc => ?_⟩)
    · have ef : pz_let (T k) = false := by
        unfold pz_let
        rw [decide_eq_true hc, Bool.not_true, Bool.and_false]
      have ek : tk_go pz_let T sz p = k := hq.trans (tk_go_n (fun w => ef))
      exact hend h l e3 (by rw [ek]; exact e4) (by rw [ek]; exact ew)
    have eg : pz_let (T k) = true := by
      unfold pz_let
      rw [decide_eq_false hc1, decide_eq_false hc]
      rfl
    clear hc hc1
    refine am_goX 7 (show am_sh h 1 = some (7, 0) ∧ am_sh h 1 = some (7, 0) ∧ pz_S 1 none am_r19 0 Q 56 [(0, .ref 1)] [am_rf (h.2.2.1 1 0), .long (((h.2.1 1 5)) <<< (((Int8.ofInt 8).toInt32).toInt64 &&& 63)), .ref 1] h from ⟨ex_1 hP, ex_1 hP, ?_⟩)
    rw [ex_r1_0 hP]
    refine am_goX 3 (show am_sh h 1 = some (7, 0) ∧ ∃ jj nn : Nat, am_sh h 2 = some (12, nn) ∧ jj < nn ∧ (h.1 1 4) = nI jj ∧ pz_S 1 none am_r19 0 Q 61 [(0, .ref 1)] [.int (h.1 2 jj), .long (((h.2.1 1 5)) <<< (((Int8.ofInt 8).toInt32).toInt64 &&& 63)), .ref 1] h from ⟨ex_1 hP, k, 1000, ex_2 hP, by omega, e4, ?_⟩)
    rw [l.2.2.2.1 k hks0]
    refine am_goX 3 (show am_sh h 1 = some (7, 0) ∧ pz_S 1 none am_r19 0 Q 66 [(0, .ref 1)] [] (am_wL h 1 5 ((((((h.2.1 1 5)) <<< (((Int8.ofInt 8).toInt32).toInt64 &&& 63))) ||| (((T k)).toInt64)))) from ⟨ex_1 hP, ?_⟩)
    rw [ew]
    have l1 := ct1_l (v := (((((cw T p (k - p))) <<< (((Int8.ofInt 8).toInt32).toInt64 &&& 63))) ||| (((T k)).toInt64))) l
    have x3 : (am_wL h 1 5 ((((((cw T p (k - p))) <<< (((Int8.ofInt 8).toInt32).toInt64 &&& 63))) ||| (((T k)).toInt64)))).1 1 3 = nI p := e3
    have x4 : (am_wL h 1 5 ((((((cw T p (k - p))) <<< (((Int8.ofInt 8).toInt32).toInt64 &&& 63))) ||| (((T k)).toInt64)))).1 1 4 = nI k := e4
    have xw : (am_wL h 1 5 ((((((cw T p (k - p))) <<< (((Int8.ofInt 8).toInt32).toInt64 &&& 63))) ||| (((T k)).toInt64)))).2.1 1 5 = cw T p (k + 1 - p) := by
      rw [ex_lw, show k + 1 - p = (k - p) + 1 by omega]
      show _ = ((cw T p (k - p)) <<< (((Int8.ofInt 8).toInt32).toInt64 &&& 63)) ||| (T (p + (k - p))).toInt64
      rw [show p + (k - p) = k by omega]
    generalize am_wL h 1 5 ((((((cw T p (k - p))) <<< (((Int8.ofInt 8).toInt32).toInt64 &&& 63))) ||| (((T k)).toInt64))) = h1 at l1 x3 x4 xw ⊢
    refine am_goX 6 (show (Value.ref 1).category = 1 ∧ am_sh h1 1 = some (7, 0) ∧ am_sh h1 1 = some (7, 0) ∧ narrow (am_fty 7 4) (.int (((h1.1 1 4) + (Int32.ofInt 1)))) = .int (((h1.1 1 4) + (Int32.ofInt 1))) ∧ fits (am_fty 7 4) (.int (((h1.1 1 4) + (Int32.ofInt 1)))) = true ∧ pz_S 1 none am_r19 0 Q 76 [(0, .ref 1)] [] (am_wI h1 1 4 (((h1.1 1 4) + (Int32.ofInt 1)))) from ⟨rfl, ex_1 l1.1, ex_1 l1.1, rfl, rfl, ?_⟩)
    rw [x4, xw_i1]
    have l2 := ct1_4 (v := nI (k + 1)) l1
    have y3 : (am_wI h1 1 4 (nI (k + 1))).1 1 3 = nI p := by rw [em_wn h1 _ (by omega)]; exact x3
    have y4 : (am_wI h1 1 4 (nI (k + 1))).1 1 4 = nI (k + 1) := em_we h1 1 4 _
    have yw : (am_wI h1 1 4 (nI (k + 1))).2.1 1 5 = cw T p (k + 1 - p) := xw
    generalize am_wI h1 1 4 (nI (k + 1)) = h2 at l2 y3 y4 yw ⊢
    refine am_goX 1 (show pz_S 1 none am_r19 0 Q 5 [(0, .ref 1)] [] h2 from ?_)
    exact ih (k + 1) h2 (by omega) (by omega) (by omega) (hq.trans (tk_go_y hks0 eg)) l2 y3 y4 yw
theorem cs_word (hz : sz ≤ 1000) (hps : p ≤ sz) (l : ctp h0 sz T h) (e3 : h.1 1 3 = nI p) (e4 : h.1 1 4 = nI p) (hQ : ∀ h1, ctp h0 sz T h1 → h1.1 1 3 = nI p → h1.1 1 4 = nI (tk_go pz_let T sz p) → h1.2.1 1 5 = cw T p (tk_go pz_let T sz p - p) → h1.1 1 2 = (bif Nat.blt 8 (tk_go pz_let T sz p - p) then 0 else 1) → Q none h1) : am_call am_cod 1 19 [.ref 1] h Q := by
  have hP := l.1
  have hge := tk_ge pz_let T hps
  refine pz_call (n := 19) (nL := 1) (rt := none) (rows := am_r19) (d := 0) (by decide +kernel) (by decide +kernel) rfl (by funext pc; rfl) (ex_175 hP) (by exact Nat.le_of_ble_eq_true rfl) ?_
  refine am_goX 3 (show am_sh h 1 = some (7, 0) ∧ pz_S 1 none am_r19 0 Q 5 [(0, .ref 1)] [] (am_wL h 1 5 ((Int64.ofNat 0))) from ⟨ex_1 hP, ?_⟩)
  have l1 := ct1_l (v := Int64.ofNat 0) l
  have x3 : (am_wL h 1 5 (Int64.ofNat 0)).1 1 3 = nI p := e3
  have x4 : (am_wL h 1 5 (Int64.ofNat 0)).1 1 4 = nI p := e4
  have xw : (am_wL h 1 5 (Int64.ofNat 0)).2.1 1 5 = cw T p (p - p) := by
    rw [Nat.sub_self, ex_lw]
    rfl
  generalize am_wL h 1 5 (Int64.ofNat 0) = h1 at l1 x3 x4 xw ⊢
  refine cs_word_l hz (fun h2 l2 y3 y4 yw => ?_) sz p h1 (by omega) (Nat.le_refl _) hps rfl l1 x3 x4 xw
  have hP2 := l2.1
  refine am_goX 7 (show am_sh h2 1 = some (7, 0) ∧ am_sh h2 1 = some (7, 0) ∧ pz_S 1 none am_r19 0 Q 91 [(0, .ref 1)] [.int (Int8.ofInt 8).toInt32, .int ((h2.1 1 4) - (h2.1 1 3)), .ref 1] h2 from ⟨ex_1 hP2, ex_1 hP2, ?_⟩)
  rw [y3, y4, tk_sub hge.1]
  refine am_goX 1 (show ((Int8.ofInt 8).toInt32 < (nI (tk_go pz_let T sz p - p)) → pz_S 1 none am_r19 0 Q 98 [(0, .ref 1)] [.ref 1] h2) ∧ (¬ ((Int8.ofInt 8).toInt32 < (nI (tk_go pz_let T sz p - p))) → pz_S 1 none am_r19 0 Q 94 [(0, .ref 1)] [.ref 1] h2) from ⟨fun hc => ?_, fun hc => ?_⟩)
  · refine am_goX 2 (show am_sh h2 1 = some (7, 0) ∧ narrow (am_fty 7 2) (.int ((Int32.ofInt 0))) = .int ((Int32.ofInt 0)) ∧ fits (am_fty 7 2) (.int ((Int32.ofInt 0))) = true ∧ pz_S 1 none am_r19 0 Q 102 [(0, .ref 1)] [] (am_wI h2 1 2 ((Int32.ofInt 0))) from ⟨ex_1 hP2, rfl, rfl, ?_⟩)
    have hlt :  8 < tk_go pz_let T sz p - p := by
      have hc1 :  nI 8 < nI (tk_go pz_let T sz p - p) := hc
      rw [nI_ltI (by omega) (by omega)] at hc1
      exact hc1
    have l3 := ct1_2 (v := Int32.ofInt 0) l2
    have z2 : (am_wI h2 1 2 (Int32.ofInt 0)).1 1 2 = (bif Nat.blt 8 (tk_go pz_let T sz p - p) then 0 else 1) := by
      rw [em_we, tk_blt.mpr hlt]
      rfl
    have z3 : (am_wI h2 1 2 (Int32.ofInt 0)).1 1 3 = nI p := by rw [em_wn h2 _ (by omega)]; exact y3
    have z4 : (am_wI h2 1 2 (Int32.ofInt 0)).1 1 4 = nI (tk_go pz_let T sz p) := by rw [em_wn h2 _ (by omega)]; exact y4
    have zw : (am_wI h2 1 2 (Int32.ofInt 0)).2.1 1 5 = cw T p (tk_go pz_let T sz p - p) := yw
    generalize am_wI h2 1 2 (Int32.ofInt 0) = h3 at l3 z2 z3 z4 zw ⊢
    exact am_goX 1 (show (none : Option FieldType) = none ∧ h3.2.2.2.2 = 175 ∧ _ from ⟨rfl, ex_175 l3.1, hQ h3 l3 z3 z4 zw z2⟩)
  · refine am_goX 3 (show am_sh h2 1 = some (7, 0) ∧ narrow (am_fty 7 2) (.int ((Int32.ofInt 1))) = .int ((Int32.ofInt 1)) ∧ fits (am_fty 7 2) (.int ((Int32.ofInt 1))) = true ∧ pz_S 1 none am_r19 0 Q 102 [(0, .ref 1)] [] (am_wI h2 1 2 ((Int32.ofInt 1))) from ⟨ex_1 hP2, rfl, rfl, ?_⟩)
    have hlt : ¬ 8 < tk_go pz_let T sz p - p := by
      have hc1 : ¬ nI 8 < nI (tk_go pz_let T sz p - p) := hc
      rw [nI_ltI (by omega) (by omega)] at hc1
      exact hc1
    have l3 := ct1_2 (v := Int32.ofInt 1) l2
    have z2 : (am_wI h2 1 2 (Int32.ofInt 1)).1 1 2 = (bif Nat.blt 8 (tk_go pz_let T sz p - p) then 0 else 1) := by
      rw [em_we, tk_bltf hlt]
      rfl
    have z3 : (am_wI h2 1 2 (Int32.ofInt 1)).1 1 3 = nI p := by rw [em_wn h2 _ (by omega)]; exact y3
    have z4 : (am_wI h2 1 2 (Int32.ofInt 1)).1 1 4 = nI (tk_go pz_let T sz p) := by rw [em_wn h2 _ (by omega)]; exact y4
    have zw : (am_wI h2 1 2 (Int32.ofInt 1)).2.1 1 5 = cw T p (tk_go pz_let T sz p - p) := yw
    generalize am_wI h2 1 2 (Int32.ofInt 1) = h3 at l3 z2 z3 z4 zw ⊢
    exact am_goX 1 (show (none : Option FieldType) = none ∧ h3.2.2.2.2 = 175 ∧ _ from ⟨rfl, ex_175 l3.1, hQ h3 l3 z3 z4 zw z2⟩)
theorem cs_num_l (hz : sz ≤ 1000) (hend : ∀ h1, ctp h0 sz T h1 → h1.1 1 3 = nI p → h1.1 1 4 = nI (tk_go pz_dig T sz p) → h1.1 1 6 = cn T p (tk_go pz_dig T sz p - p) → pz_S 1 none am_r20 0 Q 81 [(0, .ref 1)] [] h1) : ∀ (m k : Nat) (h : am_H), sz ≤ k + m → p ≤ k → k ≤ sz → tk_go pz_dig T sz p = tk_go pz_dig T sz k → ctp h0 sz T h → h.1 1 3 = nI p → h.1 1 4 = nI k → h.1 1 6 = cn T p (k - p) → pz_S 1 none am_r20 0 Q 5 [(0, .ref 1)] [] h := by
  intro m
  induction m with
  | zero =>
    intro k h hm hpk hks hq l e3 e4 ew
    have hP := l.1
    refine am_goX 4 (show am_sh h 1 = some (7, 0) ∧ am_sh h 1 = some (7, 0) ∧ pz_S 1 none am_r20 0 Q 13 [(0, .ref 1)] [.int (h.1 1 1), .int (h.1 1 4)] h from ⟨ex_1 hP, ex_1 hP, ?_⟩)
    rw [e4, l.2.2.1]
    refine am_goX 1 (show ((nI sz) ≤ (nI k) → pz_S 1 none am_r20 0 Q 81 [(0, .ref 1)] [] h) ∧ (¬ ((nI sz) ≤ (nI k)) → pz_S 1 none am_r20 0 Q 16 [(0, .ref 1)] [] h) from ⟨fun hc => ?_, fun hc => ?_⟩)
    · have hge : sz ≤ k := by
        rw [nI_leI (by omega) (by omega)] at hc
        exact hc
      have ek : tk_go pz_dig T sz p = k := hq.trans (tk_go_n (fun w => absurd w (by omega)))
      exact hend h l e3 (by rw [ek]; exact e4) (by rw [ek]; exact ew)
    · exact absurd (nI_le (by omega) (by omega)) hc
  | succ m ih =>
    intro k h hm hpk hks hq l e3 e4 ew
    have hP := l.1
    refine am_goX 4 (show am_sh h 1 = some (7, 0) ∧ am_sh h 1 = some (7, 0) ∧ pz_S 1 none am_r20 0 Q 13 [(0, .ref 1)] [.int (h.1 1 1), .int (h.1 1 4)] h from ⟨ex_1 hP, ex_1 hP, ?_⟩)
    rw [e4, l.2.2.1]
    refine am_goX 1 (show ((nI sz) ≤ (nI k) → pz_S 1 none am_r20 0 Q 81 [(0, .ref 1)] [] h) ∧ (¬ ((nI sz) ≤ (nI k)) → pz_S 1 none am_r20 0 Q 16 [(0, .ref 1)] [] h) from ⟨fun hc => ?_, fun hc => ?_⟩)
    · have hge : sz ≤ k := by
        rw [nI_leI (by omega) (by omega)] at hc
        exact hc
      have ek : tk_go pz_dig T sz p = k := hq.trans (tk_go_n (fun w => absurd w (by omega)))
      exact hend h l e3 (by rw [ek]; exact e4) (by rw [ek]; exact ew)
    have hks0 : k < sz := by
      rcases Nat.lt_or_ge k sz with w | w
      · exact w
      · exact absurd (nI_le w (by omega)) hc
    clear hc
    refine am_goX 2 (show am_sh h 1 = some (7, 0) ∧ pz_S 1 none am_r20 0 Q 20 [(0, .ref 1)] [am_rf (h.2.2.1 1 0)] h from ⟨ex_1 hP, ?_⟩)
    rw [ex_r1_0 hP]
    refine am_goX 3 (show am_sh h 1 = some (7, 0) ∧ ∃ jj nn : Nat, am_sh h 2 = some (12, nn) ∧ jj < nn ∧ (h.1 1 4) = nI jj ∧ pz_S 1 none am_r20 0 Q 25 [(0, .ref 1)] [.int (h.1 2 jj)] h from ⟨ex_1 hP, k, 1000, ex_2 hP, by omega, e4, ?_⟩)
    rw [l.2.2.2.1 k hks0]
    refine am_goX 2 (show ((T k) < (Int8.ofInt 48).toInt32 → pz_S 1 none am_r20 0 Q 81 [(0, .ref 1)] [] h) ∧ (¬ ((T k) < (Int8.ofInt 48).toInt32) → pz_S 1 none am_r20 0 Q 30 [(0, .ref 1)] [] h) from ⟨fun hc => ?_, fun hc => ?_⟩)
    · have ef : pz_dig (T k) = false := by
        unfold pz_dig
        rw [decide_eq_true hc]
        rfl
      have ek : tk_go pz_dig T sz p = k := hq.trans (tk_go_n (fun w => ef))
      exact hend h l e3 (by rw [ek]; exact e4) (by rw [ek]; exact ew)
    have hc1 := hc
    clear hc
    refine am_goX 2 (show am_sh h 1 = some (7, 0) ∧ pz_S 1 none am_r20 0 Q 34 [(0, .ref 1)] [am_rf (h.2.2.1 1 0)] h from ⟨ex_1 hP, ?_⟩)
    rw [ex_r1_0 hP]
    refine am_goX 3 (show am_sh h 1 = some (7, 0) ∧ ∃ jj nn : Nat, am_sh h 2 = some (12, nn) ∧ jj < nn ∧ (h.1 1 4) = nI jj ∧ pz_S 1 none am_r20 0 Q 39 [(0, .ref 1)] [.int (h.1 2 jj)] h from ⟨ex_1 hP, k, 1000, ex_2 hP, by omega, e4, ?_⟩)
    rw [l.2.2.2.1 k hks0]
    refine am_goX 2 (show ((Int8.ofInt 57).toInt32 < (T k) → pz_S 1 none am_r20 0 Q 81 [(0, .ref 1)] [] h) ∧ (¬ ((Int8.ofInt 57).toInt32 < (T k)) → pz_S 1 none am_r20 0 Q 44 [(0, .ref 1)] [] h) from ⟨fun hc => ?_, fun hc => ?_⟩)
    · have ef : pz_dig (T k) = false := by
        unfold pz_dig
        rw [decide_eq_true hc, Bool.not_true, Bool.and_false]
      have ek : tk_go pz_dig T sz p = k := hq.trans (tk_go_n (fun w => ef))
      exact hend h l e3 (by rw [ek]; exact e4) (by rw [ek]; exact ew)
    have eg : pz_dig (T k) = true := by
      unfold pz_dig
      rw [decide_eq_false hc1, decide_eq_false hc]
      rfl
    clear hc hc1
    refine am_goX 7 (show am_sh h 1 = some (7, 0) ∧ am_sh h 1 = some (7, 0) ∧ pz_S 1 none am_r20 0 Q 56 [(0, .ref 1)] [am_rf (h.2.2.1 1 0), .int ((h.1 1 6) * (Int8.ofInt 10).toInt32), .ref 1] h from ⟨ex_1 hP, ex_1 hP, ?_⟩)
    rw [ex_r1_0 hP]
    refine am_goX 3 (show am_sh h 1 = some (7, 0) ∧ ∃ jj nn : Nat, am_sh h 2 = some (12, nn) ∧ jj < nn ∧ (h.1 1 4) = nI jj ∧ pz_S 1 none am_r20 0 Q 61 [(0, .ref 1)] [.int (h.1 2 jj), .int ((h.1 1 6) * (Int8.ofInt 10).toInt32), .ref 1] h from ⟨ex_1 hP, k, 1000, ex_2 hP, by omega, e4, ?_⟩)
    rw [l.2.2.2.1 k hks0]
    refine am_goX 4 (show am_sh h 1 = some (7, 0) ∧ narrow (am_fty 7 6) (.int ((((h.1 1 6) * (Int8.ofInt 10).toInt32) + ((T k) - (Int8.ofInt 48).toInt32)))) = .int ((((h.1 1 6) * (Int8.ofInt 10).toInt32) + ((T k) - (Int8.ofInt 48).toInt32))) ∧ fits (am_fty 7 6) (.int ((((h.1 1 6) * (Int8.ofInt 10).toInt32) + ((T k) - (Int8.ofInt 48).toInt32)))) = true ∧ pz_S 1 none am_r20 0 Q 68 [(0, .ref 1)] [] (am_wI h 1 6 ((((h.1 1 6) * (Int8.ofInt 10).toInt32) + ((T k) - (Int8.ofInt 48).toInt32)))) from ⟨ex_1 hP, rfl, rfl, ?_⟩)
    rw [ew]
    have l1 := ct1_6 (v := (((cn T p (k - p)) * (Int8.ofInt 10).toInt32) + ((T k) - (Int8.ofInt 48).toInt32))) l
    have x3 : (am_wI h 1 6 ((((cn T p (k - p)) * (Int8.ofInt 10).toInt32) + ((T k) - (Int8.ofInt 48).toInt32)))).1 1 3 = nI p := by rw [em_wn h _ (by omega)]; exact e3
    have x4 : (am_wI h 1 6 ((((cn T p (k - p)) * (Int8.ofInt 10).toInt32) + ((T k) - (Int8.ofInt 48).toInt32)))).1 1 4 = nI k := by rw [em_wn h _ (by omega)]; exact e4
    have xw : (am_wI h 1 6 ((((cn T p (k - p)) * (Int8.ofInt 10).toInt32) + ((T k) - (Int8.ofInt 48).toInt32)))).1 1 6 = cn T p (k + 1 - p) := by
      rw [em_we, show k + 1 - p = (k - p) + 1 by omega]
      show _ = cn T p (k - p) * (Int8.ofInt 10).toInt32 + (T (p + (k - p)) - (Int8.ofInt 48).toInt32)
      rw [show p + (k - p) = k by omega]
    generalize am_wI h 1 6 ((((cn T p (k - p)) * (Int8.ofInt 10).toInt32) + ((T k) - (Int8.ofInt 48).toInt32))) = h1 at l1 x3 x4 xw ⊢
    refine am_goX 6 (show (Value.ref 1).category = 1 ∧ am_sh h1 1 = some (7, 0) ∧ am_sh h1 1 = some (7, 0) ∧ narrow (am_fty 7 4) (.int (((h1.1 1 4) + (Int32.ofInt 1)))) = .int (((h1.1 1 4) + (Int32.ofInt 1))) ∧ fits (am_fty 7 4) (.int (((h1.1 1 4) + (Int32.ofInt 1)))) = true ∧ pz_S 1 none am_r20 0 Q 78 [(0, .ref 1)] [] (am_wI h1 1 4 (((h1.1 1 4) + (Int32.ofInt 1)))) from ⟨rfl, ex_1 l1.1, ex_1 l1.1, rfl, rfl, ?_⟩)
    rw [x4, xw_i1]
    have l2 := ct1_4 (v := nI (k + 1)) l1
    have y3 : (am_wI h1 1 4 (nI (k + 1))).1 1 3 = nI p := by rw [em_wn h1 _ (by omega)]; exact x3
    have y4 : (am_wI h1 1 4 (nI (k + 1))).1 1 4 = nI (k + 1) := em_we h1 1 4 _
    have yw : (am_wI h1 1 4 (nI (k + 1))).1 1 6 = cn T p (k + 1 - p) := (by rw [em_wn h1 _ (by omega)]; exact xw)
    generalize am_wI h1 1 4 (nI (k + 1)) = h2 at l2 y3 y4 yw ⊢
    refine am_goX 1 (show pz_S 1 none am_r20 0 Q 5 [(0, .ref 1)] [] h2 from ?_)
    exact ih (k + 1) h2 (by omega) (by omega) (by omega) (hq.trans (tk_go_y hks0 eg)) l2 y3 y4 yw
theorem cs_num (hz : sz ≤ 1000) (hps : p ≤ sz) (l : ctp h0 sz T h) (e3 : h.1 1 3 = nI p) (e4 : h.1 1 4 = nI p) (hQ : ∀ h1, ctp h0 sz T h1 → h1.1 1 3 = nI p → h1.1 1 4 = nI (tk_go pz_dig T sz p) → h1.1 1 6 = cn T p (tk_go pz_dig T sz p - p) → h1.1 1 2 = (bif Nat.blt 4 (tk_go pz_dig T sz p - p) then 0 else 2) → Q none h1) : am_call am_cod 1 20 [.ref 1] h Q := by
  have hP := l.1
  have hge := tk_ge pz_dig T hps
  refine pz_call (n := 20) (nL := 1) (rt := none) (rows := am_r20) (d := 0) (by decide +kernel) (by decide +kernel) rfl (by funext pc; rfl) (ex_175 hP) (by exact Nat.le_of_ble_eq_true rfl) ?_
  refine am_goX 3 (show am_sh h 1 = some (7, 0) ∧ narrow (am_fty 7 6) (.int ((Int32.ofInt 0))) = .int ((Int32.ofInt 0)) ∧ fits (am_fty 7 6) (.int ((Int32.ofInt 0))) = true ∧ pz_S 1 none am_r20 0 Q 5 [(0, .ref 1)] [] (am_wI h 1 6 ((Int32.ofInt 0))) from ⟨ex_1 hP, rfl, rfl, ?_⟩)
  have l1 := ct1_6 (v := Int32.ofInt 0) l
  have x3 : (am_wI h 1 6 (Int32.ofInt 0)).1 1 3 = nI p := by rw [em_wn h _ (by omega)]; exact e3
  have x4 : (am_wI h 1 6 (Int32.ofInt 0)).1 1 4 = nI p := by rw [em_wn h _ (by omega)]; exact e4
  have xw : (am_wI h 1 6 (Int32.ofInt 0)).1 1 6 = cn T p (p - p) := by
    rw [Nat.sub_self]
    exact em_we h 1 6 _
  generalize am_wI h 1 6 (Int32.ofInt 0) = h1 at l1 x3 x4 xw ⊢
  refine cs_num_l hz (fun h2 l2 y3 y4 yw => ?_) sz p h1 (by omega) (Nat.le_refl _) hps rfl l1 x3 x4 xw
  have hP2 := l2.1
  refine am_goX 7 (show am_sh h2 1 = some (7, 0) ∧ am_sh h2 1 = some (7, 0) ∧ pz_S 1 none am_r20 0 Q 92 [(0, .ref 1)] [.int (Int32.ofInt 4), .int ((h2.1 1 4) - (h2.1 1 3)), .ref 1] h2 from ⟨ex_1 hP2, ex_1 hP2, ?_⟩)
  rw [y3, y4, tk_sub hge.1]
  refine am_goX 1 (show ((Int32.ofInt 4) < (nI (tk_go pz_dig T sz p - p)) → pz_S 1 none am_r20 0 Q 99 [(0, .ref 1)] [.ref 1] h2) ∧ (¬ ((Int32.ofInt 4) < (nI (tk_go pz_dig T sz p - p))) → pz_S 1 none am_r20 0 Q 95 [(0, .ref 1)] [.ref 1] h2) from ⟨fun hc => ?_, fun hc => ?_⟩)
  · refine am_goX 2 (show am_sh h2 1 = some (7, 0) ∧ narrow (am_fty 7 2) (.int ((Int32.ofInt 0))) = .int ((Int32.ofInt 0)) ∧ fits (am_fty 7 2) (.int ((Int32.ofInt 0))) = true ∧ pz_S 1 none am_r20 0 Q 103 [(0, .ref 1)] [] (am_wI h2 1 2 ((Int32.ofInt 0))) from ⟨ex_1 hP2, rfl, rfl, ?_⟩)
    have hlt :  4 < tk_go pz_dig T sz p - p := by
      have hc1 :  nI 4 < nI (tk_go pz_dig T sz p - p) := hc
      rw [nI_ltI (by omega) (by omega)] at hc1
      exact hc1
    have l3 := ct1_2 (v := Int32.ofInt 0) l2
    have z2 : (am_wI h2 1 2 (Int32.ofInt 0)).1 1 2 = (bif Nat.blt 4 (tk_go pz_dig T sz p - p) then 0 else 2) := by
      rw [em_we, tk_blt.mpr hlt]
      rfl
    have z3 : (am_wI h2 1 2 (Int32.ofInt 0)).1 1 3 = nI p := by rw [em_wn h2 _ (by omega)]; exact y3
    have z4 : (am_wI h2 1 2 (Int32.ofInt 0)).1 1 4 = nI (tk_go pz_dig T sz p) := by rw [em_wn h2 _ (by omega)]; exact y4
    have zw : (am_wI h2 1 2 (Int32.ofInt 0)).1 1 6 = cn T p (tk_go pz_dig T sz p - p) := (by rw [em_wn h2 _ (by omega)]; exact yw)
    generalize am_wI h2 1 2 (Int32.ofInt 0) = h3 at l3 z2 z3 z4 zw ⊢
    exact am_goX 1 (show (none : Option FieldType) = none ∧ h3.2.2.2.2 = 175 ∧ _ from ⟨rfl, ex_175 l3.1, hQ h3 l3 z3 z4 zw z2⟩)
  · refine am_goX 3 (show am_sh h2 1 = some (7, 0) ∧ narrow (am_fty 7 2) (.int ((Int32.ofInt 2))) = .int ((Int32.ofInt 2)) ∧ fits (am_fty 7 2) (.int ((Int32.ofInt 2))) = true ∧ pz_S 1 none am_r20 0 Q 103 [(0, .ref 1)] [] (am_wI h2 1 2 ((Int32.ofInt 2))) from ⟨ex_1 hP2, rfl, rfl, ?_⟩)
    have hlt : ¬ 4 < tk_go pz_dig T sz p - p := by
      have hc1 : ¬ nI 4 < nI (tk_go pz_dig T sz p - p) := hc
      rw [nI_ltI (by omega) (by omega)] at hc1
      exact hc1
    have l3 := ct1_2 (v := Int32.ofInt 2) l2
    have z2 : (am_wI h2 1 2 (Int32.ofInt 2)).1 1 2 = (bif Nat.blt 4 (tk_go pz_dig T sz p - p) then 0 else 2) := by
      rw [em_we, tk_bltf hlt]
      rfl
    have z3 : (am_wI h2 1 2 (Int32.ofInt 2)).1 1 3 = nI p := by rw [em_wn h2 _ (by omega)]; exact y3
    have z4 : (am_wI h2 1 2 (Int32.ofInt 2)).1 1 4 = nI (tk_go pz_dig T sz p) := by rw [em_wn h2 _ (by omega)]; exact y4
    have zw : (am_wI h2 1 2 (Int32.ofInt 2)).1 1 6 = cn T p (tk_go pz_dig T sz p - p) := (by rw [em_wn h2 _ (by omega)]; exact yw)
    generalize am_wI h2 1 2 (Int32.ofInt 2) = h3 at l3 z2 z3 z4 zw ⊢
    exact am_goX 1 (show (none : Option FieldType) = none ∧ h3.2.2.2.2 = 175 ∧ _ from ⟨rfl, ex_175 l3.1, hQ h3 l3 z3 z4 zw z2⟩)
