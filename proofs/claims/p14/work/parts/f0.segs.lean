/-! THE LAW'S SEGMENTS: the load of a receiver and of what the script says, one call, the pop -/
def lw_lv (i : Nat) : am_V := [(4, .int (nI i)), (3, .ref 174), (2, .ref 154), (1, .ref 0), (0, .ref 3000000)]
/-- the tapes hold the same signs; the words stand -/
def jt (h : am_H) : Prop := ∀ t, h.1 154 2 = nI t → t ≤ 1000 → ∀ q, q < t → h.1 2 q = h.1 155 q ∧ fd_f (h.1 155 q) = true
theorem jt_k {h h' : am_H} (j : jt h) (e : h'.1 154 2 = h.1 154 2) (k : ks h h') : jt h' := by
  intro t ht hl q hq
  rw [k.1, k.2.1]
  exact j t (e.symm.trans ht) hl q hq
theorem jt_0 {h : am_H} (e : h.1 154 2 = 0) : jt h := by
  intro t ht hl q hq
  have w : nI t = nI 0 := ht.symm.trans e
  have := nI_inj2 (by omega) (by decide) w
  omega
theorem jw_k {h h' : am_H} (j : jw h) (k : ks h h') : jw h' := fun w hw => (k.2.2.1 w).trans (j w hw)
/-- between calls: both are in one state -/
def jx (D : Nat) (h : am_H) : Prop := ∃ C s H M x, KI C (D / 7) s H M x ∧ KC C s H M x h ∧ KR C s H M x h
theorem jx_up {D : Nat} {h : am_H} (j : jx D h) : jx (D + 7) h := by
  obtain ⟨C, s, H, M, x, i, j1, j2⟩ := j
  exact ⟨C, s, H, M, x, KI_up (by omega) i, j1, j2⟩
theorem jx_k {D : Nat} {h h' : am_H} {R : ag_M} (j : jx D h) (k : kr R h h') (h1 : kr_K.all (fun s => R.any (fun r => Nat.beq r.1 s.1 && (Nat.ble r.2.1 s.2.1 && Nat.ble s.2.2 r.2.2))) = true := by decide +kernel) (h2 : kr_L.all (fun s => R.any (fun r => Nat.beq r.1 s.1 && (Nat.ble r.2.1 s.2.1 && Nat.ble s.2.2 r.2.2))) = true := by decide +kernel) : jx D h' := by
  obtain ⟨C, s, H, M, x, i, j1, j2⟩ := j
  exact ⟨C, s, H, M, x, i, KC_k j1 (kr_sub h1 k), KR_k j2 (kr_sub h2 k)⟩
def lw_J (D : Nat) (h : am_H) : Prop := iv_I h ∧ h.1 1 1 = h.1 154 2 ∧ jt h ∧ jw h ∧ jx D h
def lw_Jc (D : Nat) (h : am_H) : Prop := iv_I h ∧ h.1 1 1 = 0 ∧ jw h ∧ jx D h
theorem lw_upJ {D : Nat} {h : am_H} (j : lw_J D h) : lw_J (D + 7) h := ⟨j.1, j.2.1, j.2.2.1, j.2.2.2.1, jx_up j.2.2.2.2⟩
theorem kr_w {R : ag_M} {o k : Nat} {v : Int32} {h : am_H} (e : ag_atM R o k = false) : kr R h (am_wI h o k v) := fun o' k' a => ⟨em_wn h v (fun z => by rw [z.1, z.2, e] at a; cases a), rfl, rfl⟩
theorem kr_l {R : ag_M} {o k : Nat} {v : Int64} {h : am_H} (e : ag_atM R o k = false) : kr R h (am_wL h o k v) := fun o' k' a => ⟨rfl, ex_ln (fun z => by rw [z.1, z.2, e] at a; cases a), rfl⟩
theorem kr_fd {R : ag_M} {o a b : Nat} {h : am_H} {s : fd_T} (e1 : ag_atM R o a = false) (e2 : R.all (fun r => !(Nat.beq r.1 b)) = true) : kr R h (fd_h o a b h s) := fun p q w => ⟨by
  show (if p = o ∧ q = a then nI s.1 else if p = b then s.2 q else h.1 p q) = _
  rw [if_neg (fun z => by rw [z.1, z.2, e1] at w; cases w), if_neg (fun z => by rw [z, kM_at e2 q] at w; cases w)], rfl, rfl⟩
def lw_Ex (J : am_H → Prop) (i e : Nat) : Nat → am_V → List Value → am_H → Prop := fun pc lv st h' => pc = e ∧ lv = lw_lv i ∧ st = [] ∧ J h'
def lw_S (rows : List (Nat × am_R)) (J : am_H → Prop) (i e : Nat) : Nat → am_V → List Value → am_H → Prop := am_X (am_call am_cod 60) 7 175 (some .boolean) (am_find rows) (lw_Ex J i e) (fun _ _ => False)
theorem lw_175 {h : am_H} (hI : iv_I h) : h.2.2.2.2 = 175 := by
  obtain ⟨N, hN, hW, -⟩ := hI
  exact hW.1
theorem lw_rc0 {h : am_H} (hI : iv_I h) : am_rc h 0 10 := Or.inl ⟨by decide, (ag_so_ok (D := ag_DD) (h := h) (o := 0) (e := (10, 0)) ag_DD_sh (lw_175 hI) (by decide +kernel)).2⟩
theorem lw_rc154 {h : am_H} (hI : iv_I h) : am_rc h 154 11 := Or.inl ⟨by decide, (ag_so_ok (D := ag_DD) (h := h) (o := 154) (e := (11, 0)) ag_DD_sh (lw_175 hI) (by decide +kernel)).2⟩
theorem lw_lim {h : am_H} (hI : iv_I h) {n : Nat} (hn : am_al n = 0) : h.2.2.2.2 + am_al n ≤ 175 := by
  rw [lw_175 hI, hn]
  exact Nat.le_refl _
theorem lw_x1 (i : Nat) : nI i + Int32.ofInt 1 = nI (i + 1) := nI_add i 1
theorem lw_x2 (i : Nat) : nI i + Int32.ofInt 2 = nI (i + 2) := nI_add i 2
theorem lw_x3 (i : Nat) : nI i + Int32.ofInt 3 = nI (i + 3) := nI_add i 3
theorem lw_x4 (i : Nat) : nI i + Int32.ofInt 4 = nI (i + 4) := nI_add i 4
theorem lw_x5 (i : Nat) : nI i + Int32.ofInt 5 = nI (i + 5) := nI_add i 5
theorem lw_x6 (i : Nat) : nI i + (Int8.ofInt 6).toInt32 = nI (i + 6) := nI_add i 6
theorem lw_ir (x : Int32) : -2147483648 ≤ x.toInt ∧ x.toInt ≤ 2147483647 := ag_i32r x
theorem lw_lr (x : Int64) : -9223372036854775808 ≤ x.toInt ∧ x.toInt ≤ 9223372036854775807 := ag_i64r x
theorem lw_a1 (o : Nat) (x : Int32) : (.ref o :: iv_args 0 [0] [x.toInt]) = [.ref o, .int x] := by
  show [Value.ref o, .int (Int32.ofInt x.toInt)] = _
  rw [Int32.ofInt_toInt]
theorem lw_a2 (o : Nat) (x y : Int32) : (.ref o :: iv_args 0 [0, 0] [x.toInt, y.toInt]) = [.ref o, .int x, .int y] := by
  show [Value.ref o, .int (Int32.ofInt x.toInt), .int (Int32.ofInt y.toInt)] = _
  rw [Int32.ofInt_toInt, Int32.ofInt_toInt]
theorem lw_a3 (o : Nat) (x y z : Int32) : (.ref o :: iv_args 0 [0, 0, 0] [x.toInt, y.toInt, z.toInt]) = [.ref o, .int x, .int y, .int z] := by
  show [Value.ref o, .int (Int32.ofInt x.toInt), .int (Int32.ofInt y.toInt), .int (Int32.ofInt z.toInt)] = _
  rw [Int32.ofInt_toInt, Int32.ofInt_toInt, Int32.ofInt_toInt]
theorem lw_b1 (o : Nat) (x : Int32) (z : Int) : (.ref o :: iv_args 0 [0, 1] [x.toInt, z]) = [.ref o, .int x, .int (Int32.ofInt z)] := by
  show [Value.ref o, .int (Int32.ofInt x.toInt), .int (Int32.ofInt z)] = _
  rw [Int32.ofInt_toInt]
theorem lw_b2 (o : Nat) (x y : Int32) (z : Int) : (.ref o :: iv_args 0 [0, 0, 1] [x.toInt, y.toInt, z]) = [.ref o, .int x, .int y, .int (Int32.ofInt z)] := by
  show [Value.ref o, .int (Int32.ofInt x.toInt), .int (Int32.ofInt y.toInt), .int (Int32.ofInt z)] = _
  rw [Int32.ofInt_toInt, Int32.ofInt_toInt]
theorem lw_l3 (o : Nat) (x y z : Int64) : (.ref o :: iv_args 0 [2, 2, 2] [x.toInt, y.toInt, z.toInt]) = [.ref o, .long x, .long y, .long z] := by
  show [Value.ref o, .long (Int64.ofInt x.toInt), .long (Int64.ofInt y.toInt), .long (Int64.ofInt z.toInt)] = _
  rw [Int64.ofInt_toInt, Int64.ofInt_toInt, Int64.ofInt_toInt]
theorem lw_k0 {n o : Nat} {h : am_H} {Q : am_Q} (k : am_call am_cod 60 n (.ref o :: iv_args 0 [] []) h Q) : am_call am_cod 60 n [.ref o] h Q := k
theorem lw_k1 {n o : Nat} {h : am_H} {Q : am_Q} {x : Int32} (k : am_call am_cod 60 n (.ref o :: iv_args 0 [0] [x.toInt]) h Q) : am_call am_cod 60 n [.ref o, .int x] h Q := by
  rw [lw_a1] at k
  exact k
theorem lw_k2 {n o : Nat} {h : am_H} {Q : am_Q} {x y : Int32} (k : am_call am_cod 60 n (.ref o :: iv_args 0 [0, 0] [x.toInt, y.toInt]) h Q) : am_call am_cod 60 n [.ref o, .int x, .int y] h Q := by
  rw [lw_a2] at k
  exact k
theorem lw_k3 {n o : Nat} {h : am_H} {Q : am_Q} {x y z : Int32} (k : am_call am_cod 60 n (.ref o :: iv_args 0 [0, 0, 0] [x.toInt, y.toInt, z.toInt]) h Q) : am_call am_cod 60 n [.ref o, .int x, .int y, .int z] h Q := by
  rw [lw_a3] at k
  exact k
theorem lw_kb1 {n o : Nat} {h : am_H} {Q : am_Q} {x : Int32} {z : Int} (k : am_call am_cod 60 n (.ref o :: iv_args 0 [0, 1] [x.toInt, z]) h Q) : am_call am_cod 60 n [.ref o, .int x, .int (Int32.ofInt z)] h Q := by
  rw [lw_b1] at k
  exact k
theorem lw_kb2 {n o : Nat} {h : am_H} {Q : am_Q} {x y : Int32} {z : Int} (k : am_call am_cod 60 n (.ref o :: iv_args 0 [0, 0, 1] [x.toInt, y.toInt, z]) h Q) : am_call am_cod 60 n [.ref o, .int x, .int y, .int (Int32.ofInt z)] h Q := by
  rw [lw_b2] at k
  exact k

def lw_r405 : List (Nat × am_R) := [(405, (.aload_n 1, 406, 0, 0, 0, 0)), (406, (.aload_n 0, 407, 0, 0, 0, 0)), (407, (.iload 4, 409, 0, 0, 0, 0)), (409, (.iconst 1, 410, 0, 0, 0, 0)), (410, (.iadd, 411, 0, 0, 0, 0)), (411, (.iaload, 412, 0, 0, 0, 0)), (412, (.aload_n 0, 413, 0, 0, 0, 0)), (413, (.iload 4, 415, 0, 0, 0, 0)), (415, (.iconst 2, 416, 0, 0, 0, 0)), (416, (.iadd, 417, 0, 0, 0, 0)), (417, (.iaload, 418, 0, 0, 0, 0)), (418, (.invokevirtual 35, 421, 86, 2, 116, 10)), (421, (.pop, 422, 0, 0, 0, 0))]
theorem lw_o405 : lw_r405.all (fun q => am_okB false "MistCantonLaw" code q.1 q.2) = true := am_wk_all 404 (by decide +kernel)
theorem lw_t405 {i : Nat} {h : am_H} (hJ : lw_J i h) (hL : i + 7 ≤ h.2.2.2.1) (hb : h.2.2.2.1 ≤ 4096) : lw_S lw_r405 (lw_J i) i 422 405 (lw_lv i) [] h := by
  have hI := hJ.1
  refine am_goX 6 (show ∃ j n : Nat, am_sh h 3000000 = some (13, n) ∧ j < n ∧ (nI i) + (Int32.ofInt 1) = nI j ∧ lw_S lw_r405 (lw_J i) i 422 412 (lw_lv i) [.int (h.1 3000000 j), .ref 0] h from ⟨i + 1, h.2.2.2.1, rfl, by omega, lw_x1 i, ?_⟩)
  generalize h.1 3000000 (i + 1) = x1
  refine am_goX 5 (show ∃ j n : Nat, am_sh h 3000000 = some (13, n) ∧ j < n ∧ (nI i) + (Int32.ofInt 2) = nI j ∧ lw_S lw_r405 (lw_J i) i 422 418 (lw_lv i) [.int (h.1 3000000 j), .int x1, .ref 0] h from ⟨i + 2, h.2.2.2.1, rfl, by omega, lw_x2 i, ?_⟩)
  generalize h.1 3000000 (i + 2) = x2
  refine am_goX 1 (show am_rc h 0 10 ∧ 0 ≤ 8 ∧ h.2.2.2.2 + am_al 86 ≤ 175 ∧ am_call am_cod 60 86 [.ref 0, .int x1, .int x2] h (fun v h' => lw_S lw_r405 (lw_J i) i 422 421 (lw_lv i) (v.toList ++ []) h') from ⟨lw_rc0 hI, Nat.zero_le _, lw_lim hI rfl, am_call.mono (fun v h' q => ?_) (lw_k2 (iv_m86 (vs := [(x1).toInt, (x2).toInt]) ⟨lw_ir _, ⟨lw_ir _, trivial⟩⟩ hI))⟩)
  obtain ⟨q1, ⟨x, rfl⟩, q2⟩ := q
  exact am_goX 1 (show (Value.int x).category = 1 ∧ lw_S lw_r405 (lw_J i) i 422 422 (lw_lv i) [] h' from ⟨rfl, am_xexit ⟨rfl, rfl, rfl, ⟨q1, q2.1.trans (hJ.2.1.trans q2.2.1.symm), jt_k hJ.2.2.1 q2.2.1 q2.2.2.1, jw_k hJ.2.2.2.1 q2.2.2.1, jx_k hJ.2.2.2.2 q2.2.2.2⟩⟩⟩)
def lw_r422 : List (Nat × am_R) := [(422, (.aload_n 2, 423, 0, 0, 0, 0)), (423, (.aload_n 0, 424, 0, 0, 0, 0)), (424, (.iload 4, 426, 0, 0, 0, 0)), (426, (.iconst 1, 427, 0, 0, 0, 0)), (427, (.iadd, 428, 0, 0, 0, 0)), (428, (.iaload, 429, 0, 0, 0, 0)), (429, (.aload_n 0, 430, 0, 0, 0, 0)), (430, (.iload 4, 432, 0, 0, 0, 0)), (432, (.iconst 2, 433, 0, 0, 0, 0)), (433, (.iadd, 434, 0, 0, 0, 0)), (434, (.iaload, 435, 0, 0, 0, 0)), (435, (.invokevirtual 39, 438, 220, 2, 269, 11)), (438, (.pop, 439, 0, 0, 0, 0)), (439, (.goto 1074, 442, 1513, 0, 0, 0))]
theorem lw_o422 : lw_r422.all (fun q => am_okB false "MistCantonLaw" code q.1 q.2) = true := am_wk_all 420 (by decide +kernel)
theorem lw_t422 {i : Nat} {h : am_H} (hJ : lw_J i h) (hL : i + 7 ≤ h.2.2.2.1) (hb : h.2.2.2.1 ≤ 4096) : lw_S lw_r422 (lw_J (i + 7)) i 1513 422 (lw_lv i) [] h := by
  have hI := hJ.1
  refine am_goX 6 (show ∃ j n : Nat, am_sh h 3000000 = some (13, n) ∧ j < n ∧ (nI i) + (Int32.ofInt 1) = nI j ∧ lw_S lw_r422 (lw_J (i + 7)) i 1513 429 (lw_lv i) [.int (h.1 3000000 j), .ref 154] h from ⟨i + 1, h.2.2.2.1, rfl, by omega, lw_x1 i, ?_⟩)
  generalize h.1 3000000 (i + 1) = x1
  refine am_goX 5 (show ∃ j n : Nat, am_sh h 3000000 = some (13, n) ∧ j < n ∧ (nI i) + (Int32.ofInt 2) = nI j ∧ lw_S lw_r422 (lw_J (i + 7)) i 1513 435 (lw_lv i) [.int (h.1 3000000 j), .int x1, .ref 154] h from ⟨i + 2, h.2.2.2.1, rfl, by omega, lw_x2 i, ?_⟩)
  generalize h.1 3000000 (i + 2) = x2
  refine am_goX 1 (show am_rc h 154 11 ∧ 0 ≤ 8 ∧ h.2.2.2.2 + am_al 220 ≤ 175 ∧ am_call am_cod 60 220 [.ref 154, .int x1, .int x2] h (fun v h' => lw_S lw_r422 (lw_J (i + 7)) i 1513 438 (lw_lv i) (v.toList ++ []) h') from ⟨lw_rc154 hI, Nat.zero_le _, lw_lim hI rfl, am_call.mono (fun v h' q => ?_) (lw_k2 (iv_m220 (vs := [(x1).toInt, (x2).toInt]) ⟨lw_ir _, ⟨lw_ir _, trivial⟩⟩ hI))⟩)
  obtain ⟨q1, ⟨x, rfl⟩, q2⟩ := q
  exact am_goX 2 (show (Value.int x).category = 1 ∧ lw_S lw_r422 (lw_J (i + 7)) i 1513 1513 (lw_lv i) [] h' from ⟨rfl, am_xexit ⟨rfl, rfl, rfl, lw_upJ ⟨q1, q2.1.trans (hJ.2.1.trans q2.2.1.symm), jt_k hJ.2.2.1 q2.2.1 q2.2.2.1, jw_k hJ.2.2.2.1 q2.2.2.1, jx_k hJ.2.2.2.2 q2.2.2.2⟩⟩⟩)
def lw_r442 : List (Nat × am_R) := [(442, (.aload_n 1, 443, 0, 0, 0, 0)), (443, (.aload_n 0, 444, 0, 0, 0, 0)), (444, (.iload 4, 446, 0, 0, 0, 0)), (446, (.iconst 1, 447, 0, 0, 0, 0)), (447, (.iadd, 448, 0, 0, 0, 0)), (448, (.iaload, 449, 0, 0, 0, 0)), (449, (.aload_n 0, 450, 0, 0, 0, 0)), (450, (.iload 4, 452, 0, 0, 0, 0)), (452, (.iconst 2, 453, 0, 0, 0, 0)), (453, (.iadd, 454, 0, 0, 0, 0)), (454, (.iaload, 455, 0, 0, 0, 0)), (455, (.invokevirtual 40, 458, 92, 2, 123, 10)), (458, (.pop, 459, 0, 0, 0, 0))]
theorem lw_o442 : lw_r442.all (fun q => am_okB false "MistCantonLaw" code q.1 q.2) = true := am_wk_all 440 (by decide +kernel)
theorem lw_t442 {i : Nat} {h : am_H} (hJ : lw_J i h) (hL : i + 7 ≤ h.2.2.2.1) (hb : h.2.2.2.1 ≤ 4096) : lw_S lw_r442 (lw_J i) i 459 442 (lw_lv i) [] h := by
  have hI := hJ.1
  refine am_goX 6 (show ∃ j n : Nat, am_sh h 3000000 = some (13, n) ∧ j < n ∧ (nI i) + (Int32.ofInt 1) = nI j ∧ lw_S lw_r442 (lw_J i) i 459 449 (lw_lv i) [.int (h.1 3000000 j), .ref 0] h from ⟨i + 1, h.2.2.2.1, rfl, by omega, lw_x1 i, ?_⟩)
  generalize h.1 3000000 (i + 1) = x1
  refine am_goX 5 (show ∃ j n : Nat, am_sh h 3000000 = some (13, n) ∧ j < n ∧ (nI i) + (Int32.ofInt 2) = nI j ∧ lw_S lw_r442 (lw_J i) i 459 455 (lw_lv i) [.int (h.1 3000000 j), .int x1, .ref 0] h from ⟨i + 2, h.2.2.2.1, rfl, by omega, lw_x2 i, ?_⟩)
  generalize h.1 3000000 (i + 2) = x2
  refine am_goX 1 (show am_rc h 0 10 ∧ 0 ≤ 8 ∧ h.2.2.2.2 + am_al 92 ≤ 175 ∧ am_call am_cod 60 92 [.ref 0, .int x1, .int x2] h (fun v h' => lw_S lw_r442 (lw_J i) i 459 458 (lw_lv i) (v.toList ++ []) h') from ⟨lw_rc0 hI, Nat.zero_le _, lw_lim hI rfl, am_call.mono (fun v h' q => ?_) (lw_k2 (iv_m92 (vs := [(x1).toInt, (x2).toInt]) ⟨lw_ir _, ⟨lw_ir _, trivial⟩⟩ hI))⟩)
  obtain ⟨q1, ⟨x, rfl⟩, q2⟩ := q
  exact am_goX 1 (show (Value.int x).category = 1 ∧ lw_S lw_r442 (lw_J i) i 459 459 (lw_lv i) [] h' from ⟨rfl, am_xexit ⟨rfl, rfl, rfl, ⟨q1, q2.1.trans (hJ.2.1.trans q2.2.1.symm), jt_k hJ.2.2.1 q2.2.1 q2.2.2.1, jw_k hJ.2.2.2.1 q2.2.2.1, jx_k hJ.2.2.2.2 q2.2.2.2⟩⟩⟩)
def lw_r459 : List (Nat × am_R) := [(459, (.aload_n 2, 460, 0, 0, 0, 0)), (460, (.aload_n 0, 461, 0, 0, 0, 0)), (461, (.iload 4, 463, 0, 0, 0, 0)), (463, (.iconst 1, 464, 0, 0, 0, 0)), (464, (.iadd, 465, 0, 0, 0, 0)), (465, (.iaload, 466, 0, 0, 0, 0)), (466, (.aload_n 0, 467, 0, 0, 0, 0)), (467, (.iload 4, 469, 0, 0, 0, 0)), (469, (.iconst 2, 470, 0, 0, 0, 0)), (470, (.iadd, 471, 0, 0, 0, 0)), (471, (.iaload, 472, 0, 0, 0, 0)), (472, (.invokevirtual 43, 475, 226, 2, 275, 11)), (475, (.pop, 476, 0, 0, 0, 0)), (476, (.goto 1037, 479, 1513, 0, 0, 0))]
theorem lw_o459 : lw_r459.all (fun q => am_okB false "MistCantonLaw" code q.1 q.2) = true := am_wk_all 456 (by decide +kernel)
theorem lw_t459 {i : Nat} {h : am_H} (hJ : lw_J i h) (hL : i + 7 ≤ h.2.2.2.1) (hb : h.2.2.2.1 ≤ 4096) : lw_S lw_r459 (lw_J (i + 7)) i 1513 459 (lw_lv i) [] h := by
  have hI := hJ.1
  refine am_goX 6 (show ∃ j n : Nat, am_sh h 3000000 = some (13, n) ∧ j < n ∧ (nI i) + (Int32.ofInt 1) = nI j ∧ lw_S lw_r459 (lw_J (i + 7)) i 1513 466 (lw_lv i) [.int (h.1 3000000 j), .ref 154] h from ⟨i + 1, h.2.2.2.1, rfl, by omega, lw_x1 i, ?_⟩)
  generalize h.1 3000000 (i + 1) = x1
  refine am_goX 5 (show ∃ j n : Nat, am_sh h 3000000 = some (13, n) ∧ j < n ∧ (nI i) + (Int32.ofInt 2) = nI j ∧ lw_S lw_r459 (lw_J (i + 7)) i 1513 472 (lw_lv i) [.int (h.1 3000000 j), .int x1, .ref 154] h from ⟨i + 2, h.2.2.2.1, rfl, by omega, lw_x2 i, ?_⟩)
  generalize h.1 3000000 (i + 2) = x2
  refine am_goX 1 (show am_rc h 154 11 ∧ 0 ≤ 8 ∧ h.2.2.2.2 + am_al 226 ≤ 175 ∧ am_call am_cod 60 226 [.ref 154, .int x1, .int x2] h (fun v h' => lw_S lw_r459 (lw_J (i + 7)) i 1513 475 (lw_lv i) (v.toList ++ []) h') from ⟨lw_rc154 hI, Nat.zero_le _, lw_lim hI rfl, am_call.mono (fun v h' q => ?_) (lw_k2 (iv_m226 (vs := [(x1).toInt, (x2).toInt]) ⟨lw_ir _, ⟨lw_ir _, trivial⟩⟩ hI))⟩)
  obtain ⟨q1, ⟨x, rfl⟩, q2⟩ := q
  exact am_goX 2 (show (Value.int x).category = 1 ∧ lw_S lw_r459 (lw_J (i + 7)) i 1513 1513 (lw_lv i) [] h' from ⟨rfl, am_xexit ⟨rfl, rfl, rfl, lw_upJ ⟨q1, q2.1.trans (hJ.2.1.trans q2.2.1.symm), jt_k hJ.2.2.1 q2.2.1 q2.2.2.1, jw_k hJ.2.2.2.1 q2.2.2.1, jx_k hJ.2.2.2.2 q2.2.2.2⟩⟩⟩)
def lw_r567 : List (Nat × am_R) := [(567, (.aload_n 1, 568, 0, 0, 0, 0)), (568, (.aload_n 0, 569, 0, 0, 0, 0)), (569, (.iload 4, 571, 0, 0, 0, 0)), (571, (.iconst 1, 572, 0, 0, 0, 0)), (572, (.iadd, 573, 0, 0, 0, 0)), (573, (.iaload, 574, 0, 0, 0, 0)), (574, (.invokevirtual 62, 577, 116, 1, 154, 10)), (577, (.pop, 578, 0, 0, 0, 0))]
theorem lw_o567 : lw_r567.all (fun q => am_okB false "MistCantonLaw" code q.1 q.2) = true := am_wk_all 564 (by decide +kernel)
theorem lw_t567 {i : Nat} {h : am_H} (hJ : lw_J i h) (hL : i + 7 ≤ h.2.2.2.1) (hb : h.2.2.2.1 ≤ 4096) : lw_S lw_r567 (lw_J i) i 578 567 (lw_lv i) [] h := by
  have hI := hJ.1
  refine am_goX 6 (show ∃ j n : Nat, am_sh h 3000000 = some (13, n) ∧ j < n ∧ (nI i) + (Int32.ofInt 1) = nI j ∧ lw_S lw_r567 (lw_J i) i 578 574 (lw_lv i) [.int (h.1 3000000 j), .ref 0] h from ⟨i + 1, h.2.2.2.1, rfl, by omega, lw_x1 i, ?_⟩)
  generalize h.1 3000000 (i + 1) = x1
  refine am_goX 1 (show am_rc h 0 10 ∧ 0 ≤ 8 ∧ h.2.2.2.2 + am_al 116 ≤ 175 ∧ am_call am_cod 60 116 [.ref 0, .int x1] h (fun v h' => lw_S lw_r567 (lw_J i) i 578 577 (lw_lv i) (v.toList ++ []) h') from ⟨lw_rc0 hI, Nat.zero_le _, lw_lim hI rfl, am_call.mono (fun v h' q => ?_) (lw_k1 (iv_m116 (vs := [(x1).toInt]) ⟨lw_ir _, trivial⟩ hI))⟩)
  obtain ⟨q1, ⟨x, rfl⟩, q2⟩ := q
  exact am_goX 1 (show (Value.int x).category = 1 ∧ lw_S lw_r567 (lw_J i) i 578 578 (lw_lv i) [] h' from ⟨rfl, am_xexit ⟨rfl, rfl, rfl, ⟨q1, q2.1.trans (hJ.2.1.trans q2.2.1.symm), jt_k hJ.2.2.1 q2.2.1 q2.2.2.1, jw_k hJ.2.2.2.1 q2.2.2.1, jx_k hJ.2.2.2.2 q2.2.2.2⟩⟩⟩)
def lw_r578 : List (Nat × am_R) := [(578, (.aload_n 2, 579, 0, 0, 0, 0)), (579, (.aload_n 0, 580, 0, 0, 0, 0)), (580, (.iload 4, 582, 0, 0, 0, 0)), (582, (.iconst 1, 583, 0, 0, 0, 0)), (583, (.iadd, 584, 0, 0, 0, 0)), (584, (.iaload, 585, 0, 0, 0, 0)), (585, (.invokevirtual 65, 588, 243, 1, 292, 11)), (588, (.pop, 589, 0, 0, 0, 0)), (589, (.goto 924, 592, 1513, 0, 0, 0))]
theorem lw_o578 : lw_r578.all (fun q => am_okB false "MistCantonLaw" code q.1 q.2) = true := am_wk_all 576 (by decide +kernel)
theorem lw_t578 {i : Nat} {h : am_H} (hJ : lw_J i h) (hL : i + 7 ≤ h.2.2.2.1) (hb : h.2.2.2.1 ≤ 4096) : lw_S lw_r578 (lw_J (i + 7)) i 1513 578 (lw_lv i) [] h := by
  have hI := hJ.1
  refine am_goX 6 (show ∃ j n : Nat, am_sh h 3000000 = some (13, n) ∧ j < n ∧ (nI i) + (Int32.ofInt 1) = nI j ∧ lw_S lw_r578 (lw_J (i + 7)) i 1513 585 (lw_lv i) [.int (h.1 3000000 j), .ref 154] h from ⟨i + 1, h.2.2.2.1, rfl, by omega, lw_x1 i, ?_⟩)
  generalize h.1 3000000 (i + 1) = x1
  refine am_goX 1 (show am_rc h 154 11 ∧ 0 ≤ 8 ∧ h.2.2.2.2 + am_al 243 ≤ 175 ∧ am_call am_cod 60 243 [.ref 154, .int x1] h (fun v h' => lw_S lw_r578 (lw_J (i + 7)) i 1513 588 (lw_lv i) (v.toList ++ []) h') from ⟨lw_rc154 hI, Nat.zero_le _, lw_lim hI rfl, am_call.mono (fun v h' q => ?_) (lw_k1 (iv_m243 (vs := [(x1).toInt]) ⟨lw_ir _, trivial⟩ hI))⟩)
  obtain ⟨q1, ⟨x, rfl⟩, q2⟩ := q
  exact am_goX 2 (show (Value.int x).category = 1 ∧ lw_S lw_r578 (lw_J (i + 7)) i 1513 1513 (lw_lv i) [] h' from ⟨rfl, am_xexit ⟨rfl, rfl, rfl, lw_upJ ⟨q1, q2.1.trans (hJ.2.1.trans q2.2.1.symm), jt_k hJ.2.2.1 q2.2.1 q2.2.2.1, jw_k hJ.2.2.2.1 q2.2.2.1, jx_k hJ.2.2.2.2 q2.2.2.2⟩⟩⟩)
def lw_r592 : List (Nat × am_R) := [(592, (.aload_n 1, 593, 0, 0, 0, 0)), (593, (.aload_n 0, 594, 0, 0, 0, 0)), (594, (.iload 4, 596, 0, 0, 0, 0)), (596, (.iconst 1, 597, 0, 0, 0, 0)), (597, (.iadd, 598, 0, 0, 0, 0)), (598, (.iaload, 599, 0, 0, 0, 0)), (599, (.aload_n 0, 600, 0, 0, 0, 0)), (600, (.iload 4, 602, 0, 0, 0, 0)), (602, (.iconst 2, 603, 0, 0, 0, 0)), (603, (.iadd, 604, 0, 0, 0, 0)), (604, (.iaload, 605, 0, 0, 0, 0)), (605, (.invokevirtual 66, 608, 119, 2, 157, 10)), (608, (.pop, 609, 0, 0, 0, 0))]
theorem lw_o592 : lw_r592.all (fun q => am_okB false "MistCantonLaw" code q.1 q.2) = true := am_wk_all 592 (by decide +kernel)
theorem lw_t592 {i : Nat} {h : am_H} (hJ : lw_J i h) (hL : i + 7 ≤ h.2.2.2.1) (hb : h.2.2.2.1 ≤ 4096) : lw_S lw_r592 (lw_J i) i 609 592 (lw_lv i) [] h := by
  have hI := hJ.1
  refine am_goX 6 (show ∃ j n : Nat, am_sh h 3000000 = some (13, n) ∧ j < n ∧ (nI i) + (Int32.ofInt 1) = nI j ∧ lw_S lw_r592 (lw_J i) i 609 599 (lw_lv i) [.int (h.1 3000000 j), .ref 0] h from ⟨i + 1, h.2.2.2.1, rfl, by omega, lw_x1 i, ?_⟩)
  generalize h.1 3000000 (i + 1) = x1
  refine am_goX 5 (show ∃ j n : Nat, am_sh h 3000000 = some (13, n) ∧ j < n ∧ (nI i) + (Int32.ofInt 2) = nI j ∧ lw_S lw_r592 (lw_J i) i 609 605 (lw_lv i) [.int (h.1 3000000 j), .int x1, .ref 0] h from ⟨i + 2, h.2.2.2.1, rfl, by omega, lw_x2 i, ?_⟩)
  generalize h.1 3000000 (i + 2) = x2
  refine am_goX 1 (show am_rc h 0 10 ∧ 0 ≤ 8 ∧ h.2.2.2.2 + am_al 119 ≤ 175 ∧ am_call am_cod 60 119 [.ref 0, .int x1, .int x2] h (fun v h' => lw_S lw_r592 (lw_J i) i 609 608 (lw_lv i) (v.toList ++ []) h') from ⟨lw_rc0 hI, Nat.zero_le _, lw_lim hI rfl, am_call.mono (fun v h' q => ?_) (lw_k2 (iv_m119 (vs := [(x1).toInt, (x2).toInt]) ⟨lw_ir _, ⟨lw_ir _, trivial⟩⟩ hI))⟩)
  obtain ⟨q1, ⟨x, rfl⟩, q2⟩ := q
  exact am_goX 1 (show (Value.int x).category = 1 ∧ lw_S lw_r592 (lw_J i) i 609 609 (lw_lv i) [] h' from ⟨rfl, am_xexit ⟨rfl, rfl, rfl, ⟨q1, q2.1.trans (hJ.2.1.trans q2.2.1.symm), jt_k hJ.2.2.1 q2.2.1 q2.2.2.1, jw_k hJ.2.2.2.1 q2.2.2.1, jx_k hJ.2.2.2.2 q2.2.2.2⟩⟩⟩)
def lw_r609 : List (Nat × am_R) := [(609, (.aload_n 2, 610, 0, 0, 0, 0)), (610, (.aload_n 0, 611, 0, 0, 0, 0)), (611, (.iload 4, 613, 0, 0, 0, 0)), (613, (.iconst 1, 614, 0, 0, 0, 0)), (614, (.iadd, 615, 0, 0, 0, 0)), (615, (.iaload, 616, 0, 0, 0, 0)), (616, (.aload_n 0, 617, 0, 0, 0, 0)), (617, (.iload 4, 619, 0, 0, 0, 0)), (619, (.iconst 2, 620, 0, 0, 0, 0)), (620, (.iadd, 621, 0, 0, 0, 0)), (621, (.iaload, 622, 0, 0, 0, 0)), (622, (.invokevirtual 69, 625, 246, 2, 295, 11)), (625, (.pop, 626, 0, 0, 0, 0)), (626, (.goto 887, 629, 1513, 0, 0, 0))]
theorem lw_o609 : lw_r609.all (fun q => am_okB false "MistCantonLaw" code q.1 q.2) = true := am_wk_all 608 (by decide +kernel)
theorem lw_t609 {i : Nat} {h : am_H} (hJ : lw_J i h) (hL : i + 7 ≤ h.2.2.2.1) (hb : h.2.2.2.1 ≤ 4096) : lw_S lw_r609 (lw_J (i + 7)) i 1513 609 (lw_lv i) [] h := by
  have hI := hJ.1
  refine am_goX 6 (show ∃ j n : Nat, am_sh h 3000000 = some (13, n) ∧ j < n ∧ (nI i) + (Int32.ofInt 1) = nI j ∧ lw_S lw_r609 (lw_J (i + 7)) i 1513 616 (lw_lv i) [.int (h.1 3000000 j), .ref 154] h from ⟨i + 1, h.2.2.2.1, rfl, by omega, lw_x1 i, ?_⟩)
  generalize h.1 3000000 (i + 1) = x1
  refine am_goX 5 (show ∃ j n : Nat, am_sh h 3000000 = some (13, n) ∧ j < n ∧ (nI i) + (Int32.ofInt 2) = nI j ∧ lw_S lw_r609 (lw_J (i + 7)) i 1513 622 (lw_lv i) [.int (h.1 3000000 j), .int x1, .ref 154] h from ⟨i + 2, h.2.2.2.1, rfl, by omega, lw_x2 i, ?_⟩)
  generalize h.1 3000000 (i + 2) = x2
  refine am_goX 1 (show am_rc h 154 11 ∧ 0 ≤ 8 ∧ h.2.2.2.2 + am_al 246 ≤ 175 ∧ am_call am_cod 60 246 [.ref 154, .int x1, .int x2] h (fun v h' => lw_S lw_r609 (lw_J (i + 7)) i 1513 625 (lw_lv i) (v.toList ++ []) h') from ⟨lw_rc154 hI, Nat.zero_le _, lw_lim hI rfl, am_call.mono (fun v h' q => ?_) (lw_k2 (iv_m246 (vs := [(x1).toInt, (x2).toInt]) ⟨lw_ir _, ⟨lw_ir _, trivial⟩⟩ hI))⟩)
  obtain ⟨q1, ⟨x, rfl⟩, q2⟩ := q
  exact am_goX 2 (show (Value.int x).category = 1 ∧ lw_S lw_r609 (lw_J (i + 7)) i 1513 1513 (lw_lv i) [] h' from ⟨rfl, am_xexit ⟨rfl, rfl, rfl, lw_upJ ⟨q1, q2.1.trans (hJ.2.1.trans q2.2.1.symm), jt_k hJ.2.2.1 q2.2.1 q2.2.2.1, jw_k hJ.2.2.2.1 q2.2.2.1, jx_k hJ.2.2.2.2 q2.2.2.2⟩⟩⟩)
def lw_r629 : List (Nat × am_R) := [(629, (.aload_n 1, 630, 0, 0, 0, 0)), (630, (.aload_n 0, 631, 0, 0, 0, 0)), (631, (.iload 4, 633, 0, 0, 0, 0)), (633, (.iconst 1, 634, 0, 0, 0, 0)), (634, (.iadd, 635, 0, 0, 0, 0)), (635, (.iaload, 636, 0, 0, 0, 0)), (636, (.aload_n 0, 637, 0, 0, 0, 0)), (637, (.iload 4, 639, 0, 0, 0, 0)), (639, (.iconst 2, 640, 0, 0, 0, 0)), (640, (.iadd, 641, 0, 0, 0, 0)), (641, (.iaload, 642, 0, 0, 0, 0)), (642, (.invokevirtual 70, 645, 120, 2, 158, 10)), (645, (.pop, 646, 0, 0, 0, 0))]
theorem lw_o629 : lw_r629.all (fun q => am_okB false "MistCantonLaw" code q.1 q.2) = true := am_wk_all 628 (by decide +kernel)
theorem lw_t629 {i : Nat} {h : am_H} (hJ : lw_J i h) (hL : i + 7 ≤ h.2.2.2.1) (hb : h.2.2.2.1 ≤ 4096) : lw_S lw_r629 (lw_J i) i 646 629 (lw_lv i) [] h := by
  have hI := hJ.1
  refine am_goX 6 (show ∃ j n : Nat, am_sh h 3000000 = some (13, n) ∧ j < n ∧ (nI i) + (Int32.ofInt 1) = nI j ∧ lw_S lw_r629 (lw_J i) i 646 636 (lw_lv i) [.int (h.1 3000000 j), .ref 0] h from ⟨i + 1, h.2.2.2.1, rfl, by omega, lw_x1 i, ?_⟩)
  generalize h.1 3000000 (i + 1) = x1
  refine am_goX 5 (show ∃ j n : Nat, am_sh h 3000000 = some (13, n) ∧ j < n ∧ (nI i) + (Int32.ofInt 2) = nI j ∧ lw_S lw_r629 (lw_J i) i 646 642 (lw_lv i) [.int (h.1 3000000 j), .int x1, .ref 0] h from ⟨i + 2, h.2.2.2.1, rfl, by omega, lw_x2 i, ?_⟩)
  generalize h.1 3000000 (i + 2) = x2
  refine am_goX 1 (show am_rc h 0 10 ∧ 0 ≤ 8 ∧ h.2.2.2.2 + am_al 120 ≤ 175 ∧ am_call am_cod 60 120 [.ref 0, .int x1, .int x2] h (fun v h' => lw_S lw_r629 (lw_J i) i 646 645 (lw_lv i) (v.toList ++ []) h') from ⟨lw_rc0 hI, Nat.zero_le _, lw_lim hI rfl, am_call.mono (fun v h' q => ?_) (lw_k2 (iv_m120 (vs := [(x1).toInt, (x2).toInt]) ⟨lw_ir _, ⟨lw_ir _, trivial⟩⟩ hI))⟩)
  obtain ⟨q1, ⟨x, rfl⟩, q2⟩ := q
  exact am_goX 1 (show (Value.int x).category = 1 ∧ lw_S lw_r629 (lw_J i) i 646 646 (lw_lv i) [] h' from ⟨rfl, am_xexit ⟨rfl, rfl, rfl, ⟨q1, q2.1.trans (hJ.2.1.trans q2.2.1.symm), jt_k hJ.2.2.1 q2.2.1 q2.2.2.1, jw_k hJ.2.2.2.1 q2.2.2.1, jx_k hJ.2.2.2.2 q2.2.2.2⟩⟩⟩)
def lw_r646 : List (Nat × am_R) := [(646, (.aload_n 2, 647, 0, 0, 0, 0)), (647, (.aload_n 0, 648, 0, 0, 0, 0)), (648, (.iload 4, 650, 0, 0, 0, 0)), (650, (.iconst 1, 651, 0, 0, 0, 0)), (651, (.iadd, 652, 0, 0, 0, 0)), (652, (.iaload, 653, 0, 0, 0, 0)), (653, (.aload_n 0, 654, 0, 0, 0, 0)), (654, (.iload 4, 656, 0, 0, 0, 0)), (656, (.iconst 2, 657, 0, 0, 0, 0)), (657, (.iadd, 658, 0, 0, 0, 0)), (658, (.iaload, 659, 0, 0, 0, 0)), (659, (.invokevirtual 73, 662, 248, 2, 297, 11)), (662, (.pop, 663, 0, 0, 0, 0)), (663, (.goto 850, 666, 1513, 0, 0, 0))]
theorem lw_o646 : lw_r646.all (fun q => am_okB false "MistCantonLaw" code q.1 q.2) = true := am_wk_all 644 (by decide +kernel)
theorem lw_t646 {i : Nat} {h : am_H} (hJ : lw_J i h) (hL : i + 7 ≤ h.2.2.2.1) (hb : h.2.2.2.1 ≤ 4096) : lw_S lw_r646 (lw_J (i + 7)) i 1513 646 (lw_lv i) [] h := by
  have hI := hJ.1
  refine am_goX 6 (show ∃ j n : Nat, am_sh h 3000000 = some (13, n) ∧ j < n ∧ (nI i) + (Int32.ofInt 1) = nI j ∧ lw_S lw_r646 (lw_J (i + 7)) i 1513 653 (lw_lv i) [.int (h.1 3000000 j), .ref 154] h from ⟨i + 1, h.2.2.2.1, rfl, by omega, lw_x1 i, ?_⟩)
  generalize h.1 3000000 (i + 1) = x1
  refine am_goX 5 (show ∃ j n : Nat, am_sh h 3000000 = some (13, n) ∧ j < n ∧ (nI i) + (Int32.ofInt 2) = nI j ∧ lw_S lw_r646 (lw_J (i + 7)) i 1513 659 (lw_lv i) [.int (h.1 3000000 j), .int x1, .ref 154] h from ⟨i + 2, h.2.2.2.1, rfl, by omega, lw_x2 i, ?_⟩)
  generalize h.1 3000000 (i + 2) = x2
  refine am_goX 1 (show am_rc h 154 11 ∧ 0 ≤ 8 ∧ h.2.2.2.2 + am_al 248 ≤ 175 ∧ am_call am_cod 60 248 [.ref 154, .int x1, .int x2] h (fun v h' => lw_S lw_r646 (lw_J (i + 7)) i 1513 662 (lw_lv i) (v.toList ++ []) h') from ⟨lw_rc154 hI, Nat.zero_le _, lw_lim hI rfl, am_call.mono (fun v h' q => ?_) (lw_k2 (iv_m248 (vs := [(x1).toInt, (x2).toInt]) ⟨lw_ir _, ⟨lw_ir _, trivial⟩⟩ hI))⟩)
  obtain ⟨q1, ⟨x, rfl⟩, q2⟩ := q
  exact am_goX 2 (show (Value.int x).category = 1 ∧ lw_S lw_r646 (lw_J (i + 7)) i 1513 1513 (lw_lv i) [] h' from ⟨rfl, am_xexit ⟨rfl, rfl, rfl, lw_upJ ⟨q1, q2.1.trans (hJ.2.1.trans q2.2.1.symm), jt_k hJ.2.2.1 q2.2.1 q2.2.2.1, jw_k hJ.2.2.2.1 q2.2.2.1, jx_k hJ.2.2.2.2 q2.2.2.2⟩⟩⟩)
def lw_r691 : List (Nat × am_R) := [(691, (.aload_n 1, 692, 0, 0, 0, 0)), (692, (.aload_n 0, 693, 0, 0, 0, 0)), (693, (.iload 4, 695, 0, 0, 0, 0)), (695, (.iconst 1, 696, 0, 0, 0, 0)), (696, (.iadd, 697, 0, 0, 0, 0)), (697, (.iaload, 698, 0, 0, 0, 0)), (698, (.aload_n 0, 699, 0, 0, 0, 0)), (699, (.iload 4, 701, 0, 0, 0, 0)), (701, (.iconst 2, 702, 0, 0, 0, 0)), (702, (.iadd, 703, 0, 0, 0, 0)), (703, (.iaload, 704, 0, 0, 0, 0)), (704, (.invokevirtual 78, 707, 122, 2, 161, 10)), (707, (.pop, 708, 0, 0, 0, 0))]
theorem lw_o691 : lw_r691.all (fun q => am_okB false "MistCantonLaw" code q.1 q.2) = true := am_wk_all 688 (by decide +kernel)
theorem lw_t691 {i : Nat} {h : am_H} (hJ : lw_J i h) (hL : i + 7 ≤ h.2.2.2.1) (hb : h.2.2.2.1 ≤ 4096) : lw_S lw_r691 (lw_J i) i 708 691 (lw_lv i) [] h := by
  have hI := hJ.1
  refine am_goX 6 (show ∃ j n : Nat, am_sh h 3000000 = some (13, n) ∧ j < n ∧ (nI i) + (Int32.ofInt 1) = nI j ∧ lw_S lw_r691 (lw_J i) i 708 698 (lw_lv i) [.int (h.1 3000000 j), .ref 0] h from ⟨i + 1, h.2.2.2.1, rfl, by omega, lw_x1 i, ?_⟩)
  generalize h.1 3000000 (i + 1) = x1
  refine am_goX 5 (show ∃ j n : Nat, am_sh h 3000000 = some (13, n) ∧ j < n ∧ (nI i) + (Int32.ofInt 2) = nI j ∧ lw_S lw_r691 (lw_J i) i 708 704 (lw_lv i) [.int (h.1 3000000 j), .int x1, .ref 0] h from ⟨i + 2, h.2.2.2.1, rfl, by omega, lw_x2 i, ?_⟩)
  generalize h.1 3000000 (i + 2) = x2
  refine am_goX 1 (show am_rc h 0 10 ∧ 0 ≤ 8 ∧ h.2.2.2.2 + am_al 122 ≤ 175 ∧ am_call am_cod 60 122 [.ref 0, .int x1, .int x2] h (fun v h' => lw_S lw_r691 (lw_J i) i 708 707 (lw_lv i) (v.toList ++ []) h') from ⟨lw_rc0 hI, Nat.zero_le _, lw_lim hI rfl, am_call.mono (fun v h' q => ?_) (lw_k2 (iv_m122 (vs := [(x1).toInt, (x2).toInt]) ⟨lw_ir _, ⟨lw_ir _, trivial⟩⟩ hI))⟩)
  obtain ⟨q1, ⟨x, rfl⟩, q2⟩ := q
  exact am_goX 1 (show (Value.int x).category = 1 ∧ lw_S lw_r691 (lw_J i) i 708 708 (lw_lv i) [] h' from ⟨rfl, am_xexit ⟨rfl, rfl, rfl, ⟨q1, q2.1.trans (hJ.2.1.trans q2.2.1.symm), jt_k hJ.2.2.1 q2.2.1 q2.2.2.1, jw_k hJ.2.2.2.1 q2.2.2.1, jx_k hJ.2.2.2.2 q2.2.2.2⟩⟩⟩)
def lw_r708 : List (Nat × am_R) := [(708, (.aload_n 2, 709, 0, 0, 0, 0)), (709, (.aload_n 0, 710, 0, 0, 0, 0)), (710, (.iload 4, 712, 0, 0, 0, 0)), (712, (.iconst 1, 713, 0, 0, 0, 0)), (713, (.iadd, 714, 0, 0, 0, 0)), (714, (.iaload, 715, 0, 0, 0, 0)), (715, (.aload_n 0, 716, 0, 0, 0, 0)), (716, (.iload 4, 718, 0, 0, 0, 0)), (718, (.iconst 2, 719, 0, 0, 0, 0)), (719, (.iadd, 720, 0, 0, 0, 0)), (720, (.iaload, 721, 0, 0, 0, 0)), (721, (.invokevirtual 81, 724, 250, 2, 299, 11)), (724, (.pop, 725, 0, 0, 0, 0)), (725, (.goto 788, 728, 1513, 0, 0, 0))]
theorem lw_o708 : lw_r708.all (fun q => am_okB false "MistCantonLaw" code q.1 q.2) = true := am_wk_all 708 (by decide +kernel)
theorem lw_t708 {i : Nat} {h : am_H} (hJ : lw_J i h) (hL : i + 7 ≤ h.2.2.2.1) (hb : h.2.2.2.1 ≤ 4096) : lw_S lw_r708 (lw_J (i + 7)) i 1513 708 (lw_lv i) [] h := by
  have hI := hJ.1
  refine am_goX 6 (show ∃ j n : Nat, am_sh h 3000000 = some (13, n) ∧ j < n ∧ (nI i) + (Int32.ofInt 1) = nI j ∧ lw_S lw_r708 (lw_J (i + 7)) i 1513 715 (lw_lv i) [.int (h.1 3000000 j), .ref 154] h from ⟨i + 1, h.2.2.2.1, rfl, by omega, lw_x1 i, ?_⟩)
  generalize h.1 3000000 (i + 1) = x1
  refine am_goX 5 (show ∃ j n : Nat, am_sh h 3000000 = some (13, n) ∧ j < n ∧ (nI i) + (Int32.ofInt 2) = nI j ∧ lw_S lw_r708 (lw_J (i + 7)) i 1513 721 (lw_lv i) [.int (h.1 3000000 j), .int x1, .ref 154] h from ⟨i + 2, h.2.2.2.1, rfl, by omega, lw_x2 i, ?_⟩)
  generalize h.1 3000000 (i + 2) = x2
  refine am_goX 1 (show am_rc h 154 11 ∧ 0 ≤ 8 ∧ h.2.2.2.2 + am_al 250 ≤ 175 ∧ am_call am_cod 60 250 [.ref 154, .int x1, .int x2] h (fun v h' => lw_S lw_r708 (lw_J (i + 7)) i 1513 724 (lw_lv i) (v.toList ++ []) h') from ⟨lw_rc154 hI, Nat.zero_le _, lw_lim hI rfl, am_call.mono (fun v h' q => ?_) (lw_k2 (iv_m250 (vs := [(x1).toInt, (x2).toInt]) ⟨lw_ir _, ⟨lw_ir _, trivial⟩⟩ hI))⟩)
  obtain ⟨q1, ⟨x, rfl⟩, q2⟩ := q
  exact am_goX 2 (show (Value.int x).category = 1 ∧ lw_S lw_r708 (lw_J (i + 7)) i 1513 1513 (lw_lv i) [] h' from ⟨rfl, am_xexit ⟨rfl, rfl, rfl, lw_upJ ⟨q1, q2.1.trans (hJ.2.1.trans q2.2.1.symm), jt_k hJ.2.2.1 q2.2.1 q2.2.2.1, jw_k hJ.2.2.2.1 q2.2.2.1, jx_k hJ.2.2.2.2 q2.2.2.2⟩⟩⟩)
def lw_r728 : List (Nat × am_R) := [(728, (.aload_n 1, 729, 0, 0, 0, 0)), (729, (.aload_n 0, 730, 0, 0, 0, 0)), (730, (.iload 4, 732, 0, 0, 0, 0)), (732, (.iconst 1, 733, 0, 0, 0, 0)), (733, (.iadd, 734, 0, 0, 0, 0)), (734, (.iaload, 735, 0, 0, 0, 0)), (735, (.aload_n 0, 736, 0, 0, 0, 0)), (736, (.iload 4, 738, 0, 0, 0, 0)), (738, (.iconst 2, 739, 0, 0, 0, 0)), (739, (.iadd, 740, 0, 0, 0, 0)), (740, (.iaload, 741, 0, 0, 0, 0)), (741, (.invokevirtual 82, 744, 125, 2, 164, 10)), (744, (.pop, 745, 0, 0, 0, 0))]
theorem lw_o728 : lw_r728.all (fun q => am_okB false "MistCantonLaw" code q.1 q.2) = true := am_wk_all 728 (by decide +kernel)
theorem lw_t728 {i : Nat} {h : am_H} (hJ : lw_J i h) (hL : i + 7 ≤ h.2.2.2.1) (hb : h.2.2.2.1 ≤ 4096) : lw_S lw_r728 (lw_J i) i 745 728 (lw_lv i) [] h := by
  have hI := hJ.1
  refine am_goX 6 (show ∃ j n : Nat, am_sh h 3000000 = some (13, n) ∧ j < n ∧ (nI i) + (Int32.ofInt 1) = nI j ∧ lw_S lw_r728 (lw_J i) i 745 735 (lw_lv i) [.int (h.1 3000000 j), .ref 0] h from ⟨i + 1, h.2.2.2.1, rfl, by omega, lw_x1 i, ?_⟩)
  generalize h.1 3000000 (i + 1) = x1
  refine am_goX 5 (show ∃ j n : Nat, am_sh h 3000000 = some (13, n) ∧ j < n ∧ (nI i) + (Int32.ofInt 2) = nI j ∧ lw_S lw_r728 (lw_J i) i 745 741 (lw_lv i) [.int (h.1 3000000 j), .int x1, .ref 0] h from ⟨i + 2, h.2.2.2.1, rfl, by omega, lw_x2 i, ?_⟩)
  generalize h.1 3000000 (i + 2) = x2
  refine am_goX 1 (show am_rc h 0 10 ∧ 0 ≤ 8 ∧ h.2.2.2.2 + am_al 125 ≤ 175 ∧ am_call am_cod 60 125 [.ref 0, .int x1, .int x2] h (fun v h' => lw_S lw_r728 (lw_J i) i 745 744 (lw_lv i) (v.toList ++ []) h') from ⟨lw_rc0 hI, Nat.zero_le _, lw_lim hI rfl, am_call.mono (fun v h' q => ?_) (lw_k2 (iv_m125 (vs := [(x1).toInt, (x2).toInt]) ⟨lw_ir _, ⟨lw_ir _, trivial⟩⟩ hI))⟩)
  obtain ⟨q1, ⟨x, rfl⟩, q2⟩ := q
  exact am_goX 1 (show (Value.int x).category = 1 ∧ lw_S lw_r728 (lw_J i) i 745 745 (lw_lv i) [] h' from ⟨rfl, am_xexit ⟨rfl, rfl, rfl, ⟨q1, q2.1.trans (hJ.2.1.trans q2.2.1.symm), jt_k hJ.2.2.1 q2.2.1 q2.2.2.1, jw_k hJ.2.2.2.1 q2.2.2.1, jx_k hJ.2.2.2.2 q2.2.2.2⟩⟩⟩)
def lw_r745 : List (Nat × am_R) := [(745, (.aload_n 2, 746, 0, 0, 0, 0)), (746, (.aload_n 0, 747, 0, 0, 0, 0)), (747, (.iload 4, 749, 0, 0, 0, 0)), (749, (.iconst 1, 750, 0, 0, 0, 0)), (750, (.iadd, 751, 0, 0, 0, 0)), (751, (.iaload, 752, 0, 0, 0, 0)), (752, (.aload_n 0, 753, 0, 0, 0, 0)), (753, (.iload 4, 755, 0, 0, 0, 0)), (755, (.iconst 2, 756, 0, 0, 0, 0)), (756, (.iadd, 757, 0, 0, 0, 0)), (757, (.iaload, 758, 0, 0, 0, 0)), (758, (.invokevirtual 85, 761, 251, 2, 300, 11)), (761, (.pop, 762, 0, 0, 0, 0)), (762, (.goto 751, 765, 1513, 0, 0, 0))]
theorem lw_o745 : lw_r745.all (fun q => am_okB false "MistCantonLaw" code q.1 q.2) = true := am_wk_all 744 (by decide +kernel)
theorem lw_t745 {i : Nat} {h : am_H} (hJ : lw_J i h) (hL : i + 7 ≤ h.2.2.2.1) (hb : h.2.2.2.1 ≤ 4096) : lw_S lw_r745 (lw_J (i + 7)) i 1513 745 (lw_lv i) [] h := by
  have hI := hJ.1
  refine am_goX 6 (show ∃ j n : Nat, am_sh h 3000000 = some (13, n) ∧ j < n ∧ (nI i) + (Int32.ofInt 1) = nI j ∧ lw_S lw_r745 (lw_J (i + 7)) i 1513 752 (lw_lv i) [.int (h.1 3000000 j), .ref 154] h from ⟨i + 1, h.2.2.2.1, rfl, by omega, lw_x1 i, ?_⟩)
  generalize h.1 3000000 (i + 1) = x1
  refine am_goX 5 (show ∃ j n : Nat, am_sh h 3000000 = some (13, n) ∧ j < n ∧ (nI i) + (Int32.ofInt 2) = nI j ∧ lw_S lw_r745 (lw_J (i + 7)) i 1513 758 (lw_lv i) [.int (h.1 3000000 j), .int x1, .ref 154] h from ⟨i + 2, h.2.2.2.1, rfl, by omega, lw_x2 i, ?_⟩)
  generalize h.1 3000000 (i + 2) = x2
  refine am_goX 1 (show am_rc h 154 11 ∧ 0 ≤ 8 ∧ h.2.2.2.2 + am_al 251 ≤ 175 ∧ am_call am_cod 60 251 [.ref 154, .int x1, .int x2] h (fun v h' => lw_S lw_r745 (lw_J (i + 7)) i 1513 761 (lw_lv i) (v.toList ++ []) h') from ⟨lw_rc154 hI, Nat.zero_le _, lw_lim hI rfl, am_call.mono (fun v h' q => ?_) (lw_k2 (iv_m251 (vs := [(x1).toInt, (x2).toInt]) ⟨lw_ir _, ⟨lw_ir _, trivial⟩⟩ hI))⟩)
  obtain ⟨q1, ⟨x, rfl⟩, q2⟩ := q
  exact am_goX 2 (show (Value.int x).category = 1 ∧ lw_S lw_r745 (lw_J (i + 7)) i 1513 1513 (lw_lv i) [] h' from ⟨rfl, am_xexit ⟨rfl, rfl, rfl, lw_upJ ⟨q1, q2.1.trans (hJ.2.1.trans q2.2.1.symm), jt_k hJ.2.2.1 q2.2.1 q2.2.2.1, jw_k hJ.2.2.2.1 q2.2.2.1, jx_k hJ.2.2.2.2 q2.2.2.2⟩⟩⟩)
def lw_r765 : List (Nat × am_R) := [(765, (.aload_n 1, 766, 0, 0, 0, 0)), (766, (.aload_n 0, 767, 0, 0, 0, 0)), (767, (.iload 4, 769, 0, 0, 0, 0)), (769, (.iconst 1, 770, 0, 0, 0, 0)), (770, (.iadd, 771, 0, 0, 0, 0)), (771, (.iaload, 772, 0, 0, 0, 0)), (772, (.invokevirtual 86, 775, 126, 1, 165, 10)), (775, (.pop, 776, 0, 0, 0, 0))]
theorem lw_o765 : lw_r765.all (fun q => am_okB false "MistCantonLaw" code q.1 q.2) = true := am_wk_all 764 (by decide +kernel)
theorem lw_t765 {i : Nat} {h : am_H} (hJ : lw_J i h) (hL : i + 7 ≤ h.2.2.2.1) (hb : h.2.2.2.1 ≤ 4096) : lw_S lw_r765 (lw_J i) i 776 765 (lw_lv i) [] h := by
  have hI := hJ.1
  refine am_goX 6 (show ∃ j n : Nat, am_sh h 3000000 = some (13, n) ∧ j < n ∧ (nI i) + (Int32.ofInt 1) = nI j ∧ lw_S lw_r765 (lw_J i) i 776 772 (lw_lv i) [.int (h.1 3000000 j), .ref 0] h from ⟨i + 1, h.2.2.2.1, rfl, by omega, lw_x1 i, ?_⟩)
  generalize h.1 3000000 (i + 1) = x1
  refine am_goX 1 (show am_rc h 0 10 ∧ 0 ≤ 8 ∧ h.2.2.2.2 + am_al 126 ≤ 175 ∧ am_call am_cod 60 126 [.ref 0, .int x1] h (fun v h' => lw_S lw_r765 (lw_J i) i 776 775 (lw_lv i) (v.toList ++ []) h') from ⟨lw_rc0 hI, Nat.zero_le _, lw_lim hI rfl, am_call.mono (fun v h' q => ?_) (lw_k1 (iv_m126 (vs := [(x1).toInt]) ⟨lw_ir _, trivial⟩ hI))⟩)
  obtain ⟨q1, ⟨x, rfl⟩, q2⟩ := q
  exact am_goX 1 (show (Value.int x).category = 1 ∧ lw_S lw_r765 (lw_J i) i 776 776 (lw_lv i) [] h' from ⟨rfl, am_xexit ⟨rfl, rfl, rfl, ⟨q1, q2.1.trans (hJ.2.1.trans q2.2.1.symm), jt_k hJ.2.2.1 q2.2.1 q2.2.2.1, jw_k hJ.2.2.2.1 q2.2.2.1, jx_k hJ.2.2.2.2 q2.2.2.2⟩⟩⟩)
def lw_r776 : List (Nat × am_R) := [(776, (.aload_n 2, 777, 0, 0, 0, 0)), (777, (.aload_n 0, 778, 0, 0, 0, 0)), (778, (.iload 4, 780, 0, 0, 0, 0)), (780, (.iconst 1, 781, 0, 0, 0, 0)), (781, (.iadd, 782, 0, 0, 0, 0)), (782, (.iaload, 783, 0, 0, 0, 0)), (783, (.invokevirtual 89, 786, 252, 1, 301, 11)), (786, (.pop, 787, 0, 0, 0, 0)), (787, (.goto 726, 790, 1513, 0, 0, 0))]
theorem lw_o776 : lw_r776.all (fun q => am_okB false "MistCantonLaw" code q.1 q.2) = true := am_wk_all 776 (by decide +kernel)
theorem lw_t776 {i : Nat} {h : am_H} (hJ : lw_J i h) (hL : i + 7 ≤ h.2.2.2.1) (hb : h.2.2.2.1 ≤ 4096) : lw_S lw_r776 (lw_J (i + 7)) i 1513 776 (lw_lv i) [] h := by
  have hI := hJ.1
  refine am_goX 6 (show ∃ j n : Nat, am_sh h 3000000 = some (13, n) ∧ j < n ∧ (nI i) + (Int32.ofInt 1) = nI j ∧ lw_S lw_r776 (lw_J (i + 7)) i 1513 783 (lw_lv i) [.int (h.1 3000000 j), .ref 154] h from ⟨i + 1, h.2.2.2.1, rfl, by omega, lw_x1 i, ?_⟩)
  generalize h.1 3000000 (i + 1) = x1
  refine am_goX 1 (show am_rc h 154 11 ∧ 0 ≤ 8 ∧ h.2.2.2.2 + am_al 252 ≤ 175 ∧ am_call am_cod 60 252 [.ref 154, .int x1] h (fun v h' => lw_S lw_r776 (lw_J (i + 7)) i 1513 786 (lw_lv i) (v.toList ++ []) h') from ⟨lw_rc154 hI, Nat.zero_le _, lw_lim hI rfl, am_call.mono (fun v h' q => ?_) (lw_k1 (iv_m252 (vs := [(x1).toInt]) ⟨lw_ir _, trivial⟩ hI))⟩)
  obtain ⟨q1, ⟨x, rfl⟩, q2⟩ := q
  exact am_goX 2 (show (Value.int x).category = 1 ∧ lw_S lw_r776 (lw_J (i + 7)) i 1513 1513 (lw_lv i) [] h' from ⟨rfl, am_xexit ⟨rfl, rfl, rfl, lw_upJ ⟨q1, q2.1.trans (hJ.2.1.trans q2.2.1.symm), jt_k hJ.2.2.1 q2.2.1 q2.2.2.1, jw_k hJ.2.2.2.1 q2.2.2.1, jx_k hJ.2.2.2.2 q2.2.2.2⟩⟩⟩)
def lw_r790 : List (Nat × am_R) := [(790, (.aload_n 1, 791, 0, 0, 0, 0)), (791, (.invokevirtual 90, 794, 128, 0, 167, 10)), (794, (.pop, 795, 0, 0, 0, 0))]
theorem lw_o790 : lw_r790.all (fun q => am_okB false "MistCantonLaw" code q.1 q.2) = true := am_wk_all 788 (by decide +kernel)
theorem lw_t790 {i : Nat} {h : am_H} (hJ : lw_J i h) (hL : i + 7 ≤ h.2.2.2.1) (hb : h.2.2.2.1 ≤ 4096) : lw_S lw_r790 (lw_J i) i 795 790 (lw_lv i) [] h := by
  have hI := hJ.1
  refine am_goX 2 (show am_rc h 0 10 ∧ 0 ≤ 8 ∧ h.2.2.2.2 + am_al 128 ≤ 175 ∧ am_call am_cod 60 128 [.ref 0] h (fun v h' => lw_S lw_r790 (lw_J i) i 795 794 (lw_lv i) (v.toList ++ []) h') from ⟨lw_rc0 hI, Nat.zero_le _, lw_lim hI rfl, am_call.mono (fun v h' q => ?_) (lw_k0 (iv_m128 (vs := []) trivial hI))⟩)
  obtain ⟨q1, ⟨x, rfl⟩, q2⟩ := q
  exact am_goX 1 (show (Value.int x).category = 1 ∧ lw_S lw_r790 (lw_J i) i 795 795 (lw_lv i) [] h' from ⟨rfl, am_xexit ⟨rfl, rfl, rfl, ⟨q1, q2.1.trans (hJ.2.1.trans q2.2.1.symm), jt_k hJ.2.2.1 q2.2.1 q2.2.2.1, jw_k hJ.2.2.2.1 q2.2.2.1, jx_k hJ.2.2.2.2 q2.2.2.2⟩⟩⟩)
def lw_r795 : List (Nat × am_R) := [(795, (.aload_n 2, 796, 0, 0, 0, 0)), (796, (.invokevirtual 93, 799, 254, 0, 303, 11)), (799, (.pop, 800, 0, 0, 0, 0)), (800, (.goto 713, 803, 1513, 0, 0, 0))]
theorem lw_o795 : lw_r795.all (fun q => am_okB false "MistCantonLaw" code q.1 q.2) = true := am_wk_all 792 (by decide +kernel)
theorem lw_t795 {i : Nat} {h : am_H} (hJ : lw_J i h) (hL : i + 7 ≤ h.2.2.2.1) (hb : h.2.2.2.1 ≤ 4096) : lw_S lw_r795 (lw_J (i + 7)) i 1513 795 (lw_lv i) [] h := by
  have hI := hJ.1
  refine am_goX 2 (show am_rc h 154 11 ∧ 0 ≤ 8 ∧ h.2.2.2.2 + am_al 254 ≤ 175 ∧ am_call am_cod 60 254 [.ref 154] h (fun v h' => lw_S lw_r795 (lw_J (i + 7)) i 1513 799 (lw_lv i) (v.toList ++ []) h') from ⟨lw_rc154 hI, Nat.zero_le _, lw_lim hI rfl, am_call.mono (fun v h' q => ?_) (lw_k0 (iv_m254 (vs := []) trivial hI))⟩)
  obtain ⟨q1, ⟨x, rfl⟩, q2⟩ := q
  exact am_goX 2 (show (Value.int x).category = 1 ∧ lw_S lw_r795 (lw_J (i + 7)) i 1513 1513 (lw_lv i) [] h' from ⟨rfl, am_xexit ⟨rfl, rfl, rfl, lw_upJ ⟨q1, q2.1.trans (hJ.2.1.trans q2.2.1.symm), jt_k hJ.2.2.1 q2.2.1 q2.2.2.1, jw_k hJ.2.2.2.1 q2.2.2.1, jx_k hJ.2.2.2.2 q2.2.2.2⟩⟩⟩)
def lw_r803 : List (Nat × am_R) := [(803, (.aload_n 1, 804, 0, 0, 0, 0)), (804, (.aload_n 0, 805, 0, 0, 0, 0)), (805, (.iload 4, 807, 0, 0, 0, 0)), (807, (.iconst 1, 808, 0, 0, 0, 0)), (808, (.iadd, 809, 0, 0, 0, 0)), (809, (.iaload, 810, 0, 0, 0, 0)), (810, (.invokevirtual 94, 813, 141, 1, 181, 10)), (813, (.pop, 814, 0, 0, 0, 0))]
theorem lw_o803 : lw_r803.all (fun q => am_okB false "MistCantonLaw" code q.1 q.2) = true := am_wk_all 800 (by decide +kernel)
theorem lw_t803 {i : Nat} {h : am_H} (hJ : lw_J i h) (hL : i + 7 ≤ h.2.2.2.1) (hb : h.2.2.2.1 ≤ 4096) : lw_S lw_r803 (lw_J i) i 814 803 (lw_lv i) [] h := by
  have hI := hJ.1
  refine am_goX 6 (show ∃ j n : Nat, am_sh h 3000000 = some (13, n) ∧ j < n ∧ (nI i) + (Int32.ofInt 1) = nI j ∧ lw_S lw_r803 (lw_J i) i 814 810 (lw_lv i) [.int (h.1 3000000 j), .ref 0] h from ⟨i + 1, h.2.2.2.1, rfl, by omega, lw_x1 i, ?_⟩)
  generalize h.1 3000000 (i + 1) = x1
  refine am_goX 1 (show am_rc h 0 10 ∧ 0 ≤ 8 ∧ h.2.2.2.2 + am_al 141 ≤ 175 ∧ am_call am_cod 60 141 [.ref 0, .int x1] h (fun v h' => lw_S lw_r803 (lw_J i) i 814 813 (lw_lv i) (v.toList ++ []) h') from ⟨lw_rc0 hI, Nat.zero_le _, lw_lim hI rfl, am_call.mono (fun v h' q => ?_) (lw_k1 (iv_m141 (vs := [(x1).toInt]) ⟨lw_ir _, trivial⟩ hI))⟩)
  obtain ⟨q1, ⟨x, rfl⟩, q2⟩ := q
  exact am_goX 1 (show (Value.int x).category = 1 ∧ lw_S lw_r803 (lw_J i) i 814 814 (lw_lv i) [] h' from ⟨rfl, am_xexit ⟨rfl, rfl, rfl, ⟨q1, q2.1.trans (hJ.2.1.trans q2.2.1.symm), jt_k hJ.2.2.1 q2.2.1 q2.2.2.1, jw_k hJ.2.2.2.1 q2.2.2.1, jx_k hJ.2.2.2.2 q2.2.2.2⟩⟩⟩)
def lw_r814 : List (Nat × am_R) := [(814, (.aload_n 2, 815, 0, 0, 0, 0)), (815, (.aload_n 0, 816, 0, 0, 0, 0)), (816, (.iload 4, 818, 0, 0, 0, 0)), (818, (.iconst 1, 819, 0, 0, 0, 0)), (819, (.iadd, 820, 0, 0, 0, 0)), (820, (.iaload, 821, 0, 0, 0, 0)), (821, (.invokevirtual 97, 824, 261, 1, 310, 11)), (824, (.pop, 825, 0, 0, 0, 0)), (825, (.goto 688, 828, 1513, 0, 0, 0))]
theorem lw_o814 : lw_r814.all (fun q => am_okB false "MistCantonLaw" code q.1 q.2) = true := am_wk_all 812 (by decide +kernel)
theorem lw_t814 {i : Nat} {h : am_H} (hJ : lw_J i h) (hL : i + 7 ≤ h.2.2.2.1) (hb : h.2.2.2.1 ≤ 4096) : lw_S lw_r814 (lw_J (i + 7)) i 1513 814 (lw_lv i) [] h := by
  have hI := hJ.1
  refine am_goX 6 (show ∃ j n : Nat, am_sh h 3000000 = some (13, n) ∧ j < n ∧ (nI i) + (Int32.ofInt 1) = nI j ∧ lw_S lw_r814 (lw_J (i + 7)) i 1513 821 (lw_lv i) [.int (h.1 3000000 j), .ref 154] h from ⟨i + 1, h.2.2.2.1, rfl, by omega, lw_x1 i, ?_⟩)
  generalize h.1 3000000 (i + 1) = x1
  refine am_goX 1 (show am_rc h 154 11 ∧ 0 ≤ 8 ∧ h.2.2.2.2 + am_al 261 ≤ 175 ∧ am_call am_cod 60 261 [.ref 154, .int x1] h (fun v h' => lw_S lw_r814 (lw_J (i + 7)) i 1513 824 (lw_lv i) (v.toList ++ []) h') from ⟨lw_rc154 hI, Nat.zero_le _, lw_lim hI rfl, am_call.mono (fun v h' q => ?_) (lw_k1 (iv_m261 (vs := [(x1).toInt]) ⟨lw_ir _, trivial⟩ hI))⟩)
  obtain ⟨q1, ⟨x, rfl⟩, q2⟩ := q
  exact am_goX 2 (show (Value.int x).category = 1 ∧ lw_S lw_r814 (lw_J (i + 7)) i 1513 1513 (lw_lv i) [] h' from ⟨rfl, am_xexit ⟨rfl, rfl, rfl, lw_upJ ⟨q1, q2.1.trans (hJ.2.1.trans q2.2.1.symm), jt_k hJ.2.2.1 q2.2.1 q2.2.2.1, jw_k hJ.2.2.2.1 q2.2.2.1, jx_k hJ.2.2.2.2 q2.2.2.2⟩⟩⟩)
def lw_r828 : List (Nat × am_R) := [(828, (.aload_n 1, 829, 0, 0, 0, 0)), (829, (.aload_n 0, 830, 0, 0, 0, 0)), (830, (.iload 4, 832, 0, 0, 0, 0)), (832, (.iconst 1, 833, 0, 0, 0, 0)), (833, (.iadd, 834, 0, 0, 0, 0)), (834, (.iaload, 835, 0, 0, 0, 0)), (835, (.aload_n 0, 836, 0, 0, 0, 0)), (836, (.iload 4, 838, 0, 0, 0, 0)), (838, (.iconst 2, 839, 0, 0, 0, 0)), (839, (.iadd, 840, 0, 0, 0, 0)), (840, (.iaload, 841, 0, 0, 0, 0)), (841, (.invokevirtual 98, 844, 143, 2, 184, 10)), (844, (.pop, 845, 0, 0, 0, 0))]
theorem lw_o828 : lw_r828.all (fun q => am_okB false "MistCantonLaw" code q.1 q.2) = true := am_wk_all 828 (by decide +kernel)
theorem lw_t828 {i : Nat} {h : am_H} (hJ : lw_J i h) (hL : i + 7 ≤ h.2.2.2.1) (hb : h.2.2.2.1 ≤ 4096) : lw_S lw_r828 (lw_J i) i 845 828 (lw_lv i) [] h := by
  have hI := hJ.1
  refine am_goX 6 (show ∃ j n : Nat, am_sh h 3000000 = some (13, n) ∧ j < n ∧ (nI i) + (Int32.ofInt 1) = nI j ∧ lw_S lw_r828 (lw_J i) i 845 835 (lw_lv i) [.int (h.1 3000000 j), .ref 0] h from ⟨i + 1, h.2.2.2.1, rfl, by omega, lw_x1 i, ?_⟩)
  generalize h.1 3000000 (i + 1) = x1
  refine am_goX 5 (show ∃ j n : Nat, am_sh h 3000000 = some (13, n) ∧ j < n ∧ (nI i) + (Int32.ofInt 2) = nI j ∧ lw_S lw_r828 (lw_J i) i 845 841 (lw_lv i) [.int (h.1 3000000 j), .int x1, .ref 0] h from ⟨i + 2, h.2.2.2.1, rfl, by omega, lw_x2 i, ?_⟩)
  generalize h.1 3000000 (i + 2) = x2
  refine am_goX 1 (show am_rc h 0 10 ∧ 0 ≤ 8 ∧ h.2.2.2.2 + am_al 143 ≤ 175 ∧ am_call am_cod 60 143 [.ref 0, .int x1, .int x2] h (fun v h' => lw_S lw_r828 (lw_J i) i 845 844 (lw_lv i) (v.toList ++ []) h') from ⟨lw_rc0 hI, Nat.zero_le _, lw_lim hI rfl, am_call.mono (fun v h' q => ?_) (lw_k2 (iv_m143 (vs := [(x1).toInt, (x2).toInt]) ⟨lw_ir _, ⟨lw_ir _, trivial⟩⟩ hI))⟩)
  obtain ⟨q1, ⟨x, rfl⟩, q2⟩ := q
  exact am_goX 1 (show (Value.int x).category = 1 ∧ lw_S lw_r828 (lw_J i) i 845 845 (lw_lv i) [] h' from ⟨rfl, am_xexit ⟨rfl, rfl, rfl, ⟨q1, q2.1.trans (hJ.2.1.trans q2.2.1.symm), jt_k hJ.2.2.1 q2.2.1 q2.2.2.1, jw_k hJ.2.2.2.1 q2.2.2.1, jx_k hJ.2.2.2.2 q2.2.2.2⟩⟩⟩)
def lw_r845 : List (Nat × am_R) := [(845, (.aload_n 2, 846, 0, 0, 0, 0)), (846, (.aload_n 0, 847, 0, 0, 0, 0)), (847, (.iload 4, 849, 0, 0, 0, 0)), (849, (.iconst 1, 850, 0, 0, 0, 0)), (850, (.iadd, 851, 0, 0, 0, 0)), (851, (.iaload, 852, 0, 0, 0, 0)), (852, (.aload_n 0, 853, 0, 0, 0, 0)), (853, (.iload 4, 855, 0, 0, 0, 0)), (855, (.iconst 2, 856, 0, 0, 0, 0)), (856, (.iadd, 857, 0, 0, 0, 0)), (857, (.iaload, 858, 0, 0, 0, 0)), (858, (.invokevirtual 101, 861, 263, 2, 312, 11)), (861, (.pop, 862, 0, 0, 0, 0)), (862, (.goto 651, 865, 1513, 0, 0, 0))]
theorem lw_o845 : lw_r845.all (fun q => am_okB false "MistCantonLaw" code q.1 q.2) = true := am_wk_all 844 (by decide +kernel)
theorem lw_t845 {i : Nat} {h : am_H} (hJ : lw_J i h) (hL : i + 7 ≤ h.2.2.2.1) (hb : h.2.2.2.1 ≤ 4096) : lw_S lw_r845 (lw_J (i + 7)) i 1513 845 (lw_lv i) [] h := by
  have hI := hJ.1
  refine am_goX 6 (show ∃ j n : Nat, am_sh h 3000000 = some (13, n) ∧ j < n ∧ (nI i) + (Int32.ofInt 1) = nI j ∧ lw_S lw_r845 (lw_J (i + 7)) i 1513 852 (lw_lv i) [.int (h.1 3000000 j), .ref 154] h from ⟨i + 1, h.2.2.2.1, rfl, by omega, lw_x1 i, ?_⟩)
  generalize h.1 3000000 (i + 1) = x1
  refine am_goX 5 (show ∃ j n : Nat, am_sh h 3000000 = some (13, n) ∧ j < n ∧ (nI i) + (Int32.ofInt 2) = nI j ∧ lw_S lw_r845 (lw_J (i + 7)) i 1513 858 (lw_lv i) [.int (h.1 3000000 j), .int x1, .ref 154] h from ⟨i + 2, h.2.2.2.1, rfl, by omega, lw_x2 i, ?_⟩)
  generalize h.1 3000000 (i + 2) = x2
  refine am_goX 1 (show am_rc h 154 11 ∧ 0 ≤ 8 ∧ h.2.2.2.2 + am_al 263 ≤ 175 ∧ am_call am_cod 60 263 [.ref 154, .int x1, .int x2] h (fun v h' => lw_S lw_r845 (lw_J (i + 7)) i 1513 861 (lw_lv i) (v.toList ++ []) h') from ⟨lw_rc154 hI, Nat.zero_le _, lw_lim hI rfl, am_call.mono (fun v h' q => ?_) (lw_k2 (iv_m263 (vs := [(x1).toInt, (x2).toInt]) ⟨lw_ir _, ⟨lw_ir _, trivial⟩⟩ hI))⟩)
  obtain ⟨q1, ⟨x, rfl⟩, q2⟩ := q
  exact am_goX 2 (show (Value.int x).category = 1 ∧ lw_S lw_r845 (lw_J (i + 7)) i 1513 1513 (lw_lv i) [] h' from ⟨rfl, am_xexit ⟨rfl, rfl, rfl, lw_upJ ⟨q1, q2.1.trans (hJ.2.1.trans q2.2.1.symm), jt_k hJ.2.2.1 q2.2.1 q2.2.2.1, jw_k hJ.2.2.2.1 q2.2.2.1, jx_k hJ.2.2.2.2 q2.2.2.2⟩⟩⟩)
def lw_r930 : List (Nat × am_R) := [(930, (.aload_n 1, 931, 0, 0, 0, 0)), (931, (.invokevirtual 107, 934, 150, 0, 193, 10)), (934, (.pop, 935, 0, 0, 0, 0))]
theorem lw_o930 : lw_r930.all (fun q => am_okB false "MistCantonLaw" code q.1 q.2) = true := am_wk_all 928 (by decide +kernel)
theorem lw_t930 {i : Nat} {h : am_H} (hJ : lw_J i h) (hL : i + 7 ≤ h.2.2.2.1) (hb : h.2.2.2.1 ≤ 4096) : lw_S lw_r930 (lw_J i) i 935 930 (lw_lv i) [] h := by
  have hI := hJ.1
  refine am_goX 2 (show am_rc h 0 10 ∧ 0 ≤ 8 ∧ h.2.2.2.2 + am_al 150 ≤ 175 ∧ am_call am_cod 60 150 [.ref 0] h (fun v h' => lw_S lw_r930 (lw_J i) i 935 934 (lw_lv i) (v.toList ++ []) h') from ⟨lw_rc0 hI, Nat.zero_le _, lw_lim hI rfl, am_call.mono (fun v h' q => ?_) (lw_k0 (iv_m150 (vs := []) trivial hI))⟩)
  obtain ⟨q1, ⟨x, rfl⟩, q2⟩ := q
  exact am_goX 1 (show (Value.int x).category = 1 ∧ lw_S lw_r930 (lw_J i) i 935 935 (lw_lv i) [] h' from ⟨rfl, am_xexit ⟨rfl, rfl, rfl, ⟨q1, q2.1.trans (hJ.2.1.trans q2.2.1.symm), jt_k hJ.2.2.1 q2.2.1 q2.2.2.1, jw_k hJ.2.2.2.1 q2.2.2.1, jx_k hJ.2.2.2.2 q2.2.2.2⟩⟩⟩)
def lw_r935 : List (Nat × am_R) := [(935, (.aload_n 2, 936, 0, 0, 0, 0)), (936, (.invokevirtual 110, 939, 267, 0, 316, 11)), (939, (.pop, 940, 0, 0, 0, 0)), (940, (.goto 573, 943, 1513, 0, 0, 0))]
theorem lw_o935 : lw_r935.all (fun q => am_okB false "MistCantonLaw" code q.1 q.2) = true := am_wk_all 932 (by decide +kernel)
theorem lw_t935 {i : Nat} {h : am_H} (hJ : lw_J i h) (hL : i + 7 ≤ h.2.2.2.1) (hb : h.2.2.2.1 ≤ 4096) : lw_S lw_r935 (lw_J (i + 7)) i 1513 935 (lw_lv i) [] h := by
  have hI := hJ.1
  refine am_goX 2 (show am_rc h 154 11 ∧ 0 ≤ 8 ∧ h.2.2.2.2 + am_al 267 ≤ 175 ∧ am_call am_cod 60 267 [.ref 154] h (fun v h' => lw_S lw_r935 (lw_J (i + 7)) i 1513 939 (lw_lv i) (v.toList ++ []) h') from ⟨lw_rc154 hI, Nat.zero_le _, lw_lim hI rfl, am_call.mono (fun v h' q => ?_) (lw_k0 (iv_m267 (vs := []) trivial hI))⟩)
  obtain ⟨q1, ⟨x, rfl⟩, q2⟩ := q
  exact am_goX 2 (show (Value.int x).category = 1 ∧ lw_S lw_r935 (lw_J (i + 7)) i 1513 1513 (lw_lv i) [] h' from ⟨rfl, am_xexit ⟨rfl, rfl, rfl, lw_upJ ⟨q1, q2.1.trans (hJ.2.1.trans q2.2.1.symm), jt_k hJ.2.2.1 q2.2.1 q2.2.2.1, jw_k hJ.2.2.2.1 q2.2.2.1, jx_k hJ.2.2.2.2 q2.2.2.2⟩⟩⟩)
def lw_r943 : List (Nat × am_R) := [(943, (.aload_n 1, 944, 0, 0, 0, 0)), (944, (.invokevirtual 111, 947, 151, 0, 194, 10)), (947, (.pop, 948, 0, 0, 0, 0))]
theorem lw_o943 : lw_r943.all (fun q => am_okB false "MistCantonLaw" code q.1 q.2) = true := am_wk_all 940 (by decide +kernel)
theorem lw_t943 {i : Nat} {h : am_H} (hJ : lw_J i h) (hL : i + 7 ≤ h.2.2.2.1) (hb : h.2.2.2.1 ≤ 4096) : lw_S lw_r943 (lw_J i) i 948 943 (lw_lv i) [] h := by
  have hI := hJ.1
  refine am_goX 2 (show am_rc h 0 10 ∧ 0 ≤ 8 ∧ h.2.2.2.2 + am_al 151 ≤ 175 ∧ am_call am_cod 60 151 [.ref 0] h (fun v h' => lw_S lw_r943 (lw_J i) i 948 947 (lw_lv i) (v.toList ++ []) h') from ⟨lw_rc0 hI, Nat.zero_le _, lw_lim hI rfl, am_call.mono (fun v h' q => ?_) (lw_k0 (iv_m151 (vs := []) trivial hI))⟩)
  obtain ⟨q1, ⟨x, rfl⟩, q2⟩ := q
  exact am_goX 1 (show (Value.int x).category = 1 ∧ lw_S lw_r943 (lw_J i) i 948 948 (lw_lv i) [] h' from ⟨rfl, am_xexit ⟨rfl, rfl, rfl, ⟨q1, q2.1.trans (hJ.2.1.trans q2.2.1.symm), jt_k hJ.2.2.1 q2.2.1 q2.2.2.1, jw_k hJ.2.2.2.1 q2.2.2.1, jx_k hJ.2.2.2.2 q2.2.2.2⟩⟩⟩)
def lw_r948 : List (Nat × am_R) := [(948, (.aload_n 2, 949, 0, 0, 0, 0)), (949, (.invokevirtual 114, 952, 270, 0, 319, 11)), (952, (.pop, 953, 0, 0, 0, 0)), (953, (.goto 560, 956, 1513, 0, 0, 0))]
theorem lw_o948 : lw_r948.all (fun q => am_okB false "MistCantonLaw" code q.1 q.2) = true := am_wk_all 948 (by decide +kernel)
theorem lw_t948 {i : Nat} {h : am_H} (hJ : lw_J i h) (hL : i + 7 ≤ h.2.2.2.1) (hb : h.2.2.2.1 ≤ 4096) : lw_S lw_r948 (lw_J (i + 7)) i 1513 948 (lw_lv i) [] h := by
  have hI := hJ.1
  refine am_goX 2 (show am_rc h 154 11 ∧ 0 ≤ 8 ∧ h.2.2.2.2 + am_al 270 ≤ 175 ∧ am_call am_cod 60 270 [.ref 154] h (fun v h' => lw_S lw_r948 (lw_J (i + 7)) i 1513 952 (lw_lv i) (v.toList ++ []) h') from ⟨lw_rc154 hI, Nat.zero_le _, lw_lim hI rfl, am_call.mono (fun v h' q => ?_) (lw_k0 (iv_m270 (vs := []) trivial hI))⟩)
  obtain ⟨q1, ⟨x, rfl⟩, q2⟩ := q
  exact am_goX 2 (show (Value.int x).category = 1 ∧ lw_S lw_r948 (lw_J (i + 7)) i 1513 1513 (lw_lv i) [] h' from ⟨rfl, am_xexit ⟨rfl, rfl, rfl, lw_upJ ⟨q1, q2.1.trans (hJ.2.1.trans q2.2.1.symm), jt_k hJ.2.2.1 q2.2.1 q2.2.2.1, jw_k hJ.2.2.2.1 q2.2.2.1, jx_k hJ.2.2.2.2 q2.2.2.2⟩⟩⟩)
def lw_r956 : List (Nat × am_R) := [(956, (.aload_n 1, 957, 0, 0, 0, 0)), (957, (.invokevirtual 115, 960, 152, 0, 196, 10)), (960, (.pop, 961, 0, 0, 0, 0))]
theorem lw_o956 : lw_r956.all (fun q => am_okB false "MistCantonLaw" code q.1 q.2) = true := am_wk_all 956 (by decide +kernel)
theorem lw_t956 {i : Nat} {h : am_H} (hJ : lw_J i h) (hL : i + 7 ≤ h.2.2.2.1) (hb : h.2.2.2.1 ≤ 4096) : lw_S lw_r956 (lw_J i) i 961 956 (lw_lv i) [] h := by
  have hI := hJ.1
  refine am_goX 2 (show am_rc h 0 10 ∧ 0 ≤ 8 ∧ h.2.2.2.2 + am_al 152 ≤ 175 ∧ am_call am_cod 60 152 [.ref 0] h (fun v h' => lw_S lw_r956 (lw_J i) i 961 960 (lw_lv i) (v.toList ++ []) h') from ⟨lw_rc0 hI, Nat.zero_le _, lw_lim hI rfl, am_call.mono (fun v h' q => ?_) (lw_k0 (iv_m152 (vs := []) trivial hI))⟩)
  obtain ⟨q1, ⟨x, rfl⟩, q2⟩ := q
  exact am_goX 1 (show (Value.int x).category = 1 ∧ lw_S lw_r956 (lw_J i) i 961 961 (lw_lv i) [] h' from ⟨rfl, am_xexit ⟨rfl, rfl, rfl, ⟨q1, q2.1.trans (hJ.2.1.trans q2.2.1.symm), jt_k hJ.2.2.1 q2.2.1 q2.2.2.1, jw_k hJ.2.2.2.1 q2.2.2.1, jx_k hJ.2.2.2.2 q2.2.2.2⟩⟩⟩)
def lw_r961 : List (Nat × am_R) := [(961, (.aload_n 2, 962, 0, 0, 0, 0)), (962, (.invokevirtual 118, 965, 271, 0, 320, 11)), (965, (.pop, 966, 0, 0, 0, 0)), (966, (.goto 547, 969, 1513, 0, 0, 0))]
theorem lw_o961 : lw_r961.all (fun q => am_okB false "MistCantonLaw" code q.1 q.2) = true := am_wk_all 960 (by decide +kernel)
theorem lw_t961 {i : Nat} {h : am_H} (hJ : lw_J i h) (hL : i + 7 ≤ h.2.2.2.1) (hb : h.2.2.2.1 ≤ 4096) : lw_S lw_r961 (lw_J (i + 7)) i 1513 961 (lw_lv i) [] h := by
  have hI := hJ.1
  refine am_goX 2 (show am_rc h 154 11 ∧ 0 ≤ 8 ∧ h.2.2.2.2 + am_al 271 ≤ 175 ∧ am_call am_cod 60 271 [.ref 154] h (fun v h' => lw_S lw_r961 (lw_J (i + 7)) i 1513 965 (lw_lv i) (v.toList ++ []) h') from ⟨lw_rc154 hI, Nat.zero_le _, lw_lim hI rfl, am_call.mono (fun v h' q => ?_) (lw_k0 (iv_m271 (vs := []) trivial hI))⟩)
  obtain ⟨q1, ⟨x, rfl⟩, q2⟩ := q
  exact am_goX 2 (show (Value.int x).category = 1 ∧ lw_S lw_r961 (lw_J (i + 7)) i 1513 1513 (lw_lv i) [] h' from ⟨rfl, am_xexit ⟨rfl, rfl, rfl, lw_upJ ⟨q1, q2.1.trans (hJ.2.1.trans q2.2.1.symm), jt_k hJ.2.2.1 q2.2.1 q2.2.2.1, jw_k hJ.2.2.2.1 q2.2.2.1, jx_k hJ.2.2.2.2 q2.2.2.2⟩⟩⟩)
def lw_r969 : List (Nat × am_R) := [(969, (.aload_n 1, 970, 0, 0, 0, 0)), (970, (.invokevirtual 119, 973, 154, 0, 198, 10)), (973, (.pop, 974, 0, 0, 0, 0))]
theorem lw_o969 : lw_r969.all (fun q => am_okB false "MistCantonLaw" code q.1 q.2) = true := am_wk_all 968 (by decide +kernel)
theorem lw_t969 {i : Nat} {h : am_H} (hJ : lw_J i h) (hL : i + 7 ≤ h.2.2.2.1) (hb : h.2.2.2.1 ≤ 4096) : lw_S lw_r969 (lw_J i) i 974 969 (lw_lv i) [] h := by
  have hI := hJ.1
  refine am_goX 2 (show am_rc h 0 10 ∧ 0 ≤ 8 ∧ h.2.2.2.2 + am_al 154 ≤ 175 ∧ am_call am_cod 60 154 [.ref 0] h (fun v h' => lw_S lw_r969 (lw_J i) i 974 973 (lw_lv i) (v.toList ++ []) h') from ⟨lw_rc0 hI, Nat.zero_le _, lw_lim hI rfl, am_call.mono (fun v h' q => ?_) (lw_k0 (iv_m154 (vs := []) trivial hI))⟩)
  obtain ⟨q1, ⟨x, rfl⟩, q2⟩ := q
  exact am_goX 1 (show (Value.int x).category = 1 ∧ lw_S lw_r969 (lw_J i) i 974 974 (lw_lv i) [] h' from ⟨rfl, am_xexit ⟨rfl, rfl, rfl, ⟨q1, q2.1.trans (hJ.2.1.trans q2.2.1.symm), jt_k hJ.2.2.1 q2.2.1 q2.2.2.1, jw_k hJ.2.2.2.1 q2.2.2.1, jx_k hJ.2.2.2.2 q2.2.2.2⟩⟩⟩)
def lw_r974 : List (Nat × am_R) := [(974, (.aload_n 2, 975, 0, 0, 0, 0)), (975, (.invokevirtual 122, 978, 274, 0, 323, 11)), (978, (.pop, 979, 0, 0, 0, 0)), (979, (.goto 534, 982, 1513, 0, 0, 0))]
theorem lw_o974 : lw_r974.all (fun q => am_okB false "MistCantonLaw" code q.1 q.2) = true := am_wk_all 972 (by decide +kernel)
theorem lw_t974 {i : Nat} {h : am_H} (hJ : lw_J i h) (hL : i + 7 ≤ h.2.2.2.1) (hb : h.2.2.2.1 ≤ 4096) : lw_S lw_r974 (lw_J (i + 7)) i 1513 974 (lw_lv i) [] h := by
  have hI := hJ.1
  refine am_goX 2 (show am_rc h 154 11 ∧ 0 ≤ 8 ∧ h.2.2.2.2 + am_al 274 ≤ 175 ∧ am_call am_cod 60 274 [.ref 154] h (fun v h' => lw_S lw_r974 (lw_J (i + 7)) i 1513 978 (lw_lv i) (v.toList ++ []) h') from ⟨lw_rc154 hI, Nat.zero_le _, lw_lim hI rfl, am_call.mono (fun v h' q => ?_) (lw_k0 (iv_m274 (vs := []) trivial hI))⟩)
  obtain ⟨q1, ⟨x, rfl⟩, q2⟩ := q
  exact am_goX 2 (show (Value.int x).category = 1 ∧ lw_S lw_r974 (lw_J (i + 7)) i 1513 1513 (lw_lv i) [] h' from ⟨rfl, am_xexit ⟨rfl, rfl, rfl, lw_upJ ⟨q1, q2.1.trans (hJ.2.1.trans q2.2.1.symm), jt_k hJ.2.2.1 q2.2.1 q2.2.2.1, jw_k hJ.2.2.2.1 q2.2.2.1, jx_k hJ.2.2.2.2 q2.2.2.2⟩⟩⟩)
def lw_r982 : List (Nat × am_R) := [(982, (.aload_n 1, 983, 0, 0, 0, 0)), (983, (.aload_n 0, 984, 0, 0, 0, 0)), (984, (.iload 4, 986, 0, 0, 0, 0)), (986, (.iconst 1, 987, 0, 0, 0, 0)), (987, (.iadd, 988, 0, 0, 0, 0)), (988, (.iaload, 989, 0, 0, 0, 0)), (989, (.invokevirtual 123, 992, 147, 1, 189, 10)), (992, (.pop, 993, 0, 0, 0, 0))]
theorem lw_o982 : lw_r982.all (fun q => am_okB false "MistCantonLaw" code q.1 q.2) = true := am_wk_all 980 (by decide +kernel)
theorem lw_t982 {i : Nat} {h : am_H} (hJ : lw_J i h) (hL : i + 7 ≤ h.2.2.2.1) (hb : h.2.2.2.1 ≤ 4096) : lw_S lw_r982 (lw_J i) i 993 982 (lw_lv i) [] h := by
  have hI := hJ.1
  refine am_goX 6 (show ∃ j n : Nat, am_sh h 3000000 = some (13, n) ∧ j < n ∧ (nI i) + (Int32.ofInt 1) = nI j ∧ lw_S lw_r982 (lw_J i) i 993 989 (lw_lv i) [.int (h.1 3000000 j), .ref 0] h from ⟨i + 1, h.2.2.2.1, rfl, by omega, lw_x1 i, ?_⟩)
  generalize h.1 3000000 (i + 1) = x1
  refine am_goX 1 (show am_rc h 0 10 ∧ 0 ≤ 8 ∧ h.2.2.2.2 + am_al 147 ≤ 175 ∧ am_call am_cod 60 147 [.ref 0, .int x1] h (fun v h' => lw_S lw_r982 (lw_J i) i 993 992 (lw_lv i) (v.toList ++ []) h') from ⟨lw_rc0 hI, Nat.zero_le _, lw_lim hI rfl, am_call.mono (fun v h' q => ?_) (lw_k1 (iv_m147 (vs := [(x1).toInt]) ⟨lw_ir _, trivial⟩ hI))⟩)
  obtain ⟨q1, ⟨x, rfl⟩, q2⟩ := q
  exact am_goX 1 (show (Value.int x).category = 1 ∧ lw_S lw_r982 (lw_J i) i 993 993 (lw_lv i) [] h' from ⟨rfl, am_xexit ⟨rfl, rfl, rfl, ⟨q1, q2.1.trans (hJ.2.1.trans q2.2.1.symm), jt_k hJ.2.2.1 q2.2.1 q2.2.2.1, jw_k hJ.2.2.2.1 q2.2.2.1, jx_k hJ.2.2.2.2 q2.2.2.2⟩⟩⟩)
def lw_r993 : List (Nat × am_R) := [(993, (.aload_n 2, 994, 0, 0, 0, 0)), (994, (.aload_n 0, 995, 0, 0, 0, 0)), (995, (.iload 4, 997, 0, 0, 0, 0)), (997, (.iconst 1, 998, 0, 0, 0, 0)), (998, (.iadd, 999, 0, 0, 0, 0)), (999, (.iaload, 1000, 0, 0, 0, 0)), (1000, (.invokevirtual 126, 1003, 275, 1, 324, 11)), (1003, (.pop, 1004, 0, 0, 0, 0)), (1004, (.goto 509, 1007, 1513, 0, 0, 0))]
theorem lw_o993 : lw_r993.all (fun q => am_okB false "MistCantonLaw" code q.1 q.2) = true := am_wk_all 992 (by decide +kernel)
theorem lw_t993 {i : Nat} {h : am_H} (hJ : lw_J i h) (hL : i + 7 ≤ h.2.2.2.1) (hb : h.2.2.2.1 ≤ 4096) : lw_S lw_r993 (lw_J (i + 7)) i 1513 993 (lw_lv i) [] h := by
  have hI := hJ.1
  refine am_goX 6 (show ∃ j n : Nat, am_sh h 3000000 = some (13, n) ∧ j < n ∧ (nI i) + (Int32.ofInt 1) = nI j ∧ lw_S lw_r993 (lw_J (i + 7)) i 1513 1000 (lw_lv i) [.int (h.1 3000000 j), .ref 154] h from ⟨i + 1, h.2.2.2.1, rfl, by omega, lw_x1 i, ?_⟩)
  generalize h.1 3000000 (i + 1) = x1
  refine am_goX 1 (show am_rc h 154 11 ∧ 0 ≤ 8 ∧ h.2.2.2.2 + am_al 275 ≤ 175 ∧ am_call am_cod 60 275 [.ref 154, .int x1] h (fun v h' => lw_S lw_r993 (lw_J (i + 7)) i 1513 1003 (lw_lv i) (v.toList ++ []) h') from ⟨lw_rc154 hI, Nat.zero_le _, lw_lim hI rfl, am_call.mono (fun v h' q => ?_) (lw_k1 (iv_m275 (vs := [(x1).toInt]) ⟨lw_ir _, trivial⟩ hI))⟩)
  obtain ⟨q1, ⟨x, rfl⟩, q2⟩ := q
  exact am_goX 2 (show (Value.int x).category = 1 ∧ lw_S lw_r993 (lw_J (i + 7)) i 1513 1513 (lw_lv i) [] h' from ⟨rfl, am_xexit ⟨rfl, rfl, rfl, lw_upJ ⟨q1, q2.1.trans (hJ.2.1.trans q2.2.1.symm), jt_k hJ.2.2.1 q2.2.1 q2.2.2.1, jw_k hJ.2.2.2.1 q2.2.2.1, jx_k hJ.2.2.2.2 q2.2.2.2⟩⟩⟩)
def lw_r1007 : List (Nat × am_R) := [(1007, (.aload_n 1, 1008, 0, 0, 0, 0)), (1008, (.invokevirtual 127, 1011, 155, 0, 201, 10)), (1011, (.pop, 1012, 0, 0, 0, 0))]
theorem lw_o1007 : lw_r1007.all (fun q => am_okB false "MistCantonLaw" code q.1 q.2) = true := am_wk_all 1004 (by decide +kernel)
theorem lw_t1007 {i : Nat} {h : am_H} (hJ : lw_J i h) (hL : i + 7 ≤ h.2.2.2.1) (hb : h.2.2.2.1 ≤ 4096) : lw_S lw_r1007 (lw_J i) i 1012 1007 (lw_lv i) [] h := by
  have hI := hJ.1
  refine am_goX 2 (show am_rc h 0 10 ∧ 0 ≤ 8 ∧ h.2.2.2.2 + am_al 155 ≤ 175 ∧ am_call am_cod 60 155 [.ref 0] h (fun v h' => lw_S lw_r1007 (lw_J i) i 1012 1011 (lw_lv i) (v.toList ++ []) h') from ⟨lw_rc0 hI, Nat.zero_le _, lw_lim hI rfl, am_call.mono (fun v h' q => ?_) (lw_k0 (iv_m155 (vs := []) trivial hI))⟩)
  obtain ⟨q1, ⟨x, rfl⟩, q2⟩ := q
  exact am_goX 1 (show (Value.int x).category = 1 ∧ lw_S lw_r1007 (lw_J i) i 1012 1012 (lw_lv i) [] h' from ⟨rfl, am_xexit ⟨rfl, rfl, rfl, ⟨q1, q2.1.trans (hJ.2.1.trans q2.2.1.symm), jt_k hJ.2.2.1 q2.2.1 q2.2.2.1, jw_k hJ.2.2.2.1 q2.2.2.1, jx_k hJ.2.2.2.2 q2.2.2.2⟩⟩⟩)
def lw_r1012 : List (Nat × am_R) := [(1012, (.aload_n 2, 1013, 0, 0, 0, 0)), (1013, (.invokevirtual 130, 1016, 276, 0, 325, 11)), (1016, (.pop, 1017, 0, 0, 0, 0)), (1017, (.goto 496, 1020, 1513, 0, 0, 0))]
theorem lw_o1012 : lw_r1012.all (fun q => am_okB false "MistCantonLaw" code q.1 q.2) = true := am_wk_all 1012 (by decide +kernel)
theorem lw_t1012 {i : Nat} {h : am_H} (hJ : lw_J i h) (hL : i + 7 ≤ h.2.2.2.1) (hb : h.2.2.2.1 ≤ 4096) : lw_S lw_r1012 (lw_J (i + 7)) i 1513 1012 (lw_lv i) [] h := by
  have hI := hJ.1
  refine am_goX 2 (show am_rc h 154 11 ∧ 0 ≤ 8 ∧ h.2.2.2.2 + am_al 276 ≤ 175 ∧ am_call am_cod 60 276 [.ref 154] h (fun v h' => lw_S lw_r1012 (lw_J (i + 7)) i 1513 1016 (lw_lv i) (v.toList ++ []) h') from ⟨lw_rc154 hI, Nat.zero_le _, lw_lim hI rfl, am_call.mono (fun v h' q => ?_) (lw_k0 (iv_m276 (vs := []) trivial hI))⟩)
  obtain ⟨q1, ⟨x, rfl⟩, q2⟩ := q
  exact am_goX 2 (show (Value.int x).category = 1 ∧ lw_S lw_r1012 (lw_J (i + 7)) i 1513 1513 (lw_lv i) [] h' from ⟨rfl, am_xexit ⟨rfl, rfl, rfl, lw_upJ ⟨q1, q2.1.trans (hJ.2.1.trans q2.2.1.symm), jt_k hJ.2.2.1 q2.2.1 q2.2.2.1, jw_k hJ.2.2.2.1 q2.2.2.1, jx_k hJ.2.2.2.2 q2.2.2.2⟩⟩⟩)
def lw_r1020 : List (Nat × am_R) := [(1020, (.aload_n 1, 1021, 0, 0, 0, 0)), (1021, (.invokevirtual 131, 1024, 156, 0, 202, 10)), (1024, (.pop, 1025, 0, 0, 0, 0))]
theorem lw_o1020 : lw_r1020.all (fun q => am_okB false "MistCantonLaw" code q.1 q.2) = true := am_wk_all 1020 (by decide +kernel)
theorem lw_t1020 {i : Nat} {h : am_H} (hJ : lw_J i h) (hL : i + 7 ≤ h.2.2.2.1) (hb : h.2.2.2.1 ≤ 4096) : lw_S lw_r1020 (lw_J i) i 1025 1020 (lw_lv i) [] h := by
  have hI := hJ.1
  refine am_goX 2 (show am_rc h 0 10 ∧ 0 ≤ 8 ∧ h.2.2.2.2 + am_al 156 ≤ 175 ∧ am_call am_cod 60 156 [.ref 0] h (fun v h' => lw_S lw_r1020 (lw_J i) i 1025 1024 (lw_lv i) (v.toList ++ []) h') from ⟨lw_rc0 hI, Nat.zero_le _, lw_lim hI rfl, am_call.mono (fun v h' q => ?_) (lw_k0 (iv_m156 (vs := []) trivial hI))⟩)
  obtain ⟨q1, ⟨x, rfl⟩, q2⟩ := q
  exact am_goX 1 (show (Value.int x).category = 1 ∧ lw_S lw_r1020 (lw_J i) i 1025 1025 (lw_lv i) [] h' from ⟨rfl, am_xexit ⟨rfl, rfl, rfl, ⟨q1, q2.1.trans (hJ.2.1.trans q2.2.1.symm), jt_k hJ.2.2.1 q2.2.1 q2.2.2.1, jw_k hJ.2.2.2.1 q2.2.2.1, jx_k hJ.2.2.2.2 q2.2.2.2⟩⟩⟩)
def lw_r1025 : List (Nat × am_R) := [(1025, (.aload_n 2, 1026, 0, 0, 0, 0)), (1026, (.invokevirtual 134, 1029, 277, 0, 326, 11)), (1029, (.pop, 1030, 0, 0, 0, 0)), (1030, (.goto 483, 1033, 1513, 0, 0, 0))]
theorem lw_o1025 : lw_r1025.all (fun q => am_okB false "MistCantonLaw" code q.1 q.2) = true := am_wk_all 1024 (by decide +kernel)
theorem lw_t1025 {i : Nat} {h : am_H} (hJ : lw_J i h) (hL : i + 7 ≤ h.2.2.2.1) (hb : h.2.2.2.1 ≤ 4096) : lw_S lw_r1025 (lw_J (i + 7)) i 1513 1025 (lw_lv i) [] h := by
  have hI := hJ.1
  refine am_goX 2 (show am_rc h 154 11 ∧ 0 ≤ 8 ∧ h.2.2.2.2 + am_al 277 ≤ 175 ∧ am_call am_cod 60 277 [.ref 154] h (fun v h' => lw_S lw_r1025 (lw_J (i + 7)) i 1513 1029 (lw_lv i) (v.toList ++ []) h') from ⟨lw_rc154 hI, Nat.zero_le _, lw_lim hI rfl, am_call.mono (fun v h' q => ?_) (lw_k0 (iv_m277 (vs := []) trivial hI))⟩)
  obtain ⟨q1, ⟨x, rfl⟩, q2⟩ := q
  exact am_goX 2 (show (Value.int x).category = 1 ∧ lw_S lw_r1025 (lw_J (i + 7)) i 1513 1513 (lw_lv i) [] h' from ⟨rfl, am_xexit ⟨rfl, rfl, rfl, lw_upJ ⟨q1, q2.1.trans (hJ.2.1.trans q2.2.1.symm), jt_k hJ.2.2.1 q2.2.1 q2.2.2.1, jw_k hJ.2.2.2.1 q2.2.2.1, jx_k hJ.2.2.2.2 q2.2.2.2⟩⟩⟩)
def lw_r1033 : List (Nat × am_R) := [(1033, (.aload_n 1, 1034, 0, 0, 0, 0)), (1034, (.aload_n 0, 1035, 0, 0, 0, 0)), (1035, (.iload 4, 1037, 0, 0, 0, 0)), (1037, (.iconst 1, 1038, 0, 0, 0, 0)), (1038, (.iadd, 1039, 0, 0, 0, 0)), (1039, (.iaload, 1040, 0, 0, 0, 0)), (1040, (.invokevirtual 135, 1043, 129, 1, 168, 10)), (1043, (.pop, 1044, 0, 0, 0, 0))]
theorem lw_o1033 : lw_r1033.all (fun q => am_okB false "MistCantonLaw" code q.1 q.2) = true := am_wk_all 1032 (by decide +kernel)
theorem lw_t1033 {i : Nat} {h : am_H} (hJ : lw_J i h) (hL : i + 7 ≤ h.2.2.2.1) (hb : h.2.2.2.1 ≤ 4096) : lw_S lw_r1033 (lw_J i) i 1044 1033 (lw_lv i) [] h := by
  have hI := hJ.1
  refine am_goX 6 (show ∃ j n : Nat, am_sh h 3000000 = some (13, n) ∧ j < n ∧ (nI i) + (Int32.ofInt 1) = nI j ∧ lw_S lw_r1033 (lw_J i) i 1044 1040 (lw_lv i) [.int (h.1 3000000 j), .ref 0] h from ⟨i + 1, h.2.2.2.1, rfl, by omega, lw_x1 i, ?_⟩)
  generalize h.1 3000000 (i + 1) = x1
  refine am_goX 1 (show am_rc h 0 10 ∧ 0 ≤ 8 ∧ h.2.2.2.2 + am_al 129 ≤ 175 ∧ am_call am_cod 60 129 [.ref 0, .int x1] h (fun v h' => lw_S lw_r1033 (lw_J i) i 1044 1043 (lw_lv i) (v.toList ++ []) h') from ⟨lw_rc0 hI, Nat.zero_le _, lw_lim hI rfl, am_call.mono (fun v h' q => ?_) (lw_k1 (iv_m129 (vs := [(x1).toInt]) ⟨lw_ir _, trivial⟩ hI))⟩)
  obtain ⟨q1, ⟨x, rfl⟩, q2⟩ := q
  exact am_goX 1 (show (Value.int x).category = 1 ∧ lw_S lw_r1033 (lw_J i) i 1044 1044 (lw_lv i) [] h' from ⟨rfl, am_xexit ⟨rfl, rfl, rfl, ⟨q1, q2.1.trans (hJ.2.1.trans q2.2.1.symm), jt_k hJ.2.2.1 q2.2.1 q2.2.2.1, jw_k hJ.2.2.2.1 q2.2.2.1, jx_k hJ.2.2.2.2 q2.2.2.2⟩⟩⟩)
def lw_r1044 : List (Nat × am_R) := [(1044, (.aload_n 2, 1045, 0, 0, 0, 0)), (1045, (.aload_n 0, 1046, 0, 0, 0, 0)), (1046, (.iload 4, 1048, 0, 0, 0, 0)), (1048, (.iconst 1, 1049, 0, 0, 0, 0)), (1049, (.iadd, 1050, 0, 0, 0, 0)), (1050, (.iaload, 1051, 0, 0, 0, 0)), (1051, (.invokevirtual 138, 1054, 255, 1, 304, 11)), (1054, (.pop, 1055, 0, 0, 0, 0)), (1055, (.goto 458, 1058, 1513, 0, 0, 0))]
theorem lw_o1044 : lw_r1044.all (fun q => am_okB false "MistCantonLaw" code q.1 q.2) = true := am_wk_all 1044 (by decide +kernel)
theorem lw_t1044 {i : Nat} {h : am_H} (hJ : lw_J i h) (hL : i + 7 ≤ h.2.2.2.1) (hb : h.2.2.2.1 ≤ 4096) : lw_S lw_r1044 (lw_J (i + 7)) i 1513 1044 (lw_lv i) [] h := by
  have hI := hJ.1
  refine am_goX 6 (show ∃ j n : Nat, am_sh h 3000000 = some (13, n) ∧ j < n ∧ (nI i) + (Int32.ofInt 1) = nI j ∧ lw_S lw_r1044 (lw_J (i + 7)) i 1513 1051 (lw_lv i) [.int (h.1 3000000 j), .ref 154] h from ⟨i + 1, h.2.2.2.1, rfl, by omega, lw_x1 i, ?_⟩)
  generalize h.1 3000000 (i + 1) = x1
  refine am_goX 1 (show am_rc h 154 11 ∧ 0 ≤ 8 ∧ h.2.2.2.2 + am_al 255 ≤ 175 ∧ am_call am_cod 60 255 [.ref 154, .int x1] h (fun v h' => lw_S lw_r1044 (lw_J (i + 7)) i 1513 1054 (lw_lv i) (v.toList ++ []) h') from ⟨lw_rc154 hI, Nat.zero_le _, lw_lim hI rfl, am_call.mono (fun v h' q => ?_) (lw_k1 (iv_m255 (vs := [(x1).toInt]) ⟨lw_ir _, trivial⟩ hI))⟩)
  obtain ⟨q1, ⟨x, rfl⟩, q2⟩ := q
  exact am_goX 2 (show (Value.int x).category = 1 ∧ lw_S lw_r1044 (lw_J (i + 7)) i 1513 1513 (lw_lv i) [] h' from ⟨rfl, am_xexit ⟨rfl, rfl, rfl, lw_upJ ⟨q1, q2.1.trans (hJ.2.1.trans q2.2.1.symm), jt_k hJ.2.2.1 q2.2.1 q2.2.2.1, jw_k hJ.2.2.2.1 q2.2.2.1, jx_k hJ.2.2.2.2 q2.2.2.2⟩⟩⟩)
def lw_r1058 : List (Nat × am_R) := [(1058, (.aload_n 1, 1059, 0, 0, 0, 0)), (1059, (.aload_n 0, 1060, 0, 0, 0, 0)), (1060, (.iload 4, 1062, 0, 0, 0, 0)), (1062, (.iconst 1, 1063, 0, 0, 0, 0)), (1063, (.iadd, 1064, 0, 0, 0, 0)), (1064, (.iaload, 1065, 0, 0, 0, 0)), (1065, (.aload_n 0, 1066, 0, 0, 0, 0)), (1066, (.iload 4, 1068, 0, 0, 0, 0)), (1068, (.iconst 2, 1069, 0, 0, 0, 0)), (1069, (.iadd, 1070, 0, 0, 0, 0)), (1070, (.iaload, 1071, 0, 0, 0, 0)), (1071, (.invokevirtual 139, 1074, 160, 2, 206, 10)), (1074, (.pop, 1075, 0, 0, 0, 0))]
theorem lw_o1058 : lw_r1058.all (fun q => am_okB false "MistCantonLaw" code q.1 q.2) = true := am_wk_all 1056 (by decide +kernel)
theorem lw_t1058 {i : Nat} {h : am_H} (hJ : lw_J i h) (hL : i + 7 ≤ h.2.2.2.1) (hb : h.2.2.2.1 ≤ 4096) : lw_S lw_r1058 (lw_J i) i 1075 1058 (lw_lv i) [] h := by
  have hI := hJ.1
  refine am_goX 6 (show ∃ j n : Nat, am_sh h 3000000 = some (13, n) ∧ j < n ∧ (nI i) + (Int32.ofInt 1) = nI j ∧ lw_S lw_r1058 (lw_J i) i 1075 1065 (lw_lv i) [.int (h.1 3000000 j), .ref 0] h from ⟨i + 1, h.2.2.2.1, rfl, by omega, lw_x1 i, ?_⟩)
  generalize h.1 3000000 (i + 1) = x1
  refine am_goX 5 (show ∃ j n : Nat, am_sh h 3000000 = some (13, n) ∧ j < n ∧ (nI i) + (Int32.ofInt 2) = nI j ∧ lw_S lw_r1058 (lw_J i) i 1075 1071 (lw_lv i) [.int (h.1 3000000 j), .int x1, .ref 0] h from ⟨i + 2, h.2.2.2.1, rfl, by omega, lw_x2 i, ?_⟩)
  generalize h.1 3000000 (i + 2) = x2
  refine am_goX 1 (show am_rc h 0 10 ∧ 0 ≤ 8 ∧ h.2.2.2.2 + am_al 160 ≤ 175 ∧ am_call am_cod 60 160 [.ref 0, .int x1, .int x2] h (fun v h' => lw_S lw_r1058 (lw_J i) i 1075 1074 (lw_lv i) (v.toList ++ []) h') from ⟨lw_rc0 hI, Nat.zero_le _, lw_lim hI rfl, am_call.mono (fun v h' q => ?_) (lw_k2 (iv_m160 (vs := [(x1).toInt, (x2).toInt]) ⟨lw_ir _, ⟨lw_ir _, trivial⟩⟩ hI))⟩)
  obtain ⟨q1, ⟨x, rfl⟩, q2⟩ := q
  exact am_goX 1 (show (Value.int x).category = 1 ∧ lw_S lw_r1058 (lw_J i) i 1075 1075 (lw_lv i) [] h' from ⟨rfl, am_xexit ⟨rfl, rfl, rfl, ⟨q1, q2.1.trans (hJ.2.1.trans q2.2.1.symm), jt_k hJ.2.2.1 q2.2.1 q2.2.2.1, jw_k hJ.2.2.2.1 q2.2.2.1, jx_k hJ.2.2.2.2 q2.2.2.2⟩⟩⟩)
def lw_r1075 : List (Nat × am_R) := [(1075, (.aload_n 2, 1076, 0, 0, 0, 0)), (1076, (.aload_n 0, 1077, 0, 0, 0, 0)), (1077, (.iload 4, 1079, 0, 0, 0, 0)), (1079, (.iconst 1, 1080, 0, 0, 0, 0)), (1080, (.iadd, 1081, 0, 0, 0, 0)), (1081, (.iaload, 1082, 0, 0, 0, 0)), (1082, (.aload_n 0, 1083, 0, 0, 0, 0)), (1083, (.iload 4, 1085, 0, 0, 0, 0)), (1085, (.iconst 2, 1086, 0, 0, 0, 0)), (1086, (.iadd, 1087, 0, 0, 0, 0)), (1087, (.iaload, 1088, 0, 0, 0, 0)), (1088, (.invokevirtual 142, 1091, 279, 2, 328, 11)), (1091, (.pop, 1092, 0, 0, 0, 0)), (1092, (.goto 421, 1095, 1513, 0, 0, 0))]
theorem lw_o1075 : lw_r1075.all (fun q => am_okB false "MistCantonLaw" code q.1 q.2) = true := am_wk_all 1072 (by decide +kernel)
theorem lw_t1075 {i : Nat} {h : am_H} (hJ : lw_J i h) (hL : i + 7 ≤ h.2.2.2.1) (hb : h.2.2.2.1 ≤ 4096) : lw_S lw_r1075 (lw_J (i + 7)) i 1513 1075 (lw_lv i) [] h := by
  have hI := hJ.1
  refine am_goX 6 (show ∃ j n : Nat, am_sh h 3000000 = some (13, n) ∧ j < n ∧ (nI i) + (Int32.ofInt 1) = nI j ∧ lw_S lw_r1075 (lw_J (i + 7)) i 1513 1082 (lw_lv i) [.int (h.1 3000000 j), .ref 154] h from ⟨i + 1, h.2.2.2.1, rfl, by omega, lw_x1 i, ?_⟩)
  generalize h.1 3000000 (i + 1) = x1
  refine am_goX 5 (show ∃ j n : Nat, am_sh h 3000000 = some (13, n) ∧ j < n ∧ (nI i) + (Int32.ofInt 2) = nI j ∧ lw_S lw_r1075 (lw_J (i + 7)) i 1513 1088 (lw_lv i) [.int (h.1 3000000 j), .int x1, .ref 154] h from ⟨i + 2, h.2.2.2.1, rfl, by omega, lw_x2 i, ?_⟩)
  generalize h.1 3000000 (i + 2) = x2
  refine am_goX 1 (show am_rc h 154 11 ∧ 0 ≤ 8 ∧ h.2.2.2.2 + am_al 279 ≤ 175 ∧ am_call am_cod 60 279 [.ref 154, .int x1, .int x2] h (fun v h' => lw_S lw_r1075 (lw_J (i + 7)) i 1513 1091 (lw_lv i) (v.toList ++ []) h') from ⟨lw_rc154 hI, Nat.zero_le _, lw_lim hI rfl, am_call.mono (fun v h' q => ?_) (lw_k2 (iv_m279 (vs := [(x1).toInt, (x2).toInt]) ⟨lw_ir _, ⟨lw_ir _, trivial⟩⟩ hI))⟩)
  obtain ⟨q1, ⟨x, rfl⟩, q2⟩ := q
  exact am_goX 2 (show (Value.int x).category = 1 ∧ lw_S lw_r1075 (lw_J (i + 7)) i 1513 1513 (lw_lv i) [] h' from ⟨rfl, am_xexit ⟨rfl, rfl, rfl, lw_upJ ⟨q1, q2.1.trans (hJ.2.1.trans q2.2.1.symm), jt_k hJ.2.2.1 q2.2.1 q2.2.2.1, jw_k hJ.2.2.2.1 q2.2.2.1, jx_k hJ.2.2.2.2 q2.2.2.2⟩⟩⟩)
def lw_r1095 : List (Nat × am_R) := [(1095, (.aload_n 1, 1096, 0, 0, 0, 0)), (1096, (.invokevirtual 143, 1099, 162, 0, 208, 10)), (1099, (.pop, 1100, 0, 0, 0, 0))]
theorem lw_o1095 : lw_r1095.all (fun q => am_okB false "MistCantonLaw" code q.1 q.2) = true := am_wk_all 1092 (by decide +kernel)
theorem lw_t1095 {i : Nat} {h : am_H} (hJ : lw_J i h) (hL : i + 7 ≤ h.2.2.2.1) (hb : h.2.2.2.1 ≤ 4096) : lw_S lw_r1095 (lw_J i) i 1100 1095 (lw_lv i) [] h := by
  have hI := hJ.1
  refine am_goX 2 (show am_rc h 0 10 ∧ 0 ≤ 8 ∧ h.2.2.2.2 + am_al 162 ≤ 175 ∧ am_call am_cod 60 162 [.ref 0] h (fun v h' => lw_S lw_r1095 (lw_J i) i 1100 1099 (lw_lv i) (v.toList ++ []) h') from ⟨lw_rc0 hI, Nat.zero_le _, lw_lim hI rfl, am_call.mono (fun v h' q => ?_) (lw_k0 (iv_m162 (vs := []) trivial hI))⟩)
  obtain ⟨q1, ⟨x, rfl⟩, q2⟩ := q
  exact am_goX 1 (show (Value.int x).category = 1 ∧ lw_S lw_r1095 (lw_J i) i 1100 1100 (lw_lv i) [] h' from ⟨rfl, am_xexit ⟨rfl, rfl, rfl, ⟨q1, q2.1.trans (hJ.2.1.trans q2.2.1.symm), jt_k hJ.2.2.1 q2.2.1 q2.2.2.1, jw_k hJ.2.2.2.1 q2.2.2.1, jx_k hJ.2.2.2.2 q2.2.2.2⟩⟩⟩)
def lw_r1100 : List (Nat × am_R) := [(1100, (.aload_n 2, 1101, 0, 0, 0, 0)), (1101, (.invokevirtual 146, 1104, 281, 0, 330, 11)), (1104, (.pop, 1105, 0, 0, 0, 0)), (1105, (.goto 408, 1108, 1513, 0, 0, 0))]
theorem lw_o1100 : lw_r1100.all (fun q => am_okB false "MistCantonLaw" code q.1 q.2) = true := am_wk_all 1100 (by decide +kernel)
theorem lw_t1100 {i : Nat} {h : am_H} (hJ : lw_J i h) (hL : i + 7 ≤ h.2.2.2.1) (hb : h.2.2.2.1 ≤ 4096) : lw_S lw_r1100 (lw_J (i + 7)) i 1513 1100 (lw_lv i) [] h := by
  have hI := hJ.1
  refine am_goX 2 (show am_rc h 154 11 ∧ 0 ≤ 8 ∧ h.2.2.2.2 + am_al 281 ≤ 175 ∧ am_call am_cod 60 281 [.ref 154] h (fun v h' => lw_S lw_r1100 (lw_J (i + 7)) i 1513 1104 (lw_lv i) (v.toList ++ []) h') from ⟨lw_rc154 hI, Nat.zero_le _, lw_lim hI rfl, am_call.mono (fun v h' q => ?_) (lw_k0 (iv_m281 (vs := []) trivial hI))⟩)
  obtain ⟨q1, ⟨x, rfl⟩, q2⟩ := q
  exact am_goX 2 (show (Value.int x).category = 1 ∧ lw_S lw_r1100 (lw_J (i + 7)) i 1513 1513 (lw_lv i) [] h' from ⟨rfl, am_xexit ⟨rfl, rfl, rfl, lw_upJ ⟨q1, q2.1.trans (hJ.2.1.trans q2.2.1.symm), jt_k hJ.2.2.1 q2.2.1 q2.2.2.1, jw_k hJ.2.2.2.1 q2.2.2.1, jx_k hJ.2.2.2.2 q2.2.2.2⟩⟩⟩)
def lw_r1108 : List (Nat × am_R) := [(1108, (.aload_n 1, 1109, 0, 0, 0, 0)), (1109, (.invokevirtual 147, 1112, 163, 0, 209, 10)), (1112, (.pop, 1113, 0, 0, 0, 0))]
theorem lw_o1108 : lw_r1108.all (fun q => am_okB false "MistCantonLaw" code q.1 q.2) = true := am_wk_all 1108 (by decide +kernel)
theorem lw_t1108 {i : Nat} {h : am_H} (hJ : lw_J i h) (hL : i + 7 ≤ h.2.2.2.1) (hb : h.2.2.2.1 ≤ 4096) : lw_S lw_r1108 (lw_J i) i 1113 1108 (lw_lv i) [] h := by
  have hI := hJ.1
  refine am_goX 2 (show am_rc h 0 10 ∧ 0 ≤ 8 ∧ h.2.2.2.2 + am_al 163 ≤ 175 ∧ am_call am_cod 60 163 [.ref 0] h (fun v h' => lw_S lw_r1108 (lw_J i) i 1113 1112 (lw_lv i) (v.toList ++ []) h') from ⟨lw_rc0 hI, Nat.zero_le _, lw_lim hI rfl, am_call.mono (fun v h' q => ?_) (lw_k0 (iv_m163 (vs := []) trivial hI))⟩)
  obtain ⟨q1, ⟨x, rfl⟩, q2⟩ := q
  exact am_goX 1 (show (Value.int x).category = 1 ∧ lw_S lw_r1108 (lw_J i) i 1113 1113 (lw_lv i) [] h' from ⟨rfl, am_xexit ⟨rfl, rfl, rfl, ⟨q1, q2.1.trans (hJ.2.1.trans q2.2.1.symm), jt_k hJ.2.2.1 q2.2.1 q2.2.2.1, jw_k hJ.2.2.2.1 q2.2.2.1, jx_k hJ.2.2.2.2 q2.2.2.2⟩⟩⟩)
def lw_r1113 : List (Nat × am_R) := [(1113, (.aload_n 2, 1114, 0, 0, 0, 0)), (1114, (.invokevirtual 150, 1117, 282, 0, 331, 11)), (1117, (.pop, 1118, 0, 0, 0, 0)), (1118, (.goto 395, 1121, 1513, 0, 0, 0))]
theorem lw_o1113 : lw_r1113.all (fun q => am_okB false "MistCantonLaw" code q.1 q.2) = true := am_wk_all 1112 (by decide +kernel)
theorem lw_t1113 {i : Nat} {h : am_H} (hJ : lw_J i h) (hL : i + 7 ≤ h.2.2.2.1) (hb : h.2.2.2.1 ≤ 4096) : lw_S lw_r1113 (lw_J (i + 7)) i 1513 1113 (lw_lv i) [] h := by
  have hI := hJ.1
  refine am_goX 2 (show am_rc h 154 11 ∧ 0 ≤ 8 ∧ h.2.2.2.2 + am_al 282 ≤ 175 ∧ am_call am_cod 60 282 [.ref 154] h (fun v h' => lw_S lw_r1113 (lw_J (i + 7)) i 1513 1117 (lw_lv i) (v.toList ++ []) h') from ⟨lw_rc154 hI, Nat.zero_le _, lw_lim hI rfl, am_call.mono (fun v h' q => ?_) (lw_k0 (iv_m282 (vs := []) trivial hI))⟩)
  obtain ⟨q1, ⟨x, rfl⟩, q2⟩ := q
  exact am_goX 2 (show (Value.int x).category = 1 ∧ lw_S lw_r1113 (lw_J (i + 7)) i 1513 1513 (lw_lv i) [] h' from ⟨rfl, am_xexit ⟨rfl, rfl, rfl, lw_upJ ⟨q1, q2.1.trans (hJ.2.1.trans q2.2.1.symm), jt_k hJ.2.2.1 q2.2.1 q2.2.2.1, jw_k hJ.2.2.2.1 q2.2.2.1, jx_k hJ.2.2.2.2 q2.2.2.2⟩⟩⟩)
def lw_r1121 : List (Nat × am_R) := [(1121, (.aload_n 1, 1122, 0, 0, 0, 0)), (1122, (.invokevirtual 151, 1125, 166, 0, 212, 10)), (1125, (.pop, 1126, 0, 0, 0, 0))]
theorem lw_o1121 : lw_r1121.all (fun q => am_okB false "MistCantonLaw" code q.1 q.2) = true := am_wk_all 1120 (by decide +kernel)
theorem lw_t1121 {i : Nat} {h : am_H} (hJ : lw_J i h) (hL : i + 7 ≤ h.2.2.2.1) (hb : h.2.2.2.1 ≤ 4096) : lw_S lw_r1121 (lw_J i) i 1126 1121 (lw_lv i) [] h := by
  have hI := hJ.1
  refine am_goX 2 (show am_rc h 0 10 ∧ 0 ≤ 8 ∧ h.2.2.2.2 + am_al 166 ≤ 175 ∧ am_call am_cod 60 166 [.ref 0] h (fun v h' => lw_S lw_r1121 (lw_J i) i 1126 1125 (lw_lv i) (v.toList ++ []) h') from ⟨lw_rc0 hI, Nat.zero_le _, lw_lim hI rfl, am_call.mono (fun v h' q => ?_) (lw_k0 (iv_m166 (vs := []) trivial hI))⟩)
  obtain ⟨q1, ⟨x, rfl⟩, q2⟩ := q
  exact am_goX 1 (show (Value.int x).category = 1 ∧ lw_S lw_r1121 (lw_J i) i 1126 1126 (lw_lv i) [] h' from ⟨rfl, am_xexit ⟨rfl, rfl, rfl, ⟨q1, q2.1.trans (hJ.2.1.trans q2.2.1.symm), jt_k hJ.2.2.1 q2.2.1 q2.2.2.1, jw_k hJ.2.2.2.1 q2.2.2.1, jx_k hJ.2.2.2.2 q2.2.2.2⟩⟩⟩)
def lw_r1126 : List (Nat × am_R) := [(1126, (.aload_n 2, 1127, 0, 0, 0, 0)), (1127, (.invokevirtual 154, 1130, 283, 0, 332, 11)), (1130, (.pop, 1131, 0, 0, 0, 0)), (1131, (.goto 382, 1134, 1513, 0, 0, 0))]
theorem lw_o1126 : lw_r1126.all (fun q => am_okB false "MistCantonLaw" code q.1 q.2) = true := am_wk_all 1124 (by decide +kernel)
theorem lw_t1126 {i : Nat} {h : am_H} (hJ : lw_J i h) (hL : i + 7 ≤ h.2.2.2.1) (hb : h.2.2.2.1 ≤ 4096) : lw_S lw_r1126 (lw_J (i + 7)) i 1513 1126 (lw_lv i) [] h := by
  have hI := hJ.1
  refine am_goX 2 (show am_rc h 154 11 ∧ 0 ≤ 8 ∧ h.2.2.2.2 + am_al 283 ≤ 175 ∧ am_call am_cod 60 283 [.ref 154] h (fun v h' => lw_S lw_r1126 (lw_J (i + 7)) i 1513 1130 (lw_lv i) (v.toList ++ []) h') from ⟨lw_rc154 hI, Nat.zero_le _, lw_lim hI rfl, am_call.mono (fun v h' q => ?_) (lw_k0 (iv_m283 (vs := []) trivial hI))⟩)
  obtain ⟨q1, ⟨x, rfl⟩, q2⟩ := q
  exact am_goX 2 (show (Value.int x).category = 1 ∧ lw_S lw_r1126 (lw_J (i + 7)) i 1513 1513 (lw_lv i) [] h' from ⟨rfl, am_xexit ⟨rfl, rfl, rfl, lw_upJ ⟨q1, q2.1.trans (hJ.2.1.trans q2.2.1.symm), jt_k hJ.2.2.1 q2.2.1 q2.2.2.1, jw_k hJ.2.2.2.1 q2.2.2.1, jx_k hJ.2.2.2.2 q2.2.2.2⟩⟩⟩)
def lw_r1134 : List (Nat × am_R) := [(1134, (.aload_n 1, 1135, 0, 0, 0, 0)), (1135, (.aload_n 0, 1136, 0, 0, 0, 0)), (1136, (.iload 4, 1138, 0, 0, 0, 0)), (1138, (.iconst 1, 1139, 0, 0, 0, 0)), (1139, (.iadd, 1140, 0, 0, 0, 0)), (1140, (.iaload, 1141, 0, 0, 0, 0)), (1141, (.aload_n 0, 1142, 0, 0, 0, 0)), (1142, (.iload 4, 1144, 0, 0, 0, 0)), (1144, (.iconst 2, 1145, 0, 0, 0, 0)), (1145, (.iadd, 1146, 0, 0, 0, 0)), (1146, (.iaload, 1147, 0, 0, 0, 0)), (1147, (.invokevirtual 155, 1150, 165, 2, 211, 10)), (1150, (.pop, 1151, 0, 0, 0, 0))]
theorem lw_o1134 : lw_r1134.all (fun q => am_okB false "MistCantonLaw" code q.1 q.2) = true := am_wk_all 1132 (by decide +kernel)
theorem lw_t1134 {i : Nat} {h : am_H} (hJ : lw_J i h) (hL : i + 7 ≤ h.2.2.2.1) (hb : h.2.2.2.1 ≤ 4096) : lw_S lw_r1134 (lw_J i) i 1151 1134 (lw_lv i) [] h := by
  have hI := hJ.1
  refine am_goX 6 (show ∃ j n : Nat, am_sh h 3000000 = some (13, n) ∧ j < n ∧ (nI i) + (Int32.ofInt 1) = nI j ∧ lw_S lw_r1134 (lw_J i) i 1151 1141 (lw_lv i) [.int (h.1 3000000 j), .ref 0] h from ⟨i + 1, h.2.2.2.1, rfl, by omega, lw_x1 i, ?_⟩)
  generalize h.1 3000000 (i + 1) = x1
  refine am_goX 5 (show ∃ j n : Nat, am_sh h 3000000 = some (13, n) ∧ j < n ∧ (nI i) + (Int32.ofInt 2) = nI j ∧ lw_S lw_r1134 (lw_J i) i 1151 1147 (lw_lv i) [.int (h.1 3000000 j), .int x1, .ref 0] h from ⟨i + 2, h.2.2.2.1, rfl, by omega, lw_x2 i, ?_⟩)
  generalize h.1 3000000 (i + 2) = x2
  refine am_goX 1 (show am_rc h 0 10 ∧ 0 ≤ 8 ∧ h.2.2.2.2 + am_al 165 ≤ 175 ∧ am_call am_cod 60 165 [.ref 0, .int x1, .int x2] h (fun v h' => lw_S lw_r1134 (lw_J i) i 1151 1150 (lw_lv i) (v.toList ++ []) h') from ⟨lw_rc0 hI, Nat.zero_le _, lw_lim hI rfl, am_call.mono (fun v h' q => ?_) (lw_k2 (iv_m165 (vs := [(x1).toInt, (x2).toInt]) ⟨lw_ir _, ⟨lw_ir _, trivial⟩⟩ hI))⟩)
  obtain ⟨q1, ⟨x, rfl⟩, q2⟩ := q
  exact am_goX 1 (show (Value.int x).category = 1 ∧ lw_S lw_r1134 (lw_J i) i 1151 1151 (lw_lv i) [] h' from ⟨rfl, am_xexit ⟨rfl, rfl, rfl, ⟨q1, q2.1.trans (hJ.2.1.trans q2.2.1.symm), jt_k hJ.2.2.1 q2.2.1 q2.2.2.1, jw_k hJ.2.2.2.1 q2.2.2.1, jx_k hJ.2.2.2.2 q2.2.2.2⟩⟩⟩)
def lw_r1151 : List (Nat × am_R) := [(1151, (.aload_n 2, 1152, 0, 0, 0, 0)), (1152, (.aload_n 0, 1153, 0, 0, 0, 0)), (1153, (.iload 4, 1155, 0, 0, 0, 0)), (1155, (.iconst 1, 1156, 0, 0, 0, 0)), (1156, (.iadd, 1157, 0, 0, 0, 0)), (1157, (.iaload, 1158, 0, 0, 0, 0)), (1158, (.aload_n 0, 1159, 0, 0, 0, 0)), (1159, (.iload 4, 1161, 0, 0, 0, 0)), (1161, (.iconst 2, 1162, 0, 0, 0, 0)), (1162, (.iadd, 1163, 0, 0, 0, 0)), (1163, (.iaload, 1164, 0, 0, 0, 0)), (1164, (.invokevirtual 158, 1167, 284, 2, 333, 11)), (1167, (.pop, 1168, 0, 0, 0, 0)), (1168, (.goto 345, 1171, 1513, 0, 0, 0))]
theorem lw_o1151 : lw_r1151.all (fun q => am_okB false "MistCantonLaw" code q.1 q.2) = true := am_wk_all 1148 (by decide +kernel)
theorem lw_t1151 {i : Nat} {h : am_H} (hJ : lw_J i h) (hL : i + 7 ≤ h.2.2.2.1) (hb : h.2.2.2.1 ≤ 4096) : lw_S lw_r1151 (lw_J (i + 7)) i 1513 1151 (lw_lv i) [] h := by
  have hI := hJ.1
  refine am_goX 6 (show ∃ j n : Nat, am_sh h 3000000 = some (13, n) ∧ j < n ∧ (nI i) + (Int32.ofInt 1) = nI j ∧ lw_S lw_r1151 (lw_J (i + 7)) i 1513 1158 (lw_lv i) [.int (h.1 3000000 j), .ref 154] h from ⟨i + 1, h.2.2.2.1, rfl, by omega, lw_x1 i, ?_⟩)
  generalize h.1 3000000 (i + 1) = x1
  refine am_goX 5 (show ∃ j n : Nat, am_sh h 3000000 = some (13, n) ∧ j < n ∧ (nI i) + (Int32.ofInt 2) = nI j ∧ lw_S lw_r1151 (lw_J (i + 7)) i 1513 1164 (lw_lv i) [.int (h.1 3000000 j), .int x1, .ref 154] h from ⟨i + 2, h.2.2.2.1, rfl, by omega, lw_x2 i, ?_⟩)
  generalize h.1 3000000 (i + 2) = x2
  refine am_goX 1 (show am_rc h 154 11 ∧ 0 ≤ 8 ∧ h.2.2.2.2 + am_al 284 ≤ 175 ∧ am_call am_cod 60 284 [.ref 154, .int x1, .int x2] h (fun v h' => lw_S lw_r1151 (lw_J (i + 7)) i 1513 1167 (lw_lv i) (v.toList ++ []) h') from ⟨lw_rc154 hI, Nat.zero_le _, lw_lim hI rfl, am_call.mono (fun v h' q => ?_) (lw_k2 (iv_m284 (vs := [(x1).toInt, (x2).toInt]) ⟨lw_ir _, ⟨lw_ir _, trivial⟩⟩ hI))⟩)
  obtain ⟨q1, ⟨x, rfl⟩, q2⟩ := q
  exact am_goX 2 (show (Value.int x).category = 1 ∧ lw_S lw_r1151 (lw_J (i + 7)) i 1513 1513 (lw_lv i) [] h' from ⟨rfl, am_xexit ⟨rfl, rfl, rfl, lw_upJ ⟨q1, q2.1.trans (hJ.2.1.trans q2.2.1.symm), jt_k hJ.2.2.1 q2.2.1 q2.2.2.1, jw_k hJ.2.2.2.1 q2.2.2.1, jx_k hJ.2.2.2.2 q2.2.2.2⟩⟩⟩)
def lw_r1171 : List (Nat × am_R) := [(1171, (.aload_n 1, 1172, 0, 0, 0, 0)), (1172, (.invokevirtual 159, 1175, 130, 0, 169, 10)), (1175, (.pop, 1176, 0, 0, 0, 0))]
theorem lw_o1171 : lw_r1171.all (fun q => am_okB false "MistCantonLaw" code q.1 q.2) = true := am_wk_all 1168 (by decide +kernel)
theorem lw_t1171 {i : Nat} {h : am_H} (hJ : lw_J i h) (hL : i + 7 ≤ h.2.2.2.1) (hb : h.2.2.2.1 ≤ 4096) : lw_S lw_r1171 (lw_J i) i 1176 1171 (lw_lv i) [] h := by
  have hI := hJ.1
  refine am_goX 2 (show am_rc h 0 10 ∧ 0 ≤ 8 ∧ h.2.2.2.2 + am_al 130 ≤ 175 ∧ am_call am_cod 60 130 [.ref 0] h (fun v h' => lw_S lw_r1171 (lw_J i) i 1176 1175 (lw_lv i) (v.toList ++ []) h') from ⟨lw_rc0 hI, Nat.zero_le _, lw_lim hI rfl, am_call.mono (fun v h' q => ?_) (lw_k0 (iv_m130 (vs := []) trivial hI))⟩)
  obtain ⟨q1, ⟨x, rfl⟩, q2⟩ := q
  exact am_goX 1 (show (Value.int x).category = 1 ∧ lw_S lw_r1171 (lw_J i) i 1176 1176 (lw_lv i) [] h' from ⟨rfl, am_xexit ⟨rfl, rfl, rfl, ⟨q1, q2.1.trans (hJ.2.1.trans q2.2.1.symm), jt_k hJ.2.2.1 q2.2.1 q2.2.2.1, jw_k hJ.2.2.2.1 q2.2.2.1, jx_k hJ.2.2.2.2 q2.2.2.2⟩⟩⟩)
def lw_r1176 : List (Nat × am_R) := [(1176, (.aload_n 2, 1177, 0, 0, 0, 0)), (1177, (.invokevirtual 162, 1180, 256, 0, 305, 11)), (1180, (.pop, 1181, 0, 0, 0, 0)), (1181, (.goto 332, 1184, 1513, 0, 0, 0))]
theorem lw_o1176 : lw_r1176.all (fun q => am_okB false "MistCantonLaw" code q.1 q.2) = true := am_wk_all 1176 (by decide +kernel)
theorem lw_t1176 {i : Nat} {h : am_H} (hJ : lw_J i h) (hL : i + 7 ≤ h.2.2.2.1) (hb : h.2.2.2.1 ≤ 4096) : lw_S lw_r1176 (lw_J (i + 7)) i 1513 1176 (lw_lv i) [] h := by
  have hI := hJ.1
  refine am_goX 2 (show am_rc h 154 11 ∧ 0 ≤ 8 ∧ h.2.2.2.2 + am_al 256 ≤ 175 ∧ am_call am_cod 60 256 [.ref 154] h (fun v h' => lw_S lw_r1176 (lw_J (i + 7)) i 1513 1180 (lw_lv i) (v.toList ++ []) h') from ⟨lw_rc154 hI, Nat.zero_le _, lw_lim hI rfl, am_call.mono (fun v h' q => ?_) (lw_k0 (iv_m256 (vs := []) trivial hI))⟩)
  obtain ⟨q1, ⟨x, rfl⟩, q2⟩ := q
  exact am_goX 2 (show (Value.int x).category = 1 ∧ lw_S lw_r1176 (lw_J (i + 7)) i 1513 1513 (lw_lv i) [] h' from ⟨rfl, am_xexit ⟨rfl, rfl, rfl, lw_upJ ⟨q1, q2.1.trans (hJ.2.1.trans q2.2.1.symm), jt_k hJ.2.2.1 q2.2.1 q2.2.2.1, jw_k hJ.2.2.2.1 q2.2.2.1, jx_k hJ.2.2.2.2 q2.2.2.2⟩⟩⟩)
def lw_r1184 : List (Nat × am_R) := [(1184, (.aload_n 1, 1185, 0, 0, 0, 0)), (1185, (.invokevirtual 163, 1188, 157, 0, 203, 10)), (1188, (.pop, 1189, 0, 0, 0, 0))]
theorem lw_o1184 : lw_r1184.all (fun q => am_okB false "MistCantonLaw" code q.1 q.2) = true := am_wk_all 1184 (by decide +kernel)
theorem lw_t1184 {i : Nat} {h : am_H} (hJ : lw_J i h) (hL : i + 7 ≤ h.2.2.2.1) (hb : h.2.2.2.1 ≤ 4096) : lw_S lw_r1184 (lw_J i) i 1189 1184 (lw_lv i) [] h := by
  have hI := hJ.1
  refine am_goX 2 (show am_rc h 0 10 ∧ 0 ≤ 8 ∧ h.2.2.2.2 + am_al 157 ≤ 175 ∧ am_call am_cod 60 157 [.ref 0] h (fun v h' => lw_S lw_r1184 (lw_J i) i 1189 1188 (lw_lv i) (v.toList ++ []) h') from ⟨lw_rc0 hI, Nat.zero_le _, lw_lim hI rfl, am_call.mono (fun v h' q => ?_) (lw_k0 (iv_m157 (vs := []) trivial hI))⟩)
  obtain ⟨q1, ⟨x, rfl⟩, q2⟩ := q
  exact am_goX 1 (show (Value.int x).category = 1 ∧ lw_S lw_r1184 (lw_J i) i 1189 1189 (lw_lv i) [] h' from ⟨rfl, am_xexit ⟨rfl, rfl, rfl, ⟨q1, q2.1.trans (hJ.2.1.trans q2.2.1.symm), jt_k hJ.2.2.1 q2.2.1 q2.2.2.1, jw_k hJ.2.2.2.1 q2.2.2.1, jx_k hJ.2.2.2.2 q2.2.2.2⟩⟩⟩)
def lw_r1189 : List (Nat × am_R) := [(1189, (.aload_n 2, 1190, 0, 0, 0, 0)), (1190, (.invokevirtual 166, 1193, 278, 0, 327, 11)), (1193, (.pop, 1194, 0, 0, 0, 0)), (1194, (.goto 319, 1197, 1513, 0, 0, 0))]
theorem lw_o1189 : lw_r1189.all (fun q => am_okB false "MistCantonLaw" code q.1 q.2) = true := am_wk_all 1188 (by decide +kernel)
theorem lw_t1189 {i : Nat} {h : am_H} (hJ : lw_J i h) (hL : i + 7 ≤ h.2.2.2.1) (hb : h.2.2.2.1 ≤ 4096) : lw_S lw_r1189 (lw_J (i + 7)) i 1513 1189 (lw_lv i) [] h := by
  have hI := hJ.1
  refine am_goX 2 (show am_rc h 154 11 ∧ 0 ≤ 8 ∧ h.2.2.2.2 + am_al 278 ≤ 175 ∧ am_call am_cod 60 278 [.ref 154] h (fun v h' => lw_S lw_r1189 (lw_J (i + 7)) i 1513 1193 (lw_lv i) (v.toList ++ []) h') from ⟨lw_rc154 hI, Nat.zero_le _, lw_lim hI rfl, am_call.mono (fun v h' q => ?_) (lw_k0 (iv_m278 (vs := []) trivial hI))⟩)
  obtain ⟨q1, ⟨x, rfl⟩, q2⟩ := q
  exact am_goX 2 (show (Value.int x).category = 1 ∧ lw_S lw_r1189 (lw_J (i + 7)) i 1513 1513 (lw_lv i) [] h' from ⟨rfl, am_xexit ⟨rfl, rfl, rfl, lw_upJ ⟨q1, q2.1.trans (hJ.2.1.trans q2.2.1.symm), jt_k hJ.2.2.1 q2.2.1 q2.2.2.1, jw_k hJ.2.2.2.1 q2.2.2.1, jx_k hJ.2.2.2.2 q2.2.2.2⟩⟩⟩)
def lw_r1222 : List (Nat × am_R) := [(1222, (.aload_n 1, 1223, 0, 0, 0, 0)), (1223, (.invokevirtual 171, 1226, 132, 0, 171, 10)), (1226, (.pop, 1227, 0, 0, 0, 0))]
theorem lw_o1222 : lw_r1222.all (fun q => am_okB false "MistCantonLaw" code q.1 q.2) = true := am_wk_all 1220 (by decide +kernel)
theorem lw_t1222 {i : Nat} {h : am_H} (hJ : lw_J i h) (hL : i + 7 ≤ h.2.2.2.1) (hb : h.2.2.2.1 ≤ 4096) : lw_S lw_r1222 (lw_J i) i 1227 1222 (lw_lv i) [] h := by
  have hI := hJ.1
  refine am_goX 2 (show am_rc h 0 10 ∧ 0 ≤ 8 ∧ h.2.2.2.2 + am_al 132 ≤ 175 ∧ am_call am_cod 60 132 [.ref 0] h (fun v h' => lw_S lw_r1222 (lw_J i) i 1227 1226 (lw_lv i) (v.toList ++ []) h') from ⟨lw_rc0 hI, Nat.zero_le _, lw_lim hI rfl, am_call.mono (fun v h' q => ?_) (lw_k0 (iv_m132 (vs := []) trivial hI))⟩)
  obtain ⟨q1, ⟨x, rfl⟩, q2⟩ := q
  exact am_goX 1 (show (Value.int x).category = 1 ∧ lw_S lw_r1222 (lw_J i) i 1227 1227 (lw_lv i) [] h' from ⟨rfl, am_xexit ⟨rfl, rfl, rfl, ⟨q1, q2.1.trans (hJ.2.1.trans q2.2.1.symm), jt_k hJ.2.2.1 q2.2.1 q2.2.2.1, jw_k hJ.2.2.2.1 q2.2.2.1, jx_k hJ.2.2.2.2 q2.2.2.2⟩⟩⟩)
def lw_r1227 : List (Nat × am_R) := [(1227, (.aload_n 2, 1228, 0, 0, 0, 0)), (1228, (.invokevirtual 174, 1231, 259, 0, 308, 11)), (1231, (.pop, 1232, 0, 0, 0, 0)), (1232, (.goto 281, 1235, 1513, 0, 0, 0))]
theorem lw_o1227 : lw_r1227.all (fun q => am_okB false "MistCantonLaw" code q.1 q.2) = true := am_wk_all 1224 (by decide +kernel)
theorem lw_t1227 {i : Nat} {h : am_H} (hJ : lw_J i h) (hL : i + 7 ≤ h.2.2.2.1) (hb : h.2.2.2.1 ≤ 4096) : lw_S lw_r1227 (lw_J (i + 7)) i 1513 1227 (lw_lv i) [] h := by
  have hI := hJ.1
  refine am_goX 2 (show am_rc h 154 11 ∧ 0 ≤ 8 ∧ h.2.2.2.2 + am_al 259 ≤ 175 ∧ am_call am_cod 60 259 [.ref 154] h (fun v h' => lw_S lw_r1227 (lw_J (i + 7)) i 1513 1231 (lw_lv i) (v.toList ++ []) h') from ⟨lw_rc154 hI, Nat.zero_le _, lw_lim hI rfl, am_call.mono (fun v h' q => ?_) (lw_k0 (iv_m259 (vs := []) trivial hI))⟩)
  obtain ⟨q1, ⟨x, rfl⟩, q2⟩ := q
  exact am_goX 2 (show (Value.int x).category = 1 ∧ lw_S lw_r1227 (lw_J (i + 7)) i 1513 1513 (lw_lv i) [] h' from ⟨rfl, am_xexit ⟨rfl, rfl, rfl, lw_upJ ⟨q1, q2.1.trans (hJ.2.1.trans q2.2.1.symm), jt_k hJ.2.2.1 q2.2.1 q2.2.2.1, jw_k hJ.2.2.2.1 q2.2.2.1, jx_k hJ.2.2.2.2 q2.2.2.2⟩⟩⟩)
def lw_r1235 : List (Nat × am_R) := [(1235, (.aload_n 1, 1236, 0, 0, 0, 0)), (1236, (.aload_n 0, 1237, 0, 0, 0, 0)), (1237, (.iload 4, 1239, 0, 0, 0, 0)), (1239, (.iconst 1, 1240, 0, 0, 0, 0)), (1240, (.iadd, 1241, 0, 0, 0, 0)), (1241, (.iaload, 1242, 0, 0, 0, 0)), (1242, (.invokevirtual 175, 1245, 124, 1, 163, 10)), (1245, (.pop, 1246, 0, 0, 0, 0))]
theorem lw_o1235 : lw_r1235.all (fun q => am_okB false "MistCantonLaw" code q.1 q.2) = true := am_wk_all 1232 (by decide +kernel)
theorem lw_t1235 {i : Nat} {h : am_H} (hJ : lw_J i h) (hL : i + 7 ≤ h.2.2.2.1) (hb : h.2.2.2.1 ≤ 4096) : lw_S lw_r1235 (lw_J i) i 1246 1235 (lw_lv i) [] h := by
  have hI := hJ.1
  refine am_goX 6 (show ∃ j n : Nat, am_sh h 3000000 = some (13, n) ∧ j < n ∧ (nI i) + (Int32.ofInt 1) = nI j ∧ lw_S lw_r1235 (lw_J i) i 1246 1242 (lw_lv i) [.int (h.1 3000000 j), .ref 0] h from ⟨i + 1, h.2.2.2.1, rfl, by omega, lw_x1 i, ?_⟩)
  generalize h.1 3000000 (i + 1) = x1
  refine am_goX 1 (show am_rc h 0 10 ∧ 0 ≤ 8 ∧ h.2.2.2.2 + am_al 124 ≤ 175 ∧ am_call am_cod 60 124 [.ref 0, .int x1] h (fun v h' => lw_S lw_r1235 (lw_J i) i 1246 1245 (lw_lv i) (v.toList ++ []) h') from ⟨lw_rc0 hI, Nat.zero_le _, lw_lim hI rfl, am_call.mono (fun v h' q => ?_) (lw_k1 (iv_m124 (vs := [(x1).toInt]) ⟨lw_ir _, trivial⟩ hI))⟩)
  obtain ⟨q1, ⟨x, rfl⟩, q2⟩ := q
  exact am_goX 1 (show (Value.int x).category = 1 ∧ lw_S lw_r1235 (lw_J i) i 1246 1246 (lw_lv i) [] h' from ⟨rfl, am_xexit ⟨rfl, rfl, rfl, ⟨q1, q2.1.trans (hJ.2.1.trans q2.2.1.symm), jt_k hJ.2.2.1 q2.2.1 q2.2.2.1, jw_k hJ.2.2.2.1 q2.2.2.1, jx_k hJ.2.2.2.2 q2.2.2.2⟩⟩⟩)
def lw_r1246 : List (Nat × am_R) := [(1246, (.aload_n 2, 1247, 0, 0, 0, 0)), (1247, (.aload_n 0, 1248, 0, 0, 0, 0)), (1248, (.iload 4, 1250, 0, 0, 0, 0)), (1250, (.iconst 1, 1251, 0, 0, 0, 0)), (1251, (.iadd, 1252, 0, 0, 0, 0)), (1252, (.iaload, 1253, 0, 0, 0, 0)), (1253, (.invokevirtual 178, 1256, 258, 1, 307, 11)), (1256, (.pop, 1257, 0, 0, 0, 0)), (1257, (.goto 256, 1260, 1513, 0, 0, 0))]
theorem lw_o1246 : lw_r1246.all (fun q => am_okB false "MistCantonLaw" code q.1 q.2) = true := am_wk_all 1244 (by decide +kernel)
theorem lw_t1246 {i : Nat} {h : am_H} (hJ : lw_J i h) (hL : i + 7 ≤ h.2.2.2.1) (hb : h.2.2.2.1 ≤ 4096) : lw_S lw_r1246 (lw_J (i + 7)) i 1513 1246 (lw_lv i) [] h := by
  have hI := hJ.1
  refine am_goX 6 (show ∃ j n : Nat, am_sh h 3000000 = some (13, n) ∧ j < n ∧ (nI i) + (Int32.ofInt 1) = nI j ∧ lw_S lw_r1246 (lw_J (i + 7)) i 1513 1253 (lw_lv i) [.int (h.1 3000000 j), .ref 154] h from ⟨i + 1, h.2.2.2.1, rfl, by omega, lw_x1 i, ?_⟩)
  generalize h.1 3000000 (i + 1) = x1
  refine am_goX 1 (show am_rc h 154 11 ∧ 0 ≤ 8 ∧ h.2.2.2.2 + am_al 258 ≤ 175 ∧ am_call am_cod 60 258 [.ref 154, .int x1] h (fun v h' => lw_S lw_r1246 (lw_J (i + 7)) i 1513 1256 (lw_lv i) (v.toList ++ []) h') from ⟨lw_rc154 hI, Nat.zero_le _, lw_lim hI rfl, am_call.mono (fun v h' q => ?_) (lw_k1 (iv_m258 (vs := [(x1).toInt]) ⟨lw_ir _, trivial⟩ hI))⟩)
  obtain ⟨q1, ⟨x, rfl⟩, q2⟩ := q
  exact am_goX 2 (show (Value.int x).category = 1 ∧ lw_S lw_r1246 (lw_J (i + 7)) i 1513 1513 (lw_lv i) [] h' from ⟨rfl, am_xexit ⟨rfl, rfl, rfl, lw_upJ ⟨q1, q2.1.trans (hJ.2.1.trans q2.2.1.symm), jt_k hJ.2.2.1 q2.2.1 q2.2.2.1, jw_k hJ.2.2.2.1 q2.2.2.1, jx_k hJ.2.2.2.2 q2.2.2.2⟩⟩⟩)
def lw_r1260 : List (Nat × am_R) := [(1260, (.aload_n 1, 1261, 0, 0, 0, 0)), (1261, (.invokevirtual 179, 1264, 158, 0, 204, 10)), (1264, (.pop, 1265, 0, 0, 0, 0))]
theorem lw_o1260 : lw_r1260.all (fun q => am_okB false "MistCantonLaw" code q.1 q.2) = true := am_wk_all 1260 (by decide +kernel)
theorem lw_t1260 {i : Nat} {h : am_H} (hJ : lw_J i h) (hL : i + 7 ≤ h.2.2.2.1) (hb : h.2.2.2.1 ≤ 4096) : lw_S lw_r1260 (lw_J i) i 1265 1260 (lw_lv i) [] h := by
  have hI := hJ.1
  refine am_goX 2 (show am_rc h 0 10 ∧ 0 ≤ 8 ∧ h.2.2.2.2 + am_al 158 ≤ 175 ∧ am_call am_cod 60 158 [.ref 0] h (fun v h' => lw_S lw_r1260 (lw_J i) i 1265 1264 (lw_lv i) (v.toList ++ []) h') from ⟨lw_rc0 hI, Nat.zero_le _, lw_lim hI rfl, am_call.mono (fun v h' q => ?_) (lw_k0 (iv_m158 (vs := []) trivial hI))⟩)
  obtain ⟨q1, ⟨x, rfl⟩, q2⟩ := q
  exact am_goX 1 (show (Value.int x).category = 1 ∧ lw_S lw_r1260 (lw_J i) i 1265 1265 (lw_lv i) [] h' from ⟨rfl, am_xexit ⟨rfl, rfl, rfl, ⟨q1, q2.1.trans (hJ.2.1.trans q2.2.1.symm), jt_k hJ.2.2.1 q2.2.1 q2.2.2.1, jw_k hJ.2.2.2.1 q2.2.2.1, jx_k hJ.2.2.2.2 q2.2.2.2⟩⟩⟩)
def lw_r1265 : List (Nat × am_R) := [(1265, (.aload_n 2, 1266, 0, 0, 0, 0)), (1266, (.invokevirtual 182, 1269, 260, 0, 309, 11)), (1269, (.pop, 1270, 0, 0, 0, 0)), (1270, (.goto 243, 1273, 1513, 0, 0, 0))]
theorem lw_o1265 : lw_r1265.all (fun q => am_okB false "MistCantonLaw" code q.1 q.2) = true := am_wk_all 1264 (by decide +kernel)
theorem lw_t1265 {i : Nat} {h : am_H} (hJ : lw_J i h) (hL : i + 7 ≤ h.2.2.2.1) (hb : h.2.2.2.1 ≤ 4096) : lw_S lw_r1265 (lw_J (i + 7)) i 1513 1265 (lw_lv i) [] h := by
  have hI := hJ.1
  refine am_goX 2 (show am_rc h 154 11 ∧ 0 ≤ 8 ∧ h.2.2.2.2 + am_al 260 ≤ 175 ∧ am_call am_cod 60 260 [.ref 154] h (fun v h' => lw_S lw_r1265 (lw_J (i + 7)) i 1513 1269 (lw_lv i) (v.toList ++ []) h') from ⟨lw_rc154 hI, Nat.zero_le _, lw_lim hI rfl, am_call.mono (fun v h' q => ?_) (lw_k0 (iv_m260 (vs := []) trivial hI))⟩)
  obtain ⟨q1, ⟨x, rfl⟩, q2⟩ := q
  exact am_goX 2 (show (Value.int x).category = 1 ∧ lw_S lw_r1265 (lw_J (i + 7)) i 1513 1513 (lw_lv i) [] h' from ⟨rfl, am_xexit ⟨rfl, rfl, rfl, lw_upJ ⟨q1, q2.1.trans (hJ.2.1.trans q2.2.1.symm), jt_k hJ.2.2.1 q2.2.1 q2.2.2.1, jw_k hJ.2.2.2.1 q2.2.2.1, jx_k hJ.2.2.2.2 q2.2.2.2⟩⟩⟩)
def lw_r1273 : List (Nat × am_R) := [(1273, (.aload_n 1, 1274, 0, 0, 0, 0)), (1274, (.aload_n 0, 1275, 0, 0, 0, 0)), (1275, (.iload 4, 1277, 0, 0, 0, 0)), (1277, (.iconst 1, 1278, 0, 0, 0, 0)), (1278, (.iadd, 1279, 0, 0, 0, 0)), (1279, (.iaload, 1280, 0, 0, 0, 0)), (1280, (.aload_n 0, 1281, 0, 0, 0, 0)), (1281, (.iload 4, 1283, 0, 0, 0, 0)), (1283, (.iconst 2, 1284, 0, 0, 0, 0)), (1284, (.iadd, 1285, 0, 0, 0, 0)), (1285, (.iaload, 1286, 0, 0, 0, 0)), (1286, (.aload_n 0, 1287, 0, 0, 0, 0)), (1287, (.iload 4, 1289, 0, 0, 0, 0)), (1289, (.iconst 3, 1290, 0, 0, 0, 0)), (1290, (.iadd, 1291, 0, 0, 0, 0)), (1291, (.iaload, 1292, 0, 0, 0, 0)), (1292, (.invokevirtual 183, 1295, 134, 3, 174, 10)), (1295, (.pop, 1296, 0, 0, 0, 0))]
theorem lw_o1273 : lw_r1273.all (fun q => am_okB false "MistCantonLaw" code q.1 q.2) = true := am_wk_all 1272 (by decide +kernel)
theorem lw_t1273 {i : Nat} {h : am_H} (hJ : lw_J i h) (hL : i + 7 ≤ h.2.2.2.1) (hb : h.2.2.2.1 ≤ 4096) : lw_S lw_r1273 (lw_J i) i 1296 1273 (lw_lv i) [] h := by
  have hI := hJ.1
  refine am_goX 6 (show ∃ j n : Nat, am_sh h 3000000 = some (13, n) ∧ j < n ∧ (nI i) + (Int32.ofInt 1) = nI j ∧ lw_S lw_r1273 (lw_J i) i 1296 1280 (lw_lv i) [.int (h.1 3000000 j), .ref 0] h from ⟨i + 1, h.2.2.2.1, rfl, by omega, lw_x1 i, ?_⟩)
  generalize h.1 3000000 (i + 1) = x1
  refine am_goX 5 (show ∃ j n : Nat, am_sh h 3000000 = some (13, n) ∧ j < n ∧ (nI i) + (Int32.ofInt 2) = nI j ∧ lw_S lw_r1273 (lw_J i) i 1296 1286 (lw_lv i) [.int (h.1 3000000 j), .int x1, .ref 0] h from ⟨i + 2, h.2.2.2.1, rfl, by omega, lw_x2 i, ?_⟩)
  generalize h.1 3000000 (i + 2) = x2
  refine am_goX 5 (show ∃ j n : Nat, am_sh h 3000000 = some (13, n) ∧ j < n ∧ (nI i) + (Int32.ofInt 3) = nI j ∧ lw_S lw_r1273 (lw_J i) i 1296 1292 (lw_lv i) [.int (h.1 3000000 j), .int x2, .int x1, .ref 0] h from ⟨i + 3, h.2.2.2.1, rfl, by omega, lw_x3 i, ?_⟩)
  generalize h.1 3000000 (i + 3) = x3
  refine am_goX 1 (show am_rc h 0 10 ∧ 0 ≤ 8 ∧ h.2.2.2.2 + am_al 134 ≤ 175 ∧ am_call am_cod 60 134 [.ref 0, .int x1, .int x2, .int x3] h (fun v h' => lw_S lw_r1273 (lw_J i) i 1296 1295 (lw_lv i) (v.toList ++ []) h') from ⟨lw_rc0 hI, Nat.zero_le _, lw_lim hI rfl, am_call.mono (fun v h' q => ?_) (lw_k3 (iv_m134 (vs := [(x1).toInt, (x2).toInt, (x3).toInt]) ⟨lw_ir _, ⟨lw_ir _, ⟨lw_ir _, trivial⟩⟩⟩ hI))⟩)
  obtain ⟨q1, ⟨x, rfl⟩, q2⟩ := q
  exact am_goX 1 (show (Value.int x).category = 1 ∧ lw_S lw_r1273 (lw_J i) i 1296 1296 (lw_lv i) [] h' from ⟨rfl, am_xexit ⟨rfl, rfl, rfl, ⟨q1, q2.1.trans (hJ.2.1.trans q2.2.1.symm), jt_k hJ.2.2.1 q2.2.1 q2.2.2.1, jw_k hJ.2.2.2.1 q2.2.2.1, jx_k hJ.2.2.2.2 q2.2.2.2⟩⟩⟩)
def lw_r1296 : List (Nat × am_R) := [(1296, (.aload_n 2, 1297, 0, 0, 0, 0)), (1297, (.aload_n 0, 1298, 0, 0, 0, 0)), (1298, (.iload 4, 1300, 0, 0, 0, 0)), (1300, (.iconst 1, 1301, 0, 0, 0, 0)), (1301, (.iadd, 1302, 0, 0, 0, 0)), (1302, (.iaload, 1303, 0, 0, 0, 0)), (1303, (.aload_n 0, 1304, 0, 0, 0, 0)), (1304, (.iload 4, 1306, 0, 0, 0, 0)), (1306, (.iconst 2, 1307, 0, 0, 0, 0)), (1307, (.iadd, 1308, 0, 0, 0, 0)), (1308, (.iaload, 1309, 0, 0, 0, 0)), (1309, (.aload_n 0, 1310, 0, 0, 0, 0)), (1310, (.iload 4, 1312, 0, 0, 0, 0)), (1312, (.iconst 3, 1313, 0, 0, 0, 0)), (1313, (.iadd, 1314, 0, 0, 0, 0)), (1314, (.iaload, 1315, 0, 0, 0, 0)), (1315, (.invokevirtual 187, 1318, 285, 3, 334, 11)), (1318, (.pop, 1319, 0, 0, 0, 0)), (1319, (.goto 194, 1322, 1513, 0, 0, 0))]
theorem lw_o1296 : lw_r1296.all (fun q => am_okB false "MistCantonLaw" code q.1 q.2) = true := am_wk_all 1296 (by decide +kernel)
theorem lw_t1296 {i : Nat} {h : am_H} (hJ : lw_J i h) (hL : i + 7 ≤ h.2.2.2.1) (hb : h.2.2.2.1 ≤ 4096) : lw_S lw_r1296 (lw_J (i + 7)) i 1513 1296 (lw_lv i) [] h := by
  have hI := hJ.1
  refine am_goX 6 (show ∃ j n : Nat, am_sh h 3000000 = some (13, n) ∧ j < n ∧ (nI i) + (Int32.ofInt 1) = nI j ∧ lw_S lw_r1296 (lw_J (i + 7)) i 1513 1303 (lw_lv i) [.int (h.1 3000000 j), .ref 154] h from ⟨i + 1, h.2.2.2.1, rfl, by omega, lw_x1 i, ?_⟩)
  generalize h.1 3000000 (i + 1) = x1
  refine am_goX 5 (show ∃ j n : Nat, am_sh h 3000000 = some (13, n) ∧ j < n ∧ (nI i) + (Int32.ofInt 2) = nI j ∧ lw_S lw_r1296 (lw_J (i + 7)) i 1513 1309 (lw_lv i) [.int (h.1 3000000 j), .int x1, .ref 154] h from ⟨i + 2, h.2.2.2.1, rfl, by omega, lw_x2 i, ?_⟩)
  generalize h.1 3000000 (i + 2) = x2
  refine am_goX 5 (show ∃ j n : Nat, am_sh h 3000000 = some (13, n) ∧ j < n ∧ (nI i) + (Int32.ofInt 3) = nI j ∧ lw_S lw_r1296 (lw_J (i + 7)) i 1513 1315 (lw_lv i) [.int (h.1 3000000 j), .int x2, .int x1, .ref 154] h from ⟨i + 3, h.2.2.2.1, rfl, by omega, lw_x3 i, ?_⟩)
  generalize h.1 3000000 (i + 3) = x3
  refine am_goX 1 (show am_rc h 154 11 ∧ 0 ≤ 8 ∧ h.2.2.2.2 + am_al 285 ≤ 175 ∧ am_call am_cod 60 285 [.ref 154, .int x1, .int x2, .int x3] h (fun v h' => lw_S lw_r1296 (lw_J (i + 7)) i 1513 1318 (lw_lv i) (v.toList ++ []) h') from ⟨lw_rc154 hI, Nat.zero_le _, lw_lim hI rfl, am_call.mono (fun v h' q => ?_) (lw_k3 (iv_m285 (vs := [(x1).toInt, (x2).toInt, (x3).toInt]) ⟨lw_ir _, ⟨lw_ir _, ⟨lw_ir _, trivial⟩⟩⟩ hI))⟩)
  obtain ⟨q1, ⟨x, rfl⟩, q2⟩ := q
  exact am_goX 2 (show (Value.int x).category = 1 ∧ lw_S lw_r1296 (lw_J (i + 7)) i 1513 1513 (lw_lv i) [] h' from ⟨rfl, am_xexit ⟨rfl, rfl, rfl, lw_upJ ⟨q1, q2.1.trans (hJ.2.1.trans q2.2.1.symm), jt_k hJ.2.2.1 q2.2.1 q2.2.2.1, jw_k hJ.2.2.2.1 q2.2.2.1, jx_k hJ.2.2.2.2 q2.2.2.2⟩⟩⟩)
def lw_r1386 : List (Nat × am_R) := [(1386, (.aload_n 1, 1387, 0, 0, 0, 0)), (1387, (.aload_n 0, 1388, 0, 0, 0, 0)), (1388, (.iload 4, 1390, 0, 0, 0, 0)), (1390, (.iconst 1, 1391, 0, 0, 0, 0)), (1391, (.iadd, 1392, 0, 0, 0, 0)), (1392, (.iaload, 1393, 0, 0, 0, 0)), (1393, (.aload_n 0, 1394, 0, 0, 0, 0)), (1394, (.iload 4, 1396, 0, 0, 0, 0)), (1396, (.iconst 2, 1397, 0, 0, 0, 0)), (1397, (.iadd, 1398, 0, 0, 0, 0)), (1398, (.iaload, 1399, 0, 0, 0, 0)), (1399, (.aload_n 0, 1400, 0, 0, 0, 0)), (1400, (.iload 4, 1402, 0, 0, 0, 0)), (1402, (.iconst 3, 1403, 0, 0, 0, 0)), (1403, (.iadd, 1404, 0, 0, 0, 0)), (1404, (.iaload, 1405, 0, 0, 0, 0)), (1405, (.invokevirtual 194, 1408, 137, 3, 177, 10)), (1408, (.pop, 1409, 0, 0, 0, 0))]
theorem lw_o1386 : lw_r1386.all (fun q => am_okB false "MistCantonLaw" code q.1 q.2) = true := am_wk_all 1384 (by decide +kernel)
theorem lw_t1386 {i : Nat} {h : am_H} (hJ : lw_J i h) (hL : i + 7 ≤ h.2.2.2.1) (hb : h.2.2.2.1 ≤ 4096) : lw_S lw_r1386 (lw_J i) i 1409 1386 (lw_lv i) [] h := by
  have hI := hJ.1
  refine am_goX 6 (show ∃ j n : Nat, am_sh h 3000000 = some (13, n) ∧ j < n ∧ (nI i) + (Int32.ofInt 1) = nI j ∧ lw_S lw_r1386 (lw_J i) i 1409 1393 (lw_lv i) [.int (h.1 3000000 j), .ref 0] h from ⟨i + 1, h.2.2.2.1, rfl, by omega, lw_x1 i, ?_⟩)
  generalize h.1 3000000 (i + 1) = x1
  refine am_goX 5 (show ∃ j n : Nat, am_sh h 3000000 = some (13, n) ∧ j < n ∧ (nI i) + (Int32.ofInt 2) = nI j ∧ lw_S lw_r1386 (lw_J i) i 1409 1399 (lw_lv i) [.int (h.1 3000000 j), .int x1, .ref 0] h from ⟨i + 2, h.2.2.2.1, rfl, by omega, lw_x2 i, ?_⟩)
  generalize h.1 3000000 (i + 2) = x2
  refine am_goX 5 (show ∃ j n : Nat, am_sh h 3000000 = some (13, n) ∧ j < n ∧ (nI i) + (Int32.ofInt 3) = nI j ∧ lw_S lw_r1386 (lw_J i) i 1409 1405 (lw_lv i) [.int (h.1 3000000 j), .int x2, .int x1, .ref 0] h from ⟨i + 3, h.2.2.2.1, rfl, by omega, lw_x3 i, ?_⟩)
  generalize h.1 3000000 (i + 3) = x3
  refine am_goX 1 (show am_rc h 0 10 ∧ 0 ≤ 8 ∧ h.2.2.2.2 + am_al 137 ≤ 175 ∧ am_call am_cod 60 137 [.ref 0, .int x1, .int x2, .int x3] h (fun v h' => lw_S lw_r1386 (lw_J i) i 1409 1408 (lw_lv i) (v.toList ++ []) h') from ⟨lw_rc0 hI, Nat.zero_le _, lw_lim hI rfl, am_call.mono (fun v h' q => ?_) (lw_k3 (iv_m137 (vs := [(x1).toInt, (x2).toInt, (x3).toInt]) ⟨lw_ir _, ⟨lw_ir _, ⟨lw_ir _, trivial⟩⟩⟩ hI))⟩)
  obtain ⟨q1, ⟨x, rfl⟩, q2⟩ := q
  exact am_goX 1 (show (Value.int x).category = 1 ∧ lw_S lw_r1386 (lw_J i) i 1409 1409 (lw_lv i) [] h' from ⟨rfl, am_xexit ⟨rfl, rfl, rfl, ⟨q1, q2.1.trans (hJ.2.1.trans q2.2.1.symm), jt_k hJ.2.2.1 q2.2.1 q2.2.2.1, jw_k hJ.2.2.2.1 q2.2.2.1, jx_k hJ.2.2.2.2 q2.2.2.2⟩⟩⟩)
def lw_r1409 : List (Nat × am_R) := [(1409, (.aload_n 2, 1410, 0, 0, 0, 0)), (1410, (.aload_n 0, 1411, 0, 0, 0, 0)), (1411, (.iload 4, 1413, 0, 0, 0, 0)), (1413, (.iconst 1, 1414, 0, 0, 0, 0)), (1414, (.iadd, 1415, 0, 0, 0, 0)), (1415, (.iaload, 1416, 0, 0, 0, 0)), (1416, (.aload_n 0, 1417, 0, 0, 0, 0)), (1417, (.iload 4, 1419, 0, 0, 0, 0)), (1419, (.iconst 2, 1420, 0, 0, 0, 0)), (1420, (.iadd, 1421, 0, 0, 0, 0)), (1421, (.iaload, 1422, 0, 0, 0, 0)), (1422, (.aload_n 0, 1423, 0, 0, 0, 0)), (1423, (.iload 4, 1425, 0, 0, 0, 0)), (1425, (.iconst 3, 1426, 0, 0, 0, 0)), (1426, (.iadd, 1427, 0, 0, 0, 0)), (1427, (.iaload, 1428, 0, 0, 0, 0)), (1428, (.invokevirtual 197, 1431, 288, 3, 337, 11)), (1431, (.pop, 1432, 0, 0, 0, 0)), (1432, (.goto 81, 1435, 1513, 0, 0, 0))]
theorem lw_o1409 : lw_r1409.all (fun q => am_okB false "MistCantonLaw" code q.1 q.2) = true := am_wk_all 1408 (by decide +kernel)
theorem lw_t1409 {i : Nat} {h : am_H} (hJ : lw_J i h) (hL : i + 7 ≤ h.2.2.2.1) (hb : h.2.2.2.1 ≤ 4096) : lw_S lw_r1409 (lw_J (i + 7)) i 1513 1409 (lw_lv i) [] h := by
  have hI := hJ.1
  refine am_goX 6 (show ∃ j n : Nat, am_sh h 3000000 = some (13, n) ∧ j < n ∧ (nI i) + (Int32.ofInt 1) = nI j ∧ lw_S lw_r1409 (lw_J (i + 7)) i 1513 1416 (lw_lv i) [.int (h.1 3000000 j), .ref 154] h from ⟨i + 1, h.2.2.2.1, rfl, by omega, lw_x1 i, ?_⟩)
  generalize h.1 3000000 (i + 1) = x1
  refine am_goX 5 (show ∃ j n : Nat, am_sh h 3000000 = some (13, n) ∧ j < n ∧ (nI i) + (Int32.ofInt 2) = nI j ∧ lw_S lw_r1409 (lw_J (i + 7)) i 1513 1422 (lw_lv i) [.int (h.1 3000000 j), .int x1, .ref 154] h from ⟨i + 2, h.2.2.2.1, rfl, by omega, lw_x2 i, ?_⟩)
  generalize h.1 3000000 (i + 2) = x2
  refine am_goX 5 (show ∃ j n : Nat, am_sh h 3000000 = some (13, n) ∧ j < n ∧ (nI i) + (Int32.ofInt 3) = nI j ∧ lw_S lw_r1409 (lw_J (i + 7)) i 1513 1428 (lw_lv i) [.int (h.1 3000000 j), .int x2, .int x1, .ref 154] h from ⟨i + 3, h.2.2.2.1, rfl, by omega, lw_x3 i, ?_⟩)
  generalize h.1 3000000 (i + 3) = x3
  refine am_goX 1 (show am_rc h 154 11 ∧ 0 ≤ 8 ∧ h.2.2.2.2 + am_al 288 ≤ 175 ∧ am_call am_cod 60 288 [.ref 154, .int x1, .int x2, .int x3] h (fun v h' => lw_S lw_r1409 (lw_J (i + 7)) i 1513 1431 (lw_lv i) (v.toList ++ []) h') from ⟨lw_rc154 hI, Nat.zero_le _, lw_lim hI rfl, am_call.mono (fun v h' q => ?_) (lw_k3 (iv_m288 (vs := [(x1).toInt, (x2).toInt, (x3).toInt]) ⟨lw_ir _, ⟨lw_ir _, ⟨lw_ir _, trivial⟩⟩⟩ hI))⟩)
  obtain ⟨q1, ⟨x, rfl⟩, q2⟩ := q
  exact am_goX 2 (show (Value.int x).category = 1 ∧ lw_S lw_r1409 (lw_J (i + 7)) i 1513 1513 (lw_lv i) [] h' from ⟨rfl, am_xexit ⟨rfl, rfl, rfl, lw_upJ ⟨q1, q2.1.trans (hJ.2.1.trans q2.2.1.symm), jt_k hJ.2.2.1 q2.2.1 q2.2.2.1, jw_k hJ.2.2.2.1 q2.2.2.1, jx_k hJ.2.2.2.2 q2.2.2.2⟩⟩⟩)
def lw_r1488 : List (Nat × am_R) := [(1488, (.aload_n 1, 1489, 0, 0, 0, 0)), (1489, (.aload_n 0, 1490, 0, 0, 0, 0)), (1490, (.iload 4, 1492, 0, 0, 0, 0)), (1492, (.iconst 1, 1493, 0, 0, 0, 0)), (1493, (.iadd, 1494, 0, 0, 0, 0)), (1494, (.iaload, 1495, 0, 0, 0, 0)), (1495, (.invokevirtual 203, 1498, 94, 1, 125, 10)), (1498, (.pop, 1499, 0, 0, 0, 0))]
theorem lw_o1488 : lw_r1488.all (fun q => am_okB false "MistCantonLaw" code q.1 q.2) = true := am_wk_all 1488 (by decide +kernel)
theorem lw_t1488 {i : Nat} {h : am_H} (hJ : lw_J i h) (hL : i + 7 ≤ h.2.2.2.1) (hb : h.2.2.2.1 ≤ 4096) : lw_S lw_r1488 (lw_J i) i 1499 1488 (lw_lv i) [] h := by
  have hI := hJ.1
  refine am_goX 6 (show ∃ j n : Nat, am_sh h 3000000 = some (13, n) ∧ j < n ∧ (nI i) + (Int32.ofInt 1) = nI j ∧ lw_S lw_r1488 (lw_J i) i 1499 1495 (lw_lv i) [.int (h.1 3000000 j), .ref 0] h from ⟨i + 1, h.2.2.2.1, rfl, by omega, lw_x1 i, ?_⟩)
  generalize h.1 3000000 (i + 1) = x1
  refine am_goX 1 (show am_rc h 0 10 ∧ 0 ≤ 8 ∧ h.2.2.2.2 + am_al 94 ≤ 175 ∧ am_call am_cod 60 94 [.ref 0, .int x1] h (fun v h' => lw_S lw_r1488 (lw_J i) i 1499 1498 (lw_lv i) (v.toList ++ []) h') from ⟨lw_rc0 hI, Nat.zero_le _, lw_lim hI rfl, am_call.mono (fun v h' q => ?_) (lw_k1 (iv_m94 (vs := [(x1).toInt]) ⟨lw_ir _, trivial⟩ hI))⟩)
  obtain ⟨q1, ⟨x, rfl⟩, q2⟩ := q
  exact am_goX 1 (show (Value.int x).category = 1 ∧ lw_S lw_r1488 (lw_J i) i 1499 1499 (lw_lv i) [] h' from ⟨rfl, am_xexit ⟨rfl, rfl, rfl, ⟨q1, q2.1.trans (hJ.2.1.trans q2.2.1.symm), jt_k hJ.2.2.1 q2.2.1 q2.2.2.1, jw_k hJ.2.2.2.1 q2.2.2.1, jx_k hJ.2.2.2.2 q2.2.2.2⟩⟩⟩)
def lw_r1499 : List (Nat × am_R) := [(1499, (.aload_n 2, 1500, 0, 0, 0, 0)), (1500, (.aload_n 0, 1501, 0, 0, 0, 0)), (1501, (.iload 4, 1503, 0, 0, 0, 0)), (1503, (.iconst 1, 1504, 0, 0, 0, 0)), (1504, (.iadd, 1505, 0, 0, 0, 0)), (1505, (.iaload, 1506, 0, 0, 0, 0)), (1506, (.invokevirtual 206, 1509, 292, 1, 341, 11)), (1509, (.pop, 1510, 0, 0, 0, 0)), (1510, (.goto 3, 1513, 1513, 0, 0, 0))]
theorem lw_o1499 : lw_r1499.all (fun q => am_okB false "MistCantonLaw" code q.1 q.2) = true := am_wk_all 1496 (by decide +kernel)
theorem lw_t1499 {i : Nat} {h : am_H} (hJ : lw_J i h) (hL : i + 7 ≤ h.2.2.2.1) (hb : h.2.2.2.1 ≤ 4096) : lw_S lw_r1499 (lw_J (i + 7)) i 1513 1499 (lw_lv i) [] h := by
  have hI := hJ.1
  refine am_goX 6 (show ∃ j n : Nat, am_sh h 3000000 = some (13, n) ∧ j < n ∧ (nI i) + (Int32.ofInt 1) = nI j ∧ lw_S lw_r1499 (lw_J (i + 7)) i 1513 1506 (lw_lv i) [.int (h.1 3000000 j), .ref 154] h from ⟨i + 1, h.2.2.2.1, rfl, by omega, lw_x1 i, ?_⟩)
  generalize h.1 3000000 (i + 1) = x1
  refine am_goX 1 (show am_rc h 154 11 ∧ 0 ≤ 8 ∧ h.2.2.2.2 + am_al 292 ≤ 175 ∧ am_call am_cod 60 292 [.ref 154, .int x1] h (fun v h' => lw_S lw_r1499 (lw_J (i + 7)) i 1513 1509 (lw_lv i) (v.toList ++ []) h') from ⟨lw_rc154 hI, Nat.zero_le _, lw_lim hI rfl, am_call.mono (fun v h' q => ?_) (lw_k1 (iv_m292 (vs := [(x1).toInt]) ⟨lw_ir _, trivial⟩ hI))⟩)
  obtain ⟨q1, ⟨x, rfl⟩, q2⟩ := q
  exact am_goX 2 (show (Value.int x).category = 1 ∧ lw_S lw_r1499 (lw_J (i + 7)) i 1513 1513 (lw_lv i) [] h' from ⟨rfl, am_xexit ⟨rfl, rfl, rfl, lw_upJ ⟨q1, q2.1.trans (hJ.2.1.trans q2.2.1.symm), jt_k hJ.2.2.1 q2.2.1 q2.2.2.1, jw_k hJ.2.2.2.1 q2.2.2.1, jx_k hJ.2.2.2.2 q2.2.2.2⟩⟩⟩)
