/-! EVENT -/
def a_ev (C : sp_C) (s : dS) (x w : Int32) : Int32 := if d_93 C x = Int32.ofInt 0 then (Int8.ofInt (-2)).toInt32 else d_92 C s x.toInt.toNat w
theorem a_ev1 {C : sp_C} {s : dS} {x w : Int32} (e : d_93 C x = Int32.ofInt 0) : a_ev C s x w = (Int8.ofInt (-2)).toInt32 := if_pos e
theorem a_ev2 {C : sp_C} {s : dS} {q : Nat} {w : Int32} (hq : q < dE C) (h5 : dE C ≤ 5) : a_ev C s (nI q) w = d_92 C s q w := by
  unfold a_ev
  rw [if_neg (v_93b hq h5), nI_tnn (by omega)]
theorem d_92_x {C : sp_C} {s : dS} {p : Nat} {w : Int32} (ew : d_60 w (Int32.ofInt 0) (Int32.ofInt 4) = Int32.ofInt 0) : d_92 C s p w = (Int8.ofInt (-2)).toInt32 := by
  unfold d_92
  rw [if_neg (show ¬ w = Int32.ofInt 0 from w_no ew (l := 0) (by decide)), if_neg (show ¬ w = Int32.ofInt 1 from w_no ew (l := 1) (by decide)), if_neg (show ¬ w = Int32.ofInt 2 from w_no ew (l := 2) (by decide)), if_neg (show ¬ w = Int32.ofInt 3 from w_no ew (l := 3) (by decide)), if_neg (show ¬ w = Int32.ofInt 4 from w_no ew (l := 4) (by decide))]
theorem q_92 {h : am_H} {C : sp_C} {D : Nat} {s : dS} {H : dH} {M : dMk} {n : Nat} (hI : iv_I h) (i : KI C D s H M n) (j : KC C s H M n h) (x w : Int32) : am_call am_cod 60 92 [.ref 0, .int x, .int w] h (fun v _ => v = some (.int (a_ev C s x w))) := by
  have hP := iv_P hI
  have hc := i.1
  have h5 := hc.1.2
  obtain ⟨c, c1, c2, c3, c4, c5, -⟩ := j
  rcases c_93 h5 x with e | ⟨p, hp, rfl⟩
  · rcases c1 with rfl | rfl
    · exact am_call.up (d_92_xN6 hP hc c3 c4 c2 c5 e (by rw [a_ev1 e]; rfl)) (by decide)
    · exact am_call.up (d_92_xN17 hP hc c3 c4 c2 c5 e (by rw [a_ev1 e]; rfl)) (by decide)
  · rcases c1 with rfl | rfl
    · exact am_call.up (d_92_N6 hP hc c3 c4 c2 c5 hp (by rw [a_ev2 hp h5])) (by decide)
    · exact am_call.up (d_92_N17 hP hc c3 c4 c2 c5 hp (by rw [a_ev2 hp h5])) (by decide)
theorem q_226 {h : am_H} {C : sp_C} {D : Nat} {s : dS} {H : dH} {M : dMk} {n : Nat} (hI : iv_I h) (i : KI C D s H M n) (j : KR C s H M n h) (x w : Int32) : am_call am_cod 60 226 [.ref 154, .int x, .int w] h (fun v _ => v = some (.int (a_ev C s x w))) := by
  have hP := iv_P hI
  have hc := i.1
  have h5 := hc.1.2
  obtain ⟨r1, r2, r3, -⟩ := j
  rcases c_93 h5 x with e | ⟨p, hp, rfl⟩
  · exact am_call.up (d_226_xM hP hc r1 r2 r3 e (fun g => by rw [a_ev1 e]; rfl)) (by decide)
  · rw [a_ev2 hp h5]
    rcases c_60 (lo := 0) (hi := 4) (by decide) (by decide) w with ew | ⟨l, -, hl, rfl⟩
    · exact am_call.up (d_226_yM hP hc r1 r2 r3 hp ew (fun g => by rw [d_92_x ew]; rfl)) (by decide)
    · have ll : l = 0 ∨ l = 1 ∨ l = 2 ∨ l = 3 ∨ l = 4 := by omega
      rcases ll with rfl | rfl | rfl | rfl | rfl
      · exact am_call.up (d_226_M0 hP hc r1 r2 r3 hp (fun g => rfl)) (by decide)
      · exact am_call.up (d_226_M1 hP hc r1 r2 r3 hp (fun g => rfl)) (by decide)
      · refine am_call.up (d_226_M2 hP hc r1 r2 r3 hp (fun g => ?_)) (by decide)
        show some (Value.int (d_228 C (nI p))) = some (Value.int (dG C p))
        rw [inv_e hc hp]
      · exact am_call.up (d_226_M3 hP hc r1 r2 r3 hp (fun g => rfl)) (by decide)
      · exact am_call.up (d_226_M4 hP hc r1 r2 r3 hp (fun g => rfl)) (by decide)
