/-! SHARED: what both answer -/
def a_sh (C : sp_C) (x y : Int32) : Int32 := if d_87 C x = Int32.ofInt 0 then Int32.ofInt (-1) else if d_87 C y = Int32.ofInt 0 then Int32.ofInt (-1) else d_165 C x.toInt.toNat y.toInt.toNat
theorem nI_tn {p : Nat} (hp : p < 4096) : (nI p).toInt.toNat = p := by
  rw [nI_toInt (by omega)]
  rfl
theorem a_sh1 {C : sp_C} {x y : Int32} (e : d_87 C x = Int32.ofInt 0) : a_sh C x y = Int32.ofInt (-1) := if_pos e
theorem a_sh2 {C : sp_C} {y : Int32} {p : Nat} (h6 : dP C ≤ 6) (hp : p < dP C) (e : d_87 C y = Int32.ofInt 0) : a_sh C (nI p) y = Int32.ofInt (-1) := by
  unfold a_sh
  rw [if_neg (by rw [v_87 hp]; decide), if_pos e]
theorem a_sh3 {C : sp_C} {p q : Nat} (h6 : dP C ≤ 6) (hp : p < dP C) (hq : q < dP C) : a_sh C (nI p) (nI q) = d_165 C p q := by
  unfold a_sh
  rw [if_neg (by rw [v_87 hp]; decide), if_neg (by rw [v_87 hq]; decide), nI_tn (by omega), nI_tn (by omega)]
theorem q_165 {h : am_H} {C : sp_C} (hI : iv_I h) (j : jC C h) (x y : Int32) : am_call am_cod 60 165 [.ref 0, .int x, .int y] h (fun v _ => v = some (.int (a_sh C x y))) := by
  have hP := iv_P hI
  obtain ⟨c, c1, c2, c3⟩ := j
  have h6 : dP C ≤ 6 := c3.1.2.1
  rcases c_87 h6 x with e | ⟨p, hp, rfl⟩
  · rcases c1 with rfl | rfl
    · exact am_call.up (d_165_xt6 hP c3 c2 e (by rw [a_sh1 e]; rfl)) (by decide)
    · exact am_call.up (d_165_xt17 hP c3 c2 e (by rw [a_sh1 e]; rfl)) (by decide)
  · rcases c_87 h6 y with e | ⟨q, hq, rfl⟩
    · rcases c1 with rfl | rfl
      · exact am_call.up (d_165_yt6 hP c3 c2 hp e (by rw [a_sh2 h6 hp e]; rfl)) (by decide)
      · exact am_call.up (d_165_yt17 hP c3 c2 hp e (by rw [a_sh2 h6 hp e]; rfl)) (by decide)
    · rcases c1 with rfl | rfl
      · exact am_call.up (d_165_t6 hP c3 c2 hp hq (by rw [a_sh3 h6 hp hq])) (by decide)
      · exact am_call.up (d_165_t17 hP c3 c2 hp hq (by rw [a_sh3 h6 hp hq])) (by decide)
theorem q_284 {h : am_H} {C : sp_C} (hI : iv_I h) (j : tR C h) (x y : Int32) : am_call am_cod 60 284 [.ref 154, .int x, .int y] h (fun v _ => v = some (.int (a_sh C x y))) := by
  have hP := iv_P hI
  have h6 : dP C ≤ 6 := j.1.2.1
  rcases c_87 h6 x with e | ⟨p, hp, rfl⟩
  · exact am_call.up (d_284_rx hP j e (fun g => by rw [a_sh1 e]; rfl)) (by decide)
  · rcases c_87 h6 y with e | ⟨q, hq, rfl⟩
    · exact am_call.up (d_284_ry hP j hp e (fun g => by rw [a_sh2 h6 hp e]; rfl)) (by decide)
    · exact am_call.up (d_284_r hP j hp hq (fun g => by rw [a_sh3 h6 hp hq]; rfl)) (by decide)
