/-! THE LONG CALLS: idle and years, each side by itself -/
def ae_Hr : ae_H := (ae_H0.1, ae_H0.2.1, 175, 154)
def ae_hi {α : Type} (l : List (Nat × Nat × α)) : List (Nat × Nat × α) := l.filter (fun q => Nat.ble 154 q.1)
def ae_keep (H : ae_H) : Bool := decide (ae_hi H.1 = ae_hi ae_H0.1) && (decide (ae_hi H.2.1 = ae_hi ae_H0.2.1) && decide (H.2.2 = (175, 0)))
def ae_idv (env : ae_e) (v : Option ae_v) : Bool := match env[1]?, v with
  | some w, some (.inl n) => (decide (1 ≤ w.1) && (decide (w.2 ≤ 60) && (decide (w.1 = w.2) && decide (n = w.1)))) || (decide (n = -1) && (decide (w.2 < 1) || decide (60 < w.1)))
  | _, _ => false
def ae_yrv (env : ae_e) (v : Option ae_v) : Bool := match env[1]?, env[2]?, env[3]?, v with
  | some s, some d, some w, some (.inl n) => (decide (n = 0) && (decide (0 ≤ s.1) && (decide (s.2 ≤ 9999) && (decide (1 ≤ d.1) && (decide (d.2 ≤ 99) && (decide (0 ≤ w.1) && decide (w.2 ≤ 2))))))) || (decide (n = -1) && (decide (s.2 < 0) || (decide (9999 < s.1) || (decide (d.2 < 1) || (decide (99 < d.1) || (decide (w.2 < 0) || decide (2 < w.1)))))))
  | _, _, _, _ => false
def ae_mth (fr : ae_e → Option ae_v → ae_H → Bool) (env : ae_e) (n : Nat) (As : List ae_v) (H : ae_H) : Bool := match am_inf[n]? with
  | some q => Nat.ble ((As.map ae_cat).sum) q.2.1 && (Nat.beq (am_al n) 0 && ae_go 7 (fun _ _ _ => none) (fun _ => false) (fun _ _ _ _ _ => false) fr 60000 env 9 H (q.1, q.2.1, q.2.2, H.2.2.1, 0, ae_args 0 As, []) [])
  | none => false
theorem ae_idC : ae_mth (fun env v H => ae_idv env v && ae_keep H) ae_env0 126 [.inr (.inr (.inl 0)), .inr (.inl 1)] ae_H0 = true := by decide +kernel
theorem ae_idM : ae_mth (fun env v H => ae_idv env v && Nat.beq H.2.2.1 175) ae_env0 252 [.inr (.inr (.inl 154)), .inr (.inl 1)] ae_Hr = true := by decide +kernel
