/-! STEPS BY HAND -/
def am_go (cp : am_P) (nL lim : Nat) (rt : Option FieldType) (rows : List (Nat × am_R)) (S : Nat → am_V → List Value → am_H → Prop) (Q : am_Q) : Nat → Nat → am_V → List Value → am_H → Prop
  | 0, pc, lv, st, h => S pc lv st h
  | n + 1, pc, lv, st, h => match am_find rows pc with
    | some r => am_stp cp nL lim rt pc r lv st h (am_go cp nL lim rt rows S Q n) Q
    | none => False
theorem am_goX {cp : am_P} {nL lim : Nat} {rt : Option FieldType} {rows : List (Nat × am_R)} {E : Nat → am_V → List Value → am_H → Prop} {Q : am_Q} (n : Nat) {pc : Nat} {lv : am_V} {st : List Value} {h : am_H} (k : am_go cp nL lim rt rows (am_X cp nL lim rt (am_find rows) E Q) Q n pc lv st h) : am_X cp nL lim rt (am_find rows) E Q pc lv st h := by
  induction n generalizing pc lv st h with
  | zero => exact k
  | succ n ih =>
    unfold am_go at k
    split at k
    · rename_i r hr
      exact fun P hE hP => hP pc lv st h r _ Q hr k (fun _ _ _ _ z => ih z P hE hP) (fun _ _ q => q)
    · exact k.elim
/-- nothing but what may be written has changed, and nothing may -/
theorem ag_fr_nil {h h' : am_H} (hf : ag_fr [] h h') : h' = h := by
  obtain ⟨a, b, c, d⟩ := h
  obtain ⟨a', b', c', d'⟩ := h'
  have e1 : d' = d := hf.1
  have e2 : a' = a := by
    funext o k
    exact (hf.2 o k rfl).1
  have e3 : b' = b := by
    funext o k
    exact (hf.2 o k rfl).2.1
  have e4 : c' = c := by
    funext o k
    exact (hf.2 o k rfl).2.2
  rw [e1, e2, e3, e4]
