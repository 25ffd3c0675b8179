/-! THE NAMES TOLD -/
/-- the names of the canton told -/
def rkN (C : sp_C) (h : am_H) : Prop := h.1 154 18 = nI (C.1.1 + C.2.1.1) ∧
  (∀ k, k < C.1.1 + C.2.1.1 → (∃ i, i < C.1.1 ∧ h.1 165 k = nI i ∧ h.2.1 163 k = C.1.2.1 i) ∨ (∃ i, i < C.2.1.1 ∧ h.1 165 k = nI (20 + i) ∧ h.2.1 163 k = C.2.1.2.1 i)) ∧
  (∀ i, i < C.1.1 → ∃ k, k < C.1.1 + C.2.1.1 ∧ h.1 165 k = nI i ∧ h.2.1 163 k = C.1.2.1 i) ∧
  (∀ i, i < C.2.1.1 → ∃ k, k < C.1.1 + C.2.1.1 ∧ h.1 165 k = nI (20 + i) ∧ h.2.1 163 k = C.2.1.2.1 i) ∧
  (∀ k k', k < C.1.1 + C.2.1.1 → k' < C.1.1 + C.2.1.1 → h.2.1 163 k = h.2.1 163 k' → k = k')
