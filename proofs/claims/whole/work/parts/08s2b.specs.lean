/-! arrays of references -/
theorem RfG_up {G : zG} {ci n m q : Nat} {f : Nat → Option Nat} {vs : List Value} (h : RfG G ci n f) (hq : G q = some (.inr (ci, vs))) : RfG G ci n (va_up f m (some q)) := fun i hi v hv => by
  by_cases c : i = m
  · subst c; rw [up_self] at hv; cases hv; exact ⟨vs, hq⟩
  · rw [up_ne c] at hv; exact h i hi v hv
