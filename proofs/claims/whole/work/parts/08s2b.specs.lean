/-! what is new in a map; arrays of references -/
def FrG (G G2 : zG) (N : Nat) : Prop := ∀ z e, G2 z = some e → (∃ e0, G z = some e0) ∨ N ≤ z
theorem FrG.rf (G : zG) (N : Nat) : FrG G G N := fun _ e h => Or.inl ⟨e, h⟩
theorem FrG.up {G : zG} {q N : Nat} {x : va_E} (h : N ≤ q) : FrG G (va_up G q (some x)) N := fun z e hz => by
  by_cases c : z = q
  · subst c; exact Or.inr h
  · rw [up_n c] at hz; exact Or.inl ⟨e, hz⟩
theorem FrG.tr {G G2 G3 : zG} {N N2 : Nat} (h : FrG G G2 N) (h2 : FrG G2 G3 N2) (hN : N ≤ N2) : FrG G G3 N := fun z e hz => by
  rcases h2 z e hz with ⟨e0, h0⟩ | h0
  · exact h z e0 h0
  · exact Or.inr (Nat.le_trans hN h0)
theorem RfG_up {G : zG} {ci n m q : Nat} {f : Nat → Option Nat} {vs : List Value} (h : RfG G ci n f) (hq : G q = some (.inr (ci, vs))) : RfG G ci n (va_up f m (some q)) := fun i hi v hv => by
  by_cases c : i = m
  · subst c; rw [up_self] at hv; cases hv; exact ⟨vs, hq⟩
  · rw [up_ne c] at hv; exact h i hi v hv
