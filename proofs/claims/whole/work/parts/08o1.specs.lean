theorem up_22 {G : zG} {a b : Nat} {x x2 y y2 : Option va_E} (h : a ≠ b) : va_up (va_up (va_up (va_up G a x) b y) a x2) b y2 = va_up (va_up G a x2) b y2 := by
  funext z
  unfold va_up
  by_cases h1 : z = b
  · rw [if_pos h1, if_pos h1]
  · rw [if_neg h1, if_neg h1]
    by_cases h2 : z = a
    · rw [if_pos h2, if_neg h1, if_pos h2]
    · simp [h1, h2]
theorem ask_24 {r : Nat → Int32} (hC : InvC r) {x : Int32} (h : x = nI (nA r)) : (24 ≤ x → r 2 = 24) ∧ (¬ 24 ≤ x → ¬ r 2 = 24 ∧ nA r < 24) := by
  obtain ⟨e, hA⟩ := Inv.n2 hC
  subst h
  rw [e]
  constructor
  · intro c
    have := ge_nat (a := nA r) (b := 24) rfl rfl (by omega) (by omega) c
    rw [show nA r = 24 by omega]
    rfl
  · intro c
    have := lt_nat (a := nA r) (b := 24) rfl rfl (by omega) (by omega) c
    refine ⟨fun q => ?_, this⟩
    have := (nI_eq (a := nA r) (b := 24) (by omega) (by omega)).mp q
    omega
