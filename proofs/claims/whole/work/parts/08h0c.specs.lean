/-! the class: small facts of odds and length -/
theorem gtn_i {a : Nat} (h : 0 < a) (ha : a < 2147483648) : 0 < nI a := by
  have := (nI_ltI (a := 0) (b := a) (by omega) ha).mpr h
  exact this
theorem gp_t {a b : Bool} (h : bI a = bI b) : (a == b) = true := by cases a <;> cases b <;> first | rfl | exact absurd h (by decide)
theorem gp_f {a b : Bool} (h : ¬ bI a = bI b) : (a == b) = false := by cases a <;> cases b <;> first | rfl | exact absurd rfl h
theorem ln_next {r : Nat → Int32} {n i : Nat} (h : ∀ g, g < i → lnT r n (g + 1) = false) (h2 : lnT r n (i + 1) = false) : ∀ g, g < i + 1 → lnT r n (g + 1) = false := fun g hg => by
  by_cases c : g = i
  · subst c; exact h2
  · exact h g (by omega)
theorem ln_prev {r : Nat → Int32} {n i : Nat} (h : ∀ g, 999 - i ≤ g → g < 999 → lnT r n (g + 1) = false) (hi : i < 999) (h2 : lnT r n (999 - i) = false) : ∀ g, 999 - (i + 1) ≤ g → g < 999 → lnT r n (g + 1) = false := fun g h1 hg => by
  by_cases c : g = 998 - i
  · rw [show g + 1 = 999 - i by omega]; exact h2
  · exact h g (by omega) hg
theorem ln_s {i : Nat} (h : i < 999) : nI (999 - i) + -1 = nI (999 - (i + 1)) := by
  obtain ⟨k, hk⟩ : ∃ k, 999 - i = k + 1 := ⟨998 - i, by omega⟩
  rw [hk, show 999 - (i + 1) = k by omega, ← nI_p1 k]
  exact (Int32.sub_eq_add_neg _ _).symm
theorem ln_1h {r : Nat → Int32} {n i : Nat} (hi : i < 999) (h : ∀ g, 999 - i ≤ g → g < 999 → lnT r n (g + 1) = false) (h2 : lnT r n (999 - i) = true) : nI (999 - i) = lnS r n 1 999 := by
  rw [ln_1hit (k := 998 - i) (by omega) (fun g h1 h3 => h g (by omega) h3) (by rw [show 998 - i + 1 = 999 - i by omega]; exact h2), show 998 - i + 1 = 999 - i by omega]
