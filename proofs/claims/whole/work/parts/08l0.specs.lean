/-! the class: rows and asks that are new -/
theorem le_nat {x : Int32} {B : Nat} {b : Int32} (h0 : 0 ≤ x) (hb : x ≤ b) (e : b.toInt = B) : ∃ k, k ≤ B ∧ x = nI k := by
  refine inL_nat (b := b) ?_ e
  unfold inL
  rw [decide_eq_true h0, decide_eq_true hb]
  rfl
/-- rows that are there now were there, or their values are at a new place -/
def RowNw (G G2 : zG) (qr qr2 : Nat → Option Nat) : Prop := ∀ d q o w, qr2 d = some q → G2 q = some (ceW o w) → (qr d = some q ∧ G q = some (ceW o w)) ∨ ∀ z e, G z = some e → z ≠ w
theorem RowNw.rf (G : zG) (qr : Nat → Option Nat) : RowNw G G qr qr := fun _ _ _ _ h1 h2 => Or.inl ⟨h1, h2⟩
theorem RowNw.up {G G2 : zG} {qr : Nat → Option Nat} {m q w : Nat} {o : Int32} (hq : G2 q = some (ceW o w)) (hf : ∀ z e, G z = some e → z ≠ w) (hS : ∀ d p, qr d = some p → ∃ e, G p = some e) (hL : GLe G G2) : RowNw G G2 qr (va_up qr m (some q)) := fun d p o' w' h1 h2 => by
  by_cases c : d = m
  · subst c
    rw [up_self] at h1
    cases h1
    rw [hq] at h2
    injection h2 with h2
    injection h2 with h2
    injection h2 with _ h2
    injection h2 with _ h2
    injection h2 with h2
    injection h2 with h2
    subst h2
    exact Or.inr hf
  · rw [up_ne c] at h1
    obtain ⟨e, he⟩ := hS d p h1
    have := hL _ _ he
    rw [h2] at this
    exact Or.inl ⟨h1, by rw [he, this]⟩
theorem RowNw.no {G G2 : zG} {qr : Nat → Option Nat} (hS : ∀ d p, qr d = some p → ∃ e, G p = some e) (hL : GLe G G2) : RowNw G G2 qr qr := fun d p o' w' h1 h2 => by
  obtain ⟨e, he⟩ := hS d p h1
  have := hL _ _ he
  rw [h2] at this
  exact Or.inl ⟨h1, by rw [he, this]⟩
/-- the wax of the asks that are there now -/
def WxOf (G : zG) (ap : Nat → Option Nat) (i w : Nat) : Prop := ∃ q f s h b t h2 d p r o, ap i = some q ∧ G q = some (ceA f s h b t) ∧ G t = some (ceS h2 d p r o w)
