/-! what is new in a map; shelves that share nothing -/
def FrG (G G2 : zG) (N : Nat) : Prop := ∀ z e, G2 z = some e → (∃ e0, G z = some e0) ∨ N ≤ z
theorem FrG.rf (G : zG) (N : Nat) : FrG G G N := fun _ e h => Or.inl ⟨e, h⟩
theorem FrG.st {G G2 : zG} {q N : Nat} {x : va_E} (h0 : FrG G G2 N) (h : N ≤ q) : FrG G (va_up G2 q (some x)) N := fun z e hz => by
  by_cases c : z = q
  · subst c; exact Or.inr h
  · exact h0 z e (by simpa [va_up, c] using hz)
theorem FrG.up {G : zG} {q N : Nat} {x : va_E} (h : N ≤ q) : FrG G (va_up G q (some x)) N := (FrG.rf G N).st h
theorem FrG.tr {G G2 G3 : zG} {N N2 : Nat} (h : FrG G G2 N) (h2 : FrG G2 G3 N2) (hN : N ≤ N2) : FrG G G3 N := fun z e hz => by
  rcases h2 z e hz with ⟨e0, h0⟩ | h0
  · exact h z e0 h0
  · exact Or.inr (Nat.le_trans hN h0)
def RwE (G : zG) (qr : Nat → Option Nat) : Prop := ∀ d e p q o u w, qr d = some p → qr e = some q → G p = some (ceW o w) → G q = some (ceW u w) → d = e
def RwI (G : zG) (qr : Nat → Option Nat) : Prop := ∀ k q o w, qr k = some q → G q = some (ceW o w) → ∃ e, G w = some e
theorem cW_inj {o u : Int32} {w v : Nat} (h : some (ceW o w) = some (ceW u v)) : o = u ∧ w = v := by
  injection h with h
  injection h with h
  injection h with _ h
  injection h with h1 h
  injection h1 with h1
  injection h with h2 _
  injection h2 with h2
  exact ⟨h1, h2⟩
theorem RwE_up {G G2 : zG} {qr : Nat → Option Nat} {m q w : Nat} {o : Int32} (hq : G2 q = some (ceW o w)) (hf : ∀ z e, G z = some e → z ≠ w) (hdm : ∀ k q, qr k = some q → ∃ e, G q = some e) (hL : ∀ q e, G q = some e → G2 q = some e) : RwI G qr → RwE G qr → RwE G2 (va_up qr m (some q)) := by
  intro hI hE d e p p2 o1 o2 w1 h1 h2 h3 h4
  have old : ∀ k r o3, qr k = some r → G2 r = some (ceW o3 w1) → G r = some (ceW o3 w1) ∧ w1 ≠ w := fun k r o3 a1 a2 => by
    obtain ⟨e1, b1⟩ := hdm k r a1
    have b2 := hL _ _ b1
    rw [a2] at b2
    cases b2
    obtain ⟨e2, b3⟩ := hI k r o3 w1 a1 b1
    exact ⟨b1, hf _ _ b3⟩
  have new : ∀ k r o3, va_up qr m (some q) k = some r → k = m → G2 r = some (ceW o3 w1) → w1 = w := fun k r o3 a1 a2 a3 => by
    subst a2
    have : some q = some r := by simpa [va_up] using a1
    cases this
    exact (cW_inj (a3.symm.trans hq)).2
  have go : ∀ k r, va_up qr m (some q) k = some r → k ≠ m → qr k = some r := fun k r a1 a2 => by simpa [va_up, a2] using a1
  by_cases c : d = m <;> by_cases c2 : e = m
  · rw [c, c2]
  · exact absurd (new d p o1 h1 c h3) (old e p2 o2 (go e p2 h2 c2) h4).2
  · exact absurd (new e p2 o2 h2 c2 h4) (old d p o1 (go d p h1 c) h3).2
  · exact hE d e p p2 o1 o2 w1 (go d p h1 c) (go e p2 h2 c2) (old d p o1 (go d p h1 c) h3).1 (old e p2 o2 (go e p2 h2 c2) h4).1
theorem RwE_old {G G2 : zG} {qr : Nat → Option Nat} (hdm : ∀ k q, qr k = some q → ∃ e, G q = some e) (hL : ∀ q e, G q = some e → G2 q = some e) (hE : RwE G qr) : RwE G2 qr := fun d e p q o u w h1 h2 h3 h4 => by
  obtain ⟨e1, b1⟩ := hdm d p h1
  obtain ⟨e2, b2⟩ := hdm e q h2
  have c1 := hL _ _ b1
  have c2 := hL _ _ b2
  rw [h3] at c1; cases c1
  rw [h4] at c2; cases c2
  exact hE d e p q o u w h1 h2 b1 b2
theorem qk_up {qr : Nat → Option Nat} {m : Nat} : ∀ k q, va_up qr m none k = some q → qr k = some q := fun k q h => by
  by_cases c : k = m
  · subst c; simp [va_up] at h
  · simpa [va_up, c] using h
