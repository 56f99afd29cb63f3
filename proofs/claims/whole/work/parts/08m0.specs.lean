/-! the class: cells alone; what is put into a row -/
theorem WW.of {E : zE} {L : va_W} {H : Heap} (hP : va_P E.1 vwCl L H) (hD : ∀ (i j : Nat) (x y : Nat × va_E), L[i]? = some x → L[j]? = some y → x.1 = y.1 → i = j) : WW E L gN H :=
  ⟨hP, ⟨hD, fun _ _ _ => trivial⟩, fun (q : Nat) (e : va_E) (hq : gN q = some e) => absurd hq (by simp [gN]), fun (k : Nat) (x : Nat × va_E) (e : va_E) _ (hq : gN x.1 = some e) => absurd hq (by simp [gN])⟩
theorem WW.two {E : zE} {H : Heap} {a b : Nat} {x y : va_E} (h1 : va_at E.1 vwCl (a, x) H) (h2 : va_at E.1 vwCl (b, y) H) (hab : a ≠ b) : WW E [(a, x), (b, y)] gN H := by
  refine WW.of (fun k q hk => ?_) fun i j p q hi hj he => ?_
  · rcases k with _ | _ | k
    · cases hk; exact h1
    · cases hk; exact h2
    · simp at hk
  · rcases i with _ | _ | i <;> rcases j with _ | _ | j
    all_goals first | rfl | (simp at hi; done) | (simp at hj; done) | (simp at hi hj; subst hi; subst hj; first | exact absurd he hab | exact absurd he.symm hab)
theorem WW.four {E : zE} {H : Heap} {a b c d : Nat} {x y z u : va_E} (h1 : va_at E.1 vwCl (a, x) H) (h2 : va_at E.1 vwCl (b, y) H) (h3 : va_at E.1 vwCl (c, z) H) (h4 : va_at E.1 vwCl (d, u) H) (hab : a ≠ b) (hac : a ≠ c) (had : a ≠ d) (hbc : b ≠ c) (hbd : b ≠ d) (hcd : c ≠ d) : WW E [(a, x), (b, y), (c, z), (d, u)] gN H := by
  refine WW.of (fun k q hk => ?_) fun i j p q hi hj he => ?_
  · rcases k with _ | _ | _ | _ | k
    · cases hk; exact h1
    · cases hk; exact h2
    · cases hk; exact h3
    · cases hk; exact h4
    · simp at hk
  · rcases i with _ | _ | _ | _ | i <;> rcases j with _ | _ | _ | _ | j
    all_goals first | rfl | (simp at hi; done) | (simp at hj; done) | (simp at hi hj; subst hi; subst hj; first | exact absurd he hab | exact absurd he.symm hab | exact absurd he hac | exact absurd he.symm hac | exact absurd he had | exact absurd he.symm had | exact absurd he hbc | exact absurd he.symm hbc | exact absurd he hbd | exact absurd he.symm hbd | exact absurd he hcd | exact absurd he.symm hcd)
theorem G_ne {G : zG} {a b : Nat} {x y : va_E} (h1 : G a = some x) (h2 : G b = some y) (h : x ≠ y) : a ≠ b := fun e => by
  subst e
  rw [h1] at h2
  exact h (Option.some.inj h2)
theorem inr_inl {o : Nat × List Value} {i : ClassId × vp_A} : (.inr o : va_E) ≠ .inl i := fun h => by cases h
/-- what may be written where rows are put into -/
def bFr (b : Nat → Nat) (G : zG) (qr : Nat → Option Nat) : Nat → Prop := fun z => bF b z ∨ ∃ d p o, qr d = some p ∧ G p = some (ceW o z)
/-- no two shelves share their values -/
def RwD (G : zG) (qr : Nat → Option Nat) : Prop := ∀ d e p q o u w, qr d = some p → qr e = some q → G p = some (ceW o w) → G q = some (ceW u w) → d = e
/-- the map behind a write into a row -/
def PutG (d : Nat → ClassId) (G G2 : zG) (qr : Nat → Option Nat) : Prop := G2 = G ∨ ∃ k p o w z x y, qr k = some p ∧ G p = some (ceW o w) ∧ G w = some (ceI d z x) ∧ G2 = va_up G w (some (ceI d z y))
theorem ceW_inj {o u : Int32} {w v : Nat} (h : some (ceW o w) = some (ceW u v)) : o = u ∧ w = v := by
  injection h with h
  injection h with h
  injection h with _ h
  injection h with h1 h
  injection h1 with h1
  injection h with h2 _
  injection h2 with h2
  exact ⟨h1, h2⟩
theorem ShG_put {d : Nat → ClassId} {G : zG} {qt qr : Nat → Option Nat} {kp so sz el el2 pr ts : Nat → Int32} (h : ShG d G qt qr kp so sz el pr ts) (hD : RwD G qr) {m q w : Nat} {o : Int32} {x y : Nat → Int32} (hm : m < 8) (h1 : qr m = some q) (h2 : G q = some (ceW o w)) (h3 : G w = some (ceI d (iN (sz m)) x)) (hy : ∀ i, i < iN (sz m) → y i = el2 (100 * m + i)) (he : ∀ k, k < 8 → k ≠ m → ∀ i, i < 100 → el2 (100 * k + i) = el (100 * k + i)) : ShG d (va_up G w (some (ceI d (iN (sz m)) y))) qt qr kp so sz el2 pr ts := by
  refine ⟨h.1, fun k hk => ?_⟩
  rcases h.2 k hk with g | ⟨g1, g2, p, v0, v1, v2, v3, v4, v5, g3, g4, g5⟩ | ⟨g1, g2, p, u, z, g3, g4, g5, g6⟩
  · exact Or.inl g
  · refine Or.inr (Or.inl ⟨g1, g2, p, v0, v1, v2, v3, v4, v5, g3, ?_, g5⟩)
    rw [up_n (G_ne g4 h3 inr_inl)]; exact g4
  · by_cases c : k = m
    · subst c
      rw [h1] at g3
      cases g3
      refine Or.inr (Or.inr ⟨g1, g2, q, w, y, h1, ?_, up_s, hy⟩)
      rw [up_n (G_ne h2 h3 inr_inl)]
      obtain ⟨rfl, rfl⟩ := ceW_inj (h2.symm.trans g4)
      exact h2
    · have hne : u ≠ w := fun e => c (hD k m p q _ _ w g3 h1 (e ▸ g4) h2)
      refine Or.inr (Or.inr ⟨g1, g2, p, u, z, g3, ?_, ?_, fun i hi => ?_⟩)
      · rw [up_n (G_ne g4 h3 inr_inl)]; exact g4
      · rw [up_n hne]; exact g5
      · rw [g6 i hi]
        exact (he k hk c i (by have := (sz_nat h.1 hk).2; omega)).symm
theorem hf_C {z : Nat} (hz : z ≤ 100) (i n : Int32) : hfB z i n = (decide (0 ≤ i) && decide (0 ≤ n) && decide (i ≤ nI z) && decide (n ≤ nI z - i)) := by
  unfold hfB
  simp only [Int32.not_lt]
