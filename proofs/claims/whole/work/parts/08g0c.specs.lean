/-! the class: counting bits; small facts of fewest and rattles -/
def usr (x y : Int32) : Int32 := (x.toUInt32 >>> (y.toUInt32 &&& Int32.toUInt32 31)).toInt32
def bcF (x : Int32) : Int32 :=
  let a := x - (usr x 1 &&& 1431655765)
  let b := (a &&& 858993459) + (usr a 2 &&& 858993459)
  let c := (b + usr b 4) &&& 252645135
  let d := c + usr c 8
  let e := d + usr d 16
  e &&& 63
theorem bc_all : ∀ v, v < 1024 → bcF (nI v) = nI (pop v) := by decide +kernel
theorem bc_pop (v : Nat) (h : v < 1024) {x : Int32} (e : x = bcF (nI v) := by rfl) : x = nI (pop v) := e.trans (bc_all v h)
theorem fe_sub {i u w : Nat} (h : i &&& w = w) (hs : i &&& u = i) : u &&& w = w := by
  apply Nat.eq_of_testBit_eq
  intro k
  have h1 : (i &&& w).testBit k = w.testBit k := by rw [h]
  have h2 : (i &&& u).testBit k = i.testBit k := by rw [hs]
  rw [Nat.testBit_and] at h1 h2 ⊢
  cases a : i.testBit k <;> cases b : u.testBit k <;> cases c : w.testBit k <;> simp_all
theorem fe_up {u i : Nat} {f g : Nat → Int32} {x : Int32} (h : ∀ w, w < i → u &&& w = w → f w = g w) (e : x = g i) : ∀ w, w < i + 1 → u &&& w = w → upd f i x w = g w := fun w hw hs => by
  by_cases c : w = i
  · subst c; rw [upd_self]; exact e
  · rw [upd_ne _ _ c]; exact h w (by omega) hs
theorem fe_no {u i : Nat} {f g : Nat → Int32} {x : Int32} (h : ∀ w, w < i → u &&& w = w → f w = g w) (e : ¬ i &&& u = i) : ∀ w, w < i + 1 → u &&& w = w → upd f i x w = g w := fun w hw hs => by
  by_cases c : w = i
  · subst c; exact absurd (by rw [Nat.and_comm]; exact hs) e
  · rw [upd_ne _ _ c]; exact h w (by omega) hs
theorem fe_ret {r kp so sz el tb : Nat → Int32} {n u : Nat} {st : Int32} (h7 : inL (nI n) 0 7 = true) (hs : inL st 1 99 = true) (hw : wtT kp so sz el (nI n) 6 = 0) (h0 : ¬ ftA r = 0) (hN : iN (nI n) = n) (hu : ftA r = nI u) (hu2 : u < 2147483648) (ht : ∀ j, j < iN (sz n) → tb j = hrA r (el (100 * n + j)) st) : wo tb (iN (sz n)) u = fewestP r kp so sz el (nI n) st := by
  unfold fewestP
  rw [if_pos ⟨h7, hs⟩, if_pos hw, if_neg h0, hN, hu, iN_nI hu2]
  exact wo_congr ht u
theorem ra_m1 {k : Nat} (h : 0 < k) : nI k - 1 = nI (k - 1) := by
  obtain ⟨j, rfl⟩ : ∃ j, k = j + 1 := ⟨k - 1, by omega⟩
  rw [nI_p1, Nat.add_sub_cancel]
theorem ra_all {z : Nat} (h : z ≤ 10) : (1 : Int32) <<< (nI z &&& 31) - 1 = nI (2 ^ z - 1) := by
  rw [shl_pow10 z (by omega)]
  exact ra_m1 (Nat.two_pow_pos _)
theorem ra_init {ht : Nat → Int32} {z : Nat} (hz : z ≤ 10) : raB ht z (2 ^ z - 1) (2 ^ z - 1) (2 ^ z) := by
  refine ⟨some_full hz, fun m h1 h2 _ => Or.inr ?_⟩
  rw [show m = 2 ^ z - 1 by omega]
  exact ⟨rfl, Nat.le_refl _⟩
theorem ra_neg {k : Nat} (hk : k < 100000) (h : nI k - 1 < 0) : k = 0 := by
  rcases Nat.eq_zero_or_pos k with q | q
  · exact q
  · rw [ra_m1 q] at h
    exact absurd h (nI_n0 (by omega))
theorem ra_pos {k : Nat} (h : ¬ nI k - 1 < 0) : 0 < k := by
  rcases Nat.eq_zero_or_pos k with q | q
  · subst q; exact absurd (by decide) h
  · exact q
theorem ra_s1 {k : Nat} (h : 0 < k) : nI k - 1 + -1 = nI (k - 1) - 1 := by
  rw [ra_m1 h]
  exact (Int32.sub_eq_add_neg _ _).symm
theorem ra_gt {a b : Nat} (ha : a < 1024) (hb : b < 1024) (h : nI (pop b) < nI (pop a)) : ¬ pop a ≤ pop b := by
  have := pop_le a ha
  have := pop_le b hb
  have := (nI_ltI (by omega) (by omega)).mp h
  omega
theorem ra_le {a b : Nat} (ha : a < 1024) (hb : b < 1024) (h : ¬ nI (pop b) < nI (pop a)) : pop a ≤ pop b := by
  have := pop_le a ha
  have := pop_le b hb
  have := (not_congr (nI_ltI (by omega) (by omega))).mp h
  omega
