/-! an array's entry by what lies below its size; the statements of a text -/
theorem arrV_below {d : ClassId} {n : Nat} {f g : Nat → Value} (h : ∀ j, j < n → f j = g j) : arrV d n f = arrV d n g := by
  unfold arrV
  congr 2
  funext j
  exact h j.val j.isLt
theorem WW.congr {E : zE} {ws : va_W} {G : zG} {H : Heap} (h : WW E ws G H) {i a n : Nat} {d : ClassId} {f g : Nat → Int32} (hi : ws[i]? = some (a, .inl (d, n, .inl f))) (hfg : ∀ j, j < n → f j = g j) : WW E (ws.set i (a, .inl (d, n, .inl g))) G H := by
  refine h.set hi ?_ fun q _ _ => rfl
  have h1 : H[a]? = some (vp_cell d (n, .inl f)) := h.at i hi
  show H[a]? = some (vp_cell d (n, .inl g))
  rw [h1, vp_cell_i, vp_cell_i, arrV_below fun j hj => by rw [hfg j hj]]
theorem nb_ge (tx : Nat → Int32) : ∀ r q v, q ≤ (nb tx r q v).1 := by
  intro r
  induction r with
  | zero => intro q v; exact Nat.le_refl _
  | succ r ih =>
    intro q v
    unfold nb
    split
    · exact Nat.le_trans (Nat.le_succ q) (ih (q + 1) _)
    · exact Nat.le_refl _
theorem pSy_ge {tx : Nat → Int32} {k : Nat} {s s2 : PS} (h : pSy tx k s = some s2) : s.1 < s2.1 := by
  unfold pSy at h
  split at h
  · split at h
    · injection h with h; rw [← h]; exact Nat.lt_succ_self _
    · cases h
  · split at h
    · split at h
      · injection h with h; rw [← h]; exact Nat.lt_of_lt_of_le (Nat.lt_succ_self _) (nb_ge _ _ _ _)
      · cases h
    · split at h
      · injection h with h; rw [← h]; exact Nat.lt_succ_self _
      · cases h
theorem pF_ge {tx : Nat → Int32} : ∀ (ks : List Nat) (s : PS), s.1 ≤ (pF tx ks s).2.1 := by
  intro ks
  induction ks with
  | nil => intro s; exact Nat.le_refl _
  | cons k ks ih =>
    intro s
    unfold pF
    split
    · exact Nat.le_refl _
    · rename_i s2 h
      exact Nat.le_trans (Nat.le_of_lt (pSy_ge h)) (ih s2)
theorem rdS_adv {tx : Nat → Int32} {q : Nat} {nu : Nat → Int32} (h : (rdS tx q nu).1 = true) : q < (rdS tx q nu).2.1.1 := by
  unfold rdS at h ⊢
  split
  · rename_i h1
    rw [if_pos h1] at h
    split
    · rename_i s hs
      rw [hs] at h
      exact absurd h (by simp)
    · rename_i s hs
      have h2 : q + 1 ≤ s.1 := by have := pF_ge (tx := tx) [110, 32, 110, 32, 110] (q + 1, nu, 0); rw [hs] at this; exact this
      split
      · exact Nat.lt_of_lt_of_le (Nat.lt_of_succ_le h2) (pF_ge [59] s)
      · rename_i s2 hs2
        exact Nat.lt_of_lt_of_le (Nat.lt_of_succ_le h2) (Nat.le_trans (Nat.le_of_lt (pSy_ge hs2)) (pF_ge [100, 32, 110, 59] s2))
  · rename_i h1
    rw [if_neg h1] at h
    split
    · exact Nat.lt_of_lt_of_le (Nat.lt_succ_self q) (pF_ge _ (q + 1, nu, 0))
    · rename_i h2
      rw [if_neg h2] at h
      split
      · exact Nat.lt_of_lt_of_le (Nat.lt_succ_self q) (pF_ge _ (q + 1, nu, 0))
      · rename_i h3
        rw [if_neg h3] at h
        split
        · exact Nat.lt_of_lt_of_le (Nat.lt_succ_self q) (pF_ge _ (q + 1, nu, 0))
        · rename_i h4
          rw [if_neg h4] at h
          exact absurd h (by decide)
/-- first phase: did all read, the place, how many, the numbers at the end -/
def ph1 (tx : Nat → Int32) (z : Nat) : Nat → Nat → (Nat → Int32) → Nat → Bool × Nat × Nat × (Nat → Int32)
  | 0, q, nu, k => (true, q, k, nu)
  | r + 1, q, nu, k =>
    if (rdS tx q nu).1 = true then
      (if (rdS tx q nu).2.1.1 < z then ph1 tx z r (rdS tx q nu).2.1.1 (rdS tx q nu).2.1.2.1 (k + 1) else (true, (rdS tx q nu).2.1.1, k + 1, (rdS tx q nu).2.1.2.1))
    else (false, (rdS tx q nu).2.1.1, k, (rdS tx q nu).2.1.2.1)
/-- second phase: did all come, the place of the statement that didn't, the row -/
def ph2 (tx : Nat → Int32) (z : Nat) : Nat → Nat → (Nat → Int32) → (Nat → Int32) → Bool × Nat × (Nat → Int32)
  | 0, q, _, g => (true, q, g)
  | r + 1, q, nu, g =>
    if q < z then
      (if cmO g (rdS tx q nu).2.1.2.1 (rdS tx q nu).2.2 (tx q) = true then ph2 tx z r (rdS tx q nu).2.1.1 (rdS tx q nu).2.1.2.1 (cmR g (rdS tx q nu).2.1.2.1 (rdS tx q nu).2.2 (tx q))
       else (false, q, cmR g (rdS tx q nu).2.1.2.1 (rdS tx q nu).2.2 (tx q)))
    else (true, q, g)
