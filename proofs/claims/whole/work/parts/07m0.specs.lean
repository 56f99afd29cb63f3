/-! an array's entry by what lies below its size; the statements of a text -/
theorem arrV_below {d : ClassId} {n : Nat} {f g : Nat → Value} (h : ∀ j, j < n → f j = g j) : arrV d n f = arrV d n g := by
  unfold arrV
  congr 2
  funext j
  exact h j.val j.isLt
theorem WW.congr {E : zE} {ws : va_W} {G : zG} {H : Heap} (h : WW E ws G H) {i a n : Nat} {d : ClassId} {f g : Nat → Int32} (hi : ws[i]? = some (a, .inl (d, n, .inl f))) (hfg : ∀ j, j < n → f j = g j) : WW E (ws.set i (a, .inl (d, n, .inl g))) G H := by
  refine h.set hi ?_ fun q _ _ => rfl
  have h1 : H[a]? = some (vp_cell d (n, .inl f)) := h.at i hi
  show H[a]? = some (vp_cell d (n, .inl g))
  rw [h1, vp_cell_i, vp_cell_i, arrV_below fun j hj => by rw [hfg j hj]]
theorem nb_ge (tx : Nat → Int32) : ∀ r q v, q ≤ (nb tx r q v).1 := by
  intro r
  induction r with
  | zero => intro q v; exact Nat.le_refl _
  | succ r ih =>
    intro q v
    unfold nb
    split
    · exact Nat.le_trans (Nat.le_succ q) (ih (q + 1) _)
    · exact Nat.le_refl _
theorem pSy_ge {tx : Nat → Int32} {k : Nat} {s s2 : PS} (h : pSy tx k s = some s2) : s.1 < s2.1 := by
  unfold pSy at h
  split at h
  · split at h
    · injection h with h; rw [← h]; exact Nat.lt_succ_self _
    · cases h
  · split at h
    · split at h
      · injection h with h; rw [← h]; exact Nat.lt_of_lt_of_le (Nat.lt_succ_self _) (nb_ge _ _ _ _)
      · cases h
    · split at h
      · injection h with h; rw [← h]; exact Nat.lt_succ_self _
      · cases h
theorem pF_ge {tx : Nat → Int32} : ∀ (ks : List Nat) (s : PS), s.1 ≤ (pF tx ks s).2.1 := by
  intro ks
  induction ks with
  | nil => intro s; exact Nat.le_refl _
  | cons k ks ih =>
    intro s
    unfold pF
    split
    · exact Nat.le_refl _
    · rename_i s2 h
      exact Nat.le_trans (Nat.le_of_lt (pSy_ge h)) (ih s2)
theorem rdS_adv {tx : Nat → Int32} {q : Nat} {nu : Nat → Int32} (h : (rdS tx q nu).1 = true) : q < (rdS tx q nu).2.1.1 := by
  unfold rdS at h ⊢
  split
  · rename_i h1
    rw [if_pos h1] at h
    split
    · rename_i s hs
      rw [hs] at h
      exact absurd h (by simp)
    · rename_i s hs
      have h2 : q + 1 ≤ s.1 := by have := pF_ge (tx := tx) [110, 32, 110, 32, 110] (q + 1, nu, 0); rw [hs] at this; exact this
      split
      · exact Nat.lt_of_lt_of_le (Nat.lt_of_succ_le h2) (pF_ge [59] s)
      · rename_i s2 hs2
        exact Nat.lt_of_lt_of_le (Nat.lt_of_succ_le h2) (Nat.le_trans (Nat.le_of_lt (pSy_ge hs2)) (pF_ge [100, 32, 110, 59] s2))
  · rename_i h1
    rw [if_neg h1] at h
    split
    · exact Nat.lt_of_lt_of_le (Nat.lt_succ_self q) (pF_ge _ (q + 1, nu, 0))
    · rename_i h2
      rw [if_neg h2] at h
      split
      · exact Nat.lt_of_lt_of_le (Nat.lt_succ_self q) (pF_ge _ (q + 1, nu, 0))
      · rename_i h3
        rw [if_neg h3] at h
        split
        · exact Nat.lt_of_lt_of_le (Nat.lt_succ_self q) (pF_ge _ (q + 1, nu, 0))
        · rename_i h4
          rw [if_neg h4] at h
          exact absurd h (by simp)
/-- first phase: did all read, the place, how many, the numbers at the end -/
def ph1 (tx : Nat → Int32) (z : Nat) : Nat → Nat → (Nat → Int32) → Nat → Bool × Nat × Nat × (Nat → Int32)
  | 0, q, nu, k => (true, q, k, nu)
  | r + 1, q, nu, k =>
    if (rdS tx q nu).1 = true then
      (if (rdS tx q nu).2.1.1 < z then ph1 tx z r (rdS tx q nu).2.1.1 (rdS tx q nu).2.1.2.1 (k + 1) else (true, (rdS tx q nu).2.1.1, k + 1, (rdS tx q nu).2.1.2.1))
    else (false, (rdS tx q nu).2.1.1, k, (rdS tx q nu).2.1.2.1)
/-- second phase: did all come, the place of the statement that didn't, the row -/
def ph2 (tx : Nat → Int32) (z : Nat) : Nat → Nat → (Nat → Int32) → (Nat → Int32) → Bool × Nat × (Nat → Int32)
  | 0, q, _, g => (true, q, g)
  | r + 1, q, nu, g =>
    if q < z then
      (if cmO g (rdS tx q nu).2.1.2.1 (rdS tx q nu).2.2 (tx q) = true then ph2 tx z r (rdS tx q nu).2.1.1 (rdS tx q nu).2.1.2.1 (cmR g (rdS tx q nu).2.1.2.1 (rdS tx q nu).2.2 (tx q))
       else (false, q, cmR g (rdS tx q nu).2.1.2.1 (rdS tx q nu).2.2 (tx q)))
    else (true, q, g)
theorem InvC_cm {g nu : Nat → Int32} {ij : Bool} {x : Int32} (h : InvC g) (ho : cmO g nu ij x = true) : InvC (cmR g nu ij x) := by
  have i1 : (1 : Int32).toInt = 1 := rfl
  have i7 : (7 : Int32).toInt = 7 := rfl
  have i10 : (10 : Int32).toInt = 10 := rfl
  obtain ⟨h0, h1, h2⟩ := h
  unfold cmO at ho
  unfold cmR
  split
  · rename_i c
    rw [if_pos c] at ho
    unfold cpRd
    rw [if_pos ho]
    unfold cpX
    unfold cpO at ho
    simp only [Bool.and_eq_true, decide_eq_true_eq] at ho
    have hl := ho.1.1.2
    rw [Int32.lt_iff_toInt_lt, i10] at hl
    have e : ∀ j, j ≠ 0 → j < 8 → upd (upd (upd (upd (rwA g nu (8 + 6 * nP g) 3) (8 + 6 * nP g + 3) (if ij = true then nu 3 else -4)) (8 + 6 * nP g + 4) (if ij = true then nu 4 else 0)) (8 + 6 * nP g + 5) 0) 0 (g 0 + 1) j = g j := fun j a b => by
      rw [upd_ne _ _ a, upd_ne _ _ (by omega), upd_ne _ _ (by omega), upd_ne _ _ (by omega), rwA_lo _ _ _ (by omega)]
    unfold InvC
    rw [e 1 (by decide) (by decide), e 2 (by decide) (by decide), upd_self]
    refine ⟨?_, h1, h2⟩
    unfold rg at h0 ⊢
    rw [ti_add (by omega) (by omega)]
    omega
  · rename_i c
    rw [if_neg c] at ho
    split
    · rename_i c2
      rw [if_pos c2] at ho
      unfold ctRd
      rw [if_pos ho]
      unfold ctX
      unfold ctO at ho
      simp only [Bool.and_eq_true, decide_eq_true_eq] at ho
      have hl := ho.1.2
      rw [Int32.lt_iff_toInt_lt, i7] at hl
      have e : ∀ j, j ≠ 1 → j < 8 → upd (rwA g nu (68 + 5 * nT g) 5) 1 (g 1 + 1) j = g j := fun j a b => by
        rw [upd_ne _ _ a, rwA_lo _ _ _ (by omega)]
      unfold InvC
      rw [e 0 (by decide) (by decide), e 2 (by decide) (by decide), upd_self]
      refine ⟨h0, ?_, h2⟩
      unfold rg at h1 ⊢
      rw [ti_add (by omega) (by omega)]
      omega
    · split
      · unfold InvC
        rw [upd_ne _ _ (by decide), upd_ne _ _ (by decide), upd_ne _ _ (by decide)]
        exact ⟨h0, h1, h2⟩
      · split
        · unfold InvC
          rw [upd_ne _ _ (by decide), upd_ne _ _ (by decide), upd_ne _ _ (by decide)]
          exact ⟨h0, h1, h2⟩
        · unfold InvC
          rw [upd_ne _ _ (by decide), upd_ne _ _ (by decide), upd_ne _ _ (by decide)]
          exact ⟨h0, h1, h2⟩
/-- what reading the text in shelf d (place n, size z) answers; the row behind it -/
def inA (tx : Nat → Int32) (z : Nat) (sv nu : Nat → Int32) : Int32 :=
  if (ph1 tx z 101 0 nu 0).1 = true then
    (if (ph2 tx z 101 0 (ph1 tx z 101 0 nu 0).2.2.2 sv).1 = true then nI (ph1 tx z 101 0 nu 0).2.2.1
     else -2000 - nI (ph2 tx z 101 0 (ph1 tx z 101 0 nu 0).2.2.2 sv).2.1)
  else -1000 - nI (ph1 tx z 101 0 nu 0).2.1
def inS (tx : Nat → Int32) (z : Nat) (sv nu : Nat → Int32) : Nat → Int32 :=
  if (ph1 tx z 101 0 nu 0).1 = true ∧ (ph2 tx z 101 0 (ph1 tx z 101 0 nu 0).2.2.2 sv).1 = true then (ph2 tx z 101 0 (ph1 tx z 101 0 nu 0).2.2.2 sv).2.2 else sv
def instR (kp so sz el sv nu : Nat → Int32) (d : Int32) : Int32 := if wrR kp so d 0 = 0 then inA (hrT el (iN d) (iN (sz (iN d)))) (iN (sz (iN d))) sv nu else wrR kp so d 0
def instS (kp so sz el sv nu : Nat → Int32) (d : Int32) : Nat → Int32 := if wrR kp so d 0 = 0 then inS (hrT el (iN d) (iN (sz (iN d)))) (iN (sz (iN d))) sv nu else sv
theorem ph1_bad {tx : Nat → Int32} {z r q k : Nat} {nu : Nat → Int32} (hr : 0 < r) (h : ¬ (rdS tx q nu).1 = true) : ph1 tx z r q nu k = (false, (rdS tx q nu).2.1.1, k, (rdS tx q nu).2.1.2.1) := by
  cases r with
  | zero => omega
  | succ r => rw [ph1, if_neg h]
theorem ph1_go {tx : Nat → Int32} {z r q k : Nat} {nu : Nat → Int32} (hr : 0 < r) (h : (rdS tx q nu).1 = true) (h2 : (rdS tx q nu).2.1.1 < z) : ph1 tx z r q nu k = ph1 tx z (r - 1) (rdS tx q nu).2.1.1 (rdS tx q nu).2.1.2.1 (k + 1) := by
  cases r with
  | zero => omega
  | succ r => rw [ph1, if_pos h, if_pos h2]; rfl
theorem ph1_end {tx : Nat → Int32} {z r q k : Nat} {nu : Nat → Int32} (hr : 0 < r) (h : (rdS tx q nu).1 = true) (h2 : ¬ (rdS tx q nu).2.1.1 < z) : ph1 tx z r q nu k = (true, (rdS tx q nu).2.1.1, k + 1, (rdS tx q nu).2.1.2.1) := by
  cases r with
  | zero => omega
  | succ r => rw [ph1, if_pos h, if_neg h2]
theorem ph2_end {tx : Nat → Int32} {z r q : Nat} {nu g : Nat → Int32} (h : ¬ q < z) : ph2 tx z r q nu g = (true, q, g) := by
  cases r with
  | zero => rfl
  | succ r => rw [ph2, if_neg h]
theorem ph2_go {tx : Nat → Int32} {z r q : Nat} {nu g : Nat → Int32} (hr : 0 < r) (hq : q < z) (h : cmO g (rdS tx q nu).2.1.2.1 (rdS tx q nu).2.2 (tx q) = true) : ph2 tx z r q nu g = ph2 tx z (r - 1) (rdS tx q nu).2.1.1 (rdS tx q nu).2.1.2.1 (cmR g (rdS tx q nu).2.1.2.1 (rdS tx q nu).2.2 (tx q)) := by
  cases r with
  | zero => omega
  | succ r => rw [ph2, if_pos hq, if_pos h]; rfl
theorem ph2_bad {tx : Nat → Int32} {z r q : Nat} {nu g : Nat → Int32} (hr : 0 < r) (hq : q < z) (h : ¬ cmO g (rdS tx q nu).2.1.2.1 (rdS tx q nu).2.2 (tx q) = true) : ph2 tx z r q nu g = (false, q, cmR g (rdS tx q nu).2.1.2.1 (rdS tx q nu).2.2 (tx q)) := by
  cases r with
  | zero => omega
  | succ r => rw [ph2, if_pos hq, if_neg h]
