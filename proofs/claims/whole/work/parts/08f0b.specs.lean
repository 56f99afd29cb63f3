/-! the class: small facts of its walks -/
theorem sw_0 {r : Nat → Int32} (hC : InvC r) (hS : InvS r) (h : InvP r) {f st : Int32} (hf : rg f 1 2400) (hst : rg st 1 99) {n : Nat} (hn : n < nP r) : 0 ≤ sw r n f st := by
  have := (sw_rg hC hS h hf hst n hn).1
  rw [Int32.le_iff_toInt_le]
  exact this
theorem judge_w {kp so : Nat → Int32} {d : Int32} (_ : ¬ wrR kp so d (-1) = 0) : wrR kp so d (-1) = if inL d 0 7 = true then wrR kp so d (-1) else -1 := by
  split
  · rfl
  · rename_i h
    exact wrR_m1.mpr (Bool.eq_false_iff.mpr h)
theorem ten_i (i : Nat) : (10 : Int32) * nI i + 10 = 10 * (nI i + 1) := by
  rw [nI_1, show (10 : Int32) = nI 10 from rfl, nI_mul, nI_mul, nI_add]
  rfl
theorem nx_4 {r : Nat → Int32} {st : Int32} : ∀ k, k ≤ 100 → (nxS r st k).1 = -4 ∨ 0 ≤ (nxS r st k).1 := by
  intro k
  induction k with
  | zero => intro _; exact Or.inl rfl
  | succ k ih =>
    intro hk
    rw [nxS]
    split
    · exact ih (by omega)
    · refine Or.inr ?_
      have h1 : (nI (10 * (k + 1))).toInt = (10 * (k + 1) : Nat) := nI_toInt (by omega)
      rw [Int32.le_iff_toInt_le, h1]
      have e0 : (0 : Int32).toInt = 0 := rfl
      omega
theorem nx_new {r : Nat → Int32} {st : Int32} {k : Nat} (h : (nxS r st k).1 = -4 ∨ nxV r st (k + 1) < (nxS r st k).2) : (nxS r st (k + 1)).1 = nI (10 * (k + 1)) ∧ (nxS r st (k + 1)).2 = nxV r st (k + 1) := by
  rw [nxS, if_neg]
  · exact ⟨rfl, rfl⟩
  · rintro ⟨h1, h2⟩
    rcases h with h | h
    · rw [h] at h1; exact absurd h1 (by decide)
    · exact Int32.not_lt.mpr h2 h
theorem nx_old {r : Nat → Int32} {st : Int32} {k : Nat} (h4 : (nxS r st k).1 = -4 ∨ 0 ≤ (nxS r st k).1) (h : ¬ (nxS r st k).1 = -4) (h2 : (nxS r st k).2 ≤ nxV r st (k + 1)) : (nxS r st (k + 1)).1 = (nxS r st k).1 ∧ (nxS r st (k + 1)).2 = (nxS r st k).2 := by
  rw [nxS, if_pos ⟨h4.resolve_left h, h2⟩]
  exact ⟨rfl, rfl⟩
theorem nle0 {n : Nat} (hn : n < 2147483648) (h : nI n ≤ 0) : n = 0 := by
  have := ge_nat (a := 0) (b := n) rfl rfl (by omega) hn h
  omega
theorem wf_pair {r : Nat → Int32} {x : Int32} (h0 : 0 ≤ x) (h : ¬ wfO r x < 0) : ∃ a b, a < nP r ∧ b < nP r ∧ wfO r x = nI (10 * a + b) := by
  unfold wfO at h ⊢
  cases hw : wA r x (nP r) 0 0 with
  | mk o n =>
    cases o with
    | none => rw [hw] at h; simp only at h; rw [if_pos h0] at h; exact absurd (by decide) h
    | some y =>
      obtain ⟨c, d, -, h2, h3, h4, -⟩ := wA_some _ _ _ _ _ hw
      exact ⟨c, d, by omega, h3, by rw [h4]⟩
theorem nz_gt {x : Int32} (h : 0 < x) : ¬ x = 0 := fun e => by rw [e] at h; exact absurd h (by decide)
theorem ge_of_nlt {x : Int32} (h : ¬ x < 0) : 0 ≤ x := Int32.not_lt.mp h
theorem pair_a {x : Int32} {a b : Nat} (ha : a < 10) (hb : b < 10) (e : x = nI (10 * a + b)) : x / 10 = nI a := by
  rw [e, show (10 : Int32) = nI 10 from rfl, nI_div (by omega) (by decide), show (10 * a + b) / 10 = a by omega]
theorem pair_b {x : Int32} {a b : Nat} (ha : a < 10) (hb : b < 10) (e : x = nI (10 * a + b)) : irm x 10 = nI b := by
  rw [e, show (10 : Int32) = nI 10 from rfl, irm_nI (by omega) (by decide), show (10 * a + b) % 10 = b by omega]
theorem amt_0 {v : Int32} (h1 : -100000 ≤ v.toInt) (h : ¬ 0 < amt v) : amt v = 0 := by
  have e0 : (0 : Int32).toInt = 0 := rfl
  unfold amt at h ⊢
  by_cases c : v < 0
  · rw [if_pos c] at h
    exfalso
    apply h
    rw [Int32.lt_iff_toInt_lt] at c ⊢
    rw [ti_neg (by omega)]
    omega
  · rw [if_neg c] at h ⊢
    exact Int32.le_antisymm (Int32.not_lt.mp h) (Int32.not_lt.mp c)
theorem bt_1 {r : Nat → Int32} (hI : Inv r) {x : Int32} {a b : Nat} (ha : a < nP r) (hb : b < nP r) (e : wfO r x = nI (10 * a + b)) (h : 0 < amt (tnN r a - tnN r b)) : btO r (wfO r x) = 600 / amt (tnN r a - tnN r b) := by
  have hP := (Inv.n0 hI.1).2
  rw [e, btO_eq (by omega) (by omega), if_neg (nz_gt h)]
theorem bt_0 {r : Nat → Int32} (hI : Inv r) {x : Int32} {a b : Nat} (ha : a < nP r) (hb : b < nP r) (e : wfO r x = nI (10 * a + b)) (h : ¬ 0 < amt (tnN r a - tnN r b)) : btO r (wfO r x) = 600 := by
  have hP := (Inv.n0 hI.1).2
  have h1 := tnN_rg hI.1 hI.2.1 hI.2.2.1 ha
  have h2 := tnN_rg hI.1 hI.2.1 hI.2.2.1 hb
  unfold rg at h1 h2
  rw [e, btO_eq (by omega) (by omega), if_pos (amt_0 (by rw [ti_sub (by omega) (by omega)]; omega) h)]
