theorem woS_val {W : Int32 → Int32} {ht : Nat → Int32} {set b x y : Int32} {i : Nat} (h1 : ¬ set &&& ht i = 0) (h2 : ¬ set &&& ht i = set) (e1 : W (set &&& ht i) = x) (e2 : W (set &&& (set &&& ht i ^^^ -1)) = y) : woS W ht set b i = if b < 0 ∨ 1 + mxI x y < b then 1 + mxI x y else b := by
  unfold woS
  rw [if_neg (not_or.mpr ⟨h1, h2⟩), e1, e2]
theorem frS_skip {sv : Nat → Int32} {u : Int32} {m : Nat} (h : ¬ u &&& (nI m ^^^ -1) = 0) : frS sv u (m + 1) = frS sv u m := by
  rw [frS, if_pos h]
theorem frS_new {sv : Nat → Int32} {u : Int32} {m : Nat} (h : u &&& (nI m ^^^ -1) = 0) (h1 : (frS sv u m).2 < 0 ∨ cstN sv (nI m) (nT sv) < (frS sv u m).2) : frS sv u (m + 1) = (nI m, cstN sv (nI m) (nT sv)) := by
  rw [frS, if_neg (Decidable.not_not.mpr h), if_neg]
  rintro ⟨q1, q2⟩
  rcases h1 with h1 | h1
  · exact i_nlt.mpr q1 h1
  · exact i_nlt.mpr q2 h1
theorem frS_old {sv : Nat → Int32} {u : Int32} {m : Nat} (h : u &&& (nI m ^^^ -1) = 0) (h1 : ¬ (frS sv u m).2 < 0) (h2 : ¬ cstN sv (nI m) (nT sv) < (frS sv u m).2) : frS sv u (m + 1) = frS sv u m := by
  rw [frS, if_neg (Decidable.not_not.mpr h), if_pos ⟨i_nlt.mp h1, i_nlt.mp h2⟩]
theorem sI {x y : Int32} (h : x = y) : some (Value.int x) = some (Value.int y) := by rw [h]
/-! settings noted and put back: a window w of fifteen numbers -/
def winA (sv : Nat → Int32) (k : Nat) : Int32 := if k < 5 then sv (3 + k) else sv (8 + 6 * (k - 5) + 5)
/-- the row s with the first i of a window's five put back; then with its waxes -/
def pbA (sv w : Nat → Int32) (i : Nat) : Nat → Int32 := fun j => if 3 ≤ j ∧ j < 3 + i then w (j - 3) else sv j
def pbB (sv w : Nat → Int32) (i : Nat) : Nat → Int32 := fun j => if 3 ≤ j ∧ j < 8 then w (j - 3) else if 13 ≤ j ∧ (j - 13) % 6 = 0 ∧ (j - 13) / 6 < i then w (5 + (j - 13) / 6) else sv j
def pb (sv w : Nat → Int32) : Nat → Int32 := pbB sv w 10
theorem pbA_0 (sv w : Nat → Int32) : pbA sv w 0 = sv := by
  funext j
  unfold pbA
  rw [if_neg (by omega)]
theorem pbA_s (sv w : Nat → Int32) (i : Nat) : upd (pbA sv w i) (3 + i) (w i) = pbA sv w (i + 1) := by
  funext j
  unfold upd pbA
  by_cases h : j = 3 + i
  · subst h
    rw [if_pos rfl, if_pos (by omega)]
    congr 1
    omega
  · rw [if_neg h]
    by_cases h2 : 3 ≤ j ∧ j < 3 + i
    · rw [if_pos h2, if_pos (by omega)]
    · rw [if_neg h2, if_neg (by omega)]
theorem pbB_0 (sv w : Nat → Int32) : pbA sv w 5 = pbB sv w 0 := by
  funext j
  unfold pbA pbB
  by_cases h2 : 3 ≤ j ∧ j < 8
  · rw [if_pos h2, if_pos h2]
  · rw [if_neg h2, if_neg h2, if_neg (by omega)]
theorem pbB_s (sv w : Nat → Int32) (i : Nat) : upd (pbB sv w i) (8 + 6 * i + 5) (w (5 + i)) = pbB sv w (i + 1) := by
  funext j
  unfold upd pbB
  by_cases h : j = 8 + 6 * i + 5
  · subst h
    rw [if_pos rfl, if_neg (by omega), if_pos (by omega)]
    congr 1
    omega
  · rw [if_neg h]
    by_cases h2 : 3 ≤ j ∧ j < 8
    · rw [if_pos h2, if_pos h2]
    · rw [if_neg h2, if_neg h2]
      by_cases h3 : 13 ≤ j ∧ (j - 13) % 6 = 0 ∧ (j - 13) / 6 < i
      · rw [if_pos h3, if_pos (by omega)]
      · rw [if_neg h3, if_neg (by omega)]
theorem pbA_hi (sv w : Nat → Int32) (i j : Nat) (h : 8 ≤ j) (hi : i ≤ 5) : pbA sv w i j = sv j := by
  unfold pbA
  rw [if_neg (by omega)]
theorem pbB_hi (sv w : Nat → Int32) (i j : Nat) (h : 73 ≤ j) (hi : i ≤ 10) : pbB sv w i j = sv j := by
  unfold pbB
  rw [if_neg (by omega), if_neg (by omega)]
theorem pb_win (sv : Nat → Int32) : pb sv (winA sv) = sv := by
  funext j
  unfold pb pbB winA
  by_cases h : 3 ≤ j ∧ j < 8
  · rw [if_pos h, if_pos (by omega)]
    congr 1
    omega
  · rw [if_neg h]
    split
    · rename_i h2
      rw [if_neg (by omega)]
      congr 1
      omega
    · rfl
theorem pb_pb (sv v w : Nat → Int32) : pb (pb sv v) w = pb sv w := by
  funext j
  unfold pb pbB
  by_cases h : 3 ≤ j ∧ j < 8
  · rw [if_pos h, if_pos h]
  · rw [if_neg h, if_neg h]
    by_cases h2 : 13 ≤ j ∧ (j - 13) % 6 = 0 ∧ (j - 13) / 6 < 10
    · simp only [if_neg h, if_pos h2]
    · simp only [if_neg h, if_neg h2]
theorem pb_congr (sv : Nat → Int32) {v w : Nat → Int32} (h : ∀ k, k < 15 → v k = w k) : pb sv v = pb sv w := by
  funext j
  unfold pb pbB
  split
  · exact h _ (by omega)
  · split
    · exact h _ (by omega)
    · rfl
/-- a row t with the settings of sv noted from t 'at' on -/
def ntA (t w : Nat → Int32) (at_ i : Nat) : Nat → Int32 := fun j => if at_ ≤ j ∧ j < at_ + i then w (j - at_) else t j
theorem ntA_0 (t w : Nat → Int32) (at_ : Nat) : ntA t w at_ 0 = t := by
  funext j
  unfold ntA
  rw [if_neg (by omega)]
theorem ntA_s (t w : Nat → Int32) (at_ i : Nat) : upd (ntA t w at_ i) (at_ + i) (w i) = ntA t w at_ (i + 1) := by
  funext j
  unfold upd ntA
  by_cases h : j = at_ + i
  · subst h
    rw [if_pos rfl, if_pos (by omega)]
    congr 1
    omega
  · rw [if_neg h]
    by_cases h2 : at_ ≤ j ∧ j < at_ + i
    · rw [if_pos h2, if_pos (by omega)]
    · rw [if_neg h2, if_neg (by omega)]
theorem ntA_lo (t w : Nat → Int32) (at_ i j : Nat) (h : j < at_) : ntA t w at_ i j = t j := by
  unfold ntA
  rw [if_neg (by omega)]
theorem ntA_in (t w : Nat → Int32) (at_ k : Nat) (h : k < 15) : ntA t w at_ 15 (at_ + k) = w k := by
  unfold ntA
  rw [if_pos (by omega)]
  congr 1
  omega
theorem ix_3 (i : Nat) : (3 : Int32) + nI i = nI (3 + i) := by rw [← nI_add]; rfl
theorem ix_65 (i : Nat) : (8 : Int32) + 6 * nI i + 5 = nI (8 + 6 * i + 5) := by rw [← nI_add, ← nI_add, ← nI_mul]; rfl
theorem ix_a5 (k i : Nat) : nI k + 5 + nI i = nI (k + 5 + i) := by rw [← nI_add, ← nI_add]; rfl
theorem ix_18 (n : Nat) : (103 : Int32) + 18 * nI n = nI (103 + 18 * n) := by rw [← nI_add, ← nI_mul]; rfl
