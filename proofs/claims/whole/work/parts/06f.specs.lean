theorem woS_val {W : Int32 → Int32} {ht : Nat → Int32} {set b x y : Int32} {i : Nat} (h1 : ¬ set &&& ht i = 0) (h2 : ¬ set &&& ht i = set) (e1 : W (set &&& ht i) = x) (e2 : W (set &&& (set &&& ht i ^^^ -1)) = y) : woS W ht set b i = if b < 0 ∨ 1 + mxI x y < b then 1 + mxI x y else b := by
  unfold woS
  rw [if_neg (not_or.mpr ⟨h1, h2⟩), e1, e2]
theorem frS_skip {sv : Nat → Int32} {u : Int32} {m : Nat} (h : ¬ u &&& (nI m ^^^ -1) = 0) : frS sv u (m + 1) = frS sv u m := by
  rw [frS, if_pos h]
theorem frS_new {sv : Nat → Int32} {u : Int32} {m : Nat} (h : u &&& (nI m ^^^ -1) = 0) (h1 : (frS sv u m).2 < 0 ∨ cstN sv (nI m) (nT sv) < (frS sv u m).2) : frS sv u (m + 1) = (nI m, cstN sv (nI m) (nT sv)) := by
  rw [frS, if_neg (Decidable.not_not.mpr h), if_neg]
  rintro ⟨q1, q2⟩
  rcases h1 with h1 | h1
  · exact i_nlt.mpr q1 h1
  · exact i_nlt.mpr q2 h1
theorem frS_old {sv : Nat → Int32} {u : Int32} {m : Nat} (h : u &&& (nI m ^^^ -1) = 0) (h1 : ¬ (frS sv u m).2 < 0) (h2 : ¬ cstN sv (nI m) (nT sv) < (frS sv u m).2) : frS sv u (m + 1) = frS sv u m := by
  rw [frS, if_neg (Decidable.not_not.mpr h), if_pos ⟨i_nlt.mp h1, i_nlt.mp h2⟩]
