/-! THE REFERENCE AS NUMBERS: what its methods answer, over its row s (here sv) -/
theorem ofInt_toInt' (x : Int32) : Int32.ofInt x.toInt = x := by simp
theorem lgc_lt (x a : Int32) : lg_cmp x.toInt64 a.toInt64 < 0 ↔ x < a := by
  unfold lg_cmp
  simp only [gt_iff_lt, Int64.lt_iff_toInt_lt, Int32.lt_iff_toInt_lt, ← Int64.toInt_inj, Int32.toInt_toInt64]
  split
  · rename_i h
    constructor
    · intro q; exact absurd q (by decide)
    · intro q; omega
  · split
    · rename_i h1 h2
      constructor
      · intro q; exact absurd q (by decide)
      · intro q; omega
    · rename_i h1 h2
      constructor
      · intro q; omega
      · intro q; decide
theorem lgc_gt (x a : Int32) : 0 < lg_cmp x.toInt64 a.toInt64 ↔ a < x := by
  unfold lg_cmp
  simp only [gt_iff_lt, Int64.lt_iff_toInt_lt, Int32.lt_iff_toInt_lt, ← Int64.toInt_inj, Int32.toInt_toInt64]
  split
  · rename_i h
    constructor
    · intro q; omega
    · intro q; decide
  · split
    · rename_i h1 h2
      constructor
      · intro q; exact absurd q (by decide)
      · intro q; omega
    · rename_i h1 h2
      constructor
      · intro q; exact absurd q (by decide)
      · intro q; omega
theorem i_nlt {x y : Int32} : ¬ x < y ↔ y ≤ x := by simp only [Int32.lt_iff_toInt_lt, Int32.le_iff_toInt_le]; omega
theorem i_nle {x y : Int32} : ¬ x ≤ y ↔ y < x := by simp only [Int32.lt_iff_toInt_lt, Int32.le_iff_toInt_le]; omega

def inL (x a b : Int32) : Bool := decide (a ≤ x) && decide (x ≤ b)
def isPc (sv : Nat → Int32) (x : Int32) : Bool := inL x 0 (sv 0 - 1)
def isTh (sv : Nat → Int32) (x : Int32) : Bool := inL x 0 (sv 1 - 1)
def amt (v : Int32) : Int32 := if v < 0 then -v else v
def hld (v a b : Int32) : Int32 := if v < a then a else if b < v then b else v
