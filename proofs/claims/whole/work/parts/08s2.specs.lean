theorem rg_inL {x a b : Int32} (h : rg x a.toInt b.toInt) : inL x a b = true := by
  unfold inL
  rw [decide_eq_true (Int32.le_iff_toInt_le.mpr h.1), decide_eq_true (Int32.le_iff_toInt_le.mpr h.2)]
  rfl
theorem inL_no {x a b : Int32} {c d : Int} (h : rg x c d) (hc : a.toInt = c) (hd : b.toInt = d) (hn : inL x a b = false) : False := by
  subst hc; subst hd
  rw [rg_inL h] at hn
  exact Bool.false_ne_true hn.symm
theorem cpO_i {g nu : Nat → Int32} {ij : Bool} (h0 : inL (nu 0) 10 600 = true) (h1 : inL (nu 1) 1 99 = true) (h2 : inL (nu 2) 1 99 = true) (h3 : g 0 < 10) (h4 : g 2 = 0) (h5 : ij = true → nu 3 < g 0 ∧ nu 4 ≤ 99) : cpO g nu ij = true := by
  unfold cpO
  rw [h0, h1, h2, decide_eq_true h3, decide_eq_true h4]
  cases ij with
  | false => rfl
  | true =>
    obtain ⟨a, b⟩ := h5 rfl
    rw [decide_eq_true a, decide_eq_true b]
    rfl
theorem cpO_f {g nu : Nat → Int32} {ij : Bool} (h : rg (nu 0) 10 600 ∧ rg (nu 1) 1 99 ∧ rg (nu 2) 1 99 ∧ g 0 < 10 ∧ g 2 = 0 ∧ (ij = true → nu 3 < g 0 ∧ nu 4 ≤ 99) → False) : cpO g nu ij = false := by
  cases c : cpO g nu ij with
  | false => rfl
  | true => exact (h (cpO_t c)).elim
theorem ctO_i {g nu : Nat → Int32} (h0 : nu 0 < 8) (h1 : nu 1 < g 0) (h2 : 0 < nu 2) (h3 : inL (nu 4) 1 99 = true) (h4 : g 1 < 7) (h5 : g 2 = 0) : ctO g nu = true := by
  unfold ctO
  rw [h3, decide_eq_true h0, decide_eq_true h1, decide_eq_true h2, decide_eq_true h4, decide_eq_true h5]
  rfl
theorem ctO_f {g nu : Nat → Int32} (h : nu 0 < 8 ∧ nu 1 < g 0 ∧ 0 < nu 2 ∧ rg (nu 4) 1 99 ∧ g 1 < 7 ∧ g 2 = 0 → False) : ctO g nu = false := by
  cases c : ctO g nu with
  | false => rfl
  | true => exact (h (ctO_t c)).elim
theorem num_p {ij : Bool} {nu : Nat → Int32} (h : NumOK 112 ij nu) : rg (nu 0) 0 999 ∧ rg (nu 1) 0 999 ∧ rg (nu 2) 0 999 ∧ (ij = true → rg (nu 3) 0 9 ∧ rg (nu 4) 0 999) := by
  rcases h with ⟨-, h⟩ | ⟨e, h⟩ | ⟨e, h⟩ | ⟨e, h⟩ | ⟨e, h⟩ <;> first | exact h | exact absurd e (by decide)
theorem num_t {ij : Bool} {nu : Nat → Int32} (h : NumOK 116 ij nu) : rg (nu 0) 0 9 ∧ rg (nu 1) 0 9 ∧ rg (nu 2) 0 999 ∧ rg (nu 3) 0 9 ∧ rg (nu 4) 0 999 := by
  rcases h with ⟨e, h⟩ | ⟨-, h⟩ | ⟨e, h⟩ | ⟨e, h⟩ | ⟨e, h⟩ <;> first | exact h | exact absurd e (by decide)
theorem num_d {ij : Bool} {nu : Nat → Int32} (h : NumOK 100 ij nu) : rg (nu 0) 0 999 := by
  rcases h with ⟨e, h⟩ | ⟨e, h⟩ | ⟨-, h⟩ | ⟨e, h⟩ | ⟨e, h⟩ <;> first | exact h | exact absurd e (by decide)
theorem num_w {ij : Bool} {nu : Nat → Int32} (h : NumOK 119 ij nu) : rg (nu 0) 0 9 := by
  rcases h with ⟨e, h⟩ | ⟨e, h⟩ | ⟨e, h⟩ | ⟨-, h⟩ | ⟨e, h⟩ <;> first | exact h | exact absurd e (by decide)
theorem num_r {ij : Bool} {nu : Nat → Int32} (h : NumOK 114 ij nu) : rg (nu 0) 0 9 := by
  rcases h with ⟨e, h⟩ | ⟨e, h⟩ | ⟨e, h⟩ | ⟨e, h⟩ | ⟨-, h⟩ <;> first | exact h | exact absurd e (by decide)
theorem num_no {x : Int32} {ij : Bool} {nu : Nat → Int32} (h : NumOK x ij nu) (h1 : ¬ x = 100) (h2 : ¬ x = 112) (h3 : ¬ x = 114) (h4 : ¬ x = 116) (h5 : ¬ x = 119) : False := by
  rcases h with ⟨e, -⟩ | ⟨e, -⟩ | ⟨e, -⟩ | ⟨e, -⟩ | ⟨e, -⟩
  · exact h2 e
  · exact h4 e
  · exact h1 e
  · exact h5 e
  · exact h3 e
theorem rg_ne1 {x : Int32} (h : rg x 0 9) : x ≠ -1 := by rintro rfl; exact absurd h.1 (by decide)
theorem nI_gt0 {n : Nat} {x : Int32} (h : 0 < x) (hx : x = nI n) (h0 : x = 0) : False := by rw [h0] at h; exact absurd h (by decide)
def isPt (y x : Int32) : Bool := decide (0 ≤ x) && (decide (x < y) && decide (x < 10))
theorem isPt_t {y x : Int32} (h : isPt y x = true) : x < y := by unfold isPt at h; simp only [Bool.and_eq_true, decide_eq_true_eq] at h; exact h.2.1
theorem isPt_i {y x : Int32} (h0 : rg x 0 9) (h : x < y) : isPt y x = true := by
  have e0 : (0 : Int32).toInt = 0 := rfl
  have e1 : (10 : Int32).toInt = 10 := rfl
  unfold isPt
  rw [decide_eq_true h, decide_eq_true (by rw [Int32.le_iff_toInt_le, e0]; exact h0.1), decide_eq_true (by rw [Int32.lt_iff_toInt_lt, e1]; have := h0.2; omega)]
  rfl
theorem nn0 {x : Int32} {n : Nat} (hx : x = nI n) (hn : n < 1000) (h : ¬ 0 < x) : x = 0 := by
  subst hx
  rw [Int32.lt_iff_toInt_lt, nI_toInt (by omega), show (0 : Int32).toInt = 0 from rfl] at h
  rw [show n = 0 by omega]
  rfl
theorem lt_8 {x : Int32} (h : inL x 0 7 = true) : x < 8 := by
  have := (inL_rg h).2
  rw [Int32.lt_iff_toInt_lt, show (8 : Int32).toInt = 8 from rfl]
  have e : (7 : Int32).toInt = 7 := rfl
  omega
theorem rg_7 {x : Int32} (h0 : rg x 0 9) (h : x < 8) : rg x 0 7 := by
  rw [Int32.lt_iff_toInt_lt, show (8 : Int32).toInt = 8 from rfl] at h
  exact ⟨h0.1, by omega⟩
theorem rg_1 {x : Int32} (h0 : rg x 0 999) (h : 0 < x) : rg x 1 999 := by
  rw [Int32.lt_iff_toInt_lt, show (0 : Int32).toInt = 0 from rfl] at h
  exact ⟨by omega, h0.2⟩
theorem gt_0 {x : Int32} (h : inL x 1 999 = true) : 0 < x := by
  have := (inL_rg h).1
  have e : (1 : Int32).toInt = 1 := rfl
  rw [Int32.lt_iff_toInt_lt, show (0 : Int32).toInt = 0 from rfl]
  omega
theorem le_99 {x : Int32} (h : inL x 0 99 = true) : x ≤ 99 := Int32.le_iff_toInt_le.mpr (inL_rg h).2
theorem rg_99 {x : Int32} (h0 : rg x 0 999) (h : x ≤ 99) : rg x 0 99 := ⟨h0.1, Int32.le_iff_toInt_le.mp h⟩
