/-! a statement comes -/
def rwA (f nu : Nat → Int32) (b : Nat) : Nat → Nat → Int32
  | 0 => f
  | i + 1 => upd (rwA f nu b i) (b + i) (nu i)
theorem rwA_lo (f nu : Nat → Int32) (b : Nat) {j : Nat} (h : j < b) : ∀ i, rwA f nu b i j = f j := by
  intro i
  induction i with
  | zero => rfl
  | succ i ih => rw [rwA, upd_ne _ _ (by omega), ih]
def cpO (rd nu : Nat → Int32) (ij : Bool) : Bool :=
  inL (nu 0) 10 600 && inL (nu 1) 1 99 && inL (nu 2) 1 99 && decide (rd 0 < 10) && decide (rd 2 = 0) && (!ij || (decide (nu 3 < rd 0) && decide (nu 4 ≤ 99)))
def cpX (rd nu : Nat → Int32) (ij : Bool) (b : Nat) : Nat → Int32 := upd (upd (upd (upd (rwA rd nu b 3) (b + 3) (if ij = true then nu 3 else -4)) (b + 4) (if ij = true then nu 4 else 0)) (b + 5) 0) 0 (rd 0 + 1)
def cpRd (rd nu : Nat → Int32) (ij : Bool) : Nat → Int32 := if cpO rd nu ij = true then cpX rd nu ij (8 + 6 * nP rd) else rd
theorem cp_0 {rd nu : Nat → Int32} {b : Nat} (h : 0 < b) (x y z : Int32) : upd (upd (upd (rwA rd nu b 3) (b + 3) x) (b + 4) y) (b + 5) z 0 = rd 0 := by
  rw [upd_ne _ _ (by omega), upd_ne _ _ (by omega), upd_ne _ _ (by omega), rwA_lo _ _ _ h]
theorem ix_86 (n : Nat) : (8 : Int32) + 6 * nI n = nI (8 + 6 * n) := by rw [← nI_add, ← nI_mul]; rfl
theorem ix_685 (n : Nat) : (68 : Int32) + 5 * nI n = nI (68 + 5 * n) := by rw [← nI_add, ← nI_mul]; rfl
def ctO (rd nu : Nat → Int32) : Bool :=
  decide (nu 0 < 8) && decide (nu 1 < rd 0) && decide (0 < nu 2) && inL (nu 4) 1 99 && decide (rd 1 < 7) && decide (rd 2 = 0)
def ctX (rd nu : Nat → Int32) (b : Nat) : Nat → Int32 := upd (rwA rd nu b 5) 1 (rd 1 + 1)
def ctRd (rd nu : Nat → Int32) : Nat → Int32 := if ctO rd nu = true then ctX rd nu (68 + 5 * nT rd) else rd
/-- the statement with the letter c, its numbers nu: does it come; the row behind it -/
def cmO (rd nu : Nat → Int32) (ij : Bool) (c : Int32) : Bool :=
  if c = 112 then cpO rd nu ij else if c = 116 then ctO rd nu else if c = 100 then decide (nu 0 ≤ 20) else if c = 119 then decide (nu 0 < 2) else decide (nu 0 < 4)
def cmR (rd nu : Nat → Int32) (ij : Bool) (c : Int32) : Nat → Int32 :=
  if c = 112 then cpRd rd nu ij else if c = 116 then ctRd rd nu else if c = 100 then upd rd 4 (nu 0) else if c = 119 then upd rd 5 (nu 0) else upd rd 6 (nu 0)
