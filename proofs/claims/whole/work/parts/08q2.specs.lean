/-! what reading a statement comes to, case by case -/
theorem dcS_5 : ∀ i, i < 7 → dcS i (leT i) ≤ 5 := by decide +kernel
section RDX
variable {tx : Nat → Int32} {q : Nat} {nu : Nat → Int32} {s s2 s3 : PS} {v : Bool}
theorem rd_1 (h4 : fmI (tx q) = 4) : rdS tx q nu = (false, (q, nu, 0), false) := by
  rw [← rdC_eq]; unfold rdC; rw [if_pos h4]
theorem rd_2 (h4 : ¬ fmI (tx q) = 4) (h : pF tx (ksT (fmI (tx q))) (q + 1, nu, 0) = (false, s)) : rdS tx q nu = (false, s, false) := by
  rw [← rdC_eq]; unfold rdC; rw [if_neg h4, h, if_neg (show ¬ ((false, s) : Bool × PS).1 = true from Bool.false_ne_true)]
theorem rd_3 (h4 : ¬ fmI (tx q) = 4) (h : pF tx (ksT (fmI (tx q))) (q + 1, nu, 0) = (true, s)) (hn : ¬ (tx q = 112 ∧ tx s.1 = 106)) (h6 : pF tx (ksT 6) s = (v, s2)) : rdS tx q nu = (v, s2, false) := by
  rw [← rdC_eq]; unfold rdC; rw [if_neg h4, h, if_pos (show ((true, s) : Bool × PS).1 = true from rfl), if_neg (show ¬ (tx q = 112 ∧ tx ((true, s) : Bool × PS).2.1 = 106) from hn), show ((true, s) : Bool × PS).2 = s from rfl, h6]
theorem rd_4 (h4 : ¬ fmI (tx q) = 4) (h : pF tx (ksT (fmI (tx q))) (q + 1, nu, 0) = (true, s)) (hn : tx q = 112 ∧ tx s.1 = 106) (h5 : pF tx (ksT 5) s = (false, s2)) : rdS tx q nu = (false, s2, true) := by
  rw [← rdC_eq]; unfold rdC; rw [if_neg h4, h, if_pos (show ((true, s) : Bool × PS).1 = true from rfl), if_pos (show tx q = 112 ∧ tx ((true, s) : Bool × PS).2.1 = 106 from hn), show ((true, s) : Bool × PS).2 = s from rfl, h5, if_neg (show ¬ ((false, s2) : Bool × PS).1 = true from Bool.false_ne_true)]
theorem rd_5 (h4 : ¬ fmI (tx q) = 4) (h : pF tx (ksT (fmI (tx q))) (q + 1, nu, 0) = (true, s)) (hn : tx q = 112 ∧ tx s.1 = 106) (h5 : pF tx (ksT 5) s = (true, s2)) (h6 : pF tx (ksT 6) s2 = (v, s3)) : rdS tx q nu = (v, s3, true) := by
  rw [← rdC_eq]; unfold rdC; rw [if_neg h4, h, if_pos (show ((true, s) : Bool × PS).1 = true from rfl), if_pos (show tx q = 112 ∧ tx ((true, s) : Bool × PS).2.1 = 106 from hn), show ((true, s) : Bool × PS).2 = s from rfl, h5, if_pos (show ((true, s2) : Bool × PS).1 = true from rfl), show ((true, s2) : Bool × PS).2 = s2 from rfl, h6]
end RDX
