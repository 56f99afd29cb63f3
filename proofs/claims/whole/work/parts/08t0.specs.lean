theorem tlV_f {v w n k : Int32} (h : isVl w n = false) : tlV v w n k = v := by unfold tlV; exact if_neg (fun c => Bool.false_ne_true (h.symm.trans c.1))
theorem cm_s {g nu : Nat → Int32} {ij : Bool} (hC : InvC g) {x : Int32} (hx : x = 112 ∨ x = 116) (ho : cmO g nu ij x = true) : ∀ k, 3 ≤ k → k < 8 → cmR g nu ij x k = g k := by
  intro k h3 h8
  have hP := (Inv.n0 hC).2
  rcases hx with rfl | rfl
  · rw [cm_p (show cpO g nu ij = true from ho)]; exact cpX_e (by omega) (Or.inl (by omega))
  · rw [cm_t (show ctO g nu = true from ho)]; exact ctX_e (by omega) (Or.inl (by omega))
