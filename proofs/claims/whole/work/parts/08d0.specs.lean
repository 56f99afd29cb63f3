/-! the class: sums over things, wolves -/
theorem wx_add {r : Nat → Int32} (hS : InvS r) {n : Nat} (hn : n < nP r) (hn10 : n < 10) {x : Int32} (hx : rg x 0 20) : rg (g6 r n 5 + x) 0 40 := by
  have h := hS.2 n hn10
  unfold rg at h hx ⊢
  rw [ti_add (by omega) (by omega)]
  omega
theorem wvB_0 {r : Nat → Int32} {b : Nat} (h : g6 r b 3 < 0) : wvB r b = false := by
  unfold wvB
  rw [decide_eq_false (fun c => c h)]
  rfl
theorem wvB_j {r : Nat → Int32} {b j : Nat} {v : Bool} (hj : j < b) (hb : b < 10) (e : g6 r b 3 = nI j) (h : wfB r j b = v) : wvB r b = v := by
  unfold wvB
  rw [e, decide_eq_true (nI_n0 (by omega)), iN_nI (by omega), h]
  rfl
