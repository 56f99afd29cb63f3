/-! what is told: DRY, PLAYER, ROOM, POST -/
def tlV (v w n k : Int32) : Int32 := if isVl w n = true ∧ w = k then n else v
def tldV (a b c d w : Int32) : Int32 := if w = 0 then a else if w = 1 then b else if w = 2 then c else d
theorem w4 {w : Int32} (h : inL w 0 3 = true) : w = 0 ∨ w = 1 ∨ w = 2 ∨ w = 3 := by
  obtain ⟨k, hk, rfl⟩ := inL_nat h (B := 3) rfl
  have h4 : k = 0 ∨ k = 1 ∨ k = 2 ∨ k = 3 := by omega
  rcases h4 with rfl | rfl | rfl | rfl
  · exact Or.inl rfl
  · exact Or.inr (Or.inl rfl)
  · exact Or.inr (Or.inr (Or.inl rfl))
  · exact Or.inr (Or.inr (Or.inr rfl))
theorem isVl_4 {w n : Int32} (h : isVl w n = true) : w = 0 ∨ w = 1 ∨ w = 2 ∨ w = 3 := by
  unfold isVl at h
  by_cases c0 : w = 0
  · exact Or.inl c0
  · rw [if_neg c0] at h
    by_cases c1 : w = 1
    · exact Or.inr (Or.inl c1)
    · rw [if_neg c1] at h
      by_cases c2 : w = 2
      · exact Or.inr (Or.inr (Or.inl c2))
      · rw [if_neg c2] at h
        simp only [Bool.and_eq_true, decide_eq_true_eq] at h
        exact Or.inr (Or.inr (Or.inr h.1))
theorem isVl_f {w n : Int32} (h : inL w 0 3 = false) : isVl w n = false := by
  cases c : isVl w n with
  | false => rfl
  | true =>
    rcases isVl_4 c with rfl | rfl | rfl | rfl <;> exact absurd h (by decide)
theorem setS_t {r : Nat → Int32} {w n : Int32} (h : isVl w n = true) : setS r w n = upd r (4 + iN w) n := by unfold setS; rw [if_pos h]
theorem setS_f {r : Nat → Int32} {w n : Int32} (h : isVl w n = false) : setS r w n = r := by unfold setS; rw [if_neg (by rw [h]; exact Bool.false_ne_true)]
theorem setS_k (r : Nat → Int32) (w n : Int32) : setS r w n 3 = r 3 ∧ setS r w n 4 = tlV (r 4) w n 0 ∧ setS r w n 5 = tlV (r 5) w n 1 ∧ setS r w n 6 = tlV (r 6) w n 2 ∧ setS r w n 7 = tlV (r 7) w n 3 := by
  unfold tlV
  cases c : isVl w n with
  | false => rw [setS_f c]; simp
  | true =>
    rw [setS_t c]
    rcases isVl_4 c with rfl | rfl | rfl | rfl <;> exact ⟨rfl, rfl, rfl, rfl, rfl⟩
theorem setR_t {r : Nat → Int32} {w n : Int32} (h : isVl w n = true) : setR r w n = tldV (r 4) (r 5) (r 6) (r 7) w := by
  unfold setR
  rw [if_pos h]
  rcases isVl_4 h with rfl | rfl | rfl | rfl <;> rfl
theorem setR_f {r : Nat → Int32} {w n : Int32} (h : isVl w n = false) : setR r w n = -1000000001 := by unfold setR; rw [if_neg (by rw [h]; exact Bool.false_ne_true)]
theorem Inv_setS {r : Nat → Int32} (h : Inv r) (w n : Int32) : Inv (setS r w n) := by
  cases c : isVl w n with
  | false => rw [setS_f c]; exact h
  | true =>
    rw [setS_t c]
    rcases isVl_4 c with rfl | rfl | rfl | rfl
    · exact Inv_dry h (inL_rg (x := n) (a := 0) (b := 20) c)
    · exact Inv_ply h (inL_rg (x := n) (a := 0) (b := 1) c)
    · exact Inv_roo h (inL_rg (x := n) (a := 0) (b := 3) c)
    · exact Inv_post h (inL_rg (x := n) (a := -9) (b := 9) c)
theorem CG_setS {d : Nat → ClassId} {G : zG} {r : Nat → Int32} {pN tN aN : Int32} {wx : Nat → Int32} {pp tp ap : Nat → Option Nat} (h : CG d G r pN tN aN wx pp tp ap) (w n : Int32) : CG d G (setS r w n) pN tN aN wx pp tp ap := by
  have hI := Inv_setS h.1 w n
  cases c : isVl w n with
  | false => rw [setS_f c]; exact h
  | true =>
    rw [setS_t c] at hI ⊢
    rcases isVl_4 c with rfl | rfl | rfl | rfl
    · exact CG_set h (by decide) (by decide) hI
    · exact CG_set h (by decide) (by decide) hI
    · exact CG_set h (by decide) (by decide) hI
    · exact CG_set h (by decide) (by decide) hI
section KN
variable {p : Program} {l : Launch} {e : Env} {R : Room} {s : State} {m : MethodId} {args : Array Value} {below : List Frame} {meth : Method} {c : Code} {H : Heap} {locs : List Loc} {cells slots : Nat} {Q : State → Prop} {cc : ByteArray} {pc index : Nat} {ls : Array Slot} {rest st0 : List Value} {E : zE} {own : String} {nL : Nat}
theorem kN_isWithin {x y z : Int32} (cx : Cx E p s args m c own cc nL) (hl : va_Nw (.methodLinkNest own index yX7_isWithin RX7) s) (zR : 0 + 1 ≤ R.frames ∧ 8 + (3 + 11) + 0 ≤ R.locals) (zs : ls.size = nL) (zt : st0 = ([.int x, .int y, .int z] : List Value).reverse ++ rest) (z8 : (rest.map fun v => v.category).sum ≤ 8) (zd : decode cc pc = .ok (.invokestatic index, 3)) (zf : cells ≤ R.cells ∧ slots ≤ R.slots)
    (kk : W p l e R s m args below meth c H locs cells slots Q (F0 m (pc + 3) ls (.int (bI (inL x y z)) :: rest))) : W p l e R s m args below meth c H locs cells slots Q (F0 m pc ls st0) :=
  z_callSN cx vm_X7_isWithin (c_X7_isWithin l E x y z) hl ⟨rfl, rfl⟩ zR rfl zs zt z8 zd zf kk
end KN
