/-! the reader: its texts as lists, its bytes -/
def ksL : List (List Nat) := [[110, 32, 110, 32, 110], [100, 100, 32, 110, 32, 100, 32, 110], [110], [100], [], [106, 100, 32, 110], [59]]
def ksT (i : Nat) : List Nat := ksL.getD i []
def kT (i j : Nat) : Nat := (ksT i).getD j 0
def leT (i : Nat) : Nat := lenS.getD i 0
def dnK (k : Nat) : Nat := if k = 100 ∨ k = 110 then 1 else 0
def dcS (i j : Nat) : Nat := (((ksT i).take j).map dnK).sum
theorem ksT_ch : ∀ i, i < 7 → ∀ j, j < leT i → chS i j = nI (kT i j) ∧ (ksT i).drop j = kT i j :: (ksT i).drop (j + 1) ∧ kT i j < 1000 ∧ dcS i (j + 1) = dcS i j + dnK (kT i j) ∧ dcS i j + dnK (kT i j) ≤ dcS i (leT i) := by decide +kernel
theorem ksT_end : ∀ i, i < 7 → (ksT i).drop (leT i) = [] ∧ leT i ≤ 8 := by decide +kernel
def fmI (x : Int32) : Nat := if x = 112 then 0 else if x = 116 then 1 else if x = 100 then 2 else if x = 119 then 3 else if x = 114 then 3 else 4
theorem fmI_7 (x : Int32) : fmI x < 7 := by
  unfold fmI
  repeat' split
  all_goals decide
def txC (f : Nat → Int32) (z q : Nat) : Int32 := if q < z then f q else -1000
def bhC (f : Nat → Int32) (z q : Nat) : Int32 := if q < z then f q else 1000
theorem bh_tx {f : Nat → Int32} {z q : Nat} (h : q < z) : bhC f z q = txC f z q := by unfold bhC txC; rw [if_pos h, if_pos h]
theorem bh_dig (f : Nat → Int32) (z q : Nat) : inL (bhC f z q) 48 57 = inL (txC f z q) 48 57 := by
  by_cases h : q < z
  · rw [bh_tx h]
  · unfold bhC txC; rw [if_neg h, if_neg h]; rfl
theorem bh_k {f : Nat → Int32} {z q : Nat} {k : Int32} (h1 : k ≠ 1000) (h2 : k ≠ -1000) : bhC f z q = k ↔ txC f z q = k := by
  by_cases h : q < z
  · rw [bh_tx h]
  · unfold bhC txC; rw [if_neg h, if_neg h]
    exact ⟨fun c => absurd c.symm h1, fun c => absurd c.symm h2⟩
theorem txC_lt {f : Nat → Int32} {z q : Nat} (h : inL (txC f z q) 48 57 = true) : q < z := by
  by_cases c : q < z
  · exact c
  · unfold txC at h; rw [if_neg c] at h; exact absurd h (by decide)
theorem txC_lt2 {f : Nat → Int32} {z q : Nat} {k : Int32} (h : txC f z q = k) (hk : k ≠ -1000) : q < z := by
  by_cases c : q < z
  · exact c
  · unfold txC at h; rw [if_neg c] at h; exact absurd h.symm hk
theorem nk_ne1 {k : Nat} (h : k < 1000) : nI k ≠ 1000 := by
  intro q
  have h1 : (nI k).toInt = k := nI_toInt (by omega)
  rw [q] at h1
  have : (1000 : Int32).toInt = 1000 := rfl
  omega
theorem fmI_bh (f : Nat → Int32) (z q : Nat) : fmI (bhC f z q) = fmI (txC f z q) := by
  by_cases h : q < z
  · rw [bh_tx h]
  · unfold bhC txC; rw [if_neg h, if_neg h]; rfl
theorem fmI_lt {f : Nat → Int32} {z q : Nat} (h : ¬ fmI (txC f z q) = 4) : q < z := by
  by_cases c : q < z
  · exact c
  · exfalso; apply h; unfold txC; rw [if_neg c]; rfl
theorem tlS_0 : ∀ i, i < 7 → (tlS i = 0 ↔ leT i = 0) := by decide +kernel
theorem fmI_0 (x : Int32) : tlS (fmI x) = 0 ↔ fmI x = 4 := by
  have h : ∀ i, i < 7 → (tlS i = 0 ↔ i = 4) := by decide +kernel
  exact h _ (fmI_7 x)
theorem pF_app {tx : Nat → Int32} : ∀ (a b : List Nat) (s : PS), pF tx (a ++ b) s = if (pF tx a s).1 = true then pF tx b (pF tx a s).2 else pF tx a s := by
  intro a
  induction a with
  | nil => intro b s; rw [List.nil_append, if_pos (by rfl)]; rfl
  | cons k ks ih =>
    intro b s
    rw [List.cons_append, pF]
    conv => rhs; rw [pF]
    cases h : pSy tx k s with
    | none => simp
    | some s2 => simpa using ih b s2
/-- what reading a statement comes to, as the class does it -/
def rdC (tx : Nat → Int32) (q : Nat) (nu : Nat → Int32) : Bool × PS × Bool :=
  if fmI (tx q) = 4 then (false, (q, nu, 0), false)
  else if (pF tx (ksT (fmI (tx q))) (q + 1, nu, 0)).1 = true then
    (if tx q = 112 ∧ tx (pF tx (ksT (fmI (tx q))) (q + 1, nu, 0)).2.1 = 106 then
      (if (pF tx (ksT 5) (pF tx (ksT (fmI (tx q))) (q + 1, nu, 0)).2).1 = true then ((pF tx (ksT 6) (pF tx (ksT 5) (pF tx (ksT (fmI (tx q))) (q + 1, nu, 0)).2).2).1, (pF tx (ksT 6) (pF tx (ksT 5) (pF tx (ksT (fmI (tx q))) (q + 1, nu, 0)).2).2).2, true)
       else (false, (pF tx (ksT 5) (pF tx (ksT (fmI (tx q))) (q + 1, nu, 0)).2).2, true))
     else ((pF tx (ksT 6) (pF tx (ksT (fmI (tx q))) (q + 1, nu, 0)).2).1, (pF tx (ksT 6) (pF tx (ksT (fmI (tx q))) (q + 1, nu, 0)).2).2, false))
  else (false, (pF tx (ksT (fmI (tx q))) (q + 1, nu, 0)).2, false)
theorem pF_f {tx : Nat → Int32} {ks : List Nat} {s : PS} (h : ¬ (pF tx ks s).1 = true) : (false, (pF tx ks s).2) = pF tx ks s := by
  have : (pF tx ks s).1 = false := by simpa using h
  rw [← this]
theorem pF_two {tx : Nat → Int32} (a b ab : List Nat) (hab : ab = a ++ b) (s : PS) : ((pF tx ab s).1, (pF tx ab s).2, false) = if (pF tx a s).1 = true then ((pF tx b (pF tx a s).2).1, (pF tx b (pF tx a s).2).2, false) else (false, (pF tx a s).2, false) := by
  subst hab
  rw [pF_app]
  by_cases h : (pF tx a s).1 = true
  · rw [if_pos h, if_pos h]
  · have : (pF tx a s).1 = false := by simpa using h
    rw [if_neg h, if_neg h, this]
theorem rdC_eq (tx : Nat → Int32) (q : Nat) (nu : Nat → Int32) : rdC tx q nu = rdS tx q nu := by
  unfold rdC rdS
  by_cases h1 : tx q = 112
  · rw [if_pos h1, h1, show fmI 112 = 0 from rfl, if_neg (by decide), show ksT 0 = [110, 32, 110, 32, 110] from rfl]
    generalize pF tx [110, 32, 110, 32, 110] (q + 1, nu, 0) = x
    obtain ⟨x1, x2⟩ := x
    cases x1 with
    | false => simp
    | true =>
      simp only [if_true, true_and]
      have h6 : pSy tx 106 x2 = if tx x2.1 = nI 106 then some (x2.1 + 1, x2.2) else none := pSy_k (by decide) x2
      by_cases c : tx x2.1 = 106
      · have h7 : pSy tx 106 x2 = some (x2.1 + 1, x2.2) := h6.trans (if_pos c)
        rw [if_pos c, h7]
        simp only
        have h8 : pF tx (ksT 5) x2 = pF tx [100, 32, 110] (x2.1 + 1, x2.2) := by
          show pF tx (106 :: [100, 32, 110]) x2 = _
          rw [pF, h7]
        rw [h8, show [100, 32, 110, 59] = [100, 32, 110] ++ ksT 6 from rfl, pF_app]
        by_cases c2 : (pF tx [100, 32, 110] (x2.1 + 1, x2.2)).1 = true
        · rw [if_pos c2, if_pos c2]
        · have : (pF tx [100, 32, 110] (x2.1 + 1, x2.2)).1 = false := by simpa using c2
          rw [if_neg c2, if_neg c2, this]
      · have h7 : pSy tx 106 x2 = none := h6.trans (if_neg c)
        rw [if_neg c, h7]
        rfl
  · rw [if_neg h1]
    by_cases h2 : tx q = 116
    · rw [if_pos h2, h2, show fmI 116 = 1 from rfl, if_neg (by decide), pF_two (ksT 1) (ksT 6) [100, 100, 32, 110, 32, 100, 32, 110, 59] rfl]
      simp
    · rw [if_neg h2]
      by_cases h3 : tx q = 100
      · rw [if_pos h3, h3, show fmI 100 = 2 from rfl, if_neg (by decide), pF_two (ksT 2) (ksT 6) [110, 59] rfl]
        simp
      · rw [if_neg h3]
        by_cases h4 : tx q = 119
        · rw [if_pos (Or.inl h4), h4, show fmI 119 = 3 from rfl, if_neg (by decide), pF_two (ksT 3) (ksT 6) [100, 59] rfl]
          simp
        · by_cases h5 : tx q = 114
          · rw [if_pos (Or.inr h5), h5, show fmI 114 = 3 from rfl, if_neg (by decide), pF_two (ksT 3) (ksT 6) [100, 59] rfl]
            simp
          · rw [if_pos (show fmI (tx q) = 4 by unfold fmI; rw [if_neg h1, if_neg h2, if_neg h3, if_neg h4, if_neg h5]), if_neg (show ¬ (tx q = 119 ∨ tx q = 114) from fun c => Or.elim c h4 h5)]
theorem d0_eq {f : Nat → Int32} {z q : Nat} (h : q < z) : 10 * 0 + bhC f z q - 48 = txC f z q - 48 := by
  rw [bh_tx h, Int32.mul_zero, Int32.zero_add]
theorem d1_eq {f : Nat → Int32} {z q : Nat} {w : Int32} (h : q < z) : 10 * w + bhC f z q - 48 = 10 * w + txC f z q - 48 := by rw [bh_tx h]
theorem va_O_recv {C : String} {a : Nat} {A : Nat → Prop} {s : State} {H : Heap} (h : va_O C a A s H) : ∃ cell : Cell, H[a]? = some cell ∧ cell.vm.isStatics = false ∧ s.vm.findClass C = some cell.cls := by
  obtain ⟨cell, h1, h2, h3, -⟩ := h
  exact ⟨cell, h1, h2, h3⟩
section KJ
variable {p : Program} {l : Launch} {e : Env} {R : Room} {s : State} {m : MethodId} {args : Array Value} {below : List Frame} {meth : Method} {c : Code} {H : Heap} {locs : List Loc} {cells slots : Nat} {Q : State → Prop} {cc : ByteArray} {pc index : Nat} {ls : Array Slot} {rest st0 : List Value} {E : zE} {own : String} {nL : Nat} {A : Nat → Prop} {i j : Nat}
theorem k_J0_isEmpty_aae02 (cx : Cx E p s args m c own cc nL) (hCE : CE E A s H) (hi : i < 7) (zl : Cond.methodLink own index yJ0_isEmpty_aae02 ∈ AllW) (zR : 0 + 1 ≤ R.frames ∧ 8 + (1 + 11) + 0 ≤ R.locals) (zs : ls.size = nL) (zt : st0 = ([] : List Value).reverse ++ .ref (aS E i) :: rest) (z8 : (rest.map fun v => v.category).sum ≤ 8) (zd : decode cc pc = .ok (.invokevirtual index, 3)) (zf : cells ≤ R.cells ∧ slots ≤ R.slots)
    (kk : W p l e R s m args below meth c H locs cells slots Q (F0 m (pc + 3) ls (.int (bI (decide (tlS i = 0))) :: rest))) : W p l e R s m args below meth c H locs cells slots Q (F0 m pc ls st0) :=
  z_callVc cx hCE vm_J0_isEmpty (c_J0_isEmpty l E A i hi) (va_O_recv (hCE.1.1 i hi).1) trivial zl ⟨rfl, rfl⟩ zR rfl zs zt z8 zd zf kk
theorem k_J0_length_8abf5 (cx : Cx E p s args m c own cc nL) (hCE : CE E A s H) (hi : i < 7) (zl : Cond.methodLink own index yJ0_length_8abf5 ∈ AllW) (zR : 1 + 1 ≤ R.frames ∧ 8 + (1 + 11) + 20 ≤ R.locals) (zs : ls.size = nL) (zt : st0 = ([] : List Value).reverse ++ .ref (aS E i) :: rest) (z8 : (rest.map fun v => v.category).sum ≤ 8) (zd : decode cc pc = .ok (.invokevirtual index, 3)) (zf : cells ≤ R.cells ∧ slots ≤ R.slots)
    (kk : W p l e R s m args below meth c H locs cells slots Q (F0 m (pc + 3) ls (.int (nI (leT i)) :: rest))) : W p l e R s m args below meth c H locs cells slots Q (F0 m pc ls st0) :=
  z_callVc cx hCE vm_J0_length (c_J0_length l E A i hi) (va_O_recv (hCE.1.1 i hi).1) trivial zl ⟨rfl, rfl⟩ zR rfl zs zt z8 zd zf kk
theorem k_J0_charAt_5068e (cx : Cx E p s args m c own cc nL) (hCE : CE E A s H) (hi : i < 7) (hj : j < leT i) (zl : Cond.methodLink own index yJ0_charAt_5068e ∈ AllW) (zR : 3 + 1 ≤ R.frames ∧ 8 + (2 + 11) + 64 ≤ R.locals) (zs : ls.size = nL) (zt : st0 = ([.int (nI j)] : List Value).reverse ++ .ref (aS E i) :: rest) (z8 : (rest.map fun v => v.category).sum ≤ 8) (zd : decode cc pc = .ok (.invokevirtual index, 3)) (zf : cells ≤ R.cells ∧ slots ≤ R.slots)
    (kk : W p l e R s m args below meth c H locs cells slots Q (F0 m (pc + 3) ls (.int (nI (kT i j)) :: rest))) : W p l e R s m args below meth c H locs cells slots Q (F0 m pc ls st0) :=
  z_callVc (v := .int (nI (kT i j))) cx hCE vm_J0_charAt (by rw [← (ksT_ch i hi j hj).1]; exact c_J0_charAt l E A i j hi hj) (va_O_recv (hCE.1.1 i hi).1) trivial zl ⟨rfl, rfl⟩ zR rfl zs zt z8 zd zf kk
end KJ
