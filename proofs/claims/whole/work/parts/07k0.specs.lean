/-! reading statements -/
abbrev PS := Nat × (Nat → Int32) × Nat
def nb (tx : Nat → Int32) : Nat → Nat → Int32 → Nat × Int32
  | 0, q, v => (q, v)
  | r + 1, q, v => if 0 < v ∧ inL (tx q) 48 57 = true then nb tx r (q + 1) (10 * v + tx q - 48) else (q, v)
def pSy (tx : Nat → Int32) (k : Nat) (s : PS) : Option PS :=
  if k = 100 then (if inL (tx s.1) 48 57 = true then some (s.1 + 1, upd s.2.1 s.2.2 (tx s.1 - 48), s.2.2 + 1) else none)
  else if k = 110 then (if inL (tx s.1) 48 57 = true then some ((nb tx 2 (s.1 + 1) (tx s.1 - 48)).1, upd s.2.1 s.2.2 (nb tx 2 (s.1 + 1) (tx s.1 - 48)).2, s.2.2 + 1) else none)
  else if tx s.1 = nI k then some (s.1 + 1, s.2) else none
def pF (tx : Nat → Int32) : List Nat → PS → Bool × PS
  | [], s => (true, s)
  | k :: ks, s => match pSy tx k s with
    | none => (false, s)
    | some s2 => pF tx ks s2
def rdS (tx : Nat → Int32) (q : Nat) (nu : Nat → Int32) : Bool × PS × Bool :=
  if tx q = 112 then
    (match pF tx [110, 32, 110, 32, 110] (q + 1, nu, 0) with
     | (false, s) => (false, s, false)
     | (true, s) => match pSy tx 106 s with
       | none => ((pF tx [59] s).1, (pF tx [59] s).2, false)
       | some s2 => ((pF tx [100, 32, 110, 59] s2).1, (pF tx [100, 32, 110, 59] s2).2, true))
  else if tx q = 116 then ((pF tx [100, 100, 32, 110, 32, 100, 32, 110, 59] (q + 1, nu, 0)).1, (pF tx [100, 100, 32, 110, 32, 100, 32, 110, 59] (q + 1, nu, 0)).2, false)
  else if tx q = 100 then ((pF tx [110, 59] (q + 1, nu, 0)).1, (pF tx [110, 59] (q + 1, nu, 0)).2, false)
  else if tx q = 119 ∨ tx q = 114 then ((pF tx [100, 59] (q + 1, nu, 0)).1, (pF tx [100, 59] (q + 1, nu, 0)).2, false)
  else (false, (q, nu, 0), false)
theorem nb_stop {tx : Nat → Int32} {k r : Nat} {w : Int32} (h : k = 0 ∨ ¬ 0 < w ∨ inL (tx r) 48 57 = false) : nb tx k r w = (r, w) := by
  cases k with
  | zero => rfl
  | succ k =>
    unfold nb
    rw [if_neg]
    rintro ⟨h1, h2⟩
    rcases h with h | h | h
    · omega
    · exact h h1
    · rw [h] at h2; exact absurd h2 (by decide)
theorem nb_go {tx : Nat → Int32} {k r : Nat} {w : Int32} (hk : 0 < k) (h1 : 0 < w) (h2 : inL (tx r) 48 57 = true) : nb tx k r w = nb tx (k - 1) (r + 1) (10 * w + tx r - 48) := by
  cases k with
  | zero => omega
  | succ k => rw [nb, if_pos ⟨h1, h2⟩]; rfl
theorem hrT_lt {el : Nat → Int32} {n z q : Nat} (h : inL (hrT el n z q) 48 57 = true) : q < z := by
  by_cases c : q < z
  · exact c
  · unfold hrT at h
    rw [if_neg c] at h
    exact absurd h (by decide)
theorem hrT_lt2 {el : Nat → Int32} {n z q : Nat} {k : Int32} (h : hrT el n z q = k) (hk : k ≠ -1000) : q < z := by
  by_cases c : q < z
  · exact c
  · unfold hrT at h
    rw [if_neg c] at h
    exact absurd h.symm hk
theorem pSy_k {tx : Nat → Int32} {k : Nat} (hk : k ≠ 100 ∧ k ≠ 110) (s : PS) : pSy tx k s = if tx s.1 = nI k then some (s.1 + 1, s.2) else none := by
  unfold pSy
  rw [if_neg hk.1, if_neg hk.2]
theorem pSy_d (tx : Nat → Int32) (s : PS) : pSy tx 100 s = if inL (tx s.1) 48 57 = true then some (s.1 + 1, upd s.2.1 s.2.2 (tx s.1 - 48), s.2.2 + 1) else none := by
  unfold pSy
  rw [if_pos rfl]
theorem pSy_n (tx : Nat → Int32) (s : PS) : pSy tx 110 s = if inL (tx s.1) 48 57 = true then some ((nb tx 2 (s.1 + 1) (tx s.1 - 48)).1, upd s.2.1 s.2.2 (nb tx 2 (s.1 + 1) (tx s.1 - 48)).2, s.2.2 + 1) else none := by
  unfold pSy
  rw [if_neg (by decide), if_pos rfl]
theorem pSy_d1 {tx : Nat → Int32} {s s2 : PS} (h : pSy tx 100 s = some s2) : inL (tx s.1) 48 57 = true := by
  rw [pSy_d] at h
  by_cases c : inL (tx s.1) 48 57 = true
  · exact c
  · rw [if_neg c] at h; exact absurd h (by simp)
theorem pSy_d0 {tx : Nat → Int32} {s : PS} (h : pSy tx 100 s = none) : ¬ inL (tx s.1) 48 57 = true := by
  rw [pSy_d] at h
  intro c
  rw [if_pos c] at h
  exact absurd h (by simp)
theorem nI_p1 (t : Nat) : nI (t + 1) - 1 = nI t := by rw [← nI_1, Int32.add_sub_cancel]
