/-! what things swing, what they take to strike, which buzz -/
def iN (x : Int32) : Nat := x.toInt.toNat
theorem iN_nI {n : Nat} (h : n < 2147483648) : iN (nI n) = n := by unfold iN; rw [nI_toInt (by omega)]; omega
def onN (sv : Nat → Int32) (n : Nat) : Nat := iN (g5 sv n 1)
def prK (k f : Int32) : Int32 := if k = 1 then 5 + f else if k = 2 then 15 else if k = 3 then 2 else if k = 4 then 45 + f else if k = 5 then 10 + f else if k = 6 then 0 else if k = 7 then 1 else 5
def prO (sv : Nat → Int32) (n : Nat) : Int32 := prK (g5 sv n 0) (g5 sv n 3)
def mxI (a b : Int32) : Int32 := if a ≤ b then b else a
def swSum (sv : Nat → Int32) (f st : Int32) : Nat → Int32
  | 0 => 0
  | n + 1 => swSum sv f st n + sw sv n f st
def irm (x y : Int32) : Int32 := x - x / y * y
def swT (sv : Nat → Int32) (n : Nat) (f st : Int32) : Int32 :=
  if g5 sv n 0 = 2 then mxI (sw sv (onN sv n) f st) (sw sv (onN sv n) (2 * f) st)
  else if g5 sv n 0 = 5 then swSum sv f st (nP sv) / 4
  else if g5 sv n 0 = 6 then (if sv 5 = 1 then sw sv (onN sv n) f st else 0)
  else if g5 sv n 0 = 7 then (if sv 6 = irm (g5 sv n 3) 4 then st * (g5 sv n 3 + 1) else 0)
  else sw sv (onN sv n) f st
def smW (sv : Nat → Int32) (n : Nat) (gap dry : Int32) : Int32 := if 1 ≤ gap - dry * g5 sv n 3 then gap - dry * g5 sv n 3 else 1
def stW (sv : Nat → Int32) (n : Nat) (gap dry : Int32) : Int32 :=
  if g5 sv n 0 = 1 then smW sv n gap dry
  else if g5 sv n 0 = 3 then gap + 10 * g5 sv n 3
  else if g5 sv n 0 = 4 then (if 1 ≤ smW sv n gap dry / 2 then smW sv n gap dry / 2 else 1)
  else if g5 sv n 0 = 6 then gap + lsN sv (onN sv n)
  else gap
def stO (sv : Nat → Int32) (n : Nat) : Int32 := stW sv n (g5 sv n 2) (sv 4)
def bzA (sv : Nat → Int32) (n : Nat) (f st : Int32) : Bool := decide (stO sv n < swT sv n f st)
def hrN (sv : Nat → Int32) (f st : Int32) : Nat → Int32
  | 0 => 0
  | n + 1 => hrN sv f st n ||| (if bzA sv n f st = true then 1 <<< (nI n &&& 31) else 0)
def hrA (sv : Nat → Int32) (f st : Int32) : Int32 := hrN sv f st (nT sv)
theorem on_nat {sv : Nat → Int32} (hC : InvC sv) (hT : InvT sv) {n : Nat} (hn : n < nT sv) : onN sv n < nP sv ∧ g5 sv n 1 = nI (onN sv n) := by
  obtain ⟨-, ⟨j, hj, e⟩, -⟩ := hT n hn
  have hP := (Inv.n0 hC).2
  have : onN sv n = j := by unfold onN; rw [e]; exact iN_nI (by omega)
  rw [this]
  exact ⟨hj, e⟩
/-! answers of the calls -/
def pieceP (sv : Nat → Int32) (x w : Int32) : Int32 :=
  if isPc sv x = true then
    if w = 0 then g6 sv (iN x) 0 else if w = 1 then g6 sv (iN x) 1 else if w = 2 then g6 sv (iN x) 2 else if w = 3 then g6 sv (iN x) 3 else if w = 4 then g6 sv (iN x) 4 else if w = 5 then g6 sv (iN x) 5 else if w = 6 then tnN sv (iN x) else if w = 7 then lsN sv (iN x) else -1
  else -1
def thingP (sv : Nat → Int32) (x w : Int32) : Int32 :=
  if isTh sv x = true ∧ inL w 0 5 = true then (if w = 5 then prO sv (iN x) else g5 sv (iN x) (iN w)) else -1
def swingP (sv : Nat → Int32) (x f st : Int32) : Int32 := if isPc sv x = true ∧ inL f 1 1200 = true ∧ inL st 1 99 = true then sw sv (iN x) f st else -1
def buzzesP (sv : Nat → Int32) (x f st w : Int32) : Int32 :=
  if isTh sv x = true ∧ inL f 1 1200 = true ∧ inL st 1 99 = true ∧ inL w 0 2 = true then (if w = 0 then swT sv (iN x) f st else if w = 1 then stO sv (iN x) else bI (bzA sv (iN x) f st)) else -1
def heardP (sv : Nat → Int32) (f st : Int32) : Int32 := if inL f 1 1200 = true ∧ inL st 1 99 = true then hrA sv f st else -1
theorem z_tope {p : Program} {l : Launch} {e : Env} {R : Room} {s : State} {m : MethodId} {args : Array Value} {below : List Frame} {meth : Method} {c : Code} {H : Heap} {locs : List Loc} {cells slots : Nat} {Q : State → Prop} {pc : Nat} {ls : Array Slot} {rest : List Value} {x y : Int32} (h : x = y) (k : W p l e R s m args below meth c H locs cells slots Q (F0 m pc ls (.int y :: rest))) : W p l e R s m args below meth c H locs cells slots Q (F0 m pc ls (.int x :: rest)) := h ▸ k
theorem tone_rg {f : Int32} (h : inL f 1 1200 = true) : rg f 1 1200 := by
  have h1 := inL_rg h
  have e1 : (1 : Int32).toInt = 1 := rfl
  have e2 : (1200 : Int32).toInt = 1200 := rfl
  rw [e1, e2] at h1
  exact h1
theorem strong_rg {f : Int32} (h : inL f 1 99 = true) : rg f 1 99 := by
  have h1 := inL_rg h
  have e1 : (1 : Int32).toInt = 1 := rfl
  have e2 : (99 : Int32).toInt = 99 := rfl
  rw [e1, e2] at h1
  exact h1
