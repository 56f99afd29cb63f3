/-! searches, sums, shelves: the reference's answers, loop by loop -/
theorem gtn {a b : Nat} {x y : Int32} (hx : x = nI a) (hy : y = nI b) (ha : a < 2147483648) (hb : b < 2147483648) (h : x < y) : a < b := by
  subst hx; subst hy
  rw [nI_ltI (by omega) (by omega)] at h
  exact h
theorem ngt {a b : Nat} {x y : Int32} (hx : x = nI a) (hy : y = nI b) (ha : a < 2147483648) (hb : b < 2147483648) (h : ¬ x < y) : b ≤ a := by
  subst hx; subst hy
  rw [nI_ltI (by omega) (by omega)] at h
  omega
def fstN (P : Nat → Bool) : Nat → Nat → Option Nat
  | 0, _ => none
  | r + 1, i => if P i = true then some i else fstN P r (i + 1)
theorem fstN_hit {P : Nat → Bool} {r i : Nat} (h : P i = true) (hr : 0 < r) : fstN P r i = some i := by
  cases r with
  | zero => omega
  | succ r => simp [fstN, h]
theorem fstN_miss {P : Nat → Bool} {r i : Nat} (h : P i = false) (hr : 0 < r) : fstN P r i = fstN P (r - 1) (i + 1) := by
  cases r with
  | zero => omega
  | succ r => simp [fstN, h]
def oI (o : Option Nat) : Int32 := match o with
  | some k => nI k
  | none => -4
def allN (P : Nat → Bool) : Nat → Nat → Bool
  | 0, _ => true
  | r + 1, i => P i && allN P r (i + 1)
theorem allN_no {P : Nat → Bool} {r i : Nat} (h : P i = false) (hr : 0 < r) : allN P r i = false := by
  cases r with
  | zero => omega
  | succ r => simp [allN, h]
theorem allN_go {P : Nat → Bool} {r i : Nat} (h : P i = true) (hr : 0 < r) : allN P r i = allN P (r - 1) (i + 1) := by
  cases r with
  | zero => omega
  | succ r => simp [allN, h]
/-- a fold by steps -/
def sumN (f : Nat → Int32) : Nat → Int32
  | 0 => 0
  | n + 1 => sumN f n + f n
def orN (f : Nat → Int32) : Nat → Int32
  | 0 => 0
  | n + 1 => orN f n ||| f n
def softestP (sv : Nat → Int32) (x f : Int32) : Int32 := if isTh sv x = true ∧ inL f 1 1200 = true then oI (fstN (fun k => bzA sv (iN x) f (nI k)) 99 1) else -1
def lou (sv : Nat → Int32) (n : Nat) (st : Int32) : Nat → Nat
  | 0 => 1
  | k + 1 => if k = 0 then 1 else if sw sv n (nI (lou sv n st k)) st < sw sv n (nI (k + 1)) st then k + 1 else lou sv n st k
def loudestP (sv : Nat → Int32) (x st : Int32) : Int32 := if isPc sv x = true ∧ inL st 1 99 = true then nI (lou sv (iN x) st 600) else -1
def bit (set : Int32) (n : Nat) : Bool := decide ((set >>> (nI n &&& 31)) &&& 1 = 1)
def csN (sv : Nat → Int32) (set : Int32) : Nat → Int32 := sumN (fun n => if bit set n = true then g5 sv n 4 else 0)
def chA (sv : Nat → Int32) (set : Int32) : Int32 := csN sv set (nT sv)
def shO (sv : Nat → Int32) (n : Nat) (w : Int32) : Int32 := tnN sv n - tnW sv n (g6 sv n 5 + w)
def shiftP (sv : Nat → Int32) (x w : Int32) : Int32 := if isPc sv x = true ∧ inL w 0 20 = true then (if g6 sv (iN x) 5 + w ≤ 20 then shO sv (iN x) w else -3) else -1
def lvB (sv : Nat → Int32) (w sh m : Int32) (n : Nat) : Bool := decide (g6 sv n 5 + w ≤ 20) && decide ((shO sv n w).toInt64 - sh.toInt64 ≤ m.toInt64) && decide ((-m).toInt64 ≤ (shO sv n w).toInt64 - sh.toInt64)
def livesP (sv : Nat → Int32) (w sh m : Int32) : Int32 := if inL w 0 20 = true ∧ inL m 0 99 = true then orN (fun n => if lvB sv w sh m n = true then 1 <<< (nI n &&& 31) else 0) (nP sv) else -1
def seamP (sv : Nat → Int32) (x y f : Int32) : Int32 := if isTh sv x = true ∧ isTh sv y = true ∧ ¬ x = y ∧ g5 sv (iN x) 1 = g5 sv (iN y) 1 ∧ inL f 1 1200 = true then oI (fstN (fun k => bzA sv (iN x) f (nI k) != bzA sv (iN y) f (nI k)) 99 1) else -1
def wfB (sv : Nat → Int32) (a b : Nat) : Bool := decide (g6 sv b 3 = nI a) && decide (¬ 6 ≤ amt (tnN sv a - tnN sv b))
/-- the wolves of piece a from b on, n before them: the i-th, or how many behind them -/
def wB (sv : Nat → Int32) (i : Int32) (a : Nat) : Nat → Nat → Nat → Option Nat × Nat
  | 0, _, n => (none, n)
  | r + 1, b, n => if wfB sv a b = true then (if nI n = i then (some (10 * a + b), n) else wB sv i a r (b + 1) (n + 1)) else wB sv i a r (b + 1) n
def wA (sv : Nat → Int32) (i : Int32) : Nat → Nat → Nat → Option Nat × Nat
  | 0, _, n => (none, n)
  | r + 1, a, n => match wB sv i a (nP sv) 0 n with
    | (some x, k) => (some x, k)
    | (none, k) => wA sv i r (a + 1) k
def wfO (sv : Nat → Int32) (i : Int32) : Int32 := match wA sv i (nP sv) 0 0 with
  | (some x, _) => nI x
  | (none, n) => if 0 ≤ i then -4 else nI n
def wolfP (sv : Nat → Int32) (i : Int32) : Int32 := if -1 ≤ i then wfO sv i else -1
def btO (sv : Nat → Int32) (w : Int32) : Int32 := if amt (tnN sv (iN (w / 10)) - tnN sv (iN (w % 10))) = 0 then 600 else 600 / amt (tnN sv (iN (w / 10)) - tnN sv (iN (w % 10)))
def beatsP (sv : Nat → Int32) (i : Int32) : Int32 := if 0 ≤ i then (if 0 ≤ wfO sv i then btO sv (wfO sv i) else -4) else -1
def dryL (sv : Nat → Int32) (w : Int32) : Int32 := if sv 4 + w ≤ 20 then sv 4 + w else 20
def hmN (sv : Nat → Int32) (w : Int32) : Nat → Int32 := sumN (fun n => if g5 sv n 0 = 1 ∨ g5 sv n 0 = 4 then stO sv n - stW sv n (g5 sv n 2) (dryL sv w) else 0)
def harmP (sv : Nat → Int32) (w : Int32) : Int32 := if inL w 0 20 = true then hmN sv w (nT sv) else -1
def hdA (sv : Nat → Int32) (i : Nat) : Bool := decide (sv (103 + 18 * i + 2) = 1)
def countP (sv : Nat → Int32) (w : Int32) : Int32 := if w = 0 then sv 0 else if w = 1 then sv 1 else if w = 2 then sv 2 else if w = 3 then sumN (fun n => g6 sv n 5) (nP sv) else if w = 4 then sumN (fun i => bI (hdA sv i)) (nA sv) else if w = 5 then chA sv 127 else -1
def ftB (sv bu : Nat → Int32) (set : Int32) : Bool := allN (fun i => decide (¬ bu i &&& set = 0) == hdA sv i) (nA sv) 0
def loS (so : Nat → Int32) (n : Nat) : Int32 := if so n = 0 then -128 else if so n = 1 then -32768 else -2147483648
def wrR (kp so : Nat → Int32) (d o : Int32) : Int32 := if inL d 0 7 = true then (if kp (iN d) = 0 then -11 else if ¬ kp (iN d) = 2 ∨ (0 ≤ o ∧ ¬ so (iN d) = o) then -12 else 0) else -1
def wtT (kp so sz el : Nat → Int32) (d most : Int32) : Int32 := if wrR kp so d (-1) = 0 then (if sz (iN d) ≤ most then (if allN (fun i => inL (el (100 * iN d + i)) 1 1200) (iN (sz (iN d))) 0 = true then 0 else -13) else -13) else wrR kp so d (-1)
def wrK (kp : Nat → Int32) (d : Int32) : Int32 := if inL d 0 7 = true then (if kp (iN d) = 0 then -11 else if kp (iN d) = 1 then 0 else -12) else -1
def InvR (kp so sz : Nat → Int32) : Prop := ∀ n, n < 8 → rg (sz n) 0 100 ∧ rg (so n) 0 2 ∧ rg (kp n) 0 2
def heR (el : Nat → Int32) (po ba en : Int32) : Int32 := if en ≤ po then -1000 else el (iN (ba + po))
def judgeP (sv kp so sz el : Nat → Int32) (x st d : Int32) : Int32 := if isPc sv x = true ∧ inL st 1 99 = true ∧ inL d 0 7 = true then (if wrR kp so d (-1) = 0 then oI (fstN (fun i => decide (¬ el (100 * iN d + i) = loS so (iN d)) && decide (¬ el (100 * iN d + i) = sw sv (iN x) (10 * (nI i + 1)) st)) (iN (sz (iN d))) 0) else wrR kp so d (-1)) else -1
def isVl (w n : Int32) : Bool := if w = 0 then inL n 0 20 else if w = 1 then inL n 0 1 else if w = 2 then inL n 0 3 else decide (w = 3) && inL n (-9) 9
theorem shelf_nat {d : Int32} (h : inL d 0 7 = true) : ∃ n, n < 8 ∧ d = nI n := by
  obtain ⟨n, h1, h2⟩ := inL_nat h (B := 7) rfl
  exact ⟨n, by omega, h2⟩
