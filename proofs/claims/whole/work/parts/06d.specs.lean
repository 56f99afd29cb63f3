/-! searches, sums, shelves: the reference's answers, loop by loop -/
theorem gtn {a b : Nat} {x y : Int32} (hx : x = nI a) (hy : y = nI b) (ha : a < 2147483648) (hb : b < 2147483648) (h : x < y) : a < b := by
  subst hx; subst hy
  rw [nI_ltI (by omega) (by omega)] at h
  exact h
theorem ngt {a b : Nat} {x y : Int32} (hx : x = nI a) (hy : y = nI b) (ha : a < 2147483648) (hb : b < 2147483648) (h : ¬ x < y) : b ≤ a := by
  subst hx; subst hy
  rw [nI_ltI (by omega) (by omega)] at h
  omega
def fstN (P : Nat → Bool) : Nat → Nat → Option Nat
  | 0, _ => none
  | r + 1, i => if P i = true then some i else fstN P r (i + 1)
theorem fstN_hit {P : Nat → Bool} {r i : Nat} (h : P i = true) (hr : 0 < r) : fstN P r i = some i := by
  cases r with
  | zero => omega
  | succ r => simp [fstN, h]
theorem fstN_miss {P : Nat → Bool} {r i : Nat} (h : P i = false) (hr : 0 < r) : fstN P r i = fstN P (r - 1) (i + 1) := by
  cases r with
  | zero => omega
  | succ r => simp [fstN, h]
def oI (o : Option Nat) : Int32 := match o with
  | some k => nI k
  | none => -4
def allN (P : Nat → Bool) : Nat → Nat → Bool
  | 0, _ => true
  | r + 1, i => P i && allN P r (i + 1)
theorem allN_no {P : Nat → Bool} {r i : Nat} (h : P i = false) (hr : 0 < r) : allN P r i = false := by
  cases r with
  | zero => omega
  | succ r => simp [allN, h]
theorem allN_go {P : Nat → Bool} {r i : Nat} (h : P i = true) (hr : 0 < r) : allN P r i = allN P (r - 1) (i + 1) := by
  cases r with
  | zero => omega
  | succ r => simp [allN, h]
/-- a fold by steps -/
def sumN (f : Nat → Int32) : Nat → Int32
  | 0 => 0
  | n + 1 => sumN f n + f n
def orN (f : Nat → Int32) : Nat → Int32
  | 0 => 0
  | n + 1 => orN f n ||| f n
def softestP (sv : Nat → Int32) (x f : Int32) : Int32 := if isTh sv x = true ∧ inL f 1 1200 = true then oI (fstN (fun k => bzA sv (iN x) f (nI k)) 99 1) else -1
def lou (sv : Nat → Int32) (n : Nat) (st : Int32) : Nat → Nat
  | 0 => 1
  | k + 1 => if k = 0 then 1 else if sw sv n (nI (lou sv n st k)) st < sw sv n (nI (k + 1)) st then k + 1 else lou sv n st k
def loudestP (sv : Nat → Int32) (x st : Int32) : Int32 := if isPc sv x = true ∧ inL st 1 99 = true then nI (lou sv (iN x) st 600) else -1
def bit (set : Int32) (n : Nat) : Bool := decide ((set >>> (nI n &&& 31)) &&& 1 = 1)
def csN (sv : Nat → Int32) (set : Int32) : Nat → Int32 := sumN (fun n => if bit set n = true then g5 sv n 4 else 0)
def chA (sv : Nat → Int32) (set : Int32) : Int32 := csN sv set (nT sv)
def shO (sv : Nat → Int32) (n : Nat) (w : Int32) : Int32 := tnN sv n - tnW sv n (g6 sv n 5 + w)
def shiftP (sv : Nat → Int32) (x w : Int32) : Int32 := if isPc sv x = true ∧ inL w 0 20 = true then (if g6 sv (iN x) 5 + w ≤ 20 then shO sv (iN x) w else -3) else -1
def lvB (sv : Nat → Int32) (w sh m : Int32) (n : Nat) : Bool := decide (g6 sv n 5 + w ≤ 20) && decide ((shO sv n w).toInt64 - sh.toInt64 ≤ m.toInt64) && decide ((-m).toInt64 ≤ (shO sv n w).toInt64 - sh.toInt64)
def livesP (sv : Nat → Int32) (w sh m : Int32) : Int32 := if inL w 0 20 = true ∧ inL m 0 99 = true then orN (fun n => if lvB sv w sh m n = true then 1 <<< (nI n &&& 31) else 0) (nP sv) else -1
def seamP (sv : Nat → Int32) (x y f : Int32) : Int32 := if isTh sv x = true ∧ isTh sv y = true ∧ ¬ x = y ∧ g5 sv (iN x) 1 = g5 sv (iN y) 1 ∧ inL f 1 1200 = true then oI (fstN (fun k => bzA sv (iN x) f (nI k) != bzA sv (iN y) f (nI k)) 99 1) else -1
def wfB (sv : Nat → Int32) (a b : Nat) : Bool := decide (g6 sv b 3 = nI a) && decide (¬ 6 ≤ amt (tnN sv a - tnN sv b))
/-- the wolves of piece a from b on, n before them: the i-th, or how many behind them -/
def wB (sv : Nat → Int32) (i : Int32) (a : Nat) : Nat → Nat → Nat → Option Nat × Nat
  | 0, _, n => (none, n)
  | r + 1, b, n => if wfB sv a b = true then (if nI n = i then (some (10 * a + b), n) else wB sv i a r (b + 1) (n + 1)) else wB sv i a r (b + 1) n
def wA (sv : Nat → Int32) (i : Int32) : Nat → Nat → Nat → Option Nat × Nat
  | 0, _, n => (none, n)
  | r + 1, a, n => match wB sv i a (nP sv) 0 n with
    | (some x, k) => (some x, k)
    | (none, k) => wA sv i r (a + 1) k
def wfO (sv : Nat → Int32) (i : Int32) : Int32 := match wA sv i (nP sv) 0 0 with
  | (some x, _) => nI x
  | (none, n) => if 0 ≤ i then -4 else nI n
def wolfP (sv : Nat → Int32) (i : Int32) : Int32 := if -1 ≤ i then wfO sv i else -1
def btO (sv : Nat → Int32) (w : Int32) : Int32 := if amt (tnN sv (iN (w / 10)) - tnN sv (iN (irm w 10))) = 0 then 600 else 600 / amt (tnN sv (iN (w / 10)) - tnN sv (iN (irm w 10)))
def beatsP (sv : Nat → Int32) (i : Int32) : Int32 := if 0 ≤ i then (if 0 ≤ wfO sv i then btO sv (wfO sv i) else -4) else -1
def dryL (sv : Nat → Int32) (w : Int32) : Int32 := if sv 4 + w ≤ 20 then sv 4 + w else 20
def hmN (sv : Nat → Int32) (w : Int32) : Nat → Int32 := sumN (fun n => if g5 sv n 0 = 1 ∨ g5 sv n 0 = 4 then stO sv n - stW sv n (g5 sv n 2) (dryL sv w) else 0)
def harmP (sv : Nat → Int32) (w : Int32) : Int32 := if inL w 0 20 = true then hmN sv w (nT sv) else -1
def hdA (sv : Nat → Int32) (i : Nat) : Bool := decide (sv (103 + 18 * i + 2) = 1)
def countP (sv : Nat → Int32) (w : Int32) : Int32 := if w = 0 then sv 0 else if w = 1 then sv 1 else if w = 2 then sv 2 else if w = 3 then sumN (fun n => g6 sv n 5) (nP sv) else if w = 4 then sumN (fun i => bI (hdA sv i)) (nA sv) else if w = 5 then chA sv 127 else -1
def ftB (sv bu : Nat → Int32) (set : Int32) : Bool := allN (fun i => decide (¬ bu i &&& set = 0) == hdA sv i) (nA sv) 0
def loS (so : Nat → Int32) (n : Nat) : Int32 := if so n = 0 then -128 else if so n = 1 then -32768 else -2147483648
def wrR (kp so : Nat → Int32) (d o : Int32) : Int32 := if inL d 0 7 = true then (if kp (iN d) = 0 then -11 else if ¬ kp (iN d) = 2 ∨ (0 ≤ o ∧ ¬ so (iN d) = o) then -12 else 0) else -1
def wtT (kp so sz el : Nat → Int32) (d most : Int32) : Int32 := if wrR kp so d (-1) = 0 then (if sz (iN d) ≤ most then (if allN (fun i => inL (el (100 * iN d + i)) 1 1200) (iN (sz (iN d))) 0 = true then 0 else -13) else -13) else wrR kp so d (-1)
def wrK (kp : Nat → Int32) (d : Int32) : Int32 := if inL d 0 7 = true then (if kp (iN d) = 0 then -11 else if kp (iN d) = 1 then 0 else -12) else -1
def InvR (kp so sz : Nat → Int32) : Prop := ∀ n, n < 8 → rg (sz n) 0 100 ∧ rg (so n) 0 2 ∧ rg (kp n) 0 2
def heR (el : Nat → Int32) (po ba en : Int32) : Int32 := if en ≤ po then -1000 else el (iN (ba + po))
def judgeP (sv kp so sz el : Nat → Int32) (x st d : Int32) : Int32 := if isPc sv x = true ∧ inL st 1 99 = true ∧ inL d 0 7 = true then (if wrR kp so d (-1) = 0 then oI (fstN (fun i => decide (¬ el (100 * iN d + i) = loS so (iN d)) && decide (¬ el (100 * iN d + i) = sw sv (iN x) (10 * (nI i + 1)) st)) (iN (sz (iN d))) 0) else wrR kp so d (-1)) else -1
def isVl (w n : Int32) : Bool := if w = 0 then inL n 0 20 else if w = 1 then inL n 0 1 else if w = 2 then inL n 0 3 else decide (w = 3) && inL n (-9) 9
theorem shelf_nat {d : Int32} (h : inL d 0 7 = true) : ∃ n, n < 8 ∧ d = nI n := by
  obtain ⟨n, h1, h2⟩ := inL_nat h (B := 7) rfl
  exact ⟨n, by omega, h2⟩
def bnd (B : Nat → Bool) (i w : Int32) : Nat → Nat → Nat → Bool → Int32
  | 0, _, n, _ => if 0 ≤ i then -4 else nI n
  | r + 1, f, n, b =>
    if 0 ≤ i ∧ nI (if (decide (f ≤ 600) && B f) = true ∧ b = false then n + 1 else n) = i + 1 ∧ w = 0 ∧ (decide (f ≤ 600) && B f) = true then nI f
    else if 0 ≤ i ∧ nI (if (decide (f ≤ 600) && B f) = true ∧ b = false then n + 1 else n) = i + 1 ∧ w = 1 ∧ b = true ∧ (decide (f ≤ 600) && B f) = false then nI f - 1
    else bnd B i w r (f + 1) (if (decide (f ≤ 600) && B f) = true ∧ b = false then n + 1 else n) (decide (f ≤ 600) && B f)
def bandsP (sv : Nat → Int32) (x st i w : Int32) : Int32 := if isTh sv x = true ∧ inL st 1 99 = true ∧ -1 ≤ i ∧ inL w 0 1 = true then bnd (fun f => bzA sv (iN x) (nI f) st) i w 601 1 0 false else -1
theorem dbl_rg {f : Int32} (h : rg f 1 1200) : rg (2 * f) 1 2400 := by
  unfold rg at h ⊢
  have h2 : (2 : Int32).toInt = 2 := rfl
  rw [ti_mul] <;> rw [h2] <;> omega
theorem rgN {k : Nat} {a b : Int} (h1 : a ≤ k) (h2 : (k : Int) ≤ b) (h3 : k < 2147483648) : rg (nI k) a b := by
  unfold rg
  rw [nI_toInt (by omega)]
  exact ⟨h1, h2⟩
theorem rg_w {x : Int32} {a b c d : Int} (h : rg x a b) (h1 : c ≤ a) (h2 : b ≤ d) : rg x c d := by
  unfold rg at h ⊢
  omega
theorem lou_in (sv : Nat → Int32) (n : Nat) (st : Int32) : ∀ i, 1 ≤ lou sv n st i ∧ (1 ≤ i → lou sv n st i ≤ i) := by
  intro i
  induction i with
  | zero => exact ⟨Nat.le_refl _, fun h => by omega⟩
  | succ i ih =>
    simp only [lou]
    split
    · exact ⟨Nat.le_refl _, fun _ => by omega⟩
    · split
      · exact ⟨by omega, fun _ => Nat.le_refl _⟩
      · exact ⟨ih.1, fun _ => by have := ih.2 (by omega); omega⟩
theorem bI_eq {a b : Bool} : bI a = bI b ↔ a = b := by cases a <;> cases b <;> decide
def pop (v : Nat) : Nat := ((List.range 10).filter (fun i => v.testBit i)).length
theorem pop_step : ∀ v, v < 1024 → v ≠ 0 → (nI v &&& (nI v - 1)) = nI (v &&& (v - 1)) ∧ pop (v &&& (v - 1)) + 1 = pop v ∧ (v &&& (v - 1)) < v := by decide +kernel
theorem pop_le : ∀ v, v < 1024 → pop v ≤ 10 := by decide +kernel
theorem pop_0 : pop 0 = 0 := by decide +kernel
/-- so many steps are enough for Euclid -/
def stepsLe : Nat → Nat → Nat → Prop
  | 0, _, _ => False
  | k + 1, a, b => b = 0 ∨ stepsLe k b (a % b)
theorem stepsLe_pow : ∀ (d a b : Nat), b < 2 ^ d → stepsLe (2 * d + 1) a b := by
  intro d
  induction d with
  | zero => intro a b h; exact Or.inl (by omega)
  | succ d ih =>
    intro a b h
    show b = 0 ∨ stepsLe (2 * d + 2) b (a % b)
    by_cases hb : b = 0
    · exact Or.inl hb
    · right
      show a % b = 0 ∨ stepsLe (2 * d + 1) (a % b) (b % (a % b))
      by_cases hr : a % b = 0
      · exact Or.inl hr
      · right
        apply ih
        have h1 : a % b < b := Nat.mod_lt _ (by omega)
        have h2 : b % (a % b) < a % b := Nat.mod_lt _ (by omega)
        have h3 : (a % b) * (b / (a % b)) + b % (a % b) = b := Nat.div_add_mod _ _
        have h4 : 1 ≤ b / (a % b) := Nat.div_pos (by omega) (by omega)
        have h5 : a % b ≤ (a % b) * (b / (a % b)) := Nat.le_mul_of_pos_right _ h4
        have h6 : 2 ^ (d + 1) = 2 * 2 ^ d := by rw [Nat.pow_succ]; omega
        omega
theorem nI_div {a b : Nat} (ha : a < 2147483648) (hb : b < 2147483648) : nI a / nI b = nI (a / b) := by
  apply Int32.toInt_inj.mp
  have hm : a / b ≤ a := Nat.div_le_self _ _
  rw [ti_div (by rw [nI_toInt (by omega)]; omega), nI_toInt (by omega), nI_toInt (by omega), nI_toInt (by omega)]
  rw [Int.tdiv_eq_ediv_of_nonneg (by omega)]
  simp
theorem nI_z {a : Nat} (ha : a < 2147483648) : nI a = 0 ↔ a = 0 := by
  rw [show (0 : Int32) = nI 0 from rfl, nI_eq (by omega) (by decide)]
def fldN (g : Int32 → Nat → Int32) (z : Int32) : Nat → Int32
  | 0 => z
  | n + 1 => g (fldN g z n) n
/-- the worst case: one more tone; a set by k steps -/
def woS (W : Int32 → Int32) (ht : Nat → Int32) (set b : Int32) (i : Nat) : Int32 :=
  if set &&& ht i = 0 ∨ set &&& ht i = set then b else if b < 0 ∨ 1 + mxI (W (set &&& ht i)) (W (set &&& (set &&& ht i ^^^ -1))) < b then 1 + mxI (W (set &&& ht i)) (W (set &&& (set &&& ht i ^^^ -1))) else b
def woN (ht : Nat → Int32) (tones : Nat) : Nat → Int32 → Int32
  | 0, _ => 0
  | k + 1, set => if pop (iN set) < 2 then 0 else if fldN (woS (woN ht tones k) ht set) (-4) tones < 0 then 0 else fldN (woS (woN ht tones k) ht set) (-4) tones
theorem inL20_rg {f : Int32} (h : inL f 0 20 = true) : rg f 0 20 := by
  have h1 := inL_rg h
  have e1 : (0 : Int32).toInt = 0 := rfl
  have e2 : (20 : Int32).toInt = 20 := rfl
  rw [e1, e2] at h1
  exact h1
theorem ix18 (n : Nat) : (103 : Int32) + 18 * nI n + 2 = nI (103 + 18 * n + 2) := by rw [← nI_add, ← nI_add, ← nI_mul]; rfl
theorem fit_f {x set : Int32} {b c : Bool} (h1 : decide (¬ x &&& set = 0) = c) (h2 : ¬ bI c = bI b) : (decide (¬ x &&& set = 0) == b) = false := by
  rw [h1]
  cases b <;> cases c <;> simp_all [bI]
theorem fit_t {x set : Int32} {b c : Bool} (h1 : decide (¬ x &&& set = 0) = c) (h2 : bI c = bI b) : (decide (¬ x &&& set = 0) == b) = true := by
  rw [h1]
  cases b <;> cases c <;> simp_all [bI]
theorem lgl_lt (x y : Int64) : lg_cmp x y < 0 ↔ x < y := by
  unfold lg_cmp
  simp only [gt_iff_lt, Int64.lt_iff_toInt_lt, Int32.lt_iff_toInt_lt, ← Int64.toInt_inj]
  split
  · rename_i h
    constructor
    · intro q; exact absurd q (by decide)
    · intro q; omega
  · split
    · rename_i h1 h2
      constructor
      · intro q; exact absurd q (by decide)
      · intro q; omega
    · rename_i h1 h2
      constructor
      · intro q; omega
      · intro q; decide
theorem lgl_gt (x y : Int64) : 0 < lg_cmp x y ↔ y < x := by
  unfold lg_cmp
  simp only [gt_iff_lt, Int64.lt_iff_toInt_lt, Int32.lt_iff_toInt_lt, ← Int64.toInt_inj]
  split
  · rename_i h
    constructor
    · intro q; omega
    · intro q; decide
  · split
    · rename_i h1 h2
      constructor
      · intro q; exact absurd q (by decide)
      · intro q; omega
    · rename_i h1 h2
      constructor
      · intro q; exact absurd q (by decide)
      · intro q; omega
theorem irm_nI {a b : Nat} (ha : a < 2147483648) (hb : b < 2147483648) : irm (nI a) (nI b) = nI (a % b) := by
  unfold irm
  rw [nI_div ha hb]
  have h := Nat.div_add_mod a b
  have e : nI a = nI (a / b) * nI b + nI (a % b) := by rw [nI_mul, nI_add, Nat.mul_comm, h]
  rw [e]
  rw [Int32.add_comm, Int32.add_sub_cancel]
