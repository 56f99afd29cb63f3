theorem pb_out (sv w : Nat → Int32) (j : Nat) (h1 : ¬ (3 ≤ j ∧ j < 8)) (h2 : ¬ (13 ≤ j ∧ (j - 13) % 6 = 0 ∧ (j - 13) / 6 < 10)) : pb sv w j = sv j := by
  unfold pb pbB
  rw [if_neg h1, if_neg h2]
theorem pb_lo (sv w : Nat → Int32) (j : Nat) (h : j < 3) : pb sv w j = sv j := pb_out sv w j (by omega) (by omega)
theorem pb_hi (sv w : Nat → Int32) (j : Nat) (h : 68 ≤ j) : pb sv w j = sv j := pb_out sv w j (by omega) (by omega)
theorem pb_set (sv w : Nat → Int32) (k : Nat) (h : k < 5) : pb sv w (3 + k) = w k := by
  unfold pb pbB
  rw [if_pos (by omega)]
  congr 1
  omega
theorem pb_g6 (sv w : Nat → Int32) (n k : Nat) (h : k < 5) : g6 (pb sv w) n k = g6 sv n k := pb_out sv w _ (by omega) (by omega)
theorem pb_wax (sv w : Nat → Int32) (n : Nat) (h : n < 10) : g6 (pb sv w) n 5 = w (5 + n) := by
  unfold g6 pb pbB
  rw [if_neg (by omega), if_pos (by omega)]
  congr 1
  omega
theorem pb_g5 (sv w : Nat → Int32) (n k : Nat) : g5 (pb sv w) n k = g5 sv n k := pb_hi sv w _ (by omega)
theorem pb_nP (sv w : Nat → Int32) : nP (pb sv w) = nP sv := by unfold nP; rw [pb_lo _ _ _ (by omega)]
theorem pb_nT (sv w : Nat → Int32) : nT (pb sv w) = nT sv := by unfold nT; rw [pb_lo _ _ _ (by omega)]
theorem pb_nA (sv w : Nat → Int32) : nA (pb sv w) = nA sv := by unfold nA; rw [pb_lo _ _ _ (by omega)]
theorem Inv_pb {sv w : Nat → Int32} (h : Inv sv) (hz : InvZ (nP sv) w) (hw : ∀ n, n < 10 → rg (w (5 + n)) 0 20) : Inv (pb sv w) := by
  obtain ⟨hC, hS, hP, hT, hA⟩ := h
  refine ⟨?_, ⟨?_, ?_⟩, ?_, ?_, ?_⟩
  · unfold InvC
    rw [pb_lo _ _ _ (by omega), pb_lo _ _ _ (by omega), pb_lo _ _ _ (by omega)]
    exact hC
  · unfold InvZ at hz ⊢
    rw [pb_nP]
    simp only [pb_set sv w 0 (by omega), pb_set sv w 1 (by omega), pb_set sv w 2 (by omega), pb_set sv w 3 (by omega), pb_set sv w 4 (by omega)]
    exact hz
  · intro n hn
    rw [pb_wax _ _ _ hn]
    exact hw n hn
  · intro n hn
    rw [pb_nP] at hn
    rw [pb_g6 _ _ _ _ (by omega), pb_g6 _ _ _ _ (by omega), pb_g6 _ _ _ _ (by omega), pb_g6 _ _ _ _ (by omega), pb_g6 _ _ _ _ (by omega)]
    exact hP n hn
  · intro n hn
    rw [pb_nT] at hn
    rw [pb_nP]
    simp only [pb_g5]
    exact hT n hn
  · intro i hi
    rw [pb_nA] at hi
    rw [pb_nP, pb_hi _ _ _ (by omega), pb_hi _ _ _ (by omega), pb_hi _ _ _ (by omega)]
    obtain ⟨h1, h2, h3, h4, h5⟩ := hA i hi
    refine ⟨h1, h2, h3, ?_, fun n hn => by rw [pb_hi _ _ _ (by omega)]; exact h5 n hn⟩
    rw [show (fun k => pb sv w (103 + 18 * i + 3 + k)) = fun k => sv (103 + 18 * i + 3 + k) from funext fun k => pb_hi _ _ _ (by omega)]
    exact h4
/-- the settings kept with an ask; what buzzed at it -/
def askW (sv : Nat → Int32) (i : Nat) : Nat → Int32 := fun q => sv (103 + 18 * i + 3 + q)
def bzV (sv : Nat → Int32) (i : Nat) : Int32 := hrA (pb sv (askW sv i)) (sv (103 + 18 * i)) (sv (103 + 18 * i + 1))
theorem Inv_ask {sv : Nat → Int32} (h : Inv sv) {i : Nat} (hi : i < nA sv) : Inv (pb sv (askW sv i)) := by
  obtain ⟨-, -, -, h4, h5⟩ := h.2.2.2.2 i hi
  refine Inv_pb h h4 fun n hn => ?_
  have := h5 n hn
  unfold askW
  rw [show 103 + 18 * i + 3 + (5 + n) = 103 + 18 * i + 8 + n by omega]
  exact this
theorem allN_congr {P Q : Nat → Bool} : ∀ (r i : Nat), (∀ j, i ≤ j → j < i + r → P j = Q j) → allN P r i = allN Q r i := by
  intro r
  induction r with
  | zero => intro i _; rfl
  | succ r ih =>
    intro i h
    simp only [allN]
    rw [h i (Nat.le_refl _) (by omega), ih (i + 1) fun j h1 h2 => h j (by omega) (by omega)]
def fitS (sv : Nat → Int32) (set : Int32) : Bool := ftB sv (bzV sv) set
theorem ftB_eq {sv bu : Nat → Int32} {set : Int32} (h : ∀ j, j < nA sv → bu j = bzV sv j) : ftB sv bu set = fitS sv set := by
  unfold fitS ftB
  exact allN_congr _ _ fun j _ h2 => by rw [h j (by omega)]
def one_ (n : Nat) : Int32 := 1 <<< (nI n &&& 31)
def ftA (sv : Nat → Int32) : Int32 := orN (fun t => if fitS sv (1 <<< (nI t &&& 31)) = true then 1 <<< (nI t &&& 31) else 0) (nT sv)
def fitsP (sv : Nat → Int32) : Int32 := if sv 1 = 0 then -3 else ftA sv
def bothP (sv : Nat → Int32) (x y : Int32) : Int32 := if isTh sv x = true ∧ isTh sv y = true ∧ ¬ x = y then bI (fitS sv ((1 <<< (x &&& 31)) ||| (1 <<< (y &&& 31)))) else -1
/-- odds: what a pair a, b of things brings; over pairs with b from a on -/
def odC (sv : Nat → Int32) (two : Bool) (a b : Nat) : Int32 := if two = decide (a = b) then 0 else if fitS sv ((1 <<< (nI a &&& 31)) ||| (1 <<< (nI b &&& 31))) = true then (if two = true then g5 sv a 4 * g5 sv b 4 else g5 sv a 4) else 0
def odO (sv : Nat → Int32) (two : Bool) (n a b : Nat) : Int32 := if a = n ∨ b = n then odC sv two a b else 0
def odI (f : Nat → Nat → Int32) (a : Nat) : Nat → Int32 := sumN (fun k => f a (a + k))
def odS (f : Nat → Nat → Int32) (N : Nat) : Nat → Int32 := sumN (fun a => odI f a (N - a))
def oddsP (sv : Nat → Int32) (x : Int32) (two : Bool) (part : Int32) : Int32 :=
  if isTh sv x = true ∧ inL part 0 1 = true then
    (if odS (odC sv two) (nT sv) (nT sv) = 0 then -4
     else if part = 0 then odS (odO sv two (iN x)) (nT sv) (nT sv) / nI (Nat.gcd (iN (odS (odC sv two) (nT sv) (nT sv))) (iN (odS (odO sv two (iN x)) (nT sv) (nT sv))))
     else odS (odC sv two) (nT sv) (nT sv) / nI (Nat.gcd (iN (odS (odC sv two) (nT sv) (nT sv))) (iN (odS (odO sv two (iN x)) (nT sv) (nT sv)))))
  else -1
theorem sumN_rg {f : Nat → Int32} {B : Int} (hB : 0 ≤ B) : ∀ (n : Nat), (∀ k, k < n → rg (f k) 0 B) → B * n < 2147483648 → rg (sumN f n) 0 (B * n) := by
  intro n
  induction n with
  | zero => intro _ _; unfold rg sumN; exact ⟨by decide, by rw [show ((0 : Nat) : Int) = 0 from rfl]; simp⟩
  | succ n ih =>
    intro h hb
    have e : B * ((n + 1 : Nat) : Int) = B * n + B := by rw [Int.natCast_add, Int.mul_add]; simp
    rw [e] at hb ⊢
    have h1 := ih (fun k hk => h k (by omega)) (by omega)
    have h2 := h n (by omega)
    unfold rg at h1 h2 ⊢
    simp only [sumN]
    rw [ti_add] <;> omega
theorem odC_rg {sv : Nat → Int32} (hT : InvT sv) {two : Bool} {a b : Nat} (ha : a < nT sv) (hb : b < nT sv) : rg (odC sv two a b) 0 9801 := by
  have h1 := (hT a ha).2.2.2.2
  have h2 := (hT b hb).2.2.2.2
  unfold rg at h1 h2
  have h0 : rg (0 : Int32) 0 9801 := ⟨by decide, by decide⟩
  unfold odC
  split
  · exact h0
  · split
    · split
      · have m1 : 0 ≤ (g5 sv a 4).toInt * (g5 sv b 4).toInt := Int.mul_nonneg (by omega) (by omega)
        have m2 : (g5 sv a 4).toInt * (g5 sv b 4).toInt ≤ 99 * 99 := Int.mul_le_mul (by omega) (by omega) (by omega) (by omega)
        unfold rg
        rw [ti_mul] <;> omega
      · unfold rg
        omega
    · exact h0
theorem odO_rg {sv : Nat → Int32} (hT : InvT sv) {two : Bool} {n a b : Nat} (ha : a < nT sv) (hb : b < nT sv) : rg (odO sv two n a b) 0 9801 := by
  unfold odO
  split
  · exact odC_rg hT ha hb
  · exact ⟨by decide, by decide⟩
theorem odS_rg {f : Nat → Nat → Int32} {N : Nat} (hN : N ≤ 7) (h : ∀ a b, a < N → b < N → rg (f a b) 0 9801) : rg (odS f N N) 0 480249 := by
  have h1 : ∀ a, a < N → rg (odI f a (N - a)) 0 68607 := by
    intro a ha
    have := sumN_rg (f := fun k => f a (a + k)) (B := 9801) (by omega) (N - a) (fun k hk => h a (a + k) ha (by omega)) (by omega)
    exact rg_w this (by omega) (by omega)
  have := sumN_rg (f := fun a => odI f a (N - a)) (B := 68607) (by omega) N h1 (by omega)
  exact rg_w this (by omega) (by omega)
theorem rg_iN {x : Int32} {a b : Int} (h : rg x a b) (ha : 0 ≤ a) (hb : b < 2147483648) : x = nI (iN x) ∧ (iN x : Int) ≤ b ∧ (0 < a → 0 < iN x) := by
  refine ⟨rg_nI h ha hb, ?_, ?_⟩ <;> (unfold iN; unfold rg at h; omega)
/-- the likeliest single thing; the next tone -/
def whS (sv : Nat → Int32) (set : Int32) : Nat → Int32
  | 0 => -4
  | n + 1 => if bit set n = true ∧ (whS sv set n < 0 ∨ g5 sv (iN (whS sv set n)) 4 < g5 sv n 4) then nI n else whS sv set n
def whP (sv : Nat → Int32) : Int32 := whS sv (ftA sv) (nT sv)
def nxV (sv : Nat → Int32) (st : Int32) (k : Nat) : Int32 := amt (2 * chA sv (ftA sv &&& hrA sv (nI (10 * k)) st) - chA sv (ftA sv))
/-- best tone and what it is off by, after k tones -/
def nxS (sv : Nat → Int32) (st : Int32) : Nat → Int32 × Int32
  | 0 => (-4, 0)
  | k + 1 => if 0 ≤ (nxS sv st k).1 ∧ (nxS sv st k).2 ≤ nxV sv st (k + 1) then nxS sv st k else (nI (10 * (k + 1)), nxV sv st (k + 1))
def nextP (sv : Nat → Int32) (st : Int32) : Int32 := if inL st 1 99 = true then (if ftA sv = 0 then -4 else (nxS sv st 60).1) else -1
def fewestP (sv kp so sz el : Nat → Int32) (d st : Int32) : Int32 :=
  if inL d 0 7 = true ∧ inL st 1 99 = true then
    (if wtT kp so sz el d 6 = 0 then (if ftA sv = 0 then -4 else wo (fun i => hrA sv (el (100 * iN d + i)) st) (iN (sz (iN d))) (iN (ftA sv))) else wtT kp so sz el d 6)
  else -1
/-- the gap of a thing changed -/
def gapS (sv : Nat → Int32) (n g : Nat) : Nat → Int32 := upd sv (68 + 5 * n + 2) (nI g)
def lnT (sv : Nat → Int32) (n g : Nat) : Bool := fitS (gapS sv n g) (1 <<< (nI n &&& 31))
/-- the first gap that fits, or the last -/
def lnS (sv : Nat → Int32) (n : Nat) (w : Int32) : Nat → Int32
  | 0 => -4
  | g + 1 => if lnS sv n w g < 0 ∨ w = 1 then (if lnT sv n (g + 1) = true then nI (g + 1) else lnS sv n w g) else lnS sv n w g
def lengthP (sv : Nat → Int32) (x w : Int32) : Int32 := if isTh sv x = true ∧ inL w 0 1 = true then lnS sv (iN x) w 999 else -1
