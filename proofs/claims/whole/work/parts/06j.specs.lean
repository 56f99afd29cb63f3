/-! rattles, ends, copy -/
def fdF (ht : Nat → Int32) (m : Nat) : Nat → Int32 := fun j => if bit (nI m) j = true then ht j else 0
def raS (ht : Nat → Int32) (z : Nat) : Nat → Int32
  | 0 => -4
  | m + 1 => if orN (fdF ht m) z = orN ht z ∧ (raS ht z m < 0 ∨ nI (pop m) < nI (pop (iN (raS ht z m)))) then nI m else raS ht z m
theorem raS_nat {ht : Nat → Int32} {z : Nat} : ∀ m, raS ht z m < 0 ∨ ∃ j, j < m ∧ raS ht z m = nI j := by
  intro m
  induction m with
  | zero => exact Or.inl (show (-4 : Int32) < 0 by decide)
  | succ m ih =>
    unfold raS
    split
    · exact Or.inr ⟨m, by omega, rfl⟩
    · rcases ih with h1 | ⟨j, hj, e⟩
      · exact Or.inl h1
      · exact Or.inr ⟨j, by omega, e⟩
theorem bit_full : ∀ z, z ≤ 10 → ∀ j, j < z → bit (nI (2 ^ z - 1)) j = true := by decide +kernel
theorem orN_congr {f g : Nat → Int32} : ∀ n, (∀ j, j < n → f j = g j) → orN f n = orN g n := by
  intro n
  induction n with
  | zero => intro _; rfl
  | succ n ih => intro h; simp only [orN]; rw [ih fun j hj => h j (by omega), h n (by omega)]
theorem raS_full {ht : Nat → Int32} {z : Nat} (hz : z ≤ 10) : ∃ j, j < 1024 ∧ raS ht z (2 ^ z) = nI j := by
  have h2 : 2 ^ z ≤ 1024 := Nat.pow_le_pow_right (n := 2) (by decide) hz
  obtain ⟨M, hM⟩ : ∃ M, 2 ^ z = M + 1 := ⟨2 ^ z - 1, by have := Nat.two_pow_pos z; omega⟩
  have hM2 : 2 ^ z - 1 = M := by omega
  have hf : orN (fdF ht M) z = orN ht z := orN_congr z fun j hj => by unfold fdF; rw [← hM2, bit_full z hz j hj]; rfl
  rw [hM]
  rcases raS_nat (ht := ht) (z := z) M with h | ⟨j, hj, e⟩
  · refine ⟨M, by omega, ?_⟩
    simp only [raS]
    rw [if_pos ⟨hf, Or.inl h⟩]
  · simp only [raS]
    split
    · exact ⟨M, by omega, rfl⟩
    · exact ⟨j, by omega, e⟩
theorem raS_congr {f g : Nat → Int32} {z : Nat} (h : ∀ j, j < z → f j = g j) : ∀ m, raS f z m = raS g z m := by
  intro m
  have e0 := orN_congr z h
  induction m with
  | zero => rfl
  | succ m ih =>
    have e1 : orN (fdF f m) z = orN (fdF g m) z := orN_congr z fun j hj => by unfold fdF; rw [h j hj]
    simp only [raS, ih, e0, e1]
theorem shl_pow10 : ∀ n, n < 11 → (1 : Int32) <<< (nI n &&& 31) = nI (2 ^ n) := by decide +kernel
def hrE (sv el : Nat → Int32) (n : Nat) (st : Int32) : Nat → Int32 := fun j => hrA sv (el (100 * n + j)) st
def ratP (sv kp so sz el : Nat → Int32) (d st w : Int32) : Int32 :=
  if inL d 0 7 = true ∧ inL st 1 99 = true ∧ inL w 0 1 = true then
    (if wtT kp so sz el d 10 = 0 then
      (if w = 0 then nI (pop (iN (raS (hrE sv el (iN d) st) (iN (sz (iN d))) (2 ^ iN (sz (iN d)))))) else raS (hrE sv el (iN d) st) (iN (sz (iN d))) (2 ^ iN (sz (iN d))))
     else wtT kp so sz el d 10)
  else -1
/-- wax q on piece j leaves no wolf -/
def enT (sv : Nat → Int32) (q j : Nat) : Bool := decide (wfO (upd sv (8 + 6 * j + 5) (nI q)) (-1) = 0)
def enA (sv : Nat → Int32) (w : Int32) : Nat → Nat → Int32
  | 0, _ => -4
  | r + 1, q => match fstN (enT sv q) (nP sv) 0 with
    | some j => if w = 0 then nI q else nI j
    | none => enA sv w r (q + 1)
def endsP (sv : Nat → Int32) (w : Int32) : Int32 := if inL w 0 1 = true then (if sv 0 = 0 then -3 else enA sv w 21 0) else -1
theorem enA_hit {sv : Nat → Int32} {w : Int32} {r q j : Nat} (h : fstN (enT sv q) (nP sv) 0 = some j) (hr : 0 < r) : enA sv w r q = if w = 0 then nI q else nI j := by
  cases r with
  | zero => omega
  | succ r => simp [enA, h]
theorem enA_miss {sv : Nat → Int32} {w : Int32} {r q : Nat} (h : fstN (enT sv q) (nP sv) 0 = none) (hr : 0 < r) : enA sv w r q = enA sv w (r - 1) (q + 1) := by
  cases r with
  | zero => omega
  | succ r => simp [enA, h]
theorem Inv_wx {sv : Nat → Int32} (h : Inv sv) {n : Nat} {d : Int32} (hn : n < 10) (hd : rg d 0 20) : Inv (upd sv (8 + 6 * n + 5) d) := by
  obtain ⟨hC, hS, hP, hT, hA⟩ := h
  have h7 := (Inv.n1 hC).2
  have h10 := (Inv.n0 hC).2
  have ne : ∀ j, j ≠ 8 + 6 * n + 5 → upd sv (8 + 6 * n + 5) d j = sv j := fun j q => upd_ne sv _ q
  have nP_ : nP (upd sv (8 + 6 * n + 5) d) = nP sv := by unfold nP; rw [ne _ (by omega)]
  have nT_ : nT (upd sv (8 + 6 * n + 5) d) = nT sv := by unfold nT; rw [ne _ (by omega)]
  have nA_ : nA (upd sv (8 + 6 * n + 5) d) = nA sv := by unfold nA; rw [ne _ (by omega)]
  have g6_ : ∀ m k, k < 5 → g6 (upd sv (8 + 6 * n + 5) d) m k = g6 sv m k := fun m k hk => ne _ (by omega)
  refine ⟨?_, ⟨?_, ?_⟩, ?_, ?_, ?_⟩
  · unfold InvC
    rw [ne _ (by omega), ne _ (by omega), ne _ (by omega)]
    exact hC
  · rw [nP_]
    have q : ∀ k, k < 5 → upd sv (8 + 6 * n + 5) d (3 + k) = sv (3 + k) := fun k hk => ne _ (by omega)
    unfold InvZ
    simp only [q 0 (by decide), q 1 (by decide), q 2 (by decide), q 3 (by decide), q 4 (by decide)]
    exact hS.1
  · intro m hm
    by_cases q : m = n
    · subst q
      rw [show g6 (upd sv (8 + 6 * m + 5) d) m 5 = d from upd_self _ _ _]
      exact hd
    · rw [show g6 (upd sv (8 + 6 * n + 5) d) m 5 = g6 sv m 5 from ne _ (by omega)]
      exact hS.2 m hm
  · intro m hm
    rw [nP_] at hm
    rw [g6_ m 0 (by decide), g6_ m 1 (by decide), g6_ m 2 (by decide), g6_ m 3 (by decide), g6_ m 4 (by decide)]
    exact hP m hm
  · intro m hm
    rw [nT_] at hm
    rw [nP_]
    have e5 : ∀ k, k < 5 → g5 (upd sv (8 + 6 * n + 5) d) m k = g5 sv m k := fun k hk => ne _ (by omega)
    rw [e5 0 (by decide), e5 1 (by decide), e5 2 (by decide), e5 3 (by decide), e5 4 (by decide)]
    exact hT m hm
  · intro i hi
    rw [nA_] at hi
    rw [nP_, ne _ (by omega), ne _ (by omega), ne _ (by omega)]
    obtain ⟨b1, b2, b3, b4, b5⟩ := hA i hi
    refine ⟨b1, b2, b3, ?_, fun m hm => by rw [ne _ (by omega)]; exact b5 m hm⟩
    rw [show (fun k => upd sv (8 + 6 * n + 5) d (103 + 18 * i + 3 + k)) = fun k => sv (103 + 18 * i + 3 + k) from funext fun k => ne _ (by omega)]
    exact b4
/-! copying between rows -/
def copyR (kp so sz : Nat → Int32) (d x f y n : Int32) : Int32 :=
  if inL d 0 7 = true ∧ inL f 0 7 = true then
    (if kp (iN d) = 0 ∨ kp (iN f) = 0 then -11
     else if ¬ kp (iN d) = 2 ∨ ¬ kp (iN f) = 2 ∨ ¬ so (iN d) = so (iN f) then -12
     else if n < 0 ∨ x < 0 ∨ y < 0 ∨ sz (iN d) - x < n ∨ sz (iN f) - y < n then -13 else n)
  else -1
def mvA (el : Nat → Int32) (S D n : Nat) : Nat → Int32 := fun q => if D ≤ q ∧ q < D + n then el (S + (q - D)) else el q
def mvB (el : Nat → Int32) (S D n k : Nat) : Nat → Int32 := fun q => if D + (n - k) ≤ q ∧ q < D + n then el (S + (q - D)) else el q
def mvE (i j : Nat) (el : Nat → Int32) (S D n k : Nat) : Nat → Int32 := if j < i then mvA el S D k else mvB el S D n k
def copyE (kp so sz el : Nat → Int32) (d x f y n : Int32) : Nat → Int32 := if 0 ≤ copyR kp so sz d x f y n then mvA el (100 * iN d + iN x) (100 * iN f + iN y) (iN n) else el
theorem mvE_0 (i j : Nat) (el : Nat → Int32) (S D n : Nat) : mvE i j el S D n 0 = el := by
  funext q
  unfold mvE mvA mvB
  split <;> exact if_neg (by omega)
theorem mvE_n (i j : Nat) (el : Nat → Int32) (S D n : Nat) : mvE i j el S D n n = mvA el S D n := by
  unfold mvE mvB
  split
  · rfl
  · rw [Nat.sub_self]; rfl
theorem mvE_f {i j d f n k : Nat} (el : Nat → Int32) (h : j < i) (hi : i + n ≤ 100) (hk : k < n) : upd (mvE i j el (100 * d + i) (100 * f + j) n k) (100 * f + j + k) (mvE i j el (100 * d + i) (100 * f + j) n k (100 * d + i + k)) = mvE i j el (100 * d + i) (100 * f + j) n (k + 1) := by
  unfold mvE
  simp only [if_pos h]
  funext q
  unfold upd
  by_cases hq : q = 100 * f + j + k
  · rw [if_pos hq]
    unfold mvA
    rw [if_neg (by omega), if_pos (by omega)]
    congr 1
    omega
  · rw [if_neg hq]
    unfold mvA
    by_cases h2 : 100 * f + j ≤ q ∧ q < 100 * f + j + k
    · rw [if_pos h2, if_pos (by omega)]
    · rw [if_neg h2, if_neg (by omega)]
theorem mvE_b {i j d f n k : Nat} (el : Nat → Int32) (h : ¬ j < i) (hj : j + n ≤ 100) (hk : k < n) : upd (mvE i j el (100 * d + i) (100 * f + j) n k) (100 * f + j + (n - 1 - k)) (mvE i j el (100 * d + i) (100 * f + j) n k (100 * d + i + (n - 1 - k))) = mvE i j el (100 * d + i) (100 * f + j) n (k + 1) := by
  unfold mvE
  simp only [if_neg h]
  funext q
  unfold upd
  by_cases hq : q = 100 * f + j + (n - 1 - k)
  · rw [if_pos hq]
    unfold mvB
    rw [if_neg (by omega), if_pos (by omega)]
    congr 1
    omega
  · rw [if_neg hq]
    unfold mvB
    by_cases h2 : 100 * f + j + (n - k) ≤ q ∧ q < 100 * f + j + n
    · rw [if_pos h2, if_pos (by omega)]
    · rw [if_neg h2, if_neg (by omega)]
theorem cp_nat {z x n : Int32} {Z : Nat} (hz : z = nI Z) (hZ : Z ≤ 100) (hx : ¬ x < 0) (hn : ¬ n < 0) (h : ¬ z - x < n) : ∃ i k, x = nI i ∧ n = nI k ∧ i + k ≤ Z := by
  have h0 : (0 : Int32).toInt = 0 := rfl
  rw [Int32.lt_iff_toInt_lt, h0] at hx hn
  rw [Int32.lt_iff_toInt_lt] at h
  have hzi : z.toInt = Z := by rw [hz, nI_toInt (by omega)]
  have bx := Int32.toInt_lt x
  rw [ti_sub (by omega) (by omega)] at h
  refine ⟨x.toInt.toNat, n.toInt.toNat, rg_nI (a := 0) (b := x.toInt) ⟨by omega, by omega⟩ (by decide) (by omega), rg_nI (a := 0) (b := n.toInt) ⟨by omega, by omega⟩ (by decide) (by have := Int32.toInt_lt n; omega), by omega⟩
theorem nk_sub {n k : Nat} (h : k < n) (hn : n ≤ 100) : nI n - 1 - nI k = nI (n - 1 - k) := by
  have h1 : (1 : Int32).toInt = 1 := rfl
  have hn1 : (nI n).toInt = n := nI_toInt (by omega)
  have hk1 : (nI k).toInt = k := nI_toInt (by omega)
  have e1 : (nI n - 1).toInt = (n : Int) - 1 := by rw [ti_sub (by omega) (by omega), hn1, h1]
  apply Int32.toInt_inj.mp
  rw [ti_sub (by omega) (by omega), e1, hk1, nI_toInt (by omega)]
  omega
