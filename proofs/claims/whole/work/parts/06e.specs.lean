/-! wolves in order, shelves, texts, the worst case, the cheapest set -/
theorem wB_miss {sv : Nat → Int32} {x : Int32} {a r b n : Nat} (h : wfB sv a b = false) (hr : 0 < r) : wB sv x a r b n = wB sv x a (r - 1) (b + 1) n := by
  cases r with
  | zero => omega
  | succ r => simp [wB, h]
theorem wB_cnt {sv : Nat → Int32} {x : Int32} {a r b n : Nat} (h : wfB sv a b = true) (hn : ¬ nI n = x) (hr : 0 < r) : wB sv x a r b n = wB sv x a (r - 1) (b + 1) (n + 1) := by
  cases r with
  | zero => omega
  | succ r => simp [wB, h, hn]
theorem wB_hit {sv : Nat → Int32} {x : Int32} {a r b n : Nat} (h : wfB sv a b = true) (hn : nI n = x) (hr : 0 < r) : wB sv x a r b n = (some (10 * a + b), n) := by
  cases r with
  | zero => omega
  | succ r => simp [wB, h, hn]
theorem wA_go {sv : Nat → Int32} {x : Int32} {a r n k : Nat} (h : wB sv x a (nP sv) 0 n = (none, k)) (hr : 0 < r) : wA sv x r a n = wA sv x (r - 1) (a + 1) k := by
  cases r with
  | zero => omega
  | succ r => simp [wA, h]
theorem wA_hit {sv : Nat → Int32} {x : Int32} {a r n k y : Nat} (h : wB sv x a (nP sv) 0 n = (some y, k)) (hr : 0 < r) : wA sv x r a n = (some y, k) := by
  cases r with
  | zero => omega
  | succ r => simp [wA, h]
theorem wB_some {sv : Nat → Int32} {x : Int32} {a : Nat} : ∀ (r b n y k : Nat), wB sv x a r b n = (some y, k) → ∃ c, b ≤ c ∧ c < b + r ∧ y = 10 * a + c ∧ wfB sv a c = true := by
  intro r
  induction r with
  | zero => intro b n y k h; simp [wB] at h
  | succ r ih =>
    intro b n y k h
    simp only [wB] at h
    split at h
    · rename_i hw
      split at h
      · simp only [Prod.mk.injEq, Option.some.injEq] at h
        exact ⟨b, Nat.le_refl _, by omega, h.1.symm, hw⟩
      · obtain ⟨c, h1, h2, h3⟩ := ih _ _ _ _ h
        exact ⟨c, by omega, by omega, h3⟩
    · obtain ⟨c, h1, h2, h3⟩ := ih _ _ _ _ h
      exact ⟨c, by omega, by omega, h3⟩
theorem wA_some {sv : Nat → Int32} {x : Int32} : ∀ (r a n y k : Nat), wA sv x r a n = (some y, k) → ∃ c d, a ≤ c ∧ c < a + r ∧ d < nP sv ∧ y = 10 * c + d ∧ wfB sv c d = true := by
  intro r
  induction r with
  | zero => intro a n y k h; simp [wA] at h
  | succ r ih =>
    intro a n y k h
    simp only [wA] at h
    split at h
    · rename_i y' k' hw
      simp only [Prod.mk.injEq, Option.some.injEq] at h
      obtain ⟨d, h1, h2, h3, h4⟩ := wB_some _ _ _ _ _ hw
      exact ⟨a, d, Nat.le_refl _, by omega, by omega, by rw [← h.1]; exact h3, h4⟩
    · obtain ⟨c, d, h1, h2, h3⟩ := ih _ _ _ _ h
      exact ⟨c, d, by omega, by omega, h3⟩
theorem wfO_pair {sv : Nat → Int32} {x : Int32} (h0 : 0 ≤ x) (h : 0 ≤ wfO sv x) : ∃ a b, a < nP sv ∧ b < nP sv ∧ wfO sv x = nI (10 * a + b) := by
  unfold wfO at h ⊢
  split
  · rename_i y k e
    obtain ⟨c, d, -, h2, h3, h4, -⟩ := wA_some _ _ _ _ _ e
    exact ⟨c, d, by omega, h3, by rw [h4]⟩
  · rename_i k e
    rw [e] at h
    simp only [if_pos h0] at h
    exact absurd h (by decide)
theorem btO_eq {sv : Nat → Int32} {a b : Nat} (ha : a < 10) (hb : b < 10) : btO sv (nI (10 * a + b)) = if amt (tnN sv a - tnN sv b) = 0 then 600 else 600 / amt (tnN sv a - tnN sv b) := by
  unfold btO
  rw [show (10 : Int32) = nI 10 from rfl, nI_div (by omega) (by decide), irm_nI (by omega) (by decide), iN_nI (by omega), iN_nI (by omega)]
  rw [show (10 * a + b) / 10 = a by omega, show (10 * a + b) % 10 = b by omega]
theorem wrR_0 {kp so : Nat → Int32} {d o : Int32} (h : wrR kp so d o = 0) : inL d 0 7 = true ∧ kp (iN d) = 2 ∧ (0 ≤ o → so (iN d) = o) := by
  unfold wrR at h
  split at h
  · rename_i h1
    split at h
    · exact absurd h (by decide)
    · split at h
      · exact absurd h (by decide)
      · rename_i h2
        have h2' := not_or.mp h2
        exact ⟨h1, Decidable.not_not.mp h2'.1, fun q => Decidable.not_not.mp fun z => h2'.2 ⟨q, z⟩⟩
  · exact absurd h (by decide)
theorem wrK_0 {kp : Nat → Int32} {d : Int32} (h : wrK kp d = 0) : inL d 0 7 = true ∧ kp (iN d) = 1 := by
  unfold wrK at h
  split at h
  · rename_i h1
    split at h
    · exact absurd h (by decide)
    · split at h
      · rename_i h2; exact ⟨h1, h2⟩
      · exact absurd h (by decide)
  · exact absurd h (by decide)
theorem sz_nat {kp so sz : Nat → Int32} (hR : InvR kp so sz) {n : Nat} (hn : n < 8) : sz n = nI (iN (sz n)) ∧ iN (sz n) ≤ 100 := by
  have h := (hR n hn).1
  exact ⟨rg_nI h (by decide) (by decide), by unfold iN; have := h.2; omega⟩
def priceP (kp pr : Nat → Int32) (d : Int32) : Int32 := if wrK kp d = 0 then pr (iN d) else wrK kp d
def hrT (el : Nat → Int32) (n z q : Nat) : Int32 := if q < z then el (100 * n + q) else -1000
theorem ixe (n i : Nat) : (100 : Int32) * nI n + nI i = nI (100 * n + i) := by rw [← nI_add, ← nI_mul]; rfl
theorem tone_i (i : Nat) (h : i < 100) : rg (10 * (nI i + 1)) 1 2400 := by
  rw [nI_1, show (10 : Int32) = nI 10 from rfl, nI_mul]
  exact rgN (by omega) (by omega) (by omega)
/-! subsets as numbers -/
def uN (x : Int32) : Nat := x.toBitVec.toNat
theorem nI_and (v : Nat) (x : Int32) (hv : v < 2147483648) : nI v &&& x = nI (v &&& uN x) := by
  apply Int32.toBitVec_inj.mp
  apply BitVec.eq_of_toNat_eq
  have h1 : v &&& uN x ≤ v := Nat.and_le_left
  simp only [nI, Int32.toBitVec_and, BitVec.toNat_and, Int32.toBitVec_ofNat', BitVec.toNat_ofNat, uN]
  rw [Nat.mod_eq_of_lt (by omega), Nat.mod_eq_of_lt (by unfold uN at h1; omega)]
theorem rest_dec : ∀ v, v < 128 → ∀ w, w < 128 → (nI v &&& (nI (v &&& w) ^^^ -1)) = nI (v - (v &&& w)) := by decide +kernel
theorem rest_nI {v : Nat} (hv : v < 128) (x : Int32) : (nI v &&& (nI v &&& x ^^^ -1)) = nI (v - (v &&& uN x)) := by
  have h1 : v &&& uN x = v &&& (uN x % 128) := by
    have : v = v &&& 127 := by
      have := Nat.and_two_pow_sub_one_eq_mod v 7
      simp only [show 2 ^ 7 - 1 = 127 from rfl] at this
      omega
    have h2 := Nat.and_two_pow_sub_one_eq_mod (uN x) 7
    simp only [show 2 ^ 7 - 1 = 127 from rfl, show 2 ^ 7 = 128 from rfl] at h2
    rw [← h2]
    rw [← Nat.and_assoc, Nat.and_assoc v (uN x) 127, Nat.and_comm (uN x) 127, ← Nat.and_assoc, ← this]
  rw [nI_and v x (by omega), h1]
  exact rest_dec v hv (uN x % 128) (Nat.mod_lt _ (by decide))
theorem pop_lt {v : Nat} : pop (iN (nI v)) = pop (iN (nI v)) := rfl
theorem woS_eq {ht : Nat → Int32} {v : Nat} (hv : v < 128) (f g : Int32 → Int32) (b : Int32) (n : Nat) (h : ∀ w, w < v → f (nI w) = g (nI w)) : woS f ht (nI v) b n = woS g ht (nI v) b n := by
  unfold woS
  split
  · rfl
  · rename_i hno
    have hno' := not_or.mp hno
    have e1 := nI_and v (ht n) (by omega)
    have e2 := rest_nI hv (ht n)
    have hle : v &&& uN (ht n) ≤ v := Nat.and_le_left
    have hz : v &&& uN (ht n) ≠ 0 := fun q => hno'.1 (by rw [e1, q]; rfl)
    have hs : v &&& uN (ht n) ≠ v := fun q => hno'.2 (by rw [e1, q])
    rw [e2, e1, h _ (show v &&& uN (ht n) < v by omega), h _ (show v - (v &&& uN (ht n)) < v by omega)]
theorem fldN_eq {f g : Int32 → Nat → Int32} {z : Int32} (h : ∀ b n, f b n = g b n) : ∀ n, fldN f z n = fldN g z n := by
  intro n
  induction n with
  | zero => simp only [fldN]
  | succ n ih => simp only [fldN, ih, h]
theorem woN_fuel (ht : Nat → Int32) (tones : Nat) : ∀ (v k : Nat), v < 128 → v < k → woN ht tones k (nI v) = woN ht tones (v + 1) (nI v) := by
  intro v
  induction v using Nat.strongRecOn with
  | ind v ih =>
    intro k hv hk
    cases k with
    | zero => exact absurd hk (Nat.not_lt_zero _)
    | succ k =>
      have key : fldN (woS (woN ht tones k) ht (nI v)) (-4) tones = fldN (woS (woN ht tones v) ht (nI v)) (-4) tones :=
        fldN_eq (fun b n => woS_eq hv _ _ b n fun w hw => (ih w hw k (by omega) (by omega)).trans (ih w hw v (by omega) (by omega)).symm) tones
      simp only [woN]
      rw [key]
def wo (ht : Nat → Int32) (tones v : Nat) : Int32 := woN ht tones (v + 1) (nI v)
theorem wo_small {ht : Nat → Int32} {tones v : Nat} (hv : v < 128) (h : pop v < 2) : wo ht tones v = 0 := by
  unfold wo
  simp only [woN, iN_nI (show v < 2147483648 by omega), if_pos h]
theorem wo_big {ht : Nat → Int32} {tones v : Nat} (hv : v < 128) (h : ¬ pop v < 2) : wo ht tones v = if fldN (woS (woN ht tones v) ht (nI v)) (-4) tones < 0 then 0 else fldN (woS (woN ht tones v) ht (nI v)) (-4) tones := by
  unfold wo
  simp only [woN, iN_nI (show v < 2147483648 by omega), if_neg h]
/-! the cheapest set, as the reference looks for it -/
def cstN (sv : Nat → Int32) (m : Int32) : Nat → Int32 := sumN (fun t => if bit m t = true then prO sv t else 0)
def frS (sv : Nat → Int32) (u : Int32) : Nat → Int32 × Int32
  | 0 => (0, -4)
  | m + 1 => if ¬ u &&& (nI m ^^^ -1) = 0 then frS sv u m else if 0 ≤ (frS sv u m).2 ∧ (frS sv u m).2 ≤ cstN sv (nI m) (nT sv) then frS sv u m else (nI m, cstN sv (nI m) (nT sv))
def unO (sv el : Nat → Int32) (n : Nat) (st : Int32) : Nat → Int32 := orN (fun i => hrA sv (el (100 * n + i)) st)
def fridayP (sv kp so sz el : Nat → Int32) (d st w : Int32) : Int32 :=
  if inL d 0 7 = true ∧ inL st 1 99 = true ∧ inL w 0 1 = true then
    (if wtT kp so sz el d 100 = 0 then (if w = 0 then (frS sv (unO sv el (iN d) st (iN (sz (iN d)))) (2 ^ nT sv)).2 else (frS sv (unO sv el (iN d) st (iN (sz (iN d)))) (2 ^ nT sv)).1) else wtT kp so sz el d 100)
  else -1
theorem wtT_0 {kp so sz el : Nat → Int32} {d most : Int32} (h : wtT kp so sz el d most = 0) : wrR kp so d (-1) = 0 ∧ sz (iN d) ≤ most ∧ allN (fun i => inL (el (100 * iN d + i)) 1 1200) (iN (sz (iN d))) 0 = true := by
  unfold wtT at h
  split at h
  · rename_i h1
    split at h
    · rename_i h2
      split at h
      · rename_i h3; exact ⟨h1, h2, h3⟩
      · exact absurd h (by decide)
    · exact absurd h (by decide)
  · rename_i h1; exact absurd h h1
theorem allN_all {P : Nat → Bool} : ∀ (r i : Nat), allN P r i = true → ∀ j, i ≤ j → j < i + r → P j = true := by
  intro r
  induction r with
  | zero => intro i _ j h1 h2; omega
  | succ r ih =>
    intro i h j h1 h2
    simp only [allN, Bool.and_eq_true] at h
    by_cases hj : j = i
    · rw [hj]; exact h.1
    · exact ih (i + 1) h.2 j (by omega) (by omega)
theorem shl_pow : ∀ n, n < 8 → (1 : Int32) <<< (nI n &&& 31) = nI (2 ^ n) := by decide +kernel
theorem bnd_0 {B : Nat → Bool} {i w : Int32} {f n : Nat} {b : Bool} : bnd B i w 0 f n b = if 0 ≤ i then -4 else nI n := rfl
theorem bnd_step {B : Nat → Bool} {i w : Int32} {r f n : Nat} {b : Bool} (hr : 0 < r) : bnd B i w r f n b =
    if 0 ≤ i ∧ nI (if (decide (f ≤ 600) && B f) = true ∧ b = false then n + 1 else n) = i + 1 ∧ w = 0 ∧ (decide (f ≤ 600) && B f) = true then nI f
    else if 0 ≤ i ∧ nI (if (decide (f ≤ 600) && B f) = true ∧ b = false then n + 1 else n) = i + 1 ∧ w = 1 ∧ b = true ∧ (decide (f ≤ 600) && B f) = false then nI f - 1
    else bnd B i w (r - 1) (f + 1) (if (decide (f ≤ 600) && B f) = true ∧ b = false then n + 1 else n) (decide (f ≤ 600) && B f) := by
  cases r with
  | zero => omega
  | succ r => rfl
