/-! the class: what its object knows of a row of the reference -/
def CG (d : Nat → ClassId) (G : zG) (r : Nat → Int32) (pN tN aN : Int32) (wx : Nat → Int32) (pp tp ap : Nat → Option Nat) : Prop :=
  Inv r ∧ pN = nI (nP r) ∧ tN = nI (nT r) ∧ aN = nI (nA r) ∧ PcG G r pp ∧ ThG G r tp ∧ AkG d G r ap ∧ ∀ n, n < nP r → wx n = g6 r n 5
/-- what a toss of a thing says -/
def tsK (n k f : Int32) : Int32 := if k = 3 ∨ f = 0 then -15 else if k = 4 then 100 + n else if k = 7 then 200 + prK k f else n
/-- the shelves -/
def ShG (d : Nat → ClassId) (G : zG) (qt qr : Nat → Option Nat) (kp so sz el pr ts : Nat → Int32) : Prop := InvR kp so sz ∧ ∀ n, n < 8 →
  (kp n = 0 ∧ qt n = none ∧ qr n = none) ∨
  (kp n = 1 ∧ qr n = none ∧ ∃ q v0 v1 v2 v3 v4 v5, qt n = some q ∧ G q = some (ceT v0 v1 v2 v3 v4 v5) ∧ pr n = prK v1 v4 ∧ ts n = tsK v0 v1 v4) ∨
  (kp n = 2 ∧ qt n = none ∧ ∃ q w x, qr n = some q ∧ G q = some (ceW (so n) w) ∧ G w = some (ceI d (iN (sz n)) x) ∧ ∀ i, i < iN (sz n) → x i = el (100 * n + i))
theorem and_t {a b : Bool} (h : (a && b) = true) : a = true ∧ b = true := by simpa using h
theorem and_f {a b : Bool} (h : (a && b) = false) : ¬ (a = true ∧ b = true) := by
  rintro ⟨rfl, rfl⟩
  exact absurd h (by decide)
theorem jn_4 {r : Nat → Int32} (h : InvP r) {n : Nat} (hn : n < nP r) (hn10 : n < 10) (c : hdC (g6 r n 3) < 0) : g6 r n 3 = -4 := by
  rcases (h n hn).2.2.2.1 with e | ⟨j, hj, e⟩
  · exact e
  · exfalso
    have h1 := (jn_C h hn hn10).1 c
    rw [e] at h1
    exact nI_n0 (by omega) h1
theorem inL_5 {w : Int32} (h0 : ¬ w = 0) (h1 : ¬ w = 1) (h2 : ¬ w = 2) (h3 : ¬ w = 3) (h4 : ¬ w = 4) (h5 : ¬ w = 5) : inL w 0 5 = false := by
  cases h : inL w 0 5 with
  | false => rfl
  | true =>
    obtain ⟨n, hn, rfl⟩ := inL_nat h (B := 5) rfl
    exfalso
    rcases n with _ | _ | _ | _ | _ | _ | n
    · exact h0 rfl
    · exact h1 rfl
    · exact h2 rfl
    · exact h3 rfl
    · exact h4 rfl
    · exact h5 rfl
    · omega
theorem inL_2 {w : Int32} (h0 : ¬ w = 0) (h1 : ¬ w = 1) (h2 : ¬ w = 2) : inL w 0 2 = false := by
  cases h : inL w 0 2 with
  | false => rfl
  | true =>
    obtain ⟨n, hn, rfl⟩ := inL_nat h (B := 2) rfl
    exfalso
    rcases n with _ | _ | _ | n
    · exact h0 rfl
    · exact h1 rfl
    · exact h2 rfl
    · omega
theorem isR_C {z : Nat} (hz : z ≤ 100) (i : Int32) : inL i 0 (nI z - 1) = (decide (¬ i < 0) && decide (¬ nI z ≤ i)) := by
  unfold inL
  have e0 : (0 : Int32).toInt = 0 := rfl
  have e1 : (1 : Int32).toInt = 1 := rfl
  have hp : (nI z).toInt = z := nI_toInt (by omega)
  rw [Bool.eq_iff_iff]
  simp only [Bool.and_eq_true, decide_eq_true_eq, Int32.le_iff_toInt_le, Int32.lt_iff_toInt_lt]
  rw [ti_sub (by omega) (by omega)]
  omega
theorem ge0_of {x : Int32} (h : -1 ≤ x) (h2 : ¬ x = -1) : 0 ≤ x := by
  have e0 : (0 : Int32).toInt = 0 := rfl
  have e1 : (-1 : Int32).toInt = -1 := rfl
  rw [Int32.le_iff_toInt_le] at h ⊢
  have h3 : ¬ x.toInt = -1 := fun q => h2 (Int32.toInt_inj.mp (q.trans e1.symm))
  omega
/-! counting wolves piece by piece, or by the piece that is joined -/
def cnN (P : Nat → Bool) : Nat → Nat
  | 0 => 0
  | n + 1 => cnN P n + (if P n = true then 1 else 0)
theorem cnN_le (P : Nat → Bool) : ∀ n, cnN P n ≤ n := by
  intro n
  induction n with
  | zero => exact Nat.le_refl _
  | succ n ih => unfold cnN; split <;> omega
def snN (f : Nat → Nat) : Nat → Nat
  | 0 => 0
  | n + 1 => snN f n + f n
theorem nI_ne_m1 {n : Nat} (h : n < 2147483648) : ¬ nI n = -1 := by
  intro q
  have h1 : (nI n).toInt = n := nI_toInt (by omega)
  rw [q] at h1
  have : (-1 : Int32).toInt = -1 := rfl
  omega
theorem wB_all {r : Nat → Int32} {a : Nat} : ∀ k b n, n + k < 2000 → ∃ t, wB r (-1) a k b n = (none, n + t) ∧ cnN (wfB r a) b + t = cnN (wfB r a) (b + k) := by
  intro k
  induction k with
  | zero => intro b n _; exact ⟨0, rfl, rfl⟩
  | succ k ih =>
    intro b n hn
    by_cases h : wfB r a b = true
    · obtain ⟨t, h1, h2⟩ := ih (b + 1) (n + 1) (by omega)
      refine ⟨t + 1, ?_, ?_⟩
      · rw [wB_cnt h (nI_ne_m1 (by omega)) (Nat.succ_pos k), show k + 1 - 1 = k by omega, h1]
        exact congrArg _ (by omega)
      · rw [cnN, if_pos h] at h2
        rw [show b + (k + 1) = b + 1 + k by omega]
        omega
    · obtain ⟨t, h1, h2⟩ := ih (b + 1) n (by omega)
      refine ⟨t, ?_, ?_⟩
      · rw [wB_miss (Bool.eq_false_iff.mpr h) (Nat.succ_pos k)]
        exact h1
      · rw [cnN, if_neg h] at h2
        rw [show b + (k + 1) = b + 1 + k by omega]
        omega
theorem wA_all {r : Nat → Int32} (hP : nP r ≤ 10) : ∀ k a n, n + 10 * k < 1000 → ∃ t, wA r (-1) k a n = (none, n + t) ∧ snN (fun a => cnN (wfB r a) (nP r)) a + t = snN (fun a => cnN (wfB r a) (nP r)) (a + k) := by
  intro k
  induction k with
  | zero => intro a n _; exact ⟨0, rfl, rfl⟩
  | succ k ih =>
    intro a n hn
    obtain ⟨t, h1, h2⟩ := wB_all (r := r) (a := a) (nP r) 0 n (by omega)
    rw [Nat.zero_add] at h2
    have h0 : cnN (wfB r a) 0 = 0 := rfl
    have hl := cnN_le (wfB r a) (nP r)
    obtain ⟨t2, g1, g2⟩ := ih (a + 1) (n + t) (by omega)
    refine ⟨t + t2, ?_, ?_⟩
    · rw [wA_go h1 (Nat.succ_pos k), show k + 1 - 1 = k by omega, g1]
      exact congrArg _ (by omega)
    · rw [snN] at g2
      rw [show a + (k + 1) = a + 1 + k by omega]
      omega
theorem wf_one {r : Nat → Int32} (h : InvP r) (hC : InvC r) {b : Nat} (hb : b < nP r) : ∀ A, A ≤ nP r → cnN (fun a => wfB r a b) A = if wvB r b = true ∧ iN (g6 r b 3) < A then 1 else 0 := by
  have hP := (Inv.n0 hC).2
  intro A
  induction A with
  | zero => intro _; rw [if_neg (fun c => Nat.not_lt_zero _ c.2)]; rfl
  | succ A ih =>
    intro hA
    rw [cnN, ih (by omega)]
    rcases (h b hb).2.2.2.1 with e | ⟨j, hj, e⟩
    · have hv : wvB r b = false := wvB_0 (by rw [e]; decide)
      have hw : wfB r A b = false := by
        unfold wfB
        have h4 : (-4 : Int32).toInt = -4 := rfl
        have hk : (nI A).toInt = A := nI_toInt (by omega)
        rw [e, decide_eq_false (fun q => by rw [← q, h4] at hk; omega)]
        rfl
      rw [hv, hw, if_neg (by simp), if_neg (by simp), if_neg (by simp)]
    · have hv : wvB r b = wfB r j b := wvB_j hj (by omega) e rfl
      have hi : iN (g6 r b 3) = j := by rw [e]; exact iN_nI (by omega)
      rw [hv, hi]
      by_cases c : A = j
      · subst c
        by_cases hw : wfB r A b = true
        · rw [if_neg (by omega), if_pos hw, if_pos ⟨hw, Nat.lt_succ_self _⟩]
        · rw [if_neg (fun c => hw c.1), if_neg hw, if_neg (fun c => hw c.1)]
      · have hw : wfB r A b = false := by
          unfold wfB
          rw [e, decide_eq_false (fun q => c ((nI_eq (by omega) (by omega)).mp q).symm)]
          rfl
        rw [hw, if_neg (show ¬ false = true by decide)]
        by_cases hl : j < A
        · by_cases hw2 : wfB r j b = true
          · rw [if_pos ⟨hw2, hl⟩, if_pos ⟨hw2, by omega⟩]
          · rw [if_neg (fun c => hw2 c.1), if_neg (fun c => hw2 c.1)]
        · rw [if_neg (fun c => hl c.2), if_neg (fun c => by omega)]
theorem snN_add (f g : Nat → Nat) : ∀ A, snN (fun a => f a + g a) A = snN f A + snN g A := by
  intro A
  induction A with
  | zero => rfl
  | succ A ih => rw [snN, snN, snN, ih]; omega
theorem snN_cn (P : Nat → Bool) : ∀ A, snN (fun a => if P a = true then 1 else 0) A = cnN P A := by
  intro A
  induction A with
  | zero => rfl
  | succ A ih => rw [snN, cnN, ih]
theorem snN_0 : ∀ A, snN (fun _ => 0) A = 0 := by
  intro A
  induction A with
  | zero => rfl
  | succ A ih => rw [snN, ih]
theorem wv_sum {r : Nat → Int32} (h : InvP r) (hC : InvC r) : ∀ k, k ≤ nP r → snN (fun a => cnN (wfB r a) k) (nP r) = wvN r k := by
  have hP := (Inv.n0 hC).2
  intro k
  induction k with
  | zero => intro _; exact snN_0 _
  | succ k ih =>
    intro hk
    show snN (fun a => cnN (wfB r a) k + (if wfB r a k = true then 1 else 0)) (nP r) = wvN r k + (if wvB r k = true then 1 else 0)
    rw [snN_add, ih (by omega), snN_cn (fun a => wfB r a k), wf_one h hC (by omega) _ (Nat.le_refl _)]
    by_cases c : wvB r k = true
    · rw [if_pos c, if_pos]
      refine ⟨c, ?_⟩
      rcases (h k (by omega)).2.2.2.1 with e | ⟨j, hj, e⟩
      · rw [wvB_0 (by rw [e]; decide)] at c
        exact absurd c (by decide)
      · rw [e, iN_nI (by omega)]; omega
    · rw [if_neg c, if_neg (fun q => c q.1)]
theorem wv_eq {r : Nat → Int32} (hI : Inv r) : wfO r (-1) = nI (wvN r (nP r)) := by
  have hP := (Inv.n0 hI.1).2
  obtain ⟨t, h1, h2⟩ := wA_all (r := r) hP (nP r) 0 0 (by omega)
  rw [Nat.zero_add, wv_sum hI.2.2.1 hI.1 _ (Nat.le_refl _)] at h2
  unfold wfO
  rw [h1]
  show (if (0 : Int32) ≤ -1 then (-4 : Int32) else nI (0 + t)) = _
  rw [if_neg (by decide), ← h2]
  rfl
theorem and_f3 {a b : Bool} (h : (a && b) = false) (P : Prop) : ¬ (a = true ∧ b = true ∧ P) := fun c => and_f h ⟨c.1, c.2.1⟩
