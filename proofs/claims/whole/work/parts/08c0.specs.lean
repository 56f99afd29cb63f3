/-! the class: things, asks, wolves -/
theorem and1_01 (y : Int32) : y &&& 1 = 0 ∨ y &&& 1 = 1 := by
  have h : (y.toBitVec &&& 1#32) = 0#32 ∨ (y.toBitVec &&& 1#32) = 1#32 := by
    have e : (y.toBitVec &&& 1#32).toNat = y.toBitVec.toNat % 2 := by
      rw [BitVec.toNat_and]
      exact Nat.and_one_is_mod _
    rcases Nat.mod_two_eq_zero_or_one y.toBitVec.toNat with h0 | h1
    · exact Or.inl (BitVec.eq_of_toNat_eq (e.trans h0))
    · exact Or.inr (BitVec.eq_of_toNat_eq (e.trans h1))
  rcases h with h | h
  · exact Or.inl (Int32.toBitVec_inj.mp h)
  · exact Or.inr (Int32.toBitVec_inj.mp h)
theorem bit_t {set : Int32} {n : Nat} (h : ¬ (set >>> (nI n &&& 31)) &&& 1 = 0) : bit set n = true := by
  unfold bit
  rcases and1_01 (set >>> (nI n &&& 31)) with e | e
  · exact absurd e h
  · rw [e]; rfl
theorem bit_f {set : Int32} {n : Nat} (h : (set >>> (nI n &&& 31)) &&& 1 = 0) : bit set n = false := by
  unfold bit
  rw [h]
  rfl
def fiC (v x : Int32) (h : Bool) : Bool := decide (¬ v &&& x = 0) == h
theorem swR_eq {sg r : Nat → Int32} {f st : Int32} : ∀ n, (∀ j, j < n → sg j = sw r j f st) → sumN sg n = swSum r f st n := by
  intro n
  induction n with
  | zero => intro _; rfl
  | succ n ih =>
    intro h
    rw [sumN, swSum, ih fun j hj => h j (by omega), h n (by omega)]
def smS (r : Nat → Int32) : Nat → Int32 := sumN (fun n => if g5 r n 0 = 1 ∨ g5 r n 0 = 4 then stO r n else 0)
theorem jn_nI {r : Nat → Int32} (h : InvP r) {a b : Nat} (hb : b < nP r) (hb10 : b < 10) (ha : a < 10) : (hdC (g6 r b 3) = nI a ↔ g6 r b 3 = nI a) := by
  refine hdC_nI (by omega) ?_
  rcases (h b hb).2.2.2.1 with e | ⟨j, hj, e⟩
  · exact Or.inl e
  · exact Or.inr ⟨j, by omega, e⟩
def wvB (r : Nat → Int32) (b : Nat) : Bool := decide (¬ g6 r b 3 < 0) && wfB r (iN (g6 r b 3)) b
def wvN (r : Nat → Int32) : Nat → Nat
  | 0 => 0
  | b + 1 => wvN r b + (if wvB r b = true then 1 else 0)
theorem wvN_le (r : Nat → Int32) : ∀ n, wvN r n ≤ n := by
  intro n
  induction n with
  | zero => exact Nat.le_refl _
  | succ n ih => unfold wvN; split <;> omega
theorem wfB_lo {r : Nat → Int32} (h : InvP r) (hC : InvC r) {a b : Nat} (hb : b < nP r) (ha : a < nP r) (hab : b ≤ a) : wfB r a b = false := by
  have hP := (Inv.n0 hC).2
  unfold wfB
  rcases (h b hb).2.2.2.1 with e | ⟨j, hj, e⟩
  · have h4 : (-4 : Int32).toInt = -4 := rfl
    have hk : (nI a).toInt = a := nI_toInt (by omega)
    rw [e, decide_eq_false (fun q => by rw [← q, h4] at hk; omega)]
    rfl
  · rw [e, decide_eq_false (fun q => by have := (nI_eq (by omega) (by omega)).mp q; omega)]
    rfl
theorem wB_from {r : Nat → Int32} (h : InvP r) (hC : InvC r) {x : Int32} {a n : Nat} (ha : a < nP r) : ∀ k, k ≤ a + 1 → wB r x a (nP r) 0 n = wB r x a (nP r - k) k n := by
  intro k
  induction k with
  | zero => intro _; rfl
  | succ k ih =>
    intro hk
    rw [ih (by omega), wB_miss (wfB_lo h hC (by omega) ha (by omega)) (by omega)]
    rfl
theorem cost_4 (v : Int32) : 5 + v + 40 = prK 4 v := by
  have e : prK 4 v = 45 + v := rfl
  rw [e, Int32.add_comm 5 v, Int32.add_assoc, Int32.add_comm]
  rfl
