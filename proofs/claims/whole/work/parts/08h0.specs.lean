/-! the class: odds -/
def pcF (r : Nat → Int32) (told : Int32) (a b : Nat) : Int32 :=
  if a = b then 0 else if (1 <<< (nI a &&& 31) ||| 1 <<< (nI b &&& 31)) &&& told = 0 then 0
  else if fitS r (1 <<< (nI a &&& 31) ||| 1 <<< (nI b &&& 31)) = true then chA r (1 <<< (nI a &&& 31)) * chA r (1 <<< (nI b &&& 31)) else 0
theorem pc_1 {r : Nat → Int32} {told : Int32} {N i : Nat} : odS (pcF r told) N i = odS (pcF r told) N i + odI (pcF r told) i 1 := by
  have h : odI (pcF r told) i 1 = 0 := by
    show (0 : Int32) + pcF r told i (i + 0) = 0
    unfold pcF
    rw [if_pos (show i = i + 0 from rfl)]
    rfl
  rw [h, Int32.add_zero]
theorem pc_s {r : Nat → Int32} {told : Int32} {i k : Nat} : odI (pcF r told) i (k + 1) = odI (pcF r told) i k + pcF r told i (i + k) := rfl
theorem pc_z {r : Nat → Int32} {told : Int32} {i k : Nat} {s : Int32} (h : (1 <<< (nI i &&& 31) ||| 1 <<< (nI (i + k) &&& 31)) &&& told = 0) : s + odI (pcF r told) i k = s + odI (pcF r told) i (k + 1) := by
  have e : pcF r told i (i + k) = 0 := by
    unfold pcF
    split
    · rfl
    · rfl
  rw [pc_s, e, Int32.add_zero]
theorem pc_f {r : Nat → Int32} {told : Int32} {i k : Nat} {s : Int32} (h : fitS r (1 <<< (nI i &&& 31) ||| 1 <<< (nI (i + k) &&& 31)) = false) : s + odI (pcF r told) i k = s + odI (pcF r told) i (k + 1) := by
  have e : pcF r told i (i + k) = 0 := by
    unfold pcF
    split
    · rfl
    · split
      · rfl
      · rw [h]; rfl
  rw [pc_s, e, Int32.add_zero]
theorem pc_v {r : Nat → Int32} {told : Int32} {i k : Nat} {s : Int32} (hk : 0 < k) (h1 : ¬ (1 <<< (nI i &&& 31) ||| 1 <<< (nI (i + k) &&& 31)) &&& told = 0) (h : fitS r (1 <<< (nI i &&& 31) ||| 1 <<< (nI (i + k) &&& 31)) = true) : s + odI (pcF r told) i k + chA r (1 <<< (nI i &&& 31)) * chA r (1 <<< (nI (i + k) &&& 31)) = s + odI (pcF r told) i (k + 1) := by
  have e : pcF r told i (i + k) = chA r (1 <<< (nI i &&& 31)) * chA r (1 <<< (nI (i + k) &&& 31)) := by
    unfold pcF
    rw [if_neg (by omega), if_neg h1, if_pos h]
  rw [pc_s, e, Int32.add_assoc]
theorem odS_congr {f g : Nat → Nat → Int32} {N : Nat} (h : ∀ a b, a ≤ b → b < N → f a b = g a b) : ∀ n, n ≤ N → odS f N n = odS g N n := by
  intro n hn
  refine sumN_congr _ fun a ha => sumN_congr _ fun k hk => h a (a + k) (by omega) (by omega)
theorem chA_shl {r : Nat → Int32} {n : Nat} (hn : n < nT r) (hT : nT r ≤ 7) : chA r (1 <<< (nI n &&& 31)) = g5 r n 4 := by
  rw [shl_pow n (by omega)]
  exact chA_pow hn hT
theorem pow_and : ∀ a b n, a < 7 → b < 7 → n < 7 → (((1 : Int32) <<< (nI a &&& 31) ||| 1 <<< (nI b &&& 31)) &&& 1 <<< (nI n &&& 31) = 0 ↔ ¬ (a = n ∨ b = n)) := by
  have h : ∀ a, a < 7 → ∀ b, b < 7 → ∀ n, n < 7 → (((1 : Int32) <<< (nI a &&& 31) ||| 1 <<< (nI b &&& 31)) &&& 1 <<< (nI n &&& 31) = 0 ↔ ¬ (a = n ∨ b = n)) := by decide +kernel
  exact fun a b n ha hb hn => h a ha b hb n hn
theorem pow_all : ∀ a b, a < 7 → b < 7 → ¬ (((1 : Int32) <<< (nI a &&& 31) ||| 1 <<< (nI b &&& 31)) &&& 127 = 0) := by
  have h : ∀ a, a < 7 → ∀ b, b < 7 → ¬ (((1 : Int32) <<< (nI a &&& 31) ||| 1 <<< (nI b &&& 31)) &&& 127 = 0) := by decide +kernel
  exact fun a b ha hb => h a ha b hb
theorem od_all {r : Nat → Int32} (hT : nT r ≤ 7) : odS (pcF r 127) (nT r) (nT r) = odS (odC r true) (nT r) (nT r) := by
  refine odS_congr (fun a b hab hb => ?_) _ (Nat.le_refl _)
  unfold pcF odC
  by_cases e : a = b
  · subst e; simp
  · rw [if_neg e, if_neg (pow_all a b (by omega) (by omega)), chA_shl (by omega) hT, chA_shl hb hT]
    simp [e]
theorem od_one {r : Nat → Int32} (hT : nT r ≤ 7) {n : Nat} (hn : n < nT r) : odS (pcF r (1 <<< (nI n &&& 31))) (nT r) (nT r) = odS (odO r true n) (nT r) (nT r) := by
  refine odS_congr (fun a b hab hb => ?_) _ (Nat.le_refl _)
  have hp := pow_and a b n (by omega) (by omega) (by omega)
  unfold pcF odO odC
  by_cases e : a = b
  · subst e; simp
  · rw [if_neg e, chA_shl (by omega) hT, chA_shl hb hT]
    by_cases c : a = n ∨ b = n
    · rw [if_neg (fun q => (hp.mp q) c), if_pos c]
      simp [e]
    · rw [if_pos (hp.mpr c), if_neg c]
theorem sumN_zero_hd {f : Nat → Int32} : ∀ k, (∀ j, 0 < j → f j = 0) → 0 < k → sumN f k = f 0 := by
  intro k
  induction k with
  | zero => intro _ h; omega
  | succ k ih =>
    intro h _
    rw [sumN]
    rcases Nat.eq_zero_or_pos k with q | q
    · subst q; show (0 : Int32) + f 0 = f 0; rw [Int32.zero_add]
    · rw [ih h q, h k q, Int32.add_zero]
theorem od_sng {r : Nat → Int32} (hT : nT r ≤ 7) {f : Nat → Nat → Int32} {set : Int32} (h0 : ∀ a b, a ≠ b → f a b = 0) (h1 : ∀ a, a < nT r → f a a = if bit set a = true then g5 r a 4 else 0) : chA r set = odS f (nT r) (nT r) := by
  unfold chA csN odS
  refine sumN_congr _ fun a ha => ?_
  unfold odI
  rw [sumN_zero_hd _ (fun j hj => h0 a (a + j) (by omega)) (by omega)]
  exact (h1 a ha).symm
theorem ft_bit {r : Nat → Int32} (hT : nT r ≤ 7) {a : Nat} (ha : a < nT r) : bit (ftA r) a = fitS r (1 <<< (nI a &&& 31)) := by
  obtain ⟨u, h1, h2, h3⟩ := ftA_bits r hT
  have hp : 2 ^ nT r ≤ 2 ^ 7 := pow_lt hT
  rw [h2, nI_tb (by omega) (by omega), h3 a]
  simp [ha]
theorem or_self32 (x : Int32) : x ||| x = x := by
  apply Int32.toBitVec_inj.mp
  rw [Int32.toBitVec_or, BitVec.or_self]
theorem od_s {r : Nat → Int32} (hT : nT r ≤ 7) : chA r (ftA r) = odS (odC r false) (nT r) (nT r) := by
  refine od_sng hT (fun a b e => ?_) fun a ha => ?_
  · unfold odC; simp [e]
  · unfold odC
    rw [ft_bit hT ha, or_self32]
    simp
theorem and_bit {set : Int32} {n a : Nat} (hn : n < 7) (ha : a < 7) : bit (set &&& (1 <<< (nI n &&& 31))) a = (decide (a = n) && bit set n) := by
  rw [and_pow set n (by omega)]
  cases h : bit set n with
  | false => rw [if_neg (by decide), bit_0 a (by omega)]; simp
  | true =>
    rw [if_pos rfl, bit_pow n a (by omega) (by omega)]
    by_cases e : n = a
    · simp [e]
    · have e2 : ¬ a = n := fun q => e q.symm
      simp [e, e2]
theorem od_sn {r : Nat → Int32} (hT : nT r ≤ 7) {n : Nat} (hn : n < nT r) : chA r (ftA r &&& 1 <<< (nI n &&& 31)) = odS (odO r false n) (nT r) (nT r) := by
  refine od_sng hT (fun a b e => ?_) fun a ha => ?_
  · unfold odO odC; simp [e]
  · unfold odO odC
    rw [and_bit (by omega) (by omega), or_self32]
    by_cases e : a = n
    · subst e
      rw [ft_bit hT ha]
      simp
    · simp [e]
theorem steps_mono : ∀ (k a b : Nat), stepsLe k a b → stepsLe (k + 1) a b := by
  intro k
  induction k with
  | zero => intro a b h; exact h.elim
  | succ k ih =>
    intro a b h
    rcases h with h | h
    · exact Or.inl h
    · exact Or.inr (ih b (a % b) h)
theorem steps_up {k a b : Nat} (h : stepsLe k a b) : ∀ d, stepsLe (k + d) a b := by
  intro d
  induction d with
  | zero => exact h
  | succ d ih => exact steps_mono _ _ _ ih
theorem steps_nz {k a b : Nat} (h : stepsLe k a b) (hb : b ≠ 0) : 0 < k ∧ stepsLe (k - 1) b (a % b) := by
  cases k with
  | zero => exact h.elim
  | succ k => exact ⟨Nat.succ_pos k, h.resolve_left hb⟩
