/-! the class: sets of things as bits -/
theorem nI_or (a b : Nat) (ha : a < 2147483648) (hb : b < 2147483648) : nI a ||| nI b = nI (a ||| b) := by
  apply Int32.toBitVec_inj.mp
  apply BitVec.eq_of_toNat_eq
  have h : a ||| b < 2147483648 := Nat.or_lt_two_pow (n := 31) ha hb
  simp only [nI, Int32.toBitVec_or, BitVec.toNat_or, Int32.toBitVec_ofNat', BitVec.toNat_ofNat]
  rw [Nat.mod_eq_of_lt (by omega), Nat.mod_eq_of_lt (by omega), Nat.mod_eq_of_lt (by omega)]
theorem pow_lt {n k : Nat} (h : n ≤ k) : 2 ^ n ≤ 2 ^ k := Nat.pow_le_pow_right (by decide) h
theorem or_bits (P : Nat → Bool) : ∀ n, n ≤ 8 → ∃ u, u < 2 ^ n ∧ orN (fun t => if P t = true then 1 <<< (nI t &&& 31) else 0) n = nI u ∧ ∀ i, u.testBit i = (decide (i < n) && P i) := by
  intro n
  induction n with
  | zero => intro _; exact ⟨0, by decide, rfl, fun i => by simp⟩
  | succ n ih =>
    intro hn
    obtain ⟨u, h1, h2, h3⟩ := ih (by omega)
    have hp : 2 ^ n ≤ 2 ^ 7 := pow_lt (by omega)
    have hq : 2 ^ (n + 1) = 2 ^ n + 2 ^ n := by rw [Nat.pow_succ]; omega
    cases hP : P n with
    | false =>
      refine ⟨u, by omega, ?_, fun i => ?_⟩
      · rw [orN, h2, hP, if_neg (by decide)]
        rw [show (0 : Int32) = nI 0 from rfl, nI_or _ _ (by omega) (by decide), Nat.or_zero]
      · rw [h3 i]
        by_cases c : i = n
        · subst c; simp [hP]
        · have : decide (i < n) = decide (i < n + 1) := decide_eq_decide.mpr (by omega)
          rw [this]
    | true =>
      refine ⟨u ||| 2 ^ n, ?_, ?_, fun i => ?_⟩
      · exact Nat.or_lt_two_pow (by omega) (by omega)
      · rw [orN, h2, hP, if_pos rfl, shl_pow n (by omega), nI_or _ _ (by omega) (by omega)]
      · rw [Nat.testBit_or, h3 i, Nat.testBit_two_pow]
        by_cases c : i = n
        · subst c; simp [hP]
        · have : decide (i < n) = decide (i < n + 1) := decide_eq_decide.mpr (by omega)
          rw [this]
          simp [show ¬ n = i from fun e => c e.symm]
theorem hr_or (r : Nat → Int32) (f st : Int32) : ∀ n, hrN r f st n = orN (fun t => if bzA r t f st = true then 1 <<< (nI t &&& 31) else 0) n := by
  intro n
  induction n with
  | zero => rfl
  | succ n ih => rw [hrN, orN, ih]
theorem hrA_bits (r : Nat → Int32) (f st : Int32) (hT : nT r ≤ 7) : ∃ u, u < 2 ^ nT r ∧ hrA r f st = nI u ∧ ∀ i, u.testBit i = (decide (i < nT r) && bzA r i f st) := by
  unfold hrA
  rw [hr_or]
  exact or_bits _ _ (by omega)
theorem ftA_bits (r : Nat → Int32) (hT : nT r ≤ 7) : ∃ u, u < 2 ^ nT r ∧ ftA r = nI u ∧ ∀ i, u.testBit i = (decide (i < nT r) && fitS r (1 <<< (nI i &&& 31))) := or_bits (fun t => fitS r (1 <<< (nI t &&& 31))) _ (by omega)
theorem un_bits (r el : Nat → Int32) (n : Nat) (st : Int32) (hT : nT r ≤ 7) : ∀ k, ∃ u, u < 2 ^ nT r ∧ unO r el n st k = nI u := by
  have hp : 2 ^ nT r ≤ 2 ^ 7 := pow_lt hT
  intro k
  induction k with
  | zero => exact ⟨0, Nat.two_pow_pos _, rfl⟩
  | succ k ih =>
    obtain ⟨u, h1, h2⟩ := ih
    obtain ⟨v, g1, g2, -⟩ := hrA_bits r (el (100 * n + k)) st hT
    refine ⟨u ||| v, Nat.or_lt_two_pow h1 g1, ?_⟩
    show unO r el n st k ||| hrA r (el (100 * n + k)) st = _
    rw [h2, g2, nI_or _ _ (by omega) (by omega)]
/-- u is in m, as numbers -/
theorem not_bits (m i : Nat) (hm : m < 2147483648) (hi : i < 31) : (uN (nI m ^^^ -1)).testBit i = !m.testBit i := by
  unfold uN
  rw [Int32.toBitVec_xor, BitVec.toNat_xor, Nat.testBit_xor]
  have h1 : ((-1 : Int32).toBitVec.toNat).testBit i = true := by
    have : ((-1 : Int32).toBitVec.toNat) = 2 ^ 32 - 1 := rfl
    rw [this, Nat.testBit_two_pow_sub_one]
    simp
    omega
  have h2 : ((nI m).toBitVec.toNat).testBit i = m.testBit i := by
    have := uN_nI (v := m) (by omega)
    unfold uN at this
    rw [this]
  rw [h1, h2]
  simp
theorem sub_bits {u m : Nat} (hu : u < 256) (hm : m < 256) : (nI u &&& (nI m ^^^ -1) = 0) ↔ u &&& m = u := by
  rw [nI_and u _ (by omega)]
  have hlt : u &&& uN (nI m ^^^ -1) < 2147483648 := Nat.lt_of_le_of_lt Nat.and_le_left (by omega)
  rw [nI_z hlt]
  have hb : ∀ i, 8 ≤ i → u.testBit i = false := fun i hi => Nat.testBit_lt_two_pow (Nat.lt_of_lt_of_le hu (pow_lt hi))
  constructor
  · intro h
    apply Nat.eq_of_testBit_eq
    intro i
    rw [Nat.testBit_and]
    have h2 : (u &&& uN (nI m ^^^ -1)).testBit i = false := by rw [h]; exact Nat.zero_testBit i
    rw [Nat.testBit_and] at h2
    by_cases c : i < 8
    · rw [not_bits m i (by omega) (by omega)] at h2
      cases h3 : u.testBit i <;> cases h4 : m.testBit i <;> simp_all
    · rw [hb i (by omega)]; rfl
  · intro h
    apply Nat.eq_of_testBit_eq
    intro i
    rw [Nat.testBit_and, Nat.zero_testBit]
    by_cases c : i < 8
    · rw [not_bits m i (by omega) (by omega)]
      have h2 : (u &&& m).testBit i = u.testBit i := by rw [h]
      rw [Nat.testBit_and] at h2
      cases h3 : u.testBit i <;> cases h4 : m.testBit i <;> simp_all
    · rw [hb i (by omega)]; rfl
theorem prO_rg {r : Nat → Int32} (hT : InvT r) {n : Nat} (hn : n < nT r) : rg (prO r n) 0 60 := by
  obtain ⟨h0, -, -, h3, -⟩ := hT n hn
  obtain ⟨h1, h2⟩ := h3
  unfold prO prK
  generalize g5 r n 3 = f at h1 h2
  have ha : ∀ c : Int32, 0 ≤ c.toInt → c.toInt ≤ 50 → rg (c + f) 0 60 := fun c a b => by
    unfold rg
    rw [ti_add (by omega) (by omega)]
    omega
  have e : ∀ c : Nat, c ≤ 60 → rg (nI c) 0 60 := fun c hc => rgN (by omega) (by omega) (by omega)
  split
  · exact ha 5 (by decide) (by decide)
  · split
    · exact e 15 (by decide)
    · split
      · exact e 2 (by decide)
      · split
        · exact ha 45 (by decide) (by decide)
        · split
          · exact ha 10 (by decide) (by decide)
          · split
            · exact e 0 (by decide)
            · split
              · exact e 1 (by decide)
              · exact e 5 (by decide)
theorem cst_mono {r : Nat → Int32} (hT : InvT r) (h7 : nT r ≤ 7) {u m : Nat} (hu : u < 256) (hm : m < 256) (h : u &&& m = u) : ∀ k, k ≤ nT r → 0 ≤ (cstN r (nI u) k).toInt ∧ (cstN r (nI u) k).toInt ≤ (cstN r (nI m) k).toInt ∧ (cstN r (nI m) k).toInt ≤ 60 * k := by
  intro k
  induction k with
  | zero =>
    intro _
    have eu : cstN r (nI u) 0 = 0 := rfl
    have em : cstN r (nI m) 0 = 0 := rfl
    have e0 : (0 : Int32).toInt = 0 := rfl
    rw [eu, em, e0]
    omega
  | succ k ih =>
    intro hk
    obtain ⟨a, b, c⟩ := ih (by omega)
    have hp := prO_rg hT (n := k) (by omega)
    unfold rg at hp
    have eu : cstN r (nI u) (k + 1) = cstN r (nI u) k + (if bit (nI u) k = true then prO r k else 0) := rfl
    have em : cstN r (nI m) (k + 1) = cstN r (nI m) k + (if bit (nI m) k = true then prO r k else 0) := rfl
    have e0 : (0 : Int32).toInt = 0 := rfl
    have hb : bit (nI u) k = true → bit (nI m) k = true := by
      rw [bit_tb _ _ (by omega), bit_tb _ _ (by omega), uN_nI (by omega), uN_nI (by omega)]
      intro q
      have h2 : (u &&& m).testBit k = true := by rw [h]; exact q
      rw [Nat.testBit_and] at h2
      simp at h2
      exact h2.2
    have tu : (if bit (nI u) k = true then prO r k else 0).toInt = if bit (nI u) k = true then (prO r k).toInt else 0 := by split <;> rfl
    have tm : (if bit (nI m) k = true then prO r k else 0).toInt = if bit (nI m) k = true then (prO r k).toInt else 0 := by split <;> rfl
    rw [eu, em, ti_add (by rw [tu]; split <;> omega) (by rw [tu]; split <;> omega), ti_add (by rw [tm]; split <;> omega) (by rw [tm]; split <;> omega), tu, tm]
    by_cases hu1 : bit (nI u) k = true
    · rw [if_pos hu1, if_pos (hb hu1)]
      omega
    · rw [if_neg hu1]
      split <;> omega
theorem fr_min {r : Nat → Int32} (hT : InvT r) (h7 : nT r ≤ 7) {u : Nat} (hu : u < 2 ^ nT r) : frS r (nI u) (2 ^ nT r) = (nI u, cstN r (nI u) (nT r)) := by
  have hp : 2 ^ nT r ≤ 2 ^ 7 := pow_lt h7
  have key : ∀ m, m ≤ 2 ^ nT r → frS r (nI u) m = if u < m then (nI u, cstN r (nI u) (nT r)) else (0, -4) := by
    intro m
    induction m with
    | zero => intro _; rw [if_neg (Nat.not_lt_zero _)]; rfl
    | succ m ih =>
      intro hm
      have h := ih (by omega)
      by_cases hs : u &&& m = u
      · have hle : u ≤ m := by rw [← hs]; exact Nat.and_le_right
        have hs2 := (sub_bits (u := u) (m := m) (by omega) (by omega)).mpr hs
        rw [if_pos (by omega)]
        by_cases c : u = m
        · subst c
          rw [if_neg (Nat.lt_irrefl _)] at h
          exact frS_new hs2 (Or.inl (by rw [h]; decide))
        · rw [if_pos (by omega)] at h
          obtain ⟨a, b, -⟩ := cst_mono hT h7 (u := u) (m := m) (by omega) (by omega) hs (nT r) (Nat.le_refl _)
          rw [frS_old hs2 (by rw [h]; simp only; rw [Int32.lt_iff_toInt_lt]; have e0 : (0 : Int32).toInt = 0 := rfl; omega) (by rw [h]; simp only; rw [Int32.lt_iff_toInt_lt]; omega), h]
      · have hs2 := (not_congr (sub_bits (u := u) (m := m) (by omega) (by omega))).mpr hs
        rw [frS_skip hs2, h]
        by_cases c : u < m
        · rw [if_pos c, if_pos (by omega)]
        · have : u ≠ m := fun e => hs (by subst e; exact Nat.and_self u)
          rw [if_neg c, if_neg (by omega)]
  rw [key _ (Nat.le_refl _), if_pos hu]
/-! rattles: the least set, from above -/
def raP (ht : Nat → Int32) (z m : Nat) : Prop := orN (fdF ht m) z = orN ht z
def raB (ht : Nat → Int32) (z j lo hi : Nat) : Prop := raP ht z j ∧ ∀ m, lo ≤ m → m < hi → raP ht z m → pop j < pop m ∨ (pop j = pop m ∧ j ≤ m)
theorem raS_char {ht : Nat → Int32} {z : Nat} : ∀ M, M ≤ 1024 → (raS ht z M < 0 ∧ ∀ m, m < M → ¬ raP ht z m) ∨ ∃ j, j < M ∧ raS ht z M = nI j ∧ raB ht z j 0 M := by
  have hpp : ∀ a b, a < 1024 → b < 1024 → (nI (pop a) < nI (pop b) ↔ pop a < pop b) := fun a b ha hb => by
    have := pop_le a ha
    have := pop_le b hb
    exact nI_ltI (by omega) (by omega)
  intro M
  induction M with
  | zero => intro _; exact Or.inl ⟨show (-4 : Int32) < 0 by decide, fun m hm => absurd hm (Nat.not_lt_zero _)⟩
  | succ M ih =>
    intro hM
    rcases ih (by omega) with ⟨h1, h2⟩ | ⟨j, hj, e, hP, hB⟩
    · by_cases c : raP ht z M
      · refine Or.inr ⟨M, Nat.lt_succ_self _, ?_, c, fun m _ hm hPm => ?_⟩
        · rw [raS, if_pos ⟨c, Or.inl h1⟩]
        · by_cases e : m = M
          · subst e; exact Or.inr ⟨rfl, Nat.le_refl _⟩
          · exact absurd hPm (h2 m (by omega))
      · refine Or.inl ⟨?_, fun m hm => ?_⟩
        · rw [raS, if_neg (fun q => c q.1)]; exact h1
        · by_cases e : m = M
          · subst e; exact c
          · exact h2 m (by omega)
    · have hn0 : ¬ raS ht z M < 0 := by rw [e]; exact nI_n0 (by omega)
      have hiN : iN (raS ht z M) = j := by rw [e]; exact iN_nI (by omega)
      by_cases c : raP ht z M ∧ pop M < pop j
      · refine Or.inr ⟨M, Nat.lt_succ_self _, ?_, c.1, fun m _ hm hPm => ?_⟩
        · rw [raS, if_pos ⟨c.1, Or.inr (by rw [hiN]; exact (hpp M j (by omega) (by omega)).mpr c.2)⟩]
        · by_cases em : m = M
          · subst em; exact Or.inr ⟨rfl, Nat.le_refl _⟩
          · rcases hB m (Nat.zero_le _) (by omega) hPm with q | q
            · exact Or.inl (by omega)
            · exact Or.inl (by omega)
      · refine Or.inr ⟨j, by omega, ?_, hP, fun m _ hm hPm => ?_⟩
        · rw [raS, if_neg]
          · exact e
          · rintro ⟨q1, q2⟩
            refine c ⟨q1, ?_⟩
            rcases q2 with q2 | q2
            · exact absurd q2 hn0
            · rw [hiN] at q2
              exact (hpp M j (by omega) (by omega)).mp q2
        · by_cases em : m = M
          · subst em
            have : ¬ pop m < pop j := fun q => c ⟨hPm, q⟩
            by_cases q : pop j = pop m
            · exact Or.inr ⟨q, by omega⟩
            · exact Or.inl (by omega)
          · exact hB m (Nat.zero_le _) (by omega) hPm
theorem ra_uniq {ht : Nat → Int32} {z j M : Nat} (hM : M ≤ 1024) (hj : j < M) (h : raB ht z j 0 M) : raS ht z M = nI j := by
  rcases raS_char (ht := ht) (z := z) M hM with ⟨-, h2⟩ | ⟨k, hk, e, hB⟩
  · exact absurd h.1 (h2 j hj)
  · rw [e]
    have a := h.2 k (Nat.zero_le _) hk hB.1
    have b := hB.2 j (Nat.zero_le _) hj h.1
    rw [show k = j by omega]
theorem ra_take {ht : Nat → Int32} {z j k M : Nat} (hk : 0 < k) (h : raB ht z j k M) (hP : raP ht z (k - 1)) (hp : pop (k - 1) ≤ pop j) : raB ht z (k - 1) (k - 1) M := by
  refine ⟨hP, fun m h1 h2 h3 => ?_⟩
  by_cases e : m = k - 1
  · subst e; exact Or.inr ⟨rfl, Nat.le_refl _⟩
  · have := h.2 m (by omega) h2 h3
    by_cases q : pop (k - 1) = pop m
    · exact Or.inr ⟨q, by omega⟩
    · exact Or.inl (by omega)
theorem ra_keep {ht : Nat → Int32} {z j k M : Nat} (h : raB ht z j k M) (hP : ¬ (pop (k - 1) ≤ pop j ∧ raP ht z (k - 1))) : raB ht z j (k - 1) M := by
  refine ⟨h.1, fun m h1 h2 h3 => ?_⟩
  by_cases e : m = k - 1
  · subst e
    have : ¬ pop (k - 1) ≤ pop j := fun q => hP ⟨q, h3⟩
    exact Or.inl (by omega)
  · exact h.2 m (by omega) h2 h3
theorem nI_tb {m i : Nat} (hm : m < 4294967296) (hi : i < 10) : bit (nI m) i = m.testBit i := by rw [bit_tb _ _ hi, uN_nI hm]
theorem or_ext {f g : Nat → Int32} {z : Nat} (h : ∀ i, i < z → f i = g i) : ∀ k, (∀ i, z ≤ i → i < z + k → f i = 0) → orN f (z + k) = orN g z := by
  intro k
  induction k with
  | zero => intro _; exact orN_congr _ h
  | succ k ih =>
    intro h0
    show orN f (z + k) ||| f (z + k) = _
    rw [ih fun i h1 h2 => h0 i h1 (by omega), h0 (z + k) (by omega) (by omega), Int32.or_zero]
theorem some_eq {f g : Nat → Int32} {z m : Nat} (hz : z ≤ 10) (hm : m < 2 ^ z) (h : ∀ i, i < z → f i = g i) : orN (fdF f m) 10 = orN (fdF g m) z := by
  have hp : 2 ^ z ≤ 2 ^ 10 := pow_lt hz
  have e : 10 = z + (10 - z) := by omega
  rw [e]
  refine or_ext (fun i hi => ?_) _ fun i h1 h2 => ?_
  · unfold fdF; rw [h i hi]
  · unfold fdF
    rw [nI_tb (by omega) (by omega), Nat.testBit_lt_two_pow (Nat.lt_of_lt_of_le hm (pow_lt h1))]
    rfl
theorem some_full {f : Nat → Int32} {z : Nat} (hz : z ≤ 10) : orN (fdF f (2 ^ z - 1)) z = orN f z := orN_congr _ fun j hj => by unfold fdF; rw [bit_full z hz j hj]; rfl
theorem mn_z {z : Nat} (h : z ≤ 10) : mnI (nI z) 10 = nI z := by
  show (if nI z ≤ nI 10 then nI z else nI 10) = nI z
  exact if_pos ((nI_leI (by omega) (by decide)).mpr h)
/-! fewest: the table -/
def wcF (wst ht : Nat → Int32) (v : Nat) (t : Nat) : Int32 := fldN (woS (fun x => wst (iN x)) ht (nI v)) (-4) t
def enW (x : Int32) : Int32 := if x < 0 then 0 else x
theorem woS_sub {ht : Nat → Int32} {v : Nat} (hv : v < 128) (f g : Int32 → Int32) (b : Int32) (n : Nat) (h : ∀ w, w < v → v &&& w = w → f (nI w) = g (nI w)) : woS f ht (nI v) b n = woS g ht (nI v) b n := by
  have ha : nI v &&& ht n = nI (v &&& uN (ht n)) := nI_and v _ (by omega)
  have hle : v &&& uN (ht n) ≤ v := Nat.and_le_left
  have hb : nI v &&& (nI v &&& ht n ^^^ -1) = nI (v &&& uN (nI v &&& ht n ^^^ -1)) := nI_and v _ (by omega)
  have hle2 : v &&& uN (nI v &&& ht n ^^^ -1) ≤ v := Nat.and_le_left
  unfold woS
  by_cases c1 : nI v &&& ht n = 0
  · rw [if_pos (Or.inl c1), if_pos (Or.inl c1)]
  by_cases c2 : nI v &&& ht n = nI v
  · rw [if_pos (Or.inr c2), if_pos (Or.inr c2)]
  have cn : ¬ (nI v &&& ht n = 0 ∨ nI v &&& ht n = nI v) := fun q => q.elim c1 c2
  have e1 : f (nI v &&& ht n) = g (nI v &&& ht n) := by
    rw [ha] at c2 ⊢
    refine h _ (Nat.lt_of_le_of_ne hle fun q => c2 (by rw [q])) ?_
    rw [← Nat.and_assoc, Nat.and_self]
  have e2 : f (nI v &&& (nI v &&& ht n ^^^ -1)) = g (nI v &&& (nI v &&& ht n ^^^ -1)) := by
    rw [hb]
    refine h _ (Nat.lt_of_le_of_ne hle2 fun q => c1 ?_) (by rw [← Nat.and_assoc, Nat.and_self])
    rw [ha] at q ⊢
    have hw : v &&& uN (ht n) = 0 := by
      apply Nat.eq_of_testBit_eq
      intro i
      rw [Nat.zero_testBit, Nat.testBit_and]
      by_cases ci : i < 8
      · have q2 : (v &&& uN (nI (v &&& uN (ht n)) ^^^ -1)).testBit i = v.testBit i := by rw [q]
        rw [Nat.testBit_and, not_bits _ i (by omega) (by omega), Nat.testBit_and] at q2
        cases h3 : v.testBit i <;> cases h4 : (uN (ht n)).testBit i <;> simp_all
      · rw [Nat.testBit_lt_two_pow (Nat.lt_of_lt_of_le hv (show 128 ≤ 2 ^ i from pow_lt (n := 7) (by omega)))]
        rfl
    rw [hw]
    rfl
  rw [if_neg cn, if_neg cn, e1, e2]
theorem fldN_congr {f g : Int32 → Nat → Int32} (z : Int32) (h : ∀ b i, f b i = g b i) : ∀ n, fldN f z n = fldN g z n := by
  intro n
  induction n with
  | zero => rfl
  | succ n ih => rw [fldN, fldN, ih, h]
theorem pop_2 : ∀ v, v < 128 → pop v < 2 → v = 0 ∨ v = 1 ∨ v = 2 ∨ v = 4 ∨ v = 8 ∨ v = 16 ∨ v = 32 ∨ v = 64 := by decide +kernel
theorem and_small {v : Nat} (hv : v < 128) (h : pop v < 2) (x : Nat) : v &&& x = 0 ∨ v &&& x = v := by
  have hp : ∀ k, (2 ^ k) &&& x = 0 ∨ (2 ^ k) &&& x = 2 ^ k := fun k => by
    rw [Nat.and_comm, nat_and_pow]
    split
    · exact Or.inr rfl
    · exact Or.inl rfl
  rcases pop_2 v hv h with rfl | rfl | rfl | rfl | rfl | rfl | rfl | rfl
  · exact Or.inl (Nat.zero_and _)
  · exact hp 0
  · exact hp 1
  · exact hp 2
  · exact hp 3
  · exact hp 4
  · exact hp 5
  · exact hp 6
theorem wc_eq {wst ht : Nat → Int32} {v t : Nat} (hv : v < 128) (h : ∀ w, w < v → v &&& w = w → wst w = wo ht t w) : enW (wcF wst ht v t) = wo ht t v := by
  have e : wcF wst ht v t = fldN (woS (woN ht t v) ht (nI v)) (-4) t := by
    unfold wcF
    refine fldN_congr _ (fun b i => ?_) _
    refine woS_sub hv _ _ _ _ fun w hw hs => ?_
    rw [iN_nI (by omega), h w hw hs]
    exact (woN_fuel ht t w v (by omega) hw).symm
  by_cases c : pop v < 2
  · rw [wo_small hv c]
    have e4 : ∀ n, fldN (woS (fun x => wst (iN x)) ht (nI v)) (-4) n = -4 := by
      intro n
      induction n with
      | zero => rfl
      | succ n ih =>
        rw [fldN, ih]
        unfold woS
        rw [if_pos]
        rw [nI_and v _ (by omega)]
        rcases and_small hv c (uN (ht n)) with q | q
        · exact Or.inl (by rw [q]; rfl)
        · exact Or.inr (by rw [q])
    unfold enW wcF
    rw [e4]
    rfl
  · rw [wo_big hv c, ← e]
    rfl
