/-! the class: shelves, bits, searches -/
theorem row_get {d : Nat → ClassId} {G : zG} {qt qr : Nat → Option Nat} {kp so sz el pr ts : Nat → Int32} (h : ShG d G qt qr kp so sz el pr ts) {x : Int32} (hw : wrR kp so x (-1) = 0) : ∃ n, n < 8 ∧ x = nI n ∧ kp n = 2 ∧ qt n = none ∧ ∃ q w y, qr n = some q ∧ G q = some (ceW (so n) w) ∧ G w = some (ceI d (iN (sz n)) y) ∧ ∀ i, i < iN (sz n) → y i = el (100 * n + i) := by
  obtain ⟨h1, h2, -⟩ := wrR_0 hw
  obtain ⟨n, hn, rfl⟩ := shelf_nat h1
  rw [iN_nI (by omega)] at h2
  refine ⟨n, hn, rfl, h2, ?_⟩
  rcases h.2 n hn with ⟨hk, -⟩ | ⟨hk, -⟩ | ⟨hk, ht, hq⟩
  · exact absurd (hk.symm.trans h2) (by decide)
  · exact absurd (hk.symm.trans h2) (by decide)
  · exact ⟨ht, hq⟩
theorem th_get {d : Nat → ClassId} {G : zG} {qt qr : Nat → Option Nat} {kp so sz el pr ts : Nat → Int32} (h : ShG d G qt qr kp so sz el pr ts) {x : Int32} (hw : wrK kp x = 0) : ∃ n, n < 8 ∧ x = nI n ∧ kp n = 1 ∧ qr n = none ∧ ∃ q v0 v1 v2 v3 v4 v5, qt n = some q ∧ G q = some (ceT v0 v1 v2 v3 v4 v5) ∧ pr n = prK v1 v4 ∧ ts n = tsK v0 v1 v4 := by
  obtain ⟨h1, h2⟩ := wrK_0 hw
  obtain ⟨n, hn, rfl⟩ := shelf_nat h1
  rw [iN_nI (by omega)] at h2
  refine ⟨n, hn, rfl, h2, ?_⟩
  rcases h.2 n hn with ⟨hk, -⟩ | ⟨hk, ht, hq⟩ | ⟨hk, -⟩
  · exact absurd (hk.symm.trans h2) (by decide)
  · exact ⟨ht, hq⟩
  · exact absurd (hk.symm.trans h2) (by decide)
def prR (kp so : Nat → Int32) (d f : Int32) : Int32 :=
  if inL d 0 7 = true ∧ inL f 0 7 = true then (if kp (iN d) = 0 ∨ kp (iN f) = 0 then -11 else if ¬ kp (iN d) = 2 ∨ ¬ kp (iN f) = 2 ∨ ¬ so (iN d) = so (iN f) then -12 else 0) else -1
theorem wrR_m1 {kp so : Nat → Int32} {d : Int32} : wrR kp so d (-1) = -1 ↔ inL d 0 7 = false := by
  unfold wrR
  cases inL d 0 7 with
  | false => simp
  | true =>
    rw [if_pos rfl]
    split
    · simp
    · split <;> simp
theorem wrR_11 {kp so : Nat → Int32} {d : Int32} : wrR kp so d (-1) = -11 ↔ inL d 0 7 = true ∧ kp (iN d) = 0 := by
  unfold wrR
  cases inL d 0 7 with
  | false => simp
  | true =>
    rw [if_pos rfl]
    split
    · rename_i h; simp [h]
    · rename_i h
      split <;> simp [h]
theorem wrR_z {kp so : Nat → Int32} {d : Int32} : wrR kp so d (-1) = 0 ↔ inL d 0 7 = true ∧ kp (iN d) = 2 := by
  unfold wrR
  cases inL d 0 7 with
  | false => simp
  | true =>
    rw [if_pos rfl]
    split
    · rename_i h; simp [h]
    · rename_i h
      by_cases h2 : kp (iN d) = 2
      · simp [h2]
      · simp [h2]
def wtC (kp so sz el : Nat → Int32) (ob : Bool) (d most : Int32) : Int32 := if ob = true then wtT kp so sz el d most else -1
/-- loudest, before any tone too -/
def loB (r : Nat → Int32) (n : Nat) (st : Int32) (k : Nat) : Int32 := if k = 0 then 0 else nI (lou r n st k)
def loV (r : Nat → Int32) (n : Nat) (st : Int32) (k : Nat) : Int32 := if k = 0 then -1 else sw r n (nI (lou r n st k)) st
theorem lo_up {r : Nat → Int32} {n : Nat} {st : Int32} {k : Nat} (h : loV r n st k < sw r n (nI (k + 1)) st) : loB r n st (k + 1) = nI (k + 1) ∧ loV r n st (k + 1) = sw r n (nI (k + 1)) st := by
  unfold loB loV
  rw [if_neg (Nat.succ_ne_zero k), if_neg (Nat.succ_ne_zero k)]
  have e : lou r n st (k + 1) = k + 1 := by
    unfold lou
    by_cases c : k = 0
    · subst c; rfl
    · unfold loV at h
      rw [if_neg c] at h
      rw [if_neg c, if_pos h]
  rw [e]
  exact ⟨rfl, rfl⟩
theorem lo_no {r : Nat → Int32} {n : Nat} {st : Int32} {k : Nat} (h0 : 0 ≤ sw r n (nI (k + 1)) st) (h : ¬ loV r n st k < sw r n (nI (k + 1)) st) : loB r n st (k + 1) = loB r n st k ∧ loV r n st (k + 1) = loV r n st k := by
  by_cases c : k = 0
  · subst c
    exfalso
    apply h
    have e : loV r n st 0 = -1 := rfl
    rw [e, Int32.lt_iff_toInt_lt]
    rw [Int32.le_iff_toInt_le] at h0
    have e0 : (0 : Int32).toInt = 0 := rfl
    have e1 : (-1 : Int32).toInt = -1 := rfl
    omega
  · unfold loV at h
    rw [if_neg c] at h
    have e : lou r n st (k + 1) = lou r n st k := by
      rw [lou, if_neg c, if_neg h]
    unfold loB loV
    rw [if_neg (Nat.succ_ne_zero k), if_neg (Nat.succ_ne_zero k), if_neg c, if_neg c, e]
    exact ⟨rfl, rfl⟩
theorem bit_tb (set : Int32) (n : Nat) (hn : n < 10) : bit set n = (uN set).testBit n := by
  have hs : ∀ n, n < 10 → ((nI n &&& 31).toBitVec.smod 32#32).toNat = n := by decide +kernel
  have h1 : (set >>> (nI n &&& 31)).toBitVec = set.toBitVec.sshiftRight n := by
    rw [Int32.toBitVec_shiftRight]
    show set.toBitVec.sshiftRight ((nI n &&& 31).toBitVec.smod 32#32).toNat = _
    rw [hs n hn]
  have h2 : ((set >>> (nI n &&& 31)) &&& 1 = 1) ↔ (set.toBitVec.sshiftRight n).getLsbD 0 = true := by
    rw [← Int32.toBitVec_inj, Int32.toBitVec_and, h1]
    show (set.toBitVec.sshiftRight n &&& 1#32) = 1#32 ↔ _
    rw [BitVec.and_one_eq_setWidth_ofBool_getLsbD]
    cases (set.toBitVec.sshiftRight n).getLsbD 0 <;> decide
  have h3 : (set.toBitVec.sshiftRight n).getLsbD 0 = (uN set).testBit n := by
    rw [BitVec.getLsbD_sshiftRight]
    simp only [Nat.add_zero, show n < 32 by omega, if_true]
    simp [uN, BitVec.getLsbD]
  unfold bit
  rw [Bool.eq_iff_iff, decide_eq_true_eq, ← h3]
  exact h2
theorem nat_and_pow (x n : Nat) : x &&& 2 ^ n = if x.testBit n = true then 2 ^ n else 0 := by
  apply Nat.eq_of_testBit_eq
  intro i
  rw [Nat.testBit_and, Nat.testBit_two_pow]
  by_cases h : n = i
  · subst h
    cases hx : x.testBit n <;> simp
  · cases hx : x.testBit n <;> simp [h]
theorem and_pow (set : Int32) (n : Nat) (hn : n < 8) : set &&& (1 <<< (nI n &&& 31)) = if bit set n = true then nI (2 ^ n) else 0 := by
  have hp : 2 ^ n < 2147483648 := Nat.lt_of_le_of_lt (Nat.pow_le_pow_right (by decide) (show n ≤ 7 by omega)) (by decide)
  rw [shl_pow n hn, Int32.and_comm, nI_and _ _ hp, bit_tb set n (by omega), Nat.and_comm, nat_and_pow]
  cases (uN set).testBit n <;> simp [nI]
theorem uN_nI {v : Nat} (h : v < 4294967296) : uN (nI v) = v := by
  unfold uN nI
  rw [Int32.toBitVec_ofNat', BitVec.toNat_ofNat]
  exact Nat.mod_eq_of_lt h
theorem bit_pow (n k : Nat) (hn : n < 8) (hk : k < 8) : bit (nI (2 ^ n)) k = decide (n = k) := by
  have hp : 2 ^ n < 4294967296 := Nat.lt_of_le_of_lt (Nat.pow_le_pow_right (by decide) (show n ≤ 7 by omega)) (by decide)
  rw [bit_tb _ _ (by omega), uN_nI hp, Nat.testBit_two_pow]
theorem bit_0 (k : Nat) (hk : k < 10) : bit 0 k = false := by
  rw [bit_tb _ _ hk]
  exact Nat.zero_testBit k
theorem sumN_congr {f g : Nat → Int32} : ∀ n, (∀ j, j < n → f j = g j) → sumN f n = sumN g n := by
  intro n
  induction n with
  | zero => intro _; rfl
  | succ n ih => intro h; rw [sumN, sumN, ih fun j hj => h j (by omega), h n (by omega)]
theorem sumN_0 : ∀ n, sumN (fun _ => 0) n = 0 := by
  intro n
  induction n with
  | zero => rfl
  | succ n ih => rw [sumN, ih]; rfl
theorem sumN_one {v : Int32} {n : Nat} : ∀ k, sumN (fun j => if n = j then v else 0) k = if n < k then v else 0 := by
  intro k
  induction k with
  | zero => rfl
  | succ k ih =>
    rw [sumN, ih]
    by_cases h : n = k
    · subst h
      rw [if_neg (Nat.lt_irrefl _), if_pos rfl, if_pos (Nat.lt_succ_self _), Int32.zero_add]
    · rw [if_neg h, Int32.add_zero]
      by_cases h2 : n < k
      · rw [if_pos h2, if_pos (by omega)]
      · rw [if_neg h2, if_neg (by omega)]
theorem chA_pow {r : Nat → Int32} {n : Nat} (hn : n < nT r) (hT : nT r ≤ 7) : chA r (nI (2 ^ n)) = g5 r n 4 := by
  unfold chA csN
  rw [sumN_congr (g := fun j => if n = j then g5 r n 4 else 0) _ (fun j hj => by
    rw [bit_pow n j (by omega) (by omega)]
    by_cases e : n = j
    · subst e; simp
    · simp [e]), sumN_one, if_pos hn]
theorem chA_0 {r : Nat → Int32} (hT : nT r ≤ 7) : chA r 0 = 0 := by
  unfold chA csN
  rw [sumN_congr (g := fun _ => 0) _ (fun j hj => by rw [bit_0 j (by omega)]; rfl), sumN_0]
theorem chA_one {r : Nat → Int32} {set : Int32} {n : Nat} (hn : n < nT r) (hT : nT r ≤ 7) : chA r (set &&& (1 <<< (nI n &&& 31))) = if bit set n = true then g5 r n 4 else 0 := by
  rw [and_pow set n (by omega)]
  cases bit set n with
  | false => exact chA_0 hT
  | true => exact chA_pow hn hT
/-- which: the greatest chance so far -/
def whV (r : Nat → Int32) (set : Int32) (k : Nat) : Int32 := if whS r set k < 0 then 0 else g5 r (iN (whS r set k)) 4
theorem wh_up {r : Nat → Int32} {set : Int32} {k : Nat} (hk : k < nT r) (hT : nT r ≤ 7) (hI : InvT r) (h : whV r set k < chA r (set &&& (1 <<< (nI k &&& 31)))) : whS r set (k + 1) = nI k ∧ whV r set (k + 1) = chA r (set &&& (1 <<< (nI k &&& 31))) := by
  have e0 : (0 : Int32).toInt = 0 := rfl
  rw [chA_one hk hT] at h ⊢
  unfold whV at h
  have h0 : 0 ≤ (if whS r set k < 0 then 0 else g5 r (iN (whS r set k)) 4).toInt := by
    split
    · rw [e0]; omega
    · rename_i c
      obtain ⟨j, hj, e⟩ := (whS_nat (sv := r) (set := set) k (by omega)).resolve_left c
      rw [e, iN_nI (by omega)]
      have := (hI j (by omega)).2.2.2.2.1
      omega
  cases hb : bit set k with
  | false =>
    rw [hb, if_neg Bool.false_ne_true, Int32.lt_iff_toInt_lt, e0] at h
    omega
  | true =>
    rw [hb, if_pos rfl] at h
    have e : whS r set (k + 1) = nI k := by
      rw [whS, if_pos]
      refine ⟨hb, ?_⟩
      by_cases c : whS r set k < 0
      · exact Or.inl c
      · rw [if_neg c] at h; exact Or.inr h
    refine ⟨e, ?_⟩
    unfold whV
    rw [e, if_neg (nI_n0 (by omega)), iN_nI (by omega), if_pos rfl]
theorem wh_no {r : Nat → Int32} {set : Int32} {k : Nat} (hk : k < nT r) (hT : nT r ≤ 7) (hI : InvT r) (h : ¬ whV r set k < chA r (set &&& (1 <<< (nI k &&& 31)))) : whS r set (k + 1) = whS r set k ∧ whV r set (k + 1) = whV r set k := by
  have e0 : (0 : Int32).toInt = 0 := rfl
  rw [chA_one hk hT] at h
  have e : whS r set (k + 1) = whS r set k := by
    rw [whS, if_neg]
    rintro ⟨hb, hc⟩
    rw [hb, if_pos rfl] at h
    apply h
    unfold whV
    by_cases c : whS r set k < 0
    · rw [if_pos c, Int32.lt_iff_toInt_lt, e0]
      have := (hI k hk).2.2.2.2.1
      omega
    · rw [if_neg c]
      exact hc.resolve_left c
  refine ⟨e, ?_⟩
  unfold whV
  rw [e]
theorem I64_neg_le {x m : Int64} (h1 : -10000000000 ≤ x.toInt) (h2 : x.toInt ≤ 10000000000) (h3 : 0 ≤ m.toInt) : amL x ≤ m ↔ (x ≤ m ∧ -m ≤ x) := by
  have e0 : (0 : Int64).toInt = 0 := rfl
  have hm2 := m.toInt_lt
  have hn : (-x).toInt = -x.toInt := by
    rw [Int64.toInt_neg, Int.bmod_eq_of_le] <;> omega
  have hm : (-m).toInt = -m.toInt := by
    rw [Int64.toInt_neg, Int.bmod_eq_of_le] <;> omega
  unfold amL
  simp only [Int64.le_iff_toInt_le, hm]
  by_cases c : 0 < x
  · rw [if_pos c]
    rw [Int64.lt_iff_toInt_lt, e0] at c
    omega
  · rw [if_neg c, hn]
    rw [Int64.lt_iff_toInt_lt, e0] at c
    omega
theorem lv_C {a sh m : Int32} (hm : rg m 0 99) : amL (a.toInt64 - sh.toInt64) ≤ m.toInt64 ↔ (a.toInt64 - sh.toInt64 ≤ m.toInt64 ∧ (-m).toInt64 ≤ a.toInt64 - sh.toInt64) := by
  have a1 := a.le_toInt
  have a2 := a.toInt_lt
  have b1 := sh.le_toInt
  have b2 := sh.toInt_lt
  have hs : (a.toInt64 - sh.toInt64).toInt = a.toInt - sh.toInt := by
    rw [Int64.toInt_sub, Int32.toInt_toInt64, Int32.toInt_toInt64, Int.bmod_eq_of_le] <;> omega
  unfold rg at hm
  have hn : (-m).toInt64 = -(m.toInt64) := by
    apply Int64.toInt_inj.mp
    rw [Int32.toInt_toInt64, Int64.toInt_neg, Int32.toInt_toInt64, ti_neg (by omega), Int.bmod_eq_of_le] <;> omega
  rw [hn]
  exact I64_neg_le (by rw [hs]; omega) (by rw [hs]; omega) (by rw [Int32.toInt_toInt64]; omega)
theorem lvB_C {r : Nat → Int32} {w sh m : Int32} {n : Nat} (hm : rg m 0 99) : lvB r w sh m n = (decide (g6 r n 5 + w ≤ 20) && decide (amL ((shO r n w).toInt64 - sh.toInt64) ≤ m.toInt64)) := by
  unfold lvB
  rw [Bool.eq_iff_iff]
  simp only [Bool.and_eq_true, decide_eq_true_eq, lv_C hm]
  exact and_assoc
theorem inL_1 {w : Int32} (h : inL w 0 1 = true) : w = 0 ∨ w = 1 := by
  obtain ⟨n, hn, rfl⟩ := inL_nat h (B := 1) rfl
  rcases n with _ | _ | n
  · exact Or.inl rfl
  · exact Or.inr rfl
  · omega
/-- bands, by where the last one began -/
def bnC (B : Nat → Bool) (i w : Int32) (f e s : Nat) : Int32 := if 0 < s ∧ nI e = i ∧ w = 0 then nI s else bnd B i w (602 - f) f (e + (if 0 < s then 1 else 0)) (decide (0 < s))
theorem bn_i {i : Int32} {e : Nat} (he : e ≤ 1000) : (0 ≤ i ∧ nI (e + 1) = i + 1) ↔ nI e = i := by
  have e0 : (0 : Int32).toInt = 0 := rfl
  have h1 : (nI e).toInt = e := nI_toInt (by omega)
  rw [← nI_1]
  constructor
  · rintro ⟨-, h⟩
    have h2 := congrArg (fun z => z - 1) h
    simpa [Int32.add_sub_cancel] using h2
  · rintro rfl
    refine ⟨?_, rfl⟩
    rw [Int32.le_iff_toInt_le]
    omega
theorem bnd_s (B : Nat → Bool) (i w : Int32) {f n : Nat} {b : Bool} (hf : f ≤ 601) : bnd B i w (602 - f) f n b =
    if 0 ≤ i ∧ nI (if (decide (f ≤ 600) && B f) = true ∧ b = false then n + 1 else n) = i + 1 ∧ w = 0 ∧ (decide (f ≤ 600) && B f) = true then nI f
    else if 0 ≤ i ∧ nI (if (decide (f ≤ 600) && B f) = true ∧ b = false then n + 1 else n) = i + 1 ∧ w = 1 ∧ b = true ∧ (decide (f ≤ 600) && B f) = false then nI f - 1
    else bnd B i w (602 - (f + 1)) (f + 1) (if (decide (f ≤ 600) && B f) = true ∧ b = false then n + 1 else n) (decide (f ≤ 600) && B f) := by
  obtain ⟨k, hk⟩ : ∃ k, 602 - f = k + 1 := ⟨601 - f, by omega⟩
  rw [hk, show 602 - (f + 1) = k by omega]
  rfl
theorem bn_A {B : Nat → Bool} {i w : Int32} {f e : Nat} (hf : f ≤ 601) (hz : (decide (f ≤ 600) && B f) = false) : bnC B i w f e 0 = bnC B i w (f + 1) e 0 := by
  unfold bnC
  rw [bnd_s B i w hf, hz]
  simp
theorem bn_B {B : Nat → Bool} {i w : Int32} {f e : Nat} (hf : f ≤ 601) (hf0 : 0 < f) (he : e ≤ 1000) (hz : (decide (f ≤ 600) && B f) = true) : bnC B i w f e 0 = bnC B i w (f + 1) e f := by
  unfold bnC
  rw [bnd_s B i w hf, hz]
  have := bn_i (i := i) he
  by_cases h : nI e = i
  · have h2 := this.mpr h
    by_cases hw : w = 0
    · simp [h, hw, h2, hf0]
    · simp [h, hw, hf0]
  · have h2 : ¬ (0 ≤ i ∧ nI (e + 1) = i + 1) := fun c => h (this.mp c)
    have h3 : ∀ P, ¬ (0 ≤ i ∧ nI (e + 1) = i + 1 ∧ P) := fun P c => h2 ⟨c.1, c.2.1⟩
    simp [h, h3, hf0]
theorem bn_C {B : Nat → Bool} {i w : Int32} {f e s : Nat} (hf : f ≤ 601) (hs : 0 < s) (he : e ≤ 1000) (hz : (decide (f ≤ 600) && B f) = true) : bnC B i w f e s = bnC B i w (f + 1) e s := by
  unfold bnC
  by_cases h : 0 < s ∧ nI e = i ∧ w = 0
  · rw [if_pos h, if_pos h]
  · rw [if_neg h, if_neg h, bnd_s B i w hf, hz]
    have h3 : ¬ (0 ≤ i ∧ nI (e + 1) = i + 1 ∧ w = 0) := fun c => h ⟨hs, (bn_i he).mp ⟨c.1, c.2.1⟩, c.2.2⟩
    simp [hs, h3]
theorem bn_D0 {B : Nat → Bool} {i w : Int32} {f e s : Nat} (hs : 0 < s) (h : nI e = i) (hw : w = 0) : bnC B i w f e s = nI s := by
  unfold bnC
  rw [if_pos ⟨hs, h, hw⟩]
theorem bn_D1 {B : Nat → Bool} {i w : Int32} {f e s : Nat} (hf : f ≤ 601) (hs : 0 < s) (he : e ≤ 1000) (h : nI e = i) (hw : w = 1) (hz : (decide (f ≤ 600) && B f) = false) : bnC B i w f e s = nI f - 1 := by
  unfold bnC
  have hw0 : ¬ w = 0 := by rw [hw]; decide
  have h2 := (bn_i he).mpr h
  rw [if_neg (fun c => hw0 c.2.2), bnd_s B i w hf, hz]
  simp [hs, hw, h2.1, h2.2]
theorem bn_D2 {B : Nat → Bool} {i w : Int32} {f e s : Nat} (hf : f ≤ 601) (hs : 0 < s) (he : e ≤ 1000) (h : ¬ nI e = i) (hz : (decide (f ≤ 600) && B f) = false) : bnC B i w f e s = bnC B i w (f + 1) (e + 1) 0 := by
  unfold bnC
  have h2 : ¬ (0 ≤ i ∧ nI (e + 1) = i + 1) := fun c => h ((bn_i he).mp c)
  have h3 : ∀ P, ¬ (0 ≤ i ∧ nI (e + 1) = i + 1 ∧ P) := fun P c => h2 ⟨c.1, c.2.1⟩
  rw [if_neg (fun c => h c.2.1), bnd_s B i w hf, hz]
  simp [hs, h3]
theorem bn_E (B : Nat → Bool) (i w : Int32) (e : Nat) : bnC B i w 602 e 0 = if 0 ≤ i then -4 else nI e := by
  unfold bnC
  rw [if_neg (fun c => Nat.lt_irrefl _ c.1)]
  rfl
