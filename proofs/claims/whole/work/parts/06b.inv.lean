/-! what always holds of the row s -/
def rg (x : Int32) (a b : Int) : Prop := a ≤ x.toInt ∧ x.toInt ≤ b
def nP (sv : Nat → Int32) : Nat := (sv 0).toInt.toNat
def nT (sv : Nat → Int32) : Nat := (sv 1).toInt.toNat
def nA (sv : Nat → Int32) : Nat := (sv 2).toInt.toNat
/-- settings, as they stand at v 0 .. v 4 (hand, dry, player, room, post), among P pieces -/
def InvZ (P : Nat) (v : Nat → Int32) : Prop := (v 0 = -4 ∨ ∃ n, n < P ∧ v 0 = nI n) ∧ rg (v 1) 0 20 ∧ rg (v 2) 0 1 ∧ rg (v 3) 0 3 ∧ rg (v 4) (-9) 9
def InvC (sv : Nat → Int32) : Prop := rg (sv 0) 0 10 ∧ rg (sv 1) 0 7 ∧ rg (sv 2) 0 24
def InvS (sv : Nat → Int32) : Prop := InvZ (nP sv) (fun k => sv (3 + k)) ∧ ∀ n, n < 10 → rg (g6 sv n 5) 0 20
def InvP (sv : Nat → Int32) : Prop := ∀ n, n < nP sv → rg (g6 sv n 0) 10 600 ∧ rg (g6 sv n 1) 1 99 ∧ rg (g6 sv n 2) 1 99 ∧ (g6 sv n 3 = -4 ∨ ∃ j, j < n ∧ g6 sv n 3 = nI j) ∧ rg (g6 sv n 4) 0 99
def InvT (sv : Nat → Int32) : Prop := ∀ n, n < nT sv → rg (g5 sv n 0) 0 7 ∧ (∃ j, j < nP sv ∧ g5 sv n 1 = nI j) ∧ rg (g5 sv n 2) 1 999 ∧ rg (g5 sv n 3) 0 9 ∧ rg (g5 sv n 4) 1 99
def InvA (sv : Nat → Int32) : Prop := ∀ i, i < nA sv → rg (sv (103 + 18 * i)) 1 1200 ∧ rg (sv (103 + 18 * i + 1)) 1 99 ∧ (sv (103 + 18 * i + 2) = 0 ∨ sv (103 + 18 * i + 2) = 1) ∧ InvZ (nP sv) (fun k => sv (103 + 18 * i + 3 + k)) ∧ ∀ n, n < 10 → rg (sv (103 + 18 * i + 8 + n)) 0 20
def Inv (sv : Nat → Int32) : Prop := InvC sv ∧ InvS sv ∧ InvP sv ∧ InvT sv ∧ InvA sv
theorem rg_nI {x : Int32} {a b : Int} (h : rg x a b) (ha : 0 ≤ a) (hb : b < 2147483648) : x = nI x.toInt.toNat := by
  obtain ⟨h1, h2⟩ := h
  apply Int32.toInt_inj.mp
  rw [nI_toInt (by omega)]
  omega
theorem Inv.n0 {sv : Nat → Int32} (h : InvC sv) : sv 0 = nI (nP sv) ∧ nP sv ≤ 10 := ⟨rg_nI h.1 (by decide) (by decide), by have := h.1.2; unfold nP; omega⟩
theorem Inv.n1 {sv : Nat → Int32} (h : InvC sv) : sv 1 = nI (nT sv) ∧ nT sv ≤ 7 := ⟨rg_nI h.2.1 (by decide) (by decide), by have := h.2.1.2; unfold nT; omega⟩
theorem Inv.n2 {sv : Nat → Int32} (h : InvC sv) : sv 2 = nI (nA sv) ∧ nA sv ≤ 24 := ⟨rg_nI h.2.2 (by decide) (by decide), by have := h.2.2.2; unfold nA; omega⟩
/-- sums, differences, products that stay within an int -/
theorem ti_add {a b : Int32} (h1 : -2147483648 ≤ a.toInt + b.toInt) (h2 : a.toInt + b.toInt < 2147483648) : (a + b).toInt = a.toInt + b.toInt := by
  rw [Int32.toInt_add]
  exact Int.bmod_eq_of_le (by omega) (by omega)
theorem ti_sub {a b : Int32} (h1 : -2147483648 ≤ a.toInt - b.toInt) (h2 : a.toInt - b.toInt < 2147483648) : (a - b).toInt = a.toInt - b.toInt := by
  rw [Int32.toInt_sub]
  exact Int.bmod_eq_of_le (by omega) (by omega)
theorem ti_mul {a b : Int32} (h1 : -2147483648 ≤ a.toInt * b.toInt) (h2 : a.toInt * b.toInt < 2147483648) : (a * b).toInt = a.toInt * b.toInt := by
  rw [Int32.toInt_mul]
  exact Int.bmod_eq_of_le (by omega) (by omega)
theorem ti_neg {a : Int32} (h1 : -2147483648 < a.toInt) : (-a).toInt = -a.toInt := by
  rw [Int32.toInt_neg]
  have := Int32.toInt_lt a
  exact Int.bmod_eq_of_le (by omega) (by omega)
theorem ti_div {a b : Int32} (h : -2147483648 < a.toInt) : (a / b).toInt = a.toInt.tdiv b.toInt := by
  rw [Int32.toInt_div]
  have h1 := Int32.toInt_lt a
  have h2 : a.toInt.tdiv b.toInt ≤ a.toInt.natAbs := by
    have := Int.natAbs_tdiv_le_natAbs a.toInt b.toInt
    omega
  have h3 : -(a.toInt.natAbs : Int) ≤ a.toInt.tdiv b.toInt := by
    have := Int.natAbs_tdiv_le_natAbs a.toInt b.toInt
    omega
  exact Int.bmod_eq_of_le (by omega) (by omega)
theorem nz_of {x : Int32} (h : 0 < x.toInt) : ¬ x = 0 := fun e => by subst e; exact absurd h (by decide)
theorem lt_nat {a b : Nat} {x y : Int32} (hx : x = nI a) (hy : y = nI b) (ha : a < 2147483648) (hb : b < 2147483648) (h : ¬ y ≤ x) : a < b := by
  subst hx; subst hy
  rw [nI_leI (by omega) (by omega)] at h
  omega
theorem ge_nat {a b : Nat} {x y : Int32} (hx : x = nI a) (hy : y = nI b) (ha : a < 2147483648) (hb : b < 2147483648) (h : y ≤ x) : b ≤ a := by
  subst hx; subst hy
  rw [nI_leI (by omega) (by omega)] at h
  omega
theorem pc_nat {sv : Nat → Int32} (h : InvC sv) {x : Int32} (hx : isPc sv x = true) : ∃ n, n < nP sv ∧ x = nI n := by
  obtain ⟨e, hn⟩ := Inv.n0 h
  simp only [isPc, inL, Bool.and_eq_true, decide_eq_true_eq, Int32.le_iff_toInt_le] at hx
  have h0 : (0 : Int32).toInt = 0 := rfl
  have h1 : (sv 0 - 1).toInt = (nP sv : Int) - 1 := by
    rw [e, ti_sub] <;> rw [nI_toInt (by omega)] <;> (have : (1 : Int32).toInt = 1 := rfl) <;> omega
  refine ⟨x.toInt.toNat, by omega, ?_⟩
  apply Int32.toInt_inj.mp
  rw [nI_toInt (by omega)]
  omega
theorem th_nat {sv : Nat → Int32} (h : InvC sv) {x : Int32} (hx : isTh sv x = true) : ∃ n, n < nT sv ∧ x = nI n := by
  obtain ⟨e, hn⟩ := Inv.n1 h
  simp only [isTh, inL, Bool.and_eq_true, decide_eq_true_eq, Int32.le_iff_toInt_le] at hx
  have h0 : (0 : Int32).toInt = 0 := rfl
  have h1 : (sv 1 - 1).toInt = (nT sv : Int) - 1 := by
    rw [e, ti_sub] <;> rw [nI_toInt (by omega)] <;> (have : (1 : Int32).toInt = 1 := rfl) <;> omega
  refine ⟨x.toInt.toNat, by omega, ?_⟩
  apply Int32.toInt_inj.mp
  rw [nI_toInt (by omega)]
  omega
theorem inL_rg {x a b : Int32} (h : inL x a b = true) : rg x a.toInt b.toInt := by
  simpa [inL, rg, Int32.le_iff_toInt_le] using h
theorem inL_nat {x b : Int32} {B : Nat} (h : inL x 0 b = true) (hb : b.toInt = B) : ∃ n, n ≤ B ∧ x = nI n := by
  have h' := inL_rg h
  have h0 : (0 : Int32).toInt = 0 := rfl
  unfold rg at h'
  have hB : x.toInt < 2147483648 := Int32.toInt_lt x
  refine ⟨x.toInt.toNat, by omega, ?_⟩
  apply Int32.toInt_inj.mp
  rw [nI_toInt (by omega)]
  omega
/-! tones, losses, swings -/
def tnW (sv : Nat → Int32) (n : Nat) (w : Int32) : Int32 := g6 sv n 0 - g6 sv n 0 * w / (2 * g6 sv n 2 + w)
def tnN (sv : Nat → Int32) (n : Nat) : Int32 := tnW sv n (g6 sv n 5)
def lsN (sv : Nat → Int32) (n : Nat) : Int32 := if sv 3 = nI n then 2 * g6 sv n 1 else g6 sv n 1
def ownS (sv : Nat → Int32) (n : Nat) (f st : Int32) : Int32 := 100 * st / (lsN sv n + amt (f - tnN sv n))
def SW : Nat → (Nat → Int32) → Nat → Int32 → Int32 → Int32
  | 0, _, _, _, _ => 0
  | k + 1, sv, n, f, st => if g6 sv n 3 < 0 then ownS sv n f st else ownS sv n f st + hld (g6 sv n 4 + sv 7) 0 99 * SW k sv (g6 sv n 3).toInt.toNat f st / 100
def sw (sv : Nat → Int32) (n : Nat) (f st : Int32) : Int32 := SW (n + 1) sv n f st
theorem SW_fuel {sv : Nat → Int32} (hC : InvC sv) (h : InvP sv) (f st : Int32) : ∀ (n k : Nat), n < k → n < nP sv → SW k sv n f st = sw sv n f st := by
  have hP := (Inv.n0 hC).2
  intro n
  induction n using Nat.strongRecOn with
  | ind n ih =>
    intro k hk hn
    cases k with
    | zero => omega
    | succ k =>
      unfold sw
      simp only [SW]
      split
      · rfl
      · rename_i hj
        obtain ⟨-, -, -, h4, -⟩ := h n hn
        rcases h4 with e | ⟨j, hjn, e⟩
        · rw [e] at hj; exact absurd (by decide) hj
        · rw [e, nI_toInt (by omega)]
          simp only [Int.toNat_natCast]
          rw [ih j hjn k (by omega) (by omega), ih j hjn n (by omega) (by omega)]
theorem sw_root {sv : Nat → Int32} {n : Nat} {f st : Int32} (h : g6 sv n 3 < 0) : sw sv n f st = ownS sv n f st := by
  unfold sw
  simp only [SW, if_pos h]
theorem sw_join {sv : Nat → Int32} (hC : InvC sv) (h : InvP sv) {n j : Nat} {f st : Int32} (hn : n < nP sv) (hj : j < n) (e : g6 sv n 3 = nI j) : sw sv n f st = ownS sv n f st + hld (g6 sv n 4 + sv 7) 0 99 * sw sv j f st / 100 := by
  have hP := (Inv.n0 hC).2
  have h0 : ¬ g6 sv n 3 < 0 := by rw [e]; exact nI_pos (by omega)
  rw [← SW_fuel hC h f st j n hj (by omega)]
  unfold sw
  simp only [SW, if_neg h0]
  rw [e, nI_toInt (by omega)]
  rfl
theorem joined_nat {sv : Nat → Int32} (h : InvP sv) {n : Nat} (hn : n < nP sv) (h0 : ¬ g6 sv n 3 < 0) : ∃ j, j < n ∧ g6 sv n 3 = nI j := by
  obtain ⟨-, -, -, h4, -⟩ := h n hn
  rcases h4 with e | h4
  · rw [e] at h0; exact absurd (by decide) h0
  · exact h4
/-- the divisor of a tone with wax -/
theorem tn_nz {sv : Nat → Int32} (h : InvP sv) {n : Nat} (hn : n < nP sv) {w : Int32} (hw : rg w 0 40) : ¬ 2 * g6 sv n 2 + w = 0 := by
  obtain ⟨-, -, h3, -⟩ := h n hn
  unfold rg at h3 hw
  have h2 : (2 : Int32).toInt = 2 := rfl
  have e : (2 * g6 sv n 2).toInt = 2 * (g6 sv n 2).toInt := by rw [ti_mul] <;> rw [h2] <;> omega
  apply nz_of
  rw [ti_add] <;> rw [e] <;> omega
theorem amt_ge {x : Int32} (h : -2147483648 < x.toInt) : 0 ≤ (amt x).toInt ∧ (amt x).toInt ≤ x.toInt.natAbs := by
  unfold amt
  split
  · rename_i q
    rw [Int32.lt_iff_toInt_lt] at q
    have h0 : (0 : Int32).toInt = 0 := rfl
    rw [ti_neg h]
    omega
  · rename_i q
    rw [Int32.lt_iff_toInt_lt] at q
    have h0 : (0 : Int32).toInt = 0 := rfl
    omega
theorem ls_rg {sv : Nat → Int32} (h : InvP sv) {n : Nat} (hn : n < nP sv) : rg (lsN sv n) 1 198 := by
  obtain ⟨-, h3, -⟩ := h n hn
  unfold rg at h3 ⊢
  unfold lsN
  have h2 : (2 : Int32).toInt = 2 := rfl
  split
  · rw [ti_mul] <;> rw [h2] <;> omega
  · omega
theorem tnW_rg {sv : Nat → Int32} (h : InvP sv) {n : Nat} (hn : n < nP sv) {w : Int32} (hw : rg w 0 40) : rg (tnW sv n w) 0 600 := by
  have hz := tn_nz h hn hw
  obtain ⟨h1, -, h3, -⟩ := h n hn
  unfold rg at h1 h3 hw ⊢
  have h2 : (2 : Int32).toInt = 2 := rfl
  have e : (2 * g6 sv n 2).toInt = 2 * (g6 sv n 2).toInt := by rw [ti_mul] <;> rw [h2] <;> omega
  have e2 : (2 * g6 sv n 2 + w).toInt = 2 * (g6 sv n 2).toInt + w.toInt := by rw [ti_add] <;> rw [e] <;> omega
  have b1 : 0 ≤ (g6 sv n 0).toInt * w.toInt := Int.mul_nonneg (by omega) (by omega)
  have b2 : (g6 sv n 0).toInt * w.toInt ≤ 600 * 40 := Int.mul_le_mul (by omega) (by omega) (by omega) (by omega)
  have e3 : (g6 sv n 0 * w).toInt = (g6 sv n 0).toInt * w.toInt := by rw [ti_mul] <;> omega
  have e4 : (g6 sv n 0 * w / (2 * g6 sv n 2 + w)).toInt = ((g6 sv n 0).toInt * w.toInt).tdiv (2 * (g6 sv n 2).toInt + w.toInt) := by rw [ti_div] <;> rw [e3] <;> (try rw [e2]) <;> omega
  have b3 : 0 ≤ ((g6 sv n 0).toInt * w.toInt).tdiv (2 * (g6 sv n 2).toInt + w.toInt) := Int.tdiv_nonneg b1 (by omega)
  have b4 : ((g6 sv n 0).toInt * w.toInt).tdiv (2 * (g6 sv n 2).toInt + w.toInt) ≤ (g6 sv n 0).toInt := by
    rw [Int.tdiv_eq_ediv_of_nonneg b1]
    apply Int.ediv_le_of_le_mul (by omega)
    apply Int.mul_le_mul_of_nonneg_left <;> omega
  unfold tnW
  rw [ti_sub] <;> rw [e4] <;> omega
theorem wax_rg {sv : Nat → Int32} (h : InvS sv) {n : Nat} (hn : n < 10) : rg (g6 sv n 5) 0 40 := by
  have := h.2 n hn
  unfold rg at this ⊢
  omega
theorem tnN_rg {sv : Nat → Int32} (hC : InvC sv) (hS : InvS sv) (h : InvP sv) {n : Nat} (hn : n < nP sv) : rg (tnN sv n) 0 600 := tnW_rg h hn (wax_rg hS (by have := (Inv.n0 hC).2; omega))
/-- the divisor of an own swing, and the swing's size -/
theorem own_div {sv : Nat → Int32} (hC : InvC sv) (hS : InvS sv) (h : InvP sv) {n : Nat} (hn : n < nP sv) {f : Int32} (hf : rg f 1 2400) : rg (lsN sv n + amt (f - tnN sv n)) 1 10000 := by
  have h1 := ls_rg h hn
  have h2 := tnN_rg hC hS h hn
  unfold rg at h1 h2 hf ⊢
  have e1 : (f - tnN sv n).toInt = f.toInt - (tnN sv n).toInt := by rw [ti_sub] <;> omega
  have h3 := amt_ge (x := f - tnN sv n) (by omega)
  rw [e1] at h3
  rw [ti_add] <;> omega
theorem own_rg {sv : Nat → Int32} (hC : InvC sv) (hS : InvS sv) (h : InvP sv) {n : Nat} (hn : n < nP sv) {f st : Int32} (hf : rg f 1 2400) (hst : rg st 1 99) : rg (ownS sv n f st) 0 9900 := by
  have hd := own_div hC hS h hn hf
  unfold rg at hd hst ⊢
  have h2 : (100 : Int32).toInt = 100 := rfl
  have e : (100 * st).toInt = 100 * st.toInt := by rw [ti_mul] <;> rw [h2] <;> omega
  have b1 : 0 ≤ 100 * st.toInt := by omega
  have e2 : (ownS sv n f st).toInt = (100 * st.toInt).tdiv (lsN sv n + amt (f - tnN sv n)).toInt := by
    unfold ownS
    rw [ti_div] <;> rw [e]
    omega
  rw [e2]
  refine ⟨Int.tdiv_nonneg b1 (by omega), ?_⟩
  rw [Int.tdiv_eq_ediv_of_nonneg b1]
  have := Int.ediv_le_self (a := 100 * st.toInt) (lsN sv n + amt (f - tnN sv n)).toInt b1
  omega
theorem hld_rg {v : Int32} : rg (hld v 0 99) 0 99 := by
  unfold rg hld
  have h0 : (0 : Int32).toInt = 0 := rfl
  have h9 : (99 : Int32).toInt = 99 := rfl
  split
  · omega
  · rename_i q
    rw [Int32.lt_iff_toInt_lt] at q
    split
    · omega
    · rename_i q2
      rw [Int32.lt_iff_toInt_lt] at q2
      omega
theorem sw_rg {sv : Nat → Int32} (hC : InvC sv) (hS : InvS sv) (h : InvP sv) {f st : Int32} (hf : rg f 1 2400) (hst : rg st 1 99) : ∀ n : Nat, n < nP sv → rg (sw sv n f st) 0 (9900 * ((n : Int) + 1)) := by
  have hP := (Inv.n0 hC).2
  intro n
  induction n using Nat.strongRecOn with
  | ind n ih =>
    intro hn
    have ho := own_rg hC hS h hn hf hst
    by_cases h0 : g6 sv n 3 < 0
    · rw [sw_root h0]
      unfold rg at ho ⊢
      omega
    · obtain ⟨j, hj, e⟩ := joined_nat h hn h0
      rw [sw_join hC h hn hj e]
      have hs := ih j hj (by omega)
      have hh := hld_rg (v := g6 sv n 4 + sv 7)
      generalize hld (g6 sv n 4 + sv 7) 0 99 = x at hh
      generalize sw sv j f st = y at hs
      generalize ownS sv n f st = z at ho
      unfold rg at ho hs hh ⊢
      have b1 : 0 ≤ x.toInt * y.toInt := Int.mul_nonneg (by omega) (by omega)
      have b2 : x.toInt * y.toInt ≤ 99 * y.toInt := Int.mul_le_mul_of_nonneg_right (by omega) (by omega)
      have e1 : (x * y).toInt = x.toInt * y.toInt := by rw [ti_mul] <;> omega
      have h100 : (100 : Int32).toInt = 100 := rfl
      have e2 : (x * y / 100).toInt = (x.toInt * y.toInt).tdiv 100 := by rw [ti_div] <;> rw [e1] <;> (try rw [h100]) <;> omega
      have b3 : 0 ≤ (x.toInt * y.toInt).tdiv 100 := Int.tdiv_nonneg b1 (by omega)
      have b4 : (x.toInt * y.toInt).tdiv 100 ≤ y.toInt := by
        rw [Int.tdiv_eq_ediv_of_nonneg b1]
        omega
      rw [ti_add] <;> rw [e2] <;> omega
