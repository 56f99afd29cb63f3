/-! the class: what a row's parts decide -/
theorem g6_lo {p q : Nat → Int32} (h : ∀ j, j < 68 → j ≠ 2 → p j = q j) {n k : Nat} (hn : n < 10) (hk : k < 6) : g6 p n k = g6 q n k := h _ (by omega) (by omega)
theorem nP_lo {p q : Nat → Int32} (h : ∀ j, j < 68 → j ≠ 2 → p j = q j) : nP p = nP q := by unfold nP; rw [h 0 (by decide) (by decide)]
theorem tn_lo {p q : Nat → Int32} (h : ∀ j, j < 68 → j ≠ 2 → p j = q j) {n : Nat} (hn : n < 10) : tnN p n = tnN q n := by
  unfold tnN tnW
  rw [g6_lo h hn (by decide), g6_lo h hn (by decide), g6_lo h hn (by decide)]
theorem ls_lo {p q : Nat → Int32} (h : ∀ j, j < 68 → j ≠ 2 → p j = q j) {n : Nat} (hn : n < 10) : lsN p n = lsN q n := by
  unfold lsN
  rw [h 3 (by decide) (by decide), g6_lo h hn (by decide)]
theorem sw_lo {p q : Nat → Int32} (hC : InvC p) (hP : InvP p) (hC2 : InvC q) (hP2 : InvP q) (h : ∀ j, j < 68 → j ≠ 2 → p j = q j) {f st : Int32} : ∀ n, n < nP p → sw p n f st = sw q n f st := by
  have hP10 := (Inv.n0 hC).2
  intro n
  induction n using Nat.strongRecOn with
  | ind n ih =>
    intro hn
    have hn2 : n < nP q := by rw [← nP_lo h]; exact hn
    have ho : ownS p n f st = ownS q n f st := by
      unfold ownS
      rw [ls_lo h (by omega), tn_lo h (by omega)]
    have h3 := g6_lo h (show n < 10 by omega) (show 3 < 6 by decide)
    by_cases c : g6 p n 3 < 0
    · rw [sw_root c, sw_root (by rw [← h3]; exact c), ho]
    · obtain ⟨j, hj, e⟩ := joined_nat hP hn c
      rw [sw_join hC hP hn hj e, sw_join hC2 hP2 hn2 hj (h3.symm.trans e), ho, ih j hj (by omega), g6_lo h (show n < 10 by omega) (show 4 < 6 by decide), h 7 (by decide) (by decide)]
theorem swSum_lo {p q : Nat → Int32} (hC : InvC p) (hP : InvP p) (hC2 : InvC q) (hP2 : InvP q) (h : ∀ j, j < 68 → j ≠ 2 → p j = q j) {f st : Int32} : ∀ n, n ≤ nP p → swSum p f st n = swSum q f st n := by
  intro n
  induction n with
  | zero => intro _; rfl
  | succ n ih => intro hn; rw [swSum, swSum, ih (by omega), sw_lo hC hP hC2 hP2 h n (by omega)]
/-- a thing's swings don't look at its gap -/
theorem swT_lo {p q : Nat → Int32} (hI : Inv p) (hI2 : Inv q) (h : ∀ j, j < 68 → j ≠ 2 → p j = q j) {n : Nat} (hn : n < nT p) (h0 : g5 p n 0 = g5 q n 0) (h1 : g5 p n 1 = g5 q n 1) (h3 : g5 p n 3 = g5 q n 3) {f st : Int32} : swT p n f st = swT q n f st := by
  have ho : onN p n = onN q n := by unfold onN; rw [h1]
  have hon := (on_nat hI.1 hI.2.2.2.1 hn).1
  have hs : ∀ f st, sw p (onN p n) f st = sw q (onN q n) f st := fun f st => by rw [← ho]; exact sw_lo hI.1 hI.2.2.1 hI2.1 hI2.2.2.1 h _ hon
  unfold swT
  rw [h0, h3, hs, hs, swSum_lo hI.1 hI.2.2.1 hI2.1 hI2.2.2.1 h _ (Nat.le_refl _), nP_lo h, h 5 (by decide) (by decide), h 6 (by decide) (by decide)]
theorem stW_lo {p q : Nat → Int32} (hI : Inv p) (h : ∀ j, j < 68 → j ≠ 2 → p j = q j) {n : Nat} (hn : n < nT p) (h0 : g5 p n 0 = g5 q n 0) (h1 : g5 p n 1 = g5 q n 1) (h3 : g5 p n 3 = g5 q n 3) {gap dry : Int32} : stW p n gap dry = stW q n gap dry := by
  have hP10 := (Inv.n0 hI.1).2
  have ho : onN p n = onN q n := by unfold onN; rw [h1]
  have hon := (on_nat hI.1 hI.2.2.2.1 hn).1
  have hl : lsN p (onN p n) = lsN q (onN q n) := by rw [← ho]; exact ls_lo h (by omega)
  unfold stW smW
  rw [h0, h3, hl]
/-! a row with a window put back -/
theorem qb_hi {r w : Nat → Int32} {j : Nat} (h : 68 ≤ j) : pb r w j = r j := by
  unfold pb pbB
  rw [if_neg (by omega), if_neg (by omega)]
theorem qb_g5 (r w : Nat → Int32) (n k : Nat) : g5 (pb r w) n k = g5 r n k := qb_hi (by omega)
theorem qb_g6 (r w : Nat → Int32) {n k : Nat} (hk : k < 5) : g6 (pb r w) n k = g6 r n k := by
  unfold g6 pb pbB
  rw [if_neg (by omega), if_neg (by omega)]
theorem qb_g65 (r w : Nat → Int32) {n : Nat} (hn : n < 10) : g6 (pb r w) n 5 = w (5 + n) := by
  unfold g6 pb pbB
  rw [if_neg (by omega), if_pos ⟨by omega, by omega, by omega⟩]
  congr 1
  omega
theorem qb_set (r w : Nat → Int32) {k : Nat} (hk : k < 5) : pb r w (3 + k) = w k := by
  unfold pb pbB
  rw [if_pos ⟨by omega, by omega⟩, show 3 + k - 3 = k by omega]
theorem qb_0 (r w : Nat → Int32) : pb r w 0 = r 0 ∧ pb r w 1 = r 1 ∧ pb r w 2 = r 2 := ⟨rfl, rfl, rfl⟩
theorem qb_nP (r w : Nat → Int32) : nP (pb r w) = nP r := rfl
theorem qb_nT (r w : Nat → Int32) : nT (pb r w) = nT r := rfl
theorem PcG_pb {G : zG} {r w : Nat → Int32} {pp : Nat → Option Nat} (h : PcG G r pp) : PcG G (pb r w) pp := fun n hn => by
  obtain ⟨q, h1, h2⟩ := h n hn
  refine ⟨q, h1, ?_⟩
  rw [h2, qb_g6 r w (by decide), qb_g6 r w (by decide), qb_g6 r w (by decide), qb_g6 r w (by decide), qb_g6 r w (by decide)]
theorem TC_pb {G : zG} {r w : Nat → Int32} {q n : Nat} (h : G q = some (ceT (nI n) (g5 r n 0) (g5 r n 1) (g5 r n 2) (g5 r n 3) (g5 r n 4))) : G q = some (ceT (nI n) (g5 (pb r w) n 0) (g5 (pb r w) n 1) (g5 (pb r w) n 2) (g5 (pb r w) n 3) (g5 (pb r w) n 4)) := by
  rw [h, qb_g5, qb_g5, qb_g5, qb_g5, qb_g5]
theorem StA_pb {E : zE} {H : Heap} {t w : Nat} {r a x : Nat → Int32} (hP10 : nP r ≤ 10) (h1 : va_at E.1 vwCl (t, ceS (hdC (a 0)) (a 1) (a 2) (a 3) (a 4) w) H) (h2 : va_at E.1 vwCl (w, ceI E.2.1 10 x) H) (h3 : ∀ n, n < nP r → x n = a (5 + n)) : StA E H t w (pb r a) x := by
  have e3 : pb r a 3 = a 0 := qb_set r a (k := 0) (by decide)
  have e4 : pb r a 4 = a 1 := qb_set r a (k := 1) (by decide)
  have e5 : pb r a 5 = a 2 := qb_set r a (k := 2) (by decide)
  have e6 : pb r a 6 = a 3 := qb_set r a (k := 3) (by decide)
  have e7 : pb r a 7 = a 4 := qb_set r a (k := 4) (by decide)
  refine ⟨?_, h2, fun n hn => ?_⟩
  · rw [e3, e4, e5, e6, e7]; exact h1
  · have hn' : n < nP r := hn
    rw [qb_g65 r a (by omega)]
    exact h3 n hn'
/-! length: each gap's answers at the asks -/
def lnP (r asw : Nat → Int32) (n : Nat) (g : Int32) (i : Nat) : Bool := decide (stW (pb r (askW r i)) n g (pb r (askW r i) 4) < asw i) == hdA r i
theorem gap_lo (r : Nat → Int32) (n g : Nat) {j : Nat} (h : j ≠ 68 + 5 * n + 2) : gapS r n g j = r j := upd_ne _ _ h
theorem hr_and {r : Nat → Int32} {f st : Int32} {n : Nat} (hT : nT r ≤ 7) (hn : n < nT r) : decide (¬ hrA r f st &&& (1 <<< (nI n &&& 31)) = 0) = bzA r n f st := by
  obtain ⟨u, h1, h2, h3⟩ := hrA_bits r f st hT
  have hp : 2 ^ nT r ≤ 2 ^ 7 := pow_lt hT
  rw [and_pow _ n (by omega), h2, nI_tb (by omega) (by omega), h3 n]
  have hp2 : 2 ^ n ≤ 2 ^ 7 := pow_lt (by omega)
  cases h : bzA r n f st with
  | false => simp
  | true =>
    simp only [hn, decide_true, Bool.true_and, if_true]
    rw [decide_eq_true]
    rw [nI_z (by omega)]
    have := Nat.two_pow_pos n
    omega
theorem ln_one {r asw : Nat → Int32} (hI : Inv r) {n g i : Nat} (hn : n < nT r) (hg1 : 1 ≤ g) (hg2 : g ≤ 999) (hi : i < nA r) (ha : asw i = swT (pb r (askW r i)) n (r (103 + 18 * i)) (r (103 + 18 * i + 1))) : (decide (¬ bzV (gapS r n g) i &&& (1 <<< (nI n &&& 31)) = 0) == hdA (gapS r n g) i) = lnP r asw n (nI g) i := by
  have hT7 := (Inv.n1 hI.1).2
  have hA24 := (Inv.n2 hI.1).2
  have hIg := Inv_gap hI hn hg1 hg2
  have hIa := Inv_ask hIg (i := i) (by unfold nA; rw [gap_lo r n g (by omega)]; exact hi)
  have hIb := Inv_ask hI hi
  have e1 : hdA (gapS r n g) i = hdA r i := by unfold hdA; rw [gap_lo r n g (by omega)]
  have ew : askW (gapS r n g) i = askW r i := by funext q; exact gap_lo r n g (by omega)
  have ef : gapS r n g (103 + 18 * i) = r (103 + 18 * i) := gap_lo r n g (by omega)
  have es : gapS r n g (103 + 18 * i + 1) = r (103 + 18 * i + 1) := gap_lo r n g (by omega)
  have hnT : nT (gapS r n g) = nT r := by unfold nT; rw [gap_lo r n g (by omega)]
  rw [ew] at hIa
  have lo : ∀ j, j < 68 → j ≠ 2 → pb (gapS r n g) (askW r i) j = pb r (askW r i) j := fun j hj _ => by
    unfold pb pbB
    split
    · rfl
    · split
      · rfl
      · exact gap_lo r n g (by omega)
  have hg : ∀ k, k ≠ 2 → k < 5 → g5 (pb (gapS r n g) (askW r i)) n k = g5 (pb r (askW r i)) n k := fun k hk hk5 => by
    rw [qb_g5, qb_g5]
    exact gap_lo r n g (by omega)
  have hg2' : g5 (pb (gapS r n g) (askW r i)) n 2 = nI g := by
    rw [qb_g5]
    exact upd_self _ _ _
  unfold lnP bzV
  rw [e1, ew, ef, es, hr_and (by show nT (gapS r n g) ≤ 7; omega) (by show n < nT (gapS r n g); omega)]
  unfold bzA stO
  rw [hg2', lo 4 (by decide) (by decide), stW_lo hIa lo (by show n < nT (gapS r n g); omega) (hg 0 (by decide) (by decide)) (hg 1 (by decide) (by decide)) (hg 3 (by decide) (by decide)), swT_lo hIa hIb lo (by show n < nT (gapS r n g); omega) (hg 0 (by decide) (by decide)) (hg 1 (by decide) (by decide)) (hg 3 (by decide) (by decide)), ← ha]
theorem ln_all {r asw : Nat → Int32} (hI : Inv r) {n g : Nat} (hn : n < nT r) (hg1 : 1 ≤ g) (hg2 : g ≤ 999) (ha : ∀ i, i < nA r → asw i = swT (pb r (askW r i)) n (r (103 + 18 * i)) (r (103 + 18 * i + 1))) : lnT r n g = allN (lnP r asw n (nI g)) (nA r) 0 := by
  unfold lnT fitS ftB
  have hnA : nA (gapS r n g) = nA r := by unfold nA; rw [gap_lo r n g (by omega)]
  rw [hnA]
  exact allN_congr _ _ fun i _ h2 => ln_one hI hn hg1 hg2 (by omega) (ha i (by omega))
/-- from below, from above -/
theorem ln_up {r : Nat → Int32} {n : Nat} : ∀ k, (∀ g, g < k → lnT r n (g + 1) = false) → lnS r n 0 k = -4 := by
  intro k
  induction k with
  | zero => intro _; rfl
  | succ k ih =>
    intro h
    rw [lnS, ih (fun g hg => h g (by omega)), if_pos (Or.inl (by decide)), h k (by omega)]
    rfl
theorem ln_dn {r : Nat → Int32} {n k : Nat} : ∀ d, (∀ g, k ≤ g → g < k + d → lnT r n (g + 1) = false) → lnS r n 1 (k + d) = lnS r n 1 k := by
  intro d
  induction d with
  | zero => intro _; rfl
  | succ d ih =>
    intro h
    show lnS r n 1 (k + d + 1) = _
    rw [lnS, if_pos (Or.inr rfl), h (k + d) (by omega) (by omega), if_neg (by decide)]
    exact ih fun g h1 h2 => h g h1 (by omega)
theorem ln_0hit {r : Nat → Int32} {n k : Nat} (hk : k < 999) (h : ∀ g, g < k → lnT r n (g + 1) = false) (h2 : lnT r n (k + 1) = true) : lnS r n 0 999 = nI (k + 1) := by
  have e : lnS r n 0 (k + 1) = nI (k + 1) := by
    rw [lnS, ln_up k h, if_pos (Or.inl (by decide)), h2, if_pos rfl]
  have := lnS_stop (sv := r) (n := n) (w := 0) (i := k + 1) (by rw [e]; exact nI_n0 (by omega)) (by decide) (998 - k)
  rw [show k + 1 + (998 - k) = 999 by omega] at this
  rw [this, e]
theorem ln_1hit {r : Nat → Int32} {n k : Nat} (hk : k < 999) (h : ∀ g, k < g → g < 999 → lnT r n (g + 1) = false) (h2 : lnT r n (k + 1) = true) : lnS r n 1 999 = nI (k + 1) := by
  have := ln_dn (r := r) (n := n) (k := k + 1) (998 - k) fun g h1 h3 => h g (by omega) (by omega)
  rw [show k + 1 + (998 - k) = 999 by omega] at this
  rw [this, lnS, if_pos (Or.inr rfl), h2, if_pos rfl]
theorem ln_1miss {r : Nat → Int32} {n : Nat} (h : ∀ g, g < 999 → lnT r n (g + 1) = false) : lnS r n 1 999 = -4 := by
  have := ln_dn (r := r) (n := n) (k := 0) 999 fun g _ h3 => h g (by omega)
  rw [Nat.zero_add] at this
  rw [this]
  rfl
