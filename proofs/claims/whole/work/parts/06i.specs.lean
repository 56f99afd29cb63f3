/-! the likeliest thing, the fewest tones, a changed gap, odds -/
theorem whS_nat {sv : Nat → Int32} {set : Int32} : ∀ n, n ≤ 7 → whS sv set n < 0 ∨ ∃ j, j < n ∧ whS sv set n = nI j := by
  intro n
  induction n with
  | zero => intro _; exact Or.inl (show (-4 : Int32) < 0 by decide)
  | succ n ih =>
    intro h
    unfold whS
    split
    · exact Or.inr ⟨n, by omega, rfl⟩
    · rcases ih (by omega) with h1 | ⟨j, hj, e⟩
      · exact Or.inl h1
      · exact Or.inr ⟨j, by omega, e⟩
theorem fldN_lt {f g : Int32 → Nat → Int32} {z : Int32} : ∀ n, (∀ b i, i < n → f b i = g b i) → fldN f z n = fldN g z n := by
  intro n
  induction n with
  | zero => intro _; simp only [fldN]
  | succ n ih =>
    intro h
    simp only [fldN]
    rw [ih fun b i hi => h b i (by omega), h _ n (by omega)]
theorem woN_congr {h1 h2 : Nat → Int32} {t : Nat} (h : ∀ j, j < t → h1 j = h2 j) : ∀ k set, woN h1 t k set = woN h2 t k set := by
  intro k
  induction k with
  | zero => intro set; rfl
  | succ k ih =>
    intro set
    have e : fldN (woS (woN h1 t k) h1 set) (-4) t = fldN (woS (woN h2 t k) h2 set) (-4) t := by
      refine fldN_lt t fun b i hi => ?_
      unfold woS
      rw [h i hi, ih, ih]
    simp only [woN, e]
theorem wo_congr {h1 h2 : Nat → Int32} {t : Nat} (h : ∀ j, j < t → h1 j = h2 j) (v : Nat) : wo h1 t v = wo h2 t v := woN_congr h _ _
theorem nI_or7 : ∀ v, v < 128 → ∀ w, w < 128 → nI v ||| nI w = nI (v ||| w) := by decide +kernel
theorem or_lt (a b : Nat) (ha : a < 128) (hb : b < 128) : a ||| b < 128 := Nat.or_lt_two_pow (n := 7) ha hb
theorem orN_lt {f : Nat → Int32} : ∀ n, (∀ i, i < n → ∃ v, v < 128 ∧ f i = nI v) → ∃ v, v < 128 ∧ orN f n = nI v := by
  intro n
  induction n with
  | zero => intro _; exact ⟨0, by decide, rfl⟩
  | succ n ih =>
    intro h
    obtain ⟨v, hv, ev⟩ := ih fun i hi => h i (by omega)
    obtain ⟨w, hw, ew⟩ := h n (by omega)
    refine ⟨v ||| w, or_lt v w hv hw, ?_⟩
    simp only [orN, ev, ew]
    exact nI_or7 v hv w hw
theorem ftA_nat {sv : Nat → Int32} (h : nT sv ≤ 7) : ∃ v, v < 128 ∧ ftA sv = nI v := by
  refine orN_lt _ fun i hi => ?_
  split
  · exact ⟨2 ^ i, Nat.pow_lt_pow_right (a := 2) (by decide) (show i < 7 by omega), shl_pow i (by omega)⟩
  · exact ⟨0, by decide, rfl⟩
theorem gapS_id {sv : Nat → Int32} {n : Nat} (h : rg (g5 sv n 2) 1 999) : gapS sv n (iN (g5 sv n 2)) = sv := by
  have e := (rg_iN h (by decide) (by decide)).1
  funext j
  unfold gapS upd
  by_cases q : j = 68 + 5 * n + 2
  · rw [if_pos q, q]
    exact e.symm
  · rw [if_neg q]
theorem gapS_s (sv : Nat → Int32) (n g h : Nat) : upd (gapS sv n g) (68 + 5 * n + 2) (nI h) = gapS sv n h := upd_upd _ _ _ _
theorem gapS_b (sv : Nat → Int32) (n g : Nat) : upd (gapS sv n g) (68 + 5 * n + 2) (g5 sv n 2) = sv := by
  rw [show gapS sv n g = upd sv (68 + 5 * n + 2) (nI g) from rfl, upd_upd]
  funext j
  unfold upd
  by_cases q : j = 68 + 5 * n + 2
  · rw [if_pos q, q]; rfl
  · rw [if_neg q]
theorem Inv_gap {sv : Nat → Int32} (h : Inv sv) {n g : Nat} (hn : n < nT sv) (h1 : 1 ≤ g) (h2 : g ≤ 999) : Inv (gapS sv n g) := by
  obtain ⟨hC, hS, hP, hT, hA⟩ := h
  have h7 := (Inv.n1 hC).2
  have ne : ∀ j, j ≠ 68 + 5 * n + 2 → gapS sv n g j = sv j := fun j q => upd_ne sv _ q
  have nP_ : nP (gapS sv n g) = nP sv := by unfold nP; rw [ne _ (by omega)]
  have nT_ : nT (gapS sv n g) = nT sv := by unfold nT; rw [ne _ (by omega)]
  have nA_ : nA (gapS sv n g) = nA sv := by unfold nA; rw [ne _ (by omega)]
  have g6_ : ∀ m k, m < 10 → k < 6 → g6 (gapS sv n g) m k = g6 sv m k := fun m k hm hk => ne _ (by omega)
  refine ⟨?_, ⟨?_, ?_⟩, ?_, ?_, ?_⟩
  · unfold InvC
    rw [ne _ (by omega), ne _ (by omega), ne _ (by omega)]
    exact hC
  · rw [nP_]
    have q : ∀ k, k < 5 → gapS sv n g (3 + k) = sv (3 + k) := fun k hk => ne _ (by omega)
    unfold InvZ
    simp only [q 0 (by decide), q 1 (by decide), q 2 (by decide), q 3 (by decide), q 4 (by decide)]
    exact hS.1
  · intro m hm
    rw [g6_ m 5 hm (by decide)]
    exact hS.2 m hm
  · intro m hm
    rw [nP_] at hm
    have := (Inv.n0 hC).2
    rw [g6_ m 0 (by omega) (by decide), g6_ m 1 (by omega) (by decide), g6_ m 2 (by omega) (by decide), g6_ m 3 (by omega) (by decide), g6_ m 4 (by omega) (by decide)]
    exact hP m hm
  · intro m hm
    rw [nT_] at hm
    rw [nP_]
    obtain ⟨a1, a2, a3, a4, a5⟩ := hT m hm
    have e0 : g5 (gapS sv n g) m 0 = g5 sv m 0 := ne _ (by omega)
    have e1 : g5 (gapS sv n g) m 1 = g5 sv m 1 := ne _ (by omega)
    have e3 : g5 (gapS sv n g) m 3 = g5 sv m 3 := ne _ (by omega)
    have e4 : g5 (gapS sv n g) m 4 = g5 sv m 4 := ne _ (by omega)
    rw [e0, e1, e3, e4]
    refine ⟨a1, a2, ?_, a4, a5⟩
    by_cases q : m = n
    · subst q
      rw [show g5 (gapS sv m g) m 2 = nI g from upd_self _ _ _]
      exact rgN (by omega) (by omega) (by omega)
    · rw [show g5 (gapS sv n g) m 2 = g5 sv m 2 from ne _ (by omega)]
      exact a3
  · intro i hi
    rw [nA_] at hi
    have := (Inv.n2 hC).2
    rw [nP_, ne _ (by omega), ne _ (by omega), ne _ (by omega)]
    obtain ⟨b1, b2, b3, b4, b5⟩ := hA i hi
    refine ⟨b1, b2, b3, ?_, fun m hm => by rw [ne _ (by omega)]; exact b5 m hm⟩
    rw [show (fun k => gapS sv n g (103 + 18 * i + 3 + k)) = fun k => sv (103 + 18 * i + 3 + k) from funext fun k => ne _ (by omega)]
    exact b4
theorem lnS_stop {sv : Nat → Int32} {n : Nat} {w : Int32} {i : Nat} (h : ¬ lnS sv n w i < 0) (hw : ¬ w = 1) : ∀ k, lnS sv n w (i + k) = lnS sv n w i := by
  intro k
  induction k with
  | zero => rfl
  | succ k ih =>
    show (if lnS sv n w (i + k) < 0 ∨ w = 1 then _ else lnS sv n w (i + k)) = _
    rw [ih, if_neg (not_or.mpr ⟨h, hw⟩)]
theorem ix_52 (n : Nat) : (68 : Int32) + 5 * nI n + 2 = nI (68 + 5 * n + 2) := ix5 n 2
theorem od_step (A : Int32) {f : Nat → Nat → Int32} {i k : Nat} {v : Int32} (h : f i (i + k) = v) : A + odI f i k + v = A + odI f i (k + 1) := by
  show _ = A + (odI f i k + f i (i + k))
  rw [h, Int32.add_assoc]
theorem od_skip (A : Int32) {f : Nat → Nat → Int32} {i k : Nat} (h : f i (i + k) = 0) : A + odI f i k = A + odI f i (k + 1) := by
  show _ = A + (odI f i k + f i (i + k))
  rw [h, Int32.add_zero]
theorem od_0 (A : Int32) (f : Nat → Nat → Int32) (i : Nat) : A = A + odI f i 0 := (Int32.add_zero A).symm
theorem bI_eq0 {b : Bool} (h : bI b = 0) : b = false := by cases b with | false => rfl | true => exact absurd h (by decide)
theorem bI_eq1 {b : Bool} (h : bI b = 1) : b = true := by cases b with | true => rfl | false => exact absurd h (by decide)
theorem bI_ne0 {b : Bool} (h : ¬ bI b = 0) : b = true := by cases b with | true => rfl | false => exact absurd rfl h
theorem bI_ne1 {b : Bool} (h : ¬ bI b = 1) : b = false := by cases b with | false => rfl | true => exact absurd rfl h
theorem g_nz {a b : Nat} (h : ¬ nI a = 0) (ha : a < 2147483648) : ¬ nI (Nat.gcd a b) = 0 := by
  intro q
  have h0 : a ≠ 0 := fun w => h (by rw [w]; rfl)
  have hg := Nat.gcd_pos_of_pos_left b (show 0 < a by omega)
  have hl := Nat.gcd_le_left b (show 0 < a by omega)
  have := (nI_eq (a := Nat.gcd a b) (b := 0) (by omega) (by decide)).mp q
  omega
