/-! a joined piece, a hung thing: the row behind it and what the class has of it -/
theorem rwA_hi (f nu : Nat → Int32) (b : Nat) {j : Nat} : ∀ i, b + i ≤ j → rwA f nu b i j = f j := by
  intro i
  induction i with
  | zero => intro _; rfl
  | succ i ih => intro h; unfold rwA; rw [upd_ne _ _ (by omega)]; exact ih (by omega)
theorem rwA_in (f nu : Nat → Int32) (b : Nat) {j : Nat} : ∀ i, j < i → rwA f nu b i (b + j) = nu j := by
  intro i
  induction i with
  | zero => intro h; omega
  | succ i ih =>
    intro h
    unfold rwA
    by_cases c : j = i
    · subst c; rw [upd_self]
    · rw [upd_ne _ _ (by omega)]; exact ih (by omega)
section CPX
variable {g nu : Nat → Int32} {ij : Bool} {b : Nat}
theorem cpX_e {j : Nat} (h0 : j ≠ 0) (h : j < b ∨ b + 6 ≤ j) : cpX g nu ij b j = g j := by
  unfold cpX
  rw [upd_ne _ _ h0, upd_ne _ _ (by omega), upd_ne _ _ (by omega), upd_ne _ _ (by omega)]
  rcases h with h | h
  · exact rwA_lo _ _ _ h _
  · exact rwA_hi _ _ _ _ (by omega)
theorem cpX_0 : cpX g nu ij b 0 = g 0 + 1 := by unfold cpX; rw [upd_self]
theorem cpX_k (hb : 0 < b) {k : Nat} (hk : k < 3) : cpX g nu ij b (b + k) = nu k := by
  unfold cpX
  rw [upd_ne _ _ (by omega), upd_ne _ _ (by omega), upd_ne _ _ (by omega), upd_ne _ _ (by omega)]
  exact rwA_in _ _ _ _ hk
theorem cpX_3 (hb : 0 < b) : cpX g nu ij b (b + 3) = (if ij = true then nu 3 else -4) := by
  unfold cpX
  rw [upd_ne _ _ (by omega), upd_ne _ _ (by omega), upd_ne _ _ (by omega), upd_self]
theorem cpX_4 (hb : 0 < b) : cpX g nu ij b (b + 4) = (if ij = true then nu 4 else 0) := by
  unfold cpX
  rw [upd_ne _ _ (by omega), upd_ne _ _ (by omega), upd_self]
theorem cpX_5 (hb : 0 < b) : cpX g nu ij b (b + 5) = 0 := by
  unfold cpX
  rw [upd_ne _ _ (by omega), upd_self]
theorem ctX_e {j : Nat} (h0 : j ≠ 1) (h : j < b ∨ b + 5 ≤ j) : ctX g nu b j = g j := by
  unfold ctX
  rw [upd_ne _ _ h0]
  rcases h with h | h
  · exact rwA_lo _ _ _ h _
  · exact rwA_hi _ _ _ _ (by omega)
theorem ctX_1 : ctX g nu b 1 = g 1 + 1 := by unfold ctX; rw [upd_self]
theorem ctX_k (hb : 1 < b) {k : Nat} (hk : k < 5) : ctX g nu b (b + k) = nu k := by
  unfold ctX
  rw [upd_ne _ _ (by omega)]
  exact rwA_in _ _ _ _ hk
theorem cpO_t (h : cpO g nu ij = true) : rg (nu 0) 10 600 ∧ rg (nu 1) 1 99 ∧ rg (nu 2) 1 99 ∧ g 0 < 10 ∧ g 2 = 0 ∧ (ij = true → nu 3 < g 0 ∧ nu 4 ≤ 99) := by
  unfold cpO at h
  simp only [Bool.and_eq_true, decide_eq_true_eq, Bool.or_eq_true, Bool.not_eq_true'] at h
  obtain ⟨⟨⟨⟨⟨h0, h1⟩, h2⟩, h3⟩, h4⟩, h5⟩ := h
  refine ⟨inL_rg h0, inL_rg h1, inL_rg h2, h3, h4, fun hij => ?_⟩
  rcases h5 with h5 | h5
  · rw [hij] at h5; exact absurd h5.symm Bool.false_ne_true
  · exact h5
theorem ctO_t (h : ctO g nu = true) : nu 0 < 8 ∧ nu 1 < g 0 ∧ 0 < nu 2 ∧ rg (nu 4) 1 99 ∧ g 1 < 7 ∧ g 2 = 0 := by
  unfold ctO at h
  simp only [Bool.and_eq_true, decide_eq_true_eq] at h
  obtain ⟨⟨⟨⟨⟨h0, h1⟩, h2⟩, h3⟩, h4⟩, h5⟩ := h
  exact ⟨h0, h1, h2, inL_rg h3, h4, h5⟩
theorem InvZ.mono {P P2 : Nat} {v : Nat → Int32} (h : InvZ P v) (hP : P ≤ P2) : InvZ P2 v := by
  obtain ⟨h1, h2⟩ := h
  exact ⟨h1.elim Or.inl (fun ⟨n, hn, e⟩ => Or.inr ⟨n, by omega, e⟩), h2⟩
theorem InvZ.congr {P : Nat} {v w : Nat → Int32} (h : InvZ P v) (e : ∀ k, k < 5 → w k = v k) : InvZ P w := by
  unfold InvZ at h ⊢
  rw [e 0 (by decide), e 1 (by decide), e 2 (by decide), e 3 (by decide), e 4 (by decide)]
  exact h
theorem nA_0 (h : g 2 = 0) : nA g = 0 := by unfold nA; rw [h]; rfl
theorem lt_nP {x : Int32} (hI : InvC g) (h0 : rg x 0 9) (h : x < g 0) : ∃ j, j < nP g ∧ x = nI j := by
  obtain ⟨e0, hP⟩ := Inv.n0 hI
  have hx : x = nI (iN x) := rg_nI h0 (by decide) (by decide)
  rw [hx, e0] at h
  have hj : iN x < 2147483648 := by have := h0.2; unfold iN; omega
  exact ⟨iN x, gtn (a := iN x) (b := nP g) rfl rfl hj (by omega) h, hx⟩
theorem nP_cp (hI : InvC g) (h : g 0 < 10) : nP (cpX g nu ij b) = nP g + 1 ∧ nP g < 10 := by
  obtain ⟨e0, hP⟩ := Inv.n0 hI
  have h10 : nP g < 10 := gtn (a := nP g) (b := 10) e0 rfl (by omega) (by omega) h
  refine ⟨?_, h10⟩
  show (cpX g nu ij b 0).toInt.toNat = _
  rw [cpX_0, e0, nI_1, nI_toInt (by omega)]
  omega
theorem Inv_cp (hI : Inv g) (hN : rg (nu 0) 0 999 ∧ rg (nu 1) 0 999 ∧ rg (nu 2) 0 999 ∧ (ij = true → rg (nu 3) 0 9 ∧ rg (nu 4) 0 999)) (ho : cpO g nu ij = true) : Inv (cpX g nu ij (8 + 6 * nP g)) := by
  obtain ⟨o0, o1, o2, o3, o4, o5⟩ := cpO_t ho
  obtain ⟨hnP, h10⟩ := nP_cp (nu := nu) (ij := ij) (b := 8 + 6 * nP g) hI.1 o3
  obtain ⟨hC, hS, hP, hT, hA⟩ := hI
  have hx : ∀ j, j ≠ 0 → (j < 8 + 6 * nP g ∨ 8 + 6 * nP g + 6 ≤ j) → cpX g nu ij (8 + 6 * nP g) j = g j := fun j a c => cpX_e a c
  have i99 : (99 : Int32).toInt = 99 := rfl
  refine ⟨?_, ⟨?_, fun n hn => ?_⟩, fun n hn => ?_, fun n hn => ?_, fun i hi => ?_⟩
  · have h1 := InvC_cm (g := g) (nu := nu) (ij := ij) (x := 112) hC (show cpO g nu ij = true from ho)
    unfold cmR cpRd at h1
    rw [if_pos rfl, if_pos ho] at h1
    exact h1
  · rw [hnP]
    exact (hS.1.mono (Nat.le_succ _)).congr fun k hk => hx _ (by omega) (Or.inl (by omega))
  · show rg (cpX g nu ij _ (8 + 6 * n + 5)) 0 20
    by_cases c : n = nP g
    · subst c; rw [cpX_5 (by omega)]; exact ⟨by decide, by decide⟩
    · rw [hx _ (by omega) (by omega)]; exact hS.2 n hn
  · rw [hnP] at hn
    by_cases c : n = nP g
    · subst c
      unfold g6
      rw [show 8 + 6 * nP g + 0 = 8 + 6 * nP g + 0 from rfl, cpX_k (by omega) (by decide), cpX_k (by omega) (by decide), cpX_k (by omega) (by decide), cpX_3 (by omega), cpX_4 (by omega)]
      refine ⟨o0, o1, o2, ?_, ?_⟩
      · cases ij with
        | false => exact Or.inl (if_neg Bool.false_ne_true)
        | true =>
          rw [if_pos rfl]
          exact Or.inr (lt_nP hC (hN.2.2.2 rfl).1 (o5 rfl).1)
      · cases ij with
        | false => rw [if_neg Bool.false_ne_true]; exact ⟨by decide, by decide⟩
        | true =>
          rw [if_pos rfl]
          have h4 := (hN.2.2.2 rfl).2
          have h5 := (o5 rfl).2
          rw [Int32.le_iff_toInt_le, i99] at h5
          exact ⟨h4.1, h5⟩
    · have e : ∀ k, k < 6 → g6 (cpX g nu ij (8 + 6 * nP g)) n k = g6 g n k := fun k hk => hx _ (by omega) (Or.inl (by omega))
      rw [e 0 (by decide), e 1 (by decide), e 2 (by decide), e 3 (by decide), e 4 (by decide)]
      exact hP n (by omega)
  · have hn' : n < nT g := by
      have : nT (cpX g nu ij (8 + 6 * nP g)) = nT g := by unfold nT; rw [hx 1 (by decide) (Or.inl (by omega))]
      omega
    have e : ∀ k, k < 5 → g5 (cpX g nu ij (8 + 6 * nP g)) n k = g5 g n k := fun k hk => hx _ (by omega) (Or.inr (by omega))
    obtain ⟨t0, ⟨j, hj, t1⟩, t2⟩ := hT n hn'
    rw [e 0 (by decide), e 1 (by decide), e 2 (by decide), e 3 (by decide), e 4 (by decide), hnP]
    exact ⟨t0, ⟨j, by omega, t1⟩, t2⟩
  · have : nA (cpX g nu ij (8 + 6 * nP g)) = 0 := nA_0 ((hx 2 (by decide) (Or.inl (by omega))).trans o4)
    omega
theorem CG_cp {d : Nat → ClassId} {G G2 : zG} {pN tN aN : Int32} {wx : Nat → Int32} {pp tp ap : Nat → Option Nat} {q : Nat} (h : CG d G g pN tN aN wx pp tp ap) (hN : rg (nu 0) 0 999 ∧ rg (nu 1) 0 999 ∧ rg (nu 2) 0 999 ∧ (ij = true → rg (nu 3) 0 9 ∧ rg (nu 4) 0 999)) (ho : cpO g nu ij = true) (hL : GLe G G2) (hq : G2 q = some (ceP (nu 0) (nu 1) (nu 2) (if ij = true then nu 3 else -1) (if ij = true then nu 4 else 0))) :
    CG d G2 (cpX g nu ij (8 + 6 * nP g)) (nI (nP g + 1)) tN aN (upd wx (nP g) 0) (va_up pp (nP g) (some q)) tp ap := by
  have hI2 := Inv_cp h.1 hN ho
  obtain ⟨o0, o1, o2, o3, o4, o5⟩ := cpO_t ho
  obtain ⟨hnP, h10⟩ := nP_cp (nu := nu) (ij := ij) (b := 8 + 6 * nP g) h.1.1 o3
  obtain ⟨hI, h1, h2, h3, hPc, hTh, hAk, hw⟩ := h
  have hx : ∀ j, j ≠ 0 → (j < 8 + 6 * nP g ∨ 8 + 6 * nP g + 6 ≤ j) → cpX g nu ij (8 + 6 * nP g) j = g j := fun j a c => cpX_e a c
  have hnT : nT (cpX g nu ij (8 + 6 * nP g)) = nT g := by unfold nT; rw [hx 1 (by decide) (Or.inl (by omega))]
  have hnA : nA (cpX g nu ij (8 + 6 * nP g)) = nA g := by unfold nA; rw [hx 2 (by decide) (Or.inl (by omega))]
  refine ⟨hI2, by rw [hnP], by rw [hnT]; exact h2, by rw [hnA]; exact h3, fun n hn => ?_, fun n hn => ?_, fun i hi => ?_, fun n hn => ?_⟩
  · by_cases c : n = nP g
    · subst c
      refine ⟨q, up_self, ?_⟩
      rw [hq]
      unfold g6
      rw [cpX_k (by omega) (by decide), cpX_k (by omega) (by decide), cpX_k (by omega) (by decide), cpX_3 (by omega), cpX_4 (by omega)]
      cases ij with
      | false => rfl
      | true =>
        have h3 := (hN.2.2.2 rfl).1
        have : hdC (nu 3) = nu 3 := by
          unfold hdC
          rw [if_neg]
          intro c
          rw [c] at h3
          exact absurd h3.1 (by decide)
        simp only [if_true]
        rw [this]
    · obtain ⟨p, p1, p2⟩ := hPc n (by omega)
      have e : ∀ k, k < 6 → g6 (cpX g nu ij (8 + 6 * nP g)) n k = g6 g n k := fun k hk => hx _ (by omega) (Or.inl (by omega))
      rw [e 0 (by decide), e 1 (by decide), e 2 (by decide), e 3 (by decide), e 4 (by decide)]
      exact ⟨p, by rw [up_ne c]; exact p1, hL _ _ p2⟩
  · obtain ⟨p, p1, p2⟩ := hTh n (by omega)
    have e : ∀ k, k < 5 → g5 (cpX g nu ij (8 + 6 * nP g)) n k = g5 g n k := fun k hk => hx _ (by omega) (Or.inr (by omega))
    rw [e 0 (by decide), e 1 (by decide), e 2 (by decide), e 3 (by decide), e 4 (by decide)]
    exact ⟨p, p1, hL _ _ p2⟩
  · have := nA_0 o4
    omega
  · rw [hnP] at hn
    by_cases c : n = nP g
    · subst c
      rw [upd_self]
      exact (cpX_5 (by omega)).symm
    · rw [upd_ne _ _ c, show g6 (cpX g nu ij (8 + 6 * nP g)) n 5 = g6 g n 5 from hx _ (by omega) (Or.inl (by omega))]
      exact hw n (by omega)
theorem nT_ct (hI : InvC g) (h : g 1 < 7) : nT (ctX g nu b) = nT g + 1 ∧ nT g < 7 ∧ g 1 = nI (nT g) := by
  have e1 : g 1 = nI (nT g) := rg_nI hI.2.1 (by decide) (by decide)
  have h7' : nT g ≤ 7 := by have := hI.2.1.2; unfold nT; omega
  have h7 : nT g < 7 := gtn (a := nT g) (b := 7) e1 rfl (by omega) (by omega) h
  refine ⟨?_, h7, e1⟩
  show (ctX g nu b 1).toInt.toNat = _
  rw [ctX_1, e1, nI_1, nI_toInt (by omega)]
  omega
theorem ct_rg {nu : Nat → Int32} {P : Nat} (hN : rg (nu 0) 0 9 ∧ rg (nu 1) 0 9 ∧ rg (nu 2) 0 999 ∧ rg (nu 3) 0 9 ∧ rg (nu 4) 0 999) (hI : InvC g) (ho : ctO g nu = true) (hP : P = nP g) : rg (nu 0) 0 7 ∧ (∃ j, j < P ∧ nu 1 = nI j) ∧ rg (nu 2) 1 999 ∧ rg (nu 3) 0 9 ∧ rg (nu 4) 1 99 := by
  obtain ⟨o0, o1, o2, o3, -, -⟩ := ctO_t ho
  obtain ⟨n0, n1, n2, n3, -⟩ := hN
  have i8 : (8 : Int32).toInt = 8 := rfl
  have i0 : (0 : Int32).toInt = 0 := rfl
  rw [Int32.lt_iff_toInt_lt, i8] at o0
  rw [Int32.lt_iff_toInt_lt, i0] at o2
  subst hP
  exact ⟨⟨n0.1, by omega⟩, lt_nP hI n1 o1, ⟨by omega, n2.2⟩, n3, o3⟩
theorem Inv_ct (hI : Inv g) (hN : rg (nu 0) 0 9 ∧ rg (nu 1) 0 9 ∧ rg (nu 2) 0 999 ∧ rg (nu 3) 0 9 ∧ rg (nu 4) 0 999) (ho : ctO g nu = true) : Inv (ctX g nu (68 + 5 * nT g)) := by
  obtain ⟨o0, o1, o2, o3, o4, o5⟩ := ctO_t ho
  obtain ⟨hnT, h7, e1⟩ := nT_ct (nu := nu) (b := 68 + 5 * nT g) hI.1 o4
  obtain ⟨hC, hS, hP, hT, hA⟩ := hI
  have hP10 := (Inv.n0 hC).2
  have hx : ∀ j, j ≠ 1 → (j < 68 + 5 * nT g ∨ 68 + 5 * nT g + 5 ≤ j) → ctX g nu (68 + 5 * nT g) j = g j := fun j a c => ctX_e a c
  have hnP : nP (ctX g nu (68 + 5 * nT g)) = nP g := by unfold nP; rw [hx 0 (by decide) (Or.inl (by omega))]
  refine ⟨?_, ⟨?_, fun n hn => ?_⟩, fun n hn => ?_, fun n hn => ?_, fun i hi => ?_⟩
  · have h1 := InvC_cm (g := g) (nu := nu) (ij := false) (x := 116) hC (show ctO g nu = true from ho)
    unfold cmR ctRd at h1
    rw [if_neg (by decide), if_pos rfl, if_pos ho] at h1
    exact h1
  · rw [hnP]
    exact hS.1.congr fun k hk => hx _ (by omega) (Or.inl (by omega))
  · rw [show g6 (ctX g nu (68 + 5 * nT g)) n 5 = g6 g n 5 from hx _ (by omega) (Or.inl (by omega))]; exact hS.2 n hn
  · have e : ∀ k, k < 6 → g6 (ctX g nu (68 + 5 * nT g)) n k = g6 g n k := fun k hk => hx _ (by omega) (Or.inl (by omega))
    rw [e 0 (by decide), e 1 (by decide), e 2 (by decide), e 3 (by decide), e 4 (by decide)]
    exact hP n (by omega)
  · rw [hnT] at hn
    by_cases c : n = nT g
    · subst c
      unfold g5
      rw [ctX_k (by omega) (by decide), ctX_k (by omega) (by decide), ctX_k (by omega) (by decide), ctX_k (by omega) (by decide), ctX_k (by omega) (by decide)]
      exact ct_rg hN hC ho hnP
    · have e : ∀ k, k < 5 → g5 (ctX g nu (68 + 5 * nT g)) n k = g5 g n k := fun k hk => hx _ (by omega) (Or.inl (by omega))
      rw [e 0 (by decide), e 1 (by decide), e 2 (by decide), e 3 (by decide), e 4 (by decide), hnP]
      exact hT n (by omega)
  · have : nA (ctX g nu (68 + 5 * nT g)) = 0 := nA_0 ((hx 2 (by decide) (Or.inl (by omega))).trans o5)
    omega
theorem CG_ct {d : Nat → ClassId} {G G2 : zG} {pN tN aN : Int32} {wx : Nat → Int32} {pp tp ap : Nat → Option Nat} {q : Nat} (h : CG d G g pN tN aN wx pp tp ap) (hN : rg (nu 0) 0 9 ∧ rg (nu 1) 0 9 ∧ rg (nu 2) 0 999 ∧ rg (nu 3) 0 9 ∧ rg (nu 4) 0 999) (ho : ctO g nu = true) (hL : GLe G G2) (hq : G2 q = some (ceT (nI (nT g)) (nu 0) (nu 1) (nu 2) (nu 3) (nu 4))) :
    CG d G2 (ctX g nu (68 + 5 * nT g)) pN (nI (nT g + 1)) aN wx pp (va_up tp (nT g) (some q)) ap := by
  have hI2 := Inv_ct h.1 hN ho
  obtain ⟨o0, o1, o2, o3, o4, o5⟩ := ctO_t ho
  obtain ⟨hnT, h7, e1⟩ := nT_ct (nu := nu) (b := 68 + 5 * nT g) h.1.1 o4
  obtain ⟨hI, h1, h2, h3, hPc, hTh, hAk, hw⟩ := h
  have hP10 := (Inv.n0 hI.1).2
  have hx : ∀ j, j ≠ 1 → (j < 68 + 5 * nT g ∨ 68 + 5 * nT g + 5 ≤ j) → ctX g nu (68 + 5 * nT g) j = g j := fun j a c => ctX_e a c
  have hnP : nP (ctX g nu (68 + 5 * nT g)) = nP g := by unfold nP; rw [hx 0 (by decide) (Or.inl (by omega))]
  have hnA : nA (ctX g nu (68 + 5 * nT g)) = nA g := by unfold nA; rw [hx 2 (by decide) (Or.inl (by omega))]
  refine ⟨hI2, by rw [hnP]; exact h1, by rw [hnT], by rw [hnA]; exact h3, fun n hn => ?_, fun n hn => ?_, fun i hi => ?_, fun n hn => ?_⟩
  · obtain ⟨p, p1, p2⟩ := hPc n (by omega)
    have e : ∀ k, k < 6 → g6 (ctX g nu (68 + 5 * nT g)) n k = g6 g n k := fun k hk => hx _ (by omega) (Or.inl (by omega))
    rw [e 0 (by decide), e 1 (by decide), e 2 (by decide), e 3 (by decide), e 4 (by decide)]
    exact ⟨p, p1, hL _ _ p2⟩
  · by_cases c : n = nT g
    · subst c
      refine ⟨q, up_self, ?_⟩
      rw [hq]
      unfold g5
      rw [ctX_k (by omega) (by decide), ctX_k (by omega) (by decide), ctX_k (by omega) (by decide), ctX_k (by omega) (by decide), ctX_k (by omega) (by decide)]
    · obtain ⟨p, p1, p2⟩ := hTh n (by omega)
      have e : ∀ k, k < 5 → g5 (ctX g nu (68 + 5 * nT g)) n k = g5 g n k := fun k hk => hx _ (by omega) (Or.inl (by omega))
      rw [e 0 (by decide), e 1 (by decide), e 2 (by decide), e 3 (by decide), e 4 (by decide)]
      exact ⟨p, by rw [up_ne c]; exact p1, hL _ _ p2⟩
  · have := nA_0 o5
    omega
  · rw [show g6 (ctX g nu (68 + 5 * nT g)) n 5 = g6 g n 5 from hx _ (by omega) (Or.inl (by omega))]
    exact hw n (by omega)
end CPX
/-! what is set by a statement -/
theorem isVl_c {x : Int32} (h0 : rg x 0 999) : isVl 0 x = decide (x ≤ 20) := by
  have i0 : (0 : Int32).toInt = 0 := rfl
  show inL x 0 20 = _
  unfold inL
  rw [decide_eq_true (by rw [Int32.le_iff_toInt_le, i0]; exact h0.1), Bool.true_and]
theorem lt_le_1 {x k k1 : Int32} (h : k.toInt = k1.toInt + 1) : (x < k) ↔ (x ≤ k1) := by
  rw [Int32.lt_iff_toInt_lt, Int32.le_iff_toInt_le, h]; omega
theorem isVl_c1 {x : Int32} (h0 : rg x 0 9) : isVl 1 x = decide (x < 2) := by
  have i0 : (0 : Int32).toInt = 0 := rfl
  show inL x 0 1 = _
  unfold inL
  rw [decide_eq_true (by rw [Int32.le_iff_toInt_le, i0]; exact h0.1), Bool.true_and]
  exact decide_eq_decide.mpr (lt_le_1 rfl).symm
theorem isVl_c2 {x : Int32} (h0 : rg x 0 9) : isVl 2 x = decide (x < 4) := by
  have i0 : (0 : Int32).toInt = 0 := rfl
  show inL x 0 3 = _
  unfold inL
  rw [decide_eq_true (by rw [Int32.le_iff_toInt_le, i0]; exact h0.1), Bool.true_and]
  exact decide_eq_decide.mpr (lt_le_1 rfl).symm
/-- the statement's row, in the class's words -/
theorem cm_p {g nu : Nat → Int32} {ij : Bool} (ho : cpO g nu ij = true) : cmR g nu ij 112 = cpX g nu ij (8 + 6 * nP g) := by
  unfold cmR cpRd; rw [if_pos rfl, if_pos ho]
theorem cm_t {g nu : Nat → Int32} {ij : Bool} (ho : ctO g nu = true) : cmR g nu ij 116 = ctX g nu (68 + 5 * nT g) := by
  unfold cmR ctRd; rw [if_neg (by decide), if_pos rfl, if_pos ho]
theorem cm_d {g nu : Nat → Int32} {ij : Bool} (h0 : rg (nu 0) 0 999) : cmO g nu ij 100 = isVl 0 (nu 0) ∧ (cmO g nu ij 100 = true → cmR g nu ij 100 = setS g 0 (nu 0)) := by
  have e : cmO g nu ij 100 = isVl 0 (nu 0) := (isVl_c h0).symm
  exact ⟨e, fun h => by rw [setS_t (e ▸ h)]; rfl⟩
theorem cm_w {g nu : Nat → Int32} {ij : Bool} (h0 : rg (nu 0) 0 9) : cmO g nu ij 119 = isVl 1 (nu 0) ∧ (cmO g nu ij 119 = true → cmR g nu ij 119 = setS g 1 (nu 0)) := by
  have e : cmO g nu ij 119 = isVl 1 (nu 0) := (isVl_c1 h0).symm
  exact ⟨e, fun h => by rw [setS_t (e ▸ h)]; rfl⟩
theorem cm_r {g nu : Nat → Int32} {ij : Bool} (h0 : rg (nu 0) 0 9) : cmO g nu ij 114 = isVl 2 (nu 0) ∧ (cmO g nu ij 114 = true → cmR g nu ij 114 = setS g 2 (nu 0)) := by
  have e : cmO g nu ij 114 = isVl 2 (nu 0) := (isVl_c2 h0).symm
  exact ⟨e, fun h => by rw [setS_t (e ▸ h)]; rfl⟩
theorem Inv_cm {g nu : Nat → Int32} {ij : Bool} {x : Int32} (hI : Inv g) (hN : NumOK x ij nu) (ho : cmO g nu ij x = true) : Inv (cmR g nu ij x) := by
  rcases hN with ⟨rfl, hN⟩ | ⟨rfl, hN⟩ | ⟨rfl, hN⟩ | ⟨rfl, hN⟩ | ⟨rfl, hN⟩
  · rw [cm_p (show cpO g nu ij = true from ho)]; exact Inv_cp hI hN ho
  · rw [cm_t (show ctO g nu = true from ho)]; exact Inv_ct hI hN ho
  · rw [(cm_d hN).2 ho]; exact Inv_setS hI _ _
  · rw [(cm_w hN).2 ho]; exact Inv_setS hI _ _
  · rw [(cm_r hN).2 ho]; exact Inv_setS hI _ _
