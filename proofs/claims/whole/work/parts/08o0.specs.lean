/-! the class: an ask that is kept -/
theorem Inv_pbid {r : Nat → Int32} : ∀ j, pb r (fun k => winA r k) j = r j := by
  intro j
  unfold pb pbB winA
  by_cases h1 : 3 ≤ j ∧ j < 8
  · rw [if_pos h1]
    show (if j - 3 < 5 then r (3 + (j - 3)) else r (8 + 6 * (j - 3 - 5) + 5)) = r j
    rw [if_pos (by omega)]; congr 1; omega
  · rw [if_neg h1]
    by_cases h2 : 13 ≤ j ∧ (j - 13) % 6 = 0 ∧ (j - 13) / 6 < 10
    · rw [if_pos h2]
      show (if 5 + (j - 13) / 6 < 5 then r (3 + (5 + (j - 13) / 6)) else r (8 + 6 * (5 + (j - 13) / 6 - 5) + 5)) = r j
      rw [if_neg (by omega)]; congr 1; omega
    · rw [if_neg h2]
/-- the row behind an ask that is kept -/
def akS (r : Nat → Int32) (f st : Int32) (h : Bool) : Nat → Int32 := upd (ntA (askX r f st h) (winA (askX r f st h)) (103 + 18 * nA r + 3) 15) 2 (r 2 + 1)
theorem akS_lo {r : Nat → Int32} {f st : Int32} {h : Bool} {j : Nat} (hj : j ≠ 2) (hj2 : j < 103 + 18 * nA r ∨ 103 + 18 * nA r + 18 ≤ j) : akS r f st h j = r j := by
  unfold akS
  rw [upd_ne _ _ hj]
  unfold ntA
  rw [if_neg (by omega)]
  unfold askX
  rw [upd_ne _ _ (by omega), upd_ne _ _ (by omega), upd_ne _ _ (by omega)]
theorem akS_0 {r : Nat → Int32} {f st : Int32} {h : Bool} : akS r f st h (103 + 18 * nA r) = f := by
  unfold akS
  rw [upd_ne _ _ (by omega)]
  unfold ntA
  rw [if_neg (by omega)]
  unfold askX
  rw [upd_ne _ _ (by omega), upd_ne _ _ (by omega), upd_self]
theorem akS_1 {r : Nat → Int32} {f st : Int32} {h : Bool} : akS r f st h (103 + 18 * nA r + 1) = st := by
  unfold akS
  rw [upd_ne _ _ (by omega)]
  unfold ntA
  rw [if_neg (by omega)]
  unfold askX
  rw [upd_ne _ _ (by omega), upd_self]
theorem akS_2 {r : Nat → Int32} {f st : Int32} {h : Bool} : akS r f st h (103 + 18 * nA r + 2) = bI h := by
  unfold akS
  rw [upd_ne _ _ (by omega)]
  unfold ntA
  rw [if_neg (by omega)]
  unfold askX
  rw [upd_self]
theorem akS_w {r : Nat → Int32} {f st : Int32} {h : Bool} {q : Nat} (hq : q < 15) : askW (akS r f st h) (nA r) q = winA r q := by
  unfold askW akS
  rw [upd_ne _ _ (by omega)]
  unfold ntA
  rw [if_pos (by omega), show 103 + 18 * nA r + 3 + q - (103 + 18 * nA r + 3) = q by omega]
  unfold winA askX
  split
  · rw [upd_ne _ _ (by omega), upd_ne _ _ (by omega), upd_ne _ _ (by omega)]
  · rw [upd_ne _ _ (by omega), upd_ne _ _ (by omega), upd_ne _ _ (by omega)]
theorem bz_lo {p q : Nat → Int32} (hI : Inv p) (hI2 : Inv q) (h : ∀ j, j < 103 → j ≠ 2 → p j = q j) {n : Nat} (hn : n < nT p) {f st : Int32} : bzA p n f st = bzA q n f st := by
  have hT7 := (Inv.n1 hI.1).2
  have lo : ∀ j, j < 68 → j ≠ 2 → p j = q j := fun j hj h2 => h j (by omega) h2
  have g : ∀ k, k < 5 → g5 p n k = g5 q n k := fun k hk => h _ (by omega) (by omega)
  unfold bzA stO
  rw [stW_lo hI lo hn (g 0 (by decide)) (g 1 (by decide)) (g 3 (by decide)), swT_lo hI hI2 lo hn (g 0 (by decide)) (g 1 (by decide)) (g 3 (by decide)), g 2 (by decide), h 4 (by decide) (by decide)]
theorem hrA_lo {p q : Nat → Int32} (hI : Inv p) (hI2 : Inv q) (h : ∀ j, j < 103 → j ≠ 2 → p j = q j) {f st : Int32} : hrA p f st = hrA q f st := by
  have hnT : nT p = nT q := by unfold nT; rw [h 1 (by decide) (by decide)]
  have key : ∀ n, n ≤ nT p → hrN p f st n = hrN q f st n := by
    intro n
    induction n with
    | zero => intro _; rfl
    | succ n ih => intro hn; rw [hrN, hrN, ih (by omega), bz_lo hI hI2 h (by omega)]
  unfold hrA
  rw [key _ (Nat.le_refl _), hnT]
theorem win_Z {r : Nat → Int32} (hS : InvS r) : InvZ (nP r) (winA r) := by
  have e : ∀ k, k < 5 → winA r k = r (3 + k) := fun k hk => by unfold winA; rw [if_pos hk]
  obtain ⟨h0, h1, h2, h3, h4⟩ := hS.1
  exact ⟨by rw [e 0 (by decide)]; exact h0, by rw [e 1 (by decide)]; exact h1, by rw [e 2 (by decide)]; exact h2, by rw [e 3 (by decide)]; exact h3, by rw [e 4 (by decide)]; exact h4⟩
theorem win_5 {r : Nat → Int32} {n : Nat} : winA r (5 + n) = g6 r n 5 := by
  unfold winA g6
  rw [if_neg (by omega), show 5 + n - 5 = n by omega]
theorem akS_c {r : Nat → Int32} (hI : Inv r) {f st : Int32} {h : Bool} : nP (akS r f st h) = nP r ∧ nT (akS r f st h) = nT r := by
  unfold nP nT
  rw [akS_lo (by decide) (by omega), akS_lo (by decide) (by omega)]
  exact ⟨rfl, rfl⟩
theorem akS_n {r : Nat → Int32} (hI : Inv r) (hA : nA r < 24) {f st : Int32} {h : Bool} : akS r f st h 2 = nI (nA r + 1) ∧ nA (akS r f st h) = nA r + 1 := by
  have e : akS r f st h 2 = nI (nA r + 1) := by
    unfold akS
    rw [upd_self, (Inv.n2 hI.1).1, nI_1]
  refine ⟨e, ?_⟩
  unfold nA
  rw [e, nI_toInt (by omega)]
  rfl
theorem Inv_akS {r : Nat → Int32} (hI : Inv r) (hA : nA r < 24) {f st : Int32} {h : Bool} (hf : rg f 1 1200) (hs : rg st 1 99) : Inv (akS r f st h) := by
  obtain ⟨n1, n2⟩ := akS_c hI (f := f) (st := st) (h := h)
  obtain ⟨n3, n4⟩ := akS_n hI hA (f := f) (st := st) (h := h)
  obtain ⟨hC, hS, hP, hT, hK⟩ := hI
  have hP10 := (Inv.n0 hC).2
  have hT7 := (Inv.n1 hC).2
  have lo : ∀ j, j < 103 → j ≠ 2 → akS r f st h j = r j := fun j hj h2 => akS_lo h2 (by omega)
  have g : ∀ m k, m < 10 → k < 6 → g6 (akS r f st h) m k = g6 r m k := fun m k hm hk => lo _ (by omega) (by omega)
  have g' : ∀ m k, m < 7 → k < 5 → g5 (akS r f st h) m k = g5 r m k := fun m k hm hk => lo _ (by omega) (by omega)
  refine ⟨⟨by rw [lo 0 (by decide) (by decide)]; exact hC.1, by rw [lo 1 (by decide) (by decide)]; exact hC.2.1, by rw [n3]; exact rgN (by omega) (by omega) (by omega)⟩, ⟨?_, fun n hn => by rw [g n 5 hn (by decide)]; exact hS.2 n hn⟩, fun n hn => ?_, fun n hn => ?_, fun i hi => ?_⟩
  · rw [n1]
    have e : (fun k => akS r f st h (3 + k)) 0 = r 3 ∧ (fun k => akS r f st h (3 + k)) 1 = r 4 ∧ (fun k => akS r f st h (3 + k)) 2 = r 5 ∧ (fun k => akS r f st h (3 + k)) 3 = r 6 ∧ (fun k => akS r f st h (3 + k)) 4 = r 7 := ⟨lo 3 (by decide) (by decide), lo 4 (by decide) (by decide), lo 5 (by decide) (by decide), lo 6 (by decide) (by decide), lo 7 (by decide) (by decide)⟩
    unfold InvZ
    rw [e.1, e.2.1, e.2.2.1, e.2.2.2.1, e.2.2.2.2]
    exact hS.1
  · rw [n1] at hn
    rw [g n 0 (by omega) (by decide), g n 1 (by omega) (by decide), g n 2 (by omega) (by decide), g n 3 (by omega) (by decide), g n 4 (by omega) (by decide)]
    exact hP n hn
  · rw [n2] at hn
    rw [g' n 0 (by omega) (by decide), g' n 1 (by omega) (by decide), g' n 2 (by omega) (by decide), g' n 3 (by omega) (by decide), g' n 4 (by omega) (by decide), n1]
    exact hT n hn
  · rw [n4] at hi
    rw [n1]
    by_cases c : i = nA r
    · subst c
      rw [akS_0, akS_1, akS_2]
      refine ⟨hf, hs, by cases h; exact Or.inl rfl; exact Or.inr rfl, ?_, fun n hn => ?_⟩
      · have w := win_Z hS
        have e : ∀ k, k < 5 → (fun q => akS r f st h (103 + 18 * nA r + 3 + q)) k = winA r k := fun k hk => akS_w (f := f) (st := st) (h := h) (by omega)
        unfold InvZ at w ⊢
        rw [e 0 (by decide), e 1 (by decide), e 2 (by decide), e 3 (by decide), e 4 (by decide)]
        exact w
      · have e : akS r f st h (103 + 18 * nA r + 8 + n) = winA r (5 + n) := by
          have := akS_w (r := r) (f := f) (st := st) (h := h) (q := 5 + n) (by omega)
          unfold askW at this
          rw [← this]
          congr 1
          omega
        rw [e, win_5]
        exact hS.2 n hn
    · have e : ∀ q, q < 18 → akS r f st h (103 + 18 * i + q) = r (103 + 18 * i + q) := fun q hq => akS_lo (by omega) (by omega)
      have e0 := e 0 (by decide)
      rw [Nat.add_zero] at e0
      obtain ⟨a1, a2, a3, a4, a5⟩ := hK i (by omega)
      refine ⟨by rw [e0]; exact a1, by rw [e 1 (by decide)]; exact a2, by rw [e 2 (by decide)]; exact a3, ?_, fun n hn => ?_⟩
      · have ez : ∀ k, k < 5 → (fun q => akS r f st h (103 + 18 * i + 3 + q)) k = (fun q => r (103 + 18 * i + 3 + q)) k := fun k hk => by
          show akS r f st h (103 + 18 * i + 3 + k) = r (103 + 18 * i + 3 + k)
          rw [show 103 + 18 * i + 3 + k = 103 + 18 * i + (3 + k) by omega]
          exact e (3 + k) (by omega)
        unfold InvZ at a4 ⊢
        rw [ez 0 (by decide), ez 1 (by decide), ez 2 (by decide), ez 3 (by decide), ez 4 (by decide)]
        exact a4
      · rw [show 103 + 18 * i + 8 + n = 103 + 18 * i + (8 + n) by omega, e (8 + n) (by omega), show 103 + 18 * i + (8 + n) = 103 + 18 * i + 8 + n by omega]
        exact a5 n hn
theorem ak_pb {r : Nat → Int32} {f st : Int32} {h : Bool} (w : Nat → Int32) : ∀ j, j < 103 → j ≠ 2 → pb (akS r f st h) w j = pb r w j := fun j hj h2 => by
  unfold pb pbB
  split
  · rfl
  · split
    · rfl
    · exact akS_lo h2 (by omega)
theorem CG_ask {d : Nat → ClassId} {G : zG} {r : Nat → Int32} {pN tN aN : Int32} {wx x : Nat → Int32} {pp tp ap : Nat → Option Nat} (hg : CG d G r pN tN aN wx pp tp ap) (hA : nA r < 24) {f st : Int32} {h : Bool} (hf : rg f 1 1200) (hs : rg st 1 99) {q t w : Nat} (hq : G q = some (ceA f st (bI h) (hrA r f st) t)) (ht : G t = some (ceS (hdC (r 3)) (r 4) (r 5) (r 6) (r 7) w)) (hw : G w = some (ceI d 10 x)) (hx : ∀ n, n < nP r → x n = g6 r n 5) : CG d G (akS r f st h) pN tN (nI (nA r + 1)) wx pp tp (va_up ap (nA r) (some q)) := by
  obtain ⟨hI, h1, h2, h3, h4, h5, h6, h7⟩ := hg
  have hI2 := Inv_akS hI hA hf hs (h := h)
  obtain ⟨n1, n2⟩ := akS_c hI (f := f) (st := st) (h := h)
  obtain ⟨n3, n4⟩ := akS_n hI hA (f := f) (st := st) (h := h)
  have hP10 := (Inv.n0 hI.1).2
  have hT7 := (Inv.n1 hI.1).2
  have lo : ∀ j, j < 103 → j ≠ 2 → akS r f st h j = r j := fun j hj h2 => akS_lo h2 (by omega)
  have g : ∀ m k, m < 10 → k < 6 → g6 (akS r f st h) m k = g6 r m k := fun m k hm hk => lo _ (by omega) (by omega)
  have g' : ∀ m k, m < 7 → k < 5 → g5 (akS r f st h) m k = g5 r m k := fun m k hm hk => lo _ (by omega) (by omega)
  refine ⟨hI2, by rw [n1]; exact h1, by rw [n2]; exact h2, by rw [n4], fun n hn => ?_, fun n hn => ?_, fun i hi => ?_, fun n hn => ?_⟩
  · rw [n1] at hn
    rw [g n 0 (by omega) (by decide), g n 1 (by omega) (by decide), g n 2 (by omega) (by decide), g n 3 (by omega) (by decide), g n 4 (by omega) (by decide)]
    exact h4 n hn
  · rw [n2] at hn
    rw [g' n 0 (by omega) (by decide), g' n 1 (by omega) (by decide), g' n 2 (by omega) (by decide), g' n 3 (by omega) (by decide), g' n 4 (by omega) (by decide)]
    exact h5 n hn
  · have hIa := Inv_ask hI2 hi
    rw [n4] at hi
    by_cases c : i = nA r
    · subst c
      have hIw : Inv (pb r (askW (akS r f st h) (nA r))) := by
        refine Inv_pb hI ?_ fun n hn => ?_
        · have w := win_Z hI.2.1
          unfold InvZ at w ⊢
          rw [akS_w (by decide), akS_w (by decide), akS_w (by decide), akS_w (by decide), akS_w (by decide)]
          exact w
        · rw [akS_w (by omega), win_5]; exact hI.2.1.2 n hn
      have eb : bzV (akS r f st h) (nA r) = hrA r f st := by
        unfold bzV
        rw [akS_0, akS_1, hrA_lo hIa hIw (ak_pb _)]
        refine hrA_lo hIw hI fun j hj h2 => ?_
        refine Eq.trans ?_ (Inv_pbid (r := r) j)
        unfold pb pbB
        split
        · exact akS_w (by omega)
        · split
          · exact akS_w (by omega)
          · rfl
      have ed : hdA (akS r f st h) (nA r) = h := by
        unfold hdA
        rw [akS_2]
        cases h <;> rfl
      have ew : ∀ k, k < 5 → winA r k = r (3 + k) := fun k hk => by unfold winA; rw [if_pos hk]
      refine ⟨q, t, w, x, up_self, ?_, ?_, hw, fun n hn => ?_⟩
      · rw [akS_0, akS_1, ed, eb]; exact hq
      · rw [akS_w (by decide), akS_w (by decide), akS_w (by decide), akS_w (by decide), akS_w (by decide), ew 0 (by decide), ew 1 (by decide), ew 2 (by decide), ew 3 (by decide), ew 4 (by decide)]
        exact ht
      · rw [n1] at hn
        rw [akS_w (by omega), win_5]; exact hx n hn
    · have e : ∀ k, k < 18 → akS r f st h (103 + 18 * i + k) = r (103 + 18 * i + k) := fun k hk => akS_lo (by omega) (by omega)
      have e0 := e 0 (by decide)
      rw [Nat.add_zero] at e0
      have ew : ∀ k, k < 15 → askW (akS r f st h) i k = askW r i k := fun k hk => by
        unfold askW
        rw [show 103 + 18 * i + 3 + k = 103 + 18 * i + (3 + k) by omega]
        exact e (3 + k) (by omega)
      have hIr := Inv_ask hI (i := i) (by omega)
      have eb : bzV (akS r f st h) i = bzV r i := by
        unfold bzV
        rw [e0, e 1 (by decide)]
        refine hrA_lo hIa hIr fun j hj h2 => ?_
        rw [ak_pb _ j hj h2]
        unfold pb pbB
        split
        · exact ew _ (by omega)
        · split
          · exact ew _ (by omega)
          · rfl
      have ed : hdA (akS r f st h) i = hdA r i := by unfold hdA; rw [e 2 (by decide)]
      obtain ⟨q', t', w', x', a1, a2, a3, a4, a5⟩ := h6 i (by omega)
      refine ⟨q', t', w', x', by rw [up_ne c]; exact a1, by rw [e0, e 1 (by decide), ed, eb]; exact a2, ?_, a4, fun n hn => ?_⟩
      · rw [ew 0 (by decide), ew 1 (by decide), ew 2 (by decide), ew 3 (by decide), ew 4 (by decide)]; exact a3
      · rw [n1] at hn
        rw [ew _ (by omega)]; exact a5 n hn
  · rw [n1] at hn
    rw [g n 5 (by omega) (by decide)]; exact h7 n hn
