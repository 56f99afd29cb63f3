/-! the class: a row put into -/
theorem WW.set2 {E : zE} {ws : va_W} {G : zG} {H H1 : Heap} (h : WW E ws G H) {a b : Nat} {x x2 y y2 : va_E} (ha : G a = some x) (hb : G b = some y) (hab : a ≠ b) (h1 : va_at E.1 vwCl (a, x2) H1) (h2 : va_at E.1 vwCl (b, y2) H1) (oq : ∀ q : Nat, q < H.size → q ≠ a → q ≠ b → H1[q]? = H[q]?) : WW E ws (va_up (va_up G a (some x2)) b (some y2)) H1 := by
  refine ⟨fun k q hk => (h.1 k q hk).kept (oq _ (h.1 k q hk).lt (fun z => h.2.2.2 k q x hk (z ▸ ha)) (fun z => h.2.2.2 k q y hk (z ▸ hb))), h.2.1, fun q e hq => ?_, fun k q e hk => ?_⟩
  · by_cases c : q = b
    · subst c; rw [up_s] at hq; cases hq; exact h2
    · rw [up_n c] at hq
      by_cases c2 : q = a
      · subst c2; rw [up_s] at hq; cases hq; exact h1
      · rw [up_n c2] at hq
        exact (h.2.2.1 q e hq).kept (oq _ (h.2.2.1 q e hq).lt c2 c)
  · by_cases c : q.1 = b
    · exact absurd hb (by rw [← c]; exact h.2.2.2 k q y hk)
    · by_cases c2 : q.1 = a
      · exact absurd ha (by rw [← c2]; exact h.2.2.2 k q x hk)
      · rw [up_n c, up_n c2]; exact h.2.2.2 k q e hk
theorem pt_sh {d : Nat → ClassId} {G : zG} {qt qr : Nat → Option Nat} {kp so sz el pr ts : Nat → Int32} (h : ShG d G qt qr kp so sz el pr ts) (hD : RwD G qr) {n q w : Nat} {x : Nat → Int32} {i v : Int32} (hn : n < 8) (h1 : qr n = some q) (h2 : G q = some (ceW (so n) w)) (h3 : G w = some (ceI d (iN (sz n)) x)) (hx : ∀ i, i < iN (sz n) → x i = el (100 * n + i)) (hz : sz n = nI (iN (sz n)) ∧ iN (sz n) ≤ 100) (h0 : wrR kp so (nI n) (-1) = 0) : ShG d (va_up G w (some (ceI d (iN (sz n)) (if inL i 0 (nI (iN (sz n)) - 1) = true then upd x (iN i) (narV (so n) v) else x)))) qt qr kp so sz (putE kp so sz el (nI n) i v) pr ts := by
  have hN := iN_nI (n := n) (by omega)
  have e : sz n - 1 = nI (iN (sz n)) - 1 := congrArg (fun z => z - 1) hz.1
  refine ShG_put h hD hn h1 h2 h3 (fun k hk => ?_) fun k hk hkn j hj => ?_
  · unfold putE
    rw [hN, e]
    by_cases c : inL i 0 (nI (iN (sz n)) - 1) = true
    · obtain ⟨a, ha, rfl⟩ := rw_nat hz.2 c
      rw [if_pos c, if_pos ⟨h0, c⟩, iN_nI (by omega)]
      by_cases ck : k = a
      · subst ck; rw [upd_self, upd_self]
      · rw [upd_ne _ _ ck, upd_ne _ _ (by omega)]; exact hx k hk
    · rw [if_neg c, if_neg (fun q => c q.2)]; exact hx k hk
  · unfold putE
    rw [hN, e]
    by_cases c : inL i 0 (nI (iN (sz n)) - 1) = true
    · obtain ⟨a, ha, rfl⟩ := rw_nat hz.2 c
      rw [if_pos ⟨h0, c⟩, iN_nI (by omega)]
      have := hz.2
      exact upd_ne _ _ (by omega)
    · rw [if_neg (fun q => c q.2)]
theorem prR_r {kp so sz : Nat → Int32} {d f x y n : Int32} (h : ¬ prR kp so d f = 0) : prR kp so d f = copyR kp so sz d x f y n ∧ copyR kp so sz d x f y n < 0 := by
  unfold prR at h ⊢
  unfold copyR
  by_cases c : inL d 0 7 = true ∧ inL f 0 7 = true
  · rw [if_pos c] at h
    rw [if_pos c, if_pos c]
    by_cases c1 : kp (iN d) = 0 ∨ kp (iN f) = 0
    · rw [if_pos c1, if_pos c1]; exact ⟨rfl, by decide⟩
    · rw [if_neg c1] at h
      rw [if_neg c1, if_neg c1]
      by_cases c2 : ¬ kp (iN d) = 2 ∨ ¬ kp (iN f) = 2 ∨ ¬ so (iN d) = so (iN f)
      · rw [if_pos c2, if_pos c2]; exact ⟨rfl, by decide⟩
      · rw [if_neg c2] at h; exact absurd rfl h
  · rw [if_neg c, if_neg c]; exact ⟨rfl, by decide⟩
theorem cp_no {kp so sz el : Nat → Int32} {d f x y n : Int32} (h : ¬ prR kp so d f = 0) : copyE kp so sz el d x f y n = el := by
  unfold copyE
  rw [if_neg (Int32.not_le.mpr (prR_r h).2)]
theorem pr_0 {kp so : Nat → Int32} {d f : Int32} (h : prR kp so d f = 0) : wrR kp so d (-1) = 0 ∧ wrR kp so f (-1) = 0 ∧ so (iN d) = so (iN f) := by
  unfold prR at h
  by_cases c : inL d 0 7 = true ∧ inL f 0 7 = true
  · rw [if_pos c] at h
    by_cases c1 : kp (iN d) = 0 ∨ kp (iN f) = 0
    · rw [if_pos c1] at h; exact absurd h (by decide)
    · rw [if_neg c1] at h
      by_cases c2 : ¬ kp (iN d) = 2 ∨ ¬ kp (iN f) = 2 ∨ ¬ so (iN d) = so (iN f)
      · rw [if_pos c2] at h; exact absurd h (by decide)
      · have g1 : kp (iN d) = 2 := Decidable.of_not_not fun q => c2 (Or.inl q)
        have g2 : kp (iN f) = 2 := Decidable.of_not_not fun q => c2 (Or.inr (Or.inl q))
        have g3 : so (iN d) = so (iN f) := Decidable.of_not_not fun q => c2 (Or.inr (Or.inr q))
        exact ⟨wrR_z.mpr ⟨c.1, g1⟩, wrR_z.mpr ⟨c.2, g2⟩, g3⟩
  · rw [if_neg c] at h; exact absurd h (by decide)
theorem hf_eq {z z2 : Nat} (hz : z ≤ 100) (hz2 : z2 ≤ 100) (i j n : Int32) : ((hfB z i n && hfB z2 j n) = true) ↔ ¬ (n < 0 ∨ i < 0 ∨ j < 0 ∨ nI z - i < n ∨ nI z2 - j < n) := by
  have e0 : (0 : Int32).toInt = 0 := rfl
  have ez : (nI z).toInt = z := nI_toInt (by omega)
  have ez2 : (nI z2).toInt = z2 := nI_toInt (by omega)
  have bi := i.toInt_lt
  have bj := j.toInt_lt
  unfold hfB
  simp only [Bool.and_eq_true, decide_eq_true_eq, Int32.lt_iff_toInt_lt, e0, ez, ez2]
  by_cases hi : 0 ≤ i.toInt
  · by_cases hj : 0 ≤ j.toInt
    · rw [ti_sub (a := nI z) (b := i) (by omega) (by omega), ti_sub (a := nI z2) (b := j) (by omega) (by omega), ez, ez2]
      omega
    · constructor
      · rintro ⟨-, ⟨⟨h, -⟩, -⟩, -⟩; omega
      · intro h; exact absurd (Or.inr (Or.inr (Or.inl (by omega)))) h
  · constructor
    · rintro ⟨⟨⟨⟨h, -⟩, -⟩, -⟩, -⟩; omega
    · intro h; exact absurd (Or.inr (Or.inl (by omega))) h
theorem cp_ans {kp so sz : Nat → Int32} {a k : Nat} {i j n : Int32} (ha : a < 8) (hk : k < 8) (hza : sz a = nI (iN (sz a)) ∧ iN (sz a) ≤ 100) (hzk : sz k = nI (iN (sz k)) ∧ iN (sz k) ≤ 100) (hda : wrR kp so (nI a) (-1) = 0) (hfa : wrR kp so (nI k) (-1) = 0) (hso : so (iN (nI a)) = so (iN (nI k))) : copyR kp so sz (nI a) i (nI k) j n = if (hfB (iN (sz a)) i n && hfB (iN (sz k)) j n) = true then n else -13 := by
  have h1 := wrR_z.mp hda
  have h2 := wrR_z.mp hfa
  have e := hf_eq hza.2 hzk.2 i j n
  unfold copyR
  rw [if_pos ⟨h1.1, h2.1⟩, if_neg (by rw [h1.2, h2.2]; decide), if_neg (by rw [h1.2, h2.2]; rintro (q | q | q); exact q rfl; exact q rfl; exact q hso)]
  rw [iN_nI (by omega), iN_nI (by omega), show sz a - i = nI (iN (sz a)) - i from congrArg (fun z => z - i) hza.1, show sz k - j = nI (iN (sz k)) - j from congrArg (fun z => z - j) hzk.1]
  by_cases c : (hfB (iN (sz a)) i n && hfB (iN (sz k)) j n) = true
  · rw [if_pos c, if_neg (e.mp c)]
  · rw [if_neg c, if_pos (Decidable.of_not_not fun q => c (e.mpr q))]
theorem cp_sh {d : Nat → ClassId} {G : zG} {qt qr : Nat → Option Nat} {kp so sz el pr ts : Nat → Int32} (h : ShG d G qt qr kp so sz el pr ts) (hD : RwD G qr) {a k q w : Nat} {x1 x2 : Nat → Int32} {i j n : Int32} (ha : a < 8) (hk : k < 8) (h1 : qr k = some q) (h2 : G q = some (ceW (so k) w)) (h3 : G w = some (ceI d (iN (sz k)) x2)) (hx1 : ∀ i, i < iN (sz a) → x1 i = el (100 * a + i)) (hx2 : ∀ i, i < iN (sz k) → x2 i = el (100 * k + i)) (hza : sz a = nI (iN (sz a)) ∧ iN (sz a) ≤ 100) (hzk : sz k = nI (iN (sz k)) ∧ iN (sz k) ≤ 100) (hda : wrR kp so (nI a) (-1) = 0) (hfa : wrR kp so (nI k) (-1) = 0) (hso : so (iN (nI a)) = so (iN (nI k))) : ShG d (va_up G w (some (ceI d (iN (sz k)) (if (hfB (iN (sz a)) i n && hfB (iN (sz k)) j n) = true then va_cpy x1 x2 (iN i) (iN j) (iN n) else x2)))) qt qr kp so sz (copyE kp so sz el (nI a) i (nI k) j n) pr ts := by
  have hans := cp_ans (i := i) (j := j) (n := n) ha hk hza hzk hda hfa hso
  have hza2 := hza.2
  have hzk2 := hzk.2
  by_cases c : (hfB (iN (sz a)) i n && hfB (iN (sz k)) j n) = true
  · obtain ⟨c1, c2⟩ := and_t c
    obtain ⟨p, m, rfl, rfl, hpm⟩ := hf_nat hza.2 c1
    obtain ⟨t, m2, rfl, hm2, htm⟩ := hf_nat hzk.2 c2
    obtain rfl : m = m2 := (nI_eq (by omega) (by omega)).mp hm2
    rw [if_pos c] at hans
    have he : copyE kp so sz el (nI a) (nI p) (nI k) (nI t) (nI m) = mvA el (100 * a + p) (100 * k + t) m := by
      unfold copyE
      rw [hans, if_pos (Int32.not_lt.mp (nI_n0 (by omega))), iN_nI (show a < 2147483648 by omega), iN_nI (show p < 2147483648 by omega), iN_nI (show k < 2147483648 by omega), iN_nI (show t < 2147483648 by omega), iN_nI (show m < 2147483648 by omega)]
    rw [he, if_pos c, iN_nI (show p < 2147483648 by omega), iN_nI (show t < 2147483648 by omega), iN_nI (show m < 2147483648 by omega)]
    refine ShG_put h hD hk h1 h2 h3 (fun u hu => ?_) fun u hu huk v hv => ?_
    · unfold va_cpy mvA
      by_cases cu : t ≤ u ∧ u < t + m
      · rw [if_pos cu, if_pos (by omega), hx1 _ (by omega)]
        congr 1
        omega
      · rw [if_neg cu, if_neg (by omega), hx2 u hu]
    · unfold mvA
      rw [if_neg (by omega)]
  · rw [if_neg c] at hans
    have he : copyE kp so sz el (nI a) i (nI k) j n = el := by
      unfold copyE
      rw [hans, if_neg (by decide)]
    rw [he, if_neg c]
    exact ShG_put h hD hk h1 h2 h3 hx2 fun _ _ _ _ _ => rfl
