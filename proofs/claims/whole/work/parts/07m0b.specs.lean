/-! what is read doesn't depend on the numbers that stood there before -/
def PSe (s s2 : PS) : Prop := s.1 = s2.1 ∧ s.2.2 = s2.2.2 ∧ ∀ j, j < s.2.2 → s.2.1 j = s2.2.1 j
theorem upd_e {f g : Nat → Int32} {t : Nat} (h : ∀ j, j < t → f j = g j) (v : Int32) : ∀ j, j < t + 1 → upd f t v j = upd g t v j := by
  intro j hj
  by_cases c : j = t
  · subst c; rw [upd_self, upd_self]
  · rw [upd_ne _ _ c, upd_ne _ _ c]; exact h j (by omega)
theorem pSy_e {tx : Nat → Int32} (k : Nat) {s s2 : PS} (h : PSe s s2) : (pSy tx k s = none ∧ pSy tx k s2 = none) ∨ ∃ r r2, pSy tx k s = some r ∧ pSy tx k s2 = some r2 ∧ PSe r r2 := by
  obtain ⟨q, nu, t⟩ := s
  obtain ⟨q2, nu2, t2⟩ := s2
  obtain ⟨h1, h2, h3⟩ := h
  simp only at h1 h2 h3
  subst h1
  subst h2
  unfold pSy
  simp only
  split
  · split
    · exact Or.inr ⟨_, _, rfl, rfl, rfl, rfl, upd_e h3 _⟩
    · exact Or.inl ⟨rfl, rfl⟩
  · split
    · split
      · exact Or.inr ⟨_, _, rfl, rfl, rfl, rfl, upd_e h3 _⟩
      · exact Or.inl ⟨rfl, rfl⟩
    · split
      · exact Or.inr ⟨_, _, rfl, rfl, rfl, rfl, h3⟩
      · exact Or.inl ⟨rfl, rfl⟩
theorem pF_e {tx : Nat → Int32} : ∀ (ks : List Nat) {s s2 : PS}, PSe s s2 → (pF tx ks s).1 = (pF tx ks s2).1 ∧ PSe (pF tx ks s).2 (pF tx ks s2).2 := by
  intro ks
  induction ks with
  | nil => intro s s2 h; exact ⟨rfl, h⟩
  | cons k ks ih =>
    intro s s2 h
    unfold pF
    rcases pSy_e (tx := tx) k h with ⟨h1, h2⟩ | ⟨r, r2, h1, h2, h3⟩
    · rw [h1, h2]; exact ⟨rfl, h⟩
    · rw [h1, h2]; exact ih h3
def RDe (a b : Bool × PS × Bool) : Prop := a.1 = b.1 ∧ PSe a.2.1 b.2.1 ∧ a.2.2 = b.2.2
theorem pF_RDe {tx : Nat → Int32} (ks : List Nat) {s s2 : PS} (h : PSe s s2) (b : Bool) : RDe ((pF tx ks s).1, (pF tx ks s).2, b) ((pF tx ks s2).1, (pF tx ks s2).2, b) := ⟨(pF_e ks h).1, (pF_e ks h).2, rfl⟩
theorem rdS_e (tx : Nat → Int32) (q : Nat) (nu nu2 : Nat → Int32) : RDe (rdS tx q nu) (rdS tx q nu2) := by
  have h0 : PSe (q + 1, nu, 0) (q + 1, nu2, 0) := ⟨rfl, rfl, fun j hj => absurd hj (Nat.not_lt_zero _)⟩
  unfold rdS
  split
  · have h1 := pF_e (tx := tx) [110, 32, 110, 32, 110] h0
    generalize pF tx [110, 32, 110, 32, 110] (q + 1, nu, 0) = x at h1
    generalize pF tx [110, 32, 110, 32, 110] (q + 1, nu2, 0) = y at h1
    obtain ⟨x1, x2⟩ := x
    obtain ⟨y1, y2⟩ := y
    obtain ⟨h2, h3⟩ := h1
    simp only at h2 h3
    subst h2
    cases x1 with
    | false => exact ⟨rfl, h3, rfl⟩
    | true =>
      simp only
      rcases pSy_e (tx := tx) 106 h3 with ⟨h1, h2⟩ | ⟨r, r2, h1, h2, h3⟩
      · rw [h1, h2]; exact pF_RDe _ h3 _
      · rw [h1, h2]; exact pF_RDe _ h3 _
  · split
    · exact pF_RDe _ h0 _
    · split
      · exact pF_RDe _ h0 _
      · split
        · exact pF_RDe _ h0 _
        · exact ⟨rfl, ⟨rfl, rfl, fun j hj => absurd hj (Nat.not_lt_zero _)⟩, rfl⟩
/-- all statements from q on read -/
def okP (tx : Nat → Int32) (z : Nat) : Nat → Nat → Prop
  | 0, _ => True
  | r + 1, q => (∀ nu, (rdS tx q nu).1 = true) ∧ ∀ nu, (rdS tx q nu).2.1.1 < z → okP tx z r (rdS tx q nu).2.1.1
theorem ph1_okP {tx : Nat → Int32} {z : Nat} : ∀ r q nu k, (ph1 tx z r q nu k).1 = true → okP tx z r q := by
  intro r
  induction r with
  | zero => intro q nu k _; exact trivial
  | succ r ih =>
    intro q nu k h
    unfold ph1 at h
    by_cases c : (rdS tx q nu).1 = true
    · rw [if_pos c] at h
      refine ⟨fun nu2 => (rdS_e tx q nu2 nu).1.trans c, fun nu2 hz => ?_⟩
      have he := (rdS_e tx q nu2 nu).2.1.1
      rw [he] at hz ⊢
      rw [if_pos hz] at h
      exact ih _ _ _ h
    · rw [if_neg c] at h
      exact absurd h (by simp)
theorem okP_1 {tx : Nat → Int32} {z r q : Nat} (hr : 0 < r) (h : okP tx z r q) (nu : Nat → Int32) : (rdS tx q nu).1 = true ∧ ((rdS tx q nu).2.1.1 < z → okP tx z (r - 1) (rdS tx q nu).2.1.1) := by
  cases r with
  | zero => omega
  | succ r => exact ⟨h.1 nu, h.2 nu⟩
theorem in_b1 {tx sv nu : Nat → Int32} {z q : Nat} {x : Nat × (Nat → Int32)} (h : ph1 tx z 101 0 nu 0 = (false, q, x)) : inA tx z sv nu = -1000 - nI q ∧ inS tx z sv nu = sv := by
  unfold inA inS
  rw [h]
  exact ⟨rfl, rfl⟩
theorem in_b2 {tx sv nu g : Nat → Int32} {z q : Nat} {x : Nat × Nat × (Nat → Int32)} (h : ph1 tx z 101 0 nu 0 = (true, x)) (h2 : ph2 tx z 101 0 (ph1 tx z 101 0 nu 0).2.2.2 sv = (false, q, g)) : inA tx z sv nu = -2000 - nI q ∧ inS tx z sv nu = sv := by
  have h1 : (ph1 tx z 101 0 nu 0).1 = true := by rw [h]
  have h3 : ¬ (ph2 tx z 101 0 (ph1 tx z 101 0 nu 0).2.2.2 sv).1 = true := by rw [h2]; exact Bool.false_ne_true
  unfold inA inS
  rw [if_pos h1, if_neg h3, if_neg (fun c => h3 c.2), h2]
  exact ⟨rfl, rfl⟩
theorem in_ok {tx sv nu g x : Nat → Int32} {z q k q2 : Nat} (h : ph1 tx z 101 0 nu 0 = (true, q, k, x)) (h2 : ph2 tx z 101 0 (ph1 tx z 101 0 nu 0).2.2.2 sv = (true, q2, g)) : inA tx z sv nu = nI k ∧ inS tx z sv nu = g := by
  have h1 : (ph1 tx z 101 0 nu 0).1 = true := by rw [h]
  have h3 : (ph2 tx z 101 0 (ph1 tx z 101 0 nu 0).2.2.2 sv).1 = true := by rw [h2]
  have h4 : (ph1 tx z 101 0 nu 0).2.2.1 = k := by rw [h]
  unfold inA inS
  rw [if_pos h1, if_pos h3, if_pos ⟨h1, h3⟩, h2, h4]
  exact ⟨rfl, rfl⟩
theorem instR_0 {kp so sz el sv nu : Nat → Int32} {n : Nat} (h : wrR kp so (nI n) 0 = 0) (hN : iN (nI n) = n) : instR kp so sz el sv nu (nI n) = inA (hrT el n (iN (sz n))) (iN (sz n)) sv nu := by unfold instR; rw [if_pos h, hN]
theorem instS_0 {kp so sz el sv nu : Nat → Int32} {n : Nat} (h : wrR kp so (nI n) 0 = 0) (hN : iN (nI n) = n) : instS kp so sz el sv nu (nI n) = inS (hrT el n (iN (sz n))) (iN (sz n)) sv nu := by unfold instS; rw [if_pos h, hN]
