/-! an instrument's text: what is read doesn't hang on the numbers before -/
def CntOK (x : Int32) (ij : Bool) (t : Nat) : Prop :=
  (x = 112 ∧ 3 ≤ t ∧ (ij = true → 5 ≤ t)) ∨ (x = 116 ∧ 5 ≤ t) ∨ ((x = 100 ∨ x = 119 ∨ x = 114) ∧ 1 ≤ t)
theorem pF_cnt {tx : Nat → Int32} {ks : List Nat} {s : PS} (h : (pF tx ks s).1 = true) : (pF tx ks s).2.2.2 = s.2.2 + (mxK ks).length := by
  obtain ⟨q, nu, t⟩ := s
  have hp : pF tx ks (q, nu, t) = (true, (pF tx ks (q, nu, t)).2.1, (pF tx ks (q, nu, t)).2.2.1, (pF tx ks (q, nu, t)).2.2.2) := by rw [← h]
  exact (pF_num _ hp).1
theorem rdS_cnt {tx : Nat → Int32} {q : Nat} {nu : Nat → Int32} (h : (rdS tx q nu).1 = true) : CntOK (tx q) (rdS tx q nu).2.2 (rdS tx q nu).2.1.2.2 := by
  unfold rdS at h ⊢
  split
  · rename_i h1
    rw [if_pos h1] at h
    split
    · rename_i s hs
      rw [hs] at h
      exact absurd h Bool.false_ne_true
    · rename_i s hs
      obtain ⟨q3, nu3, t3⟩ := s
      obtain ⟨a1, -, -⟩ := pF_num _ hs
      rw [hs] at h
      dsimp only at h
      have ht : t3 = 3 := a1
      refine Or.inl ?_
      split
      · rename_i hn
        rw [hn] at h
        simp only at h ⊢
        have := pF_cnt h
        exact ⟨h1, by rw [this]; show 3 ≤ t3 + 0; omega, fun x => absurd x Bool.false_ne_true⟩
      · rename_i s2 hn
        rw [hn] at h
        simp only at h ⊢
        obtain ⟨q4, nu4, t4⟩ := s2
        obtain ⟨d1, d2⟩ := pSy_num hn
        have ht4 : t4 = 3 := by
          rcases d2 with ⟨-, e⟩ | ⟨m, e, -⟩
          · omega
          · exact absurd e (by simp [mxK])
        have := pF_cnt h
        exact ⟨h1, by rw [this]; show 3 ≤ t4 + 2; omega, fun _ => by rw [this]; show 5 ≤ t4 + 2; omega⟩
  · rename_i h1
    rw [if_neg h1] at h
    split
    · rename_i h2
      rw [if_pos h2] at h
      exact Or.inr (Or.inl ⟨h2, by show 5 ≤ (pF tx _ _).2.2.2; rw [pF_cnt h]; exact Nat.le_add_left 5 0⟩)
    · rename_i h2
      rw [if_neg h2] at h
      split
      · rename_i h3
        rw [if_pos h3] at h
        exact Or.inr (Or.inr ⟨Or.inl h3, by show 1 ≤ (pF tx _ _).2.2.2; rw [pF_cnt h]; exact Nat.le_add_left 1 0⟩)
      · rename_i h3
        rw [if_neg h3] at h
        split
        · rename_i h4
          rw [if_pos h4] at h
          exact Or.inr (Or.inr ⟨Or.inr h4, by show 1 ≤ (pF tx _ _).2.2.2; rw [pF_cnt h]; exact Nat.le_add_left 1 0⟩)
        · rename_i h4
          rw [if_neg h4] at h
          exact absurd h Bool.false_ne_true
theorem cpO_e {g nu nu2 : Nat → Int32} {ij : Bool} (h0 : nu 0 = nu2 0) (h1 : nu 1 = nu2 1) (h2 : nu 2 = nu2 2) (h3 : ij = true → nu 3 = nu2 3 ∧ nu 4 = nu2 4) : cpO g nu ij = cpO g nu2 ij := by
  unfold cpO
  rw [h0, h1, h2]
  cases ij with
  | false => simp only [Bool.not_false, Bool.true_or]
  | true => rw [(h3 rfl).1, (h3 rfl).2]
theorem cpX_e2 {g nu nu2 : Nat → Int32} {ij : Bool} (h0 : nu 0 = nu2 0) (h1 : nu 1 = nu2 1) (h2 : nu 2 = nu2 2) (h3 : ij = true → nu 3 = nu2 3 ∧ nu 4 = nu2 4) (b : Nat) : cpX g nu ij b = cpX g nu2 ij b := by
  have e : rwA g nu b 3 = rwA g nu2 b 3 := by
    show upd (upd (upd g (b + 0) (nu 0)) (b + 1) (nu 1)) (b + 2) (nu 2) = upd (upd (upd g (b + 0) (nu2 0)) (b + 1) (nu2 1)) (b + 2) (nu2 2)
    rw [h0, h1, h2]
  unfold cpX
  rw [e]
  cases ij with
  | false => simp only [Bool.false_eq_true, if_false]
  | true => rw [(h3 rfl).1, (h3 rfl).2]
theorem cm_e {g nu nu2 : Nat → Int32} {ij : Bool} {x : Int32} {t : Nat} (hc : CntOK x ij t) (h : ∀ j, j < t → nu j = nu2 j) : cmO g nu ij x = cmO g nu2 ij x ∧ cmR g nu ij x = cmR g nu2 ij x := by
  rcases hc with ⟨rfl, h3, h5⟩ | ⟨rfl, h5⟩ | ⟨hx, h1⟩
  · have a0 := h 0 (by omega)
    have a1 := h 1 (by omega)
    have a2 := h 2 (by omega)
    have a3 : ij = true → nu 3 = nu2 3 ∧ nu 4 = nu2 4 := fun e => ⟨h 3 (by have := h5 e; omega), h 4 (by have := h5 e; omega)⟩
    refine ⟨?_, ?_⟩
    · show cpO g nu ij = cpO g nu2 ij
      exact cpO_e a0 a1 a2 a3
    · show cpRd g nu ij = cpRd g nu2 ij
      unfold cpRd
      rw [cpO_e a0 a1 a2 a3, cpX_e2 a0 a1 a2 a3]
  · have a0 := h 0 (by omega)
    have a1 := h 1 (by omega)
    have a2 := h 2 (by omega)
    have a3 := h 3 (by omega)
    have a4 := h 4 (by omega)
    have eO : ctO g nu = ctO g nu2 := by unfold ctO; rw [a0, a1, a2, a4]
    have eX : ∀ b, rwA g nu b 5 = rwA g nu2 b 5 := fun b => by
      show upd (upd (upd (upd (upd g (b + 0) (nu 0)) (b + 1) (nu 1)) (b + 2) (nu 2)) (b + 3) (nu 3)) (b + 4) (nu 4) = upd (upd (upd (upd (upd g (b + 0) (nu2 0)) (b + 1) (nu2 1)) (b + 2) (nu2 2)) (b + 3) (nu2 3)) (b + 4) (nu2 4)
      rw [a0, a1, a2, a3, a4]
    refine ⟨eO, ?_⟩
    show ctRd g nu = ctRd g nu2
    unfold ctRd ctX
    rw [eO, eX]
  · have a0 := h 0 (by omega)
    unfold cmO cmR
    rcases hx with rfl | rfl | rfl
    · exact ⟨by show decide (nu 0 ≤ 20) = decide (nu2 0 ≤ 20); rw [a0], by show upd g 4 (nu 0) = upd g 4 (nu2 0); rw [a0]⟩
    · exact ⟨by show decide (nu 0 < 2) = decide (nu2 0 < 2); rw [a0], by show upd g 5 (nu 0) = upd g 5 (nu2 0); rw [a0]⟩
    · exact ⟨by show decide (nu 0 < 4) = decide (nu2 0 < 4); rw [a0], by show upd g 6 (nu 0) = upd g 6 (nu2 0); rw [a0]⟩
theorem rd_cm {tx g : Nat → Int32} {q : Nat} (nu nu2 : Nat → Int32) (h : (rdS tx q nu).1 = true) : cmO g (rdS tx q nu).2.1.2.1 (rdS tx q nu).2.2 (tx q) = cmO g (rdS tx q nu2).2.1.2.1 (rdS tx q nu2).2.2 (tx q) ∧ cmR g (rdS tx q nu).2.1.2.1 (rdS tx q nu).2.2 (tx q) = cmR g (rdS tx q nu2).2.1.2.1 (rdS tx q nu2).2.2 (tx q) := by
  obtain ⟨e1, ⟨e2, e3, e4⟩, e5⟩ := rdS_e tx q nu nu2
  rw [← e5]
  exact cm_e (rdS_cnt h) e4
theorem ph1_e {tx : Nat → Int32} {z : Nat} : ∀ (r q : Nat) (nu nu2 : Nat → Int32) (k : Nat), (ph1 tx z r q nu k).1 = (ph1 tx z r q nu2 k).1 ∧ (ph1 tx z r q nu k).2.1 = (ph1 tx z r q nu2 k).2.1 ∧ (ph1 tx z r q nu k).2.2.1 = (ph1 tx z r q nu2 k).2.2.1 := by
  intro r
  induction r with
  | zero => intro q nu nu2 k; exact ⟨rfl, rfl, rfl⟩
  | succ r ih =>
    intro q nu nu2 k
    obtain ⟨e1, ⟨e2, -, -⟩, -⟩ := rdS_e tx q nu nu2
    unfold ph1
    rw [e1, e2]
    by_cases c : (rdS tx q nu2).1 = true
    · rw [if_pos c, if_pos c]
      by_cases c2 : (rdS tx q nu2).2.1.1 < z
      · rw [if_pos c2, if_pos c2]; exact ih _ _ _ _
      · rw [if_neg c2, if_neg c2]; exact ⟨rfl, rfl, rfl⟩
    · rw [if_neg c, if_neg c]; exact ⟨rfl, rfl, rfl⟩
theorem ph2_e {tx : Nat → Int32} {z : Nat} : ∀ (r q : Nat) (nu nu2 g : Nat → Int32), (q < z → okP tx z r q) → ph2 tx z r q nu g = ph2 tx z r q nu2 g ∨ ((ph2 tx z r q nu g).1 = false ∧ (ph2 tx z r q nu2 g).1 = false ∧ (ph2 tx z r q nu g).2.1 = (ph2 tx z r q nu2 g).2.1) := by
  intro r
  induction r with
  | zero => intro q nu nu2 g _; exact Or.inl rfl
  | succ r ih =>
    intro q nu nu2 g hok
    unfold ph2
    by_cases c : q < z
    · rw [if_pos c, if_pos c]
      obtain ⟨h1, h2⟩ := hok c
      obtain ⟨o1, o2⟩ := rd_cm (g := g) nu nu2 (h1 nu)
      have e2 := (rdS_e tx q nu nu2).2.1.1
      rw [← o1]
      by_cases c2 : cmO g (rdS tx q nu).2.1.2.1 (rdS tx q nu).2.2 (tx q) = true
      · rw [if_pos c2, if_pos c2, ← o2, ← e2]
        exact ih _ _ _ _ (fun hz => h2 nu hz)
      · rw [if_neg c2, if_neg c2]
        exact Or.inr ⟨rfl, rfl, rfl⟩
    · rw [if_neg c, if_neg c]; exact Or.inl rfl
theorem in_e (tx : Nat → Int32) (z : Nat) (sv nu nu2 : Nat → Int32) : inA tx z sv nu = inA tx z sv nu2 ∧ inS tx z sv nu = inS tx z sv nu2 := by
  obtain ⟨e1, e2, e3⟩ := ph1_e (tx := tx) (z := z) 101 0 nu nu2 0
  unfold inA inS
  rw [← e1, ← e2, ← e3]
  by_cases c : (ph1 tx z 101 0 nu 0).1 = true
  · have hok := ph1_okP 101 0 nu 0 c
    rcases ph2_e 101 0 (ph1 tx z 101 0 nu 0).2.2.2 (ph1 tx z 101 0 nu2 0).2.2.2 sv (fun _ => hok) with h | ⟨h1, h2, h3⟩
    · rw [h]; exact ⟨rfl, rfl⟩
    · rw [h1, h2, h3]
      exact ⟨rfl, by simp⟩
  · exact ⟨by rw [if_neg c, if_neg c], by rw [if_neg (fun h => c h.1), if_neg (fun h => c h.1)]⟩
theorem inst_e (kp so sz el sv nu nu2 : Nat → Int32) (d : Int32) : instR kp so sz el sv nu d = instR kp so sz el sv nu2 d ∧ instS kp so sz el sv nu d = instS kp so sz el sv nu2 d := by
  unfold instR instS
  rw [(in_e _ _ sv nu nu2).1, (in_e _ _ sv nu nu2).2]
  exact ⟨rfl, rfl⟩
/-- a step of the first reading, seen from its end -/
theorem ph1_ge {tx : Nat → Int32} {z : Nat} : ∀ (r q : Nat) (nu : Nat → Int32) (k : Nat), (ph1 tx z r q nu k).1 = true → k ≤ (ph1 tx z r q nu k).2.2.1 ∧ (0 < r → k < (ph1 tx z r q nu k).2.2.1) := by
  intro r
  induction r with
  | zero => intro q nu k _; exact ⟨Nat.le_refl _, fun h => absurd h (Nat.lt_irrefl _)⟩
  | succ r ih =>
    intro q nu k h
    unfold ph1 at h ⊢
    by_cases c : (rdS tx q nu).1 = true
    · rw [if_pos c] at h ⊢
      by_cases c2 : (rdS tx q nu).2.1.1 < z
      · rw [if_pos c2] at h ⊢
        have := (ih _ _ _ h).1
        exact ⟨by omega, fun _ => by omega⟩
      · rw [if_neg c2] at h ⊢
        exact ⟨by show k ≤ k + 1; omega, fun _ => by show k < k + 1; omega⟩
    · rw [if_neg c] at h; exact absurd h Bool.false_ne_true
def Ph (tx : Nat → Int32) (z r q : Nat) (nu : Nat → Int32) (k K : Nat) : Prop := (ph1 tx z r q nu k).1 = true ∧ (ph1 tx z r q nu k).2.2.1 = K
theorem Ph.e {tx : Nat → Int32} {z r q : Nat} {nu : Nat → Int32} {k K : Nat} (h : Ph tx z r q nu k K) (nu2 : Nat → Int32) : Ph tx z r q nu2 k K := by
  obtain ⟨e1, -, e3⟩ := ph1_e (tx := tx) (z := z) r q nu2 nu k
  exact ⟨e1.trans h.1, e3.trans h.2⟩
theorem Ph.rd {tx : Nat → Int32} {z r q : Nat} {nu : Nat → Int32} {k K : Nat} (h : Ph tx z r q nu k K) (hr : 0 < r) : (rdS tx q nu).1 = true := by
  obtain ⟨h1, -⟩ := h
  cases r with
  | zero => omega
  | succ r =>
    unfold ph1 at h1
    by_cases c : (rdS tx q nu).1 = true
    · exact c
    · rw [if_neg c] at h1; exact absurd h1 Bool.false_ne_true
theorem Ph.go {tx : Nat → Int32} {z r q : Nat} {nu : Nat → Int32} {k K : Nat} (h : Ph tx z r q nu k K) (hr : 1 < r) : (k + 1 < K → Ph tx z (r - 1) (rdS tx q nu).2.1.1 (rdS tx q nu).2.1.2.1 (k + 1) K) ∧ (¬ k + 1 < K → K = k + 1 ∧ ¬ (rdS tx q nu).2.1.1 < z) := by
  have hrd := h.rd (by omega)
  obtain ⟨h1, h2⟩ := h
  cases r with
  | zero => omega
  | succ r =>
    unfold ph1 at h1 h2
    rw [if_pos hrd] at h1 h2
    by_cases c2 : (rdS tx q nu).2.1.1 < z
    · rw [if_pos c2] at h1 h2
      have h3 := (ph1_ge _ _ _ _ h1).2 (by omega)
      rw [h2] at h3
      exact ⟨fun _ => ⟨h1, h2⟩, fun x => absurd h3 x⟩
    · rw [if_neg c2] at h1 h2
      have : k + 1 = K := h2
      exact ⟨fun x => by omega, fun _ => ⟨this.symm, c2⟩⟩
theorem tx_eq {f x el : Nat → Int32} {n z : Nat} (h : ∀ j, j < z → f j = x j) (hx : ∀ j, j < z → x j = el (100 * n + j)) : txC f z = hrT el n z := by
  funext q
  unfold txC hrT
  by_cases c : q < z
  · rw [if_pos c, if_pos c, h q c, hx q c]
  · rw [if_neg c, if_neg c]
theorem inst_no {kp so sz el sv nu : Nat → Int32} {d : Int32} (h : ¬ wrR kp so d 0 = 0) : instR kp so sz el sv nu d = wrR kp so d 0 ∧ instS kp so sz el sv nu d = sv := by
  unfold instR instS
  rw [if_neg h, if_neg h]
  exact ⟨rfl, rfl⟩
theorem wr_of1 {kp so : Nat → Int32} {d : Int32} (h : ¬ wrR kp so d (-1) = 0) : wrR kp so d 0 = wrR kp so d (-1) ∧ ¬ wrR kp so d 0 = 0 := by
  have e : wrR kp so d 0 = wrR kp so d (-1) := by
    unfold wrR at h ⊢
    by_cases c : inL d 0 7 = true
    · rw [if_pos c] at h ⊢; rw [if_pos c]
      by_cases c2 : kp (iN d) = 0
      · rw [if_pos c2, if_pos c2]
      · rw [if_neg c2] at h ⊢; rw [if_neg c2]
        by_cases c3 : kp (iN d) = 2
        · rw [if_neg (by rintro (g | g); exact g c3; exact absurd g.1 (by decide))] at h
          exact absurd rfl h
        · rw [if_pos (Or.inl c3), if_pos (Or.inl c3)]
    · rw [if_neg c, if_neg c]
  exact ⟨e, by rw [e]; exact h⟩
theorem wr_of2 {kp so : Nat → Int32} {n : Nat} (h : wrR kp so (nI n) (-1) = 0) (hn : iN (nI n) = n) : (¬ so n = 0 → wrR kp so (nI n) 0 = -12) ∧ (so n = 0 → wrR kp so (nI n) 0 = 0) := by
  obtain ⟨h1, h2, -⟩ := wrR_0 h
  unfold wrR
  rw [if_pos h1, hn]
  rw [hn] at h2
  rw [h2, if_neg (by decide)]
  exact ⟨fun c => if_pos (Or.inr ⟨by decide, c⟩), fun c => if_neg (by rintro (g | g); exact g rfl; exact g.2 c)⟩
theorem bFz_le {b : Nat → Nat} {N M : Nat} (h : N ≤ M) : ∀ q, bFz b M q → bFz b N q := fun _ g => g.elim Or.inl (fun k => Or.inr (Nat.le_trans h k))
