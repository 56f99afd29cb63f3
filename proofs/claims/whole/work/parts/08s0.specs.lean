/-! the numbers that a statement tells -/
def mxK : List Nat → List Int
  | [] => []
  | k :: ks => if k = 100 then 9 :: mxK ks else if k = 110 then 999 :: mxK ks else mxK ks
theorem dig_rg {x : Int32} (h : inL x 48 57 = true) : rg (x - 48) 0 9 := by
  have h1 := inL_rg h
  have e1 : (48 : Int32).toInt = 48 := rfl
  have e2 : (57 : Int32).toInt = 57 := rfl
  unfold rg at h1 ⊢
  rw [e1, e2] at h1
  rw [Int32.toInt_sub, e1, Int.bmod_eq_of_le (by omega) (by omega)]
  omega
theorem dig2_rg {w x : Int32} {B : Int} (hw : rg w 0 B) (hB : B ≤ 99) (h : inL x 48 57 = true) : rg (10 * w + x - 48) 0 (10 * B + 9) := by
  have h1 := inL_rg h
  have e1 : (48 : Int32).toInt = 48 := rfl
  have e2 : (57 : Int32).toInt = 57 := rfl
  have e3 : (10 : Int32).toInt = 10 := rfl
  unfold rg at h1 hw ⊢
  rw [e1, e2] at h1
  rw [Int32.toInt_sub, Int32.toInt_add, Int32.toInt_mul, e1, e3, Int.bmod_eq_of_le (n := 10 * w.toInt) (by omega) (by omega), Int.bmod_eq_of_le (n := 10 * w.toInt + x.toInt) (by omega) (by omega), Int.bmod_eq_of_le (by omega) (by omega)]
  omega
theorem rg_le {x : Int32} {a b b2 : Int} (h : rg x a b) (hb : b ≤ b2) : rg x a b2 := ⟨h.1, Int.le_trans h.2 hb⟩
theorem nb_rg {tx : Nat → Int32} {q : Nat} {v : Int32} (h : rg v 0 9) : rg (nb tx 2 q v).2 0 999 := by
  unfold nb
  split
  · rename_i c
    have h2 := dig2_rg h (by decide) c.2
    unfold nb
    split
    · rename_i c2
      have h3 := dig2_rg (rg_le (b2 := 99) h2 (by decide)) (by decide) c2.2
      unfold nb
      exact rg_le h3 (by decide)
    · exact rg_le h2 (by decide)
  · exact rg_le h (by decide)
theorem pSy_num {tx : Nat → Int32} {k q t q2 t2 : Nat} {nu nu2 : Nat → Int32} (h : pSy tx k (q, nu, t) = some (q2, nu2, t2)) : (∀ j, j < t → nu2 j = nu j) ∧ ((mxK [k] = [] ∧ t2 = t) ∨ ∃ m, mxK [k] = [m] ∧ t2 = t + 1 ∧ rg (nu2 t) 0 m) := by
  unfold pSy at h
  unfold mxK
  by_cases c : k = 100
  · rw [if_pos c] at h
    rw [if_pos c]
    by_cases d : inL (tx q) 48 57 = true
    · rw [if_pos d] at h
      injection h with h; injection h with h1 h; injection h with h2 h3
      subst h2; subst h3
      exact ⟨fun j hj => upd_ne _ _ (Nat.ne_of_lt hj), Or.inr ⟨9, rfl, rfl, by rw [upd_self]; exact dig_rg d⟩⟩
    · rw [if_neg d] at h; cases h
  · rw [if_neg c] at h
    rw [if_neg c]
    by_cases c2 : k = 110
    · rw [if_pos c2] at h
      rw [if_pos c2]
      by_cases d : inL (tx q) 48 57 = true
      · rw [if_pos d] at h
        injection h with h; injection h with h1 h; injection h with h2 h3
        subst h2; subst h3
        exact ⟨fun j hj => upd_ne _ _ (Nat.ne_of_lt hj), Or.inr ⟨999, rfl, rfl, by rw [upd_self]; exact nb_rg (dig_rg d)⟩⟩
      · rw [if_neg d] at h; cases h
    · rw [if_neg c2] at h
      rw [if_neg c2]
      by_cases d : tx q = nI k
      · rw [if_pos d] at h
        injection h with h; injection h with h1 h; injection h with h2 h3
        subst h2; subst h3
        exact ⟨fun j _ => rfl, Or.inl ⟨rfl, rfl⟩⟩
      · rw [if_neg d] at h; cases h
theorem mxK_cons (k : Nat) (ks : List Nat) : mxK (k :: ks) = mxK [k] ++ mxK ks := by
  by_cases c : k = 100
  · subst c; rfl
  · by_cases d : k = 110
    · subst d; rfl
    · show (if k = 100 then 9 :: mxK ks else if k = 110 then 999 :: mxK ks else mxK ks) = (if k = 100 then 9 :: mxK [] else if k = 110 then 999 :: mxK [] else mxK []) ++ mxK ks
      rw [if_neg c, if_neg d, if_neg c, if_neg d]; rfl
theorem pF_num {tx : Nat → Int32} : ∀ (ks : List Nat) {q t q2 t2 : Nat} {nu nu2 : Nat → Int32}, pF tx ks (q, nu, t) = (true, q2, nu2, t2) → t2 = t + (mxK ks).length ∧ (∀ j, j < t → nu2 j = nu j) ∧ ∀ j, j < (mxK ks).length → rg (nu2 (t + j)) 0 ((mxK ks).getD j 0) := by
  intro ks
  induction ks with
  | nil =>
    intro q t q2 t2 nu nu2 h
    unfold pF at h
    injection h with _ h; injection h with _ h; injection h with h2 h3
    subst h2; subst h3
    exact ⟨rfl, fun _ _ => rfl, fun j hj => absurd hj (Nat.not_lt_zero _)⟩
  | cons k ks ih =>
    intro q t q2 t2 nu nu2 h
    unfold pF at h
    cases hp : pSy tx k (q, nu, t) with
    | none => rw [hp] at h; injection h with h; cases h
    | some s =>
      obtain ⟨q3, nu3, t3⟩ := s
      rw [hp] at h
      obtain ⟨i1, i2, i3⟩ := ih h
      obtain ⟨j1, j2⟩ := pSy_num hp
      rw [mxK_cons]
      rcases j2 with ⟨m1, m2⟩ | ⟨m, m1, m2, m3⟩
      · subst m2
        rw [m1, List.nil_append]
        exact ⟨i1, fun j hj => (i2 j hj).trans (j1 j hj), i3⟩
      · subst m2
        rw [m1]
        refine ⟨by rw [i1, List.length_append]; simp only [List.length_cons, List.length_nil]; omega, fun j hj => (i2 j (by omega)).trans (j1 j hj), fun j hj => ?_⟩
        cases j with
        | zero => rw [Nat.add_zero, i2 t (Nat.lt_succ_self t)]; exact m3
        | succ j =>
          have := i3 j (by simpa using hj)
          rw [show t + (j + 1) = t + 1 + j by omega]
          exact this
/-- numbers as a statement with the letter x tells them -/
def NumOK (x : Int32) (ij : Bool) (nu : Nat → Int32) : Prop :=
  (x = 112 ∧ rg (nu 0) 0 999 ∧ rg (nu 1) 0 999 ∧ rg (nu 2) 0 999 ∧ (ij = true → rg (nu 3) 0 9 ∧ rg (nu 4) 0 999)) ∨ (x = 116 ∧ rg (nu 0) 0 9 ∧ rg (nu 1) 0 9 ∧ rg (nu 2) 0 999 ∧ rg (nu 3) 0 9 ∧ rg (nu 4) 0 999) ∨ (x = 100 ∧ rg (nu 0) 0 999) ∨ (x = 119 ∧ rg (nu 0) 0 9) ∨ (x = 114 ∧ rg (nu 0) 0 9)
theorem rd_true {a : Bool × PS × Bool} (h : a.1 = true) : ∃ q nu t ij, a = (true, (q, nu, t), ij) := by
  obtain ⟨b, ⟨q, nu, t⟩, ij⟩ := a
  cases h
  exact ⟨q, nu, t, ij, rfl⟩
theorem rdS_num {tx : Nat → Int32} {q : Nat} {nu : Nat → Int32} (h : (rdS tx q nu).1 = true) : NumOK (tx q) (rdS tx q nu).2.2 (rdS tx q nu).2.1.2.1 := by
  unfold rdS at h ⊢
  split
  · rename_i h1
    rw [if_pos h1] at h
    split
    · rename_i s hs
      rw [hs] at h
      exact absurd h Bool.false_ne_true
    · rename_i s hs
      obtain ⟨q3, nu3, t3⟩ := s
      obtain ⟨a1, -, a3⟩ := pF_num _ hs
      have b0 := a3 0 (by decide)
      have b1 := a3 1 (by decide)
      have b2 := a3 2 (by decide)
      rw [hs] at h
      dsimp only at h
      refine Or.inl ?_
      split
      · rename_i hn
        rw [hn] at h
        simp only at h ⊢
        have hp : pF tx [59] (q3, nu3, t3) = (true, (pF tx [59] (q3, nu3, t3)).2.1, (pF tx [59] (q3, nu3, t3)).2.2.1, (pF tx [59] (q3, nu3, t3)).2.2.2) := by rw [← h]
        obtain ⟨-, c2, -⟩ := pF_num _ hp
        have ht : t3 = 3 := a1
        refine ⟨h1, ?_, ?_, ?_, fun x => absurd x Bool.false_ne_true⟩
        · rw [c2 0 (by omega)]; exact b0
        · rw [c2 1 (by omega)]; exact b1
        · rw [c2 2 (by omega)]; exact b2
      · rename_i s2 hn
        rw [hn] at h
        simp only at h ⊢
        obtain ⟨q4, nu4, t4⟩ := s2
        obtain ⟨d1, d2⟩ := pSy_num hn
        have ht : t3 = 3 := a1
        have ht4 : t4 = 3 := by
          rcases d2 with ⟨-, e⟩ | ⟨m, e, -⟩
          · omega
          · exact absurd e (by simp [mxK])
        subst ht4
        have hp : pF tx [100, 32, 110, 59] (q4, nu4, 3) = (true, (pF tx [100, 32, 110, 59] (q4, nu4, 3)).2.1, (pF tx [100, 32, 110, 59] (q4, nu4, 3)).2.2.1, (pF tx [100, 32, 110, 59] (q4, nu4, 3)).2.2.2) := by rw [← h]
        obtain ⟨-, c2, c3⟩ := pF_num _ hp
        have e0 := c3 0 (by decide)
        have e1 := c3 1 (by decide)
        refine ⟨h1, ?_, ?_, ?_, fun _ => ⟨e0, e1⟩⟩
        · rw [c2 0 (by omega), d1 0 (by omega)]; exact b0
        · rw [c2 1 (by omega), d1 1 (by omega)]; exact b1
        · rw [c2 2 (by omega), d1 2 (by omega)]; exact b2
  · rename_i h1
    rw [if_neg h1] at h
    have key : ∀ (ks : List Nat), (pF tx ks (q + 1, nu, 0)).1 = true → ∀ j, j < (mxK ks).length → rg ((pF tx ks (q + 1, nu, 0)).2.2.1 j) 0 ((mxK ks).getD j 0) := by
      intro ks hk j hj
      have hp : pF tx ks (q + 1, nu, 0) = (true, (pF tx ks (q + 1, nu, 0)).2.1, (pF tx ks (q + 1, nu, 0)).2.2.1, (pF tx ks (q + 1, nu, 0)).2.2.2) := by rw [← hk]
      have := (pF_num _ hp).2.2 j hj
      rw [Nat.zero_add] at this
      exact this
    split
    · rename_i h2
      rw [if_pos h2] at h
      have k := key _ h
      exact Or.inr (Or.inl ⟨h2, k 0 (by decide), k 1 (by decide), k 2 (by decide), k 3 (by decide), k 4 (by decide)⟩)
    · rename_i h2
      rw [if_neg h2] at h
      split
      · rename_i h3
        rw [if_pos h3] at h
        exact Or.inr (Or.inr (Or.inl ⟨h3, key _ h 0 (by decide)⟩))
      · rename_i h3
        rw [if_neg h3] at h
        split
        · rename_i h4
          rw [if_pos h4] at h
          have k := key _ h 0 (by decide)
          rcases h4 with h4 | h4
          · exact Or.inr (Or.inr (Or.inr (Or.inl ⟨h4, k⟩)))
          · exact Or.inr (Or.inr (Or.inr (Or.inr ⟨h4, k⟩)))
        · rename_i h4
          rw [if_neg h4] at h
          exact absurd h Bool.false_ne_true
