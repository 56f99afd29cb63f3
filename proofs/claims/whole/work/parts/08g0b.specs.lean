/-! the class: tones of a shelf; steps of the worst case -/
theorem wtC_0 {kp so sz el : Nat → Int32} {ob : Bool} {d m : Int32} (h : wtC kp so sz el ob d m = 0) : ob = true ∧ wtT kp so sz el d m = 0 := by
  unfold wtC at h
  cases ob with
  | true => exact ⟨rfl, h⟩
  | false => rw [if_neg Bool.false_ne_true] at h; exact absurd h (by decide)
theorem wtT_out {kp so sz el : Nat → Int32} {d m : Int32} (h : inL d 0 7 = false) : wtT kp so sz el d m = -1 := by
  have e := wrR_m1 (kp := kp) (so := so).mpr h
  unfold wtT
  rw [e, if_neg (by decide)]
theorem wtC_ne {kp so sz el : Nat → Int32} {ob : Bool} {d m X : Int32} {C : Prop} [Decidable C] (hC : C ↔ (inL d 0 7 = true ∧ ob = true)) (h : ¬ wtC kp so sz el ob d m = 0) : wtC kp so sz el ob d m = if C then (if wtT kp so sz el d m = 0 then X else wtT kp so sz el d m) else -1 := by
  unfold wtC at h ⊢
  cases ob with
  | false => rw [if_neg (fun c => absurd (hC.mp c).2 (by decide))]; rfl
  | true =>
    rw [if_pos rfl] at h ⊢
    rw [if_neg h]
    by_cases c : C
    · rw [if_pos c]
    · rw [if_neg c]
      exact wtT_out (Bool.eq_false_iff.mpr fun q => c (hC.mpr ⟨q, rfl⟩))
/-- what is known where the tones are as told -/
theorem wtT_get {kp so sz el : Nat → Int32} {d : Int32} {m n : Nat} (hm : m ≤ 100) (h : wtT kp so sz el d (nI m) = 0) (hd : d = nI n) (hn : n < 8) (hz : sz n = nI (iN (sz n)) ∧ iN (sz n) ≤ 100) : iN (sz n) ≤ m ∧ ∀ j, j < iN (sz n) → rg (el (100 * n + j)) 1 1200 := by
  obtain ⟨-, h2, h3⟩ := wtT_0 h
  subst hd
  rw [iN_nI (by omega)] at h2 h3
  rw [hz.1] at h2
  refine ⟨?_, fun j hj => ?_⟩
  · exact (nI_leI (by omega) (by omega)).mp h2
  · exact tone_rg (allN_all _ _ h3 j (Nat.zero_le _) (by omega))
theorem ft_in {r : Nat → Int32} (hT : nT r ≤ 7) {x : Int32} (hx : x = 127) : inL (ftA r) 1 x = true ↔ ¬ ftA r = 0 := by
  obtain ⟨u, h1, h2, -⟩ := ftA_bits r hT
  have hp : 2 ^ nT r ≤ 2 ^ 7 := pow_lt hT
  subst hx
  rw [h2, nI_z (by omega)]
  unfold inL
  have e1 : (1 : Int32).toInt = 1 := rfl
  have e7 : (127 : Int32).toInt = 127 := rfl
  have hu : (nI u).toInt = u := nI_toInt (by omega)
  simp only [Bool.and_eq_true, decide_eq_true_eq, Int32.le_iff_toInt_le]
  omega
theorem sil0 {v : Nat} (hv : v < 128) (x : Int32) : nI v &&& (x ^^^ -1) = 0 ↔ nI v &&& x = nI v := by
  have hb : ∀ i, 8 ≤ i → v.testBit i = false := fun i hi => Nat.testBit_lt_two_pow (Nat.lt_of_lt_of_le hv (Nat.le_trans (show 128 ≤ 2 ^ 8 by decide) (pow_lt hi)))
  have hx : ∀ i, i < 31 → (uN (x ^^^ -1)).testBit i = !(uN x).testBit i := fun i hi => by
    unfold uN
    rw [Int32.toBitVec_xor, BitVec.toNat_xor, Nat.testBit_xor]
    have h1 : ((-1 : Int32).toBitVec.toNat).testBit i = true := by
      have : ((-1 : Int32).toBitVec.toNat) = 2 ^ 32 - 1 := rfl
      rw [this, Nat.testBit_two_pow_sub_one]
      simp
      omega
    rw [h1]
    simp
  rw [nI_and v _ (by omega), nI_and v x (by omega)]
  have l1 : v &&& uN (x ^^^ -1) ≤ v := Nat.and_le_left
  have l2 : v &&& uN x ≤ v := Nat.and_le_left
  rw [nI_z (by omega), nI_eq (by omega) (by omega)]
  constructor
  · intro h
    apply Nat.eq_of_testBit_eq
    intro i
    have h2 : (v &&& uN (x ^^^ -1)).testBit i = false := by rw [h]; exact Nat.zero_testBit i
    rw [Nat.testBit_and] at h2 ⊢
    by_cases c : i < 8
    · rw [hx i (by omega)] at h2
      cases h3 : v.testBit i <;> cases h4 : (uN x).testBit i <;> simp_all
    · rw [hb i (by omega)]; rfl
  · intro h
    apply Nat.eq_of_testBit_eq
    intro i
    have h2 : (v &&& uN x).testBit i = v.testBit i := by rw [h]
    rw [Nat.testBit_and] at h2 ⊢
    rw [Nat.zero_testBit]
    by_cases c : i < 8
    · rw [hx i (by omega)]
      cases h3 : v.testBit i <;> cases h4 : (uN x).testBit i <;> simp_all
    · rw [hb i (by omega)]; rfl
theorem sil_eq {v : Nat} (hv : v < 128) (x : Int32) : nI v &&& (nI v &&& x ^^^ -1) = nI v &&& (x ^^^ -1) := by
  apply Int32.toBitVec_inj.mp
  apply BitVec.eq_of_getLsbD_eq
  intro i hi
  simp only [Int32.toBitVec_and, Int32.toBitVec_xor, BitVec.getLsbD_and, BitVec.getLsbD_xor]
  cases (nI v).toBitVec.getLsbD i <;> cases x.toBitVec.getLsbD i <;> simp
/-- the worst case stays small -/
theorem wo_rg (ht : Nat → Int32) (t : Nat) : ∀ v, v < 128 → 0 ≤ (wo ht t v).toInt ∧ (wo ht t v).toInt ≤ v := by
  intro v
  induction v using Nat.strongRecOn with
  | ind v ih =>
    intro hv
    have e0 : (0 : Int32).toInt = 0 := rfl
    by_cases c : pop v < 2
    · rw [wo_small hv c, e0]; omega
    · have hF : ∀ n, fldN (woS (woN ht t v) ht (nI v)) (-4) n = -4 ∨ (1 ≤ (fldN (woS (woN ht t v) ht (nI v)) (-4) n).toInt ∧ (fldN (woS (woN ht t v) ht (nI v)) (-4) n).toInt ≤ v) := by
        intro n
        induction n with
        | zero => exact Or.inl rfl
        | succ n ihn =>
          rw [fldN]
          unfold woS
          split
          · exact ihn
          · rename_i hn
            have ha : nI v &&& ht n = nI (v &&& uN (ht n)) := nI_and v _ (by omega)
            have la : v &&& uN (ht n) ≤ v := Nat.and_le_left
            have hb : nI v &&& (nI v &&& ht n ^^^ -1) = nI (v &&& uN (nI v &&& ht n ^^^ -1)) := nI_and v _ (by omega)
            have lb : v &&& uN (nI v &&& ht n ^^^ -1) ≤ v := Nat.and_le_left
            have la2 : v &&& uN (ht n) < v := Nat.lt_of_le_of_ne la fun q => hn (Or.inr (by rw [ha, q]))
            have lb2 : v &&& uN (nI v &&& ht n ^^^ -1) < v := Nat.lt_of_le_of_ne lb fun q => hn (Or.inl (by
              have h1 : nI v &&& (nI v &&& ht n ^^^ -1) = nI v := by rw [hb, q]
              rw [sil_eq hv] at h1
              have h2 : nI v &&& (ht n ^^^ -1 ^^^ -1) = 0 := (sil0 hv (ht n ^^^ -1)).mpr h1
              rwa [Int32.xor_assoc, Int32.xor_self, Int32.xor_zero] at h2))
            have w1 : woN ht t v (nI v &&& ht n) = wo ht t (v &&& uN (ht n)) := by rw [ha]; exact woN_fuel ht t _ v (by omega) la2
            have w2 : woN ht t v (nI v &&& (nI v &&& ht n ^^^ -1)) = wo ht t (v &&& uN (nI v &&& ht n ^^^ -1)) := by rw [hb]; exact woN_fuel ht t _ v (by omega) lb2
            obtain ⟨a1, a2⟩ := ih _ la2 (by omega)
            obtain ⟨b1, b2⟩ := ih _ lb2 (by omega)
            rw [w1, w2]
            have hm : 1 ≤ (1 + mxI (wo ht t (v &&& uN (ht n))) (wo ht t (v &&& uN (nI v &&& ht n ^^^ -1)))).toInt ∧ (1 + mxI (wo ht t (v &&& uN (ht n))) (wo ht t (v &&& uN (nI v &&& ht n ^^^ -1)))).toInt ≤ v := by
              have e1 : (1 : Int32).toInt = 1 := rfl
              unfold mxI
              split
              · rw [ti_add (by rw [e1]; omega) (by rw [e1]; omega), e1]; omega
              · rw [ti_add (by rw [e1]; omega) (by rw [e1]; omega), e1]; omega
            split
            · exact Or.inr hm
            · exact ihn
      rw [wo_big hv c]
      rcases hF t with h | h
      · rw [h]
        show 0 ≤ (0 : Int32).toInt ∧ (0 : Int32).toInt ≤ v
        rw [e0]; omega
      · rw [if_neg (by rw [Int32.lt_iff_toInt_lt, e0]; omega)]
        omega
/-- steps of the fold, as the class keeps it -/
def wcG (wst ht : Nat → Int32) (v i : Nat) : Int32 := enW (wcF wst ht v i)
theorem wc_skip {wst ht : Nat → Int32} {v i : Nat} (h : nI v &&& ht i = 0 ∨ nI v &&& ht i = nI v) : wcG wst ht v (i + 1) = wcG wst ht v i := by
  unfold wcG wcF
  rw [fldN, woS, if_pos h]
theorem wcF_rg {wst ht : Nat → Int32} {v t : Nat} (hv : v < 128) (h : ∀ w, w < v → v &&& w = w → wst w = wo ht t w) : ∀ n, wcF wst ht v n = -4 ∨ (1 ≤ (wcF wst ht v n).toInt ∧ (wcF wst ht v n).toInt ≤ 128) := by
  have e : ∀ n, wcF wst ht v n = fldN (woS (fun x => wo ht t (iN x)) ht (nI v)) (-4) n := fun n => by
    unfold wcF
    exact fldN_congr _ (fun b i => woS_sub hv _ _ _ _ fun w hw hs => by simp only [iN_nI (show w < 2147483648 by omega)]; exact h w hw hs) _
  intro n
  rw [e n]
  induction n with
  | zero => exact Or.inl rfl
  | succ n ihn =>
    rw [fldN]
    unfold woS
    split
    · exact ihn
    · have ha : nI v &&& ht n = nI (v &&& uN (ht n)) := nI_and v _ (by omega)
      have la : v &&& uN (ht n) ≤ v := Nat.and_le_left
      have hb : nI v &&& (nI v &&& ht n ^^^ -1) = nI (v &&& uN (nI v &&& ht n ^^^ -1)) := nI_and v _ (by omega)
      have lb : v &&& uN (nI v &&& ht n ^^^ -1) ≤ v := Nat.and_le_left
      obtain ⟨a1, a2⟩ := wo_rg ht t (iN (nI v &&& ht n)) (by rw [ha, iN_nI (by omega)]; omega)
      obtain ⟨b1, b2⟩ := wo_rg ht t (iN (nI v &&& (nI v &&& ht n ^^^ -1))) (by rw [hb, iN_nI (by omega)]; omega)
      have a3 : iN (nI v &&& ht n) ≤ 127 := by rw [ha, iN_nI (by omega)]; omega
      have b3 : iN (nI v &&& (nI v &&& ht n ^^^ -1)) ≤ 127 := by rw [hb, iN_nI (by omega)]; omega
      have hm : 1 ≤ (1 + mxI (wo ht t (iN (nI v &&& ht n))) (wo ht t (iN (nI v &&& (nI v &&& ht n ^^^ -1))))).toInt ∧ (1 + mxI (wo ht t (iN (nI v &&& ht n))) (wo ht t (iN (nI v &&& (nI v &&& ht n ^^^ -1))))).toInt ≤ 128 := by
        have e1 : (1 : Int32).toInt = 1 := rfl
        unfold mxI
        split
        · rw [ti_add (by rw [e1]; omega) (by rw [e1]; omega), e1]; omega
        · rw [ti_add (by rw [e1]; omega) (by rw [e1]; omega), e1]; omega
      split
      · exact Or.inr hm
      · exact ihn
theorem wc_val {wst ht : Nat → Int32} {v t i : Nat} (hv : v < 128) (h : ∀ w, w < v → v &&& w = w → wst w = wo ht t w) (h1 : ¬ nI v &&& ht i = 0) (h2 : ¬ nI v &&& (ht i ^^^ -1) = 0) {x : Int32} (hx : x = 1 + mxI (wst (v &&& uN (ht i))) (wst (v &&& uN (ht i ^^^ -1)))) : wcG wst ht v (i + 1) = if wcG wst ht v i = 0 then x else mnI (wcG wst ht v i) x := by
  have h2' := (not_congr (sil0 hv (ht i))).mp h2
  have ha : iN (nI v &&& ht i) = v &&& uN (ht i) := by rw [nI_and v _ (by omega), iN_nI (Nat.lt_of_le_of_lt Nat.and_le_left (by omega))]
  have hb : iN (nI v &&& (nI v &&& ht i ^^^ -1)) = v &&& uN (ht i ^^^ -1) := by rw [sil_eq hv, nI_and v _ (by omega), iN_nI (Nat.lt_of_le_of_lt Nat.and_le_left (by omega))]
  have hr := wcF_rg hv h i
  have e0 : (0 : Int32).toInt = 0 := rfl
  have e1 : (1 : Int32).toInt = 1 := rfl
  have hx1 : 1 ≤ x.toInt := by
    have la : v &&& uN (ht i) ≤ v := Nat.and_le_left
    have lb : v &&& uN (ht i ^^^ -1) ≤ v := Nat.and_le_left
    have la2 : v &&& uN (ht i) < v := Nat.lt_of_le_of_ne la fun q => h2' (by rw [nI_and v _ (by omega), q])
    have lb2 : v &&& uN (ht i ^^^ -1) < v := Nat.lt_of_le_of_ne lb fun q => h1 (by
      have g1 : nI v &&& (ht i ^^^ -1) = nI v := by rw [nI_and v _ (by omega), q]
      have g2 := (sil0 hv (ht i ^^^ -1)).mpr g1
      rwa [Int32.xor_assoc, Int32.xor_self, Int32.xor_zero] at g2)
    have wa := h _ la2 (by rw [← Nat.and_assoc, Nat.and_self])
    have wb := h _ lb2 (by rw [← Nat.and_assoc, Nat.and_self])
    obtain ⟨a1, a2⟩ := wo_rg ht t _ (show v &&& uN (ht i) < 128 by omega)
    obtain ⟨b1, b2⟩ := wo_rg ht t _ (show v &&& uN (ht i ^^^ -1) < 128 by omega)
    rw [hx, wa, wb]
    unfold mxI
    split
    · rw [ti_add (by rw [e1]; omega) (by rw [e1]; omega), e1]; omega
    · rw [ti_add (by rw [e1]; omega) (by rw [e1]; omega), e1]; omega
  have e : wcF wst ht v (i + 1) = if wcF wst ht v i < 0 ∨ x < wcF wst ht v i then x else wcF wst ht v i := by
    have e1 : wcF wst ht v (i + 1) = woS (fun x => wst (iN x)) ht (nI v) (wcF wst ht v i) i := rfl
    rw [e1, woS, if_neg (fun q => q.elim h1 h2')]
    simp only [ha, hb, ← hx]
  have pos : ∀ y : Int32, 1 ≤ y.toInt → enW y = y ∧ ¬ y = 0 := fun y hy => by
    refine ⟨?_, fun q => by rw [q, e0] at hy; omega⟩
    unfold enW
    rw [if_neg]
    rw [Int32.lt_iff_toInt_lt, e0]; omega
  unfold wcG
  rcases hr with hr | ⟨hr, -⟩
  · rw [hr, if_pos (Or.inl (by decide))] at e
    have e4 : enW (-4) = 0 := rfl
    rw [hr, e4, if_pos rfl, e]
    exact (pos x hx1).1
  · obtain ⟨p1, p2⟩ := pos _ hr
    rw [p1, if_neg p2, e]
    have hn : ¬ wcF wst ht v i < 0 := by rw [Int32.lt_iff_toInt_lt, e0]; omega
    unfold mnI
    by_cases c : x < wcF wst ht v i
    · rw [if_pos (Or.inr c), if_neg (Int32.not_le.mpr c)]
      exact (pos x hx1).1
    · rw [if_neg (fun q => q.elim hn c), if_pos (Int32.not_lt.mp c)]
      exact p1
