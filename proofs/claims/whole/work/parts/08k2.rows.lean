/-! the class: a stretch of an array; a few cells alone -/
section ZG
variable {p : Program} {l : Launch} {e : Env} {R : Room} {s : State} {m : MethodId} {args : Array Value} {below : List Frame} {meth : Method} {c : Code} {H H0 : Heap} {locs : List Loc} {cells slots : Nat} {Q : State → Prop}
variable {cc : ByteArray} {pc : Nat} {ls : Array Slot} {rest st0 : List Value} {E : zE} {own : String} {nL : Nat} {ws : va_W} {G : zG} {F : Nat → Prop}
/-- a stretch of one array of ints into another -/
theorem z_copyG (cx : Cx E p s args m c own cc nL) (hW : WW E ws G H) (hS : va_S F H0 H locs) (i : Nat) {a0 a1 n0 n1 a d k index : Nat} {f g : Nat → Int32} (hsrc : va_at E.1 vwCl (a0, ceI E.2.1 n0 f) H) (hi : ws[i]? = some (a1, ceI E.2.1 n1 g)) (hF : F a1) (h1 : a + k ≤ n0) (h2 : d + k ≤ n1) (hn : n0 < 2 ^ 31 ∧ n1 < 2 ^ 31) (hsz : ls.size = nL) (hlink : Cond.methodLink own index arraycopyName ∈ AllW) (hR : 1 ≤ R.frames ∧ 8 + (nativeFrameWords "java/lang/System" "arraycopy" 5 + 11) ≤ R.locals) (h8 : (rest.map fun v => v.category).sum ≤ 8) (hdg : decode cc pc = .ok (.invokestatic index, 3))
    (kk : ∀ (H1 : Heap) (locs1 : List Loc), WW E (ws.set i (a1, ceI E.2.1 n1 (va_cpy f g a d k))) G H1 → va_S F H0 H1 locs1 → W p l e R s m args below meth c H1 locs1 cells slots Q (F0 m (pc + 3) ls rest)) : W p l e R s m args below meth c H locs cells slots Q (F0 m pc ls (.int (nI k) :: .int (nI d) :: .ref a1 :: .int (nI a) :: .ref a0 :: rest)) := by
  obtain ⟨hn0, hn1⟩ := hn
  intro T hT X
  have hc0 : H[a0]? = some (vp_cell (E.2.1 0) (n0, .inl f)) := hsrc
  have hc1 : H[a1]? = some (vp_cell (E.2.1 0) (n1, .inl g)) := hW.1 i _ hi
  have ck : (nI k).toNatClampNeg = k := nI_clamp (by omega)
  have ca : (nI a).toNatClampNeg = a := nI_clamp (by omega)
  have cd : (nI d).toNatClampNeg = d := nI_clamp (by omega)
  have tk : (nI k).toInt = k := nI_toInt (by omega)
  have ta : (nI a).toInt = a := nI_toInt (by omega)
  have td : (nI d).toInt = d := nI_toInt (by omega)
  obtain ⟨-, k0, hk0, cm0, hkk0⟩ := (cx.K.2 0 _ rfl).1 n0 (fun j => .int (f j))
  obtain ⟨-, k1, hk1, cm1, hkk1⟩ := (cx.K.2 0 _ rfl).1 n1 (fun j => .int (g j))
  obtain ⟨vm', X', step⟩ := X.arraycopy cx.x cx.own (cx.ts _ hlink) (cx.ts _ m_na_Qarraycopy) (cx.ts _ m_st_Qarraycopy) (cx.ts _ m_in_RJ10) (src := a0) (dst := a1) (cs := vp_cell (E.2.1 0) (n0, .inl f)) (cd := vp_cell (E.2.1 0) (n1, .inl g)) (srcPos := nI a) (destPos := nI d) (n := nI k) (by rw [hT]; exact hc0) (by rw [hT]; exact hc1)
    (fun _ h => by cases h) (fun _ h => by cases h) (fun h => by cases h) (fun h => by cases h) hk0 hk1 hkk0 hkk1 (by simp [refKind]) (nI_n0 (by omega)) (nI_n0 (by omega)) (nI_n0 (by omega))
    (by rw [ta, tk]; show ¬ _ > ((arrV (E.2.1 0) n0 (fun j => .int (f j))).slots.size : Int); rw [arrV_size]; omega)
    (by rw [td, tk]; show ¬ _ > ((arrV (E.2.1 0) n1 (fun j => .int (g j))).slots.size : Int); rw [arrV_size]; omega)
    (fun vm₁ _ q hq => by
      have hq' : q < k := by rw [ck] at hq; exact hq
      have e : (vp_cell (E.2.1 0) (n0, .inl f)).slots.getD ((nI a).toNatClampNeg + q) .null = .int (f (a + q)) := by
        show (arrV (E.2.1 0) n0 (fun j => .int (f j))).slots.getD _ _ = _
        rw [ca, Array.getD_eq_getD_getElem?, arrV_read _ _ (by omega)]
        rfl
      rw [e]
      exact ⟨rfl, trivial⟩)
    (g := F0 m pc ls (.int (nI k) :: .int (nI d) :: .ref a1 :: .int (nI a) :: .ref a0 :: rest)) rfl (by rw [cx.1.2.2.1]; exact hsz) (rest := rest) rfl (by rw [cx.b]; exact hdg) hR.1 (by show 2 * 0 + _ + _ ≤ _; omega)
  have e1 : copied (vp_cell (E.2.1 0) (n0, .inl f)) (vp_cell (E.2.1 0) (n1, .inl g)) (nI a) (nI d) (nI k) = vp_cell (E.2.1 0) (n1, .inl (va_cpy f g a d k)) := by
    have h : copied (vp_cell (E.2.1 0) (n0, .inl f)) (vp_cell (E.2.1 0) (n1, .inl g)) (nI a) (nI d) (nI k) = vp_cell (E.2.1 0) (n1, .inl (va_cpy f g (nI a).toNatClampNeg (nI d).toNatClampNeg (nI k).toNatClampNeg)) := va_copied (fun z => .int z) (E.2.1 0) (E.2.1 0) f g (by rw [ca, ck]; exact h1)
    rw [h, ca, cd, ck]
  rw [e1] at X' step
  have hl : a1 < H.size := (Array.getElem?_eq_some_iff.mp hc1).1
  have hheap : ((T.setVm vm').setCell a1 (vp_cell (E.2.1 0) (n1, .inl (va_cpy f g a d k)))).heap = H.setIfInBounds a1 (vp_cell (E.2.1 0) (n1, .inl (va_cpy f g a d k))) := by rw [← hT]; rfl
  have oq : ∀ q : Nat, q ≠ a1 → (H.setIfInBounds a1 (vp_cell (E.2.1 0) (n1, .inl (va_cpy f g a d k))))[q]? = H[q]? := fun q hq => by simp [Array.getElem?_setIfInBounds, Ne.symm hq]
  obtain ⟨t, a2, b2⟩ := kk _ _ (hW.set hi (show (H.setIfInBounds a1 _)[a1]? = some _ by simp [Array.getElem?_setIfInBounds, hl]) (fun q _ => oq q)) ⟨by simp; exact hS.1, fun q g1 g2 => by
      rw [oq q (fun e => g2 (by rw [e]; exact hF))]
      exact hS.2.1 q g1 g2, fun q hq => by
      rcases List.mem_append.mp hq with h | h
      · exact hS.2.2 q h
      · obtain ⟨z, -, hz⟩ := List.mem_map.mp h
        rw [← hz]
        exact hF⟩ _ hheap X'
  exact ⟨t, step t a2, b2⟩
end ZG
def hfB (z : Nat) (i n : Int32) : Bool := decide (¬ i < 0) && decide (¬ n < 0) && decide (¬ nI z < i) && decide (¬ nI z - i < n)
theorem hf_nat {z : Nat} (hz : z ≤ 100) {i n : Int32} (h : hfB z i n = true) : ∃ a k, i = nI a ∧ n = nI k ∧ a + k ≤ z := by
  unfold hfB at h
  simp only [Bool.and_eq_true, decide_eq_true_eq, Int32.lt_iff_toInt_lt] at h
  obtain ⟨⟨⟨h1, h2⟩, h3⟩, h4⟩ := h
  have e0 : (0 : Int32).toInt = 0 := rfl
  have ez : (nI z).toInt = z := nI_toInt (by omega)
  rw [ti_sub (by omega) (by omega)] at h4
  refine ⟨i.toInt.toNat, n.toInt.toNat, rg_nI (a := 0) (b := 100) ⟨by omega, by omega⟩ (by decide) (by decide), rg_nI (a := 0) (b := 100) ⟨by omega, by omega⟩ (by decide) (by decide), by omega⟩
