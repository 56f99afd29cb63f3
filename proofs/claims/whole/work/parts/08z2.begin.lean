theorem zk_X7_init {p : Program} {l : Launch} {e : Env} {R : Room} {s : State} {m : MethodId} {args : Array Value} {below : List Frame} {meth : Method} {c : Code} {H H0 : Heap} {locs : List Loc} {cells slots : Nat} {Q : State → Prop} {cc : ByteArray} {pc index : Nat} {ls : Array Slot} {rest st0 : List Value} {E : zE} {own : String} {nL : Nat} {ws : va_W} {F : Nat → Prop} {q : Nat} (cx : Cx E p s args m c own cc nL) (hP : va_P E.1 vwCl (ws ++ [(q, bl7)]) H) (hD : va_D F (ws ++ [(q, bl7)])) (hS : va_S F H0 H locs) (hFN : ∀ z, H0.size ≤ z → F z) (zl : Cond.methodLink own index yX7_init ∈ AllW) (zR : 3 + 1 ≤ R.frames ∧ 8 + (1 + 11) + 120 ≤ R.locals) (zs : ls.size = nL) (zt : st0 = .ref q :: rest) (z8 : (rest.map fun v => v.category).sum ≤ 8) (zd : decode cc pc = .ok (.invokespecial index, 3)) (zf : cells + 31 ≤ R.cells ∧ slots + 532 ≤ R.slots) (kk : ∀ (b : Nat → Nat) (H1 : Heap) (locs1 : List Loc), b 0 = q → va_P E.1 vwCl (ws ++ wK0 b E.2.1) H1 → va_D F (ws ++ wK0 b E.2.1) → (∀ k, ∃ j, j < 32 ∧ b k = b j) → va_S F H0 H1 locs1 → W p l e R s m args below meth c H1 locs1 (cells + 31) (slots + 532) Q (F0 m (pc + 3) ls rest)) : W p l e R s m args below meth c H locs cells slots Q (F0 m pc ls st0) := by
  have hFq : F q := hD.2 ws.length (q, bl7) (by simp)
  refine z_callIw cx vm_X7_init (c_X7_init l E q H.size) ⟨va_lst hP, rfl⟩ hS (fun z h => h.elim (fun g => g ▸ hFq) (fun g => hFN z (Nat.le_trans hS.1 g))) zl ⟨rfl, rfl⟩ zR rfl zs zt z8 zd zf (fun v H1 locs1 hq1 hS1 hk => ?_)
  obtain ⟨rfl, b, h0, hL, hLD, hall⟩ := hq1
  obtain ⟨hP2, hD2⟩ := va_app2 hP hD hL hLD hk.2 (fun z h => h) (fun z h => hFN z (Nat.le_trans hS.1 h))
  exact kk b H1 locs1 h0 hP2 hD2 hall hS1
theorem zk_X8_init {p : Program} {l : Launch} {e : Env} {R : Room} {s : State} {m : MethodId} {args : Array Value} {below : List Frame} {meth : Method} {c : Code} {H H0 : Heap} {locs : List Loc} {cells slots : Nat} {Q : State → Prop} {cc : ByteArray} {pc index : Nat} {ls : Array Slot} {rest st0 : List Value} {E : zE} {own : String} {nL : Nat} {ws : va_W} {F : Nat → Prop} {q : Nat} (cx : Cx E p s args m c own cc nL) (hP : va_P E.1 vwCl (ws ++ [(q, bl8)]) H) (hD : va_D F (ws ++ [(q, bl8)])) (hS : va_S F H0 H locs) (hFN : ∀ z, H0.size ≤ z → F z) (zl : Cond.methodLink own index yX8_init ∈ AllW) (zR : 1 + 1 ≤ R.frames ∧ 8 + (1 + 11) + 40 ≤ R.locals) (zs : ls.size = nL) (zt : st0 = .ref q :: rest) (z8 : (rest.map fun v => v.category).sum ≤ 8) (zd : decode cc pc = .ok (.invokespecial index, 3)) (zf : cells + 13 ≤ R.cells ∧ slots + 2592 ≤ R.slots) (kk : ∀ (a : Nat → Nat) (H1 : Heap) (locs1 : List Loc), a 0 = q → va_P E.1 vwCl (ws ++ wM0 a (E.2.1 0)) H1 → va_D F (ws ++ wM0 a (E.2.1 0)) → (∀ k, ∃ j, j < 14 ∧ a k = a j) → va_S F H0 H1 locs1 → W p l e R s m args below meth c H1 locs1 (cells + 13) (slots + 2592) Q (F0 m (pc + 3) ls rest)) : W p l e R s m args below meth c H locs cells slots Q (F0 m pc ls st0) := by
  have hFq : F q := hD.2 ws.length (q, bl8) (by simp)
  refine z_callIw cx vm_X8_init (c_X8_init l E q H.size) ⟨va_lst hP, rfl⟩ hS (fun z h => h.elim (fun g => g ▸ hFq) (fun g => hFN z (Nat.le_trans hS.1 g))) zl ⟨rfl, rfl⟩ zR rfl zs zt z8 zd zf (fun v H1 locs1 hq1 hS1 hk => ?_)
  obtain ⟨rfl, a, h0, hL, hLD, hall⟩ := hq1
  obtain ⟨hP2, hD2⟩ := va_app2 hP hD hL hLD hk.2 (fun z h => h) (fun z h => hFN z (Nat.le_trans hS.1 h))
  exact kk a H1 locs1 h0 hP2 hD2 hall hS1
section ZNL
variable {p : Program} {l : Launch} {e : Env} {R : Room} {s : State} {m : MethodId} {args : Array Value} {below : List Frame} {meth : Method} {c : Code} {H H0 : Heap} {locs : List Loc} {cells slots : Nat} {Q : State → Prop}
variable {cc : ByteArray} {pc : Nat} {ls : Array Slot} {rest st0 : List Value} {E : zE} {own : String} {nL : Nat} {ws : va_W} {F : Nat → Prop}
theorem z_newL {n : Nat} (cx : Cx E p s args m c own cc nL) (hP : va_P E.1 vwCl ws H) (hD : va_D F ws) (hS : va_S F H0 H locs) (hA : ∀ q, H0.size ≤ q → F q) (hn : n ≤ 1000) (hR : cells + 1 ≤ R.cells ∧ slots + n ≤ R.slots) (hdg : decode cc pc = .ok (.newarray .long, 2))
    (kk : ∀ (q : Nat) (H1 : Heap), va_P E.1 vwCl (ws ++ [(q, .inl (E.2.1 5, n, .inr (.inl (fun _ => 0))))]) H1 → va_D F (ws ++ [(q, .inl (E.2.1 5, n, .inr (.inl (fun _ => 0))))]) → va_S F H0 H1 locs → W p l e R s m args below meth c H1 locs (cells + 1) (slots + n) Q (F0 m (pc + 2) ls (.ref q :: rest))) : W p l e R s m args below meth c H locs cells slots Q (F0 m pc ls (.int (nI n) :: rest)) := by
  have hcl : (nI n).toNatClampNeg = n := nI_clamp (by omega)
  refine va_newaK (atype := .long) cx.x cx.b (cx.ts _ m_ac_long) rfl hdg rfl (nI_n0 (by omega)) hcl (by show n * 8 ≤ _; omega) hR.1 hR.2 rfl fun H1 cA e1 z1 o1 hAr hNm => ?_
  have hcA : cA = E.2.1 5 := Option.some.inj (hNm.symm.trans (cx.K.2 5 _ rfl).2)
  subst hcA
  have hk : ∀ (k : Nat) (x : Nat × va_E), ws[k]? = some x → H1[x.1]? = H[x.1]? := fun k x hx => o1 x.1 ((hP k x hx).lt)
  refine kk H.size H1 ((hP.kept hk).app (fun k x hx => ?_)) (hD.push hP rfl (hA _ hS.1)) ⟨Nat.le_trans hS.1 (by omega), fun x h1 h2 => (o1 x (Nat.lt_of_lt_of_le h1 hS.1)).trans (hS.2.1 x h1 h2), hS.2.2⟩
  have hz : k < 1 := (List.getElem?_eq_some_iff.mp hx).1
  rw [show k = 0 by omega] at hx
  cases hx
  show H1[H.size]? = some (vp_cell _ _)
  rw [e1, vp_cell_l]
  rfl
end ZNL
/-! the beginning: nothing is there -/
def r0 : Nat → Int32 := upd z0 3 (-4)
theorem r0_3 : hdC (r0 3) = -1 := by decide
theorem r0_n {j : Nat} (h : j ≠ 3) : r0 j = 0 := upd_ne _ _ h
theorem rg00 {b : Int} (h : 0 ≤ b) : rg 0 0 b := ⟨by decide, by have : (0 : Int32).toInt = 0 := rfl; omega⟩
theorem Inv_0 : Inv r0 := by
  have n0 : nP r0 = 0 := by unfold nP; rw [r0_n (by decide)]; rfl
  have n1 : nT r0 = 0 := by unfold nT; rw [r0_n (by decide)]; rfl
  have n2 : nA r0 = 0 := by unfold nA; rw [r0_n (by decide)]; rfl
  refine ⟨⟨?_, ?_, ?_⟩, ⟨⟨Or.inl ?_, ?_, ?_, ?_, ?_⟩, fun n hn => ?_⟩, fun n hn => ?_, fun n hn => ?_, fun n hn => ?_⟩
  · rw [r0_n (by decide)]; exact rg00 (by decide)
  · rw [r0_n (by decide)]; exact rg00 (by decide)
  · rw [r0_n (by decide)]; exact rg00 (by decide)
  · exact upd_self _ _ _
  · show rg (r0 4) 0 20; rw [r0_n (by decide)]; exact rg00 (by decide)
  · show rg (r0 5) 0 1; rw [r0_n (by decide)]; exact rg00 (by decide)
  · show rg (r0 6) 0 3; rw [r0_n (by decide)]; exact rg00 (by decide)
  · show rg (r0 7) (-9) 9; rw [r0_n (by decide)]; exact ⟨by decide, by decide⟩
  · unfold g6; rw [r0_n (by omega)]; exact rg00 (by decide)
  · rw [n0] at hn; omega
  · rw [n1] at hn; omega
  · rw [n2] at hn; omega
theorem CG_0 (d : Nat → ClassId) : CG d gN r0 0 0 0 z0 nn nn nn := by
  have n0 : nP r0 = 0 := by unfold nP; rw [r0_n (by decide)]; rfl
  have n1 : nT r0 = 0 := by unfold nT; rw [r0_n (by decide)]; rfl
  have n2 : nA r0 = 0 := by unfold nA; rw [r0_n (by decide)]; rfl
  refine ⟨Inv_0, by rw [n0]; rfl, by rw [n1]; rfl, by rw [n2]; rfl, fun n hn => ?_, fun n hn => ?_, fun n hn => ?_, fun n hn => ?_⟩
  · rw [n0] at hn; omega
  · rw [n1] at hn; omega
  · rw [n2] at hn; omega
  · rw [n0] at hn; omega
theorem ShG_0 (d : Nat → ClassId) : ShG d gN nn nn z0 z0 z0 z0 z0 z0 := ⟨fun n hn => ⟨rg00 (by decide), rg00 (by decide), rg00 (by decide)⟩, fun n hn => Or.inl ⟨rfl, rfl, rfl⟩⟩
theorem CLS_0 {E : zE} {b : Nat → Nat} {H : Heap} {F : Nat → Prop} (hP : va_P E.1 vwCl (wK0 b E.2.1) H) (hD : va_D F (wK0 b E.2.1)) : CLS E b r0 z0 false z0 z0 z0 z0 z0 z0 gN H := by
  have hW : WW E (wK0 b E.2.1) gN H := WW.of hP (fun i j x y hi hj he => hD.1 i j x y hi hj he)
  have hW : WW E (wK b E.2.1 (wT b E.2.1 0 0 0 (-1) 0 0 0 0 z0 nn nn nn z0 0 0 0 (-1) 0 0 0 0 z0 nn nn nn z0 0 0 0 false 0 0 z0 z0) false nn nn z0 z0 z0 0 0 0 (hdC (r0 3)) (r0 4) (r0 5) (r0 6) (r0 7) z0 nn nn nn z0 (-1) 0 0 0 0 z0) gN H := by
    rw [r0_3, r0_n (j := 4) (by decide), r0_n (j := 5) (by decide), r0_n (j := 6) (by decide), r0_n (j := 7) (by decide)]
    exact hW
  exact CLS.mk hW (CG_0 _) (ShG_0 _) (fun h => absurd h Bool.false_ne_true) (fun i _ v h => by cases h) (fun i _ v h => by cases h) (fun i _ v h => by cases h) (fun i _ v h => by cases h) (fun i _ v h => by cases h) (fun i _ v h => by cases h) (fun d e p q o u w h => by cases h) (fun k q h => by cases h) (fun k q o w h => by cases h) (fun k q o w h => by cases h)
theorem REF_0 {E : zE} {a : Nat → Nat} {H : Heap} {F : Nat → Prop} (hP : va_P E.1 vwCl (wM0 a (E.2.1 0)) H) (hD : va_D F (wM0 a (E.2.1 0))) : REF E a r0 z0 false z0 z0 z0 z0 z0 z0 H :=
  ⟨z0, z0, z0, z0, z0, 0, 0, 0, 0, 0, false, (WW.of hP (fun i j x y hi hj he => hD.1 i j x y hi hj he) : WW E (wM0 a (E.2.1 0)) gN H)⟩
theorem wK0_at (b : Nat → Nat) (d : Nat → ClassId) : ∀ k, k < 32 → ∃ e, (wK0 b d)[k]? = some (b k, e) := by
  intro k hk
  rcases (show k = 0 ∨ k = 1 ∨ k = 2 ∨ k = 3 ∨ k = 4 ∨ k = 5 ∨ k = 6 ∨ k = 7 ∨ k = 8 ∨ k = 9 ∨ k = 10 ∨ k = 11 ∨ k = 12 ∨ k = 13 ∨ k = 14 ∨ k = 15 ∨ k = 16 ∨ k = 17 ∨ k = 18 ∨ k = 19 ∨ k = 20 ∨ k = 21 ∨ k = 22 ∨ k = 23 ∨ k = 24 ∨ k = 25 ∨ k = 26 ∨ k = 27 ∨ k = 28 ∨ k = 29 ∨ k = 30 ∨ k = 31 by omega) with rfl | rfl | rfl | rfl | rfl | rfl | rfl | rfl | rfl | rfl | rfl | rfl | rfl | rfl | rfl | rfl | rfl | rfl | rfl | rfl | rfl | rfl | rfl | rfl | rfl | rfl | rfl | rfl | rfl | rfl | rfl | rfl
  all_goals exact ⟨_, rfl⟩
theorem wM0_at (a : Nat → Nat) (d : ClassId) : ∀ k, k < 14 → ∃ e, (wM0 a d)[k]? = some (a k, e) := by
  intro k hk
  rcases (show k = 0 ∨ k = 1 ∨ k = 2 ∨ k = 3 ∨ k = 4 ∨ k = 5 ∨ k = 6 ∨ k = 7 ∨ k = 8 ∨ k = 9 ∨ k = 10 ∨ k = 11 ∨ k = 12 ∨ k = 13 by omega) with rfl | rfl | rfl | rfl | rfl | rfl | rfl | rfl | rfl | rfl | rfl | rfl | rfl | rfl
  all_goals exact ⟨_, rfl⟩
theorem LF_0 {E : zE} {a b : Nat → Nat} {o N : Nat} {x : va_E} (hD : va_D (FL N) ((wK0 b E.2.1 ++ wM0 a (E.2.1 0)) ++ [(o, x)])) (ha : ∀ k, ∃ j, j < 14 ∧ a k = a j) (hb : ∀ k, ∃ j, j < 32 ∧ b k = b j) : LF a b o N := by
  have lk : (wK0 b E.2.1).length = 32 := rfl
  have lm : (wM0 a (E.2.1 0)).length = 14 := rfl
  have hB : ∀ k, k < 32 → ∃ e, ((wK0 b E.2.1 ++ wM0 a (E.2.1 0)) ++ [(o, x)])[k]? = some (b k, e) := fun k hk => by
    obtain ⟨e, he⟩ := wK0_at b E.2.1 k hk
    exact ⟨e, by rw [List.getElem?_append_left (by rw [List.length_append]; omega), List.getElem?_append_left (by omega)]; exact he⟩
  have hM : ∀ k, k < 14 → ∃ e, ((wK0 b E.2.1 ++ wM0 a (E.2.1 0)) ++ [(o, x)])[32 + k]? = some (a k, e) := fun k hk => by
    obtain ⟨e, he⟩ := wM0_at a (E.2.1 0) k hk
    exact ⟨e, by rw [List.getElem?_append_left (by rw [List.length_append]; omega), List.getElem?_append_right (by omega), show 32 + k - (wK0 b E.2.1).length = k by omega]; exact he⟩
  have hO : ((wK0 b E.2.1 ++ wM0 a (E.2.1 0)) ++ [(o, x)])[46]? = some (o, x) := by
    rw [List.getElem?_append_right (by rw [List.length_append]; omega), List.length_append, lk, lm]; rfl
  refine ⟨fun j k h => ?_, fun k h => ?_, fun j h => ?_, fun k => ?_, fun j => ?_, hD.2 46 _ hO, ha⟩
  · obtain ⟨j2, hj, ej⟩ := ha j
    obtain ⟨k2, hk, ek⟩ := hb k
    obtain ⟨e1, h1⟩ := hM j2 hj
    obtain ⟨e2, h2⟩ := hB k2 hk
    have := hD.1 _ _ _ _ h1 h2 (by show a j2 = b k2; rw [← ej, ← ek]; exact h)
    omega
  · obtain ⟨k2, hk, ek⟩ := hb k
    obtain ⟨e2, h2⟩ := hB k2 hk
    have := hD.1 _ _ _ _ hO h2 (by show o = b k2; rw [← ek]; exact h)
    omega
  · obtain ⟨j2, hj, ej⟩ := ha j
    obtain ⟨e1, h1⟩ := hM j2 hj
    have := hD.1 _ _ _ _ hO h1 (by show o = a j2; rw [← ej]; exact h)
    omega
  · obtain ⟨k2, hk, ek⟩ := hb k
    obtain ⟨e2, h2⟩ := hB k2 hk
    rw [ek]; exact hD.2 _ _ h2
  · obtain ⟨j2, hj, ej⟩ := ha j
    obtain ⟨e1, h1⟩ := hM j2 hj
    rw [ej]; exact hD.2 _ _ h1
