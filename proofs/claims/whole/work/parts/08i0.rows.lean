/-! the class: rows that write fields, references, whole arrays -/
section ZK
variable {p : Program} {l : Launch} {e : Env} {R : Room} {s : State} {m : MethodId} {args : Array Value} {below : List Frame} {meth : Method} {c : Code} {H H0 : Heap} {locs : List Loc} {cells slots : Nat} {Q : State → Prop}
variable {cc : ByteArray} {pc : Nat} {ls : Array Slot} {rest st0 : List Value} {E : zE} {own : String} {nL : Nat} {ws : va_W} {G : zG} {F : Nat → Prop}
theorem z_putK1 (cx : Cx E p s args m c own cc nL) (hW : WW E ws G H) (hS : va_S F H0 H locs) (i : Nat) {a index : Nat} {fs : List Value} (hi : ws[i]? = some (a, .inr (1, fs))) (hF : F a) (k : Nat) (hk : Nat.blt k 8 = true) (hlink : Cond.fieldLink own index (TX1 k).1 (TX1 k).2.1 (TX1 k).2.2.1 ∈ AllW) {v : Int32} (hty : (TX1 k).2.2 = ("I", false)) (hl : Nat.blt k fs.length = true) (hdg : decode cc pc = .ok (.putfield index, 3))
    (kk : ∀ (H1 : Heap) (locs1 : List Loc), WW E (ws.set i (a, .inr (1, fs.set k (.int v)))) G H1 → va_S F H0 H1 locs1 → W p l e R s m args below meth c H1 locs1 cells slots Q (F0 m (pc + 3) ls rest)) : W p l e R s m args below meth c H locs cells slots Q (F0 m pc ls (.int v :: .ref a :: rest)) :=
  z_put cx hW hS i hi hF (C := RX1) (T := TX1) (N := 8) rfl i_X1 tyX1_ok nmX1 k hk hlink (by rw [hty]) (ty := .int) (by rw [hty]; decide +kernel) rfl rfl (by simpa using hl) hdg kk
theorem z_putK5 (cx : Cx E p s args m c own cc nL) (hW : WW E ws G H) (hS : va_S F H0 H locs) (i : Nat) {a index : Nat} {fs : List Value} (hi : ws[i]? = some (a, .inr (5, fs))) (hF : F a) (k : Nat) (hk : Nat.blt k 6 = true) (hlink : Cond.fieldLink own index (TX5 k).1 (TX5 k).2.1 (TX5 k).2.2.1 ∈ AllW) {v : Int32} (hty : (TX5 k).2.2 = ("I", false)) (hl : Nat.blt k fs.length = true) (hdg : decode cc pc = .ok (.putfield index, 3))
    (kk : ∀ (H1 : Heap) (locs1 : List Loc), WW E (ws.set i (a, .inr (5, fs.set k (.int v)))) G H1 → va_S F H0 H1 locs1 → W p l e R s m args below meth c H1 locs1 cells slots Q (F0 m (pc + 3) ls rest)) : W p l e R s m args below meth c H locs cells slots Q (F0 m pc ls (.int v :: .ref a :: rest)) :=
  z_put cx hW hS i hi hF (C := RX5) (T := TX5) (N := 6) rfl i_X5 tyX5_ok nmX5 k hk hlink (by rw [hty]) (ty := .int) (by rw [hty]; decide +kernel) rfl rfl (by simpa using hl) hdg kk
theorem z_putK3 (cx : Cx E p s args m c own cc nL) (hW : WW E ws G H) (hS : va_S F H0 H locs) (i : Nat) {a index : Nat} {fs : List Value} (hi : ws[i]? = some (a, .inr (3, fs))) (hF : F a) (k : Nat) (hk : Nat.blt k 8 = true) (hlink : Cond.fieldLink own index (TX3 k).1 (TX3 k).2.1 (TX3 k).2.2.1 ∈ AllW) {v : Int32} (hty : (TX3 k).2.2 = ("I", false)) (hl : Nat.blt k fs.length = true) (hdg : decode cc pc = .ok (.putfield index, 3))
    (kk : ∀ (H1 : Heap) (locs1 : List Loc), WW E (ws.set i (a, .inr (3, fs.set k (.int v)))) G H1 → va_S F H0 H1 locs1 → W p l e R s m args below meth c H1 locs1 cells slots Q (F0 m (pc + 3) ls rest)) : W p l e R s m args below meth c H locs cells slots Q (F0 m pc ls (.int v :: .ref a :: rest)) :=
  z_put cx hW hS i hi hF (C := RX3) (T := TX3) (N := 8) rfl i_X3 tyX3_ok nmX3 k hk hlink (by rw [hty]) (ty := .int) (by rw [hty]; decide +kernel) rfl rfl (by simpa using hl) hdg kk
theorem z_putK3z (cx : Cx E p s args m c own cc nL) (hW : WW E ws G H) (hS : va_S F H0 H locs) (i : Nat) {a index : Nat} {fs : List Value} (hi : ws[i]? = some (a, .inr (3, fs))) (hF : F a) {b : Bool} (hlink : Cond.fieldLink own index (TX3 3).1 (TX3 3).2.1 (TX3 3).2.2.1 ∈ AllW) (hl : Nat.blt 3 fs.length = true) (hdg : decode cc pc = .ok (.putfield index, 3))
    (kk : ∀ (H1 : Heap) (locs1 : List Loc), WW E (ws.set i (a, .inr (3, fs.set 3 (.int (bI b))))) G H1 → va_S F H0 H1 locs1 → W p l e R s m args below meth c H1 locs1 cells slots Q (F0 m (pc + 3) ls rest)) : W p l e R s m args below meth c H locs cells slots Q (F0 m pc ls (.int (bI b) :: .ref a :: rest)) :=
  z_put cx hW hS i hi hF (C := RX3) (T := TX3) (N := 8) rfl i_X3 tyX3_ok nmX3 3 (by decide) hlink rfl (ty := .boolean) (by decide +kernel) (bI_narrow b) (by cases b <;> rfl) (by simpa using hl) hdg kk
theorem z_putK7 (cx : Cx E p s args m c own cc nL) (hW : WW E ws G H) (hS : va_S F H0 H locs) (i : Nat) {a index : Nat} {fs : List Value} (hi : ws[i]? = some (a, .inr (7, fs))) (hF : F a) {b : Bool} (hlink : Cond.fieldLink own index (TX7 2).1 (TX7 2).2.1 (TX7 2).2.2.1 ∈ AllW) (hl : Nat.blt 2 fs.length = true) (hdg : decode cc pc = .ok (.putfield index, 3))
    (kk : ∀ (H1 : Heap) (locs1 : List Loc), WW E (ws.set i (a, .inr (7, fs.set 2 (.int (bI b))))) G H1 → va_S F H0 H1 locs1 → W p l e R s m args below meth c H1 locs1 cells slots Q (F0 m (pc + 3) ls rest)) : W p l e R s m args below meth c H locs cells slots Q (F0 m pc ls (.int (bI b) :: .ref a :: rest)) :=
  z_put cx hW hS i hi hF (C := RX7) (T := TX7) (N := 11) rfl i_X7 tyX7_ok nmX7 2 (by decide) hlink rfl (ty := .boolean) (by decide +kernel) (bI_narrow b) (by cases b <;> rfl) (by simpa using hl) hdg kk
theorem vi_nI {j n : Nat} (hj : j < n) (hn : n < 2 ^ 31) : vp_in (nI j) n := vp_in_nI hj hn
theorem z_aastN (cx : Cx E p s args m c own cc nL) (hW : WW E ws G H) (hS : va_S F H0 H locs) (i t0 : Nat) {a n j : Nat} {C : String} {f : Nat → Option Nat} {x : Int32} (hi : ws[i]? = some (a, ceR (E.2.1 t0) n f)) (ht : (tyL E.2.1)[t0]? = some (E.2.1 t0, .object C)) (hF : F a) (hx : x = nI j) (hj : j < n) (hn : n < 2 ^ 31) (hdg : decode cc pc = .ok (.aastore, 1))
    (kk : ∀ (H1 : Heap) (locs1 : List Loc), WW E (ws.set i (a, ceR (E.2.1 t0) n (va_up f j none))) G H1 → va_S F H0 H1 locs1 → W p l e R s m args below meth c H1 locs1 cells slots Q (F0 m (pc + 1) ls rest)) : W p l e R s m args below meth c H locs cells slots Q (F0 m pc ls (.null :: .int x :: .ref a :: rest)) := by
  subst hx
  refine va_WaastN (C := C) cx.x cx.b (hW.1 i _ hi) ((cx.K.2 t0 _ ht).1 n (fun j => va_rf (f j))) (fun h => by cases h) (by show ¬ (nI j < 0 ∨ (arrV _ _ _).slots.size ≤ _); rw [arrV_size]; exact vi_nI hj hn) rfl rfl hdg fun H1 e z oq => ?_
  rw [nI_clamp (by omega)] at e ⊢
  refine kk H1 _ (hW.set hi ?_ (fun q _ => oq q)) (hS.put z oq hF)
  show H1[a]? = some (vp_cell _ _)
  rw [e, vp_cell_q, vp_cell_q, arrV_store]
  congr 2
  funext q
  by_cases hq : q = j
  · subst hq; simp [updV, va_up, va_rf]
  · simp [updV, va_up, hq]
theorem z_aast (cx : Cx E p s args m c own cc nL) (hW : WW E ws G H) (hS : va_S F H0 H locs) (i t0 ci : Nat) {a n j v : Nat} {r : vw_C} {vs : List Value} {f : Nat → Option Nat} {x : Int32} (hi : ws[i]? = some (a, ceR (E.2.1 t0) n f)) (ht : (tyL E.2.1)[t0]? = some (E.2.1 t0, .object r.1)) (hv : va_at E.1 vwCl (v, .inr (ci, vs)) H) (hc : vwCl[ci]? = some r) (hF : F a) (hx : x = nI j) (hj : j < n) (hn : n < 2 ^ 31) (hdg : decode cc pc = .ok (.aastore, 1))
    (kk : ∀ (H1 : Heap) (locs1 : List Loc), WW E (ws.set i (a, ceR (E.2.1 t0) n (va_up f j (some v)))) G H1 → va_S F H0 H1 locs1 → W p l e R s m args below meth c H1 locs1 cells slots Q (F0 m (pc + 1) ls rest)) : W p l e R s m args below meth c H locs cells slots Q (F0 m pc ls (.ref v :: .int x :: .ref a :: rest)) := by
  subst hx
  have hin := vi_nI hj hn
  obtain ⟨r', hr', cellV, g1, g2, g3, -⟩ := hv
  have hcls := (cx.K.1 ci r hc).2
  obtain ⟨kA, comp, k1, k2, k3, -⟩ := (cx.K.2 t0 _ ht).2
  have hcomp : comp = E.1.1 ci := Option.some.inj (k3.symm.trans hcls.1)
  subst hcomp
  obtain ⟨kC, hkC, -⟩ := hcls.2
  refine W.aast cx.x cx.b (hW.1 i _ hi) (fun q h => by cases h) (fun h => by cases h) k1 k2 rfl hkC ⟨fun q => hin (Or.inl q), by show _ < (arrV _ _ _).slots.size; rw [arrV_size, nI_clamp (by omega)]; exact hj⟩ g1 (fun q h => by rw [g3] at h; cases h) (by rw [g2]; exact hkC) (by rw [g2]; exact va_assign hcls) rfl rfl hdg fun H1 e z oq => ?_
  rw [nI_clamp (by omega)] at e ⊢
  refine kk H1 _ (hW.set hi ?_ (fun q _ => oq q)) (hS.put z oq hF)
  show H1[a]? = some (vp_cell _ _)
  rw [e, vp_cell_q, vp_cell_q, arrV_store]
  congr 2
  funext q
  by_cases hq : q = j
  · subst hq; simp [updV, va_up, va_rf]
  · simp [updV, va_up, hq]
/-- a reference out of a like array: nothing, or an object of the class -/
theorem z_aastO (cx : Cx E p s args m c own cc nL) (hW : WW E ws G H) (hS : va_S F H0 H locs) (i t0 ci : Nat) {a n j : Nat} {r : vw_C} {o : Option Nat} {f : Nat → Option Nat} {x : Int32} (hi : ws[i]? = some (a, ceR (E.2.1 t0) n f)) (ht : (tyL E.2.1)[t0]? = some (E.2.1 t0, .object r.1)) (hv : ∀ v, o = some v → ∃ vs, G v = some (.inr (ci, vs))) (hc : vwCl[ci]? = some r) (hF : F a) (hx : x = nI j) (hj : j < n) (hn : n < 2 ^ 31) (hdg : decode cc pc = .ok (.aastore, 1))
    (kk : ∀ (H1 : Heap) (locs1 : List Loc), WW E (ws.set i (a, ceR (E.2.1 t0) n (va_up f j o))) G H1 → va_S F H0 H1 locs1 → W p l e R s m args below meth c H1 locs1 cells slots Q (F0 m (pc + 1) ls rest)) : W p l e R s m args below meth c H locs cells slots Q (F0 m pc ls (va_rf o :: .int x :: .ref a :: rest)) := by
  cases o with
  | none => exact z_aastN cx hW hS i t0 hi ht hF hx hj hn hdg kk
  | some v =>
    obtain ⟨vs, hg⟩ := hv v rfl
    exact z_aast cx hW hS i t0 ci hi ht (hW.dyn hg) hc hF hx hj hn hdg kk
theorem WW.congrR {E : zE} {ws : va_W} {G : zG} {H : Heap} (h : WW E ws G H) {i a n : Nat} {d : ClassId} {f g : Nat → Option Nat} (hi : ws[i]? = some (a, ceR d n f)) (hfg : ∀ j, j < n → f j = g j) : WW E (ws.set i (a, ceR d n g)) G H := by
  refine h.set hi ?_ fun q _ _ => rfl
  have h1 : H[a]? = some (vp_cell d (n, .inr (.inr (.inr (.inr f))))) := h.at i hi
  show H[a]? = some (vp_cell d (n, .inr (.inr (.inr (.inr g)))))
  rw [h1, vp_cell_q, vp_cell_q, arrV_below fun j hj => by rw [hfg j hj]]
/-- all of an array of ints into another of its size -/
theorem z_copyI (cx : Cx E p s args m c own cc nL) (hW : WW E ws G H) (hS : va_S F H0 H locs) (i : Nat) {a0 a n index : Nat} {f g : Nat → Int32} (hsrc : va_at E.1 vwCl (a0, ceI E.2.1 n f) H) (hi : ws[i]? = some (a, ceI E.2.1 n g)) (hF : F a) (hn : n < 2 ^ 31) (hsz : ls.size = nL) (hlink : Cond.methodLink own index arraycopyName ∈ AllW) (hR : 1 ≤ R.frames ∧ 8 + (nativeFrameWords "java/lang/System" "arraycopy" 5 + 11) ≤ R.locals) (h8 : (rest.map fun v => v.category).sum ≤ 8) (hdg : decode cc pc = .ok (.invokestatic index, 3))
    (kk : ∀ (H1 : Heap) (locs1 : List Loc), WW E (ws.set i (a, ceI E.2.1 n f)) G H1 → va_S F H0 H1 locs1 → W p l e R s m args below meth c H1 locs1 cells slots Q (F0 m (pc + 3) ls rest)) : W p l e R s m args below meth c H locs cells slots Q (F0 m pc ls (.int (nI n) :: .int 0 :: .ref a :: .int 0 :: .ref a0 :: rest)) := by
  intro T hT X
  have hc0 : H[a0]? = some (vp_cell (E.2.1 0) (n, .inl f)) := hsrc
  have hc1 : H[a]? = some (vp_cell (E.2.1 0) (n, .inl g)) := hW.1 i _ hi
  have h31 : n < 2147483648 := hn
  have hcl : (nI n).toNatClampNeg = n := nI_clamp h31
  have hti : (nI n).toInt = n := nI_toInt h31
  have h00 : (0 : Int32).toInt = 0 := rfl
  obtain ⟨-, k0, hk0, cm0, hkk0⟩ := (cx.K.2 0 _ rfl).1 n (fun j => .int (f j))
  obtain ⟨-, k1, hk1, cm1, hkk1⟩ := (cx.K.2 0 _ rfl).1 n (fun j => .int (g j))
  obtain ⟨vm', X', step⟩ := X.arraycopy cx.x cx.own (cx.ts _ hlink) (cx.ts _ m_na_Qarraycopy) (cx.ts _ m_st_Qarraycopy) (cx.ts _ m_in_RJ10) (src := a0) (dst := a) (cs := vp_cell (E.2.1 0) (n, .inl f)) (cd := vp_cell (E.2.1 0) (n, .inl g)) (srcPos := 0) (destPos := 0) (n := nI n) (by rw [hT]; exact hc0) (by rw [hT]; exact hc1)
    (fun _ h => by cases h) (fun _ h => by cases h) (fun h => by cases h) (fun h => by cases h) hk0 hk1 hkk0 hkk1 (by simp [refKind]) (by decide) (by decide) (nI_n0 h31)
    (by rw [h00, hti]; show ¬ _ > ((arrV (E.2.1 0) n (fun j => .int (f j))).slots.size : Int); rw [arrV_size]; omega)
    (by rw [h00, hti]; show ¬ _ > ((arrV (E.2.1 0) n (fun j => .int (g j))).slots.size : Int); rw [arrV_size]; omega)
    (fun vm₁ _ k hk => by
      have hk' : k < n := by rw [hcl] at hk; exact hk
      have e : (vp_cell (E.2.1 0) (n, .inl f)).slots.getD ((0 : Int32).toNatClampNeg + k) .null = .int (f k) := by
        show (arrV (E.2.1 0) n (fun j => .int (f j))).slots.getD (0 + k) _ = _
        rw [Nat.zero_add, Array.getD_eq_getD_getElem?, arrV_read _ _ hk']
        rfl
      rw [e]
      exact ⟨rfl, trivial⟩)
    (g := F0 m pc ls (.int (nI n) :: .int 0 :: .ref a :: .int 0 :: .ref a0 :: rest)) rfl (by rw [cx.1.2.2.1]; exact hsz) (rest := rest) rfl (by rw [cx.b]; exact hdg) hR.1 (by show 2 * 0 + _ + _ ≤ _; omega)
  have e1 : copied (vp_cell (E.2.1 0) (n, .inl f)) (vp_cell (E.2.1 0) (n, .inl g)) 0 0 (nI n) = vp_cell (E.2.1 0) (n, .inl (va_cpy f g 0 0 n)) := by
    have h : copied (vp_cell (E.2.1 0) (n, .inl f)) (vp_cell (E.2.1 0) (n, .inl g)) 0 0 (nI n) = vp_cell (E.2.1 0) (n, .inl (va_cpy f g (0 : Int32).toNatClampNeg (0 : Int32).toNatClampNeg (nI n).toNatClampNeg)) := va_copied (fun z => .int z) (E.2.1 0) (E.2.1 0) f g (by rw [hcl]; show 0 + n ≤ n; omega)
    rw [h, hcl]
    rfl
  have e2 : vp_cell (E.2.1 0) (n, .inl (va_cpy f g 0 0 n)) = vp_cell (E.2.1 0) (n, .inl f) := by
    rw [vp_cell_i, vp_cell_i, arrV_below fun j hj => ?_]
    simp [va_cpy, hj]
  rw [e1, e2] at X' step
  have hl : a < H.size := (Array.getElem?_eq_some_iff.mp hc1).1
  have hheap : ((T.setVm vm').setCell a (vp_cell (E.2.1 0) (n, .inl f))).heap = H.setIfInBounds a (vp_cell (E.2.1 0) (n, .inl f)) := by rw [← hT]; rfl
  have oq : ∀ q : Nat, q ≠ a → (H.setIfInBounds a (vp_cell (E.2.1 0) (n, .inl f)))[q]? = H[q]? := fun q hq => by simp [Array.getElem?_setIfInBounds, Ne.symm hq]
  obtain ⟨t, a1, b1⟩ := kk _ _ (hW.set hi (show (H.setIfInBounds a _)[a]? = some _ by simp [Array.getElem?_setIfInBounds, hl]) (fun q _ => oq q)) ⟨by simp; exact hS.1, fun q g1 g2 => by
      rw [oq q (fun e => g2 (by rw [e]; exact hF))]
      exact hS.2.1 q g1 g2, fun q hq => by
      rcases List.mem_append.mp hq with h | h
      · exact hS.2.2 q h
      · obtain ⟨z, -, hz⟩ := List.mem_map.mp h
        rw [← hz]
        exact hF⟩ _ hheap X'
  exact ⟨t, step t a1, b1⟩
end ZK
