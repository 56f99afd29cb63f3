/-! the class: new objects -/
def rmA (f l c s : Nat) : Room := { frames := f, cells := c, slots := s, locals := l }
def bFz (b : Nat → Nat) (N : Nat) : Nat → Prop := fun q => bF b q ∨ N ≤ q
def GLe (G G2 : zG) : Prop := ∀ q e, G q = some e → G2 q = some e
theorem GLe.rf (G : zG) : GLe G G := fun _ _ h => h
theorem GLe.tr {G G2 G3 : zG} (h : GLe G G2) (h2 : GLe G2 G3) : GLe G G3 := fun q e hq => h2 q e (h q e hq)
theorem PcG.mono {G G2 : zG} {r : Nat → Int32} {pp : Nat → Option Nat} (h : PcG G r pp) (hL : GLe G G2) : PcG G2 r pp := fun n hn => by obtain ⟨q, h1, h2⟩ := h n hn; exact ⟨q, h1, hL _ _ h2⟩
theorem ThG.mono {G G2 : zG} {r : Nat → Int32} {tp : Nat → Option Nat} (h : ThG G r tp) (hL : GLe G G2) : ThG G2 r tp := fun n hn => by obtain ⟨q, h1, h2⟩ := h n hn; exact ⟨q, h1, hL _ _ h2⟩
theorem AkG.mono {d : Nat → ClassId} {G G2 : zG} {r : Nat → Int32} {ap : Nat → Option Nat} (h : AkG d G r ap) (hL : GLe G G2) : AkG d G2 r ap := fun n hn => by
  obtain ⟨q, t, w, x, h1, h2, h3, h4, h5⟩ := h n hn
  exact ⟨q, t, w, x, h1, hL _ _ h2, hL _ _ h3, hL _ _ h4, h5⟩
theorem CG.mono {d : Nat → ClassId} {G G2 : zG} {r : Nat → Int32} {pN tN aN : Int32} {wx : Nat → Int32} {pp tp ap : Nat → Option Nat} (h : CG d G r pN tN aN wx pp tp ap) (hL : GLe G G2) : CG d G2 r pN tN aN wx pp tp ap :=
  ⟨h.1, h.2.1, h.2.2.1, h.2.2.2.1, h.2.2.2.2.1.mono hL, h.2.2.2.2.2.1.mono hL, h.2.2.2.2.2.2.1.mono hL, h.2.2.2.2.2.2.2⟩
theorem RfG.mono {G G2 : zG} {ci n : Nat} {f : Nat → Option Nat} (h : RfG G ci n f) (hL : GLe G G2) : RfG G2 ci n f := fun i hi v hv => by obtain ⟨vs, h1⟩ := h i hi v hv; exact ⟨vs, hL _ _ h1⟩
theorem ShG.mono {d : Nat → ClassId} {G G2 : zG} {qt qr : Nat → Option Nat} {kp so sz el pr ts : Nat → Int32} (h : ShG d G qt qr kp so sz el pr ts) (hL : GLe G G2) : ShG d G2 qt qr kp so sz el pr ts := ⟨h.1, fun n hn => by
  rcases h.2 n hn with h1 | ⟨h1, h2, q, v0, v1, v2, v3, v4, v5, h3, h4, h5⟩ | ⟨h1, h2, q, w, x, h3, h4, h5, h6⟩
  · exact Or.inl h1
  · exact Or.inr (Or.inl ⟨h1, h2, q, v0, v1, v2, v3, v4, v5, h3, hL _ _ h4, h5⟩)
  · exact Or.inr (Or.inr ⟨h1, h2, q, w, x, h3, hL _ _ h4, hL _ _ h5, h6⟩)⟩
theorem m_co_Q_init_ : Cond.code Lib.objectInit ⟨#[0xb1]⟩ 1 none ∈ AllW := aw_1 30 rfl rfl
/-- what can be called on what is new -/
def zIm (y : MethodName) (bytes : ByteArray) (maxL n : Nat) : Prop :=
  Cond.code y bytes maxL none ∈ AllW ∧ Cond.initialized y.cls ∈ AllW ∧ (y.name = "<init>" ∧ Cond.instanceMethod y ∈ AllW) ∧ (y.cls ≠ "java/lang/invoke/MethodHandle" ∧ y.cls ≠ "java/lang/invoke/VarHandle" ∧ (parseMethodDescriptor y.desc).map (fun d => d.parameters.length) = some n)
section ZN
variable {p : Program} {l : Launch} {e : Env} {R : Room} {s : State} {m : MethodId} {args : Array Value} {below : List Frame} {meth : Method} {c : Code} {H H0 : Heap} {locs : List Loc} {cells slots : Nat} {Q : State → Prop}
variable {cc : ByteArray} {pc : Nat} {ls : Array Slot} {rest st0 : List Value} {E : zE} {own : String} {nL : Nat} {ws : va_W} {G : zG} {F : Nat → Prop}
theorem z_oinit {index a : Nat} (cx : Cx E p s args m c own cc nL) (hsz : ls.size = nL) (hlink : Cond.methodLink own index ⟨"java/lang/Object", "<init>", "()V"⟩ ∈ AllW) (hR : 1 ≤ R.frames ∧ 20 ≤ R.locals) (h8 : (rest.map fun v => v.category).sum ≤ 8) (hdg : decode cc pc = .ok (.invokespecial index, 3))
    (kk : W p l e R s m args below meth c H locs cells slots Q (F0 m (pc + 3) ls rest)) : W p l e R s m args below meth c H locs cells slots Q (F0 m pc ls (.ref a :: rest)) :=
  W.objInit cx.x cx.b cx.own (cx.ts _ hlink) (cx.ts _ m_im_Q_init_) (cx.ts _ m_co_Q_init_) rfl (hsz.trans cx.1.2.2.1.symm) rfl hdg hR.1 (by show 2 * 0 + _ + 12 ≤ _; omega) kk
theorem z_new {ci N index : Nat} {C : String} {T : u_T} {fs : List Value} {ty : Nat → FieldType} (cx : Cx E p s args m c own cc nL) (hW : WW E ws G H) (hS : va_S F H0 H locs) (hc : vwCl[ci]? = some (C, T, N)) (hin : ∀ w ∈ u_ws C T N, w ∈ AllW) (hty : ∀ k, k < N → parseFieldDescriptor (T k).2.2.1 = some (ty k)) (hcl : Cond.classLink own index C ∈ AllW) (hinst : Cond.instantiable C N ∈ AllW) (hini : Cond.initialized C ∈ AllW) (hfs : ∀ j, j < N → defaultValue (ty j) = vp_V fs j) (hR : cells + 1 ≤ R.cells ∧ slots + N ≤ R.slots) (hdg : decode cc pc = .ok (.new index, 3))
    (kk : ∀ (q : Nat) (H1 : Heap), H0.size ≤ q → (∀ z e, G z = some e → z ≠ q) → WW E ws (va_up G q (some (.inr (ci, fs)))) H1 → va_S F H0 H1 locs → W p l e R s m args below meth c H1 locs (cells + 1) (slots + N) Q (F0 m (pc + 3) ls (.ref q :: rest))) : W p l e R s m args below meth c H locs cells slots Q (F0 m pc ls rest) := by
  have hKn := cx.K.1 ci _ hc
  refine W.newcK cx.x cx.b cx.own (cx.ts _ hcl) (cx.ts _ hinst) (cx.ts _ hini) rfl hdg hR.1 hR.2 hKn.2.1 rfl fun H1 kC hkC e1 z1 o1 => ?_
  refine kk H.size H1 hS.1 (fun z e hz => Nat.ne_of_lt (hW.ltG hz)) (hW.new ?_ o1) ⟨Nat.le_trans hS.1 (by omega), fun x h1 h2 => (o1 x (Nat.lt_of_lt_of_le h1 hS.1)).trans (hS.2.1 x h1 h2), hS.2.2⟩
  exact ⟨_, hc, (u_born ty cx.ts hin hKn hkC e1 hty).to hfs⟩
theorem z_callIw {y : MethodName} {bytes : ByteArray} {maxL index n mc ms : Nat} {rm : Room} {Wd : Heap → Prop} {b : Nat} {As : List Value} {Pq : Heap → Option Value → Heap → Prop} {F1 : Nat → Prop} (cx : Cx E p s args m c own cc nL) (hv : zIm y bytes maxL n) (hM : Met l y (.code y bytes maxL none :: AllW) rm (zP E Wd (.ref b :: As)) (zQ Pq F1) mc ms F1)
    (hW : Wd H) (hS : va_S F H0 H locs) (hF : ∀ q, F1 q → F q) (hl : Cond.methodLink own index y ∈ AllW) (hrm : rm.cells = mc ∧ rm.slots = ms) (hR : rm.frames + 1 ≤ R.frames ∧ 8 + (maxL + 11) + rm.locals ≤ R.locals) (hn : As.length = n)
    (hsz : ls.size = nL) (hst : st0 = As.reverse ++ .ref b :: rest) (hW8 : (rest.map fun v => v.category).sum ≤ 8) (hdg : decode cc pc = .ok (.invokespecial index, 3)) (hf : cells + mc ≤ R.cells ∧ slots + ms ≤ R.slots)
    (kk : ∀ (v : Option Value) (H1 : Heap) (locs1 : List Loc), Pq H v H1 → va_S F H0 H1 locs1 → (H.size ≤ H1.size ∧ ∀ q : Nat, q < H.size → ¬ F1 q → H1[q]? = H[q]?) → W p l e R s m args below meth c H1 locs1 (cells + mc) (slots + ms) Q (F0 m (pc + 3) ls (v.toList ++ rest))) : W p l e R s m args below meth c H locs cells slots Q (F0 m pc ls st0) := by
  have hr := va_runI (e := e) (below := below) (meth := meth) (H := H) (locs := locs) (cells := cells) (slots := slots) (rest := rest) (As := As) (b := b) (g := F0 m pc ls st0) cx.1 hM ⟨z_cb cx hv.1 hl hv.2.1 hrm.1 hrm.2 hv.2.2.2 hR, hv.2.2.1.1, cx.ts _ hv.2.2.1.2⟩ ⟨zP.blind, fun U hU hW' => ⟨rfl, by rw [hU]; exact hW, cx.2.warm hW'⟩⟩ rfl hn hsz hst (by show 2 * 0 + _ ≤ 8; omega) hdg hf
  intro T hT X
  obtain ⟨v', st₀, t, T', L, h0, X', hL, e1, -, ⟨⟨v, hv', hq⟩, hz, hk⟩, st⟩ := hr T hT X
  cases hv'
  rw [h0] at hz hk hq
  obtain ⟨t2, a1, b1⟩ := kk v' T'.heap (locs ++ L) (by rw [e1]; exact hq)
    ⟨Nat.le_trans hS.1 (by rw [e1]; exact hz), fun q h1 h2 => by rw [e1, hk q (Nat.lt_of_lt_of_le h1 hS.1) (fun z => h2 (hF q z))]; exact hS.2.1 q h1 h2, fun q hq => by
      rcases List.mem_append.mp hq with h | h
      · exact hS.2.2 q h
      · exact hF _ (hL q h)⟩ ⟨by rw [e1]; exact hz, fun q h1 h2 => by rw [e1]; exact hk q h1 h2⟩ T' rfl X'
  exact ⟨t2, st t2 a1, b1⟩
/-- a final field, within a constructor -/
theorem z_putF (cx : Cx E p s args m c own cc nL) (hnm : meth.name = "<init>") (hP : va_P E.1 vwCl ws H) (hD : va_D F ws) (hS : va_S F H0 H locs) (i : Nat) {a ci N index : Nat} {C : String} {T : u_T} {ty0 : Nat → FieldType} {fs : List Value} (hi : ws[i]? = some (a, .inr (ci, fs))) (hc : vwCl[ci]? = some (C, T, N)) (hin : ∀ w ∈ u_ws C T N, w ∈ AllW) (hty : ∀ k, k < N → parseFieldDescriptor (T k).2.2.1 = some (ty0 k)) (hne : ∀ a, a < N → ∀ b, b < N → a ≠ b → (T a).2.1 ≠ (T b).2.1) (k : Nat) (hk : k < N) (hlink : Cond.fieldLink own index (T k).1 (T k).2.1 (T k).2.2.1 ∈ AllW) (hfin : (T k).2.2.2 = true) (hdecl : (T k).1 = own) {ty : FieldType} {v : Value} (hd : parseFieldDescriptor (T k).2.2.1 = some ty) (hn : narrow ty v = v) (hfit : fits ty v = true) (hl : k < fs.length) (hdg : decode cc pc = .ok (.putfield index, 3))
    (kk : ∀ (H1 : Heap) (locs1 : List Loc), va_P E.1 vwCl (ws.set i (a, .inr (ci, fs.set k v))) H1 → va_D F (ws.set i (a, .inr (ci, fs.set k v))) → va_S F H0 H1 locs1 → W p l e R s m args below meth c H1 locs1 cells slots Q (F0 m (pc + 3) ls rest)) : W p l e R s m args below meth c H locs cells slots Q (F0 m pc ls (v :: .ref a :: rest)) :=
  va_putF cx.x cx.b cx.ts hin ty0 hty hne cx.own cx.K hP hD hS i hi hc k hk (cx.ts _ hlink) (fun _ h => h) hfin hnm hdecl hd hn hfit hl hdg kk
theorem z_putV (cx : Cx E p s args m c own cc nL) (hP : va_P E.1 vwCl ws H) (hD : va_D F ws) (hS : va_S F H0 H locs) (i : Nat) {a ci N index : Nat} {C : String} {T : u_T} {ty0 : Nat → FieldType} {fs : List Value} (hi : ws[i]? = some (a, .inr (ci, fs))) (hc : vwCl[ci]? = some (C, T, N)) (hin : ∀ w ∈ u_ws C T N, w ∈ AllW) (hty : ∀ k, k < N → parseFieldDescriptor (T k).2.2.1 = some (ty0 k)) (hne : ∀ a, a < N → ∀ b, b < N → a ≠ b → (T a).2.1 ≠ (T b).2.1) (k : Nat) (hk : k < N) (hlink : Cond.fieldLink own index (T k).1 (T k).2.1 (T k).2.2.1 ∈ AllW) (hfin : (T k).2.2.2 = false) {ty : FieldType} {v : Value} (hd : parseFieldDescriptor (T k).2.2.1 = some ty) (hn : narrow ty v = v) (hfit : fits ty v = true) (hl : k < fs.length) (hdg : decode cc pc = .ok (.putfield index, 3))
    (kk : ∀ (H1 : Heap) (locs1 : List Loc), va_P E.1 vwCl (ws.set i (a, .inr (ci, fs.set k v))) H1 → va_D F (ws.set i (a, .inr (ci, fs.set k v))) → va_S F H0 H1 locs1 → W p l e R s m args below meth c H1 locs1 cells slots Q (F0 m (pc + 3) ls rest)) : W p l e R s m args below meth c H locs cells slots Q (F0 m pc ls (v :: .ref a :: rest)) :=
  va_put cx.x cx.b cx.ts hin ty0 hty hne cx.own cx.K hP hD hS i hi hc k hk (cx.ts _ hlink) (fun _ h => h) hfin hd hn hfit hl hdg kk
theorem z_newI {n : Nat} (cx : Cx E p s args m c own cc nL) (hP : va_P E.1 vwCl ws H) (hD : va_D F ws) (hS : va_S F H0 H locs) (hA : ∀ q, H0.size ≤ q → F q) (hn : n ≤ 1000) (hR : cells + 1 ≤ R.cells ∧ slots + n ≤ R.slots) (hdg : decode cc pc = .ok (.newarray .int, 2))
    (kk : ∀ (q : Nat) (H1 : Heap), H.size ≤ q → va_P E.1 vwCl (ws ++ [(q, ceI E.2.1 n (fun _ => 0))]) H1 → va_D F (ws ++ [(q, ceI E.2.1 n (fun _ => 0))]) → va_S F H0 H1 locs → W p l e R s m args below meth c H1 locs (cells + 1) (slots + n) Q (F0 m (pc + 2) ls (.ref q :: rest))) : W p l e R s m args below meth c H locs cells slots Q (F0 m pc ls (.int (nI n) :: rest)) := by
  have hcl : (nI n).toNatClampNeg = n := nI_clamp (by omega)
  refine va_newaK (atype := .int) cx.x cx.b (cx.ts _ m_ac_int) rfl hdg rfl (nI_n0 (by omega)) hcl (by show n * 4 ≤ _; omega) hR.1 hR.2 rfl fun H1 cA e1 z1 o1 hAr hNm => ?_
  have hcA : cA = E.2.1 0 := Option.some.inj (hNm.symm.trans (cx.K.2 0 _ rfl).2)
  subst hcA
  have hk : ∀ (k : Nat) (x : Nat × va_E), ws[k]? = some x → H1[x.1]? = H[x.1]? := fun k x hx => o1 x.1 ((hP k x hx).lt)
  refine kk H.size H1 (Nat.le_refl _) ((hP.kept hk).app (fun k x hx => ?_)) (hD.push hP rfl (hA _ hS.1)) ⟨Nat.le_trans hS.1 (by omega), fun x h1 h2 => (o1 x (Nat.lt_of_lt_of_le h1 hS.1)).trans (hS.2.1 x h1 h2), hS.2.2⟩
  have hz : k < 1 := (List.getElem?_eq_some_iff.mp hx).1
  rw [show k = 0 by omega] at hx
  cases hx
  show H1[H.size]? = some (vp_cell _ _)
  rw [e1, vp_cell_i]
  rfl
end ZN
theorem up_s {G : zG} {q : Nat} {e : Option va_E} : va_up G q e q = e := by simp [va_up]
theorem up_up {G : zG} {q : Nat} {x y : Option va_E} : va_up (va_up G q x) q y = va_up G q y := by
  funext z
  unfold va_up
  by_cases h : z = q
  · rw [if_pos h, if_pos h]
  · rw [if_neg h, if_neg h, if_neg h]
theorem up_n {G : zG} {q z : Nat} {e : Option va_E} (h : z ≠ q) : va_up G q e z = G z := by simp [va_up, h]
theorem GLe.up {G : zG} {q : Nat} {x : va_E} (h : ∀ z e, G z = some e → z ≠ q) : GLe G (va_up G q (some x)) := fun z e hz => by rw [up_n (h z e hz)]; exact hz
theorem GLe.up2 {G : zG} {q r : Nat} {x y : va_E} (h : ∀ z e, G z = some e → z ≠ q) (h2 : ∀ z e, va_up G q (some x) z = some e → z ≠ r) : GLe G (va_up (va_up G q (some x)) r (some y)) := (GLe.up h).tr (GLe.up h2)
theorem up_fr {G : zG} {q r : Nat} {x y : va_E} (h : ∀ z e, va_up G q (some x) z = some e → z ≠ r) : ∀ z e, va_up G q (some y) z = some e → z ≠ r := fun z e hz => by
  by_cases c : z = q
  · subst c; exact h z x up_s
  · exact h z e (by rw [up_n c] at hz ⊢; exact hz)
/-- a shelf with a new row -/
theorem ShG_row {d : Nat → ClassId} {G : zG} {qt qr : Nat → Option Nat} {kp so sz el pr ts : Nat → Int32} (h : ShG d G qt qr kp so sz el pr ts) {m q w n : Nat} {o : Int32} (hm : m < 8) (ho : rg o 0 2) (hn : n ≤ 100) (hq : G q = some (ceW o w)) (hw : G w = some (ceI d n (fun _ => 0))) : ShG d G (va_up qt m none) (va_up qr m (some q)) (upd kp m 2) (upd so m o) (upd sz m (nI n)) (zeA el (100 * m) 100) pr ts := by
  have hz : ∀ k, k < 8 → k ≠ m → ∀ i, i < iN (sz k) → zeA el (100 * m) 100 (100 * k + i) = el (100 * k + i) := fun k hk hkm i hi => by
    have := (sz_nat h.1 hk).2
    unfold zeA
    rw [if_neg (by omega)]
  refine ⟨fun k hk => ?_, fun k hk => ?_⟩
  · by_cases c : k = m
    · subst c
      rw [upd_self, upd_self, upd_self]
      exact ⟨rgN (by omega) (by omega) (by omega), ho, ⟨by decide, by decide⟩⟩
    · rw [upd_ne _ _ c, upd_ne _ _ c, upd_ne _ _ c]
      exact h.1 k hk
  · by_cases c : k = m
    · subst c
      rw [upd_self, upd_self, upd_self, up_self, up_self, iN_nI (by omega)]
      refine Or.inr (Or.inr ⟨rfl, rfl, q, w, _, rfl, hq, hw, fun i hi => ?_⟩)
      unfold zeA
      rw [if_pos ⟨by omega, by omega⟩]
    · rw [upd_ne _ _ c, upd_ne _ _ c, upd_ne _ _ c, up_ne c, up_ne c]
      rcases h.2 k hk with h1 | h1 | ⟨h1, h2, q', w', x', h3, h4, h5, h6⟩
      · exact Or.inl h1
      · exact Or.inr (Or.inl h1)
      · exact Or.inr (Or.inr ⟨h1, h2, q', w', x', h3, h4, h5, fun i hi => (h6 i hi).trans (hz k hk c i hi).symm⟩)
