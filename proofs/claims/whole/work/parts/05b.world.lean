/-! WORLDS: a list of cells at named places, and a map of further cells; all apart -/
abbrev zG : Type := Nat → Option va_E
def gN : zG := fun _ => none
def WW (E : zE) (ws : va_W) (G : zG) (H : Heap) : Prop := va_P E.1 vwCl ws H ∧ va_D (fun _ => True) ws ∧ (∀ (q : Nat) (e : va_E), G q = some e → va_at E.1 vwCl (q, e) H) ∧ ∀ (k : Nat) (x : Nat × va_E) (e : va_E), ws[k]? = some x → G x.1 ≠ some e
theorem WW.at {E : zE} {ws : va_W} {G : zG} {H : Heap} (h : WW E ws G H) (i : Nat) {q : Nat × va_E} (hi : ws[i]? = some q) : va_at E.1 vwCl q H := h.1 i q hi
theorem WW.dyn {E : zE} {ws : va_W} {G : zG} {H : Heap} (h : WW E ws G H) {q : Nat} {e : va_E} (hi : G q = some e) : va_at E.1 vwCl (q, e) H := h.2.2.1 q e hi
theorem WW.ne {E : zE} {ws : va_W} {G : zG} {H : Heap} (h : WW E ws G H) (i : Nat) {a q : Nat} {e e' : va_E} (hi : ws[i]? = some (a, e)) (hq : G q = some e') : q ≠ a := fun he => h.2.2.2 i (a, e) e' hi (he ▸ hq)
theorem WW.kept {E : zE} {ws : va_W} {G : zG} {H H1 : Heap} (h : WW E ws G H) (hk : ∀ q : Nat, q < H.size → H1[q]? = H[q]?) : WW E ws G H1 :=
  ⟨h.1.kept fun k q hq => hk _ (h.1 k q hq).lt, h.2.1, fun q e hq => (h.2.2.1 q e hq).kept (hk _ (h.2.2.1 q e hq).lt), h.2.2.2⟩
theorem WW.set {E : zE} {ws : va_W} {G : zG} {H H1 : Heap} (h : WW E ws G H) {i a : Nat} {e0 e : va_E} (hi : ws[i]? = some (a, e0)) (he : va_at E.1 vwCl (a, e) H1) (oq : ∀ q : Nat, q < H.size → q ≠ a → H1[q]? = H[q]?) : WW E (ws.set i (a, e)) G H1 := by
  have hl := (List.getElem?_eq_some_iff.mp hi).1
  refine ⟨fun k q hk => ?_, h.2.1.set hi, fun q e' hq => (h.2.2.1 q e' hq).kept (oq _ (h.2.2.1 q e' hq).lt (h.ne i hi hq)), fun k x e' hk => ?_⟩
  · by_cases hkp : k = i
    · subst hkp
      rw [List.getElem?_set_self hl] at hk
      cases hk
      exact he
    · rw [List.getElem?_set_ne (Ne.symm hkp)] at hk
      exact (h.1 k q hk).kept (oq _ (h.1 k q hk).lt fun z => hkp (h.2.1.1 k i q (a, e0) hk hi z))
  · by_cases hkp : k = i
    · subst hkp
      rw [List.getElem?_set_self hl] at hk
      cases hk
      exact h.2.2.2 k (a, e0) e' hi
    · rw [List.getElem?_set_ne (Ne.symm hkp)] at hk
      exact h.2.2.2 k x e' hk
theorem WW.setG {E : zE} {ws : va_W} {G : zG} {H H1 : Heap} (h : WW E ws G H) {a : Nat} {e0 e : va_E} (hi : G a = some e0) (he : va_at E.1 vwCl (a, e) H1) (oq : ∀ q : Nat, q < H.size → q ≠ a → H1[q]? = H[q]?) : WW E ws (va_up G a (some e)) H1 := by
  refine ⟨fun k q hk => (h.1 k q hk).kept (oq _ (h.1 k q hk).lt fun z => h.2.2.2 k q e0 hk (z ▸ hi)), h.2.1, fun q e' hq => ?_, fun k x e' hk => ?_⟩
  · by_cases hqa : q = a
    · subst hqa
      have : e = e' := by simpa [va_up] using hq
      exact this ▸ he
    · have hq' : G q = some e' := by simpa [va_up, hqa] using hq
      exact (h.2.2.1 q e' hq').kept (oq _ (h.2.2.1 q e' hq').lt hqa)
  · by_cases hqa : x.1 = a
    · exact absurd hi (by rw [← hqa]; exact h.2.2.2 k x e0 hk)
    · simpa [va_up, hqa] using h.2.2.2 k x e' hk
theorem WW.lt {E : zE} {ws : va_W} {G : zG} {H : Heap} (h : WW E ws G H) (i : Nat) {a : Nat} {e : va_E} (hi : ws[i]? = some (a, e)) : a < H.size := (h.1 i _ hi).lt
theorem WW.ltG {E : zE} {ws : va_W} {G : zG} {H : Heap} (h : WW E ws G H) {a : Nat} {e : va_E} (hi : G a = some e) : a < H.size := (h.2.2.1 a e hi).lt
/-- a new cell comes to the map -/
theorem WW.new {E : zE} {ws : va_W} {G : zG} {H H1 : Heap} (h : WW E ws G H) {e : va_E} (he : va_at E.1 vwCl (H.size, e) H1) (oq : ∀ q : Nat, q < H.size → H1[q]? = H[q]?) : WW E ws (va_up G H.size (some e)) H1 := by
  refine ⟨fun k q hk => (h.1 k q hk).kept (oq _ (h.1 k q hk).lt), h.2.1, fun q e' hq => ?_, fun k x e' hk => ?_⟩
  · by_cases hqa : q = H.size
    · subst hqa
      have : e = e' := by simpa [va_up] using hq
      exact this ▸ he
    · have hq' : G q = some e' := by simpa [va_up, hqa] using hq
      exact (h.2.2.1 q e' hq').kept (oq _ (h.2.2.1 q e' hq').lt)
  · have hqa : x.1 ≠ H.size := Nat.ne_of_lt (h.1 k x hk).lt
    simpa [va_up, hqa] using h.2.2.2 k x e' hk
/-- fewer of the named places -/
theorem WW.sub {E : zE} {ws ws' : va_W} {G : zG} {H : Heap} (h : WW E ws G H) (is : List Nat) (hn : va_nd is = true) (hs : is.map (fun i => ws[i]?) = ws'.map some) : WW E ws' G H := by
  have at' : ∀ (k : Nat) (q : Nat × va_E), ws'[k]? = some q → ∃ i : Nat, ws[i]? = some q := by
    intro k q hq
    have h1 : (is.map (fun i => ws[i]?))[k]? = some (some q) := by rw [hs, List.getElem?_map, hq]; rfl
    rw [List.getElem?_map] at h1
    cases hi : is[k]? with
    | none => rw [hi] at h1; cases h1
    | some i => rw [hi] at h1; exact ⟨i, Option.some.inj h1⟩
  exact ⟨fun k q hk => by obtain ⟨i, hi⟩ := at' k q hk; exact h.1 i q hi, h.2.1.sub is hn hs, h.2.2.1, fun k x e hk => by obtain ⟨i, hi⟩ := at' k x hk; exact h.2.2.2 i x e hi⟩
/-- no map at all -/
theorem WW.noG {E : zE} {ws : va_W} {G : zG} {H : Heap} (h : WW E ws G H) : WW E ws gN H := ⟨h.1, h.2.1, fun (q : Nat) (e : va_E) (hq : gN q = some e) => absurd hq (by simp [gN]), fun (k : Nat) (x : Nat × va_E) (e : va_E) _ (hq : gN x.1 = some e) => absurd hq (by simp [gN])⟩
/-- behind a call over some of the named places (wc, in the order 'is'): what it left there (w1) is put back -/
def wwPut (ws : va_W) : List Nat → va_W → va_W
  | i :: is, x :: w => wwPut (ws.set i x) is w
  | _, _ => ws
section ZW
variable {p : Program} {l : Launch} {e : Env} {R : Room} {s : State} {m : MethodId} {args : Array Value} {below : List Frame} {meth : Method} {c : Code} {H H0 : Heap} {locs : List Loc} {cells slots : Nat} {Q : State → Prop}
variable {cc : ByteArray} {pc : Nat} {ls : Array Slot} {rest st0 : List Value} {E : zE} {own : String} {nL : Nat} {ws : va_W} {G : zG} {F : Nat → Prop}
theorem z_sing {E : zE} {H : Heap} {x : Nat × va_E} (h : va_at E.1 vwCl x H) : va_P E.1 vwCl [x] H := fun k q hq => by
  have hz : k < 1 := (List.getElem?_eq_some_iff.mp hq).1
  rw [show k = 0 by omega] at hq
  cases hq
  exact h
theorem z_get (cx : Cx E p s args m c own cc nL) {a ci N index : Nat} {C : String} {T : u_T} {fs : List Value} (hat : va_at E.1 vwCl (a, .inr (ci, fs)) H) (hc : vwCl[ci]? = some (C, T, N)) (hin : ∀ w ∈ u_ws C T N, w ∈ AllW) (k : Nat) (hk : Nat.blt k N = true) (hlink : Cond.fieldLink own index (T k).1 (T k).2.1 (T k).2.2.1 ∈ AllW) {v : Value} (hv : fs[k]? = some v) (hdg : decode cc pc = .ok (.getfield index, 3))
    (kk : W p l e R s m args below meth c H locs cells slots Q (F0 m (pc + 3) ls (v :: rest))) : W p l e R s m args below meth c H locs cells slots Q (F0 m pc ls (.ref a :: rest)) :=
  va_get (D := E.1) (ci := ci) (C := C) (T := T) (N := N) cx.x cx.b cx.ts hin cx.own cx.K (z_sing hat) 0 rfl hc k (by simpa using hk) (cx.ts _ hlink) (fun _ h => h) hv hdg kk
theorem z_put (cx : Cx E p s args m c own cc nL) (hW : WW E ws G H) (hS : va_S F H0 H locs) (i : Nat) {a ci N index : Nat} {C : String} {T : u_T} {ty0 : Nat → FieldType} {fs : List Value} (hi : ws[i]? = some (a, .inr (ci, fs))) (hF : F a) (hc : vwCl[ci]? = some (C, T, N)) (hin : ∀ w ∈ u_ws C T N, w ∈ AllW) (hty : ∀ k, k < N → parseFieldDescriptor (T k).2.2.1 = some (ty0 k)) (hnm : ∀ a, a < N → ∀ b, b < N → a ≠ b → (T a).2.1 ≠ (T b).2.1) (k : Nat) (hk : Nat.blt k N = true) (hlink : Cond.fieldLink own index (T k).1 (T k).2.1 (T k).2.2.1 ∈ AllW) (hfin : (T k).2.2.2 = false) {ty : FieldType} {v : Value} (hd : parseFieldDescriptor (T k).2.2.1 = some ty) (hn : narrow ty v = v) (hfit : fits ty v = true) (hl : k < fs.length) (hdg : decode cc pc = .ok (.putfield index, 3))
    (kk : ∀ (H1 : Heap) (locs1 : List Loc), WW E (ws.set i (a, .inr (ci, fs.set k v))) G H1 → va_S F H0 H1 locs1 → W p l e R s m args below meth c H1 locs1 cells slots Q (F0 m (pc + 3) ls rest)) : W p l e R s m args below meth c H locs cells slots Q (F0 m pc ls (v :: .ref a :: rest)) := by
  have hkN : k < N := by simpa using hk
  have hap := va_apart (own := own) cx.ts hin ty0 hty hnm cx.K hc
  obtain ⟨r, h1, cell, q1, q2, q3, q4⟩ := hW.1 i _ hi
  have hr : r = (C, T, N) := Option.some.inj (h1.symm.trans hc)
  subst hr
  obtain ⟨hSl, hfc, kC, hkC, hkind⟩ := cx.K.1 ci _ hc
  obtain ⟨cf, kf, fi, f, hif, hsl⟩ := hSl k hkN
  have hlay := cx.ts _ (hin _ (u_in_lay hkN))
  unfold u_lay at hlay
  rw [if_neg (by rw [hfin]; decide)] at hlay
  have hst := (u_facts hfc hkC (u_lays cx.ts hin hkN) hif).1
  have h6 := u_store hfc hkC hkind hlay hif hd hn hfit
  refine W.putK cx.x cx.b (f := f) ⟨cx.own, cx.ts _ hlink, ⟨_, _, _, hif⟩, hst⟩ (by rw [q2]; exact h6) q1 q3 (by rw [hsl]; exact k2_hasslot (q4 k hkN)) rfl rfl hdg fun H' e1 e2 e3 => ?_
  rw [hsl] at e1 ⊢
  exact kk H' _ (hW.set hi ⟨_, hc, t_OB.to (V := updV (vp_V fs) k v) ⟨_, e1, q2, q3, t_set q4 hap hkN v⟩ (fun j _ => vp_updV_set hl v j)⟩ (fun q _ => e3 q)) (hS.put e2 e3 hF)
theorem z_iald (cx : Cx E p s args m c own cc nL) {a n j : Nat} {f : Nat → Int32} {x : Int32} (hat : va_at E.1 vwCl (a, .inl (E.2.1 0, n, .inl f)) H) (hx : x = nI j) (hj : j < n) (hn : n < 2 ^ 31) (hdg : decode cc pc = .ok (.iaload, 1))
    (kk : W p l e R s m args below meth c H locs cells slots Q (F0 m (pc + 1) ls (.int (f j) :: rest))) : W p l e R s m args below meth c H locs cells slots Q (F0 m pc ls (.int x :: .ref a :: rest)) := by
  subst hx
  have h := va_iald (D := E.1) (cl := vwCl) (rest := rest) (ls := ls) (pc := pc) (Q := Q) (locs := locs) (cells := cells) (slots := slots) (l := l) (e := e) (R := R) (m := m) (args := args) (below := below) (meth := meth) cx.x cx.b cx.K (z_sing hat) 0 0 rfl rfl (i := nI j) (vp_in_nI hj hn) hdg
  rw [nI_clamp (by omega)] at h
  exact h kk
theorem z_aald (cx : Cx E p s args m c own cc nL) (t0 : Nat) {a n j : Nat} {C : String} {f : Nat → Option Nat} {x : Int32} (ht : (tyL E.2.1)[t0]? = some (E.2.1 t0, .object C)) (hat : va_at E.1 vwCl (a, .inl (E.2.1 t0, n, .inr (.inr (.inr (.inr f))))) H) (hx : x = nI j) (hj : j < n) (hn : n < 2 ^ 31) (hdg : decode cc pc = .ok (.aaload, 1))
    (kk : W p l e R s m args below meth c H locs cells slots Q (F0 m (pc + 1) ls (va_rf (f j) :: rest))) : W p l e R s m args below meth c H locs cells slots Q (F0 m pc ls (.int x :: .ref a :: rest)) := by
  subst hx
  have h := va_aldq (D := E.1) (cl := vwCl) (rest := rest) (ls := ls) (pc := pc) (Q := Q) (locs := locs) (cells := cells) (slots := slots) (l := l) (e := e) (R := R) (m := m) (args := args) (below := below) (meth := meth) cx.x cx.b cx.K (z_sing hat) 0 t0 rfl ht (i := nI j) (vp_in_nI hj hn) hdg
  rw [nI_clamp (by omega)] at h
  exact h kk
theorem z_alen (cx : Cx E p s args m c own cc nL) (t0 : Nat) {a : Nat} {x : vp_A} {ty : FieldType} (hat : va_at E.1 vwCl (a, .inl (E.2.1 t0, x)) H) (ht : (tyL E.2.1)[t0]? = some (E.2.1 t0, ty)) {v : Int32} (hv : nI x.1 = v) (hdg : decode cc pc = .ok (.arraylength, 1))
    (kk : W p l e R s m args below meth c H locs cells slots Q (F0 m (pc + 1) ls (.int v :: rest))) : W p l e R s m args below meth c H locs cells slots Q (F0 m pc ls (.ref a :: rest)) :=
  va_alen (D := E.1) (cl := vwCl) cx.x cx.b cx.K (z_sing hat) 0 t0 rfl ht hv hdg kk
theorem z_iast (cx : Cx E p s args m c own cc nL) (hW : WW E ws G H) (hS : va_S F H0 H locs) (i : Nat) {a n j : Nat} {f : Nat → Int32} {x v : Int32} (hi : ws[i]? = some (a, .inl (E.2.1 0, n, .inl f))) (hF : F a) (hx : x = nI j) (hj : j < n) (hn : n < 2 ^ 31) (hdg : decode cc pc = .ok (.iastore, 1))
    (kk : ∀ (H1 : Heap) (locs1 : List Loc), WW E (ws.set i (a, .inl (E.2.1 0, n, .inl (upd f j v)))) G H1 → va_S F H0 H1 locs1 → W p l e R s m args below meth c H1 locs1 cells slots Q (F0 m (pc + 1) ls rest)) : W p l e R s m args below meth c H locs cells slots Q (F0 m pc ls (.int v :: .int x :: .ref a :: rest)) := by
  subst hx
  refine W.iast cx.x cx.b (hW.1 i _ hi) ((cx.K.2 0 _ rfl).1 n (fun j => .int (f j))) (fun q => by cases q) (by show ¬ (nI j < 0 ∨ (arrV _ _ _).slots.size ≤ _); rw [arrV_size]; exact vp_in_nI hj hn) rfl rfl hdg fun H1 e z oq => ?_
  rw [nI_clamp (by omega)] at e ⊢
  refine kk H1 _ (hW.set hi ?_ (fun q _ => oq q)) (hS.put z oq hF)
  show H1[a]? = some (vp_cell _ _)
  rw [e]
  rw [vp_cell_i, vp_cell_i, arrV_store]
  congr 2
  funext q
  by_cases hq : q = j
  · subst hq
    simp [updV, upd]
  · simp [updV, upd, hq]
end ZW
