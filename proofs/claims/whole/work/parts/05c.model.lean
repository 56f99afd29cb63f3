/-! THE REFERENCE'S WORLD, and rows of methods that write -/
/-- the reference: its object, thirteen arrays, at addresses a 0 .. a 13 -/
def mO (a : Nat → Nat) (ig th po ba en td ij : Int32) : List Value := [.ref (a 1), .ref (a 2), .ref (a 3), .ref (a 4), .ref (a 5), .ref (a 6), .ref (a 7), .ref (a 8), .ref (a 9), .ref (a 10), .int ig, .int th, .int po, .int ba, .int en, .int td, .ref (a 11), .int ij, .ref (a 12), .ref (a 13)]
def wM (a : Nat → Nat) (d : ClassId) (sv im rd wa kp so sz el pr ts nu bu ht : Nat → Int32) (ig th po ba en td ij : Int32) : va_W :=
  [(a 0, .inr (8, mO a ig th po ba en td ij)), (a 1, .inl (d, 535, .inl sv)), (a 2, .inl (d, 535, .inl im)), (a 3, .inl (d, 535, .inl rd)), (a 4, .inl (d, 18, .inl wa)), (a 5, .inl (d, 8, .inl kp)), (a 6, .inl (d, 8, .inl so)), (a 7, .inl (d, 8, .inl sz)), (a 8, .inl (d, 800, .inl el)), (a 9, .inl (d, 8, .inl pr)), (a 10, .inl (d, 8, .inl ts)), (a 11, .inl (d, 5, .inl nu)), (a 12, .inl (d, 24, .inl bu)), (a 13, .inl (d, 100, .inl ht))]
/-- what the reference's methods may write -/
def mF (a : Nat → Nat) : Nat → Prop := fun q => ∃ k, q = a k
theorem mF_in (a : Nat → Nat) (k : Nat) : mF a (a k) := ⟨k, rfl⟩
section ZM
variable {p : Program} {l : Launch} {e : Env} {R : Room} {s : State} {m : MethodId} {args : Array Value} {below : List Frame} {meth : Method} {c : Code} {H H0 : Heap} {locs : List Loc} {cells slots : Nat} {Q : State → Prop}
variable {cc : ByteArray} {pc : Nat} {ls : Array Slot} {rest st0 : List Value} {E : zE} {own : String} {nL : Nat} {ws : va_W} {G : zG} {F : Nat → Prop}
theorem z_getM (cx : Cx E p s args m c own cc nL) {a index : Nat} {fs : List Value} (hat : va_at E.1 vwCl (a, .inr (8, fs)) H) (k : Nat) (hk : Nat.blt k 20 = true) (hlink : Cond.fieldLink own index (TX8 k).1 (TX8 k).2.1 (TX8 k).2.2.1 ∈ AllW) {v : Value} (hv : fs[k]? = some v) (hdg : decode cc pc = .ok (.getfield index, 3))
    (kk : W p l e R s m args below meth c H locs cells slots Q (F0 m (pc + 3) ls (v :: rest))) : W p l e R s m args below meth c H locs cells slots Q (F0 m pc ls (.ref a :: rest)) :=
  z_get cx hat (C := RX8) (T := TX8) (N := 20) rfl i_X8 k hk hlink hv hdg kk
theorem z_putMi (cx : Cx E p s args m c own cc nL) (hW : WW E ws G H) (hS : va_S F H0 H locs) (i : Nat) {a index : Nat} {fs : List Value} (hi : ws[i]? = some (a, .inr (8, fs))) (hF : F a) (k : Nat) (hk : Nat.blt k 20 = true) (hlink : Cond.fieldLink own index (TX8 k).1 (TX8 k).2.1 (TX8 k).2.2.1 ∈ AllW) {v : Int32} (hty : (TX8 k).2.2 = ("I", false)) (hl : Nat.blt k fs.length = true) (hdg : decode cc pc = .ok (.putfield index, 3))
    (kk : ∀ (H1 : Heap) (locs1 : List Loc), WW E (ws.set i (a, .inr (8, fs.set k (.int v)))) G H1 → va_S F H0 H1 locs1 → W p l e R s m args below meth c H1 locs1 cells slots Q (F0 m (pc + 3) ls rest)) : W p l e R s m args below meth c H locs cells slots Q (F0 m pc ls (.int v :: .ref a :: rest)) :=
  z_put cx hW hS i hi hF (C := RX8) (T := TX8) (N := 20) rfl i_X8 tyX8_ok nmX8 k hk hlink (by rw [hty]) (ty := .int) (by rw [hty]; decide +kernel) rfl rfl (by simpa using hl) hdg kk
theorem z_putMz (cx : Cx E p s args m c own cc nL) (hW : WW E ws G H) (hS : va_S F H0 H locs) (i : Nat) {a index : Nat} {fs : List Value} (hi : ws[i]? = some (a, .inr (8, fs))) (hF : F a) (k : Nat) (hk : Nat.blt k 20 = true) (hlink : Cond.fieldLink own index (TX8 k).1 (TX8 k).2.1 (TX8 k).2.2.1 ∈ AllW) {b : Bool} (hty : (TX8 k).2.2 = ("Z", false)) (hl : Nat.blt k fs.length = true) (hdg : decode cc pc = .ok (.putfield index, 3))
    (kk : ∀ (H1 : Heap) (locs1 : List Loc), WW E (ws.set i (a, .inr (8, fs.set k (.int (bI b))))) G H1 → va_S F H0 H1 locs1 → W p l e R s m args below meth c H1 locs1 cells slots Q (F0 m (pc + 3) ls rest)) : W p l e R s m args below meth c H locs cells slots Q (F0 m pc ls (.int (bI b) :: .ref a :: rest)) :=
  z_put cx hW hS i hi hF (C := RX8) (T := TX8) (N := 20) rfl i_X8 tyX8_ok nmX8 k hk hlink (by rw [hty]) (ty := .boolean) (by rw [hty]; decide +kernel) (bI_narrow b) (by cases b <;> rfl) (by simpa using hl) hdg kk
/-- ends of a method that writes -/
theorem z_wiret {Pq : Heap → Option Value → Heap → Prop} {x : Int32} (cx : Cx E p s args m c own cc nL) (hr : meth.sig.returnType = some .int) (hlk : meth.locks = false) (hdg : decode cc pc = .ok (.ireturn, 1)) (hS : va_S F s.heap H locs) (hq : Pq s.heap (some (.int x)) H) : W p l e R s m args below meth c H locs cells slots (MQ below (zQ Pq F) args s cells slots F) (F0 m pc ls [.int x]) :=
  W.iret cx.x cx.b hr (fun t ht _ => ⟨⟨_, rfl, by rw [ht]; exact hq⟩, hS.F ht⟩) hS.2.2 hdg hlk
theorem z_wzret {Pq : Heap → Option Value → Heap → Prop} {b : Bool} (cx : Cx E p s args m c own cc nL) (hr : meth.sig.returnType = some .boolean) (hlk : meth.locks = false) (hdg : decode cc pc = .ok (.ireturn, 1)) (hS : va_S F s.heap H locs) (hq : Pq s.heap (some (.int (bI b))) H) : W p l e R s m args below meth c H locs cells slots (MQ below (zQ Pq F) args s cells slots F) (F0 m pc ls [.int (bI b)]) :=
  W.zret cx.x cx.b hr (bI_narrow b) (fun t ht _ => ⟨⟨_, rfl, by rw [ht]; exact hq⟩, hS.F ht⟩) hS.2.2 hdg hlk
theorem z_wvret {Pq : Heap → Option Value → Heap → Prop} (cx : Cx E p s args m c own cc nL) (hr : meth.sig.returnType = none) (hlk : meth.locks = false) (hdg : decode cc pc = .ok (.return_, 1)) (hS : va_S F s.heap H locs) (hq : Pq s.heap none H) : W p l e R s m args below meth c H locs cells slots (MQ below (zQ Pq F) args s cells slots F) (F0 m pc ls []) :=
  W.vret cx.x cx.b hr (fun t ht _ => ⟨⟨_, rfl, by rw [ht]; exact hq⟩, hS.F ht⟩) hS.2.2 hdg hlk
/-- a call of a method that writes -/
theorem z_callVw {y : MethodName} {bytes : ByteArray} {maxL index n mc ms : Nat} {ret : Option FieldType} {rm : Room} {Wd : Heap → Prop} {b : Nat} {As : List Value} {Pq : Heap → Option Value → Heap → Prop} {F1 : Nat → Prop} (cx : Cx E p s args m c own cc nL) (hv : zVm y bytes maxL ret n) (hM : Met l y (.code y bytes maxL ret :: AllW) rm (zP E Wd (.ref b :: As)) (zQ Pq F1) mc ms F1)
    (hrec : ∃ cellB : Cell, H[b]? = some cellB ∧ cellB.vm.isStatics = false ∧ s.vm.findClass y.cls = some cellB.cls) (hW : Wd H) (hS : va_S F H0 H locs) (hF : ∀ q, F1 q → F q) (hl : Cond.methodLink own index y ∈ AllW) (hrm : rm.cells = mc ∧ rm.slots = ms) (hR : rm.frames + 1 ≤ R.frames ∧ 8 + (maxL + 11) + rm.locals ≤ R.locals) (hn : As.length = n)
    (hsz : ls.size = nL) (hst : st0 = As.reverse ++ .ref b :: rest) (hW8 : (rest.map fun v => v.category).sum ≤ 8) (hdg : decode cc pc = .ok (.invokevirtual index, 3)) (hf : cells + mc ≤ R.cells ∧ slots + ms ≤ R.slots)
    (kk : ∀ (v : Option Value) (H1 : Heap) (locs1 : List Loc), Pq H v H1 → va_S F H0 H1 locs1 → (H.size ≤ H1.size ∧ ∀ q : Nat, q < H.size → ¬ F1 q → H1[q]? = H[q]?) → W p l e R s m args below meth c H1 locs1 (cells + mc) (slots + ms) Q (F0 m (pc + 3) ls (v.toList ++ rest))) : W p l e R s m args below meth c H locs cells slots Q (F0 m pc ls st0) := by
  have cw : CallW R s args own y.cls index y bytes maxL ret (.code y bytes maxL ret :: AllW) rm mc ms n := ⟨z_cb cx hv.1 hl hv.2.1 hrm.1 hrm.2 hv.2.2.2 hR, cx.ts _ hv.2.2.1.1, cx.ts _ hv.2.2.1.2⟩
  have hr := W.runV (e := e) (below := below) (meth := meth) (H := H) (locs := locs) (cells := cells) (slots := slots) (rest := rest) (As := As) (g := F0 m pc ls st0) cx.1 hM cw ⟨zP.blind, hrec, fun U hU hW' => ⟨rfl, by rw [hU]; exact hW, cx.2.warm hW'⟩⟩ rfl hn hsz hst (lv_room hW8) hdg hf
  intro T hT X
  obtain ⟨v', st₀, t, T', L, h0, X', hL, e1, ⟨⟨v, hv', hq⟩, hz, hk⟩, st⟩ := hr T hT X
  cases hv'
  rw [h0] at hz hk hq
  obtain ⟨t2, a1, b1⟩ := kk v' T'.heap (locs ++ L) (by rw [e1]; exact hq)
    ⟨Nat.le_trans hS.1 (by rw [e1]; exact hz), fun q h1 h2 => by rw [e1, hk q (Nat.lt_of_lt_of_le h1 hS.1) (fun z => h2 (hF q z))]; exact hS.2.1 q h1 h2, fun q hq => by
      rcases List.mem_append.mp hq with h | h
      · exact hS.2.2 q h
      · exact hF _ (hL q h)⟩ ⟨by rw [e1]; exact hz, fun q h1 h2 => by rw [e1]; exact hk q h1 h2⟩ T' rfl X'
  exact ⟨t2, st t2 a1, b1⟩
end ZM
/-! numbers -/
theorem nI_mul (a b : Nat) : nI a * nI b = nI (a * b) := by simp [nI, Int32.ofNat_mul]
def g6 (sv : Nat → Int32) (n k : Nat) : Int32 := sv (8 + 6 * n + k)
def g5 (sv : Nat → Int32) (n k : Nat) : Int32 := sv (68 + 5 * n + k)
theorem ix6 (n k : Nat) : (8 : Int32) + 6 * nI n + nI k = nI (8 + 6 * n + k) := by rw [← nI_add, ← nI_add, ← nI_mul]; rfl
theorem ix5 (n k : Nat) : (68 : Int32) + 5 * nI n + nI k = nI (68 + 5 * n + k) := by rw [← nI_add, ← nI_add, ← nI_mul]; rfl
