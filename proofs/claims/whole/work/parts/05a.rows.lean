/-! ROWS OF OUR OWN: one list of words for every method; contracts that read; contracts that write -/
abbrev zE : Type := va_G × (Nat → ClassId) × (Nat → Nat)
def tyL (dA : Nat → ClassId) : List (ClassId × FieldType) := [(dA 0, .int), (dA 1, .object RX2), (dA 2, .object RX6), (dA 3, .object RX0), (dA 4, .object RX4), (dA 5, .long)]
/-- what is known of the machine beside the words: classes, arrays' classes, links between nest mates -/
def KK (E : zE) (U : State) : Prop := va_K E.1 vwCl (tyL E.2.1) U ∧ va_Nw (.methodLinkNest RX1 85 yX7_isWithin RX7) U ∧ va_Nw (.methodLinkNest RX5 37 yX7_isWithin RX7) U ∧ va_Nw (.fieldLinkNest RX5 41 RX7 "LEAST_SET" "[I" RX7) U ∧ va_Nw (.fieldLinkNest RX5 44 RX7 "MOST_SET" "[I" RX7) U ∧ va_AO RX2 U ∧ va_AO RX6 U ∧ va_AO RX0 U ∧ va_AO RX4 U
theorem KK.warm {E : zE} {u U : State} (hW : u.WarmedH U.vm) (h : KK E u) : KK E U := by
  obtain ⟨h1, h2, h3, h4, h5, h6, h7, h8, h9⟩ := h
  exact ⟨va_K.moved hW.alike h1, h2.warmM hW, h3.warmM hW, h4.warmF hW, h5.warmF hW, h6.moved hW.alike, h7.moved hW.alike, h8.moved hW.alike, h9.moved hW.alike⟩
theorem KK.calling {E : zE} {U : State} {g : JFrame} {mk : MethodId} {a : Array Value} (h : KK E U) : KK E (U.calling g mk a) := by
  obtain ⟨h1, h2, h3, h4, h5, h6, h7, h8, h9⟩ := h
  have hv : U.vm = (U.calling g mk a).vm := rfl
  exact ⟨va_K.moved (u := U) (U := U.calling g mk a) (Vm.Alike.refl U.vm) h1, h2.same rfl hv, h3.same rfl hv, h4.same rfl hv, h5.same rfl hv, h6.moved (Vm.Alike.refl U.vm), h7.moved (Vm.Alike.refl U.vm), h8.moved (Vm.Alike.refl U.vm), h9.moved (Vm.Alike.refl U.vm)⟩
/-- what a walk knows all along -/
def Cx (E : zE) (p : Program) (s : State) (args : Array Value) (m : MethodId) (c : Code) (own : String) (cc : ByteArray) (nL : Nat) : Prop := CallFix p m c cc nL s args AllW own ∧ KK E s
theorem Cx.x {E : zE} {p : Program} {s : State} {args : Array Value} {m : MethodId} {c : Code} {own : String} {cc : ByteArray} {nL : Nat} (h : Cx E p s args m c own cc nL) : p.tables.exec = Jvm.exec := h.1.1
theorem Cx.b {E : zE} {p : Program} {s : State} {args : Array Value} {m : MethodId} {c : Code} {own : String} {cc : ByteArray} {nL : Nat} (h : Cx E p s args m c own cc nL) : c.code = cc := h.1.2.1
theorem Cx.own {E : zE} {p : Program} {s : State} {args : Array Value} {m : MethodId} {c : Code} {own : String} {cc : ByteArray} {nL : Nat} (h : Cx E p s args m c own cc nL) : s.vm.findClass own = some m.cls := h.1.2.2.2.1
theorem Cx.ts {E : zE} {p : Program} {s : State} {args : Array Value} {m : MethodId} {c : Code} {own : String} {cc : ByteArray} {nL : Nat} (h : Cx E p s args m c own cc nL) : ∀ w ∈ AllW, w.before args s = true := h.1.2.2.2.2
theorem Cx.K {E : zE} {p : Program} {s : State} {args : Array Value} {m : MethodId} {c : Code} {own : String} {cc : ByteArray} {nL : Nat} (h : Cx E p s args m c own cc nL) : va_K E.1 vwCl (tyL E.2.1) s := h.2.1
def zP (E : zE) (Wd : Heap → Prop) (av : List Value) : Array Value → State → Prop := fun v U => v = av.toArray ∧ Wd U.heap ∧ KK E U
theorem zP.blind {E : zE} {Wd : Heap → Prop} {av : List Value} : FrameBlind (zP E Wd av) := fun _ _ _ _ h => ⟨h.1, h.2.1, h.2.2.calling⟩
/-- a method that reads: its answer, and the heap as it was -/
def rQ (v : Value) : Array Value → State → Outcome → State → Prop := fun _ st o t => o = .returned (some v) ∧ t.heap = st.heap
/-- a method that writes: answer and heap stand in Pq to the heap as it was; what isn't in F stays -/
def zQ (Pq : Heap → Option Value → Heap → Prop) (F : Nat → Prop) : Array Value → State → Outcome → State → Prop := fun _ st o t => (∃ v : Option Value, o = .returned v ∧ Pq st.heap v t.heap) ∧ va_F F st t
def nF : Nat → Prop := fun _ => False
def rm0' (f l : Nat) : Room := { frames := f, cells := 0, slots := 0, locals := l }
theorem z_body {l : Launch} {E : zE} {y : MethodName} {cc : ByteArray} {maxL : Nat} {ret : Option FieldType} {rm : Room} {Wd : Heap → Prop} {av : List Value} {Qc : Array Value → State → Outcome → State → Prop} {mc ms : Nat} {F : Nat → Prop} {own : String}
    (hy : plainName y.cls = true) (hcls : y.cls = own) (hsl : Nat.ble (lg_sl av).length maxL = true)
    (body : ∀ p e s m args below meth c ls, Cx E p s args m c own cc maxL → meth.sig.returnType = ret → meth.locks = false → meth.name = y.name → Wd s.heap → lv_has ls maxL (lv_args 0 av) → W p l e rm s m args below meth c s.heap [] 0 0 (MQ below Qc args s mc ms F) (F0 m 0 ls [])) :
    Met l y (.code y cc maxL ret :: AllW) rm (zP E Wd av) Qc mc ms F := by
  refine Met.ofW (cc := cc) (maxL := maxL) (ret := ret) hy rfl ?_
  intro p e s m args below meth c s₁ B hml hv
  obtain ⟨rfl, hw, hk⟩ := hv
  have hts := atoms_spec (ws := .code y cc maxL ret :: AllW) B.pre
  have hown : s.vm.findClass y.cls = some m.cls := findClass_of_methodNamed B.named
  rw [hcls] at hown
  have hl := lv_entry av (n := maxL) (Nat.le_of_ble_eq_true hsl)
  rw [lg_entry_eq]
  exact body p e s m _ below meth c _ ⟨⟨B.exec, B.bytes, hml, hown, fun w h => hts w (List.mem_cons_of_mem _ h)⟩, hk⟩ B.returns B.notSynchronized (name_of_methodNamed B.named B.method).1 hw hl
section ZR
variable {p : Program} {l : Launch} {e : Env} {R : Room} {s : State} {m : MethodId} {args : Array Value} {below : List Frame} {meth : Method} {c : Code} {H : Heap} {locs : List Loc} {cells slots : Nat} {Q : State → Prop}
variable {cc : ByteArray} {pc : Nat} {ls : Array Slot} {rest st0 : List Value} {E : zE} {own : String} {nL : Nat}
theorem z_good {y : MethodName} {bytes : ByteArray} {maxL : Nat} {ret : Option FieldType} (hc : Cond.code y bytes maxL ret ∈ AllW) : GoodIn AllW (.code y bytes maxL ret :: AllW) := fun w h => by
  have hw : w ∈ AllW := (List.mem_cons.mp h).elim (fun e => e ▸ hc) id
  exact ⟨hw, good_of_word (aw_good w hw)⟩
theorem z_cb {y : MethodName} {bytes : ByteArray} {maxL index n mc ms : Nat} {ret : Option FieldType} {rm : Room} (cx : Cx E p s args m c own cc nL) (hc : Cond.code y bytes maxL ret ∈ AllW) (hl : Cond.methodLink own index y ∈ AllW) (hi : Cond.initialized y.cls ∈ AllW) (hrc : rm.cells = mc) (hrs : rm.slots = ms)
    (hd : y.cls ≠ "java/lang/invoke/MethodHandle" ∧ y.cls ≠ "java/lang/invoke/VarHandle" ∧ (parseMethodDescriptor y.desc).map (fun d => d.parameters.length) = some n) (hR : rm.frames + 1 ≤ R.frames ∧ 8 + (maxL + 11) + rm.locals ≤ R.locals) :
    CallB R s args own index y bytes maxL ret (.code y bytes maxL ret :: AllW) rm mc ms n :=
  callB_of n cx.ts (z_good hc) rfl hrc hrs (cx.ts _ hi) (cx.ts _ hl) hd hR
/-- what is told of a method once: that it can be called, by which class, with how many arguments -/
def zVm (y : MethodName) (bytes : ByteArray) (maxL : Nat) (ret : Option FieldType) (n : Nat) : Prop :=
  Cond.code y bytes maxL ret ∈ AllW ∧ Cond.initialized y.cls ∈ AllW ∧ (Cond.instanceMethod y ∈ AllW ∧ Cond.selects y.cls y y ∈ AllW) ∧ (y.cls ≠ "java/lang/invoke/MethodHandle" ∧ y.cls ≠ "java/lang/invoke/VarHandle" ∧ (parseMethodDescriptor y.desc).map (fun d => d.parameters.length) = some n)
def zSm (y : MethodName) (bytes : ByteArray) (maxL : Nat) (ret : Option FieldType) (n : Nat) : Prop :=
  Cond.code y bytes maxL ret ∈ AllW ∧ Cond.initialized y.cls ∈ AllW ∧ Cond.static y ∈ AllW ∧ (y.cls ≠ "java/lang/invoke/MethodHandle" ∧ y.cls ≠ "java/lang/invoke/VarHandle" ∧ (parseMethodDescriptor y.desc).map (fun d => d.parameters.length) = some n)
theorem z_rec {E : zE} {s : State} {H : Heap} {b ci : Nat} {fs : List Value} {r : vw_C} (hK : KK E s) (h : va_at E.1 vwCl (b, .inr (ci, fs)) H) (hc : vwCl[ci]? = some r) : ∃ cellB : Cell, H[b]? = some cellB ∧ cellB.vm.isStatics = false ∧ s.vm.findClass r.1 = some cellB.cls := by
  have hP : va_P E.1 vwCl [(b, .inr (ci, fs))] H := fun k q hq => by
    have hz : k < 1 := (List.getElem?_eq_some_iff.mp hq).1
    rw [show k = 0 by omega] at hq
    cases hq
    exact h
  exact va_recv hK.1 hP (q0 := 0) hc rfl
theorem z_callV {y : MethodName} {bytes : ByteArray} {maxL index n : Nat} {ret : Option FieldType} {rm : Room} {Wd : Heap → Prop} {b : Nat} {As : List Value} {v : Value} (cx : Cx E p s args m c own cc nL) (hv : zVm y bytes maxL ret n) (hM : Met l y (.code y bytes maxL ret :: AllW) rm (zP E Wd (.ref b :: As)) (rQ v) 0 0 nF)
    (hrec : ∃ cellB : Cell, H[b]? = some cellB ∧ cellB.vm.isStatics = false ∧ s.vm.findClass y.cls = some cellB.cls) (hW : Wd H) (hl : Cond.methodLink own index y ∈ AllW) (hrm : rm.cells = 0 ∧ rm.slots = 0) (hR : rm.frames + 1 ≤ R.frames ∧ 8 + (maxL + 11) + rm.locals ≤ R.locals) (hn : As.length = n)
    (hsz : ls.size = nL) (hst : st0 = As.reverse ++ .ref b :: rest) (hW8 : (rest.map fun v => v.category).sum ≤ 8) (hdg : decode cc pc = .ok (.invokevirtual index, 3)) (hf : cells ≤ R.cells ∧ slots ≤ R.slots)
    (kk : W p l e R s m args below meth c H locs cells slots Q (F0 m (pc + 3) ls (v :: rest))) : W p l e R s m args below meth c H locs cells slots Q (F0 m pc ls st0) := by
  have cw : CallW R s args own y.cls index y bytes maxL ret (.code y bytes maxL ret :: AllW) rm 0 0 n := ⟨z_cb cx hv.1 hl hv.2.1 hrm.1 hrm.2 hv.2.2.2 hR, cx.ts _ hv.2.2.1.1, cx.ts _ hv.2.2.1.2⟩
  have hr := W.runV (e := e) (below := below) (meth := meth) (H := H) (locs := locs) (cells := cells) (slots := slots) (rest := rest) (As := As) (g := F0 m pc ls st0) cx.1 hM cw ⟨zP.blind, hrec, fun U hU hW' => ⟨rfl, by rw [hU]; exact hW, cx.2.warm hW'⟩⟩ rfl hn hsz hst (lv_room hW8) hdg hf
  intro T hT X
  obtain ⟨v', st₀, t, T', L, h0, X', hL, e1, ⟨hv', hh⟩, st⟩ := hr T hT X
  cases hv'
  obtain ⟨t2, a1, b1⟩ := kk T' (by rw [e1, hh, h0]) (Stand.forget X' (fun q h => (hL q h).elim))
  exact ⟨t2, st t2 a1, b1⟩
theorem z_callS {y : MethodName} {bytes : ByteArray} {maxL index n : Nat} {ret : Option FieldType} {rm : Room} {Wd : Heap → Prop} {As : List Value} {v : Value} (cx : Cx E p s args m c own cc nL) (hv : zSm y bytes maxL ret n) (hM : Met l y (.code y bytes maxL ret :: AllW) rm (zP E Wd As) (rQ v) 0 0 nF)
    (hW : Wd H) (hl : Cond.methodLink own index y ∈ AllW) (hrm : rm.cells = 0 ∧ rm.slots = 0) (hR : rm.frames + 1 ≤ R.frames ∧ 8 + (maxL + 11) + rm.locals ≤ R.locals) (hn : As.length = n)
    (hsz : ls.size = nL) (hst : st0 = As.reverse ++ rest) (hW8 : (rest.map fun v => v.category).sum ≤ 8) (hdg : decode cc pc = .ok (.invokestatic index, 3)) (hf : cells ≤ R.cells ∧ slots ≤ R.slots)
    (kk : W p l e R s m args below meth c H locs cells slots Q (F0 m (pc + 3) ls (v :: rest))) : W p l e R s m args below meth c H locs cells slots Q (F0 m pc ls st0) := by
  have hr := W.runS (e := e) (below := below) (meth := meth) (H := H) (locs := locs) (cells := cells) (slots := slots) (rest := rest) (As := As) (g := F0 m pc ls st0) cx.1 hM ⟨z_cb cx hv.1 hl hv.2.1 hrm.1 hrm.2 hv.2.2.2 hR, cx.ts _ hv.2.2.1⟩ ⟨zP.blind, fun U hU hW' => ⟨rfl, by rw [hU]; exact hW, cx.2.warm hW'⟩⟩ rfl hn hsz hst (lv_room hW8) hdg hf
  intro T hT X
  obtain ⟨v', st₀, t, T', L, h0, X', hL, e1, ⟨hv', hh⟩, st⟩ := hr T hT X
  cases hv'
  obtain ⟨t2, a1, b1⟩ := kk T' (by rw [e1, hh, h0]) (Stand.forget X' (fun q h => (hL q h).elim))
  exact ⟨t2, st t2 a1, b1⟩
/-- ends of a method that reads -/
theorem z_iret {x v : Int32} (cx : Cx E p s args m c own cc nL) (hr : meth.sig.returnType = some .int) (hlk : meth.locks = false) (hdg : decode cc pc = .ok (.ireturn, 1)) (hv : x = v) : W p l e R s m args below meth c s.heap [] 0 0 (MQ below (rQ (.int v)) args s 0 0 nF) (F0 m pc ls [.int x]) := by
  subst hv
  exact W.iret cx.x cx.b hr (fun t ht _ => ⟨rfl, ht⟩) (fun _ h => by cases h) hdg hlk
def bI (b : Bool) : Int32 := if b = true then 1 else 0
theorem bI_t : bI true = 1 := rfl
theorem bI_f : bI false = 0 := rfl
theorem bI_z {b : Bool} : bI b = 0 ↔ b = false := by cases b <;> decide
theorem bI_n {b : Bool} : ¬ bI b = 0 ↔ b = true := by cases b <;> decide
theorem bI_narrow (b : Bool) : narrow .boolean (.int (bI b)) = .int (bI b) := by cases b <;> rfl
theorem z_zret {x : Int32} {b : Bool} (cx : Cx E p s args m c own cc nL) (hr : meth.sig.returnType = some .boolean) (hlk : meth.locks = false) (hdg : decode cc pc = .ok (.ireturn, 1)) (hv : x = bI b) : W p l e R s m args below meth c s.heap [] 0 0 (MQ below (rQ (.int (bI b))) args s 0 0 nF) (F0 m pc ls [.int x]) := by
  subst hv
  exact W.zret cx.x cx.b hr (bI_narrow b) (fun t ht _ => ⟨rfl, ht⟩) (fun _ h => by cases h) hdg hlk
/-- branches on a truth -/
theorem z_ifeq {b : Bool} {off : Int} {tgt : Nat} (hexec : p.tables.exec = Jvm.exec) (hb : c.code = cc) (hdg : decode cc pc = .ok (.ifCond .eq off, 3)) (ht : (pc : Int) + off = (tgt : Int)) (k1 : b = false → W p l e R s m args below meth c H locs cells slots Q (F0 m tgt ls rest)) (k2 : b = true → W p l e R s m args below meth c H locs cells slots Q (F0 m (pc + 3) ls rest)) : W p l e R s m args below meth c H locs cells slots Q (F0 m pc ls (.int (bI b) :: rest)) :=
  lv_if_eq hexec hb hdg ht (fun h => k1 (bI_z.mp h)) (fun h => k2 (bI_n.mp h))
theorem z_ifne {b : Bool} {off : Int} {tgt : Nat} (hexec : p.tables.exec = Jvm.exec) (hb : c.code = cc) (hdg : decode cc pc = .ok (.ifCond .ne off, 3)) (ht : (pc : Int) + off = (tgt : Int)) (k1 : b = true → W p l e R s m args below meth c H locs cells slots Q (F0 m tgt ls rest)) (k2 : b = false → W p l e R s m args below meth c H locs cells slots Q (F0 m (pc + 3) ls rest)) : W p l e R s m args below meth c H locs cells slots Q (F0 m pc ls (.int (bI b) :: rest)) :=
  lv_if_ne hexec hb hdg ht (fun h => k1 (bI_n.mp h)) (fun h => k2 (bI_z.mp h))
end ZR
