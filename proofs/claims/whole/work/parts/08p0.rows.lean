/-! the class: what is constant in the machine: texts, static arrays -/
def kS : Nat → Nat := fun i => if i = 0 then 77 else if i = 1 then 79 else if i = 2 then 81 else if i = 3 then 83 else if i = 4 then 85 else if i = 5 then 73 else 75
def tS : Nat → String := fun i => if i = 0 then "n n n" else if i = 1 then "dd n d n" else if i = 2 then "n" else if i = 3 then "d" else if i = 4 then "" else if i = 5 then "jd n" else ";"
def lenS : List Nat := [5, 8, 1, 1, 0, 4, 1]
def bytS : List (List Int32) := [[110, 32, 110, 32, 110], [100, 100, 32, 110, 32, 100, 32, 110], [110], [100], [], [106, 100, 32, 110], [59]]
def aS (E : zE) (i : Nat) : Nat := E.2.2 (2 * i)
def aV (E : zE) (i : Nat) : Nat := E.2.2 (2 * i + 1)
def lstS : Nat → Int32 := fun j => if j = 3 then -9 else 0
def mstS : Nat → Int32 := fun j => if j = 0 then 20 else if j = 1 then 1 else if j = 2 then 3 else 9
def CE (E : zE) (A : Nat → Prop) (U : State) (H : Heap) : Prop :=
  vk_S 7 lenS bytS (aS E) (aV E) A U H ∧ (∀ i, i < 7 → vk_R RX3 (kS i) (tS i) (aS E i) U) ∧ va_Z "java/lang/String" "COMPACT_STRINGS" "Z" (.int 1) A U H ∧
  va_Zq "jdk/internal/util/Preconditions" "SIOOBE_FORMATTER" "Ljava/util/function/BiFunction;" A U H ∧
  va_Z RX7 "LEAST_SET" "[I" (.ref (E.2.2 15)) A U H ∧ va_T .int (E.2.2 15) 4 (fun j => .int (lstS j)) A U H ∧
  va_Z RX7 "MOST_SET" "[I" (.ref (E.2.2 16)) A U H ∧ va_T .int (E.2.2 16) 4 (fun j => .int (mstS j)) A U H
theorem CE.warm {E : zE} {A : Nat → Prop} {u U : State} {H : Heap} (hW : u.WarmedH U.vm) (h : CE E A u H) : CE E A U H := by
  obtain ⟨h1, h2, h3, h4, h5, h6, h7, h8⟩ := h
  exact ⟨h1.moved hW.alike, fun i hi => (h2 i hi).warm hW, va_Z.moved hW.alike h3, va_Zq.moved hW.alike h4, va_Z.moved hW.alike h5, va_T.moved hW.alike h6, va_Z.moved hW.alike h7, va_T.moved hW.alike h8⟩
theorem CE.calling {E : zE} {A : Nat → Prop} {U : State} {H : Heap} {g : JFrame} {mk : MethodId} {a : Array Value} (h : CE E A U H) : CE E A (U.calling g mk a) H := by
  obtain ⟨h1, h2, h3, h4, h5, h6, h7, h8⟩ := h
  have al : U.vm.Alike (U.calling g mk a).vm := Vm.Alike.refl U.vm
  exact ⟨h1.moved al, fun i hi => (h2 i hi).same rfl, va_Z.moved al h3, va_Zq.moved al h4, va_Z.moved al h5, va_T.moved al h6, va_Z.moved al h7, va_T.moved al h8⟩
theorem CE.kept {E : zE} {A : Nat → Prop} {U : State} {H H1 : Heap} (h : CE E A U H) (hq : ∀ a : Nat, a < H.size → ¬ A a → H1[a]? = H[a]?) : CE E A U H1 := by
  obtain ⟨h1, h2, h3, h4, h5, h6, h7, h8⟩ := h
  exact ⟨h1.kept hq, h2, va_Z.kept h3 hq, va_Zq.kept h4 hq, va_Z.kept h5 hq, va_T.kept h6 hq, va_Z.kept h7 hq, va_T.kept h8 hq⟩
theorem CE.narrow {E : zE} {A B : Nat → Prop} {U : State} {H : Heap} (h : CE E A U H) (hAB : ∀ q, B q → A q) : CE E B U H := by
  obtain ⟨h1, h2, h3, h4, h5, h6, h7, h8⟩ := h
  exact ⟨h1.narrow hAB, h2, va_Z.narrow h3 hAB, va_Zq.narrow h4 hAB, va_Z.narrow h5 hAB, va_T.narrow h6 hAB, va_Z.narrow h7 hAB, va_T.narrow h8 hAB⟩
def zPc (E : zE) (A : Nat → Prop) (Wd : Heap → Prop) (av : List Value) : Array Value → State → Prop := fun v U => v = av.toArray ∧ Wd U.heap ∧ CE E A U U.heap ∧ KK E U
theorem zPc.blind {E : zE} {A : Nat → Prop} {Wd : Heap → Prop} {av : List Value} : FrameBlind (zPc E A Wd av) := fun _ _ _ _ h => ⟨h.1, h.2.1, h.2.2.1.calling, h.2.2.2.calling⟩
theorem z_bodyc {l : Launch} {E : zE} {A : Nat → Prop} {y : MethodName} {cc : ByteArray} {maxL : Nat} {ret : Option FieldType} {rm : Room} {Wd : Heap → Prop} {av : List Value} {Qc : Array Value → State → Outcome → State → Prop} {mc ms : Nat} {F : Nat → Prop} {own : String}
    (hy : plainName y.cls = true) (hcls : y.cls = own) (hsl : Nat.ble (lg_sl av).length maxL = true)
    (body : ∀ p e s m args below meth c ls, Cx E p s args m c own cc maxL → meth.sig.returnType = ret → meth.locks = false → meth.name = y.name → Wd s.heap → CE E A s s.heap → lv_has ls maxL (lv_args 0 av) → W p l e rm s m args below meth c s.heap [] 0 0 (MQ below Qc args s mc ms F) (F0 m 0 ls [])) :
    Met l y (.code y cc maxL ret :: AllW) rm (zPc E A Wd av) Qc mc ms F := by
  refine Met.ofW (cc := cc) (maxL := maxL) (ret := ret) hy rfl ?_
  intro p e s m args below meth c s₁ B hml hv
  obtain ⟨rfl, hw, hce, hk⟩ := hv
  have hts := atoms_spec (ws := .code y cc maxL ret :: AllW) B.pre
  have hown : s.vm.findClass y.cls = some m.cls := findClass_of_methodNamed B.named
  rw [hcls] at hown
  have hl := lv_entry av (n := maxL) (Nat.le_of_ble_eq_true hsl)
  rw [lg_entry_eq]
  exact body p e s m _ below meth c _ ⟨⟨B.exec, B.bytes, hml, hown, fun w h => hts w (List.mem_cons_of_mem _ h)⟩, hk⟩ B.returns B.notSynchronized (name_of_methodNamed B.named B.method).1 hw hce hl
section ZCE
variable {p : Program} {l : Launch} {e : Env} {R : Room} {s : State} {m : MethodId} {args : Array Value} {below : List Frame} {meth : Method} {c : Code} {H H0 : Heap} {locs : List Loc} {cells slots : Nat} {Q : State → Prop}
variable {cc : ByteArray} {pc : Nat} {ls : Array Slot} {rest st0 : List Value} {E : zE} {own : String} {nL : Nat} {A F : Nat → Prop}
theorem z_callVc {y : MethodName} {bytes : ByteArray} {maxL index n : Nat} {ret : Option FieldType} {rm : Room} {Wd : Heap → Prop} {b : Nat} {As : List Value} {v : Value} (cx : Cx E p s args m c own cc nL) (hce : CE E A s H) (hv : zVm y bytes maxL ret n) (hM : Met l y (.code y bytes maxL ret :: AllW) rm (zPc E A Wd (.ref b :: As)) (rQ v) 0 0 nF)
    (hrec : ∃ cellB : Cell, H[b]? = some cellB ∧ cellB.vm.isStatics = false ∧ s.vm.findClass y.cls = some cellB.cls) (hW : Wd H) (hl : Cond.methodLink own index y ∈ AllW) (hrm : rm.cells = 0 ∧ rm.slots = 0) (hR : rm.frames + 1 ≤ R.frames ∧ 8 + (maxL + 11) + rm.locals ≤ R.locals) (hn : As.length = n)
    (hsz : ls.size = nL) (hst : st0 = As.reverse ++ .ref b :: rest) (hW8 : (rest.map fun v => v.category).sum ≤ 8) (hdg : decode cc pc = .ok (.invokevirtual index, 3)) (hf : cells ≤ R.cells ∧ slots ≤ R.slots)
    (kk : W p l e R s m args below meth c H locs cells slots Q (F0 m (pc + 3) ls (v :: rest))) : W p l e R s m args below meth c H locs cells slots Q (F0 m pc ls st0) := by
  have cw : CallW R s args own y.cls index y bytes maxL ret (.code y bytes maxL ret :: AllW) rm 0 0 n := ⟨z_cb cx hv.1 hl hv.2.1 hrm.1 hrm.2 hv.2.2.2 hR, cx.ts _ hv.2.2.1.1, cx.ts _ hv.2.2.1.2⟩
  have hr := W.runV (e := e) (below := below) (meth := meth) (H := H) (locs := locs) (cells := cells) (slots := slots) (rest := rest) (As := As) (g := F0 m pc ls st0) cx.1 hM cw ⟨zPc.blind, hrec, fun U hU hW' => ⟨rfl, by rw [hU]; exact hW, by rw [hU]; exact hce.warm hW', cx.2.warm hW'⟩⟩ rfl hn hsz hst (lv_room hW8) hdg hf
  intro T hT X
  obtain ⟨v', st₀, t, T', L, h0, X', hL, e1, ⟨hv', hh⟩, st⟩ := hr T hT X
  cases hv'
  obtain ⟨t2, a1, b1⟩ := kk T' (by rw [e1, hh, h0]) (Stand.forget X' (fun q h => (hL q h).elim))
  exact ⟨t2, st t2 a1, b1⟩
theorem z_callSc {y : MethodName} {bytes : ByteArray} {maxL index n : Nat} {ret : Option FieldType} {rm : Room} {Wd : Heap → Prop} {As : List Value} {Ov : Option Value} (cx : Cx E p s args m c own cc nL) (hce : CE E A s H) (hv : zSm y bytes maxL ret n) (hM : Met l y (.code y bytes maxL ret :: AllW) rm (zPc E A Wd As) (fun _ st o t => o = .returned Ov ∧ t.heap = st.heap) 0 0 nF)
    (hW : Wd H) (hl : Cond.methodLink own index y ∈ AllW) (hrm : rm.cells = 0 ∧ rm.slots = 0) (hR : rm.frames + 1 ≤ R.frames ∧ 8 + (maxL + 11) + rm.locals ≤ R.locals) (hn : As.length = n)
    (hsz : ls.size = nL) (hst : st0 = As.reverse ++ rest) (hW8 : (rest.map fun v => v.category).sum ≤ 8) (hdg : decode cc pc = .ok (.invokestatic index, 3)) (hf : cells ≤ R.cells ∧ slots ≤ R.slots)
    (kk : W p l e R s m args below meth c H locs cells slots Q (F0 m (pc + 3) ls (Ov.toList ++ rest))) : W p l e R s m args below meth c H locs cells slots Q (F0 m pc ls st0) := by
  have hr := W.runS (e := e) (below := below) (meth := meth) (H := H) (locs := locs) (cells := cells) (slots := slots) (rest := rest) (As := As) (g := F0 m pc ls st0) cx.1 hM ⟨z_cb cx hv.1 hl hv.2.1 hrm.1 hrm.2 hv.2.2.2 hR, cx.ts _ hv.2.2.1⟩ ⟨zPc.blind, fun U hU hW' => ⟨rfl, by rw [hU]; exact hW, by rw [hU]; exact hce.warm hW', cx.2.warm hW'⟩⟩ rfl hn hsz hst (lv_room hW8) hdg hf
  intro T hT X
  obtain ⟨v', st₀, t, T', L, h0, X', hL, e1, ⟨hv', hh⟩, st⟩ := hr T hT X
  cases hv'
  obtain ⟨t2, a1, b1⟩ := kk T' (by rw [e1, hh, h0]) (Stand.forget X' (fun q h => (hL q h).elim))
  exact ⟨t2, st t2 a1, b1⟩
theorem z_callVwc {y : MethodName} {bytes : ByteArray} {maxL index n mc ms : Nat} {ret : Option FieldType} {rm : Room} {Wd : Heap → Prop} {b : Nat} {As : List Value} {Pq : Heap → Option Value → Heap → Prop} {F1 : Nat → Prop} (cx : Cx E p s args m c own cc nL) (hce : CE E F1 s H) (hv : zVm y bytes maxL ret n) (hM : Met l y (.code y bytes maxL ret :: AllW) rm (zPc E F1 Wd (.ref b :: As)) (zQ Pq F1) mc ms F1)
    (hrec : ∃ cellB : Cell, H[b]? = some cellB ∧ cellB.vm.isStatics = false ∧ s.vm.findClass y.cls = some cellB.cls) (hW : Wd H) (hS : va_S F H0 H locs) (hF : ∀ q, F1 q → F q) (hl : Cond.methodLink own index y ∈ AllW) (hrm : rm.cells = mc ∧ rm.slots = ms) (hR : rm.frames + 1 ≤ R.frames ∧ 8 + (maxL + 11) + rm.locals ≤ R.locals) (hn : As.length = n)
    (hsz : ls.size = nL) (hst : st0 = As.reverse ++ .ref b :: rest) (hW8 : (rest.map fun v => v.category).sum ≤ 8) (hdg : decode cc pc = .ok (.invokevirtual index, 3)) (hf : cells + mc ≤ R.cells ∧ slots + ms ≤ R.slots)
    (kk : ∀ (v : Option Value) (H1 : Heap) (locs1 : List Loc), Pq H v H1 → va_S F H0 H1 locs1 → (H.size ≤ H1.size ∧ ∀ q : Nat, q < H.size → ¬ F1 q → H1[q]? = H[q]?) → W p l e R s m args below meth c H1 locs1 (cells + mc) (slots + ms) Q (F0 m (pc + 3) ls (v.toList ++ rest))) : W p l e R s m args below meth c H locs cells slots Q (F0 m pc ls st0) := by
  have cw : CallW R s args own y.cls index y bytes maxL ret (.code y bytes maxL ret :: AllW) rm mc ms n := ⟨z_cb cx hv.1 hl hv.2.1 hrm.1 hrm.2 hv.2.2.2 hR, cx.ts _ hv.2.2.1.1, cx.ts _ hv.2.2.1.2⟩
  have hr := W.runV (e := e) (below := below) (meth := meth) (H := H) (locs := locs) (cells := cells) (slots := slots) (rest := rest) (As := As) (g := F0 m pc ls st0) cx.1 hM cw ⟨zPc.blind, hrec, fun U hU hW' => ⟨rfl, by rw [hU]; exact hW, by rw [hU]; exact hce.warm hW', cx.2.warm hW'⟩⟩ rfl hn hsz hst (lv_room hW8) hdg hf
  intro T hT X
  obtain ⟨v', st₀, t, T', L, h0, X', hL, e1, ⟨⟨v, hv', hq⟩, hz, hk⟩, st⟩ := hr T hT X
  cases hv'
  rw [h0] at hz hk hq
  obtain ⟨t2, a1, b1⟩ := kk v' T'.heap (locs ++ L) (by rw [e1]; exact hq)
    ⟨Nat.le_trans hS.1 (by rw [e1]; exact hz), fun q h1 h2 => by rw [e1, hk q (Nat.lt_of_lt_of_le h1 hS.1) (fun z => h2 (hF q z))]; exact hS.2.1 q h1 h2, fun q hq => by
      rcases List.mem_append.mp hq with h | h
      · exact hS.2.2 q h
      · exact hF _ (hL q h)⟩ ⟨by rw [e1]; exact hz, fun q h1 h2 => by rw [e1]; exact hk q h1 h2⟩ T' rfl X'
  exact ⟨t2, st t2 a1, b1⟩
/-- a call of a nest mate's private static method that reads -/
theorem z_callSN {y : MethodName} {bytes : ByteArray} {maxL index n : Nat} {ret : Option FieldType} {rm : Room} {As : List Value} {v : Value} {host : String} (cx : Cx E p s args m c own cc nL) (hv : zSm y bytes maxL ret n) (hM : Met l y (.code y bytes maxL ret :: AllW) rm (zP E (fun _ => True) As) (rQ v) 0 0 nF)
    (hl : va_Nw (.methodLinkNest own index y host) s) (hrm : rm.cells = 0 ∧ rm.slots = 0) (hR : rm.frames + 1 ≤ R.frames ∧ 8 + (maxL + 11) + rm.locals ≤ R.locals) (hn : As.length = n)
    (hsz : ls.size = nL) (hst : st0 = As.reverse ++ rest) (hW8 : (rest.map fun v => v.category).sum ≤ 8) (hdg : decode cc pc = .ok (.invokestatic index, 3)) (hf : cells ≤ R.cells ∧ slots ≤ R.slots)
    (kk : W p l e R s m args below meth c H locs cells slots Q (F0 m (pc + 3) ls (v :: rest))) : W p l e R s m args below meth c H locs cells slots Q (F0 m pc ls st0) := by
  have hcn : va_CN R s args own index y host bytes maxL ret (.code y bytes maxL ret :: AllW) rm 0 0 n := va_cnB n cx.ts (z_good hv.1) rfl hrm.1 hrm.2 hl (cx.ts _ hv.2.1) hv.2.2.2 hR
  have hr := va_runSN (e := e) (below := below) (meth := meth) (H := H) (locs := locs) (cells := cells) (slots := slots) (rest := rest) (As := As) (g := F0 m pc ls st0) cx.1 hM ⟨hcn, cx.ts _ hv.2.2.1, trivial⟩ ⟨zP.blind, fun U hU hW' => ⟨rfl, trivial, cx.2.warm hW'⟩⟩ rfl hn hsz hst (by show 2 * 0 + _ ≤ 8; omega) hdg hf
  intro T hT X
  obtain ⟨v', st₀, t, T', L, h0, X', hL, e1, -, ⟨hv', hh⟩, st⟩ := hr T hT X
  cases hv'
  obtain ⟨t2, a1, b1⟩ := kk T' (by rw [e1, hh, h0]) (Stand.forget X' (fun q h => (hL q h).elim))
  exact ⟨t2, st t2 a1, b1⟩
end ZCE
