/-! rows of the law: a script's number, calls of methods with a table -/
section ZL
variable {p : Program} {l : Launch} {e : Env} {R : Room} {s : State} {m : MethodId} {args : Array Value} {below : List Frame} {meth : Method} {c : Code} {H : Heap} {locs : List Loc} {cells slots : Nat} {Q : State → Prop}
variable {cc : ByteArray} {pc : Nat} {ls : Array Slot} {rest st0 : List Value} {E : zE} {own : String} {nL : Nat} {F : Nat → Prop}
theorem z_sld {b L j : Nat} {xs : Nat → Int32} {x : Int32} (cx : Cx E p s args m c own cc nL) (hX : va_X b L xs s s.heap) (hbl : b < s.heap.size) (hbF : ¬ F b) (hS : va_S F s.heap H locs) (hx : x = nI j) (hj : j < L) (hL : L ≤ 3072) (hdg : decode cc pc = .ok (.iaload, 1))
    (kk : W p l e R s m args below meth c H locs cells slots Q (F0 m (pc + 1) ls (.int (xs j) :: rest))) : W p l e R s m args below meth c H locs cells slots Q (F0 m pc ls (.int x :: .ref b :: rest)) := by
  subst hx
  refine va_sld cx.x cx.b hX hbl hbF hS (vp_in_nI hj (by omega)) hdg ?_
  rw [nI_clamp (by omega)]
  exact kk
theorem z_cvw {y : MethodName} {bytes : ByteArray} {maxL index n mc ms : Nat} {ret : Option FieldType} {hh : List (Nat × Nat × Nat × Nat)} {rm : Room} (cx : Cx E p s args m c own cc nL) (hc : Cond.codeWith y bytes maxL ret hh ∈ AllW) (hl : Cond.methodLink own index y ∈ AllW) (hi : Cond.initialized y.cls ∈ AllW) (him : Cond.instanceMethod y ∈ AllW) (hse : Cond.selects y.cls y y ∈ AllW) (hrc : rm.cells = mc) (hrs : rm.slots = ms)
    (hd : y.cls ≠ "java/lang/invoke/MethodHandle" ∧ y.cls ≠ "java/lang/invoke/VarHandle" ∧ (parseMethodDescriptor y.desc).map (fun d => d.parameters.length) = some n) (hR : rm.frames + 1 ≤ R.frames ∧ 8 + (maxL + 11) + rm.locals ≤ R.locals) :
    vx_CVW R s args own y.cls index y bytes maxL ret hh (.codeWith y bytes maxL ret hh :: AllW) rm mc ms n := by
  refine ⟨⟨hrc, hrs, hR.1, hR.2, pay_in cx.ts (z_goodh hc), List.mem_cons_self⟩, cx.ts _ hc, cx.ts _ hi, ⟨hd.1, hd.2.1⟩, fun sig h => ?_, cx.ts _ hl, cx.ts _ him, cx.ts _ hse⟩
  have h2 := hd.2.2
  rw [h] at h2
  exact (Option.some.inj h2).symm
theorem z_csw {y : MethodName} {bytes : ByteArray} {maxL index n mc ms : Nat} {ret : Option FieldType} {hh : List (Nat × Nat × Nat × Nat)} {rm : Room} (cx : Cx E p s args m c own cc nL) (hc : Cond.codeWith y bytes maxL ret hh ∈ AllW) (hl : Cond.methodLink own index y ∈ AllW) (hi : Cond.initialized y.cls ∈ AllW) (hst : Cond.static y ∈ AllW) (hrc : rm.cells = mc) (hrs : rm.slots = ms)
    (hd : y.cls ≠ "java/lang/invoke/MethodHandle" ∧ y.cls ≠ "java/lang/invoke/VarHandle" ∧ (parseMethodDescriptor y.desc).map (fun d => d.parameters.length) = some n) (hR : rm.frames + 1 ≤ R.frames ∧ 8 + (maxL + 11) + rm.locals ≤ R.locals) :
    vx_CSW R s args own index y bytes maxL ret hh (.codeWith y bytes maxL ret hh :: AllW) rm mc ms n := by
  refine ⟨⟨hrc, hrs, hR.1, hR.2, pay_in cx.ts (z_goodh hc), List.mem_cons_self⟩, cx.ts _ hc, cx.ts _ hi, ⟨hd.1, hd.2.1⟩, fun sig h => ?_, cx.ts _ hl, cx.ts _ hst⟩
  have h2 := hd.2.2
  rw [h] at h2
  exact (Option.some.inj h2).symm
end ZL
theorem vd_X7_toss : yX7_toss.cls ≠ "java/lang/invoke/MethodHandle" ∧ yX7_toss.cls ≠ "java/lang/invoke/VarHandle" ∧ (parseMethodDescriptor yX7_toss.desc).map (fun d => d.parameters.length) = some 1 := ⟨by decide +kernel, by decide +kernel, by decide +kernel⟩
theorem vd_L_element : yL_element.cls ≠ "java/lang/invoke/MethodHandle" ∧ yL_element.cls ≠ "java/lang/invoke/VarHandle" ∧ (parseMethodDescriptor yL_element.desc).map (fun d => d.parameters.length) = some 4 := ⟨by decide +kernel, by decide +kernel, by decide +kernel⟩
theorem lg_cmp_self (x : Int64) : lg_cmp x x = 0 := by
  unfold lg_cmp
  simp
set_option maxHeartbeats 4000000 in
set_option maxRecDepth 100000 in
theorem c_L_element (l : Launch) (hst : l.stackTraces = false) (E : zE) (b : Nat → Nat) (tl : va_W) (pd : Bool) (qt : Nat → Option Nat) (qr : Nat → Option Nat) (tbu : Nat → Int32) (wst : Nat → Int32) (asw : Nat → Int32) (pN : Int32) (tN : Int32) (aN : Int32) (hd : Int32) (dr : Int32) (pl : Int32) (rm : Int32) (ps : Int32) (wx : Nat → Int32) (pp : Nat → Option Nat) (tp : Nat → Option Nat) (ap : Nat → Option Nat) (sg : Nat → Int32) (uh : Int32) (ud : Int32) (up : Int32) (ur : Int32) (us : Int32) (ux : Nat → Int32) (G : zG) (A : Nat → Prop) (d i : Int32) (kp so sz el pr ts : Nat → Int32) (o : Nat) (f : Nat → Int64) (hSh : ShG E.2.1 G qt qr kp so sz el pr ts) : vx_Met l yL_element (.codeWith yL_element cL_element 5 (some .int) [(0, 9, 12, 13), (0, 9, 16, 15)] :: AllW) (rmA 8 140 1 6) (zPx E A (fun H => WW E (wK b E.2.1 tl pd qt qr tbu wst asw pN tN aN hd dr pl rm ps wx pp tp ap sg uh ud up ur us ux) G H ∧ va_at E.1 vwCl (o, .inl (E.2.1 5, 1, .inr (.inl f))) H) [.ref (b 0), .int d, .int i, .ref o]) (va_Qi (fun v (_ : Unit) => v = elmT kp sz d i) (fun _ t => ∃ f2 : Nat → Int64, va_at E.1 vwCl (o, .inl (E.2.1 5, 1, .inr (.inl f2))) t.heap ∧ (elmT kp sz d i = 0 → f2 0 = elmV kp sz el d i)) (fun q => q = o)) (vx_X (fun _ : Unit => False) (fun _ _ _ => True) nF) 1 6 (fun q => q = o) := by
  refine z_bodyh (own := RL) (by decide) rfl rfl ?_
  intro p e s m args below meth c ls cx hr hlk htab hW hxe hl
  obtain ⟨hW, hO⟩ := hW
  have hx := cx.x
  have hb := cx.b
  have hl : lv_has ls 5 [(0, .ref (b 0)), (1, .int d), (2, .int i), (3, .ref o)] := hl
  have hS : va_S (fun q => q = o) s.heap s.heap [] := va_S.rf
  refine lv_aload_n (pc := 0) hx hb dL_element_0 rfl (lv_at hl 3 rfl) ?_
  refine lv_iconst (pc := 1) (v := 0) hx hb dL_element_1 (by decide) ?_
  refine lv_aload_n (pc := 2) hx hb dL_element_2 rfl (lv_at hl 0 rfl) ?_
  refine lv_iload_n (pc := 3) hx hb dL_element_3 rfl (lv_at hl 1 rfl) ?_
  refine lv_iload_n (pc := 4) hx hb dL_element_4 rfl (lv_at hl 2 rfl) ?_
  refine vx_calll (pc := 5) (rest := [.int 0, .ref o]) (vx_runV cx.1 (c_X7_element l hst E b tl pd qt qr tbu wst asw pN tN aN hd dr pl rm ps wx pp tp ap sg uh ud up ur us ux G A d i kp so sz el pr ts hSh) ⟨z_cb cx vm_X7_element.1 m_ml_L_7 vm_X7_element.2.1 rfl rfl vm_X7_element.2.2.2 ⟨Nat.le_of_ble_eq_true rfl, Nat.le_of_ble_eq_true rfl⟩, cx.ts _ vm_X7_element.2.2.1.1, cx.ts _ vm_X7_element.2.2.1.2⟩ ⟨zPx.blind, z_rec cx.2 (hW.at 0 rfl) rfl, fun U hU hW2 => ⟨rfl, by rw [hU]; exact hW, by rw [hU]; exact hxe.warm hW2, cx.2.warm hW2⟩⟩ rfl rfl hl.1 rfl (by simp [Value.category]) dL_element_5 ⟨Nat.le_of_ble_eq_true rfl, Nat.le_of_ble_eq_true rfl⟩) hS (fun _ _ h => h.elim) (fun _ h => h.elim) (fun _ _ h => h.elim) (fun X ce q9 u t H locs hH hal _ hX hsz hkp hS hce hcv hcl => ?_) (fun r u t H locs hH hal hr2 _ hsz hkp hS => ?_)
  · replace hX : (elmT kp sz d i = 1 ∧ X = xI) ∨ (elmT kp sz d i = 2 ∧ X = xS) := hX
    have hO := hO.kept (hkp _ hO.lt (fun z => z))
    rcases hX with ⟨hE, hXx⟩ | ⟨hE, hXx⟩
    · rw [hXx] at hcl
      refine vx_catch (pc := 5) cx.own [] ⟨0, 9, 12, 13⟩ [⟨0, 9, 16, 15⟩] (by rw [htab]; rfl) (fun z hz => by cases hz) (by decide) (by decide) (cx.ts _ m_cl_L_13) (hxe.2.2.2.2.2.2.1.use rfl) hce hcv hcl ?_
      refine lv_astore (pc := 12) (lv' := [(4, .ref q9), (0, .ref (b 0)), (1, .int d), (2, .int i), (3, .ref o)]) hx hb dL_element_12 hl (by decide) rfl (fun ls hl => ?_)
      refine lv_iconst (pc := 14) (v := 1) hx hb dL_element_14 (by decide) ?_
      exact vx_ret (W.iret cx.x cx.b hr (fun t ht _ => ⟨⟨_, (), rfl, hE.symm, f, by rw [ht]; exact hO, fun h => absurd (hE.symm.trans h) (by decide)⟩, hS.F ht⟩) hS.2.2 dL_element_15 hlk)
    · rw [hXx] at hcl
      refine vx_catch (pc := 5) cx.own [⟨0, 9, 12, 13⟩] ⟨0, 9, 16, 15⟩ [] (by rw [htab]; rfl) (fun z hz => (List.mem_singleton.mp hz) ▸ Or.inr ⟨(by decide), xI, cx.ts _ m_cl_L_13, hxe.2.2.2.2.2.2.2.2.2.2.1⟩) (by decide) (by decide) (cx.ts _ m_cl_L_15) (hxe.2.2.2.2.2.2.2.1.use rfl) hce hcv hcl ?_
      refine lv_astore (pc := 16) (lv' := [(4, .ref q9), (0, .ref (b 0)), (1, .int d), (2, .int i), (3, .ref o)]) hx hb dL_element_16 hl (by decide) rfl (fun ls hl => ?_)
      refine lv_iconst (pc := 18) (v := 2) hx hb dL_element_18 (by decide) ?_
      exact vx_ret (W.iret cx.x cx.b hr (fun t ht _ => ⟨⟨_, (), rfl, hE.symm, f, by rw [ht]; exact hO, fun h => absurd (hE.symm.trans h) (by decide)⟩, hS.F ht⟩) hS.2.2 dL_element_19 hlk)
  · obtain ⟨hE, rfl⟩ := hr2
    have hO := hO.kept (hkp _ hO.lt (fun z => z))
    refine va_last (D := E.1) (cl := vwCl) (pc := 8) cx.x cx.b cx.K (z_sing hO) (va_D1 rfl : va_D (fun q => q = o) [(o, _)]) hS 0 5 rfl rfl (i := 0) (by unfold vp_in; decide) dL_element_8 (fun H locs hP hD hS => ?_)
    refine lv_goto (pc := 9) (tgt := 20) hx hb dL_element_9 (by decide) ?_
    refine lv_iconst (pc := 20) (v := 0) hx hb dL_element_20 (by decide) ?_
    exact vx_ret (W.iret cx.x cx.b hr (fun t ht _ => ⟨⟨_, (), rfl, hE.symm, _, by rw [ht]; exact hP 0 _ rfl, fun _ => (by simp [vp_updL])⟩, hS.F ht⟩) hS.2.2 dL_element_21 hlk)
