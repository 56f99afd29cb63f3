theorem vm_X7_isWithin : zSm yX7_isWithin cX7_isWithin 3 (some FieldType.boolean) 3 := ⟨m_co_X7_isWithin, m_in_RX7, m_st_X7_isWithin, by decide +kernel, by decide +kernel, by decide +kernel⟩
set_option maxHeartbeats 1000000 in
set_option maxRecDepth 100000 in
theorem c_X7_isWithin (l : Launch) (E : zE) (x y z : Int32)  : Met l yX7_isWithin (.code yX7_isWithin cX7_isWithin 3 (some FieldType.boolean) :: AllW) (rm0' 0 0) (zP E (fun _ => True) [.int x, .int y, .int z]) (rQ (.int (bI (inL x y z)))) 0 0 nF := by
  refine z_body (own := RX7) (by decide) rfl rfl ?_
  intro p e s m args below meth c ls cx hr hlk hnm hW hl
  have hx := cx.x
  have hb := cx.b
  have hl : lv_has ls 3 [(0, .int x), (1, .int y), (2, .int z)] := hl
  refine lv_iload_n (pc := 0) hx hb dX7_isWithin_0 rfl (lv_at hl 0 rfl) ?_
  refine lv_iload_n (pc := 1) hx hb dX7_isWithin_1 rfl (lv_at hl 1 rfl) ?_
  refine lv_icmp_lt (pc := 2) (tgt := 14) hx hb dX7_isWithin_2 (by decide) (fun c_1 => ?_) (fun c_1 => ?_)
  · skip
    refine lv_iconst (pc := 14) (v := 0) hx hb dX7_isWithin_14 (by decide) ?_
    exact z_zret cx hr hlk dX7_isWithin_15 (by first | rfl | (simp [inL, bI, c_1, i_nle.mpr c_1]; done))
  · skip
    refine lv_iload_n (pc := 5) hx hb dX7_isWithin_5 rfl (lv_at hl 0 rfl) ?_
    refine lv_iload_n (pc := 6) hx hb dX7_isWithin_6 rfl (lv_at hl 2 rfl) ?_
    refine lv_icmp_gt (pc := 7) (tgt := 14) hx hb dX7_isWithin_7 (by decide) (fun c_2 => ?_) (fun c_2 => ?_)
    · skip
      refine lv_iconst (pc := 14) (v := 0) hx hb dX7_isWithin_14 (by decide) ?_
      exact z_zret cx hr hlk dX7_isWithin_15 (by first | rfl | (simp [inL, bI, c_1, c_2, i_nlt.mp c_1, i_nle.mpr c_2]; done))
    · skip
      refine lv_iconst (pc := 10) (v := 1) hx hb dX7_isWithin_10 (by decide) ?_
      refine lv_goto (pc := 11) (tgt := 15) hx hb dX7_isWithin_11 (by decide) ?_
      exact z_zret cx hr hlk dX7_isWithin_15 (by first | rfl | (simp [inL, bI, c_1, c_2, i_nlt.mp c_1, i_nlt.mp c_2]; done))
theorem k_X7_isWithin {p : Program} {l : Launch} {e : Env} {R : Room} {s : State} {m : MethodId} {args : Array Value} {below : List Frame} {meth : Method} {c : Code} {H : Heap} {locs : List Loc} {cells slots : Nat} {Q : State → Prop} {cc : ByteArray} {pc index : Nat} {ls : Array Slot} {rest st0 : List Value} {E : zE} {own : String} {nL : Nat} {x y z : Int32} (cx : Cx E p s args m c own cc nL)  (zl : Cond.methodLink own index yX7_isWithin ∈ AllW) (zR : 0 + 1 ≤ R.frames ∧ 8 + (3 + 11) + 0 ≤ R.locals) (zs : ls.size = nL) (zt : st0 = ([.int x, .int y, .int z] : List Value).reverse ++ rest) (z8 : (rest.map fun v => v.category).sum ≤ 8) (zd : decode cc pc = .ok (.invokestatic index, 3)) (zf : cells ≤ R.cells ∧ slots ≤ R.slots) (kk : W p l e R s m args below meth c H locs cells slots Q (F0 m (pc + 3) ls (.int (bI (inL x y z)) :: rest))) : W p l e R s m args below meth c H locs cells slots Q (F0 m pc ls st0) :=
  z_callS cx vm_X7_isWithin (c_X7_isWithin l E x y z) trivial zl ⟨rfl, rfl⟩ zR rfl zs zt z8 zd zf kk
theorem vm_X7_isTone : zSm yX7_isTone cX7_isTone 1 (some FieldType.boolean) 1 := ⟨m_co_X7_isTone, m_in_RX7, m_st_X7_isTone, by decide +kernel, by decide +kernel, by decide +kernel⟩
set_option maxHeartbeats 1000000 in
set_option maxRecDepth 100000 in
theorem c_X7_isTone (l : Launch) (E : zE) (x : Int32)  : Met l yX7_isTone (.code yX7_isTone cX7_isTone 1 (some FieldType.boolean) :: AllW) (rm0' 1 22) (zP E (fun _ => True) [.int x]) (rQ (.int (bI (inL x 1 1200)))) 0 0 nF := by
  refine z_body (own := RX7) (by decide) rfl rfl ?_
  intro p e s m args below meth c ls cx hr hlk hnm hW hl
  have hx := cx.x
  have hb := cx.b
  have hl : lv_has ls 1 [(0, .int x)] := hl
  refine lv_iload_n (pc := 0) hx hb dX7_isTone_0 rfl (lv_at hl 0 rfl) ?_
  refine lv_iconst (pc := 1) (v := 1) hx hb dX7_isTone_1 (by decide) ?_
  refine lv_sipush (pc := 2) (v := 1200) hx hb dX7_isTone_2 (by decide) ?_
  refine k_X7_isWithin (pc := 5) (x := x) (y := 1) (z := 1200) cx  m_ml_X7_159 ⟨Nat.le_of_ble_eq_true rfl, Nat.le_of_ble_eq_true rfl⟩ hl.1 rfl (by simp [Value.category]) dX7_isTone_5 ⟨Nat.le_refl _, Nat.le_refl _⟩ ?_
  exact z_zret cx hr hlk dX7_isTone_8 (by first | rfl | (simp []; done))
theorem k_X7_isTone {p : Program} {l : Launch} {e : Env} {R : Room} {s : State} {m : MethodId} {args : Array Value} {below : List Frame} {meth : Method} {c : Code} {H : Heap} {locs : List Loc} {cells slots : Nat} {Q : State → Prop} {cc : ByteArray} {pc index : Nat} {ls : Array Slot} {rest st0 : List Value} {E : zE} {own : String} {nL : Nat} {x : Int32} (cx : Cx E p s args m c own cc nL)  (zl : Cond.methodLink own index yX7_isTone ∈ AllW) (zR : 1 + 1 ≤ R.frames ∧ 8 + (1 + 11) + 22 ≤ R.locals) (zs : ls.size = nL) (zt : st0 = ([.int x] : List Value).reverse ++ rest) (z8 : (rest.map fun v => v.category).sum ≤ 8) (zd : decode cc pc = .ok (.invokestatic index, 3)) (zf : cells ≤ R.cells ∧ slots ≤ R.slots) (kk : W p l e R s m args below meth c H locs cells slots Q (F0 m (pc + 3) ls (.int (bI (inL x 1 1200)) :: rest))) : W p l e R s m args below meth c H locs cells slots Q (F0 m pc ls st0) :=
  z_callS cx vm_X7_isTone (c_X7_isTone l E x) trivial zl ⟨rfl, rfl⟩ zR rfl zs zt z8 zd zf kk
theorem vm_X7_isStrong : zSm yX7_isStrong cX7_isStrong 1 (some FieldType.boolean) 1 := ⟨m_co_X7_isStrong, m_in_RX7, m_st_X7_isStrong, by decide +kernel, by decide +kernel, by decide +kernel⟩
set_option maxHeartbeats 1000000 in
set_option maxRecDepth 100000 in
theorem c_X7_isStrong (l : Launch) (E : zE) (x : Int32)  : Met l yX7_isStrong (.code yX7_isStrong cX7_isStrong 1 (some FieldType.boolean) :: AllW) (rm0' 1 22) (zP E (fun _ => True) [.int x]) (rQ (.int (bI (inL x 1 99)))) 0 0 nF := by
  refine z_body (own := RX7) (by decide) rfl rfl ?_
  intro p e s m args below meth c ls cx hr hlk hnm hW hl
  have hx := cx.x
  have hb := cx.b
  have hl : lv_has ls 1 [(0, .int x)] := hl
  refine lv_iload_n (pc := 0) hx hb dX7_isStrong_0 rfl (lv_at hl 0 rfl) ?_
  refine lv_iconst (pc := 1) (v := 1) hx hb dX7_isStrong_1 (by decide) ?_
  refine lv_bipush (pc := 2) (v := 99) hx hb dX7_isStrong_2 (by decide) ?_
  refine k_X7_isWithin (pc := 4) (x := x) (y := 1) (z := 99) cx  m_ml_X7_159 ⟨Nat.le_of_ble_eq_true rfl, Nat.le_of_ble_eq_true rfl⟩ hl.1 rfl (by simp [Value.category]) dX7_isStrong_4 ⟨Nat.le_refl _, Nat.le_refl _⟩ ?_
  exact z_zret cx hr hlk dX7_isStrong_7 (by first | rfl | (simp []; done))
theorem k_X7_isStrong {p : Program} {l : Launch} {e : Env} {R : Room} {s : State} {m : MethodId} {args : Array Value} {below : List Frame} {meth : Method} {c : Code} {H : Heap} {locs : List Loc} {cells slots : Nat} {Q : State → Prop} {cc : ByteArray} {pc index : Nat} {ls : Array Slot} {rest st0 : List Value} {E : zE} {own : String} {nL : Nat} {x : Int32} (cx : Cx E p s args m c own cc nL)  (zl : Cond.methodLink own index yX7_isStrong ∈ AllW) (zR : 1 + 1 ≤ R.frames ∧ 8 + (1 + 11) + 22 ≤ R.locals) (zs : ls.size = nL) (zt : st0 = ([.int x] : List Value).reverse ++ rest) (z8 : (rest.map fun v => v.category).sum ≤ 8) (zd : decode cc pc = .ok (.invokestatic index, 3)) (zf : cells ≤ R.cells ∧ slots ≤ R.slots) (kk : W p l e R s m args below meth c H locs cells slots Q (F0 m (pc + 3) ls (.int (bI (inL x 1 99)) :: rest))) : W p l e R s m args below meth c H locs cells slots Q (F0 m pc ls st0) :=
  z_callS cx vm_X7_isStrong (c_X7_isStrong l E x) trivial zl ⟨rfl, rfl⟩ zR rfl zs zt z8 zd zf kk
theorem vm_X7_isShelf : zSm yX7_isShelf cX7_isShelf 1 (some FieldType.boolean) 1 := ⟨m_co_X7_isShelf, m_in_RX7, m_st_X7_isShelf, by decide +kernel, by decide +kernel, by decide +kernel⟩
set_option maxHeartbeats 1000000 in
set_option maxRecDepth 100000 in
theorem c_X7_isShelf (l : Launch) (E : zE) (x : Int32)  : Met l yX7_isShelf (.code yX7_isShelf cX7_isShelf 1 (some FieldType.boolean) :: AllW) (rm0' 1 22) (zP E (fun _ => True) [.int x]) (rQ (.int (bI (inL x 0 7)))) 0 0 nF := by
  refine z_body (own := RX7) (by decide) rfl rfl ?_
  intro p e s m args below meth c ls cx hr hlk hnm hW hl
  have hx := cx.x
  have hb := cx.b
  have hl : lv_has ls 1 [(0, .int x)] := hl
  refine lv_iload_n (pc := 0) hx hb dX7_isShelf_0 rfl (lv_at hl 0 rfl) ?_
  refine lv_iconst (pc := 1) (v := 0) hx hb dX7_isShelf_1 (by decide) ?_
  refine lv_bipush (pc := 2) (v := 7) hx hb dX7_isShelf_2 (by decide) ?_
  refine k_X7_isWithin (pc := 4) (x := x) (y := 0) (z := 7) cx  m_ml_X7_159 ⟨Nat.le_of_ble_eq_true rfl, Nat.le_of_ble_eq_true rfl⟩ hl.1 rfl (by simp [Value.category]) dX7_isShelf_4 ⟨Nat.le_refl _, Nat.le_refl _⟩ ?_
  exact z_zret cx hr hlk dX7_isShelf_7 (by first | rfl | (simp []; done))
theorem k_X7_isShelf {p : Program} {l : Launch} {e : Env} {R : Room} {s : State} {m : MethodId} {args : Array Value} {below : List Frame} {meth : Method} {c : Code} {H : Heap} {locs : List Loc} {cells slots : Nat} {Q : State → Prop} {cc : ByteArray} {pc index : Nat} {ls : Array Slot} {rest st0 : List Value} {E : zE} {own : String} {nL : Nat} {x : Int32} (cx : Cx E p s args m c own cc nL)  (zl : Cond.methodLink own index yX7_isShelf ∈ AllW) (zR : 1 + 1 ≤ R.frames ∧ 8 + (1 + 11) + 22 ≤ R.locals) (zs : ls.size = nL) (zt : st0 = ([.int x] : List Value).reverse ++ rest) (z8 : (rest.map fun v => v.category).sum ≤ 8) (zd : decode cc pc = .ok (.invokestatic index, 3)) (zf : cells ≤ R.cells ∧ slots ≤ R.slots) (kk : W p l e R s m args below meth c H locs cells slots Q (F0 m (pc + 3) ls (.int (bI (inL x 0 7)) :: rest))) : W p l e R s m args below meth c H locs cells slots Q (F0 m pc ls st0) :=
  z_callS cx vm_X7_isShelf (c_X7_isShelf l E x) trivial zl ⟨rfl, rfl⟩ zR rfl zs zt z8 zd zf kk
theorem vm_X7_isBowed : zSm yX7_isBowed cX7_isBowed 2 (some FieldType.boolean) 2 := ⟨m_co_X7_isBowed, m_in_RX7, m_st_X7_isBowed, by decide +kernel, by decide +kernel, by decide +kernel⟩
set_option maxHeartbeats 1000000 in
set_option maxRecDepth 100000 in
theorem c_X7_isBowed (l : Launch) (E : zE) (x y : Int32)  : Met l yX7_isBowed (.code yX7_isBowed cX7_isBowed 2 (some FieldType.boolean) :: AllW) (rm0' 2 42) (zP E (fun _ => True) [.int x, .int y]) (rQ (.int (bI (inL x 1 1200 && inL y 1 99)))) 0 0 nF := by
  refine z_body (own := RX7) (by decide) rfl rfl ?_
  intro p e s m args below meth c ls cx hr hlk hnm hW hl
  have hx := cx.x
  have hb := cx.b
  have hl : lv_has ls 2 [(0, .int x), (1, .int y)] := hl
  refine lv_iload_n (pc := 0) hx hb dX7_isBowed_0 rfl (lv_at hl 0 rfl) ?_
  refine k_X7_isTone (pc := 1) (x := x) cx  m_ml_X7_200 ⟨Nat.le_of_ble_eq_true rfl, Nat.le_of_ble_eq_true rfl⟩ hl.1 rfl (by simp [Value.category]) dX7_isBowed_1 ⟨Nat.le_refl _, Nat.le_refl _⟩ ?_
  refine z_ifeq (pc := 4) (tgt := 18) hx hb dX7_isBowed_4 (by decide) (fun c_1 => ?_) (fun c_1 => ?_)
  · skip
    refine lv_iconst (pc := 18) (v := 0) hx hb dX7_isBowed_18 (by decide) ?_
    exact z_zret cx hr hlk dX7_isBowed_19 (by first | rfl | (simp [bI, c_1]; done))
  · skip
    refine lv_iload_n (pc := 7) hx hb dX7_isBowed_7 rfl (lv_at hl 1 rfl) ?_
    refine k_X7_isStrong (pc := 8) (x := y) cx  m_ml_X7_197 ⟨Nat.le_of_ble_eq_true rfl, Nat.le_of_ble_eq_true rfl⟩ hl.1 rfl (by simp [Value.category]) dX7_isBowed_8 ⟨Nat.le_refl _, Nat.le_refl _⟩ ?_
    refine z_ifeq (pc := 11) (tgt := 18) hx hb dX7_isBowed_11 (by decide) (fun c_2 => ?_) (fun c_2 => ?_)
    · skip
      refine lv_iconst (pc := 18) (v := 0) hx hb dX7_isBowed_18 (by decide) ?_
      exact z_zret cx hr hlk dX7_isBowed_19 (by first | rfl | (simp [bI, c_1, c_2]; done))
    · skip
      refine lv_iconst (pc := 14) (v := 1) hx hb dX7_isBowed_14 (by decide) ?_
      refine lv_goto (pc := 15) (tgt := 19) hx hb dX7_isBowed_15 (by decide) ?_
      exact z_zret cx hr hlk dX7_isBowed_19 (by first | rfl | (simp [bI, c_1, c_2]; done))
theorem k_X7_isBowed {p : Program} {l : Launch} {e : Env} {R : Room} {s : State} {m : MethodId} {args : Array Value} {below : List Frame} {meth : Method} {c : Code} {H : Heap} {locs : List Loc} {cells slots : Nat} {Q : State → Prop} {cc : ByteArray} {pc index : Nat} {ls : Array Slot} {rest st0 : List Value} {E : zE} {own : String} {nL : Nat} {x y : Int32} (cx : Cx E p s args m c own cc nL)  (zl : Cond.methodLink own index yX7_isBowed ∈ AllW) (zR : 2 + 1 ≤ R.frames ∧ 8 + (2 + 11) + 42 ≤ R.locals) (zs : ls.size = nL) (zt : st0 = ([.int x, .int y] : List Value).reverse ++ rest) (z8 : (rest.map fun v => v.category).sum ≤ 8) (zd : decode cc pc = .ok (.invokestatic index, 3)) (zf : cells ≤ R.cells ∧ slots ≤ R.slots) (kk : W p l e R s m args below meth c H locs cells slots Q (F0 m (pc + 3) ls (.int (bI (inL x 1 1200 && inL y 1 99)) :: rest))) : W p l e R s m args below meth c H locs cells slots Q (F0 m pc ls st0) :=
  z_callS cx vm_X7_isBowed (c_X7_isBowed l E x y) trivial zl ⟨rfl, rfl⟩ zR rfl zs zt z8 zd zf kk
theorem vm_X7_fault : zSm yX7_fault cX7_fault 2 (some FieldType.int) 2 := ⟨m_co_X7_fault, m_in_RX7, m_st_X7_fault, by decide +kernel, by decide +kernel, by decide +kernel⟩
set_option maxHeartbeats 1000000 in
set_option maxRecDepth 100000 in
theorem c_X7_fault (l : Launch) (E : zE) (x y : Int32)  : Met l yX7_fault (.code yX7_fault cX7_fault 2 (some FieldType.int) :: AllW) (rm0' 0 0) (zP E (fun _ => True) [.int x, .int y]) (rQ (.int (-1000 * x - y))) 0 0 nF := by
  refine z_body (own := RX7) (by decide) rfl rfl ?_
  intro p e s m args below meth c ls cx hr hlk hnm hW hl
  have hx := cx.x
  have hb := cx.b
  have hl : lv_has ls 2 [(0, .int x), (1, .int y)] := hl
  refine lv_sipush (pc := 0) (v := (-1000)) hx hb dX7_fault_0 (by decide) ?_
  refine lv_iload_n (pc := 3) hx hb dX7_fault_3 rfl (lv_at hl 0 rfl) ?_
  refine lv_imul (pc := 4) hx hb dX7_fault_4 ?_
  refine lv_iload_n (pc := 5) hx hb dX7_fault_5 rfl (lv_at hl 1 rfl) ?_
  refine lv_isub (pc := 6) hx hb dX7_fault_6 ?_
  exact z_iret cx hr hlk dX7_fault_7 (by first | rfl | (simp []; done))
theorem k_X7_fault {p : Program} {l : Launch} {e : Env} {R : Room} {s : State} {m : MethodId} {args : Array Value} {below : List Frame} {meth : Method} {c : Code} {H : Heap} {locs : List Loc} {cells slots : Nat} {Q : State → Prop} {cc : ByteArray} {pc index : Nat} {ls : Array Slot} {rest st0 : List Value} {E : zE} {own : String} {nL : Nat} {x y : Int32} (cx : Cx E p s args m c own cc nL)  (zl : Cond.methodLink own index yX7_fault ∈ AllW) (zR : 0 + 1 ≤ R.frames ∧ 8 + (2 + 11) + 0 ≤ R.locals) (zs : ls.size = nL) (zt : st0 = ([.int x, .int y] : List Value).reverse ++ rest) (z8 : (rest.map fun v => v.category).sum ≤ 8) (zd : decode cc pc = .ok (.invokestatic index, 3)) (zf : cells ≤ R.cells ∧ slots ≤ R.slots) (kk : W p l e R s m args below meth c H locs cells slots Q (F0 m (pc + 3) ls (.int (-1000 * x - y) :: rest))) : W p l e R s m args below meth c H locs cells slots Q (F0 m pc ls st0) :=
  z_callS cx vm_X7_fault (c_X7_fault l E x y) trivial zl ⟨rfl, rfl⟩ zR rfl zs zt z8 zd zf kk
theorem vm_X4_size : zVm yX4_size cX4_size 1 (some FieldType.int) 0 := ⟨m_co_X4_size, m_in_RX4, ⟨m_im_X4_size, m_se_X4_X4_size⟩, by decide +kernel, by decide +kernel, by decide +kernel⟩
set_option maxHeartbeats 1000000 in
set_option maxRecDepth 100000 in
theorem c_X4_size (l : Launch) (E : zE) (q w z : Nat) (v0 : Int32) (x : Nat → Int32)   : Met l yX4_size (.code yX4_size cX4_size 1 (some FieldType.int) :: AllW) (rm0' 0 0) (zP E (fun H => va_at E.1 vwCl (q, ceW v0 w) H ∧ va_at E.1 vwCl (w, ceI E.2.1 z x) H) [.ref q]) (rQ (.int (nI z))) 0 0 nF := by
  refine z_body (own := RX4) (by decide) rfl rfl ?_
  intro p e s m args below meth c ls cx hr hlk hnm hW hl
  have hx := cx.x
  have hb := cx.b
  have hl : lv_has ls 1 [(0, .ref q)] := hl
  refine lv_aload_n (pc := 0) hx hb dX4_size_0 rfl (lv_at hl 0 rfl) ?_
  refine z_get (pc := 1) cx hW.1 (C := RX4) (T := TX4) (N := 2) rfl i_X4 1 rfl m_fl_X4_13 rfl dX4_size_1 ?_
  refine z_alen (pc := 4) cx 0 hW.2 rfl rfl dX4_size_4 ?_
  exact z_iret cx hr hlk dX4_size_5 (by first | rfl | (simp []; done))
theorem k_X4_size {p : Program} {l : Launch} {e : Env} {R : Room} {s : State} {m : MethodId} {args : Array Value} {below : List Frame} {meth : Method} {c : Code} {H : Heap} {locs : List Loc} {cells slots : Nat} {Q : State → Prop} {cc : ByteArray} {pc index : Nat} {ls : Array Slot} {rest st0 : List Value} {E : zE} {own : String} {nL : Nat} {q w z : Nat} {v0 : Int32} {x : Nat → Int32}  (cx : Cx E p s args m c own cc nL) (hW : va_at E.1 vwCl (q, ceW v0 w) H ∧ va_at E.1 vwCl (w, ceI E.2.1 z x) H)  (zl : Cond.methodLink own index yX4_size ∈ AllW) (zR : 0 + 1 ≤ R.frames ∧ 8 + (1 + 11) + 0 ≤ R.locals) (zs : ls.size = nL) (zt : st0 = ([] : List Value).reverse ++ .ref q :: rest) (z8 : (rest.map fun v => v.category).sum ≤ 8) (zd : decode cc pc = .ok (.invokevirtual index, 3)) (zf : cells ≤ R.cells ∧ slots ≤ R.slots) (kk : W p l e R s m args below meth c H locs cells slots Q (F0 m (pc + 3) ls (.int (nI z) :: rest))) : W p l e R s m args below meth c H locs cells slots Q (F0 m pc ls st0) :=
  z_callV cx vm_X4_size (c_X4_size l E q w z v0 x) (z_rec cx.2 hW.1 rfl) hW zl ⟨rfl, rfl⟩ zR rfl zs zt z8 zd zf kk
theorem vm_X4_valueAt : zVm yX4_valueAt cX4_valueAt 2 (some FieldType.int) 1 := ⟨m_co_X4_valueAt, m_in_RX4, ⟨m_im_X4_valueAt, m_se_X4_X4_valueAt⟩, by decide +kernel, by decide +kernel, by decide +kernel⟩
set_option maxHeartbeats 1000000 in
set_option maxRecDepth 100000 in
theorem c_X4_valueAt (l : Launch) (E : zE) (q w z : Nat) (v0 : Int32) (x : Nat → Int32) (n : Nat) (hz : z ≤ 100) (hn : n < z) : Met l yX4_valueAt (.code yX4_valueAt cX4_valueAt 2 (some FieldType.int) :: AllW) (rm0' 0 0) (zP E (fun H => va_at E.1 vwCl (q, ceW v0 w) H ∧ va_at E.1 vwCl (w, ceI E.2.1 z x) H) [.ref q, .int (nI n)]) (rQ (.int (x n))) 0 0 nF := by
  refine z_body (own := RX4) (by decide) rfl rfl ?_
  intro p e s m args below meth c ls cx hr hlk hnm hW hl
  have hx := cx.x
  have hb := cx.b
  have hl : lv_has ls 2 [(0, .ref q), (1, .int (nI n))] := hl
  refine lv_iload_n (pc := 0) hx hb dX4_valueAt_0 rfl (lv_at hl 1 rfl) ?_
  refine lv_if_lt (pc := 1) (tgt := 22) hx hb dX4_valueAt_1 (by decide) (fun c_1 => ?_) (fun c_1 => ?_)
  · skip
    exact absurd c_1 (nI_n0 (by omega))
  · skip
    refine lv_iload_n (pc := 4) hx hb dX4_valueAt_4 rfl (lv_at hl 1 rfl) ?_
    refine lv_aload_n (pc := 5) hx hb dX4_valueAt_5 rfl (lv_at hl 0 rfl) ?_
    refine z_get (pc := 6) cx hW.1 (C := RX4) (T := TX4) (N := 2) rfl i_X4 1 rfl m_fl_X4_13 rfl dX4_valueAt_6 ?_
    refine z_alen (pc := 9) cx 0 hW.2 rfl rfl dX4_valueAt_9 ?_
    refine lv_icmp_ge (pc := 10) (tgt := 22) hx hb dX4_valueAt_10 (by decide) (fun c_2 => ?_) (fun c_2 => ?_)
    · skip
      have h3 := ge_nat (a := n) (b := z) rfl rfl (by omega) (by omega) c_2
      omega
    · skip
      refine lv_aload_n (pc := 13) hx hb dX4_valueAt_13 rfl (lv_at hl 0 rfl) ?_
      refine z_get (pc := 14) cx hW.1 (C := RX4) (T := TX4) (N := 2) rfl i_X4 1 rfl m_fl_X4_13 rfl dX4_valueAt_14 ?_
      refine lv_iload_n (pc := 17) hx hb dX4_valueAt_17 rfl (lv_at hl 1 rfl) ?_
      refine z_iald (pc := 18) (f := x) (j := n) cx hW.2 rfl (by omega) (by omega) dX4_valueAt_18 ?_
      refine lv_goto (pc := 19) (tgt := 23) hx hb dX4_valueAt_19 (by decide) ?_
      exact z_iret cx hr hlk dX4_valueAt_23 (by first | rfl | (simp [c_1, c_2, i_nlt.mp c_1, i_nle.mp c_2]; done))
theorem k_X4_valueAt {p : Program} {l : Launch} {e : Env} {R : Room} {s : State} {m : MethodId} {args : Array Value} {below : List Frame} {meth : Method} {c : Code} {H : Heap} {locs : List Loc} {cells slots : Nat} {Q : State → Prop} {cc : ByteArray} {pc index : Nat} {ls : Array Slot} {rest st0 : List Value} {E : zE} {own : String} {nL : Nat} {q w z : Nat} {v0 : Int32} {x : Nat → Int32} {n : Nat} (cx : Cx E p s args m c own cc nL) (hW : va_at E.1 vwCl (q, ceW v0 w) H ∧ va_at E.1 vwCl (w, ceI E.2.1 z x) H) (hz : z ≤ 100) (hn : n < z) (zl : Cond.methodLink own index yX4_valueAt ∈ AllW) (zR : 0 + 1 ≤ R.frames ∧ 8 + (2 + 11) + 0 ≤ R.locals) (zs : ls.size = nL) (zt : st0 = ([.int (nI n)] : List Value).reverse ++ .ref q :: rest) (z8 : (rest.map fun v => v.category).sum ≤ 8) (zd : decode cc pc = .ok (.invokevirtual index, 3)) (zf : cells ≤ R.cells ∧ slots ≤ R.slots) (kk : W p l e R s m args below meth c H locs cells slots Q (F0 m (pc + 3) ls (.int (x n) :: rest))) : W p l e R s m args below meth c H locs cells slots Q (F0 m pc ls st0) :=
  z_callV cx vm_X4_valueAt (c_X4_valueAt l E q w z v0 x n hz hn) (z_rec cx.2 hW.1 rfl) hW zl ⟨rfl, rfl⟩ zR rfl zs zt z8 zd zf kk
theorem vm_X4_isPlace : zVm yX4_isPlace cX4_isPlace 2 (some FieldType.boolean) 1 := ⟨m_co_X4_isPlace, m_in_RX4, ⟨m_im_X4_isPlace, m_se_X4_X4_isPlace⟩, by decide +kernel, by decide +kernel, by decide +kernel⟩
set_option maxHeartbeats 1000000 in
set_option maxRecDepth 100000 in
theorem c_X4_isPlace (l : Launch) (E : zE) (q w z : Nat) (v0 : Int32) (x : Nat → Int32) (i : Int32) (hz : z ≤ 100) : Met l yX4_isPlace (.code yX4_isPlace cX4_isPlace 2 (some FieldType.boolean) :: AllW) (rm0' 0 0) (zP E (fun H => va_at E.1 vwCl (q, ceW v0 w) H ∧ va_at E.1 vwCl (w, ceI E.2.1 z x) H) [.ref q, .int i]) (rQ (.int (bI (inL i 0 (nI z - 1))))) 0 0 nF := by
  refine z_body (own := RX4) (by decide) rfl rfl ?_
  intro p e s m args below meth c ls cx hr hlk hnm hW hl
  have hx := cx.x
  have hb := cx.b
  have hl : lv_has ls 2 [(0, .ref q), (1, .int i)] := hl
  refine lv_iload_n (pc := 0) hx hb dX4_isPlace_0 rfl (lv_at hl 1 rfl) ?_
  refine lv_if_lt (pc := 1) (tgt := 17) hx hb dX4_isPlace_1 (by decide) (fun c_1 => ?_) (fun c_1 => ?_)
  · skip
    refine lv_iconst (pc := 17) (v := 0) hx hb dX4_isPlace_17 (by decide) ?_
    exact z_zret cx hr hlk dX4_isPlace_18 (by first | rfl | (simp [bI, isR_C hz, c_1, i_nle.mpr c_1]; done))
  · skip
    refine lv_iload_n (pc := 4) hx hb dX4_isPlace_4 rfl (lv_at hl 1 rfl) ?_
    refine lv_aload_n (pc := 5) hx hb dX4_isPlace_5 rfl (lv_at hl 0 rfl) ?_
    refine z_get (pc := 6) cx hW.1 (C := RX4) (T := TX4) (N := 2) rfl i_X4 1 rfl m_fl_X4_13 rfl dX4_isPlace_6 ?_
    refine z_alen (pc := 9) cx 0 hW.2 rfl rfl dX4_isPlace_9 ?_
    refine lv_icmp_ge (pc := 10) (tgt := 17) hx hb dX4_isPlace_10 (by decide) (fun c_2 => ?_) (fun c_2 => ?_)
    · skip
      refine lv_iconst (pc := 17) (v := 0) hx hb dX4_isPlace_17 (by decide) ?_
      exact z_zret cx hr hlk dX4_isPlace_18 (by first | rfl | (simp [bI, isR_C hz, c_1, c_2, i_nlt.mp c_1, i_nlt.mpr c_2]; done))
    · skip
      refine lv_iconst (pc := 13) (v := 1) hx hb dX4_isPlace_13 (by decide) ?_
      refine lv_goto (pc := 14) (tgt := 18) hx hb dX4_isPlace_14 (by decide) ?_
      exact z_zret cx hr hlk dX4_isPlace_18 (by first | rfl | (simp [bI, isR_C hz, c_1, c_2, i_nlt.mp c_1, i_nle.mp c_2]; done))
theorem k_X4_isPlace {p : Program} {l : Launch} {e : Env} {R : Room} {s : State} {m : MethodId} {args : Array Value} {below : List Frame} {meth : Method} {c : Code} {H : Heap} {locs : List Loc} {cells slots : Nat} {Q : State → Prop} {cc : ByteArray} {pc index : Nat} {ls : Array Slot} {rest st0 : List Value} {E : zE} {own : String} {nL : Nat} {q w z : Nat} {v0 : Int32} {x : Nat → Int32} {i : Int32} (cx : Cx E p s args m c own cc nL) (hW : va_at E.1 vwCl (q, ceW v0 w) H ∧ va_at E.1 vwCl (w, ceI E.2.1 z x) H) (hz : z ≤ 100) (zl : Cond.methodLink own index yX4_isPlace ∈ AllW) (zR : 0 + 1 ≤ R.frames ∧ 8 + (2 + 11) + 0 ≤ R.locals) (zs : ls.size = nL) (zt : st0 = ([.int i] : List Value).reverse ++ .ref q :: rest) (z8 : (rest.map fun v => v.category).sum ≤ 8) (zd : decode cc pc = .ok (.invokevirtual index, 3)) (zf : cells ≤ R.cells ∧ slots ≤ R.slots) (kk : W p l e R s m args below meth c H locs cells slots Q (F0 m (pc + 3) ls (.int (bI (inL i 0 (nI z - 1))) :: rest))) : W p l e R s m args below meth c H locs cells slots Q (F0 m pc ls st0) :=
  z_callV cx vm_X4_isPlace (c_X4_isPlace l E q w z v0 x i hz) (z_rec cx.2 hW.1 rfl) hW zl ⟨rfl, rfl⟩ zR rfl zs zt z8 zd zf kk
theorem vm_X4_leastNumber : zVm yX4_leastNumber cX4_leastNumber 1 (some FieldType.int) 0 := ⟨m_co_X4_leastNumber, m_in_RX4, ⟨m_im_X4_leastNumber, m_se_X4_X4_leastNumber⟩, by decide +kernel, by decide +kernel, by decide +kernel⟩
set_option maxHeartbeats 1000000 in
set_option maxRecDepth 100000 in
theorem c_X4_leastNumber (l : Launch) (E : zE) (q w : Nat) (v0 : Int32)   : Met l yX4_leastNumber (.code yX4_leastNumber cX4_leastNumber 1 (some FieldType.int) :: AllW) (rm0' 0 0) (zP E (fun H => va_at E.1 vwCl (q, ceW v0 w) H) [.ref q]) (rQ (.int (if v0 = 0 then -128 else if v0 = 1 then -32768 else -2147483648))) 0 0 nF := by
  refine z_body (own := RX4) (by decide) rfl rfl ?_
  intro p e s m args below meth c ls cx hr hlk hnm hW hl
  have hx := cx.x
  have hb := cx.b
  have hl : lv_has ls 1 [(0, .ref q)] := hl
  refine lv_aload_n (pc := 0) hx hb dX4_leastNumber_0 rfl (lv_at hl 0 rfl) ?_
  refine z_get (pc := 1) cx hW (C := RX4) (T := TX4) (N := 2) rfl i_X4 0 rfl m_fl_X4_7 rfl dX4_leastNumber_1 ?_
  by_cases c_1 : v0 = 0
  · subst c_1
    refine lv_lookup (pc := 4) (tgt := 32) (off := 28) hx hb dX4_leastNumber_4 (by decide) (by decide) (by decide) ?_
    refine lv_bipush (pc := 32) (v := (-128)) hx hb dX4_leastNumber_32 (by decide) ?_
    exact z_iret cx hr hlk dX4_leastNumber_34 (by first | rfl | (simp []; done))
  by_cases c_2 : v0 = 1
  · subst c_2
    refine lv_lookup (pc := 4) (tgt := 35) (off := 31) hx hb dX4_leastNumber_4 (by decide) (by decide) (by decide) ?_
    refine lv_sipush (pc := 35) (v := (-32768)) hx hb dX4_leastNumber_35 (by decide) ?_
    exact z_iret cx hr hlk dX4_leastNumber_38 (by first | rfl | (simp [c_1]; done))
  refine lv_lookup (pc := 4) (tgt := 39) (off := 35) hx hb dX4_leastNumber_4 (by decide) ((lv_osw c_1 (by decide)).trans ((lv_osw c_2 (by decide)).trans (rfl))) (by decide) ?_
  refine lv_ldc (pc := 39) (v := (-2147483648)) hx hb cx.own (cx.ts _ m_ko_X4_25) dX4_leastNumber_39 ?_
  exact z_iret cx hr hlk dX4_leastNumber_41 (by first | rfl | (simp [c_1, c_2]; done))
theorem k_X4_leastNumber {p : Program} {l : Launch} {e : Env} {R : Room} {s : State} {m : MethodId} {args : Array Value} {below : List Frame} {meth : Method} {c : Code} {H : Heap} {locs : List Loc} {cells slots : Nat} {Q : State → Prop} {cc : ByteArray} {pc index : Nat} {ls : Array Slot} {rest st0 : List Value} {E : zE} {own : String} {nL : Nat} {q w : Nat} {v0 : Int32}  (cx : Cx E p s args m c own cc nL) (hW : va_at E.1 vwCl (q, ceW v0 w) H)  (zl : Cond.methodLink own index yX4_leastNumber ∈ AllW) (zR : 0 + 1 ≤ R.frames ∧ 8 + (1 + 11) + 0 ≤ R.locals) (zs : ls.size = nL) (zt : st0 = ([] : List Value).reverse ++ .ref q :: rest) (z8 : (rest.map fun v => v.category).sum ≤ 8) (zd : decode cc pc = .ok (.invokevirtual index, 3)) (zf : cells ≤ R.cells ∧ slots ≤ R.slots) (kk : W p l e R s m args below meth c H locs cells slots Q (F0 m (pc + 3) ls (.int (if v0 = 0 then -128 else if v0 = 1 then -32768 else -2147483648) :: rest))) : W p l e R s m args below meth c H locs cells slots Q (F0 m pc ls st0) :=
  z_callV cx vm_X4_leastNumber (c_X4_leastNumber l E q w v0) (z_rec cx.2 hW rfl) hW zl ⟨rfl, rfl⟩ zR rfl zs zt z8 zd zf kk
theorem vm_X7_rowRefusal : zVm yX7_rowRefusal cX7_rowRefusal 2 (some FieldType.int) 1 := ⟨m_co_X7_rowRefusal, m_in_RX7, ⟨m_im_X7_rowRefusal, m_se_X7_X7_rowRefusal⟩, by decide +kernel, by decide +kernel, by decide +kernel⟩
set_option maxHeartbeats 1000000 in
set_option maxRecDepth 100000 in
theorem c_X7_rowRefusal (l : Launch) (E : zE) (b : Nat → Nat) (tl : va_W) (pd : Bool) (qt : Nat → Option Nat) (qr : Nat → Option Nat) (tbu : Nat → Int32) (wst : Nat → Int32) (asw : Nat → Int32) (pN : Int32) (tN : Int32) (aN : Int32) (hd : Int32) (dr : Int32) (pl : Int32) (rm : Int32) (ps : Int32) (wx : Nat → Int32) (pp : Nat → Option Nat) (tp : Nat → Option Nat) (ap : Nat → Option Nat) (sg : Nat → Int32) (uh : Int32) (ud : Int32) (up : Int32) (ur : Int32) (us : Int32) (ux : Nat → Int32) (G : zG) (d : Int32) (kp so sz el pr ts : Nat → Int32) (hSh : ShG E.2.1 G qt qr kp so sz el pr ts) : Met l yX7_rowRefusal (.code yX7_rowRefusal cX7_rowRefusal 2 (some FieldType.int) :: AllW) (rm0' 2 42) (zP E (fun H => WW E (wK b E.2.1 tl pd qt qr tbu wst asw pN tN aN hd dr pl rm ps wx pp tp ap sg uh ud up ur us ux) G H) [.ref (b 0), .int d]) (rQ (.int (wrR kp so d (-1)))) 0 0 nF := by
  refine z_body (own := RX7) (by decide) rfl rfl ?_
  intro p e s m args below meth c ls cx hr hlk hnm hW hl
  have hx := cx.x
  have hb := cx.b
  have hl : lv_has ls 2 [(0, .ref (b 0)), (1, .int d)] := hl
  refine lv_iload_n (pc := 0) hx hb dX7_rowRefusal_0 rfl (lv_at hl 1 rfl) ?_
  refine k_X7_isShelf (pc := 1) (x := d) cx  m_ml_X7_343 ⟨Nat.le_of_ble_eq_true rfl, Nat.le_of_ble_eq_true rfl⟩ hl.1 rfl (by simp [Value.category]) dX7_rowRefusal_1 ⟨Nat.le_refl _, Nat.le_refl _⟩ ?_
  refine z_ifne (pc := 4) (tgt := 9) hx hb dX7_rowRefusal_4 (by decide) (fun c_1 => ?_) (fun c_1 => ?_)
  · skip
    obtain ⟨n, hn, rfl⟩ := shelf_nat c_1
    have hN := iN_nI (n := n) (by omega)
    rcases hSh.2 n hn with ⟨hk, ht0, hr0⟩ | ⟨hk, hr0, q1, v0, v1, v2, v3, v4, v5, ht0, hq1, hpr, hts⟩ | ⟨hk, ht0, q1, w1, x1, hr0, hq1, hw1, hx1⟩
    · skip
      refine lv_aload_n (pc := 9) hx hb dX7_rowRefusal_9 rfl (lv_at hl 0 rfl) ?_
      refine z_get (pc := 10) cx (hW.at 0 rfl) (C := RX7) (T := TX7) (N := 11) rfl i_X7 7 rfl m_fl_X7_44 rfl dX7_rowRefusal_10 ?_
      refine lv_iload_n (pc := 13) hx hb dX7_rowRefusal_13 rfl (lv_at hl 1 rfl) ?_
      refine z_aald (pc := 14) (f := qr) (j := n) cx 4 rfl (hW.at 2 rfl) rfl (by omega) (by decide) dX7_rowRefusal_14 ?_
      refine z_rfN hr0 ?_
      refine lv_ifnullN (pc := 15) (tgt := 20) hx hb dX7_rowRefusal_15 (by decide) ?_
      refine lv_aload_n (pc := 20) hx hb dX7_rowRefusal_20 rfl (lv_at hl 0 rfl) ?_
      refine z_get (pc := 21) cx (hW.at 0 rfl) (C := RX7) (T := TX7) (N := 11) rfl i_X7 6 rfl m_fl_X7_38 rfl dX7_rowRefusal_21 ?_
      refine lv_iload_n (pc := 24) hx hb dX7_rowRefusal_24 rfl (lv_at hl 1 rfl) ?_
      refine z_aald (pc := 25) (f := qt) (j := n) cx 2 rfl (hW.at 1 rfl) rfl (by omega) (by decide) dX7_rowRefusal_25 ?_
      refine z_rfN ht0 ?_
      refine lv_ifnonnullN (pc := 26) hx hb dX7_rowRefusal_26 ?_
      refine lv_bipush (pc := 29) (v := (-11)) hx hb dX7_rowRefusal_29 (by decide) ?_
      refine lv_goto (pc := 31) (tgt := 36) hx hb dX7_rowRefusal_31 (by decide) ?_
      exact z_iret cx hr hlk dX7_rowRefusal_36 (by first | rfl | (simp [wrR, c_1, hN, hk]; done))
    · skip
      refine lv_aload_n (pc := 9) hx hb dX7_rowRefusal_9 rfl (lv_at hl 0 rfl) ?_
      refine z_get (pc := 10) cx (hW.at 0 rfl) (C := RX7) (T := TX7) (N := 11) rfl i_X7 7 rfl m_fl_X7_44 rfl dX7_rowRefusal_10 ?_
      refine lv_iload_n (pc := 13) hx hb dX7_rowRefusal_13 rfl (lv_at hl 1 rfl) ?_
      refine z_aald (pc := 14) (f := qr) (j := n) cx 4 rfl (hW.at 2 rfl) rfl (by omega) (by decide) dX7_rowRefusal_14 ?_
      refine z_rfN hr0 ?_
      refine lv_ifnullN (pc := 15) (tgt := 20) hx hb dX7_rowRefusal_15 (by decide) ?_
      refine lv_aload_n (pc := 20) hx hb dX7_rowRefusal_20 rfl (lv_at hl 0 rfl) ?_
      refine z_get (pc := 21) cx (hW.at 0 rfl) (C := RX7) (T := TX7) (N := 11) rfl i_X7 6 rfl m_fl_X7_38 rfl dX7_rowRefusal_21 ?_
      refine lv_iload_n (pc := 24) hx hb dX7_rowRefusal_24 rfl (lv_at hl 1 rfl) ?_
      refine z_aald (pc := 25) (f := qt) (j := n) cx 2 rfl (hW.at 1 rfl) rfl (by omega) (by decide) dX7_rowRefusal_25 ?_
      refine z_rfS ht0 ?_
      refine lv_ifnonnull (pc := 26) (tgt := 34) hx hb dX7_rowRefusal_26 (by decide) ?_
      refine lv_bipush (pc := 34) (v := (-12)) hx hb dX7_rowRefusal_34 (by decide) ?_
      exact z_iret cx hr hlk dX7_rowRefusal_36 (by first | rfl | (simp [wrR, c_1, hN, hk]; done))
    · skip
      refine lv_aload_n (pc := 9) hx hb dX7_rowRefusal_9 rfl (lv_at hl 0 rfl) ?_
      refine z_get (pc := 10) cx (hW.at 0 rfl) (C := RX7) (T := TX7) (N := 11) rfl i_X7 7 rfl m_fl_X7_44 rfl dX7_rowRefusal_10 ?_
      refine lv_iload_n (pc := 13) hx hb dX7_rowRefusal_13 rfl (lv_at hl 1 rfl) ?_
      refine z_aald (pc := 14) (f := qr) (j := n) cx 4 rfl (hW.at 2 rfl) rfl (by omega) (by decide) dX7_rowRefusal_14 ?_
      refine z_rfS hr0 ?_
      refine lv_ifnull (pc := 15) hx hb dX7_rowRefusal_15 ?_
      refine lv_iconst (pc := 18) (v := 0) hx hb dX7_rowRefusal_18 (by decide) ?_
      exact z_iret cx hr hlk dX7_rowRefusal_19 (by first | rfl | (simp [wrR, c_1, hN, hk]; done))
  · skip
    refine lv_iconst (pc := 7) (v := (-1)) hx hb dX7_rowRefusal_7 (by decide) ?_
    exact z_iret cx hr hlk dX7_rowRefusal_8 (by first | rfl | (simp [wrR, c_1]; done))
theorem k_X7_rowRefusal {p : Program} {l : Launch} {e : Env} {R : Room} {s : State} {m : MethodId} {args : Array Value} {below : List Frame} {meth : Method} {c : Code} {H : Heap} {locs : List Loc} {cells slots : Nat} {Q : State → Prop} {cc : ByteArray} {pc index : Nat} {ls : Array Slot} {rest st0 : List Value} {E : zE} {own : String} {nL : Nat} {b : Nat → Nat} {tl : va_W} {pd : Bool} {qt : Nat → Option Nat} {qr : Nat → Option Nat} {tbu : Nat → Int32} {wst : Nat → Int32} {asw : Nat → Int32} {pN : Int32} {tN : Int32} {aN : Int32} {hd : Int32} {dr : Int32} {pl : Int32} {rm : Int32} {ps : Int32} {wx : Nat → Int32} {pp : Nat → Option Nat} {tp : Nat → Option Nat} {ap : Nat → Option Nat} {sg : Nat → Int32} {uh : Int32} {ud : Int32} {up : Int32} {ur : Int32} {us : Int32} {ux : Nat → Int32} {G : zG} {d : Int32} {kp so sz el pr ts : Nat → Int32} (cx : Cx E p s args m c own cc nL) (hW : WW E (wK b E.2.1 tl pd qt qr tbu wst asw pN tN aN hd dr pl rm ps wx pp tp ap sg uh ud up ur us ux) G H) (hSh : ShG E.2.1 G qt qr kp so sz el pr ts) (zl : Cond.methodLink own index yX7_rowRefusal ∈ AllW) (zR : 2 + 1 ≤ R.frames ∧ 8 + (2 + 11) + 42 ≤ R.locals) (zs : ls.size = nL) (zt : st0 = ([.int d] : List Value).reverse ++ .ref (b 0) :: rest) (z8 : (rest.map fun v => v.category).sum ≤ 8) (zd : decode cc pc = .ok (.invokevirtual index, 3)) (zf : cells ≤ R.cells ∧ slots ≤ R.slots) (kk : W p l e R s m args below meth c H locs cells slots Q (F0 m (pc + 3) ls (.int (wrR kp so d (-1)) :: rest))) : W p l e R s m args below meth c H locs cells slots Q (F0 m pc ls st0) :=
  z_callV cx vm_X7_rowRefusal (c_X7_rowRefusal l E b tl pd qt qr tbu wst asw pN tN aN hd dr pl rm ps wx pp tp ap sg uh ud up ur us ux G d kp so sz el pr ts hSh) (z_rec cx.2 (hW.at 0 rfl) rfl) hW zl ⟨rfl, rfl⟩ zR rfl zs zt z8 zd zf kk
theorem vm_X7_thingRefusal : zVm yX7_thingRefusal cX7_thingRefusal 2 (some FieldType.int) 1 := ⟨m_co_X7_thingRefusal, m_in_RX7, ⟨m_im_X7_thingRefusal, m_se_X7_X7_thingRefusal⟩, by decide +kernel, by decide +kernel, by decide +kernel⟩
set_option maxHeartbeats 1000000 in
set_option maxRecDepth 100000 in
theorem c_X7_thingRefusal (l : Launch) (E : zE) (b : Nat → Nat) (tl : va_W) (pd : Bool) (qt : Nat → Option Nat) (qr : Nat → Option Nat) (tbu : Nat → Int32) (wst : Nat → Int32) (asw : Nat → Int32) (pN : Int32) (tN : Int32) (aN : Int32) (hd : Int32) (dr : Int32) (pl : Int32) (rm : Int32) (ps : Int32) (wx : Nat → Int32) (pp : Nat → Option Nat) (tp : Nat → Option Nat) (ap : Nat → Option Nat) (sg : Nat → Int32) (uh : Int32) (ud : Int32) (up : Int32) (ur : Int32) (us : Int32) (ux : Nat → Int32) (G : zG) (d : Int32) (kp so sz el pr ts : Nat → Int32) (hSh : ShG E.2.1 G qt qr kp so sz el pr ts) : Met l yX7_thingRefusal (.code yX7_thingRefusal cX7_thingRefusal 2 (some FieldType.int) :: AllW) (rm0' 2 42) (zP E (fun H => WW E (wK b E.2.1 tl pd qt qr tbu wst asw pN tN aN hd dr pl rm ps wx pp tp ap sg uh ud up ur us ux) G H) [.ref (b 0), .int d]) (rQ (.int (wrK kp d))) 0 0 nF := by
  refine z_body (own := RX7) (by decide) rfl rfl ?_
  intro p e s m args below meth c ls cx hr hlk hnm hW hl
  have hx := cx.x
  have hb := cx.b
  have hl : lv_has ls 2 [(0, .ref (b 0)), (1, .int d)] := hl
  refine lv_iload_n (pc := 0) hx hb dX7_thingRefusal_0 rfl (lv_at hl 1 rfl) ?_
  refine k_X7_isShelf (pc := 1) (x := d) cx  m_ml_X7_343 ⟨Nat.le_of_ble_eq_true rfl, Nat.le_of_ble_eq_true rfl⟩ hl.1 rfl (by simp [Value.category]) dX7_thingRefusal_1 ⟨Nat.le_refl _, Nat.le_refl _⟩ ?_
  refine z_ifne (pc := 4) (tgt := 9) hx hb dX7_thingRefusal_4 (by decide) (fun c_1 => ?_) (fun c_1 => ?_)
  · skip
    obtain ⟨n, hn, rfl⟩ := shelf_nat c_1
    have hN := iN_nI (n := n) (by omega)
    rcases hSh.2 n hn with ⟨hk, ht0, hr0⟩ | ⟨hk, hr0, q1, v0, v1, v2, v3, v4, v5, ht0, hq1, hpr, hts⟩ | ⟨hk, ht0, q1, w1, x1, hr0, hq1, hw1, hx1⟩
    · skip
      refine lv_aload_n (pc := 9) hx hb dX7_thingRefusal_9 rfl (lv_at hl 0 rfl) ?_
      refine z_get (pc := 10) cx (hW.at 0 rfl) (C := RX7) (T := TX7) (N := 11) rfl i_X7 6 rfl m_fl_X7_38 rfl dX7_thingRefusal_10 ?_
      refine lv_iload_n (pc := 13) hx hb dX7_thingRefusal_13 rfl (lv_at hl 1 rfl) ?_
      refine z_aald (pc := 14) (f := qt) (j := n) cx 2 rfl (hW.at 1 rfl) rfl (by omega) (by decide) dX7_thingRefusal_14 ?_
      refine z_rfN ht0 ?_
      refine lv_ifnullN (pc := 15) (tgt := 20) hx hb dX7_thingRefusal_15 (by decide) ?_
      refine lv_aload_n (pc := 20) hx hb dX7_thingRefusal_20 rfl (lv_at hl 0 rfl) ?_
      refine z_get (pc := 21) cx (hW.at 0 rfl) (C := RX7) (T := TX7) (N := 11) rfl i_X7 7 rfl m_fl_X7_44 rfl dX7_thingRefusal_21 ?_
      refine lv_iload_n (pc := 24) hx hb dX7_thingRefusal_24 rfl (lv_at hl 1 rfl) ?_
      refine z_aald (pc := 25) (f := qr) (j := n) cx 4 rfl (hW.at 2 rfl) rfl (by omega) (by decide) dX7_thingRefusal_25 ?_
      refine z_rfN hr0 ?_
      refine lv_ifnonnullN (pc := 26) hx hb dX7_thingRefusal_26 ?_
      refine lv_bipush (pc := 29) (v := (-11)) hx hb dX7_thingRefusal_29 (by decide) ?_
      refine lv_goto (pc := 31) (tgt := 36) hx hb dX7_thingRefusal_31 (by decide) ?_
      exact z_iret cx hr hlk dX7_thingRefusal_36 (by first | rfl | (simp [wrK, c_1, hN, hk]; done))
    · skip
      refine lv_aload_n (pc := 9) hx hb dX7_thingRefusal_9 rfl (lv_at hl 0 rfl) ?_
      refine z_get (pc := 10) cx (hW.at 0 rfl) (C := RX7) (T := TX7) (N := 11) rfl i_X7 6 rfl m_fl_X7_38 rfl dX7_thingRefusal_10 ?_
      refine lv_iload_n (pc := 13) hx hb dX7_thingRefusal_13 rfl (lv_at hl 1 rfl) ?_
      refine z_aald (pc := 14) (f := qt) (j := n) cx 2 rfl (hW.at 1 rfl) rfl (by omega) (by decide) dX7_thingRefusal_14 ?_
      refine z_rfS ht0 ?_
      refine lv_ifnull (pc := 15) hx hb dX7_thingRefusal_15 ?_
      refine lv_iconst (pc := 18) (v := 0) hx hb dX7_thingRefusal_18 (by decide) ?_
      exact z_iret cx hr hlk dX7_thingRefusal_19 (by first | rfl | (simp [wrK, c_1, hN, hk]; done))
    · skip
      refine lv_aload_n (pc := 9) hx hb dX7_thingRefusal_9 rfl (lv_at hl 0 rfl) ?_
      refine z_get (pc := 10) cx (hW.at 0 rfl) (C := RX7) (T := TX7) (N := 11) rfl i_X7 6 rfl m_fl_X7_38 rfl dX7_thingRefusal_10 ?_
      refine lv_iload_n (pc := 13) hx hb dX7_thingRefusal_13 rfl (lv_at hl 1 rfl) ?_
      refine z_aald (pc := 14) (f := qt) (j := n) cx 2 rfl (hW.at 1 rfl) rfl (by omega) (by decide) dX7_thingRefusal_14 ?_
      refine z_rfN ht0 ?_
      refine lv_ifnullN (pc := 15) (tgt := 20) hx hb dX7_thingRefusal_15 (by decide) ?_
      refine lv_aload_n (pc := 20) hx hb dX7_thingRefusal_20 rfl (lv_at hl 0 rfl) ?_
      refine z_get (pc := 21) cx (hW.at 0 rfl) (C := RX7) (T := TX7) (N := 11) rfl i_X7 7 rfl m_fl_X7_44 rfl dX7_thingRefusal_21 ?_
      refine lv_iload_n (pc := 24) hx hb dX7_thingRefusal_24 rfl (lv_at hl 1 rfl) ?_
      refine z_aald (pc := 25) (f := qr) (j := n) cx 4 rfl (hW.at 2 rfl) rfl (by omega) (by decide) dX7_thingRefusal_25 ?_
      refine z_rfS hr0 ?_
      refine lv_ifnonnull (pc := 26) (tgt := 34) hx hb dX7_thingRefusal_26 (by decide) ?_
      refine lv_bipush (pc := 34) (v := (-12)) hx hb dX7_thingRefusal_34 (by decide) ?_
      exact z_iret cx hr hlk dX7_thingRefusal_36 (by first | rfl | (simp [wrK, c_1, hN, hk]; done))
  · skip
    refine lv_iconst (pc := 7) (v := (-1)) hx hb dX7_thingRefusal_7 (by decide) ?_
    exact z_iret cx hr hlk dX7_thingRefusal_8 (by first | rfl | (simp [wrK, c_1]; done))
theorem k_X7_thingRefusal {p : Program} {l : Launch} {e : Env} {R : Room} {s : State} {m : MethodId} {args : Array Value} {below : List Frame} {meth : Method} {c : Code} {H : Heap} {locs : List Loc} {cells slots : Nat} {Q : State → Prop} {cc : ByteArray} {pc index : Nat} {ls : Array Slot} {rest st0 : List Value} {E : zE} {own : String} {nL : Nat} {b : Nat → Nat} {tl : va_W} {pd : Bool} {qt : Nat → Option Nat} {qr : Nat → Option Nat} {tbu : Nat → Int32} {wst : Nat → Int32} {asw : Nat → Int32} {pN : Int32} {tN : Int32} {aN : Int32} {hd : Int32} {dr : Int32} {pl : Int32} {rm : Int32} {ps : Int32} {wx : Nat → Int32} {pp : Nat → Option Nat} {tp : Nat → Option Nat} {ap : Nat → Option Nat} {sg : Nat → Int32} {uh : Int32} {ud : Int32} {up : Int32} {ur : Int32} {us : Int32} {ux : Nat → Int32} {G : zG} {d : Int32} {kp so sz el pr ts : Nat → Int32} (cx : Cx E p s args m c own cc nL) (hW : WW E (wK b E.2.1 tl pd qt qr tbu wst asw pN tN aN hd dr pl rm ps wx pp tp ap sg uh ud up ur us ux) G H) (hSh : ShG E.2.1 G qt qr kp so sz el pr ts) (zl : Cond.methodLink own index yX7_thingRefusal ∈ AllW) (zR : 2 + 1 ≤ R.frames ∧ 8 + (2 + 11) + 42 ≤ R.locals) (zs : ls.size = nL) (zt : st0 = ([.int d] : List Value).reverse ++ .ref (b 0) :: rest) (z8 : (rest.map fun v => v.category).sum ≤ 8) (zd : decode cc pc = .ok (.invokevirtual index, 3)) (zf : cells ≤ R.cells ∧ slots ≤ R.slots) (kk : W p l e R s m args below meth c H locs cells slots Q (F0 m (pc + 3) ls (.int (wrK kp d) :: rest))) : W p l e R s m args below meth c H locs cells slots Q (F0 m pc ls st0) :=
  z_callV cx vm_X7_thingRefusal (c_X7_thingRefusal l E b tl pd qt qr tbu wst asw pN tN aN hd dr pl rm ps wx pp tp ap sg uh ud up ur us ux G d kp so sz el pr ts hSh) (z_rec cx.2 (hW.at 0 rfl) rfl) hW zl ⟨rfl, rfl⟩ zR rfl zs zt z8 zd zf kk
theorem vm_X7_piece : zVm yX7_piece cX7_piece 4 (some FieldType.int) 2 := ⟨m_co_X7_piece, m_in_RX7, ⟨m_im_X7_piece, m_se_X7_X7_piece⟩, by decide +kernel, by decide +kernel, by decide +kernel⟩
set_option maxHeartbeats 1000000 in
set_option maxRecDepth 100000 in
theorem c_X7_piece (l : Launch) (E : zE) (b : Nat → Nat) (tl : va_W) (pd : Bool) (qt : Nat → Option Nat) (qr : Nat → Option Nat) (tbu : Nat → Int32) (wst : Nat → Int32) (asw : Nat → Int32) (pN : Int32) (tN : Int32) (aN : Int32) (wx : Nat → Int32) (pp : Nat → Option Nat) (tp : Nat → Option Nat) (ap : Nat → Option Nat) (sg : Nat → Int32) (uh : Int32) (ud : Int32) (up : Int32) (ur : Int32) (us : Int32) (ux : Nat → Int32) (G : zG) (x w : Int32) (r : Nat → Int32) (hG : CG E.2.1 G r pN tN aN wx pp tp ap) : Met l yX7_piece (.code yX7_piece cX7_piece 4 (some FieldType.int) :: AllW) (rm0' 2 42) (zP E (fun H => WW E (wK b E.2.1 tl pd qt qr tbu wst asw pN tN aN (hdC (r 3)) (r 4) (r 5) (r 6) (r 7) wx pp tp ap sg uh ud up ur us ux) G H) [.ref (b 0), .int x, .int w]) (rQ (.int (pieceP r x w))) 0 0 nF := by
  refine z_body (own := RX7) (by decide) rfl rfl ?_
  intro p e s m args below meth c ls cx hr hlk hnm hW hl
  have hx := cx.x
  have hb := cx.b
  have hl : lv_has ls 4 [(0, .ref (b 0)), (1, .int x), (2, .int w)] := hl
  have hG0 := hG
  obtain ⟨hI, hpN, htN, haN, hPc, hTh, hAk, hwx⟩ := hG
  have hC := hI.1
  have hIS := hI.2.1
  have hP := hI.2.2.1
  have hT := hI.2.2.2.1
  have hP10 := (Inv.n0 hC).2
  have hT7 := (Inv.n1 hC).2
  have hA24 := (Inv.n2 hC).2
  have e0 := (Inv.n0 hC).1
  have e1 := (Inv.n1 hC).1
  have e2 := (Inv.n2 hC).1
  refine lv_aload_n (pc := 0) hx hb dX7_piece_0 rfl (lv_at hl 0 rfl) ?_
  refine z_get (pc := 1) cx (hW.at 0 rfl) (C := RX7) (T := TX7) (N := 11) rfl i_X7 0 rfl m_fl_X7_10 rfl dX7_piece_1 ?_
  refine lv_iload_n (pc := 4) hx hb dX7_piece_4 rfl (lv_at hl 1 rfl) ?_
  by_cases c_1 : isPc r x = true
  · skip
    obtain ⟨n, hn, rfl⟩ := pc_nat hC c_1
    have hNn := iN_nI (n := n) (by omega)
    obtain ⟨q1, h1q1, h2q1⟩ := hPc n hn
    refine k_X1_pieceAt (pc := 5) (n := n) (q := q1) cx hW hC hpN hn h1q1 m_ml_X7_96 ⟨Nat.le_of_ble_eq_true rfl, Nat.le_of_ble_eq_true rfl⟩ hl.1 rfl (by simp [Value.category]) dX7_piece_5 ⟨Nat.le_refl _, Nat.le_refl _⟩ ?_
    refine lv_astore_n (pc := 8) (lv' := [(3, .ref q1), (0, .ref (b 0)), (1, .int (nI n)), (2, .int w)]) hx hb dX7_piece_8 rfl hl (by decide) rfl (fun ls hl => ?_)
    refine lv_aload_n (pc := 9) hx hb dX7_piece_9 rfl (lv_at hl 0 rfl) ?_
    refine lv_ifnonnull (pc := 10) (tgt := 15) hx hb dX7_piece_10 (by decide) ?_
    refine lv_iload_n (pc := 15) hx hb dX7_piece_15 rfl (lv_at hl 3 rfl) ?_
    by_cases c_2 : w = 0
    · subst c_2
      refine lv_tableIn (pc := 16) (tgt := 64) hx hb dX7_piece_16 (by decide) (by decide) rfl (by decide) ?_
      refine lv_aload_n (pc := 64) hx hb dX7_piece_64 rfl (lv_at hl 0 rfl) ?_
      refine z_get (pc := 65) cx (hW.dyn h2q1) (C := RX2) (T := TX2) (N := 5) rfl i_X2 0 rfl m_fl_X7_100 rfl dX7_piece_65 ?_
      exact z_iret cx hr hlk dX7_piece_68 (by first | rfl | (simp [pieceP, c_1, hNn]; done))
    by_cases c_3 : w = 1
    · subst c_3
      refine lv_tableIn (pc := 16) (tgt := 69) hx hb dX7_piece_16 (by decide) (by decide) rfl (by decide) ?_
      refine lv_aload_n (pc := 69) hx hb dX7_piece_69 rfl (lv_at hl 0 rfl) ?_
      refine z_get (pc := 70) cx (hW.dyn h2q1) (C := RX2) (T := TX2) (N := 5) rfl i_X2 1 rfl m_fl_X7_105 rfl dX7_piece_70 ?_
      exact z_iret cx hr hlk dX7_piece_73 (by first | rfl | (simp [pieceP, c_1, hNn, c_2]; done))
    by_cases c_4 : w = 2
    · subst c_4
      refine lv_tableIn (pc := 16) (tgt := 74) hx hb dX7_piece_16 (by decide) (by decide) rfl (by decide) ?_
      refine lv_aload_n (pc := 74) hx hb dX7_piece_74 rfl (lv_at hl 0 rfl) ?_
      refine z_get (pc := 75) cx (hW.dyn h2q1) (C := RX2) (T := TX2) (N := 5) rfl i_X2 2 rfl m_fl_X7_108 rfl dX7_piece_75 ?_
      exact z_iret cx hr hlk dX7_piece_78 (by first | rfl | (simp [pieceP, c_1, hNn, c_2, c_3]; done))
    by_cases c_5 : w = 3
    · subst c_5
      refine lv_tableIn (pc := 16) (tgt := 79) hx hb dX7_piece_16 (by decide) (by decide) rfl (by decide) ?_
      refine lv_aload_n (pc := 79) hx hb dX7_piece_79 rfl (lv_at hl 0 rfl) ?_
      refine z_get (pc := 80) cx (hW.dyn h2q1) (C := RX2) (T := TX2) (N := 5) rfl i_X2 3 rfl m_fl_X7_111 rfl dX7_piece_80 ?_
      refine lv_if_ge (pc := 83) (tgt := 91) hx hb dX7_piece_83 (by decide) (fun c_6 => ?_) (fun c_6 => ?_)
      · skip
        obtain ⟨j, hj, ej, ej2⟩ := (jn_C hP hn (by omega)).2 (i_nlt.mpr c_6)
        refine lv_aload_n (pc := 91) hx hb dX7_piece_91 rfl (lv_at hl 0 rfl) ?_
        refine z_get (pc := 92) cx (hW.dyn h2q1) (C := RX2) (T := TX2) (N := 5) rfl i_X2 3 rfl m_fl_X7_111 rfl dX7_piece_92 ?_
        refine z_tope (y := g6 r n 3) (ej.trans ej2.symm) ?_
        exact z_iret cx hr hlk dX7_piece_95 (by first | rfl | (simp [pieceP, c_1, hNn, c_2, c_3, c_4, c_6, i_nlt.mpr c_6]; done))
      · skip
        have h4 := jn_4 hP hn (by omega) (i_nle.mp c_6)
        refine lv_bipush (pc := 86) (v := (-4)) hx hb dX7_piece_86 (by decide) ?_
        refine lv_goto (pc := 88) (tgt := 95) hx hb dX7_piece_88 (by decide) ?_
        exact z_iret cx hr hlk dX7_piece_95 (by first | rfl | (simp [pieceP, c_1, hNn, c_2, c_3, c_4, c_6, h4, i_nle.mp c_6]; done))
    by_cases c_7 : w = 4
    · subst c_7
      refine lv_tableIn (pc := 16) (tgt := 96) hx hb dX7_piece_16 (by decide) (by decide) rfl (by decide) ?_
      refine lv_aload_n (pc := 96) hx hb dX7_piece_96 rfl (lv_at hl 0 rfl) ?_
      refine z_get (pc := 97) cx (hW.dyn h2q1) (C := RX2) (T := TX2) (N := 5) rfl i_X2 4 rfl m_fl_X7_114 rfl dX7_piece_97 ?_
      exact z_iret cx hr hlk dX7_piece_100 (by first | rfl | (simp [pieceP, c_1, hNn, c_2, c_3, c_4, c_5]; done))
    by_cases c_8 : w = 5
    · subst c_8
      refine lv_tableIn (pc := 16) (tgt := 101) hx hb dX7_piece_16 (by decide) (by decide) rfl (by decide) ?_
      refine lv_aload_n (pc := 101) hx hb dX7_piece_101 rfl (lv_at hl 1 rfl) ?_
      refine z_get (pc := 102) cx (hW.at 0 rfl) (C := RX7) (T := TX7) (N := 11) rfl i_X7 0 rfl m_fl_X7_10 rfl dX7_piece_102 ?_
      refine z_get (pc := 105) cx (hW.at 6 rfl) (C := RX1) (T := TX1) (N := 8) rfl i_X1 3 rfl m_fl_X7_117 rfl dX7_piece_105 ?_
      refine lv_iload_n (pc := 108) hx hb dX7_piece_108 rfl (lv_at hl 2 rfl) ?_
      refine k_X5_waxOn (pc := 109) (n := n) cx ⟨hW.at 7 rfl, hW.at 8 rfl⟩ (by first | assumption | omega) m_ml_X7_120 ⟨Nat.le_of_ble_eq_true rfl, Nat.le_of_ble_eq_true rfl⟩ hl.1 rfl (by simp [Value.category]) dX7_piece_109 ⟨Nat.le_refl _, Nat.le_refl _⟩ ?_
      refine z_tope (y := g6 r n 5) (hwx n hn) ?_
      exact z_iret cx hr hlk dX7_piece_112 (by first | rfl | (simp [pieceP, c_1, hNn, c_2, c_3, c_4, c_5, c_7]; done))
    by_cases c_9 : w = 6
    · subst c_9
      refine lv_tableIn (pc := 16) (tgt := 113) hx hb dX7_piece_16 (by decide) (by decide) rfl (by decide) ?_
      refine lv_aload_n (pc := 113) hx hb dX7_piece_113 rfl (lv_at hl 0 rfl) ?_
      refine lv_aload_n (pc := 114) hx hb dX7_piece_114 rfl (lv_at hl 1 rfl) ?_
      refine z_get (pc := 115) cx (hW.at 0 rfl) (C := RX7) (T := TX7) (N := 11) rfl i_X7 0 rfl m_fl_X7_10 rfl dX7_piece_115 ?_
      refine z_get (pc := 118) cx (hW.at 6 rfl) (C := RX1) (T := TX1) (N := 8) rfl i_X1 3 rfl m_fl_X7_117 rfl dX7_piece_118 ?_
      refine lv_iload_n (pc := 121) hx hb dX7_piece_121 rfl (lv_at hl 2 rfl) ?_
      refine k_X5_waxOn (pc := 122) (n := n) cx ⟨hW.at 7 rfl, hW.at 8 rfl⟩ (by first | assumption | omega) m_ml_X7_120 ⟨Nat.le_of_ble_eq_true rfl, Nat.le_of_ble_eq_true rfl⟩ hl.1 rfl (by simp [Value.category]) dX7_piece_122 ⟨Nat.le_refl _, Nat.le_refl _⟩ ?_
      refine z_tope (y := g6 r n 5) (hwx n hn) ?_
      refine k_X2_toneWith (pc := 125) (x := g6 r n 5) cx (hW.dyn h2q1)  m_ml_X7_123 ⟨Nat.le_of_ble_eq_true rfl, Nat.le_of_ble_eq_true rfl⟩ hl.1 rfl (by simp [Value.category]) dX7_piece_125 ⟨Nat.le_refl _, Nat.le_refl _⟩ ?_
      refine z_tope (y := tnN r n) (toW_tn hP hn (wax_rg hIS (by omega))) ?_
      exact z_iret cx hr hlk dX7_piece_128 (by first | rfl | (simp [pieceP, c_1, hNn, c_2, c_3, c_4, c_5, c_7, c_8]; done))
    by_cases c_10 : w = 7
    · subst c_10
      refine lv_tableIn (pc := 16) (tgt := 129) hx hb dX7_piece_16 (by decide) (by decide) rfl (by decide) ?_
      refine lv_aload_n (pc := 129) hx hb dX7_piece_129 rfl (lv_at hl 0 rfl) ?_
      refine lv_aload_n (pc := 130) hx hb dX7_piece_130 rfl (lv_at hl 1 rfl) ?_
      refine z_get (pc := 131) cx (hW.at 0 rfl) (C := RX7) (T := TX7) (N := 11) rfl i_X7 0 rfl m_fl_X7_10 rfl dX7_piece_131 ?_
      refine z_get (pc := 134) cx (hW.at 6 rfl) (C := RX1) (T := TX1) (N := 8) rfl i_X1 3 rfl m_fl_X7_117 rfl dX7_piece_134 ?_
      refine z_get (pc := 137) cx (hW.at 7 rfl) (C := RX5) (T := TX5) (N := 6) rfl i_X5 0 rfl m_fl_X7_126 rfl dX7_piece_137 ?_
      refine lv_iload_n (pc := 140) hx hb dX7_piece_140 rfl (lv_at hl 2 rfl) ?_
      refine lv_icmp_ne (pc := 141) (tgt := 148) hx hb dX7_piece_141 (by decide) (fun c_11 => ?_) (fun c_11 => ?_)
      · skip
        have hls := ls_f hI hn c_11
        refine lv_iconst (pc := 148) (v := 0) hx hb dX7_piece_148 (by decide) ?_
        refine k_X2_lossHeld (pc := 149) (h := false) cx (hW.dyn h2q1)  m_ml_X7_129 ⟨Nat.le_of_ble_eq_true rfl, Nat.le_of_ble_eq_true rfl⟩ hl.1 rfl (by simp [Value.category]) dX7_piece_149 ⟨Nat.le_refl _, Nat.le_refl _⟩ ?_
        refine z_tope (y := lsN r n) hls ?_
        exact z_iret cx hr hlk dX7_piece_152 (by first | rfl | (simp [pieceP, c_1, hNn, c_2, c_3, c_4, c_5, c_7, c_8, c_9, c_11]; done))
      · skip
        have hls := ls_t hI hn c_11
        refine lv_iconst (pc := 144) (v := 1) hx hb dX7_piece_144 (by decide) ?_
        refine lv_goto (pc := 145) (tgt := 149) hx hb dX7_piece_145 (by decide) ?_
        refine k_X2_lossHeld (pc := 149) (h := true) cx (hW.dyn h2q1)  m_ml_X7_129 ⟨Nat.le_of_ble_eq_true rfl, Nat.le_of_ble_eq_true rfl⟩ hl.1 rfl (by simp [Value.category]) dX7_piece_149 ⟨Nat.le_refl _, Nat.le_refl _⟩ ?_
        refine z_tope (y := lsN r n) hls ?_
        exact z_iret cx hr hlk dX7_piece_152 (by first | rfl | (simp [pieceP, c_1, hNn, c_2, c_3, c_4, c_5, c_7, c_8, c_9, c_11]; done))
    refine lv_tableOut (pc := 16) (tgt := 153) hx hb dX7_piece_16 (by have := lv_neT c_2 (a := 0) (by decide); have := lv_neT c_3 (a := 1) (by decide); have := lv_neT c_4 (a := 2) (by decide); have := lv_neT c_5 (a := 3) (by decide); have := lv_neT c_7 (a := 4) (by decide); have := lv_neT c_8 (a := 5) (by decide); have := lv_neT c_9 (a := 6) (by decide); have := lv_neT c_10 (a := 7) (by decide); omega) (by decide) ?_
    refine lv_iconst (pc := 153) (v := (-1)) hx hb dX7_piece_153 (by decide) ?_
    exact z_iret cx hr hlk dX7_piece_154 (by first | rfl | (simp [pieceP, c_1, hNn, c_2, c_3, c_4, c_5, c_7, c_8, c_9, c_10]; done))
  · skip
    have h0n := Bool.eq_false_iff.mpr c_1
    refine k_X1_pieceAt0 (pc := 5) (x := x) cx hW hC hpN h0n m_ml_X7_96 ⟨Nat.le_of_ble_eq_true rfl, Nat.le_of_ble_eq_true rfl⟩ hl.1 rfl (by simp [Value.category]) dX7_piece_5 ⟨Nat.le_refl _, Nat.le_refl _⟩ ?_
    refine lv_astore_nN (pc := 8) (lv' := [(3, .null), (0, .ref (b 0)), (1, .int x), (2, .int w)]) hx hb dX7_piece_8 rfl hl (by decide) rfl (fun ls hl => ?_)
    refine lv_aload_nN (pc := 9) hx hb dX7_piece_9 rfl (lv_at hl 0 rfl) ?_
    refine lv_ifnonnullN (pc := 10) hx hb dX7_piece_10 ?_
    refine lv_iconst (pc := 13) (v := (-1)) hx hb dX7_piece_13 (by decide) ?_
    exact z_iret cx hr hlk dX7_piece_14 (by first | rfl | (simp [pieceP, c_1]; done))
theorem k_X7_piece {p : Program} {l : Launch} {e : Env} {R : Room} {s : State} {m : MethodId} {args : Array Value} {below : List Frame} {meth : Method} {c : Code} {H : Heap} {locs : List Loc} {cells slots : Nat} {Q : State → Prop} {cc : ByteArray} {pc index : Nat} {ls : Array Slot} {rest st0 : List Value} {E : zE} {own : String} {nL : Nat} {b : Nat → Nat} {tl : va_W} {pd : Bool} {qt : Nat → Option Nat} {qr : Nat → Option Nat} {tbu : Nat → Int32} {wst : Nat → Int32} {asw : Nat → Int32} {pN : Int32} {tN : Int32} {aN : Int32} {wx : Nat → Int32} {pp : Nat → Option Nat} {tp : Nat → Option Nat} {ap : Nat → Option Nat} {sg : Nat → Int32} {uh : Int32} {ud : Int32} {up : Int32} {ur : Int32} {us : Int32} {ux : Nat → Int32} {G : zG} {x w : Int32} {r : Nat → Int32} (cx : Cx E p s args m c own cc nL) (hW : WW E (wK b E.2.1 tl pd qt qr tbu wst asw pN tN aN (hdC (r 3)) (r 4) (r 5) (r 6) (r 7) wx pp tp ap sg uh ud up ur us ux) G H) (hG : CG E.2.1 G r pN tN aN wx pp tp ap) (zl : Cond.methodLink own index yX7_piece ∈ AllW) (zR : 2 + 1 ≤ R.frames ∧ 8 + (4 + 11) + 42 ≤ R.locals) (zs : ls.size = nL) (zt : st0 = ([.int x, .int w] : List Value).reverse ++ .ref (b 0) :: rest) (z8 : (rest.map fun v => v.category).sum ≤ 8) (zd : decode cc pc = .ok (.invokevirtual index, 3)) (zf : cells ≤ R.cells ∧ slots ≤ R.slots) (kk : W p l e R s m args below meth c H locs cells slots Q (F0 m (pc + 3) ls (.int (pieceP r x w) :: rest))) : W p l e R s m args below meth c H locs cells slots Q (F0 m pc ls st0) :=
  z_callV cx vm_X7_piece (c_X7_piece l E b tl pd qt qr tbu wst asw pN tN aN wx pp tp ap sg uh ud up ur us ux G x w r hG) (z_rec cx.2 (hW.at 0 rfl) rfl) hW zl ⟨rfl, rfl⟩ zR rfl zs zt z8 zd zf kk
theorem vm_X7_thing : zVm yX7_thing cX7_thing 4 (some FieldType.int) 2 := ⟨m_co_X7_thing, m_in_RX7, ⟨m_im_X7_thing, m_se_X7_X7_thing⟩, by decide +kernel, by decide +kernel, by decide +kernel⟩
set_option maxHeartbeats 1000000 in
set_option maxRecDepth 100000 in
theorem c_X7_thing (l : Launch) (E : zE) (b : Nat → Nat) (tl : va_W) (pd : Bool) (qt : Nat → Option Nat) (qr : Nat → Option Nat) (tbu : Nat → Int32) (wst : Nat → Int32) (asw : Nat → Int32) (pN : Int32) (tN : Int32) (aN : Int32) (hd : Int32) (dr : Int32) (pl : Int32) (rm : Int32) (ps : Int32) (wx : Nat → Int32) (pp : Nat → Option Nat) (tp : Nat → Option Nat) (ap : Nat → Option Nat) (sg : Nat → Int32) (uh : Int32) (ud : Int32) (up : Int32) (ur : Int32) (us : Int32) (ux : Nat → Int32) (G : zG) (x w : Int32) (r : Nat → Int32) (hG : CG E.2.1 G r pN tN aN wx pp tp ap) : Met l yX7_thing (.code yX7_thing cX7_thing 4 (some FieldType.int) :: AllW) (rm0' 2 42) (zP E (fun H => WW E (wK b E.2.1 tl pd qt qr tbu wst asw pN tN aN hd dr pl rm ps wx pp tp ap sg uh ud up ur us ux) G H) [.ref (b 0), .int x, .int w]) (rQ (.int (thingP r x w))) 0 0 nF := by
  refine z_body (own := RX7) (by decide) rfl rfl ?_
  intro p e s m args below meth c ls cx hr hlk hnm hW hl
  have hx := cx.x
  have hb := cx.b
  have hl : lv_has ls 4 [(0, .ref (b 0)), (1, .int x), (2, .int w)] := hl
  have hG0 := hG
  obtain ⟨hI, hpN, htN, haN, hPc, hTh, hAk, hwx⟩ := hG
  have hC := hI.1
  have hIS := hI.2.1
  have hP := hI.2.2.1
  have hT := hI.2.2.2.1
  have hP10 := (Inv.n0 hC).2
  have hT7 := (Inv.n1 hC).2
  have hA24 := (Inv.n2 hC).2
  have e0 := (Inv.n0 hC).1
  have e1 := (Inv.n1 hC).1
  have e2 := (Inv.n2 hC).1
  refine lv_aload_n (pc := 0) hx hb dX7_thing_0 rfl (lv_at hl 0 rfl) ?_
  refine z_get (pc := 1) cx (hW.at 0 rfl) (C := RX7) (T := TX7) (N := 11) rfl i_X7 0 rfl m_fl_X7_10 rfl dX7_thing_1 ?_
  refine lv_iload_n (pc := 4) hx hb dX7_thing_4 rfl (lv_at hl 1 rfl) ?_
  by_cases c_1 : isTh r x = true
  · skip
    obtain ⟨n, hn, rfl⟩ := th_nat hC c_1
    have hNn := iN_nI (n := n) (by omega)
    obtain ⟨q1, h1q1, h2q1⟩ := hTh n hn
    refine k_X1_thingAt (pc := 5) (n := n) (q := q1) cx hW hC htN hn h1q1 m_ml_X7_133 ⟨Nat.le_of_ble_eq_true rfl, Nat.le_of_ble_eq_true rfl⟩ hl.1 rfl (by simp [Value.category]) dX7_thing_5 ⟨Nat.le_refl _, Nat.le_refl _⟩ ?_
    refine lv_astore_n (pc := 8) (lv' := [(3, .ref q1), (0, .ref (b 0)), (1, .int (nI n)), (2, .int w)]) hx hb dX7_thing_8 rfl hl (by decide) rfl (fun ls hl => ?_)
    refine lv_aload_n (pc := 9) hx hb dX7_thing_9 rfl (lv_at hl 0 rfl) ?_
    refine lv_ifnonnull (pc := 10) (tgt := 15) hx hb dX7_thing_10 (by decide) ?_
    refine lv_iload_n (pc := 15) hx hb dX7_thing_15 rfl (lv_at hl 3 rfl) ?_
    by_cases c_2 : w = 0
    · subst c_2
      refine lv_tableIn (pc := 16) (tgt := 56) hx hb dX7_thing_16 (by decide) (by decide) rfl (by decide) ?_
      have hL : inL 0 0 5 = true := by decide
      have hK : iN 0 = 0 := rfl
      refine lv_aload_n (pc := 56) hx hb dX7_thing_56 rfl (lv_at hl 0 rfl) ?_
      refine z_get (pc := 57) cx (hW.dyn h2q1) (C := RX6) (T := TX6) (N := 6) rfl i_X6 1 rfl m_fl_X7_137 rfl dX7_thing_57 ?_
      exact z_iret cx hr hlk dX7_thing_60 (by first | rfl | (simp [thingP, prO, c_1, hNn, hL, hK]; done))
    by_cases c_3 : w = 1
    · subst c_3
      refine lv_tableIn (pc := 16) (tgt := 61) hx hb dX7_thing_16 (by decide) (by decide) rfl (by decide) ?_
      have hL : inL 1 0 5 = true := by decide
      have hK : iN 1 = 1 := rfl
      refine lv_aload_n (pc := 61) hx hb dX7_thing_61 rfl (lv_at hl 0 rfl) ?_
      refine z_get (pc := 62) cx (hW.dyn h2q1) (C := RX6) (T := TX6) (N := 6) rfl i_X6 2 rfl m_fl_X7_140 rfl dX7_thing_62 ?_
      exact z_iret cx hr hlk dX7_thing_65 (by first | rfl | (simp [thingP, prO, c_1, hNn, c_2, hL, hK]; done))
    by_cases c_4 : w = 2
    · subst c_4
      refine lv_tableIn (pc := 16) (tgt := 66) hx hb dX7_thing_16 (by decide) (by decide) rfl (by decide) ?_
      have hL : inL 2 0 5 = true := by decide
      have hK : iN 2 = 2 := rfl
      refine lv_aload_n (pc := 66) hx hb dX7_thing_66 rfl (lv_at hl 0 rfl) ?_
      refine z_get (pc := 67) cx (hW.dyn h2q1) (C := RX6) (T := TX6) (N := 6) rfl i_X6 3 rfl m_fl_X7_143 rfl dX7_thing_67 ?_
      exact z_iret cx hr hlk dX7_thing_70 (by first | rfl | (simp [thingP, prO, c_1, hNn, c_2, c_3, hL, hK]; done))
    by_cases c_5 : w = 3
    · subst c_5
      refine lv_tableIn (pc := 16) (tgt := 71) hx hb dX7_thing_16 (by decide) (by decide) rfl (by decide) ?_
      have hL : inL 3 0 5 = true := by decide
      have hK : iN 3 = 3 := rfl
      refine lv_aload_n (pc := 71) hx hb dX7_thing_71 rfl (lv_at hl 0 rfl) ?_
      refine z_get (pc := 72) cx (hW.dyn h2q1) (C := RX6) (T := TX6) (N := 6) rfl i_X6 4 rfl m_fl_X7_146 rfl dX7_thing_72 ?_
      exact z_iret cx hr hlk dX7_thing_75 (by first | rfl | (simp [thingP, prO, c_1, hNn, c_2, c_3, c_4, hL, hK]; done))
    by_cases c_6 : w = 4
    · subst c_6
      refine lv_tableIn (pc := 16) (tgt := 76) hx hb dX7_thing_16 (by decide) (by decide) rfl (by decide) ?_
      have hL : inL 4 0 5 = true := by decide
      have hK : iN 4 = 4 := rfl
      refine lv_aload_n (pc := 76) hx hb dX7_thing_76 rfl (lv_at hl 0 rfl) ?_
      refine z_get (pc := 77) cx (hW.dyn h2q1) (C := RX6) (T := TX6) (N := 6) rfl i_X6 5 rfl m_fl_X7_149 rfl dX7_thing_77 ?_
      exact z_iret cx hr hlk dX7_thing_80 (by first | rfl | (simp [thingP, prO, c_1, hNn, c_2, c_3, c_4, c_5, hL, hK]; done))
    by_cases c_7 : w = 5
    · subst c_7
      refine lv_tableIn (pc := 16) (tgt := 81) hx hb dX7_thing_16 (by decide) (by decide) rfl (by decide) ?_
      have hL : inL 5 0 5 = true := by decide
      have hK : iN 5 = 5 := rfl
      refine lv_aload_n (pc := 81) hx hb dX7_thing_81 rfl (lv_at hl 0 rfl) ?_
      refine k_X6_cost (pc := 82)  cx (hW.dyn h2q1)  m_ml_X7_152 ⟨Nat.le_of_ble_eq_true rfl, Nat.le_of_ble_eq_true rfl⟩ hl.1 rfl (by simp [Value.category]) dX7_thing_82 ⟨Nat.le_refl _, Nat.le_refl _⟩ ?_
      exact z_iret cx hr hlk dX7_thing_85 (by first | rfl | (simp [thingP, prO, c_1, hNn, c_2, c_3, c_4, c_5, c_6, hL, hK]; done))
    refine lv_tableOut (pc := 16) (tgt := 86) hx hb dX7_thing_16 (by have := lv_neT c_2 (a := 0) (by decide); have := lv_neT c_3 (a := 1) (by decide); have := lv_neT c_4 (a := 2) (by decide); have := lv_neT c_5 (a := 3) (by decide); have := lv_neT c_6 (a := 4) (by decide); have := lv_neT c_7 (a := 5) (by decide); omega) (by decide) ?_
    have hL := inL_5 c_2 c_3 c_4 c_5 c_6 c_7
    refine lv_iconst (pc := 86) (v := (-1)) hx hb dX7_thing_86 (by decide) ?_
    exact z_iret cx hr hlk dX7_thing_87 (by first | rfl | (simp [thingP, prO, c_1, hNn, c_2, c_3, c_4, c_5, c_6, c_7, hL]; done))
  · skip
    have h0n := Bool.eq_false_iff.mpr c_1
    refine k_X1_thingAt0 (pc := 5) (x := x) cx hW hC htN h0n m_ml_X7_133 ⟨Nat.le_of_ble_eq_true rfl, Nat.le_of_ble_eq_true rfl⟩ hl.1 rfl (by simp [Value.category]) dX7_thing_5 ⟨Nat.le_refl _, Nat.le_refl _⟩ ?_
    refine lv_astore_nN (pc := 8) (lv' := [(3, .null), (0, .ref (b 0)), (1, .int x), (2, .int w)]) hx hb dX7_thing_8 rfl hl (by decide) rfl (fun ls hl => ?_)
    refine lv_aload_nN (pc := 9) hx hb dX7_thing_9 rfl (lv_at hl 0 rfl) ?_
    refine lv_ifnonnullN (pc := 10) hx hb dX7_thing_10 ?_
    refine lv_iconst (pc := 13) (v := (-1)) hx hb dX7_thing_13 (by decide) ?_
    exact z_iret cx hr hlk dX7_thing_14 (by first | rfl | (simp [thingP, prO, c_1]; done))
theorem k_X7_thing {p : Program} {l : Launch} {e : Env} {R : Room} {s : State} {m : MethodId} {args : Array Value} {below : List Frame} {meth : Method} {c : Code} {H : Heap} {locs : List Loc} {cells slots : Nat} {Q : State → Prop} {cc : ByteArray} {pc index : Nat} {ls : Array Slot} {rest st0 : List Value} {E : zE} {own : String} {nL : Nat} {b : Nat → Nat} {tl : va_W} {pd : Bool} {qt : Nat → Option Nat} {qr : Nat → Option Nat} {tbu : Nat → Int32} {wst : Nat → Int32} {asw : Nat → Int32} {pN : Int32} {tN : Int32} {aN : Int32} {hd : Int32} {dr : Int32} {pl : Int32} {rm : Int32} {ps : Int32} {wx : Nat → Int32} {pp : Nat → Option Nat} {tp : Nat → Option Nat} {ap : Nat → Option Nat} {sg : Nat → Int32} {uh : Int32} {ud : Int32} {up : Int32} {ur : Int32} {us : Int32} {ux : Nat → Int32} {G : zG} {x w : Int32} {r : Nat → Int32} (cx : Cx E p s args m c own cc nL) (hW : WW E (wK b E.2.1 tl pd qt qr tbu wst asw pN tN aN hd dr pl rm ps wx pp tp ap sg uh ud up ur us ux) G H) (hG : CG E.2.1 G r pN tN aN wx pp tp ap) (zl : Cond.methodLink own index yX7_thing ∈ AllW) (zR : 2 + 1 ≤ R.frames ∧ 8 + (4 + 11) + 42 ≤ R.locals) (zs : ls.size = nL) (zt : st0 = ([.int x, .int w] : List Value).reverse ++ .ref (b 0) :: rest) (z8 : (rest.map fun v => v.category).sum ≤ 8) (zd : decode cc pc = .ok (.invokevirtual index, 3)) (zf : cells ≤ R.cells ∧ slots ≤ R.slots) (kk : W p l e R s m args below meth c H locs cells slots Q (F0 m (pc + 3) ls (.int (thingP r x w) :: rest))) : W p l e R s m args below meth c H locs cells slots Q (F0 m pc ls st0) :=
  z_callV cx vm_X7_thing (c_X7_thing l E b tl pd qt qr tbu wst asw pN tN aN hd dr pl rm ps wx pp tp ap sg uh ud up ur us ux G x w r hG) (z_rec cx.2 (hW.at 0 rfl) rfl) hW zl ⟨rfl, rfl⟩ zR rfl zs zt z8 zd zf kk
theorem vm_X7_swing : zVm yX7_swing cX7_swing 4 (some FieldType.int) 3 := ⟨m_co_X7_swing, m_in_RX7, ⟨m_im_X7_swing, m_se_X7_X7_swing⟩, by decide +kernel, by decide +kernel, by decide +kernel⟩
set_option maxHeartbeats 1000000 in
set_option maxRecDepth 100000 in
theorem c_X7_swing (l : Launch) (E : zE) (b : Nat → Nat) (tl : va_W) (pd : Bool) (qt : Nat → Option Nat) (qr : Nat → Option Nat) (tbu : Nat → Int32) (wst : Nat → Int32) (asw : Nat → Int32) (pN : Int32) (tN : Int32) (aN : Int32) (wx : Nat → Int32) (pp : Nat → Option Nat) (tp : Nat → Option Nat) (ap : Nat → Option Nat) (sg : Nat → Int32) (uh : Int32) (ud : Int32) (up : Int32) (ur : Int32) (us : Int32) (ux : Nat → Int32) (G : zG) (x f st : Int32) (r : Nat → Int32) (hG : CG E.2.1 G r pN tN aN wx pp tp ap) : Met l yX7_swing (.code yX7_swing cX7_swing 4 (some FieldType.int) :: AllW) (rm0' 3 71) (zP E (fun H => WW E (wK b E.2.1 tl pd qt qr tbu wst asw pN tN aN (hdC (r 3)) (r 4) (r 5) (r 6) (r 7) wx pp tp ap sg uh ud up ur us ux) G H) [.ref (b 0), .int x, .int f, .int st]) (zQ (fun (_ : Heap) (v : Option Value) (H1 : Heap) => (∃ (sg2 : Nat → Int32), v = some (.int (swingP r x f st)) ∧ WW E (wK b E.2.1 tl pd qt qr tbu wst asw pN tN aN (hdC (r 3)) (r 4) (r 5) (r 6) (r 7) wx pp tp ap sg2 uh ud up ur us ux) G H1)) (bF b)) 0 0 (bF b) := by
  refine z_body (own := RX7) (by decide) rfl rfl ?_
  intro p e s m args below meth c ls cx hr hlk hnm hW hl
  have hx := cx.x
  have hb := cx.b
  have hl : lv_has ls 4 [(0, .ref (b 0)), (1, .int x), (2, .int f), (3, .int st)] := hl
  have hFb : ∀ k, (bF b) (b k) := fun k => bF_in b k
  have hS : va_S (bF b) s.heap s.heap [] := va_S.rf
  have hG0 := hG
  obtain ⟨hI, hpN, htN, haN, hPc, hTh, hAk, hwx⟩ := hG
  have hC := hI.1
  have hIS := hI.2.1
  have hP := hI.2.2.1
  have hT := hI.2.2.2.1
  have hP10 := (Inv.n0 hC).2
  have hT7 := (Inv.n1 hC).2
  have hA24 := (Inv.n2 hC).2
  have e0 := (Inv.n0 hC).1
  have e1 := (Inv.n1 hC).1
  have e2 := (Inv.n2 hC).1
  refine lv_aload_n (pc := 0) hx hb dX7_swing_0 rfl (lv_at hl 0 rfl) ?_
  refine z_get (pc := 1) cx (hW.at 0 rfl) (C := RX7) (T := TX7) (N := 11) rfl i_X7 0 rfl m_fl_X7_10 rfl dX7_swing_1 ?_
  refine lv_iload_n (pc := 4) hx hb dX7_swing_4 rfl (lv_at hl 1 rfl) ?_
  refine k_X1_isPiece (pc := 5) (x := x) cx hW (by first | assumption | omega) (by first | assumption | omega) m_ml_X7_155 ⟨Nat.le_of_ble_eq_true rfl, Nat.le_of_ble_eq_true rfl⟩ hl.1 rfl (by simp [Value.category]) dX7_swing_5 ⟨Nat.le_refl _, Nat.le_refl _⟩ ?_
  refine z_ifeq (pc := 8) (tgt := 19) hx hb dX7_swing_8 (by decide) (fun c_1 => ?_) (fun c_1 => ?_)
  · skip
    refine lv_iconst (pc := 19) (v := (-1)) hx hb dX7_swing_19 (by decide) ?_
    exact z_wiret cx hr hlk dX7_swing_20 hS ⟨_, (sI (by first | rfl | (simp [swingP, c_1]; done))), hW⟩
  · skip
    obtain ⟨n, hn, rfl⟩ := pc_nat hC c_1
    have hN := iN_nI (n := n) (by omega)
    refine lv_iload_n (pc := 11) hx hb dX7_swing_11 rfl (lv_at hl 2 rfl) ?_
    refine lv_iload_n (pc := 12) hx hb dX7_swing_12 rfl (lv_at hl 3 rfl) ?_
    refine k_X7_isBowed (pc := 13) (x := f) (y := st) cx  m_ml_X7_175 ⟨Nat.le_of_ble_eq_true rfl, Nat.le_of_ble_eq_true rfl⟩ hl.1 rfl (by simp [Value.category]) dX7_swing_13 ⟨Nat.le_refl _, Nat.le_refl _⟩ ?_
    refine z_ifne (pc := 16) (tgt := 21) hx hb dX7_swing_16 (by decide) (fun c_2 => ?_) (fun c_2 => ?_)
    · skip
      obtain ⟨hf1, hs1⟩ := and_t c_2
      have hf := tone_rg hf1
      refine lv_aload_n (pc := 21) hx hb dX7_swing_21 rfl (lv_at hl 0 rfl) ?_
      refine z_get (pc := 22) cx (hW.at 0 rfl) (C := RX7) (T := TX7) (N := 11) rfl i_X7 0 rfl m_fl_X7_10 rfl dX7_swing_22 ?_
      refine lv_iload_n (pc := 25) hx hb dX7_swing_25 rfl (lv_at hl 1 rfl) ?_
      refine lv_aload_n (pc := 26) hx hb dX7_swing_26 rfl (lv_at hl 0 rfl) ?_
      refine z_get (pc := 27) cx (hW.at 0 rfl) (C := RX7) (T := TX7) (N := 11) rfl i_X7 0 rfl m_fl_X7_10 rfl dX7_swing_27 ?_
      refine z_get (pc := 30) cx (hW.at 6 rfl) (C := RX1) (T := TX1) (N := 8) rfl i_X1 3 rfl m_fl_X7_117 rfl dX7_swing_30 ?_
      refine lv_iload_n (pc := 33) hx hb dX7_swing_33 rfl (lv_at hl 2 rfl) ?_
      refine lv_iload_n (pc := 34) hx hb dX7_swing_34 rfl (lv_at hl 3 rfl) ?_
      refine k_X1_swingOf (pc := 35) (n := n) (t := b 7) (f := f) (st := st) (w := b 8) (xw := wx) cx hW hS (fun _ h => h) hI hpN hPc hn (rg_w hf (by decide) (by decide)) (fun _ _ h => ⟨h.at 7 rfl, h.at 8 rfl, hwx⟩) m_ml_X7_178 ⟨Nat.le_of_ble_eq_true rfl, Nat.le_of_ble_eq_true rfl⟩ hl.1 rfl (by simp [Value.category]) dX7_swing_35 ⟨Nat.le_refl _, Nat.le_refl _⟩ (fun sg2 H locs hf2 hW hS => ?_)
      have hW : WW E (wK b E.2.1 tl pd qt qr tbu wst asw pN tN aN (hdC (r 3)) (r 4) (r 5) (r 6) (r 7) wx pp tp ap sg2 uh ud up ur us ux) G H := hW
      exact z_wiret cx hr hlk dX7_swing_38 hS ⟨_, (sI (by first | rfl | (simp [swingP, c_1, hN, hf1, hs1]; done))), hW⟩
    · skip
      have hb0 := and_f c_2
      have hb3 := and_f3 c_2
      refine lv_iconst (pc := 19) (v := (-1)) hx hb dX7_swing_19 (by decide) ?_
      exact z_wiret cx hr hlk dX7_swing_20 hS ⟨_, (sI (by first | rfl | (simp [swingP, c_1, hN, hb0, hb3]; done))), hW⟩
theorem k_X7_swing {p : Program} {l : Launch} {e : Env} {R : Room} {s : State} {m : MethodId} {args : Array Value} {below : List Frame} {meth : Method} {c : Code} {H H0 : Heap} {locs : List Loc} {cells slots : Nat} {Q : State → Prop} {cc : ByteArray} {pc index : Nat} {ls : Array Slot} {rest st0 : List Value} {E : zE} {own : String} {nL : Nat} {F : Nat → Prop} {b : Nat → Nat} {tl : va_W} {pd : Bool} {qt : Nat → Option Nat} {qr : Nat → Option Nat} {tbu : Nat → Int32} {wst : Nat → Int32} {asw : Nat → Int32} {pN : Int32} {tN : Int32} {aN : Int32} {wx : Nat → Int32} {pp : Nat → Option Nat} {tp : Nat → Option Nat} {ap : Nat → Option Nat} {sg : Nat → Int32} {uh : Int32} {ud : Int32} {up : Int32} {ur : Int32} {us : Int32} {ux : Nat → Int32} {G : zG} {x f st : Int32} {r : Nat → Int32} (cx : Cx E p s args m c own cc nL) (hW : WW E (wK b E.2.1 tl pd qt qr tbu wst asw pN tN aN (hdC (r 3)) (r 4) (r 5) (r 6) (r 7) wx pp tp ap sg uh ud up ur us ux) G H) (hS : va_S F H0 H locs) (zF : ∀ q, (bF b) q → F q) (hG : CG E.2.1 G r pN tN aN wx pp tp ap) (zl : Cond.methodLink own index yX7_swing ∈ AllW) (zR : 3 + 1 ≤ R.frames ∧ 8 + (4 + 11) + 71 ≤ R.locals) (zs : ls.size = nL) (zt : st0 = ([.int x, .int f, .int st] : List Value).reverse ++ .ref (b 0) :: rest) (z8 : (rest.map fun v => v.category).sum ≤ 8) (zd : decode cc pc = .ok (.invokevirtual index, 3)) (zf : cells ≤ R.cells ∧ slots ≤ R.slots) (kk0 : ∀ (sg2 : Nat → Int32) (H1 : Heap) (locs1 : List Loc), WW E (wK b E.2.1 tl pd qt qr tbu wst asw pN tN aN (hdC (r 3)) (r 4) (r 5) (r 6) (r 7) wx pp tp ap sg2 uh ud up ur us ux) G H1 → va_S F H0 H1 locs1 → W p l e R s m args below meth c H1 locs1 cells slots Q (F0 m (pc + 3) ls (.int (swingP r x f st) :: rest))) : W p l e R s m args below meth c H locs cells slots Q (F0 m pc ls st0) := by
  refine z_callVw cx vm_X7_swing (c_X7_swing l E b tl pd qt qr tbu wst asw pN tN aN wx pp tp ap sg uh ud up ur us ux G x f st r hG) (z_rec cx.2 (hW.at 0 rfl) rfl) hW hS zF zl ⟨rfl, rfl⟩ zR rfl zs zt z8 zd zf (fun v H1 locs1 hq hS1 _ => ?_)
  rcases hq with ⟨sg2, rfl, hW1⟩
  · exact kk0 sg2 H1 locs1  hW1 hS1
theorem vm_X7_buzzes : zVm yX7_buzzes cX7_buzzes 6 (some FieldType.int) 4 := ⟨m_co_X7_buzzes, m_in_RX7, ⟨m_im_X7_buzzes, m_se_X7_X7_buzzes⟩, by decide +kernel, by decide +kernel, by decide +kernel⟩
set_option maxHeartbeats 1000000 in
set_option maxRecDepth 100000 in
theorem c_X7_buzzes (l : Launch) (E : zE) (b : Nat → Nat) (tl : va_W) (pd : Bool) (qt : Nat → Option Nat) (qr : Nat → Option Nat) (tbu : Nat → Int32) (wst : Nat → Int32) (asw : Nat → Int32) (pN : Int32) (tN : Int32) (aN : Int32) (wx : Nat → Int32) (pp : Nat → Option Nat) (tp : Nat → Option Nat) (ap : Nat → Option Nat) (sg : Nat → Int32) (uh : Int32) (ud : Int32) (up : Int32) (ur : Int32) (us : Int32) (ux : Nat → Int32) (G : zG) (x f st w : Int32) (r : Nat → Int32) (hG : CG E.2.1 G r pN tN aN wx pp tp ap) : Met l yX7_buzzes (.code yX7_buzzes cX7_buzzes 6 (some FieldType.int) :: AllW) (rm0' 5 119) (zP E (fun H => WW E (wK b E.2.1 tl pd qt qr tbu wst asw pN tN aN (hdC (r 3)) (r 4) (r 5) (r 6) (r 7) wx pp tp ap sg uh ud up ur us ux) G H) [.ref (b 0), .int x, .int f, .int st, .int w]) (zQ (fun (_ : Heap) (v : Option Value) (H1 : Heap) => (∃ (sg2 : Nat → Int32), v = some (.int (buzzesP r x f st w)) ∧ WW E (wK b E.2.1 tl pd qt qr tbu wst asw pN tN aN (hdC (r 3)) (r 4) (r 5) (r 6) (r 7) wx pp tp ap sg2 uh ud up ur us ux) G H1)) (bF b)) 0 0 (bF b) := by
  refine z_body (own := RX7) (by decide) rfl rfl ?_
  intro p e s m args below meth c ls cx hr hlk hnm hW hl
  have hx := cx.x
  have hb := cx.b
  have hl : lv_has ls 6 [(0, .ref (b 0)), (1, .int x), (2, .int f), (3, .int st), (4, .int w)] := hl
  have hFb : ∀ k, (bF b) (b k) := fun k => bF_in b k
  have hS : va_S (bF b) s.heap s.heap [] := va_S.rf
  have hG0 := hG
  obtain ⟨hI, hpN, htN, haN, hPc, hTh, hAk, hwx⟩ := hG
  have hC := hI.1
  have hIS := hI.2.1
  have hP := hI.2.2.1
  have hT := hI.2.2.2.1
  have hP10 := (Inv.n0 hC).2
  have hT7 := (Inv.n1 hC).2
  have hA24 := (Inv.n2 hC).2
  have e0 := (Inv.n0 hC).1
  have e1 := (Inv.n1 hC).1
  have e2 := (Inv.n2 hC).1
  refine lv_aload_n (pc := 0) hx hb dX7_buzzes_0 rfl (lv_at hl 0 rfl) ?_
  refine z_get (pc := 1) cx (hW.at 0 rfl) (C := RX7) (T := TX7) (N := 11) rfl i_X7 0 rfl m_fl_X7_10 rfl dX7_buzzes_1 ?_
  refine lv_iload_n (pc := 4) hx hb dX7_buzzes_4 rfl (lv_at hl 1 rfl) ?_
  by_cases c_1 : isTh r x = true
  · skip
    obtain ⟨n, hn, rfl⟩ := th_nat hC c_1
    have hNn := iN_nI (n := n) (by omega)
    obtain ⟨q1, h1q1, h2q1⟩ := hTh n hn
    refine k_X1_thingAt (pc := 5) (n := n) (q := q1) cx hW hC htN hn h1q1 m_ml_X7_133 ⟨Nat.le_of_ble_eq_true rfl, Nat.le_of_ble_eq_true rfl⟩ hl.1 rfl (by simp [Value.category]) dX7_buzzes_5 ⟨Nat.le_refl _, Nat.le_refl _⟩ ?_
    refine lv_astore (pc := 8) (lv' := [(5, .ref q1), (0, .ref (b 0)), (1, .int (nI n)), (2, .int f), (3, .int st), (4, .int w)]) hx hb dX7_buzzes_8 hl (by decide) rfl (fun ls hl => ?_)
    refine lv_aload (pc := 10) hx hb dX7_buzzes_10 (lv_at hl 0 rfl) ?_
    refine lv_ifnull (pc := 12) hx hb dX7_buzzes_12 ?_
    refine lv_iload_n (pc := 15) hx hb dX7_buzzes_15 rfl (lv_at hl 3 rfl) ?_
    refine lv_iload_n (pc := 16) hx hb dX7_buzzes_16 rfl (lv_at hl 4 rfl) ?_
    refine k_X7_isBowed (pc := 17) (x := f) (y := st) cx  m_ml_X7_175 ⟨Nat.le_of_ble_eq_true rfl, Nat.le_of_ble_eq_true rfl⟩ hl.1 rfl (by simp [Value.category]) dX7_buzzes_17 ⟨Nat.le_refl _, Nat.le_refl _⟩ ?_
    refine z_ifne (pc := 20) (tgt := 25) hx hb dX7_buzzes_20 (by decide) (fun c_2 => ?_) (fun c_2 => ?_)
    · skip
      obtain ⟨hf1, hs1⟩ := and_t c_2
      have hf := tone_rg hf1
      refine lv_iload (pc := 25) hx hb dX7_buzzes_25 (lv_at hl 5 rfl) ?_
      by_cases c_3 : w = 0
      · subst c_3
        refine lv_tableIn (pc := 27) (tgt := 52) hx hb dX7_buzzes_27 (by decide) (by decide) rfl (by decide) ?_
        have hL : inL 0 0 2 = true := by decide
        have hK : iN 0 = 0 := rfl
        refine lv_aload_n (pc := 52) hx hb dX7_buzzes_52 rfl (lv_at hl 1 rfl) ?_
        refine z_get (pc := 53) cx (hW.at 0 rfl) (C := RX7) (T := TX7) (N := 11) rfl i_X7 0 rfl m_fl_X7_10 rfl dX7_buzzes_53 ?_
        refine lv_aload (pc := 56) hx hb dX7_buzzes_56 (lv_at hl 0 rfl) ?_
        refine lv_aload_n (pc := 58) hx hb dX7_buzzes_58 rfl (lv_at hl 1 rfl) ?_
        refine z_get (pc := 59) cx (hW.at 0 rfl) (C := RX7) (T := TX7) (N := 11) rfl i_X7 0 rfl m_fl_X7_10 rfl dX7_buzzes_59 ?_
        refine z_get (pc := 62) cx (hW.at 6 rfl) (C := RX1) (T := TX1) (N := 8) rfl i_X1 3 rfl m_fl_X7_117 rfl dX7_buzzes_62 ?_
        refine lv_iload_n (pc := 65) hx hb dX7_buzzes_65 rfl (lv_at hl 3 rfl) ?_
        refine lv_iload_n (pc := 66) hx hb dX7_buzzes_66 rfl (lv_at hl 4 rfl) ?_
        refine k_X1_swingsOf (pc := 67) (q := q1) (t := b 7) (f := f) (st := st) (w := b 8) (xw := wx) (n := n) cx hW hS (fun _ h => h) hI hpN hPc hn hf h2q1 (fun _ _ h => ⟨h.at 7 rfl, h.at 8 rfl, hwx⟩) m_ml_X7_182 ⟨Nat.le_of_ble_eq_true rfl, Nat.le_of_ble_eq_true rfl⟩ hl.1 rfl (by simp [Value.category]) dX7_buzzes_67 ⟨Nat.le_refl _, Nat.le_refl _⟩ (fun sg2 H locs  hW hS => ?_)
        have hW : WW E (wK b E.2.1 tl pd qt qr tbu wst asw pN tN aN (hdC (r 3)) (r 4) (r 5) (r 6) (r 7) wx pp tp ap sg2 uh ud up ur us ux) G H := hW
        exact z_wiret cx hr hlk dX7_buzzes_70 hS ⟨_, (sI (by first | rfl | (simp [buzzesP, bI, stO, c_1, hNn, hf1, hs1, hL, hK]; done))), hW⟩
      by_cases c_4 : w = 1
      · subst c_4
        refine lv_tableIn (pc := 27) (tgt := 71) hx hb dX7_buzzes_27 (by decide) (by decide) rfl (by decide) ?_
        have hL : inL 1 0 2 = true := by decide
        have hK : iN 1 = 1 := rfl
        refine lv_aload_n (pc := 71) hx hb dX7_buzzes_71 rfl (lv_at hl 1 rfl) ?_
        refine z_get (pc := 72) cx (hW.at 0 rfl) (C := RX7) (T := TX7) (N := 11) rfl i_X7 0 rfl m_fl_X7_10 rfl dX7_buzzes_72 ?_
        refine lv_aload (pc := 75) hx hb dX7_buzzes_75 (lv_at hl 0 rfl) ?_
        refine lv_aload (pc := 77) hx hb dX7_buzzes_77 (lv_at hl 0 rfl) ?_
        refine z_get (pc := 79) cx (hW.dyn h2q1) (C := RX6) (T := TX6) (N := 6) rfl i_X6 3 rfl m_fl_X7_143 rfl dX7_buzzes_79 ?_
        refine lv_aload_n (pc := 82) hx hb dX7_buzzes_82 rfl (lv_at hl 1 rfl) ?_
        refine z_get (pc := 83) cx (hW.at 0 rfl) (C := RX7) (T := TX7) (N := 11) rfl i_X7 0 rfl m_fl_X7_10 rfl dX7_buzzes_83 ?_
        refine z_get (pc := 86) cx (hW.at 6 rfl) (C := RX1) (T := TX1) (N := 8) rfl i_X1 3 rfl m_fl_X7_117 rfl dX7_buzzes_86 ?_
        refine k_X1_strikesOf (pc := 89) (q := q1) (gap := g5 r n 2) (t := b 7) (w := b 8) (xw := wx) (n := n) cx hW hI hpN hPc hn h2q1 (fun _ _ h => ⟨h.at 7 rfl, h.at 8 rfl, hwx⟩) m_ml_X7_186 ⟨Nat.le_of_ble_eq_true rfl, Nat.le_of_ble_eq_true rfl⟩ hl.1 rfl (by simp [Value.category]) dX7_buzzes_89 ⟨Nat.le_refl _, Nat.le_refl _⟩ ?_
        exact z_wiret cx hr hlk dX7_buzzes_92 hS ⟨_, (sI (by first | rfl | (simp [buzzesP, bI, stO, c_1, hNn, hf1, hs1, c_3, hL, hK]; done))), hW⟩
      by_cases c_5 : w = 2
      · subst c_5
        refine lv_tableIn (pc := 27) (tgt := 93) hx hb dX7_buzzes_27 (by decide) (by decide) rfl (by decide) ?_
        have hL : inL 2 0 2 = true := by decide
        have hK : iN 2 = 2 := rfl
        refine lv_aload_n (pc := 93) hx hb dX7_buzzes_93 rfl (lv_at hl 1 rfl) ?_
        refine z_get (pc := 94) cx (hW.at 0 rfl) (C := RX7) (T := TX7) (N := 11) rfl i_X7 0 rfl m_fl_X7_10 rfl dX7_buzzes_94 ?_
        refine lv_aload (pc := 97) hx hb dX7_buzzes_97 (lv_at hl 0 rfl) ?_
        refine lv_aload_n (pc := 99) hx hb dX7_buzzes_99 rfl (lv_at hl 1 rfl) ?_
        refine z_get (pc := 100) cx (hW.at 0 rfl) (C := RX7) (T := TX7) (N := 11) rfl i_X7 0 rfl m_fl_X7_10 rfl dX7_buzzes_100 ?_
        refine z_get (pc := 103) cx (hW.at 6 rfl) (C := RX1) (T := TX1) (N := 8) rfl i_X1 3 rfl m_fl_X7_117 rfl dX7_buzzes_103 ?_
        refine lv_iload_n (pc := 106) hx hb dX7_buzzes_106 rfl (lv_at hl 3 rfl) ?_
        refine lv_iload_n (pc := 107) hx hb dX7_buzzes_107 rfl (lv_at hl 4 rfl) ?_
        refine k_X1_isBuzzing (pc := 108) (q := q1) (t := b 7) (f := f) (st := st) (w := b 8) (xw := wx) (n := n) cx hW hS (fun _ h => h) hI hpN hPc hn hf h2q1 (fun _ _ h => ⟨h.at 7 rfl, h.at 8 rfl, hwx⟩) m_ml_X7_190 ⟨Nat.le_of_ble_eq_true rfl, Nat.le_of_ble_eq_true rfl⟩ hl.1 rfl (by simp [Value.category]) dX7_buzzes_108 ⟨Nat.le_refl _, Nat.le_refl _⟩ (fun sg2 H locs  hW hS => ?_)
        have hW : WW E (wK b E.2.1 tl pd qt qr tbu wst asw pN tN aN (hdC (r 3)) (r 4) (r 5) (r 6) (r 7) wx pp tp ap sg2 uh ud up ur us ux) G H := hW
        refine z_ifeq (pc := 111) (tgt := 118) hx hb dX7_buzzes_111 (by decide) (fun c_6 => ?_) (fun c_6 => ?_)
        · skip
          refine lv_iconst (pc := 118) (v := 0) hx hb dX7_buzzes_118 (by decide) ?_
          exact z_wiret cx hr hlk dX7_buzzes_119 hS ⟨_, (sI (by first | rfl | (simp [buzzesP, bI, stO, c_1, hNn, hf1, hs1, c_3, c_4, hL, hK, c_6]; done))), hW⟩
        · skip
          refine lv_iconst (pc := 114) (v := 1) hx hb dX7_buzzes_114 (by decide) ?_
          refine lv_goto (pc := 115) (tgt := 119) hx hb dX7_buzzes_115 (by decide) ?_
          exact z_wiret cx hr hlk dX7_buzzes_119 hS ⟨_, (sI (by first | rfl | (simp [buzzesP, bI, stO, c_1, hNn, hf1, hs1, c_3, c_4, hL, hK, c_6]; done))), hW⟩
      refine lv_tableOut (pc := 27) (tgt := 120) hx hb dX7_buzzes_27 (by have := lv_neT c_3 (a := 0) (by decide); have := lv_neT c_4 (a := 1) (by decide); have := lv_neT c_5 (a := 2) (by decide); omega) (by decide) ?_
      have hL := inL_2 c_3 c_4 c_5
      refine lv_iconst (pc := 120) (v := (-1)) hx hb dX7_buzzes_120 (by decide) ?_
      exact z_wiret cx hr hlk dX7_buzzes_121 hS ⟨_, (sI (by first | rfl | (simp [buzzesP, bI, stO, c_1, hNn, hf1, hs1, c_3, c_4, c_5, hL]; done))), hW⟩
    · skip
      have hb0 := and_f c_2
      have hb3 := and_f3 c_2
      refine lv_iconst (pc := 23) (v := (-1)) hx hb dX7_buzzes_23 (by decide) ?_
      exact z_wiret cx hr hlk dX7_buzzes_24 hS ⟨_, (sI (by first | rfl | (simp [buzzesP, bI, stO, c_1, hNn, hb0, hb3]; done))), hW⟩
  · skip
    have h0n := Bool.eq_false_iff.mpr c_1
    refine k_X1_thingAt0 (pc := 5) (x := x) cx hW hC htN h0n m_ml_X7_133 ⟨Nat.le_of_ble_eq_true rfl, Nat.le_of_ble_eq_true rfl⟩ hl.1 rfl (by simp [Value.category]) dX7_buzzes_5 ⟨Nat.le_refl _, Nat.le_refl _⟩ ?_
    refine lv_astoreN (pc := 8) (lv' := [(5, .null), (0, .ref (b 0)), (1, .int x), (2, .int f), (3, .int st), (4, .int w)]) hx hb dX7_buzzes_8 hl (by decide) rfl (fun ls hl => ?_)
    refine lv_aloadN (pc := 10) hx hb dX7_buzzes_10 (lv_at hl 0 rfl) ?_
    refine lv_ifnullN (pc := 12) (tgt := 23) hx hb dX7_buzzes_12 (by decide) ?_
    refine lv_iconst (pc := 23) (v := (-1)) hx hb dX7_buzzes_23 (by decide) ?_
    exact z_wiret cx hr hlk dX7_buzzes_24 hS ⟨_, (sI (by first | rfl | (simp [buzzesP, bI, stO, c_1]; done))), hW⟩
theorem k_X7_buzzes {p : Program} {l : Launch} {e : Env} {R : Room} {s : State} {m : MethodId} {args : Array Value} {below : List Frame} {meth : Method} {c : Code} {H H0 : Heap} {locs : List Loc} {cells slots : Nat} {Q : State → Prop} {cc : ByteArray} {pc index : Nat} {ls : Array Slot} {rest st0 : List Value} {E : zE} {own : String} {nL : Nat} {F : Nat → Prop} {b : Nat → Nat} {tl : va_W} {pd : Bool} {qt : Nat → Option Nat} {qr : Nat → Option Nat} {tbu : Nat → Int32} {wst : Nat → Int32} {asw : Nat → Int32} {pN : Int32} {tN : Int32} {aN : Int32} {wx : Nat → Int32} {pp : Nat → Option Nat} {tp : Nat → Option Nat} {ap : Nat → Option Nat} {sg : Nat → Int32} {uh : Int32} {ud : Int32} {up : Int32} {ur : Int32} {us : Int32} {ux : Nat → Int32} {G : zG} {x f st w : Int32} {r : Nat → Int32} (cx : Cx E p s args m c own cc nL) (hW : WW E (wK b E.2.1 tl pd qt qr tbu wst asw pN tN aN (hdC (r 3)) (r 4) (r 5) (r 6) (r 7) wx pp tp ap sg uh ud up ur us ux) G H) (hS : va_S F H0 H locs) (zF : ∀ q, (bF b) q → F q) (hG : CG E.2.1 G r pN tN aN wx pp tp ap) (zl : Cond.methodLink own index yX7_buzzes ∈ AllW) (zR : 5 + 1 ≤ R.frames ∧ 8 + (6 + 11) + 119 ≤ R.locals) (zs : ls.size = nL) (zt : st0 = ([.int x, .int f, .int st, .int w] : List Value).reverse ++ .ref (b 0) :: rest) (z8 : (rest.map fun v => v.category).sum ≤ 8) (zd : decode cc pc = .ok (.invokevirtual index, 3)) (zf : cells ≤ R.cells ∧ slots ≤ R.slots) (kk0 : ∀ (sg2 : Nat → Int32) (H1 : Heap) (locs1 : List Loc), WW E (wK b E.2.1 tl pd qt qr tbu wst asw pN tN aN (hdC (r 3)) (r 4) (r 5) (r 6) (r 7) wx pp tp ap sg2 uh ud up ur us ux) G H1 → va_S F H0 H1 locs1 → W p l e R s m args below meth c H1 locs1 cells slots Q (F0 m (pc + 3) ls (.int (buzzesP r x f st w) :: rest))) : W p l e R s m args below meth c H locs cells slots Q (F0 m pc ls st0) := by
  refine z_callVw cx vm_X7_buzzes (c_X7_buzzes l E b tl pd qt qr tbu wst asw pN tN aN wx pp tp ap sg uh ud up ur us ux G x f st w r hG) (z_rec cx.2 (hW.at 0 rfl) rfl) hW hS zF zl ⟨rfl, rfl⟩ zR rfl zs zt z8 zd zf (fun v H1 locs1 hq hS1 _ => ?_)
  rcases hq with ⟨sg2, rfl, hW1⟩
  · exact kk0 sg2 H1 locs1  hW1 hS1
theorem vm_X7_heard : zVm yX7_heard cX7_heard 3 (some FieldType.int) 2 := ⟨m_co_X7_heard, m_in_RX7, ⟨m_im_X7_heard, m_se_X7_X7_heard⟩, by decide +kernel, by decide +kernel, by decide +kernel⟩
set_option maxHeartbeats 1000000 in
set_option maxRecDepth 100000 in
theorem c_X7_heard (l : Launch) (E : zE) (b : Nat → Nat) (tl : va_W) (pd : Bool) (qt : Nat → Option Nat) (qr : Nat → Option Nat) (tbu : Nat → Int32) (wst : Nat → Int32) (asw : Nat → Int32) (pN : Int32) (tN : Int32) (aN : Int32) (wx : Nat → Int32) (pp : Nat → Option Nat) (tp : Nat → Option Nat) (ap : Nat → Option Nat) (sg : Nat → Int32) (uh : Int32) (ud : Int32) (up : Int32) (ur : Int32) (us : Int32) (ux : Nat → Int32) (G : zG) (f st : Int32) (r : Nat → Int32) (hG : CG E.2.1 G r pN tN aN wx pp tp ap) : Met l yX7_heard (.code yX7_heard cX7_heard 3 (some FieldType.int) :: AllW) (rm0' 6 144) (zP E (fun H => WW E (wK b E.2.1 tl pd qt qr tbu wst asw pN tN aN (hdC (r 3)) (r 4) (r 5) (r 6) (r 7) wx pp tp ap sg uh ud up ur us ux) G H) [.ref (b 0), .int f, .int st]) (zQ (fun (_ : Heap) (v : Option Value) (H1 : Heap) => (∃ (sg2 : Nat → Int32), v = some (.int (heardP r f st)) ∧ WW E (wK b E.2.1 tl pd qt qr tbu wst asw pN tN aN (hdC (r 3)) (r 4) (r 5) (r 6) (r 7) wx pp tp ap sg2 uh ud up ur us ux) G H1)) (bF b)) 0 0 (bF b) := by
  refine z_body (own := RX7) (by decide) rfl rfl ?_
  intro p e s m args below meth c ls cx hr hlk hnm hW hl
  have hx := cx.x
  have hb := cx.b
  have hl : lv_has ls 3 [(0, .ref (b 0)), (1, .int f), (2, .int st)] := hl
  have hFb : ∀ k, (bF b) (b k) := fun k => bF_in b k
  have hS : va_S (bF b) s.heap s.heap [] := va_S.rf
  have hG0 := hG
  obtain ⟨hI, hpN, htN, haN, hPc, hTh, hAk, hwx⟩ := hG
  have hC := hI.1
  have hIS := hI.2.1
  have hP := hI.2.2.1
  have hT := hI.2.2.2.1
  have hP10 := (Inv.n0 hC).2
  have hT7 := (Inv.n1 hC).2
  have hA24 := (Inv.n2 hC).2
  have e0 := (Inv.n0 hC).1
  have e1 := (Inv.n1 hC).1
  have e2 := (Inv.n2 hC).1
  refine lv_iload_n (pc := 0) hx hb dX7_heard_0 rfl (lv_at hl 1 rfl) ?_
  refine lv_iload_n (pc := 1) hx hb dX7_heard_1 rfl (lv_at hl 2 rfl) ?_
  refine k_X7_isBowed (pc := 2) (x := f) (y := st) cx  m_ml_X7_175 ⟨Nat.le_of_ble_eq_true rfl, Nat.le_of_ble_eq_true rfl⟩ hl.1 rfl (by simp [Value.category]) dX7_heard_2 ⟨Nat.le_refl _, Nat.le_refl _⟩ ?_
  refine z_ifne (pc := 5) (tgt := 10) hx hb dX7_heard_5 (by decide) (fun c_1 => ?_) (fun c_1 => ?_)
  · skip
    obtain ⟨hf1, hs1⟩ := and_t c_1
    have hf := tone_rg hf1
    refine lv_aload_n (pc := 10) hx hb dX7_heard_10 rfl (lv_at hl 0 rfl) ?_
    refine z_get (pc := 11) cx (hW.at 0 rfl) (C := RX7) (T := TX7) (N := 11) rfl i_X7 0 rfl m_fl_X7_10 rfl dX7_heard_11 ?_
    refine lv_iload_n (pc := 14) hx hb dX7_heard_14 rfl (lv_at hl 1 rfl) ?_
    refine lv_iload_n (pc := 15) hx hb dX7_heard_15 rfl (lv_at hl 2 rfl) ?_
    refine k_X1_buzzingAt (pc := 16) (f := f) (st := st) (r := r) cx hW hS (fun _ h => h) (by first | assumption | omega) (by first | assumption | omega) (by first | assumption | omega) (by first | assumption | omega) (by first | assumption | omega) (by first | assumption | omega) (by first | assumption | omega) m_ml_X7_194 ⟨Nat.le_of_ble_eq_true rfl, Nat.le_of_ble_eq_true rfl⟩ hl.1 rfl (by simp [Value.category]) dX7_heard_16 ⟨Nat.le_refl _, Nat.le_refl _⟩ (fun sg2 H locs  hW hS => ?_)
    have hW : WW E (wK b E.2.1 tl pd qt qr tbu wst asw pN tN aN (hdC (r 3)) (r 4) (r 5) (r 6) (r 7) wx pp tp ap sg2 uh ud up ur us ux) G H := hW
    exact z_wiret cx hr hlk dX7_heard_19 hS ⟨_, (sI (by first | rfl | (simp [heardP, hf1, hs1]; done))), hW⟩
  · skip
    have hb0 := and_f c_1
    have hb3 := and_f3 c_1
    refine lv_iconst (pc := 8) (v := (-1)) hx hb dX7_heard_8 (by decide) ?_
    exact z_wiret cx hr hlk dX7_heard_9 hS ⟨_, (sI (by first | rfl | (simp [heardP, hb0, hb3]; done))), hW⟩
theorem k_X7_heard {p : Program} {l : Launch} {e : Env} {R : Room} {s : State} {m : MethodId} {args : Array Value} {below : List Frame} {meth : Method} {c : Code} {H H0 : Heap} {locs : List Loc} {cells slots : Nat} {Q : State → Prop} {cc : ByteArray} {pc index : Nat} {ls : Array Slot} {rest st0 : List Value} {E : zE} {own : String} {nL : Nat} {F : Nat → Prop} {b : Nat → Nat} {tl : va_W} {pd : Bool} {qt : Nat → Option Nat} {qr : Nat → Option Nat} {tbu : Nat → Int32} {wst : Nat → Int32} {asw : Nat → Int32} {pN : Int32} {tN : Int32} {aN : Int32} {wx : Nat → Int32} {pp : Nat → Option Nat} {tp : Nat → Option Nat} {ap : Nat → Option Nat} {sg : Nat → Int32} {uh : Int32} {ud : Int32} {up : Int32} {ur : Int32} {us : Int32} {ux : Nat → Int32} {G : zG} {f st : Int32} {r : Nat → Int32} (cx : Cx E p s args m c own cc nL) (hW : WW E (wK b E.2.1 tl pd qt qr tbu wst asw pN tN aN (hdC (r 3)) (r 4) (r 5) (r 6) (r 7) wx pp tp ap sg uh ud up ur us ux) G H) (hS : va_S F H0 H locs) (zF : ∀ q, (bF b) q → F q) (hG : CG E.2.1 G r pN tN aN wx pp tp ap) (zl : Cond.methodLink own index yX7_heard ∈ AllW) (zR : 6 + 1 ≤ R.frames ∧ 8 + (3 + 11) + 144 ≤ R.locals) (zs : ls.size = nL) (zt : st0 = ([.int f, .int st] : List Value).reverse ++ .ref (b 0) :: rest) (z8 : (rest.map fun v => v.category).sum ≤ 8) (zd : decode cc pc = .ok (.invokevirtual index, 3)) (zf : cells ≤ R.cells ∧ slots ≤ R.slots) (kk0 : ∀ (sg2 : Nat → Int32) (H1 : Heap) (locs1 : List Loc), WW E (wK b E.2.1 tl pd qt qr tbu wst asw pN tN aN (hdC (r 3)) (r 4) (r 5) (r 6) (r 7) wx pp tp ap sg2 uh ud up ur us ux) G H1 → va_S F H0 H1 locs1 → W p l e R s m args below meth c H1 locs1 cells slots Q (F0 m (pc + 3) ls (.int (heardP r f st) :: rest))) : W p l e R s m args below meth c H locs cells slots Q (F0 m pc ls st0) := by
  refine z_callVw cx vm_X7_heard (c_X7_heard l E b tl pd qt qr tbu wst asw pN tN aN wx pp tp ap sg uh ud up ur us ux G f st r hG) (z_rec cx.2 (hW.at 0 rfl) rfl) hW hS zF zl ⟨rfl, rfl⟩ zR rfl zs zt z8 zd zf (fun v H1 locs1 hq hS1 _ => ?_)
  rcases hq with ⟨sg2, rfl, hW1⟩
  · exact kk0 sg2 H1 locs1  hW1 hS1
theorem vm_X7_fits : zVm yX7_fits cX7_fits 1 (some FieldType.int) 0 := ⟨m_co_X7_fits, m_in_RX7, ⟨m_im_X7_fits, m_se_X7_X7_fits⟩, by decide +kernel, by decide +kernel, by decide +kernel⟩
set_option maxHeartbeats 1000000 in
set_option maxRecDepth 100000 in
theorem c_X7_fits (l : Launch) (E : zE) (b : Nat → Nat) (tl : va_W) (pd : Bool) (qt : Nat → Option Nat) (qr : Nat → Option Nat) (tbu : Nat → Int32) (wst : Nat → Int32) (asw : Nat → Int32) (pN : Int32) (tN : Int32) (aN : Int32) (hd : Int32) (dr : Int32) (pl : Int32) (rm : Int32) (ps : Int32) (wx : Nat → Int32) (pp : Nat → Option Nat) (tp : Nat → Option Nat) (ap : Nat → Option Nat) (sg : Nat → Int32) (uh : Int32) (ud : Int32) (up : Int32) (ur : Int32) (us : Int32) (ux : Nat → Int32) (G : zG) (r : Nat → Int32) (hG : CG E.2.1 G r pN tN aN wx pp tp ap) : Met l yX7_fits (.code yX7_fits cX7_fits 1 (some FieldType.int) :: AllW) (rm0' 3 66) (zP E (fun H => WW E (wK b E.2.1 tl pd qt qr tbu wst asw pN tN aN hd dr pl rm ps wx pp tp ap sg uh ud up ur us ux) G H) [.ref (b 0)]) (rQ (.int (fitsP r))) 0 0 nF := by
  refine z_body (own := RX7) (by decide) rfl rfl ?_
  intro p e s m args below meth c ls cx hr hlk hnm hW hl
  have hx := cx.x
  have hb := cx.b
  have hl : lv_has ls 1 [(0, .ref (b 0))] := hl
  have hG0 := hG
  obtain ⟨hI, hpN, htN, haN, hPc, hTh, hAk, hwx⟩ := hG
  have hC := hI.1
  have hIS := hI.2.1
  have hP := hI.2.2.1
  have hT := hI.2.2.2.1
  have hP10 := (Inv.n0 hC).2
  have hT7 := (Inv.n1 hC).2
  have hA24 := (Inv.n2 hC).2
  have e0 := (Inv.n0 hC).1
  have e1 := (Inv.n1 hC).1
  have e2 := (Inv.n2 hC).1
  have ht1 : tN = r 1 := htN.trans e1.symm
  refine lv_aload_n (pc := 0) hx hb dX7_fits_0 rfl (lv_at hl 0 rfl) ?_
  refine z_get (pc := 1) cx (hW.at 0 rfl) (C := RX7) (T := TX7) (N := 11) rfl i_X7 0 rfl m_fl_X7_10 rfl dX7_fits_1 ?_
  refine z_get (pc := 4) cx (hW.at 6 rfl) (C := RX1) (T := TX1) (N := 8) rfl i_X1 1 rfl m_fl_X7_206 rfl dX7_fits_4 ?_
  refine lv_if_ne (pc := 7) (tgt := 15) hx hb dX7_fits_7 (by decide) (fun c_1 => ?_) (fun c_1 => ?_)
  · skip
    refine lv_aload_n (pc := 15) hx hb dX7_fits_15 rfl (lv_at hl 0 rfl) ?_
    refine z_get (pc := 16) cx (hW.at 0 rfl) (C := RX7) (T := TX7) (N := 11) rfl i_X7 0 rfl m_fl_X7_10 rfl dX7_fits_16 ?_
    refine k_X1_fitting (pc := 19)  cx hW (by first | assumption | omega) (by first | assumption | omega) (by first | assumption | omega) (by first | assumption | omega) m_ml_X7_213 ⟨Nat.le_of_ble_eq_true rfl, Nat.le_of_ble_eq_true rfl⟩ hl.1 rfl (by simp [Value.category]) dX7_fits_19 ⟨Nat.le_refl _, Nat.le_refl _⟩ ?_
    exact z_iret cx hr hlk dX7_fits_22 (by first | rfl | (simp [fitsP, ← ht1, c_1]; done))
  · skip
    refine lv_bipush (pc := 10) (v := (-3)) hx hb dX7_fits_10 (by decide) ?_
    refine lv_goto (pc := 12) (tgt := 22) hx hb dX7_fits_12 (by decide) ?_
    exact z_iret cx hr hlk dX7_fits_22 (by first | rfl | (simp [fitsP, ← ht1, c_1]; done))
theorem k_X7_fits {p : Program} {l : Launch} {e : Env} {R : Room} {s : State} {m : MethodId} {args : Array Value} {below : List Frame} {meth : Method} {c : Code} {H : Heap} {locs : List Loc} {cells slots : Nat} {Q : State → Prop} {cc : ByteArray} {pc index : Nat} {ls : Array Slot} {rest st0 : List Value} {E : zE} {own : String} {nL : Nat} {b : Nat → Nat} {tl : va_W} {pd : Bool} {qt : Nat → Option Nat} {qr : Nat → Option Nat} {tbu : Nat → Int32} {wst : Nat → Int32} {asw : Nat → Int32} {pN : Int32} {tN : Int32} {aN : Int32} {hd : Int32} {dr : Int32} {pl : Int32} {rm : Int32} {ps : Int32} {wx : Nat → Int32} {pp : Nat → Option Nat} {tp : Nat → Option Nat} {ap : Nat → Option Nat} {sg : Nat → Int32} {uh : Int32} {ud : Int32} {up : Int32} {ur : Int32} {us : Int32} {ux : Nat → Int32} {G : zG} {r : Nat → Int32} (cx : Cx E p s args m c own cc nL) (hW : WW E (wK b E.2.1 tl pd qt qr tbu wst asw pN tN aN hd dr pl rm ps wx pp tp ap sg uh ud up ur us ux) G H) (hG : CG E.2.1 G r pN tN aN wx pp tp ap) (zl : Cond.methodLink own index yX7_fits ∈ AllW) (zR : 3 + 1 ≤ R.frames ∧ 8 + (1 + 11) + 66 ≤ R.locals) (zs : ls.size = nL) (zt : st0 = ([] : List Value).reverse ++ .ref (b 0) :: rest) (z8 : (rest.map fun v => v.category).sum ≤ 8) (zd : decode cc pc = .ok (.invokevirtual index, 3)) (zf : cells ≤ R.cells ∧ slots ≤ R.slots) (kk : W p l e R s m args below meth c H locs cells slots Q (F0 m (pc + 3) ls (.int (fitsP r) :: rest))) : W p l e R s m args below meth c H locs cells slots Q (F0 m pc ls st0) :=
  z_callV cx vm_X7_fits (c_X7_fits l E b tl pd qt qr tbu wst asw pN tN aN hd dr pl rm ps wx pp tp ap sg uh ud up ur us ux G r hG) (z_rec cx.2 (hW.at 0 rfl) rfl) hW zl ⟨rfl, rfl⟩ zR rfl zs zt z8 zd zf kk
theorem vm_X7_both : zVm yX7_both cX7_both 3 (some FieldType.int) 2 := ⟨m_co_X7_both, m_in_RX7, ⟨m_im_X7_both, m_se_X7_X7_both⟩, by decide +kernel, by decide +kernel, by decide +kernel⟩
set_option maxHeartbeats 1000000 in
set_option maxRecDepth 100000 in
theorem c_X7_both (l : Launch) (E : zE) (b : Nat → Nat) (tl : va_W) (pd : Bool) (qt : Nat → Option Nat) (qr : Nat → Option Nat) (tbu : Nat → Int32) (wst : Nat → Int32) (asw : Nat → Int32) (pN : Int32) (tN : Int32) (aN : Int32) (hd : Int32) (dr : Int32) (pl : Int32) (rm : Int32) (ps : Int32) (wx : Nat → Int32) (pp : Nat → Option Nat) (tp : Nat → Option Nat) (ap : Nat → Option Nat) (sg : Nat → Int32) (uh : Int32) (ud : Int32) (up : Int32) (ur : Int32) (us : Int32) (ux : Nat → Int32) (G : zG) (x y : Int32) (r : Nat → Int32) (hG : CG E.2.1 G r pN tN aN wx pp tp ap) : Met l yX7_both (.code yX7_both cX7_both 3 (some FieldType.int) :: AllW) (rm0' 2 44) (zP E (fun H => WW E (wK b E.2.1 tl pd qt qr tbu wst asw pN tN aN hd dr pl rm ps wx pp tp ap sg uh ud up ur us ux) G H) [.ref (b 0), .int x, .int y]) (rQ (.int (bothP r x y))) 0 0 nF := by
  refine z_body (own := RX7) (by decide) rfl rfl ?_
  intro p e s m args below meth c ls cx hr hlk hnm hW hl
  have hx := cx.x
  have hb := cx.b
  have hl : lv_has ls 3 [(0, .ref (b 0)), (1, .int x), (2, .int y)] := hl
  have hG0 := hG
  obtain ⟨hI, hpN, htN, haN, hPc, hTh, hAk, hwx⟩ := hG
  have hC := hI.1
  have hIS := hI.2.1
  have hP := hI.2.2.1
  have hT := hI.2.2.2.1
  have hP10 := (Inv.n0 hC).2
  have hT7 := (Inv.n1 hC).2
  have hA24 := (Inv.n2 hC).2
  have e0 := (Inv.n0 hC).1
  have e1 := (Inv.n1 hC).1
  have e2 := (Inv.n2 hC).1
  refine lv_aload_n (pc := 0) hx hb dX7_both_0 rfl (lv_at hl 0 rfl) ?_
  refine z_get (pc := 1) cx (hW.at 0 rfl) (C := RX7) (T := TX7) (N := 11) rfl i_X7 0 rfl m_fl_X7_10 rfl dX7_both_1 ?_
  refine lv_iload_n (pc := 4) hx hb dX7_both_4 rfl (lv_at hl 1 rfl) ?_
  refine k_X1_isThing (pc := 5) (x := x) cx hW (by first | assumption | omega) (by first | assumption | omega) m_ml_X7_216 ⟨Nat.le_of_ble_eq_true rfl, Nat.le_of_ble_eq_true rfl⟩ hl.1 rfl (by simp [Value.category]) dX7_both_5 ⟨Nat.le_refl _, Nat.le_refl _⟩ ?_
  refine z_ifeq (pc := 8) (tgt := 27) hx hb dX7_both_8 (by decide) (fun c_1 => ?_) (fun c_1 => ?_)
  · skip
    refine lv_iconst (pc := 27) (v := (-1)) hx hb dX7_both_27 (by decide) ?_
    exact z_iret cx hr hlk dX7_both_28 (by first | rfl | (simp [bothP, bI, c_1]; done))
  · skip
    refine lv_aload_n (pc := 11) hx hb dX7_both_11 rfl (lv_at hl 0 rfl) ?_
    refine z_get (pc := 12) cx (hW.at 0 rfl) (C := RX7) (T := TX7) (N := 11) rfl i_X7 0 rfl m_fl_X7_10 rfl dX7_both_12 ?_
    refine lv_iload_n (pc := 15) hx hb dX7_both_15 rfl (lv_at hl 2 rfl) ?_
    refine k_X1_isThing (pc := 16) (x := y) cx hW (by first | assumption | omega) (by first | assumption | omega) m_ml_X7_216 ⟨Nat.le_of_ble_eq_true rfl, Nat.le_of_ble_eq_true rfl⟩ hl.1 rfl (by simp [Value.category]) dX7_both_16 ⟨Nat.le_refl _, Nat.le_refl _⟩ ?_
    refine z_ifeq (pc := 19) (tgt := 27) hx hb dX7_both_19 (by decide) (fun c_2 => ?_) (fun c_2 => ?_)
    · skip
      refine lv_iconst (pc := 27) (v := (-1)) hx hb dX7_both_27 (by decide) ?_
      exact z_iret cx hr hlk dX7_both_28 (by first | rfl | (simp [bothP, bI, c_1, c_2]; done))
    · skip
      refine lv_iload_n (pc := 22) hx hb dX7_both_22 rfl (lv_at hl 1 rfl) ?_
      refine lv_iload_n (pc := 23) hx hb dX7_both_23 rfl (lv_at hl 2 rfl) ?_
      refine lv_icmp_ne (pc := 24) (tgt := 29) hx hb dX7_both_24 (by decide) (fun c_3 => ?_) (fun c_3 => ?_)
      · skip
        refine lv_aload_n (pc := 29) hx hb dX7_both_29 rfl (lv_at hl 0 rfl) ?_
        refine z_get (pc := 30) cx (hW.at 0 rfl) (C := RX7) (T := TX7) (N := 11) rfl i_X7 0 rfl m_fl_X7_10 rfl dX7_both_30 ?_
        refine lv_iconst (pc := 33) (v := 1) hx hb dX7_both_33 (by decide) ?_
        refine lv_iload_n (pc := 34) hx hb dX7_both_34 rfl (lv_at hl 1 rfl) ?_
        refine lv_ishl (pc := 35) hx hb dX7_both_35 ?_
        refine lv_iconst (pc := 36) (v := 1) hx hb dX7_both_36 (by decide) ?_
        refine lv_iload_n (pc := 37) hx hb dX7_both_37 rfl (lv_at hl 2 rfl) ?_
        refine lv_ishl (pc := 38) hx hb dX7_both_38 ?_
        refine lv_ior (pc := 39) hx hb dX7_both_39 ?_
        refine k_X1_isFit (pc := 40) (set := (1 <<< (x &&& 31)) ||| (1 <<< (y &&& 31))) cx hW (by first | assumption | omega) (by first | assumption | omega) (by first | assumption | omega) m_ml_X7_219 ⟨Nat.le_of_ble_eq_true rfl, Nat.le_of_ble_eq_true rfl⟩ hl.1 rfl (by simp [Value.category]) dX7_both_40 ⟨Nat.le_refl _, Nat.le_refl _⟩ ?_
        refine z_ifeq (pc := 43) (tgt := 50) hx hb dX7_both_43 (by decide) (fun c_4 => ?_) (fun c_4 => ?_)
        · skip
          refine lv_iconst (pc := 50) (v := 0) hx hb dX7_both_50 (by decide) ?_
          exact z_iret cx hr hlk dX7_both_51 (by first | rfl | (simp [bothP, bI, c_1, c_2, c_3, c_4]; done))
        · skip
          refine lv_iconst (pc := 46) (v := 1) hx hb dX7_both_46 (by decide) ?_
          refine lv_goto (pc := 47) (tgt := 51) hx hb dX7_both_47 (by decide) ?_
          exact z_iret cx hr hlk dX7_both_51 (by first | rfl | (simp [bothP, bI, c_1, c_2, c_3, c_4]; done))
      · skip
        refine lv_iconst (pc := 27) (v := (-1)) hx hb dX7_both_27 (by decide) ?_
        exact z_iret cx hr hlk dX7_both_28 (by first | rfl | (simp [bothP, bI, c_1, c_2, c_3]; done))
theorem k_X7_both {p : Program} {l : Launch} {e : Env} {R : Room} {s : State} {m : MethodId} {args : Array Value} {below : List Frame} {meth : Method} {c : Code} {H : Heap} {locs : List Loc} {cells slots : Nat} {Q : State → Prop} {cc : ByteArray} {pc index : Nat} {ls : Array Slot} {rest st0 : List Value} {E : zE} {own : String} {nL : Nat} {b : Nat → Nat} {tl : va_W} {pd : Bool} {qt : Nat → Option Nat} {qr : Nat → Option Nat} {tbu : Nat → Int32} {wst : Nat → Int32} {asw : Nat → Int32} {pN : Int32} {tN : Int32} {aN : Int32} {hd : Int32} {dr : Int32} {pl : Int32} {rm : Int32} {ps : Int32} {wx : Nat → Int32} {pp : Nat → Option Nat} {tp : Nat → Option Nat} {ap : Nat → Option Nat} {sg : Nat → Int32} {uh : Int32} {ud : Int32} {up : Int32} {ur : Int32} {us : Int32} {ux : Nat → Int32} {G : zG} {x y : Int32} {r : Nat → Int32} (cx : Cx E p s args m c own cc nL) (hW : WW E (wK b E.2.1 tl pd qt qr tbu wst asw pN tN aN hd dr pl rm ps wx pp tp ap sg uh ud up ur us ux) G H) (hG : CG E.2.1 G r pN tN aN wx pp tp ap) (zl : Cond.methodLink own index yX7_both ∈ AllW) (zR : 2 + 1 ≤ R.frames ∧ 8 + (3 + 11) + 44 ≤ R.locals) (zs : ls.size = nL) (zt : st0 = ([.int x, .int y] : List Value).reverse ++ .ref (b 0) :: rest) (z8 : (rest.map fun v => v.category).sum ≤ 8) (zd : decode cc pc = .ok (.invokevirtual index, 3)) (zf : cells ≤ R.cells ∧ slots ≤ R.slots) (kk : W p l e R s m args below meth c H locs cells slots Q (F0 m (pc + 3) ls (.int (bothP r x y) :: rest))) : W p l e R s m args below meth c H locs cells slots Q (F0 m pc ls st0) :=
  z_callV cx vm_X7_both (c_X7_both l E b tl pd qt qr tbu wst asw pN tN aN hd dr pl rm ps wx pp tp ap sg uh ud up ur us ux G x y r hG) (z_rec cx.2 (hW.at 0 rfl) rfl) hW zl ⟨rfl, rfl⟩ zR rfl zs zt z8 zd zf kk
theorem vm_X7_shift : zVm yX7_shift cX7_shift 3 (some FieldType.int) 2 := ⟨m_co_X7_shift, m_in_RX7, ⟨m_im_X7_shift, m_se_X7_X7_shift⟩, by decide +kernel, by decide +kernel, by decide +kernel⟩
set_option maxHeartbeats 1000000 in
set_option maxRecDepth 100000 in
theorem c_X7_shift (l : Launch) (E : zE) (b : Nat → Nat) (tl : va_W) (pd : Bool) (qt : Nat → Option Nat) (qr : Nat → Option Nat) (tbu : Nat → Int32) (wst : Nat → Int32) (asw : Nat → Int32) (pN : Int32) (tN : Int32) (aN : Int32) (wx : Nat → Int32) (pp : Nat → Option Nat) (tp : Nat → Option Nat) (ap : Nat → Option Nat) (sg : Nat → Int32) (uh : Int32) (ud : Int32) (up : Int32) (ur : Int32) (us : Int32) (ux : Nat → Int32) (G : zG) (x w : Int32) (r : Nat → Int32) (hG : CG E.2.1 G r pN tN aN wx pp tp ap) : Met l yX7_shift (.code yX7_shift cX7_shift 3 (some FieldType.int) :: AllW) (rm0' 4 88) (zP E (fun H => WW E (wK b E.2.1 tl pd qt qr tbu wst asw pN tN aN (hdC (r 3)) (r 4) (r 5) (r 6) (r 7) wx pp tp ap sg uh ud up ur us ux) G H) [.ref (b 0), .int x, .int w]) (rQ (.int (shiftP r x w))) 0 0 nF := by
  refine z_body (own := RX7) (by decide) rfl rfl ?_
  intro p e s m args below meth c ls cx hr hlk hnm hW hl
  have hx := cx.x
  have hb := cx.b
  have hl : lv_has ls 3 [(0, .ref (b 0)), (1, .int x), (2, .int w)] := hl
  have hG0 := hG
  obtain ⟨hI, hpN, htN, haN, hPc, hTh, hAk, hwx⟩ := hG
  have hC := hI.1
  have hIS := hI.2.1
  have hP := hI.2.2.1
  have hT := hI.2.2.2.1
  have hP10 := (Inv.n0 hC).2
  have hT7 := (Inv.n1 hC).2
  have hA24 := (Inv.n2 hC).2
  have e0 := (Inv.n0 hC).1
  have e1 := (Inv.n1 hC).1
  have e2 := (Inv.n2 hC).1
  refine lv_aload_n (pc := 0) hx hb dX7_shift_0 rfl (lv_at hl 0 rfl) ?_
  refine z_get (pc := 1) cx (hW.at 0 rfl) (C := RX7) (T := TX7) (N := 11) rfl i_X7 0 rfl m_fl_X7_10 rfl dX7_shift_1 ?_
  refine lv_iload_n (pc := 4) hx hb dX7_shift_4 rfl (lv_at hl 1 rfl) ?_
  refine k_X1_isPiece (pc := 5) (x := x) cx hW (by first | assumption | omega) (by first | assumption | omega) m_ml_X7_155 ⟨Nat.le_of_ble_eq_true rfl, Nat.le_of_ble_eq_true rfl⟩ hl.1 rfl (by simp [Value.category]) dX7_shift_5 ⟨Nat.le_refl _, Nat.le_refl _⟩ ?_
  refine z_ifeq (pc := 8) (tgt := 21) hx hb dX7_shift_8 (by decide) (fun c_1 => ?_) (fun c_1 => ?_)
  · skip
    refine lv_iconst (pc := 21) (v := (-1)) hx hb dX7_shift_21 (by decide) ?_
    exact z_iret cx hr hlk dX7_shift_22 (by first | rfl | (simp [shiftP, c_1]; done))
  · skip
    obtain ⟨n, hn, rfl⟩ := pc_nat hC c_1
    have hN := iN_nI (n := n) (by omega)
    refine lv_iload_n (pc := 11) hx hb dX7_shift_11 rfl (lv_at hl 2 rfl) ?_
    refine lv_iconst (pc := 12) (v := 0) hx hb dX7_shift_12 (by decide) ?_
    refine lv_bipush (pc := 13) (v := 20) hx hb dX7_shift_13 (by decide) ?_
    refine k_X7_isWithin (pc := 15) (x := w) (y := 0) (z := 20) cx  m_ml_X7_159 ⟨Nat.le_of_ble_eq_true rfl, Nat.le_of_ble_eq_true rfl⟩ hl.1 rfl (by simp [Value.category]) dX7_shift_15 ⟨Nat.le_refl _, Nat.le_refl _⟩ ?_
    refine z_ifne (pc := 18) (tgt := 23) hx hb dX7_shift_18 (by decide) (fun c_2 => ?_) (fun c_2 => ?_)
    · skip
      have hw2 := inL_rg c_2
      refine lv_aload_n (pc := 23) hx hb dX7_shift_23 rfl (lv_at hl 0 rfl) ?_
      refine z_get (pc := 24) cx (hW.at 0 rfl) (C := RX7) (T := TX7) (N := 11) rfl i_X7 0 rfl m_fl_X7_10 rfl dX7_shift_24 ?_
      refine z_get (pc := 27) cx (hW.at 6 rfl) (C := RX1) (T := TX1) (N := 8) rfl i_X1 3 rfl m_fl_X7_117 rfl dX7_shift_27 ?_
      refine lv_iload_n (pc := 30) hx hb dX7_shift_30 rfl (lv_at hl 1 rfl) ?_
      refine k_X5_waxOn (pc := 31) (n := n) cx ⟨hW.at 7 rfl, hW.at 8 rfl⟩ (by first | assumption | omega) m_ml_X7_120 ⟨Nat.le_of_ble_eq_true rfl, Nat.le_of_ble_eq_true rfl⟩ hl.1 rfl (by simp [Value.category]) dX7_shift_31 ⟨Nat.le_refl _, Nat.le_refl _⟩ ?_
      refine z_tope (y := g6 r n 5) (hwx n hn) ?_
      refine lv_iload_n (pc := 34) hx hb dX7_shift_34 rfl (lv_at hl 2 rfl) ?_
      refine lv_iadd (pc := 35) hx hb dX7_shift_35 ?_
      refine lv_bipush (pc := 36) (v := 20) hx hb dX7_shift_36 (by decide) ?_
      refine lv_icmp_le (pc := 38) (tgt := 44) hx hb dX7_shift_38 (by decide) (fun c_3 => ?_) (fun c_3 => ?_)
      · skip
        refine lv_aload_n (pc := 44) hx hb dX7_shift_44 rfl (lv_at hl 0 rfl) ?_
        refine z_get (pc := 45) cx (hW.at 0 rfl) (C := RX7) (T := TX7) (N := 11) rfl i_X7 0 rfl m_fl_X7_10 rfl dX7_shift_45 ?_
        refine lv_iload_n (pc := 48) hx hb dX7_shift_48 rfl (lv_at hl 1 rfl) ?_
        refine lv_iload_n (pc := 49) hx hb dX7_shift_49 rfl (lv_at hl 2 rfl) ?_
        refine k_X1_shiftBy (pc := 50) (n := n) (x := w) (r := r) cx hW hI hpN hPc hn hw2 hwx m_ml_X7_259 ⟨Nat.le_of_ble_eq_true rfl, Nat.le_of_ble_eq_true rfl⟩ hl.1 rfl (by simp [Value.category]) dX7_shift_50 ⟨Nat.le_refl _, Nat.le_refl _⟩ ?_
        exact z_iret cx hr hlk dX7_shift_53 (by first | rfl | (simp [shiftP, c_1, hN, c_2, c_3, i_nlt.mpr c_3]; done))
      · skip
        refine lv_bipush (pc := 41) (v := (-3)) hx hb dX7_shift_41 (by decide) ?_
        exact z_iret cx hr hlk dX7_shift_43 (by first | rfl | (simp [shiftP, c_1, hN, c_2, c_3, i_nle.mp c_3]; done))
    · skip
      refine lv_iconst (pc := 21) (v := (-1)) hx hb dX7_shift_21 (by decide) ?_
      exact z_iret cx hr hlk dX7_shift_22 (by first | rfl | (simp [shiftP, c_1, hN, c_2]; done))
theorem k_X7_shift {p : Program} {l : Launch} {e : Env} {R : Room} {s : State} {m : MethodId} {args : Array Value} {below : List Frame} {meth : Method} {c : Code} {H : Heap} {locs : List Loc} {cells slots : Nat} {Q : State → Prop} {cc : ByteArray} {pc index : Nat} {ls : Array Slot} {rest st0 : List Value} {E : zE} {own : String} {nL : Nat} {b : Nat → Nat} {tl : va_W} {pd : Bool} {qt : Nat → Option Nat} {qr : Nat → Option Nat} {tbu : Nat → Int32} {wst : Nat → Int32} {asw : Nat → Int32} {pN : Int32} {tN : Int32} {aN : Int32} {wx : Nat → Int32} {pp : Nat → Option Nat} {tp : Nat → Option Nat} {ap : Nat → Option Nat} {sg : Nat → Int32} {uh : Int32} {ud : Int32} {up : Int32} {ur : Int32} {us : Int32} {ux : Nat → Int32} {G : zG} {x w : Int32} {r : Nat → Int32} (cx : Cx E p s args m c own cc nL) (hW : WW E (wK b E.2.1 tl pd qt qr tbu wst asw pN tN aN (hdC (r 3)) (r 4) (r 5) (r 6) (r 7) wx pp tp ap sg uh ud up ur us ux) G H) (hG : CG E.2.1 G r pN tN aN wx pp tp ap) (zl : Cond.methodLink own index yX7_shift ∈ AllW) (zR : 4 + 1 ≤ R.frames ∧ 8 + (3 + 11) + 88 ≤ R.locals) (zs : ls.size = nL) (zt : st0 = ([.int x, .int w] : List Value).reverse ++ .ref (b 0) :: rest) (z8 : (rest.map fun v => v.category).sum ≤ 8) (zd : decode cc pc = .ok (.invokevirtual index, 3)) (zf : cells ≤ R.cells ∧ slots ≤ R.slots) (kk : W p l e R s m args below meth c H locs cells slots Q (F0 m (pc + 3) ls (.int (shiftP r x w) :: rest))) : W p l e R s m args below meth c H locs cells slots Q (F0 m pc ls st0) :=
  z_callV cx vm_X7_shift (c_X7_shift l E b tl pd qt qr tbu wst asw pN tN aN wx pp tp ap sg uh ud up ur us ux G x w r hG) (z_rec cx.2 (hW.at 0 rfl) rfl) hW zl ⟨rfl, rfl⟩ zR rfl zs zt z8 zd zf kk
theorem vm_X7_count : zVm yX7_count cX7_count 2 (some FieldType.int) 1 := ⟨m_co_X7_count, m_in_RX7, ⟨m_im_X7_count, m_se_X7_X7_count⟩, by decide +kernel, by decide +kernel, by decide +kernel⟩
set_option maxHeartbeats 1000000 in
set_option maxRecDepth 100000 in
theorem c_X7_count (l : Launch) (E : zE) (b : Nat → Nat) (tl : va_W) (pd : Bool) (qt : Nat → Option Nat) (qr : Nat → Option Nat) (tbu : Nat → Int32) (wst : Nat → Int32) (asw : Nat → Int32) (pN : Int32) (tN : Int32) (aN : Int32) (hd : Int32) (dr : Int32) (pl : Int32) (rm : Int32) (ps : Int32) (wx : Nat → Int32) (pp : Nat → Option Nat) (tp : Nat → Option Nat) (ap : Nat → Option Nat) (sg : Nat → Int32) (uh : Int32) (ud : Int32) (up : Int32) (ur : Int32) (us : Int32) (ux : Nat → Int32) (G : zG) (w : Int32) (r : Nat → Int32) (hG : CG E.2.1 G r pN tN aN wx pp tp ap) : Met l yX7_count (.code yX7_count cX7_count 2 (some FieldType.int) :: AllW) (rm0' 3 66) (zP E (fun H => WW E (wK b E.2.1 tl pd qt qr tbu wst asw pN tN aN hd dr pl rm ps wx pp tp ap sg uh ud up ur us ux) G H) [.ref (b 0), .int w]) (rQ (.int (countP r w))) 0 0 nF := by
  refine z_body (own := RX7) (by decide) rfl rfl ?_
  intro p e s m args below meth c ls cx hr hlk hnm hW hl
  have hx := cx.x
  have hb := cx.b
  have hl : lv_has ls 2 [(0, .ref (b 0)), (1, .int w)] := hl
  have hG0 := hG
  obtain ⟨hI, hpN, htN, haN, hPc, hTh, hAk, hwx⟩ := hG
  have hC := hI.1
  have hIS := hI.2.1
  have hP := hI.2.2.1
  have hT := hI.2.2.2.1
  have hP10 := (Inv.n0 hC).2
  have hT7 := (Inv.n1 hC).2
  have hA24 := (Inv.n2 hC).2
  have e0 := (Inv.n0 hC).1
  have e1 := (Inv.n1 hC).1
  have e2 := (Inv.n2 hC).1
  have hp1 : pN = r 0 := hpN.trans e0.symm
  have ht1 : tN = r 1 := htN.trans e1.symm
  have ha1 : aN = r 2 := haN.trans e2.symm
  refine lv_iload_n (pc := 0) hx hb dX7_count_0 rfl (lv_at hl 1 rfl) ?_
  by_cases c_1 : w = 0
  · subst c_1
    refine lv_tableIn (pc := 1) (tgt := 40) hx hb dX7_count_1 (by decide) (by decide) rfl (by decide) ?_
    refine lv_aload_n (pc := 40) hx hb dX7_count_40 rfl (lv_at hl 0 rfl) ?_
    refine z_get (pc := 41) cx (hW.at 0 rfl) (C := RX7) (T := TX7) (N := 11) rfl i_X7 0 rfl m_fl_X7_10 rfl dX7_count_41 ?_
    refine z_get (pc := 44) cx (hW.at 6 rfl) (C := RX1) (T := TX1) (N := 8) rfl i_X1 0 rfl m_fl_X7_262 rfl dX7_count_44 ?_
    exact z_iret cx hr hlk dX7_count_47 (by first | rfl | (simp [countP, hp1, ht1, ha1]; done))
  by_cases c_2 : w = 1
  · subst c_2
    refine lv_tableIn (pc := 1) (tgt := 48) hx hb dX7_count_1 (by decide) (by decide) rfl (by decide) ?_
    refine lv_aload_n (pc := 48) hx hb dX7_count_48 rfl (lv_at hl 0 rfl) ?_
    refine z_get (pc := 49) cx (hW.at 0 rfl) (C := RX7) (T := TX7) (N := 11) rfl i_X7 0 rfl m_fl_X7_10 rfl dX7_count_49 ?_
    refine z_get (pc := 52) cx (hW.at 6 rfl) (C := RX1) (T := TX1) (N := 8) rfl i_X1 1 rfl m_fl_X7_206 rfl dX7_count_52 ?_
    exact z_iret cx hr hlk dX7_count_55 (by first | rfl | (simp [countP, hp1, ht1, ha1, c_1]; done))
  by_cases c_3 : w = 2
  · subst c_3
    refine lv_tableIn (pc := 1) (tgt := 56) hx hb dX7_count_1 (by decide) (by decide) rfl (by decide) ?_
    refine lv_aload_n (pc := 56) hx hb dX7_count_56 rfl (lv_at hl 0 rfl) ?_
    refine z_get (pc := 57) cx (hW.at 0 rfl) (C := RX7) (T := TX7) (N := 11) rfl i_X7 0 rfl m_fl_X7_10 rfl dX7_count_57 ?_
    refine z_get (pc := 60) cx (hW.at 6 rfl) (C := RX1) (T := TX1) (N := 8) rfl i_X1 2 rfl m_fl_X7_203 rfl dX7_count_60 ?_
    exact z_iret cx hr hlk dX7_count_63 (by first | rfl | (simp [countP, hp1, ht1, ha1, c_1, c_2]; done))
  by_cases c_4 : w = 3
  · subst c_4
    refine lv_tableIn (pc := 1) (tgt := 64) hx hb dX7_count_1 (by decide) (by decide) rfl (by decide) ?_
    refine lv_aload_n (pc := 64) hx hb dX7_count_64 rfl (lv_at hl 0 rfl) ?_
    refine z_get (pc := 65) cx (hW.at 0 rfl) (C := RX7) (T := TX7) (N := 11) rfl i_X7 0 rfl m_fl_X7_10 rfl dX7_count_65 ?_
    refine k_X1_allWax (pc := 68)  cx hW (by first | assumption | omega) (by first | assumption | omega) (by first | assumption | omega) m_ml_X7_337 ⟨Nat.le_of_ble_eq_true rfl, Nat.le_of_ble_eq_true rfl⟩ hl.1 rfl (by simp [Value.category]) dX7_count_68 ⟨Nat.le_refl _, Nat.le_refl _⟩ ?_
    exact z_iret cx hr hlk dX7_count_71 (by first | rfl | (simp [countP, hp1, ht1, ha1, c_1, c_2, c_3]; done))
  by_cases c_5 : w = 4
  · subst c_5
    refine lv_tableIn (pc := 1) (tgt := 72) hx hb dX7_count_1 (by decide) (by decide) rfl (by decide) ?_
    refine lv_aload_n (pc := 72) hx hb dX7_count_72 rfl (lv_at hl 0 rfl) ?_
    refine z_get (pc := 73) cx (hW.at 0 rfl) (C := RX7) (T := TX7) (N := 11) rfl i_X7 0 rfl m_fl_X7_10 rfl dX7_count_73 ?_
    refine k_X1_asksHeard (pc := 76)  cx hW (by first | assumption | omega) (by first | assumption | omega) (by first | assumption | omega) m_ml_X7_340 ⟨Nat.le_of_ble_eq_true rfl, Nat.le_of_ble_eq_true rfl⟩ hl.1 rfl (by simp [Value.category]) dX7_count_76 ⟨Nat.le_refl _, Nat.le_refl _⟩ ?_
    exact z_iret cx hr hlk dX7_count_79 (by first | rfl | (simp [countP, hp1, ht1, ha1, c_1, c_2, c_3, c_4]; done))
  by_cases c_6 : w = 5
  · subst c_6
    refine lv_tableIn (pc := 1) (tgt := 80) hx hb dX7_count_1 (by decide) (by decide) rfl (by decide) ?_
    refine lv_aload_n (pc := 80) hx hb dX7_count_80 rfl (lv_at hl 0 rfl) ?_
    refine z_get (pc := 81) cx (hW.at 0 rfl) (C := RX7) (T := TX7) (N := 11) rfl i_X7 0 rfl m_fl_X7_10 rfl dX7_count_81 ?_
    refine lv_bipush (pc := 84) (v := 127) hx hb dX7_count_84 (by decide) ?_
    refine k_X1_chancesOf (pc := 86) (set := 127) cx hW (by first | assumption | omega) (by first | assumption | omega) (by first | assumption | omega) m_ml_X7_225 ⟨Nat.le_of_ble_eq_true rfl, Nat.le_of_ble_eq_true rfl⟩ hl.1 rfl (by simp [Value.category]) dX7_count_86 ⟨Nat.le_refl _, Nat.le_refl _⟩ ?_
    exact z_iret cx hr hlk dX7_count_89 (by first | rfl | (simp [countP, hp1, ht1, ha1, c_1, c_2, c_3, c_4, c_5]; done))
  refine lv_tableOut (pc := 1) (tgt := 90) hx hb dX7_count_1 (by have := lv_neT c_1 (a := 0) (by decide); have := lv_neT c_2 (a := 1) (by decide); have := lv_neT c_3 (a := 2) (by decide); have := lv_neT c_4 (a := 3) (by decide); have := lv_neT c_5 (a := 4) (by decide); have := lv_neT c_6 (a := 5) (by decide); omega) (by decide) ?_
  refine lv_iconst (pc := 90) (v := (-1)) hx hb dX7_count_90 (by decide) ?_
  exact z_iret cx hr hlk dX7_count_91 (by first | rfl | (simp [countP, hp1, ht1, ha1, c_1, c_2, c_3, c_4, c_5, c_6]; done))
theorem k_X7_count {p : Program} {l : Launch} {e : Env} {R : Room} {s : State} {m : MethodId} {args : Array Value} {below : List Frame} {meth : Method} {c : Code} {H : Heap} {locs : List Loc} {cells slots : Nat} {Q : State → Prop} {cc : ByteArray} {pc index : Nat} {ls : Array Slot} {rest st0 : List Value} {E : zE} {own : String} {nL : Nat} {b : Nat → Nat} {tl : va_W} {pd : Bool} {qt : Nat → Option Nat} {qr : Nat → Option Nat} {tbu : Nat → Int32} {wst : Nat → Int32} {asw : Nat → Int32} {pN : Int32} {tN : Int32} {aN : Int32} {hd : Int32} {dr : Int32} {pl : Int32} {rm : Int32} {ps : Int32} {wx : Nat → Int32} {pp : Nat → Option Nat} {tp : Nat → Option Nat} {ap : Nat → Option Nat} {sg : Nat → Int32} {uh : Int32} {ud : Int32} {up : Int32} {ur : Int32} {us : Int32} {ux : Nat → Int32} {G : zG} {w : Int32} {r : Nat → Int32} (cx : Cx E p s args m c own cc nL) (hW : WW E (wK b E.2.1 tl pd qt qr tbu wst asw pN tN aN hd dr pl rm ps wx pp tp ap sg uh ud up ur us ux) G H) (hG : CG E.2.1 G r pN tN aN wx pp tp ap) (zl : Cond.methodLink own index yX7_count ∈ AllW) (zR : 3 + 1 ≤ R.frames ∧ 8 + (2 + 11) + 66 ≤ R.locals) (zs : ls.size = nL) (zt : st0 = ([.int w] : List Value).reverse ++ .ref (b 0) :: rest) (z8 : (rest.map fun v => v.category).sum ≤ 8) (zd : decode cc pc = .ok (.invokevirtual index, 3)) (zf : cells ≤ R.cells ∧ slots ≤ R.slots) (kk : W p l e R s m args below meth c H locs cells slots Q (F0 m (pc + 3) ls (.int (countP r w) :: rest))) : W p l e R s m args below meth c H locs cells slots Q (F0 m pc ls st0) :=
  z_callV cx vm_X7_count (c_X7_count l E b tl pd qt qr tbu wst asw pN tN aN hd dr pl rm ps wx pp tp ap sg uh ud up ur us ux G w r hG) (z_rec cx.2 (hW.at 0 rfl) rfl) hW zl ⟨rfl, rfl⟩ zR rfl zs zt z8 zd zf kk
theorem vm_X7_wolf : zVm yX7_wolf cX7_wolf 2 (some FieldType.int) 1 := ⟨m_co_X7_wolf, m_in_RX7, ⟨m_im_X7_wolf, m_se_X7_X7_wolf⟩, by decide +kernel, by decide +kernel, by decide +kernel⟩
set_option maxHeartbeats 1000000 in
set_option maxRecDepth 100000 in
theorem c_X7_wolf (l : Launch) (E : zE) (b : Nat → Nat) (tl : va_W) (pd : Bool) (qt : Nat → Option Nat) (qr : Nat → Option Nat) (tbu : Nat → Int32) (wst : Nat → Int32) (asw : Nat → Int32) (pN : Int32) (tN : Int32) (aN : Int32) (wx : Nat → Int32) (pp : Nat → Option Nat) (tp : Nat → Option Nat) (ap : Nat → Option Nat) (sg : Nat → Int32) (uh : Int32) (ud : Int32) (up : Int32) (ur : Int32) (us : Int32) (ux : Nat → Int32) (G : zG) (x : Int32) (r : Nat → Int32) (hG : CG E.2.1 G r pN tN aN wx pp tp ap) : Met l yX7_wolf (.code yX7_wolf cX7_wolf 2 (some FieldType.int) :: AllW) (rm0' 6 137) (zP E (fun H => WW E (wK b E.2.1 tl pd qt qr tbu wst asw pN tN aN (hdC (r 3)) (r 4) (r 5) (r 6) (r 7) wx pp tp ap sg uh ud up ur us ux) G H) [.ref (b 0), .int x]) (rQ (.int (wolfP r x))) 0 0 nF := by
  refine z_body (own := RX7) (by decide) rfl rfl ?_
  intro p e s m args below meth c ls cx hr hlk hnm hW hl
  have hx := cx.x
  have hb := cx.b
  have hl : lv_has ls 2 [(0, .ref (b 0)), (1, .int x)] := hl
  have hG0 := hG
  obtain ⟨hI, hpN, htN, haN, hPc, hTh, hAk, hwx⟩ := hG
  have hC := hI.1
  have hIS := hI.2.1
  have hP := hI.2.2.1
  have hT := hI.2.2.2.1
  have hP10 := (Inv.n0 hC).2
  have hT7 := (Inv.n1 hC).2
  have hA24 := (Inv.n2 hC).2
  have e0 := (Inv.n0 hC).1
  have e1 := (Inv.n1 hC).1
  have e2 := (Inv.n2 hC).1
  refine lv_iload_n (pc := 0) hx hb dX7_wolf_0 rfl (lv_at hl 1 rfl) ?_
  refine lv_iconst (pc := 1) (v := (-1)) hx hb dX7_wolf_1 (by decide) ?_
  refine lv_icmp_ge (pc := 2) (tgt := 7) hx hb dX7_wolf_2 (by decide) (fun c_1 => ?_) (fun c_1 => ?_)
  · skip
    have hm1 : -1 ≤ x := c_1
    refine lv_iload_n (pc := 7) hx hb dX7_wolf_7 rfl (lv_at hl 1 rfl) ?_
    refine lv_iconst (pc := 8) (v := (-1)) hx hb dX7_wolf_8 (by decide) ?_
    refine lv_icmp_ne (pc := 9) (tgt := 29) hx hb dX7_wolf_9 (by decide) (fun c_2 => ?_) (fun c_2 => ?_)
    · skip
      have h0x := ge0_of hm1 c_2
      refine lv_aload_n (pc := 29) hx hb dX7_wolf_29 rfl (lv_at hl 0 rfl) ?_
      refine z_get (pc := 30) cx (hW.at 0 rfl) (C := RX7) (T := TX7) (N := 11) rfl i_X7 0 rfl m_fl_X7_10 rfl dX7_wolf_30 ?_
      refine lv_iload_n (pc := 33) hx hb dX7_wolf_33 rfl (lv_at hl 1 rfl) ?_
      refine lv_aload_n (pc := 34) hx hb dX7_wolf_34 rfl (lv_at hl 0 rfl) ?_
      refine z_get (pc := 35) cx (hW.at 0 rfl) (C := RX7) (T := TX7) (N := 11) rfl i_X7 0 rfl m_fl_X7_10 rfl dX7_wolf_35 ?_
      refine z_get (pc := 38) cx (hW.at 6 rfl) (C := RX1) (T := TX1) (N := 8) rfl i_X1 3 rfl m_fl_X7_117 rfl dX7_wolf_38 ?_
      refine k_X1_wolfAt (pc := 41) (x := x) (t := b 7) (w := b 8) (xw := wx) cx hW hI hpN hPc h0x (fun _ _ h => ⟨h.at 7 rfl, h.at 8 rfl, hwx⟩) m_ml_X7_302 ⟨Nat.le_of_ble_eq_true rfl, Nat.le_of_ble_eq_true rfl⟩ hl.1 rfl (by simp [Value.category]) dX7_wolf_41 ⟨Nat.le_refl _, Nat.le_refl _⟩ ?_
      exact z_iret cx hr hlk dX7_wolf_44 (by first | rfl | (simp [wolfP, c_1, c_2, i_nlt.mpr c_1]; done))
    · skip
      have hx1 : x = -1 := c_2
      refine lv_aload_n (pc := 12) hx hb dX7_wolf_12 rfl (lv_at hl 0 rfl) ?_
      refine z_get (pc := 13) cx (hW.at 0 rfl) (C := RX7) (T := TX7) (N := 11) rfl i_X7 0 rfl m_fl_X7_10 rfl dX7_wolf_13 ?_
      refine lv_aload_n (pc := 16) hx hb dX7_wolf_16 rfl (lv_at hl 0 rfl) ?_
      refine z_get (pc := 17) cx (hW.at 0 rfl) (C := RX7) (T := TX7) (N := 11) rfl i_X7 0 rfl m_fl_X7_10 rfl dX7_wolf_17 ?_
      refine z_get (pc := 20) cx (hW.at 6 rfl) (C := RX1) (T := TX1) (N := 8) rfl i_X1 3 rfl m_fl_X7_117 rfl dX7_wolf_20 ?_
      refine k_X1_wolves (pc := 23) (t := b 7) (w := b 8) (xw := wx) cx hW hI hpN hPc (fun _ _ h => ⟨h.at 7 rfl, h.at 8 rfl, hwx⟩) m_ml_X7_298 ⟨Nat.le_of_ble_eq_true rfl, Nat.le_of_ble_eq_true rfl⟩ hl.1 rfl (by simp [Value.category]) dX7_wolf_23 ⟨Nat.le_refl _, Nat.le_refl _⟩ ?_
      refine z_tope (y := wfO r (-1)) (wv_eq hI).symm ?_
      refine lv_goto (pc := 26) (tgt := 44) hx hb dX7_wolf_26 (by decide) ?_
      exact z_iret cx hr hlk dX7_wolf_44 (by first | rfl | (simp [wolfP, c_1, c_2, hx1, i_nlt.mpr c_1]; done))
  · skip
    refine lv_iconst (pc := 5) (v := (-1)) hx hb dX7_wolf_5 (by decide) ?_
    exact z_iret cx hr hlk dX7_wolf_6 (by first | rfl | (simp [wolfP, c_1, i_nle.mp c_1]; done))
theorem k_X7_wolf {p : Program} {l : Launch} {e : Env} {R : Room} {s : State} {m : MethodId} {args : Array Value} {below : List Frame} {meth : Method} {c : Code} {H : Heap} {locs : List Loc} {cells slots : Nat} {Q : State → Prop} {cc : ByteArray} {pc index : Nat} {ls : Array Slot} {rest st0 : List Value} {E : zE} {own : String} {nL : Nat} {b : Nat → Nat} {tl : va_W} {pd : Bool} {qt : Nat → Option Nat} {qr : Nat → Option Nat} {tbu : Nat → Int32} {wst : Nat → Int32} {asw : Nat → Int32} {pN : Int32} {tN : Int32} {aN : Int32} {wx : Nat → Int32} {pp : Nat → Option Nat} {tp : Nat → Option Nat} {ap : Nat → Option Nat} {sg : Nat → Int32} {uh : Int32} {ud : Int32} {up : Int32} {ur : Int32} {us : Int32} {ux : Nat → Int32} {G : zG} {x : Int32} {r : Nat → Int32} (cx : Cx E p s args m c own cc nL) (hW : WW E (wK b E.2.1 tl pd qt qr tbu wst asw pN tN aN (hdC (r 3)) (r 4) (r 5) (r 6) (r 7) wx pp tp ap sg uh ud up ur us ux) G H) (hG : CG E.2.1 G r pN tN aN wx pp tp ap) (zl : Cond.methodLink own index yX7_wolf ∈ AllW) (zR : 6 + 1 ≤ R.frames ∧ 8 + (2 + 11) + 137 ≤ R.locals) (zs : ls.size = nL) (zt : st0 = ([.int x] : List Value).reverse ++ .ref (b 0) :: rest) (z8 : (rest.map fun v => v.category).sum ≤ 8) (zd : decode cc pc = .ok (.invokevirtual index, 3)) (zf : cells ≤ R.cells ∧ slots ≤ R.slots) (kk : W p l e R s m args below meth c H locs cells slots Q (F0 m (pc + 3) ls (.int (wolfP r x) :: rest))) : W p l e R s m args below meth c H locs cells slots Q (F0 m pc ls st0) :=
  z_callV cx vm_X7_wolf (c_X7_wolf l E b tl pd qt qr tbu wst asw pN tN aN wx pp tp ap sg uh ud up ur us ux G x r hG) (z_rec cx.2 (hW.at 0 rfl) rfl) hW zl ⟨rfl, rfl⟩ zR rfl zs zt z8 zd zf kk
