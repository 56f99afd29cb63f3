theorem vm_X8_isIn : zSm yX8_isIn cX8_isIn 6 (some FieldType.boolean) 3 := ⟨m_co_X8_isIn, m_in_RX8, m_st_X8_isIn, by decide +kernel, by decide +kernel, by decide +kernel⟩
set_option maxHeartbeats 4000000 in
set_option maxRecDepth 100000 in
theorem c_X8_isIn (l : Launch) (E : zE) (x y z : Int32)  : Met l yX8_isIn (.code yX8_isIn cX8_isIn 6 (some FieldType.boolean) :: AllW) (rm0' 0 0) (zP E (fun _ => True) [.long (Int32.toInt64 x), .long (Int32.toInt64 y), .long (Int32.toInt64 z)]) (rQ (.int (bI (inL x y z)))) 0 0 nF := by
  refine z_body (own := RX8) (by decide) rfl rfl ?_
  intro p e s m args below meth c ls cx hr hlk hnm hW hl
  have hx := cx.x
  have hb := cx.b
  have hl : lv_has ls 6 [(0, .long (Int32.toInt64 x)), (2, .long (Int32.toInt64 y)), (4, .long (Int32.toInt64 z))] := hl
  refine lv_lload_n (pc := 0) hx hb dX8_isIn_0 rfl (lv_at hl 0 rfl) ?_
  refine lv_lload_n (pc := 1) hx hb dX8_isIn_1 rfl (lv_at hl 1 rfl) ?_
  refine W.lcmp (pc := 2) hx hb dX8_isIn_2 ?_
  refine lv_if_lt (pc := 3) (tgt := 17) hx hb dX8_isIn_3 (by decide) (fun c_1 => ?_) (fun c_1 => ?_)
  · skip
    have c_1 := (lgc_lt _ _).mp c_1
    refine lv_iconst (pc := 17) (v := 0) hx hb dX8_isIn_17 (by decide) ?_
    exact z_zret cx hr hlk dX8_isIn_18 (by first | rfl | (simp [inL, bI, c_1, i_nle.mpr c_1]; done))
  · skip
    have c_1 := (not_congr (lgc_lt _ _)).mp c_1
    refine lv_lload_n (pc := 6) hx hb dX8_isIn_6 rfl (lv_at hl 0 rfl) ?_
    refine lv_lload (pc := 7) hx hb dX8_isIn_7 (lv_at hl 2 rfl) ?_
    refine W.lcmp (pc := 9) hx hb dX8_isIn_9 ?_
    refine lv_if_gt (pc := 10) (tgt := 17) hx hb dX8_isIn_10 (by decide) (fun c_2 => ?_) (fun c_2 => ?_)
    · skip
      have c_2 := (lgc_gt _ _).mp c_2
      refine lv_iconst (pc := 17) (v := 0) hx hb dX8_isIn_17 (by decide) ?_
      exact z_zret cx hr hlk dX8_isIn_18 (by first | rfl | (simp [inL, bI, c_1, c_2, i_nlt.mp c_1, i_nle.mpr c_2]; done))
    · skip
      have c_2 := (not_congr (lgc_gt _ _)).mp c_2
      refine lv_iconst (pc := 13) (v := 1) hx hb dX8_isIn_13 (by decide) ?_
      refine lv_goto (pc := 14) (tgt := 18) hx hb dX8_isIn_14 (by decide) ?_
      exact z_zret cx hr hlk dX8_isIn_18 (by first | rfl | (simp [inL, bI, c_1, c_2, i_nlt.mp c_1, i_nlt.mp c_2]; done))
theorem k_X8_isIn {p : Program} {l : Launch} {e : Env} {R : Room} {s : State} {m : MethodId} {args : Array Value} {below : List Frame} {meth : Method} {c : Code} {H : Heap} {locs : List Loc} {cells slots : Nat} {Q : State → Prop} {cc : ByteArray} {pc index : Nat} {ls : Array Slot} {rest st0 : List Value} {E : zE} {own : String} {nL : Nat} {x y z : Int32} (cx : Cx E p s args m c own cc nL)  (zl : Cond.methodLink own index yX8_isIn ∈ AllW) (zR : 0 + 1 ≤ R.frames ∧ 8 + (6 + 11) + 0 ≤ R.locals) (zs : ls.size = nL) (zt : st0 = ([.long (Int32.toInt64 x), .long (Int32.toInt64 y), .long (Int32.toInt64 z)] : List Value).reverse ++ rest) (z8 : (rest.map fun v => v.category).sum ≤ 8) (zd : decode cc pc = .ok (.invokestatic index, 3)) (zf : cells ≤ R.cells ∧ slots ≤ R.slots) (kk : W p l e R s m args below meth c H locs cells slots Q (F0 m (pc + 3) ls (.int (bI (inL x y z)) :: rest))) : W p l e R s m args below meth c H locs cells slots Q (F0 m pc ls st0) :=
  z_callS cx vm_X8_isIn (c_X8_isIn l E x y z) trivial zl ⟨rfl, rfl⟩ zR rfl zs zt z8 zd zf kk
theorem vm_X8_isPiece : zVm yX8_isPiece cX8_isPiece 2 (some FieldType.boolean) 1 := ⟨m_co_X8_isPiece, m_in_RX8, ⟨m_im_X8_isPiece, m_se_X8_X8_isPiece⟩, by decide +kernel, by decide +kernel, by decide +kernel⟩
set_option maxHeartbeats 4000000 in
set_option maxRecDepth 100000 in
theorem c_X8_isPiece (l : Launch) (E : zE) (a : Nat → Nat) (sv im rd wa kp so sz el pr ts nu bu ht : Nat → Int32) (th po ba en td : Int32) (ig : Bool) (ij : Bool) (x : Int32)  : Met l yX8_isPiece (.code yX8_isPiece cX8_isPiece 2 (some FieldType.boolean) :: AllW) (rm0' 1 25) (zP E (fun H => WW E (wM a (E.2.1 0) sv im rd wa kp so sz el pr ts nu bu ht (bI ig) th po ba en td (bI ij)) gN H) [.ref (a 0), .int x]) (rQ (.int (bI (isPc sv x)))) 0 0 nF := by
  refine z_body (own := RX8) (by decide) rfl rfl ?_
  intro p e s m args below meth c ls cx hr hlk hnm hW hl
  have hx := cx.x
  have hb := cx.b
  have hl : lv_has ls 2 [(0, .ref (a 0)), (1, .int x)] := hl
  refine lv_iload_n (pc := 0) hx hb dX8_isPiece_0 rfl (lv_at hl 1 rfl) ?_
  refine lv_i2l (pc := 1) (v := Int32.toInt64 x) hx hb dX8_isPiece_1 rfl ?_
  refine lv_lconst (pc := 2) (v := 0) hx hb dX8_isPiece_2 rfl ?_
  refine lv_aload_n (pc := 3) hx hb dX8_isPiece_3 rfl (lv_at hl 0 rfl) ?_
  refine z_getM (pc := 4) cx (hW.at 0 rfl) 0 rfl m_fl_X8_9 rfl dX8_isPiece_4 ?_
  refine lv_iconst (pc := 7) (v := 0) hx hb dX8_isPiece_7 (by decide) ?_
  refine z_iald (pc := 8) (f := sv) (j := 0) cx (hW.at 1 rfl) rfl (by decide) (by decide) dX8_isPiece_8 ?_
  refine lv_iconst (pc := 9) (v := 1) hx hb dX8_isPiece_9 (by decide) ?_
  refine lv_isub (pc := 10) hx hb dX8_isPiece_10 ?_
  refine lv_i2l (pc := 11) (v := Int32.toInt64 ((sv 0) - 1)) hx hb dX8_isPiece_11 rfl ?_
  refine k_X8_isIn (pc := 12) (x := x) (y := 0) (z := ((sv 0) - 1)) cx  m_ml_X8_53 ⟨Nat.le_of_ble_eq_true rfl, Nat.le_of_ble_eq_true rfl⟩ hl.1 rfl (by simp [Value.category]) dX8_isPiece_12 ⟨Nat.le_refl _, Nat.le_refl _⟩ ?_
  exact z_zret cx hr hlk dX8_isPiece_15 (by first | rfl | (simp []; done))
theorem k_X8_isPiece {p : Program} {l : Launch} {e : Env} {R : Room} {s : State} {m : MethodId} {args : Array Value} {below : List Frame} {meth : Method} {c : Code} {H : Heap} {locs : List Loc} {cells slots : Nat} {Q : State → Prop} {cc : ByteArray} {pc index : Nat} {ls : Array Slot} {rest st0 : List Value} {E : zE} {own : String} {nL : Nat} {a : Nat → Nat} {sv im rd wa kp so sz el pr ts nu bu ht : Nat → Int32} {th po ba en td : Int32} {ig : Bool} {ij : Bool} {x : Int32} (cx : Cx E p s args m c own cc nL) (hW : WW E (wM a (E.2.1 0) sv im rd wa kp so sz el pr ts nu bu ht (bI ig) th po ba en td (bI ij)) gN H)  (zl : Cond.methodLink own index yX8_isPiece ∈ AllW) (zR : 1 + 1 ≤ R.frames ∧ 8 + (2 + 11) + 25 ≤ R.locals) (zs : ls.size = nL) (zt : st0 = ([.int x] : List Value).reverse ++ .ref (a 0) :: rest) (z8 : (rest.map fun v => v.category).sum ≤ 8) (zd : decode cc pc = .ok (.invokevirtual index, 3)) (zf : cells ≤ R.cells ∧ slots ≤ R.slots) (kk : W p l e R s m args below meth c H locs cells slots Q (F0 m (pc + 3) ls (.int (bI (isPc sv x)) :: rest))) : W p l e R s m args below meth c H locs cells slots Q (F0 m pc ls st0) :=
  z_callV cx vm_X8_isPiece (c_X8_isPiece l E a sv im rd wa kp so sz el pr ts nu bu ht th po ba en td ig ij x) (z_rec cx.2 (hW.at 0 rfl) rfl) hW zl ⟨rfl, rfl⟩ zR rfl zs zt z8 zd zf kk
theorem vm_X8_isThing : zVm yX8_isThing cX8_isThing 2 (some FieldType.boolean) 1 := ⟨m_co_X8_isThing, m_in_RX8, ⟨m_im_X8_isThing, m_se_X8_X8_isThing⟩, by decide +kernel, by decide +kernel, by decide +kernel⟩
set_option maxHeartbeats 4000000 in
set_option maxRecDepth 100000 in
theorem c_X8_isThing (l : Launch) (E : zE) (a : Nat → Nat) (sv im rd wa kp so sz el pr ts nu bu ht : Nat → Int32) (th po ba en td : Int32) (ig : Bool) (ij : Bool) (x : Int32)  : Met l yX8_isThing (.code yX8_isThing cX8_isThing 2 (some FieldType.boolean) :: AllW) (rm0' 1 25) (zP E (fun H => WW E (wM a (E.2.1 0) sv im rd wa kp so sz el pr ts nu bu ht (bI ig) th po ba en td (bI ij)) gN H) [.ref (a 0), .int x]) (rQ (.int (bI (isTh sv x)))) 0 0 nF := by
  refine z_body (own := RX8) (by decide) rfl rfl ?_
  intro p e s m args below meth c ls cx hr hlk hnm hW hl
  have hx := cx.x
  have hb := cx.b
  have hl : lv_has ls 2 [(0, .ref (a 0)), (1, .int x)] := hl
  refine lv_iload_n (pc := 0) hx hb dX8_isThing_0 rfl (lv_at hl 1 rfl) ?_
  refine lv_i2l (pc := 1) (v := Int32.toInt64 x) hx hb dX8_isThing_1 rfl ?_
  refine lv_lconst (pc := 2) (v := 0) hx hb dX8_isThing_2 rfl ?_
  refine lv_aload_n (pc := 3) hx hb dX8_isThing_3 rfl (lv_at hl 0 rfl) ?_
  refine z_getM (pc := 4) cx (hW.at 0 rfl) 0 rfl m_fl_X8_9 rfl dX8_isThing_4 ?_
  refine lv_iconst (pc := 7) (v := 1) hx hb dX8_isThing_7 (by decide) ?_
  refine z_iald (pc := 8) (f := sv) (j := 1) cx (hW.at 1 rfl) rfl (by decide) (by decide) dX8_isThing_8 ?_
  refine lv_iconst (pc := 9) (v := 1) hx hb dX8_isThing_9 (by decide) ?_
  refine lv_isub (pc := 10) hx hb dX8_isThing_10 ?_
  refine lv_i2l (pc := 11) (v := Int32.toInt64 ((sv 1) - 1)) hx hb dX8_isThing_11 rfl ?_
  refine k_X8_isIn (pc := 12) (x := x) (y := 0) (z := ((sv 1) - 1)) cx  m_ml_X8_53 ⟨Nat.le_of_ble_eq_true rfl, Nat.le_of_ble_eq_true rfl⟩ hl.1 rfl (by simp [Value.category]) dX8_isThing_12 ⟨Nat.le_refl _, Nat.le_refl _⟩ ?_
  exact z_zret cx hr hlk dX8_isThing_15 (by first | rfl | (simp []; done))
theorem k_X8_isThing {p : Program} {l : Launch} {e : Env} {R : Room} {s : State} {m : MethodId} {args : Array Value} {below : List Frame} {meth : Method} {c : Code} {H : Heap} {locs : List Loc} {cells slots : Nat} {Q : State → Prop} {cc : ByteArray} {pc index : Nat} {ls : Array Slot} {rest st0 : List Value} {E : zE} {own : String} {nL : Nat} {a : Nat → Nat} {sv im rd wa kp so sz el pr ts nu bu ht : Nat → Int32} {th po ba en td : Int32} {ig : Bool} {ij : Bool} {x : Int32} (cx : Cx E p s args m c own cc nL) (hW : WW E (wM a (E.2.1 0) sv im rd wa kp so sz el pr ts nu bu ht (bI ig) th po ba en td (bI ij)) gN H)  (zl : Cond.methodLink own index yX8_isThing ∈ AllW) (zR : 1 + 1 ≤ R.frames ∧ 8 + (2 + 11) + 25 ≤ R.locals) (zs : ls.size = nL) (zt : st0 = ([.int x] : List Value).reverse ++ .ref (a 0) :: rest) (z8 : (rest.map fun v => v.category).sum ≤ 8) (zd : decode cc pc = .ok (.invokevirtual index, 3)) (zf : cells ≤ R.cells ∧ slots ≤ R.slots) (kk : W p l e R s m args below meth c H locs cells slots Q (F0 m (pc + 3) ls (.int (bI (isTh sv x)) :: rest))) : W p l e R s m args below meth c H locs cells slots Q (F0 m pc ls st0) :=
  z_callV cx vm_X8_isThing (c_X8_isThing l E a sv im rd wa kp so sz el pr ts nu bu ht th po ba en td ig ij x) (z_rec cx.2 (hW.at 0 rfl) rfl) hW zl ⟨rfl, rfl⟩ zR rfl zs zt z8 zd zf kk
theorem vm_X8_isShelf : zSm yX8_isShelf cX8_isShelf 1 (some FieldType.boolean) 1 := ⟨m_co_X8_isShelf, m_in_RX8, m_st_X8_isShelf, by decide +kernel, by decide +kernel, by decide +kernel⟩
set_option maxHeartbeats 4000000 in
set_option maxRecDepth 100000 in
theorem c_X8_isShelf (l : Launch) (E : zE) (x : Int32)  : Met l yX8_isShelf (.code yX8_isShelf cX8_isShelf 1 (some FieldType.boolean) :: AllW) (rm0' 1 25) (zP E (fun _ => True) [.int x]) (rQ (.int (bI (inL x 0 7)))) 0 0 nF := by
  refine z_body (own := RX8) (by decide) rfl rfl ?_
  intro p e s m args below meth c ls cx hr hlk hnm hW hl
  have hx := cx.x
  have hb := cx.b
  have hl : lv_has ls 1 [(0, .int x)] := hl
  refine lv_iload_n (pc := 0) hx hb dX8_isShelf_0 rfl (lv_at hl 0 rfl) ?_
  refine lv_i2l (pc := 1) (v := Int32.toInt64 x) hx hb dX8_isShelf_1 rfl ?_
  refine lv_lconst (pc := 2) (v := 0) hx hb dX8_isShelf_2 rfl ?_
  refine lv_ldc2 (pc := 3) (v := 7) hx hb cx.own (cx.ts _ m_kl_X8_57) dX8_isShelf_3 ?_
  refine k_X8_isIn (pc := 6) (x := x) (y := 0) (z := 7) cx  m_ml_X8_53 ⟨Nat.le_of_ble_eq_true rfl, Nat.le_of_ble_eq_true rfl⟩ hl.1 rfl (by simp [Value.category]) dX8_isShelf_6 ⟨Nat.le_refl _, Nat.le_refl _⟩ ?_
  exact z_zret cx hr hlk dX8_isShelf_9 (by first | rfl | (simp []; done))
theorem k_X8_isShelf {p : Program} {l : Launch} {e : Env} {R : Room} {s : State} {m : MethodId} {args : Array Value} {below : List Frame} {meth : Method} {c : Code} {H : Heap} {locs : List Loc} {cells slots : Nat} {Q : State → Prop} {cc : ByteArray} {pc index : Nat} {ls : Array Slot} {rest st0 : List Value} {E : zE} {own : String} {nL : Nat} {x : Int32} (cx : Cx E p s args m c own cc nL)  (zl : Cond.methodLink own index yX8_isShelf ∈ AllW) (zR : 1 + 1 ≤ R.frames ∧ 8 + (1 + 11) + 25 ≤ R.locals) (zs : ls.size = nL) (zt : st0 = ([.int x] : List Value).reverse ++ rest) (z8 : (rest.map fun v => v.category).sum ≤ 8) (zd : decode cc pc = .ok (.invokestatic index, 3)) (zf : cells ≤ R.cells ∧ slots ≤ R.slots) (kk : W p l e R s m args below meth c H locs cells slots Q (F0 m (pc + 3) ls (.int (bI (inL x 0 7)) :: rest))) : W p l e R s m args below meth c H locs cells slots Q (F0 m pc ls st0) :=
  z_callS cx vm_X8_isShelf (c_X8_isShelf l E x) trivial zl ⟨rfl, rfl⟩ zR rfl zs zt z8 zd zf kk
theorem vm_X8_isTone : zSm yX8_isTone cX8_isTone 1 (some FieldType.boolean) 1 := ⟨m_co_X8_isTone, m_in_RX8, m_st_X8_isTone, by decide +kernel, by decide +kernel, by decide +kernel⟩
set_option maxHeartbeats 4000000 in
set_option maxRecDepth 100000 in
theorem c_X8_isTone (l : Launch) (E : zE) (x : Int32)  : Met l yX8_isTone (.code yX8_isTone cX8_isTone 1 (some FieldType.boolean) :: AllW) (rm0' 1 25) (zP E (fun _ => True) [.int x]) (rQ (.int (bI (inL x 1 1200)))) 0 0 nF := by
  refine z_body (own := RX8) (by decide) rfl rfl ?_
  intro p e s m args below meth c ls cx hr hlk hnm hW hl
  have hx := cx.x
  have hb := cx.b
  have hl : lv_has ls 1 [(0, .int x)] := hl
  refine lv_iload_n (pc := 0) hx hb dX8_isTone_0 rfl (lv_at hl 0 rfl) ?_
  refine lv_i2l (pc := 1) (v := Int32.toInt64 x) hx hb dX8_isTone_1 rfl ?_
  refine lv_lconst (pc := 2) (v := 1) hx hb dX8_isTone_2 rfl ?_
  refine lv_ldc2 (pc := 3) (v := 1200) hx hb cx.own (cx.ts _ m_kl_X8_59) dX8_isTone_3 ?_
  refine k_X8_isIn (pc := 6) (x := x) (y := 1) (z := 1200) cx  m_ml_X8_53 ⟨Nat.le_of_ble_eq_true rfl, Nat.le_of_ble_eq_true rfl⟩ hl.1 rfl (by simp [Value.category]) dX8_isTone_6 ⟨Nat.le_refl _, Nat.le_refl _⟩ ?_
  exact z_zret cx hr hlk dX8_isTone_9 (by first | rfl | (simp []; done))
theorem k_X8_isTone {p : Program} {l : Launch} {e : Env} {R : Room} {s : State} {m : MethodId} {args : Array Value} {below : List Frame} {meth : Method} {c : Code} {H : Heap} {locs : List Loc} {cells slots : Nat} {Q : State → Prop} {cc : ByteArray} {pc index : Nat} {ls : Array Slot} {rest st0 : List Value} {E : zE} {own : String} {nL : Nat} {x : Int32} (cx : Cx E p s args m c own cc nL)  (zl : Cond.methodLink own index yX8_isTone ∈ AllW) (zR : 1 + 1 ≤ R.frames ∧ 8 + (1 + 11) + 25 ≤ R.locals) (zs : ls.size = nL) (zt : st0 = ([.int x] : List Value).reverse ++ rest) (z8 : (rest.map fun v => v.category).sum ≤ 8) (zd : decode cc pc = .ok (.invokestatic index, 3)) (zf : cells ≤ R.cells ∧ slots ≤ R.slots) (kk : W p l e R s m args below meth c H locs cells slots Q (F0 m (pc + 3) ls (.int (bI (inL x 1 1200)) :: rest))) : W p l e R s m args below meth c H locs cells slots Q (F0 m pc ls st0) :=
  z_callS cx vm_X8_isTone (c_X8_isTone l E x) trivial zl ⟨rfl, rfl⟩ zR rfl zs zt z8 zd zf kk
theorem vm_X8_isStrong : zSm yX8_isStrong cX8_isStrong 1 (some FieldType.boolean) 1 := ⟨m_co_X8_isStrong, m_in_RX8, m_st_X8_isStrong, by decide +kernel, by decide +kernel, by decide +kernel⟩
set_option maxHeartbeats 4000000 in
set_option maxRecDepth 100000 in
theorem c_X8_isStrong (l : Launch) (E : zE) (x : Int32)  : Met l yX8_isStrong (.code yX8_isStrong cX8_isStrong 1 (some FieldType.boolean) :: AllW) (rm0' 1 25) (zP E (fun _ => True) [.int x]) (rQ (.int (bI (inL x 1 99)))) 0 0 nF := by
  refine z_body (own := RX8) (by decide) rfl rfl ?_
  intro p e s m args below meth c ls cx hr hlk hnm hW hl
  have hx := cx.x
  have hb := cx.b
  have hl : lv_has ls 1 [(0, .int x)] := hl
  refine lv_iload_n (pc := 0) hx hb dX8_isStrong_0 rfl (lv_at hl 0 rfl) ?_
  refine lv_i2l (pc := 1) (v := Int32.toInt64 x) hx hb dX8_isStrong_1 rfl ?_
  refine lv_lconst (pc := 2) (v := 1) hx hb dX8_isStrong_2 rfl ?_
  refine lv_ldc2 (pc := 3) (v := 99) hx hb cx.own (cx.ts _ m_kl_X8_61) dX8_isStrong_3 ?_
  refine k_X8_isIn (pc := 6) (x := x) (y := 1) (z := 99) cx  m_ml_X8_53 ⟨Nat.le_of_ble_eq_true rfl, Nat.le_of_ble_eq_true rfl⟩ hl.1 rfl (by simp [Value.category]) dX8_isStrong_6 ⟨Nat.le_refl _, Nat.le_refl _⟩ ?_
  exact z_zret cx hr hlk dX8_isStrong_9 (by first | rfl | (simp []; done))
theorem k_X8_isStrong {p : Program} {l : Launch} {e : Env} {R : Room} {s : State} {m : MethodId} {args : Array Value} {below : List Frame} {meth : Method} {c : Code} {H : Heap} {locs : List Loc} {cells slots : Nat} {Q : State → Prop} {cc : ByteArray} {pc index : Nat} {ls : Array Slot} {rest st0 : List Value} {E : zE} {own : String} {nL : Nat} {x : Int32} (cx : Cx E p s args m c own cc nL)  (zl : Cond.methodLink own index yX8_isStrong ∈ AllW) (zR : 1 + 1 ≤ R.frames ∧ 8 + (1 + 11) + 25 ≤ R.locals) (zs : ls.size = nL) (zt : st0 = ([.int x] : List Value).reverse ++ rest) (z8 : (rest.map fun v => v.category).sum ≤ 8) (zd : decode cc pc = .ok (.invokestatic index, 3)) (zf : cells ≤ R.cells ∧ slots ≤ R.slots) (kk : W p l e R s m args below meth c H locs cells slots Q (F0 m (pc + 3) ls (.int (bI (inL x 1 99)) :: rest))) : W p l e R s m args below meth c H locs cells slots Q (F0 m pc ls st0) :=
  z_callS cx vm_X8_isStrong (c_X8_isStrong l E x) trivial zl ⟨rfl, rfl⟩ zR rfl zs zt z8 zd zf kk
theorem vm_X8_get : zVm yX8_get cX8_get 3 (some FieldType.int) 2 := ⟨m_co_X8_get, m_in_RX8, ⟨m_im_X8_get, m_se_X8_X8_get⟩, by decide +kernel, by decide +kernel, by decide +kernel⟩
set_option maxHeartbeats 4000000 in
set_option maxRecDepth 100000 in
theorem c_X8_get (l : Launch) (E : zE) (a : Nat → Nat) (sv im rd wa kp so sz el pr ts nu bu ht : Nat → Int32) (th po ba en td : Int32) (ig : Bool) (ij : Bool) (n k : Nat) (hn : n < 10) (hk : k < 6) : Met l yX8_get (.code yX8_get cX8_get 3 (some FieldType.int) :: AllW) (rm0' 0 0) (zP E (fun H => WW E (wM a (E.2.1 0) sv im rd wa kp so sz el pr ts nu bu ht (bI ig) th po ba en td (bI ij)) gN H) [.ref (a 0), .int (nI n), .int (nI k)]) (rQ (.int (g6 sv n k))) 0 0 nF := by
  refine z_body (own := RX8) (by decide) rfl rfl ?_
  intro p e s m args below meth c ls cx hr hlk hnm hW hl
  have hx := cx.x
  have hb := cx.b
  have hl : lv_has ls 3 [(0, .ref (a 0)), (1, .int (nI n)), (2, .int (nI k))] := hl
  refine lv_aload_n (pc := 0) hx hb dX8_get_0 rfl (lv_at hl 0 rfl) ?_
  refine z_getM (pc := 1) cx (hW.at 0 rfl) 0 rfl m_fl_X8_9 rfl dX8_get_1 ?_
  refine lv_bipush (pc := 4) (v := 8) hx hb dX8_get_4 (by decide) ?_
  refine lv_bipush (pc := 6) (v := 6) hx hb dX8_get_6 (by decide) ?_
  refine lv_iload_n (pc := 8) hx hb dX8_get_8 rfl (lv_at hl 1 rfl) ?_
  refine lv_imul (pc := 9) hx hb dX8_get_9 ?_
  refine lv_iadd (pc := 10) hx hb dX8_get_10 ?_
  refine lv_iload_n (pc := 11) hx hb dX8_get_11 rfl (lv_at hl 2 rfl) ?_
  refine lv_iadd (pc := 12) hx hb dX8_get_12 ?_
  refine z_iald (pc := 13) (f := sv) (j := 8 + 6 * n + k) cx (hW.at 1 rfl) (ix6 n k) (by omega) (by decide) dX8_get_13 ?_
  exact z_iret cx hr hlk dX8_get_14 (by first | rfl | (simp []; done))
theorem k_X8_get {p : Program} {l : Launch} {e : Env} {R : Room} {s : State} {m : MethodId} {args : Array Value} {below : List Frame} {meth : Method} {c : Code} {H : Heap} {locs : List Loc} {cells slots : Nat} {Q : State → Prop} {cc : ByteArray} {pc index : Nat} {ls : Array Slot} {rest st0 : List Value} {E : zE} {own : String} {nL : Nat} {a : Nat → Nat} {sv im rd wa kp so sz el pr ts nu bu ht : Nat → Int32} {th po ba en td : Int32} {ig : Bool} {ij : Bool} {n k : Nat} (cx : Cx E p s args m c own cc nL) (hW : WW E (wM a (E.2.1 0) sv im rd wa kp so sz el pr ts nu bu ht (bI ig) th po ba en td (bI ij)) gN H) (hn : n < 10) (hk : k < 6) (zl : Cond.methodLink own index yX8_get ∈ AllW) (zR : 0 + 1 ≤ R.frames ∧ 8 + (3 + 11) + 0 ≤ R.locals) (zs : ls.size = nL) (zt : st0 = ([.int (nI n), .int (nI k)] : List Value).reverse ++ .ref (a 0) :: rest) (z8 : (rest.map fun v => v.category).sum ≤ 8) (zd : decode cc pc = .ok (.invokevirtual index, 3)) (zf : cells ≤ R.cells ∧ slots ≤ R.slots) (kk : W p l e R s m args below meth c H locs cells slots Q (F0 m (pc + 3) ls (.int (g6 sv n k) :: rest))) : W p l e R s m args below meth c H locs cells slots Q (F0 m pc ls st0) :=
  z_callV cx vm_X8_get (c_X8_get l E a sv im rd wa kp so sz el pr ts nu bu ht th po ba en td ig ij n k hn hk) (z_rec cx.2 (hW.at 0 rfl) rfl) hW zl ⟨rfl, rfl⟩ zR rfl zs zt z8 zd zf kk
theorem vm_X8_of : zVm yX8_of cX8_of 3 (some FieldType.int) 2 := ⟨m_co_X8_of, m_in_RX8, ⟨m_im_X8_of, m_se_X8_X8_of⟩, by decide +kernel, by decide +kernel, by decide +kernel⟩
set_option maxHeartbeats 4000000 in
set_option maxRecDepth 100000 in
theorem c_X8_of (l : Launch) (E : zE) (a : Nat → Nat) (sv im rd wa kp so sz el pr ts nu bu ht : Nat → Int32) (th po ba en td : Int32) (ig : Bool) (ij : Bool) (n k : Nat) (hn : n < 7) (hk : k < 5) : Met l yX8_of (.code yX8_of cX8_of 3 (some FieldType.int) :: AllW) (rm0' 0 0) (zP E (fun H => WW E (wM a (E.2.1 0) sv im rd wa kp so sz el pr ts nu bu ht (bI ig) th po ba en td (bI ij)) gN H) [.ref (a 0), .int (nI n), .int (nI k)]) (rQ (.int (g5 sv n k))) 0 0 nF := by
  refine z_body (own := RX8) (by decide) rfl rfl ?_
  intro p e s m args below meth c ls cx hr hlk hnm hW hl
  have hx := cx.x
  have hb := cx.b
  have hl : lv_has ls 3 [(0, .ref (a 0)), (1, .int (nI n)), (2, .int (nI k))] := hl
  refine lv_aload_n (pc := 0) hx hb dX8_of_0 rfl (lv_at hl 0 rfl) ?_
  refine z_getM (pc := 1) cx (hW.at 0 rfl) 0 rfl m_fl_X8_9 rfl dX8_of_1 ?_
  refine lv_bipush (pc := 4) (v := 68) hx hb dX8_of_4 (by decide) ?_
  refine lv_iconst (pc := 6) (v := 5) hx hb dX8_of_6 (by decide) ?_
  refine lv_iload_n (pc := 7) hx hb dX8_of_7 rfl (lv_at hl 1 rfl) ?_
  refine lv_imul (pc := 8) hx hb dX8_of_8 ?_
  refine lv_iadd (pc := 9) hx hb dX8_of_9 ?_
  refine lv_iload_n (pc := 10) hx hb dX8_of_10 rfl (lv_at hl 2 rfl) ?_
  refine lv_iadd (pc := 11) hx hb dX8_of_11 ?_
  refine z_iald (pc := 12) (f := sv) (j := 68 + 5 * n + k) cx (hW.at 1 rfl) (by simp only [nI, Int32.ofNat_add, Int32.ofNat_mul] <;> rfl) (by omega) (by decide) dX8_of_12 ?_
  exact z_iret cx hr hlk dX8_of_13 (by first | rfl | (simp []; done))
theorem k_X8_of {p : Program} {l : Launch} {e : Env} {R : Room} {s : State} {m : MethodId} {args : Array Value} {below : List Frame} {meth : Method} {c : Code} {H : Heap} {locs : List Loc} {cells slots : Nat} {Q : State → Prop} {cc : ByteArray} {pc index : Nat} {ls : Array Slot} {rest st0 : List Value} {E : zE} {own : String} {nL : Nat} {a : Nat → Nat} {sv im rd wa kp so sz el pr ts nu bu ht : Nat → Int32} {th po ba en td : Int32} {ig : Bool} {ij : Bool} {n k : Nat} (cx : Cx E p s args m c own cc nL) (hW : WW E (wM a (E.2.1 0) sv im rd wa kp so sz el pr ts nu bu ht (bI ig) th po ba en td (bI ij)) gN H) (hn : n < 7) (hk : k < 5) (zl : Cond.methodLink own index yX8_of ∈ AllW) (zR : 0 + 1 ≤ R.frames ∧ 8 + (3 + 11) + 0 ≤ R.locals) (zs : ls.size = nL) (zt : st0 = ([.int (nI n), .int (nI k)] : List Value).reverse ++ .ref (a 0) :: rest) (z8 : (rest.map fun v => v.category).sum ≤ 8) (zd : decode cc pc = .ok (.invokevirtual index, 3)) (zf : cells ≤ R.cells ∧ slots ≤ R.slots) (kk : W p l e R s m args below meth c H locs cells slots Q (F0 m (pc + 3) ls (.int (g5 sv n k) :: rest))) : W p l e R s m args below meth c H locs cells slots Q (F0 m pc ls st0) :=
  z_callV cx vm_X8_of (c_X8_of l E a sv im rd wa kp so sz el pr ts nu bu ht th po ba en td ig ij n k hn hk) (z_rec cx.2 (hW.at 0 rfl) rfl) hW zl ⟨rfl, rfl⟩ zR rfl zs zt z8 zd zf kk
theorem vm_X8_amount : zSm yX8_amount cX8_amount 1 (some FieldType.int) 1 := ⟨m_co_X8_amount, m_in_RX8, m_st_X8_amount, by decide +kernel, by decide +kernel, by decide +kernel⟩
set_option maxHeartbeats 4000000 in
set_option maxRecDepth 100000 in
theorem c_X8_amount (l : Launch) (E : zE) (x : Int32)  : Met l yX8_amount (.code yX8_amount cX8_amount 1 (some FieldType.int) :: AllW) (rm0' 0 0) (zP E (fun _ => True) [.int x]) (rQ (.int (amt x))) 0 0 nF := by
  refine z_body (own := RX8) (by decide) rfl rfl ?_
  intro p e s m args below meth c ls cx hr hlk hnm hW hl
  have hx := cx.x
  have hb := cx.b
  have hl : lv_has ls 1 [(0, .int x)] := hl
  refine lv_iload_n (pc := 0) hx hb dX8_amount_0 rfl (lv_at hl 0 rfl) ?_
  refine lv_if_ge (pc := 1) (tgt := 9) hx hb dX8_amount_1 (by decide) (fun c_1 => ?_) (fun c_1 => ?_)
  · skip
    refine lv_iload_n (pc := 9) hx hb dX8_amount_9 rfl (lv_at hl 0 rfl) ?_
    exact z_iret cx hr hlk dX8_amount_10 (by first | rfl | (simp [amt, c_1, i_nlt.mpr c_1]; done))
  · skip
    refine lv_iload_n (pc := 4) hx hb dX8_amount_4 rfl (lv_at hl 0 rfl) ?_
    refine lv_ineg (pc := 5) hx hb dX8_amount_5 ?_
    refine lv_goto (pc := 6) (tgt := 10) hx hb dX8_amount_6 (by decide) ?_
    exact z_iret cx hr hlk dX8_amount_10 (by first | rfl | (simp [amt, c_1, i_nle.mp c_1]; done))
theorem k_X8_amount {p : Program} {l : Launch} {e : Env} {R : Room} {s : State} {m : MethodId} {args : Array Value} {below : List Frame} {meth : Method} {c : Code} {H : Heap} {locs : List Loc} {cells slots : Nat} {Q : State → Prop} {cc : ByteArray} {pc index : Nat} {ls : Array Slot} {rest st0 : List Value} {E : zE} {own : String} {nL : Nat} {x : Int32} (cx : Cx E p s args m c own cc nL)  (zl : Cond.methodLink own index yX8_amount ∈ AllW) (zR : 0 + 1 ≤ R.frames ∧ 8 + (1 + 11) + 0 ≤ R.locals) (zs : ls.size = nL) (zt : st0 = ([.int x] : List Value).reverse ++ rest) (z8 : (rest.map fun v => v.category).sum ≤ 8) (zd : decode cc pc = .ok (.invokestatic index, 3)) (zf : cells ≤ R.cells ∧ slots ≤ R.slots) (kk : W p l e R s m args below meth c H locs cells slots Q (F0 m (pc + 3) ls (.int (amt x) :: rest))) : W p l e R s m args below meth c H locs cells slots Q (F0 m pc ls st0) :=
  z_callS cx vm_X8_amount (c_X8_amount l E x) trivial zl ⟨rfl, rfl⟩ zR rfl zs zt z8 zd zf kk
theorem vm_X8_held : zSm yX8_held cX8_held 3 (some FieldType.int) 3 := ⟨m_co_X8_held, m_in_RX8, m_st_X8_held, by decide +kernel, by decide +kernel, by decide +kernel⟩
set_option maxHeartbeats 4000000 in
set_option maxRecDepth 100000 in
theorem c_X8_held (l : Launch) (E : zE) (x y z : Int32)  : Met l yX8_held (.code yX8_held cX8_held 3 (some FieldType.int) :: AllW) (rm0' 0 0) (zP E (fun _ => True) [.int x, .int y, .int z]) (rQ (.int (hld x y z))) 0 0 nF := by
  refine z_body (own := RX8) (by decide) rfl rfl ?_
  intro p e s m args below meth c ls cx hr hlk hnm hW hl
  have hx := cx.x
  have hb := cx.b
  have hl : lv_has ls 3 [(0, .int x), (1, .int y), (2, .int z)] := hl
  refine lv_iload_n (pc := 0) hx hb dX8_held_0 rfl (lv_at hl 0 rfl) ?_
  refine lv_iload_n (pc := 1) hx hb dX8_held_1 rfl (lv_at hl 1 rfl) ?_
  refine lv_icmp_ge (pc := 2) (tgt := 9) hx hb dX8_held_2 (by decide) (fun c_1 => ?_) (fun c_1 => ?_)
  · skip
    refine lv_iload_n (pc := 9) hx hb dX8_held_9 rfl (lv_at hl 0 rfl) ?_
    refine lv_iload_n (pc := 10) hx hb dX8_held_10 rfl (lv_at hl 2 rfl) ?_
    refine lv_icmp_le (pc := 11) (tgt := 18) hx hb dX8_held_11 (by decide) (fun c_2 => ?_) (fun c_2 => ?_)
    · skip
      refine lv_iload_n (pc := 18) hx hb dX8_held_18 rfl (lv_at hl 0 rfl) ?_
      exact z_iret cx hr hlk dX8_held_19 (by first | rfl | (simp [hld, c_1, c_2, i_nlt.mpr c_1, i_nlt.mpr c_2]; done))
    · skip
      refine lv_iload_n (pc := 14) hx hb dX8_held_14 rfl (lv_at hl 2 rfl) ?_
      refine lv_goto (pc := 15) (tgt := 19) hx hb dX8_held_15 (by decide) ?_
      exact z_iret cx hr hlk dX8_held_19 (by first | rfl | (simp [hld, c_1, c_2, i_nlt.mpr c_1, i_nle.mp c_2]; done))
  · skip
    refine lv_iload_n (pc := 5) hx hb dX8_held_5 rfl (lv_at hl 1 rfl) ?_
    refine lv_goto (pc := 6) (tgt := 19) hx hb dX8_held_6 (by decide) ?_
    exact z_iret cx hr hlk dX8_held_19 (by first | rfl | (simp [hld, c_1, i_nle.mp c_1]; done))
theorem k_X8_held {p : Program} {l : Launch} {e : Env} {R : Room} {s : State} {m : MethodId} {args : Array Value} {below : List Frame} {meth : Method} {c : Code} {H : Heap} {locs : List Loc} {cells slots : Nat} {Q : State → Prop} {cc : ByteArray} {pc index : Nat} {ls : Array Slot} {rest st0 : List Value} {E : zE} {own : String} {nL : Nat} {x y z : Int32} (cx : Cx E p s args m c own cc nL)  (zl : Cond.methodLink own index yX8_held ∈ AllW) (zR : 0 + 1 ≤ R.frames ∧ 8 + (3 + 11) + 0 ≤ R.locals) (zs : ls.size = nL) (zt : st0 = ([.int x, .int y, .int z] : List Value).reverse ++ rest) (z8 : (rest.map fun v => v.category).sum ≤ 8) (zd : decode cc pc = .ok (.invokestatic index, 3)) (zf : cells ≤ R.cells ∧ slots ≤ R.slots) (kk : W p l e R s m args below meth c H locs cells slots Q (F0 m (pc + 3) ls (.int (hld x y z) :: rest))) : W p l e R s m args below meth c H locs cells slots Q (F0 m pc ls st0) :=
  z_callS cx vm_X8_held (c_X8_held l E x y z) trivial zl ⟨rfl, rfl⟩ zR rfl zs zt z8 zd zf kk
