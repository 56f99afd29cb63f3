theorem vm_X8_toneWith : zVm yX8_toneWith cX8_toneWith 4 (some FieldType.int) 2 := ⟨m_co_X8_toneWith, m_in_RX8, ⟨m_im_X8_toneWith, m_se_X8_X8_toneWith⟩, by decide +kernel, by decide +kernel, by decide +kernel⟩
set_option maxHeartbeats 4000000 in
set_option maxRecDepth 100000 in
theorem c_X8_toneWith (l : Launch) (E : zE) (a : Nat → Nat) (sv im rd wa kp so sz el pr ts nu bu ht : Nat → Int32) (th po ba en td : Int32) (ig : Bool) (ij : Bool) (n : Nat) (w : Int32) (hI : Inv sv) (hn : n < nP sv) (hw : rg w 0 40) : Met l yX8_toneWith (.code yX8_toneWith cX8_toneWith 4 (some FieldType.int) :: AllW) (rm0' 1 22) (zP E (fun H => WW E (wM a (E.2.1 0) sv im rd wa kp so sz el pr ts nu bu ht (bI ig) th po ba en td (bI ij)) gN H) [.ref (a 0), .int (nI n), .int w]) (rQ (.int (tnW sv n w))) 0 0 nF := by
  refine z_body (own := RX8) (by decide) rfl rfl ?_
  intro p e s m args below meth c ls cx hr hlk hnm hW hl
  have hx := cx.x
  have hb := cx.b
  have hl : lv_has ls 4 [(0, .ref (a 0)), (1, .int (nI n)), (2, .int w)] := hl
  have hC := hI.1
  have hP10 := (Inv.n0 hC).2
  have hT7 := (Inv.n1 hC).2
  have hA24 := (Inv.n2 hC).2
  refine lv_aload_n (pc := 0) hx hb dX8_toneWith_0 rfl (lv_at hl 0 rfl) ?_
  refine lv_iload_n (pc := 1) hx hb dX8_toneWith_1 rfl (lv_at hl 1 rfl) ?_
  refine lv_iconst (pc := 2) (v := 0) hx hb dX8_toneWith_2 (by decide) ?_
  refine k_X8_get (pc := 3) (n := n) (k := 0) cx hW (by first | assumption | omega) (by first | assumption | omega) m_ml_X8_124 ⟨Nat.le_of_ble_eq_true rfl, Nat.le_of_ble_eq_true rfl⟩ hl.1 rfl (by simp [Value.category]) dX8_toneWith_3 ⟨Nat.le_refl _, Nat.le_refl _⟩ ?_
  refine lv_istore_n (pc := 6) (lv' := [(3, .int (g6 sv n 0)), (0, .ref (a 0)), (1, .int (nI n)), (2, .int w)]) hx hb dX8_toneWith_6 rfl hl (by decide) rfl (fun ls hl => ?_)
  refine lv_iload_n (pc := 7) hx hb dX8_toneWith_7 rfl (lv_at hl 0 rfl) ?_
  refine lv_iload_n (pc := 8) hx hb dX8_toneWith_8 rfl (lv_at hl 0 rfl) ?_
  refine lv_iload_n (pc := 9) hx hb dX8_toneWith_9 rfl (lv_at hl 3 rfl) ?_
  refine lv_imul (pc := 10) hx hb dX8_toneWith_10 ?_
  refine lv_iconst (pc := 11) (v := 2) hx hb dX8_toneWith_11 (by decide) ?_
  refine lv_aload_n (pc := 12) hx hb dX8_toneWith_12 rfl (lv_at hl 1 rfl) ?_
  refine lv_iload_n (pc := 13) hx hb dX8_toneWith_13 rfl (lv_at hl 2 rfl) ?_
  refine lv_iconst (pc := 14) (v := 2) hx hb dX8_toneWith_14 (by decide) ?_
  refine k_X8_get (pc := 15) (n := n) (k := 2) cx hW (by first | assumption | omega) (by first | assumption | omega) m_ml_X8_124 ⟨Nat.le_of_ble_eq_true rfl, Nat.le_of_ble_eq_true rfl⟩ hl.1 rfl (by simp [Value.category]) dX8_toneWith_15 ⟨Nat.le_refl _, Nat.le_refl _⟩ ?_
  refine lv_imul (pc := 18) hx hb dX8_toneWith_18 ?_
  refine lv_iload_n (pc := 19) hx hb dX8_toneWith_19 rfl (lv_at hl 3 rfl) ?_
  refine lv_iadd (pc := 20) hx hb dX8_toneWith_20 ?_
  refine lv_idiv (pc := 21) hx hb dX8_toneWith_21 (tn_nz hI.2.2.1 hn hw) ?_
  refine lv_isub (pc := 22) hx hb dX8_toneWith_22 ?_
  exact z_iret cx hr hlk dX8_toneWith_23 (by first | rfl | (simp []; done))
theorem k_X8_toneWith {p : Program} {l : Launch} {e : Env} {R : Room} {s : State} {m : MethodId} {args : Array Value} {below : List Frame} {meth : Method} {c : Code} {H : Heap} {locs : List Loc} {cells slots : Nat} {Q : State → Prop} {cc : ByteArray} {pc index : Nat} {ls : Array Slot} {rest st0 : List Value} {E : zE} {own : String} {nL : Nat} {a : Nat → Nat} {sv im rd wa kp so sz el pr ts nu bu ht : Nat → Int32} {th po ba en td : Int32} {ig : Bool} {ij : Bool} {n : Nat} {w : Int32} (cx : Cx E p s args m c own cc nL) (hW : WW E (wM a (E.2.1 0) sv im rd wa kp so sz el pr ts nu bu ht (bI ig) th po ba en td (bI ij)) gN H) (hI : Inv sv) (hn : n < nP sv) (hw : rg w 0 40) (zl : Cond.methodLink own index yX8_toneWith ∈ AllW) (zR : 1 + 1 ≤ R.frames ∧ 8 + (4 + 11) + 22 ≤ R.locals) (zs : ls.size = nL) (zt : st0 = ([.int (nI n), .int w] : List Value).reverse ++ .ref (a 0) :: rest) (z8 : (rest.map fun v => v.category).sum ≤ 8) (zd : decode cc pc = .ok (.invokevirtual index, 3)) (zf : cells ≤ R.cells ∧ slots ≤ R.slots) (kk : W p l e R s m args below meth c H locs cells slots Q (F0 m (pc + 3) ls (.int (tnW sv n w) :: rest))) : W p l e R s m args below meth c H locs cells slots Q (F0 m pc ls st0) :=
  z_callV cx vm_X8_toneWith (c_X8_toneWith l E a sv im rd wa kp so sz el pr ts nu bu ht th po ba en td ig ij n w hI hn hw) (z_rec cx.2 (hW.at 0 rfl) rfl) hW zl ⟨rfl, rfl⟩ zR rfl zs zt z8 zd zf kk
theorem vm_X8_toneNow : zVm yX8_toneNow cX8_toneNow 2 (some FieldType.int) 1 := ⟨m_co_X8_toneNow, m_in_RX8, ⟨m_im_X8_toneNow, m_se_X8_X8_toneNow⟩, by decide +kernel, by decide +kernel, by decide +kernel⟩
set_option maxHeartbeats 4000000 in
set_option maxRecDepth 100000 in
theorem c_X8_toneNow (l : Launch) (E : zE) (a : Nat → Nat) (sv im rd wa kp so sz el pr ts nu bu ht : Nat → Int32) (th po ba en td : Int32) (ig : Bool) (ij : Bool) (n : Nat) (hI : Inv sv) (hn : n < nP sv) : Met l yX8_toneNow (.code yX8_toneNow cX8_toneNow 2 (some FieldType.int) :: AllW) (rm0' 2 45) (zP E (fun H => WW E (wM a (E.2.1 0) sv im rd wa kp so sz el pr ts nu bu ht (bI ig) th po ba en td (bI ij)) gN H) [.ref (a 0), .int (nI n)]) (rQ (.int (tnN sv n))) 0 0 nF := by
  refine z_body (own := RX8) (by decide) rfl rfl ?_
  intro p e s m args below meth c ls cx hr hlk hnm hW hl
  have hx := cx.x
  have hb := cx.b
  have hl : lv_has ls 2 [(0, .ref (a 0)), (1, .int (nI n))] := hl
  have hC := hI.1
  have hP10 := (Inv.n0 hC).2
  have hT7 := (Inv.n1 hC).2
  have hA24 := (Inv.n2 hC).2
  refine lv_aload_n (pc := 0) hx hb dX8_toneNow_0 rfl (lv_at hl 0 rfl) ?_
  refine lv_iload_n (pc := 1) hx hb dX8_toneNow_1 rfl (lv_at hl 1 rfl) ?_
  refine lv_aload_n (pc := 2) hx hb dX8_toneNow_2 rfl (lv_at hl 0 rfl) ?_
  refine lv_iload_n (pc := 3) hx hb dX8_toneNow_3 rfl (lv_at hl 1 rfl) ?_
  refine lv_iconst (pc := 4) (v := 5) hx hb dX8_toneNow_4 (by decide) ?_
  refine k_X8_get (pc := 5) (n := n) (k := 5) cx hW (by first | assumption | omega) (by first | assumption | omega) m_ml_X8_124 ⟨Nat.le_of_ble_eq_true rfl, Nat.le_of_ble_eq_true rfl⟩ hl.1 rfl (by simp [Value.category]) dX8_toneNow_5 ⟨Nat.le_refl _, Nat.le_refl _⟩ ?_
  refine k_X8_toneWith (pc := 8) (n := n) (w := g6 sv n 5) cx hW hI hn (wax_rg hI.2.1 (by omega)) m_ml_X8_127 ⟨Nat.le_of_ble_eq_true rfl, Nat.le_of_ble_eq_true rfl⟩ hl.1 rfl (by simp [Value.category]) dX8_toneNow_8 ⟨Nat.le_refl _, Nat.le_refl _⟩ ?_
  exact z_iret cx hr hlk dX8_toneNow_11 (by first | rfl | (simp []; done))
theorem k_X8_toneNow {p : Program} {l : Launch} {e : Env} {R : Room} {s : State} {m : MethodId} {args : Array Value} {below : List Frame} {meth : Method} {c : Code} {H : Heap} {locs : List Loc} {cells slots : Nat} {Q : State → Prop} {cc : ByteArray} {pc index : Nat} {ls : Array Slot} {rest st0 : List Value} {E : zE} {own : String} {nL : Nat} {a : Nat → Nat} {sv im rd wa kp so sz el pr ts nu bu ht : Nat → Int32} {th po ba en td : Int32} {ig : Bool} {ij : Bool} {n : Nat} (cx : Cx E p s args m c own cc nL) (hW : WW E (wM a (E.2.1 0) sv im rd wa kp so sz el pr ts nu bu ht (bI ig) th po ba en td (bI ij)) gN H) (hI : Inv sv) (hn : n < nP sv) (zl : Cond.methodLink own index yX8_toneNow ∈ AllW) (zR : 2 + 1 ≤ R.frames ∧ 8 + (2 + 11) + 45 ≤ R.locals) (zs : ls.size = nL) (zt : st0 = ([.int (nI n)] : List Value).reverse ++ .ref (a 0) :: rest) (z8 : (rest.map fun v => v.category).sum ≤ 8) (zd : decode cc pc = .ok (.invokevirtual index, 3)) (zf : cells ≤ R.cells ∧ slots ≤ R.slots) (kk : W p l e R s m args below meth c H locs cells slots Q (F0 m (pc + 3) ls (.int (tnN sv n) :: rest))) : W p l e R s m args below meth c H locs cells slots Q (F0 m pc ls st0) :=
  z_callV cx vm_X8_toneNow (c_X8_toneNow l E a sv im rd wa kp so sz el pr ts nu bu ht th po ba en td ig ij n hI hn) (z_rec cx.2 (hW.at 0 rfl) rfl) hW zl ⟨rfl, rfl⟩ zR rfl zs zt z8 zd zf kk
theorem vm_X8_lossNow : zVm yX8_lossNow cX8_lossNow 2 (some FieldType.int) 1 := ⟨m_co_X8_lossNow, m_in_RX8, ⟨m_im_X8_lossNow, m_se_X8_X8_lossNow⟩, by decide +kernel, by decide +kernel, by decide +kernel⟩
set_option maxHeartbeats 4000000 in
set_option maxRecDepth 100000 in
theorem c_X8_lossNow (l : Launch) (E : zE) (a : Nat → Nat) (sv im rd wa kp so sz el pr ts nu bu ht : Nat → Int32) (th po ba en td : Int32) (ig : Bool) (ij : Bool) (n : Nat) (hI : Inv sv) (hn : n < nP sv) : Met l yX8_lossNow (.code yX8_lossNow cX8_lossNow 2 (some FieldType.int) :: AllW) (rm0' 1 22) (zP E (fun H => WW E (wM a (E.2.1 0) sv im rd wa kp so sz el pr ts nu bu ht (bI ig) th po ba en td (bI ij)) gN H) [.ref (a 0), .int (nI n)]) (rQ (.int (lsN sv n))) 0 0 nF := by
  refine z_body (own := RX8) (by decide) rfl rfl ?_
  intro p e s m args below meth c ls cx hr hlk hnm hW hl
  have hx := cx.x
  have hb := cx.b
  have hl : lv_has ls 2 [(0, .ref (a 0)), (1, .int (nI n))] := hl
  have hC := hI.1
  have hP10 := (Inv.n0 hC).2
  have hT7 := (Inv.n1 hC).2
  have hA24 := (Inv.n2 hC).2
  refine lv_aload_n (pc := 0) hx hb dX8_lossNow_0 rfl (lv_at hl 0 rfl) ?_
  refine z_getM (pc := 1) cx (hW.at 0 rfl) 0 rfl m_fl_X8_9 rfl dX8_lossNow_1 ?_
  refine lv_iconst (pc := 4) (v := 3) hx hb dX8_lossNow_4 (by decide) ?_
  refine z_iald (pc := 5) (f := sv) (j := 3) cx (hW.at 1 rfl) rfl (by decide) (by decide) dX8_lossNow_5 ?_
  refine lv_iload_n (pc := 6) hx hb dX8_lossNow_6 rfl (lv_at hl 1 rfl) ?_
  refine lv_icmp_ne (pc := 7) (tgt := 21) hx hb dX8_lossNow_7 (by decide) (fun c_1 => ?_) (fun c_1 => ?_)
  · skip
    refine lv_aload_n (pc := 21) hx hb dX8_lossNow_21 rfl (lv_at hl 0 rfl) ?_
    refine lv_iload_n (pc := 22) hx hb dX8_lossNow_22 rfl (lv_at hl 1 rfl) ?_
    refine lv_iconst (pc := 23) (v := 1) hx hb dX8_lossNow_23 (by decide) ?_
    refine k_X8_get (pc := 24) (n := n) (k := 1) cx hW (by first | assumption | omega) (by first | assumption | omega) m_ml_X8_124 ⟨Nat.le_of_ble_eq_true rfl, Nat.le_of_ble_eq_true rfl⟩ hl.1 rfl (by simp [Value.category]) dX8_lossNow_24 ⟨Nat.le_refl _, Nat.le_refl _⟩ ?_
    exact z_iret cx hr hlk dX8_lossNow_27 (by first | rfl | (simp [lsN, c_1]; done))
  · skip
    refine lv_iconst (pc := 10) (v := 2) hx hb dX8_lossNow_10 (by decide) ?_
    refine lv_aload_n (pc := 11) hx hb dX8_lossNow_11 rfl (lv_at hl 0 rfl) ?_
    refine lv_iload_n (pc := 12) hx hb dX8_lossNow_12 rfl (lv_at hl 1 rfl) ?_
    refine lv_iconst (pc := 13) (v := 1) hx hb dX8_lossNow_13 (by decide) ?_
    refine k_X8_get (pc := 14) (n := n) (k := 1) cx hW (by first | assumption | omega) (by first | assumption | omega) m_ml_X8_124 ⟨Nat.le_of_ble_eq_true rfl, Nat.le_of_ble_eq_true rfl⟩ hl.1 rfl (by simp [Value.category]) dX8_lossNow_14 ⟨Nat.le_refl _, Nat.le_refl _⟩ ?_
    refine lv_imul (pc := 17) hx hb dX8_lossNow_17 ?_
    refine lv_goto (pc := 18) (tgt := 27) hx hb dX8_lossNow_18 (by decide) ?_
    exact z_iret cx hr hlk dX8_lossNow_27 (by first | rfl | (simp [lsN, c_1]; done))
theorem k_X8_lossNow {p : Program} {l : Launch} {e : Env} {R : Room} {s : State} {m : MethodId} {args : Array Value} {below : List Frame} {meth : Method} {c : Code} {H : Heap} {locs : List Loc} {cells slots : Nat} {Q : State → Prop} {cc : ByteArray} {pc index : Nat} {ls : Array Slot} {rest st0 : List Value} {E : zE} {own : String} {nL : Nat} {a : Nat → Nat} {sv im rd wa kp so sz el pr ts nu bu ht : Nat → Int32} {th po ba en td : Int32} {ig : Bool} {ij : Bool} {n : Nat} (cx : Cx E p s args m c own cc nL) (hW : WW E (wM a (E.2.1 0) sv im rd wa kp so sz el pr ts nu bu ht (bI ig) th po ba en td (bI ij)) gN H) (hI : Inv sv) (hn : n < nP sv) (zl : Cond.methodLink own index yX8_lossNow ∈ AllW) (zR : 1 + 1 ≤ R.frames ∧ 8 + (2 + 11) + 22 ≤ R.locals) (zs : ls.size = nL) (zt : st0 = ([.int (nI n)] : List Value).reverse ++ .ref (a 0) :: rest) (z8 : (rest.map fun v => v.category).sum ≤ 8) (zd : decode cc pc = .ok (.invokevirtual index, 3)) (zf : cells ≤ R.cells ∧ slots ≤ R.slots) (kk : W p l e R s m args below meth c H locs cells slots Q (F0 m (pc + 3) ls (.int (lsN sv n) :: rest))) : W p l e R s m args below meth c H locs cells slots Q (F0 m pc ls st0) :=
  z_callV cx vm_X8_lossNow (c_X8_lossNow l E a sv im rd wa kp so sz el pr ts nu bu ht th po ba en td ig ij n hI hn) (z_rec cx.2 (hW.at 0 rfl) rfl) hW zl ⟨rfl, rfl⟩ zR rfl zs zt z8 zd zf kk
theorem vm_X8_piece : zVm yX8_piece cX8_piece 3 (some FieldType.int) 2 := ⟨m_co_X8_piece, m_in_RX8, ⟨m_im_X8_piece, m_se_X8_X8_piece⟩, by decide +kernel, by decide +kernel, by decide +kernel⟩
set_option maxHeartbeats 4000000 in
set_option maxRecDepth 100000 in
theorem c_X8_piece (l : Launch) (E : zE) (a : Nat → Nat) (sv im rd wa kp so sz el pr ts nu bu ht : Nat → Int32) (th po ba en td : Int32) (ig : Bool) (ij : Bool) (x w : Int32) (hI : Inv sv) : Met l yX8_piece (.code yX8_piece cX8_piece 3 (some FieldType.int) :: AllW) (rm0' 3 66) (zP E (fun H => WW E (wM a (E.2.1 0) sv im rd wa kp so sz el pr ts nu bu ht (bI ig) th po ba en td (bI ij)) gN H) [.ref (a 0), .int x, .int w]) (rQ (.int (pieceP sv x w))) 0 0 nF := by
  refine z_body (own := RX8) (by decide) rfl rfl ?_
  intro p e s m args below meth c ls cx hr hlk hnm hW hl
  have hx := cx.x
  have hb := cx.b
  have hl : lv_has ls 3 [(0, .ref (a 0)), (1, .int x), (2, .int w)] := hl
  have hC := hI.1
  have hP10 := (Inv.n0 hC).2
  have hT7 := (Inv.n1 hC).2
  have hA24 := (Inv.n2 hC).2
  refine lv_aload_n (pc := 0) hx hb dX8_piece_0 rfl (lv_at hl 0 rfl) ?_
  refine lv_iload_n (pc := 1) hx hb dX8_piece_1 rfl (lv_at hl 1 rfl) ?_
  refine k_X8_isPiece (pc := 2) (x := x) cx hW  m_ml_X8_130 ⟨Nat.le_of_ble_eq_true rfl, Nat.le_of_ble_eq_true rfl⟩ hl.1 rfl (by simp [Value.category]) dX8_piece_2 ⟨Nat.le_refl _, Nat.le_refl _⟩ ?_
  refine z_ifne (pc := 5) (tgt := 10) hx hb dX8_piece_5 (by decide) (fun c_1 => ?_) (fun c_1 => ?_)
  · skip
    obtain ⟨n, hn, rfl⟩ := pc_nat hC c_1
    have hN := iN_nI (n := n) (by omega)
    refine lv_iload_n (pc := 10) hx hb dX8_piece_10 rfl (lv_at hl 2 rfl) ?_
    by_cases c_2 : w = 0
    · subst c_2
      refine lv_tableIn (pc := 11) (tgt := 56) hx hb dX8_piece_11 (by decide) (by decide) rfl (by decide) ?_
      refine lv_aload_n (pc := 56) hx hb dX8_piece_56 rfl (lv_at hl 0 rfl) ?_
      refine lv_iload_n (pc := 57) hx hb dX8_piece_57 rfl (lv_at hl 1 rfl) ?_
      refine lv_iload_n (pc := 58) hx hb dX8_piece_58 rfl (lv_at hl 2 rfl) ?_
      refine k_X8_get (pc := 59) (n := n) (k := 0) cx hW (by first | assumption | omega) (by first | assumption | omega) m_ml_X8_124 ⟨Nat.le_of_ble_eq_true rfl, Nat.le_of_ble_eq_true rfl⟩ hl.1 rfl (by simp [Value.category]) dX8_piece_59 ⟨Nat.le_refl _, Nat.le_refl _⟩ ?_
      exact z_iret cx hr hlk dX8_piece_62 (by first | rfl | (simp [pieceP, c_1, hN]; done))
    by_cases c_3 : w = 1
    · subst c_3
      refine lv_tableIn (pc := 11) (tgt := 56) hx hb dX8_piece_11 (by decide) (by decide) rfl (by decide) ?_
      refine lv_aload_n (pc := 56) hx hb dX8_piece_56 rfl (lv_at hl 0 rfl) ?_
      refine lv_iload_n (pc := 57) hx hb dX8_piece_57 rfl (lv_at hl 1 rfl) ?_
      refine lv_iload_n (pc := 58) hx hb dX8_piece_58 rfl (lv_at hl 2 rfl) ?_
      refine k_X8_get (pc := 59) (n := n) (k := 1) cx hW (by first | assumption | omega) (by first | assumption | omega) m_ml_X8_124 ⟨Nat.le_of_ble_eq_true rfl, Nat.le_of_ble_eq_true rfl⟩ hl.1 rfl (by simp [Value.category]) dX8_piece_59 ⟨Nat.le_refl _, Nat.le_refl _⟩ ?_
      exact z_iret cx hr hlk dX8_piece_62 (by first | rfl | (simp [pieceP, c_1, hN, c_2]; done))
    by_cases c_4 : w = 2
    · subst c_4
      refine lv_tableIn (pc := 11) (tgt := 56) hx hb dX8_piece_11 (by decide) (by decide) rfl (by decide) ?_
      refine lv_aload_n (pc := 56) hx hb dX8_piece_56 rfl (lv_at hl 0 rfl) ?_
      refine lv_iload_n (pc := 57) hx hb dX8_piece_57 rfl (lv_at hl 1 rfl) ?_
      refine lv_iload_n (pc := 58) hx hb dX8_piece_58 rfl (lv_at hl 2 rfl) ?_
      refine k_X8_get (pc := 59) (n := n) (k := 2) cx hW (by first | assumption | omega) (by first | assumption | omega) m_ml_X8_124 ⟨Nat.le_of_ble_eq_true rfl, Nat.le_of_ble_eq_true rfl⟩ hl.1 rfl (by simp [Value.category]) dX8_piece_59 ⟨Nat.le_refl _, Nat.le_refl _⟩ ?_
      exact z_iret cx hr hlk dX8_piece_62 (by first | rfl | (simp [pieceP, c_1, hN, c_2, c_3]; done))
    by_cases c_5 : w = 3
    · subst c_5
      refine lv_tableIn (pc := 11) (tgt := 56) hx hb dX8_piece_11 (by decide) (by decide) rfl (by decide) ?_
      refine lv_aload_n (pc := 56) hx hb dX8_piece_56 rfl (lv_at hl 0 rfl) ?_
      refine lv_iload_n (pc := 57) hx hb dX8_piece_57 rfl (lv_at hl 1 rfl) ?_
      refine lv_iload_n (pc := 58) hx hb dX8_piece_58 rfl (lv_at hl 2 rfl) ?_
      refine k_X8_get (pc := 59) (n := n) (k := 3) cx hW (by first | assumption | omega) (by first | assumption | omega) m_ml_X8_124 ⟨Nat.le_of_ble_eq_true rfl, Nat.le_of_ble_eq_true rfl⟩ hl.1 rfl (by simp [Value.category]) dX8_piece_59 ⟨Nat.le_refl _, Nat.le_refl _⟩ ?_
      exact z_iret cx hr hlk dX8_piece_62 (by first | rfl | (simp [pieceP, c_1, hN, c_2, c_3, c_4]; done))
    by_cases c_6 : w = 4
    · subst c_6
      refine lv_tableIn (pc := 11) (tgt := 56) hx hb dX8_piece_11 (by decide) (by decide) rfl (by decide) ?_
      refine lv_aload_n (pc := 56) hx hb dX8_piece_56 rfl (lv_at hl 0 rfl) ?_
      refine lv_iload_n (pc := 57) hx hb dX8_piece_57 rfl (lv_at hl 1 rfl) ?_
      refine lv_iload_n (pc := 58) hx hb dX8_piece_58 rfl (lv_at hl 2 rfl) ?_
      refine k_X8_get (pc := 59) (n := n) (k := 4) cx hW (by first | assumption | omega) (by first | assumption | omega) m_ml_X8_124 ⟨Nat.le_of_ble_eq_true rfl, Nat.le_of_ble_eq_true rfl⟩ hl.1 rfl (by simp [Value.category]) dX8_piece_59 ⟨Nat.le_refl _, Nat.le_refl _⟩ ?_
      exact z_iret cx hr hlk dX8_piece_62 (by first | rfl | (simp [pieceP, c_1, hN, c_2, c_3, c_4, c_5]; done))
    by_cases c_7 : w = 5
    · subst c_7
      refine lv_tableIn (pc := 11) (tgt := 56) hx hb dX8_piece_11 (by decide) (by decide) rfl (by decide) ?_
      refine lv_aload_n (pc := 56) hx hb dX8_piece_56 rfl (lv_at hl 0 rfl) ?_
      refine lv_iload_n (pc := 57) hx hb dX8_piece_57 rfl (lv_at hl 1 rfl) ?_
      refine lv_iload_n (pc := 58) hx hb dX8_piece_58 rfl (lv_at hl 2 rfl) ?_
      refine k_X8_get (pc := 59) (n := n) (k := 5) cx hW (by first | assumption | omega) (by first | assumption | omega) m_ml_X8_124 ⟨Nat.le_of_ble_eq_true rfl, Nat.le_of_ble_eq_true rfl⟩ hl.1 rfl (by simp [Value.category]) dX8_piece_59 ⟨Nat.le_refl _, Nat.le_refl _⟩ ?_
      exact z_iret cx hr hlk dX8_piece_62 (by first | rfl | (simp [pieceP, c_1, hN, c_2, c_3, c_4, c_5, c_6]; done))
    by_cases c_8 : w = 6
    · subst c_8
      refine lv_tableIn (pc := 11) (tgt := 63) hx hb dX8_piece_11 (by decide) (by decide) rfl (by decide) ?_
      refine lv_aload_n (pc := 63) hx hb dX8_piece_63 rfl (lv_at hl 0 rfl) ?_
      refine lv_iload_n (pc := 64) hx hb dX8_piece_64 rfl (lv_at hl 1 rfl) ?_
      refine k_X8_toneNow (pc := 65) (n := n) cx hW (by first | assumption | omega) (by first | assumption | omega) m_ml_X8_133 ⟨Nat.le_of_ble_eq_true rfl, Nat.le_of_ble_eq_true rfl⟩ hl.1 rfl (by simp [Value.category]) dX8_piece_65 ⟨Nat.le_refl _, Nat.le_refl _⟩ ?_
      exact z_iret cx hr hlk dX8_piece_68 (by first | rfl | (simp [pieceP, c_1, hN, c_2, c_3, c_4, c_5, c_6, c_7]; done))
    by_cases c_9 : w = 7
    · subst c_9
      refine lv_tableIn (pc := 11) (tgt := 69) hx hb dX8_piece_11 (by decide) (by decide) rfl (by decide) ?_
      refine lv_aload_n (pc := 69) hx hb dX8_piece_69 rfl (lv_at hl 0 rfl) ?_
      refine lv_iload_n (pc := 70) hx hb dX8_piece_70 rfl (lv_at hl 1 rfl) ?_
      refine k_X8_lossNow (pc := 71) (n := n) cx hW (by first | assumption | omega) (by first | assumption | omega) m_ml_X8_137 ⟨Nat.le_of_ble_eq_true rfl, Nat.le_of_ble_eq_true rfl⟩ hl.1 rfl (by simp [Value.category]) dX8_piece_71 ⟨Nat.le_refl _, Nat.le_refl _⟩ ?_
      exact z_iret cx hr hlk dX8_piece_74 (by first | rfl | (simp [pieceP, c_1, hN, c_2, c_3, c_4, c_5, c_6, c_7, c_8]; done))
    refine lv_tableOut (pc := 11) (tgt := 75) hx hb dX8_piece_11 (by have := lv_neT c_2 (a := 0) (by decide); have := lv_neT c_3 (a := 1) (by decide); have := lv_neT c_4 (a := 2) (by decide); have := lv_neT c_5 (a := 3) (by decide); have := lv_neT c_6 (a := 4) (by decide); have := lv_neT c_7 (a := 5) (by decide); have := lv_neT c_8 (a := 6) (by decide); have := lv_neT c_9 (a := 7) (by decide); omega) (by decide) ?_
    refine lv_iconst (pc := 75) (v := (-1)) hx hb dX8_piece_75 (by decide) ?_
    exact z_iret cx hr hlk dX8_piece_76 (by first | rfl | (simp [pieceP, c_1, hN, c_2, c_3, c_4, c_5, c_6, c_7, c_8, c_9]; done))
  · skip
    refine lv_iconst (pc := 8) (v := (-1)) hx hb dX8_piece_8 (by decide) ?_
    exact z_iret cx hr hlk dX8_piece_9 (by first | rfl | (simp [pieceP, c_1]; done))
theorem k_X8_piece {p : Program} {l : Launch} {e : Env} {R : Room} {s : State} {m : MethodId} {args : Array Value} {below : List Frame} {meth : Method} {c : Code} {H : Heap} {locs : List Loc} {cells slots : Nat} {Q : State → Prop} {cc : ByteArray} {pc index : Nat} {ls : Array Slot} {rest st0 : List Value} {E : zE} {own : String} {nL : Nat} {a : Nat → Nat} {sv im rd wa kp so sz el pr ts nu bu ht : Nat → Int32} {th po ba en td : Int32} {ig : Bool} {ij : Bool} {x w : Int32} (cx : Cx E p s args m c own cc nL) (hW : WW E (wM a (E.2.1 0) sv im rd wa kp so sz el pr ts nu bu ht (bI ig) th po ba en td (bI ij)) gN H) (hI : Inv sv) (zl : Cond.methodLink own index yX8_piece ∈ AllW) (zR : 3 + 1 ≤ R.frames ∧ 8 + (3 + 11) + 66 ≤ R.locals) (zs : ls.size = nL) (zt : st0 = ([.int x, .int w] : List Value).reverse ++ .ref (a 0) :: rest) (z8 : (rest.map fun v => v.category).sum ≤ 8) (zd : decode cc pc = .ok (.invokevirtual index, 3)) (zf : cells ≤ R.cells ∧ slots ≤ R.slots) (kk : W p l e R s m args below meth c H locs cells slots Q (F0 m (pc + 3) ls (.int (pieceP sv x w) :: rest))) : W p l e R s m args below meth c H locs cells slots Q (F0 m pc ls st0) :=
  z_callV cx vm_X8_piece (c_X8_piece l E a sv im rd wa kp so sz el pr ts nu bu ht th po ba en td ig ij x w hI) (z_rec cx.2 (hW.at 0 rfl) rfl) hW zl ⟨rfl, rfl⟩ zR rfl zs zt z8 zd zf kk
theorem vm_X8_priceOf : zVm yX8_priceOf cX8_priceOf 3 (some FieldType.int) 1 := ⟨m_co_X8_priceOf, m_in_RX8, ⟨m_im_X8_priceOf, m_se_X8_X8_priceOf⟩, by decide +kernel, by decide +kernel, by decide +kernel⟩
set_option maxHeartbeats 4000000 in
set_option maxRecDepth 100000 in
theorem c_X8_priceOf (l : Launch) (E : zE) (a : Nat → Nat) (sv im rd wa kp so sz el pr ts nu bu ht : Nat → Int32) (th po ba en td : Int32) (ig : Bool) (ij : Bool) (n : Nat) (hI : Inv sv) (hn : n < nT sv) : Met l yX8_priceOf (.code yX8_priceOf cX8_priceOf 3 (some FieldType.int) :: AllW) (rm0' 1 22) (zP E (fun H => WW E (wM a (E.2.1 0) sv im rd wa kp so sz el pr ts nu bu ht (bI ig) th po ba en td (bI ij)) gN H) [.ref (a 0), .int (nI n)]) (rQ (.int (prO sv n))) 0 0 nF := by
  refine z_body (own := RX8) (by decide) rfl rfl ?_
  intro p e s m args below meth c ls cx hr hlk hnm hW hl
  have hx := cx.x
  have hb := cx.b
  have hl : lv_has ls 3 [(0, .ref (a 0)), (1, .int (nI n))] := hl
  have hC := hI.1
  have hP10 := (Inv.n0 hC).2
  have hT7 := (Inv.n1 hC).2
  have hA24 := (Inv.n2 hC).2
  refine lv_aload_n (pc := 0) hx hb dX8_priceOf_0 rfl (lv_at hl 0 rfl) ?_
  refine lv_iload_n (pc := 1) hx hb dX8_priceOf_1 rfl (lv_at hl 1 rfl) ?_
  refine lv_iconst (pc := 2) (v := 3) hx hb dX8_priceOf_2 (by decide) ?_
  refine k_X8_of (pc := 3) (n := n) (k := 3) cx hW (by first | assumption | omega) (by first | assumption | omega) m_ml_X8_140 ⟨Nat.le_of_ble_eq_true rfl, Nat.le_of_ble_eq_true rfl⟩ hl.1 rfl (by simp [Value.category]) dX8_priceOf_3 ⟨Nat.le_refl _, Nat.le_refl _⟩ ?_
  refine lv_istore_n (pc := 6) (lv' := [(2, .int (g5 sv n 3)), (0, .ref (a 0)), (1, .int (nI n))]) hx hb dX8_priceOf_6 rfl hl (by decide) rfl (fun ls hl => ?_)
  refine lv_aload_n (pc := 7) hx hb dX8_priceOf_7 rfl (lv_at hl 1 rfl) ?_
  refine lv_iload_n (pc := 8) hx hb dX8_priceOf_8 rfl (lv_at hl 2 rfl) ?_
  refine lv_iconst (pc := 9) (v := 0) hx hb dX8_priceOf_9 (by decide) ?_
  refine k_X8_of (pc := 10) (n := n) (k := 0) cx hW (by first | assumption | omega) (by first | assumption | omega) m_ml_X8_140 ⟨Nat.le_of_ble_eq_true rfl, Nat.le_of_ble_eq_true rfl⟩ hl.1 rfl (by simp [Value.category]) dX8_priceOf_10 ⟨Nat.le_refl _, Nat.le_refl _⟩ ?_
  by_cases c_1 : g5 sv n 0 = 1
  · rw [c_1]
    refine lv_tableIn (pc := 13) (tgt := 56) hx hb dX8_priceOf_13 (by decide) (by decide) rfl (by decide) ?_
    refine lv_iconst (pc := 56) (v := 5) hx hb dX8_priceOf_56 (by decide) ?_
    refine lv_iload_n (pc := 57) hx hb dX8_priceOf_57 rfl (lv_at hl 0 rfl) ?_
    refine lv_iadd (pc := 58) hx hb dX8_priceOf_58 ?_
    exact z_iret cx hr hlk dX8_priceOf_59 (by first | rfl | (simp [prO, prK, c_1]; done))
  by_cases c_2 : g5 sv n 0 = 2
  · rw [c_2]
    refine lv_tableIn (pc := 13) (tgt := 60) hx hb dX8_priceOf_13 (by decide) (by decide) rfl (by decide) ?_
    refine lv_bipush (pc := 60) (v := 15) hx hb dX8_priceOf_60 (by decide) ?_
    exact z_iret cx hr hlk dX8_priceOf_62 (by first | rfl | (simp [prO, prK, c_1, c_2]; done))
  by_cases c_3 : g5 sv n 0 = 3
  · rw [c_3]
    refine lv_tableIn (pc := 13) (tgt := 63) hx hb dX8_priceOf_13 (by decide) (by decide) rfl (by decide) ?_
    refine lv_iconst (pc := 63) (v := 2) hx hb dX8_priceOf_63 (by decide) ?_
    exact z_iret cx hr hlk dX8_priceOf_64 (by first | rfl | (simp [prO, prK, c_1, c_2, c_3]; done))
  by_cases c_4 : g5 sv n 0 = 4
  · rw [c_4]
    refine lv_tableIn (pc := 13) (tgt := 65) hx hb dX8_priceOf_13 (by decide) (by decide) rfl (by decide) ?_
    refine lv_bipush (pc := 65) (v := 45) hx hb dX8_priceOf_65 (by decide) ?_
    refine lv_iload_n (pc := 67) hx hb dX8_priceOf_67 rfl (lv_at hl 0 rfl) ?_
    refine lv_iadd (pc := 68) hx hb dX8_priceOf_68 ?_
    exact z_iret cx hr hlk dX8_priceOf_69 (by first | rfl | (simp [prO, prK, c_1, c_2, c_3, c_4]; done))
  by_cases c_5 : g5 sv n 0 = 5
  · rw [c_5]
    refine lv_tableIn (pc := 13) (tgt := 70) hx hb dX8_priceOf_13 (by decide) (by decide) rfl (by decide) ?_
    refine lv_bipush (pc := 70) (v := 10) hx hb dX8_priceOf_70 (by decide) ?_
    refine lv_iload_n (pc := 72) hx hb dX8_priceOf_72 rfl (lv_at hl 0 rfl) ?_
    refine lv_iadd (pc := 73) hx hb dX8_priceOf_73 ?_
    exact z_iret cx hr hlk dX8_priceOf_74 (by first | rfl | (simp [prO, prK, c_1, c_2, c_3, c_4, c_5]; done))
  by_cases c_6 : g5 sv n 0 = 6
  · rw [c_6]
    refine lv_tableIn (pc := 13) (tgt := 75) hx hb dX8_priceOf_13 (by decide) (by decide) rfl (by decide) ?_
    refine lv_iconst (pc := 75) (v := 0) hx hb dX8_priceOf_75 (by decide) ?_
    exact z_iret cx hr hlk dX8_priceOf_76 (by first | rfl | (simp [prO, prK, c_1, c_2, c_3, c_4, c_5, c_6]; done))
  by_cases c_7 : g5 sv n 0 = 7
  · rw [c_7]
    refine lv_tableIn (pc := 13) (tgt := 77) hx hb dX8_priceOf_13 (by decide) (by decide) rfl (by decide) ?_
    refine lv_iconst (pc := 77) (v := 1) hx hb dX8_priceOf_77 (by decide) ?_
    exact z_iret cx hr hlk dX8_priceOf_78 (by first | rfl | (simp [prO, prK, c_1, c_2, c_3, c_4, c_5, c_6, c_7]; done))
  refine lv_tableOut (pc := 13) (tgt := 79) hx hb dX8_priceOf_13 (by have := lv_neT c_1 (a := 1) (by decide); have := lv_neT c_2 (a := 2) (by decide); have := lv_neT c_3 (a := 3) (by decide); have := lv_neT c_4 (a := 4) (by decide); have := lv_neT c_5 (a := 5) (by decide); have := lv_neT c_6 (a := 6) (by decide); have := lv_neT c_7 (a := 7) (by decide); omega) (by decide) ?_
  refine lv_iconst (pc := 79) (v := 5) hx hb dX8_priceOf_79 (by decide) ?_
  exact z_iret cx hr hlk dX8_priceOf_80 (by first | rfl | (simp [prO, prK, c_1, c_2, c_3, c_4, c_5, c_6, c_7]; done))
theorem k_X8_priceOf {p : Program} {l : Launch} {e : Env} {R : Room} {s : State} {m : MethodId} {args : Array Value} {below : List Frame} {meth : Method} {c : Code} {H : Heap} {locs : List Loc} {cells slots : Nat} {Q : State → Prop} {cc : ByteArray} {pc index : Nat} {ls : Array Slot} {rest st0 : List Value} {E : zE} {own : String} {nL : Nat} {a : Nat → Nat} {sv im rd wa kp so sz el pr ts nu bu ht : Nat → Int32} {th po ba en td : Int32} {ig : Bool} {ij : Bool} {n : Nat} (cx : Cx E p s args m c own cc nL) (hW : WW E (wM a (E.2.1 0) sv im rd wa kp so sz el pr ts nu bu ht (bI ig) th po ba en td (bI ij)) gN H) (hI : Inv sv) (hn : n < nT sv) (zl : Cond.methodLink own index yX8_priceOf ∈ AllW) (zR : 1 + 1 ≤ R.frames ∧ 8 + (3 + 11) + 22 ≤ R.locals) (zs : ls.size = nL) (zt : st0 = ([.int (nI n)] : List Value).reverse ++ .ref (a 0) :: rest) (z8 : (rest.map fun v => v.category).sum ≤ 8) (zd : decode cc pc = .ok (.invokevirtual index, 3)) (zf : cells ≤ R.cells ∧ slots ≤ R.slots) (kk : W p l e R s m args below meth c H locs cells slots Q (F0 m (pc + 3) ls (.int (prO sv n) :: rest))) : W p l e R s m args below meth c H locs cells slots Q (F0 m pc ls st0) :=
  z_callV cx vm_X8_priceOf (c_X8_priceOf l E a sv im rd wa kp so sz el pr ts nu bu ht th po ba en td ig ij n hI hn) (z_rec cx.2 (hW.at 0 rfl) rfl) hW zl ⟨rfl, rfl⟩ zR rfl zs zt z8 zd zf kk
theorem vm_X8_thing : zVm yX8_thing cX8_thing 3 (some FieldType.int) 2 := ⟨m_co_X8_thing, m_in_RX8, ⟨m_im_X8_thing, m_se_X8_X8_thing⟩, by decide +kernel, by decide +kernel, by decide +kernel⟩
set_option maxHeartbeats 4000000 in
set_option maxRecDepth 100000 in
theorem c_X8_thing (l : Launch) (E : zE) (a : Nat → Nat) (sv im rd wa kp so sz el pr ts nu bu ht : Nat → Int32) (th po ba en td : Int32) (ig : Bool) (ij : Bool) (x w : Int32) (hI : Inv sv) : Met l yX8_thing (.code yX8_thing cX8_thing 3 (some FieldType.int) :: AllW) (rm0' 2 46) (zP E (fun H => WW E (wM a (E.2.1 0) sv im rd wa kp so sz el pr ts nu bu ht (bI ig) th po ba en td (bI ij)) gN H) [.ref (a 0), .int x, .int w]) (rQ (.int (thingP sv x w))) 0 0 nF := by
  refine z_body (own := RX8) (by decide) rfl rfl ?_
  intro p e s m args below meth c ls cx hr hlk hnm hW hl
  have hx := cx.x
  have hb := cx.b
  have hl : lv_has ls 3 [(0, .ref (a 0)), (1, .int x), (2, .int w)] := hl
  have hC := hI.1
  have hP10 := (Inv.n0 hC).2
  have hT7 := (Inv.n1 hC).2
  have hA24 := (Inv.n2 hC).2
  refine lv_aload_n (pc := 0) hx hb dX8_thing_0 rfl (lv_at hl 0 rfl) ?_
  refine lv_iload_n (pc := 1) hx hb dX8_thing_1 rfl (lv_at hl 1 rfl) ?_
  refine k_X8_isThing (pc := 2) (x := x) cx hW  m_ml_X8_143 ⟨Nat.le_of_ble_eq_true rfl, Nat.le_of_ble_eq_true rfl⟩ hl.1 rfl (by simp [Value.category]) dX8_thing_2 ⟨Nat.le_refl _, Nat.le_refl _⟩ ?_
  refine z_ifeq (pc := 5) (tgt := 20) hx hb dX8_thing_5 (by decide) (fun c_1 => ?_) (fun c_1 => ?_)
  · skip
    refine lv_iconst (pc := 20) (v := (-1)) hx hb dX8_thing_20 (by decide) ?_
    refine lv_goto (pc := 21) (tgt := 43) hx hb dX8_thing_21 (by decide) ?_
    exact z_iret cx hr hlk dX8_thing_43 (by first | rfl | (simp [thingP, c_1]; done))
  · skip
    obtain ⟨n, hn, rfl⟩ := th_nat hC c_1
    have hN := iN_nI (n := n) (by omega)
    refine lv_iload_n (pc := 8) hx hb dX8_thing_8 rfl (lv_at hl 2 rfl) ?_
    refine lv_i2l (pc := 9) (v := Int32.toInt64 w) hx hb dX8_thing_9 rfl ?_
    refine lv_lconst (pc := 10) (v := 0) hx hb dX8_thing_10 rfl ?_
    refine lv_ldc2 (pc := 11) (v := 5) hx hb cx.own (cx.ts _ m_kl_X8_146) dX8_thing_11 ?_
    refine k_X8_isIn (pc := 14) (x := w) (y := 0) (z := 5) cx  m_ml_X8_53 ⟨Nat.le_of_ble_eq_true rfl, Nat.le_of_ble_eq_true rfl⟩ hl.1 rfl (by simp [Value.category]) dX8_thing_14 ⟨Nat.le_refl _, Nat.le_refl _⟩ ?_
    refine z_ifne (pc := 17) (tgt := 24) hx hb dX8_thing_17 (by decide) (fun c_2 => ?_) (fun c_2 => ?_)
    · skip
      obtain ⟨k, hk, rfl⟩ := inL_nat c_2 (B := 5) rfl
      have hK := iN_nI (n := k) (by omega)
      refine lv_iload_n (pc := 24) hx hb dX8_thing_24 rfl (lv_at hl 2 rfl) ?_
      refine lv_iconst (pc := 25) (v := 5) hx hb dX8_thing_25 (by decide) ?_
      refine lv_icmp_ne (pc := 26) (tgt := 37) hx hb dX8_thing_26 (by decide) (fun c_3 => ?_) (fun c_3 => ?_)
      · skip
        have hk5 : k ≠ 5 := fun q => c_3 (by rw [q]; rfl)
        refine lv_aload_n (pc := 37) hx hb dX8_thing_37 rfl (lv_at hl 0 rfl) ?_
        refine lv_iload_n (pc := 38) hx hb dX8_thing_38 rfl (lv_at hl 1 rfl) ?_
        refine lv_iload_n (pc := 39) hx hb dX8_thing_39 rfl (lv_at hl 2 rfl) ?_
        refine k_X8_of (pc := 40) (n := n) (k := k) cx hW (by first | assumption | omega) (by first | assumption | omega) m_ml_X8_140 ⟨Nat.le_of_ble_eq_true rfl, Nat.le_of_ble_eq_true rfl⟩ hl.1 rfl (by simp [Value.category]) dX8_thing_40 ⟨Nat.le_refl _, Nat.le_refl _⟩ ?_
        exact z_iret cx hr hlk dX8_thing_43 (by first | rfl | (simp [thingP, c_1, hN, c_2, hK, c_3]; done))
      · skip
        have h5 : inL 5 0 5 = true := by decide
        refine lv_aload_n (pc := 29) hx hb dX8_thing_29 rfl (lv_at hl 0 rfl) ?_
        refine lv_iload_n (pc := 30) hx hb dX8_thing_30 rfl (lv_at hl 1 rfl) ?_
        refine k_X8_priceOf (pc := 31) (n := n) cx hW (by first | assumption | omega) (by first | assumption | omega) m_ml_X8_148 ⟨Nat.le_of_ble_eq_true rfl, Nat.le_of_ble_eq_true rfl⟩ hl.1 rfl (by simp [Value.category]) dX8_thing_31 ⟨Nat.le_refl _, Nat.le_refl _⟩ ?_
        refine lv_goto (pc := 34) (tgt := 43) hx hb dX8_thing_34 (by decide) ?_
        exact z_iret cx hr hlk dX8_thing_43 (by first | rfl | (simp [thingP, c_1, hN, c_2, hK, c_3, h5]; done))
    · skip
      refine lv_iconst (pc := 20) (v := (-1)) hx hb dX8_thing_20 (by decide) ?_
      refine lv_goto (pc := 21) (tgt := 43) hx hb dX8_thing_21 (by decide) ?_
      exact z_iret cx hr hlk dX8_thing_43 (by first | rfl | (simp [thingP, c_1, hN, c_2]; done))
theorem k_X8_thing {p : Program} {l : Launch} {e : Env} {R : Room} {s : State} {m : MethodId} {args : Array Value} {below : List Frame} {meth : Method} {c : Code} {H : Heap} {locs : List Loc} {cells slots : Nat} {Q : State → Prop} {cc : ByteArray} {pc index : Nat} {ls : Array Slot} {rest st0 : List Value} {E : zE} {own : String} {nL : Nat} {a : Nat → Nat} {sv im rd wa kp so sz el pr ts nu bu ht : Nat → Int32} {th po ba en td : Int32} {ig : Bool} {ij : Bool} {x w : Int32} (cx : Cx E p s args m c own cc nL) (hW : WW E (wM a (E.2.1 0) sv im rd wa kp so sz el pr ts nu bu ht (bI ig) th po ba en td (bI ij)) gN H) (hI : Inv sv) (zl : Cond.methodLink own index yX8_thing ∈ AllW) (zR : 2 + 1 ≤ R.frames ∧ 8 + (3 + 11) + 46 ≤ R.locals) (zs : ls.size = nL) (zt : st0 = ([.int x, .int w] : List Value).reverse ++ .ref (a 0) :: rest) (z8 : (rest.map fun v => v.category).sum ≤ 8) (zd : decode cc pc = .ok (.invokevirtual index, 3)) (zf : cells ≤ R.cells ∧ slots ≤ R.slots) (kk : W p l e R s m args below meth c H locs cells slots Q (F0 m (pc + 3) ls (.int (thingP sv x w) :: rest))) : W p l e R s m args below meth c H locs cells slots Q (F0 m pc ls st0) :=
  z_callV cx vm_X8_thing (c_X8_thing l E a sv im rd wa kp so sz el pr ts nu bu ht th po ba en td ig ij x w hI) (z_rec cx.2 (hW.at 0 rfl) rfl) hW zl ⟨rfl, rfl⟩ zR rfl zs zt z8 zd zf kk
theorem vm_X8_swingOf : zVm yX8_swingOf cX8_swingOf 5 (some FieldType.int) 3 := ⟨m_co_X8_swingOf, m_in_RX8, ⟨m_im_X8_swingOf, m_se_X8_X8_swingOf⟩, by decide +kernel, by decide +kernel, by decide +kernel⟩
set_option maxHeartbeats 4000000 in
set_option maxRecDepth 100000 in
theorem c_X8_swingOf (l : Launch) (E : zE) (a : Nat → Nat) (sv im rd wa kp so sz el pr ts nu bu ht : Nat → Int32) (th po ba en td : Int32) (ig : Bool) (ij : Bool) (f st : Int32) (hI : Inv sv) (hf : rg f 1 2400) : ∀ (n : Nat), n < nP sv → Met l yX8_swingOf (.code yX8_swingOf cX8_swingOf 5 (some FieldType.int) :: AllW) (rm0' (n + 5) (30 * n + 120)) (zP E (fun H => WW E (wM a (E.2.1 0) sv im rd wa kp so sz el pr ts nu bu ht (bI ig) th po ba en td (bI ij)) gN H) [.ref (a 0), .int (nI n), .int f, .int st]) (rQ (.int (sw sv n f st))) 0 0 nF := by
  intro n
  induction n using Nat.strongRecOn with
  | ind n ih =>
    intro hn
    refine z_body (own := RX8) (by decide) rfl rfl ?_
    intro p e s m args below meth c ls cx hr hlk hnm hW hl
    have hx := cx.x
    have hb := cx.b
    have hl : lv_has ls 5 [(0, .ref (a 0)), (1, .int (nI n)), (2, .int f), (3, .int st)] := hl
    have hC := hI.1
    have hP10 := (Inv.n0 hC).2
    have hT7 := (Inv.n1 hC).2
    have hA24 := (Inv.n2 hC).2
    refine lv_bipush (pc := 0) (v := 100) hx hb dX8_swingOf_0 (by decide) ?_
    refine lv_iload_n (pc := 2) hx hb dX8_swingOf_2 rfl (lv_at hl 3 rfl) ?_
    refine lv_imul (pc := 3) hx hb dX8_swingOf_3 ?_
    refine lv_aload_n (pc := 4) hx hb dX8_swingOf_4 rfl (lv_at hl 0 rfl) ?_
    refine lv_iload_n (pc := 5) hx hb dX8_swingOf_5 rfl (lv_at hl 1 rfl) ?_
    refine k_X8_lossNow (pc := 6) (n := n) cx hW (by first | assumption | omega) (by first | assumption | omega) m_ml_X8_137 ⟨by simp only [rm0']; omega, by simp only [rm0']; omega⟩ hl.1 rfl (by simp [Value.category]) dX8_swingOf_6 ⟨Nat.le_refl _, Nat.le_refl _⟩ ?_
    refine lv_iload_n (pc := 9) hx hb dX8_swingOf_9 rfl (lv_at hl 2 rfl) ?_
    refine lv_aload_n (pc := 10) hx hb dX8_swingOf_10 rfl (lv_at hl 0 rfl) ?_
    refine lv_iload_n (pc := 11) hx hb dX8_swingOf_11 rfl (lv_at hl 1 rfl) ?_
    refine k_X8_toneNow (pc := 12) (n := n) cx hW (by first | assumption | omega) (by first | assumption | omega) m_ml_X8_133 ⟨by simp only [rm0']; omega, by simp only [rm0']; omega⟩ hl.1 rfl (by simp [Value.category]) dX8_swingOf_12 ⟨Nat.le_refl _, Nat.le_refl _⟩ ?_
    refine lv_isub (pc := 15) hx hb dX8_swingOf_15 ?_
    refine k_X8_amount (pc := 16) (x := f - (tnN sv n)) cx  m_ml_X8_167 ⟨by simp only [rm0']; omega, by simp only [rm0']; omega⟩ hl.1 rfl (by simp [Value.category]) dX8_swingOf_16 ⟨Nat.le_refl _, Nat.le_refl _⟩ ?_
    refine lv_iadd (pc := 19) hx hb dX8_swingOf_19 ?_
    refine lv_idiv (pc := 20) hx hb dX8_swingOf_20 (nz_of (by have := own_div hC hI.2.1 hI.2.2.1 hn hf; unfold rg at this; omega)) ?_
    refine lv_istore (pc := 21) (lv' := [(4, .int ((100 * st) / ((lsN sv n) + (amt (f - (tnN sv n)))))), (0, .ref (a 0)), (1, .int (nI n)), (2, .int f), (3, .int st)]) hx hb dX8_swingOf_21 hl (by decide) rfl (fun ls hl => ?_)
    refine lv_aload_n (pc := 23) hx hb dX8_swingOf_23 rfl (lv_at hl 1 rfl) ?_
    refine lv_iload_n (pc := 24) hx hb dX8_swingOf_24 rfl (lv_at hl 2 rfl) ?_
    refine lv_iconst (pc := 25) (v := 3) hx hb dX8_swingOf_25 (by decide) ?_
    refine k_X8_get (pc := 26) (n := n) (k := 3) cx hW (by first | assumption | omega) (by first | assumption | omega) m_ml_X8_124 ⟨by simp only [rm0']; omega, by simp only [rm0']; omega⟩ hl.1 rfl (by simp [Value.category]) dX8_swingOf_26 ⟨Nat.le_refl _, Nat.le_refl _⟩ ?_
    refine lv_if_ge (pc := 29) (tgt := 35) hx hb dX8_swingOf_29 (by decide) (fun c_1 => ?_) (fun c_1 => ?_)
    · skip
      obtain ⟨j, hj, ej⟩ := joined_nat hI.2.2.1 hn (i_nlt.mpr c_1)
      refine lv_iload (pc := 35) hx hb dX8_swingOf_35 (lv_at hl 0 rfl) ?_
      refine lv_aload_n (pc := 37) hx hb dX8_swingOf_37 rfl (lv_at hl 1 rfl) ?_
      refine lv_iload_n (pc := 38) hx hb dX8_swingOf_38 rfl (lv_at hl 2 rfl) ?_
      refine lv_iconst (pc := 39) (v := 4) hx hb dX8_swingOf_39 (by decide) ?_
      refine k_X8_get (pc := 40) (n := n) (k := 4) cx hW (by first | assumption | omega) (by first | assumption | omega) m_ml_X8_124 ⟨by simp only [rm0']; omega, by simp only [rm0']; omega⟩ hl.1 rfl (by simp [Value.category]) dX8_swingOf_40 ⟨Nat.le_refl _, Nat.le_refl _⟩ ?_
      refine lv_aload_n (pc := 43) hx hb dX8_swingOf_43 rfl (lv_at hl 1 rfl) ?_
      refine z_getM (pc := 44) cx (hW.at 0 rfl) 0 rfl m_fl_X8_9 rfl dX8_swingOf_44 ?_
      refine lv_bipush (pc := 47) (v := 7) hx hb dX8_swingOf_47 (by decide) ?_
      refine z_iald (pc := 49) (f := sv) (j := 7) cx (hW.at 1 rfl) rfl (by decide) (by decide) dX8_swingOf_49 ?_
      refine lv_iadd (pc := 50) hx hb dX8_swingOf_50 ?_
      refine lv_iconst (pc := 51) (v := 0) hx hb dX8_swingOf_51 (by decide) ?_
      refine lv_bipush (pc := 52) (v := 99) hx hb dX8_swingOf_52 (by decide) ?_
      refine k_X8_held (pc := 54) (x := (g6 sv n 4) + (sv 7)) (y := 0) (z := 99) cx  m_ml_X8_170 ⟨by simp only [rm0']; omega, by simp only [rm0']; omega⟩ hl.1 rfl (by simp [Value.category]) dX8_swingOf_54 ⟨Nat.le_refl _, Nat.le_refl _⟩ ?_
      refine lv_aload_n (pc := 57) hx hb dX8_swingOf_57 rfl (lv_at hl 1 rfl) ?_
      refine lv_aload_n (pc := 58) hx hb dX8_swingOf_58 rfl (lv_at hl 1 rfl) ?_
      refine lv_iload_n (pc := 59) hx hb dX8_swingOf_59 rfl (lv_at hl 2 rfl) ?_
      refine lv_iconst (pc := 60) (v := 3) hx hb dX8_swingOf_60 (by decide) ?_
      refine k_X8_get (pc := 61) (n := n) (k := 3) cx hW (by first | assumption | omega) (by first | assumption | omega) m_ml_X8_124 ⟨by simp only [rm0']; omega, by simp only [rm0']; omega⟩ hl.1 rfl (by simp [Value.category]) dX8_swingOf_61 ⟨Nat.le_refl _, Nat.le_refl _⟩ ?_
      refine z_tope (y := nI j) ej ?_
      refine lv_iload_n (pc := 64) hx hb dX8_swingOf_64 rfl (lv_at hl 3 rfl) ?_
      refine lv_iload_n (pc := 65) hx hb dX8_swingOf_65 rfl (lv_at hl 4 rfl) ?_
      refine z_callV (pc := 66) cx vm_X8_swingOf (ih j hj (by omega)) (z_rec cx.2 (hW.at 0 rfl) rfl) hW m_ml_X8_174 ⟨rfl, rfl⟩ ⟨by show j + 5 + 1 ≤ n + 5; omega, by show 8 + (5 + 11) + (30 * j + 120) ≤ 30 * n + 120; omega⟩ rfl hl.1 rfl (by simp [Value.category]) dX8_swingOf_66 ⟨Nat.le_refl _, Nat.le_refl _⟩ ?_
      refine lv_imul (pc := 69) hx hb dX8_swingOf_69 ?_
      refine lv_bipush (pc := 70) (v := 100) hx hb dX8_swingOf_70 (by decide) ?_
      refine lv_idiv (pc := 72) hx hb dX8_swingOf_72 (by decide) ?_
      refine lv_iadd (pc := 73) hx hb dX8_swingOf_73 ?_
      exact z_iret cx hr hlk dX8_swingOf_74 (sw_join hC hI.2.2.1 hn hj ej).symm
    · skip
      refine lv_iload (pc := 32) hx hb dX8_swingOf_32 (lv_at hl 0 rfl) ?_
      exact z_iret cx hr hlk dX8_swingOf_34 (sw_root (by simpa using c_1)).symm
theorem k_X8_swingOf {p : Program} {l : Launch} {e : Env} {R : Room} {s : State} {m : MethodId} {args : Array Value} {below : List Frame} {meth : Method} {c : Code} {H : Heap} {locs : List Loc} {cells slots : Nat} {Q : State → Prop} {cc : ByteArray} {pc index : Nat} {ls : Array Slot} {rest st0 : List Value} {E : zE} {own : String} {nL : Nat} {a : Nat → Nat} {sv im rd wa kp so sz el pr ts nu bu ht : Nat → Int32} {th po ba en td : Int32} {ig : Bool} {ij : Bool} {n : Nat} {f st : Int32} (cx : Cx E p s args m c own cc nL) (hW : WW E (wM a (E.2.1 0) sv im rd wa kp so sz el pr ts nu bu ht (bI ig) th po ba en td (bI ij)) gN H) (hI : Inv sv) (hf : rg f 1 2400) (hn : n < nP sv) (zl : Cond.methodLink own index yX8_swingOf ∈ AllW) (zR : 15 + 1 ≤ R.frames ∧ 8 + (5 + 11) + 450 ≤ R.locals) (zs : ls.size = nL) (zt : st0 = ([.int (nI n), .int f, .int st] : List Value).reverse ++ .ref (a 0) :: rest) (z8 : (rest.map fun v => v.category).sum ≤ 8) (zd : decode cc pc = .ok (.invokevirtual index, 3)) (zf : cells ≤ R.cells ∧ slots ≤ R.slots) (kk : W p l e R s m args below meth c H locs cells slots Q (F0 m (pc + 3) ls (.int (sw sv n f st) :: rest))) : W p l e R s m args below meth c H locs cells slots Q (F0 m pc ls st0) :=
  z_callV cx vm_X8_swingOf (c_X8_swingOf l E a sv im rd wa kp so sz el pr ts nu bu ht th po ba en td ig ij f st hI hf n hn) (z_rec cx.2 (hW.at 0 rfl) rfl) hW zl ⟨rfl, rfl⟩ ⟨by have := (Inv.n0 hI.1).2; simp only [rm0']; omega, by have := (Inv.n0 hI.1).2; simp only [rm0']; omega⟩ rfl zs zt z8 zd zf kk
theorem vm_X8_swing : zVm yX8_swing cX8_swing 4 (some FieldType.int) 3 := ⟨m_co_X8_swing, m_in_RX8, ⟨m_im_X8_swing, m_se_X8_X8_swing⟩, by decide +kernel, by decide +kernel, by decide +kernel⟩
set_option maxHeartbeats 4000000 in
set_option maxRecDepth 100000 in
theorem c_X8_swing (l : Launch) (E : zE) (a : Nat → Nat) (sv im rd wa kp so sz el pr ts nu bu ht : Nat → Int32) (th po ba en td : Int32) (ig : Bool) (ij : Bool) (x f st : Int32) (hI : Inv sv) : Met l yX8_swing (.code yX8_swing cX8_swing 4 (some FieldType.int) :: AllW) (rm0' 16 474) (zP E (fun H => WW E (wM a (E.2.1 0) sv im rd wa kp so sz el pr ts nu bu ht (bI ig) th po ba en td (bI ij)) gN H) [.ref (a 0), .int x, .int f, .int st]) (rQ (.int (swingP sv x f st))) 0 0 nF := by
  refine z_body (own := RX8) (by decide) rfl rfl ?_
  intro p e s m args below meth c ls cx hr hlk hnm hW hl
  have hx := cx.x
  have hb := cx.b
  have hl : lv_has ls 4 [(0, .ref (a 0)), (1, .int x), (2, .int f), (3, .int st)] := hl
  have hC := hI.1
  have hP10 := (Inv.n0 hC).2
  have hT7 := (Inv.n1 hC).2
  have hA24 := (Inv.n2 hC).2
  refine lv_aload_n (pc := 0) hx hb dX8_swing_0 rfl (lv_at hl 0 rfl) ?_
  refine lv_iload_n (pc := 1) hx hb dX8_swing_1 rfl (lv_at hl 1 rfl) ?_
  refine k_X8_isPiece (pc := 2) (x := x) cx hW  m_ml_X8_130 ⟨Nat.le_of_ble_eq_true rfl, Nat.le_of_ble_eq_true rfl⟩ hl.1 rfl (by simp [Value.category]) dX8_swing_2 ⟨Nat.le_refl _, Nat.le_refl _⟩ ?_
  refine z_ifeq (pc := 5) (tgt := 32) hx hb dX8_swing_5 (by decide) (fun c_1 => ?_) (fun c_1 => ?_)
  · skip
    refine lv_iconst (pc := 32) (v := (-1)) hx hb dX8_swing_32 (by decide) ?_
    exact z_iret cx hr hlk dX8_swing_33 (by first | rfl | (simp [swingP, c_1]; done))
  · skip
    obtain ⟨n, hn, rfl⟩ := pc_nat hC c_1
    have hN := iN_nI (n := n) (by omega)
    refine lv_iload_n (pc := 8) hx hb dX8_swing_8 rfl (lv_at hl 2 rfl) ?_
    refine k_X8_isTone (pc := 9) (x := f) cx  m_ml_X8_177 ⟨Nat.le_of_ble_eq_true rfl, Nat.le_of_ble_eq_true rfl⟩ hl.1 rfl (by simp [Value.category]) dX8_swing_9 ⟨Nat.le_refl _, Nat.le_refl _⟩ ?_
    refine z_ifeq (pc := 12) (tgt := 32) hx hb dX8_swing_12 (by decide) (fun c_2 => ?_) (fun c_2 => ?_)
    · skip
      refine lv_iconst (pc := 32) (v := (-1)) hx hb dX8_swing_32 (by decide) ?_
      exact z_iret cx hr hlk dX8_swing_33 (by first | rfl | (simp [swingP, c_1, hN, c_2]; done))
    · skip
      have hf := tone_rg c_2
      refine lv_iload_n (pc := 15) hx hb dX8_swing_15 rfl (lv_at hl 3 rfl) ?_
      refine k_X8_isStrong (pc := 16) (x := st) cx  m_ml_X8_180 ⟨Nat.le_of_ble_eq_true rfl, Nat.le_of_ble_eq_true rfl⟩ hl.1 rfl (by simp [Value.category]) dX8_swing_16 ⟨Nat.le_refl _, Nat.le_refl _⟩ ?_
      refine z_ifeq (pc := 19) (tgt := 32) hx hb dX8_swing_19 (by decide) (fun c_3 => ?_) (fun c_3 => ?_)
      · skip
        refine lv_iconst (pc := 32) (v := (-1)) hx hb dX8_swing_32 (by decide) ?_
        exact z_iret cx hr hlk dX8_swing_33 (by first | rfl | (simp [swingP, c_1, hN, c_2, c_3]; done))
      · skip
        refine lv_aload_n (pc := 22) hx hb dX8_swing_22 rfl (lv_at hl 0 rfl) ?_
        refine lv_iload_n (pc := 23) hx hb dX8_swing_23 rfl (lv_at hl 1 rfl) ?_
        refine lv_iload_n (pc := 24) hx hb dX8_swing_24 rfl (lv_at hl 2 rfl) ?_
        refine lv_iload_n (pc := 25) hx hb dX8_swing_25 rfl (lv_at hl 3 rfl) ?_
        refine k_X8_swingOf (pc := 26) (n := n) (f := f) (st := st) cx hW hI (by unfold rg at hf ⊢; omega) hn m_ml_X8_174 ⟨Nat.le_of_ble_eq_true rfl, Nat.le_of_ble_eq_true rfl⟩ hl.1 rfl (by simp [Value.category]) dX8_swing_26 ⟨Nat.le_refl _, Nat.le_refl _⟩ ?_
        refine lv_goto (pc := 29) (tgt := 33) hx hb dX8_swing_29 (by decide) ?_
        exact z_iret cx hr hlk dX8_swing_33 (by first | rfl | (simp [swingP, c_1, hN, c_2, c_3]; done))
theorem k_X8_swing {p : Program} {l : Launch} {e : Env} {R : Room} {s : State} {m : MethodId} {args : Array Value} {below : List Frame} {meth : Method} {c : Code} {H : Heap} {locs : List Loc} {cells slots : Nat} {Q : State → Prop} {cc : ByteArray} {pc index : Nat} {ls : Array Slot} {rest st0 : List Value} {E : zE} {own : String} {nL : Nat} {a : Nat → Nat} {sv im rd wa kp so sz el pr ts nu bu ht : Nat → Int32} {th po ba en td : Int32} {ig : Bool} {ij : Bool} {x f st : Int32} (cx : Cx E p s args m c own cc nL) (hW : WW E (wM a (E.2.1 0) sv im rd wa kp so sz el pr ts nu bu ht (bI ig) th po ba en td (bI ij)) gN H) (hI : Inv sv) (zl : Cond.methodLink own index yX8_swing ∈ AllW) (zR : 16 + 1 ≤ R.frames ∧ 8 + (4 + 11) + 474 ≤ R.locals) (zs : ls.size = nL) (zt : st0 = ([.int x, .int f, .int st] : List Value).reverse ++ .ref (a 0) :: rest) (z8 : (rest.map fun v => v.category).sum ≤ 8) (zd : decode cc pc = .ok (.invokevirtual index, 3)) (zf : cells ≤ R.cells ∧ slots ≤ R.slots) (kk : W p l e R s m args below meth c H locs cells slots Q (F0 m (pc + 3) ls (.int (swingP sv x f st) :: rest))) : W p l e R s m args below meth c H locs cells slots Q (F0 m pc ls st0) :=
  z_callV cx vm_X8_swing (c_X8_swing l E a sv im rd wa kp so sz el pr ts nu bu ht th po ba en td ig ij x f st hI) (z_rec cx.2 (hW.at 0 rfl) rfl) hW zl ⟨rfl, rfl⟩ zR rfl zs zt z8 zd zf kk
