theorem vm_X2_toneWith : zVm yX2_toneWith cX2_toneWith 3 (some FieldType.int) 1 := ⟨m_co_X2_toneWith, m_in_RX2, ⟨m_im_X2_toneWith, m_se_X2_X2_toneWith⟩, by decide +kernel, by decide +kernel, by decide +kernel⟩
set_option maxHeartbeats 1000000 in
set_option maxRecDepth 100000 in
theorem c_X2_toneWith (l : Launch) (E : zE) (q : Nat) (v0 v1 v2 v3 v4 : Int32) (x : Int32)  : Met l yX2_toneWith (.code yX2_toneWith cX2_toneWith 3 (some FieldType.int) :: AllW) (rm0' 0 0) (zP E (fun H => va_at E.1 vwCl (q, ceP v0 v1 v2 v3 v4) H) [.ref q, .int x]) (rQ (.int (toW v0 v2 x))) 0 0 nF := by
  refine z_body (own := RX2) (by decide) rfl rfl ?_
  intro p e s m args below meth c ls cx hr hlk hnm hW hl
  have hx := cx.x
  have hb := cx.b
  have hl : lv_has ls 3 [(0, .ref q), (1, .int x)] := hl
  refine lv_iconst (pc := 0) (v := 2) hx hb dX2_toneWith_0 (by decide) ?_
  refine lv_aload_n (pc := 1) hx hb dX2_toneWith_1 rfl (lv_at hl 0 rfl) ?_
  refine z_get (pc := 2) cx hW (C := RX2) (T := TX2) (N := 5) rfl i_X2 2 rfl m_fl_X2_18 rfl dX2_toneWith_2 ?_
  refine lv_imul (pc := 5) hx hb dX2_toneWith_5 ?_
  refine lv_iload_n (pc := 6) hx hb dX2_toneWith_6 rfl (lv_at hl 1 rfl) ?_
  refine lv_iadd (pc := 7) hx hb dX2_toneWith_7 ?_
  refine lv_istore_n (pc := 8) (lv' := [(2, .int ((2 * v2) + x)), (0, .ref q), (1, .int x)]) hx hb dX2_toneWith_8 rfl hl (by decide) rfl (fun ls hl => ?_)
  refine lv_iload_n (pc := 9) hx hb dX2_toneWith_9 rfl (lv_at hl 0 rfl) ?_
  refine lv_if_le (pc := 10) (tgt := 29) hx hb dX2_toneWith_10 (by decide) (fun c_1 => ?_) (fun c_1 => ?_)
  · skip
    refine lv_aload_n (pc := 29) hx hb dX2_toneWith_29 rfl (lv_at hl 1 rfl) ?_
    refine z_get (pc := 30) cx hW (C := RX2) (T := TX2) (N := 5) rfl i_X2 0 rfl m_fl_X2_9 rfl dX2_toneWith_30 ?_
    exact z_iret cx hr hlk dX2_toneWith_33 (by first | rfl | (simp [toW, c_1, i_nlt.mpr c_1]; done))
  · skip
    refine lv_aload_n (pc := 13) hx hb dX2_toneWith_13 rfl (lv_at hl 1 rfl) ?_
    refine z_get (pc := 14) cx hW (C := RX2) (T := TX2) (N := 5) rfl i_X2 0 rfl m_fl_X2_9 rfl dX2_toneWith_14 ?_
    refine lv_aload_n (pc := 17) hx hb dX2_toneWith_17 rfl (lv_at hl 1 rfl) ?_
    refine z_get (pc := 18) cx hW (C := RX2) (T := TX2) (N := 5) rfl i_X2 0 rfl m_fl_X2_9 rfl dX2_toneWith_18 ?_
    refine lv_iload_n (pc := 21) hx hb dX2_toneWith_21 rfl (lv_at hl 2 rfl) ?_
    refine lv_imul (pc := 22) hx hb dX2_toneWith_22 ?_
    refine lv_iload_n (pc := 23) hx hb dX2_toneWith_23 rfl (lv_at hl 0 rfl) ?_
    refine lv_idiv (pc := 24) hx hb dX2_toneWith_24 (nz_le c_1) ?_
    refine lv_isub (pc := 25) hx hb dX2_toneWith_25 ?_
    refine lv_goto (pc := 26) (tgt := 33) hx hb dX2_toneWith_26 (by decide) ?_
    exact z_iret cx hr hlk dX2_toneWith_33 (by first | rfl | (simp [toW, c_1, i_nle.mp c_1]; done))
theorem k_X2_toneWith {p : Program} {l : Launch} {e : Env} {R : Room} {s : State} {m : MethodId} {args : Array Value} {below : List Frame} {meth : Method} {c : Code} {H : Heap} {locs : List Loc} {cells slots : Nat} {Q : State → Prop} {cc : ByteArray} {pc index : Nat} {ls : Array Slot} {rest st0 : List Value} {E : zE} {own : String} {nL : Nat} {q : Nat} {v0 v1 v2 v3 v4 : Int32} {x : Int32} (cx : Cx E p s args m c own cc nL) (hW : va_at E.1 vwCl (q, ceP v0 v1 v2 v3 v4) H)  (zl : Cond.methodLink own index yX2_toneWith ∈ AllW) (zR : 0 + 1 ≤ R.frames ∧ 8 + (3 + 11) + 0 ≤ R.locals) (zs : ls.size = nL) (zt : st0 = ([.int x] : List Value).reverse ++ .ref q :: rest) (z8 : (rest.map fun v => v.category).sum ≤ 8) (zd : decode cc pc = .ok (.invokevirtual index, 3)) (zf : cells ≤ R.cells ∧ slots ≤ R.slots) (kk : W p l e R s m args below meth c H locs cells slots Q (F0 m (pc + 3) ls (.int (toW v0 v2 x) :: rest))) : W p l e R s m args below meth c H locs cells slots Q (F0 m pc ls st0) :=
  z_callV cx vm_X2_toneWith (c_X2_toneWith l E q v0 v1 v2 v3 v4 x) (z_rec cx.2 hW rfl) hW zl ⟨rfl, rfl⟩ zR rfl zs zt z8 zd zf kk
theorem vm_X2_lossHeld : zVm yX2_lossHeld cX2_lossHeld 2 (some FieldType.int) 1 := ⟨m_co_X2_lossHeld, m_in_RX2, ⟨m_im_X2_lossHeld, m_se_X2_X2_lossHeld⟩, by decide +kernel, by decide +kernel, by decide +kernel⟩
set_option maxHeartbeats 1000000 in
set_option maxRecDepth 100000 in
theorem c_X2_lossHeld (l : Launch) (E : zE) (q : Nat) (v0 v1 v2 v3 v4 : Int32) (h : Bool)  : Met l yX2_lossHeld (.code yX2_lossHeld cX2_lossHeld 2 (some FieldType.int) :: AllW) (rm0' 0 0) (zP E (fun H => va_at E.1 vwCl (q, ceP v0 v1 v2 v3 v4) H) [.ref q, .int (bI h)]) (rQ (.int (lhC v1 h))) 0 0 nF := by
  refine z_body (own := RX2) (by decide) rfl rfl ?_
  intro p e s m args below meth c ls cx hr hlk hnm hW hl
  have hx := cx.x
  have hb := cx.b
  have hl : lv_has ls 2 [(0, .ref q), (1, .int (bI h))] := hl
  refine lv_iload_n (pc := 0) hx hb dX2_lossHeld_0 rfl (lv_at hl 1 rfl) ?_
  refine z_ifeq (pc := 1) (tgt := 13) hx hb dX2_lossHeld_1 (by decide) (fun c_1 => ?_) (fun c_1 => ?_)
  · skip
    refine lv_aload_n (pc := 13) hx hb dX2_lossHeld_13 rfl (lv_at hl 0 rfl) ?_
    refine z_get (pc := 14) cx hW (C := RX2) (T := TX2) (N := 5) rfl i_X2 1 rfl m_fl_X2_15 rfl dX2_lossHeld_14 ?_
    exact z_iret cx hr hlk dX2_lossHeld_17 (by first | rfl | (simp [lhC, c_1]; done))
  · skip
    refine lv_iconst (pc := 4) (v := 2) hx hb dX2_lossHeld_4 (by decide) ?_
    refine lv_aload_n (pc := 5) hx hb dX2_lossHeld_5 rfl (lv_at hl 0 rfl) ?_
    refine z_get (pc := 6) cx hW (C := RX2) (T := TX2) (N := 5) rfl i_X2 1 rfl m_fl_X2_15 rfl dX2_lossHeld_6 ?_
    refine lv_imul (pc := 9) hx hb dX2_lossHeld_9 ?_
    refine lv_goto (pc := 10) (tgt := 17) hx hb dX2_lossHeld_10 (by decide) ?_
    exact z_iret cx hr hlk dX2_lossHeld_17 (by first | rfl | (simp [lhC, c_1]; done))
theorem k_X2_lossHeld {p : Program} {l : Launch} {e : Env} {R : Room} {s : State} {m : MethodId} {args : Array Value} {below : List Frame} {meth : Method} {c : Code} {H : Heap} {locs : List Loc} {cells slots : Nat} {Q : State → Prop} {cc : ByteArray} {pc index : Nat} {ls : Array Slot} {rest st0 : List Value} {E : zE} {own : String} {nL : Nat} {q : Nat} {v0 v1 v2 v3 v4 : Int32} {h : Bool} (cx : Cx E p s args m c own cc nL) (hW : va_at E.1 vwCl (q, ceP v0 v1 v2 v3 v4) H)  (zl : Cond.methodLink own index yX2_lossHeld ∈ AllW) (zR : 0 + 1 ≤ R.frames ∧ 8 + (2 + 11) + 0 ≤ R.locals) (zs : ls.size = nL) (zt : st0 = ([.int (bI h)] : List Value).reverse ++ .ref q :: rest) (z8 : (rest.map fun v => v.category).sum ≤ 8) (zd : decode cc pc = .ok (.invokevirtual index, 3)) (zf : cells ≤ R.cells ∧ slots ≤ R.slots) (kk : W p l e R s m args below meth c H locs cells slots Q (F0 m (pc + 3) ls (.int (lhC v1 h) :: rest))) : W p l e R s m args below meth c H locs cells slots Q (F0 m pc ls st0) :=
  z_callV cx vm_X2_lossHeld (c_X2_lossHeld l E q v0 v1 v2 v3 v4 h) (z_rec cx.2 hW rfl) hW zl ⟨rfl, rfl⟩ zR rfl zs zt z8 zd zf kk
theorem vm_X2_passWith : zVm yX2_passWith cX2_passWith 2 (some FieldType.int) 1 := ⟨m_co_X2_passWith, m_in_RX2, ⟨m_im_X2_passWith, m_se_X2_X2_passWith⟩, by decide +kernel, by decide +kernel, by decide +kernel⟩
set_option maxHeartbeats 1000000 in
set_option maxRecDepth 100000 in
theorem c_X2_passWith (l : Launch) (E : zE) (q : Nat) (v0 v1 v2 v3 v4 : Int32) (x : Int32)  : Met l yX2_passWith (.code yX2_passWith cX2_passWith 2 (some FieldType.int) :: AllW) (rm0' 1 21) (zP E (fun H => va_at E.1 vwCl (q, ceP v0 v1 v2 v3 v4) H) [.ref q, .int x]) (rQ (.int (hld (v4 + x) 0 99))) 0 0 nF := by
  refine z_body (own := RX2) (by decide) rfl rfl ?_
  intro p e s m args below meth c ls cx hr hlk hnm hW hl
  have hx := cx.x
  have hb := cx.b
  have hl : lv_has ls 2 [(0, .ref q), (1, .int x)] := hl
  refine lv_iconst (pc := 0) (v := 0) hx hb dX2_passWith_0 (by decide) ?_
  refine lv_bipush (pc := 1) (v := 99) hx hb dX2_passWith_1 (by decide) ?_
  refine lv_aload_n (pc := 3) hx hb dX2_passWith_3 rfl (lv_at hl 0 rfl) ?_
  refine z_get (pc := 4) cx hW (C := RX2) (T := TX2) (N := 5) rfl i_X2 4 rfl m_fl_X2_24 rfl dX2_passWith_4 ?_
  refine lv_iload_n (pc := 7) hx hb dX2_passWith_7 rfl (lv_at hl 1 rfl) ?_
  refine lv_iadd (pc := 8) hx hb dX2_passWith_8 ?_
  refine z_mmin (pc := 9) cx hl.1 m_ml_X2_27 ⟨Nat.le_of_ble_eq_true rfl, Nat.le_of_ble_eq_true rfl⟩ (by simp [Value.category]) ⟨Nat.le_refl _, Nat.le_refl _⟩ dX2_passWith_9 ?_
  refine z_mmax (pc := 12) cx hl.1 m_ml_X2_33 ⟨Nat.le_of_ble_eq_true rfl, Nat.le_of_ble_eq_true rfl⟩ (by simp [Value.category]) ⟨Nat.le_refl _, Nat.le_refl _⟩ dX2_passWith_12 ?_
  exact z_iret cx hr hlk dX2_passWith_15 (hld_C _)
theorem k_X2_passWith {p : Program} {l : Launch} {e : Env} {R : Room} {s : State} {m : MethodId} {args : Array Value} {below : List Frame} {meth : Method} {c : Code} {H : Heap} {locs : List Loc} {cells slots : Nat} {Q : State → Prop} {cc : ByteArray} {pc index : Nat} {ls : Array Slot} {rest st0 : List Value} {E : zE} {own : String} {nL : Nat} {q : Nat} {v0 v1 v2 v3 v4 : Int32} {x : Int32} (cx : Cx E p s args m c own cc nL) (hW : va_at E.1 vwCl (q, ceP v0 v1 v2 v3 v4) H)  (zl : Cond.methodLink own index yX2_passWith ∈ AllW) (zR : 1 + 1 ≤ R.frames ∧ 8 + (2 + 11) + 21 ≤ R.locals) (zs : ls.size = nL) (zt : st0 = ([.int x] : List Value).reverse ++ .ref q :: rest) (z8 : (rest.map fun v => v.category).sum ≤ 8) (zd : decode cc pc = .ok (.invokevirtual index, 3)) (zf : cells ≤ R.cells ∧ slots ≤ R.slots) (kk : W p l e R s m args below meth c H locs cells slots Q (F0 m (pc + 3) ls (.int (hld (v4 + x) 0 99) :: rest))) : W p l e R s m args below meth c H locs cells slots Q (F0 m pc ls st0) :=
  z_callV cx vm_X2_passWith (c_X2_passWith l E q v0 v1 v2 v3 v4 x) (z_rec cx.2 hW rfl) hW zl ⟨rfl, rfl⟩ zR rfl zs zt z8 zd zf kk
theorem vm_X5_waxOn : zVm yX5_waxOn cX5_waxOn 2 (some FieldType.int) 1 := ⟨m_co_X5_waxOn, m_in_RX5, ⟨m_im_X5_waxOn, m_se_X5_X5_waxOn⟩, by decide +kernel, by decide +kernel, by decide +kernel⟩
set_option maxHeartbeats 1000000 in
set_option maxRecDepth 100000 in
theorem c_X5_waxOn (l : Launch) (E : zE) (q w : Nat) (v0 v1 v2 v3 v4 : Int32) (x : Nat → Int32) (n : Nat) (hn : n < 10) : Met l yX5_waxOn (.code yX5_waxOn cX5_waxOn 2 (some FieldType.int) :: AllW) (rm0' 0 0) (zP E (fun H => va_at E.1 vwCl (q, ceS v0 v1 v2 v3 v4 w) H ∧ va_at E.1 vwCl (w, ceI E.2.1 10 x) H) [.ref q, .int (nI n)]) (rQ (.int (x n))) 0 0 nF := by
  refine z_body (own := RX5) (by decide) rfl rfl ?_
  intro p e s m args below meth c ls cx hr hlk hnm hW hl
  have hx := cx.x
  have hb := cx.b
  have hl : lv_has ls 2 [(0, .ref q), (1, .int (nI n))] := hl
  refine lv_iload_n (pc := 0) hx hb dX5_waxOn_0 rfl (lv_at hl 1 rfl) ?_
  refine lv_if_lt (pc := 1) (tgt := 19) hx hb dX5_waxOn_1 (by decide) (fun c_1 => ?_) (fun c_1 => ?_)
  · skip
    exact absurd c_1 (nI_n0 (by omega))
  · skip
    refine lv_iload_n (pc := 4) hx hb dX5_waxOn_4 rfl (lv_at hl 1 rfl) ?_
    refine lv_bipush (pc := 5) (v := 10) hx hb dX5_waxOn_5 (by decide) ?_
    refine lv_icmp_ge (pc := 7) (tgt := 19) hx hb dX5_waxOn_7 (by decide) (fun c_2 => ?_) (fun c_2 => ?_)
    · skip
      have h3 := ge_nat (a := n) (b := 10) rfl rfl (by omega) (by omega) c_2
      omega
    · skip
      refine lv_aload_n (pc := 10) hx hb dX5_waxOn_10 rfl (lv_at hl 0 rfl) ?_
      refine z_get (pc := 11) cx hW.1 (C := RX5) (T := TX5) (N := 6) rfl i_X5 5 rfl m_fl_X5_15 rfl dX5_waxOn_11 ?_
      refine lv_iload_n (pc := 14) hx hb dX5_waxOn_14 rfl (lv_at hl 1 rfl) ?_
      refine z_iald (pc := 15) (f := x) (j := n) cx hW.2 rfl (by omega) (by omega) dX5_waxOn_15 ?_
      refine lv_goto (pc := 16) (tgt := 20) hx hb dX5_waxOn_16 (by decide) ?_
      exact z_iret cx hr hlk dX5_waxOn_20 (by first | rfl | (simp [c_1, c_2, i_nlt.mp c_1, i_nle.mp c_2]; done))
theorem k_X5_waxOn {p : Program} {l : Launch} {e : Env} {R : Room} {s : State} {m : MethodId} {args : Array Value} {below : List Frame} {meth : Method} {c : Code} {H : Heap} {locs : List Loc} {cells slots : Nat} {Q : State → Prop} {cc : ByteArray} {pc index : Nat} {ls : Array Slot} {rest st0 : List Value} {E : zE} {own : String} {nL : Nat} {q w : Nat} {v0 v1 v2 v3 v4 : Int32} {x : Nat → Int32} {n : Nat} (cx : Cx E p s args m c own cc nL) (hW : va_at E.1 vwCl (q, ceS v0 v1 v2 v3 v4 w) H ∧ va_at E.1 vwCl (w, ceI E.2.1 10 x) H) (hn : n < 10) (zl : Cond.methodLink own index yX5_waxOn ∈ AllW) (zR : 0 + 1 ≤ R.frames ∧ 8 + (2 + 11) + 0 ≤ R.locals) (zs : ls.size = nL) (zt : st0 = ([.int (nI n)] : List Value).reverse ++ .ref q :: rest) (z8 : (rest.map fun v => v.category).sum ≤ 8) (zd : decode cc pc = .ok (.invokevirtual index, 3)) (zf : cells ≤ R.cells ∧ slots ≤ R.slots) (kk : W p l e R s m args below meth c H locs cells slots Q (F0 m (pc + 3) ls (.int (x n) :: rest))) : W p l e R s m args below meth c H locs cells slots Q (F0 m pc ls st0) :=
  z_callV cx vm_X5_waxOn (c_X5_waxOn l E q w v0 v1 v2 v3 v4 x n hn) (z_rec cx.2 hW.1 rfl) hW zl ⟨rfl, rfl⟩ zR rfl zs zt z8 zd zf kk
theorem vm_X1_isPiece : zVm yX1_isPiece cX1_isPiece 2 (some FieldType.boolean) 1 := ⟨m_co_X1_isPiece, m_in_RX1, ⟨m_im_X1_isPiece, m_se_X1_X1_isPiece⟩, by decide +kernel, by decide +kernel, by decide +kernel⟩
set_option maxHeartbeats 1000000 in
set_option maxRecDepth 100000 in
theorem c_X1_isPiece (l : Launch) (E : zE) (b : Nat → Nat) (tl : va_W) (pd : Bool) (qt : Nat → Option Nat) (qr : Nat → Option Nat) (tbu : Nat → Int32) (wst : Nat → Int32) (asw : Nat → Int32) (pN : Int32) (tN : Int32) (aN : Int32) (hd : Int32) (dr : Int32) (pl : Int32) (rm : Int32) (ps : Int32) (wx : Nat → Int32) (pp : Nat → Option Nat) (tp : Nat → Option Nat) (ap : Nat → Option Nat) (sg : Nat → Int32) (uh : Int32) (ud : Int32) (up : Int32) (ur : Int32) (us : Int32) (ux : Nat → Int32) (G : zG) (x : Int32) (r : Nat → Int32) (hC : InvC r) (hpN : pN = nI (nP r)) : Met l yX1_isPiece (.code yX1_isPiece cX1_isPiece 2 (some FieldType.boolean) :: AllW) (rm0' 0 0) (zP E (fun H => WW E (wK b E.2.1 tl pd qt qr tbu wst asw pN tN aN hd dr pl rm ps wx pp tp ap sg uh ud up ur us ux) G H) [.ref (b 6), .int x]) (rQ (.int (bI (isPc r x)))) 0 0 nF := by
  refine z_body (own := RX1) (by decide) rfl rfl ?_
  intro p e s m args below meth c ls cx hr hlk hnm hW hl
  have hx := cx.x
  have hb := cx.b
  have hl : lv_has ls 2 [(0, .ref (b 6)), (1, .int x)] := hl
  have e0 := (Inv.n0 hC).1
  have e3 : pN = r 0 := hpN.trans e0.symm
  refine lv_iload_n (pc := 0) hx hb dX1_isPiece_0 rfl (lv_at hl 1 rfl) ?_
  refine lv_if_lt (pc := 1) (tgt := 22) hx hb dX1_isPiece_1 (by decide) (fun c_1 => ?_) (fun c_1 => ?_)
  · skip
    refine lv_iconst (pc := 22) (v := 0) hx hb dX1_isPiece_22 (by decide) ?_
    exact z_zret cx hr hlk dX1_isPiece_23 (by first | rfl | (simp [isP_C hC, ← e3, bI, c_1, i_nle.mpr c_1]; done))
  · skip
    refine lv_iload_n (pc := 4) hx hb dX1_isPiece_4 rfl (lv_at hl 1 rfl) ?_
    refine lv_aload_n (pc := 5) hx hb dX1_isPiece_5 rfl (lv_at hl 0 rfl) ?_
    refine z_get (pc := 6) cx (hW.at 6 rfl) (C := RX1) (T := TX1) (N := 8) rfl i_X1 0 rfl m_fl_X1_40 rfl dX1_isPiece_6 ?_
    refine lv_icmp_ge (pc := 9) (tgt := 22) hx hb dX1_isPiece_9 (by decide) (fun c_2 => ?_) (fun c_2 => ?_)
    · skip
      refine lv_iconst (pc := 22) (v := 0) hx hb dX1_isPiece_22 (by decide) ?_
      exact z_zret cx hr hlk dX1_isPiece_23 (by first | rfl | (simp [isP_C hC, ← e3, bI, c_1, c_2, i_nlt.mp c_1, i_nlt.mpr c_2]; done))
    · skip
      refine lv_iload_n (pc := 12) hx hb dX1_isPiece_12 rfl (lv_at hl 1 rfl) ?_
      refine lv_bipush (pc := 13) (v := 10) hx hb dX1_isPiece_13 (by decide) ?_
      refine lv_icmp_ge (pc := 15) (tgt := 22) hx hb dX1_isPiece_15 (by decide) (fun c_3 => ?_) (fun c_3 => ?_)
      · skip
        refine lv_iconst (pc := 22) (v := 0) hx hb dX1_isPiece_22 (by decide) ?_
        exact z_zret cx hr hlk dX1_isPiece_23 (by first | rfl | (simp [isP_C hC, ← e3, bI, c_1, c_2, c_3, i_nlt.mp c_1, i_nle.mp c_2, i_nlt.mpr c_3]; done))
      · skip
        refine lv_iconst (pc := 18) (v := 1) hx hb dX1_isPiece_18 (by decide) ?_
        refine lv_goto (pc := 19) (tgt := 23) hx hb dX1_isPiece_19 (by decide) ?_
        exact z_zret cx hr hlk dX1_isPiece_23 (by first | rfl | (simp [isP_C hC, ← e3, bI, c_1, c_2, c_3, i_nlt.mp c_1, i_nle.mp c_2, i_nle.mp c_3]; done))
theorem k_X1_isPiece {p : Program} {l : Launch} {e : Env} {R : Room} {s : State} {m : MethodId} {args : Array Value} {below : List Frame} {meth : Method} {c : Code} {H : Heap} {locs : List Loc} {cells slots : Nat} {Q : State → Prop} {cc : ByteArray} {pc index : Nat} {ls : Array Slot} {rest st0 : List Value} {E : zE} {own : String} {nL : Nat} {b : Nat → Nat} {tl : va_W} {pd : Bool} {qt : Nat → Option Nat} {qr : Nat → Option Nat} {tbu : Nat → Int32} {wst : Nat → Int32} {asw : Nat → Int32} {pN : Int32} {tN : Int32} {aN : Int32} {hd : Int32} {dr : Int32} {pl : Int32} {rm : Int32} {ps : Int32} {wx : Nat → Int32} {pp : Nat → Option Nat} {tp : Nat → Option Nat} {ap : Nat → Option Nat} {sg : Nat → Int32} {uh : Int32} {ud : Int32} {up : Int32} {ur : Int32} {us : Int32} {ux : Nat → Int32} {G : zG} {x : Int32} {r : Nat → Int32} (cx : Cx E p s args m c own cc nL) (hW : WW E (wK b E.2.1 tl pd qt qr tbu wst asw pN tN aN hd dr pl rm ps wx pp tp ap sg uh ud up ur us ux) G H) (hC : InvC r) (hpN : pN = nI (nP r)) (zl : Cond.methodLink own index yX1_isPiece ∈ AllW) (zR : 0 + 1 ≤ R.frames ∧ 8 + (2 + 11) + 0 ≤ R.locals) (zs : ls.size = nL) (zt : st0 = ([.int x] : List Value).reverse ++ .ref (b 6) :: rest) (z8 : (rest.map fun v => v.category).sum ≤ 8) (zd : decode cc pc = .ok (.invokevirtual index, 3)) (zf : cells ≤ R.cells ∧ slots ≤ R.slots) (kk : W p l e R s m args below meth c H locs cells slots Q (F0 m (pc + 3) ls (.int (bI (isPc r x)) :: rest))) : W p l e R s m args below meth c H locs cells slots Q (F0 m pc ls st0) :=
  z_callV cx vm_X1_isPiece (c_X1_isPiece l E b tl pd qt qr tbu wst asw pN tN aN hd dr pl rm ps wx pp tp ap sg uh ud up ur us ux G x r hC hpN) (z_rec cx.2 (hW.at 6 rfl) rfl) hW zl ⟨rfl, rfl⟩ zR rfl zs zt z8 zd zf kk
theorem vm_X1_isThing : zVm yX1_isThing cX1_isThing 2 (some FieldType.boolean) 1 := ⟨m_co_X1_isThing, m_in_RX1, ⟨m_im_X1_isThing, m_se_X1_X1_isThing⟩, by decide +kernel, by decide +kernel, by decide +kernel⟩
set_option maxHeartbeats 1000000 in
set_option maxRecDepth 100000 in
theorem c_X1_isThing (l : Launch) (E : zE) (b : Nat → Nat) (tl : va_W) (pd : Bool) (qt : Nat → Option Nat) (qr : Nat → Option Nat) (tbu : Nat → Int32) (wst : Nat → Int32) (asw : Nat → Int32) (pN : Int32) (tN : Int32) (aN : Int32) (hd : Int32) (dr : Int32) (pl : Int32) (rm : Int32) (ps : Int32) (wx : Nat → Int32) (pp : Nat → Option Nat) (tp : Nat → Option Nat) (ap : Nat → Option Nat) (sg : Nat → Int32) (uh : Int32) (ud : Int32) (up : Int32) (ur : Int32) (us : Int32) (ux : Nat → Int32) (G : zG) (x : Int32) (r : Nat → Int32) (hC : InvC r) (htN : tN = nI (nT r)) : Met l yX1_isThing (.code yX1_isThing cX1_isThing 2 (some FieldType.boolean) :: AllW) (rm0' 0 0) (zP E (fun H => WW E (wK b E.2.1 tl pd qt qr tbu wst asw pN tN aN hd dr pl rm ps wx pp tp ap sg uh ud up ur us ux) G H) [.ref (b 6), .int x]) (rQ (.int (bI (isTh r x)))) 0 0 nF := by
  refine z_body (own := RX1) (by decide) rfl rfl ?_
  intro p e s m args below meth c ls cx hr hlk hnm hW hl
  have hx := cx.x
  have hb := cx.b
  have hl : lv_has ls 2 [(0, .ref (b 6)), (1, .int x)] := hl
  have e1 := (Inv.n1 hC).1
  have e3 : tN = r 1 := htN.trans e1.symm
  refine lv_iload_n (pc := 0) hx hb dX1_isThing_0 rfl (lv_at hl 1 rfl) ?_
  refine lv_if_lt (pc := 1) (tgt := 22) hx hb dX1_isThing_1 (by decide) (fun c_1 => ?_) (fun c_1 => ?_)
  · skip
    refine lv_iconst (pc := 22) (v := 0) hx hb dX1_isThing_22 (by decide) ?_
    exact z_zret cx hr hlk dX1_isThing_23 (by first | rfl | (simp [isT_C hC, ← e3, bI, c_1, i_nle.mpr c_1]; done))
  · skip
    refine lv_iload_n (pc := 4) hx hb dX1_isThing_4 rfl (lv_at hl 1 rfl) ?_
    refine lv_aload_n (pc := 5) hx hb dX1_isThing_5 rfl (lv_at hl 0 rfl) ?_
    refine z_get (pc := 6) cx (hW.at 6 rfl) (C := RX1) (T := TX1) (N := 8) rfl i_X1 1 rfl m_fl_X1_44 rfl dX1_isThing_6 ?_
    refine lv_icmp_ge (pc := 9) (tgt := 22) hx hb dX1_isThing_9 (by decide) (fun c_2 => ?_) (fun c_2 => ?_)
    · skip
      refine lv_iconst (pc := 22) (v := 0) hx hb dX1_isThing_22 (by decide) ?_
      exact z_zret cx hr hlk dX1_isThing_23 (by first | rfl | (simp [isT_C hC, ← e3, bI, c_1, c_2, i_nlt.mp c_1, i_nlt.mpr c_2]; done))
    · skip
      refine lv_iload_n (pc := 12) hx hb dX1_isThing_12 rfl (lv_at hl 1 rfl) ?_
      refine lv_bipush (pc := 13) (v := 7) hx hb dX1_isThing_13 (by decide) ?_
      refine lv_icmp_ge (pc := 15) (tgt := 22) hx hb dX1_isThing_15 (by decide) (fun c_3 => ?_) (fun c_3 => ?_)
      · skip
        refine lv_iconst (pc := 22) (v := 0) hx hb dX1_isThing_22 (by decide) ?_
        exact z_zret cx hr hlk dX1_isThing_23 (by first | rfl | (simp [isT_C hC, ← e3, bI, c_1, c_2, c_3, i_nlt.mp c_1, i_nle.mp c_2, i_nlt.mpr c_3]; done))
      · skip
        refine lv_iconst (pc := 18) (v := 1) hx hb dX1_isThing_18 (by decide) ?_
        refine lv_goto (pc := 19) (tgt := 23) hx hb dX1_isThing_19 (by decide) ?_
        exact z_zret cx hr hlk dX1_isThing_23 (by first | rfl | (simp [isT_C hC, ← e3, bI, c_1, c_2, c_3, i_nlt.mp c_1, i_nle.mp c_2, i_nle.mp c_3]; done))
theorem k_X1_isThing {p : Program} {l : Launch} {e : Env} {R : Room} {s : State} {m : MethodId} {args : Array Value} {below : List Frame} {meth : Method} {c : Code} {H : Heap} {locs : List Loc} {cells slots : Nat} {Q : State → Prop} {cc : ByteArray} {pc index : Nat} {ls : Array Slot} {rest st0 : List Value} {E : zE} {own : String} {nL : Nat} {b : Nat → Nat} {tl : va_W} {pd : Bool} {qt : Nat → Option Nat} {qr : Nat → Option Nat} {tbu : Nat → Int32} {wst : Nat → Int32} {asw : Nat → Int32} {pN : Int32} {tN : Int32} {aN : Int32} {hd : Int32} {dr : Int32} {pl : Int32} {rm : Int32} {ps : Int32} {wx : Nat → Int32} {pp : Nat → Option Nat} {tp : Nat → Option Nat} {ap : Nat → Option Nat} {sg : Nat → Int32} {uh : Int32} {ud : Int32} {up : Int32} {ur : Int32} {us : Int32} {ux : Nat → Int32} {G : zG} {x : Int32} {r : Nat → Int32} (cx : Cx E p s args m c own cc nL) (hW : WW E (wK b E.2.1 tl pd qt qr tbu wst asw pN tN aN hd dr pl rm ps wx pp tp ap sg uh ud up ur us ux) G H) (hC : InvC r) (htN : tN = nI (nT r)) (zl : Cond.methodLink own index yX1_isThing ∈ AllW) (zR : 0 + 1 ≤ R.frames ∧ 8 + (2 + 11) + 0 ≤ R.locals) (zs : ls.size = nL) (zt : st0 = ([.int x] : List Value).reverse ++ .ref (b 6) :: rest) (z8 : (rest.map fun v => v.category).sum ≤ 8) (zd : decode cc pc = .ok (.invokevirtual index, 3)) (zf : cells ≤ R.cells ∧ slots ≤ R.slots) (kk : W p l e R s m args below meth c H locs cells slots Q (F0 m (pc + 3) ls (.int (bI (isTh r x)) :: rest))) : W p l e R s m args below meth c H locs cells slots Q (F0 m pc ls st0) :=
  z_callV cx vm_X1_isThing (c_X1_isThing l E b tl pd qt qr tbu wst asw pN tN aN hd dr pl rm ps wx pp tp ap sg uh ud up ur us ux G x r hC htN) (z_rec cx.2 (hW.at 6 rfl) rfl) hW zl ⟨rfl, rfl⟩ zR rfl zs zt z8 zd zf kk
theorem vm_X1_swingOf : zVm yX1_swingOf cX1_swingOf 10 (some FieldType.int) 4 := ⟨m_co_X1_swingOf, m_in_RX1, ⟨m_im_X1_swingOf, m_se_X1_X1_swingOf⟩, by decide +kernel, by decide +kernel, by decide +kernel⟩
set_option maxHeartbeats 1000000 in
set_option maxRecDepth 100000 in
theorem c_X1_swingOf (l : Launch) (E : zE) (b : Nat → Nat) (tl : va_W) (pd : Bool) (qt : Nat → Option Nat) (qr : Nat → Option Nat) (tbu : Nat → Int32) (wst : Nat → Int32) (asw : Nat → Int32) (pN : Int32) (tN : Int32) (aN : Int32) (hd : Int32) (dr : Int32) (pl : Int32) (rm : Int32) (ps : Int32) (wx : Nat → Int32) (pp : Nat → Option Nat) (tp : Nat → Option Nat) (ap : Nat → Option Nat) (sg : Nat → Int32) (uh : Int32) (ud : Int32) (up : Int32) (ur : Int32) (us : Int32) (ux : Nat → Int32) (G : zG) (n : Nat) (f st : Int32) (t w : Nat) (r xw : Nat → Int32) (hI : Inv r) (hpN : pN = nI (nP r)) (hPc : PcG G r pp) (hn : n < nP r) (hf : rg f 1 2400) (hAt : ∀ (sg3 : Nat → Int32) (H : Heap), WW E (wK b E.2.1 tl pd qt qr tbu wst asw pN tN aN hd dr pl rm ps wx pp tp ap sg3 uh ud up ur us ux) G H → StA E H t w r xw) : Met l yX1_swingOf (.code yX1_swingOf cX1_swingOf 10 (some FieldType.int) :: AllW) (rm0' 2 42) (zP E (fun H => WW E (wK b E.2.1 tl pd qt qr tbu wst asw pN tN aN hd dr pl rm ps wx pp tp ap sg uh ud up ur us ux) G H) [.ref (b 6), .int (nI n), .ref t, .int f, .int st]) (zQ (fun (_ : Heap) (v : Option Value) (H1 : Heap) => (∃ (sg2 : Nat → Int32), v = some (.int (sw r n f st)) ∧ (∀ j, j ≤ n → sg2 j = sw r j f st) ∧ WW E (wK b E.2.1 tl pd qt qr tbu wst asw pN tN aN hd dr pl rm ps wx pp tp ap sg2 uh ud up ur us ux) G H1)) (bF b)) 0 0 (bF b) := by
  refine z_body (own := RX1) (by decide) rfl rfl ?_
  intro p e s m args below meth c ls cx hr hlk hnm hW hl
  have hx := cx.x
  have hb := cx.b
  have hl : lv_has ls 10 [(0, .ref (b 6)), (1, .int (nI n)), (2, .ref t), (3, .int f), (4, .int st)] := hl
  have hFb : ∀ k, (bF b) (b k) := fun k => bF_in b k
  have hS : va_S (bF b) s.heap s.heap [] := va_S.rf
  have hC := hI.1
  have hIS := hI.2.1
  have hP := hI.2.2.1
  have hT := hI.2.2.2.1
  have hP10 := (Inv.n0 hC).2
  have hT7 := (Inv.n1 hC).2
  have hA24 := (Inv.n2 hC).2
  have e0 := (Inv.n0 hC).1
  have e1 := (Inv.n1 hC).1
  have e2 := (Inv.n2 hC).1
  have hxw := (hAt _ _ hW).2.2
  refine lv_aload_n (pc := 0) hx hb dX1_swingOf_0 rfl (lv_at hl 0 rfl) ?_
  refine lv_iload_n (pc := 1) hx hb dX1_swingOf_1 rfl (lv_at hl 1 rfl) ?_
  refine k_X1_isPiece (pc := 2) (x := nI n) cx hW (by first | assumption | omega) (by first | assumption | omega) m_ml_X1_54 ⟨Nat.le_of_ble_eq_true rfl, Nat.le_of_ble_eq_true rfl⟩ hl.1 rfl (by simp [Value.category]) dX1_swingOf_2 ⟨Nat.le_refl _, Nat.le_refl _⟩ ?_
  refine z_ifne (pc := 5) (tgt := 10) hx hb dX1_swingOf_5 (by decide) (fun c_1 => ?_) (fun c_1 => ?_)
  · skip
    refine lv_iconst (pc := 10) (v := 0) hx hb dX1_swingOf_10 (by decide) ?_
    refine lv_istore (pc := 11) (lv' := [(5, .int 0), (0, .ref (b 6)), (1, .int (nI n)), (2, .ref t), (3, .int f), (4, .int st)]) hx hb dX1_swingOf_11 hl (by decide) rfl (fun ls hl => ?_)
    have loop_13 : ∀ (k_13 : Nat) (i : Nat) (x5 : Int32), (n + 1 - i) < k_13 → (i ≤ n + 1) → x5 = nI i → ∀ (sg2 : Nat → Int32) (H : Heap) (locs : List Loc), (∀ j, j < i → sg2 j = sw r j f st) → WW E (wK b E.2.1 tl pd qt qr tbu wst asw pN tN aN hd dr pl rm ps wx pp tp ap sg2 uh ud up ur us ux) G H → va_S (bF b) s.heap H locs → ∀ (ls : Array Slot), lv_has ls 10 [(5, .int x5), (0, .ref (b 6)), (1, .int (nI n)), (2, .ref t), (3, .int f), (4, .int st)] → W p l e (rm0' (2) (42)) s m args below meth c H locs 0 0 (MQ below (zQ (fun (_ : Heap) (v : Option Value) (H1 : Heap) => (∃ (sg2 : Nat → Int32), v = some (.int (sw r n f st)) ∧ (∀ j, j ≤ n → sg2 j = sw r j f st) ∧ WW E (wK b E.2.1 tl pd qt qr tbu wst asw pN tN aN hd dr pl rm ps wx pp tp ap sg2 uh ud up ur us ux) G H1)) (bF b)) args s 0 0 (bF b)) (F0 m 13 ls []) := by
      intro k_13
      induction k_13 with
      | zero =>
        intro i x5 hm
        exact absurd hm (Nat.not_lt_zero _)
      | succ k_13 ih_13 =>
        intro i x5 hm_13 hi e_x5 sg2 H locs hsg hW hS ls hl
        subst e_x5
        refine lv_iload (pc := 13) hx hb dX1_swingOf_13 (lv_at hl 0 rfl) ?_
        refine lv_iload_n (pc := 15) hx hb dX1_swingOf_15 rfl (lv_at hl 2 rfl) ?_
        refine lv_icmp_gt (pc := 16) (tgt := 157) hx hb dX1_swingOf_16 (by decide) (fun c_2 => ?_) (fun c_2 => ?_)
        · skip
          have hge := gtn (a := n) (b := i) rfl rfl (by omega) (by omega) c_2
          obtain rfl : i = n + 1 := by omega
          refine lv_aload_n (pc := 157) hx hb dX1_swingOf_157 rfl (lv_at hl 1 rfl) ?_
          refine z_get (pc := 158) cx (hW.at 6 rfl) (C := RX1) (T := TX1) (N := 8) rfl i_X1 7 rfl m_fl_X1_36 rfl dX1_swingOf_158 ?_
          refine lv_iload_n (pc := 161) hx hb dX1_swingOf_161 rfl (lv_at hl 2 rfl) ?_
          refine z_iald (pc := 162) (f := sg2) (j := n) cx (hW.at 12 rfl) rfl (by omega) (by decide) dX1_swingOf_162 ?_
          refine z_tope (y := sw r n f st) (hsg n (by omega)) ?_
          exact z_wiret cx hr hlk dX1_swingOf_163 hS ⟨_, rfl, (fun j h => hsg j (by omega)), hW⟩
        · skip
          have hle := ngt (a := n) (b := i) rfl rfl (by omega) (by omega) c_2
          have hiP : i < nP r := by omega
          have hjn := jn_C hP hiP (by omega)
          refine lv_aload_n (pc := 19) hx hb dX1_swingOf_19 rfl (lv_at hl 1 rfl) ?_
          refine z_get (pc := 20) cx (hW.at 6 rfl) (C := RX1) (T := TX1) (N := 8) rfl i_X1 4 rfl m_fl_X1_20 rfl dX1_swingOf_20 ?_
          refine lv_iload (pc := 23) hx hb dX1_swingOf_23 (lv_at hl 0 rfl) ?_
          refine z_aald (pc := 25) (f := pp) (j := i) cx 1 rfl (hW.at 9 rfl) rfl (by omega) (by decide) dX1_swingOf_25 ?_
          obtain ⟨q_3, h1q_3, h2q_3⟩ := hPc i (by omega)
          refine z_rfS h1q_3 ?_
          refine lv_astore (pc := 26) (lv' := [(6, .ref q_3), (5, .int (nI i)), (0, .ref (b 6)), (1, .int (nI n)), (2, .ref t), (3, .int f), (4, .int st)]) hx hb dX1_swingOf_26 hl (by decide) rfl (fun ls hl => ?_)
          refine lv_aload (pc := 28) hx hb dX1_swingOf_28 (lv_at hl 0 rfl) ?_
          refine lv_ifnonnull (pc := 30) (tgt := 35) hx hb dX1_swingOf_30 (by decide) ?_
          refine lv_aload (pc := 35) hx hb dX1_swingOf_35 (lv_at hl 0 rfl) ?_
          refine lv_aload_n (pc := 37) hx hb dX1_swingOf_37 rfl (lv_at hl 4 rfl) ?_
          refine z_get (pc := 38) cx ((hAt _ _ hW).1) (C := RX5) (T := TX5) (N := 6) rfl i_X5 0 rfl m_fl_X1_106 rfl dX1_swingOf_38 ?_
          refine lv_iload (pc := 41) hx hb dX1_swingOf_41 (lv_at hl 1 rfl) ?_
          refine lv_icmp_ne (pc := 43) (tgt := 50) hx hb dX1_swingOf_43 (by decide) (fun c_4 => ?_) (fun c_4 => ?_)
          · skip
            have hls := ls_f hI hiP c_4
            refine lv_iconst (pc := 50) (v := 0) hx hb dX1_swingOf_50 (by decide) ?_
            refine k_X2_lossHeld (pc := 51) (h := false) cx (hW.dyn h2q_3)  m_ml_X1_109 ⟨Nat.le_of_ble_eq_true rfl, Nat.le_of_ble_eq_true rfl⟩ hl.1 rfl (by simp [Value.category]) dX1_swingOf_51 ⟨Nat.le_refl _, Nat.le_refl _⟩ ?_
            refine z_tope (y := lsN r i) hls ?_
            refine lv_iload_n (pc := 54) hx hb dX1_swingOf_54 rfl (lv_at hl 5 rfl) ?_
            refine lv_aload (pc := 55) hx hb dX1_swingOf_55 (lv_at hl 0 rfl) ?_
            refine lv_aload_n (pc := 57) hx hb dX1_swingOf_57 rfl (lv_at hl 4 rfl) ?_
            refine lv_iload (pc := 58) hx hb dX1_swingOf_58 (lv_at hl 1 rfl) ?_
            refine k_X5_waxOn (pc := 60) (n := i) cx ⟨(hAt _ _ hW).1, (hAt _ _ hW).2.1⟩ (by first | assumption | omega) m_ml_X1_113 ⟨Nat.le_of_ble_eq_true rfl, Nat.le_of_ble_eq_true rfl⟩ hl.1 rfl (by simp [Value.category]) dX1_swingOf_60 ⟨Nat.le_refl _, Nat.le_refl _⟩ ?_
            refine z_tope (y := g6 r i 5) (hxw i hiP) ?_
            refine k_X2_toneWith (pc := 63) (x := g6 r i 5) cx (hW.dyn h2q_3)  m_ml_X1_116 ⟨Nat.le_of_ble_eq_true rfl, Nat.le_of_ble_eq_true rfl⟩ hl.1 rfl (by simp [Value.category]) dX1_swingOf_63 ⟨Nat.le_refl _, Nat.le_refl _⟩ ?_
            refine z_tope (y := tnN r i) (toW_tn hP hiP (wax_rg hIS (by omega))) ?_
            have hod := own_div hC hIS hP hiP hf
            refine lv_isub (pc := 66) hx hb dX1_swingOf_66 ?_
            refine z_mabs (pc := 67) cx hl.1 m_ml_X1_119 ⟨Nat.le_of_ble_eq_true rfl, Nat.le_of_ble_eq_true rfl⟩ (by simp [Value.category]) ⟨Nat.le_refl _, Nat.le_refl _⟩ dX1_swingOf_67 ?_
            refine lv_iadd (pc := 70) hx hb dX1_swingOf_70 ?_
            refine lv_istore (pc := 71) (lv' := [(7, .int ((lsN r i) + (amt (f - (tnN r i))))), (6, .ref q_3), (5, .int (nI i)), (0, .ref (b 6)), (1, .int (nI n)), (2, .ref t), (3, .int f), (4, .int st)]) hx hb dX1_swingOf_71 hl (by decide) rfl (fun ls hl => ?_)
            refine lv_iload (pc := 73) hx hb dX1_swingOf_73 (lv_at hl 0 rfl) ?_
            refine lv_if_le (pc := 75) (tgt := 89) hx hb dX1_swingOf_75 (by decide) (fun c_5 => ?_) (fun c_5 => ?_)
            · skip
              exact absurd c_5 (Int32.not_le.mpr (pos_rg hod))
            · skip
              refine lv_iload (pc := 78) hx hb dX1_swingOf_78 (lv_at hl 7 rfl) ?_
              refine lv_bipush (pc := 80) (v := 100) hx hb dX1_swingOf_80 (by decide) ?_
              refine lv_imul (pc := 82) hx hb dX1_swingOf_82 ?_
              refine lv_iload (pc := 83) hx hb dX1_swingOf_83 (lv_at hl 0 rfl) ?_
              refine lv_idiv (pc := 85) hx hb dX1_swingOf_85 (nz_of (by unfold rg at hod; omega)) ?_
              refine z_tope (y := ownS r i f st) (by unfold ownS; rw [Int32.mul_comm]) ?_
              refine lv_goto (pc := 86) (tgt := 90) hx hb dX1_swingOf_86 (by decide) ?_
              refine lv_istore (pc := 90) (lv' := [(8, .int (ownS r i f st)), (7, .int ((lsN r i) + (amt (f - (tnN r i))))), (6, .ref q_3), (5, .int (nI i)), (0, .ref (b 6)), (1, .int (nI n)), (2, .ref t), (3, .int f), (4, .int st)]) hx hb dX1_swingOf_90 hl (by decide) rfl (fun ls hl => ?_)
              refine lv_aload (pc := 92) hx hb dX1_swingOf_92 (lv_at hl 2 rfl) ?_
              refine z_get (pc := 94) cx (hW.dyn h2q_3) (C := RX2) (T := TX2) (N := 5) rfl i_X2 3 rfl m_fl_X1_124 rfl dX1_swingOf_94 ?_
              refine lv_if_lt (pc := 97) (tgt := 136) hx hb dX1_swingOf_97 (by decide) (fun c_6 => ?_) (fun c_6 => ?_)
              · skip
                have hjr := hjn.1 c_6
                refine lv_iconst (pc := 136) (v := 0) hx hb dX1_swingOf_136 (by decide) ?_
                refine lv_istore (pc := 137) (lv' := [(9, .int 0), (8, .int (ownS r i f st)), (7, .int ((lsN r i) + (amt (f - (tnN r i))))), (6, .ref q_3), (5, .int (nI i)), (0, .ref (b 6)), (1, .int (nI n)), (2, .ref t), (3, .int f), (4, .int st)]) hx hb dX1_swingOf_137 hl (by decide) rfl (fun ls hl => ?_)
                refine lv_aload_n (pc := 139) hx hb dX1_swingOf_139 rfl (lv_at hl 5 rfl) ?_
                refine z_get (pc := 140) cx (hW.at 6 rfl) (C := RX1) (T := TX1) (N := 8) rfl i_X1 7 rfl m_fl_X1_36 rfl dX1_swingOf_140 ?_
                refine lv_iload (pc := 143) hx hb dX1_swingOf_143 (lv_at hl 4 rfl) ?_
                refine lv_iload (pc := 145) hx hb dX1_swingOf_145 (lv_at hl 1 rfl) ?_
                refine lv_iload (pc := 147) hx hb dX1_swingOf_147 (lv_at hl 0 rfl) ?_
                refine lv_iadd (pc := 149) hx hb dX1_swingOf_149 ?_
                refine z_tope (y := sw r i f st) ((Int32.add_zero _).trans (sw_root hjr).symm) ?_
                refine z_iast (pc := 150) (f := sg2) (j := i) cx hW hS 12 rfl (hFb 12) rfl (by omega) (by decide) dX1_swingOf_150 (fun H locs hW hS => ?_)
                have hW : WW E (wK b E.2.1 tl pd qt qr tbu wst asw pN tN aN hd dr pl rm ps wx pp tp ap (upd sg2 i (sw r i f st)) uh ud up ur us ux) G H := hW
                refine lv_iinc (pc := 151) (v := nI (i + 1)) (lv' := [(5, .int (nI (i + 1))), (9, .int 0), (8, .int (ownS r i f st)), (7, .int ((lsN r i) + (amt (f - (tnN r i))))), (6, .ref q_3), (0, .ref (b 6)), (1, .int (nI n)), (2, .ref t), (3, .int f), (4, .int st)]) hx hb dX1_swingOf_151 hl (k := 4) rfl (nI_1 _) (by decide) rfl (fun ls hl => ?_)
                refine lv_goto (pc := 154) (tgt := 13) hx hb dX1_swingOf_154 (by decide) ?_
                exact ih_13 (i + 1) (nI (i + 1)) (by omega) (by omega) (by first | rfl | (simp [c_1, c_4, c_5, c_6, i_nle.mp c_5, i_nle.mpr c_6]; done)) _ _ _ (upd_nx (g := fun j => sw r j f st) hsg) (hW) hS ls (lv_sub hl [0, 5, 6, 7, 8, 9] rfl)
              · skip
                obtain ⟨j, hj, ej, ej2⟩ := hjn.2 c_6
                refine lv_aload (pc := 100) hx hb dX1_swingOf_100 (lv_at hl 2 rfl) ?_
                refine z_get (pc := 102) cx (hW.dyn h2q_3) (C := RX2) (T := TX2) (N := 5) rfl i_X2 3 rfl m_fl_X1_124 rfl dX1_swingOf_102 ?_
                refine z_tope (y := nI j) ej ?_
                refine lv_iload (pc := 105) hx hb dX1_swingOf_105 (lv_at hl 3 rfl) ?_
                refine lv_icmp_ge (pc := 107) (tgt := 136) hx hb dX1_swingOf_107 (by decide) (fun c_7 => ?_) (fun c_7 => ?_)
                · skip
                  have h5 := ge_nat (a := j) (b := i) rfl rfl (by omega) (by omega) c_7
                  omega
                · skip
                  refine lv_aload (pc := 110) hx hb dX1_swingOf_110 (lv_at hl 2 rfl) ?_
                  refine lv_aload_n (pc := 112) hx hb dX1_swingOf_112 rfl (lv_at hl 6 rfl) ?_
                  refine z_get (pc := 113) cx ((hAt _ _ hW).1) (C := RX5) (T := TX5) (N := 6) rfl i_X5 4 rfl m_fl_X1_126 rfl dX1_swingOf_113 ?_
                  refine k_X2_passWith (pc := 116) (x := r 7) cx (hW.dyn h2q_3)  m_ml_X1_129 ⟨Nat.le_of_ble_eq_true rfl, Nat.le_of_ble_eq_true rfl⟩ hl.1 rfl (by simp [Value.category]) dX1_swingOf_116 ⟨Nat.le_refl _, Nat.le_refl _⟩ ?_
                  refine lv_aload_n (pc := 119) hx hb dX1_swingOf_119 rfl (lv_at hl 4 rfl) ?_
                  refine z_get (pc := 120) cx (hW.at 6 rfl) (C := RX1) (T := TX1) (N := 8) rfl i_X1 7 rfl m_fl_X1_36 rfl dX1_swingOf_120 ?_
                  refine lv_aload (pc := 123) hx hb dX1_swingOf_123 (lv_at hl 2 rfl) ?_
                  refine z_get (pc := 125) cx (hW.dyn h2q_3) (C := RX2) (T := TX2) (N := 5) rfl i_X2 3 rfl m_fl_X1_124 rfl dX1_swingOf_125 ?_
                  refine z_tope (y := nI j) ej ?_
                  refine z_iald (pc := 128) (f := sg2) (j := j) cx (hW.at 12 rfl) rfl (by omega) (by decide) dX1_swingOf_128 ?_
                  refine z_tope (y := sw r j f st) (hsg j hj) ?_
                  refine lv_imul (pc := 129) hx hb dX1_swingOf_129 ?_
                  refine lv_bipush (pc := 130) (v := 100) hx hb dX1_swingOf_130 (by decide) ?_
                  refine lv_idiv (pc := 132) hx hb dX1_swingOf_132 (by decide) ?_
                  refine lv_goto (pc := 133) (tgt := 137) hx hb dX1_swingOf_133 (by decide) ?_
                  refine lv_istore (pc := 137) (lv' := [(9, .int (((hld ((g6 r i 4) + (r 7)) 0 99) * (sw r j f st)) / 100)), (8, .int (ownS r i f st)), (7, .int ((lsN r i) + (amt (f - (tnN r i))))), (6, .ref q_3), (5, .int (nI i)), (0, .ref (b 6)), (1, .int (nI n)), (2, .ref t), (3, .int f), (4, .int st)]) hx hb dX1_swingOf_137 hl (by decide) rfl (fun ls hl => ?_)
                  refine lv_aload_n (pc := 139) hx hb dX1_swingOf_139 rfl (lv_at hl 5 rfl) ?_
                  refine z_get (pc := 140) cx (hW.at 6 rfl) (C := RX1) (T := TX1) (N := 8) rfl i_X1 7 rfl m_fl_X1_36 rfl dX1_swingOf_140 ?_
                  refine lv_iload (pc := 143) hx hb dX1_swingOf_143 (lv_at hl 4 rfl) ?_
                  refine lv_iload (pc := 145) hx hb dX1_swingOf_145 (lv_at hl 1 rfl) ?_
                  refine lv_iload (pc := 147) hx hb dX1_swingOf_147 (lv_at hl 0 rfl) ?_
                  refine lv_iadd (pc := 149) hx hb dX1_swingOf_149 ?_
                  refine z_tope (y := sw r i f st) (sw_join hC hP hiP hj ej2).symm ?_
                  refine z_iast (pc := 150) (f := sg2) (j := i) cx hW hS 12 rfl (hFb 12) rfl (by omega) (by decide) dX1_swingOf_150 (fun H locs hW hS => ?_)
                  have hW : WW E (wK b E.2.1 tl pd qt qr tbu wst asw pN tN aN hd dr pl rm ps wx pp tp ap (upd sg2 i (sw r i f st)) uh ud up ur us ux) G H := hW
                  refine lv_iinc (pc := 151) (v := nI (i + 1)) (lv' := [(5, .int (nI (i + 1))), (9, .int (((hld ((g6 r i 4) + (r 7)) 0 99) * (sw r j f st)) / 100)), (8, .int (ownS r i f st)), (7, .int ((lsN r i) + (amt (f - (tnN r i))))), (6, .ref q_3), (0, .ref (b 6)), (1, .int (nI n)), (2, .ref t), (3, .int f), (4, .int st)]) hx hb dX1_swingOf_151 hl (k := 4) rfl (nI_1 _) (by decide) rfl (fun ls hl => ?_)
                  refine lv_goto (pc := 154) (tgt := 13) hx hb dX1_swingOf_154 (by decide) ?_
                  exact ih_13 (i + 1) (nI (i + 1)) (by omega) (by omega) (by first | rfl | (simp [c_1, c_4, c_5, c_6, c_7, i_nle.mp c_5, i_nlt.mp c_6, i_nle.mp c_7]; done)) _ _ _ (upd_nx (g := fun j => sw r j f st) hsg) (hW) hS ls (lv_sub hl [0, 5, 6, 7, 8, 9] rfl)
          · skip
            have hls := ls_t hI hiP c_4
            refine lv_iconst (pc := 46) (v := 1) hx hb dX1_swingOf_46 (by decide) ?_
            refine lv_goto (pc := 47) (tgt := 51) hx hb dX1_swingOf_47 (by decide) ?_
            refine k_X2_lossHeld (pc := 51) (h := true) cx (hW.dyn h2q_3)  m_ml_X1_109 ⟨Nat.le_of_ble_eq_true rfl, Nat.le_of_ble_eq_true rfl⟩ hl.1 rfl (by simp [Value.category]) dX1_swingOf_51 ⟨Nat.le_refl _, Nat.le_refl _⟩ ?_
            refine z_tope (y := lsN r i) hls ?_
            refine lv_iload_n (pc := 54) hx hb dX1_swingOf_54 rfl (lv_at hl 5 rfl) ?_
            refine lv_aload (pc := 55) hx hb dX1_swingOf_55 (lv_at hl 0 rfl) ?_
            refine lv_aload_n (pc := 57) hx hb dX1_swingOf_57 rfl (lv_at hl 4 rfl) ?_
            refine lv_iload (pc := 58) hx hb dX1_swingOf_58 (lv_at hl 1 rfl) ?_
            refine k_X5_waxOn (pc := 60) (n := i) cx ⟨(hAt _ _ hW).1, (hAt _ _ hW).2.1⟩ (by first | assumption | omega) m_ml_X1_113 ⟨Nat.le_of_ble_eq_true rfl, Nat.le_of_ble_eq_true rfl⟩ hl.1 rfl (by simp [Value.category]) dX1_swingOf_60 ⟨Nat.le_refl _, Nat.le_refl _⟩ ?_
            refine z_tope (y := g6 r i 5) (hxw i hiP) ?_
            refine k_X2_toneWith (pc := 63) (x := g6 r i 5) cx (hW.dyn h2q_3)  m_ml_X1_116 ⟨Nat.le_of_ble_eq_true rfl, Nat.le_of_ble_eq_true rfl⟩ hl.1 rfl (by simp [Value.category]) dX1_swingOf_63 ⟨Nat.le_refl _, Nat.le_refl _⟩ ?_
            refine z_tope (y := tnN r i) (toW_tn hP hiP (wax_rg hIS (by omega))) ?_
            have hod := own_div hC hIS hP hiP hf
            refine lv_isub (pc := 66) hx hb dX1_swingOf_66 ?_
            refine z_mabs (pc := 67) cx hl.1 m_ml_X1_119 ⟨Nat.le_of_ble_eq_true rfl, Nat.le_of_ble_eq_true rfl⟩ (by simp [Value.category]) ⟨Nat.le_refl _, Nat.le_refl _⟩ dX1_swingOf_67 ?_
            refine lv_iadd (pc := 70) hx hb dX1_swingOf_70 ?_
            refine lv_istore (pc := 71) (lv' := [(7, .int ((lsN r i) + (amt (f - (tnN r i))))), (6, .ref q_3), (5, .int (nI i)), (0, .ref (b 6)), (1, .int (nI n)), (2, .ref t), (3, .int f), (4, .int st)]) hx hb dX1_swingOf_71 hl (by decide) rfl (fun ls hl => ?_)
            refine lv_iload (pc := 73) hx hb dX1_swingOf_73 (lv_at hl 0 rfl) ?_
            refine lv_if_le (pc := 75) (tgt := 89) hx hb dX1_swingOf_75 (by decide) (fun c_8 => ?_) (fun c_8 => ?_)
            · skip
              exact absurd c_8 (Int32.not_le.mpr (pos_rg hod))
            · skip
              refine lv_iload (pc := 78) hx hb dX1_swingOf_78 (lv_at hl 7 rfl) ?_
              refine lv_bipush (pc := 80) (v := 100) hx hb dX1_swingOf_80 (by decide) ?_
              refine lv_imul (pc := 82) hx hb dX1_swingOf_82 ?_
              refine lv_iload (pc := 83) hx hb dX1_swingOf_83 (lv_at hl 0 rfl) ?_
              refine lv_idiv (pc := 85) hx hb dX1_swingOf_85 (nz_of (by unfold rg at hod; omega)) ?_
              refine z_tope (y := ownS r i f st) (by unfold ownS; rw [Int32.mul_comm]) ?_
              refine lv_goto (pc := 86) (tgt := 90) hx hb dX1_swingOf_86 (by decide) ?_
              refine lv_istore (pc := 90) (lv' := [(8, .int (ownS r i f st)), (7, .int ((lsN r i) + (amt (f - (tnN r i))))), (6, .ref q_3), (5, .int (nI i)), (0, .ref (b 6)), (1, .int (nI n)), (2, .ref t), (3, .int f), (4, .int st)]) hx hb dX1_swingOf_90 hl (by decide) rfl (fun ls hl => ?_)
              refine lv_aload (pc := 92) hx hb dX1_swingOf_92 (lv_at hl 2 rfl) ?_
              refine z_get (pc := 94) cx (hW.dyn h2q_3) (C := RX2) (T := TX2) (N := 5) rfl i_X2 3 rfl m_fl_X1_124 rfl dX1_swingOf_94 ?_
              refine lv_if_lt (pc := 97) (tgt := 136) hx hb dX1_swingOf_97 (by decide) (fun c_9 => ?_) (fun c_9 => ?_)
              · skip
                have hjr := hjn.1 c_9
                refine lv_iconst (pc := 136) (v := 0) hx hb dX1_swingOf_136 (by decide) ?_
                refine lv_istore (pc := 137) (lv' := [(9, .int 0), (8, .int (ownS r i f st)), (7, .int ((lsN r i) + (amt (f - (tnN r i))))), (6, .ref q_3), (5, .int (nI i)), (0, .ref (b 6)), (1, .int (nI n)), (2, .ref t), (3, .int f), (4, .int st)]) hx hb dX1_swingOf_137 hl (by decide) rfl (fun ls hl => ?_)
                refine lv_aload_n (pc := 139) hx hb dX1_swingOf_139 rfl (lv_at hl 5 rfl) ?_
                refine z_get (pc := 140) cx (hW.at 6 rfl) (C := RX1) (T := TX1) (N := 8) rfl i_X1 7 rfl m_fl_X1_36 rfl dX1_swingOf_140 ?_
                refine lv_iload (pc := 143) hx hb dX1_swingOf_143 (lv_at hl 4 rfl) ?_
                refine lv_iload (pc := 145) hx hb dX1_swingOf_145 (lv_at hl 1 rfl) ?_
                refine lv_iload (pc := 147) hx hb dX1_swingOf_147 (lv_at hl 0 rfl) ?_
                refine lv_iadd (pc := 149) hx hb dX1_swingOf_149 ?_
                refine z_tope (y := sw r i f st) ((Int32.add_zero _).trans (sw_root hjr).symm) ?_
                refine z_iast (pc := 150) (f := sg2) (j := i) cx hW hS 12 rfl (hFb 12) rfl (by omega) (by decide) dX1_swingOf_150 (fun H locs hW hS => ?_)
                have hW : WW E (wK b E.2.1 tl pd qt qr tbu wst asw pN tN aN hd dr pl rm ps wx pp tp ap (upd sg2 i (sw r i f st)) uh ud up ur us ux) G H := hW
                refine lv_iinc (pc := 151) (v := nI (i + 1)) (lv' := [(5, .int (nI (i + 1))), (9, .int 0), (8, .int (ownS r i f st)), (7, .int ((lsN r i) + (amt (f - (tnN r i))))), (6, .ref q_3), (0, .ref (b 6)), (1, .int (nI n)), (2, .ref t), (3, .int f), (4, .int st)]) hx hb dX1_swingOf_151 hl (k := 4) rfl (nI_1 _) (by decide) rfl (fun ls hl => ?_)
                refine lv_goto (pc := 154) (tgt := 13) hx hb dX1_swingOf_154 (by decide) ?_
                exact ih_13 (i + 1) (nI (i + 1)) (by omega) (by omega) (by first | rfl | (simp [c_1, c_4, c_8, c_9, i_nle.mp c_8, i_nle.mpr c_9]; done)) _ _ _ (upd_nx (g := fun j => sw r j f st) hsg) (hW) hS ls (lv_sub hl [0, 5, 6, 7, 8, 9] rfl)
              · skip
                obtain ⟨j, hj, ej, ej2⟩ := hjn.2 c_9
                refine lv_aload (pc := 100) hx hb dX1_swingOf_100 (lv_at hl 2 rfl) ?_
                refine z_get (pc := 102) cx (hW.dyn h2q_3) (C := RX2) (T := TX2) (N := 5) rfl i_X2 3 rfl m_fl_X1_124 rfl dX1_swingOf_102 ?_
                refine z_tope (y := nI j) ej ?_
                refine lv_iload (pc := 105) hx hb dX1_swingOf_105 (lv_at hl 3 rfl) ?_
                refine lv_icmp_ge (pc := 107) (tgt := 136) hx hb dX1_swingOf_107 (by decide) (fun c_10 => ?_) (fun c_10 => ?_)
                · skip
                  have h5 := ge_nat (a := j) (b := i) rfl rfl (by omega) (by omega) c_10
                  omega
                · skip
                  refine lv_aload (pc := 110) hx hb dX1_swingOf_110 (lv_at hl 2 rfl) ?_
                  refine lv_aload_n (pc := 112) hx hb dX1_swingOf_112 rfl (lv_at hl 6 rfl) ?_
                  refine z_get (pc := 113) cx ((hAt _ _ hW).1) (C := RX5) (T := TX5) (N := 6) rfl i_X5 4 rfl m_fl_X1_126 rfl dX1_swingOf_113 ?_
                  refine k_X2_passWith (pc := 116) (x := r 7) cx (hW.dyn h2q_3)  m_ml_X1_129 ⟨Nat.le_of_ble_eq_true rfl, Nat.le_of_ble_eq_true rfl⟩ hl.1 rfl (by simp [Value.category]) dX1_swingOf_116 ⟨Nat.le_refl _, Nat.le_refl _⟩ ?_
                  refine lv_aload_n (pc := 119) hx hb dX1_swingOf_119 rfl (lv_at hl 4 rfl) ?_
                  refine z_get (pc := 120) cx (hW.at 6 rfl) (C := RX1) (T := TX1) (N := 8) rfl i_X1 7 rfl m_fl_X1_36 rfl dX1_swingOf_120 ?_
                  refine lv_aload (pc := 123) hx hb dX1_swingOf_123 (lv_at hl 2 rfl) ?_
                  refine z_get (pc := 125) cx (hW.dyn h2q_3) (C := RX2) (T := TX2) (N := 5) rfl i_X2 3 rfl m_fl_X1_124 rfl dX1_swingOf_125 ?_
                  refine z_tope (y := nI j) ej ?_
                  refine z_iald (pc := 128) (f := sg2) (j := j) cx (hW.at 12 rfl) rfl (by omega) (by decide) dX1_swingOf_128 ?_
                  refine z_tope (y := sw r j f st) (hsg j hj) ?_
                  refine lv_imul (pc := 129) hx hb dX1_swingOf_129 ?_
                  refine lv_bipush (pc := 130) (v := 100) hx hb dX1_swingOf_130 (by decide) ?_
                  refine lv_idiv (pc := 132) hx hb dX1_swingOf_132 (by decide) ?_
                  refine lv_goto (pc := 133) (tgt := 137) hx hb dX1_swingOf_133 (by decide) ?_
                  refine lv_istore (pc := 137) (lv' := [(9, .int (((hld ((g6 r i 4) + (r 7)) 0 99) * (sw r j f st)) / 100)), (8, .int (ownS r i f st)), (7, .int ((lsN r i) + (amt (f - (tnN r i))))), (6, .ref q_3), (5, .int (nI i)), (0, .ref (b 6)), (1, .int (nI n)), (2, .ref t), (3, .int f), (4, .int st)]) hx hb dX1_swingOf_137 hl (by decide) rfl (fun ls hl => ?_)
                  refine lv_aload_n (pc := 139) hx hb dX1_swingOf_139 rfl (lv_at hl 5 rfl) ?_
                  refine z_get (pc := 140) cx (hW.at 6 rfl) (C := RX1) (T := TX1) (N := 8) rfl i_X1 7 rfl m_fl_X1_36 rfl dX1_swingOf_140 ?_
                  refine lv_iload (pc := 143) hx hb dX1_swingOf_143 (lv_at hl 4 rfl) ?_
                  refine lv_iload (pc := 145) hx hb dX1_swingOf_145 (lv_at hl 1 rfl) ?_
                  refine lv_iload (pc := 147) hx hb dX1_swingOf_147 (lv_at hl 0 rfl) ?_
                  refine lv_iadd (pc := 149) hx hb dX1_swingOf_149 ?_
                  refine z_tope (y := sw r i f st) (sw_join hC hP hiP hj ej2).symm ?_
                  refine z_iast (pc := 150) (f := sg2) (j := i) cx hW hS 12 rfl (hFb 12) rfl (by omega) (by decide) dX1_swingOf_150 (fun H locs hW hS => ?_)
                  have hW : WW E (wK b E.2.1 tl pd qt qr tbu wst asw pN tN aN hd dr pl rm ps wx pp tp ap (upd sg2 i (sw r i f st)) uh ud up ur us ux) G H := hW
                  refine lv_iinc (pc := 151) (v := nI (i + 1)) (lv' := [(5, .int (nI (i + 1))), (9, .int (((hld ((g6 r i 4) + (r 7)) 0 99) * (sw r j f st)) / 100)), (8, .int (ownS r i f st)), (7, .int ((lsN r i) + (amt (f - (tnN r i))))), (6, .ref q_3), (0, .ref (b 6)), (1, .int (nI n)), (2, .ref t), (3, .int f), (4, .int st)]) hx hb dX1_swingOf_151 hl (k := 4) rfl (nI_1 _) (by decide) rfl (fun ls hl => ?_)
                  refine lv_goto (pc := 154) (tgt := 13) hx hb dX1_swingOf_154 (by decide) ?_
                  exact ih_13 (i + 1) (nI (i + 1)) (by omega) (by omega) (by first | rfl | (simp [c_1, c_4, c_8, c_9, c_10, i_nle.mp c_8, i_nlt.mp c_9, i_nle.mp c_10]; done)) _ _ _ (upd_nx (g := fun j => sw r j f st) hsg) (hW) hS ls (lv_sub hl [0, 5, 6, 7, 8, 9] rfl)
    exact loop_13 ((n + 1 - 0) + 1) 0 0 (Nat.lt_succ_self _) (by omega) (by first | rfl | (simp [c_1]; done)) sg _ _ (fun j h => absurd h (Nat.not_lt_zero _)) (hW) hS ls (lv_sub hl [0, 1, 2, 3, 4, 5] rfl)
  · skip
    exact absurd ((isP_n hC hn).symm.trans c_1) (by decide)
theorem k_X1_swingOf {p : Program} {l : Launch} {e : Env} {R : Room} {s : State} {m : MethodId} {args : Array Value} {below : List Frame} {meth : Method} {c : Code} {H H0 : Heap} {locs : List Loc} {cells slots : Nat} {Q : State → Prop} {cc : ByteArray} {pc index : Nat} {ls : Array Slot} {rest st0 : List Value} {E : zE} {own : String} {nL : Nat} {F : Nat → Prop} {b : Nat → Nat} {tl : va_W} {pd : Bool} {qt : Nat → Option Nat} {qr : Nat → Option Nat} {tbu : Nat → Int32} {wst : Nat → Int32} {asw : Nat → Int32} {pN : Int32} {tN : Int32} {aN : Int32} {hd : Int32} {dr : Int32} {pl : Int32} {rm : Int32} {ps : Int32} {wx : Nat → Int32} {pp : Nat → Option Nat} {tp : Nat → Option Nat} {ap : Nat → Option Nat} {sg : Nat → Int32} {uh : Int32} {ud : Int32} {up : Int32} {ur : Int32} {us : Int32} {ux : Nat → Int32} {G : zG} {n : Nat} {f st : Int32} {t w : Nat} {r xw : Nat → Int32} (cx : Cx E p s args m c own cc nL) (hW : WW E (wK b E.2.1 tl pd qt qr tbu wst asw pN tN aN hd dr pl rm ps wx pp tp ap sg uh ud up ur us ux) G H) (hS : va_S F H0 H locs) (zF : ∀ q, (bF b) q → F q) (hI : Inv r) (hpN : pN = nI (nP r)) (hPc : PcG G r pp) (hn : n < nP r) (hf : rg f 1 2400) (hAt : ∀ (sg3 : Nat → Int32) (H : Heap), WW E (wK b E.2.1 tl pd qt qr tbu wst asw pN tN aN hd dr pl rm ps wx pp tp ap sg3 uh ud up ur us ux) G H → StA E H t w r xw) (zl : Cond.methodLink own index yX1_swingOf ∈ AllW) (zR : 2 + 1 ≤ R.frames ∧ 8 + (10 + 11) + 42 ≤ R.locals) (zs : ls.size = nL) (zt : st0 = ([.int (nI n), .ref t, .int f, .int st] : List Value).reverse ++ .ref (b 6) :: rest) (z8 : (rest.map fun v => v.category).sum ≤ 8) (zd : decode cc pc = .ok (.invokevirtual index, 3)) (zf : cells ≤ R.cells ∧ slots ≤ R.slots) (kk0 : ∀ (sg2 : Nat → Int32) (H1 : Heap) (locs1 : List Loc), (∀ j, j ≤ n → sg2 j = sw r j f st) → WW E (wK b E.2.1 tl pd qt qr tbu wst asw pN tN aN hd dr pl rm ps wx pp tp ap sg2 uh ud up ur us ux) G H1 → va_S F H0 H1 locs1 → W p l e R s m args below meth c H1 locs1 cells slots Q (F0 m (pc + 3) ls (.int (sw r n f st) :: rest))) : W p l e R s m args below meth c H locs cells slots Q (F0 m pc ls st0) := by
  refine z_callVw cx vm_X1_swingOf (c_X1_swingOf l E b tl pd qt qr tbu wst asw pN tN aN hd dr pl rm ps wx pp tp ap sg uh ud up ur us ux G n f st t w r xw hI hpN hPc hn hf hAt) (z_rec cx.2 (hW.at 6 rfl) rfl) hW hS zF zl ⟨rfl, rfl⟩ zR rfl zs zt z8 zd zf (fun v H1 locs1 hq hS1 _ => ?_)
  rcases hq with ⟨sg2, rfl, hf2, hW1⟩
  · exact kk0 sg2 H1 locs1 hf2 hW1 hS1
