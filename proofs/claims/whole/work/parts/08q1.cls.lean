theorem vm_X3_isDigit : zSm yX3_isDigit cX3_isDigit 1 (some FieldType.boolean) 1 := ⟨m_co_X3_isDigit, m_in_RX3, m_st_X3_isDigit, by decide +kernel, by decide +kernel, by decide +kernel⟩
set_option maxHeartbeats 1000000 in
set_option maxRecDepth 100000 in
theorem c_X3_isDigit (l : Launch) (E : zE) (x : Int32)  : Met l yX3_isDigit (.code yX3_isDigit cX3_isDigit 1 (some FieldType.boolean) :: AllW) (rm0' 0 0) (zP E (fun _ => True) [.int x]) (rQ (.int (bI (inL x 48 57)))) 0 0 nF := by
  refine z_body (own := RX3) (by decide) rfl rfl ?_
  intro p e s m args below meth c ls cx hr hlk hnm hW hl
  have hx := cx.x
  have hb := cx.b
  have hl : lv_has ls 1 [(0, .int x)] := hl
  refine lv_iload_n (pc := 0) hx hb dX3_isDigit_0 rfl (lv_at hl 0 rfl) ?_
  refine lv_bipush (pc := 1) (v := 48) hx hb dX3_isDigit_1 (by decide) ?_
  refine lv_icmp_lt (pc := 3) (tgt := 16) hx hb dX3_isDigit_3 (by decide) (fun c_1 => ?_) (fun c_1 => ?_)
  · skip
    refine lv_iconst (pc := 16) (v := 0) hx hb dX3_isDigit_16 (by decide) ?_
    exact z_zret cx hr hlk dX3_isDigit_17 (by first | rfl | (simp [inL, bI, c_1, i_nle.mpr c_1]; done))
  · skip
    refine lv_iload_n (pc := 6) hx hb dX3_isDigit_6 rfl (lv_at hl 0 rfl) ?_
    refine lv_bipush (pc := 7) (v := 57) hx hb dX3_isDigit_7 (by decide) ?_
    refine lv_icmp_gt (pc := 9) (tgt := 16) hx hb dX3_isDigit_9 (by decide) (fun c_2 => ?_) (fun c_2 => ?_)
    · skip
      refine lv_iconst (pc := 16) (v := 0) hx hb dX3_isDigit_16 (by decide) ?_
      exact z_zret cx hr hlk dX3_isDigit_17 (by first | rfl | (simp [inL, bI, c_1, c_2, i_nlt.mp c_1, i_nle.mpr c_2]; done))
    · skip
      refine lv_iconst (pc := 12) (v := 1) hx hb dX3_isDigit_12 (by decide) ?_
      refine lv_goto (pc := 13) (tgt := 17) hx hb dX3_isDigit_13 (by decide) ?_
      exact z_zret cx hr hlk dX3_isDigit_17 (by first | rfl | (simp [inL, bI, c_1, c_2, i_nlt.mp c_1, i_nlt.mp c_2]; done))
theorem k_X3_isDigit {p : Program} {l : Launch} {e : Env} {R : Room} {s : State} {m : MethodId} {args : Array Value} {below : List Frame} {meth : Method} {c : Code} {H : Heap} {locs : List Loc} {cells slots : Nat} {Q : State → Prop} {cc : ByteArray} {pc index : Nat} {ls : Array Slot} {rest st0 : List Value} {E : zE} {own : String} {nL : Nat} {x : Int32} (cx : Cx E p s args m c own cc nL)  (zl : Cond.methodLink own index yX3_isDigit ∈ AllW) (zR : 0 + 1 ≤ R.frames ∧ 8 + (1 + 11) + 0 ≤ R.locals) (zs : ls.size = nL) (zt : st0 = ([.int x] : List Value).reverse ++ rest) (z8 : (rest.map fun v => v.category).sum ≤ 8) (zd : decode cc pc = .ok (.invokestatic index, 3)) (zf : cells ≤ R.cells ∧ slots ≤ R.slots) (kk : W p l e R s m args below meth c H locs cells slots Q (F0 m (pc + 3) ls (.int (bI (inL x 48 57)) :: rest))) : W p l e R s m args below meth c H locs cells slots Q (F0 m pc ls st0) :=
  z_callS cx vm_X3_isDigit (c_X3_isDigit l E x) trivial zl ⟨rfl, rfl⟩ zR rfl zs zt z8 zd zf kk
theorem vm_X3_byteHere : zVm yX3_byteHere cX3_byteHere 1 (some FieldType.int) 0 := ⟨m_co_X3_byteHere, m_in_RX3, ⟨m_im_X3_byteHere, m_se_X3_X3_byteHere⟩, by decide +kernel, by decide +kernel, by decide +kernel⟩
set_option maxHeartbeats 1000000 in
set_option maxRecDepth 100000 in
theorem c_X3_byteHere (l : Launch) (E : zE) (b : Nat → Nat) (pd : Bool) (qt : Nat → Option Nat) (qr : Nat → Option Nat) (tbu : Nat → Int32) (wst : Nat → Int32) (asw : Nat → Int32) (pN : Int32) (tN : Int32) (aN : Int32) (hd : Int32) (dr : Int32) (pl : Int32) (rm : Int32) (ps : Int32) (wx : Nat → Int32) (pp : Nat → Option Nat) (tp : Nat → Option Nat) (ap : Nat → Option Nat) (sg : Nat → Int32) (uh : Int32) (ud : Int32) (up : Int32) (ur : Int32) (us : Int32) (ux : Nat → Int32) (xN : Int32) (xT : Int32) (xA : Int32) (xh : Int32) (xd : Int32) (xl : Int32) (xr : Int32) (xo : Int32) (xw : Nat → Int32) (xpp : Nat → Option Nat) (xtp : Nat → Option Nat) (xap : Nat → Option Nat) (xsg : Nat → Int32) (yN : Int32) (yT : Int32) (yA : Int32) (yh : Int32) (yd : Int32) (yl : Int32) (yr : Int32) (yo : Int32) (yw : Nat → Int32) (ypp : Nat → Option Nat) (ytp : Nat → Option Nat) (yap : Nat → Option Nat) (ysg : Nat → Int32) (zpl : Int32) (zlt : Int32) (zjo : Bool) (zfo : Int32) (zby : Nat → Int32) (znu : Nat → Int32) (G : zG) (q z : Nat) (hz : z ≤ 100) (hq : q ≤ z) : Met l yX3_byteHere (.code yX3_byteHere cX3_byteHere 1 (some FieldType.int) :: AllW) (rm0' 0 0) (zP E (fun H => WW E (wK b E.2.1 (wT b E.2.1 xN xT xA xh xd xl xr xo xw xpp xtp xap xsg yN yT yA yh yd yl yr yo yw ypp ytp yap ysg (nI q) zpl zlt zjo zfo (nI z) zby znu) pd qt qr tbu wst asw pN tN aN hd dr pl rm ps wx pp tp ap sg uh ud up ur us ux) G H) [.ref (b 29)]) (rQ (.int (bhC zby z q))) 0 0 nF := by
  refine z_body (own := RX3) (by decide) rfl rfl ?_
  intro p e s m args below meth c ls cx hr hlk hnm hW hl
  have hx := cx.x
  have hb := cx.b
  have hl : lv_has ls 1 [(0, .ref (b 29))] := hl
  refine lv_aload_n (pc := 0) hx hb dX3_byteHere_0 rfl (lv_at hl 0 rfl) ?_
  refine z_get (pc := 1) cx (hW.at 29 rfl) (C := RX3) (T := TX3) (N := 8) rfl i_X3 0 rfl m_fl_X3_37 rfl dX3_byteHere_1 ?_
  refine lv_if_lt (pc := 4) (tgt := 39) hx hb dX3_byteHere_4 (by decide) (fun c_1 => ?_) (fun c_1 => ?_)
  · skip
    exact absurd c_1 (nI_n0 (by omega))
  · skip
    refine lv_aload_n (pc := 7) hx hb dX3_byteHere_7 rfl (lv_at hl 0 rfl) ?_
    refine z_get (pc := 8) cx (hW.at 29 rfl) (C := RX3) (T := TX3) (N := 8) rfl i_X3 0 rfl m_fl_X3_37 rfl dX3_byteHere_8 ?_
    refine lv_aload_n (pc := 11) hx hb dX3_byteHere_11 rfl (lv_at hl 0 rfl) ?_
    refine z_get (pc := 12) cx (hW.at 29 rfl) (C := RX3) (T := TX3) (N := 8) rfl i_X3 5 rfl m_fl_X3_30 rfl dX3_byteHere_12 ?_
    refine lv_icmp_ge (pc := 15) (tgt := 39) hx hb dX3_byteHere_15 (by decide) (fun c_2 => ?_) (fun c_2 => ?_)
    · skip
      have hge := ge_nat (a := q) (b := z) rfl rfl (by omega) (by omega) c_2
      have hnl : ¬ q < z := by omega
      refine lv_sipush (pc := 39) (v := 1000) hx hb dX3_byteHere_39 (by decide) ?_
      exact z_iret cx hr hlk dX3_byteHere_42 (by first | rfl | (simp [bhC, c_1, hnl, i_nlt.mp c_1]; done))
    · skip
      have hlt := lt_nat (a := q) (b := z) rfl rfl (by omega) (by omega) c_2
      refine lv_aload_n (pc := 18) hx hb dX3_byteHere_18 rfl (lv_at hl 0 rfl) ?_
      refine z_get (pc := 19) cx (hW.at 29 rfl) (C := RX3) (T := TX3) (N := 8) rfl i_X3 0 rfl m_fl_X3_37 rfl dX3_byteHere_19 ?_
      refine lv_bipush (pc := 22) (v := 100) hx hb dX3_byteHere_22 (by decide) ?_
      refine lv_icmp_ge (pc := 24) (tgt := 39) hx hb dX3_byteHere_24 (by decide) (fun c_3 => ?_) (fun c_3 => ?_)
      · skip
        have h3 := ge_nat (a := q) (b := 100) rfl rfl (by omega) (by omega) c_3
        omega
      · skip
        refine lv_aload_n (pc := 27) hx hb dX3_byteHere_27 rfl (lv_at hl 0 rfl) ?_
        refine z_get (pc := 28) cx (hW.at 29 rfl) (C := RX3) (T := TX3) (N := 8) rfl i_X3 6 rfl m_fl_X3_9 rfl dX3_byteHere_28 ?_
        refine lv_aload_n (pc := 31) hx hb dX3_byteHere_31 rfl (lv_at hl 0 rfl) ?_
        refine z_get (pc := 32) cx (hW.at 29 rfl) (C := RX3) (T := TX3) (N := 8) rfl i_X3 0 rfl m_fl_X3_37 rfl dX3_byteHere_32 ?_
        refine z_iald (pc := 35) (f := zby) (j := q) cx (hW.at 30 rfl) rfl (by omega) (by decide) dX3_byteHere_35 ?_
        refine lv_goto (pc := 36) (tgt := 42) hx hb dX3_byteHere_36 (by decide) ?_
        exact z_iret cx hr hlk dX3_byteHere_42 (by first | rfl | (simp [bhC, c_1, hlt, c_3, i_nlt.mp c_1, i_nle.mp c_3]; done))
theorem k_X3_byteHere {p : Program} {l : Launch} {e : Env} {R : Room} {s : State} {m : MethodId} {args : Array Value} {below : List Frame} {meth : Method} {c : Code} {H : Heap} {locs : List Loc} {cells slots : Nat} {Q : State → Prop} {cc : ByteArray} {pc index : Nat} {ls : Array Slot} {rest st0 : List Value} {E : zE} {own : String} {nL : Nat} {b : Nat → Nat} {pd : Bool} {qt : Nat → Option Nat} {qr : Nat → Option Nat} {tbu : Nat → Int32} {wst : Nat → Int32} {asw : Nat → Int32} {pN : Int32} {tN : Int32} {aN : Int32} {hd : Int32} {dr : Int32} {pl : Int32} {rm : Int32} {ps : Int32} {wx : Nat → Int32} {pp : Nat → Option Nat} {tp : Nat → Option Nat} {ap : Nat → Option Nat} {sg : Nat → Int32} {uh : Int32} {ud : Int32} {up : Int32} {ur : Int32} {us : Int32} {ux : Nat → Int32} {xN : Int32} {xT : Int32} {xA : Int32} {xh : Int32} {xd : Int32} {xl : Int32} {xr : Int32} {xo : Int32} {xw : Nat → Int32} {xpp : Nat → Option Nat} {xtp : Nat → Option Nat} {xap : Nat → Option Nat} {xsg : Nat → Int32} {yN : Int32} {yT : Int32} {yA : Int32} {yh : Int32} {yd : Int32} {yl : Int32} {yr : Int32} {yo : Int32} {yw : Nat → Int32} {ypp : Nat → Option Nat} {ytp : Nat → Option Nat} {yap : Nat → Option Nat} {ysg : Nat → Int32} {zpl : Int32} {zlt : Int32} {zjo : Bool} {zfo : Int32} {zby : Nat → Int32} {znu : Nat → Int32} {G : zG} {q z : Nat} (cx : Cx E p s args m c own cc nL) (hW : WW E (wK b E.2.1 (wT b E.2.1 xN xT xA xh xd xl xr xo xw xpp xtp xap xsg yN yT yA yh yd yl yr yo yw ypp ytp yap ysg (nI q) zpl zlt zjo zfo (nI z) zby znu) pd qt qr tbu wst asw pN tN aN hd dr pl rm ps wx pp tp ap sg uh ud up ur us ux) G H) (hz : z ≤ 100) (hq : q ≤ z) (zl : Cond.methodLink own index yX3_byteHere ∈ AllW) (zR : 0 + 1 ≤ R.frames ∧ 8 + (1 + 11) + 0 ≤ R.locals) (zs : ls.size = nL) (zt : st0 = ([] : List Value).reverse ++ .ref (b 29) :: rest) (z8 : (rest.map fun v => v.category).sum ≤ 8) (zd : decode cc pc = .ok (.invokevirtual index, 3)) (zf : cells ≤ R.cells ∧ slots ≤ R.slots) (kk : W p l e R s m args below meth c H locs cells slots Q (F0 m (pc + 3) ls (.int (bhC zby z q) :: rest))) : W p l e R s m args below meth c H locs cells slots Q (F0 m pc ls st0) :=
  z_callV cx vm_X3_byteHere (c_X3_byteHere l E b pd qt qr tbu wst asw pN tN aN hd dr pl rm ps wx pp tp ap sg uh ud up ur us ux xN xT xA xh xd xl xr xo xw xpp xtp xap xsg yN yT yA yh yd yl yr yo yw ypp ytp yap ysg zpl zlt zjo zfo zby znu G q z hz hq) (z_rec cx.2 (hW.at 29 rfl) rfl) hW zl ⟨rfl, rfl⟩ zR rfl zs zt z8 zd zf kk
theorem vm_X3_numberAt : zVm yX3_numberAt cX3_numberAt 2 (some FieldType.int) 1 := ⟨m_co_X3_numberAt, m_in_RX3, ⟨m_im_X3_numberAt, m_se_X3_X3_numberAt⟩, by decide +kernel, by decide +kernel, by decide +kernel⟩
set_option maxHeartbeats 1000000 in
set_option maxRecDepth 100000 in
theorem c_X3_numberAt (l : Launch) (E : zE) (b : Nat → Nat) (pd : Bool) (qt : Nat → Option Nat) (qr : Nat → Option Nat) (tbu : Nat → Int32) (wst : Nat → Int32) (asw : Nat → Int32) (pN : Int32) (tN : Int32) (aN : Int32) (hd : Int32) (dr : Int32) (pl : Int32) (rm : Int32) (ps : Int32) (wx : Nat → Int32) (pp : Nat → Option Nat) (tp : Nat → Option Nat) (ap : Nat → Option Nat) (sg : Nat → Int32) (uh : Int32) (ud : Int32) (up : Int32) (ur : Int32) (us : Int32) (ux : Nat → Int32) (xN : Int32) (xT : Int32) (xA : Int32) (xh : Int32) (xd : Int32) (xl : Int32) (xr : Int32) (xo : Int32) (xw : Nat → Int32) (xpp : Nat → Option Nat) (xtp : Nat → Option Nat) (xap : Nat → Option Nat) (xsg : Nat → Int32) (yN : Int32) (yT : Int32) (yA : Int32) (yh : Int32) (yd : Int32) (yl : Int32) (yr : Int32) (yo : Int32) (yw : Nat → Int32) (ypp : Nat → Option Nat) (ytp : Nat → Option Nat) (yap : Nat → Option Nat) (ysg : Nat → Int32) (zat : Int32) (zpl : Int32) (zlt : Int32) (zjo : Bool) (zfo : Int32) (zsz : Int32) (zby : Nat → Int32) (znu : Nat → Int32) (G : zG) (n : Nat) (hn : n < 5) : Met l yX3_numberAt (.code yX3_numberAt cX3_numberAt 2 (some FieldType.int) :: AllW) (rm0' 0 0) (zP E (fun H => WW E (wK b E.2.1 (wT b E.2.1 xN xT xA xh xd xl xr xo xw xpp xtp xap xsg yN yT yA yh yd yl yr yo yw ypp ytp yap ysg zat zpl zlt zjo zfo zsz zby znu) pd qt qr tbu wst asw pN tN aN hd dr pl rm ps wx pp tp ap sg uh ud up ur us ux) G H) [.ref (b 29), .int (nI n)]) (rQ (.int (znu n))) 0 0 nF := by
  refine z_body (own := RX3) (by decide) rfl rfl ?_
  intro p e s m args below meth c ls cx hr hlk hnm hW hl
  have hx := cx.x
  have hb := cx.b
  have hl : lv_has ls 2 [(0, .ref (b 29)), (1, .int (nI n))] := hl
  refine lv_iload_n (pc := 0) hx hb dX3_numberAt_0 rfl (lv_at hl 1 rfl) ?_
  refine lv_if_lt (pc := 1) (tgt := 22) hx hb dX3_numberAt_1 (by decide) (fun c_1 => ?_) (fun c_1 => ?_)
  · skip
    exact absurd c_1 (nI_n0 (by omega))
  · skip
    refine lv_iload_n (pc := 4) hx hb dX3_numberAt_4 rfl (lv_at hl 1 rfl) ?_
    refine lv_aload_n (pc := 5) hx hb dX3_numberAt_5 rfl (lv_at hl 0 rfl) ?_
    refine z_get (pc := 6) cx (hW.at 29 rfl) (C := RX3) (T := TX3) (N := 8) rfl i_X3 7 rfl m_fl_X3_15 rfl dX3_numberAt_6 ?_
    refine z_alen (pc := 9) cx 0 (hW.at 31 rfl) rfl rfl dX3_numberAt_9 ?_
    refine lv_icmp_ge (pc := 10) (tgt := 22) hx hb dX3_numberAt_10 (by decide) (fun c_2 => ?_) (fun c_2 => ?_)
    · skip
      have h3 := ge_nat (a := n) (b := 5) rfl rfl (by omega) (by omega) c_2
      omega
    · skip
      refine lv_aload_n (pc := 13) hx hb dX3_numberAt_13 rfl (lv_at hl 0 rfl) ?_
      refine z_get (pc := 14) cx (hW.at 29 rfl) (C := RX3) (T := TX3) (N := 8) rfl i_X3 7 rfl m_fl_X3_15 rfl dX3_numberAt_14 ?_
      refine lv_iload_n (pc := 17) hx hb dX3_numberAt_17 rfl (lv_at hl 1 rfl) ?_
      refine z_iald (pc := 18) (f := znu) (j := n) cx (hW.at 31 rfl) rfl (by omega) (by decide) dX3_numberAt_18 ?_
      refine lv_goto (pc := 19) (tgt := 23) hx hb dX3_numberAt_19 (by decide) ?_
      exact z_iret cx hr hlk dX3_numberAt_23 (by first | rfl | (simp [c_1, c_2, i_nlt.mp c_1, i_nle.mp c_2]; done))
theorem k_X3_numberAt {p : Program} {l : Launch} {e : Env} {R : Room} {s : State} {m : MethodId} {args : Array Value} {below : List Frame} {meth : Method} {c : Code} {H : Heap} {locs : List Loc} {cells slots : Nat} {Q : State → Prop} {cc : ByteArray} {pc index : Nat} {ls : Array Slot} {rest st0 : List Value} {E : zE} {own : String} {nL : Nat} {b : Nat → Nat} {pd : Bool} {qt : Nat → Option Nat} {qr : Nat → Option Nat} {tbu : Nat → Int32} {wst : Nat → Int32} {asw : Nat → Int32} {pN : Int32} {tN : Int32} {aN : Int32} {hd : Int32} {dr : Int32} {pl : Int32} {rm : Int32} {ps : Int32} {wx : Nat → Int32} {pp : Nat → Option Nat} {tp : Nat → Option Nat} {ap : Nat → Option Nat} {sg : Nat → Int32} {uh : Int32} {ud : Int32} {up : Int32} {ur : Int32} {us : Int32} {ux : Nat → Int32} {xN : Int32} {xT : Int32} {xA : Int32} {xh : Int32} {xd : Int32} {xl : Int32} {xr : Int32} {xo : Int32} {xw : Nat → Int32} {xpp : Nat → Option Nat} {xtp : Nat → Option Nat} {xap : Nat → Option Nat} {xsg : Nat → Int32} {yN : Int32} {yT : Int32} {yA : Int32} {yh : Int32} {yd : Int32} {yl : Int32} {yr : Int32} {yo : Int32} {yw : Nat → Int32} {ypp : Nat → Option Nat} {ytp : Nat → Option Nat} {yap : Nat → Option Nat} {ysg : Nat → Int32} {zat : Int32} {zpl : Int32} {zlt : Int32} {zjo : Bool} {zfo : Int32} {zsz : Int32} {zby : Nat → Int32} {znu : Nat → Int32} {G : zG} {n : Nat} (cx : Cx E p s args m c own cc nL) (hW : WW E (wK b E.2.1 (wT b E.2.1 xN xT xA xh xd xl xr xo xw xpp xtp xap xsg yN yT yA yh yd yl yr yo yw ypp ytp yap ysg zat zpl zlt zjo zfo zsz zby znu) pd qt qr tbu wst asw pN tN aN hd dr pl rm ps wx pp tp ap sg uh ud up ur us ux) G H) (hn : n < 5) (zl : Cond.methodLink own index yX3_numberAt ∈ AllW) (zR : 0 + 1 ≤ R.frames ∧ 8 + (2 + 11) + 0 ≤ R.locals) (zs : ls.size = nL) (zt : st0 = ([.int (nI n)] : List Value).reverse ++ .ref (b 29) :: rest) (z8 : (rest.map fun v => v.category).sum ≤ 8) (zd : decode cc pc = .ok (.invokevirtual index, 3)) (zf : cells ≤ R.cells ∧ slots ≤ R.slots) (kk : W p l e R s m args below meth c H locs cells slots Q (F0 m (pc + 3) ls (.int (znu n) :: rest))) : W p l e R s m args below meth c H locs cells slots Q (F0 m pc ls st0) :=
  z_callV cx vm_X3_numberAt (c_X3_numberAt l E b pd qt qr tbu wst asw pN tN aN hd dr pl rm ps wx pp tp ap sg uh ud up ur us ux xN xT xA xh xd xl xr xo xw xpp xtp xap xsg yN yT yA yh yd yl yr yo yw ypp ytp yap ysg zat zpl zlt zjo zfo zsz zby znu G n hn) (z_rec cx.2 (hW.at 29 rfl) rfl) hW zl ⟨rfl, rfl⟩ zR rfl zs zt z8 zd zf kk
theorem vm_X3_readDigits : zVm yX3_readDigits cX3_readDigits 4 (some FieldType.boolean) 1 := ⟨m_co_X3_readDigits, m_in_RX3, ⟨m_im_X3_readDigits, m_se_X3_X3_readDigits⟩, by decide +kernel, by decide +kernel, by decide +kernel⟩
set_option maxHeartbeats 1000000 in
set_option maxRecDepth 100000 in
theorem c_X3_readDigits_d (l : Launch) (E : zE) (b : Nat → Nat) (pd : Bool) (qt : Nat → Option Nat) (qr : Nat → Option Nat) (tbu : Nat → Int32) (wst : Nat → Int32) (asw : Nat → Int32) (pN : Int32) (tN : Int32) (aN : Int32) (hd : Int32) (dr : Int32) (pl : Int32) (rm : Int32) (ps : Int32) (wx : Nat → Int32) (pp : Nat → Option Nat) (tp : Nat → Option Nat) (ap : Nat → Option Nat) (sg : Nat → Int32) (uh : Int32) (ud : Int32) (up : Int32) (ur : Int32) (us : Int32) (ux : Nat → Int32) (xN : Int32) (xT : Int32) (xA : Int32) (xh : Int32) (xd : Int32) (xl : Int32) (xr : Int32) (xo : Int32) (xw : Nat → Int32) (xpp : Nat → Option Nat) (xtp : Nat → Option Nat) (xap : Nat → Option Nat) (xsg : Nat → Int32) (yN : Int32) (yT : Int32) (yA : Int32) (yh : Int32) (yd : Int32) (yl : Int32) (yr : Int32) (yo : Int32) (yw : Nat → Int32) (ypp : Nat → Option Nat) (ytp : Nat → Option Nat) (yap : Nat → Option Nat) (ysg : Nat → Int32) (zpl : Int32) (zlt : Int32) (zjo : Bool) (zby : Nat → Int32) (znu : Nat → Int32) (G : zG) (q z t : Nat) (hz : z ≤ 100) (hq : q ≤ z) (h5 : t < 5) : Met l yX3_readDigits (.code yX3_readDigits cX3_readDigits 4 (some FieldType.boolean) :: AllW) (rm0' 1 20) (zP E (fun H => WW E (wK b E.2.1 (wT b E.2.1 xN xT xA xh xd xl xr xo xw xpp xtp xap xsg yN yT yA yh yd yl yr yo yw ypp ytp yap ysg (nI q) zpl zlt zjo (nI t) (nI z) zby znu) pd qt qr tbu wst asw pN tN aN hd dr pl rm ps wx pp tp ap sg uh ud up ur us ux) G H) [.ref (b 29), .int 1]) (zQ (fun (_ : Heap) (v : Option Value) (H1 : Heap) => (v = some (.int (bI true)) ∧ (pSy (txC zby z) 100 (q, znu, t) = some (q + 1, upd znu t (txC zby z q - 48), t + 1)) ∧ (q + 1 ≤ z) ∧ WW E (wK b E.2.1 (wT b E.2.1 xN xT xA xh xd xl xr xo xw xpp xtp xap xsg yN yT yA yh yd yl yr yo yw ypp ytp yap ysg (nI (q + 1)) zpl zlt zjo (nI (t + 1)) (nI z) zby (upd znu t (txC zby z q - 48))) pd qt qr tbu wst asw pN tN aN hd dr pl rm ps wx pp tp ap sg uh ud up ur us ux) G H1) ∨ (v = some (.int (bI false)) ∧ (pSy (txC zby z) 100 (q, znu, t) = none) ∧ WW E (wK b E.2.1 (wT b E.2.1 xN xT xA xh xd xl xr xo xw xpp xtp xap xsg yN yT yA yh yd yl yr yo yw ypp ytp yap ysg (nI q) zpl zlt zjo (nI t) (nI z) zby znu) pd qt qr tbu wst asw pN tN aN hd dr pl rm ps wx pp tp ap sg uh ud up ur us ux) G H1)) (bF b)) 0 0 (bF b) := by
  refine z_body (own := RX3) (by decide) rfl rfl ?_
  intro p e s m args below meth c ls cx hr hlk hnm hW hl
  have hx := cx.x
  have hb := cx.b
  have hl : lv_has ls 4 [(0, .ref (b 29)), (1, .int 1)] := hl
  have hFb : ∀ k, (bF b) (b k) := fun k => bF_in b k
  have hS : va_S (bF b) s.heap s.heap [] := va_S.rf
  refine lv_aload_n (pc := 0) hx hb dX3_readDigits_0 rfl (lv_at hl 0 rfl) ?_
  refine k_X3_byteHere (pc := 1) (q := q) (z := z) cx hW (by first | assumption | omega) (by first | assumption | omega) m_ml_X3_47 ⟨Nat.le_of_ble_eq_true rfl, Nat.le_of_ble_eq_true rfl⟩ hl.1 rfl (by simp [Value.category]) dX3_readDigits_1 ⟨Nat.le_refl _, Nat.le_refl _⟩ ?_
  refine k_X3_isDigit (pc := 4) (x := bhC zby z q) cx  m_ml_X3_102 ⟨Nat.le_of_ble_eq_true rfl, Nat.le_of_ble_eq_true rfl⟩ hl.1 rfl (by simp [Value.category]) dX3_readDigits_4 ⟨Nat.le_refl _, Nat.le_refl _⟩ ?_
  refine z_ifne (pc := 7) (tgt := 12) hx hb dX3_readDigits_7 (by decide) (fun c_1 => ?_) (fun c_1 => ?_)
  · skip
    have hdt0 : inL (txC zby z q) 48 57 = true := (bh_dig _ _ _).symm.trans c_1
    have hlthdt0 := txC_lt hdt0
    refine lv_iconst (pc := 12) (v := 0) hx hb dX3_readDigits_12 (by decide) ?_
    refine lv_istore_n (pc := 13) (lv' := [(2, .int 0), (0, .ref (b 29)), (1, .int 1)]) hx hb dX3_readDigits_13 rfl hl (by decide) rfl (fun ls hl => ?_)
    refine lv_iconst (pc := 14) (v := 0) hx hb dX3_readDigits_14 (by decide) ?_
    refine lv_istore_n (pc := 15) (lv' := [(3, .int 0), (2, .int 0), (0, .ref (b 29)), (1, .int 1)]) hx hb dX3_readDigits_15 rfl hl (by decide) rfl (fun ls hl => ?_)
    refine lv_iload_n (pc := 16) hx hb dX3_readDigits_16 rfl (lv_at hl 0 rfl) ?_
    refine lv_iload_n (pc := 17) hx hb dX3_readDigits_17 rfl (lv_at hl 3 rfl) ?_
    refine lv_icmp_ge (pc := 18) (tgt := 68) hx hb dX3_readDigits_18 (by decide) (fun c => absurd c (by decide)) (fun _ => ?_)
    refine lv_aload_n (pc := 21) hx hb dX3_readDigits_21 rfl (lv_at hl 2 rfl) ?_
    refine k_X3_byteHere (pc := 22) (q := q) (z := z) cx hW (by first | assumption | omega) (by first | assumption | omega) m_ml_X3_47 ⟨Nat.le_of_ble_eq_true rfl, Nat.le_of_ble_eq_true rfl⟩ hl.1 rfl (by simp [Value.category]) dX3_readDigits_22 ⟨Nat.le_refl _, Nat.le_refl _⟩ ?_
    refine k_X3_isDigit (pc := 25) (x := bhC zby z q) cx  m_ml_X3_102 ⟨Nat.le_of_ble_eq_true rfl, Nat.le_of_ble_eq_true rfl⟩ hl.1 rfl (by simp [Value.category]) dX3_readDigits_25 ⟨Nat.le_refl _, Nat.le_refl _⟩ ?_
    refine z_ifeq (pc := 28) (tgt := 68) hx hb dX3_readDigits_28 (by decide) (fun c_3 => (by first | exact absurd c_3 c_1 | exact absurd c_1 c_3 | exact absurd c_3 (i_nlt.mpr c_1) | exact absurd c_1 (i_nlt.mpr c_3) | exact absurd c_3 (i_nle.mpr c_1) | exact absurd c_1 (i_nle.mpr c_3) | exact absurd (c_3.symm.trans c_1) (by decide) | exact absurd c_1 (i_nle.mpr (i_nlt.mp c_3)) | exact absurd c_3 (i_nle.mpr (i_nlt.mp c_1)))) (fun _ => ?_)
    refine lv_iload_n (pc := 31) hx hb dX3_readDigits_31 rfl (lv_at hl 0 rfl) ?_
    refine lv_if_eq (pc := 32) (tgt := 39) hx hb dX3_readDigits_32 (by decide) (fun _ => ?_) (fun c => (c (by decide)).elim)
    refine lv_bipush (pc := 39) (v := 10) hx hb dX3_readDigits_39 (by decide) ?_
    refine lv_iload_n (pc := 41) hx hb dX3_readDigits_41 rfl (lv_at hl 1 rfl) ?_
    refine lv_imul (pc := 42) hx hb dX3_readDigits_42 ?_
    refine lv_aload_n (pc := 43) hx hb dX3_readDigits_43 rfl (lv_at hl 2 rfl) ?_
    refine k_X3_byteHere (pc := 44) (q := q) (z := z) cx hW (by first | assumption | omega) (by first | assumption | omega) m_ml_X3_47 ⟨Nat.le_of_ble_eq_true rfl, Nat.le_of_ble_eq_true rfl⟩ hl.1 rfl (by simp [Value.category]) dX3_readDigits_44 ⟨Nat.le_refl _, Nat.le_refl _⟩ ?_
    refine lv_iadd (pc := 47) hx hb dX3_readDigits_47 ?_
    refine lv_bipush (pc := 48) (v := 48) hx hb dX3_readDigits_48 (by decide) ?_
    refine lv_isub (pc := 50) hx hb dX3_readDigits_50 ?_
    refine z_tope (y := txC zby z q - 48) (d0_eq hlthdt0) ?_
    refine lv_istore_n (pc := 51) (lv' := [(2, .int (txC zby z q - 48)), (3, .int 0), (0, .ref (b 29)), (1, .int 1)]) hx hb dX3_readDigits_51 rfl hl (by decide) rfl (fun ls hl => ?_)
    refine lv_aload_n (pc := 52) hx hb dX3_readDigits_52 rfl (lv_at hl 2 rfl) ?_
    refine lv_dup (pc := 53) hx hb dX3_readDigits_53 rfl ?_
    refine z_get (pc := 54) cx (hW.at 29 rfl) (C := RX3) (T := TX3) (N := 8) rfl i_X3 0 rfl m_fl_X3_37 rfl dX3_readDigits_54 ?_
    refine lv_iconst (pc := 57) (v := 1) hx hb dX3_readDigits_57 (by decide) ?_
    refine lv_iadd (pc := 58) hx hb dX3_readDigits_58 ?_
    refine z_tope (y := nI (q + 1)) (nI_1 _) ?_
    refine z_putK3 (pc := 59) cx hW hS 29 rfl (bF_in b 29) 0 rfl m_fl_X3_37 rfl rfl dX3_readDigits_59 (fun H locs hW hS => ?_)
    have hW : WW E (wK b E.2.1 (wT b E.2.1 xN xT xA xh xd xl xr xo xw xpp xtp xap xsg yN yT yA yh yd yl yr yo yw ypp ytp yap ysg (nI (q + 1)) zpl zlt zjo (nI t) (nI z) zby znu) pd qt qr tbu wst asw pN tN aN hd dr pl rm ps wx pp tp ap sg uh ud up ur us ux) G H := hW
    refine lv_iinc (pc := 62) (v := 1) (lv' := [(3, .int 1), (2, .int (txC zby z q - 48)), (0, .ref (b 29)), (1, .int 1)]) hx hb dX3_readDigits_62 hl (k := 1) rfl rfl (by decide) rfl (fun ls hl => ?_)
    refine lv_goto (pc := 65) (tgt := 16) hx hb dX3_readDigits_65 (by decide) ?_
    refine lv_iload_n (pc := 16) hx hb dX3_readDigits_16 rfl (lv_at hl 0 rfl) ?_
    refine lv_iload_n (pc := 17) hx hb dX3_readDigits_17 rfl (lv_at hl 3 rfl) ?_
    refine lv_icmp_ge (pc := 18) (tgt := 68) hx hb dX3_readDigits_18 (by decide) (fun _ => ?_) (fun c => (c (by decide)).elim)
    refine lv_aload_n (pc := 68) hx hb dX3_readDigits_68 rfl (lv_at hl 2 rfl) ?_
    refine z_get (pc := 69) cx (hW.at 29 rfl) (C := RX3) (T := TX3) (N := 8) rfl i_X3 4 rfl m_fl_X3_53 rfl dX3_readDigits_69 ?_
    refine lv_aload_n (pc := 72) hx hb dX3_readDigits_72 rfl (lv_at hl 2 rfl) ?_
    refine z_get (pc := 73) cx (hW.at 29 rfl) (C := RX3) (T := TX3) (N := 8) rfl i_X3 7 rfl m_fl_X3_15 rfl dX3_readDigits_73 ?_
    refine z_alen (pc := 76) cx 0 (hW.at 31 rfl) rfl rfl dX3_readDigits_76 ?_
    refine lv_icmp_ge (pc := 77) (tgt := 100) hx hb dX3_readDigits_77 (by decide) (fun c_6 => ?_) (fun c_6 => ?_)
    · skip
      have h3 := ge_nat (a := t) (b := 5) rfl rfl (by omega) (by omega) c_6
      omega
    · skip
      refine lv_aload_n (pc := 80) hx hb dX3_readDigits_80 rfl (lv_at hl 2 rfl) ?_
      refine z_get (pc := 81) cx (hW.at 29 rfl) (C := RX3) (T := TX3) (N := 8) rfl i_X3 7 rfl m_fl_X3_15 rfl dX3_readDigits_81 ?_
      refine lv_aload_n (pc := 84) hx hb dX3_readDigits_84 rfl (lv_at hl 2 rfl) ?_
      refine z_get (pc := 85) cx (hW.at 29 rfl) (C := RX3) (T := TX3) (N := 8) rfl i_X3 4 rfl m_fl_X3_53 rfl dX3_readDigits_85 ?_
      refine lv_iload_n (pc := 88) hx hb dX3_readDigits_88 rfl (lv_at hl 1 rfl) ?_
      refine z_iast (pc := 89) (f := znu) (j := t) cx hW hS 31 rfl (hFb 31) rfl (by omega) (by decide) dX3_readDigits_89 (fun H locs hW hS => ?_)
      have hW : WW E (wK b E.2.1 (wT b E.2.1 xN xT xA xh xd xl xr xo xw xpp xtp xap xsg yN yT yA yh yd yl yr yo yw ypp ytp yap ysg (nI (q + 1)) zpl zlt zjo (nI t) (nI z) zby (upd znu t (txC zby z q - 48))) pd qt qr tbu wst asw pN tN aN hd dr pl rm ps wx pp tp ap sg uh ud up ur us ux) G H := hW
      refine lv_aload_n (pc := 90) hx hb dX3_readDigits_90 rfl (lv_at hl 2 rfl) ?_
      refine lv_dup (pc := 91) hx hb dX3_readDigits_91 rfl ?_
      refine z_get (pc := 92) cx (hW.at 29 rfl) (C := RX3) (T := TX3) (N := 8) rfl i_X3 4 rfl m_fl_X3_53 rfl dX3_readDigits_92 ?_
      refine lv_iconst (pc := 95) (v := 1) hx hb dX3_readDigits_95 (by decide) ?_
      refine lv_iadd (pc := 96) hx hb dX3_readDigits_96 ?_
      refine z_tope (y := nI (t + 1)) (nI_1 _) ?_
      refine z_putK3 (pc := 97) cx hW hS 29 rfl (bF_in b 29) 4 rfl m_fl_X3_53 rfl rfl dX3_readDigits_97 (fun H locs hW hS => ?_)
      have hW : WW E (wK b E.2.1 (wT b E.2.1 xN xT xA xh xd xl xr xo xw xpp xtp xap xsg yN yT yA yh yd yl yr yo yw ypp ytp yap ysg (nI (q + 1)) zpl zlt zjo (nI (t + 1)) (nI z) zby (upd znu t (txC zby z q - 48))) pd qt qr tbu wst asw pN tN aN hd dr pl rm ps wx pp tp ap sg uh ud up ur us ux) G H := hW
      refine lv_iconst (pc := 100) (v := 1) hx hb dX3_readDigits_100 (by decide) ?_
      exact z_wzret (b := true) cx hr hlk dX3_readDigits_101 hS (Or.inl ⟨rfl, (by rw [pSy_d]; exact if_pos (by simp [hdt0, c_6, i_nle.mp c_6])), (by omega), hW⟩)
  · skip
    have hdf0 : inL (txC zby z q) 48 57 = false := (bh_dig _ _ _).symm.trans c_1
    refine lv_iconst (pc := 10) (v := 0) hx hb dX3_readDigits_10 (by decide) ?_
    exact z_wzret (b := false) cx hr hlk dX3_readDigits_11 hS (Or.inr ⟨rfl, (by rw [pSy_d]; exact if_neg (by simp [hdf0])), hW⟩)
theorem k_X3_readDigits_d {p : Program} {l : Launch} {e : Env} {R : Room} {s : State} {m : MethodId} {args : Array Value} {below : List Frame} {meth : Method} {c : Code} {H H0 : Heap} {locs : List Loc} {cells slots : Nat} {Q : State → Prop} {cc : ByteArray} {pc index : Nat} {ls : Array Slot} {rest st0 : List Value} {E : zE} {own : String} {nL : Nat} {F : Nat → Prop} {b : Nat → Nat} {pd : Bool} {qt : Nat → Option Nat} {qr : Nat → Option Nat} {tbu : Nat → Int32} {wst : Nat → Int32} {asw : Nat → Int32} {pN : Int32} {tN : Int32} {aN : Int32} {hd : Int32} {dr : Int32} {pl : Int32} {rm : Int32} {ps : Int32} {wx : Nat → Int32} {pp : Nat → Option Nat} {tp : Nat → Option Nat} {ap : Nat → Option Nat} {sg : Nat → Int32} {uh : Int32} {ud : Int32} {up : Int32} {ur : Int32} {us : Int32} {ux : Nat → Int32} {xN : Int32} {xT : Int32} {xA : Int32} {xh : Int32} {xd : Int32} {xl : Int32} {xr : Int32} {xo : Int32} {xw : Nat → Int32} {xpp : Nat → Option Nat} {xtp : Nat → Option Nat} {xap : Nat → Option Nat} {xsg : Nat → Int32} {yN : Int32} {yT : Int32} {yA : Int32} {yh : Int32} {yd : Int32} {yl : Int32} {yr : Int32} {yo : Int32} {yw : Nat → Int32} {ypp : Nat → Option Nat} {ytp : Nat → Option Nat} {yap : Nat → Option Nat} {ysg : Nat → Int32} {zpl : Int32} {zlt : Int32} {zjo : Bool} {zby : Nat → Int32} {znu : Nat → Int32} {G : zG} {q z t : Nat} (cx : Cx E p s args m c own cc nL) (hW : WW E (wK b E.2.1 (wT b E.2.1 xN xT xA xh xd xl xr xo xw xpp xtp xap xsg yN yT yA yh yd yl yr yo yw ypp ytp yap ysg (nI q) zpl zlt zjo (nI t) (nI z) zby znu) pd qt qr tbu wst asw pN tN aN hd dr pl rm ps wx pp tp ap sg uh ud up ur us ux) G H) (hS : va_S F H0 H locs) (zF : ∀ q, (bF b) q → F q) (hz : z ≤ 100) (hq : q ≤ z) (h5 : t < 5) (zl : Cond.methodLink own index yX3_readDigits ∈ AllW) (zR : 1 + 1 ≤ R.frames ∧ 8 + (4 + 11) + 20 ≤ R.locals) (zs : ls.size = nL) (zt : st0 = ([.int 1] : List Value).reverse ++ .ref (b 29) :: rest) (z8 : (rest.map fun v => v.category).sum ≤ 8) (zd : decode cc pc = .ok (.invokevirtual index, 3)) (zf : cells ≤ R.cells ∧ slots ≤ R.slots) (kk0 : ∀  (H1 : Heap) (locs1 : List Loc), (pSy (txC zby z) 100 (q, znu, t) = some (q + 1, upd znu t (txC zby z q - 48), t + 1)) → (q + 1 ≤ z) → WW E (wK b E.2.1 (wT b E.2.1 xN xT xA xh xd xl xr xo xw xpp xtp xap xsg yN yT yA yh yd yl yr yo yw ypp ytp yap ysg (nI (q + 1)) zpl zlt zjo (nI (t + 1)) (nI z) zby (upd znu t (txC zby z q - 48))) pd qt qr tbu wst asw pN tN aN hd dr pl rm ps wx pp tp ap sg uh ud up ur us ux) G H1 → va_S F H0 H1 locs1 → W p l e R s m args below meth c H1 locs1 cells slots Q (F0 m (pc + 3) ls (.int 1 :: rest))) (kk1 : ∀  (H1 : Heap) (locs1 : List Loc), (pSy (txC zby z) 100 (q, znu, t) = none) → WW E (wK b E.2.1 (wT b E.2.1 xN xT xA xh xd xl xr xo xw xpp xtp xap xsg yN yT yA yh yd yl yr yo yw ypp ytp yap ysg (nI q) zpl zlt zjo (nI t) (nI z) zby znu) pd qt qr tbu wst asw pN tN aN hd dr pl rm ps wx pp tp ap sg uh ud up ur us ux) G H1 → va_S F H0 H1 locs1 → W p l e R s m args below meth c H1 locs1 cells slots Q (F0 m (pc + 3) ls (.int 0 :: rest))) : W p l e R s m args below meth c H locs cells slots Q (F0 m pc ls st0) := by
  refine z_callVw cx vm_X3_readDigits (c_X3_readDigits_d l E b pd qt qr tbu wst asw pN tN aN hd dr pl rm ps wx pp tp ap sg uh ud up ur us ux xN xT xA xh xd xl xr xo xw xpp xtp xap xsg yN yT yA yh yd yl yr yo yw ypp ytp yap ysg zpl zlt zjo zby znu G q z t hz hq h5) (z_rec cx.2 (hW.at 29 rfl) rfl) hW hS zF zl ⟨rfl, rfl⟩ zR rfl zs zt z8 zd zf (fun v H1 locs1 hq hS1 _ => ?_)
  rcases hq with ⟨rfl, hf, hqz, hW1⟩ | ⟨rfl, hf, hW1⟩
  · exact kk0  H1 locs1 hf hqz hW1 hS1
  · exact kk1  H1 locs1 hf hW1 hS1
set_option maxHeartbeats 1000000 in
set_option maxRecDepth 100000 in
theorem c_X3_readDigits_n (l : Launch) (E : zE) (b : Nat → Nat) (pd : Bool) (qt : Nat → Option Nat) (qr : Nat → Option Nat) (tbu : Nat → Int32) (wst : Nat → Int32) (asw : Nat → Int32) (pN : Int32) (tN : Int32) (aN : Int32) (hd : Int32) (dr : Int32) (pl : Int32) (rm : Int32) (ps : Int32) (wx : Nat → Int32) (pp : Nat → Option Nat) (tp : Nat → Option Nat) (ap : Nat → Option Nat) (sg : Nat → Int32) (uh : Int32) (ud : Int32) (up : Int32) (ur : Int32) (us : Int32) (ux : Nat → Int32) (xN : Int32) (xT : Int32) (xA : Int32) (xh : Int32) (xd : Int32) (xl : Int32) (xr : Int32) (xo : Int32) (xw : Nat → Int32) (xpp : Nat → Option Nat) (xtp : Nat → Option Nat) (xap : Nat → Option Nat) (xsg : Nat → Int32) (yN : Int32) (yT : Int32) (yA : Int32) (yh : Int32) (yd : Int32) (yl : Int32) (yr : Int32) (yo : Int32) (yw : Nat → Int32) (ypp : Nat → Option Nat) (ytp : Nat → Option Nat) (yap : Nat → Option Nat) (ysg : Nat → Int32) (zpl : Int32) (zlt : Int32) (zjo : Bool) (zby : Nat → Int32) (znu : Nat → Int32) (G : zG) (q z t : Nat) (hz : z ≤ 100) (hq : q ≤ z) (h5 : t < 5) : Met l yX3_readDigits (.code yX3_readDigits cX3_readDigits 4 (some FieldType.boolean) :: AllW) (rm0' 1 20) (zP E (fun H => WW E (wK b E.2.1 (wT b E.2.1 xN xT xA xh xd xl xr xo xw xpp xtp xap xsg yN yT yA yh yd yl yr yo yw ypp ytp yap ysg (nI q) zpl zlt zjo (nI t) (nI z) zby znu) pd qt qr tbu wst asw pN tN aN hd dr pl rm ps wx pp tp ap sg uh ud up ur us ux) G H) [.ref (b 29), .int 3]) (zQ (fun (_ : Heap) (v : Option Value) (H1 : Heap) => (∃ (q2 : Nat) (v2 : Int32), v = some (.int (bI true)) ∧ (pSy (txC zby z) 110 (q, znu, t) = some (q2, upd znu t v2, t + 1)) ∧ (q2 ≤ z) ∧ WW E (wK b E.2.1 (wT b E.2.1 xN xT xA xh xd xl xr xo xw xpp xtp xap xsg yN yT yA yh yd yl yr yo yw ypp ytp yap ysg (nI q2) zpl zlt zjo (nI (t + 1)) (nI z) zby (upd znu t v2)) pd qt qr tbu wst asw pN tN aN hd dr pl rm ps wx pp tp ap sg uh ud up ur us ux) G H1) ∨ (v = some (.int (bI false)) ∧ (pSy (txC zby z) 110 (q, znu, t) = none) ∧ WW E (wK b E.2.1 (wT b E.2.1 xN xT xA xh xd xl xr xo xw xpp xtp xap xsg yN yT yA yh yd yl yr yo yw ypp ytp yap ysg (nI q) zpl zlt zjo (nI t) (nI z) zby znu) pd qt qr tbu wst asw pN tN aN hd dr pl rm ps wx pp tp ap sg uh ud up ur us ux) G H1)) (bF b)) 0 0 (bF b) := by
  refine z_body (own := RX3) (by decide) rfl rfl ?_
  intro p e s m args below meth c ls cx hr hlk hnm hW hl
  have hx := cx.x
  have hb := cx.b
  have hl : lv_has ls 4 [(0, .ref (b 29)), (1, .int 3)] := hl
  have hFb : ∀ k, (bF b) (b k) := fun k => bF_in b k
  have hS : va_S (bF b) s.heap s.heap [] := va_S.rf
  refine lv_aload_n (pc := 0) hx hb dX3_readDigits_0 rfl (lv_at hl 0 rfl) ?_
  refine k_X3_byteHere (pc := 1) (q := q) (z := z) cx hW (by first | assumption | omega) (by first | assumption | omega) m_ml_X3_47 ⟨Nat.le_of_ble_eq_true rfl, Nat.le_of_ble_eq_true rfl⟩ hl.1 rfl (by simp [Value.category]) dX3_readDigits_1 ⟨Nat.le_refl _, Nat.le_refl _⟩ ?_
  refine k_X3_isDigit (pc := 4) (x := bhC zby z q) cx  m_ml_X3_102 ⟨Nat.le_of_ble_eq_true rfl, Nat.le_of_ble_eq_true rfl⟩ hl.1 rfl (by simp [Value.category]) dX3_readDigits_4 ⟨Nat.le_refl _, Nat.le_refl _⟩ ?_
  refine z_ifne (pc := 7) (tgt := 12) hx hb dX3_readDigits_7 (by decide) (fun c_1 => ?_) (fun c_1 => ?_)
  · skip
    have hdt0 : inL (txC zby z q) 48 57 = true := (bh_dig _ _ _).symm.trans c_1
    have hlthdt0 := txC_lt hdt0
    refine lv_iconst (pc := 12) (v := 0) hx hb dX3_readDigits_12 (by decide) ?_
    refine lv_istore_n (pc := 13) (lv' := [(2, .int 0), (0, .ref (b 29)), (1, .int 3)]) hx hb dX3_readDigits_13 rfl hl (by decide) rfl (fun ls hl => ?_)
    refine lv_iconst (pc := 14) (v := 0) hx hb dX3_readDigits_14 (by decide) ?_
    refine lv_istore_n (pc := 15) (lv' := [(3, .int 0), (2, .int 0), (0, .ref (b 29)), (1, .int 3)]) hx hb dX3_readDigits_15 rfl hl (by decide) rfl (fun ls hl => ?_)
    refine lv_iload_n (pc := 16) hx hb dX3_readDigits_16 rfl (lv_at hl 0 rfl) ?_
    refine lv_iload_n (pc := 17) hx hb dX3_readDigits_17 rfl (lv_at hl 3 rfl) ?_
    refine lv_icmp_ge (pc := 18) (tgt := 68) hx hb dX3_readDigits_18 (by decide) (fun c => absurd c (by decide)) (fun _ => ?_)
    refine lv_aload_n (pc := 21) hx hb dX3_readDigits_21 rfl (lv_at hl 2 rfl) ?_
    refine k_X3_byteHere (pc := 22) (q := q) (z := z) cx hW (by first | assumption | omega) (by first | assumption | omega) m_ml_X3_47 ⟨Nat.le_of_ble_eq_true rfl, Nat.le_of_ble_eq_true rfl⟩ hl.1 rfl (by simp [Value.category]) dX3_readDigits_22 ⟨Nat.le_refl _, Nat.le_refl _⟩ ?_
    refine k_X3_isDigit (pc := 25) (x := bhC zby z q) cx  m_ml_X3_102 ⟨Nat.le_of_ble_eq_true rfl, Nat.le_of_ble_eq_true rfl⟩ hl.1 rfl (by simp [Value.category]) dX3_readDigits_25 ⟨Nat.le_refl _, Nat.le_refl _⟩ ?_
    refine z_ifeq (pc := 28) (tgt := 68) hx hb dX3_readDigits_28 (by decide) (fun c_3 => (by first | exact absurd c_3 c_1 | exact absurd c_1 c_3 | exact absurd c_3 (i_nlt.mpr c_1) | exact absurd c_1 (i_nlt.mpr c_3) | exact absurd c_3 (i_nle.mpr c_1) | exact absurd c_1 (i_nle.mpr c_3) | exact absurd (c_3.symm.trans c_1) (by decide) | exact absurd c_1 (i_nle.mpr (i_nlt.mp c_3)) | exact absurd c_3 (i_nle.mpr (i_nlt.mp c_1)))) (fun _ => ?_)
    refine lv_iload_n (pc := 31) hx hb dX3_readDigits_31 rfl (lv_at hl 0 rfl) ?_
    refine lv_if_eq (pc := 32) (tgt := 39) hx hb dX3_readDigits_32 (by decide) (fun _ => ?_) (fun c => (c (by decide)).elim)
    refine lv_bipush (pc := 39) (v := 10) hx hb dX3_readDigits_39 (by decide) ?_
    refine lv_iload_n (pc := 41) hx hb dX3_readDigits_41 rfl (lv_at hl 1 rfl) ?_
    refine lv_imul (pc := 42) hx hb dX3_readDigits_42 ?_
    refine lv_aload_n (pc := 43) hx hb dX3_readDigits_43 rfl (lv_at hl 2 rfl) ?_
    refine k_X3_byteHere (pc := 44) (q := q) (z := z) cx hW (by first | assumption | omega) (by first | assumption | omega) m_ml_X3_47 ⟨Nat.le_of_ble_eq_true rfl, Nat.le_of_ble_eq_true rfl⟩ hl.1 rfl (by simp [Value.category]) dX3_readDigits_44 ⟨Nat.le_refl _, Nat.le_refl _⟩ ?_
    refine lv_iadd (pc := 47) hx hb dX3_readDigits_47 ?_
    refine lv_bipush (pc := 48) (v := 48) hx hb dX3_readDigits_48 (by decide) ?_
    refine lv_isub (pc := 50) hx hb dX3_readDigits_50 ?_
    refine z_tope (y := txC zby z q - 48) (d0_eq hlthdt0) ?_
    refine lv_istore_n (pc := 51) (lv' := [(2, .int (txC zby z q - 48)), (3, .int 0), (0, .ref (b 29)), (1, .int 3)]) hx hb dX3_readDigits_51 rfl hl (by decide) rfl (fun ls hl => ?_)
    refine lv_aload_n (pc := 52) hx hb dX3_readDigits_52 rfl (lv_at hl 2 rfl) ?_
    refine lv_dup (pc := 53) hx hb dX3_readDigits_53 rfl ?_
    refine z_get (pc := 54) cx (hW.at 29 rfl) (C := RX3) (T := TX3) (N := 8) rfl i_X3 0 rfl m_fl_X3_37 rfl dX3_readDigits_54 ?_
    refine lv_iconst (pc := 57) (v := 1) hx hb dX3_readDigits_57 (by decide) ?_
    refine lv_iadd (pc := 58) hx hb dX3_readDigits_58 ?_
    refine z_tope (y := nI (q + 1)) (nI_1 _) ?_
    refine z_putK3 (pc := 59) cx hW hS 29 rfl (bF_in b 29) 0 rfl m_fl_X3_37 rfl rfl dX3_readDigits_59 (fun H locs hW hS => ?_)
    have hW : WW E (wK b E.2.1 (wT b E.2.1 xN xT xA xh xd xl xr xo xw xpp xtp xap xsg yN yT yA yh yd yl yr yo yw ypp ytp yap ysg (nI (q + 1)) zpl zlt zjo (nI t) (nI z) zby znu) pd qt qr tbu wst asw pN tN aN hd dr pl rm ps wx pp tp ap sg uh ud up ur us ux) G H := hW
    refine lv_iinc (pc := 62) (v := 1) (lv' := [(3, .int 1), (2, .int (txC zby z q - 48)), (0, .ref (b 29)), (1, .int 3)]) hx hb dX3_readDigits_62 hl (k := 1) rfl rfl (by decide) rfl (fun ls hl => ?_)
    refine lv_goto (pc := 65) (tgt := 16) hx hb dX3_readDigits_65 (by decide) ?_
    refine lv_iload_n (pc := 16) hx hb dX3_readDigits_16 rfl (lv_at hl 0 rfl) ?_
    refine lv_iload_n (pc := 17) hx hb dX3_readDigits_17 rfl (lv_at hl 3 rfl) ?_
    refine lv_icmp_ge (pc := 18) (tgt := 68) hx hb dX3_readDigits_18 (by decide) (fun c => absurd c (by decide)) (fun _ => ?_)
    refine lv_aload_n (pc := 21) hx hb dX3_readDigits_21 rfl (lv_at hl 2 rfl) ?_
    refine k_X3_byteHere (pc := 22) (q := q + 1) (z := z) cx hW (by first | assumption | omega) (by first | assumption | omega) m_ml_X3_47 ⟨Nat.le_of_ble_eq_true rfl, Nat.le_of_ble_eq_true rfl⟩ hl.1 rfl (by simp [Value.category]) dX3_readDigits_22 ⟨Nat.le_refl _, Nat.le_refl _⟩ ?_
    refine k_X3_isDigit (pc := 25) (x := bhC zby z (q + 1)) cx  m_ml_X3_102 ⟨Nat.le_of_ble_eq_true rfl, Nat.le_of_ble_eq_true rfl⟩ hl.1 rfl (by simp [Value.category]) dX3_readDigits_25 ⟨Nat.le_refl _, Nat.le_refl _⟩ ?_
    refine z_ifeq (pc := 28) (tgt := 68) hx hb dX3_readDigits_28 (by decide) (fun c_6 => ?_) (fun c_6 => ?_)
    · skip
      have hdf1 : inL (txC zby z (q + 1)) 48 57 = false := (bh_dig _ _ _).symm.trans c_6
      refine lv_aload_n (pc := 68) hx hb dX3_readDigits_68 rfl (lv_at hl 2 rfl) ?_
      refine z_get (pc := 69) cx (hW.at 29 rfl) (C := RX3) (T := TX3) (N := 8) rfl i_X3 4 rfl m_fl_X3_53 rfl dX3_readDigits_69 ?_
      refine lv_aload_n (pc := 72) hx hb dX3_readDigits_72 rfl (lv_at hl 2 rfl) ?_
      refine z_get (pc := 73) cx (hW.at 29 rfl) (C := RX3) (T := TX3) (N := 8) rfl i_X3 7 rfl m_fl_X3_15 rfl dX3_readDigits_73 ?_
      refine z_alen (pc := 76) cx 0 (hW.at 31 rfl) rfl rfl dX3_readDigits_76 ?_
      refine lv_icmp_ge (pc := 77) (tgt := 100) hx hb dX3_readDigits_77 (by decide) (fun c_7 => ?_) (fun c_7 => ?_)
      · skip
        have h3 := ge_nat (a := t) (b := 5) rfl rfl (by omega) (by omega) c_7
        omega
      · skip
        refine lv_aload_n (pc := 80) hx hb dX3_readDigits_80 rfl (lv_at hl 2 rfl) ?_
        refine z_get (pc := 81) cx (hW.at 29 rfl) (C := RX3) (T := TX3) (N := 8) rfl i_X3 7 rfl m_fl_X3_15 rfl dX3_readDigits_81 ?_
        refine lv_aload_n (pc := 84) hx hb dX3_readDigits_84 rfl (lv_at hl 2 rfl) ?_
        refine z_get (pc := 85) cx (hW.at 29 rfl) (C := RX3) (T := TX3) (N := 8) rfl i_X3 4 rfl m_fl_X3_53 rfl dX3_readDigits_85 ?_
        refine lv_iload_n (pc := 88) hx hb dX3_readDigits_88 rfl (lv_at hl 1 rfl) ?_
        refine z_iast (pc := 89) (f := znu) (j := t) cx hW hS 31 rfl (hFb 31) rfl (by omega) (by decide) dX3_readDigits_89 (fun H locs hW hS => ?_)
        have hW : WW E (wK b E.2.1 (wT b E.2.1 xN xT xA xh xd xl xr xo xw xpp xtp xap xsg yN yT yA yh yd yl yr yo yw ypp ytp yap ysg (nI (q + 1)) zpl zlt zjo (nI t) (nI z) zby (upd znu t (txC zby z q - 48))) pd qt qr tbu wst asw pN tN aN hd dr pl rm ps wx pp tp ap sg uh ud up ur us ux) G H := hW
        refine lv_aload_n (pc := 90) hx hb dX3_readDigits_90 rfl (lv_at hl 2 rfl) ?_
        refine lv_dup (pc := 91) hx hb dX3_readDigits_91 rfl ?_
        refine z_get (pc := 92) cx (hW.at 29 rfl) (C := RX3) (T := TX3) (N := 8) rfl i_X3 4 rfl m_fl_X3_53 rfl dX3_readDigits_92 ?_
        refine lv_iconst (pc := 95) (v := 1) hx hb dX3_readDigits_95 (by decide) ?_
        refine lv_iadd (pc := 96) hx hb dX3_readDigits_96 ?_
        refine z_tope (y := nI (t + 1)) (nI_1 _) ?_
        refine z_putK3 (pc := 97) cx hW hS 29 rfl (bF_in b 29) 4 rfl m_fl_X3_53 rfl rfl dX3_readDigits_97 (fun H locs hW hS => ?_)
        have hW : WW E (wK b E.2.1 (wT b E.2.1 xN xT xA xh xd xl xr xo xw xpp xtp xap xsg yN yT yA yh yd yl yr yo yw ypp ytp yap ysg (nI (q + 1)) zpl zlt zjo (nI (t + 1)) (nI z) zby (upd znu t (txC zby z q - 48))) pd qt qr tbu wst asw pN tN aN hd dr pl rm ps wx pp tp ap sg uh ud up ur us ux) G H := hW
        refine lv_iconst (pc := 100) (v := 1) hx hb dX3_readDigits_100 (by decide) ?_
        exact z_wzret (b := true) cx hr hlk dX3_readDigits_101 hS (Or.inl ⟨(q + 1), (txC zby z q - 48), rfl, (by rw [pSy_n, if_pos hdt0]; simp [nb, hdt0, hdf1, c_7, i_nle.mp c_7]), (by omega), (by exact hW)⟩)
    · skip
      have hdt1 : inL (txC zby z (q + 1)) 48 57 = true := (bh_dig _ _ _).symm.trans c_6
      have hlthdt1 := txC_lt hdt1
      refine lv_iload_n (pc := 31) hx hb dX3_readDigits_31 rfl (lv_at hl 0 rfl) ?_
      refine lv_if_eq (pc := 32) (tgt := 39) hx hb dX3_readDigits_32 (by decide) (fun c => absurd c (by decide)) (fun _ => ?_)
      refine lv_iload_n (pc := 35) hx hb dX3_readDigits_35 rfl (lv_at hl 1 rfl) ?_
      refine lv_if_le (pc := 36) (tgt := 68) hx hb dX3_readDigits_36 (by decide) (fun c_9 => ?_) (fun c_9 => ?_)
      · skip
        have hw0 := i_nlt.mpr c_9
        refine lv_aload_n (pc := 68) hx hb dX3_readDigits_68 rfl (lv_at hl 2 rfl) ?_
        refine z_get (pc := 69) cx (hW.at 29 rfl) (C := RX3) (T := TX3) (N := 8) rfl i_X3 4 rfl m_fl_X3_53 rfl dX3_readDigits_69 ?_
        refine lv_aload_n (pc := 72) hx hb dX3_readDigits_72 rfl (lv_at hl 2 rfl) ?_
        refine z_get (pc := 73) cx (hW.at 29 rfl) (C := RX3) (T := TX3) (N := 8) rfl i_X3 7 rfl m_fl_X3_15 rfl dX3_readDigits_73 ?_
        refine z_alen (pc := 76) cx 0 (hW.at 31 rfl) rfl rfl dX3_readDigits_76 ?_
        refine lv_icmp_ge (pc := 77) (tgt := 100) hx hb dX3_readDigits_77 (by decide) (fun c_10 => ?_) (fun c_10 => ?_)
        · skip
          have h3 := ge_nat (a := t) (b := 5) rfl rfl (by omega) (by omega) c_10
          omega
        · skip
          refine lv_aload_n (pc := 80) hx hb dX3_readDigits_80 rfl (lv_at hl 2 rfl) ?_
          refine z_get (pc := 81) cx (hW.at 29 rfl) (C := RX3) (T := TX3) (N := 8) rfl i_X3 7 rfl m_fl_X3_15 rfl dX3_readDigits_81 ?_
          refine lv_aload_n (pc := 84) hx hb dX3_readDigits_84 rfl (lv_at hl 2 rfl) ?_
          refine z_get (pc := 85) cx (hW.at 29 rfl) (C := RX3) (T := TX3) (N := 8) rfl i_X3 4 rfl m_fl_X3_53 rfl dX3_readDigits_85 ?_
          refine lv_iload_n (pc := 88) hx hb dX3_readDigits_88 rfl (lv_at hl 1 rfl) ?_
          refine z_iast (pc := 89) (f := znu) (j := t) cx hW hS 31 rfl (hFb 31) rfl (by omega) (by decide) dX3_readDigits_89 (fun H locs hW hS => ?_)
          have hW : WW E (wK b E.2.1 (wT b E.2.1 xN xT xA xh xd xl xr xo xw xpp xtp xap xsg yN yT yA yh yd yl yr yo yw ypp ytp yap ysg (nI (q + 1)) zpl zlt zjo (nI t) (nI z) zby (upd znu t (txC zby z q - 48))) pd qt qr tbu wst asw pN tN aN hd dr pl rm ps wx pp tp ap sg uh ud up ur us ux) G H := hW
          refine lv_aload_n (pc := 90) hx hb dX3_readDigits_90 rfl (lv_at hl 2 rfl) ?_
          refine lv_dup (pc := 91) hx hb dX3_readDigits_91 rfl ?_
          refine z_get (pc := 92) cx (hW.at 29 rfl) (C := RX3) (T := TX3) (N := 8) rfl i_X3 4 rfl m_fl_X3_53 rfl dX3_readDigits_92 ?_
          refine lv_iconst (pc := 95) (v := 1) hx hb dX3_readDigits_95 (by decide) ?_
          refine lv_iadd (pc := 96) hx hb dX3_readDigits_96 ?_
          refine z_tope (y := nI (t + 1)) (nI_1 _) ?_
          refine z_putK3 (pc := 97) cx hW hS 29 rfl (bF_in b 29) 4 rfl m_fl_X3_53 rfl rfl dX3_readDigits_97 (fun H locs hW hS => ?_)
          have hW : WW E (wK b E.2.1 (wT b E.2.1 xN xT xA xh xd xl xr xo xw xpp xtp xap xsg yN yT yA yh yd yl yr yo yw ypp ytp yap ysg (nI (q + 1)) zpl zlt zjo (nI (t + 1)) (nI z) zby (upd znu t (txC zby z q - 48))) pd qt qr tbu wst asw pN tN aN hd dr pl rm ps wx pp tp ap sg uh ud up ur us ux) G H := hW
          refine lv_iconst (pc := 100) (v := 1) hx hb dX3_readDigits_100 (by decide) ?_
          exact z_wzret (b := true) cx hr hlk dX3_readDigits_101 hS (Or.inl ⟨(q + 1), (txC zby z q - 48), rfl, (by rw [pSy_n, if_pos hdt0]; simp [nb, hdt0, hdt1, hw0, c_10, i_nle.mp c_10]), (by omega), (by exact hW)⟩)
      · skip
        have hw0 := i_nle.mp c_9
        refine lv_bipush (pc := 39) (v := 10) hx hb dX3_readDigits_39 (by decide) ?_
        refine lv_iload_n (pc := 41) hx hb dX3_readDigits_41 rfl (lv_at hl 1 rfl) ?_
        refine lv_imul (pc := 42) hx hb dX3_readDigits_42 ?_
        refine lv_aload_n (pc := 43) hx hb dX3_readDigits_43 rfl (lv_at hl 2 rfl) ?_
        refine k_X3_byteHere (pc := 44) (q := q + 1) (z := z) cx hW (by first | assumption | omega) (by first | assumption | omega) m_ml_X3_47 ⟨Nat.le_of_ble_eq_true rfl, Nat.le_of_ble_eq_true rfl⟩ hl.1 rfl (by simp [Value.category]) dX3_readDigits_44 ⟨Nat.le_refl _, Nat.le_refl _⟩ ?_
        refine lv_iadd (pc := 47) hx hb dX3_readDigits_47 ?_
        refine lv_bipush (pc := 48) (v := 48) hx hb dX3_readDigits_48 (by decide) ?_
        refine lv_isub (pc := 50) hx hb dX3_readDigits_50 ?_
        refine z_tope (y := ((10 * (txC zby z q - 48)) + (txC zby z (q + 1))) - 48) (d1_eq hlthdt1) ?_
        refine lv_istore_n (pc := 51) (lv' := [(2, .int (((10 * (txC zby z q - 48)) + (txC zby z (q + 1))) - 48)), (3, .int 1), (0, .ref (b 29)), (1, .int 3)]) hx hb dX3_readDigits_51 rfl hl (by decide) rfl (fun ls hl => ?_)
        refine lv_aload_n (pc := 52) hx hb dX3_readDigits_52 rfl (lv_at hl 2 rfl) ?_
        refine lv_dup (pc := 53) hx hb dX3_readDigits_53 rfl ?_
        refine z_get (pc := 54) cx (hW.at 29 rfl) (C := RX3) (T := TX3) (N := 8) rfl i_X3 0 rfl m_fl_X3_37 rfl dX3_readDigits_54 ?_
        refine lv_iconst (pc := 57) (v := 1) hx hb dX3_readDigits_57 (by decide) ?_
        refine lv_iadd (pc := 58) hx hb dX3_readDigits_58 ?_
        refine z_tope (y := nI (q + 1 + 1)) (nI_1 _) ?_
        refine z_putK3 (pc := 59) cx hW hS 29 rfl (bF_in b 29) 0 rfl m_fl_X3_37 rfl rfl dX3_readDigits_59 (fun H locs hW hS => ?_)
        have hW : WW E (wK b E.2.1 (wT b E.2.1 xN xT xA xh xd xl xr xo xw xpp xtp xap xsg yN yT yA yh yd yl yr yo yw ypp ytp yap ysg (nI (q + 1 + 1)) zpl zlt zjo (nI t) (nI z) zby znu) pd qt qr tbu wst asw pN tN aN hd dr pl rm ps wx pp tp ap sg uh ud up ur us ux) G H := hW
        refine lv_iinc (pc := 62) (v := 2) (lv' := [(3, .int 2), (2, .int (((10 * (txC zby z q - 48)) + (txC zby z (q + 1))) - 48)), (0, .ref (b 29)), (1, .int 3)]) hx hb dX3_readDigits_62 hl (k := 1) rfl rfl (by decide) rfl (fun ls hl => ?_)
        refine lv_goto (pc := 65) (tgt := 16) hx hb dX3_readDigits_65 (by decide) ?_
        refine lv_iload_n (pc := 16) hx hb dX3_readDigits_16 rfl (lv_at hl 0 rfl) ?_
        refine lv_iload_n (pc := 17) hx hb dX3_readDigits_17 rfl (lv_at hl 3 rfl) ?_
        refine lv_icmp_ge (pc := 18) (tgt := 68) hx hb dX3_readDigits_18 (by decide) (fun c => absurd c (by decide)) (fun _ => ?_)
        refine lv_aload_n (pc := 21) hx hb dX3_readDigits_21 rfl (lv_at hl 2 rfl) ?_
        refine k_X3_byteHere (pc := 22) (q := q + 1 + 1) (z := z) cx hW (by first | assumption | omega) (by first | assumption | omega) m_ml_X3_47 ⟨Nat.le_of_ble_eq_true rfl, Nat.le_of_ble_eq_true rfl⟩ hl.1 rfl (by simp [Value.category]) dX3_readDigits_22 ⟨Nat.le_refl _, Nat.le_refl _⟩ ?_
        refine k_X3_isDigit (pc := 25) (x := bhC zby z (q + 1 + 1)) cx  m_ml_X3_102 ⟨Nat.le_of_ble_eq_true rfl, Nat.le_of_ble_eq_true rfl⟩ hl.1 rfl (by simp [Value.category]) dX3_readDigits_25 ⟨Nat.le_refl _, Nat.le_refl _⟩ ?_
        refine z_ifeq (pc := 28) (tgt := 68) hx hb dX3_readDigits_28 (by decide) (fun c_12 => ?_) (fun c_12 => ?_)
        · skip
          have hdf2 : inL (txC zby z (q + 1 + 1)) 48 57 = false := (bh_dig _ _ _).symm.trans c_12
          refine lv_aload_n (pc := 68) hx hb dX3_readDigits_68 rfl (lv_at hl 2 rfl) ?_
          refine z_get (pc := 69) cx (hW.at 29 rfl) (C := RX3) (T := TX3) (N := 8) rfl i_X3 4 rfl m_fl_X3_53 rfl dX3_readDigits_69 ?_
          refine lv_aload_n (pc := 72) hx hb dX3_readDigits_72 rfl (lv_at hl 2 rfl) ?_
          refine z_get (pc := 73) cx (hW.at 29 rfl) (C := RX3) (T := TX3) (N := 8) rfl i_X3 7 rfl m_fl_X3_15 rfl dX3_readDigits_73 ?_
          refine z_alen (pc := 76) cx 0 (hW.at 31 rfl) rfl rfl dX3_readDigits_76 ?_
          refine lv_icmp_ge (pc := 77) (tgt := 100) hx hb dX3_readDigits_77 (by decide) (fun c_13 => ?_) (fun c_13 => ?_)
          · skip
            have h3 := ge_nat (a := t) (b := 5) rfl rfl (by omega) (by omega) c_13
            omega
          · skip
            refine lv_aload_n (pc := 80) hx hb dX3_readDigits_80 rfl (lv_at hl 2 rfl) ?_
            refine z_get (pc := 81) cx (hW.at 29 rfl) (C := RX3) (T := TX3) (N := 8) rfl i_X3 7 rfl m_fl_X3_15 rfl dX3_readDigits_81 ?_
            refine lv_aload_n (pc := 84) hx hb dX3_readDigits_84 rfl (lv_at hl 2 rfl) ?_
            refine z_get (pc := 85) cx (hW.at 29 rfl) (C := RX3) (T := TX3) (N := 8) rfl i_X3 4 rfl m_fl_X3_53 rfl dX3_readDigits_85 ?_
            refine lv_iload_n (pc := 88) hx hb dX3_readDigits_88 rfl (lv_at hl 1 rfl) ?_
            refine z_iast (pc := 89) (f := znu) (j := t) cx hW hS 31 rfl (hFb 31) rfl (by omega) (by decide) dX3_readDigits_89 (fun H locs hW hS => ?_)
            have hW : WW E (wK b E.2.1 (wT b E.2.1 xN xT xA xh xd xl xr xo xw xpp xtp xap xsg yN yT yA yh yd yl yr yo yw ypp ytp yap ysg (nI (q + 1 + 1)) zpl zlt zjo (nI t) (nI z) zby (upd znu t (((10 * (txC zby z q - 48)) + (txC zby z (q + 1))) - 48))) pd qt qr tbu wst asw pN tN aN hd dr pl rm ps wx pp tp ap sg uh ud up ur us ux) G H := hW
            refine lv_aload_n (pc := 90) hx hb dX3_readDigits_90 rfl (lv_at hl 2 rfl) ?_
            refine lv_dup (pc := 91) hx hb dX3_readDigits_91 rfl ?_
            refine z_get (pc := 92) cx (hW.at 29 rfl) (C := RX3) (T := TX3) (N := 8) rfl i_X3 4 rfl m_fl_X3_53 rfl dX3_readDigits_92 ?_
            refine lv_iconst (pc := 95) (v := 1) hx hb dX3_readDigits_95 (by decide) ?_
            refine lv_iadd (pc := 96) hx hb dX3_readDigits_96 ?_
            refine z_tope (y := nI (t + 1)) (nI_1 _) ?_
            refine z_putK3 (pc := 97) cx hW hS 29 rfl (bF_in b 29) 4 rfl m_fl_X3_53 rfl rfl dX3_readDigits_97 (fun H locs hW hS => ?_)
            have hW : WW E (wK b E.2.1 (wT b E.2.1 xN xT xA xh xd xl xr xo xw xpp xtp xap xsg yN yT yA yh yd yl yr yo yw ypp ytp yap ysg (nI (q + 1 + 1)) zpl zlt zjo (nI (t + 1)) (nI z) zby (upd znu t (((10 * (txC zby z q - 48)) + (txC zby z (q + 1))) - 48))) pd qt qr tbu wst asw pN tN aN hd dr pl rm ps wx pp tp ap sg uh ud up ur us ux) G H := hW
            refine lv_iconst (pc := 100) (v := 1) hx hb dX3_readDigits_100 (by decide) ?_
            exact z_wzret (b := true) cx hr hlk dX3_readDigits_101 hS (Or.inl ⟨(q + 1 + 1), (((10 * (txC zby z q - 48)) + (txC zby z (q + 1))) - 48), rfl, (by rw [pSy_n, if_pos hdt0]; simp [nb, hdt0, hdt1, hw0, hdf2, c_13, i_nle.mp c_13]), (by omega), (by exact hW)⟩)
        · skip
          have hdt2 : inL (txC zby z (q + 1 + 1)) 48 57 = true := (bh_dig _ _ _).symm.trans c_12
          have hlthdt2 := txC_lt hdt2
          refine lv_iload_n (pc := 31) hx hb dX3_readDigits_31 rfl (lv_at hl 0 rfl) ?_
          refine lv_if_eq (pc := 32) (tgt := 39) hx hb dX3_readDigits_32 (by decide) (fun c => absurd c (by decide)) (fun _ => ?_)
          refine lv_iload_n (pc := 35) hx hb dX3_readDigits_35 rfl (lv_at hl 1 rfl) ?_
          refine lv_if_le (pc := 36) (tgt := 68) hx hb dX3_readDigits_36 (by decide) (fun c_15 => ?_) (fun c_15 => ?_)
          · skip
            have hw1 := i_nlt.mpr c_15
            refine lv_aload_n (pc := 68) hx hb dX3_readDigits_68 rfl (lv_at hl 2 rfl) ?_
            refine z_get (pc := 69) cx (hW.at 29 rfl) (C := RX3) (T := TX3) (N := 8) rfl i_X3 4 rfl m_fl_X3_53 rfl dX3_readDigits_69 ?_
            refine lv_aload_n (pc := 72) hx hb dX3_readDigits_72 rfl (lv_at hl 2 rfl) ?_
            refine z_get (pc := 73) cx (hW.at 29 rfl) (C := RX3) (T := TX3) (N := 8) rfl i_X3 7 rfl m_fl_X3_15 rfl dX3_readDigits_73 ?_
            refine z_alen (pc := 76) cx 0 (hW.at 31 rfl) rfl rfl dX3_readDigits_76 ?_
            refine lv_icmp_ge (pc := 77) (tgt := 100) hx hb dX3_readDigits_77 (by decide) (fun c_16 => ?_) (fun c_16 => ?_)
            · skip
              have h3 := ge_nat (a := t) (b := 5) rfl rfl (by omega) (by omega) c_16
              omega
            · skip
              refine lv_aload_n (pc := 80) hx hb dX3_readDigits_80 rfl (lv_at hl 2 rfl) ?_
              refine z_get (pc := 81) cx (hW.at 29 rfl) (C := RX3) (T := TX3) (N := 8) rfl i_X3 7 rfl m_fl_X3_15 rfl dX3_readDigits_81 ?_
              refine lv_aload_n (pc := 84) hx hb dX3_readDigits_84 rfl (lv_at hl 2 rfl) ?_
              refine z_get (pc := 85) cx (hW.at 29 rfl) (C := RX3) (T := TX3) (N := 8) rfl i_X3 4 rfl m_fl_X3_53 rfl dX3_readDigits_85 ?_
              refine lv_iload_n (pc := 88) hx hb dX3_readDigits_88 rfl (lv_at hl 1 rfl) ?_
              refine z_iast (pc := 89) (f := znu) (j := t) cx hW hS 31 rfl (hFb 31) rfl (by omega) (by decide) dX3_readDigits_89 (fun H locs hW hS => ?_)
              have hW : WW E (wK b E.2.1 (wT b E.2.1 xN xT xA xh xd xl xr xo xw xpp xtp xap xsg yN yT yA yh yd yl yr yo yw ypp ytp yap ysg (nI (q + 1 + 1)) zpl zlt zjo (nI t) (nI z) zby (upd znu t (((10 * (txC zby z q - 48)) + (txC zby z (q + 1))) - 48))) pd qt qr tbu wst asw pN tN aN hd dr pl rm ps wx pp tp ap sg uh ud up ur us ux) G H := hW
              refine lv_aload_n (pc := 90) hx hb dX3_readDigits_90 rfl (lv_at hl 2 rfl) ?_
              refine lv_dup (pc := 91) hx hb dX3_readDigits_91 rfl ?_
              refine z_get (pc := 92) cx (hW.at 29 rfl) (C := RX3) (T := TX3) (N := 8) rfl i_X3 4 rfl m_fl_X3_53 rfl dX3_readDigits_92 ?_
              refine lv_iconst (pc := 95) (v := 1) hx hb dX3_readDigits_95 (by decide) ?_
              refine lv_iadd (pc := 96) hx hb dX3_readDigits_96 ?_
              refine z_tope (y := nI (t + 1)) (nI_1 _) ?_
              refine z_putK3 (pc := 97) cx hW hS 29 rfl (bF_in b 29) 4 rfl m_fl_X3_53 rfl rfl dX3_readDigits_97 (fun H locs hW hS => ?_)
              have hW : WW E (wK b E.2.1 (wT b E.2.1 xN xT xA xh xd xl xr xo xw xpp xtp xap xsg yN yT yA yh yd yl yr yo yw ypp ytp yap ysg (nI (q + 1 + 1)) zpl zlt zjo (nI (t + 1)) (nI z) zby (upd znu t (((10 * (txC zby z q - 48)) + (txC zby z (q + 1))) - 48))) pd qt qr tbu wst asw pN tN aN hd dr pl rm ps wx pp tp ap sg uh ud up ur us ux) G H := hW
              refine lv_iconst (pc := 100) (v := 1) hx hb dX3_readDigits_100 (by decide) ?_
              exact z_wzret (b := true) cx hr hlk dX3_readDigits_101 hS (Or.inl ⟨(q + 1 + 1), (((10 * (txC zby z q - 48)) + (txC zby z (q + 1))) - 48), rfl, (by rw [pSy_n, if_pos hdt0]; simp [nb, hdt0, hdt1, hw0, hdt2, hw1, c_16, i_nle.mp c_16]), (by omega), (by exact hW)⟩)
          · skip
            have hw1 := i_nle.mp c_15
            refine lv_bipush (pc := 39) (v := 10) hx hb dX3_readDigits_39 (by decide) ?_
            refine lv_iload_n (pc := 41) hx hb dX3_readDigits_41 rfl (lv_at hl 1 rfl) ?_
            refine lv_imul (pc := 42) hx hb dX3_readDigits_42 ?_
            refine lv_aload_n (pc := 43) hx hb dX3_readDigits_43 rfl (lv_at hl 2 rfl) ?_
            refine k_X3_byteHere (pc := 44) (q := q + 1 + 1) (z := z) cx hW (by first | assumption | omega) (by first | assumption | omega) m_ml_X3_47 ⟨Nat.le_of_ble_eq_true rfl, Nat.le_of_ble_eq_true rfl⟩ hl.1 rfl (by simp [Value.category]) dX3_readDigits_44 ⟨Nat.le_refl _, Nat.le_refl _⟩ ?_
            refine lv_iadd (pc := 47) hx hb dX3_readDigits_47 ?_
            refine lv_bipush (pc := 48) (v := 48) hx hb dX3_readDigits_48 (by decide) ?_
            refine lv_isub (pc := 50) hx hb dX3_readDigits_50 ?_
            refine z_tope (y := ((10 * (((10 * (txC zby z q - 48)) + (txC zby z (q + 1))) - 48)) + (txC zby z (q + 1 + 1))) - 48) (d1_eq hlthdt2) ?_
            refine lv_istore_n (pc := 51) (lv' := [(2, .int (((10 * (((10 * (txC zby z q - 48)) + (txC zby z (q + 1))) - 48)) + (txC zby z (q + 1 + 1))) - 48)), (3, .int 2), (0, .ref (b 29)), (1, .int 3)]) hx hb dX3_readDigits_51 rfl hl (by decide) rfl (fun ls hl => ?_)
            refine lv_aload_n (pc := 52) hx hb dX3_readDigits_52 rfl (lv_at hl 2 rfl) ?_
            refine lv_dup (pc := 53) hx hb dX3_readDigits_53 rfl ?_
            refine z_get (pc := 54) cx (hW.at 29 rfl) (C := RX3) (T := TX3) (N := 8) rfl i_X3 0 rfl m_fl_X3_37 rfl dX3_readDigits_54 ?_
            refine lv_iconst (pc := 57) (v := 1) hx hb dX3_readDigits_57 (by decide) ?_
            refine lv_iadd (pc := 58) hx hb dX3_readDigits_58 ?_
            refine z_tope (y := nI (q + 1 + 1 + 1)) (nI_1 _) ?_
            refine z_putK3 (pc := 59) cx hW hS 29 rfl (bF_in b 29) 0 rfl m_fl_X3_37 rfl rfl dX3_readDigits_59 (fun H locs hW hS => ?_)
            have hW : WW E (wK b E.2.1 (wT b E.2.1 xN xT xA xh xd xl xr xo xw xpp xtp xap xsg yN yT yA yh yd yl yr yo yw ypp ytp yap ysg (nI (q + 1 + 1 + 1)) zpl zlt zjo (nI t) (nI z) zby znu) pd qt qr tbu wst asw pN tN aN hd dr pl rm ps wx pp tp ap sg uh ud up ur us ux) G H := hW
            refine lv_iinc (pc := 62) (v := 3) (lv' := [(3, .int 3), (2, .int (((10 * (((10 * (txC zby z q - 48)) + (txC zby z (q + 1))) - 48)) + (txC zby z (q + 1 + 1))) - 48)), (0, .ref (b 29)), (1, .int 3)]) hx hb dX3_readDigits_62 hl (k := 1) rfl rfl (by decide) rfl (fun ls hl => ?_)
            refine lv_goto (pc := 65) (tgt := 16) hx hb dX3_readDigits_65 (by decide) ?_
            refine lv_iload_n (pc := 16) hx hb dX3_readDigits_16 rfl (lv_at hl 0 rfl) ?_
            refine lv_iload_n (pc := 17) hx hb dX3_readDigits_17 rfl (lv_at hl 3 rfl) ?_
            refine lv_icmp_ge (pc := 18) (tgt := 68) hx hb dX3_readDigits_18 (by decide) (fun _ => ?_) (fun c => (c (by decide)).elim)
            refine lv_aload_n (pc := 68) hx hb dX3_readDigits_68 rfl (lv_at hl 2 rfl) ?_
            refine z_get (pc := 69) cx (hW.at 29 rfl) (C := RX3) (T := TX3) (N := 8) rfl i_X3 4 rfl m_fl_X3_53 rfl dX3_readDigits_69 ?_
            refine lv_aload_n (pc := 72) hx hb dX3_readDigits_72 rfl (lv_at hl 2 rfl) ?_
            refine z_get (pc := 73) cx (hW.at 29 rfl) (C := RX3) (T := TX3) (N := 8) rfl i_X3 7 rfl m_fl_X3_15 rfl dX3_readDigits_73 ?_
            refine z_alen (pc := 76) cx 0 (hW.at 31 rfl) rfl rfl dX3_readDigits_76 ?_
            refine lv_icmp_ge (pc := 77) (tgt := 100) hx hb dX3_readDigits_77 (by decide) (fun c_18 => ?_) (fun c_18 => ?_)
            · skip
              have h3 := ge_nat (a := t) (b := 5) rfl rfl (by omega) (by omega) c_18
              omega
            · skip
              refine lv_aload_n (pc := 80) hx hb dX3_readDigits_80 rfl (lv_at hl 2 rfl) ?_
              refine z_get (pc := 81) cx (hW.at 29 rfl) (C := RX3) (T := TX3) (N := 8) rfl i_X3 7 rfl m_fl_X3_15 rfl dX3_readDigits_81 ?_
              refine lv_aload_n (pc := 84) hx hb dX3_readDigits_84 rfl (lv_at hl 2 rfl) ?_
              refine z_get (pc := 85) cx (hW.at 29 rfl) (C := RX3) (T := TX3) (N := 8) rfl i_X3 4 rfl m_fl_X3_53 rfl dX3_readDigits_85 ?_
              refine lv_iload_n (pc := 88) hx hb dX3_readDigits_88 rfl (lv_at hl 1 rfl) ?_
              refine z_iast (pc := 89) (f := znu) (j := t) cx hW hS 31 rfl (hFb 31) rfl (by omega) (by decide) dX3_readDigits_89 (fun H locs hW hS => ?_)
              have hW : WW E (wK b E.2.1 (wT b E.2.1 xN xT xA xh xd xl xr xo xw xpp xtp xap xsg yN yT yA yh yd yl yr yo yw ypp ytp yap ysg (nI (q + 1 + 1 + 1)) zpl zlt zjo (nI t) (nI z) zby (upd znu t (((10 * (((10 * (txC zby z q - 48)) + (txC zby z (q + 1))) - 48)) + (txC zby z (q + 1 + 1))) - 48))) pd qt qr tbu wst asw pN tN aN hd dr pl rm ps wx pp tp ap sg uh ud up ur us ux) G H := hW
              refine lv_aload_n (pc := 90) hx hb dX3_readDigits_90 rfl (lv_at hl 2 rfl) ?_
              refine lv_dup (pc := 91) hx hb dX3_readDigits_91 rfl ?_
              refine z_get (pc := 92) cx (hW.at 29 rfl) (C := RX3) (T := TX3) (N := 8) rfl i_X3 4 rfl m_fl_X3_53 rfl dX3_readDigits_92 ?_
              refine lv_iconst (pc := 95) (v := 1) hx hb dX3_readDigits_95 (by decide) ?_
              refine lv_iadd (pc := 96) hx hb dX3_readDigits_96 ?_
              refine z_tope (y := nI (t + 1)) (nI_1 _) ?_
              refine z_putK3 (pc := 97) cx hW hS 29 rfl (bF_in b 29) 4 rfl m_fl_X3_53 rfl rfl dX3_readDigits_97 (fun H locs hW hS => ?_)
              have hW : WW E (wK b E.2.1 (wT b E.2.1 xN xT xA xh xd xl xr xo xw xpp xtp xap xsg yN yT yA yh yd yl yr yo yw ypp ytp yap ysg (nI (q + 1 + 1 + 1)) zpl zlt zjo (nI (t + 1)) (nI z) zby (upd znu t (((10 * (((10 * (txC zby z q - 48)) + (txC zby z (q + 1))) - 48)) + (txC zby z (q + 1 + 1))) - 48))) pd qt qr tbu wst asw pN tN aN hd dr pl rm ps wx pp tp ap sg uh ud up ur us ux) G H := hW
              refine lv_iconst (pc := 100) (v := 1) hx hb dX3_readDigits_100 (by decide) ?_
              exact z_wzret (b := true) cx hr hlk dX3_readDigits_101 hS (Or.inl ⟨(q + 1 + 1 + 1), (((10 * (((10 * (txC zby z q - 48)) + (txC zby z (q + 1))) - 48)) + (txC zby z (q + 1 + 1))) - 48), rfl, (by rw [pSy_n, if_pos hdt0]; simp [nb, hdt0, hdt1, hw0, hdt2, hw1, c_18, i_nle.mp c_18]), (by omega), (by exact hW)⟩)
  · skip
    have hdf0 : inL (txC zby z q) 48 57 = false := (bh_dig _ _ _).symm.trans c_1
    refine lv_iconst (pc := 10) (v := 0) hx hb dX3_readDigits_10 (by decide) ?_
    exact z_wzret (b := false) cx hr hlk dX3_readDigits_11 hS (Or.inr ⟨rfl, (by rw [pSy_n]; exact if_neg (by simp [hdf0])), hW⟩)
theorem k_X3_readDigits_n {p : Program} {l : Launch} {e : Env} {R : Room} {s : State} {m : MethodId} {args : Array Value} {below : List Frame} {meth : Method} {c : Code} {H H0 : Heap} {locs : List Loc} {cells slots : Nat} {Q : State → Prop} {cc : ByteArray} {pc index : Nat} {ls : Array Slot} {rest st0 : List Value} {E : zE} {own : String} {nL : Nat} {F : Nat → Prop} {b : Nat → Nat} {pd : Bool} {qt : Nat → Option Nat} {qr : Nat → Option Nat} {tbu : Nat → Int32} {wst : Nat → Int32} {asw : Nat → Int32} {pN : Int32} {tN : Int32} {aN : Int32} {hd : Int32} {dr : Int32} {pl : Int32} {rm : Int32} {ps : Int32} {wx : Nat → Int32} {pp : Nat → Option Nat} {tp : Nat → Option Nat} {ap : Nat → Option Nat} {sg : Nat → Int32} {uh : Int32} {ud : Int32} {up : Int32} {ur : Int32} {us : Int32} {ux : Nat → Int32} {xN : Int32} {xT : Int32} {xA : Int32} {xh : Int32} {xd : Int32} {xl : Int32} {xr : Int32} {xo : Int32} {xw : Nat → Int32} {xpp : Nat → Option Nat} {xtp : Nat → Option Nat} {xap : Nat → Option Nat} {xsg : Nat → Int32} {yN : Int32} {yT : Int32} {yA : Int32} {yh : Int32} {yd : Int32} {yl : Int32} {yr : Int32} {yo : Int32} {yw : Nat → Int32} {ypp : Nat → Option Nat} {ytp : Nat → Option Nat} {yap : Nat → Option Nat} {ysg : Nat → Int32} {zpl : Int32} {zlt : Int32} {zjo : Bool} {zby : Nat → Int32} {znu : Nat → Int32} {G : zG} {q z t : Nat} (cx : Cx E p s args m c own cc nL) (hW : WW E (wK b E.2.1 (wT b E.2.1 xN xT xA xh xd xl xr xo xw xpp xtp xap xsg yN yT yA yh yd yl yr yo yw ypp ytp yap ysg (nI q) zpl zlt zjo (nI t) (nI z) zby znu) pd qt qr tbu wst asw pN tN aN hd dr pl rm ps wx pp tp ap sg uh ud up ur us ux) G H) (hS : va_S F H0 H locs) (zF : ∀ q, (bF b) q → F q) (hz : z ≤ 100) (hq : q ≤ z) (h5 : t < 5) (zl : Cond.methodLink own index yX3_readDigits ∈ AllW) (zR : 1 + 1 ≤ R.frames ∧ 8 + (4 + 11) + 20 ≤ R.locals) (zs : ls.size = nL) (zt : st0 = ([.int 3] : List Value).reverse ++ .ref (b 29) :: rest) (z8 : (rest.map fun v => v.category).sum ≤ 8) (zd : decode cc pc = .ok (.invokevirtual index, 3)) (zf : cells ≤ R.cells ∧ slots ≤ R.slots) (kk0 : ∀ (q2 : Nat) (v2 : Int32) (H1 : Heap) (locs1 : List Loc), (pSy (txC zby z) 110 (q, znu, t) = some (q2, upd znu t v2, t + 1)) → (q2 ≤ z) → WW E (wK b E.2.1 (wT b E.2.1 xN xT xA xh xd xl xr xo xw xpp xtp xap xsg yN yT yA yh yd yl yr yo yw ypp ytp yap ysg (nI q2) zpl zlt zjo (nI (t + 1)) (nI z) zby (upd znu t v2)) pd qt qr tbu wst asw pN tN aN hd dr pl rm ps wx pp tp ap sg uh ud up ur us ux) G H1 → va_S F H0 H1 locs1 → W p l e R s m args below meth c H1 locs1 cells slots Q (F0 m (pc + 3) ls (.int 1 :: rest))) (kk1 : ∀  (H1 : Heap) (locs1 : List Loc), (pSy (txC zby z) 110 (q, znu, t) = none) → WW E (wK b E.2.1 (wT b E.2.1 xN xT xA xh xd xl xr xo xw xpp xtp xap xsg yN yT yA yh yd yl yr yo yw ypp ytp yap ysg (nI q) zpl zlt zjo (nI t) (nI z) zby znu) pd qt qr tbu wst asw pN tN aN hd dr pl rm ps wx pp tp ap sg uh ud up ur us ux) G H1 → va_S F H0 H1 locs1 → W p l e R s m args below meth c H1 locs1 cells slots Q (F0 m (pc + 3) ls (.int 0 :: rest))) : W p l e R s m args below meth c H locs cells slots Q (F0 m pc ls st0) := by
  refine z_callVw cx vm_X3_readDigits (c_X3_readDigits_n l E b pd qt qr tbu wst asw pN tN aN hd dr pl rm ps wx pp tp ap sg uh ud up ur us ux xN xT xA xh xd xl xr xo xw xpp xtp xap xsg yN yT yA yh yd yl yr yo yw ypp ytp yap ysg zpl zlt zjo zby znu G q z t hz hq h5) (z_rec cx.2 (hW.at 29 rfl) rfl) hW hS zF zl ⟨rfl, rfl⟩ zR rfl zs zt z8 zd zf (fun v H1 locs1 hq hS1 _ => ?_)
  rcases hq with ⟨q2, v2, rfl, hf, hqz, hW1⟩ | ⟨rfl, hf, hW1⟩
  · exact kk0 q2 v2 H1 locs1 hf hqz hW1 hS1
  · exact kk1  H1 locs1 hf hW1 hS1
theorem vm_X3_readPart : zVm yX3_readPart cX3_readPart 2 (some FieldType.boolean) 1 := ⟨m_co_X3_readPart, m_in_RX3, ⟨m_im_X3_readPart, m_se_X3_X3_readPart⟩, by decide +kernel, by decide +kernel, by decide +kernel⟩
set_option maxHeartbeats 1000000 in
set_option maxRecDepth 100000 in
theorem c_X3_readPart (l : Launch) (E : zE) (b : Nat → Nat) (pd : Bool) (qt : Nat → Option Nat) (qr : Nat → Option Nat) (tbu : Nat → Int32) (wst : Nat → Int32) (asw : Nat → Int32) (pN : Int32) (tN : Int32) (aN : Int32) (hd : Int32) (dr : Int32) (pl : Int32) (rm : Int32) (ps : Int32) (wx : Nat → Int32) (pp : Nat → Option Nat) (tp : Nat → Option Nat) (ap : Nat → Option Nat) (sg : Nat → Int32) (uh : Int32) (ud : Int32) (up : Int32) (ur : Int32) (us : Int32) (ux : Nat → Int32) (xN : Int32) (xT : Int32) (xA : Int32) (xh : Int32) (xd : Int32) (xl : Int32) (xr : Int32) (xo : Int32) (xw : Nat → Int32) (xpp : Nat → Option Nat) (xtp : Nat → Option Nat) (xap : Nat → Option Nat) (xsg : Nat → Int32) (yN : Int32) (yT : Int32) (yA : Int32) (yh : Int32) (yd : Int32) (yl : Int32) (yr : Int32) (yo : Int32) (yw : Nat → Int32) (ypp : Nat → Option Nat) (ytp : Nat → Option Nat) (yap : Nat → Option Nat) (ysg : Nat → Int32) (zpl : Int32) (zlt : Int32) (zjo : Bool) (zby : Nat → Int32) (znu : Nat → Int32) (G : zG) (k q z t : Nat) (hz : z ≤ 100) (hq : q ≤ z) (hk : k < 1000) (h5 : t + dnK k ≤ 5) : Met l yX3_readPart (.code yX3_readPart cX3_readPart 2 (some FieldType.boolean) :: AllW) (rm0' 2 43) (zP E (fun H => WW E (wK b E.2.1 (wT b E.2.1 xN xT xA xh xd xl xr xo xw xpp xtp xap xsg yN yT yA yh yd yl yr yo yw ypp ytp yap ysg (nI q) zpl zlt zjo (nI t) (nI z) zby znu) pd qt qr tbu wst asw pN tN aN hd dr pl rm ps wx pp tp ap sg uh ud up ur us ux) G H) [.ref (b 29), .int (nI k)]) (zQ (fun (_ : Heap) (v : Option Value) (H1 : Heap) => (∃ (q2 : Nat) (nu2 : Nat → Int32) (t2 : Nat), v = some (.int (bI true)) ∧ (pSy (txC zby z) k (q, znu, t) = some (q2, nu2, t2)) ∧ (q2 ≤ z) ∧ (t2 = t + dnK k) ∧ WW E (wK b E.2.1 (wT b E.2.1 xN xT xA xh xd xl xr xo xw xpp xtp xap xsg yN yT yA yh yd yl yr yo yw ypp ytp yap ysg (nI q2) zpl zlt zjo (nI t2) (nI z) zby nu2) pd qt qr tbu wst asw pN tN aN hd dr pl rm ps wx pp tp ap sg uh ud up ur us ux) G H1) ∨ (v = some (.int (bI false)) ∧ (pSy (txC zby z) k (q, znu, t) = none) ∧ WW E (wK b E.2.1 (wT b E.2.1 xN xT xA xh xd xl xr xo xw xpp xtp xap xsg yN yT yA yh yd yl yr yo yw ypp ytp yap ysg (nI q) zpl zlt zjo (nI t) (nI z) zby znu) pd qt qr tbu wst asw pN tN aN hd dr pl rm ps wx pp tp ap sg uh ud up ur us ux) G H1)) (bF b)) 0 0 (bF b) := by
  refine z_body (own := RX3) (by decide) rfl rfl ?_
  intro p e s m args below meth c ls cx hr hlk hnm hW hl
  have hx := cx.x
  have hb := cx.b
  have hl : lv_has ls 2 [(0, .ref (b 29)), (1, .int (nI k))] := hl
  have hFb : ∀ k, (bF b) (b k) := fun k => bF_in b k
  have hS : va_S (bF b) s.heap s.heap [] := va_S.rf
  refine lv_iload_n (pc := 0) hx hb dX3_readPart_0 rfl (lv_at hl 1 rfl) ?_
  refine lv_bipush (pc := 1) (v := 110) hx hb dX3_readPart_1 (by decide) ?_
  refine lv_icmp_ne (pc := 3) (tgt := 12) hx hb dX3_readPart_3 (by decide) (fun c_1 => ?_) (fun c_1 => ?_)
  · skip
    have hk1 : k ≠ 110 := fun q => c_1 (congrArg nI q)
    refine lv_iload_n (pc := 12) hx hb dX3_readPart_12 rfl (lv_at hl 1 rfl) ?_
    refine lv_bipush (pc := 13) (v := 100) hx hb dX3_readPart_13 (by decide) ?_
    refine lv_icmp_ne (pc := 15) (tgt := 24) hx hb dX3_readPart_15 (by decide) (fun c_2 => ?_) (fun c_2 => ?_)
    · skip
      have hk2 : k ≠ 100 := fun q => c_2 (congrArg nI q)
      have hdn : dnK k = 0 := by unfold dnK; exact if_neg (fun q => Or.elim q hk2 hk1)
      refine lv_aload_n (pc := 24) hx hb dX3_readPart_24 rfl (lv_at hl 0 rfl) ?_
      refine k_X3_byteHere (pc := 25) (q := q) (z := z) cx hW (by first | assumption | omega) (by first | assumption | omega) m_ml_X3_47 ⟨Nat.le_of_ble_eq_true rfl, Nat.le_of_ble_eq_true rfl⟩ hl.1 rfl (by simp [Value.category]) dX3_readPart_25 ⟨Nat.le_refl _, Nat.le_refl _⟩ ?_
      refine lv_iload_n (pc := 28) hx hb dX3_readPart_28 rfl (lv_at hl 1 rfl) ?_
      refine lv_icmp_eq (pc := 29) (tgt := 34) hx hb dX3_readPart_29 (by decide) (fun c_3 => ?_) (fun c_3 => ?_)
      · skip
        have hct := (bh_k (nk_ne1 hk) (nk_ne hk)).mp c_3
        have hlt := txC_lt2 hct (nk_ne hk)
        refine lv_aload_n (pc := 34) hx hb dX3_readPart_34 rfl (lv_at hl 0 rfl) ?_
        refine lv_dup (pc := 35) hx hb dX3_readPart_35 rfl ?_
        refine z_get (pc := 36) cx (hW.at 29 rfl) (C := RX3) (T := TX3) (N := 8) rfl i_X3 0 rfl m_fl_X3_37 rfl dX3_readPart_36 ?_
        refine lv_iconst (pc := 39) (v := 1) hx hb dX3_readPart_39 (by decide) ?_
        refine lv_iadd (pc := 40) hx hb dX3_readPart_40 ?_
        refine z_tope (y := nI (q + 1)) (nI_1 _) ?_
        refine z_putK3 (pc := 41) cx hW hS 29 rfl (bF_in b 29) 0 rfl m_fl_X3_37 rfl rfl dX3_readPart_41 (fun H locs hW hS => ?_)
        have hW : WW E (wK b E.2.1 (wT b E.2.1 xN xT xA xh xd xl xr xo xw xpp xtp xap xsg yN yT yA yh yd yl yr yo yw ypp ytp yap ysg (nI (q + 1)) zpl zlt zjo (nI t) (nI z) zby znu) pd qt qr tbu wst asw pN tN aN hd dr pl rm ps wx pp tp ap sg uh ud up ur us ux) G H := hW
        refine lv_iconst (pc := 44) (v := 1) hx hb dX3_readPart_44 (by decide) ?_
        exact z_wzret (b := true) cx hr hlk dX3_readPart_45 hS (Or.inl ⟨_, _, _, rfl, (by rw [pSy_k ⟨hk2, hk1⟩]; exact if_pos hct), (by omega), (by rw [hdn]; rfl), (by exact hW)⟩)
      · skip
        have hct := fun q => c_3 ((bh_k (nk_ne1 hk) (nk_ne hk)).mpr q)
        refine lv_iconst (pc := 32) (v := 0) hx hb dX3_readPart_32 (by decide) ?_
        exact z_wzret (b := false) cx hr hlk dX3_readPart_33 hS (Or.inr ⟨rfl, (by rw [pSy_k ⟨hk2, hk1⟩]; exact if_neg hct), hW⟩)
    · skip
      have hk1 : k = 100 := nI_inj2 ⟨hk, by decide⟩ c_2
      subst hk1
      have h55 : t < 5 := by have : dnK 100 = 1 := rfl; omega
      refine lv_aload_n (pc := 18) hx hb dX3_readPart_18 rfl (lv_at hl 0 rfl) ?_
      refine lv_iconst (pc := 19) (v := 1) hx hb dX3_readPart_19 (by decide) ?_
      refine k_X3_readDigits_d (pc := 20) (q := q) (z := z) (t := t) cx hW hS (fun _ h => h) (by first | assumption | omega) (by first | assumption | omega) (by first | assumption | omega) m_ml_X3_98 ⟨Nat.le_of_ble_eq_true rfl, Nat.le_of_ble_eq_true rfl⟩ hl.1 rfl (by simp [Value.category]) dX3_readPart_20 ⟨Nat.le_refl _, Nat.le_refl _⟩ (fun  H locs hf hqz hW hS => ?_) (fun  H locs hf hW hS => ?_)
      · skip
        have hW : WW E (wK b E.2.1 (wT b E.2.1 xN xT xA xh xd xl xr xo xw xpp xtp xap xsg yN yT yA yh yd yl yr yo yw ypp ytp yap ysg (nI (q + 1)) zpl zlt zjo (nI (t + 1)) (nI z) zby (upd znu t (txC zby z q - 48))) pd qt qr tbu wst asw pN tN aN hd dr pl rm ps wx pp tp ap sg uh ud up ur us ux) G H := hW
        exact z_wzret (b := true) cx hr hlk dX3_readPart_23 hS (Or.inl ⟨_, _, _, rfl, hf, hqz, rfl, (by exact hW)⟩)
      · skip
        have hW : WW E (wK b E.2.1 (wT b E.2.1 xN xT xA xh xd xl xr xo xw xpp xtp xap xsg yN yT yA yh yd yl yr yo yw ypp ytp yap ysg (nI q) zpl zlt zjo (nI t) (nI z) zby znu) pd qt qr tbu wst asw pN tN aN hd dr pl rm ps wx pp tp ap sg uh ud up ur us ux) G H := hW
        exact z_wzret (b := false) cx hr hlk dX3_readPart_23 hS (Or.inr ⟨rfl, hf, hW⟩)
  · skip
    have hk1 : k = 110 := nI_inj2 ⟨hk, by decide⟩ c_1
    subst hk1
    have h55 : t < 5 := by have : dnK 110 = 1 := rfl; omega
    refine lv_aload_n (pc := 6) hx hb dX3_readPart_6 rfl (lv_at hl 0 rfl) ?_
    refine lv_iconst (pc := 7) (v := 3) hx hb dX3_readPart_7 (by decide) ?_
    refine k_X3_readDigits_n (pc := 8) (q := q) (z := z) (t := t) cx hW hS (fun _ h => h) (by first | assumption | omega) (by first | assumption | omega) (by first | assumption | omega) m_ml_X3_98 ⟨Nat.le_of_ble_eq_true rfl, Nat.le_of_ble_eq_true rfl⟩ hl.1 rfl (by simp [Value.category]) dX3_readPart_8 ⟨Nat.le_refl _, Nat.le_refl _⟩ (fun q2 v2 H locs hf hqz hW hS => ?_) (fun  H locs hf hW hS => ?_)
    · skip
      have hW : WW E (wK b E.2.1 (wT b E.2.1 xN xT xA xh xd xl xr xo xw xpp xtp xap xsg yN yT yA yh yd yl yr yo yw ypp ytp yap ysg (nI q2) zpl zlt zjo (nI (t + 1)) (nI z) zby (upd znu t v2)) pd qt qr tbu wst asw pN tN aN hd dr pl rm ps wx pp tp ap sg uh ud up ur us ux) G H := hW
      exact z_wzret (b := true) cx hr hlk dX3_readPart_11 hS (Or.inl ⟨q2, _, _, rfl, hf, hqz, rfl, (by exact hW)⟩)
    · skip
      have hW : WW E (wK b E.2.1 (wT b E.2.1 xN xT xA xh xd xl xr xo xw xpp xtp xap xsg yN yT yA yh yd yl yr yo yw ypp ytp yap ysg (nI q) zpl zlt zjo (nI t) (nI z) zby znu) pd qt qr tbu wst asw pN tN aN hd dr pl rm ps wx pp tp ap sg uh ud up ur us ux) G H := hW
      exact z_wzret (b := false) cx hr hlk dX3_readPart_11 hS (Or.inr ⟨rfl, hf, hW⟩)
theorem k_X3_readPart {p : Program} {l : Launch} {e : Env} {R : Room} {s : State} {m : MethodId} {args : Array Value} {below : List Frame} {meth : Method} {c : Code} {H H0 : Heap} {locs : List Loc} {cells slots : Nat} {Q : State → Prop} {cc : ByteArray} {pc index : Nat} {ls : Array Slot} {rest st0 : List Value} {E : zE} {own : String} {nL : Nat} {F : Nat → Prop} {b : Nat → Nat} {pd : Bool} {qt : Nat → Option Nat} {qr : Nat → Option Nat} {tbu : Nat → Int32} {wst : Nat → Int32} {asw : Nat → Int32} {pN : Int32} {tN : Int32} {aN : Int32} {hd : Int32} {dr : Int32} {pl : Int32} {rm : Int32} {ps : Int32} {wx : Nat → Int32} {pp : Nat → Option Nat} {tp : Nat → Option Nat} {ap : Nat → Option Nat} {sg : Nat → Int32} {uh : Int32} {ud : Int32} {up : Int32} {ur : Int32} {us : Int32} {ux : Nat → Int32} {xN : Int32} {xT : Int32} {xA : Int32} {xh : Int32} {xd : Int32} {xl : Int32} {xr : Int32} {xo : Int32} {xw : Nat → Int32} {xpp : Nat → Option Nat} {xtp : Nat → Option Nat} {xap : Nat → Option Nat} {xsg : Nat → Int32} {yN : Int32} {yT : Int32} {yA : Int32} {yh : Int32} {yd : Int32} {yl : Int32} {yr : Int32} {yo : Int32} {yw : Nat → Int32} {ypp : Nat → Option Nat} {ytp : Nat → Option Nat} {yap : Nat → Option Nat} {ysg : Nat → Int32} {zpl : Int32} {zlt : Int32} {zjo : Bool} {zby : Nat → Int32} {znu : Nat → Int32} {G : zG} {k q z t : Nat} (cx : Cx E p s args m c own cc nL) (hW : WW E (wK b E.2.1 (wT b E.2.1 xN xT xA xh xd xl xr xo xw xpp xtp xap xsg yN yT yA yh yd yl yr yo yw ypp ytp yap ysg (nI q) zpl zlt zjo (nI t) (nI z) zby znu) pd qt qr tbu wst asw pN tN aN hd dr pl rm ps wx pp tp ap sg uh ud up ur us ux) G H) (hS : va_S F H0 H locs) (zF : ∀ q, (bF b) q → F q) (hz : z ≤ 100) (hq : q ≤ z) (hk : k < 1000) (h5 : t + dnK k ≤ 5) (zl : Cond.methodLink own index yX3_readPart ∈ AllW) (zR : 2 + 1 ≤ R.frames ∧ 8 + (2 + 11) + 43 ≤ R.locals) (zs : ls.size = nL) (zt : st0 = ([.int (nI k)] : List Value).reverse ++ .ref (b 29) :: rest) (z8 : (rest.map fun v => v.category).sum ≤ 8) (zd : decode cc pc = .ok (.invokevirtual index, 3)) (zf : cells ≤ R.cells ∧ slots ≤ R.slots) (kk0 : ∀ (q2 : Nat) (nu2 : Nat → Int32) (t2 : Nat) (H1 : Heap) (locs1 : List Loc), (pSy (txC zby z) k (q, znu, t) = some (q2, nu2, t2)) → (q2 ≤ z) → (t2 = t + dnK k) → WW E (wK b E.2.1 (wT b E.2.1 xN xT xA xh xd xl xr xo xw xpp xtp xap xsg yN yT yA yh yd yl yr yo yw ypp ytp yap ysg (nI q2) zpl zlt zjo (nI t2) (nI z) zby nu2) pd qt qr tbu wst asw pN tN aN hd dr pl rm ps wx pp tp ap sg uh ud up ur us ux) G H1 → va_S F H0 H1 locs1 → W p l e R s m args below meth c H1 locs1 cells slots Q (F0 m (pc + 3) ls (.int 1 :: rest))) (kk1 : ∀  (H1 : Heap) (locs1 : List Loc), (pSy (txC zby z) k (q, znu, t) = none) → WW E (wK b E.2.1 (wT b E.2.1 xN xT xA xh xd xl xr xo xw xpp xtp xap xsg yN yT yA yh yd yl yr yo yw ypp ytp yap ysg (nI q) zpl zlt zjo (nI t) (nI z) zby znu) pd qt qr tbu wst asw pN tN aN hd dr pl rm ps wx pp tp ap sg uh ud up ur us ux) G H1 → va_S F H0 H1 locs1 → W p l e R s m args below meth c H1 locs1 cells slots Q (F0 m (pc + 3) ls (.int 0 :: rest))) : W p l e R s m args below meth c H locs cells slots Q (F0 m pc ls st0) := by
  refine z_callVw cx vm_X3_readPart (c_X3_readPart l E b pd qt qr tbu wst asw pN tN aN hd dr pl rm ps wx pp tp ap sg uh ud up ur us ux xN xT xA xh xd xl xr xo xw xpp xtp xap xsg yN yT yA yh yd yl yr yo yw ypp ytp yap ysg zpl zlt zjo zby znu G k q z t hz hq hk h5) (z_rec cx.2 (hW.at 29 rfl) rfl) hW hS zF zl ⟨rfl, rfl⟩ zR rfl zs zt z8 zd zf (fun v H1 locs1 hq hS1 _ => ?_)
  rcases hq with ⟨q2, nu2, t2, rfl, hf, hqz, ht, hW1⟩ | ⟨rfl, hf, hW1⟩
  · exact kk0 q2 nu2 t2 H1 locs1 hf hqz ht hW1 hS1
  · exact kk1  H1 locs1 hf hW1 hS1
theorem vm_X3_readForm : zVm yX3_readForm cX3_readForm 3 (some FieldType.boolean) 1 := ⟨m_co_X3_readForm, m_in_RX3, ⟨m_im_X3_readForm, m_se_X3_X3_readForm⟩, by decide +kernel, by decide +kernel, by decide +kernel⟩
set_option maxHeartbeats 1000000 in
set_option maxRecDepth 100000 in
theorem c_X3_readForm (l : Launch) (E : zE) (b : Nat → Nat) (pd : Bool) (qt : Nat → Option Nat) (qr : Nat → Option Nat) (tbu : Nat → Int32) (wst : Nat → Int32) (asw : Nat → Int32) (pN : Int32) (tN : Int32) (aN : Int32) (hd : Int32) (dr : Int32) (pl : Int32) (rm : Int32) (ps : Int32) (wx : Nat → Int32) (pp : Nat → Option Nat) (tp : Nat → Option Nat) (ap : Nat → Option Nat) (sg : Nat → Int32) (uh : Int32) (ud : Int32) (up : Int32) (ur : Int32) (us : Int32) (ux : Nat → Int32) (xN : Int32) (xT : Int32) (xA : Int32) (xh : Int32) (xd : Int32) (xl : Int32) (xr : Int32) (xo : Int32) (xw : Nat → Int32) (xpp : Nat → Option Nat) (xtp : Nat → Option Nat) (xap : Nat → Option Nat) (xsg : Nat → Int32) (yN : Int32) (yT : Int32) (yA : Int32) (yh : Int32) (yd : Int32) (yl : Int32) (yr : Int32) (yo : Int32) (yw : Nat → Int32) (ypp : Nat → Option Nat) (ytp : Nat → Option Nat) (yap : Nat → Option Nat) (ysg : Nat → Int32) (zpl : Int32) (zlt : Int32) (zjo : Bool) (zby : Nat → Int32) (znu : Nat → Int32) (G : zG) (i q z t : Nat) (hz : z ≤ 100) (hq : q ≤ z) (hi : i < 7) (h5 : t + dcS i (leT i) ≤ 5) : Met l yX3_readForm (.code yX3_readForm cX3_readForm 3 (some FieldType.boolean) :: AllW) (rm0' 4 85) (zPc E (bF b) (fun H => WW E (wK b E.2.1 (wT b E.2.1 xN xT xA xh xd xl xr xo xw xpp xtp xap xsg yN yT yA yh yd yl yr yo yw ypp ytp yap ysg (nI q) zpl zlt zjo (nI t) (nI z) zby znu) pd qt qr tbu wst asw pN tN aN hd dr pl rm ps wx pp tp ap sg uh ud up ur us ux) G H) [.ref (b 29), .ref (aS E i)]) (zQ (fun (_ : Heap) (v : Option Value) (H1 : Heap) => (∃ (q2 : Nat) (nu2 : Nat → Int32) (t2 : Nat), v = some (.int (bI true)) ∧ (pF (txC zby z) (ksT i) (q, znu, t) = (true, q2, nu2, t2)) ∧ (q2 ≤ z) ∧ (t2 = t + dcS i (leT i)) ∧ WW E (wK b E.2.1 (wT b E.2.1 xN xT xA xh xd xl xr xo xw xpp xtp xap xsg yN yT yA yh yd yl yr yo yw ypp ytp yap ysg (nI q2) zpl zlt zjo (nI t2) (nI z) zby nu2) pd qt qr tbu wst asw pN tN aN hd dr pl rm ps wx pp tp ap sg uh ud up ur us ux) G H1) ∨ (∃ (q2 : Nat) (nu2 : Nat → Int32) (t2 : Nat), v = some (.int (bI false)) ∧ (pF (txC zby z) (ksT i) (q, znu, t) = (false, q2, nu2, t2)) ∧ (q2 ≤ z) ∧ WW E (wK b E.2.1 (wT b E.2.1 xN xT xA xh xd xl xr xo xw xpp xtp xap xsg yN yT yA yh yd yl yr yo yw ypp ytp yap ysg (nI q2) zpl zlt zjo (nI t2) (nI z) zby nu2) pd qt qr tbu wst asw pN tN aN hd dr pl rm ps wx pp tp ap sg uh ud up ur us ux) G H1)) (bF b)) 0 0 (bF b) := by
  refine z_bodyc (own := RX3) (by decide) rfl rfl ?_
  intro p e s m args below meth c ls cx hr hlk hnm hW hCE hl
  have hx := cx.x
  have hb := cx.b
  have hl : lv_has ls 3 [(0, .ref (b 29)), (1, .ref (aS E i))] := hl
  have hFb : ∀ k, (bF b) (b k) := fun k => bF_in b k
  have hS : va_S (bF b) s.heap s.heap [] := va_S.rf
  have hle8 := (ksT_end i hi).2
  refine lv_iconst (pc := 0) (v := 0) hx hb dX3_readForm_0 (by decide) ?_
  refine lv_istore_n (pc := 1) (lv' := [(2, .int 0), (0, .ref (b 29)), (1, .ref (aS E i))]) hx hb dX3_readForm_1 rfl hl (by decide) rfl (fun ls hl => ?_)
  have loop_2 : ∀ (k_2 : Nat) (j : Nat) (x2 : Int32), (leT i - j) < k_2 → (j ≤ leT i) → x2 = nI j → ∀ (q3 : Nat) (nu3 : Nat → Int32) (t3 : Nat) (H : Heap) (locs : List Loc), (pF (txC zby z) (ksT i) (q, znu, t) = pF (txC zby z) ((ksT i).drop j) (q3, nu3, t3)) → (q3 ≤ z) → (t3 = t + dcS i j) → WW E (wK b E.2.1 (wT b E.2.1 xN xT xA xh xd xl xr xo xw xpp xtp xap xsg yN yT yA yh yd yl yr yo yw ypp ytp yap ysg (nI q3) zpl zlt zjo (nI t3) (nI z) zby nu3) pd qt qr tbu wst asw pN tN aN hd dr pl rm ps wx pp tp ap sg uh ud up ur us ux) G H → va_S (bF b) s.heap H locs → ∀ (ls : Array Slot), lv_has ls 3 [(2, .int x2), (0, .ref (b 29)), (1, .ref (aS E i))] → W p l e (rm0' (4) (85)) s m args below meth c H locs 0 0 (MQ below (zQ (fun (_ : Heap) (v : Option Value) (H1 : Heap) => (∃ (q2 : Nat) (nu2 : Nat → Int32) (t2 : Nat), v = some (.int (bI true)) ∧ (pF (txC zby z) (ksT i) (q, znu, t) = (true, q2, nu2, t2)) ∧ (q2 ≤ z) ∧ (t2 = t + dcS i (leT i)) ∧ WW E (wK b E.2.1 (wT b E.2.1 xN xT xA xh xd xl xr xo xw xpp xtp xap xsg yN yT yA yh yd yl yr yo yw ypp ytp yap ysg (nI q2) zpl zlt zjo (nI t2) (nI z) zby nu2) pd qt qr tbu wst asw pN tN aN hd dr pl rm ps wx pp tp ap sg uh ud up ur us ux) G H1) ∨ (∃ (q2 : Nat) (nu2 : Nat → Int32) (t2 : Nat), v = some (.int (bI false)) ∧ (pF (txC zby z) (ksT i) (q, znu, t) = (false, q2, nu2, t2)) ∧ (q2 ≤ z) ∧ WW E (wK b E.2.1 (wT b E.2.1 xN xT xA xh xd xl xr xo xw xpp xtp xap xsg yN yT yA yh yd yl yr yo yw ypp ytp yap ysg (nI q2) zpl zlt zjo (nI t2) (nI z) zby nu2) pd qt qr tbu wst asw pN tN aN hd dr pl rm ps wx pp tp ap sg uh ud up ur us ux) G H1)) (bF b)) args s 0 0 (bF b)) (F0 m 2 ls []) := by
    intro k_2
    induction k_2 with
    | zero =>
      intro j x2 hm
      exact absurd hm (Nat.not_lt_zero _)
    | succ k_2 ih_2 =>
      intro j x2 hm_2 hj e_x2 q3 nu3 t3 H locs hG hq3 ht3 hW hS ls hl
      subst e_x2
      refine lv_iload_n (pc := 2) hx hb dX3_readForm_2 rfl (lv_at hl 0 rfl) ?_
      refine lv_aload_n (pc := 3) hx hb dX3_readForm_3 rfl (lv_at hl 2 rfl) ?_
      refine k_J0_length_8abf5 (pc := 4) (i := i) cx (hCE.kept hS.2.1) hi m_ml_X3_87 ⟨Nat.le_of_ble_eq_true rfl, Nat.le_of_ble_eq_true rfl⟩ hl.1 rfl (by simp [Value.category]) dX3_readForm_4 ⟨Nat.le_refl _, Nat.le_refl _⟩ ?_
      refine lv_icmp_ge (pc := 7) (tgt := 30) hx hb dX3_readForm_7 (by decide) (fun c_1 => ?_) (fun c_1 => ?_)
      · skip
        have hjl := ge_nat (a := j) (b := leT i) rfl rfl (by omega) (by omega) c_1
        obtain rfl : j = leT i := by omega
        rw [(ksT_end i hi).1] at hG
        refine lv_iconst (pc := 30) (v := 1) hx hb dX3_readForm_30 (by decide) ?_
        exact z_wzret (b := true) cx hr hlk dX3_readForm_31 hS (Or.inl ⟨_, _, _, rfl, hG, hq3, ht3, (by exact hW)⟩)
      · skip
        have hjl := lt_nat (a := j) (b := leT i) rfl rfl (by omega) (by omega) c_1
        obtain ⟨-, hdr, hk9, hdc, hdl⟩ := ksT_ch i hi j hjl
        rw [hdr, pF] at hG
        refine lv_aload_n (pc := 10) hx hb dX3_readForm_10 rfl (lv_at hl 1 rfl) ?_
        refine lv_aload_n (pc := 11) hx hb dX3_readForm_11 rfl (lv_at hl 2 rfl) ?_
        refine lv_iload_n (pc := 12) hx hb dX3_readForm_12 rfl (lv_at hl 0 rfl) ?_
        refine k_J0_charAt_5068e (pc := 13) (j := j) (i := i) cx (hCE.kept hS.2.1) hi hjl m_ml_X3_90 ⟨Nat.le_of_ble_eq_true rfl, Nat.le_of_ble_eq_true rfl⟩ hl.1 rfl (by simp [Value.category]) dX3_readForm_13 ⟨Nat.le_refl _, Nat.le_refl _⟩ ?_
        refine k_X3_readPart (pc := 16) (k := kT i j) (q := q3) (z := z) (t := t3) cx hW hS (fun _ h => h) hz hq3 hk9 (by rw [ht3]; omega) m_ml_X3_94 ⟨Nat.le_of_ble_eq_true rfl, Nat.le_of_ble_eq_true rfl⟩ hl.1 rfl (by simp [Value.category]) dX3_readForm_16 ⟨Nat.le_refl _, Nat.le_refl _⟩ (fun q2 nu2 t2 H locs hf hqz ht hW hS => ?_) (fun  H locs hf hW hS => ?_)
        · skip
          have hW : WW E (wK b E.2.1 (wT b E.2.1 xN xT xA xh xd xl xr xo xw xpp xtp xap xsg yN yT yA yh yd yl yr yo yw ypp ytp yap ysg (nI q2) zpl zlt zjo (nI t2) (nI z) zby nu2) pd qt qr tbu wst asw pN tN aN hd dr pl rm ps wx pp tp ap sg uh ud up ur us ux) G H := hW
          rw [hf] at hG
          refine lv_if_ne (pc := 19) (tgt := 24) hx hb dX3_readForm_19 (by decide) (fun _ => ?_) (fun c => absurd c (by decide))
          refine lv_iinc (pc := 24) (v := nI (j + 1)) (lv' := [(2, .int (nI (j + 1))), (0, .ref (b 29)), (1, .ref (aS E i))]) hx hb dX3_readForm_24 hl (k := 0) rfl (nI_1 _) (by decide) rfl (fun ls hl => ?_)
          refine lv_goto (pc := 27) (tgt := 2) hx hb dX3_readForm_27 (by decide) ?_
          exact ih_2 (j + 1) (nI (j + 1)) (by omega) (by omega) (by first | rfl | (simp []; done)) q2 nu2 t2 _ _ hG hqz (by rw [ht, ht3, hdc]; omega) (hW) hS ls (lv_sub hl [0, 1, 2] rfl)
        · skip
          have hW : WW E (wK b E.2.1 (wT b E.2.1 xN xT xA xh xd xl xr xo xw xpp xtp xap xsg yN yT yA yh yd yl yr yo yw ypp ytp yap ysg (nI q3) zpl zlt zjo (nI t3) (nI z) zby nu3) pd qt qr tbu wst asw pN tN aN hd dr pl rm ps wx pp tp ap sg uh ud up ur us ux) G H := hW
          rw [hf] at hG
          refine lv_if_ne (pc := 19) (tgt := 24) hx hb dX3_readForm_19 (by decide) (fun c => (c (by decide)).elim) (fun _ => ?_)
          refine lv_iconst (pc := 22) (v := 0) hx hb dX3_readForm_22 (by decide) ?_
          exact z_wzret (b := false) cx hr hlk dX3_readForm_23 hS (Or.inr ⟨_, _, _, rfl, hG, hq3, (by exact hW)⟩)
  exact loop_2 ((leT i - 0) + 1) 0 0 (Nat.lt_succ_self _) (by omega) (by first | rfl | (simp []; done)) q znu t _ _ rfl (by omega) rfl (hW) hS ls (lv_sub hl [0, 1, 2] rfl)
theorem k_X3_readForm {p : Program} {l : Launch} {e : Env} {R : Room} {s : State} {m : MethodId} {args : Array Value} {below : List Frame} {meth : Method} {c : Code} {H H0 : Heap} {locs : List Loc} {cells slots : Nat} {Q : State → Prop} {cc : ByteArray} {pc index : Nat} {ls : Array Slot} {rest st0 : List Value} {E : zE} {own : String} {nL : Nat} {F : Nat → Prop} {b : Nat → Nat} {pd : Bool} {qt : Nat → Option Nat} {qr : Nat → Option Nat} {tbu : Nat → Int32} {wst : Nat → Int32} {asw : Nat → Int32} {pN : Int32} {tN : Int32} {aN : Int32} {hd : Int32} {dr : Int32} {pl : Int32} {rm : Int32} {ps : Int32} {wx : Nat → Int32} {pp : Nat → Option Nat} {tp : Nat → Option Nat} {ap : Nat → Option Nat} {sg : Nat → Int32} {uh : Int32} {ud : Int32} {up : Int32} {ur : Int32} {us : Int32} {ux : Nat → Int32} {xN : Int32} {xT : Int32} {xA : Int32} {xh : Int32} {xd : Int32} {xl : Int32} {xr : Int32} {xo : Int32} {xw : Nat → Int32} {xpp : Nat → Option Nat} {xtp : Nat → Option Nat} {xap : Nat → Option Nat} {xsg : Nat → Int32} {yN : Int32} {yT : Int32} {yA : Int32} {yh : Int32} {yd : Int32} {yl : Int32} {yr : Int32} {yo : Int32} {yw : Nat → Int32} {ypp : Nat → Option Nat} {ytp : Nat → Option Nat} {yap : Nat → Option Nat} {ysg : Nat → Int32} {zpl : Int32} {zlt : Int32} {zjo : Bool} {zby : Nat → Int32} {znu : Nat → Int32} {G : zG} {i q z t : Nat} (cx : Cx E p s args m c own cc nL) (hCE : CE E (bF b) s H) (hW : WW E (wK b E.2.1 (wT b E.2.1 xN xT xA xh xd xl xr xo xw xpp xtp xap xsg yN yT yA yh yd yl yr yo yw ypp ytp yap ysg (nI q) zpl zlt zjo (nI t) (nI z) zby znu) pd qt qr tbu wst asw pN tN aN hd dr pl rm ps wx pp tp ap sg uh ud up ur us ux) G H) (hS : va_S F H0 H locs) (zF : ∀ q, (bF b) q → F q) (hz : z ≤ 100) (hq : q ≤ z) (hi : i < 7) (h5 : t + dcS i (leT i) ≤ 5) (zl : Cond.methodLink own index yX3_readForm ∈ AllW) (zR : 4 + 1 ≤ R.frames ∧ 8 + (3 + 11) + 85 ≤ R.locals) (zs : ls.size = nL) (zt : st0 = ([.ref (aS E i)] : List Value).reverse ++ .ref (b 29) :: rest) (z8 : (rest.map fun v => v.category).sum ≤ 8) (zd : decode cc pc = .ok (.invokevirtual index, 3)) (zf : cells ≤ R.cells ∧ slots ≤ R.slots) (kk0 : ∀ (q2 : Nat) (nu2 : Nat → Int32) (t2 : Nat) (H1 : Heap) (locs1 : List Loc), (pF (txC zby z) (ksT i) (q, znu, t) = (true, q2, nu2, t2)) → (q2 ≤ z) → (t2 = t + dcS i (leT i)) → WW E (wK b E.2.1 (wT b E.2.1 xN xT xA xh xd xl xr xo xw xpp xtp xap xsg yN yT yA yh yd yl yr yo yw ypp ytp yap ysg (nI q2) zpl zlt zjo (nI t2) (nI z) zby nu2) pd qt qr tbu wst asw pN tN aN hd dr pl rm ps wx pp tp ap sg uh ud up ur us ux) G H1 → va_S F H0 H1 locs1 → W p l e R s m args below meth c H1 locs1 cells slots Q (F0 m (pc + 3) ls (.int 1 :: rest))) (kk1 : ∀ (q2 : Nat) (nu2 : Nat → Int32) (t2 : Nat) (H1 : Heap) (locs1 : List Loc), (pF (txC zby z) (ksT i) (q, znu, t) = (false, q2, nu2, t2)) → (q2 ≤ z) → WW E (wK b E.2.1 (wT b E.2.1 xN xT xA xh xd xl xr xo xw xpp xtp xap xsg yN yT yA yh yd yl yr yo yw ypp ytp yap ysg (nI q2) zpl zlt zjo (nI t2) (nI z) zby nu2) pd qt qr tbu wst asw pN tN aN hd dr pl rm ps wx pp tp ap sg uh ud up ur us ux) G H1 → va_S F H0 H1 locs1 → W p l e R s m args below meth c H1 locs1 cells slots Q (F0 m (pc + 3) ls (.int 0 :: rest))) : W p l e R s m args below meth c H locs cells slots Q (F0 m pc ls st0) := by
  refine z_callVwc cx hCE vm_X3_readForm (c_X3_readForm l E b pd qt qr tbu wst asw pN tN aN hd dr pl rm ps wx pp tp ap sg uh ud up ur us ux xN xT xA xh xd xl xr xo xw xpp xtp xap xsg yN yT yA yh yd yl yr yo yw ypp ytp yap ysg zpl zlt zjo zby znu G i q z t hz hq hi h5) (z_rec cx.2 (hW.at 29 rfl) rfl) hW hS zF zl ⟨rfl, rfl⟩ zR rfl zs zt z8 zd zf (fun v H1 locs1 hq hS1 _ => ?_)
  rcases hq with ⟨q2, nu2, t2, rfl, hf, hqz, ht, hW1⟩ | ⟨q2, nu2, t2, rfl, hf, hqz, hW1⟩
  · exact kk0 q2 nu2 t2 H1 locs1 hf hqz ht hW1 hS1
  · exact kk1 q2 nu2 t2 H1 locs1 hf hqz hW1 hS1
theorem vm_X3_formOf : zSm yX3_formOf cX3_formOf 1 (some (FieldType.object "java/lang/String")) 1 := ⟨m_co_X3_formOf, m_in_RX3, m_st_X3_formOf, by decide +kernel, by decide +kernel, by decide +kernel⟩
set_option maxHeartbeats 1000000 in
set_option maxRecDepth 100000 in
theorem c_X3_formOf (l : Launch) (E : zE) (A : Nat → Prop) (x : Int32)  : Met l yX3_formOf (.code yX3_formOf cX3_formOf 1 (some (FieldType.object "java/lang/String")) :: AllW) (rm0' 0 0) (zPc E A (fun _ => True) [.int x]) (rQ (.ref (aS E (fmI x)))) 0 0 nF := by
  refine z_bodyc (own := RX3) (by decide) rfl rfl ?_
  intro p e s m args below meth c ls cx hr hlk hnm hW hCE hl
  have hx := cx.x
  have hb := cx.b
  have hl : lv_has ls 1 [(0, .int x)] := hl
  refine lv_iload_n (pc := 0) hx hb dX3_formOf_0 rfl (lv_at hl 0 rfl) ?_
  by_cases c_1 : x = 100
  · subst c_1
    refine lv_lookup (pc := 1) (tgt := 58) (off := 57) hx hb dX3_formOf_1 (by decide) (by decide) (by decide) ?_
    refine va_ldcS (pc := 58) hx hb cx.own (hCE.2.1 2 (by decide)) dX3_formOf_58 ?_
    exact z_aret cx hr hlk (Or.inl ⟨_, rfl⟩) (Or.inr ⟨_, rfl⟩) dX3_formOf_60 (by first | rfl | (simp [fmI]; done))
  by_cases c_2 : x = 112
  · subst c_2
    refine lv_lookup (pc := 1) (tgt := 52) (off := 51) hx hb dX3_formOf_1 (by decide) (by decide) (by decide) ?_
    refine va_ldcS (pc := 52) hx hb cx.own (hCE.2.1 0 (by decide)) dX3_formOf_52 ?_
    exact z_aret cx hr hlk (Or.inl ⟨_, rfl⟩) (Or.inr ⟨_, rfl⟩) dX3_formOf_54 (by first | rfl | (simp [fmI, c_1]; done))
  by_cases c_3 : x = 114
  · subst c_3
    refine lv_lookup (pc := 1) (tgt := 64) (off := 63) hx hb dX3_formOf_1 (by decide) (by decide) (by decide) ?_
    refine va_ldcS (pc := 64) hx hb cx.own (hCE.2.1 3 (by decide)) dX3_formOf_64 ?_
    exact z_aret cx hr hlk (Or.inl ⟨_, rfl⟩) (Or.inr ⟨_, rfl⟩) dX3_formOf_66 (by first | rfl | (simp [fmI, c_1, c_2]; done))
  by_cases c_4 : x = 116
  · subst c_4
    refine lv_lookup (pc := 1) (tgt := 55) (off := 54) hx hb dX3_formOf_1 (by decide) (by decide) (by decide) ?_
    refine va_ldcS (pc := 55) hx hb cx.own (hCE.2.1 1 (by decide)) dX3_formOf_55 ?_
    exact z_aret cx hr hlk (Or.inl ⟨_, rfl⟩) (Or.inr ⟨_, rfl⟩) dX3_formOf_57 (by first | rfl | (simp [fmI, c_1, c_2, c_3]; done))
  by_cases c_5 : x = 119
  · subst c_5
    refine lv_lookup (pc := 1) (tgt := 61) (off := 60) hx hb dX3_formOf_1 (by decide) (by decide) (by decide) ?_
    refine va_ldcS (pc := 61) hx hb cx.own (hCE.2.1 3 (by decide)) dX3_formOf_61 ?_
    exact z_aret cx hr hlk (Or.inl ⟨_, rfl⟩) (Or.inr ⟨_, rfl⟩) dX3_formOf_63 (by first | rfl | (simp [fmI, c_1, c_2, c_3, c_4]; done))
  refine lv_lookup (pc := 1) (tgt := 67) (off := 66) hx hb dX3_formOf_1 (by decide) ((lv_osw c_1 (by decide)).trans ((lv_osw c_2 (by decide)).trans ((lv_osw c_3 (by decide)).trans ((lv_osw c_4 (by decide)).trans ((lv_osw c_5 (by decide)).trans (rfl)))))) (by decide) ?_
  refine va_ldcS (pc := 67) hx hb cx.own (hCE.2.1 4 (by decide)) dX3_formOf_67 ?_
  exact z_aret cx hr hlk (Or.inl ⟨_, rfl⟩) (Or.inr ⟨_, rfl⟩) dX3_formOf_69 (by first | rfl | (simp [fmI, c_1, c_2, c_3, c_4, c_5]; done))
theorem k_X3_formOf {p : Program} {l : Launch} {e : Env} {R : Room} {s : State} {m : MethodId} {args : Array Value} {below : List Frame} {meth : Method} {c : Code} {H : Heap} {locs : List Loc} {cells slots : Nat} {Q : State → Prop} {cc : ByteArray} {pc index : Nat} {ls : Array Slot} {rest st0 : List Value} {E : zE} {own : String} {nL : Nat} {A : Nat → Prop} {x : Int32} (cx : Cx E p s args m c own cc nL) (hCE : CE E A s H)  (zl : Cond.methodLink own index yX3_formOf ∈ AllW) (zR : 0 + 1 ≤ R.frames ∧ 8 + (1 + 11) + 0 ≤ R.locals) (zs : ls.size = nL) (zt : st0 = ([.int x] : List Value).reverse ++ rest) (z8 : (rest.map fun v => v.category).sum ≤ 8) (zd : decode cc pc = .ok (.invokestatic index, 3)) (zf : cells ≤ R.cells ∧ slots ≤ R.slots) (kk : W p l e R s m args below meth c H locs cells slots Q (F0 m (pc + 3) ls (.ref (aS E (fmI x)) :: rest))) : W p l e R s m args below meth c H locs cells slots Q (F0 m pc ls st0) :=
  z_callSc (Ov := some (.ref (aS E (fmI x)))) cx hCE vm_X3_formOf (c_X3_formOf l E A x) trivial zl ⟨rfl, rfl⟩ zR rfl zs zt z8 zd zf kk
