set_option maxHeartbeats 1000000 in
set_option maxRecDepth 100000 in
theorem c_X5_layWax_t (l : Launch) (E : zE) (b : Nat → Nat) (pd : Bool) (qt : Nat → Option Nat) (qr : Nat → Option Nat) (tbu : Nat → Int32) (wst : Nat → Int32) (asw : Nat → Int32) (pN : Int32) (tN : Int32) (aN : Int32) (hd : Int32) (dr : Int32) (pl : Int32) (rm : Int32) (ps : Int32) (wx : Nat → Int32) (pp : Nat → Option Nat) (tp : Nat → Option Nat) (ap : Nat → Option Nat) (sg : Nat → Int32) (uh : Int32) (ud : Int32) (up : Int32) (ur : Int32) (us : Int32) (ux : Nat → Int32) (xN : Int32) (xT : Int32) (xA : Int32) (xh : Int32) (xd : Int32) (xl : Int32) (xr : Int32) (xo : Int32) (xw : Nat → Int32) (xpp : Nat → Option Nat) (xtp : Nat → Option Nat) (xap : Nat → Option Nat) (xsg : Nat → Int32) (yN : Int32) (yT : Int32) (yA : Int32) (yh : Int32) (yd : Int32) (yl : Int32) (yr : Int32) (yo : Int32) (yw : Nat → Int32) (ypp : Nat → Option Nat) (ytp : Nat → Option Nat) (yap : Nat → Option Nat) (ysg : Nat → Int32) (zat : Int32) (zpl : Int32) (zlt : Int32) (zjo : Bool) (zfo : Int32) (zsz : Int32) (zby : Nat → Int32) (znu : Nat → Int32) (G : zG) (n : Nat) (x : Int32) (hn : n < 10) : Met l yX5_layWax (.code yX5_layWax cX5_layWax 3 none :: AllW) (rm0' 0 0) (zP E (fun H => WW E (wK b E.2.1 (wT b E.2.1 xN xT xA xh xd xl xr xo xw xpp xtp xap xsg yN yT yA yh yd yl yr yo yw ypp ytp yap ysg zat zpl zlt zjo zfo zsz zby znu) pd qt qr tbu wst asw pN tN aN hd dr pl rm ps wx pp tp ap sg uh ud up ur us ux) G H) [.ref (b 23), .int (nI n), .int x]) (zQ (fun (_ : Heap) (v : Option Value) (H1 : Heap) => (v = none ∧ WW E (wK b E.2.1 (wT b E.2.1 xN xT xA xh xd xl xr xo xw xpp xtp xap xsg yN yT yA yh yd yl yr yo (upd yw n x) ypp ytp yap ysg zat zpl zlt zjo zfo zsz zby znu) pd qt qr tbu wst asw pN tN aN hd dr pl rm ps wx pp tp ap sg uh ud up ur us ux) G H1)) (bF b)) 0 0 (bF b) := by
  refine z_body (own := RX5) (by decide) rfl rfl ?_
  intro p e s m args below meth c ls cx hr hlk hnm hW hl
  have hx := cx.x
  have hb := cx.b
  have hl : lv_has ls 3 [(0, .ref (b 23)), (1, .int (nI n)), (2, .int x)] := hl
  have hFb : ∀ k, (bF b) (b k) := fun k => bF_in b k
  have hS : va_S (bF b) s.heap s.heap [] := va_S.rf
  refine lv_iload_n (pc := 0) hx hb dX5_layWax_0 rfl (lv_at hl 1 rfl) ?_
  refine lv_if_lt (pc := 1) (tgt := 17) hx hb dX5_layWax_1 (by decide) (fun c_1 => ?_) (fun c_1 => ?_)
  · skip
    exact absurd c_1 (nI_n0 (by omega))
  · skip
    refine lv_iload_n (pc := 4) hx hb dX5_layWax_4 rfl (lv_at hl 1 rfl) ?_
    refine lv_bipush (pc := 5) (v := 10) hx hb dX5_layWax_5 (by decide) ?_
    refine lv_icmp_ge (pc := 7) (tgt := 17) hx hb dX5_layWax_7 (by decide) (fun c_2 => ?_) (fun c_2 => ?_)
    · skip
      have h3 := ge_nat (a := n) (b := 10) rfl rfl (by omega) (by omega) c_2
      omega
    · skip
      refine lv_aload_n (pc := 10) hx hb dX5_layWax_10 rfl (lv_at hl 0 rfl) ?_
      refine z_get (pc := 11) cx (hW.at 23 rfl) (C := RX5) (T := TX5) (N := 6) rfl i_X5 5 rfl m_fl_X5_15 rfl dX5_layWax_11 ?_
      refine lv_iload_n (pc := 14) hx hb dX5_layWax_14 rfl (lv_at hl 1 rfl) ?_
      refine lv_iload_n (pc := 15) hx hb dX5_layWax_15 rfl (lv_at hl 2 rfl) ?_
      refine z_iast (pc := 16) (f := yw) (j := n) cx hW hS 24 rfl (hFb 24) rfl (by omega) (by decide) dX5_layWax_16 (fun H locs hW hS => ?_)
      have hW : WW E (wK b E.2.1 (wT b E.2.1 xN xT xA xh xd xl xr xo xw xpp xtp xap xsg yN yT yA yh yd yl yr yo (upd yw n x) ypp ytp yap ysg zat zpl zlt zjo zfo zsz zby znu) pd qt qr tbu wst asw pN tN aN hd dr pl rm ps wx pp tp ap sg uh ud up ur us ux) G H := hW
      exact z_wvret cx hr hlk dX5_layWax_17 hS ⟨rfl, hW⟩
theorem k_X5_layWax_t {p : Program} {l : Launch} {e : Env} {R : Room} {s : State} {m : MethodId} {args : Array Value} {below : List Frame} {meth : Method} {c : Code} {H H0 : Heap} {locs : List Loc} {cells slots : Nat} {Q : State → Prop} {cc : ByteArray} {pc index : Nat} {ls : Array Slot} {rest st0 : List Value} {E : zE} {own : String} {nL : Nat} {F : Nat → Prop} {b : Nat → Nat} {pd : Bool} {qt : Nat → Option Nat} {qr : Nat → Option Nat} {tbu : Nat → Int32} {wst : Nat → Int32} {asw : Nat → Int32} {pN : Int32} {tN : Int32} {aN : Int32} {hd : Int32} {dr : Int32} {pl : Int32} {rm : Int32} {ps : Int32} {wx : Nat → Int32} {pp : Nat → Option Nat} {tp : Nat → Option Nat} {ap : Nat → Option Nat} {sg : Nat → Int32} {uh : Int32} {ud : Int32} {up : Int32} {ur : Int32} {us : Int32} {ux : Nat → Int32} {xN : Int32} {xT : Int32} {xA : Int32} {xh : Int32} {xd : Int32} {xl : Int32} {xr : Int32} {xo : Int32} {xw : Nat → Int32} {xpp : Nat → Option Nat} {xtp : Nat → Option Nat} {xap : Nat → Option Nat} {xsg : Nat → Int32} {yN : Int32} {yT : Int32} {yA : Int32} {yh : Int32} {yd : Int32} {yl : Int32} {yr : Int32} {yo : Int32} {yw : Nat → Int32} {ypp : Nat → Option Nat} {ytp : Nat → Option Nat} {yap : Nat → Option Nat} {ysg : Nat → Int32} {zat : Int32} {zpl : Int32} {zlt : Int32} {zjo : Bool} {zfo : Int32} {zsz : Int32} {zby : Nat → Int32} {znu : Nat → Int32} {G : zG} {n : Nat} {x : Int32} (cx : Cx E p s args m c own cc nL) (hW : WW E (wK b E.2.1 (wT b E.2.1 xN xT xA xh xd xl xr xo xw xpp xtp xap xsg yN yT yA yh yd yl yr yo yw ypp ytp yap ysg zat zpl zlt zjo zfo zsz zby znu) pd qt qr tbu wst asw pN tN aN hd dr pl rm ps wx pp tp ap sg uh ud up ur us ux) G H) (hS : va_S F H0 H locs) (zF : ∀ q, (bF b) q → F q) (hn : n < 10) (zl : Cond.methodLink own index yX5_layWax ∈ AllW) (zR : 0 + 1 ≤ R.frames ∧ 8 + (3 + 11) + 0 ≤ R.locals) (zs : ls.size = nL) (zt : st0 = ([.int (nI n), .int x] : List Value).reverse ++ .ref (b 23) :: rest) (z8 : (rest.map fun v => v.category).sum ≤ 8) (zd : decode cc pc = .ok (.invokevirtual index, 3)) (zf : cells ≤ R.cells ∧ slots ≤ R.slots) (kk0 : ∀  (H1 : Heap) (locs1 : List Loc), WW E (wK b E.2.1 (wT b E.2.1 xN xT xA xh xd xl xr xo xw xpp xtp xap xsg yN yT yA yh yd yl yr yo (upd yw n x) ypp ytp yap ysg zat zpl zlt zjo zfo zsz zby znu) pd qt qr tbu wst asw pN tN aN hd dr pl rm ps wx pp tp ap sg uh ud up ur us ux) G H1 → va_S F H0 H1 locs1 → W p l e R s m args below meth c H1 locs1 cells slots Q (F0 m (pc + 3) ls (rest))) : W p l e R s m args below meth c H locs cells slots Q (F0 m pc ls st0) := by
  refine z_callVw cx vm_X5_layWax (c_X5_layWax_t l E b pd qt qr tbu wst asw pN tN aN hd dr pl rm ps wx pp tp ap sg uh ud up ur us ux xN xT xA xh xd xl xr xo xw xpp xtp xap xsg yN yT yA yh yd yl yr yo yw ypp ytp yap ysg zat zpl zlt zjo zfo zsz zby znu G n x hn) (z_rec cx.2 (hW.at 23 rfl) rfl) hW hS zF zl ⟨rfl, rfl⟩ zR rfl zs zt z8 zd zf (fun v H1 locs1 hq hS1 _ => ?_)
  rcases hq with ⟨rfl, hW1⟩
  · exact kk0  H1 locs1  hW1 hS1
set_option maxHeartbeats 1000000 in
set_option maxRecDepth 100000 in
theorem c_X1_isPiece_t (l : Launch) (E : zE) (b : Nat → Nat) (pd : Bool) (qt : Nat → Option Nat) (qr : Nat → Option Nat) (tbu : Nat → Int32) (wst : Nat → Int32) (asw : Nat → Int32) (pN : Int32) (tN : Int32) (aN : Int32) (hd : Int32) (dr : Int32) (pl : Int32) (rm : Int32) (ps : Int32) (wx : Nat → Int32) (pp : Nat → Option Nat) (tp : Nat → Option Nat) (ap : Nat → Option Nat) (sg : Nat → Int32) (uh : Int32) (ud : Int32) (up : Int32) (ur : Int32) (us : Int32) (ux : Nat → Int32) (xN : Int32) (xT : Int32) (xA : Int32) (xh : Int32) (xd : Int32) (xl : Int32) (xr : Int32) (xo : Int32) (xw : Nat → Int32) (xpp : Nat → Option Nat) (xtp : Nat → Option Nat) (xap : Nat → Option Nat) (xsg : Nat → Int32) (yN : Int32) (yT : Int32) (yA : Int32) (yh : Int32) (yd : Int32) (yl : Int32) (yr : Int32) (yo : Int32) (yw : Nat → Int32) (ypp : Nat → Option Nat) (ytp : Nat → Option Nat) (yap : Nat → Option Nat) (ysg : Nat → Int32) (zat : Int32) (zpl : Int32) (zlt : Int32) (zjo : Bool) (zfo : Int32) (zsz : Int32) (zby : Nat → Int32) (znu : Nat → Int32) (G : zG) (x : Int32)  : Met l yX1_isPiece (.code yX1_isPiece cX1_isPiece 2 (some FieldType.boolean) :: AllW) (rm0' 0 0) (zP E (fun H => WW E (wK b E.2.1 (wT b E.2.1 xN xT xA xh xd xl xr xo xw xpp xtp xap xsg yN yT yA yh yd yl yr yo yw ypp ytp yap ysg zat zpl zlt zjo zfo zsz zby znu) pd qt qr tbu wst asw pN tN aN hd dr pl rm ps wx pp tp ap sg uh ud up ur us ux) G H) [.ref (b 22), .int x]) (rQ (.int (bI (isPt yN x)))) 0 0 nF := by
  refine z_body (own := RX1) (by decide) rfl rfl ?_
  intro p e s m args below meth c ls cx hr hlk hnm hW hl
  have hx := cx.x
  have hb := cx.b
  have hl : lv_has ls 2 [(0, .ref (b 22)), (1, .int x)] := hl
  refine lv_iload_n (pc := 0) hx hb dX1_isPiece_0 rfl (lv_at hl 1 rfl) ?_
  refine lv_if_lt (pc := 1) (tgt := 22) hx hb dX1_isPiece_1 (by decide) (fun c_1 => ?_) (fun c_1 => ?_)
  · skip
    refine lv_iconst (pc := 22) (v := 0) hx hb dX1_isPiece_22 (by decide) ?_
    exact z_zret cx hr hlk dX1_isPiece_23 (by first | rfl | (simp [isPt, bI, c_1, i_nle.mpr c_1]; done))
  · skip
    refine lv_iload_n (pc := 4) hx hb dX1_isPiece_4 rfl (lv_at hl 1 rfl) ?_
    refine lv_aload_n (pc := 5) hx hb dX1_isPiece_5 rfl (lv_at hl 0 rfl) ?_
    refine z_get (pc := 6) cx (hW.at 22 rfl) (C := RX1) (T := TX1) (N := 8) rfl i_X1 0 rfl m_fl_X1_40 rfl dX1_isPiece_6 ?_
    refine lv_icmp_ge (pc := 9) (tgt := 22) hx hb dX1_isPiece_9 (by decide) (fun c_2 => ?_) (fun c_2 => ?_)
    · skip
      refine lv_iconst (pc := 22) (v := 0) hx hb dX1_isPiece_22 (by decide) ?_
      exact z_zret cx hr hlk dX1_isPiece_23 (by first | rfl | (simp [isPt, bI, c_1, c_2, i_nlt.mp c_1, i_nlt.mpr c_2]; done))
    · skip
      refine lv_iload_n (pc := 12) hx hb dX1_isPiece_12 rfl (lv_at hl 1 rfl) ?_
      refine lv_bipush (pc := 13) (v := 10) hx hb dX1_isPiece_13 (by decide) ?_
      refine lv_icmp_ge (pc := 15) (tgt := 22) hx hb dX1_isPiece_15 (by decide) (fun c_3 => ?_) (fun c_3 => ?_)
      · skip
        refine lv_iconst (pc := 22) (v := 0) hx hb dX1_isPiece_22 (by decide) ?_
        exact z_zret cx hr hlk dX1_isPiece_23 (by first | rfl | (simp [isPt, bI, c_1, c_2, c_3, i_nlt.mp c_1, i_nle.mp c_2, i_nlt.mpr c_3]; done))
      · skip
        refine lv_iconst (pc := 18) (v := 1) hx hb dX1_isPiece_18 (by decide) ?_
        refine lv_goto (pc := 19) (tgt := 23) hx hb dX1_isPiece_19 (by decide) ?_
        exact z_zret cx hr hlk dX1_isPiece_23 (by first | rfl | (simp [isPt, bI, c_1, c_2, c_3, i_nlt.mp c_1, i_nle.mp c_2, i_nle.mp c_3]; done))
theorem k_X1_isPiece_t {p : Program} {l : Launch} {e : Env} {R : Room} {s : State} {m : MethodId} {args : Array Value} {below : List Frame} {meth : Method} {c : Code} {H : Heap} {locs : List Loc} {cells slots : Nat} {Q : State → Prop} {cc : ByteArray} {pc index : Nat} {ls : Array Slot} {rest st0 : List Value} {E : zE} {own : String} {nL : Nat} {b : Nat → Nat} {pd : Bool} {qt : Nat → Option Nat} {qr : Nat → Option Nat} {tbu : Nat → Int32} {wst : Nat → Int32} {asw : Nat → Int32} {pN : Int32} {tN : Int32} {aN : Int32} {hd : Int32} {dr : Int32} {pl : Int32} {rm : Int32} {ps : Int32} {wx : Nat → Int32} {pp : Nat → Option Nat} {tp : Nat → Option Nat} {ap : Nat → Option Nat} {sg : Nat → Int32} {uh : Int32} {ud : Int32} {up : Int32} {ur : Int32} {us : Int32} {ux : Nat → Int32} {xN : Int32} {xT : Int32} {xA : Int32} {xh : Int32} {xd : Int32} {xl : Int32} {xr : Int32} {xo : Int32} {xw : Nat → Int32} {xpp : Nat → Option Nat} {xtp : Nat → Option Nat} {xap : Nat → Option Nat} {xsg : Nat → Int32} {yN : Int32} {yT : Int32} {yA : Int32} {yh : Int32} {yd : Int32} {yl : Int32} {yr : Int32} {yo : Int32} {yw : Nat → Int32} {ypp : Nat → Option Nat} {ytp : Nat → Option Nat} {yap : Nat → Option Nat} {ysg : Nat → Int32} {zat : Int32} {zpl : Int32} {zlt : Int32} {zjo : Bool} {zfo : Int32} {zsz : Int32} {zby : Nat → Int32} {znu : Nat → Int32} {G : zG} {x : Int32} (cx : Cx E p s args m c own cc nL) (hW : WW E (wK b E.2.1 (wT b E.2.1 xN xT xA xh xd xl xr xo xw xpp xtp xap xsg yN yT yA yh yd yl yr yo yw ypp ytp yap ysg zat zpl zlt zjo zfo zsz zby znu) pd qt qr tbu wst asw pN tN aN hd dr pl rm ps wx pp tp ap sg uh ud up ur us ux) G H)  (zl : Cond.methodLink own index yX1_isPiece ∈ AllW) (zR : 0 + 1 ≤ R.frames ∧ 8 + (2 + 11) + 0 ≤ R.locals) (zs : ls.size = nL) (zt : st0 = ([.int x] : List Value).reverse ++ .ref (b 22) :: rest) (z8 : (rest.map fun v => v.category).sum ≤ 8) (zd : decode cc pc = .ok (.invokevirtual index, 3)) (zf : cells ≤ R.cells ∧ slots ≤ R.slots) (kk : W p l e R s m args below meth c H locs cells slots Q (F0 m (pc + 3) ls (.int (bI (isPt yN x)) :: rest))) : W p l e R s m args below meth c H locs cells slots Q (F0 m pc ls st0) :=
  z_callV cx vm_X1_isPiece (c_X1_isPiece_t l E b pd qt qr tbu wst asw pN tN aN hd dr pl rm ps wx pp tp ap sg uh ud up ur us ux xN xT xA xh xd xl xr xo xw xpp xtp xap xsg yN yT yA yh yd yl yr yo yw ypp ytp yap ysg zat zpl zlt zjo zfo zsz zby znu G x) (z_rec cx.2 (hW.at 22 rfl) rfl) hW zl ⟨rfl, rfl⟩ zR rfl zs zt z8 zd zf kk
theorem vm_X1_joinPiece : zVm yX1_joinPiece cX1_joinPiece 7 (some FieldType.boolean) 1 := ⟨m_co_X1_joinPiece, m_in_RX1, ⟨m_im_X1_joinPiece, m_se_X1_X1_joinPiece⟩, by decide +kernel, by decide +kernel, by decide +kernel⟩
set_option maxHeartbeats 1000000 in
set_option maxRecDepth 100000 in
theorem c_X1_joinPiece (l : Launch) (E : zE) (b : Nat → Nat) (pd : Bool) (qt : Nat → Option Nat) (qr : Nat → Option Nat) (tbu : Nat → Int32) (wst : Nat → Int32) (asw : Nat → Int32) (pN : Int32) (tN : Int32) (aN : Int32) (hd : Int32) (dr : Int32) (pl : Int32) (rm : Int32) (ps : Int32) (wx : Nat → Int32) (pp : Nat → Option Nat) (tp : Nat → Option Nat) (ap : Nat → Option Nat) (sg : Nat → Int32) (uh : Int32) (ud : Int32) (up : Int32) (ur : Int32) (us : Int32) (ux : Nat → Int32) (xN : Int32) (xT : Int32) (xA : Int32) (xh : Int32) (xd : Int32) (xl : Int32) (xr : Int32) (xo : Int32) (xw : Nat → Int32) (xpp : Nat → Option Nat) (xtp : Nat → Option Nat) (xap : Nat → Option Nat) (xsg : Nat → Int32) (yN : Int32) (yT : Int32) (yA : Int32) (yh : Int32) (yd : Int32) (yl : Int32) (yr : Int32) (yo : Int32) (yw : Nat → Int32) (ypp : Nat → Option Nat) (ytp : Nat → Option Nat) (yap : Nat → Option Nat) (ysg : Nat → Int32) (zat : Int32) (zpl : Int32) (zlt : Int32) (zjo : Bool) (zfo : Int32) (zsz : Int32) (zby : Nat → Int32) (znu : Nat → Int32) (G : zG) (N : Nat) (g : Nat → Int32) (hG : CG E.2.1 G g yN yT yA yw ypp ytp yap) (hN : (rg (znu 0) 0 999 ∧ rg (znu 1) 0 999 ∧ rg (znu 2) 0 999 ∧ (zjo = true → rg (znu 3) 0 9 ∧ rg (znu 4) 0 999))) : Met l yX1_joinPiece (.code yX1_joinPiece cX1_joinPiece 7 (some FieldType.boolean) :: AllW) (rmA 2 66 1 5) (zP E (fun H => WW E (wK b E.2.1 (wT b E.2.1 xN xT xA xh xd xl xr xo xw xpp xtp xap xsg yN yT yA yh yd yl yr yo yw ypp ytp yap ysg zat zpl zlt zjo zfo zsz zby znu) pd qt qr tbu wst asw pN tN aN hd dr pl rm ps wx pp tp ap sg uh ud up ur us ux) G H ∧ H.size = N) [.ref (b 22), .ref (b 29)]) (zQ (fun (_ : Heap) (v : Option Value) (H1 : Heap) => (∃ (q9 : Nat) (G2 : zG), v = some (.int (bI true)) ∧ (cpO g znu zjo = true) ∧ (GLe G G2) ∧ (G2 q9 = some (ceP (znu 0) (znu 1) (znu 2) (if zjo = true then znu 3 else -1) (if zjo = true then znu 4 else 0))) ∧ (FrG G G2 N) ∧ WW E (wK b E.2.1 (wT b E.2.1 xN xT xA xh xd xl xr xo xw xpp xtp xap xsg (nI (nP g + 1)) yT yA yh yd yl yr yo (upd yw (nP g) 0) (va_up ypp (nP g) (some q9)) ytp yap ysg zat zpl zlt zjo zfo zsz zby znu) pd qt qr tbu wst asw pN tN aN hd dr pl rm ps wx pp tp ap sg uh ud up ur us ux) G2 H1) ∨ (v = some (.int (bI false)) ∧ (cpO g znu zjo = false) ∧ WW E (wK b E.2.1 (wT b E.2.1 xN xT xA xh xd xl xr xo xw xpp xtp xap xsg yN yT yA yh yd yl yr yo yw ypp ytp yap ysg zat zpl zlt zjo zfo zsz zby znu) pd qt qr tbu wst asw pN tN aN hd dr pl rm ps wx pp tp ap sg uh ud up ur us ux) G H1)) (bFz b N)) 1 5 (bFz b N) := by
  refine z_body (own := RX1) (by decide) rfl rfl ?_
  intro p e s m args below meth c ls cx hr hlk hnm hW hl
  have hx := cx.x
  have hb := cx.b
  have hl : lv_has ls 7 [(0, .ref (b 22)), (1, .ref (b 29))] := hl
  obtain ⟨hW, hN0⟩ := hW
  have hFb : ∀ k, (bFz b N) (b k) := fun k => Or.inl (bF_in b k)
  have hS : va_S (bFz b N) s.heap s.heap [] := va_S.rf
  have hG0 := hG
  obtain ⟨hI, hyN, hyT, hyA, hPc, hTh, hAk, hwx⟩ := hG
  have hC := hI.1
  have hIS := hI.2.1
  have hP := hI.2.2.1
  have hT := hI.2.2.2.1
  have hP10 := (Inv.n0 hC).2
  have hT7 := (Inv.n1 hC).2
  have hA24 := (Inv.n2 hC).2
  have e0 := (Inv.n0 hC).1
  have e1 := (Inv.n1 hC).1
  have e2 := (Inv.n2 hC).1
  have f0 : yN = g 0 := hyN.trans e0.symm
  have f1 : yT = g 1 := hyT.trans e1.symm
  have f2 : yA = g 2 := hyA.trans e2.symm
  refine lv_aload_n (pc := 0) hx hb dX1_joinPiece_0 rfl (lv_at hl 1 rfl) ?_
  refine lv_iconst (pc := 1) (v := 0) hx hb dX1_joinPiece_1 (by decide) ?_
  refine k_X3_numberAt (pc := 2) (n := 0) cx hW (by first | assumption | omega) m_ml_X1_61 ⟨Nat.le_of_ble_eq_true rfl, Nat.le_of_ble_eq_true rfl⟩ hl.1 rfl (by simp [Value.category]) dX1_joinPiece_2 (by constructor <;> (simp only [rmA]; omega)) ?_
  refine lv_istore_n (pc := 5) (lv' := [(2, .int (znu 0)), (0, .ref (b 22)), (1, .ref (b 29))]) hx hb dX1_joinPiece_5 rfl hl (by decide) rfl (fun ls hl => ?_)
  refine lv_aload_n (pc := 6) hx hb dX1_joinPiece_6 rfl (lv_at hl 2 rfl) ?_
  refine lv_iconst (pc := 7) (v := 1) hx hb dX1_joinPiece_7 (by decide) ?_
  refine k_X3_numberAt (pc := 8) (n := 1) cx hW (by first | assumption | omega) m_ml_X1_61 ⟨Nat.le_of_ble_eq_true rfl, Nat.le_of_ble_eq_true rfl⟩ hl.1 rfl (by simp [Value.category]) dX1_joinPiece_8 (by constructor <;> (simp only [rmA]; omega)) ?_
  refine lv_istore_n (pc := 11) (lv' := [(3, .int (znu 1)), (2, .int (znu 0)), (0, .ref (b 22)), (1, .ref (b 29))]) hx hb dX1_joinPiece_11 rfl hl (by decide) rfl (fun ls hl => ?_)
  refine lv_aload_n (pc := 12) hx hb dX1_joinPiece_12 rfl (lv_at hl 3 rfl) ?_
  refine lv_iconst (pc := 13) (v := 2) hx hb dX1_joinPiece_13 (by decide) ?_
  refine k_X3_numberAt (pc := 14) (n := 2) cx hW (by first | assumption | omega) m_ml_X1_61 ⟨Nat.le_of_ble_eq_true rfl, Nat.le_of_ble_eq_true rfl⟩ hl.1 rfl (by simp [Value.category]) dX1_joinPiece_14 (by constructor <;> (simp only [rmA]; omega)) ?_
  refine lv_istore (pc := 17) (lv' := [(4, .int (znu 2)), (3, .int (znu 1)), (2, .int (znu 0)), (0, .ref (b 22)), (1, .ref (b 29))]) hx hb dX1_joinPiece_17 hl (by decide) rfl (fun ls hl => ?_)
  refine lv_aload_n (pc := 19) hx hb dX1_joinPiece_19 rfl (lv_at hl 4 rfl) ?_
  refine z_get (pc := 20) cx (hW.at 29 rfl) (C := RX3) (T := TX3) (N := 8) rfl i_X3 3 rfl m_fl_X1_81 rfl dX1_joinPiece_20 ?_
  refine z_ifeq (pc := 23) (tgt := 34) hx hb dX1_joinPiece_23 (by decide) (fun c_1 => ?_) (fun c_1 => ?_)
  · skip
    obtain rfl : zjo = false := c_1
    refine lv_iconst (pc := 34) (v := (-1)) hx hb dX1_joinPiece_34 (by decide) ?_
    refine lv_istore (pc := 35) (lv' := [(5, .int (-1)), (4, .int (znu 2)), (3, .int (znu 1)), (2, .int (znu 0)), (0, .ref (b 22)), (1, .ref (b 29))]) hx hb dX1_joinPiece_35 hl (by decide) rfl (fun ls hl => ?_)
    refine lv_aload_n (pc := 37) hx hb dX1_joinPiece_37 rfl (lv_at hl 5 rfl) ?_
    refine z_get (pc := 38) cx (hW.at 29 rfl) (C := RX3) (T := TX3) (N := 8) rfl i_X3 3 rfl m_fl_X1_81 rfl dX1_joinPiece_38 ?_
    refine z_ifeq (pc := 41) (tgt := 52) hx hb dX1_joinPiece_41 (by decide) (fun _ => ?_) (fun c => absurd c (by decide))
    refine lv_iconst (pc := 52) (v := 0) hx hb dX1_joinPiece_52 (by decide) ?_
    refine lv_istore (pc := 53) (lv' := [(6, .int 0), (5, .int (-1)), (4, .int (znu 2)), (3, .int (znu 1)), (2, .int (znu 0)), (0, .ref (b 22)), (1, .ref (b 29))]) hx hb dX1_joinPiece_53 hl (by decide) rfl (fun ls hl => ?_)
    refine lv_aload_n (pc := 55) hx hb dX1_joinPiece_55 rfl (lv_at hl 5 rfl) ?_
    refine z_get (pc := 56) cx (hW.at 22 rfl) (C := RX1) (T := TX1) (N := 8) rfl i_X1 2 rfl m_fl_X1_47 rfl dX1_joinPiece_56 ?_
    refine lv_if_gt (pc := 59) (tgt := 71) hx hb dX1_joinPiece_59 (by decide) (fun c_3 => ?_) (fun c_3 => ?_)
    · skip
      have ho : cpO g znu (false) = false := cpO_f (fun ⟨o0, o1, o2, o3, o4, o5⟩ => nI_gt0 c_3 hyA (f2.trans o4))
      refine lv_iconst (pc := 71) (v := 0) hx hb dX1_joinPiece_71 (by decide) ?_
      refine W.widen (k := 1) (n := 5) (by omega) (by omega) ?_
      exact z_wzret (b := false) cx hr hlk dX1_joinPiece_72 hS (Or.inr ⟨rfl, ho, hW⟩)
    · skip
      have hA0 : yA = 0 := nn0 hyA (by omega) c_3
      refine lv_aload_n (pc := 62) hx hb dX1_joinPiece_62 rfl (lv_at hl 5 rfl) ?_
      refine z_get (pc := 63) cx (hW.at 22 rfl) (C := RX1) (T := TX1) (N := 8) rfl i_X1 0 rfl m_fl_X1_40 rfl dX1_joinPiece_63 ?_
      refine lv_bipush (pc := 66) (v := 10) hx hb dX1_joinPiece_66 (by decide) ?_
      refine lv_icmp_lt (pc := 68) (tgt := 73) hx hb dX1_joinPiece_68 (by decide) (fun c_4 => ?_) (fun c_4 => ?_)
      · skip
        have h68 := c_4
        have hP9 := gtn (a := nP g) (b := 10) hyN rfl (by omega) (by omega) h68
        refine lv_iload_n (pc := 73) hx hb dX1_joinPiece_73 rfl (lv_at hl 4 rfl) ?_
        refine lv_bipush (pc := 74) (v := 10) hx hb dX1_joinPiece_74 (by decide) ?_
        refine lv_sipush (pc := 76) (v := 600) hx hb dX1_joinPiece_76 (by decide) ?_
        refine kN_isWithin (pc := 79) (x := znu 0) (y := 10) (z := 600) cx cx.2.2.1 ⟨Nat.le_of_ble_eq_true rfl, Nat.le_of_ble_eq_true rfl⟩ hl.1 rfl (by simp [Value.category]) dX1_joinPiece_79 (by constructor <;> (simp only [rmA]; omega)) ?_
        refine z_ifeq (pc := 82) (tgt := 106) hx hb dX1_joinPiece_82 (by decide) (fun c_5 => ?_) (fun c_5 => ?_)
        · skip
          have ho : cpO g znu (false) = false := cpO_f (fun ⟨o0, o1, o2, o3, o4, o5⟩ => inL_no o0 rfl rfl c_5)
          refine lv_iconst (pc := 106) (v := 0) hx hb dX1_joinPiece_106 (by decide) ?_
          refine W.widen (k := 1) (n := 5) (by omega) (by omega) ?_
          exact z_wzret (b := false) cx hr hlk dX1_joinPiece_107 hS (Or.inr ⟨rfl, ho, hW⟩)
        · skip
          have h79 := c_5
          refine lv_iload_n (pc := 85) hx hb dX1_joinPiece_85 rfl (lv_at hl 3 rfl) ?_
          refine lv_iconst (pc := 86) (v := 1) hx hb dX1_joinPiece_86 (by decide) ?_
          refine lv_bipush (pc := 87) (v := 99) hx hb dX1_joinPiece_87 (by decide) ?_
          refine kN_isWithin (pc := 89) (x := znu 1) (y := 1) (z := 99) cx cx.2.2.1 ⟨Nat.le_of_ble_eq_true rfl, Nat.le_of_ble_eq_true rfl⟩ hl.1 rfl (by simp [Value.category]) dX1_joinPiece_89 (by constructor <;> (simp only [rmA]; omega)) ?_
          refine z_ifeq (pc := 92) (tgt := 106) hx hb dX1_joinPiece_92 (by decide) (fun c_6 => ?_) (fun c_6 => ?_)
          · skip
            have ho : cpO g znu (false) = false := cpO_f (fun ⟨o0, o1, o2, o3, o4, o5⟩ => inL_no o1 rfl rfl c_6)
            refine lv_iconst (pc := 106) (v := 0) hx hb dX1_joinPiece_106 (by decide) ?_
            refine W.widen (k := 1) (n := 5) (by omega) (by omega) ?_
            exact z_wzret (b := false) cx hr hlk dX1_joinPiece_107 hS (Or.inr ⟨rfl, ho, hW⟩)
          · skip
            have h89 := c_6
            refine lv_iload (pc := 95) hx hb dX1_joinPiece_95 (lv_at hl 2 rfl) ?_
            refine lv_iconst (pc := 97) (v := 1) hx hb dX1_joinPiece_97 (by decide) ?_
            refine lv_bipush (pc := 98) (v := 99) hx hb dX1_joinPiece_98 (by decide) ?_
            refine kN_isWithin (pc := 100) (x := znu 2) (y := 1) (z := 99) cx cx.2.2.1 ⟨Nat.le_of_ble_eq_true rfl, Nat.le_of_ble_eq_true rfl⟩ hl.1 rfl (by simp [Value.category]) dX1_joinPiece_100 (by constructor <;> (simp only [rmA]; omega)) ?_
            refine z_ifne (pc := 103) (tgt := 108) hx hb dX1_joinPiece_103 (by decide) (fun c_7 => ?_) (fun c_7 => ?_)
            · skip
              have h100 := c_7
              refine lv_iload (pc := 108) hx hb dX1_joinPiece_108 (lv_at hl 1 rfl) ?_
              refine lv_iconst (pc := 110) (v := (-1)) hx hb dX1_joinPiece_110 (by decide) ?_
              refine lv_icmp_eq (pc := 111) (tgt := 123) hx hb dX1_joinPiece_111 (by decide) (fun _ => ?_) (fun c => (c (by decide)).elim)
              refine lv_iload (pc := 123) hx hb dX1_joinPiece_123 (lv_at hl 0 rfl) ?_
              refine lv_iconst (pc := 125) (v := 0) hx hb dX1_joinPiece_125 (by decide) ?_
              refine lv_bipush (pc := 126) (v := 99) hx hb dX1_joinPiece_126 (by decide) ?_
              refine kN_isWithin (pc := 128) (x := 0) (y := 0) (z := 99) cx cx.2.2.1 ⟨Nat.le_of_ble_eq_true rfl, Nat.le_of_ble_eq_true rfl⟩ hl.1 rfl (by simp [Value.category]) dX1_joinPiece_128 (by constructor <;> (simp only [rmA]; omega)) ?_
              refine z_ifne (pc := 131) (tgt := 136) hx hb dX1_joinPiece_131 (by decide) (fun c_9 => ?_) (fun c_9 => ?_)
              · skip
                have h128 := c_9
                refine lv_aload_n (pc := 136) hx hb dX1_joinPiece_136 rfl (lv_at hl 5 rfl) ?_
                refine z_get (pc := 137) cx (hW.at 22 rfl) (C := RX1) (T := TX1) (N := 8) rfl i_X1 4 rfl m_fl_X1_20 rfl dX1_joinPiece_137 ?_
                refine lv_aload_n (pc := 140) hx hb dX1_joinPiece_140 rfl (lv_at hl 5 rfl) ?_
                refine z_get (pc := 141) cx (hW.at 22 rfl) (C := RX1) (T := TX1) (N := 8) rfl i_X1 0 rfl m_fl_X1_40 rfl dX1_joinPiece_141 ?_
                refine z_tope (y := nI (nP g)) hyN ?_
                refine z_new (pc := 144) (ci := 2) (C := RX2) (T := TX2) (N := 5) (fs := [.int 0, .int 0, .int 0, .int 0, .int 0]) (ty := tyX2) cx hW hS rfl i_X2 tyX2_ok m_cl_X1_18 m_is_RX2 m_in_RX2 (by intro j hj; (rcases j with _ | _ | _ | _ | _ | _ | j) <;> first | rfl | omega) (by constructor <;> (simp only [rmA]; omega)) dX1_joinPiece_144 (fun n144 H hNn144 hfn144 hW hS => ?_)
                have hW : WW E (wK b E.2.1 (wT b E.2.1 xN xT xA xh xd xl xr xo xw xpp xtp xap xsg yN yT yA yh yd yl yr yo yw ypp ytp yap ysg zat zpl zlt false zfo zsz zby znu) pd qt qr tbu wst asw pN tN aN hd dr pl rm ps wx pp tp ap sg uh ud up ur us ux) (va_up G n144 (some (ceP 0 0 0 0 0))) H := hW
                refine lv_dup (pc := 147) hx hb dX1_joinPiece_147 rfl ?_
                refine lv_iload_n (pc := 148) hx hb dX1_joinPiece_148 rfl (lv_at hl 4 rfl) ?_
                refine lv_iload_n (pc := 149) hx hb dX1_joinPiece_149 rfl (lv_at hl 3 rfl) ?_
                refine lv_iload (pc := 150) hx hb dX1_joinPiece_150 (lv_at hl 2 rfl) ?_
                refine lv_iload (pc := 152) hx hb dX1_joinPiece_152 (lv_at hl 1 rfl) ?_
                refine lv_iload (pc := 154) hx hb dX1_joinPiece_154 (lv_at hl 0 rfl) ?_
                refine k_X2_init (pc := 156) (q := n144) (v0 := znu 0) (v1 := znu 1) (v2 := znu 2) (v3 := (-1)) (v4 := 0) cx hW hS up_s (Or.inr (hN0 ▸ hNn144)) m_ml_X1_89 ⟨Nat.le_of_ble_eq_true rfl, Nat.le_of_ble_eq_true rfl⟩ hl.1 rfl (by simp [Value.category]) dX1_joinPiece_156 (by constructor <;> (simp only [rmA]; omega)) (fun H locs hW hS => ?_)
                rw [up_up] at hW
                have hGLn144 : GLe G (va_up G n144 (some (ceP (znu 0) (znu 1) (znu 2) (-1) 0))) := GLe.up hfn144
                have hgn144 : (va_up G n144 (some (ceP (znu 0) (znu 1) (znu 2) (-1) 0))) n144 = some (ceP (znu 0) (znu 1) (znu 2) (-1) 0) := up_s
                have hW : WW E (wK b E.2.1 (wT b E.2.1 xN xT xA xh xd xl xr xo xw xpp xtp xap xsg yN yT yA yh yd yl yr yo yw ypp ytp yap ysg zat zpl zlt false zfo zsz zby znu) pd qt qr tbu wst asw pN tN aN hd dr pl rm ps wx pp tp ap sg uh ud up ur us ux) (va_up G n144 (some (ceP (znu 0) (znu 1) (znu 2) (-1) 0))) H := hW
                refine z_aast (pc := 159) (f := ypp) (j := nP g) cx hW hS 25 1 2 rfl rfl (hW.dyn hgn144) rfl (hFb 25) rfl (by omega) (by decide) dX1_joinPiece_159 (fun H locs hW hS => ?_)
                have hW : WW E (wK b E.2.1 (wT b E.2.1 xN xT xA xh xd xl xr xo xw xpp xtp xap xsg yN yT yA yh yd yl yr yo yw (va_up ypp (nP g) (some n144)) ytp yap ysg zat zpl zlt false zfo zsz zby znu) pd qt qr tbu wst asw pN tN aN hd dr pl rm ps wx pp tp ap sg uh ud up ur us ux) (va_up G n144 (some (ceP (znu 0) (znu 1) (znu 2) (-1) 0))) H := hW
                refine lv_aload_n (pc := 160) hx hb dX1_joinPiece_160 rfl (lv_at hl 5 rfl) ?_
                refine z_get (pc := 161) cx (hW.at 22 rfl) (C := RX1) (T := TX1) (N := 8) rfl i_X1 3 rfl m_fl_X1_12 rfl dX1_joinPiece_161 ?_
                refine lv_aload_n (pc := 164) hx hb dX1_joinPiece_164 rfl (lv_at hl 5 rfl) ?_
                refine z_get (pc := 165) cx (hW.at 22 rfl) (C := RX1) (T := TX1) (N := 8) rfl i_X1 0 rfl m_fl_X1_40 rfl dX1_joinPiece_165 ?_
                refine z_tope (y := nI (nP g)) hyN ?_
                refine lv_iconst (pc := 168) (v := 0) hx hb dX1_joinPiece_168 (by decide) ?_
                refine k_X5_layWax_t (pc := 169) (n := nP g) (x := 0) cx hW hS (fun _ h => Or.inl h) (by first | assumption | omega) m_ml_X1_92 ⟨Nat.le_of_ble_eq_true rfl, Nat.le_of_ble_eq_true rfl⟩ hl.1 rfl (by simp [Value.category]) dX1_joinPiece_169 (by constructor <;> (simp only [rmA]; omega)) (fun  H locs  hW hS => ?_)
                have hW : WW E (wK b E.2.1 (wT b E.2.1 xN xT xA xh xd xl xr xo xw xpp xtp xap xsg yN yT yA yh yd yl yr yo (upd yw (nP g) 0) (va_up ypp (nP g) (some n144)) ytp yap ysg zat zpl zlt false zfo zsz zby znu) pd qt qr tbu wst asw pN tN aN hd dr pl rm ps wx pp tp ap sg uh ud up ur us ux) (va_up G n144 (some (ceP (znu 0) (znu 1) (znu 2) (-1) 0))) H := hW
                refine lv_aload_n (pc := 172) hx hb dX1_joinPiece_172 rfl (lv_at hl 5 rfl) ?_
                refine lv_dup (pc := 173) hx hb dX1_joinPiece_173 rfl ?_
                refine z_get (pc := 174) cx (hW.at 22 rfl) (C := RX1) (T := TX1) (N := 8) rfl i_X1 0 rfl m_fl_X1_40 rfl dX1_joinPiece_174 ?_
                refine z_tope (y := nI (nP g)) hyN ?_
                refine lv_iconst (pc := 177) (v := 1) hx hb dX1_joinPiece_177 (by decide) ?_
                refine lv_iadd (pc := 178) hx hb dX1_joinPiece_178 ?_
                refine z_tope (y := nI (nP g + 1)) (nI_1 _) ?_
                refine z_putK1 (pc := 179) cx hW hS 22 rfl (hFb 22) 0 rfl m_fl_X1_40 rfl rfl dX1_joinPiece_179 (fun H locs hW hS => ?_)
                have hW : WW E (wK b E.2.1 (wT b E.2.1 xN xT xA xh xd xl xr xo xw xpp xtp xap xsg (nI (nP g + 1)) yT yA yh yd yl yr yo (upd yw (nP g) 0) (va_up ypp (nP g) (some n144)) ytp yap ysg zat zpl zlt false zfo zsz zby znu) pd qt qr tbu wst asw pN tN aN hd dr pl rm ps wx pp tp ap sg uh ud up ur us ux) (va_up G n144 (some (ceP (znu 0) (znu 1) (znu 2) (-1) 0))) H := hW
                refine lv_iconst (pc := 182) (v := 1) hx hb dX1_joinPiece_182 (by decide) ?_
                refine W.widen (k := 1) (n := 5) (by omega) (by omega) ?_
                exact z_wzret (b := true) cx hr hlk dX1_joinPiece_183 hS (Or.inl ⟨n144, _, rfl, (cpO_i h79 h89 h100 (by rw [← f0]; exact h68) (by rw [← f2]; exact hA0) (fun x => absurd x Bool.false_ne_true)), hGLn144, (by rw [hgn144]; rfl), (FrG.up (by rw [← hN0]; exact hNn144)), (by exact hW)⟩)
              · skip
                have ho : cpO g znu (false) = false := cpO_f (fun ⟨o0, o1, o2, o3, o4, o5⟩ => absurd c_9 (by decide))
                refine lv_iconst (pc := 134) (v := 0) hx hb dX1_joinPiece_134 (by decide) ?_
                refine W.widen (k := 1) (n := 5) (by omega) (by omega) ?_
                exact z_wzret (b := false) cx hr hlk dX1_joinPiece_135 hS (Or.inr ⟨rfl, ho, hW⟩)
            · skip
              have ho : cpO g znu (false) = false := cpO_f (fun ⟨o0, o1, o2, o3, o4, o5⟩ => inL_no o2 rfl rfl c_7)
              refine lv_iconst (pc := 106) (v := 0) hx hb dX1_joinPiece_106 (by decide) ?_
              refine W.widen (k := 1) (n := 5) (by omega) (by omega) ?_
              exact z_wzret (b := false) cx hr hlk dX1_joinPiece_107 hS (Or.inr ⟨rfl, ho, hW⟩)
      · skip
        have ho : cpO g znu (false) = false := cpO_f (fun ⟨o0, o1, o2, o3, o4, o5⟩ => c_4 (by rw [f0]; exact o3))
        refine lv_iconst (pc := 71) (v := 0) hx hb dX1_joinPiece_71 (by decide) ?_
        refine W.widen (k := 1) (n := 5) (by omega) (by omega) ?_
        exact z_wzret (b := false) cx hr hlk dX1_joinPiece_72 hS (Or.inr ⟨rfl, ho, hW⟩)
  · skip
    obtain rfl : zjo = true := c_1
    refine lv_aload_n (pc := 26) hx hb dX1_joinPiece_26 rfl (lv_at hl 4 rfl) ?_
    refine lv_iconst (pc := 27) (v := 3) hx hb dX1_joinPiece_27 (by decide) ?_
    refine k_X3_numberAt (pc := 28) (n := 3) cx hW (by first | assumption | omega) m_ml_X1_61 ⟨Nat.le_of_ble_eq_true rfl, Nat.le_of_ble_eq_true rfl⟩ hl.1 rfl (by simp [Value.category]) dX1_joinPiece_28 (by constructor <;> (simp only [rmA]; omega)) ?_
    refine lv_goto (pc := 31) (tgt := 35) hx hb dX1_joinPiece_31 (by decide) ?_
    refine lv_istore (pc := 35) (lv' := [(5, .int (znu 3)), (4, .int (znu 2)), (3, .int (znu 1)), (2, .int (znu 0)), (0, .ref (b 22)), (1, .ref (b 29))]) hx hb dX1_joinPiece_35 hl (by decide) rfl (fun ls hl => ?_)
    refine lv_aload_n (pc := 37) hx hb dX1_joinPiece_37 rfl (lv_at hl 5 rfl) ?_
    refine z_get (pc := 38) cx (hW.at 29 rfl) (C := RX3) (T := TX3) (N := 8) rfl i_X3 3 rfl m_fl_X1_81 rfl dX1_joinPiece_38 ?_
    refine z_ifeq (pc := 41) (tgt := 52) hx hb dX1_joinPiece_41 (by decide) (fun c => absurd c (by decide)) (fun _ => ?_)
    refine lv_aload_n (pc := 44) hx hb dX1_joinPiece_44 rfl (lv_at hl 5 rfl) ?_
    refine lv_iconst (pc := 45) (v := 4) hx hb dX1_joinPiece_45 (by decide) ?_
    refine k_X3_numberAt (pc := 46) (n := 4) cx hW (by first | assumption | omega) m_ml_X1_61 ⟨Nat.le_of_ble_eq_true rfl, Nat.le_of_ble_eq_true rfl⟩ hl.1 rfl (by simp [Value.category]) dX1_joinPiece_46 (by constructor <;> (simp only [rmA]; omega)) ?_
    refine lv_goto (pc := 49) (tgt := 53) hx hb dX1_joinPiece_49 (by decide) ?_
    refine lv_istore (pc := 53) (lv' := [(6, .int (znu 4)), (5, .int (znu 3)), (4, .int (znu 2)), (3, .int (znu 1)), (2, .int (znu 0)), (0, .ref (b 22)), (1, .ref (b 29))]) hx hb dX1_joinPiece_53 hl (by decide) rfl (fun ls hl => ?_)
    refine lv_aload_n (pc := 55) hx hb dX1_joinPiece_55 rfl (lv_at hl 5 rfl) ?_
    refine z_get (pc := 56) cx (hW.at 22 rfl) (C := RX1) (T := TX1) (N := 8) rfl i_X1 2 rfl m_fl_X1_47 rfl dX1_joinPiece_56 ?_
    refine lv_if_gt (pc := 59) (tgt := 71) hx hb dX1_joinPiece_59 (by decide) (fun c_11 => ?_) (fun c_11 => ?_)
    · skip
      have ho : cpO g znu (true) = false := cpO_f (fun ⟨o0, o1, o2, o3, o4, o5⟩ => nI_gt0 c_11 hyA (f2.trans o4))
      refine lv_iconst (pc := 71) (v := 0) hx hb dX1_joinPiece_71 (by decide) ?_
      refine W.widen (k := 1) (n := 5) (by omega) (by omega) ?_
      exact z_wzret (b := false) cx hr hlk dX1_joinPiece_72 hS (Or.inr ⟨rfl, ho, hW⟩)
    · skip
      have hA0 : yA = 0 := nn0 hyA (by omega) c_11
      refine lv_aload_n (pc := 62) hx hb dX1_joinPiece_62 rfl (lv_at hl 5 rfl) ?_
      refine z_get (pc := 63) cx (hW.at 22 rfl) (C := RX1) (T := TX1) (N := 8) rfl i_X1 0 rfl m_fl_X1_40 rfl dX1_joinPiece_63 ?_
      refine lv_bipush (pc := 66) (v := 10) hx hb dX1_joinPiece_66 (by decide) ?_
      refine lv_icmp_lt (pc := 68) (tgt := 73) hx hb dX1_joinPiece_68 (by decide) (fun c_12 => ?_) (fun c_12 => ?_)
      · skip
        have h68 := c_12
        have hP9 := gtn (a := nP g) (b := 10) hyN rfl (by omega) (by omega) h68
        refine lv_iload_n (pc := 73) hx hb dX1_joinPiece_73 rfl (lv_at hl 4 rfl) ?_
        refine lv_bipush (pc := 74) (v := 10) hx hb dX1_joinPiece_74 (by decide) ?_
        refine lv_sipush (pc := 76) (v := 600) hx hb dX1_joinPiece_76 (by decide) ?_
        refine kN_isWithin (pc := 79) (x := znu 0) (y := 10) (z := 600) cx cx.2.2.1 ⟨Nat.le_of_ble_eq_true rfl, Nat.le_of_ble_eq_true rfl⟩ hl.1 rfl (by simp [Value.category]) dX1_joinPiece_79 (by constructor <;> (simp only [rmA]; omega)) ?_
        refine z_ifeq (pc := 82) (tgt := 106) hx hb dX1_joinPiece_82 (by decide) (fun c_13 => ?_) (fun c_13 => ?_)
        · skip
          have ho : cpO g znu (true) = false := cpO_f (fun ⟨o0, o1, o2, o3, o4, o5⟩ => inL_no o0 rfl rfl c_13)
          refine lv_iconst (pc := 106) (v := 0) hx hb dX1_joinPiece_106 (by decide) ?_
          refine W.widen (k := 1) (n := 5) (by omega) (by omega) ?_
          exact z_wzret (b := false) cx hr hlk dX1_joinPiece_107 hS (Or.inr ⟨rfl, ho, hW⟩)
        · skip
          have h79 := c_13
          refine lv_iload_n (pc := 85) hx hb dX1_joinPiece_85 rfl (lv_at hl 3 rfl) ?_
          refine lv_iconst (pc := 86) (v := 1) hx hb dX1_joinPiece_86 (by decide) ?_
          refine lv_bipush (pc := 87) (v := 99) hx hb dX1_joinPiece_87 (by decide) ?_
          refine kN_isWithin (pc := 89) (x := znu 1) (y := 1) (z := 99) cx cx.2.2.1 ⟨Nat.le_of_ble_eq_true rfl, Nat.le_of_ble_eq_true rfl⟩ hl.1 rfl (by simp [Value.category]) dX1_joinPiece_89 (by constructor <;> (simp only [rmA]; omega)) ?_
          refine z_ifeq (pc := 92) (tgt := 106) hx hb dX1_joinPiece_92 (by decide) (fun c_14 => ?_) (fun c_14 => ?_)
          · skip
            have ho : cpO g znu (true) = false := cpO_f (fun ⟨o0, o1, o2, o3, o4, o5⟩ => inL_no o1 rfl rfl c_14)
            refine lv_iconst (pc := 106) (v := 0) hx hb dX1_joinPiece_106 (by decide) ?_
            refine W.widen (k := 1) (n := 5) (by omega) (by omega) ?_
            exact z_wzret (b := false) cx hr hlk dX1_joinPiece_107 hS (Or.inr ⟨rfl, ho, hW⟩)
          · skip
            have h89 := c_14
            refine lv_iload (pc := 95) hx hb dX1_joinPiece_95 (lv_at hl 2 rfl) ?_
            refine lv_iconst (pc := 97) (v := 1) hx hb dX1_joinPiece_97 (by decide) ?_
            refine lv_bipush (pc := 98) (v := 99) hx hb dX1_joinPiece_98 (by decide) ?_
            refine kN_isWithin (pc := 100) (x := znu 2) (y := 1) (z := 99) cx cx.2.2.1 ⟨Nat.le_of_ble_eq_true rfl, Nat.le_of_ble_eq_true rfl⟩ hl.1 rfl (by simp [Value.category]) dX1_joinPiece_100 (by constructor <;> (simp only [rmA]; omega)) ?_
            refine z_ifne (pc := 103) (tgt := 108) hx hb dX1_joinPiece_103 (by decide) (fun c_15 => ?_) (fun c_15 => ?_)
            · skip
              have h100 := c_15
              refine lv_iload (pc := 108) hx hb dX1_joinPiece_108 (lv_at hl 1 rfl) ?_
              refine lv_iconst (pc := 110) (v := (-1)) hx hb dX1_joinPiece_110 (by decide) ?_
              refine lv_icmp_eq (pc := 111) (tgt := 123) hx hb dX1_joinPiece_111 (by decide) (fun c_16 => ?_) (fun c_16 => ?_)
              · skip
                exact absurd c_16 (rg_ne1 (hN.2.2.2 rfl).1)
              · skip
                refine lv_aload_n (pc := 114) hx hb dX1_joinPiece_114 rfl (lv_at hl 5 rfl) ?_
                refine lv_iload (pc := 115) hx hb dX1_joinPiece_115 (lv_at hl 1 rfl) ?_
                refine k_X1_isPiece_t (pc := 117) (x := znu 3) cx hW  m_ml_X1_54 ⟨Nat.le_of_ble_eq_true rfl, Nat.le_of_ble_eq_true rfl⟩ hl.1 rfl (by simp [Value.category]) dX1_joinPiece_117 (by constructor <;> (simp only [rmA]; omega)) ?_
                refine z_ifeq (pc := 120) (tgt := 134) hx hb dX1_joinPiece_120 (by decide) (fun c_17 => ?_) (fun c_17 => ?_)
                · skip
                  have ho : cpO g znu (true) = false := cpO_f (fun ⟨o0, o1, o2, o3, o4, o5⟩ => absurd (isPt_i (y := yN) (hN.2.2.2 rfl).1 (by rw [f0]; exact (o5 rfl).1)) (by rw [c_17]; exact Bool.false_ne_true))
                  refine lv_iconst (pc := 134) (v := 0) hx hb dX1_joinPiece_134 (by decide) ?_
                  refine W.widen (k := 1) (n := 5) (by omega) (by omega) ?_
                  exact z_wzret (b := false) cx hr hlk dX1_joinPiece_135 hS (Or.inr ⟨rfl, ho, hW⟩)
                · skip
                  have hpt := c_17
                  refine lv_iload (pc := 123) hx hb dX1_joinPiece_123 (lv_at hl 0 rfl) ?_
                  refine lv_iconst (pc := 125) (v := 0) hx hb dX1_joinPiece_125 (by decide) ?_
                  refine lv_bipush (pc := 126) (v := 99) hx hb dX1_joinPiece_126 (by decide) ?_
                  refine kN_isWithin (pc := 128) (x := znu 4) (y := 0) (z := 99) cx cx.2.2.1 ⟨Nat.le_of_ble_eq_true rfl, Nat.le_of_ble_eq_true rfl⟩ hl.1 rfl (by simp [Value.category]) dX1_joinPiece_128 (by constructor <;> (simp only [rmA]; omega)) ?_
                  refine z_ifne (pc := 131) (tgt := 136) hx hb dX1_joinPiece_131 (by decide) (fun c_18 => ?_) (fun c_18 => ?_)
                  · skip
                    have h128 := c_18
                    refine lv_aload_n (pc := 136) hx hb dX1_joinPiece_136 rfl (lv_at hl 5 rfl) ?_
                    refine z_get (pc := 137) cx (hW.at 22 rfl) (C := RX1) (T := TX1) (N := 8) rfl i_X1 4 rfl m_fl_X1_20 rfl dX1_joinPiece_137 ?_
                    refine lv_aload_n (pc := 140) hx hb dX1_joinPiece_140 rfl (lv_at hl 5 rfl) ?_
                    refine z_get (pc := 141) cx (hW.at 22 rfl) (C := RX1) (T := TX1) (N := 8) rfl i_X1 0 rfl m_fl_X1_40 rfl dX1_joinPiece_141 ?_
                    refine z_tope (y := nI (nP g)) hyN ?_
                    refine z_new (pc := 144) (ci := 2) (C := RX2) (T := TX2) (N := 5) (fs := [.int 0, .int 0, .int 0, .int 0, .int 0]) (ty := tyX2) cx hW hS rfl i_X2 tyX2_ok m_cl_X1_18 m_is_RX2 m_in_RX2 (by intro j hj; (rcases j with _ | _ | _ | _ | _ | _ | j) <;> first | rfl | omega) (by constructor <;> (simp only [rmA]; omega)) dX1_joinPiece_144 (fun n144 H hNn144 hfn144 hW hS => ?_)
                    have hW : WW E (wK b E.2.1 (wT b E.2.1 xN xT xA xh xd xl xr xo xw xpp xtp xap xsg yN yT yA yh yd yl yr yo yw ypp ytp yap ysg zat zpl zlt true zfo zsz zby znu) pd qt qr tbu wst asw pN tN aN hd dr pl rm ps wx pp tp ap sg uh ud up ur us ux) (va_up G n144 (some (ceP 0 0 0 0 0))) H := hW
                    refine lv_dup (pc := 147) hx hb dX1_joinPiece_147 rfl ?_
                    refine lv_iload_n (pc := 148) hx hb dX1_joinPiece_148 rfl (lv_at hl 4 rfl) ?_
                    refine lv_iload_n (pc := 149) hx hb dX1_joinPiece_149 rfl (lv_at hl 3 rfl) ?_
                    refine lv_iload (pc := 150) hx hb dX1_joinPiece_150 (lv_at hl 2 rfl) ?_
                    refine lv_iload (pc := 152) hx hb dX1_joinPiece_152 (lv_at hl 1 rfl) ?_
                    refine lv_iload (pc := 154) hx hb dX1_joinPiece_154 (lv_at hl 0 rfl) ?_
                    refine k_X2_init (pc := 156) (q := n144) (v0 := znu 0) (v1 := znu 1) (v2 := znu 2) (v3 := znu 3) (v4 := znu 4) cx hW hS up_s (Or.inr (hN0 ▸ hNn144)) m_ml_X1_89 ⟨Nat.le_of_ble_eq_true rfl, Nat.le_of_ble_eq_true rfl⟩ hl.1 rfl (by simp [Value.category]) dX1_joinPiece_156 (by constructor <;> (simp only [rmA]; omega)) (fun H locs hW hS => ?_)
                    rw [up_up] at hW
                    have hGLn144 : GLe G (va_up G n144 (some (ceP (znu 0) (znu 1) (znu 2) (znu 3) (znu 4)))) := GLe.up hfn144
                    have hgn144 : (va_up G n144 (some (ceP (znu 0) (znu 1) (znu 2) (znu 3) (znu 4)))) n144 = some (ceP (znu 0) (znu 1) (znu 2) (znu 3) (znu 4)) := up_s
                    have hW : WW E (wK b E.2.1 (wT b E.2.1 xN xT xA xh xd xl xr xo xw xpp xtp xap xsg yN yT yA yh yd yl yr yo yw ypp ytp yap ysg zat zpl zlt true zfo zsz zby znu) pd qt qr tbu wst asw pN tN aN hd dr pl rm ps wx pp tp ap sg uh ud up ur us ux) (va_up G n144 (some (ceP (znu 0) (znu 1) (znu 2) (znu 3) (znu 4)))) H := hW
                    refine z_aast (pc := 159) (f := ypp) (j := nP g) cx hW hS 25 1 2 rfl rfl (hW.dyn hgn144) rfl (hFb 25) rfl (by omega) (by decide) dX1_joinPiece_159 (fun H locs hW hS => ?_)
                    have hW : WW E (wK b E.2.1 (wT b E.2.1 xN xT xA xh xd xl xr xo xw xpp xtp xap xsg yN yT yA yh yd yl yr yo yw (va_up ypp (nP g) (some n144)) ytp yap ysg zat zpl zlt true zfo zsz zby znu) pd qt qr tbu wst asw pN tN aN hd dr pl rm ps wx pp tp ap sg uh ud up ur us ux) (va_up G n144 (some (ceP (znu 0) (znu 1) (znu 2) (znu 3) (znu 4)))) H := hW
                    refine lv_aload_n (pc := 160) hx hb dX1_joinPiece_160 rfl (lv_at hl 5 rfl) ?_
                    refine z_get (pc := 161) cx (hW.at 22 rfl) (C := RX1) (T := TX1) (N := 8) rfl i_X1 3 rfl m_fl_X1_12 rfl dX1_joinPiece_161 ?_
                    refine lv_aload_n (pc := 164) hx hb dX1_joinPiece_164 rfl (lv_at hl 5 rfl) ?_
                    refine z_get (pc := 165) cx (hW.at 22 rfl) (C := RX1) (T := TX1) (N := 8) rfl i_X1 0 rfl m_fl_X1_40 rfl dX1_joinPiece_165 ?_
                    refine z_tope (y := nI (nP g)) hyN ?_
                    refine lv_iconst (pc := 168) (v := 0) hx hb dX1_joinPiece_168 (by decide) ?_
                    refine k_X5_layWax_t (pc := 169) (n := nP g) (x := 0) cx hW hS (fun _ h => Or.inl h) (by first | assumption | omega) m_ml_X1_92 ⟨Nat.le_of_ble_eq_true rfl, Nat.le_of_ble_eq_true rfl⟩ hl.1 rfl (by simp [Value.category]) dX1_joinPiece_169 (by constructor <;> (simp only [rmA]; omega)) (fun  H locs  hW hS => ?_)
                    have hW : WW E (wK b E.2.1 (wT b E.2.1 xN xT xA xh xd xl xr xo xw xpp xtp xap xsg yN yT yA yh yd yl yr yo (upd yw (nP g) 0) (va_up ypp (nP g) (some n144)) ytp yap ysg zat zpl zlt true zfo zsz zby znu) pd qt qr tbu wst asw pN tN aN hd dr pl rm ps wx pp tp ap sg uh ud up ur us ux) (va_up G n144 (some (ceP (znu 0) (znu 1) (znu 2) (znu 3) (znu 4)))) H := hW
                    refine lv_aload_n (pc := 172) hx hb dX1_joinPiece_172 rfl (lv_at hl 5 rfl) ?_
                    refine lv_dup (pc := 173) hx hb dX1_joinPiece_173 rfl ?_
                    refine z_get (pc := 174) cx (hW.at 22 rfl) (C := RX1) (T := TX1) (N := 8) rfl i_X1 0 rfl m_fl_X1_40 rfl dX1_joinPiece_174 ?_
                    refine z_tope (y := nI (nP g)) hyN ?_
                    refine lv_iconst (pc := 177) (v := 1) hx hb dX1_joinPiece_177 (by decide) ?_
                    refine lv_iadd (pc := 178) hx hb dX1_joinPiece_178 ?_
                    refine z_tope (y := nI (nP g + 1)) (nI_1 _) ?_
                    refine z_putK1 (pc := 179) cx hW hS 22 rfl (hFb 22) 0 rfl m_fl_X1_40 rfl rfl dX1_joinPiece_179 (fun H locs hW hS => ?_)
                    have hW : WW E (wK b E.2.1 (wT b E.2.1 xN xT xA xh xd xl xr xo xw xpp xtp xap xsg (nI (nP g + 1)) yT yA yh yd yl yr yo (upd yw (nP g) 0) (va_up ypp (nP g) (some n144)) ytp yap ysg zat zpl zlt true zfo zsz zby znu) pd qt qr tbu wst asw pN tN aN hd dr pl rm ps wx pp tp ap sg uh ud up ur us ux) (va_up G n144 (some (ceP (znu 0) (znu 1) (znu 2) (znu 3) (znu 4)))) H := hW
                    refine lv_iconst (pc := 182) (v := 1) hx hb dX1_joinPiece_182 (by decide) ?_
                    refine W.widen (k := 1) (n := 5) (by omega) (by omega) ?_
                    exact z_wzret (b := true) cx hr hlk dX1_joinPiece_183 hS (Or.inl ⟨n144, _, rfl, (cpO_i h79 h89 h100 (by rw [← f0]; exact h68) (by rw [← f2]; exact hA0) (fun _ => ⟨(by rw [← f0]; exact isPt_t hpt), le_99 h128⟩)), hGLn144, (by rw [hgn144]; rfl), (FrG.up (by rw [← hN0]; exact hNn144)), (by exact hW)⟩)
                  · skip
                    have ho : cpO g znu (true) = false := cpO_f (fun ⟨o0, o1, o2, o3, o4, o5⟩ => inL_no (rg_99 (hN.2.2.2 rfl).2 (o5 rfl).2) rfl rfl c_18)
                    refine lv_iconst (pc := 134) (v := 0) hx hb dX1_joinPiece_134 (by decide) ?_
                    refine W.widen (k := 1) (n := 5) (by omega) (by omega) ?_
                    exact z_wzret (b := false) cx hr hlk dX1_joinPiece_135 hS (Or.inr ⟨rfl, ho, hW⟩)
            · skip
              have ho : cpO g znu (true) = false := cpO_f (fun ⟨o0, o1, o2, o3, o4, o5⟩ => inL_no o2 rfl rfl c_15)
              refine lv_iconst (pc := 106) (v := 0) hx hb dX1_joinPiece_106 (by decide) ?_
              refine W.widen (k := 1) (n := 5) (by omega) (by omega) ?_
              exact z_wzret (b := false) cx hr hlk dX1_joinPiece_107 hS (Or.inr ⟨rfl, ho, hW⟩)
      · skip
        have ho : cpO g znu (true) = false := cpO_f (fun ⟨o0, o1, o2, o3, o4, o5⟩ => c_12 (by rw [f0]; exact o3))
        refine lv_iconst (pc := 71) (v := 0) hx hb dX1_joinPiece_71 (by decide) ?_
        refine W.widen (k := 1) (n := 5) (by omega) (by omega) ?_
        exact z_wzret (b := false) cx hr hlk dX1_joinPiece_72 hS (Or.inr ⟨rfl, ho, hW⟩)
theorem k_X1_joinPiece {p : Program} {l : Launch} {e : Env} {R : Room} {s : State} {m : MethodId} {args : Array Value} {below : List Frame} {meth : Method} {c : Code} {H H0 : Heap} {locs : List Loc} {cells slots : Nat} {Q : State → Prop} {cc : ByteArray} {pc index : Nat} {ls : Array Slot} {rest st0 : List Value} {E : zE} {own : String} {nL : Nat} {F : Nat → Prop} {b : Nat → Nat} {pd : Bool} {qt : Nat → Option Nat} {qr : Nat → Option Nat} {tbu : Nat → Int32} {wst : Nat → Int32} {asw : Nat → Int32} {pN : Int32} {tN : Int32} {aN : Int32} {hd : Int32} {dr : Int32} {pl : Int32} {rm : Int32} {ps : Int32} {wx : Nat → Int32} {pp : Nat → Option Nat} {tp : Nat → Option Nat} {ap : Nat → Option Nat} {sg : Nat → Int32} {uh : Int32} {ud : Int32} {up : Int32} {ur : Int32} {us : Int32} {ux : Nat → Int32} {xN : Int32} {xT : Int32} {xA : Int32} {xh : Int32} {xd : Int32} {xl : Int32} {xr : Int32} {xo : Int32} {xw : Nat → Int32} {xpp : Nat → Option Nat} {xtp : Nat → Option Nat} {xap : Nat → Option Nat} {xsg : Nat → Int32} {yN : Int32} {yT : Int32} {yA : Int32} {yh : Int32} {yd : Int32} {yl : Int32} {yr : Int32} {yo : Int32} {yw : Nat → Int32} {ypp : Nat → Option Nat} {ytp : Nat → Option Nat} {yap : Nat → Option Nat} {ysg : Nat → Int32} {zat : Int32} {zpl : Int32} {zlt : Int32} {zjo : Bool} {zfo : Int32} {zsz : Int32} {zby : Nat → Int32} {znu : Nat → Int32} {G : zG} {N : Nat} {g : Nat → Int32} (cx : Cx E p s args m c own cc nL) (hW : WW E (wK b E.2.1 (wT b E.2.1 xN xT xA xh xd xl xr xo xw xpp xtp xap xsg yN yT yA yh yd yl yr yo yw ypp ytp yap ysg zat zpl zlt zjo zfo zsz zby znu) pd qt qr tbu wst asw pN tN aN hd dr pl rm ps wx pp tp ap sg uh ud up ur us ux) G H) (hN0 : H.size = N) (hS : va_S F H0 H locs) (zF : ∀ q, (bFz b N) q → F q) (hG : CG E.2.1 G g yN yT yA yw ypp ytp yap) (hN : (rg (znu 0) 0 999 ∧ rg (znu 1) 0 999 ∧ rg (znu 2) 0 999 ∧ (zjo = true → rg (znu 3) 0 9 ∧ rg (znu 4) 0 999))) (zl : Cond.methodLink own index yX1_joinPiece ∈ AllW) (zR : 2 + 1 ≤ R.frames ∧ 8 + (7 + 11) + 66 ≤ R.locals) (zs : ls.size = nL) (zt : st0 = ([.ref (b 29)] : List Value).reverse ++ .ref (b 22) :: rest) (z8 : (rest.map fun v => v.category).sum ≤ 8) (zd : decode cc pc = .ok (.invokevirtual index, 3)) (zf : cells + 1 ≤ R.cells ∧ slots + 5 ≤ R.slots) (kk0 : ∀ (q9 : Nat) (G2 : zG) (H1 : Heap) (locs1 : List Loc), (cpO g znu zjo = true) → (GLe G G2) → (G2 q9 = some (ceP (znu 0) (znu 1) (znu 2) (if zjo = true then znu 3 else -1) (if zjo = true then znu 4 else 0))) → (FrG G G2 N) → WW E (wK b E.2.1 (wT b E.2.1 xN xT xA xh xd xl xr xo xw xpp xtp xap xsg (nI (nP g + 1)) yT yA yh yd yl yr yo (upd yw (nP g) 0) (va_up ypp (nP g) (some q9)) ytp yap ysg zat zpl zlt zjo zfo zsz zby znu) pd qt qr tbu wst asw pN tN aN hd dr pl rm ps wx pp tp ap sg uh ud up ur us ux) G2 H1 → va_S F H0 H1 locs1 → W p l e R s m args below meth c H1 locs1 (cells + 1) (slots + 5) Q (F0 m (pc + 3) ls (.int 1 :: rest))) (kk1 : ∀  (H1 : Heap) (locs1 : List Loc), (cpO g znu zjo = false) → WW E (wK b E.2.1 (wT b E.2.1 xN xT xA xh xd xl xr xo xw xpp xtp xap xsg yN yT yA yh yd yl yr yo yw ypp ytp yap ysg zat zpl zlt zjo zfo zsz zby znu) pd qt qr tbu wst asw pN tN aN hd dr pl rm ps wx pp tp ap sg uh ud up ur us ux) G H1 → va_S F H0 H1 locs1 → W p l e R s m args below meth c H1 locs1 (cells + 1) (slots + 5) Q (F0 m (pc + 3) ls (.int 0 :: rest))) : W p l e R s m args below meth c H locs cells slots Q (F0 m pc ls st0) := by
  refine z_callVw cx vm_X1_joinPiece (c_X1_joinPiece l E b pd qt qr tbu wst asw pN tN aN hd dr pl rm ps wx pp tp ap sg uh ud up ur us ux xN xT xA xh xd xl xr xo xw xpp xtp xap xsg yN yT yA yh yd yl yr yo yw ypp ytp yap ysg zat zpl zlt zjo zfo zsz zby znu G N g hG hN) (z_rec cx.2 (hW.at 22 rfl) rfl) ⟨hW, hN0⟩ hS zF zl ⟨rfl, rfl⟩ zR rfl zs zt z8 zd zf (fun v H1 locs1 hq hS1 _ => ?_)
  rcases hq with ⟨q9, G2, rfl, ho, hGL, hq9, hng, hW1⟩ | ⟨rfl, ho, hW1⟩
  · exact kk0 q9 G2 H1 locs1 ho hGL hq9 hng hW1 hS1
  · exact kk1  H1 locs1 ho hW1 hS1
theorem vm_X1_hangThing : zVm yX1_hangThing cX1_hangThing 7 (some FieldType.boolean) 1 := ⟨m_co_X1_hangThing, m_in_RX1, ⟨m_im_X1_hangThing, m_se_X1_X1_hangThing⟩, by decide +kernel, by decide +kernel, by decide +kernel⟩
set_option maxHeartbeats 1000000 in
set_option maxRecDepth 100000 in
theorem c_X1_hangThing (l : Launch) (E : zE) (b : Nat → Nat) (pd : Bool) (qt : Nat → Option Nat) (qr : Nat → Option Nat) (tbu : Nat → Int32) (wst : Nat → Int32) (asw : Nat → Int32) (pN : Int32) (tN : Int32) (aN : Int32) (hd : Int32) (dr : Int32) (pl : Int32) (rm : Int32) (ps : Int32) (wx : Nat → Int32) (pp : Nat → Option Nat) (tp : Nat → Option Nat) (ap : Nat → Option Nat) (sg : Nat → Int32) (uh : Int32) (ud : Int32) (up : Int32) (ur : Int32) (us : Int32) (ux : Nat → Int32) (xN : Int32) (xT : Int32) (xA : Int32) (xh : Int32) (xd : Int32) (xl : Int32) (xr : Int32) (xo : Int32) (xw : Nat → Int32) (xpp : Nat → Option Nat) (xtp : Nat → Option Nat) (xap : Nat → Option Nat) (xsg : Nat → Int32) (yN : Int32) (yT : Int32) (yA : Int32) (yh : Int32) (yd : Int32) (yl : Int32) (yr : Int32) (yo : Int32) (yw : Nat → Int32) (ypp : Nat → Option Nat) (ytp : Nat → Option Nat) (yap : Nat → Option Nat) (ysg : Nat → Int32) (zat : Int32) (zpl : Int32) (zlt : Int32) (zjo : Bool) (zfo : Int32) (zsz : Int32) (zby : Nat → Int32) (znu : Nat → Int32) (G : zG) (N : Nat) (g : Nat → Int32) (hG : CG E.2.1 G g yN yT yA yw ypp ytp yap) (hN : (rg (znu 0) 0 9 ∧ rg (znu 1) 0 9 ∧ rg (znu 2) 0 999 ∧ rg (znu 3) 0 9 ∧ rg (znu 4) 0 999)) : Met l yX1_hangThing (.code yX1_hangThing cX1_hangThing 7 (some FieldType.boolean) :: AllW) (rmA 2 66 1 6) (zP E (fun H => WW E (wK b E.2.1 (wT b E.2.1 xN xT xA xh xd xl xr xo xw xpp xtp xap xsg yN yT yA yh yd yl yr yo yw ypp ytp yap ysg zat zpl zlt zjo zfo zsz zby znu) pd qt qr tbu wst asw pN tN aN hd dr pl rm ps wx pp tp ap sg uh ud up ur us ux) G H ∧ H.size = N) [.ref (b 22), .ref (b 29)]) (zQ (fun (_ : Heap) (v : Option Value) (H1 : Heap) => (∃ (q9 : Nat) (G2 : zG), v = some (.int (bI true)) ∧ (ctO g znu = true) ∧ (GLe G G2) ∧ (G2 q9 = some (ceT (nI (nT g)) (znu 0) (znu 1) (znu 2) (znu 3) (znu 4))) ∧ (FrG G G2 N) ∧ WW E (wK b E.2.1 (wT b E.2.1 xN xT xA xh xd xl xr xo xw xpp xtp xap xsg yN (nI (nT g + 1)) yA yh yd yl yr yo yw ypp (va_up ytp (nT g) (some q9)) yap ysg zat zpl zlt zjo zfo zsz zby znu) pd qt qr tbu wst asw pN tN aN hd dr pl rm ps wx pp tp ap sg uh ud up ur us ux) G2 H1) ∨ (v = some (.int (bI false)) ∧ (ctO g znu = false) ∧ WW E (wK b E.2.1 (wT b E.2.1 xN xT xA xh xd xl xr xo xw xpp xtp xap xsg yN yT yA yh yd yl yr yo yw ypp ytp yap ysg zat zpl zlt zjo zfo zsz zby znu) pd qt qr tbu wst asw pN tN aN hd dr pl rm ps wx pp tp ap sg uh ud up ur us ux) G H1)) (bFz b N)) 1 6 (bFz b N) := by
  refine z_body (own := RX1) (by decide) rfl rfl ?_
  intro p e s m args below meth c ls cx hr hlk hnm hW hl
  have hx := cx.x
  have hb := cx.b
  have hl : lv_has ls 7 [(0, .ref (b 22)), (1, .ref (b 29))] := hl
  obtain ⟨hW, hN0⟩ := hW
  have hFb : ∀ k, (bFz b N) (b k) := fun k => Or.inl (bF_in b k)
  have hS : va_S (bFz b N) s.heap s.heap [] := va_S.rf
  have hG0 := hG
  obtain ⟨hI, hyN, hyT, hyA, hPc, hTh, hAk, hwx⟩ := hG
  have hC := hI.1
  have hIS := hI.2.1
  have hP := hI.2.2.1
  have hT := hI.2.2.2.1
  have hP10 := (Inv.n0 hC).2
  have hT7 := (Inv.n1 hC).2
  have hA24 := (Inv.n2 hC).2
  have e0 := (Inv.n0 hC).1
  have e1 := (Inv.n1 hC).1
  have e2 := (Inv.n2 hC).1
  have f0 : yN = g 0 := hyN.trans e0.symm
  have f1 : yT = g 1 := hyT.trans e1.symm
  have f2 : yA = g 2 := hyA.trans e2.symm
  refine lv_aload_n (pc := 0) hx hb dX1_hangThing_0 rfl (lv_at hl 1 rfl) ?_
  refine lv_iconst (pc := 1) (v := 0) hx hb dX1_hangThing_1 (by decide) ?_
  refine k_X3_numberAt (pc := 2) (n := 0) cx hW (by first | assumption | omega) m_ml_X1_61 ⟨Nat.le_of_ble_eq_true rfl, Nat.le_of_ble_eq_true rfl⟩ hl.1 rfl (by simp [Value.category]) dX1_hangThing_2 (by constructor <;> (simp only [rmA]; omega)) ?_
  refine lv_istore_n (pc := 5) (lv' := [(2, .int (znu 0)), (0, .ref (b 22)), (1, .ref (b 29))]) hx hb dX1_hangThing_5 rfl hl (by decide) rfl (fun ls hl => ?_)
  refine lv_aload_n (pc := 6) hx hb dX1_hangThing_6 rfl (lv_at hl 2 rfl) ?_
  refine lv_iconst (pc := 7) (v := 1) hx hb dX1_hangThing_7 (by decide) ?_
  refine k_X3_numberAt (pc := 8) (n := 1) cx hW (by first | assumption | omega) m_ml_X1_61 ⟨Nat.le_of_ble_eq_true rfl, Nat.le_of_ble_eq_true rfl⟩ hl.1 rfl (by simp [Value.category]) dX1_hangThing_8 (by constructor <;> (simp only [rmA]; omega)) ?_
  refine lv_istore_n (pc := 11) (lv' := [(3, .int (znu 1)), (2, .int (znu 0)), (0, .ref (b 22)), (1, .ref (b 29))]) hx hb dX1_hangThing_11 rfl hl (by decide) rfl (fun ls hl => ?_)
  refine lv_aload_n (pc := 12) hx hb dX1_hangThing_12 rfl (lv_at hl 3 rfl) ?_
  refine lv_iconst (pc := 13) (v := 2) hx hb dX1_hangThing_13 (by decide) ?_
  refine k_X3_numberAt (pc := 14) (n := 2) cx hW (by first | assumption | omega) m_ml_X1_61 ⟨Nat.le_of_ble_eq_true rfl, Nat.le_of_ble_eq_true rfl⟩ hl.1 rfl (by simp [Value.category]) dX1_hangThing_14 (by constructor <;> (simp only [rmA]; omega)) ?_
  refine lv_istore (pc := 17) (lv' := [(4, .int (znu 2)), (3, .int (znu 1)), (2, .int (znu 0)), (0, .ref (b 22)), (1, .ref (b 29))]) hx hb dX1_hangThing_17 hl (by decide) rfl (fun ls hl => ?_)
  refine lv_aload_n (pc := 19) hx hb dX1_hangThing_19 rfl (lv_at hl 4 rfl) ?_
  refine lv_iconst (pc := 20) (v := 3) hx hb dX1_hangThing_20 (by decide) ?_
  refine k_X3_numberAt (pc := 21) (n := 3) cx hW (by first | assumption | omega) m_ml_X1_61 ⟨Nat.le_of_ble_eq_true rfl, Nat.le_of_ble_eq_true rfl⟩ hl.1 rfl (by simp [Value.category]) dX1_hangThing_21 (by constructor <;> (simp only [rmA]; omega)) ?_
  refine lv_istore (pc := 24) (lv' := [(5, .int (znu 3)), (4, .int (znu 2)), (3, .int (znu 1)), (2, .int (znu 0)), (0, .ref (b 22)), (1, .ref (b 29))]) hx hb dX1_hangThing_24 hl (by decide) rfl (fun ls hl => ?_)
  refine lv_aload_n (pc := 26) hx hb dX1_hangThing_26 rfl (lv_at hl 5 rfl) ?_
  refine lv_iconst (pc := 27) (v := 4) hx hb dX1_hangThing_27 (by decide) ?_
  refine k_X3_numberAt (pc := 28) (n := 4) cx hW (by first | assumption | omega) m_ml_X1_61 ⟨Nat.le_of_ble_eq_true rfl, Nat.le_of_ble_eq_true rfl⟩ hl.1 rfl (by simp [Value.category]) dX1_hangThing_28 (by constructor <;> (simp only [rmA]; omega)) ?_
  refine lv_istore (pc := 31) (lv' := [(6, .int (znu 4)), (5, .int (znu 3)), (4, .int (znu 2)), (3, .int (znu 1)), (2, .int (znu 0)), (0, .ref (b 22)), (1, .ref (b 29))]) hx hb dX1_hangThing_31 hl (by decide) rfl (fun ls hl => ?_)
  refine lv_aload_n (pc := 33) hx hb dX1_hangThing_33 rfl (lv_at hl 5 rfl) ?_
  refine z_get (pc := 34) cx (hW.at 22 rfl) (C := RX1) (T := TX1) (N := 8) rfl i_X1 2 rfl m_fl_X1_47 rfl dX1_hangThing_34 ?_
  refine lv_if_gt (pc := 37) (tgt := 49) hx hb dX1_hangThing_37 (by decide) (fun c_1 => ?_) (fun c_1 => ?_)
  · skip
    have ho : ctO g znu = false := ctO_f (fun ⟨o0, o1, o2, o3, o4, o5⟩ => nI_gt0 c_1 hyA (f2.trans o5))
    refine lv_iconst (pc := 49) (v := 0) hx hb dX1_hangThing_49 (by decide) ?_
    refine W.widen (k := 1) (n := 6) (by omega) (by omega) ?_
    exact z_wzret (b := false) cx hr hlk dX1_hangThing_50 hS (Or.inr ⟨rfl, ho, hW⟩)
  · skip
    have hA0 : yA = 0 := nn0 hyA (by omega) c_1
    refine lv_aload_n (pc := 40) hx hb dX1_hangThing_40 rfl (lv_at hl 5 rfl) ?_
    refine z_get (pc := 41) cx (hW.at 22 rfl) (C := RX1) (T := TX1) (N := 8) rfl i_X1 1 rfl m_fl_X1_44 rfl dX1_hangThing_41 ?_
    refine lv_bipush (pc := 44) (v := 7) hx hb dX1_hangThing_44 (by decide) ?_
    refine lv_icmp_lt (pc := 46) (tgt := 51) hx hb dX1_hangThing_46 (by decide) (fun c_2 => ?_) (fun c_2 => ?_)
    · skip
      have h46 := c_2
      have hT9 := gtn (a := nT g) (b := 7) hyT rfl (by omega) (by omega) h46
      refine lv_iload_n (pc := 51) hx hb dX1_hangThing_51 rfl (lv_at hl 4 rfl) ?_
      refine lv_iconst (pc := 52) (v := 0) hx hb dX1_hangThing_52 (by decide) ?_
      refine lv_bipush (pc := 53) (v := 7) hx hb dX1_hangThing_53 (by decide) ?_
      refine kN_isWithin (pc := 55) (x := znu 0) (y := 0) (z := 7) cx cx.2.2.1 ⟨Nat.le_of_ble_eq_true rfl, Nat.le_of_ble_eq_true rfl⟩ hl.1 rfl (by simp [Value.category]) dX1_hangThing_55 (by constructor <;> (simp only [rmA]; omega)) ?_
      refine z_ifeq (pc := 58) (tgt := 69) hx hb dX1_hangThing_58 (by decide) (fun c_3 => ?_) (fun c_3 => ?_)
      · skip
        have ho : ctO g znu = false := ctO_f (fun ⟨o0, o1, o2, o3, o4, o5⟩ => inL_no (rg_7 hN.1 o0) rfl rfl c_3)
        refine lv_iconst (pc := 69) (v := 0) hx hb dX1_hangThing_69 (by decide) ?_
        refine W.widen (k := 1) (n := 6) (by omega) (by omega) ?_
        exact z_wzret (b := false) cx hr hlk dX1_hangThing_70 hS (Or.inr ⟨rfl, ho, hW⟩)
      · skip
        have h58 := c_3
        refine lv_aload_n (pc := 61) hx hb dX1_hangThing_61 rfl (lv_at hl 5 rfl) ?_
        refine lv_iload_n (pc := 62) hx hb dX1_hangThing_62 rfl (lv_at hl 3 rfl) ?_
        refine k_X1_isPiece_t (pc := 63) (x := znu 1) cx hW  m_ml_X1_54 ⟨Nat.le_of_ble_eq_true rfl, Nat.le_of_ble_eq_true rfl⟩ hl.1 rfl (by simp [Value.category]) dX1_hangThing_63 (by constructor <;> (simp only [rmA]; omega)) ?_
        refine z_ifne (pc := 66) (tgt := 71) hx hb dX1_hangThing_66 (by decide) (fun c_4 => ?_) (fun c_4 => ?_)
        · skip
          have hpt := c_4
          refine lv_iload (pc := 71) hx hb dX1_hangThing_71 (lv_at hl 2 rfl) ?_
          refine lv_iconst (pc := 73) (v := 1) hx hb dX1_hangThing_73 (by decide) ?_
          refine lv_sipush (pc := 74) (v := 999) hx hb dX1_hangThing_74 (by decide) ?_
          refine kN_isWithin (pc := 77) (x := znu 2) (y := 1) (z := 999) cx cx.2.2.1 ⟨Nat.le_of_ble_eq_true rfl, Nat.le_of_ble_eq_true rfl⟩ hl.1 rfl (by simp [Value.category]) dX1_hangThing_77 (by constructor <;> (simp only [rmA]; omega)) ?_
          refine z_ifeq (pc := 80) (tgt := 94) hx hb dX1_hangThing_80 (by decide) (fun c_5 => ?_) (fun c_5 => ?_)
          · skip
            have ho : ctO g znu = false := ctO_f (fun ⟨o0, o1, o2, o3, o4, o5⟩ => inL_no (rg_1 hN.2.2.1 o2) rfl rfl c_5)
            refine lv_iconst (pc := 94) (v := 0) hx hb dX1_hangThing_94 (by decide) ?_
            refine W.widen (k := 1) (n := 6) (by omega) (by omega) ?_
            exact z_wzret (b := false) cx hr hlk dX1_hangThing_95 hS (Or.inr ⟨rfl, ho, hW⟩)
          · skip
            have h80 := c_5
            refine lv_iload (pc := 83) hx hb dX1_hangThing_83 (lv_at hl 0 rfl) ?_
            refine lv_iconst (pc := 85) (v := 1) hx hb dX1_hangThing_85 (by decide) ?_
            refine lv_bipush (pc := 86) (v := 99) hx hb dX1_hangThing_86 (by decide) ?_
            refine kN_isWithin (pc := 88) (x := znu 4) (y := 1) (z := 99) cx cx.2.2.1 ⟨Nat.le_of_ble_eq_true rfl, Nat.le_of_ble_eq_true rfl⟩ hl.1 rfl (by simp [Value.category]) dX1_hangThing_88 (by constructor <;> (simp only [rmA]; omega)) ?_
            refine z_ifne (pc := 91) (tgt := 96) hx hb dX1_hangThing_91 (by decide) (fun c_6 => ?_) (fun c_6 => ?_)
            · skip
              have h91 := c_6
              refine lv_aload_n (pc := 96) hx hb dX1_hangThing_96 rfl (lv_at hl 5 rfl) ?_
              refine z_get (pc := 97) cx (hW.at 22 rfl) (C := RX1) (T := TX1) (N := 8) rfl i_X1 5 rfl m_fl_X1_26 rfl dX1_hangThing_97 ?_
              refine lv_aload_n (pc := 100) hx hb dX1_hangThing_100 rfl (lv_at hl 5 rfl) ?_
              refine z_get (pc := 101) cx (hW.at 22 rfl) (C := RX1) (T := TX1) (N := 8) rfl i_X1 1 rfl m_fl_X1_44 rfl dX1_hangThing_101 ?_
              refine z_tope (y := nI (nT g)) hyT ?_
              refine z_new (pc := 104) (ci := 6) (C := RX6) (T := TX6) (N := 6) (fs := [.int 0, .int 0, .int 0, .int 0, .int 0, .int 0]) (ty := tyX6) cx hW hS rfl i_X6 tyX6_ok m_cl_X1_24 m_is_RX6 m_in_RX6 (by intro j hj; (rcases j with _ | _ | _ | _ | _ | _ | j) <;> first | rfl | omega) (by constructor <;> (simp only [rmA]; omega)) dX1_hangThing_104 (fun n104 H hNn104 hfn104 hW hS => ?_)
              have hW : WW E (wK b E.2.1 (wT b E.2.1 xN xT xA xh xd xl xr xo xw xpp xtp xap xsg yN yT yA yh yd yl yr yo yw ypp ytp yap ysg zat zpl zlt zjo zfo zsz zby znu) pd qt qr tbu wst asw pN tN aN hd dr pl rm ps wx pp tp ap sg uh ud up ur us ux) (va_up G n104 (some (ceT 0 0 0 0 0 0))) H := hW
              refine lv_dup (pc := 107) hx hb dX1_hangThing_107 rfl ?_
              refine lv_aload_n (pc := 108) hx hb dX1_hangThing_108 rfl (lv_at hl 5 rfl) ?_
              refine z_get (pc := 109) cx (hW.at 22 rfl) (C := RX1) (T := TX1) (N := 8) rfl i_X1 1 rfl m_fl_X1_44 rfl dX1_hangThing_109 ?_
              refine z_tope (y := nI (nT g)) hyT ?_
              refine lv_iload_n (pc := 112) hx hb dX1_hangThing_112 rfl (lv_at hl 4 rfl) ?_
              refine lv_iload_n (pc := 113) hx hb dX1_hangThing_113 rfl (lv_at hl 3 rfl) ?_
              refine lv_iload (pc := 114) hx hb dX1_hangThing_114 (lv_at hl 2 rfl) ?_
              refine lv_iload (pc := 116) hx hb dX1_hangThing_116 (lv_at hl 1 rfl) ?_
              refine lv_iload (pc := 118) hx hb dX1_hangThing_118 (lv_at hl 0 rfl) ?_
              refine k_X6_init (pc := 120) (q := n104) (v0 := nI (nT g)) (v1 := znu 0) (v2 := znu 1) (v3 := znu 2) (v4 := znu 3) (v5 := znu 4) cx hW hS up_s (Or.inr (hN0 ▸ hNn104)) m_ml_X1_96 ⟨Nat.le_of_ble_eq_true rfl, Nat.le_of_ble_eq_true rfl⟩ hl.1 rfl (by simp [Value.category]) dX1_hangThing_120 (by constructor <;> (simp only [rmA]; omega)) (fun H locs hW hS => ?_)
              rw [up_up] at hW
              have hGLn104 : GLe G (va_up G n104 (some (ceT (nI (nT g)) (znu 0) (znu 1) (znu 2) (znu 3) (znu 4)))) := GLe.up hfn104
              have hgn104 : (va_up G n104 (some (ceT (nI (nT g)) (znu 0) (znu 1) (znu 2) (znu 3) (znu 4)))) n104 = some (ceT (nI (nT g)) (znu 0) (znu 1) (znu 2) (znu 3) (znu 4)) := up_s
              have hW : WW E (wK b E.2.1 (wT b E.2.1 xN xT xA xh xd xl xr xo xw xpp xtp xap xsg yN yT yA yh yd yl yr yo yw ypp ytp yap ysg zat zpl zlt zjo zfo zsz zby znu) pd qt qr tbu wst asw pN tN aN hd dr pl rm ps wx pp tp ap sg uh ud up ur us ux) (va_up G n104 (some (ceT (nI (nT g)) (znu 0) (znu 1) (znu 2) (znu 3) (znu 4)))) H := hW
              refine z_aast (pc := 123) (f := ytp) (j := nT g) cx hW hS 26 2 6 rfl rfl (hW.dyn hgn104) rfl (hFb 26) rfl (by omega) (by decide) dX1_hangThing_123 (fun H locs hW hS => ?_)
              have hW : WW E (wK b E.2.1 (wT b E.2.1 xN xT xA xh xd xl xr xo xw xpp xtp xap xsg yN yT yA yh yd yl yr yo yw ypp (va_up ytp (nT g) (some n104)) yap ysg zat zpl zlt zjo zfo zsz zby znu) pd qt qr tbu wst asw pN tN aN hd dr pl rm ps wx pp tp ap sg uh ud up ur us ux) (va_up G n104 (some (ceT (nI (nT g)) (znu 0) (znu 1) (znu 2) (znu 3) (znu 4)))) H := hW
              refine lv_aload_n (pc := 124) hx hb dX1_hangThing_124 rfl (lv_at hl 5 rfl) ?_
              refine lv_dup (pc := 125) hx hb dX1_hangThing_125 rfl ?_
              refine z_get (pc := 126) cx (hW.at 22 rfl) (C := RX1) (T := TX1) (N := 8) rfl i_X1 1 rfl m_fl_X1_44 rfl dX1_hangThing_126 ?_
              refine z_tope (y := nI (nT g)) hyT ?_
              refine lv_iconst (pc := 129) (v := 1) hx hb dX1_hangThing_129 (by decide) ?_
              refine lv_iadd (pc := 130) hx hb dX1_hangThing_130 ?_
              refine z_tope (y := nI (nT g + 1)) (nI_1 _) ?_
              refine z_putK1 (pc := 131) cx hW hS 22 rfl (hFb 22) 1 rfl m_fl_X1_44 rfl rfl dX1_hangThing_131 (fun H locs hW hS => ?_)
              have hW : WW E (wK b E.2.1 (wT b E.2.1 xN xT xA xh xd xl xr xo xw xpp xtp xap xsg yN (nI (nT g + 1)) yA yh yd yl yr yo yw ypp (va_up ytp (nT g) (some n104)) yap ysg zat zpl zlt zjo zfo zsz zby znu) pd qt qr tbu wst asw pN tN aN hd dr pl rm ps wx pp tp ap sg uh ud up ur us ux) (va_up G n104 (some (ceT (nI (nT g)) (znu 0) (znu 1) (znu 2) (znu 3) (znu 4)))) H := hW
              refine lv_iconst (pc := 134) (v := 1) hx hb dX1_hangThing_134 (by decide) ?_
              refine W.widen (k := 1) (n := 6) (by omega) (by omega) ?_
              exact z_wzret (b := true) cx hr hlk dX1_hangThing_135 hS (Or.inl ⟨n104, _, rfl, (ctO_i (lt_8 h58) (by rw [← f0]; exact isPt_t hpt) (gt_0 h80) h91 (by rw [← f1]; exact h46) (by rw [← f2]; exact hA0)), hGLn104, hgn104, (FrG.up (by rw [← hN0]; exact hNn104)), (by exact hW)⟩)
            · skip
              have ho : ctO g znu = false := ctO_f (fun ⟨o0, o1, o2, o3, o4, o5⟩ => inL_no o3 rfl rfl c_6)
              refine lv_iconst (pc := 94) (v := 0) hx hb dX1_hangThing_94 (by decide) ?_
              refine W.widen (k := 1) (n := 6) (by omega) (by omega) ?_
              exact z_wzret (b := false) cx hr hlk dX1_hangThing_95 hS (Or.inr ⟨rfl, ho, hW⟩)
        · skip
          have ho : ctO g znu = false := ctO_f (fun ⟨o0, o1, o2, o3, o4, o5⟩ => absurd (isPt_i (y := yN) hN.2.1 (by rw [f0]; exact o1)) (by rw [c_4]; exact Bool.false_ne_true))
          refine lv_iconst (pc := 69) (v := 0) hx hb dX1_hangThing_69 (by decide) ?_
          refine W.widen (k := 1) (n := 6) (by omega) (by omega) ?_
          exact z_wzret (b := false) cx hr hlk dX1_hangThing_70 hS (Or.inr ⟨rfl, ho, hW⟩)
    · skip
      have ho : ctO g znu = false := ctO_f (fun ⟨o0, o1, o2, o3, o4, o5⟩ => c_2 (by rw [f1]; exact o4))
      refine lv_iconst (pc := 49) (v := 0) hx hb dX1_hangThing_49 (by decide) ?_
      refine W.widen (k := 1) (n := 6) (by omega) (by omega) ?_
      exact z_wzret (b := false) cx hr hlk dX1_hangThing_50 hS (Or.inr ⟨rfl, ho, hW⟩)
theorem k_X1_hangThing {p : Program} {l : Launch} {e : Env} {R : Room} {s : State} {m : MethodId} {args : Array Value} {below : List Frame} {meth : Method} {c : Code} {H H0 : Heap} {locs : List Loc} {cells slots : Nat} {Q : State → Prop} {cc : ByteArray} {pc index : Nat} {ls : Array Slot} {rest st0 : List Value} {E : zE} {own : String} {nL : Nat} {F : Nat → Prop} {b : Nat → Nat} {pd : Bool} {qt : Nat → Option Nat} {qr : Nat → Option Nat} {tbu : Nat → Int32} {wst : Nat → Int32} {asw : Nat → Int32} {pN : Int32} {tN : Int32} {aN : Int32} {hd : Int32} {dr : Int32} {pl : Int32} {rm : Int32} {ps : Int32} {wx : Nat → Int32} {pp : Nat → Option Nat} {tp : Nat → Option Nat} {ap : Nat → Option Nat} {sg : Nat → Int32} {uh : Int32} {ud : Int32} {up : Int32} {ur : Int32} {us : Int32} {ux : Nat → Int32} {xN : Int32} {xT : Int32} {xA : Int32} {xh : Int32} {xd : Int32} {xl : Int32} {xr : Int32} {xo : Int32} {xw : Nat → Int32} {xpp : Nat → Option Nat} {xtp : Nat → Option Nat} {xap : Nat → Option Nat} {xsg : Nat → Int32} {yN : Int32} {yT : Int32} {yA : Int32} {yh : Int32} {yd : Int32} {yl : Int32} {yr : Int32} {yo : Int32} {yw : Nat → Int32} {ypp : Nat → Option Nat} {ytp : Nat → Option Nat} {yap : Nat → Option Nat} {ysg : Nat → Int32} {zat : Int32} {zpl : Int32} {zlt : Int32} {zjo : Bool} {zfo : Int32} {zsz : Int32} {zby : Nat → Int32} {znu : Nat → Int32} {G : zG} {N : Nat} {g : Nat → Int32} (cx : Cx E p s args m c own cc nL) (hW : WW E (wK b E.2.1 (wT b E.2.1 xN xT xA xh xd xl xr xo xw xpp xtp xap xsg yN yT yA yh yd yl yr yo yw ypp ytp yap ysg zat zpl zlt zjo zfo zsz zby znu) pd qt qr tbu wst asw pN tN aN hd dr pl rm ps wx pp tp ap sg uh ud up ur us ux) G H) (hN0 : H.size = N) (hS : va_S F H0 H locs) (zF : ∀ q, (bFz b N) q → F q) (hG : CG E.2.1 G g yN yT yA yw ypp ytp yap) (hN : (rg (znu 0) 0 9 ∧ rg (znu 1) 0 9 ∧ rg (znu 2) 0 999 ∧ rg (znu 3) 0 9 ∧ rg (znu 4) 0 999)) (zl : Cond.methodLink own index yX1_hangThing ∈ AllW) (zR : 2 + 1 ≤ R.frames ∧ 8 + (7 + 11) + 66 ≤ R.locals) (zs : ls.size = nL) (zt : st0 = ([.ref (b 29)] : List Value).reverse ++ .ref (b 22) :: rest) (z8 : (rest.map fun v => v.category).sum ≤ 8) (zd : decode cc pc = .ok (.invokevirtual index, 3)) (zf : cells + 1 ≤ R.cells ∧ slots + 6 ≤ R.slots) (kk0 : ∀ (q9 : Nat) (G2 : zG) (H1 : Heap) (locs1 : List Loc), (ctO g znu = true) → (GLe G G2) → (G2 q9 = some (ceT (nI (nT g)) (znu 0) (znu 1) (znu 2) (znu 3) (znu 4))) → (FrG G G2 N) → WW E (wK b E.2.1 (wT b E.2.1 xN xT xA xh xd xl xr xo xw xpp xtp xap xsg yN (nI (nT g + 1)) yA yh yd yl yr yo yw ypp (va_up ytp (nT g) (some q9)) yap ysg zat zpl zlt zjo zfo zsz zby znu) pd qt qr tbu wst asw pN tN aN hd dr pl rm ps wx pp tp ap sg uh ud up ur us ux) G2 H1 → va_S F H0 H1 locs1 → W p l e R s m args below meth c H1 locs1 (cells + 1) (slots + 6) Q (F0 m (pc + 3) ls (.int 1 :: rest))) (kk1 : ∀  (H1 : Heap) (locs1 : List Loc), (ctO g znu = false) → WW E (wK b E.2.1 (wT b E.2.1 xN xT xA xh xd xl xr xo xw xpp xtp xap xsg yN yT yA yh yd yl yr yo yw ypp ytp yap ysg zat zpl zlt zjo zfo zsz zby znu) pd qt qr tbu wst asw pN tN aN hd dr pl rm ps wx pp tp ap sg uh ud up ur us ux) G H1 → va_S F H0 H1 locs1 → W p l e R s m args below meth c H1 locs1 (cells + 1) (slots + 6) Q (F0 m (pc + 3) ls (.int 0 :: rest))) : W p l e R s m args below meth c H locs cells slots Q (F0 m pc ls st0) := by
  refine z_callVw cx vm_X1_hangThing (c_X1_hangThing l E b pd qt qr tbu wst asw pN tN aN hd dr pl rm ps wx pp tp ap sg uh ud up ur us ux xN xT xA xh xd xl xr xo xw xpp xtp xap xsg yN yT yA yh yd yl yr yo yw ypp ytp yap ysg zat zpl zlt zjo zfo zsz zby znu G N g hG hN) (z_rec cx.2 (hW.at 22 rfl) rfl) ⟨hW, hN0⟩ hS zF zl ⟨rfl, rfl⟩ zR rfl zs zt z8 zd zf (fun v H1 locs1 hq hS1 _ => ?_)
  rcases hq with ⟨q9, G2, rfl, ho, hGL, hq9, hng, hW1⟩ | ⟨rfl, ho, hW1⟩
  · exact kk0 q9 G2 H1 locs1 ho hGL hq9 hng hW1 hS1
  · exact kk1  H1 locs1 ho hW1 hS1
