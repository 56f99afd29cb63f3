set_option maxHeartbeats 1000000 in
set_option maxRecDepth 100000 in
theorem c_X5_become_pf (l : Launch) (E : zE) (b : Nat → Nat) (pd : Bool) (qt : Nat → Option Nat) (qr : Nat → Option Nat) (tbu : Nat → Int32) (wst : Nat → Int32) (asw : Nat → Int32) (pN : Int32) (tN : Int32) (aN : Int32) (hd : Int32) (dr : Int32) (pl : Int32) (rm : Int32) (ps : Int32) (wx : Nat → Int32) (pp : Nat → Option Nat) (tp : Nat → Option Nat) (ap : Nat → Option Nat) (sg : Nat → Int32) (uh : Int32) (ud : Int32) (up : Int32) (ur : Int32) (us : Int32) (ux : Nat → Int32) (xN : Int32) (xT : Int32) (xA : Int32) (xh : Int32) (xd : Int32) (xl : Int32) (xr : Int32) (xo : Int32) (xw : Nat → Int32) (xpp : Nat → Option Nat) (xtp : Nat → Option Nat) (xap : Nat → Option Nat) (xsg : Nat → Int32) (yN : Int32) (yT : Int32) (yA : Int32) (yh : Int32) (yd : Int32) (yl : Int32) (yr : Int32) (yo : Int32) (yw : Nat → Int32) (ypp : Nat → Option Nat) (ytp : Nat → Option Nat) (yap : Nat → Option Nat) (ysg : Nat → Int32) (zat : Int32) (zpl : Int32) (zlt : Int32) (zjo : Bool) (zfo : Int32) (zsz : Int32) (zby : Nat → Int32) (znu : Nat → Int32) (G : zG)   : Met l yX5_become (.code yX5_become cX5_become 2 none :: AllW) (rm0' 1 80) (zP E (fun H => WW E (wK b E.2.1 (wT b E.2.1 xN xT xA xh xd xl xr xo xw xpp xtp xap xsg yN yT yA yh yd yl yr yo yw ypp ytp yap ysg zat zpl zlt zjo zfo zsz zby znu) pd qt qr tbu wst asw pN tN aN hd dr pl rm ps wx pp tp ap sg uh ud up ur us ux) G H) [.ref (b 16), .ref (b 7)]) (zQ (fun (_ : Heap) (v : Option Value) (H1 : Heap) => (v = none ∧ WW E (wK b E.2.1 (wT b E.2.1 xN xT xA hd dr pl rm ps wx xpp xtp xap xsg yN yT yA yh yd yl yr yo yw ypp ytp yap ysg zat zpl zlt zjo zfo zsz zby znu) pd qt qr tbu wst asw pN tN aN hd dr pl rm ps wx pp tp ap sg uh ud up ur us ux) G H1)) (bF b)) 0 0 (bF b) := by
  refine z_body (own := RX5) (by decide) rfl rfl ?_
  intro p e s m args below meth c ls cx hr hlk hnm hW hl
  have hx := cx.x
  have hb := cx.b
  have hl : lv_has ls 2 [(0, .ref (b 16)), (1, .ref (b 7))] := hl
  have hFb : ∀ k, (bF b) (b k) := fun k => bF_in b k
  have hS : va_S (bF b) s.heap s.heap [] := va_S.rf
  refine lv_aload_n (pc := 0) hx hb dX5_become_0 rfl (lv_at hl 0 rfl) ?_
  refine lv_aload_n (pc := 1) hx hb dX5_become_1 rfl (lv_at hl 1 rfl) ?_
  refine z_get (pc := 2) cx (hW.at 7 rfl) (C := RX5) (T := TX5) (N := 6) rfl i_X5 0 rfl m_fl_X5_9 rfl dX5_become_2 ?_
  refine z_putK5 (pc := 5) cx hW hS 16 rfl (hFb 16) 0 rfl m_fl_X5_9 rfl rfl dX5_become_5 (fun H locs hW hS => ?_)
  have hW : WW E (wK b E.2.1 (wT b E.2.1 xN xT xA hd xd xl xr xo xw xpp xtp xap xsg yN yT yA yh yd yl yr yo yw ypp ytp yap ysg zat zpl zlt zjo zfo zsz zby znu) pd qt qr tbu wst asw pN tN aN hd dr pl rm ps wx pp tp ap sg uh ud up ur us ux) G H := hW
  refine lv_aload_n (pc := 8) hx hb dX5_become_8 rfl (lv_at hl 0 rfl) ?_
  refine lv_aload_n (pc := 9) hx hb dX5_become_9 rfl (lv_at hl 1 rfl) ?_
  refine z_get (pc := 10) cx (hW.at 7 rfl) (C := RX5) (T := TX5) (N := 6) rfl i_X5 1 rfl m_fl_X5_19 rfl dX5_become_10 ?_
  refine z_putK5 (pc := 13) cx hW hS 16 rfl (hFb 16) 1 rfl m_fl_X5_19 rfl rfl dX5_become_13 (fun H locs hW hS => ?_)
  have hW : WW E (wK b E.2.1 (wT b E.2.1 xN xT xA hd dr xl xr xo xw xpp xtp xap xsg yN yT yA yh yd yl yr yo yw ypp ytp yap ysg zat zpl zlt zjo zfo zsz zby znu) pd qt qr tbu wst asw pN tN aN hd dr pl rm ps wx pp tp ap sg uh ud up ur us ux) G H := hW
  refine lv_aload_n (pc := 16) hx hb dX5_become_16 rfl (lv_at hl 0 rfl) ?_
  refine lv_aload_n (pc := 17) hx hb dX5_become_17 rfl (lv_at hl 1 rfl) ?_
  refine z_get (pc := 18) cx (hW.at 7 rfl) (C := RX5) (T := TX5) (N := 6) rfl i_X5 2 rfl m_fl_X5_22 rfl dX5_become_18 ?_
  refine z_putK5 (pc := 21) cx hW hS 16 rfl (hFb 16) 2 rfl m_fl_X5_22 rfl rfl dX5_become_21 (fun H locs hW hS => ?_)
  have hW : WW E (wK b E.2.1 (wT b E.2.1 xN xT xA hd dr pl xr xo xw xpp xtp xap xsg yN yT yA yh yd yl yr yo yw ypp ytp yap ysg zat zpl zlt zjo zfo zsz zby znu) pd qt qr tbu wst asw pN tN aN hd dr pl rm ps wx pp tp ap sg uh ud up ur us ux) G H := hW
  refine lv_aload_n (pc := 24) hx hb dX5_become_24 rfl (lv_at hl 0 rfl) ?_
  refine lv_aload_n (pc := 25) hx hb dX5_become_25 rfl (lv_at hl 1 rfl) ?_
  refine z_get (pc := 26) cx (hW.at 7 rfl) (C := RX5) (T := TX5) (N := 6) rfl i_X5 3 rfl m_fl_X5_25 rfl dX5_become_26 ?_
  refine z_putK5 (pc := 29) cx hW hS 16 rfl (hFb 16) 3 rfl m_fl_X5_25 rfl rfl dX5_become_29 (fun H locs hW hS => ?_)
  have hW : WW E (wK b E.2.1 (wT b E.2.1 xN xT xA hd dr pl rm xo xw xpp xtp xap xsg yN yT yA yh yd yl yr yo yw ypp ytp yap ysg zat zpl zlt zjo zfo zsz zby znu) pd qt qr tbu wst asw pN tN aN hd dr pl rm ps wx pp tp ap sg uh ud up ur us ux) G H := hW
  refine lv_aload_n (pc := 32) hx hb dX5_become_32 rfl (lv_at hl 0 rfl) ?_
  refine lv_aload_n (pc := 33) hx hb dX5_become_33 rfl (lv_at hl 1 rfl) ?_
  refine z_get (pc := 34) cx (hW.at 7 rfl) (C := RX5) (T := TX5) (N := 6) rfl i_X5 4 rfl m_fl_X5_28 rfl dX5_become_34 ?_
  refine z_putK5 (pc := 37) cx hW hS 16 rfl (hFb 16) 4 rfl m_fl_X5_28 rfl rfl dX5_become_37 (fun H locs hW hS => ?_)
  have hW : WW E (wK b E.2.1 (wT b E.2.1 xN xT xA hd dr pl rm ps xw xpp xtp xap xsg yN yT yA yh yd yl yr yo yw ypp ytp yap ysg zat zpl zlt zjo zfo zsz zby znu) pd qt qr tbu wst asw pN tN aN hd dr pl rm ps wx pp tp ap sg uh ud up ur us ux) G H := hW
  refine lv_aload_n (pc := 40) hx hb dX5_become_40 rfl (lv_at hl 1 rfl) ?_
  refine z_get (pc := 41) cx (hW.at 7 rfl) (C := RX5) (T := TX5) (N := 6) rfl i_X5 5 rfl m_fl_X5_15 rfl dX5_become_41 ?_
  refine lv_iconst (pc := 44) (v := 0) hx hb dX5_become_44 (by decide) ?_
  refine lv_aload_n (pc := 45) hx hb dX5_become_45 rfl (lv_at hl 0 rfl) ?_
  refine z_get (pc := 46) cx (hW.at 16 rfl) (C := RX5) (T := TX5) (N := 6) rfl i_X5 5 rfl m_fl_X5_15 rfl dX5_become_46 ?_
  refine lv_iconst (pc := 49) (v := 0) hx hb dX5_become_49 (by decide) ?_
  refine lv_bipush (pc := 50) (v := 10) hx hb dX5_become_50 (by decide) ?_
  refine z_copyI (pc := 52) (n := 10) cx hW hS 17 (hW.at 8 rfl) rfl (hFb 17) (by decide) hl.1 m_ml_X5_31 ⟨Nat.le_of_ble_eq_true rfl, Nat.le_of_ble_eq_true rfl⟩ (by simp [Value.category]) dX5_become_52 (fun H locs hW hS => ?_)
  have hW : WW E (wK b E.2.1 (wT b E.2.1 xN xT xA hd dr pl rm ps wx xpp xtp xap xsg yN yT yA yh yd yl yr yo yw ypp ytp yap ysg zat zpl zlt zjo zfo zsz zby znu) pd qt qr tbu wst asw pN tN aN hd dr pl rm ps wx pp tp ap sg uh ud up ur us ux) G H := hW
  exact z_wvret cx hr hlk dX5_become_55 hS ⟨rfl, hW⟩
theorem k_X5_become_pf {p : Program} {l : Launch} {e : Env} {R : Room} {s : State} {m : MethodId} {args : Array Value} {below : List Frame} {meth : Method} {c : Code} {H H0 : Heap} {locs : List Loc} {cells slots : Nat} {Q : State → Prop} {cc : ByteArray} {pc index : Nat} {ls : Array Slot} {rest st0 : List Value} {E : zE} {own : String} {nL : Nat} {F : Nat → Prop} {b : Nat → Nat} {pd : Bool} {qt : Nat → Option Nat} {qr : Nat → Option Nat} {tbu : Nat → Int32} {wst : Nat → Int32} {asw : Nat → Int32} {pN : Int32} {tN : Int32} {aN : Int32} {hd : Int32} {dr : Int32} {pl : Int32} {rm : Int32} {ps : Int32} {wx : Nat → Int32} {pp : Nat → Option Nat} {tp : Nat → Option Nat} {ap : Nat → Option Nat} {sg : Nat → Int32} {uh : Int32} {ud : Int32} {up : Int32} {ur : Int32} {us : Int32} {ux : Nat → Int32} {xN : Int32} {xT : Int32} {xA : Int32} {xh : Int32} {xd : Int32} {xl : Int32} {xr : Int32} {xo : Int32} {xw : Nat → Int32} {xpp : Nat → Option Nat} {xtp : Nat → Option Nat} {xap : Nat → Option Nat} {xsg : Nat → Int32} {yN : Int32} {yT : Int32} {yA : Int32} {yh : Int32} {yd : Int32} {yl : Int32} {yr : Int32} {yo : Int32} {yw : Nat → Int32} {ypp : Nat → Option Nat} {ytp : Nat → Option Nat} {yap : Nat → Option Nat} {ysg : Nat → Int32} {zat : Int32} {zpl : Int32} {zlt : Int32} {zjo : Bool} {zfo : Int32} {zsz : Int32} {zby : Nat → Int32} {znu : Nat → Int32} {G : zG}  (cx : Cx E p s args m c own cc nL) (hW : WW E (wK b E.2.1 (wT b E.2.1 xN xT xA xh xd xl xr xo xw xpp xtp xap xsg yN yT yA yh yd yl yr yo yw ypp ytp yap ysg zat zpl zlt zjo zfo zsz zby znu) pd qt qr tbu wst asw pN tN aN hd dr pl rm ps wx pp tp ap sg uh ud up ur us ux) G H) (hS : va_S F H0 H locs) (zF : ∀ q, (bF b) q → F q)  (zl : Cond.methodLink own index yX5_become ∈ AllW) (zR : 1 + 1 ≤ R.frames ∧ 8 + (2 + 11) + 80 ≤ R.locals) (zs : ls.size = nL) (zt : st0 = ([.ref (b 7)] : List Value).reverse ++ .ref (b 16) :: rest) (z8 : (rest.map fun v => v.category).sum ≤ 8) (zd : decode cc pc = .ok (.invokevirtual index, 3)) (zf : cells ≤ R.cells ∧ slots ≤ R.slots) (kk0 : ∀  (H1 : Heap) (locs1 : List Loc), WW E (wK b E.2.1 (wT b E.2.1 xN xT xA hd dr pl rm ps wx xpp xtp xap xsg yN yT yA yh yd yl yr yo yw ypp ytp yap ysg zat zpl zlt zjo zfo zsz zby znu) pd qt qr tbu wst asw pN tN aN hd dr pl rm ps wx pp tp ap sg uh ud up ur us ux) G H1 → va_S F H0 H1 locs1 → W p l e R s m args below meth c H1 locs1 cells slots Q (F0 m (pc + 3) ls (rest))) : W p l e R s m args below meth c H locs cells slots Q (F0 m pc ls st0) := by
  refine z_callVw cx vm_X5_become (c_X5_become_pf l E b pd qt qr tbu wst asw pN tN aN hd dr pl rm ps wx pp tp ap sg uh ud up ur us ux xN xT xA xh xd xl xr xo xw xpp xtp xap xsg yN yT yA yh yd yl yr yo yw ypp ytp yap ysg zat zpl zlt zjo zfo zsz zby znu G) (z_rec cx.2 (hW.at 16 rfl) rfl) hW hS zF zl ⟨rfl, rfl⟩ zR rfl zs zt z8 zd zf (fun v H1 locs1 hq hS1 _ => ?_)
  rcases hq with ⟨rfl, hW1⟩
  · exact kk0  H1 locs1  hW1 hS1
theorem vm_X1_become : zVm yX1_become cX1_become 3 none 1 := ⟨m_co_X1_become, m_in_RX1, ⟨m_im_X1_become, m_se_X1_X1_become⟩, by decide +kernel, by decide +kernel, by decide +kernel⟩
set_option maxHeartbeats 1000000 in
set_option maxRecDepth 100000 in
theorem c_X1_become_pf (l : Launch) (E : zE) (b : Nat → Nat) (pd : Bool) (qt : Nat → Option Nat) (qr : Nat → Option Nat) (tbu : Nat → Int32) (wst : Nat → Int32) (asw : Nat → Int32) (pN : Int32) (tN : Int32) (aN : Int32) (hd : Int32) (dr : Int32) (pl : Int32) (rm : Int32) (ps : Int32) (wx : Nat → Int32) (pp : Nat → Option Nat) (tp : Nat → Option Nat) (ap : Nat → Option Nat) (sg : Nat → Int32) (uh : Int32) (ud : Int32) (up : Int32) (ur : Int32) (us : Int32) (ux : Nat → Int32) (xN : Int32) (xT : Int32) (xA : Int32) (xh : Int32) (xd : Int32) (xl : Int32) (xr : Int32) (xo : Int32) (xw : Nat → Int32) (xpp : Nat → Option Nat) (xtp : Nat → Option Nat) (xap : Nat → Option Nat) (xsg : Nat → Int32) (yN : Int32) (yT : Int32) (yA : Int32) (yh : Int32) (yd : Int32) (yl : Int32) (yr : Int32) (yo : Int32) (yw : Nat → Int32) (ypp : Nat → Option Nat) (ytp : Nat → Option Nat) (yap : Nat → Option Nat) (ysg : Nat → Int32) (zat : Int32) (zpl : Int32) (zlt : Int32) (zjo : Bool) (zfo : Int32) (zsz : Int32) (zby : Nat → Int32) (znu : Nat → Int32) (G : zG)  (hrp : RfG G 2 10 pp) (hrt : RfG G 6 7 tp) (hra : RfG G 0 24 ap) : Met l yX1_become (.code yX1_become cX1_become 3 none :: AllW) (rm0' 2 101) (zP E (fun H => WW E (wK b E.2.1 (wT b E.2.1 xN xT xA xh xd xl xr xo xw xpp xtp xap xsg yN yT yA yh yd yl yr yo yw ypp ytp yap ysg zat zpl zlt zjo zfo zsz zby znu) pd qt qr tbu wst asw pN tN aN hd dr pl rm ps wx pp tp ap sg uh ud up ur us ux) G H) [.ref (b 15), .ref (b 6)]) (zQ (fun (_ : Heap) (v : Option Value) (H1 : Heap) => (v = none ∧ WW E (wK b E.2.1 (wT b E.2.1 pN tN aN hd dr pl rm ps wx pp tp ap xsg yN yT yA yh yd yl yr yo yw ypp ytp yap ysg zat zpl zlt zjo zfo zsz zby znu) pd qt qr tbu wst asw pN tN aN hd dr pl rm ps wx pp tp ap sg uh ud up ur us ux) G H1)) (bF b)) 0 0 (bF b) := by
  refine z_body (own := RX1) (by decide) rfl rfl ?_
  intro p e s m args below meth c ls cx hr hlk hnm hW hl
  have hx := cx.x
  have hb := cx.b
  have hl : lv_has ls 3 [(0, .ref (b 15)), (1, .ref (b 6))] := hl
  have hFb : ∀ k, (bF b) (b k) := fun k => bF_in b k
  have hS : va_S (bF b) s.heap s.heap [] := va_S.rf
  refine lv_aload_n (pc := 0) hx hb dX1_become_0 rfl (lv_at hl 0 rfl) ?_
  refine lv_aload_n (pc := 1) hx hb dX1_become_1 rfl (lv_at hl 1 rfl) ?_
  refine z_get (pc := 2) cx (hW.at 6 rfl) (C := RX1) (T := TX1) (N := 8) rfl i_X1 0 rfl m_fl_X1_40 rfl dX1_become_2 ?_
  refine z_putK1 (pc := 5) cx hW hS 15 rfl (hFb 15) 0 rfl m_fl_X1_40 rfl rfl dX1_become_5 (fun H locs hW hS => ?_)
  have hW : WW E (wK b E.2.1 (wT b E.2.1 pN xT xA xh xd xl xr xo xw xpp xtp xap xsg yN yT yA yh yd yl yr yo yw ypp ytp yap ysg zat zpl zlt zjo zfo zsz zby znu) pd qt qr tbu wst asw pN tN aN hd dr pl rm ps wx pp tp ap sg uh ud up ur us ux) G H := hW
  refine lv_aload_n (pc := 8) hx hb dX1_become_8 rfl (lv_at hl 0 rfl) ?_
  refine lv_aload_n (pc := 9) hx hb dX1_become_9 rfl (lv_at hl 1 rfl) ?_
  refine z_get (pc := 10) cx (hW.at 6 rfl) (C := RX1) (T := TX1) (N := 8) rfl i_X1 1 rfl m_fl_X1_44 rfl dX1_become_10 ?_
  refine z_putK1 (pc := 13) cx hW hS 15 rfl (hFb 15) 1 rfl m_fl_X1_44 rfl rfl dX1_become_13 (fun H locs hW hS => ?_)
  have hW : WW E (wK b E.2.1 (wT b E.2.1 pN tN xA xh xd xl xr xo xw xpp xtp xap xsg yN yT yA yh yd yl yr yo yw ypp ytp yap ysg zat zpl zlt zjo zfo zsz zby znu) pd qt qr tbu wst asw pN tN aN hd dr pl rm ps wx pp tp ap sg uh ud up ur us ux) G H := hW
  refine lv_aload_n (pc := 16) hx hb dX1_become_16 rfl (lv_at hl 0 rfl) ?_
  refine lv_aload_n (pc := 17) hx hb dX1_become_17 rfl (lv_at hl 1 rfl) ?_
  refine z_get (pc := 18) cx (hW.at 6 rfl) (C := RX1) (T := TX1) (N := 8) rfl i_X1 2 rfl m_fl_X1_47 rfl dX1_become_18 ?_
  refine z_putK1 (pc := 21) cx hW hS 15 rfl (hFb 15) 2 rfl m_fl_X1_47 rfl rfl dX1_become_21 (fun H locs hW hS => ?_)
  have hW : WW E (wK b E.2.1 (wT b E.2.1 pN tN aN xh xd xl xr xo xw xpp xtp xap xsg yN yT yA yh yd yl yr yo yw ypp ytp yap ysg zat zpl zlt zjo zfo zsz zby znu) pd qt qr tbu wst asw pN tN aN hd dr pl rm ps wx pp tp ap sg uh ud up ur us ux) G H := hW
  refine lv_aload_n (pc := 24) hx hb dX1_become_24 rfl (lv_at hl 0 rfl) ?_
  refine z_get (pc := 25) cx (hW.at 15 rfl) (C := RX1) (T := TX1) (N := 8) rfl i_X1 3 rfl m_fl_X1_12 rfl dX1_become_25 ?_
  refine lv_aload_n (pc := 28) hx hb dX1_become_28 rfl (lv_at hl 1 rfl) ?_
  refine z_get (pc := 29) cx (hW.at 6 rfl) (C := RX1) (T := TX1) (N := 8) rfl i_X1 3 rfl m_fl_X1_12 rfl dX1_become_29 ?_
  refine k_X5_become_pf (pc := 32)  cx hW hS (fun _ h => h)  m_ml_X1_50 ⟨Nat.le_of_ble_eq_true rfl, Nat.le_of_ble_eq_true rfl⟩ hl.1 rfl (by simp [Value.category]) dX1_become_32 ⟨Nat.le_refl _, Nat.le_refl _⟩ (fun  H locs  hW hS => ?_)
  have hW : WW E (wK b E.2.1 (wT b E.2.1 pN tN aN hd dr pl rm ps wx xpp xtp xap xsg yN yT yA yh yd yl yr yo yw ypp ytp yap ysg zat zpl zlt zjo zfo zsz zby znu) pd qt qr tbu wst asw pN tN aN hd dr pl rm ps wx pp tp ap sg uh ud up ur us ux) G H := hW
  refine lv_iconst (pc := 35) (v := 0) hx hb dX1_become_35 (by decide) ?_
  refine lv_istore_n (pc := 36) (lv' := [(2, .int 0), (0, .ref (b 15)), (1, .ref (b 6))]) hx hb dX1_become_36 rfl hl (by decide) rfl (fun ls hl => ?_)
  have loop_37 : ∀ (k_37 : Nat) (i : Nat) (x2 : Int32), (10 - i) < k_37 → (i ≤ 10) → x2 = nI i → ∀ (H : Heap) (locs : List Loc), WW E (wK b E.2.1 (wT b E.2.1 pN tN aN hd dr pl rm ps wx (cpR pp xpp i) xtp xap xsg yN yT yA yh yd yl yr yo yw ypp ytp yap ysg zat zpl zlt zjo zfo zsz zby znu) pd qt qr tbu wst asw pN tN aN hd dr pl rm ps wx pp tp ap sg uh ud up ur us ux) G H → va_S (bF b) s.heap H locs → ∀ (ls : Array Slot), lv_has ls 3 [(2, .int x2), (0, .ref (b 15)), (1, .ref (b 6))] → W p l e (rm0' (2) (101)) s m args below meth c H locs 0 0 (MQ below (zQ (fun (_ : Heap) (v : Option Value) (H1 : Heap) => (v = none ∧ WW E (wK b E.2.1 (wT b E.2.1 pN tN aN hd dr pl rm ps wx pp tp ap xsg yN yT yA yh yd yl yr yo yw ypp ytp yap ysg zat zpl zlt zjo zfo zsz zby znu) pd qt qr tbu wst asw pN tN aN hd dr pl rm ps wx pp tp ap sg uh ud up ur us ux) G H1)) (bF b)) args s 0 0 (bF b)) (F0 m 37 ls []) := by
    intro k_37
    induction k_37 with
    | zero =>
      intro i x2 hm
      exact absurd hm (Nat.not_lt_zero _)
    | succ k_37 ih_37 =>
      intro i x2 hm_37 hi e_x2  H locs  hW hS ls hl
      subst e_x2
      refine lv_iload_n (pc := 37) hx hb dX1_become_37 rfl (lv_at hl 0 rfl) ?_
      refine lv_bipush (pc := 38) (v := 10) hx hb dX1_become_38 (by decide) ?_
      refine lv_icmp_ge (pc := 40) (tgt := 61) hx hb dX1_become_40 (by decide) (fun c_1 => ?_) (fun c_1 => ?_)
      · skip
        obtain rfl : i = 10 := by have := ge_nat (a := i) (b := 10) rfl rfl (by omega) (by omega) c_1; omega
        have hW := hW.congrR (i := 18) rfl (g := pp) (fun j hj => by unfold cpR; exact if_pos hj)
        have hW : WW E (wK b E.2.1 (wT b E.2.1 pN tN aN hd dr pl rm ps wx pp xtp xap xsg yN yT yA yh yd yl yr yo yw ypp ytp yap ysg zat zpl zlt zjo zfo zsz zby znu) pd qt qr tbu wst asw pN tN aN hd dr pl rm ps wx pp tp ap sg uh ud up ur us ux) G H := hW
        refine lv_iconst (pc := 61) (v := 0) hx hb dX1_become_61 (by decide) ?_
        refine lv_istore_n (pc := 62) (lv' := [(2, .int 0), (0, .ref (b 15)), (1, .ref (b 6))]) hx hb dX1_become_62 rfl hl (by decide) rfl (fun ls hl => ?_)
        have loop_63 : ∀ (k_63 : Nat) (i : Nat) (x2 : Int32), (7 - i) < k_63 → (i ≤ 7) → x2 = nI i → ∀ (H : Heap) (locs : List Loc), WW E (wK b E.2.1 (wT b E.2.1 pN tN aN hd dr pl rm ps wx pp (cpR tp xtp i) xap xsg yN yT yA yh yd yl yr yo yw ypp ytp yap ysg zat zpl zlt zjo zfo zsz zby znu) pd qt qr tbu wst asw pN tN aN hd dr pl rm ps wx pp tp ap sg uh ud up ur us ux) G H → va_S (bF b) s.heap H locs → ∀ (ls : Array Slot), lv_has ls 3 [(2, .int x2), (0, .ref (b 15)), (1, .ref (b 6))] → W p l e (rm0' (2) (101)) s m args below meth c H locs 0 0 (MQ below (zQ (fun (_ : Heap) (v : Option Value) (H1 : Heap) => (v = none ∧ WW E (wK b E.2.1 (wT b E.2.1 pN tN aN hd dr pl rm ps wx pp tp ap xsg yN yT yA yh yd yl yr yo yw ypp ytp yap ysg zat zpl zlt zjo zfo zsz zby znu) pd qt qr tbu wst asw pN tN aN hd dr pl rm ps wx pp tp ap sg uh ud up ur us ux) G H1)) (bF b)) args s 0 0 (bF b)) (F0 m 63 ls []) := by
          intro k_63
          induction k_63 with
          | zero =>
            intro i x2 hm
            exact absurd hm (Nat.not_lt_zero _)
          | succ k_63 ih_63 =>
            intro i x2 hm_63 hi e_x2  H locs  hW hS ls hl
            subst e_x2
            refine lv_iload_n (pc := 63) hx hb dX1_become_63 rfl (lv_at hl 0 rfl) ?_
            refine lv_bipush (pc := 64) (v := 7) hx hb dX1_become_64 (by decide) ?_
            refine lv_icmp_ge (pc := 66) (tgt := 87) hx hb dX1_become_66 (by decide) (fun c_2 => ?_) (fun c_2 => ?_)
            · skip
              obtain rfl : i = 7 := by have := ge_nat (a := i) (b := 7) rfl rfl (by omega) (by omega) c_2; omega
              have hW := hW.congrR (i := 19) rfl (g := tp) (fun j hj => by unfold cpR; exact if_pos hj)
              have hW : WW E (wK b E.2.1 (wT b E.2.1 pN tN aN hd dr pl rm ps wx pp tp xap xsg yN yT yA yh yd yl yr yo yw ypp ytp yap ysg zat zpl zlt zjo zfo zsz zby znu) pd qt qr tbu wst asw pN tN aN hd dr pl rm ps wx pp tp ap sg uh ud up ur us ux) G H := hW
              refine lv_iconst (pc := 87) (v := 0) hx hb dX1_become_87 (by decide) ?_
              refine lv_istore_n (pc := 88) (lv' := [(2, .int 0), (0, .ref (b 15)), (1, .ref (b 6))]) hx hb dX1_become_88 rfl hl (by decide) rfl (fun ls hl => ?_)
              have loop_89 : ∀ (k_89 : Nat) (i : Nat) (x2 : Int32), (24 - i) < k_89 → (i ≤ 24) → x2 = nI i → ∀ (H : Heap) (locs : List Loc), WW E (wK b E.2.1 (wT b E.2.1 pN tN aN hd dr pl rm ps wx pp tp (cpR ap xap i) xsg yN yT yA yh yd yl yr yo yw ypp ytp yap ysg zat zpl zlt zjo zfo zsz zby znu) pd qt qr tbu wst asw pN tN aN hd dr pl rm ps wx pp tp ap sg uh ud up ur us ux) G H → va_S (bF b) s.heap H locs → ∀ (ls : Array Slot), lv_has ls 3 [(2, .int x2), (0, .ref (b 15)), (1, .ref (b 6))] → W p l e (rm0' (2) (101)) s m args below meth c H locs 0 0 (MQ below (zQ (fun (_ : Heap) (v : Option Value) (H1 : Heap) => (v = none ∧ WW E (wK b E.2.1 (wT b E.2.1 pN tN aN hd dr pl rm ps wx pp tp ap xsg yN yT yA yh yd yl yr yo yw ypp ytp yap ysg zat zpl zlt zjo zfo zsz zby znu) pd qt qr tbu wst asw pN tN aN hd dr pl rm ps wx pp tp ap sg uh ud up ur us ux) G H1)) (bF b)) args s 0 0 (bF b)) (F0 m 89 ls []) := by
                intro k_89
                induction k_89 with
                | zero =>
                  intro i x2 hm
                  exact absurd hm (Nat.not_lt_zero _)
                | succ k_89 ih_89 =>
                  intro i x2 hm_89 hi e_x2  H locs  hW hS ls hl
                  subst e_x2
                  refine lv_iload_n (pc := 89) hx hb dX1_become_89 rfl (lv_at hl 0 rfl) ?_
                  refine lv_bipush (pc := 90) (v := 24) hx hb dX1_become_90 (by decide) ?_
                  refine lv_icmp_ge (pc := 92) (tgt := 113) hx hb dX1_become_92 (by decide) (fun c_3 => ?_) (fun c_3 => ?_)
                  · skip
                    obtain rfl : i = 24 := by have := ge_nat (a := i) (b := 24) rfl rfl (by omega) (by omega) c_3; omega
                    have hW := hW.congrR (i := 20) rfl (g := ap) (fun j hj => by unfold cpR; exact if_pos hj)
                    have hW : WW E (wK b E.2.1 (wT b E.2.1 pN tN aN hd dr pl rm ps wx pp tp ap xsg yN yT yA yh yd yl yr yo yw ypp ytp yap ysg zat zpl zlt zjo zfo zsz zby znu) pd qt qr tbu wst asw pN tN aN hd dr pl rm ps wx pp tp ap sg uh ud up ur us ux) G H := hW
                    exact z_wvret cx hr hlk dX1_become_113 hS ⟨rfl, hW⟩
                  · skip
                    have hlt_i := lt_nat (a := i) (b := 24) rfl rfl (by omega) (by omega) c_3
                    refine lv_aload_n (pc := 95) hx hb dX1_become_95 rfl (lv_at hl 1 rfl) ?_
                    refine z_get (pc := 96) cx (hW.at 15 rfl) (C := RX1) (T := TX1) (N := 8) rfl i_X1 6 rfl m_fl_X1_32 rfl dX1_become_96 ?_
                    refine lv_iload_n (pc := 99) hx hb dX1_become_99 rfl (lv_at hl 0 rfl) ?_
                    refine lv_aload_n (pc := 100) hx hb dX1_become_100 rfl (lv_at hl 2 rfl) ?_
                    refine z_get (pc := 101) cx (hW.at 6 rfl) (C := RX1) (T := TX1) (N := 8) rfl i_X1 6 rfl m_fl_X1_32 rfl dX1_become_101 ?_
                    refine lv_iload_n (pc := 104) hx hb dX1_become_104 rfl (lv_at hl 0 rfl) ?_
                    refine z_aald (pc := 105) (f := ap) (j := i) cx 3 rfl (hW.at 11 rfl) rfl (by omega) (by decide) dX1_become_105 ?_
                    refine z_aastO (pc := 106) (f := cpR ap xap i) (j := i) cx hW hS 20 3 0 rfl rfl (hra i hlt_i) rfl (hFb 20) rfl (by omega) (by decide) dX1_become_106 (fun H locs hW hS => ?_)
                    have hW : WW E (wK b E.2.1 (wT b E.2.1 pN tN aN hd dr pl rm ps wx pp tp (va_up (cpR ap xap i) i (ap i)) xsg yN yT yA yh yd yl yr yo yw ypp ytp yap ysg zat zpl zlt zjo zfo zsz zby znu) pd qt qr tbu wst asw pN tN aN hd dr pl rm ps wx pp tp ap sg uh ud up ur us ux) G H := hW
                    refine lv_iinc (pc := 107) (v := nI (i + 1)) (lv' := [(2, .int (nI (i + 1))), (0, .ref (b 15)), (1, .ref (b 6))]) hx hb dX1_become_107 hl (k := 0) rfl (nI_1 _) (by decide) rfl (fun ls hl => ?_)
                    refine lv_goto (pc := 110) (tgt := 89) hx hb dX1_become_110 (by decide) ?_
                    exact ih_89 (i + 1) (nI (i + 1)) (by omega) (by omega) (by first | rfl | (simp []; done))  _ _  (by rw [← cpR_s]; exact hW) hS ls (lv_sub hl [0, 1, 2] rfl)
              exact loop_89 ((24 - 0) + 1) 0 0 (Nat.lt_succ_self _) (by omega) (by first | rfl | (simp []; done))  _ _  (by rw [cpR_0]; exact hW) hS ls (lv_sub hl [0, 1, 2] rfl)
            · skip
              have hlt_i := lt_nat (a := i) (b := 7) rfl rfl (by omega) (by omega) c_2
              refine lv_aload_n (pc := 69) hx hb dX1_become_69 rfl (lv_at hl 1 rfl) ?_
              refine z_get (pc := 70) cx (hW.at 15 rfl) (C := RX1) (T := TX1) (N := 8) rfl i_X1 5 rfl m_fl_X1_26 rfl dX1_become_70 ?_
              refine lv_iload_n (pc := 73) hx hb dX1_become_73 rfl (lv_at hl 0 rfl) ?_
              refine lv_aload_n (pc := 74) hx hb dX1_become_74 rfl (lv_at hl 2 rfl) ?_
              refine z_get (pc := 75) cx (hW.at 6 rfl) (C := RX1) (T := TX1) (N := 8) rfl i_X1 5 rfl m_fl_X1_26 rfl dX1_become_75 ?_
              refine lv_iload_n (pc := 78) hx hb dX1_become_78 rfl (lv_at hl 0 rfl) ?_
              refine z_aald (pc := 79) (f := tp) (j := i) cx 2 rfl (hW.at 10 rfl) rfl (by omega) (by decide) dX1_become_79 ?_
              refine z_aastO (pc := 80) (f := cpR tp xtp i) (j := i) cx hW hS 19 2 6 rfl rfl (hrt i hlt_i) rfl (hFb 19) rfl (by omega) (by decide) dX1_become_80 (fun H locs hW hS => ?_)
              have hW : WW E (wK b E.2.1 (wT b E.2.1 pN tN aN hd dr pl rm ps wx pp (va_up (cpR tp xtp i) i (tp i)) xap xsg yN yT yA yh yd yl yr yo yw ypp ytp yap ysg zat zpl zlt zjo zfo zsz zby znu) pd qt qr tbu wst asw pN tN aN hd dr pl rm ps wx pp tp ap sg uh ud up ur us ux) G H := hW
              refine lv_iinc (pc := 81) (v := nI (i + 1)) (lv' := [(2, .int (nI (i + 1))), (0, .ref (b 15)), (1, .ref (b 6))]) hx hb dX1_become_81 hl (k := 0) rfl (nI_1 _) (by decide) rfl (fun ls hl => ?_)
              refine lv_goto (pc := 84) (tgt := 63) hx hb dX1_become_84 (by decide) ?_
              exact ih_63 (i + 1) (nI (i + 1)) (by omega) (by omega) (by first | rfl | (simp []; done))  _ _  (by rw [← cpR_s]; exact hW) hS ls (lv_sub hl [0, 1, 2] rfl)
        exact loop_63 ((7 - 0) + 1) 0 0 (Nat.lt_succ_self _) (by omega) (by first | rfl | (simp []; done))  _ _  (by rw [cpR_0]; exact hW) hS ls (lv_sub hl [0, 1, 2] rfl)
      · skip
        have hlt_i := lt_nat (a := i) (b := 10) rfl rfl (by omega) (by omega) c_1
        refine lv_aload_n (pc := 43) hx hb dX1_become_43 rfl (lv_at hl 1 rfl) ?_
        refine z_get (pc := 44) cx (hW.at 15 rfl) (C := RX1) (T := TX1) (N := 8) rfl i_X1 4 rfl m_fl_X1_20 rfl dX1_become_44 ?_
        refine lv_iload_n (pc := 47) hx hb dX1_become_47 rfl (lv_at hl 0 rfl) ?_
        refine lv_aload_n (pc := 48) hx hb dX1_become_48 rfl (lv_at hl 2 rfl) ?_
        refine z_get (pc := 49) cx (hW.at 6 rfl) (C := RX1) (T := TX1) (N := 8) rfl i_X1 4 rfl m_fl_X1_20 rfl dX1_become_49 ?_
        refine lv_iload_n (pc := 52) hx hb dX1_become_52 rfl (lv_at hl 0 rfl) ?_
        refine z_aald (pc := 53) (f := pp) (j := i) cx 1 rfl (hW.at 9 rfl) rfl (by omega) (by decide) dX1_become_53 ?_
        refine z_aastO (pc := 54) (f := cpR pp xpp i) (j := i) cx hW hS 18 1 2 rfl rfl (hrp i hlt_i) rfl (hFb 18) rfl (by omega) (by decide) dX1_become_54 (fun H locs hW hS => ?_)
        have hW : WW E (wK b E.2.1 (wT b E.2.1 pN tN aN hd dr pl rm ps wx (va_up (cpR pp xpp i) i (pp i)) xtp xap xsg yN yT yA yh yd yl yr yo yw ypp ytp yap ysg zat zpl zlt zjo zfo zsz zby znu) pd qt qr tbu wst asw pN tN aN hd dr pl rm ps wx pp tp ap sg uh ud up ur us ux) G H := hW
        refine lv_iinc (pc := 55) (v := nI (i + 1)) (lv' := [(2, .int (nI (i + 1))), (0, .ref (b 15)), (1, .ref (b 6))]) hx hb dX1_become_55 hl (k := 0) rfl (nI_1 _) (by decide) rfl (fun ls hl => ?_)
        refine lv_goto (pc := 58) (tgt := 37) hx hb dX1_become_58 (by decide) ?_
        exact ih_37 (i + 1) (nI (i + 1)) (by omega) (by omega) (by first | rfl | (simp []; done))  _ _  (by rw [← cpR_s]; exact hW) hS ls (lv_sub hl [0, 1, 2] rfl)
  exact loop_37 ((10 - 0) + 1) 0 0 (Nat.lt_succ_self _) (by omega) (by first | rfl | (simp []; done))  _ _  (by rw [cpR_0]; exact hW) hS ls (lv_sub hl [0, 1, 2] rfl)
theorem k_X1_become_pf {p : Program} {l : Launch} {e : Env} {R : Room} {s : State} {m : MethodId} {args : Array Value} {below : List Frame} {meth : Method} {c : Code} {H H0 : Heap} {locs : List Loc} {cells slots : Nat} {Q : State → Prop} {cc : ByteArray} {pc index : Nat} {ls : Array Slot} {rest st0 : List Value} {E : zE} {own : String} {nL : Nat} {F : Nat → Prop} {b : Nat → Nat} {pd : Bool} {qt : Nat → Option Nat} {qr : Nat → Option Nat} {tbu : Nat → Int32} {wst : Nat → Int32} {asw : Nat → Int32} {pN : Int32} {tN : Int32} {aN : Int32} {hd : Int32} {dr : Int32} {pl : Int32} {rm : Int32} {ps : Int32} {wx : Nat → Int32} {pp : Nat → Option Nat} {tp : Nat → Option Nat} {ap : Nat → Option Nat} {sg : Nat → Int32} {uh : Int32} {ud : Int32} {up : Int32} {ur : Int32} {us : Int32} {ux : Nat → Int32} {xN : Int32} {xT : Int32} {xA : Int32} {xh : Int32} {xd : Int32} {xl : Int32} {xr : Int32} {xo : Int32} {xw : Nat → Int32} {xpp : Nat → Option Nat} {xtp : Nat → Option Nat} {xap : Nat → Option Nat} {xsg : Nat → Int32} {yN : Int32} {yT : Int32} {yA : Int32} {yh : Int32} {yd : Int32} {yl : Int32} {yr : Int32} {yo : Int32} {yw : Nat → Int32} {ypp : Nat → Option Nat} {ytp : Nat → Option Nat} {yap : Nat → Option Nat} {ysg : Nat → Int32} {zat : Int32} {zpl : Int32} {zlt : Int32} {zjo : Bool} {zfo : Int32} {zsz : Int32} {zby : Nat → Int32} {znu : Nat → Int32} {G : zG}  (cx : Cx E p s args m c own cc nL) (hW : WW E (wK b E.2.1 (wT b E.2.1 xN xT xA xh xd xl xr xo xw xpp xtp xap xsg yN yT yA yh yd yl yr yo yw ypp ytp yap ysg zat zpl zlt zjo zfo zsz zby znu) pd qt qr tbu wst asw pN tN aN hd dr pl rm ps wx pp tp ap sg uh ud up ur us ux) G H) (hS : va_S F H0 H locs) (zF : ∀ q, (bF b) q → F q) (hrp : RfG G 2 10 pp) (hrt : RfG G 6 7 tp) (hra : RfG G 0 24 ap) (zl : Cond.methodLink own index yX1_become ∈ AllW) (zR : 2 + 1 ≤ R.frames ∧ 8 + (3 + 11) + 101 ≤ R.locals) (zs : ls.size = nL) (zt : st0 = ([.ref (b 6)] : List Value).reverse ++ .ref (b 15) :: rest) (z8 : (rest.map fun v => v.category).sum ≤ 8) (zd : decode cc pc = .ok (.invokevirtual index, 3)) (zf : cells ≤ R.cells ∧ slots ≤ R.slots) (kk0 : ∀  (H1 : Heap) (locs1 : List Loc), WW E (wK b E.2.1 (wT b E.2.1 pN tN aN hd dr pl rm ps wx pp tp ap xsg yN yT yA yh yd yl yr yo yw ypp ytp yap ysg zat zpl zlt zjo zfo zsz zby znu) pd qt qr tbu wst asw pN tN aN hd dr pl rm ps wx pp tp ap sg uh ud up ur us ux) G H1 → va_S F H0 H1 locs1 → W p l e R s m args below meth c H1 locs1 cells slots Q (F0 m (pc + 3) ls (rest))) : W p l e R s m args below meth c H locs cells slots Q (F0 m pc ls st0) := by
  refine z_callVw cx vm_X1_become (c_X1_become_pf l E b pd qt qr tbu wst asw pN tN aN hd dr pl rm ps wx pp tp ap sg uh ud up ur us ux xN xT xA xh xd xl xr xo xw xpp xtp xap xsg yN yT yA yh yd yl yr yo yw ypp ytp yap ysg zat zpl zlt zjo zfo zsz zby znu G hrp hrt hra) (z_rec cx.2 (hW.at 15 rfl) rfl) hW hS zF zl ⟨rfl, rfl⟩ zR rfl zs zt z8 zd zf (fun v H1 locs1 hq hS1 _ => ?_)
  rcases hq with ⟨rfl, hW1⟩
  · exact kk0  H1 locs1  hW1 hS1
set_option maxHeartbeats 1000000 in
set_option maxRecDepth 100000 in
theorem c_X5_become_fp (l : Launch) (E : zE) (b : Nat → Nat) (pd : Bool) (qt : Nat → Option Nat) (qr : Nat → Option Nat) (tbu : Nat → Int32) (wst : Nat → Int32) (asw : Nat → Int32) (pN : Int32) (tN : Int32) (aN : Int32) (hd : Int32) (dr : Int32) (pl : Int32) (rm : Int32) (ps : Int32) (wx : Nat → Int32) (pp : Nat → Option Nat) (tp : Nat → Option Nat) (ap : Nat → Option Nat) (sg : Nat → Int32) (uh : Int32) (ud : Int32) (up : Int32) (ur : Int32) (us : Int32) (ux : Nat → Int32) (xN : Int32) (xT : Int32) (xA : Int32) (xh : Int32) (xd : Int32) (xl : Int32) (xr : Int32) (xo : Int32) (xw : Nat → Int32) (xpp : Nat → Option Nat) (xtp : Nat → Option Nat) (xap : Nat → Option Nat) (xsg : Nat → Int32) (yN : Int32) (yT : Int32) (yA : Int32) (yh : Int32) (yd : Int32) (yl : Int32) (yr : Int32) (yo : Int32) (yw : Nat → Int32) (ypp : Nat → Option Nat) (ytp : Nat → Option Nat) (yap : Nat → Option Nat) (ysg : Nat → Int32) (zat : Int32) (zpl : Int32) (zlt : Int32) (zjo : Bool) (zfo : Int32) (zsz : Int32) (zby : Nat → Int32) (znu : Nat → Int32) (G : zG)   : Met l yX5_become (.code yX5_become cX5_become 2 none :: AllW) (rm0' 1 80) (zP E (fun H => WW E (wK b E.2.1 (wT b E.2.1 xN xT xA xh xd xl xr xo xw xpp xtp xap xsg yN yT yA yh yd yl yr yo yw ypp ytp yap ysg zat zpl zlt zjo zfo zsz zby znu) pd qt qr tbu wst asw pN tN aN hd dr pl rm ps wx pp tp ap sg uh ud up ur us ux) G H) [.ref (b 7), .ref (b 16)]) (zQ (fun (_ : Heap) (v : Option Value) (H1 : Heap) => (v = none ∧ WW E (wK b E.2.1 (wT b E.2.1 xN xT xA xh xd xl xr xo xw xpp xtp xap xsg yN yT yA yh yd yl yr yo yw ypp ytp yap ysg zat zpl zlt zjo zfo zsz zby znu) pd qt qr tbu wst asw pN tN aN xh xd xl xr xo xw pp tp ap sg uh ud up ur us ux) G H1)) (bF b)) 0 0 (bF b) := by
  refine z_body (own := RX5) (by decide) rfl rfl ?_
  intro p e s m args below meth c ls cx hr hlk hnm hW hl
  have hx := cx.x
  have hb := cx.b
  have hl : lv_has ls 2 [(0, .ref (b 7)), (1, .ref (b 16))] := hl
  have hFb : ∀ k, (bF b) (b k) := fun k => bF_in b k
  have hS : va_S (bF b) s.heap s.heap [] := va_S.rf
  refine lv_aload_n (pc := 0) hx hb dX5_become_0 rfl (lv_at hl 0 rfl) ?_
  refine lv_aload_n (pc := 1) hx hb dX5_become_1 rfl (lv_at hl 1 rfl) ?_
  refine z_get (pc := 2) cx (hW.at 16 rfl) (C := RX5) (T := TX5) (N := 6) rfl i_X5 0 rfl m_fl_X5_9 rfl dX5_become_2 ?_
  refine z_putK5 (pc := 5) cx hW hS 7 rfl (hFb 7) 0 rfl m_fl_X5_9 rfl rfl dX5_become_5 (fun H locs hW hS => ?_)
  have hW : WW E (wK b E.2.1 (wT b E.2.1 xN xT xA xh xd xl xr xo xw xpp xtp xap xsg yN yT yA yh yd yl yr yo yw ypp ytp yap ysg zat zpl zlt zjo zfo zsz zby znu) pd qt qr tbu wst asw pN tN aN xh dr pl rm ps wx pp tp ap sg uh ud up ur us ux) G H := hW
  refine lv_aload_n (pc := 8) hx hb dX5_become_8 rfl (lv_at hl 0 rfl) ?_
  refine lv_aload_n (pc := 9) hx hb dX5_become_9 rfl (lv_at hl 1 rfl) ?_
  refine z_get (pc := 10) cx (hW.at 16 rfl) (C := RX5) (T := TX5) (N := 6) rfl i_X5 1 rfl m_fl_X5_19 rfl dX5_become_10 ?_
  refine z_putK5 (pc := 13) cx hW hS 7 rfl (hFb 7) 1 rfl m_fl_X5_19 rfl rfl dX5_become_13 (fun H locs hW hS => ?_)
  have hW : WW E (wK b E.2.1 (wT b E.2.1 xN xT xA xh xd xl xr xo xw xpp xtp xap xsg yN yT yA yh yd yl yr yo yw ypp ytp yap ysg zat zpl zlt zjo zfo zsz zby znu) pd qt qr tbu wst asw pN tN aN xh xd pl rm ps wx pp tp ap sg uh ud up ur us ux) G H := hW
  refine lv_aload_n (pc := 16) hx hb dX5_become_16 rfl (lv_at hl 0 rfl) ?_
  refine lv_aload_n (pc := 17) hx hb dX5_become_17 rfl (lv_at hl 1 rfl) ?_
  refine z_get (pc := 18) cx (hW.at 16 rfl) (C := RX5) (T := TX5) (N := 6) rfl i_X5 2 rfl m_fl_X5_22 rfl dX5_become_18 ?_
  refine z_putK5 (pc := 21) cx hW hS 7 rfl (hFb 7) 2 rfl m_fl_X5_22 rfl rfl dX5_become_21 (fun H locs hW hS => ?_)
  have hW : WW E (wK b E.2.1 (wT b E.2.1 xN xT xA xh xd xl xr xo xw xpp xtp xap xsg yN yT yA yh yd yl yr yo yw ypp ytp yap ysg zat zpl zlt zjo zfo zsz zby znu) pd qt qr tbu wst asw pN tN aN xh xd xl rm ps wx pp tp ap sg uh ud up ur us ux) G H := hW
  refine lv_aload_n (pc := 24) hx hb dX5_become_24 rfl (lv_at hl 0 rfl) ?_
  refine lv_aload_n (pc := 25) hx hb dX5_become_25 rfl (lv_at hl 1 rfl) ?_
  refine z_get (pc := 26) cx (hW.at 16 rfl) (C := RX5) (T := TX5) (N := 6) rfl i_X5 3 rfl m_fl_X5_25 rfl dX5_become_26 ?_
  refine z_putK5 (pc := 29) cx hW hS 7 rfl (hFb 7) 3 rfl m_fl_X5_25 rfl rfl dX5_become_29 (fun H locs hW hS => ?_)
  have hW : WW E (wK b E.2.1 (wT b E.2.1 xN xT xA xh xd xl xr xo xw xpp xtp xap xsg yN yT yA yh yd yl yr yo yw ypp ytp yap ysg zat zpl zlt zjo zfo zsz zby znu) pd qt qr tbu wst asw pN tN aN xh xd xl xr ps wx pp tp ap sg uh ud up ur us ux) G H := hW
  refine lv_aload_n (pc := 32) hx hb dX5_become_32 rfl (lv_at hl 0 rfl) ?_
  refine lv_aload_n (pc := 33) hx hb dX5_become_33 rfl (lv_at hl 1 rfl) ?_
  refine z_get (pc := 34) cx (hW.at 16 rfl) (C := RX5) (T := TX5) (N := 6) rfl i_X5 4 rfl m_fl_X5_28 rfl dX5_become_34 ?_
  refine z_putK5 (pc := 37) cx hW hS 7 rfl (hFb 7) 4 rfl m_fl_X5_28 rfl rfl dX5_become_37 (fun H locs hW hS => ?_)
  have hW : WW E (wK b E.2.1 (wT b E.2.1 xN xT xA xh xd xl xr xo xw xpp xtp xap xsg yN yT yA yh yd yl yr yo yw ypp ytp yap ysg zat zpl zlt zjo zfo zsz zby znu) pd qt qr tbu wst asw pN tN aN xh xd xl xr xo wx pp tp ap sg uh ud up ur us ux) G H := hW
  refine lv_aload_n (pc := 40) hx hb dX5_become_40 rfl (lv_at hl 1 rfl) ?_
  refine z_get (pc := 41) cx (hW.at 16 rfl) (C := RX5) (T := TX5) (N := 6) rfl i_X5 5 rfl m_fl_X5_15 rfl dX5_become_41 ?_
  refine lv_iconst (pc := 44) (v := 0) hx hb dX5_become_44 (by decide) ?_
  refine lv_aload_n (pc := 45) hx hb dX5_become_45 rfl (lv_at hl 0 rfl) ?_
  refine z_get (pc := 46) cx (hW.at 7 rfl) (C := RX5) (T := TX5) (N := 6) rfl i_X5 5 rfl m_fl_X5_15 rfl dX5_become_46 ?_
  refine lv_iconst (pc := 49) (v := 0) hx hb dX5_become_49 (by decide) ?_
  refine lv_bipush (pc := 50) (v := 10) hx hb dX5_become_50 (by decide) ?_
  refine z_copyI (pc := 52) (n := 10) cx hW hS 8 (hW.at 17 rfl) rfl (hFb 8) (by decide) hl.1 m_ml_X5_31 ⟨Nat.le_of_ble_eq_true rfl, Nat.le_of_ble_eq_true rfl⟩ (by simp [Value.category]) dX5_become_52 (fun H locs hW hS => ?_)
  have hW : WW E (wK b E.2.1 (wT b E.2.1 xN xT xA xh xd xl xr xo xw xpp xtp xap xsg yN yT yA yh yd yl yr yo yw ypp ytp yap ysg zat zpl zlt zjo zfo zsz zby znu) pd qt qr tbu wst asw pN tN aN xh xd xl xr xo xw pp tp ap sg uh ud up ur us ux) G H := hW
  exact z_wvret cx hr hlk dX5_become_55 hS ⟨rfl, hW⟩
theorem k_X5_become_fp {p : Program} {l : Launch} {e : Env} {R : Room} {s : State} {m : MethodId} {args : Array Value} {below : List Frame} {meth : Method} {c : Code} {H H0 : Heap} {locs : List Loc} {cells slots : Nat} {Q : State → Prop} {cc : ByteArray} {pc index : Nat} {ls : Array Slot} {rest st0 : List Value} {E : zE} {own : String} {nL : Nat} {F : Nat → Prop} {b : Nat → Nat} {pd : Bool} {qt : Nat → Option Nat} {qr : Nat → Option Nat} {tbu : Nat → Int32} {wst : Nat → Int32} {asw : Nat → Int32} {pN : Int32} {tN : Int32} {aN : Int32} {hd : Int32} {dr : Int32} {pl : Int32} {rm : Int32} {ps : Int32} {wx : Nat → Int32} {pp : Nat → Option Nat} {tp : Nat → Option Nat} {ap : Nat → Option Nat} {sg : Nat → Int32} {uh : Int32} {ud : Int32} {up : Int32} {ur : Int32} {us : Int32} {ux : Nat → Int32} {xN : Int32} {xT : Int32} {xA : Int32} {xh : Int32} {xd : Int32} {xl : Int32} {xr : Int32} {xo : Int32} {xw : Nat → Int32} {xpp : Nat → Option Nat} {xtp : Nat → Option Nat} {xap : Nat → Option Nat} {xsg : Nat → Int32} {yN : Int32} {yT : Int32} {yA : Int32} {yh : Int32} {yd : Int32} {yl : Int32} {yr : Int32} {yo : Int32} {yw : Nat → Int32} {ypp : Nat → Option Nat} {ytp : Nat → Option Nat} {yap : Nat → Option Nat} {ysg : Nat → Int32} {zat : Int32} {zpl : Int32} {zlt : Int32} {zjo : Bool} {zfo : Int32} {zsz : Int32} {zby : Nat → Int32} {znu : Nat → Int32} {G : zG}  (cx : Cx E p s args m c own cc nL) (hW : WW E (wK b E.2.1 (wT b E.2.1 xN xT xA xh xd xl xr xo xw xpp xtp xap xsg yN yT yA yh yd yl yr yo yw ypp ytp yap ysg zat zpl zlt zjo zfo zsz zby znu) pd qt qr tbu wst asw pN tN aN hd dr pl rm ps wx pp tp ap sg uh ud up ur us ux) G H) (hS : va_S F H0 H locs) (zF : ∀ q, (bF b) q → F q)  (zl : Cond.methodLink own index yX5_become ∈ AllW) (zR : 1 + 1 ≤ R.frames ∧ 8 + (2 + 11) + 80 ≤ R.locals) (zs : ls.size = nL) (zt : st0 = ([.ref (b 16)] : List Value).reverse ++ .ref (b 7) :: rest) (z8 : (rest.map fun v => v.category).sum ≤ 8) (zd : decode cc pc = .ok (.invokevirtual index, 3)) (zf : cells ≤ R.cells ∧ slots ≤ R.slots) (kk0 : ∀  (H1 : Heap) (locs1 : List Loc), WW E (wK b E.2.1 (wT b E.2.1 xN xT xA xh xd xl xr xo xw xpp xtp xap xsg yN yT yA yh yd yl yr yo yw ypp ytp yap ysg zat zpl zlt zjo zfo zsz zby znu) pd qt qr tbu wst asw pN tN aN xh xd xl xr xo xw pp tp ap sg uh ud up ur us ux) G H1 → va_S F H0 H1 locs1 → W p l e R s m args below meth c H1 locs1 cells slots Q (F0 m (pc + 3) ls (rest))) : W p l e R s m args below meth c H locs cells slots Q (F0 m pc ls st0) := by
  refine z_callVw cx vm_X5_become (c_X5_become_fp l E b pd qt qr tbu wst asw pN tN aN hd dr pl rm ps wx pp tp ap sg uh ud up ur us ux xN xT xA xh xd xl xr xo xw xpp xtp xap xsg yN yT yA yh yd yl yr yo yw ypp ytp yap ysg zat zpl zlt zjo zfo zsz zby znu G) (z_rec cx.2 (hW.at 7 rfl) rfl) hW hS zF zl ⟨rfl, rfl⟩ zR rfl zs zt z8 zd zf (fun v H1 locs1 hq hS1 _ => ?_)
  rcases hq with ⟨rfl, hW1⟩
  · exact kk0  H1 locs1  hW1 hS1
set_option maxHeartbeats 1000000 in
set_option maxRecDepth 100000 in
theorem c_X1_become_fp (l : Launch) (E : zE) (b : Nat → Nat) (pd : Bool) (qt : Nat → Option Nat) (qr : Nat → Option Nat) (tbu : Nat → Int32) (wst : Nat → Int32) (asw : Nat → Int32) (pN : Int32) (tN : Int32) (aN : Int32) (hd : Int32) (dr : Int32) (pl : Int32) (rm : Int32) (ps : Int32) (wx : Nat → Int32) (pp : Nat → Option Nat) (tp : Nat → Option Nat) (ap : Nat → Option Nat) (sg : Nat → Int32) (uh : Int32) (ud : Int32) (up : Int32) (ur : Int32) (us : Int32) (ux : Nat → Int32) (xN : Int32) (xT : Int32) (xA : Int32) (xh : Int32) (xd : Int32) (xl : Int32) (xr : Int32) (xo : Int32) (xw : Nat → Int32) (xpp : Nat → Option Nat) (xtp : Nat → Option Nat) (xap : Nat → Option Nat) (xsg : Nat → Int32) (yN : Int32) (yT : Int32) (yA : Int32) (yh : Int32) (yd : Int32) (yl : Int32) (yr : Int32) (yo : Int32) (yw : Nat → Int32) (ypp : Nat → Option Nat) (ytp : Nat → Option Nat) (yap : Nat → Option Nat) (ysg : Nat → Int32) (zat : Int32) (zpl : Int32) (zlt : Int32) (zjo : Bool) (zfo : Int32) (zsz : Int32) (zby : Nat → Int32) (znu : Nat → Int32) (G : zG)  (hrp : RfG G 2 10 xpp) (hrt : RfG G 6 7 xtp) (hra : RfG G 0 24 xap) : Met l yX1_become (.code yX1_become cX1_become 3 none :: AllW) (rm0' 2 101) (zP E (fun H => WW E (wK b E.2.1 (wT b E.2.1 xN xT xA xh xd xl xr xo xw xpp xtp xap xsg yN yT yA yh yd yl yr yo yw ypp ytp yap ysg zat zpl zlt zjo zfo zsz zby znu) pd qt qr tbu wst asw pN tN aN hd dr pl rm ps wx pp tp ap sg uh ud up ur us ux) G H) [.ref (b 6), .ref (b 15)]) (zQ (fun (_ : Heap) (v : Option Value) (H1 : Heap) => (v = none ∧ WW E (wK b E.2.1 (wT b E.2.1 xN xT xA xh xd xl xr xo xw xpp xtp xap xsg yN yT yA yh yd yl yr yo yw ypp ytp yap ysg zat zpl zlt zjo zfo zsz zby znu) pd qt qr tbu wst asw xN xT xA xh xd xl xr xo xw xpp xtp xap sg uh ud up ur us ux) G H1)) (bF b)) 0 0 (bF b) := by
  refine z_body (own := RX1) (by decide) rfl rfl ?_
  intro p e s m args below meth c ls cx hr hlk hnm hW hl
  have hx := cx.x
  have hb := cx.b
  have hl : lv_has ls 3 [(0, .ref (b 6)), (1, .ref (b 15))] := hl
  have hFb : ∀ k, (bF b) (b k) := fun k => bF_in b k
  have hS : va_S (bF b) s.heap s.heap [] := va_S.rf
  refine lv_aload_n (pc := 0) hx hb dX1_become_0 rfl (lv_at hl 0 rfl) ?_
  refine lv_aload_n (pc := 1) hx hb dX1_become_1 rfl (lv_at hl 1 rfl) ?_
  refine z_get (pc := 2) cx (hW.at 15 rfl) (C := RX1) (T := TX1) (N := 8) rfl i_X1 0 rfl m_fl_X1_40 rfl dX1_become_2 ?_
  refine z_putK1 (pc := 5) cx hW hS 6 rfl (hFb 6) 0 rfl m_fl_X1_40 rfl rfl dX1_become_5 (fun H locs hW hS => ?_)
  have hW : WW E (wK b E.2.1 (wT b E.2.1 xN xT xA xh xd xl xr xo xw xpp xtp xap xsg yN yT yA yh yd yl yr yo yw ypp ytp yap ysg zat zpl zlt zjo zfo zsz zby znu) pd qt qr tbu wst asw xN tN aN hd dr pl rm ps wx pp tp ap sg uh ud up ur us ux) G H := hW
  refine lv_aload_n (pc := 8) hx hb dX1_become_8 rfl (lv_at hl 0 rfl) ?_
  refine lv_aload_n (pc := 9) hx hb dX1_become_9 rfl (lv_at hl 1 rfl) ?_
  refine z_get (pc := 10) cx (hW.at 15 rfl) (C := RX1) (T := TX1) (N := 8) rfl i_X1 1 rfl m_fl_X1_44 rfl dX1_become_10 ?_
  refine z_putK1 (pc := 13) cx hW hS 6 rfl (hFb 6) 1 rfl m_fl_X1_44 rfl rfl dX1_become_13 (fun H locs hW hS => ?_)
  have hW : WW E (wK b E.2.1 (wT b E.2.1 xN xT xA xh xd xl xr xo xw xpp xtp xap xsg yN yT yA yh yd yl yr yo yw ypp ytp yap ysg zat zpl zlt zjo zfo zsz zby znu) pd qt qr tbu wst asw xN xT aN hd dr pl rm ps wx pp tp ap sg uh ud up ur us ux) G H := hW
  refine lv_aload_n (pc := 16) hx hb dX1_become_16 rfl (lv_at hl 0 rfl) ?_
  refine lv_aload_n (pc := 17) hx hb dX1_become_17 rfl (lv_at hl 1 rfl) ?_
  refine z_get (pc := 18) cx (hW.at 15 rfl) (C := RX1) (T := TX1) (N := 8) rfl i_X1 2 rfl m_fl_X1_47 rfl dX1_become_18 ?_
  refine z_putK1 (pc := 21) cx hW hS 6 rfl (hFb 6) 2 rfl m_fl_X1_47 rfl rfl dX1_become_21 (fun H locs hW hS => ?_)
  have hW : WW E (wK b E.2.1 (wT b E.2.1 xN xT xA xh xd xl xr xo xw xpp xtp xap xsg yN yT yA yh yd yl yr yo yw ypp ytp yap ysg zat zpl zlt zjo zfo zsz zby znu) pd qt qr tbu wst asw xN xT xA hd dr pl rm ps wx pp tp ap sg uh ud up ur us ux) G H := hW
  refine lv_aload_n (pc := 24) hx hb dX1_become_24 rfl (lv_at hl 0 rfl) ?_
  refine z_get (pc := 25) cx (hW.at 6 rfl) (C := RX1) (T := TX1) (N := 8) rfl i_X1 3 rfl m_fl_X1_12 rfl dX1_become_25 ?_
  refine lv_aload_n (pc := 28) hx hb dX1_become_28 rfl (lv_at hl 1 rfl) ?_
  refine z_get (pc := 29) cx (hW.at 15 rfl) (C := RX1) (T := TX1) (N := 8) rfl i_X1 3 rfl m_fl_X1_12 rfl dX1_become_29 ?_
  refine k_X5_become_fp (pc := 32)  cx hW hS (fun _ h => h)  m_ml_X1_50 ⟨Nat.le_of_ble_eq_true rfl, Nat.le_of_ble_eq_true rfl⟩ hl.1 rfl (by simp [Value.category]) dX1_become_32 ⟨Nat.le_refl _, Nat.le_refl _⟩ (fun  H locs  hW hS => ?_)
  have hW : WW E (wK b E.2.1 (wT b E.2.1 xN xT xA xh xd xl xr xo xw xpp xtp xap xsg yN yT yA yh yd yl yr yo yw ypp ytp yap ysg zat zpl zlt zjo zfo zsz zby znu) pd qt qr tbu wst asw xN xT xA xh xd xl xr xo xw pp tp ap sg uh ud up ur us ux) G H := hW
  refine lv_iconst (pc := 35) (v := 0) hx hb dX1_become_35 (by decide) ?_
  refine lv_istore_n (pc := 36) (lv' := [(2, .int 0), (0, .ref (b 6)), (1, .ref (b 15))]) hx hb dX1_become_36 rfl hl (by decide) rfl (fun ls hl => ?_)
  have loop_37 : ∀ (k_37 : Nat) (i : Nat) (x2 : Int32), (10 - i) < k_37 → (i ≤ 10) → x2 = nI i → ∀ (H : Heap) (locs : List Loc), WW E (wK b E.2.1 (wT b E.2.1 xN xT xA xh xd xl xr xo xw xpp xtp xap xsg yN yT yA yh yd yl yr yo yw ypp ytp yap ysg zat zpl zlt zjo zfo zsz zby znu) pd qt qr tbu wst asw xN xT xA xh xd xl xr xo xw (cpR xpp pp i) tp ap sg uh ud up ur us ux) G H → va_S (bF b) s.heap H locs → ∀ (ls : Array Slot), lv_has ls 3 [(2, .int x2), (0, .ref (b 6)), (1, .ref (b 15))] → W p l e (rm0' (2) (101)) s m args below meth c H locs 0 0 (MQ below (zQ (fun (_ : Heap) (v : Option Value) (H1 : Heap) => (v = none ∧ WW E (wK b E.2.1 (wT b E.2.1 xN xT xA xh xd xl xr xo xw xpp xtp xap xsg yN yT yA yh yd yl yr yo yw ypp ytp yap ysg zat zpl zlt zjo zfo zsz zby znu) pd qt qr tbu wst asw xN xT xA xh xd xl xr xo xw xpp xtp xap sg uh ud up ur us ux) G H1)) (bF b)) args s 0 0 (bF b)) (F0 m 37 ls []) := by
    intro k_37
    induction k_37 with
    | zero =>
      intro i x2 hm
      exact absurd hm (Nat.not_lt_zero _)
    | succ k_37 ih_37 =>
      intro i x2 hm_37 hi e_x2  H locs  hW hS ls hl
      subst e_x2
      refine lv_iload_n (pc := 37) hx hb dX1_become_37 rfl (lv_at hl 0 rfl) ?_
      refine lv_bipush (pc := 38) (v := 10) hx hb dX1_become_38 (by decide) ?_
      refine lv_icmp_ge (pc := 40) (tgt := 61) hx hb dX1_become_40 (by decide) (fun c_1 => ?_) (fun c_1 => ?_)
      · skip
        obtain rfl : i = 10 := by have := ge_nat (a := i) (b := 10) rfl rfl (by omega) (by omega) c_1; omega
        have hW := hW.congrR (i := 9) rfl (g := xpp) (fun j hj => by unfold cpR; exact if_pos hj)
        have hW : WW E (wK b E.2.1 (wT b E.2.1 xN xT xA xh xd xl xr xo xw xpp xtp xap xsg yN yT yA yh yd yl yr yo yw ypp ytp yap ysg zat zpl zlt zjo zfo zsz zby znu) pd qt qr tbu wst asw xN xT xA xh xd xl xr xo xw xpp tp ap sg uh ud up ur us ux) G H := hW
        refine lv_iconst (pc := 61) (v := 0) hx hb dX1_become_61 (by decide) ?_
        refine lv_istore_n (pc := 62) (lv' := [(2, .int 0), (0, .ref (b 6)), (1, .ref (b 15))]) hx hb dX1_become_62 rfl hl (by decide) rfl (fun ls hl => ?_)
        have loop_63 : ∀ (k_63 : Nat) (i : Nat) (x2 : Int32), (7 - i) < k_63 → (i ≤ 7) → x2 = nI i → ∀ (H : Heap) (locs : List Loc), WW E (wK b E.2.1 (wT b E.2.1 xN xT xA xh xd xl xr xo xw xpp xtp xap xsg yN yT yA yh yd yl yr yo yw ypp ytp yap ysg zat zpl zlt zjo zfo zsz zby znu) pd qt qr tbu wst asw xN xT xA xh xd xl xr xo xw xpp (cpR xtp tp i) ap sg uh ud up ur us ux) G H → va_S (bF b) s.heap H locs → ∀ (ls : Array Slot), lv_has ls 3 [(2, .int x2), (0, .ref (b 6)), (1, .ref (b 15))] → W p l e (rm0' (2) (101)) s m args below meth c H locs 0 0 (MQ below (zQ (fun (_ : Heap) (v : Option Value) (H1 : Heap) => (v = none ∧ WW E (wK b E.2.1 (wT b E.2.1 xN xT xA xh xd xl xr xo xw xpp xtp xap xsg yN yT yA yh yd yl yr yo yw ypp ytp yap ysg zat zpl zlt zjo zfo zsz zby znu) pd qt qr tbu wst asw xN xT xA xh xd xl xr xo xw xpp xtp xap sg uh ud up ur us ux) G H1)) (bF b)) args s 0 0 (bF b)) (F0 m 63 ls []) := by
          intro k_63
          induction k_63 with
          | zero =>
            intro i x2 hm
            exact absurd hm (Nat.not_lt_zero _)
          | succ k_63 ih_63 =>
            intro i x2 hm_63 hi e_x2  H locs  hW hS ls hl
            subst e_x2
            refine lv_iload_n (pc := 63) hx hb dX1_become_63 rfl (lv_at hl 0 rfl) ?_
            refine lv_bipush (pc := 64) (v := 7) hx hb dX1_become_64 (by decide) ?_
            refine lv_icmp_ge (pc := 66) (tgt := 87) hx hb dX1_become_66 (by decide) (fun c_2 => ?_) (fun c_2 => ?_)
            · skip
              obtain rfl : i = 7 := by have := ge_nat (a := i) (b := 7) rfl rfl (by omega) (by omega) c_2; omega
              have hW := hW.congrR (i := 10) rfl (g := xtp) (fun j hj => by unfold cpR; exact if_pos hj)
              have hW : WW E (wK b E.2.1 (wT b E.2.1 xN xT xA xh xd xl xr xo xw xpp xtp xap xsg yN yT yA yh yd yl yr yo yw ypp ytp yap ysg zat zpl zlt zjo zfo zsz zby znu) pd qt qr tbu wst asw xN xT xA xh xd xl xr xo xw xpp xtp ap sg uh ud up ur us ux) G H := hW
              refine lv_iconst (pc := 87) (v := 0) hx hb dX1_become_87 (by decide) ?_
              refine lv_istore_n (pc := 88) (lv' := [(2, .int 0), (0, .ref (b 6)), (1, .ref (b 15))]) hx hb dX1_become_88 rfl hl (by decide) rfl (fun ls hl => ?_)
              have loop_89 : ∀ (k_89 : Nat) (i : Nat) (x2 : Int32), (24 - i) < k_89 → (i ≤ 24) → x2 = nI i → ∀ (H : Heap) (locs : List Loc), WW E (wK b E.2.1 (wT b E.2.1 xN xT xA xh xd xl xr xo xw xpp xtp xap xsg yN yT yA yh yd yl yr yo yw ypp ytp yap ysg zat zpl zlt zjo zfo zsz zby znu) pd qt qr tbu wst asw xN xT xA xh xd xl xr xo xw xpp xtp (cpR xap ap i) sg uh ud up ur us ux) G H → va_S (bF b) s.heap H locs → ∀ (ls : Array Slot), lv_has ls 3 [(2, .int x2), (0, .ref (b 6)), (1, .ref (b 15))] → W p l e (rm0' (2) (101)) s m args below meth c H locs 0 0 (MQ below (zQ (fun (_ : Heap) (v : Option Value) (H1 : Heap) => (v = none ∧ WW E (wK b E.2.1 (wT b E.2.1 xN xT xA xh xd xl xr xo xw xpp xtp xap xsg yN yT yA yh yd yl yr yo yw ypp ytp yap ysg zat zpl zlt zjo zfo zsz zby znu) pd qt qr tbu wst asw xN xT xA xh xd xl xr xo xw xpp xtp xap sg uh ud up ur us ux) G H1)) (bF b)) args s 0 0 (bF b)) (F0 m 89 ls []) := by
                intro k_89
                induction k_89 with
                | zero =>
                  intro i x2 hm
                  exact absurd hm (Nat.not_lt_zero _)
                | succ k_89 ih_89 =>
                  intro i x2 hm_89 hi e_x2  H locs  hW hS ls hl
                  subst e_x2
                  refine lv_iload_n (pc := 89) hx hb dX1_become_89 rfl (lv_at hl 0 rfl) ?_
                  refine lv_bipush (pc := 90) (v := 24) hx hb dX1_become_90 (by decide) ?_
                  refine lv_icmp_ge (pc := 92) (tgt := 113) hx hb dX1_become_92 (by decide) (fun c_3 => ?_) (fun c_3 => ?_)
                  · skip
                    obtain rfl : i = 24 := by have := ge_nat (a := i) (b := 24) rfl rfl (by omega) (by omega) c_3; omega
                    have hW := hW.congrR (i := 11) rfl (g := xap) (fun j hj => by unfold cpR; exact if_pos hj)
                    have hW : WW E (wK b E.2.1 (wT b E.2.1 xN xT xA xh xd xl xr xo xw xpp xtp xap xsg yN yT yA yh yd yl yr yo yw ypp ytp yap ysg zat zpl zlt zjo zfo zsz zby znu) pd qt qr tbu wst asw xN xT xA xh xd xl xr xo xw xpp xtp xap sg uh ud up ur us ux) G H := hW
                    exact z_wvret cx hr hlk dX1_become_113 hS ⟨rfl, hW⟩
                  · skip
                    have hlt_i := lt_nat (a := i) (b := 24) rfl rfl (by omega) (by omega) c_3
                    refine lv_aload_n (pc := 95) hx hb dX1_become_95 rfl (lv_at hl 1 rfl) ?_
                    refine z_get (pc := 96) cx (hW.at 6 rfl) (C := RX1) (T := TX1) (N := 8) rfl i_X1 6 rfl m_fl_X1_32 rfl dX1_become_96 ?_
                    refine lv_iload_n (pc := 99) hx hb dX1_become_99 rfl (lv_at hl 0 rfl) ?_
                    refine lv_aload_n (pc := 100) hx hb dX1_become_100 rfl (lv_at hl 2 rfl) ?_
                    refine z_get (pc := 101) cx (hW.at 15 rfl) (C := RX1) (T := TX1) (N := 8) rfl i_X1 6 rfl m_fl_X1_32 rfl dX1_become_101 ?_
                    refine lv_iload_n (pc := 104) hx hb dX1_become_104 rfl (lv_at hl 0 rfl) ?_
                    refine z_aald (pc := 105) (f := xap) (j := i) cx 3 rfl (hW.at 20 rfl) rfl (by omega) (by decide) dX1_become_105 ?_
                    refine z_aastO (pc := 106) (f := cpR xap ap i) (j := i) cx hW hS 11 3 0 rfl rfl (hra i hlt_i) rfl (hFb 11) rfl (by omega) (by decide) dX1_become_106 (fun H locs hW hS => ?_)
                    have hW : WW E (wK b E.2.1 (wT b E.2.1 xN xT xA xh xd xl xr xo xw xpp xtp xap xsg yN yT yA yh yd yl yr yo yw ypp ytp yap ysg zat zpl zlt zjo zfo zsz zby znu) pd qt qr tbu wst asw xN xT xA xh xd xl xr xo xw xpp xtp (va_up (cpR xap ap i) i (xap i)) sg uh ud up ur us ux) G H := hW
                    refine lv_iinc (pc := 107) (v := nI (i + 1)) (lv' := [(2, .int (nI (i + 1))), (0, .ref (b 6)), (1, .ref (b 15))]) hx hb dX1_become_107 hl (k := 0) rfl (nI_1 _) (by decide) rfl (fun ls hl => ?_)
                    refine lv_goto (pc := 110) (tgt := 89) hx hb dX1_become_110 (by decide) ?_
                    exact ih_89 (i + 1) (nI (i + 1)) (by omega) (by omega) (by first | rfl | (simp []; done))  _ _  (by rw [← cpR_s]; exact hW) hS ls (lv_sub hl [0, 1, 2] rfl)
              exact loop_89 ((24 - 0) + 1) 0 0 (Nat.lt_succ_self _) (by omega) (by first | rfl | (simp []; done))  _ _  (by rw [cpR_0]; exact hW) hS ls (lv_sub hl [0, 1, 2] rfl)
            · skip
              have hlt_i := lt_nat (a := i) (b := 7) rfl rfl (by omega) (by omega) c_2
              refine lv_aload_n (pc := 69) hx hb dX1_become_69 rfl (lv_at hl 1 rfl) ?_
              refine z_get (pc := 70) cx (hW.at 6 rfl) (C := RX1) (T := TX1) (N := 8) rfl i_X1 5 rfl m_fl_X1_26 rfl dX1_become_70 ?_
              refine lv_iload_n (pc := 73) hx hb dX1_become_73 rfl (lv_at hl 0 rfl) ?_
              refine lv_aload_n (pc := 74) hx hb dX1_become_74 rfl (lv_at hl 2 rfl) ?_
              refine z_get (pc := 75) cx (hW.at 15 rfl) (C := RX1) (T := TX1) (N := 8) rfl i_X1 5 rfl m_fl_X1_26 rfl dX1_become_75 ?_
              refine lv_iload_n (pc := 78) hx hb dX1_become_78 rfl (lv_at hl 0 rfl) ?_
              refine z_aald (pc := 79) (f := xtp) (j := i) cx 2 rfl (hW.at 19 rfl) rfl (by omega) (by decide) dX1_become_79 ?_
              refine z_aastO (pc := 80) (f := cpR xtp tp i) (j := i) cx hW hS 10 2 6 rfl rfl (hrt i hlt_i) rfl (hFb 10) rfl (by omega) (by decide) dX1_become_80 (fun H locs hW hS => ?_)
              have hW : WW E (wK b E.2.1 (wT b E.2.1 xN xT xA xh xd xl xr xo xw xpp xtp xap xsg yN yT yA yh yd yl yr yo yw ypp ytp yap ysg zat zpl zlt zjo zfo zsz zby znu) pd qt qr tbu wst asw xN xT xA xh xd xl xr xo xw xpp (va_up (cpR xtp tp i) i (xtp i)) ap sg uh ud up ur us ux) G H := hW
              refine lv_iinc (pc := 81) (v := nI (i + 1)) (lv' := [(2, .int (nI (i + 1))), (0, .ref (b 6)), (1, .ref (b 15))]) hx hb dX1_become_81 hl (k := 0) rfl (nI_1 _) (by decide) rfl (fun ls hl => ?_)
              refine lv_goto (pc := 84) (tgt := 63) hx hb dX1_become_84 (by decide) ?_
              exact ih_63 (i + 1) (nI (i + 1)) (by omega) (by omega) (by first | rfl | (simp []; done))  _ _  (by rw [← cpR_s]; exact hW) hS ls (lv_sub hl [0, 1, 2] rfl)
        exact loop_63 ((7 - 0) + 1) 0 0 (Nat.lt_succ_self _) (by omega) (by first | rfl | (simp []; done))  _ _  (by rw [cpR_0]; exact hW) hS ls (lv_sub hl [0, 1, 2] rfl)
      · skip
        have hlt_i := lt_nat (a := i) (b := 10) rfl rfl (by omega) (by omega) c_1
        refine lv_aload_n (pc := 43) hx hb dX1_become_43 rfl (lv_at hl 1 rfl) ?_
        refine z_get (pc := 44) cx (hW.at 6 rfl) (C := RX1) (T := TX1) (N := 8) rfl i_X1 4 rfl m_fl_X1_20 rfl dX1_become_44 ?_
        refine lv_iload_n (pc := 47) hx hb dX1_become_47 rfl (lv_at hl 0 rfl) ?_
        refine lv_aload_n (pc := 48) hx hb dX1_become_48 rfl (lv_at hl 2 rfl) ?_
        refine z_get (pc := 49) cx (hW.at 15 rfl) (C := RX1) (T := TX1) (N := 8) rfl i_X1 4 rfl m_fl_X1_20 rfl dX1_become_49 ?_
        refine lv_iload_n (pc := 52) hx hb dX1_become_52 rfl (lv_at hl 0 rfl) ?_
        refine z_aald (pc := 53) (f := xpp) (j := i) cx 1 rfl (hW.at 18 rfl) rfl (by omega) (by decide) dX1_become_53 ?_
        refine z_aastO (pc := 54) (f := cpR xpp pp i) (j := i) cx hW hS 9 1 2 rfl rfl (hrp i hlt_i) rfl (hFb 9) rfl (by omega) (by decide) dX1_become_54 (fun H locs hW hS => ?_)
        have hW : WW E (wK b E.2.1 (wT b E.2.1 xN xT xA xh xd xl xr xo xw xpp xtp xap xsg yN yT yA yh yd yl yr yo yw ypp ytp yap ysg zat zpl zlt zjo zfo zsz zby znu) pd qt qr tbu wst asw xN xT xA xh xd xl xr xo xw (va_up (cpR xpp pp i) i (xpp i)) tp ap sg uh ud up ur us ux) G H := hW
        refine lv_iinc (pc := 55) (v := nI (i + 1)) (lv' := [(2, .int (nI (i + 1))), (0, .ref (b 6)), (1, .ref (b 15))]) hx hb dX1_become_55 hl (k := 0) rfl (nI_1 _) (by decide) rfl (fun ls hl => ?_)
        refine lv_goto (pc := 58) (tgt := 37) hx hb dX1_become_58 (by decide) ?_
        exact ih_37 (i + 1) (nI (i + 1)) (by omega) (by omega) (by first | rfl | (simp []; done))  _ _  (by rw [← cpR_s]; exact hW) hS ls (lv_sub hl [0, 1, 2] rfl)
  exact loop_37 ((10 - 0) + 1) 0 0 (Nat.lt_succ_self _) (by omega) (by first | rfl | (simp []; done))  _ _  (by rw [cpR_0]; exact hW) hS ls (lv_sub hl [0, 1, 2] rfl)
theorem k_X1_become_fp {p : Program} {l : Launch} {e : Env} {R : Room} {s : State} {m : MethodId} {args : Array Value} {below : List Frame} {meth : Method} {c : Code} {H H0 : Heap} {locs : List Loc} {cells slots : Nat} {Q : State → Prop} {cc : ByteArray} {pc index : Nat} {ls : Array Slot} {rest st0 : List Value} {E : zE} {own : String} {nL : Nat} {F : Nat → Prop} {b : Nat → Nat} {pd : Bool} {qt : Nat → Option Nat} {qr : Nat → Option Nat} {tbu : Nat → Int32} {wst : Nat → Int32} {asw : Nat → Int32} {pN : Int32} {tN : Int32} {aN : Int32} {hd : Int32} {dr : Int32} {pl : Int32} {rm : Int32} {ps : Int32} {wx : Nat → Int32} {pp : Nat → Option Nat} {tp : Nat → Option Nat} {ap : Nat → Option Nat} {sg : Nat → Int32} {uh : Int32} {ud : Int32} {up : Int32} {ur : Int32} {us : Int32} {ux : Nat → Int32} {xN : Int32} {xT : Int32} {xA : Int32} {xh : Int32} {xd : Int32} {xl : Int32} {xr : Int32} {xo : Int32} {xw : Nat → Int32} {xpp : Nat → Option Nat} {xtp : Nat → Option Nat} {xap : Nat → Option Nat} {xsg : Nat → Int32} {yN : Int32} {yT : Int32} {yA : Int32} {yh : Int32} {yd : Int32} {yl : Int32} {yr : Int32} {yo : Int32} {yw : Nat → Int32} {ypp : Nat → Option Nat} {ytp : Nat → Option Nat} {yap : Nat → Option Nat} {ysg : Nat → Int32} {zat : Int32} {zpl : Int32} {zlt : Int32} {zjo : Bool} {zfo : Int32} {zsz : Int32} {zby : Nat → Int32} {znu : Nat → Int32} {G : zG}  (cx : Cx E p s args m c own cc nL) (hW : WW E (wK b E.2.1 (wT b E.2.1 xN xT xA xh xd xl xr xo xw xpp xtp xap xsg yN yT yA yh yd yl yr yo yw ypp ytp yap ysg zat zpl zlt zjo zfo zsz zby znu) pd qt qr tbu wst asw pN tN aN hd dr pl rm ps wx pp tp ap sg uh ud up ur us ux) G H) (hS : va_S F H0 H locs) (zF : ∀ q, (bF b) q → F q) (hrp : RfG G 2 10 xpp) (hrt : RfG G 6 7 xtp) (hra : RfG G 0 24 xap) (zl : Cond.methodLink own index yX1_become ∈ AllW) (zR : 2 + 1 ≤ R.frames ∧ 8 + (3 + 11) + 101 ≤ R.locals) (zs : ls.size = nL) (zt : st0 = ([.ref (b 15)] : List Value).reverse ++ .ref (b 6) :: rest) (z8 : (rest.map fun v => v.category).sum ≤ 8) (zd : decode cc pc = .ok (.invokevirtual index, 3)) (zf : cells ≤ R.cells ∧ slots ≤ R.slots) (kk0 : ∀  (H1 : Heap) (locs1 : List Loc), WW E (wK b E.2.1 (wT b E.2.1 xN xT xA xh xd xl xr xo xw xpp xtp xap xsg yN yT yA yh yd yl yr yo yw ypp ytp yap ysg zat zpl zlt zjo zfo zsz zby znu) pd qt qr tbu wst asw xN xT xA xh xd xl xr xo xw xpp xtp xap sg uh ud up ur us ux) G H1 → va_S F H0 H1 locs1 → W p l e R s m args below meth c H1 locs1 cells slots Q (F0 m (pc + 3) ls (rest))) : W p l e R s m args below meth c H locs cells slots Q (F0 m pc ls st0) := by
  refine z_callVw cx vm_X1_become (c_X1_become_fp l E b pd qt qr tbu wst asw pN tN aN hd dr pl rm ps wx pp tp ap sg uh ud up ur us ux xN xT xA xh xd xl xr xo xw xpp xtp xap xsg yN yT yA yh yd yl yr yo yw ypp ytp yap ysg zat zpl zlt zjo zfo zsz zby znu G hrp hrt hra) (z_rec cx.2 (hW.at 6 rfl) rfl) hW hS zF zl ⟨rfl, rfl⟩ zR rfl zs zt z8 zd zf (fun v H1 locs1 hq hS1 _ => ?_)
  rcases hq with ⟨rfl, hW1⟩
  · exact kk0  H1 locs1  hW1 hS1
set_option maxHeartbeats 1000000 in
set_option maxRecDepth 100000 in
theorem c_X5_become_tf (l : Launch) (E : zE) (b : Nat → Nat) (pd : Bool) (qt : Nat → Option Nat) (qr : Nat → Option Nat) (tbu : Nat → Int32) (wst : Nat → Int32) (asw : Nat → Int32) (pN : Int32) (tN : Int32) (aN : Int32) (hd : Int32) (dr : Int32) (pl : Int32) (rm : Int32) (ps : Int32) (wx : Nat → Int32) (pp : Nat → Option Nat) (tp : Nat → Option Nat) (ap : Nat → Option Nat) (sg : Nat → Int32) (uh : Int32) (ud : Int32) (up : Int32) (ur : Int32) (us : Int32) (ux : Nat → Int32) (xN : Int32) (xT : Int32) (xA : Int32) (xh : Int32) (xd : Int32) (xl : Int32) (xr : Int32) (xo : Int32) (xw : Nat → Int32) (xpp : Nat → Option Nat) (xtp : Nat → Option Nat) (xap : Nat → Option Nat) (xsg : Nat → Int32) (yN : Int32) (yT : Int32) (yA : Int32) (yh : Int32) (yd : Int32) (yl : Int32) (yr : Int32) (yo : Int32) (yw : Nat → Int32) (ypp : Nat → Option Nat) (ytp : Nat → Option Nat) (yap : Nat → Option Nat) (ysg : Nat → Int32) (zat : Int32) (zpl : Int32) (zlt : Int32) (zjo : Bool) (zfo : Int32) (zsz : Int32) (zby : Nat → Int32) (znu : Nat → Int32) (G : zG)   : Met l yX5_become (.code yX5_become cX5_become 2 none :: AllW) (rm0' 1 80) (zP E (fun H => WW E (wK b E.2.1 (wT b E.2.1 xN xT xA xh xd xl xr xo xw xpp xtp xap xsg yN yT yA yh yd yl yr yo yw ypp ytp yap ysg zat zpl zlt zjo zfo zsz zby znu) pd qt qr tbu wst asw pN tN aN hd dr pl rm ps wx pp tp ap sg uh ud up ur us ux) G H) [.ref (b 23), .ref (b 7)]) (zQ (fun (_ : Heap) (v : Option Value) (H1 : Heap) => (v = none ∧ WW E (wK b E.2.1 (wT b E.2.1 xN xT xA xh xd xl xr xo xw xpp xtp xap xsg yN yT yA hd dr pl rm ps wx ypp ytp yap ysg zat zpl zlt zjo zfo zsz zby znu) pd qt qr tbu wst asw pN tN aN hd dr pl rm ps wx pp tp ap sg uh ud up ur us ux) G H1)) (bF b)) 0 0 (bF b) := by
  refine z_body (own := RX5) (by decide) rfl rfl ?_
  intro p e s m args below meth c ls cx hr hlk hnm hW hl
  have hx := cx.x
  have hb := cx.b
  have hl : lv_has ls 2 [(0, .ref (b 23)), (1, .ref (b 7))] := hl
  have hFb : ∀ k, (bF b) (b k) := fun k => bF_in b k
  have hS : va_S (bF b) s.heap s.heap [] := va_S.rf
  refine lv_aload_n (pc := 0) hx hb dX5_become_0 rfl (lv_at hl 0 rfl) ?_
  refine lv_aload_n (pc := 1) hx hb dX5_become_1 rfl (lv_at hl 1 rfl) ?_
  refine z_get (pc := 2) cx (hW.at 7 rfl) (C := RX5) (T := TX5) (N := 6) rfl i_X5 0 rfl m_fl_X5_9 rfl dX5_become_2 ?_
  refine z_putK5 (pc := 5) cx hW hS 23 rfl (hFb 23) 0 rfl m_fl_X5_9 rfl rfl dX5_become_5 (fun H locs hW hS => ?_)
  have hW : WW E (wK b E.2.1 (wT b E.2.1 xN xT xA xh xd xl xr xo xw xpp xtp xap xsg yN yT yA hd yd yl yr yo yw ypp ytp yap ysg zat zpl zlt zjo zfo zsz zby znu) pd qt qr tbu wst asw pN tN aN hd dr pl rm ps wx pp tp ap sg uh ud up ur us ux) G H := hW
  refine lv_aload_n (pc := 8) hx hb dX5_become_8 rfl (lv_at hl 0 rfl) ?_
  refine lv_aload_n (pc := 9) hx hb dX5_become_9 rfl (lv_at hl 1 rfl) ?_
  refine z_get (pc := 10) cx (hW.at 7 rfl) (C := RX5) (T := TX5) (N := 6) rfl i_X5 1 rfl m_fl_X5_19 rfl dX5_become_10 ?_
  refine z_putK5 (pc := 13) cx hW hS 23 rfl (hFb 23) 1 rfl m_fl_X5_19 rfl rfl dX5_become_13 (fun H locs hW hS => ?_)
  have hW : WW E (wK b E.2.1 (wT b E.2.1 xN xT xA xh xd xl xr xo xw xpp xtp xap xsg yN yT yA hd dr yl yr yo yw ypp ytp yap ysg zat zpl zlt zjo zfo zsz zby znu) pd qt qr tbu wst asw pN tN aN hd dr pl rm ps wx pp tp ap sg uh ud up ur us ux) G H := hW
  refine lv_aload_n (pc := 16) hx hb dX5_become_16 rfl (lv_at hl 0 rfl) ?_
  refine lv_aload_n (pc := 17) hx hb dX5_become_17 rfl (lv_at hl 1 rfl) ?_
  refine z_get (pc := 18) cx (hW.at 7 rfl) (C := RX5) (T := TX5) (N := 6) rfl i_X5 2 rfl m_fl_X5_22 rfl dX5_become_18 ?_
  refine z_putK5 (pc := 21) cx hW hS 23 rfl (hFb 23) 2 rfl m_fl_X5_22 rfl rfl dX5_become_21 (fun H locs hW hS => ?_)
  have hW : WW E (wK b E.2.1 (wT b E.2.1 xN xT xA xh xd xl xr xo xw xpp xtp xap xsg yN yT yA hd dr pl yr yo yw ypp ytp yap ysg zat zpl zlt zjo zfo zsz zby znu) pd qt qr tbu wst asw pN tN aN hd dr pl rm ps wx pp tp ap sg uh ud up ur us ux) G H := hW
  refine lv_aload_n (pc := 24) hx hb dX5_become_24 rfl (lv_at hl 0 rfl) ?_
  refine lv_aload_n (pc := 25) hx hb dX5_become_25 rfl (lv_at hl 1 rfl) ?_
  refine z_get (pc := 26) cx (hW.at 7 rfl) (C := RX5) (T := TX5) (N := 6) rfl i_X5 3 rfl m_fl_X5_25 rfl dX5_become_26 ?_
  refine z_putK5 (pc := 29) cx hW hS 23 rfl (hFb 23) 3 rfl m_fl_X5_25 rfl rfl dX5_become_29 (fun H locs hW hS => ?_)
  have hW : WW E (wK b E.2.1 (wT b E.2.1 xN xT xA xh xd xl xr xo xw xpp xtp xap xsg yN yT yA hd dr pl rm yo yw ypp ytp yap ysg zat zpl zlt zjo zfo zsz zby znu) pd qt qr tbu wst asw pN tN aN hd dr pl rm ps wx pp tp ap sg uh ud up ur us ux) G H := hW
  refine lv_aload_n (pc := 32) hx hb dX5_become_32 rfl (lv_at hl 0 rfl) ?_
  refine lv_aload_n (pc := 33) hx hb dX5_become_33 rfl (lv_at hl 1 rfl) ?_
  refine z_get (pc := 34) cx (hW.at 7 rfl) (C := RX5) (T := TX5) (N := 6) rfl i_X5 4 rfl m_fl_X5_28 rfl dX5_become_34 ?_
  refine z_putK5 (pc := 37) cx hW hS 23 rfl (hFb 23) 4 rfl m_fl_X5_28 rfl rfl dX5_become_37 (fun H locs hW hS => ?_)
  have hW : WW E (wK b E.2.1 (wT b E.2.1 xN xT xA xh xd xl xr xo xw xpp xtp xap xsg yN yT yA hd dr pl rm ps yw ypp ytp yap ysg zat zpl zlt zjo zfo zsz zby znu) pd qt qr tbu wst asw pN tN aN hd dr pl rm ps wx pp tp ap sg uh ud up ur us ux) G H := hW
  refine lv_aload_n (pc := 40) hx hb dX5_become_40 rfl (lv_at hl 1 rfl) ?_
  refine z_get (pc := 41) cx (hW.at 7 rfl) (C := RX5) (T := TX5) (N := 6) rfl i_X5 5 rfl m_fl_X5_15 rfl dX5_become_41 ?_
  refine lv_iconst (pc := 44) (v := 0) hx hb dX5_become_44 (by decide) ?_
  refine lv_aload_n (pc := 45) hx hb dX5_become_45 rfl (lv_at hl 0 rfl) ?_
  refine z_get (pc := 46) cx (hW.at 23 rfl) (C := RX5) (T := TX5) (N := 6) rfl i_X5 5 rfl m_fl_X5_15 rfl dX5_become_46 ?_
  refine lv_iconst (pc := 49) (v := 0) hx hb dX5_become_49 (by decide) ?_
  refine lv_bipush (pc := 50) (v := 10) hx hb dX5_become_50 (by decide) ?_
  refine z_copyI (pc := 52) (n := 10) cx hW hS 24 (hW.at 8 rfl) rfl (hFb 24) (by decide) hl.1 m_ml_X5_31 ⟨Nat.le_of_ble_eq_true rfl, Nat.le_of_ble_eq_true rfl⟩ (by simp [Value.category]) dX5_become_52 (fun H locs hW hS => ?_)
  have hW : WW E (wK b E.2.1 (wT b E.2.1 xN xT xA xh xd xl xr xo xw xpp xtp xap xsg yN yT yA hd dr pl rm ps wx ypp ytp yap ysg zat zpl zlt zjo zfo zsz zby znu) pd qt qr tbu wst asw pN tN aN hd dr pl rm ps wx pp tp ap sg uh ud up ur us ux) G H := hW
  exact z_wvret cx hr hlk dX5_become_55 hS ⟨rfl, hW⟩
theorem k_X5_become_tf {p : Program} {l : Launch} {e : Env} {R : Room} {s : State} {m : MethodId} {args : Array Value} {below : List Frame} {meth : Method} {c : Code} {H H0 : Heap} {locs : List Loc} {cells slots : Nat} {Q : State → Prop} {cc : ByteArray} {pc index : Nat} {ls : Array Slot} {rest st0 : List Value} {E : zE} {own : String} {nL : Nat} {F : Nat → Prop} {b : Nat → Nat} {pd : Bool} {qt : Nat → Option Nat} {qr : Nat → Option Nat} {tbu : Nat → Int32} {wst : Nat → Int32} {asw : Nat → Int32} {pN : Int32} {tN : Int32} {aN : Int32} {hd : Int32} {dr : Int32} {pl : Int32} {rm : Int32} {ps : Int32} {wx : Nat → Int32} {pp : Nat → Option Nat} {tp : Nat → Option Nat} {ap : Nat → Option Nat} {sg : Nat → Int32} {uh : Int32} {ud : Int32} {up : Int32} {ur : Int32} {us : Int32} {ux : Nat → Int32} {xN : Int32} {xT : Int32} {xA : Int32} {xh : Int32} {xd : Int32} {xl : Int32} {xr : Int32} {xo : Int32} {xw : Nat → Int32} {xpp : Nat → Option Nat} {xtp : Nat → Option Nat} {xap : Nat → Option Nat} {xsg : Nat → Int32} {yN : Int32} {yT : Int32} {yA : Int32} {yh : Int32} {yd : Int32} {yl : Int32} {yr : Int32} {yo : Int32} {yw : Nat → Int32} {ypp : Nat → Option Nat} {ytp : Nat → Option Nat} {yap : Nat → Option Nat} {ysg : Nat → Int32} {zat : Int32} {zpl : Int32} {zlt : Int32} {zjo : Bool} {zfo : Int32} {zsz : Int32} {zby : Nat → Int32} {znu : Nat → Int32} {G : zG}  (cx : Cx E p s args m c own cc nL) (hW : WW E (wK b E.2.1 (wT b E.2.1 xN xT xA xh xd xl xr xo xw xpp xtp xap xsg yN yT yA yh yd yl yr yo yw ypp ytp yap ysg zat zpl zlt zjo zfo zsz zby znu) pd qt qr tbu wst asw pN tN aN hd dr pl rm ps wx pp tp ap sg uh ud up ur us ux) G H) (hS : va_S F H0 H locs) (zF : ∀ q, (bF b) q → F q)  (zl : Cond.methodLink own index yX5_become ∈ AllW) (zR : 1 + 1 ≤ R.frames ∧ 8 + (2 + 11) + 80 ≤ R.locals) (zs : ls.size = nL) (zt : st0 = ([.ref (b 7)] : List Value).reverse ++ .ref (b 23) :: rest) (z8 : (rest.map fun v => v.category).sum ≤ 8) (zd : decode cc pc = .ok (.invokevirtual index, 3)) (zf : cells ≤ R.cells ∧ slots ≤ R.slots) (kk0 : ∀  (H1 : Heap) (locs1 : List Loc), WW E (wK b E.2.1 (wT b E.2.1 xN xT xA xh xd xl xr xo xw xpp xtp xap xsg yN yT yA hd dr pl rm ps wx ypp ytp yap ysg zat zpl zlt zjo zfo zsz zby znu) pd qt qr tbu wst asw pN tN aN hd dr pl rm ps wx pp tp ap sg uh ud up ur us ux) G H1 → va_S F H0 H1 locs1 → W p l e R s m args below meth c H1 locs1 cells slots Q (F0 m (pc + 3) ls (rest))) : W p l e R s m args below meth c H locs cells slots Q (F0 m pc ls st0) := by
  refine z_callVw cx vm_X5_become (c_X5_become_tf l E b pd qt qr tbu wst asw pN tN aN hd dr pl rm ps wx pp tp ap sg uh ud up ur us ux xN xT xA xh xd xl xr xo xw xpp xtp xap xsg yN yT yA yh yd yl yr yo yw ypp ytp yap ysg zat zpl zlt zjo zfo zsz zby znu G) (z_rec cx.2 (hW.at 23 rfl) rfl) hW hS zF zl ⟨rfl, rfl⟩ zR rfl zs zt z8 zd zf (fun v H1 locs1 hq hS1 _ => ?_)
  rcases hq with ⟨rfl, hW1⟩
  · exact kk0  H1 locs1  hW1 hS1
set_option maxHeartbeats 1000000 in
set_option maxRecDepth 100000 in
theorem c_X1_become_tf (l : Launch) (E : zE) (b : Nat → Nat) (pd : Bool) (qt : Nat → Option Nat) (qr : Nat → Option Nat) (tbu : Nat → Int32) (wst : Nat → Int32) (asw : Nat → Int32) (pN : Int32) (tN : Int32) (aN : Int32) (hd : Int32) (dr : Int32) (pl : Int32) (rm : Int32) (ps : Int32) (wx : Nat → Int32) (pp : Nat → Option Nat) (tp : Nat → Option Nat) (ap : Nat → Option Nat) (sg : Nat → Int32) (uh : Int32) (ud : Int32) (up : Int32) (ur : Int32) (us : Int32) (ux : Nat → Int32) (xN : Int32) (xT : Int32) (xA : Int32) (xh : Int32) (xd : Int32) (xl : Int32) (xr : Int32) (xo : Int32) (xw : Nat → Int32) (xpp : Nat → Option Nat) (xtp : Nat → Option Nat) (xap : Nat → Option Nat) (xsg : Nat → Int32) (yN : Int32) (yT : Int32) (yA : Int32) (yh : Int32) (yd : Int32) (yl : Int32) (yr : Int32) (yo : Int32) (yw : Nat → Int32) (ypp : Nat → Option Nat) (ytp : Nat → Option Nat) (yap : Nat → Option Nat) (ysg : Nat → Int32) (zat : Int32) (zpl : Int32) (zlt : Int32) (zjo : Bool) (zfo : Int32) (zsz : Int32) (zby : Nat → Int32) (znu : Nat → Int32) (G : zG)  (hrp : RfG G 2 10 pp) (hrt : RfG G 6 7 tp) (hra : RfG G 0 24 ap) : Met l yX1_become (.code yX1_become cX1_become 3 none :: AllW) (rm0' 2 101) (zP E (fun H => WW E (wK b E.2.1 (wT b E.2.1 xN xT xA xh xd xl xr xo xw xpp xtp xap xsg yN yT yA yh yd yl yr yo yw ypp ytp yap ysg zat zpl zlt zjo zfo zsz zby znu) pd qt qr tbu wst asw pN tN aN hd dr pl rm ps wx pp tp ap sg uh ud up ur us ux) G H) [.ref (b 22), .ref (b 6)]) (zQ (fun (_ : Heap) (v : Option Value) (H1 : Heap) => (v = none ∧ WW E (wK b E.2.1 (wT b E.2.1 xN xT xA xh xd xl xr xo xw xpp xtp xap xsg pN tN aN hd dr pl rm ps wx pp tp ap ysg zat zpl zlt zjo zfo zsz zby znu) pd qt qr tbu wst asw pN tN aN hd dr pl rm ps wx pp tp ap sg uh ud up ur us ux) G H1)) (bF b)) 0 0 (bF b) := by
  refine z_body (own := RX1) (by decide) rfl rfl ?_
  intro p e s m args below meth c ls cx hr hlk hnm hW hl
  have hx := cx.x
  have hb := cx.b
  have hl : lv_has ls 3 [(0, .ref (b 22)), (1, .ref (b 6))] := hl
  have hFb : ∀ k, (bF b) (b k) := fun k => bF_in b k
  have hS : va_S (bF b) s.heap s.heap [] := va_S.rf
  refine lv_aload_n (pc := 0) hx hb dX1_become_0 rfl (lv_at hl 0 rfl) ?_
  refine lv_aload_n (pc := 1) hx hb dX1_become_1 rfl (lv_at hl 1 rfl) ?_
  refine z_get (pc := 2) cx (hW.at 6 rfl) (C := RX1) (T := TX1) (N := 8) rfl i_X1 0 rfl m_fl_X1_40 rfl dX1_become_2 ?_
  refine z_putK1 (pc := 5) cx hW hS 22 rfl (hFb 22) 0 rfl m_fl_X1_40 rfl rfl dX1_become_5 (fun H locs hW hS => ?_)
  have hW : WW E (wK b E.2.1 (wT b E.2.1 xN xT xA xh xd xl xr xo xw xpp xtp xap xsg pN yT yA yh yd yl yr yo yw ypp ytp yap ysg zat zpl zlt zjo zfo zsz zby znu) pd qt qr tbu wst asw pN tN aN hd dr pl rm ps wx pp tp ap sg uh ud up ur us ux) G H := hW
  refine lv_aload_n (pc := 8) hx hb dX1_become_8 rfl (lv_at hl 0 rfl) ?_
  refine lv_aload_n (pc := 9) hx hb dX1_become_9 rfl (lv_at hl 1 rfl) ?_
  refine z_get (pc := 10) cx (hW.at 6 rfl) (C := RX1) (T := TX1) (N := 8) rfl i_X1 1 rfl m_fl_X1_44 rfl dX1_become_10 ?_
  refine z_putK1 (pc := 13) cx hW hS 22 rfl (hFb 22) 1 rfl m_fl_X1_44 rfl rfl dX1_become_13 (fun H locs hW hS => ?_)
  have hW : WW E (wK b E.2.1 (wT b E.2.1 xN xT xA xh xd xl xr xo xw xpp xtp xap xsg pN tN yA yh yd yl yr yo yw ypp ytp yap ysg zat zpl zlt zjo zfo zsz zby znu) pd qt qr tbu wst asw pN tN aN hd dr pl rm ps wx pp tp ap sg uh ud up ur us ux) G H := hW
  refine lv_aload_n (pc := 16) hx hb dX1_become_16 rfl (lv_at hl 0 rfl) ?_
  refine lv_aload_n (pc := 17) hx hb dX1_become_17 rfl (lv_at hl 1 rfl) ?_
  refine z_get (pc := 18) cx (hW.at 6 rfl) (C := RX1) (T := TX1) (N := 8) rfl i_X1 2 rfl m_fl_X1_47 rfl dX1_become_18 ?_
  refine z_putK1 (pc := 21) cx hW hS 22 rfl (hFb 22) 2 rfl m_fl_X1_47 rfl rfl dX1_become_21 (fun H locs hW hS => ?_)
  have hW : WW E (wK b E.2.1 (wT b E.2.1 xN xT xA xh xd xl xr xo xw xpp xtp xap xsg pN tN aN yh yd yl yr yo yw ypp ytp yap ysg zat zpl zlt zjo zfo zsz zby znu) pd qt qr tbu wst asw pN tN aN hd dr pl rm ps wx pp tp ap sg uh ud up ur us ux) G H := hW
  refine lv_aload_n (pc := 24) hx hb dX1_become_24 rfl (lv_at hl 0 rfl) ?_
  refine z_get (pc := 25) cx (hW.at 22 rfl) (C := RX1) (T := TX1) (N := 8) rfl i_X1 3 rfl m_fl_X1_12 rfl dX1_become_25 ?_
  refine lv_aload_n (pc := 28) hx hb dX1_become_28 rfl (lv_at hl 1 rfl) ?_
  refine z_get (pc := 29) cx (hW.at 6 rfl) (C := RX1) (T := TX1) (N := 8) rfl i_X1 3 rfl m_fl_X1_12 rfl dX1_become_29 ?_
  refine k_X5_become_tf (pc := 32)  cx hW hS (fun _ h => h)  m_ml_X1_50 ⟨Nat.le_of_ble_eq_true rfl, Nat.le_of_ble_eq_true rfl⟩ hl.1 rfl (by simp [Value.category]) dX1_become_32 ⟨Nat.le_refl _, Nat.le_refl _⟩ (fun  H locs  hW hS => ?_)
  have hW : WW E (wK b E.2.1 (wT b E.2.1 xN xT xA xh xd xl xr xo xw xpp xtp xap xsg pN tN aN hd dr pl rm ps wx ypp ytp yap ysg zat zpl zlt zjo zfo zsz zby znu) pd qt qr tbu wst asw pN tN aN hd dr pl rm ps wx pp tp ap sg uh ud up ur us ux) G H := hW
  refine lv_iconst (pc := 35) (v := 0) hx hb dX1_become_35 (by decide) ?_
  refine lv_istore_n (pc := 36) (lv' := [(2, .int 0), (0, .ref (b 22)), (1, .ref (b 6))]) hx hb dX1_become_36 rfl hl (by decide) rfl (fun ls hl => ?_)
  have loop_37 : ∀ (k_37 : Nat) (i : Nat) (x2 : Int32), (10 - i) < k_37 → (i ≤ 10) → x2 = nI i → ∀ (H : Heap) (locs : List Loc), WW E (wK b E.2.1 (wT b E.2.1 xN xT xA xh xd xl xr xo xw xpp xtp xap xsg pN tN aN hd dr pl rm ps wx (cpR pp ypp i) ytp yap ysg zat zpl zlt zjo zfo zsz zby znu) pd qt qr tbu wst asw pN tN aN hd dr pl rm ps wx pp tp ap sg uh ud up ur us ux) G H → va_S (bF b) s.heap H locs → ∀ (ls : Array Slot), lv_has ls 3 [(2, .int x2), (0, .ref (b 22)), (1, .ref (b 6))] → W p l e (rm0' (2) (101)) s m args below meth c H locs 0 0 (MQ below (zQ (fun (_ : Heap) (v : Option Value) (H1 : Heap) => (v = none ∧ WW E (wK b E.2.1 (wT b E.2.1 xN xT xA xh xd xl xr xo xw xpp xtp xap xsg pN tN aN hd dr pl rm ps wx pp tp ap ysg zat zpl zlt zjo zfo zsz zby znu) pd qt qr tbu wst asw pN tN aN hd dr pl rm ps wx pp tp ap sg uh ud up ur us ux) G H1)) (bF b)) args s 0 0 (bF b)) (F0 m 37 ls []) := by
    intro k_37
    induction k_37 with
    | zero =>
      intro i x2 hm
      exact absurd hm (Nat.not_lt_zero _)
    | succ k_37 ih_37 =>
      intro i x2 hm_37 hi e_x2  H locs  hW hS ls hl
      subst e_x2
      refine lv_iload_n (pc := 37) hx hb dX1_become_37 rfl (lv_at hl 0 rfl) ?_
      refine lv_bipush (pc := 38) (v := 10) hx hb dX1_become_38 (by decide) ?_
      refine lv_icmp_ge (pc := 40) (tgt := 61) hx hb dX1_become_40 (by decide) (fun c_1 => ?_) (fun c_1 => ?_)
      · skip
        obtain rfl : i = 10 := by have := ge_nat (a := i) (b := 10) rfl rfl (by omega) (by omega) c_1; omega
        have hW := hW.congrR (i := 25) rfl (g := pp) (fun j hj => by unfold cpR; exact if_pos hj)
        have hW : WW E (wK b E.2.1 (wT b E.2.1 xN xT xA xh xd xl xr xo xw xpp xtp xap xsg pN tN aN hd dr pl rm ps wx pp ytp yap ysg zat zpl zlt zjo zfo zsz zby znu) pd qt qr tbu wst asw pN tN aN hd dr pl rm ps wx pp tp ap sg uh ud up ur us ux) G H := hW
        refine lv_iconst (pc := 61) (v := 0) hx hb dX1_become_61 (by decide) ?_
        refine lv_istore_n (pc := 62) (lv' := [(2, .int 0), (0, .ref (b 22)), (1, .ref (b 6))]) hx hb dX1_become_62 rfl hl (by decide) rfl (fun ls hl => ?_)
        have loop_63 : ∀ (k_63 : Nat) (i : Nat) (x2 : Int32), (7 - i) < k_63 → (i ≤ 7) → x2 = nI i → ∀ (H : Heap) (locs : List Loc), WW E (wK b E.2.1 (wT b E.2.1 xN xT xA xh xd xl xr xo xw xpp xtp xap xsg pN tN aN hd dr pl rm ps wx pp (cpR tp ytp i) yap ysg zat zpl zlt zjo zfo zsz zby znu) pd qt qr tbu wst asw pN tN aN hd dr pl rm ps wx pp tp ap sg uh ud up ur us ux) G H → va_S (bF b) s.heap H locs → ∀ (ls : Array Slot), lv_has ls 3 [(2, .int x2), (0, .ref (b 22)), (1, .ref (b 6))] → W p l e (rm0' (2) (101)) s m args below meth c H locs 0 0 (MQ below (zQ (fun (_ : Heap) (v : Option Value) (H1 : Heap) => (v = none ∧ WW E (wK b E.2.1 (wT b E.2.1 xN xT xA xh xd xl xr xo xw xpp xtp xap xsg pN tN aN hd dr pl rm ps wx pp tp ap ysg zat zpl zlt zjo zfo zsz zby znu) pd qt qr tbu wst asw pN tN aN hd dr pl rm ps wx pp tp ap sg uh ud up ur us ux) G H1)) (bF b)) args s 0 0 (bF b)) (F0 m 63 ls []) := by
          intro k_63
          induction k_63 with
          | zero =>
            intro i x2 hm
            exact absurd hm (Nat.not_lt_zero _)
          | succ k_63 ih_63 =>
            intro i x2 hm_63 hi e_x2  H locs  hW hS ls hl
            subst e_x2
            refine lv_iload_n (pc := 63) hx hb dX1_become_63 rfl (lv_at hl 0 rfl) ?_
            refine lv_bipush (pc := 64) (v := 7) hx hb dX1_become_64 (by decide) ?_
            refine lv_icmp_ge (pc := 66) (tgt := 87) hx hb dX1_become_66 (by decide) (fun c_2 => ?_) (fun c_2 => ?_)
            · skip
              obtain rfl : i = 7 := by have := ge_nat (a := i) (b := 7) rfl rfl (by omega) (by omega) c_2; omega
              have hW := hW.congrR (i := 26) rfl (g := tp) (fun j hj => by unfold cpR; exact if_pos hj)
              have hW : WW E (wK b E.2.1 (wT b E.2.1 xN xT xA xh xd xl xr xo xw xpp xtp xap xsg pN tN aN hd dr pl rm ps wx pp tp yap ysg zat zpl zlt zjo zfo zsz zby znu) pd qt qr tbu wst asw pN tN aN hd dr pl rm ps wx pp tp ap sg uh ud up ur us ux) G H := hW
              refine lv_iconst (pc := 87) (v := 0) hx hb dX1_become_87 (by decide) ?_
              refine lv_istore_n (pc := 88) (lv' := [(2, .int 0), (0, .ref (b 22)), (1, .ref (b 6))]) hx hb dX1_become_88 rfl hl (by decide) rfl (fun ls hl => ?_)
              have loop_89 : ∀ (k_89 : Nat) (i : Nat) (x2 : Int32), (24 - i) < k_89 → (i ≤ 24) → x2 = nI i → ∀ (H : Heap) (locs : List Loc), WW E (wK b E.2.1 (wT b E.2.1 xN xT xA xh xd xl xr xo xw xpp xtp xap xsg pN tN aN hd dr pl rm ps wx pp tp (cpR ap yap i) ysg zat zpl zlt zjo zfo zsz zby znu) pd qt qr tbu wst asw pN tN aN hd dr pl rm ps wx pp tp ap sg uh ud up ur us ux) G H → va_S (bF b) s.heap H locs → ∀ (ls : Array Slot), lv_has ls 3 [(2, .int x2), (0, .ref (b 22)), (1, .ref (b 6))] → W p l e (rm0' (2) (101)) s m args below meth c H locs 0 0 (MQ below (zQ (fun (_ : Heap) (v : Option Value) (H1 : Heap) => (v = none ∧ WW E (wK b E.2.1 (wT b E.2.1 xN xT xA xh xd xl xr xo xw xpp xtp xap xsg pN tN aN hd dr pl rm ps wx pp tp ap ysg zat zpl zlt zjo zfo zsz zby znu) pd qt qr tbu wst asw pN tN aN hd dr pl rm ps wx pp tp ap sg uh ud up ur us ux) G H1)) (bF b)) args s 0 0 (bF b)) (F0 m 89 ls []) := by
                intro k_89
                induction k_89 with
                | zero =>
                  intro i x2 hm
                  exact absurd hm (Nat.not_lt_zero _)
                | succ k_89 ih_89 =>
                  intro i x2 hm_89 hi e_x2  H locs  hW hS ls hl
                  subst e_x2
                  refine lv_iload_n (pc := 89) hx hb dX1_become_89 rfl (lv_at hl 0 rfl) ?_
                  refine lv_bipush (pc := 90) (v := 24) hx hb dX1_become_90 (by decide) ?_
                  refine lv_icmp_ge (pc := 92) (tgt := 113) hx hb dX1_become_92 (by decide) (fun c_3 => ?_) (fun c_3 => ?_)
                  · skip
                    obtain rfl : i = 24 := by have := ge_nat (a := i) (b := 24) rfl rfl (by omega) (by omega) c_3; omega
                    have hW := hW.congrR (i := 27) rfl (g := ap) (fun j hj => by unfold cpR; exact if_pos hj)
                    have hW : WW E (wK b E.2.1 (wT b E.2.1 xN xT xA xh xd xl xr xo xw xpp xtp xap xsg pN tN aN hd dr pl rm ps wx pp tp ap ysg zat zpl zlt zjo zfo zsz zby znu) pd qt qr tbu wst asw pN tN aN hd dr pl rm ps wx pp tp ap sg uh ud up ur us ux) G H := hW
                    exact z_wvret cx hr hlk dX1_become_113 hS ⟨rfl, hW⟩
                  · skip
                    have hlt_i := lt_nat (a := i) (b := 24) rfl rfl (by omega) (by omega) c_3
                    refine lv_aload_n (pc := 95) hx hb dX1_become_95 rfl (lv_at hl 1 rfl) ?_
                    refine z_get (pc := 96) cx (hW.at 22 rfl) (C := RX1) (T := TX1) (N := 8) rfl i_X1 6 rfl m_fl_X1_32 rfl dX1_become_96 ?_
                    refine lv_iload_n (pc := 99) hx hb dX1_become_99 rfl (lv_at hl 0 rfl) ?_
                    refine lv_aload_n (pc := 100) hx hb dX1_become_100 rfl (lv_at hl 2 rfl) ?_
                    refine z_get (pc := 101) cx (hW.at 6 rfl) (C := RX1) (T := TX1) (N := 8) rfl i_X1 6 rfl m_fl_X1_32 rfl dX1_become_101 ?_
                    refine lv_iload_n (pc := 104) hx hb dX1_become_104 rfl (lv_at hl 0 rfl) ?_
                    refine z_aald (pc := 105) (f := ap) (j := i) cx 3 rfl (hW.at 11 rfl) rfl (by omega) (by decide) dX1_become_105 ?_
                    refine z_aastO (pc := 106) (f := cpR ap yap i) (j := i) cx hW hS 27 3 0 rfl rfl (hra i hlt_i) rfl (hFb 27) rfl (by omega) (by decide) dX1_become_106 (fun H locs hW hS => ?_)
                    have hW : WW E (wK b E.2.1 (wT b E.2.1 xN xT xA xh xd xl xr xo xw xpp xtp xap xsg pN tN aN hd dr pl rm ps wx pp tp (va_up (cpR ap yap i) i (ap i)) ysg zat zpl zlt zjo zfo zsz zby znu) pd qt qr tbu wst asw pN tN aN hd dr pl rm ps wx pp tp ap sg uh ud up ur us ux) G H := hW
                    refine lv_iinc (pc := 107) (v := nI (i + 1)) (lv' := [(2, .int (nI (i + 1))), (0, .ref (b 22)), (1, .ref (b 6))]) hx hb dX1_become_107 hl (k := 0) rfl (nI_1 _) (by decide) rfl (fun ls hl => ?_)
                    refine lv_goto (pc := 110) (tgt := 89) hx hb dX1_become_110 (by decide) ?_
                    exact ih_89 (i + 1) (nI (i + 1)) (by omega) (by omega) (by first | rfl | (simp []; done))  _ _  (by rw [← cpR_s]; exact hW) hS ls (lv_sub hl [0, 1, 2] rfl)
              exact loop_89 ((24 - 0) + 1) 0 0 (Nat.lt_succ_self _) (by omega) (by first | rfl | (simp []; done))  _ _  (by rw [cpR_0]; exact hW) hS ls (lv_sub hl [0, 1, 2] rfl)
            · skip
              have hlt_i := lt_nat (a := i) (b := 7) rfl rfl (by omega) (by omega) c_2
              refine lv_aload_n (pc := 69) hx hb dX1_become_69 rfl (lv_at hl 1 rfl) ?_
              refine z_get (pc := 70) cx (hW.at 22 rfl) (C := RX1) (T := TX1) (N := 8) rfl i_X1 5 rfl m_fl_X1_26 rfl dX1_become_70 ?_
              refine lv_iload_n (pc := 73) hx hb dX1_become_73 rfl (lv_at hl 0 rfl) ?_
              refine lv_aload_n (pc := 74) hx hb dX1_become_74 rfl (lv_at hl 2 rfl) ?_
              refine z_get (pc := 75) cx (hW.at 6 rfl) (C := RX1) (T := TX1) (N := 8) rfl i_X1 5 rfl m_fl_X1_26 rfl dX1_become_75 ?_
              refine lv_iload_n (pc := 78) hx hb dX1_become_78 rfl (lv_at hl 0 rfl) ?_
              refine z_aald (pc := 79) (f := tp) (j := i) cx 2 rfl (hW.at 10 rfl) rfl (by omega) (by decide) dX1_become_79 ?_
              refine z_aastO (pc := 80) (f := cpR tp ytp i) (j := i) cx hW hS 26 2 6 rfl rfl (hrt i hlt_i) rfl (hFb 26) rfl (by omega) (by decide) dX1_become_80 (fun H locs hW hS => ?_)
              have hW : WW E (wK b E.2.1 (wT b E.2.1 xN xT xA xh xd xl xr xo xw xpp xtp xap xsg pN tN aN hd dr pl rm ps wx pp (va_up (cpR tp ytp i) i (tp i)) yap ysg zat zpl zlt zjo zfo zsz zby znu) pd qt qr tbu wst asw pN tN aN hd dr pl rm ps wx pp tp ap sg uh ud up ur us ux) G H := hW
              refine lv_iinc (pc := 81) (v := nI (i + 1)) (lv' := [(2, .int (nI (i + 1))), (0, .ref (b 22)), (1, .ref (b 6))]) hx hb dX1_become_81 hl (k := 0) rfl (nI_1 _) (by decide) rfl (fun ls hl => ?_)
              refine lv_goto (pc := 84) (tgt := 63) hx hb dX1_become_84 (by decide) ?_
              exact ih_63 (i + 1) (nI (i + 1)) (by omega) (by omega) (by first | rfl | (simp []; done))  _ _  (by rw [← cpR_s]; exact hW) hS ls (lv_sub hl [0, 1, 2] rfl)
        exact loop_63 ((7 - 0) + 1) 0 0 (Nat.lt_succ_self _) (by omega) (by first | rfl | (simp []; done))  _ _  (by rw [cpR_0]; exact hW) hS ls (lv_sub hl [0, 1, 2] rfl)
      · skip
        have hlt_i := lt_nat (a := i) (b := 10) rfl rfl (by omega) (by omega) c_1
        refine lv_aload_n (pc := 43) hx hb dX1_become_43 rfl (lv_at hl 1 rfl) ?_
        refine z_get (pc := 44) cx (hW.at 22 rfl) (C := RX1) (T := TX1) (N := 8) rfl i_X1 4 rfl m_fl_X1_20 rfl dX1_become_44 ?_
        refine lv_iload_n (pc := 47) hx hb dX1_become_47 rfl (lv_at hl 0 rfl) ?_
        refine lv_aload_n (pc := 48) hx hb dX1_become_48 rfl (lv_at hl 2 rfl) ?_
        refine z_get (pc := 49) cx (hW.at 6 rfl) (C := RX1) (T := TX1) (N := 8) rfl i_X1 4 rfl m_fl_X1_20 rfl dX1_become_49 ?_
        refine lv_iload_n (pc := 52) hx hb dX1_become_52 rfl (lv_at hl 0 rfl) ?_
        refine z_aald (pc := 53) (f := pp) (j := i) cx 1 rfl (hW.at 9 rfl) rfl (by omega) (by decide) dX1_become_53 ?_
        refine z_aastO (pc := 54) (f := cpR pp ypp i) (j := i) cx hW hS 25 1 2 rfl rfl (hrp i hlt_i) rfl (hFb 25) rfl (by omega) (by decide) dX1_become_54 (fun H locs hW hS => ?_)
        have hW : WW E (wK b E.2.1 (wT b E.2.1 xN xT xA xh xd xl xr xo xw xpp xtp xap xsg pN tN aN hd dr pl rm ps wx (va_up (cpR pp ypp i) i (pp i)) ytp yap ysg zat zpl zlt zjo zfo zsz zby znu) pd qt qr tbu wst asw pN tN aN hd dr pl rm ps wx pp tp ap sg uh ud up ur us ux) G H := hW
        refine lv_iinc (pc := 55) (v := nI (i + 1)) (lv' := [(2, .int (nI (i + 1))), (0, .ref (b 22)), (1, .ref (b 6))]) hx hb dX1_become_55 hl (k := 0) rfl (nI_1 _) (by decide) rfl (fun ls hl => ?_)
        refine lv_goto (pc := 58) (tgt := 37) hx hb dX1_become_58 (by decide) ?_
        exact ih_37 (i + 1) (nI (i + 1)) (by omega) (by omega) (by first | rfl | (simp []; done))  _ _  (by rw [← cpR_s]; exact hW) hS ls (lv_sub hl [0, 1, 2] rfl)
  exact loop_37 ((10 - 0) + 1) 0 0 (Nat.lt_succ_self _) (by omega) (by first | rfl | (simp []; done))  _ _  (by rw [cpR_0]; exact hW) hS ls (lv_sub hl [0, 1, 2] rfl)
theorem k_X1_become_tf {p : Program} {l : Launch} {e : Env} {R : Room} {s : State} {m : MethodId} {args : Array Value} {below : List Frame} {meth : Method} {c : Code} {H H0 : Heap} {locs : List Loc} {cells slots : Nat} {Q : State → Prop} {cc : ByteArray} {pc index : Nat} {ls : Array Slot} {rest st0 : List Value} {E : zE} {own : String} {nL : Nat} {F : Nat → Prop} {b : Nat → Nat} {pd : Bool} {qt : Nat → Option Nat} {qr : Nat → Option Nat} {tbu : Nat → Int32} {wst : Nat → Int32} {asw : Nat → Int32} {pN : Int32} {tN : Int32} {aN : Int32} {hd : Int32} {dr : Int32} {pl : Int32} {rm : Int32} {ps : Int32} {wx : Nat → Int32} {pp : Nat → Option Nat} {tp : Nat → Option Nat} {ap : Nat → Option Nat} {sg : Nat → Int32} {uh : Int32} {ud : Int32} {up : Int32} {ur : Int32} {us : Int32} {ux : Nat → Int32} {xN : Int32} {xT : Int32} {xA : Int32} {xh : Int32} {xd : Int32} {xl : Int32} {xr : Int32} {xo : Int32} {xw : Nat → Int32} {xpp : Nat → Option Nat} {xtp : Nat → Option Nat} {xap : Nat → Option Nat} {xsg : Nat → Int32} {yN : Int32} {yT : Int32} {yA : Int32} {yh : Int32} {yd : Int32} {yl : Int32} {yr : Int32} {yo : Int32} {yw : Nat → Int32} {ypp : Nat → Option Nat} {ytp : Nat → Option Nat} {yap : Nat → Option Nat} {ysg : Nat → Int32} {zat : Int32} {zpl : Int32} {zlt : Int32} {zjo : Bool} {zfo : Int32} {zsz : Int32} {zby : Nat → Int32} {znu : Nat → Int32} {G : zG}  (cx : Cx E p s args m c own cc nL) (hW : WW E (wK b E.2.1 (wT b E.2.1 xN xT xA xh xd xl xr xo xw xpp xtp xap xsg yN yT yA yh yd yl yr yo yw ypp ytp yap ysg zat zpl zlt zjo zfo zsz zby znu) pd qt qr tbu wst asw pN tN aN hd dr pl rm ps wx pp tp ap sg uh ud up ur us ux) G H) (hS : va_S F H0 H locs) (zF : ∀ q, (bF b) q → F q) (hrp : RfG G 2 10 pp) (hrt : RfG G 6 7 tp) (hra : RfG G 0 24 ap) (zl : Cond.methodLink own index yX1_become ∈ AllW) (zR : 2 + 1 ≤ R.frames ∧ 8 + (3 + 11) + 101 ≤ R.locals) (zs : ls.size = nL) (zt : st0 = ([.ref (b 6)] : List Value).reverse ++ .ref (b 22) :: rest) (z8 : (rest.map fun v => v.category).sum ≤ 8) (zd : decode cc pc = .ok (.invokevirtual index, 3)) (zf : cells ≤ R.cells ∧ slots ≤ R.slots) (kk0 : ∀  (H1 : Heap) (locs1 : List Loc), WW E (wK b E.2.1 (wT b E.2.1 xN xT xA xh xd xl xr xo xw xpp xtp xap xsg pN tN aN hd dr pl rm ps wx pp tp ap ysg zat zpl zlt zjo zfo zsz zby znu) pd qt qr tbu wst asw pN tN aN hd dr pl rm ps wx pp tp ap sg uh ud up ur us ux) G H1 → va_S F H0 H1 locs1 → W p l e R s m args below meth c H1 locs1 cells slots Q (F0 m (pc + 3) ls (rest))) : W p l e R s m args below meth c H locs cells slots Q (F0 m pc ls st0) := by
  refine z_callVw cx vm_X1_become (c_X1_become_tf l E b pd qt qr tbu wst asw pN tN aN hd dr pl rm ps wx pp tp ap sg uh ud up ur us ux xN xT xA xh xd xl xr xo xw xpp xtp xap xsg yN yT yA yh yd yl yr yo yw ypp ytp yap ysg zat zpl zlt zjo zfo zsz zby znu G hrp hrt hra) (z_rec cx.2 (hW.at 22 rfl) rfl) hW hS zF zl ⟨rfl, rfl⟩ zR rfl zs zt z8 zd zf (fun v H1 locs1 hq hS1 _ => ?_)
  rcases hq with ⟨rfl, hW1⟩
  · exact kk0  H1 locs1  hW1 hS1
set_option maxHeartbeats 1000000 in
set_option maxRecDepth 100000 in
theorem c_X5_become_ft (l : Launch) (E : zE) (b : Nat → Nat) (pd : Bool) (qt : Nat → Option Nat) (qr : Nat → Option Nat) (tbu : Nat → Int32) (wst : Nat → Int32) (asw : Nat → Int32) (pN : Int32) (tN : Int32) (aN : Int32) (hd : Int32) (dr : Int32) (pl : Int32) (rm : Int32) (ps : Int32) (wx : Nat → Int32) (pp : Nat → Option Nat) (tp : Nat → Option Nat) (ap : Nat → Option Nat) (sg : Nat → Int32) (uh : Int32) (ud : Int32) (up : Int32) (ur : Int32) (us : Int32) (ux : Nat → Int32) (xN : Int32) (xT : Int32) (xA : Int32) (xh : Int32) (xd : Int32) (xl : Int32) (xr : Int32) (xo : Int32) (xw : Nat → Int32) (xpp : Nat → Option Nat) (xtp : Nat → Option Nat) (xap : Nat → Option Nat) (xsg : Nat → Int32) (yN : Int32) (yT : Int32) (yA : Int32) (yh : Int32) (yd : Int32) (yl : Int32) (yr : Int32) (yo : Int32) (yw : Nat → Int32) (ypp : Nat → Option Nat) (ytp : Nat → Option Nat) (yap : Nat → Option Nat) (ysg : Nat → Int32) (zat : Int32) (zpl : Int32) (zlt : Int32) (zjo : Bool) (zfo : Int32) (zsz : Int32) (zby : Nat → Int32) (znu : Nat → Int32) (G : zG)   : Met l yX5_become (.code yX5_become cX5_become 2 none :: AllW) (rm0' 1 80) (zP E (fun H => WW E (wK b E.2.1 (wT b E.2.1 xN xT xA xh xd xl xr xo xw xpp xtp xap xsg yN yT yA yh yd yl yr yo yw ypp ytp yap ysg zat zpl zlt zjo zfo zsz zby znu) pd qt qr tbu wst asw pN tN aN hd dr pl rm ps wx pp tp ap sg uh ud up ur us ux) G H) [.ref (b 7), .ref (b 23)]) (zQ (fun (_ : Heap) (v : Option Value) (H1 : Heap) => (v = none ∧ WW E (wK b E.2.1 (wT b E.2.1 xN xT xA xh xd xl xr xo xw xpp xtp xap xsg yN yT yA yh yd yl yr yo yw ypp ytp yap ysg zat zpl zlt zjo zfo zsz zby znu) pd qt qr tbu wst asw pN tN aN yh yd yl yr yo yw pp tp ap sg uh ud up ur us ux) G H1)) (bF b)) 0 0 (bF b) := by
  refine z_body (own := RX5) (by decide) rfl rfl ?_
  intro p e s m args below meth c ls cx hr hlk hnm hW hl
  have hx := cx.x
  have hb := cx.b
  have hl : lv_has ls 2 [(0, .ref (b 7)), (1, .ref (b 23))] := hl
  have hFb : ∀ k, (bF b) (b k) := fun k => bF_in b k
  have hS : va_S (bF b) s.heap s.heap [] := va_S.rf
  refine lv_aload_n (pc := 0) hx hb dX5_become_0 rfl (lv_at hl 0 rfl) ?_
  refine lv_aload_n (pc := 1) hx hb dX5_become_1 rfl (lv_at hl 1 rfl) ?_
  refine z_get (pc := 2) cx (hW.at 23 rfl) (C := RX5) (T := TX5) (N := 6) rfl i_X5 0 rfl m_fl_X5_9 rfl dX5_become_2 ?_
  refine z_putK5 (pc := 5) cx hW hS 7 rfl (hFb 7) 0 rfl m_fl_X5_9 rfl rfl dX5_become_5 (fun H locs hW hS => ?_)
  have hW : WW E (wK b E.2.1 (wT b E.2.1 xN xT xA xh xd xl xr xo xw xpp xtp xap xsg yN yT yA yh yd yl yr yo yw ypp ytp yap ysg zat zpl zlt zjo zfo zsz zby znu) pd qt qr tbu wst asw pN tN aN yh dr pl rm ps wx pp tp ap sg uh ud up ur us ux) G H := hW
  refine lv_aload_n (pc := 8) hx hb dX5_become_8 rfl (lv_at hl 0 rfl) ?_
  refine lv_aload_n (pc := 9) hx hb dX5_become_9 rfl (lv_at hl 1 rfl) ?_
  refine z_get (pc := 10) cx (hW.at 23 rfl) (C := RX5) (T := TX5) (N := 6) rfl i_X5 1 rfl m_fl_X5_19 rfl dX5_become_10 ?_
  refine z_putK5 (pc := 13) cx hW hS 7 rfl (hFb 7) 1 rfl m_fl_X5_19 rfl rfl dX5_become_13 (fun H locs hW hS => ?_)
  have hW : WW E (wK b E.2.1 (wT b E.2.1 xN xT xA xh xd xl xr xo xw xpp xtp xap xsg yN yT yA yh yd yl yr yo yw ypp ytp yap ysg zat zpl zlt zjo zfo zsz zby znu) pd qt qr tbu wst asw pN tN aN yh yd pl rm ps wx pp tp ap sg uh ud up ur us ux) G H := hW
  refine lv_aload_n (pc := 16) hx hb dX5_become_16 rfl (lv_at hl 0 rfl) ?_
  refine lv_aload_n (pc := 17) hx hb dX5_become_17 rfl (lv_at hl 1 rfl) ?_
  refine z_get (pc := 18) cx (hW.at 23 rfl) (C := RX5) (T := TX5) (N := 6) rfl i_X5 2 rfl m_fl_X5_22 rfl dX5_become_18 ?_
  refine z_putK5 (pc := 21) cx hW hS 7 rfl (hFb 7) 2 rfl m_fl_X5_22 rfl rfl dX5_become_21 (fun H locs hW hS => ?_)
  have hW : WW E (wK b E.2.1 (wT b E.2.1 xN xT xA xh xd xl xr xo xw xpp xtp xap xsg yN yT yA yh yd yl yr yo yw ypp ytp yap ysg zat zpl zlt zjo zfo zsz zby znu) pd qt qr tbu wst asw pN tN aN yh yd yl rm ps wx pp tp ap sg uh ud up ur us ux) G H := hW
  refine lv_aload_n (pc := 24) hx hb dX5_become_24 rfl (lv_at hl 0 rfl) ?_
  refine lv_aload_n (pc := 25) hx hb dX5_become_25 rfl (lv_at hl 1 rfl) ?_
  refine z_get (pc := 26) cx (hW.at 23 rfl) (C := RX5) (T := TX5) (N := 6) rfl i_X5 3 rfl m_fl_X5_25 rfl dX5_become_26 ?_
  refine z_putK5 (pc := 29) cx hW hS 7 rfl (hFb 7) 3 rfl m_fl_X5_25 rfl rfl dX5_become_29 (fun H locs hW hS => ?_)
  have hW : WW E (wK b E.2.1 (wT b E.2.1 xN xT xA xh xd xl xr xo xw xpp xtp xap xsg yN yT yA yh yd yl yr yo yw ypp ytp yap ysg zat zpl zlt zjo zfo zsz zby znu) pd qt qr tbu wst asw pN tN aN yh yd yl yr ps wx pp tp ap sg uh ud up ur us ux) G H := hW
  refine lv_aload_n (pc := 32) hx hb dX5_become_32 rfl (lv_at hl 0 rfl) ?_
  refine lv_aload_n (pc := 33) hx hb dX5_become_33 rfl (lv_at hl 1 rfl) ?_
  refine z_get (pc := 34) cx (hW.at 23 rfl) (C := RX5) (T := TX5) (N := 6) rfl i_X5 4 rfl m_fl_X5_28 rfl dX5_become_34 ?_
  refine z_putK5 (pc := 37) cx hW hS 7 rfl (hFb 7) 4 rfl m_fl_X5_28 rfl rfl dX5_become_37 (fun H locs hW hS => ?_)
  have hW : WW E (wK b E.2.1 (wT b E.2.1 xN xT xA xh xd xl xr xo xw xpp xtp xap xsg yN yT yA yh yd yl yr yo yw ypp ytp yap ysg zat zpl zlt zjo zfo zsz zby znu) pd qt qr tbu wst asw pN tN aN yh yd yl yr yo wx pp tp ap sg uh ud up ur us ux) G H := hW
  refine lv_aload_n (pc := 40) hx hb dX5_become_40 rfl (lv_at hl 1 rfl) ?_
  refine z_get (pc := 41) cx (hW.at 23 rfl) (C := RX5) (T := TX5) (N := 6) rfl i_X5 5 rfl m_fl_X5_15 rfl dX5_become_41 ?_
  refine lv_iconst (pc := 44) (v := 0) hx hb dX5_become_44 (by decide) ?_
  refine lv_aload_n (pc := 45) hx hb dX5_become_45 rfl (lv_at hl 0 rfl) ?_
  refine z_get (pc := 46) cx (hW.at 7 rfl) (C := RX5) (T := TX5) (N := 6) rfl i_X5 5 rfl m_fl_X5_15 rfl dX5_become_46 ?_
  refine lv_iconst (pc := 49) (v := 0) hx hb dX5_become_49 (by decide) ?_
  refine lv_bipush (pc := 50) (v := 10) hx hb dX5_become_50 (by decide) ?_
  refine z_copyI (pc := 52) (n := 10) cx hW hS 8 (hW.at 24 rfl) rfl (hFb 8) (by decide) hl.1 m_ml_X5_31 ⟨Nat.le_of_ble_eq_true rfl, Nat.le_of_ble_eq_true rfl⟩ (by simp [Value.category]) dX5_become_52 (fun H locs hW hS => ?_)
  have hW : WW E (wK b E.2.1 (wT b E.2.1 xN xT xA xh xd xl xr xo xw xpp xtp xap xsg yN yT yA yh yd yl yr yo yw ypp ytp yap ysg zat zpl zlt zjo zfo zsz zby znu) pd qt qr tbu wst asw pN tN aN yh yd yl yr yo yw pp tp ap sg uh ud up ur us ux) G H := hW
  exact z_wvret cx hr hlk dX5_become_55 hS ⟨rfl, hW⟩
theorem k_X5_become_ft {p : Program} {l : Launch} {e : Env} {R : Room} {s : State} {m : MethodId} {args : Array Value} {below : List Frame} {meth : Method} {c : Code} {H H0 : Heap} {locs : List Loc} {cells slots : Nat} {Q : State → Prop} {cc : ByteArray} {pc index : Nat} {ls : Array Slot} {rest st0 : List Value} {E : zE} {own : String} {nL : Nat} {F : Nat → Prop} {b : Nat → Nat} {pd : Bool} {qt : Nat → Option Nat} {qr : Nat → Option Nat} {tbu : Nat → Int32} {wst : Nat → Int32} {asw : Nat → Int32} {pN : Int32} {tN : Int32} {aN : Int32} {hd : Int32} {dr : Int32} {pl : Int32} {rm : Int32} {ps : Int32} {wx : Nat → Int32} {pp : Nat → Option Nat} {tp : Nat → Option Nat} {ap : Nat → Option Nat} {sg : Nat → Int32} {uh : Int32} {ud : Int32} {up : Int32} {ur : Int32} {us : Int32} {ux : Nat → Int32} {xN : Int32} {xT : Int32} {xA : Int32} {xh : Int32} {xd : Int32} {xl : Int32} {xr : Int32} {xo : Int32} {xw : Nat → Int32} {xpp : Nat → Option Nat} {xtp : Nat → Option Nat} {xap : Nat → Option Nat} {xsg : Nat → Int32} {yN : Int32} {yT : Int32} {yA : Int32} {yh : Int32} {yd : Int32} {yl : Int32} {yr : Int32} {yo : Int32} {yw : Nat → Int32} {ypp : Nat → Option Nat} {ytp : Nat → Option Nat} {yap : Nat → Option Nat} {ysg : Nat → Int32} {zat : Int32} {zpl : Int32} {zlt : Int32} {zjo : Bool} {zfo : Int32} {zsz : Int32} {zby : Nat → Int32} {znu : Nat → Int32} {G : zG}  (cx : Cx E p s args m c own cc nL) (hW : WW E (wK b E.2.1 (wT b E.2.1 xN xT xA xh xd xl xr xo xw xpp xtp xap xsg yN yT yA yh yd yl yr yo yw ypp ytp yap ysg zat zpl zlt zjo zfo zsz zby znu) pd qt qr tbu wst asw pN tN aN hd dr pl rm ps wx pp tp ap sg uh ud up ur us ux) G H) (hS : va_S F H0 H locs) (zF : ∀ q, (bF b) q → F q)  (zl : Cond.methodLink own index yX5_become ∈ AllW) (zR : 1 + 1 ≤ R.frames ∧ 8 + (2 + 11) + 80 ≤ R.locals) (zs : ls.size = nL) (zt : st0 = ([.ref (b 23)] : List Value).reverse ++ .ref (b 7) :: rest) (z8 : (rest.map fun v => v.category).sum ≤ 8) (zd : decode cc pc = .ok (.invokevirtual index, 3)) (zf : cells ≤ R.cells ∧ slots ≤ R.slots) (kk0 : ∀  (H1 : Heap) (locs1 : List Loc), WW E (wK b E.2.1 (wT b E.2.1 xN xT xA xh xd xl xr xo xw xpp xtp xap xsg yN yT yA yh yd yl yr yo yw ypp ytp yap ysg zat zpl zlt zjo zfo zsz zby znu) pd qt qr tbu wst asw pN tN aN yh yd yl yr yo yw pp tp ap sg uh ud up ur us ux) G H1 → va_S F H0 H1 locs1 → W p l e R s m args below meth c H1 locs1 cells slots Q (F0 m (pc + 3) ls (rest))) : W p l e R s m args below meth c H locs cells slots Q (F0 m pc ls st0) := by
  refine z_callVw cx vm_X5_become (c_X5_become_ft l E b pd qt qr tbu wst asw pN tN aN hd dr pl rm ps wx pp tp ap sg uh ud up ur us ux xN xT xA xh xd xl xr xo xw xpp xtp xap xsg yN yT yA yh yd yl yr yo yw ypp ytp yap ysg zat zpl zlt zjo zfo zsz zby znu G) (z_rec cx.2 (hW.at 7 rfl) rfl) hW hS zF zl ⟨rfl, rfl⟩ zR rfl zs zt z8 zd zf (fun v H1 locs1 hq hS1 _ => ?_)
  rcases hq with ⟨rfl, hW1⟩
  · exact kk0  H1 locs1  hW1 hS1
set_option maxHeartbeats 1000000 in
set_option maxRecDepth 100000 in
theorem c_X1_become_ft (l : Launch) (E : zE) (b : Nat → Nat) (pd : Bool) (qt : Nat → Option Nat) (qr : Nat → Option Nat) (tbu : Nat → Int32) (wst : Nat → Int32) (asw : Nat → Int32) (pN : Int32) (tN : Int32) (aN : Int32) (hd : Int32) (dr : Int32) (pl : Int32) (rm : Int32) (ps : Int32) (wx : Nat → Int32) (pp : Nat → Option Nat) (tp : Nat → Option Nat) (ap : Nat → Option Nat) (sg : Nat → Int32) (uh : Int32) (ud : Int32) (up : Int32) (ur : Int32) (us : Int32) (ux : Nat → Int32) (xN : Int32) (xT : Int32) (xA : Int32) (xh : Int32) (xd : Int32) (xl : Int32) (xr : Int32) (xo : Int32) (xw : Nat → Int32) (xpp : Nat → Option Nat) (xtp : Nat → Option Nat) (xap : Nat → Option Nat) (xsg : Nat → Int32) (yN : Int32) (yT : Int32) (yA : Int32) (yh : Int32) (yd : Int32) (yl : Int32) (yr : Int32) (yo : Int32) (yw : Nat → Int32) (ypp : Nat → Option Nat) (ytp : Nat → Option Nat) (yap : Nat → Option Nat) (ysg : Nat → Int32) (zat : Int32) (zpl : Int32) (zlt : Int32) (zjo : Bool) (zfo : Int32) (zsz : Int32) (zby : Nat → Int32) (znu : Nat → Int32) (G : zG)  (hrp : RfG G 2 10 ypp) (hrt : RfG G 6 7 ytp) (hra : RfG G 0 24 yap) : Met l yX1_become (.code yX1_become cX1_become 3 none :: AllW) (rm0' 2 101) (zP E (fun H => WW E (wK b E.2.1 (wT b E.2.1 xN xT xA xh xd xl xr xo xw xpp xtp xap xsg yN yT yA yh yd yl yr yo yw ypp ytp yap ysg zat zpl zlt zjo zfo zsz zby znu) pd qt qr tbu wst asw pN tN aN hd dr pl rm ps wx pp tp ap sg uh ud up ur us ux) G H) [.ref (b 6), .ref (b 22)]) (zQ (fun (_ : Heap) (v : Option Value) (H1 : Heap) => (v = none ∧ WW E (wK b E.2.1 (wT b E.2.1 xN xT xA xh xd xl xr xo xw xpp xtp xap xsg yN yT yA yh yd yl yr yo yw ypp ytp yap ysg zat zpl zlt zjo zfo zsz zby znu) pd qt qr tbu wst asw yN yT yA yh yd yl yr yo yw ypp ytp yap sg uh ud up ur us ux) G H1)) (bF b)) 0 0 (bF b) := by
  refine z_body (own := RX1) (by decide) rfl rfl ?_
  intro p e s m args below meth c ls cx hr hlk hnm hW hl
  have hx := cx.x
  have hb := cx.b
  have hl : lv_has ls 3 [(0, .ref (b 6)), (1, .ref (b 22))] := hl
  have hFb : ∀ k, (bF b) (b k) := fun k => bF_in b k
  have hS : va_S (bF b) s.heap s.heap [] := va_S.rf
  refine lv_aload_n (pc := 0) hx hb dX1_become_0 rfl (lv_at hl 0 rfl) ?_
  refine lv_aload_n (pc := 1) hx hb dX1_become_1 rfl (lv_at hl 1 rfl) ?_
  refine z_get (pc := 2) cx (hW.at 22 rfl) (C := RX1) (T := TX1) (N := 8) rfl i_X1 0 rfl m_fl_X1_40 rfl dX1_become_2 ?_
  refine z_putK1 (pc := 5) cx hW hS 6 rfl (hFb 6) 0 rfl m_fl_X1_40 rfl rfl dX1_become_5 (fun H locs hW hS => ?_)
  have hW : WW E (wK b E.2.1 (wT b E.2.1 xN xT xA xh xd xl xr xo xw xpp xtp xap xsg yN yT yA yh yd yl yr yo yw ypp ytp yap ysg zat zpl zlt zjo zfo zsz zby znu) pd qt qr tbu wst asw yN tN aN hd dr pl rm ps wx pp tp ap sg uh ud up ur us ux) G H := hW
  refine lv_aload_n (pc := 8) hx hb dX1_become_8 rfl (lv_at hl 0 rfl) ?_
  refine lv_aload_n (pc := 9) hx hb dX1_become_9 rfl (lv_at hl 1 rfl) ?_
  refine z_get (pc := 10) cx (hW.at 22 rfl) (C := RX1) (T := TX1) (N := 8) rfl i_X1 1 rfl m_fl_X1_44 rfl dX1_become_10 ?_
  refine z_putK1 (pc := 13) cx hW hS 6 rfl (hFb 6) 1 rfl m_fl_X1_44 rfl rfl dX1_become_13 (fun H locs hW hS => ?_)
  have hW : WW E (wK b E.2.1 (wT b E.2.1 xN xT xA xh xd xl xr xo xw xpp xtp xap xsg yN yT yA yh yd yl yr yo yw ypp ytp yap ysg zat zpl zlt zjo zfo zsz zby znu) pd qt qr tbu wst asw yN yT aN hd dr pl rm ps wx pp tp ap sg uh ud up ur us ux) G H := hW
  refine lv_aload_n (pc := 16) hx hb dX1_become_16 rfl (lv_at hl 0 rfl) ?_
  refine lv_aload_n (pc := 17) hx hb dX1_become_17 rfl (lv_at hl 1 rfl) ?_
  refine z_get (pc := 18) cx (hW.at 22 rfl) (C := RX1) (T := TX1) (N := 8) rfl i_X1 2 rfl m_fl_X1_47 rfl dX1_become_18 ?_
  refine z_putK1 (pc := 21) cx hW hS 6 rfl (hFb 6) 2 rfl m_fl_X1_47 rfl rfl dX1_become_21 (fun H locs hW hS => ?_)
  have hW : WW E (wK b E.2.1 (wT b E.2.1 xN xT xA xh xd xl xr xo xw xpp xtp xap xsg yN yT yA yh yd yl yr yo yw ypp ytp yap ysg zat zpl zlt zjo zfo zsz zby znu) pd qt qr tbu wst asw yN yT yA hd dr pl rm ps wx pp tp ap sg uh ud up ur us ux) G H := hW
  refine lv_aload_n (pc := 24) hx hb dX1_become_24 rfl (lv_at hl 0 rfl) ?_
  refine z_get (pc := 25) cx (hW.at 6 rfl) (C := RX1) (T := TX1) (N := 8) rfl i_X1 3 rfl m_fl_X1_12 rfl dX1_become_25 ?_
  refine lv_aload_n (pc := 28) hx hb dX1_become_28 rfl (lv_at hl 1 rfl) ?_
  refine z_get (pc := 29) cx (hW.at 22 rfl) (C := RX1) (T := TX1) (N := 8) rfl i_X1 3 rfl m_fl_X1_12 rfl dX1_become_29 ?_
  refine k_X5_become_ft (pc := 32)  cx hW hS (fun _ h => h)  m_ml_X1_50 ⟨Nat.le_of_ble_eq_true rfl, Nat.le_of_ble_eq_true rfl⟩ hl.1 rfl (by simp [Value.category]) dX1_become_32 ⟨Nat.le_refl _, Nat.le_refl _⟩ (fun  H locs  hW hS => ?_)
  have hW : WW E (wK b E.2.1 (wT b E.2.1 xN xT xA xh xd xl xr xo xw xpp xtp xap xsg yN yT yA yh yd yl yr yo yw ypp ytp yap ysg zat zpl zlt zjo zfo zsz zby znu) pd qt qr tbu wst asw yN yT yA yh yd yl yr yo yw pp tp ap sg uh ud up ur us ux) G H := hW
  refine lv_iconst (pc := 35) (v := 0) hx hb dX1_become_35 (by decide) ?_
  refine lv_istore_n (pc := 36) (lv' := [(2, .int 0), (0, .ref (b 6)), (1, .ref (b 22))]) hx hb dX1_become_36 rfl hl (by decide) rfl (fun ls hl => ?_)
  have loop_37 : ∀ (k_37 : Nat) (i : Nat) (x2 : Int32), (10 - i) < k_37 → (i ≤ 10) → x2 = nI i → ∀ (H : Heap) (locs : List Loc), WW E (wK b E.2.1 (wT b E.2.1 xN xT xA xh xd xl xr xo xw xpp xtp xap xsg yN yT yA yh yd yl yr yo yw ypp ytp yap ysg zat zpl zlt zjo zfo zsz zby znu) pd qt qr tbu wst asw yN yT yA yh yd yl yr yo yw (cpR ypp pp i) tp ap sg uh ud up ur us ux) G H → va_S (bF b) s.heap H locs → ∀ (ls : Array Slot), lv_has ls 3 [(2, .int x2), (0, .ref (b 6)), (1, .ref (b 22))] → W p l e (rm0' (2) (101)) s m args below meth c H locs 0 0 (MQ below (zQ (fun (_ : Heap) (v : Option Value) (H1 : Heap) => (v = none ∧ WW E (wK b E.2.1 (wT b E.2.1 xN xT xA xh xd xl xr xo xw xpp xtp xap xsg yN yT yA yh yd yl yr yo yw ypp ytp yap ysg zat zpl zlt zjo zfo zsz zby znu) pd qt qr tbu wst asw yN yT yA yh yd yl yr yo yw ypp ytp yap sg uh ud up ur us ux) G H1)) (bF b)) args s 0 0 (bF b)) (F0 m 37 ls []) := by
    intro k_37
    induction k_37 with
    | zero =>
      intro i x2 hm
      exact absurd hm (Nat.not_lt_zero _)
    | succ k_37 ih_37 =>
      intro i x2 hm_37 hi e_x2  H locs  hW hS ls hl
      subst e_x2
      refine lv_iload_n (pc := 37) hx hb dX1_become_37 rfl (lv_at hl 0 rfl) ?_
      refine lv_bipush (pc := 38) (v := 10) hx hb dX1_become_38 (by decide) ?_
      refine lv_icmp_ge (pc := 40) (tgt := 61) hx hb dX1_become_40 (by decide) (fun c_1 => ?_) (fun c_1 => ?_)
      · skip
        obtain rfl : i = 10 := by have := ge_nat (a := i) (b := 10) rfl rfl (by omega) (by omega) c_1; omega
        have hW := hW.congrR (i := 9) rfl (g := ypp) (fun j hj => by unfold cpR; exact if_pos hj)
        have hW : WW E (wK b E.2.1 (wT b E.2.1 xN xT xA xh xd xl xr xo xw xpp xtp xap xsg yN yT yA yh yd yl yr yo yw ypp ytp yap ysg zat zpl zlt zjo zfo zsz zby znu) pd qt qr tbu wst asw yN yT yA yh yd yl yr yo yw ypp tp ap sg uh ud up ur us ux) G H := hW
        refine lv_iconst (pc := 61) (v := 0) hx hb dX1_become_61 (by decide) ?_
        refine lv_istore_n (pc := 62) (lv' := [(2, .int 0), (0, .ref (b 6)), (1, .ref (b 22))]) hx hb dX1_become_62 rfl hl (by decide) rfl (fun ls hl => ?_)
        have loop_63 : ∀ (k_63 : Nat) (i : Nat) (x2 : Int32), (7 - i) < k_63 → (i ≤ 7) → x2 = nI i → ∀ (H : Heap) (locs : List Loc), WW E (wK b E.2.1 (wT b E.2.1 xN xT xA xh xd xl xr xo xw xpp xtp xap xsg yN yT yA yh yd yl yr yo yw ypp ytp yap ysg zat zpl zlt zjo zfo zsz zby znu) pd qt qr tbu wst asw yN yT yA yh yd yl yr yo yw ypp (cpR ytp tp i) ap sg uh ud up ur us ux) G H → va_S (bF b) s.heap H locs → ∀ (ls : Array Slot), lv_has ls 3 [(2, .int x2), (0, .ref (b 6)), (1, .ref (b 22))] → W p l e (rm0' (2) (101)) s m args below meth c H locs 0 0 (MQ below (zQ (fun (_ : Heap) (v : Option Value) (H1 : Heap) => (v = none ∧ WW E (wK b E.2.1 (wT b E.2.1 xN xT xA xh xd xl xr xo xw xpp xtp xap xsg yN yT yA yh yd yl yr yo yw ypp ytp yap ysg zat zpl zlt zjo zfo zsz zby znu) pd qt qr tbu wst asw yN yT yA yh yd yl yr yo yw ypp ytp yap sg uh ud up ur us ux) G H1)) (bF b)) args s 0 0 (bF b)) (F0 m 63 ls []) := by
          intro k_63
          induction k_63 with
          | zero =>
            intro i x2 hm
            exact absurd hm (Nat.not_lt_zero _)
          | succ k_63 ih_63 =>
            intro i x2 hm_63 hi e_x2  H locs  hW hS ls hl
            subst e_x2
            refine lv_iload_n (pc := 63) hx hb dX1_become_63 rfl (lv_at hl 0 rfl) ?_
            refine lv_bipush (pc := 64) (v := 7) hx hb dX1_become_64 (by decide) ?_
            refine lv_icmp_ge (pc := 66) (tgt := 87) hx hb dX1_become_66 (by decide) (fun c_2 => ?_) (fun c_2 => ?_)
            · skip
              obtain rfl : i = 7 := by have := ge_nat (a := i) (b := 7) rfl rfl (by omega) (by omega) c_2; omega
              have hW := hW.congrR (i := 10) rfl (g := ytp) (fun j hj => by unfold cpR; exact if_pos hj)
              have hW : WW E (wK b E.2.1 (wT b E.2.1 xN xT xA xh xd xl xr xo xw xpp xtp xap xsg yN yT yA yh yd yl yr yo yw ypp ytp yap ysg zat zpl zlt zjo zfo zsz zby znu) pd qt qr tbu wst asw yN yT yA yh yd yl yr yo yw ypp ytp ap sg uh ud up ur us ux) G H := hW
              refine lv_iconst (pc := 87) (v := 0) hx hb dX1_become_87 (by decide) ?_
              refine lv_istore_n (pc := 88) (lv' := [(2, .int 0), (0, .ref (b 6)), (1, .ref (b 22))]) hx hb dX1_become_88 rfl hl (by decide) rfl (fun ls hl => ?_)
              have loop_89 : ∀ (k_89 : Nat) (i : Nat) (x2 : Int32), (24 - i) < k_89 → (i ≤ 24) → x2 = nI i → ∀ (H : Heap) (locs : List Loc), WW E (wK b E.2.1 (wT b E.2.1 xN xT xA xh xd xl xr xo xw xpp xtp xap xsg yN yT yA yh yd yl yr yo yw ypp ytp yap ysg zat zpl zlt zjo zfo zsz zby znu) pd qt qr tbu wst asw yN yT yA yh yd yl yr yo yw ypp ytp (cpR yap ap i) sg uh ud up ur us ux) G H → va_S (bF b) s.heap H locs → ∀ (ls : Array Slot), lv_has ls 3 [(2, .int x2), (0, .ref (b 6)), (1, .ref (b 22))] → W p l e (rm0' (2) (101)) s m args below meth c H locs 0 0 (MQ below (zQ (fun (_ : Heap) (v : Option Value) (H1 : Heap) => (v = none ∧ WW E (wK b E.2.1 (wT b E.2.1 xN xT xA xh xd xl xr xo xw xpp xtp xap xsg yN yT yA yh yd yl yr yo yw ypp ytp yap ysg zat zpl zlt zjo zfo zsz zby znu) pd qt qr tbu wst asw yN yT yA yh yd yl yr yo yw ypp ytp yap sg uh ud up ur us ux) G H1)) (bF b)) args s 0 0 (bF b)) (F0 m 89 ls []) := by
                intro k_89
                induction k_89 with
                | zero =>
                  intro i x2 hm
                  exact absurd hm (Nat.not_lt_zero _)
                | succ k_89 ih_89 =>
                  intro i x2 hm_89 hi e_x2  H locs  hW hS ls hl
                  subst e_x2
                  refine lv_iload_n (pc := 89) hx hb dX1_become_89 rfl (lv_at hl 0 rfl) ?_
                  refine lv_bipush (pc := 90) (v := 24) hx hb dX1_become_90 (by decide) ?_
                  refine lv_icmp_ge (pc := 92) (tgt := 113) hx hb dX1_become_92 (by decide) (fun c_3 => ?_) (fun c_3 => ?_)
                  · skip
                    obtain rfl : i = 24 := by have := ge_nat (a := i) (b := 24) rfl rfl (by omega) (by omega) c_3; omega
                    have hW := hW.congrR (i := 11) rfl (g := yap) (fun j hj => by unfold cpR; exact if_pos hj)
                    have hW : WW E (wK b E.2.1 (wT b E.2.1 xN xT xA xh xd xl xr xo xw xpp xtp xap xsg yN yT yA yh yd yl yr yo yw ypp ytp yap ysg zat zpl zlt zjo zfo zsz zby znu) pd qt qr tbu wst asw yN yT yA yh yd yl yr yo yw ypp ytp yap sg uh ud up ur us ux) G H := hW
                    exact z_wvret cx hr hlk dX1_become_113 hS ⟨rfl, hW⟩
                  · skip
                    have hlt_i := lt_nat (a := i) (b := 24) rfl rfl (by omega) (by omega) c_3
                    refine lv_aload_n (pc := 95) hx hb dX1_become_95 rfl (lv_at hl 1 rfl) ?_
                    refine z_get (pc := 96) cx (hW.at 6 rfl) (C := RX1) (T := TX1) (N := 8) rfl i_X1 6 rfl m_fl_X1_32 rfl dX1_become_96 ?_
                    refine lv_iload_n (pc := 99) hx hb dX1_become_99 rfl (lv_at hl 0 rfl) ?_
                    refine lv_aload_n (pc := 100) hx hb dX1_become_100 rfl (lv_at hl 2 rfl) ?_
                    refine z_get (pc := 101) cx (hW.at 22 rfl) (C := RX1) (T := TX1) (N := 8) rfl i_X1 6 rfl m_fl_X1_32 rfl dX1_become_101 ?_
                    refine lv_iload_n (pc := 104) hx hb dX1_become_104 rfl (lv_at hl 0 rfl) ?_
                    refine z_aald (pc := 105) (f := yap) (j := i) cx 3 rfl (hW.at 27 rfl) rfl (by omega) (by decide) dX1_become_105 ?_
                    refine z_aastO (pc := 106) (f := cpR yap ap i) (j := i) cx hW hS 11 3 0 rfl rfl (hra i hlt_i) rfl (hFb 11) rfl (by omega) (by decide) dX1_become_106 (fun H locs hW hS => ?_)
                    have hW : WW E (wK b E.2.1 (wT b E.2.1 xN xT xA xh xd xl xr xo xw xpp xtp xap xsg yN yT yA yh yd yl yr yo yw ypp ytp yap ysg zat zpl zlt zjo zfo zsz zby znu) pd qt qr tbu wst asw yN yT yA yh yd yl yr yo yw ypp ytp (va_up (cpR yap ap i) i (yap i)) sg uh ud up ur us ux) G H := hW
                    refine lv_iinc (pc := 107) (v := nI (i + 1)) (lv' := [(2, .int (nI (i + 1))), (0, .ref (b 6)), (1, .ref (b 22))]) hx hb dX1_become_107 hl (k := 0) rfl (nI_1 _) (by decide) rfl (fun ls hl => ?_)
                    refine lv_goto (pc := 110) (tgt := 89) hx hb dX1_become_110 (by decide) ?_
                    exact ih_89 (i + 1) (nI (i + 1)) (by omega) (by omega) (by first | rfl | (simp []; done))  _ _  (by rw [← cpR_s]; exact hW) hS ls (lv_sub hl [0, 1, 2] rfl)
              exact loop_89 ((24 - 0) + 1) 0 0 (Nat.lt_succ_self _) (by omega) (by first | rfl | (simp []; done))  _ _  (by rw [cpR_0]; exact hW) hS ls (lv_sub hl [0, 1, 2] rfl)
            · skip
              have hlt_i := lt_nat (a := i) (b := 7) rfl rfl (by omega) (by omega) c_2
              refine lv_aload_n (pc := 69) hx hb dX1_become_69 rfl (lv_at hl 1 rfl) ?_
              refine z_get (pc := 70) cx (hW.at 6 rfl) (C := RX1) (T := TX1) (N := 8) rfl i_X1 5 rfl m_fl_X1_26 rfl dX1_become_70 ?_
              refine lv_iload_n (pc := 73) hx hb dX1_become_73 rfl (lv_at hl 0 rfl) ?_
              refine lv_aload_n (pc := 74) hx hb dX1_become_74 rfl (lv_at hl 2 rfl) ?_
              refine z_get (pc := 75) cx (hW.at 22 rfl) (C := RX1) (T := TX1) (N := 8) rfl i_X1 5 rfl m_fl_X1_26 rfl dX1_become_75 ?_
              refine lv_iload_n (pc := 78) hx hb dX1_become_78 rfl (lv_at hl 0 rfl) ?_
              refine z_aald (pc := 79) (f := ytp) (j := i) cx 2 rfl (hW.at 26 rfl) rfl (by omega) (by decide) dX1_become_79 ?_
              refine z_aastO (pc := 80) (f := cpR ytp tp i) (j := i) cx hW hS 10 2 6 rfl rfl (hrt i hlt_i) rfl (hFb 10) rfl (by omega) (by decide) dX1_become_80 (fun H locs hW hS => ?_)
              have hW : WW E (wK b E.2.1 (wT b E.2.1 xN xT xA xh xd xl xr xo xw xpp xtp xap xsg yN yT yA yh yd yl yr yo yw ypp ytp yap ysg zat zpl zlt zjo zfo zsz zby znu) pd qt qr tbu wst asw yN yT yA yh yd yl yr yo yw ypp (va_up (cpR ytp tp i) i (ytp i)) ap sg uh ud up ur us ux) G H := hW
              refine lv_iinc (pc := 81) (v := nI (i + 1)) (lv' := [(2, .int (nI (i + 1))), (0, .ref (b 6)), (1, .ref (b 22))]) hx hb dX1_become_81 hl (k := 0) rfl (nI_1 _) (by decide) rfl (fun ls hl => ?_)
              refine lv_goto (pc := 84) (tgt := 63) hx hb dX1_become_84 (by decide) ?_
              exact ih_63 (i + 1) (nI (i + 1)) (by omega) (by omega) (by first | rfl | (simp []; done))  _ _  (by rw [← cpR_s]; exact hW) hS ls (lv_sub hl [0, 1, 2] rfl)
        exact loop_63 ((7 - 0) + 1) 0 0 (Nat.lt_succ_self _) (by omega) (by first | rfl | (simp []; done))  _ _  (by rw [cpR_0]; exact hW) hS ls (lv_sub hl [0, 1, 2] rfl)
      · skip
        have hlt_i := lt_nat (a := i) (b := 10) rfl rfl (by omega) (by omega) c_1
        refine lv_aload_n (pc := 43) hx hb dX1_become_43 rfl (lv_at hl 1 rfl) ?_
        refine z_get (pc := 44) cx (hW.at 6 rfl) (C := RX1) (T := TX1) (N := 8) rfl i_X1 4 rfl m_fl_X1_20 rfl dX1_become_44 ?_
        refine lv_iload_n (pc := 47) hx hb dX1_become_47 rfl (lv_at hl 0 rfl) ?_
        refine lv_aload_n (pc := 48) hx hb dX1_become_48 rfl (lv_at hl 2 rfl) ?_
        refine z_get (pc := 49) cx (hW.at 22 rfl) (C := RX1) (T := TX1) (N := 8) rfl i_X1 4 rfl m_fl_X1_20 rfl dX1_become_49 ?_
        refine lv_iload_n (pc := 52) hx hb dX1_become_52 rfl (lv_at hl 0 rfl) ?_
        refine z_aald (pc := 53) (f := ypp) (j := i) cx 1 rfl (hW.at 25 rfl) rfl (by omega) (by decide) dX1_become_53 ?_
        refine z_aastO (pc := 54) (f := cpR ypp pp i) (j := i) cx hW hS 9 1 2 rfl rfl (hrp i hlt_i) rfl (hFb 9) rfl (by omega) (by decide) dX1_become_54 (fun H locs hW hS => ?_)
        have hW : WW E (wK b E.2.1 (wT b E.2.1 xN xT xA xh xd xl xr xo xw xpp xtp xap xsg yN yT yA yh yd yl yr yo yw ypp ytp yap ysg zat zpl zlt zjo zfo zsz zby znu) pd qt qr tbu wst asw yN yT yA yh yd yl yr yo yw (va_up (cpR ypp pp i) i (ypp i)) tp ap sg uh ud up ur us ux) G H := hW
        refine lv_iinc (pc := 55) (v := nI (i + 1)) (lv' := [(2, .int (nI (i + 1))), (0, .ref (b 6)), (1, .ref (b 22))]) hx hb dX1_become_55 hl (k := 0) rfl (nI_1 _) (by decide) rfl (fun ls hl => ?_)
        refine lv_goto (pc := 58) (tgt := 37) hx hb dX1_become_58 (by decide) ?_
        exact ih_37 (i + 1) (nI (i + 1)) (by omega) (by omega) (by first | rfl | (simp []; done))  _ _  (by rw [← cpR_s]; exact hW) hS ls (lv_sub hl [0, 1, 2] rfl)
  exact loop_37 ((10 - 0) + 1) 0 0 (Nat.lt_succ_self _) (by omega) (by first | rfl | (simp []; done))  _ _  (by rw [cpR_0]; exact hW) hS ls (lv_sub hl [0, 1, 2] rfl)
theorem k_X1_become_ft {p : Program} {l : Launch} {e : Env} {R : Room} {s : State} {m : MethodId} {args : Array Value} {below : List Frame} {meth : Method} {c : Code} {H H0 : Heap} {locs : List Loc} {cells slots : Nat} {Q : State → Prop} {cc : ByteArray} {pc index : Nat} {ls : Array Slot} {rest st0 : List Value} {E : zE} {own : String} {nL : Nat} {F : Nat → Prop} {b : Nat → Nat} {pd : Bool} {qt : Nat → Option Nat} {qr : Nat → Option Nat} {tbu : Nat → Int32} {wst : Nat → Int32} {asw : Nat → Int32} {pN : Int32} {tN : Int32} {aN : Int32} {hd : Int32} {dr : Int32} {pl : Int32} {rm : Int32} {ps : Int32} {wx : Nat → Int32} {pp : Nat → Option Nat} {tp : Nat → Option Nat} {ap : Nat → Option Nat} {sg : Nat → Int32} {uh : Int32} {ud : Int32} {up : Int32} {ur : Int32} {us : Int32} {ux : Nat → Int32} {xN : Int32} {xT : Int32} {xA : Int32} {xh : Int32} {xd : Int32} {xl : Int32} {xr : Int32} {xo : Int32} {xw : Nat → Int32} {xpp : Nat → Option Nat} {xtp : Nat → Option Nat} {xap : Nat → Option Nat} {xsg : Nat → Int32} {yN : Int32} {yT : Int32} {yA : Int32} {yh : Int32} {yd : Int32} {yl : Int32} {yr : Int32} {yo : Int32} {yw : Nat → Int32} {ypp : Nat → Option Nat} {ytp : Nat → Option Nat} {yap : Nat → Option Nat} {ysg : Nat → Int32} {zat : Int32} {zpl : Int32} {zlt : Int32} {zjo : Bool} {zfo : Int32} {zsz : Int32} {zby : Nat → Int32} {znu : Nat → Int32} {G : zG}  (cx : Cx E p s args m c own cc nL) (hW : WW E (wK b E.2.1 (wT b E.2.1 xN xT xA xh xd xl xr xo xw xpp xtp xap xsg yN yT yA yh yd yl yr yo yw ypp ytp yap ysg zat zpl zlt zjo zfo zsz zby znu) pd qt qr tbu wst asw pN tN aN hd dr pl rm ps wx pp tp ap sg uh ud up ur us ux) G H) (hS : va_S F H0 H locs) (zF : ∀ q, (bF b) q → F q) (hrp : RfG G 2 10 ypp) (hrt : RfG G 6 7 ytp) (hra : RfG G 0 24 yap) (zl : Cond.methodLink own index yX1_become ∈ AllW) (zR : 2 + 1 ≤ R.frames ∧ 8 + (3 + 11) + 101 ≤ R.locals) (zs : ls.size = nL) (zt : st0 = ([.ref (b 22)] : List Value).reverse ++ .ref (b 6) :: rest) (z8 : (rest.map fun v => v.category).sum ≤ 8) (zd : decode cc pc = .ok (.invokevirtual index, 3)) (zf : cells ≤ R.cells ∧ slots ≤ R.slots) (kk0 : ∀  (H1 : Heap) (locs1 : List Loc), WW E (wK b E.2.1 (wT b E.2.1 xN xT xA xh xd xl xr xo xw xpp xtp xap xsg yN yT yA yh yd yl yr yo yw ypp ytp yap ysg zat zpl zlt zjo zfo zsz zby znu) pd qt qr tbu wst asw yN yT yA yh yd yl yr yo yw ypp ytp yap sg uh ud up ur us ux) G H1 → va_S F H0 H1 locs1 → W p l e R s m args below meth c H1 locs1 cells slots Q (F0 m (pc + 3) ls (rest))) : W p l e R s m args below meth c H locs cells slots Q (F0 m pc ls st0) := by
  refine z_callVw cx vm_X1_become (c_X1_become_ft l E b pd qt qr tbu wst asw pN tN aN hd dr pl rm ps wx pp tp ap sg uh ud up ur us ux xN xT xA xh xd xl xr xo xw xpp xtp xap xsg yN yT yA yh yd yl yr yo yw ypp ytp yap ysg zat zpl zlt zjo zfo zsz zby znu G hrp hrt hra) (z_rec cx.2 (hW.at 6 rfl) rfl) hW hS zF zl ⟨rfl, rfl⟩ zR rfl zs zt z8 zd zf (fun v H1 locs1 hq hS1 _ => ?_)
  rcases hq with ⟨rfl, hW1⟩
  · exact kk0  H1 locs1  hW1 hS1
theorem vm_X7_image : zVm yX7_image cX7_image 1 (some FieldType.int) 0 := ⟨m_co_X7_image, m_in_RX7, ⟨m_im_X7_image, m_se_X7_X7_image⟩, by decide +kernel, by decide +kernel, by decide +kernel⟩
set_option maxHeartbeats 1000000 in
set_option maxRecDepth 100000 in
theorem c_X7_image (l : Launch) (E : zE) (b : Nat → Nat) (pd : Bool) (qt : Nat → Option Nat) (qr : Nat → Option Nat) (tbu : Nat → Int32) (wst : Nat → Int32) (asw : Nat → Int32) (pN : Int32) (tN : Int32) (aN : Int32) (hd : Int32) (dr : Int32) (pl : Int32) (rm : Int32) (ps : Int32) (wx : Nat → Int32) (pp : Nat → Option Nat) (tp : Nat → Option Nat) (ap : Nat → Option Nat) (sg : Nat → Int32) (uh : Int32) (ud : Int32) (up : Int32) (ur : Int32) (us : Int32) (ux : Nat → Int32) (xN : Int32) (xT : Int32) (xA : Int32) (xh : Int32) (xd : Int32) (xl : Int32) (xr : Int32) (xo : Int32) (xw : Nat → Int32) (xpp : Nat → Option Nat) (xtp : Nat → Option Nat) (xap : Nat → Option Nat) (xsg : Nat → Int32) (yN : Int32) (yT : Int32) (yA : Int32) (yh : Int32) (yd : Int32) (yl : Int32) (yr : Int32) (yo : Int32) (yw : Nat → Int32) (ypp : Nat → Option Nat) (ytp : Nat → Option Nat) (yap : Nat → Option Nat) (ysg : Nat → Int32) (zat : Int32) (zpl : Int32) (zlt : Int32) (zjo : Bool) (zfo : Int32) (zsz : Int32) (zby : Nat → Int32) (znu : Nat → Int32) (G : zG)  (hrp : RfG G 2 10 pp) (hrt : RfG G 6 7 tp) (hra : RfG G 0 24 ap) : Met l yX7_image (.code yX7_image cX7_image 1 (some FieldType.int) :: AllW) (rm0' 3 123) (zP E (fun H => WW E (wK b E.2.1 (wT b E.2.1 xN xT xA xh xd xl xr xo xw xpp xtp xap xsg yN yT yA yh yd yl yr yo yw ypp ytp yap ysg zat zpl zlt zjo zfo zsz zby znu) pd qt qr tbu wst asw pN tN aN hd dr pl rm ps wx pp tp ap sg uh ud up ur us ux) G H) [.ref (b 0)]) (zQ (fun (_ : Heap) (v : Option Value) (H1 : Heap) => (v = some (.int aN) ∧ WW E (wK b E.2.1 (wT b E.2.1 pN tN aN hd dr pl rm ps wx pp tp ap xsg yN yT yA yh yd yl yr yo yw ypp ytp yap ysg zat zpl zlt zjo zfo zsz zby znu) true qt qr tbu wst asw pN tN aN hd dr pl rm ps wx pp tp ap sg uh ud up ur us ux) G H1)) (bF b)) 0 0 (bF b) := by
  refine z_body (own := RX7) (by decide) rfl rfl ?_
  intro p e s m args below meth c ls cx hr hlk hnm hW hl
  have hx := cx.x
  have hb := cx.b
  have hl : lv_has ls 1 [(0, .ref (b 0))] := hl
  have hFb : ∀ k, (bF b) (b k) := fun k => bF_in b k
  have hS : va_S (bF b) s.heap s.heap [] := va_S.rf
  refine lv_aload_n (pc := 0) hx hb dX7_image_0 rfl (lv_at hl 0 rfl) ?_
  refine z_get (pc := 1) cx (hW.at 0 rfl) (C := RX7) (T := TX7) (N := 11) rfl i_X7 1 rfl m_fl_X7_16 rfl dX7_image_1 ?_
  refine lv_aload_n (pc := 4) hx hb dX7_image_4 rfl (lv_at hl 0 rfl) ?_
  refine z_get (pc := 5) cx (hW.at 0 rfl) (C := RX7) (T := TX7) (N := 11) rfl i_X7 0 rfl m_fl_X7_10 rfl dX7_image_5 ?_
  refine k_X1_become_pf (pc := 8)  cx hW hS (fun _ h => h) (by first | assumption | omega) (by first | assumption | omega) (by first | assumption | omega) m_ml_X7_81 ⟨Nat.le_of_ble_eq_true rfl, Nat.le_of_ble_eq_true rfl⟩ hl.1 rfl (by simp [Value.category]) dX7_image_8 ⟨Nat.le_refl _, Nat.le_refl _⟩ (fun  H locs  hW hS => ?_)
  have hW : WW E (wK b E.2.1 (wT b E.2.1 pN tN aN hd dr pl rm ps wx pp tp ap xsg yN yT yA yh yd yl yr yo yw ypp ytp yap ysg zat zpl zlt zjo zfo zsz zby znu) pd qt qr tbu wst asw pN tN aN hd dr pl rm ps wx pp tp ap sg uh ud up ur us ux) G H := hW
  refine lv_aload_n (pc := 11) hx hb dX7_image_11 rfl (lv_at hl 0 rfl) ?_
  refine lv_iconst (pc := 12) (v := 1) hx hb dX7_image_12 (by decide) ?_
  refine z_putK7 (pc := 13) (b := true) cx hW hS 0 rfl (bF_in b 0) m_fl_X7_334 rfl dX7_image_13 (fun H locs hW hS => ?_)
  have hW : WW E (wK b E.2.1 (wT b E.2.1 pN tN aN hd dr pl rm ps wx pp tp ap xsg yN yT yA yh yd yl yr yo yw ypp ytp yap ysg zat zpl zlt zjo zfo zsz zby znu) true qt qr tbu wst asw pN tN aN hd dr pl rm ps wx pp tp ap sg uh ud up ur us ux) G H := hW
  refine lv_aload_n (pc := 16) hx hb dX7_image_16 rfl (lv_at hl 0 rfl) ?_
  refine z_get (pc := 17) cx (hW.at 0 rfl) (C := RX7) (T := TX7) (N := 11) rfl i_X7 0 rfl m_fl_X7_10 rfl dX7_image_17 ?_
  refine z_get (pc := 20) cx (hW.at 6 rfl) (C := RX1) (T := TX1) (N := 8) rfl i_X1 2 rfl m_fl_X7_203 rfl dX7_image_20 ?_
  exact z_wiret cx hr hlk dX7_image_23 hS ⟨rfl, hW⟩
theorem k_X7_image {p : Program} {l : Launch} {e : Env} {R : Room} {s : State} {m : MethodId} {args : Array Value} {below : List Frame} {meth : Method} {c : Code} {H H0 : Heap} {locs : List Loc} {cells slots : Nat} {Q : State → Prop} {cc : ByteArray} {pc index : Nat} {ls : Array Slot} {rest st0 : List Value} {E : zE} {own : String} {nL : Nat} {F : Nat → Prop} {b : Nat → Nat} {pd : Bool} {qt : Nat → Option Nat} {qr : Nat → Option Nat} {tbu : Nat → Int32} {wst : Nat → Int32} {asw : Nat → Int32} {pN : Int32} {tN : Int32} {aN : Int32} {hd : Int32} {dr : Int32} {pl : Int32} {rm : Int32} {ps : Int32} {wx : Nat → Int32} {pp : Nat → Option Nat} {tp : Nat → Option Nat} {ap : Nat → Option Nat} {sg : Nat → Int32} {uh : Int32} {ud : Int32} {up : Int32} {ur : Int32} {us : Int32} {ux : Nat → Int32} {xN : Int32} {xT : Int32} {xA : Int32} {xh : Int32} {xd : Int32} {xl : Int32} {xr : Int32} {xo : Int32} {xw : Nat → Int32} {xpp : Nat → Option Nat} {xtp : Nat → Option Nat} {xap : Nat → Option Nat} {xsg : Nat → Int32} {yN : Int32} {yT : Int32} {yA : Int32} {yh : Int32} {yd : Int32} {yl : Int32} {yr : Int32} {yo : Int32} {yw : Nat → Int32} {ypp : Nat → Option Nat} {ytp : Nat → Option Nat} {yap : Nat → Option Nat} {ysg : Nat → Int32} {zat : Int32} {zpl : Int32} {zlt : Int32} {zjo : Bool} {zfo : Int32} {zsz : Int32} {zby : Nat → Int32} {znu : Nat → Int32} {G : zG}  (cx : Cx E p s args m c own cc nL) (hW : WW E (wK b E.2.1 (wT b E.2.1 xN xT xA xh xd xl xr xo xw xpp xtp xap xsg yN yT yA yh yd yl yr yo yw ypp ytp yap ysg zat zpl zlt zjo zfo zsz zby znu) pd qt qr tbu wst asw pN tN aN hd dr pl rm ps wx pp tp ap sg uh ud up ur us ux) G H) (hS : va_S F H0 H locs) (zF : ∀ q, (bF b) q → F q) (hrp : RfG G 2 10 pp) (hrt : RfG G 6 7 tp) (hra : RfG G 0 24 ap) (zl : Cond.methodLink own index yX7_image ∈ AllW) (zR : 3 + 1 ≤ R.frames ∧ 8 + (1 + 11) + 123 ≤ R.locals) (zs : ls.size = nL) (zt : st0 = ([] : List Value).reverse ++ .ref (b 0) :: rest) (z8 : (rest.map fun v => v.category).sum ≤ 8) (zd : decode cc pc = .ok (.invokevirtual index, 3)) (zf : cells ≤ R.cells ∧ slots ≤ R.slots) (kk0 : ∀  (H1 : Heap) (locs1 : List Loc), WW E (wK b E.2.1 (wT b E.2.1 pN tN aN hd dr pl rm ps wx pp tp ap xsg yN yT yA yh yd yl yr yo yw ypp ytp yap ysg zat zpl zlt zjo zfo zsz zby znu) true qt qr tbu wst asw pN tN aN hd dr pl rm ps wx pp tp ap sg uh ud up ur us ux) G H1 → va_S F H0 H1 locs1 → W p l e R s m args below meth c H1 locs1 cells slots Q (F0 m (pc + 3) ls (.int aN :: rest))) : W p l e R s m args below meth c H locs cells slots Q (F0 m pc ls st0) := by
  refine z_callVw cx vm_X7_image (c_X7_image l E b pd qt qr tbu wst asw pN tN aN hd dr pl rm ps wx pp tp ap sg uh ud up ur us ux xN xT xA xh xd xl xr xo xw xpp xtp xap xsg yN yT yA yh yd yl yr yo yw ypp ytp yap ysg zat zpl zlt zjo zfo zsz zby znu G hrp hrt hra) (z_rec cx.2 (hW.at 0 rfl) rfl) hW hS zF zl ⟨rfl, rfl⟩ zR rfl zs zt z8 zd zf (fun v H1 locs1 hq hS1 _ => ?_)
  rcases hq with ⟨rfl, hW1⟩
  · exact kk0  H1 locs1  hW1 hS1
theorem vm_X7_restore : zVm yX7_restore cX7_restore 1 (some FieldType.int) 0 := ⟨m_co_X7_restore, m_in_RX7, ⟨m_im_X7_restore, m_se_X7_X7_restore⟩, by decide +kernel, by decide +kernel, by decide +kernel⟩
set_option maxHeartbeats 1000000 in
set_option maxRecDepth 100000 in
theorem c_X7_restore1 (l : Launch) (E : zE) (b : Nat → Nat) (qt : Nat → Option Nat) (qr : Nat → Option Nat) (tbu : Nat → Int32) (wst : Nat → Int32) (asw : Nat → Int32) (pN : Int32) (tN : Int32) (aN : Int32) (hd : Int32) (dr : Int32) (pl : Int32) (rm : Int32) (ps : Int32) (wx : Nat → Int32) (pp : Nat → Option Nat) (tp : Nat → Option Nat) (ap : Nat → Option Nat) (sg : Nat → Int32) (uh : Int32) (ud : Int32) (up : Int32) (ur : Int32) (us : Int32) (ux : Nat → Int32) (xN : Int32) (xT : Int32) (xA : Int32) (xh : Int32) (xd : Int32) (xl : Int32) (xr : Int32) (xo : Int32) (xw : Nat → Int32) (xpp : Nat → Option Nat) (xtp : Nat → Option Nat) (xap : Nat → Option Nat) (xsg : Nat → Int32) (yN : Int32) (yT : Int32) (yA : Int32) (yh : Int32) (yd : Int32) (yl : Int32) (yr : Int32) (yo : Int32) (yw : Nat → Int32) (ypp : Nat → Option Nat) (ytp : Nat → Option Nat) (yap : Nat → Option Nat) (ysg : Nat → Int32) (zat : Int32) (zpl : Int32) (zlt : Int32) (zjo : Bool) (zfo : Int32) (zsz : Int32) (zby : Nat → Int32) (znu : Nat → Int32) (G : zG)  (hrp : RfG G 2 10 xpp) (hrt : RfG G 6 7 xtp) (hra : RfG G 0 24 xap) : Met l yX7_restore (.code yX7_restore cX7_restore 1 (some FieldType.int) :: AllW) (rm0' 3 123) (zP E (fun H => WW E (wK b E.2.1 (wT b E.2.1 xN xT xA xh xd xl xr xo xw xpp xtp xap xsg yN yT yA yh yd yl yr yo yw ypp ytp yap ysg zat zpl zlt zjo zfo zsz zby znu) true qt qr tbu wst asw pN tN aN hd dr pl rm ps wx pp tp ap sg uh ud up ur us ux) G H) [.ref (b 0)]) (zQ (fun (_ : Heap) (v : Option Value) (H1 : Heap) => (v = some (.int xA) ∧ WW E (wK b E.2.1 (wT b E.2.1 xN xT xA xh xd xl xr xo xw xpp xtp xap xsg yN yT yA yh yd yl yr yo yw ypp ytp yap ysg zat zpl zlt zjo zfo zsz zby znu) true qt qr tbu wst asw xN xT xA xh xd xl xr xo xw xpp xtp xap sg uh ud up ur us ux) G H1)) (bF b)) 0 0 (bF b) := by
  refine z_body (own := RX7) (by decide) rfl rfl ?_
  intro p e s m args below meth c ls cx hr hlk hnm hW hl
  have hx := cx.x
  have hb := cx.b
  have hl : lv_has ls 1 [(0, .ref (b 0))] := hl
  have hFb : ∀ k, (bF b) (b k) := fun k => bF_in b k
  have hS : va_S (bF b) s.heap s.heap [] := va_S.rf
  refine lv_aload_n (pc := 0) hx hb dX7_restore_0 rfl (lv_at hl 0 rfl) ?_
  refine z_get (pc := 1) cx (hW.at 0 rfl) (C := RX7) (T := TX7) (N := 11) rfl i_X7 2 rfl m_fl_X7_334 rfl dX7_restore_1 ?_
  refine z_ifne (pc := 4) (tgt := 10) hx hb dX7_restore_4 (by decide) (fun _ => ?_) (fun c => absurd c (by decide))
  refine lv_aload_n (pc := 10) hx hb dX7_restore_10 rfl (lv_at hl 0 rfl) ?_
  refine z_get (pc := 11) cx (hW.at 0 rfl) (C := RX7) (T := TX7) (N := 11) rfl i_X7 0 rfl m_fl_X7_10 rfl dX7_restore_11 ?_
  refine lv_aload_n (pc := 14) hx hb dX7_restore_14 rfl (lv_at hl 0 rfl) ?_
  refine z_get (pc := 15) cx (hW.at 0 rfl) (C := RX7) (T := TX7) (N := 11) rfl i_X7 1 rfl m_fl_X7_16 rfl dX7_restore_15 ?_
  refine k_X1_become_fp (pc := 18)  cx hW hS (fun _ h => h) (by first | assumption | omega) (by first | assumption | omega) (by first | assumption | omega) m_ml_X7_81 ⟨Nat.le_of_ble_eq_true rfl, Nat.le_of_ble_eq_true rfl⟩ hl.1 rfl (by simp [Value.category]) dX7_restore_18 ⟨Nat.le_refl _, Nat.le_refl _⟩ (fun  H locs  hW hS => ?_)
  have hW : WW E (wK b E.2.1 (wT b E.2.1 xN xT xA xh xd xl xr xo xw xpp xtp xap xsg yN yT yA yh yd yl yr yo yw ypp ytp yap ysg zat zpl zlt zjo zfo zsz zby znu) true qt qr tbu wst asw xN xT xA xh xd xl xr xo xw xpp xtp xap sg uh ud up ur us ux) G H := hW
  refine lv_aload_n (pc := 21) hx hb dX7_restore_21 rfl (lv_at hl 0 rfl) ?_
  refine z_get (pc := 22) cx (hW.at 0 rfl) (C := RX7) (T := TX7) (N := 11) rfl i_X7 0 rfl m_fl_X7_10 rfl dX7_restore_22 ?_
  refine z_get (pc := 25) cx (hW.at 6 rfl) (C := RX1) (T := TX1) (N := 8) rfl i_X1 2 rfl m_fl_X7_203 rfl dX7_restore_25 ?_
  exact z_wiret cx hr hlk dX7_restore_28 hS ⟨rfl, hW⟩
theorem k_X7_restore1 {p : Program} {l : Launch} {e : Env} {R : Room} {s : State} {m : MethodId} {args : Array Value} {below : List Frame} {meth : Method} {c : Code} {H H0 : Heap} {locs : List Loc} {cells slots : Nat} {Q : State → Prop} {cc : ByteArray} {pc index : Nat} {ls : Array Slot} {rest st0 : List Value} {E : zE} {own : String} {nL : Nat} {F : Nat → Prop} {b : Nat → Nat} {qt : Nat → Option Nat} {qr : Nat → Option Nat} {tbu : Nat → Int32} {wst : Nat → Int32} {asw : Nat → Int32} {pN : Int32} {tN : Int32} {aN : Int32} {hd : Int32} {dr : Int32} {pl : Int32} {rm : Int32} {ps : Int32} {wx : Nat → Int32} {pp : Nat → Option Nat} {tp : Nat → Option Nat} {ap : Nat → Option Nat} {sg : Nat → Int32} {uh : Int32} {ud : Int32} {up : Int32} {ur : Int32} {us : Int32} {ux : Nat → Int32} {xN : Int32} {xT : Int32} {xA : Int32} {xh : Int32} {xd : Int32} {xl : Int32} {xr : Int32} {xo : Int32} {xw : Nat → Int32} {xpp : Nat → Option Nat} {xtp : Nat → Option Nat} {xap : Nat → Option Nat} {xsg : Nat → Int32} {yN : Int32} {yT : Int32} {yA : Int32} {yh : Int32} {yd : Int32} {yl : Int32} {yr : Int32} {yo : Int32} {yw : Nat → Int32} {ypp : Nat → Option Nat} {ytp : Nat → Option Nat} {yap : Nat → Option Nat} {ysg : Nat → Int32} {zat : Int32} {zpl : Int32} {zlt : Int32} {zjo : Bool} {zfo : Int32} {zsz : Int32} {zby : Nat → Int32} {znu : Nat → Int32} {G : zG}  (cx : Cx E p s args m c own cc nL) (hW : WW E (wK b E.2.1 (wT b E.2.1 xN xT xA xh xd xl xr xo xw xpp xtp xap xsg yN yT yA yh yd yl yr yo yw ypp ytp yap ysg zat zpl zlt zjo zfo zsz zby znu) true qt qr tbu wst asw pN tN aN hd dr pl rm ps wx pp tp ap sg uh ud up ur us ux) G H) (hS : va_S F H0 H locs) (zF : ∀ q, (bF b) q → F q) (hrp : RfG G 2 10 xpp) (hrt : RfG G 6 7 xtp) (hra : RfG G 0 24 xap) (zl : Cond.methodLink own index yX7_restore ∈ AllW) (zR : 3 + 1 ≤ R.frames ∧ 8 + (1 + 11) + 123 ≤ R.locals) (zs : ls.size = nL) (zt : st0 = ([] : List Value).reverse ++ .ref (b 0) :: rest) (z8 : (rest.map fun v => v.category).sum ≤ 8) (zd : decode cc pc = .ok (.invokevirtual index, 3)) (zf : cells ≤ R.cells ∧ slots ≤ R.slots) (kk0 : ∀  (H1 : Heap) (locs1 : List Loc), WW E (wK b E.2.1 (wT b E.2.1 xN xT xA xh xd xl xr xo xw xpp xtp xap xsg yN yT yA yh yd yl yr yo yw ypp ytp yap ysg zat zpl zlt zjo zfo zsz zby znu) true qt qr tbu wst asw xN xT xA xh xd xl xr xo xw xpp xtp xap sg uh ud up ur us ux) G H1 → va_S F H0 H1 locs1 → W p l e R s m args below meth c H1 locs1 cells slots Q (F0 m (pc + 3) ls (.int xA :: rest))) : W p l e R s m args below meth c H locs cells slots Q (F0 m pc ls st0) := by
  refine z_callVw cx vm_X7_restore (c_X7_restore1 l E b qt qr tbu wst asw pN tN aN hd dr pl rm ps wx pp tp ap sg uh ud up ur us ux xN xT xA xh xd xl xr xo xw xpp xtp xap xsg yN yT yA yh yd yl yr yo yw ypp ytp yap ysg zat zpl zlt zjo zfo zsz zby znu G hrp hrt hra) (z_rec cx.2 (hW.at 0 rfl) rfl) hW hS zF zl ⟨rfl, rfl⟩ zR rfl zs zt z8 zd zf (fun v H1 locs1 hq hS1 _ => ?_)
  rcases hq with ⟨rfl, hW1⟩
  · exact kk0  H1 locs1  hW1 hS1
set_option maxHeartbeats 1000000 in
set_option maxRecDepth 100000 in
theorem c_X7_restore0 (l : Launch) (E : zE) (b : Nat → Nat) (qt : Nat → Option Nat) (qr : Nat → Option Nat) (tbu : Nat → Int32) (wst : Nat → Int32) (asw : Nat → Int32) (pN : Int32) (tN : Int32) (aN : Int32) (hd : Int32) (dr : Int32) (pl : Int32) (rm : Int32) (ps : Int32) (wx : Nat → Int32) (pp : Nat → Option Nat) (tp : Nat → Option Nat) (ap : Nat → Option Nat) (sg : Nat → Int32) (uh : Int32) (ud : Int32) (up : Int32) (ur : Int32) (us : Int32) (ux : Nat → Int32) (xN : Int32) (xT : Int32) (xA : Int32) (xh : Int32) (xd : Int32) (xl : Int32) (xr : Int32) (xo : Int32) (xw : Nat → Int32) (xpp : Nat → Option Nat) (xtp : Nat → Option Nat) (xap : Nat → Option Nat) (xsg : Nat → Int32) (yN : Int32) (yT : Int32) (yA : Int32) (yh : Int32) (yd : Int32) (yl : Int32) (yr : Int32) (yo : Int32) (yw : Nat → Int32) (ypp : Nat → Option Nat) (ytp : Nat → Option Nat) (yap : Nat → Option Nat) (ysg : Nat → Int32) (zat : Int32) (zpl : Int32) (zlt : Int32) (zjo : Bool) (zfo : Int32) (zsz : Int32) (zby : Nat → Int32) (znu : Nat → Int32) (G : zG)   : Met l yX7_restore (.code yX7_restore cX7_restore 1 (some FieldType.int) :: AllW) (rm0' 0 0) (zP E (fun H => WW E (wK b E.2.1 (wT b E.2.1 xN xT xA xh xd xl xr xo xw xpp xtp xap xsg yN yT yA yh yd yl yr yo yw ypp ytp yap ysg zat zpl zlt zjo zfo zsz zby znu) false qt qr tbu wst asw pN tN aN hd dr pl rm ps wx pp tp ap sg uh ud up ur us ux) G H) [.ref (b 0)]) (zQ (fun (_ : Heap) (v : Option Value) (H1 : Heap) => (v = some (.int (-3)) ∧ WW E (wK b E.2.1 (wT b E.2.1 xN xT xA xh xd xl xr xo xw xpp xtp xap xsg yN yT yA yh yd yl yr yo yw ypp ytp yap ysg zat zpl zlt zjo zfo zsz zby znu) false qt qr tbu wst asw pN tN aN hd dr pl rm ps wx pp tp ap sg uh ud up ur us ux) G H1)) (bF b)) 0 0 (bF b) := by
  refine z_body (own := RX7) (by decide) rfl rfl ?_
  intro p e s m args below meth c ls cx hr hlk hnm hW hl
  have hx := cx.x
  have hb := cx.b
  have hl : lv_has ls 1 [(0, .ref (b 0))] := hl
  have hFb : ∀ k, (bF b) (b k) := fun k => bF_in b k
  have hS : va_S (bF b) s.heap s.heap [] := va_S.rf
  refine lv_aload_n (pc := 0) hx hb dX7_restore_0 rfl (lv_at hl 0 rfl) ?_
  refine z_get (pc := 1) cx (hW.at 0 rfl) (C := RX7) (T := TX7) (N := 11) rfl i_X7 2 rfl m_fl_X7_334 rfl dX7_restore_1 ?_
  refine z_ifne (pc := 4) (tgt := 10) hx hb dX7_restore_4 (by decide) (fun c => absurd c (by decide)) (fun _ => ?_)
  refine lv_bipush (pc := 7) (v := (-3)) hx hb dX7_restore_7 (by decide) ?_
  exact z_wiret cx hr hlk dX7_restore_9 hS ⟨(sI (by first | rfl | (simp []; done))), hW⟩
theorem k_X7_restore0 {p : Program} {l : Launch} {e : Env} {R : Room} {s : State} {m : MethodId} {args : Array Value} {below : List Frame} {meth : Method} {c : Code} {H H0 : Heap} {locs : List Loc} {cells slots : Nat} {Q : State → Prop} {cc : ByteArray} {pc index : Nat} {ls : Array Slot} {rest st0 : List Value} {E : zE} {own : String} {nL : Nat} {F : Nat → Prop} {b : Nat → Nat} {qt : Nat → Option Nat} {qr : Nat → Option Nat} {tbu : Nat → Int32} {wst : Nat → Int32} {asw : Nat → Int32} {pN : Int32} {tN : Int32} {aN : Int32} {hd : Int32} {dr : Int32} {pl : Int32} {rm : Int32} {ps : Int32} {wx : Nat → Int32} {pp : Nat → Option Nat} {tp : Nat → Option Nat} {ap : Nat → Option Nat} {sg : Nat → Int32} {uh : Int32} {ud : Int32} {up : Int32} {ur : Int32} {us : Int32} {ux : Nat → Int32} {xN : Int32} {xT : Int32} {xA : Int32} {xh : Int32} {xd : Int32} {xl : Int32} {xr : Int32} {xo : Int32} {xw : Nat → Int32} {xpp : Nat → Option Nat} {xtp : Nat → Option Nat} {xap : Nat → Option Nat} {xsg : Nat → Int32} {yN : Int32} {yT : Int32} {yA : Int32} {yh : Int32} {yd : Int32} {yl : Int32} {yr : Int32} {yo : Int32} {yw : Nat → Int32} {ypp : Nat → Option Nat} {ytp : Nat → Option Nat} {yap : Nat → Option Nat} {ysg : Nat → Int32} {zat : Int32} {zpl : Int32} {zlt : Int32} {zjo : Bool} {zfo : Int32} {zsz : Int32} {zby : Nat → Int32} {znu : Nat → Int32} {G : zG}  (cx : Cx E p s args m c own cc nL) (hW : WW E (wK b E.2.1 (wT b E.2.1 xN xT xA xh xd xl xr xo xw xpp xtp xap xsg yN yT yA yh yd yl yr yo yw ypp ytp yap ysg zat zpl zlt zjo zfo zsz zby znu) false qt qr tbu wst asw pN tN aN hd dr pl rm ps wx pp tp ap sg uh ud up ur us ux) G H) (hS : va_S F H0 H locs) (zF : ∀ q, (bF b) q → F q)  (zl : Cond.methodLink own index yX7_restore ∈ AllW) (zR : 0 + 1 ≤ R.frames ∧ 8 + (1 + 11) + 0 ≤ R.locals) (zs : ls.size = nL) (zt : st0 = ([] : List Value).reverse ++ .ref (b 0) :: rest) (z8 : (rest.map fun v => v.category).sum ≤ 8) (zd : decode cc pc = .ok (.invokevirtual index, 3)) (zf : cells ≤ R.cells ∧ slots ≤ R.slots) (kk0 : ∀  (H1 : Heap) (locs1 : List Loc), WW E (wK b E.2.1 (wT b E.2.1 xN xT xA xh xd xl xr xo xw xpp xtp xap xsg yN yT yA yh yd yl yr yo yw ypp ytp yap ysg zat zpl zlt zjo zfo zsz zby znu) false qt qr tbu wst asw pN tN aN hd dr pl rm ps wx pp tp ap sg uh ud up ur us ux) G H1 → va_S F H0 H1 locs1 → W p l e R s m args below meth c H1 locs1 cells slots Q (F0 m (pc + 3) ls (.int (-3) :: rest))) : W p l e R s m args below meth c H locs cells slots Q (F0 m pc ls st0) := by
  refine z_callVw cx vm_X7_restore (c_X7_restore0 l E b qt qr tbu wst asw pN tN aN hd dr pl rm ps wx pp tp ap sg uh ud up ur us ux xN xT xA xh xd xl xr xo xw xpp xtp xap xsg yN yT yA yh yd yl yr yo yw ypp ytp yap ysg zat zpl zlt zjo zfo zsz zby znu G) (z_rec cx.2 (hW.at 0 rfl) rfl) hW hS zF zl ⟨rfl, rfl⟩ zR rfl zs zt z8 zd zf (fun v H1 locs1 hq hS1 _ => ?_)
  rcases hq with ⟨rfl, hW1⟩
  · exact kk0  H1 locs1  hW1 hS1
