theorem vm_X3_readStatement : zVm yX3_readStatement cX3_readStatement 2 (some FieldType.boolean) 0 := ⟨m_co_X3_readStatement, m_in_RX3, ⟨m_im_X3_readStatement, m_se_X3_X3_readStatement⟩, by decide +kernel, by decide +kernel, by decide +kernel⟩
set_option maxHeartbeats 1000000 in
set_option maxRecDepth 100000 in
theorem c_X3_readStatement (l : Launch) (E : zE) (b : Nat → Nat) (pd : Bool) (qt : Nat → Option Nat) (qr : Nat → Option Nat) (tbu : Nat → Int32) (wst : Nat → Int32) (asw : Nat → Int32) (pN : Int32) (tN : Int32) (aN : Int32) (hd : Int32) (dr : Int32) (pl : Int32) (rm : Int32) (ps : Int32) (wx : Nat → Int32) (pp : Nat → Option Nat) (tp : Nat → Option Nat) (ap : Nat → Option Nat) (sg : Nat → Int32) (uh : Int32) (ud : Int32) (up : Int32) (ur : Int32) (us : Int32) (ux : Nat → Int32) (xN : Int32) (xT : Int32) (xA : Int32) (xh : Int32) (xd : Int32) (xl : Int32) (xr : Int32) (xo : Int32) (xw : Nat → Int32) (xpp : Nat → Option Nat) (xtp : Nat → Option Nat) (xap : Nat → Option Nat) (xsg : Nat → Int32) (yN : Int32) (yT : Int32) (yA : Int32) (yh : Int32) (yd : Int32) (yl : Int32) (yr : Int32) (yo : Int32) (yw : Nat → Int32) (ypp : Nat → Option Nat) (ytp : Nat → Option Nat) (yap : Nat → Option Nat) (ysg : Nat → Int32) (zpl : Int32) (zlt : Int32) (zjo : Bool) (zfo : Int32) (zby : Nat → Int32) (znu : Nat → Int32) (G : zG) (q z : Nat) (hz : z ≤ 100) (hq : q ≤ z) : Met l yX3_readStatement (.code yX3_readStatement cX3_readStatement 2 (some FieldType.boolean) :: AllW) (rm0' 5 107) (zPc E (bF b) (fun H => WW E (wK b E.2.1 (wT b E.2.1 xN xT xA xh xd xl xr xo xw xpp xtp xap xsg yN yT yA yh yd yl yr yo yw ypp ytp yap ysg (nI q) zpl zlt zjo zfo (nI z) zby znu) pd qt qr tbu wst asw pN tN aN hd dr pl rm ps wx pp tp ap sg uh ud up ur us ux) G H) [.ref (b 29)]) (zQ (fun (_ : Heap) (v : Option Value) (H1 : Heap) => (v = some (.int (bI ((rdS (txC zby z) q znu).1))) ∧ ((rdS (txC zby z) q znu).2.1.1 ≤ z) ∧ ((rdS (txC zby z) q znu).1 = true → q < z) ∧ WW E (wK b E.2.1 (wT b E.2.1 xN xT xA xh xd xl xr xo xw xpp xtp xap xsg yN yT yA yh yd yl yr yo yw ypp ytp yap ysg (nI (rdS (txC zby z) q znu).2.1.1) (nI q) (bhC zby z q) ((rdS (txC zby z) q znu).2.2) (nI (rdS (txC zby z) q znu).2.1.2.2) (nI z) zby ((rdS (txC zby z) q znu).2.1.2.1)) pd qt qr tbu wst asw pN tN aN hd dr pl rm ps wx pp tp ap sg uh ud up ur us ux) G H1)) (bF b)) 0 0 (bF b) := by
  refine z_bodyc (own := RX3) (by decide) rfl rfl ?_
  intro p e s m args below meth c ls cx hr hlk hnm hW hCE hl
  have hx := cx.x
  have hb := cx.b
  have hl : lv_has ls 2 [(0, .ref (b 29))] := hl
  have hFb : ∀ k, (bF b) (b k) := fun k => bF_in b k
  have hS : va_S (bF b) s.heap s.heap [] := va_S.rf
  refine lv_aload_n (pc := 0) hx hb dX3_readStatement_0 rfl (lv_at hl 0 rfl) ?_
  refine lv_aload_n (pc := 1) hx hb dX3_readStatement_1 rfl (lv_at hl 0 rfl) ?_
  refine z_get (pc := 2) cx (hW.at 29 rfl) (C := RX3) (T := TX3) (N := 8) rfl i_X3 0 rfl m_fl_X3_37 rfl dX3_readStatement_2 ?_
  refine z_putK3 (pc := 5) cx hW hS 29 rfl (bF_in b 29) 1 rfl m_fl_X3_44 rfl rfl dX3_readStatement_5 (fun H locs hW hS => ?_)
  have hW : WW E (wK b E.2.1 (wT b E.2.1 xN xT xA xh xd xl xr xo xw xpp xtp xap xsg yN yT yA yh yd yl yr yo yw ypp ytp yap ysg (nI q) (nI q) zlt zjo zfo (nI z) zby znu) pd qt qr tbu wst asw pN tN aN hd dr pl rm ps wx pp tp ap sg uh ud up ur us ux) G H := hW
  refine lv_aload_n (pc := 8) hx hb dX3_readStatement_8 rfl (lv_at hl 0 rfl) ?_
  refine lv_aload_n (pc := 9) hx hb dX3_readStatement_9 rfl (lv_at hl 0 rfl) ?_
  refine k_X3_byteHere (pc := 10) (q := q) (z := z) cx hW (by first | assumption | omega) (by first | assumption | omega) m_ml_X3_47 ⟨Nat.le_of_ble_eq_true rfl, Nat.le_of_ble_eq_true rfl⟩ hl.1 rfl (by simp [Value.category]) dX3_readStatement_10 ⟨Nat.le_refl _, Nat.le_refl _⟩ ?_
  refine z_putK3 (pc := 13) cx hW hS 29 rfl (bF_in b 29) 2 rfl m_fl_X3_50 rfl rfl dX3_readStatement_13 (fun H locs hW hS => ?_)
  have hW : WW E (wK b E.2.1 (wT b E.2.1 xN xT xA xh xd xl xr xo xw xpp xtp xap xsg yN yT yA yh yd yl yr yo yw ypp ytp yap ysg (nI q) (nI q) (bhC zby z q) zjo zfo (nI z) zby znu) pd qt qr tbu wst asw pN tN aN hd dr pl rm ps wx pp tp ap sg uh ud up ur us ux) G H := hW
  refine lv_aload_n (pc := 16) hx hb dX3_readStatement_16 rfl (lv_at hl 0 rfl) ?_
  refine lv_iconst (pc := 17) (v := 0) hx hb dX3_readStatement_17 (by decide) ?_
  refine z_putK3 (pc := 18) cx hW hS 29 rfl (bF_in b 29) 4 rfl m_fl_X3_53 rfl rfl dX3_readStatement_18 (fun H locs hW hS => ?_)
  have hW : WW E (wK b E.2.1 (wT b E.2.1 xN xT xA xh xd xl xr xo xw xpp xtp xap xsg yN yT yA yh yd yl yr yo yw ypp ytp yap ysg (nI q) (nI q) (bhC zby z q) zjo 0 (nI z) zby znu) pd qt qr tbu wst asw pN tN aN hd dr pl rm ps wx pp tp ap sg uh ud up ur us ux) G H := hW
  have hW : WW E (wK b E.2.1 (wT b E.2.1 xN xT xA xh xd xl xr xo xw xpp xtp xap xsg yN yT yA yh yd yl yr yo yw ypp ytp yap ysg (nI q) (nI q) (bhC zby z q) zjo (nI 0) (nI z) zby znu) pd qt qr tbu wst asw pN tN aN hd dr pl rm ps wx pp tp ap sg uh ud up ur us ux) G H := hW
  refine lv_aload_n (pc := 21) hx hb dX3_readStatement_21 rfl (lv_at hl 0 rfl) ?_
  refine lv_iconst (pc := 22) (v := 0) hx hb dX3_readStatement_22 (by decide) ?_
  refine z_putK3z (pc := 23) (b := false) cx hW hS 29 rfl (bF_in b 29) m_fl_X3_56 rfl dX3_readStatement_23 (fun H locs hW hS => ?_)
  have hW : WW E (wK b E.2.1 (wT b E.2.1 xN xT xA xh xd xl xr xo xw xpp xtp xap xsg yN yT yA yh yd yl yr yo yw ypp ytp yap ysg (nI q) (nI q) (bhC zby z q) false (nI 0) (nI z) zby znu) pd qt qr tbu wst asw pN tN aN hd dr pl rm ps wx pp tp ap sg uh ud up ur us ux) G H := hW
  refine lv_aload_n (pc := 26) hx hb dX3_readStatement_26 rfl (lv_at hl 0 rfl) ?_
  refine z_get (pc := 27) cx (hW.at 29 rfl) (C := RX3) (T := TX3) (N := 8) rfl i_X3 2 rfl m_fl_X3_50 rfl dX3_readStatement_27 ?_
  refine k_X3_formOf (pc := 30) (x := bhC zby z q) cx (hCE.kept hS.2.1)  m_ml_X3_60 ⟨Nat.le_of_ble_eq_true rfl, Nat.le_of_ble_eq_true rfl⟩ hl.1 rfl (by simp [Value.category]) dX3_readStatement_30 ⟨Nat.le_refl _, Nat.le_refl _⟩ ?_
  refine lv_astore_n (pc := 33) (lv' := [(1, .ref (aS E (fmI (bhC zby z q)))), (0, .ref (b 29))]) hx hb dX3_readStatement_33 rfl hl (by decide) rfl (fun ls hl => ?_)
  refine lv_aload_n (pc := 34) hx hb dX3_readStatement_34 rfl (lv_at hl 0 rfl) ?_
  refine k_J0_isEmpty_aae02 (pc := 35) (i := fmI (bhC zby z q)) cx (hCE.kept hS.2.1) (fmI_7 _) m_ml_X3_64 ⟨Nat.le_of_ble_eq_true rfl, Nat.le_of_ble_eq_true rfl⟩ hl.1 rfl (by simp [Value.category]) dX3_readStatement_35 ⟨Nat.le_refl _, Nat.le_refl _⟩ ?_
  refine z_ifeq (pc := 38) (tgt := 43) hx hb dX3_readStatement_38 (by decide) (fun c_1 => ?_) (fun c_1 => ?_)
  · skip
    have h4n : ¬ fmI (txC zby z q) = 4 := fun x => absurd ((fmI_0 _).mpr ((fmI_bh zby z q).trans x)) (of_decide_eq_false c_1)
    have hlt := fmI_lt h4n
    have hbt : bhC zby z q = txC zby z q := bh_tx hlt
    refine lv_aload_n (pc := 43) hx hb dX3_readStatement_43 rfl (lv_at hl 1 rfl) ?_
    refine lv_dup (pc := 44) hx hb dX3_readStatement_44 rfl ?_
    refine z_get (pc := 45) cx (hW.at 29 rfl) (C := RX3) (T := TX3) (N := 8) rfl i_X3 0 rfl m_fl_X3_37 rfl dX3_readStatement_45 ?_
    refine lv_iconst (pc := 48) (v := 1) hx hb dX3_readStatement_48 (by decide) ?_
    refine lv_iadd (pc := 49) hx hb dX3_readStatement_49 ?_
    refine z_tope (y := nI (q + 1)) (nI_1 _) ?_
    refine z_putK3 (pc := 50) cx hW hS 29 rfl (bF_in b 29) 0 rfl m_fl_X3_37 rfl rfl dX3_readStatement_50 (fun H locs hW hS => ?_)
    have hW : WW E (wK b E.2.1 (wT b E.2.1 xN xT xA xh xd xl xr xo xw xpp xtp xap xsg yN yT yA yh yd yl yr yo yw ypp ytp yap ysg (nI (q + 1)) (nI q) (bhC zby z q) false (nI 0) (nI z) zby znu) pd qt qr tbu wst asw pN tN aN hd dr pl rm ps wx pp tp ap sg uh ud up ur us ux) G H := hW
    refine lv_aload_n (pc := 53) hx hb dX3_readStatement_53 rfl (lv_at hl 1 rfl) ?_
    refine lv_aload_n (pc := 54) hx hb dX3_readStatement_54 rfl (lv_at hl 0 rfl) ?_
    refine k_X3_readForm (pc := 55) (q := q + 1) (z := z) (t := 0) (i := fmI (bhC zby z q)) cx (hCE.kept hS.2.1) hW hS (fun _ h => h) hz (by omega) (fmI_7 _) (by rw [Nat.zero_add]; exact dcS_5 _ (fmI_7 _)) m_ml_X3_69 ⟨Nat.le_of_ble_eq_true rfl, Nat.le_of_ble_eq_true rfl⟩ hl.1 rfl (by simp [Value.category]) dX3_readStatement_55 ⟨Nat.le_refl _, Nat.le_refl _⟩ (fun q2_55 nu2_55 t2_55 H locs hf_55 hqz_55 ht_55 hW hS => ?_) (fun q2_55 nu2_55 t2_55 H locs hf_55 hqz_55 hW hS => ?_)
    · skip
      have hW : WW E (wK b E.2.1 (wT b E.2.1 xN xT xA xh xd xl xr xo xw xpp xtp xap xsg yN yT yA yh yd yl yr yo yw ypp ytp yap ysg (nI q2_55) (nI q) (bhC zby z q) false (nI t2_55) (nI z) zby nu2_55) pd qt qr tbu wst asw pN tN aN hd dr pl rm ps wx pp tp ap sg uh ud up ur us ux) G H := hW
      rw [hbt] at hf_55
      have ht5 : t2_55 ≤ 5 := by rw [ht_55, Nat.zero_add]; exact dcS_5 _ (fmI_7 _)
      refine lv_if_ne (pc := 58) (tgt := 63) hx hb dX3_readStatement_58 (by decide) (fun _ => ?_) (fun c => absurd c (by decide))
      refine lv_aload_n (pc := 63) hx hb dX3_readStatement_63 rfl (lv_at hl 1 rfl) ?_
      refine z_get (pc := 64) cx (hW.at 29 rfl) (C := RX3) (T := TX3) (N := 8) rfl i_X3 2 rfl m_fl_X3_50 rfl dX3_readStatement_64 ?_
      refine lv_bipush (pc := 67) (v := 112) hx hb dX3_readStatement_67 (by decide) ?_
      refine lv_icmp_ne (pc := 69) (tgt := 97) hx hb dX3_readStatement_69 (by decide) (fun c_3 => ?_) (fun c_3 => ?_)
      · skip
        have hnj : ¬ (txC zby z q = 112 ∧ txC zby z (q2_55, nu2_55, t2_55).1 = 106) := fun x => c_3 (hbt.trans x.1)
        refine lv_aload_n (pc := 97) hx hb dX3_readStatement_97 rfl (lv_at hl 1 rfl) ?_
        refine va_ldcS (pc := 98) hx hb cx.own (hCE.2.1 6 (by decide)) dX3_readStatement_98 ?_
        refine k_X3_readForm (pc := 100) (q := q2_55) (z := z) (t := t2_55) (i := 6) cx (hCE.kept hS.2.1) hW hS (fun _ h => h) hz hqz_55 (by decide) (by show t2_55 + 0 ≤ 5; omega) m_ml_X3_69 ⟨Nat.le_of_ble_eq_true rfl, Nat.le_of_ble_eq_true rfl⟩ hl.1 rfl (by simp [Value.category]) dX3_readStatement_100 ⟨Nat.le_refl _, Nat.le_refl _⟩ (fun q2_100 nu2_100 t2_100 H locs hf_100 hqz_100 ht_100 hW hS => ?_) (fun q2_100 nu2_100 t2_100 H locs hf_100 hqz_100 hW hS => ?_)
        · skip
          have hW : WW E (wK b E.2.1 (wT b E.2.1 xN xT xA xh xd xl xr xo xw xpp xtp xap xsg yN yT yA yh yd yl yr yo yw ypp ytp yap ysg (nI q2_100) (nI q) (bhC zby z q) false (nI t2_100) (nI z) zby nu2_100) pd qt qr tbu wst asw pN tN aN hd dr pl rm ps wx pp tp ap sg uh ud up ur us ux) G H := hW
          have hR := rd_3 h4n hf_55 hnj hf_100
          exact z_wzret (b := true) cx hr hlk dX3_readStatement_103 hS ⟨(sI (by first | rfl | (simp [hR, hf_55, hf_100]; done))), (by rw [hR]; assumption), (fun _ => hlt), (by rw [show ((rdS (txC zby z) q znu).2.2) = false from (by first | rfl | (simp [hR, nI00, hf_55, hf_100]; done)), show (nI (rdS (txC zby z) q znu).2.1.1) = nI q2_100 from (by first | rfl | (simp [hR, nI00, hf_55, hf_100]; done)), show ((rdS (txC zby z) q znu).2.1.2.1) = nu2_100 from (by first | rfl | (simp [hR, nI00, hf_55, hf_100]; done)), show (nI (rdS (txC zby z) q znu).2.1.2.2) = nI t2_100 from (by first | rfl | (simp [hR, nI00, hf_55, hf_100]; done))]; exact hW)⟩
        · skip
          have hW : WW E (wK b E.2.1 (wT b E.2.1 xN xT xA xh xd xl xr xo xw xpp xtp xap xsg yN yT yA yh yd yl yr yo yw ypp ytp yap ysg (nI q2_100) (nI q) (bhC zby z q) false (nI t2_100) (nI z) zby nu2_100) pd qt qr tbu wst asw pN tN aN hd dr pl rm ps wx pp tp ap sg uh ud up ur us ux) G H := hW
          have hR := rd_3 h4n hf_55 hnj hf_100
          exact z_wzret (b := false) cx hr hlk dX3_readStatement_103 hS ⟨(sI (by first | rfl | (simp [hR, hf_55, hf_100]; done))), (by rw [hR]; assumption), (fun _ => hlt), (by rw [show ((rdS (txC zby z) q znu).2.2) = false from (by first | rfl | (simp [hR, nI00, hf_55, hf_100]; done)), show (nI (rdS (txC zby z) q znu).2.1.1) = nI q2_100 from (by first | rfl | (simp [hR, nI00, hf_55, hf_100]; done)), show ((rdS (txC zby z) q znu).2.1.2.1) = nu2_100 from (by first | rfl | (simp [hR, nI00, hf_55, hf_100]; done)), show (nI (rdS (txC zby z) q znu).2.1.2.2) = nI t2_100 from (by first | rfl | (simp [hR, nI00, hf_55, hf_100]; done))]; exact hW)⟩
      · skip
        have h12 := hbt.symm.trans c_3
        have hfm : fmI (bhC zby z q) = 0 := by rw [c_3]; rfl
        refine lv_aload_n (pc := 72) hx hb dX3_readStatement_72 rfl (lv_at hl 1 rfl) ?_
        refine k_X3_byteHere (pc := 73) (q := q2_55) (z := z) cx hW (by first | assumption | omega) (by first | assumption | omega) m_ml_X3_47 ⟨Nat.le_of_ble_eq_true rfl, Nat.le_of_ble_eq_true rfl⟩ hl.1 rfl (by simp [Value.category]) dX3_readStatement_73 ⟨Nat.le_refl _, Nat.le_refl _⟩ ?_
        refine lv_bipush (pc := 76) (v := 106) hx hb dX3_readStatement_76 (by decide) ?_
        refine lv_icmp_ne (pc := 78) (tgt := 97) hx hb dX3_readStatement_78 (by decide) (fun c_4 => ?_) (fun c_4 => ?_)
        · skip
          have hnj : ¬ (txC zby z q = 112 ∧ txC zby z (q2_55, nu2_55, t2_55).1 = 106) := fun x => c_4 ((bh_k (by decide) (by decide)).mpr x.2)
          refine lv_aload_n (pc := 97) hx hb dX3_readStatement_97 rfl (lv_at hl 1 rfl) ?_
          refine va_ldcS (pc := 98) hx hb cx.own (hCE.2.1 6 (by decide)) dX3_readStatement_98 ?_
          refine k_X3_readForm (pc := 100) (q := q2_55) (z := z) (t := t2_55) (i := 6) cx (hCE.kept hS.2.1) hW hS (fun _ h => h) hz hqz_55 (by decide) (by show t2_55 + 0 ≤ 5; omega) m_ml_X3_69 ⟨Nat.le_of_ble_eq_true rfl, Nat.le_of_ble_eq_true rfl⟩ hl.1 rfl (by simp [Value.category]) dX3_readStatement_100 ⟨Nat.le_refl _, Nat.le_refl _⟩ (fun q2_100 nu2_100 t2_100 H locs hf_100 hqz_100 ht_100 hW hS => ?_) (fun q2_100 nu2_100 t2_100 H locs hf_100 hqz_100 hW hS => ?_)
          · skip
            have hW : WW E (wK b E.2.1 (wT b E.2.1 xN xT xA xh xd xl xr xo xw xpp xtp xap xsg yN yT yA yh yd yl yr yo yw ypp ytp yap ysg (nI q2_100) (nI q) (bhC zby z q) false (nI t2_100) (nI z) zby nu2_100) pd qt qr tbu wst asw pN tN aN hd dr pl rm ps wx pp tp ap sg uh ud up ur us ux) G H := hW
            have hR := rd_3 h4n hf_55 hnj hf_100
            exact z_wzret (b := true) cx hr hlk dX3_readStatement_103 hS ⟨(sI (by first | rfl | (simp [hR, hf_55, hf_100]; done))), (by rw [hR]; assumption), (fun _ => hlt), (by rw [show ((rdS (txC zby z) q znu).2.2) = false from (by first | rfl | (simp [hR, nI00, hf_55, hf_100]; done)), show (nI (rdS (txC zby z) q znu).2.1.1) = nI q2_100 from (by first | rfl | (simp [hR, nI00, hf_55, hf_100]; done)), show ((rdS (txC zby z) q znu).2.1.2.1) = nu2_100 from (by first | rfl | (simp [hR, nI00, hf_55, hf_100]; done)), show (nI (rdS (txC zby z) q znu).2.1.2.2) = nI t2_100 from (by first | rfl | (simp [hR, nI00, hf_55, hf_100]; done))]; exact hW)⟩
          · skip
            have hW : WW E (wK b E.2.1 (wT b E.2.1 xN xT xA xh xd xl xr xo xw xpp xtp xap xsg yN yT yA yh yd yl yr yo yw ypp ytp yap ysg (nI q2_100) (nI q) (bhC zby z q) false (nI t2_100) (nI z) zby nu2_100) pd qt qr tbu wst asw pN tN aN hd dr pl rm ps wx pp tp ap sg uh ud up ur us ux) G H := hW
            have hR := rd_3 h4n hf_55 hnj hf_100
            exact z_wzret (b := false) cx hr hlk dX3_readStatement_103 hS ⟨(sI (by first | rfl | (simp [hR, hf_55, hf_100]; done))), (by rw [hR]; assumption), (fun _ => hlt), (by rw [show ((rdS (txC zby z) q znu).2.2) = false from (by first | rfl | (simp [hR, nI00, hf_55, hf_100]; done)), show (nI (rdS (txC zby z) q znu).2.1.1) = nI q2_100 from (by first | rfl | (simp [hR, nI00, hf_55, hf_100]; done)), show ((rdS (txC zby z) q znu).2.1.2.1) = nu2_100 from (by first | rfl | (simp [hR, nI00, hf_55, hf_100]; done)), show (nI (rdS (txC zby z) q znu).2.1.2.2) = nI t2_100 from (by first | rfl | (simp [hR, nI00, hf_55, hf_100]; done))]; exact hW)⟩
        · skip
          have hpj : txC zby z q = 112 ∧ txC zby z (q2_55, nu2_55, t2_55).1 = 106 := ⟨h12, (bh_k (by decide) (by decide)).mp c_4⟩
          have ht3 : t2_55 = 3 := by rw [ht_55, hfm]; rfl
          refine lv_aload_n (pc := 81) hx hb dX3_readStatement_81 rfl (lv_at hl 1 rfl) ?_
          refine lv_iconst (pc := 82) (v := 1) hx hb dX3_readStatement_82 (by decide) ?_
          refine z_putK3z (pc := 83) (b := true) cx hW hS 29 rfl (bF_in b 29) m_fl_X3_56 rfl dX3_readStatement_83 (fun H locs hW hS => ?_)
          have hW : WW E (wK b E.2.1 (wT b E.2.1 xN xT xA xh xd xl xr xo xw xpp xtp xap xsg yN yT yA yh yd yl yr yo yw ypp ytp yap ysg (nI q2_55) (nI q) (bhC zby z q) true (nI t2_55) (nI z) zby nu2_55) pd qt qr tbu wst asw pN tN aN hd dr pl rm ps wx pp tp ap sg uh ud up ur us ux) G H := hW
          refine lv_aload_n (pc := 86) hx hb dX3_readStatement_86 rfl (lv_at hl 1 rfl) ?_
          refine va_ldcS (pc := 87) hx hb cx.own (hCE.2.1 5 (by decide)) dX3_readStatement_87 ?_
          refine k_X3_readForm (pc := 89) (q := q2_55) (z := z) (t := t2_55) (i := 5) cx (hCE.kept hS.2.1) hW hS (fun _ h => h) hz hqz_55 (by decide) (by rw [ht3]; decide) m_ml_X3_69 ⟨Nat.le_of_ble_eq_true rfl, Nat.le_of_ble_eq_true rfl⟩ hl.1 rfl (by simp [Value.category]) dX3_readStatement_89 ⟨Nat.le_refl _, Nat.le_refl _⟩ (fun q2_89 nu2_89 t2_89 H locs hf_89 hqz_89 ht_89 hW hS => ?_) (fun q2_89 nu2_89 t2_89 H locs hf_89 hqz_89 hW hS => ?_)
          · skip
            have hW : WW E (wK b E.2.1 (wT b E.2.1 xN xT xA xh xd xl xr xo xw xpp xtp xap xsg yN yT yA yh yd yl yr yo yw ypp ytp yap ysg (nI q2_89) (nI q) (bhC zby z q) true (nI t2_89) (nI z) zby nu2_89) pd qt qr tbu wst asw pN tN aN hd dr pl rm ps wx pp tp ap sg uh ud up ur us ux) G H := hW
            have ht5b : t2_89 ≤ 5 := by rw [ht_89, ht3]; decide
            refine lv_if_ne (pc := 92) (tgt := 97) hx hb dX3_readStatement_92 (by decide) (fun _ => ?_) (fun c => absurd c (by decide))
            refine lv_aload_n (pc := 97) hx hb dX3_readStatement_97 rfl (lv_at hl 1 rfl) ?_
            refine va_ldcS (pc := 98) hx hb cx.own (hCE.2.1 6 (by decide)) dX3_readStatement_98 ?_
            refine k_X3_readForm (pc := 100) (q := q2_89) (z := z) (t := t2_89) (i := 6) cx (hCE.kept hS.2.1) hW hS (fun _ h => h) hz hqz_89 (by decide) (by show t2_89 + 0 ≤ 5; omega) m_ml_X3_69 ⟨Nat.le_of_ble_eq_true rfl, Nat.le_of_ble_eq_true rfl⟩ hl.1 rfl (by simp [Value.category]) dX3_readStatement_100 ⟨Nat.le_refl _, Nat.le_refl _⟩ (fun q2_100 nu2_100 t2_100 H locs hf_100 hqz_100 ht_100 hW hS => ?_) (fun q2_100 nu2_100 t2_100 H locs hf_100 hqz_100 hW hS => ?_)
            · skip
              have hW : WW E (wK b E.2.1 (wT b E.2.1 xN xT xA xh xd xl xr xo xw xpp xtp xap xsg yN yT yA yh yd yl yr yo yw ypp ytp yap ysg (nI q2_100) (nI q) (bhC zby z q) true (nI t2_100) (nI z) zby nu2_100) pd qt qr tbu wst asw pN tN aN hd dr pl rm ps wx pp tp ap sg uh ud up ur us ux) G H := hW
              have hR := rd_5 h4n hf_55 hpj hf_89 hf_100
              exact z_wzret (b := true) cx hr hlk dX3_readStatement_103 hS ⟨(sI (by first | rfl | (simp [hR, hf_55, hf_89, hf_100]; done))), (by rw [hR]; assumption), (fun _ => hlt), (by rw [show ((rdS (txC zby z) q znu).2.2) = true from (by first | rfl | (simp [hR, nI00, hf_55, hf_89, hf_100]; done)), show (nI (rdS (txC zby z) q znu).2.1.1) = nI q2_100 from (by first | rfl | (simp [hR, nI00, hf_55, hf_89, hf_100]; done)), show ((rdS (txC zby z) q znu).2.1.2.1) = nu2_100 from (by first | rfl | (simp [hR, nI00, hf_55, hf_89, hf_100]; done)), show (nI (rdS (txC zby z) q znu).2.1.2.2) = nI t2_100 from (by first | rfl | (simp [hR, nI00, hf_55, hf_89, hf_100]; done))]; exact hW)⟩
            · skip
              have hW : WW E (wK b E.2.1 (wT b E.2.1 xN xT xA xh xd xl xr xo xw xpp xtp xap xsg yN yT yA yh yd yl yr yo yw ypp ytp yap ysg (nI q2_100) (nI q) (bhC zby z q) true (nI t2_100) (nI z) zby nu2_100) pd qt qr tbu wst asw pN tN aN hd dr pl rm ps wx pp tp ap sg uh ud up ur us ux) G H := hW
              have hR := rd_5 h4n hf_55 hpj hf_89 hf_100
              exact z_wzret (b := false) cx hr hlk dX3_readStatement_103 hS ⟨(sI (by first | rfl | (simp [hR, hf_55, hf_89, hf_100]; done))), (by rw [hR]; assumption), (fun _ => hlt), (by rw [show ((rdS (txC zby z) q znu).2.2) = true from (by first | rfl | (simp [hR, nI00, hf_55, hf_89, hf_100]; done)), show (nI (rdS (txC zby z) q znu).2.1.1) = nI q2_100 from (by first | rfl | (simp [hR, nI00, hf_55, hf_89, hf_100]; done)), show ((rdS (txC zby z) q znu).2.1.2.1) = nu2_100 from (by first | rfl | (simp [hR, nI00, hf_55, hf_89, hf_100]; done)), show (nI (rdS (txC zby z) q znu).2.1.2.2) = nI t2_100 from (by first | rfl | (simp [hR, nI00, hf_55, hf_89, hf_100]; done))]; exact hW)⟩
          · skip
            have hW : WW E (wK b E.2.1 (wT b E.2.1 xN xT xA xh xd xl xr xo xw xpp xtp xap xsg yN yT yA yh yd yl yr yo yw ypp ytp yap ysg (nI q2_89) (nI q) (bhC zby z q) true (nI t2_89) (nI z) zby nu2_89) pd qt qr tbu wst asw pN tN aN hd dr pl rm ps wx pp tp ap sg uh ud up ur us ux) G H := hW
            have hR := rd_4 h4n hf_55 hpj hf_89
            refine lv_if_ne (pc := 92) (tgt := 97) hx hb dX3_readStatement_92 (by decide) (fun c => (c (by decide)).elim) (fun _ => ?_)
            refine lv_iconst (pc := 95) (v := 0) hx hb dX3_readStatement_95 (by decide) ?_
            exact z_wzret (b := false) cx hr hlk dX3_readStatement_96 hS ⟨(sI (by first | rfl | (simp [hR, hf_55, hf_89]; done))), (by rw [hR]; assumption), (fun _ => hlt), (by rw [show ((rdS (txC zby z) q znu).2.2) = true from (by first | rfl | (simp [hR, nI00, hf_55, hf_89]; done)), show (nI (rdS (txC zby z) q znu).2.1.1) = nI q2_89 from (by first | rfl | (simp [hR, nI00, hf_55, hf_89]; done)), show ((rdS (txC zby z) q znu).2.1.2.1) = nu2_89 from (by first | rfl | (simp [hR, nI00, hf_55, hf_89]; done)), show (nI (rdS (txC zby z) q znu).2.1.2.2) = nI t2_89 from (by first | rfl | (simp [hR, nI00, hf_55, hf_89]; done))]; exact hW)⟩
    · skip
      have hW : WW E (wK b E.2.1 (wT b E.2.1 xN xT xA xh xd xl xr xo xw xpp xtp xap xsg yN yT yA yh yd yl yr yo yw ypp ytp yap ysg (nI q2_55) (nI q) (bhC zby z q) false (nI t2_55) (nI z) zby nu2_55) pd qt qr tbu wst asw pN tN aN hd dr pl rm ps wx pp tp ap sg uh ud up ur us ux) G H := hW
      rw [hbt] at hf_55
      have hR := rd_2 h4n hf_55
      refine lv_if_ne (pc := 58) (tgt := 63) hx hb dX3_readStatement_58 (by decide) (fun c => (c (by decide)).elim) (fun _ => ?_)
      refine lv_iconst (pc := 61) (v := 0) hx hb dX3_readStatement_61 (by decide) ?_
      exact z_wzret (b := false) cx hr hlk dX3_readStatement_62 hS ⟨(sI (by first | rfl | (simp [hR, hf_55]; done))), (by rw [hR]; assumption), (fun _ => hlt), (by rw [show ((rdS (txC zby z) q znu).2.2) = false from (by first | rfl | (simp [hR, nI00, hf_55]; done)), show (nI (rdS (txC zby z) q znu).2.1.1) = nI q2_55 from (by first | rfl | (simp [hR, nI00, hf_55]; done)), show ((rdS (txC zby z) q znu).2.1.2.1) = nu2_55 from (by first | rfl | (simp [hR, nI00, hf_55]; done)), show (nI (rdS (txC zby z) q znu).2.1.2.2) = nI t2_55 from (by first | rfl | (simp [hR, nI00, hf_55]; done))]; exact hW)⟩
  · skip
    have hR := rd_1 (nu := znu) (show fmI (txC zby z q) = 4 from (congrArg fmI rfl).trans ((fmI_bh zby z q).symm.trans ((fmI_0 _).mp (of_decide_eq_true c_1))))
    refine lv_iconst (pc := 41) (v := 0) hx hb dX3_readStatement_41 (by decide) ?_
    exact z_wzret (b := false) cx hr hlk dX3_readStatement_42 hS ⟨(sI (by first | rfl | (simp [hR]; done))), (by rw [hR]; assumption), (fun x => absurd ((congrArg (·.1) hR).symm.trans x) Bool.false_ne_true), (by rw [show ((rdS (txC zby z) q znu).2.2) = false from (by first | rfl | (simp [hR, nI00]; done)), show (nI (rdS (txC zby z) q znu).2.1.1) = nI q from (by first | rfl | (simp [hR, nI00]; done)), show ((rdS (txC zby z) q znu).2.1.2.1) = znu from (by first | rfl | (simp [hR, nI00]; done)), show (nI (rdS (txC zby z) q znu).2.1.2.2) = nI 0 from (by first | rfl | (simp [hR, nI00]; done))]; exact hW)⟩
theorem k_X3_readStatement {p : Program} {l : Launch} {e : Env} {R : Room} {s : State} {m : MethodId} {args : Array Value} {below : List Frame} {meth : Method} {c : Code} {H H0 : Heap} {locs : List Loc} {cells slots : Nat} {Q : State → Prop} {cc : ByteArray} {pc index : Nat} {ls : Array Slot} {rest st0 : List Value} {E : zE} {own : String} {nL : Nat} {F : Nat → Prop} {b : Nat → Nat} {pd : Bool} {qt : Nat → Option Nat} {qr : Nat → Option Nat} {tbu : Nat → Int32} {wst : Nat → Int32} {asw : Nat → Int32} {pN : Int32} {tN : Int32} {aN : Int32} {hd : Int32} {dr : Int32} {pl : Int32} {rm : Int32} {ps : Int32} {wx : Nat → Int32} {pp : Nat → Option Nat} {tp : Nat → Option Nat} {ap : Nat → Option Nat} {sg : Nat → Int32} {uh : Int32} {ud : Int32} {up : Int32} {ur : Int32} {us : Int32} {ux : Nat → Int32} {xN : Int32} {xT : Int32} {xA : Int32} {xh : Int32} {xd : Int32} {xl : Int32} {xr : Int32} {xo : Int32} {xw : Nat → Int32} {xpp : Nat → Option Nat} {xtp : Nat → Option Nat} {xap : Nat → Option Nat} {xsg : Nat → Int32} {yN : Int32} {yT : Int32} {yA : Int32} {yh : Int32} {yd : Int32} {yl : Int32} {yr : Int32} {yo : Int32} {yw : Nat → Int32} {ypp : Nat → Option Nat} {ytp : Nat → Option Nat} {yap : Nat → Option Nat} {ysg : Nat → Int32} {zpl : Int32} {zlt : Int32} {zjo : Bool} {zfo : Int32} {zby : Nat → Int32} {znu : Nat → Int32} {G : zG} {q z : Nat} (cx : Cx E p s args m c own cc nL) (hCE : CE E (bF b) s H) (hW : WW E (wK b E.2.1 (wT b E.2.1 xN xT xA xh xd xl xr xo xw xpp xtp xap xsg yN yT yA yh yd yl yr yo yw ypp ytp yap ysg (nI q) zpl zlt zjo zfo (nI z) zby znu) pd qt qr tbu wst asw pN tN aN hd dr pl rm ps wx pp tp ap sg uh ud up ur us ux) G H) (hS : va_S F H0 H locs) (zF : ∀ q, (bF b) q → F q) (hz : z ≤ 100) (hq : q ≤ z) (zl : Cond.methodLink own index yX3_readStatement ∈ AllW) (zR : 5 + 1 ≤ R.frames ∧ 8 + (2 + 11) + 107 ≤ R.locals) (zs : ls.size = nL) (zt : st0 = ([] : List Value).reverse ++ .ref (b 29) :: rest) (z8 : (rest.map fun v => v.category).sum ≤ 8) (zd : decode cc pc = .ok (.invokevirtual index, 3)) (zf : cells ≤ R.cells ∧ slots ≤ R.slots) (kk0 : ∀  (H1 : Heap) (locs1 : List Loc), ((rdS (txC zby z) q znu).2.1.1 ≤ z) → ((rdS (txC zby z) q znu).1 = true → q < z) → WW E (wK b E.2.1 (wT b E.2.1 xN xT xA xh xd xl xr xo xw xpp xtp xap xsg yN yT yA yh yd yl yr yo yw ypp ytp yap ysg (nI (rdS (txC zby z) q znu).2.1.1) (nI q) (bhC zby z q) ((rdS (txC zby z) q znu).2.2) (nI (rdS (txC zby z) q znu).2.1.2.2) (nI z) zby ((rdS (txC zby z) q znu).2.1.2.1)) pd qt qr tbu wst asw pN tN aN hd dr pl rm ps wx pp tp ap sg uh ud up ur us ux) G H1 → va_S F H0 H1 locs1 → W p l e R s m args below meth c H1 locs1 cells slots Q (F0 m (pc + 3) ls (.int (bI ((rdS (txC zby z) q znu).1)) :: rest))) : W p l e R s m args below meth c H locs cells slots Q (F0 m pc ls st0) := by
  refine z_callVwc cx hCE vm_X3_readStatement (c_X3_readStatement l E b pd qt qr tbu wst asw pN tN aN hd dr pl rm ps wx pp tp ap sg uh ud up ur us ux xN xT xA xh xd xl xr xo xw xpp xtp xap xsg yN yT yA yh yd yl yr yo yw ypp ytp yap ysg zpl zlt zjo zfo zby znu G q z hz hq) (z_rec cx.2 (hW.at 29 rfl) rfl) hW hS zF zl ⟨rfl, rfl⟩ zR rfl zs zt z8 zd zf (fun v H1 locs1 hq hS1 _ => ?_)
  rcases hq with ⟨rfl, hq9, hl9, hW1⟩
  · exact kk0  H1 locs1 hq9 hl9 hW1 hS1
