theorem vm_X7_price : zVm yX7_price cX7_price 3 (some FieldType.int) 1 := ⟨m_co_X7_price, m_in_RX7, ⟨m_im_X7_price, m_se_X7_X7_price⟩, by decide +kernel, by decide +kernel, by decide +kernel⟩
set_option maxHeartbeats 1000000 in
set_option maxRecDepth 100000 in
theorem c_X7_price (l : Launch) (E : zE) (b : Nat → Nat) (tl : va_W) (pd : Bool) (qt : Nat → Option Nat) (qr : Nat → Option Nat) (tbu : Nat → Int32) (wst : Nat → Int32) (asw : Nat → Int32) (pN : Int32) (tN : Int32) (aN : Int32) (hd : Int32) (dr : Int32) (pl : Int32) (rm : Int32) (ps : Int32) (wx : Nat → Int32) (pp : Nat → Option Nat) (tp : Nat → Option Nat) (ap : Nat → Option Nat) (sg : Nat → Int32) (uh : Int32) (ud : Int32) (up : Int32) (ur : Int32) (us : Int32) (ux : Nat → Int32) (G : zG) (d : Int32) (kp so sz el pr ts : Nat → Int32) (hSh : ShG E.2.1 G qt qr kp so sz el pr ts) : Met l yX7_price (.code yX7_price cX7_price 3 (some FieldType.int) :: AllW) (rm0' 3 63) (zP E (fun H => WW E (wK b E.2.1 tl pd qt qr tbu wst asw pN tN aN hd dr pl rm ps wx pp tp ap sg uh ud up ur us ux) G H) [.ref (b 0), .int d]) (rQ (.int (priceP kp pr d))) 0 0 nF := by
  refine z_body (own := RX7) (by decide) rfl rfl ?_
  intro p e s m args below meth c ls cx hr hlk hnm hW hl
  have hx := cx.x
  have hb := cx.b
  have hl : lv_has ls 3 [(0, .ref (b 0)), (1, .int d)] := hl
  refine lv_aload_n (pc := 0) hx hb dX7_price_0 rfl (lv_at hl 0 rfl) ?_
  refine lv_iload_n (pc := 1) hx hb dX7_price_1 rfl (lv_at hl 1 rfl) ?_
  refine k_X7_thingRefusal (pc := 2) (d := d) cx hW (by first | assumption | omega) m_ml_X7_374 ⟨Nat.le_of_ble_eq_true rfl, Nat.le_of_ble_eq_true rfl⟩ hl.1 rfl (by simp [Value.category]) dX7_price_2 ⟨Nat.le_refl _, Nat.le_refl _⟩ ?_
  refine lv_istore_n (pc := 5) (lv' := [(2, .int (wrK kp d)), (0, .ref (b 0)), (1, .int d)]) hx hb dX7_price_5 rfl hl (by decide) rfl (fun ls hl => ?_)
  refine lv_iload_n (pc := 6) hx hb dX7_price_6 rfl (lv_at hl 0 rfl) ?_
  refine lv_if_eq (pc := 7) (tgt := 14) hx hb dX7_price_7 (by decide) (fun c_1 => ?_) (fun c_1 => ?_)
  · skip
    obtain ⟨n, hn, rfl, hk, hr1, q1, v0, v1, v2, v3, v4, v5, ht1, hq1, hpr, hts⟩ := th_get hSh c_1
    have hN := iN_nI (n := n) (by omega)
    refine lv_aload_n (pc := 14) hx hb dX7_price_14 rfl (lv_at hl 1 rfl) ?_
    refine z_get (pc := 15) cx (hW.at 0 rfl) (C := RX7) (T := TX7) (N := 11) rfl i_X7 6 rfl m_fl_X7_38 rfl dX7_price_15 ?_
    refine lv_iload_n (pc := 18) hx hb dX7_price_18 rfl (lv_at hl 2 rfl) ?_
    refine z_aald (pc := 19) (f := qt) (j := n) cx 2 rfl (hW.at 1 rfl) rfl (by omega) (by decide) dX7_price_19 ?_
    refine z_rfS ht1 ?_
    refine k_X6_cost (pc := 20)  cx (hW.dyn hq1)  m_ml_X7_152 ⟨Nat.le_of_ble_eq_true rfl, Nat.le_of_ble_eq_true rfl⟩ hl.1 rfl (by simp [Value.category]) dX7_price_20 ⟨Nat.le_refl _, Nat.le_refl _⟩ ?_
    refine z_tope (y := pr n) hpr.symm ?_
    exact z_iret cx hr hlk dX7_price_23 (by first | rfl | (simp [priceP, c_1, hN, hk]; done))
  · skip
    refine lv_iload_n (pc := 10) hx hb dX7_price_10 rfl (lv_at hl 0 rfl) ?_
    refine lv_goto (pc := 11) (tgt := 23) hx hb dX7_price_11 (by decide) ?_
    exact z_iret cx hr hlk dX7_price_23 (by first | rfl | (simp [priceP, c_1]; done))
theorem k_X7_price {p : Program} {l : Launch} {e : Env} {R : Room} {s : State} {m : MethodId} {args : Array Value} {below : List Frame} {meth : Method} {c : Code} {H : Heap} {locs : List Loc} {cells slots : Nat} {Q : State → Prop} {cc : ByteArray} {pc index : Nat} {ls : Array Slot} {rest st0 : List Value} {E : zE} {own : String} {nL : Nat} {b : Nat → Nat} {tl : va_W} {pd : Bool} {qt : Nat → Option Nat} {qr : Nat → Option Nat} {tbu : Nat → Int32} {wst : Nat → Int32} {asw : Nat → Int32} {pN : Int32} {tN : Int32} {aN : Int32} {hd : Int32} {dr : Int32} {pl : Int32} {rm : Int32} {ps : Int32} {wx : Nat → Int32} {pp : Nat → Option Nat} {tp : Nat → Option Nat} {ap : Nat → Option Nat} {sg : Nat → Int32} {uh : Int32} {ud : Int32} {up : Int32} {ur : Int32} {us : Int32} {ux : Nat → Int32} {G : zG} {d : Int32} {kp so sz el pr ts : Nat → Int32} (cx : Cx E p s args m c own cc nL) (hW : WW E (wK b E.2.1 tl pd qt qr tbu wst asw pN tN aN hd dr pl rm ps wx pp tp ap sg uh ud up ur us ux) G H) (hSh : ShG E.2.1 G qt qr kp so sz el pr ts) (zl : Cond.methodLink own index yX7_price ∈ AllW) (zR : 3 + 1 ≤ R.frames ∧ 8 + (3 + 11) + 63 ≤ R.locals) (zs : ls.size = nL) (zt : st0 = ([.int d] : List Value).reverse ++ .ref (b 0) :: rest) (z8 : (rest.map fun v => v.category).sum ≤ 8) (zd : decode cc pc = .ok (.invokevirtual index, 3)) (zf : cells ≤ R.cells ∧ slots ≤ R.slots) (kk : W p l e R s m args below meth c H locs cells slots Q (F0 m (pc + 3) ls (.int (priceP kp pr d) :: rest))) : W p l e R s m args below meth c H locs cells slots Q (F0 m pc ls st0) :=
  z_callV cx vm_X7_price (c_X7_price l E b tl pd qt qr tbu wst asw pN tN aN hd dr pl rm ps wx pp tp ap sg uh ud up ur us ux G d kp so sz el pr ts hSh) (z_rec cx.2 (hW.at 0 rfl) rfl) hW zl ⟨rfl, rfl⟩ zR rfl zs zt z8 zd zf kk
theorem vm_X7_pairRefusal : zVm yX7_pairRefusal cX7_pairRefusal 5 (some FieldType.int) 2 := ⟨m_co_X7_pairRefusal, m_in_RX7, ⟨m_im_X7_pairRefusal, m_se_X7_X7_pairRefusal⟩, by decide +kernel, by decide +kernel, by decide +kernel⟩
set_option maxHeartbeats 1000000 in
set_option maxRecDepth 100000 in
theorem c_X7_pairRefusal (l : Launch) (E : zE) (b : Nat → Nat) (tl : va_W) (pd : Bool) (qt : Nat → Option Nat) (qr : Nat → Option Nat) (tbu : Nat → Int32) (wst : Nat → Int32) (asw : Nat → Int32) (pN : Int32) (tN : Int32) (aN : Int32) (hd : Int32) (dr : Int32) (pl : Int32) (rm : Int32) (ps : Int32) (wx : Nat → Int32) (pp : Nat → Option Nat) (tp : Nat → Option Nat) (ap : Nat → Option Nat) (sg : Nat → Int32) (uh : Int32) (ud : Int32) (up : Int32) (ur : Int32) (us : Int32) (ux : Nat → Int32) (G : zG) (d f : Int32) (kp so sz el pr ts : Nat → Int32) (hSh : ShG E.2.1 G qt qr kp so sz el pr ts) : Met l yX7_pairRefusal (.code yX7_pairRefusal cX7_pairRefusal 5 (some FieldType.int) :: AllW) (rm0' 3 63) (zP E (fun H => WW E (wK b E.2.1 tl pd qt qr tbu wst asw pN tN aN hd dr pl rm ps wx pp tp ap sg uh ud up ur us ux) G H) [.ref (b 0), .int d, .int f]) (rQ (.int (prR kp so d f))) 0 0 nF := by
  refine z_body (own := RX7) (by decide) rfl rfl ?_
  intro p e s m args below meth c ls cx hr hlk hnm hW hl
  have hx := cx.x
  have hb := cx.b
  have hl : lv_has ls 5 [(0, .ref (b 0)), (1, .int d), (2, .int f)] := hl
  refine lv_aload_n (pc := 0) hx hb dX7_pairRefusal_0 rfl (lv_at hl 0 rfl) ?_
  refine lv_iload_n (pc := 1) hx hb dX7_pairRefusal_1 rfl (lv_at hl 1 rfl) ?_
  refine k_X7_rowRefusal (pc := 2) (d := d) cx hW (by first | assumption | omega) m_ml_X7_58 ⟨Nat.le_of_ble_eq_true rfl, Nat.le_of_ble_eq_true rfl⟩ hl.1 rfl (by simp [Value.category]) dX7_pairRefusal_2 ⟨Nat.le_refl _, Nat.le_refl _⟩ ?_
  refine lv_istore_n (pc := 5) (lv' := [(3, .int (wrR kp so d (-1))), (0, .ref (b 0)), (1, .int d), (2, .int f)]) hx hb dX7_pairRefusal_5 rfl hl (by decide) rfl (fun ls hl => ?_)
  refine lv_aload_n (pc := 6) hx hb dX7_pairRefusal_6 rfl (lv_at hl 1 rfl) ?_
  refine lv_iload_n (pc := 7) hx hb dX7_pairRefusal_7 rfl (lv_at hl 3 rfl) ?_
  refine k_X7_rowRefusal (pc := 8) (d := f) cx hW (by first | assumption | omega) m_ml_X7_58 ⟨Nat.le_of_ble_eq_true rfl, Nat.le_of_ble_eq_true rfl⟩ hl.1 rfl (by simp [Value.category]) dX7_pairRefusal_8 ⟨Nat.le_refl _, Nat.le_refl _⟩ ?_
  refine lv_istore (pc := 11) (lv' := [(4, .int (wrR kp so f (-1))), (3, .int (wrR kp so d (-1))), (0, .ref (b 0)), (1, .int d), (2, .int f)]) hx hb dX7_pairRefusal_11 hl (by decide) rfl (fun ls hl => ?_)
  refine lv_iload_n (pc := 13) hx hb dX7_pairRefusal_13 rfl (lv_at hl 1 rfl) ?_
  refine lv_iconst (pc := 14) (v := (-1)) hx hb dX7_pairRefusal_14 (by decide) ?_
  refine lv_icmp_eq (pc := 15) (tgt := 24) hx hb dX7_pairRefusal_15 (by decide) (fun c_1 => ?_) (fun c_1 => ?_)
  · skip
    have hd7 := wrR_m1.mp c_1
    refine lv_iconst (pc := 24) (v := (-1)) hx hb dX7_pairRefusal_24 (by decide) ?_
    exact z_iret cx hr hlk dX7_pairRefusal_25 (by first | rfl | (simp [prR, hd7]; done))
  · skip
    have hd7 : inL d 0 7 = true := by simpa using (not_congr wrR_m1).mp c_1
    refine lv_iload (pc := 18) hx hb dX7_pairRefusal_18 (lv_at hl 0 rfl) ?_
    refine lv_iconst (pc := 20) (v := (-1)) hx hb dX7_pairRefusal_20 (by decide) ?_
    refine lv_icmp_ne (pc := 21) (tgt := 26) hx hb dX7_pairRefusal_21 (by decide) (fun c_2 => ?_) (fun c_2 => ?_)
    · skip
      have hf7 : inL f 0 7 = true := by simpa using (not_congr wrR_m1).mp c_2
      refine lv_iload_n (pc := 26) hx hb dX7_pairRefusal_26 rfl (lv_at hl 1 rfl) ?_
      refine lv_bipush (pc := 27) (v := (-11)) hx hb dX7_pairRefusal_27 (by decide) ?_
      refine lv_icmp_eq (pc := 29) (tgt := 39) hx hb dX7_pairRefusal_29 (by decide) (fun c_3 => ?_) (fun c_3 => ?_)
      · skip
        have hd11 := (wrR_11.mp c_3).2
        refine lv_bipush (pc := 39) (v := (-11)) hx hb dX7_pairRefusal_39 (by decide) ?_
        exact z_iret cx hr hlk dX7_pairRefusal_41 (by first | rfl | (simp [prR, hd7, hf7, hd11]; done))
      · skip
        have hd11 : ¬ kp (iN d) = 0 := fun q => c_3 (wrR_11.mpr ⟨hd7, q⟩)
        refine lv_iload (pc := 32) hx hb dX7_pairRefusal_32 (lv_at hl 0 rfl) ?_
        refine lv_bipush (pc := 34) (v := (-11)) hx hb dX7_pairRefusal_34 (by decide) ?_
        refine lv_icmp_ne (pc := 36) (tgt := 42) hx hb dX7_pairRefusal_36 (by decide) (fun c_4 => ?_) (fun c_4 => ?_)
        · skip
          have hf11 : ¬ kp (iN f) = 0 := fun q => c_4 (wrR_11.mpr ⟨hf7, q⟩)
          refine lv_iload_n (pc := 42) hx hb dX7_pairRefusal_42 rfl (lv_at hl 1 rfl) ?_
          refine lv_if_ne (pc := 43) (tgt := 51) hx hb dX7_pairRefusal_43 (by decide) (fun c_5 => ?_) (fun c_5 => ?_)
          · skip
            have hd2 : ¬ kp (iN d) = 2 := fun q => c_5 (wrR_z.mpr ⟨hd7, q⟩)
            refine lv_bipush (pc := 51) (v := (-12)) hx hb dX7_pairRefusal_51 (by decide) ?_
            exact z_iret cx hr hlk dX7_pairRefusal_53 (by first | rfl | (simp [prR, hd7, hf7, hd11, hf11, hd2]; done))
          · skip
            have hd0 := c_5
            have hd2 := (wrR_z.mp hd0).2
            refine lv_iload (pc := 46) hx hb dX7_pairRefusal_46 (lv_at hl 0 rfl) ?_
            refine lv_if_eq (pc := 48) (tgt := 54) hx hb dX7_pairRefusal_48 (by decide) (fun c_6 => ?_) (fun c_6 => ?_)
            · skip
              have hf0 := c_6
              obtain ⟨n, hn, rfl, hk1, ht1, q1, w1, x1, hr1, hq1, hw1, hx1⟩ := row_get hSh hd0
              have hN1 := iN_nI (n := n) (by omega)
              have hz1 := sz_nat hSh.1 hn
              have hzl1 := hz1.2
              obtain ⟨k, hk, rfl, hk2, ht2, q2, w2, x2, hr2, hq2, hw2, hx2⟩ := row_get hSh hf0
              have hN2 := iN_nI (n := k) (by omega)
              have hz2 := sz_nat hSh.1 hk
              have hzl2 := hz2.2
              refine lv_aload_n (pc := 54) hx hb dX7_pairRefusal_54 rfl (lv_at hl 2 rfl) ?_
              refine z_get (pc := 55) cx (hW.at 0 rfl) (C := RX7) (T := TX7) (N := 11) rfl i_X7 7 rfl m_fl_X7_44 rfl dX7_pairRefusal_55 ?_
              refine lv_iload_n (pc := 58) hx hb dX7_pairRefusal_58 rfl (lv_at hl 3 rfl) ?_
              refine z_aald (pc := 59) (f := qr) (j := n) cx 4 rfl (hW.at 2 rfl) rfl (by omega) (by decide) dX7_pairRefusal_59 ?_
              refine z_rfS hr1 ?_
              refine z_get (pc := 60) cx (hW.dyn hq1) (C := RX4) (T := TX4) (N := 2) rfl i_X4 0 rfl m_fl_X7_62 rfl dX7_pairRefusal_60 ?_
              refine lv_aload_n (pc := 63) hx hb dX7_pairRefusal_63 rfl (lv_at hl 2 rfl) ?_
              refine z_get (pc := 64) cx (hW.at 0 rfl) (C := RX7) (T := TX7) (N := 11) rfl i_X7 7 rfl m_fl_X7_44 rfl dX7_pairRefusal_64 ?_
              refine lv_iload_n (pc := 67) hx hb dX7_pairRefusal_67 rfl (lv_at hl 4 rfl) ?_
              refine z_aald (pc := 68) (f := qr) (j := k) cx 4 rfl (hW.at 2 rfl) rfl (by omega) (by decide) dX7_pairRefusal_68 ?_
              refine z_rfS hr2 ?_
              refine z_get (pc := 69) cx (hW.dyn hq2) (C := RX4) (T := TX4) (N := 2) rfl i_X4 0 rfl m_fl_X7_62 rfl dX7_pairRefusal_69 ?_
              refine lv_icmp_ne (pc := 72) (tgt := 79) hx hb dX7_pairRefusal_72 (by decide) (fun c_7 => ?_) (fun c_7 => ?_)
              · skip
                refine lv_bipush (pc := 79) (v := (-12)) hx hb dX7_pairRefusal_79 (by decide) ?_
                exact z_iret cx hr hlk dX7_pairRefusal_81 (by first | rfl | (simp [prR, hd7, hf7, hd11, hf11, hd2, hN1, hk1, hN2, hk2, c_7]; done))
              · skip
                refine lv_iconst (pc := 75) (v := 0) hx hb dX7_pairRefusal_75 (by decide) ?_
                refine lv_goto (pc := 76) (tgt := 81) hx hb dX7_pairRefusal_76 (by decide) ?_
                exact z_iret cx hr hlk dX7_pairRefusal_81 (by first | rfl | (simp [prR, hd7, hf7, hd11, hf11, hd2, hN1, hk1, hN2, hk2, c_7]; done))
            · skip
              have hf2 : ¬ kp (iN f) = 2 := fun q => c_6 (wrR_z.mpr ⟨hf7, q⟩)
              refine lv_bipush (pc := 51) (v := (-12)) hx hb dX7_pairRefusal_51 (by decide) ?_
              exact z_iret cx hr hlk dX7_pairRefusal_53 (by first | rfl | (simp [prR, hd7, hf7, hd11, hf11, hd2, hf2]; done))
        · skip
          have hf11 := (wrR_11.mp c_4).2
          refine lv_bipush (pc := 39) (v := (-11)) hx hb dX7_pairRefusal_39 (by decide) ?_
          exact z_iret cx hr hlk dX7_pairRefusal_41 (by first | rfl | (simp [prR, hd7, hf7, hd11, hf11]; done))
    · skip
      have hf7 := wrR_m1.mp c_2
      refine lv_iconst (pc := 24) (v := (-1)) hx hb dX7_pairRefusal_24 (by decide) ?_
      exact z_iret cx hr hlk dX7_pairRefusal_25 (by first | rfl | (simp [prR, hd7, hf7]; done))
theorem k_X7_pairRefusal {p : Program} {l : Launch} {e : Env} {R : Room} {s : State} {m : MethodId} {args : Array Value} {below : List Frame} {meth : Method} {c : Code} {H : Heap} {locs : List Loc} {cells slots : Nat} {Q : State → Prop} {cc : ByteArray} {pc index : Nat} {ls : Array Slot} {rest st0 : List Value} {E : zE} {own : String} {nL : Nat} {b : Nat → Nat} {tl : va_W} {pd : Bool} {qt : Nat → Option Nat} {qr : Nat → Option Nat} {tbu : Nat → Int32} {wst : Nat → Int32} {asw : Nat → Int32} {pN : Int32} {tN : Int32} {aN : Int32} {hd : Int32} {dr : Int32} {pl : Int32} {rm : Int32} {ps : Int32} {wx : Nat → Int32} {pp : Nat → Option Nat} {tp : Nat → Option Nat} {ap : Nat → Option Nat} {sg : Nat → Int32} {uh : Int32} {ud : Int32} {up : Int32} {ur : Int32} {us : Int32} {ux : Nat → Int32} {G : zG} {d f : Int32} {kp so sz el pr ts : Nat → Int32} (cx : Cx E p s args m c own cc nL) (hW : WW E (wK b E.2.1 tl pd qt qr tbu wst asw pN tN aN hd dr pl rm ps wx pp tp ap sg uh ud up ur us ux) G H) (hSh : ShG E.2.1 G qt qr kp so sz el pr ts) (zl : Cond.methodLink own index yX7_pairRefusal ∈ AllW) (zR : 3 + 1 ≤ R.frames ∧ 8 + (5 + 11) + 63 ≤ R.locals) (zs : ls.size = nL) (zt : st0 = ([.int d, .int f] : List Value).reverse ++ .ref (b 0) :: rest) (z8 : (rest.map fun v => v.category).sum ≤ 8) (zd : decode cc pc = .ok (.invokevirtual index, 3)) (zf : cells ≤ R.cells ∧ slots ≤ R.slots) (kk : W p l e R s m args below meth c H locs cells slots Q (F0 m (pc + 3) ls (.int (prR kp so d f) :: rest))) : W p l e R s m args below meth c H locs cells slots Q (F0 m pc ls st0) :=
  z_callV cx vm_X7_pairRefusal (c_X7_pairRefusal l E b tl pd qt qr tbu wst asw pN tN aN hd dr pl rm ps wx pp tp ap sg uh ud up ur us ux G d f kp so sz el pr ts hSh) (z_rec cx.2 (hW.at 0 rfl) rfl) hW zl ⟨rfl, rfl⟩ zR rfl zs zt z8 zd zf kk
theorem vm_X7_tonesRefusal : zVm yX7_tonesRefusal cX7_tonesRefusal 7 (some FieldType.int) 3 := ⟨m_co_X7_tonesRefusal, m_in_RX7, ⟨m_im_X7_tonesRefusal, m_se_X7_X7_tonesRefusal⟩, by decide +kernel, by decide +kernel, by decide +kernel⟩
set_option maxHeartbeats 1000000 in
set_option maxRecDepth 100000 in
theorem c_X7_tonesRefusal (l : Launch) (E : zE) (b : Nat → Nat) (tl : va_W) (pd : Bool) (qt : Nat → Option Nat) (qr : Nat → Option Nat) (tbu : Nat → Int32) (wst : Nat → Int32) (asw : Nat → Int32) (pN : Int32) (tN : Int32) (aN : Int32) (hd : Int32) (dr : Int32) (pl : Int32) (rm : Int32) (ps : Int32) (wx : Nat → Int32) (pp : Nat → Option Nat) (tp : Nat → Option Nat) (ap : Nat → Option Nat) (sg : Nat → Int32) (uh : Int32) (ud : Int32) (up : Int32) (ur : Int32) (us : Int32) (ux : Nat → Int32) (G : zG) (d : Int32) (ob : Bool) (mo : Nat) (kp so sz el pr ts : Nat → Int32) (hSh : ShG E.2.1 G qt qr kp so sz el pr ts) (hmo : mo ≤ 100) : Met l yX7_tonesRefusal (.code yX7_tonesRefusal cX7_tonesRefusal 7 (some FieldType.int) :: AllW) (rm0' 3 63) (zP E (fun H => WW E (wK b E.2.1 tl pd qt qr tbu wst asw pN tN aN hd dr pl rm ps wx pp tp ap sg uh ud up ur us ux) G H) [.ref (b 0), .int d, .int (bI ob), .int (nI mo)]) (rQ (.int (wtC kp so sz el ob d (nI mo)))) 0 0 nF := by
  refine z_body (own := RX7) (by decide) rfl rfl ?_
  intro p e s m args below meth c ls cx hr hlk hnm hW hl
  have hx := cx.x
  have hb := cx.b
  have hl : lv_has ls 7 [(0, .ref (b 0)), (1, .int d), (2, .int (bI ob)), (3, .int (nI mo))] := hl
  refine lv_iload_n (pc := 0) hx hb dX7_tonesRefusal_0 rfl (lv_at hl 2 rfl) ?_
  refine z_ifne (pc := 1) (tgt := 6) hx hb dX7_tonesRefusal_1 (by decide) (fun c_1 => ?_) (fun c_1 => ?_)
  · skip
    refine lv_aload_n (pc := 6) hx hb dX7_tonesRefusal_6 rfl (lv_at hl 0 rfl) ?_
    refine lv_iload_n (pc := 7) hx hb dX7_tonesRefusal_7 rfl (lv_at hl 1 rfl) ?_
    refine k_X7_rowRefusal (pc := 8) (d := d) cx hW (by first | assumption | omega) m_ml_X7_58 ⟨Nat.le_of_ble_eq_true rfl, Nat.le_of_ble_eq_true rfl⟩ hl.1 rfl (by simp [Value.category]) dX7_tonesRefusal_8 ⟨Nat.le_refl _, Nat.le_refl _⟩ ?_
    refine lv_istore (pc := 11) (lv' := [(4, .int (wrR kp so d (-1))), (0, .ref (b 0)), (1, .int d), (2, .int (bI ob)), (3, .int (nI mo))]) hx hb dX7_tonesRefusal_11 hl (by decide) rfl (fun ls hl => ?_)
    refine lv_iload (pc := 13) hx hb dX7_tonesRefusal_13 (lv_at hl 0 rfl) ?_
    refine lv_if_eq (pc := 15) (tgt := 21) hx hb dX7_tonesRefusal_15 (by decide) (fun c_2 => ?_) (fun c_2 => ?_)
    · skip
      obtain ⟨n, hn, rfl, hk1, ht1, q1, w1, x1, hr1, hq1, hw1, hx1⟩ := row_get hSh c_2
      have hN1 := iN_nI (n := n) (by omega)
      have hz1 := sz_nat hSh.1 hn
      have hzl1 := hz1.2
      refine lv_aload_n (pc := 21) hx hb dX7_tonesRefusal_21 rfl (lv_at hl 1 rfl) ?_
      refine z_get (pc := 22) cx (hW.at 0 rfl) (C := RX7) (T := TX7) (N := 11) rfl i_X7 7 rfl m_fl_X7_44 rfl dX7_tonesRefusal_22 ?_
      refine lv_iload_n (pc := 25) hx hb dX7_tonesRefusal_25 rfl (lv_at hl 2 rfl) ?_
      refine z_aald (pc := 26) (f := qr) (j := n) cx 4 rfl (hW.at 2 rfl) rfl (by omega) (by decide) dX7_tonesRefusal_26 ?_
      refine z_rfS hr1 ?_
      refine lv_astore (pc := 27) (lv' := [(5, .ref q1), (4, .int (wrR kp so (nI n) (-1))), (0, .ref (b 0)), (1, .int (nI n)), (2, .int (bI ob)), (3, .int (nI mo))]) hx hb dX7_tonesRefusal_27 hl (by decide) rfl (fun ls hl => ?_)
      refine lv_aload (pc := 29) hx hb dX7_tonesRefusal_29 (lv_at hl 0 rfl) ?_
      refine k_X4_size (pc := 31)  cx ⟨hW.dyn hq1, hW.dyn hw1⟩  m_ml_X7_253 ⟨Nat.le_of_ble_eq_true rfl, Nat.le_of_ble_eq_true rfl⟩ hl.1 rfl (by simp [Value.category]) dX7_tonesRefusal_31 ⟨Nat.le_refl _, Nat.le_refl _⟩ ?_
      refine z_tope (y := sz n) hz1.1.symm ?_
      refine lv_iload_n (pc := 34) hx hb dX7_tonesRefusal_34 rfl (lv_at hl 5 rfl) ?_
      refine lv_icmp_le (pc := 35) (tgt := 41) hx hb dX7_tonesRefusal_35 (by decide) (fun c_3 => ?_) (fun c_3 => ?_)
      · skip
        refine lv_iconst (pc := 41) (v := 0) hx hb dX7_tonesRefusal_41 (by decide) ?_
        refine lv_istore (pc := 42) (lv' := [(6, .int 0), (5, .ref q1), (4, .int (wrR kp so (nI n) (-1))), (0, .ref (b 0)), (1, .int (nI n)), (2, .int (bI ob)), (3, .int (nI mo))]) hx hb dX7_tonesRefusal_42 hl (by decide) rfl (fun ls hl => ?_)
        have loop_44 : ∀ (k_44 : Nat) (i : Nat) (x6 : Int32), (iN (sz n) - i) < k_44 → (i ≤ iN (sz n)) → (allN (fun i => inL (el (100 * n + i)) 1 1200) (iN (sz n)) 0 = allN (fun i => inL (el (100 * n + i)) 1 1200) (iN (sz n) - i) i) → x6 = nI i → ∀ (ls : Array Slot), lv_has ls 7 [(6, .int x6), (5, .ref q1), (4, .int (wrR kp so (nI n) (-1))), (0, .ref (b 0)), (1, .int (nI n)), (2, .int (bI ob)), (3, .int (nI mo))] → W p l e (rm0' (3) (63)) s m args below meth c s.heap [] 0 0 (MQ below (rQ (.int (wtC kp so sz el ob (nI n) (nI mo)))) args s 0 0 nF) (F0 m 44 ls []) := by
          intro k_44
          induction k_44 with
          | zero =>
            intro i x6 hm
            exact absurd hm (Nat.not_lt_zero _)
          | succ k_44 ih_44 =>
            intro i x6 hm_44 hi he e_x6  ls hl
            subst e_x6
            refine lv_iload (pc := 44) hx hb dX7_tonesRefusal_44 (lv_at hl 0 rfl) ?_
            refine lv_aload (pc := 46) hx hb dX7_tonesRefusal_46 (lv_at hl 1 rfl) ?_
            refine k_X4_size (pc := 48)  cx ⟨hW.dyn hq1, hW.dyn hw1⟩  m_ml_X7_253 ⟨Nat.le_of_ble_eq_true rfl, Nat.le_of_ble_eq_true rfl⟩ hl.1 rfl (by simp [Value.category]) dX7_tonesRefusal_48 ⟨Nat.le_refl _, Nat.le_refl _⟩ ?_
            refine lv_icmp_ge (pc := 51) (tgt := 76) hx hb dX7_tonesRefusal_51 (by decide) (fun c_4 => ?_) (fun c_4 => ?_)
            · skip
              obtain rfl : i = iN (sz n) := by have := ge_nat (a := i) (b := iN (sz n)) rfl rfl (by omega) (by omega) c_4; omega
              refine lv_iconst (pc := 76) (v := 0) hx hb dX7_tonesRefusal_76 (by decide) ?_
              exact z_iret cx hr hlk dX7_tonesRefusal_77 (by simp only [wtC, wtT, c_1, c_2, hN1, hk1, c_3, i_nlt.mpr c_3, if_true, he]; rw [Nat.sub_self]; rfl)
            · skip
              have hlt_i := lt_nat (a := i) (b := iN (sz n)) rfl rfl (by omega) (by omega) c_4
              refine lv_aload (pc := 54) hx hb dX7_tonesRefusal_54 (lv_at hl 1 rfl) ?_
              refine lv_iload (pc := 56) hx hb dX7_tonesRefusal_56 (lv_at hl 0 rfl) ?_
              refine k_X4_valueAt (pc := 58) (n := i) cx ⟨hW.dyn hq1, hW.dyn hw1⟩ hzl1 hlt_i m_ml_X7_256 ⟨Nat.le_of_ble_eq_true rfl, Nat.le_of_ble_eq_true rfl⟩ hl.1 rfl (by simp [Value.category]) dX7_tonesRefusal_58 ⟨Nat.le_refl _, Nat.le_refl _⟩ ?_
              refine z_tope (y := el (100 * n + i)) (hx1 i hlt_i) ?_
              refine k_X7_isTone (pc := 61) (x := el (100 * n + i)) cx  m_ml_X7_200 ⟨Nat.le_of_ble_eq_true rfl, Nat.le_of_ble_eq_true rfl⟩ hl.1 rfl (by simp [Value.category]) dX7_tonesRefusal_61 ⟨Nat.le_refl _, Nat.le_refl _⟩ ?_
              refine z_ifne (pc := 64) (tgt := 70) hx hb dX7_tonesRefusal_64 (by decide) (fun c_5 => ?_) (fun c_5 => ?_)
              · skip
                refine lv_iinc (pc := 70) (v := nI (i + 1)) (lv' := [(6, .int (nI (i + 1))), (5, .ref q1), (4, .int (wrR kp so (nI n) (-1))), (0, .ref (b 0)), (1, .int (nI n)), (2, .int (bI ob)), (3, .int (nI mo))]) hx hb dX7_tonesRefusal_70 hl (k := 0) rfl (nI_1 _) (by decide) rfl (fun ls hl => ?_)
                refine lv_goto (pc := 73) (tgt := 44) hx hb dX7_tonesRefusal_73 (by decide) ?_
                exact ih_44 (i + 1) (nI (i + 1)) (by omega) (by omega) (by rw [he, allN_go (by assumption) (by omega)]; rfl) (by first | rfl | (simp [wtC, wtT, c_1, c_2, hN1, hk1, c_3, c_5, i_nlt.mpr c_3]; done)) ls (lv_sub hl [0, 1, 2, 3, 4, 5, 6] rfl)
              · skip
                refine lv_bipush (pc := 67) (v := (-13)) hx hb dX7_tonesRefusal_67 (by decide) ?_
                exact z_iret cx hr hlk dX7_tonesRefusal_69 (by simp only [wtC, wtT, c_1, c_2, hN1, hk1, c_3, c_5, i_nlt.mpr c_3, if_true, he]; rw [allN_no (by assumption) (by omega)]; rfl)
        exact loop_44 ((iN (sz n) - 0) + 1) 0 0 (Nat.lt_succ_self _) (by omega) rfl (by first | rfl | (simp [wtC, wtT, c_1, c_2, hN1, hk1, c_3, i_nlt.mpr c_3]; done)) ls (lv_sub hl [0, 1, 2, 3, 4, 5, 6] rfl)
      · skip
        refine lv_bipush (pc := 38) (v := (-13)) hx hb dX7_tonesRefusal_38 (by decide) ?_
        exact z_iret cx hr hlk dX7_tonesRefusal_40 (by first | rfl | (simp [wtC, wtT, c_1, c_2, hN1, hk1, c_3, i_nle.mp c_3]; done))
    · skip
      refine lv_iload (pc := 18) hx hb dX7_tonesRefusal_18 (lv_at hl 0 rfl) ?_
      exact z_iret cx hr hlk dX7_tonesRefusal_20 (by first | rfl | (simp [wtC, wtT, c_1, c_2]; done))
  · skip
    refine lv_iconst (pc := 4) (v := (-1)) hx hb dX7_tonesRefusal_4 (by decide) ?_
    exact z_iret cx hr hlk dX7_tonesRefusal_5 (by first | rfl | (simp [wtC, wtT, c_1]; done))
theorem k_X7_tonesRefusal {p : Program} {l : Launch} {e : Env} {R : Room} {s : State} {m : MethodId} {args : Array Value} {below : List Frame} {meth : Method} {c : Code} {H : Heap} {locs : List Loc} {cells slots : Nat} {Q : State → Prop} {cc : ByteArray} {pc index : Nat} {ls : Array Slot} {rest st0 : List Value} {E : zE} {own : String} {nL : Nat} {b : Nat → Nat} {tl : va_W} {pd : Bool} {qt : Nat → Option Nat} {qr : Nat → Option Nat} {tbu : Nat → Int32} {wst : Nat → Int32} {asw : Nat → Int32} {pN : Int32} {tN : Int32} {aN : Int32} {hd : Int32} {dr : Int32} {pl : Int32} {rm : Int32} {ps : Int32} {wx : Nat → Int32} {pp : Nat → Option Nat} {tp : Nat → Option Nat} {ap : Nat → Option Nat} {sg : Nat → Int32} {uh : Int32} {ud : Int32} {up : Int32} {ur : Int32} {us : Int32} {ux : Nat → Int32} {G : zG} {d : Int32} {ob : Bool} {mo : Nat} {kp so sz el pr ts : Nat → Int32} (cx : Cx E p s args m c own cc nL) (hW : WW E (wK b E.2.1 tl pd qt qr tbu wst asw pN tN aN hd dr pl rm ps wx pp tp ap sg uh ud up ur us ux) G H) (hSh : ShG E.2.1 G qt qr kp so sz el pr ts) (hmo : mo ≤ 100) (zl : Cond.methodLink own index yX7_tonesRefusal ∈ AllW) (zR : 3 + 1 ≤ R.frames ∧ 8 + (7 + 11) + 63 ≤ R.locals) (zs : ls.size = nL) (zt : st0 = ([.int d, .int (bI ob), .int (nI mo)] : List Value).reverse ++ .ref (b 0) :: rest) (z8 : (rest.map fun v => v.category).sum ≤ 8) (zd : decode cc pc = .ok (.invokevirtual index, 3)) (zf : cells ≤ R.cells ∧ slots ≤ R.slots) (kk : W p l e R s m args below meth c H locs cells slots Q (F0 m (pc + 3) ls (.int (wtC kp so sz el ob d (nI mo)) :: rest))) : W p l e R s m args below meth c H locs cells slots Q (F0 m pc ls st0) :=
  z_callV cx vm_X7_tonesRefusal (c_X7_tonesRefusal l E b tl pd qt qr tbu wst asw pN tN aN hd dr pl rm ps wx pp tp ap sg uh ud up ur us ux G d ob mo kp so sz el pr ts hSh hmo) (z_rec cx.2 (hW.at 0 rfl) rfl) hW zl ⟨rfl, rfl⟩ zR rfl zs zt z8 zd zf kk
theorem vm_X7_loudest : zVm yX7_loudest cX7_loudest 7 (some FieldType.int) 2 := ⟨m_co_X7_loudest, m_in_RX7, ⟨m_im_X7_loudest, m_se_X7_X7_loudest⟩, by decide +kernel, by decide +kernel, by decide +kernel⟩
set_option maxHeartbeats 1000000 in
set_option maxRecDepth 100000 in
theorem c_X7_loudest (l : Launch) (E : zE) (b : Nat → Nat) (tl : va_W) (pd : Bool) (qt : Nat → Option Nat) (qr : Nat → Option Nat) (tbu : Nat → Int32) (wst : Nat → Int32) (asw : Nat → Int32) (pN : Int32) (tN : Int32) (aN : Int32) (wx : Nat → Int32) (pp : Nat → Option Nat) (tp : Nat → Option Nat) (ap : Nat → Option Nat) (sg : Nat → Int32) (uh : Int32) (ud : Int32) (up : Int32) (ur : Int32) (us : Int32) (ux : Nat → Int32) (G : zG) (x st : Int32) (r : Nat → Int32) (hG : CG E.2.1 G r pN tN aN wx pp tp ap) : Met l yX7_loudest (.code yX7_loudest cX7_loudest 7 (some FieldType.int) :: AllW) (rm0' 3 71) (zP E (fun H => WW E (wK b E.2.1 tl pd qt qr tbu wst asw pN tN aN (hdC (r 3)) (r 4) (r 5) (r 6) (r 7) wx pp tp ap sg uh ud up ur us ux) G H) [.ref (b 0), .int x, .int st]) (zQ (fun (_ : Heap) (v : Option Value) (H1 : Heap) => (∃ (sg2 : Nat → Int32), v = some (.int (loudestP r x st)) ∧ WW E (wK b E.2.1 tl pd qt qr tbu wst asw pN tN aN (hdC (r 3)) (r 4) (r 5) (r 6) (r 7) wx pp tp ap sg2 uh ud up ur us ux) G H1)) (bF b)) 0 0 (bF b) := by
  refine z_body (own := RX7) (by decide) rfl rfl ?_
  intro p e s m args below meth c ls cx hr hlk hnm hW hl
  have hx := cx.x
  have hb := cx.b
  have hl : lv_has ls 7 [(0, .ref (b 0)), (1, .int x), (2, .int st)] := hl
  have hFb : ∀ k, (bF b) (b k) := fun k => bF_in b k
  have hS : va_S (bF b) s.heap s.heap [] := va_S.rf
  have hG0 := hG
  obtain ⟨hI, hpN, htN, haN, hPc, hTh, hAk, hwx⟩ := hG
  have hC := hI.1
  have hIS := hI.2.1
  have hP := hI.2.2.1
  have hT := hI.2.2.2.1
  have hP10 := (Inv.n0 hC).2
  have hT7 := (Inv.n1 hC).2
  have hA24 := (Inv.n2 hC).2
  have e0 := (Inv.n0 hC).1
  have e1 := (Inv.n1 hC).1
  have e2 := (Inv.n2 hC).1
  refine lv_aload_n (pc := 0) hx hb dX7_loudest_0 rfl (lv_at hl 0 rfl) ?_
  refine z_get (pc := 1) cx (hW.at 0 rfl) (C := RX7) (T := TX7) (N := 11) rfl i_X7 0 rfl m_fl_X7_10 rfl dX7_loudest_1 ?_
  refine lv_iload_n (pc := 4) hx hb dX7_loudest_4 rfl (lv_at hl 1 rfl) ?_
  refine k_X1_isPiece (pc := 5) (x := x) cx hW (by first | assumption | omega) (by first | assumption | omega) m_ml_X7_155 ⟨Nat.le_of_ble_eq_true rfl, Nat.le_of_ble_eq_true rfl⟩ hl.1 rfl (by simp [Value.category]) dX7_loudest_5 ⟨Nat.le_refl _, Nat.le_refl _⟩ ?_
  refine z_ifeq (pc := 8) (tgt := 18) hx hb dX7_loudest_8 (by decide) (fun c_1 => ?_) (fun c_1 => ?_)
  · skip
    refine lv_iconst (pc := 18) (v := (-1)) hx hb dX7_loudest_18 (by decide) ?_
    exact z_wiret cx hr hlk dX7_loudest_19 hS ⟨_, (sI (by first | rfl | (simp [loudestP, c_1]; done))), hW⟩
  · skip
    obtain ⟨n, hn, rfl⟩ := pc_nat hC c_1
    have hN := iN_nI (n := n) (by omega)
    refine lv_iload_n (pc := 11) hx hb dX7_loudest_11 rfl (lv_at hl 2 rfl) ?_
    refine k_X7_isStrong (pc := 12) (x := st) cx  m_ml_X7_197 ⟨Nat.le_of_ble_eq_true rfl, Nat.le_of_ble_eq_true rfl⟩ hl.1 rfl (by simp [Value.category]) dX7_loudest_12 ⟨Nat.le_refl _, Nat.le_refl _⟩ ?_
    refine z_ifne (pc := 15) (tgt := 20) hx hb dX7_loudest_15 (by decide) (fun c_2 => ?_) (fun c_2 => ?_)
    · skip
      have hst := inL_rg c_2
      have h1s : (1 : Int32).toInt = 1 := rfl
      have h99 : (99 : Int32).toInt = 99 := rfl
      rw [h1s, h99] at hst
      refine lv_iconst (pc := 20) (v := 0) hx hb dX7_loudest_20 (by decide) ?_
      refine lv_istore_n (pc := 21) (lv' := [(3, .int 0), (0, .ref (b 0)), (1, .int (nI n)), (2, .int st)]) hx hb dX7_loudest_21 rfl hl (by decide) rfl (fun ls hl => ?_)
      refine lv_iconst (pc := 22) (v := (-1)) hx hb dX7_loudest_22 (by decide) ?_
      refine lv_istore (pc := 23) (lv' := [(4, .int (-1)), (3, .int 0), (0, .ref (b 0)), (1, .int (nI n)), (2, .int st)]) hx hb dX7_loudest_23 hl (by decide) rfl (fun ls hl => ?_)
      refine lv_iconst (pc := 25) (v := 1) hx hb dX7_loudest_25 (by decide) ?_
      refine lv_istore (pc := 26) (lv' := [(5, .int 1), (4, .int (-1)), (3, .int 0), (0, .ref (b 0)), (1, .int (nI n)), (2, .int st)]) hx hb dX7_loudest_26 hl (by decide) rfl (fun ls hl => ?_)
      have loop_28 : ∀ (k_28 : Nat) (k : Nat) (x5 : Int32) (x4 : Int32) (x3 : Int32), (600 - k) < k_28 → (k ≤ 600) → x5 = nI (k + 1) → x4 = loV r n st k → x3 = loB r n st k → ∀ (sg2 : Nat → Int32) (H : Heap) (locs : List Loc), WW E (wK b E.2.1 tl pd qt qr tbu wst asw pN tN aN (hdC (r 3)) (r 4) (r 5) (r 6) (r 7) wx pp tp ap sg2 uh ud up ur us ux) G H → va_S (bF b) s.heap H locs → ∀ (ls : Array Slot), lv_has ls 7 [(5, .int x5), (4, .int x4), (3, .int x3), (0, .ref (b 0)), (1, .int (nI n)), (2, .int st)] → W p l e (rm0' (3) (71)) s m args below meth c H locs 0 0 (MQ below (zQ (fun (_ : Heap) (v : Option Value) (H1 : Heap) => (∃ (sg2 : Nat → Int32), v = some (.int (loudestP r (nI n) st)) ∧ WW E (wK b E.2.1 tl pd qt qr tbu wst asw pN tN aN (hdC (r 3)) (r 4) (r 5) (r 6) (r 7) wx pp tp ap sg2 uh ud up ur us ux) G H1)) (bF b)) args s 0 0 (bF b)) (F0 m 28 ls []) := by
        intro k_28
        induction k_28 with
        | zero =>
          intro k x5 x4 x3 hm
          exact absurd hm (Nat.not_lt_zero _)
        | succ k_28 ih_28 =>
          intro k x5 x4 x3 hm_28 hk e_x5 e_x4 e_x3 sg2 H locs  hW hS ls hl
          subst e_x5
          subst e_x4
          subst e_x3
          refine lv_iload (pc := 28) hx hb dX7_loudest_28 (lv_at hl 0 rfl) ?_
          refine lv_sipush (pc := 30) (v := 600) hx hb dX7_loudest_30 (by decide) ?_
          refine lv_icmp_gt (pc := 33) (tgt := 76) hx hb dX7_loudest_33 (by decide) (fun c_3 => ?_) (fun c_3 => ?_)
          · skip
            obtain rfl : k = 600 := by have := gtn (a := 600) (b := k + 1) rfl rfl (by omega) (by omega) c_3; omega
            refine lv_iload_n (pc := 76) hx hb dX7_loudest_76 rfl (lv_at hl 2 rfl) ?_
            exact z_wiret cx hr hlk dX7_loudest_77 hS ⟨_, (sI (by simp [loudestP, loB, c_1, hN, c_2])), hW⟩
          · skip
            have hle := ngt (a := 600) (b := k + 1) rfl rfl (by omega) (by omega) c_3
            have hfk : rg (nI (k + 1)) 1 2400 := rgN (by omega) (by omega) (by omega)
            refine lv_aload_n (pc := 36) hx hb dX7_loudest_36 rfl (lv_at hl 3 rfl) ?_
            refine z_get (pc := 37) cx (hW.at 0 rfl) (C := RX7) (T := TX7) (N := 11) rfl i_X7 0 rfl m_fl_X7_10 rfl dX7_loudest_37 ?_
            refine lv_iload_n (pc := 40) hx hb dX7_loudest_40 rfl (lv_at hl 4 rfl) ?_
            refine lv_aload_n (pc := 41) hx hb dX7_loudest_41 rfl (lv_at hl 3 rfl) ?_
            refine z_get (pc := 42) cx (hW.at 0 rfl) (C := RX7) (T := TX7) (N := 11) rfl i_X7 0 rfl m_fl_X7_10 rfl dX7_loudest_42 ?_
            refine z_get (pc := 45) cx (hW.at 6 rfl) (C := RX1) (T := TX1) (N := 8) rfl i_X1 3 rfl m_fl_X7_117 rfl dX7_loudest_45 ?_
            refine lv_iload (pc := 48) hx hb dX7_loudest_48 (lv_at hl 0 rfl) ?_
            refine lv_iload_n (pc := 50) hx hb dX7_loudest_50 rfl (lv_at hl 5 rfl) ?_
            refine k_X1_swingOf (pc := 51) (n := n) (t := b 7) (f := nI (k + 1)) (st := st) (w := b 8) (xw := wx) cx hW hS (fun _ h => h) hI hpN hPc hn hfk (fun _ _ h => ⟨h.at 7 rfl, h.at 8 rfl, hwx⟩) m_ml_X7_178 ⟨Nat.le_of_ble_eq_true rfl, Nat.le_of_ble_eq_true rfl⟩ hl.1 rfl (by simp [Value.category]) dX7_loudest_51 ⟨Nat.le_refl _, Nat.le_refl _⟩ (fun sg2 H locs hf2 hW hS => ?_)
            have hW : WW E (wK b E.2.1 tl pd qt qr tbu wst asw pN tN aN (hdC (r 3)) (r 4) (r 5) (r 6) (r 7) wx pp tp ap sg2 uh ud up ur us ux) G H := hW
            refine lv_istore (pc := 54) (lv' := [(6, .int (sw r n (nI (k + 1)) st)), (5, .int (nI (k + 1))), (4, .int (loV r n st k)), (3, .int (loB r n st k)), (0, .ref (b 0)), (1, .int (nI n)), (2, .int st)]) hx hb dX7_loudest_54 hl (by decide) rfl (fun ls hl => ?_)
            refine lv_iload (pc := 56) hx hb dX7_loudest_56 (lv_at hl 0 rfl) ?_
            refine lv_iload (pc := 58) hx hb dX7_loudest_58 (lv_at hl 2 rfl) ?_
            refine lv_icmp_le (pc := 60) (tgt := 70) hx hb dX7_loudest_60 (by decide) (fun c_4 => ?_) (fun c_4 => ?_)
            · skip
              have hlo := lo_no (sw_0 hC hIS hP hfk hst hn) (i_nlt.mpr c_4)
              refine lv_iinc (pc := 70) (v := nI ((k + 1) + 1)) (lv' := [(5, .int (nI ((k + 1) + 1))), (6, .int (sw r n (nI (k + 1)) st)), (4, .int (loV r n st k)), (3, .int (loB r n st k)), (0, .ref (b 0)), (1, .int (nI n)), (2, .int st)]) hx hb dX7_loudest_70 hl (k := 1) rfl (nI_1 _) (by decide) rfl (fun ls hl => ?_)
              refine lv_goto (pc := 73) (tgt := 28) hx hb dX7_loudest_73 (by decide) ?_
              exact ih_28 (k + 1) (nI ((k + 1) + 1)) (loV r n st k) (loB r n st k) (by omega) (by omega) (by first | rfl | (simp [loudestP, c_1, hN, c_2, c_4, i_nlt.mpr c_4]; done)) hlo.2.symm hlo.1.symm _ _ _  (hW) hS ls (lv_sub hl [0, 2, 3, 4, 5, 6] rfl)
            · skip
              have hlo := lo_up (i_nle.mp c_4)
              refine lv_iload (pc := 63) hx hb dX7_loudest_63 (lv_at hl 0 rfl) ?_
              refine lv_istore (pc := 65) (lv' := [(4, .int (sw r n (nI (k + 1)) st)), (6, .int (sw r n (nI (k + 1)) st)), (5, .int (nI (k + 1))), (3, .int (loB r n st k)), (0, .ref (b 0)), (1, .int (nI n)), (2, .int st)]) hx hb dX7_loudest_65 hl (by decide) rfl (fun ls hl => ?_)
              refine lv_iload (pc := 67) hx hb dX7_loudest_67 (lv_at hl 2 rfl) ?_
              refine lv_istore_n (pc := 69) (lv' := [(3, .int (nI (k + 1))), (4, .int (sw r n (nI (k + 1)) st)), (6, .int (sw r n (nI (k + 1)) st)), (5, .int (nI (k + 1))), (0, .ref (b 0)), (1, .int (nI n)), (2, .int st)]) hx hb dX7_loudest_69 rfl hl (by decide) rfl (fun ls hl => ?_)
              refine lv_iinc (pc := 70) (v := nI ((k + 1) + 1)) (lv' := [(5, .int (nI ((k + 1) + 1))), (3, .int (nI (k + 1))), (4, .int (sw r n (nI (k + 1)) st)), (6, .int (sw r n (nI (k + 1)) st)), (0, .ref (b 0)), (1, .int (nI n)), (2, .int st)]) hx hb dX7_loudest_70 hl (k := 3) rfl (nI_1 _) (by decide) rfl (fun ls hl => ?_)
              refine lv_goto (pc := 73) (tgt := 28) hx hb dX7_loudest_73 (by decide) ?_
              exact ih_28 (k + 1) (nI ((k + 1) + 1)) (sw r n (nI (k + 1)) st) (nI (k + 1)) (by omega) (by omega) (by first | rfl | (simp [loudestP, c_1, hN, c_2, c_4, i_nle.mp c_4]; done)) hlo.2.symm hlo.1.symm _ _ _  (hW) hS ls (lv_sub hl [0, 2, 1, 4, 5, 6] rfl)
      exact loop_28 ((600 - 0) + 1) 0 1 (-1) 0 (Nat.lt_succ_self _) (by omega) (by first | rfl | (simp [loudestP, c_1, hN, c_2]; done)) (by first | rfl | (simp [loudestP, c_1, hN, c_2]; done)) (by first | rfl | (simp [loudestP, c_1, hN, c_2]; done)) sg _ _  (hW) hS ls (lv_sub hl [0, 1, 2, 3, 4, 5] rfl)
    · skip
      refine lv_iconst (pc := 18) (v := (-1)) hx hb dX7_loudest_18 (by decide) ?_
      exact z_wiret cx hr hlk dX7_loudest_19 hS ⟨_, (sI (by first | rfl | (simp [loudestP, c_1, hN, c_2]; done))), hW⟩
theorem k_X7_loudest {p : Program} {l : Launch} {e : Env} {R : Room} {s : State} {m : MethodId} {args : Array Value} {below : List Frame} {meth : Method} {c : Code} {H H0 : Heap} {locs : List Loc} {cells slots : Nat} {Q : State → Prop} {cc : ByteArray} {pc index : Nat} {ls : Array Slot} {rest st0 : List Value} {E : zE} {own : String} {nL : Nat} {F : Nat → Prop} {b : Nat → Nat} {tl : va_W} {pd : Bool} {qt : Nat → Option Nat} {qr : Nat → Option Nat} {tbu : Nat → Int32} {wst : Nat → Int32} {asw : Nat → Int32} {pN : Int32} {tN : Int32} {aN : Int32} {wx : Nat → Int32} {pp : Nat → Option Nat} {tp : Nat → Option Nat} {ap : Nat → Option Nat} {sg : Nat → Int32} {uh : Int32} {ud : Int32} {up : Int32} {ur : Int32} {us : Int32} {ux : Nat → Int32} {G : zG} {x st : Int32} {r : Nat → Int32} (cx : Cx E p s args m c own cc nL) (hW : WW E (wK b E.2.1 tl pd qt qr tbu wst asw pN tN aN (hdC (r 3)) (r 4) (r 5) (r 6) (r 7) wx pp tp ap sg uh ud up ur us ux) G H) (hS : va_S F H0 H locs) (zF : ∀ q, (bF b) q → F q) (hG : CG E.2.1 G r pN tN aN wx pp tp ap) (zl : Cond.methodLink own index yX7_loudest ∈ AllW) (zR : 3 + 1 ≤ R.frames ∧ 8 + (7 + 11) + 71 ≤ R.locals) (zs : ls.size = nL) (zt : st0 = ([.int x, .int st] : List Value).reverse ++ .ref (b 0) :: rest) (z8 : (rest.map fun v => v.category).sum ≤ 8) (zd : decode cc pc = .ok (.invokevirtual index, 3)) (zf : cells ≤ R.cells ∧ slots ≤ R.slots) (kk0 : ∀ (sg2 : Nat → Int32) (H1 : Heap) (locs1 : List Loc), WW E (wK b E.2.1 tl pd qt qr tbu wst asw pN tN aN (hdC (r 3)) (r 4) (r 5) (r 6) (r 7) wx pp tp ap sg2 uh ud up ur us ux) G H1 → va_S F H0 H1 locs1 → W p l e R s m args below meth c H1 locs1 cells slots Q (F0 m (pc + 3) ls (.int (loudestP r x st) :: rest))) : W p l e R s m args below meth c H locs cells slots Q (F0 m pc ls st0) := by
  refine z_callVw cx vm_X7_loudest (c_X7_loudest l E b tl pd qt qr tbu wst asw pN tN aN wx pp tp ap sg uh ud up ur us ux G x st r hG) (z_rec cx.2 (hW.at 0 rfl) rfl) hW hS zF zl ⟨rfl, rfl⟩ zR rfl zs zt z8 zd zf (fun v H1 locs1 hq hS1 _ => ?_)
  rcases hq with ⟨sg2, rfl, hW1⟩
  · exact kk0 sg2 H1 locs1  hW1 hS1
theorem vm_X7_softest : zVm yX7_softest cX7_softest 5 (some FieldType.int) 2 := ⟨m_co_X7_softest, m_in_RX7, ⟨m_im_X7_softest, m_se_X7_X7_softest⟩, by decide +kernel, by decide +kernel, by decide +kernel⟩
set_option maxHeartbeats 1000000 in
set_option maxRecDepth 100000 in
theorem c_X7_softest (l : Launch) (E : zE) (b : Nat → Nat) (tl : va_W) (pd : Bool) (qt : Nat → Option Nat) (qr : Nat → Option Nat) (tbu : Nat → Int32) (wst : Nat → Int32) (asw : Nat → Int32) (pN : Int32) (tN : Int32) (aN : Int32) (wx : Nat → Int32) (pp : Nat → Option Nat) (tp : Nat → Option Nat) (ap : Nat → Option Nat) (sg : Nat → Int32) (uh : Int32) (ud : Int32) (up : Int32) (ur : Int32) (us : Int32) (ux : Nat → Int32) (G : zG) (x f : Int32) (r : Nat → Int32) (hG : CG E.2.1 G r pN tN aN wx pp tp ap) : Met l yX7_softest (.code yX7_softest cX7_softest 5 (some FieldType.int) :: AllW) (rm0' 5 119) (zP E (fun H => WW E (wK b E.2.1 tl pd qt qr tbu wst asw pN tN aN (hdC (r 3)) (r 4) (r 5) (r 6) (r 7) wx pp tp ap sg uh ud up ur us ux) G H) [.ref (b 0), .int x, .int f]) (zQ (fun (_ : Heap) (v : Option Value) (H1 : Heap) => (∃ (sg2 : Nat → Int32), v = some (.int (softestP r x f)) ∧ WW E (wK b E.2.1 tl pd qt qr tbu wst asw pN tN aN (hdC (r 3)) (r 4) (r 5) (r 6) (r 7) wx pp tp ap sg2 uh ud up ur us ux) G H1)) (bF b)) 0 0 (bF b) := by
  refine z_body (own := RX7) (by decide) rfl rfl ?_
  intro p e s m args below meth c ls cx hr hlk hnm hW hl
  have hx := cx.x
  have hb := cx.b
  have hl : lv_has ls 5 [(0, .ref (b 0)), (1, .int x), (2, .int f)] := hl
  have hFb : ∀ k, (bF b) (b k) := fun k => bF_in b k
  have hS : va_S (bF b) s.heap s.heap [] := va_S.rf
  have hG0 := hG
  obtain ⟨hI, hpN, htN, haN, hPc, hTh, hAk, hwx⟩ := hG
  have hC := hI.1
  have hIS := hI.2.1
  have hP := hI.2.2.1
  have hT := hI.2.2.2.1
  have hP10 := (Inv.n0 hC).2
  have hT7 := (Inv.n1 hC).2
  have hA24 := (Inv.n2 hC).2
  have e0 := (Inv.n0 hC).1
  have e1 := (Inv.n1 hC).1
  have e2 := (Inv.n2 hC).1
  refine lv_aload_n (pc := 0) hx hb dX7_softest_0 rfl (lv_at hl 0 rfl) ?_
  refine z_get (pc := 1) cx (hW.at 0 rfl) (C := RX7) (T := TX7) (N := 11) rfl i_X7 0 rfl m_fl_X7_10 rfl dX7_softest_1 ?_
  refine lv_iload_n (pc := 4) hx hb dX7_softest_4 rfl (lv_at hl 1 rfl) ?_
  by_cases c_1 : isTh r x = true
  · skip
    obtain ⟨n, hn, rfl⟩ := th_nat hC c_1
    have hNn := iN_nI (n := n) (by omega)
    obtain ⟨q1, h1q1, h2q1⟩ := hTh n hn
    refine k_X1_thingAt (pc := 5) (n := n) (q := q1) cx hW hC htN hn h1q1 m_ml_X7_133 ⟨Nat.le_of_ble_eq_true rfl, Nat.le_of_ble_eq_true rfl⟩ hl.1 rfl (by simp [Value.category]) dX7_softest_5 ⟨Nat.le_refl _, Nat.le_refl _⟩ ?_
    refine lv_astore_n (pc := 8) (lv' := [(3, .ref q1), (0, .ref (b 0)), (1, .int (nI n)), (2, .int f)]) hx hb dX7_softest_8 rfl hl (by decide) rfl (fun ls hl => ?_)
    refine lv_aload_n (pc := 9) hx hb dX7_softest_9 rfl (lv_at hl 0 rfl) ?_
    refine lv_ifnull (pc := 10) hx hb dX7_softest_10 ?_
    refine lv_iload_n (pc := 13) hx hb dX7_softest_13 rfl (lv_at hl 3 rfl) ?_
    refine k_X7_isTone (pc := 14) (x := f) cx  m_ml_X7_200 ⟨Nat.le_of_ble_eq_true rfl, Nat.le_of_ble_eq_true rfl⟩ hl.1 rfl (by simp [Value.category]) dX7_softest_14 ⟨Nat.le_refl _, Nat.le_refl _⟩ ?_
    refine z_ifne (pc := 17) (tgt := 22) hx hb dX7_softest_17 (by decide) (fun c_2 => ?_) (fun c_2 => ?_)
    · skip
      have hf := tone_rg c_2
      refine lv_iconst (pc := 22) (v := 1) hx hb dX7_softest_22 (by decide) ?_
      refine lv_istore (pc := 23) (lv' := [(4, .int 1), (3, .ref q1), (0, .ref (b 0)), (1, .int (nI n)), (2, .int f)]) hx hb dX7_softest_23 hl (by decide) rfl (fun ls hl => ?_)
      have loop_25 : ∀ (k_25 : Nat) (i : Nat) (x4 : Int32), (100 - i) < k_25 → (1 ≤ i ∧ i ≤ 100) → (fstN (fun k => bzA r n f (nI k)) 99 1 = fstN (fun k => bzA r n f (nI k)) (100 - i) i) → x4 = nI i → ∀ (sg2 : Nat → Int32) (H : Heap) (locs : List Loc), WW E (wK b E.2.1 tl pd qt qr tbu wst asw pN tN aN (hdC (r 3)) (r 4) (r 5) (r 6) (r 7) wx pp tp ap sg2 uh ud up ur us ux) G H → va_S (bF b) s.heap H locs → ∀ (ls : Array Slot), lv_has ls 5 [(4, .int x4), (3, .ref q1), (0, .ref (b 0)), (1, .int (nI n)), (2, .int f)] → W p l e (rm0' (5) (119)) s m args below meth c H locs 0 0 (MQ below (zQ (fun (_ : Heap) (v : Option Value) (H1 : Heap) => (∃ (sg2 : Nat → Int32), v = some (.int (softestP r (nI n) f)) ∧ WW E (wK b E.2.1 tl pd qt qr tbu wst asw pN tN aN (hdC (r 3)) (r 4) (r 5) (r 6) (r 7) wx pp tp ap sg2 uh ud up ur us ux) G H1)) (bF b)) args s 0 0 (bF b)) (F0 m 25 ls []) := by
        intro k_25
        induction k_25 with
        | zero =>
          intro i x4 hm
          exact absurd hm (Nat.not_lt_zero _)
        | succ k_25 ih_25 =>
          intro i x4 hm_25 hi he e_x4 sg2 H locs  hW hS ls hl
          subst e_x4
          refine lv_iload (pc := 25) hx hb dX7_softest_25 (lv_at hl 0 rfl) ?_
          refine lv_bipush (pc := 27) (v := 99) hx hb dX7_softest_27 (by decide) ?_
          refine lv_icmp_gt (pc := 29) (tgt := 62) hx hb dX7_softest_29 (by decide) (fun c_3 => ?_) (fun c_3 => ?_)
          · skip
            have hgt := gtn (a := 99) (b := i) rfl rfl (by omega) (by omega) c_3
            refine lv_bipush (pc := 62) (v := (-4)) hx hb dX7_softest_62 (by decide) ?_
            exact z_wiret cx hr hlk dX7_softest_64 hS ⟨_, (sI (by simp only [softestP, c_1, hNn, c_2, and_self, if_true, he]; rw [show 100 - i = 0 by omega]; rfl)), hW⟩
          · skip
            have hle := ngt (a := 99) (b := i) rfl rfl (by omega) (by omega) c_3
            refine lv_aload_n (pc := 32) hx hb dX7_softest_32 rfl (lv_at hl 2 rfl) ?_
            refine z_get (pc := 33) cx (hW.at 0 rfl) (C := RX7) (T := TX7) (N := 11) rfl i_X7 0 rfl m_fl_X7_10 rfl dX7_softest_33 ?_
            refine lv_aload_n (pc := 36) hx hb dX7_softest_36 rfl (lv_at hl 1 rfl) ?_
            refine lv_aload_n (pc := 37) hx hb dX7_softest_37 rfl (lv_at hl 2 rfl) ?_
            refine z_get (pc := 38) cx (hW.at 0 rfl) (C := RX7) (T := TX7) (N := 11) rfl i_X7 0 rfl m_fl_X7_10 rfl dX7_softest_38 ?_
            refine z_get (pc := 41) cx (hW.at 6 rfl) (C := RX1) (T := TX1) (N := 8) rfl i_X1 3 rfl m_fl_X7_117 rfl dX7_softest_41 ?_
            refine lv_iload_n (pc := 44) hx hb dX7_softest_44 rfl (lv_at hl 4 rfl) ?_
            refine lv_iload (pc := 45) hx hb dX7_softest_45 (lv_at hl 0 rfl) ?_
            refine k_X1_isBuzzing (pc := 47) (q := q1) (t := b 7) (f := f) (st := nI i) (w := b 8) (xw := wx) (n := n) cx hW hS (fun _ h => h) hI hpN hPc hn hf h2q1 (fun _ _ h => ⟨h.at 7 rfl, h.at 8 rfl, hwx⟩) m_ml_X7_190 ⟨Nat.le_of_ble_eq_true rfl, Nat.le_of_ble_eq_true rfl⟩ hl.1 rfl (by simp [Value.category]) dX7_softest_47 ⟨Nat.le_refl _, Nat.le_refl _⟩ (fun sg2 H locs  hW hS => ?_)
            have hW : WW E (wK b E.2.1 tl pd qt qr tbu wst asw pN tN aN (hdC (r 3)) (r 4) (r 5) (r 6) (r 7) wx pp tp ap sg2 uh ud up ur us ux) G H := hW
            refine z_ifeq (pc := 50) (tgt := 56) hx hb dX7_softest_50 (by decide) (fun c_4 => ?_) (fun c_4 => ?_)
            · skip
              refine lv_iinc (pc := 56) (v := nI (i + 1)) (lv' := [(4, .int (nI (i + 1))), (3, .ref q1), (0, .ref (b 0)), (1, .int (nI n)), (2, .int f)]) hx hb dX7_softest_56 hl (k := 0) rfl (nI_1 _) (by decide) rfl (fun ls hl => ?_)
              refine lv_goto (pc := 59) (tgt := 25) hx hb dX7_softest_59 (by decide) ?_
              exact ih_25 (i + 1) (nI (i + 1)) (by omega) (by omega) (by rw [he, fstN_miss (by assumption) (by omega)]; rfl) (by first | rfl | (simp [softestP, c_1, hNn, c_2, c_4]; done)) _ _ _  (hW) hS ls (lv_sub hl [0, 1, 2, 3, 4] rfl)
            · skip
              refine lv_iload (pc := 53) hx hb dX7_softest_53 (lv_at hl 0 rfl) ?_
              exact z_wiret cx hr hlk dX7_softest_55 hS ⟨_, (sI (by simp only [softestP, c_1, hNn, c_2, c_4, and_self, if_true, he]; rw [fstN_hit (by assumption) (by omega)]; rfl)), hW⟩
      exact loop_25 ((100 - 1) + 1) 1 1 (Nat.lt_succ_self _) (by omega) rfl (by first | rfl | (simp [softestP, c_1, hNn, c_2]; done)) sg _ _  (hW) hS ls (lv_sub hl [0, 1, 2, 3, 4] rfl)
    · skip
      refine lv_iconst (pc := 20) (v := (-1)) hx hb dX7_softest_20 (by decide) ?_
      exact z_wiret cx hr hlk dX7_softest_21 hS ⟨_, (sI (by first | rfl | (simp [softestP, c_1, hNn, c_2]; done))), hW⟩
  · skip
    have h0n := Bool.eq_false_iff.mpr c_1
    refine k_X1_thingAt0 (pc := 5) (x := x) cx hW hC htN h0n m_ml_X7_133 ⟨Nat.le_of_ble_eq_true rfl, Nat.le_of_ble_eq_true rfl⟩ hl.1 rfl (by simp [Value.category]) dX7_softest_5 ⟨Nat.le_refl _, Nat.le_refl _⟩ ?_
    refine lv_astore_nN (pc := 8) (lv' := [(3, .null), (0, .ref (b 0)), (1, .int x), (2, .int f)]) hx hb dX7_softest_8 rfl hl (by decide) rfl (fun ls hl => ?_)
    refine lv_aload_nN (pc := 9) hx hb dX7_softest_9 rfl (lv_at hl 0 rfl) ?_
    refine lv_ifnullN (pc := 10) (tgt := 20) hx hb dX7_softest_10 (by decide) ?_
    refine lv_iconst (pc := 20) (v := (-1)) hx hb dX7_softest_20 (by decide) ?_
    exact z_wiret cx hr hlk dX7_softest_21 hS ⟨_, (sI (by first | rfl | (simp [softestP, c_1]; done))), hW⟩
theorem k_X7_softest {p : Program} {l : Launch} {e : Env} {R : Room} {s : State} {m : MethodId} {args : Array Value} {below : List Frame} {meth : Method} {c : Code} {H H0 : Heap} {locs : List Loc} {cells slots : Nat} {Q : State → Prop} {cc : ByteArray} {pc index : Nat} {ls : Array Slot} {rest st0 : List Value} {E : zE} {own : String} {nL : Nat} {F : Nat → Prop} {b : Nat → Nat} {tl : va_W} {pd : Bool} {qt : Nat → Option Nat} {qr : Nat → Option Nat} {tbu : Nat → Int32} {wst : Nat → Int32} {asw : Nat → Int32} {pN : Int32} {tN : Int32} {aN : Int32} {wx : Nat → Int32} {pp : Nat → Option Nat} {tp : Nat → Option Nat} {ap : Nat → Option Nat} {sg : Nat → Int32} {uh : Int32} {ud : Int32} {up : Int32} {ur : Int32} {us : Int32} {ux : Nat → Int32} {G : zG} {x f : Int32} {r : Nat → Int32} (cx : Cx E p s args m c own cc nL) (hW : WW E (wK b E.2.1 tl pd qt qr tbu wst asw pN tN aN (hdC (r 3)) (r 4) (r 5) (r 6) (r 7) wx pp tp ap sg uh ud up ur us ux) G H) (hS : va_S F H0 H locs) (zF : ∀ q, (bF b) q → F q) (hG : CG E.2.1 G r pN tN aN wx pp tp ap) (zl : Cond.methodLink own index yX7_softest ∈ AllW) (zR : 5 + 1 ≤ R.frames ∧ 8 + (5 + 11) + 119 ≤ R.locals) (zs : ls.size = nL) (zt : st0 = ([.int x, .int f] : List Value).reverse ++ .ref (b 0) :: rest) (z8 : (rest.map fun v => v.category).sum ≤ 8) (zd : decode cc pc = .ok (.invokevirtual index, 3)) (zf : cells ≤ R.cells ∧ slots ≤ R.slots) (kk0 : ∀ (sg2 : Nat → Int32) (H1 : Heap) (locs1 : List Loc), WW E (wK b E.2.1 tl pd qt qr tbu wst asw pN tN aN (hdC (r 3)) (r 4) (r 5) (r 6) (r 7) wx pp tp ap sg2 uh ud up ur us ux) G H1 → va_S F H0 H1 locs1 → W p l e R s m args below meth c H1 locs1 cells slots Q (F0 m (pc + 3) ls (.int (softestP r x f) :: rest))) : W p l e R s m args below meth c H locs cells slots Q (F0 m pc ls st0) := by
  refine z_callVw cx vm_X7_softest (c_X7_softest l E b tl pd qt qr tbu wst asw pN tN aN wx pp tp ap sg uh ud up ur us ux G x f r hG) (z_rec cx.2 (hW.at 0 rfl) rfl) hW hS zF zl ⟨rfl, rfl⟩ zR rfl zs zt z8 zd zf (fun v H1 locs1 hq hS1 _ => ?_)
  rcases hq with ⟨sg2, rfl, hW1⟩
  · exact kk0 sg2 H1 locs1  hW1 hS1
theorem vm_X7_seamOrCrack : zVm yX7_seamOrCrack cX7_seamOrCrack 9 (some FieldType.int) 3 := ⟨m_co_X7_seamOrCrack, m_in_RX7, ⟨m_im_X7_seamOrCrack, m_se_X7_X7_seamOrCrack⟩, by decide +kernel, by decide +kernel, by decide +kernel⟩
set_option maxHeartbeats 1000000 in
set_option maxRecDepth 100000 in
theorem c_X7_seamOrCrack (l : Launch) (E : zE) (b : Nat → Nat) (tl : va_W) (pd : Bool) (qt : Nat → Option Nat) (qr : Nat → Option Nat) (tbu : Nat → Int32) (wst : Nat → Int32) (asw : Nat → Int32) (pN : Int32) (tN : Int32) (aN : Int32) (wx : Nat → Int32) (pp : Nat → Option Nat) (tp : Nat → Option Nat) (ap : Nat → Option Nat) (sg : Nat → Int32) (uh : Int32) (ud : Int32) (up : Int32) (ur : Int32) (us : Int32) (ux : Nat → Int32) (G : zG) (x y f : Int32) (r : Nat → Int32) (hG : CG E.2.1 G r pN tN aN wx pp tp ap) : Met l yX7_seamOrCrack (.code yX7_seamOrCrack cX7_seamOrCrack 9 (some FieldType.int) :: AllW) (rm0' 5 119) (zP E (fun H => WW E (wK b E.2.1 tl pd qt qr tbu wst asw pN tN aN (hdC (r 3)) (r 4) (r 5) (r 6) (r 7) wx pp tp ap sg uh ud up ur us ux) G H) [.ref (b 0), .int x, .int y, .int f]) (zQ (fun (_ : Heap) (v : Option Value) (H1 : Heap) => (∃ (sg2 : Nat → Int32), v = some (.int (seamP r x y f)) ∧ WW E (wK b E.2.1 tl pd qt qr tbu wst asw pN tN aN (hdC (r 3)) (r 4) (r 5) (r 6) (r 7) wx pp tp ap sg2 uh ud up ur us ux) G H1)) (bF b)) 0 0 (bF b) := by
  refine z_body (own := RX7) (by decide) rfl rfl ?_
  intro p e s m args below meth c ls cx hr hlk hnm hW hl
  have hx := cx.x
  have hb := cx.b
  have hl : lv_has ls 9 [(0, .ref (b 0)), (1, .int x), (2, .int y), (3, .int f)] := hl
  have hFb : ∀ k, (bF b) (b k) := fun k => bF_in b k
  have hS : va_S (bF b) s.heap s.heap [] := va_S.rf
  have hG0 := hG
  obtain ⟨hI, hpN, htN, haN, hPc, hTh, hAk, hwx⟩ := hG
  have hC := hI.1
  have hIS := hI.2.1
  have hP := hI.2.2.1
  have hT := hI.2.2.2.1
  have hP10 := (Inv.n0 hC).2
  have hT7 := (Inv.n1 hC).2
  have hA24 := (Inv.n2 hC).2
  have e0 := (Inv.n0 hC).1
  have e1 := (Inv.n1 hC).1
  have e2 := (Inv.n2 hC).1
  refine lv_aload_n (pc := 0) hx hb dX7_seamOrCrack_0 rfl (lv_at hl 0 rfl) ?_
  refine z_get (pc := 1) cx (hW.at 0 rfl) (C := RX7) (T := TX7) (N := 11) rfl i_X7 0 rfl m_fl_X7_10 rfl dX7_seamOrCrack_1 ?_
  refine lv_iload_n (pc := 4) hx hb dX7_seamOrCrack_4 rfl (lv_at hl 1 rfl) ?_
  by_cases c_1 : isTh r x = true
  · skip
    obtain ⟨n, hn, rfl⟩ := th_nat hC c_1
    have hNn := iN_nI (n := n) (by omega)
    obtain ⟨q1, h1q1, h2q1⟩ := hTh n hn
    refine k_X1_thingAt (pc := 5) (n := n) (q := q1) cx hW hC htN hn h1q1 m_ml_X7_133 ⟨Nat.le_of_ble_eq_true rfl, Nat.le_of_ble_eq_true rfl⟩ hl.1 rfl (by simp [Value.category]) dX7_seamOrCrack_5 ⟨Nat.le_refl _, Nat.le_refl _⟩ ?_
    refine lv_astore (pc := 8) (lv' := [(4, .ref q1), (0, .ref (b 0)), (1, .int (nI n)), (2, .int y), (3, .int f)]) hx hb dX7_seamOrCrack_8 hl (by decide) rfl (fun ls hl => ?_)
    refine lv_aload_n (pc := 10) hx hb dX7_seamOrCrack_10 rfl (lv_at hl 1 rfl) ?_
    refine z_get (pc := 11) cx (hW.at 0 rfl) (C := RX7) (T := TX7) (N := 11) rfl i_X7 0 rfl m_fl_X7_10 rfl dX7_seamOrCrack_11 ?_
    refine lv_iload_n (pc := 14) hx hb dX7_seamOrCrack_14 rfl (lv_at hl 3 rfl) ?_
    by_cases c_2 : isTh r y = true
    · skip
      obtain ⟨k2, hk2, rfl⟩ := th_nat hC c_2
      have hNk2 := iN_nI (n := k2) (by omega)
      obtain ⟨q2, h1q2, h2q2⟩ := hTh k2 hk2
      refine k_X1_thingAt (pc := 15) (n := k2) (q := q2) cx hW hC htN hk2 h1q2 m_ml_X7_133 ⟨Nat.le_of_ble_eq_true rfl, Nat.le_of_ble_eq_true rfl⟩ hl.1 rfl (by simp [Value.category]) dX7_seamOrCrack_15 ⟨Nat.le_refl _, Nat.le_refl _⟩ ?_
      refine lv_astore (pc := 18) (lv' := [(5, .ref q2), (4, .ref q1), (0, .ref (b 0)), (1, .int (nI n)), (2, .int (nI k2)), (3, .int f)]) hx hb dX7_seamOrCrack_18 hl (by decide) rfl (fun ls hl => ?_)
      refine lv_aload (pc := 20) hx hb dX7_seamOrCrack_20 (lv_at hl 1 rfl) ?_
      refine lv_ifnull (pc := 22) hx hb dX7_seamOrCrack_22 ?_
      refine lv_aload (pc := 25) hx hb dX7_seamOrCrack_25 (lv_at hl 0 rfl) ?_
      refine lv_ifnull (pc := 27) hx hb dX7_seamOrCrack_27 ?_
      refine lv_iload_n (pc := 30) hx hb dX7_seamOrCrack_30 rfl (lv_at hl 3 rfl) ?_
      refine lv_iload_n (pc := 31) hx hb dX7_seamOrCrack_31 rfl (lv_at hl 4 rfl) ?_
      refine lv_icmp_eq (pc := 32) (tgt := 55) hx hb dX7_seamOrCrack_32 (by decide) (fun c_3 => ?_) (fun c_3 => ?_)
      · skip
        refine lv_iconst (pc := 55) (v := (-1)) hx hb dX7_seamOrCrack_55 (by decide) ?_
        exact z_wiret cx hr hlk dX7_seamOrCrack_56 hS ⟨_, (sI (by first | rfl | (simp [seamP, c_1, hNn, c_2, hNk2, c_3]; done))), hW⟩
      · skip
        refine lv_aload (pc := 35) hx hb dX7_seamOrCrack_35 (lv_at hl 1 rfl) ?_
        refine z_get (pc := 37) cx (hW.dyn h2q1) (C := RX6) (T := TX6) (N := 6) rfl i_X6 2 rfl m_fl_X7_140 rfl dX7_seamOrCrack_37 ?_
        refine lv_aload (pc := 40) hx hb dX7_seamOrCrack_40 (lv_at hl 0 rfl) ?_
        refine z_get (pc := 42) cx (hW.dyn h2q2) (C := RX6) (T := TX6) (N := 6) rfl i_X6 2 rfl m_fl_X7_140 rfl dX7_seamOrCrack_42 ?_
        refine lv_icmp_ne (pc := 45) (tgt := 55) hx hb dX7_seamOrCrack_45 (by decide) (fun c_4 => ?_) (fun c_4 => ?_)
        · skip
          refine lv_iconst (pc := 55) (v := (-1)) hx hb dX7_seamOrCrack_55 (by decide) ?_
          exact z_wiret cx hr hlk dX7_seamOrCrack_56 hS ⟨_, (sI (by first | rfl | (simp [seamP, c_1, hNn, c_2, hNk2, c_3, c_4]; done))), hW⟩
        · skip
          refine lv_iload_n (pc := 48) hx hb dX7_seamOrCrack_48 rfl (lv_at hl 5 rfl) ?_
          refine k_X7_isTone (pc := 49) (x := f) cx  m_ml_X7_200 ⟨Nat.le_of_ble_eq_true rfl, Nat.le_of_ble_eq_true rfl⟩ hl.1 rfl (by simp [Value.category]) dX7_seamOrCrack_49 ⟨Nat.le_refl _, Nat.le_refl _⟩ ?_
          refine z_ifne (pc := 52) (tgt := 57) hx hb dX7_seamOrCrack_52 (by decide) (fun c_5 => ?_) (fun c_5 => ?_)
          · skip
            have hf := tone_rg c_5
            refine lv_iconst (pc := 57) (v := 1) hx hb dX7_seamOrCrack_57 (by decide) ?_
            refine lv_istore (pc := 58) (lv' := [(6, .int 1), (5, .ref q2), (4, .ref q1), (0, .ref (b 0)), (1, .int (nI n)), (2, .int (nI k2)), (3, .int f)]) hx hb dX7_seamOrCrack_58 hl (by decide) rfl (fun ls hl => ?_)
            have loop_60 : ∀ (k_60 : Nat) (i : Nat) (x6 : Int32), (100 - i) < k_60 → (1 ≤ i ∧ i ≤ 100) → (fstN (fun k => bzA r n f (nI k) != bzA r k2 f (nI k)) 99 1 = fstN (fun k => bzA r n f (nI k) != bzA r k2 f (nI k)) (100 - i) i) → x6 = nI i → ∀ (sg2 : Nat → Int32) (H : Heap) (locs : List Loc), WW E (wK b E.2.1 tl pd qt qr tbu wst asw pN tN aN (hdC (r 3)) (r 4) (r 5) (r 6) (r 7) wx pp tp ap sg2 uh ud up ur us ux) G H → va_S (bF b) s.heap H locs → ∀ (ls : Array Slot), lv_has ls 9 [(6, .int x6), (5, .ref q2), (4, .ref q1), (0, .ref (b 0)), (1, .int (nI n)), (2, .int (nI k2)), (3, .int f)] → W p l e (rm0' (5) (119)) s m args below meth c H locs 0 0 (MQ below (zQ (fun (_ : Heap) (v : Option Value) (H1 : Heap) => (∃ (sg2 : Nat → Int32), v = some (.int (seamP r (nI n) (nI k2) f)) ∧ WW E (wK b E.2.1 tl pd qt qr tbu wst asw pN tN aN (hdC (r 3)) (r 4) (r 5) (r 6) (r 7) wx pp tp ap sg2 uh ud up ur us ux) G H1)) (bF b)) args s 0 0 (bF b)) (F0 m 60 ls []) := by
              intro k_60
              induction k_60 with
              | zero =>
                intro i x6 hm
                exact absurd hm (Nat.not_lt_zero _)
              | succ k_60 ih_60 =>
                intro i x6 hm_60 hi he e_x6 sg2 H locs  hW hS ls hl
                subst e_x6
                refine lv_iload (pc := 60) hx hb dX7_seamOrCrack_60 (lv_at hl 0 rfl) ?_
                refine lv_bipush (pc := 62) (v := 99) hx hb dX7_seamOrCrack_62 (by decide) ?_
                refine lv_icmp_gt (pc := 64) (tgt := 125) hx hb dX7_seamOrCrack_64 (by decide) (fun c_6 => ?_) (fun c_6 => ?_)
                · skip
                  have hgt := gtn (a := 99) (b := i) rfl rfl (by omega) (by omega) c_6
                  refine lv_bipush (pc := 125) (v := (-4)) hx hb dX7_seamOrCrack_125 (by decide) ?_
                  exact z_wiret cx hr hlk dX7_seamOrCrack_127 hS ⟨_, (sI (by simp only [seamP, c_1, hNn, c_2, hNk2, c_3, c_4, c_5, not_false_eq_true, and_self, if_true, he]; rw [show 100 - i = 0 by omega]; rfl)), hW⟩
                · skip
                  have hle := ngt (a := 99) (b := i) rfl rfl (by omega) (by omega) c_6
                  refine lv_aload_n (pc := 67) hx hb dX7_seamOrCrack_67 rfl (lv_at hl 3 rfl) ?_
                  refine z_get (pc := 68) cx (hW.at 0 rfl) (C := RX7) (T := TX7) (N := 11) rfl i_X7 0 rfl m_fl_X7_10 rfl dX7_seamOrCrack_68 ?_
                  refine lv_aload (pc := 71) hx hb dX7_seamOrCrack_71 (lv_at hl 2 rfl) ?_
                  refine lv_aload_n (pc := 73) hx hb dX7_seamOrCrack_73 rfl (lv_at hl 3 rfl) ?_
                  refine z_get (pc := 74) cx (hW.at 0 rfl) (C := RX7) (T := TX7) (N := 11) rfl i_X7 0 rfl m_fl_X7_10 rfl dX7_seamOrCrack_74 ?_
                  refine z_get (pc := 77) cx (hW.at 6 rfl) (C := RX1) (T := TX1) (N := 8) rfl i_X1 3 rfl m_fl_X7_117 rfl dX7_seamOrCrack_77 ?_
                  refine lv_iload_n (pc := 80) hx hb dX7_seamOrCrack_80 rfl (lv_at hl 6 rfl) ?_
                  refine lv_iload (pc := 81) hx hb dX7_seamOrCrack_81 (lv_at hl 0 rfl) ?_
                  refine k_X1_isBuzzing (pc := 83) (q := q1) (t := b 7) (f := f) (st := nI i) (w := b 8) (xw := wx) (n := n) cx hW hS (fun _ h => h) hI hpN hPc hn hf h2q1 (fun _ _ h => ⟨h.at 7 rfl, h.at 8 rfl, hwx⟩) m_ml_X7_190 ⟨Nat.le_of_ble_eq_true rfl, Nat.le_of_ble_eq_true rfl⟩ hl.1 rfl (by simp [Value.category]) dX7_seamOrCrack_83 ⟨Nat.le_refl _, Nat.le_refl _⟩ (fun sg2_83 H locs  hW hS => ?_)
                  have hW : WW E (wK b E.2.1 tl pd qt qr tbu wst asw pN tN aN (hdC (r 3)) (r 4) (r 5) (r 6) (r 7) wx pp tp ap sg2_83 uh ud up ur us ux) G H := hW
                  refine lv_istore (pc := 86) (lv' := [(7, .int (bI (bzA r n f (nI i)))), (6, .int (nI i)), (5, .ref q2), (4, .ref q1), (0, .ref (b 0)), (1, .int (nI n)), (2, .int (nI k2)), (3, .int f)]) hx hb dX7_seamOrCrack_86 hl (by decide) rfl (fun ls hl => ?_)
                  refine lv_aload_n (pc := 88) hx hb dX7_seamOrCrack_88 rfl (lv_at hl 4 rfl) ?_
                  refine z_get (pc := 89) cx (hW.at 0 rfl) (C := RX7) (T := TX7) (N := 11) rfl i_X7 0 rfl m_fl_X7_10 rfl dX7_seamOrCrack_89 ?_
                  refine lv_aload (pc := 92) hx hb dX7_seamOrCrack_92 (lv_at hl 2 rfl) ?_
                  refine lv_aload_n (pc := 94) hx hb dX7_seamOrCrack_94 rfl (lv_at hl 4 rfl) ?_
                  refine z_get (pc := 95) cx (hW.at 0 rfl) (C := RX7) (T := TX7) (N := 11) rfl i_X7 0 rfl m_fl_X7_10 rfl dX7_seamOrCrack_95 ?_
                  refine z_get (pc := 98) cx (hW.at 6 rfl) (C := RX1) (T := TX1) (N := 8) rfl i_X1 3 rfl m_fl_X7_117 rfl dX7_seamOrCrack_98 ?_
                  refine lv_iload_n (pc := 101) hx hb dX7_seamOrCrack_101 rfl (lv_at hl 7 rfl) ?_
                  refine lv_iload (pc := 102) hx hb dX7_seamOrCrack_102 (lv_at hl 1 rfl) ?_
                  refine k_X1_isBuzzing (pc := 104) (q := q2) (t := b 7) (f := f) (st := nI i) (w := b 8) (xw := wx) (n := k2) cx hW hS (fun _ h => h) hI hpN hPc hk2 hf h2q2 (fun _ _ h => ⟨h.at 7 rfl, h.at 8 rfl, hwx⟩) m_ml_X7_190 ⟨Nat.le_of_ble_eq_true rfl, Nat.le_of_ble_eq_true rfl⟩ hl.1 rfl (by simp [Value.category]) dX7_seamOrCrack_104 ⟨Nat.le_refl _, Nat.le_refl _⟩ (fun sg2_104 H locs  hW hS => ?_)
                  have hW : WW E (wK b E.2.1 tl pd qt qr tbu wst asw pN tN aN (hdC (r 3)) (r 4) (r 5) (r 6) (r 7) wx pp tp ap sg2_104 uh ud up ur us ux) G H := hW
                  refine lv_istore (pc := 107) (lv' := [(8, .int (bI (bzA r k2 f (nI i)))), (7, .int (bI (bzA r n f (nI i)))), (6, .int (nI i)), (5, .ref q2), (4, .ref q1), (0, .ref (b 0)), (1, .int (nI n)), (2, .int (nI k2)), (3, .int f)]) hx hb dX7_seamOrCrack_107 hl (by decide) rfl (fun ls hl => ?_)
                  refine lv_iload (pc := 109) hx hb dX7_seamOrCrack_109 (lv_at hl 1 rfl) ?_
                  refine lv_iload (pc := 111) hx hb dX7_seamOrCrack_111 (lv_at hl 0 rfl) ?_
                  refine lv_icmp_eq (pc := 113) (tgt := 119) hx hb dX7_seamOrCrack_113 (by decide) (fun c_7 => ?_) (fun c_7 => ?_)
                  · skip
                    refine lv_iinc (pc := 119) (v := nI (i + 1)) (lv' := [(6, .int (nI (i + 1))), (8, .int (bI (bzA r k2 f (nI i)))), (7, .int (bI (bzA r n f (nI i)))), (5, .ref q2), (4, .ref q1), (0, .ref (b 0)), (1, .int (nI n)), (2, .int (nI k2)), (3, .int f)]) hx hb dX7_seamOrCrack_119 hl (k := 2) rfl (nI_1 _) (by decide) rfl (fun ls hl => ?_)
                    refine lv_goto (pc := 122) (tgt := 60) hx hb dX7_seamOrCrack_122 (by decide) ?_
                    exact ih_60 (i + 1) (nI (i + 1)) (by omega) (by omega) (by rw [he, fstN_miss (by have := bI_eq.mp c_7; simp [this]) (by omega)]; rfl) (by first | rfl | (simp [seamP, c_1, hNn, c_2, hNk2, c_3, c_4, c_5, c_7]; done)) _ _ _  (hW) hS ls (lv_sub hl [0, 3, 4, 5, 6, 7, 8] rfl)
                  · skip
                    refine lv_iload (pc := 116) hx hb dX7_seamOrCrack_116 (lv_at hl 2 rfl) ?_
                    exact z_wiret cx hr hlk dX7_seamOrCrack_118 hS ⟨_, (sI (by simp only [seamP, c_1, hNn, c_2, hNk2, c_3, c_4, c_5, c_7, not_false_eq_true, and_self, if_true, he]; rw [fstN_hit (by have := (not_congr bI_eq).mp c_7; simpa using this) (by omega)]; rfl)), hW⟩
            exact loop_60 ((100 - 1) + 1) 1 1 (Nat.lt_succ_self _) (by omega) rfl (by first | rfl | (simp [seamP, c_1, hNn, c_2, hNk2, c_3, c_4, c_5]; done)) sg _ _  (hW) hS ls (lv_sub hl [0, 1, 2, 3, 4, 5, 6] rfl)
          · skip
            refine lv_iconst (pc := 55) (v := (-1)) hx hb dX7_seamOrCrack_55 (by decide) ?_
            exact z_wiret cx hr hlk dX7_seamOrCrack_56 hS ⟨_, (sI (by first | rfl | (simp [seamP, c_1, hNn, c_2, hNk2, c_3, c_4, c_5]; done))), hW⟩
    · skip
      have h0k2 := Bool.eq_false_iff.mpr c_2
      refine k_X1_thingAt0 (pc := 15) (x := y) cx hW hC htN h0k2 m_ml_X7_133 ⟨Nat.le_of_ble_eq_true rfl, Nat.le_of_ble_eq_true rfl⟩ hl.1 rfl (by simp [Value.category]) dX7_seamOrCrack_15 ⟨Nat.le_refl _, Nat.le_refl _⟩ ?_
      refine lv_astoreN (pc := 18) (lv' := [(5, .null), (4, .ref q1), (0, .ref (b 0)), (1, .int (nI n)), (2, .int y), (3, .int f)]) hx hb dX7_seamOrCrack_18 hl (by decide) rfl (fun ls hl => ?_)
      refine lv_aload (pc := 20) hx hb dX7_seamOrCrack_20 (lv_at hl 1 rfl) ?_
      refine lv_ifnull (pc := 22) hx hb dX7_seamOrCrack_22 ?_
      refine lv_aloadN (pc := 25) hx hb dX7_seamOrCrack_25 (lv_at hl 0 rfl) ?_
      refine lv_ifnullN (pc := 27) (tgt := 55) hx hb dX7_seamOrCrack_27 (by decide) ?_
      refine lv_iconst (pc := 55) (v := (-1)) hx hb dX7_seamOrCrack_55 (by decide) ?_
      exact z_wiret cx hr hlk dX7_seamOrCrack_56 hS ⟨_, (sI (by first | rfl | (simp [seamP, c_1, hNn, c_2]; done))), hW⟩
  · skip
    have h0n := Bool.eq_false_iff.mpr c_1
    refine k_X1_thingAt0 (pc := 5) (x := x) cx hW hC htN h0n m_ml_X7_133 ⟨Nat.le_of_ble_eq_true rfl, Nat.le_of_ble_eq_true rfl⟩ hl.1 rfl (by simp [Value.category]) dX7_seamOrCrack_5 ⟨Nat.le_refl _, Nat.le_refl _⟩ ?_
    refine lv_astoreN (pc := 8) (lv' := [(4, .null), (0, .ref (b 0)), (1, .int x), (2, .int y), (3, .int f)]) hx hb dX7_seamOrCrack_8 hl (by decide) rfl (fun ls hl => ?_)
    refine lv_aload_n (pc := 10) hx hb dX7_seamOrCrack_10 rfl (lv_at hl 1 rfl) ?_
    refine z_get (pc := 11) cx (hW.at 0 rfl) (C := RX7) (T := TX7) (N := 11) rfl i_X7 0 rfl m_fl_X7_10 rfl dX7_seamOrCrack_11 ?_
    refine lv_iload_n (pc := 14) hx hb dX7_seamOrCrack_14 rfl (lv_at hl 3 rfl) ?_
    by_cases c_8 : isTh r y = true
    · skip
      obtain ⟨k2, hk2, rfl⟩ := th_nat hC c_8
      have hNk2 := iN_nI (n := k2) (by omega)
      obtain ⟨q2, h1q2, h2q2⟩ := hTh k2 hk2
      refine k_X1_thingAt (pc := 15) (n := k2) (q := q2) cx hW hC htN hk2 h1q2 m_ml_X7_133 ⟨Nat.le_of_ble_eq_true rfl, Nat.le_of_ble_eq_true rfl⟩ hl.1 rfl (by simp [Value.category]) dX7_seamOrCrack_15 ⟨Nat.le_refl _, Nat.le_refl _⟩ ?_
      refine lv_astore (pc := 18) (lv' := [(5, .ref q2), (4, .null), (0, .ref (b 0)), (1, .int x), (2, .int (nI k2)), (3, .int f)]) hx hb dX7_seamOrCrack_18 hl (by decide) rfl (fun ls hl => ?_)
      refine lv_aloadN (pc := 20) hx hb dX7_seamOrCrack_20 (lv_at hl 1 rfl) ?_
      refine lv_ifnullN (pc := 22) (tgt := 55) hx hb dX7_seamOrCrack_22 (by decide) ?_
      refine lv_iconst (pc := 55) (v := (-1)) hx hb dX7_seamOrCrack_55 (by decide) ?_
      exact z_wiret cx hr hlk dX7_seamOrCrack_56 hS ⟨_, (sI (by first | rfl | (simp [seamP, c_1, c_8, hNk2]; done))), hW⟩
    · skip
      have h0k2 := Bool.eq_false_iff.mpr c_8
      refine k_X1_thingAt0 (pc := 15) (x := y) cx hW hC htN h0k2 m_ml_X7_133 ⟨Nat.le_of_ble_eq_true rfl, Nat.le_of_ble_eq_true rfl⟩ hl.1 rfl (by simp [Value.category]) dX7_seamOrCrack_15 ⟨Nat.le_refl _, Nat.le_refl _⟩ ?_
      refine lv_astoreN (pc := 18) (lv' := [(5, .null), (4, .null), (0, .ref (b 0)), (1, .int x), (2, .int y), (3, .int f)]) hx hb dX7_seamOrCrack_18 hl (by decide) rfl (fun ls hl => ?_)
      refine lv_aloadN (pc := 20) hx hb dX7_seamOrCrack_20 (lv_at hl 1 rfl) ?_
      refine lv_ifnullN (pc := 22) (tgt := 55) hx hb dX7_seamOrCrack_22 (by decide) ?_
      refine lv_iconst (pc := 55) (v := (-1)) hx hb dX7_seamOrCrack_55 (by decide) ?_
      exact z_wiret cx hr hlk dX7_seamOrCrack_56 hS ⟨_, (sI (by first | rfl | (simp [seamP, c_1, c_8]; done))), hW⟩
theorem k_X7_seamOrCrack {p : Program} {l : Launch} {e : Env} {R : Room} {s : State} {m : MethodId} {args : Array Value} {below : List Frame} {meth : Method} {c : Code} {H H0 : Heap} {locs : List Loc} {cells slots : Nat} {Q : State → Prop} {cc : ByteArray} {pc index : Nat} {ls : Array Slot} {rest st0 : List Value} {E : zE} {own : String} {nL : Nat} {F : Nat → Prop} {b : Nat → Nat} {tl : va_W} {pd : Bool} {qt : Nat → Option Nat} {qr : Nat → Option Nat} {tbu : Nat → Int32} {wst : Nat → Int32} {asw : Nat → Int32} {pN : Int32} {tN : Int32} {aN : Int32} {wx : Nat → Int32} {pp : Nat → Option Nat} {tp : Nat → Option Nat} {ap : Nat → Option Nat} {sg : Nat → Int32} {uh : Int32} {ud : Int32} {up : Int32} {ur : Int32} {us : Int32} {ux : Nat → Int32} {G : zG} {x y f : Int32} {r : Nat → Int32} (cx : Cx E p s args m c own cc nL) (hW : WW E (wK b E.2.1 tl pd qt qr tbu wst asw pN tN aN (hdC (r 3)) (r 4) (r 5) (r 6) (r 7) wx pp tp ap sg uh ud up ur us ux) G H) (hS : va_S F H0 H locs) (zF : ∀ q, (bF b) q → F q) (hG : CG E.2.1 G r pN tN aN wx pp tp ap) (zl : Cond.methodLink own index yX7_seamOrCrack ∈ AllW) (zR : 5 + 1 ≤ R.frames ∧ 8 + (9 + 11) + 119 ≤ R.locals) (zs : ls.size = nL) (zt : st0 = ([.int x, .int y, .int f] : List Value).reverse ++ .ref (b 0) :: rest) (z8 : (rest.map fun v => v.category).sum ≤ 8) (zd : decode cc pc = .ok (.invokevirtual index, 3)) (zf : cells ≤ R.cells ∧ slots ≤ R.slots) (kk0 : ∀ (sg2 : Nat → Int32) (H1 : Heap) (locs1 : List Loc), WW E (wK b E.2.1 tl pd qt qr tbu wst asw pN tN aN (hdC (r 3)) (r 4) (r 5) (r 6) (r 7) wx pp tp ap sg2 uh ud up ur us ux) G H1 → va_S F H0 H1 locs1 → W p l e R s m args below meth c H1 locs1 cells slots Q (F0 m (pc + 3) ls (.int (seamP r x y f) :: rest))) : W p l e R s m args below meth c H locs cells slots Q (F0 m pc ls st0) := by
  refine z_callVw cx vm_X7_seamOrCrack (c_X7_seamOrCrack l E b tl pd qt qr tbu wst asw pN tN aN wx pp tp ap sg uh ud up ur us ux G x y f r hG) (z_rec cx.2 (hW.at 0 rfl) rfl) hW hS zF zl ⟨rfl, rfl⟩ zR rfl zs zt z8 zd zf (fun v H1 locs1 hq hS1 _ => ?_)
  rcases hq with ⟨sg2, rfl, hW1⟩
  · exact kk0 sg2 H1 locs1  hW1 hS1
theorem vm_X7_judge : zVm yX7_judge cX7_judge 8 (some FieldType.int) 3 := ⟨m_co_X7_judge, m_in_RX7, ⟨m_im_X7_judge, m_se_X7_X7_judge⟩, by decide +kernel, by decide +kernel, by decide +kernel⟩
set_option maxHeartbeats 1000000 in
set_option maxRecDepth 100000 in
theorem c_X7_judge (l : Launch) (E : zE) (b : Nat → Nat) (tl : va_W) (pd : Bool) (qt : Nat → Option Nat) (qr : Nat → Option Nat) (tbu : Nat → Int32) (wst : Nat → Int32) (asw : Nat → Int32) (pN : Int32) (tN : Int32) (aN : Int32) (wx : Nat → Int32) (pp : Nat → Option Nat) (tp : Nat → Option Nat) (ap : Nat → Option Nat) (sg : Nat → Int32) (uh : Int32) (ud : Int32) (up : Int32) (ur : Int32) (us : Int32) (ux : Nat → Int32) (G : zG) (x st d : Int32) (r : Nat → Int32) (kp so sz el pr ts : Nat → Int32) (hG : CG E.2.1 G r pN tN aN wx pp tp ap) (hSh : ShG E.2.1 G qt qr kp so sz el pr ts) : Met l yX7_judge (.code yX7_judge cX7_judge 8 (some FieldType.int) :: AllW) (rm0' 3 71) (zP E (fun H => WW E (wK b E.2.1 tl pd qt qr tbu wst asw pN tN aN (hdC (r 3)) (r 4) (r 5) (r 6) (r 7) wx pp tp ap sg uh ud up ur us ux) G H) [.ref (b 0), .int x, .int st, .int d]) (zQ (fun (_ : Heap) (v : Option Value) (H1 : Heap) => (∃ (sg2 : Nat → Int32), v = some (.int (judgeP r kp so sz el x st d)) ∧ WW E (wK b E.2.1 tl pd qt qr tbu wst asw pN tN aN (hdC (r 3)) (r 4) (r 5) (r 6) (r 7) wx pp tp ap sg2 uh ud up ur us ux) G H1)) (bF b)) 0 0 (bF b) := by
  refine z_body (own := RX7) (by decide) rfl rfl ?_
  intro p e s m args below meth c ls cx hr hlk hnm hW hl
  have hx := cx.x
  have hb := cx.b
  have hl : lv_has ls 8 [(0, .ref (b 0)), (1, .int x), (2, .int st), (3, .int d)] := hl
  have hFb : ∀ k, (bF b) (b k) := fun k => bF_in b k
  have hS : va_S (bF b) s.heap s.heap [] := va_S.rf
  have hG0 := hG
  obtain ⟨hI, hpN, htN, haN, hPc, hTh, hAk, hwx⟩ := hG
  have hC := hI.1
  have hIS := hI.2.1
  have hP := hI.2.2.1
  have hT := hI.2.2.2.1
  have hP10 := (Inv.n0 hC).2
  have hT7 := (Inv.n1 hC).2
  have hA24 := (Inv.n2 hC).2
  have e0 := (Inv.n0 hC).1
  have e1 := (Inv.n1 hC).1
  have e2 := (Inv.n2 hC).1
  refine lv_aload_n (pc := 0) hx hb dX7_judge_0 rfl (lv_at hl 0 rfl) ?_
  refine z_get (pc := 1) cx (hW.at 0 rfl) (C := RX7) (T := TX7) (N := 11) rfl i_X7 0 rfl m_fl_X7_10 rfl dX7_judge_1 ?_
  refine lv_iload_n (pc := 4) hx hb dX7_judge_4 rfl (lv_at hl 1 rfl) ?_
  refine k_X1_isPiece (pc := 5) (x := x) cx hW (by first | assumption | omega) (by first | assumption | omega) m_ml_X7_155 ⟨Nat.le_of_ble_eq_true rfl, Nat.le_of_ble_eq_true rfl⟩ hl.1 rfl (by simp [Value.category]) dX7_judge_5 ⟨Nat.le_refl _, Nat.le_refl _⟩ ?_
  refine z_ifeq (pc := 8) (tgt := 18) hx hb dX7_judge_8 (by decide) (fun c_1 => ?_) (fun c_1 => ?_)
  · skip
    refine lv_iconst (pc := 18) (v := (-1)) hx hb dX7_judge_18 (by decide) ?_
    exact z_wiret cx hr hlk dX7_judge_19 hS ⟨_, (sI (by first | rfl | (simp [judgeP, c_1]; done))), hW⟩
  · skip
    obtain ⟨n, hn, rfl⟩ := pc_nat hC c_1
    have hN := iN_nI (n := n) (by omega)
    refine lv_iload_n (pc := 11) hx hb dX7_judge_11 rfl (lv_at hl 2 rfl) ?_
    refine k_X7_isStrong (pc := 12) (x := st) cx  m_ml_X7_197 ⟨Nat.le_of_ble_eq_true rfl, Nat.le_of_ble_eq_true rfl⟩ hl.1 rfl (by simp [Value.category]) dX7_judge_12 ⟨Nat.le_refl _, Nat.le_refl _⟩ ?_
    refine z_ifne (pc := 15) (tgt := 20) hx hb dX7_judge_15 (by decide) (fun c_2 => ?_) (fun c_2 => ?_)
    · skip
      refine lv_aload_n (pc := 20) hx hb dX7_judge_20 rfl (lv_at hl 0 rfl) ?_
      refine lv_iload_n (pc := 21) hx hb dX7_judge_21 rfl (lv_at hl 3 rfl) ?_
      refine k_X7_rowRefusal (pc := 22) (d := d) cx hW (by first | assumption | omega) m_ml_X7_58 ⟨Nat.le_of_ble_eq_true rfl, Nat.le_of_ble_eq_true rfl⟩ hl.1 rfl (by simp [Value.category]) dX7_judge_22 ⟨Nat.le_refl _, Nat.le_refl _⟩ ?_
      refine lv_istore (pc := 25) (lv' := [(4, .int (wrR kp so d (-1))), (0, .ref (b 0)), (1, .int (nI n)), (2, .int st), (3, .int d)]) hx hb dX7_judge_25 hl (by decide) rfl (fun ls hl => ?_)
      refine lv_iload (pc := 27) hx hb dX7_judge_27 (lv_at hl 0 rfl) ?_
      refine lv_if_eq (pc := 29) (tgt := 35) hx hb dX7_judge_29 (by decide) (fun c_3 => ?_) (fun c_3 => ?_)
      · skip
        have hd7 := (wrR_0 c_3).1
        obtain ⟨k, hk, rfl, hk1, ht1, q1, w1, x1, hr1, hq1, hw1, hx1⟩ := row_get hSh c_3
        have hN1 := iN_nI (n := k) (by omega)
        have hz1 := sz_nat hSh.1 hk
        have hzl1 := hz1.2
        refine lv_aload_n (pc := 35) hx hb dX7_judge_35 rfl (lv_at hl 1 rfl) ?_
        refine z_get (pc := 36) cx (hW.at 0 rfl) (C := RX7) (T := TX7) (N := 11) rfl i_X7 7 rfl m_fl_X7_44 rfl dX7_judge_36 ?_
        refine lv_iload_n (pc := 39) hx hb dX7_judge_39 rfl (lv_at hl 4 rfl) ?_
        refine z_aald (pc := 40) (f := qr) (j := k) cx 4 rfl (hW.at 2 rfl) rfl (by omega) (by decide) dX7_judge_40 ?_
        refine z_rfS hr1 ?_
        refine lv_astore (pc := 41) (lv' := [(5, .ref q1), (4, .int (wrR kp so (nI k) (-1))), (0, .ref (b 0)), (1, .int (nI n)), (2, .int st), (3, .int (nI k))]) hx hb dX7_judge_41 hl (by decide) rfl (fun ls hl => ?_)
        refine lv_iconst (pc := 43) (v := 0) hx hb dX7_judge_43 (by decide) ?_
        refine lv_istore (pc := 44) (lv' := [(6, .int 0), (5, .ref q1), (4, .int (wrR kp so (nI k) (-1))), (0, .ref (b 0)), (1, .int (nI n)), (2, .int st), (3, .int (nI k))]) hx hb dX7_judge_44 hl (by decide) rfl (fun ls hl => ?_)
        have loop_46 : ∀ (k_46 : Nat) (i : Nat) (x6 : Int32), (iN (sz k) - i) < k_46 → (i ≤ iN (sz k)) → (fstN (fun i => decide (¬ el (100 * k + i) = loS so k) && decide (¬ el (100 * k + i) = sw r n (10 * (nI i + 1)) st)) (iN (sz k)) 0 = fstN (fun i => decide (¬ el (100 * k + i) = loS so k) && decide (¬ el (100 * k + i) = sw r n (10 * (nI i + 1)) st)) (iN (sz k) - i) i) → x6 = nI i → ∀ (sg2 : Nat → Int32) (H : Heap) (locs : List Loc), WW E (wK b E.2.1 tl pd qt qr tbu wst asw pN tN aN (hdC (r 3)) (r 4) (r 5) (r 6) (r 7) wx pp tp ap sg2 uh ud up ur us ux) G H → va_S (bF b) s.heap H locs → ∀ (ls : Array Slot), lv_has ls 8 [(6, .int x6), (5, .ref q1), (4, .int (wrR kp so (nI k) (-1))), (0, .ref (b 0)), (1, .int (nI n)), (2, .int st), (3, .int (nI k))] → W p l e (rm0' (3) (71)) s m args below meth c H locs 0 0 (MQ below (zQ (fun (_ : Heap) (v : Option Value) (H1 : Heap) => (∃ (sg2 : Nat → Int32), v = some (.int (judgeP r kp so sz el (nI n) st (nI k))) ∧ WW E (wK b E.2.1 tl pd qt qr tbu wst asw pN tN aN (hdC (r 3)) (r 4) (r 5) (r 6) (r 7) wx pp tp ap sg2 uh ud up ur us ux) G H1)) (bF b)) args s 0 0 (bF b)) (F0 m 46 ls []) := by
          intro k_46
          induction k_46 with
          | zero =>
            intro i x6 hm
            exact absurd hm (Nat.not_lt_zero _)
          | succ k_46 ih_46 =>
            intro i x6 hm_46 hi he e_x6 sg2 H locs  hW hS ls hl
            subst e_x6
            refine lv_iload (pc := 46) hx hb dX7_judge_46 (lv_at hl 0 rfl) ?_
            refine lv_aload (pc := 48) hx hb dX7_judge_48 (lv_at hl 1 rfl) ?_
            refine k_X4_size (pc := 50)  cx ⟨hW.dyn hq1, hW.dyn hw1⟩  m_ml_X7_253 ⟨Nat.le_of_ble_eq_true rfl, Nat.le_of_ble_eq_true rfl⟩ hl.1 rfl (by simp [Value.category]) dX7_judge_50 ⟨Nat.le_refl _, Nat.le_refl _⟩ ?_
            refine lv_icmp_ge (pc := 53) (tgt := 113) hx hb dX7_judge_53 (by decide) (fun c_4 => ?_) (fun c_4 => ?_)
            · skip
              obtain rfl : i = iN (sz k) := by have := ge_nat (a := i) (b := iN (sz k)) rfl rfl (by omega) (by omega) c_4; omega
              refine lv_bipush (pc := 113) (v := (-4)) hx hb dX7_judge_113 (by decide) ?_
              exact z_wiret cx hr hlk dX7_judge_115 hS ⟨_, (sI (by simp only [judgeP, c_1, hN, c_2, c_3, hd7, hN1, hk1, and_self, if_true, he]; rw [Nat.sub_self]; rfl)), hW⟩
            · skip
              have hlt_i := lt_nat (a := i) (b := iN (sz k)) rfl rfl (by omega) (by omega) c_4
              refine lv_aload (pc := 56) hx hb dX7_judge_56 (lv_at hl 1 rfl) ?_
              refine lv_iload (pc := 58) hx hb dX7_judge_58 (lv_at hl 0 rfl) ?_
              refine k_X4_valueAt (pc := 60) (n := i) cx ⟨hW.dyn hq1, hW.dyn hw1⟩ hzl1 hlt_i m_ml_X7_256 ⟨Nat.le_of_ble_eq_true rfl, Nat.le_of_ble_eq_true rfl⟩ hl.1 rfl (by simp [Value.category]) dX7_judge_60 ⟨Nat.le_refl _, Nat.le_refl _⟩ ?_
              refine z_tope (y := el (100 * k + i)) (hx1 i hlt_i) ?_
              refine lv_istore (pc := 63) (lv' := [(7, .int (el (100 * k + i))), (6, .int (nI i)), (5, .ref q1), (4, .int (wrR kp so (nI k) (-1))), (0, .ref (b 0)), (1, .int (nI n)), (2, .int st), (3, .int (nI k))]) hx hb dX7_judge_63 hl (by decide) rfl (fun ls hl => ?_)
              refine lv_iload (pc := 65) hx hb dX7_judge_65 (lv_at hl 0 rfl) ?_
              refine lv_aload (pc := 67) hx hb dX7_judge_67 (lv_at hl 2 rfl) ?_
              refine k_X4_leastNumber (pc := 69)  cx (hW.dyn hq1)  m_ml_X7_331 ⟨Nat.le_of_ble_eq_true rfl, Nat.le_of_ble_eq_true rfl⟩ hl.1 rfl (by simp [Value.category]) dX7_judge_69 ⟨Nat.le_refl _, Nat.le_refl _⟩ ?_
              refine z_tope (y := loS so k) rfl ?_
              refine lv_icmp_eq (pc := 72) (tgt := 107) hx hb dX7_judge_72 (by decide) (fun c_5 => ?_) (fun c_5 => ?_)
              · skip
                refine lv_iinc (pc := 107) (v := nI (i + 1)) (lv' := [(6, .int (nI (i + 1))), (7, .int (el (100 * k + i))), (5, .ref q1), (4, .int (wrR kp so (nI k) (-1))), (0, .ref (b 0)), (1, .int (nI n)), (2, .int st), (3, .int (nI k))]) hx hb dX7_judge_107 hl (k := 1) rfl (nI_1 _) (by decide) rfl (fun ls hl => ?_)
                refine lv_goto (pc := 110) (tgt := 46) hx hb dX7_judge_110 (by decide) ?_
                exact ih_46 (i + 1) (nI (i + 1)) (by omega) (by omega) (by rw [he, fstN_miss (by simp [c_1, hN, c_2, c_3, hd7, hN1, hk1, c_5]) (by omega)]; rfl) (by first | rfl | (simp [judgeP, c_1, hN, c_2, c_3, hd7, hN1, hk1, c_5]; done)) _ _ _  (hW) hS ls (lv_sub hl [0, 2, 3, 4, 5, 6, 7] rfl)
              · skip
                refine lv_iload (pc := 75) hx hb dX7_judge_75 (lv_at hl 0 rfl) ?_
                refine lv_aload_n (pc := 77) hx hb dX7_judge_77 rfl (lv_at hl 4 rfl) ?_
                refine z_get (pc := 78) cx (hW.at 0 rfl) (C := RX7) (T := TX7) (N := 11) rfl i_X7 0 rfl m_fl_X7_10 rfl dX7_judge_78 ?_
                refine lv_iload_n (pc := 81) hx hb dX7_judge_81 rfl (lv_at hl 5 rfl) ?_
                refine lv_aload_n (pc := 82) hx hb dX7_judge_82 rfl (lv_at hl 4 rfl) ?_
                refine z_get (pc := 83) cx (hW.at 0 rfl) (C := RX7) (T := TX7) (N := 11) rfl i_X7 0 rfl m_fl_X7_10 rfl dX7_judge_83 ?_
                refine z_get (pc := 86) cx (hW.at 6 rfl) (C := RX1) (T := TX1) (N := 8) rfl i_X1 3 rfl m_fl_X7_117 rfl dX7_judge_86 ?_
                refine lv_bipush (pc := 89) (v := 10) hx hb dX7_judge_89 (by decide) ?_
                refine lv_iload (pc := 91) hx hb dX7_judge_91 (lv_at hl 1 rfl) ?_
                refine lv_imul (pc := 93) hx hb dX7_judge_93 ?_
                refine lv_bipush (pc := 94) (v := 10) hx hb dX7_judge_94 (by decide) ?_
                refine lv_iadd (pc := 96) hx hb dX7_judge_96 ?_
                refine z_tope (y := 10 * (nI i + 1)) (ten_i i) ?_
                refine lv_iload_n (pc := 97) hx hb dX7_judge_97 rfl (lv_at hl 6 rfl) ?_
                refine k_X1_swingOf (pc := 98) (n := n) (t := b 7) (f := 10 * (nI i + 1)) (st := st) (w := b 8) (xw := wx) cx hW hS (fun _ h => h) hI hpN hPc hn (tone_i i (by omega)) (fun _ _ h => ⟨h.at 7 rfl, h.at 8 rfl, hwx⟩) m_ml_X7_178 ⟨Nat.le_of_ble_eq_true rfl, Nat.le_of_ble_eq_true rfl⟩ hl.1 rfl (by simp [Value.category]) dX7_judge_98 ⟨Nat.le_refl _, Nat.le_refl _⟩ (fun sg2 H locs hf2 hW hS => ?_)
                have hW : WW E (wK b E.2.1 tl pd qt qr tbu wst asw pN tN aN (hdC (r 3)) (r 4) (r 5) (r 6) (r 7) wx pp tp ap sg2 uh ud up ur us ux) G H := hW
                refine lv_icmp_eq (pc := 101) (tgt := 107) hx hb dX7_judge_101 (by decide) (fun c_6 => ?_) (fun c_6 => ?_)
                · skip
                  refine lv_iinc (pc := 107) (v := nI (i + 1)) (lv' := [(6, .int (nI (i + 1))), (7, .int (el (100 * k + i))), (5, .ref q1), (4, .int (wrR kp so (nI k) (-1))), (0, .ref (b 0)), (1, .int (nI n)), (2, .int st), (3, .int (nI k))]) hx hb dX7_judge_107 hl (k := 1) rfl (nI_1 _) (by decide) rfl (fun ls hl => ?_)
                  refine lv_goto (pc := 110) (tgt := 46) hx hb dX7_judge_110 (by decide) ?_
                  exact ih_46 (i + 1) (nI (i + 1)) (by omega) (by omega) (by rw [he, fstN_miss (by simp [c_1, hN, c_2, c_3, hd7, hN1, hk1, c_5, c_6]) (by omega)]; rfl) (by first | rfl | (simp [judgeP, c_1, hN, c_2, c_3, hd7, hN1, hk1, c_5, c_6]; done)) _ _ _  (hW) hS ls (lv_sub hl [0, 2, 3, 4, 5, 6, 7] rfl)
                · skip
                  refine lv_iload (pc := 104) hx hb dX7_judge_104 (lv_at hl 1 rfl) ?_
                  exact z_wiret cx hr hlk dX7_judge_106 hS ⟨_, (sI (by simp only [judgeP, c_1, hN, c_2, c_3, hd7, hN1, hk1, c_5, c_6, and_self, if_true, he]; rw [fstN_hit (by simp [c_1, hN, c_2, c_3, hd7, hN1, hk1, c_5, c_6]) (by omega)]; rfl)), hW⟩
        exact loop_46 ((iN (sz k) - 0) + 1) 0 0 (Nat.lt_succ_self _) (by omega) rfl (by first | rfl | (simp [judgeP, c_1, hN, c_2, c_3, hd7, hN1, hk1]; done)) sg _ _  (hW) hS ls (lv_sub hl [0, 1, 2, 3, 4, 5, 6] rfl)
      · skip
        have hwd := judge_w (kp := kp) (so := so) (d := d) c_3
        refine lv_iload (pc := 32) hx hb dX7_judge_32 (lv_at hl 0 rfl) ?_
        exact z_wiret cx hr hlk dX7_judge_34 hS ⟨_, (sI (by unfold judgeP; cases h7 : inL d 0 7 <;> simp [c_1, hN, c_2, c_3, h7] <;> exact wrR_m1.mpr h7)), hW⟩
    · skip
      refine lv_iconst (pc := 18) (v := (-1)) hx hb dX7_judge_18 (by decide) ?_
      exact z_wiret cx hr hlk dX7_judge_19 hS ⟨_, (sI (by first | rfl | (simp [judgeP, c_1, hN, c_2]; done))), hW⟩
theorem k_X7_judge {p : Program} {l : Launch} {e : Env} {R : Room} {s : State} {m : MethodId} {args : Array Value} {below : List Frame} {meth : Method} {c : Code} {H H0 : Heap} {locs : List Loc} {cells slots : Nat} {Q : State → Prop} {cc : ByteArray} {pc index : Nat} {ls : Array Slot} {rest st0 : List Value} {E : zE} {own : String} {nL : Nat} {F : Nat → Prop} {b : Nat → Nat} {tl : va_W} {pd : Bool} {qt : Nat → Option Nat} {qr : Nat → Option Nat} {tbu : Nat → Int32} {wst : Nat → Int32} {asw : Nat → Int32} {pN : Int32} {tN : Int32} {aN : Int32} {wx : Nat → Int32} {pp : Nat → Option Nat} {tp : Nat → Option Nat} {ap : Nat → Option Nat} {sg : Nat → Int32} {uh : Int32} {ud : Int32} {up : Int32} {ur : Int32} {us : Int32} {ux : Nat → Int32} {G : zG} {x st d : Int32} {r : Nat → Int32} {kp so sz el pr ts : Nat → Int32} (cx : Cx E p s args m c own cc nL) (hW : WW E (wK b E.2.1 tl pd qt qr tbu wst asw pN tN aN (hdC (r 3)) (r 4) (r 5) (r 6) (r 7) wx pp tp ap sg uh ud up ur us ux) G H) (hS : va_S F H0 H locs) (zF : ∀ q, (bF b) q → F q) (hG : CG E.2.1 G r pN tN aN wx pp tp ap) (hSh : ShG E.2.1 G qt qr kp so sz el pr ts) (zl : Cond.methodLink own index yX7_judge ∈ AllW) (zR : 3 + 1 ≤ R.frames ∧ 8 + (8 + 11) + 71 ≤ R.locals) (zs : ls.size = nL) (zt : st0 = ([.int x, .int st, .int d] : List Value).reverse ++ .ref (b 0) :: rest) (z8 : (rest.map fun v => v.category).sum ≤ 8) (zd : decode cc pc = .ok (.invokevirtual index, 3)) (zf : cells ≤ R.cells ∧ slots ≤ R.slots) (kk0 : ∀ (sg2 : Nat → Int32) (H1 : Heap) (locs1 : List Loc), WW E (wK b E.2.1 tl pd qt qr tbu wst asw pN tN aN (hdC (r 3)) (r 4) (r 5) (r 6) (r 7) wx pp tp ap sg2 uh ud up ur us ux) G H1 → va_S F H0 H1 locs1 → W p l e R s m args below meth c H1 locs1 cells slots Q (F0 m (pc + 3) ls (.int (judgeP r kp so sz el x st d) :: rest))) : W p l e R s m args below meth c H locs cells slots Q (F0 m pc ls st0) := by
  refine z_callVw cx vm_X7_judge (c_X7_judge l E b tl pd qt qr tbu wst asw pN tN aN wx pp tp ap sg uh ud up ur us ux G x st d r kp so sz el pr ts hG hSh) (z_rec cx.2 (hW.at 0 rfl) rfl) hW hS zF zl ⟨rfl, rfl⟩ zR rfl zs zt z8 zd zf (fun v H1 locs1 hq hS1 _ => ?_)
  rcases hq with ⟨sg2, rfl, hW1⟩
  · exact kk0 sg2 H1 locs1  hW1 hS1
theorem vm_X7_lives : zVm yX7_lives cX7_lives 8 (some FieldType.int) 3 := ⟨m_co_X7_lives, m_in_RX7, ⟨m_im_X7_lives, m_se_X7_X7_lives⟩, by decide +kernel, by decide +kernel, by decide +kernel⟩
set_option maxHeartbeats 1000000 in
set_option maxRecDepth 100000 in
theorem c_X7_lives (l : Launch) (E : zE) (b : Nat → Nat) (tl : va_W) (pd : Bool) (qt : Nat → Option Nat) (qr : Nat → Option Nat) (tbu : Nat → Int32) (wst : Nat → Int32) (asw : Nat → Int32) (pN : Int32) (tN : Int32) (aN : Int32) (wx : Nat → Int32) (pp : Nat → Option Nat) (tp : Nat → Option Nat) (ap : Nat → Option Nat) (sg : Nat → Int32) (uh : Int32) (ud : Int32) (up : Int32) (ur : Int32) (us : Int32) (ux : Nat → Int32) (G : zG) (w sh mm : Int32) (r : Nat → Int32) (hG : CG E.2.1 G r pN tN aN wx pp tp ap) : Met l yX7_lives (.code yX7_lives cX7_lives 8 (some FieldType.int) :: AllW) (rm0' 4 88) (zP E (fun H => WW E (wK b E.2.1 tl pd qt qr tbu wst asw pN tN aN (hdC (r 3)) (r 4) (r 5) (r 6) (r 7) wx pp tp ap sg uh ud up ur us ux) G H) [.ref (b 0), .int w, .int sh, .int mm]) (rQ (.int (livesP r w sh mm))) 0 0 nF := by
  refine z_body (own := RX7) (by decide) rfl rfl ?_
  intro p e s m args below meth c ls cx hr hlk hnm hW hl
  have hx := cx.x
  have hb := cx.b
  have hl : lv_has ls 8 [(0, .ref (b 0)), (1, .int w), (2, .int sh), (3, .int mm)] := hl
  have hG0 := hG
  obtain ⟨hI, hpN, htN, haN, hPc, hTh, hAk, hwx⟩ := hG
  have hC := hI.1
  have hIS := hI.2.1
  have hP := hI.2.2.1
  have hT := hI.2.2.2.1
  have hP10 := (Inv.n0 hC).2
  have hT7 := (Inv.n1 hC).2
  have hA24 := (Inv.n2 hC).2
  have e0 := (Inv.n0 hC).1
  have e1 := (Inv.n1 hC).1
  have e2 := (Inv.n2 hC).1
  refine lv_iload_n (pc := 0) hx hb dX7_lives_0 rfl (lv_at hl 1 rfl) ?_
  refine lv_iconst (pc := 1) (v := 0) hx hb dX7_lives_1 (by decide) ?_
  refine lv_bipush (pc := 2) (v := 20) hx hb dX7_lives_2 (by decide) ?_
  refine k_X7_isWithin (pc := 4) (x := w) (y := 0) (z := 20) cx  m_ml_X7_159 ⟨Nat.le_of_ble_eq_true rfl, Nat.le_of_ble_eq_true rfl⟩ hl.1 rfl (by simp [Value.category]) dX7_lives_4 ⟨Nat.le_refl _, Nat.le_refl _⟩ ?_
  refine z_ifeq (pc := 7) (tgt := 20) hx hb dX7_lives_7 (by decide) (fun c_1 => ?_) (fun c_1 => ?_)
  · skip
    refine lv_iconst (pc := 20) (v := (-1)) hx hb dX7_lives_20 (by decide) ?_
    exact z_iret cx hr hlk dX7_lives_21 (by first | rfl | (simp [livesP, orN, c_1]; done))
  · skip
    have hw2 := inL_rg c_1
    refine lv_iload_n (pc := 10) hx hb dX7_lives_10 rfl (lv_at hl 3 rfl) ?_
    refine lv_iconst (pc := 11) (v := 0) hx hb dX7_lives_11 (by decide) ?_
    refine lv_bipush (pc := 12) (v := 99) hx hb dX7_lives_12 (by decide) ?_
    refine k_X7_isWithin (pc := 14) (x := mm) (y := 0) (z := 99) cx  m_ml_X7_159 ⟨Nat.le_of_ble_eq_true rfl, Nat.le_of_ble_eq_true rfl⟩ hl.1 rfl (by simp [Value.category]) dX7_lives_14 ⟨Nat.le_refl _, Nat.le_refl _⟩ ?_
    refine z_ifne (pc := 17) (tgt := 22) hx hb dX7_lives_17 (by decide) (fun c_2 => ?_) (fun c_2 => ?_)
    · skip
      have hm2 := inL_rg c_2
      refine lv_iconst (pc := 22) (v := 0) hx hb dX7_lives_22 (by decide) ?_
      refine lv_istore (pc := 23) (lv' := [(4, .int 0), (0, .ref (b 0)), (1, .int w), (2, .int sh), (3, .int mm)]) hx hb dX7_lives_23 hl (by decide) rfl (fun ls hl => ?_)
      refine lv_iconst (pc := 25) (v := 0) hx hb dX7_lives_25 (by decide) ?_
      refine lv_istore (pc := 26) (lv' := [(5, .int 0), (4, .int 0), (0, .ref (b 0)), (1, .int w), (2, .int sh), (3, .int mm)]) hx hb dX7_lives_26 hl (by decide) rfl (fun ls hl => ?_)
      have loop_28 : ∀ (k_28 : Nat) (i : Nat) (x5 : Int32) (x4 : Int32), (nP r - i) < k_28 → (i ≤ nP r) → x5 = nI i → x4 = orN (fun n => if lvB r w sh mm n = true then 1 <<< (nI n &&& 31) else 0) i → ∀ (ls : Array Slot), lv_has ls 8 [(5, .int x5), (4, .int x4), (0, .ref (b 0)), (1, .int w), (2, .int sh), (3, .int mm)] → W p l e (rm0' (4) (88)) s m args below meth c s.heap [] 0 0 (MQ below (rQ (.int (livesP r w sh mm))) args s 0 0 nF) (F0 m 28 ls []) := by
        intro k_28
        induction k_28 with
        | zero =>
          intro i x5 x4 hm
          exact absurd hm (Nat.not_lt_zero _)
        | succ k_28 ih_28 =>
          intro i x5 x4 hm_28 hi e_x5 e_x4  ls hl
          subst e_x5
          subst e_x4
          refine lv_iload (pc := 28) hx hb dX7_lives_28 (lv_at hl 0 rfl) ?_
          refine lv_aload_n (pc := 30) hx hb dX7_lives_30 rfl (lv_at hl 2 rfl) ?_
          refine z_get (pc := 31) cx (hW.at 0 rfl) (C := RX7) (T := TX7) (N := 11) rfl i_X7 0 rfl m_fl_X7_10 rfl dX7_lives_31 ?_
          refine z_get (pc := 34) cx (hW.at 6 rfl) (C := RX1) (T := TX1) (N := 8) rfl i_X1 0 rfl m_fl_X7_262 rfl dX7_lives_34 ?_
          refine lv_icmp_ge (pc := 37) (tgt := 101) hx hb dX7_lives_37 (by decide) (fun c_3 => ?_) (fun c_3 => ?_)
          · skip
            obtain rfl : i = nP r := by have := ge_nat (a := i) rfl hpN (by omega) (by omega) c_3; omega
            refine lv_iload (pc := 101) hx hb dX7_lives_101 (lv_at hl 1 rfl) ?_
            exact z_iret cx hr hlk dX7_lives_103 (by first | rfl | (simp [livesP, orN, c_1, c_2, lvB_C hm2]; done))
          · skip
            have hlt_i := lt_nat (a := i) rfl hpN (by omega) (by omega) c_3
            refine lv_aload_n (pc := 40) hx hb dX7_lives_40 rfl (lv_at hl 2 rfl) ?_
            refine z_get (pc := 41) cx (hW.at 0 rfl) (C := RX7) (T := TX7) (N := 11) rfl i_X7 0 rfl m_fl_X7_10 rfl dX7_lives_41 ?_
            refine lv_iload (pc := 44) hx hb dX7_lives_44 (lv_at hl 0 rfl) ?_
            refine lv_iload_n (pc := 46) hx hb dX7_lives_46 rfl (lv_at hl 3 rfl) ?_
            refine k_X1_shiftBy (pc := 47) (n := i) (x := w) (r := r) cx hW hI hpN hPc hlt_i hw2 hwx m_ml_X7_259 ⟨Nat.le_of_ble_eq_true rfl, Nat.le_of_ble_eq_true rfl⟩ hl.1 rfl (by simp [Value.category]) dX7_lives_47 ⟨Nat.le_refl _, Nat.le_refl _⟩ ?_
            refine lv_i2l (pc := 50) (v := Int32.toInt64 (shO r i w)) hx hb dX7_lives_50 rfl ?_
            refine lv_iload_n (pc := 51) hx hb dX7_lives_51 rfl (lv_at hl 4 rfl) ?_
            refine lv_i2l (pc := 52) (v := Int32.toInt64 sh) hx hb dX7_lives_52 rfl ?_
            refine lv_lsub (pc := 53) hx hb dX7_lives_53 ?_
            refine z_mabl (pc := 54) cx hl.1 m_ml_X7_265 ⟨Nat.le_of_ble_eq_true rfl, Nat.le_of_ble_eq_true rfl⟩ (by simp [Value.category]) ⟨Nat.le_refl _, Nat.le_refl _⟩ dX7_lives_54 ?_
            refine lv_lstore (pc := 57) (lv' := [(6, .long (amL ((Int32.toInt64 (shO r i w)) - (Int32.toInt64 sh)))), (5, .int (nI i)), (4, .int (orN (fun n => if lvB r w sh mm n = true then 1 <<< (nI n &&& 31) else 0) i)), (0, .ref (b 0)), (1, .int w), (2, .int sh), (3, .int mm)]) hx hb dX7_lives_57 hl (by decide) rfl (fun ls hl => ?_)
            refine lv_aload_n (pc := 59) hx hb dX7_lives_59 rfl (lv_at hl 3 rfl) ?_
            refine z_get (pc := 60) cx (hW.at 0 rfl) (C := RX7) (T := TX7) (N := 11) rfl i_X7 0 rfl m_fl_X7_10 rfl dX7_lives_60 ?_
            refine z_get (pc := 63) cx (hW.at 6 rfl) (C := RX1) (T := TX1) (N := 8) rfl i_X1 3 rfl m_fl_X7_117 rfl dX7_lives_63 ?_
            refine lv_iload (pc := 66) hx hb dX7_lives_66 (lv_at hl 1 rfl) ?_
            refine k_X5_waxOn (pc := 68) (n := i) cx ⟨hW.at 7 rfl, hW.at 8 rfl⟩ (by first | assumption | omega) m_ml_X7_120 ⟨Nat.le_of_ble_eq_true rfl, Nat.le_of_ble_eq_true rfl⟩ hl.1 rfl (by simp [Value.category]) dX7_lives_68 ⟨Nat.le_refl _, Nat.le_refl _⟩ ?_
            refine z_tope (y := g6 r i 5) (hwx i hlt_i) ?_
            refine lv_iload_n (pc := 71) hx hb dX7_lives_71 rfl (lv_at hl 4 rfl) ?_
            refine lv_iadd (pc := 72) hx hb dX7_lives_72 ?_
            refine lv_bipush (pc := 73) (v := 20) hx hb dX7_lives_73 (by decide) ?_
            refine lv_icmp_gt (pc := 75) (tgt := 95) hx hb dX7_lives_75 (by decide) (fun c_4 => ?_) (fun c_4 => ?_)
            · skip
              refine lv_iinc (pc := 95) (v := nI (i + 1)) (lv' := [(5, .int (nI (i + 1))), (6, .long (amL ((Int32.toInt64 (shO r i w)) - (Int32.toInt64 sh)))), (4, .int (orN (fun n => if lvB r w sh mm n = true then 1 <<< (nI n &&& 31) else 0) i)), (0, .ref (b 0)), (1, .int w), (2, .int sh), (3, .int mm)]) hx hb dX7_lives_95 hl (k := 1) rfl (nI_1 _) (by decide) rfl (fun ls hl => ?_)
              refine lv_goto (pc := 98) (tgt := 28) hx hb dX7_lives_98 (by decide) ?_
              exact ih_28 (i + 1) (nI (i + 1)) (orN (fun n => if lvB r w sh mm n = true then 1 <<< (nI n &&& 31) else 0) i) (by omega) (by omega) (by first | rfl | (simp [livesP, orN, c_1, c_2, lvB_C hm2, c_4, i_nle.mpr c_4]; done)) (by first | rfl | (simp [livesP, orN, c_1, c_2, lvB_C hm2, c_4, i_nle.mpr c_4]; done)) ls (lv_sub hl [0, 2, 3, 4, 5, 6] rfl)
            · skip
              refine lv_lload (pc := 78) hx hb dX7_lives_78 (lv_at hl 0 rfl) ?_
              refine lv_iload_n (pc := 80) hx hb dX7_lives_80 rfl (lv_at hl 6 rfl) ?_
              refine lv_i2l (pc := 81) (v := Int32.toInt64 mm) hx hb dX7_lives_81 rfl ?_
              refine W.lcmp (pc := 82) hx hb dX7_lives_82 ?_
              refine lv_if_gt (pc := 83) (tgt := 95) hx hb dX7_lives_83 (by decide) (fun c_5 => ?_) (fun c_5 => ?_)
              · skip
                have c_5 := (lgl_gt _ _).mp c_5
                refine lv_iinc (pc := 95) (v := nI (i + 1)) (lv' := [(5, .int (nI (i + 1))), (6, .long (amL ((Int32.toInt64 (shO r i w)) - (Int32.toInt64 sh)))), (4, .int (orN (fun n => if lvB r w sh mm n = true then 1 <<< (nI n &&& 31) else 0) i)), (0, .ref (b 0)), (1, .int w), (2, .int sh), (3, .int mm)]) hx hb dX7_lives_95 hl (k := 1) rfl (nI_1 _) (by decide) rfl (fun ls hl => ?_)
                refine lv_goto (pc := 98) (tgt := 28) hx hb dX7_lives_98 (by decide) ?_
                exact ih_28 (i + 1) (nI (i + 1)) (orN (fun n => if lvB r w sh mm n = true then 1 <<< (nI n &&& 31) else 0) i) (by omega) (by omega) (by first | rfl | (simp [livesP, orN, c_1, c_2, lvB_C hm2, c_4, c_5, i_nlt.mp c_4, Int64.not_le.mpr c_5]; done)) (by first | rfl | (simp [livesP, orN, c_1, c_2, lvB_C hm2, c_4, c_5, i_nlt.mp c_4, Int64.not_le.mpr c_5]; done)) ls (lv_sub hl [0, 2, 3, 4, 5, 6] rfl)
              · skip
                have c_5 := (not_congr (lgl_gt _ _)).mp c_5
                refine lv_iload (pc := 86) hx hb dX7_lives_86 (lv_at hl 2 rfl) ?_
                refine lv_iconst (pc := 88) (v := 1) hx hb dX7_lives_88 (by decide) ?_
                refine lv_iload (pc := 89) hx hb dX7_lives_89 (lv_at hl 1 rfl) ?_
                refine lv_ishl (pc := 91) hx hb dX7_lives_91 ?_
                refine lv_ior (pc := 92) hx hb dX7_lives_92 ?_
                refine lv_istore (pc := 93) (lv' := [(4, .int ((orN (fun n => if lvB r w sh mm n = true then 1 <<< (nI n &&& 31) else 0) i) ||| (1 <<< ((nI i) &&& 31)))), (6, .long (amL ((Int32.toInt64 (shO r i w)) - (Int32.toInt64 sh)))), (5, .int (nI i)), (0, .ref (b 0)), (1, .int w), (2, .int sh), (3, .int mm)]) hx hb dX7_lives_93 hl (by decide) rfl (fun ls hl => ?_)
                refine lv_iinc (pc := 95) (v := nI (i + 1)) (lv' := [(5, .int (nI (i + 1))), (4, .int ((orN (fun n => if lvB r w sh mm n = true then 1 <<< (nI n &&& 31) else 0) i) ||| (1 <<< ((nI i) &&& 31)))), (6, .long (amL ((Int32.toInt64 (shO r i w)) - (Int32.toInt64 sh)))), (0, .ref (b 0)), (1, .int w), (2, .int sh), (3, .int mm)]) hx hb dX7_lives_95 hl (k := 2) rfl (nI_1 _) (by decide) rfl (fun ls hl => ?_)
                refine lv_goto (pc := 98) (tgt := 28) hx hb dX7_lives_98 (by decide) ?_
                exact ih_28 (i + 1) (nI (i + 1)) ((orN (fun n => if lvB r w sh mm n = true then 1 <<< (nI n &&& 31) else 0) i) ||| (1 <<< ((nI i) &&& 31))) (by omega) (by omega) (by first | rfl | (simp [livesP, orN, c_1, c_2, lvB_C hm2, c_4, c_5, i_nlt.mp c_4, Int64.not_lt.mp c_5]; done)) (by first | rfl | (simp [livesP, orN, c_1, c_2, lvB_C hm2, c_4, c_5, i_nlt.mp c_4, Int64.not_lt.mp c_5]; done)) ls (lv_sub hl [0, 1, 3, 4, 5, 6] rfl)
      exact loop_28 ((nP r - 0) + 1) 0 0 0 (Nat.lt_succ_self _) (by omega) (by first | rfl | (simp [livesP, orN, c_1, c_2, lvB_C hm2]; done)) (by first | rfl | (simp [livesP, orN, c_1, c_2, lvB_C hm2]; done)) ls (lv_sub hl [0, 1, 2, 3, 4, 5] rfl)
    · skip
      refine lv_iconst (pc := 20) (v := (-1)) hx hb dX7_lives_20 (by decide) ?_
      exact z_iret cx hr hlk dX7_lives_21 (by first | rfl | (simp [livesP, orN, c_1, c_2]; done))
theorem k_X7_lives {p : Program} {l : Launch} {e : Env} {R : Room} {s : State} {m : MethodId} {args : Array Value} {below : List Frame} {meth : Method} {c : Code} {H : Heap} {locs : List Loc} {cells slots : Nat} {Q : State → Prop} {cc : ByteArray} {pc index : Nat} {ls : Array Slot} {rest st0 : List Value} {E : zE} {own : String} {nL : Nat} {b : Nat → Nat} {tl : va_W} {pd : Bool} {qt : Nat → Option Nat} {qr : Nat → Option Nat} {tbu : Nat → Int32} {wst : Nat → Int32} {asw : Nat → Int32} {pN : Int32} {tN : Int32} {aN : Int32} {wx : Nat → Int32} {pp : Nat → Option Nat} {tp : Nat → Option Nat} {ap : Nat → Option Nat} {sg : Nat → Int32} {uh : Int32} {ud : Int32} {up : Int32} {ur : Int32} {us : Int32} {ux : Nat → Int32} {G : zG} {w sh mm : Int32} {r : Nat → Int32} (cx : Cx E p s args m c own cc nL) (hW : WW E (wK b E.2.1 tl pd qt qr tbu wst asw pN tN aN (hdC (r 3)) (r 4) (r 5) (r 6) (r 7) wx pp tp ap sg uh ud up ur us ux) G H) (hG : CG E.2.1 G r pN tN aN wx pp tp ap) (zl : Cond.methodLink own index yX7_lives ∈ AllW) (zR : 4 + 1 ≤ R.frames ∧ 8 + (8 + 11) + 88 ≤ R.locals) (zs : ls.size = nL) (zt : st0 = ([.int w, .int sh, .int mm] : List Value).reverse ++ .ref (b 0) :: rest) (z8 : (rest.map fun v => v.category).sum ≤ 8) (zd : decode cc pc = .ok (.invokevirtual index, 3)) (zf : cells ≤ R.cells ∧ slots ≤ R.slots) (kk : W p l e R s m args below meth c H locs cells slots Q (F0 m (pc + 3) ls (.int (livesP r w sh mm) :: rest))) : W p l e R s m args below meth c H locs cells slots Q (F0 m pc ls st0) :=
  z_callV cx vm_X7_lives (c_X7_lives l E b tl pd qt qr tbu wst asw pN tN aN wx pp tp ap sg uh ud up ur us ux G w sh mm r hG) (z_rec cx.2 (hW.at 0 rfl) rfl) hW zl ⟨rfl, rfl⟩ zR rfl zs zt z8 zd zf kk
theorem vm_X7_which : zVm yX7_which cX7_which 6 (some FieldType.int) 0 := ⟨m_co_X7_which, m_in_RX7, ⟨m_im_X7_which, m_se_X7_X7_which⟩, by decide +kernel, by decide +kernel, by decide +kernel⟩
set_option maxHeartbeats 1000000 in
set_option maxRecDepth 100000 in
theorem c_X7_which (l : Launch) (E : zE) (b : Nat → Nat) (tl : va_W) (pd : Bool) (qt : Nat → Option Nat) (qr : Nat → Option Nat) (tbu : Nat → Int32) (wst : Nat → Int32) (asw : Nat → Int32) (pN : Int32) (tN : Int32) (aN : Int32) (hd : Int32) (dr : Int32) (pl : Int32) (rm : Int32) (ps : Int32) (wx : Nat → Int32) (pp : Nat → Option Nat) (tp : Nat → Option Nat) (ap : Nat → Option Nat) (sg : Nat → Int32) (uh : Int32) (ud : Int32) (up : Int32) (ur : Int32) (us : Int32) (ux : Nat → Int32) (G : zG) (r : Nat → Int32) (hG : CG E.2.1 G r pN tN aN wx pp tp ap) : Met l yX7_which (.code yX7_which cX7_which 6 (some FieldType.int) :: AllW) (rm0' 3 66) (zP E (fun H => WW E (wK b E.2.1 tl pd qt qr tbu wst asw pN tN aN hd dr pl rm ps wx pp tp ap sg uh ud up ur us ux) G H) [.ref (b 0)]) (rQ (.int (whP r))) 0 0 nF := by
  refine z_body (own := RX7) (by decide) rfl rfl ?_
  intro p e s m args below meth c ls cx hr hlk hnm hW hl
  have hx := cx.x
  have hb := cx.b
  have hl : lv_has ls 6 [(0, .ref (b 0))] := hl
  have hG0 := hG
  obtain ⟨hI, hpN, htN, haN, hPc, hTh, hAk, hwx⟩ := hG
  have hC := hI.1
  have hIS := hI.2.1
  have hP := hI.2.2.1
  have hT := hI.2.2.2.1
  have hP10 := (Inv.n0 hC).2
  have hT7 := (Inv.n1 hC).2
  have hA24 := (Inv.n2 hC).2
  have e0 := (Inv.n0 hC).1
  have e1 := (Inv.n1 hC).1
  have e2 := (Inv.n2 hC).1
  refine lv_aload_n (pc := 0) hx hb dX7_which_0 rfl (lv_at hl 0 rfl) ?_
  refine z_get (pc := 1) cx (hW.at 0 rfl) (C := RX7) (T := TX7) (N := 11) rfl i_X7 0 rfl m_fl_X7_10 rfl dX7_which_1 ?_
  refine k_X1_fitting (pc := 4)  cx hW (by first | assumption | omega) (by first | assumption | omega) (by first | assumption | omega) (by first | assumption | omega) m_ml_X7_213 ⟨Nat.le_of_ble_eq_true rfl, Nat.le_of_ble_eq_true rfl⟩ hl.1 rfl (by simp [Value.category]) dX7_which_4 ⟨Nat.le_refl _, Nat.le_refl _⟩ ?_
  refine lv_istore_n (pc := 7) (lv' := [(1, .int (ftA r)), (0, .ref (b 0))]) hx hb dX7_which_7 rfl hl (by decide) rfl (fun ls hl => ?_)
  refine lv_bipush (pc := 8) (v := (-4)) hx hb dX7_which_8 (by decide) ?_
  refine lv_istore_n (pc := 10) (lv' := [(2, .int (-4)), (1, .int (ftA r)), (0, .ref (b 0))]) hx hb dX7_which_10 rfl hl (by decide) rfl (fun ls hl => ?_)
  refine lv_iconst (pc := 11) (v := 0) hx hb dX7_which_11 (by decide) ?_
  refine lv_istore_n (pc := 12) (lv' := [(3, .int 0), (2, .int (-4)), (1, .int (ftA r)), (0, .ref (b 0))]) hx hb dX7_which_12 rfl hl (by decide) rfl (fun ls hl => ?_)
  refine lv_iconst (pc := 13) (v := 0) hx hb dX7_which_13 (by decide) ?_
  refine lv_istore (pc := 14) (lv' := [(4, .int 0), (3, .int 0), (2, .int (-4)), (1, .int (ftA r)), (0, .ref (b 0))]) hx hb dX7_which_14 hl (by decide) rfl (fun ls hl => ?_)
  have loop_16 : ∀ (k_16 : Nat) (i : Nat) (x4 : Int32) (x3 : Int32) (x2 : Int32), (nT r - i) < k_16 → (i ≤ nT r) → x4 = nI i → x3 = whV r (ftA r) i → x2 = whS r (ftA r) i → ∀ (ls : Array Slot), lv_has ls 6 [(4, .int x4), (3, .int x3), (2, .int x2), (1, .int (ftA r)), (0, .ref (b 0))] → W p l e (rm0' (3) (66)) s m args below meth c s.heap [] 0 0 (MQ below (rQ (.int (whP r))) args s 0 0 nF) (F0 m 16 ls []) := by
    intro k_16
    induction k_16 with
    | zero =>
      intro i x4 x3 x2 hm
      exact absurd hm (Nat.not_lt_zero _)
    | succ k_16 ih_16 =>
      intro i x4 x3 x2 hm_16 hi e_x4 e_x3 e_x2  ls hl
      subst e_x4
      subst e_x3
      subst e_x2
      refine lv_iload (pc := 16) hx hb dX7_which_16 (lv_at hl 0 rfl) ?_
      refine lv_aload_n (pc := 18) hx hb dX7_which_18 rfl (lv_at hl 4 rfl) ?_
      refine z_get (pc := 19) cx (hW.at 0 rfl) (C := RX7) (T := TX7) (N := 11) rfl i_X7 0 rfl m_fl_X7_10 rfl dX7_which_19 ?_
      refine z_get (pc := 22) cx (hW.at 6 rfl) (C := RX1) (T := TX1) (N := 8) rfl i_X1 1 rfl m_fl_X7_206 rfl dX7_which_22 ?_
      refine lv_icmp_ge (pc := 25) (tgt := 61) hx hb dX7_which_25 (by decide) (fun c_1 => ?_) (fun c_1 => ?_)
      · skip
        obtain rfl : i = nT r := by have := ge_nat (a := i) rfl htN (by omega) (by omega) c_1; omega
        refine lv_iload_n (pc := 61) hx hb dX7_which_61 rfl (lv_at hl 2 rfl) ?_
        exact z_iret cx hr hlk dX7_which_62 (by first | rfl | (simp [whP]; done))
      · skip
        have hlt_i := lt_nat (a := i) rfl htN (by omega) (by omega) c_1
        refine lv_aload_n (pc := 28) hx hb dX7_which_28 rfl (lv_at hl 4 rfl) ?_
        refine z_get (pc := 29) cx (hW.at 0 rfl) (C := RX7) (T := TX7) (N := 11) rfl i_X7 0 rfl m_fl_X7_10 rfl dX7_which_29 ?_
        refine lv_iload_n (pc := 32) hx hb dX7_which_32 rfl (lv_at hl 3 rfl) ?_
        refine lv_iconst (pc := 33) (v := 1) hx hb dX7_which_33 (by decide) ?_
        refine lv_iload (pc := 34) hx hb dX7_which_34 (lv_at hl 0 rfl) ?_
        refine lv_ishl (pc := 36) hx hb dX7_which_36 ?_
        refine lv_iand (pc := 37) hx hb dX7_which_37 ?_
        refine k_X1_chancesOf (pc := 38) (set := (ftA r) &&& (1 <<< ((nI i) &&& 31))) cx hW (by first | assumption | omega) (by first | assumption | omega) (by first | assumption | omega) m_ml_X7_225 ⟨Nat.le_of_ble_eq_true rfl, Nat.le_of_ble_eq_true rfl⟩ hl.1 rfl (by simp [Value.category]) dX7_which_38 ⟨Nat.le_refl _, Nat.le_refl _⟩ ?_
        refine lv_istore (pc := 41) (lv' := [(5, .int (chA r ((ftA r) &&& (1 <<< ((nI i) &&& 31))))), (4, .int (nI i)), (3, .int (whV r (ftA r) i)), (2, .int (whS r (ftA r) i)), (1, .int (ftA r)), (0, .ref (b 0))]) hx hb dX7_which_41 hl (by decide) rfl (fun ls hl => ?_)
        refine lv_iload (pc := 43) hx hb dX7_which_43 (lv_at hl 0 rfl) ?_
        refine lv_iload_n (pc := 45) hx hb dX7_which_45 rfl (lv_at hl 2 rfl) ?_
        refine lv_icmp_le (pc := 46) (tgt := 55) hx hb dX7_which_46 (by decide) (fun c_2 => ?_) (fun c_2 => ?_)
        · skip
          have hwh := wh_no (set := ftA r) hlt_i hT7 hT (i_nlt.mpr c_2)
          refine lv_iinc (pc := 55) (v := nI (i + 1)) (lv' := [(4, .int (nI (i + 1))), (5, .int (chA r ((ftA r) &&& (1 <<< ((nI i) &&& 31))))), (3, .int (whV r (ftA r) i)), (2, .int (whS r (ftA r) i)), (1, .int (ftA r)), (0, .ref (b 0))]) hx hb dX7_which_55 hl (k := 1) rfl (nI_1 _) (by decide) rfl (fun ls hl => ?_)
          refine lv_goto (pc := 58) (tgt := 16) hx hb dX7_which_58 (by decide) ?_
          exact ih_16 (i + 1) (nI (i + 1)) (whV r (ftA r) i) (whS r (ftA r) i) (by omega) (by omega) (by first | rfl | (simp [whP, c_2, i_nlt.mpr c_2]; done)) hwh.2.symm hwh.1.symm ls (lv_sub hl [0, 2, 3, 4, 5] rfl)
        · skip
          have hwh := wh_up (set := ftA r) hlt_i hT7 hT (i_nle.mp c_2)
          refine lv_iload (pc := 49) hx hb dX7_which_49 (lv_at hl 0 rfl) ?_
          refine lv_istore_n (pc := 51) (lv' := [(3, .int (chA r ((ftA r) &&& (1 <<< ((nI i) &&& 31))))), (5, .int (chA r ((ftA r) &&& (1 <<< ((nI i) &&& 31))))), (4, .int (nI i)), (2, .int (whS r (ftA r) i)), (1, .int (ftA r)), (0, .ref (b 0))]) hx hb dX7_which_51 rfl hl (by decide) rfl (fun ls hl => ?_)
          refine lv_iload (pc := 52) hx hb dX7_which_52 (lv_at hl 2 rfl) ?_
          refine lv_istore_n (pc := 54) (lv' := [(2, .int (nI i)), (3, .int (chA r ((ftA r) &&& (1 <<< ((nI i) &&& 31))))), (5, .int (chA r ((ftA r) &&& (1 <<< ((nI i) &&& 31))))), (4, .int (nI i)), (1, .int (ftA r)), (0, .ref (b 0))]) hx hb dX7_which_54 rfl hl (by decide) rfl (fun ls hl => ?_)
          refine lv_iinc (pc := 55) (v := nI (i + 1)) (lv' := [(4, .int (nI (i + 1))), (2, .int (nI i)), (3, .int (chA r ((ftA r) &&& (1 <<< ((nI i) &&& 31))))), (5, .int (chA r ((ftA r) &&& (1 <<< ((nI i) &&& 31))))), (1, .int (ftA r)), (0, .ref (b 0))]) hx hb dX7_which_55 hl (k := 3) rfl (nI_1 _) (by decide) rfl (fun ls hl => ?_)
          refine lv_goto (pc := 58) (tgt := 16) hx hb dX7_which_58 (by decide) ?_
          exact ih_16 (i + 1) (nI (i + 1)) (chA r ((ftA r) &&& (1 <<< ((nI i) &&& 31)))) (nI i) (by omega) (by omega) (by first | rfl | (simp [whP, c_2, i_nle.mp c_2]; done)) hwh.2.symm hwh.1.symm ls (lv_sub hl [0, 2, 1, 4, 5] rfl)
  exact loop_16 ((nT r - 0) + 1) 0 0 0 (-4) (Nat.lt_succ_self _) (by omega) (by first | rfl | (simp [whP]; done)) (by first | rfl | (simp [whP]; done)) (by first | rfl | (simp [whP]; done)) ls (lv_sub hl [0, 1, 2, 3, 4] rfl)
theorem k_X7_which {p : Program} {l : Launch} {e : Env} {R : Room} {s : State} {m : MethodId} {args : Array Value} {below : List Frame} {meth : Method} {c : Code} {H : Heap} {locs : List Loc} {cells slots : Nat} {Q : State → Prop} {cc : ByteArray} {pc index : Nat} {ls : Array Slot} {rest st0 : List Value} {E : zE} {own : String} {nL : Nat} {b : Nat → Nat} {tl : va_W} {pd : Bool} {qt : Nat → Option Nat} {qr : Nat → Option Nat} {tbu : Nat → Int32} {wst : Nat → Int32} {asw : Nat → Int32} {pN : Int32} {tN : Int32} {aN : Int32} {hd : Int32} {dr : Int32} {pl : Int32} {rm : Int32} {ps : Int32} {wx : Nat → Int32} {pp : Nat → Option Nat} {tp : Nat → Option Nat} {ap : Nat → Option Nat} {sg : Nat → Int32} {uh : Int32} {ud : Int32} {up : Int32} {ur : Int32} {us : Int32} {ux : Nat → Int32} {G : zG} {r : Nat → Int32} (cx : Cx E p s args m c own cc nL) (hW : WW E (wK b E.2.1 tl pd qt qr tbu wst asw pN tN aN hd dr pl rm ps wx pp tp ap sg uh ud up ur us ux) G H) (hG : CG E.2.1 G r pN tN aN wx pp tp ap) (zl : Cond.methodLink own index yX7_which ∈ AllW) (zR : 3 + 1 ≤ R.frames ∧ 8 + (6 + 11) + 66 ≤ R.locals) (zs : ls.size = nL) (zt : st0 = ([] : List Value).reverse ++ .ref (b 0) :: rest) (z8 : (rest.map fun v => v.category).sum ≤ 8) (zd : decode cc pc = .ok (.invokevirtual index, 3)) (zf : cells ≤ R.cells ∧ slots ≤ R.slots) (kk : W p l e R s m args below meth c H locs cells slots Q (F0 m (pc + 3) ls (.int (whP r) :: rest))) : W p l e R s m args below meth c H locs cells slots Q (F0 m pc ls st0) :=
  z_callV cx vm_X7_which (c_X7_which l E b tl pd qt qr tbu wst asw pN tN aN hd dr pl rm ps wx pp tp ap sg uh ud up ur us ux G r hG) (z_rec cx.2 (hW.at 0 rfl) rfl) hW zl ⟨rfl, rfl⟩ zR rfl zs zt z8 zd zf kk
theorem vm_X7_next : zVm yX7_next cX7_next 8 (some FieldType.int) 1 := ⟨m_co_X7_next, m_in_RX7, ⟨m_im_X7_next, m_se_X7_X7_next⟩, by decide +kernel, by decide +kernel, by decide +kernel⟩
set_option maxHeartbeats 1000000 in
set_option maxRecDepth 100000 in
theorem c_X7_next (l : Launch) (E : zE) (b : Nat → Nat) (tl : va_W) (pd : Bool) (qt : Nat → Option Nat) (qr : Nat → Option Nat) (tbu : Nat → Int32) (wst : Nat → Int32) (asw : Nat → Int32) (pN : Int32) (tN : Int32) (aN : Int32) (wx : Nat → Int32) (pp : Nat → Option Nat) (tp : Nat → Option Nat) (ap : Nat → Option Nat) (sg : Nat → Int32) (uh : Int32) (ud : Int32) (up : Int32) (ur : Int32) (us : Int32) (ux : Nat → Int32) (G : zG) (st : Int32) (r : Nat → Int32) (hG : CG E.2.1 G r pN tN aN wx pp tp ap) : Met l yX7_next (.code yX7_next cX7_next 8 (some FieldType.int) :: AllW) (rm0' 6 144) (zP E (fun H => WW E (wK b E.2.1 tl pd qt qr tbu wst asw pN tN aN (hdC (r 3)) (r 4) (r 5) (r 6) (r 7) wx pp tp ap sg uh ud up ur us ux) G H) [.ref (b 0), .int st]) (zQ (fun (_ : Heap) (v : Option Value) (H1 : Heap) => (∃ (sg2 : Nat → Int32), v = some (.int (nextP r st)) ∧ WW E (wK b E.2.1 tl pd qt qr tbu wst asw pN tN aN (hdC (r 3)) (r 4) (r 5) (r 6) (r 7) wx pp tp ap sg2 uh ud up ur us ux) G H1)) (bF b)) 0 0 (bF b) := by
  refine z_body (own := RX7) (by decide) rfl rfl ?_
  intro p e s m args below meth c ls cx hr hlk hnm hW hl
  have hx := cx.x
  have hb := cx.b
  have hl : lv_has ls 8 [(0, .ref (b 0)), (1, .int st)] := hl
  have hFb : ∀ k, (bF b) (b k) := fun k => bF_in b k
  have hS : va_S (bF b) s.heap s.heap [] := va_S.rf
  have hG0 := hG
  obtain ⟨hI, hpN, htN, haN, hPc, hTh, hAk, hwx⟩ := hG
  have hC := hI.1
  have hIS := hI.2.1
  have hP := hI.2.2.1
  have hT := hI.2.2.2.1
  have hP10 := (Inv.n0 hC).2
  have hT7 := (Inv.n1 hC).2
  have hA24 := (Inv.n2 hC).2
  have e0 := (Inv.n0 hC).1
  have e1 := (Inv.n1 hC).1
  have e2 := (Inv.n2 hC).1
  refine lv_iload_n (pc := 0) hx hb dX7_next_0 rfl (lv_at hl 1 rfl) ?_
  refine k_X7_isStrong (pc := 1) (x := st) cx  m_ml_X7_197 ⟨Nat.le_of_ble_eq_true rfl, Nat.le_of_ble_eq_true rfl⟩ hl.1 rfl (by simp [Value.category]) dX7_next_1 ⟨Nat.le_refl _, Nat.le_refl _⟩ ?_
  refine z_ifne (pc := 4) (tgt := 9) hx hb dX7_next_4 (by decide) (fun c_1 => ?_) (fun c_1 => ?_)
  · skip
    refine lv_aload_n (pc := 9) hx hb dX7_next_9 rfl (lv_at hl 0 rfl) ?_
    refine z_get (pc := 10) cx (hW.at 0 rfl) (C := RX7) (T := TX7) (N := 11) rfl i_X7 0 rfl m_fl_X7_10 rfl dX7_next_10 ?_
    refine k_X1_fitting (pc := 13)  cx hW (by first | assumption | omega) (by first | assumption | omega) (by first | assumption | omega) (by first | assumption | omega) m_ml_X7_213 ⟨Nat.le_of_ble_eq_true rfl, Nat.le_of_ble_eq_true rfl⟩ hl.1 rfl (by simp [Value.category]) dX7_next_13 ⟨Nat.le_refl _, Nat.le_refl _⟩ ?_
    refine lv_istore_n (pc := 16) (lv' := [(2, .int (ftA r)), (0, .ref (b 0)), (1, .int st)]) hx hb dX7_next_16 rfl hl (by decide) rfl (fun ls hl => ?_)
    refine lv_aload_n (pc := 17) hx hb dX7_next_17 rfl (lv_at hl 1 rfl) ?_
    refine z_get (pc := 18) cx (hW.at 0 rfl) (C := RX7) (T := TX7) (N := 11) rfl i_X7 0 rfl m_fl_X7_10 rfl dX7_next_18 ?_
    refine lv_iload_n (pc := 21) hx hb dX7_next_21 rfl (lv_at hl 0 rfl) ?_
    refine k_X1_chancesOf (pc := 22) (set := ftA r) cx hW (by first | assumption | omega) (by first | assumption | omega) (by first | assumption | omega) m_ml_X7_225 ⟨Nat.le_of_ble_eq_true rfl, Nat.le_of_ble_eq_true rfl⟩ hl.1 rfl (by simp [Value.category]) dX7_next_22 ⟨Nat.le_refl _, Nat.le_refl _⟩ ?_
    refine lv_istore_n (pc := 25) (lv' := [(3, .int (chA r (ftA r))), (2, .int (ftA r)), (0, .ref (b 0)), (1, .int st)]) hx hb dX7_next_25 rfl hl (by decide) rfl (fun ls hl => ?_)
    refine lv_bipush (pc := 26) (v := (-4)) hx hb dX7_next_26 (by decide) ?_
    refine lv_istore (pc := 28) (lv' := [(4, .int (-4)), (3, .int (chA r (ftA r))), (2, .int (ftA r)), (0, .ref (b 0)), (1, .int st)]) hx hb dX7_next_28 hl (by decide) rfl (fun ls hl => ?_)
    refine lv_iconst (pc := 30) (v := 0) hx hb dX7_next_30 (by decide) ?_
    refine lv_istore (pc := 31) (lv' := [(5, .int 0), (4, .int (-4)), (3, .int (chA r (ftA r))), (2, .int (ftA r)), (0, .ref (b 0)), (1, .int st)]) hx hb dX7_next_31 hl (by decide) rfl (fun ls hl => ?_)
    refine lv_bipush (pc := 33) (v := 10) hx hb dX7_next_33 (by decide) ?_
    refine lv_istore (pc := 35) (lv' := [(6, .int 10), (5, .int 0), (4, .int (-4)), (3, .int (chA r (ftA r))), (2, .int (ftA r)), (0, .ref (b 0)), (1, .int st)]) hx hb dX7_next_35 hl (by decide) rfl (fun ls hl => ?_)
    have loop_37 : ∀ (k_37 : Nat) (k : Nat) (x6 : Int32) (x5 : Int32) (x4 : Int32), (60 - k) < k_37 → (k ≤ 60) → (ftA r = 0 → k = 0) → x6 = nI (10 * (k + 1)) → x5 = (nxS r st k).2 → x4 = (nxS r st k).1 → ∀ (sg2 : Nat → Int32) (H : Heap) (locs : List Loc), WW E (wK b E.2.1 tl pd qt qr tbu wst asw pN tN aN (hdC (r 3)) (r 4) (r 5) (r 6) (r 7) wx pp tp ap sg2 uh ud up ur us ux) G H → va_S (bF b) s.heap H locs → ∀ (ls : Array Slot), lv_has ls 8 [(6, .int x6), (5, .int x5), (4, .int x4), (3, .int (chA r (ftA r))), (2, .int (ftA r)), (0, .ref (b 0)), (1, .int st)] → W p l e (rm0' (6) (144)) s m args below meth c H locs 0 0 (MQ below (zQ (fun (_ : Heap) (v : Option Value) (H1 : Heap) => (∃ (sg2 : Nat → Int32), v = some (.int (nextP r st)) ∧ WW E (wK b E.2.1 tl pd qt qr tbu wst asw pN tN aN (hdC (r 3)) (r 4) (r 5) (r 6) (r 7) wx pp tp ap sg2 uh ud up ur us ux) G H1)) (bF b)) args s 0 0 (bF b)) (F0 m 37 ls []) := by
      intro k_37
      induction k_37 with
      | zero =>
        intro k x6 x5 x4 hm
        exact absurd hm (Nat.not_lt_zero _)
      | succ k_37 ih_37 =>
        intro k x6 x5 x4 hm_37 hk hk0 e_x6 e_x5 e_x4 sg2 H locs  hW hS ls hl
        subst e_x6
        subst e_x5
        subst e_x4
        refine lv_iload (pc := 37) hx hb dX7_next_37 (lv_at hl 0 rfl) ?_
        refine lv_sipush (pc := 39) (v := 600) hx hb dX7_next_39 (by decide) ?_
        refine lv_icmp_gt (pc := 42) (tgt := 105) hx hb dX7_next_42 (by decide) (fun c_2 => ?_) (fun c_2 => ?_)
        · skip
          obtain rfl : k = 60 := by have := gtn (a := 600) (b := 10 * (k + 1)) rfl rfl (by omega) (by omega) c_2; omega
          refine lv_iload (pc := 105) hx hb dX7_next_105 (lv_at hl 2 rfl) ?_
          exact z_wiret cx hr hlk dX7_next_107 hS ⟨_, (sI (by unfold nextP; by_cases hz : ftA r = 0 <;> simp [c_1, hz] <;> first | exact absurd (hk0 hz) (by decide) | (rw [hk0 hz]; rfl) | exact absurd (by assumption) hz)), hW⟩
        · skip
          have hle := ngt (a := 600) (b := 10 * (k + 1)) rfl rfl (by omega) (by omega) c_2
          refine lv_iload_n (pc := 45) hx hb dX7_next_45 rfl (lv_at hl 4 rfl) ?_
          refine lv_if_eq (pc := 46) (tgt := 105) hx hb dX7_next_46 (by decide) (fun c_3 => ?_) (fun c_3 => ?_)
          · skip
            have hft := c_3
            refine lv_iload (pc := 105) hx hb dX7_next_105 (lv_at hl 2 rfl) ?_
            exact z_wiret cx hr hlk dX7_next_107 hS ⟨_, (sI (by unfold nextP; by_cases hz : ftA r = 0 <;> simp [c_1, c_3, hz] <;> first | exact absurd (hk0 hz) (by decide) | (rw [hk0 hz]; rfl) | exact absurd (by assumption) hz)), hW⟩
          · skip
            have hft0 := c_3
            refine lv_iconst (pc := 49) (v := 2) hx hb dX7_next_49 (by decide) ?_
            refine lv_aload_n (pc := 50) hx hb dX7_next_50 rfl (lv_at hl 5 rfl) ?_
            refine z_get (pc := 51) cx (hW.at 0 rfl) (C := RX7) (T := TX7) (N := 11) rfl i_X7 0 rfl m_fl_X7_10 rfl dX7_next_51 ?_
            refine lv_iload_n (pc := 54) hx hb dX7_next_54 rfl (lv_at hl 4 rfl) ?_
            refine lv_aload_n (pc := 55) hx hb dX7_next_55 rfl (lv_at hl 5 rfl) ?_
            refine z_get (pc := 56) cx (hW.at 0 rfl) (C := RX7) (T := TX7) (N := 11) rfl i_X7 0 rfl m_fl_X7_10 rfl dX7_next_56 ?_
            refine lv_iload (pc := 59) hx hb dX7_next_59 (lv_at hl 0 rfl) ?_
            refine lv_iload_n (pc := 61) hx hb dX7_next_61 rfl (lv_at hl 6 rfl) ?_
            refine k_X1_buzzingAt (pc := 62) (f := nI (10 * (k + 1))) (st := st) (r := r) cx hW hS (fun _ h => h) hI hpN htN hPc hTh (rgN (by omega) (by omega) (by omega)) hwx m_ml_X7_194 ⟨Nat.le_of_ble_eq_true rfl, Nat.le_of_ble_eq_true rfl⟩ hl.1 rfl (by simp [Value.category]) dX7_next_62 ⟨Nat.le_refl _, Nat.le_refl _⟩ (fun sg2 H locs  hW hS => ?_)
            have hW : WW E (wK b E.2.1 tl pd qt qr tbu wst asw pN tN aN (hdC (r 3)) (r 4) (r 5) (r 6) (r 7) wx pp tp ap sg2 uh ud up ur us ux) G H := hW
            refine lv_iand (pc := 65) hx hb dX7_next_65 ?_
            refine k_X1_chancesOf (pc := 66) (set := (ftA r) &&& (hrA r (nI (10 * (k + 1))) st)) cx hW (by first | assumption | omega) (by first | assumption | omega) (by first | assumption | omega) m_ml_X7_225 ⟨Nat.le_of_ble_eq_true rfl, Nat.le_of_ble_eq_true rfl⟩ hl.1 rfl (by simp [Value.category]) dX7_next_66 ⟨Nat.le_refl _, Nat.le_refl _⟩ ?_
            refine lv_imul (pc := 69) hx hb dX7_next_69 ?_
            refine lv_iload_n (pc := 70) hx hb dX7_next_70 rfl (lv_at hl 3 rfl) ?_
            refine lv_isub (pc := 71) hx hb dX7_next_71 ?_
            refine z_mabs (pc := 72) cx hl.1 m_ml_X7_231 ⟨Nat.le_of_ble_eq_true rfl, Nat.le_of_ble_eq_true rfl⟩ (by simp [Value.category]) ⟨Nat.le_refl _, Nat.le_refl _⟩ dX7_next_72 ?_
            refine z_tope (y := nxV r st (k + 1)) rfl ?_
            refine lv_istore (pc := 75) (lv' := [(7, .int (nxV r st (k + 1))), (6, .int (nI (10 * (k + 1)))), (5, .int ((nxS r st k).2)), (4, .int ((nxS r st k).1)), (3, .int (chA r (ftA r))), (2, .int (ftA r)), (0, .ref (b 0)), (1, .int st)]) hx hb dX7_next_75 hl (by decide) rfl (fun ls hl => ?_)
            refine lv_iload (pc := 77) hx hb dX7_next_77 (lv_at hl 3 rfl) ?_
            refine lv_bipush (pc := 79) (v := (-4)) hx hb dX7_next_79 (by decide) ?_
            refine lv_icmp_eq (pc := 81) (tgt := 91) hx hb dX7_next_81 (by decide) (fun c_4 => ?_) (fun c_4 => ?_)
            · skip
              have hnx := nx_new (r := r) (st := st) (k := k) (Or.inl c_4)
              refine lv_iload (pc := 91) hx hb dX7_next_91 (lv_at hl 0 rfl) ?_
              refine lv_istore (pc := 93) (lv' := [(5, .int (nxV r st (k + 1))), (7, .int (nxV r st (k + 1))), (6, .int (nI (10 * (k + 1)))), (4, .int ((nxS r st k).1)), (3, .int (chA r (ftA r))), (2, .int (ftA r)), (0, .ref (b 0)), (1, .int st)]) hx hb dX7_next_93 hl (by decide) rfl (fun ls hl => ?_)
              refine lv_iload (pc := 95) hx hb dX7_next_95 (lv_at hl 2 rfl) ?_
              refine lv_istore (pc := 97) (lv' := [(4, .int (nI (10 * (k + 1)))), (5, .int (nxV r st (k + 1))), (7, .int (nxV r st (k + 1))), (6, .int (nI (10 * (k + 1)))), (3, .int (chA r (ftA r))), (2, .int (ftA r)), (0, .ref (b 0)), (1, .int st)]) hx hb dX7_next_97 hl (by decide) rfl (fun ls hl => ?_)
              refine lv_iinc (pc := 99) (v := nI ((10 * (k + 1)) + 10)) (lv' := [(6, .int (nI ((10 * (k + 1)) + 10))), (4, .int (nI (10 * (k + 1)))), (5, .int (nxV r st (k + 1))), (7, .int (nxV r st (k + 1))), (3, .int (chA r (ftA r))), (2, .int (ftA r)), (0, .ref (b 0)), (1, .int st)]) hx hb dX7_next_99 hl (k := 3) rfl (nI_add _ 10) (by decide) rfl (fun ls hl => ?_)
              refine lv_goto (pc := 102) (tgt := 37) hx hb dX7_next_102 (by decide) ?_
              exact ih_37 (k + 1) (nI ((10 * (k + 1)) + 10)) (nxV r st (k + 1)) (nI (10 * (k + 1))) (by omega) (by omega) (fun h => absurd h hft0) rfl hnx.2.symm hnx.1.symm _ _ _  (hW) hS ls (lv_sub hl [0, 2, 1, 4, 5, 6, 7] rfl)
            · skip
              have hne := c_4
              refine lv_iload (pc := 84) hx hb dX7_next_84 (lv_at hl 0 rfl) ?_
              refine lv_iload (pc := 86) hx hb dX7_next_86 (lv_at hl 2 rfl) ?_
              refine lv_icmp_ge (pc := 88) (tgt := 99) hx hb dX7_next_88 (by decide) (fun c_5 => ?_) (fun c_5 => ?_)
              · skip
                have hnx := nx_old (nx_4 k (by omega)) hne c_5
                refine lv_iinc (pc := 99) (v := nI ((10 * (k + 1)) + 10)) (lv' := [(6, .int (nI ((10 * (k + 1)) + 10))), (7, .int (nxV r st (k + 1))), (5, .int ((nxS r st k).2)), (4, .int ((nxS r st k).1)), (3, .int (chA r (ftA r))), (2, .int (ftA r)), (0, .ref (b 0)), (1, .int st)]) hx hb dX7_next_99 hl (k := 1) rfl (nI_add _ 10) (by decide) rfl (fun ls hl => ?_)
                refine lv_goto (pc := 102) (tgt := 37) hx hb dX7_next_102 (by decide) ?_
                exact ih_37 (k + 1) (nI ((10 * (k + 1)) + 10)) ((nxS r st k).2) ((nxS r st k).1) (by omega) (by omega) (fun h => absurd h hft0) rfl hnx.2.symm hnx.1.symm _ _ _  (hW) hS ls (lv_sub hl [0, 2, 3, 4, 5, 6, 7] rfl)
              · skip
                have hnx := nx_new (r := r) (st := st) (k := k) (Or.inr (i_nle.mp c_5))
                refine lv_iload (pc := 91) hx hb dX7_next_91 (lv_at hl 0 rfl) ?_
                refine lv_istore (pc := 93) (lv' := [(5, .int (nxV r st (k + 1))), (7, .int (nxV r st (k + 1))), (6, .int (nI (10 * (k + 1)))), (4, .int ((nxS r st k).1)), (3, .int (chA r (ftA r))), (2, .int (ftA r)), (0, .ref (b 0)), (1, .int st)]) hx hb dX7_next_93 hl (by decide) rfl (fun ls hl => ?_)
                refine lv_iload (pc := 95) hx hb dX7_next_95 (lv_at hl 2 rfl) ?_
                refine lv_istore (pc := 97) (lv' := [(4, .int (nI (10 * (k + 1)))), (5, .int (nxV r st (k + 1))), (7, .int (nxV r st (k + 1))), (6, .int (nI (10 * (k + 1)))), (3, .int (chA r (ftA r))), (2, .int (ftA r)), (0, .ref (b 0)), (1, .int st)]) hx hb dX7_next_97 hl (by decide) rfl (fun ls hl => ?_)
                refine lv_iinc (pc := 99) (v := nI ((10 * (k + 1)) + 10)) (lv' := [(6, .int (nI ((10 * (k + 1)) + 10))), (4, .int (nI (10 * (k + 1)))), (5, .int (nxV r st (k + 1))), (7, .int (nxV r st (k + 1))), (3, .int (chA r (ftA r))), (2, .int (ftA r)), (0, .ref (b 0)), (1, .int st)]) hx hb dX7_next_99 hl (k := 3) rfl (nI_add _ 10) (by decide) rfl (fun ls hl => ?_)
                refine lv_goto (pc := 102) (tgt := 37) hx hb dX7_next_102 (by decide) ?_
                exact ih_37 (k + 1) (nI ((10 * (k + 1)) + 10)) (nxV r st (k + 1)) (nI (10 * (k + 1))) (by omega) (by omega) (fun h => absurd h hft0) rfl hnx.2.symm hnx.1.symm _ _ _  (hW) hS ls (lv_sub hl [0, 2, 1, 4, 5, 6, 7] rfl)
    exact loop_37 ((60 - 0) + 1) 0 10 0 (-4) (Nat.lt_succ_self _) (by omega) (fun _ => rfl) (by first | rfl | (simp [nextP, c_1]; done)) (by first | rfl | (simp [nextP, c_1]; done)) (by first | rfl | (simp [nextP, c_1]; done)) sg _ _  (hW) hS ls (lv_sub hl [0, 1, 2, 3, 4, 5, 6] rfl)
  · skip
    refine lv_iconst (pc := 7) (v := (-1)) hx hb dX7_next_7 (by decide) ?_
    exact z_wiret cx hr hlk dX7_next_8 hS ⟨_, (sI (by first | rfl | (simp [nextP, c_1]; done))), hW⟩
theorem k_X7_next {p : Program} {l : Launch} {e : Env} {R : Room} {s : State} {m : MethodId} {args : Array Value} {below : List Frame} {meth : Method} {c : Code} {H H0 : Heap} {locs : List Loc} {cells slots : Nat} {Q : State → Prop} {cc : ByteArray} {pc index : Nat} {ls : Array Slot} {rest st0 : List Value} {E : zE} {own : String} {nL : Nat} {F : Nat → Prop} {b : Nat → Nat} {tl : va_W} {pd : Bool} {qt : Nat → Option Nat} {qr : Nat → Option Nat} {tbu : Nat → Int32} {wst : Nat → Int32} {asw : Nat → Int32} {pN : Int32} {tN : Int32} {aN : Int32} {wx : Nat → Int32} {pp : Nat → Option Nat} {tp : Nat → Option Nat} {ap : Nat → Option Nat} {sg : Nat → Int32} {uh : Int32} {ud : Int32} {up : Int32} {ur : Int32} {us : Int32} {ux : Nat → Int32} {G : zG} {st : Int32} {r : Nat → Int32} (cx : Cx E p s args m c own cc nL) (hW : WW E (wK b E.2.1 tl pd qt qr tbu wst asw pN tN aN (hdC (r 3)) (r 4) (r 5) (r 6) (r 7) wx pp tp ap sg uh ud up ur us ux) G H) (hS : va_S F H0 H locs) (zF : ∀ q, (bF b) q → F q) (hG : CG E.2.1 G r pN tN aN wx pp tp ap) (zl : Cond.methodLink own index yX7_next ∈ AllW) (zR : 6 + 1 ≤ R.frames ∧ 8 + (8 + 11) + 144 ≤ R.locals) (zs : ls.size = nL) (zt : st0 = ([.int st] : List Value).reverse ++ .ref (b 0) :: rest) (z8 : (rest.map fun v => v.category).sum ≤ 8) (zd : decode cc pc = .ok (.invokevirtual index, 3)) (zf : cells ≤ R.cells ∧ slots ≤ R.slots) (kk0 : ∀ (sg2 : Nat → Int32) (H1 : Heap) (locs1 : List Loc), WW E (wK b E.2.1 tl pd qt qr tbu wst asw pN tN aN (hdC (r 3)) (r 4) (r 5) (r 6) (r 7) wx pp tp ap sg2 uh ud up ur us ux) G H1 → va_S F H0 H1 locs1 → W p l e R s m args below meth c H1 locs1 cells slots Q (F0 m (pc + 3) ls (.int (nextP r st) :: rest))) : W p l e R s m args below meth c H locs cells slots Q (F0 m pc ls st0) := by
  refine z_callVw cx vm_X7_next (c_X7_next l E b tl pd qt qr tbu wst asw pN tN aN wx pp tp ap sg uh ud up ur us ux G st r hG) (z_rec cx.2 (hW.at 0 rfl) rfl) hW hS zF zl ⟨rfl, rfl⟩ zR rfl zs zt z8 zd zf (fun v H1 locs1 hq hS1 _ => ?_)
  rcases hq with ⟨sg2, rfl, hW1⟩
  · exact kk0 sg2 H1 locs1  hW1 hS1
theorem vm_X7_beats : zVm yX7_beats cX7_beats 4 (some FieldType.int) 1 := ⟨m_co_X7_beats, m_in_RX7, ⟨m_im_X7_beats, m_se_X7_X7_beats⟩, by decide +kernel, by decide +kernel, by decide +kernel⟩
set_option maxHeartbeats 1000000 in
set_option maxRecDepth 100000 in
theorem c_X7_beats (l : Launch) (E : zE) (b : Nat → Nat) (tl : va_W) (pd : Bool) (qt : Nat → Option Nat) (qr : Nat → Option Nat) (tbu : Nat → Int32) (wst : Nat → Int32) (asw : Nat → Int32) (pN : Int32) (tN : Int32) (aN : Int32) (wx : Nat → Int32) (pp : Nat → Option Nat) (tp : Nat → Option Nat) (ap : Nat → Option Nat) (sg : Nat → Int32) (uh : Int32) (ud : Int32) (up : Int32) (ur : Int32) (us : Int32) (ux : Nat → Int32) (G : zG) (x : Int32) (r : Nat → Int32) (hG : CG E.2.1 G r pN tN aN wx pp tp ap) : Met l yX7_beats (.code yX7_beats cX7_beats 4 (some FieldType.int) :: AllW) (rm0' 6 137) (zP E (fun H => WW E (wK b E.2.1 tl pd qt qr tbu wst asw pN tN aN (hdC (r 3)) (r 4) (r 5) (r 6) (r 7) wx pp tp ap sg uh ud up ur us ux) G H) [.ref (b 0), .int x]) (rQ (.int (beatsP r x))) 0 0 nF := by
  refine z_body (own := RX7) (by decide) rfl rfl ?_
  intro p e s m args below meth c ls cx hr hlk hnm hW hl
  have hx := cx.x
  have hb := cx.b
  have hl : lv_has ls 4 [(0, .ref (b 0)), (1, .int x)] := hl
  have hG0 := hG
  obtain ⟨hI, hpN, htN, haN, hPc, hTh, hAk, hwx⟩ := hG
  have hC := hI.1
  have hIS := hI.2.1
  have hP := hI.2.2.1
  have hT := hI.2.2.2.1
  have hP10 := (Inv.n0 hC).2
  have hT7 := (Inv.n1 hC).2
  have hA24 := (Inv.n2 hC).2
  have e0 := (Inv.n0 hC).1
  have e1 := (Inv.n1 hC).1
  have e2 := (Inv.n2 hC).1
  refine lv_iload_n (pc := 0) hx hb dX7_beats_0 rfl (lv_at hl 1 rfl) ?_
  refine lv_if_ge (pc := 1) (tgt := 6) hx hb dX7_beats_1 (by decide) (fun c_1 => ?_) (fun c_1 => ?_)
  · skip
    have h0x : 0 ≤ x := c_1
    refine lv_aload_n (pc := 6) hx hb dX7_beats_6 rfl (lv_at hl 0 rfl) ?_
    refine z_get (pc := 7) cx (hW.at 0 rfl) (C := RX7) (T := TX7) (N := 11) rfl i_X7 0 rfl m_fl_X7_10 rfl dX7_beats_7 ?_
    refine lv_iload_n (pc := 10) hx hb dX7_beats_10 rfl (lv_at hl 1 rfl) ?_
    refine lv_aload_n (pc := 11) hx hb dX7_beats_11 rfl (lv_at hl 0 rfl) ?_
    refine z_get (pc := 12) cx (hW.at 0 rfl) (C := RX7) (T := TX7) (N := 11) rfl i_X7 0 rfl m_fl_X7_10 rfl dX7_beats_12 ?_
    refine z_get (pc := 15) cx (hW.at 6 rfl) (C := RX1) (T := TX1) (N := 8) rfl i_X1 3 rfl m_fl_X7_117 rfl dX7_beats_15 ?_
    refine k_X1_wolfAt (pc := 18) (x := x) (t := b 7) (w := b 8) (xw := wx) cx hW hI hpN hPc h0x (fun _ _ h => ⟨h.at 7 rfl, h.at 8 rfl, hwx⟩) m_ml_X7_302 ⟨Nat.le_of_ble_eq_true rfl, Nat.le_of_ble_eq_true rfl⟩ hl.1 rfl (by simp [Value.category]) dX7_beats_18 ⟨Nat.le_refl _, Nat.le_refl _⟩ ?_
    refine lv_istore_n (pc := 21) (lv' := [(2, .int (wfO r x)), (0, .ref (b 0)), (1, .int x)]) hx hb dX7_beats_21 rfl hl (by decide) rfl (fun ls hl => ?_)
    refine lv_iload_n (pc := 22) hx hb dX7_beats_22 rfl (lv_at hl 0 rfl) ?_
    refine lv_if_ge (pc := 23) (tgt := 29) hx hb dX7_beats_23 (by decide) (fun c_2 => ?_) (fun c_2 => ?_)
    · skip
      obtain ⟨a, b2, ha, hb2, ew⟩ := wf_pair h0x (i_nlt.mpr c_2)
      refine lv_aload_n (pc := 29) hx hb dX7_beats_29 rfl (lv_at hl 1 rfl) ?_
      refine z_get (pc := 30) cx (hW.at 0 rfl) (C := RX7) (T := TX7) (N := 11) rfl i_X7 0 rfl m_fl_X7_10 rfl dX7_beats_30 ?_
      refine lv_iload_n (pc := 33) hx hb dX7_beats_33 rfl (lv_at hl 0 rfl) ?_
      refine lv_bipush (pc := 34) (v := 10) hx hb dX7_beats_34 (by decide) ?_
      refine lv_idiv (pc := 36) hx hb dX7_beats_36 (by decide) ?_
      refine z_tope (y := nI a) (pair_a (by omega) (by omega) ew) ?_
      refine lv_iload_n (pc := 37) hx hb dX7_beats_37 rfl (lv_at hl 0 rfl) ?_
      refine lv_bipush (pc := 38) (v := 10) hx hb dX7_beats_38 (by decide) ?_
      refine lv_irem (pc := 40) hx hb dX7_beats_40 (by decide) ?_
      refine z_tope (y := irm (wfO r x) 10) rfl ?_
      refine z_tope (y := nI b2) (pair_b (by omega) (by omega) ew) ?_
      refine lv_aload_n (pc := 41) hx hb dX7_beats_41 rfl (lv_at hl 1 rfl) ?_
      refine z_get (pc := 42) cx (hW.at 0 rfl) (C := RX7) (T := TX7) (N := 11) rfl i_X7 0 rfl m_fl_X7_10 rfl dX7_beats_42 ?_
      refine z_get (pc := 45) cx (hW.at 6 rfl) (C := RX1) (T := TX1) (N := 8) rfl i_X1 3 rfl m_fl_X7_117 rfl dX7_beats_45 ?_
      refine k_X1_apart (pc := 48) (n := a) (k := b2) (t := b 7) (w := b 8) (xw := wx) cx hW hI hpN hPc ha hb2 (fun _ _ h => ⟨h.at 7 rfl, h.at 8 rfl, hwx⟩) m_ml_X7_306 ⟨Nat.le_of_ble_eq_true rfl, Nat.le_of_ble_eq_true rfl⟩ hl.1 rfl (by simp [Value.category]) dX7_beats_48 ⟨Nat.le_refl _, Nat.le_refl _⟩ ?_
      refine lv_istore_n (pc := 51) (lv' := [(3, .int (amt (tnN r a - tnN r b2))), (2, .int (wfO r x)), (0, .ref (b 0)), (1, .int x)]) hx hb dX7_beats_51 rfl hl (by decide) rfl (fun ls hl => ?_)
      refine lv_iload_n (pc := 52) hx hb dX7_beats_52 rfl (lv_at hl 0 rfl) ?_
      refine lv_if_gt (pc := 53) (tgt := 62) hx hb dX7_beats_53 (by decide) (fun c_3 => ?_) (fun c_3 => ?_)
      · skip
        have hbt := bt_1 hI ha hb2 ew c_3
        refine lv_sipush (pc := 62) (v := 600) hx hb dX7_beats_62 (by decide) ?_
        refine lv_iload_n (pc := 65) hx hb dX7_beats_65 rfl (lv_at hl 0 rfl) ?_
        refine lv_idiv (pc := 66) hx hb dX7_beats_66 (nz_gt c_3) ?_
        exact z_iret cx hr hlk dX7_beats_67 (by simp [beatsP, c_1, c_2, c_3, i_nlt.mpr c_1, i_nlt.mpr c_2, i_nle.mpr c_3, hbt])
      · skip
        have hbt := bt_0 hI ha hb2 ew c_3
        refine lv_sipush (pc := 56) (v := 600) hx hb dX7_beats_56 (by decide) ?_
        refine lv_goto (pc := 59) (tgt := 67) hx hb dX7_beats_59 (by decide) ?_
        exact z_iret cx hr hlk dX7_beats_67 (by simp [beatsP, c_1, c_2, c_3, i_nlt.mpr c_1, i_nlt.mpr c_2, i_nlt.mp c_3, hbt])
    · skip
      refine lv_bipush (pc := 26) (v := (-4)) hx hb dX7_beats_26 (by decide) ?_
      exact z_iret cx hr hlk dX7_beats_28 (by first | rfl | (simp [beatsP, c_1, c_2, i_nlt.mpr c_1, i_nle.mp c_2]; done))
  · skip
    refine lv_iconst (pc := 4) (v := (-1)) hx hb dX7_beats_4 (by decide) ?_
    exact z_iret cx hr hlk dX7_beats_5 (by first | rfl | (simp [beatsP, c_1, i_nle.mp c_1]; done))
theorem k_X7_beats {p : Program} {l : Launch} {e : Env} {R : Room} {s : State} {m : MethodId} {args : Array Value} {below : List Frame} {meth : Method} {c : Code} {H : Heap} {locs : List Loc} {cells slots : Nat} {Q : State → Prop} {cc : ByteArray} {pc index : Nat} {ls : Array Slot} {rest st0 : List Value} {E : zE} {own : String} {nL : Nat} {b : Nat → Nat} {tl : va_W} {pd : Bool} {qt : Nat → Option Nat} {qr : Nat → Option Nat} {tbu : Nat → Int32} {wst : Nat → Int32} {asw : Nat → Int32} {pN : Int32} {tN : Int32} {aN : Int32} {wx : Nat → Int32} {pp : Nat → Option Nat} {tp : Nat → Option Nat} {ap : Nat → Option Nat} {sg : Nat → Int32} {uh : Int32} {ud : Int32} {up : Int32} {ur : Int32} {us : Int32} {ux : Nat → Int32} {G : zG} {x : Int32} {r : Nat → Int32} (cx : Cx E p s args m c own cc nL) (hW : WW E (wK b E.2.1 tl pd qt qr tbu wst asw pN tN aN (hdC (r 3)) (r 4) (r 5) (r 6) (r 7) wx pp tp ap sg uh ud up ur us ux) G H) (hG : CG E.2.1 G r pN tN aN wx pp tp ap) (zl : Cond.methodLink own index yX7_beats ∈ AllW) (zR : 6 + 1 ≤ R.frames ∧ 8 + (4 + 11) + 137 ≤ R.locals) (zs : ls.size = nL) (zt : st0 = ([.int x] : List Value).reverse ++ .ref (b 0) :: rest) (z8 : (rest.map fun v => v.category).sum ≤ 8) (zd : decode cc pc = .ok (.invokevirtual index, 3)) (zf : cells ≤ R.cells ∧ slots ≤ R.slots) (kk : W p l e R s m args below meth c H locs cells slots Q (F0 m (pc + 3) ls (.int (beatsP r x) :: rest))) : W p l e R s m args below meth c H locs cells slots Q (F0 m pc ls st0) :=
  z_callV cx vm_X7_beats (c_X7_beats l E b tl pd qt qr tbu wst asw pN tN aN wx pp tp ap sg uh ud up ur us ux G x r hG) (z_rec cx.2 (hW.at 0 rfl) rfl) hW zl ⟨rfl, rfl⟩ zR rfl zs zt z8 zd zf kk
theorem vm_X7_bands : zVm yX7_bands cX7_bands 10 (some FieldType.int) 4 := ⟨m_co_X7_bands, m_in_RX7, ⟨m_im_X7_bands, m_se_X7_X7_bands⟩, by decide +kernel, by decide +kernel, by decide +kernel⟩
set_option maxHeartbeats 1000000 in
set_option maxRecDepth 100000 in
theorem c_X7_bands (l : Launch) (E : zE) (b : Nat → Nat) (tl : va_W) (pd : Bool) (qt : Nat → Option Nat) (qr : Nat → Option Nat) (tbu : Nat → Int32) (wst : Nat → Int32) (asw : Nat → Int32) (pN : Int32) (tN : Int32) (aN : Int32) (wx : Nat → Int32) (pp : Nat → Option Nat) (tp : Nat → Option Nat) (ap : Nat → Option Nat) (sg : Nat → Int32) (uh : Int32) (ud : Int32) (up : Int32) (ur : Int32) (us : Int32) (ux : Nat → Int32) (G : zG) (x st i w : Int32) (r : Nat → Int32) (hG : CG E.2.1 G r pN tN aN wx pp tp ap) : Met l yX7_bands (.code yX7_bands cX7_bands 10 (some FieldType.int) :: AllW) (rm0' 5 119) (zP E (fun H => WW E (wK b E.2.1 tl pd qt qr tbu wst asw pN tN aN (hdC (r 3)) (r 4) (r 5) (r 6) (r 7) wx pp tp ap sg uh ud up ur us ux) G H) [.ref (b 0), .int x, .int st, .int i, .int w]) (zQ (fun (_ : Heap) (v : Option Value) (H1 : Heap) => (∃ (sg2 : Nat → Int32), v = some (.int (bandsP r x st i w)) ∧ WW E (wK b E.2.1 tl pd qt qr tbu wst asw pN tN aN (hdC (r 3)) (r 4) (r 5) (r 6) (r 7) wx pp tp ap sg2 uh ud up ur us ux) G H1)) (bF b)) 0 0 (bF b) := by
  refine z_body (own := RX7) (by decide) rfl rfl ?_
  intro p e s m args below meth c ls cx hr hlk hnm hW hl
  have hx := cx.x
  have hb := cx.b
  have hl : lv_has ls 10 [(0, .ref (b 0)), (1, .int x), (2, .int st), (3, .int i), (4, .int w)] := hl
  have hFb : ∀ k, (bF b) (b k) := fun k => bF_in b k
  have hS : va_S (bF b) s.heap s.heap [] := va_S.rf
  have hG0 := hG
  obtain ⟨hI, hpN, htN, haN, hPc, hTh, hAk, hwx⟩ := hG
  have hC := hI.1
  have hIS := hI.2.1
  have hP := hI.2.2.1
  have hT := hI.2.2.2.1
  have hP10 := (Inv.n0 hC).2
  have hT7 := (Inv.n1 hC).2
  have hA24 := (Inv.n2 hC).2
  have e0 := (Inv.n0 hC).1
  have e1 := (Inv.n1 hC).1
  have e2 := (Inv.n2 hC).1
  refine lv_aload_n (pc := 0) hx hb dX7_bands_0 rfl (lv_at hl 0 rfl) ?_
  refine z_get (pc := 1) cx (hW.at 0 rfl) (C := RX7) (T := TX7) (N := 11) rfl i_X7 0 rfl m_fl_X7_10 rfl dX7_bands_1 ?_
  refine lv_iload_n (pc := 4) hx hb dX7_bands_4 rfl (lv_at hl 1 rfl) ?_
  by_cases c_1 : isTh r x = true
  · skip
    obtain ⟨n, hn, rfl⟩ := th_nat hC c_1
    have hNn := iN_nI (n := n) (by omega)
    obtain ⟨q1, h1q1, h2q1⟩ := hTh n hn
    refine k_X1_thingAt (pc := 5) (n := n) (q := q1) cx hW hC htN hn h1q1 m_ml_X7_133 ⟨Nat.le_of_ble_eq_true rfl, Nat.le_of_ble_eq_true rfl⟩ hl.1 rfl (by simp [Value.category]) dX7_bands_5 ⟨Nat.le_refl _, Nat.le_refl _⟩ ?_
    refine lv_astore (pc := 8) (lv' := [(5, .ref q1), (0, .ref (b 0)), (1, .int (nI n)), (2, .int st), (3, .int i), (4, .int w)]) hx hb dX7_bands_8 hl (by decide) rfl (fun ls hl => ?_)
    refine lv_aload (pc := 10) hx hb dX7_bands_10 (lv_at hl 0 rfl) ?_
    refine lv_ifnull (pc := 12) hx hb dX7_bands_12 ?_
    refine lv_iload_n (pc := 15) hx hb dX7_bands_15 rfl (lv_at hl 3 rfl) ?_
    refine k_X7_isStrong (pc := 16) (x := st) cx  m_ml_X7_197 ⟨Nat.le_of_ble_eq_true rfl, Nat.le_of_ble_eq_true rfl⟩ hl.1 rfl (by simp [Value.category]) dX7_bands_16 ⟨Nat.le_refl _, Nat.le_refl _⟩ ?_
    refine z_ifeq (pc := 19) (tgt := 37) hx hb dX7_bands_19 (by decide) (fun c_2 => ?_) (fun c_2 => ?_)
    · skip
      refine lv_iconst (pc := 37) (v := (-1)) hx hb dX7_bands_37 (by decide) ?_
      exact z_wiret cx hr hlk dX7_bands_38 hS ⟨_, (sI (by first | rfl | (simp [bandsP, c_1, hNn, c_2]; done))), hW⟩
    · skip
      refine lv_iload_n (pc := 22) hx hb dX7_bands_22 rfl (lv_at hl 4 rfl) ?_
      refine lv_iconst (pc := 23) (v := (-1)) hx hb dX7_bands_23 (by decide) ?_
      refine lv_icmp_lt (pc := 24) (tgt := 37) hx hb dX7_bands_24 (by decide) (fun c_3 => ?_) (fun c_3 => ?_)
      · skip
        refine lv_iconst (pc := 37) (v := (-1)) hx hb dX7_bands_37 (by decide) ?_
        exact z_wiret cx hr hlk dX7_bands_38 hS ⟨_, (sI (by first | rfl | (simp [bandsP, c_1, hNn, c_2, c_3, i_nle.mpr c_3]; done))), hW⟩
      · skip
        have hm1 := i_nlt.mp c_3
        refine lv_iload (pc := 27) hx hb dX7_bands_27 (lv_at hl 5 rfl) ?_
        refine lv_iconst (pc := 29) (v := 0) hx hb dX7_bands_29 (by decide) ?_
        refine lv_iconst (pc := 30) (v := 1) hx hb dX7_bands_30 (by decide) ?_
        refine k_X7_isWithin (pc := 31) (x := w) (y := 0) (z := 1) cx  m_ml_X7_159 ⟨Nat.le_of_ble_eq_true rfl, Nat.le_of_ble_eq_true rfl⟩ hl.1 rfl (by simp [Value.category]) dX7_bands_31 ⟨Nat.le_refl _, Nat.le_refl _⟩ ?_
        refine z_ifne (pc := 34) (tgt := 39) hx hb dX7_bands_34 (by decide) (fun c_4 => ?_) (fun c_4 => ?_)
        · skip
          have hw01 := inL_1 c_4
          refine lv_iconst (pc := 39) (v := 0) hx hb dX7_bands_39 (by decide) ?_
          refine lv_istore (pc := 40) (lv' := [(6, .int 0), (5, .ref q1), (0, .ref (b 0)), (1, .int (nI n)), (2, .int st), (3, .int i), (4, .int w)]) hx hb dX7_bands_40 hl (by decide) rfl (fun ls hl => ?_)
          refine lv_iconst (pc := 42) (v := 0) hx hb dX7_bands_42 (by decide) ?_
          refine lv_istore (pc := 43) (lv' := [(7, .int 0), (6, .int 0), (5, .ref q1), (0, .ref (b 0)), (1, .int (nI n)), (2, .int st), (3, .int i), (4, .int w)]) hx hb dX7_bands_43 hl (by decide) rfl (fun ls hl => ?_)
          refine lv_iconst (pc := 45) (v := 1) hx hb dX7_bands_45 (by decide) ?_
          refine lv_istore (pc := 46) (lv' := [(8, .int 1), (7, .int 0), (6, .int 0), (5, .ref q1), (0, .ref (b 0)), (1, .int (nI n)), (2, .int st), (3, .int i), (4, .int w)]) hx hb dX7_bands_46 hl (by decide) rfl (fun ls hl => ?_)
          have loop_48 : ∀ (k_48 : Nat) (f : Nat) (e2 : Nat) (s2 : Nat) (x8 : Int32) (x7 : Int32) (x6 : Int32), (602 - f) < k_48 → (1 ≤ f ∧ f ≤ 602) → (e2 ≤ f) → (s2 ≤ f) → (f = 602 → s2 = 0) → (bnd (fun f => bzA r n (nI f) st) i w 601 1 0 false = bnC (fun f => bzA r n (nI f) st) i w f e2 s2) → x8 = nI f → x7 = nI s2 → x6 = nI e2 → ∀ (sg2 : Nat → Int32) (H : Heap) (locs : List Loc), WW E (wK b E.2.1 tl pd qt qr tbu wst asw pN tN aN (hdC (r 3)) (r 4) (r 5) (r 6) (r 7) wx pp tp ap sg2 uh ud up ur us ux) G H → va_S (bF b) s.heap H locs → ∀ (ls : Array Slot), lv_has ls 10 [(8, .int x8), (7, .int x7), (6, .int x6), (5, .ref q1), (0, .ref (b 0)), (1, .int (nI n)), (2, .int st), (3, .int i), (4, .int w)] → W p l e (rm0' (5) (119)) s m args below meth c H locs 0 0 (MQ below (zQ (fun (_ : Heap) (v : Option Value) (H1 : Heap) => (∃ (sg2 : Nat → Int32), v = some (.int (bandsP r (nI n) st i w)) ∧ WW E (wK b E.2.1 tl pd qt qr tbu wst asw pN tN aN (hdC (r 3)) (r 4) (r 5) (r 6) (r 7) wx pp tp ap sg2 uh ud up ur us ux) G H1)) (bF b)) args s 0 0 (bF b)) (F0 m 48 ls []) := by
            intro k_48
            induction k_48 with
            | zero =>
              intro f e2 s2 x8 x7 x6 hm
              exact absurd hm (Nat.not_lt_zero _)
            | succ k_48 ih_48 =>
              intro f e2 s2 x8 x7 x6 hm_48 hf1 he1 hs1 hf0 hB e_x8 e_x7 e_x6 sg2 H locs  hW hS ls hl
              subst e_x8
              subst e_x7
              subst e_x6
              refine lv_iload (pc := 48) hx hb dX7_bands_48 (lv_at hl 0 rfl) ?_
              refine lv_sipush (pc := 50) (v := 601) hx hb dX7_bands_50 (by decide) ?_
              refine lv_icmp_gt (pc := 53) (tgt := 150) hx hb dX7_bands_53 (by decide) (fun c_5 => ?_) (fun c_5 => ?_)
              · skip
                obtain rfl : f = 602 := by have := gtn (a := 601) (b := f) rfl rfl (by omega) (by omega) c_5; omega
                obtain rfl : s2 = 0 := hf0 rfl
                have hB2 := hB.trans (bn_E _ _ _ _)
                refine lv_iload_n (pc := 150) hx hb dX7_bands_150 rfl (lv_at hl 7 rfl) ?_
                refine lv_iconst (pc := 151) (v := (-1)) hx hb dX7_bands_151 (by decide) ?_
                refine lv_icmp_ne (pc := 152) (tgt := 160) hx hb dX7_bands_152 (by decide) (fun c_6 => ?_) (fun c_6 => ?_)
                · skip
                  have hi1 := hB2.trans (if_pos (ge0_of hm1 c_6))
                  refine lv_bipush (pc := 160) (v := (-4)) hx hb dX7_bands_160 (by decide) ?_
                  exact z_wiret cx hr hlk dX7_bands_162 hS ⟨_, (sI (by simp only [bandsP, c_1, hNn, c_2, c_3, c_4, i_nlt.mp c_3, and_self, if_true, hi1])), hW⟩
                · skip
                  have hi1 := hB2.trans (if_neg (by rw [c_6]; decide))
                  refine lv_iload (pc := 155) hx hb dX7_bands_155 (lv_at hl 2 rfl) ?_
                  refine lv_goto (pc := 157) (tgt := 162) hx hb dX7_bands_157 (by decide) ?_
                  exact z_wiret cx hr hlk dX7_bands_162 hS ⟨_, (sI (by simp only [bandsP, c_1, hNn, c_2, c_3, c_4, i_nlt.mp c_3, and_self, if_true, hi1])), hW⟩
              · skip
                have hle := ngt (a := 601) (b := f) rfl rfl (by omega) (by omega) c_5
                refine lv_iload (pc := 56) hx hb dX7_bands_56 (lv_at hl 0 rfl) ?_
                refine lv_sipush (pc := 58) (v := 600) hx hb dX7_bands_58 (by decide) ?_
                refine lv_icmp_gt (pc := 61) (tgt := 90) hx hb dX7_bands_61 (by decide) (fun c_7 => ?_) (fun c_7 => ?_)
                · skip
                  have hgt := gtn (a := 600) (b := f) rfl rfl (by omega) (by omega) c_7
                  have hz : (decide (f ≤ 600) && (fun f => bzA r n (nI f) st) f) = false := by simp [show ¬ f ≤ 600 by omega]
                  refine lv_iconst (pc := 90) (v := 0) hx hb dX7_bands_90 (by decide) ?_
                  refine lv_istore (pc := 91) (lv' := [(9, .int 0), (8, .int (nI f)), (7, .int (nI s2)), (6, .int (nI e2)), (5, .ref q1), (0, .ref (b 0)), (1, .int (nI n)), (2, .int st), (3, .int i), (4, .int w)]) hx hb dX7_bands_91 hl (by decide) rfl (fun ls hl => ?_)
                  refine lv_iload (pc := 93) hx hb dX7_bands_93 (lv_at hl 0 rfl) ?_
                  refine lv_if_eq (pc := 95) (tgt := 107) hx hb dX7_bands_95 (by decide) (fun _ => ?_) (fun c => (c (by decide)).elim)
                  refine lv_iload (pc := 107) hx hb dX7_bands_107 (lv_at hl 0 rfl) ?_
                  refine lv_if_ne (pc := 109) (tgt := 144) hx hb dX7_bands_109 (by decide) (fun c => (c (by decide)).elim) (fun _ => ?_)
                  refine lv_iload (pc := 112) hx hb dX7_bands_112 (lv_at hl 2 rfl) ?_
                  refine lv_if_le (pc := 114) (tgt := 144) hx hb dX7_bands_114 (by decide) (fun c_10 => ?_) (fun c_10 => ?_)
                  · skip
                    obtain rfl : s2 = 0 := by have := nle0 (n := s2) (by omega) c_10; omega
                    refine lv_iinc (pc := 144) (v := nI (f + 1)) (lv' := [(8, .int (nI (f + 1))), (9, .int 0), (7, .int (nI 0)), (6, .int (nI e2)), (5, .ref q1), (0, .ref (b 0)), (1, .int (nI n)), (2, .int st), (3, .int i), (4, .int w)]) hx hb dX7_bands_144 hl (k := 1) rfl (nI_1 _) (by decide) rfl (fun ls hl => ?_)
                    refine lv_goto (pc := 147) (tgt := 48) hx hb dX7_bands_147 (by decide) ?_
                    exact ih_48 (f + 1) e2 0 (nI (f + 1)) (nI 0) (nI e2) (by omega) (by omega) (by omega) (by omega) (by intro h; first | rfl | (exfalso; rw [show f = 601 by omega] at hz; simp at hz) | omega) (by first | exact hB.trans (bn_A (by omega) hz) | exact hB.trans (bn_B (by omega) (by omega) (by omega) hz) | exact hB.trans (bn_C (by omega) hs2 (by omega) hz) | exact hB.trans (bn_D2 (by omega) hs2 (by omega) c_4 hz)) (by first | rfl | (simp [bandsP, c_1, hNn, c_2, c_3, c_4, i_nlt.mp c_3]; done)) rfl (by first | rfl | exact nI_1 _) _ _ _  (hW) hS ls (lv_sub hl [0, 2, 3, 4, 5, 6, 7, 8, 9] rfl)
                  · skip
                    have hs2 : 0 < s2 := Nat.pos_of_ne_zero (fun h => c_10 (by rw [h]; decide))
                    refine lv_iload (pc := 117) hx hb dX7_bands_117 (lv_at hl 3 rfl) ?_
                    refine lv_iload_n (pc := 119) hx hb dX7_bands_119 rfl (lv_at hl 8 rfl) ?_
                    refine lv_icmp_ne (pc := 120) (tgt := 138) hx hb dX7_bands_120 (by decide) (fun c_11 => ?_) (fun c_11 => ?_)
                    · skip
                      refine lv_iinc (pc := 138) (v := nI (e2 + 1)) (lv' := [(6, .int (nI (e2 + 1))), (9, .int 0), (8, .int (nI f)), (7, .int (nI s2)), (5, .ref q1), (0, .ref (b 0)), (1, .int (nI n)), (2, .int st), (3, .int i), (4, .int w)]) hx hb dX7_bands_138 hl (k := 3) rfl (nI_1 _) (by decide) rfl (fun ls hl => ?_)
                      refine lv_iconst (pc := 141) (v := 0) hx hb dX7_bands_141 (by decide) ?_
                      refine lv_istore (pc := 142) (lv' := [(7, .int 0), (6, .int (nI (e2 + 1))), (9, .int 0), (8, .int (nI f)), (5, .ref q1), (0, .ref (b 0)), (1, .int (nI n)), (2, .int st), (3, .int i), (4, .int w)]) hx hb dX7_bands_142 hl (by decide) rfl (fun ls hl => ?_)
                      refine lv_iinc (pc := 144) (v := nI (f + 1)) (lv' := [(8, .int (nI (f + 1))), (7, .int 0), (6, .int (nI (e2 + 1))), (9, .int 0), (5, .ref q1), (0, .ref (b 0)), (1, .int (nI n)), (2, .int st), (3, .int i), (4, .int w)]) hx hb dX7_bands_144 hl (k := 3) rfl (nI_1 _) (by decide) rfl (fun ls hl => ?_)
                      refine lv_goto (pc := 147) (tgt := 48) hx hb dX7_bands_147 (by decide) ?_
                      exact ih_48 (f + 1) (e2 + 1) 0 (nI (f + 1)) 0 (nI (e2 + 1)) (by omega) (by omega) (by omega) (by omega) (by intro h; first | rfl | (exfalso; rw [show f = 601 by omega] at hz; simp at hz) | omega) (by first | exact hB.trans (bn_A (by omega) hz) | exact hB.trans (bn_B (by omega) (by omega) (by omega) hz) | exact hB.trans (bn_C (by omega) hs2 (by omega) hz) | exact hB.trans (bn_D2 (by omega) hs2 (by omega) c_11 hz)) (by first | rfl | (simp [bandsP, c_1, hNn, c_2, c_3, c_4, c_11, i_nlt.mp c_3]; done)) rfl (by first | rfl | exact nI_1 _) _ _ _  (hW) hS ls (lv_sub hl [0, 1, 2, 4, 5, 6, 7, 8, 9] rfl)
                    · skip
                      have hei := c_11
                      refine lv_iload (pc := 123) hx hb dX7_bands_123 (lv_at hl 9 rfl) ?_
                      refine lv_if_ne (pc := 125) (tgt := 133) hx hb dX7_bands_125 (by decide) (fun c_12 => ?_) (fun c_12 => ?_)
                      · skip
                        have hD := hB.trans (bn_D1 (by omega) hs2 (by omega) hei (hw01.resolve_left c_12) hz)
                        refine lv_iload (pc := 133) hx hb dX7_bands_133 (lv_at hl 1 rfl) ?_
                        refine lv_iconst (pc := 135) (v := 1) hx hb dX7_bands_135 (by decide) ?_
                        refine lv_isub (pc := 136) hx hb dX7_bands_136 ?_
                        exact z_wiret cx hr hlk dX7_bands_137 hS ⟨_, (sI (by simp only [bandsP, c_1, hNn, c_2, c_3, c_4, i_nlt.mp c_3, and_self, if_true, hD])), hW⟩
                      · skip
                        have hD := hB.trans (bn_D0 hs2 hei c_12)
                        refine lv_iload (pc := 128) hx hb dX7_bands_128 (lv_at hl 2 rfl) ?_
                        refine lv_goto (pc := 130) (tgt := 137) hx hb dX7_bands_130 (by decide) ?_
                        exact z_wiret cx hr hlk dX7_bands_137 hS ⟨_, (sI (by simp only [bandsP, c_1, hNn, c_2, c_3, c_4, i_nlt.mp c_3, and_self, if_true, hD])), hW⟩
                · skip
                  have hl6 := ngt (a := 600) (b := f) rfl rfl (by omega) (by omega) c_7
                  refine lv_aload_n (pc := 64) hx hb dX7_bands_64 rfl (lv_at hl 4 rfl) ?_
                  refine z_get (pc := 65) cx (hW.at 0 rfl) (C := RX7) (T := TX7) (N := 11) rfl i_X7 0 rfl m_fl_X7_10 rfl dX7_bands_65 ?_
                  refine lv_aload (pc := 68) hx hb dX7_bands_68 (lv_at hl 3 rfl) ?_
                  refine lv_aload_n (pc := 70) hx hb dX7_bands_70 rfl (lv_at hl 4 rfl) ?_
                  refine z_get (pc := 71) cx (hW.at 0 rfl) (C := RX7) (T := TX7) (N := 11) rfl i_X7 0 rfl m_fl_X7_10 rfl dX7_bands_71 ?_
                  refine z_get (pc := 74) cx (hW.at 6 rfl) (C := RX1) (T := TX1) (N := 8) rfl i_X1 3 rfl m_fl_X7_117 rfl dX7_bands_74 ?_
                  refine lv_iload (pc := 77) hx hb dX7_bands_77 (lv_at hl 0 rfl) ?_
                  refine lv_iload_n (pc := 79) hx hb dX7_bands_79 rfl (lv_at hl 6 rfl) ?_
                  refine k_X1_isBuzzing (pc := 80) (q := q1) (t := b 7) (f := nI f) (st := st) (w := b 8) (xw := wx) (n := n) cx hW hS (fun _ h => h) hI hpN hPc hn (rgN (by omega) (by omega) (by omega)) h2q1 (fun _ _ h => ⟨h.at 7 rfl, h.at 8 rfl, hwx⟩) m_ml_X7_190 ⟨Nat.le_of_ble_eq_true rfl, Nat.le_of_ble_eq_true rfl⟩ hl.1 rfl (by simp [Value.category]) dX7_bands_80 ⟨Nat.le_refl _, Nat.le_refl _⟩ (fun sg2 H locs  hW hS => ?_)
                  have hW : WW E (wK b E.2.1 tl pd qt qr tbu wst asw pN tN aN (hdC (r 3)) (r 4) (r 5) (r 6) (r 7) wx pp tp ap sg2 uh ud up ur us ux) G H := hW
                  refine z_ifeq (pc := 83) (tgt := 90) hx hb dX7_bands_83 (by decide) (fun c_13 => ?_) (fun c_13 => ?_)
                  · skip
                    have hz : (decide (f ≤ 600) && (fun f => bzA r n (nI f) st) f) = false := by simp [c_13]
                    refine lv_iconst (pc := 90) (v := 0) hx hb dX7_bands_90 (by decide) ?_
                    refine lv_istore (pc := 91) (lv' := [(9, .int 0), (8, .int (nI f)), (7, .int (nI s2)), (6, .int (nI e2)), (5, .ref q1), (0, .ref (b 0)), (1, .int (nI n)), (2, .int st), (3, .int i), (4, .int w)]) hx hb dX7_bands_91 hl (by decide) rfl (fun ls hl => ?_)
                    refine lv_iload (pc := 93) hx hb dX7_bands_93 (lv_at hl 0 rfl) ?_
                    refine lv_if_eq (pc := 95) (tgt := 107) hx hb dX7_bands_95 (by decide) (fun _ => ?_) (fun c => (c (by decide)).elim)
                    refine lv_iload (pc := 107) hx hb dX7_bands_107 (lv_at hl 0 rfl) ?_
                    refine lv_if_ne (pc := 109) (tgt := 144) hx hb dX7_bands_109 (by decide) (fun c => (c (by decide)).elim) (fun _ => ?_)
                    refine lv_iload (pc := 112) hx hb dX7_bands_112 (lv_at hl 2 rfl) ?_
                    refine lv_if_le (pc := 114) (tgt := 144) hx hb dX7_bands_114 (by decide) (fun c_16 => ?_) (fun c_16 => ?_)
                    · skip
                      obtain rfl : s2 = 0 := by have := nle0 (n := s2) (by omega) c_16; omega
                      refine lv_iinc (pc := 144) (v := nI (f + 1)) (lv' := [(8, .int (nI (f + 1))), (9, .int 0), (7, .int (nI 0)), (6, .int (nI e2)), (5, .ref q1), (0, .ref (b 0)), (1, .int (nI n)), (2, .int st), (3, .int i), (4, .int w)]) hx hb dX7_bands_144 hl (k := 1) rfl (nI_1 _) (by decide) rfl (fun ls hl => ?_)
                      refine lv_goto (pc := 147) (tgt := 48) hx hb dX7_bands_147 (by decide) ?_
                      exact ih_48 (f + 1) e2 0 (nI (f + 1)) (nI 0) (nI e2) (by omega) (by omega) (by omega) (by omega) (by intro h; first | rfl | (exfalso; rw [show f = 601 by omega] at hz; simp at hz) | omega) (by first | exact hB.trans (bn_A (by omega) hz) | exact hB.trans (bn_B (by omega) (by omega) (by omega) hz) | exact hB.trans (bn_C (by omega) hs2 (by omega) hz) | exact hB.trans (bn_D2 (by omega) hs2 (by omega) c_4 hz)) (by first | rfl | (simp [bandsP, c_1, hNn, c_2, c_3, c_4, i_nlt.mp c_3]; done)) rfl (by first | rfl | exact nI_1 _) _ _ _  (hW) hS ls (lv_sub hl [0, 2, 3, 4, 5, 6, 7, 8, 9] rfl)
                    · skip
                      have hs2 : 0 < s2 := Nat.pos_of_ne_zero (fun h => c_16 (by rw [h]; decide))
                      refine lv_iload (pc := 117) hx hb dX7_bands_117 (lv_at hl 3 rfl) ?_
                      refine lv_iload_n (pc := 119) hx hb dX7_bands_119 rfl (lv_at hl 8 rfl) ?_
                      refine lv_icmp_ne (pc := 120) (tgt := 138) hx hb dX7_bands_120 (by decide) (fun c_17 => ?_) (fun c_17 => ?_)
                      · skip
                        refine lv_iinc (pc := 138) (v := nI (e2 + 1)) (lv' := [(6, .int (nI (e2 + 1))), (9, .int 0), (8, .int (nI f)), (7, .int (nI s2)), (5, .ref q1), (0, .ref (b 0)), (1, .int (nI n)), (2, .int st), (3, .int i), (4, .int w)]) hx hb dX7_bands_138 hl (k := 3) rfl (nI_1 _) (by decide) rfl (fun ls hl => ?_)
                        refine lv_iconst (pc := 141) (v := 0) hx hb dX7_bands_141 (by decide) ?_
                        refine lv_istore (pc := 142) (lv' := [(7, .int 0), (6, .int (nI (e2 + 1))), (9, .int 0), (8, .int (nI f)), (5, .ref q1), (0, .ref (b 0)), (1, .int (nI n)), (2, .int st), (3, .int i), (4, .int w)]) hx hb dX7_bands_142 hl (by decide) rfl (fun ls hl => ?_)
                        refine lv_iinc (pc := 144) (v := nI (f + 1)) (lv' := [(8, .int (nI (f + 1))), (7, .int 0), (6, .int (nI (e2 + 1))), (9, .int 0), (5, .ref q1), (0, .ref (b 0)), (1, .int (nI n)), (2, .int st), (3, .int i), (4, .int w)]) hx hb dX7_bands_144 hl (k := 3) rfl (nI_1 _) (by decide) rfl (fun ls hl => ?_)
                        refine lv_goto (pc := 147) (tgt := 48) hx hb dX7_bands_147 (by decide) ?_
                        exact ih_48 (f + 1) (e2 + 1) 0 (nI (f + 1)) 0 (nI (e2 + 1)) (by omega) (by omega) (by omega) (by omega) (by intro h; first | rfl | (exfalso; rw [show f = 601 by omega] at hz; simp at hz) | omega) (by first | exact hB.trans (bn_A (by omega) hz) | exact hB.trans (bn_B (by omega) (by omega) (by omega) hz) | exact hB.trans (bn_C (by omega) hs2 (by omega) hz) | exact hB.trans (bn_D2 (by omega) hs2 (by omega) c_17 hz)) (by first | rfl | (simp [bandsP, c_1, hNn, c_2, c_3, c_4, c_17, i_nlt.mp c_3]; done)) rfl (by first | rfl | exact nI_1 _) _ _ _  (hW) hS ls (lv_sub hl [0, 1, 2, 4, 5, 6, 7, 8, 9] rfl)
                      · skip
                        have hei := c_17
                        refine lv_iload (pc := 123) hx hb dX7_bands_123 (lv_at hl 9 rfl) ?_
                        refine lv_if_ne (pc := 125) (tgt := 133) hx hb dX7_bands_125 (by decide) (fun c_18 => ?_) (fun c_18 => ?_)
                        · skip
                          have hD := hB.trans (bn_D1 (by omega) hs2 (by omega) hei (hw01.resolve_left c_18) hz)
                          refine lv_iload (pc := 133) hx hb dX7_bands_133 (lv_at hl 1 rfl) ?_
                          refine lv_iconst (pc := 135) (v := 1) hx hb dX7_bands_135 (by decide) ?_
                          refine lv_isub (pc := 136) hx hb dX7_bands_136 ?_
                          exact z_wiret cx hr hlk dX7_bands_137 hS ⟨_, (sI (by simp only [bandsP, c_1, hNn, c_2, c_3, c_4, i_nlt.mp c_3, and_self, if_true, hD])), hW⟩
                        · skip
                          have hD := hB.trans (bn_D0 hs2 hei c_18)
                          refine lv_iload (pc := 128) hx hb dX7_bands_128 (lv_at hl 2 rfl) ?_
                          refine lv_goto (pc := 130) (tgt := 137) hx hb dX7_bands_130 (by decide) ?_
                          exact z_wiret cx hr hlk dX7_bands_137 hS ⟨_, (sI (by simp only [bandsP, c_1, hNn, c_2, c_3, c_4, i_nlt.mp c_3, and_self, if_true, hD])), hW⟩
                  · skip
                    have hz : (decide (f ≤ 600) && (fun f => bzA r n (nI f) st) f) = true := by simp [c_13, hl6]
                    refine lv_iconst (pc := 86) (v := 1) hx hb dX7_bands_86 (by decide) ?_
                    refine lv_goto (pc := 87) (tgt := 91) hx hb dX7_bands_87 (by decide) ?_
                    refine lv_istore (pc := 91) (lv' := [(9, .int 1), (8, .int (nI f)), (7, .int (nI s2)), (6, .int (nI e2)), (5, .ref q1), (0, .ref (b 0)), (1, .int (nI n)), (2, .int st), (3, .int i), (4, .int w)]) hx hb dX7_bands_91 hl (by decide) rfl (fun ls hl => ?_)
                    refine lv_iload (pc := 93) hx hb dX7_bands_93 (lv_at hl 0 rfl) ?_
                    refine lv_if_eq (pc := 95) (tgt := 107) hx hb dX7_bands_95 (by decide) (fun c => absurd c (by decide)) (fun _ => ?_)
                    refine lv_iload (pc := 98) hx hb dX7_bands_98 (lv_at hl 2 rfl) ?_
                    refine lv_if_ne (pc := 100) (tgt := 107) hx hb dX7_bands_100 (by decide) (fun c_20 => ?_) (fun c_20 => ?_)
                    · skip
                      have hs2 : 0 < s2 := Nat.pos_of_ne_zero (fun h => c_20 (by rw [h]; rfl))
                      refine lv_iload (pc := 107) hx hb dX7_bands_107 (lv_at hl 0 rfl) ?_
                      refine lv_if_ne (pc := 109) (tgt := 144) hx hb dX7_bands_109 (by decide) (fun _ => ?_) (fun c => absurd c (by decide))
                      refine lv_iinc (pc := 144) (v := nI (f + 1)) (lv' := [(8, .int (nI (f + 1))), (9, .int 1), (7, .int (nI s2)), (6, .int (nI e2)), (5, .ref q1), (0, .ref (b 0)), (1, .int (nI n)), (2, .int st), (3, .int i), (4, .int w)]) hx hb dX7_bands_144 hl (k := 1) rfl (nI_1 _) (by decide) rfl (fun ls hl => ?_)
                      refine lv_goto (pc := 147) (tgt := 48) hx hb dX7_bands_147 (by decide) ?_
                      exact ih_48 (f + 1) e2 s2 (nI (f + 1)) (nI s2) (nI e2) (by omega) (by omega) (by omega) (by omega) (by intro h; first | rfl | (exfalso; rw [show f = 601 by omega] at hz; simp at hz) | omega) (by first | exact hB.trans (bn_A (by omega) hz) | exact hB.trans (bn_B (by omega) (by omega) (by omega) hz) | exact hB.trans (bn_C (by omega) hs2 (by omega) hz) | exact hB.trans (bn_D2 (by omega) hs2 (by omega) c_4 hz)) (by first | rfl | (simp [bandsP, c_1, hNn, c_2, c_3, c_4, i_nlt.mp c_3]; done)) rfl (by first | rfl | exact nI_1 _) _ _ _  (hW) hS ls (lv_sub hl [0, 2, 3, 4, 5, 6, 7, 8, 9] rfl)
                    · skip
                      obtain rfl : s2 = 0 := (nI_z (by omega)).mp c_20
                      refine lv_iload (pc := 103) hx hb dX7_bands_103 (lv_at hl 1 rfl) ?_
                      refine lv_istore (pc := 105) (lv' := [(7, .int (nI f)), (9, .int 1), (8, .int (nI f)), (6, .int (nI e2)), (5, .ref q1), (0, .ref (b 0)), (1, .int (nI n)), (2, .int st), (3, .int i), (4, .int w)]) hx hb dX7_bands_105 hl (by decide) rfl (fun ls hl => ?_)
                      refine lv_iload (pc := 107) hx hb dX7_bands_107 (lv_at hl 1 rfl) ?_
                      refine lv_if_ne (pc := 109) (tgt := 144) hx hb dX7_bands_109 (by decide) (fun _ => ?_) (fun c => absurd c (by decide))
                      refine lv_iinc (pc := 144) (v := nI (f + 1)) (lv' := [(8, .int (nI (f + 1))), (7, .int (nI f)), (9, .int 1), (6, .int (nI e2)), (5, .ref q1), (0, .ref (b 0)), (1, .int (nI n)), (2, .int st), (3, .int i), (4, .int w)]) hx hb dX7_bands_144 hl (k := 2) rfl (nI_1 _) (by decide) rfl (fun ls hl => ?_)
                      refine lv_goto (pc := 147) (tgt := 48) hx hb dX7_bands_147 (by decide) ?_
                      exact ih_48 (f + 1) e2 f (nI (f + 1)) (nI f) (nI e2) (by omega) (by omega) (by omega) (by omega) (by intro h; first | rfl | (exfalso; rw [show f = 601 by omega] at hz; simp at hz) | omega) (by first | exact hB.trans (bn_A (by omega) hz) | exact hB.trans (bn_B (by omega) (by omega) (by omega) hz) | exact hB.trans (bn_C (by omega) hs2 (by omega) hz) | exact hB.trans (bn_D2 (by omega) hs2 (by omega) c_4 hz)) (by first | rfl | (simp [bandsP, c_1, hNn, c_2, c_3, c_4, i_nlt.mp c_3]; done)) rfl (by first | rfl | exact nI_1 _) _ _ _  (hW) hS ls (lv_sub hl [0, 1, 3, 4, 5, 6, 7, 8, 9] rfl)
          exact loop_48 ((602 - 1) + 1) 1 0 0 1 0 0 (Nat.lt_succ_self _) (by omega) (by omega) (by omega) (fun _ => rfl) (by unfold bnC; simp) (by first | rfl | (simp [bandsP, c_1, hNn, c_2, c_3, c_4, i_nlt.mp c_3]; done)) (by first | rfl | (simp [bandsP, c_1, hNn, c_2, c_3, c_4, i_nlt.mp c_3]; done)) (by first | rfl | (simp [bandsP, c_1, hNn, c_2, c_3, c_4, i_nlt.mp c_3]; done)) sg _ _  (hW) hS ls (lv_sub hl [0, 1, 2, 3, 4, 5, 6, 7, 8] rfl)
        · skip
          refine lv_iconst (pc := 37) (v := (-1)) hx hb dX7_bands_37 (by decide) ?_
          exact z_wiret cx hr hlk dX7_bands_38 hS ⟨_, (sI (by first | rfl | (simp [bandsP, c_1, hNn, c_2, c_3, c_4, i_nlt.mp c_3]; done))), hW⟩
  · skip
    have h0n := Bool.eq_false_iff.mpr c_1
    refine k_X1_thingAt0 (pc := 5) (x := x) cx hW hC htN h0n m_ml_X7_133 ⟨Nat.le_of_ble_eq_true rfl, Nat.le_of_ble_eq_true rfl⟩ hl.1 rfl (by simp [Value.category]) dX7_bands_5 ⟨Nat.le_refl _, Nat.le_refl _⟩ ?_
    refine lv_astoreN (pc := 8) (lv' := [(5, .null), (0, .ref (b 0)), (1, .int x), (2, .int st), (3, .int i), (4, .int w)]) hx hb dX7_bands_8 hl (by decide) rfl (fun ls hl => ?_)
    refine lv_aloadN (pc := 10) hx hb dX7_bands_10 (lv_at hl 0 rfl) ?_
    refine lv_ifnullN (pc := 12) (tgt := 37) hx hb dX7_bands_12 (by decide) ?_
    refine lv_iconst (pc := 37) (v := (-1)) hx hb dX7_bands_37 (by decide) ?_
    exact z_wiret cx hr hlk dX7_bands_38 hS ⟨_, (sI (by first | rfl | (simp [bandsP, c_1]; done))), hW⟩
theorem k_X7_bands {p : Program} {l : Launch} {e : Env} {R : Room} {s : State} {m : MethodId} {args : Array Value} {below : List Frame} {meth : Method} {c : Code} {H H0 : Heap} {locs : List Loc} {cells slots : Nat} {Q : State → Prop} {cc : ByteArray} {pc index : Nat} {ls : Array Slot} {rest st0 : List Value} {E : zE} {own : String} {nL : Nat} {F : Nat → Prop} {b : Nat → Nat} {tl : va_W} {pd : Bool} {qt : Nat → Option Nat} {qr : Nat → Option Nat} {tbu : Nat → Int32} {wst : Nat → Int32} {asw : Nat → Int32} {pN : Int32} {tN : Int32} {aN : Int32} {wx : Nat → Int32} {pp : Nat → Option Nat} {tp : Nat → Option Nat} {ap : Nat → Option Nat} {sg : Nat → Int32} {uh : Int32} {ud : Int32} {up : Int32} {ur : Int32} {us : Int32} {ux : Nat → Int32} {G : zG} {x st i w : Int32} {r : Nat → Int32} (cx : Cx E p s args m c own cc nL) (hW : WW E (wK b E.2.1 tl pd qt qr tbu wst asw pN tN aN (hdC (r 3)) (r 4) (r 5) (r 6) (r 7) wx pp tp ap sg uh ud up ur us ux) G H) (hS : va_S F H0 H locs) (zF : ∀ q, (bF b) q → F q) (hG : CG E.2.1 G r pN tN aN wx pp tp ap) (zl : Cond.methodLink own index yX7_bands ∈ AllW) (zR : 5 + 1 ≤ R.frames ∧ 8 + (10 + 11) + 119 ≤ R.locals) (zs : ls.size = nL) (zt : st0 = ([.int x, .int st, .int i, .int w] : List Value).reverse ++ .ref (b 0) :: rest) (z8 : (rest.map fun v => v.category).sum ≤ 8) (zd : decode cc pc = .ok (.invokevirtual index, 3)) (zf : cells ≤ R.cells ∧ slots ≤ R.slots) (kk0 : ∀ (sg2 : Nat → Int32) (H1 : Heap) (locs1 : List Loc), WW E (wK b E.2.1 tl pd qt qr tbu wst asw pN tN aN (hdC (r 3)) (r 4) (r 5) (r 6) (r 7) wx pp tp ap sg2 uh ud up ur us ux) G H1 → va_S F H0 H1 locs1 → W p l e R s m args below meth c H1 locs1 cells slots Q (F0 m (pc + 3) ls (.int (bandsP r x st i w) :: rest))) : W p l e R s m args below meth c H locs cells slots Q (F0 m pc ls st0) := by
  refine z_callVw cx vm_X7_bands (c_X7_bands l E b tl pd qt qr tbu wst asw pN tN aN wx pp tp ap sg uh ud up ur us ux G x st i w r hG) (z_rec cx.2 (hW.at 0 rfl) rfl) hW hS zF zl ⟨rfl, rfl⟩ zR rfl zs zt z8 zd zf (fun v H1 locs1 hq hS1 _ => ?_)
  rcases hq with ⟨sg2, rfl, hW1⟩
  · exact kk0 sg2 H1 locs1  hW1 hS1
