theorem vm_X7_instrument : zVm yX7_instrument cX7_instrument 6 (some FieldType.int) 1 := ⟨m_co_X7_instrument, m_in_RX7, ⟨m_im_X7_instrument, m_se_X7_X7_instrument⟩, by decide +kernel, by decide +kernel, by decide +kernel⟩
set_option maxHeartbeats 4000000 in
set_option maxRecDepth 100000 in
theorem c_X7_instrument (l : Launch) (E : zE) (b : Nat → Nat) (pd : Bool) (qt : Nat → Option Nat) (qr : Nat → Option Nat) (tbu : Nat → Int32) (wst : Nat → Int32) (asw : Nat → Int32) (pN : Int32) (tN : Int32) (aN : Int32) (wx : Nat → Int32) (pp : Nat → Option Nat) (tp : Nat → Option Nat) (ap : Nat → Option Nat) (sg : Nat → Int32) (uh : Int32) (ud : Int32) (up : Int32) (ur : Int32) (us : Int32) (ux : Nat → Int32) (xN : Int32) (xT : Int32) (xA : Int32) (xh : Int32) (xd : Int32) (xl : Int32) (xr : Int32) (xo : Int32) (xw : Nat → Int32) (xpp : Nat → Option Nat) (xtp : Nat → Option Nat) (xap : Nat → Option Nat) (xsg : Nat → Int32) (yN : Int32) (yT : Int32) (yA : Int32) (yh : Int32) (yd : Int32) (yl : Int32) (yr : Int32) (yo : Int32) (yw : Nat → Int32) (ypp : Nat → Option Nat) (ytp : Nat → Option Nat) (yap : Nat → Option Nat) (ysg : Nat → Int32) (zat : Int32) (zpl : Int32) (zlt : Int32) (zjo : Bool) (zfo : Int32) (zsz : Int32) (zby : Nat → Int32) (znu : Nat → Int32) (G : zG) (N : Nat) (d : Int32) (r : Nat → Int32) (kp so sz el pr ts : Nat → Int32) (hG : CG E.2.1 G r pN tN aN wx pp tp ap) (hSh : ShG E.2.1 G qt qr kp so sz el pr ts) (hrp : RfG G 2 10 pp) (hrt : RfG G 6 7 tp) (hra : RfG G 0 24 ap) : Met l yX7_instrument (.code yX7_instrument cX7_instrument 6 (some FieldType.int) :: AllW) (rmA 7 150 101 606) (zPc E (bFz b N) (fun H => WW E (wK b E.2.1 (wT b E.2.1 xN xT xA xh xd xl xr xo xw xpp xtp xap xsg yN yT yA yh yd yl yr yo yw ypp ytp yap ysg zat zpl zlt zjo zfo zsz zby znu) pd qt qr tbu wst asw pN tN aN (hdC (r 3)) (r 4) (r 5) (r 6) (r 7) wx pp tp ap sg uh ud up ur us ux) G H ∧ H.size = N) [.ref (b 0), .int d]) (zQ (fun (_ : Heap) (v : Option Value) (H1 : Heap) => (∃ (G2 : zG) (pN2 : Int32) (tN2 : Int32) (wx2 : Nat → Int32) (pp2 : Nat → Option Nat) (tp2 : Nat → Option Nat) (yN2 : Int32) (yT2 : Int32) (yA2 : Int32) (yh2 : Int32) (yd2 : Int32) (yl2 : Int32) (yr2 : Int32) (yo2 : Int32) (yw2 : Nat → Int32) (ypp2 : Nat → Option Nat) (ytp2 : Nat → Option Nat) (yap2 : Nat → Option Nat) (zat2 : Int32) (zpl2 : Int32) (zlt2 : Int32) (zjo2 : Bool) (zfo2 : Int32) (zsz2 : Int32) (zby2 : Nat → Int32) (znu2 : Nat → Int32), v = some (.int (instR kp so sz el r znu d)) ∧ (GLe G G2) ∧ (FrG G G2 N) ∧ (CG E.2.1 G2 (instS kp so sz el r znu d) pN2 tN2 aN wx2 pp2 tp2 ap) ∧ (RfG G2 2 10 pp2) ∧ (RfG G2 6 7 tp2) ∧ WW E (wK b E.2.1 (wT b E.2.1 xN xT xA xh xd xl xr xo xw xpp xtp xap xsg yN2 yT2 yA2 yh2 yd2 yl2 yr2 yo2 yw2 ypp2 ytp2 yap2 ysg zat2 zpl2 zlt2 zjo2 zfo2 zsz2 zby2 znu2) pd qt qr tbu wst asw pN2 tN2 aN (hdC ((instS kp so sz el r znu d) 3)) ((instS kp so sz el r znu d) 4) ((instS kp so sz el r znu d) 5) ((instS kp so sz el r znu d) 6) ((instS kp so sz el r znu d) 7) wx2 pp2 tp2 ap sg uh ud up ur us ux) G2 H1)) (bFz b N)) 101 606 (bFz b N) := by
  refine z_bodyc (own := RX7) (by decide) rfl rfl ?_
  intro p e s m args below meth c ls cx hr hlk hnm hW hCE hl
  have hx := cx.x
  have hb := cx.b
  have hl : lv_has ls 6 [(0, .ref (b 0)), (1, .int d)] := hl
  obtain ⟨hW, hN0⟩ := hW
  have hFb : ∀ k, (bFz b N) (b k) := fun k => Or.inl (bF_in b k)
  have hS : va_S (bFz b N) s.heap s.heap [] := va_S.rf
  have hG0 := hG
  refine lv_aload_n (pc := 0) hx hb dX7_instrument_0 rfl (lv_at hl 0 rfl) ?_
  refine lv_iload_n (pc := 1) hx hb dX7_instrument_1 rfl (lv_at hl 1 rfl) ?_
  refine k_X7_rowRefusal (pc := 2) (d := d) cx hW (by first | assumption | omega) m_ml_X7_58 ⟨Nat.le_of_ble_eq_true rfl, Nat.le_of_ble_eq_true rfl⟩ hl.1 rfl (by simp [Value.category]) dX7_instrument_2 (by constructor <;> (simp only [rmA]; omega)) ?_
  refine lv_istore_n (pc := 5) (lv' := [(2, .int (wrR kp so d (-1))), (0, .ref (b 0)), (1, .int d)]) hx hb dX7_instrument_5 rfl hl (by decide) rfl (fun ls hl => ?_)
  refine lv_iload_n (pc := 6) hx hb dX7_instrument_6 rfl (lv_at hl 0 rfl) ?_
  refine lv_if_eq (pc := 7) (tgt := 12) hx hb dX7_instrument_7 (by decide) (fun c_1 => ?_) (fun c_1 => ?_)
  · skip
    have hwr := c_1
    obtain ⟨n, hn, rfl, hk1, ht1, q1, w1, x1, hr1, hq1, hw1, hx1⟩ := row_get hSh c_1
    have hN1 := iN_nI (n := n) (by omega)
    have hz1 := sz_nat hSh.1 hn
    have hzl1 := hz1.2
    refine lv_aload_n (pc := 12) hx hb dX7_instrument_12 rfl (lv_at hl 1 rfl) ?_
    refine z_get (pc := 13) cx (hW.at 0 rfl) (C := RX7) (T := TX7) (N := 11) rfl i_X7 7 rfl m_fl_X7_44 rfl dX7_instrument_13 ?_
    refine lv_iload_n (pc := 16) hx hb dX7_instrument_16 rfl (lv_at hl 2 rfl) ?_
    refine z_aald (pc := 17) (f := qr) (j := n) cx 4 rfl (hW.at 2 rfl) rfl (by omega) (by decide) dX7_instrument_17 ?_
    refine z_rfS hr1 ?_
    refine lv_astore_n (pc := 18) (lv' := [(3, .ref q1), (2, .int (wrR kp so (nI n) (-1))), (0, .ref (b 0)), (1, .int (nI n))]) hx hb dX7_instrument_18 rfl hl (by decide) rfl (fun ls hl => ?_)
    refine lv_aload_n (pc := 19) hx hb dX7_instrument_19 rfl (lv_at hl 0 rfl) ?_
    refine z_get (pc := 20) cx (hW.dyn hq1) (C := RX4) (T := TX4) (N := 2) rfl i_X4 0 rfl m_fl_X7_62 rfl dX7_instrument_20 ?_
    refine lv_if_eq (pc := 23) (tgt := 29) hx hb dX7_instrument_23 (by decide) (fun c_2 => ?_) (fun c_2 => ?_)
    · skip
      have hw0 := (wr_of2 hwr hN1).2 c_2
      refine lv_aload_n (pc := 29) hx hb dX7_instrument_29 rfl (lv_at hl 2 rfl) ?_
      refine z_get (pc := 30) cx (hW.at 0 rfl) (C := RX7) (T := TX7) (N := 11) rfl i_X7 4 rfl m_fl_X7_25 rfl dX7_instrument_30 ?_
      refine lv_aload_n (pc := 33) hx hb dX7_instrument_33 rfl (lv_at hl 0 rfl) ?_
      refine k_X3_start (pc := 34) (q9 := q1) (w9 := w1) (z := iN (sz n)) (o := so n) (x := x1) cx hW hS (fun _ h => Or.inl h) hq1 hw1 hzl1 m_ml_X7_66 ⟨Nat.le_of_ble_eq_true rfl, Nat.le_of_ble_eq_true rfl⟩ hl.1 rfl (by simp [Value.category]) dX7_instrument_34 (by constructor <;> (simp only [rmA]; omega)) (fun f3_34 H locs hf3_34 hW hS => ?_)
      have hW : WW E (wK b E.2.1 (wT b E.2.1 xN xT xA xh xd xl xr xo xw xpp xtp xap xsg yN yT yA yh yd yl yr yo yw ypp ytp yap ysg (nI 0) zpl zlt zjo zfo (nI (iN (sz n))) f3_34 znu) pd qt qr tbu wst asw pN tN aN (hdC (r 3)) (r 4) (r 5) (r 6) (r 7) wx pp tp ap sg uh ud up ur us ux) G H := hW
      have hTX := tx_eq hf3_34 hx1
      refine lv_aload_n (pc := 37) hx hb dX7_instrument_37 rfl (lv_at hl 2 rfl) ?_
      refine z_get (pc := 38) cx (hW.at 0 rfl) (C := RX7) (T := TX7) (N := 11) rfl i_X7 4 rfl m_fl_X7_25 rfl dX7_instrument_38 ?_
      refine k_X3_countStatements (pc := 41) (z := iN (sz n)) cx ((hCE.kept hS.2.1).narrow (fun _ h => Or.inl h)) hW hS (fun _ h => Or.inl h) hzl1 m_ml_X7_70 ⟨Nat.le_of_ble_eq_true rfl, Nat.le_of_ble_eq_true rfl⟩ hl.1 rfl (by simp [Value.category]) dX7_instrument_41 (by constructor <;> (simp only [rmA]; omega)) (fun k_41 q2_41 nu2_41 pl2_41 lt2_41 jo2_41 fo2_41 H locs hph_41 hk_41 hW hS => ?_) (fun k_41 q2_41 nu2_41 pl2_41 lt2_41 jo2_41 fo2_41 H locs hph_41 hq2_41 hW hS => ?_)
      · skip
        have hW : WW E (wK b E.2.1 (wT b E.2.1 xN xT xA xh xd xl xr xo xw xpp xtp xap xsg yN yT yA yh yd yl yr yo yw ypp ytp yap ysg (nI q2_41) pl2_41 lt2_41 jo2_41 fo2_41 (nI (iN (sz n))) f3_34 nu2_41) pd qt qr tbu wst asw pN tN aN (hdC (r 3)) (r 4) (r 5) (r 6) (r 7) wx pp tp ap sg uh ud up ur us ux) G H := hW
        have hk0 : 0 < k_41 := by have h := (ph1_ge (tx := txC f3_34 (iN (sz n))) (z := (iN (sz n))) 101 0 znu 0 (by rw [hph_41])).2 (by decide); rwa [hph_41] at h
        refine lv_istore (pc := 44) (lv' := [(4, .int (nI k_41)), (3, .ref q1), (2, .int (wrR kp so (nI n) (-1))), (0, .ref (b 0)), (1, .int (nI n))]) hx hb dX7_instrument_44 hl (by decide) rfl (fun ls hl => ?_)
        refine lv_iload (pc := 46) hx hb dX7_instrument_46 (lv_at hl 0 rfl) ?_
        refine lv_if_ge (pc := 48) (tgt := 63) hx hb dX7_instrument_48 (by decide) (fun c_3 => ?_) (fun c_3 => ?_)
        · skip
          refine lv_aload_n (pc := 63) hx hb dX7_instrument_63 rfl (lv_at hl 3 rfl) ?_
          refine z_get (pc := 64) cx (hW.at 0 rfl) (C := RX7) (T := TX7) (N := 11) rfl i_X7 4 rfl m_fl_X7_25 rfl dX7_instrument_64 ?_
          refine lv_aload_n (pc := 67) hx hb dX7_instrument_67 rfl (lv_at hl 1 rfl) ?_
          refine k_X3_start (pc := 68) (q9 := q1) (w9 := w1) (z := iN (sz n)) (o := so n) (x := x1) cx hW hS (fun _ h => Or.inl h) hq1 hw1 hzl1 m_ml_X7_66 ⟨Nat.le_of_ble_eq_true rfl, Nat.le_of_ble_eq_true rfl⟩ hl.1 rfl (by simp [Value.category]) dX7_instrument_68 (by constructor <;> (simp only [rmA]; omega)) (fun f3_68 H locs hf3_68 hW hS => ?_)
          have hW : WW E (wK b E.2.1 (wT b E.2.1 xN xT xA xh xd xl xr xo xw xpp xtp xap xsg yN yT yA yh yd yl yr yo yw ypp ytp yap ysg (nI 0) pl2_41 lt2_41 jo2_41 fo2_41 (nI (iN (sz n))) f3_68 nu2_41) pd qt qr tbu wst asw pN tN aN (hdC (r 3)) (r 4) (r 5) (r 6) (r 7) wx pp tp ap sg uh ud up ur us ux) G H := hW
          have hTX2 := tx_eq hf3_68 hx1
          rw [hTX, ← hTX2] at hph_41
          refine lv_aload_n (pc := 71) hx hb dX7_instrument_71 rfl (lv_at hl 3 rfl) ?_
          refine z_get (pc := 72) cx (hW.at 0 rfl) (C := RX7) (T := TX7) (N := 11) rfl i_X7 3 rfl m_fl_X7_19 rfl dX7_instrument_72 ?_
          refine lv_aload_n (pc := 75) hx hb dX7_instrument_75 rfl (lv_at hl 3 rfl) ?_
          refine z_get (pc := 76) cx (hW.at 0 rfl) (C := RX7) (T := TX7) (N := 11) rfl i_X7 0 rfl m_fl_X7_10 rfl dX7_instrument_76 ?_
          refine k_X1_become_tf (pc := 79)  cx hW hS (fun _ h => Or.inl h) hrp hrt hra m_ml_X7_81 ⟨Nat.le_of_ble_eq_true rfl, Nat.le_of_ble_eq_true rfl⟩ hl.1 rfl (by simp [Value.category]) dX7_instrument_79 (by constructor <;> (simp only [rmA]; omega)) (fun  H locs  hW hS => ?_)
          have hW : WW E (wK b E.2.1 (wT b E.2.1 xN xT xA xh xd xl xr xo xw xpp xtp xap xsg pN tN aN (hdC (r 3)) (r 4) (r 5) (r 6) (r 7) wx pp tp ap ysg (nI 0) pl2_41 lt2_41 jo2_41 fo2_41 (nI (iN (sz n))) f3_68 nu2_41) pd qt qr tbu wst asw pN tN aN (hdC (r 3)) (r 4) (r 5) (r 6) (r 7) wx pp tp ap sg uh ud up ur us ux) G H := hW
          refine lv_iconst (pc := 82) (v := 0) hx hb dX7_instrument_82 (by decide) ?_
          refine lv_istore (pc := 83) (lv' := [(5, .int 0), (4, .int (nI k_41)), (3, .ref q1), (2, .int (wrR kp so (nI n) (-1))), (0, .ref (b 0)), (1, .int (nI n))]) hx hb dX7_instrument_83 hl (by decide) rfl (fun ls hl => ?_)
          have loop_85 : ∀ (k_85 : Nat) (j : Nat) (x5 : Int32), (k_41 - j) < k_85 → (j ≤ k_41) → x5 = nI j → ∀ (q3 : Nat) (nu3 : Nat → Int32) (g : Nat → Int32) (pl3 : Int32) (lt3 : Int32) (jo3 : Bool) (fo3 : Int32) (yN3 : Int32) (yT3 : Int32) (yw3 : Nat → Int32) (ypp3 : Nat → Option Nat) (ytp3 : Nat → Option Nat) (G3 : zG) (H : Heap) (locs : List Loc), (j < k_41 → Ph (txC f3_68 (iN (sz n))) (iN (sz n)) (101 - j) q3 nu3 j k_41) → (j = k_41 → ¬ q3 < (iN (sz n))) → (ph2 (txC f3_68 (iN (sz n))) (iN (sz n)) 101 0 nu2_41 r = ph2 (txC f3_68 (iN (sz n))) (iN (sz n)) (101 - j) q3 nu3 g) → (q3 ≤ (iN (sz n))) → (j ≤ q3) → (GLe G G3) → (FrG G G3 N) → (CG E.2.1 G3 g yN3 yT3 aN yw3 ypp3 ytp3 ap) → (RfG G3 2 10 ypp3) → (RfG G3 6 7 ytp3) → WW E (wK b E.2.1 (wT b E.2.1 xN xT xA xh xd xl xr xo xw xpp xtp xap xsg yN3 yT3 aN (hdC (g 3)) (g 4) (g 5) (g 6) (g 7) yw3 ypp3 ytp3 ap ysg (nI q3) pl3 lt3 jo3 fo3 (nI (iN (sz n))) f3_68 nu3) pd qt qr tbu wst asw pN tN aN (hdC (r 3)) (r 4) (r 5) (r 6) (r 7) wx pp tp ap sg uh ud up ur us ux) G3 H → va_S (bFz b N) s.heap H locs → ∀ (ls : Array Slot), lv_has ls 6 [(5, .int x5), (4, .int (nI k_41)), (3, .ref q1), (2, .int (wrR kp so (nI n) (-1))), (0, .ref (b 0)), (1, .int (nI n))] → W p l e (rmA (7) (150) 101 606) s m args below meth c H locs j (6 * j) (MQ below (zQ (fun (_ : Heap) (v : Option Value) (H1 : Heap) => (∃ (G2 : zG) (pN2 : Int32) (tN2 : Int32) (wx2 : Nat → Int32) (pp2 : Nat → Option Nat) (tp2 : Nat → Option Nat) (yN2 : Int32) (yT2 : Int32) (yA2 : Int32) (yh2 : Int32) (yd2 : Int32) (yl2 : Int32) (yr2 : Int32) (yo2 : Int32) (yw2 : Nat → Int32) (ypp2 : Nat → Option Nat) (ytp2 : Nat → Option Nat) (yap2 : Nat → Option Nat) (zat2 : Int32) (zpl2 : Int32) (zlt2 : Int32) (zjo2 : Bool) (zfo2 : Int32) (zsz2 : Int32) (zby2 : Nat → Int32) (znu2 : Nat → Int32), v = some (.int (instR kp so sz el r znu (nI n))) ∧ (GLe G G2) ∧ (FrG G G2 N) ∧ (CG E.2.1 G2 (instS kp so sz el r znu (nI n)) pN2 tN2 aN wx2 pp2 tp2 ap) ∧ (RfG G2 2 10 pp2) ∧ (RfG G2 6 7 tp2) ∧ WW E (wK b E.2.1 (wT b E.2.1 xN xT xA xh xd xl xr xo xw xpp xtp xap xsg yN2 yT2 yA2 yh2 yd2 yl2 yr2 yo2 yw2 ypp2 ytp2 yap2 ysg zat2 zpl2 zlt2 zjo2 zfo2 zsz2 zby2 znu2) pd qt qr tbu wst asw pN2 tN2 aN (hdC ((instS kp so sz el r znu (nI n)) 3)) ((instS kp so sz el r znu (nI n)) 4) ((instS kp so sz el r znu (nI n)) 5) ((instS kp so sz el r znu (nI n)) 6) ((instS kp so sz el r znu (nI n)) 7) wx2 pp2 tp2 ap sg uh ud up ur us ux) G2 H1)) (bFz b N)) args s 101 606 (bFz b N)) (F0 m 85 ls []) := by
            intro k_85
            induction k_85 with
            | zero =>
              intro j x5 hm
              exact absurd hm (Nat.not_lt_zero _)
            | succ k_85 ih_85 =>
              intro j x5 hm_85 hjk e_x5 q3 nu3 g pl3 lt3 jo3 fo3 yN3 yT3 yw3 ypp3 ytp3 G3 H locs hA hE hB hq3 hjq hGL3 hng3 hCG3 hrp3 hrt3 hW hS ls hl
              subst e_x5
              refine lv_iload (pc := 85) hx hb dX7_instrument_85 (lv_at hl 0 rfl) ?_
              refine lv_iload (pc := 87) hx hb dX7_instrument_87 (lv_at hl 1 rfl) ?_
              refine lv_icmp_ge (pc := 89) (tgt := 134) hx hb dX7_instrument_89 (by decide) (fun c_4 => ?_) (fun c_4 => ?_)
              · skip
                have hjk2 : j = k_41 := by have := ge_nat (a := j) (b := k_41) rfl rfl (by omega) (by omega) c_4; omega
                have hq9 := hE hjk2
                have hO := in_ok hph_41 (show ph2 (txC f3_68 (iN (sz n))) (iN (sz n)) 101 0 (ph1 (txC f3_68 (iN (sz n))) (iN (sz n)) 101 0 znu 0).2.2.2 r = (true, q3, g) from by rw [hph_41]; exact hB.trans (ph2_end hq9))
                rw [hTX2] at hO
                have hR := (instR_0 hw0 hN1).trans hO.1
                have hSr := (instS_0 hw0 hN1).trans hO.2
                refine lv_aload_n (pc := 134) hx hb dX7_instrument_134 rfl (lv_at hl 4 rfl) ?_
                refine z_get (pc := 135) cx (hW.at 0 rfl) (C := RX7) (T := TX7) (N := 11) rfl i_X7 0 rfl m_fl_X7_10 rfl dX7_instrument_135 ?_
                refine lv_aload_n (pc := 138) hx hb dX7_instrument_138 rfl (lv_at hl 4 rfl) ?_
                refine z_get (pc := 139) cx (hW.at 0 rfl) (C := RX7) (T := TX7) (N := 11) rfl i_X7 3 rfl m_fl_X7_19 rfl dX7_instrument_139 ?_
                refine k_X1_become_ft (pc := 142)  cx hW hS (fun _ h => Or.inl h) hrp3 hrt3 (hra.mono hGL3) m_ml_X7_81 ⟨Nat.le_of_ble_eq_true rfl, Nat.le_of_ble_eq_true rfl⟩ hl.1 rfl (by simp [Value.category]) dX7_instrument_142 (by constructor <;> (simp only [rmA]; omega)) (fun  H locs  hW hS => ?_)
                have hW : WW E (wK b E.2.1 (wT b E.2.1 xN xT xA xh xd xl xr xo xw xpp xtp xap xsg yN3 yT3 aN (hdC (g 3)) (g 4) (g 5) (g 6) (g 7) yw3 ypp3 ytp3 ap ysg (nI q3) pl3 lt3 jo3 fo3 (nI (iN (sz n))) f3_68 nu3) pd qt qr tbu wst asw yN3 yT3 aN (hdC (g 3)) (g 4) (g 5) (g 6) (g 7) yw3 ypp3 ytp3 ap sg uh ud up ur us ux) G3 H := hW
                refine lv_iload (pc := 145) hx hb dX7_instrument_145 (lv_at hl 1 rfl) ?_
                refine W.widen (k := 101) (n := 606) (by omega) (by omega) ?_
                exact z_wiret cx hr hlk dX7_instrument_147 hS ⟨G3, yN3, yT3, yw3, ypp3, ytp3, yN3, yT3, aN, (hdC (g 3)), (g 4), (g 5), (g 6), (g 7), yw3, ypp3, ytp3, ap, (nI q3), pl3, lt3, jo3, fo3, (nI (iN (sz n))), f3_68, nu3, (sI hR.symm), hGL3, hng3, (by rw [hSr]; exact hCG3), hrp3, hrt3, (by rw [hSr]; exact hW)⟩
              · skip
                have hlt_j := lt_nat (a := j) (b := k_41) rfl rfl (by omega) (by omega) c_4
                have hP := hA hlt_j
                refine lv_aload_n (pc := 92) hx hb dX7_instrument_92 rfl (lv_at hl 4 rfl) ?_
                refine z_get (pc := 93) cx (hW.at 0 rfl) (C := RX7) (T := TX7) (N := 11) rfl i_X7 4 rfl m_fl_X7_25 rfl dX7_instrument_93 ?_
                refine k_X3_readStatement (pc := 96) (q := q3) (z := iN (sz n)) cx ((hCE.kept hS.2.1).narrow (fun _ h => Or.inl h)) hW hS (fun _ h => Or.inl h) hzl1 hq3 m_ml_X7_85 ⟨Nat.le_of_ble_eq_true rfl, Nat.le_of_ble_eq_true rfl⟩ hl.1 rfl (by simp [Value.category]) dX7_instrument_96 (by constructor <;> (simp only [rmA]; omega)) (fun  H locs hq9_96 hl9_96 hW hS => ?_)
                have hW : WW E (wK b E.2.1 (wT b E.2.1 xN xT xA xh xd xl xr xo xw xpp xtp xap xsg yN3 yT3 aN (hdC (g 3)) (g 4) (g 5) (g 6) (g 7) yw3 ypp3 ytp3 ap ysg (nI (rdS (txC f3_68 (iN (sz n))) q3 nu3).2.1.1) (nI q3) (bhC f3_68 (iN (sz n)) q3) ((rdS (txC f3_68 (iN (sz n))) q3 nu3).2.2) (nI (rdS (txC f3_68 (iN (sz n))) q3 nu3).2.1.2.2) (nI (iN (sz n))) f3_68 ((rdS (txC f3_68 (iN (sz n))) q3 nu3).2.1.2.1)) pd qt qr tbu wst asw pN tN aN (hdC (r 3)) (r 4) (r 5) (r 6) (r 7) wx pp tp ap sg uh ud up ur us ux) G3 H := hW
                refine z_ifeq (pc := 99) (tgt := 116) hx hb dX7_instrument_99 (by decide) (fun c_5 => ?_) (fun c_5 => ?_)
                · skip
                  exact absurd ((hP.rd (by omega)).symm.trans c_5) (by decide)
                · skip
                  have hrd := c_5
                  have hlt3 := hl9_96 hrd
                  have hadv := rdS_adv hrd
                  rw [bh_tx hlt3] at hW
                  have hW : WW E (wK b E.2.1 (wT b E.2.1 xN xT xA xh xd xl xr xo xw xpp xtp xap xsg yN3 yT3 aN (hdC (g 3)) (g 4) (g 5) (g 6) (g 7) yw3 ypp3 ytp3 ap ysg (nI (rdS (txC f3_68 (iN (sz n))) q3 nu3).2.1.1) (nI q3) (txC f3_68 (iN (sz n)) q3) ((rdS (txC f3_68 (iN (sz n))) q3 nu3).2.2) (nI (rdS (txC f3_68 (iN (sz n))) q3 nu3).2.1.2.2) (nI (iN (sz n))) f3_68 ((rdS (txC f3_68 (iN (sz n))) q3 nu3).2.1.2.1)) pd qt qr tbu wst asw pN tN aN (hdC (r 3)) (r 4) (r 5) (r 6) (r 7) wx pp tp ap sg uh ud up ur us ux) G3 H := hW
                  have hS0 := hS.1
                  have hSN := hN0 ▸ hS0
                  refine lv_aload_n (pc := 102) hx hb dX7_instrument_102 rfl (lv_at hl 4 rfl) ?_
                  refine z_get (pc := 103) cx (hW.at 0 rfl) (C := RX7) (T := TX7) (N := 11) rfl i_X7 3 rfl m_fl_X7_19 rfl dX7_instrument_103 ?_
                  refine lv_aload_n (pc := 106) hx hb dX7_instrument_106 rfl (lv_at hl 4 rfl) ?_
                  refine z_get (pc := 107) cx (hW.at 0 rfl) (C := RX7) (T := TX7) (N := 11) rfl i_X7 4 rfl m_fl_X7_25 rfl dX7_instrument_107 ?_
                  refine k_X1_follow (pc := 110) (g := g) cx ((hCE.kept hS.2.1).narrow (bFz_le hSN)) hW rfl hS (bFz_le hSN) hCG3 (rdS_num hrd) hrp3 hrt3 m_ml_X7_89 ⟨Nat.le_of_ble_eq_true rfl, Nat.le_of_ble_eq_true rfl⟩ hl.1 rfl (by simp [Value.category]) dX7_instrument_110 (by constructor <;> (simp only [rmA]; omega)) (fun G2_110 yN2_110 yT2_110 yw2_110 ypp2_110 ytp2_110 H locs ho_110 hGL_110 hG2_110 hng_110 hrp2_110 hrt2_110 hW hS => ?_) (fun  H locs ho_110 hW hS => ?_)
                  · skip
                    have hW : WW E (wK b E.2.1 (wT b E.2.1 xN xT xA xh xd xl xr xo xw xpp xtp xap xsg yN2_110 yT2_110 aN (hdC ((cmR g ((rdS (txC f3_68 (iN (sz n))) q3 nu3).2.1.2.1) ((rdS (txC f3_68 (iN (sz n))) q3 nu3).2.2) (txC f3_68 (iN (sz n)) q3)) 3)) ((cmR g ((rdS (txC f3_68 (iN (sz n))) q3 nu3).2.1.2.1) ((rdS (txC f3_68 (iN (sz n))) q3 nu3).2.2) (txC f3_68 (iN (sz n)) q3)) 4) ((cmR g ((rdS (txC f3_68 (iN (sz n))) q3 nu3).2.1.2.1) ((rdS (txC f3_68 (iN (sz n))) q3 nu3).2.2) (txC f3_68 (iN (sz n)) q3)) 5) ((cmR g ((rdS (txC f3_68 (iN (sz n))) q3 nu3).2.1.2.1) ((rdS (txC f3_68 (iN (sz n))) q3 nu3).2.2) (txC f3_68 (iN (sz n)) q3)) 6) ((cmR g ((rdS (txC f3_68 (iN (sz n))) q3 nu3).2.1.2.1) ((rdS (txC f3_68 (iN (sz n))) q3 nu3).2.2) (txC f3_68 (iN (sz n)) q3)) 7) yw2_110 ypp2_110 ytp2_110 ap ysg (nI (rdS (txC f3_68 (iN (sz n))) q3 nu3).2.1.1) (nI q3) (txC f3_68 (iN (sz n)) q3) ((rdS (txC f3_68 (iN (sz n))) q3 nu3).2.2) (nI (rdS (txC f3_68 (iN (sz n))) q3 nu3).2.1.2.2) (nI (iN (sz n))) f3_68 ((rdS (txC f3_68 (iN (sz n))) q3 nu3).2.1.2.1)) pd qt qr tbu wst asw pN tN aN (hdC (r 3)) (r 4) (r 5) (r 6) (r 7) wx pp tp ap sg uh ud up ur us ux) G2_110 H := hW
                    refine lv_if_ne (pc := 113) (tgt := 128) hx hb dX7_instrument_113 (by decide) (fun _ => ?_) (fun c => absurd c (by decide))
                    refine lv_iinc (pc := 128) (v := nI (j + 1)) (lv' := [(5, .int (nI (j + 1))), (4, .int (nI k_41)), (3, .ref q1), (2, .int (wrR kp so (nI n) (-1))), (0, .ref (b 0)), (1, .int (nI n))]) hx hb dX7_instrument_128 hl (k := 0) rfl (nI_1 _) (by decide) rfl (fun ls hl => ?_)
                    refine lv_goto (pc := 131) (tgt := 85) hx hb dX7_instrument_131 (by decide) ?_
                    refine W.widen (k := (j + 1)) (n := 6 * (j + 1)) (by omega) (by omega) ?_
                    exact ih_85 (j + 1) (nI (j + 1)) (by omega) (by omega) (by first | rfl | (simp [c_1, hN1, hk1, hf3_34, hf3_68]; done)) ((rdS (txC f3_68 (iN (sz n))) q3 nu3).2.1.1) ((rdS (txC f3_68 (iN (sz n))) q3 nu3).2.1.2.1) (cmR g (rdS (txC f3_68 (iN (sz n))) q3 nu3).2.1.2.1 (rdS (txC f3_68 (iN (sz n))) q3 nu3).2.2 (txC f3_68 (iN (sz n)) q3)) (nI q3) (txC f3_68 (iN (sz n)) q3) ((rdS (txC f3_68 (iN (sz n))) q3 nu3).2.2) (nI (rdS (txC f3_68 (iN (sz n))) q3 nu3).2.1.2.2) yN2_110 yT2_110 yw2_110 ypp2_110 ytp2_110 G2_110 _ _ (fun x => (hP.go (by omega)).1 x) (fun x => ((hP.go (by omega)).2 (by omega)).2) (by rw [hB, ph2_go (by omega) hlt3 ho_110]; congr 1) hq9_96 (by omega) (hGL3.tr hGL_110) (hng3.tr hng_110 (by rw [← hN0]; exact hS0)) hG2_110 hrp2_110 hrt2_110 (hW) hS ls (lv_sub hl [0, 1, 2, 3, 4, 5] rfl)
                  · skip
                    have hW : WW E (wK b E.2.1 (wT b E.2.1 xN xT xA xh xd xl xr xo xw xpp xtp xap xsg yN3 yT3 aN (hdC (g 3)) (g 4) (g 5) (g 6) (g 7) yw3 ypp3 ytp3 ap ysg (nI (rdS (txC f3_68 (iN (sz n))) q3 nu3).2.1.1) (nI q3) (txC f3_68 (iN (sz n)) q3) ((rdS (txC f3_68 (iN (sz n))) q3 nu3).2.2) (nI (rdS (txC f3_68 (iN (sz n))) q3 nu3).2.1.2.2) (nI (iN (sz n))) f3_68 ((rdS (txC f3_68 (iN (sz n))) q3 nu3).2.1.2.1)) pd qt qr tbu wst asw pN tN aN (hdC (r 3)) (r 4) (r 5) (r 6) (r 7) wx pp tp ap sg uh ud up ur us ux) G3 H := hW
                    have hB2 := hB.trans (ph2_bad (by omega) hlt3 (fun x => Bool.false_ne_true (ho_110.symm.trans x)))
                    have hO := in_b2 (tx := (txC f3_68 (iN (sz n)))) hph_41 (by rw [hph_41]; exact hB2)
                    rw [hTX2] at hO
                    have hR := (instR_0 hw0 hN1).trans hO.1
                    have hSr := (instS_0 hw0 hN1).trans hO.2
                    refine lv_if_ne (pc := 113) (tgt := 128) hx hb dX7_instrument_113 (by decide) (fun c => (c (by decide)).elim) (fun _ => ?_)
                    refine lv_iconst (pc := 116) (v := 2) hx hb dX7_instrument_116 (by decide) ?_
                    refine lv_aload_n (pc := 117) hx hb dX7_instrument_117 rfl (lv_at hl 4 rfl) ?_
                    refine z_get (pc := 118) cx (hW.at 0 rfl) (C := RX7) (T := TX7) (N := 11) rfl i_X7 4 rfl m_fl_X7_25 rfl dX7_instrument_118 ?_
                    refine z_get (pc := 121) cx (hW.at 29 rfl) (C := RX3) (T := TX3) (N := 8) rfl i_X3 1 rfl m_fl_X7_93 rfl dX7_instrument_121 ?_
                    refine k_X7_fault (pc := 124) (x := 2) (y := nI q3) cx  m_ml_X7_77 ⟨Nat.le_of_ble_eq_true rfl, Nat.le_of_ble_eq_true rfl⟩ hl.1 rfl (by simp [Value.category]) dX7_instrument_124 (by constructor <;> (simp only [rmA]; omega)) ?_
                    refine z_tope (y := -2000 - nI q3) (by rw [show (-1000 : Int32) * 2 = -2000 by decide]) ?_
                    refine W.widen (k := 101) (n := 606) (by omega) (by omega) ?_
                    exact z_wiret cx hr hlk dX7_instrument_127 hS ⟨G3, pN, tN, wx, pp, tp, yN3, yT3, aN, (hdC (g 3)), (g 4), (g 5), (g 6), (g 7), yw3, ypp3, ytp3, ap, (nI (rdS (txC f3_68 (iN (sz n))) q3 nu3).2.1.1), (nI q3), (txC f3_68 (iN (sz n)) q3), ((rdS (txC f3_68 (iN (sz n))) q3 nu3).2.2), (nI (rdS (txC f3_68 (iN (sz n))) q3 nu3).2.1.2.2), (nI (iN (sz n))), f3_68, ((rdS (txC f3_68 (iN (sz n))) q3 nu3).2.1.2.1), (sI hR.symm), hGL3, hng3, (by rw [hSr]; exact hG0.mono hGL3), (hrp.mono hGL3), (hrt.mono hGL3), (by rw [hSr]; exact hW)⟩
          exact loop_85 ((k_41 - 0) + 1) 0 0 (Nat.lt_succ_self _) (by omega) (by first | rfl | (simp [c_1, hN1, hk1, hf3_34, hf3_68]; done)) 0 nu2_41 r _ _ _ _ _ _ _ _ _ _ _ _ (fun _ => Ph.e (tx := (txC f3_68 (iN (sz n)))) (z := (iN (sz n))) (r := 101) (q := 0) (nu := znu) (k := 0) (K := k_41) ⟨by rw [hph_41], by rw [hph_41]⟩ _) (fun x => by omega) rfl (by omega) (by omega) (GLe.rf G) (FrG.rf G N) hG0 hrp hrt (hW) hS ls (lv_sub hl [0, 1, 2, 3, 4, 5] rfl)
        · skip
          exact absurd (Int32.not_lt.mp (nI_n0 (n := k_41) (by omega))) c_3
      · skip
        have hW : WW E (wK b E.2.1 (wT b E.2.1 xN xT xA xh xd xl xr xo xw xpp xtp xap xsg yN yT yA yh yd yl yr yo yw ypp ytp yap ysg (nI q2_41) pl2_41 lt2_41 jo2_41 fo2_41 (nI (iN (sz n))) f3_34 nu2_41) pd qt qr tbu wst asw pN tN aN (hdC (r 3)) (r 4) (r 5) (r 6) (r 7) wx pp tp ap sg uh ud up ur us ux) G H := hW
        have hB := in_b1 (sv := r) hph_41
        rw [hTX] at hB
        have hR := (instR_0 hw0 hN1).trans hB.1
        have hSr := (instS_0 hw0 hN1).trans hB.2
        refine lv_istore (pc := 44) (lv' := [(4, .int (-1)), (3, .ref q1), (2, .int (wrR kp so (nI n) (-1))), (0, .ref (b 0)), (1, .int (nI n))]) hx hb dX7_instrument_44 hl (by decide) rfl (fun ls hl => ?_)
        refine lv_iload (pc := 46) hx hb dX7_instrument_46 (lv_at hl 0 rfl) ?_
        refine lv_if_ge (pc := 48) (tgt := 63) hx hb dX7_instrument_48 (by decide) (fun c => absurd c (by decide)) (fun _ => ?_)
        refine lv_iconst (pc := 51) (v := 1) hx hb dX7_instrument_51 (by decide) ?_
        refine lv_aload_n (pc := 52) hx hb dX7_instrument_52 rfl (lv_at hl 3 rfl) ?_
        refine z_get (pc := 53) cx (hW.at 0 rfl) (C := RX7) (T := TX7) (N := 11) rfl i_X7 4 rfl m_fl_X7_25 rfl dX7_instrument_53 ?_
        refine z_get (pc := 56) cx (hW.at 29 rfl) (C := RX3) (T := TX3) (N := 8) rfl i_X3 0 rfl m_fl_X7_74 rfl dX7_instrument_56 ?_
        refine k_X7_fault (pc := 59) (x := 1) (y := nI q2_41) cx  m_ml_X7_77 ⟨Nat.le_of_ble_eq_true rfl, Nat.le_of_ble_eq_true rfl⟩ hl.1 rfl (by simp [Value.category]) dX7_instrument_59 (by constructor <;> (simp only [rmA]; omega)) ?_
        refine z_tope (y := -1000 - nI q2_41) (by rw [show (-1000 : Int32) * 1 = -1000 by decide]) ?_
        refine W.widen (k := 101) (n := 606) (by omega) (by omega) ?_
        exact z_wiret cx hr hlk dX7_instrument_62 hS ⟨G, pN, tN, wx, pp, tp, yN, yT, yA, yh, yd, yl, yr, yo, yw, ypp, ytp, yap, (nI q2_41), pl2_41, lt2_41, jo2_41, fo2_41, (nI (iN (sz n))), f3_34, nu2_41, (sI hR.symm), (GLe.rf G), (FrG.rf G N), (by rw [hSr]; exact hG0), hrp, hrt, (by rw [hSr]; exact hW)⟩
    · skip
      have hwn := (wr_of2 hwr hN1).1 c_2
      have hR := (inst_no (sz := sz) (el := el) (sv := r) (nu := znu) (by rw [hwn]; decide)).1.trans hwn
      have hSr := (inst_no (sz := sz) (el := el) (sv := r) (nu := znu) (d := nI n) (by rw [hwn]; decide)).2
      refine lv_bipush (pc := 26) (v := (-12)) hx hb dX7_instrument_26 (by decide) ?_
      refine W.widen (k := 101) (n := 606) (by omega) (by omega) ?_
      exact z_wiret cx hr hlk dX7_instrument_28 hS ⟨G, pN, tN, wx, pp, tp, yN, yT, yA, yh, yd, yl, yr, yo, yw, ypp, ytp, yap, zat, zpl, zlt, zjo, zfo, zsz, zby, znu, (sI hR.symm), (GLe.rf G), (FrG.rf G N), (by rw [hSr]; exact hG0), hrp, hrt, (by rw [hSr]; exact hW)⟩
  · skip
    have hR := (inst_no (sz := sz) (el := el) (sv := r) (nu := znu) (wr_of1 c_1).2).1.trans (wr_of1 c_1).1
    have hSr := (inst_no (sz := sz) (el := el) (sv := r) (nu := znu) (wr_of1 c_1).2).2
    refine lv_iload_n (pc := 10) hx hb dX7_instrument_10 rfl (lv_at hl 0 rfl) ?_
    refine W.widen (k := 101) (n := 606) (by omega) (by omega) ?_
    exact z_wiret cx hr hlk dX7_instrument_11 hS ⟨G, pN, tN, wx, pp, tp, yN, yT, yA, yh, yd, yl, yr, yo, yw, ypp, ytp, yap, zat, zpl, zlt, zjo, zfo, zsz, zby, znu, (sI hR.symm), (GLe.rf G), (FrG.rf G N), (by rw [hSr]; exact hG0), hrp, hrt, (by rw [hSr]; exact hW)⟩
theorem k_X7_instrument {p : Program} {l : Launch} {e : Env} {R : Room} {s : State} {m : MethodId} {args : Array Value} {below : List Frame} {meth : Method} {c : Code} {H H0 : Heap} {locs : List Loc} {cells slots : Nat} {Q : State → Prop} {cc : ByteArray} {pc index : Nat} {ls : Array Slot} {rest st0 : List Value} {E : zE} {own : String} {nL : Nat} {F : Nat → Prop} {b : Nat → Nat} {pd : Bool} {qt : Nat → Option Nat} {qr : Nat → Option Nat} {tbu : Nat → Int32} {wst : Nat → Int32} {asw : Nat → Int32} {pN : Int32} {tN : Int32} {aN : Int32} {wx : Nat → Int32} {pp : Nat → Option Nat} {tp : Nat → Option Nat} {ap : Nat → Option Nat} {sg : Nat → Int32} {uh : Int32} {ud : Int32} {up : Int32} {ur : Int32} {us : Int32} {ux : Nat → Int32} {xN : Int32} {xT : Int32} {xA : Int32} {xh : Int32} {xd : Int32} {xl : Int32} {xr : Int32} {xo : Int32} {xw : Nat → Int32} {xpp : Nat → Option Nat} {xtp : Nat → Option Nat} {xap : Nat → Option Nat} {xsg : Nat → Int32} {yN : Int32} {yT : Int32} {yA : Int32} {yh : Int32} {yd : Int32} {yl : Int32} {yr : Int32} {yo : Int32} {yw : Nat → Int32} {ypp : Nat → Option Nat} {ytp : Nat → Option Nat} {yap : Nat → Option Nat} {ysg : Nat → Int32} {zat : Int32} {zpl : Int32} {zlt : Int32} {zjo : Bool} {zfo : Int32} {zsz : Int32} {zby : Nat → Int32} {znu : Nat → Int32} {G : zG} {N : Nat} {d : Int32} {r : Nat → Int32} {kp so sz el pr ts : Nat → Int32} (cx : Cx E p s args m c own cc nL) (hCE : CE E (bFz b N) s H) (hW : WW E (wK b E.2.1 (wT b E.2.1 xN xT xA xh xd xl xr xo xw xpp xtp xap xsg yN yT yA yh yd yl yr yo yw ypp ytp yap ysg zat zpl zlt zjo zfo zsz zby znu) pd qt qr tbu wst asw pN tN aN (hdC (r 3)) (r 4) (r 5) (r 6) (r 7) wx pp tp ap sg uh ud up ur us ux) G H) (hN0 : H.size = N) (hS : va_S F H0 H locs) (zF : ∀ q, (bFz b N) q → F q) (hG : CG E.2.1 G r pN tN aN wx pp tp ap) (hSh : ShG E.2.1 G qt qr kp so sz el pr ts) (hrp : RfG G 2 10 pp) (hrt : RfG G 6 7 tp) (hra : RfG G 0 24 ap) (zl : Cond.methodLink own index yX7_instrument ∈ AllW) (zR : 7 + 1 ≤ R.frames ∧ 8 + (6 + 11) + 150 ≤ R.locals) (zs : ls.size = nL) (zt : st0 = ([.int d] : List Value).reverse ++ .ref (b 0) :: rest) (z8 : (rest.map fun v => v.category).sum ≤ 8) (zd : decode cc pc = .ok (.invokevirtual index, 3)) (zf : cells + 101 ≤ R.cells ∧ slots + 606 ≤ R.slots) (kk0 : ∀ (G2 : zG) (pN2 : Int32) (tN2 : Int32) (wx2 : Nat → Int32) (pp2 : Nat → Option Nat) (tp2 : Nat → Option Nat) (yN2 : Int32) (yT2 : Int32) (yA2 : Int32) (yh2 : Int32) (yd2 : Int32) (yl2 : Int32) (yr2 : Int32) (yo2 : Int32) (yw2 : Nat → Int32) (ypp2 : Nat → Option Nat) (ytp2 : Nat → Option Nat) (yap2 : Nat → Option Nat) (zat2 : Int32) (zpl2 : Int32) (zlt2 : Int32) (zjo2 : Bool) (zfo2 : Int32) (zsz2 : Int32) (zby2 : Nat → Int32) (znu2 : Nat → Int32) (H1 : Heap) (locs1 : List Loc), (GLe G G2) → (FrG G G2 N) → (CG E.2.1 G2 (instS kp so sz el r znu d) pN2 tN2 aN wx2 pp2 tp2 ap) → (RfG G2 2 10 pp2) → (RfG G2 6 7 tp2) → WW E (wK b E.2.1 (wT b E.2.1 xN xT xA xh xd xl xr xo xw xpp xtp xap xsg yN2 yT2 yA2 yh2 yd2 yl2 yr2 yo2 yw2 ypp2 ytp2 yap2 ysg zat2 zpl2 zlt2 zjo2 zfo2 zsz2 zby2 znu2) pd qt qr tbu wst asw pN2 tN2 aN (hdC ((instS kp so sz el r znu d) 3)) ((instS kp so sz el r znu d) 4) ((instS kp so sz el r znu d) 5) ((instS kp so sz el r znu d) 6) ((instS kp so sz el r znu d) 7) wx2 pp2 tp2 ap sg uh ud up ur us ux) G2 H1 → va_S F H0 H1 locs1 → W p l e R s m args below meth c H1 locs1 (cells + 101) (slots + 606) Q (F0 m (pc + 3) ls (.int (instR kp so sz el r znu d) :: rest))) : W p l e R s m args below meth c H locs cells slots Q (F0 m pc ls st0) := by
  refine z_callVwc cx hCE vm_X7_instrument (c_X7_instrument l E b pd qt qr tbu wst asw pN tN aN wx pp tp ap sg uh ud up ur us ux xN xT xA xh xd xl xr xo xw xpp xtp xap xsg yN yT yA yh yd yl yr yo yw ypp ytp yap ysg zat zpl zlt zjo zfo zsz zby znu G N d r kp so sz el pr ts hG hSh hrp hrt hra) (z_rec cx.2 (hW.at 0 rfl) rfl) ⟨hW, hN0⟩ hS zF zl ⟨rfl, rfl⟩ zR rfl zs zt z8 zd zf (fun v H1 locs1 hq hS1 _ => ?_)
  rcases hq with ⟨G2, pN2, tN2, wx2, pp2, tp2, yN2, yT2, yA2, yh2, yd2, yl2, yr2, yo2, yw2, ypp2, ytp2, yap2, zat2, zpl2, zlt2, zjo2, zfo2, zsz2, zby2, znu2, rfl, hGL, hng, hG2, hrp2, hrt2, hW1⟩
  · exact kk0 G2 pN2 tN2 wx2 pp2 tp2 yN2 yT2 yA2 yh2 yd2 yl2 yr2 yo2 yw2 ypp2 ytp2 yap2 zat2 zpl2 zlt2 zjo2 zfo2 zsz2 zby2 znu2 H1 locs1 hGL hng hG2 hrp2 hrt2 hW1 hS1
