theorem vm_X1_follow : zVm yX1_follow cX1_follow 3 (some FieldType.boolean) 1 := ⟨m_co_X1_follow, m_in_RX1, ⟨m_im_X1_follow, m_se_X1_X1_follow⟩, by decide +kernel, by decide +kernel, by decide +kernel⟩
set_option maxHeartbeats 1000000 in
set_option maxRecDepth 100000 in
theorem c_X1_follow (l : Launch) (E : zE) (b : Nat → Nat) (pd : Bool) (qt : Nat → Option Nat) (qr : Nat → Option Nat) (tbu : Nat → Int32) (wst : Nat → Int32) (asw : Nat → Int32) (pN : Int32) (tN : Int32) (aN : Int32) (hd : Int32) (dr : Int32) (pl : Int32) (rm : Int32) (ps : Int32) (wx : Nat → Int32) (pp : Nat → Option Nat) (tp : Nat → Option Nat) (ap : Nat → Option Nat) (sg : Nat → Int32) (uh : Int32) (ud : Int32) (up : Int32) (ur : Int32) (us : Int32) (ux : Nat → Int32) (xN : Int32) (xT : Int32) (xA : Int32) (xh : Int32) (xd : Int32) (xl : Int32) (xr : Int32) (xo : Int32) (xw : Nat → Int32) (xpp : Nat → Option Nat) (xtp : Nat → Option Nat) (xap : Nat → Option Nat) (xsg : Nat → Int32) (yN : Int32) (yT : Int32) (yA : Int32) (yw : Nat → Int32) (ypp : Nat → Option Nat) (ytp : Nat → Option Nat) (yap : Nat → Option Nat) (ysg : Nat → Int32) (zat : Int32) (zpl : Int32) (zlt : Int32) (zjo : Bool) (zfo : Int32) (zsz : Int32) (zby : Nat → Int32) (znu : Nat → Int32) (G : zG) (N : Nat) (g : Nat → Int32) (hG : CG E.2.1 G g yN yT yA yw ypp ytp yap) (hN : NumOK zlt zjo znu) (hrp : RfG G 2 10 ypp) (hrt : RfG G 6 7 ytp) : Met l yX1_follow (.code yX1_follow cX1_follow 3 (some FieldType.boolean) :: AllW) (rmA 3 92 1 6) (zPc E (bFz b N) (fun H => WW E (wK b E.2.1 (wT b E.2.1 xN xT xA xh xd xl xr xo xw xpp xtp xap xsg yN yT yA (hdC (g 3)) (g 4) (g 5) (g 6) (g 7) yw ypp ytp yap ysg zat zpl zlt zjo zfo zsz zby znu) pd qt qr tbu wst asw pN tN aN hd dr pl rm ps wx pp tp ap sg uh ud up ur us ux) G H ∧ H.size = N) [.ref (b 22), .ref (b 29)]) (zQ (fun (_ : Heap) (v : Option Value) (H1 : Heap) => (∃ (G2 : zG) (yN2 : Int32) (yT2 : Int32) (yw2 : Nat → Int32) (ypp2 : Nat → Option Nat) (ytp2 : Nat → Option Nat), v = some (.int (bI true)) ∧ (cmO g znu zjo zlt = true) ∧ (GLe G G2) ∧ (CG E.2.1 G2 (cmR g znu zjo zlt) yN2 yT2 yA yw2 ypp2 ytp2 yap) ∧ (FrG G G2 N) ∧ (RfG G2 2 10 ypp2) ∧ (RfG G2 6 7 ytp2) ∧ WW E (wK b E.2.1 (wT b E.2.1 xN xT xA xh xd xl xr xo xw xpp xtp xap xsg yN2 yT2 yA (hdC ((cmR g znu zjo zlt) 3)) ((cmR g znu zjo zlt) 4) ((cmR g znu zjo zlt) 5) ((cmR g znu zjo zlt) 6) ((cmR g znu zjo zlt) 7) yw2 ypp2 ytp2 yap ysg zat zpl zlt zjo zfo zsz zby znu) pd qt qr tbu wst asw pN tN aN hd dr pl rm ps wx pp tp ap sg uh ud up ur us ux) G2 H1) ∨ (v = some (.int (bI false)) ∧ (cmO g znu zjo zlt = false) ∧ WW E (wK b E.2.1 (wT b E.2.1 xN xT xA xh xd xl xr xo xw xpp xtp xap xsg yN yT yA (hdC (g 3)) (g 4) (g 5) (g 6) (g 7) yw ypp ytp yap ysg zat zpl zlt zjo zfo zsz zby znu) pd qt qr tbu wst asw pN tN aN hd dr pl rm ps wx pp tp ap sg uh ud up ur us ux) G H1)) (bFz b N)) 1 6 (bFz b N) := by
  refine z_bodyc (own := RX1) (by decide) rfl rfl ?_
  intro p e s m args below meth c ls cx hr hlk hnm hW hCE hl
  have hx := cx.x
  have hb := cx.b
  have hl : lv_has ls 3 [(0, .ref (b 22)), (1, .ref (b 29))] := hl
  obtain ⟨hW, hN0⟩ := hW
  have hFb : ∀ k, (bFz b N) (b k) := fun k => Or.inl (bF_in b k)
  have hS : va_S (bFz b N) s.heap s.heap [] := va_S.rf
  have hG0 := hG
  refine lv_aload_n (pc := 0) hx hb dX1_follow_0 rfl (lv_at hl 1 rfl) ?_
  refine lv_iconst (pc := 1) (v := 0) hx hb dX1_follow_1 (by decide) ?_
  refine k_X3_numberAt (pc := 2) (n := 0) cx hW (by first | assumption | omega) m_ml_X1_61 ⟨Nat.le_of_ble_eq_true rfl, Nat.le_of_ble_eq_true rfl⟩ hl.1 rfl (by simp [Value.category]) dX1_follow_2 (by constructor <;> (simp only [rmA]; omega)) ?_
  refine lv_istore_n (pc := 5) (lv' := [(2, .int (znu 0)), (0, .ref (b 22)), (1, .ref (b 29))]) hx hb dX1_follow_5 rfl hl (by decide) rfl (fun ls hl => ?_)
  refine lv_aload_n (pc := 6) hx hb dX1_follow_6 rfl (lv_at hl 2 rfl) ?_
  refine z_get (pc := 7) cx (hW.at 29 rfl) (C := RX3) (T := TX3) (N := 8) rfl i_X3 2 rfl m_fl_X1_67 rfl dX1_follow_7 ?_
  by_cases c_1 : zlt = 100
  · subst c_1
    refine lv_lookup (pc := 10) (tgt := 72) (off := 62) hx hb dX1_follow_10 (by decide) (by decide) (by decide) ?_
    refine lv_aload_n (pc := 72) hx hb dX1_follow_72 rfl (lv_at hl 1 rfl) ?_
    refine z_get (pc := 73) cx (hW.at 22 rfl) (C := RX1) (T := TX1) (N := 8) rfl i_X1 3 rfl m_fl_X1_12 rfl dX1_follow_73 ?_
    refine lv_iconst (pc := 76) (v := 0) hx hb dX1_follow_76 (by decide) ?_
    refine lv_iload_n (pc := 77) hx hb dX1_follow_77 rfl (lv_at hl 0 rfl) ?_
    refine k_X5_tell_t (pc := 78) (w := 0) (n := znu 0) cx ((hCE.kept hS.2.1).narrow (fun _ h => Or.inl h)) hW hS (fun _ h => Or.inl h)  m_ml_X1_77 ⟨Nat.le_of_ble_eq_true rfl, Nat.le_of_ble_eq_true rfl⟩ hl.1 rfl (by simp [Value.category]) dX1_follow_78 (by constructor <;> (simp only [rmA]; omega)) (fun  H locs  hW hS => ?_)
    have hW : WW E (wK b E.2.1 (wT b E.2.1 xN xT xA xh xd xl xr xo xw xpp xtp xap xsg yN yT yA (hdC (g 3)) (tlV (g 4) 0 (znu 0) 0) (tlV (g 5) 0 (znu 0) 1) (tlV (g 6) 0 (znu 0) 2) (tlV (g 7) 0 (znu 0) 3) yw ypp ytp yap ysg zat zpl 100 zjo zfo zsz zby znu) pd qt qr tbu wst asw pN tN aN hd dr pl rm ps wx pp tp ap sg uh ud up ur us ux) G H := hW
    by_cases c_2 : isVl 0 (znu 0) = true
    · skip
      have hv : isVl 0 (znu 0) = true := c_2
      refine W.widen (k := 1) (n := 6) (by omega) (by omega) ?_
      exact z_wzret (b := (isVl 0 (znu 0))) cx hr hlk dX1_follow_81 hS (Or.inl ⟨G, yN, yT, yw, ypp, ytp, (sI (by rw [hv])), ((cm_d (num_d hN)).1.trans hv), (GLe.rf G), (by rw [(cm_d (num_d hN)).2 ((cm_d (num_d hN)).1.trans hv)]; exact CG_setS hG0 _ _), (FrG.rf G N), hrp, hrt, (by rw [(cm_d (num_d hN)).2 ((cm_d (num_d hN)).1.trans hv), congrArg hdC (setS_k g 0 (znu 0)).1, (setS_k g 0 (znu 0)).2.1, (setS_k g 0 (znu 0)).2.2.1, (setS_k g 0 (znu 0)).2.2.2.1, (setS_k g 0 (znu 0)).2.2.2.2]; exact hW)⟩)
    · skip
      have hv : isVl 0 (znu 0) = false := eq_false_of_ne_true c_2
      rw [tlV_f hv, tlV_f hv, tlV_f hv, tlV_f hv] at hW
      have hW : WW E (wK b E.2.1 (wT b E.2.1 xN xT xA xh xd xl xr xo xw xpp xtp xap xsg yN yT yA (hdC (g 3)) (g 4) (g 5) (g 6) (g 7) yw ypp ytp yap ysg zat zpl 100 zjo zfo zsz zby znu) pd qt qr tbu wst asw pN tN aN hd dr pl rm ps wx pp tp ap sg uh ud up ur us ux) G H := hW
      refine W.widen (k := 1) (n := 6) (by omega) (by omega) ?_
      exact z_wzret (b := (isVl 0 (znu 0))) cx hr hlk dX1_follow_81 hS (Or.inr ⟨(sI (by rw [hv])), ((cm_d (num_d hN)).1.trans hv), hW⟩)
  by_cases c_3 : zlt = 112
  · subst c_3
    refine lv_lookup (pc := 10) (tgt := 60) (off := 50) hx hb dX1_follow_10 (by decide) (by decide) (by decide) ?_
    refine lv_aload_n (pc := 60) hx hb dX1_follow_60 rfl (lv_at hl 1 rfl) ?_
    refine lv_aload_n (pc := 61) hx hb dX1_follow_61 rfl (lv_at hl 2 rfl) ?_
    refine k_X1_joinPiece (pc := 62)  cx hW rfl hS (fun _ h => h.elim Or.inl (fun g => Or.inr (Nat.le_trans (hN0 ▸ hS.1) g))) hG0 (num_p hN) m_ml_X1_70 ⟨Nat.le_of_ble_eq_true rfl, Nat.le_of_ble_eq_true rfl⟩ hl.1 rfl (by simp [Value.category]) dX1_follow_62 (by constructor <;> (simp only [rmA]; omega)) (fun q9_62 G2_62 H locs ho_62 hGL_62 hq9_62 hng_62 hW hS => ?_) (fun  H locs ho_62 hW hS => ?_)
    · skip
      have hW : WW E (wK b E.2.1 (wT b E.2.1 xN xT xA xh xd xl xr xo xw xpp xtp xap xsg (nI (nP g + 1)) yT yA (hdC (g 3)) (g 4) (g 5) (g 6) (g 7) (upd yw (nP g) 0) (va_up ypp (nP g) (some q9_62)) ytp yap ysg zat zpl 112 zjo zfo zsz zby znu) pd qt qr tbu wst asw pN tN aN hd dr pl rm ps wx pp tp ap sg uh ud up ur us ux) G2_62 H := hW
      refine W.widen (k := 1) (n := 6) (by omega) (by omega) ?_
      exact z_wzret (b := true) cx hr hlk dX1_follow_65 hS (Or.inl ⟨G2_62, (nI (nP g + 1)), yT, (upd yw (nP g) 0), (va_up ypp (nP g) (some q9_62)), ytp, rfl, (show cmO g znu zjo 112 = true from ho_62), hGL_62, (by rw [cm_p ho_62]; exact CG_cp hG0 (num_p hN) ho_62 hGL_62 hq9_62), (by rw [← hN0]; exact hng_62), (RfG_up (hrp.mono hGL_62) hq9_62), (hrt.mono hGL_62), (by have cs := cm_s (nu := znu) (ij := zjo) hG0.1.1 (x := 112) (Or.inl rfl) (show cmO g znu zjo 112 = true from ho_62); rw [congrArg hdC (cs 3 (by decide) (by decide)), cs 4 (by decide) (by decide), cs 5 (by decide) (by decide), cs 6 (by decide) (by decide), cs 7 (by decide) (by decide)]; exact hW)⟩)
    · skip
      have hW : WW E (wK b E.2.1 (wT b E.2.1 xN xT xA xh xd xl xr xo xw xpp xtp xap xsg yN yT yA (hdC (g 3)) (g 4) (g 5) (g 6) (g 7) yw ypp ytp yap ysg zat zpl 112 zjo zfo zsz zby znu) pd qt qr tbu wst asw pN tN aN hd dr pl rm ps wx pp tp ap sg uh ud up ur us ux) G H := hW
      refine W.widen (k := 1) (n := 6) (by omega) (by omega) ?_
      exact z_wzret (b := false) cx hr hlk dX1_follow_65 hS (Or.inr ⟨rfl, (show cmO g znu zjo 112 = false from ho_62), hW⟩)
  by_cases c_4 : zlt = 114
  · subst c_4
    refine lv_lookup (pc := 10) (tgt := 92) (off := 82) hx hb dX1_follow_10 (by decide) (by decide) (by decide) ?_
    refine lv_aload_n (pc := 92) hx hb dX1_follow_92 rfl (lv_at hl 1 rfl) ?_
    refine z_get (pc := 93) cx (hW.at 22 rfl) (C := RX1) (T := TX1) (N := 8) rfl i_X1 3 rfl m_fl_X1_12 rfl dX1_follow_93 ?_
    refine lv_iconst (pc := 96) (v := 2) hx hb dX1_follow_96 (by decide) ?_
    refine lv_iload_n (pc := 97) hx hb dX1_follow_97 rfl (lv_at hl 0 rfl) ?_
    refine k_X5_tell_t (pc := 98) (w := 2) (n := znu 0) cx ((hCE.kept hS.2.1).narrow (fun _ h => Or.inl h)) hW hS (fun _ h => Or.inl h)  m_ml_X1_77 ⟨Nat.le_of_ble_eq_true rfl, Nat.le_of_ble_eq_true rfl⟩ hl.1 rfl (by simp [Value.category]) dX1_follow_98 (by constructor <;> (simp only [rmA]; omega)) (fun  H locs  hW hS => ?_)
    have hW : WW E (wK b E.2.1 (wT b E.2.1 xN xT xA xh xd xl xr xo xw xpp xtp xap xsg yN yT yA (hdC (g 3)) (tlV (g 4) 2 (znu 0) 0) (tlV (g 5) 2 (znu 0) 1) (tlV (g 6) 2 (znu 0) 2) (tlV (g 7) 2 (znu 0) 3) yw ypp ytp yap ysg zat zpl 114 zjo zfo zsz zby znu) pd qt qr tbu wst asw pN tN aN hd dr pl rm ps wx pp tp ap sg uh ud up ur us ux) G H := hW
    by_cases c_5 : isVl 2 (znu 0) = true
    · skip
      have hv : isVl 2 (znu 0) = true := c_5
      refine W.widen (k := 1) (n := 6) (by omega) (by omega) ?_
      exact z_wzret (b := (isVl 2 (znu 0))) cx hr hlk dX1_follow_101 hS (Or.inl ⟨G, yN, yT, yw, ypp, ytp, (sI (by rw [hv])), ((cm_r (num_r hN)).1.trans hv), (GLe.rf G), (by rw [(cm_r (num_r hN)).2 ((cm_r (num_r hN)).1.trans hv)]; exact CG_setS hG0 _ _), (FrG.rf G N), hrp, hrt, (by rw [(cm_r (num_r hN)).2 ((cm_r (num_r hN)).1.trans hv), congrArg hdC (setS_k g 2 (znu 0)).1, (setS_k g 2 (znu 0)).2.1, (setS_k g 2 (znu 0)).2.2.1, (setS_k g 2 (znu 0)).2.2.2.1, (setS_k g 2 (znu 0)).2.2.2.2]; exact hW)⟩)
    · skip
      have hv : isVl 2 (znu 0) = false := eq_false_of_ne_true c_5
      rw [tlV_f hv, tlV_f hv, tlV_f hv, tlV_f hv] at hW
      have hW : WW E (wK b E.2.1 (wT b E.2.1 xN xT xA xh xd xl xr xo xw xpp xtp xap xsg yN yT yA (hdC (g 3)) (g 4) (g 5) (g 6) (g 7) yw ypp ytp yap ysg zat zpl 114 zjo zfo zsz zby znu) pd qt qr tbu wst asw pN tN aN hd dr pl rm ps wx pp tp ap sg uh ud up ur us ux) G H := hW
      refine W.widen (k := 1) (n := 6) (by omega) (by omega) ?_
      exact z_wzret (b := (isVl 2 (znu 0))) cx hr hlk dX1_follow_101 hS (Or.inr ⟨(sI (by rw [hv])), ((cm_r (num_r hN)).1.trans hv), hW⟩)
  by_cases c_6 : zlt = 116
  · subst c_6
    refine lv_lookup (pc := 10) (tgt := 66) (off := 56) hx hb dX1_follow_10 (by decide) (by decide) (by decide) ?_
    refine lv_aload_n (pc := 66) hx hb dX1_follow_66 rfl (lv_at hl 1 rfl) ?_
    refine lv_aload_n (pc := 67) hx hb dX1_follow_67 rfl (lv_at hl 2 rfl) ?_
    refine k_X1_hangThing (pc := 68)  cx hW rfl hS (fun _ h => h.elim Or.inl (fun g => Or.inr (Nat.le_trans (hN0 ▸ hS.1) g))) hG0 (num_t hN) m_ml_X1_74 ⟨Nat.le_of_ble_eq_true rfl, Nat.le_of_ble_eq_true rfl⟩ hl.1 rfl (by simp [Value.category]) dX1_follow_68 (by constructor <;> (simp only [rmA]; omega)) (fun q9_68 G2_68 H locs ho_68 hGL_68 hq9_68 hng_68 hW hS => ?_) (fun  H locs ho_68 hW hS => ?_)
    · skip
      have hW : WW E (wK b E.2.1 (wT b E.2.1 xN xT xA xh xd xl xr xo xw xpp xtp xap xsg yN (nI (nT g + 1)) yA (hdC (g 3)) (g 4) (g 5) (g 6) (g 7) yw ypp (va_up ytp (nT g) (some q9_68)) yap ysg zat zpl 116 zjo zfo zsz zby znu) pd qt qr tbu wst asw pN tN aN hd dr pl rm ps wx pp tp ap sg uh ud up ur us ux) G2_68 H := hW
      refine W.widen (k := 1) (n := 6) (by omega) (by omega) ?_
      exact z_wzret (b := true) cx hr hlk dX1_follow_71 hS (Or.inl ⟨G2_68, yN, (nI (nT g + 1)), yw, ypp, (va_up ytp (nT g) (some q9_68)), rfl, (show cmO g znu zjo 116 = true from ho_68), hGL_68, (by rw [cm_t ho_68]; exact CG_ct hG0 (num_t hN) ho_68 hGL_68 hq9_68), (by rw [← hN0]; exact hng_68), (hrp.mono hGL_68), (RfG_up (hrt.mono hGL_68) hq9_68), (by have cs := cm_s (nu := znu) (ij := zjo) hG0.1.1 (x := 116) (Or.inr rfl) (show cmO g znu zjo 116 = true from ho_68); rw [congrArg hdC (cs 3 (by decide) (by decide)), cs 4 (by decide) (by decide), cs 5 (by decide) (by decide), cs 6 (by decide) (by decide), cs 7 (by decide) (by decide)]; exact hW)⟩)
    · skip
      have hW : WW E (wK b E.2.1 (wT b E.2.1 xN xT xA xh xd xl xr xo xw xpp xtp xap xsg yN yT yA (hdC (g 3)) (g 4) (g 5) (g 6) (g 7) yw ypp ytp yap ysg zat zpl 116 zjo zfo zsz zby znu) pd qt qr tbu wst asw pN tN aN hd dr pl rm ps wx pp tp ap sg uh ud up ur us ux) G H := hW
      refine W.widen (k := 1) (n := 6) (by omega) (by omega) ?_
      exact z_wzret (b := false) cx hr hlk dX1_follow_71 hS (Or.inr ⟨rfl, (show cmO g znu zjo 116 = false from ho_68), hW⟩)
  by_cases c_7 : zlt = 119
  · subst c_7
    refine lv_lookup (pc := 10) (tgt := 82) (off := 72) hx hb dX1_follow_10 (by decide) (by decide) (by decide) ?_
    refine lv_aload_n (pc := 82) hx hb dX1_follow_82 rfl (lv_at hl 1 rfl) ?_
    refine z_get (pc := 83) cx (hW.at 22 rfl) (C := RX1) (T := TX1) (N := 8) rfl i_X1 3 rfl m_fl_X1_12 rfl dX1_follow_83 ?_
    refine lv_iconst (pc := 86) (v := 1) hx hb dX1_follow_86 (by decide) ?_
    refine lv_iload_n (pc := 87) hx hb dX1_follow_87 rfl (lv_at hl 0 rfl) ?_
    refine k_X5_tell_t (pc := 88) (w := 1) (n := znu 0) cx ((hCE.kept hS.2.1).narrow (fun _ h => Or.inl h)) hW hS (fun _ h => Or.inl h)  m_ml_X1_77 ⟨Nat.le_of_ble_eq_true rfl, Nat.le_of_ble_eq_true rfl⟩ hl.1 rfl (by simp [Value.category]) dX1_follow_88 (by constructor <;> (simp only [rmA]; omega)) (fun  H locs  hW hS => ?_)
    have hW : WW E (wK b E.2.1 (wT b E.2.1 xN xT xA xh xd xl xr xo xw xpp xtp xap xsg yN yT yA (hdC (g 3)) (tlV (g 4) 1 (znu 0) 0) (tlV (g 5) 1 (znu 0) 1) (tlV (g 6) 1 (znu 0) 2) (tlV (g 7) 1 (znu 0) 3) yw ypp ytp yap ysg zat zpl 119 zjo zfo zsz zby znu) pd qt qr tbu wst asw pN tN aN hd dr pl rm ps wx pp tp ap sg uh ud up ur us ux) G H := hW
    by_cases c_8 : isVl 1 (znu 0) = true
    · skip
      have hv : isVl 1 (znu 0) = true := c_8
      refine W.widen (k := 1) (n := 6) (by omega) (by omega) ?_
      exact z_wzret (b := (isVl 1 (znu 0))) cx hr hlk dX1_follow_91 hS (Or.inl ⟨G, yN, yT, yw, ypp, ytp, (sI (by rw [hv])), ((cm_w (num_w hN)).1.trans hv), (GLe.rf G), (by rw [(cm_w (num_w hN)).2 ((cm_w (num_w hN)).1.trans hv)]; exact CG_setS hG0 _ _), (FrG.rf G N), hrp, hrt, (by rw [(cm_w (num_w hN)).2 ((cm_w (num_w hN)).1.trans hv), congrArg hdC (setS_k g 1 (znu 0)).1, (setS_k g 1 (znu 0)).2.1, (setS_k g 1 (znu 0)).2.2.1, (setS_k g 1 (znu 0)).2.2.2.1, (setS_k g 1 (znu 0)).2.2.2.2]; exact hW)⟩)
    · skip
      have hv : isVl 1 (znu 0) = false := eq_false_of_ne_true c_8
      rw [tlV_f hv, tlV_f hv, tlV_f hv, tlV_f hv] at hW
      have hW : WW E (wK b E.2.1 (wT b E.2.1 xN xT xA xh xd xl xr xo xw xpp xtp xap xsg yN yT yA (hdC (g 3)) (g 4) (g 5) (g 6) (g 7) yw ypp ytp yap ysg zat zpl 119 zjo zfo zsz zby znu) pd qt qr tbu wst asw pN tN aN hd dr pl rm ps wx pp tp ap sg uh ud up ur us ux) G H := hW
      refine W.widen (k := 1) (n := 6) (by omega) (by omega) ?_
      exact z_wzret (b := (isVl 1 (znu 0))) cx hr hlk dX1_follow_91 hS (Or.inr ⟨(sI (by rw [hv])), ((cm_w (num_w hN)).1.trans hv), hW⟩)
  refine lv_lookup (pc := 10) (tgt := 102) (off := 92) hx hb dX1_follow_10 (by decide) ((lv_osw c_1 (by decide)).trans ((lv_osw c_3 (by decide)).trans ((lv_osw c_4 (by decide)).trans ((lv_osw c_6 (by decide)).trans ((lv_osw c_7 (by decide)).trans (rfl)))))) (by decide) ?_
  exact (num_no hN c_1 c_3 c_4 c_6 c_7).elim
theorem k_X1_follow {p : Program} {l : Launch} {e : Env} {R : Room} {s : State} {m : MethodId} {args : Array Value} {below : List Frame} {meth : Method} {c : Code} {H H0 : Heap} {locs : List Loc} {cells slots : Nat} {Q : State → Prop} {cc : ByteArray} {pc index : Nat} {ls : Array Slot} {rest st0 : List Value} {E : zE} {own : String} {nL : Nat} {F : Nat → Prop} {b : Nat → Nat} {pd : Bool} {qt : Nat → Option Nat} {qr : Nat → Option Nat} {tbu : Nat → Int32} {wst : Nat → Int32} {asw : Nat → Int32} {pN : Int32} {tN : Int32} {aN : Int32} {hd : Int32} {dr : Int32} {pl : Int32} {rm : Int32} {ps : Int32} {wx : Nat → Int32} {pp : Nat → Option Nat} {tp : Nat → Option Nat} {ap : Nat → Option Nat} {sg : Nat → Int32} {uh : Int32} {ud : Int32} {up : Int32} {ur : Int32} {us : Int32} {ux : Nat → Int32} {xN : Int32} {xT : Int32} {xA : Int32} {xh : Int32} {xd : Int32} {xl : Int32} {xr : Int32} {xo : Int32} {xw : Nat → Int32} {xpp : Nat → Option Nat} {xtp : Nat → Option Nat} {xap : Nat → Option Nat} {xsg : Nat → Int32} {yN : Int32} {yT : Int32} {yA : Int32} {yw : Nat → Int32} {ypp : Nat → Option Nat} {ytp : Nat → Option Nat} {yap : Nat → Option Nat} {ysg : Nat → Int32} {zat : Int32} {zpl : Int32} {zlt : Int32} {zjo : Bool} {zfo : Int32} {zsz : Int32} {zby : Nat → Int32} {znu : Nat → Int32} {G : zG} {N : Nat} {g : Nat → Int32} (cx : Cx E p s args m c own cc nL) (hCE : CE E (bFz b N) s H) (hW : WW E (wK b E.2.1 (wT b E.2.1 xN xT xA xh xd xl xr xo xw xpp xtp xap xsg yN yT yA (hdC (g 3)) (g 4) (g 5) (g 6) (g 7) yw ypp ytp yap ysg zat zpl zlt zjo zfo zsz zby znu) pd qt qr tbu wst asw pN tN aN hd dr pl rm ps wx pp tp ap sg uh ud up ur us ux) G H) (hN0 : H.size = N) (hS : va_S F H0 H locs) (zF : ∀ q, (bFz b N) q → F q) (hG : CG E.2.1 G g yN yT yA yw ypp ytp yap) (hN : NumOK zlt zjo znu) (hrp : RfG G 2 10 ypp) (hrt : RfG G 6 7 ytp) (zl : Cond.methodLink own index yX1_follow ∈ AllW) (zR : 3 + 1 ≤ R.frames ∧ 8 + (3 + 11) + 92 ≤ R.locals) (zs : ls.size = nL) (zt : st0 = ([.ref (b 29)] : List Value).reverse ++ .ref (b 22) :: rest) (z8 : (rest.map fun v => v.category).sum ≤ 8) (zd : decode cc pc = .ok (.invokevirtual index, 3)) (zf : cells + 1 ≤ R.cells ∧ slots + 6 ≤ R.slots) (kk0 : ∀ (G2 : zG) (yN2 : Int32) (yT2 : Int32) (yw2 : Nat → Int32) (ypp2 : Nat → Option Nat) (ytp2 : Nat → Option Nat) (H1 : Heap) (locs1 : List Loc), (cmO g znu zjo zlt = true) → (GLe G G2) → (CG E.2.1 G2 (cmR g znu zjo zlt) yN2 yT2 yA yw2 ypp2 ytp2 yap) → (FrG G G2 N) → (RfG G2 2 10 ypp2) → (RfG G2 6 7 ytp2) → WW E (wK b E.2.1 (wT b E.2.1 xN xT xA xh xd xl xr xo xw xpp xtp xap xsg yN2 yT2 yA (hdC ((cmR g znu zjo zlt) 3)) ((cmR g znu zjo zlt) 4) ((cmR g znu zjo zlt) 5) ((cmR g znu zjo zlt) 6) ((cmR g znu zjo zlt) 7) yw2 ypp2 ytp2 yap ysg zat zpl zlt zjo zfo zsz zby znu) pd qt qr tbu wst asw pN tN aN hd dr pl rm ps wx pp tp ap sg uh ud up ur us ux) G2 H1 → va_S F H0 H1 locs1 → W p l e R s m args below meth c H1 locs1 (cells + 1) (slots + 6) Q (F0 m (pc + 3) ls (.int 1 :: rest))) (kk1 : ∀  (H1 : Heap) (locs1 : List Loc), (cmO g znu zjo zlt = false) → WW E (wK b E.2.1 (wT b E.2.1 xN xT xA xh xd xl xr xo xw xpp xtp xap xsg yN yT yA (hdC (g 3)) (g 4) (g 5) (g 6) (g 7) yw ypp ytp yap ysg zat zpl zlt zjo zfo zsz zby znu) pd qt qr tbu wst asw pN tN aN hd dr pl rm ps wx pp tp ap sg uh ud up ur us ux) G H1 → va_S F H0 H1 locs1 → W p l e R s m args below meth c H1 locs1 (cells + 1) (slots + 6) Q (F0 m (pc + 3) ls (.int 0 :: rest))) : W p l e R s m args below meth c H locs cells slots Q (F0 m pc ls st0) := by
  refine z_callVwc cx hCE vm_X1_follow (c_X1_follow l E b pd qt qr tbu wst asw pN tN aN hd dr pl rm ps wx pp tp ap sg uh ud up ur us ux xN xT xA xh xd xl xr xo xw xpp xtp xap xsg yN yT yA yw ypp ytp yap ysg zat zpl zlt zjo zfo zsz zby znu G N g hG hN hrp hrt) (z_rec cx.2 (hW.at 22 rfl) rfl) ⟨hW, hN0⟩ hS zF zl ⟨rfl, rfl⟩ zR rfl zs zt z8 zd zf (fun v H1 locs1 hq hS1 _ => ?_)
  rcases hq with ⟨G2, yN2, yT2, yw2, ypp2, ytp2, rfl, ho, hGL, hG2, hng, hrp2, hrt2, hW1⟩ | ⟨rfl, ho, hW1⟩
  · exact kk0 G2 yN2 yT2 yw2 ypp2 ytp2 H1 locs1 ho hGL hG2 hng hrp2 hrt2 hW1 hS1
  · exact kk1  H1 locs1 ho hW1 hS1
