theorem vm_X1_keepAsk : zVm yX1_keepAsk cX1_keepAsk 5 (some FieldType.int) 3 := ⟨m_co_X1_keepAsk, m_in_RX1, ⟨m_im_X1_keepAsk, m_se_X1_X1_keepAsk⟩, by decide +kernel, by decide +kernel, by decide +kernel⟩
set_option maxHeartbeats 1000000 in
set_option maxRecDepth 100000 in
theorem c_X1_keepAsk (l : Launch) (E : zE) (b : Nat → Nat) (tl : va_W) (pd : Bool) (qt : Nat → Option Nat) (qr : Nat → Option Nat) (tbu : Nat → Int32) (wst : Nat → Int32) (asw : Nat → Int32) (pN : Int32) (tN : Int32) (aN : Int32) (wx : Nat → Int32) (pp : Nat → Option Nat) (tp : Nat → Option Nat) (ap : Nat → Option Nat) (sg : Nat → Int32) (uh : Int32) (ud : Int32) (up : Int32) (ur : Int32) (us : Int32) (ux : Nat → Int32) (G : zG) (N : Nat) (f st : Int32) (hh : Bool) (r : Nat → Int32) (hG : CG E.2.1 G r pN tN aN wx pp tp ap) (hf : rg f 1 1200) (hs : rg st 1 99) (hAl : nA r < 24) : Met l yX1_keepAsk (.code yX1_keepAsk cX1_keepAsk 5 (some FieldType.int) :: AllW) (rmA 6 144 3 21) (zP E (fun H => WW E (wK b E.2.1 tl pd qt qr tbu wst asw pN tN aN (hdC (r 3)) (r 4) (r 5) (r 6) (r 7) wx pp tp ap sg uh ud up ur us ux) G H ∧ H.size = N) [.ref (b 6), .int f, .int st, .int (bI hh)]) (zQ (fun (_ : Heap) (v : Option Value) (H1 : Heap) => (∃ (q9 : Nat) (t9 : Nat) (w9 : Nat) (G2 : zG) (sg2 : Nat → Int32), v = some (.int (nI (nA r + 1))) ∧ (GLe G G2) ∧ (CG E.2.1 G2 (akS r f st hh) pN tN (nI (nA r + 1)) wx pp tp (va_up ap (nA r) (some q9))) ∧ (G2 q9 = some (ceA f st (bI hh) (hrA r f st) t9)) ∧ (G2 t9 = some (ceS (hdC (r 3)) (r 4) (r 5) (r 6) (r 7) w9)) ∧ (∀ z e, G z = some e → z ≠ w9) ∧ (FrG G G2 N) ∧ WW E (wK b E.2.1 tl pd qt qr tbu wst asw pN tN (nI (nA r + 1)) (hdC ((akS r f st hh) 3)) ((akS r f st hh) 4) ((akS r f st hh) 5) ((akS r f st hh) 6) ((akS r f st hh) 7) wx pp tp (va_up ap (nA r) (some q9)) sg2 uh ud up ur us ux) G2 H1)) (bFz b N)) 3 21 (bFz b N) := by
  refine z_body (own := RX1) (by decide) rfl rfl ?_
  intro p e s m args below meth c ls cx hr hlk hnm hW hl
  have hx := cx.x
  have hb := cx.b
  have hl : lv_has ls 5 [(0, .ref (b 6)), (1, .int f), (2, .int st), (3, .int (bI hh))] := hl
  obtain ⟨hW, hN0⟩ := hW
  have hFb : ∀ k, (bFz b N) (b k) := fun k => Or.inl (bF_in b k)
  have hS : va_S (bFz b N) s.heap s.heap [] := va_S.rf
  have hG0 := hG
  obtain ⟨hI, hpN, htN, haN, hPc, hTh, hAk, hwx⟩ := hG
  have hC := hI.1
  have hIS := hI.2.1
  have hP := hI.2.2.1
  have hT := hI.2.2.2.1
  have hP10 := (Inv.n0 hC).2
  have hT7 := (Inv.n1 hC).2
  have hA24 := (Inv.n2 hC).2
  have e0 := (Inv.n0 hC).1
  have e1 := (Inv.n1 hC).1
  have e2 := (Inv.n2 hC).1
  refine lv_aload_n (pc := 0) hx hb dX1_keepAsk_0 rfl (lv_at hl 0 rfl) ?_
  refine z_get (pc := 1) cx (hW.at 6 rfl) (C := RX1) (T := TX1) (N := 8) rfl i_X1 2 rfl m_fl_X1_47 rfl dX1_keepAsk_1 ?_
  refine lv_bipush (pc := 4) (v := 24) hx hb dX1_keepAsk_4 (by decide) ?_
  refine lv_icmp_ge (pc := 6) (tgt := 64) hx hb dX1_keepAsk_6 (by decide) (fun c_1 => ?_) (fun c_1 => ?_)
  · skip
    have h24 := ge_nat (a := nA r) (b := 24) haN rfl (by omega) (by omega) c_1
    omega
  · skip
    refine z_new (pc := 9) (ci := 5) (C := RX5) (T := TX5) (N := 6) (fs := [.int 0, .int 0, .int 0, .int 0, .int 0, .null]) (ty := tyX5) cx hW hS rfl i_X5 tyX5_ok m_cl_X1_9 m_is_RX5 m_in_RX5 (by intro j hj; (rcases j with _ | _ | _ | _ | _ | _ | j) <;> first | rfl | omega) (by constructor <;> (simp only [rmA]; omega)) dX1_keepAsk_9 (fun n9 H hNn9 hfn9 hW hS => ?_)
    have hW : WW E (wK b E.2.1 tl pd qt qr tbu wst asw pN tN aN (hdC (r 3)) (r 4) (r 5) (r 6) (r 7) wx pp tp ap sg uh ud up ur us ux) (va_up G n9 (some ((.inr (5, [.int 0, .int 0, .int 0, .int 0, .int 0, .null]) : va_E)))) H := hW
    refine lv_dup (pc := 12) hx hb dX1_keepAsk_12 rfl ?_
    refine k_X5_init (pc := 13) (q := n9)  cx hW hS up_s (Or.inr (hN0 ▸ hNn9)) (fun z h => Or.inr (hN0 ▸ h)) m_ml_X1_11 ⟨Nat.le_of_ble_eq_true rfl, Nat.le_of_ble_eq_true rfl⟩ hl.1 rfl (by simp [Value.category]) dX1_keepAsk_13 (by constructor <;> (simp only [rmA]; omega)) (fun r13 H locs hNr13 hfr13 hW hS => ?_)
    rw [up_up] at hW
    have hf2n9 : ∀ z e, va_up G n9 (some (ceS (-1) 0 0 0 0 r13)) z = some e → z ≠ r13 := up_fr hfr13
    have hGLn9 : GLe G (va_up (va_up G n9 (some (ceS (-1) 0 0 0 0 r13))) r13 (some (ceI E.2.1 10 (fun _ => 0)))) := GLe.up2 hfn9 hf2n9
    have hgn9 : (va_up (va_up G n9 (some (ceS (-1) 0 0 0 0 r13))) r13 (some (ceI E.2.1 10 (fun _ => 0)))) n9 = some (ceS (-1) 0 0 0 0 r13) := (up_n (hf2n9 n9 _ up_s)).trans up_s
    have hgr13 : (va_up (va_up G n9 (some (ceS (-1) 0 0 0 0 r13))) r13 (some (ceI E.2.1 10 (fun _ => 0)))) r13 = some (ceI E.2.1 10 (fun _ => 0)) := up_s
    have hW : WW E (wK b E.2.1 tl pd qt qr tbu wst asw pN tN aN (hdC (r 3)) (r 4) (r 5) (r 6) (r 7) wx pp tp ap sg uh ud up ur us ux) (va_up (va_up G n9 (some (ceS (-1) 0 0 0 0 r13))) r13 (some (ceI E.2.1 10 (fun _ => 0)))) H := hW
    refine lv_astore (pc := 16) (lv' := [(4, .ref n9), (0, .ref (b 6)), (1, .int f), (2, .int st), (3, .int (bI hh))]) hx hb dX1_keepAsk_16 hl (by decide) rfl (fun ls hl => ?_)
    refine lv_aload (pc := 18) hx hb dX1_keepAsk_18 (lv_at hl 0 rfl) ?_
    refine lv_aload_n (pc := 20) hx hb dX1_keepAsk_20 rfl (lv_at hl 1 rfl) ?_
    refine z_get (pc := 21) cx (hW.at 6 rfl) (C := RX1) (T := TX1) (N := 8) rfl i_X1 3 rfl m_fl_X1_12 rfl dX1_keepAsk_21 ?_
    refine k_X5_become_n (pc := 24) (t := b 7) (q := n9) (w := r13) (w2 := b 8) (i := 7) (j := 8) cx hW hS (Or.inr (hN0 ▸ hNn9)) (Or.inr (hN0 ▸ hNr13)) hgn9 hgr13 rfl rfl (by decide) m_ml_X1_50 ⟨Nat.le_of_ble_eq_true rfl, Nat.le_of_ble_eq_true rfl⟩ hl.1 rfl (by simp [Value.category]) dX1_keepAsk_24 (by constructor <;> (simp only [rmA]; omega)) (fun  H locs  hW hS => ?_)
    have hW : WW E (wK b E.2.1 tl pd qt qr tbu wst asw pN tN aN (hdC (r 3)) (r 4) (r 5) (r 6) (r 7) wx pp tp ap sg uh ud up ur us ux) (va_up (va_up (va_up (va_up G n9 (some (ceS (-1) 0 0 0 0 r13))) r13 (some (ceI E.2.1 10 (fun _ => 0)))) n9 (some (ceS (hdC (r 3)) (r 4) (r 5) (r 6) (r 7) r13))) r13 (some (ceI E.2.1 10 wx))) H := hW
    have hne : n9 ≠ r13 := G_ne hgn9 hgr13 inr_inl
    rw [up_22 hne] at hW
    have hW : WW E (wK b E.2.1 tl pd qt qr tbu wst asw pN tN aN (hdC (r 3)) (r 4) (r 5) (r 6) (r 7) wx pp tp ap sg uh ud up ur us ux) (va_up (va_up G n9 (some (ceS (hdC (r 3)) (r 4) (r 5) (r 6) (r 7) r13))) r13 (some (ceI E.2.1 10 wx))) H := hW
    have hGLa : GLe G (va_up (va_up G n9 (some (ceS (hdC (r 3)) (r 4) (r 5) (r 6) (r 7) r13))) r13 (some (ceI E.2.1 10 wx))) := GLe.up2 hfn9 (up_fr hf2n9)
    have hgn9 : (va_up (va_up G n9 (some (ceS (hdC (r 3)) (r 4) (r 5) (r 6) (r 7) r13))) r13 (some (ceI E.2.1 10 wx))) n9 = some (ceS (hdC (r 3)) (r 4) (r 5) (r 6) (r 7) r13) := (up_n hne).trans up_s
    have hgr13 : (va_up (va_up G n9 (some (ceS (hdC (r 3)) (r 4) (r 5) (r 6) (r 7) r13))) r13 (some (ceI E.2.1 10 wx))) r13 = some (ceI E.2.1 10 wx) := up_s
    refine lv_aload_n (pc := 27) hx hb dX1_keepAsk_27 rfl (lv_at hl 1 rfl) ?_
    refine z_get (pc := 28) cx (hW.at 6 rfl) (C := RX1) (T := TX1) (N := 8) rfl i_X1 6 rfl m_fl_X1_32 rfl dX1_keepAsk_28 ?_
    refine lv_aload_n (pc := 31) hx hb dX1_keepAsk_31 rfl (lv_at hl 1 rfl) ?_
    refine z_get (pc := 32) cx (hW.at 6 rfl) (C := RX1) (T := TX1) (N := 8) rfl i_X1 2 rfl m_fl_X1_47 rfl dX1_keepAsk_32 ?_
    refine z_tope (y := nI (nA r)) haN ?_
    refine z_new (pc := 35) (ci := 0) (C := RX0) (T := TX0) (N := 5) (fs := [.int 0, .int 0, .int 0, .int 0, .null]) (ty := tyX0) cx hW hS rfl i_X0 tyX0_ok m_cl_X1_30 m_is_RX0 m_in_RX0 (by intro j hj; (rcases j with _ | _ | _ | _ | _ | _ | j) <;> first | rfl | omega) (by constructor <;> (simp only [rmA]; omega)) dX1_keepAsk_35 (fun n35 H hNn35 hfn35 hW hS => ?_)
    have hW : WW E (wK b E.2.1 tl pd qt qr tbu wst asw pN tN aN (hdC (r 3)) (r 4) (r 5) (r 6) (r 7) wx pp tp ap sg uh ud up ur us ux) (va_up (va_up (va_up G n9 (some (ceS (hdC (r 3)) (r 4) (r 5) (r 6) (r 7) r13))) r13 (some (ceI E.2.1 10 wx))) n35 (some ((.inr (0, [.int 0, .int 0, .int 0, .int 0, .null]) : va_E)))) H := hW
    have hGLb := hGLa.tr (GLe.up (x := (.inr (0, [.int 0, .int 0, .int 0, .int 0, .null]) : va_E)) hfn35)
    obtain ⟨-, -, -, -, hPc, hTh, hAk, -⟩ := hG0.mono hGLb
    refine lv_dup (pc := 38) hx hb dX1_keepAsk_38 rfl ?_
    refine lv_iload_n (pc := 39) hx hb dX1_keepAsk_39 rfl (lv_at hl 2 rfl) ?_
    refine lv_iload_n (pc := 40) hx hb dX1_keepAsk_40 rfl (lv_at hl 3 rfl) ?_
    refine lv_iload_n (pc := 41) hx hb dX1_keepAsk_41 rfl (lv_at hl 4 rfl) ?_
    refine lv_aload_n (pc := 42) hx hb dX1_keepAsk_42 rfl (lv_at hl 1 rfl) ?_
    refine lv_iload_n (pc := 43) hx hb dX1_keepAsk_43 rfl (lv_at hl 2 rfl) ?_
    refine lv_iload_n (pc := 44) hx hb dX1_keepAsk_44 rfl (lv_at hl 3 rfl) ?_
    refine k_X1_buzzingAt (pc := 45) (f := f) (st := st) (r := r) cx hW hS (fun _ h => Or.inl h) hI hpN htN hPc hTh hf hwx m_ml_X1_99 ⟨Nat.le_of_ble_eq_true rfl, Nat.le_of_ble_eq_true rfl⟩ hl.1 rfl (by simp [Value.category]) dX1_keepAsk_45 (by constructor <;> (simp only [rmA]; omega)) (fun sg2 H locs  hW hS => ?_)
    have hW : WW E (wK b E.2.1 tl pd qt qr tbu wst asw pN tN aN (hdC (r 3)) (r 4) (r 5) (r 6) (r 7) wx pp tp ap sg2 uh ud up ur us ux) (va_up (va_up (va_up G n9 (some (ceS (hdC (r 3)) (r 4) (r 5) (r 6) (r 7) r13))) r13 (some (ceI E.2.1 10 wx))) n35 (some ((.inr (0, [.int 0, .int 0, .int 0, .int 0, .null]) : va_E)))) H := hW
    refine lv_aload (pc := 48) hx hb dX1_keepAsk_48 (lv_at hl 0 rfl) ?_
    refine k_X0_init (pc := 50) (q := n35) (v0 := f) (v1 := st) (hb2 := hh) (v3 := hrA r f st) (t := n9) cx hW hS up_s (Or.inr (hN0 ▸ hNn35)) m_ml_X1_103 ⟨Nat.le_of_ble_eq_true rfl, Nat.le_of_ble_eq_true rfl⟩ hl.1 rfl (by simp [Value.category]) dX1_keepAsk_50 (by constructor <;> (simp only [rmA]; omega)) (fun H locs hW hS => ?_)
    rw [up_up] at hW
    have hGLn35 : GLe (va_up (va_up G n9 (some (ceS (hdC (r 3)) (r 4) (r 5) (r 6) (r 7) r13))) r13 (some (ceI E.2.1 10 wx))) (va_up (va_up (va_up G n9 (some (ceS (hdC (r 3)) (r 4) (r 5) (r 6) (r 7) r13))) r13 (some (ceI E.2.1 10 wx))) n35 (some (ceA f st (bI hh) (hrA r f st) n9))) := GLe.up hfn35
    have hgn35 : (va_up (va_up (va_up G n9 (some (ceS (hdC (r 3)) (r 4) (r 5) (r 6) (r 7) r13))) r13 (some (ceI E.2.1 10 wx))) n35 (some (ceA f st (bI hh) (hrA r f st) n9))) n35 = some (ceA f st (bI hh) (hrA r f st) n9) := up_s
    have hW : WW E (wK b E.2.1 tl pd qt qr tbu wst asw pN tN aN (hdC (r 3)) (r 4) (r 5) (r 6) (r 7) wx pp tp ap sg2 uh ud up ur us ux) (va_up (va_up (va_up G n9 (some (ceS (hdC (r 3)) (r 4) (r 5) (r 6) (r 7) r13))) r13 (some (ceI E.2.1 10 wx))) n35 (some (ceA f st (bI hh) (hrA r f st) n9))) H := hW
    have hGLc := hGLa.tr hGLn35
    refine z_aast (pc := 53) (f := ap) (j := nA r) cx hW hS 11 3 0 rfl rfl (hW.dyn hgn35) rfl (hFb 11) rfl (by omega) (by decide) dX1_keepAsk_53 (fun H locs hW hS => ?_)
    have hW : WW E (wK b E.2.1 tl pd qt qr tbu wst asw pN tN aN (hdC (r 3)) (r 4) (r 5) (r 6) (r 7) wx pp tp (va_up ap (nA r) (some n35)) sg2 uh ud up ur us ux) (va_up (va_up (va_up G n9 (some (ceS (hdC (r 3)) (r 4) (r 5) (r 6) (r 7) r13))) r13 (some (ceI E.2.1 10 wx))) n35 (some (ceA f st (bI hh) (hrA r f st) n9))) H := hW
    refine lv_aload_n (pc := 54) hx hb dX1_keepAsk_54 rfl (lv_at hl 1 rfl) ?_
    refine lv_dup (pc := 55) hx hb dX1_keepAsk_55 rfl ?_
    refine z_get (pc := 56) cx (hW.at 6 rfl) (C := RX1) (T := TX1) (N := 8) rfl i_X1 2 rfl m_fl_X1_47 rfl dX1_keepAsk_56 ?_
    refine lv_iconst (pc := 59) (v := 1) hx hb dX1_keepAsk_59 (by decide) ?_
    refine lv_iadd (pc := 60) hx hb dX1_keepAsk_60 ?_
    refine z_tope (y := nI (nA r + 1)) (by rw [haN]; exact nI_1 _) ?_
    refine z_putK1 (pc := 61) cx hW hS 6 rfl (hFb 6) 2 rfl m_fl_X1_47 rfl rfl dX1_keepAsk_61 (fun H locs hW hS => ?_)
    have hW : WW E (wK b E.2.1 tl pd qt qr tbu wst asw pN tN (nI (nA r + 1)) (hdC (r 3)) (r 4) (r 5) (r 6) (r 7) wx pp tp (va_up ap (nA r) (some n35)) sg2 uh ud up ur us ux) (va_up (va_up (va_up G n9 (some (ceS (hdC (r 3)) (r 4) (r 5) (r 6) (r 7) r13))) r13 (some (ceI E.2.1 10 wx))) n35 (some (ceA f st (bI hh) (hrA r f st) n9))) H := hW
    refine lv_aload_n (pc := 64) hx hb dX1_keepAsk_64 rfl (lv_at hl 1 rfl) ?_
    refine z_get (pc := 65) cx (hW.at 6 rfl) (C := RX1) (T := TX1) (N := 8) rfl i_X1 2 rfl m_fl_X1_47 rfl dX1_keepAsk_65 ?_
    refine W.widen (k := 3) (n := 21) (by omega) (by omega) ?_
    exact z_wiret cx hr hlk dX1_keepAsk_68 hS ⟨n35, n9, r13, _, _, rfl, hGLc, (CG_ask (hG0.mono hGLc) hAl hf hs hgn35 (hGLn35 _ _ hgn9) (hGLn35 _ _ hgr13) hwx), hgn35, (hGLn35 _ _ hgn9), (fun z e hz => hfr13 z e (by rw [up_n (hfn9 z e hz)]; exact hz)), ((((FrG.up (by rw [← hN0]; exact hNn9)).st (by rw [← hN0]; exact hNr13)).st (by rw [← hN0]; exact hNn35))), (by rw [show hdC ((akS r f st hh) 3) = hdC (r 3) from congrArg hdC (akS_lo (by decide) (by omega)), show (akS r f st hh) 4 = r 4 from akS_lo (by decide) (by omega), show (akS r f st hh) 5 = r 5 from akS_lo (by decide) (by omega), show (akS r f st hh) 6 = r 6 from akS_lo (by decide) (by omega), show (akS r f st hh) 7 = r 7 from akS_lo (by decide) (by omega)]; exact hW)⟩
theorem k_X1_keepAsk {p : Program} {l : Launch} {e : Env} {R : Room} {s : State} {m : MethodId} {args : Array Value} {below : List Frame} {meth : Method} {c : Code} {H H0 : Heap} {locs : List Loc} {cells slots : Nat} {Q : State → Prop} {cc : ByteArray} {pc index : Nat} {ls : Array Slot} {rest st0 : List Value} {E : zE} {own : String} {nL : Nat} {F : Nat → Prop} {b : Nat → Nat} {tl : va_W} {pd : Bool} {qt : Nat → Option Nat} {qr : Nat → Option Nat} {tbu : Nat → Int32} {wst : Nat → Int32} {asw : Nat → Int32} {pN : Int32} {tN : Int32} {aN : Int32} {wx : Nat → Int32} {pp : Nat → Option Nat} {tp : Nat → Option Nat} {ap : Nat → Option Nat} {sg : Nat → Int32} {uh : Int32} {ud : Int32} {up : Int32} {ur : Int32} {us : Int32} {ux : Nat → Int32} {G : zG} {N : Nat} {f st : Int32} {hh : Bool} {r : Nat → Int32} (cx : Cx E p s args m c own cc nL) (hW : WW E (wK b E.2.1 tl pd qt qr tbu wst asw pN tN aN (hdC (r 3)) (r 4) (r 5) (r 6) (r 7) wx pp tp ap sg uh ud up ur us ux) G H) (hN0 : H.size = N) (hS : va_S F H0 H locs) (zF : ∀ q, (bFz b N) q → F q) (hG : CG E.2.1 G r pN tN aN wx pp tp ap) (hf : rg f 1 1200) (hs : rg st 1 99) (hAl : nA r < 24) (zl : Cond.methodLink own index yX1_keepAsk ∈ AllW) (zR : 6 + 1 ≤ R.frames ∧ 8 + (5 + 11) + 144 ≤ R.locals) (zs : ls.size = nL) (zt : st0 = ([.int f, .int st, .int (bI hh)] : List Value).reverse ++ .ref (b 6) :: rest) (z8 : (rest.map fun v => v.category).sum ≤ 8) (zd : decode cc pc = .ok (.invokevirtual index, 3)) (zf : cells + 3 ≤ R.cells ∧ slots + 21 ≤ R.slots) (kk0 : ∀ (q9 : Nat) (t9 : Nat) (w9 : Nat) (G2 : zG) (sg2 : Nat → Int32) (H1 : Heap) (locs1 : List Loc), (GLe G G2) → (CG E.2.1 G2 (akS r f st hh) pN tN (nI (nA r + 1)) wx pp tp (va_up ap (nA r) (some q9))) → (G2 q9 = some (ceA f st (bI hh) (hrA r f st) t9)) → (G2 t9 = some (ceS (hdC (r 3)) (r 4) (r 5) (r 6) (r 7) w9)) → (∀ z e, G z = some e → z ≠ w9) → (FrG G G2 N) → WW E (wK b E.2.1 tl pd qt qr tbu wst asw pN tN (nI (nA r + 1)) (hdC ((akS r f st hh) 3)) ((akS r f st hh) 4) ((akS r f st hh) 5) ((akS r f st hh) 6) ((akS r f st hh) 7) wx pp tp (va_up ap (nA r) (some q9)) sg2 uh ud up ur us ux) G2 H1 → va_S F H0 H1 locs1 → W p l e R s m args below meth c H1 locs1 (cells + 3) (slots + 21) Q (F0 m (pc + 3) ls (.int (nI (nA r + 1)) :: rest))) : W p l e R s m args below meth c H locs cells slots Q (F0 m pc ls st0) := by
  refine z_callVw cx vm_X1_keepAsk (c_X1_keepAsk l E b tl pd qt qr tbu wst asw pN tN aN wx pp tp ap sg uh ud up ur us ux G N f st hh r hG hf hs hAl) (z_rec cx.2 (hW.at 6 rfl) rfl) ⟨hW, hN0⟩ hS zF zl ⟨rfl, rfl⟩ zR rfl zs zt z8 zd zf (fun v H1 locs1 hq hS1 _ => ?_)
  rcases hq with ⟨q9, t9, w9, G2, sg2, rfl, hGL, hG2, hgq, hgt, hfw, hng, hW1⟩
  · exact kk0 q9 t9 w9 G2 sg2 H1 locs1 hGL hG2 hgq hgt hfw hng hW1 hS1
theorem vm_X7_ask : zVm yX7_ask cX7_ask 4 (some FieldType.int) 3 := ⟨m_co_X7_ask, m_in_RX7, ⟨m_im_X7_ask, m_se_X7_X7_ask⟩, by decide +kernel, by decide +kernel, by decide +kernel⟩
set_option maxHeartbeats 1000000 in
set_option maxRecDepth 100000 in
theorem c_X7_ask (l : Launch) (E : zE) (b : Nat → Nat) (tl : va_W) (pd : Bool) (qt : Nat → Option Nat) (qr : Nat → Option Nat) (tbu : Nat → Int32) (wst : Nat → Int32) (asw : Nat → Int32) (pN : Int32) (tN : Int32) (aN : Int32) (wx : Nat → Int32) (pp : Nat → Option Nat) (tp : Nat → Option Nat) (ap : Nat → Option Nat) (sg : Nat → Int32) (uh : Int32) (ud : Int32) (up : Int32) (ur : Int32) (us : Int32) (ux : Nat → Int32) (G : zG) (N : Nat) (f st : Int32) (hh : Bool) (r : Nat → Int32) (hG : CG E.2.1 G r pN tN aN wx pp tp ap) : Met l yX7_ask (.code yX7_ask cX7_ask 4 (some FieldType.int) :: AllW) (rmA 7 168 3 21) (zP E (fun H => WW E (wK b E.2.1 tl pd qt qr tbu wst asw pN tN aN (hdC (r 3)) (r 4) (r 5) (r 6) (r 7) wx pp tp ap sg uh ud up ur us ux) G H ∧ H.size = N) [.ref (b 0), .int f, .int st, .int (bI hh)]) (zQ (fun (_ : Heap) (v : Option Value) (H1 : Heap) => (v = some (.int (askR r f st)) ∧ (askS r f st hh = r) ∧ WW E (wK b E.2.1 tl pd qt qr tbu wst asw pN tN aN (hdC (r 3)) (r 4) (r 5) (r 6) (r 7) wx pp tp ap sg uh ud up ur us ux) G H1) ∨ (∃ (q9 : Nat) (t9 : Nat) (w9 : Nat) (G2 : zG) (sg2 : Nat → Int32), v = some (.int (askR r f st)) ∧ (askS r f st hh = (akS r f st hh)) ∧ (GLe G G2) ∧ (CG E.2.1 G2 (akS r f st hh) pN tN (nI (nA r + 1)) wx pp tp (va_up ap (nA r) (some q9))) ∧ (G2 q9 = some (ceA f st (bI hh) (hrA r f st) t9)) ∧ (G2 t9 = some (ceS (hdC (r 3)) (r 4) (r 5) (r 6) (r 7) w9)) ∧ (∀ z e, G z = some e → z ≠ w9) ∧ (FrG G G2 N) ∧ WW E (wK b E.2.1 tl pd qt qr tbu wst asw pN tN (nI (nA r + 1)) (hdC ((akS r f st hh) 3)) ((akS r f st hh) 4) ((akS r f st hh) 5) ((akS r f st hh) 6) ((akS r f st hh) 7) wx pp tp (va_up ap (nA r) (some q9)) sg2 uh ud up ur us ux) G2 H1)) (bFz b N)) 3 21 (bFz b N) := by
  refine z_body (own := RX7) (by decide) rfl rfl ?_
  intro p e s m args below meth c ls cx hr hlk hnm hW hl
  have hx := cx.x
  have hb := cx.b
  have hl : lv_has ls 4 [(0, .ref (b 0)), (1, .int f), (2, .int st), (3, .int (bI hh))] := hl
  obtain ⟨hW, hN0⟩ := hW
  have hFb : ∀ k, (bFz b N) (b k) := fun k => Or.inl (bF_in b k)
  have hS : va_S (bFz b N) s.heap s.heap [] := va_S.rf
  have hG0 := hG
  obtain ⟨hI, hpN, htN, haN, hPc, hTh, hAk, hwx⟩ := hG
  have hC := hI.1
  have hIS := hI.2.1
  have hP := hI.2.2.1
  have hT := hI.2.2.2.1
  have hP10 := (Inv.n0 hC).2
  have hT7 := (Inv.n1 hC).2
  have hA24 := (Inv.n2 hC).2
  have e0 := (Inv.n0 hC).1
  have e1 := (Inv.n1 hC).1
  have e2 := (Inv.n2 hC).1
  have hq24 := ask_24 hC haN
  have ht1 : tN = r 1 := htN.trans e1.symm
  refine lv_iload_n (pc := 0) hx hb dX7_ask_0 rfl (lv_at hl 1 rfl) ?_
  refine lv_iload_n (pc := 1) hx hb dX7_ask_1 rfl (lv_at hl 2 rfl) ?_
  refine k_X7_isBowed (pc := 2) (x := f) (y := st) cx  m_ml_X7_175 ⟨Nat.le_of_ble_eq_true rfl, Nat.le_of_ble_eq_true rfl⟩ hl.1 rfl (by simp [Value.category]) dX7_ask_2 (by constructor <;> (simp only [rmA]; omega)) ?_
  refine z_ifne (pc := 5) (tgt := 10) hx hb dX7_ask_5 (by decide) (fun c_1 => ?_) (fun c_1 => ?_)
  · skip
    obtain ⟨hf1, hs1⟩ := and_t c_1
    have hf := tone_rg hf1
    have hsr := inL_rg hs1
    refine lv_aload_n (pc := 10) hx hb dX7_ask_10 rfl (lv_at hl 0 rfl) ?_
    refine z_get (pc := 11) cx (hW.at 0 rfl) (C := RX7) (T := TX7) (N := 11) rfl i_X7 0 rfl m_fl_X7_10 rfl dX7_ask_11 ?_
    refine z_get (pc := 14) cx (hW.at 6 rfl) (C := RX1) (T := TX1) (N := 8) rfl i_X1 2 rfl m_fl_X7_203 rfl dX7_ask_14 ?_
    refine lv_bipush (pc := 17) (v := 24) hx hb dX7_ask_17 (by decide) ?_
    refine lv_icmp_lt (pc := 19) (tgt := 25) hx hb dX7_ask_19 (by decide) (fun c_2 => ?_) (fun c_2 => ?_)
    · skip
      obtain ⟨h24, hAl⟩ := hq24.2 (Int32.not_le.mpr c_2)
      refine lv_aload_n (pc := 25) hx hb dX7_ask_25 rfl (lv_at hl 0 rfl) ?_
      refine z_get (pc := 26) cx (hW.at 0 rfl) (C := RX7) (T := TX7) (N := 11) rfl i_X7 0 rfl m_fl_X7_10 rfl dX7_ask_26 ?_
      refine z_get (pc := 29) cx (hW.at 6 rfl) (C := RX1) (T := TX1) (N := 8) rfl i_X1 1 rfl m_fl_X7_206 rfl dX7_ask_29 ?_
      refine z_tope (y := r 1) ht1 ?_
      refine lv_if_ne (pc := 32) (tgt := 38) hx hb dX7_ask_32 (by decide) (fun c_3 => ?_) (fun c_3 => ?_)
      · skip
        refine lv_aload_n (pc := 38) hx hb dX7_ask_38 rfl (lv_at hl 0 rfl) ?_
        refine z_get (pc := 39) cx (hW.at 0 rfl) (C := RX7) (T := TX7) (N := 11) rfl i_X7 0 rfl m_fl_X7_10 rfl dX7_ask_39 ?_
        refine lv_iload_n (pc := 42) hx hb dX7_ask_42 rfl (lv_at hl 1 rfl) ?_
        refine lv_iload_n (pc := 43) hx hb dX7_ask_43 rfl (lv_at hl 2 rfl) ?_
        refine lv_iload_n (pc := 44) hx hb dX7_ask_44 rfl (lv_at hl 3 rfl) ?_
        refine k_X1_keepAsk (pc := 45) (f := f) (st := st) (hh := hh) (r := r) cx hW rfl hS (fun _ h => h.elim Or.inl (fun g => Or.inr (Nat.le_trans (hN0 ▸ hS.1) g))) hG0 hf hsr hAl m_ml_X7_209 ⟨Nat.le_of_ble_eq_true rfl, Nat.le_of_ble_eq_true rfl⟩ hl.1 rfl (by simp [Value.category]) dX7_ask_45 (by constructor <;> (simp only [rmA]; omega)) (fun q9 t9 w9 G2 sg2 H locs hGL hG2 hgq hgt hfw hng hW hS => ?_)
        have hW : WW E (wK b E.2.1 tl pd qt qr tbu wst asw pN tN (nI (nA r + 1)) (hdC ((akS r f st hh) 3)) ((akS r f st hh) 4) ((akS r f st hh) 5) ((akS r f st hh) 6) ((akS r f st hh) 7) wx pp tp (va_up ap (nA r) (some q9)) sg2 uh ud up ur us ux) G2 H := hW
        refine W.widen (k := 3) (n := 21) (by omega) (by omega) ?_
        exact z_wiret cx hr hlk dX7_ask_48 hS (Or.inr ⟨q9, t9, w9, _, _, (sI (by simp [askR, hf1, hs1, h24, c_3]; rw [e2, nI_1])), (by unfold askS; rw [if_pos ⟨hf1, hs1⟩, if_neg h24, if_neg c_3]; rfl), hGL, hG2, hgq, hgt, hfw, (by rw [← hN0]; exact hng), (by exact hW)⟩)
      · skip
        refine lv_bipush (pc := 35) (v := (-3)) hx hb dX7_ask_35 (by decide) ?_
        refine W.widen (k := 3) (n := 21) (by omega) (by omega) ?_
        exact z_wiret cx hr hlk dX7_ask_37 hS (Or.inl ⟨(sI (by first | rfl | (simp [askR, hf1, hs1, h24, c_3]; done))), (by unfold askS; rw [if_pos ⟨hf1, hs1⟩, if_neg h24, if_pos c_3]), hW⟩)
    · skip
      have h24 := hq24.1 (Int32.not_lt.mp c_2)
      refine lv_bipush (pc := 22) (v := (-2)) hx hb dX7_ask_22 (by decide) ?_
      refine W.widen (k := 3) (n := 21) (by omega) (by omega) ?_
      exact z_wiret cx hr hlk dX7_ask_24 hS (Or.inl ⟨(sI (by first | rfl | (simp [askR, hf1, hs1, h24]; done))), (by unfold askS; rw [if_pos ⟨hf1, hs1⟩, if_pos h24]), hW⟩)
  · skip
    have hb0 := and_f c_1
    have hb3 := and_f3 c_1
    refine lv_iconst (pc := 8) (v := (-1)) hx hb dX7_ask_8 (by decide) ?_
    refine W.widen (k := 3) (n := 21) (by omega) (by omega) ?_
    exact z_wiret cx hr hlk dX7_ask_9 hS (Or.inl ⟨(sI (by first | rfl | (simp [askR, hb0, hb3]; done))), (by unfold askS; rw [if_neg hb0]), hW⟩)
theorem k_X7_ask {p : Program} {l : Launch} {e : Env} {R : Room} {s : State} {m : MethodId} {args : Array Value} {below : List Frame} {meth : Method} {c : Code} {H H0 : Heap} {locs : List Loc} {cells slots : Nat} {Q : State → Prop} {cc : ByteArray} {pc index : Nat} {ls : Array Slot} {rest st0 : List Value} {E : zE} {own : String} {nL : Nat} {F : Nat → Prop} {b : Nat → Nat} {tl : va_W} {pd : Bool} {qt : Nat → Option Nat} {qr : Nat → Option Nat} {tbu : Nat → Int32} {wst : Nat → Int32} {asw : Nat → Int32} {pN : Int32} {tN : Int32} {aN : Int32} {wx : Nat → Int32} {pp : Nat → Option Nat} {tp : Nat → Option Nat} {ap : Nat → Option Nat} {sg : Nat → Int32} {uh : Int32} {ud : Int32} {up : Int32} {ur : Int32} {us : Int32} {ux : Nat → Int32} {G : zG} {N : Nat} {f st : Int32} {hh : Bool} {r : Nat → Int32} (cx : Cx E p s args m c own cc nL) (hW : WW E (wK b E.2.1 tl pd qt qr tbu wst asw pN tN aN (hdC (r 3)) (r 4) (r 5) (r 6) (r 7) wx pp tp ap sg uh ud up ur us ux) G H) (hN0 : H.size = N) (hS : va_S F H0 H locs) (zF : ∀ q, (bFz b N) q → F q) (hG : CG E.2.1 G r pN tN aN wx pp tp ap) (zl : Cond.methodLink own index yX7_ask ∈ AllW) (zR : 7 + 1 ≤ R.frames ∧ 8 + (4 + 11) + 168 ≤ R.locals) (zs : ls.size = nL) (zt : st0 = ([.int f, .int st, .int (bI hh)] : List Value).reverse ++ .ref (b 0) :: rest) (z8 : (rest.map fun v => v.category).sum ≤ 8) (zd : decode cc pc = .ok (.invokevirtual index, 3)) (zf : cells + 3 ≤ R.cells ∧ slots + 21 ≤ R.slots) (kk0 : ∀  (H1 : Heap) (locs1 : List Loc), (askS r f st hh = r) → WW E (wK b E.2.1 tl pd qt qr tbu wst asw pN tN aN (hdC (r 3)) (r 4) (r 5) (r 6) (r 7) wx pp tp ap sg uh ud up ur us ux) G H1 → va_S F H0 H1 locs1 → W p l e R s m args below meth c H1 locs1 (cells + 3) (slots + 21) Q (F0 m (pc + 3) ls (.int (askR r f st) :: rest))) (kk1 : ∀ (q9 : Nat) (t9 : Nat) (w9 : Nat) (G2 : zG) (sg2 : Nat → Int32) (H1 : Heap) (locs1 : List Loc), (askS r f st hh = (akS r f st hh)) → (GLe G G2) → (CG E.2.1 G2 (akS r f st hh) pN tN (nI (nA r + 1)) wx pp tp (va_up ap (nA r) (some q9))) → (G2 q9 = some (ceA f st (bI hh) (hrA r f st) t9)) → (G2 t9 = some (ceS (hdC (r 3)) (r 4) (r 5) (r 6) (r 7) w9)) → (∀ z e, G z = some e → z ≠ w9) → (FrG G G2 N) → WW E (wK b E.2.1 tl pd qt qr tbu wst asw pN tN (nI (nA r + 1)) (hdC ((akS r f st hh) 3)) ((akS r f st hh) 4) ((akS r f st hh) 5) ((akS r f st hh) 6) ((akS r f st hh) 7) wx pp tp (va_up ap (nA r) (some q9)) sg2 uh ud up ur us ux) G2 H1 → va_S F H0 H1 locs1 → W p l e R s m args below meth c H1 locs1 (cells + 3) (slots + 21) Q (F0 m (pc + 3) ls (.int (askR r f st) :: rest))) : W p l e R s m args below meth c H locs cells slots Q (F0 m pc ls st0) := by
  refine z_callVw cx vm_X7_ask (c_X7_ask l E b tl pd qt qr tbu wst asw pN tN aN wx pp tp ap sg uh ud up ur us ux G N f st hh r hG) (z_rec cx.2 (hW.at 0 rfl) rfl) ⟨hW, hN0⟩ hS zF zl ⟨rfl, rfl⟩ zR rfl zs zt z8 zd zf (fun v H1 locs1 hq hS1 _ => ?_)
  rcases hq with ⟨rfl, hno, hW1⟩ | ⟨q9, t9, w9, G2, sg2, rfl, hys, hGL, hG2, hgq, hgt, hfw, hng, hW1⟩
  · exact kk0  H1 locs1 hno hW1 hS1
  · exact kk1 q9 t9 w9 G2 sg2 H1 locs1 hys hGL hG2 hgq hgt hfw hng hW1 hS1
