theorem vm_X6_fail : zVm yX6_fail cX6_fail 1 none 0 := ⟨m_co_X6_fail, m_in_RX6, ⟨m_im_X6_fail, m_se_X6_X6_fail⟩, by decide +kernel, by decide +kernel, by decide +kernel⟩
set_option maxHeartbeats 4000000 in
set_option maxRecDepth 100000 in
theorem c_X6_fail (l : Launch) (hst : l.stackTraces = false) (E : zE) (A : Nat → Prop) (q : Nat) (v0 v1 v2 v3 v4 v5 : Int32) : vx_Met l yX6_fail (.code yX6_fail cX6_fail 1 none :: AllW) (rmA 6 100 1 6) (zPx E A (fun H => va_at E.1 vwCl (q, ceT v0 v1 v2 v3 v4 v5) H) [.ref q]) (va_Qv (fun _ : Unit => (v1 = 3 ∨ v4 = 0)) (fun _ _ => True) nF) (vx_X (fun _ : Unit => ¬ (v1 = 3 ∨ v4 = 0)) (fun X _ _ => X = exN v1) nF) 1 6 nF := by
  refine z_bodyx (own := RX6) (by decide) rfl rfl ?_
  intro p e s m args below meth c ls cx hr hlk hne hW hxe hl
  have hx := cx.x
  have hb := cx.b
  have hl : lv_has ls 1 [(0, .ref q)] := hl
  refine lv_aload_n (pc := 0) hx hb dX6_fail_0 rfl (lv_at hl 0 rfl) ?_
  refine z_get (pc := 1) cx hW (C := RX6) (T := TX6) (N := 6) rfl i_X6 1 rfl m_fl_X6_13 rfl dX6_fail_1 ?_
  refine lv_iconst (pc := 4) (v := 3) hx hb dX6_fail_4 (by decide) ?_
  refine lv_icmp_eq (pc := 5) (tgt := 15) hx hb dX6_fail_5 (by decide) (fun c_1 => ?_) (fun c_1 => ?_)
  · skip
    refine W.widen (k := 1) (n := 6) (by omega) (by omega) ?_
    exact vx_ret (W.vret cx.x cx.b hr (fun t ht _ => ⟨⟨(), rfl, (by first | exact Or.inl c_1 | exact Or.inr (Classical.not_not.mp c_1) | exact Or.inr c_1), trivial⟩, va_S.F va_S.rf ht⟩) (fun _ h => by cases h) dX6_fail_15 hlk)
  · skip
    refine lv_aload_n (pc := 8) hx hb dX6_fail_8 rfl (lv_at hl 0 rfl) ?_
    refine z_get (pc := 9) cx hW (C := RX6) (T := TX6) (N := 6) rfl i_X6 4 rfl m_fl_X6_22 rfl dX6_fail_9 ?_
    refine lv_if_ne (pc := 12) (tgt := 16) hx hb dX6_fail_12 (by decide) (fun c_2 => ?_) (fun c_2 => ?_)
    · skip
      refine lv_aload_n (pc := 16) hx hb dX6_fail_16 rfl (lv_at hl 0 rfl) ?_
      refine z_get (pc := 17) cx hW (C := RX6) (T := TX6) (N := 6) rfl i_X6 1 rfl m_fl_X6_13 rfl dX6_fail_17 ?_
      refine lv_bipush (pc := 20) (v := 7) hx hb dX6_fail_20 (by decide) ?_
      refine lv_icmp_ne (pc := 22) (tgt := 35) hx hb dX6_fail_22 (by decide) (fun c_3 => ?_) (fun c_3 => ?_)
      · skip
        refine lv_aload_n (pc := 35) hx hb dX6_fail_35 rfl (lv_at hl 0 rfl) ?_
        refine z_get (pc := 36) cx hW (C := RX6) (T := TX6) (N := 6) rfl i_X6 1 rfl m_fl_X6_13 rfl dX6_fail_36 ?_
        refine lv_iconst (pc := 39) (v := 4) hx hb dX6_fail_39 (by decide) ?_
        refine lv_icmp_ne (pc := 40) (tgt := 53) hx hb dX6_fail_40 (by decide) (fun c_4 => ?_) (fun c_4 => ?_)
        · skip
          have hcond : ¬ (v1 = 3 ∨ v4 = 0) := (by rintro (h | h) <;> contradiction)
          exact vx_throwS (pc := 53) (A := A) hx hb hst cx.own (by decide +kernel) x_names (cx.ts _ m_cl_X6_40) (cx.ts _ m_in_Qjava_lang_IllegalStateException) hxe.2.2.2.2.2.2.2.2.2.2.2.2.2.1 (x_hat xw_6S xn_6S cx.ts hxe.2.2 (Or.inr (Or.inr rfl))) xg_6S hxe.1 hxe.2.1 va_S.rf (hl.1.trans cx.1.2.2.1.symm) dX6_fail_53 dX6_fail_56 dX6_fail_57 dX6_fail_59 dX6_fail_62 (fun x h => (hne x h).elim) (Nat.le_of_ble_eq_true rfl) (Nat.le_of_ble_eq_true rfl) (Nat.le_of_ble_eq_true rfl) (Nat.le_of_ble_eq_true rfl) hlk (fun t _ hz hq => ⟨(), hcond, (by unfold exN; simp [c_1, c_2, c_3, c_4]), hz, fun q h _ => hq q h⟩) (fun _ h => by cases h) (Nat.le_refl _) (Nat.le_refl _)
        · skip
          have hcond : ¬ (v1 = 3 ∨ v4 = 0) := (by rintro (h | h) <;> contradiction)
          exact vx_throwS (pc := 43) (A := A) hx hb hst cx.own (by decide +kernel) x_names (cx.ts _ m_cl_X6_35) (cx.ts _ m_in_Qjava_lang_IllegalArgumentException) hxe.2.2.2.2.2.2.2.2.2.2.2.2.1 (x_hat xw_6I xn_6I cx.ts hxe.2.2 (Or.inr (Or.inl rfl))) xg_6I hxe.1 hxe.2.1 va_S.rf (hl.1.trans cx.1.2.2.1.symm) dX6_fail_43 dX6_fail_46 dX6_fail_47 dX6_fail_49 dX6_fail_52 (fun x h => (hne x h).elim) (Nat.le_of_ble_eq_true rfl) (Nat.le_of_ble_eq_true rfl) (Nat.le_of_ble_eq_true rfl) (Nat.le_of_ble_eq_true rfl) hlk (fun t _ hz hq => ⟨(), hcond, (by unfold exN; simp [c_1, c_2, c_3, c_4]), hz, fun q h _ => hq q h⟩) (fun _ h => by cases h) (Nat.le_refl _) (Nat.le_refl _)
      · skip
        have hcond : ¬ (v1 = 3 ∨ v4 = 0) := (by rintro (h | h) <;> contradiction)
        exact vx_throwS (pc := 25) (A := A) hx hb hst cx.own (by decide +kernel) x_names (cx.ts _ m_cl_X6_28) (cx.ts _ m_in_Qjava_lang_UnsupportedOperationException) hxe.2.2.2.2.2.2.2.2.2.2.2.1 (x_hat xw_6U xn_6U cx.ts hxe.2.2 (Or.inl rfl)) xg_6U hxe.1 hxe.2.1 va_S.rf (hl.1.trans cx.1.2.2.1.symm) dX6_fail_25 dX6_fail_28 dX6_fail_29 dX6_fail_31 dX6_fail_34 (fun x h => (hne x h).elim) (Nat.le_of_ble_eq_true rfl) (Nat.le_of_ble_eq_true rfl) (Nat.le_of_ble_eq_true rfl) (Nat.le_of_ble_eq_true rfl) hlk (fun t _ hz hq => ⟨(), hcond, (by unfold exN; simp [c_1, c_2, c_3]), hz, fun q h _ => hq q h⟩) (fun _ h => by cases h) (Nat.le_refl _) (Nat.le_refl _)
    · skip
      refine W.widen (k := 1) (n := 6) (by omega) (by omega) ?_
      exact vx_ret (W.vret cx.x cx.b hr (fun t ht _ => ⟨⟨(), rfl, (by first | exact Or.inl c_2 | exact Or.inr (Classical.not_not.mp c_2) | exact Or.inr c_2), trivial⟩, va_S.F va_S.rf ht⟩) (fun _ h => by cases h) dX6_fail_15 hlk)
set_option maxHeartbeats 4000000 in
set_option maxRecDepth 100000 in
theorem c_X7_toss (l : Launch) (hst : l.stackTraces = false) (E : zE) (b : Nat → Nat) (tl : va_W) (pd : Bool) (qt : Nat → Option Nat) (qr : Nat → Option Nat) (tbu : Nat → Int32) (wst : Nat → Int32) (asw : Nat → Int32) (pN : Int32) (tN : Int32) (aN : Int32) (hd : Int32) (dr : Int32) (pl : Int32) (rm : Int32) (ps : Int32) (wx : Nat → Int32) (pp : Nat → Option Nat) (tp : Nat → Option Nat) (ap : Nat → Option Nat) (sg : Nat → Int32) (uh : Int32) (ud : Int32) (up : Int32) (ur : Int32) (us : Int32) (ux : Nat → Int32) (G : zG) (A : Nat → Prop) (d : Int32) (kp so sz el pr ts : Nat → Int32) (hSh : ShG E.2.1 G qt qr kp so sz el pr ts) : vx_Met l yX7_toss (.codeWith yX7_toss cX7_toss 5 (some .int) [(19, 23, 26, 380), (19, 23, 37, 350), (19, 23, 47, 357)] :: AllW) (rmA 7 140 1 6) (zPx E A (fun H => WW E (wK b E.2.1 tl pd qt qr tbu wst asw pN tN aN hd dr pl rm ps wx pp tp ap sg uh ud up ur us ux) G H) [.ref (b 0), .int d]) (va_Qi (fun v (_ : Unit) => v = priceP kp ts d) (fun _ _ => True) nF) (vx_X (fun _ : Unit => False) (fun _ _ _ => True) nF) 1 6 nF := by
  refine z_bodyh (own := RX7) (by decide) rfl rfl ?_
  intro p e s m args below meth c ls cx hr hlk htab hW hxe hl
  have hx := cx.x
  have hb := cx.b
  have hl : lv_has ls 5 [(0, .ref (b 0)), (1, .int d)] := hl
  have hS : va_S nF s.heap s.heap [] := va_S.rf
  refine lv_aload_n (pc := 0) hx hb dX7_toss_0 rfl (lv_at hl 0 rfl) ?_
  refine lv_iload_n (pc := 1) hx hb dX7_toss_1 rfl (lv_at hl 1 rfl) ?_
  refine k_X7_thingRefusal (pc := 2) (d := d) cx hW (by first | assumption | omega) m_ml_X7_374 ⟨Nat.le_of_ble_eq_true rfl, Nat.le_of_ble_eq_true rfl⟩ hl.1 rfl (by simp [Value.category]) dX7_toss_2 (by constructor <;> (simp only [rmA]; omega)) ?_
  refine lv_istore_n (pc := 5) (lv' := [(2, .int (wrK kp d)), (0, .ref (b 0)), (1, .int d)]) hx hb dX7_toss_5 rfl hl (by decide) rfl (fun ls hl => ?_)
  refine lv_iload_n (pc := 6) hx hb dX7_toss_6 rfl (lv_at hl 0 rfl) ?_
  refine lv_if_eq (pc := 7) (tgt := 12) hx hb dX7_toss_7 (by decide) (fun c_1 => ?_) (fun c_1 => ?_)
  · skip
    obtain ⟨n, hn, rfl, hk, hr1, q1, v0, v1, v2, v3, v4, v5, ht1, hq1, hpr, hts⟩ := th_get hSh c_1
    have hN := iN_nI (n := n) (by omega)
    refine lv_aload_n (pc := 12) hx hb dX7_toss_12 rfl (lv_at hl 1 rfl) ?_
    refine z_get (pc := 13) cx (hW.at 0 rfl) (C := RX7) (T := TX7) (N := 11) rfl i_X7 6 rfl m_fl_X7_38 rfl dX7_toss_13 ?_
    refine lv_iload_n (pc := 16) hx hb dX7_toss_16 rfl (lv_at hl 2 rfl) ?_
    refine z_aald (pc := 17) (f := qt) (j := n) cx 2 rfl (hW.at 1 rfl) rfl (by omega) (by decide) dX7_toss_17 ?_
    refine z_rfS ht1 ?_
    refine lv_astore_n (pc := 18) (lv' := [(3, .ref q1), (2, .int (wrK kp (nI n))), (0, .ref (b 0)), (1, .int (nI n))]) hx hb dX7_toss_18 rfl hl (by decide) rfl (fun ls hl => ?_)
    refine lv_aload_n (pc := 19) hx hb dX7_toss_19 rfl (lv_at hl 0 rfl) ?_
    refine vx_callv (pc := 20) (vx_runV cx.1 (c_X6_fail l hst E A q1 v0 v1 v2 v3 v4 v5) ⟨z_cb cx vm_X6_fail.1 m_ml_X7_377 vm_X6_fail.2.1 rfl rfl vm_X6_fail.2.2.2 ⟨Nat.le_of_ble_eq_true rfl, Nat.le_of_ble_eq_true rfl⟩, cx.ts _ vm_X6_fail.2.2.1.1, cx.ts _ vm_X6_fail.2.2.1.2⟩ ⟨zPx.blind, z_rec cx.2 (hW.dyn hq1) rfl, fun U hU hW2 => ⟨rfl, by rw [hU]; exact hW.dyn hq1, by rw [hU]; exact hxe.warm hW2, cx.2.warm hW2⟩⟩ rfl rfl hl.1 rfl (by simp [Value.category]) dX7_toss_20 ⟨Nat.le_of_ble_eq_true rfl, Nat.le_of_ble_eq_true rfl⟩) hS (fun _ _ h => h.elim) (fun _ h => h.elim) (fun _ _ h => h.elim) (fun X ce q9 u t H locs hH hal hcond hX hsz hkp hS hce hcv hcl => ?_) (fun u t H locs hH hal hcond _ hsz hkp hS => ?_)
    · replace hX : X = exN v1 := hX
      have hW := hW.kept (fun q h => hkp q h (fun z => z))
      by_cases cxU : v1 = 7
      · skip
        have hXx : X = xU := by rw [hX]; unfold exN; rw [if_pos cxU]
        rw [hXx] at hcl
        refine vx_catch (pc := 20) cx.own [] ⟨19, 23, 26, 380⟩ [⟨19, 23, 37, 350⟩, ⟨19, 23, 47, 357⟩] (by rw [htab]; rfl) (fun z hz => by cases hz) (by decide) (by decide) (cx.ts _ m_cl_X7_380) (hxe.2.2.2.2.2.1.use rfl) hce hcv hcl ?_
        refine lv_astore (pc := 26) (lv' := [(4, .ref q9), (3, .ref q1), (2, .int (wrK kp (nI n))), (0, .ref (b 0)), (1, .int (nI n))]) hx hb dX7_toss_26 hl (by decide) rfl (fun ls hl => ?_)
        refine lv_sipush (pc := 28) (v := 200) hx hb dX7_toss_28 (by decide) ?_
        refine lv_aload_n (pc := 31) hx hb dX7_toss_31 rfl (lv_at hl 1 rfl) ?_
        refine k_X6_cost (pc := 32)  cx (hW.dyn hq1)  m_ml_X7_152 ⟨Nat.le_of_ble_eq_true rfl, Nat.le_of_ble_eq_true rfl⟩ hl.1 rfl (by simp [Value.category]) dX7_toss_32 (by constructor <;> (simp only [rmA]; omega)) ?_
        refine lv_iadd (pc := 35) hx hb dX7_toss_35 ?_
        refine W.widen (k := 1) (n := 6) (by omega) (by omega) ?_
        have hans : 200 + (prK v1 v4) = (priceP kp ts (nI n)) := (by rw [show priceP kp ts (nI n) = ts n from by simp [priceP, c_1, hN, hk, cxU], hts]; unfold tsK; rw [if_neg hcond, if_neg (by rw [cxU]; decide), if_pos cxU])
        exact vx_ret (W.iret cx.x cx.b hr (fun t ht _ => ⟨⟨_, (), rfl, hans, trivial⟩, hS.F ht⟩) hS.2.2 dX7_toss_36 hlk)
      by_cases cxI : v1 = 4
      · skip
        have hXx : X = xI := by rw [hX]; unfold exN; rw [if_neg cxU, if_pos cxI]
        rw [hXx] at hcl
        refine vx_catch (pc := 20) cx.own [⟨19, 23, 26, 380⟩] ⟨19, 23, 37, 350⟩ [⟨19, 23, 47, 357⟩] (by rw [htab]; rfl) (fun z hz => by simp only [List.mem_cons, List.not_mem_nil, or_false] at hz; subst hz; exact Or.inr ⟨by decide, xU, cx.ts _ m_cl_X7_380, hxe.2.2.2.2.2.2.2.2.1⟩) (by decide) (by decide) (cx.ts _ m_cl_X7_350) (hxe.2.2.2.2.2.2.1.use rfl) hce hcv hcl ?_
        refine lv_astore (pc := 37) (lv' := [(4, .ref q9), (3, .ref q1), (2, .int (wrK kp (nI n))), (0, .ref (b 0)), (1, .int (nI n))]) hx hb dX7_toss_37 hl (by decide) rfl (fun ls hl => ?_)
        refine lv_bipush (pc := 39) (v := 100) hx hb dX7_toss_39 (by decide) ?_
        refine lv_aload_n (pc := 41) hx hb dX7_toss_41 rfl (lv_at hl 1 rfl) ?_
        refine z_get (pc := 42) cx (hW.dyn hq1) (C := RX6) (T := TX6) (N := 6) rfl i_X6 0 rfl m_fl_X7_382 rfl dX7_toss_42 ?_
        refine lv_iadd (pc := 45) hx hb dX7_toss_45 ?_
        refine W.widen (k := 1) (n := 6) (by omega) (by omega) ?_
        have hans : 100 + v0 = (priceP kp ts (nI n)) := (by rw [show priceP kp ts (nI n) = ts n from by simp [priceP, c_1, hN, hk, cxI, cxU], hts]; unfold tsK; rw [if_neg hcond, if_pos cxI])
        exact vx_ret (W.iret cx.x cx.b hr (fun t ht _ => ⟨⟨_, (), rfl, hans, trivial⟩, hS.F ht⟩) hS.2.2 dX7_toss_46 hlk)
      have hXx : X = xS := by rw [hX]; unfold exN; rw [if_neg cxU, if_neg cxI]
      rw [hXx] at hcl
      have hpp : ∀ z ∈ ([⟨19, 23, 26, 380⟩, ⟨19, 23, 37, 350⟩] : List ExceptionTableEntry), covers z 20 = false ∨ (z.catchType ≠ 0 ∧ ∃ nm : String, (Cond.classLink RX7 z.catchType nm).before args s = true ∧ va_Nc xS nm s) := by
        intro z hz
        rcases List.mem_cons.mp hz with rfl | hz
        · exact Or.inr ⟨(by decide), xU, cx.ts _ m_cl_X7_380, hxe.2.2.2.2.2.2.2.2.2.1⟩
        · rcases List.mem_cons.mp hz with rfl | hz
          · exact Or.inr ⟨(by decide), xI, cx.ts _ m_cl_X7_350, hxe.2.2.2.2.2.2.2.2.2.2.1⟩
          · cases hz
      refine vx_catch (pc := 20) cx.own [⟨19, 23, 26, 380⟩, ⟨19, 23, 37, 350⟩] ⟨19, 23, 47, 357⟩ [] (by rw [htab]; rfl) hpp (by decide) (by decide) (cx.ts _ m_cl_X7_357) (hxe.2.2.2.2.2.2.2.1.use rfl) hce hcv hcl ?_
      refine lv_astore (pc := 47) (lv' := [(4, .ref q9), (3, .ref q1), (2, .int (wrK kp (nI n))), (0, .ref (b 0)), (1, .int (nI n))]) hx hb dX7_toss_47 hl (by decide) rfl (fun ls hl => ?_)
      refine lv_aload_n (pc := 49) hx hb dX7_toss_49 rfl (lv_at hl 1 rfl) ?_
      refine z_get (pc := 50) cx (hW.dyn hq1) (C := RX6) (T := TX6) (N := 6) rfl i_X6 0 rfl m_fl_X7_382 rfl dX7_toss_50 ?_
      refine W.widen (k := 1) (n := 6) (by omega) (by omega) ?_
      have hans : v0 = (priceP kp ts (nI n)) := (by rw [show priceP kp ts (nI n) = ts n from by simp [priceP, c_1, hN, hk, cxU, cxI], hts]; unfold tsK; rw [if_neg hcond, if_neg cxI, if_neg cxU])
      exact vx_ret (W.iret cx.x cx.b hr (fun t ht _ => ⟨⟨_, (), rfl, hans, trivial⟩, hS.F ht⟩) hS.2.2 dX7_toss_53 hlk)
    · have hW := hW.kept (fun q h => hkp q h (fun z => z))
      refine lv_goto (pc := 23) (tgt := 54) hx hb dX7_toss_23 (by decide) ?_
      refine lv_bipush (pc := 54) (v := (-15)) hx hb dX7_toss_54 (by decide) ?_
      refine W.widen (k := 1) (n := 6) (by omega) (by omega) ?_
      have hans : (-15) = (priceP kp ts (nI n)) := (by rw [show priceP kp ts (nI n) = ts n from by simp [priceP, c_1, hN, hk], hts]; unfold tsK; rw [if_pos hcond])
      exact vx_ret (W.iret cx.x cx.b hr (fun t ht _ => ⟨⟨_, (), rfl, hans, trivial⟩, hS.F ht⟩) hS.2.2 dX7_toss_56 hlk)
  · skip
    refine lv_iload_n (pc := 10) hx hb dX7_toss_10 rfl (lv_at hl 0 rfl) ?_
    refine W.widen (k := 1) (n := 6) (by omega) (by omega) ?_
    have hans : wrK kp d = (priceP kp ts d) := (by simp [priceP, c_1])
    exact vx_ret (W.iret cx.x cx.b hr (fun t ht _ => ⟨⟨_, (), rfl, hans, trivial⟩, hS.F ht⟩) hS.2.2 dX7_toss_11 hlk)
theorem el_no {kp so sz : Nat → Int32} {d i : Int32} (h7 : inL d 0 7 = true) (h : ¬ wrR kp so d (-1) = 0) : elmT kp sz d i = 2 := by
  unfold elmT
  rw [if_pos h7, if_neg (fun c => h (wrR_z.mpr ⟨h7, c.1⟩))]
theorem el_np {kp sz : Nat → Int32} {n : Nat} {i : Int32} (h7 : inL (nI n) 0 7 = true) (hN : iN (nI n) = n) (hz : sz n = nI (iN (sz n)) ∧ iN (sz n) ≤ 100) (h : inL i 0 (nI (iN (sz n)) - 1) = false) : elmT kp sz (nI n) i = 2 := by
  unfold elmT
  rw [if_pos h7, hN, if_neg (fun c => by rw [← hz.1] at h; exact absurd (h.symm.trans c.2) (by decide))]
theorem el_ok {kp sz : Nat → Int32} {n : Nat} {i : Int32} (h7 : inL (nI n) 0 7 = true) (hN : iN (nI n) = n) (hk : kp n = 2) (hz : sz n = nI (iN (sz n)) ∧ iN (sz n) ≤ 100) (h : inL i 0 (nI (iN (sz n)) - 1) = true) : elmT kp sz (nI n) i = 0 := by
  unfold elmT
  rw [← hz.1] at h
  rw [if_pos h7, hN, if_pos ⟨hk, h⟩]
theorem el_val {kp sz el x : Nat → Int32} {n k : Nat} (h0 : elmT kp sz (nI n) (nI k) = 0) (hN : iN (nI n) = n) (hk : k < iN (sz n)) (hz : iN (sz n) ≤ 100) (hx : ∀ j, j < iN (sz n) → x j = el (100 * n + j)) : (x k).toInt64 = elmV kp sz el (nI n) (nI k) := by
  unfold elmV
  rw [if_pos h0, hN, iN_nI (by omega), hx k hk]
theorem vm_X7_element : zVm yX7_element cX7_element 3 (some .long) 2 := ⟨m_co_X7_element, m_in_RX7, ⟨m_im_X7_element, m_se_X7_X7_element⟩, by decide +kernel, by decide +kernel, by decide +kernel⟩
set_option maxHeartbeats 4000000 in
set_option maxRecDepth 100000 in
theorem c_X7_element (l : Launch) (hst : l.stackTraces = false) (E : zE) (b : Nat → Nat) (tl : va_W) (pd : Bool) (qt : Nat → Option Nat) (qr : Nat → Option Nat) (tbu : Nat → Int32) (wst : Nat → Int32) (asw : Nat → Int32) (pN : Int32) (tN : Int32) (aN : Int32) (hd : Int32) (dr : Int32) (pl : Int32) (rm : Int32) (ps : Int32) (wx : Nat → Int32) (pp : Nat → Option Nat) (tp : Nat → Option Nat) (ap : Nat → Option Nat) (sg : Nat → Int32) (uh : Int32) (ud : Int32) (up : Int32) (ur : Int32) (us : Int32) (ux : Nat → Int32) (G : zG) (A : Nat → Prop) (d i : Int32) (kp so sz el pr ts : Nat → Int32) (hSh : ShG E.2.1 G qt qr kp so sz el pr ts) : vx_Met l yX7_element (.code yX7_element cX7_element 3 (some .long) :: AllW) (rmA 6 100 1 6) (zPx E A (fun H => WW E (wK b E.2.1 tl pd qt qr tbu wst asw pN tN aN hd dr pl rm ps wx pp tp ap sg uh ud up ur us ux) G H) [.ref (b 0), .int d, .int i]) (va_Ql (fun v (_ : Unit) => elmT kp sz d i = 0 ∧ v = elmV kp sz el d i) (fun _ _ => True) nF) (vx_X (fun _ : Unit => True) (fun X _ _ => (elmT kp sz d i = 1 ∧ X = xI) ∨ (elmT kp sz d i = 2 ∧ X = xS)) nF) 1 6 nF := by
  refine z_bodyx (own := RX7) (by decide) rfl rfl ?_
  intro p e s m args below meth c ls cx hr hlk hne hW hxe hl
  have hx := cx.x
  have hb := cx.b
  have hl : lv_has ls 3 [(0, .ref (b 0)), (1, .int d), (2, .int i)] := hl
  have hS : va_S nF s.heap s.heap [] := va_S.rf
  refine lv_iload_n (pc := 0) hx hb dX7_element_0 rfl (lv_at hl 1 rfl) ?_
  refine k_X7_isShelf (pc := 1) (x := d) cx  m_ml_X7_343 ⟨Nat.le_of_ble_eq_true rfl, Nat.le_of_ble_eq_true rfl⟩ hl.1 rfl (by simp [Value.category]) dX7_element_1 (by constructor <;> (simp only [rmA]; omega)) ?_
  refine z_ifne (pc := 4) (tgt := 18) hx hb dX7_element_4 (by decide) (fun c_1 => ?_) (fun c_1 => ?_)
  · skip
    have hd7 := c_1
    refine lv_aload_n (pc := 18) hx hb dX7_element_18 rfl (lv_at hl 0 rfl) ?_
    refine lv_iload_n (pc := 19) hx hb dX7_element_19 rfl (lv_at hl 1 rfl) ?_
    refine k_X7_rowRefusal (pc := 20) (d := d) cx hW (by first | assumption | omega) m_ml_X7_58 ⟨Nat.le_of_ble_eq_true rfl, Nat.le_of_ble_eq_true rfl⟩ hl.1 rfl (by simp [Value.category]) dX7_element_20 (by constructor <;> (simp only [rmA]; omega)) ?_
    refine lv_if_eq (pc := 23) (tgt := 37) hx hb dX7_element_23 (by decide) (fun c_2 => ?_) (fun c_2 => ?_)
    · skip
      have hd0 := c_2
      obtain ⟨n, hn, rfl, hk1, ht1, q1, w1, x1, hr1, hq1, hw1, hx1⟩ := row_get hSh c_2
      have hN1 := iN_nI (n := n) (by omega)
      have hz1 := sz_nat hSh.1 hn
      have hzl1 := hz1.2
      refine lv_aload_n (pc := 37) hx hb dX7_element_37 rfl (lv_at hl 0 rfl) ?_
      refine z_get (pc := 38) cx (hW.at 0 rfl) (C := RX7) (T := TX7) (N := 11) rfl i_X7 7 rfl m_fl_X7_44 rfl dX7_element_38 ?_
      refine lv_iload_n (pc := 41) hx hb dX7_element_41 rfl (lv_at hl 1 rfl) ?_
      refine z_aald (pc := 42) (f := qr) (j := n) cx 4 rfl (hW.at 2 rfl) rfl (by omega) (by decide) dX7_element_42 ?_
      refine z_rfS hr1 ?_
      refine lv_iload_n (pc := 43) hx hb dX7_element_43 rfl (lv_at hl 2 rfl) ?_
      refine k_X4_isPlace (pc := 44) (i := i) cx ⟨hW.dyn hq1, hW.dyn hw1⟩ (by first | assumption | omega) m_ml_X7_362 ⟨Nat.le_of_ble_eq_true rfl, Nat.le_of_ble_eq_true rfl⟩ hl.1 rfl (by simp [Value.category]) dX7_element_44 (by constructor <;> (simp only [rmA]; omega)) ?_
      refine z_ifne (pc := 47) (tgt := 61) hx hb dX7_element_47 (by decide) (fun c_3 => ?_) (fun c_3 => ?_)
      · skip
        have hip := c_3
        obtain ⟨k, hk3, rfl⟩ := rw_nat hz1.2 c_3
        refine lv_aload_n (pc := 61) hx hb dX7_element_61 rfl (lv_at hl 0 rfl) ?_
        refine z_get (pc := 62) cx (hW.at 0 rfl) (C := RX7) (T := TX7) (N := 11) rfl i_X7 7 rfl m_fl_X7_44 rfl dX7_element_62 ?_
        refine lv_iload_n (pc := 65) hx hb dX7_element_65 rfl (lv_at hl 1 rfl) ?_
        refine z_aald (pc := 66) (f := qr) (j := n) cx 4 rfl (hW.at 2 rfl) rfl (by omega) (by decide) dX7_element_66 ?_
        refine z_rfS hr1 ?_
        refine lv_iload_n (pc := 67) hx hb dX7_element_67 rfl (lv_at hl 2 rfl) ?_
        refine k_X4_valueAt (pc := 68) (n := k) cx ⟨hW.dyn hq1, hW.dyn hw1⟩ hzl1 hk3 m_ml_X7_256 ⟨Nat.le_of_ble_eq_true rfl, Nat.le_of_ble_eq_true rfl⟩ hl.1 rfl (by simp [Value.category]) dX7_element_68 (by constructor <;> (simp only [rmA]; omega)) ?_
        refine lv_i2l (pc := 71) (v := Int32.toInt64 (x1 k)) hx hb dX7_element_71 rfl ?_
        refine W.widen (k := 1) (n := 6) (by omega) (by omega) ?_
        exact vx_ret (W.lret cx.x cx.b hr (fun t ht _ => ⟨⟨_, (), rfl, ⟨el_ok hd7 hN1 hk1 hz1 hip, el_val (el_ok hd7 hN1 hk1 hz1 hip) hN1 hk3 hz1.2 hx1⟩, trivial⟩, hS.F ht⟩) hS.2.2 dX7_element_72 hlk)
      · skip
        have hip := c_3
        have hcond : elmT kp sz (nI n) i = 2 := (el_np hd7 hN1 hz1 hip)
        exact vx_throwSW (pc := 50) (A := A) hx hb hst cx.own (by decide +kernel) x_names (cx.ts _ m_cl_X7_357) (cx.ts _ m_in_Qjava_lang_IllegalStateException) hxe.2.2.2.2.2.2.2.2.2.2.2.2.2.2.2.2 (x_hat xw_7S xn_7S cx.ts hxe.2.2 (Or.inr (Or.inr rfl))) xg_7S hxe.1 hxe.2.1 va_S.rf (hl.1.trans cx.1.2.2.1.symm) dX7_element_50 dX7_element_53 dX7_element_54 dX7_element_57 dX7_element_60 (fun x h => (hne x h).elim) (Nat.le_of_ble_eq_true rfl) (Nat.le_of_ble_eq_true rfl) (Nat.le_of_ble_eq_true rfl) (Nat.le_of_ble_eq_true rfl) hlk (fun t _ hz hq => ⟨(), trivial, Or.inr ⟨hcond, rfl⟩, hz, fun q h _ => hq q h⟩) (fun _ h => by cases h) (Nat.le_refl _) (Nat.le_refl _)
    · skip
      have hrr := c_2
      have hcond : elmT kp sz d i = 2 := (el_no hd7 hrr)
      exact vx_throwSW (pc := 26) (A := A) hx hb hst cx.own (by decide +kernel) x_names (cx.ts _ m_cl_X7_357) (cx.ts _ m_in_Qjava_lang_IllegalStateException) hxe.2.2.2.2.2.2.2.2.2.2.2.2.2.2.2.1 (x_hat xw_7S xn_7S cx.ts hxe.2.2 (Or.inr (Or.inr rfl))) xg_7S hxe.1 hxe.2.1 va_S.rf (hl.1.trans cx.1.2.2.1.symm) dX7_element_26 dX7_element_29 dX7_element_30 dX7_element_33 dX7_element_36 (fun x h => (hne x h).elim) (Nat.le_of_ble_eq_true rfl) (Nat.le_of_ble_eq_true rfl) (Nat.le_of_ble_eq_true rfl) (Nat.le_of_ble_eq_true rfl) hlk (fun t _ hz hq => ⟨(), trivial, Or.inr ⟨hcond, rfl⟩, hz, fun q h _ => hq q h⟩) (fun _ h => by cases h) (Nat.le_refl _) (Nat.le_refl _)
  · skip
    have hd7 := c_1
    have hcond : elmT kp sz d i = 1 := (by unfold elmT; rw [if_neg (by rw [hd7]; decide)])
    exact vx_throwSW (pc := 7) (A := A) hx hb hst cx.own (by decide +kernel) x_names (cx.ts _ m_cl_X7_350) (cx.ts _ m_in_Qjava_lang_IllegalArgumentException) hxe.2.2.2.2.2.2.2.2.2.2.2.2.2.2.1 (x_hat xw_7I xn_7I cx.ts hxe.2.2 (Or.inr (Or.inl rfl))) xg_7I hxe.1 hxe.2.1 va_S.rf (hl.1.trans cx.1.2.2.1.symm) dX7_element_7 dX7_element_10 dX7_element_11 dX7_element_14 dX7_element_17 (fun x h => (hne x h).elim) (Nat.le_of_ble_eq_true rfl) (Nat.le_of_ble_eq_true rfl) (Nat.le_of_ble_eq_true rfl) (Nat.le_of_ble_eq_true rfl) hlk (fun t _ hz hq => ⟨(), trivial, Or.inl ⟨hcond, rfl⟩, hz, fun q h _ => hq q h⟩) (fun _ h => by cases h) (Nat.le_refl _) (Nat.le_refl _)
