theorem vm_X8_instrument : zVm yX8_instrument cX8_instrument 7 (some FieldType.int) 1 := ⟨m_co_X8_instrument, m_in_RX8, ⟨m_im_X8_instrument, m_se_X8_X8_instrument⟩, by decide +kernel, by decide +kernel, by decide +kernel⟩
set_option maxHeartbeats 1000000 in
set_option maxRecDepth 100000 in
theorem c_X8_instrument (l : Launch) (E : zE) (a : Nat → Nat) (sv im rd wa kp so sz el pr ts nu bu ht : Nat → Int32) (th po ba en td : Int32) (ig : Bool) (ij : Bool) (d : Int32) (hI : Inv sv) (hR : InvR kp so sz) : Met l yX8_instrument (.code yX8_instrument cX8_instrument 7 (some FieldType.int) :: AllW) (rm0' 5 107) (zP E (fun H => WW E (wM a (E.2.1 0) sv im rd wa kp so sz el pr ts nu bu ht (bI ig) th po ba en td (bI ij)) gN H) [.ref (a 0), .int d]) (zQ (fun (_ : Heap) (v : Option Value) (H1 : Heap) => (∃ (rd2 : Nat → Int32) (po2 : Int32) (ba2 : Int32) (en2 : Int32) (td2 : Int32) (nu2 : Nat → Int32) (ij2 : Bool), v = some (.int (instR kp so sz el sv nu d)) ∧ WW E (wM a (E.2.1 0) (instS kp so sz el sv nu d) im rd2 wa kp so sz el pr ts nu2 bu ht (bI ig) th po2 ba2 en2 td2 (bI ij2)) gN H1)) (mF a)) 0 0 (mF a) := by
  refine z_body (own := RX8) (by decide) rfl rfl ?_
  intro p e s m args below meth c ls cx hr hlk hnm hW hl
  have hx := cx.x
  have hb := cx.b
  have hl : lv_has ls 7 [(0, .ref (a 0)), (1, .int d)] := hl
  have hS : va_S (mF a) s.heap s.heap [] := va_S.rf
  have hC := hI.1
  have hP10 := (Inv.n0 hC).2
  have hT7 := (Inv.n1 hC).2
  have hA24 := (Inv.n2 hC).2
  refine lv_aload_n (pc := 0) hx hb dX8_instrument_0 rfl (lv_at hl 0 rfl) ?_
  refine lv_iload_n (pc := 1) hx hb dX8_instrument_1 rfl (lv_at hl 1 rfl) ?_
  refine lv_iconst (pc := 2) (v := 0) hx hb dX8_instrument_2 (by decide) ?_
  refine k_X8_wrongRow (pc := 3) (d := d) (o := 0) cx hW  m_ml_X8_114 ⟨Nat.le_of_ble_eq_true rfl, Nat.le_of_ble_eq_true rfl⟩ hl.1 rfl (by simp [Value.category]) dX8_instrument_3 ⟨Nat.le_refl _, Nat.le_refl _⟩ ?_
  refine lv_istore_n (pc := 6) (lv' := [(2, .int (wrR kp so d 0)), (0, .ref (a 0)), (1, .int d)]) hx hb dX8_instrument_6 rfl hl (by decide) rfl (fun ls hl => ?_)
  refine lv_iload_n (pc := 7) hx hb dX8_instrument_7 rfl (lv_at hl 0 rfl) ?_
  refine lv_if_eq (pc := 8) (tgt := 13) hx hb dX8_instrument_8 (by decide) (fun c_1 => ?_) (fun c_1 => ?_)
  · skip
    obtain ⟨n, hn, rfl⟩ := shelf_nat (wrR_0 c_1).1
    have hN := iN_nI (n := n) (by omega)
    have hz := sz_nat hR hn
    have hzl := hz.2
    refine lv_aload_n (pc := 13) hx hb dX8_instrument_13 rfl (lv_at hl 1 rfl) ?_
    refine lv_bipush (pc := 14) (v := 100) hx hb dX8_instrument_14 (by decide) ?_
    refine lv_iload_n (pc := 16) hx hb dX8_instrument_16 rfl (lv_at hl 2 rfl) ?_
    refine lv_imul (pc := 17) hx hb dX8_instrument_17 ?_
    refine z_tope (y := nI (100 * n)) (nI_mul 100 n) ?_
    refine z_putMi (pc := 18) cx hW hS 0 rfl (mF_in a 0) 13 rfl m_fl_X8_69 rfl rfl dX8_instrument_18 (fun H locs hW hS => ?_)
    have hW : WW E (wM a (E.2.1 0) sv im rd wa kp so sz el pr ts nu bu ht (bI ig) th po (nI (100 * n)) en td (bI ij)) gN H := hW
    refine lv_aload_n (pc := 21) hx hb dX8_instrument_21 rfl (lv_at hl 1 rfl) ?_
    refine lv_aload_n (pc := 22) hx hb dX8_instrument_22 rfl (lv_at hl 1 rfl) ?_
    refine z_getM (pc := 23) cx (hW.at 0 rfl) 6 rfl m_fl_X8_28 rfl dX8_instrument_23 ?_
    refine lv_iload_n (pc := 26) hx hb dX8_instrument_26 rfl (lv_at hl 2 rfl) ?_
    refine z_iald (pc := 27) (f := sz) (j := n) cx (hW.at 7 rfl) rfl (by omega) (by decide) dX8_instrument_27 ?_
    refine z_tope (y := nI (iN (sz n))) hz.1 ?_
    refine z_putMi (pc := 28) cx hW hS 0 rfl (mF_in a 0) 14 rfl m_fl_X8_66 rfl rfl dX8_instrument_28 (fun H locs hW hS => ?_)
    have hW : WW E (wM a (E.2.1 0) sv im rd wa kp so sz el pr ts nu bu ht (bI ig) th po (nI (100 * n)) (nI (iN (sz n))) td (bI ij)) gN H := hW
    refine lv_aload_n (pc := 31) hx hb dX8_instrument_31 rfl (lv_at hl 1 rfl) ?_
    refine lv_iconst (pc := 32) (v := 0) hx hb dX8_instrument_32 (by decide) ?_
    refine z_putMi (pc := 33) cx hW hS 0 rfl (mF_in a 0) 12 rfl m_fl_X8_63 rfl rfl dX8_instrument_33 (fun H locs hW hS => ?_)
    have hW : WW E (wM a (E.2.1 0) sv im rd wa kp so sz el pr ts nu bu ht (bI ig) th 0 (nI (100 * n)) (nI (iN (sz n))) td (bI ij)) gN H := hW
    refine lv_iconst (pc := 36) (v := 0) hx hb dX8_instrument_36 (by decide) ?_
    refine lv_istore_n (pc := 37) (lv' := [(3, .int 0), (2, .int (wrR kp so (nI n) 0)), (0, .ref (a 0)), (1, .int (nI n))]) hx hb dX8_instrument_37 rfl hl (by decide) rfl (fun ls hl => ?_)
    have loop_38 : ∀ (k_38 : Nat) (q : Nat) (k : Nat) (x3 : Int32), ((iN (sz n)) + 1 - q) < k_38 → (k ≤ q) → (q ≤ (iN (sz n))) → x3 = nI k → ∀ (td2 : Int32) (nu2 : Nat → Int32) (ij2 : Bool) (H : Heap) (locs : List Loc), (ph1 (hrT el n (iN (sz n))) (iN (sz n)) 101 0 nu 0 = ph1 (hrT el n (iN (sz n))) (iN (sz n)) (101 - k) q nu2 k) → WW E (wM a (E.2.1 0) sv im rd wa kp so sz el pr ts nu2 bu ht (bI ig) th (nI q) (nI (100 * n)) (nI (iN (sz n))) td2 (bI ij2)) gN H → va_S (mF a) s.heap H locs → ∀ (ls : Array Slot), lv_has ls 7 [(3, .int x3), (2, .int (wrR kp so (nI n) 0)), (0, .ref (a 0)), (1, .int (nI n))] → W p l e (rm0' (5) (107)) s m args below meth c H locs 0 0 (MQ below (zQ (fun (_ : Heap) (v : Option Value) (H1 : Heap) => (∃ (rd2 : Nat → Int32) (po2 : Int32) (ba2 : Int32) (en2 : Int32) (td2 : Int32) (nu2 : Nat → Int32) (ij2 : Bool), v = some (.int (instR kp so sz el sv nu (nI n))) ∧ WW E (wM a (E.2.1 0) (instS kp so sz el sv nu (nI n)) im rd2 wa kp so sz el pr ts nu2 bu ht (bI ig) th po2 ba2 en2 td2 (bI ij2)) gN H1)) (mF a)) args s 0 0 (mF a)) (F0 m 38 ls []) := by
      intro k_38
      induction k_38 with
      | zero =>
        intro q k x3 hm
        exact absurd hm (Nat.not_lt_zero _)
      | succ k_38 ih_38 =>
        intro q k x3 hm_38 hkq hqz e_x3 td2 nu2 ij2 H locs he hW hS ls hl
        subst e_x3
        refine lv_aload_n (pc := 38) hx hb dX8_instrument_38 rfl (lv_at hl 2 rfl) ?_
        refine k_X8_readsStatement (pc := 39) (q := q) (n := n) (z := iN (sz n)) cx hW hS (fun _ h => h) (by first | assumption | omega) (by first | assumption | omega) (by first | assumption | omega) m_ml_X8_118 ⟨Nat.le_of_ble_eq_true rfl, Nat.le_of_ble_eq_true rfl⟩ hl.1 rfl (by simp [Value.category]) dX8_instrument_39 ⟨Nat.le_refl _, Nat.le_refl _⟩ (fun  H locs hq3 hW hS => ?_)
        have hW : WW E (wM a (E.2.1 0) sv im rd wa kp so sz el pr ts ((rdS (hrT el n (iN (sz n))) q nu2).2.1.2.1) bu ht (bI ig) th (nI (rdS (hrT el n (iN (sz n))) q nu2).2.1.1) (nI (100 * n)) (nI (iN (sz n))) (nI (rdS (hrT el n (iN (sz n))) q nu2).2.1.2.2) (bI ((rdS (hrT el n (iN (sz n))) q nu2).2.2))) gN H := hW
        refine z_ifne (pc := 42) (tgt := 54) hx hb dX8_instrument_42 (by decide) (fun c_2 => ?_) (fun c_2 => ?_)
        · skip
          have hok := c_2
          have hadv := rdS_adv c_2
          refine lv_iinc (pc := 54) (v := nI (k + 1)) (lv' := [(3, .int (nI (k + 1))), (2, .int (wrR kp so (nI n) 0)), (0, .ref (a 0)), (1, .int (nI n))]) hx hb dX8_instrument_54 hl (k := 0) rfl (nI_1 _) (by decide) rfl (fun ls hl => ?_)
          refine lv_aload_n (pc := 57) hx hb dX8_instrument_57 rfl (lv_at hl 2 rfl) ?_
          refine z_getM (pc := 58) cx (hW.at 0 rfl) 12 rfl m_fl_X8_63 rfl dX8_instrument_58 ?_
          refine lv_aload_n (pc := 61) hx hb dX8_instrument_61 rfl (lv_at hl 2 rfl) ?_
          refine z_getM (pc := 62) cx (hW.at 0 rfl) 14 rfl m_fl_X8_66 rfl dX8_instrument_62 ?_
          refine lv_icmp_lt (pc := 65) (tgt := 38) hx hb dX8_instrument_65 (by decide) (fun c_3 => ?_) (fun c_3 => ?_)
          · skip
            have hlt := gtn (a := (rdS (hrT el n (iN (sz n))) q nu2).2.1.1) (b := (iN (sz n))) rfl rfl (by omega) (by omega) c_3
            exact ih_38 ((rdS (hrT el n (iN (sz n))) q nu2).2.1.1) (k + 1) (nI (k + 1)) (by omega) (by omega) (by omega) (by first | rfl | (simp [instR, c_1, hN, c_2, c_3, i_nle.mpr c_3]; done)) _ ((rdS (hrT el n (iN (sz n))) q nu2).2.1.2.1) _ _ _ (by rw [he, ph1_go (by omega) hok hlt]; congr 1) (hW) hS ls (lv_sub hl [0, 1, 2, 3] rfl)
          · skip
            have hge := ngt (a := (rdS (hrT el n (iN (sz n))) q nu2).2.1.1) (b := (iN (sz n))) rfl rfl (by omega) (by omega) c_3
            have hE : ph1 (hrT el n (iN (sz n))) (iN (sz n)) 101 0 nu 0 = _ := he.trans (ph1_end (by omega) hok (by omega))
            have hOK := ph1_okP 101 0 nu 0 (by rw [hE])
            have hEn : (ph1 (hrT el n (iN (sz n))) (iN (sz n)) 101 0 nu 0).2.2.2 = (rdS (hrT el n (iN (sz n))) q nu2).2.1.2.1 := by rw [hE]
            refine lv_iconst (pc := 68) (v := 0) hx hb dX8_instrument_68 (by decide) ?_
            refine lv_istore (pc := 69) (lv' := [(4, .int 0), (3, .int (nI (k + 1))), (2, .int (wrR kp so (nI n) 0)), (0, .ref (a 0)), (1, .int (nI n))]) hx hb dX8_instrument_69 hl (by decide) rfl (fun ls hl => ?_)
            have loop_71 : ∀ (k_71 : Nat) (i : Nat) (x4 : Int32), (535 - i) < k_71 → (i ≤ 535) → x4 = nI i → ∀ (H : Heap) (locs : List Loc), WW E (wM a (E.2.1 0) sv im (cpA sv rd i) wa kp so sz el pr ts ((rdS (hrT el n (iN (sz n))) q nu2).2.1.2.1) bu ht (bI ig) th (nI (rdS (hrT el n (iN (sz n))) q nu2).2.1.1) (nI (100 * n)) (nI (iN (sz n))) (nI (rdS (hrT el n (iN (sz n))) q nu2).2.1.2.2) (bI ((rdS (hrT el n (iN (sz n))) q nu2).2.2))) gN H → va_S (mF a) s.heap H locs → ∀ (ls : Array Slot), lv_has ls 7 [(4, .int x4), (3, .int (nI (k + 1))), (2, .int (wrR kp so (nI n) 0)), (0, .ref (a 0)), (1, .int (nI n))] → W p l e (rm0' (5) (107)) s m args below meth c H locs 0 0 (MQ below (zQ (fun (_ : Heap) (v : Option Value) (H1 : Heap) => (∃ (rd2 : Nat → Int32) (po2 : Int32) (ba2 : Int32) (en2 : Int32) (td2 : Int32) (nu2 : Nat → Int32) (ij2 : Bool), v = some (.int (instR kp so sz el sv nu (nI n))) ∧ WW E (wM a (E.2.1 0) (instS kp so sz el sv nu (nI n)) im rd2 wa kp so sz el pr ts nu2 bu ht (bI ig) th po2 ba2 en2 td2 (bI ij2)) gN H1)) (mF a)) args s 0 0 (mF a)) (F0 m 71 ls []) := by
              intro k_71
              induction k_71 with
              | zero =>
                intro i x4 hm
                exact absurd hm (Nat.not_lt_zero _)
              | succ k_71 ih_71 =>
                intro i x4 hm_71 hi e_x4  H locs  hW hS ls hl
                subst e_x4
                refine lv_iload (pc := 71) hx hb dX8_instrument_71 (lv_at hl 0 rfl) ?_
                refine lv_sipush (pc := 73) (v := 535) hx hb dX8_instrument_73 (by decide) ?_
                refine lv_icmp_ge (pc := 76) (tgt := 99) hx hb dX8_instrument_76 (by decide) (fun c_4 => ?_) (fun c_4 => ?_)
                · skip
                  obtain rfl : i = 535 := by have := ge_nat (a := i) (b := 535) rfl rfl (by omega) (by omega) c_4; omega
                  have hW := hW.congr (i := 3) rfl (g := sv) (fun j hj => by unfold cpA; exact if_pos hj)
                  have hW : WW E (wM a (E.2.1 0) sv im sv wa kp so sz el pr ts ((rdS (hrT el n (iN (sz n))) q nu2).2.1.2.1) bu ht (bI ig) th (nI (rdS (hrT el n (iN (sz n))) q nu2).2.1.1) (nI (100 * n)) (nI (iN (sz n))) (nI (rdS (hrT el n (iN (sz n))) q nu2).2.1.2.2) (bI ((rdS (hrT el n (iN (sz n))) q nu2).2.2))) gN H := hW
                  refine lv_aload_n (pc := 99) hx hb dX8_instrument_99 rfl (lv_at hl 3 rfl) ?_
                  refine lv_iconst (pc := 100) (v := 0) hx hb dX8_instrument_100 (by decide) ?_
                  refine z_putMi (pc := 101) cx hW hS 0 rfl (mF_in a 0) 12 rfl m_fl_X8_63 rfl rfl dX8_instrument_101 (fun H locs hW hS => ?_)
                  have hW : WW E (wM a (E.2.1 0) sv im sv wa kp so sz el pr ts ((rdS (hrT el n (iN (sz n))) q nu2).2.1.2.1) bu ht (bI ig) th 0 (nI (100 * n)) (nI (iN (sz n))) (nI (rdS (hrT el n (iN (sz n))) q nu2).2.1.2.2) (bI ((rdS (hrT el n (iN (sz n))) q nu2).2.2))) gN H := hW
                  have loop_104 : ∀ (k_104 : Nat) (q2 : Nat) (j : Nat) , ((iN (sz n)) + 1 - q2) < k_104 → (j ≤ q2) → (q2 ≤ (iN (sz n))) → ∀ (td3 : Int32) (nu3 : Nat → Int32) (ij3 : Bool) (g : Nat → Int32) (H : Heap) (locs : List Loc), (ph2 (hrT el n (iN (sz n))) (iN (sz n)) 101 0 (ph1 (hrT el n (iN (sz n))) (iN (sz n)) 101 0 nu 0).2.2.2 sv = ph2 (hrT el n (iN (sz n))) (iN (sz n)) (101 - j) q2 nu3 g) → (InvC g) → (q2 < (iN (sz n)) → okP (hrT el n (iN (sz n))) (iN (sz n)) (101 - j) q2) → WW E (wM a (E.2.1 0) sv im g wa kp so sz el pr ts nu3 bu ht (bI ig) th (nI q2) (nI (100 * n)) (nI (iN (sz n))) td3 (bI ij3)) gN H → va_S (mF a) s.heap H locs → ∀ (ls : Array Slot), lv_has ls 7 [(3, .int (nI (k + 1))), (2, .int (wrR kp so (nI n) 0)), (0, .ref (a 0)), (1, .int (nI n))] → W p l e (rm0' (5) (107)) s m args below meth c H locs 0 0 (MQ below (zQ (fun (_ : Heap) (v : Option Value) (H1 : Heap) => (∃ (rd2 : Nat → Int32) (po2 : Int32) (ba2 : Int32) (en2 : Int32) (td2 : Int32) (nu2 : Nat → Int32) (ij2 : Bool), v = some (.int (instR kp so sz el sv nu (nI n))) ∧ WW E (wM a (E.2.1 0) (instS kp so sz el sv nu (nI n)) im rd2 wa kp so sz el pr ts nu2 bu ht (bI ig) th po2 ba2 en2 td2 (bI ij2)) gN H1)) (mF a)) args s 0 0 (mF a)) (F0 m 104 ls []) := by
                    intro k_104
                    induction k_104 with
                    | zero =>
                      intro q2 j  hm
                      exact absurd hm (Nat.not_lt_zero _)
                    | succ k_104 ih_104 =>
                      intro q2 j  hm_104 hjq hqz2  td3 nu3 ij3 g H locs he2 hC2 hok2 hW hS ls hl
                      refine lv_aload_n (pc := 104) hx hb dX8_instrument_104 rfl (lv_at hl 2 rfl) ?_
                      refine z_getM (pc := 105) cx (hW.at 0 rfl) 12 rfl m_fl_X8_63 rfl dX8_instrument_105 ?_
                      refine lv_aload_n (pc := 108) hx hb dX8_instrument_108 rfl (lv_at hl 2 rfl) ?_
                      refine z_getM (pc := 109) cx (hW.at 0 rfl) 14 rfl m_fl_X8_66 rfl dX8_instrument_109 ?_
                      refine lv_icmp_ge (pc := 112) (tgt := 152) hx hb dX8_instrument_112 (by decide) (fun c_5 => ?_) (fun c_5 => ?_)
                      · skip
                        have hge2 := ge_nat (a := q2) (b := (iN (sz n))) rfl rfl (by omega) (by omega) c_5
                        have hE2 : ph2 (hrT el n (iN (sz n))) (iN (sz n)) 101 0 (ph1 (hrT el n (iN (sz n))) (iN (sz n)) 101 0 nu 0).2.2.2 sv = _ := he2.trans (ph2_end (by omega))
                        refine lv_iconst (pc := 152) (v := 0) hx hb dX8_instrument_152 (by decide) ?_
                        refine lv_istore (pc := 153) (lv' := [(4, .int 0), (3, .int (nI (k + 1))), (2, .int (wrR kp so (nI n) 0)), (0, .ref (a 0)), (1, .int (nI n))]) hx hb dX8_instrument_153 hl (by decide) rfl (fun ls hl => ?_)
                        have loop_155 : ∀ (k_155 : Nat) (i : Nat) (x4 : Int32), (535 - i) < k_155 → (i ≤ 535) → x4 = nI i → ∀ (H : Heap) (locs : List Loc), WW E (wM a (E.2.1 0) (cpA g sv i) im g wa kp so sz el pr ts nu3 bu ht (bI ig) th (nI q2) (nI (100 * n)) (nI (iN (sz n))) td3 (bI ij3)) gN H → va_S (mF a) s.heap H locs → ∀ (ls : Array Slot), lv_has ls 7 [(4, .int x4), (3, .int (nI (k + 1))), (2, .int (wrR kp so (nI n) 0)), (0, .ref (a 0)), (1, .int (nI n))] → W p l e (rm0' (5) (107)) s m args below meth c H locs 0 0 (MQ below (zQ (fun (_ : Heap) (v : Option Value) (H1 : Heap) => (∃ (rd2 : Nat → Int32) (po2 : Int32) (ba2 : Int32) (en2 : Int32) (td2 : Int32) (nu2 : Nat → Int32) (ij2 : Bool), v = some (.int (instR kp so sz el sv nu (nI n))) ∧ WW E (wM a (E.2.1 0) (instS kp so sz el sv nu (nI n)) im rd2 wa kp so sz el pr ts nu2 bu ht (bI ig) th po2 ba2 en2 td2 (bI ij2)) gN H1)) (mF a)) args s 0 0 (mF a)) (F0 m 155 ls []) := by
                          intro k_155
                          induction k_155 with
                          | zero =>
                            intro i x4 hm
                            exact absurd hm (Nat.not_lt_zero _)
                          | succ k_155 ih_155 =>
                            intro i x4 hm_155 hi e_x4  H locs  hW hS ls hl
                            subst e_x4
                            refine lv_iload (pc := 155) hx hb dX8_instrument_155 (lv_at hl 0 rfl) ?_
                            refine lv_sipush (pc := 157) (v := 535) hx hb dX8_instrument_157 (by decide) ?_
                            refine lv_icmp_ge (pc := 160) (tgt := 183) hx hb dX8_instrument_160 (by decide) (fun c_6 => ?_) (fun c_6 => ?_)
                            · skip
                              obtain rfl : i = 535 := by have := ge_nat (a := i) (b := 535) rfl rfl (by omega) (by omega) c_6; omega
                              have hW := hW.congr (i := 1) rfl (g := g) (fun j hj => by unfold cpA; exact if_pos hj)
                              have hW : WW E (wM a (E.2.1 0) g im g wa kp so sz el pr ts nu3 bu ht (bI ig) th (nI q2) (nI (100 * n)) (nI (iN (sz n))) td3 (bI ij3)) gN H := hW
                              refine lv_iload_n (pc := 183) hx hb dX8_instrument_183 rfl (lv_at hl 1 rfl) ?_
                              exact z_wiret cx hr hlk dX8_instrument_184 hS ⟨_, _, _, _, _, _, _, (sI ((in_ok hE hE2).1.symm.trans (instR_0 c_1 hN).symm)), (by rw [show (instS kp so sz el sv nu (nI n)) = g from ((instS_0 c_1 hN).trans (in_ok hE hE2).2)]; exact hW)⟩
                            · skip
                              have hlt_i := lt_nat (a := i) (b := 535) rfl rfl (by omega) (by omega) c_6
                              refine lv_aload_n (pc := 163) hx hb dX8_instrument_163 rfl (lv_at hl 3 rfl) ?_
                              refine z_getM (pc := 164) cx (hW.at 0 rfl) 0 rfl m_fl_X8_9 rfl dX8_instrument_164 ?_
                              refine lv_iload (pc := 167) hx hb dX8_instrument_167 (lv_at hl 0 rfl) ?_
                              refine lv_aload_n (pc := 169) hx hb dX8_instrument_169 rfl (lv_at hl 3 rfl) ?_
                              refine z_getM (pc := 170) cx (hW.at 0 rfl) 2 rfl m_fl_X8_16 rfl dX8_instrument_170 ?_
                              refine lv_iload (pc := 173) hx hb dX8_instrument_173 (lv_at hl 0 rfl) ?_
                              refine z_iald (pc := 175) (f := g) (j := i) cx (hW.at 3 rfl) rfl (by omega) (by decide) dX8_instrument_175 ?_
                              refine z_iast (pc := 176) (f := cpA g sv i) (j := i) cx hW hS 1 rfl (mF_in a 1) rfl (by omega) (by decide) dX8_instrument_176 (fun H locs hW hS => ?_)
                              have hW : WW E (wM a (E.2.1 0) (upd (cpA g sv i) i (g i)) im g wa kp so sz el pr ts nu3 bu ht (bI ig) th (nI q2) (nI (100 * n)) (nI (iN (sz n))) td3 (bI ij3)) gN H := hW
                              refine lv_iinc (pc := 177) (v := nI (i + 1)) (lv' := [(4, .int (nI (i + 1))), (3, .int (nI (k + 1))), (2, .int (wrR kp so (nI n) 0)), (0, .ref (a 0)), (1, .int (nI n))]) hx hb dX8_instrument_177 hl (k := 0) rfl (nI_1 _) (by decide) rfl (fun ls hl => ?_)
                              refine lv_goto (pc := 180) (tgt := 155) hx hb dX8_instrument_180 (by decide) ?_
                              exact ih_155 (i + 1) (nI (i + 1)) (by omega) (by omega) (by first | rfl | (simp [instR, c_1, hN, c_2, c_3, hE, hE2, i_nlt.mp c_3]; done))  _ _  (by rw [← cpA_s]; exact hW) hS ls (lv_sub hl [0, 1, 2, 3, 4] rfl)
                        exact loop_155 ((535 - 0) + 1) 0 0 (Nat.lt_succ_self _) (by omega) (by first | rfl | (simp [instR, c_1, hN, c_2, c_3, hE, hE2, i_nlt.mp c_3]; done))  _ _  (by rw [cpA_0]; exact hW) hS ls (lv_sub hl [0, 1, 2, 3, 4] rfl)
                      · skip
                        have hlt2 := lt_nat (a := q2) (b := (iN (sz n))) rfl rfl (by omega) (by omega) c_5
                        have hr2 := okP_1 (by omega) (hok2 hlt2) nu3
                        have hadv2 := rdS_adv hr2.1
                        refine lv_aload_n (pc := 115) hx hb dX8_instrument_115 rfl (lv_at hl 2 rfl) ?_
                        refine z_getM (pc := 116) cx (hW.at 0 rfl) 12 rfl m_fl_X8_63 rfl dX8_instrument_116 ?_
                        refine lv_istore (pc := 119) (lv' := [(4, .int (nI q2)), (3, .int (nI (k + 1))), (2, .int (wrR kp so (nI n) 0)), (0, .ref (a 0)), (1, .int (nI n))]) hx hb dX8_instrument_119 hl (by decide) rfl (fun ls hl => ?_)
                        refine lv_aload_n (pc := 121) hx hb dX8_instrument_121 rfl (lv_at hl 3 rfl) ?_
                        refine k_X8_here (pc := 122) (q := q2) (n := n) (z := iN (sz n)) cx hW (by first | assumption | omega) (by first | assumption | omega) (by first | assumption | omega) m_ml_X8_72 ⟨Nat.le_of_ble_eq_true rfl, Nat.le_of_ble_eq_true rfl⟩ hl.1 rfl (by simp [Value.category]) dX8_instrument_122 ⟨Nat.le_refl _, Nat.le_refl _⟩ ?_
                        refine lv_istore (pc := 125) (lv' := [(5, .int (hrT el n (iN (sz n)) q2)), (4, .int (nI q2)), (3, .int (nI (k + 1))), (2, .int (wrR kp so (nI n) 0)), (0, .ref (a 0)), (1, .int (nI n))]) hx hb dX8_instrument_125 hl (by decide) rfl (fun ls hl => ?_)
                        refine lv_aload_n (pc := 127) hx hb dX8_instrument_127 rfl (lv_at hl 4 rfl) ?_
                        refine k_X8_readsStatement (pc := 128) (q := q2) (n := n) (z := iN (sz n)) cx hW hS (fun _ h => h) (by first | assumption | omega) (by first | assumption | omega) (by first | assumption | omega) m_ml_X8_118 ⟨Nat.le_of_ble_eq_true rfl, Nat.le_of_ble_eq_true rfl⟩ hl.1 rfl (by simp [Value.category]) dX8_instrument_128 ⟨Nat.le_refl _, Nat.le_refl _⟩ (fun  H locs hq3 hW hS => ?_)
                        have hW : WW E (wM a (E.2.1 0) sv im g wa kp so sz el pr ts ((rdS (hrT el n (iN (sz n))) q2 nu3).2.1.2.1) bu ht (bI ig) th (nI (rdS (hrT el n (iN (sz n))) q2 nu3).2.1.1) (nI (100 * n)) (nI (iN (sz n))) (nI (rdS (hrT el n (iN (sz n))) q2 nu3).2.1.2.2) (bI ((rdS (hrT el n (iN (sz n))) q2 nu3).2.2))) gN H := hW
                        refine lv_istore (pc := 131) (lv' := [(6, .int (bI ((rdS (hrT el n (iN (sz n))) q2 nu3).1))), (5, .int (hrT el n (iN (sz n)) q2)), (4, .int (nI q2)), (3, .int (nI (k + 1))), (2, .int (wrR kp so (nI n) 0)), (0, .ref (a 0)), (1, .int (nI n))]) hx hb dX8_instrument_131 hl (by decide) rfl (fun ls hl => ?_)
                        refine lv_aload_n (pc := 133) hx hb dX8_instrument_133 rfl (lv_at hl 5 rfl) ?_
                        refine lv_iload (pc := 134) hx hb dX8_instrument_134 (lv_at hl 1 rfl) ?_
                        refine k_X8_comes (pc := 136) (x := hrT el n (iN (sz n)) q2) cx hW hS (fun _ h => h) (by first | assumption | omega) m_ml_X8_121 ⟨Nat.le_of_ble_eq_true rfl, Nat.le_of_ble_eq_true rfl⟩ hl.1 rfl (by simp [Value.category]) dX8_instrument_136 ⟨Nat.le_refl _, Nat.le_refl _⟩ (fun  H locs  hW hS => ?_)
                        have hW : WW E (wM a (E.2.1 0) sv im (cmR g ((rdS (hrT el n (iN (sz n))) q2 nu3).2.1.2.1) ((rdS (hrT el n (iN (sz n))) q2 nu3).2.2) (hrT el n (iN (sz n)) q2)) wa kp so sz el pr ts ((rdS (hrT el n (iN (sz n))) q2 nu3).2.1.2.1) bu ht (bI ig) th (nI (rdS (hrT el n (iN (sz n))) q2 nu3).2.1.1) (nI (100 * n)) (nI (iN (sz n))) (nI (rdS (hrT el n (iN (sz n))) q2 nu3).2.1.2.2) (bI ((rdS (hrT el n (iN (sz n))) q2 nu3).2.2))) gN H := hW
                        refine z_ifne (pc := 139) (tgt := 149) hx hb dX8_instrument_139 (by decide) (fun c_7 => ?_) (fun c_7 => ?_)
                        · skip
                          have hC3 := InvC_cm hC2 c_7
                          have hgo := c_7
                          refine lv_goto (pc := 149) (tgt := 104) hx hb dX8_instrument_149 (by decide) ?_
                          exact ih_104 ((rdS (hrT el n (iN (sz n))) q2 nu3).2.1.1) (j + 1)  (by omega) (by omega) (by omega)  _ ((rdS (hrT el n (iN (sz n))) q2 nu3).2.1.2.1) _ _ _ _ (by rw [he2, ph2_go (by omega) hlt2 hgo]; congr 1) hC3 (fun h => by have h5 := hr2.2 h; rwa [show 101 - (j + 1) = 101 - j - 1 by omega]) (hW) hS ls (lv_sub hl [3, 4, 5, 6] rfl)
                        · skip
                          have hE2 : ph2 (hrT el n (iN (sz n))) (iN (sz n)) 101 0 (ph1 (hrT el n (iN (sz n))) (iN (sz n)) 101 0 nu 0).2.2.2 sv = _ := he2.trans (ph2_bad (by omega) hlt2 (by simp [c_7]))
                          refine lv_sipush (pc := 142) (v := (-2000)) hx hb dX8_instrument_142 (by decide) ?_
                          refine lv_iload (pc := 145) hx hb dX8_instrument_145 (lv_at hl 2 rfl) ?_
                          refine lv_isub (pc := 147) hx hb dX8_instrument_147 ?_
                          exact z_wiret cx hr hlk dX8_instrument_148 hS ⟨_, _, _, _, _, _, _, (sI ((in_b2 hE hE2).1.symm.trans (instR_0 c_1 hN).symm)), (by rw [show (instS kp so sz el sv nu (nI n)) = sv from ((instS_0 c_1 hN).trans (in_b2 hE hE2).2)]; exact hW)⟩
                  exact loop_104 (((iN (sz n)) + 1 - 0) + 1) 0 0  (Nat.lt_succ_self _) (by omega) (by omega)  _ ((rdS (hrT el n (iN (sz n))) q nu2).2.1.2.1) _ sv _ _ (by rw [hEn]) hC (fun _ => hOK) (hW) hS ls (lv_sub hl [1, 2, 3, 4] rfl)
                · skip
                  have hlt_i := lt_nat (a := i) (b := 535) rfl rfl (by omega) (by omega) c_4
                  refine lv_aload_n (pc := 79) hx hb dX8_instrument_79 rfl (lv_at hl 3 rfl) ?_
                  refine z_getM (pc := 80) cx (hW.at 0 rfl) 2 rfl m_fl_X8_16 rfl dX8_instrument_80 ?_
                  refine lv_iload (pc := 83) hx hb dX8_instrument_83 (lv_at hl 0 rfl) ?_
                  refine lv_aload_n (pc := 85) hx hb dX8_instrument_85 rfl (lv_at hl 3 rfl) ?_
                  refine z_getM (pc := 86) cx (hW.at 0 rfl) 0 rfl m_fl_X8_9 rfl dX8_instrument_86 ?_
                  refine lv_iload (pc := 89) hx hb dX8_instrument_89 (lv_at hl 0 rfl) ?_
                  refine z_iald (pc := 91) (f := sv) (j := i) cx (hW.at 1 rfl) rfl (by omega) (by decide) dX8_instrument_91 ?_
                  refine z_iast (pc := 92) (f := cpA sv rd i) (j := i) cx hW hS 3 rfl (mF_in a 3) rfl (by omega) (by decide) dX8_instrument_92 (fun H locs hW hS => ?_)
                  have hW : WW E (wM a (E.2.1 0) sv im (upd (cpA sv rd i) i (sv i)) wa kp so sz el pr ts ((rdS (hrT el n (iN (sz n))) q nu2).2.1.2.1) bu ht (bI ig) th (nI (rdS (hrT el n (iN (sz n))) q nu2).2.1.1) (nI (100 * n)) (nI (iN (sz n))) (nI (rdS (hrT el n (iN (sz n))) q nu2).2.1.2.2) (bI ((rdS (hrT el n (iN (sz n))) q nu2).2.2))) gN H := hW
                  refine lv_iinc (pc := 93) (v := nI (i + 1)) (lv' := [(4, .int (nI (i + 1))), (3, .int (nI (k + 1))), (2, .int (wrR kp so (nI n) 0)), (0, .ref (a 0)), (1, .int (nI n))]) hx hb dX8_instrument_93 hl (k := 0) rfl (nI_1 _) (by decide) rfl (fun ls hl => ?_)
                  refine lv_goto (pc := 96) (tgt := 71) hx hb dX8_instrument_96 (by decide) ?_
                  exact ih_71 (i + 1) (nI (i + 1)) (by omega) (by omega) (by first | rfl | (simp [instR, c_1, hN, c_2, c_3, hE, i_nlt.mp c_3]; done))  _ _  (by rw [← cpA_s]; exact hW) hS ls (lv_sub hl [0, 1, 2, 3, 4] rfl)
            exact loop_71 ((535 - 0) + 1) 0 0 (Nat.lt_succ_self _) (by omega) (by first | rfl | (simp [instR, c_1, hN, c_2, c_3, hE, i_nlt.mp c_3]; done))  _ _  (by rw [cpA_0]; exact hW) hS ls (lv_sub hl [0, 1, 2, 3, 4] rfl)
        · skip
          have hE : ph1 (hrT el n (iN (sz n))) (iN (sz n)) 101 0 nu 0 = _ := he.trans (ph1_bad (by omega) (by simp [c_2]))
          refine lv_sipush (pc := 45) (v := (-1000)) hx hb dX8_instrument_45 (by decide) ?_
          refine lv_aload_n (pc := 48) hx hb dX8_instrument_48 rfl (lv_at hl 2 rfl) ?_
          refine z_getM (pc := 49) cx (hW.at 0 rfl) 12 rfl m_fl_X8_63 rfl dX8_instrument_49 ?_
          refine lv_isub (pc := 52) hx hb dX8_instrument_52 ?_
          exact z_wiret cx hr hlk dX8_instrument_53 hS ⟨_, _, _, _, _, _, _, (sI ((in_b1 hE).1.symm.trans (instR_0 c_1 hN).symm)), (by rw [show (instS kp so sz el sv nu (nI n)) = sv from ((instS_0 c_1 hN).trans (in_b1 hE).2)]; exact hW)⟩
    exact loop_38 (((iN (sz n)) + 1 - 0) + 1) 0 0 0 (Nat.lt_succ_self _) (by omega) (by omega) (by first | rfl | (simp [instR, c_1, hN]; done)) td nu ij _ _ rfl (hW) hS ls (lv_sub hl [0, 1, 2, 3] rfl)
  · skip
    refine lv_iload_n (pc := 11) hx hb dX8_instrument_11 rfl (lv_at hl 0 rfl) ?_
    exact z_wiret cx hr hlk dX8_instrument_12 hS ⟨_, _, _, _, _, _, _, (sI (by first | rfl | (simp [instR, c_1]; done))), (by rw [show (instS kp so sz el sv nu d) = sv from (by first | rfl | (simp [instS, c_1]; done))]; exact hW)⟩
theorem k_X8_instrument {p : Program} {l : Launch} {e : Env} {R : Room} {s : State} {m : MethodId} {args : Array Value} {below : List Frame} {meth : Method} {c : Code} {H H0 : Heap} {locs : List Loc} {cells slots : Nat} {Q : State → Prop} {cc : ByteArray} {pc index : Nat} {ls : Array Slot} {rest st0 : List Value} {E : zE} {own : String} {nL : Nat} {F : Nat → Prop} {a : Nat → Nat} {sv im rd wa kp so sz el pr ts nu bu ht : Nat → Int32} {th po ba en td : Int32} {ig : Bool} {ij : Bool} {d : Int32} (cx : Cx E p s args m c own cc nL) (hW : WW E (wM a (E.2.1 0) sv im rd wa kp so sz el pr ts nu bu ht (bI ig) th po ba en td (bI ij)) gN H) (hS : va_S F H0 H locs) (zF : ∀ q, (mF a) q → F q) (hI : Inv sv) (hR : InvR kp so sz) (zl : Cond.methodLink own index yX8_instrument ∈ AllW) (zR : 5 + 1 ≤ R.frames ∧ 8 + (7 + 11) + 107 ≤ R.locals) (zs : ls.size = nL) (zt : st0 = ([.int d] : List Value).reverse ++ .ref (a 0) :: rest) (z8 : (rest.map fun v => v.category).sum ≤ 8) (zd : decode cc pc = .ok (.invokevirtual index, 3)) (zf : cells ≤ R.cells ∧ slots ≤ R.slots) (kk0 : ∀ (rd2 : Nat → Int32) (po2 : Int32) (ba2 : Int32) (en2 : Int32) (td2 : Int32) (nu2 : Nat → Int32) (ij2 : Bool) (H1 : Heap) (locs1 : List Loc), WW E (wM a (E.2.1 0) (instS kp so sz el sv nu d) im rd2 wa kp so sz el pr ts nu2 bu ht (bI ig) th po2 ba2 en2 td2 (bI ij2)) gN H1 → va_S F H0 H1 locs1 → W p l e R s m args below meth c H1 locs1 cells slots Q (F0 m (pc + 3) ls (.int (instR kp so sz el sv nu d) :: rest))) : W p l e R s m args below meth c H locs cells slots Q (F0 m pc ls st0) := by
  refine z_callVw cx vm_X8_instrument (c_X8_instrument l E a sv im rd wa kp so sz el pr ts nu bu ht th po ba en td ig ij d hI hR) (z_rec cx.2 (hW.at 0 rfl) rfl) hW hS zF zl ⟨rfl, rfl⟩ zR rfl zs zt z8 zd zf (fun v H1 locs1 hq hS1 _ => ?_)
  rcases hq with ⟨rd2, po2, ba2, en2, td2, nu2, ij2, rfl, hW1⟩
  · exact kk0 rd2 po2 ba2 en2 td2 nu2 ij2 H1 locs1  hW1 hS1
