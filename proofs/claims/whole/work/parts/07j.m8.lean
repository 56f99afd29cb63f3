theorem nI_inj2 {a b : Nat} (h : a < 1000 ∧ b < 1000) (q : nI a = nI b) : a = b := (nI_eq (by omega) (by omega)).mp q
theorem vm_X8_rattles : zVm yX8_rattles cX8_rattles 10 (some FieldType.int) 3 := ⟨m_co_X8_rattles, m_in_RX8, ⟨m_im_X8_rattles, m_se_X8_X8_rattles⟩, by decide +kernel, by decide +kernel, by decide +kernel⟩
set_option maxHeartbeats 1000000 in
set_option maxRecDepth 100000 in
theorem c_X8_rattles (l : Launch) (E : zE) (a : Nat → Nat) (sv im rd wa kp so sz el pr ts nu bu ht : Nat → Int32) (th po ba en td : Int32) (ig : Bool) (ij : Bool) (d st w : Int32) (hI : Inv sv) (hR : InvR kp so sz) : Met l yX8_rattles (.code yX8_rattles cX8_rattles 10 (some FieldType.int) :: AllW) (rm0' 20 570) (zP E (fun H => WW E (wM a (E.2.1 0) sv im rd wa kp so sz el pr ts nu bu ht (bI ig) th po ba en td (bI ij)) gN H) [.ref (a 0), .int d, .int st, .int w]) (zQ (fun (_ : Heap) (v : Option Value) (H1 : Heap) => (∃ (ht2 : Nat → Int32), v = some (.int (ratP sv kp so sz el d st w)) ∧ WW E (wM a (E.2.1 0) sv im rd wa kp so sz el pr ts nu bu ht2 (bI ig) th po ba en td (bI ij)) gN H1)) (mF a)) 0 0 (mF a) := by
  refine z_body (own := RX8) (by decide) rfl rfl ?_
  intro p e s m args below meth c ls cx hr hlk hnm hW hl
  have hx := cx.x
  have hb := cx.b
  have hl : lv_has ls 10 [(0, .ref (a 0)), (1, .int d), (2, .int st), (3, .int w)] := hl
  have hS : va_S (mF a) s.heap s.heap [] := va_S.rf
  have hC := hI.1
  have hP10 := (Inv.n0 hC).2
  have hT7 := (Inv.n1 hC).2
  have hA24 := (Inv.n2 hC).2
  refine lv_iload_n (pc := 0) hx hb dX8_rattles_0 rfl (lv_at hl 1 rfl) ?_
  refine k_X8_isShelf (pc := 1) (x := d) cx  m_ml_X8_111 ⟨Nat.le_of_ble_eq_true rfl, Nat.le_of_ble_eq_true rfl⟩ hl.1 rfl (by simp [Value.category]) dX8_rattles_1 ⟨Nat.le_refl _, Nat.le_refl _⟩ ?_
  refine z_ifeq (pc := 4) (tgt := 24) hx hb dX8_rattles_4 (by decide) (fun c_1 => ?_) (fun c_1 => ?_)
  · skip
    refine lv_iconst (pc := 24) (v := (-1)) hx hb dX8_rattles_24 (by decide) ?_
    exact z_wiret cx hr hlk dX8_rattles_25 hS ⟨_, (sI (by first | rfl | (simp [ratP, orN, fdF, bit, c_1]; done))), hW⟩
  · skip
    refine lv_iload_n (pc := 7) hx hb dX8_rattles_7 rfl (lv_at hl 2 rfl) ?_
    refine k_X8_isStrong (pc := 8) (x := st) cx  m_ml_X8_180 ⟨Nat.le_of_ble_eq_true rfl, Nat.le_of_ble_eq_true rfl⟩ hl.1 rfl (by simp [Value.category]) dX8_rattles_8 ⟨Nat.le_refl _, Nat.le_refl _⟩ ?_
    refine z_ifeq (pc := 11) (tgt := 24) hx hb dX8_rattles_11 (by decide) (fun c_2 => ?_) (fun c_2 => ?_)
    · skip
      refine lv_iconst (pc := 24) (v := (-1)) hx hb dX8_rattles_24 (by decide) ?_
      exact z_wiret cx hr hlk dX8_rattles_25 hS ⟨_, (sI (by first | rfl | (simp [ratP, orN, fdF, bit, c_1, c_2]; done))), hW⟩
    · skip
      refine lv_iload_n (pc := 14) hx hb dX8_rattles_14 rfl (lv_at hl 3 rfl) ?_
      refine lv_i2l (pc := 15) (v := Int32.toInt64 w) hx hb dX8_rattles_15 rfl ?_
      refine lv_lconst (pc := 16) (v := 0) hx hb dX8_rattles_16 rfl ?_
      refine lv_lconst (pc := 17) (v := 1) hx hb dX8_rattles_17 rfl ?_
      refine k_X8_isIn (pc := 18) (x := w) (y := 0) (z := 1) cx  m_ml_X8_53 ⟨Nat.le_of_ble_eq_true rfl, Nat.le_of_ble_eq_true rfl⟩ hl.1 rfl (by simp [Value.category]) dX8_rattles_18 ⟨Nat.le_refl _, Nat.le_refl _⟩ ?_
      refine z_ifne (pc := 21) (tgt := 26) hx hb dX8_rattles_21 (by decide) (fun c_3 => ?_) (fun c_3 => ?_)
      · skip
        refine lv_aload_n (pc := 26) hx hb dX8_rattles_26 rfl (lv_at hl 0 rfl) ?_
        refine lv_iload_n (pc := 27) hx hb dX8_rattles_27 rfl (lv_at hl 1 rfl) ?_
        refine lv_bipush (pc := 28) (v := 10) hx hb dX8_rattles_28 (by decide) ?_
        refine k_X8_wrongTones (pc := 30) (d := d) (mo := 10) cx hW (by first | assumption | omega) m_ml_X8_235 ⟨Nat.le_of_ble_eq_true rfl, Nat.le_of_ble_eq_true rfl⟩ hl.1 rfl (by simp [Value.category]) dX8_rattles_30 ⟨Nat.le_refl _, Nat.le_refl _⟩ ?_
        refine lv_istore (pc := 33) (lv' := [(4, .int (wtT kp so sz el d 10)), (0, .ref (a 0)), (1, .int d), (2, .int st), (3, .int w)]) hx hb dX8_rattles_33 hl (by decide) rfl (fun ls hl => ?_)
        refine lv_iload (pc := 35) hx hb dX8_rattles_35 (lv_at hl 0 rfl) ?_
        refine lv_if_eq (pc := 37) (tgt := 43) hx hb dX8_rattles_37 (by decide) (fun c_4 => ?_) (fun c_4 => ?_)
        · skip
          have ht0 := wtT_0 c_4
          obtain ⟨n, hn, rfl⟩ := shelf_nat (wrR_0 ht0.1).1
          have hN := iN_nI (n := n) (by omega)
          have hz := sz_nat hR hn
          have hal := allN_all _ _ ht0.2.2
          rw [hN] at hal
          have hal2 : ∀ j, j < iN (sz n) → rg (el (100 * n + j)) 1 1200 := fun j hj => tone_rg (hal j (Nat.zero_le _) (by omega))
          have hz10 : iN (sz n) ≤ 10 := by have q := ht0.2.1; rw [hN, hz.1] at q; exact (nI_leI (by omega) (by decide)).mp q
          have h2p : 2 ^ iN (sz n) ≤ 1024 := Nat.pow_le_pow_right (n := 2) (by decide) hz10
          refine lv_aload_n (pc := 43) hx hb dX8_rattles_43 rfl (lv_at hl 1 rfl) ?_
          refine lv_iload_n (pc := 44) hx hb dX8_rattles_44 rfl (lv_at hl 2 rfl) ?_
          refine lv_iload_n (pc := 45) hx hb dX8_rattles_45 rfl (lv_at hl 3 rfl) ?_
          refine k_X8_hears (pc := 46) (n := n) (st := st) cx hW hS (fun _ h => h) hI hn hR hal2 m_ml_X8_238 ⟨Nat.le_of_ble_eq_true rfl, Nat.le_of_ble_eq_true rfl⟩ hl.1 rfl (by simp [Value.category]) dX8_rattles_46 ⟨Nat.le_refl _, Nat.le_refl _⟩ (fun ht2 H locs hht hW hS => ?_)
          have hW : WW E (wM a (E.2.1 0) sv im rd wa kp so sz el pr ts nu bu ht2 (bI ig) th po ba en td (bI ij)) gN H := hW
          refine lv_iconst (pc := 49) (v := 0) hx hb dX8_rattles_49 (by decide) ?_
          refine lv_istore (pc := 50) (lv' := [(5, .int 0), (4, .int (wtT kp so sz el (nI n) 10)), (0, .ref (a 0)), (1, .int (nI n)), (2, .int st), (3, .int w)]) hx hb dX8_rattles_50 hl (by decide) rfl (fun ls hl => ?_)
          refine lv_iconst (pc := 52) (v := 0) hx hb dX8_rattles_52 (by decide) ?_
          refine lv_istore (pc := 53) (lv' := [(6, .int 0), (5, .int 0), (4, .int (wtT kp so sz el (nI n) 10)), (0, .ref (a 0)), (1, .int (nI n)), (2, .int st), (3, .int w)]) hx hb dX8_rattles_53 hl (by decide) rfl (fun ls hl => ?_)
          have loop_55 : ∀ (k_55 : Nat) (i : Nat) (x6 : Int32) (x5 : Int32), (iN (sz n) - i) < k_55 → (i ≤ iN (sz n)) → x6 = nI i → x5 = orN ht2 i → ∀ (H : Heap) (locs : List Loc), WW E (wM a (E.2.1 0) sv im rd wa kp so sz el pr ts nu bu ht2 (bI ig) th po ba en td (bI ij)) gN H → va_S (mF a) s.heap H locs → ∀ (ls : Array Slot), lv_has ls 10 [(6, .int x6), (5, .int x5), (4, .int (wtT kp so sz el (nI n) 10)), (0, .ref (a 0)), (1, .int (nI n)), (2, .int st), (3, .int w)] → W p l e (rm0' (20) (570)) s m args below meth c H locs 0 0 (MQ below (zQ (fun (_ : Heap) (v : Option Value) (H1 : Heap) => (∃ (ht2 : Nat → Int32), v = some (.int (ratP sv kp so sz el (nI n) st w)) ∧ WW E (wM a (E.2.1 0) sv im rd wa kp so sz el pr ts nu bu ht2 (bI ig) th po ba en td (bI ij)) gN H1)) (mF a)) args s 0 0 (mF a)) (F0 m 55 ls []) := by
            intro k_55
            induction k_55 with
            | zero =>
              intro i x6 x5 hm
              exact absurd hm (Nat.not_lt_zero _)
            | succ k_55 ih_55 =>
              intro i x6 x5 hm_55 hi e_x6 e_x5  H locs  hW hS ls hl
              subst e_x6
              subst e_x5
              refine lv_iload (pc := 55) hx hb dX8_rattles_55 (lv_at hl 0 rfl) ?_
              refine lv_aload_n (pc := 57) hx hb dX8_rattles_57 rfl (lv_at hl 3 rfl) ?_
              refine z_getM (pc := 58) cx (hW.at 0 rfl) 6 rfl m_fl_X8_28 rfl dX8_rattles_58 ?_
              refine lv_iload_n (pc := 61) hx hb dX8_rattles_61 rfl (lv_at hl 4 rfl) ?_
              refine z_iald (pc := 62) (f := sz) (j := n) cx (hW.at 7 rfl) rfl (by omega) (by decide) dX8_rattles_62 ?_
              refine lv_icmp_ge (pc := 63) (tgt := 84) hx hb dX8_rattles_63 (by decide) (fun c_5 => ?_) (fun c_5 => ?_)
              · skip
                obtain rfl : i = iN (sz n) := by have := ge_nat (a := i) rfl hz.1 (by omega) (by omega) c_5; omega
                refine lv_bipush (pc := 84) (v := (-4)) hx hb dX8_rattles_84 (by decide) ?_
                refine lv_istore (pc := 86) (lv' := [(6, .int (-4)), (5, .int (orN ht2 (iN (sz n)))), (4, .int (wtT kp so sz el (nI n) 10)), (0, .ref (a 0)), (1, .int (nI n)), (2, .int st), (3, .int w)]) hx hb dX8_rattles_86 hl (by decide) rfl (fun ls hl => ?_)
                refine lv_iconst (pc := 88) (v := 0) hx hb dX8_rattles_88 (by decide) ?_
                refine lv_istore (pc := 89) (lv' := [(7, .int 0), (6, .int (-4)), (5, .int (orN ht2 (iN (sz n)))), (4, .int (wtT kp so sz el (nI n) 10)), (0, .ref (a 0)), (1, .int (nI n)), (2, .int st), (3, .int w)]) hx hb dX8_rattles_89 hl (by decide) rfl (fun ls hl => ?_)
                have loop_91 : ∀ (k_91 : Nat) (m2 : Nat) (x7 : Int32) (x6 : Int32), (2 ^ iN (sz n) - m2) < k_91 → (m2 ≤ 2 ^ iN (sz n)) → x7 = nI m2 → x6 = raS ht2 (iN (sz n)) m2 → ∀ (H : Heap) (locs : List Loc), WW E (wM a (E.2.1 0) sv im rd wa kp so sz el pr ts nu bu ht2 (bI ig) th po ba en td (bI ij)) gN H → va_S (mF a) s.heap H locs → ∀ (ls : Array Slot), lv_has ls 10 [(7, .int x7), (6, .int x6), (5, .int (orN ht2 (iN (sz n)))), (4, .int (wtT kp so sz el (nI n) 10)), (0, .ref (a 0)), (1, .int (nI n)), (2, .int st), (3, .int w)] → W p l e (rm0' (20) (570)) s m args below meth c H locs 0 0 (MQ below (zQ (fun (_ : Heap) (v : Option Value) (H1 : Heap) => (∃ (ht2 : Nat → Int32), v = some (.int (ratP sv kp so sz el (nI n) st w)) ∧ WW E (wM a (E.2.1 0) sv im rd wa kp so sz el pr ts nu bu ht2 (bI ig) th po ba en td (bI ij)) gN H1)) (mF a)) args s 0 0 (mF a)) (F0 m 91 ls []) := by
                  intro k_91
                  induction k_91 with
                  | zero =>
                    intro m2 x7 x6 hm
                    exact absurd hm (Nat.not_lt_zero _)
                  | succ k_91 ih_91 =>
                    intro m2 x7 x6 hm_91 him e_x7 e_x6  H locs  hW hS ls hl
                    subst e_x7
                    subst e_x6
                    refine lv_iload (pc := 91) hx hb dX8_rattles_91 (lv_at hl 0 rfl) ?_
                    refine lv_iconst (pc := 93) (v := 1) hx hb dX8_rattles_93 (by decide) ?_
                    refine lv_aload_n (pc := 94) hx hb dX8_rattles_94 rfl (lv_at hl 4 rfl) ?_
                    refine z_getM (pc := 95) cx (hW.at 0 rfl) 6 rfl m_fl_X8_28 rfl dX8_rattles_95 ?_
                    refine lv_iload_n (pc := 98) hx hb dX8_rattles_98 rfl (lv_at hl 5 rfl) ?_
                    refine z_iald (pc := 99) (f := sz) (j := n) cx (hW.at 7 rfl) rfl (by omega) (by decide) dX8_rattles_99 ?_
                    refine lv_ishl (pc := 100) hx hb dX8_rattles_100 ?_
                    refine z_tope (y := nI (2 ^ iN (sz n))) (by rw [hz.1, iN_nI (by omega)]; exact shl_pow10 _ (by omega)) ?_
                    refine lv_icmp_ge (pc := 101) (tgt := 189) hx hb dX8_rattles_101 (by decide) (fun c_6 => ?_) (fun c_6 => ?_)
                    · skip
                      have hm : m2 = 2 ^ iN (sz n) := by have := ge_nat (a := m2) (b := 2 ^ iN (sz n)) rfl rfl (by omega) (by omega) c_6; omega
                      rw [hm] at hl
                      obtain ⟨b, hb2, eb⟩ := raS_full (ht := ht2) hz10
                      rw [eb] at hl
                      have hB := iN_nI (n := b) (by omega)
                      refine lv_iload_n (pc := 189) hx hb dX8_rattles_189 rfl (lv_at hl 7 rfl) ?_
                      refine lv_if_ne (pc := 190) (tgt := 201) hx hb dX8_rattles_190 (by decide) (fun c_7 => ?_) (fun c_7 => ?_)
                      · skip
                        refine lv_iload (pc := 201) hx hb dX8_rattles_201 (lv_at hl 1 rfl) ?_
                        exact z_wiret cx hr hlk dX8_rattles_203 hS ⟨_, (sI (by simp [ratP, c_1, c_2, c_3, c_4, hN, hB, c_7, ← raS_congr (f := ht2) (g := hrE sv el n st) hht, eb])), hW⟩
                      · skip
                        have h01 : inL 0 0 1 = true := by decide
                        refine lv_iload (pc := 193) hx hb dX8_rattles_193 (lv_at hl 1 rfl) ?_
                        refine k_X8_bits (pc := 195) (v := b) cx (by omega) m_ml_X8_229 ⟨Nat.le_of_ble_eq_true rfl, Nat.le_of_ble_eq_true rfl⟩ hl.1 rfl (by simp [Value.category]) dX8_rattles_195 ⟨Nat.le_refl _, Nat.le_refl _⟩ ?_
                        refine lv_goto (pc := 198) (tgt := 203) hx hb dX8_rattles_198 (by decide) ?_
                        exact z_wiret cx hr hlk dX8_rattles_203 hS ⟨_, (sI (by simp [ratP, c_1, c_2, c_3, c_4, hN, hB, c_7, h01, ← raS_congr (f := ht2) (g := hrE sv el n st) hht, eb])), hW⟩
                    · skip
                      have hlt_m := lt_nat (a := m2) (b := 2 ^ iN (sz n)) rfl rfl (by omega) (by omega) c_6
                      refine lv_iconst (pc := 104) (v := 0) hx hb dX8_rattles_104 (by decide) ?_
                      refine lv_istore (pc := 105) (lv' := [(8, .int 0), (7, .int (nI m2)), (6, .int (raS ht2 (iN (sz n)) m2)), (5, .int (orN ht2 (iN (sz n)))), (4, .int (wtT kp so sz el (nI n) 10)), (0, .ref (a 0)), (1, .int (nI n)), (2, .int st), (3, .int w)]) hx hb dX8_rattles_105 hl (by decide) rfl (fun ls hl => ?_)
                      refine lv_iconst (pc := 107) (v := 0) hx hb dX8_rattles_107 (by decide) ?_
                      refine lv_istore (pc := 108) (lv' := [(9, .int 0), (8, .int 0), (7, .int (nI m2)), (6, .int (raS ht2 (iN (sz n)) m2)), (5, .int (orN ht2 (iN (sz n)))), (4, .int (wtT kp so sz el (nI n) 10)), (0, .ref (a 0)), (1, .int (nI n)), (2, .int st), (3, .int w)]) hx hb dX8_rattles_108 hl (by decide) rfl (fun ls hl => ?_)
                      have loop_110 : ∀ (k_110 : Nat) (j : Nat) (x9 : Int32) (x8 : Int32), (iN (sz n) - j) < k_110 → (j ≤ iN (sz n)) → x9 = nI j → x8 = orN (fdF ht2 m2) j → ∀ (H : Heap) (locs : List Loc), WW E (wM a (E.2.1 0) sv im rd wa kp so sz el pr ts nu bu ht2 (bI ig) th po ba en td (bI ij)) gN H → va_S (mF a) s.heap H locs → ∀ (ls : Array Slot), lv_has ls 10 [(9, .int x9), (8, .int x8), (7, .int (nI m2)), (6, .int (raS ht2 (iN (sz n)) m2)), (5, .int (orN ht2 (iN (sz n)))), (4, .int (wtT kp so sz el (nI n) 10)), (0, .ref (a 0)), (1, .int (nI n)), (2, .int st), (3, .int w)] → W p l e (rm0' (20) (570)) s m args below meth c H locs 0 0 (MQ below (zQ (fun (_ : Heap) (v : Option Value) (H1 : Heap) => (∃ (ht2 : Nat → Int32), v = some (.int (ratP sv kp so sz el (nI n) st w)) ∧ WW E (wM a (E.2.1 0) sv im rd wa kp so sz el pr ts nu bu ht2 (bI ig) th po ba en td (bI ij)) gN H1)) (mF a)) args s 0 0 (mF a)) (F0 m 110 ls []) := by
                        intro k_110
                        induction k_110 with
                        | zero =>
                          intro j x9 x8 hm
                          exact absurd hm (Nat.not_lt_zero _)
                        | succ k_110 ih_110 =>
                          intro j x9 x8 hm_110 hj e_x9 e_x8  H locs  hW hS ls hl
                          subst e_x9
                          subst e_x8
                          refine lv_iload (pc := 110) hx hb dX8_rattles_110 (lv_at hl 0 rfl) ?_
                          refine lv_aload_n (pc := 112) hx hb dX8_rattles_112 rfl (lv_at hl 6 rfl) ?_
                          refine z_getM (pc := 113) cx (hW.at 0 rfl) 6 rfl m_fl_X8_28 rfl dX8_rattles_113 ?_
                          refine lv_iload_n (pc := 116) hx hb dX8_rattles_116 rfl (lv_at hl 7 rfl) ?_
                          refine z_iald (pc := 117) (f := sz) (j := n) cx (hW.at 7 rfl) rfl (by omega) (by decide) dX8_rattles_117 ?_
                          refine lv_icmp_ge (pc := 118) (tgt := 154) hx hb dX8_rattles_118 (by decide) (fun c_8 => ?_) (fun c_8 => ?_)
                          · skip
                            obtain rfl : j = iN (sz n) := by have := ge_nat (a := j) rfl hz.1 (by omega) (by omega) c_8; omega
                            refine lv_iload (pc := 154) hx hb dX8_rattles_154 (lv_at hl 1 rfl) ?_
                            refine lv_iload (pc := 156) hx hb dX8_rattles_156 (lv_at hl 4 rfl) ?_
                            refine lv_icmp_ne (pc := 158) (tgt := 183) hx hb dX8_rattles_158 (by decide) (fun c_9 => ?_) (fun c_9 => ?_)
                            · skip
                              refine lv_iinc (pc := 183) (v := nI (m2 + 1)) (lv' := [(7, .int (nI (m2 + 1))), (9, .int (nI (iN (sz n)))), (8, .int (orN (fdF ht2 m2) (iN (sz n)))), (6, .int (raS ht2 (iN (sz n)) m2)), (5, .int (orN ht2 (iN (sz n)))), (4, .int (wtT kp so sz el (nI n) 10)), (0, .ref (a 0)), (1, .int (nI n)), (2, .int st), (3, .int w)]) hx hb dX8_rattles_183 hl (k := 2) rfl (nI_1 _) (by decide) rfl (fun ls hl => ?_)
                              refine lv_goto (pc := 186) (tgt := 91) hx hb dX8_rattles_186 (by decide) ?_
                              exact ih_91 (m2 + 1) (nI (m2 + 1)) (raS ht2 (iN (sz n)) m2) (by omega) (by omega) (by first | rfl | (simp [ratP, orN, fdF, bit, c_1, c_2, c_3, c_4, hN, c_9]; done)) (by simp only [raS]; simp [c_1, c_2, c_3, c_4, hN, c_9])  _ _  (hW) hS ls (lv_sub hl [0, 3, 4, 5, 6, 7, 8, 9] rfl)
                            · skip
                              refine lv_iload (pc := 161) hx hb dX8_rattles_161 (lv_at hl 3 rfl) ?_
                              refine lv_if_lt (pc := 163) (tgt := 179) hx hb dX8_rattles_163 (by decide) (fun c_10 => ?_) (fun c_10 => ?_)
                              · skip
                                refine lv_iload (pc := 179) hx hb dX8_rattles_179 (lv_at hl 2 rfl) ?_
                                refine lv_istore (pc := 181) (lv' := [(6, .int (nI m2)), (9, .int (nI (iN (sz n)))), (8, .int (orN (fdF ht2 m2) (iN (sz n)))), (7, .int (nI m2)), (5, .int (orN ht2 (iN (sz n)))), (4, .int (wtT kp so sz el (nI n) 10)), (0, .ref (a 0)), (1, .int (nI n)), (2, .int st), (3, .int w)]) hx hb dX8_rattles_181 hl (by decide) rfl (fun ls hl => ?_)
                                refine lv_iinc (pc := 183) (v := nI (m2 + 1)) (lv' := [(7, .int (nI (m2 + 1))), (6, .int (nI m2)), (9, .int (nI (iN (sz n)))), (8, .int (orN (fdF ht2 m2) (iN (sz n)))), (5, .int (orN ht2 (iN (sz n)))), (4, .int (wtT kp so sz el (nI n) 10)), (0, .ref (a 0)), (1, .int (nI n)), (2, .int st), (3, .int w)]) hx hb dX8_rattles_183 hl (k := 3) rfl (nI_1 _) (by decide) rfl (fun ls hl => ?_)
                                refine lv_goto (pc := 186) (tgt := 91) hx hb dX8_rattles_186 (by decide) ?_
                                exact ih_91 (m2 + 1) (nI (m2 + 1)) (nI m2) (by omega) (by omega) (by first | rfl | (simp [ratP, orN, fdF, bit, c_1, c_2, c_3, c_4, hN, c_9, c_10, i_nle.mpr c_10]; done)) (by simp only [raS]; simp [c_1, c_2, c_3, c_4, hN, c_9, c_10, i_nle.mpr c_10])  _ _  (hW) hS ls (lv_sub hl [0, 1, 4, 5, 6, 7, 8, 9] rfl)
                              · skip
                                obtain ⟨b, hb2, eb⟩ := (raS_nat (ht := ht2) (z := iN (sz n)) m2).resolve_left c_10
                                rw [eb] at c_10
                                have hB := iN_nI (n := b) (by omega)
                                refine lv_iload (pc := 166) hx hb dX8_rattles_166 (lv_at hl 2 rfl) ?_
                                refine k_X8_bits (pc := 168) (v := m2) cx (by omega) m_ml_X8_229 ⟨Nat.le_of_ble_eq_true rfl, Nat.le_of_ble_eq_true rfl⟩ hl.1 rfl (by simp [Value.category]) dX8_rattles_168 ⟨Nat.le_refl _, Nat.le_refl _⟩ ?_
                                refine lv_iload (pc := 171) hx hb dX8_rattles_171 (lv_at hl 3 rfl) ?_
                                refine z_tope (y := nI b) eb ?_
                                refine k_X8_bits (pc := 173) (v := b) cx (by omega) m_ml_X8_229 ⟨Nat.le_of_ble_eq_true rfl, Nat.le_of_ble_eq_true rfl⟩ hl.1 rfl (by simp [Value.category]) dX8_rattles_173 ⟨Nat.le_refl _, Nat.le_refl _⟩ ?_
                                refine lv_icmp_ge (pc := 176) (tgt := 183) hx hb dX8_rattles_176 (by decide) (fun c_11 => ?_) (fun c_11 => ?_)
                                · skip
                                  refine lv_iinc (pc := 183) (v := nI (m2 + 1)) (lv' := [(7, .int (nI (m2 + 1))), (9, .int (nI (iN (sz n)))), (8, .int (orN (fdF ht2 m2) (iN (sz n)))), (6, .int (raS ht2 (iN (sz n)) m2)), (5, .int (orN ht2 (iN (sz n)))), (4, .int (wtT kp so sz el (nI n) 10)), (0, .ref (a 0)), (1, .int (nI n)), (2, .int st), (3, .int w)]) hx hb dX8_rattles_183 hl (k := 2) rfl (nI_1 _) (by decide) rfl (fun ls hl => ?_)
                                  refine lv_goto (pc := 186) (tgt := 91) hx hb dX8_rattles_186 (by decide) ?_
                                  exact ih_91 (m2 + 1) (nI (m2 + 1)) (raS ht2 (iN (sz n)) m2) (by omega) (by omega) (by first | rfl | (simp [ratP, orN, fdF, bit, c_1, c_2, c_3, c_4, hN, c_9, c_10, eb, hB, c_11, i_nlt.mp c_10, i_nlt.mpr c_11]; done)) (by simp only [raS]; simp [c_1, c_2, c_3, c_4, hN, c_9, c_10, eb, hB, c_11, i_nlt.mp c_10, i_nlt.mpr c_11])  _ _  (hW) hS ls (lv_sub hl [0, 3, 4, 5, 6, 7, 8, 9] rfl)
                                · skip
                                  refine lv_iload (pc := 179) hx hb dX8_rattles_179 (lv_at hl 2 rfl) ?_
                                  refine lv_istore (pc := 181) (lv' := [(6, .int (nI m2)), (9, .int (nI (iN (sz n)))), (8, .int (orN (fdF ht2 m2) (iN (sz n)))), (7, .int (nI m2)), (5, .int (orN ht2 (iN (sz n)))), (4, .int (wtT kp so sz el (nI n) 10)), (0, .ref (a 0)), (1, .int (nI n)), (2, .int st), (3, .int w)]) hx hb dX8_rattles_181 hl (by decide) rfl (fun ls hl => ?_)
                                  refine lv_iinc (pc := 183) (v := nI (m2 + 1)) (lv' := [(7, .int (nI (m2 + 1))), (6, .int (nI m2)), (9, .int (nI (iN (sz n)))), (8, .int (orN (fdF ht2 m2) (iN (sz n)))), (5, .int (orN ht2 (iN (sz n)))), (4, .int (wtT kp so sz el (nI n) 10)), (0, .ref (a 0)), (1, .int (nI n)), (2, .int st), (3, .int w)]) hx hb dX8_rattles_183 hl (k := 3) rfl (nI_1 _) (by decide) rfl (fun ls hl => ?_)
                                  refine lv_goto (pc := 186) (tgt := 91) hx hb dX8_rattles_186 (by decide) ?_
                                  exact ih_91 (m2 + 1) (nI (m2 + 1)) (nI m2) (by omega) (by omega) (by first | rfl | (simp [ratP, orN, fdF, bit, c_1, c_2, c_3, c_4, hN, c_9, c_10, eb, hB, c_11, i_nlt.mp c_10, i_nle.mp c_11]; done)) (by simp only [raS]; simp [c_1, c_2, c_3, c_4, hN, c_9, c_10, eb, hB, c_11, i_nlt.mp c_10, i_nle.mp c_11])  _ _  (hW) hS ls (lv_sub hl [0, 1, 4, 5, 6, 7, 8, 9] rfl)
                          · skip
                            have hlt_j := lt_nat (a := j) rfl hz.1 (by omega) (by omega) c_8
                            refine lv_iload (pc := 121) hx hb dX8_rattles_121 (lv_at hl 1 rfl) ?_
                            refine lv_iload (pc := 123) hx hb dX8_rattles_123 (lv_at hl 2 rfl) ?_
                            refine lv_iload (pc := 125) hx hb dX8_rattles_125 (lv_at hl 0 rfl) ?_
                            refine lv_ishr (pc := 127) hx hb dX8_rattles_127 ?_
                            refine lv_iconst (pc := 128) (v := 1) hx hb dX8_rattles_128 (by decide) ?_
                            refine lv_iand (pc := 129) hx hb dX8_rattles_129 ?_
                            refine lv_iconst (pc := 130) (v := 1) hx hb dX8_rattles_130 (by decide) ?_
                            refine lv_icmp_ne (pc := 131) (tgt := 144) hx hb dX8_rattles_131 (by decide) (fun c_12 => ?_) (fun c_12 => ?_)
                            · skip
                              refine lv_iconst (pc := 144) (v := 0) hx hb dX8_rattles_144 (by decide) ?_
                              refine lv_ior (pc := 145) hx hb dX8_rattles_145 ?_
                              refine lv_istore (pc := 146) (lv' := [(8, .int ((orN (fdF ht2 m2) j) ||| 0)), (9, .int (nI j)), (7, .int (nI m2)), (6, .int (raS ht2 (iN (sz n)) m2)), (5, .int (orN ht2 (iN (sz n)))), (4, .int (wtT kp so sz el (nI n) 10)), (0, .ref (a 0)), (1, .int (nI n)), (2, .int st), (3, .int w)]) hx hb dX8_rattles_146 hl (by decide) rfl (fun ls hl => ?_)
                              refine lv_iinc (pc := 148) (v := nI (j + 1)) (lv' := [(9, .int (nI (j + 1))), (8, .int ((orN (fdF ht2 m2) j) ||| 0)), (7, .int (nI m2)), (6, .int (raS ht2 (iN (sz n)) m2)), (5, .int (orN ht2 (iN (sz n)))), (4, .int (wtT kp so sz el (nI n) 10)), (0, .ref (a 0)), (1, .int (nI n)), (2, .int st), (3, .int w)]) hx hb dX8_rattles_148 hl (k := 1) rfl (nI_1 _) (by decide) rfl (fun ls hl => ?_)
                              refine lv_goto (pc := 151) (tgt := 110) hx hb dX8_rattles_151 (by decide) ?_
                              exact ih_110 (j + 1) (nI (j + 1)) ((orN (fdF ht2 m2) j) ||| 0) (by omega) (by omega) (by first | rfl | (simp [ratP, orN, fdF, bit, c_1, c_2, c_3, c_4, hN, c_12]; done)) (by first | rfl | (simp [ratP, orN, fdF, bit, c_1, c_2, c_3, c_4, hN, c_12]; done))  _ _  (hW) hS ls (lv_sub hl [0, 1, 2, 3, 4, 5, 6, 7, 8, 9] rfl)
                            · skip
                              refine lv_aload_n (pc := 134) hx hb dX8_rattles_134 rfl (lv_at hl 6 rfl) ?_
                              refine z_getM (pc := 135) cx (hW.at 0 rfl) 19 rfl m_fl_X8_46 rfl dX8_rattles_135 ?_
                              refine lv_iload (pc := 138) hx hb dX8_rattles_138 (lv_at hl 0 rfl) ?_
                              refine z_iald (pc := 140) (f := ht2) (j := j) cx (hW.at 13 rfl) rfl (by omega) (by decide) dX8_rattles_140 ?_
                              refine lv_goto (pc := 141) (tgt := 145) hx hb dX8_rattles_141 (by decide) ?_
                              refine lv_ior (pc := 145) hx hb dX8_rattles_145 ?_
                              refine lv_istore (pc := 146) (lv' := [(8, .int ((orN (fdF ht2 m2) j) ||| (ht2 j))), (9, .int (nI j)), (7, .int (nI m2)), (6, .int (raS ht2 (iN (sz n)) m2)), (5, .int (orN ht2 (iN (sz n)))), (4, .int (wtT kp so sz el (nI n) 10)), (0, .ref (a 0)), (1, .int (nI n)), (2, .int st), (3, .int w)]) hx hb dX8_rattles_146 hl (by decide) rfl (fun ls hl => ?_)
                              refine lv_iinc (pc := 148) (v := nI (j + 1)) (lv' := [(9, .int (nI (j + 1))), (8, .int ((orN (fdF ht2 m2) j) ||| (ht2 j))), (7, .int (nI m2)), (6, .int (raS ht2 (iN (sz n)) m2)), (5, .int (orN ht2 (iN (sz n)))), (4, .int (wtT kp so sz el (nI n) 10)), (0, .ref (a 0)), (1, .int (nI n)), (2, .int st), (3, .int w)]) hx hb dX8_rattles_148 hl (k := 1) rfl (nI_1 _) (by decide) rfl (fun ls hl => ?_)
                              refine lv_goto (pc := 151) (tgt := 110) hx hb dX8_rattles_151 (by decide) ?_
                              exact ih_110 (j + 1) (nI (j + 1)) ((orN (fdF ht2 m2) j) ||| (ht2 j)) (by omega) (by omega) (by first | rfl | (simp [ratP, orN, fdF, bit, c_1, c_2, c_3, c_4, hN, c_12]; done)) (by first | rfl | (simp [ratP, orN, fdF, bit, c_1, c_2, c_3, c_4, hN, c_12]; done))  _ _  (hW) hS ls (lv_sub hl [0, 1, 2, 3, 4, 5, 6, 7, 8, 9] rfl)
                      exact loop_110 ((iN (sz n) - 0) + 1) 0 0 0 (Nat.lt_succ_self _) (by omega) (by first | rfl | (simp [ratP, orN, fdF, bit, c_1, c_2, c_3, c_4, hN]; done)) (by first | rfl | (simp [ratP, orN, fdF, bit, c_1, c_2, c_3, c_4, hN]; done))  _ _  (hW) hS ls (lv_sub hl [0, 1, 2, 3, 4, 5, 6, 7, 8, 9] rfl)
                exact loop_91 ((2 ^ iN (sz n) - 0) + 1) 0 0 (-4) (Nat.lt_succ_self _) (Nat.zero_le _) (by first | rfl | (simp [ratP, orN, fdF, bit, c_1, c_2, c_3, c_4, hN]; done)) (by first | rfl | (simp [ratP, orN, fdF, bit, c_1, c_2, c_3, c_4, hN]; done))  _ _  (hW) hS ls (lv_sub hl [0, 1, 2, 3, 4, 5, 6, 7] rfl)
              · skip
                have hlt_i := lt_nat (a := i) rfl hz.1 (by omega) (by omega) c_5
                refine lv_iload (pc := 66) hx hb dX8_rattles_66 (lv_at hl 1 rfl) ?_
                refine lv_aload_n (pc := 68) hx hb dX8_rattles_68 rfl (lv_at hl 3 rfl) ?_
                refine z_getM (pc := 69) cx (hW.at 0 rfl) 19 rfl m_fl_X8_46 rfl dX8_rattles_69 ?_
                refine lv_iload (pc := 72) hx hb dX8_rattles_72 (lv_at hl 0 rfl) ?_
                refine z_iald (pc := 74) (f := ht2) (j := i) cx (hW.at 13 rfl) rfl (by omega) (by decide) dX8_rattles_74 ?_
                refine lv_ior (pc := 75) hx hb dX8_rattles_75 ?_
                refine lv_istore (pc := 76) (lv' := [(5, .int ((orN ht2 i) ||| (ht2 i))), (6, .int (nI i)), (4, .int (wtT kp so sz el (nI n) 10)), (0, .ref (a 0)), (1, .int (nI n)), (2, .int st), (3, .int w)]) hx hb dX8_rattles_76 hl (by decide) rfl (fun ls hl => ?_)
                refine lv_iinc (pc := 78) (v := nI (i + 1)) (lv' := [(6, .int (nI (i + 1))), (5, .int ((orN ht2 i) ||| (ht2 i))), (4, .int (wtT kp so sz el (nI n) 10)), (0, .ref (a 0)), (1, .int (nI n)), (2, .int st), (3, .int w)]) hx hb dX8_rattles_78 hl (k := 1) rfl (nI_1 _) (by decide) rfl (fun ls hl => ?_)
                refine lv_goto (pc := 81) (tgt := 55) hx hb dX8_rattles_81 (by decide) ?_
                exact ih_55 (i + 1) (nI (i + 1)) ((orN ht2 i) ||| (ht2 i)) (by omega) (by omega) (by first | rfl | (simp [ratP, orN, fdF, bit, c_1, c_2, c_3, c_4, hN]; done)) (by first | rfl | (simp [ratP, orN, fdF, bit, c_1, c_2, c_3, c_4, hN]; done))  _ _  (hW) hS ls (lv_sub hl [0, 1, 2, 3, 4, 5, 6] rfl)
          exact loop_55 ((iN (sz n) - 0) + 1) 0 0 0 (Nat.lt_succ_self _) (by omega) (by first | rfl | (simp [ratP, orN, fdF, bit, c_1, c_2, c_3, c_4, hN]; done)) (by first | rfl | (simp [ratP, orN, fdF, bit, c_1, c_2, c_3, c_4, hN]; done))  _ _  (hW) hS ls (lv_sub hl [0, 1, 2, 3, 4, 5, 6] rfl)
        · skip
          refine lv_iload (pc := 40) hx hb dX8_rattles_40 (lv_at hl 0 rfl) ?_
          exact z_wiret cx hr hlk dX8_rattles_42 hS ⟨_, (sI (by first | rfl | (simp [ratP, orN, fdF, bit, c_1, c_2, c_3, c_4]; done))), hW⟩
      · skip
        refine lv_iconst (pc := 24) (v := (-1)) hx hb dX8_rattles_24 (by decide) ?_
        exact z_wiret cx hr hlk dX8_rattles_25 hS ⟨_, (sI (by first | rfl | (simp [ratP, orN, fdF, bit, c_1, c_2, c_3]; done))), hW⟩
theorem k_X8_rattles {p : Program} {l : Launch} {e : Env} {R : Room} {s : State} {m : MethodId} {args : Array Value} {below : List Frame} {meth : Method} {c : Code} {H H0 : Heap} {locs : List Loc} {cells slots : Nat} {Q : State → Prop} {cc : ByteArray} {pc index : Nat} {ls : Array Slot} {rest st0 : List Value} {E : zE} {own : String} {nL : Nat} {F : Nat → Prop} {a : Nat → Nat} {sv im rd wa kp so sz el pr ts nu bu ht : Nat → Int32} {th po ba en td : Int32} {ig : Bool} {ij : Bool} {d st w : Int32} (cx : Cx E p s args m c own cc nL) (hW : WW E (wM a (E.2.1 0) sv im rd wa kp so sz el pr ts nu bu ht (bI ig) th po ba en td (bI ij)) gN H) (hS : va_S F H0 H locs) (zF : ∀ q, (mF a) q → F q) (hI : Inv sv) (hR : InvR kp so sz) (zl : Cond.methodLink own index yX8_rattles ∈ AllW) (zR : 20 + 1 ≤ R.frames ∧ 8 + (10 + 11) + 570 ≤ R.locals) (zs : ls.size = nL) (zt : st0 = ([.int d, .int st, .int w] : List Value).reverse ++ .ref (a 0) :: rest) (z8 : (rest.map fun v => v.category).sum ≤ 8) (zd : decode cc pc = .ok (.invokevirtual index, 3)) (zf : cells ≤ R.cells ∧ slots ≤ R.slots) (kk0 : ∀ (ht2 : Nat → Int32) (H1 : Heap) (locs1 : List Loc), WW E (wM a (E.2.1 0) sv im rd wa kp so sz el pr ts nu bu ht2 (bI ig) th po ba en td (bI ij)) gN H1 → va_S F H0 H1 locs1 → W p l e R s m args below meth c H1 locs1 cells slots Q (F0 m (pc + 3) ls (.int (ratP sv kp so sz el d st w) :: rest))) : W p l e R s m args below meth c H locs cells slots Q (F0 m pc ls st0) := by
  refine z_callVw cx vm_X8_rattles (c_X8_rattles l E a sv im rd wa kp so sz el pr ts nu bu ht th po ba en td ig ij d st w hI hR) (z_rec cx.2 (hW.at 0 rfl) rfl) hW hS zF zl ⟨rfl, rfl⟩ zR rfl zs zt z8 zd zf (fun v H1 locs1 hq hS1 _ => ?_)
  rcases hq with ⟨ht2, rfl, hW1⟩
  · exact kk0 ht2 H1 locs1  hW1 hS1
theorem vm_X8_ends : zVm yX8_ends cX8_ends 6 (some FieldType.int) 1 := ⟨m_co_X8_ends, m_in_RX8, ⟨m_im_X8_ends, m_se_X8_X8_ends⟩, by decide +kernel, by decide +kernel, by decide +kernel⟩
set_option maxHeartbeats 1000000 in
set_option maxRecDepth 100000 in
theorem c_X8_ends (l : Launch) (E : zE) (a : Nat → Nat) (sv im rd wa kp so sz el pr ts nu bu ht : Nat → Int32) (th po ba en td : Int32) (ig : Bool) (ij : Bool) (w : Int32) (hI : Inv sv) : Met l yX8_ends (.code yX8_ends cX8_ends 6 (some FieldType.int) :: AllW) (rm0' 5 112) (zP E (fun H => WW E (wM a (E.2.1 0) sv im rd wa kp so sz el pr ts nu bu ht (bI ig) th po ba en td (bI ij)) gN H) [.ref (a 0), .int w]) (zQ (fun (_ : Heap) (v : Option Value) (H1 : Heap) => (v = some (.int (endsP sv w)) ∧ WW E (wM a (E.2.1 0) sv im rd wa kp so sz el pr ts nu bu ht (bI ig) th po ba en td (bI ij)) gN H1)) (mF a)) 0 0 (mF a) := by
  refine z_body (own := RX8) (by decide) rfl rfl ?_
  intro p e s m args below meth c ls cx hr hlk hnm hW hl
  have hx := cx.x
  have hb := cx.b
  have hl : lv_has ls 6 [(0, .ref (a 0)), (1, .int w)] := hl
  have hS : va_S (mF a) s.heap s.heap [] := va_S.rf
  have hC := hI.1
  have hP10 := (Inv.n0 hC).2
  have hT7 := (Inv.n1 hC).2
  have hA24 := (Inv.n2 hC).2
  refine lv_iload_n (pc := 0) hx hb dX8_ends_0 rfl (lv_at hl 1 rfl) ?_
  refine lv_i2l (pc := 1) (v := Int32.toInt64 w) hx hb dX8_ends_1 rfl ?_
  refine lv_lconst (pc := 2) (v := 0) hx hb dX8_ends_2 rfl ?_
  refine lv_lconst (pc := 3) (v := 1) hx hb dX8_ends_3 rfl ?_
  refine k_X8_isIn (pc := 4) (x := w) (y := 0) (z := 1) cx  m_ml_X8_53 ⟨Nat.le_of_ble_eq_true rfl, Nat.le_of_ble_eq_true rfl⟩ hl.1 rfl (by simp [Value.category]) dX8_ends_4 ⟨Nat.le_refl _, Nat.le_refl _⟩ ?_
  refine z_ifne (pc := 7) (tgt := 12) hx hb dX8_ends_7 (by decide) (fun c_1 => ?_) (fun c_1 => ?_)
  · skip
    refine lv_aload_n (pc := 12) hx hb dX8_ends_12 rfl (lv_at hl 0 rfl) ?_
    refine z_getM (pc := 13) cx (hW.at 0 rfl) 0 rfl m_fl_X8_9 rfl dX8_ends_13 ?_
    refine lv_iconst (pc := 16) (v := 0) hx hb dX8_ends_16 (by decide) ?_
    refine z_iald (pc := 17) (f := sv) (j := 0) cx (hW.at 1 rfl) rfl (by decide) (by decide) dX8_ends_17 ?_
    refine lv_if_ne (pc := 18) (tgt := 24) hx hb dX8_ends_18 (by decide) (fun c_2 => ?_) (fun c_2 => ?_)
    · skip
      have hEp : endsP sv w = enA sv w 21 0 := by simp [endsP, c_1, c_2]
      refine lv_iconst (pc := 24) (v := 0) hx hb dX8_ends_24 (by decide) ?_
      refine lv_istore_n (pc := 25) (lv' := [(2, .int 0), (0, .ref (a 0)), (1, .int w)]) hx hb dX8_ends_25 rfl hl (by decide) rfl (fun ls hl => ?_)
      have loop_26 : ∀ (k_26 : Nat) (q : Nat) (x2 : Int32), (21 - q) < k_26 → (q ≤ 21) → (enA sv w 21 0 = enA sv w (21 - q) q) → x2 = nI q → ∀ (H : Heap) (locs : List Loc), WW E (wM a (E.2.1 0) sv im rd wa kp so sz el pr ts nu bu ht (bI ig) th po ba en td (bI ij)) gN H → va_S (mF a) s.heap H locs → ∀ (ls : Array Slot), lv_has ls 6 [(2, .int x2), (0, .ref (a 0)), (1, .int w)] → W p l e (rm0' (5) (112)) s m args below meth c H locs 0 0 (MQ below (zQ (fun (_ : Heap) (v : Option Value) (H1 : Heap) => (v = some (.int (endsP sv w)) ∧ WW E (wM a (E.2.1 0) sv im rd wa kp so sz el pr ts nu bu ht (bI ig) th po ba en td (bI ij)) gN H1)) (mF a)) args s 0 0 (mF a)) (F0 m 26 ls []) := by
        intro k_26
        induction k_26 with
        | zero =>
          intro q x2 hm
          exact absurd hm (Nat.not_lt_zero _)
        | succ k_26 ih_26 =>
          intro q x2 hm_26 hq hE e_x2  H locs  hW hS ls hl
          subst e_x2
          refine lv_iload_n (pc := 26) hx hb dX8_ends_26 rfl (lv_at hl 0 rfl) ?_
          refine lv_bipush (pc := 27) (v := 20) hx hb dX8_ends_27 (by decide) ?_
          refine lv_icmp_gt (pc := 29) (tgt := 110) hx hb dX8_ends_29 (by decide) (fun c_3 => ?_) (fun c_3 => ?_)
          · skip
            have hq20 := gtn (a := 20) (b := q) rfl rfl (by omega) (by omega) c_3
            refine lv_bipush (pc := 110) (v := (-4)) hx hb dX8_ends_110 (by decide) ?_
            exact z_wiret cx hr hlk dX8_ends_112 hS ⟨(sI (by rw [hEp, hE, show 21 - q = 0 by omega]; simp [c_1, c_2, enA])), hW⟩
          · skip
            have hq20 := ngt (a := 20) (b := q) rfl rfl (by omega) (by omega) c_3
            refine lv_iconst (pc := 32) (v := 0) hx hb dX8_ends_32 (by decide) ?_
            refine lv_istore_n (pc := 33) (lv' := [(3, .int 0), (2, .int (nI q)), (0, .ref (a 0)), (1, .int w)]) hx hb dX8_ends_33 rfl hl (by decide) rfl (fun ls hl => ?_)
            have loop_34 : ∀ (k_34 : Nat) (j : Nat) (x3 : Int32), (nP sv - j) < k_34 → (j ≤ nP sv) → (fstN (enT sv q) (nP sv) 0 = fstN (enT sv q) (nP sv - j) j) → x3 = nI j → ∀ (H : Heap) (locs : List Loc), WW E (wM a (E.2.1 0) sv im rd wa kp so sz el pr ts nu bu ht (bI ig) th po ba en td (bI ij)) gN H → va_S (mF a) s.heap H locs → ∀ (ls : Array Slot), lv_has ls 6 [(3, .int x3), (2, .int (nI q)), (0, .ref (a 0)), (1, .int w)] → W p l e (rm0' (5) (112)) s m args below meth c H locs 0 0 (MQ below (zQ (fun (_ : Heap) (v : Option Value) (H1 : Heap) => (v = some (.int (endsP sv w)) ∧ WW E (wM a (E.2.1 0) sv im rd wa kp so sz el pr ts nu bu ht (bI ig) th po ba en td (bI ij)) gN H1)) (mF a)) args s 0 0 (mF a)) (F0 m 34 ls []) := by
              intro k_34
              induction k_34 with
              | zero =>
                intro j x3 hm
                exact absurd hm (Nat.not_lt_zero _)
              | succ k_34 ih_34 =>
                intro j x3 hm_34 hj hG e_x3  H locs  hW hS ls hl
                subst e_x3
                refine lv_iload_n (pc := 34) hx hb dX8_ends_34 rfl (lv_at hl 0 rfl) ?_
                refine lv_aload_n (pc := 35) hx hb dX8_ends_35 rfl (lv_at hl 2 rfl) ?_
                refine z_getM (pc := 36) cx (hW.at 0 rfl) 0 rfl m_fl_X8_9 rfl dX8_ends_36 ?_
                refine lv_iconst (pc := 39) (v := 0) hx hb dX8_ends_39 (by decide) ?_
                refine z_iald (pc := 40) (f := sv) (j := 0) cx (hW.at 1 rfl) rfl (by decide) (by decide) dX8_ends_40 ?_
                refine lv_icmp_ge (pc := 41) (tgt := 104) hx hb dX8_ends_41 (by decide) (fun c_4 => ?_) (fun c_4 => ?_)
                · skip
                  obtain rfl : j = nP sv := by have := ge_nat (a := j) rfl (Inv.n0 hC).1 (by omega) (by omega) c_4; omega
                  refine lv_iinc (pc := 104) (v := nI (q + 1)) (lv' := [(2, .int (nI (q + 1))), (3, .int (nI (nP sv))), (0, .ref (a 0)), (1, .int w)]) hx hb dX8_ends_104 hl (k := 1) rfl (nI_1 _) (by decide) rfl (fun ls hl => ?_)
                  refine lv_goto (pc := 107) (tgt := 26) hx hb dX8_ends_107 (by decide) ?_
                  exact ih_26 (q + 1) (nI (q + 1)) (by omega) (by omega) (by rw [hE, enA_miss (by rw [hG, Nat.sub_self]; rfl) (by omega)]; congr 1) (by first | rfl | (simp [endsP, c_1, c_2]; done))  _ _  (hW) hS ls (lv_sub hl [0, 2, 3] rfl)
                · skip
                  have hlt_j := lt_nat (a := j) rfl (Inv.n0 hC).1 (by omega) (by omega) c_4
                  refine lv_aload_n (pc := 44) hx hb dX8_ends_44 rfl (lv_at hl 2 rfl) ?_
                  refine lv_bipush (pc := 45) (v := 8) hx hb dX8_ends_45 (by decide) ?_
                  refine lv_bipush (pc := 47) (v := 6) hx hb dX8_ends_47 (by decide) ?_
                  refine lv_iload_n (pc := 49) hx hb dX8_ends_49 rfl (lv_at hl 0 rfl) ?_
                  refine lv_imul (pc := 50) hx hb dX8_ends_50 ?_
                  refine lv_iadd (pc := 51) hx hb dX8_ends_51 ?_
                  refine lv_iconst (pc := 52) (v := 5) hx hb dX8_ends_52 (by decide) ?_
                  refine lv_iadd (pc := 53) hx hb dX8_ends_53 ?_
                  refine z_tope (y := nI (8 + 6 * j + 5)) (ix_65 j) ?_
                  refine lv_iload_n (pc := 54) hx hb dX8_ends_54 rfl (lv_at hl 1 rfl) ?_
                  refine k_X8_becomes (pc := 55) (k := 8 + 6 * j + 5) (x := nI q) cx hW hS (fun _ h => h) (by omega) m_ml_X8_153 ⟨Nat.le_of_ble_eq_true rfl, Nat.le_of_ble_eq_true rfl⟩ hl.1 rfl (by simp [Value.category]) dX8_ends_55 ⟨Nat.le_refl _, Nat.le_refl _⟩ (fun  H locs  hW hS => ?_)
                  have hW : WW E (wM a (E.2.1 0) (upd sv (8 + 6 * j + 5) (nI q)) im rd wa kp so sz el pr ts nu bu ht (bI ig) th po ba en td (bI ij)) gN H := hW
                  refine lv_istore (pc := 58) (lv' := [(4, .int (sv (8 + 6 * j + 5))), (3, .int (nI j)), (2, .int (nI q)), (0, .ref (a 0)), (1, .int w)]) hx hb dX8_ends_58 hl (by decide) rfl (fun ls hl => ?_)
                  have hI2 := Inv_wx hI (n := j) (d := nI q) (by omega) (rgN (by omega) (by omega) (by omega))
                  refine lv_aload_n (pc := 60) hx hb dX8_ends_60 rfl (lv_at hl 3 rfl) ?_
                  refine lv_iconst (pc := 61) (v := (-1)) hx hb dX8_ends_61 (by decide) ?_
                  refine k_X8_wolfOf (pc := 62) (x := (-1)) cx hW hI2 m_ml_X8_248 ⟨Nat.le_of_ble_eq_true rfl, Nat.le_of_ble_eq_true rfl⟩ hl.1 rfl (by simp [Value.category]) dX8_ends_62 ⟨Nat.le_refl _, Nat.le_refl _⟩ ?_
                  refine lv_istore (pc := 65) (lv' := [(5, .int (wfO (upd sv (8 + 6 * j + 5) (nI q)) (-1))), (4, .int (sv (8 + 6 * j + 5))), (3, .int (nI j)), (2, .int (nI q)), (0, .ref (a 0)), (1, .int w)]) hx hb dX8_ends_65 hl (by decide) rfl (fun ls hl => ?_)
                  refine lv_aload_n (pc := 67) hx hb dX8_ends_67 rfl (lv_at hl 4 rfl) ?_
                  refine z_getM (pc := 68) cx (hW.at 0 rfl) 0 rfl m_fl_X8_9 rfl dX8_ends_68 ?_
                  refine lv_bipush (pc := 71) (v := 8) hx hb dX8_ends_71 (by decide) ?_
                  refine lv_bipush (pc := 73) (v := 6) hx hb dX8_ends_73 (by decide) ?_
                  refine lv_iload_n (pc := 75) hx hb dX8_ends_75 rfl (lv_at hl 2 rfl) ?_
                  refine lv_imul (pc := 76) hx hb dX8_ends_76 ?_
                  refine lv_iadd (pc := 77) hx hb dX8_ends_77 ?_
                  refine lv_iconst (pc := 78) (v := 5) hx hb dX8_ends_78 (by decide) ?_
                  refine lv_iadd (pc := 79) hx hb dX8_ends_79 ?_
                  refine lv_iload (pc := 80) hx hb dX8_ends_80 (lv_at hl 1 rfl) ?_
                  refine z_iast (pc := 82) (f := upd sv (8 + 6 * j + 5) (nI q)) (j := 8 + 6 * j + 5) cx hW hS 1 rfl (mF_in a 1) (ix_65 j) (by omega) (by decide) dX8_ends_82 (fun H locs hW hS => ?_)
                  have hW : WW E (wM a (E.2.1 0) (upd (upd sv (8 + 6 * j + 5) (nI q)) (8 + 6 * j + 5) (sv (8 + 6 * j + 5))) im rd wa kp so sz el pr ts nu bu ht (bI ig) th po ba en td (bI ij)) gN H := hW
                  rw [upd_back sv (8 + 6 * j + 5) (nI q)] at hW
                  have hW : WW E (wM a (E.2.1 0) sv im rd wa kp so sz el pr ts nu bu ht (bI ig) th po ba en td (bI ij)) gN H := hW
                  refine lv_iload (pc := 83) hx hb dX8_ends_83 (lv_at hl 0 rfl) ?_
                  refine lv_if_ne (pc := 85) (tgt := 98) hx hb dX8_ends_85 (by decide) (fun c_5 => ?_) (fun c_5 => ?_)
                  · skip
                    have hT : enT sv q j = false := by unfold enT; exact decide_eq_false c_5
                    refine lv_iinc (pc := 98) (v := nI (j + 1)) (lv' := [(3, .int (nI (j + 1))), (5, .int (wfO (upd sv (8 + 6 * j + 5) (nI q)) (-1))), (4, .int (sv (8 + 6 * j + 5))), (2, .int (nI q)), (0, .ref (a 0)), (1, .int w)]) hx hb dX8_ends_98 hl (k := 2) rfl (nI_1 _) (by decide) rfl (fun ls hl => ?_)
                    refine lv_goto (pc := 101) (tgt := 34) hx hb dX8_ends_101 (by decide) ?_
                    exact ih_34 (j + 1) (nI (j + 1)) (by omega) (by omega) (by rw [hG, fstN_miss hT (by omega)]; congr 1) (by first | rfl | (simp [endsP, c_1, c_2, c_5]; done))  _ _  (hW) hS ls (lv_sub hl [0, 3, 4, 5] rfl)
                  · skip
                    have hT : enT sv q j = true := by unfold enT; exact decide_eq_true c_5
                    have hF : fstN (enT sv q) (nP sv) 0 = some j := by rw [hG]; exact fstN_hit hT (by omega)
                    refine lv_iload_n (pc := 88) hx hb dX8_ends_88 rfl (lv_at hl 5 rfl) ?_
                    refine lv_if_ne (pc := 89) (tgt := 96) hx hb dX8_ends_89 (by decide) (fun c_6 => ?_) (fun c_6 => ?_)
                    · skip
                      refine lv_iload_n (pc := 96) hx hb dX8_ends_96 rfl (lv_at hl 2 rfl) ?_
                      exact z_wiret cx hr hlk dX8_ends_97 hS ⟨(sI (by rw [hEp, hE, enA_hit hF (by omega)]; simp [c_1, c_2, c_5, c_6])), hW⟩
                    · skip
                      refine lv_iload_n (pc := 92) hx hb dX8_ends_92 rfl (lv_at hl 3 rfl) ?_
                      refine lv_goto (pc := 93) (tgt := 97) hx hb dX8_ends_93 (by decide) ?_
                      exact z_wiret cx hr hlk dX8_ends_97 hS ⟨(sI (by rw [hEp, hE, enA_hit hF (by omega)]; simp [c_1, c_2, c_5, c_6])), hW⟩
            exact loop_34 ((nP sv - 0) + 1) 0 0 (Nat.lt_succ_self _) (by omega) rfl (by first | rfl | (simp [endsP, c_1, c_2]; done))  _ _  (hW) hS ls (lv_sub hl [0, 1, 2, 3] rfl)
      exact loop_26 ((21 - 0) + 1) 0 0 (Nat.lt_succ_self _) (by omega) rfl (by first | rfl | (simp [endsP, c_1, c_2]; done))  _ _  (hW) hS ls (lv_sub hl [0, 1, 2] rfl)
    · skip
      refine lv_bipush (pc := 21) (v := (-3)) hx hb dX8_ends_21 (by decide) ?_
      exact z_wiret cx hr hlk dX8_ends_23 hS ⟨(sI (by first | rfl | (simp [endsP, c_1, c_2]; done))), hW⟩
  · skip
    refine lv_iconst (pc := 10) (v := (-1)) hx hb dX8_ends_10 (by decide) ?_
    exact z_wiret cx hr hlk dX8_ends_11 hS ⟨(sI (by first | rfl | (simp [endsP, c_1]; done))), hW⟩
theorem k_X8_ends {p : Program} {l : Launch} {e : Env} {R : Room} {s : State} {m : MethodId} {args : Array Value} {below : List Frame} {meth : Method} {c : Code} {H H0 : Heap} {locs : List Loc} {cells slots : Nat} {Q : State → Prop} {cc : ByteArray} {pc index : Nat} {ls : Array Slot} {rest st0 : List Value} {E : zE} {own : String} {nL : Nat} {F : Nat → Prop} {a : Nat → Nat} {sv im rd wa kp so sz el pr ts nu bu ht : Nat → Int32} {th po ba en td : Int32} {ig : Bool} {ij : Bool} {w : Int32} (cx : Cx E p s args m c own cc nL) (hW : WW E (wM a (E.2.1 0) sv im rd wa kp so sz el pr ts nu bu ht (bI ig) th po ba en td (bI ij)) gN H) (hS : va_S F H0 H locs) (zF : ∀ q, (mF a) q → F q) (hI : Inv sv) (zl : Cond.methodLink own index yX8_ends ∈ AllW) (zR : 5 + 1 ≤ R.frames ∧ 8 + (6 + 11) + 112 ≤ R.locals) (zs : ls.size = nL) (zt : st0 = ([.int w] : List Value).reverse ++ .ref (a 0) :: rest) (z8 : (rest.map fun v => v.category).sum ≤ 8) (zd : decode cc pc = .ok (.invokevirtual index, 3)) (zf : cells ≤ R.cells ∧ slots ≤ R.slots) (kk0 : ∀  (H1 : Heap) (locs1 : List Loc), WW E (wM a (E.2.1 0) sv im rd wa kp so sz el pr ts nu bu ht (bI ig) th po ba en td (bI ij)) gN H1 → va_S F H0 H1 locs1 → W p l e R s m args below meth c H1 locs1 cells slots Q (F0 m (pc + 3) ls (.int (endsP sv w) :: rest))) : W p l e R s m args below meth c H locs cells slots Q (F0 m pc ls st0) := by
  refine z_callVw cx vm_X8_ends (c_X8_ends l E a sv im rd wa kp so sz el pr ts nu bu ht th po ba en td ig ij w hI) (z_rec cx.2 (hW.at 0 rfl) rfl) hW hS zF zl ⟨rfl, rfl⟩ zR rfl zs zt z8 zd zf (fun v H1 locs1 hq hS1 _ => ?_)
  rcases hq with ⟨rfl, hW1⟩
  · exact kk0  H1 locs1  hW1 hS1
theorem vm_X8_copy : zVm yX8_copy cX8_copy 8 (some FieldType.int) 5 := ⟨m_co_X8_copy, m_in_RX8, ⟨m_im_X8_copy, m_se_X8_X8_copy⟩, by decide +kernel, by decide +kernel, by decide +kernel⟩
set_option maxHeartbeats 1000000 in
set_option maxRecDepth 100000 in
theorem c_X8_copy (l : Launch) (E : zE) (a : Nat → Nat) (sv im rd wa kp so sz el pr ts nu bu ht : Nat → Int32) (th po ba en td : Int32) (ig : Bool) (ij : Bool) (d x f y n2 : Int32) (hR : InvR kp so sz) : Met l yX8_copy (.code yX8_copy cX8_copy 8 (some FieldType.int) :: AllW) (rm0' 2 45) (zP E (fun H => WW E (wM a (E.2.1 0) sv im rd wa kp so sz el pr ts nu bu ht (bI ig) th po ba en td (bI ij)) gN H) [.ref (a 0), .int d, .int x, .int f, .int y, .int n2]) (zQ (fun (_ : Heap) (v : Option Value) (H1 : Heap) => (v = some (.int (copyR kp so sz d x f y n2)) ∧ WW E (wM a (E.2.1 0) sv im rd wa kp so sz (copyE kp so sz el d x f y n2) pr ts nu bu ht (bI ig) th po ba en td (bI ij)) gN H1)) (mF a)) 0 0 (mF a) := by
  refine z_body (own := RX8) (by decide) rfl rfl ?_
  intro p e s m args below meth c ls cx hr hlk hnm hW hl
  have hx := cx.x
  have hb := cx.b
  have hl : lv_has ls 8 [(0, .ref (a 0)), (1, .int d), (2, .int x), (3, .int f), (4, .int y), (5, .int n2)] := hl
  have hS : va_S (mF a) s.heap s.heap [] := va_S.rf
  refine lv_iload_n (pc := 0) hx hb dX8_copy_0 rfl (lv_at hl 1 rfl) ?_
  refine k_X8_isShelf (pc := 1) (x := d) cx  m_ml_X8_111 ⟨Nat.le_of_ble_eq_true rfl, Nat.le_of_ble_eq_true rfl⟩ hl.1 rfl (by simp [Value.category]) dX8_copy_1 ⟨Nat.le_refl _, Nat.le_refl _⟩ ?_
  refine z_ifeq (pc := 4) (tgt := 14) hx hb dX8_copy_4 (by decide) (fun c_1 => ?_) (fun c_1 => ?_)
  · skip
    refine lv_iconst (pc := 14) (v := (-1)) hx hb dX8_copy_14 (by decide) ?_
    exact z_wiret cx hr hlk dX8_copy_15 hS ⟨(sI (by first | rfl | (simp [copyR, c_1]; done))), (by rw [show (copyE kp so sz el d x f y n2) = el from (by first | rfl | (simp [copyR, copyE, mvE_n, c_1]; done))]; exact hW)⟩
  · skip
    refine lv_iload_n (pc := 7) hx hb dX8_copy_7 rfl (lv_at hl 3 rfl) ?_
    refine k_X8_isShelf (pc := 8) (x := f) cx  m_ml_X8_111 ⟨Nat.le_of_ble_eq_true rfl, Nat.le_of_ble_eq_true rfl⟩ hl.1 rfl (by simp [Value.category]) dX8_copy_8 ⟨Nat.le_refl _, Nat.le_refl _⟩ ?_
    refine z_ifne (pc := 11) (tgt := 16) hx hb dX8_copy_11 (by decide) (fun c_2 => ?_) (fun c_2 => ?_)
    · skip
      obtain ⟨d1, hd1, rfl⟩ := shelf_nat c_1
      obtain ⟨f1, hf1, rfl⟩ := shelf_nat c_2
      have hD := iN_nI (n := d1) (by omega)
      have hF := iN_nI (n := f1) (by omega)
      have hzd := sz_nat hR hd1
      have hzf := sz_nat hR hf1
      refine lv_aload_n (pc := 16) hx hb dX8_copy_16 rfl (lv_at hl 0 rfl) ?_
      refine z_getM (pc := 17) cx (hW.at 0 rfl) 4 rfl m_fl_X8_22 rfl dX8_copy_17 ?_
      refine lv_iload_n (pc := 20) hx hb dX8_copy_20 rfl (lv_at hl 1 rfl) ?_
      refine z_iald (pc := 21) (f := kp) (j := d1) cx (hW.at 5 rfl) rfl (by omega) (by decide) dX8_copy_21 ?_
      refine lv_if_eq (pc := 22) (tgt := 34) hx hb dX8_copy_22 (by decide) (fun c_3 => ?_) (fun c_3 => ?_)
      · skip
        refine lv_bipush (pc := 34) (v := (-11)) hx hb dX8_copy_34 (by decide) ?_
        exact z_wiret cx hr hlk dX8_copy_36 hS ⟨(sI (by first | rfl | (simp [copyR, c_1, c_2, hD, hF, c_3]; done))), (by rw [show (copyE kp so sz el (nI d1) x (nI f1) y n2) = el from (by first | rfl | (simp [copyR, copyE, mvE_n, c_1, c_2, hD, hF, c_3]; done))]; exact hW)⟩
      · skip
        refine lv_aload_n (pc := 25) hx hb dX8_copy_25 rfl (lv_at hl 0 rfl) ?_
        refine z_getM (pc := 26) cx (hW.at 0 rfl) 4 rfl m_fl_X8_22 rfl dX8_copy_26 ?_
        refine lv_iload_n (pc := 29) hx hb dX8_copy_29 rfl (lv_at hl 3 rfl) ?_
        refine z_iald (pc := 30) (f := kp) (j := f1) cx (hW.at 5 rfl) rfl (by omega) (by decide) dX8_copy_30 ?_
        refine lv_if_ne (pc := 31) (tgt := 37) hx hb dX8_copy_31 (by decide) (fun c_4 => ?_) (fun c_4 => ?_)
        · skip
          refine lv_aload_n (pc := 37) hx hb dX8_copy_37 rfl (lv_at hl 0 rfl) ?_
          refine z_getM (pc := 38) cx (hW.at 0 rfl) 4 rfl m_fl_X8_22 rfl dX8_copy_38 ?_
          refine lv_iload_n (pc := 41) hx hb dX8_copy_41 rfl (lv_at hl 1 rfl) ?_
          refine z_iald (pc := 42) (f := kp) (j := d1) cx (hW.at 5 rfl) rfl (by omega) (by decide) dX8_copy_42 ?_
          refine lv_iconst (pc := 43) (v := 2) hx hb dX8_copy_43 (by decide) ?_
          refine lv_icmp_ne (pc := 44) (tgt := 72) hx hb dX8_copy_44 (by decide) (fun c_5 => ?_) (fun c_5 => ?_)
          · skip
            refine lv_bipush (pc := 72) (v := (-12)) hx hb dX8_copy_72 (by decide) ?_
            exact z_wiret cx hr hlk dX8_copy_74 hS ⟨(sI (by first | rfl | (simp [copyR, c_1, c_2, hD, hF, c_3, c_4, c_5]; done))), (by rw [show (copyE kp so sz el (nI d1) x (nI f1) y n2) = el from (by first | rfl | (simp [copyR, copyE, mvE_n, c_1, c_2, hD, hF, c_3, c_4, c_5]; done))]; exact hW)⟩
          · skip
            refine lv_aload_n (pc := 47) hx hb dX8_copy_47 rfl (lv_at hl 0 rfl) ?_
            refine z_getM (pc := 48) cx (hW.at 0 rfl) 4 rfl m_fl_X8_22 rfl dX8_copy_48 ?_
            refine lv_iload_n (pc := 51) hx hb dX8_copy_51 rfl (lv_at hl 3 rfl) ?_
            refine z_iald (pc := 52) (f := kp) (j := f1) cx (hW.at 5 rfl) rfl (by omega) (by decide) dX8_copy_52 ?_
            refine lv_iconst (pc := 53) (v := 2) hx hb dX8_copy_53 (by decide) ?_
            refine lv_icmp_ne (pc := 54) (tgt := 72) hx hb dX8_copy_54 (by decide) (fun c_6 => ?_) (fun c_6 => ?_)
            · skip
              refine lv_bipush (pc := 72) (v := (-12)) hx hb dX8_copy_72 (by decide) ?_
              exact z_wiret cx hr hlk dX8_copy_74 hS ⟨(sI (by first | rfl | (simp [copyR, c_1, c_2, hD, hF, c_3, c_4, c_5, c_6]; done))), (by rw [show (copyE kp so sz el (nI d1) x (nI f1) y n2) = el from (by first | rfl | (simp [copyR, copyE, mvE_n, c_1, c_2, hD, hF, c_3, c_4, c_5, c_6]; done))]; exact hW)⟩
            · skip
              refine lv_aload_n (pc := 57) hx hb dX8_copy_57 rfl (lv_at hl 0 rfl) ?_
              refine z_getM (pc := 58) cx (hW.at 0 rfl) 5 rfl m_fl_X8_25 rfl dX8_copy_58 ?_
              refine lv_iload_n (pc := 61) hx hb dX8_copy_61 rfl (lv_at hl 1 rfl) ?_
              refine z_iald (pc := 62) (f := so) (j := d1) cx (hW.at 6 rfl) rfl (by omega) (by decide) dX8_copy_62 ?_
              refine lv_aload_n (pc := 63) hx hb dX8_copy_63 rfl (lv_at hl 0 rfl) ?_
              refine z_getM (pc := 64) cx (hW.at 0 rfl) 5 rfl m_fl_X8_25 rfl dX8_copy_64 ?_
              refine lv_iload_n (pc := 67) hx hb dX8_copy_67 rfl (lv_at hl 3 rfl) ?_
              refine z_iald (pc := 68) (f := so) (j := f1) cx (hW.at 6 rfl) rfl (by omega) (by decide) dX8_copy_68 ?_
              refine lv_icmp_eq (pc := 69) (tgt := 75) hx hb dX8_copy_69 (by decide) (fun c_7 => ?_) (fun c_7 => ?_)
              · skip
                refine lv_iload (pc := 75) hx hb dX8_copy_75 (lv_at hl 5 rfl) ?_
                refine lv_if_lt (pc := 77) (tgt := 116) hx hb dX8_copy_77 (by decide) (fun c_8 => ?_) (fun c_8 => ?_)
                · skip
                  refine lv_bipush (pc := 116) (v := (-13)) hx hb dX8_copy_116 (by decide) ?_
                  exact z_wiret cx hr hlk dX8_copy_118 hS ⟨(sI (by first | rfl | (simp [copyR, c_1, c_2, hD, hF, c_3, c_4, c_5, c_6, c_7, c_8, i_nle.mpr c_8]; done))), (by rw [show (copyE kp so sz el (nI d1) x (nI f1) y n2) = el from (by first | rfl | (simp [copyR, copyE, mvE_n, c_1, c_2, hD, hF, c_3, c_4, c_5, c_6, c_7, c_8, i_nle.mpr c_8]; done))]; exact hW)⟩
                · skip
                  refine lv_iload_n (pc := 80) hx hb dX8_copy_80 rfl (lv_at hl 2 rfl) ?_
                  refine lv_if_lt (pc := 81) (tgt := 116) hx hb dX8_copy_81 (by decide) (fun c_9 => ?_) (fun c_9 => ?_)
                  · skip
                    refine lv_bipush (pc := 116) (v := (-13)) hx hb dX8_copy_116 (by decide) ?_
                    exact z_wiret cx hr hlk dX8_copy_118 hS ⟨(sI (by first | rfl | (simp [copyR, c_1, c_2, hD, hF, c_3, c_4, c_5, c_6, c_7, c_8, c_9, i_nlt.mp c_8, i_nle.mpr c_9]; done))), (by rw [show (copyE kp so sz el (nI d1) x (nI f1) y n2) = el from (by first | rfl | (simp [copyR, copyE, mvE_n, c_1, c_2, hD, hF, c_3, c_4, c_5, c_6, c_7, c_8, c_9, i_nlt.mp c_8, i_nle.mpr c_9]; done))]; exact hW)⟩
                  · skip
                    refine lv_iload (pc := 84) hx hb dX8_copy_84 (lv_at hl 4 rfl) ?_
                    refine lv_if_lt (pc := 86) (tgt := 116) hx hb dX8_copy_86 (by decide) (fun c_10 => ?_) (fun c_10 => ?_)
                    · skip
                      refine lv_bipush (pc := 116) (v := (-13)) hx hb dX8_copy_116 (by decide) ?_
                      exact z_wiret cx hr hlk dX8_copy_118 hS ⟨(sI (by first | rfl | (simp [copyR, c_1, c_2, hD, hF, c_3, c_4, c_5, c_6, c_7, c_8, c_9, c_10, i_nlt.mp c_8, i_nlt.mp c_9, i_nle.mpr c_10]; done))), (by rw [show (copyE kp so sz el (nI d1) x (nI f1) y n2) = el from (by first | rfl | (simp [copyR, copyE, mvE_n, c_1, c_2, hD, hF, c_3, c_4, c_5, c_6, c_7, c_8, c_9, c_10, i_nlt.mp c_8, i_nlt.mp c_9, i_nle.mpr c_10]; done))]; exact hW)⟩
                    · skip
                      refine lv_iload (pc := 89) hx hb dX8_copy_89 (lv_at hl 5 rfl) ?_
                      refine lv_aload_n (pc := 91) hx hb dX8_copy_91 rfl (lv_at hl 0 rfl) ?_
                      refine z_getM (pc := 92) cx (hW.at 0 rfl) 6 rfl m_fl_X8_28 rfl dX8_copy_92 ?_
                      refine lv_iload_n (pc := 95) hx hb dX8_copy_95 rfl (lv_at hl 1 rfl) ?_
                      refine z_iald (pc := 96) (f := sz) (j := d1) cx (hW.at 7 rfl) rfl (by omega) (by decide) dX8_copy_96 ?_
                      refine lv_iload_n (pc := 97) hx hb dX8_copy_97 rfl (lv_at hl 2 rfl) ?_
                      refine lv_isub (pc := 98) hx hb dX8_copy_98 ?_
                      refine lv_icmp_gt (pc := 99) (tgt := 116) hx hb dX8_copy_99 (by decide) (fun c_11 => ?_) (fun c_11 => ?_)
                      · skip
                        refine lv_bipush (pc := 116) (v := (-13)) hx hb dX8_copy_116 (by decide) ?_
                        exact z_wiret cx hr hlk dX8_copy_118 hS ⟨(sI (by first | rfl | (simp [copyR, c_1, c_2, hD, hF, c_3, c_4, c_5, c_6, c_7, c_8, c_9, c_10, c_11, i_nlt.mp c_8, i_nlt.mp c_9, i_nlt.mp c_10, i_nle.mpr c_11]; done))), (by rw [show (copyE kp so sz el (nI d1) x (nI f1) y n2) = el from (by first | rfl | (simp [copyR, copyE, mvE_n, c_1, c_2, hD, hF, c_3, c_4, c_5, c_6, c_7, c_8, c_9, c_10, c_11, i_nlt.mp c_8, i_nlt.mp c_9, i_nlt.mp c_10, i_nle.mpr c_11]; done))]; exact hW)⟩
                      · skip
                        refine lv_iload (pc := 102) hx hb dX8_copy_102 (lv_at hl 5 rfl) ?_
                        refine lv_aload_n (pc := 104) hx hb dX8_copy_104 rfl (lv_at hl 0 rfl) ?_
                        refine z_getM (pc := 105) cx (hW.at 0 rfl) 6 rfl m_fl_X8_28 rfl dX8_copy_105 ?_
                        refine lv_iload_n (pc := 108) hx hb dX8_copy_108 rfl (lv_at hl 3 rfl) ?_
                        refine z_iald (pc := 109) (f := sz) (j := f1) cx (hW.at 7 rfl) rfl (by omega) (by decide) dX8_copy_109 ?_
                        refine lv_iload (pc := 110) hx hb dX8_copy_110 (lv_at hl 4 rfl) ?_
                        refine lv_isub (pc := 112) hx hb dX8_copy_112 ?_
                        refine lv_icmp_le (pc := 113) (tgt := 119) hx hb dX8_copy_113 (by decide) (fun c_12 => ?_) (fun c_12 => ?_)
                        · skip
                          obtain ⟨i3, n3, rfl, rfl, hin⟩ := cp_nat (x := x) (n := n2) hzd.1 hzd.2 (by assumption) (by assumption) (by assumption)
                          obtain ⟨j3, n4, rfl, hn4, hjn⟩ := cp_nat (x := y) hzf.1 hzf.2 (by assumption) (by assumption) (i_nlt.mpr c_12)
                          have hI3 := iN_nI (n := i3) (by omega)
                          have hN3 := iN_nI (n := n3) (by omega)
                          have hn34 : n3 = n4 := nI_inj2 (by omega) hn4
                          have hJ3 := iN_nI (n := j3) (by omega)
                          refine lv_iconst (pc := 119) (v := 0) hx hb dX8_copy_119 (by decide) ?_
                          refine lv_istore (pc := 120) (lv' := [(6, .int 0), (0, .ref (a 0)), (1, .int (nI d1)), (2, .int (nI i3)), (3, .int (nI f1)), (4, .int (nI j3)), (5, .int (nI n3))]) hx hb dX8_copy_120 hl (by decide) rfl (fun ls hl => ?_)
                          have loop_122 : ∀ (k_122 : Nat) (k : Nat) (x6 : Int32), (n3 - k) < k_122 → (k ≤ n3) → x6 = nI k → ∀ (H : Heap) (locs : List Loc), WW E (wM a (E.2.1 0) sv im rd wa kp so sz (mvE i3 j3 el (100 * d1 + i3) (100 * f1 + j3) n3 k) pr ts nu bu ht (bI ig) th po ba en td (bI ij)) gN H → va_S (mF a) s.heap H locs → ∀ (ls : Array Slot), lv_has ls 8 [(6, .int x6), (0, .ref (a 0)), (1, .int (nI d1)), (2, .int (nI i3)), (3, .int (nI f1)), (4, .int (nI j3)), (5, .int (nI n3))] → W p l e (rm0' (2) (45)) s m args below meth c H locs 0 0 (MQ below (zQ (fun (_ : Heap) (v : Option Value) (H1 : Heap) => (v = some (.int (copyR kp so sz (nI d1) (nI i3) (nI f1) (nI j3) (nI n3))) ∧ WW E (wM a (E.2.1 0) sv im rd wa kp so sz (copyE kp so sz el (nI d1) (nI i3) (nI f1) (nI j3) (nI n3)) pr ts nu bu ht (bI ig) th po ba en td (bI ij)) gN H1)) (mF a)) args s 0 0 (mF a)) (F0 m 122 ls []) := by
                            intro k_122
                            induction k_122 with
                            | zero =>
                              intro k x6 hm
                              exact absurd hm (Nat.not_lt_zero _)
                            | succ k_122 ih_122 =>
                              intro k x6 hm_122 hk e_x6  H locs  hW hS ls hl
                              subst e_x6
                              refine lv_iload (pc := 122) hx hb dX8_copy_122 (lv_at hl 0 rfl) ?_
                              refine lv_iload (pc := 124) hx hb dX8_copy_124 (lv_at hl 6 rfl) ?_
                              refine lv_icmp_ge (pc := 126) (tgt := 184) hx hb dX8_copy_126 (by decide) (fun c_13 => ?_) (fun c_13 => ?_)
                              · skip
                                have hkn : k = n3 := by have := ge_nat (a := k) (b := n3) rfl rfl (by omega) (by omega) c_13; omega
                                rw [hkn] at hl hW
                                refine lv_iload (pc := 184) hx hb dX8_copy_184 (lv_at hl 6 rfl) ?_
                                exact z_wiret cx hr hlk dX8_copy_186 hS ⟨(sI (by first | rfl | (simp [copyR, c_1, c_2, hD, hF, c_3, c_4, c_5, c_6, c_7, c_8, c_9, c_10, c_11, c_12, hI3, hN3, hJ3, i_nlt.mp c_8, i_nlt.mp c_9, i_nlt.mp c_10, i_nlt.mp c_11, i_nlt.mpr c_12]; done))), (by rw [show (copyE kp so sz el (nI d1) (nI i3) (nI f1) (nI j3) (nI n3)) = mvE i3 j3 el (100 * d1 + i3) (100 * f1 + j3) n3 n3 from (by first | rfl | (simp [copyR, copyE, mvE_n, c_1, c_2, hD, hF, c_3, c_4, c_5, c_6, c_7, c_8, c_9, c_10, c_11, c_12, hI3, hN3, hJ3, i_nlt.mp c_8, i_nlt.mp c_9, i_nlt.mp c_10, i_nlt.mp c_11, i_nlt.mpr c_12]; done))]; exact hW)⟩
                              · skip
                                have hlt_k := lt_nat (a := k) (b := n3) rfl rfl (by omega) (by omega) c_13
                                refine lv_iload_n (pc := 129) hx hb dX8_copy_129 rfl (lv_at hl 3 rfl) ?_
                                refine lv_iload (pc := 130) hx hb dX8_copy_130 (lv_at hl 5 rfl) ?_
                                refine lv_icmp_le (pc := 132) (tgt := 140) hx hb dX8_copy_132 (by decide) (fun c_14 => ?_) (fun c_14 => ?_)
                                · skip
                                  have hij := ge_nat (a := j3) (b := i3) rfl rfl (by omega) (by omega) c_14
                                  refine lv_iload (pc := 140) hx hb dX8_copy_140 (lv_at hl 6 rfl) ?_
                                  refine lv_iconst (pc := 142) (v := 1) hx hb dX8_copy_142 (by decide) ?_
                                  refine lv_isub (pc := 143) hx hb dX8_copy_143 ?_
                                  refine lv_iload (pc := 144) hx hb dX8_copy_144 (lv_at hl 0 rfl) ?_
                                  refine lv_isub (pc := 146) hx hb dX8_copy_146 ?_
                                  refine z_tope (y := nI (n3 - 1 - k)) (nk_sub (by omega) (by omega)) ?_
                                  refine lv_istore (pc := 147) (lv' := [(7, .int (nI (n3 - 1 - k))), (6, .int (nI k)), (0, .ref (a 0)), (1, .int (nI d1)), (2, .int (nI i3)), (3, .int (nI f1)), (4, .int (nI j3)), (5, .int (nI n3))]) hx hb dX8_copy_147 hl (by decide) rfl (fun ls hl => ?_)
                                  refine lv_aload_n (pc := 149) hx hb dX8_copy_149 rfl (lv_at hl 2 rfl) ?_
                                  refine z_getM (pc := 150) cx (hW.at 0 rfl) 7 rfl m_fl_X8_31 rfl dX8_copy_150 ?_
                                  refine lv_bipush (pc := 153) (v := 100) hx hb dX8_copy_153 (by decide) ?_
                                  refine lv_iload_n (pc := 155) hx hb dX8_copy_155 rfl (lv_at hl 5 rfl) ?_
                                  refine lv_imul (pc := 156) hx hb dX8_copy_156 ?_
                                  refine lv_iload (pc := 157) hx hb dX8_copy_157 (lv_at hl 6 rfl) ?_
                                  refine lv_iadd (pc := 159) hx hb dX8_copy_159 ?_
                                  refine lv_iload (pc := 160) hx hb dX8_copy_160 (lv_at hl 0 rfl) ?_
                                  refine lv_iadd (pc := 162) hx hb dX8_copy_162 ?_
                                  refine lv_aload_n (pc := 163) hx hb dX8_copy_163 rfl (lv_at hl 2 rfl) ?_
                                  refine z_getM (pc := 164) cx (hW.at 0 rfl) 7 rfl m_fl_X8_31 rfl dX8_copy_164 ?_
                                  refine lv_bipush (pc := 167) (v := 100) hx hb dX8_copy_167 (by decide) ?_
                                  refine lv_iload_n (pc := 169) hx hb dX8_copy_169 rfl (lv_at hl 3 rfl) ?_
                                  refine lv_imul (pc := 170) hx hb dX8_copy_170 ?_
                                  refine lv_iload_n (pc := 171) hx hb dX8_copy_171 rfl (lv_at hl 4 rfl) ?_
                                  refine lv_iadd (pc := 172) hx hb dX8_copy_172 ?_
                                  refine lv_iload (pc := 173) hx hb dX8_copy_173 (lv_at hl 0 rfl) ?_
                                  refine lv_iadd (pc := 175) hx hb dX8_copy_175 ?_
                                  refine z_iald (pc := 176) (f := mvE i3 j3 el (100 * d1 + i3) (100 * f1 + j3) n3 k) (j := 100 * d1 + i3 + (n3 - 1 - k)) cx (hW.at 8 rfl) (by simp only [nI, Int32.ofNat_add, Int32.ofNat_mul] <;> rfl) (by omega) (by decide) dX8_copy_176 ?_
                                  refine z_iast (pc := 177) (f := mvE i3 j3 el (100 * d1 + i3) (100 * f1 + j3) n3 k) (j := 100 * f1 + j3 + (n3 - 1 - k)) cx hW hS 8 rfl (mF_in a 8) (by simp only [nI, Int32.ofNat_add, Int32.ofNat_mul] <;> rfl) (by omega) (by decide) dX8_copy_177 (fun H locs hW hS => ?_)
                                  have hW : WW E (wM a (E.2.1 0) sv im rd wa kp so sz (upd (mvE i3 j3 el (100 * d1 + i3) (100 * f1 + j3) n3 k) (100 * f1 + j3 + (n3 - 1 - k)) ((mvE i3 j3 el (100 * d1 + i3) (100 * f1 + j3) n3 k) (100 * d1 + i3 + (n3 - 1 - k)))) pr ts nu bu ht (bI ig) th po ba en td (bI ij)) gN H := hW
                                  refine lv_iinc (pc := 178) (v := nI (k + 1)) (lv' := [(6, .int (nI (k + 1))), (7, .int (nI (n3 - 1 - k))), (0, .ref (a 0)), (1, .int (nI d1)), (2, .int (nI i3)), (3, .int (nI f1)), (4, .int (nI j3)), (5, .int (nI n3))]) hx hb dX8_copy_178 hl (k := 1) rfl (nI_1 _) (by decide) rfl (fun ls hl => ?_)
                                  refine lv_goto (pc := 181) (tgt := 122) hx hb dX8_copy_181 (by decide) ?_
                                  exact ih_122 (k + 1) (nI (k + 1)) (by omega) (by omega) (by first | rfl | (simp [copyR, c_1, c_2, hD, hF, c_3, c_4, c_5, c_6, c_7, c_8, c_9, c_10, c_11, c_12, hI3, hN3, hJ3, i_nlt.mp c_8, i_nlt.mp c_9, i_nlt.mp c_10, i_nlt.mp c_11, i_nlt.mpr c_12]; done))  _ _  (by first | (rw [mvE_f el hij (by omega) (by omega)] at hW; exact hW) | (rw [mvE_b el (by omega) (by omega) (by omega)] at hW; exact hW)) hS ls (lv_sub hl [0, 2, 3, 4, 5, 6, 7] rfl)
                                · skip
                                  have hij := lt_nat (a := j3) (b := i3) rfl rfl (by omega) (by omega) c_14
                                  refine lv_iload (pc := 135) hx hb dX8_copy_135 (lv_at hl 0 rfl) ?_
                                  refine lv_goto (pc := 137) (tgt := 147) hx hb dX8_copy_137 (by decide) ?_
                                  refine lv_istore (pc := 147) (lv' := [(7, .int (nI k)), (6, .int (nI k)), (0, .ref (a 0)), (1, .int (nI d1)), (2, .int (nI i3)), (3, .int (nI f1)), (4, .int (nI j3)), (5, .int (nI n3))]) hx hb dX8_copy_147 hl (by decide) rfl (fun ls hl => ?_)
                                  refine lv_aload_n (pc := 149) hx hb dX8_copy_149 rfl (lv_at hl 2 rfl) ?_
                                  refine z_getM (pc := 150) cx (hW.at 0 rfl) 7 rfl m_fl_X8_31 rfl dX8_copy_150 ?_
                                  refine lv_bipush (pc := 153) (v := 100) hx hb dX8_copy_153 (by decide) ?_
                                  refine lv_iload_n (pc := 155) hx hb dX8_copy_155 rfl (lv_at hl 5 rfl) ?_
                                  refine lv_imul (pc := 156) hx hb dX8_copy_156 ?_
                                  refine lv_iload (pc := 157) hx hb dX8_copy_157 (lv_at hl 6 rfl) ?_
                                  refine lv_iadd (pc := 159) hx hb dX8_copy_159 ?_
                                  refine lv_iload (pc := 160) hx hb dX8_copy_160 (lv_at hl 0 rfl) ?_
                                  refine lv_iadd (pc := 162) hx hb dX8_copy_162 ?_
                                  refine lv_aload_n (pc := 163) hx hb dX8_copy_163 rfl (lv_at hl 2 rfl) ?_
                                  refine z_getM (pc := 164) cx (hW.at 0 rfl) 7 rfl m_fl_X8_31 rfl dX8_copy_164 ?_
                                  refine lv_bipush (pc := 167) (v := 100) hx hb dX8_copy_167 (by decide) ?_
                                  refine lv_iload_n (pc := 169) hx hb dX8_copy_169 rfl (lv_at hl 3 rfl) ?_
                                  refine lv_imul (pc := 170) hx hb dX8_copy_170 ?_
                                  refine lv_iload_n (pc := 171) hx hb dX8_copy_171 rfl (lv_at hl 4 rfl) ?_
                                  refine lv_iadd (pc := 172) hx hb dX8_copy_172 ?_
                                  refine lv_iload (pc := 173) hx hb dX8_copy_173 (lv_at hl 0 rfl) ?_
                                  refine lv_iadd (pc := 175) hx hb dX8_copy_175 ?_
                                  refine z_iald (pc := 176) (f := mvE i3 j3 el (100 * d1 + i3) (100 * f1 + j3) n3 k) (j := 100 * d1 + i3 + k) cx (hW.at 8 rfl) (by simp only [nI, Int32.ofNat_add, Int32.ofNat_mul] <;> rfl) (by omega) (by decide) dX8_copy_176 ?_
                                  refine z_iast (pc := 177) (f := mvE i3 j3 el (100 * d1 + i3) (100 * f1 + j3) n3 k) (j := 100 * f1 + j3 + k) cx hW hS 8 rfl (mF_in a 8) (by simp only [nI, Int32.ofNat_add, Int32.ofNat_mul] <;> rfl) (by omega) (by decide) dX8_copy_177 (fun H locs hW hS => ?_)
                                  have hW : WW E (wM a (E.2.1 0) sv im rd wa kp so sz (upd (mvE i3 j3 el (100 * d1 + i3) (100 * f1 + j3) n3 k) (100 * f1 + j3 + k) ((mvE i3 j3 el (100 * d1 + i3) (100 * f1 + j3) n3 k) (100 * d1 + i3 + k))) pr ts nu bu ht (bI ig) th po ba en td (bI ij)) gN H := hW
                                  refine lv_iinc (pc := 178) (v := nI (k + 1)) (lv' := [(6, .int (nI (k + 1))), (7, .int (nI k)), (0, .ref (a 0)), (1, .int (nI d1)), (2, .int (nI i3)), (3, .int (nI f1)), (4, .int (nI j3)), (5, .int (nI n3))]) hx hb dX8_copy_178 hl (k := 1) rfl (nI_1 _) (by decide) rfl (fun ls hl => ?_)
                                  refine lv_goto (pc := 181) (tgt := 122) hx hb dX8_copy_181 (by decide) ?_
                                  exact ih_122 (k + 1) (nI (k + 1)) (by omega) (by omega) (by first | rfl | (simp [copyR, c_1, c_2, hD, hF, c_3, c_4, c_5, c_6, c_7, c_8, c_9, c_10, c_11, c_12, hI3, hN3, hJ3, i_nlt.mp c_8, i_nlt.mp c_9, i_nlt.mp c_10, i_nlt.mp c_11, i_nlt.mpr c_12]; done))  _ _  (by first | (rw [mvE_f el hij (by omega) (by omega)] at hW; exact hW) | (rw [mvE_b el (by omega) (by omega) (by omega)] at hW; exact hW)) hS ls (lv_sub hl [0, 2, 3, 4, 5, 6, 7] rfl)
                          exact loop_122 ((n3 - 0) + 1) 0 0 (Nat.lt_succ_self _) (by omega) (by first | rfl | (simp [copyR, c_1, c_2, hD, hF, c_3, c_4, c_5, c_6, c_7, c_8, c_9, c_10, c_11, c_12, hI3, hN3, hJ3, i_nlt.mp c_8, i_nlt.mp c_9, i_nlt.mp c_10, i_nlt.mp c_11, i_nlt.mpr c_12]; done))  _ _  (by rw [mvE_0]; exact hW) hS ls (lv_sub hl [0, 1, 2, 3, 4, 5, 6] rfl)
                        · skip
                          refine lv_bipush (pc := 116) (v := (-13)) hx hb dX8_copy_116 (by decide) ?_
                          exact z_wiret cx hr hlk dX8_copy_118 hS ⟨(sI (by first | rfl | (simp [copyR, c_1, c_2, hD, hF, c_3, c_4, c_5, c_6, c_7, c_8, c_9, c_10, c_11, c_12, i_nlt.mp c_8, i_nlt.mp c_9, i_nlt.mp c_10, i_nlt.mp c_11, i_nle.mp c_12]; done))), (by rw [show (copyE kp so sz el (nI d1) x (nI f1) y n2) = el from (by first | rfl | (simp [copyR, copyE, mvE_n, c_1, c_2, hD, hF, c_3, c_4, c_5, c_6, c_7, c_8, c_9, c_10, c_11, c_12, i_nlt.mp c_8, i_nlt.mp c_9, i_nlt.mp c_10, i_nlt.mp c_11, i_nle.mp c_12]; done))]; exact hW)⟩
              · skip
                refine lv_bipush (pc := 72) (v := (-12)) hx hb dX8_copy_72 (by decide) ?_
                exact z_wiret cx hr hlk dX8_copy_74 hS ⟨(sI (by first | rfl | (simp [copyR, c_1, c_2, hD, hF, c_3, c_4, c_5, c_6, c_7]; done))), (by rw [show (copyE kp so sz el (nI d1) x (nI f1) y n2) = el from (by first | rfl | (simp [copyR, copyE, mvE_n, c_1, c_2, hD, hF, c_3, c_4, c_5, c_6, c_7]; done))]; exact hW)⟩
        · skip
          refine lv_bipush (pc := 34) (v := (-11)) hx hb dX8_copy_34 (by decide) ?_
          exact z_wiret cx hr hlk dX8_copy_36 hS ⟨(sI (by first | rfl | (simp [copyR, c_1, c_2, hD, hF, c_3, c_4]; done))), (by rw [show (copyE kp so sz el (nI d1) x (nI f1) y n2) = el from (by first | rfl | (simp [copyR, copyE, mvE_n, c_1, c_2, hD, hF, c_3, c_4]; done))]; exact hW)⟩
    · skip
      refine lv_iconst (pc := 14) (v := (-1)) hx hb dX8_copy_14 (by decide) ?_
      exact z_wiret cx hr hlk dX8_copy_15 hS ⟨(sI (by first | rfl | (simp [copyR, c_1, c_2]; done))), (by rw [show (copyE kp so sz el d x f y n2) = el from (by first | rfl | (simp [copyR, copyE, mvE_n, c_1, c_2]; done))]; exact hW)⟩
theorem k_X8_copy {p : Program} {l : Launch} {e : Env} {R : Room} {s : State} {m : MethodId} {args : Array Value} {below : List Frame} {meth : Method} {c : Code} {H H0 : Heap} {locs : List Loc} {cells slots : Nat} {Q : State → Prop} {cc : ByteArray} {pc index : Nat} {ls : Array Slot} {rest st0 : List Value} {E : zE} {own : String} {nL : Nat} {F : Nat → Prop} {a : Nat → Nat} {sv im rd wa kp so sz el pr ts nu bu ht : Nat → Int32} {th po ba en td : Int32} {ig : Bool} {ij : Bool} {d x f y n2 : Int32} (cx : Cx E p s args m c own cc nL) (hW : WW E (wM a (E.2.1 0) sv im rd wa kp so sz el pr ts nu bu ht (bI ig) th po ba en td (bI ij)) gN H) (hS : va_S F H0 H locs) (zF : ∀ q, (mF a) q → F q) (hR : InvR kp so sz) (zl : Cond.methodLink own index yX8_copy ∈ AllW) (zR : 2 + 1 ≤ R.frames ∧ 8 + (8 + 11) + 45 ≤ R.locals) (zs : ls.size = nL) (zt : st0 = ([.int d, .int x, .int f, .int y, .int n2] : List Value).reverse ++ .ref (a 0) :: rest) (z8 : (rest.map fun v => v.category).sum ≤ 8) (zd : decode cc pc = .ok (.invokevirtual index, 3)) (zf : cells ≤ R.cells ∧ slots ≤ R.slots) (kk0 : ∀  (H1 : Heap) (locs1 : List Loc), WW E (wM a (E.2.1 0) sv im rd wa kp so sz (copyE kp so sz el d x f y n2) pr ts nu bu ht (bI ig) th po ba en td (bI ij)) gN H1 → va_S F H0 H1 locs1 → W p l e R s m args below meth c H1 locs1 cells slots Q (F0 m (pc + 3) ls (.int (copyR kp so sz d x f y n2) :: rest))) : W p l e R s m args below meth c H locs cells slots Q (F0 m pc ls st0) := by
  refine z_callVw cx vm_X8_copy (c_X8_copy l E a sv im rd wa kp so sz el pr ts nu bu ht th po ba en td ig ij d x f y n2 hR) (z_rec cx.2 (hW.at 0 rfl) rfl) hW hS zF zl ⟨rfl, rfl⟩ zR rfl zs zt z8 zd zf (fun v H1 locs1 hq hS1 _ => ?_)
  rcases hq with ⟨rfl, hW1⟩
  · exact kk0  H1 locs1  hW1 hS1
