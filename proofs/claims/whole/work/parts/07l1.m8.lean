theorem vm_X8_comesPiece : zVm yX8_comesPiece cX8_comesPiece 5 (some FieldType.boolean) 0 := ⟨m_co_X8_comesPiece, m_in_RX8, ⟨m_im_X8_comesPiece, m_se_X8_X8_comesPiece⟩, by decide +kernel, by decide +kernel, by decide +kernel⟩
set_option maxHeartbeats 1000000 in
set_option maxRecDepth 100000 in
theorem c_X8_comesPiece (l : Launch) (E : zE) (a : Nat → Nat) (sv im rd wa kp so sz el pr ts nu bu ht : Nat → Int32) (th po ba en td : Int32) (ig : Bool) (ij : Bool)  (hC : InvC rd) : Met l yX8_comesPiece (.code yX8_comesPiece cX8_comesPiece 5 (some FieldType.boolean) :: AllW) (rm0' 1 25) (zP E (fun H => WW E (wM a (E.2.1 0) sv im rd wa kp so sz el pr ts nu bu ht (bI ig) th po ba en td (bI ij)) gN H) [.ref (a 0)]) (zQ (fun (_ : Heap) (v : Option Value) (H1 : Heap) => (v = some (.int (bI (cpO rd nu ij))) ∧ WW E (wM a (E.2.1 0) sv im (cpRd rd nu ij) wa kp so sz el pr ts nu bu ht (bI ig) th po ba en td (bI ij)) gN H1)) (mF a)) 0 0 (mF a) := by
  refine z_body (own := RX8) (by decide) rfl rfl ?_
  intro p e s m args below meth c ls cx hr hlk hnm hW hl
  have hx := cx.x
  have hb := cx.b
  have hl : lv_has ls 5 [(0, .ref (a 0))] := hl
  have hS : va_S (mF a) s.heap s.heap [] := va_S.rf
  have h0 := Inv.n0 hC
  have e0 := h0.1
  refine lv_aload_n (pc := 0) hx hb dX8_comesPiece_0 rfl (lv_at hl 0 rfl) ?_
  refine z_getM (pc := 1) cx (hW.at 0 rfl) 2 rfl m_fl_X8_16 rfl dX8_comesPiece_1 ?_
  refine lv_iconst (pc := 4) (v := 0) hx hb dX8_comesPiece_4 (by decide) ?_
  refine z_iald (pc := 5) (f := rd) (j := 0) cx (hW.at 3 rfl) rfl (by decide) (by decide) dX8_comesPiece_5 ?_
  refine z_tope (y := nI (nP rd)) e0 ?_
  refine lv_istore_n (pc := 6) (lv' := [(1, .int (nI (nP rd))), (0, .ref (a 0))]) hx hb dX8_comesPiece_6 rfl hl (by decide) rfl (fun ls hl => ?_)
  refine lv_aload_n (pc := 7) hx hb dX8_comesPiece_7 rfl (lv_at hl 1 rfl) ?_
  refine z_getM (pc := 8) cx (hW.at 0 rfl) 16 rfl m_fl_X8_40 rfl dX8_comesPiece_8 ?_
  refine lv_iconst (pc := 11) (v := 0) hx hb dX8_comesPiece_11 (by decide) ?_
  refine z_iald (pc := 12) (f := nu) (j := 0) cx (hW.at 11 rfl) rfl (by decide) (by decide) dX8_comesPiece_12 ?_
  refine lv_i2l (pc := 13) (v := Int32.toInt64 (nu 0)) hx hb dX8_comesPiece_13 rfl ?_
  refine lv_ldc2 (pc := 14) (v := 10) hx hb cx.own (cx.ts _ m_kl_X8_101) dX8_comesPiece_14 ?_
  refine lv_ldc2 (pc := 17) (v := 600) hx hb cx.own (cx.ts _ m_kl_X8_103) dX8_comesPiece_17 ?_
  refine k_X8_isIn (pc := 20) (x := (nu 0)) (y := 10) (z := 600) cx  m_ml_X8_53 ⟨Nat.le_of_ble_eq_true rfl, Nat.le_of_ble_eq_true rfl⟩ hl.1 rfl (by simp [Value.category]) dX8_comesPiece_20 ⟨Nat.le_refl _, Nat.le_refl _⟩ ?_
  refine z_ifeq (pc := 23) (tgt := 79) hx hb dX8_comesPiece_23 (by decide) (fun c_1 => ?_) (fun c_1 => ?_)
  · skip
    refine lv_iconst (pc := 79) (v := 0) hx hb dX8_comesPiece_79 (by decide) ?_
    refine lv_istore_n (pc := 80) (lv' := [(2, .int 0), (1, .int (nI (nP rd))), (0, .ref (a 0))]) hx hb dX8_comesPiece_80 rfl hl (by decide) rfl (fun ls hl => ?_)
    refine lv_iload_n (pc := 81) hx hb dX8_comesPiece_81 rfl (lv_at hl 0 rfl) ?_
    refine lv_if_eq (pc := 82) (tgt := 113) hx hb dX8_comesPiece_82 (by decide) (fun _ => ?_) (fun c => (c (by decide)).elim)
    refine lv_iconst (pc := 113) (v := 0) hx hb dX8_comesPiece_113 (by decide) ?_
    exact z_wzret (b := false) cx hr hlk dX8_comesPiece_114 hS ⟨(sI (by first | rfl | (simp [cpO, e0, c_1]; done))), (by rw [show (cpRd rd nu ij) = rd from (by first | rfl | (simp [cpRd, cpO, cpX, rwA, e0, c_1]; done))]; exact hW)⟩
  · skip
    refine lv_aload_n (pc := 26) hx hb dX8_comesPiece_26 rfl (lv_at hl 1 rfl) ?_
    refine z_getM (pc := 27) cx (hW.at 0 rfl) 16 rfl m_fl_X8_40 rfl dX8_comesPiece_27 ?_
    refine lv_iconst (pc := 30) (v := 1) hx hb dX8_comesPiece_30 (by decide) ?_
    refine z_iald (pc := 31) (f := nu) (j := 1) cx (hW.at 11 rfl) rfl (by decide) (by decide) dX8_comesPiece_31 ?_
    refine lv_i2l (pc := 32) (v := Int32.toInt64 (nu 1)) hx hb dX8_comesPiece_32 rfl ?_
    refine lv_lconst (pc := 33) (v := 1) hx hb dX8_comesPiece_33 rfl ?_
    refine lv_ldc2 (pc := 34) (v := 99) hx hb cx.own (cx.ts _ m_kl_X8_61) dX8_comesPiece_34 ?_
    refine k_X8_isIn (pc := 37) (x := (nu 1)) (y := 1) (z := 99) cx  m_ml_X8_53 ⟨Nat.le_of_ble_eq_true rfl, Nat.le_of_ble_eq_true rfl⟩ hl.1 rfl (by simp [Value.category]) dX8_comesPiece_37 ⟨Nat.le_refl _, Nat.le_refl _⟩ ?_
    refine z_ifeq (pc := 40) (tgt := 79) hx hb dX8_comesPiece_40 (by decide) (fun c_3 => ?_) (fun c_3 => ?_)
    · skip
      refine lv_iconst (pc := 79) (v := 0) hx hb dX8_comesPiece_79 (by decide) ?_
      refine lv_istore_n (pc := 80) (lv' := [(2, .int 0), (1, .int (nI (nP rd))), (0, .ref (a 0))]) hx hb dX8_comesPiece_80 rfl hl (by decide) rfl (fun ls hl => ?_)
      refine lv_iload_n (pc := 81) hx hb dX8_comesPiece_81 rfl (lv_at hl 0 rfl) ?_
      refine lv_if_eq (pc := 82) (tgt := 113) hx hb dX8_comesPiece_82 (by decide) (fun _ => ?_) (fun c => (c (by decide)).elim)
      refine lv_iconst (pc := 113) (v := 0) hx hb dX8_comesPiece_113 (by decide) ?_
      exact z_wzret (b := false) cx hr hlk dX8_comesPiece_114 hS ⟨(sI (by first | rfl | (simp [cpO, e0, c_1, c_3]; done))), (by rw [show (cpRd rd nu ij) = rd from (by first | rfl | (simp [cpRd, cpO, cpX, rwA, e0, c_1, c_3]; done))]; exact hW)⟩
    · skip
      refine lv_aload_n (pc := 43) hx hb dX8_comesPiece_43 rfl (lv_at hl 1 rfl) ?_
      refine z_getM (pc := 44) cx (hW.at 0 rfl) 16 rfl m_fl_X8_40 rfl dX8_comesPiece_44 ?_
      refine lv_iconst (pc := 47) (v := 2) hx hb dX8_comesPiece_47 (by decide) ?_
      refine z_iald (pc := 48) (f := nu) (j := 2) cx (hW.at 11 rfl) rfl (by decide) (by decide) dX8_comesPiece_48 ?_
      refine lv_i2l (pc := 49) (v := Int32.toInt64 (nu 2)) hx hb dX8_comesPiece_49 rfl ?_
      refine lv_lconst (pc := 50) (v := 1) hx hb dX8_comesPiece_50 rfl ?_
      refine lv_ldc2 (pc := 51) (v := 99) hx hb cx.own (cx.ts _ m_kl_X8_61) dX8_comesPiece_51 ?_
      refine k_X8_isIn (pc := 54) (x := (nu 2)) (y := 1) (z := 99) cx  m_ml_X8_53 ⟨Nat.le_of_ble_eq_true rfl, Nat.le_of_ble_eq_true rfl⟩ hl.1 rfl (by simp [Value.category]) dX8_comesPiece_54 ⟨Nat.le_refl _, Nat.le_refl _⟩ ?_
      refine z_ifeq (pc := 57) (tgt := 79) hx hb dX8_comesPiece_57 (by decide) (fun c_5 => ?_) (fun c_5 => ?_)
      · skip
        refine lv_iconst (pc := 79) (v := 0) hx hb dX8_comesPiece_79 (by decide) ?_
        refine lv_istore_n (pc := 80) (lv' := [(2, .int 0), (1, .int (nI (nP rd))), (0, .ref (a 0))]) hx hb dX8_comesPiece_80 rfl hl (by decide) rfl (fun ls hl => ?_)
        refine lv_iload_n (pc := 81) hx hb dX8_comesPiece_81 rfl (lv_at hl 0 rfl) ?_
        refine lv_if_eq (pc := 82) (tgt := 113) hx hb dX8_comesPiece_82 (by decide) (fun _ => ?_) (fun c => (c (by decide)).elim)
        refine lv_iconst (pc := 113) (v := 0) hx hb dX8_comesPiece_113 (by decide) ?_
        exact z_wzret (b := false) cx hr hlk dX8_comesPiece_114 hS ⟨(sI (by first | rfl | (simp [cpO, e0, c_1, c_3, c_5]; done))), (by rw [show (cpRd rd nu ij) = rd from (by first | rfl | (simp [cpRd, cpO, cpX, rwA, e0, c_1, c_3, c_5]; done))]; exact hW)⟩
      · skip
        refine lv_iload_n (pc := 60) hx hb dX8_comesPiece_60 rfl (lv_at hl 0 rfl) ?_
        refine lv_bipush (pc := 61) (v := 10) hx hb dX8_comesPiece_61 (by decide) ?_
        refine lv_icmp_ge (pc := 63) (tgt := 79) hx hb dX8_comesPiece_63 (by decide) (fun c_7 => ?_) (fun c_7 => ?_)
        · skip
          refine lv_iconst (pc := 79) (v := 0) hx hb dX8_comesPiece_79 (by decide) ?_
          refine lv_istore_n (pc := 80) (lv' := [(2, .int 0), (1, .int (nI (nP rd))), (0, .ref (a 0))]) hx hb dX8_comesPiece_80 rfl hl (by decide) rfl (fun ls hl => ?_)
          refine lv_iload_n (pc := 81) hx hb dX8_comesPiece_81 rfl (lv_at hl 0 rfl) ?_
          refine lv_if_eq (pc := 82) (tgt := 113) hx hb dX8_comesPiece_82 (by decide) (fun _ => ?_) (fun c => (c (by decide)).elim)
          refine lv_iconst (pc := 113) (v := 0) hx hb dX8_comesPiece_113 (by decide) ?_
          exact z_wzret (b := false) cx hr hlk dX8_comesPiece_114 hS ⟨(sI (by first | rfl | (simp [cpO, e0, c_1, c_3, c_5, c_7, i_nlt.mpr c_7]; done))), (by rw [show (cpRd rd nu ij) = rd from (by first | rfl | (simp [cpRd, cpO, cpX, rwA, e0, c_1, c_3, c_5, c_7, i_nlt.mpr c_7]; done))]; exact hW)⟩
        · skip
          have hlt10 := lt_nat (a := nP rd) (b := 10) rfl rfl (by omega) (by omega) c_7
          refine lv_aload_n (pc := 66) hx hb dX8_comesPiece_66 rfl (lv_at hl 1 rfl) ?_
          refine z_getM (pc := 67) cx (hW.at 0 rfl) 2 rfl m_fl_X8_16 rfl dX8_comesPiece_67 ?_
          refine lv_iconst (pc := 70) (v := 2) hx hb dX8_comesPiece_70 (by decide) ?_
          refine z_iald (pc := 71) (f := rd) (j := 2) cx (hW.at 3 rfl) rfl (by decide) (by decide) dX8_comesPiece_71 ?_
          refine lv_if_ne (pc := 72) (tgt := 79) hx hb dX8_comesPiece_72 (by decide) (fun c_9 => ?_) (fun c_9 => ?_)
          · skip
            refine lv_iconst (pc := 79) (v := 0) hx hb dX8_comesPiece_79 (by decide) ?_
            refine lv_istore_n (pc := 80) (lv' := [(2, .int 0), (1, .int (nI (nP rd))), (0, .ref (a 0))]) hx hb dX8_comesPiece_80 rfl hl (by decide) rfl (fun ls hl => ?_)
            refine lv_iload_n (pc := 81) hx hb dX8_comesPiece_81 rfl (lv_at hl 0 rfl) ?_
            refine lv_if_eq (pc := 82) (tgt := 113) hx hb dX8_comesPiece_82 (by decide) (fun _ => ?_) (fun c => (c (by decide)).elim)
            refine lv_iconst (pc := 113) (v := 0) hx hb dX8_comesPiece_113 (by decide) ?_
            exact z_wzret (b := false) cx hr hlk dX8_comesPiece_114 hS ⟨(sI (by first | rfl | (simp [cpO, e0, c_1, c_3, c_5, c_7, c_9, i_nle.mp c_7]; done))), (by rw [show (cpRd rd nu ij) = rd from (by first | rfl | (simp [cpRd, cpO, cpX, rwA, e0, c_1, c_3, c_5, c_7, c_9, i_nle.mp c_7]; done))]; exact hW)⟩
          · skip
            refine lv_iconst (pc := 75) (v := 1) hx hb dX8_comesPiece_75 (by decide) ?_
            refine lv_goto (pc := 76) (tgt := 80) hx hb dX8_comesPiece_76 (by decide) ?_
            refine lv_istore_n (pc := 80) (lv' := [(2, .int 1), (1, .int (nI (nP rd))), (0, .ref (a 0))]) hx hb dX8_comesPiece_80 rfl hl (by decide) rfl (fun ls hl => ?_)
            refine lv_iload_n (pc := 81) hx hb dX8_comesPiece_81 rfl (lv_at hl 0 rfl) ?_
            refine lv_if_eq (pc := 82) (tgt := 113) hx hb dX8_comesPiece_82 (by decide) (fun c => absurd c (by decide)) (fun _ => ?_)
            refine lv_aload_n (pc := 85) hx hb dX8_comesPiece_85 rfl (lv_at hl 2 rfl) ?_
            refine z_getM (pc := 86) cx (hW.at 0 rfl) 17 rfl m_fl_X8_90 rfl dX8_comesPiece_86 ?_
            refine z_ifeq (pc := 89) (tgt := 115) hx hb dX8_comesPiece_89 (by decide) (fun c_12 => ?_) (fun c_12 => ?_)
            · skip
              refine lv_bipush (pc := 115) (v := 8) hx hb dX8_comesPiece_115 (by decide) ?_
              refine lv_bipush (pc := 117) (v := 6) hx hb dX8_comesPiece_117 (by decide) ?_
              refine lv_iload_n (pc := 119) hx hb dX8_comesPiece_119 rfl (lv_at hl 1 rfl) ?_
              refine lv_imul (pc := 120) hx hb dX8_comesPiece_120 ?_
              refine lv_iadd (pc := 121) hx hb dX8_comesPiece_121 ?_
              refine z_tope (y := nI (8 + 6 * nP rd)) (ix_86 _) ?_
              refine lv_istore_n (pc := 122) (lv' := [(3, .int (nI (8 + 6 * nP rd))), (2, .int 1), (1, .int (nI (nP rd))), (0, .ref (a 0))]) hx hb dX8_comesPiece_122 rfl hl (by decide) rfl (fun ls hl => ?_)
              refine lv_iconst (pc := 123) (v := 0) hx hb dX8_comesPiece_123 (by decide) ?_
              refine lv_istore (pc := 124) (lv' := [(4, .int 0), (3, .int (nI (8 + 6 * nP rd))), (2, .int 1), (1, .int (nI (nP rd))), (0, .ref (a 0))]) hx hb dX8_comesPiece_124 hl (by decide) rfl (fun ls hl => ?_)
              have loop_126 : ∀ (k_126 : Nat) (i : Nat) (x4 : Int32), (3 - i) < k_126 → (i ≤ 3) → x4 = nI i → ∀ (H : Heap) (locs : List Loc), WW E (wM a (E.2.1 0) sv im (rwA rd nu (8 + 6 * nP rd) i) wa kp so sz el pr ts nu bu ht (bI ig) th po ba en td (bI ij)) gN H → va_S (mF a) s.heap H locs → ∀ (ls : Array Slot), lv_has ls 5 [(4, .int x4), (3, .int (nI (8 + 6 * nP rd))), (2, .int 1), (1, .int (nI (nP rd))), (0, .ref (a 0))] → W p l e (rm0' (1) (25)) s m args below meth c H locs 0 0 (MQ below (zQ (fun (_ : Heap) (v : Option Value) (H1 : Heap) => (v = some (.int (bI (cpO rd nu ij))) ∧ WW E (wM a (E.2.1 0) sv im (cpRd rd nu ij) wa kp so sz el pr ts nu bu ht (bI ig) th po ba en td (bI ij)) gN H1)) (mF a)) args s 0 0 (mF a)) (F0 m 126 ls []) := by
                intro k_126
                induction k_126 with
                | zero =>
                  intro i x4 hm
                  exact absurd hm (Nat.not_lt_zero _)
                | succ k_126 ih_126 =>
                  intro i x4 hm_126 hi e_x4  H locs  hW hS ls hl
                  subst e_x4
                  refine lv_iload (pc := 126) hx hb dX8_comesPiece_126 (lv_at hl 0 rfl) ?_
                  refine lv_iconst (pc := 128) (v := 3) hx hb dX8_comesPiece_128 (by decide) ?_
                  refine lv_icmp_ge (pc := 129) (tgt := 154) hx hb dX8_comesPiece_129 (by decide) (fun c_13 => ?_) (fun c_13 => ?_)
                  · skip
                    obtain rfl : i = 3 := by have := ge_nat (a := i) (b := 3) rfl rfl (by omega) (by omega) c_13; omega
                    refine lv_aload_n (pc := 154) hx hb dX8_comesPiece_154 rfl (lv_at hl 4 rfl) ?_
                    refine z_getM (pc := 155) cx (hW.at 0 rfl) 2 rfl m_fl_X8_16 rfl dX8_comesPiece_155 ?_
                    refine lv_iload_n (pc := 158) hx hb dX8_comesPiece_158 rfl (lv_at hl 1 rfl) ?_
                    refine lv_iconst (pc := 159) (v := 3) hx hb dX8_comesPiece_159 (by decide) ?_
                    refine lv_iadd (pc := 160) hx hb dX8_comesPiece_160 ?_
                    refine lv_aload_n (pc := 161) hx hb dX8_comesPiece_161 rfl (lv_at hl 4 rfl) ?_
                    refine z_getM (pc := 162) cx (hW.at 0 rfl) 17 rfl m_fl_X8_90 rfl dX8_comesPiece_162 ?_
                    refine z_ifeq (pc := 165) (tgt := 177) hx hb dX8_comesPiece_165 (by decide) (fun _ => ?_) (fun c_14 => (by first | exact absurd c_14 c_12 | exact absurd c_12 c_14 | exact absurd c_14 (i_nlt.mpr c_12) | exact absurd c_12 (i_nlt.mpr c_14) | exact absurd c_14 (i_nle.mpr c_12) | exact absurd c_12 (i_nle.mpr c_14) | exact absurd (c_14.symm.trans c_12) (by decide) | exact absurd c_12 (i_nle.mpr (i_nlt.mp c_14)) | exact absurd c_14 (i_nle.mpr (i_nlt.mp c_12))))
                    refine lv_bipush (pc := 177) (v := (-4)) hx hb dX8_comesPiece_177 (by decide) ?_
                    refine z_iast (pc := 179) (f := rwA rd nu (8 + 6 * nP rd) 3) (j := 8 + 6 * nP rd + 3) cx hW hS 3 rfl (mF_in a 3) (by simp only [nI, Int32.ofNat_add, Int32.ofNat_mul] <;> rfl) (by omega) (by decide) dX8_comesPiece_179 (fun H locs hW hS => ?_)
                    have hW : WW E (wM a (E.2.1 0) sv im (upd (rwA rd nu (8 + 6 * nP rd) 3) (8 + 6 * nP rd + 3) (-4)) wa kp so sz el pr ts nu bu ht (bI ig) th po ba en td (bI ij)) gN H := hW
                    refine lv_aload_n (pc := 180) hx hb dX8_comesPiece_180 rfl (lv_at hl 4 rfl) ?_
                    refine z_getM (pc := 181) cx (hW.at 0 rfl) 2 rfl m_fl_X8_16 rfl dX8_comesPiece_181 ?_
                    refine lv_iload_n (pc := 184) hx hb dX8_comesPiece_184 rfl (lv_at hl 1 rfl) ?_
                    refine lv_iconst (pc := 185) (v := 4) hx hb dX8_comesPiece_185 (by decide) ?_
                    refine lv_iadd (pc := 186) hx hb dX8_comesPiece_186 ?_
                    refine lv_aload_n (pc := 187) hx hb dX8_comesPiece_187 rfl (lv_at hl 4 rfl) ?_
                    refine z_getM (pc := 188) cx (hW.at 0 rfl) 17 rfl m_fl_X8_90 rfl dX8_comesPiece_188 ?_
                    refine z_ifeq (pc := 191) (tgt := 203) hx hb dX8_comesPiece_191 (by decide) (fun _ => ?_) (fun c_15 => (by first | exact absurd c_15 c_12 | exact absurd c_12 c_15 | exact absurd c_15 (i_nlt.mpr c_12) | exact absurd c_12 (i_nlt.mpr c_15) | exact absurd c_15 (i_nle.mpr c_12) | exact absurd c_12 (i_nle.mpr c_15) | exact absurd (c_15.symm.trans c_12) (by decide) | exact absurd c_12 (i_nle.mpr (i_nlt.mp c_15)) | exact absurd c_15 (i_nle.mpr (i_nlt.mp c_12))))
                    refine lv_iconst (pc := 203) (v := 0) hx hb dX8_comesPiece_203 (by decide) ?_
                    refine z_iast (pc := 204) (f := upd (rwA rd nu (8 + 6 * nP rd) 3) (8 + 6 * nP rd + 3) (-4)) (j := 8 + 6 * nP rd + 4) cx hW hS 3 rfl (mF_in a 3) (by simp only [nI, Int32.ofNat_add, Int32.ofNat_mul] <;> rfl) (by omega) (by decide) dX8_comesPiece_204 (fun H locs hW hS => ?_)
                    have hW : WW E (wM a (E.2.1 0) sv im (upd (upd (rwA rd nu (8 + 6 * nP rd) 3) (8 + 6 * nP rd + 3) (-4)) (8 + 6 * nP rd + 4) 0) wa kp so sz el pr ts nu bu ht (bI ig) th po ba en td (bI ij)) gN H := hW
                    refine lv_aload_n (pc := 205) hx hb dX8_comesPiece_205 rfl (lv_at hl 4 rfl) ?_
                    refine z_getM (pc := 206) cx (hW.at 0 rfl) 2 rfl m_fl_X8_16 rfl dX8_comesPiece_206 ?_
                    refine lv_iload_n (pc := 209) hx hb dX8_comesPiece_209 rfl (lv_at hl 1 rfl) ?_
                    refine lv_iconst (pc := 210) (v := 5) hx hb dX8_comesPiece_210 (by decide) ?_
                    refine lv_iadd (pc := 211) hx hb dX8_comesPiece_211 ?_
                    refine lv_iconst (pc := 212) (v := 0) hx hb dX8_comesPiece_212 (by decide) ?_
                    refine z_iast (pc := 213) (f := upd (upd (rwA rd nu (8 + 6 * nP rd) 3) (8 + 6 * nP rd + 3) (-4)) (8 + 6 * nP rd + 4) 0) (j := 8 + 6 * nP rd + 5) cx hW hS 3 rfl (mF_in a 3) (by simp only [nI, Int32.ofNat_add, Int32.ofNat_mul] <;> rfl) (by omega) (by decide) dX8_comesPiece_213 (fun H locs hW hS => ?_)
                    have hW : WW E (wM a (E.2.1 0) sv im (upd (upd (upd (rwA rd nu (8 + 6 * nP rd) 3) (8 + 6 * nP rd + 3) (-4)) (8 + 6 * nP rd + 4) 0) (8 + 6 * nP rd + 5) 0) wa kp so sz el pr ts nu bu ht (bI ig) th po ba en td (bI ij)) gN H := hW
                    refine lv_aload_n (pc := 214) hx hb dX8_comesPiece_214 rfl (lv_at hl 4 rfl) ?_
                    refine z_getM (pc := 215) cx (hW.at 0 rfl) 2 rfl m_fl_X8_16 rfl dX8_comesPiece_215 ?_
                    refine lv_iconst (pc := 218) (v := 0) hx hb dX8_comesPiece_218 (by decide) ?_
                    refine lv_dup2_11 (pc := 219) hx hb dX8_comesPiece_219 rfl rfl ?_
                    refine z_iald (pc := 220) (f := upd (upd (upd (rwA rd nu (8 + 6 * nP rd) 3) (8 + 6 * nP rd + 3) (-4)) (8 + 6 * nP rd + 4) 0) (8 + 6 * nP rd + 5) 0) (j := 0) cx (hW.at 3 rfl) rfl (by decide) (by decide) dX8_comesPiece_220 ?_
                    refine z_tope (y := rd 0) (cp_0 (by omega) _ _ _) ?_
                    refine lv_iconst (pc := 221) (v := 1) hx hb dX8_comesPiece_221 (by decide) ?_
                    refine lv_iadd (pc := 222) hx hb dX8_comesPiece_222 ?_
                    refine z_iast (pc := 223) (f := upd (upd (upd (rwA rd nu (8 + 6 * nP rd) 3) (8 + 6 * nP rd + 3) (-4)) (8 + 6 * nP rd + 4) 0) (8 + 6 * nP rd + 5) 0) (j := 0) cx hW hS 3 rfl (mF_in a 3) rfl (by decide) (by decide) dX8_comesPiece_223 (fun H locs hW hS => ?_)
                    have hW : WW E (wM a (E.2.1 0) sv im (upd (upd (upd (upd (rwA rd nu (8 + 6 * nP rd) 3) (8 + 6 * nP rd + 3) (-4)) (8 + 6 * nP rd + 4) 0) (8 + 6 * nP rd + 5) 0) 0 ((rd 0) + 1)) wa kp so sz el pr ts nu bu ht (bI ig) th po ba en td (bI ij)) gN H := hW
                    refine lv_iconst (pc := 224) (v := 1) hx hb dX8_comesPiece_224 (by decide) ?_
                    exact z_wzret (b := true) cx hr hlk dX8_comesPiece_225 hS ⟨(sI (by first | rfl | (simp [cpO, e0, c_1, c_3, c_5, c_7, c_9, c_12, i_nle.mp c_7]; done))), (by rw [show (cpRd rd nu ij) = upd (upd (upd (upd (rwA rd nu (8 + 6 * nP rd) 3) (8 + 6 * nP rd + 3) (-4)) (8 + 6 * nP rd + 4) 0) (8 + 6 * nP rd + 5) 0) 0 ((rd 0) + 1) from (by first | rfl | (simp [cpRd, cpO, cpX, rwA, e0, c_1, c_3, c_5, c_7, c_9, c_12, i_nle.mp c_7]; done))]; exact hW)⟩
                  · skip
                    have hlt_i := lt_nat (a := i) (b := 3) rfl rfl (by omega) (by omega) c_13
                    refine lv_aload_n (pc := 132) hx hb dX8_comesPiece_132 rfl (lv_at hl 4 rfl) ?_
                    refine z_getM (pc := 133) cx (hW.at 0 rfl) 2 rfl m_fl_X8_16 rfl dX8_comesPiece_133 ?_
                    refine lv_iload_n (pc := 136) hx hb dX8_comesPiece_136 rfl (lv_at hl 1 rfl) ?_
                    refine lv_iload (pc := 137) hx hb dX8_comesPiece_137 (lv_at hl 0 rfl) ?_
                    refine lv_iadd (pc := 139) hx hb dX8_comesPiece_139 ?_
                    refine lv_aload_n (pc := 140) hx hb dX8_comesPiece_140 rfl (lv_at hl 4 rfl) ?_
                    refine z_getM (pc := 141) cx (hW.at 0 rfl) 16 rfl m_fl_X8_40 rfl dX8_comesPiece_141 ?_
                    refine lv_iload (pc := 144) hx hb dX8_comesPiece_144 (lv_at hl 0 rfl) ?_
                    refine z_iald (pc := 146) (f := nu) (j := i) cx (hW.at 11 rfl) rfl (by omega) (by decide) dX8_comesPiece_146 ?_
                    refine z_iast (pc := 147) (f := rwA rd nu (8 + 6 * nP rd) i) (j := 8 + 6 * nP rd + i) cx hW hS 3 rfl (mF_in a 3) (by simp only [nI, Int32.ofNat_add, Int32.ofNat_mul] <;> rfl) (by omega) (by decide) dX8_comesPiece_147 (fun H locs hW hS => ?_)
                    have hW : WW E (wM a (E.2.1 0) sv im (upd (rwA rd nu (8 + 6 * nP rd) i) (8 + 6 * nP rd + i) (nu i)) wa kp so sz el pr ts nu bu ht (bI ig) th po ba en td (bI ij)) gN H := hW
                    refine lv_iinc (pc := 148) (v := nI (i + 1)) (lv' := [(4, .int (nI (i + 1))), (3, .int (nI (8 + 6 * nP rd))), (2, .int 1), (1, .int (nI (nP rd))), (0, .ref (a 0))]) hx hb dX8_comesPiece_148 hl (k := 0) rfl (nI_1 _) (by decide) rfl (fun ls hl => ?_)
                    refine lv_goto (pc := 151) (tgt := 126) hx hb dX8_comesPiece_151 (by decide) ?_
                    exact ih_126 (i + 1) (nI (i + 1)) (by omega) (by omega) (by first | rfl | (simp [cpO, e0, c_1, c_3, c_5, c_7, c_9, c_12, i_nle.mp c_7]; done))  _ _  (hW) hS ls (lv_sub hl [0, 1, 2, 3, 4] rfl)
              exact loop_126 ((3 - 0) + 1) 0 0 (Nat.lt_succ_self _) (by omega) (by first | rfl | (simp [cpO, e0, c_1, c_3, c_5, c_7, c_9, c_12, i_nle.mp c_7]; done))  _ _  (hW) hS ls (lv_sub hl [0, 1, 2, 3, 4] rfl)
            · skip
              refine lv_aload_n (pc := 92) hx hb dX8_comesPiece_92 rfl (lv_at hl 2 rfl) ?_
              refine z_getM (pc := 93) cx (hW.at 0 rfl) 16 rfl m_fl_X8_40 rfl dX8_comesPiece_93 ?_
              refine lv_iconst (pc := 96) (v := 3) hx hb dX8_comesPiece_96 (by decide) ?_
              refine z_iald (pc := 97) (f := nu) (j := 3) cx (hW.at 11 rfl) rfl (by decide) (by decide) dX8_comesPiece_97 ?_
              refine lv_iload_n (pc := 98) hx hb dX8_comesPiece_98 rfl (lv_at hl 1 rfl) ?_
              refine lv_icmp_ge (pc := 99) (tgt := 113) hx hb dX8_comesPiece_99 (by decide) (fun c_16 => ?_) (fun c_16 => ?_)
              · skip
                refine lv_iconst (pc := 113) (v := 0) hx hb dX8_comesPiece_113 (by decide) ?_
                exact z_wzret (b := false) cx hr hlk dX8_comesPiece_114 hS ⟨(sI (by first | rfl | (simp [cpO, e0, c_1, c_3, c_5, c_7, c_9, c_12, c_16, i_nle.mp c_7, i_nlt.mpr c_16]; done))), (by rw [show (cpRd rd nu ij) = rd from (by first | rfl | (simp [cpRd, cpO, cpX, rwA, e0, c_1, c_3, c_5, c_7, c_9, c_12, c_16, i_nle.mp c_7, i_nlt.mpr c_16]; done))]; exact hW)⟩
              · skip
                refine lv_aload_n (pc := 102) hx hb dX8_comesPiece_102 rfl (lv_at hl 2 rfl) ?_
                refine z_getM (pc := 103) cx (hW.at 0 rfl) 16 rfl m_fl_X8_40 rfl dX8_comesPiece_103 ?_
                refine lv_iconst (pc := 106) (v := 4) hx hb dX8_comesPiece_106 (by decide) ?_
                refine z_iald (pc := 107) (f := nu) (j := 4) cx (hW.at 11 rfl) rfl (by decide) (by decide) dX8_comesPiece_107 ?_
                refine lv_bipush (pc := 108) (v := 99) hx hb dX8_comesPiece_108 (by decide) ?_
                refine lv_icmp_le (pc := 110) (tgt := 115) hx hb dX8_comesPiece_110 (by decide) (fun c_17 => ?_) (fun c_17 => ?_)
                · skip
                  refine lv_bipush (pc := 115) (v := 8) hx hb dX8_comesPiece_115 (by decide) ?_
                  refine lv_bipush (pc := 117) (v := 6) hx hb dX8_comesPiece_117 (by decide) ?_
                  refine lv_iload_n (pc := 119) hx hb dX8_comesPiece_119 rfl (lv_at hl 1 rfl) ?_
                  refine lv_imul (pc := 120) hx hb dX8_comesPiece_120 ?_
                  refine lv_iadd (pc := 121) hx hb dX8_comesPiece_121 ?_
                  refine z_tope (y := nI (8 + 6 * nP rd)) (ix_86 _) ?_
                  refine lv_istore_n (pc := 122) (lv' := [(3, .int (nI (8 + 6 * nP rd))), (2, .int 1), (1, .int (nI (nP rd))), (0, .ref (a 0))]) hx hb dX8_comesPiece_122 rfl hl (by decide) rfl (fun ls hl => ?_)
                  refine lv_iconst (pc := 123) (v := 0) hx hb dX8_comesPiece_123 (by decide) ?_
                  refine lv_istore (pc := 124) (lv' := [(4, .int 0), (3, .int (nI (8 + 6 * nP rd))), (2, .int 1), (1, .int (nI (nP rd))), (0, .ref (a 0))]) hx hb dX8_comesPiece_124 hl (by decide) rfl (fun ls hl => ?_)
                  have loop_126 : ∀ (k_126 : Nat) (i : Nat) (x4 : Int32), (3 - i) < k_126 → (i ≤ 3) → x4 = nI i → ∀ (H : Heap) (locs : List Loc), WW E (wM a (E.2.1 0) sv im (rwA rd nu (8 + 6 * nP rd) i) wa kp so sz el pr ts nu bu ht (bI ig) th po ba en td (bI ij)) gN H → va_S (mF a) s.heap H locs → ∀ (ls : Array Slot), lv_has ls 5 [(4, .int x4), (3, .int (nI (8 + 6 * nP rd))), (2, .int 1), (1, .int (nI (nP rd))), (0, .ref (a 0))] → W p l e (rm0' (1) (25)) s m args below meth c H locs 0 0 (MQ below (zQ (fun (_ : Heap) (v : Option Value) (H1 : Heap) => (v = some (.int (bI (cpO rd nu ij))) ∧ WW E (wM a (E.2.1 0) sv im (cpRd rd nu ij) wa kp so sz el pr ts nu bu ht (bI ig) th po ba en td (bI ij)) gN H1)) (mF a)) args s 0 0 (mF a)) (F0 m 126 ls []) := by
                    intro k_126
                    induction k_126 with
                    | zero =>
                      intro i x4 hm
                      exact absurd hm (Nat.not_lt_zero _)
                    | succ k_126 ih_126 =>
                      intro i x4 hm_126 hi e_x4  H locs  hW hS ls hl
                      subst e_x4
                      refine lv_iload (pc := 126) hx hb dX8_comesPiece_126 (lv_at hl 0 rfl) ?_
                      refine lv_iconst (pc := 128) (v := 3) hx hb dX8_comesPiece_128 (by decide) ?_
                      refine lv_icmp_ge (pc := 129) (tgt := 154) hx hb dX8_comesPiece_129 (by decide) (fun c_18 => ?_) (fun c_18 => ?_)
                      · skip
                        obtain rfl : i = 3 := by have := ge_nat (a := i) (b := 3) rfl rfl (by omega) (by omega) c_18; omega
                        refine lv_aload_n (pc := 154) hx hb dX8_comesPiece_154 rfl (lv_at hl 4 rfl) ?_
                        refine z_getM (pc := 155) cx (hW.at 0 rfl) 2 rfl m_fl_X8_16 rfl dX8_comesPiece_155 ?_
                        refine lv_iload_n (pc := 158) hx hb dX8_comesPiece_158 rfl (lv_at hl 1 rfl) ?_
                        refine lv_iconst (pc := 159) (v := 3) hx hb dX8_comesPiece_159 (by decide) ?_
                        refine lv_iadd (pc := 160) hx hb dX8_comesPiece_160 ?_
                        refine lv_aload_n (pc := 161) hx hb dX8_comesPiece_161 rfl (lv_at hl 4 rfl) ?_
                        refine z_getM (pc := 162) cx (hW.at 0 rfl) 17 rfl m_fl_X8_90 rfl dX8_comesPiece_162 ?_
                        refine z_ifeq (pc := 165) (tgt := 177) hx hb dX8_comesPiece_165 (by decide) (fun c_19 => (by first | exact absurd c_19 c_12 | exact absurd c_12 c_19 | exact absurd c_19 (i_nlt.mpr c_12) | exact absurd c_12 (i_nlt.mpr c_19) | exact absurd c_19 (i_nle.mpr c_12) | exact absurd c_12 (i_nle.mpr c_19) | exact absurd (c_19.symm.trans c_12) (by decide) | exact absurd c_12 (i_nle.mpr (i_nlt.mp c_19)) | exact absurd c_19 (i_nle.mpr (i_nlt.mp c_12)))) (fun _ => ?_)
                        refine lv_aload_n (pc := 168) hx hb dX8_comesPiece_168 rfl (lv_at hl 4 rfl) ?_
                        refine z_getM (pc := 169) cx (hW.at 0 rfl) 16 rfl m_fl_X8_40 rfl dX8_comesPiece_169 ?_
                        refine lv_iconst (pc := 172) (v := 3) hx hb dX8_comesPiece_172 (by decide) ?_
                        refine z_iald (pc := 173) (f := nu) (j := 3) cx (hW.at 11 rfl) rfl (by decide) (by decide) dX8_comesPiece_173 ?_
                        refine lv_goto (pc := 174) (tgt := 179) hx hb dX8_comesPiece_174 (by decide) ?_
                        refine z_iast (pc := 179) (f := rwA rd nu (8 + 6 * nP rd) 3) (j := 8 + 6 * nP rd + 3) cx hW hS 3 rfl (mF_in a 3) (by simp only [nI, Int32.ofNat_add, Int32.ofNat_mul] <;> rfl) (by omega) (by decide) dX8_comesPiece_179 (fun H locs hW hS => ?_)
                        have hW : WW E (wM a (E.2.1 0) sv im (upd (rwA rd nu (8 + 6 * nP rd) 3) (8 + 6 * nP rd + 3) (nu 3)) wa kp so sz el pr ts nu bu ht (bI ig) th po ba en td (bI ij)) gN H := hW
                        refine lv_aload_n (pc := 180) hx hb dX8_comesPiece_180 rfl (lv_at hl 4 rfl) ?_
                        refine z_getM (pc := 181) cx (hW.at 0 rfl) 2 rfl m_fl_X8_16 rfl dX8_comesPiece_181 ?_
                        refine lv_iload_n (pc := 184) hx hb dX8_comesPiece_184 rfl (lv_at hl 1 rfl) ?_
                        refine lv_iconst (pc := 185) (v := 4) hx hb dX8_comesPiece_185 (by decide) ?_
                        refine lv_iadd (pc := 186) hx hb dX8_comesPiece_186 ?_
                        refine lv_aload_n (pc := 187) hx hb dX8_comesPiece_187 rfl (lv_at hl 4 rfl) ?_
                        refine z_getM (pc := 188) cx (hW.at 0 rfl) 17 rfl m_fl_X8_90 rfl dX8_comesPiece_188 ?_
                        refine z_ifeq (pc := 191) (tgt := 203) hx hb dX8_comesPiece_191 (by decide) (fun c_20 => (by first | exact absurd c_20 c_12 | exact absurd c_12 c_20 | exact absurd c_20 (i_nlt.mpr c_12) | exact absurd c_12 (i_nlt.mpr c_20) | exact absurd c_20 (i_nle.mpr c_12) | exact absurd c_12 (i_nle.mpr c_20) | exact absurd (c_20.symm.trans c_12) (by decide) | exact absurd c_12 (i_nle.mpr (i_nlt.mp c_20)) | exact absurd c_20 (i_nle.mpr (i_nlt.mp c_12)))) (fun _ => ?_)
                        refine lv_aload_n (pc := 194) hx hb dX8_comesPiece_194 rfl (lv_at hl 4 rfl) ?_
                        refine z_getM (pc := 195) cx (hW.at 0 rfl) 16 rfl m_fl_X8_40 rfl dX8_comesPiece_195 ?_
                        refine lv_iconst (pc := 198) (v := 4) hx hb dX8_comesPiece_198 (by decide) ?_
                        refine z_iald (pc := 199) (f := nu) (j := 4) cx (hW.at 11 rfl) rfl (by decide) (by decide) dX8_comesPiece_199 ?_
                        refine lv_goto (pc := 200) (tgt := 204) hx hb dX8_comesPiece_200 (by decide) ?_
                        refine z_iast (pc := 204) (f := upd (rwA rd nu (8 + 6 * nP rd) 3) (8 + 6 * nP rd + 3) (nu 3)) (j := 8 + 6 * nP rd + 4) cx hW hS 3 rfl (mF_in a 3) (by simp only [nI, Int32.ofNat_add, Int32.ofNat_mul] <;> rfl) (by omega) (by decide) dX8_comesPiece_204 (fun H locs hW hS => ?_)
                        have hW : WW E (wM a (E.2.1 0) sv im (upd (upd (rwA rd nu (8 + 6 * nP rd) 3) (8 + 6 * nP rd + 3) (nu 3)) (8 + 6 * nP rd + 4) (nu 4)) wa kp so sz el pr ts nu bu ht (bI ig) th po ba en td (bI ij)) gN H := hW
                        refine lv_aload_n (pc := 205) hx hb dX8_comesPiece_205 rfl (lv_at hl 4 rfl) ?_
                        refine z_getM (pc := 206) cx (hW.at 0 rfl) 2 rfl m_fl_X8_16 rfl dX8_comesPiece_206 ?_
                        refine lv_iload_n (pc := 209) hx hb dX8_comesPiece_209 rfl (lv_at hl 1 rfl) ?_
                        refine lv_iconst (pc := 210) (v := 5) hx hb dX8_comesPiece_210 (by decide) ?_
                        refine lv_iadd (pc := 211) hx hb dX8_comesPiece_211 ?_
                        refine lv_iconst (pc := 212) (v := 0) hx hb dX8_comesPiece_212 (by decide) ?_
                        refine z_iast (pc := 213) (f := upd (upd (rwA rd nu (8 + 6 * nP rd) 3) (8 + 6 * nP rd + 3) (nu 3)) (8 + 6 * nP rd + 4) (nu 4)) (j := 8 + 6 * nP rd + 5) cx hW hS 3 rfl (mF_in a 3) (by simp only [nI, Int32.ofNat_add, Int32.ofNat_mul] <;> rfl) (by omega) (by decide) dX8_comesPiece_213 (fun H locs hW hS => ?_)
                        have hW : WW E (wM a (E.2.1 0) sv im (upd (upd (upd (rwA rd nu (8 + 6 * nP rd) 3) (8 + 6 * nP rd + 3) (nu 3)) (8 + 6 * nP rd + 4) (nu 4)) (8 + 6 * nP rd + 5) 0) wa kp so sz el pr ts nu bu ht (bI ig) th po ba en td (bI ij)) gN H := hW
                        refine lv_aload_n (pc := 214) hx hb dX8_comesPiece_214 rfl (lv_at hl 4 rfl) ?_
                        refine z_getM (pc := 215) cx (hW.at 0 rfl) 2 rfl m_fl_X8_16 rfl dX8_comesPiece_215 ?_
                        refine lv_iconst (pc := 218) (v := 0) hx hb dX8_comesPiece_218 (by decide) ?_
                        refine lv_dup2_11 (pc := 219) hx hb dX8_comesPiece_219 rfl rfl ?_
                        refine z_iald (pc := 220) (f := upd (upd (upd (rwA rd nu (8 + 6 * nP rd) 3) (8 + 6 * nP rd + 3) (nu 3)) (8 + 6 * nP rd + 4) (nu 4)) (8 + 6 * nP rd + 5) 0) (j := 0) cx (hW.at 3 rfl) rfl (by decide) (by decide) dX8_comesPiece_220 ?_
                        refine z_tope (y := rd 0) (cp_0 (by omega) _ _ _) ?_
                        refine lv_iconst (pc := 221) (v := 1) hx hb dX8_comesPiece_221 (by decide) ?_
                        refine lv_iadd (pc := 222) hx hb dX8_comesPiece_222 ?_
                        refine z_iast (pc := 223) (f := upd (upd (upd (rwA rd nu (8 + 6 * nP rd) 3) (8 + 6 * nP rd + 3) (nu 3)) (8 + 6 * nP rd + 4) (nu 4)) (8 + 6 * nP rd + 5) 0) (j := 0) cx hW hS 3 rfl (mF_in a 3) rfl (by decide) (by decide) dX8_comesPiece_223 (fun H locs hW hS => ?_)
                        have hW : WW E (wM a (E.2.1 0) sv im (upd (upd (upd (upd (rwA rd nu (8 + 6 * nP rd) 3) (8 + 6 * nP rd + 3) (nu 3)) (8 + 6 * nP rd + 4) (nu 4)) (8 + 6 * nP rd + 5) 0) 0 ((rd 0) + 1)) wa kp so sz el pr ts nu bu ht (bI ig) th po ba en td (bI ij)) gN H := hW
                        refine lv_iconst (pc := 224) (v := 1) hx hb dX8_comesPiece_224 (by decide) ?_
                        exact z_wzret (b := true) cx hr hlk dX8_comesPiece_225 hS ⟨(sI (by first | rfl | (simp [cpO, e0, c_1, c_3, c_5, c_7, c_9, c_12, c_16, c_17, i_nle.mp c_7, i_nle.mp c_16, i_nlt.mpr c_17]; done))), (by rw [show (cpRd rd nu ij) = upd (upd (upd (upd (rwA rd nu (8 + 6 * nP rd) 3) (8 + 6 * nP rd + 3) (nu 3)) (8 + 6 * nP rd + 4) (nu 4)) (8 + 6 * nP rd + 5) 0) 0 ((rd 0) + 1) from (by first | rfl | (simp [cpRd, cpO, cpX, rwA, e0, c_1, c_3, c_5, c_7, c_9, c_12, c_16, c_17, i_nle.mp c_7, i_nle.mp c_16, i_nlt.mpr c_17]; done))]; exact hW)⟩
                      · skip
                        have hlt_i := lt_nat (a := i) (b := 3) rfl rfl (by omega) (by omega) c_18
                        refine lv_aload_n (pc := 132) hx hb dX8_comesPiece_132 rfl (lv_at hl 4 rfl) ?_
                        refine z_getM (pc := 133) cx (hW.at 0 rfl) 2 rfl m_fl_X8_16 rfl dX8_comesPiece_133 ?_
                        refine lv_iload_n (pc := 136) hx hb dX8_comesPiece_136 rfl (lv_at hl 1 rfl) ?_
                        refine lv_iload (pc := 137) hx hb dX8_comesPiece_137 (lv_at hl 0 rfl) ?_
                        refine lv_iadd (pc := 139) hx hb dX8_comesPiece_139 ?_
                        refine lv_aload_n (pc := 140) hx hb dX8_comesPiece_140 rfl (lv_at hl 4 rfl) ?_
                        refine z_getM (pc := 141) cx (hW.at 0 rfl) 16 rfl m_fl_X8_40 rfl dX8_comesPiece_141 ?_
                        refine lv_iload (pc := 144) hx hb dX8_comesPiece_144 (lv_at hl 0 rfl) ?_
                        refine z_iald (pc := 146) (f := nu) (j := i) cx (hW.at 11 rfl) rfl (by omega) (by decide) dX8_comesPiece_146 ?_
                        refine z_iast (pc := 147) (f := rwA rd nu (8 + 6 * nP rd) i) (j := 8 + 6 * nP rd + i) cx hW hS 3 rfl (mF_in a 3) (by simp only [nI, Int32.ofNat_add, Int32.ofNat_mul] <;> rfl) (by omega) (by decide) dX8_comesPiece_147 (fun H locs hW hS => ?_)
                        have hW : WW E (wM a (E.2.1 0) sv im (upd (rwA rd nu (8 + 6 * nP rd) i) (8 + 6 * nP rd + i) (nu i)) wa kp so sz el pr ts nu bu ht (bI ig) th po ba en td (bI ij)) gN H := hW
                        refine lv_iinc (pc := 148) (v := nI (i + 1)) (lv' := [(4, .int (nI (i + 1))), (3, .int (nI (8 + 6 * nP rd))), (2, .int 1), (1, .int (nI (nP rd))), (0, .ref (a 0))]) hx hb dX8_comesPiece_148 hl (k := 0) rfl (nI_1 _) (by decide) rfl (fun ls hl => ?_)
                        refine lv_goto (pc := 151) (tgt := 126) hx hb dX8_comesPiece_151 (by decide) ?_
                        exact ih_126 (i + 1) (nI (i + 1)) (by omega) (by omega) (by first | rfl | (simp [cpO, e0, c_1, c_3, c_5, c_7, c_9, c_12, c_16, c_17, i_nle.mp c_7, i_nle.mp c_16, i_nlt.mpr c_17]; done))  _ _  (hW) hS ls (lv_sub hl [0, 1, 2, 3, 4] rfl)
                  exact loop_126 ((3 - 0) + 1) 0 0 (Nat.lt_succ_self _) (by omega) (by first | rfl | (simp [cpO, e0, c_1, c_3, c_5, c_7, c_9, c_12, c_16, c_17, i_nle.mp c_7, i_nle.mp c_16, i_nlt.mpr c_17]; done))  _ _  (hW) hS ls (lv_sub hl [0, 1, 2, 3, 4] rfl)
                · skip
                  refine lv_iconst (pc := 113) (v := 0) hx hb dX8_comesPiece_113 (by decide) ?_
                  exact z_wzret (b := false) cx hr hlk dX8_comesPiece_114 hS ⟨(sI (by first | rfl | (simp [cpO, e0, c_1, c_3, c_5, c_7, c_9, c_12, c_16, c_17, i_nle.mp c_7, i_nle.mp c_16, i_nle.mp c_17]; done))), (by rw [show (cpRd rd nu ij) = rd from (by first | rfl | (simp [cpRd, cpO, cpX, rwA, e0, c_1, c_3, c_5, c_7, c_9, c_12, c_16, c_17, i_nle.mp c_7, i_nle.mp c_16, i_nle.mp c_17]; done))]; exact hW)⟩
theorem k_X8_comesPiece {p : Program} {l : Launch} {e : Env} {R : Room} {s : State} {m : MethodId} {args : Array Value} {below : List Frame} {meth : Method} {c : Code} {H H0 : Heap} {locs : List Loc} {cells slots : Nat} {Q : State → Prop} {cc : ByteArray} {pc index : Nat} {ls : Array Slot} {rest st0 : List Value} {E : zE} {own : String} {nL : Nat} {F : Nat → Prop} {a : Nat → Nat} {sv im rd wa kp so sz el pr ts nu bu ht : Nat → Int32} {th po ba en td : Int32} {ig : Bool} {ij : Bool}  (cx : Cx E p s args m c own cc nL) (hW : WW E (wM a (E.2.1 0) sv im rd wa kp so sz el pr ts nu bu ht (bI ig) th po ba en td (bI ij)) gN H) (hS : va_S F H0 H locs) (zF : ∀ q, (mF a) q → F q) (hC : InvC rd) (zl : Cond.methodLink own index yX8_comesPiece ∈ AllW) (zR : 1 + 1 ≤ R.frames ∧ 8 + (5 + 11) + 25 ≤ R.locals) (zs : ls.size = nL) (zt : st0 = ([] : List Value).reverse ++ .ref (a 0) :: rest) (z8 : (rest.map fun v => v.category).sum ≤ 8) (zd : decode cc pc = .ok (.invokevirtual index, 3)) (zf : cells ≤ R.cells ∧ slots ≤ R.slots) (kk0 : ∀  (H1 : Heap) (locs1 : List Loc), WW E (wM a (E.2.1 0) sv im (cpRd rd nu ij) wa kp so sz el pr ts nu bu ht (bI ig) th po ba en td (bI ij)) gN H1 → va_S F H0 H1 locs1 → W p l e R s m args below meth c H1 locs1 cells slots Q (F0 m (pc + 3) ls (.int (bI (cpO rd nu ij)) :: rest))) : W p l e R s m args below meth c H locs cells slots Q (F0 m pc ls st0) := by
  refine z_callVw cx vm_X8_comesPiece (c_X8_comesPiece l E a sv im rd wa kp so sz el pr ts nu bu ht th po ba en td ig ij hC) (z_rec cx.2 (hW.at 0 rfl) rfl) hW hS zF zl ⟨rfl, rfl⟩ zR rfl zs zt z8 zd zf (fun v H1 locs1 hq hS1 _ => ?_)
  rcases hq with ⟨rfl, hW1⟩
  · exact kk0  H1 locs1  hW1 hS1
theorem vm_X8_comesThing : zVm yX8_comesThing cX8_comesThing 4 (some FieldType.boolean) 0 := ⟨m_co_X8_comesThing, m_in_RX8, ⟨m_im_X8_comesThing, m_se_X8_X8_comesThing⟩, by decide +kernel, by decide +kernel, by decide +kernel⟩
set_option maxHeartbeats 1000000 in
set_option maxRecDepth 100000 in
theorem c_X8_comesThing (l : Launch) (E : zE) (a : Nat → Nat) (sv im rd wa kp so sz el pr ts nu bu ht : Nat → Int32) (th po ba en td : Int32) (ig : Bool) (ij : Bool)  (hC : InvC rd) : Met l yX8_comesThing (.code yX8_comesThing cX8_comesThing 4 (some FieldType.boolean) :: AllW) (rm0' 1 25) (zP E (fun H => WW E (wM a (E.2.1 0) sv im rd wa kp so sz el pr ts nu bu ht (bI ig) th po ba en td (bI ij)) gN H) [.ref (a 0)]) (zQ (fun (_ : Heap) (v : Option Value) (H1 : Heap) => (v = some (.int (bI (ctO rd nu))) ∧ WW E (wM a (E.2.1 0) sv im (ctRd rd nu) wa kp so sz el pr ts nu bu ht (bI ig) th po ba en td (bI ij)) gN H1)) (mF a)) 0 0 (mF a) := by
  refine z_body (own := RX8) (by decide) rfl rfl ?_
  intro p e s m args below meth c ls cx hr hlk hnm hW hl
  have hx := cx.x
  have hb := cx.b
  have hl : lv_has ls 4 [(0, .ref (a 0))] := hl
  have hS : va_S (mF a) s.heap s.heap [] := va_S.rf
  have h0 := Inv.n1 hC
  have e0 := h0.1
  refine lv_aload_n (pc := 0) hx hb dX8_comesThing_0 rfl (lv_at hl 0 rfl) ?_
  refine z_getM (pc := 1) cx (hW.at 0 rfl) 2 rfl m_fl_X8_16 rfl dX8_comesThing_1 ?_
  refine lv_iconst (pc := 4) (v := 1) hx hb dX8_comesThing_4 (by decide) ?_
  refine z_iald (pc := 5) (f := rd) (j := 1) cx (hW.at 3 rfl) rfl (by decide) (by decide) dX8_comesThing_5 ?_
  refine z_tope (y := nI (nT rd)) e0 ?_
  refine lv_istore_n (pc := 6) (lv' := [(1, .int (nI (nT rd))), (0, .ref (a 0))]) hx hb dX8_comesThing_6 rfl hl (by decide) rfl (fun ls hl => ?_)
  refine lv_aload_n (pc := 7) hx hb dX8_comesThing_7 rfl (lv_at hl 1 rfl) ?_
  refine z_getM (pc := 8) cx (hW.at 0 rfl) 16 rfl m_fl_X8_40 rfl dX8_comesThing_8 ?_
  refine lv_iconst (pc := 11) (v := 0) hx hb dX8_comesThing_11 (by decide) ?_
  refine z_iald (pc := 12) (f := nu) (j := 0) cx (hW.at 11 rfl) rfl (by decide) (by decide) dX8_comesThing_12 ?_
  refine lv_bipush (pc := 13) (v := 8) hx hb dX8_comesThing_13 (by decide) ?_
  refine lv_icmp_ge (pc := 15) (tgt := 78) hx hb dX8_comesThing_15 (by decide) (fun c_1 => ?_) (fun c_1 => ?_)
  · skip
    refine lv_iconst (pc := 78) (v := 0) hx hb dX8_comesThing_78 (by decide) ?_
    refine lv_istore_n (pc := 79) (lv' := [(2, .int 0), (1, .int (nI (nT rd))), (0, .ref (a 0))]) hx hb dX8_comesThing_79 rfl hl (by decide) rfl (fun ls hl => ?_)
    refine lv_iload_n (pc := 80) hx hb dX8_comesThing_80 rfl (lv_at hl 0 rfl) ?_
    refine lv_if_ne (pc := 81) (tgt := 86) hx hb dX8_comesThing_81 (by decide) (fun c => (c (by decide)).elim) (fun _ => ?_)
    refine lv_iconst (pc := 84) (v := 0) hx hb dX8_comesThing_84 (by decide) ?_
    exact z_wzret (b := false) cx hr hlk dX8_comesThing_85 hS ⟨(sI (by first | rfl | (simp [ctO, e0, c_1, i_nlt.mpr c_1]; done))), (by rw [show (ctRd rd nu) = rd from (by first | rfl | (simp [ctRd, ctO, ctX, rwA, e0, c_1, i_nlt.mpr c_1]; done))]; exact hW)⟩
  · skip
    refine lv_aload_n (pc := 18) hx hb dX8_comesThing_18 rfl (lv_at hl 1 rfl) ?_
    refine z_getM (pc := 19) cx (hW.at 0 rfl) 16 rfl m_fl_X8_40 rfl dX8_comesThing_19 ?_
    refine lv_iconst (pc := 22) (v := 1) hx hb dX8_comesThing_22 (by decide) ?_
    refine z_iald (pc := 23) (f := nu) (j := 1) cx (hW.at 11 rfl) rfl (by decide) (by decide) dX8_comesThing_23 ?_
    refine lv_aload_n (pc := 24) hx hb dX8_comesThing_24 rfl (lv_at hl 1 rfl) ?_
    refine z_getM (pc := 25) cx (hW.at 0 rfl) 2 rfl m_fl_X8_16 rfl dX8_comesThing_25 ?_
    refine lv_iconst (pc := 28) (v := 0) hx hb dX8_comesThing_28 (by decide) ?_
    refine z_iald (pc := 29) (f := rd) (j := 0) cx (hW.at 3 rfl) rfl (by decide) (by decide) dX8_comesThing_29 ?_
    refine lv_icmp_ge (pc := 30) (tgt := 78) hx hb dX8_comesThing_30 (by decide) (fun c_3 => ?_) (fun c_3 => ?_)
    · skip
      refine lv_iconst (pc := 78) (v := 0) hx hb dX8_comesThing_78 (by decide) ?_
      refine lv_istore_n (pc := 79) (lv' := [(2, .int 0), (1, .int (nI (nT rd))), (0, .ref (a 0))]) hx hb dX8_comesThing_79 rfl hl (by decide) rfl (fun ls hl => ?_)
      refine lv_iload_n (pc := 80) hx hb dX8_comesThing_80 rfl (lv_at hl 0 rfl) ?_
      refine lv_if_ne (pc := 81) (tgt := 86) hx hb dX8_comesThing_81 (by decide) (fun c => (c (by decide)).elim) (fun _ => ?_)
      refine lv_iconst (pc := 84) (v := 0) hx hb dX8_comesThing_84 (by decide) ?_
      exact z_wzret (b := false) cx hr hlk dX8_comesThing_85 hS ⟨(sI (by first | rfl | (simp [ctO, e0, c_1, c_3, i_nle.mp c_1, i_nlt.mpr c_3]; done))), (by rw [show (ctRd rd nu) = rd from (by first | rfl | (simp [ctRd, ctO, ctX, rwA, e0, c_1, c_3, i_nle.mp c_1, i_nlt.mpr c_3]; done))]; exact hW)⟩
    · skip
      refine lv_aload_n (pc := 33) hx hb dX8_comesThing_33 rfl (lv_at hl 1 rfl) ?_
      refine z_getM (pc := 34) cx (hW.at 0 rfl) 16 rfl m_fl_X8_40 rfl dX8_comesThing_34 ?_
      refine lv_iconst (pc := 37) (v := 2) hx hb dX8_comesThing_37 (by decide) ?_
      refine z_iald (pc := 38) (f := nu) (j := 2) cx (hW.at 11 rfl) rfl (by decide) (by decide) dX8_comesThing_38 ?_
      refine lv_if_le (pc := 39) (tgt := 78) hx hb dX8_comesThing_39 (by decide) (fun c_5 => ?_) (fun c_5 => ?_)
      · skip
        refine lv_iconst (pc := 78) (v := 0) hx hb dX8_comesThing_78 (by decide) ?_
        refine lv_istore_n (pc := 79) (lv' := [(2, .int 0), (1, .int (nI (nT rd))), (0, .ref (a 0))]) hx hb dX8_comesThing_79 rfl hl (by decide) rfl (fun ls hl => ?_)
        refine lv_iload_n (pc := 80) hx hb dX8_comesThing_80 rfl (lv_at hl 0 rfl) ?_
        refine lv_if_ne (pc := 81) (tgt := 86) hx hb dX8_comesThing_81 (by decide) (fun c => (c (by decide)).elim) (fun _ => ?_)
        refine lv_iconst (pc := 84) (v := 0) hx hb dX8_comesThing_84 (by decide) ?_
        exact z_wzret (b := false) cx hr hlk dX8_comesThing_85 hS ⟨(sI (by first | rfl | (simp [ctO, e0, c_1, c_3, c_5, i_nle.mp c_1, i_nle.mp c_3, i_nlt.mpr c_5]; done))), (by rw [show (ctRd rd nu) = rd from (by first | rfl | (simp [ctRd, ctO, ctX, rwA, e0, c_1, c_3, c_5, i_nle.mp c_1, i_nle.mp c_3, i_nlt.mpr c_5]; done))]; exact hW)⟩
      · skip
        refine lv_aload_n (pc := 42) hx hb dX8_comesThing_42 rfl (lv_at hl 1 rfl) ?_
        refine z_getM (pc := 43) cx (hW.at 0 rfl) 16 rfl m_fl_X8_40 rfl dX8_comesThing_43 ?_
        refine lv_iconst (pc := 46) (v := 4) hx hb dX8_comesThing_46 (by decide) ?_
        refine z_iald (pc := 47) (f := nu) (j := 4) cx (hW.at 11 rfl) rfl (by decide) (by decide) dX8_comesThing_47 ?_
        refine lv_i2l (pc := 48) (v := Int32.toInt64 (nu 4)) hx hb dX8_comesThing_48 rfl ?_
        refine lv_lconst (pc := 49) (v := 1) hx hb dX8_comesThing_49 rfl ?_
        refine lv_ldc2 (pc := 50) (v := 99) hx hb cx.own (cx.ts _ m_kl_X8_61) dX8_comesThing_50 ?_
        refine k_X8_isIn (pc := 53) (x := (nu 4)) (y := 1) (z := 99) cx  m_ml_X8_53 ⟨Nat.le_of_ble_eq_true rfl, Nat.le_of_ble_eq_true rfl⟩ hl.1 rfl (by simp [Value.category]) dX8_comesThing_53 ⟨Nat.le_refl _, Nat.le_refl _⟩ ?_
        refine z_ifeq (pc := 56) (tgt := 78) hx hb dX8_comesThing_56 (by decide) (fun c_7 => ?_) (fun c_7 => ?_)
        · skip
          refine lv_iconst (pc := 78) (v := 0) hx hb dX8_comesThing_78 (by decide) ?_
          refine lv_istore_n (pc := 79) (lv' := [(2, .int 0), (1, .int (nI (nT rd))), (0, .ref (a 0))]) hx hb dX8_comesThing_79 rfl hl (by decide) rfl (fun ls hl => ?_)
          refine lv_iload_n (pc := 80) hx hb dX8_comesThing_80 rfl (lv_at hl 0 rfl) ?_
          refine lv_if_ne (pc := 81) (tgt := 86) hx hb dX8_comesThing_81 (by decide) (fun c => (c (by decide)).elim) (fun _ => ?_)
          refine lv_iconst (pc := 84) (v := 0) hx hb dX8_comesThing_84 (by decide) ?_
          exact z_wzret (b := false) cx hr hlk dX8_comesThing_85 hS ⟨(sI (by first | rfl | (simp [ctO, e0, c_1, c_3, c_5, c_7, i_nle.mp c_1, i_nle.mp c_3, i_nle.mp c_5]; done))), (by rw [show (ctRd rd nu) = rd from (by first | rfl | (simp [ctRd, ctO, ctX, rwA, e0, c_1, c_3, c_5, c_7, i_nle.mp c_1, i_nle.mp c_3, i_nle.mp c_5]; done))]; exact hW)⟩
        · skip
          refine lv_iload_n (pc := 59) hx hb dX8_comesThing_59 rfl (lv_at hl 0 rfl) ?_
          refine lv_bipush (pc := 60) (v := 7) hx hb dX8_comesThing_60 (by decide) ?_
          refine lv_icmp_ge (pc := 62) (tgt := 78) hx hb dX8_comesThing_62 (by decide) (fun c_9 => ?_) (fun c_9 => ?_)
          · skip
            refine lv_iconst (pc := 78) (v := 0) hx hb dX8_comesThing_78 (by decide) ?_
            refine lv_istore_n (pc := 79) (lv' := [(2, .int 0), (1, .int (nI (nT rd))), (0, .ref (a 0))]) hx hb dX8_comesThing_79 rfl hl (by decide) rfl (fun ls hl => ?_)
            refine lv_iload_n (pc := 80) hx hb dX8_comesThing_80 rfl (lv_at hl 0 rfl) ?_
            refine lv_if_ne (pc := 81) (tgt := 86) hx hb dX8_comesThing_81 (by decide) (fun c => (c (by decide)).elim) (fun _ => ?_)
            refine lv_iconst (pc := 84) (v := 0) hx hb dX8_comesThing_84 (by decide) ?_
            exact z_wzret (b := false) cx hr hlk dX8_comesThing_85 hS ⟨(sI (by first | rfl | (simp [ctO, e0, c_1, c_3, c_5, c_7, c_9, i_nle.mp c_1, i_nle.mp c_3, i_nle.mp c_5, i_nlt.mpr c_9]; done))), (by rw [show (ctRd rd nu) = rd from (by first | rfl | (simp [ctRd, ctO, ctX, rwA, e0, c_1, c_3, c_5, c_7, c_9, i_nle.mp c_1, i_nle.mp c_3, i_nle.mp c_5, i_nlt.mpr c_9]; done))]; exact hW)⟩
          · skip
            have hlt7 := lt_nat (a := nT rd) (b := 7) rfl rfl (by omega) (by omega) c_9
            refine lv_aload_n (pc := 65) hx hb dX8_comesThing_65 rfl (lv_at hl 1 rfl) ?_
            refine z_getM (pc := 66) cx (hW.at 0 rfl) 2 rfl m_fl_X8_16 rfl dX8_comesThing_66 ?_
            refine lv_iconst (pc := 69) (v := 2) hx hb dX8_comesThing_69 (by decide) ?_
            refine z_iald (pc := 70) (f := rd) (j := 2) cx (hW.at 3 rfl) rfl (by decide) (by decide) dX8_comesThing_70 ?_
            refine lv_if_ne (pc := 71) (tgt := 78) hx hb dX8_comesThing_71 (by decide) (fun c_11 => ?_) (fun c_11 => ?_)
            · skip
              refine lv_iconst (pc := 78) (v := 0) hx hb dX8_comesThing_78 (by decide) ?_
              refine lv_istore_n (pc := 79) (lv' := [(2, .int 0), (1, .int (nI (nT rd))), (0, .ref (a 0))]) hx hb dX8_comesThing_79 rfl hl (by decide) rfl (fun ls hl => ?_)
              refine lv_iload_n (pc := 80) hx hb dX8_comesThing_80 rfl (lv_at hl 0 rfl) ?_
              refine lv_if_ne (pc := 81) (tgt := 86) hx hb dX8_comesThing_81 (by decide) (fun c => (c (by decide)).elim) (fun _ => ?_)
              refine lv_iconst (pc := 84) (v := 0) hx hb dX8_comesThing_84 (by decide) ?_
              exact z_wzret (b := false) cx hr hlk dX8_comesThing_85 hS ⟨(sI (by first | rfl | (simp [ctO, e0, c_1, c_3, c_5, c_7, c_9, c_11, i_nle.mp c_1, i_nle.mp c_3, i_nle.mp c_5, i_nle.mp c_9]; done))), (by rw [show (ctRd rd nu) = rd from (by first | rfl | (simp [ctRd, ctO, ctX, rwA, e0, c_1, c_3, c_5, c_7, c_9, c_11, i_nle.mp c_1, i_nle.mp c_3, i_nle.mp c_5, i_nle.mp c_9]; done))]; exact hW)⟩
            · skip
              refine lv_iconst (pc := 74) (v := 1) hx hb dX8_comesThing_74 (by decide) ?_
              refine lv_goto (pc := 75) (tgt := 79) hx hb dX8_comesThing_75 (by decide) ?_
              refine lv_istore_n (pc := 79) (lv' := [(2, .int 1), (1, .int (nI (nT rd))), (0, .ref (a 0))]) hx hb dX8_comesThing_79 rfl hl (by decide) rfl (fun ls hl => ?_)
              refine lv_iload_n (pc := 80) hx hb dX8_comesThing_80 rfl (lv_at hl 0 rfl) ?_
              refine lv_if_ne (pc := 81) (tgt := 86) hx hb dX8_comesThing_81 (by decide) (fun _ => ?_) (fun c => absurd c (by decide))
              refine lv_iconst (pc := 86) (v := 0) hx hb dX8_comesThing_86 (by decide) ?_
              refine lv_istore_n (pc := 87) (lv' := [(3, .int 0), (2, .int 1), (1, .int (nI (nT rd))), (0, .ref (a 0))]) hx hb dX8_comesThing_87 rfl hl (by decide) rfl (fun ls hl => ?_)
              have loop_88 : ∀ (k_88 : Nat) (i : Nat) (x3 : Int32), (5 - i) < k_88 → (i ≤ 5) → x3 = nI i → ∀ (H : Heap) (locs : List Loc), WW E (wM a (E.2.1 0) sv im (rwA rd nu (68 + 5 * nT rd) i) wa kp so sz el pr ts nu bu ht (bI ig) th po ba en td (bI ij)) gN H → va_S (mF a) s.heap H locs → ∀ (ls : Array Slot), lv_has ls 4 [(3, .int x3), (2, .int 1), (1, .int (nI (nT rd))), (0, .ref (a 0))] → W p l e (rm0' (1) (25)) s m args below meth c H locs 0 0 (MQ below (zQ (fun (_ : Heap) (v : Option Value) (H1 : Heap) => (v = some (.int (bI (ctO rd nu))) ∧ WW E (wM a (E.2.1 0) sv im (ctRd rd nu) wa kp so sz el pr ts nu bu ht (bI ig) th po ba en td (bI ij)) gN H1)) (mF a)) args s 0 0 (mF a)) (F0 m 88 ls []) := by
                intro k_88
                induction k_88 with
                | zero =>
                  intro i x3 hm
                  exact absurd hm (Nat.not_lt_zero _)
                | succ k_88 ih_88 =>
                  intro i x3 hm_88 hi e_x3  H locs  hW hS ls hl
                  subst e_x3
                  refine lv_iload_n (pc := 88) hx hb dX8_comesThing_88 rfl (lv_at hl 0 rfl) ?_
                  refine lv_iconst (pc := 89) (v := 5) hx hb dX8_comesThing_89 (by decide) ?_
                  refine lv_icmp_ge (pc := 90) (tgt := 118) hx hb dX8_comesThing_90 (by decide) (fun c_14 => ?_) (fun c_14 => ?_)
                  · skip
                    obtain rfl : i = 5 := by have := ge_nat (a := i) (b := 5) rfl rfl (by omega) (by omega) c_14; omega
                    refine lv_aload_n (pc := 118) hx hb dX8_comesThing_118 rfl (lv_at hl 3 rfl) ?_
                    refine z_getM (pc := 119) cx (hW.at 0 rfl) 2 rfl m_fl_X8_16 rfl dX8_comesThing_119 ?_
                    refine lv_iconst (pc := 122) (v := 1) hx hb dX8_comesThing_122 (by decide) ?_
                    refine lv_dup2_11 (pc := 123) hx hb dX8_comesThing_123 rfl rfl ?_
                    refine z_iald (pc := 124) (f := rwA rd nu (68 + 5 * nT rd) 5) (j := 1) cx (hW.at 3 rfl) rfl (by decide) (by decide) dX8_comesThing_124 ?_
                    refine z_tope (y := rd 1) (rwA_lo _ _ _ (by omega) 5) ?_
                    refine lv_iconst (pc := 125) (v := 1) hx hb dX8_comesThing_125 (by decide) ?_
                    refine lv_iadd (pc := 126) hx hb dX8_comesThing_126 ?_
                    refine z_iast (pc := 127) (f := rwA rd nu (68 + 5 * nT rd) 5) (j := 1) cx hW hS 3 rfl (mF_in a 3) rfl (by decide) (by decide) dX8_comesThing_127 (fun H locs hW hS => ?_)
                    have hW : WW E (wM a (E.2.1 0) sv im (upd (rwA rd nu (68 + 5 * nT rd) 5) 1 ((rd 1) + 1)) wa kp so sz el pr ts nu bu ht (bI ig) th po ba en td (bI ij)) gN H := hW
                    refine lv_iconst (pc := 128) (v := 1) hx hb dX8_comesThing_128 (by decide) ?_
                    exact z_wzret (b := true) cx hr hlk dX8_comesThing_129 hS ⟨(sI (by first | rfl | (simp [ctO, e0, c_1, c_3, c_5, c_7, c_9, c_11, i_nle.mp c_1, i_nle.mp c_3, i_nle.mp c_5, i_nle.mp c_9]; done))), (by rw [show (ctRd rd nu) = upd (rwA rd nu (68 + 5 * nT rd) 5) 1 ((rd 1) + 1) from (by first | rfl | (simp [ctRd, ctO, ctX, rwA, e0, c_1, c_3, c_5, c_7, c_9, c_11, i_nle.mp c_1, i_nle.mp c_3, i_nle.mp c_5, i_nle.mp c_9]; done))]; exact hW)⟩
                  · skip
                    have hlt_i := lt_nat (a := i) (b := 5) rfl rfl (by omega) (by omega) c_14
                    refine lv_aload_n (pc := 93) hx hb dX8_comesThing_93 rfl (lv_at hl 3 rfl) ?_
                    refine z_getM (pc := 94) cx (hW.at 0 rfl) 2 rfl m_fl_X8_16 rfl dX8_comesThing_94 ?_
                    refine lv_bipush (pc := 97) (v := 68) hx hb dX8_comesThing_97 (by decide) ?_
                    refine lv_iconst (pc := 99) (v := 5) hx hb dX8_comesThing_99 (by decide) ?_
                    refine lv_iload_n (pc := 100) hx hb dX8_comesThing_100 rfl (lv_at hl 2 rfl) ?_
                    refine lv_imul (pc := 101) hx hb dX8_comesThing_101 ?_
                    refine lv_iadd (pc := 102) hx hb dX8_comesThing_102 ?_
                    refine z_tope (y := nI (68 + 5 * nT rd)) (ix_685 _) ?_
                    refine lv_iload_n (pc := 103) hx hb dX8_comesThing_103 rfl (lv_at hl 0 rfl) ?_
                    refine lv_iadd (pc := 104) hx hb dX8_comesThing_104 ?_
                    refine lv_aload_n (pc := 105) hx hb dX8_comesThing_105 rfl (lv_at hl 3 rfl) ?_
                    refine z_getM (pc := 106) cx (hW.at 0 rfl) 16 rfl m_fl_X8_40 rfl dX8_comesThing_106 ?_
                    refine lv_iload_n (pc := 109) hx hb dX8_comesThing_109 rfl (lv_at hl 0 rfl) ?_
                    refine z_iald (pc := 110) (f := nu) (j := i) cx (hW.at 11 rfl) rfl (by omega) (by decide) dX8_comesThing_110 ?_
                    refine z_iast (pc := 111) (f := rwA rd nu (68 + 5 * nT rd) i) (j := 68 + 5 * nT rd + i) cx hW hS 3 rfl (mF_in a 3) (by simp only [nI, Int32.ofNat_add, Int32.ofNat_mul] <;> rfl) (by omega) (by decide) dX8_comesThing_111 (fun H locs hW hS => ?_)
                    have hW : WW E (wM a (E.2.1 0) sv im (upd (rwA rd nu (68 + 5 * nT rd) i) (68 + 5 * nT rd + i) (nu i)) wa kp so sz el pr ts nu bu ht (bI ig) th po ba en td (bI ij)) gN H := hW
                    refine lv_iinc (pc := 112) (v := nI (i + 1)) (lv' := [(3, .int (nI (i + 1))), (2, .int 1), (1, .int (nI (nT rd))), (0, .ref (a 0))]) hx hb dX8_comesThing_112 hl (k := 0) rfl (nI_1 _) (by decide) rfl (fun ls hl => ?_)
                    refine lv_goto (pc := 115) (tgt := 88) hx hb dX8_comesThing_115 (by decide) ?_
                    exact ih_88 (i + 1) (nI (i + 1)) (by omega) (by omega) (by first | rfl | (simp [ctO, e0, c_1, c_3, c_5, c_7, c_9, c_11, i_nle.mp c_1, i_nle.mp c_3, i_nle.mp c_5, i_nle.mp c_9]; done))  _ _  (hW) hS ls (lv_sub hl [0, 1, 2, 3] rfl)
              exact loop_88 ((5 - 0) + 1) 0 0 (Nat.lt_succ_self _) (by omega) (by first | rfl | (simp [ctO, e0, c_1, c_3, c_5, c_7, c_9, c_11, i_nle.mp c_1, i_nle.mp c_3, i_nle.mp c_5, i_nle.mp c_9]; done))  _ _  (hW) hS ls (lv_sub hl [0, 1, 2, 3] rfl)
theorem k_X8_comesThing {p : Program} {l : Launch} {e : Env} {R : Room} {s : State} {m : MethodId} {args : Array Value} {below : List Frame} {meth : Method} {c : Code} {H H0 : Heap} {locs : List Loc} {cells slots : Nat} {Q : State → Prop} {cc : ByteArray} {pc index : Nat} {ls : Array Slot} {rest st0 : List Value} {E : zE} {own : String} {nL : Nat} {F : Nat → Prop} {a : Nat → Nat} {sv im rd wa kp so sz el pr ts nu bu ht : Nat → Int32} {th po ba en td : Int32} {ig : Bool} {ij : Bool}  (cx : Cx E p s args m c own cc nL) (hW : WW E (wM a (E.2.1 0) sv im rd wa kp so sz el pr ts nu bu ht (bI ig) th po ba en td (bI ij)) gN H) (hS : va_S F H0 H locs) (zF : ∀ q, (mF a) q → F q) (hC : InvC rd) (zl : Cond.methodLink own index yX8_comesThing ∈ AllW) (zR : 1 + 1 ≤ R.frames ∧ 8 + (4 + 11) + 25 ≤ R.locals) (zs : ls.size = nL) (zt : st0 = ([] : List Value).reverse ++ .ref (a 0) :: rest) (z8 : (rest.map fun v => v.category).sum ≤ 8) (zd : decode cc pc = .ok (.invokevirtual index, 3)) (zf : cells ≤ R.cells ∧ slots ≤ R.slots) (kk0 : ∀  (H1 : Heap) (locs1 : List Loc), WW E (wM a (E.2.1 0) sv im (ctRd rd nu) wa kp so sz el pr ts nu bu ht (bI ig) th po ba en td (bI ij)) gN H1 → va_S F H0 H1 locs1 → W p l e R s m args below meth c H1 locs1 cells slots Q (F0 m (pc + 3) ls (.int (bI (ctO rd nu)) :: rest))) : W p l e R s m args below meth c H locs cells slots Q (F0 m pc ls st0) := by
  refine z_callVw cx vm_X8_comesThing (c_X8_comesThing l E a sv im rd wa kp so sz el pr ts nu bu ht th po ba en td ig ij hC) (z_rec cx.2 (hW.at 0 rfl) rfl) hW hS zF zl ⟨rfl, rfl⟩ zR rfl zs zt z8 zd zf (fun v H1 locs1 hq hS1 _ => ?_)
  rcases hq with ⟨rfl, hW1⟩
  · exact kk0  H1 locs1  hW1 hS1
theorem vm_X8_comes : zVm yX8_comes cX8_comes 3 (some FieldType.boolean) 1 := ⟨m_co_X8_comes, m_in_RX8, ⟨m_im_X8_comes, m_se_X8_X8_comes⟩, by decide +kernel, by decide +kernel, by decide +kernel⟩
set_option maxHeartbeats 1000000 in
set_option maxRecDepth 100000 in
theorem c_X8_comes (l : Launch) (E : zE) (a : Nat → Nat) (sv im rd wa kp so sz el pr ts nu bu ht : Nat → Int32) (th po ba en td : Int32) (ig : Bool) (ij : Bool) (x : Int32) (hC : InvC rd) : Met l yX8_comes (.code yX8_comes cX8_comes 3 (some FieldType.boolean) :: AllW) (rm0' 2 49) (zP E (fun H => WW E (wM a (E.2.1 0) sv im rd wa kp so sz el pr ts nu bu ht (bI ig) th po ba en td (bI ij)) gN H) [.ref (a 0), .int x]) (zQ (fun (_ : Heap) (v : Option Value) (H1 : Heap) => (v = some (.int (bI (cmO rd nu ij x))) ∧ WW E (wM a (E.2.1 0) sv im (cmR rd nu ij x) wa kp so sz el pr ts nu bu ht (bI ig) th po ba en td (bI ij)) gN H1)) (mF a)) 0 0 (mF a) := by
  refine z_body (own := RX8) (by decide) rfl rfl ?_
  intro p e s m args below meth c ls cx hr hlk hnm hW hl
  have hx := cx.x
  have hb := cx.b
  have hl : lv_has ls 3 [(0, .ref (a 0)), (1, .int x)] := hl
  have hS : va_S (mF a) s.heap s.heap [] := va_S.rf
  refine lv_aload_n (pc := 0) hx hb dX8_comes_0 rfl (lv_at hl 0 rfl) ?_
  refine z_getM (pc := 1) cx (hW.at 0 rfl) 16 rfl m_fl_X8_40 rfl dX8_comes_1 ?_
  refine lv_iconst (pc := 4) (v := 0) hx hb dX8_comes_4 (by decide) ?_
  refine z_iald (pc := 5) (f := nu) (j := 0) cx (hW.at 11 rfl) rfl (by decide) (by decide) dX8_comes_5 ?_
  refine lv_istore_n (pc := 6) (lv' := [(2, .int (nu 0)), (0, .ref (a 0)), (1, .int x)]) hx hb dX8_comes_6 rfl hl (by decide) rfl (fun ls hl => ?_)
  refine lv_iload_n (pc := 7) hx hb dX8_comes_7 rfl (lv_at hl 2 rfl) ?_
  by_cases c_1 : x = 100
  · subst c_1
    refine lv_lookup (pc := 8) (tgt := 62) (off := 54) hx hb dX8_comes_8 (by decide) (by decide) (by decide) ?_
    refine lv_aload_n (pc := 62) hx hb dX8_comes_62 rfl (lv_at hl 1 rfl) ?_
    refine z_getM (pc := 63) cx (hW.at 0 rfl) 2 rfl m_fl_X8_16 rfl dX8_comes_63 ?_
    refine lv_iconst (pc := 66) (v := 4) hx hb dX8_comes_66 (by decide) ?_
    refine lv_iload_n (pc := 67) hx hb dX8_comes_67 rfl (lv_at hl 0 rfl) ?_
    refine z_iast (pc := 68) (f := rd) (j := 4) cx hW hS 3 rfl (mF_in a 3) rfl (by decide) (by decide) dX8_comes_68 (fun H locs hW hS => ?_)
    have hW : WW E (wM a (E.2.1 0) sv im (upd rd 4 (nu 0)) wa kp so sz el pr ts nu bu ht (bI ig) th po ba en td (bI ij)) gN H := hW
    refine lv_iload_n (pc := 69) hx hb dX8_comes_69 rfl (lv_at hl 0 rfl) ?_
    refine lv_bipush (pc := 70) (v := 20) hx hb dX8_comes_70 (by decide) ?_
    refine lv_icmp_gt (pc := 72) (tgt := 79) hx hb dX8_comes_72 (by decide) (fun c_2 => ?_) (fun c_2 => ?_)
    · skip
      refine lv_iconst (pc := 79) (v := 0) hx hb dX8_comes_79 (by decide) ?_
      exact z_wzret (b := false) cx hr hlk dX8_comes_80 hS ⟨(sI (by first | rfl | (simp [cmO, c_2, i_nle.mpr c_2]; done))), (by rw [show (cmR rd nu ij 100) = upd rd 4 (nu 0) from (by first | rfl | (simp [cmR, c_2, i_nle.mpr c_2]; done))]; exact hW)⟩
    · skip
      refine lv_iconst (pc := 75) (v := 1) hx hb dX8_comes_75 (by decide) ?_
      refine lv_goto (pc := 76) (tgt := 80) hx hb dX8_comes_76 (by decide) ?_
      exact z_wzret (b := true) cx hr hlk dX8_comes_80 hS ⟨(sI (by first | rfl | (simp [cmO, c_2, i_nlt.mp c_2]; done))), (by rw [show (cmR rd nu ij 100) = upd rd 4 (nu 0) from (by first | rfl | (simp [cmR, c_2, i_nlt.mp c_2]; done))]; exact hW)⟩
  by_cases c_3 : x = 112
  · subst c_3
    refine lv_lookup (pc := 8) (tgt := 52) (off := 44) hx hb dX8_comes_8 (by decide) (by decide) (by decide) ?_
    refine lv_aload_n (pc := 52) hx hb dX8_comes_52 rfl (lv_at hl 1 rfl) ?_
    refine k_X8_comesPiece (pc := 53)  cx hW hS (fun _ h => h) (by first | assumption | omega) m_ml_X8_105 ⟨Nat.le_of_ble_eq_true rfl, Nat.le_of_ble_eq_true rfl⟩ hl.1 rfl (by simp [Value.category]) dX8_comes_53 ⟨Nat.le_refl _, Nat.le_refl _⟩ (fun  H locs  hW hS => ?_)
    have hW : WW E (wM a (E.2.1 0) sv im (cpRd rd nu ij) wa kp so sz el pr ts nu bu ht (bI ig) th po ba en td (bI ij)) gN H := hW
    exact z_wzret (b := (cpO rd nu ij)) cx hr hlk dX8_comes_56 hS ⟨(sI (by first | rfl | (simp [cmO, c_1]; done))), (by rw [show (cmR rd nu ij 112) = cpRd rd nu ij from (by first | rfl | (simp [cmR, c_1]; done))]; exact hW)⟩
  by_cases c_4 : x = 116
  · subst c_4
    refine lv_lookup (pc := 8) (tgt := 57) (off := 49) hx hb dX8_comes_8 (by decide) (by decide) (by decide) ?_
    refine lv_aload_n (pc := 57) hx hb dX8_comes_57 rfl (lv_at hl 1 rfl) ?_
    refine k_X8_comesThing (pc := 58)  cx hW hS (fun _ h => h) (by first | assumption | omega) m_ml_X8_108 ⟨Nat.le_of_ble_eq_true rfl, Nat.le_of_ble_eq_true rfl⟩ hl.1 rfl (by simp [Value.category]) dX8_comes_58 ⟨Nat.le_refl _, Nat.le_refl _⟩ (fun  H locs  hW hS => ?_)
    have hW : WW E (wM a (E.2.1 0) sv im (ctRd rd nu) wa kp so sz el pr ts nu bu ht (bI ig) th po ba en td (bI ij)) gN H := hW
    exact z_wzret (b := (ctO rd nu)) cx hr hlk dX8_comes_61 hS ⟨(sI (by first | rfl | (simp [cmO, c_1, c_3]; done))), (by rw [show (cmR rd nu ij 116) = ctRd rd nu from (by first | rfl | (simp [cmR, c_1, c_3]; done))]; exact hW)⟩
  by_cases c_5 : x = 119
  · subst c_5
    refine lv_lookup (pc := 8) (tgt := 81) (off := 73) hx hb dX8_comes_8 (by decide) (by decide) (by decide) ?_
    refine lv_aload_n (pc := 81) hx hb dX8_comes_81 rfl (lv_at hl 1 rfl) ?_
    refine z_getM (pc := 82) cx (hW.at 0 rfl) 2 rfl m_fl_X8_16 rfl dX8_comes_82 ?_
    refine lv_iconst (pc := 85) (v := 5) hx hb dX8_comes_85 (by decide) ?_
    refine lv_iload_n (pc := 86) hx hb dX8_comes_86 rfl (lv_at hl 0 rfl) ?_
    refine z_iast (pc := 87) (f := rd) (j := 5) cx hW hS 3 rfl (mF_in a 3) rfl (by decide) (by decide) dX8_comes_87 (fun H locs hW hS => ?_)
    have hW : WW E (wM a (E.2.1 0) sv im (upd rd 5 (nu 0)) wa kp so sz el pr ts nu bu ht (bI ig) th po ba en td (bI ij)) gN H := hW
    refine lv_iload_n (pc := 88) hx hb dX8_comes_88 rfl (lv_at hl 0 rfl) ?_
    refine lv_iconst (pc := 89) (v := 2) hx hb dX8_comes_89 (by decide) ?_
    refine lv_icmp_ge (pc := 90) (tgt := 97) hx hb dX8_comes_90 (by decide) (fun c_6 => ?_) (fun c_6 => ?_)
    · skip
      refine lv_iconst (pc := 97) (v := 0) hx hb dX8_comes_97 (by decide) ?_
      exact z_wzret (b := false) cx hr hlk dX8_comes_98 hS ⟨(sI (by first | rfl | (simp [cmO, c_1, c_3, c_4, c_6, i_nlt.mpr c_6]; done))), (by rw [show (cmR rd nu ij 119) = upd rd 5 (nu 0) from (by first | rfl | (simp [cmR, c_1, c_3, c_4, c_6, i_nlt.mpr c_6]; done))]; exact hW)⟩
    · skip
      refine lv_iconst (pc := 93) (v := 1) hx hb dX8_comes_93 (by decide) ?_
      refine lv_goto (pc := 94) (tgt := 98) hx hb dX8_comes_94 (by decide) ?_
      exact z_wzret (b := true) cx hr hlk dX8_comes_98 hS ⟨(sI (by first | rfl | (simp [cmO, c_1, c_3, c_4, c_6, i_nle.mp c_6]; done))), (by rw [show (cmR rd nu ij 119) = upd rd 5 (nu 0) from (by first | rfl | (simp [cmR, c_1, c_3, c_4, c_6, i_nle.mp c_6]; done))]; exact hW)⟩
  refine lv_lookup (pc := 8) (tgt := 99) (off := 91) hx hb dX8_comes_8 (by decide) ((lv_osw c_1 (by decide)).trans ((lv_osw c_3 (by decide)).trans ((lv_osw c_4 (by decide)).trans ((lv_osw c_5 (by decide)).trans (rfl))))) (by decide) ?_
  refine lv_aload_n (pc := 99) hx hb dX8_comes_99 rfl (lv_at hl 1 rfl) ?_
  refine z_getM (pc := 100) cx (hW.at 0 rfl) 2 rfl m_fl_X8_16 rfl dX8_comes_100 ?_
  refine lv_bipush (pc := 103) (v := 6) hx hb dX8_comes_103 (by decide) ?_
  refine lv_iload_n (pc := 105) hx hb dX8_comes_105 rfl (lv_at hl 0 rfl) ?_
  refine z_iast (pc := 106) (f := rd) (j := 6) cx hW hS 3 rfl (mF_in a 3) rfl (by decide) (by decide) dX8_comes_106 (fun H locs hW hS => ?_)
  have hW : WW E (wM a (E.2.1 0) sv im (upd rd 6 (nu 0)) wa kp so sz el pr ts nu bu ht (bI ig) th po ba en td (bI ij)) gN H := hW
  refine lv_iload_n (pc := 107) hx hb dX8_comes_107 rfl (lv_at hl 0 rfl) ?_
  refine lv_iconst (pc := 108) (v := 4) hx hb dX8_comes_108 (by decide) ?_
  refine lv_icmp_ge (pc := 109) (tgt := 116) hx hb dX8_comes_109 (by decide) (fun c_7 => ?_) (fun c_7 => ?_)
  · skip
    refine lv_iconst (pc := 116) (v := 0) hx hb dX8_comes_116 (by decide) ?_
    exact z_wzret (b := false) cx hr hlk dX8_comes_117 hS ⟨(sI (by first | rfl | (simp [cmO, c_1, c_3, c_4, c_5, c_7, i_nlt.mpr c_7]; done))), (by rw [show (cmR rd nu ij x) = upd rd 6 (nu 0) from (by first | rfl | (simp [cmR, c_1, c_3, c_4, c_5, c_7, i_nlt.mpr c_7]; done))]; exact hW)⟩
  · skip
    refine lv_iconst (pc := 112) (v := 1) hx hb dX8_comes_112 (by decide) ?_
    refine lv_goto (pc := 113) (tgt := 117) hx hb dX8_comes_113 (by decide) ?_
    exact z_wzret (b := true) cx hr hlk dX8_comes_117 hS ⟨(sI (by first | rfl | (simp [cmO, c_1, c_3, c_4, c_5, c_7, i_nle.mp c_7]; done))), (by rw [show (cmR rd nu ij x) = upd rd 6 (nu 0) from (by first | rfl | (simp [cmR, c_1, c_3, c_4, c_5, c_7, i_nle.mp c_7]; done))]; exact hW)⟩
theorem k_X8_comes {p : Program} {l : Launch} {e : Env} {R : Room} {s : State} {m : MethodId} {args : Array Value} {below : List Frame} {meth : Method} {c : Code} {H H0 : Heap} {locs : List Loc} {cells slots : Nat} {Q : State → Prop} {cc : ByteArray} {pc index : Nat} {ls : Array Slot} {rest st0 : List Value} {E : zE} {own : String} {nL : Nat} {F : Nat → Prop} {a : Nat → Nat} {sv im rd wa kp so sz el pr ts nu bu ht : Nat → Int32} {th po ba en td : Int32} {ig : Bool} {ij : Bool} {x : Int32} (cx : Cx E p s args m c own cc nL) (hW : WW E (wM a (E.2.1 0) sv im rd wa kp so sz el pr ts nu bu ht (bI ig) th po ba en td (bI ij)) gN H) (hS : va_S F H0 H locs) (zF : ∀ q, (mF a) q → F q) (hC : InvC rd) (zl : Cond.methodLink own index yX8_comes ∈ AllW) (zR : 2 + 1 ≤ R.frames ∧ 8 + (3 + 11) + 49 ≤ R.locals) (zs : ls.size = nL) (zt : st0 = ([.int x] : List Value).reverse ++ .ref (a 0) :: rest) (z8 : (rest.map fun v => v.category).sum ≤ 8) (zd : decode cc pc = .ok (.invokevirtual index, 3)) (zf : cells ≤ R.cells ∧ slots ≤ R.slots) (kk0 : ∀  (H1 : Heap) (locs1 : List Loc), WW E (wM a (E.2.1 0) sv im (cmR rd nu ij x) wa kp so sz el pr ts nu bu ht (bI ig) th po ba en td (bI ij)) gN H1 → va_S F H0 H1 locs1 → W p l e R s m args below meth c H1 locs1 cells slots Q (F0 m (pc + 3) ls (.int (bI (cmO rd nu ij x)) :: rest))) : W p l e R s m args below meth c H locs cells slots Q (F0 m pc ls st0) := by
  refine z_callVw cx vm_X8_comes (c_X8_comes l E a sv im rd wa kp so sz el pr ts nu bu ht th po ba en td ig ij x hC) (z_rec cx.2 (hW.at 0 rfl) rfl) hW hS zF zl ⟨rfl, rfl⟩ zR rfl zs zt z8 zd zf (fun v H1 locs1 hq hS1 _ => ?_)
  rcases hq with ⟨rfl, hW1⟩
  · exact kk0  H1 locs1  hW1 hS1
