theorem vm_X8_worstOf : zVm yX8_worstOf cX8_worstOf 9 (some FieldType.int) 2 := ⟨m_co_X8_worstOf, m_in_RX8, ⟨m_im_X8_worstOf, m_se_X8_X8_worstOf⟩, by decide +kernel, by decide +kernel, by decide +kernel⟩
set_option maxHeartbeats 4000000 in
set_option maxRecDepth 100000 in
theorem c_X8_worstOf (l : Launch) (E : zE) (a : Nat → Nat) (sv im rd wa kp so sz el pr ts nu bu ht : Nat → Int32) (th po ba en td : Int32) (ig : Bool) (ij : Bool) (tn : Nat) (htn : tn ≤ 100) : ∀ (v : Nat), v < 128 → Met l yX8_worstOf (.code yX8_worstOf cX8_worstOf 9 (some FieldType.int) :: AllW) (rm0' (v + 5) (60 * v + 200)) (zP E (fun H => WW E (wM a (E.2.1 0) sv im rd wa kp so sz el pr ts nu bu ht (bI ig) th po ba en td (bI ij)) gN H) [.ref (a 0), .int (nI v), .int (nI tn)]) (rQ (.int (wo ht tn v))) 0 0 nF := by
  intro v
  induction v using Nat.strongRecOn with
  | ind v ih =>
    intro hv
    refine z_body (own := RX8) (by decide) rfl rfl ?_
    intro p e s m args below meth c ls cx hr hlk hnm hW hl
    have hx := cx.x
    have hb := cx.b
    have hl : lv_has ls 9 [(0, .ref (a 0)), (1, .int (nI v)), (2, .int (nI tn))] := hl
    refine lv_iload_n (pc := 0) hx hb dX8_worstOf_0 rfl (lv_at hl 1 rfl) ?_
    refine k_X8_bits (pc := 1) (v := v) cx (by first | assumption | omega) m_ml_X8_229 ⟨by simp only [rm0']; omega, by simp only [rm0']; omega⟩ hl.1 rfl (by simp [Value.category]) dX8_worstOf_1 ⟨Nat.le_refl _, Nat.le_refl _⟩ ?_
    refine lv_iconst (pc := 4) (v := 2) hx hb dX8_worstOf_4 (by decide) ?_
    refine lv_icmp_ge (pc := 5) (tgt := 10) hx hb dX8_worstOf_5 (by decide) (fun c_1 => ?_) (fun c_1 => ?_)
    · skip
      have hp : ¬ pop v < 2 := by have h10 := pop_le v (by omega); have := ge_nat (a := pop v) (b := 2) rfl rfl (by omega) (by omega) c_1; omega
      refine lv_bipush (pc := 10) (v := (-4)) hx hb dX8_worstOf_10 (by decide) ?_
      refine lv_istore_n (pc := 12) (lv' := [(3, .int (-4)), (0, .ref (a 0)), (1, .int (nI v)), (2, .int (nI tn))]) hx hb dX8_worstOf_12 rfl hl (by decide) rfl (fun ls hl => ?_)
      refine lv_iconst (pc := 13) (v := 0) hx hb dX8_worstOf_13 (by decide) ?_
      refine lv_istore (pc := 14) (lv' := [(4, .int 0), (3, .int (-4)), (0, .ref (a 0)), (1, .int (nI v)), (2, .int (nI tn))]) hx hb dX8_worstOf_14 hl (by decide) rfl (fun ls hl => ?_)
      have loop_16 : ∀ (k_16 : Nat) (i : Nat) (x4 : Int32) (x3 : Int32), (tn - i) < k_16 → (i ≤ tn) → x4 = nI i → x3 = fldN (woS (woN ht tn v) ht (nI v)) (-4) i → ∀ (ls : Array Slot), lv_has ls 9 [(4, .int x4), (3, .int x3), (0, .ref (a 0)), (1, .int (nI v)), (2, .int (nI tn))] → W p l e (rm0' (v + 5) (60 * v + 200)) s m args below meth c s.heap [] 0 0 (MQ below (rQ (.int (wo ht tn v))) args s 0 0 nF) (F0 m 16 ls []) := by
        intro k_16
        induction k_16 with
        | zero =>
          intro i x4 x3 hm
          exact absurd hm (Nat.not_lt_zero _)
        | succ k_16 ih_16 =>
          intro i x4 x3 hm_16 hi e_x4 e_x3  ls hl
          subst e_x4
          subst e_x3
          refine lv_iload (pc := 16) hx hb dX8_worstOf_16 (lv_at hl 0 rfl) ?_
          refine lv_iload_n (pc := 18) hx hb dX8_worstOf_18 rfl (lv_at hl 4 rfl) ?_
          refine lv_icmp_ge (pc := 19) (tgt := 110) hx hb dX8_worstOf_19 (by decide) (fun c_2 => ?_) (fun c_2 => ?_)
          · skip
            have hit : i = tn := by have := ge_nat (a := i) (b := tn) rfl rfl (by omega) (by omega) c_2; omega
            rw [hit] at hl
            refine lv_iload_n (pc := 110) hx hb dX8_worstOf_110 rfl (lv_at hl 1 rfl) ?_
            refine lv_if_ge (pc := 111) (tgt := 118) hx hb dX8_worstOf_111 (by decide) (fun c_3 => ?_) (fun c_3 => ?_)
            · skip
              refine lv_iload_n (pc := 118) hx hb dX8_worstOf_118 rfl (lv_at hl 1 rfl) ?_
              exact z_iret cx hr hlk dX8_worstOf_119 (by rw [wo_big hv hp]; simp [c_3, i_nlt.mpr c_3])
            · skip
              refine lv_iconst (pc := 114) (v := 0) hx hb dX8_worstOf_114 (by decide) ?_
              refine lv_goto (pc := 115) (tgt := 119) hx hb dX8_worstOf_115 (by decide) ?_
              exact z_iret cx hr hlk dX8_worstOf_119 (by rw [wo_big hv hp]; simp [c_3, i_nle.mp c_3])
          · skip
            have hlt_i := lt_nat (a := i) (b := tn) rfl rfl (by omega) (by omega) c_2
            refine lv_iload_n (pc := 22) hx hb dX8_worstOf_22 rfl (lv_at hl 3 rfl) ?_
            refine lv_aload_n (pc := 23) hx hb dX8_worstOf_23 rfl (lv_at hl 2 rfl) ?_
            refine z_getM (pc := 24) cx (hW.at 0 rfl) 19 rfl m_fl_X8_46 rfl dX8_worstOf_24 ?_
            refine lv_iload (pc := 27) hx hb dX8_worstOf_27 (lv_at hl 0 rfl) ?_
            refine z_iald (pc := 29) (f := ht) (j := i) cx (hW.at 13 rfl) rfl (by omega) (by decide) dX8_worstOf_29 ?_
            refine lv_iand (pc := 30) hx hb dX8_worstOf_30 ?_
            refine lv_istore (pc := 31) (lv' := [(5, .int ((nI v) &&& (ht i))), (4, .int (nI i)), (3, .int (fldN (woS (woN ht tn v) ht (nI v)) (-4) i)), (0, .ref (a 0)), (1, .int (nI v)), (2, .int (nI tn))]) hx hb dX8_worstOf_31 hl (by decide) rfl (fun ls hl => ?_)
            refine lv_iload (pc := 33) hx hb dX8_worstOf_33 (lv_at hl 0 rfl) ?_
            refine lv_if_eq (pc := 35) (tgt := 104) hx hb dX8_worstOf_35 (by decide) (fun c_4 => ?_) (fun c_4 => ?_)
            · skip
              refine lv_iinc (pc := 104) (v := nI (i + 1)) (lv' := [(4, .int (nI (i + 1))), (5, .int ((nI v) &&& (ht i))), (3, .int (fldN (woS (woN ht tn v) ht (nI v)) (-4) i)), (0, .ref (a 0)), (1, .int (nI v)), (2, .int (nI tn))]) hx hb dX8_worstOf_104 hl (k := 1) rfl (nI_1 _) (by decide) rfl (fun ls hl => ?_)
              refine lv_goto (pc := 107) (tgt := 16) hx hb dX8_worstOf_107 (by decide) ?_
              exact ih_16 (i + 1) (nI (i + 1)) (fldN (woS (woN ht tn v) ht (nI v)) (-4) i) (by omega) (by omega) (by first | rfl | (simp [fldN, woS, mxI, c_4]; done)) (by first | (simp only [fldN, woS]; simp only [c_4, true_or, or_true, if_true]; done) | (rw [fldN, woS_val hq1 hq2 hw1 hw2]; simp [mxI, c_4]; done)) ls (lv_sub hl [0, 2, 3, 4, 5] rfl)
            · skip
              have hq1 := c_4
              refine lv_iload (pc := 38) hx hb dX8_worstOf_38 (lv_at hl 0 rfl) ?_
              refine lv_iload_n (pc := 40) hx hb dX8_worstOf_40 rfl (lv_at hl 4 rfl) ?_
              refine lv_icmp_ne (pc := 41) (tgt := 47) hx hb dX8_worstOf_41 (by decide) (fun c_5 => ?_) (fun c_5 => ?_)
              · skip
                have hq2 := c_5
                have e1 := nI_and v (ht i) (by omega)
                have e2 := rest_nI hv (ht i)
                have hle : v &&& uN (ht i) ≤ v := Nat.and_le_left
                have hz : v &&& uN (ht i) ≠ 0 := fun q => hq1 (by rw [e1, q]; rfl)
                have hs : v &&& uN (ht i) ≠ v := fun q => hq2 (by rw [e1, q])
                rw [e1] at hl
                have hw1 : woN ht tn v (nI v &&& ht i) = wo ht tn (v &&& uN (ht i)) := by rw [e1]; exact woN_fuel ht tn _ v (by omega) (by omega)
                have hw2 : woN ht tn v (nI v &&& (nI v &&& ht i ^^^ -1)) = wo ht tn (v - (v &&& uN (ht i))) := by rw [e2]; exact woN_fuel ht tn _ v (by omega) (by omega)
                refine lv_aload_n (pc := 47) hx hb dX8_worstOf_47 rfl (lv_at hl 3 rfl) ?_
                refine lv_iload (pc := 48) hx hb dX8_worstOf_48 (lv_at hl 0 rfl) ?_
                refine lv_iload_n (pc := 50) hx hb dX8_worstOf_50 rfl (lv_at hl 5 rfl) ?_
                refine z_callV (pc := 51) cx vm_X8_worstOf (ih (v &&& uN (ht i)) (by omega) (by omega)) (z_rec cx.2 (hW.at 0 rfl) rfl) hW m_ml_X8_232 ⟨rfl, rfl⟩ ⟨by simp only [rm0']; omega, by simp only [rm0']; omega⟩ rfl hl.1 rfl (by simp [Value.category]) dX8_worstOf_51 ⟨Nat.le_refl _, Nat.le_refl _⟩ ?_
                refine lv_istore (pc := 54) (lv' := [(6, .int (wo ht tn (v &&& uN (ht i)))), (5, .int (nI (v &&& uN (ht i)))), (4, .int (nI i)), (3, .int (fldN (woS (woN ht tn v) ht (nI v)) (-4) i)), (0, .ref (a 0)), (1, .int (nI v)), (2, .int (nI tn))]) hx hb dX8_worstOf_54 hl (by decide) rfl (fun ls hl => ?_)
                refine lv_aload_n (pc := 56) hx hb dX8_worstOf_56 rfl (lv_at hl 4 rfl) ?_
                refine lv_iload_n (pc := 57) hx hb dX8_worstOf_57 rfl (lv_at hl 5 rfl) ?_
                refine lv_iload (pc := 58) hx hb dX8_worstOf_58 (lv_at hl 1 rfl) ?_
                refine lv_iconst (pc := 60) (v := (-1)) hx hb dX8_worstOf_60 (by decide) ?_
                refine lv_ixor (pc := 61) hx hb dX8_worstOf_61 ?_
                refine lv_iand (pc := 62) hx hb dX8_worstOf_62 ?_
                refine z_tope (y := nI (v - (v &&& uN (ht i)))) (by rw [← e1]; exact rest_nI hv (ht i)) ?_
                refine lv_iload_n (pc := 63) hx hb dX8_worstOf_63 rfl (lv_at hl 6 rfl) ?_
                refine z_callV (pc := 64) cx vm_X8_worstOf (ih (v - (v &&& uN (ht i))) (by omega) (by omega)) (z_rec cx.2 (hW.at 0 rfl) rfl) hW m_ml_X8_232 ⟨rfl, rfl⟩ ⟨by simp only [rm0']; omega, by simp only [rm0']; omega⟩ rfl hl.1 rfl (by simp [Value.category]) dX8_worstOf_64 ⟨Nat.le_refl _, Nat.le_refl _⟩ ?_
                refine lv_istore (pc := 67) (lv' := [(7, .int (wo ht tn (v - (v &&& uN (ht i))))), (6, .int (wo ht tn (v &&& uN (ht i)))), (5, .int (nI (v &&& uN (ht i)))), (4, .int (nI i)), (3, .int (fldN (woS (woN ht tn v) ht (nI v)) (-4) i)), (0, .ref (a 0)), (1, .int (nI v)), (2, .int (nI tn))]) hx hb dX8_worstOf_67 hl (by decide) rfl (fun ls hl => ?_)
                refine lv_iconst (pc := 69) (v := 1) hx hb dX8_worstOf_69 (by decide) ?_
                refine lv_iload (pc := 70) hx hb dX8_worstOf_70 (lv_at hl 1 rfl) ?_
                refine lv_iload (pc := 72) hx hb dX8_worstOf_72 (lv_at hl 0 rfl) ?_
                refine lv_icmp_le (pc := 74) (tgt := 82) hx hb dX8_worstOf_74 (by decide) (fun c_6 => ?_) (fun c_6 => ?_)
                · skip
                  refine lv_iload (pc := 82) hx hb dX8_worstOf_82 (lv_at hl 0 rfl) ?_
                  refine lv_iadd (pc := 84) hx hb dX8_worstOf_84 ?_
                  refine lv_istore (pc := 85) (lv' := [(8, .int (1 + (wo ht tn (v - (v &&& uN (ht i)))))), (7, .int (wo ht tn (v - (v &&& uN (ht i))))), (6, .int (wo ht tn (v &&& uN (ht i)))), (5, .int (nI (v &&& uN (ht i)))), (4, .int (nI i)), (3, .int (fldN (woS (woN ht tn v) ht (nI v)) (-4) i)), (0, .ref (a 0)), (1, .int (nI v)), (2, .int (nI tn))]) hx hb dX8_worstOf_85 hl (by decide) rfl (fun ls hl => ?_)
                  refine lv_iload_n (pc := 87) hx hb dX8_worstOf_87 rfl (lv_at hl 5 rfl) ?_
                  refine lv_if_lt (pc := 88) (tgt := 97) hx hb dX8_worstOf_88 (by decide) (fun c_7 => ?_) (fun c_7 => ?_)
                  · skip
                    refine lv_iload (pc := 97) hx hb dX8_worstOf_97 (lv_at hl 0 rfl) ?_
                    refine lv_goto (pc := 99) (tgt := 103) hx hb dX8_worstOf_99 (by decide) ?_
                    refine lv_istore_n (pc := 103) (lv' := [(3, .int (1 + (wo ht tn (v - (v &&& uN (ht i)))))), (8, .int (1 + (wo ht tn (v - (v &&& uN (ht i)))))), (7, .int (wo ht tn (v - (v &&& uN (ht i))))), (6, .int (wo ht tn (v &&& uN (ht i)))), (5, .int (nI (v &&& uN (ht i)))), (4, .int (nI i)), (0, .ref (a 0)), (1, .int (nI v)), (2, .int (nI tn))]) hx hb dX8_worstOf_103 rfl hl (by decide) rfl (fun ls hl => ?_)
                    refine lv_iinc (pc := 104) (v := nI (i + 1)) (lv' := [(4, .int (nI (i + 1))), (3, .int (1 + (wo ht tn (v - (v &&& uN (ht i)))))), (8, .int (1 + (wo ht tn (v - (v &&& uN (ht i)))))), (7, .int (wo ht tn (v - (v &&& uN (ht i))))), (6, .int (wo ht tn (v &&& uN (ht i)))), (5, .int (nI (v &&& uN (ht i)))), (0, .ref (a 0)), (1, .int (nI v)), (2, .int (nI tn))]) hx hb dX8_worstOf_104 hl (k := 5) rfl (nI_1 _) (by decide) rfl (fun ls hl => ?_)
                    refine lv_goto (pc := 107) (tgt := 16) hx hb dX8_worstOf_107 (by decide) ?_
                    exact ih_16 (i + 1) (nI (i + 1)) (1 + (wo ht tn (v - (v &&& uN (ht i))))) (by omega) (by omega) (by first | rfl | (simp [fldN, woS, mxI, c_4, c_5, hw1, hw2, c_6, c_7, i_nlt.mpr c_6, i_nle.mpr c_7]; done)) (by first | (simp only [fldN, woS]; simp only [c_4, c_5, hw1, hw2, c_6, c_7, i_nlt.mpr c_6, i_nle.mpr c_7, true_or, or_true, if_true]; done) | (rw [fldN, woS_val hq1 hq2 hw1 hw2]; simp [mxI, c_4, c_5, hw1, hw2, c_6, c_7, i_nlt.mpr c_6, i_nle.mpr c_7]; done)) ls (lv_sub hl [0, 1, 6, 7, 8] rfl)
                  · skip
                    refine lv_iload (pc := 91) hx hb dX8_worstOf_91 (lv_at hl 0 rfl) ?_
                    refine lv_iload_n (pc := 93) hx hb dX8_worstOf_93 rfl (lv_at hl 5 rfl) ?_
                    refine lv_icmp_ge (pc := 94) (tgt := 102) hx hb dX8_worstOf_94 (by decide) (fun c_8 => ?_) (fun c_8 => ?_)
                    · skip
                      refine lv_iload_n (pc := 102) hx hb dX8_worstOf_102 rfl (lv_at hl 5 rfl) ?_
                      refine lv_istore_n (pc := 103) (lv' := [(3, .int (fldN (woS (woN ht tn v) ht (nI v)) (-4) i)), (8, .int (1 + (wo ht tn (v - (v &&& uN (ht i)))))), (7, .int (wo ht tn (v - (v &&& uN (ht i))))), (6, .int (wo ht tn (v &&& uN (ht i)))), (5, .int (nI (v &&& uN (ht i)))), (4, .int (nI i)), (0, .ref (a 0)), (1, .int (nI v)), (2, .int (nI tn))]) hx hb dX8_worstOf_103 rfl hl (by decide) rfl (fun ls hl => ?_)
                      refine lv_iinc (pc := 104) (v := nI (i + 1)) (lv' := [(4, .int (nI (i + 1))), (3, .int (fldN (woS (woN ht tn v) ht (nI v)) (-4) i)), (8, .int (1 + (wo ht tn (v - (v &&& uN (ht i)))))), (7, .int (wo ht tn (v - (v &&& uN (ht i))))), (6, .int (wo ht tn (v &&& uN (ht i)))), (5, .int (nI (v &&& uN (ht i)))), (0, .ref (a 0)), (1, .int (nI v)), (2, .int (nI tn))]) hx hb dX8_worstOf_104 hl (k := 5) rfl (nI_1 _) (by decide) rfl (fun ls hl => ?_)
                      refine lv_goto (pc := 107) (tgt := 16) hx hb dX8_worstOf_107 (by decide) ?_
                      exact ih_16 (i + 1) (nI (i + 1)) (fldN (woS (woN ht tn v) ht (nI v)) (-4) i) (by omega) (by omega) (by first | rfl | (simp [fldN, woS, mxI, c_4, c_5, hw1, hw2, c_6, c_7, c_8, i_nlt.mpr c_6, i_nlt.mp c_7, i_nlt.mpr c_8]; done)) (by first | (simp only [fldN, woS]; simp only [c_4, c_5, hw1, hw2, c_6, c_7, c_8, i_nlt.mpr c_6, i_nlt.mp c_7, i_nlt.mpr c_8, true_or, or_true, if_true]; done) | (rw [fldN, woS_val hq1 hq2 hw1 hw2]; simp [mxI, c_4, c_5, hw1, hw2, c_6, c_7, c_8, i_nlt.mpr c_6, i_nlt.mp c_7, i_nlt.mpr c_8]; done)) ls (lv_sub hl [0, 1, 6, 7, 8] rfl)
                    · skip
                      refine lv_iload (pc := 97) hx hb dX8_worstOf_97 (lv_at hl 0 rfl) ?_
                      refine lv_goto (pc := 99) (tgt := 103) hx hb dX8_worstOf_99 (by decide) ?_
                      refine lv_istore_n (pc := 103) (lv' := [(3, .int (1 + (wo ht tn (v - (v &&& uN (ht i)))))), (8, .int (1 + (wo ht tn (v - (v &&& uN (ht i)))))), (7, .int (wo ht tn (v - (v &&& uN (ht i))))), (6, .int (wo ht tn (v &&& uN (ht i)))), (5, .int (nI (v &&& uN (ht i)))), (4, .int (nI i)), (0, .ref (a 0)), (1, .int (nI v)), (2, .int (nI tn))]) hx hb dX8_worstOf_103 rfl hl (by decide) rfl (fun ls hl => ?_)
                      refine lv_iinc (pc := 104) (v := nI (i + 1)) (lv' := [(4, .int (nI (i + 1))), (3, .int (1 + (wo ht tn (v - (v &&& uN (ht i)))))), (8, .int (1 + (wo ht tn (v - (v &&& uN (ht i)))))), (7, .int (wo ht tn (v - (v &&& uN (ht i))))), (6, .int (wo ht tn (v &&& uN (ht i)))), (5, .int (nI (v &&& uN (ht i)))), (0, .ref (a 0)), (1, .int (nI v)), (2, .int (nI tn))]) hx hb dX8_worstOf_104 hl (k := 5) rfl (nI_1 _) (by decide) rfl (fun ls hl => ?_)
                      refine lv_goto (pc := 107) (tgt := 16) hx hb dX8_worstOf_107 (by decide) ?_
                      exact ih_16 (i + 1) (nI (i + 1)) (1 + (wo ht tn (v - (v &&& uN (ht i))))) (by omega) (by omega) (by first | rfl | (simp [fldN, woS, mxI, c_4, c_5, hw1, hw2, c_6, c_7, c_8, i_nlt.mpr c_6, i_nlt.mp c_7, i_nle.mp c_8]; done)) (by first | (simp only [fldN, woS]; simp only [c_4, c_5, hw1, hw2, c_6, c_7, c_8, i_nlt.mpr c_6, i_nlt.mp c_7, i_nle.mp c_8, true_or, or_true, if_true]; done) | (rw [fldN, woS_val hq1 hq2 hw1 hw2]; simp [mxI, c_4, c_5, hw1, hw2, c_6, c_7, c_8, i_nlt.mpr c_6, i_nlt.mp c_7, i_nle.mp c_8]; done)) ls (lv_sub hl [0, 1, 6, 7, 8] rfl)
                · skip
                  refine lv_iload (pc := 77) hx hb dX8_worstOf_77 (lv_at hl 1 rfl) ?_
                  refine lv_goto (pc := 79) (tgt := 84) hx hb dX8_worstOf_79 (by decide) ?_
                  refine lv_iadd (pc := 84) hx hb dX8_worstOf_84 ?_
                  refine lv_istore (pc := 85) (lv' := [(8, .int (1 + (wo ht tn (v &&& uN (ht i))))), (7, .int (wo ht tn (v - (v &&& uN (ht i))))), (6, .int (wo ht tn (v &&& uN (ht i)))), (5, .int (nI (v &&& uN (ht i)))), (4, .int (nI i)), (3, .int (fldN (woS (woN ht tn v) ht (nI v)) (-4) i)), (0, .ref (a 0)), (1, .int (nI v)), (2, .int (nI tn))]) hx hb dX8_worstOf_85 hl (by decide) rfl (fun ls hl => ?_)
                  refine lv_iload_n (pc := 87) hx hb dX8_worstOf_87 rfl (lv_at hl 5 rfl) ?_
                  refine lv_if_lt (pc := 88) (tgt := 97) hx hb dX8_worstOf_88 (by decide) (fun c_9 => ?_) (fun c_9 => ?_)
                  · skip
                    refine lv_iload (pc := 97) hx hb dX8_worstOf_97 (lv_at hl 0 rfl) ?_
                    refine lv_goto (pc := 99) (tgt := 103) hx hb dX8_worstOf_99 (by decide) ?_
                    refine lv_istore_n (pc := 103) (lv' := [(3, .int (1 + (wo ht tn (v &&& uN (ht i))))), (8, .int (1 + (wo ht tn (v &&& uN (ht i))))), (7, .int (wo ht tn (v - (v &&& uN (ht i))))), (6, .int (wo ht tn (v &&& uN (ht i)))), (5, .int (nI (v &&& uN (ht i)))), (4, .int (nI i)), (0, .ref (a 0)), (1, .int (nI v)), (2, .int (nI tn))]) hx hb dX8_worstOf_103 rfl hl (by decide) rfl (fun ls hl => ?_)
                    refine lv_iinc (pc := 104) (v := nI (i + 1)) (lv' := [(4, .int (nI (i + 1))), (3, .int (1 + (wo ht tn (v &&& uN (ht i))))), (8, .int (1 + (wo ht tn (v &&& uN (ht i))))), (7, .int (wo ht tn (v - (v &&& uN (ht i))))), (6, .int (wo ht tn (v &&& uN (ht i)))), (5, .int (nI (v &&& uN (ht i)))), (0, .ref (a 0)), (1, .int (nI v)), (2, .int (nI tn))]) hx hb dX8_worstOf_104 hl (k := 5) rfl (nI_1 _) (by decide) rfl (fun ls hl => ?_)
                    refine lv_goto (pc := 107) (tgt := 16) hx hb dX8_worstOf_107 (by decide) ?_
                    exact ih_16 (i + 1) (nI (i + 1)) (1 + (wo ht tn (v &&& uN (ht i)))) (by omega) (by omega) (by first | rfl | (simp [fldN, woS, mxI, c_4, c_5, hw1, hw2, c_6, c_9, i_nle.mp c_6, i_nle.mpr c_9]; done)) (by first | (simp only [fldN, woS]; simp only [c_4, c_5, hw1, hw2, c_6, c_9, i_nle.mp c_6, i_nle.mpr c_9, true_or, or_true, if_true]; done) | (rw [fldN, woS_val hq1 hq2 hw1 hw2]; simp [mxI, c_4, c_5, hw1, hw2, c_6, c_9, i_nle.mp c_6, i_nle.mpr c_9]; done)) ls (lv_sub hl [0, 1, 6, 7, 8] rfl)
                  · skip
                    refine lv_iload (pc := 91) hx hb dX8_worstOf_91 (lv_at hl 0 rfl) ?_
                    refine lv_iload_n (pc := 93) hx hb dX8_worstOf_93 rfl (lv_at hl 5 rfl) ?_
                    refine lv_icmp_ge (pc := 94) (tgt := 102) hx hb dX8_worstOf_94 (by decide) (fun c_10 => ?_) (fun c_10 => ?_)
                    · skip
                      refine lv_iload_n (pc := 102) hx hb dX8_worstOf_102 rfl (lv_at hl 5 rfl) ?_
                      refine lv_istore_n (pc := 103) (lv' := [(3, .int (fldN (woS (woN ht tn v) ht (nI v)) (-4) i)), (8, .int (1 + (wo ht tn (v &&& uN (ht i))))), (7, .int (wo ht tn (v - (v &&& uN (ht i))))), (6, .int (wo ht tn (v &&& uN (ht i)))), (5, .int (nI (v &&& uN (ht i)))), (4, .int (nI i)), (0, .ref (a 0)), (1, .int (nI v)), (2, .int (nI tn))]) hx hb dX8_worstOf_103 rfl hl (by decide) rfl (fun ls hl => ?_)
                      refine lv_iinc (pc := 104) (v := nI (i + 1)) (lv' := [(4, .int (nI (i + 1))), (3, .int (fldN (woS (woN ht tn v) ht (nI v)) (-4) i)), (8, .int (1 + (wo ht tn (v &&& uN (ht i))))), (7, .int (wo ht tn (v - (v &&& uN (ht i))))), (6, .int (wo ht tn (v &&& uN (ht i)))), (5, .int (nI (v &&& uN (ht i)))), (0, .ref (a 0)), (1, .int (nI v)), (2, .int (nI tn))]) hx hb dX8_worstOf_104 hl (k := 5) rfl (nI_1 _) (by decide) rfl (fun ls hl => ?_)
                      refine lv_goto (pc := 107) (tgt := 16) hx hb dX8_worstOf_107 (by decide) ?_
                      exact ih_16 (i + 1) (nI (i + 1)) (fldN (woS (woN ht tn v) ht (nI v)) (-4) i) (by omega) (by omega) (by first | rfl | (simp [fldN, woS, mxI, c_4, c_5, hw1, hw2, c_6, c_9, c_10, i_nle.mp c_6, i_nlt.mp c_9, i_nlt.mpr c_10]; done)) (by first | (simp only [fldN, woS]; simp only [c_4, c_5, hw1, hw2, c_6, c_9, c_10, i_nle.mp c_6, i_nlt.mp c_9, i_nlt.mpr c_10, true_or, or_true, if_true]; done) | (rw [fldN, woS_val hq1 hq2 hw1 hw2]; simp [mxI, c_4, c_5, hw1, hw2, c_6, c_9, c_10, i_nle.mp c_6, i_nlt.mp c_9, i_nlt.mpr c_10]; done)) ls (lv_sub hl [0, 1, 6, 7, 8] rfl)
                    · skip
                      refine lv_iload (pc := 97) hx hb dX8_worstOf_97 (lv_at hl 0 rfl) ?_
                      refine lv_goto (pc := 99) (tgt := 103) hx hb dX8_worstOf_99 (by decide) ?_
                      refine lv_istore_n (pc := 103) (lv' := [(3, .int (1 + (wo ht tn (v &&& uN (ht i))))), (8, .int (1 + (wo ht tn (v &&& uN (ht i))))), (7, .int (wo ht tn (v - (v &&& uN (ht i))))), (6, .int (wo ht tn (v &&& uN (ht i)))), (5, .int (nI (v &&& uN (ht i)))), (4, .int (nI i)), (0, .ref (a 0)), (1, .int (nI v)), (2, .int (nI tn))]) hx hb dX8_worstOf_103 rfl hl (by decide) rfl (fun ls hl => ?_)
                      refine lv_iinc (pc := 104) (v := nI (i + 1)) (lv' := [(4, .int (nI (i + 1))), (3, .int (1 + (wo ht tn (v &&& uN (ht i))))), (8, .int (1 + (wo ht tn (v &&& uN (ht i))))), (7, .int (wo ht tn (v - (v &&& uN (ht i))))), (6, .int (wo ht tn (v &&& uN (ht i)))), (5, .int (nI (v &&& uN (ht i)))), (0, .ref (a 0)), (1, .int (nI v)), (2, .int (nI tn))]) hx hb dX8_worstOf_104 hl (k := 5) rfl (nI_1 _) (by decide) rfl (fun ls hl => ?_)
                      refine lv_goto (pc := 107) (tgt := 16) hx hb dX8_worstOf_107 (by decide) ?_
                      exact ih_16 (i + 1) (nI (i + 1)) (1 + (wo ht tn (v &&& uN (ht i)))) (by omega) (by omega) (by first | rfl | (simp [fldN, woS, mxI, c_4, c_5, hw1, hw2, c_6, c_9, c_10, i_nle.mp c_6, i_nlt.mp c_9, i_nle.mp c_10]; done)) (by first | (simp only [fldN, woS]; simp only [c_4, c_5, hw1, hw2, c_6, c_9, c_10, i_nle.mp c_6, i_nlt.mp c_9, i_nle.mp c_10, true_or, or_true, if_true]; done) | (rw [fldN, woS_val hq1 hq2 hw1 hw2]; simp [mxI, c_4, c_5, hw1, hw2, c_6, c_9, c_10, i_nle.mp c_6, i_nlt.mp c_9, i_nle.mp c_10]; done)) ls (lv_sub hl [0, 1, 6, 7, 8] rfl)
              · skip
                refine lv_goto (pc := 44) (tgt := 104) hx hb dX8_worstOf_44 (by decide) ?_
                refine lv_iinc (pc := 104) (v := nI (i + 1)) (lv' := [(4, .int (nI (i + 1))), (5, .int ((nI v) &&& (ht i))), (3, .int (fldN (woS (woN ht tn v) ht (nI v)) (-4) i)), (0, .ref (a 0)), (1, .int (nI v)), (2, .int (nI tn))]) hx hb dX8_worstOf_104 hl (k := 1) rfl (nI_1 _) (by decide) rfl (fun ls hl => ?_)
                refine lv_goto (pc := 107) (tgt := 16) hx hb dX8_worstOf_107 (by decide) ?_
                exact ih_16 (i + 1) (nI (i + 1)) (fldN (woS (woN ht tn v) ht (nI v)) (-4) i) (by omega) (by omega) (by first | rfl | (simp [fldN, woS, mxI, c_4, c_5]; done)) (by first | (simp only [fldN, woS]; simp only [c_4, c_5, true_or, or_true, if_true]; done) | (rw [fldN, woS_val hq1 hq2 hw1 hw2]; simp [mxI, c_4, c_5]; done)) ls (lv_sub hl [0, 2, 3, 4, 5] rfl)
      exact loop_16 ((tn - 0) + 1) 0 0 (-4) (Nat.lt_succ_self _) (by omega) (by first | rfl | (simp [fldN, woS, mxI]; done)) (by first | rfl | (simp [fldN, woS, mxI]; done)) ls (lv_sub hl [0, 1, 2, 3, 4] rfl)
    · skip
      have hp : pop v < 2 := by have h10 := pop_le v (by omega); have := lt_nat (a := pop v) (b := 2) rfl rfl (by omega) (by omega) c_1; omega
      refine lv_iconst (pc := 8) (v := 0) hx hb dX8_worstOf_8 (by decide) ?_
      exact z_iret cx hr hlk dX8_worstOf_9 (wo_small hv hp).symm
theorem k_X8_worstOf {p : Program} {l : Launch} {e : Env} {R : Room} {s : State} {m : MethodId} {args : Array Value} {below : List Frame} {meth : Method} {c : Code} {H : Heap} {locs : List Loc} {cells slots : Nat} {Q : State → Prop} {cc : ByteArray} {pc index : Nat} {ls : Array Slot} {rest st0 : List Value} {E : zE} {own : String} {nL : Nat} {a : Nat → Nat} {sv im rd wa kp so sz el pr ts nu bu ht : Nat → Int32} {th po ba en td : Int32} {ig : Bool} {ij : Bool} {v : Nat} {tn : Nat} (cx : Cx E p s args m c own cc nL) (hW : WW E (wM a (E.2.1 0) sv im rd wa kp so sz el pr ts nu bu ht (bI ig) th po ba en td (bI ij)) gN H) (htn : tn ≤ 100) (hv : v < 128) (zl : Cond.methodLink own index yX8_worstOf ∈ AllW) (zR : 135 + 1 ≤ R.frames ∧ 8 + (9 + 11) + 7900 ≤ R.locals) (zs : ls.size = nL) (zt : st0 = ([.int (nI v), .int (nI tn)] : List Value).reverse ++ .ref (a 0) :: rest) (z8 : (rest.map fun v => v.category).sum ≤ 8) (zd : decode cc pc = .ok (.invokevirtual index, 3)) (zf : cells ≤ R.cells ∧ slots ≤ R.slots) (kk : W p l e R s m args below meth c H locs cells slots Q (F0 m (pc + 3) ls (.int (wo ht tn v) :: rest))) : W p l e R s m args below meth c H locs cells slots Q (F0 m pc ls st0) :=
  z_callV cx vm_X8_worstOf (c_X8_worstOf l E a sv im rd wa kp so sz el pr ts nu bu ht th po ba en td ig ij tn htn v hv) (z_rec cx.2 (hW.at 0 rfl) rfl) hW zl ⟨rfl, rfl⟩ ⟨by simp only [rm0']; omega, by simp only [rm0']; omega⟩ rfl zs zt z8 zd zf kk
theorem vm_X8_friday : zVm yX8_friday cX8_friday 11 (some FieldType.int) 3 := ⟨m_co_X8_friday, m_in_RX8, ⟨m_im_X8_friday, m_se_X8_X8_friday⟩, by decide +kernel, by decide +kernel, by decide +kernel⟩
set_option maxHeartbeats 4000000 in
set_option maxRecDepth 100000 in
theorem c_X8_friday (l : Launch) (E : zE) (a : Nat → Nat) (sv im rd wa kp so sz el pr ts nu bu ht : Nat → Int32) (th po ba en td : Int32) (ig : Bool) (ij : Bool) (d st w : Int32) (hI : Inv sv) (hR : InvR kp so sz) : Met l yX8_friday (.code yX8_friday cX8_friday 11 (some FieldType.int) :: AllW) (rm0' 19 547) (zP E (fun H => WW E (wM a (E.2.1 0) sv im rd wa kp so sz el pr ts nu bu ht (bI ig) th po ba en td (bI ij)) gN H) [.ref (a 0), .int d, .int st, .int w]) (rQ (.int (fridayP sv kp so sz el d st w))) 0 0 nF := by
  refine z_body (own := RX8) (by decide) rfl rfl ?_
  intro p e s m args below meth c ls cx hr hlk hnm hW hl
  have hx := cx.x
  have hb := cx.b
  have hl : lv_has ls 11 [(0, .ref (a 0)), (1, .int d), (2, .int st), (3, .int w)] := hl
  have hC := hI.1
  have hP10 := (Inv.n0 hC).2
  have hT7 := (Inv.n1 hC).2
  have hA24 := (Inv.n2 hC).2
  refine lv_iload_n (pc := 0) hx hb dX8_friday_0 rfl (lv_at hl 1 rfl) ?_
  refine k_X8_isShelf (pc := 1) (x := d) cx  m_ml_X8_111 ⟨Nat.le_of_ble_eq_true rfl, Nat.le_of_ble_eq_true rfl⟩ hl.1 rfl (by simp [Value.category]) dX8_friday_1 ⟨Nat.le_refl _, Nat.le_refl _⟩ ?_
  refine z_ifeq (pc := 4) (tgt := 24) hx hb dX8_friday_4 (by decide) (fun c_1 => ?_) (fun c_1 => ?_)
  · skip
    refine lv_iconst (pc := 24) (v := (-1)) hx hb dX8_friday_24 (by decide) ?_
    exact z_iret cx hr hlk dX8_friday_25 (by first | rfl | (simp [fridayP, unO, orN, frS, cstN, sumN, bit, c_1]; done))
  · skip
    refine lv_iload_n (pc := 7) hx hb dX8_friday_7 rfl (lv_at hl 2 rfl) ?_
    refine k_X8_isStrong (pc := 8) (x := st) cx  m_ml_X8_180 ⟨Nat.le_of_ble_eq_true rfl, Nat.le_of_ble_eq_true rfl⟩ hl.1 rfl (by simp [Value.category]) dX8_friday_8 ⟨Nat.le_refl _, Nat.le_refl _⟩ ?_
    refine z_ifeq (pc := 11) (tgt := 24) hx hb dX8_friday_11 (by decide) (fun c_2 => ?_) (fun c_2 => ?_)
    · skip
      refine lv_iconst (pc := 24) (v := (-1)) hx hb dX8_friday_24 (by decide) ?_
      exact z_iret cx hr hlk dX8_friday_25 (by first | rfl | (simp [fridayP, unO, orN, frS, cstN, sumN, bit, c_1, c_2]; done))
    · skip
      refine lv_iload_n (pc := 14) hx hb dX8_friday_14 rfl (lv_at hl 3 rfl) ?_
      refine lv_i2l (pc := 15) (v := Int32.toInt64 w) hx hb dX8_friday_15 rfl ?_
      refine lv_lconst (pc := 16) (v := 0) hx hb dX8_friday_16 rfl ?_
      refine lv_lconst (pc := 17) (v := 1) hx hb dX8_friday_17 rfl ?_
      refine k_X8_isIn (pc := 18) (x := w) (y := 0) (z := 1) cx  m_ml_X8_53 ⟨Nat.le_of_ble_eq_true rfl, Nat.le_of_ble_eq_true rfl⟩ hl.1 rfl (by simp [Value.category]) dX8_friday_18 ⟨Nat.le_refl _, Nat.le_refl _⟩ ?_
      refine z_ifne (pc := 21) (tgt := 26) hx hb dX8_friday_21 (by decide) (fun c_3 => ?_) (fun c_3 => ?_)
      · skip
        refine lv_aload_n (pc := 26) hx hb dX8_friday_26 rfl (lv_at hl 0 rfl) ?_
        refine lv_iload_n (pc := 27) hx hb dX8_friday_27 rfl (lv_at hl 1 rfl) ?_
        refine lv_bipush (pc := 28) (v := 100) hx hb dX8_friday_28 (by decide) ?_
        refine k_X8_wrongTones (pc := 30) (d := d) (mo := 100) cx hW (by first | assumption | omega) m_ml_X8_235 ⟨Nat.le_of_ble_eq_true rfl, Nat.le_of_ble_eq_true rfl⟩ hl.1 rfl (by simp [Value.category]) dX8_friday_30 ⟨Nat.le_refl _, Nat.le_refl _⟩ ?_
        refine lv_istore (pc := 33) (lv' := [(4, .int (wtT kp so sz el d 100)), (0, .ref (a 0)), (1, .int d), (2, .int st), (3, .int w)]) hx hb dX8_friday_33 hl (by decide) rfl (fun ls hl => ?_)
        refine lv_iload (pc := 35) hx hb dX8_friday_35 (lv_at hl 0 rfl) ?_
        refine lv_if_eq (pc := 37) (tgt := 43) hx hb dX8_friday_37 (by decide) (fun c_4 => ?_) (fun c_4 => ?_)
        · skip
          have ht0 := wtT_0 c_4
          obtain ⟨n, hn, rfl⟩ := shelf_nat (wrR_0 ht0.1).1
          have hN := iN_nI (n := n) (by omega)
          have hz := sz_nat hR hn
          have hal := allN_all _ _ ht0.2.2
          rw [hN] at hal
          have h2p : 2 ^ nT sv ≤ 128 := Nat.pow_le_pow_right (n := 2) (by decide) hT7
          refine lv_iconst (pc := 43) (v := 0) hx hb dX8_friday_43 (by decide) ?_
          refine lv_istore (pc := 44) (lv' := [(5, .int 0), (4, .int (wtT kp so sz el (nI n) 100)), (0, .ref (a 0)), (1, .int (nI n)), (2, .int st), (3, .int w)]) hx hb dX8_friday_44 hl (by decide) rfl (fun ls hl => ?_)
          refine lv_iconst (pc := 46) (v := 0) hx hb dX8_friday_46 (by decide) ?_
          refine lv_istore (pc := 47) (lv' := [(6, .int 0), (5, .int 0), (4, .int (wtT kp so sz el (nI n) 100)), (0, .ref (a 0)), (1, .int (nI n)), (2, .int st), (3, .int w)]) hx hb dX8_friday_47 hl (by decide) rfl (fun ls hl => ?_)
          have loop_49 : ∀ (k_49 : Nat) (i : Nat) (x6 : Int32) (x5 : Int32), (iN (sz n) - i) < k_49 → (i ≤ iN (sz n)) → x6 = nI i → x5 = unO sv el n st i → ∀ (ls : Array Slot), lv_has ls 11 [(6, .int x6), (5, .int x5), (4, .int (wtT kp so sz el (nI n) 100)), (0, .ref (a 0)), (1, .int (nI n)), (2, .int st), (3, .int w)] → W p l e (rm0' (19) (547)) s m args below meth c s.heap [] 0 0 (MQ below (rQ (.int (fridayP sv kp so sz el (nI n) st w))) args s 0 0 nF) (F0 m 49 ls []) := by
            intro k_49
            induction k_49 with
            | zero =>
              intro i x6 x5 hm
              exact absurd hm (Nat.not_lt_zero _)
            | succ k_49 ih_49 =>
              intro i x6 x5 hm_49 hi e_x6 e_x5  ls hl
              subst e_x6
              subst e_x5
              refine lv_iload (pc := 49) hx hb dX8_friday_49 (lv_at hl 0 rfl) ?_
              refine lv_aload_n (pc := 51) hx hb dX8_friday_51 rfl (lv_at hl 3 rfl) ?_
              refine z_getM (pc := 52) cx (hW.at 0 rfl) 6 rfl m_fl_X8_28 rfl dX8_friday_52 ?_
              refine lv_iload_n (pc := 55) hx hb dX8_friday_55 rfl (lv_at hl 4 rfl) ?_
              refine z_iald (pc := 56) (f := sz) (j := n) cx (hW.at 7 rfl) rfl (by omega) (by decide) dX8_friday_56 ?_
              refine lv_icmp_ge (pc := 57) (tgt := 88) hx hb dX8_friday_57 (by decide) (fun c_5 => ?_) (fun c_5 => ?_)
              · skip
                obtain rfl : i = iN (sz n) := by have := ge_nat (a := i) rfl hz.1 (by omega) (by omega) c_5; omega
                obtain ⟨u, hu⟩ : ∃ u, u = unO sv el n st (iN (sz n)) := ⟨_, rfl⟩
                rw [← hu] at hl
                refine lv_iconst (pc := 88) (v := 0) hx hb dX8_friday_88 (by decide) ?_
                refine lv_istore (pc := 89) (lv' := [(6, .int 0), (5, .int u), (4, .int (wtT kp so sz el (nI n) 100)), (0, .ref (a 0)), (1, .int (nI n)), (2, .int st), (3, .int w)]) hx hb dX8_friday_89 hl (by decide) rfl (fun ls hl => ?_)
                refine lv_bipush (pc := 91) (v := (-4)) hx hb dX8_friday_91 (by decide) ?_
                refine lv_istore (pc := 93) (lv' := [(7, .int (-4)), (6, .int 0), (5, .int u), (4, .int (wtT kp so sz el (nI n) 100)), (0, .ref (a 0)), (1, .int (nI n)), (2, .int st), (3, .int w)]) hx hb dX8_friday_93 hl (by decide) rfl (fun ls hl => ?_)
                refine lv_iconst (pc := 95) (v := 0) hx hb dX8_friday_95 (by decide) ?_
                refine lv_istore (pc := 96) (lv' := [(8, .int 0), (7, .int (-4)), (6, .int 0), (5, .int u), (4, .int (wtT kp so sz el (nI n) 100)), (0, .ref (a 0)), (1, .int (nI n)), (2, .int st), (3, .int w)]) hx hb dX8_friday_96 hl (by decide) rfl (fun ls hl => ?_)
                have loop_98 : ∀ (k_98 : Nat) (m2 : Nat) (x8 : Int32) (x7 : Int32) (x6 : Int32), (2 ^ nT sv - m2) < k_98 → (m2 ≤ 2 ^ nT sv) → x8 = nI m2 → x7 = (frS sv u m2).2 → x6 = (frS sv u m2).1 → ∀ (ls : Array Slot), lv_has ls 11 [(8, .int x8), (7, .int x7), (6, .int x6), (5, .int u), (4, .int (wtT kp so sz el (nI n) 100)), (0, .ref (a 0)), (1, .int (nI n)), (2, .int st), (3, .int w)] → W p l e (rm0' (19) (547)) s m args below meth c s.heap [] 0 0 (MQ below (rQ (.int (fridayP sv kp so sz el (nI n) st w))) args s 0 0 nF) (F0 m 98 ls []) := by
                  intro k_98
                  induction k_98 with
                  | zero =>
                    intro m2 x8 x7 x6 hm
                    exact absurd hm (Nat.not_lt_zero _)
                  | succ k_98 ih_98 =>
                    intro m2 x8 x7 x6 hm_98 him e_x8 e_x7 e_x6  ls hl
                    subst e_x8
                    subst e_x7
                    subst e_x6
                    refine lv_iload (pc := 98) hx hb dX8_friday_98 (lv_at hl 0 rfl) ?_
                    refine lv_iconst (pc := 100) (v := 1) hx hb dX8_friday_100 (by decide) ?_
                    refine lv_aload_n (pc := 101) hx hb dX8_friday_101 rfl (lv_at hl 5 rfl) ?_
                    refine z_getM (pc := 102) cx (hW.at 0 rfl) 0 rfl m_fl_X8_9 rfl dX8_friday_102 ?_
                    refine lv_iconst (pc := 105) (v := 1) hx hb dX8_friday_105 (by decide) ?_
                    refine z_iald (pc := 106) (f := sv) (j := 1) cx (hW.at 1 rfl) rfl (by decide) (by decide) dX8_friday_106 ?_
                    refine lv_ishl (pc := 107) hx hb dX8_friday_107 ?_
                    refine z_tope (y := nI (2 ^ nT sv)) (by rw [(Inv.n1 hC).1]; exact shl_pow _ (by omega)) ?_
                    refine lv_icmp_ge (pc := 108) (tgt := 202) hx hb dX8_friday_108 (by decide) (fun c_6 => ?_) (fun c_6 => ?_)
                    · skip
                      have hm : m2 = 2 ^ nT sv := by have := ge_nat (a := m2) (b := 2 ^ nT sv) rfl rfl (by omega) (by omega) c_6; omega
                      rw [hm] at hl
                      refine lv_iload_n (pc := 202) hx hb dX8_friday_202 rfl (lv_at hl 8 rfl) ?_
                      refine lv_if_ne (pc := 203) (tgt := 211) hx hb dX8_friday_203 (by decide) (fun c_7 => ?_) (fun c_7 => ?_)
                      · skip
                        refine lv_iload (pc := 211) hx hb dX8_friday_211 (lv_at hl 2 rfl) ?_
                        exact z_iret cx hr hlk dX8_friday_213 (by simp [fridayP, c_1, c_2, c_3, c_4, hN, ← hu, c_7])
                      · skip
                        have h01 : inL 0 0 1 = true := by decide
                        refine lv_iload (pc := 206) hx hb dX8_friday_206 (lv_at hl 1 rfl) ?_
                        refine lv_goto (pc := 208) (tgt := 213) hx hb dX8_friday_208 (by decide) ?_
                        exact z_iret cx hr hlk dX8_friday_213 (by simp [fridayP, c_1, c_2, c_3, c_4, hN, ← hu, c_7, h01])
                    · skip
                      have hlt_m := lt_nat (a := m2) (b := 2 ^ nT sv) rfl rfl (by omega) (by omega) c_6
                      refine lv_iload (pc := 111) hx hb dX8_friday_111 (lv_at hl 3 rfl) ?_
                      refine lv_iload (pc := 113) hx hb dX8_friday_113 (lv_at hl 0 rfl) ?_
                      refine lv_iconst (pc := 115) (v := (-1)) hx hb dX8_friday_115 (by decide) ?_
                      refine lv_ixor (pc := 116) hx hb dX8_friday_116 ?_
                      refine lv_iand (pc := 117) hx hb dX8_friday_117 ?_
                      refine lv_if_eq (pc := 118) (tgt := 124) hx hb dX8_friday_118 (by decide) (fun c_8 => ?_) (fun c_8 => ?_)
                      · skip
                        refine lv_iconst (pc := 124) (v := 0) hx hb dX8_friday_124 (by decide) ?_
                        refine lv_istore (pc := 125) (lv' := [(9, .int 0), (8, .int (nI m2)), (7, .int ((frS sv u m2).2)), (6, .int ((frS sv u m2).1)), (5, .int u), (4, .int (wtT kp so sz el (nI n) 100)), (0, .ref (a 0)), (1, .int (nI n)), (2, .int st), (3, .int w)]) hx hb dX8_friday_125 hl (by decide) rfl (fun ls hl => ?_)
                        refine lv_iconst (pc := 127) (v := 0) hx hb dX8_friday_127 (by decide) ?_
                        refine lv_istore (pc := 128) (lv' := [(10, .int 0), (9, .int 0), (8, .int (nI m2)), (7, .int ((frS sv u m2).2)), (6, .int ((frS sv u m2).1)), (5, .int u), (4, .int (wtT kp so sz el (nI n) 100)), (0, .ref (a 0)), (1, .int (nI n)), (2, .int st), (3, .int w)]) hx hb dX8_friday_128 hl (by decide) rfl (fun ls hl => ?_)
                        have loop_130 : ∀ (k_130 : Nat) (j : Nat) (x10 : Int32) (x9 : Int32), (nT sv - j) < k_130 → (j ≤ nT sv) → x10 = nI j → x9 = cstN sv (nI m2) j → ∀ (ls : Array Slot), lv_has ls 11 [(10, .int x10), (9, .int x9), (8, .int (nI m2)), (7, .int ((frS sv u m2).2)), (6, .int ((frS sv u m2).1)), (5, .int u), (4, .int (wtT kp so sz el (nI n) 100)), (0, .ref (a 0)), (1, .int (nI n)), (2, .int st), (3, .int w)] → W p l e (rm0' (19) (547)) s m args below meth c s.heap [] 0 0 (MQ below (rQ (.int (fridayP sv kp so sz el (nI n) st w))) args s 0 0 nF) (F0 m 130 ls []) := by
                          intro k_130
                          induction k_130 with
                          | zero =>
                            intro j x10 x9 hm
                            exact absurd hm (Nat.not_lt_zero _)
                          | succ k_130 ih_130 =>
                            intro j x10 x9 hm_130 hij e_x10 e_x9  ls hl
                            subst e_x10
                            subst e_x9
                            refine lv_iload (pc := 130) hx hb dX8_friday_130 (lv_at hl 0 rfl) ?_
                            refine lv_aload_n (pc := 132) hx hb dX8_friday_132 rfl (lv_at hl 7 rfl) ?_
                            refine z_getM (pc := 133) cx (hW.at 0 rfl) 0 rfl m_fl_X8_9 rfl dX8_friday_133 ?_
                            refine lv_iconst (pc := 136) (v := 1) hx hb dX8_friday_136 (by decide) ?_
                            refine z_iald (pc := 137) (f := sv) (j := 1) cx (hW.at 1 rfl) rfl (by decide) (by decide) dX8_friday_137 ?_
                            refine lv_icmp_ge (pc := 138) (tgt := 173) hx hb dX8_friday_138 (by decide) (fun c_9 => ?_) (fun c_9 => ?_)
                            · skip
                              obtain rfl : j = nT sv := by have := ge_nat (a := j) rfl (Inv.n1 hC).1 (by omega) (by omega) c_9; omega
                              refine lv_iload (pc := 173) hx hb dX8_friday_173 (lv_at hl 3 rfl) ?_
                              refine lv_if_lt (pc := 175) (tgt := 188) hx hb dX8_friday_175 (by decide) (fun c_10 => ?_) (fun c_10 => ?_)
                              · skip
                                refine lv_iload (pc := 188) hx hb dX8_friday_188 (lv_at hl 2 rfl) ?_
                                refine lv_istore (pc := 190) (lv' := [(6, .int (nI m2)), (10, .int (nI (nT sv))), (9, .int (cstN sv (nI m2) (nT sv))), (8, .int (nI m2)), (7, .int ((frS sv u m2).2)), (5, .int u), (4, .int (wtT kp so sz el (nI n) 100)), (0, .ref (a 0)), (1, .int (nI n)), (2, .int st), (3, .int w)]) hx hb dX8_friday_190 hl (by decide) rfl (fun ls hl => ?_)
                                refine lv_iload (pc := 192) hx hb dX8_friday_192 (lv_at hl 2 rfl) ?_
                                refine lv_istore (pc := 194) (lv' := [(7, .int (cstN sv (nI m2) (nT sv))), (6, .int (nI m2)), (10, .int (nI (nT sv))), (9, .int (cstN sv (nI m2) (nT sv))), (8, .int (nI m2)), (5, .int u), (4, .int (wtT kp so sz el (nI n) 100)), (0, .ref (a 0)), (1, .int (nI n)), (2, .int st), (3, .int w)]) hx hb dX8_friday_194 hl (by decide) rfl (fun ls hl => ?_)
                                refine lv_iinc (pc := 196) (v := nI (m2 + 1)) (lv' := [(8, .int (nI (m2 + 1))), (7, .int (cstN sv (nI m2) (nT sv))), (6, .int (nI m2)), (10, .int (nI (nT sv))), (9, .int (cstN sv (nI m2) (nT sv))), (5, .int u), (4, .int (wtT kp so sz el (nI n) 100)), (0, .ref (a 0)), (1, .int (nI n)), (2, .int st), (3, .int w)]) hx hb dX8_friday_196 hl (k := 4) rfl (nI_1 _) (by decide) rfl (fun ls hl => ?_)
                                refine lv_goto (pc := 199) (tgt := 98) hx hb dX8_friday_199 (by decide) ?_
                                exact ih_98 (m2 + 1) (nI (m2 + 1)) (cstN sv (nI m2) (nT sv)) (nI m2) (by omega) (by omega) (by first | rfl | (simp [fridayP, unO, orN, frS, cstN, sumN, bit, c_1, c_2, c_3, c_4, hN, ← hu, c_8, c_10, i_nle.mpr c_10]; done)) (by first | rw [frS_skip (by assumption)] | rw [frS_new (by assumption) (Or.inl (by assumption))] | rw [frS_new (by assumption) (Or.inr (by assumption))] | rw [frS_old (by assumption) (by assumption) (by assumption)]) (by first | rw [frS_skip (by assumption)] | rw [frS_new (by assumption) (Or.inl (by assumption))] | rw [frS_new (by assumption) (Or.inr (by assumption))] | rw [frS_old (by assumption) (by assumption) (by assumption)]) ls (lv_sub hl [0, 1, 2, 5, 6, 7, 8, 9, 10] rfl)
                              · skip
                                refine lv_iload (pc := 178) hx hb dX8_friday_178 (lv_at hl 1 rfl) ?_
                                refine lv_iload (pc := 180) hx hb dX8_friday_180 (lv_at hl 3 rfl) ?_
                                refine lv_icmp_lt (pc := 182) (tgt := 188) hx hb dX8_friday_182 (by decide) (fun c_11 => ?_) (fun c_11 => ?_)
                                · skip
                                  refine lv_iload (pc := 188) hx hb dX8_friday_188 (lv_at hl 2 rfl) ?_
                                  refine lv_istore (pc := 190) (lv' := [(6, .int (nI m2)), (10, .int (nI (nT sv))), (9, .int (cstN sv (nI m2) (nT sv))), (8, .int (nI m2)), (7, .int ((frS sv u m2).2)), (5, .int u), (4, .int (wtT kp so sz el (nI n) 100)), (0, .ref (a 0)), (1, .int (nI n)), (2, .int st), (3, .int w)]) hx hb dX8_friday_190 hl (by decide) rfl (fun ls hl => ?_)
                                  refine lv_iload (pc := 192) hx hb dX8_friday_192 (lv_at hl 2 rfl) ?_
                                  refine lv_istore (pc := 194) (lv' := [(7, .int (cstN sv (nI m2) (nT sv))), (6, .int (nI m2)), (10, .int (nI (nT sv))), (9, .int (cstN sv (nI m2) (nT sv))), (8, .int (nI m2)), (5, .int u), (4, .int (wtT kp so sz el (nI n) 100)), (0, .ref (a 0)), (1, .int (nI n)), (2, .int st), (3, .int w)]) hx hb dX8_friday_194 hl (by decide) rfl (fun ls hl => ?_)
                                  refine lv_iinc (pc := 196) (v := nI (m2 + 1)) (lv' := [(8, .int (nI (m2 + 1))), (7, .int (cstN sv (nI m2) (nT sv))), (6, .int (nI m2)), (10, .int (nI (nT sv))), (9, .int (cstN sv (nI m2) (nT sv))), (5, .int u), (4, .int (wtT kp so sz el (nI n) 100)), (0, .ref (a 0)), (1, .int (nI n)), (2, .int st), (3, .int w)]) hx hb dX8_friday_196 hl (k := 4) rfl (nI_1 _) (by decide) rfl (fun ls hl => ?_)
                                  refine lv_goto (pc := 199) (tgt := 98) hx hb dX8_friday_199 (by decide) ?_
                                  exact ih_98 (m2 + 1) (nI (m2 + 1)) (cstN sv (nI m2) (nT sv)) (nI m2) (by omega) (by omega) (by first | rfl | (simp [fridayP, unO, orN, frS, cstN, sumN, bit, c_1, c_2, c_3, c_4, hN, ← hu, c_8, c_10, c_11, i_nlt.mp c_10, i_nle.mpr c_11]; done)) (by first | rw [frS_skip (by assumption)] | rw [frS_new (by assumption) (Or.inl (by assumption))] | rw [frS_new (by assumption) (Or.inr (by assumption))] | rw [frS_old (by assumption) (by assumption) (by assumption)]) (by first | rw [frS_skip (by assumption)] | rw [frS_new (by assumption) (Or.inl (by assumption))] | rw [frS_new (by assumption) (Or.inr (by assumption))] | rw [frS_old (by assumption) (by assumption) (by assumption)]) ls (lv_sub hl [0, 1, 2, 5, 6, 7, 8, 9, 10] rfl)
                                · skip
                                  refine lv_goto (pc := 185) (tgt := 196) hx hb dX8_friday_185 (by decide) ?_
                                  refine lv_iinc (pc := 196) (v := nI (m2 + 1)) (lv' := [(8, .int (nI (m2 + 1))), (10, .int (nI (nT sv))), (9, .int (cstN sv (nI m2) (nT sv))), (7, .int ((frS sv u m2).2)), (6, .int ((frS sv u m2).1)), (5, .int u), (4, .int (wtT kp so sz el (nI n) 100)), (0, .ref (a 0)), (1, .int (nI n)), (2, .int st), (3, .int w)]) hx hb dX8_friday_196 hl (k := 2) rfl (nI_1 _) (by decide) rfl (fun ls hl => ?_)
                                  refine lv_goto (pc := 199) (tgt := 98) hx hb dX8_friday_199 (by decide) ?_
                                  exact ih_98 (m2 + 1) (nI (m2 + 1)) ((frS sv u m2).2) ((frS sv u m2).1) (by omega) (by omega) (by first | rfl | (simp [fridayP, unO, orN, frS, cstN, sumN, bit, c_1, c_2, c_3, c_4, hN, ← hu, c_8, c_10, c_11, i_nlt.mp c_10, i_nlt.mp c_11]; done)) (by first | rw [frS_skip (by assumption)] | rw [frS_new (by assumption) (Or.inl (by assumption))] | rw [frS_new (by assumption) (Or.inr (by assumption))] | rw [frS_old (by assumption) (by assumption) (by assumption)]) (by first | rw [frS_skip (by assumption)] | rw [frS_new (by assumption) (Or.inl (by assumption))] | rw [frS_new (by assumption) (Or.inr (by assumption))] | rw [frS_old (by assumption) (by assumption) (by assumption)]) ls (lv_sub hl [0, 3, 4, 5, 6, 7, 8, 9, 10] rfl)
                            · skip
                              have hlt_j := lt_nat (a := j) rfl (Inv.n1 hC).1 (by omega) (by omega) c_9
                              refine lv_iload (pc := 141) hx hb dX8_friday_141 (lv_at hl 1 rfl) ?_
                              refine lv_iload (pc := 143) hx hb dX8_friday_143 (lv_at hl 2 rfl) ?_
                              refine lv_iload (pc := 145) hx hb dX8_friday_145 (lv_at hl 0 rfl) ?_
                              refine lv_ishr (pc := 147) hx hb dX8_friday_147 ?_
                              refine lv_iconst (pc := 148) (v := 1) hx hb dX8_friday_148 (by decide) ?_
                              refine lv_iand (pc := 149) hx hb dX8_friday_149 ?_
                              refine lv_iconst (pc := 150) (v := 1) hx hb dX8_friday_150 (by decide) ?_
                              refine lv_icmp_ne (pc := 151) (tgt := 163) hx hb dX8_friday_151 (by decide) (fun c_12 => ?_) (fun c_12 => ?_)
                              · skip
                                refine lv_iconst (pc := 163) (v := 0) hx hb dX8_friday_163 (by decide) ?_
                                refine lv_iadd (pc := 164) hx hb dX8_friday_164 ?_
                                refine lv_istore (pc := 165) (lv' := [(9, .int ((cstN sv (nI m2) j) + 0)), (10, .int (nI j)), (8, .int (nI m2)), (7, .int ((frS sv u m2).2)), (6, .int ((frS sv u m2).1)), (5, .int u), (4, .int (wtT kp so sz el (nI n) 100)), (0, .ref (a 0)), (1, .int (nI n)), (2, .int st), (3, .int w)]) hx hb dX8_friday_165 hl (by decide) rfl (fun ls hl => ?_)
                                refine lv_iinc (pc := 167) (v := nI (j + 1)) (lv' := [(10, .int (nI (j + 1))), (9, .int ((cstN sv (nI m2) j) + 0)), (8, .int (nI m2)), (7, .int ((frS sv u m2).2)), (6, .int ((frS sv u m2).1)), (5, .int u), (4, .int (wtT kp so sz el (nI n) 100)), (0, .ref (a 0)), (1, .int (nI n)), (2, .int st), (3, .int w)]) hx hb dX8_friday_167 hl (k := 1) rfl (nI_1 _) (by decide) rfl (fun ls hl => ?_)
                                refine lv_goto (pc := 170) (tgt := 130) hx hb dX8_friday_170 (by decide) ?_
                                exact ih_130 (j + 1) (nI (j + 1)) ((cstN sv (nI m2) j) + 0) (by omega) (by omega) (by first | rfl | (simp [fridayP, unO, orN, frS, cstN, sumN, bit, c_1, c_2, c_3, c_4, hN, ← hu, c_8, c_12]; done)) (by first | rfl | (simp [fridayP, unO, orN, frS, cstN, sumN, bit, c_1, c_2, c_3, c_4, hN, ← hu, c_8, c_12]; done)) ls (lv_sub hl [0, 1, 2, 3, 4, 5, 6, 7, 8, 9, 10] rfl)
                              · skip
                                refine lv_aload_n (pc := 154) hx hb dX8_friday_154 rfl (lv_at hl 7 rfl) ?_
                                refine lv_iload (pc := 155) hx hb dX8_friday_155 (lv_at hl 0 rfl) ?_
                                refine k_X8_priceOf (pc := 157) (n := j) cx hW (by first | assumption | omega) (by first | assumption | omega) m_ml_X8_148 ⟨Nat.le_of_ble_eq_true rfl, Nat.le_of_ble_eq_true rfl⟩ hl.1 rfl (by simp [Value.category]) dX8_friday_157 ⟨Nat.le_refl _, Nat.le_refl _⟩ ?_
                                refine lv_goto (pc := 160) (tgt := 164) hx hb dX8_friday_160 (by decide) ?_
                                refine lv_iadd (pc := 164) hx hb dX8_friday_164 ?_
                                refine lv_istore (pc := 165) (lv' := [(9, .int ((cstN sv (nI m2) j) + (prO sv j))), (10, .int (nI j)), (8, .int (nI m2)), (7, .int ((frS sv u m2).2)), (6, .int ((frS sv u m2).1)), (5, .int u), (4, .int (wtT kp so sz el (nI n) 100)), (0, .ref (a 0)), (1, .int (nI n)), (2, .int st), (3, .int w)]) hx hb dX8_friday_165 hl (by decide) rfl (fun ls hl => ?_)
                                refine lv_iinc (pc := 167) (v := nI (j + 1)) (lv' := [(10, .int (nI (j + 1))), (9, .int ((cstN sv (nI m2) j) + (prO sv j))), (8, .int (nI m2)), (7, .int ((frS sv u m2).2)), (6, .int ((frS sv u m2).1)), (5, .int u), (4, .int (wtT kp so sz el (nI n) 100)), (0, .ref (a 0)), (1, .int (nI n)), (2, .int st), (3, .int w)]) hx hb dX8_friday_167 hl (k := 1) rfl (nI_1 _) (by decide) rfl (fun ls hl => ?_)
                                refine lv_goto (pc := 170) (tgt := 130) hx hb dX8_friday_170 (by decide) ?_
                                exact ih_130 (j + 1) (nI (j + 1)) ((cstN sv (nI m2) j) + (prO sv j)) (by omega) (by omega) (by first | rfl | (simp [fridayP, unO, orN, frS, cstN, sumN, bit, c_1, c_2, c_3, c_4, hN, ← hu, c_8, c_12]; done)) (by first | rfl | (simp [fridayP, unO, orN, frS, cstN, sumN, bit, c_1, c_2, c_3, c_4, hN, ← hu, c_8, c_12]; done)) ls (lv_sub hl [0, 1, 2, 3, 4, 5, 6, 7, 8, 9, 10] rfl)
                        exact loop_130 ((nT sv - 0) + 1) 0 0 0 (Nat.lt_succ_self _) (by omega) (by first | rfl | (simp [fridayP, unO, orN, frS, cstN, sumN, bit, c_1, c_2, c_3, c_4, hN, ← hu, c_8]; done)) (by first | rfl | (simp [fridayP, unO, orN, frS, cstN, sumN, bit, c_1, c_2, c_3, c_4, hN, ← hu, c_8]; done)) ls (lv_sub hl [0, 1, 2, 3, 4, 5, 6, 7, 8, 9, 10] rfl)
                      · skip
                        refine lv_goto (pc := 121) (tgt := 196) hx hb dX8_friday_121 (by decide) ?_
                        refine lv_iinc (pc := 196) (v := nI (m2 + 1)) (lv' := [(8, .int (nI (m2 + 1))), (7, .int ((frS sv u m2).2)), (6, .int ((frS sv u m2).1)), (5, .int u), (4, .int (wtT kp so sz el (nI n) 100)), (0, .ref (a 0)), (1, .int (nI n)), (2, .int st), (3, .int w)]) hx hb dX8_friday_196 hl (k := 0) rfl (nI_1 _) (by decide) rfl (fun ls hl => ?_)
                        refine lv_goto (pc := 199) (tgt := 98) hx hb dX8_friday_199 (by decide) ?_
                        exact ih_98 (m2 + 1) (nI (m2 + 1)) ((frS sv u m2).2) ((frS sv u m2).1) (by omega) (by omega) (by first | rfl | (simp [fridayP, unO, orN, frS, cstN, sumN, bit, c_1, c_2, c_3, c_4, hN, ← hu, c_8]; done)) (by first | rw [frS_skip (by assumption)] | rw [frS_new (by assumption) (Or.inl (by assumption))] | rw [frS_new (by assumption) (Or.inr (by assumption))] | rw [frS_old (by assumption) (by assumption) (by assumption)]) (by first | rw [frS_skip (by assumption)] | rw [frS_new (by assumption) (Or.inl (by assumption))] | rw [frS_new (by assumption) (Or.inr (by assumption))] | rw [frS_old (by assumption) (by assumption) (by assumption)]) ls (lv_sub hl [0, 1, 2, 3, 4, 5, 6, 7, 8] rfl)
                exact loop_98 ((2 ^ nT sv - 0) + 1) 0 0 (-4) 0 (Nat.lt_succ_self _) (Nat.zero_le _) (by first | rfl | (simp [fridayP, unO, orN, frS, cstN, sumN, bit, c_1, c_2, c_3, c_4, hN, ← hu]; done)) (by first | rfl | (simp [fridayP, unO, orN, frS, cstN, sumN, bit, c_1, c_2, c_3, c_4, hN, ← hu]; done)) (by first | rfl | (simp [fridayP, unO, orN, frS, cstN, sumN, bit, c_1, c_2, c_3, c_4, hN, ← hu]; done)) ls (lv_sub hl [0, 1, 2, 3, 4, 5, 6, 7, 8] rfl)
              · skip
                have hlt_i := lt_nat (a := i) rfl hz.1 (by omega) (by omega) c_5
                refine lv_iload (pc := 60) hx hb dX8_friday_60 (lv_at hl 1 rfl) ?_
                refine lv_aload_n (pc := 62) hx hb dX8_friday_62 rfl (lv_at hl 3 rfl) ?_
                refine lv_aload_n (pc := 63) hx hb dX8_friday_63 rfl (lv_at hl 3 rfl) ?_
                refine z_getM (pc := 64) cx (hW.at 0 rfl) 7 rfl m_fl_X8_31 rfl dX8_friday_64 ?_
                refine lv_bipush (pc := 67) (v := 100) hx hb dX8_friday_67 (by decide) ?_
                refine lv_iload_n (pc := 69) hx hb dX8_friday_69 rfl (lv_at hl 4 rfl) ?_
                refine lv_imul (pc := 70) hx hb dX8_friday_70 ?_
                refine lv_iload (pc := 71) hx hb dX8_friday_71 (lv_at hl 0 rfl) ?_
                refine lv_iadd (pc := 73) hx hb dX8_friday_73 ?_
                refine z_iald (pc := 74) (f := el) (j := 100 * n + i) cx (hW.at 8 rfl) (ixe n i) (by omega) (by decide) dX8_friday_74 ?_
                refine lv_iload_n (pc := 75) hx hb dX8_friday_75 rfl (lv_at hl 5 rfl) ?_
                refine k_X8_heardAt (pc := 76) (f := el (100 * n + i)) (st := st) cx hW hI (tone_rg (hal i (Nat.zero_le _) (by omega))) m_ml_X8_201 ⟨Nat.le_of_ble_eq_true rfl, Nat.le_of_ble_eq_true rfl⟩ hl.1 rfl (by simp [Value.category]) dX8_friday_76 ⟨Nat.le_refl _, Nat.le_refl _⟩ ?_
                refine lv_ior (pc := 79) hx hb dX8_friday_79 ?_
                refine lv_istore (pc := 80) (lv' := [(5, .int ((unO sv el n st i) ||| (hrA sv (el (100 * n + i)) st))), (6, .int (nI i)), (4, .int (wtT kp so sz el (nI n) 100)), (0, .ref (a 0)), (1, .int (nI n)), (2, .int st), (3, .int w)]) hx hb dX8_friday_80 hl (by decide) rfl (fun ls hl => ?_)
                refine lv_iinc (pc := 82) (v := nI (i + 1)) (lv' := [(6, .int (nI (i + 1))), (5, .int ((unO sv el n st i) ||| (hrA sv (el (100 * n + i)) st))), (4, .int (wtT kp so sz el (nI n) 100)), (0, .ref (a 0)), (1, .int (nI n)), (2, .int st), (3, .int w)]) hx hb dX8_friday_82 hl (k := 1) rfl (nI_1 _) (by decide) rfl (fun ls hl => ?_)
                refine lv_goto (pc := 85) (tgt := 49) hx hb dX8_friday_85 (by decide) ?_
                exact ih_49 (i + 1) (nI (i + 1)) ((unO sv el n st i) ||| (hrA sv (el (100 * n + i)) st)) (by omega) (by omega) (by first | rfl | (simp [fridayP, unO, orN, frS, cstN, sumN, bit, c_1, c_2, c_3, c_4, hN]; done)) (by first | rfl | (simp [fridayP, unO, orN, frS, cstN, sumN, bit, c_1, c_2, c_3, c_4, hN]; done)) ls (lv_sub hl [0, 1, 2, 3, 4, 5, 6] rfl)
          exact loop_49 ((iN (sz n) - 0) + 1) 0 0 0 (Nat.lt_succ_self _) (by omega) (by first | rfl | (simp [fridayP, unO, orN, frS, cstN, sumN, bit, c_1, c_2, c_3, c_4, hN]; done)) (by first | rfl | (simp [fridayP, unO, orN, frS, cstN, sumN, bit, c_1, c_2, c_3, c_4, hN]; done)) ls (lv_sub hl [0, 1, 2, 3, 4, 5, 6] rfl)
        · skip
          refine lv_iload (pc := 40) hx hb dX8_friday_40 (lv_at hl 0 rfl) ?_
          exact z_iret cx hr hlk dX8_friday_42 (by first | rfl | (simp [fridayP, unO, orN, frS, cstN, sumN, bit, c_1, c_2, c_3, c_4]; done))
      · skip
        refine lv_iconst (pc := 24) (v := (-1)) hx hb dX8_friday_24 (by decide) ?_
        exact z_iret cx hr hlk dX8_friday_25 (by first | rfl | (simp [fridayP, unO, orN, frS, cstN, sumN, bit, c_1, c_2, c_3]; done))
theorem k_X8_friday {p : Program} {l : Launch} {e : Env} {R : Room} {s : State} {m : MethodId} {args : Array Value} {below : List Frame} {meth : Method} {c : Code} {H : Heap} {locs : List Loc} {cells slots : Nat} {Q : State → Prop} {cc : ByteArray} {pc index : Nat} {ls : Array Slot} {rest st0 : List Value} {E : zE} {own : String} {nL : Nat} {a : Nat → Nat} {sv im rd wa kp so sz el pr ts nu bu ht : Nat → Int32} {th po ba en td : Int32} {ig : Bool} {ij : Bool} {d st w : Int32} (cx : Cx E p s args m c own cc nL) (hW : WW E (wM a (E.2.1 0) sv im rd wa kp so sz el pr ts nu bu ht (bI ig) th po ba en td (bI ij)) gN H) (hI : Inv sv) (hR : InvR kp so sz) (zl : Cond.methodLink own index yX8_friday ∈ AllW) (zR : 19 + 1 ≤ R.frames ∧ 8 + (11 + 11) + 547 ≤ R.locals) (zs : ls.size = nL) (zt : st0 = ([.int d, .int st, .int w] : List Value).reverse ++ .ref (a 0) :: rest) (z8 : (rest.map fun v => v.category).sum ≤ 8) (zd : decode cc pc = .ok (.invokevirtual index, 3)) (zf : cells ≤ R.cells ∧ slots ≤ R.slots) (kk : W p l e R s m args below meth c H locs cells slots Q (F0 m (pc + 3) ls (.int (fridayP sv kp so sz el d st w) :: rest))) : W p l e R s m args below meth c H locs cells slots Q (F0 m pc ls st0) :=
  z_callV cx vm_X8_friday (c_X8_friday l E a sv im rd wa kp so sz el pr ts nu bu ht th po ba en td ig ij d st w hI hR) (z_rec cx.2 (hW.at 0 rfl) rfl) hW zl ⟨rfl, rfl⟩ zR rfl zs zt z8 zd zf kk
theorem vm_X8_bands : zVm yX8_bands cX8_bands 9 (some FieldType.int) 4 := ⟨m_co_X8_bands, m_in_RX8, ⟨m_im_X8_bands, m_se_X8_X8_bands⟩, by decide +kernel, by decide +kernel, by decide +kernel⟩
set_option maxHeartbeats 4000000 in
set_option maxRecDepth 100000 in
theorem c_X8_bands (l : Launch) (E : zE) (a : Nat → Nat) (sv im rd wa kp so sz el pr ts nu bu ht : Nat → Int32) (th po ba en td : Int32) (ig : Bool) (ij : Bool) (x st x2 w : Int32) (hI : Inv sv) : Met l yX8_bands (.code yX8_bands cX8_bands 9 (some FieldType.int) :: AllW) (rm0' 18 523) (zP E (fun H => WW E (wM a (E.2.1 0) sv im rd wa kp so sz el pr ts nu bu ht (bI ig) th po ba en td (bI ij)) gN H) [.ref (a 0), .int x, .int st, .int x2, .int w]) (rQ (.int (bandsP sv x st x2 w))) 0 0 nF := by
  refine z_body (own := RX8) (by decide) rfl rfl ?_
  intro p e s m args below meth c ls cx hr hlk hnm hW hl
  have hx := cx.x
  have hb := cx.b
  have hl : lv_has ls 9 [(0, .ref (a 0)), (1, .int x), (2, .int st), (3, .int x2), (4, .int w)] := hl
  have hC := hI.1
  have hP10 := (Inv.n0 hC).2
  have hT7 := (Inv.n1 hC).2
  have hA24 := (Inv.n2 hC).2
  refine lv_aload_n (pc := 0) hx hb dX8_bands_0 rfl (lv_at hl 0 rfl) ?_
  refine lv_iload_n (pc := 1) hx hb dX8_bands_1 rfl (lv_at hl 1 rfl) ?_
  refine k_X8_isThing (pc := 2) (x := x) cx hW  m_ml_X8_143 ⟨Nat.le_of_ble_eq_true rfl, Nat.le_of_ble_eq_true rfl⟩ hl.1 rfl (by simp [Value.category]) dX8_bands_2 ⟨Nat.le_refl _, Nat.le_refl _⟩ ?_
  refine z_ifeq (pc := 5) (tgt := 31) hx hb dX8_bands_5 (by decide) (fun c_1 => ?_) (fun c_1 => ?_)
  · skip
    refine lv_iconst (pc := 31) (v := (-1)) hx hb dX8_bands_31 (by decide) ?_
    exact z_iret cx hr hlk dX8_bands_32 (by first | rfl | (simp [bandsP, c_1]; done))
  · skip
    obtain ⟨n, hn, rfl⟩ := th_nat hC c_1
    have hN := iN_nI (n := n) (by omega)
    refine lv_iload_n (pc := 8) hx hb dX8_bands_8 rfl (lv_at hl 2 rfl) ?_
    refine k_X8_isStrong (pc := 9) (x := st) cx  m_ml_X8_180 ⟨Nat.le_of_ble_eq_true rfl, Nat.le_of_ble_eq_true rfl⟩ hl.1 rfl (by simp [Value.category]) dX8_bands_9 ⟨Nat.le_refl _, Nat.le_refl _⟩ ?_
    refine z_ifeq (pc := 12) (tgt := 31) hx hb dX8_bands_12 (by decide) (fun c_2 => ?_) (fun c_2 => ?_)
    · skip
      refine lv_iconst (pc := 31) (v := (-1)) hx hb dX8_bands_31 (by decide) ?_
      exact z_iret cx hr hlk dX8_bands_32 (by first | rfl | (simp [bandsP, c_1, hN, c_2]; done))
    · skip
      refine lv_iload_n (pc := 15) hx hb dX8_bands_15 rfl (lv_at hl 3 rfl) ?_
      refine lv_iconst (pc := 16) (v := (-1)) hx hb dX8_bands_16 (by decide) ?_
      refine lv_icmp_lt (pc := 17) (tgt := 31) hx hb dX8_bands_17 (by decide) (fun c_3 => ?_) (fun c_3 => ?_)
      · skip
        refine lv_iconst (pc := 31) (v := (-1)) hx hb dX8_bands_31 (by decide) ?_
        exact z_iret cx hr hlk dX8_bands_32 (by first | rfl | (simp [bandsP, c_1, hN, c_2, c_3, i_nle.mpr c_3]; done))
      · skip
        refine lv_iload (pc := 20) hx hb dX8_bands_20 (lv_at hl 4 rfl) ?_
        refine lv_i2l (pc := 22) (v := Int32.toInt64 w) hx hb dX8_bands_22 rfl ?_
        refine lv_lconst (pc := 23) (v := 0) hx hb dX8_bands_23 rfl ?_
        refine lv_lconst (pc := 24) (v := 1) hx hb dX8_bands_24 rfl ?_
        refine k_X8_isIn (pc := 25) (x := w) (y := 0) (z := 1) cx  m_ml_X8_53 ⟨Nat.le_of_ble_eq_true rfl, Nat.le_of_ble_eq_true rfl⟩ hl.1 rfl (by simp [Value.category]) dX8_bands_25 ⟨Nat.le_refl _, Nat.le_refl _⟩ ?_
        refine z_ifne (pc := 28) (tgt := 33) hx hb dX8_bands_28 (by decide) (fun c_4 => ?_) (fun c_4 => ?_)
        · skip
          have hB : bandsP sv (nI n) st x2 w = bnd (fun f => bzA sv n (nI f) st) x2 w 601 1 0 false := by simp [bandsP, c_1, hN, c_2, c_3, c_4, i_nlt.mp c_3]
          refine lv_iconst (pc := 33) (v := 0) hx hb dX8_bands_33 (by decide) ?_
          refine lv_istore (pc := 34) (lv' := [(5, .int 0), (0, .ref (a 0)), (1, .int (nI n)), (2, .int st), (3, .int x2), (4, .int w)]) hx hb dX8_bands_34 hl (by decide) rfl (fun ls hl => ?_)
          refine lv_iconst (pc := 36) (v := 0) hx hb dX8_bands_36 (by decide) ?_
          refine lv_istore (pc := 37) (lv' := [(6, .int 0), (5, .int 0), (0, .ref (a 0)), (1, .int (nI n)), (2, .int st), (3, .int x2), (4, .int w)]) hx hb dX8_bands_37 hl (by decide) rfl (fun ls hl => ?_)
          refine lv_iconst (pc := 39) (v := 1) hx hb dX8_bands_39 (by decide) ?_
          refine lv_istore (pc := 40) (lv' := [(7, .int 1), (6, .int 0), (5, .int 0), (0, .ref (a 0)), (1, .int (nI n)), (2, .int st), (3, .int x2), (4, .int w)]) hx hb dX8_bands_40 hl (by decide) rfl (fun ls hl => ?_)
          have loop_42 : ∀ (k_42 : Nat) (f : Nat) (k : Nat) (b : Bool) (x7 : Int32) (x6 : Bool) (x5 : Int32), (602 - f) < k_42 → (1 ≤ f ∧ f ≤ 602) → (bnd (fun f => bzA sv n (nI f) st) x2 w 601 1 0 false = bnd (fun f => bzA sv n (nI f) st) x2 w (602 - f) f k b) → x7 = nI f → x6 = b → x5 = nI k → ∀ (ls : Array Slot), lv_has ls 9 [(7, .int x7), (6, .int (bI x6)), (5, .int x5), (0, .ref (a 0)), (1, .int (nI n)), (2, .int st), (3, .int x2), (4, .int w)] → W p l e (rm0' (18) (523)) s m args below meth c s.heap [] 0 0 (MQ below (rQ (.int (bandsP sv (nI n) st x2 w))) args s 0 0 nF) (F0 m 42 ls []) := by
            intro k_42
            induction k_42 with
            | zero =>
              intro f k b x7 x6 x5 hm
              exact absurd hm (Nat.not_lt_zero _)
            | succ k_42 ih_42 =>
              intro f k b x7 x6 x5 hm_42 hi he e_x7 e_x6 e_x5  ls hl
              subst e_x7
              subst e_x6
              subst e_x5
              refine lv_iload (pc := 42) hx hb dX8_bands_42 (lv_at hl 0 rfl) ?_
              refine lv_sipush (pc := 44) (v := 601) hx hb dX8_bands_44 (by decide) ?_
              refine lv_icmp_gt (pc := 47) (tgt := 157) hx hb dX8_bands_47 (by decide) (fun c_5 => ?_) (fun c_5 => ?_)
              · skip
                have hgt := gtn (a := 601) (b := f) rfl rfl (by omega) (by omega) c_5
                have hff : f = 602 := by omega
                refine lv_iload_n (pc := 157) hx hb dX8_bands_157 rfl (lv_at hl 6 rfl) ?_
                refine lv_if_ge (pc := 158) (tgt := 166) hx hb dX8_bands_158 (by decide) (fun c_6 => ?_) (fun c_6 => ?_)
                · skip
                  refine lv_bipush (pc := 166) (v := (-4)) hx hb dX8_bands_166 (by decide) ?_
                  exact z_iret cx hr hlk dX8_bands_168 (by rw [hB, he, show 602 - f = 0 by omega, bnd_0]; simp [c_1, hN, c_2, c_3, c_4, c_6, i_nlt.mp c_3, i_nlt.mpr c_6])
                · skip
                  refine lv_iload (pc := 161) hx hb dX8_bands_161 (lv_at hl 2 rfl) ?_
                  refine lv_goto (pc := 163) (tgt := 168) hx hb dX8_bands_163 (by decide) ?_
                  exact z_iret cx hr hlk dX8_bands_168 (by rw [hB, he, show 602 - f = 0 by omega, bnd_0]; simp [c_1, hN, c_2, c_3, c_4, c_6, i_nlt.mp c_3, i_nle.mp c_6])
              · skip
                have hle := ngt (a := 601) (b := f) rfl rfl (by omega) (by omega) c_5
                refine lv_iload (pc := 50) hx hb dX8_bands_50 (lv_at hl 0 rfl) ?_
                refine lv_sipush (pc := 52) (v := 600) hx hb dX8_bands_52 (by decide) ?_
                refine lv_icmp_gt (pc := 55) (tgt := 73) hx hb dX8_bands_55 (by decide) (fun c_7 => ?_) (fun c_7 => ?_)
                · skip
                  have h6 : ¬ f ≤ 600 := by have := gtn (a := 600) (b := f) rfl rfl (by omega) (by omega) c_7; omega
                  refine lv_iconst (pc := 73) (v := 0) hx hb dX8_bands_73 (by decide) ?_
                  refine lv_istore (pc := 74) (lv' := [(8, .int 0), (7, .int (nI f)), (6, .int (bI x6)), (5, .int (nI k)), (0, .ref (a 0)), (1, .int (nI n)), (2, .int st), (3, .int x2), (4, .int w)]) hx hb dX8_bands_74 hl (by decide) rfl (fun ls hl => ?_)
                  refine lv_iload (pc := 76) hx hb dX8_bands_76 (lv_at hl 0 rfl) ?_
                  refine lv_if_eq (pc := 78) (tgt := 89) hx hb dX8_bands_78 (by decide) (fun _ => ?_) (fun c => (c (by decide)).elim)
                  refine lv_iload_n (pc := 89) hx hb dX8_bands_89 rfl (lv_at hl 7 rfl) ?_
                  refine lv_if_lt (pc := 90) (tgt := 114) hx hb dX8_bands_90 (by decide) (fun c_9 => ?_) (fun c_9 => ?_)
                  · skip
                    refine lv_iload_n (pc := 114) hx hb dX8_bands_114 rfl (lv_at hl 7 rfl) ?_
                    refine lv_if_lt (pc := 115) (tgt := 147) hx hb dX8_bands_115 (by decide) (fun _ => ?_) (fun c_10 => (by first | exact absurd c_10 c_9 | exact absurd c_9 c_10 | exact absurd c_10 (i_nlt.mpr c_9) | exact absurd c_9 (i_nlt.mpr c_10) | exact absurd c_10 (i_nle.mpr c_9) | exact absurd c_9 (i_nle.mpr c_10) | exact absurd (c_10.symm.trans c_9) (by decide) | exact absurd c_9 (i_nle.mpr (i_nlt.mp c_10)) | exact absurd c_10 (i_nle.mpr (i_nlt.mp c_9))))
                    refine lv_iload (pc := 147) hx hb dX8_bands_147 (lv_at hl 0 rfl) ?_
                    refine lv_istore (pc := 149) (lv' := [(6, .int 0), (8, .int 0), (7, .int (nI f)), (5, .int (nI k)), (0, .ref (a 0)), (1, .int (nI n)), (2, .int st), (3, .int x2), (4, .int w)]) hx hb dX8_bands_149 hl (by decide) rfl (fun ls hl => ?_)
                    refine lv_iinc (pc := 151) (v := nI (f + 1)) (lv' := [(7, .int (nI (f + 1))), (6, .int 0), (8, .int 0), (5, .int (nI k)), (0, .ref (a 0)), (1, .int (nI n)), (2, .int st), (3, .int x2), (4, .int w)]) hx hb dX8_bands_151 hl (k := 2) rfl (nI_1 _) (by decide) rfl (fun ls hl => ?_)
                    refine lv_goto (pc := 154) (tgt := 42) hx hb dX8_bands_154 (by decide) ?_
                    exact ih_42 (f + 1) k false (nI (f + 1)) false (nI k) (by omega) (by omega) (by rw [he, bnd_step (by omega), show 602 - f - 1 = 602 - (f + 1) from rfl]; simp [c_1, hN, c_2, c_3, c_4, h6, c_9, i_nlt.mp c_3, i_nle.mpr c_9]) (by first | rfl | (simp [bandsP, c_1, hN, c_2, c_3, c_4, h6, c_9, i_nlt.mp c_3, i_nle.mpr c_9]; done)) rfl rfl ls (lv_sub hl [0, 1, 3, 4, 5, 6, 7, 8] rfl)
                  · skip
                    refine lv_iload (pc := 93) hx hb dX8_bands_93 (lv_at hl 3 rfl) ?_
                    refine lv_iload_n (pc := 95) hx hb dX8_bands_95 rfl (lv_at hl 7 rfl) ?_
                    refine lv_iconst (pc := 96) (v := 1) hx hb dX8_bands_96 (by decide) ?_
                    refine lv_iadd (pc := 97) hx hb dX8_bands_97 ?_
                    refine lv_icmp_ne (pc := 98) (tgt := 114) hx hb dX8_bands_98 (by decide) (fun c_11 => ?_) (fun c_11 => ?_)
                    · skip
                      refine lv_iload_n (pc := 114) hx hb dX8_bands_114 rfl (lv_at hl 7 rfl) ?_
                      refine lv_if_lt (pc := 115) (tgt := 147) hx hb dX8_bands_115 (by decide) (fun c_12 => (by first | exact absurd c_12 c_9 | exact absurd c_9 c_12 | exact absurd c_12 (i_nlt.mpr c_9) | exact absurd c_9 (i_nlt.mpr c_12) | exact absurd c_12 (i_nle.mpr c_9) | exact absurd c_9 (i_nle.mpr c_12) | exact absurd (c_12.symm.trans c_9) (by decide) | exact absurd c_9 (i_nle.mpr (i_nlt.mp c_12)) | exact absurd c_12 (i_nle.mpr (i_nlt.mp c_9)))) (fun _ => ?_)
                      refine lv_iload (pc := 118) hx hb dX8_bands_118 (lv_at hl 3 rfl) ?_
                      refine lv_iload_n (pc := 120) hx hb dX8_bands_120 rfl (lv_at hl 7 rfl) ?_
                      refine lv_iconst (pc := 121) (v := 1) hx hb dX8_bands_121 (by decide) ?_
                      refine lv_iadd (pc := 122) hx hb dX8_bands_122 ?_
                      refine lv_icmp_ne (pc := 123) (tgt := 147) hx hb dX8_bands_123 (by decide) (fun _ => ?_) (fun c_13 => (by first | exact absurd c_13 c_11 | exact absurd c_11 c_13 | exact absurd c_13 (i_nlt.mpr c_11) | exact absurd c_11 (i_nlt.mpr c_13) | exact absurd c_13 (i_nle.mpr c_11) | exact absurd c_11 (i_nle.mpr c_13) | exact absurd (c_13.symm.trans c_11) (by decide) | exact absurd c_11 (i_nle.mpr (i_nlt.mp c_13)) | exact absurd c_13 (i_nle.mpr (i_nlt.mp c_11))))
                      refine lv_iload (pc := 147) hx hb dX8_bands_147 (lv_at hl 0 rfl) ?_
                      refine lv_istore (pc := 149) (lv' := [(6, .int 0), (8, .int 0), (7, .int (nI f)), (5, .int (nI k)), (0, .ref (a 0)), (1, .int (nI n)), (2, .int st), (3, .int x2), (4, .int w)]) hx hb dX8_bands_149 hl (by decide) rfl (fun ls hl => ?_)
                      refine lv_iinc (pc := 151) (v := nI (f + 1)) (lv' := [(7, .int (nI (f + 1))), (6, .int 0), (8, .int 0), (5, .int (nI k)), (0, .ref (a 0)), (1, .int (nI n)), (2, .int st), (3, .int x2), (4, .int w)]) hx hb dX8_bands_151 hl (k := 2) rfl (nI_1 _) (by decide) rfl (fun ls hl => ?_)
                      refine lv_goto (pc := 154) (tgt := 42) hx hb dX8_bands_154 (by decide) ?_
                      exact ih_42 (f + 1) k false (nI (f + 1)) false (nI k) (by omega) (by omega) (by rw [he, bnd_step (by omega), show 602 - f - 1 = 602 - (f + 1) from rfl]; simp [c_1, hN, c_2, c_3, c_4, h6, c_9, c_11, i_nlt.mp c_3, i_nlt.mp c_9]) (by first | rfl | (simp [bandsP, c_1, hN, c_2, c_3, c_4, h6, c_9, c_11, i_nlt.mp c_3, i_nlt.mp c_9]; done)) rfl rfl ls (lv_sub hl [0, 1, 3, 4, 5, 6, 7, 8] rfl)
                    · skip
                      refine lv_iload (pc := 101) hx hb dX8_bands_101 (lv_at hl 8 rfl) ?_
                      refine lv_if_ne (pc := 103) (tgt := 114) hx hb dX8_bands_103 (by decide) (fun c_14 => ?_) (fun c_14 => ?_)
                      · skip
                        refine lv_iload_n (pc := 114) hx hb dX8_bands_114 rfl (lv_at hl 7 rfl) ?_
                        refine lv_if_lt (pc := 115) (tgt := 147) hx hb dX8_bands_115 (by decide) (fun c_15 => (by first | exact absurd c_15 c_9 | exact absurd c_9 c_15 | exact absurd c_15 (i_nlt.mpr c_9) | exact absurd c_9 (i_nlt.mpr c_15) | exact absurd c_15 (i_nle.mpr c_9) | exact absurd c_9 (i_nle.mpr c_15) | exact absurd (c_15.symm.trans c_9) (by decide) | exact absurd c_9 (i_nle.mpr (i_nlt.mp c_15)) | exact absurd c_15 (i_nle.mpr (i_nlt.mp c_9)))) (fun _ => ?_)
                        refine lv_iload (pc := 118) hx hb dX8_bands_118 (lv_at hl 3 rfl) ?_
                        refine lv_iload_n (pc := 120) hx hb dX8_bands_120 rfl (lv_at hl 7 rfl) ?_
                        refine lv_iconst (pc := 121) (v := 1) hx hb dX8_bands_121 (by decide) ?_
                        refine lv_iadd (pc := 122) hx hb dX8_bands_122 ?_
                        refine lv_icmp_ne (pc := 123) (tgt := 147) hx hb dX8_bands_123 (by decide) (fun c_16 => (by first | exact absurd c_16 c_11 | exact absurd c_11 c_16 | exact absurd c_16 (i_nlt.mpr c_11) | exact absurd c_11 (i_nlt.mpr c_16) | exact absurd c_16 (i_nle.mpr c_11) | exact absurd c_11 (i_nle.mpr c_16) | exact absurd (c_16.symm.trans c_11) (by decide) | exact absurd c_11 (i_nle.mpr (i_nlt.mp c_16)) | exact absurd c_16 (i_nle.mpr (i_nlt.mp c_11)))) (fun _ => ?_)
                        refine lv_iload (pc := 126) hx hb dX8_bands_126 (lv_at hl 8 rfl) ?_
                        refine lv_iconst (pc := 128) (v := 1) hx hb dX8_bands_128 (by decide) ?_
                        refine lv_icmp_ne (pc := 129) (tgt := 147) hx hb dX8_bands_129 (by decide) (fun c_17 => ?_) (fun c_17 => ?_)
                        · skip
                          refine lv_iload (pc := 147) hx hb dX8_bands_147 (lv_at hl 0 rfl) ?_
                          refine lv_istore (pc := 149) (lv' := [(6, .int 0), (8, .int 0), (7, .int (nI f)), (5, .int (nI k)), (0, .ref (a 0)), (1, .int (nI n)), (2, .int st), (3, .int x2), (4, .int w)]) hx hb dX8_bands_149 hl (by decide) rfl (fun ls hl => ?_)
                          refine lv_iinc (pc := 151) (v := nI (f + 1)) (lv' := [(7, .int (nI (f + 1))), (6, .int 0), (8, .int 0), (5, .int (nI k)), (0, .ref (a 0)), (1, .int (nI n)), (2, .int st), (3, .int x2), (4, .int w)]) hx hb dX8_bands_151 hl (k := 2) rfl (nI_1 _) (by decide) rfl (fun ls hl => ?_)
                          refine lv_goto (pc := 154) (tgt := 42) hx hb dX8_bands_154 (by decide) ?_
                          exact ih_42 (f + 1) k false (nI (f + 1)) false (nI k) (by omega) (by omega) (by rw [he, bnd_step (by omega), show 602 - f - 1 = 602 - (f + 1) from rfl]; simp [c_1, hN, c_2, c_3, c_4, h6, c_9, c_11, c_14, c_17, i_nlt.mp c_3, i_nlt.mp c_9]) (by first | rfl | (simp [bandsP, c_1, hN, c_2, c_3, c_4, h6, c_9, c_11, c_14, c_17, i_nlt.mp c_3, i_nlt.mp c_9]; done)) rfl rfl ls (lv_sub hl [0, 1, 3, 4, 5, 6, 7, 8] rfl)
                        · skip
                          refine lv_iload (pc := 132) hx hb dX8_bands_132 (lv_at hl 2 rfl) ?_
                          refine z_ifeq (pc := 134) (tgt := 147) hx hb dX8_bands_134 (by decide) (fun c_18 => ?_) (fun c_18 => ?_)
                          · skip
                            refine lv_iload (pc := 147) hx hb dX8_bands_147 (lv_at hl 0 rfl) ?_
                            refine lv_istore (pc := 149) (lv' := [(6, .int 0), (8, .int 0), (7, .int (nI f)), (5, .int (nI k)), (0, .ref (a 0)), (1, .int (nI n)), (2, .int st), (3, .int x2), (4, .int w)]) hx hb dX8_bands_149 hl (by decide) rfl (fun ls hl => ?_)
                            refine lv_iinc (pc := 151) (v := nI (f + 1)) (lv' := [(7, .int (nI (f + 1))), (6, .int 0), (8, .int 0), (5, .int (nI k)), (0, .ref (a 0)), (1, .int (nI n)), (2, .int st), (3, .int x2), (4, .int w)]) hx hb dX8_bands_151 hl (k := 2) rfl (nI_1 _) (by decide) rfl (fun ls hl => ?_)
                            refine lv_goto (pc := 154) (tgt := 42) hx hb dX8_bands_154 (by decide) ?_
                            exact ih_42 (f + 1) k false (nI (f + 1)) false (nI k) (by omega) (by omega) (by rw [he, bnd_step (by omega), show 602 - f - 1 = 602 - (f + 1) from rfl]; simp [c_1, hN, c_2, c_3, c_4, h6, c_9, c_11, c_14, c_17, c_18, i_nlt.mp c_3, i_nlt.mp c_9]) (by first | rfl | (simp [bandsP, c_1, hN, c_2, c_3, c_4, h6, c_9, c_11, c_14, c_17, c_18, i_nlt.mp c_3, i_nlt.mp c_9]; done)) rfl rfl ls (lv_sub hl [0, 1, 3, 4, 5, 6, 7, 8] rfl)
                          · skip
                            refine lv_iload (pc := 137) hx hb dX8_bands_137 (lv_at hl 0 rfl) ?_
                            refine lv_if_ne (pc := 139) (tgt := 147) hx hb dX8_bands_139 (by decide) (fun c => (c (by decide)).elim) (fun _ => ?_)
                            refine lv_iload (pc := 142) hx hb dX8_bands_142 (lv_at hl 1 rfl) ?_
                            refine lv_iconst (pc := 144) (v := 1) hx hb dX8_bands_144 (by decide) ?_
                            refine lv_isub (pc := 145) hx hb dX8_bands_145 ?_
                            exact z_iret cx hr hlk dX8_bands_146 (by rw [hB, he, bnd_step (by omega)]; simp [c_1, hN, c_2, c_3, c_4, h6, c_9, c_11, c_14, c_17, c_18, i_nlt.mp c_3, i_nlt.mp c_9])
                      · skip
                        refine lv_iload (pc := 106) hx hb dX8_bands_106 (lv_at hl 0 rfl) ?_
                        refine lv_if_eq (pc := 108) (tgt := 114) hx hb dX8_bands_108 (by decide) (fun _ => ?_) (fun c => (c (by decide)).elim)
                        refine lv_iload_n (pc := 114) hx hb dX8_bands_114 rfl (lv_at hl 7 rfl) ?_
                        refine lv_if_lt (pc := 115) (tgt := 147) hx hb dX8_bands_115 (by decide) (fun c_21 => (by first | exact absurd c_21 c_9 | exact absurd c_9 c_21 | exact absurd c_21 (i_nlt.mpr c_9) | exact absurd c_9 (i_nlt.mpr c_21) | exact absurd c_21 (i_nle.mpr c_9) | exact absurd c_9 (i_nle.mpr c_21) | exact absurd (c_21.symm.trans c_9) (by decide) | exact absurd c_9 (i_nle.mpr (i_nlt.mp c_21)) | exact absurd c_21 (i_nle.mpr (i_nlt.mp c_9)))) (fun _ => ?_)
                        refine lv_iload (pc := 118) hx hb dX8_bands_118 (lv_at hl 3 rfl) ?_
                        refine lv_iload_n (pc := 120) hx hb dX8_bands_120 rfl (lv_at hl 7 rfl) ?_
                        refine lv_iconst (pc := 121) (v := 1) hx hb dX8_bands_121 (by decide) ?_
                        refine lv_iadd (pc := 122) hx hb dX8_bands_122 ?_
                        refine lv_icmp_ne (pc := 123) (tgt := 147) hx hb dX8_bands_123 (by decide) (fun c_22 => (by first | exact absurd c_22 c_11 | exact absurd c_11 c_22 | exact absurd c_22 (i_nlt.mpr c_11) | exact absurd c_11 (i_nlt.mpr c_22) | exact absurd c_22 (i_nle.mpr c_11) | exact absurd c_11 (i_nle.mpr c_22) | exact absurd (c_22.symm.trans c_11) (by decide) | exact absurd c_11 (i_nle.mpr (i_nlt.mp c_22)) | exact absurd c_22 (i_nle.mpr (i_nlt.mp c_11)))) (fun _ => ?_)
                        refine lv_iload (pc := 126) hx hb dX8_bands_126 (lv_at hl 8 rfl) ?_
                        refine lv_iconst (pc := 128) (v := 1) hx hb dX8_bands_128 (by decide) ?_
                        refine lv_icmp_ne (pc := 129) (tgt := 147) hx hb dX8_bands_129 (by decide) (fun c_23 => ?_) (fun c_23 => ?_)
                        · skip
                          refine lv_iload (pc := 147) hx hb dX8_bands_147 (lv_at hl 0 rfl) ?_
                          refine lv_istore (pc := 149) (lv' := [(6, .int 0), (8, .int 0), (7, .int (nI f)), (5, .int (nI k)), (0, .ref (a 0)), (1, .int (nI n)), (2, .int st), (3, .int x2), (4, .int w)]) hx hb dX8_bands_149 hl (by decide) rfl (fun ls hl => ?_)
                          refine lv_iinc (pc := 151) (v := nI (f + 1)) (lv' := [(7, .int (nI (f + 1))), (6, .int 0), (8, .int 0), (5, .int (nI k)), (0, .ref (a 0)), (1, .int (nI n)), (2, .int st), (3, .int x2), (4, .int w)]) hx hb dX8_bands_151 hl (k := 2) rfl (nI_1 _) (by decide) rfl (fun ls hl => ?_)
                          refine lv_goto (pc := 154) (tgt := 42) hx hb dX8_bands_154 (by decide) ?_
                          exact ih_42 (f + 1) k false (nI (f + 1)) false (nI k) (by omega) (by omega) (by rw [he, bnd_step (by omega), show 602 - f - 1 = 602 - (f + 1) from rfl]; simp [c_1, hN, c_2, c_3, c_4, h6, c_9, c_11, c_14, c_23, i_nlt.mp c_3, i_nlt.mp c_9]) (by first | rfl | (simp [bandsP, c_1, hN, c_2, c_3, c_4, h6, c_9, c_11, c_14, c_23, i_nlt.mp c_3, i_nlt.mp c_9]; done)) rfl rfl ls (lv_sub hl [0, 1, 3, 4, 5, 6, 7, 8] rfl)
                        · skip
                          exact absurd (c_14.symm.trans c_23) (by decide)
                · skip
                  have h6 : f ≤ 600 := ngt (a := 600) (b := f) rfl rfl (by omega) (by omega) c_7
                  refine lv_aload_n (pc := 58) hx hb dX8_bands_58 rfl (lv_at hl 3 rfl) ?_
                  refine lv_iload_n (pc := 59) hx hb dX8_bands_59 rfl (lv_at hl 4 rfl) ?_
                  refine lv_iload (pc := 60) hx hb dX8_bands_60 (lv_at hl 0 rfl) ?_
                  refine lv_iload_n (pc := 62) hx hb dX8_bands_62 rfl (lv_at hl 5 rfl) ?_
                  refine k_X8_buzzesAt (pc := 63) (n := n) (f := nI f) (st := st) cx hW hI hn (rgN (by omega) (by omega) (by omega)) m_ml_X8_197 ⟨Nat.le_of_ble_eq_true rfl, Nat.le_of_ble_eq_true rfl⟩ hl.1 rfl (by simp [Value.category]) dX8_bands_63 ⟨Nat.le_refl _, Nat.le_refl _⟩ ?_
                  refine z_ifeq (pc := 66) (tgt := 73) hx hb dX8_bands_66 (by decide) (fun c_24 => ?_) (fun c_24 => ?_)
                  · skip
                    refine lv_iconst (pc := 73) (v := 0) hx hb dX8_bands_73 (by decide) ?_
                    refine lv_istore (pc := 74) (lv' := [(8, .int 0), (7, .int (nI f)), (6, .int (bI x6)), (5, .int (nI k)), (0, .ref (a 0)), (1, .int (nI n)), (2, .int st), (3, .int x2), (4, .int w)]) hx hb dX8_bands_74 hl (by decide) rfl (fun ls hl => ?_)
                    refine lv_iload (pc := 76) hx hb dX8_bands_76 (lv_at hl 0 rfl) ?_
                    refine lv_if_eq (pc := 78) (tgt := 89) hx hb dX8_bands_78 (by decide) (fun _ => ?_) (fun c => (c (by decide)).elim)
                    refine lv_iload_n (pc := 89) hx hb dX8_bands_89 rfl (lv_at hl 7 rfl) ?_
                    refine lv_if_lt (pc := 90) (tgt := 114) hx hb dX8_bands_90 (by decide) (fun c_26 => ?_) (fun c_26 => ?_)
                    · skip
                      refine lv_iload_n (pc := 114) hx hb dX8_bands_114 rfl (lv_at hl 7 rfl) ?_
                      refine lv_if_lt (pc := 115) (tgt := 147) hx hb dX8_bands_115 (by decide) (fun _ => ?_) (fun c_27 => (by first | exact absurd c_27 c_26 | exact absurd c_26 c_27 | exact absurd c_27 (i_nlt.mpr c_26) | exact absurd c_26 (i_nlt.mpr c_27) | exact absurd c_27 (i_nle.mpr c_26) | exact absurd c_26 (i_nle.mpr c_27) | exact absurd (c_27.symm.trans c_26) (by decide) | exact absurd c_26 (i_nle.mpr (i_nlt.mp c_27)) | exact absurd c_27 (i_nle.mpr (i_nlt.mp c_26))))
                      refine lv_iload (pc := 147) hx hb dX8_bands_147 (lv_at hl 0 rfl) ?_
                      refine lv_istore (pc := 149) (lv' := [(6, .int 0), (8, .int 0), (7, .int (nI f)), (5, .int (nI k)), (0, .ref (a 0)), (1, .int (nI n)), (2, .int st), (3, .int x2), (4, .int w)]) hx hb dX8_bands_149 hl (by decide) rfl (fun ls hl => ?_)
                      refine lv_iinc (pc := 151) (v := nI (f + 1)) (lv' := [(7, .int (nI (f + 1))), (6, .int 0), (8, .int 0), (5, .int (nI k)), (0, .ref (a 0)), (1, .int (nI n)), (2, .int st), (3, .int x2), (4, .int w)]) hx hb dX8_bands_151 hl (k := 2) rfl (nI_1 _) (by decide) rfl (fun ls hl => ?_)
                      refine lv_goto (pc := 154) (tgt := 42) hx hb dX8_bands_154 (by decide) ?_
                      exact ih_42 (f + 1) k false (nI (f + 1)) false (nI k) (by omega) (by omega) (by rw [he, bnd_step (by omega), show 602 - f - 1 = 602 - (f + 1) from rfl]; simp [c_1, hN, c_2, c_3, c_4, h6, c_24, c_26, i_nlt.mp c_3, i_nle.mpr c_26]) (by first | rfl | (simp [bandsP, c_1, hN, c_2, c_3, c_4, h6, c_24, c_26, i_nlt.mp c_3, i_nle.mpr c_26]; done)) rfl rfl ls (lv_sub hl [0, 1, 3, 4, 5, 6, 7, 8] rfl)
                    · skip
                      refine lv_iload (pc := 93) hx hb dX8_bands_93 (lv_at hl 3 rfl) ?_
                      refine lv_iload_n (pc := 95) hx hb dX8_bands_95 rfl (lv_at hl 7 rfl) ?_
                      refine lv_iconst (pc := 96) (v := 1) hx hb dX8_bands_96 (by decide) ?_
                      refine lv_iadd (pc := 97) hx hb dX8_bands_97 ?_
                      refine lv_icmp_ne (pc := 98) (tgt := 114) hx hb dX8_bands_98 (by decide) (fun c_28 => ?_) (fun c_28 => ?_)
                      · skip
                        refine lv_iload_n (pc := 114) hx hb dX8_bands_114 rfl (lv_at hl 7 rfl) ?_
                        refine lv_if_lt (pc := 115) (tgt := 147) hx hb dX8_bands_115 (by decide) (fun c_29 => (by first | exact absurd c_29 c_26 | exact absurd c_26 c_29 | exact absurd c_29 (i_nlt.mpr c_26) | exact absurd c_26 (i_nlt.mpr c_29) | exact absurd c_29 (i_nle.mpr c_26) | exact absurd c_26 (i_nle.mpr c_29) | exact absurd (c_29.symm.trans c_26) (by decide) | exact absurd c_26 (i_nle.mpr (i_nlt.mp c_29)) | exact absurd c_29 (i_nle.mpr (i_nlt.mp c_26)))) (fun _ => ?_)
                        refine lv_iload (pc := 118) hx hb dX8_bands_118 (lv_at hl 3 rfl) ?_
                        refine lv_iload_n (pc := 120) hx hb dX8_bands_120 rfl (lv_at hl 7 rfl) ?_
                        refine lv_iconst (pc := 121) (v := 1) hx hb dX8_bands_121 (by decide) ?_
                        refine lv_iadd (pc := 122) hx hb dX8_bands_122 ?_
                        refine lv_icmp_ne (pc := 123) (tgt := 147) hx hb dX8_bands_123 (by decide) (fun _ => ?_) (fun c_30 => (by first | exact absurd c_30 c_28 | exact absurd c_28 c_30 | exact absurd c_30 (i_nlt.mpr c_28) | exact absurd c_28 (i_nlt.mpr c_30) | exact absurd c_30 (i_nle.mpr c_28) | exact absurd c_28 (i_nle.mpr c_30) | exact absurd (c_30.symm.trans c_28) (by decide) | exact absurd c_28 (i_nle.mpr (i_nlt.mp c_30)) | exact absurd c_30 (i_nle.mpr (i_nlt.mp c_28))))
                        refine lv_iload (pc := 147) hx hb dX8_bands_147 (lv_at hl 0 rfl) ?_
                        refine lv_istore (pc := 149) (lv' := [(6, .int 0), (8, .int 0), (7, .int (nI f)), (5, .int (nI k)), (0, .ref (a 0)), (1, .int (nI n)), (2, .int st), (3, .int x2), (4, .int w)]) hx hb dX8_bands_149 hl (by decide) rfl (fun ls hl => ?_)
                        refine lv_iinc (pc := 151) (v := nI (f + 1)) (lv' := [(7, .int (nI (f + 1))), (6, .int 0), (8, .int 0), (5, .int (nI k)), (0, .ref (a 0)), (1, .int (nI n)), (2, .int st), (3, .int x2), (4, .int w)]) hx hb dX8_bands_151 hl (k := 2) rfl (nI_1 _) (by decide) rfl (fun ls hl => ?_)
                        refine lv_goto (pc := 154) (tgt := 42) hx hb dX8_bands_154 (by decide) ?_
                        exact ih_42 (f + 1) k false (nI (f + 1)) false (nI k) (by omega) (by omega) (by rw [he, bnd_step (by omega), show 602 - f - 1 = 602 - (f + 1) from rfl]; simp [c_1, hN, c_2, c_3, c_4, h6, c_24, c_26, c_28, i_nlt.mp c_3, i_nlt.mp c_26]) (by first | rfl | (simp [bandsP, c_1, hN, c_2, c_3, c_4, h6, c_24, c_26, c_28, i_nlt.mp c_3, i_nlt.mp c_26]; done)) rfl rfl ls (lv_sub hl [0, 1, 3, 4, 5, 6, 7, 8] rfl)
                      · skip
                        refine lv_iload (pc := 101) hx hb dX8_bands_101 (lv_at hl 8 rfl) ?_
                        refine lv_if_ne (pc := 103) (tgt := 114) hx hb dX8_bands_103 (by decide) (fun c_31 => ?_) (fun c_31 => ?_)
                        · skip
                          refine lv_iload_n (pc := 114) hx hb dX8_bands_114 rfl (lv_at hl 7 rfl) ?_
                          refine lv_if_lt (pc := 115) (tgt := 147) hx hb dX8_bands_115 (by decide) (fun c_32 => (by first | exact absurd c_32 c_26 | exact absurd c_26 c_32 | exact absurd c_32 (i_nlt.mpr c_26) | exact absurd c_26 (i_nlt.mpr c_32) | exact absurd c_32 (i_nle.mpr c_26) | exact absurd c_26 (i_nle.mpr c_32) | exact absurd (c_32.symm.trans c_26) (by decide) | exact absurd c_26 (i_nle.mpr (i_nlt.mp c_32)) | exact absurd c_32 (i_nle.mpr (i_nlt.mp c_26)))) (fun _ => ?_)
                          refine lv_iload (pc := 118) hx hb dX8_bands_118 (lv_at hl 3 rfl) ?_
                          refine lv_iload_n (pc := 120) hx hb dX8_bands_120 rfl (lv_at hl 7 rfl) ?_
                          refine lv_iconst (pc := 121) (v := 1) hx hb dX8_bands_121 (by decide) ?_
                          refine lv_iadd (pc := 122) hx hb dX8_bands_122 ?_
                          refine lv_icmp_ne (pc := 123) (tgt := 147) hx hb dX8_bands_123 (by decide) (fun c_33 => (by first | exact absurd c_33 c_28 | exact absurd c_28 c_33 | exact absurd c_33 (i_nlt.mpr c_28) | exact absurd c_28 (i_nlt.mpr c_33) | exact absurd c_33 (i_nle.mpr c_28) | exact absurd c_28 (i_nle.mpr c_33) | exact absurd (c_33.symm.trans c_28) (by decide) | exact absurd c_28 (i_nle.mpr (i_nlt.mp c_33)) | exact absurd c_33 (i_nle.mpr (i_nlt.mp c_28)))) (fun _ => ?_)
                          refine lv_iload (pc := 126) hx hb dX8_bands_126 (lv_at hl 8 rfl) ?_
                          refine lv_iconst (pc := 128) (v := 1) hx hb dX8_bands_128 (by decide) ?_
                          refine lv_icmp_ne (pc := 129) (tgt := 147) hx hb dX8_bands_129 (by decide) (fun c_34 => ?_) (fun c_34 => ?_)
                          · skip
                            refine lv_iload (pc := 147) hx hb dX8_bands_147 (lv_at hl 0 rfl) ?_
                            refine lv_istore (pc := 149) (lv' := [(6, .int 0), (8, .int 0), (7, .int (nI f)), (5, .int (nI k)), (0, .ref (a 0)), (1, .int (nI n)), (2, .int st), (3, .int x2), (4, .int w)]) hx hb dX8_bands_149 hl (by decide) rfl (fun ls hl => ?_)
                            refine lv_iinc (pc := 151) (v := nI (f + 1)) (lv' := [(7, .int (nI (f + 1))), (6, .int 0), (8, .int 0), (5, .int (nI k)), (0, .ref (a 0)), (1, .int (nI n)), (2, .int st), (3, .int x2), (4, .int w)]) hx hb dX8_bands_151 hl (k := 2) rfl (nI_1 _) (by decide) rfl (fun ls hl => ?_)
                            refine lv_goto (pc := 154) (tgt := 42) hx hb dX8_bands_154 (by decide) ?_
                            exact ih_42 (f + 1) k false (nI (f + 1)) false (nI k) (by omega) (by omega) (by rw [he, bnd_step (by omega), show 602 - f - 1 = 602 - (f + 1) from rfl]; simp [c_1, hN, c_2, c_3, c_4, h6, c_24, c_26, c_28, c_31, c_34, i_nlt.mp c_3, i_nlt.mp c_26]) (by first | rfl | (simp [bandsP, c_1, hN, c_2, c_3, c_4, h6, c_24, c_26, c_28, c_31, c_34, i_nlt.mp c_3, i_nlt.mp c_26]; done)) rfl rfl ls (lv_sub hl [0, 1, 3, 4, 5, 6, 7, 8] rfl)
                          · skip
                            refine lv_iload (pc := 132) hx hb dX8_bands_132 (lv_at hl 2 rfl) ?_
                            refine z_ifeq (pc := 134) (tgt := 147) hx hb dX8_bands_134 (by decide) (fun c_35 => ?_) (fun c_35 => ?_)
                            · skip
                              refine lv_iload (pc := 147) hx hb dX8_bands_147 (lv_at hl 0 rfl) ?_
                              refine lv_istore (pc := 149) (lv' := [(6, .int 0), (8, .int 0), (7, .int (nI f)), (5, .int (nI k)), (0, .ref (a 0)), (1, .int (nI n)), (2, .int st), (3, .int x2), (4, .int w)]) hx hb dX8_bands_149 hl (by decide) rfl (fun ls hl => ?_)
                              refine lv_iinc (pc := 151) (v := nI (f + 1)) (lv' := [(7, .int (nI (f + 1))), (6, .int 0), (8, .int 0), (5, .int (nI k)), (0, .ref (a 0)), (1, .int (nI n)), (2, .int st), (3, .int x2), (4, .int w)]) hx hb dX8_bands_151 hl (k := 2) rfl (nI_1 _) (by decide) rfl (fun ls hl => ?_)
                              refine lv_goto (pc := 154) (tgt := 42) hx hb dX8_bands_154 (by decide) ?_
                              exact ih_42 (f + 1) k false (nI (f + 1)) false (nI k) (by omega) (by omega) (by rw [he, bnd_step (by omega), show 602 - f - 1 = 602 - (f + 1) from rfl]; simp [c_1, hN, c_2, c_3, c_4, h6, c_24, c_26, c_28, c_31, c_34, c_35, i_nlt.mp c_3, i_nlt.mp c_26]) (by first | rfl | (simp [bandsP, c_1, hN, c_2, c_3, c_4, h6, c_24, c_26, c_28, c_31, c_34, c_35, i_nlt.mp c_3, i_nlt.mp c_26]; done)) rfl rfl ls (lv_sub hl [0, 1, 3, 4, 5, 6, 7, 8] rfl)
                            · skip
                              refine lv_iload (pc := 137) hx hb dX8_bands_137 (lv_at hl 0 rfl) ?_
                              refine lv_if_ne (pc := 139) (tgt := 147) hx hb dX8_bands_139 (by decide) (fun c => (c (by decide)).elim) (fun _ => ?_)
                              refine lv_iload (pc := 142) hx hb dX8_bands_142 (lv_at hl 1 rfl) ?_
                              refine lv_iconst (pc := 144) (v := 1) hx hb dX8_bands_144 (by decide) ?_
                              refine lv_isub (pc := 145) hx hb dX8_bands_145 ?_
                              exact z_iret cx hr hlk dX8_bands_146 (by rw [hB, he, bnd_step (by omega)]; simp [c_1, hN, c_2, c_3, c_4, h6, c_24, c_26, c_28, c_31, c_34, c_35, i_nlt.mp c_3, i_nlt.mp c_26])
                        · skip
                          refine lv_iload (pc := 106) hx hb dX8_bands_106 (lv_at hl 0 rfl) ?_
                          refine lv_if_eq (pc := 108) (tgt := 114) hx hb dX8_bands_108 (by decide) (fun _ => ?_) (fun c => (c (by decide)).elim)
                          refine lv_iload_n (pc := 114) hx hb dX8_bands_114 rfl (lv_at hl 7 rfl) ?_
                          refine lv_if_lt (pc := 115) (tgt := 147) hx hb dX8_bands_115 (by decide) (fun c_38 => (by first | exact absurd c_38 c_26 | exact absurd c_26 c_38 | exact absurd c_38 (i_nlt.mpr c_26) | exact absurd c_26 (i_nlt.mpr c_38) | exact absurd c_38 (i_nle.mpr c_26) | exact absurd c_26 (i_nle.mpr c_38) | exact absurd (c_38.symm.trans c_26) (by decide) | exact absurd c_26 (i_nle.mpr (i_nlt.mp c_38)) | exact absurd c_38 (i_nle.mpr (i_nlt.mp c_26)))) (fun _ => ?_)
                          refine lv_iload (pc := 118) hx hb dX8_bands_118 (lv_at hl 3 rfl) ?_
                          refine lv_iload_n (pc := 120) hx hb dX8_bands_120 rfl (lv_at hl 7 rfl) ?_
                          refine lv_iconst (pc := 121) (v := 1) hx hb dX8_bands_121 (by decide) ?_
                          refine lv_iadd (pc := 122) hx hb dX8_bands_122 ?_
                          refine lv_icmp_ne (pc := 123) (tgt := 147) hx hb dX8_bands_123 (by decide) (fun c_39 => (by first | exact absurd c_39 c_28 | exact absurd c_28 c_39 | exact absurd c_39 (i_nlt.mpr c_28) | exact absurd c_28 (i_nlt.mpr c_39) | exact absurd c_39 (i_nle.mpr c_28) | exact absurd c_28 (i_nle.mpr c_39) | exact absurd (c_39.symm.trans c_28) (by decide) | exact absurd c_28 (i_nle.mpr (i_nlt.mp c_39)) | exact absurd c_39 (i_nle.mpr (i_nlt.mp c_28)))) (fun _ => ?_)
                          refine lv_iload (pc := 126) hx hb dX8_bands_126 (lv_at hl 8 rfl) ?_
                          refine lv_iconst (pc := 128) (v := 1) hx hb dX8_bands_128 (by decide) ?_
                          refine lv_icmp_ne (pc := 129) (tgt := 147) hx hb dX8_bands_129 (by decide) (fun c_40 => ?_) (fun c_40 => ?_)
                          · skip
                            refine lv_iload (pc := 147) hx hb dX8_bands_147 (lv_at hl 0 rfl) ?_
                            refine lv_istore (pc := 149) (lv' := [(6, .int 0), (8, .int 0), (7, .int (nI f)), (5, .int (nI k)), (0, .ref (a 0)), (1, .int (nI n)), (2, .int st), (3, .int x2), (4, .int w)]) hx hb dX8_bands_149 hl (by decide) rfl (fun ls hl => ?_)
                            refine lv_iinc (pc := 151) (v := nI (f + 1)) (lv' := [(7, .int (nI (f + 1))), (6, .int 0), (8, .int 0), (5, .int (nI k)), (0, .ref (a 0)), (1, .int (nI n)), (2, .int st), (3, .int x2), (4, .int w)]) hx hb dX8_bands_151 hl (k := 2) rfl (nI_1 _) (by decide) rfl (fun ls hl => ?_)
                            refine lv_goto (pc := 154) (tgt := 42) hx hb dX8_bands_154 (by decide) ?_
                            exact ih_42 (f + 1) k false (nI (f + 1)) false (nI k) (by omega) (by omega) (by rw [he, bnd_step (by omega), show 602 - f - 1 = 602 - (f + 1) from rfl]; simp [c_1, hN, c_2, c_3, c_4, h6, c_24, c_26, c_28, c_31, c_40, i_nlt.mp c_3, i_nlt.mp c_26]) (by first | rfl | (simp [bandsP, c_1, hN, c_2, c_3, c_4, h6, c_24, c_26, c_28, c_31, c_40, i_nlt.mp c_3, i_nlt.mp c_26]; done)) rfl rfl ls (lv_sub hl [0, 1, 3, 4, 5, 6, 7, 8] rfl)
                          · skip
                            exact absurd (c_31.symm.trans c_40) (by decide)
                  · skip
                    refine lv_iconst (pc := 69) (v := 1) hx hb dX8_bands_69 (by decide) ?_
                    refine lv_goto (pc := 70) (tgt := 74) hx hb dX8_bands_70 (by decide) ?_
                    refine lv_istore (pc := 74) (lv' := [(8, .int 1), (7, .int (nI f)), (6, .int (bI x6)), (5, .int (nI k)), (0, .ref (a 0)), (1, .int (nI n)), (2, .int st), (3, .int x2), (4, .int w)]) hx hb dX8_bands_74 hl (by decide) rfl (fun ls hl => ?_)
                    refine lv_iload (pc := 76) hx hb dX8_bands_76 (lv_at hl 0 rfl) ?_
                    refine lv_if_eq (pc := 78) (tgt := 89) hx hb dX8_bands_78 (by decide) (fun c => absurd c (by decide)) (fun _ => ?_)
                    refine lv_iload (pc := 81) hx hb dX8_bands_81 (lv_at hl 2 rfl) ?_
                    refine z_ifne (pc := 83) (tgt := 89) hx hb dX8_bands_83 (by decide) (fun c_42 => ?_) (fun c_42 => ?_)
                    · skip
                      refine lv_iload_n (pc := 89) hx hb dX8_bands_89 rfl (lv_at hl 7 rfl) ?_
                      refine lv_if_lt (pc := 90) (tgt := 114) hx hb dX8_bands_90 (by decide) (fun c_43 => ?_) (fun c_43 => ?_)
                      · skip
                        refine lv_iload_n (pc := 114) hx hb dX8_bands_114 rfl (lv_at hl 7 rfl) ?_
                        refine lv_if_lt (pc := 115) (tgt := 147) hx hb dX8_bands_115 (by decide) (fun _ => ?_) (fun c_44 => (by first | exact absurd c_44 c_43 | exact absurd c_43 c_44 | exact absurd c_44 (i_nlt.mpr c_43) | exact absurd c_43 (i_nlt.mpr c_44) | exact absurd c_44 (i_nle.mpr c_43) | exact absurd c_43 (i_nle.mpr c_44) | exact absurd (c_44.symm.trans c_43) (by decide) | exact absurd c_43 (i_nle.mpr (i_nlt.mp c_44)) | exact absurd c_44 (i_nle.mpr (i_nlt.mp c_43))))
                        refine lv_iload (pc := 147) hx hb dX8_bands_147 (lv_at hl 0 rfl) ?_
                        refine lv_istore (pc := 149) (lv' := [(6, .int 1), (8, .int 1), (7, .int (nI f)), (5, .int (nI k)), (0, .ref (a 0)), (1, .int (nI n)), (2, .int st), (3, .int x2), (4, .int w)]) hx hb dX8_bands_149 hl (by decide) rfl (fun ls hl => ?_)
                        refine lv_iinc (pc := 151) (v := nI (f + 1)) (lv' := [(7, .int (nI (f + 1))), (6, .int 1), (8, .int 1), (5, .int (nI k)), (0, .ref (a 0)), (1, .int (nI n)), (2, .int st), (3, .int x2), (4, .int w)]) hx hb dX8_bands_151 hl (k := 2) rfl (nI_1 _) (by decide) rfl (fun ls hl => ?_)
                        refine lv_goto (pc := 154) (tgt := 42) hx hb dX8_bands_154 (by decide) ?_
                        exact ih_42 (f + 1) k true (nI (f + 1)) true (nI k) (by omega) (by omega) (by rw [he, bnd_step (by omega), show 602 - f - 1 = 602 - (f + 1) from rfl]; simp [c_1, hN, c_2, c_3, c_4, h6, c_24, c_42, c_43, i_nlt.mp c_3, i_nle.mpr c_43]) (by first | rfl | (simp [bandsP, c_1, hN, c_2, c_3, c_4, h6, c_24, c_42, c_43, i_nlt.mp c_3, i_nle.mpr c_43]; done)) rfl rfl ls (lv_sub hl [0, 1, 3, 4, 5, 6, 7, 8] rfl)
                      · skip
                        refine lv_iload (pc := 93) hx hb dX8_bands_93 (lv_at hl 3 rfl) ?_
                        refine lv_iload_n (pc := 95) hx hb dX8_bands_95 rfl (lv_at hl 7 rfl) ?_
                        refine lv_iconst (pc := 96) (v := 1) hx hb dX8_bands_96 (by decide) ?_
                        refine lv_iadd (pc := 97) hx hb dX8_bands_97 ?_
                        refine lv_icmp_ne (pc := 98) (tgt := 114) hx hb dX8_bands_98 (by decide) (fun c_45 => ?_) (fun c_45 => ?_)
                        · skip
                          refine lv_iload_n (pc := 114) hx hb dX8_bands_114 rfl (lv_at hl 7 rfl) ?_
                          refine lv_if_lt (pc := 115) (tgt := 147) hx hb dX8_bands_115 (by decide) (fun c_46 => (by first | exact absurd c_46 c_43 | exact absurd c_43 c_46 | exact absurd c_46 (i_nlt.mpr c_43) | exact absurd c_43 (i_nlt.mpr c_46) | exact absurd c_46 (i_nle.mpr c_43) | exact absurd c_43 (i_nle.mpr c_46) | exact absurd (c_46.symm.trans c_43) (by decide) | exact absurd c_43 (i_nle.mpr (i_nlt.mp c_46)) | exact absurd c_46 (i_nle.mpr (i_nlt.mp c_43)))) (fun _ => ?_)
                          refine lv_iload (pc := 118) hx hb dX8_bands_118 (lv_at hl 3 rfl) ?_
                          refine lv_iload_n (pc := 120) hx hb dX8_bands_120 rfl (lv_at hl 7 rfl) ?_
                          refine lv_iconst (pc := 121) (v := 1) hx hb dX8_bands_121 (by decide) ?_
                          refine lv_iadd (pc := 122) hx hb dX8_bands_122 ?_
                          refine lv_icmp_ne (pc := 123) (tgt := 147) hx hb dX8_bands_123 (by decide) (fun _ => ?_) (fun c_47 => (by first | exact absurd c_47 c_45 | exact absurd c_45 c_47 | exact absurd c_47 (i_nlt.mpr c_45) | exact absurd c_45 (i_nlt.mpr c_47) | exact absurd c_47 (i_nle.mpr c_45) | exact absurd c_45 (i_nle.mpr c_47) | exact absurd (c_47.symm.trans c_45) (by decide) | exact absurd c_45 (i_nle.mpr (i_nlt.mp c_47)) | exact absurd c_47 (i_nle.mpr (i_nlt.mp c_45))))
                          refine lv_iload (pc := 147) hx hb dX8_bands_147 (lv_at hl 0 rfl) ?_
                          refine lv_istore (pc := 149) (lv' := [(6, .int 1), (8, .int 1), (7, .int (nI f)), (5, .int (nI k)), (0, .ref (a 0)), (1, .int (nI n)), (2, .int st), (3, .int x2), (4, .int w)]) hx hb dX8_bands_149 hl (by decide) rfl (fun ls hl => ?_)
                          refine lv_iinc (pc := 151) (v := nI (f + 1)) (lv' := [(7, .int (nI (f + 1))), (6, .int 1), (8, .int 1), (5, .int (nI k)), (0, .ref (a 0)), (1, .int (nI n)), (2, .int st), (3, .int x2), (4, .int w)]) hx hb dX8_bands_151 hl (k := 2) rfl (nI_1 _) (by decide) rfl (fun ls hl => ?_)
                          refine lv_goto (pc := 154) (tgt := 42) hx hb dX8_bands_154 (by decide) ?_
                          exact ih_42 (f + 1) k true (nI (f + 1)) true (nI k) (by omega) (by omega) (by rw [he, bnd_step (by omega), show 602 - f - 1 = 602 - (f + 1) from rfl]; simp [c_1, hN, c_2, c_3, c_4, h6, c_24, c_42, c_43, c_45, i_nlt.mp c_3, i_nlt.mp c_43]) (by first | rfl | (simp [bandsP, c_1, hN, c_2, c_3, c_4, h6, c_24, c_42, c_43, c_45, i_nlt.mp c_3, i_nlt.mp c_43]; done)) rfl rfl ls (lv_sub hl [0, 1, 3, 4, 5, 6, 7, 8] rfl)
                        · skip
                          refine lv_iload (pc := 101) hx hb dX8_bands_101 (lv_at hl 8 rfl) ?_
                          refine lv_if_ne (pc := 103) (tgt := 114) hx hb dX8_bands_103 (by decide) (fun c_48 => ?_) (fun c_48 => ?_)
                          · skip
                            refine lv_iload_n (pc := 114) hx hb dX8_bands_114 rfl (lv_at hl 7 rfl) ?_
                            refine lv_if_lt (pc := 115) (tgt := 147) hx hb dX8_bands_115 (by decide) (fun c_49 => (by first | exact absurd c_49 c_43 | exact absurd c_43 c_49 | exact absurd c_49 (i_nlt.mpr c_43) | exact absurd c_43 (i_nlt.mpr c_49) | exact absurd c_49 (i_nle.mpr c_43) | exact absurd c_43 (i_nle.mpr c_49) | exact absurd (c_49.symm.trans c_43) (by decide) | exact absurd c_43 (i_nle.mpr (i_nlt.mp c_49)) | exact absurd c_49 (i_nle.mpr (i_nlt.mp c_43)))) (fun _ => ?_)
                            refine lv_iload (pc := 118) hx hb dX8_bands_118 (lv_at hl 3 rfl) ?_
                            refine lv_iload_n (pc := 120) hx hb dX8_bands_120 rfl (lv_at hl 7 rfl) ?_
                            refine lv_iconst (pc := 121) (v := 1) hx hb dX8_bands_121 (by decide) ?_
                            refine lv_iadd (pc := 122) hx hb dX8_bands_122 ?_
                            refine lv_icmp_ne (pc := 123) (tgt := 147) hx hb dX8_bands_123 (by decide) (fun c_50 => (by first | exact absurd c_50 c_45 | exact absurd c_45 c_50 | exact absurd c_50 (i_nlt.mpr c_45) | exact absurd c_45 (i_nlt.mpr c_50) | exact absurd c_50 (i_nle.mpr c_45) | exact absurd c_45 (i_nle.mpr c_50) | exact absurd (c_50.symm.trans c_45) (by decide) | exact absurd c_45 (i_nle.mpr (i_nlt.mp c_50)) | exact absurd c_50 (i_nle.mpr (i_nlt.mp c_45)))) (fun _ => ?_)
                            refine lv_iload (pc := 126) hx hb dX8_bands_126 (lv_at hl 8 rfl) ?_
                            refine lv_iconst (pc := 128) (v := 1) hx hb dX8_bands_128 (by decide) ?_
                            refine lv_icmp_ne (pc := 129) (tgt := 147) hx hb dX8_bands_129 (by decide) (fun c_51 => ?_) (fun c_51 => ?_)
                            · skip
                              refine lv_iload (pc := 147) hx hb dX8_bands_147 (lv_at hl 0 rfl) ?_
                              refine lv_istore (pc := 149) (lv' := [(6, .int 1), (8, .int 1), (7, .int (nI f)), (5, .int (nI k)), (0, .ref (a 0)), (1, .int (nI n)), (2, .int st), (3, .int x2), (4, .int w)]) hx hb dX8_bands_149 hl (by decide) rfl (fun ls hl => ?_)
                              refine lv_iinc (pc := 151) (v := nI (f + 1)) (lv' := [(7, .int (nI (f + 1))), (6, .int 1), (8, .int 1), (5, .int (nI k)), (0, .ref (a 0)), (1, .int (nI n)), (2, .int st), (3, .int x2), (4, .int w)]) hx hb dX8_bands_151 hl (k := 2) rfl (nI_1 _) (by decide) rfl (fun ls hl => ?_)
                              refine lv_goto (pc := 154) (tgt := 42) hx hb dX8_bands_154 (by decide) ?_
                              exact ih_42 (f + 1) k true (nI (f + 1)) true (nI k) (by omega) (by omega) (by rw [he, bnd_step (by omega), show 602 - f - 1 = 602 - (f + 1) from rfl]; simp [c_1, hN, c_2, c_3, c_4, h6, c_24, c_42, c_43, c_45, c_48, c_51, i_nlt.mp c_3, i_nlt.mp c_43]) (by first | rfl | (simp [bandsP, c_1, hN, c_2, c_3, c_4, h6, c_24, c_42, c_43, c_45, c_48, c_51, i_nlt.mp c_3, i_nlt.mp c_43]; done)) rfl rfl ls (lv_sub hl [0, 1, 3, 4, 5, 6, 7, 8] rfl)
                            · skip
                              refine lv_iload (pc := 132) hx hb dX8_bands_132 (lv_at hl 2 rfl) ?_
                              refine z_ifeq (pc := 134) (tgt := 147) hx hb dX8_bands_134 (by decide) (fun c_52 => (by first | exact absurd c_52 c_42 | exact absurd c_42 c_52 | exact absurd c_52 (i_nlt.mpr c_42) | exact absurd c_42 (i_nlt.mpr c_52) | exact absurd c_52 (i_nle.mpr c_42) | exact absurd c_42 (i_nle.mpr c_52) | exact absurd (c_52.symm.trans c_42) (by decide) | exact absurd c_42 (i_nle.mpr (i_nlt.mp c_52)) | exact absurd c_52 (i_nle.mpr (i_nlt.mp c_42)))) (fun _ => ?_)
                              refine lv_iload (pc := 137) hx hb dX8_bands_137 (lv_at hl 0 rfl) ?_
                              refine lv_if_ne (pc := 139) (tgt := 147) hx hb dX8_bands_139 (by decide) (fun _ => ?_) (fun c => absurd c (by decide))
                              refine lv_iload (pc := 147) hx hb dX8_bands_147 (lv_at hl 0 rfl) ?_
                              refine lv_istore (pc := 149) (lv' := [(6, .int 1), (8, .int 1), (7, .int (nI f)), (5, .int (nI k)), (0, .ref (a 0)), (1, .int (nI n)), (2, .int st), (3, .int x2), (4, .int w)]) hx hb dX8_bands_149 hl (by decide) rfl (fun ls hl => ?_)
                              refine lv_iinc (pc := 151) (v := nI (f + 1)) (lv' := [(7, .int (nI (f + 1))), (6, .int 1), (8, .int 1), (5, .int (nI k)), (0, .ref (a 0)), (1, .int (nI n)), (2, .int st), (3, .int x2), (4, .int w)]) hx hb dX8_bands_151 hl (k := 2) rfl (nI_1 _) (by decide) rfl (fun ls hl => ?_)
                              refine lv_goto (pc := 154) (tgt := 42) hx hb dX8_bands_154 (by decide) ?_
                              exact ih_42 (f + 1) k true (nI (f + 1)) true (nI k) (by omega) (by omega) (by rw [he, bnd_step (by omega), show 602 - f - 1 = 602 - (f + 1) from rfl]; simp [c_1, hN, c_2, c_3, c_4, h6, c_24, c_42, c_43, c_45, c_48, c_51, i_nlt.mp c_3, i_nlt.mp c_43]) (by first | rfl | (simp [bandsP, c_1, hN, c_2, c_3, c_4, h6, c_24, c_42, c_43, c_45, c_48, c_51, i_nlt.mp c_3, i_nlt.mp c_43]; done)) rfl rfl ls (lv_sub hl [0, 1, 3, 4, 5, 6, 7, 8] rfl)
                          · skip
                            refine lv_iload (pc := 106) hx hb dX8_bands_106 (lv_at hl 0 rfl) ?_
                            refine lv_if_eq (pc := 108) (tgt := 114) hx hb dX8_bands_108 (by decide) (fun c => absurd c (by decide)) (fun _ => ?_)
                            refine lv_iload (pc := 111) hx hb dX8_bands_111 (lv_at hl 1 rfl) ?_
                            exact z_iret cx hr hlk dX8_bands_113 (by rw [hB, he, bnd_step (by omega)]; simp [c_1, hN, c_2, c_3, c_4, h6, c_24, c_42, c_43, c_45, c_48, i_nlt.mp c_3, i_nlt.mp c_43])
                    · skip
                      refine lv_iinc (pc := 86) (v := nI (k + 1)) (lv' := [(5, .int (nI (k + 1))), (8, .int 1), (7, .int (nI f)), (6, .int (bI x6)), (0, .ref (a 0)), (1, .int (nI n)), (2, .int st), (3, .int x2), (4, .int w)]) hx hb dX8_bands_86 hl (k := 3) rfl (nI_1 _) (by decide) rfl (fun ls hl => ?_)
                      refine lv_iload_n (pc := 89) hx hb dX8_bands_89 rfl (lv_at hl 7 rfl) ?_
                      refine lv_if_lt (pc := 90) (tgt := 114) hx hb dX8_bands_90 (by decide) (fun c_55 => ?_) (fun c_55 => ?_)
                      · skip
                        refine lv_iload_n (pc := 114) hx hb dX8_bands_114 rfl (lv_at hl 7 rfl) ?_
                        refine lv_if_lt (pc := 115) (tgt := 147) hx hb dX8_bands_115 (by decide) (fun _ => ?_) (fun c_56 => (by first | exact absurd c_56 c_55 | exact absurd c_55 c_56 | exact absurd c_56 (i_nlt.mpr c_55) | exact absurd c_55 (i_nlt.mpr c_56) | exact absurd c_56 (i_nle.mpr c_55) | exact absurd c_55 (i_nle.mpr c_56) | exact absurd (c_56.symm.trans c_55) (by decide) | exact absurd c_55 (i_nle.mpr (i_nlt.mp c_56)) | exact absurd c_56 (i_nle.mpr (i_nlt.mp c_55))))
                        refine lv_iload (pc := 147) hx hb dX8_bands_147 (lv_at hl 1 rfl) ?_
                        refine lv_istore (pc := 149) (lv' := [(6, .int 1), (5, .int (nI (k + 1))), (8, .int 1), (7, .int (nI f)), (0, .ref (a 0)), (1, .int (nI n)), (2, .int st), (3, .int x2), (4, .int w)]) hx hb dX8_bands_149 hl (by decide) rfl (fun ls hl => ?_)
                        refine lv_iinc (pc := 151) (v := nI (f + 1)) (lv' := [(7, .int (nI (f + 1))), (6, .int 1), (5, .int (nI (k + 1))), (8, .int 1), (0, .ref (a 0)), (1, .int (nI n)), (2, .int st), (3, .int x2), (4, .int w)]) hx hb dX8_bands_151 hl (k := 3) rfl (nI_1 _) (by decide) rfl (fun ls hl => ?_)
                        refine lv_goto (pc := 154) (tgt := 42) hx hb dX8_bands_154 (by decide) ?_
                        exact ih_42 (f + 1) (k + 1) true (nI (f + 1)) true (nI (k + 1)) (by omega) (by omega) (by rw [he, bnd_step (by omega), show 602 - f - 1 = 602 - (f + 1) from rfl]; simp [c_1, hN, c_2, c_3, c_4, h6, c_24, c_42, c_55, i_nlt.mp c_3, i_nle.mpr c_55]) (by first | rfl | (simp [bandsP, c_1, hN, c_2, c_3, c_4, h6, c_24, c_42, c_55, i_nlt.mp c_3, i_nle.mpr c_55]; done)) rfl rfl ls (lv_sub hl [0, 1, 2, 4, 5, 6, 7, 8] rfl)
                      · skip
                        refine lv_iload (pc := 93) hx hb dX8_bands_93 (lv_at hl 0 rfl) ?_
                        refine lv_iload_n (pc := 95) hx hb dX8_bands_95 rfl (lv_at hl 7 rfl) ?_
                        refine lv_iconst (pc := 96) (v := 1) hx hb dX8_bands_96 (by decide) ?_
                        refine lv_iadd (pc := 97) hx hb dX8_bands_97 ?_
                        refine lv_icmp_ne (pc := 98) (tgt := 114) hx hb dX8_bands_98 (by decide) (fun c_57 => ?_) (fun c_57 => ?_)
                        · skip
                          refine lv_iload_n (pc := 114) hx hb dX8_bands_114 rfl (lv_at hl 7 rfl) ?_
                          refine lv_if_lt (pc := 115) (tgt := 147) hx hb dX8_bands_115 (by decide) (fun c_58 => (by first | exact absurd c_58 c_55 | exact absurd c_55 c_58 | exact absurd c_58 (i_nlt.mpr c_55) | exact absurd c_55 (i_nlt.mpr c_58) | exact absurd c_58 (i_nle.mpr c_55) | exact absurd c_55 (i_nle.mpr c_58) | exact absurd (c_58.symm.trans c_55) (by decide) | exact absurd c_55 (i_nle.mpr (i_nlt.mp c_58)) | exact absurd c_58 (i_nle.mpr (i_nlt.mp c_55)))) (fun _ => ?_)
                          refine lv_iload (pc := 118) hx hb dX8_bands_118 (lv_at hl 0 rfl) ?_
                          refine lv_iload_n (pc := 120) hx hb dX8_bands_120 rfl (lv_at hl 7 rfl) ?_
                          refine lv_iconst (pc := 121) (v := 1) hx hb dX8_bands_121 (by decide) ?_
                          refine lv_iadd (pc := 122) hx hb dX8_bands_122 ?_
                          refine lv_icmp_ne (pc := 123) (tgt := 147) hx hb dX8_bands_123 (by decide) (fun _ => ?_) (fun c_59 => (by first | exact absurd c_59 c_57 | exact absurd c_57 c_59 | exact absurd c_59 (i_nlt.mpr c_57) | exact absurd c_57 (i_nlt.mpr c_59) | exact absurd c_59 (i_nle.mpr c_57) | exact absurd c_57 (i_nle.mpr c_59) | exact absurd (c_59.symm.trans c_57) (by decide) | exact absurd c_57 (i_nle.mpr (i_nlt.mp c_59)) | exact absurd c_59 (i_nle.mpr (i_nlt.mp c_57))))
                          refine lv_iload (pc := 147) hx hb dX8_bands_147 (lv_at hl 1 rfl) ?_
                          refine lv_istore (pc := 149) (lv' := [(6, .int 1), (5, .int (nI (k + 1))), (8, .int 1), (7, .int (nI f)), (0, .ref (a 0)), (1, .int (nI n)), (2, .int st), (3, .int x2), (4, .int w)]) hx hb dX8_bands_149 hl (by decide) rfl (fun ls hl => ?_)
                          refine lv_iinc (pc := 151) (v := nI (f + 1)) (lv' := [(7, .int (nI (f + 1))), (6, .int 1), (5, .int (nI (k + 1))), (8, .int 1), (0, .ref (a 0)), (1, .int (nI n)), (2, .int st), (3, .int x2), (4, .int w)]) hx hb dX8_bands_151 hl (k := 3) rfl (nI_1 _) (by decide) rfl (fun ls hl => ?_)
                          refine lv_goto (pc := 154) (tgt := 42) hx hb dX8_bands_154 (by decide) ?_
                          exact ih_42 (f + 1) (k + 1) true (nI (f + 1)) true (nI (k + 1)) (by omega) (by omega) (by rw [he, bnd_step (by omega), show 602 - f - 1 = 602 - (f + 1) from rfl]; simp [c_1, hN, c_2, c_3, c_4, h6, c_24, c_42, c_55, c_57, i_nlt.mp c_3, i_nlt.mp c_55]) (by first | rfl | (simp [bandsP, c_1, hN, c_2, c_3, c_4, h6, c_24, c_42, c_55, c_57, i_nlt.mp c_3, i_nlt.mp c_55]; done)) rfl rfl ls (lv_sub hl [0, 1, 2, 4, 5, 6, 7, 8] rfl)
                        · skip
                          refine lv_iload (pc := 101) hx hb dX8_bands_101 (lv_at hl 8 rfl) ?_
                          refine lv_if_ne (pc := 103) (tgt := 114) hx hb dX8_bands_103 (by decide) (fun c_60 => ?_) (fun c_60 => ?_)
                          · skip
                            refine lv_iload_n (pc := 114) hx hb dX8_bands_114 rfl (lv_at hl 7 rfl) ?_
                            refine lv_if_lt (pc := 115) (tgt := 147) hx hb dX8_bands_115 (by decide) (fun c_61 => (by first | exact absurd c_61 c_55 | exact absurd c_55 c_61 | exact absurd c_61 (i_nlt.mpr c_55) | exact absurd c_55 (i_nlt.mpr c_61) | exact absurd c_61 (i_nle.mpr c_55) | exact absurd c_55 (i_nle.mpr c_61) | exact absurd (c_61.symm.trans c_55) (by decide) | exact absurd c_55 (i_nle.mpr (i_nlt.mp c_61)) | exact absurd c_61 (i_nle.mpr (i_nlt.mp c_55)))) (fun _ => ?_)
                            refine lv_iload (pc := 118) hx hb dX8_bands_118 (lv_at hl 0 rfl) ?_
                            refine lv_iload_n (pc := 120) hx hb dX8_bands_120 rfl (lv_at hl 7 rfl) ?_
                            refine lv_iconst (pc := 121) (v := 1) hx hb dX8_bands_121 (by decide) ?_
                            refine lv_iadd (pc := 122) hx hb dX8_bands_122 ?_
                            refine lv_icmp_ne (pc := 123) (tgt := 147) hx hb dX8_bands_123 (by decide) (fun c_62 => (by first | exact absurd c_62 c_57 | exact absurd c_57 c_62 | exact absurd c_62 (i_nlt.mpr c_57) | exact absurd c_57 (i_nlt.mpr c_62) | exact absurd c_62 (i_nle.mpr c_57) | exact absurd c_57 (i_nle.mpr c_62) | exact absurd (c_62.symm.trans c_57) (by decide) | exact absurd c_57 (i_nle.mpr (i_nlt.mp c_62)) | exact absurd c_62 (i_nle.mpr (i_nlt.mp c_57)))) (fun _ => ?_)
                            refine lv_iload (pc := 126) hx hb dX8_bands_126 (lv_at hl 8 rfl) ?_
                            refine lv_iconst (pc := 128) (v := 1) hx hb dX8_bands_128 (by decide) ?_
                            refine lv_icmp_ne (pc := 129) (tgt := 147) hx hb dX8_bands_129 (by decide) (fun c_63 => ?_) (fun c_63 => ?_)
                            · skip
                              refine lv_iload (pc := 147) hx hb dX8_bands_147 (lv_at hl 1 rfl) ?_
                              refine lv_istore (pc := 149) (lv' := [(6, .int 1), (5, .int (nI (k + 1))), (8, .int 1), (7, .int (nI f)), (0, .ref (a 0)), (1, .int (nI n)), (2, .int st), (3, .int x2), (4, .int w)]) hx hb dX8_bands_149 hl (by decide) rfl (fun ls hl => ?_)
                              refine lv_iinc (pc := 151) (v := nI (f + 1)) (lv' := [(7, .int (nI (f + 1))), (6, .int 1), (5, .int (nI (k + 1))), (8, .int 1), (0, .ref (a 0)), (1, .int (nI n)), (2, .int st), (3, .int x2), (4, .int w)]) hx hb dX8_bands_151 hl (k := 3) rfl (nI_1 _) (by decide) rfl (fun ls hl => ?_)
                              refine lv_goto (pc := 154) (tgt := 42) hx hb dX8_bands_154 (by decide) ?_
                              exact ih_42 (f + 1) (k + 1) true (nI (f + 1)) true (nI (k + 1)) (by omega) (by omega) (by rw [he, bnd_step (by omega), show 602 - f - 1 = 602 - (f + 1) from rfl]; simp [c_1, hN, c_2, c_3, c_4, h6, c_24, c_42, c_55, c_57, c_60, c_63, i_nlt.mp c_3, i_nlt.mp c_55]) (by first | rfl | (simp [bandsP, c_1, hN, c_2, c_3, c_4, h6, c_24, c_42, c_55, c_57, c_60, c_63, i_nlt.mp c_3, i_nlt.mp c_55]; done)) rfl rfl ls (lv_sub hl [0, 1, 2, 4, 5, 6, 7, 8] rfl)
                            · skip
                              refine lv_iload (pc := 132) hx hb dX8_bands_132 (lv_at hl 3 rfl) ?_
                              refine z_ifeq (pc := 134) (tgt := 147) hx hb dX8_bands_134 (by decide) (fun _ => ?_) (fun c_64 => (by first | exact absurd c_64 c_42 | exact absurd c_42 c_64 | exact absurd c_64 (i_nlt.mpr c_42) | exact absurd c_42 (i_nlt.mpr c_64) | exact absurd c_64 (i_nle.mpr c_42) | exact absurd c_42 (i_nle.mpr c_64) | exact absurd (c_64.symm.trans c_42) (by decide) | exact absurd c_42 (i_nle.mpr (i_nlt.mp c_64)) | exact absurd c_64 (i_nle.mpr (i_nlt.mp c_42))))
                              refine lv_iload (pc := 147) hx hb dX8_bands_147 (lv_at hl 1 rfl) ?_
                              refine lv_istore (pc := 149) (lv' := [(6, .int 1), (5, .int (nI (k + 1))), (8, .int 1), (7, .int (nI f)), (0, .ref (a 0)), (1, .int (nI n)), (2, .int st), (3, .int x2), (4, .int w)]) hx hb dX8_bands_149 hl (by decide) rfl (fun ls hl => ?_)
                              refine lv_iinc (pc := 151) (v := nI (f + 1)) (lv' := [(7, .int (nI (f + 1))), (6, .int 1), (5, .int (nI (k + 1))), (8, .int 1), (0, .ref (a 0)), (1, .int (nI n)), (2, .int st), (3, .int x2), (4, .int w)]) hx hb dX8_bands_151 hl (k := 3) rfl (nI_1 _) (by decide) rfl (fun ls hl => ?_)
                              refine lv_goto (pc := 154) (tgt := 42) hx hb dX8_bands_154 (by decide) ?_
                              exact ih_42 (f + 1) (k + 1) true (nI (f + 1)) true (nI (k + 1)) (by omega) (by omega) (by rw [he, bnd_step (by omega), show 602 - f - 1 = 602 - (f + 1) from rfl]; simp [c_1, hN, c_2, c_3, c_4, h6, c_24, c_42, c_55, c_57, c_60, c_63, i_nlt.mp c_3, i_nlt.mp c_55]) (by first | rfl | (simp [bandsP, c_1, hN, c_2, c_3, c_4, h6, c_24, c_42, c_55, c_57, c_60, c_63, i_nlt.mp c_3, i_nlt.mp c_55]; done)) rfl rfl ls (lv_sub hl [0, 1, 2, 4, 5, 6, 7, 8] rfl)
                          · skip
                            refine lv_iload (pc := 106) hx hb dX8_bands_106 (lv_at hl 1 rfl) ?_
                            refine lv_if_eq (pc := 108) (tgt := 114) hx hb dX8_bands_108 (by decide) (fun c => absurd c (by decide)) (fun _ => ?_)
                            refine lv_iload (pc := 111) hx hb dX8_bands_111 (lv_at hl 2 rfl) ?_
                            exact z_iret cx hr hlk dX8_bands_113 (by rw [hB, he, bnd_step (by omega)]; simp [c_1, hN, c_2, c_3, c_4, h6, c_24, c_42, c_55, c_57, c_60, i_nlt.mp c_3, i_nlt.mp c_55])
          exact loop_42 ((602 - 1) + 1) 1 0 false 1 false 0 (Nat.lt_succ_self _) (by omega) rfl (by first | rfl | (simp [bandsP, c_1, hN, c_2, c_3, c_4, i_nlt.mp c_3]; done)) (by first | rfl | (simp [bandsP, c_1, hN, c_2, c_3, c_4, i_nlt.mp c_3]; done)) (by first | rfl | (simp [bandsP, c_1, hN, c_2, c_3, c_4, i_nlt.mp c_3]; done)) ls (lv_sub hl [0, 1, 2, 3, 4, 5, 6, 7] rfl)
        · skip
          refine lv_iconst (pc := 31) (v := (-1)) hx hb dX8_bands_31 (by decide) ?_
          exact z_iret cx hr hlk dX8_bands_32 (by first | rfl | (simp [bandsP, c_1, hN, c_2, c_3, c_4, i_nlt.mp c_3]; done))
theorem k_X8_bands {p : Program} {l : Launch} {e : Env} {R : Room} {s : State} {m : MethodId} {args : Array Value} {below : List Frame} {meth : Method} {c : Code} {H : Heap} {locs : List Loc} {cells slots : Nat} {Q : State → Prop} {cc : ByteArray} {pc index : Nat} {ls : Array Slot} {rest st0 : List Value} {E : zE} {own : String} {nL : Nat} {a : Nat → Nat} {sv im rd wa kp so sz el pr ts nu bu ht : Nat → Int32} {th po ba en td : Int32} {ig : Bool} {ij : Bool} {x st x2 w : Int32} (cx : Cx E p s args m c own cc nL) (hW : WW E (wM a (E.2.1 0) sv im rd wa kp so sz el pr ts nu bu ht (bI ig) th po ba en td (bI ij)) gN H) (hI : Inv sv) (zl : Cond.methodLink own index yX8_bands ∈ AllW) (zR : 18 + 1 ≤ R.frames ∧ 8 + (9 + 11) + 523 ≤ R.locals) (zs : ls.size = nL) (zt : st0 = ([.int x, .int st, .int x2, .int w] : List Value).reverse ++ .ref (a 0) :: rest) (z8 : (rest.map fun v => v.category).sum ≤ 8) (zd : decode cc pc = .ok (.invokevirtual index, 3)) (zf : cells ≤ R.cells ∧ slots ≤ R.slots) (kk : W p l e R s m args below meth c H locs cells slots Q (F0 m (pc + 3) ls (.int (bandsP sv x st x2 w) :: rest))) : W p l e R s m args below meth c H locs cells slots Q (F0 m pc ls st0) :=
  z_callV cx vm_X8_bands (c_X8_bands l E a sv im rd wa kp so sz el pr ts nu bu ht th po ba en td ig ij x st x2 w hI) (z_rec cx.2 (hW.at 0 rfl) rfl) hW zl ⟨rfl, rfl⟩ zR rfl zs zt z8 zd zf kk
