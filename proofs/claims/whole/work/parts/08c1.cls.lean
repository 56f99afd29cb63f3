theorem pm1 {P : Nat} {x : Int32} (h : 0 < P) (e : x = nI P) : x - 1 = nI (P - 1) := by
  rw [e, show P = (P - 1) + 1 by omega, nI_p1]
  rfl
theorem vm_X6_cost : zVm yX6_cost cX6_cost 1 (some FieldType.int) 0 := ⟨m_co_X6_cost, m_in_RX6, ⟨m_im_X6_cost, m_se_X6_X6_cost⟩, by decide +kernel, by decide +kernel, by decide +kernel⟩
set_option maxHeartbeats 1000000 in
set_option maxRecDepth 100000 in
theorem c_X6_cost (l : Launch) (E : zE) (q : Nat) (v0 v1 v2 v3 v4 v5 : Int32)   : Met l yX6_cost (.code yX6_cost cX6_cost 1 (some FieldType.int) :: AllW) (rm0' 0 0) (zP E (fun H => va_at E.1 vwCl (q, ceT v0 v1 v2 v3 v4 v5) H) [.ref q]) (rQ (.int (prK v1 v4))) 0 0 nF := by
  refine z_body (own := RX6) (by decide) rfl rfl ?_
  intro p e s m args below meth c ls cx hr hlk hnm hW hl
  have hx := cx.x
  have hb := cx.b
  have hl : lv_has ls 1 [(0, .ref q)] := hl
  refine lv_aload_n (pc := 0) hx hb dX6_cost_0 rfl (lv_at hl 0 rfl) ?_
  refine z_get (pc := 1) cx hW (C := RX6) (T := TX6) (N := 6) rfl i_X6 1 rfl m_fl_X6_13 rfl dX6_cost_1 ?_
  by_cases c_1 : v1 = 1
  · subst c_1
    refine lv_tableIn (pc := 4) (tgt := 48) hx hb dX6_cost_4 (by decide) (by decide) rfl (by decide) ?_
    refine lv_iconst (pc := 48) (v := 5) hx hb dX6_cost_48 (by decide) ?_
    refine lv_aload_n (pc := 49) hx hb dX6_cost_49 rfl (lv_at hl 0 rfl) ?_
    refine z_get (pc := 50) cx hW (C := RX6) (T := TX6) (N := 6) rfl i_X6 4 rfl m_fl_X6_22 rfl dX6_cost_50 ?_
    refine lv_iadd (pc := 53) hx hb dX6_cost_53 ?_
    exact z_iret cx hr hlk dX6_cost_54 (by first | rfl | (simp [prK]; done))
  by_cases c_2 : v1 = 2
  · subst c_2
    refine lv_tableIn (pc := 4) (tgt := 55) hx hb dX6_cost_4 (by decide) (by decide) rfl (by decide) ?_
    refine lv_bipush (pc := 55) (v := 15) hx hb dX6_cost_55 (by decide) ?_
    exact z_iret cx hr hlk dX6_cost_57 (by first | rfl | (simp [prK, c_1]; done))
  by_cases c_3 : v1 = 3
  · subst c_3
    refine lv_tableIn (pc := 4) (tgt := 58) hx hb dX6_cost_4 (by decide) (by decide) rfl (by decide) ?_
    refine lv_iconst (pc := 58) (v := 2) hx hb dX6_cost_58 (by decide) ?_
    exact z_iret cx hr hlk dX6_cost_59 (by first | rfl | (simp [prK, c_1, c_2]; done))
  by_cases c_4 : v1 = 4
  · subst c_4
    refine lv_tableIn (pc := 4) (tgt := 60) hx hb dX6_cost_4 (by decide) (by decide) rfl (by decide) ?_
    refine lv_iconst (pc := 60) (v := 5) hx hb dX6_cost_60 (by decide) ?_
    refine lv_aload_n (pc := 61) hx hb dX6_cost_61 rfl (lv_at hl 0 rfl) ?_
    refine z_get (pc := 62) cx hW (C := RX6) (T := TX6) (N := 6) rfl i_X6 4 rfl m_fl_X6_22 rfl dX6_cost_62 ?_
    refine lv_iadd (pc := 65) hx hb dX6_cost_65 ?_
    refine lv_bipush (pc := 66) (v := 40) hx hb dX6_cost_66 (by decide) ?_
    refine lv_iadd (pc := 68) hx hb dX6_cost_68 ?_
    exact z_iret cx hr hlk dX6_cost_69 (by first | exact cost_4 _ | (rw [c_3]; exact cost_4 _))
  by_cases c_5 : v1 = 5
  · subst c_5
    refine lv_tableIn (pc := 4) (tgt := 70) hx hb dX6_cost_4 (by decide) (by decide) rfl (by decide) ?_
    refine lv_bipush (pc := 70) (v := 10) hx hb dX6_cost_70 (by decide) ?_
    refine lv_aload_n (pc := 72) hx hb dX6_cost_72 rfl (lv_at hl 0 rfl) ?_
    refine z_get (pc := 73) cx hW (C := RX6) (T := TX6) (N := 6) rfl i_X6 4 rfl m_fl_X6_22 rfl dX6_cost_73 ?_
    refine lv_iadd (pc := 76) hx hb dX6_cost_76 ?_
    exact z_iret cx hr hlk dX6_cost_77 (by first | rfl | (simp [prK, c_1, c_2, c_3, c_4]; done))
  by_cases c_6 : v1 = 6
  · subst c_6
    refine lv_tableIn (pc := 4) (tgt := 78) hx hb dX6_cost_4 (by decide) (by decide) rfl (by decide) ?_
    refine lv_iconst (pc := 78) (v := 0) hx hb dX6_cost_78 (by decide) ?_
    exact z_iret cx hr hlk dX6_cost_79 (by first | rfl | (simp [prK, c_1, c_2, c_3, c_4, c_5]; done))
  by_cases c_7 : v1 = 7
  · subst c_7
    refine lv_tableIn (pc := 4) (tgt := 80) hx hb dX6_cost_4 (by decide) (by decide) rfl (by decide) ?_
    refine lv_iconst (pc := 80) (v := 1) hx hb dX6_cost_80 (by decide) ?_
    exact z_iret cx hr hlk dX6_cost_81 (by first | rfl | (simp [prK, c_1, c_2, c_3, c_4, c_5, c_6]; done))
  refine lv_tableOut (pc := 4) (tgt := 82) hx hb dX6_cost_4 (by have := lv_neT c_1 (a := 1) (by decide); have := lv_neT c_2 (a := 2) (by decide); have := lv_neT c_3 (a := 3) (by decide); have := lv_neT c_4 (a := 4) (by decide); have := lv_neT c_5 (a := 5) (by decide); have := lv_neT c_6 (a := 6) (by decide); have := lv_neT c_7 (a := 7) (by decide); omega) (by decide) ?_
  refine lv_iconst (pc := 82) (v := 5) hx hb dX6_cost_82 (by decide) ?_
  exact z_iret cx hr hlk dX6_cost_83 (by first | rfl | (simp [prK, c_1, c_2, c_3, c_4, c_5, c_6, c_7]; done))
theorem k_X6_cost {p : Program} {l : Launch} {e : Env} {R : Room} {s : State} {m : MethodId} {args : Array Value} {below : List Frame} {meth : Method} {c : Code} {H : Heap} {locs : List Loc} {cells slots : Nat} {Q : State → Prop} {cc : ByteArray} {pc index : Nat} {ls : Array Slot} {rest st0 : List Value} {E : zE} {own : String} {nL : Nat} {q : Nat} {v0 v1 v2 v3 v4 v5 : Int32}  (cx : Cx E p s args m c own cc nL) (hW : va_at E.1 vwCl (q, ceT v0 v1 v2 v3 v4 v5) H)  (zl : Cond.methodLink own index yX6_cost ∈ AllW) (zR : 0 + 1 ≤ R.frames ∧ 8 + (1 + 11) + 0 ≤ R.locals) (zs : ls.size = nL) (zt : st0 = ([] : List Value).reverse ++ .ref q :: rest) (z8 : (rest.map fun v => v.category).sum ≤ 8) (zd : decode cc pc = .ok (.invokevirtual index, 3)) (zf : cells ≤ R.cells ∧ slots ≤ R.slots) (kk : W p l e R s m args below meth c H locs cells slots Q (F0 m (pc + 3) ls (.int (prK v1 v4) :: rest))) : W p l e R s m args below meth c H locs cells slots Q (F0 m pc ls st0) :=
  z_callV cx vm_X6_cost (c_X6_cost l E q v0 v1 v2 v3 v4 v5) (z_rec cx.2 hW rfl) hW zl ⟨rfl, rfl⟩ zR rfl zs zt z8 zd zf kk
theorem vm_X6_isSeam : zVm yX6_isSeam cX6_isSeam 1 (some FieldType.boolean) 0 := ⟨m_co_X6_isSeam, m_in_RX6, ⟨m_im_X6_isSeam, m_se_X6_X6_isSeam⟩, by decide +kernel, by decide +kernel, by decide +kernel⟩
set_option maxHeartbeats 1000000 in
set_option maxRecDepth 100000 in
theorem c_X6_isSeam (l : Launch) (E : zE) (q : Nat) (v0 v1 v2 v3 v4 v5 : Int32)   : Met l yX6_isSeam (.code yX6_isSeam cX6_isSeam 1 (some FieldType.boolean) :: AllW) (rm0' 0 0) (zP E (fun H => va_at E.1 vwCl (q, ceT v0 v1 v2 v3 v4 v5) H) [.ref q]) (rQ (.int (bI (decide (v1 = 1 ∨ v1 = 4))))) 0 0 nF := by
  refine z_body (own := RX6) (by decide) rfl rfl ?_
  intro p e s m args below meth c ls cx hr hlk hnm hW hl
  have hx := cx.x
  have hb := cx.b
  have hl : lv_has ls 1 [(0, .ref q)] := hl
  refine lv_aload_n (pc := 0) hx hb dX6_isSeam_0 rfl (lv_at hl 0 rfl) ?_
  refine z_get (pc := 1) cx hW (C := RX6) (T := TX6) (N := 6) rfl i_X6 1 rfl m_fl_X6_13 rfl dX6_isSeam_1 ?_
  refine lv_iconst (pc := 4) (v := 1) hx hb dX6_isSeam_4 (by decide) ?_
  refine lv_icmp_eq (pc := 5) (tgt := 16) hx hb dX6_isSeam_5 (by decide) (fun c_1 => ?_) (fun c_1 => ?_)
  · skip
    refine lv_iconst (pc := 16) (v := 1) hx hb dX6_isSeam_16 (by decide) ?_
    refine lv_goto (pc := 17) (tgt := 21) hx hb dX6_isSeam_17 (by decide) ?_
    exact z_zret cx hr hlk dX6_isSeam_21 (by first | rfl | (simp [bI, c_1]; done))
  · skip
    refine lv_aload_n (pc := 8) hx hb dX6_isSeam_8 rfl (lv_at hl 0 rfl) ?_
    refine z_get (pc := 9) cx hW (C := RX6) (T := TX6) (N := 6) rfl i_X6 1 rfl m_fl_X6_13 rfl dX6_isSeam_9 ?_
    refine lv_iconst (pc := 12) (v := 4) hx hb dX6_isSeam_12 (by decide) ?_
    refine lv_icmp_ne (pc := 13) (tgt := 20) hx hb dX6_isSeam_13 (by decide) (fun c_2 => ?_) (fun c_2 => ?_)
    · skip
      refine lv_iconst (pc := 20) (v := 0) hx hb dX6_isSeam_20 (by decide) ?_
      exact z_zret cx hr hlk dX6_isSeam_21 (by first | rfl | (simp [bI, c_1, c_2]; done))
    · skip
      refine lv_iconst (pc := 16) (v := 1) hx hb dX6_isSeam_16 (by decide) ?_
      refine lv_goto (pc := 17) (tgt := 21) hx hb dX6_isSeam_17 (by decide) ?_
      exact z_zret cx hr hlk dX6_isSeam_21 (by first | rfl | (simp [bI, c_1, c_2]; done))
theorem k_X6_isSeam {p : Program} {l : Launch} {e : Env} {R : Room} {s : State} {m : MethodId} {args : Array Value} {below : List Frame} {meth : Method} {c : Code} {H : Heap} {locs : List Loc} {cells slots : Nat} {Q : State → Prop} {cc : ByteArray} {pc index : Nat} {ls : Array Slot} {rest st0 : List Value} {E : zE} {own : String} {nL : Nat} {q : Nat} {v0 v1 v2 v3 v4 v5 : Int32}  (cx : Cx E p s args m c own cc nL) (hW : va_at E.1 vwCl (q, ceT v0 v1 v2 v3 v4 v5) H)  (zl : Cond.methodLink own index yX6_isSeam ∈ AllW) (zR : 0 + 1 ≤ R.frames ∧ 8 + (1 + 11) + 0 ≤ R.locals) (zs : ls.size = nL) (zt : st0 = ([] : List Value).reverse ++ .ref q :: rest) (z8 : (rest.map fun v => v.category).sum ≤ 8) (zd : decode cc pc = .ok (.invokevirtual index, 3)) (zf : cells ≤ R.cells ∧ slots ≤ R.slots) (kk : W p l e R s m args below meth c H locs cells slots Q (F0 m (pc + 3) ls (.int (bI (decide (v1 = 1 ∨ v1 = 4))) :: rest))) : W p l e R s m args below meth c H locs cells slots Q (F0 m pc ls st0) :=
  z_callV cx vm_X6_isSeam (c_X6_isSeam l E q v0 v1 v2 v3 v4 v5) (z_rec cx.2 hW rfl) hW zl ⟨rfl, rfl⟩ zR rfl zs zt z8 zd zf kk
theorem vm_X0_isFit : zVm yX0_isFit cX0_isFit 2 (some FieldType.boolean) 1 := ⟨m_co_X0_isFit, m_in_RX0, ⟨m_im_X0_isFit, m_se_X0_X0_isFit⟩, by decide +kernel, by decide +kernel, by decide +kernel⟩
set_option maxHeartbeats 1000000 in
set_option maxRecDepth 100000 in
theorem c_X0_isFit (l : Launch) (E : zE) (q w : Nat) (v0 v1 v3 : Int32) (hb2 : Bool) (x : Int32)  : Met l yX0_isFit (.code yX0_isFit cX0_isFit 2 (some FieldType.boolean) :: AllW) (rm0' 0 0) (zP E (fun H => va_at E.1 vwCl (q, ceA v0 v1 (bI hb2) v3 w) H) [.ref q, .int x]) (rQ (.int (bI (fiC v3 x hb2)))) 0 0 nF := by
  refine z_body (own := RX0) (by decide) rfl rfl ?_
  intro p e s m args below meth c ls cx hr hlk hnm hW hl
  have hx := cx.x
  have hb := cx.b
  have hl : lv_has ls 2 [(0, .ref q), (1, .int x)] := hl
  refine lv_aload_n (pc := 0) hx hb dX0_isFit_0 rfl (lv_at hl 0 rfl) ?_
  refine z_get (pc := 1) cx hW (C := RX0) (T := TX0) (N := 5) rfl i_X0 3 rfl m_fl_X0_20 rfl dX0_isFit_1 ?_
  refine lv_iload_n (pc := 4) hx hb dX0_isFit_4 rfl (lv_at hl 1 rfl) ?_
  refine lv_iand (pc := 5) hx hb dX0_isFit_5 ?_
  refine lv_if_eq (pc := 6) (tgt := 13) hx hb dX0_isFit_6 (by decide) (fun c_1 => ?_) (fun c_1 => ?_)
  · skip
    have hq2 : decide (¬ v3 &&& x = 0) = false := by simp [c_1]
    refine lv_iconst (pc := 13) (v := 0) hx hb dX0_isFit_13 (by decide) ?_
    refine lv_aload_n (pc := 14) hx hb dX0_isFit_14 rfl (lv_at hl 0 rfl) ?_
    refine z_get (pc := 15) cx hW (C := RX0) (T := TX0) (N := 5) rfl i_X0 2 rfl m_fl_X0_16 rfl dX0_isFit_15 ?_
    refine lv_icmp_ne (pc := 18) (tgt := 25) hx hb dX0_isFit_18 (by decide) (fun c_2 => ?_) (fun c_2 => ?_)
    · skip
      refine lv_iconst (pc := 25) (v := 0) hx hb dX0_isFit_25 (by decide) ?_
      exact z_zret cx hr hlk dX0_isFit_26 (by unfold fiC; rw [hq2]; cases hb2 <;> first | rfl | exact absurd c_2 (by decide) | exact absurd rfl c_2)
    · skip
      refine lv_iconst (pc := 21) (v := 1) hx hb dX0_isFit_21 (by decide) ?_
      refine lv_goto (pc := 22) (tgt := 26) hx hb dX0_isFit_22 (by decide) ?_
      exact z_zret cx hr hlk dX0_isFit_26 (by unfold fiC; rw [hq2]; cases hb2 <;> first | rfl | exact absurd c_2 (by decide) | exact absurd rfl c_2)
  · skip
    have hq2 : decide (¬ v3 &&& x = 0) = true := by simp [c_1]
    refine lv_iconst (pc := 9) (v := 1) hx hb dX0_isFit_9 (by decide) ?_
    refine lv_goto (pc := 10) (tgt := 14) hx hb dX0_isFit_10 (by decide) ?_
    refine lv_aload_n (pc := 14) hx hb dX0_isFit_14 rfl (lv_at hl 0 rfl) ?_
    refine z_get (pc := 15) cx hW (C := RX0) (T := TX0) (N := 5) rfl i_X0 2 rfl m_fl_X0_16 rfl dX0_isFit_15 ?_
    refine lv_icmp_ne (pc := 18) (tgt := 25) hx hb dX0_isFit_18 (by decide) (fun c_3 => ?_) (fun c_3 => ?_)
    · skip
      refine lv_iconst (pc := 25) (v := 0) hx hb dX0_isFit_25 (by decide) ?_
      exact z_zret cx hr hlk dX0_isFit_26 (by unfold fiC; rw [hq2]; cases hb2 <;> first | rfl | exact absurd c_3 (by decide) | exact absurd rfl c_3)
    · skip
      refine lv_iconst (pc := 21) (v := 1) hx hb dX0_isFit_21 (by decide) ?_
      refine lv_goto (pc := 22) (tgt := 26) hx hb dX0_isFit_22 (by decide) ?_
      exact z_zret cx hr hlk dX0_isFit_26 (by unfold fiC; rw [hq2]; cases hb2 <;> first | rfl | exact absurd c_3 (by decide) | exact absurd rfl c_3)
theorem k_X0_isFit {p : Program} {l : Launch} {e : Env} {R : Room} {s : State} {m : MethodId} {args : Array Value} {below : List Frame} {meth : Method} {c : Code} {H : Heap} {locs : List Loc} {cells slots : Nat} {Q : State → Prop} {cc : ByteArray} {pc index : Nat} {ls : Array Slot} {rest st0 : List Value} {E : zE} {own : String} {nL : Nat} {q w : Nat} {v0 v1 v3 : Int32} {hb2 : Bool} {x : Int32} (cx : Cx E p s args m c own cc nL) (hW : va_at E.1 vwCl (q, ceA v0 v1 (bI hb2) v3 w) H)  (zl : Cond.methodLink own index yX0_isFit ∈ AllW) (zR : 0 + 1 ≤ R.frames ∧ 8 + (2 + 11) + 0 ≤ R.locals) (zs : ls.size = nL) (zt : st0 = ([.int x] : List Value).reverse ++ .ref q :: rest) (z8 : (rest.map fun v => v.category).sum ≤ 8) (zd : decode cc pc = .ok (.invokevirtual index, 3)) (zf : cells ≤ R.cells ∧ slots ≤ R.slots) (kk : W p l e R s m args below meth c H locs cells slots Q (F0 m (pc + 3) ls (.int (bI (fiC v3 x hb2)) :: rest))) : W p l e R s m args below meth c H locs cells slots Q (F0 m pc ls st0) :=
  z_callV cx vm_X0_isFit (c_X0_isFit l E q w v0 v1 v3 hb2 x) (z_rec cx.2 hW rfl) hW zl ⟨rfl, rfl⟩ zR rfl zs zt z8 zd zf kk
theorem vm_X1_pieceAt : zVm yX1_pieceAt cX1_pieceAt 2 (some (FieldType.object "FiddleBuzz$Piece")) 1 := ⟨m_co_X1_pieceAt, m_in_RX1, ⟨m_im_X1_pieceAt, m_se_X1_X1_pieceAt⟩, by decide +kernel, by decide +kernel, by decide +kernel⟩
set_option maxHeartbeats 1000000 in
set_option maxRecDepth 100000 in
theorem c_X1_pieceAt (l : Launch) (E : zE) (b : Nat → Nat) (tl : va_W) (pd : Bool) (qt : Nat → Option Nat) (qr : Nat → Option Nat) (tbu : Nat → Int32) (wst : Nat → Int32) (asw : Nat → Int32) (pN : Int32) (tN : Int32) (aN : Int32) (hd : Int32) (dr : Int32) (pl : Int32) (rm : Int32) (ps : Int32) (wx : Nat → Int32) (pp : Nat → Option Nat) (tp : Nat → Option Nat) (ap : Nat → Option Nat) (sg : Nat → Int32) (uh : Int32) (ud : Int32) (up : Int32) (ur : Int32) (us : Int32) (ux : Nat → Int32) (G : zG) (n q : Nat) (r : Nat → Int32) (hC : InvC r) (hpN : pN = nI (nP r)) (hn : n < nP r) (hq : pp n = some q) : Met l yX1_pieceAt (.code yX1_pieceAt cX1_pieceAt 2 (some (FieldType.object "FiddleBuzz$Piece")) :: AllW) (rm0' 1 21) (zP E (fun H => WW E (wK b E.2.1 tl pd qt qr tbu wst asw pN tN aN hd dr pl rm ps wx pp tp ap sg uh ud up ur us ux) G H) [.ref (b 6), .int (nI n)]) (rQ (.ref q)) 0 0 nF := by
  refine z_body (own := RX1) (by decide) rfl rfl ?_
  intro p e s m args below meth c ls cx hr hlk hnm hW hl
  have hx := cx.x
  have hb := cx.b
  have hl : lv_has ls 2 [(0, .ref (b 6)), (1, .int (nI n))] := hl
  have hP10 := (Inv.n0 hC).2
  refine lv_aload_n (pc := 0) hx hb dX1_pieceAt_0 rfl (lv_at hl 0 rfl) ?_
  refine lv_iload_n (pc := 1) hx hb dX1_pieceAt_1 rfl (lv_at hl 1 rfl) ?_
  refine k_X1_isPiece (pc := 2) (x := nI n) cx hW (by first | assumption | omega) (by first | assumption | omega) m_ml_X1_54 ⟨Nat.le_of_ble_eq_true rfl, Nat.le_of_ble_eq_true rfl⟩ hl.1 rfl (by simp [Value.category]) dX1_pieceAt_2 ⟨Nat.le_refl _, Nat.le_refl _⟩ ?_
  refine z_ifeq (pc := 5) (tgt := 17) hx hb dX1_pieceAt_5 (by decide) (fun c_1 => ?_) (fun c_1 => ?_)
  · skip
    exact absurd ((isP_n hC hn).symm.trans c_1) (by decide)
  · skip
    refine lv_aload_n (pc := 8) hx hb dX1_pieceAt_8 rfl (lv_at hl 0 rfl) ?_
    refine z_get (pc := 9) cx (hW.at 6 rfl) (C := RX1) (T := TX1) (N := 8) rfl i_X1 4 rfl m_fl_X1_20 rfl dX1_pieceAt_9 ?_
    refine lv_iload_n (pc := 12) hx hb dX1_pieceAt_12 rfl (lv_at hl 1 rfl) ?_
    refine z_aald (pc := 13) (f := pp) (j := n) cx 1 rfl (hW.at 9 rfl) rfl (by omega) (by decide) dX1_pieceAt_13 ?_
    refine z_rfS hq ?_
    refine lv_goto (pc := 14) (tgt := 18) hx hb dX1_pieceAt_14 (by decide) ?_
    exact z_aret cx hr hlk (Or.inl ⟨_, rfl⟩) (Or.inr ⟨_, rfl⟩) dX1_pieceAt_18 (by first | rfl | (simp [c_1]; done))
theorem k_X1_pieceAt {p : Program} {l : Launch} {e : Env} {R : Room} {s : State} {m : MethodId} {args : Array Value} {below : List Frame} {meth : Method} {c : Code} {H : Heap} {locs : List Loc} {cells slots : Nat} {Q : State → Prop} {cc : ByteArray} {pc index : Nat} {ls : Array Slot} {rest st0 : List Value} {E : zE} {own : String} {nL : Nat} {b : Nat → Nat} {tl : va_W} {pd : Bool} {qt : Nat → Option Nat} {qr : Nat → Option Nat} {tbu : Nat → Int32} {wst : Nat → Int32} {asw : Nat → Int32} {pN : Int32} {tN : Int32} {aN : Int32} {hd : Int32} {dr : Int32} {pl : Int32} {rm : Int32} {ps : Int32} {wx : Nat → Int32} {pp : Nat → Option Nat} {tp : Nat → Option Nat} {ap : Nat → Option Nat} {sg : Nat → Int32} {uh : Int32} {ud : Int32} {up : Int32} {ur : Int32} {us : Int32} {ux : Nat → Int32} {G : zG} {n q : Nat} {r : Nat → Int32} (cx : Cx E p s args m c own cc nL) (hW : WW E (wK b E.2.1 tl pd qt qr tbu wst asw pN tN aN hd dr pl rm ps wx pp tp ap sg uh ud up ur us ux) G H) (hC : InvC r) (hpN : pN = nI (nP r)) (hn : n < nP r) (hq : pp n = some q) (zl : Cond.methodLink own index yX1_pieceAt ∈ AllW) (zR : 1 + 1 ≤ R.frames ∧ 8 + (2 + 11) + 21 ≤ R.locals) (zs : ls.size = nL) (zt : st0 = ([.int (nI n)] : List Value).reverse ++ .ref (b 6) :: rest) (z8 : (rest.map fun v => v.category).sum ≤ 8) (zd : decode cc pc = .ok (.invokevirtual index, 3)) (zf : cells ≤ R.cells ∧ slots ≤ R.slots) (kk : W p l e R s m args below meth c H locs cells slots Q (F0 m (pc + 3) ls (.ref q :: rest))) : W p l e R s m args below meth c H locs cells slots Q (F0 m pc ls st0) :=
  z_callV cx vm_X1_pieceAt (c_X1_pieceAt l E b tl pd qt qr tbu wst asw pN tN aN hd dr pl rm ps wx pp tp ap sg uh ud up ur us ux G n q r hC hpN hn hq) (z_rec cx.2 (hW.at 6 rfl) rfl) hW zl ⟨rfl, rfl⟩ zR rfl zs zt z8 zd zf kk
set_option maxHeartbeats 1000000 in
set_option maxRecDepth 100000 in
theorem c_X1_pieceAt0 (l : Launch) (E : zE) (b : Nat → Nat) (tl : va_W) (pd : Bool) (qt : Nat → Option Nat) (qr : Nat → Option Nat) (tbu : Nat → Int32) (wst : Nat → Int32) (asw : Nat → Int32) (pN : Int32) (tN : Int32) (aN : Int32) (hd : Int32) (dr : Int32) (pl : Int32) (rm : Int32) (ps : Int32) (wx : Nat → Int32) (pp : Nat → Option Nat) (tp : Nat → Option Nat) (ap : Nat → Option Nat) (sg : Nat → Int32) (uh : Int32) (ud : Int32) (up : Int32) (ur : Int32) (us : Int32) (ux : Nat → Int32) (G : zG) (x : Int32) (r : Nat → Int32) (hC : InvC r) (hpN : pN = nI (nP r)) (hxf : isPc r x = false) : Met l yX1_pieceAt (.code yX1_pieceAt cX1_pieceAt 2 (some (FieldType.object "FiddleBuzz$Piece")) :: AllW) (rm0' 1 21) (zP E (fun H => WW E (wK b E.2.1 tl pd qt qr tbu wst asw pN tN aN hd dr pl rm ps wx pp tp ap sg uh ud up ur us ux) G H) [.ref (b 6), .int x]) (rQ (.null)) 0 0 nF := by
  refine z_body (own := RX1) (by decide) rfl rfl ?_
  intro p e s m args below meth c ls cx hr hlk hnm hW hl
  have hx := cx.x
  have hb := cx.b
  have hl : lv_has ls 2 [(0, .ref (b 6)), (1, .int x)] := hl
  refine lv_aload_n (pc := 0) hx hb dX1_pieceAt_0 rfl (lv_at hl 0 rfl) ?_
  refine lv_iload_n (pc := 1) hx hb dX1_pieceAt_1 rfl (lv_at hl 1 rfl) ?_
  refine k_X1_isPiece (pc := 2) (x := x) cx hW (by first | assumption | omega) (by first | assumption | omega) m_ml_X1_54 ⟨Nat.le_of_ble_eq_true rfl, Nat.le_of_ble_eq_true rfl⟩ hl.1 rfl (by simp [Value.category]) dX1_pieceAt_2 ⟨Nat.le_refl _, Nat.le_refl _⟩ ?_
  refine z_ifeq (pc := 5) (tgt := 17) hx hb dX1_pieceAt_5 (by decide) (fun c_1 => ?_) (fun c_1 => ?_)
  · skip
    refine lv_null (pc := 17) hx hb dX1_pieceAt_17 ?_
    exact z_aret cx hr hlk (Or.inl ⟨_, rfl⟩) (Or.inl rfl) dX1_pieceAt_18 (by first | rfl | (simp [c_1]; done))
  · skip
    exact absurd (hxf.symm.trans c_1) (by decide)
theorem k_X1_pieceAt0 {p : Program} {l : Launch} {e : Env} {R : Room} {s : State} {m : MethodId} {args : Array Value} {below : List Frame} {meth : Method} {c : Code} {H : Heap} {locs : List Loc} {cells slots : Nat} {Q : State → Prop} {cc : ByteArray} {pc index : Nat} {ls : Array Slot} {rest st0 : List Value} {E : zE} {own : String} {nL : Nat} {b : Nat → Nat} {tl : va_W} {pd : Bool} {qt : Nat → Option Nat} {qr : Nat → Option Nat} {tbu : Nat → Int32} {wst : Nat → Int32} {asw : Nat → Int32} {pN : Int32} {tN : Int32} {aN : Int32} {hd : Int32} {dr : Int32} {pl : Int32} {rm : Int32} {ps : Int32} {wx : Nat → Int32} {pp : Nat → Option Nat} {tp : Nat → Option Nat} {ap : Nat → Option Nat} {sg : Nat → Int32} {uh : Int32} {ud : Int32} {up : Int32} {ur : Int32} {us : Int32} {ux : Nat → Int32} {G : zG} {x : Int32} {r : Nat → Int32} (cx : Cx E p s args m c own cc nL) (hW : WW E (wK b E.2.1 tl pd qt qr tbu wst asw pN tN aN hd dr pl rm ps wx pp tp ap sg uh ud up ur us ux) G H) (hC : InvC r) (hpN : pN = nI (nP r)) (hxf : isPc r x = false) (zl : Cond.methodLink own index yX1_pieceAt ∈ AllW) (zR : 1 + 1 ≤ R.frames ∧ 8 + (2 + 11) + 21 ≤ R.locals) (zs : ls.size = nL) (zt : st0 = ([.int x] : List Value).reverse ++ .ref (b 6) :: rest) (z8 : (rest.map fun v => v.category).sum ≤ 8) (zd : decode cc pc = .ok (.invokevirtual index, 3)) (zf : cells ≤ R.cells ∧ slots ≤ R.slots) (kk : W p l e R s m args below meth c H locs cells slots Q (F0 m (pc + 3) ls (.null :: rest))) : W p l e R s m args below meth c H locs cells slots Q (F0 m pc ls st0) :=
  z_callV cx vm_X1_pieceAt (c_X1_pieceAt0 l E b tl pd qt qr tbu wst asw pN tN aN hd dr pl rm ps wx pp tp ap sg uh ud up ur us ux G x r hC hpN hxf) (z_rec cx.2 (hW.at 6 rfl) rfl) hW zl ⟨rfl, rfl⟩ zR rfl zs zt z8 zd zf kk
theorem vm_X1_thingAt : zVm yX1_thingAt cX1_thingAt 2 (some (FieldType.object "FiddleBuzz$Thing")) 1 := ⟨m_co_X1_thingAt, m_in_RX1, ⟨m_im_X1_thingAt, m_se_X1_X1_thingAt⟩, by decide +kernel, by decide +kernel, by decide +kernel⟩
set_option maxHeartbeats 1000000 in
set_option maxRecDepth 100000 in
theorem c_X1_thingAt (l : Launch) (E : zE) (b : Nat → Nat) (tl : va_W) (pd : Bool) (qt : Nat → Option Nat) (qr : Nat → Option Nat) (tbu : Nat → Int32) (wst : Nat → Int32) (asw : Nat → Int32) (pN : Int32) (tN : Int32) (aN : Int32) (hd : Int32) (dr : Int32) (pl : Int32) (rm : Int32) (ps : Int32) (wx : Nat → Int32) (pp : Nat → Option Nat) (tp : Nat → Option Nat) (ap : Nat → Option Nat) (sg : Nat → Int32) (uh : Int32) (ud : Int32) (up : Int32) (ur : Int32) (us : Int32) (ux : Nat → Int32) (G : zG) (n q : Nat) (r : Nat → Int32) (hC : InvC r) (htN : tN = nI (nT r)) (hn : n < nT r) (hq : tp n = some q) : Met l yX1_thingAt (.code yX1_thingAt cX1_thingAt 2 (some (FieldType.object "FiddleBuzz$Thing")) :: AllW) (rm0' 1 21) (zP E (fun H => WW E (wK b E.2.1 tl pd qt qr tbu wst asw pN tN aN hd dr pl rm ps wx pp tp ap sg uh ud up ur us ux) G H) [.ref (b 6), .int (nI n)]) (rQ (.ref q)) 0 0 nF := by
  refine z_body (own := RX1) (by decide) rfl rfl ?_
  intro p e s m args below meth c ls cx hr hlk hnm hW hl
  have hx := cx.x
  have hb := cx.b
  have hl : lv_has ls 2 [(0, .ref (b 6)), (1, .int (nI n))] := hl
  have hT7 := (Inv.n1 hC).2
  refine lv_aload_n (pc := 0) hx hb dX1_thingAt_0 rfl (lv_at hl 0 rfl) ?_
  refine lv_iload_n (pc := 1) hx hb dX1_thingAt_1 rfl (lv_at hl 1 rfl) ?_
  refine k_X1_isThing (pc := 2) (x := nI n) cx hW (by first | assumption | omega) (by first | assumption | omega) m_ml_X1_58 ⟨Nat.le_of_ble_eq_true rfl, Nat.le_of_ble_eq_true rfl⟩ hl.1 rfl (by simp [Value.category]) dX1_thingAt_2 ⟨Nat.le_refl _, Nat.le_refl _⟩ ?_
  refine z_ifeq (pc := 5) (tgt := 17) hx hb dX1_thingAt_5 (by decide) (fun c_1 => ?_) (fun c_1 => ?_)
  · skip
    exact absurd ((isT_n hC hn).symm.trans c_1) (by decide)
  · skip
    refine lv_aload_n (pc := 8) hx hb dX1_thingAt_8 rfl (lv_at hl 0 rfl) ?_
    refine z_get (pc := 9) cx (hW.at 6 rfl) (C := RX1) (T := TX1) (N := 8) rfl i_X1 5 rfl m_fl_X1_26 rfl dX1_thingAt_9 ?_
    refine lv_iload_n (pc := 12) hx hb dX1_thingAt_12 rfl (lv_at hl 1 rfl) ?_
    refine z_aald (pc := 13) (f := tp) (j := n) cx 2 rfl (hW.at 10 rfl) rfl (by omega) (by decide) dX1_thingAt_13 ?_
    refine z_rfS hq ?_
    refine lv_goto (pc := 14) (tgt := 18) hx hb dX1_thingAt_14 (by decide) ?_
    exact z_aret cx hr hlk (Or.inl ⟨_, rfl⟩) (Or.inr ⟨_, rfl⟩) dX1_thingAt_18 (by first | rfl | (simp [c_1]; done))
theorem k_X1_thingAt {p : Program} {l : Launch} {e : Env} {R : Room} {s : State} {m : MethodId} {args : Array Value} {below : List Frame} {meth : Method} {c : Code} {H : Heap} {locs : List Loc} {cells slots : Nat} {Q : State → Prop} {cc : ByteArray} {pc index : Nat} {ls : Array Slot} {rest st0 : List Value} {E : zE} {own : String} {nL : Nat} {b : Nat → Nat} {tl : va_W} {pd : Bool} {qt : Nat → Option Nat} {qr : Nat → Option Nat} {tbu : Nat → Int32} {wst : Nat → Int32} {asw : Nat → Int32} {pN : Int32} {tN : Int32} {aN : Int32} {hd : Int32} {dr : Int32} {pl : Int32} {rm : Int32} {ps : Int32} {wx : Nat → Int32} {pp : Nat → Option Nat} {tp : Nat → Option Nat} {ap : Nat → Option Nat} {sg : Nat → Int32} {uh : Int32} {ud : Int32} {up : Int32} {ur : Int32} {us : Int32} {ux : Nat → Int32} {G : zG} {n q : Nat} {r : Nat → Int32} (cx : Cx E p s args m c own cc nL) (hW : WW E (wK b E.2.1 tl pd qt qr tbu wst asw pN tN aN hd dr pl rm ps wx pp tp ap sg uh ud up ur us ux) G H) (hC : InvC r) (htN : tN = nI (nT r)) (hn : n < nT r) (hq : tp n = some q) (zl : Cond.methodLink own index yX1_thingAt ∈ AllW) (zR : 1 + 1 ≤ R.frames ∧ 8 + (2 + 11) + 21 ≤ R.locals) (zs : ls.size = nL) (zt : st0 = ([.int (nI n)] : List Value).reverse ++ .ref (b 6) :: rest) (z8 : (rest.map fun v => v.category).sum ≤ 8) (zd : decode cc pc = .ok (.invokevirtual index, 3)) (zf : cells ≤ R.cells ∧ slots ≤ R.slots) (kk : W p l e R s m args below meth c H locs cells slots Q (F0 m (pc + 3) ls (.ref q :: rest))) : W p l e R s m args below meth c H locs cells slots Q (F0 m pc ls st0) :=
  z_callV cx vm_X1_thingAt (c_X1_thingAt l E b tl pd qt qr tbu wst asw pN tN aN hd dr pl rm ps wx pp tp ap sg uh ud up ur us ux G n q r hC htN hn hq) (z_rec cx.2 (hW.at 6 rfl) rfl) hW zl ⟨rfl, rfl⟩ zR rfl zs zt z8 zd zf kk
set_option maxHeartbeats 1000000 in
set_option maxRecDepth 100000 in
theorem c_X1_thingAt0 (l : Launch) (E : zE) (b : Nat → Nat) (tl : va_W) (pd : Bool) (qt : Nat → Option Nat) (qr : Nat → Option Nat) (tbu : Nat → Int32) (wst : Nat → Int32) (asw : Nat → Int32) (pN : Int32) (tN : Int32) (aN : Int32) (hd : Int32) (dr : Int32) (pl : Int32) (rm : Int32) (ps : Int32) (wx : Nat → Int32) (pp : Nat → Option Nat) (tp : Nat → Option Nat) (ap : Nat → Option Nat) (sg : Nat → Int32) (uh : Int32) (ud : Int32) (up : Int32) (ur : Int32) (us : Int32) (ux : Nat → Int32) (G : zG) (x : Int32) (r : Nat → Int32) (hC : InvC r) (htN : tN = nI (nT r)) (hxf : isTh r x = false) : Met l yX1_thingAt (.code yX1_thingAt cX1_thingAt 2 (some (FieldType.object "FiddleBuzz$Thing")) :: AllW) (rm0' 1 21) (zP E (fun H => WW E (wK b E.2.1 tl pd qt qr tbu wst asw pN tN aN hd dr pl rm ps wx pp tp ap sg uh ud up ur us ux) G H) [.ref (b 6), .int x]) (rQ (.null)) 0 0 nF := by
  refine z_body (own := RX1) (by decide) rfl rfl ?_
  intro p e s m args below meth c ls cx hr hlk hnm hW hl
  have hx := cx.x
  have hb := cx.b
  have hl : lv_has ls 2 [(0, .ref (b 6)), (1, .int x)] := hl
  refine lv_aload_n (pc := 0) hx hb dX1_thingAt_0 rfl (lv_at hl 0 rfl) ?_
  refine lv_iload_n (pc := 1) hx hb dX1_thingAt_1 rfl (lv_at hl 1 rfl) ?_
  refine k_X1_isThing (pc := 2) (x := x) cx hW (by first | assumption | omega) (by first | assumption | omega) m_ml_X1_58 ⟨Nat.le_of_ble_eq_true rfl, Nat.le_of_ble_eq_true rfl⟩ hl.1 rfl (by simp [Value.category]) dX1_thingAt_2 ⟨Nat.le_refl _, Nat.le_refl _⟩ ?_
  refine z_ifeq (pc := 5) (tgt := 17) hx hb dX1_thingAt_5 (by decide) (fun c_1 => ?_) (fun c_1 => ?_)
  · skip
    refine lv_null (pc := 17) hx hb dX1_thingAt_17 ?_
    exact z_aret cx hr hlk (Or.inl ⟨_, rfl⟩) (Or.inl rfl) dX1_thingAt_18 (by first | rfl | (simp [c_1]; done))
  · skip
    exact absurd (hxf.symm.trans c_1) (by decide)
theorem k_X1_thingAt0 {p : Program} {l : Launch} {e : Env} {R : Room} {s : State} {m : MethodId} {args : Array Value} {below : List Frame} {meth : Method} {c : Code} {H : Heap} {locs : List Loc} {cells slots : Nat} {Q : State → Prop} {cc : ByteArray} {pc index : Nat} {ls : Array Slot} {rest st0 : List Value} {E : zE} {own : String} {nL : Nat} {b : Nat → Nat} {tl : va_W} {pd : Bool} {qt : Nat → Option Nat} {qr : Nat → Option Nat} {tbu : Nat → Int32} {wst : Nat → Int32} {asw : Nat → Int32} {pN : Int32} {tN : Int32} {aN : Int32} {hd : Int32} {dr : Int32} {pl : Int32} {rm : Int32} {ps : Int32} {wx : Nat → Int32} {pp : Nat → Option Nat} {tp : Nat → Option Nat} {ap : Nat → Option Nat} {sg : Nat → Int32} {uh : Int32} {ud : Int32} {up : Int32} {ur : Int32} {us : Int32} {ux : Nat → Int32} {G : zG} {x : Int32} {r : Nat → Int32} (cx : Cx E p s args m c own cc nL) (hW : WW E (wK b E.2.1 tl pd qt qr tbu wst asw pN tN aN hd dr pl rm ps wx pp tp ap sg uh ud up ur us ux) G H) (hC : InvC r) (htN : tN = nI (nT r)) (hxf : isTh r x = false) (zl : Cond.methodLink own index yX1_thingAt ∈ AllW) (zR : 1 + 1 ≤ R.frames ∧ 8 + (2 + 11) + 21 ≤ R.locals) (zs : ls.size = nL) (zt : st0 = ([.int x] : List Value).reverse ++ .ref (b 6) :: rest) (z8 : (rest.map fun v => v.category).sum ≤ 8) (zd : decode cc pc = .ok (.invokevirtual index, 3)) (zf : cells ≤ R.cells ∧ slots ≤ R.slots) (kk : W p l e R s m args below meth c H locs cells slots Q (F0 m (pc + 3) ls (.null :: rest))) : W p l e R s m args below meth c H locs cells slots Q (F0 m pc ls st0) :=
  z_callV cx vm_X1_thingAt (c_X1_thingAt0 l E b tl pd qt qr tbu wst asw pN tN aN hd dr pl rm ps wx pp tp ap sg uh ud up ur us ux G x r hC htN hxf) (z_rec cx.2 (hW.at 6 rfl) rfl) hW zl ⟨rfl, rfl⟩ zR rfl zs zt z8 zd zf kk
theorem vm_X1_askAt : zVm yX1_askAt cX1_askAt 2 (some (FieldType.object "FiddleBuzz$Ask")) 1 := ⟨m_co_X1_askAt, m_in_RX1, ⟨m_im_X1_askAt, m_se_X1_X1_askAt⟩, by decide +kernel, by decide +kernel, by decide +kernel⟩
set_option maxHeartbeats 1000000 in
set_option maxRecDepth 100000 in
theorem c_X1_askAt (l : Launch) (E : zE) (b : Nat → Nat) (tl : va_W) (pd : Bool) (qt : Nat → Option Nat) (qr : Nat → Option Nat) (tbu : Nat → Int32) (wst : Nat → Int32) (asw : Nat → Int32) (pN : Int32) (tN : Int32) (aN : Int32) (hd : Int32) (dr : Int32) (pl : Int32) (rm : Int32) (ps : Int32) (wx : Nat → Int32) (pp : Nat → Option Nat) (tp : Nat → Option Nat) (ap : Nat → Option Nat) (sg : Nat → Int32) (uh : Int32) (ud : Int32) (up : Int32) (ur : Int32) (us : Int32) (ux : Nat → Int32) (G : zG) (n q : Nat) (r : Nat → Int32) (hC : InvC r) (haN : aN = nI (nA r)) (hn : n < nA r) (hq : ap n = some q) : Met l yX1_askAt (.code yX1_askAt cX1_askAt 2 (some (FieldType.object "FiddleBuzz$Ask")) :: AllW) (rm0' 0 0) (zP E (fun H => WW E (wK b E.2.1 tl pd qt qr tbu wst asw pN tN aN hd dr pl rm ps wx pp tp ap sg uh ud up ur us ux) G H) [.ref (b 6), .int (nI n)]) (rQ (.ref q)) 0 0 nF := by
  refine z_body (own := RX1) (by decide) rfl rfl ?_
  intro p e s m args below meth c ls cx hr hlk hnm hW hl
  have hx := cx.x
  have hb := cx.b
  have hl : lv_has ls 2 [(0, .ref (b 6)), (1, .int (nI n))] := hl
  have hA24 := (Inv.n2 hC).2
  refine lv_iload_n (pc := 0) hx hb dX1_askAt_0 rfl (lv_at hl 1 rfl) ?_
  refine lv_if_lt (pc := 1) (tgt := 27) hx hb dX1_askAt_1 (by decide) (fun c_1 => ?_) (fun c_1 => ?_)
  · skip
    exact absurd c_1 (nI_n0 (by omega))
  · skip
    refine lv_iload_n (pc := 4) hx hb dX1_askAt_4 rfl (lv_at hl 1 rfl) ?_
    refine lv_aload_n (pc := 5) hx hb dX1_askAt_5 rfl (lv_at hl 0 rfl) ?_
    refine z_get (pc := 6) cx (hW.at 6 rfl) (C := RX1) (T := TX1) (N := 8) rfl i_X1 2 rfl m_fl_X1_47 rfl dX1_askAt_6 ?_
    refine lv_icmp_ge (pc := 9) (tgt := 27) hx hb dX1_askAt_9 (by decide) (fun c_2 => ?_) (fun c_2 => ?_)
    · skip
      have h5 := ge_nat (a := n) rfl haN (by omega) (by omega) c_2
      omega
    · skip
      refine lv_iload_n (pc := 12) hx hb dX1_askAt_12 rfl (lv_at hl 1 rfl) ?_
      refine lv_bipush (pc := 13) (v := 24) hx hb dX1_askAt_13 (by decide) ?_
      refine lv_icmp_ge (pc := 15) (tgt := 27) hx hb dX1_askAt_15 (by decide) (fun c_3 => ?_) (fun c_3 => ?_)
      · skip
        have h5 := ge_nat (a := n) (b := 24) rfl rfl (by omega) (by omega) c_3
        omega
      · skip
        refine lv_aload_n (pc := 18) hx hb dX1_askAt_18 rfl (lv_at hl 0 rfl) ?_
        refine z_get (pc := 19) cx (hW.at 6 rfl) (C := RX1) (T := TX1) (N := 8) rfl i_X1 6 rfl m_fl_X1_32 rfl dX1_askAt_19 ?_
        refine lv_iload_n (pc := 22) hx hb dX1_askAt_22 rfl (lv_at hl 1 rfl) ?_
        refine z_aald (pc := 23) (f := ap) (j := n) cx 3 rfl (hW.at 11 rfl) rfl (by omega) (by decide) dX1_askAt_23 ?_
        refine z_rfS hq ?_
        refine lv_goto (pc := 24) (tgt := 28) hx hb dX1_askAt_24 (by decide) ?_
        exact z_aret cx hr hlk (Or.inl ⟨_, rfl⟩) (Or.inr ⟨_, rfl⟩) dX1_askAt_28 (by first | rfl | (simp [c_1, c_2, c_3]; done))
theorem k_X1_askAt {p : Program} {l : Launch} {e : Env} {R : Room} {s : State} {m : MethodId} {args : Array Value} {below : List Frame} {meth : Method} {c : Code} {H : Heap} {locs : List Loc} {cells slots : Nat} {Q : State → Prop} {cc : ByteArray} {pc index : Nat} {ls : Array Slot} {rest st0 : List Value} {E : zE} {own : String} {nL : Nat} {b : Nat → Nat} {tl : va_W} {pd : Bool} {qt : Nat → Option Nat} {qr : Nat → Option Nat} {tbu : Nat → Int32} {wst : Nat → Int32} {asw : Nat → Int32} {pN : Int32} {tN : Int32} {aN : Int32} {hd : Int32} {dr : Int32} {pl : Int32} {rm : Int32} {ps : Int32} {wx : Nat → Int32} {pp : Nat → Option Nat} {tp : Nat → Option Nat} {ap : Nat → Option Nat} {sg : Nat → Int32} {uh : Int32} {ud : Int32} {up : Int32} {ur : Int32} {us : Int32} {ux : Nat → Int32} {G : zG} {n q : Nat} {r : Nat → Int32} (cx : Cx E p s args m c own cc nL) (hW : WW E (wK b E.2.1 tl pd qt qr tbu wst asw pN tN aN hd dr pl rm ps wx pp tp ap sg uh ud up ur us ux) G H) (hC : InvC r) (haN : aN = nI (nA r)) (hn : n < nA r) (hq : ap n = some q) (zl : Cond.methodLink own index yX1_askAt ∈ AllW) (zR : 0 + 1 ≤ R.frames ∧ 8 + (2 + 11) + 0 ≤ R.locals) (zs : ls.size = nL) (zt : st0 = ([.int (nI n)] : List Value).reverse ++ .ref (b 6) :: rest) (z8 : (rest.map fun v => v.category).sum ≤ 8) (zd : decode cc pc = .ok (.invokevirtual index, 3)) (zf : cells ≤ R.cells ∧ slots ≤ R.slots) (kk : W p l e R s m args below meth c H locs cells slots Q (F0 m (pc + 3) ls (.ref q :: rest))) : W p l e R s m args below meth c H locs cells slots Q (F0 m pc ls st0) :=
  z_callV cx vm_X1_askAt (c_X1_askAt l E b tl pd qt qr tbu wst asw pN tN aN hd dr pl rm ps wx pp tp ap sg uh ud up ur us ux G n q r hC haN hn hq) (z_rec cx.2 (hW.at 6 rfl) rfl) hW zl ⟨rfl, rfl⟩ zR rfl zs zt z8 zd zf kk
theorem vm_X1_swingsInRow : zVm yX1_swingsInRow cX1_swingsInRow 3 (some FieldType.int) 0 := ⟨m_co_X1_swingsInRow, m_in_RX1, ⟨m_im_X1_swingsInRow, m_se_X1_X1_swingsInRow⟩, by decide +kernel, by decide +kernel, by decide +kernel⟩
set_option maxHeartbeats 1000000 in
set_option maxRecDepth 100000 in
theorem c_X1_swingsInRow (l : Launch) (E : zE) (b : Nat → Nat) (tl : va_W) (pd : Bool) (qt : Nat → Option Nat) (qr : Nat → Option Nat) (tbu : Nat → Int32) (wst : Nat → Int32) (asw : Nat → Int32) (pN : Int32) (tN : Int32) (aN : Int32) (hd : Int32) (dr : Int32) (pl : Int32) (rm : Int32) (ps : Int32) (wx : Nat → Int32) (pp : Nat → Option Nat) (tp : Nat → Option Nat) (ap : Nat → Option Nat) (sg : Nat → Int32) (uh : Int32) (ud : Int32) (up : Int32) (ur : Int32) (us : Int32) (ux : Nat → Int32) (G : zG) (r : Nat → Int32) (hC : InvC r) (hpN : pN = nI (nP r)) : Met l yX1_swingsInRow (.code yX1_swingsInRow cX1_swingsInRow 3 (some FieldType.int) :: AllW) (rm0' 0 0) (zP E (fun H => WW E (wK b E.2.1 tl pd qt qr tbu wst asw pN tN aN hd dr pl rm ps wx pp tp ap sg uh ud up ur us ux) G H) [.ref (b 6)]) (rQ (.int (sumN sg (nP r)))) 0 0 nF := by
  refine z_body (own := RX1) (by decide) rfl rfl ?_
  intro p e s m args below meth c ls cx hr hlk hnm hW hl
  have hx := cx.x
  have hb := cx.b
  have hl : lv_has ls 3 [(0, .ref (b 6))] := hl
  have hP10 := (Inv.n0 hC).2
  refine lv_iconst (pc := 0) (v := 0) hx hb dX1_swingsInRow_0 (by decide) ?_
  refine lv_istore_n (pc := 1) (lv' := [(1, .int 0), (0, .ref (b 6))]) hx hb dX1_swingsInRow_1 rfl hl (by decide) rfl (fun ls hl => ?_)
  refine lv_iconst (pc := 2) (v := 0) hx hb dX1_swingsInRow_2 (by decide) ?_
  refine lv_istore_n (pc := 3) (lv' := [(2, .int 0), (1, .int 0), (0, .ref (b 6))]) hx hb dX1_swingsInRow_3 rfl hl (by decide) rfl (fun ls hl => ?_)
  have loop_4 : ∀ (k_4 : Nat) (i : Nat) (x2 : Int32) (x1 : Int32), (nP r - i) < k_4 → (i ≤ nP r) → x2 = nI i → x1 = sumN sg i → ∀ (ls : Array Slot), lv_has ls 3 [(2, .int x2), (1, .int x1), (0, .ref (b 6))] → W p l e (rm0' (0) (0)) s m args below meth c s.heap [] 0 0 (MQ below (rQ (.int (sumN sg (nP r)))) args s 0 0 nF) (F0 m 4 ls []) := by
    intro k_4
    induction k_4 with
    | zero =>
      intro i x2 x1 hm
      exact absurd hm (Nat.not_lt_zero _)
    | succ k_4 ih_4 =>
      intro i x2 x1 hm_4 hi e_x2 e_x1  ls hl
      subst e_x2
      subst e_x1
      refine lv_iload_n (pc := 4) hx hb dX1_swingsInRow_4 rfl (lv_at hl 0 rfl) ?_
      refine lv_aload_n (pc := 5) hx hb dX1_swingsInRow_5 rfl (lv_at hl 2 rfl) ?_
      refine z_get (pc := 6) cx (hW.at 6 rfl) (C := RX1) (T := TX1) (N := 8) rfl i_X1 0 rfl m_fl_X1_40 rfl dX1_swingsInRow_6 ?_
      refine lv_icmp_ge (pc := 9) (tgt := 33) hx hb dX1_swingsInRow_9 (by decide) (fun c_1 => ?_) (fun c_1 => ?_)
      · skip
        obtain rfl : i = nP r := by have := ge_nat (a := i) rfl hpN (by omega) (by omega) c_1; omega
        refine lv_iload_n (pc := 33) hx hb dX1_swingsInRow_33 rfl (lv_at hl 1 rfl) ?_
        exact z_iret cx hr hlk dX1_swingsInRow_34 (by first | rfl | (simp [sumN]; done))
      · skip
        have hlt_i := lt_nat (a := i) rfl hpN (by omega) (by omega) c_1
        refine lv_iload_n (pc := 12) hx hb dX1_swingsInRow_12 rfl (lv_at hl 0 rfl) ?_
        refine lv_bipush (pc := 13) (v := 10) hx hb dX1_swingsInRow_13 (by decide) ?_
        refine lv_icmp_ge (pc := 15) (tgt := 33) hx hb dX1_swingsInRow_15 (by decide) (fun c_2 => ?_) (fun c_2 => ?_)
        · skip
          have h5 := ge_nat (a := i) (b := 10) rfl rfl (by omega) (by omega) c_2
          omega
        · skip
          refine lv_iload_n (pc := 18) hx hb dX1_swingsInRow_18 rfl (lv_at hl 1 rfl) ?_
          refine lv_aload_n (pc := 19) hx hb dX1_swingsInRow_19 rfl (lv_at hl 2 rfl) ?_
          refine z_get (pc := 20) cx (hW.at 6 rfl) (C := RX1) (T := TX1) (N := 8) rfl i_X1 7 rfl m_fl_X1_36 rfl dX1_swingsInRow_20 ?_
          refine lv_iload_n (pc := 23) hx hb dX1_swingsInRow_23 rfl (lv_at hl 0 rfl) ?_
          refine z_iald (pc := 24) (f := sg) (j := i) cx (hW.at 12 rfl) rfl (by omega) (by decide) dX1_swingsInRow_24 ?_
          refine lv_iadd (pc := 25) hx hb dX1_swingsInRow_25 ?_
          refine lv_istore_n (pc := 26) (lv' := [(1, .int ((sumN sg i) + (sg i))), (2, .int (nI i)), (0, .ref (b 6))]) hx hb dX1_swingsInRow_26 rfl hl (by decide) rfl (fun ls hl => ?_)
          refine lv_iinc (pc := 27) (v := nI (i + 1)) (lv' := [(2, .int (nI (i + 1))), (1, .int ((sumN sg i) + (sg i))), (0, .ref (b 6))]) hx hb dX1_swingsInRow_27 hl (k := 1) rfl (nI_1 _) (by decide) rfl (fun ls hl => ?_)
          refine lv_goto (pc := 30) (tgt := 4) hx hb dX1_swingsInRow_30 (by decide) ?_
          exact ih_4 (i + 1) (nI (i + 1)) ((sumN sg i) + (sg i)) (by omega) (by omega) (by first | rfl | (simp [sumN]; done)) (by first | rfl | (simp [sumN]; done)) ls (lv_sub hl [0, 1, 2] rfl)
  exact loop_4 ((nP r - 0) + 1) 0 0 0 (Nat.lt_succ_self _) (by omega) (by first | rfl | (simp [sumN]; done)) (by first | rfl | (simp [sumN]; done)) ls (lv_sub hl [0, 1, 2] rfl)
theorem k_X1_swingsInRow {p : Program} {l : Launch} {e : Env} {R : Room} {s : State} {m : MethodId} {args : Array Value} {below : List Frame} {meth : Method} {c : Code} {H : Heap} {locs : List Loc} {cells slots : Nat} {Q : State → Prop} {cc : ByteArray} {pc index : Nat} {ls : Array Slot} {rest st0 : List Value} {E : zE} {own : String} {nL : Nat} {b : Nat → Nat} {tl : va_W} {pd : Bool} {qt : Nat → Option Nat} {qr : Nat → Option Nat} {tbu : Nat → Int32} {wst : Nat → Int32} {asw : Nat → Int32} {pN : Int32} {tN : Int32} {aN : Int32} {hd : Int32} {dr : Int32} {pl : Int32} {rm : Int32} {ps : Int32} {wx : Nat → Int32} {pp : Nat → Option Nat} {tp : Nat → Option Nat} {ap : Nat → Option Nat} {sg : Nat → Int32} {uh : Int32} {ud : Int32} {up : Int32} {ur : Int32} {us : Int32} {ux : Nat → Int32} {G : zG} {r : Nat → Int32} (cx : Cx E p s args m c own cc nL) (hW : WW E (wK b E.2.1 tl pd qt qr tbu wst asw pN tN aN hd dr pl rm ps wx pp tp ap sg uh ud up ur us ux) G H) (hC : InvC r) (hpN : pN = nI (nP r)) (zl : Cond.methodLink own index yX1_swingsInRow ∈ AllW) (zR : 0 + 1 ≤ R.frames ∧ 8 + (3 + 11) + 0 ≤ R.locals) (zs : ls.size = nL) (zt : st0 = ([] : List Value).reverse ++ .ref (b 6) :: rest) (z8 : (rest.map fun v => v.category).sum ≤ 8) (zd : decode cc pc = .ok (.invokevirtual index, 3)) (zf : cells ≤ R.cells ∧ slots ≤ R.slots) (kk : W p l e R s m args below meth c H locs cells slots Q (F0 m (pc + 3) ls (.int (sumN sg (nP r)) :: rest))) : W p l e R s m args below meth c H locs cells slots Q (F0 m pc ls st0) :=
  z_callV cx vm_X1_swingsInRow (c_X1_swingsInRow l E b tl pd qt qr tbu wst asw pN tN aN hd dr pl rm ps wx pp tp ap sg uh ud up ur us ux G r hC hpN) (z_rec cx.2 (hW.at 6 rfl) rfl) hW zl ⟨rfl, rfl⟩ zR rfl zs zt z8 zd zf kk
theorem vm_X1_lossNow : zVm yX1_lossNow cX1_lossNow 4 (some FieldType.int) 2 := ⟨m_co_X1_lossNow, m_in_RX1, ⟨m_im_X1_lossNow, m_se_X1_X1_lossNow⟩, by decide +kernel, by decide +kernel, by decide +kernel⟩
set_option maxHeartbeats 1000000 in
set_option maxRecDepth 100000 in
theorem c_X1_lossNow (l : Launch) (E : zE) (b : Nat → Nat) (tl : va_W) (pd : Bool) (qt : Nat → Option Nat) (qr : Nat → Option Nat) (tbu : Nat → Int32) (wst : Nat → Int32) (asw : Nat → Int32) (pN : Int32) (tN : Int32) (aN : Int32) (hd : Int32) (dr : Int32) (pl : Int32) (rm : Int32) (ps : Int32) (wx : Nat → Int32) (pp : Nat → Option Nat) (tp : Nat → Option Nat) (ap : Nat → Option Nat) (sg : Nat → Int32) (uh : Int32) (ud : Int32) (up : Int32) (ur : Int32) (us : Int32) (ux : Nat → Int32) (G : zG) (n t w : Nat) (r xw : Nat → Int32) (hI : Inv r) (hpN : pN = nI (nP r)) (hPc : PcG G r pp) (hn : n < nP r) (hAt : ∀ (sg3 : Nat → Int32) (H : Heap), WW E (wK b E.2.1 tl pd qt qr tbu wst asw pN tN aN hd dr pl rm ps wx pp tp ap sg3 uh ud up ur us ux) G H → StA E H t w r xw) : Met l yX1_lossNow (.code yX1_lossNow cX1_lossNow 4 (some FieldType.int) :: AllW) (rm0' 1 21) (zP E (fun H => WW E (wK b E.2.1 tl pd qt qr tbu wst asw pN tN aN hd dr pl rm ps wx pp tp ap sg uh ud up ur us ux) G H) [.ref (b 6), .int (nI n), .ref t]) (rQ (.int (lsN r n))) 0 0 nF := by
  refine z_body (own := RX1) (by decide) rfl rfl ?_
  intro p e s m args below meth c ls cx hr hlk hnm hW hl
  have hx := cx.x
  have hb := cx.b
  have hl : lv_has ls 4 [(0, .ref (b 6)), (1, .int (nI n)), (2, .ref t)] := hl
  have hC := hI.1
  have hIS := hI.2.1
  have hP := hI.2.2.1
  have hT := hI.2.2.2.1
  have hP10 := (Inv.n0 hC).2
  have hT7 := (Inv.n1 hC).2
  have hA24 := (Inv.n2 hC).2
  have e0 := (Inv.n0 hC).1
  have e1 := (Inv.n1 hC).1
  have e2 := (Inv.n2 hC).1
  refine lv_aload_n (pc := 0) hx hb dX1_lossNow_0 rfl (lv_at hl 0 rfl) ?_
  refine lv_iload_n (pc := 1) hx hb dX1_lossNow_1 rfl (lv_at hl 1 rfl) ?_
  obtain ⟨q1, h1q1, h2q1⟩ := hPc n hn
  refine k_X1_isPiece (pc := 2) (x := nI n) cx hW (by first | assumption | omega) (by first | assumption | omega) m_ml_X1_54 ⟨Nat.le_of_ble_eq_true rfl, Nat.le_of_ble_eq_true rfl⟩ hl.1 rfl (by simp [Value.category]) dX1_lossNow_2 ⟨Nat.le_refl _, Nat.le_refl _⟩ ?_
  refine z_ifeq (pc := 5) (tgt := 17) hx hb dX1_lossNow_5 (by decide) (fun c_1 => ?_) (fun c_1 => ?_)
  · skip
    exact absurd ((isP_n hC hn).symm.trans c_1) (by decide)
  · skip
    refine lv_aload_n (pc := 8) hx hb dX1_lossNow_8 rfl (lv_at hl 0 rfl) ?_
    refine z_get (pc := 9) cx (hW.at 6 rfl) (C := RX1) (T := TX1) (N := 8) rfl i_X1 4 rfl m_fl_X1_20 rfl dX1_lossNow_9 ?_
    refine lv_iload_n (pc := 12) hx hb dX1_lossNow_12 rfl (lv_at hl 1 rfl) ?_
    refine z_aald (pc := 13) (f := pp) (j := n) cx 1 rfl (hW.at 9 rfl) rfl (by omega) (by decide) dX1_lossNow_13 ?_
    refine z_rfS h1q1 ?_
    refine lv_goto (pc := 14) (tgt := 18) hx hb dX1_lossNow_14 (by decide) ?_
    refine lv_astore_n (pc := 18) (lv' := [(3, .ref q1), (0, .ref (b 6)), (1, .int (nI n)), (2, .ref t)]) hx hb dX1_lossNow_18 rfl hl (by decide) rfl (fun ls hl => ?_)
    refine lv_aload_n (pc := 19) hx hb dX1_lossNow_19 rfl (lv_at hl 0 rfl) ?_
    refine lv_ifnonnull (pc := 20) (tgt := 27) hx hb dX1_lossNow_20 (by decide) ?_
    refine lv_aload_n (pc := 27) hx hb dX1_lossNow_27 rfl (lv_at hl 0 rfl) ?_
    refine lv_aload_n (pc := 28) hx hb dX1_lossNow_28 rfl (lv_at hl 3 rfl) ?_
    refine z_get (pc := 29) cx ((hAt _ _ hW).1) (C := RX5) (T := TX5) (N := 6) rfl i_X5 0 rfl m_fl_X1_106 rfl dX1_lossNow_29 ?_
    refine lv_iload_n (pc := 32) hx hb dX1_lossNow_32 rfl (lv_at hl 2 rfl) ?_
    refine lv_icmp_ne (pc := 33) (tgt := 40) hx hb dX1_lossNow_33 (by decide) (fun c_2 => ?_) (fun c_2 => ?_)
    · skip
      have hls := ls_f hI hn c_2
      refine lv_iconst (pc := 40) (v := 0) hx hb dX1_lossNow_40 (by decide) ?_
      refine k_X2_lossHeld (pc := 41) (h := false) cx (hW.dyn h2q1)  m_ml_X1_109 ⟨Nat.le_of_ble_eq_true rfl, Nat.le_of_ble_eq_true rfl⟩ hl.1 rfl (by simp [Value.category]) dX1_lossNow_41 ⟨Nat.le_refl _, Nat.le_refl _⟩ ?_
      exact z_iret cx hr hlk dX1_lossNow_44 hls
    · skip
      have hls := ls_t hI hn c_2
      refine lv_iconst (pc := 36) (v := 1) hx hb dX1_lossNow_36 (by decide) ?_
      refine lv_goto (pc := 37) (tgt := 41) hx hb dX1_lossNow_37 (by decide) ?_
      refine k_X2_lossHeld (pc := 41) (h := true) cx (hW.dyn h2q1)  m_ml_X1_109 ⟨Nat.le_of_ble_eq_true rfl, Nat.le_of_ble_eq_true rfl⟩ hl.1 rfl (by simp [Value.category]) dX1_lossNow_41 ⟨Nat.le_refl _, Nat.le_refl _⟩ ?_
      exact z_iret cx hr hlk dX1_lossNow_44 hls
theorem k_X1_lossNow {p : Program} {l : Launch} {e : Env} {R : Room} {s : State} {m : MethodId} {args : Array Value} {below : List Frame} {meth : Method} {c : Code} {H : Heap} {locs : List Loc} {cells slots : Nat} {Q : State → Prop} {cc : ByteArray} {pc index : Nat} {ls : Array Slot} {rest st0 : List Value} {E : zE} {own : String} {nL : Nat} {b : Nat → Nat} {tl : va_W} {pd : Bool} {qt : Nat → Option Nat} {qr : Nat → Option Nat} {tbu : Nat → Int32} {wst : Nat → Int32} {asw : Nat → Int32} {pN : Int32} {tN : Int32} {aN : Int32} {hd : Int32} {dr : Int32} {pl : Int32} {rm : Int32} {ps : Int32} {wx : Nat → Int32} {pp : Nat → Option Nat} {tp : Nat → Option Nat} {ap : Nat → Option Nat} {sg : Nat → Int32} {uh : Int32} {ud : Int32} {up : Int32} {ur : Int32} {us : Int32} {ux : Nat → Int32} {G : zG} {n t w : Nat} {r xw : Nat → Int32} (cx : Cx E p s args m c own cc nL) (hW : WW E (wK b E.2.1 tl pd qt qr tbu wst asw pN tN aN hd dr pl rm ps wx pp tp ap sg uh ud up ur us ux) G H) (hI : Inv r) (hpN : pN = nI (nP r)) (hPc : PcG G r pp) (hn : n < nP r) (hAt : ∀ (sg3 : Nat → Int32) (H : Heap), WW E (wK b E.2.1 tl pd qt qr tbu wst asw pN tN aN hd dr pl rm ps wx pp tp ap sg3 uh ud up ur us ux) G H → StA E H t w r xw) (zl : Cond.methodLink own index yX1_lossNow ∈ AllW) (zR : 1 + 1 ≤ R.frames ∧ 8 + (4 + 11) + 21 ≤ R.locals) (zs : ls.size = nL) (zt : st0 = ([.int (nI n), .ref t] : List Value).reverse ++ .ref (b 6) :: rest) (z8 : (rest.map fun v => v.category).sum ≤ 8) (zd : decode cc pc = .ok (.invokevirtual index, 3)) (zf : cells ≤ R.cells ∧ slots ≤ R.slots) (kk : W p l e R s m args below meth c H locs cells slots Q (F0 m (pc + 3) ls (.int (lsN r n) :: rest))) : W p l e R s m args below meth c H locs cells slots Q (F0 m pc ls st0) :=
  z_callV cx vm_X1_lossNow (c_X1_lossNow l E b tl pd qt qr tbu wst asw pN tN aN hd dr pl rm ps wx pp tp ap sg uh ud up ur us ux G n t w r xw hI hpN hPc hn hAt) (z_rec cx.2 (hW.at 6 rfl) rfl) hW zl ⟨rfl, rfl⟩ zR rfl zs zt z8 zd zf kk
theorem vm_X1_strikesOf : zVm yX1_strikesOf cX1_strikesOf 5 (some FieldType.int) 3 := ⟨m_co_X1_strikesOf, m_in_RX1, ⟨m_im_X1_strikesOf, m_se_X1_X1_strikesOf⟩, by decide +kernel, by decide +kernel, by decide +kernel⟩
set_option maxHeartbeats 1000000 in
set_option maxRecDepth 100000 in
theorem c_X1_strikesOf (l : Launch) (E : zE) (b : Nat → Nat) (tl : va_W) (pd : Bool) (qt : Nat → Option Nat) (qr : Nat → Option Nat) (tbu : Nat → Int32) (wst : Nat → Int32) (asw : Nat → Int32) (pN : Int32) (tN : Int32) (aN : Int32) (hd : Int32) (dr : Int32) (pl : Int32) (rm : Int32) (ps : Int32) (wx : Nat → Int32) (pp : Nat → Option Nat) (tp : Nat → Option Nat) (ap : Nat → Option Nat) (sg : Nat → Int32) (uh : Int32) (ud : Int32) (up : Int32) (ur : Int32) (us : Int32) (ux : Nat → Int32) (G : zG) (q n : Nat) (gap : Int32) (t w : Nat) (r xw : Nat → Int32) (hI : Inv r) (hpN : pN = nI (nP r)) (hPc : PcG G r pp) (hn : n < nT r) (hq : G q = some (ceT (nI n) (g5 r n 0) (g5 r n 1) (g5 r n 2) (g5 r n 3) (g5 r n 4))) (hAt : ∀ (sg3 : Nat → Int32) (H : Heap), WW E (wK b E.2.1 tl pd qt qr tbu wst asw pN tN aN hd dr pl rm ps wx pp tp ap sg3 uh ud up ur us ux) G H → StA E H t w r xw) : Met l yX1_strikesOf (.code yX1_strikesOf cX1_strikesOf 5 (some FieldType.int) :: AllW) (rm0' 2 44) (zP E (fun H => WW E (wK b E.2.1 tl pd qt qr tbu wst asw pN tN aN hd dr pl rm ps wx pp tp ap sg uh ud up ur us ux) G H) [.ref (b 6), .ref q, .int gap, .ref t]) (rQ (.int (stW r n gap (r 4)))) 0 0 nF := by
  refine z_body (own := RX1) (by decide) rfl rfl ?_
  intro p e s m args below meth c ls cx hr hlk hnm hW hl
  have hx := cx.x
  have hb := cx.b
  have hl : lv_has ls 5 [(0, .ref (b 6)), (1, .ref q), (2, .int gap), (3, .ref t)] := hl
  have hC := hI.1
  have hIS := hI.2.1
  have hP := hI.2.2.1
  have hT := hI.2.2.2.1
  have hP10 := (Inv.n0 hC).2
  have hT7 := (Inv.n1 hC).2
  have hA24 := (Inv.n2 hC).2
  have e0 := (Inv.n0 hC).1
  have e1 := (Inv.n1 hC).1
  have e2 := (Inv.n2 hC).1
  refine lv_iconst (pc := 0) (v := 1) hx hb dX1_strikesOf_0 (by decide) ?_
  refine lv_iload_n (pc := 1) hx hb dX1_strikesOf_1 rfl (lv_at hl 2 rfl) ?_
  refine lv_aload_n (pc := 2) hx hb dX1_strikesOf_2 rfl (lv_at hl 3 rfl) ?_
  refine z_get (pc := 3) cx ((hAt _ _ hW).1) (C := RX5) (T := TX5) (N := 6) rfl i_X5 1 rfl m_fl_X1_158 rfl dX1_strikesOf_3 ?_
  refine lv_aload_n (pc := 6) hx hb dX1_strikesOf_6 rfl (lv_at hl 1 rfl) ?_
  refine z_get (pc := 7) cx (hW.dyn hq) (C := RX6) (T := TX6) (N := 6) rfl i_X6 4 rfl m_fl_X1_155 rfl dX1_strikesOf_7 ?_
  refine lv_imul (pc := 10) hx hb dX1_strikesOf_10 ?_
  refine lv_isub (pc := 11) hx hb dX1_strikesOf_11 ?_
  refine z_mmax (pc := 12) cx hl.1 m_ml_X1_142 ⟨Nat.le_of_ble_eq_true rfl, Nat.le_of_ble_eq_true rfl⟩ (by simp [Value.category]) ⟨Nat.le_refl _, Nat.le_refl _⟩ dX1_strikesOf_12 ?_
  refine z_tope (y := smW r n gap (r 4)) rfl ?_
  refine lv_istore (pc := 15) (lv' := [(4, .int (smW r n gap (r 4))), (0, .ref (b 6)), (1, .ref q), (2, .int gap), (3, .ref t)]) hx hb dX1_strikesOf_15 hl (by decide) rfl (fun ls hl => ?_)
  refine lv_aload_n (pc := 17) hx hb dX1_strikesOf_17 rfl (lv_at hl 2 rfl) ?_
  refine z_get (pc := 18) cx (hW.dyn hq) (C := RX6) (T := TX6) (N := 6) rfl i_X6 1 rfl m_fl_X1_132 rfl dX1_strikesOf_18 ?_
  by_cases c_1 : g5 r n 0 = 1
  · rw [c_1]
    refine lv_tableIn (pc := 21) (tgt := 60) hx hb dX1_strikesOf_21 (by decide) (by decide) rfl (by decide) ?_
    refine lv_iload (pc := 60) hx hb dX1_strikesOf_60 (lv_at hl 0 rfl) ?_
    exact z_iret cx hr hlk dX1_strikesOf_62 (by first | rfl | (simp [stW, mxI, c_1]; done))
  by_cases c_2 : g5 r n 0 = 2
  · rw [c_2]
    refine lv_tableIn (pc := 21) (tgt := 94) hx hb dX1_strikesOf_21 (by decide) (by decide) rfl (by decide) ?_
    refine lv_iload_n (pc := 94) hx hb dX1_strikesOf_94 rfl (lv_at hl 3 rfl) ?_
    exact z_iret cx hr hlk dX1_strikesOf_95 (by first | rfl | (simp [stW, mxI, c_1, c_2]; done))
  by_cases c_3 : g5 r n 0 = 3
  · rw [c_3]
    refine lv_tableIn (pc := 21) (tgt := 63) hx hb dX1_strikesOf_21 (by decide) (by decide) rfl (by decide) ?_
    refine lv_iload_n (pc := 63) hx hb dX1_strikesOf_63 rfl (lv_at hl 3 rfl) ?_
    refine lv_bipush (pc := 64) (v := 10) hx hb dX1_strikesOf_64 (by decide) ?_
    refine lv_aload_n (pc := 66) hx hb dX1_strikesOf_66 rfl (lv_at hl 2 rfl) ?_
    refine z_get (pc := 67) cx (hW.dyn hq) (C := RX6) (T := TX6) (N := 6) rfl i_X6 4 rfl m_fl_X1_155 rfl dX1_strikesOf_67 ?_
    refine lv_imul (pc := 70) hx hb dX1_strikesOf_70 ?_
    refine lv_iadd (pc := 71) hx hb dX1_strikesOf_71 ?_
    exact z_iret cx hr hlk dX1_strikesOf_72 (by first | rfl | (simp [stW, mxI, c_1, c_2, c_3]; done))
  by_cases c_4 : g5 r n 0 = 4
  · rw [c_4]
    refine lv_tableIn (pc := 21) (tgt := 73) hx hb dX1_strikesOf_21 (by decide) (by decide) rfl (by decide) ?_
    refine lv_iconst (pc := 73) (v := 1) hx hb dX1_strikesOf_73 (by decide) ?_
    refine lv_iload (pc := 74) hx hb dX1_strikesOf_74 (lv_at hl 0 rfl) ?_
    refine lv_iconst (pc := 76) (v := 2) hx hb dX1_strikesOf_76 (by decide) ?_
    refine lv_idiv (pc := 77) hx hb dX1_strikesOf_77 (by decide) ?_
    refine z_mmax (pc := 78) cx hl.1 m_ml_X1_142 ⟨Nat.le_of_ble_eq_true rfl, Nat.le_of_ble_eq_true rfl⟩ (by simp [Value.category]) ⟨Nat.le_refl _, Nat.le_refl _⟩ dX1_strikesOf_78 ?_
    exact z_iret cx hr hlk dX1_strikesOf_81 (by first | rfl | (simp [stW, mxI, c_1, c_2, c_3, c_4]; done))
  by_cases c_5 : g5 r n 0 = 5
  · rw [c_5]
    refine lv_tableIn (pc := 21) (tgt := 94) hx hb dX1_strikesOf_21 (by decide) (by decide) rfl (by decide) ?_
    refine lv_iload_n (pc := 94) hx hb dX1_strikesOf_94 rfl (lv_at hl 3 rfl) ?_
    exact z_iret cx hr hlk dX1_strikesOf_95 (by first | rfl | (simp [stW, mxI, c_1, c_2, c_3, c_4, c_5]; done))
  by_cases c_6 : g5 r n 0 = 6
  · rw [c_6]
    refine lv_tableIn (pc := 21) (tgt := 82) hx hb dX1_strikesOf_21 (by decide) (by decide) rfl (by decide) ?_
    refine lv_iload_n (pc := 82) hx hb dX1_strikesOf_82 rfl (lv_at hl 3 rfl) ?_
    refine lv_aload_n (pc := 83) hx hb dX1_strikesOf_83 rfl (lv_at hl 1 rfl) ?_
    refine lv_aload_n (pc := 84) hx hb dX1_strikesOf_84 rfl (lv_at hl 2 rfl) ?_
    refine z_get (pc := 85) cx (hW.dyn hq) (C := RX6) (T := TX6) (N := 6) rfl i_X6 2 rfl m_fl_X1_135 rfl dX1_strikesOf_85 ?_
    refine z_tope (y := nI (onN r n)) (on_nat hC hT hn).2 ?_
    refine lv_aload_n (pc := 88) hx hb dX1_strikesOf_88 rfl (lv_at hl 4 rfl) ?_
    refine k_X1_lossNow (pc := 89) (n := onN r n) (t := t) cx hW hI hpN hPc (on_nat hC hT hn).1 hAt m_ml_X1_161 ⟨Nat.le_of_ble_eq_true rfl, Nat.le_of_ble_eq_true rfl⟩ hl.1 rfl (by simp [Value.category]) dX1_strikesOf_89 ⟨Nat.le_refl _, Nat.le_refl _⟩ ?_
    refine lv_iadd (pc := 92) hx hb dX1_strikesOf_92 ?_
    exact z_iret cx hr hlk dX1_strikesOf_93 (by first | rfl | (simp [stW, mxI, c_1, c_2, c_3, c_4, c_5, c_6]; done))
  refine lv_tableOut (pc := 21) (tgt := 94) hx hb dX1_strikesOf_21 (by have := lv_neT c_1 (a := 1) (by decide); have := lv_neT c_2 (a := 2) (by decide); have := lv_neT c_3 (a := 3) (by decide); have := lv_neT c_4 (a := 4) (by decide); have := lv_neT c_5 (a := 5) (by decide); have := lv_neT c_6 (a := 6) (by decide); omega) (by decide) ?_
  refine lv_iload_n (pc := 94) hx hb dX1_strikesOf_94 rfl (lv_at hl 3 rfl) ?_
  exact z_iret cx hr hlk dX1_strikesOf_95 (by first | rfl | (simp [stW, mxI, c_1, c_2, c_3, c_4, c_5, c_6]; done))
theorem k_X1_strikesOf {p : Program} {l : Launch} {e : Env} {R : Room} {s : State} {m : MethodId} {args : Array Value} {below : List Frame} {meth : Method} {c : Code} {H : Heap} {locs : List Loc} {cells slots : Nat} {Q : State → Prop} {cc : ByteArray} {pc index : Nat} {ls : Array Slot} {rest st0 : List Value} {E : zE} {own : String} {nL : Nat} {b : Nat → Nat} {tl : va_W} {pd : Bool} {qt : Nat → Option Nat} {qr : Nat → Option Nat} {tbu : Nat → Int32} {wst : Nat → Int32} {asw : Nat → Int32} {pN : Int32} {tN : Int32} {aN : Int32} {hd : Int32} {dr : Int32} {pl : Int32} {rm : Int32} {ps : Int32} {wx : Nat → Int32} {pp : Nat → Option Nat} {tp : Nat → Option Nat} {ap : Nat → Option Nat} {sg : Nat → Int32} {uh : Int32} {ud : Int32} {up : Int32} {ur : Int32} {us : Int32} {ux : Nat → Int32} {G : zG} {q n : Nat} {gap : Int32} {t w : Nat} {r xw : Nat → Int32} (cx : Cx E p s args m c own cc nL) (hW : WW E (wK b E.2.1 tl pd qt qr tbu wst asw pN tN aN hd dr pl rm ps wx pp tp ap sg uh ud up ur us ux) G H) (hI : Inv r) (hpN : pN = nI (nP r)) (hPc : PcG G r pp) (hn : n < nT r) (hq : G q = some (ceT (nI n) (g5 r n 0) (g5 r n 1) (g5 r n 2) (g5 r n 3) (g5 r n 4))) (hAt : ∀ (sg3 : Nat → Int32) (H : Heap), WW E (wK b E.2.1 tl pd qt qr tbu wst asw pN tN aN hd dr pl rm ps wx pp tp ap sg3 uh ud up ur us ux) G H → StA E H t w r xw) (zl : Cond.methodLink own index yX1_strikesOf ∈ AllW) (zR : 2 + 1 ≤ R.frames ∧ 8 + (5 + 11) + 44 ≤ R.locals) (zs : ls.size = nL) (zt : st0 = ([.ref q, .int gap, .ref t] : List Value).reverse ++ .ref (b 6) :: rest) (z8 : (rest.map fun v => v.category).sum ≤ 8) (zd : decode cc pc = .ok (.invokevirtual index, 3)) (zf : cells ≤ R.cells ∧ slots ≤ R.slots) (kk : W p l e R s m args below meth c H locs cells slots Q (F0 m (pc + 3) ls (.int (stW r n gap (r 4)) :: rest))) : W p l e R s m args below meth c H locs cells slots Q (F0 m pc ls st0) :=
  z_callV cx vm_X1_strikesOf (c_X1_strikesOf l E b tl pd qt qr tbu wst asw pN tN aN hd dr pl rm ps wx pp tp ap sg uh ud up ur us ux G q n gap t w r xw hI hpN hPc hn hq hAt) (z_rec cx.2 (hW.at 6 rfl) rfl) hW zl ⟨rfl, rfl⟩ zR rfl zs zt z8 zd zf kk
theorem vm_X1_swingsOf : zVm yX1_swingsOf cX1_swingsOf 5 (some FieldType.int) 4 := ⟨m_co_X1_swingsOf, m_in_RX1, ⟨m_im_X1_swingsOf, m_se_X1_X1_swingsOf⟩, by decide +kernel, by decide +kernel, by decide +kernel⟩
set_option maxHeartbeats 1000000 in
set_option maxRecDepth 100000 in
theorem c_X1_swingsOf (l : Launch) (E : zE) (b : Nat → Nat) (tl : va_W) (pd : Bool) (qt : Nat → Option Nat) (qr : Nat → Option Nat) (tbu : Nat → Int32) (wst : Nat → Int32) (asw : Nat → Int32) (pN : Int32) (tN : Int32) (aN : Int32) (hd : Int32) (dr : Int32) (pl : Int32) (rm : Int32) (ps : Int32) (wx : Nat → Int32) (pp : Nat → Option Nat) (tp : Nat → Option Nat) (ap : Nat → Option Nat) (sg : Nat → Int32) (uh : Int32) (ud : Int32) (up : Int32) (ur : Int32) (us : Int32) (ux : Nat → Int32) (G : zG) (q n : Nat) (f st : Int32) (t w : Nat) (r xw : Nat → Int32) (hI : Inv r) (hpN : pN = nI (nP r)) (hPc : PcG G r pp) (hn : n < nT r) (hf : rg f 1 1200) (hq : G q = some (ceT (nI n) (g5 r n 0) (g5 r n 1) (g5 r n 2) (g5 r n 3) (g5 r n 4))) (hAt : ∀ (sg3 : Nat → Int32) (H : Heap), WW E (wK b E.2.1 tl pd qt qr tbu wst asw pN tN aN hd dr pl rm ps wx pp tp ap sg3 uh ud up ur us ux) G H → StA E H t w r xw) : Met l yX1_swingsOf (.code yX1_swingsOf cX1_swingsOf 5 (some FieldType.int) :: AllW) (rm0' 3 71) (zP E (fun H => WW E (wK b E.2.1 tl pd qt qr tbu wst asw pN tN aN hd dr pl rm ps wx pp tp ap sg uh ud up ur us ux) G H) [.ref (b 6), .ref q, .ref t, .int f, .int st]) (zQ (fun (_ : Heap) (v : Option Value) (H1 : Heap) => (∃ (sg2 : Nat → Int32), v = some (.int (swT r n f st)) ∧ WW E (wK b E.2.1 tl pd qt qr tbu wst asw pN tN aN hd dr pl rm ps wx pp tp ap sg2 uh ud up ur us ux) G H1)) (bF b)) 0 0 (bF b) := by
  refine z_body (own := RX1) (by decide) rfl rfl ?_
  intro p e s m args below meth c ls cx hr hlk hnm hW hl
  have hx := cx.x
  have hb := cx.b
  have hl : lv_has ls 5 [(0, .ref (b 6)), (1, .ref q), (2, .ref t), (3, .int f), (4, .int st)] := hl
  have hFb : ∀ k, (bF b) (b k) := fun k => bF_in b k
  have hS : va_S (bF b) s.heap s.heap [] := va_S.rf
  have hC := hI.1
  have hIS := hI.2.1
  have hP := hI.2.2.1
  have hT := hI.2.2.2.1
  have hP10 := (Inv.n0 hC).2
  have hT7 := (Inv.n1 hC).2
  have hA24 := (Inv.n2 hC).2
  have e0 := (Inv.n0 hC).1
  have e1 := (Inv.n1 hC).1
  have e2 := (Inv.n2 hC).1
  refine lv_aload_n (pc := 0) hx hb dX1_swingsOf_0 rfl (lv_at hl 1 rfl) ?_
  refine z_get (pc := 1) cx (hW.dyn hq) (C := RX6) (T := TX6) (N := 6) rfl i_X6 1 rfl m_fl_X1_132 rfl dX1_swingsOf_1 ?_
  by_cases c_1 : g5 r n 0 = 2
  · rw [c_1]
    refine lv_tableIn (pc := 4) (tgt := 44) hx hb dX1_swingsOf_4 (by decide) (by decide) rfl (by decide) ?_
    refine lv_aload_n (pc := 44) hx hb dX1_swingsOf_44 rfl (lv_at hl 0 rfl) ?_
    refine lv_aload_n (pc := 45) hx hb dX1_swingsOf_45 rfl (lv_at hl 1 rfl) ?_
    refine z_get (pc := 46) cx (hW.dyn hq) (C := RX6) (T := TX6) (N := 6) rfl i_X6 2 rfl m_fl_X1_135 rfl dX1_swingsOf_46 ?_
    refine z_tope (y := nI (onN r n)) (on_nat hC hT hn).2 ?_
    refine lv_aload_n (pc := 49) hx hb dX1_swingsOf_49 rfl (lv_at hl 2 rfl) ?_
    refine lv_iload_n (pc := 50) hx hb dX1_swingsOf_50 rfl (lv_at hl 3 rfl) ?_
    refine lv_iload (pc := 51) hx hb dX1_swingsOf_51 (lv_at hl 4 rfl) ?_
    refine k_X1_swingOf (pc := 53) (n := onN r n) (t := t) (f := f) (st := st) cx hW hS (fun _ h => h) hI hpN hPc (on_nat hC hT hn).1 (rg_w hf (by decide) (by decide)) hAt m_ml_X1_138 ⟨Nat.le_of_ble_eq_true rfl, Nat.le_of_ble_eq_true rfl⟩ hl.1 rfl (by simp [Value.category]) dX1_swingsOf_53 ⟨Nat.le_refl _, Nat.le_refl _⟩ (fun sg2_53 H locs hf2_53 hW hS => ?_)
    have hW : WW E (wK b E.2.1 tl pd qt qr tbu wst asw pN tN aN hd dr pl rm ps wx pp tp ap sg2_53 uh ud up ur us ux) G H := hW
    refine lv_aload_n (pc := 56) hx hb dX1_swingsOf_56 rfl (lv_at hl 0 rfl) ?_
    refine lv_aload_n (pc := 57) hx hb dX1_swingsOf_57 rfl (lv_at hl 1 rfl) ?_
    refine z_get (pc := 58) cx (hW.dyn hq) (C := RX6) (T := TX6) (N := 6) rfl i_X6 2 rfl m_fl_X1_135 rfl dX1_swingsOf_58 ?_
    refine z_tope (y := nI (onN r n)) (on_nat hC hT hn).2 ?_
    refine lv_aload_n (pc := 61) hx hb dX1_swingsOf_61 rfl (lv_at hl 2 rfl) ?_
    refine lv_iconst (pc := 62) (v := 2) hx hb dX1_swingsOf_62 (by decide) ?_
    refine lv_iload_n (pc := 63) hx hb dX1_swingsOf_63 rfl (lv_at hl 3 rfl) ?_
    refine lv_imul (pc := 64) hx hb dX1_swingsOf_64 ?_
    refine lv_iload (pc := 65) hx hb dX1_swingsOf_65 (lv_at hl 4 rfl) ?_
    refine k_X1_swingOf (pc := 67) (n := onN r n) (t := t) (f := 2 * f) (st := st) cx hW hS (fun _ h => h) hI hpN hPc (on_nat hC hT hn).1 (dbl_rg hf) hAt m_ml_X1_138 ⟨Nat.le_of_ble_eq_true rfl, Nat.le_of_ble_eq_true rfl⟩ hl.1 rfl (by simp [Value.category]) dX1_swingsOf_67 ⟨Nat.le_refl _, Nat.le_refl _⟩ (fun sg2_67 H locs hf2_67 hW hS => ?_)
    have hW : WW E (wK b E.2.1 tl pd qt qr tbu wst asw pN tN aN hd dr pl rm ps wx pp tp ap sg2_67 uh ud up ur us ux) G H := hW
    refine z_mmax (pc := 70) cx hl.1 m_ml_X1_142 ⟨Nat.le_of_ble_eq_true rfl, Nat.le_of_ble_eq_true rfl⟩ (by simp [Value.category]) ⟨Nat.le_refl _, Nat.le_refl _⟩ dX1_swingsOf_70 ?_
    exact z_wiret cx hr hlk dX1_swingsOf_73 hS ⟨_, (sI (by first | rfl | (simp [swT, c_1, hf2_53, hf2_67]; done))), hW⟩
  by_cases c_2 : g5 r n 0 = 3
  · rw [c_2]
    refine lv_tableIn (pc := 4) (tgt := 148) hx hb dX1_swingsOf_4 (by decide) (by decide) rfl (by decide) ?_
    refine lv_aload_n (pc := 148) hx hb dX1_swingsOf_148 rfl (lv_at hl 0 rfl) ?_
    refine lv_aload_n (pc := 149) hx hb dX1_swingsOf_149 rfl (lv_at hl 1 rfl) ?_
    refine z_get (pc := 150) cx (hW.dyn hq) (C := RX6) (T := TX6) (N := 6) rfl i_X6 2 rfl m_fl_X1_135 rfl dX1_swingsOf_150 ?_
    refine z_tope (y := nI (onN r n)) (on_nat hC hT hn).2 ?_
    refine lv_aload_n (pc := 153) hx hb dX1_swingsOf_153 rfl (lv_at hl 2 rfl) ?_
    refine lv_iload_n (pc := 154) hx hb dX1_swingsOf_154 rfl (lv_at hl 3 rfl) ?_
    refine lv_iload (pc := 155) hx hb dX1_swingsOf_155 (lv_at hl 4 rfl) ?_
    refine k_X1_swingOf (pc := 157) (n := onN r n) (t := t) (f := f) (st := st) cx hW hS (fun _ h => h) hI hpN hPc (on_nat hC hT hn).1 (rg_w hf (by decide) (by decide)) hAt m_ml_X1_138 ⟨Nat.le_of_ble_eq_true rfl, Nat.le_of_ble_eq_true rfl⟩ hl.1 rfl (by simp [Value.category]) dX1_swingsOf_157 ⟨Nat.le_refl _, Nat.le_refl _⟩ (fun sg2_157 H locs hf2_157 hW hS => ?_)
    have hW : WW E (wK b E.2.1 tl pd qt qr tbu wst asw pN tN aN hd dr pl rm ps wx pp tp ap sg2_157 uh ud up ur us ux) G H := hW
    exact z_wiret cx hr hlk dX1_swingsOf_160 hS ⟨_, (sI (by first | rfl | (simp [swT, c_1, c_2, hf2_157]; done))), hW⟩
  by_cases c_3 : g5 r n 0 = 4
  · rw [c_3]
    refine lv_tableIn (pc := 4) (tgt := 148) hx hb dX1_swingsOf_4 (by decide) (by decide) rfl (by decide) ?_
    refine lv_aload_n (pc := 148) hx hb dX1_swingsOf_148 rfl (lv_at hl 0 rfl) ?_
    refine lv_aload_n (pc := 149) hx hb dX1_swingsOf_149 rfl (lv_at hl 1 rfl) ?_
    refine z_get (pc := 150) cx (hW.dyn hq) (C := RX6) (T := TX6) (N := 6) rfl i_X6 2 rfl m_fl_X1_135 rfl dX1_swingsOf_150 ?_
    refine z_tope (y := nI (onN r n)) (on_nat hC hT hn).2 ?_
    refine lv_aload_n (pc := 153) hx hb dX1_swingsOf_153 rfl (lv_at hl 2 rfl) ?_
    refine lv_iload_n (pc := 154) hx hb dX1_swingsOf_154 rfl (lv_at hl 3 rfl) ?_
    refine lv_iload (pc := 155) hx hb dX1_swingsOf_155 (lv_at hl 4 rfl) ?_
    refine k_X1_swingOf (pc := 157) (n := onN r n) (t := t) (f := f) (st := st) cx hW hS (fun _ h => h) hI hpN hPc (on_nat hC hT hn).1 (rg_w hf (by decide) (by decide)) hAt m_ml_X1_138 ⟨Nat.le_of_ble_eq_true rfl, Nat.le_of_ble_eq_true rfl⟩ hl.1 rfl (by simp [Value.category]) dX1_swingsOf_157 ⟨Nat.le_refl _, Nat.le_refl _⟩ (fun sg2_157 H locs hf2_157 hW hS => ?_)
    have hW : WW E (wK b E.2.1 tl pd qt qr tbu wst asw pN tN aN hd dr pl rm ps wx pp tp ap sg2_157 uh ud up ur us ux) G H := hW
    exact z_wiret cx hr hlk dX1_swingsOf_160 hS ⟨_, (sI (by first | rfl | (simp [swT, c_1, c_2, c_3, hf2_157]; done))), hW⟩
  by_cases c_4 : g5 r n 0 = 5
  · rw [c_4]
    refine lv_tableIn (pc := 4) (tgt := 74) hx hb dX1_swingsOf_4 (by decide) (by decide) rfl (by decide) ?_
    refine lv_aload_n (pc := 74) hx hb dX1_swingsOf_74 rfl (lv_at hl 0 rfl) ?_
    refine lv_aload_n (pc := 75) hx hb dX1_swingsOf_75 rfl (lv_at hl 0 rfl) ?_
    refine z_get (pc := 76) cx (hW.at 6 rfl) (C := RX1) (T := TX1) (N := 8) rfl i_X1 0 rfl m_fl_X1_40 rfl dX1_swingsOf_76 ?_
    refine lv_iconst (pc := 79) (v := 1) hx hb dX1_swingsOf_79 (by decide) ?_
    refine lv_isub (pc := 80) hx hb dX1_swingsOf_80 ?_
    refine z_tope (y := nI (nP r - 1)) (pm1 (by have := (on_nat hC hT hn).1; omega) hpN) ?_
    refine lv_aload_n (pc := 81) hx hb dX1_swingsOf_81 rfl (lv_at hl 2 rfl) ?_
    refine lv_iload_n (pc := 82) hx hb dX1_swingsOf_82 rfl (lv_at hl 3 rfl) ?_
    refine lv_iload (pc := 83) hx hb dX1_swingsOf_83 (lv_at hl 4 rfl) ?_
    refine k_X1_swingOf (pc := 85) (n := nP r - 1) (t := t) (f := f) (st := st) cx hW hS (fun _ h => h) hI hpN hPc (by have := (on_nat hC hT hn).1; omega) (rg_w hf (by decide) (by decide)) hAt m_ml_X1_138 ⟨Nat.le_of_ble_eq_true rfl, Nat.le_of_ble_eq_true rfl⟩ hl.1 rfl (by simp [Value.category]) dX1_swingsOf_85 ⟨Nat.le_refl _, Nat.le_refl _⟩ (fun sg2_85 H locs hf2_85 hW hS => ?_)
    have hW : WW E (wK b E.2.1 tl pd qt qr tbu wst asw pN tN aN hd dr pl rm ps wx pp tp ap sg2_85 uh ud up ur us ux) G H := hW
    refine lv_pop (pc := 88) hx hb dX1_swingsOf_88 rfl ?_
    refine lv_aload_n (pc := 89) hx hb dX1_swingsOf_89 rfl (lv_at hl 0 rfl) ?_
    refine k_X1_swingsInRow (pc := 90)  cx hW (by first | assumption | omega) (by first | assumption | omega) m_ml_X1_145 ⟨Nat.le_of_ble_eq_true rfl, Nat.le_of_ble_eq_true rfl⟩ hl.1 rfl (by simp [Value.category]) dX1_swingsOf_90 ⟨Nat.le_refl _, Nat.le_refl _⟩ ?_
    refine z_tope (y := swSum r f st (nP r)) (swR_eq _ (fun j h => hf2_85 j (by omega))) ?_
    refine lv_iconst (pc := 93) (v := 4) hx hb dX1_swingsOf_93 (by decide) ?_
    refine lv_idiv (pc := 94) hx hb dX1_swingsOf_94 (by decide) ?_
    exact z_wiret cx hr hlk dX1_swingsOf_95 hS ⟨_, (sI (by first | rfl | (simp [swT, c_1, c_2, c_3, c_4, hf2_85]; done))), hW⟩
  by_cases c_5 : g5 r n 0 = 6
  · rw [c_5]
    refine lv_tableIn (pc := 4) (tgt := 96) hx hb dX1_swingsOf_4 (by decide) (by decide) rfl (by decide) ?_
    refine lv_aload_n (pc := 96) hx hb dX1_swingsOf_96 rfl (lv_at hl 2 rfl) ?_
    refine z_get (pc := 97) cx ((hAt _ _ hW).1) (C := RX5) (T := TX5) (N := 6) rfl i_X5 2 rfl m_fl_X1_149 rfl dX1_swingsOf_97 ?_
    refine lv_iconst (pc := 100) (v := 1) hx hb dX1_swingsOf_100 (by decide) ?_
    refine lv_icmp_ne (pc := 101) (tgt := 119) hx hb dX1_swingsOf_101 (by decide) (fun c_6 => ?_) (fun c_6 => ?_)
    · skip
      refine lv_iconst (pc := 119) (v := 0) hx hb dX1_swingsOf_119 (by decide) ?_
      exact z_wiret cx hr hlk dX1_swingsOf_120 hS ⟨_, (sI (by first | rfl | (simp [swT, c_1, c_2, c_3, c_4, c_5, c_6]; done))), hW⟩
    · skip
      refine lv_aload_n (pc := 104) hx hb dX1_swingsOf_104 rfl (lv_at hl 0 rfl) ?_
      refine lv_aload_n (pc := 105) hx hb dX1_swingsOf_105 rfl (lv_at hl 1 rfl) ?_
      refine z_get (pc := 106) cx (hW.dyn hq) (C := RX6) (T := TX6) (N := 6) rfl i_X6 2 rfl m_fl_X1_135 rfl dX1_swingsOf_106 ?_
      refine z_tope (y := nI (onN r n)) (on_nat hC hT hn).2 ?_
      refine lv_aload_n (pc := 109) hx hb dX1_swingsOf_109 rfl (lv_at hl 2 rfl) ?_
      refine lv_iload_n (pc := 110) hx hb dX1_swingsOf_110 rfl (lv_at hl 3 rfl) ?_
      refine lv_iload (pc := 111) hx hb dX1_swingsOf_111 (lv_at hl 4 rfl) ?_
      refine k_X1_swingOf (pc := 113) (n := onN r n) (t := t) (f := f) (st := st) cx hW hS (fun _ h => h) hI hpN hPc (on_nat hC hT hn).1 (rg_w hf (by decide) (by decide)) hAt m_ml_X1_138 ⟨Nat.le_of_ble_eq_true rfl, Nat.le_of_ble_eq_true rfl⟩ hl.1 rfl (by simp [Value.category]) dX1_swingsOf_113 ⟨Nat.le_refl _, Nat.le_refl _⟩ (fun sg2_113 H locs hf2_113 hW hS => ?_)
      have hW : WW E (wK b E.2.1 tl pd qt qr tbu wst asw pN tN aN hd dr pl rm ps wx pp tp ap sg2_113 uh ud up ur us ux) G H := hW
      refine lv_goto (pc := 116) (tgt := 120) hx hb dX1_swingsOf_116 (by decide) ?_
      exact z_wiret cx hr hlk dX1_swingsOf_120 hS ⟨_, (sI (by first | rfl | (simp [swT, c_1, c_2, c_3, c_4, c_5, c_6, hf2_113]; done))), hW⟩
  by_cases c_7 : g5 r n 0 = 7
  · rw [c_7]
    refine lv_tableIn (pc := 4) (tgt := 121) hx hb dX1_swingsOf_4 (by decide) (by decide) rfl (by decide) ?_
    refine lv_aload_n (pc := 121) hx hb dX1_swingsOf_121 rfl (lv_at hl 2 rfl) ?_
    refine z_get (pc := 122) cx ((hAt _ _ hW).1) (C := RX5) (T := TX5) (N := 6) rfl i_X5 3 rfl m_fl_X1_152 rfl dX1_swingsOf_122 ?_
    refine lv_aload_n (pc := 125) hx hb dX1_swingsOf_125 rfl (lv_at hl 1 rfl) ?_
    refine z_get (pc := 126) cx (hW.dyn hq) (C := RX6) (T := TX6) (N := 6) rfl i_X6 4 rfl m_fl_X1_155 rfl dX1_swingsOf_126 ?_
    refine lv_iconst (pc := 129) (v := 4) hx hb dX1_swingsOf_129 (by decide) ?_
    refine lv_irem (pc := 130) hx hb dX1_swingsOf_130 (by decide) ?_
    refine z_tope (y := irm (g5 r n 3) 4) rfl ?_
    refine lv_icmp_ne (pc := 131) (tgt := 146) hx hb dX1_swingsOf_131 (by decide) (fun c_8 => ?_) (fun c_8 => ?_)
    · skip
      refine lv_iconst (pc := 146) (v := 0) hx hb dX1_swingsOf_146 (by decide) ?_
      exact z_wiret cx hr hlk dX1_swingsOf_147 hS ⟨_, (sI (by first | rfl | (simp [swT, c_1, c_2, c_3, c_4, c_5, c_7, c_8]; done))), hW⟩
    · skip
      refine lv_iload (pc := 134) hx hb dX1_swingsOf_134 (lv_at hl 4 rfl) ?_
      refine lv_aload_n (pc := 136) hx hb dX1_swingsOf_136 rfl (lv_at hl 1 rfl) ?_
      refine z_get (pc := 137) cx (hW.dyn hq) (C := RX6) (T := TX6) (N := 6) rfl i_X6 4 rfl m_fl_X1_155 rfl dX1_swingsOf_137 ?_
      refine lv_iconst (pc := 140) (v := 1) hx hb dX1_swingsOf_140 (by decide) ?_
      refine lv_iadd (pc := 141) hx hb dX1_swingsOf_141 ?_
      refine lv_imul (pc := 142) hx hb dX1_swingsOf_142 ?_
      refine lv_goto (pc := 143) (tgt := 147) hx hb dX1_swingsOf_143 (by decide) ?_
      exact z_wiret cx hr hlk dX1_swingsOf_147 hS ⟨_, (sI (by first | rfl | (simp [swT, c_1, c_2, c_3, c_4, c_5, c_7, c_8]; done))), hW⟩
  refine lv_tableOut (pc := 4) (tgt := 148) hx hb dX1_swingsOf_4 (by have := lv_neT c_1 (a := 2) (by decide); have := lv_neT c_2 (a := 3) (by decide); have := lv_neT c_3 (a := 4) (by decide); have := lv_neT c_4 (a := 5) (by decide); have := lv_neT c_5 (a := 6) (by decide); have := lv_neT c_7 (a := 7) (by decide); omega) (by decide) ?_
  refine lv_aload_n (pc := 148) hx hb dX1_swingsOf_148 rfl (lv_at hl 0 rfl) ?_
  refine lv_aload_n (pc := 149) hx hb dX1_swingsOf_149 rfl (lv_at hl 1 rfl) ?_
  refine z_get (pc := 150) cx (hW.dyn hq) (C := RX6) (T := TX6) (N := 6) rfl i_X6 2 rfl m_fl_X1_135 rfl dX1_swingsOf_150 ?_
  refine z_tope (y := nI (onN r n)) (on_nat hC hT hn).2 ?_
  refine lv_aload_n (pc := 153) hx hb dX1_swingsOf_153 rfl (lv_at hl 2 rfl) ?_
  refine lv_iload_n (pc := 154) hx hb dX1_swingsOf_154 rfl (lv_at hl 3 rfl) ?_
  refine lv_iload (pc := 155) hx hb dX1_swingsOf_155 (lv_at hl 4 rfl) ?_
  refine k_X1_swingOf (pc := 157) (n := onN r n) (t := t) (f := f) (st := st) cx hW hS (fun _ h => h) hI hpN hPc (on_nat hC hT hn).1 (rg_w hf (by decide) (by decide)) hAt m_ml_X1_138 ⟨Nat.le_of_ble_eq_true rfl, Nat.le_of_ble_eq_true rfl⟩ hl.1 rfl (by simp [Value.category]) dX1_swingsOf_157 ⟨Nat.le_refl _, Nat.le_refl _⟩ (fun sg2_157 H locs hf2_157 hW hS => ?_)
  have hW : WW E (wK b E.2.1 tl pd qt qr tbu wst asw pN tN aN hd dr pl rm ps wx pp tp ap sg2_157 uh ud up ur us ux) G H := hW
  exact z_wiret cx hr hlk dX1_swingsOf_160 hS ⟨_, (sI (by first | rfl | (simp [swT, c_1, c_2, c_3, c_4, c_5, c_7, hf2_157]; done))), hW⟩
theorem k_X1_swingsOf {p : Program} {l : Launch} {e : Env} {R : Room} {s : State} {m : MethodId} {args : Array Value} {below : List Frame} {meth : Method} {c : Code} {H H0 : Heap} {locs : List Loc} {cells slots : Nat} {Q : State → Prop} {cc : ByteArray} {pc index : Nat} {ls : Array Slot} {rest st0 : List Value} {E : zE} {own : String} {nL : Nat} {F : Nat → Prop} {b : Nat → Nat} {tl : va_W} {pd : Bool} {qt : Nat → Option Nat} {qr : Nat → Option Nat} {tbu : Nat → Int32} {wst : Nat → Int32} {asw : Nat → Int32} {pN : Int32} {tN : Int32} {aN : Int32} {hd : Int32} {dr : Int32} {pl : Int32} {rm : Int32} {ps : Int32} {wx : Nat → Int32} {pp : Nat → Option Nat} {tp : Nat → Option Nat} {ap : Nat → Option Nat} {sg : Nat → Int32} {uh : Int32} {ud : Int32} {up : Int32} {ur : Int32} {us : Int32} {ux : Nat → Int32} {G : zG} {q n : Nat} {f st : Int32} {t w : Nat} {r xw : Nat → Int32} (cx : Cx E p s args m c own cc nL) (hW : WW E (wK b E.2.1 tl pd qt qr tbu wst asw pN tN aN hd dr pl rm ps wx pp tp ap sg uh ud up ur us ux) G H) (hS : va_S F H0 H locs) (zF : ∀ q, (bF b) q → F q) (hI : Inv r) (hpN : pN = nI (nP r)) (hPc : PcG G r pp) (hn : n < nT r) (hf : rg f 1 1200) (hq : G q = some (ceT (nI n) (g5 r n 0) (g5 r n 1) (g5 r n 2) (g5 r n 3) (g5 r n 4))) (hAt : ∀ (sg3 : Nat → Int32) (H : Heap), WW E (wK b E.2.1 tl pd qt qr tbu wst asw pN tN aN hd dr pl rm ps wx pp tp ap sg3 uh ud up ur us ux) G H → StA E H t w r xw) (zl : Cond.methodLink own index yX1_swingsOf ∈ AllW) (zR : 3 + 1 ≤ R.frames ∧ 8 + (5 + 11) + 71 ≤ R.locals) (zs : ls.size = nL) (zt : st0 = ([.ref q, .ref t, .int f, .int st] : List Value).reverse ++ .ref (b 6) :: rest) (z8 : (rest.map fun v => v.category).sum ≤ 8) (zd : decode cc pc = .ok (.invokevirtual index, 3)) (zf : cells ≤ R.cells ∧ slots ≤ R.slots) (kk0 : ∀ (sg2 : Nat → Int32) (H1 : Heap) (locs1 : List Loc), WW E (wK b E.2.1 tl pd qt qr tbu wst asw pN tN aN hd dr pl rm ps wx pp tp ap sg2 uh ud up ur us ux) G H1 → va_S F H0 H1 locs1 → W p l e R s m args below meth c H1 locs1 cells slots Q (F0 m (pc + 3) ls (.int (swT r n f st) :: rest))) : W p l e R s m args below meth c H locs cells slots Q (F0 m pc ls st0) := by
  refine z_callVw cx vm_X1_swingsOf (c_X1_swingsOf l E b tl pd qt qr tbu wst asw pN tN aN hd dr pl rm ps wx pp tp ap sg uh ud up ur us ux G q n f st t w r xw hI hpN hPc hn hf hq hAt) (z_rec cx.2 (hW.at 6 rfl) rfl) hW hS zF zl ⟨rfl, rfl⟩ zR rfl zs zt z8 zd zf (fun v H1 locs1 hq hS1 _ => ?_)
  rcases hq with ⟨sg2, rfl, hW1⟩
  · exact kk0 sg2 H1 locs1  hW1 hS1
theorem vm_X1_isBuzzing : zVm yX1_isBuzzing cX1_isBuzzing 5 (some FieldType.boolean) 4 := ⟨m_co_X1_isBuzzing, m_in_RX1, ⟨m_im_X1_isBuzzing, m_se_X1_X1_isBuzzing⟩, by decide +kernel, by decide +kernel, by decide +kernel⟩
set_option maxHeartbeats 1000000 in
set_option maxRecDepth 100000 in
theorem c_X1_isBuzzing (l : Launch) (E : zE) (b : Nat → Nat) (tl : va_W) (pd : Bool) (qt : Nat → Option Nat) (qr : Nat → Option Nat) (tbu : Nat → Int32) (wst : Nat → Int32) (asw : Nat → Int32) (pN : Int32) (tN : Int32) (aN : Int32) (hd : Int32) (dr : Int32) (pl : Int32) (rm : Int32) (ps : Int32) (wx : Nat → Int32) (pp : Nat → Option Nat) (tp : Nat → Option Nat) (ap : Nat → Option Nat) (sg : Nat → Int32) (uh : Int32) (ud : Int32) (up : Int32) (ur : Int32) (us : Int32) (ux : Nat → Int32) (G : zG) (q n : Nat) (f st : Int32) (t w : Nat) (r xw : Nat → Int32) (hI : Inv r) (hpN : pN = nI (nP r)) (hPc : PcG G r pp) (hn : n < nT r) (hf : rg f 1 1200) (hq : G q = some (ceT (nI n) (g5 r n 0) (g5 r n 1) (g5 r n 2) (g5 r n 3) (g5 r n 4))) (hAt : ∀ (sg3 : Nat → Int32) (H : Heap), WW E (wK b E.2.1 tl pd qt qr tbu wst asw pN tN aN hd dr pl rm ps wx pp tp ap sg3 uh ud up ur us ux) G H → StA E H t w r xw) : Met l yX1_isBuzzing (.code yX1_isBuzzing cX1_isBuzzing 5 (some FieldType.boolean) :: AllW) (rm0' 4 95) (zP E (fun H => WW E (wK b E.2.1 tl pd qt qr tbu wst asw pN tN aN hd dr pl rm ps wx pp tp ap sg uh ud up ur us ux) G H) [.ref (b 6), .ref q, .ref t, .int f, .int st]) (zQ (fun (_ : Heap) (v : Option Value) (H1 : Heap) => (∃ (sg2 : Nat → Int32), v = some (.int (bI (bzA r n f st))) ∧ WW E (wK b E.2.1 tl pd qt qr tbu wst asw pN tN aN hd dr pl rm ps wx pp tp ap sg2 uh ud up ur us ux) G H1)) (bF b)) 0 0 (bF b) := by
  refine z_body (own := RX1) (by decide) rfl rfl ?_
  intro p e s m args below meth c ls cx hr hlk hnm hW hl
  have hx := cx.x
  have hb := cx.b
  have hl : lv_has ls 5 [(0, .ref (b 6)), (1, .ref q), (2, .ref t), (3, .int f), (4, .int st)] := hl
  have hFb : ∀ k, (bF b) (b k) := fun k => bF_in b k
  have hS : va_S (bF b) s.heap s.heap [] := va_S.rf
  have hC := hI.1
  have hIS := hI.2.1
  have hP := hI.2.2.1
  have hT := hI.2.2.2.1
  have hP10 := (Inv.n0 hC).2
  have hT7 := (Inv.n1 hC).2
  have hA24 := (Inv.n2 hC).2
  have e0 := (Inv.n0 hC).1
  have e1 := (Inv.n1 hC).1
  have e2 := (Inv.n2 hC).1
  refine lv_aload_n (pc := 0) hx hb dX1_isBuzzing_0 rfl (lv_at hl 0 rfl) ?_
  refine lv_aload_n (pc := 1) hx hb dX1_isBuzzing_1 rfl (lv_at hl 1 rfl) ?_
  refine lv_aload_n (pc := 2) hx hb dX1_isBuzzing_2 rfl (lv_at hl 2 rfl) ?_
  refine lv_iload_n (pc := 3) hx hb dX1_isBuzzing_3 rfl (lv_at hl 3 rfl) ?_
  refine lv_iload (pc := 4) hx hb dX1_isBuzzing_4 (lv_at hl 4 rfl) ?_
  refine k_X1_swingsOf (pc := 6) (q := q) (t := t) (f := f) (st := st) cx hW hS (fun _ h => h) hI hpN hPc hn hf hq hAt m_ml_X1_165 ⟨Nat.le_of_ble_eq_true rfl, Nat.le_of_ble_eq_true rfl⟩ hl.1 rfl (by simp [Value.category]) dX1_isBuzzing_6 ⟨Nat.le_refl _, Nat.le_refl _⟩ (fun sg2 H locs  hW hS => ?_)
  have hW : WW E (wK b E.2.1 tl pd qt qr tbu wst asw pN tN aN hd dr pl rm ps wx pp tp ap sg2 uh ud up ur us ux) G H := hW
  refine lv_aload_n (pc := 9) hx hb dX1_isBuzzing_9 rfl (lv_at hl 0 rfl) ?_
  refine lv_aload_n (pc := 10) hx hb dX1_isBuzzing_10 rfl (lv_at hl 1 rfl) ?_
  refine lv_aload_n (pc := 11) hx hb dX1_isBuzzing_11 rfl (lv_at hl 1 rfl) ?_
  refine z_get (pc := 12) cx (hW.dyn hq) (C := RX6) (T := TX6) (N := 6) rfl i_X6 3 rfl m_fl_X1_169 rfl dX1_isBuzzing_12 ?_
  refine lv_aload_n (pc := 15) hx hb dX1_isBuzzing_15 rfl (lv_at hl 2 rfl) ?_
  refine k_X1_strikesOf (pc := 16) (q := q) (gap := g5 r n 2) (t := t) cx hW hI hpN hPc hn hq hAt m_ml_X1_172 ⟨Nat.le_of_ble_eq_true rfl, Nat.le_of_ble_eq_true rfl⟩ hl.1 rfl (by simp [Value.category]) dX1_isBuzzing_16 ⟨Nat.le_refl _, Nat.le_refl _⟩ ?_
  refine lv_icmp_le (pc := 19) (tgt := 26) hx hb dX1_isBuzzing_19 (by decide) (fun c_1 => ?_) (fun c_1 => ?_)
  · skip
    refine lv_iconst (pc := 26) (v := 0) hx hb dX1_isBuzzing_26 (by decide) ?_
    exact z_wzret (b := false) cx hr hlk dX1_isBuzzing_27 hS ⟨_, (sI (by first | rfl | (simp [bzA, bI, stO, c_1, i_nlt.mpr c_1]; done))), hW⟩
  · skip
    refine lv_iconst (pc := 22) (v := 1) hx hb dX1_isBuzzing_22 (by decide) ?_
    refine lv_goto (pc := 23) (tgt := 27) hx hb dX1_isBuzzing_23 (by decide) ?_
    exact z_wzret (b := true) cx hr hlk dX1_isBuzzing_27 hS ⟨_, (sI (by first | rfl | (simp [bzA, bI, stO, c_1, i_nle.mp c_1]; done))), hW⟩
theorem k_X1_isBuzzing {p : Program} {l : Launch} {e : Env} {R : Room} {s : State} {m : MethodId} {args : Array Value} {below : List Frame} {meth : Method} {c : Code} {H H0 : Heap} {locs : List Loc} {cells slots : Nat} {Q : State → Prop} {cc : ByteArray} {pc index : Nat} {ls : Array Slot} {rest st0 : List Value} {E : zE} {own : String} {nL : Nat} {F : Nat → Prop} {b : Nat → Nat} {tl : va_W} {pd : Bool} {qt : Nat → Option Nat} {qr : Nat → Option Nat} {tbu : Nat → Int32} {wst : Nat → Int32} {asw : Nat → Int32} {pN : Int32} {tN : Int32} {aN : Int32} {hd : Int32} {dr : Int32} {pl : Int32} {rm : Int32} {ps : Int32} {wx : Nat → Int32} {pp : Nat → Option Nat} {tp : Nat → Option Nat} {ap : Nat → Option Nat} {sg : Nat → Int32} {uh : Int32} {ud : Int32} {up : Int32} {ur : Int32} {us : Int32} {ux : Nat → Int32} {G : zG} {q n : Nat} {f st : Int32} {t w : Nat} {r xw : Nat → Int32} (cx : Cx E p s args m c own cc nL) (hW : WW E (wK b E.2.1 tl pd qt qr tbu wst asw pN tN aN hd dr pl rm ps wx pp tp ap sg uh ud up ur us ux) G H) (hS : va_S F H0 H locs) (zF : ∀ q, (bF b) q → F q) (hI : Inv r) (hpN : pN = nI (nP r)) (hPc : PcG G r pp) (hn : n < nT r) (hf : rg f 1 1200) (hq : G q = some (ceT (nI n) (g5 r n 0) (g5 r n 1) (g5 r n 2) (g5 r n 3) (g5 r n 4))) (hAt : ∀ (sg3 : Nat → Int32) (H : Heap), WW E (wK b E.2.1 tl pd qt qr tbu wst asw pN tN aN hd dr pl rm ps wx pp tp ap sg3 uh ud up ur us ux) G H → StA E H t w r xw) (zl : Cond.methodLink own index yX1_isBuzzing ∈ AllW) (zR : 4 + 1 ≤ R.frames ∧ 8 + (5 + 11) + 95 ≤ R.locals) (zs : ls.size = nL) (zt : st0 = ([.ref q, .ref t, .int f, .int st] : List Value).reverse ++ .ref (b 6) :: rest) (z8 : (rest.map fun v => v.category).sum ≤ 8) (zd : decode cc pc = .ok (.invokevirtual index, 3)) (zf : cells ≤ R.cells ∧ slots ≤ R.slots) (kk0 : ∀ (sg2 : Nat → Int32) (H1 : Heap) (locs1 : List Loc), WW E (wK b E.2.1 tl pd qt qr tbu wst asw pN tN aN hd dr pl rm ps wx pp tp ap sg2 uh ud up ur us ux) G H1 → va_S F H0 H1 locs1 → W p l e R s m args below meth c H1 locs1 cells slots Q (F0 m (pc + 3) ls (.int (bI (bzA r n f st)) :: rest))) : W p l e R s m args below meth c H locs cells slots Q (F0 m pc ls st0) := by
  refine z_callVw cx vm_X1_isBuzzing (c_X1_isBuzzing l E b tl pd qt qr tbu wst asw pN tN aN hd dr pl rm ps wx pp tp ap sg uh ud up ur us ux G q n f st t w r xw hI hpN hPc hn hf hq hAt) (z_rec cx.2 (hW.at 6 rfl) rfl) hW hS zF zl ⟨rfl, rfl⟩ zR rfl zs zt z8 zd zf (fun v H1 locs1 hq hS1 _ => ?_)
  rcases hq with ⟨sg2, rfl, hW1⟩
  · exact kk0 sg2 H1 locs1  hW1 hS1
