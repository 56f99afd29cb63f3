theorem vm_X8_seamWith : zVm yX8_seamWith cX8_seamWith 5 (some FieldType.int) 3 := ⟨m_co_X8_seamWith, m_in_RX8, ⟨m_im_X8_seamWith, m_se_X8_X8_seamWith⟩, by decide +kernel, by decide +kernel, by decide +kernel⟩
set_option maxHeartbeats 4000000 in
set_option maxRecDepth 100000 in
theorem c_X8_seamWith (l : Launch) (E : zE) (a : Nat → Nat) (sv im rd wa kp so sz el pr ts nu bu ht : Nat → Int32) (th po ba en td : Int32) (ig : Bool) (ij : Bool) (n : Nat) (gap dry : Int32) (hI : Inv sv) (hn : n < nT sv) : Met l yX8_seamWith (.code yX8_seamWith cX8_seamWith 5 (some FieldType.int) :: AllW) (rm0' 1 22) (zP E (fun H => WW E (wM a (E.2.1 0) sv im rd wa kp so sz el pr ts nu bu ht (bI ig) th po ba en td (bI ij)) gN H) [.ref (a 0), .int (nI n), .int gap, .int dry]) (rQ (.int (smW sv n gap dry))) 0 0 nF := by
  refine z_body (own := RX8) (by decide) rfl rfl ?_
  intro p e s m args below meth c ls cx hr hlk hnm hW hl
  have hx := cx.x
  have hb := cx.b
  have hl : lv_has ls 5 [(0, .ref (a 0)), (1, .int (nI n)), (2, .int gap), (3, .int dry)] := hl
  have hC := hI.1
  have hP10 := (Inv.n0 hC).2
  have hT7 := (Inv.n1 hC).2
  have hA24 := (Inv.n2 hC).2
  refine lv_iload_n (pc := 0) hx hb dX8_seamWith_0 rfl (lv_at hl 2 rfl) ?_
  refine lv_iload_n (pc := 1) hx hb dX8_seamWith_1 rfl (lv_at hl 3 rfl) ?_
  refine lv_aload_n (pc := 2) hx hb dX8_seamWith_2 rfl (lv_at hl 0 rfl) ?_
  refine lv_iload_n (pc := 3) hx hb dX8_seamWith_3 rfl (lv_at hl 1 rfl) ?_
  refine lv_iconst (pc := 4) (v := 3) hx hb dX8_seamWith_4 (by decide) ?_
  refine k_X8_of (pc := 5) (n := n) (k := 3) cx hW (by first | assumption | omega) (by first | assumption | omega) m_ml_X8_140 ⟨Nat.le_of_ble_eq_true rfl, Nat.le_of_ble_eq_true rfl⟩ hl.1 rfl (by simp [Value.category]) dX8_seamWith_5 ⟨Nat.le_refl _, Nat.le_refl _⟩ ?_
  refine lv_imul (pc := 8) hx hb dX8_seamWith_8 ?_
  refine lv_isub (pc := 9) hx hb dX8_seamWith_9 ?_
  refine lv_istore (pc := 10) (lv' := [(4, .int (gap - (dry * (g5 sv n 3)))), (0, .ref (a 0)), (1, .int (nI n)), (2, .int gap), (3, .int dry)]) hx hb dX8_seamWith_10 hl (by decide) rfl (fun ls hl => ?_)
  refine lv_iload (pc := 12) hx hb dX8_seamWith_12 (lv_at hl 0 rfl) ?_
  refine lv_iconst (pc := 14) (v := 1) hx hb dX8_seamWith_14 (by decide) ?_
  refine lv_icmp_ge (pc := 15) (tgt := 22) hx hb dX8_seamWith_15 (by decide) (fun c_1 => ?_) (fun c_1 => ?_)
  · skip
    refine lv_iload (pc := 22) hx hb dX8_seamWith_22 (lv_at hl 0 rfl) ?_
    exact z_iret cx hr hlk dX8_seamWith_24 (by first | rfl | (simp [smW, c_1, i_nlt.mpr c_1]; done))
  · skip
    refine lv_iconst (pc := 18) (v := 1) hx hb dX8_seamWith_18 (by decide) ?_
    refine lv_goto (pc := 19) (tgt := 24) hx hb dX8_seamWith_19 (by decide) ?_
    exact z_iret cx hr hlk dX8_seamWith_24 (by first | rfl | (simp [smW, c_1, i_nle.mp c_1]; done))
theorem k_X8_seamWith {p : Program} {l : Launch} {e : Env} {R : Room} {s : State} {m : MethodId} {args : Array Value} {below : List Frame} {meth : Method} {c : Code} {H : Heap} {locs : List Loc} {cells slots : Nat} {Q : State → Prop} {cc : ByteArray} {pc index : Nat} {ls : Array Slot} {rest st0 : List Value} {E : zE} {own : String} {nL : Nat} {a : Nat → Nat} {sv im rd wa kp so sz el pr ts nu bu ht : Nat → Int32} {th po ba en td : Int32} {ig : Bool} {ij : Bool} {n : Nat} {gap dry : Int32} (cx : Cx E p s args m c own cc nL) (hW : WW E (wM a (E.2.1 0) sv im rd wa kp so sz el pr ts nu bu ht (bI ig) th po ba en td (bI ij)) gN H) (hI : Inv sv) (hn : n < nT sv) (zl : Cond.methodLink own index yX8_seamWith ∈ AllW) (zR : 1 + 1 ≤ R.frames ∧ 8 + (5 + 11) + 22 ≤ R.locals) (zs : ls.size = nL) (zt : st0 = ([.int (nI n), .int gap, .int dry] : List Value).reverse ++ .ref (a 0) :: rest) (z8 : (rest.map fun v => v.category).sum ≤ 8) (zd : decode cc pc = .ok (.invokevirtual index, 3)) (zf : cells ≤ R.cells ∧ slots ≤ R.slots) (kk : W p l e R s m args below meth c H locs cells slots Q (F0 m (pc + 3) ls (.int (smW sv n gap dry) :: rest))) : W p l e R s m args below meth c H locs cells slots Q (F0 m pc ls st0) :=
  z_callV cx vm_X8_seamWith (c_X8_seamWith l E a sv im rd wa kp so sz el pr ts nu bu ht th po ba en td ig ij n gap dry hI hn) (z_rec cx.2 (hW.at 0 rfl) rfl) hW zl ⟨rfl, rfl⟩ zR rfl zs zt z8 zd zf kk
theorem vm_X8_strikesWith : zVm yX8_strikesWith cX8_strikesWith 5 (some FieldType.int) 3 := ⟨m_co_X8_strikesWith, m_in_RX8, ⟨m_im_X8_strikesWith, m_se_X8_X8_strikesWith⟩, by decide +kernel, by decide +kernel, by decide +kernel⟩
set_option maxHeartbeats 4000000 in
set_option maxRecDepth 100000 in
theorem c_X8_strikesWith (l : Launch) (E : zE) (a : Nat → Nat) (sv im rd wa kp so sz el pr ts nu bu ht : Nat → Int32) (th po ba en td : Int32) (ig : Bool) (ij : Bool) (n : Nat) (gap dry : Int32) (hI : Inv sv) (hn : n < nT sv) : Met l yX8_strikesWith (.code yX8_strikesWith cX8_strikesWith 5 (some FieldType.int) :: AllW) (rm0' 2 46) (zP E (fun H => WW E (wM a (E.2.1 0) sv im rd wa kp so sz el pr ts nu bu ht (bI ig) th po ba en td (bI ij)) gN H) [.ref (a 0), .int (nI n), .int gap, .int dry]) (rQ (.int (stW sv n gap dry))) 0 0 nF := by
  refine z_body (own := RX8) (by decide) rfl rfl ?_
  intro p e s m args below meth c ls cx hr hlk hnm hW hl
  have hx := cx.x
  have hb := cx.b
  have hl : lv_has ls 5 [(0, .ref (a 0)), (1, .int (nI n)), (2, .int gap), (3, .int dry)] := hl
  have hC := hI.1
  have hP10 := (Inv.n0 hC).2
  have hT7 := (Inv.n1 hC).2
  have hA24 := (Inv.n2 hC).2
  refine lv_aload_n (pc := 0) hx hb dX8_strikesWith_0 rfl (lv_at hl 0 rfl) ?_
  refine lv_iload_n (pc := 1) hx hb dX8_strikesWith_1 rfl (lv_at hl 1 rfl) ?_
  refine lv_iconst (pc := 2) (v := 0) hx hb dX8_strikesWith_2 (by decide) ?_
  refine k_X8_of (pc := 3) (n := n) (k := 0) cx hW (by first | assumption | omega) (by first | assumption | omega) m_ml_X8_140 ⟨Nat.le_of_ble_eq_true rfl, Nat.le_of_ble_eq_true rfl⟩ hl.1 rfl (by simp [Value.category]) dX8_strikesWith_3 ⟨Nat.le_refl _, Nat.le_refl _⟩ ?_
  by_cases c_1 : g5 sv n 0 = 1
  · rw [c_1]
    refine lv_tableIn (pc := 6) (tgt := 44) hx hb dX8_strikesWith_6 (by decide) (by decide) rfl (by decide) ?_
    refine lv_aload_n (pc := 44) hx hb dX8_strikesWith_44 rfl (lv_at hl 0 rfl) ?_
    refine lv_iload_n (pc := 45) hx hb dX8_strikesWith_45 rfl (lv_at hl 1 rfl) ?_
    refine lv_iload_n (pc := 46) hx hb dX8_strikesWith_46 rfl (lv_at hl 2 rfl) ?_
    refine lv_iload_n (pc := 47) hx hb dX8_strikesWith_47 rfl (lv_at hl 3 rfl) ?_
    refine k_X8_seamWith (pc := 48) (n := n) (gap := gap) (dry := dry) cx hW (by first | assumption | omega) (by first | assumption | omega) m_ml_X8_183 ⟨Nat.le_of_ble_eq_true rfl, Nat.le_of_ble_eq_true rfl⟩ hl.1 rfl (by simp [Value.category]) dX8_strikesWith_48 ⟨Nat.le_refl _, Nat.le_refl _⟩ ?_
    exact z_iret cx hr hlk dX8_strikesWith_51 (by first | rfl | (simp [stW, c_1]; done))
  by_cases c_2 : g5 sv n 0 = 2
  · rw [c_2]
    refine lv_tableIn (pc := 6) (tgt := 101) hx hb dX8_strikesWith_6 (by decide) (by decide) rfl (by decide) ?_
    refine lv_iload_n (pc := 101) hx hb dX8_strikesWith_101 rfl (lv_at hl 2 rfl) ?_
    exact z_iret cx hr hlk dX8_strikesWith_102 (by first | rfl | (simp [stW, c_1, c_2]; done))
  by_cases c_3 : g5 sv n 0 = 3
  · rw [c_3]
    refine lv_tableIn (pc := 6) (tgt := 52) hx hb dX8_strikesWith_6 (by decide) (by decide) rfl (by decide) ?_
    refine lv_iload_n (pc := 52) hx hb dX8_strikesWith_52 rfl (lv_at hl 2 rfl) ?_
    refine lv_bipush (pc := 53) (v := 10) hx hb dX8_strikesWith_53 (by decide) ?_
    refine lv_aload_n (pc := 55) hx hb dX8_strikesWith_55 rfl (lv_at hl 0 rfl) ?_
    refine lv_iload_n (pc := 56) hx hb dX8_strikesWith_56 rfl (lv_at hl 1 rfl) ?_
    refine lv_iconst (pc := 57) (v := 3) hx hb dX8_strikesWith_57 (by decide) ?_
    refine k_X8_of (pc := 58) (n := n) (k := 3) cx hW (by first | assumption | omega) (by first | assumption | omega) m_ml_X8_140 ⟨Nat.le_of_ble_eq_true rfl, Nat.le_of_ble_eq_true rfl⟩ hl.1 rfl (by simp [Value.category]) dX8_strikesWith_58 ⟨Nat.le_refl _, Nat.le_refl _⟩ ?_
    refine lv_imul (pc := 61) hx hb dX8_strikesWith_61 ?_
    refine lv_iadd (pc := 62) hx hb dX8_strikesWith_62 ?_
    exact z_iret cx hr hlk dX8_strikesWith_63 (by first | rfl | (simp [stW, c_1, c_2, c_3]; done))
  by_cases c_4 : g5 sv n 0 = 4
  · rw [c_4]
    refine lv_tableIn (pc := 6) (tgt := 64) hx hb dX8_strikesWith_6 (by decide) (by decide) rfl (by decide) ?_
    refine lv_aload_n (pc := 64) hx hb dX8_strikesWith_64 rfl (lv_at hl 0 rfl) ?_
    refine lv_iload_n (pc := 65) hx hb dX8_strikesWith_65 rfl (lv_at hl 1 rfl) ?_
    refine lv_iload_n (pc := 66) hx hb dX8_strikesWith_66 rfl (lv_at hl 2 rfl) ?_
    refine lv_iload_n (pc := 67) hx hb dX8_strikesWith_67 rfl (lv_at hl 3 rfl) ?_
    refine k_X8_seamWith (pc := 68) (n := n) (gap := gap) (dry := dry) cx hW (by first | assumption | omega) (by first | assumption | omega) m_ml_X8_183 ⟨Nat.le_of_ble_eq_true rfl, Nat.le_of_ble_eq_true rfl⟩ hl.1 rfl (by simp [Value.category]) dX8_strikesWith_68 ⟨Nat.le_refl _, Nat.le_refl _⟩ ?_
    refine lv_iconst (pc := 71) (v := 2) hx hb dX8_strikesWith_71 (by decide) ?_
    refine lv_idiv (pc := 72) hx hb dX8_strikesWith_72 (by decide) ?_
    refine lv_istore (pc := 73) (lv' := [(4, .int ((smW sv n gap dry) / 2)), (0, .ref (a 0)), (1, .int (nI n)), (2, .int gap), (3, .int dry)]) hx hb dX8_strikesWith_73 hl (by decide) rfl (fun ls hl => ?_)
    refine lv_iload (pc := 75) hx hb dX8_strikesWith_75 (lv_at hl 0 rfl) ?_
    refine lv_iconst (pc := 77) (v := 1) hx hb dX8_strikesWith_77 (by decide) ?_
    refine lv_icmp_ge (pc := 78) (tgt := 85) hx hb dX8_strikesWith_78 (by decide) (fun c_5 => ?_) (fun c_5 => ?_)
    · skip
      refine lv_iload (pc := 85) hx hb dX8_strikesWith_85 (lv_at hl 0 rfl) ?_
      exact z_iret cx hr hlk dX8_strikesWith_87 (by first | rfl | (simp [stW, c_1, c_2, c_3, c_4, c_5, i_nlt.mpr c_5]; done))
    · skip
      refine lv_iconst (pc := 81) (v := 1) hx hb dX8_strikesWith_81 (by decide) ?_
      refine lv_goto (pc := 82) (tgt := 87) hx hb dX8_strikesWith_82 (by decide) ?_
      exact z_iret cx hr hlk dX8_strikesWith_87 (by first | rfl | (simp [stW, c_1, c_2, c_3, c_4, c_5, i_nle.mp c_5]; done))
  by_cases c_6 : g5 sv n 0 = 5
  · rw [c_6]
    refine lv_tableIn (pc := 6) (tgt := 101) hx hb dX8_strikesWith_6 (by decide) (by decide) rfl (by decide) ?_
    refine lv_iload_n (pc := 101) hx hb dX8_strikesWith_101 rfl (lv_at hl 2 rfl) ?_
    exact z_iret cx hr hlk dX8_strikesWith_102 (by first | rfl | (simp [stW, c_1, c_2, c_3, c_4, c_6]; done))
  by_cases c_7 : g5 sv n 0 = 6
  · rw [c_7]
    refine lv_tableIn (pc := 6) (tgt := 88) hx hb dX8_strikesWith_6 (by decide) (by decide) rfl (by decide) ?_
    refine lv_iload_n (pc := 88) hx hb dX8_strikesWith_88 rfl (lv_at hl 2 rfl) ?_
    refine lv_aload_n (pc := 89) hx hb dX8_strikesWith_89 rfl (lv_at hl 0 rfl) ?_
    refine lv_aload_n (pc := 90) hx hb dX8_strikesWith_90 rfl (lv_at hl 0 rfl) ?_
    refine lv_iload_n (pc := 91) hx hb dX8_strikesWith_91 rfl (lv_at hl 1 rfl) ?_
    refine lv_iconst (pc := 92) (v := 1) hx hb dX8_strikesWith_92 (by decide) ?_
    refine k_X8_of (pc := 93) (n := n) (k := 1) cx hW (by first | assumption | omega) (by first | assumption | omega) m_ml_X8_140 ⟨Nat.le_of_ble_eq_true rfl, Nat.le_of_ble_eq_true rfl⟩ hl.1 rfl (by simp [Value.category]) dX8_strikesWith_93 ⟨Nat.le_refl _, Nat.le_refl _⟩ ?_
    refine z_tope (y := nI (onN sv n)) (on_nat hC hI.2.2.2.1 hn).2 ?_
    refine k_X8_lossNow (pc := 96) (n := onN sv n) cx hW hI (on_nat hC hI.2.2.2.1 hn).1 m_ml_X8_137 ⟨Nat.le_of_ble_eq_true rfl, Nat.le_of_ble_eq_true rfl⟩ hl.1 rfl (by simp [Value.category]) dX8_strikesWith_96 ⟨Nat.le_refl _, Nat.le_refl _⟩ ?_
    refine lv_iadd (pc := 99) hx hb dX8_strikesWith_99 ?_
    exact z_iret cx hr hlk dX8_strikesWith_100 (by first | rfl | (simp [stW, c_1, c_2, c_3, c_4, c_6, c_7]; done))
  refine lv_tableOut (pc := 6) (tgt := 101) hx hb dX8_strikesWith_6 (by have := lv_neT c_1 (a := 1) (by decide); have := lv_neT c_2 (a := 2) (by decide); have := lv_neT c_3 (a := 3) (by decide); have := lv_neT c_4 (a := 4) (by decide); have := lv_neT c_6 (a := 5) (by decide); have := lv_neT c_7 (a := 6) (by decide); omega) (by decide) ?_
  refine lv_iload_n (pc := 101) hx hb dX8_strikesWith_101 rfl (lv_at hl 2 rfl) ?_
  exact z_iret cx hr hlk dX8_strikesWith_102 (by first | rfl | (simp [stW, c_1, c_2, c_3, c_4, c_6, c_7]; done))
theorem k_X8_strikesWith {p : Program} {l : Launch} {e : Env} {R : Room} {s : State} {m : MethodId} {args : Array Value} {below : List Frame} {meth : Method} {c : Code} {H : Heap} {locs : List Loc} {cells slots : Nat} {Q : State → Prop} {cc : ByteArray} {pc index : Nat} {ls : Array Slot} {rest st0 : List Value} {E : zE} {own : String} {nL : Nat} {a : Nat → Nat} {sv im rd wa kp so sz el pr ts nu bu ht : Nat → Int32} {th po ba en td : Int32} {ig : Bool} {ij : Bool} {n : Nat} {gap dry : Int32} (cx : Cx E p s args m c own cc nL) (hW : WW E (wM a (E.2.1 0) sv im rd wa kp so sz el pr ts nu bu ht (bI ig) th po ba en td (bI ij)) gN H) (hI : Inv sv) (hn : n < nT sv) (zl : Cond.methodLink own index yX8_strikesWith ∈ AllW) (zR : 2 + 1 ≤ R.frames ∧ 8 + (5 + 11) + 46 ≤ R.locals) (zs : ls.size = nL) (zt : st0 = ([.int (nI n), .int gap, .int dry] : List Value).reverse ++ .ref (a 0) :: rest) (z8 : (rest.map fun v => v.category).sum ≤ 8) (zd : decode cc pc = .ok (.invokevirtual index, 3)) (zf : cells ≤ R.cells ∧ slots ≤ R.slots) (kk : W p l e R s m args below meth c H locs cells slots Q (F0 m (pc + 3) ls (.int (stW sv n gap dry) :: rest))) : W p l e R s m args below meth c H locs cells slots Q (F0 m pc ls st0) :=
  z_callV cx vm_X8_strikesWith (c_X8_strikesWith l E a sv im rd wa kp so sz el pr ts nu bu ht th po ba en td ig ij n gap dry hI hn) (z_rec cx.2 (hW.at 0 rfl) rfl) hW zl ⟨rfl, rfl⟩ zR rfl zs zt z8 zd zf kk
theorem vm_X8_strikesOf : zVm yX8_strikesOf cX8_strikesOf 2 (some FieldType.int) 1 := ⟨m_co_X8_strikesOf, m_in_RX8, ⟨m_im_X8_strikesOf, m_se_X8_X8_strikesOf⟩, by decide +kernel, by decide +kernel, by decide +kernel⟩
set_option maxHeartbeats 4000000 in
set_option maxRecDepth 100000 in
theorem c_X8_strikesOf (l : Launch) (E : zE) (a : Nat → Nat) (sv im rd wa kp so sz el pr ts nu bu ht : Nat → Int32) (th po ba en td : Int32) (ig : Bool) (ij : Bool) (n : Nat) (hI : Inv sv) (hn : n < nT sv) : Met l yX8_strikesOf (.code yX8_strikesOf cX8_strikesOf 2 (some FieldType.int) :: AllW) (rm0' 3 70) (zP E (fun H => WW E (wM a (E.2.1 0) sv im rd wa kp so sz el pr ts nu bu ht (bI ig) th po ba en td (bI ij)) gN H) [.ref (a 0), .int (nI n)]) (rQ (.int (stO sv n))) 0 0 nF := by
  refine z_body (own := RX8) (by decide) rfl rfl ?_
  intro p e s m args below meth c ls cx hr hlk hnm hW hl
  have hx := cx.x
  have hb := cx.b
  have hl : lv_has ls 2 [(0, .ref (a 0)), (1, .int (nI n))] := hl
  have hC := hI.1
  have hP10 := (Inv.n0 hC).2
  have hT7 := (Inv.n1 hC).2
  have hA24 := (Inv.n2 hC).2
  refine lv_aload_n (pc := 0) hx hb dX8_strikesOf_0 rfl (lv_at hl 0 rfl) ?_
  refine lv_iload_n (pc := 1) hx hb dX8_strikesOf_1 rfl (lv_at hl 1 rfl) ?_
  refine lv_aload_n (pc := 2) hx hb dX8_strikesOf_2 rfl (lv_at hl 0 rfl) ?_
  refine lv_iload_n (pc := 3) hx hb dX8_strikesOf_3 rfl (lv_at hl 1 rfl) ?_
  refine lv_iconst (pc := 4) (v := 2) hx hb dX8_strikesOf_4 (by decide) ?_
  refine k_X8_of (pc := 5) (n := n) (k := 2) cx hW (by first | assumption | omega) (by first | assumption | omega) m_ml_X8_140 ⟨Nat.le_of_ble_eq_true rfl, Nat.le_of_ble_eq_true rfl⟩ hl.1 rfl (by simp [Value.category]) dX8_strikesOf_5 ⟨Nat.le_refl _, Nat.le_refl _⟩ ?_
  refine lv_aload_n (pc := 8) hx hb dX8_strikesOf_8 rfl (lv_at hl 0 rfl) ?_
  refine z_getM (pc := 9) cx (hW.at 0 rfl) 0 rfl m_fl_X8_9 rfl dX8_strikesOf_9 ?_
  refine lv_iconst (pc := 12) (v := 4) hx hb dX8_strikesOf_12 (by decide) ?_
  refine z_iald (pc := 13) (f := sv) (j := 4) cx (hW.at 1 rfl) rfl (by decide) (by decide) dX8_strikesOf_13 ?_
  refine k_X8_strikesWith (pc := 14) (n := n) (gap := g5 sv n 2) (dry := sv 4) cx hW (by first | assumption | omega) (by first | assumption | omega) m_ml_X8_186 ⟨Nat.le_of_ble_eq_true rfl, Nat.le_of_ble_eq_true rfl⟩ hl.1 rfl (by simp [Value.category]) dX8_strikesOf_14 ⟨Nat.le_refl _, Nat.le_refl _⟩ ?_
  exact z_iret cx hr hlk dX8_strikesOf_17 (by first | rfl | (simp []; done))
theorem k_X8_strikesOf {p : Program} {l : Launch} {e : Env} {R : Room} {s : State} {m : MethodId} {args : Array Value} {below : List Frame} {meth : Method} {c : Code} {H : Heap} {locs : List Loc} {cells slots : Nat} {Q : State → Prop} {cc : ByteArray} {pc index : Nat} {ls : Array Slot} {rest st0 : List Value} {E : zE} {own : String} {nL : Nat} {a : Nat → Nat} {sv im rd wa kp so sz el pr ts nu bu ht : Nat → Int32} {th po ba en td : Int32} {ig : Bool} {ij : Bool} {n : Nat} (cx : Cx E p s args m c own cc nL) (hW : WW E (wM a (E.2.1 0) sv im rd wa kp so sz el pr ts nu bu ht (bI ig) th po ba en td (bI ij)) gN H) (hI : Inv sv) (hn : n < nT sv) (zl : Cond.methodLink own index yX8_strikesOf ∈ AllW) (zR : 3 + 1 ≤ R.frames ∧ 8 + (2 + 11) + 70 ≤ R.locals) (zs : ls.size = nL) (zt : st0 = ([.int (nI n)] : List Value).reverse ++ .ref (a 0) :: rest) (z8 : (rest.map fun v => v.category).sum ≤ 8) (zd : decode cc pc = .ok (.invokevirtual index, 3)) (zf : cells ≤ R.cells ∧ slots ≤ R.slots) (kk : W p l e R s m args below meth c H locs cells slots Q (F0 m (pc + 3) ls (.int (stO sv n) :: rest))) : W p l e R s m args below meth c H locs cells slots Q (F0 m pc ls st0) :=
  z_callV cx vm_X8_strikesOf (c_X8_strikesOf l E a sv im rd wa kp so sz el pr ts nu bu ht th po ba en td ig ij n hI hn) (z_rec cx.2 (hW.at 0 rfl) rfl) hW zl ⟨rfl, rfl⟩ zR rfl zs zt z8 zd zf kk
theorem vm_X8_swingsOf : zVm yX8_swingsOf cX8_swingsOf 7 (some FieldType.int) 3 := ⟨m_co_X8_swingsOf, m_in_RX8, ⟨m_im_X8_swingsOf, m_se_X8_X8_swingsOf⟩, by decide +kernel, by decide +kernel, by decide +kernel⟩
set_option maxHeartbeats 4000000 in
set_option maxRecDepth 100000 in
theorem c_X8_swingsOf (l : Launch) (E : zE) (a : Nat → Nat) (sv im rd wa kp so sz el pr ts nu bu ht : Nat → Int32) (th po ba en td : Int32) (ig : Bool) (ij : Bool) (n : Nat) (f st : Int32) (hI : Inv sv) (hn : n < nT sv) (hf : rg f 1 1200) : Met l yX8_swingsOf (.code yX8_swingsOf cX8_swingsOf 7 (some FieldType.int) :: AllW) (rm0' 16 474) (zP E (fun H => WW E (wM a (E.2.1 0) sv im rd wa kp so sz el pr ts nu bu ht (bI ig) th po ba en td (bI ij)) gN H) [.ref (a 0), .int (nI n), .int f, .int st]) (rQ (.int (swT sv n f st))) 0 0 nF := by
  refine z_body (own := RX8) (by decide) rfl rfl ?_
  intro p e s m args below meth c ls cx hr hlk hnm hW hl
  have hx := cx.x
  have hb := cx.b
  have hl : lv_has ls 7 [(0, .ref (a 0)), (1, .int (nI n)), (2, .int f), (3, .int st)] := hl
  have hC := hI.1
  have hP10 := (Inv.n0 hC).2
  have hT7 := (Inv.n1 hC).2
  have hA24 := (Inv.n2 hC).2
  refine lv_aload_n (pc := 0) hx hb dX8_swingsOf_0 rfl (lv_at hl 0 rfl) ?_
  refine lv_iload_n (pc := 1) hx hb dX8_swingsOf_1 rfl (lv_at hl 1 rfl) ?_
  refine lv_iconst (pc := 2) (v := 1) hx hb dX8_swingsOf_2 (by decide) ?_
  refine k_X8_of (pc := 3) (n := n) (k := 1) cx hW (by first | assumption | omega) (by first | assumption | omega) m_ml_X8_140 ⟨Nat.le_of_ble_eq_true rfl, Nat.le_of_ble_eq_true rfl⟩ hl.1 rfl (by simp [Value.category]) dX8_swingsOf_3 ⟨Nat.le_refl _, Nat.le_refl _⟩ ?_
  refine z_tope (y := nI (onN sv n)) (on_nat hC hI.2.2.2.1 hn).2 ?_
  refine lv_istore (pc := 6) (lv' := [(4, .int (nI (onN sv n))), (0, .ref (a 0)), (1, .int (nI n)), (2, .int f), (3, .int st)]) hx hb dX8_swingsOf_6 hl (by decide) rfl (fun ls hl => ?_)
  refine lv_aload_n (pc := 8) hx hb dX8_swingsOf_8 rfl (lv_at hl 1 rfl) ?_
  refine lv_iload_n (pc := 9) hx hb dX8_swingsOf_9 rfl (lv_at hl 2 rfl) ?_
  refine lv_iconst (pc := 10) (v := 0) hx hb dX8_swingsOf_10 (by decide) ?_
  refine k_X8_of (pc := 11) (n := n) (k := 0) cx hW (by first | assumption | omega) (by first | assumption | omega) m_ml_X8_140 ⟨Nat.le_of_ble_eq_true rfl, Nat.le_of_ble_eq_true rfl⟩ hl.1 rfl (by simp [Value.category]) dX8_swingsOf_11 ⟨Nat.le_refl _, Nat.le_refl _⟩ ?_
  by_cases c_1 : g5 sv n 0 = 2
  · rw [c_1]
    refine lv_tableIn (pc := 14) (tgt := 52) hx hb dX8_swingsOf_14 (by decide) (by decide) rfl (by decide) ?_
    refine lv_aload_n (pc := 52) hx hb dX8_swingsOf_52 rfl (lv_at hl 1 rfl) ?_
    refine lv_iload (pc := 53) hx hb dX8_swingsOf_53 (lv_at hl 0 rfl) ?_
    refine lv_iload_n (pc := 55) hx hb dX8_swingsOf_55 rfl (lv_at hl 3 rfl) ?_
    refine lv_iload_n (pc := 56) hx hb dX8_swingsOf_56 rfl (lv_at hl 4 rfl) ?_
    refine k_X8_swingOf (pc := 57) (n := onN sv n) (f := f) (st := st) cx hW hI (rg_w hf (by decide) (by decide)) (on_nat hC hI.2.2.2.1 hn).1 m_ml_X8_174 ⟨Nat.le_of_ble_eq_true rfl, Nat.le_of_ble_eq_true rfl⟩ hl.1 rfl (by simp [Value.category]) dX8_swingsOf_57 ⟨Nat.le_refl _, Nat.le_refl _⟩ ?_
    refine lv_istore (pc := 60) (lv' := [(5, .int (sw sv (onN sv n) f st)), (4, .int (nI (onN sv n))), (0, .ref (a 0)), (1, .int (nI n)), (2, .int f), (3, .int st)]) hx hb dX8_swingsOf_60 hl (by decide) rfl (fun ls hl => ?_)
    refine lv_aload_n (pc := 62) hx hb dX8_swingsOf_62 rfl (lv_at hl 2 rfl) ?_
    refine lv_iload (pc := 63) hx hb dX8_swingsOf_63 (lv_at hl 1 rfl) ?_
    refine lv_iconst (pc := 65) (v := 2) hx hb dX8_swingsOf_65 (by decide) ?_
    refine lv_iload_n (pc := 66) hx hb dX8_swingsOf_66 rfl (lv_at hl 4 rfl) ?_
    refine lv_imul (pc := 67) hx hb dX8_swingsOf_67 ?_
    refine lv_iload_n (pc := 68) hx hb dX8_swingsOf_68 rfl (lv_at hl 5 rfl) ?_
    refine k_X8_swingOf (pc := 69) (n := onN sv n) (f := 2 * f) (st := st) cx hW hI (dbl_rg hf) (on_nat hC hI.2.2.2.1 hn).1 m_ml_X8_174 ⟨Nat.le_of_ble_eq_true rfl, Nat.le_of_ble_eq_true rfl⟩ hl.1 rfl (by simp [Value.category]) dX8_swingsOf_69 ⟨Nat.le_refl _, Nat.le_refl _⟩ ?_
    refine lv_istore (pc := 72) (lv' := [(6, .int (sw sv (onN sv n) (2 * f) st)), (5, .int (sw sv (onN sv n) f st)), (4, .int (nI (onN sv n))), (0, .ref (a 0)), (1, .int (nI n)), (2, .int f), (3, .int st)]) hx hb dX8_swingsOf_72 hl (by decide) rfl (fun ls hl => ?_)
    refine lv_iload (pc := 74) hx hb dX8_swingsOf_74 (lv_at hl 1 rfl) ?_
    refine lv_iload (pc := 76) hx hb dX8_swingsOf_76 (lv_at hl 0 rfl) ?_
    refine lv_icmp_le (pc := 78) (tgt := 86) hx hb dX8_swingsOf_78 (by decide) (fun c_2 => ?_) (fun c_2 => ?_)
    · skip
      refine lv_iload (pc := 86) hx hb dX8_swingsOf_86 (lv_at hl 0 rfl) ?_
      exact z_iret cx hr hlk dX8_swingsOf_88 (by first | rfl | (simp [swT, mxI, c_1, c_2, i_nlt.mpr c_2]; done))
    · skip
      refine lv_iload (pc := 81) hx hb dX8_swingsOf_81 (lv_at hl 1 rfl) ?_
      refine lv_goto (pc := 83) (tgt := 88) hx hb dX8_swingsOf_83 (by decide) ?_
      exact z_iret cx hr hlk dX8_swingsOf_88 (by first | rfl | (simp [swT, mxI, c_1, c_2, i_nle.mp c_2]; done))
  by_cases c_3 : g5 sv n 0 = 3
  · rw [c_3]
    refine lv_tableIn (pc := 14) (tgt := 186) hx hb dX8_swingsOf_14 (by decide) (by decide) rfl (by decide) ?_
    refine lv_aload_n (pc := 186) hx hb dX8_swingsOf_186 rfl (lv_at hl 1 rfl) ?_
    refine lv_iload (pc := 187) hx hb dX8_swingsOf_187 (lv_at hl 0 rfl) ?_
    refine lv_iload_n (pc := 189) hx hb dX8_swingsOf_189 rfl (lv_at hl 3 rfl) ?_
    refine lv_iload_n (pc := 190) hx hb dX8_swingsOf_190 rfl (lv_at hl 4 rfl) ?_
    refine k_X8_swingOf (pc := 191) (n := onN sv n) (f := f) (st := st) cx hW hI (rg_w hf (by decide) (by decide)) (on_nat hC hI.2.2.2.1 hn).1 m_ml_X8_174 ⟨Nat.le_of_ble_eq_true rfl, Nat.le_of_ble_eq_true rfl⟩ hl.1 rfl (by simp [Value.category]) dX8_swingsOf_191 ⟨Nat.le_refl _, Nat.le_refl _⟩ ?_
    exact z_iret cx hr hlk dX8_swingsOf_194 (by first | rfl | (simp [swT, mxI, c_1, c_3]; done))
  by_cases c_4 : g5 sv n 0 = 4
  · rw [c_4]
    refine lv_tableIn (pc := 14) (tgt := 186) hx hb dX8_swingsOf_14 (by decide) (by decide) rfl (by decide) ?_
    refine lv_aload_n (pc := 186) hx hb dX8_swingsOf_186 rfl (lv_at hl 1 rfl) ?_
    refine lv_iload (pc := 187) hx hb dX8_swingsOf_187 (lv_at hl 0 rfl) ?_
    refine lv_iload_n (pc := 189) hx hb dX8_swingsOf_189 rfl (lv_at hl 3 rfl) ?_
    refine lv_iload_n (pc := 190) hx hb dX8_swingsOf_190 rfl (lv_at hl 4 rfl) ?_
    refine k_X8_swingOf (pc := 191) (n := onN sv n) (f := f) (st := st) cx hW hI (rg_w hf (by decide) (by decide)) (on_nat hC hI.2.2.2.1 hn).1 m_ml_X8_174 ⟨Nat.le_of_ble_eq_true rfl, Nat.le_of_ble_eq_true rfl⟩ hl.1 rfl (by simp [Value.category]) dX8_swingsOf_191 ⟨Nat.le_refl _, Nat.le_refl _⟩ ?_
    exact z_iret cx hr hlk dX8_swingsOf_194 (by first | rfl | (simp [swT, mxI, c_1, c_3, c_4]; done))
  by_cases c_5 : g5 sv n 0 = 5
  · rw [c_5]
    refine lv_tableIn (pc := 14) (tgt := 89) hx hb dX8_swingsOf_14 (by decide) (by decide) rfl (by decide) ?_
    refine lv_iconst (pc := 89) (v := 0) hx hb dX8_swingsOf_89 (by decide) ?_
    refine lv_istore (pc := 90) (lv' := [(5, .int 0), (4, .int (nI (onN sv n))), (0, .ref (a 0)), (1, .int (nI n)), (2, .int f), (3, .int st)]) hx hb dX8_swingsOf_90 hl (by decide) rfl (fun ls hl => ?_)
    refine lv_iconst (pc := 92) (v := 0) hx hb dX8_swingsOf_92 (by decide) ?_
    refine lv_istore (pc := 93) (lv' := [(6, .int 0), (5, .int 0), (4, .int (nI (onN sv n))), (0, .ref (a 0)), (1, .int (nI n)), (2, .int f), (3, .int st)]) hx hb dX8_swingsOf_93 hl (by decide) rfl (fun ls hl => ?_)
    have loop_95 : ∀ (k_95 : Nat) (i : Nat) (x6 : Int32) (x5 : Int32), (nP sv - i) < k_95 → (i ≤ nP sv) → x6 = nI i → x5 = swSum sv f st i → ∀ (ls : Array Slot), lv_has ls 7 [(6, .int x6), (5, .int x5), (4, .int (nI (onN sv n))), (0, .ref (a 0)), (1, .int (nI n)), (2, .int f), (3, .int st)] → W p l e (rm0' (16) (474)) s m args below meth c s.heap [] 0 0 (MQ below (rQ (.int (swT sv n f st))) args s 0 0 nF) (F0 m 95 ls []) := by
      intro k_95
      induction k_95 with
      | zero =>
        intro i x6 x5 hm
        exact absurd hm (Nat.not_lt_zero _)
      | succ k_95 ih_95 =>
        intro i x6 x5 hm_95 hi e_x6 e_x5  ls hl
        subst e_x6
        subst e_x5
        refine lv_iload (pc := 95) hx hb dX8_swingsOf_95 (lv_at hl 0 rfl) ?_
        refine lv_aload_n (pc := 97) hx hb dX8_swingsOf_97 rfl (lv_at hl 3 rfl) ?_
        refine z_getM (pc := 98) cx (hW.at 0 rfl) 0 rfl m_fl_X8_9 rfl dX8_swingsOf_98 ?_
        refine lv_iconst (pc := 101) (v := 0) hx hb dX8_swingsOf_101 (by decide) ?_
        refine z_iald (pc := 102) (f := sv) (j := 0) cx (hW.at 1 rfl) rfl (by decide) (by decide) dX8_swingsOf_102 ?_
        refine lv_icmp_ge (pc := 103) (tgt := 125) hx hb dX8_swingsOf_103 (by decide) (fun c_6 => ?_) (fun c_6 => ?_)
        · skip
          obtain rfl : i = nP sv := by have := ge_nat (a := i) rfl (Inv.n0 hC).1 (by omega) (by omega) c_6; omega
          refine lv_iload (pc := 125) hx hb dX8_swingsOf_125 (lv_at hl 1 rfl) ?_
          refine lv_iconst (pc := 127) (v := 4) hx hb dX8_swingsOf_127 (by decide) ?_
          refine lv_idiv (pc := 128) hx hb dX8_swingsOf_128 (by decide) ?_
          exact z_iret cx hr hlk dX8_swingsOf_129 (by first | rfl | (simp [swT, mxI, c_1, c_3, c_4, c_5]; done))
        · skip
          have hlt_i := lt_nat (a := i) rfl (Inv.n0 hC).1 (by omega) (by omega) c_6
          refine lv_iload (pc := 106) hx hb dX8_swingsOf_106 (lv_at hl 1 rfl) ?_
          refine lv_aload_n (pc := 108) hx hb dX8_swingsOf_108 rfl (lv_at hl 3 rfl) ?_
          refine lv_iload (pc := 109) hx hb dX8_swingsOf_109 (lv_at hl 0 rfl) ?_
          refine lv_iload_n (pc := 111) hx hb dX8_swingsOf_111 rfl (lv_at hl 5 rfl) ?_
          refine lv_iload_n (pc := 112) hx hb dX8_swingsOf_112 rfl (lv_at hl 6 rfl) ?_
          refine k_X8_swingOf (pc := 113) (n := i) (f := f) (st := st) cx hW hI (rg_w hf (by decide) (by decide)) hlt_i m_ml_X8_174 ⟨Nat.le_of_ble_eq_true rfl, Nat.le_of_ble_eq_true rfl⟩ hl.1 rfl (by simp [Value.category]) dX8_swingsOf_113 ⟨Nat.le_refl _, Nat.le_refl _⟩ ?_
          refine lv_iadd (pc := 116) hx hb dX8_swingsOf_116 ?_
          refine lv_istore (pc := 117) (lv' := [(5, .int ((swSum sv f st i) + (sw sv i f st))), (6, .int (nI i)), (4, .int (nI (onN sv n))), (0, .ref (a 0)), (1, .int (nI n)), (2, .int f), (3, .int st)]) hx hb dX8_swingsOf_117 hl (by decide) rfl (fun ls hl => ?_)
          refine lv_iinc (pc := 119) (v := nI (i + 1)) (lv' := [(6, .int (nI (i + 1))), (5, .int ((swSum sv f st i) + (sw sv i f st))), (4, .int (nI (onN sv n))), (0, .ref (a 0)), (1, .int (nI n)), (2, .int f), (3, .int st)]) hx hb dX8_swingsOf_119 hl (k := 1) rfl (nI_1 _) (by decide) rfl (fun ls hl => ?_)
          refine lv_goto (pc := 122) (tgt := 95) hx hb dX8_swingsOf_122 (by decide) ?_
          exact ih_95 (i + 1) (nI (i + 1)) ((swSum sv f st i) + (sw sv i f st)) (by omega) (by omega) (by first | rfl | (simp [swT, mxI, c_1, c_3, c_4, c_5]; done)) (by first | rfl | (simp [swT, mxI, c_1, c_3, c_4, c_5]; done)) ls (lv_sub hl [0, 1, 2, 3, 4, 5, 6] rfl)
    exact loop_95 ((nP sv - 0) + 1) 0 0 0 (Nat.lt_succ_self _) (by omega) (by first | rfl | (simp [swT, mxI, c_1, c_3, c_4, c_5]; done)) (by first | rfl | (simp [swT, mxI, c_1, c_3, c_4, c_5]; done)) ls (lv_sub hl [0, 1, 2, 3, 4, 5, 6] rfl)
  by_cases c_7 : g5 sv n 0 = 6
  · rw [c_7]
    refine lv_tableIn (pc := 14) (tgt := 130) hx hb dX8_swingsOf_14 (by decide) (by decide) rfl (by decide) ?_
    refine lv_aload_n (pc := 130) hx hb dX8_swingsOf_130 rfl (lv_at hl 1 rfl) ?_
    refine z_getM (pc := 131) cx (hW.at 0 rfl) 0 rfl m_fl_X8_9 rfl dX8_swingsOf_131 ?_
    refine lv_iconst (pc := 134) (v := 5) hx hb dX8_swingsOf_134 (by decide) ?_
    refine z_iald (pc := 135) (f := sv) (j := 5) cx (hW.at 1 rfl) rfl (by decide) (by decide) dX8_swingsOf_135 ?_
    refine lv_iconst (pc := 136) (v := 1) hx hb dX8_swingsOf_136 (by decide) ?_
    refine lv_icmp_ne (pc := 137) (tgt := 151) hx hb dX8_swingsOf_137 (by decide) (fun c_8 => ?_) (fun c_8 => ?_)
    · skip
      refine lv_iconst (pc := 151) (v := 0) hx hb dX8_swingsOf_151 (by decide) ?_
      exact z_iret cx hr hlk dX8_swingsOf_152 (by first | rfl | (simp [swT, mxI, c_1, c_3, c_4, c_5, c_7, c_8]; done))
    · skip
      refine lv_aload_n (pc := 140) hx hb dX8_swingsOf_140 rfl (lv_at hl 1 rfl) ?_
      refine lv_iload (pc := 141) hx hb dX8_swingsOf_141 (lv_at hl 0 rfl) ?_
      refine lv_iload_n (pc := 143) hx hb dX8_swingsOf_143 rfl (lv_at hl 3 rfl) ?_
      refine lv_iload_n (pc := 144) hx hb dX8_swingsOf_144 rfl (lv_at hl 4 rfl) ?_
      refine k_X8_swingOf (pc := 145) (n := onN sv n) (f := f) (st := st) cx hW hI (rg_w hf (by decide) (by decide)) (on_nat hC hI.2.2.2.1 hn).1 m_ml_X8_174 ⟨Nat.le_of_ble_eq_true rfl, Nat.le_of_ble_eq_true rfl⟩ hl.1 rfl (by simp [Value.category]) dX8_swingsOf_145 ⟨Nat.le_refl _, Nat.le_refl _⟩ ?_
      refine lv_goto (pc := 148) (tgt := 152) hx hb dX8_swingsOf_148 (by decide) ?_
      exact z_iret cx hr hlk dX8_swingsOf_152 (by first | rfl | (simp [swT, mxI, c_1, c_3, c_4, c_5, c_7, c_8]; done))
  by_cases c_9 : g5 sv n 0 = 7
  · rw [c_9]
    refine lv_tableIn (pc := 14) (tgt := 153) hx hb dX8_swingsOf_14 (by decide) (by decide) rfl (by decide) ?_
    refine lv_aload_n (pc := 153) hx hb dX8_swingsOf_153 rfl (lv_at hl 1 rfl) ?_
    refine z_getM (pc := 154) cx (hW.at 0 rfl) 0 rfl m_fl_X8_9 rfl dX8_swingsOf_154 ?_
    refine lv_bipush (pc := 157) (v := 6) hx hb dX8_swingsOf_157 (by decide) ?_
    refine z_iald (pc := 159) (f := sv) (j := 6) cx (hW.at 1 rfl) rfl (by decide) (by decide) dX8_swingsOf_159 ?_
    refine lv_aload_n (pc := 160) hx hb dX8_swingsOf_160 rfl (lv_at hl 1 rfl) ?_
    refine lv_iload_n (pc := 161) hx hb dX8_swingsOf_161 rfl (lv_at hl 2 rfl) ?_
    refine lv_iconst (pc := 162) (v := 3) hx hb dX8_swingsOf_162 (by decide) ?_
    refine k_X8_of (pc := 163) (n := n) (k := 3) cx hW (by first | assumption | omega) (by first | assumption | omega) m_ml_X8_140 ⟨Nat.le_of_ble_eq_true rfl, Nat.le_of_ble_eq_true rfl⟩ hl.1 rfl (by simp [Value.category]) dX8_swingsOf_163 ⟨Nat.le_refl _, Nat.le_refl _⟩ ?_
    refine lv_iconst (pc := 166) (v := 4) hx hb dX8_swingsOf_166 (by decide) ?_
    refine lv_irem (pc := 167) hx hb dX8_swingsOf_167 (by decide) ?_
    refine z_tope (y := irm (g5 sv n 3) 4) rfl ?_
    refine lv_icmp_ne (pc := 168) (tgt := 184) hx hb dX8_swingsOf_168 (by decide) (fun c_10 => ?_) (fun c_10 => ?_)
    · skip
      refine lv_iconst (pc := 184) (v := 0) hx hb dX8_swingsOf_184 (by decide) ?_
      exact z_iret cx hr hlk dX8_swingsOf_185 (by first | rfl | (simp [swT, mxI, c_1, c_3, c_4, c_5, c_7, c_9, c_10]; done))
    · skip
      refine lv_iload_n (pc := 171) hx hb dX8_swingsOf_171 rfl (lv_at hl 4 rfl) ?_
      refine lv_aload_n (pc := 172) hx hb dX8_swingsOf_172 rfl (lv_at hl 1 rfl) ?_
      refine lv_iload_n (pc := 173) hx hb dX8_swingsOf_173 rfl (lv_at hl 2 rfl) ?_
      refine lv_iconst (pc := 174) (v := 3) hx hb dX8_swingsOf_174 (by decide) ?_
      refine k_X8_of (pc := 175) (n := n) (k := 3) cx hW (by first | assumption | omega) (by first | assumption | omega) m_ml_X8_140 ⟨Nat.le_of_ble_eq_true rfl, Nat.le_of_ble_eq_true rfl⟩ hl.1 rfl (by simp [Value.category]) dX8_swingsOf_175 ⟨Nat.le_refl _, Nat.le_refl _⟩ ?_
      refine lv_iconst (pc := 178) (v := 1) hx hb dX8_swingsOf_178 (by decide) ?_
      refine lv_iadd (pc := 179) hx hb dX8_swingsOf_179 ?_
      refine lv_imul (pc := 180) hx hb dX8_swingsOf_180 ?_
      refine lv_goto (pc := 181) (tgt := 185) hx hb dX8_swingsOf_181 (by decide) ?_
      exact z_iret cx hr hlk dX8_swingsOf_185 (by first | rfl | (simp [swT, mxI, c_1, c_3, c_4, c_5, c_7, c_9, c_10]; done))
  refine lv_tableOut (pc := 14) (tgt := 186) hx hb dX8_swingsOf_14 (by have := lv_neT c_1 (a := 2) (by decide); have := lv_neT c_3 (a := 3) (by decide); have := lv_neT c_4 (a := 4) (by decide); have := lv_neT c_5 (a := 5) (by decide); have := lv_neT c_7 (a := 6) (by decide); have := lv_neT c_9 (a := 7) (by decide); omega) (by decide) ?_
  refine lv_aload_n (pc := 186) hx hb dX8_swingsOf_186 rfl (lv_at hl 1 rfl) ?_
  refine lv_iload (pc := 187) hx hb dX8_swingsOf_187 (lv_at hl 0 rfl) ?_
  refine lv_iload_n (pc := 189) hx hb dX8_swingsOf_189 rfl (lv_at hl 3 rfl) ?_
  refine lv_iload_n (pc := 190) hx hb dX8_swingsOf_190 rfl (lv_at hl 4 rfl) ?_
  refine k_X8_swingOf (pc := 191) (n := onN sv n) (f := f) (st := st) cx hW hI (rg_w hf (by decide) (by decide)) (on_nat hC hI.2.2.2.1 hn).1 m_ml_X8_174 ⟨Nat.le_of_ble_eq_true rfl, Nat.le_of_ble_eq_true rfl⟩ hl.1 rfl (by simp [Value.category]) dX8_swingsOf_191 ⟨Nat.le_refl _, Nat.le_refl _⟩ ?_
  exact z_iret cx hr hlk dX8_swingsOf_194 (by first | rfl | (simp [swT, mxI, c_1, c_3, c_4, c_5, c_7, c_9]; done))
theorem k_X8_swingsOf {p : Program} {l : Launch} {e : Env} {R : Room} {s : State} {m : MethodId} {args : Array Value} {below : List Frame} {meth : Method} {c : Code} {H : Heap} {locs : List Loc} {cells slots : Nat} {Q : State → Prop} {cc : ByteArray} {pc index : Nat} {ls : Array Slot} {rest st0 : List Value} {E : zE} {own : String} {nL : Nat} {a : Nat → Nat} {sv im rd wa kp so sz el pr ts nu bu ht : Nat → Int32} {th po ba en td : Int32} {ig : Bool} {ij : Bool} {n : Nat} {f st : Int32} (cx : Cx E p s args m c own cc nL) (hW : WW E (wM a (E.2.1 0) sv im rd wa kp so sz el pr ts nu bu ht (bI ig) th po ba en td (bI ij)) gN H) (hI : Inv sv) (hn : n < nT sv) (hf : rg f 1 1200) (zl : Cond.methodLink own index yX8_swingsOf ∈ AllW) (zR : 16 + 1 ≤ R.frames ∧ 8 + (7 + 11) + 474 ≤ R.locals) (zs : ls.size = nL) (zt : st0 = ([.int (nI n), .int f, .int st] : List Value).reverse ++ .ref (a 0) :: rest) (z8 : (rest.map fun v => v.category).sum ≤ 8) (zd : decode cc pc = .ok (.invokevirtual index, 3)) (zf : cells ≤ R.cells ∧ slots ≤ R.slots) (kk : W p l e R s m args below meth c H locs cells slots Q (F0 m (pc + 3) ls (.int (swT sv n f st) :: rest))) : W p l e R s m args below meth c H locs cells slots Q (F0 m pc ls st0) :=
  z_callV cx vm_X8_swingsOf (c_X8_swingsOf l E a sv im rd wa kp so sz el pr ts nu bu ht th po ba en td ig ij n f st hI hn hf) (z_rec cx.2 (hW.at 0 rfl) rfl) hW zl ⟨rfl, rfl⟩ zR rfl zs zt z8 zd zf kk
theorem vm_X8_buzzesAt : zVm yX8_buzzesAt cX8_buzzesAt 4 (some FieldType.boolean) 3 := ⟨m_co_X8_buzzesAt, m_in_RX8, ⟨m_im_X8_buzzesAt, m_se_X8_X8_buzzesAt⟩, by decide +kernel, by decide +kernel, by decide +kernel⟩
set_option maxHeartbeats 4000000 in
set_option maxRecDepth 100000 in
theorem c_X8_buzzesAt (l : Launch) (E : zE) (a : Nat → Nat) (sv im rd wa kp so sz el pr ts nu bu ht : Nat → Int32) (th po ba en td : Int32) (ig : Bool) (ij : Bool) (n : Nat) (f st : Int32) (hI : Inv sv) (hn : n < nT sv) (hf : rg f 1 1200) : Met l yX8_buzzesAt (.code yX8_buzzesAt cX8_buzzesAt 4 (some FieldType.boolean) :: AllW) (rm0' 17 500) (zP E (fun H => WW E (wM a (E.2.1 0) sv im rd wa kp so sz el pr ts nu bu ht (bI ig) th po ba en td (bI ij)) gN H) [.ref (a 0), .int (nI n), .int f, .int st]) (rQ (.int (bI (bzA sv n f st)))) 0 0 nF := by
  refine z_body (own := RX8) (by decide) rfl rfl ?_
  intro p e s m args below meth c ls cx hr hlk hnm hW hl
  have hx := cx.x
  have hb := cx.b
  have hl : lv_has ls 4 [(0, .ref (a 0)), (1, .int (nI n)), (2, .int f), (3, .int st)] := hl
  have hC := hI.1
  have hP10 := (Inv.n0 hC).2
  have hT7 := (Inv.n1 hC).2
  have hA24 := (Inv.n2 hC).2
  refine lv_aload_n (pc := 0) hx hb dX8_buzzesAt_0 rfl (lv_at hl 0 rfl) ?_
  refine lv_iload_n (pc := 1) hx hb dX8_buzzesAt_1 rfl (lv_at hl 1 rfl) ?_
  refine lv_iload_n (pc := 2) hx hb dX8_buzzesAt_2 rfl (lv_at hl 2 rfl) ?_
  refine lv_iload_n (pc := 3) hx hb dX8_buzzesAt_3 rfl (lv_at hl 3 rfl) ?_
  refine k_X8_swingsOf (pc := 4) (n := n) (f := f) (st := st) cx hW (by first | assumption | omega) (by first | assumption | omega) (by first | assumption | omega) m_ml_X8_189 ⟨Nat.le_of_ble_eq_true rfl, Nat.le_of_ble_eq_true rfl⟩ hl.1 rfl (by simp [Value.category]) dX8_buzzesAt_4 ⟨Nat.le_refl _, Nat.le_refl _⟩ ?_
  refine lv_aload_n (pc := 7) hx hb dX8_buzzesAt_7 rfl (lv_at hl 0 rfl) ?_
  refine lv_iload_n (pc := 8) hx hb dX8_buzzesAt_8 rfl (lv_at hl 1 rfl) ?_
  refine k_X8_strikesOf (pc := 9) (n := n) cx hW (by first | assumption | omega) (by first | assumption | omega) m_ml_X8_192 ⟨Nat.le_of_ble_eq_true rfl, Nat.le_of_ble_eq_true rfl⟩ hl.1 rfl (by simp [Value.category]) dX8_buzzesAt_9 ⟨Nat.le_refl _, Nat.le_refl _⟩ ?_
  refine lv_icmp_le (pc := 12) (tgt := 19) hx hb dX8_buzzesAt_12 (by decide) (fun c_1 => ?_) (fun c_1 => ?_)
  · skip
    refine lv_iconst (pc := 19) (v := 0) hx hb dX8_buzzesAt_19 (by decide) ?_
    exact z_zret cx hr hlk dX8_buzzesAt_20 (by first | rfl | (simp [bzA, bI, c_1, i_nlt.mpr c_1]; done))
  · skip
    refine lv_iconst (pc := 15) (v := 1) hx hb dX8_buzzesAt_15 (by decide) ?_
    refine lv_goto (pc := 16) (tgt := 20) hx hb dX8_buzzesAt_16 (by decide) ?_
    exact z_zret cx hr hlk dX8_buzzesAt_20 (by first | rfl | (simp [bzA, bI, c_1, i_nle.mp c_1]; done))
theorem k_X8_buzzesAt {p : Program} {l : Launch} {e : Env} {R : Room} {s : State} {m : MethodId} {args : Array Value} {below : List Frame} {meth : Method} {c : Code} {H : Heap} {locs : List Loc} {cells slots : Nat} {Q : State → Prop} {cc : ByteArray} {pc index : Nat} {ls : Array Slot} {rest st0 : List Value} {E : zE} {own : String} {nL : Nat} {a : Nat → Nat} {sv im rd wa kp so sz el pr ts nu bu ht : Nat → Int32} {th po ba en td : Int32} {ig : Bool} {ij : Bool} {n : Nat} {f st : Int32} (cx : Cx E p s args m c own cc nL) (hW : WW E (wM a (E.2.1 0) sv im rd wa kp so sz el pr ts nu bu ht (bI ig) th po ba en td (bI ij)) gN H) (hI : Inv sv) (hn : n < nT sv) (hf : rg f 1 1200) (zl : Cond.methodLink own index yX8_buzzesAt ∈ AllW) (zR : 17 + 1 ≤ R.frames ∧ 8 + (4 + 11) + 500 ≤ R.locals) (zs : ls.size = nL) (zt : st0 = ([.int (nI n), .int f, .int st] : List Value).reverse ++ .ref (a 0) :: rest) (z8 : (rest.map fun v => v.category).sum ≤ 8) (zd : decode cc pc = .ok (.invokevirtual index, 3)) (zf : cells ≤ R.cells ∧ slots ≤ R.slots) (kk : W p l e R s m args below meth c H locs cells slots Q (F0 m (pc + 3) ls (.int (bI (bzA sv n f st)) :: rest))) : W p l e R s m args below meth c H locs cells slots Q (F0 m pc ls st0) :=
  z_callV cx vm_X8_buzzesAt (c_X8_buzzesAt l E a sv im rd wa kp so sz el pr ts nu bu ht th po ba en td ig ij n f st hI hn hf) (z_rec cx.2 (hW.at 0 rfl) rfl) hW zl ⟨rfl, rfl⟩ zR rfl zs zt z8 zd zf kk
theorem vm_X8_buzzes : zVm yX8_buzzes cX8_buzzes 5 (some FieldType.int) 4 := ⟨m_co_X8_buzzes, m_in_RX8, ⟨m_im_X8_buzzes, m_se_X8_X8_buzzes⟩, by decide +kernel, by decide +kernel, by decide +kernel⟩
set_option maxHeartbeats 4000000 in
set_option maxRecDepth 100000 in
theorem c_X8_buzzes (l : Launch) (E : zE) (a : Nat → Nat) (sv im rd wa kp so sz el pr ts nu bu ht : Nat → Int32) (th po ba en td : Int32) (ig : Bool) (ij : Bool) (x f st w : Int32) (hI : Inv sv) : Met l yX8_buzzes (.code yX8_buzzes cX8_buzzes 5 (some FieldType.int) :: AllW) (rm0' 18 523) (zP E (fun H => WW E (wM a (E.2.1 0) sv im rd wa kp so sz el pr ts nu bu ht (bI ig) th po ba en td (bI ij)) gN H) [.ref (a 0), .int x, .int f, .int st, .int w]) (rQ (.int (buzzesP sv x f st w))) 0 0 nF := by
  refine z_body (own := RX8) (by decide) rfl rfl ?_
  intro p e s m args below meth c ls cx hr hlk hnm hW hl
  have hx := cx.x
  have hb := cx.b
  have hl : lv_has ls 5 [(0, .ref (a 0)), (1, .int x), (2, .int f), (3, .int st), (4, .int w)] := hl
  have hC := hI.1
  have hP10 := (Inv.n0 hC).2
  have hT7 := (Inv.n1 hC).2
  have hA24 := (Inv.n2 hC).2
  refine lv_aload_n (pc := 0) hx hb dX8_buzzes_0 rfl (lv_at hl 0 rfl) ?_
  refine lv_iload_n (pc := 1) hx hb dX8_buzzes_1 rfl (lv_at hl 1 rfl) ?_
  refine k_X8_isThing (pc := 2) (x := x) cx hW  m_ml_X8_143 ⟨Nat.le_of_ble_eq_true rfl, Nat.le_of_ble_eq_true rfl⟩ hl.1 rfl (by simp [Value.category]) dX8_buzzes_2 ⟨Nat.le_refl _, Nat.le_refl _⟩ ?_
  refine z_ifeq (pc := 5) (tgt := 35) hx hb dX8_buzzes_5 (by decide) (fun c_1 => ?_) (fun c_1 => ?_)
  · skip
    refine lv_iconst (pc := 35) (v := (-1)) hx hb dX8_buzzes_35 (by decide) ?_
    exact z_iret cx hr hlk dX8_buzzes_36 (by first | rfl | (simp [buzzesP, bI, c_1]; done))
  · skip
    obtain ⟨n, hn, rfl⟩ := th_nat hC c_1
    have hN := iN_nI (n := n) (by omega)
    refine lv_iload_n (pc := 8) hx hb dX8_buzzes_8 rfl (lv_at hl 2 rfl) ?_
    refine k_X8_isTone (pc := 9) (x := f) cx  m_ml_X8_177 ⟨Nat.le_of_ble_eq_true rfl, Nat.le_of_ble_eq_true rfl⟩ hl.1 rfl (by simp [Value.category]) dX8_buzzes_9 ⟨Nat.le_refl _, Nat.le_refl _⟩ ?_
    refine z_ifeq (pc := 12) (tgt := 35) hx hb dX8_buzzes_12 (by decide) (fun c_2 => ?_) (fun c_2 => ?_)
    · skip
      refine lv_iconst (pc := 35) (v := (-1)) hx hb dX8_buzzes_35 (by decide) ?_
      exact z_iret cx hr hlk dX8_buzzes_36 (by first | rfl | (simp [buzzesP, bI, c_1, hN, c_2]; done))
    · skip
      have hf := tone_rg c_2
      refine lv_iload_n (pc := 15) hx hb dX8_buzzes_15 rfl (lv_at hl 3 rfl) ?_
      refine k_X8_isStrong (pc := 16) (x := st) cx  m_ml_X8_180 ⟨Nat.le_of_ble_eq_true rfl, Nat.le_of_ble_eq_true rfl⟩ hl.1 rfl (by simp [Value.category]) dX8_buzzes_16 ⟨Nat.le_refl _, Nat.le_refl _⟩ ?_
      refine z_ifeq (pc := 19) (tgt := 35) hx hb dX8_buzzes_19 (by decide) (fun c_3 => ?_) (fun c_3 => ?_)
      · skip
        refine lv_iconst (pc := 35) (v := (-1)) hx hb dX8_buzzes_35 (by decide) ?_
        exact z_iret cx hr hlk dX8_buzzes_36 (by first | rfl | (simp [buzzesP, bI, c_1, hN, c_2, c_3]; done))
      · skip
        refine lv_iload (pc := 22) hx hb dX8_buzzes_22 (lv_at hl 4 rfl) ?_
        refine lv_i2l (pc := 24) (v := Int32.toInt64 w) hx hb dX8_buzzes_24 rfl ?_
        refine lv_lconst (pc := 25) (v := 0) hx hb dX8_buzzes_25 rfl ?_
        refine lv_ldc2 (pc := 26) (v := 2) hx hb cx.own (cx.ts _ m_kl_X8_195) dX8_buzzes_26 ?_
        refine k_X8_isIn (pc := 29) (x := w) (y := 0) (z := 2) cx  m_ml_X8_53 ⟨Nat.le_of_ble_eq_true rfl, Nat.le_of_ble_eq_true rfl⟩ hl.1 rfl (by simp [Value.category]) dX8_buzzes_29 ⟨Nat.le_refl _, Nat.le_refl _⟩ ?_
        refine z_ifne (pc := 32) (tgt := 37) hx hb dX8_buzzes_32 (by decide) (fun c_4 => ?_) (fun c_4 => ?_)
        · skip
          refine lv_iload (pc := 37) hx hb dX8_buzzes_37 (lv_at hl 4 rfl) ?_
          refine lv_if_ne (pc := 39) (tgt := 52) hx hb dX8_buzzes_39 (by decide) (fun c_5 => ?_) (fun c_5 => ?_)
          · skip
            refine lv_iload (pc := 52) hx hb dX8_buzzes_52 (lv_at hl 4 rfl) ?_
            refine lv_iconst (pc := 54) (v := 1) hx hb dX8_buzzes_54 (by decide) ?_
            refine lv_icmp_ne (pc := 55) (tgt := 66) hx hb dX8_buzzes_55 (by decide) (fun c_6 => ?_) (fun c_6 => ?_)
            · skip
              refine lv_aload_n (pc := 66) hx hb dX8_buzzes_66 rfl (lv_at hl 0 rfl) ?_
              refine lv_iload_n (pc := 67) hx hb dX8_buzzes_67 rfl (lv_at hl 1 rfl) ?_
              refine lv_iload_n (pc := 68) hx hb dX8_buzzes_68 rfl (lv_at hl 2 rfl) ?_
              refine lv_iload_n (pc := 69) hx hb dX8_buzzes_69 rfl (lv_at hl 3 rfl) ?_
              refine k_X8_buzzesAt (pc := 70) (n := n) (f := f) (st := st) cx hW (by first | assumption | omega) (by first | assumption | omega) (by first | assumption | omega) m_ml_X8_197 ⟨Nat.le_of_ble_eq_true rfl, Nat.le_of_ble_eq_true rfl⟩ hl.1 rfl (by simp [Value.category]) dX8_buzzes_70 ⟨Nat.le_refl _, Nat.le_refl _⟩ ?_
              refine z_ifeq (pc := 73) (tgt := 80) hx hb dX8_buzzes_73 (by decide) (fun c_7 => ?_) (fun c_7 => ?_)
              · skip
                refine lv_iconst (pc := 80) (v := 0) hx hb dX8_buzzes_80 (by decide) ?_
                exact z_iret cx hr hlk dX8_buzzes_81 (by first | rfl | (simp [buzzesP, bI, c_1, hN, c_2, c_3, c_4, c_5, c_6, c_7]; done))
              · skip
                refine lv_iconst (pc := 76) (v := 1) hx hb dX8_buzzes_76 (by decide) ?_
                refine lv_goto (pc := 77) (tgt := 81) hx hb dX8_buzzes_77 (by decide) ?_
                exact z_iret cx hr hlk dX8_buzzes_81 (by first | rfl | (simp [buzzesP, bI, c_1, hN, c_2, c_3, c_4, c_5, c_6, c_7]; done))
            · skip
              have h0 : inL 1 0 2 = true := by decide
              refine lv_aload_n (pc := 58) hx hb dX8_buzzes_58 rfl (lv_at hl 0 rfl) ?_
              refine lv_iload_n (pc := 59) hx hb dX8_buzzes_59 rfl (lv_at hl 1 rfl) ?_
              refine k_X8_strikesOf (pc := 60) (n := n) cx hW (by first | assumption | omega) (by first | assumption | omega) m_ml_X8_192 ⟨Nat.le_of_ble_eq_true rfl, Nat.le_of_ble_eq_true rfl⟩ hl.1 rfl (by simp [Value.category]) dX8_buzzes_60 ⟨Nat.le_refl _, Nat.le_refl _⟩ ?_
              refine lv_goto (pc := 63) (tgt := 81) hx hb dX8_buzzes_63 (by decide) ?_
              exact z_iret cx hr hlk dX8_buzzes_81 (by first | rfl | (simp [buzzesP, bI, c_1, hN, c_2, c_3, c_4, c_5, c_6, h0]; done))
          · skip
            have h0 : inL 0 0 2 = true := by decide
            refine lv_aload_n (pc := 42) hx hb dX8_buzzes_42 rfl (lv_at hl 0 rfl) ?_
            refine lv_iload_n (pc := 43) hx hb dX8_buzzes_43 rfl (lv_at hl 1 rfl) ?_
            refine lv_iload_n (pc := 44) hx hb dX8_buzzes_44 rfl (lv_at hl 2 rfl) ?_
            refine lv_iload_n (pc := 45) hx hb dX8_buzzes_45 rfl (lv_at hl 3 rfl) ?_
            refine k_X8_swingsOf (pc := 46) (n := n) (f := f) (st := st) cx hW (by first | assumption | omega) (by first | assumption | omega) (by first | assumption | omega) m_ml_X8_189 ⟨Nat.le_of_ble_eq_true rfl, Nat.le_of_ble_eq_true rfl⟩ hl.1 rfl (by simp [Value.category]) dX8_buzzes_46 ⟨Nat.le_refl _, Nat.le_refl _⟩ ?_
            refine lv_goto (pc := 49) (tgt := 81) hx hb dX8_buzzes_49 (by decide) ?_
            exact z_iret cx hr hlk dX8_buzzes_81 (by first | rfl | (simp [buzzesP, bI, c_1, hN, c_2, c_3, c_4, c_5, h0]; done))
        · skip
          refine lv_iconst (pc := 35) (v := (-1)) hx hb dX8_buzzes_35 (by decide) ?_
          exact z_iret cx hr hlk dX8_buzzes_36 (by first | rfl | (simp [buzzesP, bI, c_1, hN, c_2, c_3, c_4]; done))
theorem k_X8_buzzes {p : Program} {l : Launch} {e : Env} {R : Room} {s : State} {m : MethodId} {args : Array Value} {below : List Frame} {meth : Method} {c : Code} {H : Heap} {locs : List Loc} {cells slots : Nat} {Q : State → Prop} {cc : ByteArray} {pc index : Nat} {ls : Array Slot} {rest st0 : List Value} {E : zE} {own : String} {nL : Nat} {a : Nat → Nat} {sv im rd wa kp so sz el pr ts nu bu ht : Nat → Int32} {th po ba en td : Int32} {ig : Bool} {ij : Bool} {x f st w : Int32} (cx : Cx E p s args m c own cc nL) (hW : WW E (wM a (E.2.1 0) sv im rd wa kp so sz el pr ts nu bu ht (bI ig) th po ba en td (bI ij)) gN H) (hI : Inv sv) (zl : Cond.methodLink own index yX8_buzzes ∈ AllW) (zR : 18 + 1 ≤ R.frames ∧ 8 + (5 + 11) + 523 ≤ R.locals) (zs : ls.size = nL) (zt : st0 = ([.int x, .int f, .int st, .int w] : List Value).reverse ++ .ref (a 0) :: rest) (z8 : (rest.map fun v => v.category).sum ≤ 8) (zd : decode cc pc = .ok (.invokevirtual index, 3)) (zf : cells ≤ R.cells ∧ slots ≤ R.slots) (kk : W p l e R s m args below meth c H locs cells slots Q (F0 m (pc + 3) ls (.int (buzzesP sv x f st w) :: rest))) : W p l e R s m args below meth c H locs cells slots Q (F0 m pc ls st0) :=
  z_callV cx vm_X8_buzzes (c_X8_buzzes l E a sv im rd wa kp so sz el pr ts nu bu ht th po ba en td ig ij x f st w hI) (z_rec cx.2 (hW.at 0 rfl) rfl) hW zl ⟨rfl, rfl⟩ zR rfl zs zt z8 zd zf kk
theorem vm_X8_heardAt : zVm yX8_heardAt cX8_heardAt 5 (some FieldType.int) 2 := ⟨m_co_X8_heardAt, m_in_RX8, ⟨m_im_X8_heardAt, m_se_X8_X8_heardAt⟩, by decide +kernel, by decide +kernel, by decide +kernel⟩
set_option maxHeartbeats 4000000 in
set_option maxRecDepth 100000 in
theorem c_X8_heardAt (l : Launch) (E : zE) (a : Nat → Nat) (sv im rd wa kp so sz el pr ts nu bu ht : Nat → Int32) (th po ba en td : Int32) (ig : Bool) (ij : Bool) (f st : Int32) (hI : Inv sv) (hf : rg f 1 1200) : Met l yX8_heardAt (.code yX8_heardAt cX8_heardAt 5 (some FieldType.int) :: AllW) (rm0' 18 523) (zP E (fun H => WW E (wM a (E.2.1 0) sv im rd wa kp so sz el pr ts nu bu ht (bI ig) th po ba en td (bI ij)) gN H) [.ref (a 0), .int f, .int st]) (rQ (.int (hrA sv f st))) 0 0 nF := by
  refine z_body (own := RX8) (by decide) rfl rfl ?_
  intro p e s m args below meth c ls cx hr hlk hnm hW hl
  have hx := cx.x
  have hb := cx.b
  have hl : lv_has ls 5 [(0, .ref (a 0)), (1, .int f), (2, .int st)] := hl
  have hC := hI.1
  have hP10 := (Inv.n0 hC).2
  have hT7 := (Inv.n1 hC).2
  have hA24 := (Inv.n2 hC).2
  refine lv_iconst (pc := 0) (v := 0) hx hb dX8_heardAt_0 (by decide) ?_
  refine lv_istore_n (pc := 1) (lv' := [(3, .int 0), (0, .ref (a 0)), (1, .int f), (2, .int st)]) hx hb dX8_heardAt_1 rfl hl (by decide) rfl (fun ls hl => ?_)
  refine lv_iconst (pc := 2) (v := 0) hx hb dX8_heardAt_2 (by decide) ?_
  refine lv_istore (pc := 3) (lv' := [(4, .int 0), (3, .int 0), (0, .ref (a 0)), (1, .int f), (2, .int st)]) hx hb dX8_heardAt_3 hl (by decide) rfl (fun ls hl => ?_)
  have loop_5 : ∀ (k_5 : Nat) (i : Nat) (x4 : Int32) (x3 : Int32), (nT sv - i) < k_5 → (i ≤ nT sv) → x4 = nI i → x3 = hrN sv f st i → ∀ (ls : Array Slot), lv_has ls 5 [(4, .int x4), (3, .int x3), (0, .ref (a 0)), (1, .int f), (2, .int st)] → W p l e (rm0' (18) (523)) s m args below meth c s.heap [] 0 0 (MQ below (rQ (.int (hrA sv f st))) args s 0 0 nF) (F0 m 5 ls []) := by
    intro k_5
    induction k_5 with
    | zero =>
      intro i x4 x3 hm
      exact absurd hm (Nat.not_lt_zero _)
    | succ k_5 ih_5 =>
      intro i x4 x3 hm_5 hi e_x4 e_x3  ls hl
      subst e_x4
      subst e_x3
      refine lv_iload (pc := 5) hx hb dX8_heardAt_5 (lv_at hl 0 rfl) ?_
      refine lv_aload_n (pc := 7) hx hb dX8_heardAt_7 rfl (lv_at hl 2 rfl) ?_
      refine z_getM (pc := 8) cx (hW.at 0 rfl) 0 rfl m_fl_X8_9 rfl dX8_heardAt_8 ?_
      refine lv_iconst (pc := 11) (v := 1) hx hb dX8_heardAt_11 (by decide) ?_
      refine z_iald (pc := 12) (f := sv) (j := 1) cx (hW.at 1 rfl) rfl (by decide) (by decide) dX8_heardAt_12 ?_
      refine lv_icmp_ge (pc := 13) (tgt := 44) hx hb dX8_heardAt_13 (by decide) (fun c_1 => ?_) (fun c_1 => ?_)
      · skip
        obtain rfl : i = nT sv := by have := ge_nat (a := i) rfl (Inv.n1 hC).1 (by omega) (by omega) c_1; omega
        refine lv_iload_n (pc := 44) hx hb dX8_heardAt_44 rfl (lv_at hl 1 rfl) ?_
        exact z_iret cx hr hlk dX8_heardAt_45 (by first | rfl | (simp [hrN, hrA]; done))
      · skip
        have hlt_i := lt_nat (a := i) rfl (Inv.n1 hC).1 (by omega) (by omega) c_1
        refine lv_iload_n (pc := 16) hx hb dX8_heardAt_16 rfl (lv_at hl 1 rfl) ?_
        refine lv_aload_n (pc := 17) hx hb dX8_heardAt_17 rfl (lv_at hl 2 rfl) ?_
        refine lv_iload (pc := 18) hx hb dX8_heardAt_18 (lv_at hl 0 rfl) ?_
        refine lv_iload_n (pc := 20) hx hb dX8_heardAt_20 rfl (lv_at hl 3 rfl) ?_
        refine lv_iload_n (pc := 21) hx hb dX8_heardAt_21 rfl (lv_at hl 4 rfl) ?_
        refine k_X8_buzzesAt (pc := 22) (n := i) (f := f) (st := st) cx hW (by first | assumption | omega) (by first | assumption | omega) (by first | assumption | omega) m_ml_X8_197 ⟨Nat.le_of_ble_eq_true rfl, Nat.le_of_ble_eq_true rfl⟩ hl.1 rfl (by simp [Value.category]) dX8_heardAt_22 ⟨Nat.le_refl _, Nat.le_refl _⟩ ?_
        refine z_ifeq (pc := 25) (tgt := 35) hx hb dX8_heardAt_25 (by decide) (fun c_2 => ?_) (fun c_2 => ?_)
        · skip
          refine lv_iconst (pc := 35) (v := 0) hx hb dX8_heardAt_35 (by decide) ?_
          refine lv_ior (pc := 36) hx hb dX8_heardAt_36 ?_
          refine lv_istore_n (pc := 37) (lv' := [(3, .int ((hrN sv f st i) ||| 0)), (4, .int (nI i)), (0, .ref (a 0)), (1, .int f), (2, .int st)]) hx hb dX8_heardAt_37 rfl hl (by decide) rfl (fun ls hl => ?_)
          refine lv_iinc (pc := 38) (v := nI (i + 1)) (lv' := [(4, .int (nI (i + 1))), (3, .int ((hrN sv f st i) ||| 0)), (0, .ref (a 0)), (1, .int f), (2, .int st)]) hx hb dX8_heardAt_38 hl (k := 1) rfl (nI_1 _) (by decide) rfl (fun ls hl => ?_)
          refine lv_goto (pc := 41) (tgt := 5) hx hb dX8_heardAt_41 (by decide) ?_
          exact ih_5 (i + 1) (nI (i + 1)) ((hrN sv f st i) ||| 0) (by omega) (by omega) (by first | rfl | (simp [hrN, hrA, c_2]; done)) (by first | rfl | (simp [hrN, hrA, c_2]; done)) ls (lv_sub hl [0, 1, 2, 3, 4] rfl)
        · skip
          refine lv_iconst (pc := 28) (v := 1) hx hb dX8_heardAt_28 (by decide) ?_
          refine lv_iload (pc := 29) hx hb dX8_heardAt_29 (lv_at hl 0 rfl) ?_
          refine lv_ishl (pc := 31) hx hb dX8_heardAt_31 ?_
          refine lv_goto (pc := 32) (tgt := 36) hx hb dX8_heardAt_32 (by decide) ?_
          refine lv_ior (pc := 36) hx hb dX8_heardAt_36 ?_
          refine lv_istore_n (pc := 37) (lv' := [(3, .int ((hrN sv f st i) ||| (1 <<< ((nI i) &&& 31)))), (4, .int (nI i)), (0, .ref (a 0)), (1, .int f), (2, .int st)]) hx hb dX8_heardAt_37 rfl hl (by decide) rfl (fun ls hl => ?_)
          refine lv_iinc (pc := 38) (v := nI (i + 1)) (lv' := [(4, .int (nI (i + 1))), (3, .int ((hrN sv f st i) ||| (1 <<< ((nI i) &&& 31)))), (0, .ref (a 0)), (1, .int f), (2, .int st)]) hx hb dX8_heardAt_38 hl (k := 1) rfl (nI_1 _) (by decide) rfl (fun ls hl => ?_)
          refine lv_goto (pc := 41) (tgt := 5) hx hb dX8_heardAt_41 (by decide) ?_
          exact ih_5 (i + 1) (nI (i + 1)) ((hrN sv f st i) ||| (1 <<< ((nI i) &&& 31))) (by omega) (by omega) (by first | rfl | (simp [hrN, hrA, c_2]; done)) (by first | rfl | (simp [hrN, hrA, c_2]; done)) ls (lv_sub hl [0, 1, 2, 3, 4] rfl)
  exact loop_5 ((nT sv - 0) + 1) 0 0 0 (Nat.lt_succ_self _) (by omega) (by first | rfl | (simp [hrN, hrA]; done)) (by first | rfl | (simp [hrN, hrA]; done)) ls (lv_sub hl [0, 1, 2, 3, 4] rfl)
theorem k_X8_heardAt {p : Program} {l : Launch} {e : Env} {R : Room} {s : State} {m : MethodId} {args : Array Value} {below : List Frame} {meth : Method} {c : Code} {H : Heap} {locs : List Loc} {cells slots : Nat} {Q : State → Prop} {cc : ByteArray} {pc index : Nat} {ls : Array Slot} {rest st0 : List Value} {E : zE} {own : String} {nL : Nat} {a : Nat → Nat} {sv im rd wa kp so sz el pr ts nu bu ht : Nat → Int32} {th po ba en td : Int32} {ig : Bool} {ij : Bool} {f st : Int32} (cx : Cx E p s args m c own cc nL) (hW : WW E (wM a (E.2.1 0) sv im rd wa kp so sz el pr ts nu bu ht (bI ig) th po ba en td (bI ij)) gN H) (hI : Inv sv) (hf : rg f 1 1200) (zl : Cond.methodLink own index yX8_heardAt ∈ AllW) (zR : 18 + 1 ≤ R.frames ∧ 8 + (5 + 11) + 523 ≤ R.locals) (zs : ls.size = nL) (zt : st0 = ([.int f, .int st] : List Value).reverse ++ .ref (a 0) :: rest) (z8 : (rest.map fun v => v.category).sum ≤ 8) (zd : decode cc pc = .ok (.invokevirtual index, 3)) (zf : cells ≤ R.cells ∧ slots ≤ R.slots) (kk : W p l e R s m args below meth c H locs cells slots Q (F0 m (pc + 3) ls (.int (hrA sv f st) :: rest))) : W p l e R s m args below meth c H locs cells slots Q (F0 m pc ls st0) :=
  z_callV cx vm_X8_heardAt (c_X8_heardAt l E a sv im rd wa kp so sz el pr ts nu bu ht th po ba en td ig ij f st hI hf) (z_rec cx.2 (hW.at 0 rfl) rfl) hW zl ⟨rfl, rfl⟩ zR rfl zs zt z8 zd zf kk
theorem vm_X8_heard : zVm yX8_heard cX8_heard 3 (some FieldType.int) 2 := ⟨m_co_X8_heard, m_in_RX8, ⟨m_im_X8_heard, m_se_X8_X8_heard⟩, by decide +kernel, by decide +kernel, by decide +kernel⟩
set_option maxHeartbeats 4000000 in
set_option maxRecDepth 100000 in
theorem c_X8_heard (l : Launch) (E : zE) (a : Nat → Nat) (sv im rd wa kp so sz el pr ts nu bu ht : Nat → Int32) (th po ba en td : Int32) (ig : Bool) (ij : Bool) (f st : Int32) (hI : Inv sv) : Met l yX8_heard (.code yX8_heard cX8_heard 3 (some FieldType.int) :: AllW) (rm0' 19 547) (zP E (fun H => WW E (wM a (E.2.1 0) sv im rd wa kp so sz el pr ts nu bu ht (bI ig) th po ba en td (bI ij)) gN H) [.ref (a 0), .int f, .int st]) (rQ (.int (heardP sv f st))) 0 0 nF := by
  refine z_body (own := RX8) (by decide) rfl rfl ?_
  intro p e s m args below meth c ls cx hr hlk hnm hW hl
  have hx := cx.x
  have hb := cx.b
  have hl : lv_has ls 3 [(0, .ref (a 0)), (1, .int f), (2, .int st)] := hl
  have hC := hI.1
  have hP10 := (Inv.n0 hC).2
  have hT7 := (Inv.n1 hC).2
  have hA24 := (Inv.n2 hC).2
  refine lv_iload_n (pc := 0) hx hb dX8_heard_0 rfl (lv_at hl 1 rfl) ?_
  refine k_X8_isTone (pc := 1) (x := f) cx  m_ml_X8_177 ⟨Nat.le_of_ble_eq_true rfl, Nat.le_of_ble_eq_true rfl⟩ hl.1 rfl (by simp [Value.category]) dX8_heard_1 ⟨Nat.le_refl _, Nat.le_refl _⟩ ?_
  refine z_ifeq (pc := 4) (tgt := 23) hx hb dX8_heard_4 (by decide) (fun c_1 => ?_) (fun c_1 => ?_)
  · skip
    refine lv_iconst (pc := 23) (v := (-1)) hx hb dX8_heard_23 (by decide) ?_
    exact z_iret cx hr hlk dX8_heard_24 (by first | rfl | (simp [heardP, c_1]; done))
  · skip
    have hf := tone_rg c_1
    refine lv_iload_n (pc := 7) hx hb dX8_heard_7 rfl (lv_at hl 2 rfl) ?_
    refine k_X8_isStrong (pc := 8) (x := st) cx  m_ml_X8_180 ⟨Nat.le_of_ble_eq_true rfl, Nat.le_of_ble_eq_true rfl⟩ hl.1 rfl (by simp [Value.category]) dX8_heard_8 ⟨Nat.le_refl _, Nat.le_refl _⟩ ?_
    refine z_ifeq (pc := 11) (tgt := 23) hx hb dX8_heard_11 (by decide) (fun c_2 => ?_) (fun c_2 => ?_)
    · skip
      refine lv_iconst (pc := 23) (v := (-1)) hx hb dX8_heard_23 (by decide) ?_
      exact z_iret cx hr hlk dX8_heard_24 (by first | rfl | (simp [heardP, c_1, c_2]; done))
    · skip
      refine lv_aload_n (pc := 14) hx hb dX8_heard_14 rfl (lv_at hl 0 rfl) ?_
      refine lv_iload_n (pc := 15) hx hb dX8_heard_15 rfl (lv_at hl 1 rfl) ?_
      refine lv_iload_n (pc := 16) hx hb dX8_heard_16 rfl (lv_at hl 2 rfl) ?_
      refine k_X8_heardAt (pc := 17) (f := f) (st := st) cx hW (by first | assumption | omega) (by first | assumption | omega) m_ml_X8_201 ⟨Nat.le_of_ble_eq_true rfl, Nat.le_of_ble_eq_true rfl⟩ hl.1 rfl (by simp [Value.category]) dX8_heard_17 ⟨Nat.le_refl _, Nat.le_refl _⟩ ?_
      refine lv_goto (pc := 20) (tgt := 24) hx hb dX8_heard_20 (by decide) ?_
      exact z_iret cx hr hlk dX8_heard_24 (by first | rfl | (simp [heardP, c_1, c_2]; done))
theorem k_X8_heard {p : Program} {l : Launch} {e : Env} {R : Room} {s : State} {m : MethodId} {args : Array Value} {below : List Frame} {meth : Method} {c : Code} {H : Heap} {locs : List Loc} {cells slots : Nat} {Q : State → Prop} {cc : ByteArray} {pc index : Nat} {ls : Array Slot} {rest st0 : List Value} {E : zE} {own : String} {nL : Nat} {a : Nat → Nat} {sv im rd wa kp so sz el pr ts nu bu ht : Nat → Int32} {th po ba en td : Int32} {ig : Bool} {ij : Bool} {f st : Int32} (cx : Cx E p s args m c own cc nL) (hW : WW E (wM a (E.2.1 0) sv im rd wa kp so sz el pr ts nu bu ht (bI ig) th po ba en td (bI ij)) gN H) (hI : Inv sv) (zl : Cond.methodLink own index yX8_heard ∈ AllW) (zR : 19 + 1 ≤ R.frames ∧ 8 + (3 + 11) + 547 ≤ R.locals) (zs : ls.size = nL) (zt : st0 = ([.int f, .int st] : List Value).reverse ++ .ref (a 0) :: rest) (z8 : (rest.map fun v => v.category).sum ≤ 8) (zd : decode cc pc = .ok (.invokevirtual index, 3)) (zf : cells ≤ R.cells ∧ slots ≤ R.slots) (kk : W p l e R s m args below meth c H locs cells slots Q (F0 m (pc + 3) ls (.int (heardP sv f st) :: rest))) : W p l e R s m args below meth c H locs cells slots Q (F0 m pc ls st0) :=
  z_callV cx vm_X8_heard (c_X8_heard l E a sv im rd wa kp so sz el pr ts nu bu ht th po ba en td ig ij f st hI) (z_rec cx.2 (hW.at 0 rfl) rfl) hW zl ⟨rfl, rfl⟩ zR rfl zs zt z8 zd zf kk
theorem vm_X8_softest : zVm yX8_softest cX8_softest 4 (some FieldType.int) 2 := ⟨m_co_X8_softest, m_in_RX8, ⟨m_im_X8_softest, m_se_X8_X8_softest⟩, by decide +kernel, by decide +kernel, by decide +kernel⟩
set_option maxHeartbeats 4000000 in
set_option maxRecDepth 100000 in
theorem c_X8_softest (l : Launch) (E : zE) (a : Nat → Nat) (sv im rd wa kp so sz el pr ts nu bu ht : Nat → Int32) (th po ba en td : Int32) (ig : Bool) (ij : Bool) (x f : Int32) (hI : Inv sv) : Met l yX8_softest (.code yX8_softest cX8_softest 4 (some FieldType.int) :: AllW) (rm0' 18 523) (zP E (fun H => WW E (wM a (E.2.1 0) sv im rd wa kp so sz el pr ts nu bu ht (bI ig) th po ba en td (bI ij)) gN H) [.ref (a 0), .int x, .int f]) (rQ (.int (softestP sv x f))) 0 0 nF := by
  refine z_body (own := RX8) (by decide) rfl rfl ?_
  intro p e s m args below meth c ls cx hr hlk hnm hW hl
  have hx := cx.x
  have hb := cx.b
  have hl : lv_has ls 4 [(0, .ref (a 0)), (1, .int x), (2, .int f)] := hl
  have hC := hI.1
  have hP10 := (Inv.n0 hC).2
  have hT7 := (Inv.n1 hC).2
  have hA24 := (Inv.n2 hC).2
  refine lv_aload_n (pc := 0) hx hb dX8_softest_0 rfl (lv_at hl 0 rfl) ?_
  refine lv_iload_n (pc := 1) hx hb dX8_softest_1 rfl (lv_at hl 1 rfl) ?_
  refine k_X8_isThing (pc := 2) (x := x) cx hW  m_ml_X8_143 ⟨Nat.le_of_ble_eq_true rfl, Nat.le_of_ble_eq_true rfl⟩ hl.1 rfl (by simp [Value.category]) dX8_softest_2 ⟨Nat.le_refl _, Nat.le_refl _⟩ ?_
  refine z_ifeq (pc := 5) (tgt := 15) hx hb dX8_softest_5 (by decide) (fun c_1 => ?_) (fun c_1 => ?_)
  · skip
    refine lv_iconst (pc := 15) (v := (-1)) hx hb dX8_softest_15 (by decide) ?_
    exact z_iret cx hr hlk dX8_softest_16 (by first | rfl | (simp [softestP, c_1]; done))
  · skip
    obtain ⟨n, hn, rfl⟩ := th_nat hC c_1
    have hN := iN_nI (n := n) (by omega)
    refine lv_iload_n (pc := 8) hx hb dX8_softest_8 rfl (lv_at hl 2 rfl) ?_
    refine k_X8_isTone (pc := 9) (x := f) cx  m_ml_X8_177 ⟨Nat.le_of_ble_eq_true rfl, Nat.le_of_ble_eq_true rfl⟩ hl.1 rfl (by simp [Value.category]) dX8_softest_9 ⟨Nat.le_refl _, Nat.le_refl _⟩ ?_
    refine z_ifne (pc := 12) (tgt := 17) hx hb dX8_softest_12 (by decide) (fun c_2 => ?_) (fun c_2 => ?_)
    · skip
      have hf := tone_rg c_2
      refine lv_iconst (pc := 17) (v := 1) hx hb dX8_softest_17 (by decide) ?_
      refine lv_istore_n (pc := 18) (lv' := [(3, .int 1), (0, .ref (a 0)), (1, .int (nI n)), (2, .int f)]) hx hb dX8_softest_18 rfl hl (by decide) rfl (fun ls hl => ?_)
      have loop_19 : ∀ (k_19 : Nat) (i : Nat) (x3 : Int32), (100 - i) < k_19 → (1 ≤ i ∧ i ≤ 100) → (fstN (fun k => bzA sv n f (nI k)) 99 1 = fstN (fun k => bzA sv n f (nI k)) (100 - i) i) → x3 = nI i → ∀ (ls : Array Slot), lv_has ls 4 [(3, .int x3), (0, .ref (a 0)), (1, .int (nI n)), (2, .int f)] → W p l e (rm0' (18) (523)) s m args below meth c s.heap [] 0 0 (MQ below (rQ (.int (softestP sv (nI n) f))) args s 0 0 nF) (F0 m 19 ls []) := by
        intro k_19
        induction k_19 with
        | zero =>
          intro i x3 hm
          exact absurd hm (Nat.not_lt_zero _)
        | succ k_19 ih_19 =>
          intro i x3 hm_19 hi he e_x3  ls hl
          subst e_x3
          refine lv_iload_n (pc := 19) hx hb dX8_softest_19 rfl (lv_at hl 0 rfl) ?_
          refine lv_bipush (pc := 20) (v := 99) hx hb dX8_softest_20 (by decide) ?_
          refine lv_icmp_gt (pc := 22) (tgt := 43) hx hb dX8_softest_22 (by decide) (fun c_3 => ?_) (fun c_3 => ?_)
          · skip
            have hgt := gtn (a := 99) (b := i) rfl rfl (by omega) (by omega) c_3
            refine lv_bipush (pc := 43) (v := (-4)) hx hb dX8_softest_43 (by decide) ?_
            exact z_iret cx hr hlk dX8_softest_45 (by simp only [softestP, c_1, hN, c_2, c_3, i_nle.mpr c_3, and_self, if_true, he]; rw [show 100 - i = 0 by omega]; rfl)
          · skip
            have hle := ngt (a := 99) (b := i) rfl rfl (by omega) (by omega) c_3
            refine lv_aload_n (pc := 25) hx hb dX8_softest_25 rfl (lv_at hl 1 rfl) ?_
            refine lv_iload_n (pc := 26) hx hb dX8_softest_26 rfl (lv_at hl 2 rfl) ?_
            refine lv_iload_n (pc := 27) hx hb dX8_softest_27 rfl (lv_at hl 3 rfl) ?_
            refine lv_iload_n (pc := 28) hx hb dX8_softest_28 rfl (lv_at hl 0 rfl) ?_
            refine k_X8_buzzesAt (pc := 29) (n := n) (f := f) (st := nI i) cx hW (by first | assumption | omega) (by first | assumption | omega) (by first | assumption | omega) m_ml_X8_197 ⟨Nat.le_of_ble_eq_true rfl, Nat.le_of_ble_eq_true rfl⟩ hl.1 rfl (by simp [Value.category]) dX8_softest_29 ⟨Nat.le_refl _, Nat.le_refl _⟩ ?_
            refine z_ifeq (pc := 32) (tgt := 37) hx hb dX8_softest_32 (by decide) (fun c_4 => ?_) (fun c_4 => ?_)
            · skip
              refine lv_iinc (pc := 37) (v := nI (i + 1)) (lv' := [(3, .int (nI (i + 1))), (0, .ref (a 0)), (1, .int (nI n)), (2, .int f)]) hx hb dX8_softest_37 hl (k := 0) rfl (nI_1 _) (by decide) rfl (fun ls hl => ?_)
              refine lv_goto (pc := 40) (tgt := 19) hx hb dX8_softest_40 (by decide) ?_
              exact ih_19 (i + 1) (nI (i + 1)) (by omega) (by omega) (by rw [he, fstN_miss (by assumption) (by omega)]; rfl) (by first | rfl | (simp [softestP, c_1, hN, c_2, c_3, c_4, i_nlt.mp c_3]; done)) ls (lv_sub hl [0, 1, 2, 3] rfl)
            · skip
              refine lv_iload_n (pc := 35) hx hb dX8_softest_35 rfl (lv_at hl 0 rfl) ?_
              exact z_iret cx hr hlk dX8_softest_36 (by simp only [softestP, c_1, hN, c_2, c_3, c_4, i_nlt.mp c_3, and_self, if_true, he]; rw [fstN_hit (by assumption) (by omega)]; rfl)
      exact loop_19 ((100 - 1) + 1) 1 1 (Nat.lt_succ_self _) (by omega) rfl (by first | rfl | (simp [softestP, c_1, hN, c_2]; done)) ls (lv_sub hl [0, 1, 2, 3] rfl)
    · skip
      refine lv_iconst (pc := 15) (v := (-1)) hx hb dX8_softest_15 (by decide) ?_
      exact z_iret cx hr hlk dX8_softest_16 (by first | rfl | (simp [softestP, c_1, hN, c_2]; done))
theorem k_X8_softest {p : Program} {l : Launch} {e : Env} {R : Room} {s : State} {m : MethodId} {args : Array Value} {below : List Frame} {meth : Method} {c : Code} {H : Heap} {locs : List Loc} {cells slots : Nat} {Q : State → Prop} {cc : ByteArray} {pc index : Nat} {ls : Array Slot} {rest st0 : List Value} {E : zE} {own : String} {nL : Nat} {a : Nat → Nat} {sv im rd wa kp so sz el pr ts nu bu ht : Nat → Int32} {th po ba en td : Int32} {ig : Bool} {ij : Bool} {x f : Int32} (cx : Cx E p s args m c own cc nL) (hW : WW E (wM a (E.2.1 0) sv im rd wa kp so sz el pr ts nu bu ht (bI ig) th po ba en td (bI ij)) gN H) (hI : Inv sv) (zl : Cond.methodLink own index yX8_softest ∈ AllW) (zR : 18 + 1 ≤ R.frames ∧ 8 + (4 + 11) + 523 ≤ R.locals) (zs : ls.size = nL) (zt : st0 = ([.int x, .int f] : List Value).reverse ++ .ref (a 0) :: rest) (z8 : (rest.map fun v => v.category).sum ≤ 8) (zd : decode cc pc = .ok (.invokevirtual index, 3)) (zf : cells ≤ R.cells ∧ slots ≤ R.slots) (kk : W p l e R s m args below meth c H locs cells slots Q (F0 m (pc + 3) ls (.int (softestP sv x f) :: rest))) : W p l e R s m args below meth c H locs cells slots Q (F0 m pc ls st0) :=
  z_callV cx vm_X8_softest (c_X8_softest l E a sv im rd wa kp so sz el pr ts nu bu ht th po ba en td ig ij x f hI) (z_rec cx.2 (hW.at 0 rfl) rfl) hW zl ⟨rfl, rfl⟩ zR rfl zs zt z8 zd zf kk
theorem vm_X8_loudest : zVm yX8_loudest cX8_loudest 5 (some FieldType.int) 2 := ⟨m_co_X8_loudest, m_in_RX8, ⟨m_im_X8_loudest, m_se_X8_X8_loudest⟩, by decide +kernel, by decide +kernel, by decide +kernel⟩
set_option maxHeartbeats 4000000 in
set_option maxRecDepth 100000 in
theorem c_X8_loudest (l : Launch) (E : zE) (a : Nat → Nat) (sv im rd wa kp so sz el pr ts nu bu ht : Nat → Int32) (th po ba en td : Int32) (ig : Bool) (ij : Bool) (x st : Int32) (hI : Inv sv) : Met l yX8_loudest (.code yX8_loudest cX8_loudest 5 (some FieldType.int) :: AllW) (rm0' 16 474) (zP E (fun H => WW E (wM a (E.2.1 0) sv im rd wa kp so sz el pr ts nu bu ht (bI ig) th po ba en td (bI ij)) gN H) [.ref (a 0), .int x, .int st]) (rQ (.int (loudestP sv x st))) 0 0 nF := by
  refine z_body (own := RX8) (by decide) rfl rfl ?_
  intro p e s m args below meth c ls cx hr hlk hnm hW hl
  have hx := cx.x
  have hb := cx.b
  have hl : lv_has ls 5 [(0, .ref (a 0)), (1, .int x), (2, .int st)] := hl
  have hC := hI.1
  have hP10 := (Inv.n0 hC).2
  have hT7 := (Inv.n1 hC).2
  have hA24 := (Inv.n2 hC).2
  refine lv_aload_n (pc := 0) hx hb dX8_loudest_0 rfl (lv_at hl 0 rfl) ?_
  refine lv_iload_n (pc := 1) hx hb dX8_loudest_1 rfl (lv_at hl 1 rfl) ?_
  refine k_X8_isPiece (pc := 2) (x := x) cx hW  m_ml_X8_130 ⟨Nat.le_of_ble_eq_true rfl, Nat.le_of_ble_eq_true rfl⟩ hl.1 rfl (by simp [Value.category]) dX8_loudest_2 ⟨Nat.le_refl _, Nat.le_refl _⟩ ?_
  refine z_ifeq (pc := 5) (tgt := 15) hx hb dX8_loudest_5 (by decide) (fun c_1 => ?_) (fun c_1 => ?_)
  · skip
    refine lv_iconst (pc := 15) (v := (-1)) hx hb dX8_loudest_15 (by decide) ?_
    exact z_iret cx hr hlk dX8_loudest_16 (by first | rfl | (simp [loudestP, lou, c_1]; done))
  · skip
    obtain ⟨n, hn, rfl⟩ := pc_nat hC c_1
    have hN := iN_nI (n := n) (by omega)
    refine lv_iload_n (pc := 8) hx hb dX8_loudest_8 rfl (lv_at hl 2 rfl) ?_
    refine k_X8_isStrong (pc := 9) (x := st) cx  m_ml_X8_180 ⟨Nat.le_of_ble_eq_true rfl, Nat.le_of_ble_eq_true rfl⟩ hl.1 rfl (by simp [Value.category]) dX8_loudest_9 ⟨Nat.le_refl _, Nat.le_refl _⟩ ?_
    refine z_ifne (pc := 12) (tgt := 17) hx hb dX8_loudest_12 (by decide) (fun c_2 => ?_) (fun c_2 => ?_)
    · skip
      refine lv_iconst (pc := 17) (v := 1) hx hb dX8_loudest_17 (by decide) ?_
      refine lv_istore_n (pc := 18) (lv' := [(3, .int 1), (0, .ref (a 0)), (1, .int (nI n)), (2, .int st)]) hx hb dX8_loudest_18 rfl hl (by decide) rfl (fun ls hl => ?_)
      refine lv_iconst (pc := 19) (v := 2) hx hb dX8_loudest_19 (by decide) ?_
      refine lv_istore (pc := 20) (lv' := [(4, .int 2), (3, .int 1), (0, .ref (a 0)), (1, .int (nI n)), (2, .int st)]) hx hb dX8_loudest_20 hl (by decide) rfl (fun ls hl => ?_)
      have loop_22 : ∀ (k_22 : Nat) (i : Nat) (x4 : Int32) (x3 : Int32), (600 - i) < k_22 → (1 ≤ i ∧ i ≤ 600) → x4 = nI (i + 1) → x3 = nI (lou sv n st i) → ∀ (ls : Array Slot), lv_has ls 5 [(4, .int x4), (3, .int x3), (0, .ref (a 0)), (1, .int (nI n)), (2, .int st)] → W p l e (rm0' (16) (474)) s m args below meth c s.heap [] 0 0 (MQ below (rQ (.int (loudestP sv (nI n) st))) args s 0 0 nF) (F0 m 22 ls []) := by
        intro k_22
        induction k_22 with
        | zero =>
          intro i x4 x3 hm
          exact absurd hm (Nat.not_lt_zero _)
        | succ k_22 ih_22 =>
          intro i x4 x3 hm_22 hi e_x4 e_x3  ls hl
          subst e_x4
          subst e_x3
          refine lv_iload (pc := 22) hx hb dX8_loudest_22 (lv_at hl 0 rfl) ?_
          refine lv_sipush (pc := 24) (v := 600) hx hb dX8_loudest_24 (by decide) ?_
          refine lv_icmp_gt (pc := 27) (tgt := 61) hx hb dX8_loudest_27 (by decide) (fun c_3 => ?_) (fun c_3 => ?_)
          · skip
            obtain rfl : i = 600 := by have hgt := gtn (a := 600) (b := i + 1) rfl rfl (by omega) (by omega) c_3; omega
            refine lv_iload_n (pc := 61) hx hb dX8_loudest_61 rfl (lv_at hl 1 rfl) ?_
            exact z_iret cx hr hlk dX8_loudest_62 (by first | rfl | (simp [loudestP, lou, c_1, hN, c_2]; done))
          · skip
            have hle := ngt (a := 600) (b := i + 1) rfl rfl (by omega) (by omega) c_3
            have h1 : ¬ i = 0 := by omega
            have hlo := lou_in sv n st i
            refine lv_aload_n (pc := 30) hx hb dX8_loudest_30 rfl (lv_at hl 2 rfl) ?_
            refine lv_iload_n (pc := 31) hx hb dX8_loudest_31 rfl (lv_at hl 3 rfl) ?_
            refine lv_iload (pc := 32) hx hb dX8_loudest_32 (lv_at hl 0 rfl) ?_
            refine lv_iload_n (pc := 34) hx hb dX8_loudest_34 rfl (lv_at hl 4 rfl) ?_
            refine k_X8_swingOf (pc := 35) (n := n) (f := nI (i + 1)) (st := st) cx hW hI (rgN (by omega) (by omega) (by omega)) hn m_ml_X8_174 ⟨Nat.le_of_ble_eq_true rfl, Nat.le_of_ble_eq_true rfl⟩ hl.1 rfl (by simp [Value.category]) dX8_loudest_35 ⟨Nat.le_refl _, Nat.le_refl _⟩ ?_
            refine lv_aload_n (pc := 38) hx hb dX8_loudest_38 rfl (lv_at hl 2 rfl) ?_
            refine lv_iload_n (pc := 39) hx hb dX8_loudest_39 rfl (lv_at hl 3 rfl) ?_
            refine lv_iload_n (pc := 40) hx hb dX8_loudest_40 rfl (lv_at hl 1 rfl) ?_
            refine lv_iload_n (pc := 41) hx hb dX8_loudest_41 rfl (lv_at hl 4 rfl) ?_
            refine k_X8_swingOf (pc := 42) (n := n) (f := nI (lou sv n st i)) (st := st) cx hW hI (rgN (by omega) (by omega) (by omega)) hn m_ml_X8_174 ⟨Nat.le_of_ble_eq_true rfl, Nat.le_of_ble_eq_true rfl⟩ hl.1 rfl (by simp [Value.category]) dX8_loudest_42 ⟨Nat.le_refl _, Nat.le_refl _⟩ ?_
            refine lv_icmp_le (pc := 45) (tgt := 53) hx hb dX8_loudest_45 (by decide) (fun c_4 => ?_) (fun c_4 => ?_)
            · skip
              refine lv_iload_n (pc := 53) hx hb dX8_loudest_53 rfl (lv_at hl 1 rfl) ?_
              refine lv_istore_n (pc := 54) (lv' := [(3, .int (nI (lou sv n st i))), (4, .int (nI (i + 1))), (0, .ref (a 0)), (1, .int (nI n)), (2, .int st)]) hx hb dX8_loudest_54 rfl hl (by decide) rfl (fun ls hl => ?_)
              refine lv_iinc (pc := 55) (v := nI ((i + 1) + 1)) (lv' := [(4, .int (nI ((i + 1) + 1))), (3, .int (nI (lou sv n st i))), (0, .ref (a 0)), (1, .int (nI n)), (2, .int st)]) hx hb dX8_loudest_55 hl (k := 1) rfl (nI_1 _) (by decide) rfl (fun ls hl => ?_)
              refine lv_goto (pc := 58) (tgt := 22) hx hb dX8_loudest_58 (by decide) ?_
              exact ih_22 (i + 1) (nI ((i + 1) + 1)) (nI (lou sv n st i)) (by omega) (by omega) (by first | rfl | (simp [loudestP, lou, c_1, hN, c_2, c_3, h1, c_4, i_nlt.mp c_3, i_nlt.mpr c_4]; done)) (by first | rfl | (simp [loudestP, lou, c_1, hN, c_2, c_3, h1, c_4, i_nlt.mp c_3, i_nlt.mpr c_4]; done)) ls (lv_sub hl [0, 1, 2, 3, 4] rfl)
            · skip
              refine lv_iload (pc := 48) hx hb dX8_loudest_48 (lv_at hl 0 rfl) ?_
              refine lv_goto (pc := 50) (tgt := 54) hx hb dX8_loudest_50 (by decide) ?_
              refine lv_istore_n (pc := 54) (lv' := [(3, .int (nI (i + 1))), (4, .int (nI (i + 1))), (0, .ref (a 0)), (1, .int (nI n)), (2, .int st)]) hx hb dX8_loudest_54 rfl hl (by decide) rfl (fun ls hl => ?_)
              refine lv_iinc (pc := 55) (v := nI ((i + 1) + 1)) (lv' := [(4, .int (nI ((i + 1) + 1))), (3, .int (nI (i + 1))), (0, .ref (a 0)), (1, .int (nI n)), (2, .int st)]) hx hb dX8_loudest_55 hl (k := 1) rfl (nI_1 _) (by decide) rfl (fun ls hl => ?_)
              refine lv_goto (pc := 58) (tgt := 22) hx hb dX8_loudest_58 (by decide) ?_
              exact ih_22 (i + 1) (nI ((i + 1) + 1)) (nI (i + 1)) (by omega) (by omega) (by first | rfl | (simp [loudestP, lou, c_1, hN, c_2, c_3, h1, c_4, i_nlt.mp c_3, i_nle.mp c_4]; done)) (by first | rfl | (simp [loudestP, lou, c_1, hN, c_2, c_3, h1, c_4, i_nlt.mp c_3, i_nle.mp c_4]; done)) ls (lv_sub hl [0, 1, 2, 3, 4] rfl)
      exact loop_22 ((600 - 1) + 1) 1 2 1 (Nat.lt_succ_self _) (by omega) (by first | rfl | (simp [loudestP, lou, c_1, hN, c_2]; done)) (by first | rfl | (simp [loudestP, lou, c_1, hN, c_2]; done)) ls (lv_sub hl [0, 1, 2, 3, 4] rfl)
    · skip
      refine lv_iconst (pc := 15) (v := (-1)) hx hb dX8_loudest_15 (by decide) ?_
      exact z_iret cx hr hlk dX8_loudest_16 (by first | rfl | (simp [loudestP, lou, c_1, hN, c_2]; done))
theorem k_X8_loudest {p : Program} {l : Launch} {e : Env} {R : Room} {s : State} {m : MethodId} {args : Array Value} {below : List Frame} {meth : Method} {c : Code} {H : Heap} {locs : List Loc} {cells slots : Nat} {Q : State → Prop} {cc : ByteArray} {pc index : Nat} {ls : Array Slot} {rest st0 : List Value} {E : zE} {own : String} {nL : Nat} {a : Nat → Nat} {sv im rd wa kp so sz el pr ts nu bu ht : Nat → Int32} {th po ba en td : Int32} {ig : Bool} {ij : Bool} {x st : Int32} (cx : Cx E p s args m c own cc nL) (hW : WW E (wM a (E.2.1 0) sv im rd wa kp so sz el pr ts nu bu ht (bI ig) th po ba en td (bI ij)) gN H) (hI : Inv sv) (zl : Cond.methodLink own index yX8_loudest ∈ AllW) (zR : 16 + 1 ≤ R.frames ∧ 8 + (5 + 11) + 474 ≤ R.locals) (zs : ls.size = nL) (zt : st0 = ([.int x, .int st] : List Value).reverse ++ .ref (a 0) :: rest) (z8 : (rest.map fun v => v.category).sum ≤ 8) (zd : decode cc pc = .ok (.invokevirtual index, 3)) (zf : cells ≤ R.cells ∧ slots ≤ R.slots) (kk : W p l e R s m args below meth c H locs cells slots Q (F0 m (pc + 3) ls (.int (loudestP sv x st) :: rest))) : W p l e R s m args below meth c H locs cells slots Q (F0 m pc ls st0) :=
  z_callV cx vm_X8_loudest (c_X8_loudest l E a sv im rd wa kp so sz el pr ts nu bu ht th po ba en td ig ij x st hI) (z_rec cx.2 (hW.at 0 rfl) rfl) hW zl ⟨rfl, rfl⟩ zR rfl zs zt z8 zd zf kk
theorem vm_X8_chancesOf : zVm yX8_chancesOf cX8_chancesOf 4 (some FieldType.int) 1 := ⟨m_co_X8_chancesOf, m_in_RX8, ⟨m_im_X8_chancesOf, m_se_X8_X8_chancesOf⟩, by decide +kernel, by decide +kernel, by decide +kernel⟩
set_option maxHeartbeats 4000000 in
set_option maxRecDepth 100000 in
theorem c_X8_chancesOf (l : Launch) (E : zE) (a : Nat → Nat) (sv im rd wa kp so sz el pr ts nu bu ht : Nat → Int32) (th po ba en td : Int32) (ig : Bool) (ij : Bool) (set : Int32) (hI : Inv sv) : Met l yX8_chancesOf (.code yX8_chancesOf cX8_chancesOf 4 (some FieldType.int) :: AllW) (rm0' 1 22) (zP E (fun H => WW E (wM a (E.2.1 0) sv im rd wa kp so sz el pr ts nu bu ht (bI ig) th po ba en td (bI ij)) gN H) [.ref (a 0), .int set]) (rQ (.int (chA sv set))) 0 0 nF := by
  refine z_body (own := RX8) (by decide) rfl rfl ?_
  intro p e s m args below meth c ls cx hr hlk hnm hW hl
  have hx := cx.x
  have hb := cx.b
  have hl : lv_has ls 4 [(0, .ref (a 0)), (1, .int set)] := hl
  have hC := hI.1
  have hP10 := (Inv.n0 hC).2
  have hT7 := (Inv.n1 hC).2
  have hA24 := (Inv.n2 hC).2
  refine lv_iconst (pc := 0) (v := 0) hx hb dX8_chancesOf_0 (by decide) ?_
  refine lv_istore_n (pc := 1) (lv' := [(2, .int 0), (0, .ref (a 0)), (1, .int set)]) hx hb dX8_chancesOf_1 rfl hl (by decide) rfl (fun ls hl => ?_)
  refine lv_iconst (pc := 2) (v := 0) hx hb dX8_chancesOf_2 (by decide) ?_
  refine lv_istore_n (pc := 3) (lv' := [(3, .int 0), (2, .int 0), (0, .ref (a 0)), (1, .int set)]) hx hb dX8_chancesOf_3 rfl hl (by decide) rfl (fun ls hl => ?_)
  have loop_4 : ∀ (k_4 : Nat) (i : Nat) (x3 : Int32) (x2 : Int32), (nT sv - i) < k_4 → (i ≤ nT sv) → x3 = nI i → x2 = csN sv set i → ∀ (ls : Array Slot), lv_has ls 4 [(3, .int x3), (2, .int x2), (0, .ref (a 0)), (1, .int set)] → W p l e (rm0' (1) (22)) s m args below meth c s.heap [] 0 0 (MQ below (rQ (.int (chA sv set))) args s 0 0 nF) (F0 m 4 ls []) := by
    intro k_4
    induction k_4 with
    | zero =>
      intro i x3 x2 hm
      exact absurd hm (Nat.not_lt_zero _)
    | succ k_4 ih_4 =>
      intro i x3 x2 hm_4 hi e_x3 e_x2  ls hl
      subst e_x3
      subst e_x2
      refine lv_iload_n (pc := 4) hx hb dX8_chancesOf_4 rfl (lv_at hl 0 rfl) ?_
      refine lv_aload_n (pc := 5) hx hb dX8_chancesOf_5 rfl (lv_at hl 2 rfl) ?_
      refine z_getM (pc := 6) cx (hW.at 0 rfl) 0 rfl m_fl_X8_9 rfl dX8_chancesOf_6 ?_
      refine lv_iconst (pc := 9) (v := 1) hx hb dX8_chancesOf_9 (by decide) ?_
      refine z_iald (pc := 10) (f := sv) (j := 1) cx (hW.at 1 rfl) rfl (by decide) (by decide) dX8_chancesOf_10 ?_
      refine lv_icmp_ge (pc := 11) (tgt := 42) hx hb dX8_chancesOf_11 (by decide) (fun c_1 => ?_) (fun c_1 => ?_)
      · skip
        obtain rfl : i = nT sv := by have := ge_nat (a := i) rfl (Inv.n1 hC).1 (by omega) (by omega) c_1; omega
        refine lv_iload_n (pc := 42) hx hb dX8_chancesOf_42 rfl (lv_at hl 1 rfl) ?_
        exact z_iret cx hr hlk dX8_chancesOf_43 (by first | rfl | (simp [chA, csN, sumN, bit]; done))
      · skip
        have hlt_i := lt_nat (a := i) rfl (Inv.n1 hC).1 (by omega) (by omega) c_1
        refine lv_iload_n (pc := 14) hx hb dX8_chancesOf_14 rfl (lv_at hl 1 rfl) ?_
        refine lv_iload_n (pc := 15) hx hb dX8_chancesOf_15 rfl (lv_at hl 3 rfl) ?_
        refine lv_iload_n (pc := 16) hx hb dX8_chancesOf_16 rfl (lv_at hl 0 rfl) ?_
        refine lv_ishr (pc := 17) hx hb dX8_chancesOf_17 ?_
        refine lv_iconst (pc := 18) (v := 1) hx hb dX8_chancesOf_18 (by decide) ?_
        refine lv_iand (pc := 19) hx hb dX8_chancesOf_19 ?_
        refine lv_iconst (pc := 20) (v := 1) hx hb dX8_chancesOf_20 (by decide) ?_
        refine lv_icmp_ne (pc := 21) (tgt := 33) hx hb dX8_chancesOf_21 (by decide) (fun c_2 => ?_) (fun c_2 => ?_)
        · skip
          refine lv_iconst (pc := 33) (v := 0) hx hb dX8_chancesOf_33 (by decide) ?_
          refine lv_iadd (pc := 34) hx hb dX8_chancesOf_34 ?_
          refine lv_istore_n (pc := 35) (lv' := [(2, .int ((csN sv set i) + 0)), (3, .int (nI i)), (0, .ref (a 0)), (1, .int set)]) hx hb dX8_chancesOf_35 rfl hl (by decide) rfl (fun ls hl => ?_)
          refine lv_iinc (pc := 36) (v := nI (i + 1)) (lv' := [(3, .int (nI (i + 1))), (2, .int ((csN sv set i) + 0)), (0, .ref (a 0)), (1, .int set)]) hx hb dX8_chancesOf_36 hl (k := 1) rfl (nI_1 _) (by decide) rfl (fun ls hl => ?_)
          refine lv_goto (pc := 39) (tgt := 4) hx hb dX8_chancesOf_39 (by decide) ?_
          exact ih_4 (i + 1) (nI (i + 1)) ((csN sv set i) + 0) (by omega) (by omega) (by first | rfl | (simp [chA, csN, sumN, bit, c_2]; done)) (by first | rfl | (simp [chA, csN, sumN, bit, c_2]; done)) ls (lv_sub hl [0, 1, 2, 3] rfl)
        · skip
          refine lv_aload_n (pc := 24) hx hb dX8_chancesOf_24 rfl (lv_at hl 2 rfl) ?_
          refine lv_iload_n (pc := 25) hx hb dX8_chancesOf_25 rfl (lv_at hl 0 rfl) ?_
          refine lv_iconst (pc := 26) (v := 4) hx hb dX8_chancesOf_26 (by decide) ?_
          refine k_X8_of (pc := 27) (n := i) (k := 4) cx hW (by first | assumption | omega) (by first | assumption | omega) m_ml_X8_140 ⟨Nat.le_of_ble_eq_true rfl, Nat.le_of_ble_eq_true rfl⟩ hl.1 rfl (by simp [Value.category]) dX8_chancesOf_27 ⟨Nat.le_refl _, Nat.le_refl _⟩ ?_
          refine lv_goto (pc := 30) (tgt := 34) hx hb dX8_chancesOf_30 (by decide) ?_
          refine lv_iadd (pc := 34) hx hb dX8_chancesOf_34 ?_
          refine lv_istore_n (pc := 35) (lv' := [(2, .int ((csN sv set i) + (g5 sv i 4))), (3, .int (nI i)), (0, .ref (a 0)), (1, .int set)]) hx hb dX8_chancesOf_35 rfl hl (by decide) rfl (fun ls hl => ?_)
          refine lv_iinc (pc := 36) (v := nI (i + 1)) (lv' := [(3, .int (nI (i + 1))), (2, .int ((csN sv set i) + (g5 sv i 4))), (0, .ref (a 0)), (1, .int set)]) hx hb dX8_chancesOf_36 hl (k := 1) rfl (nI_1 _) (by decide) rfl (fun ls hl => ?_)
          refine lv_goto (pc := 39) (tgt := 4) hx hb dX8_chancesOf_39 (by decide) ?_
          exact ih_4 (i + 1) (nI (i + 1)) ((csN sv set i) + (g5 sv i 4)) (by omega) (by omega) (by first | rfl | (simp [chA, csN, sumN, bit, c_2]; done)) (by first | rfl | (simp [chA, csN, sumN, bit, c_2]; done)) ls (lv_sub hl [0, 1, 2, 3] rfl)
  exact loop_4 ((nT sv - 0) + 1) 0 0 0 (Nat.lt_succ_self _) (by omega) (by first | rfl | (simp [chA, csN, sumN, bit]; done)) (by first | rfl | (simp [chA, csN, sumN, bit]; done)) ls (lv_sub hl [0, 1, 2, 3] rfl)
theorem k_X8_chancesOf {p : Program} {l : Launch} {e : Env} {R : Room} {s : State} {m : MethodId} {args : Array Value} {below : List Frame} {meth : Method} {c : Code} {H : Heap} {locs : List Loc} {cells slots : Nat} {Q : State → Prop} {cc : ByteArray} {pc index : Nat} {ls : Array Slot} {rest st0 : List Value} {E : zE} {own : String} {nL : Nat} {a : Nat → Nat} {sv im rd wa kp so sz el pr ts nu bu ht : Nat → Int32} {th po ba en td : Int32} {ig : Bool} {ij : Bool} {set : Int32} (cx : Cx E p s args m c own cc nL) (hW : WW E (wM a (E.2.1 0) sv im rd wa kp so sz el pr ts nu bu ht (bI ig) th po ba en td (bI ij)) gN H) (hI : Inv sv) (zl : Cond.methodLink own index yX8_chancesOf ∈ AllW) (zR : 1 + 1 ≤ R.frames ∧ 8 + (4 + 11) + 22 ≤ R.locals) (zs : ls.size = nL) (zt : st0 = ([.int set] : List Value).reverse ++ .ref (a 0) :: rest) (z8 : (rest.map fun v => v.category).sum ≤ 8) (zd : decode cc pc = .ok (.invokevirtual index, 3)) (zf : cells ≤ R.cells ∧ slots ≤ R.slots) (kk : W p l e R s m args below meth c H locs cells slots Q (F0 m (pc + 3) ls (.int (chA sv set) :: rest))) : W p l e R s m args below meth c H locs cells slots Q (F0 m pc ls st0) :=
  z_callV cx vm_X8_chancesOf (c_X8_chancesOf l E a sv im rd wa kp so sz el pr ts nu bu ht th po ba en td ig ij set hI) (z_rec cx.2 (hW.at 0 rfl) rfl) hW zl ⟨rfl, rfl⟩ zR rfl zs zt z8 zd zf kk
theorem vm_X8_bits : zSm yX8_bits cX8_bits 3 (some FieldType.int) 1 := ⟨m_co_X8_bits, m_in_RX8, m_st_X8_bits, by decide +kernel, by decide +kernel, by decide +kernel⟩
set_option maxHeartbeats 4000000 in
set_option maxRecDepth 100000 in
theorem c_X8_bits (l : Launch) (E : zE) (v : Nat) (hv : v < 1024) : Met l yX8_bits (.code yX8_bits cX8_bits 3 (some FieldType.int) :: AllW) (rm0' 0 0) (zP E (fun _ => True) [.int (nI v)]) (rQ (.int (nI (pop v)))) 0 0 nF := by
  refine z_body (own := RX8) (by decide) rfl rfl ?_
  intro p e s m args below meth c ls cx hr hlk hnm hW hl
  have hx := cx.x
  have hb := cx.b
  have hl : lv_has ls 3 [(0, .int (nI v))] := hl
  refine lv_iconst (pc := 0) (v := 0) hx hb dX8_bits_0 (by decide) ?_
  refine lv_istore_n (pc := 1) (lv' := [(1, .int 0), (0, .int (nI v))]) hx hb dX8_bits_1 rfl hl (by decide) rfl (fun ls hl => ?_)
  refine lv_iload_n (pc := 2) hx hb dX8_bits_2 rfl (lv_at hl 1 rfl) ?_
  refine lv_istore_n (pc := 3) (lv' := [(2, .int (nI v)), (1, .int 0), (0, .int (nI v))]) hx hb dX8_bits_3 rfl hl (by decide) rfl (fun ls hl => ?_)
  have loop_4 : ∀ (k_4 : Nat) (k : Nat) (u : Nat) (x2 : Int32) (x1 : Int32), u < k_4 → (u < 1024) → (k + pop u = pop v) → x2 = nI u → x1 = nI k → ∀ (ls : Array Slot), lv_has ls 3 [(2, .int x2), (1, .int x1), (0, .int (nI v))] → W p l e (rm0' (0) (0)) s m args below meth c s.heap [] 0 0 (MQ below (rQ (.int (nI (pop v)))) args s 0 0 nF) (F0 m 4 ls []) := by
    intro k_4
    induction k_4 with
    | zero =>
      intro k u x2 x1 hm
      exact absurd hm (Nat.not_lt_zero _)
    | succ k_4 ih_4 =>
      intro k u x2 x1 hm_4 hu hk e_x2 e_x1  ls hl
      subst e_x2
      subst e_x1
      refine lv_iload_n (pc := 4) hx hb dX8_bits_4 rfl (lv_at hl 0 rfl) ?_
      refine lv_if_eq (pc := 5) (tgt := 20) hx hb dX8_bits_5 (by decide) (fun c_1 => ?_) (fun c_1 => ?_)
      · skip
        obtain rfl : u = 0 := (nI_z (by omega)).mp c_1
        refine lv_iload_n (pc := 20) hx hb dX8_bits_20 rfl (lv_at hl 1 rfl) ?_
        exact z_iret cx hr hlk dX8_bits_21 (by rw [pop_0] at hk; rw [← hk]; rfl)
      · skip
        obtain ⟨hs1, hs2, hs3⟩ := pop_step u hu (fun q => c_1 (by rw [q]; rfl))
        refine lv_iinc (pc := 8) (v := nI (k + 1)) (lv' := [(1, .int (nI (k + 1))), (2, .int (nI u)), (0, .int (nI v))]) hx hb dX8_bits_8 hl (k := 1) rfl (nI_1 _) (by decide) rfl (fun ls hl => ?_)
        refine lv_iload_n (pc := 11) hx hb dX8_bits_11 rfl (lv_at hl 1 rfl) ?_
        refine lv_iload_n (pc := 12) hx hb dX8_bits_12 rfl (lv_at hl 1 rfl) ?_
        refine lv_iconst (pc := 13) (v := 1) hx hb dX8_bits_13 (by decide) ?_
        refine lv_isub (pc := 14) hx hb dX8_bits_14 ?_
        refine lv_iand (pc := 15) hx hb dX8_bits_15 ?_
        refine lv_istore_n (pc := 16) (lv' := [(2, .int ((nI u) &&& ((nI u) - 1))), (1, .int (nI (k + 1))), (0, .int (nI v))]) hx hb dX8_bits_16 rfl hl (by decide) rfl (fun ls hl => ?_)
        refine lv_goto (pc := 17) (tgt := 4) hx hb dX8_bits_17 (by decide) ?_
        exact ih_4 (k + 1) (u &&& (u - 1)) ((nI u) &&& ((nI u) - 1)) (nI (k + 1)) (by omega) (by omega) (by omega) hs1 (by first | rfl | (simp [c_1]; done)) ls (lv_sub hl [0, 1, 2] rfl)
  exact loop_4 (v + 1) 0 v (nI v) 0 (Nat.lt_succ_self _) (by omega) (by omega) (by first | rfl | (simp []; done)) (by first | rfl | (simp []; done)) ls (lv_sub hl [0, 1, 2] rfl)
theorem k_X8_bits {p : Program} {l : Launch} {e : Env} {R : Room} {s : State} {m : MethodId} {args : Array Value} {below : List Frame} {meth : Method} {c : Code} {H : Heap} {locs : List Loc} {cells slots : Nat} {Q : State → Prop} {cc : ByteArray} {pc index : Nat} {ls : Array Slot} {rest st0 : List Value} {E : zE} {own : String} {nL : Nat} {v : Nat} (cx : Cx E p s args m c own cc nL) (hv : v < 1024) (zl : Cond.methodLink own index yX8_bits ∈ AllW) (zR : 0 + 1 ≤ R.frames ∧ 8 + (3 + 11) + 0 ≤ R.locals) (zs : ls.size = nL) (zt : st0 = ([.int (nI v)] : List Value).reverse ++ rest) (z8 : (rest.map fun v => v.category).sum ≤ 8) (zd : decode cc pc = .ok (.invokestatic index, 3)) (zf : cells ≤ R.cells ∧ slots ≤ R.slots) (kk : W p l e R s m args below meth c H locs cells slots Q (F0 m (pc + 3) ls (.int (nI (pop v)) :: rest))) : W p l e R s m args below meth c H locs cells slots Q (F0 m pc ls st0) :=
  z_callS cx vm_X8_bits (c_X8_bits l E v hv) trivial zl ⟨rfl, rfl⟩ zR rfl zs zt z8 zd zf kk
theorem vm_X8_shiftOf : zVm yX8_shiftOf cX8_shiftOf 3 (some FieldType.int) 2 := ⟨m_co_X8_shiftOf, m_in_RX8, ⟨m_im_X8_shiftOf, m_se_X8_X8_shiftOf⟩, by decide +kernel, by decide +kernel, by decide +kernel⟩
set_option maxHeartbeats 4000000 in
set_option maxRecDepth 100000 in
theorem c_X8_shiftOf (l : Launch) (E : zE) (a : Nat → Nat) (sv im rd wa kp so sz el pr ts nu bu ht : Nat → Int32) (th po ba en td : Int32) (ig : Bool) (ij : Bool) (n : Nat) (w : Int32) (hI : Inv sv) (hn : n < nP sv) (hw : rg (g6 sv n 5 + w) 0 40) : Met l yX8_shiftOf (.code yX8_shiftOf cX8_shiftOf 3 (some FieldType.int) :: AllW) (rm0' 3 66) (zP E (fun H => WW E (wM a (E.2.1 0) sv im rd wa kp so sz el pr ts nu bu ht (bI ig) th po ba en td (bI ij)) gN H) [.ref (a 0), .int (nI n), .int w]) (rQ (.int (shO sv n w))) 0 0 nF := by
  refine z_body (own := RX8) (by decide) rfl rfl ?_
  intro p e s m args below meth c ls cx hr hlk hnm hW hl
  have hx := cx.x
  have hb := cx.b
  have hl : lv_has ls 3 [(0, .ref (a 0)), (1, .int (nI n)), (2, .int w)] := hl
  have hC := hI.1
  have hP10 := (Inv.n0 hC).2
  have hT7 := (Inv.n1 hC).2
  have hA24 := (Inv.n2 hC).2
  refine lv_aload_n (pc := 0) hx hb dX8_shiftOf_0 rfl (lv_at hl 0 rfl) ?_
  refine lv_iload_n (pc := 1) hx hb dX8_shiftOf_1 rfl (lv_at hl 1 rfl) ?_
  refine k_X8_toneNow (pc := 2) (n := n) cx hW (by first | assumption | omega) (by first | assumption | omega) m_ml_X8_133 ⟨Nat.le_of_ble_eq_true rfl, Nat.le_of_ble_eq_true rfl⟩ hl.1 rfl (by simp [Value.category]) dX8_shiftOf_2 ⟨Nat.le_refl _, Nat.le_refl _⟩ ?_
  refine lv_aload_n (pc := 5) hx hb dX8_shiftOf_5 rfl (lv_at hl 0 rfl) ?_
  refine lv_iload_n (pc := 6) hx hb dX8_shiftOf_6 rfl (lv_at hl 1 rfl) ?_
  refine lv_aload_n (pc := 7) hx hb dX8_shiftOf_7 rfl (lv_at hl 0 rfl) ?_
  refine lv_iload_n (pc := 8) hx hb dX8_shiftOf_8 rfl (lv_at hl 1 rfl) ?_
  refine lv_iconst (pc := 9) (v := 5) hx hb dX8_shiftOf_9 (by decide) ?_
  refine k_X8_get (pc := 10) (n := n) (k := 5) cx hW (by first | assumption | omega) (by first | assumption | omega) m_ml_X8_124 ⟨Nat.le_of_ble_eq_true rfl, Nat.le_of_ble_eq_true rfl⟩ hl.1 rfl (by simp [Value.category]) dX8_shiftOf_10 ⟨Nat.le_refl _, Nat.le_refl _⟩ ?_
  refine lv_iload_n (pc := 13) hx hb dX8_shiftOf_13 rfl (lv_at hl 2 rfl) ?_
  refine lv_iadd (pc := 14) hx hb dX8_shiftOf_14 ?_
  refine k_X8_toneWith (pc := 15) (n := n) (w := (g6 sv n 5) + w) cx hW (by first | assumption | omega) (by first | assumption | omega) (by first | assumption | omega) m_ml_X8_127 ⟨Nat.le_of_ble_eq_true rfl, Nat.le_of_ble_eq_true rfl⟩ hl.1 rfl (by simp [Value.category]) dX8_shiftOf_15 ⟨Nat.le_refl _, Nat.le_refl _⟩ ?_
  refine lv_isub (pc := 18) hx hb dX8_shiftOf_18 ?_
  exact z_iret cx hr hlk dX8_shiftOf_19 (by first | rfl | (simp []; done))
theorem k_X8_shiftOf {p : Program} {l : Launch} {e : Env} {R : Room} {s : State} {m : MethodId} {args : Array Value} {below : List Frame} {meth : Method} {c : Code} {H : Heap} {locs : List Loc} {cells slots : Nat} {Q : State → Prop} {cc : ByteArray} {pc index : Nat} {ls : Array Slot} {rest st0 : List Value} {E : zE} {own : String} {nL : Nat} {a : Nat → Nat} {sv im rd wa kp so sz el pr ts nu bu ht : Nat → Int32} {th po ba en td : Int32} {ig : Bool} {ij : Bool} {n : Nat} {w : Int32} (cx : Cx E p s args m c own cc nL) (hW : WW E (wM a (E.2.1 0) sv im rd wa kp so sz el pr ts nu bu ht (bI ig) th po ba en td (bI ij)) gN H) (hI : Inv sv) (hn : n < nP sv) (hw : rg (g6 sv n 5 + w) 0 40) (zl : Cond.methodLink own index yX8_shiftOf ∈ AllW) (zR : 3 + 1 ≤ R.frames ∧ 8 + (3 + 11) + 66 ≤ R.locals) (zs : ls.size = nL) (zt : st0 = ([.int (nI n), .int w] : List Value).reverse ++ .ref (a 0) :: rest) (z8 : (rest.map fun v => v.category).sum ≤ 8) (zd : decode cc pc = .ok (.invokevirtual index, 3)) (zf : cells ≤ R.cells ∧ slots ≤ R.slots) (kk : W p l e R s m args below meth c H locs cells slots Q (F0 m (pc + 3) ls (.int (shO sv n w) :: rest))) : W p l e R s m args below meth c H locs cells slots Q (F0 m pc ls st0) :=
  z_callV cx vm_X8_shiftOf (c_X8_shiftOf l E a sv im rd wa kp so sz el pr ts nu bu ht th po ba en td ig ij n w hI hn hw) (z_rec cx.2 (hW.at 0 rfl) rfl) hW zl ⟨rfl, rfl⟩ zR rfl zs zt z8 zd zf kk
theorem vm_X8_shift : zVm yX8_shift cX8_shift 3 (some FieldType.int) 2 := ⟨m_co_X8_shift, m_in_RX8, ⟨m_im_X8_shift, m_se_X8_X8_shift⟩, by decide +kernel, by decide +kernel, by decide +kernel⟩
set_option maxHeartbeats 4000000 in
set_option maxRecDepth 100000 in
theorem c_X8_shift (l : Launch) (E : zE) (a : Nat → Nat) (sv im rd wa kp so sz el pr ts nu bu ht : Nat → Int32) (th po ba en td : Int32) (ig : Bool) (ij : Bool) (x w : Int32) (hI : Inv sv) : Met l yX8_shift (.code yX8_shift cX8_shift 3 (some FieldType.int) :: AllW) (rm0' 4 88) (zP E (fun H => WW E (wM a (E.2.1 0) sv im rd wa kp so sz el pr ts nu bu ht (bI ig) th po ba en td (bI ij)) gN H) [.ref (a 0), .int x, .int w]) (rQ (.int (shiftP sv x w))) 0 0 nF := by
  refine z_body (own := RX8) (by decide) rfl rfl ?_
  intro p e s m args below meth c ls cx hr hlk hnm hW hl
  have hx := cx.x
  have hb := cx.b
  have hl : lv_has ls 3 [(0, .ref (a 0)), (1, .int x), (2, .int w)] := hl
  have hC := hI.1
  have hP10 := (Inv.n0 hC).2
  have hT7 := (Inv.n1 hC).2
  have hA24 := (Inv.n2 hC).2
  refine lv_aload_n (pc := 0) hx hb dX8_shift_0 rfl (lv_at hl 0 rfl) ?_
  refine lv_iload_n (pc := 1) hx hb dX8_shift_1 rfl (lv_at hl 1 rfl) ?_
  refine k_X8_isPiece (pc := 2) (x := x) cx hW  m_ml_X8_130 ⟨Nat.le_of_ble_eq_true rfl, Nat.le_of_ble_eq_true rfl⟩ hl.1 rfl (by simp [Value.category]) dX8_shift_2 ⟨Nat.le_refl _, Nat.le_refl _⟩ ?_
  refine z_ifeq (pc := 5) (tgt := 20) hx hb dX8_shift_5 (by decide) (fun c_1 => ?_) (fun c_1 => ?_)
  · skip
    refine lv_iconst (pc := 20) (v := (-1)) hx hb dX8_shift_20 (by decide) ?_
    refine lv_goto (pc := 21) (tgt := 48) hx hb dX8_shift_21 (by decide) ?_
    exact z_iret cx hr hlk dX8_shift_48 (by first | rfl | (simp [shiftP, c_1]; done))
  · skip
    obtain ⟨n, hn, rfl⟩ := pc_nat hC c_1
    have hN := iN_nI (n := n) (by omega)
    refine lv_iload_n (pc := 8) hx hb dX8_shift_8 rfl (lv_at hl 2 rfl) ?_
    refine lv_i2l (pc := 9) (v := Int32.toInt64 w) hx hb dX8_shift_9 rfl ?_
    refine lv_lconst (pc := 10) (v := 0) hx hb dX8_shift_10 rfl ?_
    refine lv_ldc2 (pc := 11) (v := 20) hx hb cx.own (cx.ts _ m_kl_X8_151) dX8_shift_11 ?_
    refine k_X8_isIn (pc := 14) (x := w) (y := 0) (z := 20) cx  m_ml_X8_53 ⟨Nat.le_of_ble_eq_true rfl, Nat.le_of_ble_eq_true rfl⟩ hl.1 rfl (by simp [Value.category]) dX8_shift_14 ⟨Nat.le_refl _, Nat.le_refl _⟩ ?_
    refine z_ifne (pc := 17) (tgt := 24) hx hb dX8_shift_17 (by decide) (fun c_2 => ?_) (fun c_2 => ?_)
    · skip
      refine lv_aload_n (pc := 24) hx hb dX8_shift_24 rfl (lv_at hl 0 rfl) ?_
      refine lv_iload_n (pc := 25) hx hb dX8_shift_25 rfl (lv_at hl 1 rfl) ?_
      refine lv_iconst (pc := 26) (v := 5) hx hb dX8_shift_26 (by decide) ?_
      refine k_X8_get (pc := 27) (n := n) (k := 5) cx hW (by first | assumption | omega) (by first | assumption | omega) m_ml_X8_124 ⟨Nat.le_of_ble_eq_true rfl, Nat.le_of_ble_eq_true rfl⟩ hl.1 rfl (by simp [Value.category]) dX8_shift_27 ⟨Nat.le_refl _, Nat.le_refl _⟩ ?_
      refine lv_iload_n (pc := 30) hx hb dX8_shift_30 rfl (lv_at hl 2 rfl) ?_
      refine lv_iadd (pc := 31) hx hb dX8_shift_31 ?_
      refine lv_bipush (pc := 32) (v := 20) hx hb dX8_shift_32 (by decide) ?_
      refine lv_icmp_le (pc := 34) (tgt := 42) hx hb dX8_shift_34 (by decide) (fun c_3 => ?_) (fun c_3 => ?_)
      · skip
        refine lv_aload_n (pc := 42) hx hb dX8_shift_42 rfl (lv_at hl 0 rfl) ?_
        refine lv_iload_n (pc := 43) hx hb dX8_shift_43 rfl (lv_at hl 1 rfl) ?_
        refine lv_iload_n (pc := 44) hx hb dX8_shift_44 rfl (lv_at hl 2 rfl) ?_
        refine k_X8_shiftOf (pc := 45) (n := n) (w := w) cx hW hI hn (by have h5 := hI.2.1.2 n (by omega); have hw := inL20_rg (by assumption); unfold rg at h5 hw ⊢; rw [ti_add] <;> omega) m_ml_X8_242 ⟨Nat.le_of_ble_eq_true rfl, Nat.le_of_ble_eq_true rfl⟩ hl.1 rfl (by simp [Value.category]) dX8_shift_45 ⟨Nat.le_refl _, Nat.le_refl _⟩ ?_
        exact z_iret cx hr hlk dX8_shift_48 (by first | rfl | (simp [shiftP, c_1, hN, c_2, c_3, i_nlt.mpr c_3]; done))
      · skip
        refine lv_bipush (pc := 37) (v := (-3)) hx hb dX8_shift_37 (by decide) ?_
        refine lv_goto (pc := 39) (tgt := 48) hx hb dX8_shift_39 (by decide) ?_
        exact z_iret cx hr hlk dX8_shift_48 (by first | rfl | (simp [shiftP, c_1, hN, c_2, c_3, i_nle.mp c_3]; done))
    · skip
      refine lv_iconst (pc := 20) (v := (-1)) hx hb dX8_shift_20 (by decide) ?_
      refine lv_goto (pc := 21) (tgt := 48) hx hb dX8_shift_21 (by decide) ?_
      exact z_iret cx hr hlk dX8_shift_48 (by first | rfl | (simp [shiftP, c_1, hN, c_2]; done))
theorem k_X8_shift {p : Program} {l : Launch} {e : Env} {R : Room} {s : State} {m : MethodId} {args : Array Value} {below : List Frame} {meth : Method} {c : Code} {H : Heap} {locs : List Loc} {cells slots : Nat} {Q : State → Prop} {cc : ByteArray} {pc index : Nat} {ls : Array Slot} {rest st0 : List Value} {E : zE} {own : String} {nL : Nat} {a : Nat → Nat} {sv im rd wa kp so sz el pr ts nu bu ht : Nat → Int32} {th po ba en td : Int32} {ig : Bool} {ij : Bool} {x w : Int32} (cx : Cx E p s args m c own cc nL) (hW : WW E (wM a (E.2.1 0) sv im rd wa kp so sz el pr ts nu bu ht (bI ig) th po ba en td (bI ij)) gN H) (hI : Inv sv) (zl : Cond.methodLink own index yX8_shift ∈ AllW) (zR : 4 + 1 ≤ R.frames ∧ 8 + (3 + 11) + 88 ≤ R.locals) (zs : ls.size = nL) (zt : st0 = ([.int x, .int w] : List Value).reverse ++ .ref (a 0) :: rest) (z8 : (rest.map fun v => v.category).sum ≤ 8) (zd : decode cc pc = .ok (.invokevirtual index, 3)) (zf : cells ≤ R.cells ∧ slots ≤ R.slots) (kk : W p l e R s m args below meth c H locs cells slots Q (F0 m (pc + 3) ls (.int (shiftP sv x w) :: rest))) : W p l e R s m args below meth c H locs cells slots Q (F0 m pc ls st0) :=
  z_callV cx vm_X8_shift (c_X8_shift l E a sv im rd wa kp so sz el pr ts nu bu ht th po ba en td ig ij x w hI) (z_rec cx.2 (hW.at 0 rfl) rfl) hW zl ⟨rfl, rfl⟩ zR rfl zs zt z8 zd zf kk
theorem vm_X8_lives : zVm yX8_lives cX8_lives 8 (some FieldType.int) 3 := ⟨m_co_X8_lives, m_in_RX8, ⟨m_im_X8_lives, m_se_X8_X8_lives⟩, by decide +kernel, by decide +kernel, by decide +kernel⟩
set_option maxHeartbeats 4000000 in
set_option maxRecDepth 100000 in
theorem c_X8_lives (l : Launch) (E : zE) (a : Nat → Nat) (sv im rd wa kp so sz el pr ts nu bu ht : Nat → Int32) (th po ba en td : Int32) (ig : Bool) (ij : Bool) (w sh mm : Int32) (hI : Inv sv) : Met l yX8_lives (.code yX8_lives cX8_lives 8 (some FieldType.int) :: AllW) (rm0' 4 88) (zP E (fun H => WW E (wM a (E.2.1 0) sv im rd wa kp so sz el pr ts nu bu ht (bI ig) th po ba en td (bI ij)) gN H) [.ref (a 0), .int w, .int sh, .int mm]) (rQ (.int (livesP sv w sh mm))) 0 0 nF := by
  refine z_body (own := RX8) (by decide) rfl rfl ?_
  intro p e s m args below meth c ls cx hr hlk hnm hW hl
  have hx := cx.x
  have hb := cx.b
  have hl : lv_has ls 8 [(0, .ref (a 0)), (1, .int w), (2, .int sh), (3, .int mm)] := hl
  have hC := hI.1
  have hP10 := (Inv.n0 hC).2
  have hT7 := (Inv.n1 hC).2
  have hA24 := (Inv.n2 hC).2
  refine lv_iload_n (pc := 0) hx hb dX8_lives_0 rfl (lv_at hl 1 rfl) ?_
  refine lv_i2l (pc := 1) (v := Int32.toInt64 w) hx hb dX8_lives_1 rfl ?_
  refine lv_lconst (pc := 2) (v := 0) hx hb dX8_lives_2 rfl ?_
  refine lv_ldc2 (pc := 3) (v := 20) hx hb cx.own (cx.ts _ m_kl_X8_151) dX8_lives_3 ?_
  refine k_X8_isIn (pc := 6) (x := w) (y := 0) (z := 20) cx  m_ml_X8_53 ⟨Nat.le_of_ble_eq_true rfl, Nat.le_of_ble_eq_true rfl⟩ hl.1 rfl (by simp [Value.category]) dX8_lives_6 ⟨Nat.le_refl _, Nat.le_refl _⟩ ?_
  refine z_ifeq (pc := 9) (tgt := 24) hx hb dX8_lives_9 (by decide) (fun c_1 => ?_) (fun c_1 => ?_)
  · skip
    refine lv_iconst (pc := 24) (v := (-1)) hx hb dX8_lives_24 (by decide) ?_
    exact z_iret cx hr hlk dX8_lives_25 (by first | rfl | (simp [livesP, lvB, orN, c_1]; done))
  · skip
    refine lv_iload_n (pc := 12) hx hb dX8_lives_12 rfl (lv_at hl 3 rfl) ?_
    refine lv_i2l (pc := 13) (v := Int32.toInt64 mm) hx hb dX8_lives_13 rfl ?_
    refine lv_lconst (pc := 14) (v := 0) hx hb dX8_lives_14 rfl ?_
    refine lv_ldc2 (pc := 15) (v := 99) hx hb cx.own (cx.ts _ m_kl_X8_61) dX8_lives_15 ?_
    refine k_X8_isIn (pc := 18) (x := mm) (y := 0) (z := 99) cx  m_ml_X8_53 ⟨Nat.le_of_ble_eq_true rfl, Nat.le_of_ble_eq_true rfl⟩ hl.1 rfl (by simp [Value.category]) dX8_lives_18 ⟨Nat.le_refl _, Nat.le_refl _⟩ ?_
    refine z_ifne (pc := 21) (tgt := 26) hx hb dX8_lives_21 (by decide) (fun c_2 => ?_) (fun c_2 => ?_)
    · skip
      refine lv_iconst (pc := 26) (v := 0) hx hb dX8_lives_26 (by decide) ?_
      refine lv_istore (pc := 27) (lv' := [(4, .int 0), (0, .ref (a 0)), (1, .int w), (2, .int sh), (3, .int mm)]) hx hb dX8_lives_27 hl (by decide) rfl (fun ls hl => ?_)
      refine lv_iconst (pc := 29) (v := 0) hx hb dX8_lives_29 (by decide) ?_
      refine lv_istore (pc := 30) (lv' := [(5, .int 0), (4, .int 0), (0, .ref (a 0)), (1, .int w), (2, .int sh), (3, .int mm)]) hx hb dX8_lives_30 hl (by decide) rfl (fun ls hl => ?_)
      have loop_32 : ∀ (k_32 : Nat) (i : Nat) (x5 : Int32) (x4 : Int32), (nP sv - i) < k_32 → (i ≤ nP sv) → x5 = nI i → x4 = orN (fun n => if lvB sv w sh mm n = true then 1 <<< (nI n &&& 31) else 0) i → ∀ (ls : Array Slot), lv_has ls 8 [(5, .int x5), (4, .int x4), (0, .ref (a 0)), (1, .int w), (2, .int sh), (3, .int mm)] → W p l e (rm0' (4) (88)) s m args below meth c s.heap [] 0 0 (MQ below (rQ (.int (livesP sv w sh mm))) args s 0 0 nF) (F0 m 32 ls []) := by
        intro k_32
        induction k_32 with
        | zero =>
          intro i x5 x4 hm
          exact absurd hm (Nat.not_lt_zero _)
        | succ k_32 ih_32 =>
          intro i x5 x4 hm_32 hi e_x5 e_x4  ls hl
          subst e_x5
          subst e_x4
          refine lv_iload (pc := 32) hx hb dX8_lives_32 (lv_at hl 0 rfl) ?_
          refine lv_aload_n (pc := 34) hx hb dX8_lives_34 rfl (lv_at hl 2 rfl) ?_
          refine z_getM (pc := 35) cx (hW.at 0 rfl) 0 rfl m_fl_X8_9 rfl dX8_lives_35 ?_
          refine lv_iconst (pc := 38) (v := 0) hx hb dX8_lives_38 (by decide) ?_
          refine z_iald (pc := 39) (f := sv) (j := 0) cx (hW.at 1 rfl) rfl (by decide) (by decide) dX8_lives_39 ?_
          refine lv_icmp_ge (pc := 40) (tgt := 109) hx hb dX8_lives_40 (by decide) (fun c_3 => ?_) (fun c_3 => ?_)
          · skip
            obtain rfl : i = nP sv := by have := ge_nat (a := i) rfl (Inv.n0 hC).1 (by omega) (by omega) c_3; omega
            refine lv_iload (pc := 109) hx hb dX8_lives_109 (lv_at hl 1 rfl) ?_
            exact z_iret cx hr hlk dX8_lives_111 (by first | rfl | (simp [livesP, lvB, orN, c_1, c_2]; done))
          · skip
            have hlt_i := lt_nat (a := i) rfl (Inv.n0 hC).1 (by omega) (by omega) c_3
            refine lv_aload_n (pc := 43) hx hb dX8_lives_43 rfl (lv_at hl 2 rfl) ?_
            refine lv_iload (pc := 44) hx hb dX8_lives_44 (lv_at hl 0 rfl) ?_
            refine lv_iconst (pc := 46) (v := 5) hx hb dX8_lives_46 (by decide) ?_
            refine k_X8_get (pc := 47) (n := i) (k := 5) cx hW (by first | assumption | omega) (by first | assumption | omega) m_ml_X8_124 ⟨Nat.le_of_ble_eq_true rfl, Nat.le_of_ble_eq_true rfl⟩ hl.1 rfl (by simp [Value.category]) dX8_lives_47 ⟨Nat.le_refl _, Nat.le_refl _⟩ ?_
            refine lv_iload_n (pc := 50) hx hb dX8_lives_50 rfl (lv_at hl 3 rfl) ?_
            refine lv_iadd (pc := 51) hx hb dX8_lives_51 ?_
            refine lv_bipush (pc := 52) (v := 20) hx hb dX8_lives_52 (by decide) ?_
            refine lv_icmp_le (pc := 54) (tgt := 60) hx hb dX8_lives_54 (by decide) (fun c_4 => ?_) (fun c_4 => ?_)
            · skip
              refine lv_aload_n (pc := 60) hx hb dX8_lives_60 rfl (lv_at hl 2 rfl) ?_
              refine lv_iload (pc := 61) hx hb dX8_lives_61 (lv_at hl 0 rfl) ?_
              refine lv_iload_n (pc := 63) hx hb dX8_lives_63 rfl (lv_at hl 3 rfl) ?_
              refine k_X8_shiftOf (pc := 64) (n := i) (w := w) cx hW hI hlt_i (by have h5 := hI.2.1.2 i (by omega); have hw := inL20_rg (by assumption); unfold rg at h5 hw ⊢; rw [ti_add] <;> omega) m_ml_X8_242 ⟨Nat.le_of_ble_eq_true rfl, Nat.le_of_ble_eq_true rfl⟩ hl.1 rfl (by simp [Value.category]) dX8_lives_64 ⟨Nat.le_refl _, Nat.le_refl _⟩ ?_
              refine lv_i2l (pc := 67) (v := Int32.toInt64 (shO sv i w)) hx hb dX8_lives_67 rfl ?_
              refine lv_iload_n (pc := 68) hx hb dX8_lives_68 rfl (lv_at hl 4 rfl) ?_
              refine lv_i2l (pc := 69) (v := Int32.toInt64 sh) hx hb dX8_lives_69 rfl ?_
              refine lv_lsub (pc := 70) hx hb dX8_lives_70 ?_
              refine lv_lstore (pc := 71) (lv' := [(6, .long ((Int32.toInt64 (shO sv i w)) - (Int32.toInt64 sh))), (5, .int (nI i)), (4, .int (orN (fun n => if lvB sv w sh mm n = true then 1 <<< (nI n &&& 31) else 0) i)), (0, .ref (a 0)), (1, .int w), (2, .int sh), (3, .int mm)]) hx hb dX8_lives_71 hl (by decide) rfl (fun ls hl => ?_)
              refine lv_iload (pc := 73) hx hb dX8_lives_73 (lv_at hl 2 rfl) ?_
              refine lv_lload (pc := 75) hx hb dX8_lives_75 (lv_at hl 0 rfl) ?_
              refine lv_iload_n (pc := 77) hx hb dX8_lives_77 rfl (lv_at hl 6 rfl) ?_
              refine lv_i2l (pc := 78) (v := Int32.toInt64 mm) hx hb dX8_lives_78 rfl ?_
              refine W.lcmp (pc := 79) hx hb dX8_lives_79 ?_
              refine lv_if_gt (pc := 80) (tgt := 99) hx hb dX8_lives_80 (by decide) (fun c_5 => ?_) (fun c_5 => ?_)
              · skip
                have c_5 := (lgl_gt _ _).mp c_5
                refine lv_iconst (pc := 99) (v := 0) hx hb dX8_lives_99 (by decide) ?_
                refine lv_ior (pc := 100) hx hb dX8_lives_100 ?_
                refine lv_istore (pc := 101) (lv' := [(4, .int ((orN (fun n => if lvB sv w sh mm n = true then 1 <<< (nI n &&& 31) else 0) i) ||| 0)), (6, .long ((Int32.toInt64 (shO sv i w)) - (Int32.toInt64 sh))), (5, .int (nI i)), (0, .ref (a 0)), (1, .int w), (2, .int sh), (3, .int mm)]) hx hb dX8_lives_101 hl (by decide) rfl (fun ls hl => ?_)
                refine lv_iinc (pc := 103) (v := nI (i + 1)) (lv' := [(5, .int (nI (i + 1))), (4, .int ((orN (fun n => if lvB sv w sh mm n = true then 1 <<< (nI n &&& 31) else 0) i) ||| 0)), (6, .long ((Int32.toInt64 (shO sv i w)) - (Int32.toInt64 sh))), (0, .ref (a 0)), (1, .int w), (2, .int sh), (3, .int mm)]) hx hb dX8_lives_103 hl (k := 2) rfl (nI_1 _) (by decide) rfl (fun ls hl => ?_)
                refine lv_goto (pc := 106) (tgt := 32) hx hb dX8_lives_106 (by decide) ?_
                exact ih_32 (i + 1) (nI (i + 1)) ((orN (fun n => if lvB sv w sh mm n = true then 1 <<< (nI n &&& 31) else 0) i) ||| 0) (by omega) (by omega) (by first | rfl | (simp [livesP, lvB, orN, c_1, c_2, c_4, c_5, i_nlt.mpr c_4, Int64.not_le.mpr c_5]; done)) (by first | rfl | (simp [livesP, lvB, orN, c_1, c_2, c_4, c_5, i_nlt.mpr c_4, Int64.not_le.mpr c_5]; done)) ls (lv_sub hl [0, 1, 3, 4, 5, 6] rfl)
              · skip
                have c_5 := (not_congr (lgl_gt _ _)).mp c_5
                refine lv_lload (pc := 83) hx hb dX8_lives_83 (lv_at hl 0 rfl) ?_
                refine lv_iload_n (pc := 85) hx hb dX8_lives_85 rfl (lv_at hl 6 rfl) ?_
                refine lv_ineg (pc := 86) hx hb dX8_lives_86 ?_
                refine lv_i2l (pc := 87) (v := Int32.toInt64 (-mm)) hx hb dX8_lives_87 rfl ?_
                refine W.lcmp (pc := 88) hx hb dX8_lives_88 ?_
                refine lv_if_lt (pc := 89) (tgt := 99) hx hb dX8_lives_89 (by decide) (fun c_6 => ?_) (fun c_6 => ?_)
                · skip
                  have c_6 := (lgl_lt _ _).mp c_6
                  refine lv_iconst (pc := 99) (v := 0) hx hb dX8_lives_99 (by decide) ?_
                  refine lv_ior (pc := 100) hx hb dX8_lives_100 ?_
                  refine lv_istore (pc := 101) (lv' := [(4, .int ((orN (fun n => if lvB sv w sh mm n = true then 1 <<< (nI n &&& 31) else 0) i) ||| 0)), (6, .long ((Int32.toInt64 (shO sv i w)) - (Int32.toInt64 sh))), (5, .int (nI i)), (0, .ref (a 0)), (1, .int w), (2, .int sh), (3, .int mm)]) hx hb dX8_lives_101 hl (by decide) rfl (fun ls hl => ?_)
                  refine lv_iinc (pc := 103) (v := nI (i + 1)) (lv' := [(5, .int (nI (i + 1))), (4, .int ((orN (fun n => if lvB sv w sh mm n = true then 1 <<< (nI n &&& 31) else 0) i) ||| 0)), (6, .long ((Int32.toInt64 (shO sv i w)) - (Int32.toInt64 sh))), (0, .ref (a 0)), (1, .int w), (2, .int sh), (3, .int mm)]) hx hb dX8_lives_103 hl (k := 2) rfl (nI_1 _) (by decide) rfl (fun ls hl => ?_)
                  refine lv_goto (pc := 106) (tgt := 32) hx hb dX8_lives_106 (by decide) ?_
                  exact ih_32 (i + 1) (nI (i + 1)) ((orN (fun n => if lvB sv w sh mm n = true then 1 <<< (nI n &&& 31) else 0) i) ||| 0) (by omega) (by omega) (by first | rfl | (simp [livesP, lvB, orN, c_1, c_2, c_4, c_5, c_6, i_nlt.mpr c_4, Int64.not_lt.mp c_5, Int64.not_le.mpr c_6]; done)) (by first | rfl | (simp [livesP, lvB, orN, c_1, c_2, c_4, c_5, c_6, i_nlt.mpr c_4, Int64.not_lt.mp c_5, Int64.not_le.mpr c_6]; done)) ls (lv_sub hl [0, 1, 3, 4, 5, 6] rfl)
                · skip
                  have c_6 := (not_congr (lgl_lt _ _)).mp c_6
                  refine lv_iconst (pc := 92) (v := 1) hx hb dX8_lives_92 (by decide) ?_
                  refine lv_iload (pc := 93) hx hb dX8_lives_93 (lv_at hl 1 rfl) ?_
                  refine lv_ishl (pc := 95) hx hb dX8_lives_95 ?_
                  refine lv_goto (pc := 96) (tgt := 100) hx hb dX8_lives_96 (by decide) ?_
                  refine lv_ior (pc := 100) hx hb dX8_lives_100 ?_
                  refine lv_istore (pc := 101) (lv' := [(4, .int ((orN (fun n => if lvB sv w sh mm n = true then 1 <<< (nI n &&& 31) else 0) i) ||| (1 <<< ((nI i) &&& 31)))), (6, .long ((Int32.toInt64 (shO sv i w)) - (Int32.toInt64 sh))), (5, .int (nI i)), (0, .ref (a 0)), (1, .int w), (2, .int sh), (3, .int mm)]) hx hb dX8_lives_101 hl (by decide) rfl (fun ls hl => ?_)
                  refine lv_iinc (pc := 103) (v := nI (i + 1)) (lv' := [(5, .int (nI (i + 1))), (4, .int ((orN (fun n => if lvB sv w sh mm n = true then 1 <<< (nI n &&& 31) else 0) i) ||| (1 <<< ((nI i) &&& 31)))), (6, .long ((Int32.toInt64 (shO sv i w)) - (Int32.toInt64 sh))), (0, .ref (a 0)), (1, .int w), (2, .int sh), (3, .int mm)]) hx hb dX8_lives_103 hl (k := 2) rfl (nI_1 _) (by decide) rfl (fun ls hl => ?_)
                  refine lv_goto (pc := 106) (tgt := 32) hx hb dX8_lives_106 (by decide) ?_
                  exact ih_32 (i + 1) (nI (i + 1)) ((orN (fun n => if lvB sv w sh mm n = true then 1 <<< (nI n &&& 31) else 0) i) ||| (1 <<< ((nI i) &&& 31))) (by omega) (by omega) (by first | rfl | (simp [livesP, lvB, orN, c_1, c_2, c_4, c_5, c_6, i_nlt.mpr c_4, Int64.not_lt.mp c_5, Int64.not_lt.mp c_6]; done)) (by first | rfl | (simp [livesP, lvB, orN, c_1, c_2, c_4, c_5, c_6, i_nlt.mpr c_4, Int64.not_lt.mp c_5, Int64.not_lt.mp c_6]; done)) ls (lv_sub hl [0, 1, 3, 4, 5, 6] rfl)
            · skip
              refine lv_goto (pc := 57) (tgt := 103) hx hb dX8_lives_57 (by decide) ?_
              refine lv_iinc (pc := 103) (v := nI (i + 1)) (lv' := [(5, .int (nI (i + 1))), (4, .int (orN (fun n => if lvB sv w sh mm n = true then 1 <<< (nI n &&& 31) else 0) i)), (0, .ref (a 0)), (1, .int w), (2, .int sh), (3, .int mm)]) hx hb dX8_lives_103 hl (k := 0) rfl (nI_1 _) (by decide) rfl (fun ls hl => ?_)
              refine lv_goto (pc := 106) (tgt := 32) hx hb dX8_lives_106 (by decide) ?_
              exact ih_32 (i + 1) (nI (i + 1)) (orN (fun n => if lvB sv w sh mm n = true then 1 <<< (nI n &&& 31) else 0) i) (by omega) (by omega) (by first | rfl | (simp [livesP, lvB, orN, c_1, c_2, c_4, i_nle.mp c_4]; done)) (by first | rfl | (simp [livesP, lvB, orN, c_1, c_2, c_4, i_nle.mp c_4]; done)) ls (lv_sub hl [0, 1, 2, 3, 4, 5] rfl)
      exact loop_32 ((nP sv - 0) + 1) 0 0 0 (Nat.lt_succ_self _) (by omega) (by first | rfl | (simp [livesP, lvB, orN, c_1, c_2]; done)) (by first | rfl | (simp [livesP, lvB, orN, c_1, c_2]; done)) ls (lv_sub hl [0, 1, 2, 3, 4, 5] rfl)
    · skip
      refine lv_iconst (pc := 24) (v := (-1)) hx hb dX8_lives_24 (by decide) ?_
      exact z_iret cx hr hlk dX8_lives_25 (by first | rfl | (simp [livesP, lvB, orN, c_1, c_2]; done))
theorem k_X8_lives {p : Program} {l : Launch} {e : Env} {R : Room} {s : State} {m : MethodId} {args : Array Value} {below : List Frame} {meth : Method} {c : Code} {H : Heap} {locs : List Loc} {cells slots : Nat} {Q : State → Prop} {cc : ByteArray} {pc index : Nat} {ls : Array Slot} {rest st0 : List Value} {E : zE} {own : String} {nL : Nat} {a : Nat → Nat} {sv im rd wa kp so sz el pr ts nu bu ht : Nat → Int32} {th po ba en td : Int32} {ig : Bool} {ij : Bool} {w sh mm : Int32} (cx : Cx E p s args m c own cc nL) (hW : WW E (wM a (E.2.1 0) sv im rd wa kp so sz el pr ts nu bu ht (bI ig) th po ba en td (bI ij)) gN H) (hI : Inv sv) (zl : Cond.methodLink own index yX8_lives ∈ AllW) (zR : 4 + 1 ≤ R.frames ∧ 8 + (8 + 11) + 88 ≤ R.locals) (zs : ls.size = nL) (zt : st0 = ([.int w, .int sh, .int mm] : List Value).reverse ++ .ref (a 0) :: rest) (z8 : (rest.map fun v => v.category).sum ≤ 8) (zd : decode cc pc = .ok (.invokevirtual index, 3)) (zf : cells ≤ R.cells ∧ slots ≤ R.slots) (kk : W p l e R s m args below meth c H locs cells slots Q (F0 m (pc + 3) ls (.int (livesP sv w sh mm) :: rest))) : W p l e R s m args below meth c H locs cells slots Q (F0 m pc ls st0) :=
  z_callV cx vm_X8_lives (c_X8_lives l E a sv im rd wa kp so sz el pr ts nu bu ht th po ba en td ig ij w sh mm hI) (z_rec cx.2 (hW.at 0 rfl) rfl) hW zl ⟨rfl, rfl⟩ zR rfl zs zt z8 zd zf kk
theorem vm_X8_seamOrCrack : zVm yX8_seamOrCrack cX8_seamOrCrack 5 (some FieldType.int) 3 := ⟨m_co_X8_seamOrCrack, m_in_RX8, ⟨m_im_X8_seamOrCrack, m_se_X8_X8_seamOrCrack⟩, by decide +kernel, by decide +kernel, by decide +kernel⟩
set_option maxHeartbeats 4000000 in
set_option maxRecDepth 100000 in
theorem c_X8_seamOrCrack (l : Launch) (E : zE) (a : Nat → Nat) (sv im rd wa kp so sz el pr ts nu bu ht : Nat → Int32) (th po ba en td : Int32) (ig : Bool) (ij : Bool) (x y f : Int32) (hI : Inv sv) : Met l yX8_seamOrCrack (.code yX8_seamOrCrack cX8_seamOrCrack 5 (some FieldType.int) :: AllW) (rm0' 18 523) (zP E (fun H => WW E (wM a (E.2.1 0) sv im rd wa kp so sz el pr ts nu bu ht (bI ig) th po ba en td (bI ij)) gN H) [.ref (a 0), .int x, .int y, .int f]) (rQ (.int (seamP sv x y f))) 0 0 nF := by
  refine z_body (own := RX8) (by decide) rfl rfl ?_
  intro p e s m args below meth c ls cx hr hlk hnm hW hl
  have hx := cx.x
  have hb := cx.b
  have hl : lv_has ls 5 [(0, .ref (a 0)), (1, .int x), (2, .int y), (3, .int f)] := hl
  have hC := hI.1
  have hP10 := (Inv.n0 hC).2
  have hT7 := (Inv.n1 hC).2
  have hA24 := (Inv.n2 hC).2
  refine lv_aload_n (pc := 0) hx hb dX8_seamOrCrack_0 rfl (lv_at hl 0 rfl) ?_
  refine lv_iload_n (pc := 1) hx hb dX8_seamOrCrack_1 rfl (lv_at hl 1 rfl) ?_
  refine k_X8_isThing (pc := 2) (x := x) cx hW  m_ml_X8_143 ⟨Nat.le_of_ble_eq_true rfl, Nat.le_of_ble_eq_true rfl⟩ hl.1 rfl (by simp [Value.category]) dX8_seamOrCrack_2 ⟨Nat.le_refl _, Nat.le_refl _⟩ ?_
  refine z_ifeq (pc := 5) (tgt := 43) hx hb dX8_seamOrCrack_5 (by decide) (fun c_1 => ?_) (fun c_1 => ?_)
  · skip
    refine lv_iconst (pc := 43) (v := (-1)) hx hb dX8_seamOrCrack_43 (by decide) ?_
    exact z_iret cx hr hlk dX8_seamOrCrack_44 (by first | rfl | (simp [seamP, c_1]; done))
  · skip
    obtain ⟨n, hn, rfl⟩ := th_nat hC c_1
    have hN := iN_nI (n := n) (by omega)
    refine lv_aload_n (pc := 8) hx hb dX8_seamOrCrack_8 rfl (lv_at hl 0 rfl) ?_
    refine lv_iload_n (pc := 9) hx hb dX8_seamOrCrack_9 rfl (lv_at hl 2 rfl) ?_
    refine k_X8_isThing (pc := 10) (x := y) cx hW  m_ml_X8_143 ⟨Nat.le_of_ble_eq_true rfl, Nat.le_of_ble_eq_true rfl⟩ hl.1 rfl (by simp [Value.category]) dX8_seamOrCrack_10 ⟨Nat.le_refl _, Nat.le_refl _⟩ ?_
    refine z_ifeq (pc := 13) (tgt := 43) hx hb dX8_seamOrCrack_13 (by decide) (fun c_2 => ?_) (fun c_2 => ?_)
    · skip
      refine lv_iconst (pc := 43) (v := (-1)) hx hb dX8_seamOrCrack_43 (by decide) ?_
      exact z_iret cx hr hlk dX8_seamOrCrack_44 (by first | rfl | (simp [seamP, c_1, hN, c_2]; done))
    · skip
      obtain ⟨n2, hn2, rfl⟩ := th_nat hC c_2
      have hN2 := iN_nI (n := n2) (by omega)
      refine lv_iload_n (pc := 16) hx hb dX8_seamOrCrack_16 rfl (lv_at hl 1 rfl) ?_
      refine lv_iload_n (pc := 17) hx hb dX8_seamOrCrack_17 rfl (lv_at hl 2 rfl) ?_
      refine lv_icmp_eq (pc := 18) (tgt := 43) hx hb dX8_seamOrCrack_18 (by decide) (fun c_3 => ?_) (fun c_3 => ?_)
      · skip
        refine lv_iconst (pc := 43) (v := (-1)) hx hb dX8_seamOrCrack_43 (by decide) ?_
        exact z_iret cx hr hlk dX8_seamOrCrack_44 (by first | rfl | (simp [seamP, c_1, hN, c_2, hN2, c_3]; done))
      · skip
        refine lv_aload_n (pc := 21) hx hb dX8_seamOrCrack_21 rfl (lv_at hl 0 rfl) ?_
        refine lv_iload_n (pc := 22) hx hb dX8_seamOrCrack_22 rfl (lv_at hl 1 rfl) ?_
        refine lv_iconst (pc := 23) (v := 1) hx hb dX8_seamOrCrack_23 (by decide) ?_
        refine k_X8_of (pc := 24) (n := n) (k := 1) cx hW (by first | assumption | omega) (by first | assumption | omega) m_ml_X8_140 ⟨Nat.le_of_ble_eq_true rfl, Nat.le_of_ble_eq_true rfl⟩ hl.1 rfl (by simp [Value.category]) dX8_seamOrCrack_24 ⟨Nat.le_refl _, Nat.le_refl _⟩ ?_
        refine lv_aload_n (pc := 27) hx hb dX8_seamOrCrack_27 rfl (lv_at hl 0 rfl) ?_
        refine lv_iload_n (pc := 28) hx hb dX8_seamOrCrack_28 rfl (lv_at hl 2 rfl) ?_
        refine lv_iconst (pc := 29) (v := 1) hx hb dX8_seamOrCrack_29 (by decide) ?_
        refine k_X8_of (pc := 30) (n := n2) (k := 1) cx hW (by first | assumption | omega) (by first | assumption | omega) m_ml_X8_140 ⟨Nat.le_of_ble_eq_true rfl, Nat.le_of_ble_eq_true rfl⟩ hl.1 rfl (by simp [Value.category]) dX8_seamOrCrack_30 ⟨Nat.le_refl _, Nat.le_refl _⟩ ?_
        refine lv_icmp_ne (pc := 33) (tgt := 43) hx hb dX8_seamOrCrack_33 (by decide) (fun c_4 => ?_) (fun c_4 => ?_)
        · skip
          refine lv_iconst (pc := 43) (v := (-1)) hx hb dX8_seamOrCrack_43 (by decide) ?_
          exact z_iret cx hr hlk dX8_seamOrCrack_44 (by first | rfl | (simp [seamP, c_1, hN, c_2, hN2, c_3, c_4]; done))
        · skip
          refine lv_iload_n (pc := 36) hx hb dX8_seamOrCrack_36 rfl (lv_at hl 3 rfl) ?_
          refine k_X8_isTone (pc := 37) (x := f) cx  m_ml_X8_177 ⟨Nat.le_of_ble_eq_true rfl, Nat.le_of_ble_eq_true rfl⟩ hl.1 rfl (by simp [Value.category]) dX8_seamOrCrack_37 ⟨Nat.le_refl _, Nat.le_refl _⟩ ?_
          refine z_ifne (pc := 40) (tgt := 45) hx hb dX8_seamOrCrack_40 (by decide) (fun c_5 => ?_) (fun c_5 => ?_)
          · skip
            have hf := tone_rg c_5
            refine lv_iconst (pc := 45) (v := 1) hx hb dX8_seamOrCrack_45 (by decide) ?_
            refine lv_istore (pc := 46) (lv' := [(4, .int 1), (0, .ref (a 0)), (1, .int (nI n)), (2, .int (nI n2)), (3, .int f)]) hx hb dX8_seamOrCrack_46 hl (by decide) rfl (fun ls hl => ?_)
            have loop_48 : ∀ (k_48 : Nat) (i : Nat) (x4 : Int32), (100 - i) < k_48 → (1 ≤ i ∧ i ≤ 100) → (fstN (fun k => bzA sv n f (nI k) != bzA sv n2 f (nI k)) 99 1 = fstN (fun k => bzA sv n f (nI k) != bzA sv n2 f (nI k)) (100 - i) i) → x4 = nI i → ∀ (ls : Array Slot), lv_has ls 5 [(4, .int x4), (0, .ref (a 0)), (1, .int (nI n)), (2, .int (nI n2)), (3, .int f)] → W p l e (rm0' (18) (523)) s m args below meth c s.heap [] 0 0 (MQ below (rQ (.int (seamP sv (nI n) (nI n2) f))) args s 0 0 nF) (F0 m 48 ls []) := by
              intro k_48
              induction k_48 with
              | zero =>
                intro i x4 hm
                exact absurd hm (Nat.not_lt_zero _)
              | succ k_48 ih_48 =>
                intro i x4 hm_48 hi he e_x4  ls hl
                subst e_x4
                refine lv_iload (pc := 48) hx hb dX8_seamOrCrack_48 (lv_at hl 0 rfl) ?_
                refine lv_bipush (pc := 50) (v := 99) hx hb dX8_seamOrCrack_50 (by decide) ?_
                refine lv_icmp_gt (pc := 52) (tgt := 83) hx hb dX8_seamOrCrack_52 (by decide) (fun c_6 => ?_) (fun c_6 => ?_)
                · skip
                  have hgt := gtn (a := 99) (b := i) rfl rfl (by omega) (by omega) c_6
                  refine lv_bipush (pc := 83) (v := (-4)) hx hb dX8_seamOrCrack_83 (by decide) ?_
                  exact z_iret cx hr hlk dX8_seamOrCrack_85 (by simp only [seamP, c_1, hN, c_2, hN2, c_3, c_4, c_5, not_false_eq_true, and_self, if_true, he]; rw [show 100 - i = 0 by omega]; rfl)
                · skip
                  have hle := ngt (a := 99) (b := i) rfl rfl (by omega) (by omega) c_6
                  refine lv_aload_n (pc := 55) hx hb dX8_seamOrCrack_55 rfl (lv_at hl 1 rfl) ?_
                  refine lv_iload_n (pc := 56) hx hb dX8_seamOrCrack_56 rfl (lv_at hl 2 rfl) ?_
                  refine lv_iload_n (pc := 57) hx hb dX8_seamOrCrack_57 rfl (lv_at hl 4 rfl) ?_
                  refine lv_iload (pc := 58) hx hb dX8_seamOrCrack_58 (lv_at hl 0 rfl) ?_
                  refine k_X8_buzzesAt (pc := 60) (n := n) (f := f) (st := nI i) cx hW (by first | assumption | omega) (by first | assumption | omega) (by first | assumption | omega) m_ml_X8_197 ⟨Nat.le_of_ble_eq_true rfl, Nat.le_of_ble_eq_true rfl⟩ hl.1 rfl (by simp [Value.category]) dX8_seamOrCrack_60 ⟨Nat.le_refl _, Nat.le_refl _⟩ ?_
                  refine lv_aload_n (pc := 63) hx hb dX8_seamOrCrack_63 rfl (lv_at hl 1 rfl) ?_
                  refine lv_iload_n (pc := 64) hx hb dX8_seamOrCrack_64 rfl (lv_at hl 3 rfl) ?_
                  refine lv_iload_n (pc := 65) hx hb dX8_seamOrCrack_65 rfl (lv_at hl 4 rfl) ?_
                  refine lv_iload (pc := 66) hx hb dX8_seamOrCrack_66 (lv_at hl 0 rfl) ?_
                  refine k_X8_buzzesAt (pc := 68) (n := n2) (f := f) (st := nI i) cx hW (by first | assumption | omega) (by first | assumption | omega) (by first | assumption | omega) m_ml_X8_197 ⟨Nat.le_of_ble_eq_true rfl, Nat.le_of_ble_eq_true rfl⟩ hl.1 rfl (by simp [Value.category]) dX8_seamOrCrack_68 ⟨Nat.le_refl _, Nat.le_refl _⟩ ?_
                  refine lv_icmp_eq (pc := 71) (tgt := 77) hx hb dX8_seamOrCrack_71 (by decide) (fun c_7 => ?_) (fun c_7 => ?_)
                  · skip
                    refine lv_iinc (pc := 77) (v := nI (i + 1)) (lv' := [(4, .int (nI (i + 1))), (0, .ref (a 0)), (1, .int (nI n)), (2, .int (nI n2)), (3, .int f)]) hx hb dX8_seamOrCrack_77 hl (k := 0) rfl (nI_1 _) (by decide) rfl (fun ls hl => ?_)
                    refine lv_goto (pc := 80) (tgt := 48) hx hb dX8_seamOrCrack_80 (by decide) ?_
                    exact ih_48 (i + 1) (nI (i + 1)) (by omega) (by omega) (by rw [he, fstN_miss (by have := bI_eq.mp c_7; simp [this]) (by omega)]; rfl) (by first | rfl | (simp [seamP, c_1, hN, c_2, hN2, c_3, c_4, c_5, c_7]; done)) ls (lv_sub hl [0, 1, 2, 3, 4] rfl)
                  · skip
                    refine lv_iload (pc := 74) hx hb dX8_seamOrCrack_74 (lv_at hl 0 rfl) ?_
                    exact z_iret cx hr hlk dX8_seamOrCrack_76 (by simp only [seamP, c_1, hN, c_2, hN2, c_3, c_4, c_5, c_7, not_false_eq_true, and_self, if_true, he]; rw [fstN_hit (by have := (not_congr bI_eq).mp c_7; simpa using this) (by omega)]; rfl)
            exact loop_48 ((100 - 1) + 1) 1 1 (Nat.lt_succ_self _) (by omega) rfl (by first | rfl | (simp [seamP, c_1, hN, c_2, hN2, c_3, c_4, c_5]; done)) ls (lv_sub hl [0, 1, 2, 3, 4] rfl)
          · skip
            refine lv_iconst (pc := 43) (v := (-1)) hx hb dX8_seamOrCrack_43 (by decide) ?_
            exact z_iret cx hr hlk dX8_seamOrCrack_44 (by first | rfl | (simp [seamP, c_1, hN, c_2, hN2, c_3, c_4, c_5]; done))
theorem k_X8_seamOrCrack {p : Program} {l : Launch} {e : Env} {R : Room} {s : State} {m : MethodId} {args : Array Value} {below : List Frame} {meth : Method} {c : Code} {H : Heap} {locs : List Loc} {cells slots : Nat} {Q : State → Prop} {cc : ByteArray} {pc index : Nat} {ls : Array Slot} {rest st0 : List Value} {E : zE} {own : String} {nL : Nat} {a : Nat → Nat} {sv im rd wa kp so sz el pr ts nu bu ht : Nat → Int32} {th po ba en td : Int32} {ig : Bool} {ij : Bool} {x y f : Int32} (cx : Cx E p s args m c own cc nL) (hW : WW E (wM a (E.2.1 0) sv im rd wa kp so sz el pr ts nu bu ht (bI ig) th po ba en td (bI ij)) gN H) (hI : Inv sv) (zl : Cond.methodLink own index yX8_seamOrCrack ∈ AllW) (zR : 18 + 1 ≤ R.frames ∧ 8 + (5 + 11) + 523 ≤ R.locals) (zs : ls.size = nL) (zt : st0 = ([.int x, .int y, .int f] : List Value).reverse ++ .ref (a 0) :: rest) (z8 : (rest.map fun v => v.category).sum ≤ 8) (zd : decode cc pc = .ok (.invokevirtual index, 3)) (zf : cells ≤ R.cells ∧ slots ≤ R.slots) (kk : W p l e R s m args below meth c H locs cells slots Q (F0 m (pc + 3) ls (.int (seamP sv x y f) :: rest))) : W p l e R s m args below meth c H locs cells slots Q (F0 m pc ls st0) :=
  z_callV cx vm_X8_seamOrCrack (c_X8_seamOrCrack l E a sv im rd wa kp so sz el pr ts nu bu ht th po ba en td ig ij x y f hI) (z_rec cx.2 (hW.at 0 rfl) rfl) hW zl ⟨rfl, rfl⟩ zR rfl zs zt z8 zd zf kk
theorem vm_X8_isWolf : zVm yX8_isWolf cX8_isWolf 3 (some FieldType.boolean) 2 := ⟨m_co_X8_isWolf, m_in_RX8, ⟨m_im_X8_isWolf, m_se_X8_X8_isWolf⟩, by decide +kernel, by decide +kernel, by decide +kernel⟩
set_option maxHeartbeats 4000000 in
set_option maxRecDepth 100000 in
theorem c_X8_isWolf (l : Launch) (E : zE) (a : Nat → Nat) (sv im rd wa kp so sz el pr ts nu bu ht : Nat → Int32) (th po ba en td : Int32) (ig : Bool) (ij : Bool) (n b : Nat) (hI : Inv sv) (hn : n < nP sv) (hb2 : b < nP sv) : Met l yX8_isWolf (.code yX8_isWolf cX8_isWolf 3 (some FieldType.boolean) :: AllW) (rm0' 3 66) (zP E (fun H => WW E (wM a (E.2.1 0) sv im rd wa kp so sz el pr ts nu bu ht (bI ig) th po ba en td (bI ij)) gN H) [.ref (a 0), .int (nI n), .int (nI b)]) (rQ (.int (bI (wfB sv n b)))) 0 0 nF := by
  refine z_body (own := RX8) (by decide) rfl rfl ?_
  intro p e s m args below meth c ls cx hr hlk hnm hW hl
  have hx := cx.x
  have hb := cx.b
  have hl : lv_has ls 3 [(0, .ref (a 0)), (1, .int (nI n)), (2, .int (nI b))] := hl
  have hC := hI.1
  have hP10 := (Inv.n0 hC).2
  have hT7 := (Inv.n1 hC).2
  have hA24 := (Inv.n2 hC).2
  refine lv_aload_n (pc := 0) hx hb dX8_isWolf_0 rfl (lv_at hl 0 rfl) ?_
  refine lv_iload_n (pc := 1) hx hb dX8_isWolf_1 rfl (lv_at hl 2 rfl) ?_
  refine lv_iconst (pc := 2) (v := 3) hx hb dX8_isWolf_2 (by decide) ?_
  refine k_X8_get (pc := 3) (n := b) (k := 3) cx hW (by first | assumption | omega) (by first | assumption | omega) m_ml_X8_124 ⟨Nat.le_of_ble_eq_true rfl, Nat.le_of_ble_eq_true rfl⟩ hl.1 rfl (by simp [Value.category]) dX8_isWolf_3 ⟨Nat.le_refl _, Nat.le_refl _⟩ ?_
  refine lv_iload_n (pc := 6) hx hb dX8_isWolf_6 rfl (lv_at hl 1 rfl) ?_
  refine lv_icmp_ne (pc := 7) (tgt := 33) hx hb dX8_isWolf_7 (by decide) (fun c_1 => ?_) (fun c_1 => ?_)
  · skip
    refine lv_iconst (pc := 33) (v := 0) hx hb dX8_isWolf_33 (by decide) ?_
    exact z_zret cx hr hlk dX8_isWolf_34 (by first | rfl | (simp [wfB, bI, c_1]; done))
  · skip
    refine lv_aload_n (pc := 10) hx hb dX8_isWolf_10 rfl (lv_at hl 0 rfl) ?_
    refine lv_iload_n (pc := 11) hx hb dX8_isWolf_11 rfl (lv_at hl 1 rfl) ?_
    refine k_X8_toneNow (pc := 12) (n := n) cx hW (by first | assumption | omega) (by first | assumption | omega) m_ml_X8_133 ⟨Nat.le_of_ble_eq_true rfl, Nat.le_of_ble_eq_true rfl⟩ hl.1 rfl (by simp [Value.category]) dX8_isWolf_12 ⟨Nat.le_refl _, Nat.le_refl _⟩ ?_
    refine lv_aload_n (pc := 15) hx hb dX8_isWolf_15 rfl (lv_at hl 0 rfl) ?_
    refine lv_iload_n (pc := 16) hx hb dX8_isWolf_16 rfl (lv_at hl 2 rfl) ?_
    refine k_X8_toneNow (pc := 17) (n := b) cx hW (by first | assumption | omega) (by first | assumption | omega) m_ml_X8_133 ⟨Nat.le_of_ble_eq_true rfl, Nat.le_of_ble_eq_true rfl⟩ hl.1 rfl (by simp [Value.category]) dX8_isWolf_17 ⟨Nat.le_refl _, Nat.le_refl _⟩ ?_
    refine lv_isub (pc := 20) hx hb dX8_isWolf_20 ?_
    refine k_X8_amount (pc := 21) (x := (tnN sv n) - (tnN sv b)) cx  m_ml_X8_167 ⟨Nat.le_of_ble_eq_true rfl, Nat.le_of_ble_eq_true rfl⟩ hl.1 rfl (by simp [Value.category]) dX8_isWolf_21 ⟨Nat.le_refl _, Nat.le_refl _⟩ ?_
    refine lv_bipush (pc := 24) (v := 6) hx hb dX8_isWolf_24 (by decide) ?_
    refine lv_icmp_ge (pc := 26) (tgt := 33) hx hb dX8_isWolf_26 (by decide) (fun c_2 => ?_) (fun c_2 => ?_)
    · skip
      refine lv_iconst (pc := 33) (v := 0) hx hb dX8_isWolf_33 (by decide) ?_
      exact z_zret cx hr hlk dX8_isWolf_34 (by first | rfl | (simp [wfB, bI, c_1, c_2, i_nlt.mpr c_2]; done))
    · skip
      refine lv_iconst (pc := 29) (v := 1) hx hb dX8_isWolf_29 (by decide) ?_
      refine lv_goto (pc := 30) (tgt := 34) hx hb dX8_isWolf_30 (by decide) ?_
      exact z_zret cx hr hlk dX8_isWolf_34 (by first | rfl | (simp [wfB, bI, c_1, c_2, i_nle.mp c_2]; done))
theorem k_X8_isWolf {p : Program} {l : Launch} {e : Env} {R : Room} {s : State} {m : MethodId} {args : Array Value} {below : List Frame} {meth : Method} {c : Code} {H : Heap} {locs : List Loc} {cells slots : Nat} {Q : State → Prop} {cc : ByteArray} {pc index : Nat} {ls : Array Slot} {rest st0 : List Value} {E : zE} {own : String} {nL : Nat} {a : Nat → Nat} {sv im rd wa kp so sz el pr ts nu bu ht : Nat → Int32} {th po ba en td : Int32} {ig : Bool} {ij : Bool} {n b : Nat} (cx : Cx E p s args m c own cc nL) (hW : WW E (wM a (E.2.1 0) sv im rd wa kp so sz el pr ts nu bu ht (bI ig) th po ba en td (bI ij)) gN H) (hI : Inv sv) (hn : n < nP sv) (hb2 : b < nP sv) (zl : Cond.methodLink own index yX8_isWolf ∈ AllW) (zR : 3 + 1 ≤ R.frames ∧ 8 + (3 + 11) + 66 ≤ R.locals) (zs : ls.size = nL) (zt : st0 = ([.int (nI n), .int (nI b)] : List Value).reverse ++ .ref (a 0) :: rest) (z8 : (rest.map fun v => v.category).sum ≤ 8) (zd : decode cc pc = .ok (.invokevirtual index, 3)) (zf : cells ≤ R.cells ∧ slots ≤ R.slots) (kk : W p l e R s m args below meth c H locs cells slots Q (F0 m (pc + 3) ls (.int (bI (wfB sv n b)) :: rest))) : W p l e R s m args below meth c H locs cells slots Q (F0 m pc ls st0) :=
  z_callV cx vm_X8_isWolf (c_X8_isWolf l E a sv im rd wa kp so sz el pr ts nu bu ht th po ba en td ig ij n b hI hn hb2) (z_rec cx.2 (hW.at 0 rfl) rfl) hW zl ⟨rfl, rfl⟩ zR rfl zs zt z8 zd zf kk
theorem vm_X8_leastOf : zVm yX8_leastOf cX8_leastOf 2 (some FieldType.int) 1 := ⟨m_co_X8_leastOf, m_in_RX8, ⟨m_im_X8_leastOf, m_se_X8_X8_leastOf⟩, by decide +kernel, by decide +kernel, by decide +kernel⟩
set_option maxHeartbeats 4000000 in
set_option maxRecDepth 100000 in
theorem c_X8_leastOf (l : Launch) (E : zE) (a : Nat → Nat) (sv im rd wa kp so sz el pr ts nu bu ht : Nat → Int32) (th po ba en td : Int32) (ig : Bool) (ij : Bool) (n : Nat) (hn : n < 8) : Met l yX8_leastOf (.code yX8_leastOf cX8_leastOf 2 (some FieldType.int) :: AllW) (rm0' 0 0) (zP E (fun H => WW E (wM a (E.2.1 0) sv im rd wa kp so sz el pr ts nu bu ht (bI ig) th po ba en td (bI ij)) gN H) [.ref (a 0), .int (nI n)]) (rQ (.int (loS so n))) 0 0 nF := by
  refine z_body (own := RX8) (by decide) rfl rfl ?_
  intro p e s m args below meth c ls cx hr hlk hnm hW hl
  have hx := cx.x
  have hb := cx.b
  have hl : lv_has ls 2 [(0, .ref (a 0)), (1, .int (nI n))] := hl
  refine lv_aload_n (pc := 0) hx hb dX8_leastOf_0 rfl (lv_at hl 0 rfl) ?_
  refine z_getM (pc := 1) cx (hW.at 0 rfl) 5 rfl m_fl_X8_25 rfl dX8_leastOf_1 ?_
  refine lv_iload_n (pc := 4) hx hb dX8_leastOf_4 rfl (lv_at hl 1 rfl) ?_
  refine z_iald (pc := 5) (f := so) (j := n) cx (hW.at 6 rfl) rfl (by omega) (by decide) dX8_leastOf_5 ?_
  refine lv_if_ne (pc := 6) (tgt := 14) hx hb dX8_leastOf_6 (by decide) (fun c_1 => ?_) (fun c_1 => ?_)
  · skip
    refine lv_aload_n (pc := 14) hx hb dX8_leastOf_14 rfl (lv_at hl 0 rfl) ?_
    refine z_getM (pc := 15) cx (hW.at 0 rfl) 5 rfl m_fl_X8_25 rfl dX8_leastOf_15 ?_
    refine lv_iload_n (pc := 18) hx hb dX8_leastOf_18 rfl (lv_at hl 1 rfl) ?_
    refine z_iald (pc := 19) (f := so) (j := n) cx (hW.at 6 rfl) rfl (by omega) (by decide) dX8_leastOf_19 ?_
    refine lv_iconst (pc := 20) (v := 1) hx hb dX8_leastOf_20 (by decide) ?_
    refine lv_icmp_ne (pc := 21) (tgt := 30) hx hb dX8_leastOf_21 (by decide) (fun c_2 => ?_) (fun c_2 => ?_)
    · skip
      refine lv_ldcw (pc := 30) (v := (-2147483648)) hx hb cx.own (cx.ts _ m_ko_X8_256) dX8_leastOf_30 ?_
      exact z_iret cx hr hlk dX8_leastOf_33 (by first | rfl | (simp [loS, c_1, c_2]; done))
    · skip
      refine lv_sipush (pc := 24) (v := (-32768)) hx hb dX8_leastOf_24 (by decide) ?_
      refine lv_goto (pc := 27) (tgt := 33) hx hb dX8_leastOf_27 (by decide) ?_
      exact z_iret cx hr hlk dX8_leastOf_33 (by first | rfl | (simp [loS, c_1, c_2]; done))
  · skip
    refine lv_bipush (pc := 9) (v := (-128)) hx hb dX8_leastOf_9 (by decide) ?_
    refine lv_goto (pc := 11) (tgt := 33) hx hb dX8_leastOf_11 (by decide) ?_
    exact z_iret cx hr hlk dX8_leastOf_33 (by first | rfl | (simp [loS, c_1]; done))
theorem k_X8_leastOf {p : Program} {l : Launch} {e : Env} {R : Room} {s : State} {m : MethodId} {args : Array Value} {below : List Frame} {meth : Method} {c : Code} {H : Heap} {locs : List Loc} {cells slots : Nat} {Q : State → Prop} {cc : ByteArray} {pc index : Nat} {ls : Array Slot} {rest st0 : List Value} {E : zE} {own : String} {nL : Nat} {a : Nat → Nat} {sv im rd wa kp so sz el pr ts nu bu ht : Nat → Int32} {th po ba en td : Int32} {ig : Bool} {ij : Bool} {n : Nat} (cx : Cx E p s args m c own cc nL) (hW : WW E (wM a (E.2.1 0) sv im rd wa kp so sz el pr ts nu bu ht (bI ig) th po ba en td (bI ij)) gN H) (hn : n < 8) (zl : Cond.methodLink own index yX8_leastOf ∈ AllW) (zR : 0 + 1 ≤ R.frames ∧ 8 + (2 + 11) + 0 ≤ R.locals) (zs : ls.size = nL) (zt : st0 = ([.int (nI n)] : List Value).reverse ++ .ref (a 0) :: rest) (z8 : (rest.map fun v => v.category).sum ≤ 8) (zd : decode cc pc = .ok (.invokevirtual index, 3)) (zf : cells ≤ R.cells ∧ slots ≤ R.slots) (kk : W p l e R s m args below meth c H locs cells slots Q (F0 m (pc + 3) ls (.int (loS so n) :: rest))) : W p l e R s m args below meth c H locs cells slots Q (F0 m pc ls st0) :=
  z_callV cx vm_X8_leastOf (c_X8_leastOf l E a sv im rd wa kp so sz el pr ts nu bu ht th po ba en td ig ij n hn) (z_rec cx.2 (hW.at 0 rfl) rfl) hW zl ⟨rfl, rfl⟩ zR rfl zs zt z8 zd zf kk
theorem vm_X8_isHeard : zVm yX8_isHeard cX8_isHeard 2 (some FieldType.boolean) 1 := ⟨m_co_X8_isHeard, m_in_RX8, ⟨m_im_X8_isHeard, m_se_X8_X8_isHeard⟩, by decide +kernel, by decide +kernel, by decide +kernel⟩
set_option maxHeartbeats 4000000 in
set_option maxRecDepth 100000 in
theorem c_X8_isHeard (l : Launch) (E : zE) (a : Nat → Nat) (sv im rd wa kp so sz el pr ts nu bu ht : Nat → Int32) (th po ba en td : Int32) (ig : Bool) (ij : Bool) (n : Nat) (hn : n < 24) : Met l yX8_isHeard (.code yX8_isHeard cX8_isHeard 2 (some FieldType.boolean) :: AllW) (rm0' 0 0) (zP E (fun H => WW E (wM a (E.2.1 0) sv im rd wa kp so sz el pr ts nu bu ht (bI ig) th po ba en td (bI ij)) gN H) [.ref (a 0), .int (nI n)]) (rQ (.int (bI (hdA sv n)))) 0 0 nF := by
  refine z_body (own := RX8) (by decide) rfl rfl ?_
  intro p e s m args below meth c ls cx hr hlk hnm hW hl
  have hx := cx.x
  have hb := cx.b
  have hl : lv_has ls 2 [(0, .ref (a 0)), (1, .int (nI n))] := hl
  refine lv_aload_n (pc := 0) hx hb dX8_isHeard_0 rfl (lv_at hl 0 rfl) ?_
  refine z_getM (pc := 1) cx (hW.at 0 rfl) 0 rfl m_fl_X8_9 rfl dX8_isHeard_1 ?_
  refine lv_bipush (pc := 4) (v := 103) hx hb dX8_isHeard_4 (by decide) ?_
  refine lv_bipush (pc := 6) (v := 18) hx hb dX8_isHeard_6 (by decide) ?_
  refine lv_iload_n (pc := 8) hx hb dX8_isHeard_8 rfl (lv_at hl 1 rfl) ?_
  refine lv_imul (pc := 9) hx hb dX8_isHeard_9 ?_
  refine lv_iadd (pc := 10) hx hb dX8_isHeard_10 ?_
  refine lv_iconst (pc := 11) (v := 2) hx hb dX8_isHeard_11 (by decide) ?_
  refine lv_iadd (pc := 12) hx hb dX8_isHeard_12 ?_
  refine z_iald (pc := 13) (f := sv) (j := 103 + 18 * n + 2) cx (hW.at 1 rfl) (ix18 n) (by omega) (by decide) dX8_isHeard_13 ?_
  refine lv_iconst (pc := 14) (v := 1) hx hb dX8_isHeard_14 (by decide) ?_
  refine lv_icmp_ne (pc := 15) (tgt := 22) hx hb dX8_isHeard_15 (by decide) (fun c_1 => ?_) (fun c_1 => ?_)
  · skip
    refine lv_iconst (pc := 22) (v := 0) hx hb dX8_isHeard_22 (by decide) ?_
    exact z_zret cx hr hlk dX8_isHeard_23 (by first | rfl | (simp [hdA, bI, c_1]; done))
  · skip
    refine lv_iconst (pc := 18) (v := 1) hx hb dX8_isHeard_18 (by decide) ?_
    refine lv_goto (pc := 19) (tgt := 23) hx hb dX8_isHeard_19 (by decide) ?_
    exact z_zret cx hr hlk dX8_isHeard_23 (by first | rfl | (simp [hdA, bI, c_1]; done))
theorem k_X8_isHeard {p : Program} {l : Launch} {e : Env} {R : Room} {s : State} {m : MethodId} {args : Array Value} {below : List Frame} {meth : Method} {c : Code} {H : Heap} {locs : List Loc} {cells slots : Nat} {Q : State → Prop} {cc : ByteArray} {pc index : Nat} {ls : Array Slot} {rest st0 : List Value} {E : zE} {own : String} {nL : Nat} {a : Nat → Nat} {sv im rd wa kp so sz el pr ts nu bu ht : Nat → Int32} {th po ba en td : Int32} {ig : Bool} {ij : Bool} {n : Nat} (cx : Cx E p s args m c own cc nL) (hW : WW E (wM a (E.2.1 0) sv im rd wa kp so sz el pr ts nu bu ht (bI ig) th po ba en td (bI ij)) gN H) (hn : n < 24) (zl : Cond.methodLink own index yX8_isHeard ∈ AllW) (zR : 0 + 1 ≤ R.frames ∧ 8 + (2 + 11) + 0 ≤ R.locals) (zs : ls.size = nL) (zt : st0 = ([.int (nI n)] : List Value).reverse ++ .ref (a 0) :: rest) (z8 : (rest.map fun v => v.category).sum ≤ 8) (zd : decode cc pc = .ok (.invokevirtual index, 3)) (zf : cells ≤ R.cells ∧ slots ≤ R.slots) (kk : W p l e R s m args below meth c H locs cells slots Q (F0 m (pc + 3) ls (.int (bI (hdA sv n)) :: rest))) : W p l e R s m args below meth c H locs cells slots Q (F0 m pc ls st0) :=
  z_callV cx vm_X8_isHeard (c_X8_isHeard l E a sv im rd wa kp so sz el pr ts nu bu ht th po ba en td ig ij n hn) (z_rec cx.2 (hW.at 0 rfl) rfl) hW zl ⟨rfl, rfl⟩ zR rfl zs zt z8 zd zf kk
theorem vm_X8_fitsSet : zVm yX8_fitsSet cX8_fitsSet 3 (some FieldType.boolean) 1 := ⟨m_co_X8_fitsSet, m_in_RX8, ⟨m_im_X8_fitsSet, m_se_X8_X8_fitsSet⟩, by decide +kernel, by decide +kernel, by decide +kernel⟩
set_option maxHeartbeats 4000000 in
set_option maxRecDepth 100000 in
theorem c_X8_fitsSet (l : Launch) (E : zE) (a : Nat → Nat) (sv im rd wa kp so sz el pr ts nu bu ht : Nat → Int32) (th po ba en td : Int32) (ig : Bool) (ij : Bool) (set : Int32) (hI : Inv sv) : Met l yX8_fitsSet (.code yX8_fitsSet cX8_fitsSet 3 (some FieldType.boolean) :: AllW) (rm0' 1 21) (zP E (fun H => WW E (wM a (E.2.1 0) sv im rd wa kp so sz el pr ts nu bu ht (bI ig) th po ba en td (bI ij)) gN H) [.ref (a 0), .int set]) (rQ (.int (bI (ftB sv bu set)))) 0 0 nF := by
  refine z_body (own := RX8) (by decide) rfl rfl ?_
  intro p e s m args below meth c ls cx hr hlk hnm hW hl
  have hx := cx.x
  have hb := cx.b
  have hl : lv_has ls 3 [(0, .ref (a 0)), (1, .int set)] := hl
  have hC := hI.1
  have hP10 := (Inv.n0 hC).2
  have hT7 := (Inv.n1 hC).2
  have hA24 := (Inv.n2 hC).2
  refine lv_iconst (pc := 0) (v := 0) hx hb dX8_fitsSet_0 (by decide) ?_
  refine lv_istore_n (pc := 1) (lv' := [(2, .int 0), (0, .ref (a 0)), (1, .int set)]) hx hb dX8_fitsSet_1 rfl hl (by decide) rfl (fun ls hl => ?_)
  have loop_2 : ∀ (k_2 : Nat) (i : Nat) (x2 : Int32), (nA sv - i) < k_2 → (i ≤ nA sv) → (allN (fun i => decide (¬ bu i &&& set = 0) == hdA sv i) (nA sv) 0 = allN (fun i => decide (¬ bu i &&& set = 0) == hdA sv i) (nA sv - i) i) → x2 = nI i → ∀ (ls : Array Slot), lv_has ls 3 [(2, .int x2), (0, .ref (a 0)), (1, .int set)] → W p l e (rm0' (1) (21)) s m args below meth c s.heap [] 0 0 (MQ below (rQ (.int (bI (ftB sv bu set)))) args s 0 0 nF) (F0 m 2 ls []) := by
    intro k_2
    induction k_2 with
    | zero =>
      intro i x2 hm
      exact absurd hm (Nat.not_lt_zero _)
    | succ k_2 ih_2 =>
      intro i x2 hm_2 hi he e_x2  ls hl
      subst e_x2
      refine lv_iload_n (pc := 2) hx hb dX8_fitsSet_2 rfl (lv_at hl 0 rfl) ?_
      refine lv_aload_n (pc := 3) hx hb dX8_fitsSet_3 rfl (lv_at hl 1 rfl) ?_
      refine z_getM (pc := 4) cx (hW.at 0 rfl) 0 rfl m_fl_X8_9 rfl dX8_fitsSet_4 ?_
      refine lv_iconst (pc := 7) (v := 2) hx hb dX8_fitsSet_7 (by decide) ?_
      refine z_iald (pc := 8) (f := sv) (j := 2) cx (hW.at 1 rfl) rfl (by decide) (by decide) dX8_fitsSet_8 ?_
      refine lv_icmp_ge (pc := 9) (tgt := 44) hx hb dX8_fitsSet_9 (by decide) (fun c_1 => ?_) (fun c_1 => ?_)
      · skip
        obtain rfl : i = nA sv := by have := ge_nat (a := i) rfl (Inv.n2 hC).1 (by omega) (by omega) c_1; omega
        refine lv_iconst (pc := 44) (v := 1) hx hb dX8_fitsSet_44 (by decide) ?_
        exact z_zret cx hr hlk dX8_fitsSet_45 (by unfold ftB; rw [he, Nat.sub_self]; rfl)
      · skip
        have hlt_i := lt_nat (a := i) rfl (Inv.n2 hC).1 (by omega) (by omega) c_1
        refine lv_aload_n (pc := 12) hx hb dX8_fitsSet_12 rfl (lv_at hl 1 rfl) ?_
        refine z_getM (pc := 13) cx (hW.at 0 rfl) 18 rfl m_fl_X8_43 rfl dX8_fitsSet_13 ?_
        refine lv_iload_n (pc := 16) hx hb dX8_fitsSet_16 rfl (lv_at hl 0 rfl) ?_
        refine z_iald (pc := 17) (f := bu) (j := i) cx (hW.at 12 rfl) rfl (by omega) (by decide) dX8_fitsSet_17 ?_
        refine lv_iload_n (pc := 18) hx hb dX8_fitsSet_18 rfl (lv_at hl 2 rfl) ?_
        refine lv_iand (pc := 19) hx hb dX8_fitsSet_19 ?_
        refine lv_if_eq (pc := 20) (tgt := 27) hx hb dX8_fitsSet_20 (by decide) (fun c_2 => ?_) (fun c_2 => ?_)
        · skip
          have hq : decide (¬ bu i &&& set = 0) = false := by simp [c_2]
          refine lv_iconst (pc := 27) (v := 0) hx hb dX8_fitsSet_27 (by decide) ?_
          refine lv_aload_n (pc := 28) hx hb dX8_fitsSet_28 rfl (lv_at hl 1 rfl) ?_
          refine lv_iload_n (pc := 29) hx hb dX8_fitsSet_29 rfl (lv_at hl 0 rfl) ?_
          refine k_X8_isHeard (pc := 30) (n := i) cx hW (by first | assumption | omega) m_ml_X8_211 ⟨Nat.le_of_ble_eq_true rfl, Nat.le_of_ble_eq_true rfl⟩ hl.1 rfl (by simp [Value.category]) dX8_fitsSet_30 ⟨Nat.le_refl _, Nat.le_refl _⟩ ?_
          refine lv_icmp_eq (pc := 33) (tgt := 38) hx hb dX8_fitsSet_33 (by decide) (fun c_3 => ?_) (fun c_3 => ?_)
          · skip
            refine lv_iinc (pc := 38) (v := nI (i + 1)) (lv' := [(2, .int (nI (i + 1))), (0, .ref (a 0)), (1, .int set)]) hx hb dX8_fitsSet_38 hl (k := 0) rfl (nI_1 _) (by decide) rfl (fun ls hl => ?_)
            refine lv_goto (pc := 41) (tgt := 2) hx hb dX8_fitsSet_41 (by decide) ?_
            exact ih_2 (i + 1) (nI (i + 1)) (by omega) (by omega) (by rw [he, allN_go (fit_t hq c_3) (by omega)]; rfl) (by first | rfl | (simp [bI, c_2, c_3]; done)) ls (lv_sub hl [0, 1, 2] rfl)
          · skip
            refine lv_iconst (pc := 36) (v := 0) hx hb dX8_fitsSet_36 (by decide) ?_
            exact z_zret cx hr hlk dX8_fitsSet_37 (by unfold ftB; rw [he, allN_no (fit_f hq c_3) (by omega)]; rfl)
        · skip
          have hq : decide (¬ bu i &&& set = 0) = true := by simp [c_2]
          refine lv_iconst (pc := 23) (v := 1) hx hb dX8_fitsSet_23 (by decide) ?_
          refine lv_goto (pc := 24) (tgt := 28) hx hb dX8_fitsSet_24 (by decide) ?_
          refine lv_aload_n (pc := 28) hx hb dX8_fitsSet_28 rfl (lv_at hl 1 rfl) ?_
          refine lv_iload_n (pc := 29) hx hb dX8_fitsSet_29 rfl (lv_at hl 0 rfl) ?_
          refine k_X8_isHeard (pc := 30) (n := i) cx hW (by first | assumption | omega) m_ml_X8_211 ⟨Nat.le_of_ble_eq_true rfl, Nat.le_of_ble_eq_true rfl⟩ hl.1 rfl (by simp [Value.category]) dX8_fitsSet_30 ⟨Nat.le_refl _, Nat.le_refl _⟩ ?_
          refine lv_icmp_eq (pc := 33) (tgt := 38) hx hb dX8_fitsSet_33 (by decide) (fun c_4 => ?_) (fun c_4 => ?_)
          · skip
            refine lv_iinc (pc := 38) (v := nI (i + 1)) (lv' := [(2, .int (nI (i + 1))), (0, .ref (a 0)), (1, .int set)]) hx hb dX8_fitsSet_38 hl (k := 0) rfl (nI_1 _) (by decide) rfl (fun ls hl => ?_)
            refine lv_goto (pc := 41) (tgt := 2) hx hb dX8_fitsSet_41 (by decide) ?_
            exact ih_2 (i + 1) (nI (i + 1)) (by omega) (by omega) (by rw [he, allN_go (fit_t hq c_4) (by omega)]; rfl) (by first | rfl | (simp [bI, c_2, c_4]; done)) ls (lv_sub hl [0, 1, 2] rfl)
          · skip
            refine lv_iconst (pc := 36) (v := 0) hx hb dX8_fitsSet_36 (by decide) ?_
            exact z_zret cx hr hlk dX8_fitsSet_37 (by unfold ftB; rw [he, allN_no (fit_f hq c_4) (by omega)]; rfl)
  exact loop_2 ((nA sv - 0) + 1) 0 0 (Nat.lt_succ_self _) (by omega) rfl (by first | rfl | (simp [bI]; done)) ls (lv_sub hl [0, 1, 2] rfl)
theorem k_X8_fitsSet {p : Program} {l : Launch} {e : Env} {R : Room} {s : State} {m : MethodId} {args : Array Value} {below : List Frame} {meth : Method} {c : Code} {H : Heap} {locs : List Loc} {cells slots : Nat} {Q : State → Prop} {cc : ByteArray} {pc index : Nat} {ls : Array Slot} {rest st0 : List Value} {E : zE} {own : String} {nL : Nat} {a : Nat → Nat} {sv im rd wa kp so sz el pr ts nu bu ht : Nat → Int32} {th po ba en td : Int32} {ig : Bool} {ij : Bool} {set : Int32} (cx : Cx E p s args m c own cc nL) (hW : WW E (wM a (E.2.1 0) sv im rd wa kp so sz el pr ts nu bu ht (bI ig) th po ba en td (bI ij)) gN H) (hI : Inv sv) (zl : Cond.methodLink own index yX8_fitsSet ∈ AllW) (zR : 1 + 1 ≤ R.frames ∧ 8 + (3 + 11) + 21 ≤ R.locals) (zs : ls.size = nL) (zt : st0 = ([.int set] : List Value).reverse ++ .ref (a 0) :: rest) (z8 : (rest.map fun v => v.category).sum ≤ 8) (zd : decode cc pc = .ok (.invokevirtual index, 3)) (zf : cells ≤ R.cells ∧ slots ≤ R.slots) (kk : W p l e R s m args below meth c H locs cells slots Q (F0 m (pc + 3) ls (.int (bI (ftB sv bu set)) :: rest))) : W p l e R s m args below meth c H locs cells slots Q (F0 m pc ls st0) :=
  z_callV cx vm_X8_fitsSet (c_X8_fitsSet l E a sv im rd wa kp so sz el pr ts nu bu ht th po ba en td ig ij set hI) (z_rec cx.2 (hW.at 0 rfl) rfl) hW zl ⟨rfl, rfl⟩ zR rfl zs zt z8 zd zf kk
theorem vm_X8_wrongRow : zVm yX8_wrongRow cX8_wrongRow 3 (some FieldType.int) 2 := ⟨m_co_X8_wrongRow, m_in_RX8, ⟨m_im_X8_wrongRow, m_se_X8_X8_wrongRow⟩, by decide +kernel, by decide +kernel, by decide +kernel⟩
set_option maxHeartbeats 4000000 in
set_option maxRecDepth 100000 in
theorem c_X8_wrongRow (l : Launch) (E : zE) (a : Nat → Nat) (sv im rd wa kp so sz el pr ts nu bu ht : Nat → Int32) (th po ba en td : Int32) (ig : Bool) (ij : Bool) (d o : Int32)  : Met l yX8_wrongRow (.code yX8_wrongRow cX8_wrongRow 3 (some FieldType.int) :: AllW) (rm0' 2 45) (zP E (fun H => WW E (wM a (E.2.1 0) sv im rd wa kp so sz el pr ts nu bu ht (bI ig) th po ba en td (bI ij)) gN H) [.ref (a 0), .int d, .int o]) (rQ (.int (wrR kp so d o))) 0 0 nF := by
  refine z_body (own := RX8) (by decide) rfl rfl ?_
  intro p e s m args below meth c ls cx hr hlk hnm hW hl
  have hx := cx.x
  have hb := cx.b
  have hl : lv_has ls 3 [(0, .ref (a 0)), (1, .int d), (2, .int o)] := hl
  refine lv_iload_n (pc := 0) hx hb dX8_wrongRow_0 rfl (lv_at hl 1 rfl) ?_
  refine k_X8_isShelf (pc := 1) (x := d) cx  m_ml_X8_111 ⟨Nat.le_of_ble_eq_true rfl, Nat.le_of_ble_eq_true rfl⟩ hl.1 rfl (by simp [Value.category]) dX8_wrongRow_1 ⟨Nat.le_refl _, Nat.le_refl _⟩ ?_
  refine z_ifne (pc := 4) (tgt := 11) hx hb dX8_wrongRow_4 (by decide) (fun c_1 => ?_) (fun c_1 => ?_)
  · skip
    obtain ⟨n, hn, rfl⟩ := shelf_nat c_1
    have hN := iN_nI (n := n) (by omega)
    refine lv_aload_n (pc := 11) hx hb dX8_wrongRow_11 rfl (lv_at hl 0 rfl) ?_
    refine z_getM (pc := 12) cx (hW.at 0 rfl) 4 rfl m_fl_X8_22 rfl dX8_wrongRow_12 ?_
    refine lv_iload_n (pc := 15) hx hb dX8_wrongRow_15 rfl (lv_at hl 1 rfl) ?_
    refine z_iald (pc := 16) (f := kp) (j := n) cx (hW.at 5 rfl) rfl (by omega) (by decide) dX8_wrongRow_16 ?_
    refine lv_if_ne (pc := 17) (tgt := 25) hx hb dX8_wrongRow_17 (by decide) (fun c_2 => ?_) (fun c_2 => ?_)
    · skip
      refine lv_aload_n (pc := 25) hx hb dX8_wrongRow_25 rfl (lv_at hl 0 rfl) ?_
      refine z_getM (pc := 26) cx (hW.at 0 rfl) 4 rfl m_fl_X8_22 rfl dX8_wrongRow_26 ?_
      refine lv_iload_n (pc := 29) hx hb dX8_wrongRow_29 rfl (lv_at hl 1 rfl) ?_
      refine z_iald (pc := 30) (f := kp) (j := n) cx (hW.at 5 rfl) rfl (by omega) (by decide) dX8_wrongRow_30 ?_
      refine lv_iconst (pc := 31) (v := 2) hx hb dX8_wrongRow_31 (by decide) ?_
      refine lv_icmp_ne (pc := 32) (tgt := 49) hx hb dX8_wrongRow_32 (by decide) (fun c_3 => ?_) (fun c_3 => ?_)
      · skip
        refine lv_bipush (pc := 49) (v := (-12)) hx hb dX8_wrongRow_49 (by decide) ?_
        refine lv_goto (pc := 51) (tgt := 55) hx hb dX8_wrongRow_51 (by decide) ?_
        exact z_iret cx hr hlk dX8_wrongRow_55 (by first | rfl | (simp [wrR, c_1, hN, c_2, c_3]; done))
      · skip
        refine lv_iload_n (pc := 35) hx hb dX8_wrongRow_35 rfl (lv_at hl 2 rfl) ?_
        refine lv_if_lt (pc := 36) (tgt := 54) hx hb dX8_wrongRow_36 (by decide) (fun c_4 => ?_) (fun c_4 => ?_)
        · skip
          refine lv_iconst (pc := 54) (v := 0) hx hb dX8_wrongRow_54 (by decide) ?_
          exact z_iret cx hr hlk dX8_wrongRow_55 (by first | rfl | (simp [wrR, c_1, hN, c_2, c_3, c_4, i_nle.mpr c_4]; done))
        · skip
          refine lv_aload_n (pc := 39) hx hb dX8_wrongRow_39 rfl (lv_at hl 0 rfl) ?_
          refine z_getM (pc := 40) cx (hW.at 0 rfl) 5 rfl m_fl_X8_25 rfl dX8_wrongRow_40 ?_
          refine lv_iload_n (pc := 43) hx hb dX8_wrongRow_43 rfl (lv_at hl 1 rfl) ?_
          refine z_iald (pc := 44) (f := so) (j := n) cx (hW.at 6 rfl) rfl (by omega) (by decide) dX8_wrongRow_44 ?_
          refine lv_iload_n (pc := 45) hx hb dX8_wrongRow_45 rfl (lv_at hl 2 rfl) ?_
          refine lv_icmp_eq (pc := 46) (tgt := 54) hx hb dX8_wrongRow_46 (by decide) (fun c_5 => ?_) (fun c_5 => ?_)
          · skip
            refine lv_iconst (pc := 54) (v := 0) hx hb dX8_wrongRow_54 (by decide) ?_
            exact z_iret cx hr hlk dX8_wrongRow_55 (by first | rfl | (simp [wrR, c_1, hN, c_2, c_3, c_4, c_5, i_nlt.mp c_4]; done))
          · skip
            refine lv_bipush (pc := 49) (v := (-12)) hx hb dX8_wrongRow_49 (by decide) ?_
            refine lv_goto (pc := 51) (tgt := 55) hx hb dX8_wrongRow_51 (by decide) ?_
            exact z_iret cx hr hlk dX8_wrongRow_55 (by first | rfl | (simp [wrR, c_1, hN, c_2, c_3, c_4, c_5, i_nlt.mp c_4]; done))
    · skip
      refine lv_bipush (pc := 20) (v := (-11)) hx hb dX8_wrongRow_20 (by decide) ?_
      refine lv_goto (pc := 22) (tgt := 55) hx hb dX8_wrongRow_22 (by decide) ?_
      exact z_iret cx hr hlk dX8_wrongRow_55 (by first | rfl | (simp [wrR, c_1, hN, c_2]; done))
  · skip
    refine lv_iconst (pc := 7) (v := (-1)) hx hb dX8_wrongRow_7 (by decide) ?_
    refine lv_goto (pc := 8) (tgt := 55) hx hb dX8_wrongRow_8 (by decide) ?_
    exact z_iret cx hr hlk dX8_wrongRow_55 (by first | rfl | (simp [wrR, c_1]; done))
theorem k_X8_wrongRow {p : Program} {l : Launch} {e : Env} {R : Room} {s : State} {m : MethodId} {args : Array Value} {below : List Frame} {meth : Method} {c : Code} {H : Heap} {locs : List Loc} {cells slots : Nat} {Q : State → Prop} {cc : ByteArray} {pc index : Nat} {ls : Array Slot} {rest st0 : List Value} {E : zE} {own : String} {nL : Nat} {a : Nat → Nat} {sv im rd wa kp so sz el pr ts nu bu ht : Nat → Int32} {th po ba en td : Int32} {ig : Bool} {ij : Bool} {d o : Int32} (cx : Cx E p s args m c own cc nL) (hW : WW E (wM a (E.2.1 0) sv im rd wa kp so sz el pr ts nu bu ht (bI ig) th po ba en td (bI ij)) gN H)  (zl : Cond.methodLink own index yX8_wrongRow ∈ AllW) (zR : 2 + 1 ≤ R.frames ∧ 8 + (3 + 11) + 45 ≤ R.locals) (zs : ls.size = nL) (zt : st0 = ([.int d, .int o] : List Value).reverse ++ .ref (a 0) :: rest) (z8 : (rest.map fun v => v.category).sum ≤ 8) (zd : decode cc pc = .ok (.invokevirtual index, 3)) (zf : cells ≤ R.cells ∧ slots ≤ R.slots) (kk : W p l e R s m args below meth c H locs cells slots Q (F0 m (pc + 3) ls (.int (wrR kp so d o) :: rest))) : W p l e R s m args below meth c H locs cells slots Q (F0 m pc ls st0) :=
  z_callV cx vm_X8_wrongRow (c_X8_wrongRow l E a sv im rd wa kp so sz el pr ts nu bu ht th po ba en td ig ij d o) (z_rec cx.2 (hW.at 0 rfl) rfl) hW zl ⟨rfl, rfl⟩ zR rfl zs zt z8 zd zf kk
theorem vm_X8_wrongKept : zVm yX8_wrongKept cX8_wrongKept 2 (some FieldType.int) 1 := ⟨m_co_X8_wrongKept, m_in_RX8, ⟨m_im_X8_wrongKept, m_se_X8_X8_wrongKept⟩, by decide +kernel, by decide +kernel, by decide +kernel⟩
set_option maxHeartbeats 4000000 in
set_option maxRecDepth 100000 in
theorem c_X8_wrongKept (l : Launch) (E : zE) (a : Nat → Nat) (sv im rd wa kp so sz el pr ts nu bu ht : Nat → Int32) (th po ba en td : Int32) (ig : Bool) (ij : Bool) (d : Int32)  : Met l yX8_wrongKept (.code yX8_wrongKept cX8_wrongKept 2 (some FieldType.int) :: AllW) (rm0' 2 45) (zP E (fun H => WW E (wM a (E.2.1 0) sv im rd wa kp so sz el pr ts nu bu ht (bI ig) th po ba en td (bI ij)) gN H) [.ref (a 0), .int d]) (rQ (.int (wrK kp d))) 0 0 nF := by
  refine z_body (own := RX8) (by decide) rfl rfl ?_
  intro p e s m args below meth c ls cx hr hlk hnm hW hl
  have hx := cx.x
  have hb := cx.b
  have hl : lv_has ls 2 [(0, .ref (a 0)), (1, .int d)] := hl
  refine lv_iload_n (pc := 0) hx hb dX8_wrongKept_0 rfl (lv_at hl 1 rfl) ?_
  refine k_X8_isShelf (pc := 1) (x := d) cx  m_ml_X8_111 ⟨Nat.le_of_ble_eq_true rfl, Nat.le_of_ble_eq_true rfl⟩ hl.1 rfl (by simp [Value.category]) dX8_wrongKept_1 ⟨Nat.le_refl _, Nat.le_refl _⟩ ?_
  refine z_ifne (pc := 4) (tgt := 11) hx hb dX8_wrongKept_4 (by decide) (fun c_1 => ?_) (fun c_1 => ?_)
  · skip
    obtain ⟨n, hn, rfl⟩ := shelf_nat c_1
    have hN := iN_nI (n := n) (by omega)
    refine lv_aload_n (pc := 11) hx hb dX8_wrongKept_11 rfl (lv_at hl 0 rfl) ?_
    refine z_getM (pc := 12) cx (hW.at 0 rfl) 4 rfl m_fl_X8_22 rfl dX8_wrongKept_12 ?_
    refine lv_iload_n (pc := 15) hx hb dX8_wrongKept_15 rfl (lv_at hl 1 rfl) ?_
    refine z_iald (pc := 16) (f := kp) (j := n) cx (hW.at 5 rfl) rfl (by omega) (by decide) dX8_wrongKept_16 ?_
    refine lv_if_ne (pc := 17) (tgt := 25) hx hb dX8_wrongKept_17 (by decide) (fun c_2 => ?_) (fun c_2 => ?_)
    · skip
      refine lv_aload_n (pc := 25) hx hb dX8_wrongKept_25 rfl (lv_at hl 0 rfl) ?_
      refine z_getM (pc := 26) cx (hW.at 0 rfl) 4 rfl m_fl_X8_22 rfl dX8_wrongKept_26 ?_
      refine lv_iload_n (pc := 29) hx hb dX8_wrongKept_29 rfl (lv_at hl 1 rfl) ?_
      refine z_iald (pc := 30) (f := kp) (j := n) cx (hW.at 5 rfl) rfl (by omega) (by decide) dX8_wrongKept_30 ?_
      refine lv_iconst (pc := 31) (v := 1) hx hb dX8_wrongKept_31 (by decide) ?_
      refine lv_icmp_ne (pc := 32) (tgt := 39) hx hb dX8_wrongKept_32 (by decide) (fun c_3 => ?_) (fun c_3 => ?_)
      · skip
        refine lv_bipush (pc := 39) (v := (-12)) hx hb dX8_wrongKept_39 (by decide) ?_
        exact z_iret cx hr hlk dX8_wrongKept_41 (by first | rfl | (simp [wrK, c_1, hN, c_2, c_3]; done))
      · skip
        refine lv_iconst (pc := 35) (v := 0) hx hb dX8_wrongKept_35 (by decide) ?_
        refine lv_goto (pc := 36) (tgt := 41) hx hb dX8_wrongKept_36 (by decide) ?_
        exact z_iret cx hr hlk dX8_wrongKept_41 (by first | rfl | (simp [wrK, c_1, hN, c_2, c_3]; done))
    · skip
      refine lv_bipush (pc := 20) (v := (-11)) hx hb dX8_wrongKept_20 (by decide) ?_
      refine lv_goto (pc := 22) (tgt := 41) hx hb dX8_wrongKept_22 (by decide) ?_
      exact z_iret cx hr hlk dX8_wrongKept_41 (by first | rfl | (simp [wrK, c_1, hN, c_2]; done))
  · skip
    refine lv_iconst (pc := 7) (v := (-1)) hx hb dX8_wrongKept_7 (by decide) ?_
    refine lv_goto (pc := 8) (tgt := 41) hx hb dX8_wrongKept_8 (by decide) ?_
    exact z_iret cx hr hlk dX8_wrongKept_41 (by first | rfl | (simp [wrK, c_1]; done))
theorem k_X8_wrongKept {p : Program} {l : Launch} {e : Env} {R : Room} {s : State} {m : MethodId} {args : Array Value} {below : List Frame} {meth : Method} {c : Code} {H : Heap} {locs : List Loc} {cells slots : Nat} {Q : State → Prop} {cc : ByteArray} {pc index : Nat} {ls : Array Slot} {rest st0 : List Value} {E : zE} {own : String} {nL : Nat} {a : Nat → Nat} {sv im rd wa kp so sz el pr ts nu bu ht : Nat → Int32} {th po ba en td : Int32} {ig : Bool} {ij : Bool} {d : Int32} (cx : Cx E p s args m c own cc nL) (hW : WW E (wM a (E.2.1 0) sv im rd wa kp so sz el pr ts nu bu ht (bI ig) th po ba en td (bI ij)) gN H)  (zl : Cond.methodLink own index yX8_wrongKept ∈ AllW) (zR : 2 + 1 ≤ R.frames ∧ 8 + (2 + 11) + 45 ≤ R.locals) (zs : ls.size = nL) (zt : st0 = ([.int d] : List Value).reverse ++ .ref (a 0) :: rest) (z8 : (rest.map fun v => v.category).sum ≤ 8) (zd : decode cc pc = .ok (.invokevirtual index, 3)) (zf : cells ≤ R.cells ∧ slots ≤ R.slots) (kk : W p l e R s m args below meth c H locs cells slots Q (F0 m (pc + 3) ls (.int (wrK kp d) :: rest))) : W p l e R s m args below meth c H locs cells slots Q (F0 m pc ls st0) :=
  z_callV cx vm_X8_wrongKept (c_X8_wrongKept l E a sv im rd wa kp so sz el pr ts nu bu ht th po ba en td ig ij d) (z_rec cx.2 (hW.at 0 rfl) rfl) hW zl ⟨rfl, rfl⟩ zR rfl zs zt z8 zd zf kk
theorem vm_X8_isValue : zSm yX8_isValue cX8_isValue 2 (some FieldType.boolean) 2 := ⟨m_co_X8_isValue, m_in_RX8, m_st_X8_isValue, by decide +kernel, by decide +kernel, by decide +kernel⟩
set_option maxHeartbeats 4000000 in
set_option maxRecDepth 100000 in
theorem c_X8_isValue (l : Launch) (E : zE) (w x : Int32)  : Met l yX8_isValue (.code yX8_isValue cX8_isValue 2 (some FieldType.boolean) :: AllW) (rm0' 1 25) (zP E (fun _ => True) [.int w, .int x]) (rQ (.int (bI (isVl w x)))) 0 0 nF := by
  refine z_body (own := RX8) (by decide) rfl rfl ?_
  intro p e s m args below meth c ls cx hr hlk hnm hW hl
  have hx := cx.x
  have hb := cx.b
  have hl : lv_has ls 2 [(0, .int w), (1, .int x)] := hl
  refine lv_iload_n (pc := 0) hx hb dX8_isValue_0 rfl (lv_at hl 0 rfl) ?_
  by_cases c_1 : w = 0
  · subst c_1
    refine lv_tableIn (pc := 1) (tgt := 28) hx hb dX8_isValue_1 (by decide) (by decide) rfl (by decide) ?_
    refine lv_iload_n (pc := 28) hx hb dX8_isValue_28 rfl (lv_at hl 1 rfl) ?_
    refine lv_i2l (pc := 29) (v := Int32.toInt64 x) hx hb dX8_isValue_29 rfl ?_
    refine lv_lconst (pc := 30) (v := 0) hx hb dX8_isValue_30 rfl ?_
    refine lv_ldc2 (pc := 31) (v := 20) hx hb cx.own (cx.ts _ m_kl_X8_151) dX8_isValue_31 ?_
    refine k_X8_isIn (pc := 34) (x := x) (y := 0) (z := 20) cx  m_ml_X8_53 ⟨Nat.le_of_ble_eq_true rfl, Nat.le_of_ble_eq_true rfl⟩ hl.1 rfl (by simp [Value.category]) dX8_isValue_34 ⟨Nat.le_refl _, Nat.le_refl _⟩ ?_
    exact z_zret cx hr hlk dX8_isValue_37 (by first | rfl | (simp [isVl, bI]; done))
  by_cases c_2 : w = 1
  · subst c_2
    refine lv_tableIn (pc := 1) (tgt := 38) hx hb dX8_isValue_1 (by decide) (by decide) rfl (by decide) ?_
    refine lv_iload_n (pc := 38) hx hb dX8_isValue_38 rfl (lv_at hl 1 rfl) ?_
    refine lv_i2l (pc := 39) (v := Int32.toInt64 x) hx hb dX8_isValue_39 rfl ?_
    refine lv_lconst (pc := 40) (v := 0) hx hb dX8_isValue_40 rfl ?_
    refine lv_lconst (pc := 41) (v := 1) hx hb dX8_isValue_41 rfl ?_
    refine k_X8_isIn (pc := 42) (x := x) (y := 0) (z := 1) cx  m_ml_X8_53 ⟨Nat.le_of_ble_eq_true rfl, Nat.le_of_ble_eq_true rfl⟩ hl.1 rfl (by simp [Value.category]) dX8_isValue_42 ⟨Nat.le_refl _, Nat.le_refl _⟩ ?_
    exact z_zret cx hr hlk dX8_isValue_45 (by first | rfl | (simp [isVl, bI, c_1]; done))
  by_cases c_3 : w = 2
  · subst c_3
    refine lv_tableIn (pc := 1) (tgt := 46) hx hb dX8_isValue_1 (by decide) (by decide) rfl (by decide) ?_
    refine lv_iload_n (pc := 46) hx hb dX8_isValue_46 rfl (lv_at hl 1 rfl) ?_
    refine lv_i2l (pc := 47) (v := Int32.toInt64 x) hx hb dX8_isValue_47 rfl ?_
    refine lv_lconst (pc := 48) (v := 0) hx hb dX8_isValue_48 rfl ?_
    refine lv_ldc2 (pc := 49) (v := 3) hx hb cx.own (cx.ts _ m_kl_X8_157) dX8_isValue_49 ?_
    refine k_X8_isIn (pc := 52) (x := x) (y := 0) (z := 3) cx  m_ml_X8_53 ⟨Nat.le_of_ble_eq_true rfl, Nat.le_of_ble_eq_true rfl⟩ hl.1 rfl (by simp [Value.category]) dX8_isValue_52 ⟨Nat.le_refl _, Nat.le_refl _⟩ ?_
    exact z_zret cx hr hlk dX8_isValue_55 (by first | rfl | (simp [isVl, bI, c_1, c_2]; done))
  refine lv_tableOut (pc := 1) (tgt := 56) hx hb dX8_isValue_1 (by have := lv_neT c_1 (a := 0) (by decide); have := lv_neT c_2 (a := 1) (by decide); have := lv_neT c_3 (a := 2) (by decide); omega) (by decide) ?_
  refine lv_iload_n (pc := 56) hx hb dX8_isValue_56 rfl (lv_at hl 0 rfl) ?_
  refine lv_iconst (pc := 57) (v := 3) hx hb dX8_isValue_57 (by decide) ?_
  refine lv_icmp_ne (pc := 58) (tgt := 79) hx hb dX8_isValue_58 (by decide) (fun c_4 => ?_) (fun c_4 => ?_)
  · skip
    refine lv_iconst (pc := 79) (v := 0) hx hb dX8_isValue_79 (by decide) ?_
    exact z_zret cx hr hlk dX8_isValue_80 (by first | rfl | (simp [isVl, bI, c_1, c_2, c_3, c_4]; done))
  · skip
    refine lv_iload_n (pc := 61) hx hb dX8_isValue_61 rfl (lv_at hl 1 rfl) ?_
    refine lv_i2l (pc := 62) (v := Int32.toInt64 x) hx hb dX8_isValue_62 rfl ?_
    refine lv_ldc2 (pc := 63) (v := (-9)) hx hb cx.own (cx.ts _ m_kl_X8_159) dX8_isValue_63 ?_
    refine lv_ldc2 (pc := 66) (v := 9) hx hb cx.own (cx.ts _ m_kl_X8_161) dX8_isValue_66 ?_
    refine k_X8_isIn (pc := 69) (x := x) (y := (-9)) (z := 9) cx  m_ml_X8_53 ⟨Nat.le_of_ble_eq_true rfl, Nat.le_of_ble_eq_true rfl⟩ hl.1 rfl (by simp [Value.category]) dX8_isValue_69 ⟨Nat.le_refl _, Nat.le_refl _⟩ ?_
    refine z_ifeq (pc := 72) (tgt := 79) hx hb dX8_isValue_72 (by decide) (fun c_5 => ?_) (fun c_5 => ?_)
    · skip
      refine lv_iconst (pc := 79) (v := 0) hx hb dX8_isValue_79 (by decide) ?_
      exact z_zret cx hr hlk dX8_isValue_80 (by first | rfl | (simp [isVl, bI, c_1, c_2, c_3, c_4, c_5]; done))
    · skip
      refine lv_iconst (pc := 75) (v := 1) hx hb dX8_isValue_75 (by decide) ?_
      refine lv_goto (pc := 76) (tgt := 80) hx hb dX8_isValue_76 (by decide) ?_
      exact z_zret cx hr hlk dX8_isValue_80 (by first | rfl | (simp [isVl, bI, c_1, c_2, c_3, c_4, c_5]; done))
theorem k_X8_isValue {p : Program} {l : Launch} {e : Env} {R : Room} {s : State} {m : MethodId} {args : Array Value} {below : List Frame} {meth : Method} {c : Code} {H : Heap} {locs : List Loc} {cells slots : Nat} {Q : State → Prop} {cc : ByteArray} {pc index : Nat} {ls : Array Slot} {rest st0 : List Value} {E : zE} {own : String} {nL : Nat} {w x : Int32} (cx : Cx E p s args m c own cc nL)  (zl : Cond.methodLink own index yX8_isValue ∈ AllW) (zR : 1 + 1 ≤ R.frames ∧ 8 + (2 + 11) + 25 ≤ R.locals) (zs : ls.size = nL) (zt : st0 = ([.int w, .int x] : List Value).reverse ++ rest) (z8 : (rest.map fun v => v.category).sum ≤ 8) (zd : decode cc pc = .ok (.invokestatic index, 3)) (zf : cells ≤ R.cells ∧ slots ≤ R.slots) (kk : W p l e R s m args below meth c H locs cells slots Q (F0 m (pc + 3) ls (.int (bI (isVl w x)) :: rest))) : W p l e R s m args below meth c H locs cells slots Q (F0 m pc ls st0) :=
  z_callS cx vm_X8_isValue (c_X8_isValue l E w x) trivial zl ⟨rfl, rfl⟩ zR rfl zs zt z8 zd zf kk
