theorem vm_J6_bitCount_0f7a4 : zSm yJ6_bitCount_0f7a4 cJ6_bitCount_0f7a4 1 (some FieldType.int) 1 := ⟨m_co_J6_bitCount_0f7a4, m_in_RJ6, m_st_J6_bitCount_0f7a4, by decide +kernel, by decide +kernel, by decide +kernel⟩
set_option maxHeartbeats 1000000 in
set_option maxRecDepth 100000 in
theorem c_J6_bitCount_0f7a4 (l : Launch) (E : zE) (v : Nat) (hv : v < 1024) : Met l yJ6_bitCount_0f7a4 (.code yJ6_bitCount_0f7a4 cJ6_bitCount_0f7a4 1 (some FieldType.int) :: AllW) (rm0' 0 0) (zP E (fun _ => True) [.int (nI v)]) (rQ (.int (nI (pop v)))) 0 0 nF := by
  refine z_body (own := RJ6) (by decide) rfl rfl ?_
  intro p e s m args below meth c ls cx hr hlk hnm hW hl
  have hx := cx.x
  have hb := cx.b
  have hl : lv_has ls 1 [(0, .int (nI v))] := hl
  refine lv_iload_n (pc := 0) hx hb dJ6_bitCount_0f7a4_0 rfl (lv_at hl 0 rfl) ?_
  refine lv_iload_n (pc := 1) hx hb dJ6_bitCount_0f7a4_1 rfl (lv_at hl 0 rfl) ?_
  refine lv_iconst (pc := 2) (v := 1) hx hb dJ6_bitCount_0f7a4_2 (by decide) ?_
  refine lv_iushr (pc := 3) (v := usr (nI v) 1) hx hb dJ6_bitCount_0f7a4_3 rfl ?_
  refine lv_ldcw (pc := 4) (v := 1431655765) hx hb cx.own (cx.ts _ m_ko_J6_265) dJ6_bitCount_0f7a4_4 ?_
  refine lv_iand (pc := 7) hx hb dJ6_bitCount_0f7a4_7 ?_
  refine lv_isub (pc := 8) hx hb dJ6_bitCount_0f7a4_8 ?_
  refine lv_istore_n (pc := 9) (lv' := [(0, .int ((nI v) - ((usr (nI v) 1) &&& 1431655765)))]) hx hb dJ6_bitCount_0f7a4_9 rfl hl (by decide) rfl (fun ls hl => ?_)
  refine lv_iload_n (pc := 10) hx hb dJ6_bitCount_0f7a4_10 rfl (lv_at hl 0 rfl) ?_
  refine lv_ldcw (pc := 11) (v := 858993459) hx hb cx.own (cx.ts _ m_ko_J6_266) dJ6_bitCount_0f7a4_11 ?_
  refine lv_iand (pc := 14) hx hb dJ6_bitCount_0f7a4_14 ?_
  refine lv_iload_n (pc := 15) hx hb dJ6_bitCount_0f7a4_15 rfl (lv_at hl 0 rfl) ?_
  refine lv_iconst (pc := 16) (v := 2) hx hb dJ6_bitCount_0f7a4_16 (by decide) ?_
  refine lv_iushr (pc := 17) (v := usr ((nI v) - ((usr (nI v) 1) &&& 1431655765)) 2) hx hb dJ6_bitCount_0f7a4_17 rfl ?_
  refine lv_ldcw (pc := 18) (v := 858993459) hx hb cx.own (cx.ts _ m_ko_J6_266) dJ6_bitCount_0f7a4_18 ?_
  refine lv_iand (pc := 21) hx hb dJ6_bitCount_0f7a4_21 ?_
  refine lv_iadd (pc := 22) hx hb dJ6_bitCount_0f7a4_22 ?_
  refine lv_istore_n (pc := 23) (lv' := [(0, .int ((((nI v) - ((usr (nI v) 1) &&& 1431655765)) &&& 858993459) + ((usr ((nI v) - ((usr (nI v) 1) &&& 1431655765)) 2) &&& 858993459)))]) hx hb dJ6_bitCount_0f7a4_23 rfl hl (by decide) rfl (fun ls hl => ?_)
  refine lv_iload_n (pc := 24) hx hb dJ6_bitCount_0f7a4_24 rfl (lv_at hl 0 rfl) ?_
  refine lv_iload_n (pc := 25) hx hb dJ6_bitCount_0f7a4_25 rfl (lv_at hl 0 rfl) ?_
  refine lv_iconst (pc := 26) (v := 4) hx hb dJ6_bitCount_0f7a4_26 (by decide) ?_
  refine lv_iushr (pc := 27) (v := usr ((((nI v) - ((usr (nI v) 1) &&& 1431655765)) &&& 858993459) + ((usr ((nI v) - ((usr (nI v) 1) &&& 1431655765)) 2) &&& 858993459)) 4) hx hb dJ6_bitCount_0f7a4_27 rfl ?_
  refine lv_iadd (pc := 28) hx hb dJ6_bitCount_0f7a4_28 ?_
  refine lv_ldcw (pc := 29) (v := 252645135) hx hb cx.own (cx.ts _ m_ko_J6_267) dJ6_bitCount_0f7a4_29 ?_
  refine lv_iand (pc := 32) hx hb dJ6_bitCount_0f7a4_32 ?_
  refine lv_istore_n (pc := 33) (lv' := [(0, .int ((((((nI v) - ((usr (nI v) 1) &&& 1431655765)) &&& 858993459) + ((usr ((nI v) - ((usr (nI v) 1) &&& 1431655765)) 2) &&& 858993459)) + (usr ((((nI v) - ((usr (nI v) 1) &&& 1431655765)) &&& 858993459) + ((usr ((nI v) - ((usr (nI v) 1) &&& 1431655765)) 2) &&& 858993459)) 4)) &&& 252645135))]) hx hb dJ6_bitCount_0f7a4_33 rfl hl (by decide) rfl (fun ls hl => ?_)
  refine lv_iload_n (pc := 34) hx hb dJ6_bitCount_0f7a4_34 rfl (lv_at hl 0 rfl) ?_
  refine lv_iload_n (pc := 35) hx hb dJ6_bitCount_0f7a4_35 rfl (lv_at hl 0 rfl) ?_
  refine lv_bipush (pc := 36) (v := 8) hx hb dJ6_bitCount_0f7a4_36 (by decide) ?_
  refine lv_iushr (pc := 38) (v := usr ((((((nI v) - ((usr (nI v) 1) &&& 1431655765)) &&& 858993459) + ((usr ((nI v) - ((usr (nI v) 1) &&& 1431655765)) 2) &&& 858993459)) + (usr ((((nI v) - ((usr (nI v) 1) &&& 1431655765)) &&& 858993459) + ((usr ((nI v) - ((usr (nI v) 1) &&& 1431655765)) 2) &&& 858993459)) 4)) &&& 252645135) 8) hx hb dJ6_bitCount_0f7a4_38 rfl ?_
  refine lv_iadd (pc := 39) hx hb dJ6_bitCount_0f7a4_39 ?_
  refine lv_istore_n (pc := 40) (lv' := [(0, .int (((((((nI v) - ((usr (nI v) 1) &&& 1431655765)) &&& 858993459) + ((usr ((nI v) - ((usr (nI v) 1) &&& 1431655765)) 2) &&& 858993459)) + (usr ((((nI v) - ((usr (nI v) 1) &&& 1431655765)) &&& 858993459) + ((usr ((nI v) - ((usr (nI v) 1) &&& 1431655765)) 2) &&& 858993459)) 4)) &&& 252645135) + (usr ((((((nI v) - ((usr (nI v) 1) &&& 1431655765)) &&& 858993459) + ((usr ((nI v) - ((usr (nI v) 1) &&& 1431655765)) 2) &&& 858993459)) + (usr ((((nI v) - ((usr (nI v) 1) &&& 1431655765)) &&& 858993459) + ((usr ((nI v) - ((usr (nI v) 1) &&& 1431655765)) 2) &&& 858993459)) 4)) &&& 252645135) 8)))]) hx hb dJ6_bitCount_0f7a4_40 rfl hl (by decide) rfl (fun ls hl => ?_)
  refine lv_iload_n (pc := 41) hx hb dJ6_bitCount_0f7a4_41 rfl (lv_at hl 0 rfl) ?_
  refine lv_iload_n (pc := 42) hx hb dJ6_bitCount_0f7a4_42 rfl (lv_at hl 0 rfl) ?_
  refine lv_bipush (pc := 43) (v := 16) hx hb dJ6_bitCount_0f7a4_43 (by decide) ?_
  refine lv_iushr (pc := 45) (v := usr (((((((nI v) - ((usr (nI v) 1) &&& 1431655765)) &&& 858993459) + ((usr ((nI v) - ((usr (nI v) 1) &&& 1431655765)) 2) &&& 858993459)) + (usr ((((nI v) - ((usr (nI v) 1) &&& 1431655765)) &&& 858993459) + ((usr ((nI v) - ((usr (nI v) 1) &&& 1431655765)) 2) &&& 858993459)) 4)) &&& 252645135) + (usr ((((((nI v) - ((usr (nI v) 1) &&& 1431655765)) &&& 858993459) + ((usr ((nI v) - ((usr (nI v) 1) &&& 1431655765)) 2) &&& 858993459)) + (usr ((((nI v) - ((usr (nI v) 1) &&& 1431655765)) &&& 858993459) + ((usr ((nI v) - ((usr (nI v) 1) &&& 1431655765)) 2) &&& 858993459)) 4)) &&& 252645135) 8)) 16) hx hb dJ6_bitCount_0f7a4_45 rfl ?_
  refine lv_iadd (pc := 46) hx hb dJ6_bitCount_0f7a4_46 ?_
  refine lv_istore_n (pc := 47) (lv' := [(0, .int ((((((((nI v) - ((usr (nI v) 1) &&& 1431655765)) &&& 858993459) + ((usr ((nI v) - ((usr (nI v) 1) &&& 1431655765)) 2) &&& 858993459)) + (usr ((((nI v) - ((usr (nI v) 1) &&& 1431655765)) &&& 858993459) + ((usr ((nI v) - ((usr (nI v) 1) &&& 1431655765)) 2) &&& 858993459)) 4)) &&& 252645135) + (usr ((((((nI v) - ((usr (nI v) 1) &&& 1431655765)) &&& 858993459) + ((usr ((nI v) - ((usr (nI v) 1) &&& 1431655765)) 2) &&& 858993459)) + (usr ((((nI v) - ((usr (nI v) 1) &&& 1431655765)) &&& 858993459) + ((usr ((nI v) - ((usr (nI v) 1) &&& 1431655765)) 2) &&& 858993459)) 4)) &&& 252645135) 8)) + (usr (((((((nI v) - ((usr (nI v) 1) &&& 1431655765)) &&& 858993459) + ((usr ((nI v) - ((usr (nI v) 1) &&& 1431655765)) 2) &&& 858993459)) + (usr ((((nI v) - ((usr (nI v) 1) &&& 1431655765)) &&& 858993459) + ((usr ((nI v) - ((usr (nI v) 1) &&& 1431655765)) 2) &&& 858993459)) 4)) &&& 252645135) + (usr ((((((nI v) - ((usr (nI v) 1) &&& 1431655765)) &&& 858993459) + ((usr ((nI v) - ((usr (nI v) 1) &&& 1431655765)) 2) &&& 858993459)) + (usr ((((nI v) - ((usr (nI v) 1) &&& 1431655765)) &&& 858993459) + ((usr ((nI v) - ((usr (nI v) 1) &&& 1431655765)) 2) &&& 858993459)) 4)) &&& 252645135) 8)) 16)))]) hx hb dJ6_bitCount_0f7a4_47 rfl hl (by decide) rfl (fun ls hl => ?_)
  refine lv_iload_n (pc := 48) hx hb dJ6_bitCount_0f7a4_48 rfl (lv_at hl 0 rfl) ?_
  refine lv_bipush (pc := 49) (v := 63) hx hb dJ6_bitCount_0f7a4_49 (by decide) ?_
  refine lv_iand (pc := 51) hx hb dJ6_bitCount_0f7a4_51 ?_
  exact z_iret cx hr hlk dJ6_bitCount_0f7a4_52 (bc_pop v hv)
theorem k_J6_bitCount_0f7a4 {p : Program} {l : Launch} {e : Env} {R : Room} {s : State} {m : MethodId} {args : Array Value} {below : List Frame} {meth : Method} {c : Code} {H : Heap} {locs : List Loc} {cells slots : Nat} {Q : State → Prop} {cc : ByteArray} {pc index : Nat} {ls : Array Slot} {rest st0 : List Value} {E : zE} {own : String} {nL : Nat} {v : Nat} (cx : Cx E p s args m c own cc nL) (hv : v < 1024) (zl : Cond.methodLink own index yJ6_bitCount_0f7a4 ∈ AllW) (zR : 0 + 1 ≤ R.frames ∧ 8 + (1 + 11) + 0 ≤ R.locals) (zs : ls.size = nL) (zt : st0 = ([.int (nI v)] : List Value).reverse ++ rest) (z8 : (rest.map fun v => v.category).sum ≤ 8) (zd : decode cc pc = .ok (.invokestatic index, 3)) (zf : cells ≤ R.cells ∧ slots ≤ R.slots) (kk : W p l e R s m args below meth c H locs cells slots Q (F0 m (pc + 3) ls (.int (nI (pop v)) :: rest))) : W p l e R s m args below meth c H locs cells slots Q (F0 m pc ls st0) :=
  z_callS cx vm_J6_bitCount_0f7a4 (c_J6_bitCount_0f7a4 l E v hv) trivial zl ⟨rfl, rfl⟩ zR rfl zs zt z8 zd zf kk
theorem vm_X7_buzzingAtSome : zVm yX7_buzzingAtSome cX7_buzzingAtSome 4 (some FieldType.int) 1 := ⟨m_co_X7_buzzingAtSome, m_in_RX7, ⟨m_im_X7_buzzingAtSome, m_se_X7_X7_buzzingAtSome⟩, by decide +kernel, by decide +kernel, by decide +kernel⟩
set_option maxHeartbeats 1000000 in
set_option maxRecDepth 100000 in
theorem c_X7_buzzingAtSome (l : Launch) (E : zE) (b : Nat → Nat) (tl : va_W) (pd : Bool) (qt : Nat → Option Nat) (qr : Nat → Option Nat) (tbu : Nat → Int32) (wst : Nat → Int32) (asw : Nat → Int32) (pN : Int32) (tN : Int32) (aN : Int32) (hd : Int32) (dr : Int32) (pl : Int32) (rm : Int32) (ps : Int32) (wx : Nat → Int32) (pp : Nat → Option Nat) (tp : Nat → Option Nat) (ap : Nat → Option Nat) (sg : Nat → Int32) (uh : Int32) (ud : Int32) (up : Int32) (ur : Int32) (us : Int32) (ux : Nat → Int32) (G : zG) (m2 : Nat) (hm : m2 < 1024) : Met l yX7_buzzingAtSome (.code yX7_buzzingAtSome cX7_buzzingAtSome 4 (some FieldType.int) :: AllW) (rm0' 0 0) (zP E (fun H => WW E (wK b E.2.1 tl pd qt qr tbu wst asw pN tN aN hd dr pl rm ps wx pp tp ap sg uh ud up ur us ux) G H) [.ref (b 0), .int (nI m2)]) (rQ (.int (orN (fdF tbu m2) 10))) 0 0 nF := by
  refine z_body (own := RX7) (by decide) rfl rfl ?_
  intro p e s m args below meth c ls cx hr hlk hnm hW hl
  have hx := cx.x
  have hb := cx.b
  have hl : lv_has ls 4 [(0, .ref (b 0)), (1, .int (nI m2))] := hl
  refine lv_iconst (pc := 0) (v := 0) hx hb dX7_buzzingAtSome_0 (by decide) ?_
  refine lv_istore_n (pc := 1) (lv' := [(2, .int 0), (0, .ref (b 0)), (1, .int (nI m2))]) hx hb dX7_buzzingAtSome_1 rfl hl (by decide) rfl (fun ls hl => ?_)
  refine lv_iconst (pc := 2) (v := 0) hx hb dX7_buzzingAtSome_2 (by decide) ?_
  refine lv_istore_n (pc := 3) (lv' := [(3, .int 0), (2, .int 0), (0, .ref (b 0)), (1, .int (nI m2))]) hx hb dX7_buzzingAtSome_3 rfl hl (by decide) rfl (fun ls hl => ?_)
  have loop_4 : ∀ (k_4 : Nat) (i : Nat) (x3 : Int32) (x2 : Int32), (10 - i) < k_4 → (i ≤ 10) → x3 = nI i → x2 = orN (fdF tbu m2) i → ∀ (ls : Array Slot), lv_has ls 4 [(3, .int x3), (2, .int x2), (0, .ref (b 0)), (1, .int (nI m2))] → W p l e (rm0' (0) (0)) s m args below meth c s.heap [] 0 0 (MQ below (rQ (.int (orN (fdF tbu m2) 10))) args s 0 0 nF) (F0 m 4 ls []) := by
    intro k_4
    induction k_4 with
    | zero =>
      intro i x3 x2 hm
      exact absurd hm (Nat.not_lt_zero _)
    | succ k_4 ih_4 =>
      intro i x3 x2 hm_4 hi e_x3 e_x2  ls hl
      subst e_x3
      subst e_x2
      refine lv_iload_n (pc := 4) hx hb dX7_buzzingAtSome_4 rfl (lv_at hl 0 rfl) ?_
      refine lv_aload_n (pc := 5) hx hb dX7_buzzingAtSome_5 rfl (lv_at hl 2 rfl) ?_
      refine z_get (pc := 6) cx (hW.at 0 rfl) (C := RX7) (T := TX7) (N := 11) rfl i_X7 8 rfl m_fl_X7_48 rfl dX7_buzzingAtSome_6 ?_
      refine z_alen (pc := 9) cx 0 (hW.at 3 rfl) rfl rfl dX7_buzzingAtSome_9 ?_
      refine lv_icmp_ge (pc := 10) (tgt := 36) hx hb dX7_buzzingAtSome_10 (by decide) (fun c_1 => ?_) (fun c_1 => ?_)
      · skip
        obtain rfl : i = 10 := by have := ge_nat (a := i) (b := 10) rfl rfl (by omega) (by omega) c_1; omega
        refine lv_iload_n (pc := 36) hx hb dX7_buzzingAtSome_36 rfl (lv_at hl 1 rfl) ?_
        exact z_iret cx hr hlk dX7_buzzingAtSome_37 (by first | rfl | (simp [orN, fdF]; done))
      · skip
        have hlt_i := lt_nat (a := i) (b := 10) rfl rfl (by omega) (by omega) c_1
        refine lv_iload_n (pc := 13) hx hb dX7_buzzingAtSome_13 rfl (lv_at hl 3 rfl) ?_
        refine lv_iload_n (pc := 14) hx hb dX7_buzzingAtSome_14 rfl (lv_at hl 0 rfl) ?_
        refine lv_ishr (pc := 15) hx hb dX7_buzzingAtSome_15 ?_
        refine lv_iconst (pc := 16) (v := 1) hx hb dX7_buzzingAtSome_16 (by decide) ?_
        refine lv_iand (pc := 17) hx hb dX7_buzzingAtSome_17 ?_
        refine lv_if_eq (pc := 18) (tgt := 30) hx hb dX7_buzzingAtSome_18 (by decide) (fun c_2 => ?_) (fun c_2 => ?_)
        · skip
          have hbt := bit_f c_2
          refine lv_iinc (pc := 30) (v := nI (i + 1)) (lv' := [(3, .int (nI (i + 1))), (2, .int (orN (fdF tbu m2) i)), (0, .ref (b 0)), (1, .int (nI m2))]) hx hb dX7_buzzingAtSome_30 hl (k := 0) rfl (nI_1 _) (by decide) rfl (fun ls hl => ?_)
          refine lv_goto (pc := 33) (tgt := 4) hx hb dX7_buzzingAtSome_33 (by decide) ?_
          exact ih_4 (i + 1) (nI (i + 1)) (orN (fdF tbu m2) i) (by omega) (by omega) (by first | rfl | (simp [orN, fdF, hbt]; done)) (by first | rfl | (simp [orN, fdF, hbt]; done)) ls (lv_sub hl [0, 1, 2, 3] rfl)
        · skip
          have hbt := bit_t c_2
          refine lv_iload_n (pc := 21) hx hb dX7_buzzingAtSome_21 rfl (lv_at hl 1 rfl) ?_
          refine lv_aload_n (pc := 22) hx hb dX7_buzzingAtSome_22 rfl (lv_at hl 2 rfl) ?_
          refine z_get (pc := 23) cx (hW.at 0 rfl) (C := RX7) (T := TX7) (N := 11) rfl i_X7 8 rfl m_fl_X7_48 rfl dX7_buzzingAtSome_23 ?_
          refine lv_iload_n (pc := 26) hx hb dX7_buzzingAtSome_26 rfl (lv_at hl 0 rfl) ?_
          refine z_iald (pc := 27) (f := tbu) (j := i) cx (hW.at 3 rfl) rfl (by omega) (by decide) dX7_buzzingAtSome_27 ?_
          refine lv_ior (pc := 28) hx hb dX7_buzzingAtSome_28 ?_
          refine lv_istore_n (pc := 29) (lv' := [(2, .int ((orN (fdF tbu m2) i) ||| (tbu i))), (3, .int (nI i)), (0, .ref (b 0)), (1, .int (nI m2))]) hx hb dX7_buzzingAtSome_29 rfl hl (by decide) rfl (fun ls hl => ?_)
          refine lv_iinc (pc := 30) (v := nI (i + 1)) (lv' := [(3, .int (nI (i + 1))), (2, .int ((orN (fdF tbu m2) i) ||| (tbu i))), (0, .ref (b 0)), (1, .int (nI m2))]) hx hb dX7_buzzingAtSome_30 hl (k := 1) rfl (nI_1 _) (by decide) rfl (fun ls hl => ?_)
          refine lv_goto (pc := 33) (tgt := 4) hx hb dX7_buzzingAtSome_33 (by decide) ?_
          exact ih_4 (i + 1) (nI (i + 1)) ((orN (fdF tbu m2) i) ||| (tbu i)) (by omega) (by omega) (by first | rfl | (simp [orN, fdF, hbt]; done)) (by first | rfl | (simp [orN, fdF, hbt]; done)) ls (lv_sub hl [0, 1, 2, 3] rfl)
  exact loop_4 ((10 - 0) + 1) 0 0 0 (Nat.lt_succ_self _) (by omega) (by first | rfl | (simp [orN, fdF]; done)) (by first | rfl | (simp [orN, fdF]; done)) ls (lv_sub hl [0, 1, 2, 3] rfl)
theorem k_X7_buzzingAtSome {p : Program} {l : Launch} {e : Env} {R : Room} {s : State} {m : MethodId} {args : Array Value} {below : List Frame} {meth : Method} {c : Code} {H : Heap} {locs : List Loc} {cells slots : Nat} {Q : State → Prop} {cc : ByteArray} {pc index : Nat} {ls : Array Slot} {rest st0 : List Value} {E : zE} {own : String} {nL : Nat} {b : Nat → Nat} {tl : va_W} {pd : Bool} {qt : Nat → Option Nat} {qr : Nat → Option Nat} {tbu : Nat → Int32} {wst : Nat → Int32} {asw : Nat → Int32} {pN : Int32} {tN : Int32} {aN : Int32} {hd : Int32} {dr : Int32} {pl : Int32} {rm : Int32} {ps : Int32} {wx : Nat → Int32} {pp : Nat → Option Nat} {tp : Nat → Option Nat} {ap : Nat → Option Nat} {sg : Nat → Int32} {uh : Int32} {ud : Int32} {up : Int32} {ur : Int32} {us : Int32} {ux : Nat → Int32} {G : zG} {m2 : Nat} (cx : Cx E p s args m c own cc nL) (hW : WW E (wK b E.2.1 tl pd qt qr tbu wst asw pN tN aN hd dr pl rm ps wx pp tp ap sg uh ud up ur us ux) G H) (hm : m2 < 1024) (zl : Cond.methodLink own index yX7_buzzingAtSome ∈ AllW) (zR : 0 + 1 ≤ R.frames ∧ 8 + (4 + 11) + 0 ≤ R.locals) (zs : ls.size = nL) (zt : st0 = ([.int (nI m2)] : List Value).reverse ++ .ref (b 0) :: rest) (z8 : (rest.map fun v => v.category).sum ≤ 8) (zd : decode cc pc = .ok (.invokevirtual index, 3)) (zf : cells ≤ R.cells ∧ slots ≤ R.slots) (kk : W p l e R s m args below meth c H locs cells slots Q (F0 m (pc + 3) ls (.int (orN (fdF tbu m2) 10) :: rest))) : W p l e R s m args below meth c H locs cells slots Q (F0 m pc ls st0) :=
  z_callV cx vm_X7_buzzingAtSome (c_X7_buzzingAtSome l E b tl pd qt qr tbu wst asw pN tN aN hd dr pl rm ps wx pp tp ap sg uh ud up ur us ux G m2 hm) (z_rec cx.2 (hW.at 0 rfl) rfl) hW zl ⟨rfl, rfl⟩ zR rfl zs zt z8 zd zf kk
theorem vm_X7_listen : zVm yX7_listen cX7_listen 5 (some FieldType.int) 2 := ⟨m_co_X7_listen, m_in_RX7, ⟨m_im_X7_listen, m_se_X7_X7_listen⟩, by decide +kernel, by decide +kernel, by decide +kernel⟩
set_option maxHeartbeats 1000000 in
set_option maxRecDepth 100000 in
theorem c_X7_listen (l : Launch) (E : zE) (b : Nat → Nat) (tl : va_W) (pd : Bool) (qt : Nat → Option Nat) (qr : Nat → Option Nat) (tbu : Nat → Int32) (wst : Nat → Int32) (asw : Nat → Int32) (pN : Int32) (tN : Int32) (aN : Int32) (wx : Nat → Int32) (pp : Nat → Option Nat) (tp : Nat → Option Nat) (ap : Nat → Option Nat) (sg : Nat → Int32) (uh : Int32) (ud : Int32) (up : Int32) (ur : Int32) (us : Int32) (ux : Nat → Int32) (G : zG) (q w z : Nat) (v0 st : Int32) (x r : Nat → Int32) (hG : CG E.2.1 G r pN tN aN wx pp tp ap) (hz : z ≤ 10) (hq : G q = some (ceW v0 w)) (hqw : G w = some (ceI E.2.1 z x)) (hto : ∀ i, i < z → rg (x i) 1 1200) : Met l yX7_listen (.code yX7_listen cX7_listen 5 (some FieldType.int) :: AllW) (rm0' 6 144) (zP E (fun H => WW E (wK b E.2.1 tl pd qt qr tbu wst asw pN tN aN (hdC (r 3)) (r 4) (r 5) (r 6) (r 7) wx pp tp ap sg uh ud up ur us ux) G H) [.ref (b 0), .ref q, .int st]) (zQ (fun (_ : Heap) (v : Option Value) (H1 : Heap) => (∃ (tb2 : Nat → Int32) (sg2 : Nat → Int32), v = some (.int (nI z)) ∧ (∀ j, j < z → tb2 j = hrA r (x j) st) ∧ WW E (wK b E.2.1 tl pd qt qr tb2 wst asw pN tN aN (hdC (r 3)) (r 4) (r 5) (r 6) (r 7) wx pp tp ap sg2 uh ud up ur us ux) G H1)) (bF b)) 0 0 (bF b) := by
  refine z_body (own := RX7) (by decide) rfl rfl ?_
  intro p e s m args below meth c ls cx hr hlk hnm hW hl
  have hx := cx.x
  have hb := cx.b
  have hl : lv_has ls 5 [(0, .ref (b 0)), (1, .ref q), (2, .int st)] := hl
  have hFb : ∀ k, (bF b) (b k) := fun k => bF_in b k
  have hS : va_S (bF b) s.heap s.heap [] := va_S.rf
  have hG0 := hG
  obtain ⟨hI, hpN, htN, haN, hPc, hTh, hAk, hwx⟩ := hG
  have hC := hI.1
  have hIS := hI.2.1
  have hP := hI.2.2.1
  have hT := hI.2.2.2.1
  have hP10 := (Inv.n0 hC).2
  have hT7 := (Inv.n1 hC).2
  have hA24 := (Inv.n2 hC).2
  have e0 := (Inv.n0 hC).1
  have e1 := (Inv.n1 hC).1
  have e2 := (Inv.n2 hC).1
  refine lv_aload_n (pc := 0) hx hb dX7_listen_0 rfl (lv_at hl 1 rfl) ?_
  refine k_X4_size (pc := 1)  cx ⟨hW.dyn hq, hW.dyn hqw⟩  m_ml_X7_253 ⟨Nat.le_of_ble_eq_true rfl, Nat.le_of_ble_eq_true rfl⟩ hl.1 rfl (by simp [Value.category]) dX7_listen_1 ⟨Nat.le_refl _, Nat.le_refl _⟩ ?_
  refine lv_aload_n (pc := 4) hx hb dX7_listen_4 rfl (lv_at hl 0 rfl) ?_
  refine z_get (pc := 5) cx (hW.at 0 rfl) (C := RX7) (T := TX7) (N := 11) rfl i_X7 8 rfl m_fl_X7_48 rfl dX7_listen_5 ?_
  refine z_alen (pc := 8) cx 0 (hW.at 3 rfl) rfl rfl dX7_listen_8 ?_
  refine z_mmin (pc := 9) cx hl.1 m_ml_X7_250 ⟨Nat.le_of_ble_eq_true rfl, Nat.le_of_ble_eq_true rfl⟩ (by simp [Value.category]) ⟨Nat.le_refl _, Nat.le_refl _⟩ dX7_listen_9 ?_
  refine z_tope (y := nI z) (mn_z hz) ?_
  refine lv_istore_n (pc := 12) (lv' := [(3, .int (nI z)), (0, .ref (b 0)), (1, .ref q), (2, .int st)]) hx hb dX7_listen_12 rfl hl (by decide) rfl (fun ls hl => ?_)
  refine lv_iconst (pc := 13) (v := 0) hx hb dX7_listen_13 (by decide) ?_
  refine lv_istore (pc := 14) (lv' := [(4, .int 0), (3, .int (nI z)), (0, .ref (b 0)), (1, .ref q), (2, .int st)]) hx hb dX7_listen_14 hl (by decide) rfl (fun ls hl => ?_)
  have loop_16 : ∀ (k_16 : Nat) (i : Nat) (x4 : Int32), (z - i) < k_16 → (i ≤ z) → x4 = nI i → ∀ (tb3 : Nat → Int32) (sg3 : Nat → Int32) (H : Heap) (locs : List Loc), (∀ j, j < i → tb3 j = hrA r (x j) st) → WW E (wK b E.2.1 tl pd qt qr tb3 wst asw pN tN aN (hdC (r 3)) (r 4) (r 5) (r 6) (r 7) wx pp tp ap sg3 uh ud up ur us ux) G H → va_S (bF b) s.heap H locs → ∀ (ls : Array Slot), lv_has ls 5 [(4, .int x4), (3, .int (nI z)), (0, .ref (b 0)), (1, .ref q), (2, .int st)] → W p l e (rm0' (6) (144)) s m args below meth c H locs 0 0 (MQ below (zQ (fun (_ : Heap) (v : Option Value) (H1 : Heap) => (∃ (tb2 : Nat → Int32) (sg2 : Nat → Int32), v = some (.int (nI z)) ∧ (∀ j, j < z → tb2 j = hrA r (x j) st) ∧ WW E (wK b E.2.1 tl pd qt qr tb2 wst asw pN tN aN (hdC (r 3)) (r 4) (r 5) (r 6) (r 7) wx pp tp ap sg2 uh ud up ur us ux) G H1)) (bF b)) args s 0 0 (bF b)) (F0 m 16 ls []) := by
    intro k_16
    induction k_16 with
    | zero =>
      intro i x4 hm
      exact absurd hm (Nat.not_lt_zero _)
    | succ k_16 ih_16 =>
      intro i x4 hm_16 hi e_x4 tb3 sg3 H locs htb hW hS ls hl
      subst e_x4
      refine lv_iload (pc := 16) hx hb dX7_listen_16 (lv_at hl 0 rfl) ?_
      refine lv_iload_n (pc := 18) hx hb dX7_listen_18 rfl (lv_at hl 1 rfl) ?_
      refine lv_icmp_ge (pc := 19) (tgt := 49) hx hb dX7_listen_19 (by decide) (fun c_1 => ?_) (fun c_1 => ?_)
      · skip
        obtain rfl : i = z := by have := ge_nat (a := i) (b := z) rfl rfl (by omega) (by omega) c_1; omega
        refine lv_iload_n (pc := 49) hx hb dX7_listen_49 rfl (lv_at hl 1 rfl) ?_
        exact z_wiret cx hr hlk dX7_listen_50 hS ⟨_, _, rfl, htb, hW⟩
      · skip
        have hlt_i := lt_nat (a := i) (b := z) rfl rfl (by omega) (by omega) c_1
        refine lv_aload_n (pc := 22) hx hb dX7_listen_22 rfl (lv_at hl 2 rfl) ?_
        refine z_get (pc := 23) cx (hW.at 0 rfl) (C := RX7) (T := TX7) (N := 11) rfl i_X7 8 rfl m_fl_X7_48 rfl dX7_listen_23 ?_
        refine lv_iload (pc := 26) hx hb dX7_listen_26 (lv_at hl 0 rfl) ?_
        refine lv_aload_n (pc := 28) hx hb dX7_listen_28 rfl (lv_at hl 2 rfl) ?_
        refine z_get (pc := 29) cx (hW.at 0 rfl) (C := RX7) (T := TX7) (N := 11) rfl i_X7 0 rfl m_fl_X7_10 rfl dX7_listen_29 ?_
        refine lv_aload_n (pc := 32) hx hb dX7_listen_32 rfl (lv_at hl 3 rfl) ?_
        refine lv_iload (pc := 33) hx hb dX7_listen_33 (lv_at hl 0 rfl) ?_
        refine k_X4_valueAt (pc := 35) (n := i) cx ⟨hW.dyn hq, hW.dyn hqw⟩ (by omega) hlt_i m_ml_X7_256 ⟨Nat.le_of_ble_eq_true rfl, Nat.le_of_ble_eq_true rfl⟩ hl.1 rfl (by simp [Value.category]) dX7_listen_35 ⟨Nat.le_refl _, Nat.le_refl _⟩ ?_
        refine lv_iload_n (pc := 38) hx hb dX7_listen_38 rfl (lv_at hl 4 rfl) ?_
        refine k_X1_buzzingAt (pc := 39) (f := x i) (st := st) (r := r) cx hW hS (fun _ h => h) hI hpN htN hPc hTh (hto i hlt_i) hwx m_ml_X7_194 ⟨Nat.le_of_ble_eq_true rfl, Nat.le_of_ble_eq_true rfl⟩ hl.1 rfl (by simp [Value.category]) dX7_listen_39 ⟨Nat.le_refl _, Nat.le_refl _⟩ (fun sg2 H locs  hW hS => ?_)
        have hW : WW E (wK b E.2.1 tl pd qt qr tb3 wst asw pN tN aN (hdC (r 3)) (r 4) (r 5) (r 6) (r 7) wx pp tp ap sg2 uh ud up ur us ux) G H := hW
        refine z_iast (pc := 42) (f := tb3) (j := i) cx hW hS 3 rfl (hFb 3) rfl (by omega) (by decide) dX7_listen_42 (fun H locs hW hS => ?_)
        have hW : WW E (wK b E.2.1 tl pd qt qr (upd tb3 i (hrA r (x i) st)) wst asw pN tN aN (hdC (r 3)) (r 4) (r 5) (r 6) (r 7) wx pp tp ap sg2 uh ud up ur us ux) G H := hW
        refine lv_iinc (pc := 43) (v := nI (i + 1)) (lv' := [(4, .int (nI (i + 1))), (3, .int (nI z)), (0, .ref (b 0)), (1, .ref q), (2, .int st)]) hx hb dX7_listen_43 hl (k := 0) rfl (nI_1 _) (by decide) rfl (fun ls hl => ?_)
        refine lv_goto (pc := 46) (tgt := 16) hx hb dX7_listen_46 (by decide) ?_
        exact ih_16 (i + 1) (nI (i + 1)) (by omega) (by omega) (by first | rfl | (simp []; done)) _ _ _ _ (upd_nx (g := fun j => hrA r (x j) st) htb) (hW) hS ls (lv_sub hl [0, 1, 2, 3, 4] rfl)
  exact loop_16 ((z - 0) + 1) 0 0 (Nat.lt_succ_self _) (by omega) (by first | rfl | (simp []; done)) tbu sg _ _ (fun j h => absurd h (Nat.not_lt_zero _)) (hW) hS ls (lv_sub hl [0, 1, 2, 3, 4] rfl)
theorem k_X7_listen {p : Program} {l : Launch} {e : Env} {R : Room} {s : State} {m : MethodId} {args : Array Value} {below : List Frame} {meth : Method} {c : Code} {H H0 : Heap} {locs : List Loc} {cells slots : Nat} {Q : State → Prop} {cc : ByteArray} {pc index : Nat} {ls : Array Slot} {rest st0 : List Value} {E : zE} {own : String} {nL : Nat} {F : Nat → Prop} {b : Nat → Nat} {tl : va_W} {pd : Bool} {qt : Nat → Option Nat} {qr : Nat → Option Nat} {tbu : Nat → Int32} {wst : Nat → Int32} {asw : Nat → Int32} {pN : Int32} {tN : Int32} {aN : Int32} {wx : Nat → Int32} {pp : Nat → Option Nat} {tp : Nat → Option Nat} {ap : Nat → Option Nat} {sg : Nat → Int32} {uh : Int32} {ud : Int32} {up : Int32} {ur : Int32} {us : Int32} {ux : Nat → Int32} {G : zG} {q w z : Nat} {v0 st : Int32} {x r : Nat → Int32} (cx : Cx E p s args m c own cc nL) (hW : WW E (wK b E.2.1 tl pd qt qr tbu wst asw pN tN aN (hdC (r 3)) (r 4) (r 5) (r 6) (r 7) wx pp tp ap sg uh ud up ur us ux) G H) (hS : va_S F H0 H locs) (zF : ∀ q, (bF b) q → F q) (hG : CG E.2.1 G r pN tN aN wx pp tp ap) (hz : z ≤ 10) (hq : G q = some (ceW v0 w)) (hqw : G w = some (ceI E.2.1 z x)) (hto : ∀ i, i < z → rg (x i) 1 1200) (zl : Cond.methodLink own index yX7_listen ∈ AllW) (zR : 6 + 1 ≤ R.frames ∧ 8 + (5 + 11) + 144 ≤ R.locals) (zs : ls.size = nL) (zt : st0 = ([.ref q, .int st] : List Value).reverse ++ .ref (b 0) :: rest) (z8 : (rest.map fun v => v.category).sum ≤ 8) (zd : decode cc pc = .ok (.invokevirtual index, 3)) (zf : cells ≤ R.cells ∧ slots ≤ R.slots) (kk0 : ∀ (tb2 : Nat → Int32) (sg2 : Nat → Int32) (H1 : Heap) (locs1 : List Loc), (∀ j, j < z → tb2 j = hrA r (x j) st) → WW E (wK b E.2.1 tl pd qt qr tb2 wst asw pN tN aN (hdC (r 3)) (r 4) (r 5) (r 6) (r 7) wx pp tp ap sg2 uh ud up ur us ux) G H1 → va_S F H0 H1 locs1 → W p l e R s m args below meth c H1 locs1 cells slots Q (F0 m (pc + 3) ls (.int (nI z) :: rest))) : W p l e R s m args below meth c H locs cells slots Q (F0 m pc ls st0) := by
  refine z_callVw cx vm_X7_listen (c_X7_listen l E b tl pd qt qr tbu wst asw pN tN aN wx pp tp ap sg uh ud up ur us ux G q w z v0 st x r hG hz hq hqw hto) (z_rec cx.2 (hW.at 0 rfl) rfl) hW hS zF zl ⟨rfl, rfl⟩ zR rfl zs zt z8 zd zf (fun v H1 locs1 hq hS1 _ => ?_)
  rcases hq with ⟨tb2, sg2, rfl, hfl, hW1⟩
  · exact kk0 tb2 sg2 H1 locs1 hfl hW1 hS1
theorem vm_X7_friday : zVm yX7_friday cX7_friday 8 (some FieldType.int) 3 := ⟨m_co_X7_friday, m_in_RX7, ⟨m_im_X7_friday, m_se_X7_X7_friday⟩, by decide +kernel, by decide +kernel, by decide +kernel⟩
set_option maxHeartbeats 1000000 in
set_option maxRecDepth 100000 in
theorem c_X7_friday (l : Launch) (E : zE) (b : Nat → Nat) (tl : va_W) (pd : Bool) (qt : Nat → Option Nat) (qr : Nat → Option Nat) (tbu : Nat → Int32) (wst : Nat → Int32) (asw : Nat → Int32) (pN : Int32) (tN : Int32) (aN : Int32) (wx : Nat → Int32) (pp : Nat → Option Nat) (tp : Nat → Option Nat) (ap : Nat → Option Nat) (sg : Nat → Int32) (uh : Int32) (ud : Int32) (up : Int32) (ur : Int32) (us : Int32) (ux : Nat → Int32) (G : zG) (d st w : Int32) (r : Nat → Int32) (kp so sz el pr ts : Nat → Int32) (hG : CG E.2.1 G r pN tN aN wx pp tp ap) (hSh : ShG E.2.1 G qt qr kp so sz el pr ts) : Met l yX7_friday (.code yX7_friday cX7_friday 8 (some FieldType.int) :: AllW) (rm0' 6 144) (zP E (fun H => WW E (wK b E.2.1 tl pd qt qr tbu wst asw pN tN aN (hdC (r 3)) (r 4) (r 5) (r 6) (r 7) wx pp tp ap sg uh ud up ur us ux) G H) [.ref (b 0), .int d, .int st, .int w]) (zQ (fun (_ : Heap) (v : Option Value) (H1 : Heap) => (∃ (sg2 : Nat → Int32), v = some (.int (fridayP r kp so sz el d st w)) ∧ WW E (wK b E.2.1 tl pd qt qr tbu wst asw pN tN aN (hdC (r 3)) (r 4) (r 5) (r 6) (r 7) wx pp tp ap sg2 uh ud up ur us ux) G H1)) (bF b)) 0 0 (bF b) := by
  refine z_body (own := RX7) (by decide) rfl rfl ?_
  intro p e s m args below meth c ls cx hr hlk hnm hW hl
  have hx := cx.x
  have hb := cx.b
  have hl : lv_has ls 8 [(0, .ref (b 0)), (1, .int d), (2, .int st), (3, .int w)] := hl
  have hFb : ∀ k, (bF b) (b k) := fun k => bF_in b k
  have hS : va_S (bF b) s.heap s.heap [] := va_S.rf
  have hG0 := hG
  obtain ⟨hI, hpN, htN, haN, hPc, hTh, hAk, hwx⟩ := hG
  have hC := hI.1
  have hIS := hI.2.1
  have hP := hI.2.2.1
  have hT := hI.2.2.2.1
  have hP10 := (Inv.n0 hC).2
  have hT7 := (Inv.n1 hC).2
  have hA24 := (Inv.n2 hC).2
  have e0 := (Inv.n0 hC).1
  have e1 := (Inv.n1 hC).1
  have e2 := (Inv.n2 hC).1
  refine lv_aload_n (pc := 0) hx hb dX7_friday_0 rfl (lv_at hl 0 rfl) ?_
  refine lv_iload_n (pc := 1) hx hb dX7_friday_1 rfl (lv_at hl 1 rfl) ?_
  refine lv_iload_n (pc := 2) hx hb dX7_friday_2 rfl (lv_at hl 2 rfl) ?_
  refine k_X7_isStrong (pc := 3) (x := st) cx  m_ml_X7_197 ⟨Nat.le_of_ble_eq_true rfl, Nat.le_of_ble_eq_true rfl⟩ hl.1 rfl (by simp [Value.category]) dX7_friday_3 ⟨Nat.le_refl _, Nat.le_refl _⟩ ?_
  refine z_ifeq (pc := 6) (tgt := 22) hx hb dX7_friday_6 (by decide) (fun c_1 => ?_) (fun c_1 => ?_)
  · skip
    refine lv_iconst (pc := 22) (v := 0) hx hb dX7_friday_22 (by decide) ?_
    refine lv_bipush (pc := 23) (v := 100) hx hb dX7_friday_23 (by decide) ?_
    refine k_X7_tonesRefusal (pc := 25) (d := d) (ob := false) (mo := 100) cx hW (by first | assumption | omega) (by first | assumption | omega) m_ml_X7_236 ⟨Nat.le_of_ble_eq_true rfl, Nat.le_of_ble_eq_true rfl⟩ hl.1 rfl (by simp [Value.category]) dX7_friday_25 ⟨Nat.le_refl _, Nat.le_refl _⟩ ?_
    refine z_tope (y := wtC kp so sz el false d 100) rfl ?_
    refine lv_istore (pc := 28) (lv' := [(4, .int (wtC kp so sz el false d 100)), (0, .ref (b 0)), (1, .int d), (2, .int st), (3, .int w)]) hx hb dX7_friday_28 hl (by decide) rfl (fun ls hl => ?_)
    refine lv_iload (pc := 30) hx hb dX7_friday_30 (lv_at hl 0 rfl) ?_
    refine lv_if_eq (pc := 32) (tgt := 38) hx hb dX7_friday_32 (by decide) (fun c_2 => ?_) (fun c_2 => ?_)
    · skip
      exact absurd (wtC_0 c_2).1 (by decide)
    · skip
      have hw0 := c_2
      refine lv_iload (pc := 35) hx hb dX7_friday_35 (lv_at hl 0 rfl) ?_
      exact z_wiret cx hr hlk dX7_friday_37 hS ⟨_, (sI (by unfold fridayP; exact wtC_ne (by simp [c_1]) hw0)), hW⟩
  · skip
    refine lv_iload_n (pc := 9) hx hb dX7_friday_9 rfl (lv_at hl 3 rfl) ?_
    refine lv_iconst (pc := 10) (v := 0) hx hb dX7_friday_10 (by decide) ?_
    refine lv_iconst (pc := 11) (v := 1) hx hb dX7_friday_11 (by decide) ?_
    refine k_X7_isWithin (pc := 12) (x := w) (y := 0) (z := 1) cx  m_ml_X7_159 ⟨Nat.le_of_ble_eq_true rfl, Nat.le_of_ble_eq_true rfl⟩ hl.1 rfl (by simp [Value.category]) dX7_friday_12 ⟨Nat.le_refl _, Nat.le_refl _⟩ ?_
    refine z_ifeq (pc := 15) (tgt := 22) hx hb dX7_friday_15 (by decide) (fun c_3 => ?_) (fun c_3 => ?_)
    · skip
      refine lv_iconst (pc := 22) (v := 0) hx hb dX7_friday_22 (by decide) ?_
      refine lv_bipush (pc := 23) (v := 100) hx hb dX7_friday_23 (by decide) ?_
      refine k_X7_tonesRefusal (pc := 25) (d := d) (ob := false) (mo := 100) cx hW (by first | assumption | omega) (by first | assumption | omega) m_ml_X7_236 ⟨Nat.le_of_ble_eq_true rfl, Nat.le_of_ble_eq_true rfl⟩ hl.1 rfl (by simp [Value.category]) dX7_friday_25 ⟨Nat.le_refl _, Nat.le_refl _⟩ ?_
      refine z_tope (y := wtC kp so sz el false d 100) rfl ?_
      refine lv_istore (pc := 28) (lv' := [(4, .int (wtC kp so sz el false d 100)), (0, .ref (b 0)), (1, .int d), (2, .int st), (3, .int w)]) hx hb dX7_friday_28 hl (by decide) rfl (fun ls hl => ?_)
      refine lv_iload (pc := 30) hx hb dX7_friday_30 (lv_at hl 0 rfl) ?_
      refine lv_if_eq (pc := 32) (tgt := 38) hx hb dX7_friday_32 (by decide) (fun c_4 => ?_) (fun c_4 => ?_)
      · skip
        exact absurd (wtC_0 c_4).1 (by decide)
      · skip
        have hw0 := c_4
        refine lv_iload (pc := 35) hx hb dX7_friday_35 (lv_at hl 0 rfl) ?_
        exact z_wiret cx hr hlk dX7_friday_37 hS ⟨_, (sI (by unfold fridayP; exact wtC_ne (by simp [c_1, c_3]) hw0)), hW⟩
    · skip
      refine lv_iconst (pc := 18) (v := 1) hx hb dX7_friday_18 (by decide) ?_
      refine lv_goto (pc := 19) (tgt := 23) hx hb dX7_friday_19 (by decide) ?_
      refine lv_bipush (pc := 23) (v := 100) hx hb dX7_friday_23 (by decide) ?_
      refine k_X7_tonesRefusal (pc := 25) (d := d) (ob := true) (mo := 100) cx hW (by first | assumption | omega) (by first | assumption | omega) m_ml_X7_236 ⟨Nat.le_of_ble_eq_true rfl, Nat.le_of_ble_eq_true rfl⟩ hl.1 rfl (by simp [Value.category]) dX7_friday_25 ⟨Nat.le_refl _, Nat.le_refl _⟩ ?_
      refine z_tope (y := wtC kp so sz el true d 100) rfl ?_
      refine lv_istore (pc := 28) (lv' := [(4, .int (wtC kp so sz el true d 100)), (0, .ref (b 0)), (1, .int d), (2, .int st), (3, .int w)]) hx hb dX7_friday_28 hl (by decide) rfl (fun ls hl => ?_)
      refine lv_iload (pc := 30) hx hb dX7_friday_30 (lv_at hl 0 rfl) ?_
      refine lv_if_eq (pc := 32) (tgt := 38) hx hb dX7_friday_32 (by decide) (fun c_5 => ?_) (fun c_5 => ?_)
      · skip
        have htc := wtC_0 c_5
        have hwt := htc.2
        have hd7 := (wrR_0 (wtT_0 hwt).1).1
        obtain ⟨n, hn, rfl, hk1, ht1, q1, w1, x1, hr1, hq1, hw1, hx1⟩ := row_get hSh (wtT_0 hwt).1
        have hN1 := iN_nI (n := n) (by omega)
        have hz1 := sz_nat hSh.1 hn
        have hzl1 := hz1.2
        have htg := wtT_get (m := 100) (n := n) (by decide) hwt rfl hn hz1
        have hzM := htg.1
        refine lv_aload_n (pc := 38) hx hb dX7_friday_38 rfl (lv_at hl 1 rfl) ?_
        refine z_get (pc := 39) cx (hW.at 0 rfl) (C := RX7) (T := TX7) (N := 11) rfl i_X7 7 rfl m_fl_X7_44 rfl dX7_friday_39 ?_
        refine lv_iload_n (pc := 42) hx hb dX7_friday_42 rfl (lv_at hl 2 rfl) ?_
        refine z_aald (pc := 43) (f := qr) (j := n) cx 4 rfl (hW.at 2 rfl) rfl (by omega) (by decide) dX7_friday_43 ?_
        refine z_rfS hr1 ?_
        refine lv_astore (pc := 44) (lv' := [(5, .ref q1), (4, .int (wtC kp so sz el true (nI n) 100)), (0, .ref (b 0)), (1, .int (nI n)), (2, .int st), (3, .int w)]) hx hb dX7_friday_44 hl (by decide) rfl (fun ls hl => ?_)
        refine lv_iconst (pc := 46) (v := 0) hx hb dX7_friday_46 (by decide) ?_
        refine lv_istore (pc := 47) (lv' := [(6, .int 0), (5, .ref q1), (4, .int (wtC kp so sz el true (nI n) 100)), (0, .ref (b 0)), (1, .int (nI n)), (2, .int st), (3, .int w)]) hx hb dX7_friday_47 hl (by decide) rfl (fun ls hl => ?_)
        refine lv_iconst (pc := 49) (v := 0) hx hb dX7_friday_49 (by decide) ?_
        refine lv_istore (pc := 50) (lv' := [(7, .int 0), (6, .int 0), (5, .ref q1), (4, .int (wtC kp so sz el true (nI n) 100)), (0, .ref (b 0)), (1, .int (nI n)), (2, .int st), (3, .int w)]) hx hb dX7_friday_50 hl (by decide) rfl (fun ls hl => ?_)
        have loop_52 : ∀ (k_52 : Nat) (i : Nat) (x7 : Int32) (x6 : Int32), (iN (sz n) - i) < k_52 → (i ≤ iN (sz n)) → x7 = nI i → x6 = unO r el n st i → ∀ (sg2 : Nat → Int32) (H : Heap) (locs : List Loc), WW E (wK b E.2.1 tl pd qt qr tbu wst asw pN tN aN (hdC (r 3)) (r 4) (r 5) (r 6) (r 7) wx pp tp ap sg2 uh ud up ur us ux) G H → va_S (bF b) s.heap H locs → ∀ (ls : Array Slot), lv_has ls 8 [(7, .int x7), (6, .int x6), (5, .ref q1), (4, .int (wtC kp so sz el true (nI n) 100)), (0, .ref (b 0)), (1, .int (nI n)), (2, .int st), (3, .int w)] → W p l e (rm0' (6) (144)) s m args below meth c H locs 0 0 (MQ below (zQ (fun (_ : Heap) (v : Option Value) (H1 : Heap) => (∃ (sg2 : Nat → Int32), v = some (.int (fridayP r kp so sz el (nI n) st w)) ∧ WW E (wK b E.2.1 tl pd qt qr tbu wst asw pN tN aN (hdC (r 3)) (r 4) (r 5) (r 6) (r 7) wx pp tp ap sg2 uh ud up ur us ux) G H1)) (bF b)) args s 0 0 (bF b)) (F0 m 52 ls []) := by
          intro k_52
          induction k_52 with
          | zero =>
            intro i x7 x6 hm
            exact absurd hm (Nat.not_lt_zero _)
          | succ k_52 ih_52 =>
            intro i x7 x6 hm_52 hi e_x7 e_x6 sg2 H locs  hW hS ls hl
            subst e_x7
            subst e_x6
            refine lv_iload (pc := 52) hx hb dX7_friday_52 (lv_at hl 0 rfl) ?_
            refine lv_aload (pc := 54) hx hb dX7_friday_54 (lv_at hl 2 rfl) ?_
            refine k_X4_size (pc := 56)  cx ⟨hW.dyn hq1, hW.dyn hw1⟩  m_ml_X7_253 ⟨Nat.le_of_ble_eq_true rfl, Nat.le_of_ble_eq_true rfl⟩ hl.1 rfl (by simp [Value.category]) dX7_friday_56 ⟨Nat.le_refl _, Nat.le_refl _⟩ ?_
            refine lv_icmp_ge (pc := 59) (tgt := 88) hx hb dX7_friday_59 (by decide) (fun c_6 => ?_) (fun c_6 => ?_)
            · skip
              obtain rfl : i = iN (sz n) := by have := ge_nat (a := i) (b := iN (sz n)) rfl rfl (by omega) (by omega) c_6; omega
              obtain ⟨u, hu, hun⟩ := un_bits r el n st hT7 (iN (sz n))
              have hfr := fr_min hT hT7 hu
              rw [← hun] at hfr
              refine lv_iload_n (pc := 88) hx hb dX7_friday_88 rfl (lv_at hl 7 rfl) ?_
              refine lv_if_ne (pc := 89) (tgt := 104) hx hb dX7_friday_89 (by decide) (fun c_7 => ?_) (fun c_7 => ?_)
              · skip
                refine lv_iload (pc := 104) hx hb dX7_friday_104 (lv_at hl 1 rfl) ?_
                exact z_wiret cx hr hlk dX7_friday_106 hS ⟨_, (sI (by simp [fridayP, c_1, c_3, hwt, hd7, hN1, hk1, hfr, c_7])), hW⟩
              · skip
                have hL01 : inL 0 0 1 = true := by decide
                refine lv_aload_n (pc := 92) hx hb dX7_friday_92 rfl (lv_at hl 4 rfl) ?_
                refine z_get (pc := 93) cx (hW.at 0 rfl) (C := RX7) (T := TX7) (N := 11) rfl i_X7 0 rfl m_fl_X7_10 rfl dX7_friday_93 ?_
                refine lv_iload (pc := 96) hx hb dX7_friday_96 (lv_at hl 1 rfl) ?_
                refine k_X1_costsOf (pc := 98) (set := unO r el n st (iN (sz n))) cx hW (by first | assumption | omega) (by first | assumption | omega) (by first | assumption | omega) m_ml_X7_295 ⟨Nat.le_of_ble_eq_true rfl, Nat.le_of_ble_eq_true rfl⟩ hl.1 rfl (by simp [Value.category]) dX7_friday_98 ⟨Nat.le_refl _, Nat.le_refl _⟩ ?_
                refine lv_goto (pc := 101) (tgt := 106) hx hb dX7_friday_101 (by decide) ?_
                exact z_wiret cx hr hlk dX7_friday_106 hS ⟨_, (sI (by simp [fridayP, c_1, c_3, hwt, hd7, hN1, hk1, hfr, c_7, hL01])), hW⟩
            · skip
              have hlt_i := lt_nat (a := i) (b := iN (sz n)) rfl rfl (by omega) (by omega) c_6
              refine lv_iload (pc := 62) hx hb dX7_friday_62 (lv_at hl 1 rfl) ?_
              refine lv_aload_n (pc := 64) hx hb dX7_friday_64 rfl (lv_at hl 4 rfl) ?_
              refine z_get (pc := 65) cx (hW.at 0 rfl) (C := RX7) (T := TX7) (N := 11) rfl i_X7 0 rfl m_fl_X7_10 rfl dX7_friday_65 ?_
              refine lv_aload (pc := 68) hx hb dX7_friday_68 (lv_at hl 2 rfl) ?_
              refine lv_iload (pc := 70) hx hb dX7_friday_70 (lv_at hl 0 rfl) ?_
              refine k_X4_valueAt (pc := 72) (n := i) cx ⟨hW.dyn hq1, hW.dyn hw1⟩ hzl1 hlt_i m_ml_X7_256 ⟨Nat.le_of_ble_eq_true rfl, Nat.le_of_ble_eq_true rfl⟩ hl.1 rfl (by simp [Value.category]) dX7_friday_72 ⟨Nat.le_refl _, Nat.le_refl _⟩ ?_
              refine z_tope (y := el (100 * n + i)) (hx1 i hlt_i) ?_
              refine lv_iload_n (pc := 75) hx hb dX7_friday_75 rfl (lv_at hl 6 rfl) ?_
              refine k_X1_buzzingAt (pc := 76) (f := el (100 * n + i)) (st := st) (r := r) cx hW hS (fun _ h => h) hI hpN htN hPc hTh (htg.2 i hlt_i) hwx m_ml_X7_194 ⟨Nat.le_of_ble_eq_true rfl, Nat.le_of_ble_eq_true rfl⟩ hl.1 rfl (by simp [Value.category]) dX7_friday_76 ⟨Nat.le_refl _, Nat.le_refl _⟩ (fun sg2 H locs  hW hS => ?_)
              have hW : WW E (wK b E.2.1 tl pd qt qr tbu wst asw pN tN aN (hdC (r 3)) (r 4) (r 5) (r 6) (r 7) wx pp tp ap sg2 uh ud up ur us ux) G H := hW
              refine lv_ior (pc := 79) hx hb dX7_friday_79 ?_
              refine lv_istore (pc := 80) (lv' := [(6, .int ((unO r el n st i) ||| (hrA r (el (100 * n + i)) st))), (7, .int (nI i)), (5, .ref q1), (4, .int (wtC kp so sz el true (nI n) 100)), (0, .ref (b 0)), (1, .int (nI n)), (2, .int st), (3, .int w)]) hx hb dX7_friday_80 hl (by decide) rfl (fun ls hl => ?_)
              refine lv_iinc (pc := 82) (v := nI (i + 1)) (lv' := [(7, .int (nI (i + 1))), (6, .int ((unO r el n st i) ||| (hrA r (el (100 * n + i)) st))), (5, .ref q1), (4, .int (wtC kp so sz el true (nI n) 100)), (0, .ref (b 0)), (1, .int (nI n)), (2, .int st), (3, .int w)]) hx hb dX7_friday_82 hl (k := 1) rfl (nI_1 _) (by decide) rfl (fun ls hl => ?_)
              refine lv_goto (pc := 85) (tgt := 52) hx hb dX7_friday_85 (by decide) ?_
              exact ih_52 (i + 1) (nI (i + 1)) ((unO r el n st i) ||| (hrA r (el (100 * n + i)) st)) (by omega) (by omega) (by first | rfl | (simp [c_1, c_3, hwt, hd7, hN1, hk1]; done)) rfl _ _ _  (hW) hS ls (lv_sub hl [0, 1, 2, 3, 4, 5, 6, 7] rfl)
        exact loop_52 ((iN (sz n) - 0) + 1) 0 0 0 (Nat.lt_succ_self _) (by omega) (by first | rfl | (simp [c_1, c_3, hwt, hd7, hN1, hk1]; done)) (by first | rfl | (simp [c_1, c_3, hwt, hd7, hN1, hk1]; done)) sg _ _  (hW) hS ls (lv_sub hl [0, 1, 2, 3, 4, 5, 6, 7] rfl)
      · skip
        have hw0 := c_5
        refine lv_iload (pc := 35) hx hb dX7_friday_35 (lv_at hl 0 rfl) ?_
        exact z_wiret cx hr hlk dX7_friday_37 hS ⟨_, (sI (by unfold fridayP; exact wtC_ne (by simp [c_1, c_3]) hw0)), hW⟩
theorem k_X7_friday {p : Program} {l : Launch} {e : Env} {R : Room} {s : State} {m : MethodId} {args : Array Value} {below : List Frame} {meth : Method} {c : Code} {H H0 : Heap} {locs : List Loc} {cells slots : Nat} {Q : State → Prop} {cc : ByteArray} {pc index : Nat} {ls : Array Slot} {rest st0 : List Value} {E : zE} {own : String} {nL : Nat} {F : Nat → Prop} {b : Nat → Nat} {tl : va_W} {pd : Bool} {qt : Nat → Option Nat} {qr : Nat → Option Nat} {tbu : Nat → Int32} {wst : Nat → Int32} {asw : Nat → Int32} {pN : Int32} {tN : Int32} {aN : Int32} {wx : Nat → Int32} {pp : Nat → Option Nat} {tp : Nat → Option Nat} {ap : Nat → Option Nat} {sg : Nat → Int32} {uh : Int32} {ud : Int32} {up : Int32} {ur : Int32} {us : Int32} {ux : Nat → Int32} {G : zG} {d st w : Int32} {r : Nat → Int32} {kp so sz el pr ts : Nat → Int32} (cx : Cx E p s args m c own cc nL) (hW : WW E (wK b E.2.1 tl pd qt qr tbu wst asw pN tN aN (hdC (r 3)) (r 4) (r 5) (r 6) (r 7) wx pp tp ap sg uh ud up ur us ux) G H) (hS : va_S F H0 H locs) (zF : ∀ q, (bF b) q → F q) (hG : CG E.2.1 G r pN tN aN wx pp tp ap) (hSh : ShG E.2.1 G qt qr kp so sz el pr ts) (zl : Cond.methodLink own index yX7_friday ∈ AllW) (zR : 6 + 1 ≤ R.frames ∧ 8 + (8 + 11) + 144 ≤ R.locals) (zs : ls.size = nL) (zt : st0 = ([.int d, .int st, .int w] : List Value).reverse ++ .ref (b 0) :: rest) (z8 : (rest.map fun v => v.category).sum ≤ 8) (zd : decode cc pc = .ok (.invokevirtual index, 3)) (zf : cells ≤ R.cells ∧ slots ≤ R.slots) (kk0 : ∀ (sg2 : Nat → Int32) (H1 : Heap) (locs1 : List Loc), WW E (wK b E.2.1 tl pd qt qr tbu wst asw pN tN aN (hdC (r 3)) (r 4) (r 5) (r 6) (r 7) wx pp tp ap sg2 uh ud up ur us ux) G H1 → va_S F H0 H1 locs1 → W p l e R s m args below meth c H1 locs1 cells slots Q (F0 m (pc + 3) ls (.int (fridayP r kp so sz el d st w) :: rest))) : W p l e R s m args below meth c H locs cells slots Q (F0 m pc ls st0) := by
  refine z_callVw cx vm_X7_friday (c_X7_friday l E b tl pd qt qr tbu wst asw pN tN aN wx pp tp ap sg uh ud up ur us ux G d st w r kp so sz el pr ts hG hSh) (z_rec cx.2 (hW.at 0 rfl) rfl) hW hS zF zl ⟨rfl, rfl⟩ zR rfl zs zt z8 zd zf (fun v H1 locs1 hq hS1 _ => ?_)
  rcases hq with ⟨sg2, rfl, hW1⟩
  · exact kk0 sg2 H1 locs1  hW1 hS1
theorem vm_X7_worstCase : zVm yX7_worstCase cX7_worstCase 8 (some FieldType.int) 2 := ⟨m_co_X7_worstCase, m_in_RX7, ⟨m_im_X7_worstCase, m_se_X7_X7_worstCase⟩, by decide +kernel, by decide +kernel, by decide +kernel⟩
set_option maxHeartbeats 1000000 in
set_option maxRecDepth 100000 in
theorem c_X7_worstCase (l : Launch) (E : zE) (b : Nat → Nat) (tl : va_W) (pd : Bool) (qt : Nat → Option Nat) (qr : Nat → Option Nat) (tbu : Nat → Int32) (wst : Nat → Int32) (asw : Nat → Int32) (pN : Int32) (tN : Int32) (aN : Int32) (hd : Int32) (dr : Int32) (pl : Int32) (rm : Int32) (ps : Int32) (wx : Nat → Int32) (pp : Nat → Option Nat) (tp : Nat → Option Nat) (ap : Nat → Option Nat) (sg : Nat → Int32) (uh : Int32) (ud : Int32) (up : Int32) (ur : Int32) (us : Int32) (ux : Nat → Int32) (G : zG) (v z : Nat) (hv : v < 128) (hz : z ≤ 10) (hwo : ∀ w, w < v → v &&& w = w → wst w = wo tbu z w) : Met l yX7_worstCase (.code yX7_worstCase cX7_worstCase 8 (some FieldType.int) :: AllW) (rm0' 1 21) (zP E (fun H => WW E (wK b E.2.1 tl pd qt qr tbu wst asw pN tN aN hd dr pl rm ps wx pp tp ap sg uh ud up ur us ux) G H) [.ref (b 0), .int (nI v), .int (nI z)]) (rQ (.int (wo tbu z v))) 0 0 nF := by
  refine z_body (own := RX7) (by decide) rfl rfl ?_
  intro p e s m args below meth c ls cx hr hlk hnm hW hl
  have hx := cx.x
  have hb := cx.b
  have hl : lv_has ls 8 [(0, .ref (b 0)), (1, .int (nI v)), (2, .int (nI z))] := hl
  refine lv_iconst (pc := 0) (v := 0) hx hb dX7_worstCase_0 (by decide) ?_
  refine lv_istore_n (pc := 1) (lv' := [(3, .int 0), (0, .ref (b 0)), (1, .int (nI v)), (2, .int (nI z))]) hx hb dX7_worstCase_1 rfl hl (by decide) rfl (fun ls hl => ?_)
  refine lv_iconst (pc := 2) (v := 0) hx hb dX7_worstCase_2 (by decide) ?_
  refine lv_istore (pc := 3) (lv' := [(4, .int 0), (3, .int 0), (0, .ref (b 0)), (1, .int (nI v)), (2, .int (nI z))]) hx hb dX7_worstCase_3 hl (by decide) rfl (fun ls hl => ?_)
  have loop_5 : ∀ (k_5 : Nat) (i : Nat) (x4 : Int32) (x3 : Int32), (z - i) < k_5 → (i ≤ z) → x4 = nI i → x3 = wcG wst tbu v i → ∀ (ls : Array Slot), lv_has ls 8 [(4, .int x4), (3, .int x3), (0, .ref (b 0)), (1, .int (nI v)), (2, .int (nI z))] → W p l e (rm0' (1) (21)) s m args below meth c s.heap [] 0 0 (MQ below (rQ (.int (wo tbu z v))) args s 0 0 nF) (F0 m 5 ls []) := by
    intro k_5
    induction k_5 with
    | zero =>
      intro i x4 x3 hm
      exact absurd hm (Nat.not_lt_zero _)
    | succ k_5 ih_5 =>
      intro i x4 x3 hm_5 hi e_x4 e_x3  ls hl
      subst e_x4
      subst e_x3
      refine lv_iload (pc := 5) hx hb dX7_worstCase_5 (lv_at hl 0 rfl) ?_
      refine lv_iload_n (pc := 7) hx hb dX7_worstCase_7 rfl (lv_at hl 4 rfl) ?_
      refine lv_icmp_ge (pc := 8) (tgt := 88) hx hb dX7_worstCase_8 (by decide) (fun c_1 => ?_) (fun c_1 => ?_)
      · skip
        obtain rfl : i = z := by have := ge_nat (a := i) (b := z) rfl rfl (by omega) (by omega) c_1; omega
        refine lv_iload_n (pc := 88) hx hb dX7_worstCase_88 rfl (lv_at hl 1 rfl) ?_
        exact z_iret cx hr hlk dX7_worstCase_89 (wc_eq hv hwo)
      · skip
        have hlt_i := lt_nat (a := i) (b := z) rfl rfl (by omega) (by omega) c_1
        refine lv_iload_n (pc := 11) hx hb dX7_worstCase_11 rfl (lv_at hl 3 rfl) ?_
        refine lv_aload_n (pc := 12) hx hb dX7_worstCase_12 rfl (lv_at hl 2 rfl) ?_
        refine z_get (pc := 13) cx (hW.at 0 rfl) (C := RX7) (T := TX7) (N := 11) rfl i_X7 8 rfl m_fl_X7_48 rfl dX7_worstCase_13 ?_
        refine lv_iload (pc := 16) hx hb dX7_worstCase_16 (lv_at hl 0 rfl) ?_
        refine z_iald (pc := 18) (f := tbu) (j := i) cx (hW.at 3 rfl) rfl (by omega) (by decide) dX7_worstCase_18 ?_
        refine lv_iand (pc := 19) hx hb dX7_worstCase_19 ?_
        refine lv_istore (pc := 20) (lv' := [(5, .int ((nI v) &&& (tbu i))), (4, .int (nI i)), (3, .int (wcG wst tbu v i)), (0, .ref (b 0)), (1, .int (nI v)), (2, .int (nI z))]) hx hb dX7_worstCase_20 hl (by decide) rfl (fun ls hl => ?_)
        refine lv_iload_n (pc := 22) hx hb dX7_worstCase_22 rfl (lv_at hl 4 rfl) ?_
        refine lv_aload_n (pc := 23) hx hb dX7_worstCase_23 rfl (lv_at hl 3 rfl) ?_
        refine z_get (pc := 24) cx (hW.at 0 rfl) (C := RX7) (T := TX7) (N := 11) rfl i_X7 8 rfl m_fl_X7_48 rfl dX7_worstCase_24 ?_
        refine lv_iload (pc := 27) hx hb dX7_worstCase_27 (lv_at hl 1 rfl) ?_
        refine z_iald (pc := 29) (f := tbu) (j := i) cx (hW.at 3 rfl) rfl (by omega) (by decide) dX7_worstCase_29 ?_
        refine lv_iconst (pc := 30) (v := (-1)) hx hb dX7_worstCase_30 (by decide) ?_
        refine lv_ixor (pc := 31) hx hb dX7_worstCase_31 ?_
        refine lv_iand (pc := 32) hx hb dX7_worstCase_32 ?_
        refine lv_istore (pc := 33) (lv' := [(6, .int ((nI v) &&& ((tbu i) ^^^ (-1)))), (5, .int ((nI v) &&& (tbu i))), (4, .int (nI i)), (3, .int (wcG wst tbu v i)), (0, .ref (b 0)), (1, .int (nI v)), (2, .int (nI z))]) hx hb dX7_worstCase_33 hl (by decide) rfl (fun ls hl => ?_)
        refine lv_iload (pc := 35) hx hb dX7_worstCase_35 (lv_at hl 1 rfl) ?_
        refine lv_if_eq (pc := 37) (tgt := 82) hx hb dX7_worstCase_37 (by decide) (fun c_2 => ?_) (fun c_2 => ?_)
        · skip
          have hst := wc_skip (wst := wst) (Or.inl c_2)
          refine lv_iinc (pc := 82) (v := nI (i + 1)) (lv' := [(4, .int (nI (i + 1))), (6, .int ((nI v) &&& ((tbu i) ^^^ (-1)))), (5, .int ((nI v) &&& (tbu i))), (3, .int (wcG wst tbu v i)), (0, .ref (b 0)), (1, .int (nI v)), (2, .int (nI z))]) hx hb dX7_worstCase_82 hl (k := 2) rfl (nI_1 _) (by decide) rfl (fun ls hl => ?_)
          refine lv_goto (pc := 85) (tgt := 5) hx hb dX7_worstCase_85 (by decide) ?_
          exact ih_5 (i + 1) (nI (i + 1)) (wcG wst tbu v i) (by omega) (by omega) (by first | rfl | (simp [c_2]; done)) hst.symm ls (lv_sub hl [0, 3, 4, 5, 6] rfl)
        · skip
          have h1 := c_2
          refine lv_iload (pc := 40) hx hb dX7_worstCase_40 (lv_at hl 0 rfl) ?_
          refine lv_if_eq (pc := 42) (tgt := 82) hx hb dX7_worstCase_42 (by decide) (fun c_3 => ?_) (fun c_3 => ?_)
          · skip
            have hst := wc_skip (wst := wst) (Or.inr ((sil0 hv _).mp c_3))
            refine lv_iinc (pc := 82) (v := nI (i + 1)) (lv' := [(4, .int (nI (i + 1))), (6, .int ((nI v) &&& ((tbu i) ^^^ (-1)))), (5, .int ((nI v) &&& (tbu i))), (3, .int (wcG wst tbu v i)), (0, .ref (b 0)), (1, .int (nI v)), (2, .int (nI z))]) hx hb dX7_worstCase_82 hl (k := 2) rfl (nI_1 _) (by decide) rfl (fun ls hl => ?_)
            refine lv_goto (pc := 85) (tgt := 5) hx hb dX7_worstCase_85 (by decide) ?_
            exact ih_5 (i + 1) (nI (i + 1)) (wcG wst tbu v i) (by omega) (by omega) (by first | rfl | (simp [c_2, c_3]; done)) hst.symm ls (lv_sub hl [0, 3, 4, 5, 6] rfl)
          · skip
            have h2 := c_3
            have hst := wc_val hv hwo h1 h2 rfl
            refine lv_iconst (pc := 45) (v := 1) hx hb dX7_worstCase_45 (by decide) ?_
            refine lv_aload_n (pc := 46) hx hb dX7_worstCase_46 rfl (lv_at hl 4 rfl) ?_
            refine z_get (pc := 47) cx (hW.at 0 rfl) (C := RX7) (T := TX7) (N := 11) rfl i_X7 9 rfl m_fl_X7_52 rfl dX7_worstCase_47 ?_
            refine lv_iload (pc := 50) hx hb dX7_worstCase_50 (lv_at hl 1 rfl) ?_
            refine z_iald (pc := 52) (f := wst) (j := v &&& uN (tbu i)) cx (hW.at 4 rfl) (nI_and v _ (by omega)) (Nat.lt_of_le_of_lt Nat.and_le_left hv) (by decide) dX7_worstCase_52 ?_
            refine lv_aload_n (pc := 53) hx hb dX7_worstCase_53 rfl (lv_at hl 4 rfl) ?_
            refine z_get (pc := 54) cx (hW.at 0 rfl) (C := RX7) (T := TX7) (N := 11) rfl i_X7 9 rfl m_fl_X7_52 rfl dX7_worstCase_54 ?_
            refine lv_iload (pc := 57) hx hb dX7_worstCase_57 (lv_at hl 0 rfl) ?_
            refine z_iald (pc := 59) (f := wst) (j := v &&& uN (tbu i ^^^ -1)) cx (hW.at 4 rfl) (nI_and v _ (by omega)) (Nat.lt_of_le_of_lt Nat.and_le_left hv) (by decide) dX7_worstCase_59 ?_
            refine z_mmax (pc := 60) cx hl.1 m_ml_X7_247 ⟨Nat.le_of_ble_eq_true rfl, Nat.le_of_ble_eq_true rfl⟩ (by simp [Value.category]) ⟨Nat.le_refl _, Nat.le_refl _⟩ dX7_worstCase_60 ?_
            refine lv_iadd (pc := 63) hx hb dX7_worstCase_63 ?_
            refine lv_istore (pc := 64) (lv' := [(7, .int (1 + (mxI (wst (v &&& uN (tbu i))) (wst (v &&& uN (tbu i ^^^ -1)))))), (6, .int ((nI v) &&& ((tbu i) ^^^ (-1)))), (5, .int ((nI v) &&& (tbu i))), (4, .int (nI i)), (3, .int (wcG wst tbu v i)), (0, .ref (b 0)), (1, .int (nI v)), (2, .int (nI z))]) hx hb dX7_worstCase_64 hl (by decide) rfl (fun ls hl => ?_)
            refine lv_iload_n (pc := 66) hx hb dX7_worstCase_66 rfl (lv_at hl 4 rfl) ?_
            refine lv_if_ne (pc := 67) (tgt := 75) hx hb dX7_worstCase_67 (by decide) (fun c_4 => ?_) (fun c_4 => ?_)
            · skip
              rw [if_neg c_4] at hst
              refine lv_iload_n (pc := 75) hx hb dX7_worstCase_75 rfl (lv_at hl 4 rfl) ?_
              refine lv_iload (pc := 76) hx hb dX7_worstCase_76 (lv_at hl 0 rfl) ?_
              refine z_mmin (pc := 78) cx hl.1 m_ml_X7_250 ⟨Nat.le_of_ble_eq_true rfl, Nat.le_of_ble_eq_true rfl⟩ (by simp [Value.category]) ⟨Nat.le_refl _, Nat.le_refl _⟩ dX7_worstCase_78 ?_
              refine lv_istore_n (pc := 81) (lv' := [(3, .int (mnI (wcG wst tbu v i) (1 + (mxI (wst (v &&& uN (tbu i))) (wst (v &&& uN (tbu i ^^^ -1))))))), (7, .int (1 + (mxI (wst (v &&& uN (tbu i))) (wst (v &&& uN (tbu i ^^^ -1)))))), (6, .int ((nI v) &&& ((tbu i) ^^^ (-1)))), (5, .int ((nI v) &&& (tbu i))), (4, .int (nI i)), (0, .ref (b 0)), (1, .int (nI v)), (2, .int (nI z))]) hx hb dX7_worstCase_81 rfl hl (by decide) rfl (fun ls hl => ?_)
              refine lv_iinc (pc := 82) (v := nI (i + 1)) (lv' := [(4, .int (nI (i + 1))), (3, .int (mnI (wcG wst tbu v i) (1 + (mxI (wst (v &&& uN (tbu i))) (wst (v &&& uN (tbu i ^^^ -1))))))), (7, .int (1 + (mxI (wst (v &&& uN (tbu i))) (wst (v &&& uN (tbu i ^^^ -1)))))), (6, .int ((nI v) &&& ((tbu i) ^^^ (-1)))), (5, .int ((nI v) &&& (tbu i))), (0, .ref (b 0)), (1, .int (nI v)), (2, .int (nI z))]) hx hb dX7_worstCase_82 hl (k := 4) rfl (nI_1 _) (by decide) rfl (fun ls hl => ?_)
              refine lv_goto (pc := 85) (tgt := 5) hx hb dX7_worstCase_85 (by decide) ?_
              exact ih_5 (i + 1) (nI (i + 1)) (mnI (wcG wst tbu v i) (1 + (mxI (wst (v &&& uN (tbu i))) (wst (v &&& uN (tbu i ^^^ -1)))))) (by omega) (by omega) (by first | rfl | (simp [c_2, c_3, c_4]; done)) hst.symm ls (lv_sub hl [0, 1, 5, 6, 7] rfl)
            · skip
              rw [if_pos c_4] at hst
              refine lv_iload (pc := 70) hx hb dX7_worstCase_70 (lv_at hl 0 rfl) ?_
              refine lv_goto (pc := 72) (tgt := 81) hx hb dX7_worstCase_72 (by decide) ?_
              refine lv_istore_n (pc := 81) (lv' := [(3, .int (1 + (mxI (wst (v &&& uN (tbu i))) (wst (v &&& uN (tbu i ^^^ -1)))))), (7, .int (1 + (mxI (wst (v &&& uN (tbu i))) (wst (v &&& uN (tbu i ^^^ -1)))))), (6, .int ((nI v) &&& ((tbu i) ^^^ (-1)))), (5, .int ((nI v) &&& (tbu i))), (4, .int (nI i)), (0, .ref (b 0)), (1, .int (nI v)), (2, .int (nI z))]) hx hb dX7_worstCase_81 rfl hl (by decide) rfl (fun ls hl => ?_)
              refine lv_iinc (pc := 82) (v := nI (i + 1)) (lv' := [(4, .int (nI (i + 1))), (3, .int (1 + (mxI (wst (v &&& uN (tbu i))) (wst (v &&& uN (tbu i ^^^ -1)))))), (7, .int (1 + (mxI (wst (v &&& uN (tbu i))) (wst (v &&& uN (tbu i ^^^ -1)))))), (6, .int ((nI v) &&& ((tbu i) ^^^ (-1)))), (5, .int ((nI v) &&& (tbu i))), (0, .ref (b 0)), (1, .int (nI v)), (2, .int (nI z))]) hx hb dX7_worstCase_82 hl (k := 4) rfl (nI_1 _) (by decide) rfl (fun ls hl => ?_)
              refine lv_goto (pc := 85) (tgt := 5) hx hb dX7_worstCase_85 (by decide) ?_
              exact ih_5 (i + 1) (nI (i + 1)) (1 + (mxI (wst (v &&& uN (tbu i))) (wst (v &&& uN (tbu i ^^^ -1))))) (by omega) (by omega) (by first | rfl | (simp [c_2, c_3, c_4]; done)) hst.symm ls (lv_sub hl [0, 1, 5, 6, 7] rfl)
  exact loop_5 ((z - 0) + 1) 0 0 0 (Nat.lt_succ_self _) (by omega) (by first | rfl | (simp []; done)) (by first | rfl | (simp []; done)) ls (lv_sub hl [0, 1, 2, 3, 4] rfl)
theorem k_X7_worstCase {p : Program} {l : Launch} {e : Env} {R : Room} {s : State} {m : MethodId} {args : Array Value} {below : List Frame} {meth : Method} {c : Code} {H : Heap} {locs : List Loc} {cells slots : Nat} {Q : State → Prop} {cc : ByteArray} {pc index : Nat} {ls : Array Slot} {rest st0 : List Value} {E : zE} {own : String} {nL : Nat} {b : Nat → Nat} {tl : va_W} {pd : Bool} {qt : Nat → Option Nat} {qr : Nat → Option Nat} {tbu : Nat → Int32} {wst : Nat → Int32} {asw : Nat → Int32} {pN : Int32} {tN : Int32} {aN : Int32} {hd : Int32} {dr : Int32} {pl : Int32} {rm : Int32} {ps : Int32} {wx : Nat → Int32} {pp : Nat → Option Nat} {tp : Nat → Option Nat} {ap : Nat → Option Nat} {sg : Nat → Int32} {uh : Int32} {ud : Int32} {up : Int32} {ur : Int32} {us : Int32} {ux : Nat → Int32} {G : zG} {v z : Nat} (cx : Cx E p s args m c own cc nL) (hW : WW E (wK b E.2.1 tl pd qt qr tbu wst asw pN tN aN hd dr pl rm ps wx pp tp ap sg uh ud up ur us ux) G H) (hv : v < 128) (hz : z ≤ 10) (hwo : ∀ w, w < v → v &&& w = w → wst w = wo tbu z w) (zl : Cond.methodLink own index yX7_worstCase ∈ AllW) (zR : 1 + 1 ≤ R.frames ∧ 8 + (8 + 11) + 21 ≤ R.locals) (zs : ls.size = nL) (zt : st0 = ([.int (nI v), .int (nI z)] : List Value).reverse ++ .ref (b 0) :: rest) (z8 : (rest.map fun v => v.category).sum ≤ 8) (zd : decode cc pc = .ok (.invokevirtual index, 3)) (zf : cells ≤ R.cells ∧ slots ≤ R.slots) (kk : W p l e R s m args below meth c H locs cells slots Q (F0 m (pc + 3) ls (.int (wo tbu z v) :: rest))) : W p l e R s m args below meth c H locs cells slots Q (F0 m pc ls st0) :=
  z_callV cx vm_X7_worstCase (c_X7_worstCase l E b tl pd qt qr tbu wst asw pN tN aN hd dr pl rm ps wx pp tp ap sg uh ud up ur us ux G v z hv hz hwo) (z_rec cx.2 (hW.at 0 rfl) rfl) hW zl ⟨rfl, rfl⟩ zR rfl zs zt z8 zd zf kk
theorem vm_X7_fewest : zVm yX7_fewest cX7_fewest 7 (some FieldType.int) 2 := ⟨m_co_X7_fewest, m_in_RX7, ⟨m_im_X7_fewest, m_se_X7_X7_fewest⟩, by decide +kernel, by decide +kernel, by decide +kernel⟩
set_option maxHeartbeats 1000000 in
set_option maxRecDepth 100000 in
theorem c_X7_fewest (l : Launch) (E : zE) (b : Nat → Nat) (tl : va_W) (pd : Bool) (qt : Nat → Option Nat) (qr : Nat → Option Nat) (tbu : Nat → Int32) (wst : Nat → Int32) (asw : Nat → Int32) (pN : Int32) (tN : Int32) (aN : Int32) (wx : Nat → Int32) (pp : Nat → Option Nat) (tp : Nat → Option Nat) (ap : Nat → Option Nat) (sg : Nat → Int32) (uh : Int32) (ud : Int32) (up : Int32) (ur : Int32) (us : Int32) (ux : Nat → Int32) (G : zG) (d st : Int32) (r : Nat → Int32) (kp so sz el pr ts : Nat → Int32) (hG : CG E.2.1 G r pN tN aN wx pp tp ap) (hSh : ShG E.2.1 G qt qr kp so sz el pr ts) : Met l yX7_fewest (.code yX7_fewest cX7_fewest 7 (some FieldType.int) :: AllW) (rm0' 7 168) (zP E (fun H => WW E (wK b E.2.1 tl pd qt qr tbu wst asw pN tN aN (hdC (r 3)) (r 4) (r 5) (r 6) (r 7) wx pp tp ap sg uh ud up ur us ux) G H) [.ref (b 0), .int d, .int st]) (zQ (fun (_ : Heap) (v : Option Value) (H1 : Heap) => (∃ (tb2 : Nat → Int32) (ws2 : Nat → Int32) (sg2 : Nat → Int32), v = some (.int (fewestP r kp so sz el d st)) ∧ WW E (wK b E.2.1 tl pd qt qr tb2 ws2 asw pN tN aN (hdC (r 3)) (r 4) (r 5) (r 6) (r 7) wx pp tp ap sg2 uh ud up ur us ux) G H1)) (bF b)) 0 0 (bF b) := by
  refine z_body (own := RX7) (by decide) rfl rfl ?_
  intro p e s m args below meth c ls cx hr hlk hnm hW hl
  have hx := cx.x
  have hb := cx.b
  have hl : lv_has ls 7 [(0, .ref (b 0)), (1, .int d), (2, .int st)] := hl
  have hFb : ∀ k, (bF b) (b k) := fun k => bF_in b k
  have hS : va_S (bF b) s.heap s.heap [] := va_S.rf
  have hG0 := hG
  obtain ⟨hI, hpN, htN, haN, hPc, hTh, hAk, hwx⟩ := hG
  have hC := hI.1
  have hIS := hI.2.1
  have hP := hI.2.2.1
  have hT := hI.2.2.2.1
  have hP10 := (Inv.n0 hC).2
  have hT7 := (Inv.n1 hC).2
  have hA24 := (Inv.n2 hC).2
  have e0 := (Inv.n0 hC).1
  have e1 := (Inv.n1 hC).1
  have e2 := (Inv.n2 hC).1
  obtain ⟨u, hu, hfu, -⟩ := ftA_bits r hT7
  have hu7 : u < 128 := Nat.lt_of_lt_of_le hu (pow_lt hT7)
  refine lv_aload_n (pc := 0) hx hb dX7_fewest_0 rfl (lv_at hl 0 rfl) ?_
  refine lv_iload_n (pc := 1) hx hb dX7_fewest_1 rfl (lv_at hl 1 rfl) ?_
  refine lv_iload_n (pc := 2) hx hb dX7_fewest_2 rfl (lv_at hl 2 rfl) ?_
  refine k_X7_isStrong (pc := 3) (x := st) cx  m_ml_X7_197 ⟨Nat.le_of_ble_eq_true rfl, Nat.le_of_ble_eq_true rfl⟩ hl.1 rfl (by simp [Value.category]) dX7_fewest_3 ⟨Nat.le_refl _, Nat.le_refl _⟩ ?_
  refine lv_bipush (pc := 6) (v := 6) hx hb dX7_fewest_6 (by decide) ?_
  refine k_X7_tonesRefusal (pc := 8) (d := d) (ob := inL st 1 99) (mo := 6) cx hW (by first | assumption | omega) (by first | assumption | omega) m_ml_X7_236 ⟨Nat.le_of_ble_eq_true rfl, Nat.le_of_ble_eq_true rfl⟩ hl.1 rfl (by simp [Value.category]) dX7_fewest_8 ⟨Nat.le_refl _, Nat.le_refl _⟩ ?_
  refine z_tope (y := wtC kp so sz el (inL st 1 99) d 6) rfl ?_
  refine lv_istore_n (pc := 11) (lv' := [(3, .int (wtC kp so sz el (inL st 1 99) d 6)), (0, .ref (b 0)), (1, .int d), (2, .int st)]) hx hb dX7_fewest_11 rfl hl (by decide) rfl (fun ls hl => ?_)
  refine lv_iload_n (pc := 12) hx hb dX7_fewest_12 rfl (lv_at hl 0 rfl) ?_
  refine lv_if_eq (pc := 13) (tgt := 18) hx hb dX7_fewest_13 (by decide) (fun c_1 => ?_) (fun c_1 => ?_)
  · skip
    have htc := wtC_0 c_1
    have hwt := htc.2
    have hd7 := (wrR_0 (wtT_0 hwt).1).1
    obtain ⟨n, hn, rfl, hk1, ht1, q1, w1, x1, hr1, hq1, hw1, hx1⟩ := row_get hSh (wtT_0 hwt).1
    have hN1 := iN_nI (n := n) (by omega)
    have hz1 := sz_nat hSh.1 hn
    have hzl1 := hz1.2
    have htg := wtT_get (m := 6) (n := n) (by decide) hwt rfl hn hz1
    have hzM := htg.1
    refine lv_aload_n (pc := 18) hx hb dX7_fewest_18 rfl (lv_at hl 1 rfl) ?_
    refine z_get (pc := 19) cx (hW.at 0 rfl) (C := RX7) (T := TX7) (N := 11) rfl i_X7 0 rfl m_fl_X7_10 rfl dX7_fewest_19 ?_
    refine k_X1_fitting (pc := 22)  cx hW (by first | assumption | omega) (by first | assumption | omega) (by first | assumption | omega) (by first | assumption | omega) m_ml_X7_213 ⟨Nat.le_of_ble_eq_true rfl, Nat.le_of_ble_eq_true rfl⟩ hl.1 rfl (by simp [Value.category]) dX7_fewest_22 ⟨Nat.le_refl _, Nat.le_refl _⟩ ?_
    refine lv_istore (pc := 25) (lv' := [(4, .int (ftA r)), (3, .int (wtC kp so sz el (inL st 1 99) (nI n) 6)), (0, .ref (b 0)), (1, .int (nI n)), (2, .int st)]) hx hb dX7_fewest_25 hl (by decide) rfl (fun ls hl => ?_)
    refine lv_iload (pc := 27) hx hb dX7_fewest_27 (lv_at hl 0 rfl) ?_
    refine lv_iconst (pc := 29) (v := 1) hx hb dX7_fewest_29 (by decide) ?_
    refine lv_aload_n (pc := 30) hx hb dX7_fewest_30 rfl (lv_at hl 2 rfl) ?_
    refine z_get (pc := 31) cx (hW.at 0 rfl) (C := RX7) (T := TX7) (N := 11) rfl i_X7 9 rfl m_fl_X7_52 rfl dX7_fewest_31 ?_
    refine z_alen (pc := 34) cx 0 (hW.at 4 rfl) rfl rfl dX7_fewest_34 ?_
    refine lv_iconst (pc := 35) (v := 1) hx hb dX7_fewest_35 (by decide) ?_
    refine lv_isub (pc := 36) hx hb dX7_fewest_36 ?_
    refine k_X7_isWithin (pc := 37) (x := ftA r) (y := 1) (z := 128 - 1) cx  m_ml_X7_159 ⟨Nat.le_of_ble_eq_true rfl, Nat.le_of_ble_eq_true rfl⟩ hl.1 rfl (by simp [Value.category]) dX7_fewest_37 ⟨Nat.le_refl _, Nat.le_refl _⟩ ?_
    refine z_ifne (pc := 40) (tgt := 46) hx hb dX7_fewest_40 (by decide) (fun c_2 => ?_) (fun c_2 => ?_)
    · skip
      have hf0 := (ft_in hT7 (by decide)).mp c_2
      refine lv_aload_n (pc := 46) hx hb dX7_fewest_46 rfl (lv_at hl 2 rfl) ?_
      refine lv_aload_n (pc := 47) hx hb dX7_fewest_47 rfl (lv_at hl 2 rfl) ?_
      refine z_get (pc := 48) cx (hW.at 0 rfl) (C := RX7) (T := TX7) (N := 11) rfl i_X7 7 rfl m_fl_X7_44 rfl dX7_fewest_48 ?_
      refine lv_iload_n (pc := 51) hx hb dX7_fewest_51 rfl (lv_at hl 3 rfl) ?_
      refine z_aald (pc := 52) (f := qr) (j := n) cx 4 rfl (hW.at 2 rfl) rfl (by omega) (by decide) dX7_fewest_52 ?_
      refine z_rfS hr1 ?_
      refine lv_iload_n (pc := 53) hx hb dX7_fewest_53 rfl (lv_at hl 4 rfl) ?_
      refine k_X7_listen (pc := 54) (q := q1) (st := st) (r := r) (w := w1) (z := iN (sz n)) (v0 := so n) (x := x1) cx hW hS (fun _ h => h) hG0 (by omega) hq1 hw1 (fun j hj => by rw [hx1 j hj]; exact htg.2 j hj) m_ml_X7_240 ⟨Nat.le_of_ble_eq_true rfl, Nat.le_of_ble_eq_true rfl⟩ hl.1 rfl (by simp [Value.category]) dX7_fewest_54 ⟨Nat.le_refl _, Nat.le_refl _⟩ (fun tb2_54 sg2_54 H locs hfl_54 hW hS => ?_)
      have hW : WW E (wK b E.2.1 tl pd qt qr tb2_54 wst asw pN tN aN (hdC (r 3)) (r 4) (r 5) (r 6) (r 7) wx pp tp ap sg2_54 uh ud up ur us ux) G H := hW
      refine lv_istore (pc := 57) (lv' := [(5, .int (nI (iN (sz n)))), (4, .int (ftA r)), (3, .int (wtC kp so sz el (inL st 1 99) (nI n) 6)), (0, .ref (b 0)), (1, .int (nI n)), (2, .int st)]) hx hb dX7_fewest_57 hl (by decide) rfl (fun ls hl => ?_)
      refine lv_iconst (pc := 59) (v := 0) hx hb dX7_fewest_59 (by decide) ?_
      refine lv_istore (pc := 60) (lv' := [(6, .int 0), (5, .int (nI (iN (sz n)))), (4, .int (ftA r)), (3, .int (wtC kp so sz el (inL st 1 99) (nI n) 6)), (0, .ref (b 0)), (1, .int (nI n)), (2, .int st)]) hx hb dX7_fewest_60 hl (by decide) rfl (fun ls hl => ?_)
      have loop_62 : ∀ (k_62 : Nat) (i : Nat) (x6 : Int32), (u + 1 - i) < k_62 → (i ≤ u + 1) → x6 = nI i → ∀ (ws3 : Nat → Int32) (H : Heap) (locs : List Loc), (∀ w, w < i → u &&& w = w → ws3 w = wo tb2_54 (iN (sz n)) w) → WW E (wK b E.2.1 tl pd qt qr tb2_54 ws3 asw pN tN aN (hdC (r 3)) (r 4) (r 5) (r 6) (r 7) wx pp tp ap sg2_54 uh ud up ur us ux) G H → va_S (bF b) s.heap H locs → ∀ (ls : Array Slot), lv_has ls 7 [(6, .int x6), (5, .int (nI (iN (sz n)))), (4, .int (ftA r)), (3, .int (wtC kp so sz el (inL st 1 99) (nI n) 6)), (0, .ref (b 0)), (1, .int (nI n)), (2, .int st)] → W p l e (rm0' (7) (168)) s m args below meth c H locs 0 0 (MQ below (zQ (fun (_ : Heap) (v : Option Value) (H1 : Heap) => (∃ (tb2 : Nat → Int32) (ws2 : Nat → Int32) (sg2 : Nat → Int32), v = some (.int (fewestP r kp so sz el (nI n) st)) ∧ WW E (wK b E.2.1 tl pd qt qr tb2 ws2 asw pN tN aN (hdC (r 3)) (r 4) (r 5) (r 6) (r 7) wx pp tp ap sg2 uh ud up ur us ux) G H1)) (bF b)) args s 0 0 (bF b)) (F0 m 62 ls []) := by
        intro k_62
        induction k_62 with
        | zero =>
          intro i x6 hm
          exact absurd hm (Nat.not_lt_zero _)
        | succ k_62 ih_62 =>
          intro i x6 hm_62 hi e_x6 ws3 H locs hws hW hS ls hl
          subst e_x6
          refine lv_iload (pc := 62) hx hb dX7_fewest_62 (lv_at hl 0 rfl) ?_
          refine lv_iload (pc := 64) hx hb dX7_fewest_64 (lv_at hl 2 rfl) ?_
          refine z_tope (y := nI u) hfu ?_
          refine lv_icmp_gt (pc := 66) (tgt := 104) hx hb dX7_fewest_66 (by decide) (fun c_3 => ?_) (fun c_3 => ?_)
          · skip
            obtain rfl : i = u + 1 := by have := gtn (a := u) (b := i) rfl rfl (by omega) (by omega) c_3; omega
            refine lv_aload_n (pc := 104) hx hb dX7_fewest_104 rfl (lv_at hl 4 rfl) ?_
            refine z_get (pc := 105) cx (hW.at 0 rfl) (C := RX7) (T := TX7) (N := 11) rfl i_X7 9 rfl m_fl_X7_52 rfl dX7_fewest_105 ?_
            refine lv_iload (pc := 108) hx hb dX7_fewest_108 (lv_at hl 2 rfl) ?_
            refine z_tope (y := nI u) hfu ?_
            refine z_iald (pc := 110) (f := ws3) (j := u) cx (hW.at 4 rfl) rfl (by omega) (by decide) dX7_fewest_110 ?_
            refine z_tope (y := wo tb2_54 (iN (sz n)) u) (hws u (by omega) (Nat.and_self u)) ?_
            exact z_wiret cx hr hlk dX7_fewest_111 hS ⟨_, _, _, (sI (fe_ret hd7 htc.1 hwt hf0 hN1 hfu (by omega) (fun j hj => (hfl_54 j hj).trans (by rw [hx1 j hj])))), hW⟩
          · skip
            have hle := ngt (a := u) (b := i) rfl rfl (by omega) (by omega) c_3
            refine lv_aload_n (pc := 69) hx hb dX7_fewest_69 rfl (lv_at hl 4 rfl) ?_
            refine z_get (pc := 70) cx (hW.at 0 rfl) (C := RX7) (T := TX7) (N := 11) rfl i_X7 9 rfl m_fl_X7_52 rfl dX7_fewest_70 ?_
            refine lv_iload (pc := 73) hx hb dX7_fewest_73 (lv_at hl 0 rfl) ?_
            refine lv_iload (pc := 75) hx hb dX7_fewest_75 (lv_at hl 0 rfl) ?_
            refine lv_iload (pc := 77) hx hb dX7_fewest_77 (lv_at hl 2 rfl) ?_
            refine lv_iconst (pc := 79) (v := (-1)) hx hb dX7_fewest_79 (by decide) ?_
            refine lv_ixor (pc := 80) hx hb dX7_fewest_80 ?_
            refine lv_iand (pc := 81) hx hb dX7_fewest_81 ?_
            refine lv_if_ne (pc := 82) (tgt := 96) hx hb dX7_fewest_82 (by decide) (fun c_4 => ?_) (fun c_4 => ?_)
            · skip
              have hns : ¬ i &&& u = i := fun q => c_4 (by rw [hfu]; exact (sub_bits (by omega) (by omega)).mpr q)
              refine lv_iconst (pc := 96) (v := 0) hx hb dX7_fewest_96 (by decide) ?_
              refine z_iast (pc := 97) (f := ws3) (j := i) cx hW hS 4 rfl (hFb 4) rfl (by omega) (by decide) dX7_fewest_97 (fun H locs hW hS => ?_)
              have hW : WW E (wK b E.2.1 tl pd qt qr tb2_54 (upd ws3 i 0) asw pN tN aN (hdC (r 3)) (r 4) (r 5) (r 6) (r 7) wx pp tp ap sg2_54 uh ud up ur us ux) G H := hW
              refine lv_iinc (pc := 98) (v := nI (i + 1)) (lv' := [(6, .int (nI (i + 1))), (5, .int (nI (iN (sz n)))), (4, .int (ftA r)), (3, .int (wtC kp so sz el (inL st 1 99) (nI n) 6)), (0, .ref (b 0)), (1, .int (nI n)), (2, .int st)]) hx hb dX7_fewest_98 hl (k := 0) rfl (nI_1 _) (by decide) rfl (fun ls hl => ?_)
              refine lv_goto (pc := 101) (tgt := 62) hx hb dX7_fewest_101 (by decide) ?_
              exact ih_62 (i + 1) (nI (i + 1)) (by omega) (by omega) (by first | rfl | (simp [hwt, hd7, hN1, hk1, hf0, hfl_54, c_4]; done)) _ _ _ (by first | exact fe_up hws rfl | exact fe_no hws hns) (hW) hS ls (lv_sub hl [0, 1, 2, 3, 4, 5, 6] rfl)
            · skip
              have hsu : i &&& u = i := (sub_bits (by omega) (by omega)).mp (by rw [← hfu]; exact c_4)
              refine lv_aload_n (pc := 85) hx hb dX7_fewest_85 rfl (lv_at hl 4 rfl) ?_
              refine lv_iload (pc := 86) hx hb dX7_fewest_86 (lv_at hl 0 rfl) ?_
              refine lv_iload (pc := 88) hx hb dX7_fewest_88 (lv_at hl 1 rfl) ?_
              refine k_X7_worstCase (pc := 90) (v := i) (z := iN (sz n)) cx hW (by omega) (by omega) (fun w h1 h2 => hws w h1 (fe_sub h2 hsu)) m_ml_X7_244 ⟨Nat.le_of_ble_eq_true rfl, Nat.le_of_ble_eq_true rfl⟩ hl.1 rfl (by simp [Value.category]) dX7_fewest_90 ⟨Nat.le_refl _, Nat.le_refl _⟩ ?_
              refine lv_goto (pc := 93) (tgt := 97) hx hb dX7_fewest_93 (by decide) ?_
              refine z_iast (pc := 97) (f := ws3) (j := i) cx hW hS 4 rfl (hFb 4) rfl (by omega) (by decide) dX7_fewest_97 (fun H locs hW hS => ?_)
              have hW : WW E (wK b E.2.1 tl pd qt qr tb2_54 (upd ws3 i (wo tb2_54 (iN (sz n)) i)) asw pN tN aN (hdC (r 3)) (r 4) (r 5) (r 6) (r 7) wx pp tp ap sg2_54 uh ud up ur us ux) G H := hW
              refine lv_iinc (pc := 98) (v := nI (i + 1)) (lv' := [(6, .int (nI (i + 1))), (5, .int (nI (iN (sz n)))), (4, .int (ftA r)), (3, .int (wtC kp so sz el (inL st 1 99) (nI n) 6)), (0, .ref (b 0)), (1, .int (nI n)), (2, .int st)]) hx hb dX7_fewest_98 hl (k := 0) rfl (nI_1 _) (by decide) rfl (fun ls hl => ?_)
              refine lv_goto (pc := 101) (tgt := 62) hx hb dX7_fewest_101 (by decide) ?_
              exact ih_62 (i + 1) (nI (i + 1)) (by omega) (by omega) (by first | rfl | (simp [hwt, hd7, hN1, hk1, hf0, hfl_54, c_4]; done)) _ _ _ (by first | exact fe_up hws rfl | exact fe_no hws hns) (hW) hS ls (lv_sub hl [0, 1, 2, 3, 4, 5, 6] rfl)
      exact loop_62 ((u + 1 - 0) + 1) 0 0 (Nat.lt_succ_self _) (by omega) (by first | rfl | (simp [hwt, hd7, hN1, hk1, hf0, hfl_54]; done)) wst _ _ (fun j h => absurd h (Nat.not_lt_zero _)) (hW) hS ls (lv_sub hl [0, 1, 2, 3, 4, 5, 6] rfl)
    · skip
      have hf0 : ftA r = 0 := Decidable.of_not_not (fun q => absurd ((ft_in hT7 (x := 128 - 1) (by decide)).mpr q) (by rw [c_2]; decide))
      refine lv_bipush (pc := 43) (v := (-4)) hx hb dX7_fewest_43 (by decide) ?_
      exact z_wiret cx hr hlk dX7_fewest_45 hS ⟨_, _, _, (sI (by simp [fewestP, htc.1, hwt, hd7, hN1, hk1, hf0])), hW⟩
  · skip
    have hw0 := c_1
    refine lv_iload_n (pc := 16) hx hb dX7_fewest_16 rfl (lv_at hl 0 rfl) ?_
    exact z_wiret cx hr hlk dX7_fewest_17 hS ⟨_, _, _, (sI (by unfold fewestP; exact wtC_ne (by simp []) hw0)), hW⟩
theorem k_X7_fewest {p : Program} {l : Launch} {e : Env} {R : Room} {s : State} {m : MethodId} {args : Array Value} {below : List Frame} {meth : Method} {c : Code} {H H0 : Heap} {locs : List Loc} {cells slots : Nat} {Q : State → Prop} {cc : ByteArray} {pc index : Nat} {ls : Array Slot} {rest st0 : List Value} {E : zE} {own : String} {nL : Nat} {F : Nat → Prop} {b : Nat → Nat} {tl : va_W} {pd : Bool} {qt : Nat → Option Nat} {qr : Nat → Option Nat} {tbu : Nat → Int32} {wst : Nat → Int32} {asw : Nat → Int32} {pN : Int32} {tN : Int32} {aN : Int32} {wx : Nat → Int32} {pp : Nat → Option Nat} {tp : Nat → Option Nat} {ap : Nat → Option Nat} {sg : Nat → Int32} {uh : Int32} {ud : Int32} {up : Int32} {ur : Int32} {us : Int32} {ux : Nat → Int32} {G : zG} {d st : Int32} {r : Nat → Int32} {kp so sz el pr ts : Nat → Int32} (cx : Cx E p s args m c own cc nL) (hW : WW E (wK b E.2.1 tl pd qt qr tbu wst asw pN tN aN (hdC (r 3)) (r 4) (r 5) (r 6) (r 7) wx pp tp ap sg uh ud up ur us ux) G H) (hS : va_S F H0 H locs) (zF : ∀ q, (bF b) q → F q) (hG : CG E.2.1 G r pN tN aN wx pp tp ap) (hSh : ShG E.2.1 G qt qr kp so sz el pr ts) (zl : Cond.methodLink own index yX7_fewest ∈ AllW) (zR : 7 + 1 ≤ R.frames ∧ 8 + (7 + 11) + 168 ≤ R.locals) (zs : ls.size = nL) (zt : st0 = ([.int d, .int st] : List Value).reverse ++ .ref (b 0) :: rest) (z8 : (rest.map fun v => v.category).sum ≤ 8) (zd : decode cc pc = .ok (.invokevirtual index, 3)) (zf : cells ≤ R.cells ∧ slots ≤ R.slots) (kk0 : ∀ (tb2 : Nat → Int32) (ws2 : Nat → Int32) (sg2 : Nat → Int32) (H1 : Heap) (locs1 : List Loc), WW E (wK b E.2.1 tl pd qt qr tb2 ws2 asw pN tN aN (hdC (r 3)) (r 4) (r 5) (r 6) (r 7) wx pp tp ap sg2 uh ud up ur us ux) G H1 → va_S F H0 H1 locs1 → W p l e R s m args below meth c H1 locs1 cells slots Q (F0 m (pc + 3) ls (.int (fewestP r kp so sz el d st) :: rest))) : W p l e R s m args below meth c H locs cells slots Q (F0 m pc ls st0) := by
  refine z_callVw cx vm_X7_fewest (c_X7_fewest l E b tl pd qt qr tbu wst asw pN tN aN wx pp tp ap sg uh ud up ur us ux G d st r kp so sz el pr ts hG hSh) (z_rec cx.2 (hW.at 0 rfl) rfl) hW hS zF zl ⟨rfl, rfl⟩ zR rfl zs zt z8 zd zf (fun v H1 locs1 hq hS1 _ => ?_)
  rcases hq with ⟨tb2, ws2, sg2, rfl, hW1⟩
  · exact kk0 tb2 ws2 sg2 H1 locs1  hW1 hS1
theorem vm_X7_rattles : zVm yX7_rattles cX7_rattles 10 (some FieldType.int) 3 := ⟨m_co_X7_rattles, m_in_RX7, ⟨m_im_X7_rattles, m_se_X7_X7_rattles⟩, by decide +kernel, by decide +kernel, by decide +kernel⟩
set_option maxHeartbeats 1000000 in
set_option maxRecDepth 100000 in
theorem c_X7_rattles (l : Launch) (E : zE) (b : Nat → Nat) (tl : va_W) (pd : Bool) (qt : Nat → Option Nat) (qr : Nat → Option Nat) (tbu : Nat → Int32) (wst : Nat → Int32) (asw : Nat → Int32) (pN : Int32) (tN : Int32) (aN : Int32) (wx : Nat → Int32) (pp : Nat → Option Nat) (tp : Nat → Option Nat) (ap : Nat → Option Nat) (sg : Nat → Int32) (uh : Int32) (ud : Int32) (up : Int32) (ur : Int32) (us : Int32) (ux : Nat → Int32) (G : zG) (d st w : Int32) (r : Nat → Int32) (kp so sz el pr ts : Nat → Int32) (hG : CG E.2.1 G r pN tN aN wx pp tp ap) (hSh : ShG E.2.1 G qt qr kp so sz el pr ts) : Met l yX7_rattles (.code yX7_rattles cX7_rattles 10 (some FieldType.int) :: AllW) (rm0' 7 168) (zP E (fun H => WW E (wK b E.2.1 tl pd qt qr tbu wst asw pN tN aN (hdC (r 3)) (r 4) (r 5) (r 6) (r 7) wx pp tp ap sg uh ud up ur us ux) G H) [.ref (b 0), .int d, .int st, .int w]) (zQ (fun (_ : Heap) (v : Option Value) (H1 : Heap) => (∃ (tb2 : Nat → Int32) (sg2 : Nat → Int32), v = some (.int (ratP r kp so sz el d st w)) ∧ WW E (wK b E.2.1 tl pd qt qr tb2 wst asw pN tN aN (hdC (r 3)) (r 4) (r 5) (r 6) (r 7) wx pp tp ap sg2 uh ud up ur us ux) G H1)) (bF b)) 0 0 (bF b) := by
  refine z_body (own := RX7) (by decide) rfl rfl ?_
  intro p e s m args below meth c ls cx hr hlk hnm hW hl
  have hx := cx.x
  have hb := cx.b
  have hl : lv_has ls 10 [(0, .ref (b 0)), (1, .int d), (2, .int st), (3, .int w)] := hl
  have hFb : ∀ k, (bF b) (b k) := fun k => bF_in b k
  have hS : va_S (bF b) s.heap s.heap [] := va_S.rf
  have hG0 := hG
  obtain ⟨hI, hpN, htN, haN, hPc, hTh, hAk, hwx⟩ := hG
  have hC := hI.1
  have hIS := hI.2.1
  have hP := hI.2.2.1
  have hT := hI.2.2.2.1
  have hP10 := (Inv.n0 hC).2
  have hT7 := (Inv.n1 hC).2
  have hA24 := (Inv.n2 hC).2
  have e0 := (Inv.n0 hC).1
  have e1 := (Inv.n1 hC).1
  have e2 := (Inv.n2 hC).1
  refine lv_aload_n (pc := 0) hx hb dX7_rattles_0 rfl (lv_at hl 0 rfl) ?_
  refine lv_iload_n (pc := 1) hx hb dX7_rattles_1 rfl (lv_at hl 1 rfl) ?_
  refine lv_iload_n (pc := 2) hx hb dX7_rattles_2 rfl (lv_at hl 2 rfl) ?_
  refine k_X7_isStrong (pc := 3) (x := st) cx  m_ml_X7_197 ⟨Nat.le_of_ble_eq_true rfl, Nat.le_of_ble_eq_true rfl⟩ hl.1 rfl (by simp [Value.category]) dX7_rattles_3 ⟨Nat.le_refl _, Nat.le_refl _⟩ ?_
  refine z_ifeq (pc := 6) (tgt := 22) hx hb dX7_rattles_6 (by decide) (fun c_1 => ?_) (fun c_1 => ?_)
  · skip
    refine lv_iconst (pc := 22) (v := 0) hx hb dX7_rattles_22 (by decide) ?_
    refine lv_bipush (pc := 23) (v := 10) hx hb dX7_rattles_23 (by decide) ?_
    refine k_X7_tonesRefusal (pc := 25) (d := d) (ob := false) (mo := 10) cx hW (by first | assumption | omega) (by first | assumption | omega) m_ml_X7_236 ⟨Nat.le_of_ble_eq_true rfl, Nat.le_of_ble_eq_true rfl⟩ hl.1 rfl (by simp [Value.category]) dX7_rattles_25 ⟨Nat.le_refl _, Nat.le_refl _⟩ ?_
    refine z_tope (y := wtC kp so sz el false d 10) rfl ?_
    refine lv_istore (pc := 28) (lv' := [(4, .int (wtC kp so sz el false d 10)), (0, .ref (b 0)), (1, .int d), (2, .int st), (3, .int w)]) hx hb dX7_rattles_28 hl (by decide) rfl (fun ls hl => ?_)
    refine lv_iload (pc := 30) hx hb dX7_rattles_30 (lv_at hl 0 rfl) ?_
    refine lv_if_eq (pc := 32) (tgt := 38) hx hb dX7_rattles_32 (by decide) (fun c_2 => ?_) (fun c_2 => ?_)
    · skip
      exact absurd (wtC_0 c_2).1 (by decide)
    · skip
      have hw0 := c_2
      refine lv_iload (pc := 35) hx hb dX7_rattles_35 (lv_at hl 0 rfl) ?_
      exact z_wiret cx hr hlk dX7_rattles_37 hS ⟨_, _, (sI (by unfold ratP; exact wtC_ne (by simp [c_1]) hw0)), hW⟩
  · skip
    refine lv_iload_n (pc := 9) hx hb dX7_rattles_9 rfl (lv_at hl 3 rfl) ?_
    refine lv_iconst (pc := 10) (v := 0) hx hb dX7_rattles_10 (by decide) ?_
    refine lv_iconst (pc := 11) (v := 1) hx hb dX7_rattles_11 (by decide) ?_
    refine k_X7_isWithin (pc := 12) (x := w) (y := 0) (z := 1) cx  m_ml_X7_159 ⟨Nat.le_of_ble_eq_true rfl, Nat.le_of_ble_eq_true rfl⟩ hl.1 rfl (by simp [Value.category]) dX7_rattles_12 ⟨Nat.le_refl _, Nat.le_refl _⟩ ?_
    refine z_ifeq (pc := 15) (tgt := 22) hx hb dX7_rattles_15 (by decide) (fun c_3 => ?_) (fun c_3 => ?_)
    · skip
      refine lv_iconst (pc := 22) (v := 0) hx hb dX7_rattles_22 (by decide) ?_
      refine lv_bipush (pc := 23) (v := 10) hx hb dX7_rattles_23 (by decide) ?_
      refine k_X7_tonesRefusal (pc := 25) (d := d) (ob := false) (mo := 10) cx hW (by first | assumption | omega) (by first | assumption | omega) m_ml_X7_236 ⟨Nat.le_of_ble_eq_true rfl, Nat.le_of_ble_eq_true rfl⟩ hl.1 rfl (by simp [Value.category]) dX7_rattles_25 ⟨Nat.le_refl _, Nat.le_refl _⟩ ?_
      refine z_tope (y := wtC kp so sz el false d 10) rfl ?_
      refine lv_istore (pc := 28) (lv' := [(4, .int (wtC kp so sz el false d 10)), (0, .ref (b 0)), (1, .int d), (2, .int st), (3, .int w)]) hx hb dX7_rattles_28 hl (by decide) rfl (fun ls hl => ?_)
      refine lv_iload (pc := 30) hx hb dX7_rattles_30 (lv_at hl 0 rfl) ?_
      refine lv_if_eq (pc := 32) (tgt := 38) hx hb dX7_rattles_32 (by decide) (fun c_4 => ?_) (fun c_4 => ?_)
      · skip
        exact absurd (wtC_0 c_4).1 (by decide)
      · skip
        have hw0 := c_4
        refine lv_iload (pc := 35) hx hb dX7_rattles_35 (lv_at hl 0 rfl) ?_
        exact z_wiret cx hr hlk dX7_rattles_37 hS ⟨_, _, (sI (by unfold ratP; exact wtC_ne (by simp [c_1, c_3]) hw0)), hW⟩
    · skip
      refine lv_iconst (pc := 18) (v := 1) hx hb dX7_rattles_18 (by decide) ?_
      refine lv_goto (pc := 19) (tgt := 23) hx hb dX7_rattles_19 (by decide) ?_
      refine lv_bipush (pc := 23) (v := 10) hx hb dX7_rattles_23 (by decide) ?_
      refine k_X7_tonesRefusal (pc := 25) (d := d) (ob := true) (mo := 10) cx hW (by first | assumption | omega) (by first | assumption | omega) m_ml_X7_236 ⟨Nat.le_of_ble_eq_true rfl, Nat.le_of_ble_eq_true rfl⟩ hl.1 rfl (by simp [Value.category]) dX7_rattles_25 ⟨Nat.le_refl _, Nat.le_refl _⟩ ?_
      refine z_tope (y := wtC kp so sz el true d 10) rfl ?_
      refine lv_istore (pc := 28) (lv' := [(4, .int (wtC kp so sz el true d 10)), (0, .ref (b 0)), (1, .int d), (2, .int st), (3, .int w)]) hx hb dX7_rattles_28 hl (by decide) rfl (fun ls hl => ?_)
      refine lv_iload (pc := 30) hx hb dX7_rattles_30 (lv_at hl 0 rfl) ?_
      refine lv_if_eq (pc := 32) (tgt := 38) hx hb dX7_rattles_32 (by decide) (fun c_5 => ?_) (fun c_5 => ?_)
      · skip
        have htc := wtC_0 c_5
        have hwt := htc.2
        have hd7 := (wrR_0 (wtT_0 hwt).1).1
        obtain ⟨n, hn, rfl, hk1, ht1, q1, w1, x1, hr1, hq1, hw1, hx1⟩ := row_get hSh (wtT_0 hwt).1
        have hN1 := iN_nI (n := n) (by omega)
        have hz1 := sz_nat hSh.1 hn
        have hzl1 := hz1.2
        have htg := wtT_get (m := 10) (n := n) (by decide) hwt rfl hn hz1
        have hzM := htg.1
        refine lv_aload_n (pc := 38) hx hb dX7_rattles_38 rfl (lv_at hl 1 rfl) ?_
        refine lv_aload_n (pc := 39) hx hb dX7_rattles_39 rfl (lv_at hl 1 rfl) ?_
        refine z_get (pc := 40) cx (hW.at 0 rfl) (C := RX7) (T := TX7) (N := 11) rfl i_X7 7 rfl m_fl_X7_44 rfl dX7_rattles_40 ?_
        refine lv_iload_n (pc := 43) hx hb dX7_rattles_43 rfl (lv_at hl 2 rfl) ?_
        refine z_aald (pc := 44) (f := qr) (j := n) cx 4 rfl (hW.at 2 rfl) rfl (by omega) (by decide) dX7_rattles_44 ?_
        refine z_rfS hr1 ?_
        refine lv_iload_n (pc := 45) hx hb dX7_rattles_45 rfl (lv_at hl 3 rfl) ?_
        refine k_X7_listen (pc := 46) (q := q1) (st := st) (r := r) (w := w1) (z := iN (sz n)) (v0 := so n) (x := x1) cx hW hS (fun _ h => h) hG0 hzM hq1 hw1 (fun j hj => by rw [hx1 j hj]; exact htg.2 j hj) m_ml_X7_240 ⟨Nat.le_of_ble_eq_true rfl, Nat.le_of_ble_eq_true rfl⟩ hl.1 rfl (by simp [Value.category]) dX7_rattles_46 ⟨Nat.le_refl _, Nat.le_refl _⟩ (fun tb2_46 sg2_46 H locs hfl_46 hW hS => ?_)
        have hW : WW E (wK b E.2.1 tl pd qt qr tb2_46 wst asw pN tN aN (hdC (r 3)) (r 4) (r 5) (r 6) (r 7) wx pp tp ap sg2_46 uh ud up ur us ux) G H := hW
        have hz10 := hzM
        have hP2 : 2 ^ iN (sz n) ≤ 2 ^ 10 := pow_lt hzM
        have hP1 : 1 ≤ 2 ^ iN (sz n) := Nat.two_pow_pos _
        refine lv_istore (pc := 49) (lv' := [(5, .int (nI (iN (sz n)))), (4, .int (wtC kp so sz el true (nI n) 10)), (0, .ref (b 0)), (1, .int (nI n)), (2, .int st), (3, .int w)]) hx hb dX7_rattles_49 hl (by decide) rfl (fun ls hl => ?_)
        refine lv_iconst (pc := 51) (v := 1) hx hb dX7_rattles_51 (by decide) ?_
        refine lv_iload (pc := 52) hx hb dX7_rattles_52 (lv_at hl 0 rfl) ?_
        refine lv_ishl (pc := 54) hx hb dX7_rattles_54 ?_
        refine lv_iconst (pc := 55) (v := 1) hx hb dX7_rattles_55 (by decide) ?_
        refine lv_isub (pc := 56) hx hb dX7_rattles_56 ?_
        refine z_tope (y := nI (2 ^ iN (sz n) - 1)) (ra_all hzM) ?_
        refine lv_istore (pc := 57) (lv' := [(6, .int (nI (2 ^ iN (sz n) - 1))), (5, .int (nI (iN (sz n)))), (4, .int (wtC kp so sz el true (nI n) 10)), (0, .ref (b 0)), (1, .int (nI n)), (2, .int st), (3, .int w)]) hx hb dX7_rattles_57 hl (by decide) rfl (fun ls hl => ?_)
        refine lv_aload_n (pc := 59) hx hb dX7_rattles_59 rfl (lv_at hl 3 rfl) ?_
        refine lv_iload (pc := 60) hx hb dX7_rattles_60 (lv_at hl 0 rfl) ?_
        refine k_X7_buzzingAtSome (pc := 62) (m2 := 2 ^ iN (sz n) - 1) cx hW (by omega) m_ml_X7_313 ⟨Nat.le_of_ble_eq_true rfl, Nat.le_of_ble_eq_true rfl⟩ hl.1 rfl (by simp [Value.category]) dX7_rattles_62 ⟨Nat.le_refl _, Nat.le_refl _⟩ ?_
        refine z_tope (y := orN (hrE r el n st) (iN (sz n))) ((some_eq hzM (by omega) (fun j hj => (hfl_46 j hj).trans (by rw [hx1 j hj]; rfl))).trans (some_full hzM)) ?_
        refine lv_istore (pc := 65) (lv' := [(7, .int (orN (hrE r el n st) (iN (sz n)))), (6, .int (nI (2 ^ iN (sz n) - 1))), (5, .int (nI (iN (sz n)))), (4, .int (wtC kp so sz el true (nI n) 10)), (0, .ref (b 0)), (1, .int (nI n)), (2, .int st), (3, .int w)]) hx hb dX7_rattles_65 hl (by decide) rfl (fun ls hl => ?_)
        refine lv_iload (pc := 67) hx hb dX7_rattles_67 (lv_at hl 1 rfl) ?_
        refine lv_istore (pc := 69) (lv' := [(8, .int (nI (2 ^ iN (sz n) - 1))), (7, .int (orN (hrE r el n st) (iN (sz n)))), (6, .int (nI (2 ^ iN (sz n) - 1))), (5, .int (nI (iN (sz n)))), (4, .int (wtC kp so sz el true (nI n) 10)), (0, .ref (b 0)), (1, .int (nI n)), (2, .int st), (3, .int w)]) hx hb dX7_rattles_69 hl (by decide) rfl (fun ls hl => ?_)
        refine lv_iload (pc := 71) hx hb dX7_rattles_71 (lv_at hl 2 rfl) ?_
        refine lv_iconst (pc := 73) (v := 1) hx hb dX7_rattles_73 (by decide) ?_
        refine lv_isub (pc := 74) hx hb dX7_rattles_74 ?_
        refine z_tope (y := nI (2 ^ iN (sz n) - 1) - 1) rfl ?_
        refine lv_istore (pc := 75) (lv' := [(9, .int (nI (2 ^ iN (sz n) - 1) - 1)), (8, .int (nI (2 ^ iN (sz n) - 1))), (7, .int (orN (hrE r el n st) (iN (sz n)))), (6, .int (nI (2 ^ iN (sz n) - 1))), (5, .int (nI (iN (sz n)))), (4, .int (wtC kp so sz el true (nI n) 10)), (0, .ref (b 0)), (1, .int (nI n)), (2, .int st), (3, .int w)]) hx hb dX7_rattles_75 hl (by decide) rfl (fun ls hl => ?_)
        have loop_77 : ∀ (k_77 : Nat) (k : Nat) (b2 : Nat) (x9 : Int32) (x8 : Int32), k < k_77 → (k ≤ 2 ^ iN (sz n) - 1) → (b2 < 2 ^ iN (sz n)) → (raB (hrE r el n st) (iN (sz n)) b2 k (2 ^ iN (sz n))) → x9 = nI k - 1 → x8 = nI b2 → ∀ (H : Heap) (locs : List Loc), WW E (wK b E.2.1 tl pd qt qr tb2_46 wst asw pN tN aN (hdC (r 3)) (r 4) (r 5) (r 6) (r 7) wx pp tp ap sg2_46 uh ud up ur us ux) G H → va_S (bF b) s.heap H locs → ∀ (ls : Array Slot), lv_has ls 10 [(9, .int x9), (8, .int x8), (7, .int (orN (hrE r el n st) (iN (sz n)))), (6, .int (nI (2 ^ iN (sz n) - 1))), (5, .int (nI (iN (sz n)))), (4, .int (wtC kp so sz el true (nI n) 10)), (0, .ref (b 0)), (1, .int (nI n)), (2, .int st), (3, .int w)] → W p l e (rm0' (7) (168)) s m args below meth c H locs 0 0 (MQ below (zQ (fun (_ : Heap) (v : Option Value) (H1 : Heap) => (∃ (tb2 : Nat → Int32) (sg2 : Nat → Int32), v = some (.int (ratP r kp so sz el (nI n) st w)) ∧ WW E (wK b E.2.1 tl pd qt qr tb2 wst asw pN tN aN (hdC (r 3)) (r 4) (r 5) (r 6) (r 7) wx pp tp ap sg2 uh ud up ur us ux) G H1)) (bF b)) args s 0 0 (bF b)) (F0 m 77 ls []) := by
          intro k_77
          induction k_77 with
          | zero =>
            intro k b2 x9 x8 hm
            exact absurd hm (Nat.not_lt_zero _)
          | succ k_77 ih_77 =>
            intro k b2 x9 x8 hm_77 hk hb9 hB e_x9 e_x8  H locs  hW hS ls hl
            subst e_x9
            subst e_x8
            refine lv_iload (pc := 77) hx hb dX7_rattles_77 (lv_at hl 0 rfl) ?_
            refine lv_if_lt (pc := 79) (tgt := 116) hx hb dX7_rattles_79 (by decide) (fun c_6 => ?_) (fun c_6 => ?_)
            · skip
              obtain rfl : k = 0 := ra_neg (by omega) c_6
              have hra := ra_uniq (by omega) (by omega) hB
              refine lv_iload_n (pc := 116) hx hb dX7_rattles_116 rfl (lv_at hl 9 rfl) ?_
              refine lv_if_ne (pc := 117) (tgt := 128) hx hb dX7_rattles_117 (by decide) (fun c_7 => ?_) (fun c_7 => ?_)
              · skip
                refine lv_iload (pc := 128) hx hb dX7_rattles_128 (lv_at hl 1 rfl) ?_
                exact z_wiret cx hr hlk dX7_rattles_130 hS ⟨_, _, (sI (by simp [ratP, c_1, c_3, hwt, hd7, hN1, hk1, hfl_46, hra, c_7, iN_nI (show b2 < 2147483648 by omega)])), hW⟩
              · skip
                have hL01 : inL 0 0 1 = true := by decide
                refine lv_iload (pc := 120) hx hb dX7_rattles_120 (lv_at hl 1 rfl) ?_
                refine k_J6_bitCount_0f7a4 (pc := 122) (v := b2) cx (by omega) m_ml_X7_316 ⟨Nat.le_of_ble_eq_true rfl, Nat.le_of_ble_eq_true rfl⟩ hl.1 rfl (by simp [Value.category]) dX7_rattles_122 ⟨Nat.le_refl _, Nat.le_refl _⟩ ?_
                refine lv_goto (pc := 125) (tgt := 130) hx hb dX7_rattles_125 (by decide) ?_
                exact z_wiret cx hr hlk dX7_rattles_130 hS ⟨_, _, (sI (by simp [ratP, c_1, c_3, hwt, hd7, hN1, hk1, hfl_46, hra, c_7, hL01, iN_nI (show b2 < 2147483648 by omega)])), hW⟩
            · skip
              have hk0 : 0 < k := ra_pos c_6
              refine lv_iload (pc := 82) hx hb dX7_rattles_82 (lv_at hl 0 rfl) ?_
              refine z_tope (y := nI (k - 1)) (ra_m1 hk0) ?_
              refine k_J6_bitCount_0f7a4 (pc := 84) (v := k - 1) cx (by omega) m_ml_X7_316 ⟨Nat.le_of_ble_eq_true rfl, Nat.le_of_ble_eq_true rfl⟩ hl.1 rfl (by simp [Value.category]) dX7_rattles_84 ⟨Nat.le_refl _, Nat.le_refl _⟩ ?_
              refine lv_iload (pc := 87) hx hb dX7_rattles_87 (lv_at hl 1 rfl) ?_
              refine k_J6_bitCount_0f7a4 (pc := 89) (v := b2) cx (by omega) m_ml_X7_316 ⟨Nat.le_of_ble_eq_true rfl, Nat.le_of_ble_eq_true rfl⟩ hl.1 rfl (by simp [Value.category]) dX7_rattles_89 ⟨Nat.le_refl _, Nat.le_refl _⟩ ?_
              refine lv_icmp_gt (pc := 92) (tgt := 110) hx hb dX7_rattles_92 (by decide) (fun c_8 => ?_) (fun c_8 => ?_)
              · skip
                have hnp : ¬ pop (k - 1) ≤ pop b2 := ra_gt (by omega) (by omega) c_8
                have hnB := ra_keep hB (fun q => hnp q.1)
                refine lv_iinc (pc := 110) (v := (nI k - 1) + (-1)) (lv' := [(9, .int ((nI k - 1) + (-1))), (8, .int (nI b2)), (7, .int (orN (hrE r el n st) (iN (sz n)))), (6, .int (nI (2 ^ iN (sz n) - 1))), (5, .int (nI (iN (sz n)))), (4, .int (wtC kp so sz el true (nI n) 10)), (0, .ref (b 0)), (1, .int (nI n)), (2, .int st), (3, .int w)]) hx hb dX7_rattles_110 hl (k := 0) rfl rfl (by decide) rfl (fun ls hl => ?_)
                refine lv_goto (pc := 113) (tgt := 77) hx hb dX7_rattles_113 (by decide) ?_
                exact ih_77 (k - 1) b2 ((nI k - 1) + (-1)) (nI b2) (by omega) (by omega) (by omega) hnB (ra_s1 hk0) rfl  _ _  (hW) hS ls (lv_sub hl [0, 1, 2, 3, 4, 5, 6, 7, 8, 9] rfl)
              · skip
                have hpp : pop (k - 1) ≤ pop b2 := ra_le (by omega) (by omega) c_8
                refine lv_aload_n (pc := 95) hx hb dX7_rattles_95 rfl (lv_at hl 6 rfl) ?_
                refine lv_iload (pc := 96) hx hb dX7_rattles_96 (lv_at hl 0 rfl) ?_
                refine z_tope (y := nI (k - 1)) (ra_m1 hk0) ?_
                refine k_X7_buzzingAtSome (pc := 98) (m2 := k - 1) cx hW (by omega) m_ml_X7_313 ⟨Nat.le_of_ble_eq_true rfl, Nat.le_of_ble_eq_true rfl⟩ hl.1 rfl (by simp [Value.category]) dX7_rattles_98 ⟨Nat.le_refl _, Nat.le_refl _⟩ ?_
                refine z_tope (y := orN (fdF (hrE r el n st) (k - 1)) (iN (sz n))) (some_eq hzM (by omega) (fun j hj => (hfl_46 j hj).trans (by rw [hx1 j hj]; rfl))) ?_
                refine lv_iload (pc := 101) hx hb dX7_rattles_101 (lv_at hl 2 rfl) ?_
                refine lv_icmp_ne (pc := 103) (tgt := 110) hx hb dX7_rattles_103 (by decide) (fun c_9 => ?_) (fun c_9 => ?_)
                · skip
                  have hnB := ra_keep hB (fun q => c_9 q.2)
                  refine lv_iinc (pc := 110) (v := (nI k - 1) + (-1)) (lv' := [(9, .int ((nI k - 1) + (-1))), (8, .int (nI b2)), (7, .int (orN (hrE r el n st) (iN (sz n)))), (6, .int (nI (2 ^ iN (sz n) - 1))), (5, .int (nI (iN (sz n)))), (4, .int (wtC kp so sz el true (nI n) 10)), (0, .ref (b 0)), (1, .int (nI n)), (2, .int st), (3, .int w)]) hx hb dX7_rattles_110 hl (k := 0) rfl rfl (by decide) rfl (fun ls hl => ?_)
                  refine lv_goto (pc := 113) (tgt := 77) hx hb dX7_rattles_113 (by decide) ?_
                  exact ih_77 (k - 1) b2 ((nI k - 1) + (-1)) (nI b2) (by omega) (by omega) (by omega) hnB (ra_s1 hk0) rfl  _ _  (hW) hS ls (lv_sub hl [0, 1, 2, 3, 4, 5, 6, 7, 8, 9] rfl)
                · skip
                  have hnB := ra_take hk0 hB c_9 hpp
                  refine lv_iload (pc := 106) hx hb dX7_rattles_106 (lv_at hl 0 rfl) ?_
                  refine z_tope (y := nI (k - 1)) (ra_m1 hk0) ?_
                  refine lv_istore (pc := 108) (lv' := [(8, .int (nI (k - 1))), (9, .int (nI k - 1)), (7, .int (orN (hrE r el n st) (iN (sz n)))), (6, .int (nI (2 ^ iN (sz n) - 1))), (5, .int (nI (iN (sz n)))), (4, .int (wtC kp so sz el true (nI n) 10)), (0, .ref (b 0)), (1, .int (nI n)), (2, .int st), (3, .int w)]) hx hb dX7_rattles_108 hl (by decide) rfl (fun ls hl => ?_)
                  refine lv_iinc (pc := 110) (v := (nI k - 1) + (-1)) (lv' := [(9, .int ((nI k - 1) + (-1))), (8, .int (nI (k - 1))), (7, .int (orN (hrE r el n st) (iN (sz n)))), (6, .int (nI (2 ^ iN (sz n) - 1))), (5, .int (nI (iN (sz n)))), (4, .int (wtC kp so sz el true (nI n) 10)), (0, .ref (b 0)), (1, .int (nI n)), (2, .int st), (3, .int w)]) hx hb dX7_rattles_110 hl (k := 1) rfl rfl (by decide) rfl (fun ls hl => ?_)
                  refine lv_goto (pc := 113) (tgt := 77) hx hb dX7_rattles_113 (by decide) ?_
                  exact ih_77 (k - 1) (k - 1) ((nI k - 1) + (-1)) (nI (k - 1)) (by omega) (by omega) (by omega) hnB (ra_s1 hk0) rfl  _ _  (hW) hS ls (lv_sub hl [0, 1, 2, 3, 4, 5, 6, 7, 8, 9] rfl)
        exact loop_77 ((2 ^ iN (sz n) - 1) + 1) (2 ^ iN (sz n) - 1) (2 ^ iN (sz n) - 1) (nI (2 ^ iN (sz n) - 1) - 1) (nI (2 ^ iN (sz n) - 1)) (Nat.lt_succ_self _) (by omega) (by omega) (ra_init hzM) rfl rfl  _ _  (hW) hS ls (lv_sub hl [0, 1, 2, 3, 4, 5, 6, 7, 8, 9] rfl)
      · skip
        have hw0 := c_5
        refine lv_iload (pc := 35) hx hb dX7_rattles_35 (lv_at hl 0 rfl) ?_
        exact z_wiret cx hr hlk dX7_rattles_37 hS ⟨_, _, (sI (by unfold ratP; exact wtC_ne (by simp [c_1, c_3]) hw0)), hW⟩
theorem k_X7_rattles {p : Program} {l : Launch} {e : Env} {R : Room} {s : State} {m : MethodId} {args : Array Value} {below : List Frame} {meth : Method} {c : Code} {H H0 : Heap} {locs : List Loc} {cells slots : Nat} {Q : State → Prop} {cc : ByteArray} {pc index : Nat} {ls : Array Slot} {rest st0 : List Value} {E : zE} {own : String} {nL : Nat} {F : Nat → Prop} {b : Nat → Nat} {tl : va_W} {pd : Bool} {qt : Nat → Option Nat} {qr : Nat → Option Nat} {tbu : Nat → Int32} {wst : Nat → Int32} {asw : Nat → Int32} {pN : Int32} {tN : Int32} {aN : Int32} {wx : Nat → Int32} {pp : Nat → Option Nat} {tp : Nat → Option Nat} {ap : Nat → Option Nat} {sg : Nat → Int32} {uh : Int32} {ud : Int32} {up : Int32} {ur : Int32} {us : Int32} {ux : Nat → Int32} {G : zG} {d st w : Int32} {r : Nat → Int32} {kp so sz el pr ts : Nat → Int32} (cx : Cx E p s args m c own cc nL) (hW : WW E (wK b E.2.1 tl pd qt qr tbu wst asw pN tN aN (hdC (r 3)) (r 4) (r 5) (r 6) (r 7) wx pp tp ap sg uh ud up ur us ux) G H) (hS : va_S F H0 H locs) (zF : ∀ q, (bF b) q → F q) (hG : CG E.2.1 G r pN tN aN wx pp tp ap) (hSh : ShG E.2.1 G qt qr kp so sz el pr ts) (zl : Cond.methodLink own index yX7_rattles ∈ AllW) (zR : 7 + 1 ≤ R.frames ∧ 8 + (10 + 11) + 168 ≤ R.locals) (zs : ls.size = nL) (zt : st0 = ([.int d, .int st, .int w] : List Value).reverse ++ .ref (b 0) :: rest) (z8 : (rest.map fun v => v.category).sum ≤ 8) (zd : decode cc pc = .ok (.invokevirtual index, 3)) (zf : cells ≤ R.cells ∧ slots ≤ R.slots) (kk0 : ∀ (tb2 : Nat → Int32) (sg2 : Nat → Int32) (H1 : Heap) (locs1 : List Loc), WW E (wK b E.2.1 tl pd qt qr tb2 wst asw pN tN aN (hdC (r 3)) (r 4) (r 5) (r 6) (r 7) wx pp tp ap sg2 uh ud up ur us ux) G H1 → va_S F H0 H1 locs1 → W p l e R s m args below meth c H1 locs1 cells slots Q (F0 m (pc + 3) ls (.int (ratP r kp so sz el d st w) :: rest))) : W p l e R s m args below meth c H locs cells slots Q (F0 m pc ls st0) := by
  refine z_callVw cx vm_X7_rattles (c_X7_rattles l E b tl pd qt qr tbu wst asw pN tN aN wx pp tp ap sg uh ud up ur us ux G d st w r kp so sz el pr ts hG hSh) (z_rec cx.2 (hW.at 0 rfl) rfl) hW hS zF zl ⟨rfl, rfl⟩ zR rfl zs zt z8 zd zf (fun v H1 locs1 hq hS1 _ => ?_)
  rcases hq with ⟨tb2, sg2, rfl, hW1⟩
  · exact kk0 tb2 sg2 H1 locs1  hW1 hS1
