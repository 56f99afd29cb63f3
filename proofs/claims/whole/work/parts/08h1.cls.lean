theorem vm_X7_commonDivisor : zSm yX7_commonDivisor cX7_commonDivisor 6 (some FieldType.int) 2 := ⟨m_co_X7_commonDivisor, m_in_RX7, m_st_X7_commonDivisor, by decide +kernel, by decide +kernel, by decide +kernel⟩
set_option maxHeartbeats 1000000 in
set_option maxRecDepth 100000 in
theorem c_X7_commonDivisor (l : Launch) (E : zE) (u z : Nat) (hu : u < 1048576) (hz : z < 1048576) : Met l yX7_commonDivisor (.code yX7_commonDivisor cX7_commonDivisor 6 (some FieldType.int) :: AllW) (rm0' 0 0) (zP E (fun _ => True) [.int (nI u), .int (nI z)]) (rQ (.int (nI (Nat.gcd u z)))) 0 0 nF := by
  refine z_body (own := RX7) (by decide) rfl rfl ?_
  intro p e s m args below meth c ls cx hr hlk hnm hW hl
  have hx := cx.x
  have hb := cx.b
  have hl : lv_has ls 6 [(0, .int (nI u)), (1, .int (nI z))] := hl
  refine lv_iload_n (pc := 0) hx hb dX7_commonDivisor_0 rfl (lv_at hl 0 rfl) ?_
  refine lv_istore_n (pc := 1) (lv' := [(2, .int (nI u)), (0, .int (nI u)), (1, .int (nI z))]) hx hb dX7_commonDivisor_1 rfl hl (by decide) rfl (fun ls hl => ?_)
  refine lv_iload_n (pc := 2) hx hb dX7_commonDivisor_2 rfl (lv_at hl 2 rfl) ?_
  refine lv_istore_n (pc := 3) (lv' := [(3, .int (nI z)), (2, .int (nI u)), (0, .int (nI u)), (1, .int (nI z))]) hx hb dX7_commonDivisor_3 rfl hl (by decide) rfl (fun ls hl => ?_)
  refine lv_iconst (pc := 4) (v := 0) hx hb dX7_commonDivisor_4 (by decide) ?_
  refine lv_istore (pc := 5) (lv' := [(4, .int 0), (3, .int (nI z)), (2, .int (nI u)), (0, .int (nI u)), (1, .int (nI z))]) hx hb dX7_commonDivisor_5 hl (by decide) rfl (fun ls hl => ?_)
  have loop_7 : ∀ (k_7 : Nat) (i : Nat) (a : Nat) (y : Nat) (x4 : Int32) (x3 : Int32) (x2 : Int32), (64 - i) < k_7 → (i ≤ 64) → (a < 1048576) → (y < 1048576) → (Nat.gcd u z = Nat.gcd a y) → (stepsLe (64 - i) a y) → x4 = nI i → x3 = nI y → x2 = nI a → ∀ (ls : Array Slot), lv_has ls 6 [(4, .int x4), (3, .int x3), (2, .int x2), (0, .int (nI u)), (1, .int (nI z))] → W p l e (rm0' (0) (0)) s m args below meth c s.heap [] 0 0 (MQ below (rQ (.int (nI (Nat.gcd u z)))) args s 0 0 nF) (F0 m 7 ls []) := by
    intro k_7
    induction k_7 with
    | zero =>
      intro i a y x4 x3 x2 hm
      exact absurd hm (Nat.not_lt_zero _)
    | succ k_7 ih_7 =>
      intro i a y x4 x3 x2 hm_7 hi ha hy hgc hst e_x4 e_x3 e_x2  ls hl
      subst e_x4
      subst e_x3
      subst e_x2
      refine lv_iload (pc := 7) hx hb dX7_commonDivisor_7 (lv_at hl 0 rfl) ?_
      refine lv_bipush (pc := 9) (v := 64) hx hb dX7_commonDivisor_9 (by decide) ?_
      refine lv_icmp_ge (pc := 11) (tgt := 34) hx hb dX7_commonDivisor_11 (by decide) (fun c_1 => ?_) (fun c_1 => ?_)
      · skip
        have h64 := ge_nat (a := i) (b := 64) rfl rfl (by omega) (by omega) c_1
        obtain rfl : y = 0 := by rcases Nat.eq_zero_or_pos y with q | q; exact q; have := (steps_nz hst (by omega)).1; omega
        refine lv_iload_n (pc := 34) hx hb dX7_commonDivisor_34 rfl (lv_at hl 2 rfl) ?_
        exact z_iret cx hr hlk dX7_commonDivisor_35 (by rw [hgc, Nat.gcd_zero_right])
      · skip
        have hl64 := lt_nat (a := i) (b := 64) rfl rfl (by omega) (by omega) c_1
        refine lv_iload_n (pc := 14) hx hb dX7_commonDivisor_14 rfl (lv_at hl 1 rfl) ?_
        refine lv_if_eq (pc := 15) (tgt := 34) hx hb dX7_commonDivisor_15 (by decide) (fun c_2 => ?_) (fun c_2 => ?_)
        · skip
          obtain rfl : y = 0 := (nI_z (by omega)).mp c_2
          refine lv_iload_n (pc := 34) hx hb dX7_commonDivisor_34 rfl (lv_at hl 2 rfl) ?_
          exact z_iret cx hr hlk dX7_commonDivisor_35 (by rw [hgc, Nat.gcd_zero_right])
        · skip
          have hy0 : ¬ y = 0 := fun q => c_2 (by rw [q]; rfl)
          have hsn := steps_nz hst hy0
          have hml := Nat.mod_lt a (show 0 < y by omega)
          refine lv_iload_n (pc := 18) hx hb dX7_commonDivisor_18 rfl (lv_at hl 2 rfl) ?_
          refine lv_iload_n (pc := 19) hx hb dX7_commonDivisor_19 rfl (lv_at hl 1 rfl) ?_
          refine lv_irem (pc := 20) hx hb dX7_commonDivisor_20 (fun q => hy0 ((nI_z (by omega)).mp q)) ?_
          refine z_tope (y := irm (nI a) (nI y)) rfl ?_
          refine z_tope (y := nI (a % y)) (irm_nI (by omega) (by omega)) ?_
          refine lv_istore (pc := 21) (lv' := [(5, .int (nI (a % y))), (4, .int (nI i)), (3, .int (nI y)), (2, .int (nI a)), (0, .int (nI u)), (1, .int (nI z))]) hx hb dX7_commonDivisor_21 hl (by decide) rfl (fun ls hl => ?_)
          refine lv_iload_n (pc := 23) hx hb dX7_commonDivisor_23 rfl (lv_at hl 2 rfl) ?_
          refine lv_istore_n (pc := 24) (lv' := [(2, .int (nI y)), (5, .int (nI (a % y))), (4, .int (nI i)), (3, .int (nI y)), (0, .int (nI u)), (1, .int (nI z))]) hx hb dX7_commonDivisor_24 rfl hl (by decide) rfl (fun ls hl => ?_)
          refine lv_iload (pc := 25) hx hb dX7_commonDivisor_25 (lv_at hl 1 rfl) ?_
          refine lv_istore_n (pc := 27) (lv' := [(3, .int (nI (a % y))), (2, .int (nI y)), (5, .int (nI (a % y))), (4, .int (nI i)), (0, .int (nI u)), (1, .int (nI z))]) hx hb dX7_commonDivisor_27 rfl hl (by decide) rfl (fun ls hl => ?_)
          refine lv_iinc (pc := 28) (v := nI (i + 1)) (lv' := [(4, .int (nI (i + 1))), (3, .int (nI (a % y))), (2, .int (nI y)), (5, .int (nI (a % y))), (0, .int (nI u)), (1, .int (nI z))]) hx hb dX7_commonDivisor_28 hl (k := 3) rfl (nI_1 _) (by decide) rfl (fun ls hl => ?_)
          refine lv_goto (pc := 31) (tgt := 7) hx hb dX7_commonDivisor_31 (by decide) ?_
          exact ih_7 (i + 1) y (a % y) (nI (i + 1)) (nI (a % y)) (nI y) (by omega) (by omega) (by omega) (by omega) (by rw [hgc, Nat.gcd_comm a y, Nat.gcd_rec y a, Nat.gcd_comm]) (by have h9 := hsn.2; rwa [show 64 - i - 1 = 64 - (i + 1) by omega] at h9) (by first | rfl | (simp [c_1, c_2, i_nle.mp c_1]; done)) (by first | rfl | (simp [c_1, c_2, i_nle.mp c_1]; done)) (by first | rfl | (simp [c_1, c_2, i_nle.mp c_1]; done)) ls (lv_sub hl [0, 1, 2, 4, 5] rfl)
  exact loop_7 ((64 - 0) + 1) 0 u z 0 (nI z) (nI u) (Nat.lt_succ_self _) (by omega) (by omega) (by omega) rfl (steps_up (stepsLe_pow 20 _ _ hz) 23) (by first | rfl | (simp []; done)) (by first | rfl | (simp []; done)) (by first | rfl | (simp []; done)) ls (lv_sub hl [0, 1, 2, 3, 4] rfl)
theorem k_X7_commonDivisor {p : Program} {l : Launch} {e : Env} {R : Room} {s : State} {m : MethodId} {args : Array Value} {below : List Frame} {meth : Method} {c : Code} {H : Heap} {locs : List Loc} {cells slots : Nat} {Q : State → Prop} {cc : ByteArray} {pc index : Nat} {ls : Array Slot} {rest st0 : List Value} {E : zE} {own : String} {nL : Nat} {u z : Nat} (cx : Cx E p s args m c own cc nL) (hu : u < 1048576) (hz : z < 1048576) (zl : Cond.methodLink own index yX7_commonDivisor ∈ AllW) (zR : 0 + 1 ≤ R.frames ∧ 8 + (6 + 11) + 0 ≤ R.locals) (zs : ls.size = nL) (zt : st0 = ([.int (nI u), .int (nI z)] : List Value).reverse ++ rest) (z8 : (rest.map fun v => v.category).sum ≤ 8) (zd : decode cc pc = .ok (.invokestatic index, 3)) (zf : cells ≤ R.cells ∧ slots ≤ R.slots) (kk : W p l e R s m args below meth c H locs cells slots Q (F0 m (pc + 3) ls (.int (nI (Nat.gcd u z)) :: rest))) : W p l e R s m args below meth c H locs cells slots Q (F0 m pc ls st0) :=
  z_callS cx vm_X7_commonDivisor (c_X7_commonDivisor l E u z hu hz) trivial zl ⟨rfl, rfl⟩ zR rfl zs zt z8 zd zf kk
theorem vm_X7_pairChances : zVm yX7_pairChances cX7_pairChances 6 (some FieldType.int) 1 := ⟨m_co_X7_pairChances, m_in_RX7, ⟨m_im_X7_pairChances, m_se_X7_X7_pairChances⟩, by decide +kernel, by decide +kernel, by decide +kernel⟩
set_option maxHeartbeats 1000000 in
set_option maxRecDepth 100000 in
theorem c_X7_pairChances (l : Launch) (E : zE) (b : Nat → Nat) (tl : va_W) (pd : Bool) (qt : Nat → Option Nat) (qr : Nat → Option Nat) (tbu : Nat → Int32) (wst : Nat → Int32) (asw : Nat → Int32) (pN : Int32) (tN : Int32) (aN : Int32) (hd : Int32) (dr : Int32) (pl : Int32) (rm : Int32) (ps : Int32) (wx : Nat → Int32) (pp : Nat → Option Nat) (tp : Nat → Option Nat) (ap : Nat → Option Nat) (sg : Nat → Int32) (uh : Int32) (ud : Int32) (up : Int32) (ur : Int32) (us : Int32) (ux : Nat → Int32) (G : zG) (told : Int32) (r : Nat → Int32) (hG : CG E.2.1 G r pN tN aN wx pp tp ap) : Met l yX7_pairChances (.code yX7_pairChances cX7_pairChances 6 (some FieldType.int) :: AllW) (rm0' 3 66) (zP E (fun H => WW E (wK b E.2.1 tl pd qt qr tbu wst asw pN tN aN hd dr pl rm ps wx pp tp ap sg uh ud up ur us ux) G H) [.ref (b 0), .int told]) (rQ (.int (odS (pcF r told) (nT r) (nT r)))) 0 0 nF := by
  refine z_body (own := RX7) (by decide) rfl rfl ?_
  intro p e s m args below meth c ls cx hr hlk hnm hW hl
  have hx := cx.x
  have hb := cx.b
  have hl : lv_has ls 6 [(0, .ref (b 0)), (1, .int told)] := hl
  have hG0 := hG
  obtain ⟨hI, hpN, htN, haN, hPc, hTh, hAk, hwx⟩ := hG
  have hC := hI.1
  have hIS := hI.2.1
  have hP := hI.2.2.1
  have hT := hI.2.2.2.1
  have hP10 := (Inv.n0 hC).2
  have hT7 := (Inv.n1 hC).2
  have hA24 := (Inv.n2 hC).2
  have e0 := (Inv.n0 hC).1
  have e1 := (Inv.n1 hC).1
  have e2 := (Inv.n2 hC).1
  refine lv_iconst (pc := 0) (v := 0) hx hb dX7_pairChances_0 (by decide) ?_
  refine lv_istore_n (pc := 1) (lv' := [(2, .int 0), (0, .ref (b 0)), (1, .int told)]) hx hb dX7_pairChances_1 rfl hl (by decide) rfl (fun ls hl => ?_)
  refine lv_iconst (pc := 2) (v := 0) hx hb dX7_pairChances_2 (by decide) ?_
  refine lv_istore_n (pc := 3) (lv' := [(3, .int 0), (2, .int 0), (0, .ref (b 0)), (1, .int told)]) hx hb dX7_pairChances_3 rfl hl (by decide) rfl (fun ls hl => ?_)
  have loop_4 : ∀ (k_4 : Nat) (i : Nat) (x3 : Int32) (x2 : Int32), (nT r - i) < k_4 → (i ≤ nT r) → x3 = nI i → x2 = odS (pcF r told) (nT r) i → ∀ (ls : Array Slot), lv_has ls 6 [(3, .int x3), (2, .int x2), (0, .ref (b 0)), (1, .int told)] → W p l e (rm0' (3) (66)) s m args below meth c s.heap [] 0 0 (MQ below (rQ (.int (odS (pcF r told) (nT r) (nT r)))) args s 0 0 nF) (F0 m 4 ls []) := by
    intro k_4
    induction k_4 with
    | zero =>
      intro i x3 x2 hm
      exact absurd hm (Nat.not_lt_zero _)
    | succ k_4 ih_4 =>
      intro i x3 x2 hm_4 hi e_x3 e_x2  ls hl
      subst e_x3
      subst e_x2
      refine lv_iload_n (pc := 4) hx hb dX7_pairChances_4 rfl (lv_at hl 0 rfl) ?_
      refine lv_aload_n (pc := 5) hx hb dX7_pairChances_5 rfl (lv_at hl 2 rfl) ?_
      refine z_get (pc := 6) cx (hW.at 0 rfl) (C := RX7) (T := TX7) (N := 11) rfl i_X7 0 rfl m_fl_X7_10 rfl dX7_pairChances_6 ?_
      refine z_get (pc := 9) cx (hW.at 6 rfl) (C := RX1) (T := TX1) (N := 8) rfl i_X1 1 rfl m_fl_X7_206 rfl dX7_pairChances_9 ?_
      refine lv_icmp_ge (pc := 12) (tgt := 98) hx hb dX7_pairChances_12 (by decide) (fun c_1 => ?_) (fun c_1 => ?_)
      · skip
        obtain rfl : i = nT r := by have := ge_nat (a := i) rfl htN (by omega) (by omega) c_1; omega
        refine lv_iload_n (pc := 98) hx hb dX7_pairChances_98 rfl (lv_at hl 1 rfl) ?_
        exact z_iret cx hr hlk dX7_pairChances_99 (by first | rfl | (simp []; done))
      · skip
        have hlt_i := lt_nat (a := i) rfl htN (by omega) (by omega) c_1
        refine lv_iload_n (pc := 15) hx hb dX7_pairChances_15 rfl (lv_at hl 0 rfl) ?_
        refine lv_iconst (pc := 16) (v := 1) hx hb dX7_pairChances_16 (by decide) ?_
        refine lv_iadd (pc := 17) hx hb dX7_pairChances_17 ?_
        refine z_tope (y := nI (i + 1)) (nI_1 i) ?_
        refine lv_istore (pc := 18) (lv' := [(4, .int (nI (i + 1))), (3, .int (nI i)), (2, .int (odS (pcF r told) (nT r) i)), (0, .ref (b 0)), (1, .int told)]) hx hb dX7_pairChances_18 hl (by decide) rfl (fun ls hl => ?_)
        have loop_20 : ∀ (k_20 : Nat) (k : Nat) (x4 : Int32) (x2 : Int32), (nT r - i - k) < k_20 → (0 < k ∧ k ≤ nT r - i) → x4 = nI (i + k) → x2 = odS (pcF r told) (nT r) i + odI (pcF r told) i k → ∀ (ls : Array Slot), lv_has ls 6 [(4, .int x4), (3, .int (nI i)), (2, .int x2), (0, .ref (b 0)), (1, .int told)] → W p l e (rm0' (3) (66)) s m args below meth c s.heap [] 0 0 (MQ below (rQ (.int (odS (pcF r told) (nT r) (nT r)))) args s 0 0 nF) (F0 m 20 ls []) := by
          intro k_20
          induction k_20 with
          | zero =>
            intro k x4 x2 hm
            exact absurd hm (Nat.not_lt_zero _)
          | succ k_20 ih_20 =>
            intro k x4 x2 hm_20 hk1 e_x4 e_x2  ls hl
            subst e_x4
            subst e_x2
            refine lv_iload (pc := 20) hx hb dX7_pairChances_20 (lv_at hl 0 rfl) ?_
            refine lv_aload_n (pc := 22) hx hb dX7_pairChances_22 rfl (lv_at hl 3 rfl) ?_
            refine z_get (pc := 23) cx (hW.at 0 rfl) (C := RX7) (T := TX7) (N := 11) rfl i_X7 0 rfl m_fl_X7_10 rfl dX7_pairChances_23 ?_
            refine z_get (pc := 26) cx (hW.at 6 rfl) (C := RX1) (T := TX1) (N := 8) rfl i_X1 1 rfl m_fl_X7_206 rfl dX7_pairChances_26 ?_
            refine lv_icmp_ge (pc := 29) (tgt := 92) hx hb dX7_pairChances_29 (by decide) (fun c_2 => ?_) (fun c_2 => ?_)
            · skip
              obtain rfl : k = nT r - i := by have := ge_nat (a := i + k) rfl htN (by omega) (by omega) c_2; omega
              refine lv_iinc (pc := 92) (v := nI (i + 1)) (lv' := [(3, .int (nI (i + 1))), (4, .int (nI (i + (nT r - i)))), (2, .int (odS (pcF r told) (nT r) i + odI (pcF r told) i (nT r - i))), (0, .ref (b 0)), (1, .int told)]) hx hb dX7_pairChances_92 hl (k := 1) rfl (nI_1 _) (by decide) rfl (fun ls hl => ?_)
              refine lv_goto (pc := 95) (tgt := 4) hx hb dX7_pairChances_95 (by decide) ?_
              exact ih_4 (i + 1) (nI (i + 1)) (odS (pcF r told) (nT r) i + odI (pcF r told) i (nT r - i)) (by omega) (by omega) (by first | rfl | (simp []; done)) rfl ls (lv_sub hl [0, 2, 3, 4] rfl)
            · skip
              have hlt_k := lt_nat (a := i + k) rfl htN (by omega) (by omega) c_2
              refine lv_iconst (pc := 32) (v := 1) hx hb dX7_pairChances_32 (by decide) ?_
              refine lv_iload_n (pc := 33) hx hb dX7_pairChances_33 rfl (lv_at hl 1 rfl) ?_
              refine lv_ishl (pc := 34) hx hb dX7_pairChances_34 ?_
              refine lv_iconst (pc := 35) (v := 1) hx hb dX7_pairChances_35 (by decide) ?_
              refine lv_iload (pc := 36) hx hb dX7_pairChances_36 (lv_at hl 0 rfl) ?_
              refine lv_ishl (pc := 38) hx hb dX7_pairChances_38 ?_
              refine lv_ior (pc := 39) hx hb dX7_pairChances_39 ?_
              refine lv_istore (pc := 40) (lv' := [(5, .int ((1 <<< ((nI i) &&& 31)) ||| (1 <<< ((nI (i + k)) &&& 31)))), (4, .int (nI (i + k))), (3, .int (nI i)), (2, .int (odS (pcF r told) (nT r) i + odI (pcF r told) i k)), (0, .ref (b 0)), (1, .int told)]) hx hb dX7_pairChances_40 hl (by decide) rfl (fun ls hl => ?_)
              refine lv_iload (pc := 42) hx hb dX7_pairChances_42 (lv_at hl 0 rfl) ?_
              refine lv_iload_n (pc := 44) hx hb dX7_pairChances_44 rfl (lv_at hl 5 rfl) ?_
              refine lv_iand (pc := 45) hx hb dX7_pairChances_45 ?_
              refine lv_if_eq (pc := 46) (tgt := 86) hx hb dX7_pairChances_46 (by decide) (fun c_3 => ?_) (fun c_3 => ?_)
              · skip
                have hpc := pc_z (r := r) (s := odS (pcF r told) (nT r) i) c_3
                refine lv_iinc (pc := 86) (v := nI ((i + k) + 1)) (lv' := [(4, .int (nI ((i + k) + 1))), (5, .int ((1 <<< ((nI i) &&& 31)) ||| (1 <<< ((nI (i + k)) &&& 31)))), (3, .int (nI i)), (2, .int (odS (pcF r told) (nT r) i + odI (pcF r told) i k)), (0, .ref (b 0)), (1, .int told)]) hx hb dX7_pairChances_86 hl (k := 1) rfl (nI_1 _) (by decide) rfl (fun ls hl => ?_)
                refine lv_goto (pc := 89) (tgt := 20) hx hb dX7_pairChances_89 (by decide) ?_
                exact ih_20 (k + 1) (nI ((i + k) + 1)) (odS (pcF r told) (nT r) i + odI (pcF r told) i k) (by omega) (by omega) rfl hpc ls (lv_sub hl [0, 2, 3, 4, 5] rfl)
              · skip
                have hp1 := c_3
                refine lv_aload_n (pc := 49) hx hb dX7_pairChances_49 rfl (lv_at hl 4 rfl) ?_
                refine z_get (pc := 50) cx (hW.at 0 rfl) (C := RX7) (T := TX7) (N := 11) rfl i_X7 0 rfl m_fl_X7_10 rfl dX7_pairChances_50 ?_
                refine lv_iload (pc := 53) hx hb dX7_pairChances_53 (lv_at hl 0 rfl) ?_
                refine k_X1_isFit (pc := 55) (set := (1 <<< ((nI i) &&& 31)) ||| (1 <<< ((nI (i + k)) &&& 31))) cx hW (by first | assumption | omega) (by first | assumption | omega) (by first | assumption | omega) m_ml_X7_219 ⟨Nat.le_of_ble_eq_true rfl, Nat.le_of_ble_eq_true rfl⟩ hl.1 rfl (by simp [Value.category]) dX7_pairChances_55 ⟨Nat.le_refl _, Nat.le_refl _⟩ ?_
                refine z_ifeq (pc := 58) (tgt := 86) hx hb dX7_pairChances_58 (by decide) (fun c_4 => ?_) (fun c_4 => ?_)
                · skip
                  have hpc := pc_f (told := told) (s := odS (pcF r told) (nT r) i) c_4
                  refine lv_iinc (pc := 86) (v := nI ((i + k) + 1)) (lv' := [(4, .int (nI ((i + k) + 1))), (5, .int ((1 <<< ((nI i) &&& 31)) ||| (1 <<< ((nI (i + k)) &&& 31)))), (3, .int (nI i)), (2, .int (odS (pcF r told) (nT r) i + odI (pcF r told) i k)), (0, .ref (b 0)), (1, .int told)]) hx hb dX7_pairChances_86 hl (k := 1) rfl (nI_1 _) (by decide) rfl (fun ls hl => ?_)
                  refine lv_goto (pc := 89) (tgt := 20) hx hb dX7_pairChances_89 (by decide) ?_
                  exact ih_20 (k + 1) (nI ((i + k) + 1)) (odS (pcF r told) (nT r) i + odI (pcF r told) i k) (by omega) (by omega) rfl hpc ls (lv_sub hl [0, 2, 3, 4, 5] rfl)
                · skip
                  have hpc := pc_v (s := odS (pcF r told) (nT r) i) hk1.1 hp1 c_4
                  refine lv_iload_n (pc := 61) hx hb dX7_pairChances_61 rfl (lv_at hl 3 rfl) ?_
                  refine lv_aload_n (pc := 62) hx hb dX7_pairChances_62 rfl (lv_at hl 4 rfl) ?_
                  refine z_get (pc := 63) cx (hW.at 0 rfl) (C := RX7) (T := TX7) (N := 11) rfl i_X7 0 rfl m_fl_X7_10 rfl dX7_pairChances_63 ?_
                  refine lv_iconst (pc := 66) (v := 1) hx hb dX7_pairChances_66 (by decide) ?_
                  refine lv_iload_n (pc := 67) hx hb dX7_pairChances_67 rfl (lv_at hl 2 rfl) ?_
                  refine lv_ishl (pc := 68) hx hb dX7_pairChances_68 ?_
                  refine k_X1_chancesOf (pc := 69) (set := 1 <<< ((nI i) &&& 31)) cx hW (by first | assumption | omega) (by first | assumption | omega) (by first | assumption | omega) m_ml_X7_225 ⟨Nat.le_of_ble_eq_true rfl, Nat.le_of_ble_eq_true rfl⟩ hl.1 rfl (by simp [Value.category]) dX7_pairChances_69 ⟨Nat.le_refl _, Nat.le_refl _⟩ ?_
                  refine lv_aload_n (pc := 72) hx hb dX7_pairChances_72 rfl (lv_at hl 4 rfl) ?_
                  refine z_get (pc := 73) cx (hW.at 0 rfl) (C := RX7) (T := TX7) (N := 11) rfl i_X7 0 rfl m_fl_X7_10 rfl dX7_pairChances_73 ?_
                  refine lv_iconst (pc := 76) (v := 1) hx hb dX7_pairChances_76 (by decide) ?_
                  refine lv_iload (pc := 77) hx hb dX7_pairChances_77 (lv_at hl 1 rfl) ?_
                  refine lv_ishl (pc := 79) hx hb dX7_pairChances_79 ?_
                  refine k_X1_chancesOf (pc := 80) (set := 1 <<< ((nI (i + k)) &&& 31)) cx hW (by first | assumption | omega) (by first | assumption | omega) (by first | assumption | omega) m_ml_X7_225 ⟨Nat.le_of_ble_eq_true rfl, Nat.le_of_ble_eq_true rfl⟩ hl.1 rfl (by simp [Value.category]) dX7_pairChances_80 ⟨Nat.le_refl _, Nat.le_refl _⟩ ?_
                  refine lv_imul (pc := 83) hx hb dX7_pairChances_83 ?_
                  refine lv_iadd (pc := 84) hx hb dX7_pairChances_84 ?_
                  refine lv_istore_n (pc := 85) (lv' := [(2, .int ((odS (pcF r told) (nT r) i + odI (pcF r told) i k) + ((chA r (1 <<< ((nI i) &&& 31))) * (chA r (1 <<< ((nI (i + k)) &&& 31)))))), (5, .int ((1 <<< ((nI i) &&& 31)) ||| (1 <<< ((nI (i + k)) &&& 31)))), (4, .int (nI (i + k))), (3, .int (nI i)), (0, .ref (b 0)), (1, .int told)]) hx hb dX7_pairChances_85 rfl hl (by decide) rfl (fun ls hl => ?_)
                  refine lv_iinc (pc := 86) (v := nI ((i + k) + 1)) (lv' := [(4, .int (nI ((i + k) + 1))), (2, .int ((odS (pcF r told) (nT r) i + odI (pcF r told) i k) + ((chA r (1 <<< ((nI i) &&& 31))) * (chA r (1 <<< ((nI (i + k)) &&& 31)))))), (5, .int ((1 <<< ((nI i) &&& 31)) ||| (1 <<< ((nI (i + k)) &&& 31)))), (3, .int (nI i)), (0, .ref (b 0)), (1, .int told)]) hx hb dX7_pairChances_86 hl (k := 2) rfl (nI_1 _) (by decide) rfl (fun ls hl => ?_)
                  refine lv_goto (pc := 89) (tgt := 20) hx hb dX7_pairChances_89 (by decide) ?_
                  exact ih_20 (k + 1) (nI ((i + k) + 1)) ((odS (pcF r told) (nT r) i + odI (pcF r told) i k) + ((chA r (1 <<< ((nI i) &&& 31))) * (chA r (1 <<< ((nI (i + k)) &&& 31))))) (by omega) (by omega) rfl hpc ls (lv_sub hl [0, 3, 1, 4, 5] rfl)
        exact loop_20 ((nT r - i - 1) + 1) 1 (nI (i + 1)) (odS (pcF r told) (nT r) i) (Nat.lt_succ_self _) (by omega) (by first | rfl | (simp []; done)) pc_1 ls (lv_sub hl [0, 1, 2, 3, 4] rfl)
  exact loop_4 ((nT r - 0) + 1) 0 0 0 (Nat.lt_succ_self _) (by omega) (by first | rfl | (simp []; done)) (by first | rfl | (simp []; done)) ls (lv_sub hl [0, 1, 2, 3] rfl)
theorem k_X7_pairChances {p : Program} {l : Launch} {e : Env} {R : Room} {s : State} {m : MethodId} {args : Array Value} {below : List Frame} {meth : Method} {c : Code} {H : Heap} {locs : List Loc} {cells slots : Nat} {Q : State → Prop} {cc : ByteArray} {pc index : Nat} {ls : Array Slot} {rest st0 : List Value} {E : zE} {own : String} {nL : Nat} {b : Nat → Nat} {tl : va_W} {pd : Bool} {qt : Nat → Option Nat} {qr : Nat → Option Nat} {tbu : Nat → Int32} {wst : Nat → Int32} {asw : Nat → Int32} {pN : Int32} {tN : Int32} {aN : Int32} {hd : Int32} {dr : Int32} {pl : Int32} {rm : Int32} {ps : Int32} {wx : Nat → Int32} {pp : Nat → Option Nat} {tp : Nat → Option Nat} {ap : Nat → Option Nat} {sg : Nat → Int32} {uh : Int32} {ud : Int32} {up : Int32} {ur : Int32} {us : Int32} {ux : Nat → Int32} {G : zG} {told : Int32} {r : Nat → Int32} (cx : Cx E p s args m c own cc nL) (hW : WW E (wK b E.2.1 tl pd qt qr tbu wst asw pN tN aN hd dr pl rm ps wx pp tp ap sg uh ud up ur us ux) G H) (hG : CG E.2.1 G r pN tN aN wx pp tp ap) (zl : Cond.methodLink own index yX7_pairChances ∈ AllW) (zR : 3 + 1 ≤ R.frames ∧ 8 + (6 + 11) + 66 ≤ R.locals) (zs : ls.size = nL) (zt : st0 = ([.int told] : List Value).reverse ++ .ref (b 0) :: rest) (z8 : (rest.map fun v => v.category).sum ≤ 8) (zd : decode cc pc = .ok (.invokevirtual index, 3)) (zf : cells ≤ R.cells ∧ slots ≤ R.slots) (kk : W p l e R s m args below meth c H locs cells slots Q (F0 m (pc + 3) ls (.int (odS (pcF r told) (nT r) (nT r)) :: rest))) : W p l e R s m args below meth c H locs cells slots Q (F0 m pc ls st0) :=
  z_callV cx vm_X7_pairChances (c_X7_pairChances l E b tl pd qt qr tbu wst asw pN tN aN hd dr pl rm ps wx pp tp ap sg uh ud up ur us ux G told r hG) (z_rec cx.2 (hW.at 0 rfl) rfl) hW zl ⟨rfl, rfl⟩ zR rfl zs zt z8 zd zf kk
theorem vm_X7_odds : zVm yX7_odds cX7_odds 8 (some FieldType.int) 3 := ⟨m_co_X7_odds, m_in_RX7, ⟨m_im_X7_odds, m_se_X7_X7_odds⟩, by decide +kernel, by decide +kernel, by decide +kernel⟩
set_option maxHeartbeats 1000000 in
set_option maxRecDepth 100000 in
theorem c_X7_odds (l : Launch) (E : zE) (b : Nat → Nat) (tl : va_W) (pd : Bool) (qt : Nat → Option Nat) (qr : Nat → Option Nat) (tbu : Nat → Int32) (wst : Nat → Int32) (asw : Nat → Int32) (pN : Int32) (tN : Int32) (aN : Int32) (hd : Int32) (dr : Int32) (pl : Int32) (rm : Int32) (ps : Int32) (wx : Nat → Int32) (pp : Nat → Option Nat) (tp : Nat → Option Nat) (ap : Nat → Option Nat) (sg : Nat → Int32) (uh : Int32) (ud : Int32) (up : Int32) (ur : Int32) (us : Int32) (ux : Nat → Int32) (G : zG) (x : Int32) (two : Bool) (part : Int32) (r : Nat → Int32) (hG : CG E.2.1 G r pN tN aN wx pp tp ap) : Met l yX7_odds (.code yX7_odds cX7_odds 8 (some FieldType.int) :: AllW) (rm0' 4 91) (zP E (fun H => WW E (wK b E.2.1 tl pd qt qr tbu wst asw pN tN aN hd dr pl rm ps wx pp tp ap sg uh ud up ur us ux) G H) [.ref (b 0), .int x, .int (bI two), .int part]) (rQ (.int (oddsP r x two part))) 0 0 nF := by
  refine z_body (own := RX7) (by decide) rfl rfl ?_
  intro p e s m args below meth c ls cx hr hlk hnm hW hl
  have hx := cx.x
  have hb := cx.b
  have hl : lv_has ls 8 [(0, .ref (b 0)), (1, .int x), (2, .int (bI two)), (3, .int part)] := hl
  have hG0 := hG
  obtain ⟨hI, hpN, htN, haN, hPc, hTh, hAk, hwx⟩ := hG
  have hC := hI.1
  have hIS := hI.2.1
  have hP := hI.2.2.1
  have hT := hI.2.2.2.1
  have hP10 := (Inv.n0 hC).2
  have hT7 := (Inv.n1 hC).2
  have hA24 := (Inv.n2 hC).2
  have e0 := (Inv.n0 hC).1
  have e1 := (Inv.n1 hC).1
  have e2 := (Inv.n2 hC).1
  refine lv_aload_n (pc := 0) hx hb dX7_odds_0 rfl (lv_at hl 0 rfl) ?_
  refine z_get (pc := 1) cx (hW.at 0 rfl) (C := RX7) (T := TX7) (N := 11) rfl i_X7 0 rfl m_fl_X7_10 rfl dX7_odds_1 ?_
  refine lv_iload_n (pc := 4) hx hb dX7_odds_4 rfl (lv_at hl 1 rfl) ?_
  refine k_X1_isThing (pc := 5) (x := x) cx hW (by first | assumption | omega) (by first | assumption | omega) m_ml_X7_216 ⟨Nat.le_of_ble_eq_true rfl, Nat.le_of_ble_eq_true rfl⟩ hl.1 rfl (by simp [Value.category]) dX7_odds_5 ⟨Nat.le_refl _, Nat.le_refl _⟩ ?_
  refine z_ifeq (pc := 8) (tgt := 20) hx hb dX7_odds_8 (by decide) (fun c_1 => ?_) (fun c_1 => ?_)
  · skip
    refine lv_iconst (pc := 20) (v := (-1)) hx hb dX7_odds_20 (by decide) ?_
    exact z_iret cx hr hlk dX7_odds_21 (by first | rfl | (simp [oddsP, c_1]; done))
  · skip
    obtain ⟨n, hn, rfl⟩ := th_nat hC c_1
    have hN := iN_nI (n := n) (by omega)
    refine lv_iload_n (pc := 11) hx hb dX7_odds_11 rfl (lv_at hl 3 rfl) ?_
    refine lv_iconst (pc := 12) (v := 0) hx hb dX7_odds_12 (by decide) ?_
    refine lv_iconst (pc := 13) (v := 1) hx hb dX7_odds_13 (by decide) ?_
    refine k_X7_isWithin (pc := 14) (x := part) (y := 0) (z := 1) cx  m_ml_X7_159 ⟨Nat.le_of_ble_eq_true rfl, Nat.le_of_ble_eq_true rfl⟩ hl.1 rfl (by simp [Value.category]) dX7_odds_14 ⟨Nat.le_refl _, Nat.le_refl _⟩ ?_
    refine z_ifne (pc := 17) (tgt := 22) hx hb dX7_odds_17 (by decide) (fun c_2 => ?_) (fun c_2 => ?_)
    · skip
      refine lv_bipush (pc := 22) (v := 127) hx hb dX7_odds_22 (by decide) ?_
      refine lv_istore (pc := 24) (lv' := [(4, .int 127), (0, .ref (b 0)), (1, .int (nI n)), (2, .int (bI two)), (3, .int part)]) hx hb dX7_odds_24 hl (by decide) rfl (fun ls hl => ?_)
      refine lv_iload_n (pc := 26) hx hb dX7_odds_26 rfl (lv_at hl 3 rfl) ?_
      refine z_ifeq (pc := 27) (tgt := 39) hx hb dX7_odds_27 (by decide) (fun c_3 => ?_) (fun c_3 => ?_)
      · skip
        refine lv_aload_n (pc := 39) hx hb dX7_odds_39 rfl (lv_at hl 1 rfl) ?_
        refine z_get (pc := 40) cx (hW.at 0 rfl) (C := RX7) (T := TX7) (N := 11) rfl i_X7 0 rfl m_fl_X7_10 rfl dX7_odds_40 ?_
        refine lv_aload_n (pc := 43) hx hb dX7_odds_43 rfl (lv_at hl 1 rfl) ?_
        refine z_get (pc := 44) cx (hW.at 0 rfl) (C := RX7) (T := TX7) (N := 11) rfl i_X7 0 rfl m_fl_X7_10 rfl dX7_odds_44 ?_
        refine k_X1_fitting (pc := 47)  cx hW (by first | assumption | omega) (by first | assumption | omega) (by first | assumption | omega) (by first | assumption | omega) m_ml_X7_213 ⟨Nat.le_of_ble_eq_true rfl, Nat.le_of_ble_eq_true rfl⟩ hl.1 rfl (by simp [Value.category]) dX7_odds_47 ⟨Nat.le_refl _, Nat.le_refl _⟩ ?_
        refine k_X1_chancesOf (pc := 50) (set := ftA r) cx hW (by first | assumption | omega) (by first | assumption | omega) (by first | assumption | omega) m_ml_X7_225 ⟨Nat.le_of_ble_eq_true rfl, Nat.le_of_ble_eq_true rfl⟩ hl.1 rfl (by simp [Value.category]) dX7_odds_50 ⟨Nat.le_refl _, Nat.le_refl _⟩ ?_
        refine z_tope (y := odS (odC r false) (nT r) (nT r)) (od_s hT7) ?_
        refine lv_istore (pc := 53) (lv' := [(5, .int (odS (odC r false) (nT r) (nT r))), (4, .int 127), (0, .ref (b 0)), (1, .int (nI n)), (2, .int (bI two)), (3, .int part)]) hx hb dX7_odds_53 hl (by decide) rfl (fun ls hl => ?_)
        refine lv_iload_n (pc := 55) hx hb dX7_odds_55 rfl (lv_at hl 4 rfl) ?_
        refine z_ifeq (pc := 56) (tgt := 69) hx hb dX7_odds_56 (by decide) (fun _ => ?_) (fun c_4 => (by first | exact absurd c_4 c_3 | exact absurd c_3 c_4 | exact absurd c_4 (i_nlt.mpr c_3) | exact absurd c_3 (i_nlt.mpr c_4) | exact absurd c_4 (i_nle.mpr c_3) | exact absurd c_3 (i_nle.mpr c_4) | exact absurd (c_4.symm.trans c_3) (by decide) | exact absurd c_3 (i_nle.mpr (i_nlt.mp c_4)) | exact absurd c_4 (i_nle.mpr (i_nlt.mp c_3))))
        refine lv_aload_n (pc := 69) hx hb dX7_odds_69 rfl (lv_at hl 2 rfl) ?_
        refine z_get (pc := 70) cx (hW.at 0 rfl) (C := RX7) (T := TX7) (N := 11) rfl i_X7 0 rfl m_fl_X7_10 rfl dX7_odds_70 ?_
        refine lv_aload_n (pc := 73) hx hb dX7_odds_73 rfl (lv_at hl 2 rfl) ?_
        refine z_get (pc := 74) cx (hW.at 0 rfl) (C := RX7) (T := TX7) (N := 11) rfl i_X7 0 rfl m_fl_X7_10 rfl dX7_odds_74 ?_
        refine k_X1_fitting (pc := 77)  cx hW (by first | assumption | omega) (by first | assumption | omega) (by first | assumption | omega) (by first | assumption | omega) m_ml_X7_213 ⟨Nat.le_of_ble_eq_true rfl, Nat.le_of_ble_eq_true rfl⟩ hl.1 rfl (by simp [Value.category]) dX7_odds_77 ⟨Nat.le_refl _, Nat.le_refl _⟩ ?_
        refine lv_iconst (pc := 80) (v := 1) hx hb dX7_odds_80 (by decide) ?_
        refine lv_iload_n (pc := 81) hx hb dX7_odds_81 rfl (lv_at hl 3 rfl) ?_
        refine lv_ishl (pc := 82) hx hb dX7_odds_82 ?_
        refine lv_iand (pc := 83) hx hb dX7_odds_83 ?_
        refine k_X1_chancesOf (pc := 84) (set := (ftA r) &&& (1 <<< ((nI n) &&& 31))) cx hW (by first | assumption | omega) (by first | assumption | omega) (by first | assumption | omega) m_ml_X7_225 ⟨Nat.le_of_ble_eq_true rfl, Nat.le_of_ble_eq_true rfl⟩ hl.1 rfl (by simp [Value.category]) dX7_odds_84 ⟨Nat.le_refl _, Nat.le_refl _⟩ ?_
        refine z_tope (y := odS (odO r false n) (nT r) (nT r)) (od_sn hT7 hn) ?_
        refine lv_istore (pc := 87) (lv' := [(6, .int (odS (odO r false n) (nT r) (nT r))), (5, .int (odS (odC r false) (nT r) (nT r))), (4, .int 127), (0, .ref (b 0)), (1, .int (nI n)), (2, .int (bI two)), (3, .int part)]) hx hb dX7_odds_87 hl (by decide) rfl (fun ls hl => ?_)
        have htw : two = false := c_3
        have hAr := rg_iN (odS_rg hT7 (fun _ _ => odC_rg hT (two := false))) (by decide) (by decide)
        have hOr := rg_iN (odS_rg hT7 (fun _ _ => odO_rg hT (two := false) (n := n))) (by decide) (by decide)
        obtain ⟨A, hA, hA2⟩ : ∃ A, odS (odC r false) (nT r) (nT r) = nI A ∧ A < 1048576 := ⟨_, hAr.1, by have := hAr.2.1; omega⟩
        obtain ⟨O, hO, hO2⟩ : ∃ O, odS (odO r false n) (nT r) (nT r) = nI O ∧ O < 1048576 := ⟨_, hOr.1, by have := hOr.2.1; omega⟩
        rw [hA] at hl
        rw [hO] at hl
        have hA3 := iN_nI (n := A) (by omega)
        have hO3 := iN_nI (n := O) (by omega)
        refine lv_iload (pc := 89) hx hb dX7_odds_89 (lv_at hl 1 rfl) ?_
        refine lv_if_gt (pc := 91) (tgt := 97) hx hb dX7_odds_91 (by decide) (fun c_5 => ?_) (fun c_5 => ?_)
        · skip
          have hAp := gtn (a := 0) (b := A) rfl rfl (by omega) (by omega) c_5
          have hA0 : ¬ nI A = 0 := fun q => by have := (nI_z (by omega)).mp q; omega
          have hgp : 0 < Nat.gcd O A := Nat.gcd_pos_of_pos_right _ hAp
          have hgl : Nat.gcd O A ≤ A := Nat.gcd_le_right _ hAp
          refine lv_iload (pc := 97) hx hb dX7_odds_97 (lv_at hl 0 rfl) ?_
          refine lv_iload (pc := 99) hx hb dX7_odds_99 (lv_at hl 1 rfl) ?_
          refine k_X7_commonDivisor (pc := 101) (u := O) (z := A) cx (by omega) (by omega) m_ml_X7_228 ⟨Nat.le_of_ble_eq_true rfl, Nat.le_of_ble_eq_true rfl⟩ hl.1 rfl (by simp [Value.category]) dX7_odds_101 ⟨Nat.le_refl _, Nat.le_refl _⟩ ?_
          refine z_tope (y := nI (Nat.gcd A O)) (by rw [Nat.gcd_comm]) ?_
          refine lv_istore (pc := 104) (lv' := [(7, .int (nI (Nat.gcd A O))), (6, .int (nI O)), (5, .int (nI A)), (4, .int 127), (0, .ref (b 0)), (1, .int (nI n)), (2, .int (bI two)), (3, .int part)]) hx hb dX7_odds_104 hl (by decide) rfl (fun ls hl => ?_)
          refine lv_iload (pc := 106) hx hb dX7_odds_106 (lv_at hl 0 rfl) ?_
          refine lv_if_gt (pc := 108) (tgt := 114) hx hb dX7_odds_108 (by decide) (fun c_6 => ?_) (fun c_6 => ?_)
          · skip
            refine lv_iload_n (pc := 114) hx hb dX7_odds_114 rfl (lv_at hl 7 rfl) ?_
            refine lv_if_ne (pc := 115) (tgt := 123) hx hb dX7_odds_115 (by decide) (fun c_7 => ?_) (fun c_7 => ?_)
            · skip
              refine lv_iload (pc := 123) hx hb dX7_odds_123 (lv_at hl 2 rfl) ?_
              refine lv_iload (pc := 125) hx hb dX7_odds_125 (lv_at hl 0 rfl) ?_
              refine lv_idiv (pc := 127) hx hb dX7_odds_127 (g_nz hA0 (by omega)) ?_
              exact z_iret cx hr hlk dX7_odds_128 (by first | rfl | (simp [oddsP, c_1, hN, c_2, hA, hO, hA3, hO3, htw, c_5, hA0, c_6, c_7, i_nle.mpr c_5, i_nle.mpr c_6]; done))
            · skip
              have hL01 : inL 0 0 1 = true := by decide
              refine lv_iload (pc := 118) hx hb dX7_odds_118 (lv_at hl 1 rfl) ?_
              refine lv_goto (pc := 120) (tgt := 125) hx hb dX7_odds_120 (by decide) ?_
              refine lv_iload (pc := 125) hx hb dX7_odds_125 (lv_at hl 0 rfl) ?_
              refine lv_idiv (pc := 127) hx hb dX7_odds_127 (g_nz hA0 (by omega)) ?_
              exact z_iret cx hr hlk dX7_odds_128 (by first | rfl | (simp [oddsP, c_1, hN, c_2, hA, hO, hA3, hO3, htw, c_5, hA0, c_6, c_7, hL01, i_nle.mpr c_5, i_nle.mpr c_6]; done))
          · skip
            exact absurd (gtn_i (a := Nat.gcd A O) (by rw [Nat.gcd_comm]; exact hgp) (by rw [Nat.gcd_comm]; omega)) c_6
        · skip
          have hA0 : nI A = 0 := by rw [show A = 0 by have := ngt (a := 0) (b := A) rfl rfl (by omega) (by omega) c_5; omega]; rfl
          refine lv_bipush (pc := 94) (v := (-4)) hx hb dX7_odds_94 (by decide) ?_
          exact z_iret cx hr hlk dX7_odds_96 (by first | rfl | (simp [oddsP, c_1, hN, c_2, hA, hO, hA3, hO3, htw, c_5, hA0, i_nlt.mp c_5]; done))
      · skip
        refine lv_aload_n (pc := 30) hx hb dX7_odds_30 rfl (lv_at hl 1 rfl) ?_
        refine lv_iload (pc := 31) hx hb dX7_odds_31 (lv_at hl 0 rfl) ?_
        refine k_X7_pairChances (pc := 33) (told := 127) cx hW hG0 m_ml_X7_222 ⟨Nat.le_of_ble_eq_true rfl, Nat.le_of_ble_eq_true rfl⟩ hl.1 rfl (by simp [Value.category]) dX7_odds_33 ⟨Nat.le_refl _, Nat.le_refl _⟩ ?_
        refine lv_goto (pc := 36) (tgt := 53) hx hb dX7_odds_36 (by decide) ?_
        refine z_tope (y := odS (odC r true) (nT r) (nT r)) (od_all hT7) ?_
        refine lv_istore (pc := 53) (lv' := [(5, .int (odS (odC r true) (nT r) (nT r))), (4, .int 127), (0, .ref (b 0)), (1, .int (nI n)), (2, .int (bI two)), (3, .int part)]) hx hb dX7_odds_53 hl (by decide) rfl (fun ls hl => ?_)
        refine lv_iload_n (pc := 55) hx hb dX7_odds_55 rfl (lv_at hl 4 rfl) ?_
        refine z_ifeq (pc := 56) (tgt := 69) hx hb dX7_odds_56 (by decide) (fun c_8 => (by first | exact absurd c_8 c_3 | exact absurd c_3 c_8 | exact absurd c_8 (i_nlt.mpr c_3) | exact absurd c_3 (i_nlt.mpr c_8) | exact absurd c_8 (i_nle.mpr c_3) | exact absurd c_3 (i_nle.mpr c_8) | exact absurd (c_8.symm.trans c_3) (by decide) | exact absurd c_3 (i_nle.mpr (i_nlt.mp c_8)) | exact absurd c_8 (i_nle.mpr (i_nlt.mp c_3)))) (fun _ => ?_)
        refine lv_aload_n (pc := 59) hx hb dX7_odds_59 rfl (lv_at hl 2 rfl) ?_
        refine lv_iconst (pc := 60) (v := 1) hx hb dX7_odds_60 (by decide) ?_
        refine lv_iload_n (pc := 61) hx hb dX7_odds_61 rfl (lv_at hl 3 rfl) ?_
        refine lv_ishl (pc := 62) hx hb dX7_odds_62 ?_
        refine k_X7_pairChances (pc := 63) (told := 1 <<< ((nI n) &&& 31)) cx hW hG0 m_ml_X7_222 ⟨Nat.le_of_ble_eq_true rfl, Nat.le_of_ble_eq_true rfl⟩ hl.1 rfl (by simp [Value.category]) dX7_odds_63 ⟨Nat.le_refl _, Nat.le_refl _⟩ ?_
        refine lv_goto (pc := 66) (tgt := 87) hx hb dX7_odds_66 (by decide) ?_
        refine z_tope (y := odS (odO r true n) (nT r) (nT r)) (od_one hT7 hn) ?_
        refine lv_istore (pc := 87) (lv' := [(6, .int (odS (odO r true n) (nT r) (nT r))), (5, .int (odS (odC r true) (nT r) (nT r))), (4, .int 127), (0, .ref (b 0)), (1, .int (nI n)), (2, .int (bI two)), (3, .int part)]) hx hb dX7_odds_87 hl (by decide) rfl (fun ls hl => ?_)
        have htw : two = true := c_3
        have hAr := rg_iN (odS_rg hT7 (fun _ _ => odC_rg hT (two := true))) (by decide) (by decide)
        have hOr := rg_iN (odS_rg hT7 (fun _ _ => odO_rg hT (two := true) (n := n))) (by decide) (by decide)
        obtain ⟨A, hA, hA2⟩ : ∃ A, odS (odC r true) (nT r) (nT r) = nI A ∧ A < 1048576 := ⟨_, hAr.1, by have := hAr.2.1; omega⟩
        obtain ⟨O, hO, hO2⟩ : ∃ O, odS (odO r true n) (nT r) (nT r) = nI O ∧ O < 1048576 := ⟨_, hOr.1, by have := hOr.2.1; omega⟩
        rw [hA] at hl
        rw [hO] at hl
        have hA3 := iN_nI (n := A) (by omega)
        have hO3 := iN_nI (n := O) (by omega)
        refine lv_iload (pc := 89) hx hb dX7_odds_89 (lv_at hl 1 rfl) ?_
        refine lv_if_gt (pc := 91) (tgt := 97) hx hb dX7_odds_91 (by decide) (fun c_9 => ?_) (fun c_9 => ?_)
        · skip
          have hAp := gtn (a := 0) (b := A) rfl rfl (by omega) (by omega) c_9
          have hA0 : ¬ nI A = 0 := fun q => by have := (nI_z (by omega)).mp q; omega
          have hgp : 0 < Nat.gcd O A := Nat.gcd_pos_of_pos_right _ hAp
          have hgl : Nat.gcd O A ≤ A := Nat.gcd_le_right _ hAp
          refine lv_iload (pc := 97) hx hb dX7_odds_97 (lv_at hl 0 rfl) ?_
          refine lv_iload (pc := 99) hx hb dX7_odds_99 (lv_at hl 1 rfl) ?_
          refine k_X7_commonDivisor (pc := 101) (u := O) (z := A) cx (by omega) (by omega) m_ml_X7_228 ⟨Nat.le_of_ble_eq_true rfl, Nat.le_of_ble_eq_true rfl⟩ hl.1 rfl (by simp [Value.category]) dX7_odds_101 ⟨Nat.le_refl _, Nat.le_refl _⟩ ?_
          refine z_tope (y := nI (Nat.gcd A O)) (by rw [Nat.gcd_comm]) ?_
          refine lv_istore (pc := 104) (lv' := [(7, .int (nI (Nat.gcd A O))), (6, .int (nI O)), (5, .int (nI A)), (4, .int 127), (0, .ref (b 0)), (1, .int (nI n)), (2, .int (bI two)), (3, .int part)]) hx hb dX7_odds_104 hl (by decide) rfl (fun ls hl => ?_)
          refine lv_iload (pc := 106) hx hb dX7_odds_106 (lv_at hl 0 rfl) ?_
          refine lv_if_gt (pc := 108) (tgt := 114) hx hb dX7_odds_108 (by decide) (fun c_10 => ?_) (fun c_10 => ?_)
          · skip
            refine lv_iload_n (pc := 114) hx hb dX7_odds_114 rfl (lv_at hl 7 rfl) ?_
            refine lv_if_ne (pc := 115) (tgt := 123) hx hb dX7_odds_115 (by decide) (fun c_11 => ?_) (fun c_11 => ?_)
            · skip
              refine lv_iload (pc := 123) hx hb dX7_odds_123 (lv_at hl 2 rfl) ?_
              refine lv_iload (pc := 125) hx hb dX7_odds_125 (lv_at hl 0 rfl) ?_
              refine lv_idiv (pc := 127) hx hb dX7_odds_127 (g_nz hA0 (by omega)) ?_
              exact z_iret cx hr hlk dX7_odds_128 (by first | rfl | (simp [oddsP, c_1, hN, c_2, hA, hO, hA3, hO3, htw, c_9, hA0, c_10, c_11, i_nle.mpr c_9, i_nle.mpr c_10]; done))
            · skip
              have hL01 : inL 0 0 1 = true := by decide
              refine lv_iload (pc := 118) hx hb dX7_odds_118 (lv_at hl 1 rfl) ?_
              refine lv_goto (pc := 120) (tgt := 125) hx hb dX7_odds_120 (by decide) ?_
              refine lv_iload (pc := 125) hx hb dX7_odds_125 (lv_at hl 0 rfl) ?_
              refine lv_idiv (pc := 127) hx hb dX7_odds_127 (g_nz hA0 (by omega)) ?_
              exact z_iret cx hr hlk dX7_odds_128 (by first | rfl | (simp [oddsP, c_1, hN, c_2, hA, hO, hA3, hO3, htw, c_9, hA0, c_10, c_11, hL01, i_nle.mpr c_9, i_nle.mpr c_10]; done))
          · skip
            exact absurd (gtn_i (a := Nat.gcd A O) (by rw [Nat.gcd_comm]; exact hgp) (by rw [Nat.gcd_comm]; omega)) c_10
        · skip
          have hA0 : nI A = 0 := by rw [show A = 0 by have := ngt (a := 0) (b := A) rfl rfl (by omega) (by omega) c_9; omega]; rfl
          refine lv_bipush (pc := 94) (v := (-4)) hx hb dX7_odds_94 (by decide) ?_
          exact z_iret cx hr hlk dX7_odds_96 (by first | rfl | (simp [oddsP, c_1, hN, c_2, hA, hO, hA3, hO3, htw, c_9, hA0, i_nlt.mp c_9]; done))
    · skip
      refine lv_iconst (pc := 20) (v := (-1)) hx hb dX7_odds_20 (by decide) ?_
      exact z_iret cx hr hlk dX7_odds_21 (by first | rfl | (simp [oddsP, c_1, hN, c_2]; done))
theorem k_X7_odds {p : Program} {l : Launch} {e : Env} {R : Room} {s : State} {m : MethodId} {args : Array Value} {below : List Frame} {meth : Method} {c : Code} {H : Heap} {locs : List Loc} {cells slots : Nat} {Q : State → Prop} {cc : ByteArray} {pc index : Nat} {ls : Array Slot} {rest st0 : List Value} {E : zE} {own : String} {nL : Nat} {b : Nat → Nat} {tl : va_W} {pd : Bool} {qt : Nat → Option Nat} {qr : Nat → Option Nat} {tbu : Nat → Int32} {wst : Nat → Int32} {asw : Nat → Int32} {pN : Int32} {tN : Int32} {aN : Int32} {hd : Int32} {dr : Int32} {pl : Int32} {rm : Int32} {ps : Int32} {wx : Nat → Int32} {pp : Nat → Option Nat} {tp : Nat → Option Nat} {ap : Nat → Option Nat} {sg : Nat → Int32} {uh : Int32} {ud : Int32} {up : Int32} {ur : Int32} {us : Int32} {ux : Nat → Int32} {G : zG} {x : Int32} {two : Bool} {part : Int32} {r : Nat → Int32} (cx : Cx E p s args m c own cc nL) (hW : WW E (wK b E.2.1 tl pd qt qr tbu wst asw pN tN aN hd dr pl rm ps wx pp tp ap sg uh ud up ur us ux) G H) (hG : CG E.2.1 G r pN tN aN wx pp tp ap) (zl : Cond.methodLink own index yX7_odds ∈ AllW) (zR : 4 + 1 ≤ R.frames ∧ 8 + (8 + 11) + 91 ≤ R.locals) (zs : ls.size = nL) (zt : st0 = ([.int x, .int (bI two), .int part] : List Value).reverse ++ .ref (b 0) :: rest) (z8 : (rest.map fun v => v.category).sum ≤ 8) (zd : decode cc pc = .ok (.invokevirtual index, 3)) (zf : cells ≤ R.cells ∧ slots ≤ R.slots) (kk : W p l e R s m args below meth c H locs cells slots Q (F0 m (pc + 3) ls (.int (oddsP r x two part) :: rest))) : W p l e R s m args below meth c H locs cells slots Q (F0 m pc ls st0) :=
  z_callV cx vm_X7_odds (c_X7_odds l E b tl pd qt qr tbu wst asw pN tN aN hd dr pl rm ps wx pp tp ap sg uh ud up ur us ux G x two part r hG) (z_rec cx.2 (hW.at 0 rfl) rfl) hW zl ⟨rfl, rfl⟩ zR rfl zs zt z8 zd zf kk
theorem vm_X7_swingsAtAsks : zVm yX7_swingsAtAsks cX7_swingsAtAsks 4 none 1 := ⟨m_co_X7_swingsAtAsks, m_in_RX7, ⟨m_im_X7_swingsAtAsks, m_se_X7_X7_swingsAtAsks⟩, by decide +kernel, by decide +kernel, by decide +kernel⟩
set_option maxHeartbeats 1000000 in
set_option maxRecDepth 100000 in
theorem c_X7_swingsAtAsks (l : Launch) (E : zE) (b : Nat → Nat) (tl : va_W) (pd : Bool) (qt : Nat → Option Nat) (qr : Nat → Option Nat) (tbu : Nat → Int32) (wst : Nat → Int32) (asw : Nat → Int32) (pN : Int32) (tN : Int32) (aN : Int32) (hd : Int32) (dr : Int32) (pl : Int32) (rm : Int32) (ps : Int32) (wx : Nat → Int32) (pp : Nat → Option Nat) (tp : Nat → Option Nat) (ap : Nat → Option Nat) (sg : Nat → Int32) (uh : Int32) (ud : Int32) (up : Int32) (ur : Int32) (us : Int32) (ux : Nat → Int32) (G : zG) (q n : Nat) (r : Nat → Int32) (hG : CG E.2.1 G r pN tN aN wx pp tp ap) (hn : n < nT r) (hq : G q = some (ceT (nI n) (g5 r n 0) (g5 r n 1) (g5 r n 2) (g5 r n 3) (g5 r n 4))) : Met l yX7_swingsAtAsks (.code yX7_swingsAtAsks cX7_swingsAtAsks 4 none :: AllW) (rm0' 4 95) (zP E (fun H => WW E (wK b E.2.1 tl pd qt qr tbu wst asw pN tN aN hd dr pl rm ps wx pp tp ap sg uh ud up ur us ux) G H) [.ref (b 0), .ref q]) (zQ (fun (_ : Heap) (v : Option Value) (H1 : Heap) => (∃ (as2 : Nat → Int32) (sg2 : Nat → Int32), v = none ∧ (∀ k, k < nA r → as2 k = swT (pb r (askW r k)) n (r (103 + 18 * k)) (r (103 + 18 * k + 1))) ∧ WW E (wK b E.2.1 tl pd qt qr tbu wst as2 pN tN aN hd dr pl rm ps wx pp tp ap sg2 uh ud up ur us ux) G H1)) (bF b)) 0 0 (bF b) := by
  refine z_body (own := RX7) (by decide) rfl rfl ?_
  intro p e s m args below meth c ls cx hr hlk hnm hW hl
  have hx := cx.x
  have hb := cx.b
  have hl : lv_has ls 4 [(0, .ref (b 0)), (1, .ref q)] := hl
  have hFb : ∀ k, (bF b) (b k) := fun k => bF_in b k
  have hS : va_S (bF b) s.heap s.heap [] := va_S.rf
  have hG0 := hG
  obtain ⟨hI, hpN, htN, haN, hPc, hTh, hAk, hwx⟩ := hG
  have hC := hI.1
  have hIS := hI.2.1
  have hP := hI.2.2.1
  have hT := hI.2.2.2.1
  have hP10 := (Inv.n0 hC).2
  have hT7 := (Inv.n1 hC).2
  have hA24 := (Inv.n2 hC).2
  have e0 := (Inv.n0 hC).1
  have e1 := (Inv.n1 hC).1
  have e2 := (Inv.n2 hC).1
  refine lv_iconst (pc := 0) (v := 0) hx hb dX7_swingsAtAsks_0 (by decide) ?_
  refine lv_istore_n (pc := 1) (lv' := [(2, .int 0), (0, .ref (b 0)), (1, .ref q)]) hx hb dX7_swingsAtAsks_1 rfl hl (by decide) rfl (fun ls hl => ?_)
  have loop_2 : ∀ (k_2 : Nat) (i : Nat) (x2 : Int32), (nA r - i) < k_2 → (i ≤ nA r) → x2 = nI i → ∀ (as3 : Nat → Int32) (sg3 : Nat → Int32) (H : Heap) (locs : List Loc), (∀ k, k < i → as3 k = swT (pb r (askW r k)) n (r (103 + 18 * k)) (r (103 + 18 * k + 1))) → WW E (wK b E.2.1 tl pd qt qr tbu wst as3 pN tN aN hd dr pl rm ps wx pp tp ap sg3 uh ud up ur us ux) G H → va_S (bF b) s.heap H locs → ∀ (ls : Array Slot), lv_has ls 4 [(2, .int x2), (0, .ref (b 0)), (1, .ref q)] → W p l e (rm0' (4) (95)) s m args below meth c H locs 0 0 (MQ below (zQ (fun (_ : Heap) (v : Option Value) (H1 : Heap) => (∃ (as2 : Nat → Int32) (sg2 : Nat → Int32), v = none ∧ (∀ k, k < nA r → as2 k = swT (pb r (askW r k)) n (r (103 + 18 * k)) (r (103 + 18 * k + 1))) ∧ WW E (wK b E.2.1 tl pd qt qr tbu wst as2 pN tN aN hd dr pl rm ps wx pp tp ap sg2 uh ud up ur us ux) G H1)) (bF b)) args s 0 0 (bF b)) (F0 m 2 ls []) := by
    intro k_2
    induction k_2 with
    | zero =>
      intro i x2 hm
      exact absurd hm (Nat.not_lt_zero _)
    | succ k_2 ih_2 =>
      intro i x2 hm_2 hi e_x2 as3 sg3 H locs has hW hS ls hl
      subst e_x2
      refine lv_iload_n (pc := 2) hx hb dX7_swingsAtAsks_2 rfl (lv_at hl 0 rfl) ?_
      refine lv_aload_n (pc := 3) hx hb dX7_swingsAtAsks_3 rfl (lv_at hl 1 rfl) ?_
      refine z_get (pc := 4) cx (hW.at 0 rfl) (C := RX7) (T := TX7) (N := 11) rfl i_X7 0 rfl m_fl_X7_10 rfl dX7_swingsAtAsks_4 ?_
      refine z_get (pc := 7) cx (hW.at 6 rfl) (C := RX1) (T := TX1) (N := 8) rfl i_X1 2 rfl m_fl_X7_203 rfl dX7_swingsAtAsks_7 ?_
      refine lv_icmp_ge (pc := 10) (tgt := 58) hx hb dX7_swingsAtAsks_10 (by decide) (fun c_1 => ?_) (fun c_1 => ?_)
      · skip
        obtain rfl : i = nA r := by have := ge_nat (a := i) rfl haN (by omega) (by omega) c_1; omega
        exact z_wvret cx hr hlk dX7_swingsAtAsks_58 hS ⟨_, _, rfl, has, hW⟩
      · skip
        have hlt_i := lt_nat (a := i) rfl haN (by omega) (by omega) c_1
        refine lv_aload_n (pc := 13) hx hb dX7_swingsAtAsks_13 rfl (lv_at hl 1 rfl) ?_
        refine z_get (pc := 14) cx (hW.at 0 rfl) (C := RX7) (T := TX7) (N := 11) rfl i_X7 0 rfl m_fl_X7_10 rfl dX7_swingsAtAsks_14 ?_
        refine lv_iload_n (pc := 17) hx hb dX7_swingsAtAsks_17 rfl (lv_at hl 0 rfl) ?_
        obtain ⟨q1, tq1, wq1, xq1, h1q1, h2q1, h3q1, h4q1, h5q1⟩ := hAk i hlt_i
        have hIA := hI.2.2.2.2 i hlt_i
        refine k_X1_askAt (pc := 18) (n := i) (q := q1) cx hW hC haN hlt_i h1q1 m_ml_X7_276 ⟨Nat.le_of_ble_eq_true rfl, Nat.le_of_ble_eq_true rfl⟩ hl.1 rfl (by simp [Value.category]) dX7_swingsAtAsks_18 ⟨Nat.le_refl _, Nat.le_refl _⟩ ?_
        refine lv_astore_n (pc := 21) (lv' := [(3, .ref q1), (2, .int (nI i)), (0, .ref (b 0)), (1, .ref q)]) hx hb dX7_swingsAtAsks_21 rfl hl (by decide) rfl (fun ls hl => ?_)
        refine lv_aload_n (pc := 22) hx hb dX7_swingsAtAsks_22 rfl (lv_at hl 0 rfl) ?_
        refine lv_ifnull (pc := 23) hx hb dX7_swingsAtAsks_23 ?_
        refine lv_aload_n (pc := 26) hx hb dX7_swingsAtAsks_26 rfl (lv_at hl 2 rfl) ?_
        refine z_get (pc := 27) cx (hW.at 0 rfl) (C := RX7) (T := TX7) (N := 11) rfl i_X7 10 rfl m_fl_X7_55 rfl dX7_swingsAtAsks_27 ?_
        refine lv_iload_n (pc := 30) hx hb dX7_swingsAtAsks_30 rfl (lv_at hl 1 rfl) ?_
        refine lv_aload_n (pc := 31) hx hb dX7_swingsAtAsks_31 rfl (lv_at hl 2 rfl) ?_
        refine z_get (pc := 32) cx (hW.at 0 rfl) (C := RX7) (T := TX7) (N := 11) rfl i_X7 0 rfl m_fl_X7_10 rfl dX7_swingsAtAsks_32 ?_
        refine lv_aload_n (pc := 35) hx hb dX7_swingsAtAsks_35 rfl (lv_at hl 3 rfl) ?_
        refine lv_aload_n (pc := 36) hx hb dX7_swingsAtAsks_36 rfl (lv_at hl 0 rfl) ?_
        refine z_get (pc := 37) cx (hW.dyn h2q1) (C := RX0) (T := TX0) (N := 5) rfl i_X0 4 rfl m_fl_X7_280 rfl dX7_swingsAtAsks_37 ?_
        refine lv_aload_n (pc := 40) hx hb dX7_swingsAtAsks_40 rfl (lv_at hl 0 rfl) ?_
        refine z_get (pc := 41) cx (hW.dyn h2q1) (C := RX0) (T := TX0) (N := 5) rfl i_X0 0 rfl m_fl_X7_285 rfl dX7_swingsAtAsks_41 ?_
        refine lv_aload_n (pc := 44) hx hb dX7_swingsAtAsks_44 rfl (lv_at hl 0 rfl) ?_
        refine z_get (pc := 45) cx (hW.dyn h2q1) (C := RX0) (T := TX0) (N := 5) rfl i_X0 1 rfl m_fl_X7_288 rfl dX7_swingsAtAsks_45 ?_
        refine k_X1_swingsOf (pc := 48) (q := q) (t := tq1) (f := r (103 + 18 * i)) (st := r (103 + 18 * i + 1)) (n := n) (r := pb r (askW r i)) (w := wq1) (xw := xq1) cx hW hS (fun _ h => h) (Inv_ask hI hlt_i) hpN (PcG_pb hPc) hn hIA.1 (TC_pb hq) (fun _ _ h => StA_pb hP10 (h.dyn h3q1) (h.dyn h4q1) h5q1) m_ml_X7_182 ⟨Nat.le_of_ble_eq_true rfl, Nat.le_of_ble_eq_true rfl⟩ hl.1 rfl (by simp [Value.category]) dX7_swingsAtAsks_48 ⟨Nat.le_refl _, Nat.le_refl _⟩ (fun sg2_48 H locs  hW hS => ?_)
        have hW : WW E (wK b E.2.1 tl pd qt qr tbu wst as3 pN tN aN hd dr pl rm ps wx pp tp ap sg2_48 uh ud up ur us ux) G H := hW
        refine z_iast (pc := 51) (f := as3) (j := i) cx hW hS 5 rfl (hFb 5) rfl (by omega) (by decide) dX7_swingsAtAsks_51 (fun H locs hW hS => ?_)
        have hW : WW E (wK b E.2.1 tl pd qt qr tbu wst (upd as3 i (swT (pb r (askW r i)) n (r (103 + 18 * i)) (r (103 + 18 * i + 1)))) pN tN aN hd dr pl rm ps wx pp tp ap sg2_48 uh ud up ur us ux) G H := hW
        refine lv_iinc (pc := 52) (v := nI (i + 1)) (lv' := [(2, .int (nI (i + 1))), (3, .ref q1), (0, .ref (b 0)), (1, .ref q)]) hx hb dX7_swingsAtAsks_52 hl (k := 1) rfl (nI_1 _) (by decide) rfl (fun ls hl => ?_)
        refine lv_goto (pc := 55) (tgt := 2) hx hb dX7_swingsAtAsks_55 (by decide) ?_
        exact ih_2 (i + 1) (nI (i + 1)) (by omega) (by omega) (by first | rfl | (simp []; done)) _ _ _ _ (upd_nx (g := fun k => swT (pb r (askW r k)) n (r (103 + 18 * k)) (r (103 + 18 * k + 1))) has) (hW) hS ls (lv_sub hl [0, 2, 3] rfl)
  exact loop_2 ((nA r - 0) + 1) 0 0 (Nat.lt_succ_self _) (by omega) (by first | rfl | (simp []; done)) asw sg _ _ (fun j h => absurd h (Nat.not_lt_zero _)) (hW) hS ls (lv_sub hl [0, 1, 2] rfl)
theorem k_X7_swingsAtAsks {p : Program} {l : Launch} {e : Env} {R : Room} {s : State} {m : MethodId} {args : Array Value} {below : List Frame} {meth : Method} {c : Code} {H H0 : Heap} {locs : List Loc} {cells slots : Nat} {Q : State → Prop} {cc : ByteArray} {pc index : Nat} {ls : Array Slot} {rest st0 : List Value} {E : zE} {own : String} {nL : Nat} {F : Nat → Prop} {b : Nat → Nat} {tl : va_W} {pd : Bool} {qt : Nat → Option Nat} {qr : Nat → Option Nat} {tbu : Nat → Int32} {wst : Nat → Int32} {asw : Nat → Int32} {pN : Int32} {tN : Int32} {aN : Int32} {hd : Int32} {dr : Int32} {pl : Int32} {rm : Int32} {ps : Int32} {wx : Nat → Int32} {pp : Nat → Option Nat} {tp : Nat → Option Nat} {ap : Nat → Option Nat} {sg : Nat → Int32} {uh : Int32} {ud : Int32} {up : Int32} {ur : Int32} {us : Int32} {ux : Nat → Int32} {G : zG} {q n : Nat} {r : Nat → Int32} (cx : Cx E p s args m c own cc nL) (hW : WW E (wK b E.2.1 tl pd qt qr tbu wst asw pN tN aN hd dr pl rm ps wx pp tp ap sg uh ud up ur us ux) G H) (hS : va_S F H0 H locs) (zF : ∀ q, (bF b) q → F q) (hG : CG E.2.1 G r pN tN aN wx pp tp ap) (hn : n < nT r) (hq : G q = some (ceT (nI n) (g5 r n 0) (g5 r n 1) (g5 r n 2) (g5 r n 3) (g5 r n 4))) (zl : Cond.methodLink own index yX7_swingsAtAsks ∈ AllW) (zR : 4 + 1 ≤ R.frames ∧ 8 + (4 + 11) + 95 ≤ R.locals) (zs : ls.size = nL) (zt : st0 = ([.ref q] : List Value).reverse ++ .ref (b 0) :: rest) (z8 : (rest.map fun v => v.category).sum ≤ 8) (zd : decode cc pc = .ok (.invokevirtual index, 3)) (zf : cells ≤ R.cells ∧ slots ≤ R.slots) (kk0 : ∀ (as2 : Nat → Int32) (sg2 : Nat → Int32) (H1 : Heap) (locs1 : List Loc), (∀ k, k < nA r → as2 k = swT (pb r (askW r k)) n (r (103 + 18 * k)) (r (103 + 18 * k + 1))) → WW E (wK b E.2.1 tl pd qt qr tbu wst as2 pN tN aN hd dr pl rm ps wx pp tp ap sg2 uh ud up ur us ux) G H1 → va_S F H0 H1 locs1 → W p l e R s m args below meth c H1 locs1 cells slots Q (F0 m (pc + 3) ls (rest))) : W p l e R s m args below meth c H locs cells slots Q (F0 m pc ls st0) := by
  refine z_callVw cx vm_X7_swingsAtAsks (c_X7_swingsAtAsks l E b tl pd qt qr tbu wst asw pN tN aN hd dr pl rm ps wx pp tp ap sg uh ud up ur us ux G q n r hG hn hq) (z_rec cx.2 (hW.at 0 rfl) rfl) hW hS zF zl ⟨rfl, rfl⟩ zR rfl zs zt z8 zd zf (fun v H1 locs1 hq hS1 _ => ?_)
  rcases hq with ⟨as2, sg2, rfl, hfa, hW1⟩
  · exact kk0 as2 sg2 H1 locs1 hfa hW1 hS1
theorem vm_X7_isGapFit : zVm yX7_isGapFit cX7_isGapFit 5 (some FieldType.boolean) 2 := ⟨m_co_X7_isGapFit, m_in_RX7, ⟨m_im_X7_isGapFit, m_se_X7_X7_isGapFit⟩, by decide +kernel, by decide +kernel, by decide +kernel⟩
set_option maxHeartbeats 1000000 in
set_option maxRecDepth 100000 in
theorem c_X7_isGapFit (l : Launch) (E : zE) (b : Nat → Nat) (tl : va_W) (pd : Bool) (qt : Nat → Option Nat) (qr : Nat → Option Nat) (tbu : Nat → Int32) (wst : Nat → Int32) (asw : Nat → Int32) (pN : Int32) (tN : Int32) (aN : Int32) (hd : Int32) (dr : Int32) (pl : Int32) (rm : Int32) (ps : Int32) (wx : Nat → Int32) (pp : Nat → Option Nat) (tp : Nat → Option Nat) (ap : Nat → Option Nat) (sg : Nat → Int32) (uh : Int32) (ud : Int32) (up : Int32) (ur : Int32) (us : Int32) (ux : Nat → Int32) (G : zG) (q n g : Nat) (r : Nat → Int32) (hG : CG E.2.1 G r pN tN aN wx pp tp ap) (hn : n < nT r) (hq : G q = some (ceT (nI n) (g5 r n 0) (g5 r n 1) (g5 r n 2) (g5 r n 3) (g5 r n 4))) (hg : 1 ≤ g ∧ g ≤ 999) (has : ∀ k, k < nA r → asw k = swT (pb r (askW r k)) n (r (103 + 18 * k)) (r (103 + 18 * k + 1))) : Met l yX7_isGapFit (.code yX7_isGapFit cX7_isGapFit 5 (some FieldType.boolean) :: AllW) (rm0' 3 68) (zP E (fun H => WW E (wK b E.2.1 tl pd qt qr tbu wst asw pN tN aN hd dr pl rm ps wx pp tp ap sg uh ud up ur us ux) G H) [.ref (b 0), .ref q, .int (nI g)]) (rQ (.int (bI (lnT r n g)))) 0 0 nF := by
  refine z_body (own := RX7) (by decide) rfl rfl ?_
  intro p e s m args below meth c ls cx hr hlk hnm hW hl
  have hx := cx.x
  have hb := cx.b
  have hl : lv_has ls 5 [(0, .ref (b 0)), (1, .ref q), (2, .int (nI g))] := hl
  have hG0 := hG
  obtain ⟨hI, hpN, htN, haN, hPc, hTh, hAk, hwx⟩ := hG
  have hC := hI.1
  have hIS := hI.2.1
  have hP := hI.2.2.1
  have hT := hI.2.2.2.1
  have hP10 := (Inv.n0 hC).2
  have hT7 := (Inv.n1 hC).2
  have hA24 := (Inv.n2 hC).2
  have e0 := (Inv.n0 hC).1
  have e1 := (Inv.n1 hC).1
  have e2 := (Inv.n2 hC).1
  have hln := ln_all hI hn hg.1 hg.2 has
  refine lv_iconst (pc := 0) (v := 0) hx hb dX7_isGapFit_0 (by decide) ?_
  refine lv_istore_n (pc := 1) (lv' := [(3, .int 0), (0, .ref (b 0)), (1, .ref q), (2, .int (nI g))]) hx hb dX7_isGapFit_1 rfl hl (by decide) rfl (fun ls hl => ?_)
  have loop_2 : ∀ (k_2 : Nat) (i : Nat) (x3 : Int32), (nA r - i) < k_2 → (i ≤ nA r) → (allN (lnP r asw n (nI g)) (nA r) 0 = allN (lnP r asw n (nI g)) (nA r - i) i) → x3 = nI i → ∀ (ls : Array Slot), lv_has ls 5 [(3, .int x3), (0, .ref (b 0)), (1, .ref q), (2, .int (nI g))] → W p l e (rm0' (3) (68)) s m args below meth c s.heap [] 0 0 (MQ below (rQ (.int (bI (lnT r n g)))) args s 0 0 nF) (F0 m 2 ls []) := by
    intro k_2
    induction k_2 with
    | zero =>
      intro i x3 hm
      exact absurd hm (Nat.not_lt_zero _)
    | succ k_2 ih_2 =>
      intro i x3 hm_2 hi he e_x3  ls hl
      subst e_x3
      refine lv_iload_n (pc := 2) hx hb dX7_isGapFit_2 rfl (lv_at hl 0 rfl) ?_
      refine lv_aload_n (pc := 3) hx hb dX7_isGapFit_3 rfl (lv_at hl 1 rfl) ?_
      refine z_get (pc := 4) cx (hW.at 0 rfl) (C := RX7) (T := TX7) (N := 11) rfl i_X7 0 rfl m_fl_X7_10 rfl dX7_isGapFit_4 ?_
      refine z_get (pc := 7) cx (hW.at 6 rfl) (C := RX1) (T := TX1) (N := 8) rfl i_X1 2 rfl m_fl_X7_203 rfl dX7_isGapFit_7 ?_
      refine lv_icmp_ge (pc := 10) (tgt := 72) hx hb dX7_isGapFit_10 (by decide) (fun c_1 => ?_) (fun c_1 => ?_)
      · skip
        obtain rfl : i = nA r := by have := ge_nat (a := i) rfl haN (by omega) (by omega) c_1; omega
        refine lv_iconst (pc := 72) (v := 1) hx hb dX7_isGapFit_72 (by decide) ?_
        exact z_zret cx hr hlk dX7_isGapFit_73 (by rw [hln, he, Nat.sub_self]; rfl)
      · skip
        have hlt_i := lt_nat (a := i) rfl haN (by omega) (by omega) c_1
        refine lv_aload_n (pc := 13) hx hb dX7_isGapFit_13 rfl (lv_at hl 1 rfl) ?_
        refine z_get (pc := 14) cx (hW.at 0 rfl) (C := RX7) (T := TX7) (N := 11) rfl i_X7 0 rfl m_fl_X7_10 rfl dX7_isGapFit_14 ?_
        refine lv_iload_n (pc := 17) hx hb dX7_isGapFit_17 rfl (lv_at hl 0 rfl) ?_
        obtain ⟨q1, tq1, wq1, xq1, h1q1, h2q1, h3q1, h4q1, h5q1⟩ := hAk i hlt_i
        refine k_X1_askAt (pc := 18) (n := i) (q := q1) cx hW hC haN hlt_i h1q1 m_ml_X7_276 ⟨Nat.le_of_ble_eq_true rfl, Nat.le_of_ble_eq_true rfl⟩ hl.1 rfl (by simp [Value.category]) dX7_isGapFit_18 ⟨Nat.le_refl _, Nat.le_refl _⟩ ?_
        refine lv_astore (pc := 21) (lv' := [(4, .ref q1), (3, .int (nI i)), (0, .ref (b 0)), (1, .ref q), (2, .int (nI g))]) hx hb dX7_isGapFit_21 hl (by decide) rfl (fun ls hl => ?_)
        refine lv_aload (pc := 23) hx hb dX7_isGapFit_23 (lv_at hl 0 rfl) ?_
        refine lv_ifnull (pc := 25) hx hb dX7_isGapFit_25 ?_
        refine lv_aload_n (pc := 28) hx hb dX7_isGapFit_28 rfl (lv_at hl 2 rfl) ?_
        refine z_get (pc := 29) cx (hW.at 0 rfl) (C := RX7) (T := TX7) (N := 11) rfl i_X7 10 rfl m_fl_X7_55 rfl dX7_isGapFit_29 ?_
        refine lv_iload_n (pc := 32) hx hb dX7_isGapFit_32 rfl (lv_at hl 1 rfl) ?_
        refine z_iald (pc := 33) (f := asw) (j := i) cx (hW.at 5 rfl) rfl (by omega) (by decide) dX7_isGapFit_33 ?_
        refine lv_aload_n (pc := 34) hx hb dX7_isGapFit_34 rfl (lv_at hl 2 rfl) ?_
        refine z_get (pc := 35) cx (hW.at 0 rfl) (C := RX7) (T := TX7) (N := 11) rfl i_X7 0 rfl m_fl_X7_10 rfl dX7_isGapFit_35 ?_
        refine lv_aload_n (pc := 38) hx hb dX7_isGapFit_38 rfl (lv_at hl 3 rfl) ?_
        refine lv_iload_n (pc := 39) hx hb dX7_isGapFit_39 rfl (lv_at hl 4 rfl) ?_
        refine lv_aload (pc := 40) hx hb dX7_isGapFit_40 (lv_at hl 0 rfl) ?_
        refine z_get (pc := 42) cx (hW.dyn h2q1) (C := RX0) (T := TX0) (N := 5) rfl i_X0 4 rfl m_fl_X7_280 rfl dX7_isGapFit_42 ?_
        refine k_X1_strikesOf (pc := 45) (q := q) (gap := nI g) (t := tq1) (n := n) (r := pb r (askW r i)) (w := wq1) (xw := xq1) cx hW (Inv_ask hI hlt_i) hpN (PcG_pb hPc) hn (TC_pb hq) (fun _ _ h => StA_pb hP10 (h.dyn h3q1) (h.dyn h4q1) h5q1) m_ml_X7_186 ⟨Nat.le_of_ble_eq_true rfl, Nat.le_of_ble_eq_true rfl⟩ hl.1 rfl (by simp [Value.category]) dX7_isGapFit_45 ⟨Nat.le_refl _, Nat.le_refl _⟩ ?_
        refine lv_icmp_le (pc := 48) (tgt := 55) hx hb dX7_isGapFit_48 (by decide) (fun c_2 => ?_) (fun c_2 => ?_)
        · skip
          have hq2 : decide (stW (pb r (askW r i)) n (nI g) (pb r (askW r i) 4) < asw i) = false := decide_eq_false (Int32.not_lt.mpr c_2)
          refine lv_iconst (pc := 55) (v := 0) hx hb dX7_isGapFit_55 (by decide) ?_
          refine lv_aload (pc := 56) hx hb dX7_isGapFit_56 (lv_at hl 0 rfl) ?_
          refine z_get (pc := 58) cx (hW.dyn h2q1) (C := RX0) (T := TX0) (N := 5) rfl i_X0 2 rfl m_fl_X7_291 rfl dX7_isGapFit_58 ?_
          refine lv_icmp_eq (pc := 61) (tgt := 66) hx hb dX7_isGapFit_61 (by decide) (fun c_3 => ?_) (fun c_3 => ?_)
          · skip
            have hpp : (lnP r asw n (nI g)) i = true := by unfold lnP; rw [hq2]; exact gp_t c_3
            refine lv_iinc (pc := 66) (v := nI (i + 1)) (lv' := [(3, .int (nI (i + 1))), (4, .ref q1), (0, .ref (b 0)), (1, .ref q), (2, .int (nI g))]) hx hb dX7_isGapFit_66 hl (k := 1) rfl (nI_1 _) (by decide) rfl (fun ls hl => ?_)
            refine lv_goto (pc := 69) (tgt := 2) hx hb dX7_isGapFit_69 (by decide) ?_
            exact ih_2 (i + 1) (nI (i + 1)) (by omega) (by omega) (by rw [he, allN_go hpp (by omega)]; rfl) (by first | rfl | (simp [bI, c_2, c_3, i_nlt.mpr c_2]; done)) ls (lv_sub hl [0, 2, 3, 4] rfl)
          · skip
            have hpp : (lnP r asw n (nI g)) i = false := by unfold lnP; rw [hq2]; exact gp_f c_3
            refine lv_iconst (pc := 64) (v := 0) hx hb dX7_isGapFit_64 (by decide) ?_
            exact z_zret cx hr hlk dX7_isGapFit_65 (by rw [hln, he, allN_no hpp (by omega)]; rfl)
        · skip
          have hq2 : decide (stW (pb r (askW r i)) n (nI g) (pb r (askW r i) 4) < asw i) = true := decide_eq_true (Int32.not_le.mp c_2)
          refine lv_iconst (pc := 51) (v := 1) hx hb dX7_isGapFit_51 (by decide) ?_
          refine lv_goto (pc := 52) (tgt := 56) hx hb dX7_isGapFit_52 (by decide) ?_
          refine lv_aload (pc := 56) hx hb dX7_isGapFit_56 (lv_at hl 0 rfl) ?_
          refine z_get (pc := 58) cx (hW.dyn h2q1) (C := RX0) (T := TX0) (N := 5) rfl i_X0 2 rfl m_fl_X7_291 rfl dX7_isGapFit_58 ?_
          refine lv_icmp_eq (pc := 61) (tgt := 66) hx hb dX7_isGapFit_61 (by decide) (fun c_4 => ?_) (fun c_4 => ?_)
          · skip
            have hpp : (lnP r asw n (nI g)) i = true := by unfold lnP; rw [hq2]; exact gp_t c_4
            refine lv_iinc (pc := 66) (v := nI (i + 1)) (lv' := [(3, .int (nI (i + 1))), (4, .ref q1), (0, .ref (b 0)), (1, .ref q), (2, .int (nI g))]) hx hb dX7_isGapFit_66 hl (k := 1) rfl (nI_1 _) (by decide) rfl (fun ls hl => ?_)
            refine lv_goto (pc := 69) (tgt := 2) hx hb dX7_isGapFit_69 (by decide) ?_
            exact ih_2 (i + 1) (nI (i + 1)) (by omega) (by omega) (by rw [he, allN_go hpp (by omega)]; rfl) (by first | rfl | (simp [bI, c_2, c_4, i_nle.mp c_2]; done)) ls (lv_sub hl [0, 2, 3, 4] rfl)
          · skip
            have hpp : (lnP r asw n (nI g)) i = false := by unfold lnP; rw [hq2]; exact gp_f c_4
            refine lv_iconst (pc := 64) (v := 0) hx hb dX7_isGapFit_64 (by decide) ?_
            exact z_zret cx hr hlk dX7_isGapFit_65 (by rw [hln, he, allN_no hpp (by omega)]; rfl)
  exact loop_2 ((nA r - 0) + 1) 0 0 (Nat.lt_succ_self _) (by omega) rfl (by first | rfl | (simp [bI]; done)) ls (lv_sub hl [0, 1, 2, 3] rfl)
theorem k_X7_isGapFit {p : Program} {l : Launch} {e : Env} {R : Room} {s : State} {m : MethodId} {args : Array Value} {below : List Frame} {meth : Method} {c : Code} {H : Heap} {locs : List Loc} {cells slots : Nat} {Q : State → Prop} {cc : ByteArray} {pc index : Nat} {ls : Array Slot} {rest st0 : List Value} {E : zE} {own : String} {nL : Nat} {b : Nat → Nat} {tl : va_W} {pd : Bool} {qt : Nat → Option Nat} {qr : Nat → Option Nat} {tbu : Nat → Int32} {wst : Nat → Int32} {asw : Nat → Int32} {pN : Int32} {tN : Int32} {aN : Int32} {hd : Int32} {dr : Int32} {pl : Int32} {rm : Int32} {ps : Int32} {wx : Nat → Int32} {pp : Nat → Option Nat} {tp : Nat → Option Nat} {ap : Nat → Option Nat} {sg : Nat → Int32} {uh : Int32} {ud : Int32} {up : Int32} {ur : Int32} {us : Int32} {ux : Nat → Int32} {G : zG} {q n g : Nat} {r : Nat → Int32} (cx : Cx E p s args m c own cc nL) (hW : WW E (wK b E.2.1 tl pd qt qr tbu wst asw pN tN aN hd dr pl rm ps wx pp tp ap sg uh ud up ur us ux) G H) (hG : CG E.2.1 G r pN tN aN wx pp tp ap) (hn : n < nT r) (hq : G q = some (ceT (nI n) (g5 r n 0) (g5 r n 1) (g5 r n 2) (g5 r n 3) (g5 r n 4))) (hg : 1 ≤ g ∧ g ≤ 999) (has : ∀ k, k < nA r → asw k = swT (pb r (askW r k)) n (r (103 + 18 * k)) (r (103 + 18 * k + 1))) (zl : Cond.methodLink own index yX7_isGapFit ∈ AllW) (zR : 3 + 1 ≤ R.frames ∧ 8 + (5 + 11) + 68 ≤ R.locals) (zs : ls.size = nL) (zt : st0 = ([.ref q, .int (nI g)] : List Value).reverse ++ .ref (b 0) :: rest) (z8 : (rest.map fun v => v.category).sum ≤ 8) (zd : decode cc pc = .ok (.invokevirtual index, 3)) (zf : cells ≤ R.cells ∧ slots ≤ R.slots) (kk : W p l e R s m args below meth c H locs cells slots Q (F0 m (pc + 3) ls (.int (bI (lnT r n g)) :: rest))) : W p l e R s m args below meth c H locs cells slots Q (F0 m pc ls st0) :=
  z_callV cx vm_X7_isGapFit (c_X7_isGapFit l E b tl pd qt qr tbu wst asw pN tN aN hd dr pl rm ps wx pp tp ap sg uh ud up ur us ux G q n g r hG hn hq hg has) (z_rec cx.2 (hW.at 0 rfl) rfl) hW zl ⟨rfl, rfl⟩ zR rfl zs zt z8 zd zf kk
theorem vm_X7_length : zVm yX7_length cX7_length 7 (some FieldType.int) 2 := ⟨m_co_X7_length, m_in_RX7, ⟨m_im_X7_length, m_se_X7_X7_length⟩, by decide +kernel, by decide +kernel, by decide +kernel⟩
set_option maxHeartbeats 1000000 in
set_option maxRecDepth 100000 in
theorem c_X7_length (l : Launch) (E : zE) (b : Nat → Nat) (tl : va_W) (pd : Bool) (qt : Nat → Option Nat) (qr : Nat → Option Nat) (tbu : Nat → Int32) (wst : Nat → Int32) (asw : Nat → Int32) (pN : Int32) (tN : Int32) (aN : Int32) (hd : Int32) (dr : Int32) (pl : Int32) (rm : Int32) (ps : Int32) (wx : Nat → Int32) (pp : Nat → Option Nat) (tp : Nat → Option Nat) (ap : Nat → Option Nat) (sg : Nat → Int32) (uh : Int32) (ud : Int32) (up : Int32) (ur : Int32) (us : Int32) (ux : Nat → Int32) (G : zG) (x w : Int32) (r : Nat → Int32) (hG : CG E.2.1 G r pN tN aN wx pp tp ap) : Met l yX7_length (.code yX7_length cX7_length 7 (some FieldType.int) :: AllW) (rm0' 5 118) (zP E (fun H => WW E (wK b E.2.1 tl pd qt qr tbu wst asw pN tN aN hd dr pl rm ps wx pp tp ap sg uh ud up ur us ux) G H) [.ref (b 0), .int x, .int w]) (zQ (fun (_ : Heap) (v : Option Value) (H1 : Heap) => (∃ (as2 : Nat → Int32) (sg2 : Nat → Int32), v = some (.int (lengthP r x w)) ∧ WW E (wK b E.2.1 tl pd qt qr tbu wst as2 pN tN aN hd dr pl rm ps wx pp tp ap sg2 uh ud up ur us ux) G H1)) (bF b)) 0 0 (bF b) := by
  refine z_body (own := RX7) (by decide) rfl rfl ?_
  intro p e s m args below meth c ls cx hr hlk hnm hW hl
  have hx := cx.x
  have hb := cx.b
  have hl : lv_has ls 7 [(0, .ref (b 0)), (1, .int x), (2, .int w)] := hl
  have hFb : ∀ k, (bF b) (b k) := fun k => bF_in b k
  have hS : va_S (bF b) s.heap s.heap [] := va_S.rf
  have hG0 := hG
  obtain ⟨hI, hpN, htN, haN, hPc, hTh, hAk, hwx⟩ := hG
  have hC := hI.1
  have hIS := hI.2.1
  have hP := hI.2.2.1
  have hT := hI.2.2.2.1
  have hP10 := (Inv.n0 hC).2
  have hT7 := (Inv.n1 hC).2
  have hA24 := (Inv.n2 hC).2
  have e0 := (Inv.n0 hC).1
  have e1 := (Inv.n1 hC).1
  have e2 := (Inv.n2 hC).1
  refine lv_aload_n (pc := 0) hx hb dX7_length_0 rfl (lv_at hl 0 rfl) ?_
  refine z_get (pc := 1) cx (hW.at 0 rfl) (C := RX7) (T := TX7) (N := 11) rfl i_X7 0 rfl m_fl_X7_10 rfl dX7_length_1 ?_
  refine lv_iload_n (pc := 4) hx hb dX7_length_4 rfl (lv_at hl 1 rfl) ?_
  by_cases c_1 : isTh r x = true
  · skip
    obtain ⟨n, hn, rfl⟩ := th_nat hC c_1
    have hNn := iN_nI (n := n) (by omega)
    obtain ⟨q1, h1q1, h2q1⟩ := hTh n hn
    refine k_X1_thingAt (pc := 5) (n := n) (q := q1) cx hW hC htN hn h1q1 m_ml_X7_133 ⟨Nat.le_of_ble_eq_true rfl, Nat.le_of_ble_eq_true rfl⟩ hl.1 rfl (by simp [Value.category]) dX7_length_5 ⟨Nat.le_refl _, Nat.le_refl _⟩ ?_
    refine lv_astore_n (pc := 8) (lv' := [(3, .ref q1), (0, .ref (b 0)), (1, .int (nI n)), (2, .int w)]) hx hb dX7_length_8 rfl hl (by decide) rfl (fun ls hl => ?_)
    refine lv_aload_n (pc := 9) hx hb dX7_length_9 rfl (lv_at hl 0 rfl) ?_
    refine lv_ifnull (pc := 10) hx hb dX7_length_10 ?_
    refine lv_iload_n (pc := 13) hx hb dX7_length_13 rfl (lv_at hl 3 rfl) ?_
    refine lv_iconst (pc := 14) (v := 0) hx hb dX7_length_14 (by decide) ?_
    refine lv_iconst (pc := 15) (v := 1) hx hb dX7_length_15 (by decide) ?_
    refine k_X7_isWithin (pc := 16) (x := w) (y := 0) (z := 1) cx  m_ml_X7_159 ⟨Nat.le_of_ble_eq_true rfl, Nat.le_of_ble_eq_true rfl⟩ hl.1 rfl (by simp [Value.category]) dX7_length_16 ⟨Nat.le_refl _, Nat.le_refl _⟩ ?_
    refine z_ifne (pc := 19) (tgt := 24) hx hb dX7_length_19 (by decide) (fun c_2 => ?_) (fun c_2 => ?_)
    · skip
      have hin := inL_1 c_2
      refine lv_aload_n (pc := 24) hx hb dX7_length_24 rfl (lv_at hl 1 rfl) ?_
      refine lv_aload_n (pc := 25) hx hb dX7_length_25 rfl (lv_at hl 0 rfl) ?_
      refine k_X7_swingsAtAsks (pc := 26) (q := q1) (n := n) cx hW hS (fun _ h => h) hG0 hn h2q1 m_ml_X7_268 ⟨Nat.le_of_ble_eq_true rfl, Nat.le_of_ble_eq_true rfl⟩ hl.1 rfl (by simp [Value.category]) dX7_length_26 ⟨Nat.le_refl _, Nat.le_refl _⟩ (fun as2_26 sg2_26 H locs hfa_26 hW hS => ?_)
      have hW : WW E (wK b E.2.1 tl pd qt qr tbu wst as2_26 pN tN aN hd dr pl rm ps wx pp tp ap sg2_26 uh ud up ur us ux) G H := hW
      refine lv_iload_n (pc := 29) hx hb dX7_length_29 rfl (lv_at hl 3 rfl) ?_
      refine lv_if_ne (pc := 30) (tgt := 37) hx hb dX7_length_30 (by decide) (fun c_3 => ?_) (fun c_3 => ?_)
      · skip
        obtain rfl : w = 1 := hin.resolve_left c_3
        refine lv_iconst (pc := 37) (v := (-1)) hx hb dX7_length_37 (by decide) ?_
        refine lv_istore (pc := 38) (lv' := [(4, .int (-1)), (3, .ref q1), (0, .ref (b 0)), (1, .int (nI n)), (2, .int 1)]) hx hb dX7_length_38 hl (by decide) rfl (fun ls hl => ?_)
        refine lv_iload_n (pc := 40) hx hb dX7_length_40 rfl (lv_at hl 4 rfl) ?_
        refine lv_if_ne (pc := 41) (tgt := 48) hx hb dX7_length_41 (by decide) (fun _ => ?_) (fun c => absurd c (by decide))
        refine lv_sipush (pc := 48) (v := 999) hx hb dX7_length_48 (by decide) ?_
        refine lv_istore (pc := 51) (lv' := [(5, .int 999), (4, .int (-1)), (3, .ref q1), (0, .ref (b 0)), (1, .int (nI n)), (2, .int 1)]) hx hb dX7_length_51 hl (by decide) rfl (fun ls hl => ?_)
        refine lv_iconst (pc := 53) (v := 0) hx hb dX7_length_53 (by decide) ?_
        refine lv_istore (pc := 54) (lv' := [(6, .int 0), (5, .int 999), (4, .int (-1)), (3, .ref q1), (0, .ref (b 0)), (1, .int (nI n)), (2, .int 1)]) hx hb dX7_length_54 hl (by decide) rfl (fun ls hl => ?_)
        have loop_56 : ∀ (k_56 : Nat) (i : Nat) (x6 : Int32) (x5 : Int32), (999 - i) < k_56 → (i ≤ 999) → (∀ g, 999 - i ≤ g → g < 999 → lnT r n (g + 1) = false) → x6 = nI i → x5 = nI (999 - i) → ∀ (H : Heap) (locs : List Loc), WW E (wK b E.2.1 tl pd qt qr tbu wst as2_26 pN tN aN hd dr pl rm ps wx pp tp ap sg2_26 uh ud up ur us ux) G H → va_S (bF b) s.heap H locs → ∀ (ls : Array Slot), lv_has ls 7 [(6, .int x6), (5, .int x5), (4, .int (-1)), (3, .ref q1), (0, .ref (b 0)), (1, .int (nI n)), (2, .int 1)] → W p l e (rm0' (5) (118)) s m args below meth c H locs 0 0 (MQ below (zQ (fun (_ : Heap) (v : Option Value) (H1 : Heap) => (∃ (as2 : Nat → Int32) (sg2 : Nat → Int32), v = some (.int (lengthP r (nI n) 1)) ∧ WW E (wK b E.2.1 tl pd qt qr tbu wst as2 pN tN aN hd dr pl rm ps wx pp tp ap sg2 uh ud up ur us ux) G H1)) (bF b)) args s 0 0 (bF b)) (F0 m 56 ls []) := by
          intro k_56
          induction k_56 with
          | zero =>
            intro i x6 x5 hm
            exact absurd hm (Nat.not_lt_zero _)
          | succ k_56 ih_56 =>
            intro i x6 x5 hm_56 hi he e_x6 e_x5  H locs  hW hS ls hl
            subst e_x6
            subst e_x5
            refine lv_iload (pc := 56) hx hb dX7_length_56 (lv_at hl 0 rfl) ?_
            refine lv_sipush (pc := 58) (v := 999) hx hb dX7_length_58 (by decide) ?_
            refine lv_icmp_ge (pc := 61) (tgt := 90) hx hb dX7_length_61 (by decide) (fun c_5 => ?_) (fun c_5 => ?_)
            · skip
              obtain rfl : i = 999 := by have := ge_nat (a := i) (b := 999) rfl rfl (by omega) (by omega) c_5; omega
              refine lv_bipush (pc := 90) (v := (-4)) hx hb dX7_length_90 (by decide) ?_
              exact z_wiret cx hr hlk dX7_length_92 hS ⟨_, _, (sI (by unfold lengthP; rw [if_pos ⟨by assumption, by decide⟩, hNn]; first | exact (ln_up 999 he).symm | exact (ln_1miss (fun g h => he g (by omega) h)).symm)), hW⟩
            · skip
              have hlt_i := lt_nat (a := i) (b := 999) rfl rfl (by omega) (by omega) c_5
              refine lv_aload_n (pc := 64) hx hb dX7_length_64 rfl (lv_at hl 4 rfl) ?_
              refine lv_aload_n (pc := 65) hx hb dX7_length_65 rfl (lv_at hl 3 rfl) ?_
              refine lv_iload (pc := 66) hx hb dX7_length_66 (lv_at hl 1 rfl) ?_
              refine k_X7_isGapFit (pc := 68) (q := q1) (g := 999 - i) (n := n) cx hW hG0 hn h2q1 (by omega) hfa_26 m_ml_X7_272 ⟨Nat.le_of_ble_eq_true rfl, Nat.le_of_ble_eq_true rfl⟩ hl.1 rfl (by simp [Value.category]) dX7_length_68 ⟨Nat.le_refl _, Nat.le_refl _⟩ ?_
              refine z_ifeq (pc := 71) (tgt := 77) hx hb dX7_length_71 (by decide) (fun c_6 => ?_) (fun c_6 => ?_)
              · skip
                refine lv_iload (pc := 77) hx hb dX7_length_77 (lv_at hl 1 rfl) ?_
                refine lv_iload (pc := 79) hx hb dX7_length_79 (lv_at hl 2 rfl) ?_
                refine lv_iadd (pc := 81) hx hb dX7_length_81 ?_
                refine lv_istore (pc := 82) (lv' := [(5, .int ((nI (999 - i)) + (-1))), (6, .int (nI i)), (4, .int (-1)), (3, .ref q1), (0, .ref (b 0)), (1, .int (nI n)), (2, .int 1)]) hx hb dX7_length_82 hl (by decide) rfl (fun ls hl => ?_)
                refine lv_iinc (pc := 84) (v := nI (i + 1)) (lv' := [(6, .int (nI (i + 1))), (5, .int ((nI (999 - i)) + (-1))), (4, .int (-1)), (3, .ref q1), (0, .ref (b 0)), (1, .int (nI n)), (2, .int 1)]) hx hb dX7_length_84 hl (k := 1) rfl (nI_1 _) (by decide) rfl (fun ls hl => ?_)
                refine lv_goto (pc := 87) (tgt := 56) hx hb dX7_length_87 (by decide) ?_
                exact ih_56 (i + 1) (nI (i + 1)) ((nI (999 - i)) + (-1)) (by omega) (by omega) (ln_prev he (by omega) c_6) (by first | rfl | (simp [lengthP, c_1, hNn, c_2, hfa_26, c_3, c_6]; done)) (ln_s (by omega))  _ _  (hW) hS ls (lv_sub hl [0, 1, 2, 3, 4, 5, 6] rfl)
              · skip
                refine lv_iload (pc := 74) hx hb dX7_length_74 (lv_at hl 1 rfl) ?_
                exact z_wiret cx hr hlk dX7_length_76 hS ⟨_, _, (sI (by unfold lengthP; rw [if_pos ⟨by assumption, by decide⟩, hNn]; first | exact (ln_0hit hlt_i he c_6).symm | exact ln_1h hlt_i he c_6)), hW⟩
        exact loop_56 ((999 - 0) + 1) 0 0 999 (Nat.lt_succ_self _) (by omega) (fun g h1 h2 => by omega) (by first | rfl | (simp [lengthP, c_1, hNn, c_2, hfa_26, c_3]; done)) rfl  _ _  (hW) hS ls (lv_sub hl [0, 1, 2, 3, 4, 5, 6] rfl)
      · skip
        obtain rfl : w = 0 := c_3
        refine lv_iconst (pc := 33) (v := 1) hx hb dX7_length_33 (by decide) ?_
        refine lv_goto (pc := 34) (tgt := 38) hx hb dX7_length_34 (by decide) ?_
        refine lv_istore (pc := 38) (lv' := [(4, .int 1), (3, .ref q1), (0, .ref (b 0)), (1, .int (nI n)), (2, .int 0)]) hx hb dX7_length_38 hl (by decide) rfl (fun ls hl => ?_)
        refine lv_iload_n (pc := 40) hx hb dX7_length_40 rfl (lv_at hl 4 rfl) ?_
        refine lv_if_ne (pc := 41) (tgt := 48) hx hb dX7_length_41 (by decide) (fun c => (c (by decide)).elim) (fun _ => ?_)
        refine lv_iconst (pc := 44) (v := 1) hx hb dX7_length_44 (by decide) ?_
        refine lv_goto (pc := 45) (tgt := 51) hx hb dX7_length_45 (by decide) ?_
        refine lv_istore (pc := 51) (lv' := [(5, .int 1), (4, .int 1), (3, .ref q1), (0, .ref (b 0)), (1, .int (nI n)), (2, .int 0)]) hx hb dX7_length_51 hl (by decide) rfl (fun ls hl => ?_)
        refine lv_iconst (pc := 53) (v := 0) hx hb dX7_length_53 (by decide) ?_
        refine lv_istore (pc := 54) (lv' := [(6, .int 0), (5, .int 1), (4, .int 1), (3, .ref q1), (0, .ref (b 0)), (1, .int (nI n)), (2, .int 0)]) hx hb dX7_length_54 hl (by decide) rfl (fun ls hl => ?_)
        have loop_56 : ∀ (k_56 : Nat) (i : Nat) (x6 : Int32) (x5 : Int32), (999 - i) < k_56 → (i ≤ 999) → (∀ g, g < i → lnT r n (g + 1) = false) → x6 = nI i → x5 = nI (i + 1) → ∀ (H : Heap) (locs : List Loc), WW E (wK b E.2.1 tl pd qt qr tbu wst as2_26 pN tN aN hd dr pl rm ps wx pp tp ap sg2_26 uh ud up ur us ux) G H → va_S (bF b) s.heap H locs → ∀ (ls : Array Slot), lv_has ls 7 [(6, .int x6), (5, .int x5), (4, .int 1), (3, .ref q1), (0, .ref (b 0)), (1, .int (nI n)), (2, .int 0)] → W p l e (rm0' (5) (118)) s m args below meth c H locs 0 0 (MQ below (zQ (fun (_ : Heap) (v : Option Value) (H1 : Heap) => (∃ (as2 : Nat → Int32) (sg2 : Nat → Int32), v = some (.int (lengthP r (nI n) 0)) ∧ WW E (wK b E.2.1 tl pd qt qr tbu wst as2 pN tN aN hd dr pl rm ps wx pp tp ap sg2 uh ud up ur us ux) G H1)) (bF b)) args s 0 0 (bF b)) (F0 m 56 ls []) := by
          intro k_56
          induction k_56 with
          | zero =>
            intro i x6 x5 hm
            exact absurd hm (Nat.not_lt_zero _)
          | succ k_56 ih_56 =>
            intro i x6 x5 hm_56 hi he e_x6 e_x5  H locs  hW hS ls hl
            subst e_x6
            subst e_x5
            refine lv_iload (pc := 56) hx hb dX7_length_56 (lv_at hl 0 rfl) ?_
            refine lv_sipush (pc := 58) (v := 999) hx hb dX7_length_58 (by decide) ?_
            refine lv_icmp_ge (pc := 61) (tgt := 90) hx hb dX7_length_61 (by decide) (fun c_8 => ?_) (fun c_8 => ?_)
            · skip
              obtain rfl : i = 999 := by have := ge_nat (a := i) (b := 999) rfl rfl (by omega) (by omega) c_8; omega
              refine lv_bipush (pc := 90) (v := (-4)) hx hb dX7_length_90 (by decide) ?_
              exact z_wiret cx hr hlk dX7_length_92 hS ⟨_, _, (sI (by unfold lengthP; rw [if_pos ⟨by assumption, by decide⟩, hNn]; first | exact (ln_up 999 he).symm | exact (ln_1miss (fun g h => he g (by omega) h)).symm)), hW⟩
            · skip
              have hlt_i := lt_nat (a := i) (b := 999) rfl rfl (by omega) (by omega) c_8
              refine lv_aload_n (pc := 64) hx hb dX7_length_64 rfl (lv_at hl 4 rfl) ?_
              refine lv_aload_n (pc := 65) hx hb dX7_length_65 rfl (lv_at hl 3 rfl) ?_
              refine lv_iload (pc := 66) hx hb dX7_length_66 (lv_at hl 1 rfl) ?_
              refine k_X7_isGapFit (pc := 68) (q := q1) (g := i + 1) (n := n) cx hW hG0 hn h2q1 (by omega) hfa_26 m_ml_X7_272 ⟨Nat.le_of_ble_eq_true rfl, Nat.le_of_ble_eq_true rfl⟩ hl.1 rfl (by simp [Value.category]) dX7_length_68 ⟨Nat.le_refl _, Nat.le_refl _⟩ ?_
              refine z_ifeq (pc := 71) (tgt := 77) hx hb dX7_length_71 (by decide) (fun c_9 => ?_) (fun c_9 => ?_)
              · skip
                refine lv_iload (pc := 77) hx hb dX7_length_77 (lv_at hl 1 rfl) ?_
                refine lv_iload (pc := 79) hx hb dX7_length_79 (lv_at hl 2 rfl) ?_
                refine lv_iadd (pc := 81) hx hb dX7_length_81 ?_
                refine lv_istore (pc := 82) (lv' := [(5, .int ((nI (i + 1)) + 1)), (6, .int (nI i)), (4, .int 1), (3, .ref q1), (0, .ref (b 0)), (1, .int (nI n)), (2, .int 0)]) hx hb dX7_length_82 hl (by decide) rfl (fun ls hl => ?_)
                refine lv_iinc (pc := 84) (v := nI (i + 1)) (lv' := [(6, .int (nI (i + 1))), (5, .int ((nI (i + 1)) + 1)), (4, .int 1), (3, .ref q1), (0, .ref (b 0)), (1, .int (nI n)), (2, .int 0)]) hx hb dX7_length_84 hl (k := 1) rfl (nI_1 _) (by decide) rfl (fun ls hl => ?_)
                refine lv_goto (pc := 87) (tgt := 56) hx hb dX7_length_87 (by decide) ?_
                exact ih_56 (i + 1) (nI (i + 1)) ((nI (i + 1)) + 1) (by omega) (by omega) (ln_next he c_9) (by first | rfl | (simp [lengthP, c_1, hNn, c_2, hfa_26, c_3, c_9]; done)) (nI_1 _)  _ _  (hW) hS ls (lv_sub hl [0, 1, 2, 3, 4, 5, 6] rfl)
              · skip
                refine lv_iload (pc := 74) hx hb dX7_length_74 (lv_at hl 1 rfl) ?_
                exact z_wiret cx hr hlk dX7_length_76 hS ⟨_, _, (sI (by unfold lengthP; rw [if_pos ⟨by assumption, by decide⟩, hNn]; first | exact (ln_0hit hlt_i he c_9).symm | exact ln_1h hlt_i he c_9)), hW⟩
        exact loop_56 ((999 - 0) + 1) 0 0 1 (Nat.lt_succ_self _) (by omega) (fun g h => absurd h (Nat.not_lt_zero _)) (by first | rfl | (simp [lengthP, c_1, hNn, c_2, hfa_26, c_3]; done)) rfl  _ _  (hW) hS ls (lv_sub hl [0, 1, 2, 3, 4, 5, 6] rfl)
    · skip
      refine lv_iconst (pc := 22) (v := (-1)) hx hb dX7_length_22 (by decide) ?_
      exact z_wiret cx hr hlk dX7_length_23 hS ⟨_, _, (sI (by first | rfl | (simp [lengthP, c_1, hNn, c_2]; done))), hW⟩
  · skip
    have h0n := Bool.eq_false_iff.mpr c_1
    refine k_X1_thingAt0 (pc := 5) (x := x) cx hW hC htN h0n m_ml_X7_133 ⟨Nat.le_of_ble_eq_true rfl, Nat.le_of_ble_eq_true rfl⟩ hl.1 rfl (by simp [Value.category]) dX7_length_5 ⟨Nat.le_refl _, Nat.le_refl _⟩ ?_
    refine lv_astore_nN (pc := 8) (lv' := [(3, .null), (0, .ref (b 0)), (1, .int x), (2, .int w)]) hx hb dX7_length_8 rfl hl (by decide) rfl (fun ls hl => ?_)
    refine lv_aload_nN (pc := 9) hx hb dX7_length_9 rfl (lv_at hl 0 rfl) ?_
    refine lv_ifnullN (pc := 10) (tgt := 22) hx hb dX7_length_10 (by decide) ?_
    refine lv_iconst (pc := 22) (v := (-1)) hx hb dX7_length_22 (by decide) ?_
    exact z_wiret cx hr hlk dX7_length_23 hS ⟨_, _, (sI (by first | rfl | (simp [lengthP, c_1]; done))), hW⟩
theorem k_X7_length {p : Program} {l : Launch} {e : Env} {R : Room} {s : State} {m : MethodId} {args : Array Value} {below : List Frame} {meth : Method} {c : Code} {H H0 : Heap} {locs : List Loc} {cells slots : Nat} {Q : State → Prop} {cc : ByteArray} {pc index : Nat} {ls : Array Slot} {rest st0 : List Value} {E : zE} {own : String} {nL : Nat} {F : Nat → Prop} {b : Nat → Nat} {tl : va_W} {pd : Bool} {qt : Nat → Option Nat} {qr : Nat → Option Nat} {tbu : Nat → Int32} {wst : Nat → Int32} {asw : Nat → Int32} {pN : Int32} {tN : Int32} {aN : Int32} {hd : Int32} {dr : Int32} {pl : Int32} {rm : Int32} {ps : Int32} {wx : Nat → Int32} {pp : Nat → Option Nat} {tp : Nat → Option Nat} {ap : Nat → Option Nat} {sg : Nat → Int32} {uh : Int32} {ud : Int32} {up : Int32} {ur : Int32} {us : Int32} {ux : Nat → Int32} {G : zG} {x w : Int32} {r : Nat → Int32} (cx : Cx E p s args m c own cc nL) (hW : WW E (wK b E.2.1 tl pd qt qr tbu wst asw pN tN aN hd dr pl rm ps wx pp tp ap sg uh ud up ur us ux) G H) (hS : va_S F H0 H locs) (zF : ∀ q, (bF b) q → F q) (hG : CG E.2.1 G r pN tN aN wx pp tp ap) (zl : Cond.methodLink own index yX7_length ∈ AllW) (zR : 5 + 1 ≤ R.frames ∧ 8 + (7 + 11) + 118 ≤ R.locals) (zs : ls.size = nL) (zt : st0 = ([.int x, .int w] : List Value).reverse ++ .ref (b 0) :: rest) (z8 : (rest.map fun v => v.category).sum ≤ 8) (zd : decode cc pc = .ok (.invokevirtual index, 3)) (zf : cells ≤ R.cells ∧ slots ≤ R.slots) (kk0 : ∀ (as2 : Nat → Int32) (sg2 : Nat → Int32) (H1 : Heap) (locs1 : List Loc), WW E (wK b E.2.1 tl pd qt qr tbu wst as2 pN tN aN hd dr pl rm ps wx pp tp ap sg2 uh ud up ur us ux) G H1 → va_S F H0 H1 locs1 → W p l e R s m args below meth c H1 locs1 cells slots Q (F0 m (pc + 3) ls (.int (lengthP r x w) :: rest))) : W p l e R s m args below meth c H locs cells slots Q (F0 m pc ls st0) := by
  refine z_callVw cx vm_X7_length (c_X7_length l E b tl pd qt qr tbu wst asw pN tN aN hd dr pl rm ps wx pp tp ap sg uh ud up ur us ux G x w r hG) (z_rec cx.2 (hW.at 0 rfl) rfl) hW hS zF zl ⟨rfl, rfl⟩ zR rfl zs zt z8 zd zf (fun v H1 locs1 hq hS1 _ => ?_)
  rcases hq with ⟨as2, sg2, rfl, hW1⟩
  · exact kk0 as2 sg2 H1 locs1  hW1 hS1
