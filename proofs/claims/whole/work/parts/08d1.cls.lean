theorem vm_X1_buzzingAt : zVm yX1_buzzingAt cX1_buzzingAt 6 (some FieldType.int) 2 := ⟨m_co_X1_buzzingAt, m_in_RX1, ⟨m_im_X1_buzzingAt, m_se_X1_X1_buzzingAt⟩, by decide +kernel, by decide +kernel, by decide +kernel⟩
set_option maxHeartbeats 1000000 in
set_option maxRecDepth 100000 in
theorem c_X1_buzzingAt (l : Launch) (E : zE) (b : Nat → Nat) (tl : va_W) (pd : Bool) (qt : Nat → Option Nat) (qr : Nat → Option Nat) (tbu : Nat → Int32) (wst : Nat → Int32) (asw : Nat → Int32) (pN : Int32) (tN : Int32) (aN : Int32) (wx : Nat → Int32) (pp : Nat → Option Nat) (tp : Nat → Option Nat) (ap : Nat → Option Nat) (sg : Nat → Int32) (uh : Int32) (ud : Int32) (up : Int32) (ur : Int32) (us : Int32) (ux : Nat → Int32) (G : zG) (f st : Int32) (r : Nat → Int32) (hI : Inv r) (hpN : pN = nI (nP r)) (htN : tN = nI (nT r)) (hPc : PcG G r pp) (hTh : ThG G r tp) (hf : rg f 1 1200) (hwx : ∀ n, n < nP r → wx n = g6 r n 5) : Met l yX1_buzzingAt (.code yX1_buzzingAt cX1_buzzingAt 6 (some FieldType.int) :: AllW) (rm0' 5 119) (zP E (fun H => WW E (wK b E.2.1 tl pd qt qr tbu wst asw pN tN aN (hdC (r 3)) (r 4) (r 5) (r 6) (r 7) wx pp tp ap sg uh ud up ur us ux) G H) [.ref (b 6), .int f, .int st]) (zQ (fun (_ : Heap) (v : Option Value) (H1 : Heap) => (∃ (sg2 : Nat → Int32), v = some (.int (hrA r f st)) ∧ WW E (wK b E.2.1 tl pd qt qr tbu wst asw pN tN aN (hdC (r 3)) (r 4) (r 5) (r 6) (r 7) wx pp tp ap sg2 uh ud up ur us ux) G H1)) (bF b)) 0 0 (bF b) := by
  refine z_body (own := RX1) (by decide) rfl rfl ?_
  intro p e s m args below meth c ls cx hr hlk hnm hW hl
  have hx := cx.x
  have hb := cx.b
  have hl : lv_has ls 6 [(0, .ref (b 6)), (1, .int f), (2, .int st)] := hl
  have hFb : ∀ k, (bF b) (b k) := fun k => bF_in b k
  have hS : va_S (bF b) s.heap s.heap [] := va_S.rf
  have hC := hI.1
  have hIS := hI.2.1
  have hP := hI.2.2.1
  have hT := hI.2.2.2.1
  have hP10 := (Inv.n0 hC).2
  have hT7 := (Inv.n1 hC).2
  have hA24 := (Inv.n2 hC).2
  have e0 := (Inv.n0 hC).1
  have e1 := (Inv.n1 hC).1
  have e2 := (Inv.n2 hC).1
  refine lv_iconst (pc := 0) (v := 0) hx hb dX1_buzzingAt_0 (by decide) ?_
  refine lv_istore_n (pc := 1) (lv' := [(3, .int 0), (0, .ref (b 6)), (1, .int f), (2, .int st)]) hx hb dX1_buzzingAt_1 rfl hl (by decide) rfl (fun ls hl => ?_)
  refine lv_iconst (pc := 2) (v := 0) hx hb dX1_buzzingAt_2 (by decide) ?_
  refine lv_istore (pc := 3) (lv' := [(4, .int 0), (3, .int 0), (0, .ref (b 6)), (1, .int f), (2, .int st)]) hx hb dX1_buzzingAt_3 hl (by decide) rfl (fun ls hl => ?_)
  have loop_5 : ∀ (k_5 : Nat) (i : Nat) (x4 : Int32) (x3 : Int32), (nT r - i) < k_5 → (i ≤ nT r) → x4 = nI i → x3 = hrN r f st i → ∀ (sg2 : Nat → Int32) (H : Heap) (locs : List Loc), WW E (wK b E.2.1 tl pd qt qr tbu wst asw pN tN aN (hdC (r 3)) (r 4) (r 5) (r 6) (r 7) wx pp tp ap sg2 uh ud up ur us ux) G H → va_S (bF b) s.heap H locs → ∀ (ls : Array Slot), lv_has ls 6 [(4, .int x4), (3, .int x3), (0, .ref (b 6)), (1, .int f), (2, .int st)] → W p l e (rm0' (5) (119)) s m args below meth c H locs 0 0 (MQ below (zQ (fun (_ : Heap) (v : Option Value) (H1 : Heap) => (∃ (sg2 : Nat → Int32), v = some (.int (hrA r f st)) ∧ WW E (wK b E.2.1 tl pd qt qr tbu wst asw pN tN aN (hdC (r 3)) (r 4) (r 5) (r 6) (r 7) wx pp tp ap sg2 uh ud up ur us ux) G H1)) (bF b)) args s 0 0 (bF b)) (F0 m 5 ls []) := by
    intro k_5
    induction k_5 with
    | zero =>
      intro i x4 x3 hm
      exact absurd hm (Nat.not_lt_zero _)
    | succ k_5 ih_5 =>
      intro i x4 x3 hm_5 hi e_x4 e_x3 sg2 H locs  hW hS ls hl
      subst e_x4
      subst e_x3
      refine lv_iload (pc := 5) hx hb dX1_buzzingAt_5 (lv_at hl 0 rfl) ?_
      refine lv_aload_n (pc := 7) hx hb dX1_buzzingAt_7 rfl (lv_at hl 2 rfl) ?_
      refine z_get (pc := 8) cx (hW.at 6 rfl) (C := RX1) (T := TX1) (N := 8) rfl i_X1 1 rfl m_fl_X1_44 rfl dX1_buzzingAt_8 ?_
      refine lv_icmp_ge (pc := 11) (tgt := 55) hx hb dX1_buzzingAt_11 (by decide) (fun c_1 => ?_) (fun c_1 => ?_)
      · skip
        obtain rfl : i = nT r := by have := ge_nat (a := i) rfl htN (by omega) (by omega) c_1; omega
        refine lv_iload_n (pc := 55) hx hb dX1_buzzingAt_55 rfl (lv_at hl 1 rfl) ?_
        exact z_wiret cx hr hlk dX1_buzzingAt_56 hS ⟨_, (sI (by first | rfl | (simp [hrN, hrA]; done))), hW⟩
      · skip
        have hlt_i := lt_nat (a := i) rfl htN (by omega) (by omega) c_1
        refine lv_aload_n (pc := 14) hx hb dX1_buzzingAt_14 rfl (lv_at hl 2 rfl) ?_
        refine lv_iload (pc := 15) hx hb dX1_buzzingAt_15 (lv_at hl 0 rfl) ?_
        obtain ⟨q1, h1q1, h2q1⟩ := hTh i hlt_i
        refine k_X1_thingAt (pc := 17) (n := i) (q := q1) cx hW hC htN hlt_i h1q1 m_ml_X1_176 ⟨Nat.le_of_ble_eq_true rfl, Nat.le_of_ble_eq_true rfl⟩ hl.1 rfl (by simp [Value.category]) dX1_buzzingAt_17 ⟨Nat.le_refl _, Nat.le_refl _⟩ ?_
        refine lv_astore (pc := 20) (lv' := [(5, .ref q1), (4, .int (nI i)), (3, .int (hrN r f st i)), (0, .ref (b 6)), (1, .int f), (2, .int st)]) hx hb dX1_buzzingAt_20 hl (by decide) rfl (fun ls hl => ?_)
        refine lv_aload (pc := 22) hx hb dX1_buzzingAt_22 (lv_at hl 0 rfl) ?_
        refine lv_ifnull (pc := 24) hx hb dX1_buzzingAt_24 ?_
        refine lv_aload_n (pc := 27) hx hb dX1_buzzingAt_27 rfl (lv_at hl 3 rfl) ?_
        refine lv_aload (pc := 28) hx hb dX1_buzzingAt_28 (lv_at hl 0 rfl) ?_
        refine lv_aload_n (pc := 30) hx hb dX1_buzzingAt_30 rfl (lv_at hl 3 rfl) ?_
        refine z_get (pc := 31) cx (hW.at 6 rfl) (C := RX1) (T := TX1) (N := 8) rfl i_X1 3 rfl m_fl_X1_12 rfl dX1_buzzingAt_31 ?_
        refine lv_iload_n (pc := 34) hx hb dX1_buzzingAt_34 rfl (lv_at hl 4 rfl) ?_
        refine lv_iload_n (pc := 35) hx hb dX1_buzzingAt_35 rfl (lv_at hl 5 rfl) ?_
        refine k_X1_isBuzzing (pc := 36) (q := q1) (t := b 7) (f := f) (st := st) (w := b 8) (xw := wx) (n := i) cx hW hS (fun _ h => h) hI hpN hPc hlt_i hf h2q1 (fun _ _ h => ⟨h.at 7 rfl, h.at 8 rfl, hwx⟩) m_ml_X1_180 ⟨Nat.le_of_ble_eq_true rfl, Nat.le_of_ble_eq_true rfl⟩ hl.1 rfl (by simp [Value.category]) dX1_buzzingAt_36 ⟨Nat.le_refl _, Nat.le_refl _⟩ (fun sg2 H locs  hW hS => ?_)
        have hW : WW E (wK b E.2.1 tl pd qt qr tbu wst asw pN tN aN (hdC (r 3)) (r 4) (r 5) (r 6) (r 7) wx pp tp ap sg2 uh ud up ur us ux) G H := hW
        refine z_ifeq (pc := 39) (tgt := 49) hx hb dX1_buzzingAt_39 (by decide) (fun c_2 => ?_) (fun c_2 => ?_)
        · skip
          refine lv_iinc (pc := 49) (v := nI (i + 1)) (lv' := [(4, .int (nI (i + 1))), (5, .ref q1), (3, .int (hrN r f st i)), (0, .ref (b 6)), (1, .int f), (2, .int st)]) hx hb dX1_buzzingAt_49 hl (k := 1) rfl (nI_1 _) (by decide) rfl (fun ls hl => ?_)
          refine lv_goto (pc := 52) (tgt := 5) hx hb dX1_buzzingAt_52 (by decide) ?_
          exact ih_5 (i + 1) (nI (i + 1)) (hrN r f st i) (by omega) (by omega) (by first | rfl | (simp [hrN, hrA, c_2]; done)) (by first | rfl | (simp [hrN, hrA, c_2]; done)) _ _ _  (hW) hS ls (lv_sub hl [0, 2, 3, 4, 5] rfl)
        · skip
          refine lv_iload_n (pc := 42) hx hb dX1_buzzingAt_42 rfl (lv_at hl 2 rfl) ?_
          refine lv_iconst (pc := 43) (v := 1) hx hb dX1_buzzingAt_43 (by decide) ?_
          refine lv_iload (pc := 44) hx hb dX1_buzzingAt_44 (lv_at hl 1 rfl) ?_
          refine lv_ishl (pc := 46) hx hb dX1_buzzingAt_46 ?_
          refine lv_ior (pc := 47) hx hb dX1_buzzingAt_47 ?_
          refine lv_istore_n (pc := 48) (lv' := [(3, .int ((hrN r f st i) ||| (1 <<< ((nI i) &&& 31)))), (5, .ref q1), (4, .int (nI i)), (0, .ref (b 6)), (1, .int f), (2, .int st)]) hx hb dX1_buzzingAt_48 rfl hl (by decide) rfl (fun ls hl => ?_)
          refine lv_iinc (pc := 49) (v := nI (i + 1)) (lv' := [(4, .int (nI (i + 1))), (3, .int ((hrN r f st i) ||| (1 <<< ((nI i) &&& 31)))), (5, .ref q1), (0, .ref (b 6)), (1, .int f), (2, .int st)]) hx hb dX1_buzzingAt_49 hl (k := 2) rfl (nI_1 _) (by decide) rfl (fun ls hl => ?_)
          refine lv_goto (pc := 52) (tgt := 5) hx hb dX1_buzzingAt_52 (by decide) ?_
          exact ih_5 (i + 1) (nI (i + 1)) ((hrN r f st i) ||| (1 <<< ((nI i) &&& 31))) (by omega) (by omega) (by first | rfl | (simp [hrN, hrA, c_2]; done)) (by first | rfl | (simp [hrN, hrA, c_2]; done)) _ _ _  (hW) hS ls (lv_sub hl [0, 1, 3, 4, 5] rfl)
  exact loop_5 ((nT r - 0) + 1) 0 0 0 (Nat.lt_succ_self _) (by omega) (by first | rfl | (simp [hrN, hrA]; done)) (by first | rfl | (simp [hrN, hrA]; done)) sg _ _  (hW) hS ls (lv_sub hl [0, 1, 2, 3, 4] rfl)
theorem k_X1_buzzingAt {p : Program} {l : Launch} {e : Env} {R : Room} {s : State} {m : MethodId} {args : Array Value} {below : List Frame} {meth : Method} {c : Code} {H H0 : Heap} {locs : List Loc} {cells slots : Nat} {Q : State → Prop} {cc : ByteArray} {pc index : Nat} {ls : Array Slot} {rest st0 : List Value} {E : zE} {own : String} {nL : Nat} {F : Nat → Prop} {b : Nat → Nat} {tl : va_W} {pd : Bool} {qt : Nat → Option Nat} {qr : Nat → Option Nat} {tbu : Nat → Int32} {wst : Nat → Int32} {asw : Nat → Int32} {pN : Int32} {tN : Int32} {aN : Int32} {wx : Nat → Int32} {pp : Nat → Option Nat} {tp : Nat → Option Nat} {ap : Nat → Option Nat} {sg : Nat → Int32} {uh : Int32} {ud : Int32} {up : Int32} {ur : Int32} {us : Int32} {ux : Nat → Int32} {G : zG} {f st : Int32} {r : Nat → Int32} (cx : Cx E p s args m c own cc nL) (hW : WW E (wK b E.2.1 tl pd qt qr tbu wst asw pN tN aN (hdC (r 3)) (r 4) (r 5) (r 6) (r 7) wx pp tp ap sg uh ud up ur us ux) G H) (hS : va_S F H0 H locs) (zF : ∀ q, (bF b) q → F q) (hI : Inv r) (hpN : pN = nI (nP r)) (htN : tN = nI (nT r)) (hPc : PcG G r pp) (hTh : ThG G r tp) (hf : rg f 1 1200) (hwx : ∀ n, n < nP r → wx n = g6 r n 5) (zl : Cond.methodLink own index yX1_buzzingAt ∈ AllW) (zR : 5 + 1 ≤ R.frames ∧ 8 + (6 + 11) + 119 ≤ R.locals) (zs : ls.size = nL) (zt : st0 = ([.int f, .int st] : List Value).reverse ++ .ref (b 6) :: rest) (z8 : (rest.map fun v => v.category).sum ≤ 8) (zd : decode cc pc = .ok (.invokevirtual index, 3)) (zf : cells ≤ R.cells ∧ slots ≤ R.slots) (kk0 : ∀ (sg2 : Nat → Int32) (H1 : Heap) (locs1 : List Loc), WW E (wK b E.2.1 tl pd qt qr tbu wst asw pN tN aN (hdC (r 3)) (r 4) (r 5) (r 6) (r 7) wx pp tp ap sg2 uh ud up ur us ux) G H1 → va_S F H0 H1 locs1 → W p l e R s m args below meth c H1 locs1 cells slots Q (F0 m (pc + 3) ls (.int (hrA r f st) :: rest))) : W p l e R s m args below meth c H locs cells slots Q (F0 m pc ls st0) := by
  refine z_callVw cx vm_X1_buzzingAt (c_X1_buzzingAt l E b tl pd qt qr tbu wst asw pN tN aN wx pp tp ap sg uh ud up ur us ux G f st r hI hpN htN hPc hTh hf hwx) (z_rec cx.2 (hW.at 6 rfl) rfl) hW hS zF zl ⟨rfl, rfl⟩ zR rfl zs zt z8 zd zf (fun v H1 locs1 hq hS1 _ => ?_)
  rcases hq with ⟨sg2, rfl, hW1⟩
  · exact kk0 sg2 H1 locs1  hW1 hS1
theorem vm_X1_isFit : zVm yX1_isFit cX1_isFit 4 (some FieldType.boolean) 1 := ⟨m_co_X1_isFit, m_in_RX1, ⟨m_im_X1_isFit, m_se_X1_X1_isFit⟩, by decide +kernel, by decide +kernel, by decide +kernel⟩
set_option maxHeartbeats 1000000 in
set_option maxRecDepth 100000 in
theorem c_X1_isFit (l : Launch) (E : zE) (b : Nat → Nat) (tl : va_W) (pd : Bool) (qt : Nat → Option Nat) (qr : Nat → Option Nat) (tbu : Nat → Int32) (wst : Nat → Int32) (asw : Nat → Int32) (pN : Int32) (tN : Int32) (aN : Int32) (hd : Int32) (dr : Int32) (pl : Int32) (rm : Int32) (ps : Int32) (wx : Nat → Int32) (pp : Nat → Option Nat) (tp : Nat → Option Nat) (ap : Nat → Option Nat) (sg : Nat → Int32) (uh : Int32) (ud : Int32) (up : Int32) (ur : Int32) (us : Int32) (ux : Nat → Int32) (G : zG) (set : Int32) (r : Nat → Int32) (hC : InvC r) (haN : aN = nI (nA r)) (hAk : AkG E.2.1 G r ap) : Met l yX1_isFit (.code yX1_isFit cX1_isFit 4 (some FieldType.boolean) :: AllW) (rm0' 1 21) (zP E (fun H => WW E (wK b E.2.1 tl pd qt qr tbu wst asw pN tN aN hd dr pl rm ps wx pp tp ap sg uh ud up ur us ux) G H) [.ref (b 6), .int set]) (rQ (.int (bI (fitS r set)))) 0 0 nF := by
  refine z_body (own := RX1) (by decide) rfl rfl ?_
  intro p e s m args below meth c ls cx hr hlk hnm hW hl
  have hx := cx.x
  have hb := cx.b
  have hl : lv_has ls 4 [(0, .ref (b 6)), (1, .int set)] := hl
  have hA24 := (Inv.n2 hC).2
  refine lv_iconst (pc := 0) (v := 0) hx hb dX1_isFit_0 (by decide) ?_
  refine lv_istore_n (pc := 1) (lv' := [(2, .int 0), (0, .ref (b 6)), (1, .int set)]) hx hb dX1_isFit_1 rfl hl (by decide) rfl (fun ls hl => ?_)
  have loop_2 : ∀ (k_2 : Nat) (i : Nat) (x2 : Int32), (nA r - i) < k_2 → (i ≤ nA r) → (allN (fun i => decide (¬ bzV r i &&& set = 0) == hdA r i) (nA r) 0 = allN (fun i => decide (¬ bzV r i &&& set = 0) == hdA r i) (nA r - i) i) → x2 = nI i → ∀ (ls : Array Slot), lv_has ls 4 [(2, .int x2), (0, .ref (b 6)), (1, .int set)] → W p l e (rm0' (1) (21)) s m args below meth c s.heap [] 0 0 (MQ below (rQ (.int (bI (fitS r set)))) args s 0 0 nF) (F0 m 2 ls []) := by
    intro k_2
    induction k_2 with
    | zero =>
      intro i x2 hm
      exact absurd hm (Nat.not_lt_zero _)
    | succ k_2 ih_2 =>
      intro i x2 hm_2 hi he e_x2  ls hl
      subst e_x2
      refine lv_iload_n (pc := 2) hx hb dX1_isFit_2 rfl (lv_at hl 0 rfl) ?_
      refine lv_aload_n (pc := 3) hx hb dX1_isFit_3 rfl (lv_at hl 1 rfl) ?_
      refine z_get (pc := 4) cx (hW.at 6 rfl) (C := RX1) (T := TX1) (N := 8) rfl i_X1 2 rfl m_fl_X1_47 rfl dX1_isFit_4 ?_
      refine lv_icmp_ge (pc := 7) (tgt := 36) hx hb dX1_isFit_7 (by decide) (fun c_1 => ?_) (fun c_1 => ?_)
      · skip
        obtain rfl : i = nA r := by have := ge_nat (a := i) rfl haN (by omega) (by omega) c_1; omega
        refine lv_iconst (pc := 36) (v := 1) hx hb dX1_isFit_36 (by decide) ?_
        exact z_zret cx hr hlk dX1_isFit_37 (by unfold fitS ftB; rw [he, Nat.sub_self]; rfl)
      · skip
        have hlt_i := lt_nat (a := i) rfl haN (by omega) (by omega) c_1
        refine lv_aload_n (pc := 10) hx hb dX1_isFit_10 rfl (lv_at hl 1 rfl) ?_
        refine lv_iload_n (pc := 11) hx hb dX1_isFit_11 rfl (lv_at hl 0 rfl) ?_
        obtain ⟨q1, tq1, wq1, xq1, h1q1, h2q1, h3q1, h4q1, h5q1⟩ := hAk i hlt_i
        refine k_X1_askAt (pc := 12) (n := i) (q := q1) cx hW hC haN hlt_i h1q1 m_ml_X1_184 ⟨Nat.le_of_ble_eq_true rfl, Nat.le_of_ble_eq_true rfl⟩ hl.1 rfl (by simp [Value.category]) dX1_isFit_12 ⟨Nat.le_refl _, Nat.le_refl _⟩ ?_
        refine lv_astore_n (pc := 15) (lv' := [(3, .ref q1), (2, .int (nI i)), (0, .ref (b 6)), (1, .int set)]) hx hb dX1_isFit_15 rfl hl (by decide) rfl (fun ls hl => ?_)
        refine lv_aload_n (pc := 16) hx hb dX1_isFit_16 rfl (lv_at hl 0 rfl) ?_
        refine lv_ifnull (pc := 17) hx hb dX1_isFit_17 ?_
        refine lv_aload_n (pc := 20) hx hb dX1_isFit_20 rfl (lv_at hl 0 rfl) ?_
        refine lv_iload_n (pc := 21) hx hb dX1_isFit_21 rfl (lv_at hl 3 rfl) ?_
        refine k_X0_isFit (pc := 22) (x := set) cx (hW.dyn h2q1)  m_ml_X1_188 ⟨Nat.le_of_ble_eq_true rfl, Nat.le_of_ble_eq_true rfl⟩ hl.1 rfl (by simp [Value.category]) dX1_isFit_22 ⟨Nat.le_refl _, Nat.le_refl _⟩ ?_
        refine z_ifne (pc := 25) (tgt := 30) hx hb dX1_isFit_25 (by decide) (fun c_2 => ?_) (fun c_2 => ?_)
        · skip
          refine lv_iinc (pc := 30) (v := nI (i + 1)) (lv' := [(2, .int (nI (i + 1))), (3, .ref q1), (0, .ref (b 6)), (1, .int set)]) hx hb dX1_isFit_30 hl (k := 1) rfl (nI_1 _) (by decide) rfl (fun ls hl => ?_)
          refine lv_goto (pc := 33) (tgt := 2) hx hb dX1_isFit_33 (by decide) ?_
          exact ih_2 (i + 1) (nI (i + 1)) (by omega) (by omega) (by rw [he, allN_go c_2 (by omega)]; rfl) (by first | rfl | (simp [bI, c_2]; done)) ls (lv_sub hl [0, 2, 3] rfl)
        · skip
          refine lv_iconst (pc := 28) (v := 0) hx hb dX1_isFit_28 (by decide) ?_
          exact z_zret cx hr hlk dX1_isFit_29 (by unfold fitS ftB; rw [he, allN_no c_2 (by omega)]; rfl)
  exact loop_2 ((nA r - 0) + 1) 0 0 (Nat.lt_succ_self _) (by omega) rfl (by first | rfl | (simp [bI]; done)) ls (lv_sub hl [0, 1, 2] rfl)
theorem k_X1_isFit {p : Program} {l : Launch} {e : Env} {R : Room} {s : State} {m : MethodId} {args : Array Value} {below : List Frame} {meth : Method} {c : Code} {H : Heap} {locs : List Loc} {cells slots : Nat} {Q : State → Prop} {cc : ByteArray} {pc index : Nat} {ls : Array Slot} {rest st0 : List Value} {E : zE} {own : String} {nL : Nat} {b : Nat → Nat} {tl : va_W} {pd : Bool} {qt : Nat → Option Nat} {qr : Nat → Option Nat} {tbu : Nat → Int32} {wst : Nat → Int32} {asw : Nat → Int32} {pN : Int32} {tN : Int32} {aN : Int32} {hd : Int32} {dr : Int32} {pl : Int32} {rm : Int32} {ps : Int32} {wx : Nat → Int32} {pp : Nat → Option Nat} {tp : Nat → Option Nat} {ap : Nat → Option Nat} {sg : Nat → Int32} {uh : Int32} {ud : Int32} {up : Int32} {ur : Int32} {us : Int32} {ux : Nat → Int32} {G : zG} {set : Int32} {r : Nat → Int32} (cx : Cx E p s args m c own cc nL) (hW : WW E (wK b E.2.1 tl pd qt qr tbu wst asw pN tN aN hd dr pl rm ps wx pp tp ap sg uh ud up ur us ux) G H) (hC : InvC r) (haN : aN = nI (nA r)) (hAk : AkG E.2.1 G r ap) (zl : Cond.methodLink own index yX1_isFit ∈ AllW) (zR : 1 + 1 ≤ R.frames ∧ 8 + (4 + 11) + 21 ≤ R.locals) (zs : ls.size = nL) (zt : st0 = ([.int set] : List Value).reverse ++ .ref (b 6) :: rest) (z8 : (rest.map fun v => v.category).sum ≤ 8) (zd : decode cc pc = .ok (.invokevirtual index, 3)) (zf : cells ≤ R.cells ∧ slots ≤ R.slots) (kk : W p l e R s m args below meth c H locs cells slots Q (F0 m (pc + 3) ls (.int (bI (fitS r set)) :: rest))) : W p l e R s m args below meth c H locs cells slots Q (F0 m pc ls st0) :=
  z_callV cx vm_X1_isFit (c_X1_isFit l E b tl pd qt qr tbu wst asw pN tN aN hd dr pl rm ps wx pp tp ap sg uh ud up ur us ux G set r hC haN hAk) (z_rec cx.2 (hW.at 6 rfl) rfl) hW zl ⟨rfl, rfl⟩ zR rfl zs zt z8 zd zf kk
theorem vm_X1_fitting : zVm yX1_fitting cX1_fitting 3 (some FieldType.int) 0 := ⟨m_co_X1_fitting, m_in_RX1, ⟨m_im_X1_fitting, m_se_X1_X1_fitting⟩, by decide +kernel, by decide +kernel, by decide +kernel⟩
set_option maxHeartbeats 1000000 in
set_option maxRecDepth 100000 in
theorem c_X1_fitting (l : Launch) (E : zE) (b : Nat → Nat) (tl : va_W) (pd : Bool) (qt : Nat → Option Nat) (qr : Nat → Option Nat) (tbu : Nat → Int32) (wst : Nat → Int32) (asw : Nat → Int32) (pN : Int32) (tN : Int32) (aN : Int32) (hd : Int32) (dr : Int32) (pl : Int32) (rm : Int32) (ps : Int32) (wx : Nat → Int32) (pp : Nat → Option Nat) (tp : Nat → Option Nat) (ap : Nat → Option Nat) (sg : Nat → Int32) (uh : Int32) (ud : Int32) (up : Int32) (ur : Int32) (us : Int32) (ux : Nat → Int32) (G : zG) (r : Nat → Int32) (hC : InvC r) (htN : tN = nI (nT r)) (haN : aN = nI (nA r)) (hAk : AkG E.2.1 G r ap) : Met l yX1_fitting (.code yX1_fitting cX1_fitting 3 (some FieldType.int) :: AllW) (rm0' 2 44) (zP E (fun H => WW E (wK b E.2.1 tl pd qt qr tbu wst asw pN tN aN hd dr pl rm ps wx pp tp ap sg uh ud up ur us ux) G H) [.ref (b 6)]) (rQ (.int (ftA r))) 0 0 nF := by
  refine z_body (own := RX1) (by decide) rfl rfl ?_
  intro p e s m args below meth c ls cx hr hlk hnm hW hl
  have hx := cx.x
  have hb := cx.b
  have hl : lv_has ls 3 [(0, .ref (b 6))] := hl
  have hT7 := (Inv.n1 hC).2
  refine lv_iconst (pc := 0) (v := 0) hx hb dX1_fitting_0 (by decide) ?_
  refine lv_istore_n (pc := 1) (lv' := [(1, .int 0), (0, .ref (b 6))]) hx hb dX1_fitting_1 rfl hl (by decide) rfl (fun ls hl => ?_)
  refine lv_iconst (pc := 2) (v := 0) hx hb dX1_fitting_2 (by decide) ?_
  refine lv_istore_n (pc := 3) (lv' := [(2, .int 0), (1, .int 0), (0, .ref (b 6))]) hx hb dX1_fitting_3 rfl hl (by decide) rfl (fun ls hl => ?_)
  have loop_4 : ∀ (k_4 : Nat) (i : Nat) (x2 : Int32) (x1 : Int32), (nT r - i) < k_4 → (i ≤ nT r) → x2 = nI i → x1 = orN (fun t => if fitS r (1 <<< (nI t &&& 31)) = true then 1 <<< (nI t &&& 31) else 0) i → ∀ (ls : Array Slot), lv_has ls 3 [(2, .int x2), (1, .int x1), (0, .ref (b 6))] → W p l e (rm0' (2) (44)) s m args below meth c s.heap [] 0 0 (MQ below (rQ (.int (ftA r))) args s 0 0 nF) (F0 m 4 ls []) := by
    intro k_4
    induction k_4 with
    | zero =>
      intro i x2 x1 hm
      exact absurd hm (Nat.not_lt_zero _)
    | succ k_4 ih_4 =>
      intro i x2 x1 hm_4 hi e_x2 e_x1  ls hl
      subst e_x2
      subst e_x1
      refine lv_iload_n (pc := 4) hx hb dX1_fitting_4 rfl (lv_at hl 0 rfl) ?_
      refine lv_aload_n (pc := 5) hx hb dX1_fitting_5 rfl (lv_at hl 2 rfl) ?_
      refine z_get (pc := 6) cx (hW.at 6 rfl) (C := RX1) (T := TX1) (N := 8) rfl i_X1 1 rfl m_fl_X1_44 rfl dX1_fitting_6 ?_
      refine lv_icmp_ge (pc := 9) (tgt := 34) hx hb dX1_fitting_9 (by decide) (fun c_1 => ?_) (fun c_1 => ?_)
      · skip
        obtain rfl : i = nT r := by have := ge_nat (a := i) rfl htN (by omega) (by omega) c_1; omega
        refine lv_iload_n (pc := 34) hx hb dX1_fitting_34 rfl (lv_at hl 1 rfl) ?_
        exact z_iret cx hr hlk dX1_fitting_35 (by first | rfl | (simp [ftA, orN]; done))
      · skip
        have hlt_i := lt_nat (a := i) rfl htN (by omega) (by omega) c_1
        refine lv_aload_n (pc := 12) hx hb dX1_fitting_12 rfl (lv_at hl 2 rfl) ?_
        refine lv_iconst (pc := 13) (v := 1) hx hb dX1_fitting_13 (by decide) ?_
        refine lv_iload_n (pc := 14) hx hb dX1_fitting_14 rfl (lv_at hl 0 rfl) ?_
        refine lv_ishl (pc := 15) hx hb dX1_fitting_15 ?_
        refine k_X1_isFit (pc := 16) (set := 1 <<< ((nI i) &&& 31)) cx hW hC haN hAk m_ml_X1_191 ⟨Nat.le_of_ble_eq_true rfl, Nat.le_of_ble_eq_true rfl⟩ hl.1 rfl (by simp [Value.category]) dX1_fitting_16 ⟨Nat.le_refl _, Nat.le_refl _⟩ ?_
        refine z_ifeq (pc := 19) (tgt := 28) hx hb dX1_fitting_19 (by decide) (fun c_2 => ?_) (fun c_2 => ?_)
        · skip
          refine lv_iinc (pc := 28) (v := nI (i + 1)) (lv' := [(2, .int (nI (i + 1))), (1, .int (orN (fun t => if fitS r (1 <<< (nI t &&& 31)) = true then 1 <<< (nI t &&& 31) else 0) i)), (0, .ref (b 6))]) hx hb dX1_fitting_28 hl (k := 0) rfl (nI_1 _) (by decide) rfl (fun ls hl => ?_)
          refine lv_goto (pc := 31) (tgt := 4) hx hb dX1_fitting_31 (by decide) ?_
          exact ih_4 (i + 1) (nI (i + 1)) (orN (fun t => if fitS r (1 <<< (nI t &&& 31)) = true then 1 <<< (nI t &&& 31) else 0) i) (by omega) (by omega) (by first | rfl | (simp [ftA, orN, c_2]; done)) (by first | rfl | (simp [ftA, orN, c_2]; done)) ls (lv_sub hl [0, 1, 2] rfl)
        · skip
          refine lv_iload_n (pc := 22) hx hb dX1_fitting_22 rfl (lv_at hl 1 rfl) ?_
          refine lv_iconst (pc := 23) (v := 1) hx hb dX1_fitting_23 (by decide) ?_
          refine lv_iload_n (pc := 24) hx hb dX1_fitting_24 rfl (lv_at hl 0 rfl) ?_
          refine lv_ishl (pc := 25) hx hb dX1_fitting_25 ?_
          refine lv_ior (pc := 26) hx hb dX1_fitting_26 ?_
          refine lv_istore_n (pc := 27) (lv' := [(1, .int ((orN (fun t => if fitS r (1 <<< (nI t &&& 31)) = true then 1 <<< (nI t &&& 31) else 0) i) ||| (1 <<< ((nI i) &&& 31)))), (2, .int (nI i)), (0, .ref (b 6))]) hx hb dX1_fitting_27 rfl hl (by decide) rfl (fun ls hl => ?_)
          refine lv_iinc (pc := 28) (v := nI (i + 1)) (lv' := [(2, .int (nI (i + 1))), (1, .int ((orN (fun t => if fitS r (1 <<< (nI t &&& 31)) = true then 1 <<< (nI t &&& 31) else 0) i) ||| (1 <<< ((nI i) &&& 31)))), (0, .ref (b 6))]) hx hb dX1_fitting_28 hl (k := 1) rfl (nI_1 _) (by decide) rfl (fun ls hl => ?_)
          refine lv_goto (pc := 31) (tgt := 4) hx hb dX1_fitting_31 (by decide) ?_
          exact ih_4 (i + 1) (nI (i + 1)) ((orN (fun t => if fitS r (1 <<< (nI t &&& 31)) = true then 1 <<< (nI t &&& 31) else 0) i) ||| (1 <<< ((nI i) &&& 31))) (by omega) (by omega) (by first | rfl | (simp [ftA, orN, c_2]; done)) (by first | rfl | (simp [ftA, orN, c_2]; done)) ls (lv_sub hl [0, 1, 2] rfl)
  exact loop_4 ((nT r - 0) + 1) 0 0 0 (Nat.lt_succ_self _) (by omega) (by first | rfl | (simp [ftA, orN]; done)) (by first | rfl | (simp [ftA, orN]; done)) ls (lv_sub hl [0, 1, 2] rfl)
theorem k_X1_fitting {p : Program} {l : Launch} {e : Env} {R : Room} {s : State} {m : MethodId} {args : Array Value} {below : List Frame} {meth : Method} {c : Code} {H : Heap} {locs : List Loc} {cells slots : Nat} {Q : State → Prop} {cc : ByteArray} {pc index : Nat} {ls : Array Slot} {rest st0 : List Value} {E : zE} {own : String} {nL : Nat} {b : Nat → Nat} {tl : va_W} {pd : Bool} {qt : Nat → Option Nat} {qr : Nat → Option Nat} {tbu : Nat → Int32} {wst : Nat → Int32} {asw : Nat → Int32} {pN : Int32} {tN : Int32} {aN : Int32} {hd : Int32} {dr : Int32} {pl : Int32} {rm : Int32} {ps : Int32} {wx : Nat → Int32} {pp : Nat → Option Nat} {tp : Nat → Option Nat} {ap : Nat → Option Nat} {sg : Nat → Int32} {uh : Int32} {ud : Int32} {up : Int32} {ur : Int32} {us : Int32} {ux : Nat → Int32} {G : zG} {r : Nat → Int32} (cx : Cx E p s args m c own cc nL) (hW : WW E (wK b E.2.1 tl pd qt qr tbu wst asw pN tN aN hd dr pl rm ps wx pp tp ap sg uh ud up ur us ux) G H) (hC : InvC r) (htN : tN = nI (nT r)) (haN : aN = nI (nA r)) (hAk : AkG E.2.1 G r ap) (zl : Cond.methodLink own index yX1_fitting ∈ AllW) (zR : 2 + 1 ≤ R.frames ∧ 8 + (3 + 11) + 44 ≤ R.locals) (zs : ls.size = nL) (zt : st0 = ([] : List Value).reverse ++ .ref (b 6) :: rest) (z8 : (rest.map fun v => v.category).sum ≤ 8) (zd : decode cc pc = .ok (.invokevirtual index, 3)) (zf : cells ≤ R.cells ∧ slots ≤ R.slots) (kk : W p l e R s m args below meth c H locs cells slots Q (F0 m (pc + 3) ls (.int (ftA r) :: rest))) : W p l e R s m args below meth c H locs cells slots Q (F0 m pc ls st0) :=
  z_callV cx vm_X1_fitting (c_X1_fitting l E b tl pd qt qr tbu wst asw pN tN aN hd dr pl rm ps wx pp tp ap sg uh ud up ur us ux G r hC htN haN hAk) (z_rec cx.2 (hW.at 6 rfl) rfl) hW zl ⟨rfl, rfl⟩ zR rfl zs zt z8 zd zf kk
theorem vm_X1_chancesOf : zVm yX1_chancesOf cX1_chancesOf 5 (some FieldType.int) 1 := ⟨m_co_X1_chancesOf, m_in_RX1, ⟨m_im_X1_chancesOf, m_se_X1_X1_chancesOf⟩, by decide +kernel, by decide +kernel, by decide +kernel⟩
set_option maxHeartbeats 1000000 in
set_option maxRecDepth 100000 in
theorem c_X1_chancesOf (l : Launch) (E : zE) (b : Nat → Nat) (tl : va_W) (pd : Bool) (qt : Nat → Option Nat) (qr : Nat → Option Nat) (tbu : Nat → Int32) (wst : Nat → Int32) (asw : Nat → Int32) (pN : Int32) (tN : Int32) (aN : Int32) (hd : Int32) (dr : Int32) (pl : Int32) (rm : Int32) (ps : Int32) (wx : Nat → Int32) (pp : Nat → Option Nat) (tp : Nat → Option Nat) (ap : Nat → Option Nat) (sg : Nat → Int32) (uh : Int32) (ud : Int32) (up : Int32) (ur : Int32) (us : Int32) (ux : Nat → Int32) (G : zG) (set : Int32) (r : Nat → Int32) (hC : InvC r) (htN : tN = nI (nT r)) (hTh : ThG G r tp) : Met l yX1_chancesOf (.code yX1_chancesOf cX1_chancesOf 5 (some FieldType.int) :: AllW) (rm0' 2 42) (zP E (fun H => WW E (wK b E.2.1 tl pd qt qr tbu wst asw pN tN aN hd dr pl rm ps wx pp tp ap sg uh ud up ur us ux) G H) [.ref (b 6), .int set]) (rQ (.int (chA r set))) 0 0 nF := by
  refine z_body (own := RX1) (by decide) rfl rfl ?_
  intro p e s m args below meth c ls cx hr hlk hnm hW hl
  have hx := cx.x
  have hb := cx.b
  have hl : lv_has ls 5 [(0, .ref (b 6)), (1, .int set)] := hl
  have hT7 := (Inv.n1 hC).2
  refine lv_iconst (pc := 0) (v := 0) hx hb dX1_chancesOf_0 (by decide) ?_
  refine lv_istore_n (pc := 1) (lv' := [(2, .int 0), (0, .ref (b 6)), (1, .int set)]) hx hb dX1_chancesOf_1 rfl hl (by decide) rfl (fun ls hl => ?_)
  refine lv_iconst (pc := 2) (v := 0) hx hb dX1_chancesOf_2 (by decide) ?_
  refine lv_istore_n (pc := 3) (lv' := [(3, .int 0), (2, .int 0), (0, .ref (b 6)), (1, .int set)]) hx hb dX1_chancesOf_3 rfl hl (by decide) rfl (fun ls hl => ?_)
  have loop_4 : ∀ (k_4 : Nat) (i : Nat) (x3 : Int32) (x2 : Int32), (nT r - i) < k_4 → (i ≤ nT r) → x3 = nI i → x2 = csN r set i → ∀ (ls : Array Slot), lv_has ls 5 [(3, .int x3), (2, .int x2), (0, .ref (b 6)), (1, .int set)] → W p l e (rm0' (2) (42)) s m args below meth c s.heap [] 0 0 (MQ below (rQ (.int (chA r set))) args s 0 0 nF) (F0 m 4 ls []) := by
    intro k_4
    induction k_4 with
    | zero =>
      intro i x3 x2 hm
      exact absurd hm (Nat.not_lt_zero _)
    | succ k_4 ih_4 =>
      intro i x3 x2 hm_4 hi e_x3 e_x2  ls hl
      subst e_x3
      subst e_x2
      refine lv_iload_n (pc := 4) hx hb dX1_chancesOf_4 rfl (lv_at hl 0 rfl) ?_
      refine lv_aload_n (pc := 5) hx hb dX1_chancesOf_5 rfl (lv_at hl 2 rfl) ?_
      refine z_get (pc := 6) cx (hW.at 6 rfl) (C := RX1) (T := TX1) (N := 8) rfl i_X1 1 rfl m_fl_X1_44 rfl dX1_chancesOf_6 ?_
      refine lv_icmp_ge (pc := 9) (tgt := 46) hx hb dX1_chancesOf_9 (by decide) (fun c_1 => ?_) (fun c_1 => ?_)
      · skip
        obtain rfl : i = nT r := by have := ge_nat (a := i) rfl htN (by omega) (by omega) c_1; omega
        refine lv_iload_n (pc := 46) hx hb dX1_chancesOf_46 rfl (lv_at hl 1 rfl) ?_
        exact z_iret cx hr hlk dX1_chancesOf_47 (by first | rfl | (simp [chA, csN, sumN]; done))
      · skip
        have hlt_i := lt_nat (a := i) rfl htN (by omega) (by omega) c_1
        refine lv_aload_n (pc := 12) hx hb dX1_chancesOf_12 rfl (lv_at hl 2 rfl) ?_
        refine lv_iload_n (pc := 13) hx hb dX1_chancesOf_13 rfl (lv_at hl 0 rfl) ?_
        obtain ⟨q1, h1q1, h2q1⟩ := hTh i hlt_i
        refine k_X1_thingAt (pc := 14) (n := i) (q := q1) cx hW hC htN hlt_i h1q1 m_ml_X1_176 ⟨Nat.le_of_ble_eq_true rfl, Nat.le_of_ble_eq_true rfl⟩ hl.1 rfl (by simp [Value.category]) dX1_chancesOf_14 ⟨Nat.le_refl _, Nat.le_refl _⟩ ?_
        refine lv_astore (pc := 17) (lv' := [(4, .ref q1), (3, .int (nI i)), (2, .int (csN r set i)), (0, .ref (b 6)), (1, .int set)]) hx hb dX1_chancesOf_17 hl (by decide) rfl (fun ls hl => ?_)
        refine lv_aload (pc := 19) hx hb dX1_chancesOf_19 (lv_at hl 0 rfl) ?_
        refine lv_ifnull (pc := 21) hx hb dX1_chancesOf_21 ?_
        refine lv_iload_n (pc := 24) hx hb dX1_chancesOf_24 rfl (lv_at hl 4 rfl) ?_
        refine lv_iload_n (pc := 25) hx hb dX1_chancesOf_25 rfl (lv_at hl 1 rfl) ?_
        refine lv_ishr (pc := 26) hx hb dX1_chancesOf_26 ?_
        refine lv_iconst (pc := 27) (v := 1) hx hb dX1_chancesOf_27 (by decide) ?_
        refine lv_iand (pc := 28) hx hb dX1_chancesOf_28 ?_
        refine lv_if_eq (pc := 29) (tgt := 40) hx hb dX1_chancesOf_29 (by decide) (fun c_2 => ?_) (fun c_2 => ?_)
        · skip
          have hbt := bit_f c_2
          refine lv_iinc (pc := 40) (v := nI (i + 1)) (lv' := [(3, .int (nI (i + 1))), (4, .ref q1), (2, .int (csN r set i)), (0, .ref (b 6)), (1, .int set)]) hx hb dX1_chancesOf_40 hl (k := 1) rfl (nI_1 _) (by decide) rfl (fun ls hl => ?_)
          refine lv_goto (pc := 43) (tgt := 4) hx hb dX1_chancesOf_43 (by decide) ?_
          exact ih_4 (i + 1) (nI (i + 1)) (csN r set i) (by omega) (by omega) (by first | rfl | (simp [chA, csN, sumN, hbt]; done)) (by first | rfl | (simp [chA, csN, sumN, hbt]; done)) ls (lv_sub hl [0, 2, 3, 4] rfl)
        · skip
          have hbt := bit_t c_2
          refine lv_iload_n (pc := 32) hx hb dX1_chancesOf_32 rfl (lv_at hl 2 rfl) ?_
          refine lv_aload (pc := 33) hx hb dX1_chancesOf_33 (lv_at hl 0 rfl) ?_
          refine z_get (pc := 35) cx (hW.dyn h2q1) (C := RX6) (T := TX6) (N := 6) rfl i_X6 5 rfl m_fl_X1_192 rfl dX1_chancesOf_35 ?_
          refine lv_iadd (pc := 38) hx hb dX1_chancesOf_38 ?_
          refine lv_istore_n (pc := 39) (lv' := [(2, .int ((csN r set i) + (g5 r i 4))), (4, .ref q1), (3, .int (nI i)), (0, .ref (b 6)), (1, .int set)]) hx hb dX1_chancesOf_39 rfl hl (by decide) rfl (fun ls hl => ?_)
          refine lv_iinc (pc := 40) (v := nI (i + 1)) (lv' := [(3, .int (nI (i + 1))), (2, .int ((csN r set i) + (g5 r i 4))), (4, .ref q1), (0, .ref (b 6)), (1, .int set)]) hx hb dX1_chancesOf_40 hl (k := 2) rfl (nI_1 _) (by decide) rfl (fun ls hl => ?_)
          refine lv_goto (pc := 43) (tgt := 4) hx hb dX1_chancesOf_43 (by decide) ?_
          exact ih_4 (i + 1) (nI (i + 1)) ((csN r set i) + (g5 r i 4)) (by omega) (by omega) (by first | rfl | (simp [chA, csN, sumN, hbt]; done)) (by first | rfl | (simp [chA, csN, sumN, hbt]; done)) ls (lv_sub hl [0, 1, 3, 4] rfl)
  exact loop_4 ((nT r - 0) + 1) 0 0 0 (Nat.lt_succ_self _) (by omega) (by first | rfl | (simp [chA, csN, sumN]; done)) (by first | rfl | (simp [chA, csN, sumN]; done)) ls (lv_sub hl [0, 1, 2, 3] rfl)
theorem k_X1_chancesOf {p : Program} {l : Launch} {e : Env} {R : Room} {s : State} {m : MethodId} {args : Array Value} {below : List Frame} {meth : Method} {c : Code} {H : Heap} {locs : List Loc} {cells slots : Nat} {Q : State → Prop} {cc : ByteArray} {pc index : Nat} {ls : Array Slot} {rest st0 : List Value} {E : zE} {own : String} {nL : Nat} {b : Nat → Nat} {tl : va_W} {pd : Bool} {qt : Nat → Option Nat} {qr : Nat → Option Nat} {tbu : Nat → Int32} {wst : Nat → Int32} {asw : Nat → Int32} {pN : Int32} {tN : Int32} {aN : Int32} {hd : Int32} {dr : Int32} {pl : Int32} {rm : Int32} {ps : Int32} {wx : Nat → Int32} {pp : Nat → Option Nat} {tp : Nat → Option Nat} {ap : Nat → Option Nat} {sg : Nat → Int32} {uh : Int32} {ud : Int32} {up : Int32} {ur : Int32} {us : Int32} {ux : Nat → Int32} {G : zG} {set : Int32} {r : Nat → Int32} (cx : Cx E p s args m c own cc nL) (hW : WW E (wK b E.2.1 tl pd qt qr tbu wst asw pN tN aN hd dr pl rm ps wx pp tp ap sg uh ud up ur us ux) G H) (hC : InvC r) (htN : tN = nI (nT r)) (hTh : ThG G r tp) (zl : Cond.methodLink own index yX1_chancesOf ∈ AllW) (zR : 2 + 1 ≤ R.frames ∧ 8 + (5 + 11) + 42 ≤ R.locals) (zs : ls.size = nL) (zt : st0 = ([.int set] : List Value).reverse ++ .ref (b 6) :: rest) (z8 : (rest.map fun v => v.category).sum ≤ 8) (zd : decode cc pc = .ok (.invokevirtual index, 3)) (zf : cells ≤ R.cells ∧ slots ≤ R.slots) (kk : W p l e R s m args below meth c H locs cells slots Q (F0 m (pc + 3) ls (.int (chA r set) :: rest))) : W p l e R s m args below meth c H locs cells slots Q (F0 m pc ls st0) :=
  z_callV cx vm_X1_chancesOf (c_X1_chancesOf l E b tl pd qt qr tbu wst asw pN tN aN hd dr pl rm ps wx pp tp ap sg uh ud up ur us ux G set r hC htN hTh) (z_rec cx.2 (hW.at 6 rfl) rfl) hW zl ⟨rfl, rfl⟩ zR rfl zs zt z8 zd zf kk
theorem vm_X1_costsOf : zVm yX1_costsOf cX1_costsOf 5 (some FieldType.int) 1 := ⟨m_co_X1_costsOf, m_in_RX1, ⟨m_im_X1_costsOf, m_se_X1_X1_costsOf⟩, by decide +kernel, by decide +kernel, by decide +kernel⟩
set_option maxHeartbeats 1000000 in
set_option maxRecDepth 100000 in
theorem c_X1_costsOf (l : Launch) (E : zE) (b : Nat → Nat) (tl : va_W) (pd : Bool) (qt : Nat → Option Nat) (qr : Nat → Option Nat) (tbu : Nat → Int32) (wst : Nat → Int32) (asw : Nat → Int32) (pN : Int32) (tN : Int32) (aN : Int32) (hd : Int32) (dr : Int32) (pl : Int32) (rm : Int32) (ps : Int32) (wx : Nat → Int32) (pp : Nat → Option Nat) (tp : Nat → Option Nat) (ap : Nat → Option Nat) (sg : Nat → Int32) (uh : Int32) (ud : Int32) (up : Int32) (ur : Int32) (us : Int32) (ux : Nat → Int32) (G : zG) (set : Int32) (r : Nat → Int32) (hC : InvC r) (htN : tN = nI (nT r)) (hTh : ThG G r tp) : Met l yX1_costsOf (.code yX1_costsOf cX1_costsOf 5 (some FieldType.int) :: AllW) (rm0' 2 42) (zP E (fun H => WW E (wK b E.2.1 tl pd qt qr tbu wst asw pN tN aN hd dr pl rm ps wx pp tp ap sg uh ud up ur us ux) G H) [.ref (b 6), .int set]) (rQ (.int (cstN r set (nT r)))) 0 0 nF := by
  refine z_body (own := RX1) (by decide) rfl rfl ?_
  intro p e s m args below meth c ls cx hr hlk hnm hW hl
  have hx := cx.x
  have hb := cx.b
  have hl : lv_has ls 5 [(0, .ref (b 6)), (1, .int set)] := hl
  have hT7 := (Inv.n1 hC).2
  refine lv_iconst (pc := 0) (v := 0) hx hb dX1_costsOf_0 (by decide) ?_
  refine lv_istore_n (pc := 1) (lv' := [(2, .int 0), (0, .ref (b 6)), (1, .int set)]) hx hb dX1_costsOf_1 rfl hl (by decide) rfl (fun ls hl => ?_)
  refine lv_iconst (pc := 2) (v := 0) hx hb dX1_costsOf_2 (by decide) ?_
  refine lv_istore_n (pc := 3) (lv' := [(3, .int 0), (2, .int 0), (0, .ref (b 6)), (1, .int set)]) hx hb dX1_costsOf_3 rfl hl (by decide) rfl (fun ls hl => ?_)
  have loop_4 : ∀ (k_4 : Nat) (i : Nat) (x3 : Int32) (x2 : Int32), (nT r - i) < k_4 → (i ≤ nT r) → x3 = nI i → x2 = cstN r set i → ∀ (ls : Array Slot), lv_has ls 5 [(3, .int x3), (2, .int x2), (0, .ref (b 6)), (1, .int set)] → W p l e (rm0' (2) (42)) s m args below meth c s.heap [] 0 0 (MQ below (rQ (.int (cstN r set (nT r)))) args s 0 0 nF) (F0 m 4 ls []) := by
    intro k_4
    induction k_4 with
    | zero =>
      intro i x3 x2 hm
      exact absurd hm (Nat.not_lt_zero _)
    | succ k_4 ih_4 =>
      intro i x3 x2 hm_4 hi e_x3 e_x2  ls hl
      subst e_x3
      subst e_x2
      refine lv_iload_n (pc := 4) hx hb dX1_costsOf_4 rfl (lv_at hl 0 rfl) ?_
      refine lv_aload_n (pc := 5) hx hb dX1_costsOf_5 rfl (lv_at hl 2 rfl) ?_
      refine z_get (pc := 6) cx (hW.at 6 rfl) (C := RX1) (T := TX1) (N := 8) rfl i_X1 1 rfl m_fl_X1_44 rfl dX1_costsOf_6 ?_
      refine lv_icmp_ge (pc := 9) (tgt := 46) hx hb dX1_costsOf_9 (by decide) (fun c_1 => ?_) (fun c_1 => ?_)
      · skip
        obtain rfl : i = nT r := by have := ge_nat (a := i) rfl htN (by omega) (by omega) c_1; omega
        refine lv_iload_n (pc := 46) hx hb dX1_costsOf_46 rfl (lv_at hl 1 rfl) ?_
        exact z_iret cx hr hlk dX1_costsOf_47 (by first | rfl | (simp [cstN, sumN, prO]; done))
      · skip
        have hlt_i := lt_nat (a := i) rfl htN (by omega) (by omega) c_1
        refine lv_aload_n (pc := 12) hx hb dX1_costsOf_12 rfl (lv_at hl 2 rfl) ?_
        refine lv_iload_n (pc := 13) hx hb dX1_costsOf_13 rfl (lv_at hl 0 rfl) ?_
        obtain ⟨q1, h1q1, h2q1⟩ := hTh i hlt_i
        refine k_X1_thingAt (pc := 14) (n := i) (q := q1) cx hW hC htN hlt_i h1q1 m_ml_X1_176 ⟨Nat.le_of_ble_eq_true rfl, Nat.le_of_ble_eq_true rfl⟩ hl.1 rfl (by simp [Value.category]) dX1_costsOf_14 ⟨Nat.le_refl _, Nat.le_refl _⟩ ?_
        refine lv_astore (pc := 17) (lv' := [(4, .ref q1), (3, .int (nI i)), (2, .int (cstN r set i)), (0, .ref (b 6)), (1, .int set)]) hx hb dX1_costsOf_17 hl (by decide) rfl (fun ls hl => ?_)
        refine lv_aload (pc := 19) hx hb dX1_costsOf_19 (lv_at hl 0 rfl) ?_
        refine lv_ifnull (pc := 21) hx hb dX1_costsOf_21 ?_
        refine lv_iload_n (pc := 24) hx hb dX1_costsOf_24 rfl (lv_at hl 4 rfl) ?_
        refine lv_iload_n (pc := 25) hx hb dX1_costsOf_25 rfl (lv_at hl 1 rfl) ?_
        refine lv_ishr (pc := 26) hx hb dX1_costsOf_26 ?_
        refine lv_iconst (pc := 27) (v := 1) hx hb dX1_costsOf_27 (by decide) ?_
        refine lv_iand (pc := 28) hx hb dX1_costsOf_28 ?_
        refine lv_if_eq (pc := 29) (tgt := 40) hx hb dX1_costsOf_29 (by decide) (fun c_2 => ?_) (fun c_2 => ?_)
        · skip
          have hbt := bit_f c_2
          refine lv_iinc (pc := 40) (v := nI (i + 1)) (lv' := [(3, .int (nI (i + 1))), (4, .ref q1), (2, .int (cstN r set i)), (0, .ref (b 6)), (1, .int set)]) hx hb dX1_costsOf_40 hl (k := 1) rfl (nI_1 _) (by decide) rfl (fun ls hl => ?_)
          refine lv_goto (pc := 43) (tgt := 4) hx hb dX1_costsOf_43 (by decide) ?_
          exact ih_4 (i + 1) (nI (i + 1)) (cstN r set i) (by omega) (by omega) (by first | rfl | (simp [cstN, sumN, prO, hbt]; done)) (by first | rfl | (simp [cstN, sumN, prO, hbt]; done)) ls (lv_sub hl [0, 2, 3, 4] rfl)
        · skip
          have hbt := bit_t c_2
          refine lv_iload_n (pc := 32) hx hb dX1_costsOf_32 rfl (lv_at hl 2 rfl) ?_
          refine lv_aload (pc := 33) hx hb dX1_costsOf_33 (lv_at hl 0 rfl) ?_
          refine k_X6_cost (pc := 35)  cx (hW.dyn h2q1)  m_ml_X1_195 ⟨Nat.le_of_ble_eq_true rfl, Nat.le_of_ble_eq_true rfl⟩ hl.1 rfl (by simp [Value.category]) dX1_costsOf_35 ⟨Nat.le_refl _, Nat.le_refl _⟩ ?_
          refine lv_iadd (pc := 38) hx hb dX1_costsOf_38 ?_
          refine lv_istore_n (pc := 39) (lv' := [(2, .int ((cstN r set i) + (prK (g5 r i 0) (g5 r i 3)))), (4, .ref q1), (3, .int (nI i)), (0, .ref (b 6)), (1, .int set)]) hx hb dX1_costsOf_39 rfl hl (by decide) rfl (fun ls hl => ?_)
          refine lv_iinc (pc := 40) (v := nI (i + 1)) (lv' := [(3, .int (nI (i + 1))), (2, .int ((cstN r set i) + (prK (g5 r i 0) (g5 r i 3)))), (4, .ref q1), (0, .ref (b 6)), (1, .int set)]) hx hb dX1_costsOf_40 hl (k := 2) rfl (nI_1 _) (by decide) rfl (fun ls hl => ?_)
          refine lv_goto (pc := 43) (tgt := 4) hx hb dX1_costsOf_43 (by decide) ?_
          exact ih_4 (i + 1) (nI (i + 1)) ((cstN r set i) + (prK (g5 r i 0) (g5 r i 3))) (by omega) (by omega) (by first | rfl | (simp [cstN, sumN, prO, hbt]; done)) (by first | rfl | (simp [cstN, sumN, prO, hbt]; done)) ls (lv_sub hl [0, 1, 3, 4] rfl)
  exact loop_4 ((nT r - 0) + 1) 0 0 0 (Nat.lt_succ_self _) (by omega) (by first | rfl | (simp [cstN, sumN, prO]; done)) (by first | rfl | (simp [cstN, sumN, prO]; done)) ls (lv_sub hl [0, 1, 2, 3] rfl)
theorem k_X1_costsOf {p : Program} {l : Launch} {e : Env} {R : Room} {s : State} {m : MethodId} {args : Array Value} {below : List Frame} {meth : Method} {c : Code} {H : Heap} {locs : List Loc} {cells slots : Nat} {Q : State → Prop} {cc : ByteArray} {pc index : Nat} {ls : Array Slot} {rest st0 : List Value} {E : zE} {own : String} {nL : Nat} {b : Nat → Nat} {tl : va_W} {pd : Bool} {qt : Nat → Option Nat} {qr : Nat → Option Nat} {tbu : Nat → Int32} {wst : Nat → Int32} {asw : Nat → Int32} {pN : Int32} {tN : Int32} {aN : Int32} {hd : Int32} {dr : Int32} {pl : Int32} {rm : Int32} {ps : Int32} {wx : Nat → Int32} {pp : Nat → Option Nat} {tp : Nat → Option Nat} {ap : Nat → Option Nat} {sg : Nat → Int32} {uh : Int32} {ud : Int32} {up : Int32} {ur : Int32} {us : Int32} {ux : Nat → Int32} {G : zG} {set : Int32} {r : Nat → Int32} (cx : Cx E p s args m c own cc nL) (hW : WW E (wK b E.2.1 tl pd qt qr tbu wst asw pN tN aN hd dr pl rm ps wx pp tp ap sg uh ud up ur us ux) G H) (hC : InvC r) (htN : tN = nI (nT r)) (hTh : ThG G r tp) (zl : Cond.methodLink own index yX1_costsOf ∈ AllW) (zR : 2 + 1 ≤ R.frames ∧ 8 + (5 + 11) + 42 ≤ R.locals) (zs : ls.size = nL) (zt : st0 = ([.int set] : List Value).reverse ++ .ref (b 6) :: rest) (z8 : (rest.map fun v => v.category).sum ≤ 8) (zd : decode cc pc = .ok (.invokevirtual index, 3)) (zf : cells ≤ R.cells ∧ slots ≤ R.slots) (kk : W p l e R s m args below meth c H locs cells slots Q (F0 m (pc + 3) ls (.int (cstN r set (nT r)) :: rest))) : W p l e R s m args below meth c H locs cells slots Q (F0 m pc ls st0) :=
  z_callV cx vm_X1_costsOf (c_X1_costsOf l E b tl pd qt qr tbu wst asw pN tN aN hd dr pl rm ps wx pp tp ap sg uh ud up ur us ux G set r hC htN hTh) (z_rec cx.2 (hW.at 6 rfl) rfl) hW zl ⟨rfl, rfl⟩ zR rfl zs zt z8 zd zf kk
theorem vm_X1_seamStrikes : zVm yX1_seamStrikes cX1_seamStrikes 5 (some FieldType.int) 1 := ⟨m_co_X1_seamStrikes, m_in_RX1, ⟨m_im_X1_seamStrikes, m_se_X1_X1_seamStrikes⟩, by decide +kernel, by decide +kernel, by decide +kernel⟩
set_option maxHeartbeats 1000000 in
set_option maxRecDepth 100000 in
theorem c_X1_seamStrikes (l : Launch) (E : zE) (b : Nat → Nat) (tl : va_W) (pd : Bool) (qt : Nat → Option Nat) (qr : Nat → Option Nat) (tbu : Nat → Int32) (wst : Nat → Int32) (asw : Nat → Int32) (pN : Int32) (tN : Int32) (aN : Int32) (hd : Int32) (dr : Int32) (pl : Int32) (rm : Int32) (ps : Int32) (wx : Nat → Int32) (pp : Nat → Option Nat) (tp : Nat → Option Nat) (ap : Nat → Option Nat) (sg : Nat → Int32) (uh : Int32) (ud : Int32) (up : Int32) (ur : Int32) (us : Int32) (ux : Nat → Int32) (G : zG) (t w : Nat) (r xw : Nat → Int32) (hI : Inv r) (hpN : pN = nI (nP r)) (htN : tN = nI (nT r)) (hPc : PcG G r pp) (hTh : ThG G r tp) (hAt : ∀ (sg3 : Nat → Int32) (H : Heap), WW E (wK b E.2.1 tl pd qt qr tbu wst asw pN tN aN hd dr pl rm ps wx pp tp ap sg3 uh ud up ur us ux) G H → StA E H t w r xw) : Met l yX1_seamStrikes (.code yX1_seamStrikes cX1_seamStrikes 5 (some FieldType.int) :: AllW) (rm0' 3 68) (zP E (fun H => WW E (wK b E.2.1 tl pd qt qr tbu wst asw pN tN aN hd dr pl rm ps wx pp tp ap sg uh ud up ur us ux) G H) [.ref (b 6), .ref t]) (rQ (.int (smS r (nT r)))) 0 0 nF := by
  refine z_body (own := RX1) (by decide) rfl rfl ?_
  intro p e s m args below meth c ls cx hr hlk hnm hW hl
  have hx := cx.x
  have hb := cx.b
  have hl : lv_has ls 5 [(0, .ref (b 6)), (1, .ref t)] := hl
  have hC := hI.1
  have hIS := hI.2.1
  have hP := hI.2.2.1
  have hT := hI.2.2.2.1
  have hP10 := (Inv.n0 hC).2
  have hT7 := (Inv.n1 hC).2
  have hA24 := (Inv.n2 hC).2
  have e0 := (Inv.n0 hC).1
  have e1 := (Inv.n1 hC).1
  have e2 := (Inv.n2 hC).1
  refine lv_iconst (pc := 0) (v := 0) hx hb dX1_seamStrikes_0 (by decide) ?_
  refine lv_istore_n (pc := 1) (lv' := [(2, .int 0), (0, .ref (b 6)), (1, .ref t)]) hx hb dX1_seamStrikes_1 rfl hl (by decide) rfl (fun ls hl => ?_)
  refine lv_iconst (pc := 2) (v := 0) hx hb dX1_seamStrikes_2 (by decide) ?_
  refine lv_istore_n (pc := 3) (lv' := [(3, .int 0), (2, .int 0), (0, .ref (b 6)), (1, .ref t)]) hx hb dX1_seamStrikes_3 rfl hl (by decide) rfl (fun ls hl => ?_)
  have loop_4 : ∀ (k_4 : Nat) (i : Nat) (x3 : Int32) (x2 : Int32), (nT r - i) < k_4 → (i ≤ nT r) → x3 = nI i → x2 = smS r i → ∀ (ls : Array Slot), lv_has ls 5 [(3, .int x3), (2, .int x2), (0, .ref (b 6)), (1, .ref t)] → W p l e (rm0' (3) (68)) s m args below meth c s.heap [] 0 0 (MQ below (rQ (.int (smS r (nT r)))) args s 0 0 nF) (F0 m 4 ls []) := by
    intro k_4
    induction k_4 with
    | zero =>
      intro i x3 x2 hm
      exact absurd hm (Nat.not_lt_zero _)
    | succ k_4 ih_4 =>
      intro i x3 x2 hm_4 hi e_x3 e_x2  ls hl
      subst e_x3
      subst e_x2
      refine lv_iload_n (pc := 4) hx hb dX1_seamStrikes_4 rfl (lv_at hl 0 rfl) ?_
      refine lv_aload_n (pc := 5) hx hb dX1_seamStrikes_5 rfl (lv_at hl 2 rfl) ?_
      refine z_get (pc := 6) cx (hW.at 6 rfl) (C := RX1) (T := TX1) (N := 8) rfl i_X1 1 rfl m_fl_X1_44 rfl dX1_seamStrikes_6 ?_
      refine lv_icmp_ge (pc := 9) (tgt := 53) hx hb dX1_seamStrikes_9 (by decide) (fun c_1 => ?_) (fun c_1 => ?_)
      · skip
        obtain rfl : i = nT r := by have := ge_nat (a := i) rfl htN (by omega) (by omega) c_1; omega
        refine lv_iload_n (pc := 53) hx hb dX1_seamStrikes_53 rfl (lv_at hl 1 rfl) ?_
        exact z_iret cx hr hlk dX1_seamStrikes_54 (by first | rfl | (simp [smS, sumN, stO]; done))
      · skip
        have hlt_i := lt_nat (a := i) rfl htN (by omega) (by omega) c_1
        refine lv_aload_n (pc := 12) hx hb dX1_seamStrikes_12 rfl (lv_at hl 2 rfl) ?_
        refine lv_iload_n (pc := 13) hx hb dX1_seamStrikes_13 rfl (lv_at hl 0 rfl) ?_
        obtain ⟨q1, h1q1, h2q1⟩ := hTh i hlt_i
        refine k_X1_thingAt (pc := 14) (n := i) (q := q1) cx hW hC htN hlt_i h1q1 m_ml_X1_176 ⟨Nat.le_of_ble_eq_true rfl, Nat.le_of_ble_eq_true rfl⟩ hl.1 rfl (by simp [Value.category]) dX1_seamStrikes_14 ⟨Nat.le_refl _, Nat.le_refl _⟩ ?_
        refine lv_astore (pc := 17) (lv' := [(4, .ref q1), (3, .int (nI i)), (2, .int (smS r i)), (0, .ref (b 6)), (1, .ref t)]) hx hb dX1_seamStrikes_17 hl (by decide) rfl (fun ls hl => ?_)
        refine lv_aload (pc := 19) hx hb dX1_seamStrikes_19 (lv_at hl 0 rfl) ?_
        refine lv_ifnull (pc := 21) hx hb dX1_seamStrikes_21 ?_
        refine lv_aload (pc := 24) hx hb dX1_seamStrikes_24 (lv_at hl 0 rfl) ?_
        refine k_X6_isSeam (pc := 26)  cx (hW.dyn h2q1)  m_ml_X1_198 ⟨Nat.le_of_ble_eq_true rfl, Nat.le_of_ble_eq_true rfl⟩ hl.1 rfl (by simp [Value.category]) dX1_seamStrikes_26 ⟨Nat.le_refl _, Nat.le_refl _⟩ ?_
        refine z_ifeq (pc := 29) (tgt := 47) hx hb dX1_seamStrikes_29 (by decide) (fun c_2 => ?_) (fun c_2 => ?_)
        · skip
          have hs14 : ¬ (g5 r i 0 = 1 ∨ g5 r i 0 = 4) := by simpa using c_2
          refine lv_iinc (pc := 47) (v := nI (i + 1)) (lv' := [(3, .int (nI (i + 1))), (4, .ref q1), (2, .int (smS r i)), (0, .ref (b 6)), (1, .ref t)]) hx hb dX1_seamStrikes_47 hl (k := 1) rfl (nI_1 _) (by decide) rfl (fun ls hl => ?_)
          refine lv_goto (pc := 50) (tgt := 4) hx hb dX1_seamStrikes_50 (by decide) ?_
          exact ih_4 (i + 1) (nI (i + 1)) (smS r i) (by omega) (by omega) (by first | rfl | (simp [smS, sumN, stO, hs14]; done)) (by first | rfl | (simp [smS, sumN, stO, hs14]; done)) ls (lv_sub hl [0, 2, 3, 4] rfl)
        · skip
          have hs14 : (g5 r i 0 = 1 ∨ g5 r i 0 = 4) := by simpa using c_2
          refine lv_iload_n (pc := 32) hx hb dX1_seamStrikes_32 rfl (lv_at hl 2 rfl) ?_
          refine lv_aload_n (pc := 33) hx hb dX1_seamStrikes_33 rfl (lv_at hl 3 rfl) ?_
          refine lv_aload (pc := 34) hx hb dX1_seamStrikes_34 (lv_at hl 0 rfl) ?_
          refine lv_aload (pc := 36) hx hb dX1_seamStrikes_36 (lv_at hl 0 rfl) ?_
          refine z_get (pc := 38) cx (hW.dyn h2q1) (C := RX6) (T := TX6) (N := 6) rfl i_X6 3 rfl m_fl_X1_169 rfl dX1_seamStrikes_38 ?_
          refine lv_aload_n (pc := 41) hx hb dX1_seamStrikes_41 rfl (lv_at hl 4 rfl) ?_
          refine k_X1_strikesOf (pc := 42) (q := q1) (gap := g5 r i 2) (t := t) (n := i) cx hW hI hpN hPc hlt_i h2q1 hAt m_ml_X1_172 ⟨Nat.le_of_ble_eq_true rfl, Nat.le_of_ble_eq_true rfl⟩ hl.1 rfl (by simp [Value.category]) dX1_seamStrikes_42 ⟨Nat.le_refl _, Nat.le_refl _⟩ ?_
          refine lv_iadd (pc := 45) hx hb dX1_seamStrikes_45 ?_
          refine lv_istore_n (pc := 46) (lv' := [(2, .int ((smS r i) + (stW r i (g5 r i 2) (r 4)))), (4, .ref q1), (3, .int (nI i)), (0, .ref (b 6)), (1, .ref t)]) hx hb dX1_seamStrikes_46 rfl hl (by decide) rfl (fun ls hl => ?_)
          refine lv_iinc (pc := 47) (v := nI (i + 1)) (lv' := [(3, .int (nI (i + 1))), (2, .int ((smS r i) + (stW r i (g5 r i 2) (r 4)))), (4, .ref q1), (0, .ref (b 6)), (1, .ref t)]) hx hb dX1_seamStrikes_47 hl (k := 2) rfl (nI_1 _) (by decide) rfl (fun ls hl => ?_)
          refine lv_goto (pc := 50) (tgt := 4) hx hb dX1_seamStrikes_50 (by decide) ?_
          exact ih_4 (i + 1) (nI (i + 1)) ((smS r i) + (stW r i (g5 r i 2) (r 4))) (by omega) (by omega) (by first | rfl | (simp [smS, sumN, stO, hs14]; done)) (by first | rfl | (simp [smS, sumN, stO, hs14]; done)) ls (lv_sub hl [0, 1, 3, 4] rfl)
  exact loop_4 ((nT r - 0) + 1) 0 0 0 (Nat.lt_succ_self _) (by omega) (by first | rfl | (simp [smS, sumN, stO]; done)) (by first | rfl | (simp [smS, sumN, stO]; done)) ls (lv_sub hl [0, 1, 2, 3] rfl)
theorem k_X1_seamStrikes {p : Program} {l : Launch} {e : Env} {R : Room} {s : State} {m : MethodId} {args : Array Value} {below : List Frame} {meth : Method} {c : Code} {H : Heap} {locs : List Loc} {cells slots : Nat} {Q : State → Prop} {cc : ByteArray} {pc index : Nat} {ls : Array Slot} {rest st0 : List Value} {E : zE} {own : String} {nL : Nat} {b : Nat → Nat} {tl : va_W} {pd : Bool} {qt : Nat → Option Nat} {qr : Nat → Option Nat} {tbu : Nat → Int32} {wst : Nat → Int32} {asw : Nat → Int32} {pN : Int32} {tN : Int32} {aN : Int32} {hd : Int32} {dr : Int32} {pl : Int32} {rm : Int32} {ps : Int32} {wx : Nat → Int32} {pp : Nat → Option Nat} {tp : Nat → Option Nat} {ap : Nat → Option Nat} {sg : Nat → Int32} {uh : Int32} {ud : Int32} {up : Int32} {ur : Int32} {us : Int32} {ux : Nat → Int32} {G : zG} {t w : Nat} {r xw : Nat → Int32} (cx : Cx E p s args m c own cc nL) (hW : WW E (wK b E.2.1 tl pd qt qr tbu wst asw pN tN aN hd dr pl rm ps wx pp tp ap sg uh ud up ur us ux) G H) (hI : Inv r) (hpN : pN = nI (nP r)) (htN : tN = nI (nT r)) (hPc : PcG G r pp) (hTh : ThG G r tp) (hAt : ∀ (sg3 : Nat → Int32) (H : Heap), WW E (wK b E.2.1 tl pd qt qr tbu wst asw pN tN aN hd dr pl rm ps wx pp tp ap sg3 uh ud up ur us ux) G H → StA E H t w r xw) (zl : Cond.methodLink own index yX1_seamStrikes ∈ AllW) (zR : 3 + 1 ≤ R.frames ∧ 8 + (5 + 11) + 68 ≤ R.locals) (zs : ls.size = nL) (zt : st0 = ([.ref t] : List Value).reverse ++ .ref (b 6) :: rest) (z8 : (rest.map fun v => v.category).sum ≤ 8) (zd : decode cc pc = .ok (.invokevirtual index, 3)) (zf : cells ≤ R.cells ∧ slots ≤ R.slots) (kk : W p l e R s m args below meth c H locs cells slots Q (F0 m (pc + 3) ls (.int (smS r (nT r)) :: rest))) : W p l e R s m args below meth c H locs cells slots Q (F0 m pc ls st0) :=
  z_callV cx vm_X1_seamStrikes (c_X1_seamStrikes l E b tl pd qt qr tbu wst asw pN tN aN hd dr pl rm ps wx pp tp ap sg uh ud up ur us ux G t w r xw hI hpN htN hPc hTh hAt) (z_rec cx.2 (hW.at 6 rfl) rfl) hW zl ⟨rfl, rfl⟩ zR rfl zs zt z8 zd zf kk
theorem vm_X1_toneIn : zVm yX1_toneIn cX1_toneIn 4 (some FieldType.int) 2 := ⟨m_co_X1_toneIn, m_in_RX1, ⟨m_im_X1_toneIn, m_se_X1_X1_toneIn⟩, by decide +kernel, by decide +kernel, by decide +kernel⟩
set_option maxHeartbeats 1000000 in
set_option maxRecDepth 100000 in
theorem c_X1_toneIn (l : Launch) (E : zE) (b : Nat → Nat) (tl : va_W) (pd : Bool) (qt : Nat → Option Nat) (qr : Nat → Option Nat) (tbu : Nat → Int32) (wst : Nat → Int32) (asw : Nat → Int32) (pN : Int32) (tN : Int32) (aN : Int32) (hd : Int32) (dr : Int32) (pl : Int32) (rm : Int32) (ps : Int32) (wx : Nat → Int32) (pp : Nat → Option Nat) (tp : Nat → Option Nat) (ap : Nat → Option Nat) (sg : Nat → Int32) (uh : Int32) (ud : Int32) (up : Int32) (ur : Int32) (us : Int32) (ux : Nat → Int32) (G : zG) (n t w : Nat) (r xw : Nat → Int32) (hI : Inv r) (hpN : pN = nI (nP r)) (hPc : PcG G r pp) (hn : n < nP r) (hAt : ∀ (sg3 : Nat → Int32) (H : Heap), WW E (wK b E.2.1 tl pd qt qr tbu wst asw pN tN aN hd dr pl rm ps wx pp tp ap sg3 uh ud up ur us ux) G H → StA E H t w r xw) : Met l yX1_toneIn (.code yX1_toneIn cX1_toneIn 4 (some FieldType.int) :: AllW) (rm0' 2 42) (zP E (fun H => WW E (wK b E.2.1 tl pd qt qr tbu wst asw pN tN aN hd dr pl rm ps wx pp tp ap sg uh ud up ur us ux) G H) [.ref (b 6), .int (nI n), .ref t]) (rQ (.int (tnN r n))) 0 0 nF := by
  refine z_body (own := RX1) (by decide) rfl rfl ?_
  intro p e s m args below meth c ls cx hr hlk hnm hW hl
  have hx := cx.x
  have hb := cx.b
  have hl : lv_has ls 4 [(0, .ref (b 6)), (1, .int (nI n)), (2, .ref t)] := hl
  have hC := hI.1
  have hIS := hI.2.1
  have hP := hI.2.2.1
  have hT := hI.2.2.2.1
  have hP10 := (Inv.n0 hC).2
  have hT7 := (Inv.n1 hC).2
  have hA24 := (Inv.n2 hC).2
  have e0 := (Inv.n0 hC).1
  have e1 := (Inv.n1 hC).1
  have e2 := (Inv.n2 hC).1
  have hxw := (hAt _ _ hW).2.2
  refine lv_aload_n (pc := 0) hx hb dX1_toneIn_0 rfl (lv_at hl 0 rfl) ?_
  refine lv_iload_n (pc := 1) hx hb dX1_toneIn_1 rfl (lv_at hl 1 rfl) ?_
  obtain ⟨q1, h1q1, h2q1⟩ := hPc n hn
  refine k_X1_pieceAt (pc := 2) (n := n) (q := q1) cx hW hC hpN hn h1q1 m_ml_X1_202 ⟨Nat.le_of_ble_eq_true rfl, Nat.le_of_ble_eq_true rfl⟩ hl.1 rfl (by simp [Value.category]) dX1_toneIn_2 ⟨Nat.le_refl _, Nat.le_refl _⟩ ?_
  refine lv_astore_n (pc := 5) (lv' := [(3, .ref q1), (0, .ref (b 6)), (1, .int (nI n)), (2, .ref t)]) hx hb dX1_toneIn_5 rfl hl (by decide) rfl (fun ls hl => ?_)
  refine lv_aload_n (pc := 6) hx hb dX1_toneIn_6 rfl (lv_at hl 0 rfl) ?_
  refine lv_ifnonnull (pc := 7) (tgt := 14) hx hb dX1_toneIn_7 (by decide) ?_
  refine lv_aload_n (pc := 14) hx hb dX1_toneIn_14 rfl (lv_at hl 0 rfl) ?_
  refine lv_aload_n (pc := 15) hx hb dX1_toneIn_15 rfl (lv_at hl 3 rfl) ?_
  refine lv_iload_n (pc := 16) hx hb dX1_toneIn_16 rfl (lv_at hl 2 rfl) ?_
  refine k_X5_waxOn (pc := 17) (n := n) cx ⟨(hAt _ _ hW).1, (hAt _ _ hW).2.1⟩ (by first | assumption | omega) m_ml_X1_113 ⟨Nat.le_of_ble_eq_true rfl, Nat.le_of_ble_eq_true rfl⟩ hl.1 rfl (by simp [Value.category]) dX1_toneIn_17 ⟨Nat.le_refl _, Nat.le_refl _⟩ ?_
  refine z_tope (y := g6 r n 5) (hxw n hn) ?_
  refine k_X2_toneWith (pc := 20) (x := g6 r n 5) cx (hW.dyn h2q1)  m_ml_X1_116 ⟨Nat.le_of_ble_eq_true rfl, Nat.le_of_ble_eq_true rfl⟩ hl.1 rfl (by simp [Value.category]) dX1_toneIn_20 ⟨Nat.le_refl _, Nat.le_refl _⟩ ?_
  exact z_iret cx hr hlk dX1_toneIn_23 (toW_tn hP hn (wax_rg hIS (by omega)))
theorem k_X1_toneIn {p : Program} {l : Launch} {e : Env} {R : Room} {s : State} {m : MethodId} {args : Array Value} {below : List Frame} {meth : Method} {c : Code} {H : Heap} {locs : List Loc} {cells slots : Nat} {Q : State → Prop} {cc : ByteArray} {pc index : Nat} {ls : Array Slot} {rest st0 : List Value} {E : zE} {own : String} {nL : Nat} {b : Nat → Nat} {tl : va_W} {pd : Bool} {qt : Nat → Option Nat} {qr : Nat → Option Nat} {tbu : Nat → Int32} {wst : Nat → Int32} {asw : Nat → Int32} {pN : Int32} {tN : Int32} {aN : Int32} {hd : Int32} {dr : Int32} {pl : Int32} {rm : Int32} {ps : Int32} {wx : Nat → Int32} {pp : Nat → Option Nat} {tp : Nat → Option Nat} {ap : Nat → Option Nat} {sg : Nat → Int32} {uh : Int32} {ud : Int32} {up : Int32} {ur : Int32} {us : Int32} {ux : Nat → Int32} {G : zG} {n t w : Nat} {r xw : Nat → Int32} (cx : Cx E p s args m c own cc nL) (hW : WW E (wK b E.2.1 tl pd qt qr tbu wst asw pN tN aN hd dr pl rm ps wx pp tp ap sg uh ud up ur us ux) G H) (hI : Inv r) (hpN : pN = nI (nP r)) (hPc : PcG G r pp) (hn : n < nP r) (hAt : ∀ (sg3 : Nat → Int32) (H : Heap), WW E (wK b E.2.1 tl pd qt qr tbu wst asw pN tN aN hd dr pl rm ps wx pp tp ap sg3 uh ud up ur us ux) G H → StA E H t w r xw) (zl : Cond.methodLink own index yX1_toneIn ∈ AllW) (zR : 2 + 1 ≤ R.frames ∧ 8 + (4 + 11) + 42 ≤ R.locals) (zs : ls.size = nL) (zt : st0 = ([.int (nI n), .ref t] : List Value).reverse ++ .ref (b 6) :: rest) (z8 : (rest.map fun v => v.category).sum ≤ 8) (zd : decode cc pc = .ok (.invokevirtual index, 3)) (zf : cells ≤ R.cells ∧ slots ≤ R.slots) (kk : W p l e R s m args below meth c H locs cells slots Q (F0 m (pc + 3) ls (.int (tnN r n) :: rest))) : W p l e R s m args below meth c H locs cells slots Q (F0 m pc ls st0) :=
  z_callV cx vm_X1_toneIn (c_X1_toneIn l E b tl pd qt qr tbu wst asw pN tN aN hd dr pl rm ps wx pp tp ap sg uh ud up ur us ux G n t w r xw hI hpN hPc hn hAt) (z_rec cx.2 (hW.at 6 rfl) rfl) hW zl ⟨rfl, rfl⟩ zR rfl zs zt z8 zd zf kk
theorem vm_X1_shiftBy : zVm yX1_shiftBy cX1_shiftBy 4 (some FieldType.int) 2 := ⟨m_co_X1_shiftBy, m_in_RX1, ⟨m_im_X1_shiftBy, m_se_X1_X1_shiftBy⟩, by decide +kernel, by decide +kernel, by decide +kernel⟩
set_option maxHeartbeats 1000000 in
set_option maxRecDepth 100000 in
theorem c_X1_shiftBy (l : Launch) (E : zE) (b : Nat → Nat) (tl : va_W) (pd : Bool) (qt : Nat → Option Nat) (qr : Nat → Option Nat) (tbu : Nat → Int32) (wst : Nat → Int32) (asw : Nat → Int32) (pN : Int32) (tN : Int32) (aN : Int32) (wx : Nat → Int32) (pp : Nat → Option Nat) (tp : Nat → Option Nat) (ap : Nat → Option Nat) (sg : Nat → Int32) (uh : Int32) (ud : Int32) (up : Int32) (ur : Int32) (us : Int32) (ux : Nat → Int32) (G : zG) (n : Nat) (x : Int32) (r : Nat → Int32) (hI : Inv r) (hpN : pN = nI (nP r)) (hPc : PcG G r pp) (hn : n < nP r) (hx2 : rg x 0 20) (hwx : ∀ n, n < nP r → wx n = g6 r n 5) : Met l yX1_shiftBy (.code yX1_shiftBy cX1_shiftBy 4 (some FieldType.int) :: AllW) (rm0' 3 65) (zP E (fun H => WW E (wK b E.2.1 tl pd qt qr tbu wst asw pN tN aN (hdC (r 3)) (r 4) (r 5) (r 6) (r 7) wx pp tp ap sg uh ud up ur us ux) G H) [.ref (b 6), .int (nI n), .int x]) (rQ (.int (shO r n x))) 0 0 nF := by
  refine z_body (own := RX1) (by decide) rfl rfl ?_
  intro p e s m args below meth c ls cx hr hlk hnm hW hl
  have hx := cx.x
  have hb := cx.b
  have hl : lv_has ls 4 [(0, .ref (b 6)), (1, .int (nI n)), (2, .int x)] := hl
  have hC := hI.1
  have hIS := hI.2.1
  have hP := hI.2.2.1
  have hT := hI.2.2.2.1
  have hP10 := (Inv.n0 hC).2
  have hT7 := (Inv.n1 hC).2
  have hA24 := (Inv.n2 hC).2
  have e0 := (Inv.n0 hC).1
  have e1 := (Inv.n1 hC).1
  have e2 := (Inv.n2 hC).1
  refine lv_aload_n (pc := 0) hx hb dX1_shiftBy_0 rfl (lv_at hl 0 rfl) ?_
  refine lv_iload_n (pc := 1) hx hb dX1_shiftBy_1 rfl (lv_at hl 1 rfl) ?_
  obtain ⟨q1, h1q1, h2q1⟩ := hPc n hn
  refine k_X1_pieceAt (pc := 2) (n := n) (q := q1) cx hW hC hpN hn h1q1 m_ml_X1_202 ⟨Nat.le_of_ble_eq_true rfl, Nat.le_of_ble_eq_true rfl⟩ hl.1 rfl (by simp [Value.category]) dX1_shiftBy_2 ⟨Nat.le_refl _, Nat.le_refl _⟩ ?_
  refine lv_astore_n (pc := 5) (lv' := [(3, .ref q1), (0, .ref (b 6)), (1, .int (nI n)), (2, .int x)]) hx hb dX1_shiftBy_5 rfl hl (by decide) rfl (fun ls hl => ?_)
  refine lv_aload_n (pc := 6) hx hb dX1_shiftBy_6 rfl (lv_at hl 0 rfl) ?_
  refine lv_ifnonnull (pc := 7) (tgt := 14) hx hb dX1_shiftBy_7 (by decide) ?_
  refine lv_aload_n (pc := 14) hx hb dX1_shiftBy_14 rfl (lv_at hl 1 rfl) ?_
  refine lv_iload_n (pc := 15) hx hb dX1_shiftBy_15 rfl (lv_at hl 2 rfl) ?_
  refine lv_aload_n (pc := 16) hx hb dX1_shiftBy_16 rfl (lv_at hl 1 rfl) ?_
  refine z_get (pc := 17) cx (hW.at 6 rfl) (C := RX1) (T := TX1) (N := 8) rfl i_X1 3 rfl m_fl_X1_12 rfl dX1_shiftBy_17 ?_
  refine k_X1_toneIn (pc := 20) (n := n) (t := b 7) (w := b 8) (xw := wx) cx hW hI hpN hPc hn (fun _ _ h => ⟨h.at 7 rfl, h.at 8 rfl, hwx⟩) m_ml_X1_206 ⟨Nat.le_of_ble_eq_true rfl, Nat.le_of_ble_eq_true rfl⟩ hl.1 rfl (by simp [Value.category]) dX1_shiftBy_20 ⟨Nat.le_refl _, Nat.le_refl _⟩ ?_
  refine lv_aload_n (pc := 23) hx hb dX1_shiftBy_23 rfl (lv_at hl 0 rfl) ?_
  refine lv_aload_n (pc := 24) hx hb dX1_shiftBy_24 rfl (lv_at hl 1 rfl) ?_
  refine z_get (pc := 25) cx (hW.at 6 rfl) (C := RX1) (T := TX1) (N := 8) rfl i_X1 3 rfl m_fl_X1_12 rfl dX1_shiftBy_25 ?_
  refine lv_iload_n (pc := 28) hx hb dX1_shiftBy_28 rfl (lv_at hl 2 rfl) ?_
  refine k_X5_waxOn (pc := 29) (n := n) cx ⟨hW.at 7 rfl, hW.at 8 rfl⟩ (by first | assumption | omega) m_ml_X1_113 ⟨Nat.le_of_ble_eq_true rfl, Nat.le_of_ble_eq_true rfl⟩ hl.1 rfl (by simp [Value.category]) dX1_shiftBy_29 ⟨Nat.le_refl _, Nat.le_refl _⟩ ?_
  refine z_tope (y := g6 r n 5) (hwx n hn) ?_
  refine lv_iload_n (pc := 32) hx hb dX1_shiftBy_32 rfl (lv_at hl 3 rfl) ?_
  refine lv_iadd (pc := 33) hx hb dX1_shiftBy_33 ?_
  refine k_X2_toneWith (pc := 34) (x := (g6 r n 5) + x) cx (hW.dyn h2q1)  m_ml_X1_116 ⟨Nat.le_of_ble_eq_true rfl, Nat.le_of_ble_eq_true rfl⟩ hl.1 rfl (by simp [Value.category]) dX1_shiftBy_34 ⟨Nat.le_refl _, Nat.le_refl _⟩ ?_
  refine z_tope (y := tnW r n (g6 r n 5 + x)) (toW_tn hP hn (wx_add hIS hn (by omega) hx2)) ?_
  refine lv_isub (pc := 37) hx hb dX1_shiftBy_37 ?_
  exact z_iret cx hr hlk dX1_shiftBy_38 (by first | rfl | (simp [shO]; done))
theorem k_X1_shiftBy {p : Program} {l : Launch} {e : Env} {R : Room} {s : State} {m : MethodId} {args : Array Value} {below : List Frame} {meth : Method} {c : Code} {H : Heap} {locs : List Loc} {cells slots : Nat} {Q : State → Prop} {cc : ByteArray} {pc index : Nat} {ls : Array Slot} {rest st0 : List Value} {E : zE} {own : String} {nL : Nat} {b : Nat → Nat} {tl : va_W} {pd : Bool} {qt : Nat → Option Nat} {qr : Nat → Option Nat} {tbu : Nat → Int32} {wst : Nat → Int32} {asw : Nat → Int32} {pN : Int32} {tN : Int32} {aN : Int32} {wx : Nat → Int32} {pp : Nat → Option Nat} {tp : Nat → Option Nat} {ap : Nat → Option Nat} {sg : Nat → Int32} {uh : Int32} {ud : Int32} {up : Int32} {ur : Int32} {us : Int32} {ux : Nat → Int32} {G : zG} {n : Nat} {x : Int32} {r : Nat → Int32} (cx : Cx E p s args m c own cc nL) (hW : WW E (wK b E.2.1 tl pd qt qr tbu wst asw pN tN aN (hdC (r 3)) (r 4) (r 5) (r 6) (r 7) wx pp tp ap sg uh ud up ur us ux) G H) (hI : Inv r) (hpN : pN = nI (nP r)) (hPc : PcG G r pp) (hn : n < nP r) (hx2 : rg x 0 20) (hwx : ∀ n, n < nP r → wx n = g6 r n 5) (zl : Cond.methodLink own index yX1_shiftBy ∈ AllW) (zR : 3 + 1 ≤ R.frames ∧ 8 + (4 + 11) + 65 ≤ R.locals) (zs : ls.size = nL) (zt : st0 = ([.int (nI n), .int x] : List Value).reverse ++ .ref (b 6) :: rest) (z8 : (rest.map fun v => v.category).sum ≤ 8) (zd : decode cc pc = .ok (.invokevirtual index, 3)) (zf : cells ≤ R.cells ∧ slots ≤ R.slots) (kk : W p l e R s m args below meth c H locs cells slots Q (F0 m (pc + 3) ls (.int (shO r n x) :: rest))) : W p l e R s m args below meth c H locs cells slots Q (F0 m pc ls st0) :=
  z_callV cx vm_X1_shiftBy (c_X1_shiftBy l E b tl pd qt qr tbu wst asw pN tN aN wx pp tp ap sg uh ud up ur us ux G n x r hI hpN hPc hn hx2 hwx) (z_rec cx.2 (hW.at 6 rfl) rfl) hW zl ⟨rfl, rfl⟩ zR rfl zs zt z8 zd zf kk
theorem vm_X1_apart : zVm yX1_apart cX1_apart 4 (some FieldType.int) 3 := ⟨m_co_X1_apart, m_in_RX1, ⟨m_im_X1_apart, m_se_X1_X1_apart⟩, by decide +kernel, by decide +kernel, by decide +kernel⟩
set_option maxHeartbeats 1000000 in
set_option maxRecDepth 100000 in
theorem c_X1_apart (l : Launch) (E : zE) (b : Nat → Nat) (tl : va_W) (pd : Bool) (qt : Nat → Option Nat) (qr : Nat → Option Nat) (tbu : Nat → Int32) (wst : Nat → Int32) (asw : Nat → Int32) (pN : Int32) (tN : Int32) (aN : Int32) (hd : Int32) (dr : Int32) (pl : Int32) (rm : Int32) (ps : Int32) (wx : Nat → Int32) (pp : Nat → Option Nat) (tp : Nat → Option Nat) (ap : Nat → Option Nat) (sg : Nat → Int32) (uh : Int32) (ud : Int32) (up : Int32) (ur : Int32) (us : Int32) (ux : Nat → Int32) (G : zG) (n k t w : Nat) (r xw : Nat → Int32) (hI : Inv r) (hpN : pN = nI (nP r)) (hPc : PcG G r pp) (hn : n < nP r) (hk : k < nP r) (hAt : ∀ (sg3 : Nat → Int32) (H : Heap), WW E (wK b E.2.1 tl pd qt qr tbu wst asw pN tN aN hd dr pl rm ps wx pp tp ap sg3 uh ud up ur us ux) G H → StA E H t w r xw) : Met l yX1_apart (.code yX1_apart cX1_apart 4 (some FieldType.int) :: AllW) (rm0' 3 65) (zP E (fun H => WW E (wK b E.2.1 tl pd qt qr tbu wst asw pN tN aN hd dr pl rm ps wx pp tp ap sg uh ud up ur us ux) G H) [.ref (b 6), .int (nI n), .int (nI k), .ref t]) (rQ (.int (amt (tnN r n - tnN r k)))) 0 0 nF := by
  refine z_body (own := RX1) (by decide) rfl rfl ?_
  intro p e s m args below meth c ls cx hr hlk hnm hW hl
  have hx := cx.x
  have hb := cx.b
  have hl : lv_has ls 4 [(0, .ref (b 6)), (1, .int (nI n)), (2, .int (nI k)), (3, .ref t)] := hl
  have hC := hI.1
  have hIS := hI.2.1
  have hP := hI.2.2.1
  have hT := hI.2.2.2.1
  have hP10 := (Inv.n0 hC).2
  have hT7 := (Inv.n1 hC).2
  have hA24 := (Inv.n2 hC).2
  have e0 := (Inv.n0 hC).1
  have e1 := (Inv.n1 hC).1
  have e2 := (Inv.n2 hC).1
  refine lv_aload_n (pc := 0) hx hb dX1_apart_0 rfl (lv_at hl 0 rfl) ?_
  refine lv_iload_n (pc := 1) hx hb dX1_apart_1 rfl (lv_at hl 1 rfl) ?_
  refine lv_aload_n (pc := 2) hx hb dX1_apart_2 rfl (lv_at hl 3 rfl) ?_
  refine k_X1_toneIn (pc := 3) (n := n) (t := t) cx hW hI hpN hPc hn hAt m_ml_X1_206 ⟨Nat.le_of_ble_eq_true rfl, Nat.le_of_ble_eq_true rfl⟩ hl.1 rfl (by simp [Value.category]) dX1_apart_3 ⟨Nat.le_refl _, Nat.le_refl _⟩ ?_
  refine lv_aload_n (pc := 6) hx hb dX1_apart_6 rfl (lv_at hl 0 rfl) ?_
  refine lv_iload_n (pc := 7) hx hb dX1_apart_7 rfl (lv_at hl 2 rfl) ?_
  refine lv_aload_n (pc := 8) hx hb dX1_apart_8 rfl (lv_at hl 3 rfl) ?_
  refine k_X1_toneIn (pc := 9) (n := k) (t := t) cx hW hI hpN hPc hk hAt m_ml_X1_206 ⟨Nat.le_of_ble_eq_true rfl, Nat.le_of_ble_eq_true rfl⟩ hl.1 rfl (by simp [Value.category]) dX1_apart_9 ⟨Nat.le_refl _, Nat.le_refl _⟩ ?_
  refine lv_isub (pc := 12) hx hb dX1_apart_12 ?_
  refine z_mabs (pc := 13) cx hl.1 m_ml_X1_119 ⟨Nat.le_of_ble_eq_true rfl, Nat.le_of_ble_eq_true rfl⟩ (by simp [Value.category]) ⟨Nat.le_refl _, Nat.le_refl _⟩ dX1_apart_13 ?_
  exact z_iret cx hr hlk dX1_apart_16 (by first | rfl | (simp []; done))
theorem k_X1_apart {p : Program} {l : Launch} {e : Env} {R : Room} {s : State} {m : MethodId} {args : Array Value} {below : List Frame} {meth : Method} {c : Code} {H : Heap} {locs : List Loc} {cells slots : Nat} {Q : State → Prop} {cc : ByteArray} {pc index : Nat} {ls : Array Slot} {rest st0 : List Value} {E : zE} {own : String} {nL : Nat} {b : Nat → Nat} {tl : va_W} {pd : Bool} {qt : Nat → Option Nat} {qr : Nat → Option Nat} {tbu : Nat → Int32} {wst : Nat → Int32} {asw : Nat → Int32} {pN : Int32} {tN : Int32} {aN : Int32} {hd : Int32} {dr : Int32} {pl : Int32} {rm : Int32} {ps : Int32} {wx : Nat → Int32} {pp : Nat → Option Nat} {tp : Nat → Option Nat} {ap : Nat → Option Nat} {sg : Nat → Int32} {uh : Int32} {ud : Int32} {up : Int32} {ur : Int32} {us : Int32} {ux : Nat → Int32} {G : zG} {n k t w : Nat} {r xw : Nat → Int32} (cx : Cx E p s args m c own cc nL) (hW : WW E (wK b E.2.1 tl pd qt qr tbu wst asw pN tN aN hd dr pl rm ps wx pp tp ap sg uh ud up ur us ux) G H) (hI : Inv r) (hpN : pN = nI (nP r)) (hPc : PcG G r pp) (hn : n < nP r) (hk : k < nP r) (hAt : ∀ (sg3 : Nat → Int32) (H : Heap), WW E (wK b E.2.1 tl pd qt qr tbu wst asw pN tN aN hd dr pl rm ps wx pp tp ap sg3 uh ud up ur us ux) G H → StA E H t w r xw) (zl : Cond.methodLink own index yX1_apart ∈ AllW) (zR : 3 + 1 ≤ R.frames ∧ 8 + (4 + 11) + 65 ≤ R.locals) (zs : ls.size = nL) (zt : st0 = ([.int (nI n), .int (nI k), .ref t] : List Value).reverse ++ .ref (b 6) :: rest) (z8 : (rest.map fun v => v.category).sum ≤ 8) (zd : decode cc pc = .ok (.invokevirtual index, 3)) (zf : cells ≤ R.cells ∧ slots ≤ R.slots) (kk : W p l e R s m args below meth c H locs cells slots Q (F0 m (pc + 3) ls (.int (amt (tnN r n - tnN r k)) :: rest))) : W p l e R s m args below meth c H locs cells slots Q (F0 m pc ls st0) :=
  z_callV cx vm_X1_apart (c_X1_apart l E b tl pd qt qr tbu wst asw pN tN aN hd dr pl rm ps wx pp tp ap sg uh ud up ur us ux G n k t w r xw hI hpN hPc hn hk hAt) (z_rec cx.2 (hW.at 6 rfl) rfl) hW zl ⟨rfl, rfl⟩ zR rfl zs zt z8 zd zf kk
theorem vm_X1_isWolf : zVm yX1_isWolf cX1_isWolf 5 (some FieldType.boolean) 3 := ⟨m_co_X1_isWolf, m_in_RX1, ⟨m_im_X1_isWolf, m_se_X1_X1_isWolf⟩, by decide +kernel, by decide +kernel, by decide +kernel⟩
set_option maxHeartbeats 1000000 in
set_option maxRecDepth 100000 in
theorem c_X1_isWolf (l : Launch) (E : zE) (b : Nat → Nat) (tl : va_W) (pd : Bool) (qt : Nat → Option Nat) (qr : Nat → Option Nat) (tbu : Nat → Int32) (wst : Nat → Int32) (asw : Nat → Int32) (pN : Int32) (tN : Int32) (aN : Int32) (hd : Int32) (dr : Int32) (pl : Int32) (rm : Int32) (ps : Int32) (wx : Nat → Int32) (pp : Nat → Option Nat) (tp : Nat → Option Nat) (ap : Nat → Option Nat) (sg : Nat → Int32) (uh : Int32) (ud : Int32) (up : Int32) (ur : Int32) (us : Int32) (ux : Nat → Int32) (G : zG) (n k t w : Nat) (r xw : Nat → Int32) (hI : Inv r) (hpN : pN = nI (nP r)) (hPc : PcG G r pp) (hn : n < nP r) (hk : k < nP r) (hAt : ∀ (sg3 : Nat → Int32) (H : Heap), WW E (wK b E.2.1 tl pd qt qr tbu wst asw pN tN aN hd dr pl rm ps wx pp tp ap sg3 uh ud up ur us ux) G H → StA E H t w r xw) : Met l yX1_isWolf (.code yX1_isWolf cX1_isWolf 5 (some FieldType.boolean) :: AllW) (rm0' 4 88) (zP E (fun H => WW E (wK b E.2.1 tl pd qt qr tbu wst asw pN tN aN hd dr pl rm ps wx pp tp ap sg uh ud up ur us ux) G H) [.ref (b 6), .int (nI n), .int (nI k), .ref t]) (rQ (.int (bI (wfB r n k)))) 0 0 nF := by
  refine z_body (own := RX1) (by decide) rfl rfl ?_
  intro p e s m args below meth c ls cx hr hlk hnm hW hl
  have hx := cx.x
  have hb := cx.b
  have hl : lv_has ls 5 [(0, .ref (b 6)), (1, .int (nI n)), (2, .int (nI k)), (3, .ref t)] := hl
  have hC := hI.1
  have hIS := hI.2.1
  have hP := hI.2.2.1
  have hT := hI.2.2.2.1
  have hP10 := (Inv.n0 hC).2
  have hT7 := (Inv.n1 hC).2
  have hA24 := (Inv.n2 hC).2
  have e0 := (Inv.n0 hC).1
  have e1 := (Inv.n1 hC).1
  have e2 := (Inv.n2 hC).1
  refine lv_aload_n (pc := 0) hx hb dX1_isWolf_0 rfl (lv_at hl 0 rfl) ?_
  refine lv_iload_n (pc := 1) hx hb dX1_isWolf_1 rfl (lv_at hl 2 rfl) ?_
  obtain ⟨q1, h1q1, h2q1⟩ := hPc k hk
  refine k_X1_pieceAt (pc := 2) (n := k) (q := q1) cx hW hC hpN hk h1q1 m_ml_X1_202 ⟨Nat.le_of_ble_eq_true rfl, Nat.le_of_ble_eq_true rfl⟩ hl.1 rfl (by simp [Value.category]) dX1_isWolf_2 ⟨Nat.le_refl _, Nat.le_refl _⟩ ?_
  refine lv_astore (pc := 5) (lv' := [(4, .ref q1), (0, .ref (b 6)), (1, .int (nI n)), (2, .int (nI k)), (3, .ref t)]) hx hb dX1_isWolf_5 hl (by decide) rfl (fun ls hl => ?_)
  refine lv_aload (pc := 7) hx hb dX1_isWolf_7 (lv_at hl 0 rfl) ?_
  refine lv_ifnull (pc := 9) hx hb dX1_isWolf_9 ?_
  refine lv_aload (pc := 12) hx hb dX1_isWolf_12 (lv_at hl 0 rfl) ?_
  refine z_get (pc := 14) cx (hW.dyn h2q1) (C := RX2) (T := TX2) (N := 5) rfl i_X2 3 rfl m_fl_X1_124 rfl dX1_isWolf_14 ?_
  refine lv_iload_n (pc := 17) hx hb dX1_isWolf_17 rfl (lv_at hl 2 rfl) ?_
  refine lv_icmp_ne (pc := 18) (tgt := 37) hx hb dX1_isWolf_18 (by decide) (fun c_1 => ?_) (fun c_1 => ?_)
  · skip
    have hj : ¬ g6 r k 3 = nI n := fun q => c_1 ((jn_nI hP hk (by omega) (show n < 10 by omega)).mpr q)
    refine lv_iconst (pc := 37) (v := 0) hx hb dX1_isWolf_37 (by decide) ?_
    exact z_zret cx hr hlk dX1_isWolf_38 (by first | rfl | (simp [wfB, bI, hj]; done))
  · skip
    have hj := (jn_nI hP hk (by omega) (show n < 10 by omega)).mp c_1
    refine lv_aload_n (pc := 21) hx hb dX1_isWolf_21 rfl (lv_at hl 1 rfl) ?_
    refine lv_iload_n (pc := 22) hx hb dX1_isWolf_22 rfl (lv_at hl 2 rfl) ?_
    refine lv_iload_n (pc := 23) hx hb dX1_isWolf_23 rfl (lv_at hl 3 rfl) ?_
    refine lv_aload_n (pc := 24) hx hb dX1_isWolf_24 rfl (lv_at hl 4 rfl) ?_
    refine k_X1_apart (pc := 25) (n := n) (k := k) (t := t) cx hW hI hpN hPc hn hk hAt m_ml_X1_209 ⟨Nat.le_of_ble_eq_true rfl, Nat.le_of_ble_eq_true rfl⟩ hl.1 rfl (by simp [Value.category]) dX1_isWolf_25 ⟨Nat.le_refl _, Nat.le_refl _⟩ ?_
    refine lv_bipush (pc := 28) (v := 6) hx hb dX1_isWolf_28 (by decide) ?_
    refine lv_icmp_ge (pc := 30) (tgt := 37) hx hb dX1_isWolf_30 (by decide) (fun c_2 => ?_) (fun c_2 => ?_)
    · skip
      refine lv_iconst (pc := 37) (v := 0) hx hb dX1_isWolf_37 (by decide) ?_
      exact z_zret cx hr hlk dX1_isWolf_38 (by first | rfl | (simp [wfB, bI, hj, c_2, i_nlt.mpr c_2]; done))
    · skip
      refine lv_iconst (pc := 33) (v := 1) hx hb dX1_isWolf_33 (by decide) ?_
      refine lv_goto (pc := 34) (tgt := 38) hx hb dX1_isWolf_34 (by decide) ?_
      exact z_zret cx hr hlk dX1_isWolf_38 (by first | rfl | (simp [wfB, bI, hj, c_2, i_nle.mp c_2]; done))
theorem k_X1_isWolf {p : Program} {l : Launch} {e : Env} {R : Room} {s : State} {m : MethodId} {args : Array Value} {below : List Frame} {meth : Method} {c : Code} {H : Heap} {locs : List Loc} {cells slots : Nat} {Q : State → Prop} {cc : ByteArray} {pc index : Nat} {ls : Array Slot} {rest st0 : List Value} {E : zE} {own : String} {nL : Nat} {b : Nat → Nat} {tl : va_W} {pd : Bool} {qt : Nat → Option Nat} {qr : Nat → Option Nat} {tbu : Nat → Int32} {wst : Nat → Int32} {asw : Nat → Int32} {pN : Int32} {tN : Int32} {aN : Int32} {hd : Int32} {dr : Int32} {pl : Int32} {rm : Int32} {ps : Int32} {wx : Nat → Int32} {pp : Nat → Option Nat} {tp : Nat → Option Nat} {ap : Nat → Option Nat} {sg : Nat → Int32} {uh : Int32} {ud : Int32} {up : Int32} {ur : Int32} {us : Int32} {ux : Nat → Int32} {G : zG} {n k t w : Nat} {r xw : Nat → Int32} (cx : Cx E p s args m c own cc nL) (hW : WW E (wK b E.2.1 tl pd qt qr tbu wst asw pN tN aN hd dr pl rm ps wx pp tp ap sg uh ud up ur us ux) G H) (hI : Inv r) (hpN : pN = nI (nP r)) (hPc : PcG G r pp) (hn : n < nP r) (hk : k < nP r) (hAt : ∀ (sg3 : Nat → Int32) (H : Heap), WW E (wK b E.2.1 tl pd qt qr tbu wst asw pN tN aN hd dr pl rm ps wx pp tp ap sg3 uh ud up ur us ux) G H → StA E H t w r xw) (zl : Cond.methodLink own index yX1_isWolf ∈ AllW) (zR : 4 + 1 ≤ R.frames ∧ 8 + (5 + 11) + 88 ≤ R.locals) (zs : ls.size = nL) (zt : st0 = ([.int (nI n), .int (nI k), .ref t] : List Value).reverse ++ .ref (b 6) :: rest) (z8 : (rest.map fun v => v.category).sum ≤ 8) (zd : decode cc pc = .ok (.invokevirtual index, 3)) (zf : cells ≤ R.cells ∧ slots ≤ R.slots) (kk : W p l e R s m args below meth c H locs cells slots Q (F0 m (pc + 3) ls (.int (bI (wfB r n k)) :: rest))) : W p l e R s m args below meth c H locs cells slots Q (F0 m pc ls st0) :=
  z_callV cx vm_X1_isWolf (c_X1_isWolf l E b tl pd qt qr tbu wst asw pN tN aN hd dr pl rm ps wx pp tp ap sg uh ud up ur us ux G n k t w r xw hI hpN hPc hn hk hAt) (z_rec cx.2 (hW.at 6 rfl) rfl) hW zl ⟨rfl, rfl⟩ zR rfl zs zt z8 zd zf kk
theorem vm_X1_wolves : zVm yX1_wolves cX1_wolves 5 (some FieldType.int) 1 := ⟨m_co_X1_wolves, m_in_RX1, ⟨m_im_X1_wolves, m_se_X1_X1_wolves⟩, by decide +kernel, by decide +kernel, by decide +kernel⟩
set_option maxHeartbeats 1000000 in
set_option maxRecDepth 100000 in
theorem c_X1_wolves (l : Launch) (E : zE) (b : Nat → Nat) (tl : va_W) (pd : Bool) (qt : Nat → Option Nat) (qr : Nat → Option Nat) (tbu : Nat → Int32) (wst : Nat → Int32) (asw : Nat → Int32) (pN : Int32) (tN : Int32) (aN : Int32) (hd : Int32) (dr : Int32) (pl : Int32) (rm : Int32) (ps : Int32) (wx : Nat → Int32) (pp : Nat → Option Nat) (tp : Nat → Option Nat) (ap : Nat → Option Nat) (sg : Nat → Int32) (uh : Int32) (ud : Int32) (up : Int32) (ur : Int32) (us : Int32) (ux : Nat → Int32) (G : zG) (t w : Nat) (r xw : Nat → Int32) (hI : Inv r) (hpN : pN = nI (nP r)) (hPc : PcG G r pp) (hAt : ∀ (sg3 : Nat → Int32) (H : Heap), WW E (wK b E.2.1 tl pd qt qr tbu wst asw pN tN aN hd dr pl rm ps wx pp tp ap sg3 uh ud up ur us ux) G H → StA E H t w r xw) : Met l yX1_wolves (.code yX1_wolves cX1_wolves 5 (some FieldType.int) :: AllW) (rm0' 5 112) (zP E (fun H => WW E (wK b E.2.1 tl pd qt qr tbu wst asw pN tN aN hd dr pl rm ps wx pp tp ap sg uh ud up ur us ux) G H) [.ref (b 6), .ref t]) (rQ (.int (nI (wvN r (nP r))))) 0 0 nF := by
  refine z_body (own := RX1) (by decide) rfl rfl ?_
  intro p e s m args below meth c ls cx hr hlk hnm hW hl
  have hx := cx.x
  have hb := cx.b
  have hl : lv_has ls 5 [(0, .ref (b 6)), (1, .ref t)] := hl
  have hC := hI.1
  have hIS := hI.2.1
  have hP := hI.2.2.1
  have hT := hI.2.2.2.1
  have hP10 := (Inv.n0 hC).2
  have hT7 := (Inv.n1 hC).2
  have hA24 := (Inv.n2 hC).2
  have e0 := (Inv.n0 hC).1
  have e1 := (Inv.n1 hC).1
  have e2 := (Inv.n2 hC).1
  refine lv_iconst (pc := 0) (v := 0) hx hb dX1_wolves_0 (by decide) ?_
  refine lv_istore_n (pc := 1) (lv' := [(2, .int 0), (0, .ref (b 6)), (1, .ref t)]) hx hb dX1_wolves_1 rfl hl (by decide) rfl (fun ls hl => ?_)
  refine lv_iconst (pc := 2) (v := 0) hx hb dX1_wolves_2 (by decide) ?_
  refine lv_istore_n (pc := 3) (lv' := [(3, .int 0), (2, .int 0), (0, .ref (b 6)), (1, .ref t)]) hx hb dX1_wolves_3 rfl hl (by decide) rfl (fun ls hl => ?_)
  have loop_4 : ∀ (k_4 : Nat) (i : Nat) (x3 : Int32) (x2 : Int32), (nP r - i) < k_4 → (i ≤ nP r) → x3 = nI i → x2 = nI (wvN r i) → ∀ (ls : Array Slot), lv_has ls 5 [(3, .int x3), (2, .int x2), (0, .ref (b 6)), (1, .ref t)] → W p l e (rm0' (5) (112)) s m args below meth c s.heap [] 0 0 (MQ below (rQ (.int (nI (wvN r (nP r))))) args s 0 0 nF) (F0 m 4 ls []) := by
    intro k_4
    induction k_4 with
    | zero =>
      intro i x3 x2 hm
      exact absurd hm (Nat.not_lt_zero _)
    | succ k_4 ih_4 =>
      intro i x3 x2 hm_4 hi e_x3 e_x2  ls hl
      subst e_x3
      subst e_x2
      refine lv_iload_n (pc := 4) hx hb dX1_wolves_4 rfl (lv_at hl 0 rfl) ?_
      refine lv_aload_n (pc := 5) hx hb dX1_wolves_5 rfl (lv_at hl 2 rfl) ?_
      refine z_get (pc := 6) cx (hW.at 6 rfl) (C := RX1) (T := TX1) (N := 8) rfl i_X1 0 rfl m_fl_X1_40 rfl dX1_wolves_6 ?_
      refine lv_icmp_ge (pc := 9) (tgt := 55) hx hb dX1_wolves_9 (by decide) (fun c_1 => ?_) (fun c_1 => ?_)
      · skip
        obtain rfl : i = nP r := by have := ge_nat (a := i) rfl hpN (by omega) (by omega) c_1; omega
        refine lv_iload_n (pc := 55) hx hb dX1_wolves_55 rfl (lv_at hl 1 rfl) ?_
        exact z_iret cx hr hlk dX1_wolves_56 (by first | rfl | (simp [wvN]; done))
      · skip
        have hlt_i := lt_nat (a := i) rfl hpN (by omega) (by omega) c_1
        refine lv_aload_n (pc := 12) hx hb dX1_wolves_12 rfl (lv_at hl 2 rfl) ?_
        refine lv_iload_n (pc := 13) hx hb dX1_wolves_13 rfl (lv_at hl 0 rfl) ?_
        obtain ⟨q1, h1q1, h2q1⟩ := hPc i hlt_i
        have hjn := jn_C hP hlt_i (by omega)
        refine k_X1_pieceAt (pc := 14) (n := i) (q := q1) cx hW hC hpN hlt_i h1q1 m_ml_X1_202 ⟨Nat.le_of_ble_eq_true rfl, Nat.le_of_ble_eq_true rfl⟩ hl.1 rfl (by simp [Value.category]) dX1_wolves_14 ⟨Nat.le_refl _, Nat.le_refl _⟩ ?_
        refine lv_astore (pc := 17) (lv' := [(4, .ref q1), (3, .int (nI i)), (2, .int (nI (wvN r i))), (0, .ref (b 6)), (1, .ref t)]) hx hb dX1_wolves_17 hl (by decide) rfl (fun ls hl => ?_)
        refine lv_aload (pc := 19) hx hb dX1_wolves_19 (lv_at hl 0 rfl) ?_
        refine lv_ifnull (pc := 21) hx hb dX1_wolves_21 ?_
        refine lv_aload (pc := 24) hx hb dX1_wolves_24 (lv_at hl 0 rfl) ?_
        refine z_get (pc := 26) cx (hW.dyn h2q1) (C := RX2) (T := TX2) (N := 5) rfl i_X2 3 rfl m_fl_X1_124 rfl dX1_wolves_26 ?_
        refine lv_if_lt (pc := 29) (tgt := 49) hx hb dX1_wolves_29 (by decide) (fun c_2 => ?_) (fun c_2 => ?_)
        · skip
          have hv : wvB r i = false := wvB_0 (hjn.1 c_2)
          refine lv_iinc (pc := 49) (v := nI (i + 1)) (lv' := [(3, .int (nI (i + 1))), (4, .ref q1), (2, .int (nI (wvN r i))), (0, .ref (b 6)), (1, .ref t)]) hx hb dX1_wolves_49 hl (k := 1) rfl (nI_1 _) (by decide) rfl (fun ls hl => ?_)
          refine lv_goto (pc := 52) (tgt := 4) hx hb dX1_wolves_52 (by decide) ?_
          exact ih_4 (i + 1) (nI (i + 1)) (nI (wvN r i)) (by omega) (by omega) (by first | rfl | (simp [wvN, hv]; done)) (by simp [wvN, hv]) ls (lv_sub hl [0, 2, 3, 4] rfl)
        · skip
          obtain ⟨j, hj, ej, ej2⟩ := hjn.2 c_2
          refine lv_aload_n (pc := 32) hx hb dX1_wolves_32 rfl (lv_at hl 3 rfl) ?_
          refine lv_aload (pc := 33) hx hb dX1_wolves_33 (lv_at hl 0 rfl) ?_
          refine z_get (pc := 35) cx (hW.dyn h2q1) (C := RX2) (T := TX2) (N := 5) rfl i_X2 3 rfl m_fl_X1_124 rfl dX1_wolves_35 ?_
          refine z_tope (y := nI j) ej ?_
          refine lv_iload_n (pc := 38) hx hb dX1_wolves_38 rfl (lv_at hl 1 rfl) ?_
          refine lv_aload_n (pc := 39) hx hb dX1_wolves_39 rfl (lv_at hl 4 rfl) ?_
          refine k_X1_isWolf (pc := 40) (n := j) (k := i) (t := t) cx hW hI hpN hPc (by omega) hlt_i hAt m_ml_X1_213 ⟨Nat.le_of_ble_eq_true rfl, Nat.le_of_ble_eq_true rfl⟩ hl.1 rfl (by simp [Value.category]) dX1_wolves_40 ⟨Nat.le_refl _, Nat.le_refl _⟩ ?_
          refine z_ifeq (pc := 43) (tgt := 49) hx hb dX1_wolves_43 (by decide) (fun c_3 => ?_) (fun c_3 => ?_)
          · skip
            have hv : wvB r i = false := wvB_j hj (by omega) ej2 c_3
            refine lv_iinc (pc := 49) (v := nI (i + 1)) (lv' := [(3, .int (nI (i + 1))), (4, .ref q1), (2, .int (nI (wvN r i))), (0, .ref (b 6)), (1, .ref t)]) hx hb dX1_wolves_49 hl (k := 1) rfl (nI_1 _) (by decide) rfl (fun ls hl => ?_)
            refine lv_goto (pc := 52) (tgt := 4) hx hb dX1_wolves_52 (by decide) ?_
            exact ih_4 (i + 1) (nI (i + 1)) (nI (wvN r i)) (by omega) (by omega) (by first | rfl | (simp [wvN, hv]; done)) (by simp [wvN, hv]) ls (lv_sub hl [0, 2, 3, 4] rfl)
          · skip
            have hv : wvB r i = true := wvB_j hj (by omega) ej2 c_3
            refine lv_iinc (pc := 46) (v := nI ((wvN r i) + 1)) (lv' := [(2, .int (nI ((wvN r i) + 1))), (4, .ref q1), (3, .int (nI i)), (0, .ref (b 6)), (1, .ref t)]) hx hb dX1_wolves_46 hl (k := 2) rfl (nI_1 _) (by decide) rfl (fun ls hl => ?_)
            refine lv_iinc (pc := 49) (v := nI (i + 1)) (lv' := [(3, .int (nI (i + 1))), (2, .int (nI ((wvN r i) + 1))), (4, .ref q1), (0, .ref (b 6)), (1, .ref t)]) hx hb dX1_wolves_49 hl (k := 2) rfl (nI_1 _) (by decide) rfl (fun ls hl => ?_)
            refine lv_goto (pc := 52) (tgt := 4) hx hb dX1_wolves_52 (by decide) ?_
            exact ih_4 (i + 1) (nI (i + 1)) (nI ((wvN r i) + 1)) (by omega) (by omega) (by first | rfl | (simp [wvN, hv]; done)) (by simp [wvN, hv]) ls (lv_sub hl [0, 1, 3, 4] rfl)
  exact loop_4 ((nP r - 0) + 1) 0 0 0 (Nat.lt_succ_self _) (by omega) (by first | rfl | (simp [wvN]; done)) (by first | rfl | (simp [wvN]; done)) ls (lv_sub hl [0, 1, 2, 3] rfl)
theorem k_X1_wolves {p : Program} {l : Launch} {e : Env} {R : Room} {s : State} {m : MethodId} {args : Array Value} {below : List Frame} {meth : Method} {c : Code} {H : Heap} {locs : List Loc} {cells slots : Nat} {Q : State → Prop} {cc : ByteArray} {pc index : Nat} {ls : Array Slot} {rest st0 : List Value} {E : zE} {own : String} {nL : Nat} {b : Nat → Nat} {tl : va_W} {pd : Bool} {qt : Nat → Option Nat} {qr : Nat → Option Nat} {tbu : Nat → Int32} {wst : Nat → Int32} {asw : Nat → Int32} {pN : Int32} {tN : Int32} {aN : Int32} {hd : Int32} {dr : Int32} {pl : Int32} {rm : Int32} {ps : Int32} {wx : Nat → Int32} {pp : Nat → Option Nat} {tp : Nat → Option Nat} {ap : Nat → Option Nat} {sg : Nat → Int32} {uh : Int32} {ud : Int32} {up : Int32} {ur : Int32} {us : Int32} {ux : Nat → Int32} {G : zG} {t w : Nat} {r xw : Nat → Int32} (cx : Cx E p s args m c own cc nL) (hW : WW E (wK b E.2.1 tl pd qt qr tbu wst asw pN tN aN hd dr pl rm ps wx pp tp ap sg uh ud up ur us ux) G H) (hI : Inv r) (hpN : pN = nI (nP r)) (hPc : PcG G r pp) (hAt : ∀ (sg3 : Nat → Int32) (H : Heap), WW E (wK b E.2.1 tl pd qt qr tbu wst asw pN tN aN hd dr pl rm ps wx pp tp ap sg3 uh ud up ur us ux) G H → StA E H t w r xw) (zl : Cond.methodLink own index yX1_wolves ∈ AllW) (zR : 5 + 1 ≤ R.frames ∧ 8 + (5 + 11) + 112 ≤ R.locals) (zs : ls.size = nL) (zt : st0 = ([.ref t] : List Value).reverse ++ .ref (b 6) :: rest) (z8 : (rest.map fun v => v.category).sum ≤ 8) (zd : decode cc pc = .ok (.invokevirtual index, 3)) (zf : cells ≤ R.cells ∧ slots ≤ R.slots) (kk : W p l e R s m args below meth c H locs cells slots Q (F0 m (pc + 3) ls (.int (nI (wvN r (nP r))) :: rest))) : W p l e R s m args below meth c H locs cells slots Q (F0 m pc ls st0) :=
  z_callV cx vm_X1_wolves (c_X1_wolves l E b tl pd qt qr tbu wst asw pN tN aN hd dr pl rm ps wx pp tp ap sg uh ud up ur us ux G t w r xw hI hpN hPc hAt) (z_rec cx.2 (hW.at 6 rfl) rfl) hW zl ⟨rfl, rfl⟩ zR rfl zs zt z8 zd zf kk
theorem vm_X1_wolfAt : zVm yX1_wolfAt cX1_wolfAt 6 (some FieldType.int) 2 := ⟨m_co_X1_wolfAt, m_in_RX1, ⟨m_im_X1_wolfAt, m_se_X1_X1_wolfAt⟩, by decide +kernel, by decide +kernel, by decide +kernel⟩
set_option maxHeartbeats 1000000 in
set_option maxRecDepth 100000 in
theorem c_X1_wolfAt (l : Launch) (E : zE) (b : Nat → Nat) (tl : va_W) (pd : Bool) (qt : Nat → Option Nat) (qr : Nat → Option Nat) (tbu : Nat → Int32) (wst : Nat → Int32) (asw : Nat → Int32) (pN : Int32) (tN : Int32) (aN : Int32) (hd : Int32) (dr : Int32) (pl : Int32) (rm : Int32) (ps : Int32) (wx : Nat → Int32) (pp : Nat → Option Nat) (tp : Nat → Option Nat) (ap : Nat → Option Nat) (sg : Nat → Int32) (uh : Int32) (ud : Int32) (up : Int32) (ur : Int32) (us : Int32) (ux : Nat → Int32) (G : zG) (x : Int32) (t w : Nat) (r xw : Nat → Int32) (hI : Inv r) (hpN : pN = nI (nP r)) (hPc : PcG G r pp) (hx0 : 0 ≤ x) (hAt : ∀ (sg3 : Nat → Int32) (H : Heap), WW E (wK b E.2.1 tl pd qt qr tbu wst asw pN tN aN hd dr pl rm ps wx pp tp ap sg3 uh ud up ur us ux) G H → StA E H t w r xw) : Met l yX1_wolfAt (.code yX1_wolfAt cX1_wolfAt 6 (some FieldType.int) :: AllW) (rm0' 5 112) (zP E (fun H => WW E (wK b E.2.1 tl pd qt qr tbu wst asw pN tN aN hd dr pl rm ps wx pp tp ap sg uh ud up ur us ux) G H) [.ref (b 6), .int x, .ref t]) (rQ (.int (wfO r x))) 0 0 nF := by
  refine z_body (own := RX1) (by decide) rfl rfl ?_
  intro p e s m args below meth c ls cx hr hlk hnm hW hl
  have hx := cx.x
  have hb := cx.b
  have hl : lv_has ls 6 [(0, .ref (b 6)), (1, .int x), (2, .ref t)] := hl
  have hC := hI.1
  have hIS := hI.2.1
  have hP := hI.2.2.1
  have hT := hI.2.2.2.1
  have hP10 := (Inv.n0 hC).2
  have hT7 := (Inv.n1 hC).2
  have hA24 := (Inv.n2 hC).2
  have e0 := (Inv.n0 hC).1
  have e1 := (Inv.n1 hC).1
  have e2 := (Inv.n2 hC).1
  refine lv_iconst (pc := 0) (v := 0) hx hb dX1_wolfAt_0 (by decide) ?_
  refine lv_istore_n (pc := 1) (lv' := [(3, .int 0), (0, .ref (b 6)), (1, .int x), (2, .ref t)]) hx hb dX1_wolfAt_1 rfl hl (by decide) rfl (fun ls hl => ?_)
  refine lv_iconst (pc := 2) (v := 0) hx hb dX1_wolfAt_2 (by decide) ?_
  refine lv_istore (pc := 3) (lv' := [(4, .int 0), (3, .int 0), (0, .ref (b 6)), (1, .int x), (2, .ref t)]) hx hb dX1_wolfAt_3 hl (by decide) rfl (fun ls hl => ?_)
  have loop_5 : ∀ (k_5 : Nat) (i : Nat) (n : Nat) (x4 : Int32) (x3 : Int32), (nP r - i) < k_5 → (i ≤ nP r) → (wA r x (nP r) 0 0 = wA r x (nP r - i) i n) → x4 = nI i → x3 = nI n → ∀ (ls : Array Slot), lv_has ls 6 [(4, .int x4), (3, .int x3), (0, .ref (b 6)), (1, .int x), (2, .ref t)] → W p l e (rm0' (5) (112)) s m args below meth c s.heap [] 0 0 (MQ below (rQ (.int (wfO r x))) args s 0 0 nF) (F0 m 5 ls []) := by
    intro k_5
    induction k_5 with
    | zero =>
      intro i n x4 x3 hm
      exact absurd hm (Nat.not_lt_zero _)
    | succ k_5 ih_5 =>
      intro i n x4 x3 hm_5 hi hA e_x4 e_x3  ls hl
      subst e_x4
      subst e_x3
      refine lv_iload (pc := 5) hx hb dX1_wolfAt_5 (lv_at hl 0 rfl) ?_
      refine lv_aload_n (pc := 7) hx hb dX1_wolfAt_7 rfl (lv_at hl 2 rfl) ?_
      refine z_get (pc := 8) cx (hW.at 6 rfl) (C := RX1) (T := TX1) (N := 8) rfl i_X1 0 rfl m_fl_X1_40 rfl dX1_wolfAt_8 ?_
      refine lv_icmp_ge (pc := 11) (tgt := 70) hx hb dX1_wolfAt_11 (by decide) (fun c_1 => ?_) (fun c_1 => ?_)
      · skip
        obtain rfl : i = nP r := by have := ge_nat (a := i) rfl hpN (by omega) (by omega) c_1; omega
        refine lv_bipush (pc := 70) (v := (-4)) hx hb dX1_wolfAt_70 (by decide) ?_
        exact z_iret cx hr hlk dX1_wolfAt_72 (by unfold wfO; rw [hA, Nat.sub_self]; simp [wA, hx0])
      · skip
        have hlt_i := lt_nat (a := i) rfl hpN (by omega) (by omega) c_1
        refine lv_iload (pc := 14) hx hb dX1_wolfAt_14 (lv_at hl 0 rfl) ?_
        refine lv_iconst (pc := 16) (v := 1) hx hb dX1_wolfAt_16 (by decide) ?_
        refine lv_iadd (pc := 17) hx hb dX1_wolfAt_17 ?_
        refine z_tope (y := nI (i + 1)) (nI_1 i) ?_
        refine lv_istore (pc := 18) (lv' := [(5, .int (nI (i + 1))), (4, .int (nI i)), (3, .int (nI n)), (0, .ref (b 6)), (1, .int x), (2, .ref t)]) hx hb dX1_wolfAt_18 hl (by decide) rfl (fun ls hl => ?_)
        have loop_20 : ∀ (k_20 : Nat) (k : Nat) (n2 : Nat) (x5 : Int32) (x3 : Int32), (nP r - k) < k_20 → (k ≤ nP r) → (wB r x i (nP r) 0 n = wB r x i (nP r - k) k n2) → x5 = nI k → x3 = nI n2 → ∀ (ls : Array Slot), lv_has ls 6 [(5, .int x5), (4, .int (nI i)), (3, .int x3), (0, .ref (b 6)), (1, .int x), (2, .ref t)] → W p l e (rm0' (5) (112)) s m args below meth c s.heap [] 0 0 (MQ below (rQ (.int (wfO r x))) args s 0 0 nF) (F0 m 20 ls []) := by
          intro k_20
          induction k_20 with
          | zero =>
            intro k n2 x5 x3 hm
            exact absurd hm (Nat.not_lt_zero _)
          | succ k_20 ih_20 =>
            intro k n2 x5 x3 hm_20 hkn hB e_x5 e_x3  ls hl
            subst e_x5
            subst e_x3
            refine lv_iload (pc := 20) hx hb dX1_wolfAt_20 (lv_at hl 0 rfl) ?_
            refine lv_aload_n (pc := 22) hx hb dX1_wolfAt_22 rfl (lv_at hl 3 rfl) ?_
            refine z_get (pc := 23) cx (hW.at 6 rfl) (C := RX1) (T := TX1) (N := 8) rfl i_X1 0 rfl m_fl_X1_40 rfl dX1_wolfAt_23 ?_
            refine lv_icmp_ge (pc := 26) (tgt := 64) hx hb dX1_wolfAt_26 (by decide) (fun c_2 => ?_) (fun c_2 => ?_)
            · skip
              obtain rfl : k = nP r := by have := ge_nat (a := k) rfl hpN (by omega) (by omega) c_2; omega
              refine lv_iinc (pc := 64) (v := nI (i + 1)) (lv' := [(4, .int (nI (i + 1))), (5, .int (nI (nP r))), (3, .int (nI n2)), (0, .ref (b 6)), (1, .int x), (2, .ref t)]) hx hb dX1_wolfAt_64 hl (k := 1) rfl (nI_1 _) (by decide) rfl (fun ls hl => ?_)
              refine lv_goto (pc := 67) (tgt := 5) hx hb dX1_wolfAt_67 (by decide) ?_
              exact ih_5 (i + 1) n2 (nI (i + 1)) (nI n2) (by omega) (by omega) (by rw [hA, wA_go (hB.trans (by rw [Nat.sub_self]; rfl)) (by omega)]; rfl) (by first | rfl | (simp []; done)) (by first | rfl | (simp []; done)) ls (lv_sub hl [0, 2, 3, 4, 5] rfl)
            · skip
              have hlt_k := lt_nat (a := k) rfl hpN (by omega) (by omega) c_2
              refine lv_aload_n (pc := 29) hx hb dX1_wolfAt_29 rfl (lv_at hl 3 rfl) ?_
              refine lv_iload (pc := 30) hx hb dX1_wolfAt_30 (lv_at hl 1 rfl) ?_
              refine lv_iload (pc := 32) hx hb dX1_wolfAt_32 (lv_at hl 0 rfl) ?_
              refine lv_aload_n (pc := 34) hx hb dX1_wolfAt_34 rfl (lv_at hl 5 rfl) ?_
              refine k_X1_isWolf (pc := 35) (n := i) (k := k) (t := t) cx hW hI hpN hPc hlt_i hlt_k hAt m_ml_X1_213 ⟨Nat.le_of_ble_eq_true rfl, Nat.le_of_ble_eq_true rfl⟩ hl.1 rfl (by simp [Value.category]) dX1_wolfAt_35 ⟨Nat.le_refl _, Nat.le_refl _⟩ ?_
              refine z_ifeq (pc := 38) (tgt := 58) hx hb dX1_wolfAt_38 (by decide) (fun c_3 => ?_) (fun c_3 => ?_)
              · skip
                refine lv_iinc (pc := 58) (v := nI (k + 1)) (lv' := [(5, .int (nI (k + 1))), (4, .int (nI i)), (3, .int (nI n2)), (0, .ref (b 6)), (1, .int x), (2, .ref t)]) hx hb dX1_wolfAt_58 hl (k := 0) rfl (nI_1 _) (by decide) rfl (fun ls hl => ?_)
                refine lv_goto (pc := 61) (tgt := 20) hx hb dX1_wolfAt_61 (by decide) ?_
                exact ih_20 (k + 1) n2 (nI (k + 1)) (nI n2) (by omega) (by omega) (by first | (rw [hB, wB_miss (by assumption) (by omega)]; rfl) | (rw [hB, wB_cnt (by assumption) (by assumption) (by omega)]; rfl)) (by first | rfl | (simp [c_3]; done)) (by first | rfl | exact nI_1 _) ls (lv_sub hl [0, 1, 2, 3, 4, 5] rfl)
              · skip
                refine lv_iload_n (pc := 41) hx hb dX1_wolfAt_41 rfl (lv_at hl 2 rfl) ?_
                refine lv_iload_n (pc := 42) hx hb dX1_wolfAt_42 rfl (lv_at hl 4 rfl) ?_
                refine lv_icmp_ne (pc := 43) (tgt := 55) hx hb dX1_wolfAt_43 (by decide) (fun c_4 => ?_) (fun c_4 => ?_)
                · skip
                  refine lv_iinc (pc := 55) (v := nI (n2 + 1)) (lv' := [(3, .int (nI (n2 + 1))), (5, .int (nI k)), (4, .int (nI i)), (0, .ref (b 6)), (1, .int x), (2, .ref t)]) hx hb dX1_wolfAt_55 hl (k := 2) rfl (nI_1 _) (by decide) rfl (fun ls hl => ?_)
                  refine lv_iinc (pc := 58) (v := nI (k + 1)) (lv' := [(5, .int (nI (k + 1))), (3, .int (nI (n2 + 1))), (4, .int (nI i)), (0, .ref (b 6)), (1, .int x), (2, .ref t)]) hx hb dX1_wolfAt_58 hl (k := 1) rfl (nI_1 _) (by decide) rfl (fun ls hl => ?_)
                  refine lv_goto (pc := 61) (tgt := 20) hx hb dX1_wolfAt_61 (by decide) ?_
                  exact ih_20 (k + 1) (n2 + 1) (nI (k + 1)) (nI (n2 + 1)) (by omega) (by omega) (by first | (rw [hB, wB_miss (by assumption) (by omega)]; rfl) | (rw [hB, wB_cnt (by assumption) (by assumption) (by omega)]; rfl)) (by first | rfl | (simp [c_3, c_4]; done)) (by first | rfl | exact nI_1 _) ls (lv_sub hl [0, 2, 1, 3, 4, 5] rfl)
                · skip
                  refine lv_bipush (pc := 46) (v := 10) hx hb dX1_wolfAt_46 (by decide) ?_
                  refine lv_iload (pc := 48) hx hb dX1_wolfAt_48 (lv_at hl 1 rfl) ?_
                  refine lv_imul (pc := 50) hx hb dX1_wolfAt_50 ?_
                  refine lv_iload (pc := 51) hx hb dX1_wolfAt_51 (lv_at hl 0 rfl) ?_
                  refine lv_iadd (pc := 53) hx hb dX1_wolfAt_53 ?_
                  exact z_iret cx hr hlk dX1_wolfAt_54 (by unfold wfO; rw [hA, wA_hit (hB.trans (wB_hit (by assumption) (by assumption) (by omega))) (by omega)]; rw [show (10 : Int32) = nI 10 from rfl, nI_mul, nI_add])
        exact loop_20 ((nP r - (i + 1)) + 1) (i + 1) n (nI (i + 1)) (nI n) (Nat.lt_succ_self _) (by omega) (wB_from hP hC hlt_i _ (Nat.le_refl _)) (by first | rfl | (simp []; done)) (by first | rfl | (simp []; done)) ls (lv_sub hl [0, 1, 2, 3, 4, 5] rfl)
  exact loop_5 ((nP r - 0) + 1) 0 0 0 0 (Nat.lt_succ_self _) (by omega) rfl (by first | rfl | (simp []; done)) (by first | rfl | (simp []; done)) ls (lv_sub hl [0, 1, 2, 3, 4] rfl)
theorem k_X1_wolfAt {p : Program} {l : Launch} {e : Env} {R : Room} {s : State} {m : MethodId} {args : Array Value} {below : List Frame} {meth : Method} {c : Code} {H : Heap} {locs : List Loc} {cells slots : Nat} {Q : State → Prop} {cc : ByteArray} {pc index : Nat} {ls : Array Slot} {rest st0 : List Value} {E : zE} {own : String} {nL : Nat} {b : Nat → Nat} {tl : va_W} {pd : Bool} {qt : Nat → Option Nat} {qr : Nat → Option Nat} {tbu : Nat → Int32} {wst : Nat → Int32} {asw : Nat → Int32} {pN : Int32} {tN : Int32} {aN : Int32} {hd : Int32} {dr : Int32} {pl : Int32} {rm : Int32} {ps : Int32} {wx : Nat → Int32} {pp : Nat → Option Nat} {tp : Nat → Option Nat} {ap : Nat → Option Nat} {sg : Nat → Int32} {uh : Int32} {ud : Int32} {up : Int32} {ur : Int32} {us : Int32} {ux : Nat → Int32} {G : zG} {x : Int32} {t w : Nat} {r xw : Nat → Int32} (cx : Cx E p s args m c own cc nL) (hW : WW E (wK b E.2.1 tl pd qt qr tbu wst asw pN tN aN hd dr pl rm ps wx pp tp ap sg uh ud up ur us ux) G H) (hI : Inv r) (hpN : pN = nI (nP r)) (hPc : PcG G r pp) (hx0 : 0 ≤ x) (hAt : ∀ (sg3 : Nat → Int32) (H : Heap), WW E (wK b E.2.1 tl pd qt qr tbu wst asw pN tN aN hd dr pl rm ps wx pp tp ap sg3 uh ud up ur us ux) G H → StA E H t w r xw) (zl : Cond.methodLink own index yX1_wolfAt ∈ AllW) (zR : 5 + 1 ≤ R.frames ∧ 8 + (6 + 11) + 112 ≤ R.locals) (zs : ls.size = nL) (zt : st0 = ([.int x, .ref t] : List Value).reverse ++ .ref (b 6) :: rest) (z8 : (rest.map fun v => v.category).sum ≤ 8) (zd : decode cc pc = .ok (.invokevirtual index, 3)) (zf : cells ≤ R.cells ∧ slots ≤ R.slots) (kk : W p l e R s m args below meth c H locs cells slots Q (F0 m (pc + 3) ls (.int (wfO r x) :: rest))) : W p l e R s m args below meth c H locs cells slots Q (F0 m pc ls st0) :=
  z_callV cx vm_X1_wolfAt (c_X1_wolfAt l E b tl pd qt qr tbu wst asw pN tN aN hd dr pl rm ps wx pp tp ap sg uh ud up ur us ux G x t w r xw hI hpN hPc hx0 hAt) (z_rec cx.2 (hW.at 6 rfl) rfl) hW zl ⟨rfl, rfl⟩ zR rfl zs zt z8 zd zf kk
theorem vm_X1_allWax : zVm yX1_allWax cX1_allWax 3 (some FieldType.int) 0 := ⟨m_co_X1_allWax, m_in_RX1, ⟨m_im_X1_allWax, m_se_X1_X1_allWax⟩, by decide +kernel, by decide +kernel, by decide +kernel⟩
set_option maxHeartbeats 1000000 in
set_option maxRecDepth 100000 in
theorem c_X1_allWax (l : Launch) (E : zE) (b : Nat → Nat) (tl : va_W) (pd : Bool) (qt : Nat → Option Nat) (qr : Nat → Option Nat) (tbu : Nat → Int32) (wst : Nat → Int32) (asw : Nat → Int32) (pN : Int32) (tN : Int32) (aN : Int32) (hd : Int32) (dr : Int32) (pl : Int32) (rm : Int32) (ps : Int32) (wx : Nat → Int32) (pp : Nat → Option Nat) (tp : Nat → Option Nat) (ap : Nat → Option Nat) (sg : Nat → Int32) (uh : Int32) (ud : Int32) (up : Int32) (ur : Int32) (us : Int32) (ux : Nat → Int32) (G : zG) (r : Nat → Int32) (hC : InvC r) (hpN : pN = nI (nP r)) (hwx : ∀ n, n < nP r → wx n = g6 r n 5) : Met l yX1_allWax (.code yX1_allWax cX1_allWax 3 (some FieldType.int) :: AllW) (rm0' 1 21) (zP E (fun H => WW E (wK b E.2.1 tl pd qt qr tbu wst asw pN tN aN hd dr pl rm ps wx pp tp ap sg uh ud up ur us ux) G H) [.ref (b 6)]) (rQ (.int (sumN (fun n => g6 r n 5) (nP r)))) 0 0 nF := by
  refine z_body (own := RX1) (by decide) rfl rfl ?_
  intro p e s m args below meth c ls cx hr hlk hnm hW hl
  have hx := cx.x
  have hb := cx.b
  have hl : lv_has ls 3 [(0, .ref (b 6))] := hl
  have hP10 := (Inv.n0 hC).2
  refine lv_iconst (pc := 0) (v := 0) hx hb dX1_allWax_0 (by decide) ?_
  refine lv_istore_n (pc := 1) (lv' := [(1, .int 0), (0, .ref (b 6))]) hx hb dX1_allWax_1 rfl hl (by decide) rfl (fun ls hl => ?_)
  refine lv_iconst (pc := 2) (v := 0) hx hb dX1_allWax_2 (by decide) ?_
  refine lv_istore_n (pc := 3) (lv' := [(2, .int 0), (1, .int 0), (0, .ref (b 6))]) hx hb dX1_allWax_3 rfl hl (by decide) rfl (fun ls hl => ?_)
  have loop_4 : ∀ (k_4 : Nat) (i : Nat) (x2 : Int32) (x1 : Int32), (nP r - i) < k_4 → (i ≤ nP r) → x2 = nI i → x1 = sumN (fun n => g6 r n 5) i → ∀ (ls : Array Slot), lv_has ls 3 [(2, .int x2), (1, .int x1), (0, .ref (b 6))] → W p l e (rm0' (1) (21)) s m args below meth c s.heap [] 0 0 (MQ below (rQ (.int (sumN (fun n => g6 r n 5) (nP r)))) args s 0 0 nF) (F0 m 4 ls []) := by
    intro k_4
    induction k_4 with
    | zero =>
      intro i x2 x1 hm
      exact absurd hm (Nat.not_lt_zero _)
    | succ k_4 ih_4 =>
      intro i x2 x1 hm_4 hi e_x2 e_x1  ls hl
      subst e_x2
      subst e_x1
      refine lv_iload_n (pc := 4) hx hb dX1_allWax_4 rfl (lv_at hl 0 rfl) ?_
      refine lv_aload_n (pc := 5) hx hb dX1_allWax_5 rfl (lv_at hl 2 rfl) ?_
      refine z_get (pc := 6) cx (hW.at 6 rfl) (C := RX1) (T := TX1) (N := 8) rfl i_X1 0 rfl m_fl_X1_40 rfl dX1_allWax_6 ?_
      refine lv_icmp_ge (pc := 9) (tgt := 29) hx hb dX1_allWax_9 (by decide) (fun c_1 => ?_) (fun c_1 => ?_)
      · skip
        obtain rfl : i = nP r := by have := ge_nat (a := i) rfl hpN (by omega) (by omega) c_1; omega
        refine lv_iload_n (pc := 29) hx hb dX1_allWax_29 rfl (lv_at hl 1 rfl) ?_
        exact z_iret cx hr hlk dX1_allWax_30 (by first | rfl | (simp [sumN]; done))
      · skip
        have hlt_i := lt_nat (a := i) rfl hpN (by omega) (by omega) c_1
        refine lv_iload_n (pc := 12) hx hb dX1_allWax_12 rfl (lv_at hl 1 rfl) ?_
        refine lv_aload_n (pc := 13) hx hb dX1_allWax_13 rfl (lv_at hl 2 rfl) ?_
        refine z_get (pc := 14) cx (hW.at 6 rfl) (C := RX1) (T := TX1) (N := 8) rfl i_X1 3 rfl m_fl_X1_12 rfl dX1_allWax_14 ?_
        refine lv_iload_n (pc := 17) hx hb dX1_allWax_17 rfl (lv_at hl 0 rfl) ?_
        refine k_X5_waxOn (pc := 18) (n := i) cx ⟨hW.at 7 rfl, hW.at 8 rfl⟩ (by first | assumption | omega) m_ml_X1_113 ⟨Nat.le_of_ble_eq_true rfl, Nat.le_of_ble_eq_true rfl⟩ hl.1 rfl (by simp [Value.category]) dX1_allWax_18 ⟨Nat.le_refl _, Nat.le_refl _⟩ ?_
        refine z_tope (y := g6 r i 5) (hwx i hlt_i) ?_
        refine lv_iadd (pc := 21) hx hb dX1_allWax_21 ?_
        refine lv_istore_n (pc := 22) (lv' := [(1, .int ((sumN (fun n => g6 r n 5) i) + (g6 r i 5))), (2, .int (nI i)), (0, .ref (b 6))]) hx hb dX1_allWax_22 rfl hl (by decide) rfl (fun ls hl => ?_)
        refine lv_iinc (pc := 23) (v := nI (i + 1)) (lv' := [(2, .int (nI (i + 1))), (1, .int ((sumN (fun n => g6 r n 5) i) + (g6 r i 5))), (0, .ref (b 6))]) hx hb dX1_allWax_23 hl (k := 1) rfl (nI_1 _) (by decide) rfl (fun ls hl => ?_)
        refine lv_goto (pc := 26) (tgt := 4) hx hb dX1_allWax_26 (by decide) ?_
        exact ih_4 (i + 1) (nI (i + 1)) ((sumN (fun n => g6 r n 5) i) + (g6 r i 5)) (by omega) (by omega) (by first | rfl | (simp [sumN]; done)) (by first | rfl | (simp [sumN]; done)) ls (lv_sub hl [0, 1, 2] rfl)
  exact loop_4 ((nP r - 0) + 1) 0 0 0 (Nat.lt_succ_self _) (by omega) (by first | rfl | (simp [sumN]; done)) (by first | rfl | (simp [sumN]; done)) ls (lv_sub hl [0, 1, 2] rfl)
theorem k_X1_allWax {p : Program} {l : Launch} {e : Env} {R : Room} {s : State} {m : MethodId} {args : Array Value} {below : List Frame} {meth : Method} {c : Code} {H : Heap} {locs : List Loc} {cells slots : Nat} {Q : State → Prop} {cc : ByteArray} {pc index : Nat} {ls : Array Slot} {rest st0 : List Value} {E : zE} {own : String} {nL : Nat} {b : Nat → Nat} {tl : va_W} {pd : Bool} {qt : Nat → Option Nat} {qr : Nat → Option Nat} {tbu : Nat → Int32} {wst : Nat → Int32} {asw : Nat → Int32} {pN : Int32} {tN : Int32} {aN : Int32} {hd : Int32} {dr : Int32} {pl : Int32} {rm : Int32} {ps : Int32} {wx : Nat → Int32} {pp : Nat → Option Nat} {tp : Nat → Option Nat} {ap : Nat → Option Nat} {sg : Nat → Int32} {uh : Int32} {ud : Int32} {up : Int32} {ur : Int32} {us : Int32} {ux : Nat → Int32} {G : zG} {r : Nat → Int32} (cx : Cx E p s args m c own cc nL) (hW : WW E (wK b E.2.1 tl pd qt qr tbu wst asw pN tN aN hd dr pl rm ps wx pp tp ap sg uh ud up ur us ux) G H) (hC : InvC r) (hpN : pN = nI (nP r)) (hwx : ∀ n, n < nP r → wx n = g6 r n 5) (zl : Cond.methodLink own index yX1_allWax ∈ AllW) (zR : 1 + 1 ≤ R.frames ∧ 8 + (3 + 11) + 21 ≤ R.locals) (zs : ls.size = nL) (zt : st0 = ([] : List Value).reverse ++ .ref (b 6) :: rest) (z8 : (rest.map fun v => v.category).sum ≤ 8) (zd : decode cc pc = .ok (.invokevirtual index, 3)) (zf : cells ≤ R.cells ∧ slots ≤ R.slots) (kk : W p l e R s m args below meth c H locs cells slots Q (F0 m (pc + 3) ls (.int (sumN (fun n => g6 r n 5) (nP r)) :: rest))) : W p l e R s m args below meth c H locs cells slots Q (F0 m pc ls st0) :=
  z_callV cx vm_X1_allWax (c_X1_allWax l E b tl pd qt qr tbu wst asw pN tN aN hd dr pl rm ps wx pp tp ap sg uh ud up ur us ux G r hC hpN hwx) (z_rec cx.2 (hW.at 6 rfl) rfl) hW zl ⟨rfl, rfl⟩ zR rfl zs zt z8 zd zf kk
theorem vm_X1_asksHeard : zVm yX1_asksHeard cX1_asksHeard 4 (some FieldType.int) 0 := ⟨m_co_X1_asksHeard, m_in_RX1, ⟨m_im_X1_asksHeard, m_se_X1_X1_asksHeard⟩, by decide +kernel, by decide +kernel, by decide +kernel⟩
set_option maxHeartbeats 1000000 in
set_option maxRecDepth 100000 in
theorem c_X1_asksHeard (l : Launch) (E : zE) (b : Nat → Nat) (tl : va_W) (pd : Bool) (qt : Nat → Option Nat) (qr : Nat → Option Nat) (tbu : Nat → Int32) (wst : Nat → Int32) (asw : Nat → Int32) (pN : Int32) (tN : Int32) (aN : Int32) (hd : Int32) (dr : Int32) (pl : Int32) (rm : Int32) (ps : Int32) (wx : Nat → Int32) (pp : Nat → Option Nat) (tp : Nat → Option Nat) (ap : Nat → Option Nat) (sg : Nat → Int32) (uh : Int32) (ud : Int32) (up : Int32) (ur : Int32) (us : Int32) (ux : Nat → Int32) (G : zG) (r : Nat → Int32) (hC : InvC r) (haN : aN = nI (nA r)) (hAk : AkG E.2.1 G r ap) : Met l yX1_asksHeard (.code yX1_asksHeard cX1_asksHeard 4 (some FieldType.int) :: AllW) (rm0' 1 21) (zP E (fun H => WW E (wK b E.2.1 tl pd qt qr tbu wst asw pN tN aN hd dr pl rm ps wx pp tp ap sg uh ud up ur us ux) G H) [.ref (b 6)]) (rQ (.int (sumN (fun i => bI (hdA r i)) (nA r)))) 0 0 nF := by
  refine z_body (own := RX1) (by decide) rfl rfl ?_
  intro p e s m args below meth c ls cx hr hlk hnm hW hl
  have hx := cx.x
  have hb := cx.b
  have hl : lv_has ls 4 [(0, .ref (b 6))] := hl
  have hA24 := (Inv.n2 hC).2
  refine lv_iconst (pc := 0) (v := 0) hx hb dX1_asksHeard_0 (by decide) ?_
  refine lv_istore_n (pc := 1) (lv' := [(1, .int 0), (0, .ref (b 6))]) hx hb dX1_asksHeard_1 rfl hl (by decide) rfl (fun ls hl => ?_)
  refine lv_iconst (pc := 2) (v := 0) hx hb dX1_asksHeard_2 (by decide) ?_
  refine lv_istore_n (pc := 3) (lv' := [(2, .int 0), (1, .int 0), (0, .ref (b 6))]) hx hb dX1_asksHeard_3 rfl hl (by decide) rfl (fun ls hl => ?_)
  have loop_4 : ∀ (k_4 : Nat) (i : Nat) (x2 : Int32) (x1 : Int32), (nA r - i) < k_4 → (i ≤ nA r) → x2 = nI i → x1 = sumN (fun i => bI (hdA r i)) i → ∀ (ls : Array Slot), lv_has ls 4 [(2, .int x2), (1, .int x1), (0, .ref (b 6))] → W p l e (rm0' (1) (21)) s m args below meth c s.heap [] 0 0 (MQ below (rQ (.int (sumN (fun i => bI (hdA r i)) (nA r)))) args s 0 0 nF) (F0 m 4 ls []) := by
    intro k_4
    induction k_4 with
    | zero =>
      intro i x2 x1 hm
      exact absurd hm (Nat.not_lt_zero _)
    | succ k_4 ih_4 =>
      intro i x2 x1 hm_4 hi e_x2 e_x1  ls hl
      subst e_x2
      subst e_x1
      refine lv_iload_n (pc := 4) hx hb dX1_asksHeard_4 rfl (lv_at hl 0 rfl) ?_
      refine lv_aload_n (pc := 5) hx hb dX1_asksHeard_5 rfl (lv_at hl 2 rfl) ?_
      refine z_get (pc := 6) cx (hW.at 6 rfl) (C := RX1) (T := TX1) (N := 8) rfl i_X1 2 rfl m_fl_X1_47 rfl dX1_asksHeard_6 ?_
      refine lv_icmp_ge (pc := 9) (tgt := 38) hx hb dX1_asksHeard_9 (by decide) (fun c_1 => ?_) (fun c_1 => ?_)
      · skip
        obtain rfl : i = nA r := by have := ge_nat (a := i) rfl haN (by omega) (by omega) c_1; omega
        refine lv_iload_n (pc := 38) hx hb dX1_asksHeard_38 rfl (lv_at hl 1 rfl) ?_
        exact z_iret cx hr hlk dX1_asksHeard_39 (by first | rfl | (simp [sumN, bI]; done))
      · skip
        have hlt_i := lt_nat (a := i) rfl haN (by omega) (by omega) c_1
        refine lv_aload_n (pc := 12) hx hb dX1_asksHeard_12 rfl (lv_at hl 2 rfl) ?_
        refine lv_iload_n (pc := 13) hx hb dX1_asksHeard_13 rfl (lv_at hl 0 rfl) ?_
        obtain ⟨q1, tq1, wq1, xq1, h1q1, h2q1, h3q1, h4q1, h5q1⟩ := hAk i hlt_i
        refine k_X1_askAt (pc := 14) (n := i) (q := q1) cx hW hC haN hlt_i h1q1 m_ml_X1_184 ⟨Nat.le_of_ble_eq_true rfl, Nat.le_of_ble_eq_true rfl⟩ hl.1 rfl (by simp [Value.category]) dX1_asksHeard_14 ⟨Nat.le_refl _, Nat.le_refl _⟩ ?_
        refine lv_astore_n (pc := 17) (lv' := [(3, .ref q1), (2, .int (nI i)), (1, .int (sumN (fun i => bI (hdA r i)) i)), (0, .ref (b 6))]) hx hb dX1_asksHeard_17 rfl hl (by decide) rfl (fun ls hl => ?_)
        refine lv_aload_n (pc := 18) hx hb dX1_asksHeard_18 rfl (lv_at hl 0 rfl) ?_
        refine lv_ifnull (pc := 19) hx hb dX1_asksHeard_19 ?_
        refine lv_aload_n (pc := 22) hx hb dX1_asksHeard_22 rfl (lv_at hl 0 rfl) ?_
        refine z_get (pc := 23) cx (hW.dyn h2q1) (C := RX0) (T := TX0) (N := 5) rfl i_X0 2 rfl m_fl_X1_217 rfl dX1_asksHeard_23 ?_
        refine z_ifeq (pc := 26) (tgt := 32) hx hb dX1_asksHeard_26 (by decide) (fun c_2 => ?_) (fun c_2 => ?_)
        · skip
          refine lv_iinc (pc := 32) (v := nI (i + 1)) (lv' := [(2, .int (nI (i + 1))), (3, .ref q1), (1, .int (sumN (fun i => bI (hdA r i)) i)), (0, .ref (b 6))]) hx hb dX1_asksHeard_32 hl (k := 1) rfl (nI_1 _) (by decide) rfl (fun ls hl => ?_)
          refine lv_goto (pc := 35) (tgt := 4) hx hb dX1_asksHeard_35 (by decide) ?_
          exact ih_4 (i + 1) (nI (i + 1)) (sumN (fun i => bI (hdA r i)) i) (by omega) (by omega) (by first | rfl | (simp [sumN, bI, c_2]; done)) (by first | rfl | (simp [sumN, bI, c_2]; done)) ls (lv_sub hl [0, 2, 3] rfl)
        · skip
          refine lv_iinc (pc := 29) (v := (sumN (fun i => bI (hdA r i)) i) + 1) (lv' := [(1, .int ((sumN (fun i => bI (hdA r i)) i) + 1)), (3, .ref q1), (2, .int (nI i)), (0, .ref (b 6))]) hx hb dX1_asksHeard_29 hl (k := 2) rfl rfl (by decide) rfl (fun ls hl => ?_)
          refine lv_iinc (pc := 32) (v := nI (i + 1)) (lv' := [(2, .int (nI (i + 1))), (1, .int ((sumN (fun i => bI (hdA r i)) i) + 1)), (3, .ref q1), (0, .ref (b 6))]) hx hb dX1_asksHeard_32 hl (k := 2) rfl (nI_1 _) (by decide) rfl (fun ls hl => ?_)
          refine lv_goto (pc := 35) (tgt := 4) hx hb dX1_asksHeard_35 (by decide) ?_
          exact ih_4 (i + 1) (nI (i + 1)) ((sumN (fun i => bI (hdA r i)) i) + 1) (by omega) (by omega) (by first | rfl | (simp [sumN, bI, c_2]; done)) (by first | rfl | (simp [sumN, bI, c_2]; done)) ls (lv_sub hl [0, 1, 3] rfl)
  exact loop_4 ((nA r - 0) + 1) 0 0 0 (Nat.lt_succ_self _) (by omega) (by first | rfl | (simp [sumN, bI]; done)) (by first | rfl | (simp [sumN, bI]; done)) ls (lv_sub hl [0, 1, 2] rfl)
theorem k_X1_asksHeard {p : Program} {l : Launch} {e : Env} {R : Room} {s : State} {m : MethodId} {args : Array Value} {below : List Frame} {meth : Method} {c : Code} {H : Heap} {locs : List Loc} {cells slots : Nat} {Q : State → Prop} {cc : ByteArray} {pc index : Nat} {ls : Array Slot} {rest st0 : List Value} {E : zE} {own : String} {nL : Nat} {b : Nat → Nat} {tl : va_W} {pd : Bool} {qt : Nat → Option Nat} {qr : Nat → Option Nat} {tbu : Nat → Int32} {wst : Nat → Int32} {asw : Nat → Int32} {pN : Int32} {tN : Int32} {aN : Int32} {hd : Int32} {dr : Int32} {pl : Int32} {rm : Int32} {ps : Int32} {wx : Nat → Int32} {pp : Nat → Option Nat} {tp : Nat → Option Nat} {ap : Nat → Option Nat} {sg : Nat → Int32} {uh : Int32} {ud : Int32} {up : Int32} {ur : Int32} {us : Int32} {ux : Nat → Int32} {G : zG} {r : Nat → Int32} (cx : Cx E p s args m c own cc nL) (hW : WW E (wK b E.2.1 tl pd qt qr tbu wst asw pN tN aN hd dr pl rm ps wx pp tp ap sg uh ud up ur us ux) G H) (hC : InvC r) (haN : aN = nI (nA r)) (hAk : AkG E.2.1 G r ap) (zl : Cond.methodLink own index yX1_asksHeard ∈ AllW) (zR : 1 + 1 ≤ R.frames ∧ 8 + (4 + 11) + 21 ≤ R.locals) (zs : ls.size = nL) (zt : st0 = ([] : List Value).reverse ++ .ref (b 6) :: rest) (z8 : (rest.map fun v => v.category).sum ≤ 8) (zd : decode cc pc = .ok (.invokevirtual index, 3)) (zf : cells ≤ R.cells ∧ slots ≤ R.slots) (kk : W p l e R s m args below meth c H locs cells slots Q (F0 m (pc + 3) ls (.int (sumN (fun i => bI (hdA r i)) (nA r)) :: rest))) : W p l e R s m args below meth c H locs cells slots Q (F0 m pc ls st0) :=
  z_callV cx vm_X1_asksHeard (c_X1_asksHeard l E b tl pd qt qr tbu wst asw pN tN aN hd dr pl rm ps wx pp tp ap sg uh ud up ur us ux G r hC haN hAk) (z_rec cx.2 (hW.at 6 rfl) rfl) hW zl ⟨rfl, rfl⟩ zR rfl zs zt z8 zd zf kk
