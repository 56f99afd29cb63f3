theorem vm_X5_tell : zVm yX5_tell cX5_tell 3 (some FieldType.boolean) 2 := ⟨m_co_X5_tell, m_in_RX5, ⟨m_im_X5_tell, m_se_X5_X5_tell⟩, by decide +kernel, by decide +kernel, by decide +kernel⟩
set_option maxHeartbeats 1000000 in
set_option maxRecDepth 100000 in
theorem c_X5_tell_n (l : Launch) (E : zE) (b : Nat → Nat) (tl : va_W) (pd : Bool) (qt : Nat → Option Nat) (qr : Nat → Option Nat) (tbu : Nat → Int32) (wst : Nat → Int32) (asw : Nat → Int32) (pN : Int32) (tN : Int32) (aN : Int32) (hd : Int32) (dr : Int32) (pl : Int32) (rm : Int32) (ps : Int32) (wx : Nat → Int32) (pp : Nat → Option Nat) (tp : Nat → Option Nat) (ap : Nat → Option Nat) (sg : Nat → Int32) (uh : Int32) (ud : Int32) (up : Int32) (ur : Int32) (us : Int32) (ux : Nat → Int32) (G : zG) (w n : Int32)  : Met l yX5_tell (.code yX5_tell cX5_tell 3 (some FieldType.boolean) :: AllW) (rm0' 1 22) (zPc E (bF b) (fun H => WW E (wK b E.2.1 tl pd qt qr tbu wst asw pN tN aN hd dr pl rm ps wx pp tp ap sg uh ud up ur us ux) G H) [.ref (b 7), .int w, .int n]) (zQ (fun (_ : Heap) (v : Option Value) (H1 : Heap) => (v = some (.int (bI (isVl w n))) ∧ WW E (wK b E.2.1 tl pd qt qr tbu wst asw pN tN aN hd (tlV dr w n 0) (tlV pl w n 1) (tlV rm w n 2) (tlV ps w n 3) wx pp tp ap sg uh ud up ur us ux) G H1)) (bF b)) 0 0 (bF b) := by
  refine z_bodyc (own := RX5) (by decide) rfl rfl ?_
  intro p e s m args below meth c ls cx hr hlk hnm hW hCE hl
  have hx := cx.x
  have hb := cx.b
  have hl : lv_has ls 3 [(0, .ref (b 7)), (1, .int w), (2, .int n)] := hl
  have hFb : ∀ k, (bF b) (b k) := fun k => bF_in b k
  have hS : va_S (bF b) s.heap s.heap [] := va_S.rf
  refine lv_iload_n (pc := 0) hx hb dX5_tell_0 rfl (lv_at hl 1 rfl) ?_
  refine lv_iconst (pc := 1) (v := 0) hx hb dX5_tell_1 (by decide) ?_
  refine lv_iconst (pc := 2) (v := 3) hx hb dX5_tell_2 (by decide) ?_
  refine kN_isWithin (pc := 3) (x := w) (y := 0) (z := 3) cx cx.2.2.2.1 ⟨Nat.le_of_ble_eq_true rfl, Nat.le_of_ble_eq_true rfl⟩ hl.1 rfl (by simp [Value.category]) dX5_tell_3 ⟨Nat.le_refl _, Nat.le_refl _⟩ ?_
  refine z_ifeq (pc := 6) (tgt := 26) hx hb dX5_tell_6 (by decide) (fun c_1 => ?_) (fun c_1 => ?_)
  · skip
    have hvf := isVl_f (n := n) c_1
    refine lv_iconst (pc := 26) (v := 0) hx hb dX5_tell_26 (by decide) ?_
    exact z_wzret (b := false) cx hr hlk dX5_tell_27 hS ⟨(sI (by first | rfl | (simp [hvf]; done))), (by rw [show (tlV dr w n 0) = dr from (by first | rfl | (simp [tlV, hvf]; done)), show (tlV pl w n 1) = pl from (by first | rfl | (simp [tlV, hvf]; done)), show (tlV rm w n 2) = rm from (by first | rfl | (simp [tlV, hvf]; done)), show (tlV ps w n 3) = ps from (by first | rfl | (simp [tlV, hvf]; done))]; exact hW)⟩
  · skip
    have hc := c_1
    rcases w4 hc with rfl | rfl | rfl | rfl
    · skip
      refine lv_iload_n (pc := 9) hx hb dX5_tell_9 rfl (lv_at hl 2 rfl) ?_
      refine va_getsN (pc := 10) hx hb (C := RX7) (hCE.2.2.2.2.1) hS cx.own (va_Nw.use rfl cx.2.2.2.2.1) (fun _ h => h) dX5_tell_10 ?_
      refine lv_iload_n (pc := 13) hx hb dX5_tell_13 rfl (lv_at hl 1 rfl) ?_
      refine va_ti (pc := 14) hx hb (hCE.2.2.2.2.2.1) hS (by unfold vp_in; decide) (v := .int 0) rfl dX5_tell_14 ?_
      refine va_getsN (pc := 15) hx hb (C := RX7) (hCE.2.2.2.2.2.2.1) hS cx.own (va_Nw.use rfl cx.2.2.2.2.2.1) (fun _ h => h) dX5_tell_15 ?_
      refine lv_iload_n (pc := 18) hx hb dX5_tell_18 rfl (lv_at hl 1 rfl) ?_
      refine va_ti (pc := 19) hx hb (hCE.2.2.2.2.2.2.2) hS (by unfold vp_in; decide) (v := .int 20) rfl dX5_tell_19 ?_
      refine kN_isWithin (pc := 20) (x := n) (y := 0) (z := 20) cx cx.2.2.2.1 ⟨Nat.le_of_ble_eq_true rfl, Nat.le_of_ble_eq_true rfl⟩ hl.1 rfl (by simp [Value.category]) dX5_tell_20 ⟨Nat.le_refl _, Nat.le_refl _⟩ ?_
      refine z_ifne (pc := 23) (tgt := 28) hx hb dX5_tell_23 (by decide) (fun c_2 => ?_) (fun c_2 => ?_)
      · skip
        have hvt : (isVl 0 n) = true := c_2
        refine lv_iload_n (pc := 28) hx hb dX5_tell_28 rfl (lv_at hl 1 rfl) ?_
        refine lv_tableIn (pc := 29) (tgt := 56) hx hb dX5_tell_29 (by decide) (by decide) rfl (by decide) ?_
        refine lv_aload_n (pc := 56) hx hb dX5_tell_56 rfl (lv_at hl 0 rfl) ?_
        refine lv_iload_n (pc := 57) hx hb dX5_tell_57 rfl (lv_at hl 2 rfl) ?_
        refine z_putK5 (pc := 58) cx hW hS 7 rfl (hFb 7) 1 rfl m_fl_X5_19 rfl rfl dX5_tell_58 (fun H locs hW hS => ?_)
        have hW : WW E (wK b E.2.1 tl pd qt qr tbu wst asw pN tN aN hd n pl rm ps wx pp tp ap sg uh ud up ur us ux) G H := hW
        refine lv_goto (pc := 61) (tgt := 85) hx hb dX5_tell_61 (by decide) ?_
        refine lv_iconst (pc := 85) (v := 1) hx hb dX5_tell_85 (by decide) ?_
        exact z_wzret (b := true) cx hr hlk dX5_tell_86 hS ⟨(sI (by first | rfl | (simp [hvt]; done))), (by rw [show (tlV dr 0 n 0) = n from (by first | rfl | (simp [tlV, hvt]; done)), show (tlV pl 0 n 1) = pl from (by first | rfl | (simp [tlV, hvt]; done)), show (tlV rm 0 n 2) = rm from (by first | rfl | (simp [tlV, hvt]; done)), show (tlV ps 0 n 3) = ps from (by first | rfl | (simp [tlV, hvt]; done))]; exact hW)⟩
      · skip
        have hvf : (isVl 0 n) = false := c_2
        refine lv_iconst (pc := 26) (v := 0) hx hb dX5_tell_26 (by decide) ?_
        exact z_wzret (b := false) cx hr hlk dX5_tell_27 hS ⟨(sI (by first | rfl | (simp [hvf]; done))), (by rw [show (tlV dr 0 n 0) = dr from (by first | rfl | (simp [tlV, hvf]; done)), show (tlV pl 0 n 1) = pl from (by first | rfl | (simp [tlV, hvf]; done)), show (tlV rm 0 n 2) = rm from (by first | rfl | (simp [tlV, hvf]; done)), show (tlV ps 0 n 3) = ps from (by first | rfl | (simp [tlV, hvf]; done))]; exact hW)⟩
    · skip
      refine lv_iload_n (pc := 9) hx hb dX5_tell_9 rfl (lv_at hl 2 rfl) ?_
      refine va_getsN (pc := 10) hx hb (C := RX7) (hCE.2.2.2.2.1) hS cx.own (va_Nw.use rfl cx.2.2.2.2.1) (fun _ h => h) dX5_tell_10 ?_
      refine lv_iload_n (pc := 13) hx hb dX5_tell_13 rfl (lv_at hl 1 rfl) ?_
      refine va_ti (pc := 14) hx hb (hCE.2.2.2.2.2.1) hS (by unfold vp_in; decide) (v := .int 0) rfl dX5_tell_14 ?_
      refine va_getsN (pc := 15) hx hb (C := RX7) (hCE.2.2.2.2.2.2.1) hS cx.own (va_Nw.use rfl cx.2.2.2.2.2.1) (fun _ h => h) dX5_tell_15 ?_
      refine lv_iload_n (pc := 18) hx hb dX5_tell_18 rfl (lv_at hl 1 rfl) ?_
      refine va_ti (pc := 19) hx hb (hCE.2.2.2.2.2.2.2) hS (by unfold vp_in; decide) (v := .int 1) rfl dX5_tell_19 ?_
      refine kN_isWithin (pc := 20) (x := n) (y := 0) (z := 1) cx cx.2.2.2.1 ⟨Nat.le_of_ble_eq_true rfl, Nat.le_of_ble_eq_true rfl⟩ hl.1 rfl (by simp [Value.category]) dX5_tell_20 ⟨Nat.le_refl _, Nat.le_refl _⟩ ?_
      refine z_ifne (pc := 23) (tgt := 28) hx hb dX5_tell_23 (by decide) (fun c_3 => ?_) (fun c_3 => ?_)
      · skip
        have hvt : (isVl 1 n) = true := c_3
        refine lv_iload_n (pc := 28) hx hb dX5_tell_28 rfl (lv_at hl 1 rfl) ?_
        refine lv_tableIn (pc := 29) (tgt := 64) hx hb dX5_tell_29 (by decide) (by decide) rfl (by decide) ?_
        refine lv_aload_n (pc := 64) hx hb dX5_tell_64 rfl (lv_at hl 0 rfl) ?_
        refine lv_iload_n (pc := 65) hx hb dX5_tell_65 rfl (lv_at hl 2 rfl) ?_
        refine z_putK5 (pc := 66) cx hW hS 7 rfl (hFb 7) 2 rfl m_fl_X5_22 rfl rfl dX5_tell_66 (fun H locs hW hS => ?_)
        have hW : WW E (wK b E.2.1 tl pd qt qr tbu wst asw pN tN aN hd dr n rm ps wx pp tp ap sg uh ud up ur us ux) G H := hW
        refine lv_goto (pc := 69) (tgt := 85) hx hb dX5_tell_69 (by decide) ?_
        refine lv_iconst (pc := 85) (v := 1) hx hb dX5_tell_85 (by decide) ?_
        exact z_wzret (b := true) cx hr hlk dX5_tell_86 hS ⟨(sI (by first | rfl | (simp [hvt]; done))), (by rw [show (tlV dr 1 n 0) = dr from (by first | rfl | (simp [tlV, hvt]; done)), show (tlV pl 1 n 1) = n from (by first | rfl | (simp [tlV, hvt]; done)), show (tlV rm 1 n 2) = rm from (by first | rfl | (simp [tlV, hvt]; done)), show (tlV ps 1 n 3) = ps from (by first | rfl | (simp [tlV, hvt]; done))]; exact hW)⟩
      · skip
        have hvf : (isVl 1 n) = false := c_3
        refine lv_iconst (pc := 26) (v := 0) hx hb dX5_tell_26 (by decide) ?_
        exact z_wzret (b := false) cx hr hlk dX5_tell_27 hS ⟨(sI (by first | rfl | (simp [hvf]; done))), (by rw [show (tlV dr 1 n 0) = dr from (by first | rfl | (simp [tlV, hvf]; done)), show (tlV pl 1 n 1) = pl from (by first | rfl | (simp [tlV, hvf]; done)), show (tlV rm 1 n 2) = rm from (by first | rfl | (simp [tlV, hvf]; done)), show (tlV ps 1 n 3) = ps from (by first | rfl | (simp [tlV, hvf]; done))]; exact hW)⟩
    · skip
      refine lv_iload_n (pc := 9) hx hb dX5_tell_9 rfl (lv_at hl 2 rfl) ?_
      refine va_getsN (pc := 10) hx hb (C := RX7) (hCE.2.2.2.2.1) hS cx.own (va_Nw.use rfl cx.2.2.2.2.1) (fun _ h => h) dX5_tell_10 ?_
      refine lv_iload_n (pc := 13) hx hb dX5_tell_13 rfl (lv_at hl 1 rfl) ?_
      refine va_ti (pc := 14) hx hb (hCE.2.2.2.2.2.1) hS (by unfold vp_in; decide) (v := .int 0) rfl dX5_tell_14 ?_
      refine va_getsN (pc := 15) hx hb (C := RX7) (hCE.2.2.2.2.2.2.1) hS cx.own (va_Nw.use rfl cx.2.2.2.2.2.1) (fun _ h => h) dX5_tell_15 ?_
      refine lv_iload_n (pc := 18) hx hb dX5_tell_18 rfl (lv_at hl 1 rfl) ?_
      refine va_ti (pc := 19) hx hb (hCE.2.2.2.2.2.2.2) hS (by unfold vp_in; decide) (v := .int 3) rfl dX5_tell_19 ?_
      refine kN_isWithin (pc := 20) (x := n) (y := 0) (z := 3) cx cx.2.2.2.1 ⟨Nat.le_of_ble_eq_true rfl, Nat.le_of_ble_eq_true rfl⟩ hl.1 rfl (by simp [Value.category]) dX5_tell_20 ⟨Nat.le_refl _, Nat.le_refl _⟩ ?_
      refine z_ifne (pc := 23) (tgt := 28) hx hb dX5_tell_23 (by decide) (fun c_4 => ?_) (fun c_4 => ?_)
      · skip
        have hvt : (isVl 2 n) = true := c_4
        refine lv_iload_n (pc := 28) hx hb dX5_tell_28 rfl (lv_at hl 1 rfl) ?_
        refine lv_tableIn (pc := 29) (tgt := 72) hx hb dX5_tell_29 (by decide) (by decide) rfl (by decide) ?_
        refine lv_aload_n (pc := 72) hx hb dX5_tell_72 rfl (lv_at hl 0 rfl) ?_
        refine lv_iload_n (pc := 73) hx hb dX5_tell_73 rfl (lv_at hl 2 rfl) ?_
        refine z_putK5 (pc := 74) cx hW hS 7 rfl (hFb 7) 3 rfl m_fl_X5_25 rfl rfl dX5_tell_74 (fun H locs hW hS => ?_)
        have hW : WW E (wK b E.2.1 tl pd qt qr tbu wst asw pN tN aN hd dr pl n ps wx pp tp ap sg uh ud up ur us ux) G H := hW
        refine lv_goto (pc := 77) (tgt := 85) hx hb dX5_tell_77 (by decide) ?_
        refine lv_iconst (pc := 85) (v := 1) hx hb dX5_tell_85 (by decide) ?_
        exact z_wzret (b := true) cx hr hlk dX5_tell_86 hS ⟨(sI (by first | rfl | (simp [hvt]; done))), (by rw [show (tlV dr 2 n 0) = dr from (by first | rfl | (simp [tlV, hvt]; done)), show (tlV pl 2 n 1) = pl from (by first | rfl | (simp [tlV, hvt]; done)), show (tlV rm 2 n 2) = n from (by first | rfl | (simp [tlV, hvt]; done)), show (tlV ps 2 n 3) = ps from (by first | rfl | (simp [tlV, hvt]; done))]; exact hW)⟩
      · skip
        have hvf : (isVl 2 n) = false := c_4
        refine lv_iconst (pc := 26) (v := 0) hx hb dX5_tell_26 (by decide) ?_
        exact z_wzret (b := false) cx hr hlk dX5_tell_27 hS ⟨(sI (by first | rfl | (simp [hvf]; done))), (by rw [show (tlV dr 2 n 0) = dr from (by first | rfl | (simp [tlV, hvf]; done)), show (tlV pl 2 n 1) = pl from (by first | rfl | (simp [tlV, hvf]; done)), show (tlV rm 2 n 2) = rm from (by first | rfl | (simp [tlV, hvf]; done)), show (tlV ps 2 n 3) = ps from (by first | rfl | (simp [tlV, hvf]; done))]; exact hW)⟩
    · skip
      refine lv_iload_n (pc := 9) hx hb dX5_tell_9 rfl (lv_at hl 2 rfl) ?_
      refine va_getsN (pc := 10) hx hb (C := RX7) (hCE.2.2.2.2.1) hS cx.own (va_Nw.use rfl cx.2.2.2.2.1) (fun _ h => h) dX5_tell_10 ?_
      refine lv_iload_n (pc := 13) hx hb dX5_tell_13 rfl (lv_at hl 1 rfl) ?_
      refine va_ti (pc := 14) hx hb (hCE.2.2.2.2.2.1) hS (by unfold vp_in; decide) (v := .int (-9)) rfl dX5_tell_14 ?_
      refine va_getsN (pc := 15) hx hb (C := RX7) (hCE.2.2.2.2.2.2.1) hS cx.own (va_Nw.use rfl cx.2.2.2.2.2.1) (fun _ h => h) dX5_tell_15 ?_
      refine lv_iload_n (pc := 18) hx hb dX5_tell_18 rfl (lv_at hl 1 rfl) ?_
      refine va_ti (pc := 19) hx hb (hCE.2.2.2.2.2.2.2) hS (by unfold vp_in; decide) (v := .int 9) rfl dX5_tell_19 ?_
      refine kN_isWithin (pc := 20) (x := n) (y := (-9)) (z := 9) cx cx.2.2.2.1 ⟨Nat.le_of_ble_eq_true rfl, Nat.le_of_ble_eq_true rfl⟩ hl.1 rfl (by simp [Value.category]) dX5_tell_20 ⟨Nat.le_refl _, Nat.le_refl _⟩ ?_
      refine z_ifne (pc := 23) (tgt := 28) hx hb dX5_tell_23 (by decide) (fun c_5 => ?_) (fun c_5 => ?_)
      · skip
        have hvt : (isVl 3 n) = true := c_5
        refine lv_iload_n (pc := 28) hx hb dX5_tell_28 rfl (lv_at hl 1 rfl) ?_
        refine lv_tableOut (pc := 29) (tgt := 80) hx hb dX5_tell_29 (by decide) (by decide) ?_
        refine lv_aload_n (pc := 80) hx hb dX5_tell_80 rfl (lv_at hl 0 rfl) ?_
        refine lv_iload_n (pc := 81) hx hb dX5_tell_81 rfl (lv_at hl 2 rfl) ?_
        refine z_putK5 (pc := 82) cx hW hS 7 rfl (hFb 7) 4 rfl m_fl_X5_28 rfl rfl dX5_tell_82 (fun H locs hW hS => ?_)
        have hW : WW E (wK b E.2.1 tl pd qt qr tbu wst asw pN tN aN hd dr pl rm n wx pp tp ap sg uh ud up ur us ux) G H := hW
        refine lv_iconst (pc := 85) (v := 1) hx hb dX5_tell_85 (by decide) ?_
        exact z_wzret (b := true) cx hr hlk dX5_tell_86 hS ⟨(sI (by first | rfl | (simp [hvt]; done))), (by rw [show (tlV dr 3 n 0) = dr from (by first | rfl | (simp [tlV, hvt]; done)), show (tlV pl 3 n 1) = pl from (by first | rfl | (simp [tlV, hvt]; done)), show (tlV rm 3 n 2) = rm from (by first | rfl | (simp [tlV, hvt]; done)), show (tlV ps 3 n 3) = n from (by first | rfl | (simp [tlV, hvt]; done))]; exact hW)⟩
      · skip
        have hvf : (isVl 3 n) = false := c_5
        refine lv_iconst (pc := 26) (v := 0) hx hb dX5_tell_26 (by decide) ?_
        exact z_wzret (b := false) cx hr hlk dX5_tell_27 hS ⟨(sI (by first | rfl | (simp [hvf]; done))), (by rw [show (tlV dr 3 n 0) = dr from (by first | rfl | (simp [tlV, hvf]; done)), show (tlV pl 3 n 1) = pl from (by first | rfl | (simp [tlV, hvf]; done)), show (tlV rm 3 n 2) = rm from (by first | rfl | (simp [tlV, hvf]; done)), show (tlV ps 3 n 3) = ps from (by first | rfl | (simp [tlV, hvf]; done))]; exact hW)⟩
theorem k_X5_tell_n {p : Program} {l : Launch} {e : Env} {R : Room} {s : State} {m : MethodId} {args : Array Value} {below : List Frame} {meth : Method} {c : Code} {H H0 : Heap} {locs : List Loc} {cells slots : Nat} {Q : State → Prop} {cc : ByteArray} {pc index : Nat} {ls : Array Slot} {rest st0 : List Value} {E : zE} {own : String} {nL : Nat} {F : Nat → Prop} {b : Nat → Nat} {tl : va_W} {pd : Bool} {qt : Nat → Option Nat} {qr : Nat → Option Nat} {tbu : Nat → Int32} {wst : Nat → Int32} {asw : Nat → Int32} {pN : Int32} {tN : Int32} {aN : Int32} {hd : Int32} {dr : Int32} {pl : Int32} {rm : Int32} {ps : Int32} {wx : Nat → Int32} {pp : Nat → Option Nat} {tp : Nat → Option Nat} {ap : Nat → Option Nat} {sg : Nat → Int32} {uh : Int32} {ud : Int32} {up : Int32} {ur : Int32} {us : Int32} {ux : Nat → Int32} {G : zG} {w n : Int32} (cx : Cx E p s args m c own cc nL) (hCE : CE E (bF b) s H) (hW : WW E (wK b E.2.1 tl pd qt qr tbu wst asw pN tN aN hd dr pl rm ps wx pp tp ap sg uh ud up ur us ux) G H) (hS : va_S F H0 H locs) (zF : ∀ q, (bF b) q → F q)  (zl : Cond.methodLink own index yX5_tell ∈ AllW) (zR : 1 + 1 ≤ R.frames ∧ 8 + (3 + 11) + 22 ≤ R.locals) (zs : ls.size = nL) (zt : st0 = ([.int w, .int n] : List Value).reverse ++ .ref (b 7) :: rest) (z8 : (rest.map fun v => v.category).sum ≤ 8) (zd : decode cc pc = .ok (.invokevirtual index, 3)) (zf : cells ≤ R.cells ∧ slots ≤ R.slots) (kk0 : ∀  (H1 : Heap) (locs1 : List Loc), WW E (wK b E.2.1 tl pd qt qr tbu wst asw pN tN aN hd (tlV dr w n 0) (tlV pl w n 1) (tlV rm w n 2) (tlV ps w n 3) wx pp tp ap sg uh ud up ur us ux) G H1 → va_S F H0 H1 locs1 → W p l e R s m args below meth c H1 locs1 cells slots Q (F0 m (pc + 3) ls (.int (bI (isVl w n)) :: rest))) : W p l e R s m args below meth c H locs cells slots Q (F0 m pc ls st0) := by
  refine z_callVwc cx hCE vm_X5_tell (c_X5_tell_n l E b tl pd qt qr tbu wst asw pN tN aN hd dr pl rm ps wx pp tp ap sg uh ud up ur us ux G w n) (z_rec cx.2 (hW.at 7 rfl) rfl) hW hS zF zl ⟨rfl, rfl⟩ zR rfl zs zt z8 zd zf (fun v H1 locs1 hq hS1 _ => ?_)
  rcases hq with ⟨rfl, hW1⟩
  · exact kk0  H1 locs1  hW1 hS1
set_option maxHeartbeats 1000000 in
set_option maxRecDepth 100000 in
theorem c_X5_tell_t (l : Launch) (E : zE) (b : Nat → Nat) (pd : Bool) (qt : Nat → Option Nat) (qr : Nat → Option Nat) (tbu : Nat → Int32) (wst : Nat → Int32) (asw : Nat → Int32) (pN : Int32) (tN : Int32) (aN : Int32) (hd : Int32) (dr : Int32) (pl : Int32) (rm : Int32) (ps : Int32) (wx : Nat → Int32) (pp : Nat → Option Nat) (tp : Nat → Option Nat) (ap : Nat → Option Nat) (sg : Nat → Int32) (uh : Int32) (ud : Int32) (up : Int32) (ur : Int32) (us : Int32) (ux : Nat → Int32) (xN : Int32) (xT : Int32) (xA : Int32) (xh : Int32) (xd : Int32) (xl : Int32) (xr : Int32) (xo : Int32) (xw : Nat → Int32) (xpp : Nat → Option Nat) (xtp : Nat → Option Nat) (xap : Nat → Option Nat) (xsg : Nat → Int32) (yN : Int32) (yT : Int32) (yA : Int32) (yh : Int32) (yd : Int32) (yl : Int32) (yr : Int32) (yo : Int32) (yw : Nat → Int32) (ypp : Nat → Option Nat) (ytp : Nat → Option Nat) (yap : Nat → Option Nat) (ysg : Nat → Int32) (zat : Int32) (zpl : Int32) (zlt : Int32) (zjo : Bool) (zfo : Int32) (zsz : Int32) (zby : Nat → Int32) (znu : Nat → Int32) (G : zG) (w n : Int32)  : Met l yX5_tell (.code yX5_tell cX5_tell 3 (some FieldType.boolean) :: AllW) (rm0' 1 22) (zPc E (bF b) (fun H => WW E (wK b E.2.1 (wT b E.2.1 xN xT xA xh xd xl xr xo xw xpp xtp xap xsg yN yT yA yh yd yl yr yo yw ypp ytp yap ysg zat zpl zlt zjo zfo zsz zby znu) pd qt qr tbu wst asw pN tN aN hd dr pl rm ps wx pp tp ap sg uh ud up ur us ux) G H) [.ref (b 23), .int w, .int n]) (zQ (fun (_ : Heap) (v : Option Value) (H1 : Heap) => (v = some (.int (bI (isVl w n))) ∧ WW E (wK b E.2.1 (wT b E.2.1 xN xT xA xh xd xl xr xo xw xpp xtp xap xsg yN yT yA yh (tlV yd w n 0) (tlV yl w n 1) (tlV yr w n 2) (tlV yo w n 3) yw ypp ytp yap ysg zat zpl zlt zjo zfo zsz zby znu) pd qt qr tbu wst asw pN tN aN hd dr pl rm ps wx pp tp ap sg uh ud up ur us ux) G H1)) (bF b)) 0 0 (bF b) := by
  refine z_bodyc (own := RX5) (by decide) rfl rfl ?_
  intro p e s m args below meth c ls cx hr hlk hnm hW hCE hl
  have hx := cx.x
  have hb := cx.b
  have hl : lv_has ls 3 [(0, .ref (b 23)), (1, .int w), (2, .int n)] := hl
  have hFb : ∀ k, (bF b) (b k) := fun k => bF_in b k
  have hS : va_S (bF b) s.heap s.heap [] := va_S.rf
  refine lv_iload_n (pc := 0) hx hb dX5_tell_0 rfl (lv_at hl 1 rfl) ?_
  refine lv_iconst (pc := 1) (v := 0) hx hb dX5_tell_1 (by decide) ?_
  refine lv_iconst (pc := 2) (v := 3) hx hb dX5_tell_2 (by decide) ?_
  refine kN_isWithin (pc := 3) (x := w) (y := 0) (z := 3) cx cx.2.2.2.1 ⟨Nat.le_of_ble_eq_true rfl, Nat.le_of_ble_eq_true rfl⟩ hl.1 rfl (by simp [Value.category]) dX5_tell_3 ⟨Nat.le_refl _, Nat.le_refl _⟩ ?_
  refine z_ifeq (pc := 6) (tgt := 26) hx hb dX5_tell_6 (by decide) (fun c_1 => ?_) (fun c_1 => ?_)
  · skip
    have hvf := isVl_f (n := n) c_1
    refine lv_iconst (pc := 26) (v := 0) hx hb dX5_tell_26 (by decide) ?_
    exact z_wzret (b := false) cx hr hlk dX5_tell_27 hS ⟨(sI (by first | rfl | (simp [hvf]; done))), (by rw [show (tlV yd w n 0) = yd from (by first | rfl | (simp [tlV, hvf]; done)), show (tlV yl w n 1) = yl from (by first | rfl | (simp [tlV, hvf]; done)), show (tlV yr w n 2) = yr from (by first | rfl | (simp [tlV, hvf]; done)), show (tlV yo w n 3) = yo from (by first | rfl | (simp [tlV, hvf]; done))]; exact hW)⟩
  · skip
    have hc := c_1
    rcases w4 hc with rfl | rfl | rfl | rfl
    · skip
      refine lv_iload_n (pc := 9) hx hb dX5_tell_9 rfl (lv_at hl 2 rfl) ?_
      refine va_getsN (pc := 10) hx hb (C := RX7) (hCE.2.2.2.2.1) hS cx.own (va_Nw.use rfl cx.2.2.2.2.1) (fun _ h => h) dX5_tell_10 ?_
      refine lv_iload_n (pc := 13) hx hb dX5_tell_13 rfl (lv_at hl 1 rfl) ?_
      refine va_ti (pc := 14) hx hb (hCE.2.2.2.2.2.1) hS (by unfold vp_in; decide) (v := .int 0) rfl dX5_tell_14 ?_
      refine va_getsN (pc := 15) hx hb (C := RX7) (hCE.2.2.2.2.2.2.1) hS cx.own (va_Nw.use rfl cx.2.2.2.2.2.1) (fun _ h => h) dX5_tell_15 ?_
      refine lv_iload_n (pc := 18) hx hb dX5_tell_18 rfl (lv_at hl 1 rfl) ?_
      refine va_ti (pc := 19) hx hb (hCE.2.2.2.2.2.2.2) hS (by unfold vp_in; decide) (v := .int 20) rfl dX5_tell_19 ?_
      refine kN_isWithin (pc := 20) (x := n) (y := 0) (z := 20) cx cx.2.2.2.1 ⟨Nat.le_of_ble_eq_true rfl, Nat.le_of_ble_eq_true rfl⟩ hl.1 rfl (by simp [Value.category]) dX5_tell_20 ⟨Nat.le_refl _, Nat.le_refl _⟩ ?_
      refine z_ifne (pc := 23) (tgt := 28) hx hb dX5_tell_23 (by decide) (fun c_2 => ?_) (fun c_2 => ?_)
      · skip
        have hvt : (isVl 0 n) = true := c_2
        refine lv_iload_n (pc := 28) hx hb dX5_tell_28 rfl (lv_at hl 1 rfl) ?_
        refine lv_tableIn (pc := 29) (tgt := 56) hx hb dX5_tell_29 (by decide) (by decide) rfl (by decide) ?_
        refine lv_aload_n (pc := 56) hx hb dX5_tell_56 rfl (lv_at hl 0 rfl) ?_
        refine lv_iload_n (pc := 57) hx hb dX5_tell_57 rfl (lv_at hl 2 rfl) ?_
        refine z_putK5 (pc := 58) cx hW hS 23 rfl (hFb 23) 1 rfl m_fl_X5_19 rfl rfl dX5_tell_58 (fun H locs hW hS => ?_)
        have hW : WW E (wK b E.2.1 (wT b E.2.1 xN xT xA xh xd xl xr xo xw xpp xtp xap xsg yN yT yA yh n yl yr yo yw ypp ytp yap ysg zat zpl zlt zjo zfo zsz zby znu) pd qt qr tbu wst asw pN tN aN hd dr pl rm ps wx pp tp ap sg uh ud up ur us ux) G H := hW
        refine lv_goto (pc := 61) (tgt := 85) hx hb dX5_tell_61 (by decide) ?_
        refine lv_iconst (pc := 85) (v := 1) hx hb dX5_tell_85 (by decide) ?_
        exact z_wzret (b := true) cx hr hlk dX5_tell_86 hS ⟨(sI (by first | rfl | (simp [hvt]; done))), (by rw [show (tlV yd 0 n 0) = n from (by first | rfl | (simp [tlV, hvt]; done)), show (tlV yl 0 n 1) = yl from (by first | rfl | (simp [tlV, hvt]; done)), show (tlV yr 0 n 2) = yr from (by first | rfl | (simp [tlV, hvt]; done)), show (tlV yo 0 n 3) = yo from (by first | rfl | (simp [tlV, hvt]; done))]; exact hW)⟩
      · skip
        have hvf : (isVl 0 n) = false := c_2
        refine lv_iconst (pc := 26) (v := 0) hx hb dX5_tell_26 (by decide) ?_
        exact z_wzret (b := false) cx hr hlk dX5_tell_27 hS ⟨(sI (by first | rfl | (simp [hvf]; done))), (by rw [show (tlV yd 0 n 0) = yd from (by first | rfl | (simp [tlV, hvf]; done)), show (tlV yl 0 n 1) = yl from (by first | rfl | (simp [tlV, hvf]; done)), show (tlV yr 0 n 2) = yr from (by first | rfl | (simp [tlV, hvf]; done)), show (tlV yo 0 n 3) = yo from (by first | rfl | (simp [tlV, hvf]; done))]; exact hW)⟩
    · skip
      refine lv_iload_n (pc := 9) hx hb dX5_tell_9 rfl (lv_at hl 2 rfl) ?_
      refine va_getsN (pc := 10) hx hb (C := RX7) (hCE.2.2.2.2.1) hS cx.own (va_Nw.use rfl cx.2.2.2.2.1) (fun _ h => h) dX5_tell_10 ?_
      refine lv_iload_n (pc := 13) hx hb dX5_tell_13 rfl (lv_at hl 1 rfl) ?_
      refine va_ti (pc := 14) hx hb (hCE.2.2.2.2.2.1) hS (by unfold vp_in; decide) (v := .int 0) rfl dX5_tell_14 ?_
      refine va_getsN (pc := 15) hx hb (C := RX7) (hCE.2.2.2.2.2.2.1) hS cx.own (va_Nw.use rfl cx.2.2.2.2.2.1) (fun _ h => h) dX5_tell_15 ?_
      refine lv_iload_n (pc := 18) hx hb dX5_tell_18 rfl (lv_at hl 1 rfl) ?_
      refine va_ti (pc := 19) hx hb (hCE.2.2.2.2.2.2.2) hS (by unfold vp_in; decide) (v := .int 1) rfl dX5_tell_19 ?_
      refine kN_isWithin (pc := 20) (x := n) (y := 0) (z := 1) cx cx.2.2.2.1 ⟨Nat.le_of_ble_eq_true rfl, Nat.le_of_ble_eq_true rfl⟩ hl.1 rfl (by simp [Value.category]) dX5_tell_20 ⟨Nat.le_refl _, Nat.le_refl _⟩ ?_
      refine z_ifne (pc := 23) (tgt := 28) hx hb dX5_tell_23 (by decide) (fun c_3 => ?_) (fun c_3 => ?_)
      · skip
        have hvt : (isVl 1 n) = true := c_3
        refine lv_iload_n (pc := 28) hx hb dX5_tell_28 rfl (lv_at hl 1 rfl) ?_
        refine lv_tableIn (pc := 29) (tgt := 64) hx hb dX5_tell_29 (by decide) (by decide) rfl (by decide) ?_
        refine lv_aload_n (pc := 64) hx hb dX5_tell_64 rfl (lv_at hl 0 rfl) ?_
        refine lv_iload_n (pc := 65) hx hb dX5_tell_65 rfl (lv_at hl 2 rfl) ?_
        refine z_putK5 (pc := 66) cx hW hS 23 rfl (hFb 23) 2 rfl m_fl_X5_22 rfl rfl dX5_tell_66 (fun H locs hW hS => ?_)
        have hW : WW E (wK b E.2.1 (wT b E.2.1 xN xT xA xh xd xl xr xo xw xpp xtp xap xsg yN yT yA yh yd n yr yo yw ypp ytp yap ysg zat zpl zlt zjo zfo zsz zby znu) pd qt qr tbu wst asw pN tN aN hd dr pl rm ps wx pp tp ap sg uh ud up ur us ux) G H := hW
        refine lv_goto (pc := 69) (tgt := 85) hx hb dX5_tell_69 (by decide) ?_
        refine lv_iconst (pc := 85) (v := 1) hx hb dX5_tell_85 (by decide) ?_
        exact z_wzret (b := true) cx hr hlk dX5_tell_86 hS ⟨(sI (by first | rfl | (simp [hvt]; done))), (by rw [show (tlV yd 1 n 0) = yd from (by first | rfl | (simp [tlV, hvt]; done)), show (tlV yl 1 n 1) = n from (by first | rfl | (simp [tlV, hvt]; done)), show (tlV yr 1 n 2) = yr from (by first | rfl | (simp [tlV, hvt]; done)), show (tlV yo 1 n 3) = yo from (by first | rfl | (simp [tlV, hvt]; done))]; exact hW)⟩
      · skip
        have hvf : (isVl 1 n) = false := c_3
        refine lv_iconst (pc := 26) (v := 0) hx hb dX5_tell_26 (by decide) ?_
        exact z_wzret (b := false) cx hr hlk dX5_tell_27 hS ⟨(sI (by first | rfl | (simp [hvf]; done))), (by rw [show (tlV yd 1 n 0) = yd from (by first | rfl | (simp [tlV, hvf]; done)), show (tlV yl 1 n 1) = yl from (by first | rfl | (simp [tlV, hvf]; done)), show (tlV yr 1 n 2) = yr from (by first | rfl | (simp [tlV, hvf]; done)), show (tlV yo 1 n 3) = yo from (by first | rfl | (simp [tlV, hvf]; done))]; exact hW)⟩
    · skip
      refine lv_iload_n (pc := 9) hx hb dX5_tell_9 rfl (lv_at hl 2 rfl) ?_
      refine va_getsN (pc := 10) hx hb (C := RX7) (hCE.2.2.2.2.1) hS cx.own (va_Nw.use rfl cx.2.2.2.2.1) (fun _ h => h) dX5_tell_10 ?_
      refine lv_iload_n (pc := 13) hx hb dX5_tell_13 rfl (lv_at hl 1 rfl) ?_
      refine va_ti (pc := 14) hx hb (hCE.2.2.2.2.2.1) hS (by unfold vp_in; decide) (v := .int 0) rfl dX5_tell_14 ?_
      refine va_getsN (pc := 15) hx hb (C := RX7) (hCE.2.2.2.2.2.2.1) hS cx.own (va_Nw.use rfl cx.2.2.2.2.2.1) (fun _ h => h) dX5_tell_15 ?_
      refine lv_iload_n (pc := 18) hx hb dX5_tell_18 rfl (lv_at hl 1 rfl) ?_
      refine va_ti (pc := 19) hx hb (hCE.2.2.2.2.2.2.2) hS (by unfold vp_in; decide) (v := .int 3) rfl dX5_tell_19 ?_
      refine kN_isWithin (pc := 20) (x := n) (y := 0) (z := 3) cx cx.2.2.2.1 ⟨Nat.le_of_ble_eq_true rfl, Nat.le_of_ble_eq_true rfl⟩ hl.1 rfl (by simp [Value.category]) dX5_tell_20 ⟨Nat.le_refl _, Nat.le_refl _⟩ ?_
      refine z_ifne (pc := 23) (tgt := 28) hx hb dX5_tell_23 (by decide) (fun c_4 => ?_) (fun c_4 => ?_)
      · skip
        have hvt : (isVl 2 n) = true := c_4
        refine lv_iload_n (pc := 28) hx hb dX5_tell_28 rfl (lv_at hl 1 rfl) ?_
        refine lv_tableIn (pc := 29) (tgt := 72) hx hb dX5_tell_29 (by decide) (by decide) rfl (by decide) ?_
        refine lv_aload_n (pc := 72) hx hb dX5_tell_72 rfl (lv_at hl 0 rfl) ?_
        refine lv_iload_n (pc := 73) hx hb dX5_tell_73 rfl (lv_at hl 2 rfl) ?_
        refine z_putK5 (pc := 74) cx hW hS 23 rfl (hFb 23) 3 rfl m_fl_X5_25 rfl rfl dX5_tell_74 (fun H locs hW hS => ?_)
        have hW : WW E (wK b E.2.1 (wT b E.2.1 xN xT xA xh xd xl xr xo xw xpp xtp xap xsg yN yT yA yh yd yl n yo yw ypp ytp yap ysg zat zpl zlt zjo zfo zsz zby znu) pd qt qr tbu wst asw pN tN aN hd dr pl rm ps wx pp tp ap sg uh ud up ur us ux) G H := hW
        refine lv_goto (pc := 77) (tgt := 85) hx hb dX5_tell_77 (by decide) ?_
        refine lv_iconst (pc := 85) (v := 1) hx hb dX5_tell_85 (by decide) ?_
        exact z_wzret (b := true) cx hr hlk dX5_tell_86 hS ⟨(sI (by first | rfl | (simp [hvt]; done))), (by rw [show (tlV yd 2 n 0) = yd from (by first | rfl | (simp [tlV, hvt]; done)), show (tlV yl 2 n 1) = yl from (by first | rfl | (simp [tlV, hvt]; done)), show (tlV yr 2 n 2) = n from (by first | rfl | (simp [tlV, hvt]; done)), show (tlV yo 2 n 3) = yo from (by first | rfl | (simp [tlV, hvt]; done))]; exact hW)⟩
      · skip
        have hvf : (isVl 2 n) = false := c_4
        refine lv_iconst (pc := 26) (v := 0) hx hb dX5_tell_26 (by decide) ?_
        exact z_wzret (b := false) cx hr hlk dX5_tell_27 hS ⟨(sI (by first | rfl | (simp [hvf]; done))), (by rw [show (tlV yd 2 n 0) = yd from (by first | rfl | (simp [tlV, hvf]; done)), show (tlV yl 2 n 1) = yl from (by first | rfl | (simp [tlV, hvf]; done)), show (tlV yr 2 n 2) = yr from (by first | rfl | (simp [tlV, hvf]; done)), show (tlV yo 2 n 3) = yo from (by first | rfl | (simp [tlV, hvf]; done))]; exact hW)⟩
    · skip
      refine lv_iload_n (pc := 9) hx hb dX5_tell_9 rfl (lv_at hl 2 rfl) ?_
      refine va_getsN (pc := 10) hx hb (C := RX7) (hCE.2.2.2.2.1) hS cx.own (va_Nw.use rfl cx.2.2.2.2.1) (fun _ h => h) dX5_tell_10 ?_
      refine lv_iload_n (pc := 13) hx hb dX5_tell_13 rfl (lv_at hl 1 rfl) ?_
      refine va_ti (pc := 14) hx hb (hCE.2.2.2.2.2.1) hS (by unfold vp_in; decide) (v := .int (-9)) rfl dX5_tell_14 ?_
      refine va_getsN (pc := 15) hx hb (C := RX7) (hCE.2.2.2.2.2.2.1) hS cx.own (va_Nw.use rfl cx.2.2.2.2.2.1) (fun _ h => h) dX5_tell_15 ?_
      refine lv_iload_n (pc := 18) hx hb dX5_tell_18 rfl (lv_at hl 1 rfl) ?_
      refine va_ti (pc := 19) hx hb (hCE.2.2.2.2.2.2.2) hS (by unfold vp_in; decide) (v := .int 9) rfl dX5_tell_19 ?_
      refine kN_isWithin (pc := 20) (x := n) (y := (-9)) (z := 9) cx cx.2.2.2.1 ⟨Nat.le_of_ble_eq_true rfl, Nat.le_of_ble_eq_true rfl⟩ hl.1 rfl (by simp [Value.category]) dX5_tell_20 ⟨Nat.le_refl _, Nat.le_refl _⟩ ?_
      refine z_ifne (pc := 23) (tgt := 28) hx hb dX5_tell_23 (by decide) (fun c_5 => ?_) (fun c_5 => ?_)
      · skip
        have hvt : (isVl 3 n) = true := c_5
        refine lv_iload_n (pc := 28) hx hb dX5_tell_28 rfl (lv_at hl 1 rfl) ?_
        refine lv_tableOut (pc := 29) (tgt := 80) hx hb dX5_tell_29 (by decide) (by decide) ?_
        refine lv_aload_n (pc := 80) hx hb dX5_tell_80 rfl (lv_at hl 0 rfl) ?_
        refine lv_iload_n (pc := 81) hx hb dX5_tell_81 rfl (lv_at hl 2 rfl) ?_
        refine z_putK5 (pc := 82) cx hW hS 23 rfl (hFb 23) 4 rfl m_fl_X5_28 rfl rfl dX5_tell_82 (fun H locs hW hS => ?_)
        have hW : WW E (wK b E.2.1 (wT b E.2.1 xN xT xA xh xd xl xr xo xw xpp xtp xap xsg yN yT yA yh yd yl yr n yw ypp ytp yap ysg zat zpl zlt zjo zfo zsz zby znu) pd qt qr tbu wst asw pN tN aN hd dr pl rm ps wx pp tp ap sg uh ud up ur us ux) G H := hW
        refine lv_iconst (pc := 85) (v := 1) hx hb dX5_tell_85 (by decide) ?_
        exact z_wzret (b := true) cx hr hlk dX5_tell_86 hS ⟨(sI (by first | rfl | (simp [hvt]; done))), (by rw [show (tlV yd 3 n 0) = yd from (by first | rfl | (simp [tlV, hvt]; done)), show (tlV yl 3 n 1) = yl from (by first | rfl | (simp [tlV, hvt]; done)), show (tlV yr 3 n 2) = yr from (by first | rfl | (simp [tlV, hvt]; done)), show (tlV yo 3 n 3) = n from (by first | rfl | (simp [tlV, hvt]; done))]; exact hW)⟩
      · skip
        have hvf : (isVl 3 n) = false := c_5
        refine lv_iconst (pc := 26) (v := 0) hx hb dX5_tell_26 (by decide) ?_
        exact z_wzret (b := false) cx hr hlk dX5_tell_27 hS ⟨(sI (by first | rfl | (simp [hvf]; done))), (by rw [show (tlV yd 3 n 0) = yd from (by first | rfl | (simp [tlV, hvf]; done)), show (tlV yl 3 n 1) = yl from (by first | rfl | (simp [tlV, hvf]; done)), show (tlV yr 3 n 2) = yr from (by first | rfl | (simp [tlV, hvf]; done)), show (tlV yo 3 n 3) = yo from (by first | rfl | (simp [tlV, hvf]; done))]; exact hW)⟩
theorem k_X5_tell_t {p : Program} {l : Launch} {e : Env} {R : Room} {s : State} {m : MethodId} {args : Array Value} {below : List Frame} {meth : Method} {c : Code} {H H0 : Heap} {locs : List Loc} {cells slots : Nat} {Q : State → Prop} {cc : ByteArray} {pc index : Nat} {ls : Array Slot} {rest st0 : List Value} {E : zE} {own : String} {nL : Nat} {F : Nat → Prop} {b : Nat → Nat} {pd : Bool} {qt : Nat → Option Nat} {qr : Nat → Option Nat} {tbu : Nat → Int32} {wst : Nat → Int32} {asw : Nat → Int32} {pN : Int32} {tN : Int32} {aN : Int32} {hd : Int32} {dr : Int32} {pl : Int32} {rm : Int32} {ps : Int32} {wx : Nat → Int32} {pp : Nat → Option Nat} {tp : Nat → Option Nat} {ap : Nat → Option Nat} {sg : Nat → Int32} {uh : Int32} {ud : Int32} {up : Int32} {ur : Int32} {us : Int32} {ux : Nat → Int32} {xN : Int32} {xT : Int32} {xA : Int32} {xh : Int32} {xd : Int32} {xl : Int32} {xr : Int32} {xo : Int32} {xw : Nat → Int32} {xpp : Nat → Option Nat} {xtp : Nat → Option Nat} {xap : Nat → Option Nat} {xsg : Nat → Int32} {yN : Int32} {yT : Int32} {yA : Int32} {yh : Int32} {yd : Int32} {yl : Int32} {yr : Int32} {yo : Int32} {yw : Nat → Int32} {ypp : Nat → Option Nat} {ytp : Nat → Option Nat} {yap : Nat → Option Nat} {ysg : Nat → Int32} {zat : Int32} {zpl : Int32} {zlt : Int32} {zjo : Bool} {zfo : Int32} {zsz : Int32} {zby : Nat → Int32} {znu : Nat → Int32} {G : zG} {w n : Int32} (cx : Cx E p s args m c own cc nL) (hCE : CE E (bF b) s H) (hW : WW E (wK b E.2.1 (wT b E.2.1 xN xT xA xh xd xl xr xo xw xpp xtp xap xsg yN yT yA yh yd yl yr yo yw ypp ytp yap ysg zat zpl zlt zjo zfo zsz zby znu) pd qt qr tbu wst asw pN tN aN hd dr pl rm ps wx pp tp ap sg uh ud up ur us ux) G H) (hS : va_S F H0 H locs) (zF : ∀ q, (bF b) q → F q)  (zl : Cond.methodLink own index yX5_tell ∈ AllW) (zR : 1 + 1 ≤ R.frames ∧ 8 + (3 + 11) + 22 ≤ R.locals) (zs : ls.size = nL) (zt : st0 = ([.int w, .int n] : List Value).reverse ++ .ref (b 23) :: rest) (z8 : (rest.map fun v => v.category).sum ≤ 8) (zd : decode cc pc = .ok (.invokevirtual index, 3)) (zf : cells ≤ R.cells ∧ slots ≤ R.slots) (kk0 : ∀  (H1 : Heap) (locs1 : List Loc), WW E (wK b E.2.1 (wT b E.2.1 xN xT xA xh xd xl xr xo xw xpp xtp xap xsg yN yT yA yh (tlV yd w n 0) (tlV yl w n 1) (tlV yr w n 2) (tlV yo w n 3) yw ypp ytp yap ysg zat zpl zlt zjo zfo zsz zby znu) pd qt qr tbu wst asw pN tN aN hd dr pl rm ps wx pp tp ap sg uh ud up ur us ux) G H1 → va_S F H0 H1 locs1 → W p l e R s m args below meth c H1 locs1 cells slots Q (F0 m (pc + 3) ls (.int (bI (isVl w n)) :: rest))) : W p l e R s m args below meth c H locs cells slots Q (F0 m pc ls st0) := by
  refine z_callVwc cx hCE vm_X5_tell (c_X5_tell_t l E b pd qt qr tbu wst asw pN tN aN hd dr pl rm ps wx pp tp ap sg uh ud up ur us ux xN xT xA xh xd xl xr xo xw xpp xtp xap xsg yN yT yA yh yd yl yr yo yw ypp ytp yap ysg zat zpl zlt zjo zfo zsz zby znu G w n) (z_rec cx.2 (hW.at 23 rfl) rfl) hW hS zF zl ⟨rfl, rfl⟩ zR rfl zs zt z8 zd zf (fun v H1 locs1 hq hS1 _ => ?_)
  rcases hq with ⟨rfl, hW1⟩
  · exact kk0  H1 locs1  hW1 hS1
theorem vm_X5_told : zVm yX5_told cX5_told 2 (some FieldType.int) 1 := ⟨m_co_X5_told, m_in_RX5, ⟨m_im_X5_told, m_se_X5_X5_told⟩, by decide +kernel, by decide +kernel, by decide +kernel⟩
set_option maxHeartbeats 1000000 in
set_option maxRecDepth 100000 in
theorem c_X5_told (l : Launch) (E : zE) (b : Nat → Nat) (tl : va_W) (pd : Bool) (qt : Nat → Option Nat) (qr : Nat → Option Nat) (tbu : Nat → Int32) (wst : Nat → Int32) (asw : Nat → Int32) (pN : Int32) (tN : Int32) (aN : Int32) (hd : Int32) (dr : Int32) (pl : Int32) (rm : Int32) (ps : Int32) (wx : Nat → Int32) (pp : Nat → Option Nat) (tp : Nat → Option Nat) (ap : Nat → Option Nat) (sg : Nat → Int32) (uh : Int32) (ud : Int32) (up : Int32) (ur : Int32) (us : Int32) (ux : Nat → Int32) (G : zG) (w : Int32)  : Met l yX5_told (.code yX5_told cX5_told 2 (some FieldType.int) :: AllW) (rm0' 0 0) (zP E (fun H => WW E (wK b E.2.1 tl pd qt qr tbu wst asw pN tN aN hd dr pl rm ps wx pp tp ap sg uh ud up ur us ux) G H) [.ref (b 7), .int w]) (rQ (.int (tldV dr pl rm ps w))) 0 0 nF := by
  refine z_body (own := RX5) (by decide) rfl rfl ?_
  intro p e s m args below meth c ls cx hr hlk hnm hW hl
  have hx := cx.x
  have hb := cx.b
  have hl : lv_has ls 2 [(0, .ref (b 7)), (1, .int w)] := hl
  refine lv_iload_n (pc := 0) hx hb dX5_told_0 rfl (lv_at hl 1 rfl) ?_
  by_cases c_1 : w = 0
  · subst c_1
    refine lv_tableIn (pc := 1) (tgt := 28) hx hb dX5_told_1 (by decide) (by decide) rfl (by decide) ?_
    refine lv_aload_n (pc := 28) hx hb dX5_told_28 rfl (lv_at hl 0 rfl) ?_
    refine z_get (pc := 29) cx (hW.at 7 rfl) (C := RX5) (T := TX5) (N := 6) rfl i_X5 1 rfl m_fl_X5_19 rfl dX5_told_29 ?_
    exact z_iret cx hr hlk dX5_told_32 (by first | rfl | (simp [tldV]; done))
  by_cases c_2 : w = 1
  · subst c_2
    refine lv_tableIn (pc := 1) (tgt := 33) hx hb dX5_told_1 (by decide) (by decide) rfl (by decide) ?_
    refine lv_aload_n (pc := 33) hx hb dX5_told_33 rfl (lv_at hl 0 rfl) ?_
    refine z_get (pc := 34) cx (hW.at 7 rfl) (C := RX5) (T := TX5) (N := 6) rfl i_X5 2 rfl m_fl_X5_22 rfl dX5_told_34 ?_
    exact z_iret cx hr hlk dX5_told_37 (by first | rfl | (simp [tldV, c_1]; done))
  by_cases c_3 : w = 2
  · subst c_3
    refine lv_tableIn (pc := 1) (tgt := 38) hx hb dX5_told_1 (by decide) (by decide) rfl (by decide) ?_
    refine lv_aload_n (pc := 38) hx hb dX5_told_38 rfl (lv_at hl 0 rfl) ?_
    refine z_get (pc := 39) cx (hW.at 7 rfl) (C := RX5) (T := TX5) (N := 6) rfl i_X5 3 rfl m_fl_X5_25 rfl dX5_told_39 ?_
    exact z_iret cx hr hlk dX5_told_42 (by first | rfl | (simp [tldV, c_1, c_2]; done))
  refine lv_tableOut (pc := 1) (tgt := 43) hx hb dX5_told_1 (by have := lv_neT c_1 (a := 0) (by decide); have := lv_neT c_2 (a := 1) (by decide); have := lv_neT c_3 (a := 2) (by decide); omega) (by decide) ?_
  refine lv_aload_n (pc := 43) hx hb dX5_told_43 rfl (lv_at hl 0 rfl) ?_
  refine z_get (pc := 44) cx (hW.at 7 rfl) (C := RX5) (T := TX5) (N := 6) rfl i_X5 4 rfl m_fl_X5_28 rfl dX5_told_44 ?_
  exact z_iret cx hr hlk dX5_told_47 (by first | rfl | (simp [tldV, c_1, c_2, c_3]; done))
theorem k_X5_told {p : Program} {l : Launch} {e : Env} {R : Room} {s : State} {m : MethodId} {args : Array Value} {below : List Frame} {meth : Method} {c : Code} {H : Heap} {locs : List Loc} {cells slots : Nat} {Q : State → Prop} {cc : ByteArray} {pc index : Nat} {ls : Array Slot} {rest st0 : List Value} {E : zE} {own : String} {nL : Nat} {b : Nat → Nat} {tl : va_W} {pd : Bool} {qt : Nat → Option Nat} {qr : Nat → Option Nat} {tbu : Nat → Int32} {wst : Nat → Int32} {asw : Nat → Int32} {pN : Int32} {tN : Int32} {aN : Int32} {hd : Int32} {dr : Int32} {pl : Int32} {rm : Int32} {ps : Int32} {wx : Nat → Int32} {pp : Nat → Option Nat} {tp : Nat → Option Nat} {ap : Nat → Option Nat} {sg : Nat → Int32} {uh : Int32} {ud : Int32} {up : Int32} {ur : Int32} {us : Int32} {ux : Nat → Int32} {G : zG} {w : Int32} (cx : Cx E p s args m c own cc nL) (hW : WW E (wK b E.2.1 tl pd qt qr tbu wst asw pN tN aN hd dr pl rm ps wx pp tp ap sg uh ud up ur us ux) G H)  (zl : Cond.methodLink own index yX5_told ∈ AllW) (zR : 0 + 1 ≤ R.frames ∧ 8 + (2 + 11) + 0 ≤ R.locals) (zs : ls.size = nL) (zt : st0 = ([.int w] : List Value).reverse ++ .ref (b 7) :: rest) (z8 : (rest.map fun v => v.category).sum ≤ 8) (zd : decode cc pc = .ok (.invokevirtual index, 3)) (zf : cells ≤ R.cells ∧ slots ≤ R.slots) (kk : W p l e R s m args below meth c H locs cells slots Q (F0 m (pc + 3) ls (.int (tldV dr pl rm ps w) :: rest))) : W p l e R s m args below meth c H locs cells slots Q (F0 m pc ls st0) :=
  z_callV cx vm_X5_told (c_X5_told l E b tl pd qt qr tbu wst asw pN tN aN hd dr pl rm ps wx pp tp ap sg uh ud up ur us ux G w) (z_rec cx.2 (hW.at 7 rfl) rfl) hW zl ⟨rfl, rfl⟩ zR rfl zs zt z8 zd zf kk
theorem vm_X7_set : zVm yX7_set cX7_set 4 (some FieldType.int) 2 := ⟨m_co_X7_set, m_in_RX7, ⟨m_im_X7_set, m_se_X7_X7_set⟩, by decide +kernel, by decide +kernel, by decide +kernel⟩
set_option maxHeartbeats 1000000 in
set_option maxRecDepth 100000 in
theorem c_X7_set (l : Launch) (E : zE) (b : Nat → Nat) (tl : va_W) (pd : Bool) (qt : Nat → Option Nat) (qr : Nat → Option Nat) (tbu : Nat → Int32) (wst : Nat → Int32) (asw : Nat → Int32) (pN : Int32) (tN : Int32) (aN : Int32) (wx : Nat → Int32) (pp : Nat → Option Nat) (tp : Nat → Option Nat) (ap : Nat → Option Nat) (sg : Nat → Int32) (uh : Int32) (ud : Int32) (up : Int32) (ur : Int32) (us : Int32) (ux : Nat → Int32) (G : zG) (w n : Int32) (r : Nat → Int32) (hG : CG E.2.1 G r pN tN aN wx pp tp ap) : Met l yX7_set (.code yX7_set cX7_set 4 (some FieldType.int) :: AllW) (rm0' 2 44) (zPc E (bF b) (fun H => WW E (wK b E.2.1 tl pd qt qr tbu wst asw pN tN aN (hdC (r 3)) (r 4) (r 5) (r 6) (r 7) wx pp tp ap sg uh ud up ur us ux) G H) [.ref (b 0), .int w, .int n]) (zQ (fun (_ : Heap) (v : Option Value) (H1 : Heap) => (v = some (.int (setR r w n)) ∧ (CG E.2.1 G (setS r w n) pN tN aN wx pp tp ap) ∧ WW E (wK b E.2.1 tl pd qt qr tbu wst asw pN tN aN (hdC ((setS r w n) 3)) ((setS r w n) 4) ((setS r w n) 5) ((setS r w n) 6) ((setS r w n) 7) wx pp tp ap sg uh ud up ur us ux) G H1)) (bF b)) 0 0 (bF b) := by
  refine z_bodyc (own := RX7) (by decide) rfl rfl ?_
  intro p e s m args below meth c ls cx hr hlk hnm hW hCE hl
  have hx := cx.x
  have hb := cx.b
  have hl : lv_has ls 4 [(0, .ref (b 0)), (1, .int w), (2, .int n)] := hl
  have hFb : ∀ k, (bF b) (b k) := fun k => bF_in b k
  have hS : va_S (bF b) s.heap s.heap [] := va_S.rf
  have hG0 := hG
  obtain ⟨hI, hpN, htN, haN, hPc, hTh, hAk, hwx⟩ := hG
  have hC := hI.1
  have hIS := hI.2.1
  have hP := hI.2.2.1
  have hT := hI.2.2.2.1
  have hP10 := (Inv.n0 hC).2
  have hT7 := (Inv.n1 hC).2
  have hA24 := (Inv.n2 hC).2
  have e0 := (Inv.n0 hC).1
  have e1 := (Inv.n1 hC).1
  have e2 := (Inv.n2 hC).1
  refine lv_aload_n (pc := 0) hx hb dX7_set_0 rfl (lv_at hl 0 rfl) ?_
  refine z_get (pc := 1) cx (hW.at 0 rfl) (C := RX7) (T := TX7) (N := 11) rfl i_X7 0 rfl m_fl_X7_10 rfl dX7_set_1 ?_
  refine z_get (pc := 4) cx (hW.at 6 rfl) (C := RX1) (T := TX1) (N := 8) rfl i_X1 3 rfl m_fl_X7_117 rfl dX7_set_4 ?_
  refine lv_iload_n (pc := 7) hx hb dX7_set_7 rfl (lv_at hl 1 rfl) ?_
  refine k_X5_told (pc := 8) (w := w) cx hW  m_ml_X7_168 ⟨Nat.le_of_ble_eq_true rfl, Nat.le_of_ble_eq_true rfl⟩ hl.1 rfl (by simp [Value.category]) dX7_set_8 ⟨Nat.le_refl _, Nat.le_refl _⟩ ?_
  refine lv_istore_n (pc := 11) (lv' := [(3, .int (tldV (r 4) (r 5) (r 6) (r 7) w)), (0, .ref (b 0)), (1, .int w), (2, .int n)]) hx hb dX7_set_11 rfl hl (by decide) rfl (fun ls hl => ?_)
  refine lv_aload_n (pc := 12) hx hb dX7_set_12 rfl (lv_at hl 1 rfl) ?_
  refine z_get (pc := 13) cx (hW.at 0 rfl) (C := RX7) (T := TX7) (N := 11) rfl i_X7 0 rfl m_fl_X7_10 rfl dX7_set_13 ?_
  refine z_get (pc := 16) cx (hW.at 6 rfl) (C := RX1) (T := TX1) (N := 8) rfl i_X1 3 rfl m_fl_X7_117 rfl dX7_set_16 ?_
  refine lv_iload_n (pc := 19) hx hb dX7_set_19 rfl (lv_at hl 2 rfl) ?_
  refine lv_iload_n (pc := 20) hx hb dX7_set_20 rfl (lv_at hl 3 rfl) ?_
  refine k_X5_tell_n (pc := 21) (w := w) (n := n) cx (hCE.kept hS.2.1) hW hS (fun _ h => h)  m_ml_X7_171 ⟨Nat.le_of_ble_eq_true rfl, Nat.le_of_ble_eq_true rfl⟩ hl.1 rfl (by simp [Value.category]) dX7_set_21 ⟨Nat.le_refl _, Nat.le_refl _⟩ (fun  H locs  hW hS => ?_)
  have hW : WW E (wK b E.2.1 tl pd qt qr tbu wst asw pN tN aN (hdC (r 3)) (tlV (r 4) w n 0) (tlV (r 5) w n 1) (tlV (r 6) w n 2) (tlV (r 7) w n 3) wx pp tp ap sg uh ud up ur us ux) G H := hW
  refine z_ifeq (pc := 24) (tgt := 31) hx hb dX7_set_24 (by decide) (fun c_1 => ?_) (fun c_1 => ?_)
  · skip
    refine lv_ldc (pc := 31) (v := (-1000000001)) hx hb cx.own (cx.ts _ m_ko_X7_167) dX7_set_31 ?_
    exact z_wiret cx hr hlk dX7_set_33 hS ⟨(sI (by rw [setR_f c_1])), (CG_setS hG0 w n), (by rw [congrArg hdC (setS_k r w n).1, (setS_k r w n).2.1, (setS_k r w n).2.2.1, (setS_k r w n).2.2.2.1, (setS_k r w n).2.2.2.2]; exact hW)⟩
  · skip
    refine lv_iload_n (pc := 27) hx hb dX7_set_27 rfl (lv_at hl 0 rfl) ?_
    refine lv_goto (pc := 28) (tgt := 33) hx hb dX7_set_28 (by decide) ?_
    exact z_wiret cx hr hlk dX7_set_33 hS ⟨(sI (by rw [setR_t c_1])), (CG_setS hG0 w n), (by rw [congrArg hdC (setS_k r w n).1, (setS_k r w n).2.1, (setS_k r w n).2.2.1, (setS_k r w n).2.2.2.1, (setS_k r w n).2.2.2.2]; exact hW)⟩
theorem k_X7_set {p : Program} {l : Launch} {e : Env} {R : Room} {s : State} {m : MethodId} {args : Array Value} {below : List Frame} {meth : Method} {c : Code} {H H0 : Heap} {locs : List Loc} {cells slots : Nat} {Q : State → Prop} {cc : ByteArray} {pc index : Nat} {ls : Array Slot} {rest st0 : List Value} {E : zE} {own : String} {nL : Nat} {F : Nat → Prop} {b : Nat → Nat} {tl : va_W} {pd : Bool} {qt : Nat → Option Nat} {qr : Nat → Option Nat} {tbu : Nat → Int32} {wst : Nat → Int32} {asw : Nat → Int32} {pN : Int32} {tN : Int32} {aN : Int32} {wx : Nat → Int32} {pp : Nat → Option Nat} {tp : Nat → Option Nat} {ap : Nat → Option Nat} {sg : Nat → Int32} {uh : Int32} {ud : Int32} {up : Int32} {ur : Int32} {us : Int32} {ux : Nat → Int32} {G : zG} {w n : Int32} {r : Nat → Int32} (cx : Cx E p s args m c own cc nL) (hCE : CE E (bF b) s H) (hW : WW E (wK b E.2.1 tl pd qt qr tbu wst asw pN tN aN (hdC (r 3)) (r 4) (r 5) (r 6) (r 7) wx pp tp ap sg uh ud up ur us ux) G H) (hS : va_S F H0 H locs) (zF : ∀ q, (bF b) q → F q) (hG : CG E.2.1 G r pN tN aN wx pp tp ap) (zl : Cond.methodLink own index yX7_set ∈ AllW) (zR : 2 + 1 ≤ R.frames ∧ 8 + (4 + 11) + 44 ≤ R.locals) (zs : ls.size = nL) (zt : st0 = ([.int w, .int n] : List Value).reverse ++ .ref (b 0) :: rest) (z8 : (rest.map fun v => v.category).sum ≤ 8) (zd : decode cc pc = .ok (.invokevirtual index, 3)) (zf : cells ≤ R.cells ∧ slots ≤ R.slots) (kk0 : ∀  (H1 : Heap) (locs1 : List Loc), (CG E.2.1 G (setS r w n) pN tN aN wx pp tp ap) → WW E (wK b E.2.1 tl pd qt qr tbu wst asw pN tN aN (hdC ((setS r w n) 3)) ((setS r w n) 4) ((setS r w n) 5) ((setS r w n) 6) ((setS r w n) 7) wx pp tp ap sg uh ud up ur us ux) G H1 → va_S F H0 H1 locs1 → W p l e R s m args below meth c H1 locs1 cells slots Q (F0 m (pc + 3) ls (.int (setR r w n) :: rest))) : W p l e R s m args below meth c H locs cells slots Q (F0 m pc ls st0) := by
  refine z_callVwc cx hCE vm_X7_set (c_X7_set l E b tl pd qt qr tbu wst asw pN tN aN wx pp tp ap sg uh ud up ur us ux G w n r hG) (z_rec cx.2 (hW.at 0 rfl) rfl) hW hS zF zl ⟨rfl, rfl⟩ zR rfl zs zt z8 zd zf (fun v H1 locs1 hq hS1 _ => ?_)
  rcases hq with ⟨rfl, hG2, hW1⟩
  · exact kk0  H1 locs1 hG2 hW1 hS1
