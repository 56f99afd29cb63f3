theorem vm_X5_layWax : zVm yX5_layWax cX5_layWax 3 none 2 := ⟨m_co_X5_layWax, m_in_RX5, ⟨m_im_X5_layWax, m_se_X5_X5_layWax⟩, by decide +kernel, by decide +kernel, by decide +kernel⟩
set_option maxHeartbeats 1000000 in
set_option maxRecDepth 100000 in
theorem c_X5_layWax (l : Launch) (E : zE) (b : Nat → Nat) (tl : va_W) (pd : Bool) (qt : Nat → Option Nat) (qr : Nat → Option Nat) (tbu : Nat → Int32) (wst : Nat → Int32) (asw : Nat → Int32) (pN : Int32) (tN : Int32) (aN : Int32) (hd : Int32) (dr : Int32) (pl : Int32) (rm : Int32) (ps : Int32) (wx : Nat → Int32) (pp : Nat → Option Nat) (tp : Nat → Option Nat) (ap : Nat → Option Nat) (sg : Nat → Int32) (uh : Int32) (ud : Int32) (up : Int32) (ur : Int32) (us : Int32) (ux : Nat → Int32) (G : zG) (n : Nat) (x : Int32) (hn : n < 10) : Met l yX5_layWax (.code yX5_layWax cX5_layWax 3 none :: AllW) (rm0' 0 0) (zP E (fun H => WW E (wK b E.2.1 tl pd qt qr tbu wst asw pN tN aN hd dr pl rm ps wx pp tp ap sg uh ud up ur us ux) G H) [.ref (b 7), .int (nI n), .int x]) (zQ (fun (_ : Heap) (v : Option Value) (H1 : Heap) => (v = none ∧ WW E (wK b E.2.1 tl pd qt qr tbu wst asw pN tN aN hd dr pl rm ps (upd wx n x) pp tp ap sg uh ud up ur us ux) G H1)) (bF b)) 0 0 (bF b) := by
  refine z_body (own := RX5) (by decide) rfl rfl ?_
  intro p e s m args below meth c ls cx hr hlk hnm hW hl
  have hx := cx.x
  have hb := cx.b
  have hl : lv_has ls 3 [(0, .ref (b 7)), (1, .int (nI n)), (2, .int x)] := hl
  have hFb : ∀ k, (bF b) (b k) := fun k => bF_in b k
  have hS : va_S (bF b) s.heap s.heap [] := va_S.rf
  refine lv_iload_n (pc := 0) hx hb dX5_layWax_0 rfl (lv_at hl 1 rfl) ?_
  refine lv_if_lt (pc := 1) (tgt := 17) hx hb dX5_layWax_1 (by decide) (fun c_1 => ?_) (fun c_1 => ?_)
  · skip
    exact absurd c_1 (nI_n0 (by omega))
  · skip
    refine lv_iload_n (pc := 4) hx hb dX5_layWax_4 rfl (lv_at hl 1 rfl) ?_
    refine lv_bipush (pc := 5) (v := 10) hx hb dX5_layWax_5 (by decide) ?_
    refine lv_icmp_ge (pc := 7) (tgt := 17) hx hb dX5_layWax_7 (by decide) (fun c_2 => ?_) (fun c_2 => ?_)
    · skip
      have h3 := ge_nat (a := n) (b := 10) rfl rfl (by omega) (by omega) c_2
      omega
    · skip
      refine lv_aload_n (pc := 10) hx hb dX5_layWax_10 rfl (lv_at hl 0 rfl) ?_
      refine z_get (pc := 11) cx (hW.at 7 rfl) (C := RX5) (T := TX5) (N := 6) rfl i_X5 5 rfl m_fl_X5_15 rfl dX5_layWax_11 ?_
      refine lv_iload_n (pc := 14) hx hb dX5_layWax_14 rfl (lv_at hl 1 rfl) ?_
      refine lv_iload_n (pc := 15) hx hb dX5_layWax_15 rfl (lv_at hl 2 rfl) ?_
      refine z_iast (pc := 16) (f := wx) (j := n) cx hW hS 8 rfl (hFb 8) rfl (by omega) (by decide) dX5_layWax_16 (fun H locs hW hS => ?_)
      have hW : WW E (wK b E.2.1 tl pd qt qr tbu wst asw pN tN aN hd dr pl rm ps (upd wx n x) pp tp ap sg uh ud up ur us ux) G H := hW
      exact z_wvret cx hr hlk dX5_layWax_17 hS ⟨rfl, hW⟩
theorem k_X5_layWax {p : Program} {l : Launch} {e : Env} {R : Room} {s : State} {m : MethodId} {args : Array Value} {below : List Frame} {meth : Method} {c : Code} {H H0 : Heap} {locs : List Loc} {cells slots : Nat} {Q : State → Prop} {cc : ByteArray} {pc index : Nat} {ls : Array Slot} {rest st0 : List Value} {E : zE} {own : String} {nL : Nat} {F : Nat → Prop} {b : Nat → Nat} {tl : va_W} {pd : Bool} {qt : Nat → Option Nat} {qr : Nat → Option Nat} {tbu : Nat → Int32} {wst : Nat → Int32} {asw : Nat → Int32} {pN : Int32} {tN : Int32} {aN : Int32} {hd : Int32} {dr : Int32} {pl : Int32} {rm : Int32} {ps : Int32} {wx : Nat → Int32} {pp : Nat → Option Nat} {tp : Nat → Option Nat} {ap : Nat → Option Nat} {sg : Nat → Int32} {uh : Int32} {ud : Int32} {up : Int32} {ur : Int32} {us : Int32} {ux : Nat → Int32} {G : zG} {n : Nat} {x : Int32} (cx : Cx E p s args m c own cc nL) (hW : WW E (wK b E.2.1 tl pd qt qr tbu wst asw pN tN aN hd dr pl rm ps wx pp tp ap sg uh ud up ur us ux) G H) (hS : va_S F H0 H locs) (zF : ∀ q, (bF b) q → F q) (hn : n < 10) (zl : Cond.methodLink own index yX5_layWax ∈ AllW) (zR : 0 + 1 ≤ R.frames ∧ 8 + (3 + 11) + 0 ≤ R.locals) (zs : ls.size = nL) (zt : st0 = ([.int (nI n), .int x] : List Value).reverse ++ .ref (b 7) :: rest) (z8 : (rest.map fun v => v.category).sum ≤ 8) (zd : decode cc pc = .ok (.invokevirtual index, 3)) (zf : cells ≤ R.cells ∧ slots ≤ R.slots) (kk0 : ∀  (H1 : Heap) (locs1 : List Loc), WW E (wK b E.2.1 tl pd qt qr tbu wst asw pN tN aN hd dr pl rm ps (upd wx n x) pp tp ap sg uh ud up ur us ux) G H1 → va_S F H0 H1 locs1 → W p l e R s m args below meth c H1 locs1 cells slots Q (F0 m (pc + 3) ls (rest))) : W p l e R s m args below meth c H locs cells slots Q (F0 m pc ls st0) := by
  refine z_callVw cx vm_X5_layWax (c_X5_layWax l E b tl pd qt qr tbu wst asw pN tN aN hd dr pl rm ps wx pp tp ap sg uh ud up ur us ux G n x hn) (z_rec cx.2 (hW.at 7 rfl) rfl) hW hS zF zl ⟨rfl, rfl⟩ zR rfl zs zt z8 zd zf (fun v H1 locs1 hq hS1 _ => ?_)
  rcases hq with ⟨rfl, hW1⟩
  · exact kk0  H1 locs1  hW1 hS1
set_option maxHeartbeats 1000000 in
set_option maxRecDepth 100000 in
theorem c_X5_layWax_s (l : Launch) (E : zE) (b : Nat → Nat) (tl : va_W) (pd : Bool) (qt : Nat → Option Nat) (qr : Nat → Option Nat) (tbu : Nat → Int32) (wst : Nat → Int32) (asw : Nat → Int32) (pN : Int32) (tN : Int32) (aN : Int32) (hd : Int32) (dr : Int32) (pl : Int32) (rm : Int32) (ps : Int32) (wx : Nat → Int32) (pp : Nat → Option Nat) (tp : Nat → Option Nat) (ap : Nat → Option Nat) (sg : Nat → Int32) (uh : Int32) (ud : Int32) (up : Int32) (ur : Int32) (us : Int32) (ux : Nat → Int32) (G : zG) (n : Nat) (x : Int32) (hn : n < 10) : Met l yX5_layWax (.code yX5_layWax cX5_layWax 3 none :: AllW) (rm0' 0 0) (zP E (fun H => WW E (wK b E.2.1 tl pd qt qr tbu wst asw pN tN aN hd dr pl rm ps wx pp tp ap sg uh ud up ur us ux) G H) [.ref (b 13), .int (nI n), .int x]) (zQ (fun (_ : Heap) (v : Option Value) (H1 : Heap) => (v = none ∧ WW E (wK b E.2.1 tl pd qt qr tbu wst asw pN tN aN hd dr pl rm ps wx pp tp ap sg uh ud up ur us (upd ux n x)) G H1)) (bF b)) 0 0 (bF b) := by
  refine z_body (own := RX5) (by decide) rfl rfl ?_
  intro p e s m args below meth c ls cx hr hlk hnm hW hl
  have hx := cx.x
  have hb := cx.b
  have hl : lv_has ls 3 [(0, .ref (b 13)), (1, .int (nI n)), (2, .int x)] := hl
  have hFb : ∀ k, (bF b) (b k) := fun k => bF_in b k
  have hS : va_S (bF b) s.heap s.heap [] := va_S.rf
  refine lv_iload_n (pc := 0) hx hb dX5_layWax_0 rfl (lv_at hl 1 rfl) ?_
  refine lv_if_lt (pc := 1) (tgt := 17) hx hb dX5_layWax_1 (by decide) (fun c_1 => ?_) (fun c_1 => ?_)
  · skip
    exact absurd c_1 (nI_n0 (by omega))
  · skip
    refine lv_iload_n (pc := 4) hx hb dX5_layWax_4 rfl (lv_at hl 1 rfl) ?_
    refine lv_bipush (pc := 5) (v := 10) hx hb dX5_layWax_5 (by decide) ?_
    refine lv_icmp_ge (pc := 7) (tgt := 17) hx hb dX5_layWax_7 (by decide) (fun c_2 => ?_) (fun c_2 => ?_)
    · skip
      have h3 := ge_nat (a := n) (b := 10) rfl rfl (by omega) (by omega) c_2
      omega
    · skip
      refine lv_aload_n (pc := 10) hx hb dX5_layWax_10 rfl (lv_at hl 0 rfl) ?_
      refine z_get (pc := 11) cx (hW.at 13 rfl) (C := RX5) (T := TX5) (N := 6) rfl i_X5 5 rfl m_fl_X5_15 rfl dX5_layWax_11 ?_
      refine lv_iload_n (pc := 14) hx hb dX5_layWax_14 rfl (lv_at hl 1 rfl) ?_
      refine lv_iload_n (pc := 15) hx hb dX5_layWax_15 rfl (lv_at hl 2 rfl) ?_
      refine z_iast (pc := 16) (f := ux) (j := n) cx hW hS 14 rfl (hFb 14) rfl (by omega) (by decide) dX5_layWax_16 (fun H locs hW hS => ?_)
      have hW : WW E (wK b E.2.1 tl pd qt qr tbu wst asw pN tN aN hd dr pl rm ps wx pp tp ap sg uh ud up ur us (upd ux n x)) G H := hW
      exact z_wvret cx hr hlk dX5_layWax_17 hS ⟨rfl, hW⟩
theorem k_X5_layWax_s {p : Program} {l : Launch} {e : Env} {R : Room} {s : State} {m : MethodId} {args : Array Value} {below : List Frame} {meth : Method} {c : Code} {H H0 : Heap} {locs : List Loc} {cells slots : Nat} {Q : State → Prop} {cc : ByteArray} {pc index : Nat} {ls : Array Slot} {rest st0 : List Value} {E : zE} {own : String} {nL : Nat} {F : Nat → Prop} {b : Nat → Nat} {tl : va_W} {pd : Bool} {qt : Nat → Option Nat} {qr : Nat → Option Nat} {tbu : Nat → Int32} {wst : Nat → Int32} {asw : Nat → Int32} {pN : Int32} {tN : Int32} {aN : Int32} {hd : Int32} {dr : Int32} {pl : Int32} {rm : Int32} {ps : Int32} {wx : Nat → Int32} {pp : Nat → Option Nat} {tp : Nat → Option Nat} {ap : Nat → Option Nat} {sg : Nat → Int32} {uh : Int32} {ud : Int32} {up : Int32} {ur : Int32} {us : Int32} {ux : Nat → Int32} {G : zG} {n : Nat} {x : Int32} (cx : Cx E p s args m c own cc nL) (hW : WW E (wK b E.2.1 tl pd qt qr tbu wst asw pN tN aN hd dr pl rm ps wx pp tp ap sg uh ud up ur us ux) G H) (hS : va_S F H0 H locs) (zF : ∀ q, (bF b) q → F q) (hn : n < 10) (zl : Cond.methodLink own index yX5_layWax ∈ AllW) (zR : 0 + 1 ≤ R.frames ∧ 8 + (3 + 11) + 0 ≤ R.locals) (zs : ls.size = nL) (zt : st0 = ([.int (nI n), .int x] : List Value).reverse ++ .ref (b 13) :: rest) (z8 : (rest.map fun v => v.category).sum ≤ 8) (zd : decode cc pc = .ok (.invokevirtual index, 3)) (zf : cells ≤ R.cells ∧ slots ≤ R.slots) (kk0 : ∀  (H1 : Heap) (locs1 : List Loc), WW E (wK b E.2.1 tl pd qt qr tbu wst asw pN tN aN hd dr pl rm ps wx pp tp ap sg uh ud up ur us (upd ux n x)) G H1 → va_S F H0 H1 locs1 → W p l e R s m args below meth c H1 locs1 cells slots Q (F0 m (pc + 3) ls (rest))) : W p l e R s m args below meth c H locs cells slots Q (F0 m pc ls st0) := by
  refine z_callVw cx vm_X5_layWax (c_X5_layWax_s l E b tl pd qt qr tbu wst asw pN tN aN hd dr pl rm ps wx pp tp ap sg uh ud up ur us ux G n x hn) (z_rec cx.2 (hW.at 13 rfl) rfl) hW hS zF zl ⟨rfl, rfl⟩ zR rfl zs zt z8 zd zf (fun v H1 locs1 hq hS1 _ => ?_)
  rcases hq with ⟨rfl, hW1⟩
  · exact kk0  H1 locs1  hW1 hS1
theorem vm_X5_become : zVm yX5_become cX5_become 2 none 1 := ⟨m_co_X5_become, m_in_RX5, ⟨m_im_X5_become, m_se_X5_X5_become⟩, by decide +kernel, by decide +kernel, by decide +kernel⟩
set_option maxHeartbeats 1000000 in
set_option maxRecDepth 100000 in
theorem c_X5_become_s (l : Launch) (E : zE) (b : Nat → Nat) (tl : va_W) (pd : Bool) (qt : Nat → Option Nat) (qr : Nat → Option Nat) (tbu : Nat → Int32) (wst : Nat → Int32) (asw : Nat → Int32) (pN : Int32) (tN : Int32) (aN : Int32) (hd : Int32) (dr : Int32) (pl : Int32) (rm : Int32) (ps : Int32) (wx : Nat → Int32) (pp : Nat → Option Nat) (tp : Nat → Option Nat) (ap : Nat → Option Nat) (sg : Nat → Int32) (uh : Int32) (ud : Int32) (up : Int32) (ur : Int32) (us : Int32) (ux : Nat → Int32) (G : zG)   : Met l yX5_become (.code yX5_become cX5_become 2 none :: AllW) (rm0' 1 80) (zP E (fun H => WW E (wK b E.2.1 tl pd qt qr tbu wst asw pN tN aN hd dr pl rm ps wx pp tp ap sg uh ud up ur us ux) G H) [.ref (b 13), .ref (b 7)]) (zQ (fun (_ : Heap) (v : Option Value) (H1 : Heap) => (v = none ∧ WW E (wK b E.2.1 tl pd qt qr tbu wst asw pN tN aN hd dr pl rm ps wx pp tp ap sg hd dr pl rm ps wx) G H1)) (bF b)) 0 0 (bF b) := by
  refine z_body (own := RX5) (by decide) rfl rfl ?_
  intro p e s m args below meth c ls cx hr hlk hnm hW hl
  have hx := cx.x
  have hb := cx.b
  have hl : lv_has ls 2 [(0, .ref (b 13)), (1, .ref (b 7))] := hl
  have hFb : ∀ k, (bF b) (b k) := fun k => bF_in b k
  have hS : va_S (bF b) s.heap s.heap [] := va_S.rf
  refine lv_aload_n (pc := 0) hx hb dX5_become_0 rfl (lv_at hl 0 rfl) ?_
  refine lv_aload_n (pc := 1) hx hb dX5_become_1 rfl (lv_at hl 1 rfl) ?_
  refine z_get (pc := 2) cx (hW.at 7 rfl) (C := RX5) (T := TX5) (N := 6) rfl i_X5 0 rfl m_fl_X5_9 rfl dX5_become_2 ?_
  refine z_putK5 (pc := 5) cx hW hS 13 rfl (hFb 13) 0 rfl m_fl_X5_9 rfl rfl dX5_become_5 (fun H locs hW hS => ?_)
  have hW : WW E (wK b E.2.1 tl pd qt qr tbu wst asw pN tN aN hd dr pl rm ps wx pp tp ap sg hd ud up ur us ux) G H := hW
  refine lv_aload_n (pc := 8) hx hb dX5_become_8 rfl (lv_at hl 0 rfl) ?_
  refine lv_aload_n (pc := 9) hx hb dX5_become_9 rfl (lv_at hl 1 rfl) ?_
  refine z_get (pc := 10) cx (hW.at 7 rfl) (C := RX5) (T := TX5) (N := 6) rfl i_X5 1 rfl m_fl_X5_19 rfl dX5_become_10 ?_
  refine z_putK5 (pc := 13) cx hW hS 13 rfl (hFb 13) 1 rfl m_fl_X5_19 rfl rfl dX5_become_13 (fun H locs hW hS => ?_)
  have hW : WW E (wK b E.2.1 tl pd qt qr tbu wst asw pN tN aN hd dr pl rm ps wx pp tp ap sg hd dr up ur us ux) G H := hW
  refine lv_aload_n (pc := 16) hx hb dX5_become_16 rfl (lv_at hl 0 rfl) ?_
  refine lv_aload_n (pc := 17) hx hb dX5_become_17 rfl (lv_at hl 1 rfl) ?_
  refine z_get (pc := 18) cx (hW.at 7 rfl) (C := RX5) (T := TX5) (N := 6) rfl i_X5 2 rfl m_fl_X5_22 rfl dX5_become_18 ?_
  refine z_putK5 (pc := 21) cx hW hS 13 rfl (hFb 13) 2 rfl m_fl_X5_22 rfl rfl dX5_become_21 (fun H locs hW hS => ?_)
  have hW : WW E (wK b E.2.1 tl pd qt qr tbu wst asw pN tN aN hd dr pl rm ps wx pp tp ap sg hd dr pl ur us ux) G H := hW
  refine lv_aload_n (pc := 24) hx hb dX5_become_24 rfl (lv_at hl 0 rfl) ?_
  refine lv_aload_n (pc := 25) hx hb dX5_become_25 rfl (lv_at hl 1 rfl) ?_
  refine z_get (pc := 26) cx (hW.at 7 rfl) (C := RX5) (T := TX5) (N := 6) rfl i_X5 3 rfl m_fl_X5_25 rfl dX5_become_26 ?_
  refine z_putK5 (pc := 29) cx hW hS 13 rfl (hFb 13) 3 rfl m_fl_X5_25 rfl rfl dX5_become_29 (fun H locs hW hS => ?_)
  have hW : WW E (wK b E.2.1 tl pd qt qr tbu wst asw pN tN aN hd dr pl rm ps wx pp tp ap sg hd dr pl rm us ux) G H := hW
  refine lv_aload_n (pc := 32) hx hb dX5_become_32 rfl (lv_at hl 0 rfl) ?_
  refine lv_aload_n (pc := 33) hx hb dX5_become_33 rfl (lv_at hl 1 rfl) ?_
  refine z_get (pc := 34) cx (hW.at 7 rfl) (C := RX5) (T := TX5) (N := 6) rfl i_X5 4 rfl m_fl_X5_28 rfl dX5_become_34 ?_
  refine z_putK5 (pc := 37) cx hW hS 13 rfl (hFb 13) 4 rfl m_fl_X5_28 rfl rfl dX5_become_37 (fun H locs hW hS => ?_)
  have hW : WW E (wK b E.2.1 tl pd qt qr tbu wst asw pN tN aN hd dr pl rm ps wx pp tp ap sg hd dr pl rm ps ux) G H := hW
  refine lv_aload_n (pc := 40) hx hb dX5_become_40 rfl (lv_at hl 1 rfl) ?_
  refine z_get (pc := 41) cx (hW.at 7 rfl) (C := RX5) (T := TX5) (N := 6) rfl i_X5 5 rfl m_fl_X5_15 rfl dX5_become_41 ?_
  refine lv_iconst (pc := 44) (v := 0) hx hb dX5_become_44 (by decide) ?_
  refine lv_aload_n (pc := 45) hx hb dX5_become_45 rfl (lv_at hl 0 rfl) ?_
  refine z_get (pc := 46) cx (hW.at 13 rfl) (C := RX5) (T := TX5) (N := 6) rfl i_X5 5 rfl m_fl_X5_15 rfl dX5_become_46 ?_
  refine lv_iconst (pc := 49) (v := 0) hx hb dX5_become_49 (by decide) ?_
  refine lv_bipush (pc := 50) (v := 10) hx hb dX5_become_50 (by decide) ?_
  refine z_copyI (pc := 52) (n := 10) cx hW hS 14 (hW.at 8 rfl) rfl (hFb 14) (by decide) hl.1 m_ml_X5_31 ⟨Nat.le_of_ble_eq_true rfl, Nat.le_of_ble_eq_true rfl⟩ (by simp [Value.category]) dX5_become_52 (fun H locs hW hS => ?_)
  have hW : WW E (wK b E.2.1 tl pd qt qr tbu wst asw pN tN aN hd dr pl rm ps wx pp tp ap sg hd dr pl rm ps wx) G H := hW
  exact z_wvret cx hr hlk dX5_become_55 hS ⟨rfl, hW⟩
theorem k_X5_become_s {p : Program} {l : Launch} {e : Env} {R : Room} {s : State} {m : MethodId} {args : Array Value} {below : List Frame} {meth : Method} {c : Code} {H H0 : Heap} {locs : List Loc} {cells slots : Nat} {Q : State → Prop} {cc : ByteArray} {pc index : Nat} {ls : Array Slot} {rest st0 : List Value} {E : zE} {own : String} {nL : Nat} {F : Nat → Prop} {b : Nat → Nat} {tl : va_W} {pd : Bool} {qt : Nat → Option Nat} {qr : Nat → Option Nat} {tbu : Nat → Int32} {wst : Nat → Int32} {asw : Nat → Int32} {pN : Int32} {tN : Int32} {aN : Int32} {hd : Int32} {dr : Int32} {pl : Int32} {rm : Int32} {ps : Int32} {wx : Nat → Int32} {pp : Nat → Option Nat} {tp : Nat → Option Nat} {ap : Nat → Option Nat} {sg : Nat → Int32} {uh : Int32} {ud : Int32} {up : Int32} {ur : Int32} {us : Int32} {ux : Nat → Int32} {G : zG}  (cx : Cx E p s args m c own cc nL) (hW : WW E (wK b E.2.1 tl pd qt qr tbu wst asw pN tN aN hd dr pl rm ps wx pp tp ap sg uh ud up ur us ux) G H) (hS : va_S F H0 H locs) (zF : ∀ q, (bF b) q → F q)  (zl : Cond.methodLink own index yX5_become ∈ AllW) (zR : 1 + 1 ≤ R.frames ∧ 8 + (2 + 11) + 80 ≤ R.locals) (zs : ls.size = nL) (zt : st0 = ([.ref (b 7)] : List Value).reverse ++ .ref (b 13) :: rest) (z8 : (rest.map fun v => v.category).sum ≤ 8) (zd : decode cc pc = .ok (.invokevirtual index, 3)) (zf : cells ≤ R.cells ∧ slots ≤ R.slots) (kk0 : ∀  (H1 : Heap) (locs1 : List Loc), WW E (wK b E.2.1 tl pd qt qr tbu wst asw pN tN aN hd dr pl rm ps wx pp tp ap sg hd dr pl rm ps wx) G H1 → va_S F H0 H1 locs1 → W p l e R s m args below meth c H1 locs1 cells slots Q (F0 m (pc + 3) ls (rest))) : W p l e R s m args below meth c H locs cells slots Q (F0 m pc ls st0) := by
  refine z_callVw cx vm_X5_become (c_X5_become_s l E b tl pd qt qr tbu wst asw pN tN aN hd dr pl rm ps wx pp tp ap sg uh ud up ur us ux G) (z_rec cx.2 (hW.at 13 rfl) rfl) hW hS zF zl ⟨rfl, rfl⟩ zR rfl zs zt z8 zd zf (fun v H1 locs1 hq hS1 _ => ?_)
  rcases hq with ⟨rfl, hW1⟩
  · exact kk0  H1 locs1  hW1 hS1
theorem vm_X7_forget : zVm yX7_forget cX7_forget 2 (some FieldType.int) 0 := ⟨m_co_X7_forget, m_in_RX7, ⟨m_im_X7_forget, m_se_X7_X7_forget⟩, by decide +kernel, by decide +kernel, by decide +kernel⟩
set_option maxHeartbeats 1000000 in
set_option maxRecDepth 100000 in
theorem c_X7_forget (l : Launch) (E : zE) (b : Nat → Nat) (tl : va_W) (pd : Bool) (qt : Nat → Option Nat) (qr : Nat → Option Nat) (tbu : Nat → Int32) (wst : Nat → Int32) (asw : Nat → Int32) (pN : Int32) (tN : Int32) (aN : Int32) (wx : Nat → Int32) (pp : Nat → Option Nat) (tp : Nat → Option Nat) (ap : Nat → Option Nat) (sg : Nat → Int32) (uh : Int32) (ud : Int32) (up : Int32) (ur : Int32) (us : Int32) (ux : Nat → Int32) (G : zG) (r : Nat → Int32) (hG : CG E.2.1 G r pN tN aN wx pp tp ap) : Met l yX7_forget (.code yX7_forget cX7_forget 2 (some FieldType.int) :: AllW) (rm0' 0 0) (zP E (fun H => WW E (wK b E.2.1 tl pd qt qr tbu wst asw pN tN aN (hdC (r 3)) (r 4) (r 5) (r 6) (r 7) wx pp tp ap sg uh ud up ur us ux) G H) [.ref (b 0)]) (zQ (fun (_ : Heap) (v : Option Value) (H1 : Heap) => (v = some (.int (r 2)) ∧ (CG E.2.1 G (upd r 2 0) pN tN 0 wx pp tp ap) ∧ WW E (wK b E.2.1 tl pd qt qr tbu wst asw pN tN 0 (hdC ((upd r 2 0) 3)) ((upd r 2 0) 4) ((upd r 2 0) 5) ((upd r 2 0) 6) ((upd r 2 0) 7) wx pp tp ap sg uh ud up ur us ux) G H1)) (bF b)) 0 0 (bF b) := by
  refine z_body (own := RX7) (by decide) rfl rfl ?_
  intro p e s m args below meth c ls cx hr hlk hnm hW hl
  have hx := cx.x
  have hb := cx.b
  have hl : lv_has ls 2 [(0, .ref (b 0))] := hl
  have hFb : ∀ k, (bF b) (b k) := fun k => bF_in b k
  have hS : va_S (bF b) s.heap s.heap [] := va_S.rf
  have hG0 := hG
  obtain ⟨hI, hpN, htN, haN, hPc, hTh, hAk, hwx⟩ := hG
  have hC := hI.1
  have hIS := hI.2.1
  have hP := hI.2.2.1
  have hT := hI.2.2.2.1
  have hP10 := (Inv.n0 hC).2
  have hT7 := (Inv.n1 hC).2
  have hA24 := (Inv.n2 hC).2
  have e0 := (Inv.n0 hC).1
  have e1 := (Inv.n1 hC).1
  have e2 := (Inv.n2 hC).1
  refine lv_aload_n (pc := 0) hx hb dX7_forget_0 rfl (lv_at hl 0 rfl) ?_
  refine z_get (pc := 1) cx (hW.at 0 rfl) (C := RX7) (T := TX7) (N := 11) rfl i_X7 0 rfl m_fl_X7_10 rfl dX7_forget_1 ?_
  refine z_get (pc := 4) cx (hW.at 6 rfl) (C := RX1) (T := TX1) (N := 8) rfl i_X1 2 rfl m_fl_X7_203 rfl dX7_forget_4 ?_
  refine lv_istore_n (pc := 7) (lv' := [(1, .int aN), (0, .ref (b 0))]) hx hb dX7_forget_7 rfl hl (by decide) rfl (fun ls hl => ?_)
  refine lv_aload_n (pc := 8) hx hb dX7_forget_8 rfl (lv_at hl 1 rfl) ?_
  refine z_get (pc := 9) cx (hW.at 0 rfl) (C := RX7) (T := TX7) (N := 11) rfl i_X7 0 rfl m_fl_X7_10 rfl dX7_forget_9 ?_
  refine lv_iconst (pc := 12) (v := 0) hx hb dX7_forget_12 (by decide) ?_
  refine z_putK1 (pc := 13) cx hW hS 6 rfl (hFb 6) 2 rfl m_fl_X7_203 rfl rfl dX7_forget_13 (fun H locs hW hS => ?_)
  have hW : WW E (wK b E.2.1 tl pd qt qr tbu wst asw pN tN 0 (hdC (r 3)) (r 4) (r 5) (r 6) (r 7) wx pp tp ap sg uh ud up ur us ux) G H := hW
  refine lv_iload_n (pc := 16) hx hb dX7_forget_16 rfl (lv_at hl 0 rfl) ?_
  exact z_wiret cx hr hlk dX7_forget_17 hS ⟨(sI (haN.trans e2.symm)), (CG_fgt hG0), (by rw [show (hdC ((upd r 2 0) 3)) = hdC (r 3) from (by first | rfl | (simp []; done)), show ((upd r 2 0) 4) = r 4 from (by first | rfl | (simp []; done)), show ((upd r 2 0) 5) = r 5 from (by first | rfl | (simp []; done)), show ((upd r 2 0) 6) = r 6 from (by first | rfl | (simp []; done)), show ((upd r 2 0) 7) = r 7 from (by first | rfl | (simp []; done))]; exact hW)⟩
theorem k_X7_forget {p : Program} {l : Launch} {e : Env} {R : Room} {s : State} {m : MethodId} {args : Array Value} {below : List Frame} {meth : Method} {c : Code} {H H0 : Heap} {locs : List Loc} {cells slots : Nat} {Q : State → Prop} {cc : ByteArray} {pc index : Nat} {ls : Array Slot} {rest st0 : List Value} {E : zE} {own : String} {nL : Nat} {F : Nat → Prop} {b : Nat → Nat} {tl : va_W} {pd : Bool} {qt : Nat → Option Nat} {qr : Nat → Option Nat} {tbu : Nat → Int32} {wst : Nat → Int32} {asw : Nat → Int32} {pN : Int32} {tN : Int32} {aN : Int32} {wx : Nat → Int32} {pp : Nat → Option Nat} {tp : Nat → Option Nat} {ap : Nat → Option Nat} {sg : Nat → Int32} {uh : Int32} {ud : Int32} {up : Int32} {ur : Int32} {us : Int32} {ux : Nat → Int32} {G : zG} {r : Nat → Int32} (cx : Cx E p s args m c own cc nL) (hW : WW E (wK b E.2.1 tl pd qt qr tbu wst asw pN tN aN (hdC (r 3)) (r 4) (r 5) (r 6) (r 7) wx pp tp ap sg uh ud up ur us ux) G H) (hS : va_S F H0 H locs) (zF : ∀ q, (bF b) q → F q) (hG : CG E.2.1 G r pN tN aN wx pp tp ap) (zl : Cond.methodLink own index yX7_forget ∈ AllW) (zR : 0 + 1 ≤ R.frames ∧ 8 + (2 + 11) + 0 ≤ R.locals) (zs : ls.size = nL) (zt : st0 = ([] : List Value).reverse ++ .ref (b 0) :: rest) (z8 : (rest.map fun v => v.category).sum ≤ 8) (zd : decode cc pc = .ok (.invokevirtual index, 3)) (zf : cells ≤ R.cells ∧ slots ≤ R.slots) (kk0 : ∀  (H1 : Heap) (locs1 : List Loc), (CG E.2.1 G (upd r 2 0) pN tN 0 wx pp tp ap) → WW E (wK b E.2.1 tl pd qt qr tbu wst asw pN tN 0 (hdC ((upd r 2 0) 3)) ((upd r 2 0) 4) ((upd r 2 0) 5) ((upd r 2 0) 6) ((upd r 2 0) 7) wx pp tp ap sg uh ud up ur us ux) G H1 → va_S F H0 H1 locs1 → W p l e R s m args below meth c H1 locs1 cells slots Q (F0 m (pc + 3) ls (.int (r 2) :: rest))) : W p l e R s m args below meth c H locs cells slots Q (F0 m pc ls st0) := by
  refine z_callVw cx vm_X7_forget (c_X7_forget l E b tl pd qt qr tbu wst asw pN tN aN wx pp tp ap sg uh ud up ur us ux G r hG) (z_rec cx.2 (hW.at 0 rfl) rfl) hW hS zF zl ⟨rfl, rfl⟩ zR rfl zs zt z8 zd zf (fun v H1 locs1 hq hS1 _ => ?_)
  rcases hq with ⟨rfl, hG2, hW1⟩
  · exact kk0  H1 locs1 hG2 hW1 hS1
theorem vm_X7_wax : zVm yX7_wax cX7_wax 4 (some FieldType.int) 2 := ⟨m_co_X7_wax, m_in_RX7, ⟨m_im_X7_wax, m_se_X7_X7_wax⟩, by decide +kernel, by decide +kernel, by decide +kernel⟩
set_option maxHeartbeats 1000000 in
set_option maxRecDepth 100000 in
theorem c_X7_wax (l : Launch) (E : zE) (b : Nat → Nat) (tl : va_W) (pd : Bool) (qt : Nat → Option Nat) (qr : Nat → Option Nat) (tbu : Nat → Int32) (wst : Nat → Int32) (asw : Nat → Int32) (pN : Int32) (tN : Int32) (aN : Int32) (wx : Nat → Int32) (pp : Nat → Option Nat) (tp : Nat → Option Nat) (ap : Nat → Option Nat) (sg : Nat → Int32) (uh : Int32) (ud : Int32) (up : Int32) (ur : Int32) (us : Int32) (ux : Nat → Int32) (G : zG) (x w : Int32) (r : Nat → Int32) (hG : CG E.2.1 G r pN tN aN wx pp tp ap) : Met l yX7_wax (.code yX7_wax cX7_wax 4 (some FieldType.int) :: AllW) (rm0' 1 22) (zP E (fun H => WW E (wK b E.2.1 tl pd qt qr tbu wst asw pN tN aN (hdC (r 3)) (r 4) (r 5) (r 6) (r 7) wx pp tp ap sg uh ud up ur us ux) G H) [.ref (b 0), .int x, .int w]) (zQ (fun (_ : Heap) (v : Option Value) (H1 : Heap) => (∃ (wx2 : Nat → Int32), v = some (.int (waxR r x w)) ∧ (CG E.2.1 G (waxS r x w) pN tN aN wx2 pp tp ap) ∧ WW E (wK b E.2.1 tl pd qt qr tbu wst asw pN tN aN (hdC ((waxS r x w) 3)) ((waxS r x w) 4) ((waxS r x w) 5) ((waxS r x w) 6) ((waxS r x w) 7) wx2 pp tp ap sg uh ud up ur us ux) G H1)) (bF b)) 0 0 (bF b) := by
  refine z_body (own := RX7) (by decide) rfl rfl ?_
  intro p e s m args below meth c ls cx hr hlk hnm hW hl
  have hx := cx.x
  have hb := cx.b
  have hl : lv_has ls 4 [(0, .ref (b 0)), (1, .int x), (2, .int w)] := hl
  have hFb : ∀ k, (bF b) (b k) := fun k => bF_in b k
  have hS : va_S (bF b) s.heap s.heap [] := va_S.rf
  have hG0 := hG
  obtain ⟨hI, hpN, htN, haN, hPc, hTh, hAk, hwx⟩ := hG
  have hC := hI.1
  have hIS := hI.2.1
  have hP := hI.2.2.1
  have hT := hI.2.2.2.1
  have hP10 := (Inv.n0 hC).2
  have hT7 := (Inv.n1 hC).2
  have hA24 := (Inv.n2 hC).2
  have e0 := (Inv.n0 hC).1
  have e1 := (Inv.n1 hC).1
  have e2 := (Inv.n2 hC).1
  refine lv_aload_n (pc := 0) hx hb dX7_wax_0 rfl (lv_at hl 0 rfl) ?_
  refine z_get (pc := 1) cx (hW.at 0 rfl) (C := RX7) (T := TX7) (N := 11) rfl i_X7 0 rfl m_fl_X7_10 rfl dX7_wax_1 ?_
  refine lv_iload_n (pc := 4) hx hb dX7_wax_4 rfl (lv_at hl 1 rfl) ?_
  refine k_X1_isPiece (pc := 5) (x := x) cx hW (by first | assumption | omega) (by first | assumption | omega) m_ml_X7_155 ⟨Nat.le_of_ble_eq_true rfl, Nat.le_of_ble_eq_true rfl⟩ hl.1 rfl (by simp [Value.category]) dX7_wax_5 ⟨Nat.le_refl _, Nat.le_refl _⟩ ?_
  refine z_ifeq (pc := 8) (tgt := 21) hx hb dX7_wax_8 (by decide) (fun c_1 => ?_) (fun c_1 => ?_)
  · skip
    have hws : waxS r x w = r := by unfold waxS; rw [if_neg (fun q => by rw [c_1] at q; exact absurd q.1 (by decide))]
    refine lv_iconst (pc := 21) (v := (-1)) hx hb dX7_wax_21 (by decide) ?_
    exact z_wiret cx hr hlk dX7_wax_22 hS ⟨_, (sI (by first | rfl | (simp [waxR, c_1]; done))), (by rw [hws]; exact hG0), (by rw [show (hdC ((waxS r x w) 3)) = hdC (r 3) from (by first | (rw [hws]; done) | (rw [hws]; first | rfl | exact congrArg hdC (upd_ne _ _ (by omega)) | exact upd_ne _ _ (by omega))), show ((waxS r x w) 4) = r 4 from (by first | (rw [hws]; done) | (rw [hws]; first | rfl | exact congrArg hdC (upd_ne _ _ (by omega)) | exact upd_ne _ _ (by omega))), show ((waxS r x w) 5) = r 5 from (by first | (rw [hws]; done) | (rw [hws]; first | rfl | exact congrArg hdC (upd_ne _ _ (by omega)) | exact upd_ne _ _ (by omega))), show ((waxS r x w) 6) = r 6 from (by first | (rw [hws]; done) | (rw [hws]; first | rfl | exact congrArg hdC (upd_ne _ _ (by omega)) | exact upd_ne _ _ (by omega))), show ((waxS r x w) 7) = r 7 from (by first | (rw [hws]; done) | (rw [hws]; first | rfl | exact congrArg hdC (upd_ne _ _ (by omega)) | exact upd_ne _ _ (by omega)))]; exact hW)⟩
  · skip
    obtain ⟨n, hn, rfl⟩ := pc_nat hC c_1
    have hN := iN_nI (n := n) (by omega)
    refine lv_iload_n (pc := 11) hx hb dX7_wax_11 rfl (lv_at hl 2 rfl) ?_
    refine lv_iconst (pc := 12) (v := 0) hx hb dX7_wax_12 (by decide) ?_
    refine lv_bipush (pc := 13) (v := 20) hx hb dX7_wax_13 (by decide) ?_
    refine k_X7_isWithin (pc := 15) (x := w) (y := 0) (z := 20) cx  m_ml_X7_159 ⟨Nat.le_of_ble_eq_true rfl, Nat.le_of_ble_eq_true rfl⟩ hl.1 rfl (by simp [Value.category]) dX7_wax_15 ⟨Nat.le_refl _, Nat.le_refl _⟩ ?_
    refine z_ifne (pc := 18) (tgt := 23) hx hb dX7_wax_18 (by decide) (fun c_2 => ?_) (fun c_2 => ?_)
    · skip
      have hw2 := inL_rg c_2
      have hws : waxS r (nI n) w = upd r (8 + 6 * n + 5) w := by unfold waxS; rw [if_pos ⟨by assumption, c_2⟩, hN]
      refine lv_aload_n (pc := 23) hx hb dX7_wax_23 rfl (lv_at hl 0 rfl) ?_
      refine z_get (pc := 24) cx (hW.at 0 rfl) (C := RX7) (T := TX7) (N := 11) rfl i_X7 0 rfl m_fl_X7_10 rfl dX7_wax_24 ?_
      refine z_get (pc := 27) cx (hW.at 6 rfl) (C := RX1) (T := TX1) (N := 8) rfl i_X1 3 rfl m_fl_X7_117 rfl dX7_wax_27 ?_
      refine lv_iload_n (pc := 30) hx hb dX7_wax_30 rfl (lv_at hl 1 rfl) ?_
      refine k_X5_waxOn (pc := 31) (n := n) cx ⟨hW.at 7 rfl, hW.at 8 rfl⟩ (by first | assumption | omega) m_ml_X7_120 ⟨Nat.le_of_ble_eq_true rfl, Nat.le_of_ble_eq_true rfl⟩ hl.1 rfl (by simp [Value.category]) dX7_wax_31 ⟨Nat.le_refl _, Nat.le_refl _⟩ ?_
      refine z_tope (y := g6 r n 5) (hwx n hn) ?_
      refine lv_istore_n (pc := 34) (lv' := [(3, .int (g6 r n 5)), (0, .ref (b 0)), (1, .int (nI n)), (2, .int w)]) hx hb dX7_wax_34 rfl hl (by decide) rfl (fun ls hl => ?_)
      refine lv_aload_n (pc := 35) hx hb dX7_wax_35 rfl (lv_at hl 1 rfl) ?_
      refine z_get (pc := 36) cx (hW.at 0 rfl) (C := RX7) (T := TX7) (N := 11) rfl i_X7 0 rfl m_fl_X7_10 rfl dX7_wax_36 ?_
      refine z_get (pc := 39) cx (hW.at 6 rfl) (C := RX1) (T := TX1) (N := 8) rfl i_X1 3 rfl m_fl_X7_117 rfl dX7_wax_39 ?_
      refine lv_iload_n (pc := 42) hx hb dX7_wax_42 rfl (lv_at hl 2 rfl) ?_
      refine lv_iload_n (pc := 43) hx hb dX7_wax_43 rfl (lv_at hl 3 rfl) ?_
      refine k_X5_layWax (pc := 44) (n := n) (x := w) cx hW hS (fun _ h => h) (by omega) m_ml_X7_163 ⟨Nat.le_of_ble_eq_true rfl, Nat.le_of_ble_eq_true rfl⟩ hl.1 rfl (by simp [Value.category]) dX7_wax_44 ⟨Nat.le_refl _, Nat.le_refl _⟩ (fun  H locs  hW hS => ?_)
      have hW : WW E (wK b E.2.1 tl pd qt qr tbu wst asw pN tN aN (hdC (r 3)) (r 4) (r 5) (r 6) (r 7) (upd wx n w) pp tp ap sg uh ud up ur us ux) G H := hW
      refine lv_iload_n (pc := 47) hx hb dX7_wax_47 rfl (lv_at hl 0 rfl) ?_
      exact z_wiret cx hr hlk dX7_wax_48 hS ⟨_, (sI (by first | rfl | (simp [waxR, c_1, hN, c_2]; done))), (by rw [hws]; exact CG_wax hG0 hn hw2), (by rw [show (hdC ((waxS r (nI n) w) 3)) = hdC (r 3) from (by first | (rw [hws]; done) | (rw [hws]; first | rfl | exact congrArg hdC (upd_ne _ _ (by omega)) | exact upd_ne _ _ (by omega))), show ((waxS r (nI n) w) 4) = r 4 from (by first | (rw [hws]; done) | (rw [hws]; first | rfl | exact congrArg hdC (upd_ne _ _ (by omega)) | exact upd_ne _ _ (by omega))), show ((waxS r (nI n) w) 5) = r 5 from (by first | (rw [hws]; done) | (rw [hws]; first | rfl | exact congrArg hdC (upd_ne _ _ (by omega)) | exact upd_ne _ _ (by omega))), show ((waxS r (nI n) w) 6) = r 6 from (by first | (rw [hws]; done) | (rw [hws]; first | rfl | exact congrArg hdC (upd_ne _ _ (by omega)) | exact upd_ne _ _ (by omega))), show ((waxS r (nI n) w) 7) = r 7 from (by first | (rw [hws]; done) | (rw [hws]; first | rfl | exact congrArg hdC (upd_ne _ _ (by omega)) | exact upd_ne _ _ (by omega)))]; exact hW)⟩
    · skip
      have hws : waxS r (nI n) w = r := by unfold waxS; rw [if_neg (fun q => by rw [c_2] at q; exact absurd q.2 (by decide))]
      refine lv_iconst (pc := 21) (v := (-1)) hx hb dX7_wax_21 (by decide) ?_
      exact z_wiret cx hr hlk dX7_wax_22 hS ⟨_, (sI (by first | rfl | (simp [waxR, c_1, hN, c_2]; done))), (by rw [hws]; exact hG0), (by rw [show (hdC ((waxS r (nI n) w) 3)) = hdC (r 3) from (by first | (rw [hws]; done) | (rw [hws]; first | rfl | exact congrArg hdC (upd_ne _ _ (by omega)) | exact upd_ne _ _ (by omega))), show ((waxS r (nI n) w) 4) = r 4 from (by first | (rw [hws]; done) | (rw [hws]; first | rfl | exact congrArg hdC (upd_ne _ _ (by omega)) | exact upd_ne _ _ (by omega))), show ((waxS r (nI n) w) 5) = r 5 from (by first | (rw [hws]; done) | (rw [hws]; first | rfl | exact congrArg hdC (upd_ne _ _ (by omega)) | exact upd_ne _ _ (by omega))), show ((waxS r (nI n) w) 6) = r 6 from (by first | (rw [hws]; done) | (rw [hws]; first | rfl | exact congrArg hdC (upd_ne _ _ (by omega)) | exact upd_ne _ _ (by omega))), show ((waxS r (nI n) w) 7) = r 7 from (by first | (rw [hws]; done) | (rw [hws]; first | rfl | exact congrArg hdC (upd_ne _ _ (by omega)) | exact upd_ne _ _ (by omega)))]; exact hW)⟩
theorem k_X7_wax {p : Program} {l : Launch} {e : Env} {R : Room} {s : State} {m : MethodId} {args : Array Value} {below : List Frame} {meth : Method} {c : Code} {H H0 : Heap} {locs : List Loc} {cells slots : Nat} {Q : State → Prop} {cc : ByteArray} {pc index : Nat} {ls : Array Slot} {rest st0 : List Value} {E : zE} {own : String} {nL : Nat} {F : Nat → Prop} {b : Nat → Nat} {tl : va_W} {pd : Bool} {qt : Nat → Option Nat} {qr : Nat → Option Nat} {tbu : Nat → Int32} {wst : Nat → Int32} {asw : Nat → Int32} {pN : Int32} {tN : Int32} {aN : Int32} {wx : Nat → Int32} {pp : Nat → Option Nat} {tp : Nat → Option Nat} {ap : Nat → Option Nat} {sg : Nat → Int32} {uh : Int32} {ud : Int32} {up : Int32} {ur : Int32} {us : Int32} {ux : Nat → Int32} {G : zG} {x w : Int32} {r : Nat → Int32} (cx : Cx E p s args m c own cc nL) (hW : WW E (wK b E.2.1 tl pd qt qr tbu wst asw pN tN aN (hdC (r 3)) (r 4) (r 5) (r 6) (r 7) wx pp tp ap sg uh ud up ur us ux) G H) (hS : va_S F H0 H locs) (zF : ∀ q, (bF b) q → F q) (hG : CG E.2.1 G r pN tN aN wx pp tp ap) (zl : Cond.methodLink own index yX7_wax ∈ AllW) (zR : 1 + 1 ≤ R.frames ∧ 8 + (4 + 11) + 22 ≤ R.locals) (zs : ls.size = nL) (zt : st0 = ([.int x, .int w] : List Value).reverse ++ .ref (b 0) :: rest) (z8 : (rest.map fun v => v.category).sum ≤ 8) (zd : decode cc pc = .ok (.invokevirtual index, 3)) (zf : cells ≤ R.cells ∧ slots ≤ R.slots) (kk0 : ∀ (wx2 : Nat → Int32) (H1 : Heap) (locs1 : List Loc), (CG E.2.1 G (waxS r x w) pN tN aN wx2 pp tp ap) → WW E (wK b E.2.1 tl pd qt qr tbu wst asw pN tN aN (hdC ((waxS r x w) 3)) ((waxS r x w) 4) ((waxS r x w) 5) ((waxS r x w) 6) ((waxS r x w) 7) wx2 pp tp ap sg uh ud up ur us ux) G H1 → va_S F H0 H1 locs1 → W p l e R s m args below meth c H1 locs1 cells slots Q (F0 m (pc + 3) ls (.int (waxR r x w) :: rest))) : W p l e R s m args below meth c H locs cells slots Q (F0 m pc ls st0) := by
  refine z_callVw cx vm_X7_wax (c_X7_wax l E b tl pd qt qr tbu wst asw pN tN aN wx pp tp ap sg uh ud up ur us ux G x w r hG) (z_rec cx.2 (hW.at 0 rfl) rfl) hW hS zF zl ⟨rfl, rfl⟩ zR rfl zs zt z8 zd zf (fun v H1 locs1 hq hS1 _ => ?_)
  rcases hq with ⟨wx2, rfl, hG2, hW1⟩
  · exact kk0 wx2 H1 locs1 hG2 hW1 hS1
theorem vm_X7_hand : zVm yX7_hand cX7_hand 3 (some FieldType.int) 1 := ⟨m_co_X7_hand, m_in_RX7, ⟨m_im_X7_hand, m_se_X7_X7_hand⟩, by decide +kernel, by decide +kernel, by decide +kernel⟩
set_option maxHeartbeats 1000000 in
set_option maxRecDepth 100000 in
theorem c_X7_hand (l : Launch) (E : zE) (b : Nat → Nat) (tl : va_W) (pd : Bool) (qt : Nat → Option Nat) (qr : Nat → Option Nat) (tbu : Nat → Int32) (wst : Nat → Int32) (asw : Nat → Int32) (pN : Int32) (tN : Int32) (aN : Int32) (wx : Nat → Int32) (pp : Nat → Option Nat) (tp : Nat → Option Nat) (ap : Nat → Option Nat) (sg : Nat → Int32) (uh : Int32) (ud : Int32) (up : Int32) (ur : Int32) (us : Int32) (ux : Nat → Int32) (G : zG) (x : Int32) (r : Nat → Int32) (hG : CG E.2.1 G r pN tN aN wx pp tp ap) : Met l yX7_hand (.code yX7_hand cX7_hand 3 (some FieldType.int) :: AllW) (rm0' 1 21) (zP E (fun H => WW E (wK b E.2.1 tl pd qt qr tbu wst asw pN tN aN (hdC (r 3)) (r 4) (r 5) (r 6) (r 7) wx pp tp ap sg uh ud up ur us ux) G H) [.ref (b 0), .int x]) (zQ (fun (_ : Heap) (v : Option Value) (H1 : Heap) => (v = some (.int (handR r x)) ∧ (CG E.2.1 G (handS r x) pN tN aN wx pp tp ap) ∧ WW E (wK b E.2.1 tl pd qt qr tbu wst asw pN tN aN (hdC ((handS r x) 3)) ((handS r x) 4) ((handS r x) 5) ((handS r x) 6) ((handS r x) 7) wx pp tp ap sg uh ud up ur us ux) G H1)) (bF b)) 0 0 (bF b) := by
  refine z_body (own := RX7) (by decide) rfl rfl ?_
  intro p e s m args below meth c ls cx hr hlk hnm hW hl
  have hx := cx.x
  have hb := cx.b
  have hl : lv_has ls 3 [(0, .ref (b 0)), (1, .int x)] := hl
  have hFb : ∀ k, (bF b) (b k) := fun k => bF_in b k
  have hS : va_S (bF b) s.heap s.heap [] := va_S.rf
  have hG0 := hG
  obtain ⟨hI, hpN, htN, haN, hPc, hTh, hAk, hwx⟩ := hG
  have hC := hI.1
  have hIS := hI.2.1
  have hP := hI.2.2.1
  have hT := hI.2.2.2.1
  have hP10 := (Inv.n0 hC).2
  have hT7 := (Inv.n1 hC).2
  have hA24 := (Inv.n2 hC).2
  have e0 := (Inv.n0 hC).1
  have e1 := (Inv.n1 hC).1
  have e2 := (Inv.n2 hC).1
  have hm4 := hd_m4 hC hIS
  refine lv_iload_n (pc := 0) hx hb dX7_hand_0 rfl (lv_at hl 1 rfl) ?_
  refine lv_iconst (pc := 1) (v := (-1)) hx hb dX7_hand_1 (by decide) ?_
  refine lv_icmp_eq (pc := 2) (tgt := 19) hx hb dX7_hand_2 (by decide) (fun c_1 => ?_) (fun c_1 => ?_)
  · skip
    obtain rfl : x = -1 := c_1
    have hhs : handS r (-1) = upd r 3 (-4) := by unfold handS; rw [if_pos rfl]
    have hhd : hdC (upd r 3 (-4) 3) = -1 := rfl
    have hGn := CG_set hG0 (k := 3) (by decide) (by decide) (Inv_hand hI (v := -4) (Or.inl rfl))
    refine lv_aload_n (pc := 19) hx hb dX7_hand_19 rfl (lv_at hl 0 rfl) ?_
    refine z_get (pc := 20) cx (hW.at 0 rfl) (C := RX7) (T := TX7) (N := 11) rfl i_X7 0 rfl m_fl_X7_10 rfl dX7_hand_20 ?_
    refine z_get (pc := 23) cx (hW.at 6 rfl) (C := RX1) (T := TX1) (N := 8) rfl i_X1 3 rfl m_fl_X7_117 rfl dX7_hand_23 ?_
    refine z_get (pc := 26) cx (hW.at 7 rfl) (C := RX5) (T := TX5) (N := 6) rfl i_X5 0 rfl m_fl_X7_126 rfl dX7_hand_26 ?_
    refine lv_istore_n (pc := 29) (lv' := [(2, .int (hdC (r 3))), (0, .ref (b 0)), (1, .int (-1))]) hx hb dX7_hand_29 rfl hl (by decide) rfl (fun ls hl => ?_)
    refine lv_aload_n (pc := 30) hx hb dX7_hand_30 rfl (lv_at hl 1 rfl) ?_
    refine z_get (pc := 31) cx (hW.at 0 rfl) (C := RX7) (T := TX7) (N := 11) rfl i_X7 0 rfl m_fl_X7_10 rfl dX7_hand_31 ?_
    refine z_get (pc := 34) cx (hW.at 6 rfl) (C := RX1) (T := TX1) (N := 8) rfl i_X1 3 rfl m_fl_X7_117 rfl dX7_hand_34 ?_
    refine lv_iload_n (pc := 37) hx hb dX7_hand_37 rfl (lv_at hl 2 rfl) ?_
    refine z_putK5 (pc := 38) cx hW hS 7 rfl (hFb 7) 0 rfl m_fl_X7_126 rfl rfl dX7_hand_38 (fun H locs hW hS => ?_)
    have hW : WW E (wK b E.2.1 tl pd qt qr tbu wst asw pN tN aN (-1) (r 4) (r 5) (r 6) (r 7) wx pp tp ap sg uh ud up ur us ux) G H := hW
    refine lv_iload_n (pc := 41) hx hb dX7_hand_41 rfl (lv_at hl 0 rfl) ?_
    refine lv_iconst (pc := 42) (v := (-1)) hx hb dX7_hand_42 (by decide) ?_
    refine lv_icmp_ne (pc := 43) (tgt := 51) hx hb dX7_hand_43 (by decide) (fun c_2 => ?_) (fun c_2 => ?_)
    · skip
      have hr3 := hm4.2 c_2
      refine lv_iload_n (pc := 51) hx hb dX7_hand_51 rfl (lv_at hl 0 rfl) ?_
      exact z_wiret cx hr hlk dX7_hand_52 hS ⟨(sI (by first | rfl | (simp [handR, hr3]; done))), (by rw [hhs]; exact hGn), (by rw [show (hdC ((handS r (-1)) 3)) = (-1) from (by rw [hhs]; exact hhd), show ((handS r (-1)) 4) = r 4 from (by rw [hhs]; rfl), show ((handS r (-1)) 5) = r 5 from (by rw [hhs]; rfl), show ((handS r (-1)) 6) = r 6 from (by rw [hhs]; rfl), show ((handS r (-1)) 7) = r 7 from (by rw [hhs]; rfl)]; exact hW)⟩
    · skip
      have hr3 := hm4.1 c_2
      refine lv_bipush (pc := 46) (v := (-4)) hx hb dX7_hand_46 (by decide) ?_
      refine lv_goto (pc := 48) (tgt := 52) hx hb dX7_hand_48 (by decide) ?_
      exact z_wiret cx hr hlk dX7_hand_52 hS ⟨(sI (by first | rfl | (simp [handR, hr3]; done))), (by rw [hhs]; exact hGn), (by rw [show (hdC ((handS r (-1)) 3)) = (-1) from (by rw [hhs]; exact hhd), show ((handS r (-1)) 4) = r 4 from (by rw [hhs]; rfl), show ((handS r (-1)) 5) = r 5 from (by rw [hhs]; rfl), show ((handS r (-1)) 6) = r 6 from (by rw [hhs]; rfl), show ((handS r (-1)) 7) = r 7 from (by rw [hhs]; rfl)]; exact hW)⟩
  · skip
    refine lv_aload_n (pc := 5) hx hb dX7_hand_5 rfl (lv_at hl 0 rfl) ?_
    refine z_get (pc := 6) cx (hW.at 0 rfl) (C := RX7) (T := TX7) (N := 11) rfl i_X7 0 rfl m_fl_X7_10 rfl dX7_hand_6 ?_
    refine lv_iload_n (pc := 9) hx hb dX7_hand_9 rfl (lv_at hl 1 rfl) ?_
    refine k_X1_isPiece (pc := 10) (x := x) cx hW (by first | assumption | omega) (by first | assumption | omega) m_ml_X7_155 ⟨Nat.le_of_ble_eq_true rfl, Nat.le_of_ble_eq_true rfl⟩ hl.1 rfl (by simp [Value.category]) dX7_hand_10 ⟨Nat.le_refl _, Nat.le_refl _⟩ ?_
    refine z_ifne (pc := 13) (tgt := 19) hx hb dX7_hand_13 (by decide) (fun c_3 => ?_) (fun c_3 => ?_)
    · skip
      obtain ⟨n, hn, rfl⟩ := pc_nat hC c_3
      have hhs : handS r (nI n) = upd r 3 (nI n) := by unfold handS; rw [if_neg (by assumption), if_pos c_3]
      have hhd : hdC (upd r 3 (nI n) 3) = nI n := (congrArg hdC (upd_self _ _ _)).trans (hd_nI (by omega))
      have hGn := CG_set hG0 (k := 3) (by decide) (by decide) (Inv_hand hI (v := nI n) (Or.inr ⟨n, hn, rfl⟩))
      refine lv_aload_n (pc := 19) hx hb dX7_hand_19 rfl (lv_at hl 0 rfl) ?_
      refine z_get (pc := 20) cx (hW.at 0 rfl) (C := RX7) (T := TX7) (N := 11) rfl i_X7 0 rfl m_fl_X7_10 rfl dX7_hand_20 ?_
      refine z_get (pc := 23) cx (hW.at 6 rfl) (C := RX1) (T := TX1) (N := 8) rfl i_X1 3 rfl m_fl_X7_117 rfl dX7_hand_23 ?_
      refine z_get (pc := 26) cx (hW.at 7 rfl) (C := RX5) (T := TX5) (N := 6) rfl i_X5 0 rfl m_fl_X7_126 rfl dX7_hand_26 ?_
      refine lv_istore_n (pc := 29) (lv' := [(2, .int (hdC (r 3))), (0, .ref (b 0)), (1, .int (nI n))]) hx hb dX7_hand_29 rfl hl (by decide) rfl (fun ls hl => ?_)
      refine lv_aload_n (pc := 30) hx hb dX7_hand_30 rfl (lv_at hl 1 rfl) ?_
      refine z_get (pc := 31) cx (hW.at 0 rfl) (C := RX7) (T := TX7) (N := 11) rfl i_X7 0 rfl m_fl_X7_10 rfl dX7_hand_31 ?_
      refine z_get (pc := 34) cx (hW.at 6 rfl) (C := RX1) (T := TX1) (N := 8) rfl i_X1 3 rfl m_fl_X7_117 rfl dX7_hand_34 ?_
      refine lv_iload_n (pc := 37) hx hb dX7_hand_37 rfl (lv_at hl 2 rfl) ?_
      refine z_putK5 (pc := 38) cx hW hS 7 rfl (hFb 7) 0 rfl m_fl_X7_126 rfl rfl dX7_hand_38 (fun H locs hW hS => ?_)
      have hW : WW E (wK b E.2.1 tl pd qt qr tbu wst asw pN tN aN (nI n) (r 4) (r 5) (r 6) (r 7) wx pp tp ap sg uh ud up ur us ux) G H := hW
      refine lv_iload_n (pc := 41) hx hb dX7_hand_41 rfl (lv_at hl 0 rfl) ?_
      refine lv_iconst (pc := 42) (v := (-1)) hx hb dX7_hand_42 (by decide) ?_
      refine lv_icmp_ne (pc := 43) (tgt := 51) hx hb dX7_hand_43 (by decide) (fun c_4 => ?_) (fun c_4 => ?_)
      · skip
        have hr3 := hm4.2 c_4
        refine lv_iload_n (pc := 51) hx hb dX7_hand_51 rfl (lv_at hl 0 rfl) ?_
        exact z_wiret cx hr hlk dX7_hand_52 hS ⟨(sI (by first | rfl | (simp [handR, c_1, c_3, hr3]; done))), (by rw [hhs]; exact hGn), (by rw [show (hdC ((handS r (nI n)) 3)) = nI n from (by rw [hhs]; exact hhd), show ((handS r (nI n)) 4) = r 4 from (by rw [hhs]; rfl), show ((handS r (nI n)) 5) = r 5 from (by rw [hhs]; rfl), show ((handS r (nI n)) 6) = r 6 from (by rw [hhs]; rfl), show ((handS r (nI n)) 7) = r 7 from (by rw [hhs]; rfl)]; exact hW)⟩
      · skip
        have hr3 := hm4.1 c_4
        refine lv_bipush (pc := 46) (v := (-4)) hx hb dX7_hand_46 (by decide) ?_
        refine lv_goto (pc := 48) (tgt := 52) hx hb dX7_hand_48 (by decide) ?_
        exact z_wiret cx hr hlk dX7_hand_52 hS ⟨(sI (by first | rfl | (simp [handR, c_1, c_3, hr3]; done))), (by rw [hhs]; exact hGn), (by rw [show (hdC ((handS r (nI n)) 3)) = nI n from (by rw [hhs]; exact hhd), show ((handS r (nI n)) 4) = r 4 from (by rw [hhs]; rfl), show ((handS r (nI n)) 5) = r 5 from (by rw [hhs]; rfl), show ((handS r (nI n)) 6) = r 6 from (by rw [hhs]; rfl), show ((handS r (nI n)) 7) = r 7 from (by rw [hhs]; rfl)]; exact hW)⟩
    · skip
      have hhs : handS r x = r := by unfold handS; rw [if_neg (by assumption), if_neg (by rw [c_3]; decide)]
      have hGn := hG0
      have hnn := c_3
      refine lv_ldc (pc := 16) (v := (-1000000001)) hx hb cx.own (cx.ts _ m_ko_X7_167) dX7_hand_16 ?_
      exact z_wiret cx hr hlk dX7_hand_18 hS ⟨(sI (by first | rfl | (simp [handR, c_1, c_3, hnn]; done))), (by rw [hhs]; exact hGn), (by rw [show (hdC ((handS r x) 3)) = hdC (r 3) from (by rw [hhs]), show ((handS r x) 4) = r 4 from (by rw [hhs]), show ((handS r x) 5) = r 5 from (by rw [hhs]), show ((handS r x) 6) = r 6 from (by rw [hhs]), show ((handS r x) 7) = r 7 from (by rw [hhs])]; exact hW)⟩
theorem k_X7_hand {p : Program} {l : Launch} {e : Env} {R : Room} {s : State} {m : MethodId} {args : Array Value} {below : List Frame} {meth : Method} {c : Code} {H H0 : Heap} {locs : List Loc} {cells slots : Nat} {Q : State → Prop} {cc : ByteArray} {pc index : Nat} {ls : Array Slot} {rest st0 : List Value} {E : zE} {own : String} {nL : Nat} {F : Nat → Prop} {b : Nat → Nat} {tl : va_W} {pd : Bool} {qt : Nat → Option Nat} {qr : Nat → Option Nat} {tbu : Nat → Int32} {wst : Nat → Int32} {asw : Nat → Int32} {pN : Int32} {tN : Int32} {aN : Int32} {wx : Nat → Int32} {pp : Nat → Option Nat} {tp : Nat → Option Nat} {ap : Nat → Option Nat} {sg : Nat → Int32} {uh : Int32} {ud : Int32} {up : Int32} {ur : Int32} {us : Int32} {ux : Nat → Int32} {G : zG} {x : Int32} {r : Nat → Int32} (cx : Cx E p s args m c own cc nL) (hW : WW E (wK b E.2.1 tl pd qt qr tbu wst asw pN tN aN (hdC (r 3)) (r 4) (r 5) (r 6) (r 7) wx pp tp ap sg uh ud up ur us ux) G H) (hS : va_S F H0 H locs) (zF : ∀ q, (bF b) q → F q) (hG : CG E.2.1 G r pN tN aN wx pp tp ap) (zl : Cond.methodLink own index yX7_hand ∈ AllW) (zR : 1 + 1 ≤ R.frames ∧ 8 + (3 + 11) + 21 ≤ R.locals) (zs : ls.size = nL) (zt : st0 = ([.int x] : List Value).reverse ++ .ref (b 0) :: rest) (z8 : (rest.map fun v => v.category).sum ≤ 8) (zd : decode cc pc = .ok (.invokevirtual index, 3)) (zf : cells ≤ R.cells ∧ slots ≤ R.slots) (kk0 : ∀  (H1 : Heap) (locs1 : List Loc), (CG E.2.1 G (handS r x) pN tN aN wx pp tp ap) → WW E (wK b E.2.1 tl pd qt qr tbu wst asw pN tN aN (hdC ((handS r x) 3)) ((handS r x) 4) ((handS r x) 5) ((handS r x) 6) ((handS r x) 7) wx pp tp ap sg uh ud up ur us ux) G H1 → va_S F H0 H1 locs1 → W p l e R s m args below meth c H1 locs1 cells slots Q (F0 m (pc + 3) ls (.int (handR r x) :: rest))) : W p l e R s m args below meth c H locs cells slots Q (F0 m pc ls st0) := by
  refine z_callVw cx vm_X7_hand (c_X7_hand l E b tl pd qt qr tbu wst asw pN tN aN wx pp tp ap sg uh ud up ur us ux G x r hG) (z_rec cx.2 (hW.at 0 rfl) rfl) hW hS zF zl ⟨rfl, rfl⟩ zR rfl zs zt z8 zd zf (fun v H1 locs1 hq hS1 _ => ?_)
  rcases hq with ⟨rfl, hG2, hW1⟩
  · exact kk0  H1 locs1 hG2 hW1 hS1
theorem vm_X7_harm : zVm yX7_harm cX7_harm 2 (some FieldType.int) 1 := ⟨m_co_X7_harm, m_in_RX7, ⟨m_im_X7_harm, m_se_X7_X7_harm⟩, by decide +kernel, by decide +kernel, by decide +kernel⟩
set_option maxHeartbeats 1000000 in
set_option maxRecDepth 100000 in
theorem c_X7_harm (l : Launch) (E : zE) (b : Nat → Nat) (tl : va_W) (pd : Bool) (qt : Nat → Option Nat) (qr : Nat → Option Nat) (tbu : Nat → Int32) (wst : Nat → Int32) (asw : Nat → Int32) (pN : Int32) (tN : Int32) (aN : Int32) (wx : Nat → Int32) (pp : Nat → Option Nat) (tp : Nat → Option Nat) (ap : Nat → Option Nat) (sg : Nat → Int32) (uh : Int32) (ud : Int32) (up : Int32) (ur : Int32) (us : Int32) (ux : Nat → Int32) (G : zG) (x : Int32) (r : Nat → Int32) (hG : CG E.2.1 G r pN tN aN wx pp tp ap) : Met l yX7_harm (.code yX7_harm cX7_harm 2 (some FieldType.int) :: AllW) (rm0' 4 101) (zP E (fun H => WW E (wK b E.2.1 tl pd qt qr tbu wst asw pN tN aN (hdC (r 3)) (r 4) (r 5) (r 6) (r 7) wx pp tp ap sg uh ud up ur us ux) G H) [.ref (b 0), .int x]) (zQ (fun (_ : Heap) (v : Option Value) (H1 : Heap) => (∃ (uh2 : Int32) (ud2 : Int32) (up2 : Int32) (ur2 : Int32) (us2 : Int32) (ux2 : Nat → Int32), v = some (.int (harmP r x)) ∧ WW E (wK b E.2.1 tl pd qt qr tbu wst asw pN tN aN (hdC (r 3)) (r 4) (r 5) (r 6) (r 7) wx pp tp ap sg uh2 ud2 up2 ur2 us2 ux2) G H1)) (bF b)) 0 0 (bF b) := by
  refine z_body (own := RX7) (by decide) rfl rfl ?_
  intro p e s m args below meth c ls cx hr hlk hnm hW hl
  have hx := cx.x
  have hb := cx.b
  have hl : lv_has ls 2 [(0, .ref (b 0)), (1, .int x)] := hl
  have hFb : ∀ k, (bF b) (b k) := fun k => bF_in b k
  have hS : va_S (bF b) s.heap s.heap [] := va_S.rf
  have hG0 := hG
  obtain ⟨hI, hpN, htN, haN, hPc, hTh, hAk, hwx⟩ := hG
  have hC := hI.1
  have hIS := hI.2.1
  have hP := hI.2.2.1
  have hT := hI.2.2.2.1
  have hP10 := (Inv.n0 hC).2
  have hT7 := (Inv.n1 hC).2
  have hA24 := (Inv.n2 hC).2
  have e0 := (Inv.n0 hC).1
  have e1 := (Inv.n1 hC).1
  have e2 := (Inv.n2 hC).1
  refine lv_iload_n (pc := 0) hx hb dX7_harm_0 rfl (lv_at hl 1 rfl) ?_
  refine lv_iconst (pc := 1) (v := 0) hx hb dX7_harm_1 (by decide) ?_
  refine lv_bipush (pc := 2) (v := 20) hx hb dX7_harm_2 (by decide) ?_
  refine k_X7_isWithin (pc := 4) (x := x) (y := 0) (z := 20) cx  m_ml_X7_159 ⟨Nat.le_of_ble_eq_true rfl, Nat.le_of_ble_eq_true rfl⟩ hl.1 rfl (by simp [Value.category]) dX7_harm_4 ⟨Nat.le_refl _, Nat.le_refl _⟩ ?_
  refine z_ifne (pc := 7) (tgt := 12) hx hb dX7_harm_7 (by decide) (fun c_1 => ?_) (fun c_1 => ?_)
  · skip
    have hx2 := inL_rg c_1
    refine lv_aload_n (pc := 12) hx hb dX7_harm_12 rfl (lv_at hl 0 rfl) ?_
    refine z_get (pc := 13) cx (hW.at 0 rfl) (C := RX7) (T := TX7) (N := 11) rfl i_X7 5 rfl m_fl_X7_32 rfl dX7_harm_13 ?_
    refine lv_aload_n (pc := 16) hx hb dX7_harm_16 rfl (lv_at hl 0 rfl) ?_
    refine z_get (pc := 17) cx (hW.at 0 rfl) (C := RX7) (T := TX7) (N := 11) rfl i_X7 0 rfl m_fl_X7_10 rfl dX7_harm_17 ?_
    refine z_get (pc := 20) cx (hW.at 6 rfl) (C := RX1) (T := TX1) (N := 8) rfl i_X1 3 rfl m_fl_X7_117 rfl dX7_harm_20 ?_
    refine k_X5_become_s (pc := 23)  cx hW hS (fun _ h => h)  m_ml_X7_310 ⟨Nat.le_of_ble_eq_true rfl, Nat.le_of_ble_eq_true rfl⟩ hl.1 rfl (by simp [Value.category]) dX7_harm_23 ⟨Nat.le_refl _, Nat.le_refl _⟩ (fun  H locs  hW hS => ?_)
    have hW : WW E (wK b E.2.1 tl pd qt qr tbu wst asw pN tN aN (hdC (r 3)) (r 4) (r 5) (r 6) (r 7) wx pp tp ap sg (hdC (r 3)) (r 4) (r 5) (r 6) (r 7) wx) G H := hW
    refine lv_aload_n (pc := 26) hx hb dX7_harm_26 rfl (lv_at hl 0 rfl) ?_
    refine z_get (pc := 27) cx (hW.at 0 rfl) (C := RX7) (T := TX7) (N := 11) rfl i_X7 5 rfl m_fl_X7_32 rfl dX7_harm_27 ?_
    refine lv_bipush (pc := 30) (v := 20) hx hb dX7_harm_30 (by decide) ?_
    refine lv_aload_n (pc := 32) hx hb dX7_harm_32 rfl (lv_at hl 0 rfl) ?_
    refine z_get (pc := 33) cx (hW.at 0 rfl) (C := RX7) (T := TX7) (N := 11) rfl i_X7 0 rfl m_fl_X7_10 rfl dX7_harm_33 ?_
    refine z_get (pc := 36) cx (hW.at 6 rfl) (C := RX1) (T := TX1) (N := 8) rfl i_X1 3 rfl m_fl_X7_117 rfl dX7_harm_36 ?_
    refine z_get (pc := 39) cx (hW.at 7 rfl) (C := RX5) (T := TX5) (N := 6) rfl i_X5 1 rfl m_fl_X7_321 rfl dX7_harm_39 ?_
    refine lv_iload_n (pc := 42) hx hb dX7_harm_42 rfl (lv_at hl 1 rfl) ?_
    refine lv_iadd (pc := 43) hx hb dX7_harm_43 ?_
    refine z_mmin (pc := 44) cx hl.1 m_ml_X7_250 ⟨Nat.le_of_ble_eq_true rfl, Nat.le_of_ble_eq_true rfl⟩ (by simp [Value.category]) ⟨Nat.le_refl _, Nat.le_refl _⟩ dX7_harm_44 ?_
    refine z_tope (y := dryL r x) (mnJ_dry r x) ?_
    refine z_putK5 (pc := 47) cx hW hS 13 rfl (hFb 13) 1 rfl m_fl_X7_321 rfl rfl dX7_harm_47 (fun H locs hW hS => ?_)
    have hW : WW E (wK b E.2.1 tl pd qt qr tbu wst asw pN tN aN (hdC (r 3)) (r 4) (r 5) (r 6) (r 7) wx pp tp ap sg (hdC (r 3)) (dryL r x) (r 5) (r 6) (r 7) wx) G H := hW
    have hI2 := Inv_dry hI (dry_rg hIS hx2)
    have hSm := Sm.upd_s (r := r) (k := 4) (v := dryL r x) (by decide) (by decide)
    refine lv_aload_n (pc := 50) hx hb dX7_harm_50 rfl (lv_at hl 0 rfl) ?_
    refine z_get (pc := 51) cx (hW.at 0 rfl) (C := RX7) (T := TX7) (N := 11) rfl i_X7 0 rfl m_fl_X7_10 rfl dX7_harm_51 ?_
    refine lv_aload_n (pc := 54) hx hb dX7_harm_54 rfl (lv_at hl 0 rfl) ?_
    refine z_get (pc := 55) cx (hW.at 0 rfl) (C := RX7) (T := TX7) (N := 11) rfl i_X7 0 rfl m_fl_X7_10 rfl dX7_harm_55 ?_
    refine z_get (pc := 58) cx (hW.at 6 rfl) (C := RX1) (T := TX1) (N := 8) rfl i_X1 3 rfl m_fl_X7_117 rfl dX7_harm_58 ?_
    refine k_X1_seamStrikes (pc := 61) (t := b 7) (w := b 8) (xw := wx) cx hW hI hpN htN hPc hTh (fun _ _ h => ⟨h.at 7 rfl, h.at 8 rfl, hwx⟩) m_ml_X7_324 ⟨Nat.le_of_ble_eq_true rfl, Nat.le_of_ble_eq_true rfl⟩ hl.1 rfl (by simp [Value.category]) dX7_harm_61 ⟨Nat.le_refl _, Nat.le_refl _⟩ ?_
    refine lv_aload_n (pc := 64) hx hb dX7_harm_64 rfl (lv_at hl 0 rfl) ?_
    refine z_get (pc := 65) cx (hW.at 0 rfl) (C := RX7) (T := TX7) (N := 11) rfl i_X7 0 rfl m_fl_X7_10 rfl dX7_harm_65 ?_
    refine lv_aload_n (pc := 68) hx hb dX7_harm_68 rfl (lv_at hl 0 rfl) ?_
    refine z_get (pc := 69) cx (hW.at 0 rfl) (C := RX7) (T := TX7) (N := 11) rfl i_X7 5 rfl m_fl_X7_32 rfl dX7_harm_69 ?_
    refine k_X1_seamStrikes (pc := 72) (t := b 13) (w := b 14) (xw := wx) (r := upd r 4 (dryL r x)) cx hW hI2 hpN htN (sm_PcG hSm hPc) (sm_ThG hSm hTh) (fun _ _ h => ⟨h.at 13 rfl, h.at 14 rfl, fun n hn => (hwx n hn).trans (g65_s (by decide)).symm⟩) m_ml_X7_324 ⟨Nat.le_of_ble_eq_true rfl, Nat.le_of_ble_eq_true rfl⟩ hl.1 rfl (by simp [Value.category]) dX7_harm_72 ⟨Nat.le_refl _, Nat.le_refl _⟩ ?_
    refine lv_isub (pc := 75) hx hb dX7_harm_75 ?_
    refine z_tope (y := hmN r x (nT r)) (hm_eq r x (nT r)) ?_
    exact z_wiret cx hr hlk dX7_harm_76 hS ⟨_, _, _, _, _, _, (sI (by first | rfl | (simp [harmP, c_1]; done))), hW⟩
  · skip
    refine lv_iconst (pc := 10) (v := (-1)) hx hb dX7_harm_10 (by decide) ?_
    exact z_wiret cx hr hlk dX7_harm_11 hS ⟨_, _, _, _, _, _, (sI (by first | rfl | (simp [harmP, c_1]; done))), hW⟩
theorem k_X7_harm {p : Program} {l : Launch} {e : Env} {R : Room} {s : State} {m : MethodId} {args : Array Value} {below : List Frame} {meth : Method} {c : Code} {H H0 : Heap} {locs : List Loc} {cells slots : Nat} {Q : State → Prop} {cc : ByteArray} {pc index : Nat} {ls : Array Slot} {rest st0 : List Value} {E : zE} {own : String} {nL : Nat} {F : Nat → Prop} {b : Nat → Nat} {tl : va_W} {pd : Bool} {qt : Nat → Option Nat} {qr : Nat → Option Nat} {tbu : Nat → Int32} {wst : Nat → Int32} {asw : Nat → Int32} {pN : Int32} {tN : Int32} {aN : Int32} {wx : Nat → Int32} {pp : Nat → Option Nat} {tp : Nat → Option Nat} {ap : Nat → Option Nat} {sg : Nat → Int32} {uh : Int32} {ud : Int32} {up : Int32} {ur : Int32} {us : Int32} {ux : Nat → Int32} {G : zG} {x : Int32} {r : Nat → Int32} (cx : Cx E p s args m c own cc nL) (hW : WW E (wK b E.2.1 tl pd qt qr tbu wst asw pN tN aN (hdC (r 3)) (r 4) (r 5) (r 6) (r 7) wx pp tp ap sg uh ud up ur us ux) G H) (hS : va_S F H0 H locs) (zF : ∀ q, (bF b) q → F q) (hG : CG E.2.1 G r pN tN aN wx pp tp ap) (zl : Cond.methodLink own index yX7_harm ∈ AllW) (zR : 4 + 1 ≤ R.frames ∧ 8 + (2 + 11) + 101 ≤ R.locals) (zs : ls.size = nL) (zt : st0 = ([.int x] : List Value).reverse ++ .ref (b 0) :: rest) (z8 : (rest.map fun v => v.category).sum ≤ 8) (zd : decode cc pc = .ok (.invokevirtual index, 3)) (zf : cells ≤ R.cells ∧ slots ≤ R.slots) (kk0 : ∀ (uh2 : Int32) (ud2 : Int32) (up2 : Int32) (ur2 : Int32) (us2 : Int32) (ux2 : Nat → Int32) (H1 : Heap) (locs1 : List Loc), WW E (wK b E.2.1 tl pd qt qr tbu wst asw pN tN aN (hdC (r 3)) (r 4) (r 5) (r 6) (r 7) wx pp tp ap sg uh2 ud2 up2 ur2 us2 ux2) G H1 → va_S F H0 H1 locs1 → W p l e R s m args below meth c H1 locs1 cells slots Q (F0 m (pc + 3) ls (.int (harmP r x) :: rest))) : W p l e R s m args below meth c H locs cells slots Q (F0 m pc ls st0) := by
  refine z_callVw cx vm_X7_harm (c_X7_harm l E b tl pd qt qr tbu wst asw pN tN aN wx pp tp ap sg uh ud up ur us ux G x r hG) (z_rec cx.2 (hW.at 0 rfl) rfl) hW hS zF zl ⟨rfl, rfl⟩ zR rfl zs zt z8 zd zf (fun v H1 locs1 hq hS1 _ => ?_)
  rcases hq with ⟨uh2, ud2, up2, ur2, us2, ux2, rfl, hW1⟩
  · exact kk0 uh2 ud2 up2 ur2 us2 ux2 H1 locs1  hW1 hS1
theorem vm_X7_hair : zVm yX7_hair cX7_hair 6 (some FieldType.int) 4 := ⟨m_co_X7_hair, m_in_RX7, ⟨m_im_X7_hair, m_se_X7_X7_hair⟩, by decide +kernel, by decide +kernel, by decide +kernel⟩
set_option maxHeartbeats 1000000 in
set_option maxRecDepth 100000 in
theorem c_X7_hair (l : Launch) (E : zE) (b : Nat → Nat) (tl : va_W) (pd : Bool) (qt : Nat → Option Nat) (qr : Nat → Option Nat) (tbu : Nat → Int32) (wst : Nat → Int32) (asw : Nat → Int32) (pN : Int32) (tN : Int32) (aN : Int32) (wx : Nat → Int32) (pp : Nat → Option Nat) (tp : Nat → Option Nat) (ap : Nat → Option Nat) (sg : Nat → Int32) (uh : Int32) (ud : Int32) (up : Int32) (ur : Int32) (us : Int32) (ux : Nat → Int32) (G : zG) (x f st d : Int32) (r : Nat → Int32) (hG : CG E.2.1 G r pN tN aN wx pp tp ap) : Met l yX7_hair (.code yX7_hair cX7_hair 6 (some FieldType.int) :: AllW) (rm0' 3 101) (zP E (fun H => WW E (wK b E.2.1 tl pd qt qr tbu wst asw pN tN aN (hdC (r 3)) (r 4) (r 5) (r 6) (r 7) wx pp tp ap sg uh ud up ur us ux) G H) [.ref (b 0), .int x, .int f, .int st, .int d]) (zQ (fun (_ : Heap) (v : Option Value) (H1 : Heap) => (∃ (uh2 : Int32) (ud2 : Int32) (up2 : Int32) (ur2 : Int32) (us2 : Int32) (ux2 : Nat → Int32) (sg2 : Nat → Int32), v = some (.int (hairP r x f st d)) ∧ WW E (wK b E.2.1 tl pd qt qr tbu wst asw pN tN aN (hdC (r 3)) (r 4) (r 5) (r 6) (r 7) wx pp tp ap sg2 uh2 ud2 up2 ur2 us2 ux2) G H1)) (bF b)) 0 0 (bF b) := by
  refine z_body (own := RX7) (by decide) rfl rfl ?_
  intro p e s m args below meth c ls cx hr hlk hnm hW hl
  have hx := cx.x
  have hb := cx.b
  have hl : lv_has ls 6 [(0, .ref (b 0)), (1, .int x), (2, .int f), (3, .int st), (4, .int d)] := hl
  have hFb : ∀ k, (bF b) (b k) := fun k => bF_in b k
  have hS : va_S (bF b) s.heap s.heap [] := va_S.rf
  have hG0 := hG
  obtain ⟨hI, hpN, htN, haN, hPc, hTh, hAk, hwx⟩ := hG
  have hC := hI.1
  have hIS := hI.2.1
  have hP := hI.2.2.1
  have hT := hI.2.2.2.1
  have hP10 := (Inv.n0 hC).2
  have hT7 := (Inv.n1 hC).2
  have hA24 := (Inv.n2 hC).2
  have e0 := (Inv.n0 hC).1
  have e1 := (Inv.n1 hC).1
  have e2 := (Inv.n2 hC).1
  refine lv_aload_n (pc := 0) hx hb dX7_hair_0 rfl (lv_at hl 0 rfl) ?_
  refine z_get (pc := 1) cx (hW.at 0 rfl) (C := RX7) (T := TX7) (N := 11) rfl i_X7 0 rfl m_fl_X7_10 rfl dX7_hair_1 ?_
  refine lv_iload_n (pc := 4) hx hb dX7_hair_4 rfl (lv_at hl 1 rfl) ?_
  refine k_X1_isPiece (pc := 5) (x := x) cx hW (by first | assumption | omega) (by first | assumption | omega) m_ml_X7_155 ⟨Nat.le_of_ble_eq_true rfl, Nat.le_of_ble_eq_true rfl⟩ hl.1 rfl (by simp [Value.category]) dX7_hair_5 ⟨Nat.le_refl _, Nat.le_refl _⟩ ?_
  refine z_ifeq (pc := 8) (tgt := 31) hx hb dX7_hair_8 (by decide) (fun c_1 => ?_) (fun c_1 => ?_)
  · skip
    refine lv_ldc (pc := 31) (v := (-1000000001)) hx hb cx.own (cx.ts _ m_ko_X7_167) dX7_hair_31 ?_
    exact z_wiret cx hr hlk dX7_hair_33 hS ⟨_, _, _, _, _, _, _, (sI (by first | rfl | (simp [hairP, hairV, c_1]; done))), hW⟩
  · skip
    obtain ⟨n, hn, rfl⟩ := pc_nat hC c_1
    have hN := iN_nI (n := n) (by omega)
    refine lv_iload_n (pc := 11) hx hb dX7_hair_11 rfl (lv_at hl 2 rfl) ?_
    refine lv_iload_n (pc := 12) hx hb dX7_hair_12 rfl (lv_at hl 3 rfl) ?_
    refine k_X7_isBowed (pc := 13) (x := f) (y := st) cx  m_ml_X7_175 ⟨Nat.le_of_ble_eq_true rfl, Nat.le_of_ble_eq_true rfl⟩ hl.1 rfl (by simp [Value.category]) dX7_hair_13 ⟨Nat.le_refl _, Nat.le_refl _⟩ ?_
    refine z_ifeq (pc := 16) (tgt := 31) hx hb dX7_hair_16 (by decide) (fun c_2 => ?_) (fun c_2 => ?_)
    · skip
      have hb3 := and_f3 c_2
      refine lv_ldc (pc := 31) (v := (-1000000001)) hx hb cx.own (cx.ts _ m_ko_X7_167) dX7_hair_31 ?_
      exact z_wiret cx hr hlk dX7_hair_33 hS ⟨_, _, _, _, _, _, _, (sI (by first | rfl | (simp [hairP, hairV, c_1, hN, hb3]; done))), hW⟩
    · skip
      obtain ⟨hf1, hs1⟩ := and_t c_2
      have hf := tone_rg hf1
      refine lv_iload (pc := 19) hx hb dX7_hair_19 (lv_at hl 4 rfl) ?_
      refine lv_bipush (pc := 21) (v := (-18)) hx hb dX7_hair_21 (by decide) ?_
      refine lv_bipush (pc := 23) (v := 18) hx hb dX7_hair_23 (by decide) ?_
      refine k_X7_isWithin (pc := 25) (x := d) (y := (-18)) (z := 18) cx  m_ml_X7_159 ⟨Nat.le_of_ble_eq_true rfl, Nat.le_of_ble_eq_true rfl⟩ hl.1 rfl (by simp [Value.category]) dX7_hair_25 ⟨Nat.le_refl _, Nat.le_refl _⟩ ?_
      refine z_ifne (pc := 28) (tgt := 34) hx hb dX7_hair_28 (by decide) (fun c_3 => ?_) (fun c_3 => ?_)
      · skip
        refine lv_aload_n (pc := 34) hx hb dX7_hair_34 rfl (lv_at hl 0 rfl) ?_
        refine z_get (pc := 35) cx (hW.at 0 rfl) (C := RX7) (T := TX7) (N := 11) rfl i_X7 0 rfl m_fl_X7_10 rfl dX7_hair_35 ?_
        refine z_get (pc := 38) cx (hW.at 6 rfl) (C := RX1) (T := TX1) (N := 8) rfl i_X1 3 rfl m_fl_X7_117 rfl dX7_hair_38 ?_
        refine z_get (pc := 41) cx (hW.at 7 rfl) (C := RX5) (T := TX5) (N := 6) rfl i_X5 4 rfl m_fl_X7_327 rfl dX7_hair_41 ?_
        refine lv_iload (pc := 44) hx hb dX7_hair_44 (lv_at hl 4 rfl) ?_
        refine lv_iadd (pc := 46) hx hb dX7_hair_46 ?_
        refine lv_istore (pc := 47) (lv' := [(5, .int ((r 7) + d)), (0, .ref (b 0)), (1, .int (nI n)), (2, .int f), (3, .int st), (4, .int d)]) hx hb dX7_hair_47 hl (by decide) rfl (fun ls hl => ?_)
        refine lv_iload (pc := 49) hx hb dX7_hair_49 (lv_at hl 0 rfl) ?_
        refine lv_bipush (pc := 51) (v := (-9)) hx hb dX7_hair_51 (by decide) ?_
        refine lv_bipush (pc := 53) (v := 9) hx hb dX7_hair_53 (by decide) ?_
        refine k_X7_isWithin (pc := 55) (x := (r 7) + d) (y := (-9)) (z := 9) cx  m_ml_X7_159 ⟨Nat.le_of_ble_eq_true rfl, Nat.le_of_ble_eq_true rfl⟩ hl.1 rfl (by simp [Value.category]) dX7_hair_55 ⟨Nat.le_refl _, Nat.le_refl _⟩ ?_
        refine z_ifne (pc := 58) (tgt := 65) hx hb dX7_hair_58 (by decide) (fun c_4 => ?_) (fun c_4 => ?_)
        · skip
          have hp9 := inL_rg c_4
          have hI2 := Inv_post hI hp9
          have hSm := Sm.upd_s (r := r) (k := 7) (v := r 7 + d) (by decide) (by decide)
          refine lv_aload_n (pc := 65) hx hb dX7_hair_65 rfl (lv_at hl 1 rfl) ?_
          refine z_get (pc := 66) cx (hW.at 0 rfl) (C := RX7) (T := TX7) (N := 11) rfl i_X7 5 rfl m_fl_X7_32 rfl dX7_hair_66 ?_
          refine lv_aload_n (pc := 69) hx hb dX7_hair_69 rfl (lv_at hl 1 rfl) ?_
          refine z_get (pc := 70) cx (hW.at 0 rfl) (C := RX7) (T := TX7) (N := 11) rfl i_X7 0 rfl m_fl_X7_10 rfl dX7_hair_70 ?_
          refine z_get (pc := 73) cx (hW.at 6 rfl) (C := RX1) (T := TX1) (N := 8) rfl i_X1 3 rfl m_fl_X7_117 rfl dX7_hair_73 ?_
          refine k_X5_become_s (pc := 76)  cx hW hS (fun _ h => h)  m_ml_X7_310 ⟨Nat.le_of_ble_eq_true rfl, Nat.le_of_ble_eq_true rfl⟩ hl.1 rfl (by simp [Value.category]) dX7_hair_76 ⟨Nat.le_refl _, Nat.le_refl _⟩ (fun  H locs  hW hS => ?_)
          have hW : WW E (wK b E.2.1 tl pd qt qr tbu wst asw pN tN aN (hdC (r 3)) (r 4) (r 5) (r 6) (r 7) wx pp tp ap sg (hdC (r 3)) (r 4) (r 5) (r 6) (r 7) wx) G H := hW
          refine lv_aload_n (pc := 79) hx hb dX7_hair_79 rfl (lv_at hl 1 rfl) ?_
          refine z_get (pc := 80) cx (hW.at 0 rfl) (C := RX7) (T := TX7) (N := 11) rfl i_X7 5 rfl m_fl_X7_32 rfl dX7_hair_80 ?_
          refine lv_iload (pc := 83) hx hb dX7_hair_83 (lv_at hl 0 rfl) ?_
          refine z_putK5 (pc := 85) cx hW hS 13 rfl (hFb 13) 4 rfl m_fl_X7_327 rfl rfl dX7_hair_85 (fun H locs hW hS => ?_)
          have hW : WW E (wK b E.2.1 tl pd qt qr tbu wst asw pN tN aN (hdC (r 3)) (r 4) (r 5) (r 6) (r 7) wx pp tp ap sg (hdC (r 3)) (r 4) (r 5) (r 6) ((r 7) + d) wx) G H := hW
          refine lv_aload_n (pc := 88) hx hb dX7_hair_88 rfl (lv_at hl 1 rfl) ?_
          refine z_get (pc := 89) cx (hW.at 0 rfl) (C := RX7) (T := TX7) (N := 11) rfl i_X7 0 rfl m_fl_X7_10 rfl dX7_hair_89 ?_
          refine lv_iload_n (pc := 92) hx hb dX7_hair_92 rfl (lv_at hl 2 rfl) ?_
          refine lv_aload_n (pc := 93) hx hb dX7_hair_93 rfl (lv_at hl 1 rfl) ?_
          refine z_get (pc := 94) cx (hW.at 0 rfl) (C := RX7) (T := TX7) (N := 11) rfl i_X7 5 rfl m_fl_X7_32 rfl dX7_hair_94 ?_
          refine lv_iload_n (pc := 97) hx hb dX7_hair_97 rfl (lv_at hl 3 rfl) ?_
          refine lv_iload_n (pc := 98) hx hb dX7_hair_98 rfl (lv_at hl 4 rfl) ?_
          refine k_X1_swingOf (pc := 99) (t := b 13) (f := f) (st := st) (w := b 14) (xw := wx) (r := upd r 7 (r 7 + d)) (n := n) cx hW hS (fun _ h => h) hI2 hpN (sm_PcG hSm hPc) hn (rg_w hf (by decide) (by decide)) (fun _ _ h => ⟨h.at 13 rfl, h.at 14 rfl, fun n hn => (hwx n hn).trans (g65_s (by decide)).symm⟩) m_ml_X7_178 ⟨Nat.le_of_ble_eq_true rfl, Nat.le_of_ble_eq_true rfl⟩ hl.1 rfl (by simp [Value.category]) dX7_hair_99 ⟨Nat.le_refl _, Nat.le_refl _⟩ (fun sg2_99 H locs hf2_99 hW hS => ?_)
          have hW : WW E (wK b E.2.1 tl pd qt qr tbu wst asw pN tN aN (hdC (r 3)) (r 4) (r 5) (r 6) (r 7) wx pp tp ap sg2_99 (hdC (r 3)) (r 4) (r 5) (r 6) ((r 7) + d) wx) G H := hW
          refine lv_aload_n (pc := 102) hx hb dX7_hair_102 rfl (lv_at hl 1 rfl) ?_
          refine z_get (pc := 103) cx (hW.at 0 rfl) (C := RX7) (T := TX7) (N := 11) rfl i_X7 0 rfl m_fl_X7_10 rfl dX7_hair_103 ?_
          refine lv_iload_n (pc := 106) hx hb dX7_hair_106 rfl (lv_at hl 2 rfl) ?_
          refine lv_aload_n (pc := 107) hx hb dX7_hair_107 rfl (lv_at hl 1 rfl) ?_
          refine z_get (pc := 108) cx (hW.at 0 rfl) (C := RX7) (T := TX7) (N := 11) rfl i_X7 0 rfl m_fl_X7_10 rfl dX7_hair_108 ?_
          refine z_get (pc := 111) cx (hW.at 6 rfl) (C := RX1) (T := TX1) (N := 8) rfl i_X1 3 rfl m_fl_X7_117 rfl dX7_hair_111 ?_
          refine lv_iload_n (pc := 114) hx hb dX7_hair_114 rfl (lv_at hl 3 rfl) ?_
          refine lv_iload_n (pc := 115) hx hb dX7_hair_115 rfl (lv_at hl 4 rfl) ?_
          refine k_X1_swingOf (pc := 116) (t := b 7) (f := f) (st := st) (w := b 8) (xw := wx) (n := n) cx hW hS (fun _ h => h) hI hpN hPc hn (rg_w hf (by decide) (by decide)) (fun _ _ h => ⟨h.at 7 rfl, h.at 8 rfl, hwx⟩) m_ml_X7_178 ⟨Nat.le_of_ble_eq_true rfl, Nat.le_of_ble_eq_true rfl⟩ hl.1 rfl (by simp [Value.category]) dX7_hair_116 ⟨Nat.le_refl _, Nat.le_refl _⟩ (fun sg2_116 H locs hf2_116 hW hS => ?_)
          have hW : WW E (wK b E.2.1 tl pd qt qr tbu wst asw pN tN aN (hdC (r 3)) (r 4) (r 5) (r 6) (r 7) wx pp tp ap sg2_116 (hdC (r 3)) (r 4) (r 5) (r 6) ((r 7) + d) wx) G H := hW
          refine lv_isub (pc := 119) hx hb dX7_hair_119 ?_
          exact z_wiret cx hr hlk dX7_hair_120 hS ⟨_, _, _, _, _, _, _, (sI (by first | rfl | (simp [hairP, hairV, c_1, hN, hf1, hs1, c_3, c_4, hf2_99, hf2_116]; done))), hW⟩
        · skip
          refine lv_ldcw (pc := 61) (v := (-1000000003)) hx hb cx.own (cx.ts _ m_ko_X7_330) dX7_hair_61 ?_
          exact z_wiret cx hr hlk dX7_hair_64 hS ⟨_, _, _, _, _, _, _, (sI (by first | rfl | (simp [hairP, hairV, c_1, hN, hf1, hs1, c_3, c_4]; done))), hW⟩
      · skip
        refine lv_ldc (pc := 31) (v := (-1000000001)) hx hb cx.own (cx.ts _ m_ko_X7_167) dX7_hair_31 ?_
        exact z_wiret cx hr hlk dX7_hair_33 hS ⟨_, _, _, _, _, _, _, (sI (by first | rfl | (simp [hairP, hairV, c_1, hN, hf1, hs1, c_3]; done))), hW⟩
theorem k_X7_hair {p : Program} {l : Launch} {e : Env} {R : Room} {s : State} {m : MethodId} {args : Array Value} {below : List Frame} {meth : Method} {c : Code} {H H0 : Heap} {locs : List Loc} {cells slots : Nat} {Q : State → Prop} {cc : ByteArray} {pc index : Nat} {ls : Array Slot} {rest st0 : List Value} {E : zE} {own : String} {nL : Nat} {F : Nat → Prop} {b : Nat → Nat} {tl : va_W} {pd : Bool} {qt : Nat → Option Nat} {qr : Nat → Option Nat} {tbu : Nat → Int32} {wst : Nat → Int32} {asw : Nat → Int32} {pN : Int32} {tN : Int32} {aN : Int32} {wx : Nat → Int32} {pp : Nat → Option Nat} {tp : Nat → Option Nat} {ap : Nat → Option Nat} {sg : Nat → Int32} {uh : Int32} {ud : Int32} {up : Int32} {ur : Int32} {us : Int32} {ux : Nat → Int32} {G : zG} {x f st d : Int32} {r : Nat → Int32} (cx : Cx E p s args m c own cc nL) (hW : WW E (wK b E.2.1 tl pd qt qr tbu wst asw pN tN aN (hdC (r 3)) (r 4) (r 5) (r 6) (r 7) wx pp tp ap sg uh ud up ur us ux) G H) (hS : va_S F H0 H locs) (zF : ∀ q, (bF b) q → F q) (hG : CG E.2.1 G r pN tN aN wx pp tp ap) (zl : Cond.methodLink own index yX7_hair ∈ AllW) (zR : 3 + 1 ≤ R.frames ∧ 8 + (6 + 11) + 101 ≤ R.locals) (zs : ls.size = nL) (zt : st0 = ([.int x, .int f, .int st, .int d] : List Value).reverse ++ .ref (b 0) :: rest) (z8 : (rest.map fun v => v.category).sum ≤ 8) (zd : decode cc pc = .ok (.invokevirtual index, 3)) (zf : cells ≤ R.cells ∧ slots ≤ R.slots) (kk0 : ∀ (uh2 : Int32) (ud2 : Int32) (up2 : Int32) (ur2 : Int32) (us2 : Int32) (ux2 : Nat → Int32) (sg2 : Nat → Int32) (H1 : Heap) (locs1 : List Loc), WW E (wK b E.2.1 tl pd qt qr tbu wst asw pN tN aN (hdC (r 3)) (r 4) (r 5) (r 6) (r 7) wx pp tp ap sg2 uh2 ud2 up2 ur2 us2 ux2) G H1 → va_S F H0 H1 locs1 → W p l e R s m args below meth c H1 locs1 cells slots Q (F0 m (pc + 3) ls (.int (hairP r x f st d) :: rest))) : W p l e R s m args below meth c H locs cells slots Q (F0 m pc ls st0) := by
  refine z_callVw cx vm_X7_hair (c_X7_hair l E b tl pd qt qr tbu wst asw pN tN aN wx pp tp ap sg uh ud up ur us ux G x f st d r hG) (z_rec cx.2 (hW.at 0 rfl) rfl) hW hS zF zl ⟨rfl, rfl⟩ zR rfl zs zt z8 zd zf (fun v H1 locs1 hq hS1 _ => ?_)
  rcases hq with ⟨uh2, ud2, up2, ur2, us2, ux2, sg2, rfl, hW1⟩
  · exact kk0 uh2 ud2 up2 ur2 us2 ux2 sg2 H1 locs1  hW1 hS1
theorem vm_X7_ends : zVm yX7_ends cX7_ends 4 (some FieldType.int) 1 := ⟨m_co_X7_ends, m_in_RX7, ⟨m_im_X7_ends, m_se_X7_X7_ends⟩, by decide +kernel, by decide +kernel, by decide +kernel⟩
set_option maxHeartbeats 1000000 in
set_option maxRecDepth 100000 in
theorem c_X7_ends (l : Launch) (E : zE) (b : Nat → Nat) (tl : va_W) (pd : Bool) (qt : Nat → Option Nat) (qr : Nat → Option Nat) (tbu : Nat → Int32) (wst : Nat → Int32) (asw : Nat → Int32) (pN : Int32) (tN : Int32) (aN : Int32) (wx : Nat → Int32) (pp : Nat → Option Nat) (tp : Nat → Option Nat) (ap : Nat → Option Nat) (sg : Nat → Int32) (uh : Int32) (ud : Int32) (up : Int32) (ur : Int32) (us : Int32) (ux : Nat → Int32) (G : zG) (w : Int32) (r : Nat → Int32) (hG : CG E.2.1 G r pN tN aN wx pp tp ap) : Met l yX7_ends (.code yX7_ends cX7_ends 4 (some FieldType.int) :: AllW) (rm0' 6 136) (zP E (fun H => WW E (wK b E.2.1 tl pd qt qr tbu wst asw pN tN aN (hdC (r 3)) (r 4) (r 5) (r 6) (r 7) wx pp tp ap sg uh ud up ur us ux) G H) [.ref (b 0), .int w]) (zQ (fun (_ : Heap) (v : Option Value) (H1 : Heap) => (∃ (uh2 : Int32) (ud2 : Int32) (up2 : Int32) (ur2 : Int32) (us2 : Int32) (ux2 : Nat → Int32), v = some (.int (endsP r w)) ∧ WW E (wK b E.2.1 tl pd qt qr tbu wst asw pN tN aN (hdC (r 3)) (r 4) (r 5) (r 6) (r 7) wx pp tp ap sg uh2 ud2 up2 ur2 us2 ux2) G H1)) (bF b)) 0 0 (bF b) := by
  refine z_body (own := RX7) (by decide) rfl rfl ?_
  intro p e s m args below meth c ls cx hr hlk hnm hW hl
  have hx := cx.x
  have hb := cx.b
  have hl : lv_has ls 4 [(0, .ref (b 0)), (1, .int w)] := hl
  have hFb : ∀ k, (bF b) (b k) := fun k => bF_in b k
  have hS : va_S (bF b) s.heap s.heap [] := va_S.rf
  have hG0 := hG
  obtain ⟨hI, hpN, htN, haN, hPc, hTh, hAk, hwx⟩ := hG
  have hC := hI.1
  have hIS := hI.2.1
  have hP := hI.2.2.1
  have hT := hI.2.2.2.1
  have hP10 := (Inv.n0 hC).2
  have hT7 := (Inv.n1 hC).2
  have hA24 := (Inv.n2 hC).2
  have e0 := (Inv.n0 hC).1
  have e1 := (Inv.n1 hC).1
  have e2 := (Inv.n2 hC).1
  have hp1 : pN = r 0 := hpN.trans e0.symm
  refine lv_iload_n (pc := 0) hx hb dX7_ends_0 rfl (lv_at hl 1 rfl) ?_
  refine lv_iconst (pc := 1) (v := 0) hx hb dX7_ends_1 (by decide) ?_
  refine lv_iconst (pc := 2) (v := 1) hx hb dX7_ends_2 (by decide) ?_
  refine k_X7_isWithin (pc := 3) (x := w) (y := 0) (z := 1) cx  m_ml_X7_159 ⟨Nat.le_of_ble_eq_true rfl, Nat.le_of_ble_eq_true rfl⟩ hl.1 rfl (by simp [Value.category]) dX7_ends_3 ⟨Nat.le_refl _, Nat.le_refl _⟩ ?_
  refine z_ifne (pc := 6) (tgt := 11) hx hb dX7_ends_6 (by decide) (fun c_1 => ?_) (fun c_1 => ?_)
  · skip
    refine lv_aload_n (pc := 11) hx hb dX7_ends_11 rfl (lv_at hl 0 rfl) ?_
    refine z_get (pc := 12) cx (hW.at 0 rfl) (C := RX7) (T := TX7) (N := 11) rfl i_X7 0 rfl m_fl_X7_10 rfl dX7_ends_12 ?_
    refine z_get (pc := 15) cx (hW.at 6 rfl) (C := RX1) (T := TX1) (N := 8) rfl i_X1 0 rfl m_fl_X7_262 rfl dX7_ends_15 ?_
    refine z_tope (y := r 0) hp1 ?_
    refine lv_if_ne (pc := 18) (tgt := 24) hx hb dX7_ends_18 (by decide) (fun c_2 => ?_) (fun c_2 => ?_)
    · skip
      have hEp : endsP r w = enA r w 21 0 := by simp [endsP, c_1, c_2]
      refine lv_iconst (pc := 24) (v := 0) hx hb dX7_ends_24 (by decide) ?_
      refine lv_istore_n (pc := 25) (lv' := [(2, .int 0), (0, .ref (b 0)), (1, .int w)]) hx hb dX7_ends_25 rfl hl (by decide) rfl (fun ls hl => ?_)
      have loop_26 : ∀ (k_26 : Nat) (q : Nat) (x2 : Int32), (21 - q) < k_26 → (q ≤ 21) → (endsP r w = enA r w (21 - q) q) → x2 = nI q → ∀ (uh2a : Int32) (ud2a : Int32) (up2a : Int32) (ur2a : Int32) (us2a : Int32) (ux2a : Nat → Int32) (H : Heap) (locs : List Loc), WW E (wK b E.2.1 tl pd qt qr tbu wst asw pN tN aN (hdC (r 3)) (r 4) (r 5) (r 6) (r 7) wx pp tp ap sg uh2a ud2a up2a ur2a us2a ux2a) G H → va_S (bF b) s.heap H locs → ∀ (ls : Array Slot), lv_has ls 4 [(2, .int x2), (0, .ref (b 0)), (1, .int w)] → W p l e (rm0' (6) (136)) s m args below meth c H locs 0 0 (MQ below (zQ (fun (_ : Heap) (v : Option Value) (H1 : Heap) => (∃ (uh2 : Int32) (ud2 : Int32) (up2 : Int32) (ur2 : Int32) (us2 : Int32) (ux2 : Nat → Int32), v = some (.int (endsP r w)) ∧ WW E (wK b E.2.1 tl pd qt qr tbu wst asw pN tN aN (hdC (r 3)) (r 4) (r 5) (r 6) (r 7) wx pp tp ap sg uh2 ud2 up2 ur2 us2 ux2) G H1)) (bF b)) args s 0 0 (bF b)) (F0 m 26 ls []) := by
        intro k_26
        induction k_26 with
        | zero =>
          intro q x2 hm
          exact absurd hm (Nat.not_lt_zero _)
        | succ k_26 ih_26 =>
          intro q x2 hm_26 hq hE e_x2 uh2a ud2a up2a ur2a us2a ux2a H locs  hW hS ls hl
          subst e_x2
          refine lv_iload_n (pc := 26) hx hb dX7_ends_26 rfl (lv_at hl 0 rfl) ?_
          refine lv_bipush (pc := 27) (v := 20) hx hb dX7_ends_27 (by decide) ?_
          refine lv_icmp_gt (pc := 29) (tgt := 104) hx hb dX7_ends_29 (by decide) (fun c_3 => ?_) (fun c_3 => ?_)
          · skip
            have hq20 := gtn (a := 20) (b := q) rfl rfl (by omega) (by omega) c_3
            refine lv_bipush (pc := 104) (v := (-4)) hx hb dX7_ends_104 (by decide) ?_
            exact z_wiret cx hr hlk dX7_ends_106 hS ⟨_, _, _, _, _, _, (sI (by rw [hE, show 21 - q = 0 by omega]; simp [enA])), hW⟩
          · skip
            have hq20 := ngt (a := 20) (b := q) rfl rfl (by omega) (by omega) c_3
            refine lv_iconst (pc := 32) (v := 0) hx hb dX7_ends_32 (by decide) ?_
            refine lv_istore_n (pc := 33) (lv' := [(3, .int 0), (2, .int (nI q)), (0, .ref (b 0)), (1, .int w)]) hx hb dX7_ends_33 rfl hl (by decide) rfl (fun ls hl => ?_)
            have loop_34 : ∀ (k_34 : Nat) (j : Nat) (x3 : Int32), (nP r - j) < k_34 → (j ≤ nP r) → (fstN (enT r q) (nP r) 0 = fstN (enT r q) (nP r - j) j) → x3 = nI j → ∀ (uh2b : Int32) (ud2b : Int32) (up2b : Int32) (ur2b : Int32) (us2b : Int32) (ux2b : Nat → Int32) (H : Heap) (locs : List Loc), WW E (wK b E.2.1 tl pd qt qr tbu wst asw pN tN aN (hdC (r 3)) (r 4) (r 5) (r 6) (r 7) wx pp tp ap sg uh2b ud2b up2b ur2b us2b ux2b) G H → va_S (bF b) s.heap H locs → ∀ (ls : Array Slot), lv_has ls 4 [(3, .int x3), (2, .int (nI q)), (0, .ref (b 0)), (1, .int w)] → W p l e (rm0' (6) (136)) s m args below meth c H locs 0 0 (MQ below (zQ (fun (_ : Heap) (v : Option Value) (H1 : Heap) => (∃ (uh2 : Int32) (ud2 : Int32) (up2 : Int32) (ur2 : Int32) (us2 : Int32) (ux2 : Nat → Int32), v = some (.int (endsP r w)) ∧ WW E (wK b E.2.1 tl pd qt qr tbu wst asw pN tN aN (hdC (r 3)) (r 4) (r 5) (r 6) (r 7) wx pp tp ap sg uh2 ud2 up2 ur2 us2 ux2) G H1)) (bF b)) args s 0 0 (bF b)) (F0 m 34 ls []) := by
              intro k_34
              induction k_34 with
              | zero =>
                intro j x3 hm
                exact absurd hm (Nat.not_lt_zero _)
              | succ k_34 ih_34 =>
                intro j x3 hm_34 hj hGq e_x3 uh2b ud2b up2b ur2b us2b ux2b H locs  hW hS ls hl
                subst e_x3
                refine lv_iload_n (pc := 34) hx hb dX7_ends_34 rfl (lv_at hl 0 rfl) ?_
                refine lv_aload_n (pc := 35) hx hb dX7_ends_35 rfl (lv_at hl 2 rfl) ?_
                refine z_get (pc := 36) cx (hW.at 0 rfl) (C := RX7) (T := TX7) (N := 11) rfl i_X7 0 rfl m_fl_X7_10 rfl dX7_ends_36 ?_
                refine z_get (pc := 39) cx (hW.at 6 rfl) (C := RX1) (T := TX1) (N := 8) rfl i_X1 0 rfl m_fl_X7_262 rfl dX7_ends_39 ?_
                refine lv_icmp_ge (pc := 42) (tgt := 98) hx hb dX7_ends_42 (by decide) (fun c_4 => ?_) (fun c_4 => ?_)
                · skip
                  obtain rfl : j = nP r := by have := ge_nat (a := j) rfl hpN (by omega) (by omega) c_4; omega
                  refine lv_iinc (pc := 98) (v := nI (q + 1)) (lv' := [(2, .int (nI (q + 1))), (3, .int (nI (nP r))), (0, .ref (b 0)), (1, .int w)]) hx hb dX7_ends_98 hl (k := 1) rfl (nI_1 _) (by decide) rfl (fun ls hl => ?_)
                  refine lv_goto (pc := 101) (tgt := 26) hx hb dX7_ends_101 (by decide) ?_
                  exact ih_26 (q + 1) (nI (q + 1)) (by omega) (by omega) (by rw [hE, enA_miss (by rw [hGq, Nat.sub_self]; rfl) (by omega)]; congr 1) (by first | rfl | (simp [endsP, c_1, c_2]; done)) _ _ _ _ _ _ _ _  (hW) hS ls (lv_sub hl [0, 2, 3] rfl)
                · skip
                  have hlt_j := lt_nat (a := j) rfl hpN (by omega) (by omega) c_4
                  refine lv_aload_n (pc := 45) hx hb dX7_ends_45 rfl (lv_at hl 2 rfl) ?_
                  refine z_get (pc := 46) cx (hW.at 0 rfl) (C := RX7) (T := TX7) (N := 11) rfl i_X7 5 rfl m_fl_X7_32 rfl dX7_ends_46 ?_
                  refine lv_aload_n (pc := 49) hx hb dX7_ends_49 rfl (lv_at hl 2 rfl) ?_
                  refine z_get (pc := 50) cx (hW.at 0 rfl) (C := RX7) (T := TX7) (N := 11) rfl i_X7 0 rfl m_fl_X7_10 rfl dX7_ends_50 ?_
                  refine z_get (pc := 53) cx (hW.at 6 rfl) (C := RX1) (T := TX1) (N := 8) rfl i_X1 3 rfl m_fl_X7_117 rfl dX7_ends_53 ?_
                  refine k_X5_become_s (pc := 56)  cx hW hS (fun _ h => h)  m_ml_X7_310 ⟨Nat.le_of_ble_eq_true rfl, Nat.le_of_ble_eq_true rfl⟩ hl.1 rfl (by simp [Value.category]) dX7_ends_56 ⟨Nat.le_refl _, Nat.le_refl _⟩ (fun  H locs  hW hS => ?_)
                  have hW : WW E (wK b E.2.1 tl pd qt qr tbu wst asw pN tN aN (hdC (r 3)) (r 4) (r 5) (r 6) (r 7) wx pp tp ap sg (hdC (r 3)) (r 4) (r 5) (r 6) (r 7) wx) G H := hW
                  refine lv_aload_n (pc := 59) hx hb dX7_ends_59 rfl (lv_at hl 2 rfl) ?_
                  refine z_get (pc := 60) cx (hW.at 0 rfl) (C := RX7) (T := TX7) (N := 11) rfl i_X7 5 rfl m_fl_X7_32 rfl dX7_ends_60 ?_
                  refine lv_iload_n (pc := 63) hx hb dX7_ends_63 rfl (lv_at hl 0 rfl) ?_
                  refine lv_iload_n (pc := 64) hx hb dX7_ends_64 rfl (lv_at hl 1 rfl) ?_
                  refine k_X5_layWax_s (pc := 65) (n := j) (x := nI q) cx hW hS (fun _ h => h) (by omega) m_ml_X7_163 ⟨Nat.le_of_ble_eq_true rfl, Nat.le_of_ble_eq_true rfl⟩ hl.1 rfl (by simp [Value.category]) dX7_ends_65 ⟨Nat.le_refl _, Nat.le_refl _⟩ (fun  H locs  hW hS => ?_)
                  have hW : WW E (wK b E.2.1 tl pd qt qr tbu wst asw pN tN aN (hdC (r 3)) (r 4) (r 5) (r 6) (r 7) wx pp tp ap sg (hdC (r 3)) (r 4) (r 5) (r 6) (r 7) (upd wx j (nI q))) G H := hW
                  have hI2 := Inv_wx hI (n := j) (d := nI q) (by omega) (rgN (by omega) (by omega) (by omega))
                  have hSm := Sm.upd_w (r := r) (n := j) (v := nI q) (by omega)
                  have hew := en_w hI (i := j) (q := q) (by omega) hq20
                  refine lv_aload_n (pc := 68) hx hb dX7_ends_68 rfl (lv_at hl 2 rfl) ?_
                  refine z_get (pc := 69) cx (hW.at 0 rfl) (C := RX7) (T := TX7) (N := 11) rfl i_X7 0 rfl m_fl_X7_10 rfl dX7_ends_69 ?_
                  refine lv_aload_n (pc := 72) hx hb dX7_ends_72 rfl (lv_at hl 2 rfl) ?_
                  refine z_get (pc := 73) cx (hW.at 0 rfl) (C := RX7) (T := TX7) (N := 11) rfl i_X7 5 rfl m_fl_X7_32 rfl dX7_ends_73 ?_
                  refine k_X1_wolves (pc := 76) (t := b 13) (w := b 14) (xw := upd wx j (nI q)) (r := upd r (8 + 6 * j + 5) (nI q)) cx hW hI2 (by rw [sm_nP hSm]; exact hpN) (sm_PcG hSm hPc) (fun _ _ h => StA_wx hP10 (h.at 13 rfl) (h.at 14 rfl) hwx (by omega)) m_ml_X7_298 ⟨Nat.le_of_ble_eq_true rfl, Nat.le_of_ble_eq_true rfl⟩ hl.1 rfl (by simp [Value.category]) dX7_ends_76 ⟨Nat.le_refl _, Nat.le_refl _⟩ ?_
                  refine lv_if_ne (pc := 79) (tgt := 92) hx hb dX7_ends_79 (by decide) (fun c_5 => ?_) (fun c_5 => ?_)
                  · skip
                    have hTt : enT r q j = false := hew.trans (decide_eq_false c_5)
                    refine lv_iinc (pc := 92) (v := nI (j + 1)) (lv' := [(3, .int (nI (j + 1))), (2, .int (nI q)), (0, .ref (b 0)), (1, .int w)]) hx hb dX7_ends_92 hl (k := 0) rfl (nI_1 _) (by decide) rfl (fun ls hl => ?_)
                    refine lv_goto (pc := 95) (tgt := 34) hx hb dX7_ends_95 (by decide) ?_
                    exact ih_34 (j + 1) (nI (j + 1)) (by omega) (by omega) (by rw [hGq, fstN_miss hTt (by omega)]; congr 1) (by first | rfl | (simp [endsP, c_1, c_2, c_5]; done)) _ _ _ _ _ _ _ _  (hW) hS ls (lv_sub hl [0, 1, 2, 3] rfl)
                  · skip
                    have hTt : enT r q j = true := hew.trans (decide_eq_true c_5)
                    have hF : fstN (enT r q) (nP r) 0 = some j := by rw [hGq]; exact fstN_hit hTt (by omega)
                    refine lv_iload_n (pc := 82) hx hb dX7_ends_82 rfl (lv_at hl 3 rfl) ?_
                    refine lv_if_ne (pc := 83) (tgt := 90) hx hb dX7_ends_83 (by decide) (fun c_6 => ?_) (fun c_6 => ?_)
                    · skip
                      refine lv_iload_n (pc := 90) hx hb dX7_ends_90 rfl (lv_at hl 0 rfl) ?_
                      exact z_wiret cx hr hlk dX7_ends_91 hS ⟨_, _, _, _, _, _, (sI (by rw [hE, enA_hit hF (by omega)]; simp [c_1, c_2, c_5, c_6])), hW⟩
                    · skip
                      refine lv_iload_n (pc := 86) hx hb dX7_ends_86 rfl (lv_at hl 1 rfl) ?_
                      refine lv_goto (pc := 87) (tgt := 91) hx hb dX7_ends_87 (by decide) ?_
                      exact z_wiret cx hr hlk dX7_ends_91 hS ⟨_, _, _, _, _, _, (sI (by rw [hE, enA_hit hF (by omega)]; simp [c_1, c_2, c_5, c_6])), hW⟩
            exact loop_34 ((nP r - 0) + 1) 0 0 (Nat.lt_succ_self _) (by omega) rfl (by first | rfl | (simp [endsP, c_1, c_2]; done)) uh2a ud2a up2a ur2a us2a ux2a _ _  (hW) hS ls (lv_sub hl [0, 1, 2, 3] rfl)
      exact loop_26 ((21 - 0) + 1) 0 0 (Nat.lt_succ_self _) (by omega) hEp (by first | rfl | (simp [endsP, c_1, c_2]; done)) uh ud up ur us ux _ _  (hW) hS ls (lv_sub hl [0, 1, 2] rfl)
    · skip
      refine lv_bipush (pc := 21) (v := (-3)) hx hb dX7_ends_21 (by decide) ?_
      exact z_wiret cx hr hlk dX7_ends_23 hS ⟨_, _, _, _, _, _, (sI (by first | rfl | (simp [endsP, c_1, c_2]; done))), hW⟩
  · skip
    refine lv_iconst (pc := 9) (v := (-1)) hx hb dX7_ends_9 (by decide) ?_
    exact z_wiret cx hr hlk dX7_ends_10 hS ⟨_, _, _, _, _, _, (sI (by first | rfl | (simp [endsP, c_1]; done))), hW⟩
theorem k_X7_ends {p : Program} {l : Launch} {e : Env} {R : Room} {s : State} {m : MethodId} {args : Array Value} {below : List Frame} {meth : Method} {c : Code} {H H0 : Heap} {locs : List Loc} {cells slots : Nat} {Q : State → Prop} {cc : ByteArray} {pc index : Nat} {ls : Array Slot} {rest st0 : List Value} {E : zE} {own : String} {nL : Nat} {F : Nat → Prop} {b : Nat → Nat} {tl : va_W} {pd : Bool} {qt : Nat → Option Nat} {qr : Nat → Option Nat} {tbu : Nat → Int32} {wst : Nat → Int32} {asw : Nat → Int32} {pN : Int32} {tN : Int32} {aN : Int32} {wx : Nat → Int32} {pp : Nat → Option Nat} {tp : Nat → Option Nat} {ap : Nat → Option Nat} {sg : Nat → Int32} {uh : Int32} {ud : Int32} {up : Int32} {ur : Int32} {us : Int32} {ux : Nat → Int32} {G : zG} {w : Int32} {r : Nat → Int32} (cx : Cx E p s args m c own cc nL) (hW : WW E (wK b E.2.1 tl pd qt qr tbu wst asw pN tN aN (hdC (r 3)) (r 4) (r 5) (r 6) (r 7) wx pp tp ap sg uh ud up ur us ux) G H) (hS : va_S F H0 H locs) (zF : ∀ q, (bF b) q → F q) (hG : CG E.2.1 G r pN tN aN wx pp tp ap) (zl : Cond.methodLink own index yX7_ends ∈ AllW) (zR : 6 + 1 ≤ R.frames ∧ 8 + (4 + 11) + 136 ≤ R.locals) (zs : ls.size = nL) (zt : st0 = ([.int w] : List Value).reverse ++ .ref (b 0) :: rest) (z8 : (rest.map fun v => v.category).sum ≤ 8) (zd : decode cc pc = .ok (.invokevirtual index, 3)) (zf : cells ≤ R.cells ∧ slots ≤ R.slots) (kk0 : ∀ (uh2 : Int32) (ud2 : Int32) (up2 : Int32) (ur2 : Int32) (us2 : Int32) (ux2 : Nat → Int32) (H1 : Heap) (locs1 : List Loc), WW E (wK b E.2.1 tl pd qt qr tbu wst asw pN tN aN (hdC (r 3)) (r 4) (r 5) (r 6) (r 7) wx pp tp ap sg uh2 ud2 up2 ur2 us2 ux2) G H1 → va_S F H0 H1 locs1 → W p l e R s m args below meth c H1 locs1 cells slots Q (F0 m (pc + 3) ls (.int (endsP r w) :: rest))) : W p l e R s m args below meth c H locs cells slots Q (F0 m pc ls st0) := by
  refine z_callVw cx vm_X7_ends (c_X7_ends l E b tl pd qt qr tbu wst asw pN tN aN wx pp tp ap sg uh ud up ur us ux G w r hG) (z_rec cx.2 (hW.at 0 rfl) rfl) hW hS zF zl ⟨rfl, rfl⟩ zR rfl zs zt z8 zd zf (fun v H1 locs1 hq hS1 _ => ?_)
  rcases hq with ⟨uh2, ud2, up2, ur2, us2, ux2, rfl, hW1⟩
  · exact kk0 uh2 ud2 up2 ur2 us2 ux2 H1 locs1  hW1 hS1
theorem vm_X7_keep : zVm yX7_keep cX7_keep 5 (some FieldType.int) 3 := ⟨m_co_X7_keep, m_in_RX7, ⟨m_im_X7_keep, m_se_X7_X7_keep⟩, by decide +kernel, by decide +kernel, by decide +kernel⟩
set_option maxHeartbeats 1000000 in
set_option maxRecDepth 100000 in
theorem c_X7_keep (l : Launch) (E : zE) (b : Nat → Nat) (tl : va_W) (pd : Bool) (qt : Nat → Option Nat) (qr : Nat → Option Nat) (tbu : Nat → Int32) (wst : Nat → Int32) (asw : Nat → Int32) (pN : Int32) (tN : Int32) (aN : Int32) (hd : Int32) (dr : Int32) (pl : Int32) (rm : Int32) (ps : Int32) (wx : Nat → Int32) (pp : Nat → Option Nat) (tp : Nat → Option Nat) (ap : Nat → Option Nat) (sg : Nat → Int32) (uh : Int32) (ud : Int32) (up : Int32) (ur : Int32) (us : Int32) (ux : Nat → Int32) (G : zG) (d w x : Int32) (r : Nat → Int32) (kp so sz el pr ts : Nat → Int32) (hG : CG E.2.1 G r pN tN aN wx pp tp ap) (hSh : ShG E.2.1 G qt qr kp so sz el pr ts) : Met l yX7_keep (.code yX7_keep cX7_keep 5 (some FieldType.int) :: AllW) (rm0' 2 42) (zP E (fun H => WW E (wK b E.2.1 tl pd qt qr tbu wst asw pN tN aN hd dr pl rm ps wx pp tp ap sg uh ud up ur us ux) G H) [.ref (b 0), .int d, .int w, .int x]) (zQ (fun (_ : Heap) (v : Option Value) (H1 : Heap) => (∃ (qt2 : Nat → Option Nat) (qr2 : Nat → Option Nat), v = some (.int (keepR r d w x)) ∧ (ShG E.2.1 G qt2 qr2 (keepK r kp d w x) so sz el (keepP r pr d w x) (keepT r ts d w x)) ∧ (∀ k q, qr2 k = some q → qr k = some q) ∧ WW E (wK b E.2.1 tl pd qt2 qr2 tbu wst asw pN tN aN hd dr pl rm ps wx pp tp ap sg uh ud up ur us ux) G H1)) (bF b)) 0 0 (bF b) := by
  refine z_body (own := RX7) (by decide) rfl rfl ?_
  intro p e s m args below meth c ls cx hr hlk hnm hW hl
  have hx := cx.x
  have hb := cx.b
  have hl : lv_has ls 5 [(0, .ref (b 0)), (1, .int d), (2, .int w), (3, .int x)] := hl
  have hFb : ∀ k, (bF b) (b k) := fun k => bF_in b k
  have hS : va_S (bF b) s.heap s.heap [] := va_S.rf
  have hG0 := hG
  obtain ⟨hI, hpN, htN, haN, hPc, hTh, hAk, hwx⟩ := hG
  have hC := hI.1
  have hIS := hI.2.1
  have hP := hI.2.2.1
  have hT := hI.2.2.2.1
  have hP10 := (Inv.n0 hC).2
  have hT7 := (Inv.n1 hC).2
  have hA24 := (Inv.n2 hC).2
  have e0 := (Inv.n0 hC).1
  have e1 := (Inv.n1 hC).1
  have e2 := (Inv.n2 hC).1
  refine lv_iload_n (pc := 0) hx hb dX7_keep_0 rfl (lv_at hl 2 rfl) ?_
  refine lv_if_eq (pc := 1) (tgt := 20) hx hb dX7_keep_1 (by decide) (fun c_1 => ?_) (fun c_1 => ?_)
  · skip
    obtain rfl : w = 0 := c_1
    refine lv_iconst (pc := 20) (v := 1) hx hb dX7_keep_20 (by decide) ?_
    refine lv_goto (pc := 21) (tgt := 25) hx hb dX7_keep_21 (by decide) ?_
    refine lv_istore (pc := 25) (lv' := [(4, .int 1), (0, .ref (b 0)), (1, .int d), (2, .int 0), (3, .int x)]) hx hb dX7_keep_25 hl (by decide) rfl (fun ls hl => ?_)
    refine lv_iload_n (pc := 27) hx hb dX7_keep_27 rfl (lv_at hl 2 rfl) ?_
    refine k_X7_isShelf (pc := 28) (x := d) cx  m_ml_X7_343 ⟨Nat.le_of_ble_eq_true rfl, Nat.le_of_ble_eq_true rfl⟩ hl.1 rfl (by simp [Value.category]) dX7_keep_28 ⟨Nat.le_refl _, Nat.le_refl _⟩ ?_
    refine z_ifeq (pc := 31) (tgt := 39) hx hb dX7_keep_31 (by decide) (fun c_2 => ?_) (fun c_2 => ?_)
    · skip
      have hko : keepO r d 0 x = false := by unfold keepO; simp [c_2]
      refine lv_iconst (pc := 39) (v := (-1)) hx hb dX7_keep_39 (by decide) ?_
      exact z_wiret cx hr hlk dX7_keep_40 hS ⟨_, _, (sI (by unfold keepR; rw [if_neg (fun q => absurd (hko.symm.trans q) (by decide))])), (by rw [show keepK r kp d 0 x = kp by unfold keepK; rw [if_neg (fun q => absurd (hko.symm.trans q) (by decide))], show keepP r pr d 0 x = pr by unfold keepP; rw [if_neg (fun q => absurd (hko.symm.trans q.1) (by decide))], show keepT r ts d 0 x = ts by unfold keepT; rw [if_neg (fun q => absurd (hko.symm.trans q.1) (by decide))]]; exact hSh), (fun _ _ h => h), hW⟩
    · skip
      have hd7 := c_2
      obtain ⟨k, hk, rfl⟩ := shelf_nat c_2
      have hK := iN_nI (n := k) (by omega)
      refine lv_iload (pc := 34) hx hb dX7_keep_34 (lv_at hl 0 rfl) ?_
      refine lv_if_ne (pc := 36) (tgt := 41) hx hb dX7_keep_36 (by decide) (fun _ => ?_) (fun c => absurd c (by decide))
      refine lv_aload_n (pc := 41) hx hb dX7_keep_41 rfl (lv_at hl 1 rfl) ?_
      refine z_get (pc := 42) cx (hW.at 0 rfl) (C := RX7) (T := TX7) (N := 11) rfl i_X7 6 rfl m_fl_X7_38 rfl dX7_keep_42 ?_
      refine lv_iload_n (pc := 45) hx hb dX7_keep_45 rfl (lv_at hl 2 rfl) ?_
      refine lv_iload_n (pc := 46) hx hb dX7_keep_46 rfl (lv_at hl 3 rfl) ?_
      refine lv_if_ne (pc := 47) (tgt := 54) hx hb dX7_keep_47 (by decide) (fun c => (c (by decide)).elim) (fun _ => ?_)
      refine lv_null (pc := 50) hx hb dX7_keep_50 ?_
      refine lv_goto (pc := 51) (tgt := 62) hx hb dX7_keep_51 (by decide) ?_
      refine z_aastN (pc := 62) (f := qt) (j := k) cx hW hS 1 2 rfl rfl (hFb 1) rfl (by omega) (by decide) dX7_keep_62 (fun H locs hW hS => ?_)
      have hW : WW E (wK b E.2.1 tl pd (va_up qt k none) qr tbu wst asw pN tN aN hd dr pl rm ps wx pp tp ap sg uh ud up ur us ux) G H := hW
      refine lv_aload_n (pc := 63) hx hb dX7_keep_63 rfl (lv_at hl 1 rfl) ?_
      refine z_get (pc := 64) cx (hW.at 0 rfl) (C := RX7) (T := TX7) (N := 11) rfl i_X7 7 rfl m_fl_X7_44 rfl dX7_keep_64 ?_
      refine lv_iload_n (pc := 67) hx hb dX7_keep_67 rfl (lv_at hl 2 rfl) ?_
      refine lv_null (pc := 68) hx hb dX7_keep_68 ?_
      refine z_aastN (pc := 69) (f := qr) (j := k) cx hW hS 2 4 rfl rfl (hFb 2) rfl (by omega) (by decide) dX7_keep_69 (fun H locs hW hS => ?_)
      have hW : WW E (wK b E.2.1 tl pd (va_up qt k none) (va_up qr k none) tbu wst asw pN tN aN hd dr pl rm ps wx pp tp ap sg uh ud up ur us ux) G H := hW
      refine lv_iconst (pc := 70) (v := 0) hx hb dX7_keep_70 (by decide) ?_
      exact z_wiret cx hr hlk dX7_keep_71 hS ⟨_, _, (sI (by have hko : keepO r (nI k) 0 x = true := (by unfold keepO; simp [hd7, c_2]); unfold keepR; rw [if_pos hko])), (by have hko : keepO r (nI k) 0 x = true := (by unfold keepO; simp [hd7, c_2]); rw [show keepK r kp (nI k) 0 x = upd kp k 0 by unfold keepK; rw [if_pos hko, hK], show keepP r pr (nI k) 0 x = pr by unfold keepP; rw [if_neg (fun q => absurd q.2 (by decide))], show keepT r ts (nI k) 0 x = ts by unfold keepT; rw [if_neg (fun q => absurd q.2 (by decide))]]; exact ShG_keep0 hSh k), (fun k q h => qk_up k q h), hW⟩
  · skip
    refine lv_iload_n (pc := 4) hx hb dX7_keep_4 rfl (lv_at hl 2 rfl) ?_
    refine lv_iconst (pc := 5) (v := 1) hx hb dX7_keep_5 (by decide) ?_
    refine lv_icmp_ne (pc := 6) (tgt := 24) hx hb dX7_keep_6 (by decide) (fun c_5 => ?_) (fun c_5 => ?_)
    · skip
      refine lv_iconst (pc := 24) (v := 0) hx hb dX7_keep_24 (by decide) ?_
      refine lv_istore (pc := 25) (lv' := [(4, .int 0), (0, .ref (b 0)), (1, .int d), (2, .int w), (3, .int x)]) hx hb dX7_keep_25 hl (by decide) rfl (fun ls hl => ?_)
      refine lv_iload_n (pc := 27) hx hb dX7_keep_27 rfl (lv_at hl 2 rfl) ?_
      refine k_X7_isShelf (pc := 28) (x := d) cx  m_ml_X7_343 ⟨Nat.le_of_ble_eq_true rfl, Nat.le_of_ble_eq_true rfl⟩ hl.1 rfl (by simp [Value.category]) dX7_keep_28 ⟨Nat.le_refl _, Nat.le_refl _⟩ ?_
      refine z_ifeq (pc := 31) (tgt := 39) hx hb dX7_keep_31 (by decide) (fun c_6 => ?_) (fun c_6 => ?_)
      · skip
        have hko : keepO r d w x = false := by unfold keepO; simp [c_1, c_5, c_6]
        refine lv_iconst (pc := 39) (v := (-1)) hx hb dX7_keep_39 (by decide) ?_
        exact z_wiret cx hr hlk dX7_keep_40 hS ⟨_, _, (sI (by unfold keepR; rw [if_neg (fun q => absurd (hko.symm.trans q) (by decide))])), (by rw [show keepK r kp d w x = kp by unfold keepK; rw [if_neg (fun q => absurd (hko.symm.trans q) (by decide))], show keepP r pr d w x = pr by unfold keepP; rw [if_neg (fun q => absurd (hko.symm.trans q.1) (by decide))], show keepT r ts d w x = ts by unfold keepT; rw [if_neg (fun q => absurd (hko.symm.trans q.1) (by decide))]]; exact hSh), (fun _ _ h => h), hW⟩
      · skip
        have hd7 := c_6
        obtain ⟨k, hk, rfl⟩ := shelf_nat c_6
        have hK := iN_nI (n := k) (by omega)
        refine lv_iload (pc := 34) hx hb dX7_keep_34 (lv_at hl 0 rfl) ?_
        refine lv_if_ne (pc := 36) (tgt := 41) hx hb dX7_keep_36 (by decide) (fun c => (c (by decide)).elim) (fun _ => ?_)
        have hko : keepO r (nI k) w x = false := by unfold keepO; simp [c_1, c_5, c_6]
        refine lv_iconst (pc := 39) (v := (-1)) hx hb dX7_keep_39 (by decide) ?_
        exact z_wiret cx hr hlk dX7_keep_40 hS ⟨_, _, (sI (by unfold keepR; rw [if_neg (fun q => absurd (hko.symm.trans q) (by decide))])), (by rw [show keepK r kp (nI k) w x = kp by unfold keepK; rw [if_neg (fun q => absurd (hko.symm.trans q) (by decide))], show keepP r pr (nI k) w x = pr by unfold keepP; rw [if_neg (fun q => absurd (hko.symm.trans q.1) (by decide))], show keepT r ts (nI k) w x = ts by unfold keepT; rw [if_neg (fun q => absurd (hko.symm.trans q.1) (by decide))]]; exact hSh), (fun _ _ h => h), hW⟩
    · skip
      obtain rfl : w = 1 := c_5
      refine lv_aload_n (pc := 9) hx hb dX7_keep_9 rfl (lv_at hl 0 rfl) ?_
      refine z_get (pc := 10) cx (hW.at 0 rfl) (C := RX7) (T := TX7) (N := 11) rfl i_X7 0 rfl m_fl_X7_10 rfl dX7_keep_10 ?_
      refine lv_iload_n (pc := 13) hx hb dX7_keep_13 rfl (lv_at hl 3 rfl) ?_
      refine k_X1_isThing (pc := 14) (x := x) cx hW (by first | assumption | omega) (by first | assumption | omega) m_ml_X7_216 ⟨Nat.le_of_ble_eq_true rfl, Nat.le_of_ble_eq_true rfl⟩ hl.1 rfl (by simp [Value.category]) dX7_keep_14 ⟨Nat.le_refl _, Nat.le_refl _⟩ ?_
      refine z_ifeq (pc := 17) (tgt := 24) hx hb dX7_keep_17 (by decide) (fun c_8 => ?_) (fun c_8 => ?_)
      · skip
        refine lv_iconst (pc := 24) (v := 0) hx hb dX7_keep_24 (by decide) ?_
        refine lv_istore (pc := 25) (lv' := [(4, .int 0), (0, .ref (b 0)), (1, .int d), (2, .int 1), (3, .int x)]) hx hb dX7_keep_25 hl (by decide) rfl (fun ls hl => ?_)
        refine lv_iload_n (pc := 27) hx hb dX7_keep_27 rfl (lv_at hl 2 rfl) ?_
        refine k_X7_isShelf (pc := 28) (x := d) cx  m_ml_X7_343 ⟨Nat.le_of_ble_eq_true rfl, Nat.le_of_ble_eq_true rfl⟩ hl.1 rfl (by simp [Value.category]) dX7_keep_28 ⟨Nat.le_refl _, Nat.le_refl _⟩ ?_
        refine z_ifeq (pc := 31) (tgt := 39) hx hb dX7_keep_31 (by decide) (fun c_9 => ?_) (fun c_9 => ?_)
        · skip
          have hko : keepO r d 1 x = false := by unfold keepO; simp [c_1, c_8, c_9]
          refine lv_iconst (pc := 39) (v := (-1)) hx hb dX7_keep_39 (by decide) ?_
          exact z_wiret cx hr hlk dX7_keep_40 hS ⟨_, _, (sI (by unfold keepR; rw [if_neg (fun q => absurd (hko.symm.trans q) (by decide))])), (by rw [show keepK r kp d 1 x = kp by unfold keepK; rw [if_neg (fun q => absurd (hko.symm.trans q) (by decide))], show keepP r pr d 1 x = pr by unfold keepP; rw [if_neg (fun q => absurd (hko.symm.trans q.1) (by decide))], show keepT r ts d 1 x = ts by unfold keepT; rw [if_neg (fun q => absurd (hko.symm.trans q.1) (by decide))]]; exact hSh), (fun _ _ h => h), hW⟩
        · skip
          have hd7 := c_9
          obtain ⟨k, hk, rfl⟩ := shelf_nat c_9
          have hK := iN_nI (n := k) (by omega)
          refine lv_iload (pc := 34) hx hb dX7_keep_34 (lv_at hl 0 rfl) ?_
          refine lv_if_ne (pc := 36) (tgt := 41) hx hb dX7_keep_36 (by decide) (fun c => (c (by decide)).elim) (fun _ => ?_)
          have hko : keepO r (nI k) 1 x = false := by unfold keepO; simp [c_1, c_8, c_9]
          refine lv_iconst (pc := 39) (v := (-1)) hx hb dX7_keep_39 (by decide) ?_
          exact z_wiret cx hr hlk dX7_keep_40 hS ⟨_, _, (sI (by unfold keepR; rw [if_neg (fun q => absurd (hko.symm.trans q) (by decide))])), (by rw [show keepK r kp (nI k) 1 x = kp by unfold keepK; rw [if_neg (fun q => absurd (hko.symm.trans q) (by decide))], show keepP r pr (nI k) 1 x = pr by unfold keepP; rw [if_neg (fun q => absurd (hko.symm.trans q.1) (by decide))], show keepT r ts (nI k) 1 x = ts by unfold keepT; rw [if_neg (fun q => absurd (hko.symm.trans q.1) (by decide))]]; exact hSh), (fun _ _ h => h), hW⟩
      · skip
        obtain ⟨n, hn, rfl⟩ := th_nat hC c_8
        have hN := iN_nI (n := n) (by omega)
        obtain ⟨q1, h1q1, h2q1⟩ := hTh n hn
        refine lv_iconst (pc := 20) (v := 1) hx hb dX7_keep_20 (by decide) ?_
        refine lv_goto (pc := 21) (tgt := 25) hx hb dX7_keep_21 (by decide) ?_
        refine lv_istore (pc := 25) (lv' := [(4, .int 1), (0, .ref (b 0)), (1, .int d), (2, .int 1), (3, .int (nI n))]) hx hb dX7_keep_25 hl (by decide) rfl (fun ls hl => ?_)
        refine lv_iload_n (pc := 27) hx hb dX7_keep_27 rfl (lv_at hl 2 rfl) ?_
        refine k_X7_isShelf (pc := 28) (x := d) cx  m_ml_X7_343 ⟨Nat.le_of_ble_eq_true rfl, Nat.le_of_ble_eq_true rfl⟩ hl.1 rfl (by simp [Value.category]) dX7_keep_28 ⟨Nat.le_refl _, Nat.le_refl _⟩ ?_
        refine z_ifeq (pc := 31) (tgt := 39) hx hb dX7_keep_31 (by decide) (fun c_11 => ?_) (fun c_11 => ?_)
        · skip
          have hko : keepO r d 1 (nI n) = false := by unfold keepO; simp [c_1, c_8, c_11]
          refine lv_iconst (pc := 39) (v := (-1)) hx hb dX7_keep_39 (by decide) ?_
          exact z_wiret cx hr hlk dX7_keep_40 hS ⟨_, _, (sI (by unfold keepR; rw [if_neg (fun q => absurd (hko.symm.trans q) (by decide))])), (by rw [show keepK r kp d 1 (nI n) = kp by unfold keepK; rw [if_neg (fun q => absurd (hko.symm.trans q) (by decide))], show keepP r pr d 1 (nI n) = pr by unfold keepP; rw [if_neg (fun q => absurd (hko.symm.trans q.1) (by decide))], show keepT r ts d 1 (nI n) = ts by unfold keepT; rw [if_neg (fun q => absurd (hko.symm.trans q.1) (by decide))]]; exact hSh), (fun _ _ h => h), hW⟩
        · skip
          have hd7 := c_11
          obtain ⟨k, hk, rfl⟩ := shelf_nat c_11
          have hK := iN_nI (n := k) (by omega)
          refine lv_iload (pc := 34) hx hb dX7_keep_34 (lv_at hl 0 rfl) ?_
          refine lv_if_ne (pc := 36) (tgt := 41) hx hb dX7_keep_36 (by decide) (fun _ => ?_) (fun c => absurd c (by decide))
          refine lv_aload_n (pc := 41) hx hb dX7_keep_41 rfl (lv_at hl 1 rfl) ?_
          refine z_get (pc := 42) cx (hW.at 0 rfl) (C := RX7) (T := TX7) (N := 11) rfl i_X7 6 rfl m_fl_X7_38 rfl dX7_keep_42 ?_
          refine lv_iload_n (pc := 45) hx hb dX7_keep_45 rfl (lv_at hl 2 rfl) ?_
          refine lv_iload_n (pc := 46) hx hb dX7_keep_46 rfl (lv_at hl 3 rfl) ?_
          refine lv_if_ne (pc := 47) (tgt := 54) hx hb dX7_keep_47 (by decide) (fun _ => ?_) (fun c => absurd c (by decide))
          refine lv_aload_n (pc := 54) hx hb dX7_keep_54 rfl (lv_at hl 1 rfl) ?_
          refine z_get (pc := 55) cx (hW.at 0 rfl) (C := RX7) (T := TX7) (N := 11) rfl i_X7 0 rfl m_fl_X7_10 rfl dX7_keep_55 ?_
          refine lv_iload_n (pc := 58) hx hb dX7_keep_58 rfl (lv_at hl 4 rfl) ?_
          refine k_X1_thingAt (pc := 59) (n := n) (q := q1) cx hW hC htN hn h1q1 m_ml_X7_133 ⟨Nat.le_of_ble_eq_true rfl, Nat.le_of_ble_eq_true rfl⟩ hl.1 rfl (by simp [Value.category]) dX7_keep_59 ⟨Nat.le_refl _, Nat.le_refl _⟩ ?_
          refine z_aast (pc := 62) (f := qt) (j := k) cx hW hS 1 2 6 rfl rfl (hW.dyn h2q1) rfl (hFb 1) rfl (by omega) (by decide) dX7_keep_62 (fun H locs hW hS => ?_)
          have hW : WW E (wK b E.2.1 tl pd (va_up qt k (some q1)) qr tbu wst asw pN tN aN hd dr pl rm ps wx pp tp ap sg uh ud up ur us ux) G H := hW
          refine lv_aload_n (pc := 63) hx hb dX7_keep_63 rfl (lv_at hl 1 rfl) ?_
          refine z_get (pc := 64) cx (hW.at 0 rfl) (C := RX7) (T := TX7) (N := 11) rfl i_X7 7 rfl m_fl_X7_44 rfl dX7_keep_64 ?_
          refine lv_iload_n (pc := 67) hx hb dX7_keep_67 rfl (lv_at hl 2 rfl) ?_
          refine lv_null (pc := 68) hx hb dX7_keep_68 ?_
          refine z_aastN (pc := 69) (f := qr) (j := k) cx hW hS 2 4 rfl rfl (hFb 2) rfl (by omega) (by decide) dX7_keep_69 (fun H locs hW hS => ?_)
          have hW : WW E (wK b E.2.1 tl pd (va_up qt k (some q1)) (va_up qr k none) tbu wst asw pN tN aN hd dr pl rm ps wx pp tp ap sg uh ud up ur us ux) G H := hW
          refine lv_iconst (pc := 70) (v := 0) hx hb dX7_keep_70 (by decide) ?_
          exact z_wiret cx hr hlk dX7_keep_71 hS ⟨_, _, (sI (by have hko : keepO r (nI k) 1 (nI n) = true := (by unfold keepO; simp [hd7, c_1, c_8, c_11]); unfold keepR; rw [if_pos hko])), (by have hko : keepO r (nI k) 1 (nI n) = true := (by unfold keepO; simp [hd7, c_1, c_8, c_11]); rw [show keepK r kp (nI k) 1 (nI n) = upd kp k 1 by unfold keepK; rw [if_pos hko, hK], show keepP r pr (nI k) 1 (nI n) = upd pr k (prK (g5 r n 0) (g5 r n 3)) by unfold keepP prO; rw [if_pos ⟨hko, rfl⟩, hK, hN], show keepT r ts (nI k) 1 (nI n) = upd ts k (tsK (nI n) (g5 r n 0) (g5 r n 3)) by unfold keepT tsV tsK prO; rw [if_pos ⟨hko, rfl⟩, hK, hN]]; exact ShG_keep1 hSh k h2q1), (fun k q h => qk_up k q h), hW⟩
theorem k_X7_keep {p : Program} {l : Launch} {e : Env} {R : Room} {s : State} {m : MethodId} {args : Array Value} {below : List Frame} {meth : Method} {c : Code} {H H0 : Heap} {locs : List Loc} {cells slots : Nat} {Q : State → Prop} {cc : ByteArray} {pc index : Nat} {ls : Array Slot} {rest st0 : List Value} {E : zE} {own : String} {nL : Nat} {F : Nat → Prop} {b : Nat → Nat} {tl : va_W} {pd : Bool} {qt : Nat → Option Nat} {qr : Nat → Option Nat} {tbu : Nat → Int32} {wst : Nat → Int32} {asw : Nat → Int32} {pN : Int32} {tN : Int32} {aN : Int32} {hd : Int32} {dr : Int32} {pl : Int32} {rm : Int32} {ps : Int32} {wx : Nat → Int32} {pp : Nat → Option Nat} {tp : Nat → Option Nat} {ap : Nat → Option Nat} {sg : Nat → Int32} {uh : Int32} {ud : Int32} {up : Int32} {ur : Int32} {us : Int32} {ux : Nat → Int32} {G : zG} {d w x : Int32} {r : Nat → Int32} {kp so sz el pr ts : Nat → Int32} (cx : Cx E p s args m c own cc nL) (hW : WW E (wK b E.2.1 tl pd qt qr tbu wst asw pN tN aN hd dr pl rm ps wx pp tp ap sg uh ud up ur us ux) G H) (hS : va_S F H0 H locs) (zF : ∀ q, (bF b) q → F q) (hG : CG E.2.1 G r pN tN aN wx pp tp ap) (hSh : ShG E.2.1 G qt qr kp so sz el pr ts) (zl : Cond.methodLink own index yX7_keep ∈ AllW) (zR : 2 + 1 ≤ R.frames ∧ 8 + (5 + 11) + 42 ≤ R.locals) (zs : ls.size = nL) (zt : st0 = ([.int d, .int w, .int x] : List Value).reverse ++ .ref (b 0) :: rest) (z8 : (rest.map fun v => v.category).sum ≤ 8) (zd : decode cc pc = .ok (.invokevirtual index, 3)) (zf : cells ≤ R.cells ∧ slots ≤ R.slots) (kk0 : ∀ (qt2 : Nat → Option Nat) (qr2 : Nat → Option Nat) (H1 : Heap) (locs1 : List Loc), (ShG E.2.1 G qt2 qr2 (keepK r kp d w x) so sz el (keepP r pr d w x) (keepT r ts d w x)) → (∀ k q, qr2 k = some q → qr k = some q) → WW E (wK b E.2.1 tl pd qt2 qr2 tbu wst asw pN tN aN hd dr pl rm ps wx pp tp ap sg uh ud up ur us ux) G H1 → va_S F H0 H1 locs1 → W p l e R s m args below meth c H1 locs1 cells slots Q (F0 m (pc + 3) ls (.int (keepR r d w x) :: rest))) : W p l e R s m args below meth c H locs cells slots Q (F0 m pc ls st0) := by
  refine z_callVw cx vm_X7_keep (c_X7_keep l E b tl pd qt qr tbu wst asw pN tN aN hd dr pl rm ps wx pp tp ap sg uh ud up ur us ux G d w x r kp so sz el pr ts hG hSh) (z_rec cx.2 (hW.at 0 rfl) rfl) hW hS zF zl ⟨rfl, rfl⟩ zR rfl zs zt z8 zd zf (fun v H1 locs1 hq hS1 _ => ?_)
  rcases hq with ⟨qt2, qr2, rfl, hSh2, hqk, hW1⟩
  · exact kk0 qt2 qr2 H1 locs1 hSh2 hqk hW1 hS1
