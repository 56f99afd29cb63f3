theorem k_X4_place {p : Program} {l : Launch} {e : Env} {R : Room} {s : State} {m : MethodId} {args : Array Value} {below : List Frame} {meth : Method} {c : Code} {H H0 : Heap} {locs : List Loc} {cells slots : Nat} {Q : State → Prop} {cc : ByteArray} {pc index : Nat} {ls : Array Slot} {rest st0 : List Value} {E : zE} {own : String} {nL : Nat} {ws : va_W} {G : zG} {F : Nat → Prop} {q w z : Nat} {o i vv : Int32} {x : Nat → Int32} (cx : Cx E p s args m c own cc nL) (hW : WW E ws G H) (hS : va_S F H0 H locs) (zF : F w) (hq : G q = some (ceW o w)) (hw : G w = some (ceI E.2.1 z x)) (hz : z ≤ 100) (zl : Cond.methodLink own index yX4_place ∈ AllW) (zR : 1 + 1 ≤ R.frames ∧ 8 + (3 + 11) + 21 ≤ R.locals) (zs : ls.size = nL) (zt : st0 = ([.int i, .int vv] : List Value).reverse ++ .ref q :: rest) (z8 : (rest.map fun v => v.category).sum ≤ 8) (zd : decode cc pc = .ok (.invokevirtual index, 3)) (zf : cells ≤ R.cells ∧ slots ≤ R.slots) (kk : ∀ (H1 : Heap) (locs1 : List Loc), WW E ws (va_up G w (some (ceI E.2.1 z (if inL i 0 (nI z - 1) = true then upd x (iN i) (narV o vv) else x)))) H1 → va_S F H0 H1 locs1 → W p l e R s m args below meth c H1 locs1 cells slots Q (F0 m (pc + 3) ls (.int (bI (inL i 0 (nI z - 1))) :: rest))) : W p l e R s m args below meth c H locs cells slots Q (F0 m pc ls st0) := by
  refine z_callVw cx vm_X4_place (c_X4_place l E q w z o x i vv hz) (z_rec cx.2 (hW.dyn hq) rfl) (WW.two (hW.dyn hq) (hW.dyn hw) (G_ne hq hw inr_inl)) hS (fun y h => h ▸ zF) zl ⟨rfl, rfl⟩ zR rfl zs zt z8 zd zf (fun v H1 locs1 hq1 hS1 hk => ?_)
  obtain ⟨rfl, hW1⟩ := hq1
  exact kk H1 locs1 (hW.setG hw (hW1.at 1 rfl) (fun z g1 g2 => hk.2 z g1 g2)) hS1
theorem k_X4_copyTo2 {p : Program} {l : Launch} {e : Env} {R : Room} {s : State} {m : MethodId} {args : Array Value} {below : List Frame} {meth : Method} {c : Code} {H H0 : Heap} {locs : List Loc} {cells slots : Nat} {Q : State → Prop} {cc : ByteArray} {pc index : Nat} {ls : Array Slot} {rest st0 : List Value} {E : zE} {own : String} {nL : Nat} {ws : va_W} {G : zG} {F : Nat → Prop} {q w z q2 w2 z2 : Nat} {o u i j n : Int32} {x y : Nat → Int32} (cx : Cx E p s args m c own cc nL) (hW : WW E ws G H) (hS : va_S F H0 H locs) (zF : F w2) (hq : G q = some (ceW o w)) (hw : G w = some (ceI E.2.1 z x)) (hq2 : G q2 = some (ceW u w2)) (hw2 : G w2 = some (ceI E.2.1 z2 y)) (hqq : q ≠ q2) (hww : w ≠ w2) (hz : z ≤ 100) (hz2 : z2 ≤ 100) (zl : Cond.methodLink own index yX4_copyTo ∈ AllW) (zR : 1 + 1 ≤ R.frames ∧ 8 + (5 + 11) + 80 ≤ R.locals) (zs : ls.size = nL) (zt : st0 = ([.ref q2, .int i, .int j, .int n] : List Value).reverse ++ .ref q :: rest) (z8 : (rest.map fun v => v.category).sum ≤ 8) (zd : decode cc pc = .ok (.invokevirtual index, 3)) (zf : cells ≤ R.cells ∧ slots ≤ R.slots) (kk : ∀ (H1 : Heap) (locs1 : List Loc), WW E ws (va_up G w2 (some (ceI E.2.1 z2 (if (hfB z i n && hfB z2 j n) = true then va_cpy x y (iN i) (iN j) (iN n) else y)))) H1 → va_S F H0 H1 locs1 → W p l e R s m args below meth c H1 locs1 cells slots Q (F0 m (pc + 3) ls (.int (bI (hfB z i n && hfB z2 j n)) :: rest))) : W p l e R s m args below meth c H locs cells slots Q (F0 m pc ls st0) := by
  refine z_callVw cx vm_X4_copyTo (c_X4_copyTo2 l E q w q2 w2 z z2 o u x y i j n hz hz2) (z_rec cx.2 (hW.dyn hq) rfl) (WW.four (hW.dyn hq) (hW.dyn hw) (hW.dyn hq2) (hW.dyn hw2) (G_ne hq hw inr_inl) hqq (G_ne hq hw2 inr_inl) (G_ne hw hq2 (Ne.symm inr_inl)) hww (G_ne hq2 hw2 inr_inl)) hS (fun y h => h ▸ zF) zl ⟨rfl, rfl⟩ zR rfl zs zt z8 zd zf (fun v H1 locs1 hq1 hS1 hk => ?_)
  obtain ⟨rfl, hW1⟩ := hq1
  exact kk H1 locs1 (hW.setG hw2 (hW1.at 3 rfl) (fun z g1 g2 => hk.2 z g1 g2)) hS1
theorem k_X4_copyTo1 {p : Program} {l : Launch} {e : Env} {R : Room} {s : State} {m : MethodId} {args : Array Value} {below : List Frame} {meth : Method} {c : Code} {H H0 : Heap} {locs : List Loc} {cells slots : Nat} {Q : State → Prop} {cc : ByteArray} {pc index : Nat} {ls : Array Slot} {rest st0 : List Value} {E : zE} {own : String} {nL : Nat} {ws : va_W} {G : zG} {F : Nat → Prop} {q w z : Nat} {o i j n : Int32} {x : Nat → Int32} (cx : Cx E p s args m c own cc nL) (hW : WW E ws G H) (hS : va_S F H0 H locs) (zF : F w) (hq : G q = some (ceW o w)) (hw : G w = some (ceI E.2.1 z x)) (hz : z ≤ 100) (zl : Cond.methodLink own index yX4_copyTo ∈ AllW) (zR : 1 + 1 ≤ R.frames ∧ 8 + (5 + 11) + 80 ≤ R.locals) (zs : ls.size = nL) (zt : st0 = ([.ref q, .int i, .int j, .int n] : List Value).reverse ++ .ref q :: rest) (z8 : (rest.map fun v => v.category).sum ≤ 8) (zd : decode cc pc = .ok (.invokevirtual index, 3)) (zf : cells ≤ R.cells ∧ slots ≤ R.slots) (kk : ∀ (H1 : Heap) (locs1 : List Loc), WW E ws (va_up G w (some (ceI E.2.1 z (if (hfB z i n && hfB z j n) = true then va_cpy x x (iN i) (iN j) (iN n) else x)))) H1 → va_S F H0 H1 locs1 → W p l e R s m args below meth c H1 locs1 cells slots Q (F0 m (pc + 3) ls (.int (bI (hfB z i n && hfB z j n)) :: rest))) : W p l e R s m args below meth c H locs cells slots Q (F0 m pc ls st0) := by
  refine z_callVw cx vm_X4_copyTo (c_X4_copyTo1 l E q w z o x i j n hz) (z_rec cx.2 (hW.dyn hq) rfl) (WW.two (hW.dyn hq) (hW.dyn hw) (G_ne hq hw inr_inl)) hS (fun y h => h ▸ zF) zl ⟨rfl, rfl⟩ zR rfl zs zt z8 zd zf (fun v H1 locs1 hq1 hS1 hk => ?_)
  obtain ⟨rfl, hW1⟩ := hq1
  exact kk H1 locs1 (hW.setG hw (hW1.at 1 rfl) (fun z g1 g2 => hk.2 z g1 g2)) hS1
theorem k_X5_become_n {p : Program} {l : Launch} {e : Env} {R : Room} {s : State} {m : MethodId} {args : Array Value} {below : List Frame} {meth : Method} {c : Code} {H H0 : Heap} {locs : List Loc} {cells slots : Nat} {Q : State → Prop} {cc : ByteArray} {pc index : Nat} {ls : Array Slot} {rest st0 : List Value} {E : zE} {own : String} {nL : Nat} {ws : va_W} {G : zG} {F : Nat → Prop} {q w t w2 i j : Nat} {u0 u1 u2 u3 u4 v0 v1 v2 v3 v4 : Int32} {x y : Nat → Int32} (cx : Cx E p s args m c own cc nL) (hW : WW E ws G H) (hS : va_S F H0 H locs) (zF : F q) (zF2 : F w) (hq : G q = some (ceS u0 u1 u2 u3 u4 w)) (hw : G w = some (ceI E.2.1 10 x)) (hi : ws[i]? = some (t, ceS v0 v1 v2 v3 v4 w2)) (hj : ws[j]? = some (w2, ceI E.2.1 10 y)) (hij : i ≠ j) (zl : Cond.methodLink own index yX5_become ∈ AllW) (zR : 1 + 1 ≤ R.frames ∧ 8 + (2 + 11) + 80 ≤ R.locals) (zs : ls.size = nL) (zt : st0 = ([.ref t] : List Value).reverse ++ .ref q :: rest) (z8 : (rest.map fun v => v.category).sum ≤ 8) (zd : decode cc pc = .ok (.invokevirtual index, 3)) (zf : cells ≤ R.cells ∧ slots ≤ R.slots) (kk : ∀ (H1 : Heap) (locs1 : List Loc), WW E ws (va_up (va_up G q (some (ceS v0 v1 v2 v3 v4 w))) w (some (ceI E.2.1 10 y))) H1 → va_S F H0 H1 locs1 → W p l e R s m args below meth c H1 locs1 cells slots Q (F0 m (pc + 3) ls (rest))) : W p l e R s m args below meth c H locs cells slots Q (F0 m pc ls st0) := by
  have htw : t ≠ w2 := fun h => hij (hW.2.1.1 i j _ _ hi hj h)
  refine z_callVw cx vm_X5_become (c_X5_become_n l E q w t w2 u0 u1 u2 u3 u4 v0 v1 v2 v3 v4 x y) (z_rec cx.2 (hW.dyn hq) rfl) (WW.four (hW.dyn hq) (hW.dyn hw) (hW.at i hi) (hW.at j hj) (G_ne hq hw inr_inl) (hW.ne i hi hq) (hW.ne j hj hq) (hW.ne i hi hw) (hW.ne j hj hw) htw) hS (fun y h => h.elim (fun g => g ▸ zF) (fun g => g ▸ zF2)) zl ⟨rfl, rfl⟩ zR rfl zs zt z8 zd zf (fun v H1 locs1 hq1 hS1 hk => ?_)
  obtain ⟨rfl, hW1⟩ := hq1
  refine kk H1 locs1 (WW.set2 hW hq hw (G_ne hq hw inr_inl) (hW1.at 0 rfl) (hW1.at 1 rfl) (fun z g1 g2 g3 => hk.2 z g1 (fun g => g.elim g2 g3))) hS1
theorem vm_X7_put : zVm yX7_put cX7_put 5 (some FieldType.int) 3 := ⟨m_co_X7_put, m_in_RX7, ⟨m_im_X7_put, m_se_X7_X7_put⟩, by decide +kernel, by decide +kernel, by decide +kernel⟩
set_option maxHeartbeats 1000000 in
set_option maxRecDepth 100000 in
theorem c_X7_put (l : Launch) (E : zE) (b : Nat → Nat) (tl : va_W) (pd : Bool) (qt : Nat → Option Nat) (qr : Nat → Option Nat) (tbu : Nat → Int32) (wst : Nat → Int32) (asw : Nat → Int32) (pN : Int32) (tN : Int32) (aN : Int32) (hd : Int32) (dr : Int32) (pl : Int32) (rm : Int32) (ps : Int32) (wx : Nat → Int32) (pp : Nat → Option Nat) (tp : Nat → Option Nat) (ap : Nat → Option Nat) (sg : Nat → Int32) (uh : Int32) (ud : Int32) (up : Int32) (ur : Int32) (us : Int32) (ux : Nat → Int32) (G : zG) (d i vv : Int32) (kp so sz el pr ts : Nat → Int32) (hSh : ShG E.2.1 G qt qr kp so sz el pr ts) (hrd : RwD G qr) : Met l yX7_put (.code yX7_put cX7_put 5 (some FieldType.int) :: AllW) (rm0' 3 63) (zP E (fun H => WW E (wK b E.2.1 tl pd qt qr tbu wst asw pN tN aN hd dr pl rm ps wx pp tp ap sg uh ud up ur us ux) G H) [.ref (b 0), .int d, .int i, .int vv]) (zQ (fun (_ : Heap) (v : Option Value) (H1 : Heap) => (∃ (G2 : zG), v = some (.int (putR kp so sz d i)) ∧ (PutG E.2.1 G G2 qr) ∧ (ShG E.2.1 G2 qt qr kp so sz (putE kp so sz el d i vv) pr ts) ∧ WW E (wK b E.2.1 tl pd qt qr tbu wst asw pN tN aN hd dr pl rm ps wx pp tp ap sg uh ud up ur us ux) G2 H1)) (bFr b G qr)) 0 0 (bFr b G qr) := by
  refine z_body (own := RX7) (by decide) rfl rfl ?_
  intro p e s m args below meth c ls cx hr hlk hnm hW hl
  have hx := cx.x
  have hb := cx.b
  have hl : lv_has ls 5 [(0, .ref (b 0)), (1, .int d), (2, .int i), (3, .int vv)] := hl
  have hFb : ∀ k, (bFr b G qr) (b k) := fun k => Or.inl (bF_in b k)
  have hS : va_S (bFr b G qr) s.heap s.heap [] := va_S.rf
  refine lv_aload_n (pc := 0) hx hb dX7_put_0 rfl (lv_at hl 0 rfl) ?_
  refine lv_iload_n (pc := 1) hx hb dX7_put_1 rfl (lv_at hl 1 rfl) ?_
  refine k_X7_rowRefusal (pc := 2) (d := d) cx hW (by first | assumption | omega) m_ml_X7_58 ⟨Nat.le_of_ble_eq_true rfl, Nat.le_of_ble_eq_true rfl⟩ hl.1 rfl (by simp [Value.category]) dX7_put_2 ⟨Nat.le_refl _, Nat.le_refl _⟩ ?_
  refine lv_istore (pc := 5) (lv' := [(4, .int (wrR kp so d (-1))), (0, .ref (b 0)), (1, .int d), (2, .int i), (3, .int vv)]) hx hb dX7_put_5 hl (by decide) rfl (fun ls hl => ?_)
  refine lv_iload (pc := 7) hx hb dX7_put_7 (lv_at hl 0 rfl) ?_
  refine lv_if_eq (pc := 9) (tgt := 15) hx hb dX7_put_9 (by decide) (fun c_1 => ?_) (fun c_1 => ?_)
  · skip
    have hd0 := c_1
    obtain ⟨n, hn, rfl, hk1, ht1, q1, w1, x1, hr1, hq1, hw1, hx1⟩ := row_get hSh c_1
    have hN1 := iN_nI (n := n) (by omega)
    have hz1 := sz_nat hSh.1 hn
    have hzl1 := hz1.2
    refine lv_aload_n (pc := 15) hx hb dX7_put_15 rfl (lv_at hl 1 rfl) ?_
    refine z_get (pc := 16) cx (hW.at 0 rfl) (C := RX7) (T := TX7) (N := 11) rfl i_X7 7 rfl m_fl_X7_44 rfl dX7_put_16 ?_
    refine lv_iload_n (pc := 19) hx hb dX7_put_19 rfl (lv_at hl 2 rfl) ?_
    refine z_aald (pc := 20) (f := qr) (j := n) cx 4 rfl (hW.at 2 rfl) rfl (by omega) (by decide) dX7_put_20 ?_
    refine z_rfS hr1 ?_
    refine lv_iload_n (pc := 21) hx hb dX7_put_21 rfl (lv_at hl 3 rfl) ?_
    refine lv_iload_n (pc := 22) hx hb dX7_put_22 rfl (lv_at hl 4 rfl) ?_
    refine k_X4_place (pc := 23) (i := i) (vv := vv) (q := q1) (w := w1) (z := iN (sz n)) (o := so n) (x := x1) cx hW hS (Or.inr ⟨n, q1, so n, hr1, hq1⟩) hq1 hw1 hzl1 m_ml_X7_348 ⟨Nat.le_of_ble_eq_true rfl, Nat.le_of_ble_eq_true rfl⟩ hl.1 rfl (by simp [Value.category]) dX7_put_23 ⟨Nat.le_refl _, Nat.le_refl _⟩ (fun  H locs  hW hS => ?_)
    have hW : WW E (wK b E.2.1 tl pd qt qr tbu wst asw pN tN aN hd dr pl rm ps wx pp tp ap sg uh ud up ur us ux) (va_up G w1 (some (ceI E.2.1 (iN (sz n)) (if inL i 0 (nI (iN (sz n)) - 1) = true then upd x1 (iN i) (narV (so n) vv) else x1)))) H := hW
    have hsz1 : sz n - 1 = nI (iN (sz n)) - 1 := congrArg (fun z => z - 1) hz1.1
    refine z_ifeq (pc := 26) (tgt := 33) hx hb dX7_put_26 (by decide) (fun c_2 => ?_) (fun c_2 => ?_)
    · skip
      refine lv_bipush (pc := 33) (v := (-13)) hx hb dX7_put_33 (by decide) ?_
      exact z_wiret cx hr hlk dX7_put_35 hS ⟨_, (sI (by first | rfl | (simp [putR, c_1, hN1, hk1, hsz1, c_2]; done))), (Or.inr ⟨n, q1, so n, w1, iN (sz n), x1, _, hr1, hq1, hw1, rfl⟩), (pt_sh hSh hrd hn hr1 hq1 hw1 hx1 hz1 hd0), hW⟩
    · skip
      refine lv_iconst (pc := 29) (v := 0) hx hb dX7_put_29 (by decide) ?_
      refine lv_goto (pc := 30) (tgt := 35) hx hb dX7_put_30 (by decide) ?_
      exact z_wiret cx hr hlk dX7_put_35 hS ⟨_, (sI (by first | rfl | (simp [putR, c_1, hN1, hk1, hsz1, c_2]; done))), (Or.inr ⟨n, q1, so n, w1, iN (sz n), x1, _, hr1, hq1, hw1, rfl⟩), (pt_sh hSh hrd hn hr1 hq1 hw1 hx1 hz1 hd0), hW⟩
  · skip
    have hrr := c_1
    refine lv_iload (pc := 12) hx hb dX7_put_12 (lv_at hl 0 rfl) ?_
    exact z_wiret cx hr hlk dX7_put_14 hS ⟨_, (sI (by simp [putR, c_1])), (Or.inl rfl), (by rw [show putE kp so sz el d i vv = el by unfold putE; rw [if_neg (fun q => hrr q.1)]]; exact hSh), hW⟩
theorem k_X7_put {p : Program} {l : Launch} {e : Env} {R : Room} {s : State} {m : MethodId} {args : Array Value} {below : List Frame} {meth : Method} {c : Code} {H H0 : Heap} {locs : List Loc} {cells slots : Nat} {Q : State → Prop} {cc : ByteArray} {pc index : Nat} {ls : Array Slot} {rest st0 : List Value} {E : zE} {own : String} {nL : Nat} {F : Nat → Prop} {b : Nat → Nat} {tl : va_W} {pd : Bool} {qt : Nat → Option Nat} {qr : Nat → Option Nat} {tbu : Nat → Int32} {wst : Nat → Int32} {asw : Nat → Int32} {pN : Int32} {tN : Int32} {aN : Int32} {hd : Int32} {dr : Int32} {pl : Int32} {rm : Int32} {ps : Int32} {wx : Nat → Int32} {pp : Nat → Option Nat} {tp : Nat → Option Nat} {ap : Nat → Option Nat} {sg : Nat → Int32} {uh : Int32} {ud : Int32} {up : Int32} {ur : Int32} {us : Int32} {ux : Nat → Int32} {G : zG} {d i vv : Int32} {kp so sz el pr ts : Nat → Int32} (cx : Cx E p s args m c own cc nL) (hW : WW E (wK b E.2.1 tl pd qt qr tbu wst asw pN tN aN hd dr pl rm ps wx pp tp ap sg uh ud up ur us ux) G H) (hS : va_S F H0 H locs) (zF : ∀ q, (bFr b G qr) q → F q) (hSh : ShG E.2.1 G qt qr kp so sz el pr ts) (hrd : RwD G qr) (zl : Cond.methodLink own index yX7_put ∈ AllW) (zR : 3 + 1 ≤ R.frames ∧ 8 + (5 + 11) + 63 ≤ R.locals) (zs : ls.size = nL) (zt : st0 = ([.int d, .int i, .int vv] : List Value).reverse ++ .ref (b 0) :: rest) (z8 : (rest.map fun v => v.category).sum ≤ 8) (zd : decode cc pc = .ok (.invokevirtual index, 3)) (zf : cells ≤ R.cells ∧ slots ≤ R.slots) (kk0 : ∀ (G2 : zG) (H1 : Heap) (locs1 : List Loc), (PutG E.2.1 G G2 qr) → (ShG E.2.1 G2 qt qr kp so sz (putE kp so sz el d i vv) pr ts) → WW E (wK b E.2.1 tl pd qt qr tbu wst asw pN tN aN hd dr pl rm ps wx pp tp ap sg uh ud up ur us ux) G2 H1 → va_S F H0 H1 locs1 → W p l e R s m args below meth c H1 locs1 cells slots Q (F0 m (pc + 3) ls (.int (putR kp so sz d i) :: rest))) : W p l e R s m args below meth c H locs cells slots Q (F0 m pc ls st0) := by
  refine z_callVw cx vm_X7_put (c_X7_put l E b tl pd qt qr tbu wst asw pN tN aN hd dr pl rm ps wx pp tp ap sg uh ud up ur us ux G d i vv kp so sz el pr ts hSh hrd) (z_rec cx.2 (hW.at 0 rfl) rfl) hW hS zF zl ⟨rfl, rfl⟩ zR rfl zs zt z8 zd zf (fun v H1 locs1 hq hS1 _ => ?_)
  rcases hq with ⟨G2, rfl, hpg, hSh2, hW1⟩
  · exact kk0 G2 H1 locs1 hpg hSh2 hW1 hS1
theorem vm_X7_copy : zVm yX7_copy cX7_copy 7 (some FieldType.int) 5 := ⟨m_co_X7_copy, m_in_RX7, ⟨m_im_X7_copy, m_se_X7_X7_copy⟩, by decide +kernel, by decide +kernel, by decide +kernel⟩
set_option maxHeartbeats 1000000 in
set_option maxRecDepth 100000 in
theorem c_X7_copy (l : Launch) (E : zE) (b : Nat → Nat) (tl : va_W) (pd : Bool) (qt : Nat → Option Nat) (qr : Nat → Option Nat) (tbu : Nat → Int32) (wst : Nat → Int32) (asw : Nat → Int32) (pN : Int32) (tN : Int32) (aN : Int32) (hd : Int32) (dr : Int32) (pl : Int32) (rm : Int32) (ps : Int32) (wx : Nat → Int32) (pp : Nat → Option Nat) (tp : Nat → Option Nat) (ap : Nat → Option Nat) (sg : Nat → Int32) (uh : Int32) (ud : Int32) (up : Int32) (ur : Int32) (us : Int32) (ux : Nat → Int32) (G : zG) (d i f j n : Int32) (kp so sz el pr ts : Nat → Int32) (hSh : ShG E.2.1 G qt qr kp so sz el pr ts) (hrd : RwD G qr) : Met l yX7_copy (.code yX7_copy cX7_copy 7 (some FieldType.int) :: AllW) (rm0' 4 104) (zP E (fun H => WW E (wK b E.2.1 tl pd qt qr tbu wst asw pN tN aN hd dr pl rm ps wx pp tp ap sg uh ud up ur us ux) G H) [.ref (b 0), .int d, .int i, .int f, .int j, .int n]) (zQ (fun (_ : Heap) (v : Option Value) (H1 : Heap) => (∃ (G2 : zG), v = some (.int (copyR kp so sz d i f j n)) ∧ (PutG E.2.1 G G2 qr) ∧ (ShG E.2.1 G2 qt qr kp so sz (copyE kp so sz el d i f j n) pr ts) ∧ WW E (wK b E.2.1 tl pd qt qr tbu wst asw pN tN aN hd dr pl rm ps wx pp tp ap sg uh ud up ur us ux) G2 H1)) (bFr b G qr)) 0 0 (bFr b G qr) := by
  refine z_body (own := RX7) (by decide) rfl rfl ?_
  intro p e s m args below meth c ls cx hr hlk hnm hW hl
  have hx := cx.x
  have hb := cx.b
  have hl : lv_has ls 7 [(0, .ref (b 0)), (1, .int d), (2, .int i), (3, .int f), (4, .int j), (5, .int n)] := hl
  have hFb : ∀ k, (bFr b G qr) (b k) := fun k => Or.inl (bF_in b k)
  have hS : va_S (bFr b G qr) s.heap s.heap [] := va_S.rf
  refine lv_aload_n (pc := 0) hx hb dX7_copy_0 rfl (lv_at hl 0 rfl) ?_
  refine lv_iload_n (pc := 1) hx hb dX7_copy_1 rfl (lv_at hl 1 rfl) ?_
  refine lv_iload_n (pc := 2) hx hb dX7_copy_2 rfl (lv_at hl 3 rfl) ?_
  refine k_X7_pairRefusal (pc := 3) (d := d) (f := f) cx hW (by first | assumption | omega) m_ml_X7_367 ⟨Nat.le_of_ble_eq_true rfl, Nat.le_of_ble_eq_true rfl⟩ hl.1 rfl (by simp [Value.category]) dX7_copy_3 ⟨Nat.le_refl _, Nat.le_refl _⟩ ?_
  refine lv_istore (pc := 6) (lv' := [(6, .int (prR kp so d f)), (0, .ref (b 0)), (1, .int d), (2, .int i), (3, .int f), (4, .int j), (5, .int n)]) hx hb dX7_copy_6 hl (by decide) rfl (fun ls hl => ?_)
  refine lv_iload (pc := 8) hx hb dX7_copy_8 (lv_at hl 0 rfl) ?_
  refine lv_if_eq (pc := 10) (tgt := 16) hx hb dX7_copy_10 (by decide) (fun c_1 => ?_) (fun c_1 => ?_)
  · skip
    obtain ⟨hda, hfa, hso⟩ := pr_0 c_1
    obtain ⟨a, ha, rfl, hk1, ht1, q1, w1, x1, hr1, hq1, hw1, hx1⟩ := row_get hSh hda
    have hN1 := iN_nI (n := a) (by omega)
    have hz1 := sz_nat hSh.1 ha
    have hzl1 := hz1.2
    obtain ⟨k, hk, rfl, hk2, ht2, q2, w2, x2, hr2, hq2, hw2, hx2⟩ := row_get hSh hfa
    have hN2 := iN_nI (n := k) (by omega)
    have hz2 := sz_nat hSh.1 hk
    have hzl2 := hz2.2
    refine lv_aload_n (pc := 16) hx hb dX7_copy_16 rfl (lv_at hl 1 rfl) ?_
    refine z_get (pc := 17) cx (hW.at 0 rfl) (C := RX7) (T := TX7) (N := 11) rfl i_X7 7 rfl m_fl_X7_44 rfl dX7_copy_17 ?_
    refine lv_iload_n (pc := 20) hx hb dX7_copy_20 rfl (lv_at hl 2 rfl) ?_
    refine z_aald (pc := 21) (f := qr) (j := a) cx 4 rfl (hW.at 2 rfl) rfl (by omega) (by decide) dX7_copy_21 ?_
    refine z_rfS hr1 ?_
    by_cases c_2 : a = k
    · skip
      subst c_2
      have hqq : q1 = q2 := Option.some.inj (hr1.symm.trans hr2)
      subst hqq
      have hww : w1 = w2 := (ceW_inj (hq1.symm.trans hq2)).2
      subst hww
      refine lv_aload_n (pc := 22) hx hb dX7_copy_22 rfl (lv_at hl 1 rfl) ?_
      refine z_get (pc := 23) cx (hW.at 0 rfl) (C := RX7) (T := TX7) (N := 11) rfl i_X7 7 rfl m_fl_X7_44 rfl dX7_copy_23 ?_
      refine lv_iload_n (pc := 26) hx hb dX7_copy_26 rfl (lv_at hl 4 rfl) ?_
      refine z_aald (pc := 27) (f := qr) (j := a) cx 4 rfl (hW.at 2 rfl) rfl (by omega) (by decide) dX7_copy_27 ?_
      refine z_rfS hr2 ?_
      refine lv_iload_n (pc := 28) hx hb dX7_copy_28 rfl (lv_at hl 3 rfl) ?_
      refine lv_iload (pc := 29) hx hb dX7_copy_29 (lv_at hl 5 rfl) ?_
      refine lv_iload (pc := 31) hx hb dX7_copy_31 (lv_at hl 6 rfl) ?_
      refine k_X4_copyTo1 (pc := 33) (q := q1) (i := i) (j := j) (n := n) (w := w1) (z := iN (sz a)) (o := so a) (x := x1) cx hW hS (Or.inr ⟨_, _, _, hr1, hq1⟩) hq1 hw1 hzl1 m_ml_X7_370 ⟨Nat.le_of_ble_eq_true rfl, Nat.le_of_ble_eq_true rfl⟩ hl.1 rfl (by simp [Value.category]) dX7_copy_33 ⟨Nat.le_refl _, Nat.le_refl _⟩ (fun  H locs  hW hS => ?_)
      have hW : WW E (wK b E.2.1 tl pd qt qr tbu wst asw pN tN aN hd dr pl rm ps wx pp tp ap sg uh ud up ur us ux) (va_up G w1 (some (ceI E.2.1 (iN (sz a)) (if (hfB (iN (sz a)) i n && hfB (iN (sz a)) j n) = true then va_cpy x1 x1 (iN i) (iN j) (iN n) else x1)))) H := hW
      refine z_ifeq (pc := 36) (tgt := 44) hx hb dX7_copy_36 (by decide) (fun c_3 => ?_) (fun c_3 => ?_)
      · skip
        refine lv_bipush (pc := 44) (v := (-13)) hx hb dX7_copy_44 (by decide) ?_
        exact z_wiret cx hr hlk dX7_copy_46 hS ⟨_, (sI (by rw [(cp_ans ha ha hz1 hz1 hda hda rfl), c_3]; rfl)), (Or.inr ⟨_, _, _, _, _, _, _, hr1, hq1, hw1, rfl⟩), (cp_sh hSh hrd ha ha hr1 hq1 hw1 hx1 hx1 hz1 hz1 hda hda rfl), hW⟩
      · skip
        refine lv_iload (pc := 39) hx hb dX7_copy_39 (lv_at hl 6 rfl) ?_
        refine lv_goto (pc := 41) (tgt := 46) hx hb dX7_copy_41 (by decide) ?_
        exact z_wiret cx hr hlk dX7_copy_46 hS ⟨_, (sI (by rw [(cp_ans ha ha hz1 hz1 hda hda rfl), c_3]; rfl)), (Or.inr ⟨_, _, _, _, _, _, _, hr1, hq1, hw1, rfl⟩), (cp_sh hSh hrd ha ha hr1 hq1 hw1 hx1 hx1 hz1 hz1 hda hda rfl), hW⟩
    · skip
      have hak := c_2
      have hww : w1 ≠ w2 := fun e => hak (hrd a k q1 q2 _ _ w1 hr1 hr2 hq1 (e ▸ hq2))
      have hqq : q1 ≠ q2 := fun e => hww (ceW_inj (hq1.symm.trans (e ▸ hq2))).2
      refine lv_aload_n (pc := 22) hx hb dX7_copy_22 rfl (lv_at hl 1 rfl) ?_
      refine z_get (pc := 23) cx (hW.at 0 rfl) (C := RX7) (T := TX7) (N := 11) rfl i_X7 7 rfl m_fl_X7_44 rfl dX7_copy_23 ?_
      refine lv_iload_n (pc := 26) hx hb dX7_copy_26 rfl (lv_at hl 4 rfl) ?_
      refine z_aald (pc := 27) (f := qr) (j := k) cx 4 rfl (hW.at 2 rfl) rfl (by omega) (by decide) dX7_copy_27 ?_
      refine z_rfS hr2 ?_
      refine lv_iload_n (pc := 28) hx hb dX7_copy_28 rfl (lv_at hl 3 rfl) ?_
      refine lv_iload (pc := 29) hx hb dX7_copy_29 (lv_at hl 5 rfl) ?_
      refine lv_iload (pc := 31) hx hb dX7_copy_31 (lv_at hl 6 rfl) ?_
      refine k_X4_copyTo2 (pc := 33) (q2 := q2) (i := i) (j := j) (n := n) (q := q1) (w := w1) (z := iN (sz a)) (o := so a) (x := x1) (w2 := w2) (z2 := iN (sz k)) (u := so k) (y := x2) cx hW hS (Or.inr ⟨_, _, _, hr2, hq2⟩) hq1 hw1 hq2 hw2 hqq hww hzl1 hzl2 m_ml_X7_370 ⟨Nat.le_of_ble_eq_true rfl, Nat.le_of_ble_eq_true rfl⟩ hl.1 rfl (by simp [Value.category]) dX7_copy_33 ⟨Nat.le_refl _, Nat.le_refl _⟩ (fun  H locs  hW hS => ?_)
      have hW : WW E (wK b E.2.1 tl pd qt qr tbu wst asw pN tN aN hd dr pl rm ps wx pp tp ap sg uh ud up ur us ux) (va_up G w2 (some (ceI E.2.1 (iN (sz k)) (if (hfB (iN (sz a)) i n && hfB (iN (sz k)) j n) = true then va_cpy x1 x2 (iN i) (iN j) (iN n) else x2)))) H := hW
      refine z_ifeq (pc := 36) (tgt := 44) hx hb dX7_copy_36 (by decide) (fun c_4 => ?_) (fun c_4 => ?_)
      · skip
        refine lv_bipush (pc := 44) (v := (-13)) hx hb dX7_copy_44 (by decide) ?_
        exact z_wiret cx hr hlk dX7_copy_46 hS ⟨_, (sI (by rw [(cp_ans ha hk hz1 hz2 hda hfa hso), c_4]; rfl)), (Or.inr ⟨_, _, _, _, _, _, _, hr2, hq2, hw2, rfl⟩), (cp_sh hSh hrd ha hk hr2 hq2 hw2 hx1 hx2 hz1 hz2 hda hfa hso), hW⟩
      · skip
        refine lv_iload (pc := 39) hx hb dX7_copy_39 (lv_at hl 6 rfl) ?_
        refine lv_goto (pc := 41) (tgt := 46) hx hb dX7_copy_41 (by decide) ?_
        exact z_wiret cx hr hlk dX7_copy_46 hS ⟨_, (sI (by rw [(cp_ans ha hk hz1 hz2 hda hfa hso), c_4]; rfl)), (Or.inr ⟨_, _, _, _, _, _, _, hr2, hq2, hw2, rfl⟩), (cp_sh hSh hrd ha hk hr2 hq2 hw2 hx1 hx2 hz1 hz2 hda hfa hso), hW⟩
  · skip
    have hrr := c_1
    refine lv_iload (pc := 13) hx hb dX7_copy_13 (lv_at hl 0 rfl) ?_
    exact z_wiret cx hr hlk dX7_copy_15 hS ⟨_, (sI (prR_r hrr).1), (Or.inl rfl), (by rw [cp_no hrr]; exact hSh), hW⟩
theorem k_X7_copy {p : Program} {l : Launch} {e : Env} {R : Room} {s : State} {m : MethodId} {args : Array Value} {below : List Frame} {meth : Method} {c : Code} {H H0 : Heap} {locs : List Loc} {cells slots : Nat} {Q : State → Prop} {cc : ByteArray} {pc index : Nat} {ls : Array Slot} {rest st0 : List Value} {E : zE} {own : String} {nL : Nat} {F : Nat → Prop} {b : Nat → Nat} {tl : va_W} {pd : Bool} {qt : Nat → Option Nat} {qr : Nat → Option Nat} {tbu : Nat → Int32} {wst : Nat → Int32} {asw : Nat → Int32} {pN : Int32} {tN : Int32} {aN : Int32} {hd : Int32} {dr : Int32} {pl : Int32} {rm : Int32} {ps : Int32} {wx : Nat → Int32} {pp : Nat → Option Nat} {tp : Nat → Option Nat} {ap : Nat → Option Nat} {sg : Nat → Int32} {uh : Int32} {ud : Int32} {up : Int32} {ur : Int32} {us : Int32} {ux : Nat → Int32} {G : zG} {d i f j n : Int32} {kp so sz el pr ts : Nat → Int32} (cx : Cx E p s args m c own cc nL) (hW : WW E (wK b E.2.1 tl pd qt qr tbu wst asw pN tN aN hd dr pl rm ps wx pp tp ap sg uh ud up ur us ux) G H) (hS : va_S F H0 H locs) (zF : ∀ q, (bFr b G qr) q → F q) (hSh : ShG E.2.1 G qt qr kp so sz el pr ts) (hrd : RwD G qr) (zl : Cond.methodLink own index yX7_copy ∈ AllW) (zR : 4 + 1 ≤ R.frames ∧ 8 + (7 + 11) + 104 ≤ R.locals) (zs : ls.size = nL) (zt : st0 = ([.int d, .int i, .int f, .int j, .int n] : List Value).reverse ++ .ref (b 0) :: rest) (z8 : (rest.map fun v => v.category).sum ≤ 8) (zd : decode cc pc = .ok (.invokevirtual index, 3)) (zf : cells ≤ R.cells ∧ slots ≤ R.slots) (kk0 : ∀ (G2 : zG) (H1 : Heap) (locs1 : List Loc), (PutG E.2.1 G G2 qr) → (ShG E.2.1 G2 qt qr kp so sz (copyE kp so sz el d i f j n) pr ts) → WW E (wK b E.2.1 tl pd qt qr tbu wst asw pN tN aN hd dr pl rm ps wx pp tp ap sg uh ud up ur us ux) G2 H1 → va_S F H0 H1 locs1 → W p l e R s m args below meth c H1 locs1 cells slots Q (F0 m (pc + 3) ls (.int (copyR kp so sz d i f j n) :: rest))) : W p l e R s m args below meth c H locs cells slots Q (F0 m pc ls st0) := by
  refine z_callVw cx vm_X7_copy (c_X7_copy l E b tl pd qt qr tbu wst asw pN tN aN hd dr pl rm ps wx pp tp ap sg uh ud up ur us ux G d i f j n kp so sz el pr ts hSh hrd) (z_rec cx.2 (hW.at 0 rfl) rfl) hW hS zF zl ⟨rfl, rfl⟩ zR rfl zs zt z8 zd zf (fun v H1 locs1 hq hS1 _ => ?_)
  rcases hq with ⟨G2, rfl, hpg, hSh2, hW1⟩
  · exact kk0 G2 H1 locs1 hpg hSh2 hW1 hS1
