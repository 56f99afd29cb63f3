theorem mn_100 {z : Nat} (hz : z ≤ 100) : mnI (nI z) 100 = nI z := by
  unfold mnI
  rw [if_pos (by rw [Int32.le_iff_toInt_le, nI_toInt (by omega), show (100 : Int32).toInt = 100 from rfl]; omega)]
theorem upd_x {f x : Nat → Int32} {i : Nat} (h : ∀ j, j < i → f j = x j) : ∀ j, j < i + 1 → upd f i (x i) j = x j := by
  intro j hj
  by_cases c : j = i
  · rw [c, upd_self]
  · rw [upd_ne _ _ c]; exact h j (by omega)
theorem vm_X3_countStatements : zVm yX3_countStatements cX3_countStatements 3 (some FieldType.int) 0 := ⟨m_co_X3_countStatements, m_in_RX3, ⟨m_im_X3_countStatements, m_se_X3_X3_countStatements⟩, by decide +kernel, by decide +kernel, by decide +kernel⟩
set_option maxHeartbeats 1000000 in
set_option maxRecDepth 100000 in
theorem c_X3_countStatements (l : Launch) (E : zE) (b : Nat → Nat) (pd : Bool) (qt : Nat → Option Nat) (qr : Nat → Option Nat) (tbu : Nat → Int32) (wst : Nat → Int32) (asw : Nat → Int32) (pN : Int32) (tN : Int32) (aN : Int32) (hd : Int32) (dr : Int32) (pl : Int32) (rm : Int32) (ps : Int32) (wx : Nat → Int32) (pp : Nat → Option Nat) (tp : Nat → Option Nat) (ap : Nat → Option Nat) (sg : Nat → Int32) (uh : Int32) (ud : Int32) (up : Int32) (ur : Int32) (us : Int32) (ux : Nat → Int32) (xN : Int32) (xT : Int32) (xA : Int32) (xh : Int32) (xd : Int32) (xl : Int32) (xr : Int32) (xo : Int32) (xw : Nat → Int32) (xpp : Nat → Option Nat) (xtp : Nat → Option Nat) (xap : Nat → Option Nat) (xsg : Nat → Int32) (yN : Int32) (yT : Int32) (yA : Int32) (yh : Int32) (yd : Int32) (yl : Int32) (yr : Int32) (yo : Int32) (yw : Nat → Int32) (ypp : Nat → Option Nat) (ytp : Nat → Option Nat) (yap : Nat → Option Nat) (ysg : Nat → Int32) (zpl : Int32) (zlt : Int32) (zjo : Bool) (zfo : Int32) (zby : Nat → Int32) (znu : Nat → Int32) (G : zG) (z : Nat) (hz : z ≤ 100) : Met l yX3_countStatements (.code yX3_countStatements cX3_countStatements 3 (some FieldType.int) :: AllW) (rm0' 6 128) (zPc E (bF b) (fun H => WW E (wK b E.2.1 (wT b E.2.1 xN xT xA xh xd xl xr xo xw xpp xtp xap xsg yN yT yA yh yd yl yr yo yw ypp ytp yap ysg (nI 0) zpl zlt zjo zfo (nI z) zby znu) pd qt qr tbu wst asw pN tN aN hd dr pl rm ps wx pp tp ap sg uh ud up ur us ux) G H) [.ref (b 29)]) (zQ (fun (_ : Heap) (v : Option Value) (H1 : Heap) => (∃ (k : Nat) (q2 : Nat) (nu2 : Nat → Int32) (pl2 : Int32) (lt2 : Int32) (jo2 : Bool) (fo2 : Int32), v = some (.int (nI k)) ∧ (ph1 (txC zby z) z 101 0 znu 0 = (true, q2, k, nu2)) ∧ (k ≤ 101) ∧ WW E (wK b E.2.1 (wT b E.2.1 xN xT xA xh xd xl xr xo xw xpp xtp xap xsg yN yT yA yh yd yl yr yo yw ypp ytp yap ysg (nI q2) pl2 lt2 jo2 fo2 (nI z) zby nu2) pd qt qr tbu wst asw pN tN aN hd dr pl rm ps wx pp tp ap sg uh ud up ur us ux) G H1) ∨ (∃ (k : Nat) (q2 : Nat) (nu2 : Nat → Int32) (pl2 : Int32) (lt2 : Int32) (jo2 : Bool) (fo2 : Int32), v = some (.int (-1)) ∧ (ph1 (txC zby z) z 101 0 znu 0 = (false, q2, k, nu2)) ∧ (q2 ≤ 100) ∧ WW E (wK b E.2.1 (wT b E.2.1 xN xT xA xh xd xl xr xo xw xpp xtp xap xsg yN yT yA yh yd yl yr yo yw ypp ytp yap ysg (nI q2) pl2 lt2 jo2 fo2 (nI z) zby nu2) pd qt qr tbu wst asw pN tN aN hd dr pl rm ps wx pp tp ap sg uh ud up ur us ux) G H1)) (bF b)) 0 0 (bF b) := by
  refine z_bodyc (own := RX3) (by decide) rfl rfl ?_
  intro p e s m args below meth c ls cx hr hlk hnm hW hCE hl
  have hx := cx.x
  have hb := cx.b
  have hl : lv_has ls 3 [(0, .ref (b 29))] := hl
  have hFb : ∀ k, (bF b) (b k) := fun k => bF_in b k
  have hS : va_S (bF b) s.heap s.heap [] := va_S.rf
  refine lv_iconst (pc := 0) (v := 0) hx hb dX3_countStatements_0 (by decide) ?_
  refine lv_istore_n (pc := 1) (lv' := [(1, .int 0), (0, .ref (b 29))]) hx hb dX3_countStatements_1 rfl hl (by decide) rfl (fun ls hl => ?_)
  refine lv_iconst (pc := 2) (v := 0) hx hb dX3_countStatements_2 (by decide) ?_
  refine lv_istore_n (pc := 3) (lv' := [(2, .int 0), (1, .int 0), (0, .ref (b 29))]) hx hb dX3_countStatements_3 rfl hl (by decide) rfl (fun ls hl => ?_)
  have loop_4 : ∀ (k_4 : Nat) (k : Nat) (x2 : Int32) (x1 : Int32), (101 - k) < k_4 → (k ≤ 100) → x2 = nI k → x1 = nI k → ∀ (q3 : Nat) (nu3 : Nat → Int32) (pl3 : Int32) (lt3 : Int32) (jo3 : Bool) (fo3 : Int32) (H : Heap) (locs : List Loc), (k = 0 ∨ q3 < z → ph1 (txC zby z) z 101 0 znu 0 = ph1 (txC zby z) z (101 - k) q3 nu3 k) → (¬ (k = 0 ∨ q3 < z) → ph1 (txC zby z) z 101 0 znu 0 = (true, q3, k, nu3)) → (q3 ≤ z) → (k ≤ q3) → WW E (wK b E.2.1 (wT b E.2.1 xN xT xA xh xd xl xr xo xw xpp xtp xap xsg yN yT yA yh yd yl yr yo yw ypp ytp yap ysg (nI q3) pl3 lt3 jo3 fo3 (nI z) zby nu3) pd qt qr tbu wst asw pN tN aN hd dr pl rm ps wx pp tp ap sg uh ud up ur us ux) G H → va_S (bF b) s.heap H locs → ∀ (ls : Array Slot), lv_has ls 3 [(2, .int x2), (1, .int x1), (0, .ref (b 29))] → W p l e (rm0' (6) (128)) s m args below meth c H locs 0 0 (MQ below (zQ (fun (_ : Heap) (v : Option Value) (H1 : Heap) => (∃ (k : Nat) (q2 : Nat) (nu2 : Nat → Int32) (pl2 : Int32) (lt2 : Int32) (jo2 : Bool) (fo2 : Int32), v = some (.int (nI k)) ∧ (ph1 (txC zby z) z 101 0 znu 0 = (true, q2, k, nu2)) ∧ (k ≤ 101) ∧ WW E (wK b E.2.1 (wT b E.2.1 xN xT xA xh xd xl xr xo xw xpp xtp xap xsg yN yT yA yh yd yl yr yo yw ypp ytp yap ysg (nI q2) pl2 lt2 jo2 fo2 (nI z) zby nu2) pd qt qr tbu wst asw pN tN aN hd dr pl rm ps wx pp tp ap sg uh ud up ur us ux) G H1) ∨ (∃ (k : Nat) (q2 : Nat) (nu2 : Nat → Int32) (pl2 : Int32) (lt2 : Int32) (jo2 : Bool) (fo2 : Int32), v = some (.int (-1)) ∧ (ph1 (txC zby z) z 101 0 znu 0 = (false, q2, k, nu2)) ∧ (q2 ≤ 100) ∧ WW E (wK b E.2.1 (wT b E.2.1 xN xT xA xh xd xl xr xo xw xpp xtp xap xsg yN yT yA yh yd yl yr yo yw ypp ytp yap ysg (nI q2) pl2 lt2 jo2 fo2 (nI z) zby nu2) pd qt qr tbu wst asw pN tN aN hd dr pl rm ps wx pp tp ap sg uh ud up ur us ux) G H1)) (bF b)) args s 0 0 (bF b)) (F0 m 4 ls []) := by
    intro k_4
    induction k_4 with
    | zero =>
      intro k x2 x1 hm
      exact absurd hm (Nat.not_lt_zero _)
    | succ k_4 ih_4 =>
      intro k x2 x1 hm_4 hk1 e_x2 e_x1 q3 nu3 pl3 lt3 jo3 fo3 H locs hG hE hq3 hkq hW hS ls hl
      subst e_x2
      subst e_x1
      refine lv_iload_n (pc := 4) hx hb dX3_countStatements_4 rfl (lv_at hl 0 rfl) ?_
      refine lv_aload_n (pc := 5) hx hb dX3_countStatements_5 rfl (lv_at hl 2 rfl) ?_
      refine z_get (pc := 6) cx (hW.at 29 rfl) (C := RX3) (T := TX3) (N := 8) rfl i_X3 5 rfl m_fl_X3_30 rfl dX3_countStatements_6 ?_
      refine lv_icmp_gt (pc := 9) (tgt := 45) hx hb dX3_countStatements_9 (by decide) (fun c_1 => ?_) (fun c_1 => ?_)
      · skip
        have hgt := gtn (a := z) (b := k) rfl rfl (by omega) (by omega) c_1
        omega
      · skip
        refine lv_aload_n (pc := 12) hx hb dX3_countStatements_12 rfl (lv_at hl 2 rfl) ?_
        refine z_get (pc := 13) cx (hW.at 29 rfl) (C := RX3) (T := TX3) (N := 8) rfl i_X3 0 rfl m_fl_X3_37 rfl dX3_countStatements_13 ?_
        refine lv_aload_n (pc := 16) hx hb dX3_countStatements_16 rfl (lv_at hl 2 rfl) ?_
        refine z_get (pc := 17) cx (hW.at 29 rfl) (C := RX3) (T := TX3) (N := 8) rfl i_X3 5 rfl m_fl_X3_30 rfl dX3_countStatements_17 ?_
        refine lv_icmp_lt (pc := 20) (tgt := 27) hx hb dX3_countStatements_20 (by decide) (fun c_2 => ?_) (fun c_2 => ?_)
        · skip
          have hor : k = 0 ∨ q3 < z := Or.inr (gtn (a := q3) (b := z) rfl rfl (by omega) (by omega) c_2)
          have hP := hG hor
          refine lv_aload_n (pc := 27) hx hb dX3_countStatements_27 rfl (lv_at hl 2 rfl) ?_
          refine k_X3_readStatement (pc := 28) (q := q3) (z := z) cx (hCE.kept hS.2.1) hW hS (fun _ h => h) (by first | assumption | omega) (by first | assumption | omega) m_ml_X3_40 ⟨Nat.le_of_ble_eq_true rfl, Nat.le_of_ble_eq_true rfl⟩ hl.1 rfl (by simp [Value.category]) dX3_countStatements_28 ⟨Nat.le_refl _, Nat.le_refl _⟩ (fun  H locs hq9_28 hl9_28 hW hS => ?_)
          have hW : WW E (wK b E.2.1 (wT b E.2.1 xN xT xA xh xd xl xr xo xw xpp xtp xap xsg yN yT yA yh yd yl yr yo yw ypp ytp yap ysg (nI (rdS (txC zby z) q3 nu3).2.1.1) (nI q3) (bhC zby z q3) ((rdS (txC zby z) q3 nu3).2.2) (nI (rdS (txC zby z) q3 nu3).2.1.2.2) (nI z) zby ((rdS (txC zby z) q3 nu3).2.1.2.1)) pd qt qr tbu wst asw pN tN aN hd dr pl rm ps wx pp tp ap sg uh ud up ur us ux) G H := hW
          refine z_ifne (pc := 31) (tgt := 36) hx hb dX3_countStatements_31 (by decide) (fun c_3 => ?_) (fun c_3 => ?_)
          · skip
            have hrd := c_3
            have hadv := rdS_adv hrd
            refine lv_iinc (pc := 36) (v := nI (k + 1)) (lv' := [(1, .int (nI (k + 1))), (2, .int (nI k)), (0, .ref (b 29))]) hx hb dX3_countStatements_36 hl (k := 1) rfl (nI_1 _) (by decide) rfl (fun ls hl => ?_)
            refine lv_iinc (pc := 39) (v := nI (k + 1)) (lv' := [(2, .int (nI (k + 1))), (1, .int (nI (k + 1))), (0, .ref (b 29))]) hx hb dX3_countStatements_39 hl (k := 1) rfl (nI_1 _) (by decide) rfl (fun ls hl => ?_)
            refine lv_goto (pc := 42) (tgt := 4) hx hb dX3_countStatements_42 (by decide) ?_
            exact ih_4 (k + 1) (nI (k + 1)) (nI (k + 1)) (by omega) (by omega) (by first | rfl | (simp []; done)) (by first | rfl | (simp []; done)) ((rdS (txC zby z) q3 nu3).2.1.1) ((rdS (txC zby z) q3 nu3).2.1.2.1) (nI q3) (bhC zby z q3) ((rdS (txC zby z) q3 nu3).2.2) (nI (rdS (txC zby z) q3 nu3).2.1.2.2) _ _ (fun x => hP.trans (ph1_go (by omega) hrd (Or.elim x (fun y => absurd y (Nat.succ_ne_zero _)) id))) (fun x => hP.trans (ph1_end (by omega) hrd (fun y => x (Or.inr y)))) hq9_28 (by omega) (hW) hS ls (lv_sub hl [0, 1, 2] rfl)
          · skip
            have hrd := c_3
            have hPB := hP.trans (ph1_bad (by omega) (fun x => Bool.false_ne_true (hrd.symm.trans x)))
            refine lv_iconst (pc := 34) (v := (-1)) hx hb dX3_countStatements_34 (by decide) ?_
            exact z_wiret cx hr hlk dX3_countStatements_35 hS (Or.inr ⟨k, (rdS (txC zby z) q3 nu3).2.1.1, (rdS (txC zby z) q3 nu3).2.1.2.1, _, _, _, _, (sI (by first | rfl | (simp []; done))), hPB, (by omega), (by exact hW)⟩)
        · skip
          have hge3 := ngt (a := q3) (b := z) rfl rfl (by omega) (by omega) c_2
          refine lv_iload_n (pc := 23) hx hb dX3_countStatements_23 rfl (lv_at hl 1 rfl) ?_
          refine lv_if_ne (pc := 24) (tgt := 45) hx hb dX3_countStatements_24 (by decide) (fun c_4 => ?_) (fun c_4 => ?_)
          · skip
            have hkn : ¬ k = 0 := fun x => c_4 (congrArg nI x)
            have hPE := hE (fun x => Or.elim x hkn (by omega))
            refine lv_iload_n (pc := 45) hx hb dX3_countStatements_45 rfl (lv_at hl 1 rfl) ?_
            exact z_wiret cx hr hlk dX3_countStatements_46 hS (Or.inl ⟨k, q3, nu3, _, _, _, _, rfl, hPE, (by omega), (by exact hW)⟩)
          · skip
            have hor : k = 0 ∨ q3 < z := Or.inl (nI_inj2 (a := k) (b := 0) (by omega) c_4)
            have hP := hG hor
            refine lv_aload_n (pc := 27) hx hb dX3_countStatements_27 rfl (lv_at hl 2 rfl) ?_
            refine k_X3_readStatement (pc := 28) (q := q3) (z := z) cx (hCE.kept hS.2.1) hW hS (fun _ h => h) (by first | assumption | omega) (by first | assumption | omega) m_ml_X3_40 ⟨Nat.le_of_ble_eq_true rfl, Nat.le_of_ble_eq_true rfl⟩ hl.1 rfl (by simp [Value.category]) dX3_countStatements_28 ⟨Nat.le_refl _, Nat.le_refl _⟩ (fun  H locs hq9_28 hl9_28 hW hS => ?_)
            have hW : WW E (wK b E.2.1 (wT b E.2.1 xN xT xA xh xd xl xr xo xw xpp xtp xap xsg yN yT yA yh yd yl yr yo yw ypp ytp yap ysg (nI (rdS (txC zby z) q3 nu3).2.1.1) (nI q3) (bhC zby z q3) ((rdS (txC zby z) q3 nu3).2.2) (nI (rdS (txC zby z) q3 nu3).2.1.2.2) (nI z) zby ((rdS (txC zby z) q3 nu3).2.1.2.1)) pd qt qr tbu wst asw pN tN aN hd dr pl rm ps wx pp tp ap sg uh ud up ur us ux) G H := hW
            refine z_ifne (pc := 31) (tgt := 36) hx hb dX3_countStatements_31 (by decide) (fun c_5 => ?_) (fun c_5 => ?_)
            · skip
              have hrd := c_5
              have hadv := rdS_adv hrd
              refine lv_iinc (pc := 36) (v := nI (k + 1)) (lv' := [(1, .int (nI (k + 1))), (2, .int (nI k)), (0, .ref (b 29))]) hx hb dX3_countStatements_36 hl (k := 1) rfl (nI_1 _) (by decide) rfl (fun ls hl => ?_)
              refine lv_iinc (pc := 39) (v := nI (k + 1)) (lv' := [(2, .int (nI (k + 1))), (1, .int (nI (k + 1))), (0, .ref (b 29))]) hx hb dX3_countStatements_39 hl (k := 1) rfl (nI_1 _) (by decide) rfl (fun ls hl => ?_)
              refine lv_goto (pc := 42) (tgt := 4) hx hb dX3_countStatements_42 (by decide) ?_
              exact ih_4 (k + 1) (nI (k + 1)) (nI (k + 1)) (by omega) (by omega) (by first | rfl | (simp []; done)) (by first | rfl | (simp []; done)) ((rdS (txC zby z) q3 nu3).2.1.1) ((rdS (txC zby z) q3 nu3).2.1.2.1) (nI q3) (bhC zby z q3) ((rdS (txC zby z) q3 nu3).2.2) (nI (rdS (txC zby z) q3 nu3).2.1.2.2) _ _ (fun x => hP.trans (ph1_go (by omega) hrd (Or.elim x (fun y => absurd y (Nat.succ_ne_zero _)) id))) (fun x => hP.trans (ph1_end (by omega) hrd (fun y => x (Or.inr y)))) hq9_28 (by omega) (hW) hS ls (lv_sub hl [0, 1, 2] rfl)
            · skip
              have hrd := c_5
              have hPB := hP.trans (ph1_bad (by omega) (fun x => Bool.false_ne_true (hrd.symm.trans x)))
              refine lv_iconst (pc := 34) (v := (-1)) hx hb dX3_countStatements_34 (by decide) ?_
              exact z_wiret cx hr hlk dX3_countStatements_35 hS (Or.inr ⟨k, (rdS (txC zby z) q3 nu3).2.1.1, (rdS (txC zby z) q3 nu3).2.1.2.1, _, _, _, _, (sI (by first | rfl | (simp []; done))), hPB, (by omega), (by exact hW)⟩)
  exact loop_4 ((101 - 0) + 1) 0 0 0 (Nat.lt_succ_self _) (by omega) (by first | rfl | (simp []; done)) (by first | rfl | (simp []; done)) 0 znu zpl zlt zjo zfo _ _ (fun _ => rfl) (fun x => absurd (Or.inl rfl) x) (by omega) (by omega) (hW) hS ls (lv_sub hl [0, 1, 2] rfl)
theorem k_X3_countStatements {p : Program} {l : Launch} {e : Env} {R : Room} {s : State} {m : MethodId} {args : Array Value} {below : List Frame} {meth : Method} {c : Code} {H H0 : Heap} {locs : List Loc} {cells slots : Nat} {Q : State → Prop} {cc : ByteArray} {pc index : Nat} {ls : Array Slot} {rest st0 : List Value} {E : zE} {own : String} {nL : Nat} {F : Nat → Prop} {b : Nat → Nat} {pd : Bool} {qt : Nat → Option Nat} {qr : Nat → Option Nat} {tbu : Nat → Int32} {wst : Nat → Int32} {asw : Nat → Int32} {pN : Int32} {tN : Int32} {aN : Int32} {hd : Int32} {dr : Int32} {pl : Int32} {rm : Int32} {ps : Int32} {wx : Nat → Int32} {pp : Nat → Option Nat} {tp : Nat → Option Nat} {ap : Nat → Option Nat} {sg : Nat → Int32} {uh : Int32} {ud : Int32} {up : Int32} {ur : Int32} {us : Int32} {ux : Nat → Int32} {xN : Int32} {xT : Int32} {xA : Int32} {xh : Int32} {xd : Int32} {xl : Int32} {xr : Int32} {xo : Int32} {xw : Nat → Int32} {xpp : Nat → Option Nat} {xtp : Nat → Option Nat} {xap : Nat → Option Nat} {xsg : Nat → Int32} {yN : Int32} {yT : Int32} {yA : Int32} {yh : Int32} {yd : Int32} {yl : Int32} {yr : Int32} {yo : Int32} {yw : Nat → Int32} {ypp : Nat → Option Nat} {ytp : Nat → Option Nat} {yap : Nat → Option Nat} {ysg : Nat → Int32} {zpl : Int32} {zlt : Int32} {zjo : Bool} {zfo : Int32} {zby : Nat → Int32} {znu : Nat → Int32} {G : zG} {z : Nat} (cx : Cx E p s args m c own cc nL) (hCE : CE E (bF b) s H) (hW : WW E (wK b E.2.1 (wT b E.2.1 xN xT xA xh xd xl xr xo xw xpp xtp xap xsg yN yT yA yh yd yl yr yo yw ypp ytp yap ysg (nI 0) zpl zlt zjo zfo (nI z) zby znu) pd qt qr tbu wst asw pN tN aN hd dr pl rm ps wx pp tp ap sg uh ud up ur us ux) G H) (hS : va_S F H0 H locs) (zF : ∀ q, (bF b) q → F q) (hz : z ≤ 100) (zl : Cond.methodLink own index yX3_countStatements ∈ AllW) (zR : 6 + 1 ≤ R.frames ∧ 8 + (3 + 11) + 128 ≤ R.locals) (zs : ls.size = nL) (zt : st0 = ([] : List Value).reverse ++ .ref (b 29) :: rest) (z8 : (rest.map fun v => v.category).sum ≤ 8) (zd : decode cc pc = .ok (.invokevirtual index, 3)) (zf : cells ≤ R.cells ∧ slots ≤ R.slots) (kk0 : ∀ (k : Nat) (q2 : Nat) (nu2 : Nat → Int32) (pl2 : Int32) (lt2 : Int32) (jo2 : Bool) (fo2 : Int32) (H1 : Heap) (locs1 : List Loc), (ph1 (txC zby z) z 101 0 znu 0 = (true, q2, k, nu2)) → (k ≤ 101) → WW E (wK b E.2.1 (wT b E.2.1 xN xT xA xh xd xl xr xo xw xpp xtp xap xsg yN yT yA yh yd yl yr yo yw ypp ytp yap ysg (nI q2) pl2 lt2 jo2 fo2 (nI z) zby nu2) pd qt qr tbu wst asw pN tN aN hd dr pl rm ps wx pp tp ap sg uh ud up ur us ux) G H1 → va_S F H0 H1 locs1 → W p l e R s m args below meth c H1 locs1 cells slots Q (F0 m (pc + 3) ls (.int (nI k) :: rest))) (kk1 : ∀ (k : Nat) (q2 : Nat) (nu2 : Nat → Int32) (pl2 : Int32) (lt2 : Int32) (jo2 : Bool) (fo2 : Int32) (H1 : Heap) (locs1 : List Loc), (ph1 (txC zby z) z 101 0 znu 0 = (false, q2, k, nu2)) → (q2 ≤ 100) → WW E (wK b E.2.1 (wT b E.2.1 xN xT xA xh xd xl xr xo xw xpp xtp xap xsg yN yT yA yh yd yl yr yo yw ypp ytp yap ysg (nI q2) pl2 lt2 jo2 fo2 (nI z) zby nu2) pd qt qr tbu wst asw pN tN aN hd dr pl rm ps wx pp tp ap sg uh ud up ur us ux) G H1 → va_S F H0 H1 locs1 → W p l e R s m args below meth c H1 locs1 cells slots Q (F0 m (pc + 3) ls (.int (-1) :: rest))) : W p l e R s m args below meth c H locs cells slots Q (F0 m pc ls st0) := by
  refine z_callVwc cx hCE vm_X3_countStatements (c_X3_countStatements l E b pd qt qr tbu wst asw pN tN aN hd dr pl rm ps wx pp tp ap sg uh ud up ur us ux xN xT xA xh xd xl xr xo xw xpp xtp xap xsg yN yT yA yh yd yl yr yo yw ypp ytp yap ysg zpl zlt zjo zfo zby znu G z hz) (z_rec cx.2 (hW.at 29 rfl) rfl) hW hS zF zl ⟨rfl, rfl⟩ zR rfl zs zt z8 zd zf (fun v H1 locs1 hq hS1 _ => ?_)
  rcases hq with ⟨k, q2, nu2, pl2, lt2, jo2, fo2, rfl, hph, hk, hW1⟩ | ⟨k, q2, nu2, pl2, lt2, jo2, fo2, rfl, hph, hq2, hW1⟩
  · exact kk0 k q2 nu2 pl2 lt2 jo2 fo2 H1 locs1 hph hk hW1 hS1
  · exact kk1 k q2 nu2 pl2 lt2 jo2 fo2 H1 locs1 hph hq2 hW1 hS1
theorem vm_X3_start : zVm yX3_start cX3_start 3 none 1 := ⟨m_co_X3_start, m_in_RX3, ⟨m_im_X3_start, m_se_X3_X3_start⟩, by decide +kernel, by decide +kernel, by decide +kernel⟩
set_option maxHeartbeats 1000000 in
set_option maxRecDepth 100000 in
theorem c_X3_start (l : Launch) (E : zE) (b : Nat → Nat) (pd : Bool) (qt : Nat → Option Nat) (qr : Nat → Option Nat) (tbu : Nat → Int32) (wst : Nat → Int32) (asw : Nat → Int32) (pN : Int32) (tN : Int32) (aN : Int32) (hd : Int32) (dr : Int32) (pl : Int32) (rm : Int32) (ps : Int32) (wx : Nat → Int32) (pp : Nat → Option Nat) (tp : Nat → Option Nat) (ap : Nat → Option Nat) (sg : Nat → Int32) (uh : Int32) (ud : Int32) (up : Int32) (ur : Int32) (us : Int32) (ux : Nat → Int32) (xN : Int32) (xT : Int32) (xA : Int32) (xh : Int32) (xd : Int32) (xl : Int32) (xr : Int32) (xo : Int32) (xw : Nat → Int32) (xpp : Nat → Option Nat) (xtp : Nat → Option Nat) (xap : Nat → Option Nat) (xsg : Nat → Int32) (yN : Int32) (yT : Int32) (yA : Int32) (yh : Int32) (yd : Int32) (yl : Int32) (yr : Int32) (yo : Int32) (yw : Nat → Int32) (ypp : Nat → Option Nat) (ytp : Nat → Option Nat) (yap : Nat → Option Nat) (ysg : Nat → Int32) (zat : Int32) (zpl : Int32) (zlt : Int32) (zjo : Bool) (zfo : Int32) (zsz : Int32) (zby : Nat → Int32) (znu : Nat → Int32) (G : zG) (q9 w9 z : Nat) (o : Int32) (x : Nat → Int32) (hgw : G q9 = some (ceW o w9)) (hgv : G w9 = some (ceI E.2.1 z x)) (hz : z ≤ 100) : Met l yX3_start (.code yX3_start cX3_start 3 none :: AllW) (rm0' 1 21) (zP E (fun H => WW E (wK b E.2.1 (wT b E.2.1 xN xT xA xh xd xl xr xo xw xpp xtp xap xsg yN yT yA yh yd yl yr yo yw ypp ytp yap ysg zat zpl zlt zjo zfo zsz zby znu) pd qt qr tbu wst asw pN tN aN hd dr pl rm ps wx pp tp ap sg uh ud up ur us ux) G H) [.ref (b 29), .ref q9]) (zQ (fun (_ : Heap) (v : Option Value) (H1 : Heap) => (∃ (f3 : Nat → Int32), v = none ∧ (∀ j, j < z → f3 j = x j) ∧ WW E (wK b E.2.1 (wT b E.2.1 xN xT xA xh xd xl xr xo xw xpp xtp xap xsg yN yT yA yh yd yl yr yo yw ypp ytp yap ysg (nI 0) zpl zlt zjo zfo (nI z) f3 znu) pd qt qr tbu wst asw pN tN aN hd dr pl rm ps wx pp tp ap sg uh ud up ur us ux) G H1)) (bF b)) 0 0 (bF b) := by
  refine z_body (own := RX3) (by decide) rfl rfl ?_
  intro p e s m args below meth c ls cx hr hlk hnm hW hl
  have hx := cx.x
  have hb := cx.b
  have hl : lv_has ls 3 [(0, .ref (b 29)), (1, .ref q9)] := hl
  have hFb : ∀ k, (bF b) (b k) := fun k => bF_in b k
  have hS : va_S (bF b) s.heap s.heap [] := va_S.rf
  refine lv_aload_n (pc := 0) hx hb dX3_start_0 rfl (lv_at hl 0 rfl) ?_
  refine lv_aload_n (pc := 1) hx hb dX3_start_1 rfl (lv_at hl 1 rfl) ?_
  refine k_X4_size (pc := 2)  cx ⟨hW.dyn hgw, hW.dyn hgv⟩  m_ml_X3_18 ⟨Nat.le_of_ble_eq_true rfl, Nat.le_of_ble_eq_true rfl⟩ hl.1 rfl (by simp [Value.category]) dX3_start_2 ⟨Nat.le_refl _, Nat.le_refl _⟩ ?_
  refine lv_bipush (pc := 5) (v := 100) hx hb dX3_start_5 (by decide) ?_
  refine z_mmin (pc := 7) cx hl.1 m_ml_X3_24 ⟨Nat.le_of_ble_eq_true rfl, Nat.le_of_ble_eq_true rfl⟩ (by simp [Value.category]) ⟨Nat.le_refl _, Nat.le_refl _⟩ dX3_start_7 ?_
  refine z_tope (y := nI z) (mn_100 hz) ?_
  refine z_putK3 (pc := 10) cx hW hS 29 rfl (bF_in b 29) 5 rfl m_fl_X3_30 rfl rfl dX3_start_10 (fun H locs hW hS => ?_)
  have hW : WW E (wK b E.2.1 (wT b E.2.1 xN xT xA xh xd xl xr xo xw xpp xtp xap xsg yN yT yA yh yd yl yr yo yw ypp ytp yap ysg zat zpl zlt zjo zfo (nI z) zby znu) pd qt qr tbu wst asw pN tN aN hd dr pl rm ps wx pp tp ap sg uh ud up ur us ux) G H := hW
  refine lv_iconst (pc := 13) (v := 0) hx hb dX3_start_13 (by decide) ?_
  refine lv_istore_n (pc := 14) (lv' := [(2, .int 0), (0, .ref (b 29)), (1, .ref q9)]) hx hb dX3_start_14 rfl hl (by decide) rfl (fun ls hl => ?_)
  have loop_15 : ∀ (k_15 : Nat) (i : Nat) (x2 : Int32), (z - i) < k_15 → (i ≤ z) → x2 = nI i → ∀ (f4 : Nat → Int32) (H : Heap) (locs : List Loc), (∀ j, j < i → f4 j = x j) → WW E (wK b E.2.1 (wT b E.2.1 xN xT xA xh xd xl xr xo xw xpp xtp xap xsg yN yT yA yh yd yl yr yo yw ypp ytp yap ysg zat zpl zlt zjo zfo (nI z) f4 znu) pd qt qr tbu wst asw pN tN aN hd dr pl rm ps wx pp tp ap sg uh ud up ur us ux) G H → va_S (bF b) s.heap H locs → ∀ (ls : Array Slot), lv_has ls 3 [(2, .int x2), (0, .ref (b 29)), (1, .ref q9)] → W p l e (rm0' (1) (21)) s m args below meth c H locs 0 0 (MQ below (zQ (fun (_ : Heap) (v : Option Value) (H1 : Heap) => (∃ (f3 : Nat → Int32), v = none ∧ (∀ j, j < z → f3 j = x j) ∧ WW E (wK b E.2.1 (wT b E.2.1 xN xT xA xh xd xl xr xo xw xpp xtp xap xsg yN yT yA yh yd yl yr yo yw ypp ytp yap ysg (nI 0) zpl zlt zjo zfo (nI z) f3 znu) pd qt qr tbu wst asw pN tN aN hd dr pl rm ps wx pp tp ap sg uh ud up ur us ux) G H1)) (bF b)) args s 0 0 (bF b)) (F0 m 15 ls []) := by
    intro k_15
    induction k_15 with
    | zero =>
      intro i x2 hm
      exact absurd hm (Nat.not_lt_zero _)
    | succ k_15 ih_15 =>
      intro i x2 hm_15 hi e_x2 f4 H locs hf4 hW hS ls hl
      subst e_x2
      refine lv_iload_n (pc := 15) hx hb dX3_start_15 rfl (lv_at hl 0 rfl) ?_
      refine lv_aload_n (pc := 16) hx hb dX3_start_16 rfl (lv_at hl 1 rfl) ?_
      refine z_get (pc := 17) cx (hW.at 29 rfl) (C := RX3) (T := TX3) (N := 8) rfl i_X3 5 rfl m_fl_X3_30 rfl dX3_start_17 ?_
      refine lv_icmp_ge (pc := 20) (tgt := 40) hx hb dX3_start_20 (by decide) (fun c_1 => ?_) (fun c_1 => ?_)
      · skip
        have hge3 := ge_nat (a := i) (b := z) rfl rfl (by omega) (by omega) c_1
        refine lv_aload_n (pc := 40) hx hb dX3_start_40 rfl (lv_at hl 1 rfl) ?_
        refine lv_iconst (pc := 41) (v := 0) hx hb dX3_start_41 (by decide) ?_
        refine z_putK3 (pc := 42) cx hW hS 29 rfl (bF_in b 29) 0 rfl m_fl_X3_37 rfl rfl dX3_start_42 (fun H locs hW hS => ?_)
        have hW : WW E (wK b E.2.1 (wT b E.2.1 xN xT xA xh xd xl xr xo xw xpp xtp xap xsg yN yT yA yh yd yl yr yo yw ypp ytp yap ysg 0 zpl zlt zjo zfo (nI z) f4 znu) pd qt qr tbu wst asw pN tN aN hd dr pl rm ps wx pp tp ap sg uh ud up ur us ux) G H := hW
        have hW : WW E (wK b E.2.1 (wT b E.2.1 xN xT xA xh xd xl xr xo xw xpp xtp xap xsg yN yT yA yh yd yl yr yo yw ypp ytp yap ysg (nI 0) zpl zlt zjo zfo (nI z) f4 znu) pd qt qr tbu wst asw pN tN aN hd dr pl rm ps wx pp tp ap sg uh ud up ur us ux) G H := hW
        exact z_wvret cx hr hlk dX3_start_45 hS ⟨f4, rfl, (fun j hj => hf4 j (by omega)), (by exact hW)⟩
      · skip
        have hlt3 := lt_nat (a := i) (b := z) rfl rfl (by omega) (by omega) c_1
        refine lv_aload_n (pc := 23) hx hb dX3_start_23 rfl (lv_at hl 1 rfl) ?_
        refine z_get (pc := 24) cx (hW.at 29 rfl) (C := RX3) (T := TX3) (N := 8) rfl i_X3 6 rfl m_fl_X3_9 rfl dX3_start_24 ?_
        refine lv_iload_n (pc := 27) hx hb dX3_start_27 rfl (lv_at hl 0 rfl) ?_
        refine lv_aload_n (pc := 28) hx hb dX3_start_28 rfl (lv_at hl 2 rfl) ?_
        refine lv_iload_n (pc := 29) hx hb dX3_start_29 rfl (lv_at hl 0 rfl) ?_
        refine k_X4_valueAt (pc := 30) (n := i) cx ⟨hW.dyn hgw, hW.dyn hgv⟩ hz hlt3 m_ml_X3_33 ⟨Nat.le_of_ble_eq_true rfl, Nat.le_of_ble_eq_true rfl⟩ hl.1 rfl (by simp [Value.category]) dX3_start_30 ⟨Nat.le_refl _, Nat.le_refl _⟩ ?_
        refine z_iast (pc := 33) (f := f4) (j := i) cx hW hS 30 rfl (hFb 30) rfl (by omega) (by decide) dX3_start_33 (fun H locs hW hS => ?_)
        have hW : WW E (wK b E.2.1 (wT b E.2.1 xN xT xA xh xd xl xr xo xw xpp xtp xap xsg yN yT yA yh yd yl yr yo yw ypp ytp yap ysg zat zpl zlt zjo zfo (nI z) (upd f4 i (x i)) znu) pd qt qr tbu wst asw pN tN aN hd dr pl rm ps wx pp tp ap sg uh ud up ur us ux) G H := hW
        refine lv_iinc (pc := 34) (v := nI (i + 1)) (lv' := [(2, .int (nI (i + 1))), (0, .ref (b 29)), (1, .ref q9)]) hx hb dX3_start_34 hl (k := 0) rfl (nI_1 _) (by decide) rfl (fun ls hl => ?_)
        refine lv_goto (pc := 37) (tgt := 15) hx hb dX3_start_37 (by decide) ?_
        exact ih_15 (i + 1) (nI (i + 1)) (by omega) (by omega) (by first | rfl | (simp []; done)) (upd f4 i (x i)) _ _ (upd_x hf4) (hW) hS ls (lv_sub hl [0, 1, 2] rfl)
  exact loop_15 ((z - 0) + 1) 0 0 (Nat.lt_succ_self _) (by omega) (by first | rfl | (simp []; done)) zby _ _ (fun j hj => absurd hj (Nat.not_lt_zero _)) (hW) hS ls (lv_sub hl [0, 1, 2] rfl)
theorem k_X3_start {p : Program} {l : Launch} {e : Env} {R : Room} {s : State} {m : MethodId} {args : Array Value} {below : List Frame} {meth : Method} {c : Code} {H H0 : Heap} {locs : List Loc} {cells slots : Nat} {Q : State → Prop} {cc : ByteArray} {pc index : Nat} {ls : Array Slot} {rest st0 : List Value} {E : zE} {own : String} {nL : Nat} {F : Nat → Prop} {b : Nat → Nat} {pd : Bool} {qt : Nat → Option Nat} {qr : Nat → Option Nat} {tbu : Nat → Int32} {wst : Nat → Int32} {asw : Nat → Int32} {pN : Int32} {tN : Int32} {aN : Int32} {hd : Int32} {dr : Int32} {pl : Int32} {rm : Int32} {ps : Int32} {wx : Nat → Int32} {pp : Nat → Option Nat} {tp : Nat → Option Nat} {ap : Nat → Option Nat} {sg : Nat → Int32} {uh : Int32} {ud : Int32} {up : Int32} {ur : Int32} {us : Int32} {ux : Nat → Int32} {xN : Int32} {xT : Int32} {xA : Int32} {xh : Int32} {xd : Int32} {xl : Int32} {xr : Int32} {xo : Int32} {xw : Nat → Int32} {xpp : Nat → Option Nat} {xtp : Nat → Option Nat} {xap : Nat → Option Nat} {xsg : Nat → Int32} {yN : Int32} {yT : Int32} {yA : Int32} {yh : Int32} {yd : Int32} {yl : Int32} {yr : Int32} {yo : Int32} {yw : Nat → Int32} {ypp : Nat → Option Nat} {ytp : Nat → Option Nat} {yap : Nat → Option Nat} {ysg : Nat → Int32} {zat : Int32} {zpl : Int32} {zlt : Int32} {zjo : Bool} {zfo : Int32} {zsz : Int32} {zby : Nat → Int32} {znu : Nat → Int32} {G : zG} {q9 w9 z : Nat} {o : Int32} {x : Nat → Int32} (cx : Cx E p s args m c own cc nL) (hW : WW E (wK b E.2.1 (wT b E.2.1 xN xT xA xh xd xl xr xo xw xpp xtp xap xsg yN yT yA yh yd yl yr yo yw ypp ytp yap ysg zat zpl zlt zjo zfo zsz zby znu) pd qt qr tbu wst asw pN tN aN hd dr pl rm ps wx pp tp ap sg uh ud up ur us ux) G H) (hS : va_S F H0 H locs) (zF : ∀ q, (bF b) q → F q) (hgw : G q9 = some (ceW o w9)) (hgv : G w9 = some (ceI E.2.1 z x)) (hz : z ≤ 100) (zl : Cond.methodLink own index yX3_start ∈ AllW) (zR : 1 + 1 ≤ R.frames ∧ 8 + (3 + 11) + 21 ≤ R.locals) (zs : ls.size = nL) (zt : st0 = ([.ref q9] : List Value).reverse ++ .ref (b 29) :: rest) (z8 : (rest.map fun v => v.category).sum ≤ 8) (zd : decode cc pc = .ok (.invokevirtual index, 3)) (zf : cells ≤ R.cells ∧ slots ≤ R.slots) (kk0 : ∀ (f3 : Nat → Int32) (H1 : Heap) (locs1 : List Loc), (∀ j, j < z → f3 j = x j) → WW E (wK b E.2.1 (wT b E.2.1 xN xT xA xh xd xl xr xo xw xpp xtp xap xsg yN yT yA yh yd yl yr yo yw ypp ytp yap ysg (nI 0) zpl zlt zjo zfo (nI z) f3 znu) pd qt qr tbu wst asw pN tN aN hd dr pl rm ps wx pp tp ap sg uh ud up ur us ux) G H1 → va_S F H0 H1 locs1 → W p l e R s m args below meth c H1 locs1 cells slots Q (F0 m (pc + 3) ls (rest))) : W p l e R s m args below meth c H locs cells slots Q (F0 m pc ls st0) := by
  refine z_callVw cx vm_X3_start (c_X3_start l E b pd qt qr tbu wst asw pN tN aN hd dr pl rm ps wx pp tp ap sg uh ud up ur us ux xN xT xA xh xd xl xr xo xw xpp xtp xap xsg yN yT yA yh yd yl yr yo yw ypp ytp yap ysg zat zpl zlt zjo zfo zsz zby znu G q9 w9 z o x hgw hgv hz) (z_rec cx.2 (hW.at 29 rfl) rfl) hW hS zF zl ⟨rfl, rfl⟩ zR rfl zs zt z8 zd zf (fun v H1 locs1 hq hS1 _ => ?_)
  rcases hq with ⟨f3, rfl, hf3, hW1⟩
  · exact kk0 f3 H1 locs1 hf3 hW1 hS1
