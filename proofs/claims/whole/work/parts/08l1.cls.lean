theorem vm_X7_row : zVm yX7_row cX7_row 4 (some FieldType.int) 3 := ⟨m_co_X7_row, m_in_RX7, ⟨m_im_X7_row, m_se_X7_X7_row⟩, by decide +kernel, by decide +kernel, by decide +kernel⟩
set_option maxHeartbeats 1000000 in
set_option maxRecDepth 100000 in
theorem c_X7_row (l : Launch) (E : zE) (b : Nat → Nat) (tl : va_W) (pd : Bool) (qt : Nat → Option Nat) (qr : Nat → Option Nat) (tbu : Nat → Int32) (wst : Nat → Int32) (asw : Nat → Int32) (pN : Int32) (tN : Int32) (aN : Int32) (hd : Int32) (dr : Int32) (pl : Int32) (rm : Int32) (ps : Int32) (wx : Nat → Int32) (pp : Nat → Option Nat) (tp : Nat → Option Nat) (ap : Nat → Option Nat) (sg : Nat → Int32) (uh : Int32) (ud : Int32) (up : Int32) (ur : Int32) (us : Int32) (ux : Nat → Int32) (G : zG) (N : Nat) (d o n : Int32) (kp so sz el pr ts : Nat → Int32) (hSh : ShG E.2.1 G qt qr kp so sz el pr ts) (hdm : ∀ k q, qr k = some q → ∃ e, G q = some e) : Met l yX7_row (.code yX7_row cX7_row 4 (some FieldType.int) :: AllW) (rmA 2 66 2 102) (zP E (fun H => WW E (wK b E.2.1 tl pd qt qr tbu wst asw pN tN aN hd dr pl rm ps wx pp tp ap sg uh ud up ur us ux) G H ∧ H.size = N) [.ref (b 0), .int d, .int o, .int n]) (zQ (fun (_ : Heap) (v : Option Value) (H1 : Heap) => (∃ (qt2 : Nat → Option Nat) (qr2 : Nat → Option Nat) (G2 : zG), v = some (.int (rowR d o n)) ∧ (GLe G G2) ∧ (ShG E.2.1 G2 qt2 qr2 (rowK kp d o n) (rowS so d o n) (rowZ sz d o n) (rowE el d o n) pr ts) ∧ (RowNw G G2 qr qr2) ∧ (FrG G G2 N) ∧ (RwI G qr → RwE G qr → RwE G2 qr2) ∧ WW E (wK b E.2.1 tl pd qt2 qr2 tbu wst asw pN tN aN hd dr pl rm ps wx pp tp ap sg uh ud up ur us ux) G2 H1)) (bFz b N)) 2 102 (bFz b N) := by
  refine z_body (own := RX7) (by decide) rfl rfl ?_
  intro p e s m args below meth c ls cx hr hlk hnm hW hl
  have hx := cx.x
  have hb := cx.b
  have hl : lv_has ls 4 [(0, .ref (b 0)), (1, .int d), (2, .int o), (3, .int n)] := hl
  obtain ⟨hW, hN0⟩ := hW
  have hFb : ∀ k, (bFz b N) (b k) := fun k => Or.inl (bF_in b k)
  have hS : va_S (bFz b N) s.heap s.heap [] := va_S.rf
  refine lv_iload_n (pc := 0) hx hb dX7_row_0 rfl (lv_at hl 1 rfl) ?_
  refine k_X7_isShelf (pc := 1) (x := d) cx  m_ml_X7_343 ⟨Nat.le_of_ble_eq_true rfl, Nat.le_of_ble_eq_true rfl⟩ hl.1 rfl (by simp [Value.category]) dX7_row_1 (by constructor <;> (simp only [rmA]; omega)) ?_
  refine z_ifeq (pc := 4) (tgt := 22) hx hb dX7_row_4 (by decide) (fun c_1 => ?_) (fun c_1 => ?_)
  · skip
    have hro : rowO d o n = false := by unfold rowO; simp [c_1]
    refine lv_iconst (pc := 22) (v := (-1)) hx hb dX7_row_22 (by decide) ?_
    refine W.widen (k := 2) (n := 102) (by omega) (by omega) ?_
    exact z_wiret cx hr hlk dX7_row_23 hS ⟨_, _, _, (sI (by first | rfl | (simp [rowR, c_1]; done))), (GLe.rf G), (by rw [show rowK kp d o n = kp by unfold rowK; rw [if_neg (by rw [hro]; decide)], show rowS so d o n = so by unfold rowS; rw [if_neg (by rw [hro]; decide)], show rowZ sz d o n = sz by unfold rowZ; rw [if_neg (by rw [hro]; decide)], show rowE el d o n = el by unfold rowE; rw [if_neg (by rw [hro]; decide)]]; exact hSh), (RowNw.rf G qr), (FrG.rf G N), (fun _ h => h), hW⟩
  · skip
    have hd7 := c_1
    refine lv_iload_n (pc := 7) hx hb dX7_row_7 rfl (lv_at hl 2 rfl) ?_
    refine lv_iconst (pc := 8) (v := 0) hx hb dX7_row_8 (by decide) ?_
    refine lv_iconst (pc := 9) (v := 2) hx hb dX7_row_9 (by decide) ?_
    refine k_X7_isWithin (pc := 10) (x := o) (y := 0) (z := 2) cx  m_ml_X7_159 ⟨Nat.le_of_ble_eq_true rfl, Nat.le_of_ble_eq_true rfl⟩ hl.1 rfl (by simp [Value.category]) dX7_row_10 (by constructor <;> (simp only [rmA]; omega)) ?_
    refine z_ifeq (pc := 13) (tgt := 22) hx hb dX7_row_13 (by decide) (fun c_2 => ?_) (fun c_2 => ?_)
    · skip
      have hro : rowO d o n = false := by unfold rowO; simp [c_2]
      refine lv_iconst (pc := 22) (v := (-1)) hx hb dX7_row_22 (by decide) ?_
      refine W.widen (k := 2) (n := 102) (by omega) (by omega) ?_
      exact z_wiret cx hr hlk dX7_row_23 hS ⟨_, _, _, (sI (by first | rfl | (simp [rowR, c_1, c_2]; done))), (GLe.rf G), (by rw [show rowK kp d o n = kp by unfold rowK; rw [if_neg (by rw [hro]; decide)], show rowS so d o n = so by unfold rowS; rw [if_neg (by rw [hro]; decide)], show rowZ sz d o n = sz by unfold rowZ; rw [if_neg (by rw [hro]; decide)], show rowE el d o n = el by unfold rowE; rw [if_neg (by rw [hro]; decide)]]; exact hSh), (RowNw.rf G qr), (FrG.rf G N), (fun _ h => h), hW⟩
    · skip
      have ho2 := inL_rg c_2
      have hoc := c_2
      refine lv_iload_n (pc := 16) hx hb dX7_row_16 rfl (lv_at hl 3 rfl) ?_
      refine lv_bipush (pc := 17) (v := 100) hx hb dX7_row_17 (by decide) ?_
      refine lv_icmp_le (pc := 19) (tgt := 24) hx hb dX7_row_19 (by decide) (fun c_3 => ?_) (fun c_3 => ?_)
      · skip
        have hn100 := c_3
        refine lv_iload_n (pc := 24) hx hb dX7_row_24 rfl (lv_at hl 3 rfl) ?_
        refine lv_if_ge (pc := 25) (tgt := 31) hx hb dX7_row_25 (by decide) (fun c_4 => ?_) (fun c_4 => ?_)
        · skip
          obtain ⟨k, hk, rfl⟩ := le_nat (B := 100) c_4 hn100 rfl
          have hro : rowO d o (nI k) = true := by unfold rowO; rw [hd7, hoc, decide_eq_true hn100, decide_eq_true c_4]; rfl
          obtain ⟨m2, hm2, rfl⟩ := shelf_nat hd7
          have hM := iN_nI (n := m2) (by omega)
          refine lv_aload_n (pc := 31) hx hb dX7_row_31 rfl (lv_at hl 0 rfl) ?_
          refine z_get (pc := 32) cx (hW.at 0 rfl) (C := RX7) (T := TX7) (N := 11) rfl i_X7 6 rfl m_fl_X7_38 rfl dX7_row_32 ?_
          refine lv_iload_n (pc := 35) hx hb dX7_row_35 rfl (lv_at hl 1 rfl) ?_
          refine lv_null (pc := 36) hx hb dX7_row_36 ?_
          refine z_aastN (pc := 37) (f := qt) (j := m2) cx hW hS 1 2 rfl rfl (hFb 1) rfl (by omega) (by decide) dX7_row_37 (fun H locs hW hS => ?_)
          have hW : WW E (wK b E.2.1 tl pd (va_up qt m2 none) qr tbu wst asw pN tN aN hd dr pl rm ps wx pp tp ap sg uh ud up ur us ux) G H := hW
          refine lv_aload_n (pc := 38) hx hb dX7_row_38 rfl (lv_at hl 0 rfl) ?_
          refine z_get (pc := 39) cx (hW.at 0 rfl) (C := RX7) (T := TX7) (N := 11) rfl i_X7 7 rfl m_fl_X7_44 rfl dX7_row_39 ?_
          refine lv_iload_n (pc := 42) hx hb dX7_row_42 rfl (lv_at hl 1 rfl) ?_
          refine z_new (pc := 43) (ci := 4) (C := RX4) (T := TX4) (N := 2) (fs := [.int 0, .null]) (ty := tyX4) cx hW hS rfl i_X4 tyX4_ok m_cl_X7_42 m_is_RX4 m_in_RX4 (by intro j hj; (rcases j with _ | _ | _ | _ | _ | _ | j) <;> first | rfl | omega) (by constructor <;> (simp only [rmA]; omega)) dX7_row_43 (fun n43 H hNn43 hfn43 hW hS => ?_)
          have hW : WW E (wK b E.2.1 tl pd (va_up qt m2 none) qr tbu wst asw pN tN aN hd dr pl rm ps wx pp tp ap sg uh ud up ur us ux) (va_up G n43 (some ((.inr (4, [.int 0, .null]) : va_E)))) H := hW
          refine lv_dup (pc := 46) hx hb dX7_row_46 rfl ?_
          refine lv_iload_n (pc := 47) hx hb dX7_row_47 rfl (lv_at hl 2 rfl) ?_
          refine lv_iload_n (pc := 48) hx hb dX7_row_48 rfl (lv_at hl 3 rfl) ?_
          refine k_X4_init (pc := 49) (q := n43) (o := o) (n := k) (by omega) cx hW hS up_s (Or.inr (hN0 ▸ hNn43)) (fun z h => Or.inr (hN0 ▸ h)) m_ml_X7_346 ⟨Nat.le_of_ble_eq_true rfl, Nat.le_of_ble_eq_true rfl⟩ hl.1 rfl (by simp [Value.category]) dX7_row_49 (by constructor <;> (simp only [rmA]; omega)) (fun r49 H locs hNr49 hfr49 hW hS => ?_)
          rw [up_up] at hW
          have hf2n43 : ∀ z e, va_up G n43 (some (ceW o r49)) z = some e → z ≠ r49 := up_fr hfr49
          have hGLn43 : GLe G (va_up (va_up G n43 (some (ceW o r49))) r49 (some (ceI E.2.1 k (fun _ => 0)))) := GLe.up2 hfn43 hf2n43
          have hgn43 : (va_up (va_up G n43 (some (ceW o r49))) r49 (some (ceI E.2.1 k (fun _ => 0)))) n43 = some (ceW o r49) := (up_n (hf2n43 n43 _ up_s)).trans up_s
          have hgr49 : (va_up (va_up G n43 (some (ceW o r49))) r49 (some (ceI E.2.1 k (fun _ => 0)))) r49 = some (ceI E.2.1 k (fun _ => 0)) := up_s
          have hW : WW E (wK b E.2.1 tl pd (va_up qt m2 none) qr tbu wst asw pN tN aN hd dr pl rm ps wx pp tp ap sg uh ud up ur us ux) (va_up (va_up G n43 (some (ceW o r49))) r49 (some (ceI E.2.1 k (fun _ => 0)))) H := hW
          refine z_aast (pc := 52) (f := qr) (j := m2) cx hW hS 2 4 4 rfl rfl (hW.dyn hgn43) rfl (hFb 2) rfl (by omega) (by decide) dX7_row_52 (fun H locs hW hS => ?_)
          have hW : WW E (wK b E.2.1 tl pd (va_up qt m2 none) (va_up qr m2 (some n43)) tbu wst asw pN tN aN hd dr pl rm ps wx pp tp ap sg uh ud up ur us ux) (va_up (va_up G n43 (some (ceW o r49))) r49 (some (ceI E.2.1 k (fun _ => 0)))) H := hW
          refine lv_iconst (pc := 53) (v := 0) hx hb dX7_row_53 (by decide) ?_
          refine W.widen (k := 2) (n := 102) (by omega) (by omega) ?_
          exact z_wiret cx hr hlk dX7_row_54 hS ⟨_, _, _, (sI (by first | rfl | (simp [rowR, c_1, c_2, c_3, c_4, i_nlt.mpr c_3, i_nlt.mpr c_4]; done))), hGLn43, (by rw [show rowK kp (nI m2) o (nI k) = upd kp m2 2 by unfold rowK; rw [if_pos hro, hM], show rowS so (nI m2) o (nI k) = upd so m2 o by unfold rowS; rw [if_pos hro, hM], show rowZ sz (nI m2) o (nI k) = upd sz m2 (nI k) by unfold rowZ; rw [if_pos hro, hM], show rowE el (nI m2) o (nI k) = zeA el (100 * m2) 100 by unfold rowE; rw [if_pos hro, hM]]; exact ShG_row (hSh.mono hGLn43) hm2 ho2 hk hgn43 hgr49), (RowNw.up hgn43 (fun z e hz => hf2n43 z e (by rw [up_n (hfn43 z e hz)]; exact hz)) hdm hGLn43), ((FrG.up (by rw [← hN0]; exact hNn43)).st (by rw [← hN0]; exact hNr49)), (RwE_up hgn43 (fun z e hz => hf2n43 z e (by rw [up_n (hfn43 z e hz)]; exact hz)) hdm hGLn43), hW⟩
        · skip
          have hro : rowO d o n = false := by unfold rowO; first | (simp [c_4]; done) | (simp [c_4]; intros; exact Int32.not_le.mp c_4)
          refine lv_bipush (pc := 28) (v := (-14)) hx hb dX7_row_28 (by decide) ?_
          refine W.widen (k := 2) (n := 102) (by omega) (by omega) ?_
          exact z_wiret cx hr hlk dX7_row_30 hS ⟨_, _, _, (sI (by first | rfl | (simp [rowR, c_1, c_2, c_3, c_4, i_nlt.mpr c_3, i_nle.mp c_4]; done))), (GLe.rf G), (by rw [show rowK kp d o n = kp by unfold rowK; rw [if_neg (by rw [hro]; decide)], show rowS so d o n = so by unfold rowS; rw [if_neg (by rw [hro]; decide)], show rowZ sz d o n = sz by unfold rowZ; rw [if_neg (by rw [hro]; decide)], show rowE el d o n = el by unfold rowE; rw [if_neg (by rw [hro]; decide)]]; exact hSh), (RowNw.rf G qr), (FrG.rf G N), (fun _ h => h), hW⟩
      · skip
        have hro : rowO d o n = false := by unfold rowO; first | (simp [c_3]; done) | (simp [c_3]; intros; exact Int32.not_le.mp c_3)
        refine lv_iconst (pc := 22) (v := (-1)) hx hb dX7_row_22 (by decide) ?_
        refine W.widen (k := 2) (n := 102) (by omega) (by omega) ?_
        exact z_wiret cx hr hlk dX7_row_23 hS ⟨_, _, _, (sI (by first | rfl | (simp [rowR, c_1, c_2, c_3, i_nle.mp c_3]; done))), (GLe.rf G), (by rw [show rowK kp d o n = kp by unfold rowK; rw [if_neg (by rw [hro]; decide)], show rowS so d o n = so by unfold rowS; rw [if_neg (by rw [hro]; decide)], show rowZ sz d o n = sz by unfold rowZ; rw [if_neg (by rw [hro]; decide)], show rowE el d o n = el by unfold rowE; rw [if_neg (by rw [hro]; decide)]]; exact hSh), (RowNw.rf G qr), (FrG.rf G N), (fun _ h => h), hW⟩
theorem k_X7_row {p : Program} {l : Launch} {e : Env} {R : Room} {s : State} {m : MethodId} {args : Array Value} {below : List Frame} {meth : Method} {c : Code} {H H0 : Heap} {locs : List Loc} {cells slots : Nat} {Q : State → Prop} {cc : ByteArray} {pc index : Nat} {ls : Array Slot} {rest st0 : List Value} {E : zE} {own : String} {nL : Nat} {F : Nat → Prop} {b : Nat → Nat} {tl : va_W} {pd : Bool} {qt : Nat → Option Nat} {qr : Nat → Option Nat} {tbu : Nat → Int32} {wst : Nat → Int32} {asw : Nat → Int32} {pN : Int32} {tN : Int32} {aN : Int32} {hd : Int32} {dr : Int32} {pl : Int32} {rm : Int32} {ps : Int32} {wx : Nat → Int32} {pp : Nat → Option Nat} {tp : Nat → Option Nat} {ap : Nat → Option Nat} {sg : Nat → Int32} {uh : Int32} {ud : Int32} {up : Int32} {ur : Int32} {us : Int32} {ux : Nat → Int32} {G : zG} {N : Nat} {d o n : Int32} {kp so sz el pr ts : Nat → Int32} (cx : Cx E p s args m c own cc nL) (hW : WW E (wK b E.2.1 tl pd qt qr tbu wst asw pN tN aN hd dr pl rm ps wx pp tp ap sg uh ud up ur us ux) G H) (hN0 : H.size = N) (hS : va_S F H0 H locs) (zF : ∀ q, (bFz b N) q → F q) (hSh : ShG E.2.1 G qt qr kp so sz el pr ts) (hdm : ∀ k q, qr k = some q → ∃ e, G q = some e) (zl : Cond.methodLink own index yX7_row ∈ AllW) (zR : 2 + 1 ≤ R.frames ∧ 8 + (4 + 11) + 66 ≤ R.locals) (zs : ls.size = nL) (zt : st0 = ([.int d, .int o, .int n] : List Value).reverse ++ .ref (b 0) :: rest) (z8 : (rest.map fun v => v.category).sum ≤ 8) (zd : decode cc pc = .ok (.invokevirtual index, 3)) (zf : cells + 2 ≤ R.cells ∧ slots + 102 ≤ R.slots) (kk0 : ∀ (qt2 : Nat → Option Nat) (qr2 : Nat → Option Nat) (G2 : zG) (H1 : Heap) (locs1 : List Loc), (GLe G G2) → (ShG E.2.1 G2 qt2 qr2 (rowK kp d o n) (rowS so d o n) (rowZ sz d o n) (rowE el d o n) pr ts) → (RowNw G G2 qr qr2) → (FrG G G2 N) → (RwI G qr → RwE G qr → RwE G2 qr2) → WW E (wK b E.2.1 tl pd qt2 qr2 tbu wst asw pN tN aN hd dr pl rm ps wx pp tp ap sg uh ud up ur us ux) G2 H1 → va_S F H0 H1 locs1 → W p l e R s m args below meth c H1 locs1 (cells + 2) (slots + 102) Q (F0 m (pc + 3) ls (.int (rowR d o n) :: rest))) : W p l e R s m args below meth c H locs cells slots Q (F0 m pc ls st0) := by
  refine z_callVw cx vm_X7_row (c_X7_row l E b tl pd qt qr tbu wst asw pN tN aN hd dr pl rm ps wx pp tp ap sg uh ud up ur us ux G N d o n kp so sz el pr ts hSh hdm) (z_rec cx.2 (hW.at 0 rfl) rfl) ⟨hW, hN0⟩ hS zF zl ⟨rfl, rfl⟩ zR rfl zs zt z8 zd zf (fun v H1 locs1 hq hS1 _ => ?_)
  rcases hq with ⟨qt2, qr2, G2, rfl, hGL, hSh2, hnw, hng, hrd2, hW1⟩
  · exact kk0 qt2 qr2 G2 H1 locs1 hGL hSh2 hnw hng hrd2 hW1 hS1
