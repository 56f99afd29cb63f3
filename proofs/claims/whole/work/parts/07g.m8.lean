theorem upd_lt {f g : Nat → Int32} {i : Nat} (h : ∀ j, j < i → f j = g j) : ∀ j, j < i + 1 → upd f i (g i) j = g j := by
  intro j hj
  unfold upd
  by_cases e : j = i
  · rw [if_pos e, e]
  · rw [if_neg e]
    exact h j (by omega)
set_option maxHeartbeats 4000000 in
set_option maxRecDepth 100000 in
theorem c_X8_fitsSet2 (l : Launch) (E : zE) (a : Nat → Nat) (sv im rd wa kp so sz el pr ts nu bu ht : Nat → Int32) (th po ba en td : Int32) (ig : Bool) (ij : Bool) (set : Int32) (hI : Inv sv) (hbz : ∀ j, j < nA sv → bu j = bzV sv j) : Met l yX8_fitsSet (.code yX8_fitsSet cX8_fitsSet 3 (some FieldType.boolean) :: AllW) (rm0' 1 21) (zP E (fun H => WW E (wM a (E.2.1 0) sv im rd wa kp so sz el pr ts nu bu ht (bI ig) th po ba en td (bI ij)) gN H) [.ref (a 0), .int set]) (rQ (.int (bI (fitS sv set)))) 0 0 nF := by
  refine z_body (own := RX8) (by decide) rfl rfl ?_
  intro p e s m args below meth c ls cx hr hlk hnm hW hl
  have hx := cx.x
  have hb := cx.b
  have hl : lv_has ls 3 [(0, .ref (a 0)), (1, .int set)] := hl
  have hC := hI.1
  have hP10 := (Inv.n0 hC).2
  have hT7 := (Inv.n1 hC).2
  have hA24 := (Inv.n2 hC).2
  refine lv_iconst (pc := 0) (v := 0) hx hb dX8_fitsSet_0 (by decide) ?_
  refine lv_istore_n (pc := 1) (lv' := [(2, .int 0), (0, .ref (a 0)), (1, .int set)]) hx hb dX8_fitsSet_1 rfl hl (by decide) rfl (fun ls hl => ?_)
  have loop_2 : ∀ (k_2 : Nat) (i : Nat) (x2 : Int32), (nA sv - i) < k_2 → (i ≤ nA sv) → (allN (fun i => decide (¬ bu i &&& set = 0) == hdA sv i) (nA sv) 0 = allN (fun i => decide (¬ bu i &&& set = 0) == hdA sv i) (nA sv - i) i) → x2 = nI i → ∀ (ls : Array Slot), lv_has ls 3 [(2, .int x2), (0, .ref (a 0)), (1, .int set)] → W p l e (rm0' (1) (21)) s m args below meth c s.heap [] 0 0 (MQ below (rQ (.int (bI (fitS sv set)))) args s 0 0 nF) (F0 m 2 ls []) := by
    intro k_2
    induction k_2 with
    | zero =>
      intro i x2 hm
      exact absurd hm (Nat.not_lt_zero _)
    | succ k_2 ih_2 =>
      intro i x2 hm_2 hi he e_x2  ls hl
      subst e_x2
      refine lv_iload_n (pc := 2) hx hb dX8_fitsSet_2 rfl (lv_at hl 0 rfl) ?_
      refine lv_aload_n (pc := 3) hx hb dX8_fitsSet_3 rfl (lv_at hl 1 rfl) ?_
      refine z_getM (pc := 4) cx (hW.at 0 rfl) 0 rfl m_fl_X8_9 rfl dX8_fitsSet_4 ?_
      refine lv_iconst (pc := 7) (v := 2) hx hb dX8_fitsSet_7 (by decide) ?_
      refine z_iald (pc := 8) (f := sv) (j := 2) cx (hW.at 1 rfl) rfl (by decide) (by decide) dX8_fitsSet_8 ?_
      refine lv_icmp_ge (pc := 9) (tgt := 44) hx hb dX8_fitsSet_9 (by decide) (fun c_1 => ?_) (fun c_1 => ?_)
      · skip
        obtain rfl : i = nA sv := by have := ge_nat (a := i) rfl (Inv.n2 hC).1 (by omega) (by omega) c_1; omega
        refine lv_iconst (pc := 44) (v := 1) hx hb dX8_fitsSet_44 (by decide) ?_
        exact z_zret cx hr hlk dX8_fitsSet_45 (by rw [← ftB_eq hbz]; unfold ftB; rw [he, Nat.sub_self]; rfl)
      · skip
        have hlt_i := lt_nat (a := i) rfl (Inv.n2 hC).1 (by omega) (by omega) c_1
        refine lv_aload_n (pc := 12) hx hb dX8_fitsSet_12 rfl (lv_at hl 1 rfl) ?_
        refine z_getM (pc := 13) cx (hW.at 0 rfl) 18 rfl m_fl_X8_43 rfl dX8_fitsSet_13 ?_
        refine lv_iload_n (pc := 16) hx hb dX8_fitsSet_16 rfl (lv_at hl 0 rfl) ?_
        refine z_iald (pc := 17) (f := bu) (j := i) cx (hW.at 12 rfl) rfl (by omega) (by decide) dX8_fitsSet_17 ?_
        refine lv_iload_n (pc := 18) hx hb dX8_fitsSet_18 rfl (lv_at hl 2 rfl) ?_
        refine lv_iand (pc := 19) hx hb dX8_fitsSet_19 ?_
        refine lv_if_eq (pc := 20) (tgt := 27) hx hb dX8_fitsSet_20 (by decide) (fun c_2 => ?_) (fun c_2 => ?_)
        · skip
          have hq : decide (¬ bu i &&& set = 0) = false := by simp [c_2]
          refine lv_iconst (pc := 27) (v := 0) hx hb dX8_fitsSet_27 (by decide) ?_
          refine lv_aload_n (pc := 28) hx hb dX8_fitsSet_28 rfl (lv_at hl 1 rfl) ?_
          refine lv_iload_n (pc := 29) hx hb dX8_fitsSet_29 rfl (lv_at hl 0 rfl) ?_
          refine k_X8_isHeard (pc := 30) (n := i) cx hW (by first | assumption | omega) m_ml_X8_211 ⟨Nat.le_of_ble_eq_true rfl, Nat.le_of_ble_eq_true rfl⟩ hl.1 rfl (by simp [Value.category]) dX8_fitsSet_30 ⟨Nat.le_refl _, Nat.le_refl _⟩ ?_
          refine lv_icmp_eq (pc := 33) (tgt := 38) hx hb dX8_fitsSet_33 (by decide) (fun c_3 => ?_) (fun c_3 => ?_)
          · skip
            refine lv_iinc (pc := 38) (v := nI (i + 1)) (lv' := [(2, .int (nI (i + 1))), (0, .ref (a 0)), (1, .int set)]) hx hb dX8_fitsSet_38 hl (k := 0) rfl (nI_1 _) (by decide) rfl (fun ls hl => ?_)
            refine lv_goto (pc := 41) (tgt := 2) hx hb dX8_fitsSet_41 (by decide) ?_
            exact ih_2 (i + 1) (nI (i + 1)) (by omega) (by omega) (by rw [he, allN_go (fit_t hq c_3) (by omega)]; rfl) (by first | rfl | (simp [bI, c_2, c_3]; done)) ls (lv_sub hl [0, 1, 2] rfl)
          · skip
            refine lv_iconst (pc := 36) (v := 0) hx hb dX8_fitsSet_36 (by decide) ?_
            exact z_zret cx hr hlk dX8_fitsSet_37 (by rw [← ftB_eq hbz]; unfold ftB; rw [he, allN_no (fit_f hq c_3) (by omega)]; rfl)
        · skip
          have hq : decide (¬ bu i &&& set = 0) = true := by simp [c_2]
          refine lv_iconst (pc := 23) (v := 1) hx hb dX8_fitsSet_23 (by decide) ?_
          refine lv_goto (pc := 24) (tgt := 28) hx hb dX8_fitsSet_24 (by decide) ?_
          refine lv_aload_n (pc := 28) hx hb dX8_fitsSet_28 rfl (lv_at hl 1 rfl) ?_
          refine lv_iload_n (pc := 29) hx hb dX8_fitsSet_29 rfl (lv_at hl 0 rfl) ?_
          refine k_X8_isHeard (pc := 30) (n := i) cx hW (by first | assumption | omega) m_ml_X8_211 ⟨Nat.le_of_ble_eq_true rfl, Nat.le_of_ble_eq_true rfl⟩ hl.1 rfl (by simp [Value.category]) dX8_fitsSet_30 ⟨Nat.le_refl _, Nat.le_refl _⟩ ?_
          refine lv_icmp_eq (pc := 33) (tgt := 38) hx hb dX8_fitsSet_33 (by decide) (fun c_4 => ?_) (fun c_4 => ?_)
          · skip
            refine lv_iinc (pc := 38) (v := nI (i + 1)) (lv' := [(2, .int (nI (i + 1))), (0, .ref (a 0)), (1, .int set)]) hx hb dX8_fitsSet_38 hl (k := 0) rfl (nI_1 _) (by decide) rfl (fun ls hl => ?_)
            refine lv_goto (pc := 41) (tgt := 2) hx hb dX8_fitsSet_41 (by decide) ?_
            exact ih_2 (i + 1) (nI (i + 1)) (by omega) (by omega) (by rw [he, allN_go (fit_t hq c_4) (by omega)]; rfl) (by first | rfl | (simp [bI, c_2, c_4]; done)) ls (lv_sub hl [0, 1, 2] rfl)
          · skip
            refine lv_iconst (pc := 36) (v := 0) hx hb dX8_fitsSet_36 (by decide) ?_
            exact z_zret cx hr hlk dX8_fitsSet_37 (by rw [← ftB_eq hbz]; unfold ftB; rw [he, allN_no (fit_f hq c_4) (by omega)]; rfl)
  exact loop_2 ((nA sv - 0) + 1) 0 0 (Nat.lt_succ_self _) (by omega) rfl (by first | rfl | (simp [bI]; done)) ls (lv_sub hl [0, 1, 2] rfl)
theorem k_X8_fitsSet2 {p : Program} {l : Launch} {e : Env} {R : Room} {s : State} {m : MethodId} {args : Array Value} {below : List Frame} {meth : Method} {c : Code} {H : Heap} {locs : List Loc} {cells slots : Nat} {Q : State → Prop} {cc : ByteArray} {pc index : Nat} {ls : Array Slot} {rest st0 : List Value} {E : zE} {own : String} {nL : Nat} {a : Nat → Nat} {sv im rd wa kp so sz el pr ts nu bu ht : Nat → Int32} {th po ba en td : Int32} {ig : Bool} {ij : Bool} {set : Int32} (cx : Cx E p s args m c own cc nL) (hW : WW E (wM a (E.2.1 0) sv im rd wa kp so sz el pr ts nu bu ht (bI ig) th po ba en td (bI ij)) gN H) (hI : Inv sv) (hbz : ∀ j, j < nA sv → bu j = bzV sv j) (zl : Cond.methodLink own index yX8_fitsSet ∈ AllW) (zR : 1 + 1 ≤ R.frames ∧ 8 + (3 + 11) + 21 ≤ R.locals) (zs : ls.size = nL) (zt : st0 = ([.int set] : List Value).reverse ++ .ref (a 0) :: rest) (z8 : (rest.map fun v => v.category).sum ≤ 8) (zd : decode cc pc = .ok (.invokevirtual index, 3)) (zf : cells ≤ R.cells ∧ slots ≤ R.slots) (kk : W p l e R s m args below meth c H locs cells slots Q (F0 m (pc + 3) ls (.int (bI (fitS sv set)) :: rest))) : W p l e R s m args below meth c H locs cells slots Q (F0 m pc ls st0) :=
  z_callV cx vm_X8_fitsSet (c_X8_fitsSet2 l E a sv im rd wa kp so sz el pr ts nu bu ht th po ba en td ig ij set hI hbz) (z_rec cx.2 (hW.at 0 rfl) rfl) hW zl ⟨rfl, rfl⟩ zR rfl zs zt z8 zd zf kk
theorem vm_X8_findBuzzed : zVm yX8_findBuzzed cX8_findBuzzed 3 none 0 := ⟨m_co_X8_findBuzzed, m_in_RX8, ⟨m_im_X8_findBuzzed, m_se_X8_X8_findBuzzed⟩, by decide +kernel, by decide +kernel, by decide +kernel⟩
set_option maxHeartbeats 4000000 in
set_option maxRecDepth 100000 in
theorem c_X8_findBuzzed (l : Launch) (E : zE) (a : Nat → Nat) (sv im rd wa kp so sz el pr ts nu bu ht : Nat → Int32) (th po ba en td : Int32) (ig : Bool) (ij : Bool)  (hI : Inv sv) : Met l yX8_findBuzzed (.code yX8_findBuzzed cX8_findBuzzed 3 none :: AllW) (rm0' 19 547) (zP E (fun H => WW E (wM a (E.2.1 0) sv im rd wa kp so sz el pr ts nu bu ht (bI ig) th po ba en td (bI ij)) gN H) [.ref (a 0)]) (zQ (fun (_ : Heap) (v : Option Value) (H1 : Heap) => (∃ (wa2 : Nat → Int32) (bu2 : Nat → Int32), v = none ∧ (∀ j, j < nA sv → bu2 j = bzV sv j) ∧ WW E (wM a (E.2.1 0) sv im rd wa2 kp so sz el pr ts nu bu2 ht (bI ig) th po ba en td (bI ij)) gN H1)) (mF a)) 0 0 (mF a) := by
  refine z_body (own := RX8) (by decide) rfl rfl ?_
  intro p e s m args below meth c ls cx hr hlk hnm hW hl
  have hx := cx.x
  have hb := cx.b
  have hl : lv_has ls 3 [(0, .ref (a 0))] := hl
  have hS : va_S (mF a) s.heap s.heap [] := va_S.rf
  have hC := hI.1
  have hP10 := (Inv.n0 hC).2
  have hT7 := (Inv.n1 hC).2
  have hA24 := (Inv.n2 hC).2
  refine lv_aload_n (pc := 0) hx hb dX8_findBuzzed_0 rfl (lv_at hl 0 rfl) ?_
  refine lv_aload_n (pc := 1) hx hb dX8_findBuzzed_1 rfl (lv_at hl 0 rfl) ?_
  refine z_getM (pc := 2) cx (hW.at 0 rfl) 3 rfl m_fl_X8_19 rfl dX8_findBuzzed_2 ?_
  refine lv_iconst (pc := 5) (v := 0) hx hb dX8_findBuzzed_5 (by decide) ?_
  refine k_X8_notes_w (pc := 6) (k := 0) cx hW hS (fun _ h => h) (by first | assumption | omega) m_ml_X8_204 ⟨Nat.le_of_ble_eq_true rfl, Nat.le_of_ble_eq_true rfl⟩ hl.1 rfl (by simp [Value.category]) dX8_findBuzzed_6 ⟨Nat.le_refl _, Nat.le_refl _⟩ (fun  H locs  hW hS => ?_)
  have hW : WW E (wM a (E.2.1 0) sv im rd (ntA wa (winA sv) 0 15) kp so sz el pr ts nu bu ht (bI ig) th po ba en td (bI ij)) gN H := hW
  refine lv_iconst (pc := 9) (v := 0) hx hb dX8_findBuzzed_9 (by decide) ?_
  refine lv_istore_n (pc := 10) (lv' := [(1, .int 0), (0, .ref (a 0))]) hx hb dX8_findBuzzed_10 rfl hl (by decide) rfl (fun ls hl => ?_)
  have loop_11 : ∀ (k_11 : Nat) (i : Nat) (x1 : Int32), (nA sv - i) < k_11 → (i ≤ nA sv) → x1 = nI i → ∀ (w : Nat → Int32) (bu2 : Nat → Int32) (H : Heap) (locs : List Loc), (∀ j, j < i → bu2 j = bzV sv j) → WW E (wM a (E.2.1 0) (pb sv w) im rd (ntA wa (winA sv) 0 15) kp so sz el pr ts nu bu2 ht (bI ig) th po ba en td (bI ij)) gN H → va_S (mF a) s.heap H locs → ∀ (ls : Array Slot), lv_has ls 3 [(1, .int x1), (0, .ref (a 0))] → W p l e (rm0' (19) (547)) s m args below meth c H locs 0 0 (MQ below (zQ (fun (_ : Heap) (v : Option Value) (H1 : Heap) => (∃ (wa2 : Nat → Int32) (bu2 : Nat → Int32), v = none ∧ (∀ j, j < nA sv → bu2 j = bzV sv j) ∧ WW E (wM a (E.2.1 0) sv im rd wa2 kp so sz el pr ts nu bu2 ht (bI ig) th po ba en td (bI ij)) gN H1)) (mF a)) args s 0 0 (mF a)) (F0 m 11 ls []) := by
    intro k_11
    induction k_11 with
    | zero =>
      intro i x1 hm
      exact absurd hm (Nat.not_lt_zero _)
    | succ k_11 ih_11 =>
      intro i x1 hm_11 hi e_x1 w bu2 H locs hbz hW hS ls hl
      subst e_x1
      refine lv_iload_n (pc := 11) hx hb dX8_findBuzzed_11 rfl (lv_at hl 0 rfl) ?_
      refine lv_aload_n (pc := 12) hx hb dX8_findBuzzed_12 rfl (lv_at hl 1 rfl) ?_
      refine z_getM (pc := 13) cx (hW.at 0 rfl) 0 rfl m_fl_X8_9 rfl dX8_findBuzzed_13 ?_
      refine lv_iconst (pc := 16) (v := 2) hx hb dX8_findBuzzed_16 (by decide) ?_
      refine z_iald (pc := 17) (f := pb sv w) (j := 2) cx (hW.at 1 rfl) rfl (by decide) (by decide) dX8_findBuzzed_17 ?_
      refine lv_icmp_ge (pc := 18) (tgt := 70) hx hb dX8_findBuzzed_18 (by decide) (fun c_1 => ?_) (fun c_1 => ?_)
      · skip
        rw [pb_lo sv w 2 (by decide)] at c_1
        obtain rfl : i = nA sv := by have := ge_nat (a := i) rfl (Inv.n2 hC).1 (by omega) (by omega) c_1; omega
        refine lv_aload_n (pc := 70) hx hb dX8_findBuzzed_70 rfl (lv_at hl 1 rfl) ?_
        refine lv_aload_n (pc := 71) hx hb dX8_findBuzzed_71 rfl (lv_at hl 1 rfl) ?_
        refine z_getM (pc := 72) cx (hW.at 0 rfl) 3 rfl m_fl_X8_19 rfl dX8_findBuzzed_72 ?_
        refine lv_iconst (pc := 75) (v := 0) hx hb dX8_findBuzzed_75 (by decide) ?_
        refine k_X8_putsBack_w (pc := 76) (k := 0) cx hW hS (fun _ h => h) (by first | assumption | omega) m_ml_X8_208 ⟨Nat.le_of_ble_eq_true rfl, Nat.le_of_ble_eq_true rfl⟩ hl.1 rfl (by simp [Value.category]) dX8_findBuzzed_76 ⟨Nat.le_refl _, Nat.le_refl _⟩ (fun  H locs  hW hS => ?_)
        have hW : WW E (wM a (E.2.1 0) (pb (pb sv w) (fun q => (ntA wa (winA sv) 0 15) (0 + q))) im rd (ntA wa (winA sv) 0 15) kp so sz el pr ts nu bu2 ht (bI ig) th po ba en td (bI ij)) gN H := hW
        have e2 : pb (pb sv w) (fun q => ntA wa (winA sv) 0 15 (0 + q)) = sv := by rw [pb_pb, pb_congr sv (w := winA sv) (fun q hq => ntA_in _ _ _ _ hq), pb_win]
        rw [e2] at hW
        have hW : WW E (wM a (E.2.1 0) sv im rd (ntA wa (winA sv) 0 15) kp so sz el pr ts nu bu2 ht (bI ig) th po ba en td (bI ij)) gN H := hW
        exact z_wvret cx hr hlk dX8_findBuzzed_79 hS ⟨_, _, rfl, hbz, hW⟩
      · skip
        rw [pb_lo sv w 2 (by decide)] at c_1
        have hlt_i := lt_nat (a := i) rfl (Inv.n2 hC).1 (by omega) (by omega) c_1
        refine lv_bipush (pc := 21) (v := 103) hx hb dX8_findBuzzed_21 (by decide) ?_
        refine lv_bipush (pc := 23) (v := 18) hx hb dX8_findBuzzed_23 (by decide) ?_
        refine lv_iload_n (pc := 25) hx hb dX8_findBuzzed_25 rfl (lv_at hl 0 rfl) ?_
        refine lv_imul (pc := 26) hx hb dX8_findBuzzed_26 ?_
        refine lv_iadd (pc := 27) hx hb dX8_findBuzzed_27 ?_
        refine z_tope (y := nI (103 + 18 * i)) (ix_18 i) ?_
        refine lv_istore_n (pc := 28) (lv' := [(2, .int (nI (103 + 18 * i))), (1, .int (nI i)), (0, .ref (a 0))]) hx hb dX8_findBuzzed_28 rfl hl (by decide) rfl (fun ls hl => ?_)
        refine lv_aload_n (pc := 29) hx hb dX8_findBuzzed_29 rfl (lv_at hl 2 rfl) ?_
        refine lv_aload_n (pc := 30) hx hb dX8_findBuzzed_30 rfl (lv_at hl 2 rfl) ?_
        refine z_getM (pc := 31) cx (hW.at 0 rfl) 0 rfl m_fl_X8_9 rfl dX8_findBuzzed_31 ?_
        refine lv_iload_n (pc := 34) hx hb dX8_findBuzzed_34 rfl (lv_at hl 0 rfl) ?_
        refine lv_iconst (pc := 35) (v := 3) hx hb dX8_findBuzzed_35 (by decide) ?_
        refine lv_iadd (pc := 36) hx hb dX8_findBuzzed_36 ?_
        refine z_tope (y := nI (103 + 18 * i + 3)) (nI_add _ 3) ?_
        refine k_X8_putsBack_s (pc := 37) (k := 103 + 18 * i + 3) cx hW hS (fun _ h => h) (by first | assumption | omega) (by first | assumption | omega) m_ml_X8_208 ⟨Nat.le_of_ble_eq_true rfl, Nat.le_of_ble_eq_true rfl⟩ hl.1 rfl (by simp [Value.category]) dX8_findBuzzed_37 ⟨Nat.le_refl _, Nat.le_refl _⟩ (fun  H locs  hW hS => ?_)
        have hW : WW E (wM a (E.2.1 0) (pb (pb sv w) (fun q => (pb sv w) ((103 + 18 * i + 3) + q))) im rd (ntA wa (winA sv) 0 15) kp so sz el pr ts nu bu2 ht (bI ig) th po ba en td (bI ij)) gN H := hW
        have e1 : pb (pb sv w) (fun q => pb sv w (103 + 18 * i + 3 + q)) = pb sv (askW sv i) := by rw [pb_pb]; exact pb_congr sv fun q _ => pb_hi sv w _ (by omega)
        rw [e1] at hW
        have hW : WW E (wM a (E.2.1 0) (pb sv (askW sv i)) im rd (ntA wa (winA sv) 0 15) kp so sz el pr ts nu bu2 ht (bI ig) th po ba en td (bI ij)) gN H := hW
        refine lv_aload_n (pc := 40) hx hb dX8_findBuzzed_40 rfl (lv_at hl 2 rfl) ?_
        refine z_getM (pc := 41) cx (hW.at 0 rfl) 18 rfl m_fl_X8_43 rfl dX8_findBuzzed_41 ?_
        refine lv_iload_n (pc := 44) hx hb dX8_findBuzzed_44 rfl (lv_at hl 1 rfl) ?_
        refine lv_aload_n (pc := 45) hx hb dX8_findBuzzed_45 rfl (lv_at hl 2 rfl) ?_
        refine lv_aload_n (pc := 46) hx hb dX8_findBuzzed_46 rfl (lv_at hl 2 rfl) ?_
        refine z_getM (pc := 47) cx (hW.at 0 rfl) 0 rfl m_fl_X8_9 rfl dX8_findBuzzed_47 ?_
        refine lv_iload_n (pc := 50) hx hb dX8_findBuzzed_50 rfl (lv_at hl 0 rfl) ?_
        refine z_iald (pc := 51) (f := pb sv (askW sv i)) (j := 103 + 18 * i) cx (hW.at 1 rfl) rfl (by omega) (by decide) dX8_findBuzzed_51 ?_
        refine z_tope (y := sv (103 + 18 * i)) (pb_hi _ _ _ (by omega)) ?_
        refine lv_aload_n (pc := 52) hx hb dX8_findBuzzed_52 rfl (lv_at hl 2 rfl) ?_
        refine z_getM (pc := 53) cx (hW.at 0 rfl) 0 rfl m_fl_X8_9 rfl dX8_findBuzzed_53 ?_
        refine lv_iload_n (pc := 56) hx hb dX8_findBuzzed_56 rfl (lv_at hl 0 rfl) ?_
        refine lv_iconst (pc := 57) (v := 1) hx hb dX8_findBuzzed_57 (by decide) ?_
        refine lv_iadd (pc := 58) hx hb dX8_findBuzzed_58 ?_
        refine z_iald (pc := 59) (f := pb sv (askW sv i)) (j := 103 + 18 * i + 1) cx (hW.at 1 rfl) (by simp only [nI, Int32.ofNat_add, Int32.ofNat_mul] <;> rfl) (by omega) (by decide) dX8_findBuzzed_59 ?_
        refine z_tope (y := sv (103 + 18 * i + 1)) (pb_hi _ _ _ (by omega)) ?_
        refine k_X8_heardAt (pc := 60) (f := sv (103 + 18 * i)) (st := sv (103 + 18 * i + 1)) cx hW (Inv_ask hI hlt_i) (hI.2.2.2.2 i hlt_i).1 m_ml_X8_201 ⟨Nat.le_of_ble_eq_true rfl, Nat.le_of_ble_eq_true rfl⟩ hl.1 rfl (by simp [Value.category]) dX8_findBuzzed_60 ⟨Nat.le_refl _, Nat.le_refl _⟩ ?_
        refine z_iast (pc := 63) (f := bu2) (j := i) cx hW hS 12 rfl (mF_in a 12) rfl (by omega) (by decide) dX8_findBuzzed_63 (fun H locs hW hS => ?_)
        have hW : WW E (wM a (E.2.1 0) (pb sv (askW sv i)) im rd (ntA wa (winA sv) 0 15) kp so sz el pr ts nu (upd bu2 i (hrA (pb sv (askW sv i)) (sv (103 + 18 * i)) (sv (103 + 18 * i + 1)))) ht (bI ig) th po ba en td (bI ij)) gN H := hW
        refine lv_iinc (pc := 64) (v := nI (i + 1)) (lv' := [(1, .int (nI (i + 1))), (2, .int (nI (103 + 18 * i))), (0, .ref (a 0))]) hx hb dX8_findBuzzed_64 hl (k := 1) rfl (nI_1 _) (by decide) rfl (fun ls hl => ?_)
        refine lv_goto (pc := 67) (tgt := 11) hx hb dX8_findBuzzed_67 (by decide) ?_
        exact ih_11 (i + 1) (nI (i + 1)) (by omega) (by omega) (by first | rfl | (simp []; done)) (askW sv i) (upd bu2 i (bzV sv i)) _ _ (upd_lt hbz) (hW) hS ls (lv_sub hl [0, 2] rfl)
  exact loop_11 ((nA sv - 0) + 1) 0 0 (Nat.lt_succ_self _) (by omega) (by first | rfl | (simp []; done)) (winA sv) bu _ _ (fun j h => absurd h (Nat.not_lt_zero _)) (by rw [pb_win]; exact hW) hS ls (lv_sub hl [0, 1] rfl)
theorem k_X8_findBuzzed {p : Program} {l : Launch} {e : Env} {R : Room} {s : State} {m : MethodId} {args : Array Value} {below : List Frame} {meth : Method} {c : Code} {H H0 : Heap} {locs : List Loc} {cells slots : Nat} {Q : State → Prop} {cc : ByteArray} {pc index : Nat} {ls : Array Slot} {rest st0 : List Value} {E : zE} {own : String} {nL : Nat} {F : Nat → Prop} {a : Nat → Nat} {sv im rd wa kp so sz el pr ts nu bu ht : Nat → Int32} {th po ba en td : Int32} {ig : Bool} {ij : Bool}  (cx : Cx E p s args m c own cc nL) (hW : WW E (wM a (E.2.1 0) sv im rd wa kp so sz el pr ts nu bu ht (bI ig) th po ba en td (bI ij)) gN H) (hS : va_S F H0 H locs) (zF : ∀ q, (mF a) q → F q) (hI : Inv sv) (zl : Cond.methodLink own index yX8_findBuzzed ∈ AllW) (zR : 19 + 1 ≤ R.frames ∧ 8 + (3 + 11) + 547 ≤ R.locals) (zs : ls.size = nL) (zt : st0 = ([] : List Value).reverse ++ .ref (a 0) :: rest) (z8 : (rest.map fun v => v.category).sum ≤ 8) (zd : decode cc pc = .ok (.invokevirtual index, 3)) (zf : cells ≤ R.cells ∧ slots ≤ R.slots) (kk0 : ∀ (wa2 : Nat → Int32) (bu2 : Nat → Int32) (H1 : Heap) (locs1 : List Loc), (∀ j, j < nA sv → bu2 j = bzV sv j) → WW E (wM a (E.2.1 0) sv im rd wa2 kp so sz el pr ts nu bu2 ht (bI ig) th po ba en td (bI ij)) gN H1 → va_S F H0 H1 locs1 → W p l e R s m args below meth c H1 locs1 cells slots Q (F0 m (pc + 3) ls (rest))) : W p l e R s m args below meth c H locs cells slots Q (F0 m pc ls st0) := by
  refine z_callVw cx vm_X8_findBuzzed (c_X8_findBuzzed l E a sv im rd wa kp so sz el pr ts nu bu ht th po ba en td ig ij hI) (z_rec cx.2 (hW.at 0 rfl) rfl) hW hS zF zl ⟨rfl, rfl⟩ zR rfl zs zt z8 zd zf (fun v H1 locs1 hq hS1 _ => ?_)
  rcases hq with ⟨wa2, bu2, rfl, hbz, hW1⟩
  · exact kk0 wa2 bu2 H1 locs1 hbz hW1 hS1
theorem vm_X8_fitting : zVm yX8_fitting cX8_fitting 3 (some FieldType.int) 0 := ⟨m_co_X8_fitting, m_in_RX8, ⟨m_im_X8_fitting, m_se_X8_X8_fitting⟩, by decide +kernel, by decide +kernel, by decide +kernel⟩
set_option maxHeartbeats 4000000 in
set_option maxRecDepth 100000 in
theorem c_X8_fitting (l : Launch) (E : zE) (a : Nat → Nat) (sv im rd wa kp so sz el pr ts nu bu ht : Nat → Int32) (th po ba en td : Int32) (ig : Bool) (ij : Bool)  (hI : Inv sv) : Met l yX8_fitting (.code yX8_fitting cX8_fitting 3 (some FieldType.int) :: AllW) (rm0' 20 569) (zP E (fun H => WW E (wM a (E.2.1 0) sv im rd wa kp so sz el pr ts nu bu ht (bI ig) th po ba en td (bI ij)) gN H) [.ref (a 0)]) (zQ (fun (_ : Heap) (v : Option Value) (H1 : Heap) => (∃ (wa2 : Nat → Int32) (bu2 : Nat → Int32), v = some (.int (ftA sv)) ∧ (∀ j, j < nA sv → bu2 j = bzV sv j) ∧ WW E (wM a (E.2.1 0) sv im rd wa2 kp so sz el pr ts nu bu2 ht (bI ig) th po ba en td (bI ij)) gN H1)) (mF a)) 0 0 (mF a) := by
  refine z_body (own := RX8) (by decide) rfl rfl ?_
  intro p e s m args below meth c ls cx hr hlk hnm hW hl
  have hx := cx.x
  have hb := cx.b
  have hl : lv_has ls 3 [(0, .ref (a 0))] := hl
  have hS : va_S (mF a) s.heap s.heap [] := va_S.rf
  have hC := hI.1
  have hP10 := (Inv.n0 hC).2
  have hT7 := (Inv.n1 hC).2
  have hA24 := (Inv.n2 hC).2
  refine lv_aload_n (pc := 0) hx hb dX8_fitting_0 rfl (lv_at hl 0 rfl) ?_
  refine k_X8_findBuzzed (pc := 1)  cx hW hS (fun _ h => h) (by first | assumption | omega) m_ml_X8_214 ⟨Nat.le_of_ble_eq_true rfl, Nat.le_of_ble_eq_true rfl⟩ hl.1 rfl (by simp [Value.category]) dX8_fitting_1 ⟨Nat.le_refl _, Nat.le_refl _⟩ (fun wa2 bu2 H locs hbz hW hS => ?_)
  have hW : WW E (wM a (E.2.1 0) sv im rd wa2 kp so sz el pr ts nu bu2 ht (bI ig) th po ba en td (bI ij)) gN H := hW
  refine lv_iconst (pc := 4) (v := 0) hx hb dX8_fitting_4 (by decide) ?_
  refine lv_istore_n (pc := 5) (lv' := [(1, .int 0), (0, .ref (a 0))]) hx hb dX8_fitting_5 rfl hl (by decide) rfl (fun ls hl => ?_)
  refine lv_iconst (pc := 6) (v := 0) hx hb dX8_fitting_6 (by decide) ?_
  refine lv_istore_n (pc := 7) (lv' := [(2, .int 0), (1, .int 0), (0, .ref (a 0))]) hx hb dX8_fitting_7 rfl hl (by decide) rfl (fun ls hl => ?_)
  have loop_8 : ∀ (k_8 : Nat) (i : Nat) (x2 : Int32) (x1 : Int32), (nT sv - i) < k_8 → (i ≤ nT sv) → x2 = nI i → x1 = orN (fun t => if fitS sv (1 <<< (nI t &&& 31)) = true then 1 <<< (nI t &&& 31) else 0) i → ∀ (H : Heap) (locs : List Loc), WW E (wM a (E.2.1 0) sv im rd wa2 kp so sz el pr ts nu bu2 ht (bI ig) th po ba en td (bI ij)) gN H → va_S (mF a) s.heap H locs → ∀ (ls : Array Slot), lv_has ls 3 [(2, .int x2), (1, .int x1), (0, .ref (a 0))] → W p l e (rm0' (20) (569)) s m args below meth c H locs 0 0 (MQ below (zQ (fun (_ : Heap) (v : Option Value) (H1 : Heap) => (∃ (wa2 : Nat → Int32) (bu2 : Nat → Int32), v = some (.int (ftA sv)) ∧ (∀ j, j < nA sv → bu2 j = bzV sv j) ∧ WW E (wM a (E.2.1 0) sv im rd wa2 kp so sz el pr ts nu bu2 ht (bI ig) th po ba en td (bI ij)) gN H1)) (mF a)) args s 0 0 (mF a)) (F0 m 8 ls []) := by
    intro k_8
    induction k_8 with
    | zero =>
      intro i x2 x1 hm
      exact absurd hm (Nat.not_lt_zero _)
    | succ k_8 ih_8 =>
      intro i x2 x1 hm_8 hi e_x2 e_x1  H locs  hW hS ls hl
      subst e_x2
      subst e_x1
      refine lv_iload_n (pc := 8) hx hb dX8_fitting_8 rfl (lv_at hl 0 rfl) ?_
      refine lv_aload_n (pc := 9) hx hb dX8_fitting_9 rfl (lv_at hl 2 rfl) ?_
      refine z_getM (pc := 10) cx (hW.at 0 rfl) 0 rfl m_fl_X8_9 rfl dX8_fitting_10 ?_
      refine lv_iconst (pc := 13) (v := 1) hx hb dX8_fitting_13 (by decide) ?_
      refine z_iald (pc := 14) (f := sv) (j := 1) cx (hW.at 1 rfl) rfl (by decide) (by decide) dX8_fitting_14 ?_
      refine lv_icmp_ge (pc := 15) (tgt := 44) hx hb dX8_fitting_15 (by decide) (fun c_1 => ?_) (fun c_1 => ?_)
      · skip
        obtain rfl : i = nT sv := by have := ge_nat (a := i) rfl (Inv.n1 hC).1 (by omega) (by omega) c_1; omega
        refine lv_iload_n (pc := 44) hx hb dX8_fitting_44 rfl (lv_at hl 1 rfl) ?_
        exact z_wiret cx hr hlk dX8_fitting_45 hS ⟨_, _, (sI (by first | rfl | (simp [ftA, orN]; done))), hbz, hW⟩
      · skip
        have hlt_i := lt_nat (a := i) rfl (Inv.n1 hC).1 (by omega) (by omega) c_1
        refine lv_iload_n (pc := 18) hx hb dX8_fitting_18 rfl (lv_at hl 1 rfl) ?_
        refine lv_aload_n (pc := 19) hx hb dX8_fitting_19 rfl (lv_at hl 2 rfl) ?_
        refine lv_iconst (pc := 20) (v := 1) hx hb dX8_fitting_20 (by decide) ?_
        refine lv_iload_n (pc := 21) hx hb dX8_fitting_21 rfl (lv_at hl 0 rfl) ?_
        refine lv_ishl (pc := 22) hx hb dX8_fitting_22 ?_
        refine k_X8_fitsSet2 (pc := 23) (set := 1 <<< ((nI i) &&& 31)) cx hW hI hbz m_ml_X8_217 ⟨Nat.le_of_ble_eq_true rfl, Nat.le_of_ble_eq_true rfl⟩ hl.1 rfl (by simp [Value.category]) dX8_fitting_23 ⟨Nat.le_refl _, Nat.le_refl _⟩ ?_
        refine z_ifeq (pc := 26) (tgt := 35) hx hb dX8_fitting_26 (by decide) (fun c_2 => ?_) (fun c_2 => ?_)
        · skip
          refine lv_iconst (pc := 35) (v := 0) hx hb dX8_fitting_35 (by decide) ?_
          refine lv_ior (pc := 36) hx hb dX8_fitting_36 ?_
          refine lv_istore_n (pc := 37) (lv' := [(1, .int ((orN (fun t => if fitS sv (1 <<< (nI t &&& 31)) = true then 1 <<< (nI t &&& 31) else 0) i) ||| 0)), (2, .int (nI i)), (0, .ref (a 0))]) hx hb dX8_fitting_37 rfl hl (by decide) rfl (fun ls hl => ?_)
          refine lv_iinc (pc := 38) (v := nI (i + 1)) (lv' := [(2, .int (nI (i + 1))), (1, .int ((orN (fun t => if fitS sv (1 <<< (nI t &&& 31)) = true then 1 <<< (nI t &&& 31) else 0) i) ||| 0)), (0, .ref (a 0))]) hx hb dX8_fitting_38 hl (k := 1) rfl (nI_1 _) (by decide) rfl (fun ls hl => ?_)
          refine lv_goto (pc := 41) (tgt := 8) hx hb dX8_fitting_41 (by decide) ?_
          exact ih_8 (i + 1) (nI (i + 1)) ((orN (fun t => if fitS sv (1 <<< (nI t &&& 31)) = true then 1 <<< (nI t &&& 31) else 0) i) ||| 0) (by omega) (by omega) (by first | rfl | (simp [ftA, orN, c_2]; done)) (by first | rfl | (simp [ftA, orN, c_2]; done))  _ _  (hW) hS ls (lv_sub hl [0, 1, 2] rfl)
        · skip
          refine lv_iconst (pc := 29) (v := 1) hx hb dX8_fitting_29 (by decide) ?_
          refine lv_iload_n (pc := 30) hx hb dX8_fitting_30 rfl (lv_at hl 0 rfl) ?_
          refine lv_ishl (pc := 31) hx hb dX8_fitting_31 ?_
          refine lv_goto (pc := 32) (tgt := 36) hx hb dX8_fitting_32 (by decide) ?_
          refine lv_ior (pc := 36) hx hb dX8_fitting_36 ?_
          refine lv_istore_n (pc := 37) (lv' := [(1, .int ((orN (fun t => if fitS sv (1 <<< (nI t &&& 31)) = true then 1 <<< (nI t &&& 31) else 0) i) ||| (1 <<< ((nI i) &&& 31)))), (2, .int (nI i)), (0, .ref (a 0))]) hx hb dX8_fitting_37 rfl hl (by decide) rfl (fun ls hl => ?_)
          refine lv_iinc (pc := 38) (v := nI (i + 1)) (lv' := [(2, .int (nI (i + 1))), (1, .int ((orN (fun t => if fitS sv (1 <<< (nI t &&& 31)) = true then 1 <<< (nI t &&& 31) else 0) i) ||| (1 <<< ((nI i) &&& 31)))), (0, .ref (a 0))]) hx hb dX8_fitting_38 hl (k := 1) rfl (nI_1 _) (by decide) rfl (fun ls hl => ?_)
          refine lv_goto (pc := 41) (tgt := 8) hx hb dX8_fitting_41 (by decide) ?_
          exact ih_8 (i + 1) (nI (i + 1)) ((orN (fun t => if fitS sv (1 <<< (nI t &&& 31)) = true then 1 <<< (nI t &&& 31) else 0) i) ||| (1 <<< ((nI i) &&& 31))) (by omega) (by omega) (by first | rfl | (simp [ftA, orN, c_2]; done)) (by first | rfl | (simp [ftA, orN, c_2]; done))  _ _  (hW) hS ls (lv_sub hl [0, 1, 2] rfl)
  exact loop_8 ((nT sv - 0) + 1) 0 0 0 (Nat.lt_succ_self _) (by omega) (by first | rfl | (simp [ftA, orN]; done)) (by first | rfl | (simp [ftA, orN]; done))  _ _  (hW) hS ls (lv_sub hl [0, 1, 2] rfl)
theorem k_X8_fitting {p : Program} {l : Launch} {e : Env} {R : Room} {s : State} {m : MethodId} {args : Array Value} {below : List Frame} {meth : Method} {c : Code} {H H0 : Heap} {locs : List Loc} {cells slots : Nat} {Q : State → Prop} {cc : ByteArray} {pc index : Nat} {ls : Array Slot} {rest st0 : List Value} {E : zE} {own : String} {nL : Nat} {F : Nat → Prop} {a : Nat → Nat} {sv im rd wa kp so sz el pr ts nu bu ht : Nat → Int32} {th po ba en td : Int32} {ig : Bool} {ij : Bool}  (cx : Cx E p s args m c own cc nL) (hW : WW E (wM a (E.2.1 0) sv im rd wa kp so sz el pr ts nu bu ht (bI ig) th po ba en td (bI ij)) gN H) (hS : va_S F H0 H locs) (zF : ∀ q, (mF a) q → F q) (hI : Inv sv) (zl : Cond.methodLink own index yX8_fitting ∈ AllW) (zR : 20 + 1 ≤ R.frames ∧ 8 + (3 + 11) + 569 ≤ R.locals) (zs : ls.size = nL) (zt : st0 = ([] : List Value).reverse ++ .ref (a 0) :: rest) (z8 : (rest.map fun v => v.category).sum ≤ 8) (zd : decode cc pc = .ok (.invokevirtual index, 3)) (zf : cells ≤ R.cells ∧ slots ≤ R.slots) (kk0 : ∀ (wa2 : Nat → Int32) (bu2 : Nat → Int32) (H1 : Heap) (locs1 : List Loc), (∀ j, j < nA sv → bu2 j = bzV sv j) → WW E (wM a (E.2.1 0) sv im rd wa2 kp so sz el pr ts nu bu2 ht (bI ig) th po ba en td (bI ij)) gN H1 → va_S F H0 H1 locs1 → W p l e R s m args below meth c H1 locs1 cells slots Q (F0 m (pc + 3) ls (.int (ftA sv) :: rest))) : W p l e R s m args below meth c H locs cells slots Q (F0 m pc ls st0) := by
  refine z_callVw cx vm_X8_fitting (c_X8_fitting l E a sv im rd wa kp so sz el pr ts nu bu ht th po ba en td ig ij hI) (z_rec cx.2 (hW.at 0 rfl) rfl) hW hS zF zl ⟨rfl, rfl⟩ zR rfl zs zt z8 zd zf (fun v H1 locs1 hq hS1 _ => ?_)
  rcases hq with ⟨wa2, bu2, rfl, hbz, hW1⟩
  · exact kk0 wa2 bu2 H1 locs1 hbz hW1 hS1
theorem vm_X8_fits : zVm yX8_fits cX8_fits 1 (some FieldType.int) 0 := ⟨m_co_X8_fits, m_in_RX8, ⟨m_im_X8_fits, m_se_X8_X8_fits⟩, by decide +kernel, by decide +kernel, by decide +kernel⟩
set_option maxHeartbeats 4000000 in
set_option maxRecDepth 100000 in
theorem c_X8_fits (l : Launch) (E : zE) (a : Nat → Nat) (sv im rd wa kp so sz el pr ts nu bu ht : Nat → Int32) (th po ba en td : Int32) (ig : Bool) (ij : Bool)  (hI : Inv sv) : Met l yX8_fits (.code yX8_fits cX8_fits 1 (some FieldType.int) :: AllW) (rm0' 21 591) (zP E (fun H => WW E (wM a (E.2.1 0) sv im rd wa kp so sz el pr ts nu bu ht (bI ig) th po ba en td (bI ij)) gN H) [.ref (a 0)]) (zQ (fun (_ : Heap) (v : Option Value) (H1 : Heap) => (∃ (wa2 : Nat → Int32) (bu2 : Nat → Int32), v = some (.int (fitsP sv)) ∧ WW E (wM a (E.2.1 0) sv im rd wa2 kp so sz el pr ts nu bu2 ht (bI ig) th po ba en td (bI ij)) gN H1)) (mF a)) 0 0 (mF a) := by
  refine z_body (own := RX8) (by decide) rfl rfl ?_
  intro p e s m args below meth c ls cx hr hlk hnm hW hl
  have hx := cx.x
  have hb := cx.b
  have hl : lv_has ls 1 [(0, .ref (a 0))] := hl
  have hS : va_S (mF a) s.heap s.heap [] := va_S.rf
  have hC := hI.1
  have hP10 := (Inv.n0 hC).2
  have hT7 := (Inv.n1 hC).2
  have hA24 := (Inv.n2 hC).2
  refine lv_aload_n (pc := 0) hx hb dX8_fits_0 rfl (lv_at hl 0 rfl) ?_
  refine z_getM (pc := 1) cx (hW.at 0 rfl) 0 rfl m_fl_X8_9 rfl dX8_fits_1 ?_
  refine lv_iconst (pc := 4) (v := 1) hx hb dX8_fits_4 (by decide) ?_
  refine z_iald (pc := 5) (f := sv) (j := 1) cx (hW.at 1 rfl) rfl (by decide) (by decide) dX8_fits_5 ?_
  refine lv_if_ne (pc := 6) (tgt := 14) hx hb dX8_fits_6 (by decide) (fun c_1 => ?_) (fun c_1 => ?_)
  · skip
    refine lv_aload_n (pc := 14) hx hb dX8_fits_14 rfl (lv_at hl 0 rfl) ?_
    refine k_X8_fitting (pc := 15)  cx hW hS (fun _ h => h) (by first | assumption | omega) m_ml_X8_220 ⟨Nat.le_of_ble_eq_true rfl, Nat.le_of_ble_eq_true rfl⟩ hl.1 rfl (by simp [Value.category]) dX8_fits_15 ⟨Nat.le_refl _, Nat.le_refl _⟩ (fun wa2 bu2 H locs hbz hW hS => ?_)
    have hW : WW E (wM a (E.2.1 0) sv im rd wa2 kp so sz el pr ts nu bu2 ht (bI ig) th po ba en td (bI ij)) gN H := hW
    exact z_wiret cx hr hlk dX8_fits_18 hS ⟨_, _, (sI (by first | rfl | (simp [fitsP, c_1]; done))), hW⟩
  · skip
    refine lv_bipush (pc := 9) (v := (-3)) hx hb dX8_fits_9 (by decide) ?_
    refine lv_goto (pc := 11) (tgt := 18) hx hb dX8_fits_11 (by decide) ?_
    exact z_wiret cx hr hlk dX8_fits_18 hS ⟨_, _, (sI (by first | rfl | (simp [fitsP, c_1]; done))), hW⟩
theorem k_X8_fits {p : Program} {l : Launch} {e : Env} {R : Room} {s : State} {m : MethodId} {args : Array Value} {below : List Frame} {meth : Method} {c : Code} {H H0 : Heap} {locs : List Loc} {cells slots : Nat} {Q : State → Prop} {cc : ByteArray} {pc index : Nat} {ls : Array Slot} {rest st0 : List Value} {E : zE} {own : String} {nL : Nat} {F : Nat → Prop} {a : Nat → Nat} {sv im rd wa kp so sz el pr ts nu bu ht : Nat → Int32} {th po ba en td : Int32} {ig : Bool} {ij : Bool}  (cx : Cx E p s args m c own cc nL) (hW : WW E (wM a (E.2.1 0) sv im rd wa kp so sz el pr ts nu bu ht (bI ig) th po ba en td (bI ij)) gN H) (hS : va_S F H0 H locs) (zF : ∀ q, (mF a) q → F q) (hI : Inv sv) (zl : Cond.methodLink own index yX8_fits ∈ AllW) (zR : 21 + 1 ≤ R.frames ∧ 8 + (1 + 11) + 591 ≤ R.locals) (zs : ls.size = nL) (zt : st0 = ([] : List Value).reverse ++ .ref (a 0) :: rest) (z8 : (rest.map fun v => v.category).sum ≤ 8) (zd : decode cc pc = .ok (.invokevirtual index, 3)) (zf : cells ≤ R.cells ∧ slots ≤ R.slots) (kk0 : ∀ (wa2 : Nat → Int32) (bu2 : Nat → Int32) (H1 : Heap) (locs1 : List Loc), WW E (wM a (E.2.1 0) sv im rd wa2 kp so sz el pr ts nu bu2 ht (bI ig) th po ba en td (bI ij)) gN H1 → va_S F H0 H1 locs1 → W p l e R s m args below meth c H1 locs1 cells slots Q (F0 m (pc + 3) ls (.int (fitsP sv) :: rest))) : W p l e R s m args below meth c H locs cells slots Q (F0 m pc ls st0) := by
  refine z_callVw cx vm_X8_fits (c_X8_fits l E a sv im rd wa kp so sz el pr ts nu bu ht th po ba en td ig ij hI) (z_rec cx.2 (hW.at 0 rfl) rfl) hW hS zF zl ⟨rfl, rfl⟩ zR rfl zs zt z8 zd zf (fun v H1 locs1 hq hS1 _ => ?_)
  rcases hq with ⟨wa2, bu2, rfl, hW1⟩
  · exact kk0 wa2 bu2 H1 locs1  hW1 hS1
theorem vm_X8_both : zVm yX8_both cX8_both 3 (some FieldType.int) 2 := ⟨m_co_X8_both, m_in_RX8, ⟨m_im_X8_both, m_se_X8_X8_both⟩, by decide +kernel, by decide +kernel, by decide +kernel⟩
set_option maxHeartbeats 4000000 in
set_option maxRecDepth 100000 in
theorem c_X8_both (l : Launch) (E : zE) (a : Nat → Nat) (sv im rd wa kp so sz el pr ts nu bu ht : Nat → Int32) (th po ba en td : Int32) (ig : Bool) (ij : Bool) (x y : Int32) (hI : Inv sv) : Met l yX8_both (.code yX8_both cX8_both 3 (some FieldType.int) :: AllW) (rm0' 20 569) (zP E (fun H => WW E (wM a (E.2.1 0) sv im rd wa kp so sz el pr ts nu bu ht (bI ig) th po ba en td (bI ij)) gN H) [.ref (a 0), .int x, .int y]) (zQ (fun (_ : Heap) (v : Option Value) (H1 : Heap) => (∃ (wa2 : Nat → Int32) (bu2 : Nat → Int32), v = some (.int (bothP sv x y)) ∧ WW E (wM a (E.2.1 0) sv im rd wa2 kp so sz el pr ts nu bu2 ht (bI ig) th po ba en td (bI ij)) gN H1)) (mF a)) 0 0 (mF a) := by
  refine z_body (own := RX8) (by decide) rfl rfl ?_
  intro p e s m args below meth c ls cx hr hlk hnm hW hl
  have hx := cx.x
  have hb := cx.b
  have hl : lv_has ls 3 [(0, .ref (a 0)), (1, .int x), (2, .int y)] := hl
  have hS : va_S (mF a) s.heap s.heap [] := va_S.rf
  have hC := hI.1
  have hP10 := (Inv.n0 hC).2
  have hT7 := (Inv.n1 hC).2
  have hA24 := (Inv.n2 hC).2
  refine lv_aload_n (pc := 0) hx hb dX8_both_0 rfl (lv_at hl 0 rfl) ?_
  refine lv_iload_n (pc := 1) hx hb dX8_both_1 rfl (lv_at hl 1 rfl) ?_
  refine k_X8_isThing (pc := 2) (x := x) cx hW  m_ml_X8_143 ⟨Nat.le_of_ble_eq_true rfl, Nat.le_of_ble_eq_true rfl⟩ hl.1 rfl (by simp [Value.category]) dX8_both_2 ⟨Nat.le_refl _, Nat.le_refl _⟩ ?_
  refine z_ifeq (pc := 5) (tgt := 21) hx hb dX8_both_5 (by decide) (fun c_1 => ?_) (fun c_1 => ?_)
  · skip
    refine lv_iconst (pc := 21) (v := (-1)) hx hb dX8_both_21 (by decide) ?_
    exact z_wiret cx hr hlk dX8_both_22 hS ⟨_, _, (sI (by first | rfl | (simp [bothP, bI, c_1]; done))), hW⟩
  · skip
    refine lv_aload_n (pc := 8) hx hb dX8_both_8 rfl (lv_at hl 0 rfl) ?_
    refine lv_iload_n (pc := 9) hx hb dX8_both_9 rfl (lv_at hl 2 rfl) ?_
    refine k_X8_isThing (pc := 10) (x := y) cx hW  m_ml_X8_143 ⟨Nat.le_of_ble_eq_true rfl, Nat.le_of_ble_eq_true rfl⟩ hl.1 rfl (by simp [Value.category]) dX8_both_10 ⟨Nat.le_refl _, Nat.le_refl _⟩ ?_
    refine z_ifeq (pc := 13) (tgt := 21) hx hb dX8_both_13 (by decide) (fun c_2 => ?_) (fun c_2 => ?_)
    · skip
      refine lv_iconst (pc := 21) (v := (-1)) hx hb dX8_both_21 (by decide) ?_
      exact z_wiret cx hr hlk dX8_both_22 hS ⟨_, _, (sI (by first | rfl | (simp [bothP, bI, c_1, c_2]; done))), hW⟩
    · skip
      refine lv_iload_n (pc := 16) hx hb dX8_both_16 rfl (lv_at hl 1 rfl) ?_
      refine lv_iload_n (pc := 17) hx hb dX8_both_17 rfl (lv_at hl 2 rfl) ?_
      refine lv_icmp_ne (pc := 18) (tgt := 23) hx hb dX8_both_18 (by decide) (fun c_3 => ?_) (fun c_3 => ?_)
      · skip
        refine lv_aload_n (pc := 23) hx hb dX8_both_23 rfl (lv_at hl 0 rfl) ?_
        refine k_X8_findBuzzed (pc := 24)  cx hW hS (fun _ h => h) (by first | assumption | omega) m_ml_X8_214 ⟨Nat.le_of_ble_eq_true rfl, Nat.le_of_ble_eq_true rfl⟩ hl.1 rfl (by simp [Value.category]) dX8_both_24 ⟨Nat.le_refl _, Nat.le_refl _⟩ (fun wa2 bu2 H locs hbz hW hS => ?_)
        have hW : WW E (wM a (E.2.1 0) sv im rd wa2 kp so sz el pr ts nu bu2 ht (bI ig) th po ba en td (bI ij)) gN H := hW
        refine lv_aload_n (pc := 27) hx hb dX8_both_27 rfl (lv_at hl 0 rfl) ?_
        refine lv_iconst (pc := 28) (v := 1) hx hb dX8_both_28 (by decide) ?_
        refine lv_iload_n (pc := 29) hx hb dX8_both_29 rfl (lv_at hl 1 rfl) ?_
        refine lv_ishl (pc := 30) hx hb dX8_both_30 ?_
        refine lv_iconst (pc := 31) (v := 1) hx hb dX8_both_31 (by decide) ?_
        refine lv_iload_n (pc := 32) hx hb dX8_both_32 rfl (lv_at hl 2 rfl) ?_
        refine lv_ishl (pc := 33) hx hb dX8_both_33 ?_
        refine lv_ior (pc := 34) hx hb dX8_both_34 ?_
        refine k_X8_fitsSet2 (pc := 35) (set := (1 <<< (x &&& 31)) ||| (1 <<< (y &&& 31))) cx hW hI hbz m_ml_X8_217 ⟨Nat.le_of_ble_eq_true rfl, Nat.le_of_ble_eq_true rfl⟩ hl.1 rfl (by simp [Value.category]) dX8_both_35 ⟨Nat.le_refl _, Nat.le_refl _⟩ ?_
        refine z_ifeq (pc := 38) (tgt := 45) hx hb dX8_both_38 (by decide) (fun c_4 => ?_) (fun c_4 => ?_)
        · skip
          refine lv_iconst (pc := 45) (v := 0) hx hb dX8_both_45 (by decide) ?_
          exact z_wiret cx hr hlk dX8_both_46 hS ⟨_, _, (sI (by first | rfl | (simp [bothP, bI, c_1, c_2, c_3, c_4]; done))), hW⟩
        · skip
          refine lv_iconst (pc := 41) (v := 1) hx hb dX8_both_41 (by decide) ?_
          refine lv_goto (pc := 42) (tgt := 46) hx hb dX8_both_42 (by decide) ?_
          exact z_wiret cx hr hlk dX8_both_46 hS ⟨_, _, (sI (by first | rfl | (simp [bothP, bI, c_1, c_2, c_3, c_4]; done))), hW⟩
      · skip
        refine lv_iconst (pc := 21) (v := (-1)) hx hb dX8_both_21 (by decide) ?_
        exact z_wiret cx hr hlk dX8_both_22 hS ⟨_, _, (sI (by first | rfl | (simp [bothP, bI, c_1, c_2, c_3]; done))), hW⟩
theorem k_X8_both {p : Program} {l : Launch} {e : Env} {R : Room} {s : State} {m : MethodId} {args : Array Value} {below : List Frame} {meth : Method} {c : Code} {H H0 : Heap} {locs : List Loc} {cells slots : Nat} {Q : State → Prop} {cc : ByteArray} {pc index : Nat} {ls : Array Slot} {rest st0 : List Value} {E : zE} {own : String} {nL : Nat} {F : Nat → Prop} {a : Nat → Nat} {sv im rd wa kp so sz el pr ts nu bu ht : Nat → Int32} {th po ba en td : Int32} {ig : Bool} {ij : Bool} {x y : Int32} (cx : Cx E p s args m c own cc nL) (hW : WW E (wM a (E.2.1 0) sv im rd wa kp so sz el pr ts nu bu ht (bI ig) th po ba en td (bI ij)) gN H) (hS : va_S F H0 H locs) (zF : ∀ q, (mF a) q → F q) (hI : Inv sv) (zl : Cond.methodLink own index yX8_both ∈ AllW) (zR : 20 + 1 ≤ R.frames ∧ 8 + (3 + 11) + 569 ≤ R.locals) (zs : ls.size = nL) (zt : st0 = ([.int x, .int y] : List Value).reverse ++ .ref (a 0) :: rest) (z8 : (rest.map fun v => v.category).sum ≤ 8) (zd : decode cc pc = .ok (.invokevirtual index, 3)) (zf : cells ≤ R.cells ∧ slots ≤ R.slots) (kk0 : ∀ (wa2 : Nat → Int32) (bu2 : Nat → Int32) (H1 : Heap) (locs1 : List Loc), WW E (wM a (E.2.1 0) sv im rd wa2 kp so sz el pr ts nu bu2 ht (bI ig) th po ba en td (bI ij)) gN H1 → va_S F H0 H1 locs1 → W p l e R s m args below meth c H1 locs1 cells slots Q (F0 m (pc + 3) ls (.int (bothP sv x y) :: rest))) : W p l e R s m args below meth c H locs cells slots Q (F0 m pc ls st0) := by
  refine z_callVw cx vm_X8_both (c_X8_both l E a sv im rd wa kp so sz el pr ts nu bu ht th po ba en td ig ij x y hI) (z_rec cx.2 (hW.at 0 rfl) rfl) hW hS zF zl ⟨rfl, rfl⟩ zR rfl zs zt z8 zd zf (fun v H1 locs1 hq hS1 _ => ?_)
  rcases hq with ⟨wa2, bu2, rfl, hW1⟩
  · exact kk0 wa2 bu2 H1 locs1  hW1 hS1
