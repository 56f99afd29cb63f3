theorem vm_X8_which : zVm yX8_which cX8_which 4 (some FieldType.int) 0 := ⟨m_co_X8_which, m_in_RX8, ⟨m_im_X8_which, m_se_X8_X8_which⟩, by decide +kernel, by decide +kernel, by decide +kernel⟩
set_option maxHeartbeats 1000000 in
set_option maxRecDepth 100000 in
theorem c_X8_which (l : Launch) (E : zE) (a : Nat → Nat) (sv im rd wa kp so sz el pr ts nu bu ht : Nat → Int32) (th po ba en td : Int32) (ig : Bool) (ij : Bool)  (hI : Inv sv) : Met l yX8_which (.code yX8_which cX8_which 4 (some FieldType.int) :: AllW) (rm0' 21 591) (zP E (fun H => WW E (wM a (E.2.1 0) sv im rd wa kp so sz el pr ts nu bu ht (bI ig) th po ba en td (bI ij)) gN H) [.ref (a 0)]) (zQ (fun (_ : Heap) (v : Option Value) (H1 : Heap) => (∃ (wa2 : Nat → Int32) (bu2 : Nat → Int32), v = some (.int (whP sv)) ∧ WW E (wM a (E.2.1 0) sv im rd wa2 kp so sz el pr ts nu bu2 ht (bI ig) th po ba en td (bI ij)) gN H1)) (mF a)) 0 0 (mF a) := by
  refine z_body (own := RX8) (by decide) rfl rfl ?_
  intro p e s m args below meth c ls cx hr hlk hnm hW hl
  have hx := cx.x
  have hb := cx.b
  have hl : lv_has ls 4 [(0, .ref (a 0))] := hl
  have hS : va_S (mF a) s.heap s.heap [] := va_S.rf
  have hC := hI.1
  have hP10 := (Inv.n0 hC).2
  have hT7 := (Inv.n1 hC).2
  have hA24 := (Inv.n2 hC).2
  refine lv_aload_n (pc := 0) hx hb dX8_which_0 rfl (lv_at hl 0 rfl) ?_
  refine k_X8_fitting (pc := 1)  cx hW hS (fun _ h => h) (by first | assumption | omega) m_ml_X8_220 ⟨Nat.le_of_ble_eq_true rfl, Nat.le_of_ble_eq_true rfl⟩ hl.1 rfl (by simp [Value.category]) dX8_which_1 ⟨Nat.le_refl _, Nat.le_refl _⟩ (fun wa2 bu2 H locs hbz hW hS => ?_)
  have hW : WW E (wM a (E.2.1 0) sv im rd wa2 kp so sz el pr ts nu bu2 ht (bI ig) th po ba en td (bI ij)) gN H := hW
  refine lv_istore_n (pc := 4) (lv' := [(1, .int (ftA sv)), (0, .ref (a 0))]) hx hb dX8_which_4 rfl hl (by decide) rfl (fun ls hl => ?_)
  refine lv_bipush (pc := 5) (v := (-4)) hx hb dX8_which_5 (by decide) ?_
  refine lv_istore_n (pc := 7) (lv' := [(2, .int (-4)), (1, .int (ftA sv)), (0, .ref (a 0))]) hx hb dX8_which_7 rfl hl (by decide) rfl (fun ls hl => ?_)
  refine lv_iconst (pc := 8) (v := 0) hx hb dX8_which_8 (by decide) ?_
  refine lv_istore_n (pc := 9) (lv' := [(3, .int 0), (2, .int (-4)), (1, .int (ftA sv)), (0, .ref (a 0))]) hx hb dX8_which_9 rfl hl (by decide) rfl (fun ls hl => ?_)
  have loop_10 : ∀ (k_10 : Nat) (i : Nat) (x3 : Int32) (x2 : Int32), (nT sv - i) < k_10 → (i ≤ nT sv) → x3 = nI i → x2 = whS sv (ftA sv) i → ∀ (H : Heap) (locs : List Loc), WW E (wM a (E.2.1 0) sv im rd wa2 kp so sz el pr ts nu bu2 ht (bI ig) th po ba en td (bI ij)) gN H → va_S (mF a) s.heap H locs → ∀ (ls : Array Slot), lv_has ls 4 [(3, .int x3), (2, .int x2), (1, .int (ftA sv)), (0, .ref (a 0))] → W p l e (rm0' (21) (591)) s m args below meth c H locs 0 0 (MQ below (zQ (fun (_ : Heap) (v : Option Value) (H1 : Heap) => (∃ (wa2 : Nat → Int32) (bu2 : Nat → Int32), v = some (.int (whP sv)) ∧ WW E (wM a (E.2.1 0) sv im rd wa2 kp so sz el pr ts nu bu2 ht (bI ig) th po ba en td (bI ij)) gN H1)) (mF a)) args s 0 0 (mF a)) (F0 m 10 ls []) := by
    intro k_10
    induction k_10 with
    | zero =>
      intro i x3 x2 hm
      exact absurd hm (Nat.not_lt_zero _)
    | succ k_10 ih_10 =>
      intro i x3 x2 hm_10 hi e_x3 e_x2  H locs  hW hS ls hl
      subst e_x3
      subst e_x2
      refine lv_iload_n (pc := 10) hx hb dX8_which_10 rfl (lv_at hl 0 rfl) ?_
      refine lv_aload_n (pc := 11) hx hb dX8_which_11 rfl (lv_at hl 3 rfl) ?_
      refine z_getM (pc := 12) cx (hW.at 0 rfl) 0 rfl m_fl_X8_9 rfl dX8_which_12 ?_
      refine lv_iconst (pc := 15) (v := 1) hx hb dX8_which_15 (by decide) ?_
      refine z_iald (pc := 16) (f := sv) (j := 1) cx (hW.at 1 rfl) rfl (by decide) (by decide) dX8_which_16 ?_
      refine lv_icmp_ge (pc := 17) (tgt := 56) hx hb dX8_which_17 (by decide) (fun c_1 => ?_) (fun c_1 => ?_)
      · skip
        obtain rfl : i = nT sv := by have := ge_nat (a := i) rfl (Inv.n1 hC).1 (by omega) (by omega) c_1; omega
        refine lv_iload_n (pc := 56) hx hb dX8_which_56 rfl (lv_at hl 1 rfl) ?_
        exact z_wiret cx hr hlk dX8_which_57 hS ⟨_, _, (sI (by first | rfl | (simp [whS, bit, whP]; done))), hW⟩
      · skip
        have hlt_i := lt_nat (a := i) rfl (Inv.n1 hC).1 (by omega) (by omega) c_1
        refine lv_iload_n (pc := 20) hx hb dX8_which_20 rfl (lv_at hl 2 rfl) ?_
        refine lv_iload_n (pc := 21) hx hb dX8_which_21 rfl (lv_at hl 0 rfl) ?_
        refine lv_ishr (pc := 22) hx hb dX8_which_22 ?_
        refine lv_iconst (pc := 23) (v := 1) hx hb dX8_which_23 (by decide) ?_
        refine lv_iand (pc := 24) hx hb dX8_which_24 ?_
        refine lv_iconst (pc := 25) (v := 1) hx hb dX8_which_25 (by decide) ?_
        refine lv_icmp_ne (pc := 26) (tgt := 50) hx hb dX8_which_26 (by decide) (fun c_2 => ?_) (fun c_2 => ?_)
        · skip
          refine lv_iinc (pc := 50) (v := nI (i + 1)) (lv' := [(3, .int (nI (i + 1))), (2, .int (whS sv (ftA sv) i)), (1, .int (ftA sv)), (0, .ref (a 0))]) hx hb dX8_which_50 hl (k := 0) rfl (nI_1 _) (by decide) rfl (fun ls hl => ?_)
          refine lv_goto (pc := 53) (tgt := 10) hx hb dX8_which_53 (by decide) ?_
          exact ih_10 (i + 1) (nI (i + 1)) (whS sv (ftA sv) i) (by omega) (by omega) (by first | rfl | (simp [whS, bit, whP, c_2]; done)) (by first | rfl | (simp [whS, bit, whP, c_2]; done))  _ _  (hW) hS ls (lv_sub hl [0, 1, 2, 3] rfl)
        · skip
          refine lv_iload_n (pc := 29) hx hb dX8_which_29 rfl (lv_at hl 1 rfl) ?_
          refine lv_if_lt (pc := 30) (tgt := 48) hx hb dX8_which_30 (by decide) (fun c_3 => ?_) (fun c_3 => ?_)
          · skip
            refine lv_iload_n (pc := 48) hx hb dX8_which_48 rfl (lv_at hl 0 rfl) ?_
            refine lv_istore_n (pc := 49) (lv' := [(2, .int (nI i)), (3, .int (nI i)), (1, .int (ftA sv)), (0, .ref (a 0))]) hx hb dX8_which_49 rfl hl (by decide) rfl (fun ls hl => ?_)
            refine lv_iinc (pc := 50) (v := nI (i + 1)) (lv' := [(3, .int (nI (i + 1))), (2, .int (nI i)), (1, .int (ftA sv)), (0, .ref (a 0))]) hx hb dX8_which_50 hl (k := 1) rfl (nI_1 _) (by decide) rfl (fun ls hl => ?_)
            refine lv_goto (pc := 53) (tgt := 10) hx hb dX8_which_53 (by decide) ?_
            exact ih_10 (i + 1) (nI (i + 1)) (nI i) (by omega) (by omega) (by first | rfl | (simp [whS, bit, whP, c_2, c_3, i_nle.mpr c_3]; done)) (by first | rfl | (simp [whS, bit, whP, c_2, c_3, i_nle.mpr c_3]; done))  _ _  (hW) hS ls (lv_sub hl [0, 1, 2, 3] rfl)
          · skip
            obtain ⟨j, hj, ej⟩ := (whS_nat (sv := sv) (set := ftA sv) i (by omega)).resolve_left c_3
            rw [ej] at c_3
            have hJ := iN_nI (n := j) (by omega)
            refine lv_aload_n (pc := 33) hx hb dX8_which_33 rfl (lv_at hl 3 rfl) ?_
            refine lv_iload_n (pc := 34) hx hb dX8_which_34 rfl (lv_at hl 0 rfl) ?_
            refine lv_iconst (pc := 35) (v := 4) hx hb dX8_which_35 (by decide) ?_
            refine k_X8_of (pc := 36) (n := i) (k := 4) cx hW (by first | assumption | omega) (by first | assumption | omega) m_ml_X8_140 ⟨Nat.le_of_ble_eq_true rfl, Nat.le_of_ble_eq_true rfl⟩ hl.1 rfl (by simp [Value.category]) dX8_which_36 ⟨Nat.le_refl _, Nat.le_refl _⟩ ?_
            refine lv_aload_n (pc := 39) hx hb dX8_which_39 rfl (lv_at hl 3 rfl) ?_
            refine lv_iload_n (pc := 40) hx hb dX8_which_40 rfl (lv_at hl 1 rfl) ?_
            refine z_tope (y := nI j) ej ?_
            refine lv_iconst (pc := 41) (v := 4) hx hb dX8_which_41 (by decide) ?_
            refine k_X8_of (pc := 42) (n := j) (k := 4) cx hW (by first | assumption | omega) (by first | assumption | omega) m_ml_X8_140 ⟨Nat.le_of_ble_eq_true rfl, Nat.le_of_ble_eq_true rfl⟩ hl.1 rfl (by simp [Value.category]) dX8_which_42 ⟨Nat.le_refl _, Nat.le_refl _⟩ ?_
            refine lv_icmp_le (pc := 45) (tgt := 50) hx hb dX8_which_45 (by decide) (fun c_4 => ?_) (fun c_4 => ?_)
            · skip
              refine lv_iinc (pc := 50) (v := nI (i + 1)) (lv' := [(3, .int (nI (i + 1))), (2, .int (whS sv (ftA sv) i)), (1, .int (ftA sv)), (0, .ref (a 0))]) hx hb dX8_which_50 hl (k := 0) rfl (nI_1 _) (by decide) rfl (fun ls hl => ?_)
              refine lv_goto (pc := 53) (tgt := 10) hx hb dX8_which_53 (by decide) ?_
              exact ih_10 (i + 1) (nI (i + 1)) (whS sv (ftA sv) i) (by omega) (by omega) (by first | rfl | (simp [whS, bit, whP, c_2, c_3, ej, hJ, c_4, i_nlt.mp c_3, i_nlt.mpr c_4]; done)) (by first | rfl | (simp [whS, bit, whP, c_2, c_3, ej, hJ, c_4, i_nlt.mp c_3, i_nlt.mpr c_4]; done))  _ _  (hW) hS ls (lv_sub hl [0, 1, 2, 3] rfl)
            · skip
              refine lv_iload_n (pc := 48) hx hb dX8_which_48 rfl (lv_at hl 0 rfl) ?_
              refine lv_istore_n (pc := 49) (lv' := [(2, .int (nI i)), (3, .int (nI i)), (1, .int (ftA sv)), (0, .ref (a 0))]) hx hb dX8_which_49 rfl hl (by decide) rfl (fun ls hl => ?_)
              refine lv_iinc (pc := 50) (v := nI (i + 1)) (lv' := [(3, .int (nI (i + 1))), (2, .int (nI i)), (1, .int (ftA sv)), (0, .ref (a 0))]) hx hb dX8_which_50 hl (k := 1) rfl (nI_1 _) (by decide) rfl (fun ls hl => ?_)
              refine lv_goto (pc := 53) (tgt := 10) hx hb dX8_which_53 (by decide) ?_
              exact ih_10 (i + 1) (nI (i + 1)) (nI i) (by omega) (by omega) (by first | rfl | (simp [whS, bit, whP, c_2, c_3, ej, hJ, c_4, i_nlt.mp c_3, i_nle.mp c_4]; done)) (by first | rfl | (simp [whS, bit, whP, c_2, c_3, ej, hJ, c_4, i_nlt.mp c_3, i_nle.mp c_4]; done))  _ _  (hW) hS ls (lv_sub hl [0, 1, 2, 3] rfl)
  exact loop_10 ((nT sv - 0) + 1) 0 0 (-4) (Nat.lt_succ_self _) (by omega) (by first | rfl | (simp [whS, bit, whP]; done)) (by first | rfl | (simp [whS, bit, whP]; done))  _ _  (hW) hS ls (lv_sub hl [0, 1, 2, 3] rfl)
theorem k_X8_which {p : Program} {l : Launch} {e : Env} {R : Room} {s : State} {m : MethodId} {args : Array Value} {below : List Frame} {meth : Method} {c : Code} {H H0 : Heap} {locs : List Loc} {cells slots : Nat} {Q : State → Prop} {cc : ByteArray} {pc index : Nat} {ls : Array Slot} {rest st0 : List Value} {E : zE} {own : String} {nL : Nat} {F : Nat → Prop} {a : Nat → Nat} {sv im rd wa kp so sz el pr ts nu bu ht : Nat → Int32} {th po ba en td : Int32} {ig : Bool} {ij : Bool}  (cx : Cx E p s args m c own cc nL) (hW : WW E (wM a (E.2.1 0) sv im rd wa kp so sz el pr ts nu bu ht (bI ig) th po ba en td (bI ij)) gN H) (hS : va_S F H0 H locs) (zF : ∀ q, (mF a) q → F q) (hI : Inv sv) (zl : Cond.methodLink own index yX8_which ∈ AllW) (zR : 21 + 1 ≤ R.frames ∧ 8 + (4 + 11) + 591 ≤ R.locals) (zs : ls.size = nL) (zt : st0 = ([] : List Value).reverse ++ .ref (a 0) :: rest) (z8 : (rest.map fun v => v.category).sum ≤ 8) (zd : decode cc pc = .ok (.invokevirtual index, 3)) (zf : cells ≤ R.cells ∧ slots ≤ R.slots) (kk0 : ∀ (wa2 : Nat → Int32) (bu2 : Nat → Int32) (H1 : Heap) (locs1 : List Loc), WW E (wM a (E.2.1 0) sv im rd wa2 kp so sz el pr ts nu bu2 ht (bI ig) th po ba en td (bI ij)) gN H1 → va_S F H0 H1 locs1 → W p l e R s m args below meth c H1 locs1 cells slots Q (F0 m (pc + 3) ls (.int (whP sv) :: rest))) : W p l e R s m args below meth c H locs cells slots Q (F0 m pc ls st0) := by
  refine z_callVw cx vm_X8_which (c_X8_which l E a sv im rd wa kp so sz el pr ts nu bu ht th po ba en td ig ij hI) (z_rec cx.2 (hW.at 0 rfl) rfl) hW hS zF zl ⟨rfl, rfl⟩ zR rfl zs zt z8 zd zf (fun v H1 locs1 hq hS1 _ => ?_)
  rcases hq with ⟨wa2, bu2, rfl, hW1⟩
  · exact kk0 wa2 bu2 H1 locs1  hW1 hS1
theorem vm_X8_next : zVm yX8_next cX8_next 8 (some FieldType.int) 1 := ⟨m_co_X8_next, m_in_RX8, ⟨m_im_X8_next, m_se_X8_X8_next⟩, by decide +kernel, by decide +kernel, by decide +kernel⟩
set_option maxHeartbeats 1000000 in
set_option maxRecDepth 100000 in
theorem c_X8_next (l : Launch) (E : zE) (a : Nat → Nat) (sv im rd wa kp so sz el pr ts nu bu ht : Nat → Int32) (th po ba en td : Int32) (ig : Bool) (ij : Bool) (st : Int32) (hI : Inv sv) : Met l yX8_next (.code yX8_next cX8_next 8 (some FieldType.int) :: AllW) (rm0' 21 591) (zP E (fun H => WW E (wM a (E.2.1 0) sv im rd wa kp so sz el pr ts nu bu ht (bI ig) th po ba en td (bI ij)) gN H) [.ref (a 0), .int st]) (zQ (fun (_ : Heap) (v : Option Value) (H1 : Heap) => (∃ (wa2 : Nat → Int32) (bu2 : Nat → Int32), v = some (.int (nextP sv st)) ∧ WW E (wM a (E.2.1 0) sv im rd wa2 kp so sz el pr ts nu bu2 ht (bI ig) th po ba en td (bI ij)) gN H1)) (mF a)) 0 0 (mF a) := by
  refine z_body (own := RX8) (by decide) rfl rfl ?_
  intro p e s m args below meth c ls cx hr hlk hnm hW hl
  have hx := cx.x
  have hb := cx.b
  have hl : lv_has ls 8 [(0, .ref (a 0)), (1, .int st)] := hl
  have hS : va_S (mF a) s.heap s.heap [] := va_S.rf
  have hC := hI.1
  have hP10 := (Inv.n0 hC).2
  have hT7 := (Inv.n1 hC).2
  have hA24 := (Inv.n2 hC).2
  refine lv_iload_n (pc := 0) hx hb dX8_next_0 rfl (lv_at hl 1 rfl) ?_
  refine k_X8_isStrong (pc := 1) (x := st) cx  m_ml_X8_180 ⟨Nat.le_of_ble_eq_true rfl, Nat.le_of_ble_eq_true rfl⟩ hl.1 rfl (by simp [Value.category]) dX8_next_1 ⟨Nat.le_refl _, Nat.le_refl _⟩ ?_
  refine z_ifne (pc := 4) (tgt := 9) hx hb dX8_next_4 (by decide) (fun c_1 => ?_) (fun c_1 => ?_)
  · skip
    refine lv_aload_n (pc := 9) hx hb dX8_next_9 rfl (lv_at hl 0 rfl) ?_
    refine k_X8_fitting (pc := 10)  cx hW hS (fun _ h => h) (by first | assumption | omega) m_ml_X8_220 ⟨Nat.le_of_ble_eq_true rfl, Nat.le_of_ble_eq_true rfl⟩ hl.1 rfl (by simp [Value.category]) dX8_next_10 ⟨Nat.le_refl _, Nat.le_refl _⟩ (fun wa2 bu2 H locs hbz hW hS => ?_)
    have hW : WW E (wM a (E.2.1 0) sv im rd wa2 kp so sz el pr ts nu bu2 ht (bI ig) th po ba en td (bI ij)) gN H := hW
    refine lv_istore_n (pc := 13) (lv' := [(2, .int (ftA sv)), (0, .ref (a 0)), (1, .int st)]) hx hb dX8_next_13 rfl hl (by decide) rfl (fun ls hl => ?_)
    refine lv_iload_n (pc := 14) hx hb dX8_next_14 rfl (lv_at hl 0 rfl) ?_
    refine lv_if_ne (pc := 15) (tgt := 21) hx hb dX8_next_15 (by decide) (fun c_2 => ?_) (fun c_2 => ?_)
    · skip
      refine lv_aload_n (pc := 21) hx hb dX8_next_21 rfl (lv_at hl 1 rfl) ?_
      refine lv_iload_n (pc := 22) hx hb dX8_next_22 rfl (lv_at hl 0 rfl) ?_
      refine k_X8_chancesOf (pc := 23) (set := ftA sv) cx hW (by first | assumption | omega) m_ml_X8_226 ⟨Nat.le_of_ble_eq_true rfl, Nat.le_of_ble_eq_true rfl⟩ hl.1 rfl (by simp [Value.category]) dX8_next_23 ⟨Nat.le_refl _, Nat.le_refl _⟩ ?_
      refine lv_istore_n (pc := 26) (lv' := [(3, .int (chA sv (ftA sv))), (2, .int (ftA sv)), (0, .ref (a 0)), (1, .int st)]) hx hb dX8_next_26 rfl hl (by decide) rfl (fun ls hl => ?_)
      refine lv_bipush (pc := 27) (v := (-4)) hx hb dX8_next_27 (by decide) ?_
      refine lv_istore (pc := 29) (lv' := [(4, .int (-4)), (3, .int (chA sv (ftA sv))), (2, .int (ftA sv)), (0, .ref (a 0)), (1, .int st)]) hx hb dX8_next_29 hl (by decide) rfl (fun ls hl => ?_)
      refine lv_iconst (pc := 31) (v := 0) hx hb dX8_next_31 (by decide) ?_
      refine lv_istore (pc := 32) (lv' := [(5, .int 0), (4, .int (-4)), (3, .int (chA sv (ftA sv))), (2, .int (ftA sv)), (0, .ref (a 0)), (1, .int st)]) hx hb dX8_next_32 hl (by decide) rfl (fun ls hl => ?_)
      refine lv_bipush (pc := 34) (v := 10) hx hb dX8_next_34 (by decide) ?_
      refine lv_istore (pc := 36) (lv' := [(6, .int 10), (5, .int 0), (4, .int (-4)), (3, .int (chA sv (ftA sv))), (2, .int (ftA sv)), (0, .ref (a 0)), (1, .int st)]) hx hb dX8_next_36 hl (by decide) rfl (fun ls hl => ?_)
      have loop_38 : ∀ (k_38 : Nat) (i : Nat) (x6 : Int32) (x5 : Int32) (x4 : Int32), (60 - i) < k_38 → (i ≤ 60) → x6 = nI (10 * (i + 1)) → x5 = (nxS sv st i).2 → x4 = (nxS sv st i).1 → ∀ (H : Heap) (locs : List Loc), WW E (wM a (E.2.1 0) sv im rd wa2 kp so sz el pr ts nu bu2 ht (bI ig) th po ba en td (bI ij)) gN H → va_S (mF a) s.heap H locs → ∀ (ls : Array Slot), lv_has ls 8 [(6, .int x6), (5, .int x5), (4, .int x4), (3, .int (chA sv (ftA sv))), (2, .int (ftA sv)), (0, .ref (a 0)), (1, .int st)] → W p l e (rm0' (21) (591)) s m args below meth c H locs 0 0 (MQ below (zQ (fun (_ : Heap) (v : Option Value) (H1 : Heap) => (∃ (wa2 : Nat → Int32) (bu2 : Nat → Int32), v = some (.int (nextP sv st)) ∧ WW E (wM a (E.2.1 0) sv im rd wa2 kp so sz el pr ts nu bu2 ht (bI ig) th po ba en td (bI ij)) gN H1)) (mF a)) args s 0 0 (mF a)) (F0 m 38 ls []) := by
        intro k_38
        induction k_38 with
        | zero =>
          intro i x6 x5 x4 hm
          exact absurd hm (Nat.not_lt_zero _)
        | succ k_38 ih_38 =>
          intro i x6 x5 x4 hm_38 hi e_x6 e_x5 e_x4  H locs  hW hS ls hl
          subst e_x6
          subst e_x5
          subst e_x4
          refine lv_iload (pc := 38) hx hb dX8_next_38 (lv_at hl 0 rfl) ?_
          refine lv_sipush (pc := 40) (v := 600) hx hb dX8_next_40 (by decide) ?_
          refine lv_icmp_gt (pc := 43) (tgt := 97) hx hb dX8_next_43 (by decide) (fun c_3 => ?_) (fun c_3 => ?_)
          · skip
            obtain rfl : i = 60 := by have := gtn (a := 600) (b := 10 * (i + 1)) rfl rfl (by omega) (by omega) c_3; omega
            refine lv_iload (pc := 97) hx hb dX8_next_97 (lv_at hl 2 rfl) ?_
            exact z_wiret cx hr hlk dX8_next_99 hS ⟨_, _, (sI (by unfold nextP; simp [c_1, c_2])), hW⟩
          · skip
            have hle := ngt (a := 600) (b := 10 * (i + 1)) rfl rfl (by omega) (by omega) c_3
            refine lv_iconst (pc := 46) (v := 2) hx hb dX8_next_46 (by decide) ?_
            refine lv_aload_n (pc := 47) hx hb dX8_next_47 rfl (lv_at hl 5 rfl) ?_
            refine lv_iload_n (pc := 48) hx hb dX8_next_48 rfl (lv_at hl 4 rfl) ?_
            refine lv_aload_n (pc := 49) hx hb dX8_next_49 rfl (lv_at hl 5 rfl) ?_
            refine lv_iload (pc := 50) hx hb dX8_next_50 (lv_at hl 0 rfl) ?_
            refine lv_iload_n (pc := 52) hx hb dX8_next_52 rfl (lv_at hl 6 rfl) ?_
            refine k_X8_heardAt (pc := 53) (f := nI (10 * (i + 1))) (st := st) cx hW hI (rgN (by omega) (by omega) (by omega)) m_ml_X8_201 ⟨Nat.le_of_ble_eq_true rfl, Nat.le_of_ble_eq_true rfl⟩ hl.1 rfl (by simp [Value.category]) dX8_next_53 ⟨Nat.le_refl _, Nat.le_refl _⟩ ?_
            refine lv_iand (pc := 56) hx hb dX8_next_56 ?_
            refine k_X8_chancesOf (pc := 57) (set := (ftA sv) &&& (hrA sv (nI (10 * (i + 1))) st)) cx hW (by first | assumption | omega) m_ml_X8_226 ⟨Nat.le_of_ble_eq_true rfl, Nat.le_of_ble_eq_true rfl⟩ hl.1 rfl (by simp [Value.category]) dX8_next_57 ⟨Nat.le_refl _, Nat.le_refl _⟩ ?_
            refine lv_imul (pc := 60) hx hb dX8_next_60 ?_
            refine lv_iload_n (pc := 61) hx hb dX8_next_61 rfl (lv_at hl 3 rfl) ?_
            refine lv_isub (pc := 62) hx hb dX8_next_62 ?_
            refine k_X8_amount (pc := 63) (x := (2 * (chA sv ((ftA sv) &&& (hrA sv (nI (10 * (i + 1))) st)))) - (chA sv (ftA sv))) cx  m_ml_X8_167 ⟨Nat.le_of_ble_eq_true rfl, Nat.le_of_ble_eq_true rfl⟩ hl.1 rfl (by simp [Value.category]) dX8_next_63 ⟨Nat.le_refl _, Nat.le_refl _⟩ ?_
            refine z_tope (y := nxV sv st (i + 1)) rfl ?_
            refine lv_istore (pc := 66) (lv' := [(7, .int (nxV sv st (i + 1))), (6, .int (nI (10 * (i + 1)))), (5, .int ((nxS sv st i).2)), (4, .int ((nxS sv st i).1)), (3, .int (chA sv (ftA sv))), (2, .int (ftA sv)), (0, .ref (a 0)), (1, .int st)]) hx hb dX8_next_66 hl (by decide) rfl (fun ls hl => ?_)
            refine lv_iload (pc := 68) hx hb dX8_next_68 (lv_at hl 3 rfl) ?_
            refine lv_if_lt (pc := 70) (tgt := 83) hx hb dX8_next_70 (by decide) (fun c_4 => ?_) (fun c_4 => ?_)
            · skip
              refine lv_iload (pc := 83) hx hb dX8_next_83 (lv_at hl 1 rfl) ?_
              refine lv_istore (pc := 85) (lv' := [(4, .int (nI (10 * (i + 1)))), (7, .int (nxV sv st (i + 1))), (6, .int (nI (10 * (i + 1)))), (5, .int ((nxS sv st i).2)), (3, .int (chA sv (ftA sv))), (2, .int (ftA sv)), (0, .ref (a 0)), (1, .int st)]) hx hb dX8_next_85 hl (by decide) rfl (fun ls hl => ?_)
              refine lv_iload (pc := 87) hx hb dX8_next_87 (lv_at hl 1 rfl) ?_
              refine lv_istore (pc := 89) (lv' := [(5, .int (nxV sv st (i + 1))), (4, .int (nI (10 * (i + 1)))), (7, .int (nxV sv st (i + 1))), (6, .int (nI (10 * (i + 1)))), (3, .int (chA sv (ftA sv))), (2, .int (ftA sv)), (0, .ref (a 0)), (1, .int st)]) hx hb dX8_next_89 hl (by decide) rfl (fun ls hl => ?_)
              refine lv_iinc (pc := 91) (v := nI ((10 * (i + 1)) + 10)) (lv' := [(6, .int (nI ((10 * (i + 1)) + 10))), (5, .int (nxV sv st (i + 1))), (4, .int (nI (10 * (i + 1)))), (7, .int (nxV sv st (i + 1))), (3, .int (chA sv (ftA sv))), (2, .int (ftA sv)), (0, .ref (a 0)), (1, .int st)]) hx hb dX8_next_91 hl (k := 3) rfl (nI_add _ 10) (by decide) rfl (fun ls hl => ?_)
              refine lv_goto (pc := 94) (tgt := 38) hx hb dX8_next_94 (by decide) ?_
              exact ih_38 (i + 1) (nI ((10 * (i + 1)) + 10)) (nxV sv st (i + 1)) (nI (10 * (i + 1))) (by omega) (by omega) (by first | rfl | (simp [nextP, c_1, c_2, c_4, i_nle.mpr c_4]; done)) (by simp only [nxS]; simp [c_1, c_2, c_4, i_nle.mpr c_4]) (by simp only [nxS]; simp [c_1, c_2, c_4, i_nle.mpr c_4])  _ _  (hW) hS ls (lv_sub hl [0, 1, 2, 4, 5, 6, 7] rfl)
            · skip
              refine lv_iload (pc := 73) hx hb dX8_next_73 (lv_at hl 0 rfl) ?_
              refine lv_iload (pc := 75) hx hb dX8_next_75 (lv_at hl 2 rfl) ?_
              refine lv_icmp_lt (pc := 77) (tgt := 83) hx hb dX8_next_77 (by decide) (fun c_5 => ?_) (fun c_5 => ?_)
              · skip
                refine lv_iload (pc := 83) hx hb dX8_next_83 (lv_at hl 1 rfl) ?_
                refine lv_istore (pc := 85) (lv' := [(4, .int (nI (10 * (i + 1)))), (7, .int (nxV sv st (i + 1))), (6, .int (nI (10 * (i + 1)))), (5, .int ((nxS sv st i).2)), (3, .int (chA sv (ftA sv))), (2, .int (ftA sv)), (0, .ref (a 0)), (1, .int st)]) hx hb dX8_next_85 hl (by decide) rfl (fun ls hl => ?_)
                refine lv_iload (pc := 87) hx hb dX8_next_87 (lv_at hl 1 rfl) ?_
                refine lv_istore (pc := 89) (lv' := [(5, .int (nxV sv st (i + 1))), (4, .int (nI (10 * (i + 1)))), (7, .int (nxV sv st (i + 1))), (6, .int (nI (10 * (i + 1)))), (3, .int (chA sv (ftA sv))), (2, .int (ftA sv)), (0, .ref (a 0)), (1, .int st)]) hx hb dX8_next_89 hl (by decide) rfl (fun ls hl => ?_)
                refine lv_iinc (pc := 91) (v := nI ((10 * (i + 1)) + 10)) (lv' := [(6, .int (nI ((10 * (i + 1)) + 10))), (5, .int (nxV sv st (i + 1))), (4, .int (nI (10 * (i + 1)))), (7, .int (nxV sv st (i + 1))), (3, .int (chA sv (ftA sv))), (2, .int (ftA sv)), (0, .ref (a 0)), (1, .int st)]) hx hb dX8_next_91 hl (k := 3) rfl (nI_add _ 10) (by decide) rfl (fun ls hl => ?_)
                refine lv_goto (pc := 94) (tgt := 38) hx hb dX8_next_94 (by decide) ?_
                exact ih_38 (i + 1) (nI ((10 * (i + 1)) + 10)) (nxV sv st (i + 1)) (nI (10 * (i + 1))) (by omega) (by omega) (by first | rfl | (simp [nextP, c_1, c_2, c_4, c_5, i_nlt.mp c_4, i_nle.mpr c_5]; done)) (by simp only [nxS]; simp [c_1, c_2, c_4, c_5, i_nlt.mp c_4, i_nle.mpr c_5]) (by simp only [nxS]; simp [c_1, c_2, c_4, c_5, i_nlt.mp c_4, i_nle.mpr c_5])  _ _  (hW) hS ls (lv_sub hl [0, 1, 2, 4, 5, 6, 7] rfl)
              · skip
                refine lv_goto (pc := 80) (tgt := 91) hx hb dX8_next_80 (by decide) ?_
                refine lv_iinc (pc := 91) (v := nI ((10 * (i + 1)) + 10)) (lv' := [(6, .int (nI ((10 * (i + 1)) + 10))), (7, .int (nxV sv st (i + 1))), (5, .int ((nxS sv st i).2)), (4, .int ((nxS sv st i).1)), (3, .int (chA sv (ftA sv))), (2, .int (ftA sv)), (0, .ref (a 0)), (1, .int st)]) hx hb dX8_next_91 hl (k := 1) rfl (nI_add _ 10) (by decide) rfl (fun ls hl => ?_)
                refine lv_goto (pc := 94) (tgt := 38) hx hb dX8_next_94 (by decide) ?_
                exact ih_38 (i + 1) (nI ((10 * (i + 1)) + 10)) ((nxS sv st i).2) ((nxS sv st i).1) (by omega) (by omega) (by first | rfl | (simp [nextP, c_1, c_2, c_4, c_5, i_nlt.mp c_4, i_nlt.mp c_5]; done)) (by simp only [nxS]; simp [c_1, c_2, c_4, c_5, i_nlt.mp c_4, i_nlt.mp c_5]) (by simp only [nxS]; simp [c_1, c_2, c_4, c_5, i_nlt.mp c_4, i_nlt.mp c_5])  _ _  (hW) hS ls (lv_sub hl [0, 2, 3, 4, 5, 6, 7] rfl)
      exact loop_38 ((60 - 0) + 1) 0 10 0 (-4) (Nat.lt_succ_self _) (by omega) (by first | rfl | (simp [nextP, c_1, c_2]; done)) (by first | rfl | (simp [nextP, c_1, c_2]; done)) (by first | rfl | (simp [nextP, c_1, c_2]; done))  _ _  (hW) hS ls (lv_sub hl [0, 1, 2, 3, 4, 5, 6] rfl)
    · skip
      refine lv_bipush (pc := 18) (v := (-4)) hx hb dX8_next_18 (by decide) ?_
      exact z_wiret cx hr hlk dX8_next_20 hS ⟨_, _, (sI (by first | rfl | (simp [nextP, c_1, c_2]; done))), hW⟩
  · skip
    refine lv_iconst (pc := 7) (v := (-1)) hx hb dX8_next_7 (by decide) ?_
    exact z_wiret cx hr hlk dX8_next_8 hS ⟨_, _, (sI (by first | rfl | (simp [nextP, c_1]; done))), hW⟩
theorem k_X8_next {p : Program} {l : Launch} {e : Env} {R : Room} {s : State} {m : MethodId} {args : Array Value} {below : List Frame} {meth : Method} {c : Code} {H H0 : Heap} {locs : List Loc} {cells slots : Nat} {Q : State → Prop} {cc : ByteArray} {pc index : Nat} {ls : Array Slot} {rest st0 : List Value} {E : zE} {own : String} {nL : Nat} {F : Nat → Prop} {a : Nat → Nat} {sv im rd wa kp so sz el pr ts nu bu ht : Nat → Int32} {th po ba en td : Int32} {ig : Bool} {ij : Bool} {st : Int32} (cx : Cx E p s args m c own cc nL) (hW : WW E (wM a (E.2.1 0) sv im rd wa kp so sz el pr ts nu bu ht (bI ig) th po ba en td (bI ij)) gN H) (hS : va_S F H0 H locs) (zF : ∀ q, (mF a) q → F q) (hI : Inv sv) (zl : Cond.methodLink own index yX8_next ∈ AllW) (zR : 21 + 1 ≤ R.frames ∧ 8 + (8 + 11) + 591 ≤ R.locals) (zs : ls.size = nL) (zt : st0 = ([.int st] : List Value).reverse ++ .ref (a 0) :: rest) (z8 : (rest.map fun v => v.category).sum ≤ 8) (zd : decode cc pc = .ok (.invokevirtual index, 3)) (zf : cells ≤ R.cells ∧ slots ≤ R.slots) (kk0 : ∀ (wa2 : Nat → Int32) (bu2 : Nat → Int32) (H1 : Heap) (locs1 : List Loc), WW E (wM a (E.2.1 0) sv im rd wa2 kp so sz el pr ts nu bu2 ht (bI ig) th po ba en td (bI ij)) gN H1 → va_S F H0 H1 locs1 → W p l e R s m args below meth c H1 locs1 cells slots Q (F0 m (pc + 3) ls (.int (nextP sv st) :: rest))) : W p l e R s m args below meth c H locs cells slots Q (F0 m pc ls st0) := by
  refine z_callVw cx vm_X8_next (c_X8_next l E a sv im rd wa kp so sz el pr ts nu bu ht th po ba en td ig ij st hI) (z_rec cx.2 (hW.at 0 rfl) rfl) hW hS zF zl ⟨rfl, rfl⟩ zR rfl zs zt z8 zd zf (fun v H1 locs1 hq hS1 _ => ?_)
  rcases hq with ⟨wa2, bu2, rfl, hW1⟩
  · exact kk0 wa2 bu2 H1 locs1  hW1 hS1
theorem vm_X8_hears : zVm yX8_hears cX8_hears 4 none 2 := ⟨m_co_X8_hears, m_in_RX8, ⟨m_im_X8_hears, m_se_X8_X8_hears⟩, by decide +kernel, by decide +kernel, by decide +kernel⟩
set_option maxHeartbeats 1000000 in
set_option maxRecDepth 100000 in
theorem c_X8_hears (l : Launch) (E : zE) (a : Nat → Nat) (sv im rd wa kp so sz el pr ts nu bu ht : Nat → Int32) (th po ba en td : Int32) (ig : Bool) (ij : Bool) (n : Nat) (st : Int32) (hI : Inv sv) (hn : n < 8) (hR : InvR kp so sz) (hal : ∀ j, j < iN (sz n) → rg (el (100 * n + j)) 1 1200) : Met l yX8_hears (.code yX8_hears cX8_hears 4 none :: AllW) (rm0' 19 547) (zP E (fun H => WW E (wM a (E.2.1 0) sv im rd wa kp so sz el pr ts nu bu ht (bI ig) th po ba en td (bI ij)) gN H) [.ref (a 0), .int (nI n), .int st]) (zQ (fun (_ : Heap) (v : Option Value) (H1 : Heap) => (∃ (ht2 : Nat → Int32), v = none ∧ (∀ j, j < iN (sz n) → ht2 j = hrA sv (el (100 * n + j)) st) ∧ WW E (wM a (E.2.1 0) sv im rd wa kp so sz el pr ts nu bu ht2 (bI ig) th po ba en td (bI ij)) gN H1)) (mF a)) 0 0 (mF a) := by
  refine z_body (own := RX8) (by decide) rfl rfl ?_
  intro p e s m args below meth c ls cx hr hlk hnm hW hl
  have hx := cx.x
  have hb := cx.b
  have hl : lv_has ls 4 [(0, .ref (a 0)), (1, .int (nI n)), (2, .int st)] := hl
  have hS : va_S (mF a) s.heap s.heap [] := va_S.rf
  have hC := hI.1
  have hP10 := (Inv.n0 hC).2
  have hT7 := (Inv.n1 hC).2
  have hA24 := (Inv.n2 hC).2
  have hz := sz_nat hR hn
  refine lv_iconst (pc := 0) (v := 0) hx hb dX8_hears_0 (by decide) ?_
  refine lv_istore_n (pc := 1) (lv' := [(3, .int 0), (0, .ref (a 0)), (1, .int (nI n)), (2, .int st)]) hx hb dX8_hears_1 rfl hl (by decide) rfl (fun ls hl => ?_)
  have loop_2 : ∀ (k_2 : Nat) (i : Nat) (x3 : Int32), (iN (sz n) - i) < k_2 → (i ≤ iN (sz n)) → x3 = nI i → ∀ (ht2 : Nat → Int32) (H : Heap) (locs : List Loc), (∀ j, j < i → ht2 j = hrA sv (el (100 * n + j)) st) → WW E (wM a (E.2.1 0) sv im rd wa kp so sz el pr ts nu bu ht2 (bI ig) th po ba en td (bI ij)) gN H → va_S (mF a) s.heap H locs → ∀ (ls : Array Slot), lv_has ls 4 [(3, .int x3), (0, .ref (a 0)), (1, .int (nI n)), (2, .int st)] → W p l e (rm0' (19) (547)) s m args below meth c H locs 0 0 (MQ below (zQ (fun (_ : Heap) (v : Option Value) (H1 : Heap) => (∃ (ht2 : Nat → Int32), v = none ∧ (∀ j, j < iN (sz n) → ht2 j = hrA sv (el (100 * n + j)) st) ∧ WW E (wM a (E.2.1 0) sv im rd wa kp so sz el pr ts nu bu ht2 (bI ig) th po ba en td (bI ij)) gN H1)) (mF a)) args s 0 0 (mF a)) (F0 m 2 ls []) := by
    intro k_2
    induction k_2 with
    | zero =>
      intro i x3 hm
      exact absurd hm (Nat.not_lt_zero _)
    | succ k_2 ih_2 =>
      intro i x3 hm_2 hi e_x3 ht2 H locs hht hW hS ls hl
      subst e_x3
      refine lv_iload_n (pc := 2) hx hb dX8_hears_2 rfl (lv_at hl 0 rfl) ?_
      refine lv_aload_n (pc := 3) hx hb dX8_hears_3 rfl (lv_at hl 1 rfl) ?_
      refine z_getM (pc := 4) cx (hW.at 0 rfl) 6 rfl m_fl_X8_28 rfl dX8_hears_4 ?_
      refine lv_iload_n (pc := 7) hx hb dX8_hears_7 rfl (lv_at hl 2 rfl) ?_
      refine z_iald (pc := 8) (f := sz) (j := n) cx (hW.at 7 rfl) rfl (by omega) (by decide) dX8_hears_8 ?_
      refine lv_icmp_ge (pc := 9) (tgt := 40) hx hb dX8_hears_9 (by decide) (fun c_1 => ?_) (fun c_1 => ?_)
      · skip
        obtain rfl : i = iN (sz n) := by have := ge_nat (a := i) rfl hz.1 (by omega) (by omega) c_1; omega
        exact z_wvret cx hr hlk dX8_hears_40 hS ⟨_, rfl, hht, hW⟩
      · skip
        have hlt_i := lt_nat (a := i) rfl hz.1 (by omega) (by omega) c_1
        refine lv_aload_n (pc := 12) hx hb dX8_hears_12 rfl (lv_at hl 1 rfl) ?_
        refine z_getM (pc := 13) cx (hW.at 0 rfl) 19 rfl m_fl_X8_46 rfl dX8_hears_13 ?_
        refine lv_iload_n (pc := 16) hx hb dX8_hears_16 rfl (lv_at hl 0 rfl) ?_
        refine lv_aload_n (pc := 17) hx hb dX8_hears_17 rfl (lv_at hl 1 rfl) ?_
        refine lv_aload_n (pc := 18) hx hb dX8_hears_18 rfl (lv_at hl 1 rfl) ?_
        refine z_getM (pc := 19) cx (hW.at 0 rfl) 7 rfl m_fl_X8_31 rfl dX8_hears_19 ?_
        refine lv_bipush (pc := 22) (v := 100) hx hb dX8_hears_22 (by decide) ?_
        refine lv_iload_n (pc := 24) hx hb dX8_hears_24 rfl (lv_at hl 2 rfl) ?_
        refine lv_imul (pc := 25) hx hb dX8_hears_25 ?_
        refine lv_iload_n (pc := 26) hx hb dX8_hears_26 rfl (lv_at hl 0 rfl) ?_
        refine lv_iadd (pc := 27) hx hb dX8_hears_27 ?_
        refine z_iald (pc := 28) (f := el) (j := 100 * n + i) cx (hW.at 8 rfl) (ixe n i) (by omega) (by decide) dX8_hears_28 ?_
        refine lv_iload_n (pc := 29) hx hb dX8_hears_29 rfl (lv_at hl 3 rfl) ?_
        refine k_X8_heardAt (pc := 30) (f := el (100 * n + i)) (st := st) cx hW hI (hal i (by omega)) m_ml_X8_201 ⟨Nat.le_of_ble_eq_true rfl, Nat.le_of_ble_eq_true rfl⟩ hl.1 rfl (by simp [Value.category]) dX8_hears_30 ⟨Nat.le_refl _, Nat.le_refl _⟩ ?_
        refine z_iast (pc := 33) (f := ht2) (j := i) cx hW hS 13 rfl (mF_in a 13) rfl (by omega) (by decide) dX8_hears_33 (fun H locs hW hS => ?_)
        have hW : WW E (wM a (E.2.1 0) sv im rd wa kp so sz el pr ts nu bu (upd ht2 i (hrA sv (el (100 * n + i)) st)) (bI ig) th po ba en td (bI ij)) gN H := hW
        refine lv_iinc (pc := 34) (v := nI (i + 1)) (lv' := [(3, .int (nI (i + 1))), (0, .ref (a 0)), (1, .int (nI n)), (2, .int st)]) hx hb dX8_hears_34 hl (k := 0) rfl (nI_1 _) (by decide) rfl (fun ls hl => ?_)
        refine lv_goto (pc := 37) (tgt := 2) hx hb dX8_hears_37 (by decide) ?_
        exact ih_2 (i + 1) (nI (i + 1)) (by omega) (by omega) (by first | rfl | (simp []; done)) (upd ht2 i (hrA sv (el (100 * n + i)) st)) _ _ (upd_lt (g := fun j => hrA sv (el (100 * n + j)) st) hht) (hW) hS ls (lv_sub hl [0, 1, 2, 3] rfl)
  exact loop_2 ((iN (sz n) - 0) + 1) 0 0 (Nat.lt_succ_self _) (by omega) (by first | rfl | (simp []; done)) ht _ _ (fun j h => absurd h (Nat.not_lt_zero _)) (hW) hS ls (lv_sub hl [0, 1, 2, 3] rfl)
theorem k_X8_hears {p : Program} {l : Launch} {e : Env} {R : Room} {s : State} {m : MethodId} {args : Array Value} {below : List Frame} {meth : Method} {c : Code} {H H0 : Heap} {locs : List Loc} {cells slots : Nat} {Q : State → Prop} {cc : ByteArray} {pc index : Nat} {ls : Array Slot} {rest st0 : List Value} {E : zE} {own : String} {nL : Nat} {F : Nat → Prop} {a : Nat → Nat} {sv im rd wa kp so sz el pr ts nu bu ht : Nat → Int32} {th po ba en td : Int32} {ig : Bool} {ij : Bool} {n : Nat} {st : Int32} (cx : Cx E p s args m c own cc nL) (hW : WW E (wM a (E.2.1 0) sv im rd wa kp so sz el pr ts nu bu ht (bI ig) th po ba en td (bI ij)) gN H) (hS : va_S F H0 H locs) (zF : ∀ q, (mF a) q → F q) (hI : Inv sv) (hn : n < 8) (hR : InvR kp so sz) (hal : ∀ j, j < iN (sz n) → rg (el (100 * n + j)) 1 1200) (zl : Cond.methodLink own index yX8_hears ∈ AllW) (zR : 19 + 1 ≤ R.frames ∧ 8 + (4 + 11) + 547 ≤ R.locals) (zs : ls.size = nL) (zt : st0 = ([.int (nI n), .int st] : List Value).reverse ++ .ref (a 0) :: rest) (z8 : (rest.map fun v => v.category).sum ≤ 8) (zd : decode cc pc = .ok (.invokevirtual index, 3)) (zf : cells ≤ R.cells ∧ slots ≤ R.slots) (kk0 : ∀ (ht2 : Nat → Int32) (H1 : Heap) (locs1 : List Loc), (∀ j, j < iN (sz n) → ht2 j = hrA sv (el (100 * n + j)) st) → WW E (wM a (E.2.1 0) sv im rd wa kp so sz el pr ts nu bu ht2 (bI ig) th po ba en td (bI ij)) gN H1 → va_S F H0 H1 locs1 → W p l e R s m args below meth c H1 locs1 cells slots Q (F0 m (pc + 3) ls (rest))) : W p l e R s m args below meth c H locs cells slots Q (F0 m pc ls st0) := by
  refine z_callVw cx vm_X8_hears (c_X8_hears l E a sv im rd wa kp so sz el pr ts nu bu ht th po ba en td ig ij n st hI hn hR hal) (z_rec cx.2 (hW.at 0 rfl) rfl) hW hS zF zl ⟨rfl, rfl⟩ zR rfl zs zt z8 zd zf (fun v H1 locs1 hq hS1 _ => ?_)
  rcases hq with ⟨ht2, rfl, hht, hW1⟩
  · exact kk0 ht2 H1 locs1 hht hW1 hS1
theorem vm_X8_fewest : zVm yX8_fewest cX8_fewest 5 (some FieldType.int) 2 := ⟨m_co_X8_fewest, m_in_RX8, ⟨m_im_X8_fewest, m_se_X8_X8_fewest⟩, by decide +kernel, by decide +kernel, by decide +kernel⟩
set_option maxHeartbeats 1000000 in
set_option maxRecDepth 100000 in
theorem c_X8_fewest (l : Launch) (E : zE) (a : Nat → Nat) (sv im rd wa kp so sz el pr ts nu bu ht : Nat → Int32) (th po ba en td : Int32) (ig : Bool) (ij : Bool) (d st : Int32) (hI : Inv sv) (hR : InvR kp so sz) : Met l yX8_fewest (.code yX8_fewest cX8_fewest 5 (some FieldType.int) :: AllW) (rm0' 136 7928) (zP E (fun H => WW E (wM a (E.2.1 0) sv im rd wa kp so sz el pr ts nu bu ht (bI ig) th po ba en td (bI ij)) gN H) [.ref (a 0), .int d, .int st]) (zQ (fun (_ : Heap) (v : Option Value) (H1 : Heap) => (∃ (wa2 : Nat → Int32) (bu2 : Nat → Int32) (ht2 : Nat → Int32), v = some (.int (fewestP sv kp so sz el d st)) ∧ WW E (wM a (E.2.1 0) sv im rd wa2 kp so sz el pr ts nu bu2 ht2 (bI ig) th po ba en td (bI ij)) gN H1)) (mF a)) 0 0 (mF a) := by
  refine z_body (own := RX8) (by decide) rfl rfl ?_
  intro p e s m args below meth c ls cx hr hlk hnm hW hl
  have hx := cx.x
  have hb := cx.b
  have hl : lv_has ls 5 [(0, .ref (a 0)), (1, .int d), (2, .int st)] := hl
  have hS : va_S (mF a) s.heap s.heap [] := va_S.rf
  have hC := hI.1
  have hP10 := (Inv.n0 hC).2
  have hT7 := (Inv.n1 hC).2
  have hA24 := (Inv.n2 hC).2
  refine lv_iload_n (pc := 0) hx hb dX8_fewest_0 rfl (lv_at hl 1 rfl) ?_
  refine k_X8_isShelf (pc := 1) (x := d) cx  m_ml_X8_111 ⟨Nat.le_of_ble_eq_true rfl, Nat.le_of_ble_eq_true rfl⟩ hl.1 rfl (by simp [Value.category]) dX8_fewest_1 ⟨Nat.le_refl _, Nat.le_refl _⟩ ?_
  refine z_ifeq (pc := 4) (tgt := 14) hx hb dX8_fewest_4 (by decide) (fun c_1 => ?_) (fun c_1 => ?_)
  · skip
    refine lv_iconst (pc := 14) (v := (-1)) hx hb dX8_fewest_14 (by decide) ?_
    exact z_wiret cx hr hlk dX8_fewest_15 hS ⟨_, _, _, (sI (by first | rfl | (simp [fewestP, c_1]; done))), hW⟩
  · skip
    refine lv_iload_n (pc := 7) hx hb dX8_fewest_7 rfl (lv_at hl 2 rfl) ?_
    refine k_X8_isStrong (pc := 8) (x := st) cx  m_ml_X8_180 ⟨Nat.le_of_ble_eq_true rfl, Nat.le_of_ble_eq_true rfl⟩ hl.1 rfl (by simp [Value.category]) dX8_fewest_8 ⟨Nat.le_refl _, Nat.le_refl _⟩ ?_
    refine z_ifne (pc := 11) (tgt := 16) hx hb dX8_fewest_11 (by decide) (fun c_2 => ?_) (fun c_2 => ?_)
    · skip
      refine lv_aload_n (pc := 16) hx hb dX8_fewest_16 rfl (lv_at hl 0 rfl) ?_
      refine lv_iload_n (pc := 17) hx hb dX8_fewest_17 rfl (lv_at hl 1 rfl) ?_
      refine lv_bipush (pc := 18) (v := 6) hx hb dX8_fewest_18 (by decide) ?_
      refine k_X8_wrongTones (pc := 20) (d := d) (mo := 6) cx hW (by first | assumption | omega) m_ml_X8_235 ⟨Nat.le_of_ble_eq_true rfl, Nat.le_of_ble_eq_true rfl⟩ hl.1 rfl (by simp [Value.category]) dX8_fewest_20 ⟨Nat.le_refl _, Nat.le_refl _⟩ ?_
      refine lv_istore_n (pc := 23) (lv' := [(3, .int (wtT kp so sz el d 6)), (0, .ref (a 0)), (1, .int d), (2, .int st)]) hx hb dX8_fewest_23 rfl hl (by decide) rfl (fun ls hl => ?_)
      refine lv_iload_n (pc := 24) hx hb dX8_fewest_24 rfl (lv_at hl 0 rfl) ?_
      refine lv_if_eq (pc := 25) (tgt := 30) hx hb dX8_fewest_25 (by decide) (fun c_3 => ?_) (fun c_3 => ?_)
      · skip
        have ht0 := wtT_0 c_3
        obtain ⟨n, hn, rfl⟩ := shelf_nat (wrR_0 ht0.1).1
        have hN := iN_nI (n := n) (by omega)
        have hz := sz_nat hR hn
        have hal := allN_all _ _ ht0.2.2
        rw [hN] at hal
        have hal2 : ∀ j, j < iN (sz n) → rg (el (100 * n + j)) 1 1200 := fun j hj => tone_rg (hal j (Nat.zero_le _) (by omega))
        refine lv_aload_n (pc := 30) hx hb dX8_fewest_30 rfl (lv_at hl 1 rfl) ?_
        refine k_X8_fitting (pc := 31)  cx hW hS (fun _ h => h) (by first | assumption | omega) m_ml_X8_220 ⟨Nat.le_of_ble_eq_true rfl, Nat.le_of_ble_eq_true rfl⟩ hl.1 rfl (by simp [Value.category]) dX8_fewest_31 ⟨Nat.le_refl _, Nat.le_refl _⟩ (fun wa2 bu2 H locs hbz hW hS => ?_)
        have hW : WW E (wM a (E.2.1 0) sv im rd wa2 kp so sz el pr ts nu bu2 ht (bI ig) th po ba en td (bI ij)) gN H := hW
        refine lv_istore (pc := 34) (lv' := [(4, .int (ftA sv)), (3, .int (wtT kp so sz el (nI n) 6)), (0, .ref (a 0)), (1, .int (nI n)), (2, .int st)]) hx hb dX8_fewest_34 hl (by decide) rfl (fun ls hl => ?_)
        refine lv_iload (pc := 36) hx hb dX8_fewest_36 (lv_at hl 0 rfl) ?_
        refine lv_if_ne (pc := 38) (tgt := 44) hx hb dX8_fewest_38 (by decide) (fun c_4 => ?_) (fun c_4 => ?_)
        · skip
          obtain ⟨v2, hv2, ev⟩ := ftA_nat (sv := sv) hT7
          rw [ev] at hl c_4
          have hV := iN_nI (n := v2) (by omega)
          refine lv_aload_n (pc := 44) hx hb dX8_fewest_44 rfl (lv_at hl 2 rfl) ?_
          refine lv_iload_n (pc := 45) hx hb dX8_fewest_45 rfl (lv_at hl 3 rfl) ?_
          refine lv_iload_n (pc := 46) hx hb dX8_fewest_46 rfl (lv_at hl 4 rfl) ?_
          refine k_X8_hears (pc := 47) (n := n) (st := st) cx hW hS (fun _ h => h) hI hn hR hal2 m_ml_X8_238 ⟨Nat.le_of_ble_eq_true rfl, Nat.le_of_ble_eq_true rfl⟩ hl.1 rfl (by simp [Value.category]) dX8_fewest_47 ⟨Nat.le_refl _, Nat.le_refl _⟩ (fun ht2 H locs hht hW hS => ?_)
          have hW : WW E (wM a (E.2.1 0) sv im rd wa2 kp so sz el pr ts nu bu2 ht2 (bI ig) th po ba en td (bI ij)) gN H := hW
          refine lv_aload_n (pc := 50) hx hb dX8_fewest_50 rfl (lv_at hl 2 rfl) ?_
          refine lv_iload (pc := 51) hx hb dX8_fewest_51 (lv_at hl 0 rfl) ?_
          refine lv_aload_n (pc := 53) hx hb dX8_fewest_53 rfl (lv_at hl 2 rfl) ?_
          refine z_getM (pc := 54) cx (hW.at 0 rfl) 6 rfl m_fl_X8_28 rfl dX8_fewest_54 ?_
          refine lv_iload_n (pc := 57) hx hb dX8_fewest_57 rfl (lv_at hl 3 rfl) ?_
          refine z_iald (pc := 58) (f := sz) (j := n) cx (hW.at 7 rfl) rfl (by omega) (by decide) dX8_fewest_58 ?_
          refine z_tope (y := nI (iN (sz n))) hz.1 ?_
          refine k_X8_worstOf (pc := 59) (v := v2) (tn := iN (sz n)) cx hW (by omega) hv2 m_ml_X8_232 ⟨Nat.le_of_ble_eq_true rfl, Nat.le_of_ble_eq_true rfl⟩ hl.1 rfl (by simp [Value.category]) dX8_fewest_59 ⟨Nat.le_refl _, Nat.le_refl _⟩ ?_
          exact z_wiret cx hr hlk dX8_fewest_62 hS ⟨_, _, _, (sI (by rw [wo_congr hht]; simp [fewestP, c_1, c_2, c_3, hN, c_4, ev, hV])), hW⟩
        · skip
          refine lv_bipush (pc := 41) (v := (-4)) hx hb dX8_fewest_41 (by decide) ?_
          exact z_wiret cx hr hlk dX8_fewest_43 hS ⟨_, _, _, (sI (by first | rfl | (simp [fewestP, c_1, c_2, c_3, hN, c_4]; done))), hW⟩
      · skip
        refine lv_iload_n (pc := 28) hx hb dX8_fewest_28 rfl (lv_at hl 0 rfl) ?_
        exact z_wiret cx hr hlk dX8_fewest_29 hS ⟨_, _, _, (sI (by first | rfl | (simp [fewestP, c_1, c_2, c_3]; done))), hW⟩
    · skip
      refine lv_iconst (pc := 14) (v := (-1)) hx hb dX8_fewest_14 (by decide) ?_
      exact z_wiret cx hr hlk dX8_fewest_15 hS ⟨_, _, _, (sI (by first | rfl | (simp [fewestP, c_1, c_2]; done))), hW⟩
theorem k_X8_fewest {p : Program} {l : Launch} {e : Env} {R : Room} {s : State} {m : MethodId} {args : Array Value} {below : List Frame} {meth : Method} {c : Code} {H H0 : Heap} {locs : List Loc} {cells slots : Nat} {Q : State → Prop} {cc : ByteArray} {pc index : Nat} {ls : Array Slot} {rest st0 : List Value} {E : zE} {own : String} {nL : Nat} {F : Nat → Prop} {a : Nat → Nat} {sv im rd wa kp so sz el pr ts nu bu ht : Nat → Int32} {th po ba en td : Int32} {ig : Bool} {ij : Bool} {d st : Int32} (cx : Cx E p s args m c own cc nL) (hW : WW E (wM a (E.2.1 0) sv im rd wa kp so sz el pr ts nu bu ht (bI ig) th po ba en td (bI ij)) gN H) (hS : va_S F H0 H locs) (zF : ∀ q, (mF a) q → F q) (hI : Inv sv) (hR : InvR kp so sz) (zl : Cond.methodLink own index yX8_fewest ∈ AllW) (zR : 136 + 1 ≤ R.frames ∧ 8 + (5 + 11) + 7928 ≤ R.locals) (zs : ls.size = nL) (zt : st0 = ([.int d, .int st] : List Value).reverse ++ .ref (a 0) :: rest) (z8 : (rest.map fun v => v.category).sum ≤ 8) (zd : decode cc pc = .ok (.invokevirtual index, 3)) (zf : cells ≤ R.cells ∧ slots ≤ R.slots) (kk0 : ∀ (wa2 : Nat → Int32) (bu2 : Nat → Int32) (ht2 : Nat → Int32) (H1 : Heap) (locs1 : List Loc), WW E (wM a (E.2.1 0) sv im rd wa2 kp so sz el pr ts nu bu2 ht2 (bI ig) th po ba en td (bI ij)) gN H1 → va_S F H0 H1 locs1 → W p l e R s m args below meth c H1 locs1 cells slots Q (F0 m (pc + 3) ls (.int (fewestP sv kp so sz el d st) :: rest))) : W p l e R s m args below meth c H locs cells slots Q (F0 m pc ls st0) := by
  refine z_callVw cx vm_X8_fewest (c_X8_fewest l E a sv im rd wa kp so sz el pr ts nu bu ht th po ba en td ig ij d st hI hR) (z_rec cx.2 (hW.at 0 rfl) rfl) hW hS zF zl ⟨rfl, rfl⟩ zR rfl zs zt z8 zd zf (fun v H1 locs1 hq hS1 _ => ?_)
  rcases hq with ⟨wa2, bu2, ht2, rfl, hW1⟩
  · exact kk0 wa2 bu2 ht2 H1 locs1  hW1 hS1
theorem vm_X8_length : zVm yX8_length cX8_length 6 (some FieldType.int) 2 := ⟨m_co_X8_length, m_in_RX8, ⟨m_im_X8_length, m_se_X8_X8_length⟩, by decide +kernel, by decide +kernel, by decide +kernel⟩
set_option maxHeartbeats 1000000 in
set_option maxRecDepth 100000 in
theorem c_X8_length (l : Launch) (E : zE) (a : Nat → Nat) (sv im rd wa kp so sz el pr ts nu bu ht : Nat → Int32) (th po ba en td : Int32) (ig : Bool) (ij : Bool) (x w : Int32) (hI : Inv sv) : Met l yX8_length (.code yX8_length cX8_length 6 (some FieldType.int) :: AllW) (rm0' 20 569) (zP E (fun H => WW E (wM a (E.2.1 0) sv im rd wa kp so sz el pr ts nu bu ht (bI ig) th po ba en td (bI ij)) gN H) [.ref (a 0), .int x, .int w]) (zQ (fun (_ : Heap) (v : Option Value) (H1 : Heap) => (∃ (wa2 : Nat → Int32) (bu2 : Nat → Int32), v = some (.int (lengthP sv x w)) ∧ WW E (wM a (E.2.1 0) sv im rd wa2 kp so sz el pr ts nu bu2 ht (bI ig) th po ba en td (bI ij)) gN H1)) (mF a)) 0 0 (mF a) := by
  refine z_body (own := RX8) (by decide) rfl rfl ?_
  intro p e s m args below meth c ls cx hr hlk hnm hW hl
  have hx := cx.x
  have hb := cx.b
  have hl : lv_has ls 6 [(0, .ref (a 0)), (1, .int x), (2, .int w)] := hl
  have hS : va_S (mF a) s.heap s.heap [] := va_S.rf
  have hC := hI.1
  have hP10 := (Inv.n0 hC).2
  have hT7 := (Inv.n1 hC).2
  have hA24 := (Inv.n2 hC).2
  refine lv_aload_n (pc := 0) hx hb dX8_length_0 rfl (lv_at hl 0 rfl) ?_
  refine lv_iload_n (pc := 1) hx hb dX8_length_1 rfl (lv_at hl 1 rfl) ?_
  refine k_X8_isThing (pc := 2) (x := x) cx hW  m_ml_X8_143 ⟨Nat.le_of_ble_eq_true rfl, Nat.le_of_ble_eq_true rfl⟩ hl.1 rfl (by simp [Value.category]) dX8_length_2 ⟨Nat.le_refl _, Nat.le_refl _⟩ ?_
  refine z_ifeq (pc := 5) (tgt := 18) hx hb dX8_length_5 (by decide) (fun c_1 => ?_) (fun c_1 => ?_)
  · skip
    refine lv_iconst (pc := 18) (v := (-1)) hx hb dX8_length_18 (by decide) ?_
    exact z_wiret cx hr hlk dX8_length_19 hS ⟨_, _, (sI (by simp [lengthP, c_1])), hW⟩
  · skip
    obtain ⟨n, hn, rfl⟩ := th_nat hC c_1
    have hN := iN_nI (n := n) (by omega)
    refine lv_iload_n (pc := 8) hx hb dX8_length_8 rfl (lv_at hl 2 rfl) ?_
    refine lv_i2l (pc := 9) (v := Int32.toInt64 w) hx hb dX8_length_9 rfl ?_
    refine lv_lconst (pc := 10) (v := 0) hx hb dX8_length_10 rfl ?_
    refine lv_lconst (pc := 11) (v := 1) hx hb dX8_length_11 rfl ?_
    refine k_X8_isIn (pc := 12) (x := w) (y := 0) (z := 1) cx  m_ml_X8_53 ⟨Nat.le_of_ble_eq_true rfl, Nat.le_of_ble_eq_true rfl⟩ hl.1 rfl (by simp [Value.category]) dX8_length_12 ⟨Nat.le_refl _, Nat.le_refl _⟩ ?_
    refine z_ifne (pc := 15) (tgt := 20) hx hb dX8_length_15 (by decide) (fun c_2 => ?_) (fun c_2 => ?_)
    · skip
      refine lv_aload_n (pc := 20) hx hb dX8_length_20 rfl (lv_at hl 0 rfl) ?_
      refine lv_iload_n (pc := 21) hx hb dX8_length_21 rfl (lv_at hl 1 rfl) ?_
      refine lv_iconst (pc := 22) (v := 2) hx hb dX8_length_22 (by decide) ?_
      refine k_X8_of (pc := 23) (n := n) (k := 2) cx hW (by first | assumption | omega) (by first | assumption | omega) m_ml_X8_140 ⟨Nat.le_of_ble_eq_true rfl, Nat.le_of_ble_eq_true rfl⟩ hl.1 rfl (by simp [Value.category]) dX8_length_23 ⟨Nat.le_refl _, Nat.le_refl _⟩ ?_
      refine lv_istore_n (pc := 26) (lv' := [(3, .int (g5 sv n 2)), (0, .ref (a 0)), (1, .int (nI n)), (2, .int w)]) hx hb dX8_length_26 rfl hl (by decide) rfl (fun ls hl => ?_)
      refine lv_bipush (pc := 27) (v := (-4)) hx hb dX8_length_27 (by decide) ?_
      refine lv_istore (pc := 29) (lv' := [(4, .int (-4)), (3, .int (g5 sv n 2)), (0, .ref (a 0)), (1, .int (nI n)), (2, .int w)]) hx hb dX8_length_29 hl (by decide) rfl (fun ls hl => ?_)
      refine lv_iconst (pc := 31) (v := 1) hx hb dX8_length_31 (by decide) ?_
      refine lv_istore (pc := 32) (lv' := [(5, .int 1), (4, .int (-4)), (3, .int (g5 sv n 2)), (0, .ref (a 0)), (1, .int (nI n)), (2, .int w)]) hx hb dX8_length_32 hl (by decide) rfl (fun ls hl => ?_)
      have loop_34 : ∀ (k_34 : Nat) (i : Nat) (x5 : Int32) (x4 : Int32), (999 - i) < k_34 → (i ≤ 999) → x5 = nI (i + 1) → x4 = lnS sv n w i → ∀ (g : Nat) (wa2 : Nat → Int32) (bu2 : Nat → Int32) (H : Heap) (locs : List Loc), WW E (wM a (E.2.1 0) (gapS sv n g) im rd wa2 kp so sz el pr ts nu bu2 ht (bI ig) th po ba en td (bI ij)) gN H → va_S (mF a) s.heap H locs → ∀ (ls : Array Slot), lv_has ls 6 [(5, .int x5), (4, .int x4), (3, .int (g5 sv n 2)), (0, .ref (a 0)), (1, .int (nI n)), (2, .int w)] → W p l e (rm0' (20) (569)) s m args below meth c H locs 0 0 (MQ below (zQ (fun (_ : Heap) (v : Option Value) (H1 : Heap) => (∃ (wa2 : Nat → Int32) (bu2 : Nat → Int32), v = some (.int (lengthP sv (nI n) w)) ∧ WW E (wM a (E.2.1 0) sv im rd wa2 kp so sz el pr ts nu bu2 ht (bI ig) th po ba en td (bI ij)) gN H1)) (mF a)) args s 0 0 (mF a)) (F0 m 34 ls []) := by
        intro k_34
        induction k_34 with
        | zero =>
          intro i x5 x4 hm
          exact absurd hm (Nat.not_lt_zero _)
        | succ k_34 ih_34 =>
          intro i x5 x4 hm_34 hi e_x5 e_x4 g wa2 bu2 H locs  hW hS ls hl
          subst e_x5
          subst e_x4
          refine lv_iload (pc := 34) hx hb dX8_length_34 (lv_at hl 0 rfl) ?_
          refine lv_sipush (pc := 36) (v := 999) hx hb dX8_length_36 (by decide) ?_
          refine lv_icmp_gt (pc := 39) (tgt := 96) hx hb dX8_length_39 (by decide) (fun c_3 => ?_) (fun c_3 => ?_)
          · skip
            obtain rfl : i = 999 := by have := gtn (a := 999) (b := i + 1) rfl rfl (by omega) (by omega) c_3; omega
            refine lv_aload_n (pc := 96) hx hb dX8_length_96 rfl (lv_at hl 3 rfl) ?_
            refine z_getM (pc := 97) cx (hW.at 0 rfl) 0 rfl m_fl_X8_9 rfl dX8_length_97 ?_
            refine lv_bipush (pc := 100) (v := 68) hx hb dX8_length_100 (by decide) ?_
            refine lv_iconst (pc := 102) (v := 5) hx hb dX8_length_102 (by decide) ?_
            refine lv_iload_n (pc := 103) hx hb dX8_length_103 rfl (lv_at hl 4 rfl) ?_
            refine lv_imul (pc := 104) hx hb dX8_length_104 ?_
            refine lv_iadd (pc := 105) hx hb dX8_length_105 ?_
            refine lv_iconst (pc := 106) (v := 2) hx hb dX8_length_106 (by decide) ?_
            refine lv_iadd (pc := 107) hx hb dX8_length_107 ?_
            refine lv_iload_n (pc := 108) hx hb dX8_length_108 rfl (lv_at hl 2 rfl) ?_
            refine z_iast (pc := 109) (f := gapS sv n g) (j := 68 + 5 * n + 2) cx hW hS 1 rfl (mF_in a 1) (ix_52 n) (by omega) (by decide) dX8_length_109 (fun H locs hW hS => ?_)
            have hW : WW E (wM a (E.2.1 0) (upd (gapS sv n g) (68 + 5 * n + 2) (g5 sv n 2)) im rd wa2 kp so sz el pr ts nu bu2 ht (bI ig) th po ba en td (bI ij)) gN H := hW
            rw [gapS_b sv n g] at hW
            have hW : WW E (wM a (E.2.1 0) sv im rd wa2 kp so sz el pr ts nu bu2 ht (bI ig) th po ba en td (bI ij)) gN H := hW
            refine lv_iload (pc := 110) hx hb dX8_length_110 (lv_at hl 1 rfl) ?_
            exact z_wiret cx hr hlk dX8_length_112 hS ⟨_, _, (sI (by first | (simp only [lengthP]; simp [c_1, hN, c_2]; done) | (rw [← lnS_stop (k := 999 - i) (by assumption) (by assumption), show i + (999 - i) = 999 by omega]; simp only [lengthP]; simp [c_1, hN, c_2]; done))), hW⟩
          · skip
            have hle := ngt (a := 999) (b := i + 1) rfl rfl (by omega) (by omega) c_3
            refine lv_iload (pc := 42) hx hb dX8_length_42 (lv_at hl 1 rfl) ?_
            refine lv_if_lt (pc := 44) (tgt := 52) hx hb dX8_length_44 (by decide) (fun c_4 => ?_) (fun c_4 => ?_)
            · skip
              refine lv_aload_n (pc := 52) hx hb dX8_length_52 rfl (lv_at hl 3 rfl) ?_
              refine z_getM (pc := 53) cx (hW.at 0 rfl) 0 rfl m_fl_X8_9 rfl dX8_length_53 ?_
              refine lv_bipush (pc := 56) (v := 68) hx hb dX8_length_56 (by decide) ?_
              refine lv_iconst (pc := 58) (v := 5) hx hb dX8_length_58 (by decide) ?_
              refine lv_iload_n (pc := 59) hx hb dX8_length_59 rfl (lv_at hl 4 rfl) ?_
              refine lv_imul (pc := 60) hx hb dX8_length_60 ?_
              refine lv_iadd (pc := 61) hx hb dX8_length_61 ?_
              refine lv_iconst (pc := 62) (v := 2) hx hb dX8_length_62 (by decide) ?_
              refine lv_iadd (pc := 63) hx hb dX8_length_63 ?_
              refine lv_iload (pc := 64) hx hb dX8_length_64 (lv_at hl 0 rfl) ?_
              refine z_iast (pc := 66) (f := gapS sv n g) (j := 68 + 5 * n + 2) cx hW hS 1 rfl (mF_in a 1) (ix_52 n) (by omega) (by decide) dX8_length_66 (fun H locs hW hS => ?_)
              have hW : WW E (wM a (E.2.1 0) (upd (gapS sv n g) (68 + 5 * n + 2) (nI (i + 1))) im rd wa2 kp so sz el pr ts nu bu2 ht (bI ig) th po ba en td (bI ij)) gN H := hW
              rw [gapS_s sv n g (i + 1)] at hW
              have hW : WW E (wM a (E.2.1 0) (gapS sv n (i + 1)) im rd wa2 kp so sz el pr ts nu bu2 ht (bI ig) th po ba en td (bI ij)) gN H := hW
              have hI2 := Inv_gap hI hn (g := i + 1) (by omega) (by omega)
              refine lv_aload_n (pc := 67) hx hb dX8_length_67 rfl (lv_at hl 3 rfl) ?_
              refine k_X8_findBuzzed (pc := 68)  cx hW hS (fun _ h => h) hI2 m_ml_X8_214 ⟨Nat.le_of_ble_eq_true rfl, Nat.le_of_ble_eq_true rfl⟩ hl.1 rfl (by simp [Value.category]) dX8_length_68 ⟨Nat.le_refl _, Nat.le_refl _⟩ (fun wa2 bu2 H locs hbz hW hS => ?_)
              have hW : WW E (wM a (E.2.1 0) (gapS sv n (i + 1)) im rd wa2 kp so sz el pr ts nu bu2 ht (bI ig) th po ba en td (bI ij)) gN H := hW
              refine lv_aload_n (pc := 71) hx hb dX8_length_71 rfl (lv_at hl 3 rfl) ?_
              refine lv_iconst (pc := 72) (v := 1) hx hb dX8_length_72 (by decide) ?_
              refine lv_iload_n (pc := 73) hx hb dX8_length_73 rfl (lv_at hl 4 rfl) ?_
              refine lv_ishl (pc := 74) hx hb dX8_length_74 ?_
              refine k_X8_fitsSet2 (pc := 75) (set := 1 <<< ((nI n) &&& 31)) cx hW hI2 hbz m_ml_X8_217 ⟨Nat.le_of_ble_eq_true rfl, Nat.le_of_ble_eq_true rfl⟩ hl.1 rfl (by simp [Value.category]) dX8_length_75 ⟨Nat.le_refl _, Nat.le_refl _⟩ ?_
              refine z_ifeq (pc := 78) (tgt := 86) hx hb dX8_length_78 (by decide) (fun c_5 => ?_) (fun c_5 => ?_)
              · skip
                refine lv_iload (pc := 86) hx hb dX8_length_86 (lv_at hl 1 rfl) ?_
                refine lv_istore (pc := 88) (lv' := [(4, .int (lnS sv n w i)), (5, .int (nI (i + 1))), (3, .int (g5 sv n 2)), (0, .ref (a 0)), (1, .int (nI n)), (2, .int w)]) hx hb dX8_length_88 hl (by decide) rfl (fun ls hl => ?_)
                refine lv_iinc (pc := 90) (v := nI ((i + 1) + 1)) (lv' := [(5, .int (nI ((i + 1) + 1))), (4, .int (lnS sv n w i)), (3, .int (g5 sv n 2)), (0, .ref (a 0)), (1, .int (nI n)), (2, .int w)]) hx hb dX8_length_90 hl (k := 1) rfl (nI_1 _) (by decide) rfl (fun ls hl => ?_)
                refine lv_goto (pc := 93) (tgt := 34) hx hb dX8_length_93 (by decide) ?_
                exact ih_34 (i + 1) (nI ((i + 1) + 1)) (lnS sv n w i) (by omega) (by omega) (by first | rfl | (simp [c_1, hN, c_2, c_4, c_5, i_nle.mpr c_4]; done)) (by simp only [lnS, lnT]; simp [c_1, hN, c_2, c_4, c_5, i_nle.mpr c_4]) (i + 1) _ _ _ _  (hW) hS ls (lv_sub hl [0, 1, 2, 3, 4, 5] rfl)
              · skip
                refine lv_iload (pc := 81) hx hb dX8_length_81 (lv_at hl 0 rfl) ?_
                refine lv_goto (pc := 83) (tgt := 88) hx hb dX8_length_83 (by decide) ?_
                refine lv_istore (pc := 88) (lv' := [(4, .int (nI (i + 1))), (5, .int (nI (i + 1))), (3, .int (g5 sv n 2)), (0, .ref (a 0)), (1, .int (nI n)), (2, .int w)]) hx hb dX8_length_88 hl (by decide) rfl (fun ls hl => ?_)
                refine lv_iinc (pc := 90) (v := nI ((i + 1) + 1)) (lv' := [(5, .int (nI ((i + 1) + 1))), (4, .int (nI (i + 1))), (3, .int (g5 sv n 2)), (0, .ref (a 0)), (1, .int (nI n)), (2, .int w)]) hx hb dX8_length_90 hl (k := 1) rfl (nI_1 _) (by decide) rfl (fun ls hl => ?_)
                refine lv_goto (pc := 93) (tgt := 34) hx hb dX8_length_93 (by decide) ?_
                exact ih_34 (i + 1) (nI ((i + 1) + 1)) (nI (i + 1)) (by omega) (by omega) (by first | rfl | (simp [c_1, hN, c_2, c_4, c_5, i_nle.mpr c_4]; done)) (by simp only [lnS, lnT]; simp [c_1, hN, c_2, c_4, c_5, i_nle.mpr c_4]) (i + 1) _ _ _ _  (hW) hS ls (lv_sub hl [0, 1, 2, 3, 4, 5] rfl)
            · skip
              refine lv_iload_n (pc := 47) hx hb dX8_length_47 rfl (lv_at hl 5 rfl) ?_
              refine lv_iconst (pc := 48) (v := 1) hx hb dX8_length_48 (by decide) ?_
              refine lv_icmp_ne (pc := 49) (tgt := 96) hx hb dX8_length_49 (by decide) (fun c_6 => ?_) (fun c_6 => ?_)
              · skip
                refine lv_aload_n (pc := 96) hx hb dX8_length_96 rfl (lv_at hl 3 rfl) ?_
                refine z_getM (pc := 97) cx (hW.at 0 rfl) 0 rfl m_fl_X8_9 rfl dX8_length_97 ?_
                refine lv_bipush (pc := 100) (v := 68) hx hb dX8_length_100 (by decide) ?_
                refine lv_iconst (pc := 102) (v := 5) hx hb dX8_length_102 (by decide) ?_
                refine lv_iload_n (pc := 103) hx hb dX8_length_103 rfl (lv_at hl 4 rfl) ?_
                refine lv_imul (pc := 104) hx hb dX8_length_104 ?_
                refine lv_iadd (pc := 105) hx hb dX8_length_105 ?_
                refine lv_iconst (pc := 106) (v := 2) hx hb dX8_length_106 (by decide) ?_
                refine lv_iadd (pc := 107) hx hb dX8_length_107 ?_
                refine lv_iload_n (pc := 108) hx hb dX8_length_108 rfl (lv_at hl 2 rfl) ?_
                refine z_iast (pc := 109) (f := gapS sv n g) (j := 68 + 5 * n + 2) cx hW hS 1 rfl (mF_in a 1) (ix_52 n) (by omega) (by decide) dX8_length_109 (fun H locs hW hS => ?_)
                have hW : WW E (wM a (E.2.1 0) (upd (gapS sv n g) (68 + 5 * n + 2) (g5 sv n 2)) im rd wa2 kp so sz el pr ts nu bu2 ht (bI ig) th po ba en td (bI ij)) gN H := hW
                rw [gapS_b sv n g] at hW
                have hW : WW E (wM a (E.2.1 0) sv im rd wa2 kp so sz el pr ts nu bu2 ht (bI ig) th po ba en td (bI ij)) gN H := hW
                refine lv_iload (pc := 110) hx hb dX8_length_110 (lv_at hl 1 rfl) ?_
                exact z_wiret cx hr hlk dX8_length_112 hS ⟨_, _, (sI (by first | (simp only [lengthP]; simp [c_1, hN, c_2, c_4, c_6, i_nlt.mp c_4]; done) | (rw [← lnS_stop (k := 999 - i) (by assumption) (by assumption), show i + (999 - i) = 999 by omega]; simp only [lengthP]; simp [c_1, hN, c_2, c_4, c_6, i_nlt.mp c_4]; done))), hW⟩
              · skip
                refine lv_aload_n (pc := 52) hx hb dX8_length_52 rfl (lv_at hl 3 rfl) ?_
                refine z_getM (pc := 53) cx (hW.at 0 rfl) 0 rfl m_fl_X8_9 rfl dX8_length_53 ?_
                refine lv_bipush (pc := 56) (v := 68) hx hb dX8_length_56 (by decide) ?_
                refine lv_iconst (pc := 58) (v := 5) hx hb dX8_length_58 (by decide) ?_
                refine lv_iload_n (pc := 59) hx hb dX8_length_59 rfl (lv_at hl 4 rfl) ?_
                refine lv_imul (pc := 60) hx hb dX8_length_60 ?_
                refine lv_iadd (pc := 61) hx hb dX8_length_61 ?_
                refine lv_iconst (pc := 62) (v := 2) hx hb dX8_length_62 (by decide) ?_
                refine lv_iadd (pc := 63) hx hb dX8_length_63 ?_
                refine lv_iload (pc := 64) hx hb dX8_length_64 (lv_at hl 0 rfl) ?_
                refine z_iast (pc := 66) (f := gapS sv n g) (j := 68 + 5 * n + 2) cx hW hS 1 rfl (mF_in a 1) (ix_52 n) (by omega) (by decide) dX8_length_66 (fun H locs hW hS => ?_)
                have hW : WW E (wM a (E.2.1 0) (upd (gapS sv n g) (68 + 5 * n + 2) (nI (i + 1))) im rd wa2 kp so sz el pr ts nu bu2 ht (bI ig) th po ba en td (bI ij)) gN H := hW
                rw [gapS_s sv n g (i + 1)] at hW
                have hW : WW E (wM a (E.2.1 0) (gapS sv n (i + 1)) im rd wa2 kp so sz el pr ts nu bu2 ht (bI ig) th po ba en td (bI ij)) gN H := hW
                have hI2 := Inv_gap hI hn (g := i + 1) (by omega) (by omega)
                refine lv_aload_n (pc := 67) hx hb dX8_length_67 rfl (lv_at hl 3 rfl) ?_
                refine k_X8_findBuzzed (pc := 68)  cx hW hS (fun _ h => h) hI2 m_ml_X8_214 ⟨Nat.le_of_ble_eq_true rfl, Nat.le_of_ble_eq_true rfl⟩ hl.1 rfl (by simp [Value.category]) dX8_length_68 ⟨Nat.le_refl _, Nat.le_refl _⟩ (fun wa2 bu2 H locs hbz hW hS => ?_)
                have hW : WW E (wM a (E.2.1 0) (gapS sv n (i + 1)) im rd wa2 kp so sz el pr ts nu bu2 ht (bI ig) th po ba en td (bI ij)) gN H := hW
                refine lv_aload_n (pc := 71) hx hb dX8_length_71 rfl (lv_at hl 3 rfl) ?_
                refine lv_iconst (pc := 72) (v := 1) hx hb dX8_length_72 (by decide) ?_
                refine lv_iload_n (pc := 73) hx hb dX8_length_73 rfl (lv_at hl 4 rfl) ?_
                refine lv_ishl (pc := 74) hx hb dX8_length_74 ?_
                refine k_X8_fitsSet2 (pc := 75) (set := 1 <<< ((nI n) &&& 31)) cx hW hI2 hbz m_ml_X8_217 ⟨Nat.le_of_ble_eq_true rfl, Nat.le_of_ble_eq_true rfl⟩ hl.1 rfl (by simp [Value.category]) dX8_length_75 ⟨Nat.le_refl _, Nat.le_refl _⟩ ?_
                refine z_ifeq (pc := 78) (tgt := 86) hx hb dX8_length_78 (by decide) (fun c_7 => ?_) (fun c_7 => ?_)
                · skip
                  refine lv_iload (pc := 86) hx hb dX8_length_86 (lv_at hl 1 rfl) ?_
                  refine lv_istore (pc := 88) (lv' := [(4, .int (lnS sv n w i)), (5, .int (nI (i + 1))), (3, .int (g5 sv n 2)), (0, .ref (a 0)), (1, .int (nI n)), (2, .int w)]) hx hb dX8_length_88 hl (by decide) rfl (fun ls hl => ?_)
                  refine lv_iinc (pc := 90) (v := nI ((i + 1) + 1)) (lv' := [(5, .int (nI ((i + 1) + 1))), (4, .int (lnS sv n w i)), (3, .int (g5 sv n 2)), (0, .ref (a 0)), (1, .int (nI n)), (2, .int w)]) hx hb dX8_length_90 hl (k := 1) rfl (nI_1 _) (by decide) rfl (fun ls hl => ?_)
                  refine lv_goto (pc := 93) (tgt := 34) hx hb dX8_length_93 (by decide) ?_
                  exact ih_34 (i + 1) (nI ((i + 1) + 1)) (lnS sv n w i) (by omega) (by omega) (by first | rfl | (simp [c_1, hN, c_2, c_4, c_6, c_7, i_nlt.mp c_4]; done)) (by simp only [lnS, lnT]; simp [c_1, hN, c_2, c_4, c_6, c_7, i_nlt.mp c_4]) (i + 1) _ _ _ _  (hW) hS ls (lv_sub hl [0, 1, 2, 3, 4, 5] rfl)
                · skip
                  refine lv_iload (pc := 81) hx hb dX8_length_81 (lv_at hl 0 rfl) ?_
                  refine lv_goto (pc := 83) (tgt := 88) hx hb dX8_length_83 (by decide) ?_
                  refine lv_istore (pc := 88) (lv' := [(4, .int (nI (i + 1))), (5, .int (nI (i + 1))), (3, .int (g5 sv n 2)), (0, .ref (a 0)), (1, .int (nI n)), (2, .int w)]) hx hb dX8_length_88 hl (by decide) rfl (fun ls hl => ?_)
                  refine lv_iinc (pc := 90) (v := nI ((i + 1) + 1)) (lv' := [(5, .int (nI ((i + 1) + 1))), (4, .int (nI (i + 1))), (3, .int (g5 sv n 2)), (0, .ref (a 0)), (1, .int (nI n)), (2, .int w)]) hx hb dX8_length_90 hl (k := 1) rfl (nI_1 _) (by decide) rfl (fun ls hl => ?_)
                  refine lv_goto (pc := 93) (tgt := 34) hx hb dX8_length_93 (by decide) ?_
                  exact ih_34 (i + 1) (nI ((i + 1) + 1)) (nI (i + 1)) (by omega) (by omega) (by first | rfl | (simp [c_1, hN, c_2, c_4, c_6, c_7, i_nlt.mp c_4]; done)) (by simp only [lnS, lnT]; simp [c_1, hN, c_2, c_4, c_6, c_7, i_nlt.mp c_4]) (i + 1) _ _ _ _  (hW) hS ls (lv_sub hl [0, 1, 2, 3, 4, 5] rfl)
      exact loop_34 ((999 - 0) + 1) 0 1 (-4) (Nat.lt_succ_self _) (by omega) (by first | rfl | (simp [c_1, hN, c_2]; done)) (by first | rfl | (simp [c_1, hN, c_2]; done)) (iN (g5 sv n 2)) wa bu _ _  (by rw [gapS_id (hI.2.2.2.1 n hn).2.2.1]; exact hW) hS ls (lv_sub hl [0, 1, 2, 3, 4, 5] rfl)
    · skip
      refine lv_iconst (pc := 18) (v := (-1)) hx hb dX8_length_18 (by decide) ?_
      exact z_wiret cx hr hlk dX8_length_19 hS ⟨_, _, (sI (by simp [lengthP, c_1, hN, c_2])), hW⟩
theorem k_X8_length {p : Program} {l : Launch} {e : Env} {R : Room} {s : State} {m : MethodId} {args : Array Value} {below : List Frame} {meth : Method} {c : Code} {H H0 : Heap} {locs : List Loc} {cells slots : Nat} {Q : State → Prop} {cc : ByteArray} {pc index : Nat} {ls : Array Slot} {rest st0 : List Value} {E : zE} {own : String} {nL : Nat} {F : Nat → Prop} {a : Nat → Nat} {sv im rd wa kp so sz el pr ts nu bu ht : Nat → Int32} {th po ba en td : Int32} {ig : Bool} {ij : Bool} {x w : Int32} (cx : Cx E p s args m c own cc nL) (hW : WW E (wM a (E.2.1 0) sv im rd wa kp so sz el pr ts nu bu ht (bI ig) th po ba en td (bI ij)) gN H) (hS : va_S F H0 H locs) (zF : ∀ q, (mF a) q → F q) (hI : Inv sv) (zl : Cond.methodLink own index yX8_length ∈ AllW) (zR : 20 + 1 ≤ R.frames ∧ 8 + (6 + 11) + 569 ≤ R.locals) (zs : ls.size = nL) (zt : st0 = ([.int x, .int w] : List Value).reverse ++ .ref (a 0) :: rest) (z8 : (rest.map fun v => v.category).sum ≤ 8) (zd : decode cc pc = .ok (.invokevirtual index, 3)) (zf : cells ≤ R.cells ∧ slots ≤ R.slots) (kk0 : ∀ (wa2 : Nat → Int32) (bu2 : Nat → Int32) (H1 : Heap) (locs1 : List Loc), WW E (wM a (E.2.1 0) sv im rd wa2 kp so sz el pr ts nu bu2 ht (bI ig) th po ba en td (bI ij)) gN H1 → va_S F H0 H1 locs1 → W p l e R s m args below meth c H1 locs1 cells slots Q (F0 m (pc + 3) ls (.int (lengthP sv x w) :: rest))) : W p l e R s m args below meth c H locs cells slots Q (F0 m pc ls st0) := by
  refine z_callVw cx vm_X8_length (c_X8_length l E a sv im rd wa kp so sz el pr ts nu bu ht th po ba en td ig ij x w hI) (z_rec cx.2 (hW.at 0 rfl) rfl) hW hS zF zl ⟨rfl, rfl⟩ zR rfl zs zt z8 zd zf (fun v H1 locs1 hq hS1 _ => ?_)
  rcases hq with ⟨wa2, bu2, rfl, hW1⟩
  · exact kk0 wa2 bu2 H1 locs1  hW1 hS1
theorem vm_X8_odds : zVm yX8_odds cX8_odds 9 (some FieldType.int) 3 := ⟨m_co_X8_odds, m_in_RX8, ⟨m_im_X8_odds, m_se_X8_X8_odds⟩, by decide +kernel, by decide +kernel, by decide +kernel⟩
set_option maxHeartbeats 1000000 in
set_option maxRecDepth 100000 in
theorem c_X8_odds (l : Launch) (E : zE) (a : Nat → Nat) (sv im rd wa kp so sz el pr ts nu bu ht : Nat → Int32) (th po ba en td : Int32) (ig : Bool) (ij : Bool) (x : Int32) (two : Bool) (part : Int32) (hI : Inv sv) : Met l yX8_odds (.code yX8_odds cX8_odds 9 (some FieldType.int) :: AllW) (rm0' 42 1251) (zP E (fun H => WW E (wM a (E.2.1 0) sv im rd wa kp so sz el pr ts nu bu ht (bI ig) th po ba en td (bI ij)) gN H) [.ref (a 0), .int x, .int (bI two), .int part]) (zQ (fun (_ : Heap) (v : Option Value) (H1 : Heap) => (∃ (wa2 : Nat → Int32) (bu2 : Nat → Int32), v = some (.int (oddsP sv x two part)) ∧ WW E (wM a (E.2.1 0) sv im rd wa2 kp so sz el pr ts nu bu2 ht (bI ig) th po ba en td (bI ij)) gN H1)) (mF a)) 0 0 (mF a) := by
  refine z_body (own := RX8) (by decide) rfl rfl ?_
  intro p e s m args below meth c ls cx hr hlk hnm hW hl
  have hx := cx.x
  have hb := cx.b
  have hl : lv_has ls 9 [(0, .ref (a 0)), (1, .int x), (2, .int (bI two)), (3, .int part)] := hl
  have hS : va_S (mF a) s.heap s.heap [] := va_S.rf
  have hC := hI.1
  have hP10 := (Inv.n0 hC).2
  have hT7 := (Inv.n1 hC).2
  have hA24 := (Inv.n2 hC).2
  refine lv_aload_n (pc := 0) hx hb dX8_odds_0 rfl (lv_at hl 0 rfl) ?_
  refine lv_iload_n (pc := 1) hx hb dX8_odds_1 rfl (lv_at hl 1 rfl) ?_
  refine k_X8_isThing (pc := 2) (x := x) cx hW  m_ml_X8_143 ⟨Nat.le_of_ble_eq_true rfl, Nat.le_of_ble_eq_true rfl⟩ hl.1 rfl (by simp [Value.category]) dX8_odds_2 ⟨Nat.le_refl _, Nat.le_refl _⟩ ?_
  refine z_ifeq (pc := 5) (tgt := 18) hx hb dX8_odds_5 (by decide) (fun c_1 => ?_) (fun c_1 => ?_)
  · skip
    refine lv_iconst (pc := 18) (v := (-1)) hx hb dX8_odds_18 (by decide) ?_
    exact z_wiret cx hr hlk dX8_odds_19 hS ⟨_, _, (sI (by first | rfl | (simp [oddsP, c_1]; done))), hW⟩
  · skip
    obtain ⟨n, hn, rfl⟩ := th_nat hC c_1
    have hN := iN_nI (n := n) (by omega)
    refine lv_iload_n (pc := 8) hx hb dX8_odds_8 rfl (lv_at hl 3 rfl) ?_
    refine lv_i2l (pc := 9) (v := Int32.toInt64 part) hx hb dX8_odds_9 rfl ?_
    refine lv_lconst (pc := 10) (v := 0) hx hb dX8_odds_10 rfl ?_
    refine lv_lconst (pc := 11) (v := 1) hx hb dX8_odds_11 rfl ?_
    refine k_X8_isIn (pc := 12) (x := part) (y := 0) (z := 1) cx  m_ml_X8_53 ⟨Nat.le_of_ble_eq_true rfl, Nat.le_of_ble_eq_true rfl⟩ hl.1 rfl (by simp [Value.category]) dX8_odds_12 ⟨Nat.le_refl _, Nat.le_refl _⟩ ?_
    refine z_ifne (pc := 15) (tgt := 20) hx hb dX8_odds_15 (by decide) (fun c_2 => ?_) (fun c_2 => ?_)
    · skip
      refine lv_aload_n (pc := 20) hx hb dX8_odds_20 rfl (lv_at hl 0 rfl) ?_
      refine k_X8_findBuzzed (pc := 21)  cx hW hS (fun _ h => h) (by first | assumption | omega) m_ml_X8_214 ⟨Nat.le_of_ble_eq_true rfl, Nat.le_of_ble_eq_true rfl⟩ hl.1 rfl (by simp [Value.category]) dX8_odds_21 ⟨Nat.le_refl _, Nat.le_refl _⟩ (fun wa2 bu2 H locs hbz hW hS => ?_)
      have hW : WW E (wM a (E.2.1 0) sv im rd wa2 kp so sz el pr ts nu bu2 ht (bI ig) th po ba en td (bI ij)) gN H := hW
      refine lv_iconst (pc := 24) (v := 0) hx hb dX8_odds_24 (by decide) ?_
      refine lv_istore (pc := 25) (lv' := [(4, .int 0), (0, .ref (a 0)), (1, .int (nI n)), (2, .int (bI two)), (3, .int part)]) hx hb dX8_odds_25 hl (by decide) rfl (fun ls hl => ?_)
      refine lv_iconst (pc := 27) (v := 0) hx hb dX8_odds_27 (by decide) ?_
      refine lv_istore (pc := 28) (lv' := [(5, .int 0), (4, .int 0), (0, .ref (a 0)), (1, .int (nI n)), (2, .int (bI two)), (3, .int part)]) hx hb dX8_odds_28 hl (by decide) rfl (fun ls hl => ?_)
      refine lv_iconst (pc := 30) (v := 0) hx hb dX8_odds_30 (by decide) ?_
      refine lv_istore (pc := 31) (lv' := [(6, .int 0), (5, .int 0), (4, .int 0), (0, .ref (a 0)), (1, .int (nI n)), (2, .int (bI two)), (3, .int part)]) hx hb dX8_odds_31 hl (by decide) rfl (fun ls hl => ?_)
      have loop_33 : ∀ (k_33 : Nat) (i : Nat) (x6 : Int32) (x5 : Int32) (x4 : Int32), (nT sv - i) < k_33 → (i ≤ nT sv) → x6 = nI i → x5 = odS (odC sv two) (nT sv) i → x4 = odS (odO sv two n) (nT sv) i → ∀ (H : Heap) (locs : List Loc), WW E (wM a (E.2.1 0) sv im rd wa2 kp so sz el pr ts nu bu2 ht (bI ig) th po ba en td (bI ij)) gN H → va_S (mF a) s.heap H locs → ∀ (ls : Array Slot), lv_has ls 9 [(6, .int x6), (5, .int x5), (4, .int x4), (0, .ref (a 0)), (1, .int (nI n)), (2, .int (bI two)), (3, .int part)] → W p l e (rm0' (42) (1251)) s m args below meth c H locs 0 0 (MQ below (zQ (fun (_ : Heap) (v : Option Value) (H1 : Heap) => (∃ (wa2 : Nat → Int32) (bu2 : Nat → Int32), v = some (.int (oddsP sv (nI n) two part)) ∧ WW E (wM a (E.2.1 0) sv im rd wa2 kp so sz el pr ts nu bu2 ht (bI ig) th po ba en td (bI ij)) gN H1)) (mF a)) args s 0 0 (mF a)) (F0 m 33 ls []) := by
        intro k_33
        induction k_33 with
        | zero =>
          intro i x6 x5 x4 hm
          exact absurd hm (Nat.not_lt_zero _)
        | succ k_33 ih_33 =>
          intro i x6 x5 x4 hm_33 hi e_x6 e_x5 e_x4  H locs  hW hS ls hl
          subst e_x6
          subst e_x5
          subst e_x4
          refine lv_iload (pc := 33) hx hb dX8_odds_33 (lv_at hl 0 rfl) ?_
          refine lv_aload_n (pc := 35) hx hb dX8_odds_35 rfl (lv_at hl 3 rfl) ?_
          refine z_getM (pc := 36) cx (hW.at 0 rfl) 0 rfl m_fl_X8_9 rfl dX8_odds_36 ?_
          refine lv_iconst (pc := 39) (v := 1) hx hb dX8_odds_39 (by decide) ?_
          refine z_iald (pc := 40) (f := sv) (j := 1) cx (hW.at 1 rfl) rfl (by decide) (by decide) dX8_odds_40 ?_
          refine lv_icmp_ge (pc := 41) (tgt := 167) hx hb dX8_odds_41 (by decide) (fun c_3 => ?_) (fun c_3 => ?_)
          · skip
            obtain rfl : i = nT sv := by have := ge_nat (a := i) rfl (Inv.n1 hC).1 (by omega) (by omega) c_3; omega
            refine lv_iload (pc := 167) hx hb dX8_odds_167 (lv_at hl 1 rfl) ?_
            refine lv_if_ne (pc := 169) (tgt := 175) hx hb dX8_odds_169 (by decide) (fun c_4 => ?_) (fun c_4 => ?_)
            · skip
              have hAr := rg_iN (odS_rg hT7 (fun _ _ => odC_rg hI.2.2.2.1 (two := two))) (by decide) (by decide)
              have hOr := rg_iN (odS_rg hT7 (fun _ _ => odO_rg hI.2.2.2.1 (two := two) (n := n))) (by decide) (by decide)
              obtain ⟨A, hA, hA2⟩ : ∃ A, odS (odC sv two) (nT sv) (nT sv) = nI A ∧ A < 1048576 := ⟨_, hAr.1, by have := hAr.2.1; omega⟩
              obtain ⟨O, hO, hO2⟩ : ∃ O, odS (odO sv two n) (nT sv) (nT sv) = nI O ∧ O < 1048576 := ⟨_, hOr.1, by have := hOr.2.1; omega⟩
              rw [hA] at hl c_4
              rw [hO] at hl
              have hgz := g_nz (b := O) c_4 (by omega)
              have hA3 := iN_nI (n := A) (by omega)
              have hO3 := iN_nI (n := O) (by omega)
              refine lv_iload (pc := 175) hx hb dX8_odds_175 (lv_at hl 1 rfl) ?_
              refine lv_iload (pc := 177) hx hb dX8_odds_177 (lv_at hl 2 rfl) ?_
              refine k_X8_common (pc := 179) (u := A) (v := O) cx (by omega) (by omega) (stepsLe_pow 20 _ _ (by omega)) m_ml_X8_223 ⟨Nat.le_of_ble_eq_true rfl, Nat.le_of_ble_eq_true rfl⟩ hl.1 rfl (by simp [Value.category]) dX8_odds_179 ⟨Nat.le_refl _, Nat.le_refl _⟩ ?_
              refine lv_istore (pc := 182) (lv' := [(6, .int (nI (Nat.gcd A O))), (5, .int (nI A)), (4, .int (nI O)), (0, .ref (a 0)), (1, .int (nI n)), (2, .int (bI two)), (3, .int part)]) hx hb dX8_odds_182 hl (by decide) rfl (fun ls hl => ?_)
              refine lv_iload_n (pc := 184) hx hb dX8_odds_184 rfl (lv_at hl 6 rfl) ?_
              refine lv_if_ne (pc := 185) (tgt := 196) hx hb dX8_odds_185 (by decide) (fun c_5 => ?_) (fun c_5 => ?_)
              · skip
                refine lv_iload (pc := 196) hx hb dX8_odds_196 (lv_at hl 1 rfl) ?_
                refine lv_iload (pc := 198) hx hb dX8_odds_198 (lv_at hl 0 rfl) ?_
                refine lv_idiv (pc := 200) hx hb dX8_odds_200 hgz ?_
                exact z_wiret cx hr hlk dX8_odds_201 hS ⟨_, _, (sI (by first | rfl | (simp [oddsP, c_1, hN, c_2, c_4, hA, hO, hA3, hO3, c_5]; done))), hW⟩
              · skip
                have h01 : inL 0 0 1 = true := by decide
                refine lv_iload (pc := 188) hx hb dX8_odds_188 (lv_at hl 2 rfl) ?_
                refine lv_iload (pc := 190) hx hb dX8_odds_190 (lv_at hl 0 rfl) ?_
                refine lv_idiv (pc := 192) hx hb dX8_odds_192 hgz ?_
                refine lv_goto (pc := 193) (tgt := 201) hx hb dX8_odds_193 (by decide) ?_
                exact z_wiret cx hr hlk dX8_odds_201 hS ⟨_, _, (sI (by first | rfl | (simp [oddsP, c_1, hN, c_2, c_4, hA, hO, hA3, hO3, c_5, h01]; done))), hW⟩
            · skip
              refine lv_bipush (pc := 172) (v := (-4)) hx hb dX8_odds_172 (by decide) ?_
              exact z_wiret cx hr hlk dX8_odds_174 hS ⟨_, _, (sI (by first | rfl | (simp [oddsP, c_1, hN, c_2, c_4]; done))), hW⟩
          · skip
            have hlt_i := lt_nat (a := i) rfl (Inv.n1 hC).1 (by omega) (by omega) c_3
            refine lv_iload (pc := 44) hx hb dX8_odds_44 (lv_at hl 0 rfl) ?_
            refine lv_istore (pc := 46) (lv' := [(7, .int (nI i)), (6, .int (nI i)), (5, .int (odS (odC sv two) (nT sv) i)), (4, .int (odS (odO sv two n) (nT sv) i)), (0, .ref (a 0)), (1, .int (nI n)), (2, .int (bI two)), (3, .int part)]) hx hb dX8_odds_46 hl (by decide) rfl (fun ls hl => ?_)
            have loop_48 : ∀ (k_48 : Nat) (k : Nat) (x7 : Int32) (x5 : Int32) (x4 : Int32), (nT sv - i - k) < k_48 → (k ≤ nT sv - i) → x7 = nI (i + k) → x5 = odS (odC sv two) (nT sv) i + odI (odC sv two) i k → x4 = odS (odO sv two n) (nT sv) i + odI (odO sv two n) i k → ∀ (H : Heap) (locs : List Loc), WW E (wM a (E.2.1 0) sv im rd wa2 kp so sz el pr ts nu bu2 ht (bI ig) th po ba en td (bI ij)) gN H → va_S (mF a) s.heap H locs → ∀ (ls : Array Slot), lv_has ls 9 [(7, .int x7), (6, .int (nI i)), (5, .int x5), (4, .int x4), (0, .ref (a 0)), (1, .int (nI n)), (2, .int (bI two)), (3, .int part)] → W p l e (rm0' (42) (1251)) s m args below meth c H locs 0 0 (MQ below (zQ (fun (_ : Heap) (v : Option Value) (H1 : Heap) => (∃ (wa2 : Nat → Int32) (bu2 : Nat → Int32), v = some (.int (oddsP sv (nI n) two part)) ∧ WW E (wM a (E.2.1 0) sv im rd wa2 kp so sz el pr ts nu bu2 ht (bI ig) th po ba en td (bI ij)) gN H1)) (mF a)) args s 0 0 (mF a)) (F0 m 48 ls []) := by
              intro k_48
              induction k_48 with
              | zero =>
                intro k x7 x5 x4 hm
                exact absurd hm (Nat.not_lt_zero _)
              | succ k_48 ih_48 =>
                intro k x7 x5 x4 hm_48 hk e_x7 e_x5 e_x4  H locs  hW hS ls hl
                subst e_x7
                subst e_x5
                subst e_x4
                refine lv_iload (pc := 48) hx hb dX8_odds_48 (lv_at hl 0 rfl) ?_
                refine lv_aload_n (pc := 50) hx hb dX8_odds_50 rfl (lv_at hl 4 rfl) ?_
                refine z_getM (pc := 51) cx (hW.at 0 rfl) 0 rfl m_fl_X8_9 rfl dX8_odds_51 ?_
                refine lv_iconst (pc := 54) (v := 1) hx hb dX8_odds_54 (by decide) ?_
                refine z_iald (pc := 55) (f := sv) (j := 1) cx (hW.at 1 rfl) rfl (by decide) (by decide) dX8_odds_55 ?_
                refine lv_icmp_ge (pc := 56) (tgt := 161) hx hb dX8_odds_56 (by decide) (fun c_6 => ?_) (fun c_6 => ?_)
                · skip
                  obtain rfl : k = nT sv - i := by have := ge_nat (a := i + k) rfl (Inv.n1 hC).1 (by omega) (by omega) c_6; omega
                  refine lv_iinc (pc := 161) (v := nI (i + 1)) (lv' := [(6, .int (nI (i + 1))), (7, .int (nI (i + (nT sv - i)))), (5, .int (odS (odC sv two) (nT sv) i + odI (odC sv two) i (nT sv - i))), (4, .int (odS (odO sv two n) (nT sv) i + odI (odO sv two n) i (nT sv - i))), (0, .ref (a 0)), (1, .int (nI n)), (2, .int (bI two)), (3, .int part)]) hx hb dX8_odds_161 hl (k := 1) rfl (nI_1 _) (by decide) rfl (fun ls hl => ?_)
                  refine lv_goto (pc := 164) (tgt := 33) hx hb dX8_odds_164 (by decide) ?_
                  exact ih_33 (i + 1) (nI (i + 1)) (odS (odC sv two) (nT sv) i + odI (odC sv two) i (nT sv - i)) (odS (odO sv two n) (nT sv) i + odI (odO sv two n) i (nT sv - i)) (by omega) (by omega) (by first | rfl | (simp [oddsP, c_1, hN, c_2]; done)) (by first | rfl | (simp [oddsP, c_1, hN, c_2]; done)) (by first | rfl | (simp [oddsP, c_1, hN, c_2]; done))  _ _  (hW) hS ls (lv_sub hl [0, 2, 3, 4, 5, 6, 7] rfl)
                · skip
                  have hlt_k := lt_nat (a := i + k) rfl (Inv.n1 hC).1 (by omega) (by omega) c_6
                  refine lv_iload_n (pc := 59) hx hb dX8_odds_59 rfl (lv_at hl 6 rfl) ?_
                  refine lv_iload (pc := 60) hx hb dX8_odds_60 (lv_at hl 1 rfl) ?_
                  refine lv_iload (pc := 62) hx hb dX8_odds_62 (lv_at hl 0 rfl) ?_
                  refine lv_icmp_ne (pc := 64) (tgt := 71) hx hb dX8_odds_64 (by decide) (fun c_7 => ?_) (fun c_7 => ?_)
                  · skip
                    have hab0 : (k = 0) = False := eq_false (fun q => c_7 (by rw [q]; rfl))
                    refine lv_iconst (pc := 71) (v := 0) hx hb dX8_odds_71 (by decide) ?_
                    refine lv_icmp_eq (pc := 72) (tgt := 155) hx hb dX8_odds_72 (by decide) (fun c_8 => ?_) (fun c_8 => ?_)
                    · skip
                      have h2f : two = false := bI_eq0 c_8
                      refine lv_iinc (pc := 155) (v := nI ((i + k) + 1)) (lv' := [(7, .int (nI ((i + k) + 1))), (6, .int (nI i)), (5, .int (odS (odC sv two) (nT sv) i + odI (odC sv two) i k)), (4, .int (odS (odO sv two n) (nT sv) i + odI (odO sv two n) i k)), (0, .ref (a 0)), (1, .int (nI n)), (2, .int (bI two)), (3, .int part)]) hx hb dX8_odds_155 hl (k := 0) rfl (nI_1 _) (by decide) rfl (fun ls hl => ?_)
                      refine lv_goto (pc := 158) (tgt := 48) hx hb dX8_odds_158 (by decide) ?_
                      exact ih_48 (k + 1) (nI ((i + k) + 1)) (odS (odC sv two) (nT sv) i + odI (odC sv two) i k) (odS (odO sv two n) (nT sv) i + odI (odO sv two n) i k) (by omega) (by omega) (by first | rfl | (simp [oddsP, c_1, hN, c_2, hab0, h2f]; done)) (by first | exact od_skip _ (by simp [odO, odC, c_1, hN, c_2, hab0, h2f]) | exact od_step _ (by simp [odO, odC, c_1, hN, c_2, hab0, h2f])) (by first | exact od_skip _ (by simp [odO, odC, c_1, hN, c_2, hab0, h2f]) | exact od_step _ (by simp [odO, odC, c_1, hN, c_2, hab0, h2f]))  _ _  (hW) hS ls (lv_sub hl [0, 1, 2, 3, 4, 5, 6, 7] rfl)
                    · skip
                      have h2t : two = true := bI_ne0 c_8
                      refine lv_aload_n (pc := 75) hx hb dX8_odds_75 rfl (lv_at hl 4 rfl) ?_
                      refine lv_iconst (pc := 76) (v := 1) hx hb dX8_odds_76 (by decide) ?_
                      refine lv_iload (pc := 77) hx hb dX8_odds_77 (lv_at hl 1 rfl) ?_
                      refine lv_ishl (pc := 79) hx hb dX8_odds_79 ?_
                      refine lv_iconst (pc := 80) (v := 1) hx hb dX8_odds_80 (by decide) ?_
                      refine lv_iload (pc := 81) hx hb dX8_odds_81 (lv_at hl 0 rfl) ?_
                      refine lv_ishl (pc := 83) hx hb dX8_odds_83 ?_
                      refine lv_ior (pc := 84) hx hb dX8_odds_84 ?_
                      refine k_X8_fitsSet2 (pc := 85) (set := (1 <<< ((nI i) &&& 31)) ||| (1 <<< ((nI (i + k)) &&& 31))) cx hW hI hbz m_ml_X8_217 ⟨Nat.le_of_ble_eq_true rfl, Nat.le_of_ble_eq_true rfl⟩ hl.1 rfl (by simp [Value.category]) dX8_odds_85 ⟨Nat.le_refl _, Nat.le_refl _⟩ ?_
                      refine z_ifne (pc := 88) (tgt := 94) hx hb dX8_odds_88 (by decide) (fun c_9 => ?_) (fun c_9 => ?_)
                      · skip
                        refine lv_iload_n (pc := 94) hx hb dX8_odds_94 rfl (lv_at hl 6 rfl) ?_
                        refine z_ifeq (pc := 95) (tgt := 116) hx hb dX8_odds_95 (by decide) (fun c_10 => (by first | exact absurd c_10 h2t | exact absurd h2t c_10 | exact absurd c_10 (i_nlt.mpr h2t) | exact absurd h2t (i_nlt.mpr c_10) | exact absurd c_10 (i_nle.mpr h2t) | exact absurd h2t (i_nle.mpr c_10) | exact absurd (c_10.symm.trans h2t) (by decide) | exact absurd h2t (i_nle.mpr (i_nlt.mp c_10)) | exact absurd c_10 (i_nle.mpr (i_nlt.mp h2t)))) (fun _ => ?_)
                        refine lv_aload_n (pc := 98) hx hb dX8_odds_98 rfl (lv_at hl 4 rfl) ?_
                        refine lv_iload (pc := 99) hx hb dX8_odds_99 (lv_at hl 1 rfl) ?_
                        refine lv_iconst (pc := 101) (v := 4) hx hb dX8_odds_101 (by decide) ?_
                        refine k_X8_of (pc := 102) (n := i) (k := 4) cx hW (by first | assumption | omega) (by first | assumption | omega) m_ml_X8_140 ⟨Nat.le_of_ble_eq_true rfl, Nat.le_of_ble_eq_true rfl⟩ hl.1 rfl (by simp [Value.category]) dX8_odds_102 ⟨Nat.le_refl _, Nat.le_refl _⟩ ?_
                        refine lv_aload_n (pc := 105) hx hb dX8_odds_105 rfl (lv_at hl 4 rfl) ?_
                        refine lv_iload (pc := 106) hx hb dX8_odds_106 (lv_at hl 0 rfl) ?_
                        refine lv_iconst (pc := 108) (v := 4) hx hb dX8_odds_108 (by decide) ?_
                        refine k_X8_of (pc := 109) (n := i + k) (k := 4) cx hW (by first | assumption | omega) (by first | assumption | omega) m_ml_X8_140 ⟨Nat.le_of_ble_eq_true rfl, Nat.le_of_ble_eq_true rfl⟩ hl.1 rfl (by simp [Value.category]) dX8_odds_109 ⟨Nat.le_refl _, Nat.le_refl _⟩ ?_
                        refine lv_imul (pc := 112) hx hb dX8_odds_112 ?_
                        refine lv_goto (pc := 113) (tgt := 123) hx hb dX8_odds_113 (by decide) ?_
                        refine lv_istore (pc := 123) (lv' := [(8, .int ((g5 sv i 4) * (g5 sv (i + k) 4))), (7, .int (nI (i + k))), (6, .int (nI i)), (5, .int (odS (odC sv two) (nT sv) i + odI (odC sv two) i k)), (4, .int (odS (odO sv two n) (nT sv) i + odI (odO sv two n) i k)), (0, .ref (a 0)), (1, .int (nI n)), (2, .int (bI two)), (3, .int part)]) hx hb dX8_odds_123 hl (by decide) rfl (fun ls hl => ?_)
                        refine lv_iload (pc := 125) hx hb dX8_odds_125 (lv_at hl 3 rfl) ?_
                        refine lv_iload (pc := 127) hx hb dX8_odds_127 (lv_at hl 0 rfl) ?_
                        refine lv_iadd (pc := 129) hx hb dX8_odds_129 ?_
                        refine lv_istore (pc := 130) (lv' := [(5, .int ((odS (odC sv two) (nT sv) i + odI (odC sv two) i k) + ((g5 sv i 4) * (g5 sv (i + k) 4)))), (8, .int ((g5 sv i 4) * (g5 sv (i + k) 4))), (7, .int (nI (i + k))), (6, .int (nI i)), (4, .int (odS (odO sv two n) (nT sv) i + odI (odO sv two n) i k)), (0, .ref (a 0)), (1, .int (nI n)), (2, .int (bI two)), (3, .int part)]) hx hb dX8_odds_130 hl (by decide) rfl (fun ls hl => ?_)
                        refine lv_iload (pc := 132) hx hb dX8_odds_132 (lv_at hl 4 rfl) ?_
                        refine lv_iload (pc := 134) hx hb dX8_odds_134 (lv_at hl 3 rfl) ?_
                        refine lv_iload_n (pc := 136) hx hb dX8_odds_136 rfl (lv_at hl 6 rfl) ?_
                        refine lv_icmp_eq (pc := 137) (tgt := 146) hx hb dX8_odds_137 (by decide) (fun c_11 => ?_) (fun c_11 => ?_)
                        · skip
                          have hin : (i = n) = True := eq_true ((nI_eq (by omega) (by omega)).mp c_11)
                          refine lv_iload (pc := 146) hx hb dX8_odds_146 (lv_at hl 1 rfl) ?_
                          refine lv_goto (pc := 148) (tgt := 152) hx hb dX8_odds_148 (by decide) ?_
                          refine lv_iadd (pc := 152) hx hb dX8_odds_152 ?_
                          refine lv_istore (pc := 153) (lv' := [(4, .int ((odS (odO sv two n) (nT sv) i + odI (odO sv two n) i k) + ((g5 sv i 4) * (g5 sv (i + k) 4)))), (5, .int ((odS (odC sv two) (nT sv) i + odI (odC sv two) i k) + ((g5 sv i 4) * (g5 sv (i + k) 4)))), (8, .int ((g5 sv i 4) * (g5 sv (i + k) 4))), (7, .int (nI (i + k))), (6, .int (nI i)), (0, .ref (a 0)), (1, .int (nI n)), (2, .int (bI two)), (3, .int part)]) hx hb dX8_odds_153 hl (by decide) rfl (fun ls hl => ?_)
                          refine lv_iinc (pc := 155) (v := nI ((i + k) + 1)) (lv' := [(7, .int (nI ((i + k) + 1))), (4, .int ((odS (odO sv two n) (nT sv) i + odI (odO sv two n) i k) + ((g5 sv i 4) * (g5 sv (i + k) 4)))), (5, .int ((odS (odC sv two) (nT sv) i + odI (odC sv two) i k) + ((g5 sv i 4) * (g5 sv (i + k) 4)))), (8, .int ((g5 sv i 4) * (g5 sv (i + k) 4))), (6, .int (nI i)), (0, .ref (a 0)), (1, .int (nI n)), (2, .int (bI two)), (3, .int part)]) hx hb dX8_odds_155 hl (k := 3) rfl (nI_1 _) (by decide) rfl (fun ls hl => ?_)
                          refine lv_goto (pc := 158) (tgt := 48) hx hb dX8_odds_158 (by decide) ?_
                          exact ih_48 (k + 1) (nI ((i + k) + 1)) ((odS (odC sv two) (nT sv) i + odI (odC sv two) i k) + ((g5 sv i 4) * (g5 sv (i + k) 4))) ((odS (odO sv two n) (nT sv) i + odI (odO sv two n) i k) + ((g5 sv i 4) * (g5 sv (i + k) 4))) (by omega) (by omega) (by first | rfl | (simp [oddsP, c_1, hN, c_2, hab0, h2t, c_9, hin]; done)) (by first | exact od_skip _ (by simp [odO, odC, c_1, hN, c_2, hab0, h2t, c_9, hin]) | exact od_step _ (by simp [odO, odC, c_1, hN, c_2, hab0, h2t, c_9, hin])) (by first | exact od_skip _ (by simp [odO, odC, c_1, hN, c_2, hab0, h2t, c_9, hin]) | exact od_step _ (by simp [odO, odC, c_1, hN, c_2, hab0, h2t, c_9, hin]))  _ _  (hW) hS ls (lv_sub hl [0, 4, 2, 1, 5, 6, 7, 8] rfl)
                        · skip
                          have hin : (i = n) = False := eq_false (fun q => c_11 (by rw [q]))
                          refine lv_iload (pc := 140) hx hb dX8_odds_140 (lv_at hl 2 rfl) ?_
                          refine lv_iload_n (pc := 142) hx hb dX8_odds_142 rfl (lv_at hl 6 rfl) ?_
                          refine lv_icmp_ne (pc := 143) (tgt := 151) hx hb dX8_odds_143 (by decide) (fun c_12 => ?_) (fun c_12 => ?_)
                          · skip
                            have hkn : (i + k = n) = False := eq_false (fun q => c_12 (by rw [q]))
                            refine lv_iconst (pc := 151) (v := 0) hx hb dX8_odds_151 (by decide) ?_
                            refine lv_iadd (pc := 152) hx hb dX8_odds_152 ?_
                            refine lv_istore (pc := 153) (lv' := [(4, .int ((odS (odO sv two n) (nT sv) i + odI (odO sv two n) i k) + 0)), (5, .int ((odS (odC sv two) (nT sv) i + odI (odC sv two) i k) + ((g5 sv i 4) * (g5 sv (i + k) 4)))), (8, .int ((g5 sv i 4) * (g5 sv (i + k) 4))), (7, .int (nI (i + k))), (6, .int (nI i)), (0, .ref (a 0)), (1, .int (nI n)), (2, .int (bI two)), (3, .int part)]) hx hb dX8_odds_153 hl (by decide) rfl (fun ls hl => ?_)
                            refine lv_iinc (pc := 155) (v := nI ((i + k) + 1)) (lv' := [(7, .int (nI ((i + k) + 1))), (4, .int ((odS (odO sv two n) (nT sv) i + odI (odO sv two n) i k) + 0)), (5, .int ((odS (odC sv two) (nT sv) i + odI (odC sv two) i k) + ((g5 sv i 4) * (g5 sv (i + k) 4)))), (8, .int ((g5 sv i 4) * (g5 sv (i + k) 4))), (6, .int (nI i)), (0, .ref (a 0)), (1, .int (nI n)), (2, .int (bI two)), (3, .int part)]) hx hb dX8_odds_155 hl (k := 3) rfl (nI_1 _) (by decide) rfl (fun ls hl => ?_)
                            refine lv_goto (pc := 158) (tgt := 48) hx hb dX8_odds_158 (by decide) ?_
                            exact ih_48 (k + 1) (nI ((i + k) + 1)) ((odS (odC sv two) (nT sv) i + odI (odC sv two) i k) + ((g5 sv i 4) * (g5 sv (i + k) 4))) ((odS (odO sv two n) (nT sv) i + odI (odO sv two n) i k) + 0) (by omega) (by omega) (by first | rfl | (simp [oddsP, c_1, hN, c_2, hab0, h2t, c_9, hin, hkn]; done)) (by first | exact od_skip _ (by simp [odO, odC, c_1, hN, c_2, hab0, h2t, c_9, hin, hkn]) | exact od_step _ (by simp [odO, odC, c_1, hN, c_2, hab0, h2t, c_9, hin, hkn])) (by first | exact od_skip _ (by simp [odO, odC, c_1, hN, c_2, hab0, h2t, c_9, hin, hkn]) | exact od_step _ (by simp [odO, odC, c_1, hN, c_2, hab0, h2t, c_9, hin, hkn]))  _ _  (hW) hS ls (lv_sub hl [0, 4, 2, 1, 5, 6, 7, 8] rfl)
                          · skip
                            have hkn : (i + k = n) = True := eq_true ((nI_eq (by omega) (by omega)).mp (by simpa using c_12))
                            refine lv_iload (pc := 146) hx hb dX8_odds_146 (lv_at hl 1 rfl) ?_
                            refine lv_goto (pc := 148) (tgt := 152) hx hb dX8_odds_148 (by decide) ?_
                            refine lv_iadd (pc := 152) hx hb dX8_odds_152 ?_
                            refine lv_istore (pc := 153) (lv' := [(4, .int ((odS (odO sv two n) (nT sv) i + odI (odO sv two n) i k) + ((g5 sv i 4) * (g5 sv (i + k) 4)))), (5, .int ((odS (odC sv two) (nT sv) i + odI (odC sv two) i k) + ((g5 sv i 4) * (g5 sv (i + k) 4)))), (8, .int ((g5 sv i 4) * (g5 sv (i + k) 4))), (7, .int (nI (i + k))), (6, .int (nI i)), (0, .ref (a 0)), (1, .int (nI n)), (2, .int (bI two)), (3, .int part)]) hx hb dX8_odds_153 hl (by decide) rfl (fun ls hl => ?_)
                            refine lv_iinc (pc := 155) (v := nI ((i + k) + 1)) (lv' := [(7, .int (nI ((i + k) + 1))), (4, .int ((odS (odO sv two n) (nT sv) i + odI (odO sv two n) i k) + ((g5 sv i 4) * (g5 sv (i + k) 4)))), (5, .int ((odS (odC sv two) (nT sv) i + odI (odC sv two) i k) + ((g5 sv i 4) * (g5 sv (i + k) 4)))), (8, .int ((g5 sv i 4) * (g5 sv (i + k) 4))), (6, .int (nI i)), (0, .ref (a 0)), (1, .int (nI n)), (2, .int (bI two)), (3, .int part)]) hx hb dX8_odds_155 hl (k := 3) rfl (nI_1 _) (by decide) rfl (fun ls hl => ?_)
                            refine lv_goto (pc := 158) (tgt := 48) hx hb dX8_odds_158 (by decide) ?_
                            exact ih_48 (k + 1) (nI ((i + k) + 1)) ((odS (odC sv two) (nT sv) i + odI (odC sv two) i k) + ((g5 sv i 4) * (g5 sv (i + k) 4))) ((odS (odO sv two n) (nT sv) i + odI (odO sv two n) i k) + ((g5 sv i 4) * (g5 sv (i + k) 4))) (by omega) (by omega) (by first | rfl | (simp [oddsP, c_1, hN, c_2, hab0, h2t, c_9, hin, hkn]; done)) (by first | exact od_skip _ (by simp [odO, odC, c_1, hN, c_2, hab0, h2t, c_9, hin, hkn]) | exact od_step _ (by simp [odO, odC, c_1, hN, c_2, hab0, h2t, c_9, hin, hkn])) (by first | exact od_skip _ (by simp [odO, odC, c_1, hN, c_2, hab0, h2t, c_9, hin, hkn]) | exact od_step _ (by simp [odO, odC, c_1, hN, c_2, hab0, h2t, c_9, hin, hkn]))  _ _  (hW) hS ls (lv_sub hl [0, 4, 2, 1, 5, 6, 7, 8] rfl)
                      · skip
                        refine lv_goto (pc := 91) (tgt := 155) hx hb dX8_odds_91 (by decide) ?_
                        refine lv_iinc (pc := 155) (v := nI ((i + k) + 1)) (lv' := [(7, .int (nI ((i + k) + 1))), (6, .int (nI i)), (5, .int (odS (odC sv two) (nT sv) i + odI (odC sv two) i k)), (4, .int (odS (odO sv two n) (nT sv) i + odI (odO sv two n) i k)), (0, .ref (a 0)), (1, .int (nI n)), (2, .int (bI two)), (3, .int part)]) hx hb dX8_odds_155 hl (k := 0) rfl (nI_1 _) (by decide) rfl (fun ls hl => ?_)
                        refine lv_goto (pc := 158) (tgt := 48) hx hb dX8_odds_158 (by decide) ?_
                        exact ih_48 (k + 1) (nI ((i + k) + 1)) (odS (odC sv two) (nT sv) i + odI (odC sv two) i k) (odS (odO sv two n) (nT sv) i + odI (odO sv two n) i k) (by omega) (by omega) (by first | rfl | (simp [oddsP, c_1, hN, c_2, hab0, h2t, c_9]; done)) (by first | exact od_skip _ (by simp [odO, odC, c_1, hN, c_2, hab0, h2t, c_9]) | exact od_step _ (by simp [odO, odC, c_1, hN, c_2, hab0, h2t, c_9])) (by first | exact od_skip _ (by simp [odO, odC, c_1, hN, c_2, hab0, h2t, c_9]) | exact od_step _ (by simp [odO, odC, c_1, hN, c_2, hab0, h2t, c_9]))  _ _  (hW) hS ls (lv_sub hl [0, 1, 2, 3, 4, 5, 6, 7] rfl)
                  · skip
                    have hab1 : (k = 0) = True := eq_true (by have := (nI_eq (a := i) (b := i + k) (by omega) (by omega)).mp (by simpa using c_7); omega)
                    refine lv_iconst (pc := 67) (v := 1) hx hb dX8_odds_67 (by decide) ?_
                    refine lv_goto (pc := 68) (tgt := 72) hx hb dX8_odds_68 (by decide) ?_
                    refine lv_icmp_eq (pc := 72) (tgt := 155) hx hb dX8_odds_72 (by decide) (fun c_13 => ?_) (fun c_13 => ?_)
                    · skip
                      have h2t : two = true := bI_eq1 c_13
                      refine lv_iinc (pc := 155) (v := nI ((i + k) + 1)) (lv' := [(7, .int (nI ((i + k) + 1))), (6, .int (nI i)), (5, .int (odS (odC sv two) (nT sv) i + odI (odC sv two) i k)), (4, .int (odS (odO sv two n) (nT sv) i + odI (odO sv two n) i k)), (0, .ref (a 0)), (1, .int (nI n)), (2, .int (bI two)), (3, .int part)]) hx hb dX8_odds_155 hl (k := 0) rfl (nI_1 _) (by decide) rfl (fun ls hl => ?_)
                      refine lv_goto (pc := 158) (tgt := 48) hx hb dX8_odds_158 (by decide) ?_
                      exact ih_48 (k + 1) (nI ((i + k) + 1)) (odS (odC sv two) (nT sv) i + odI (odC sv two) i k) (odS (odO sv two n) (nT sv) i + odI (odO sv two n) i k) (by omega) (by omega) (by first | rfl | (simp [oddsP, c_1, hN, c_2, hab1, h2t]; done)) (by first | exact od_skip _ (by simp [odO, odC, c_1, hN, c_2, hab1, h2t]) | exact od_step _ (by simp [odO, odC, c_1, hN, c_2, hab1, h2t])) (by first | exact od_skip _ (by simp [odO, odC, c_1, hN, c_2, hab1, h2t]) | exact od_step _ (by simp [odO, odC, c_1, hN, c_2, hab1, h2t]))  _ _  (hW) hS ls (lv_sub hl [0, 1, 2, 3, 4, 5, 6, 7] rfl)
                    · skip
                      have h2f : two = false := bI_ne1 c_13
                      refine lv_aload_n (pc := 75) hx hb dX8_odds_75 rfl (lv_at hl 4 rfl) ?_
                      refine lv_iconst (pc := 76) (v := 1) hx hb dX8_odds_76 (by decide) ?_
                      refine lv_iload (pc := 77) hx hb dX8_odds_77 (lv_at hl 1 rfl) ?_
                      refine lv_ishl (pc := 79) hx hb dX8_odds_79 ?_
                      refine lv_iconst (pc := 80) (v := 1) hx hb dX8_odds_80 (by decide) ?_
                      refine lv_iload (pc := 81) hx hb dX8_odds_81 (lv_at hl 0 rfl) ?_
                      refine lv_ishl (pc := 83) hx hb dX8_odds_83 ?_
                      refine lv_ior (pc := 84) hx hb dX8_odds_84 ?_
                      refine k_X8_fitsSet2 (pc := 85) (set := (1 <<< ((nI i) &&& 31)) ||| (1 <<< ((nI (i + k)) &&& 31))) cx hW hI hbz m_ml_X8_217 ⟨Nat.le_of_ble_eq_true rfl, Nat.le_of_ble_eq_true rfl⟩ hl.1 rfl (by simp [Value.category]) dX8_odds_85 ⟨Nat.le_refl _, Nat.le_refl _⟩ ?_
                      refine z_ifne (pc := 88) (tgt := 94) hx hb dX8_odds_88 (by decide) (fun c_14 => ?_) (fun c_14 => ?_)
                      · skip
                        refine lv_iload_n (pc := 94) hx hb dX8_odds_94 rfl (lv_at hl 6 rfl) ?_
                        refine z_ifeq (pc := 95) (tgt := 116) hx hb dX8_odds_95 (by decide) (fun _ => ?_) (fun c_15 => (by first | exact absurd c_15 h2f | exact absurd h2f c_15 | exact absurd c_15 (i_nlt.mpr h2f) | exact absurd h2f (i_nlt.mpr c_15) | exact absurd c_15 (i_nle.mpr h2f) | exact absurd h2f (i_nle.mpr c_15) | exact absurd (c_15.symm.trans h2f) (by decide) | exact absurd h2f (i_nle.mpr (i_nlt.mp c_15)) | exact absurd c_15 (i_nle.mpr (i_nlt.mp h2f))))
                        refine lv_aload_n (pc := 116) hx hb dX8_odds_116 rfl (lv_at hl 4 rfl) ?_
                        refine lv_iload (pc := 117) hx hb dX8_odds_117 (lv_at hl 1 rfl) ?_
                        refine lv_iconst (pc := 119) (v := 4) hx hb dX8_odds_119 (by decide) ?_
                        refine k_X8_of (pc := 120) (n := i) (k := 4) cx hW (by first | assumption | omega) (by first | assumption | omega) m_ml_X8_140 ⟨Nat.le_of_ble_eq_true rfl, Nat.le_of_ble_eq_true rfl⟩ hl.1 rfl (by simp [Value.category]) dX8_odds_120 ⟨Nat.le_refl _, Nat.le_refl _⟩ ?_
                        refine lv_istore (pc := 123) (lv' := [(8, .int (g5 sv i 4)), (7, .int (nI (i + k))), (6, .int (nI i)), (5, .int (odS (odC sv two) (nT sv) i + odI (odC sv two) i k)), (4, .int (odS (odO sv two n) (nT sv) i + odI (odO sv two n) i k)), (0, .ref (a 0)), (1, .int (nI n)), (2, .int (bI two)), (3, .int part)]) hx hb dX8_odds_123 hl (by decide) rfl (fun ls hl => ?_)
                        refine lv_iload (pc := 125) hx hb dX8_odds_125 (lv_at hl 3 rfl) ?_
                        refine lv_iload (pc := 127) hx hb dX8_odds_127 (lv_at hl 0 rfl) ?_
                        refine lv_iadd (pc := 129) hx hb dX8_odds_129 ?_
                        refine lv_istore (pc := 130) (lv' := [(5, .int ((odS (odC sv two) (nT sv) i + odI (odC sv two) i k) + (g5 sv i 4))), (8, .int (g5 sv i 4)), (7, .int (nI (i + k))), (6, .int (nI i)), (4, .int (odS (odO sv two n) (nT sv) i + odI (odO sv two n) i k)), (0, .ref (a 0)), (1, .int (nI n)), (2, .int (bI two)), (3, .int part)]) hx hb dX8_odds_130 hl (by decide) rfl (fun ls hl => ?_)
                        refine lv_iload (pc := 132) hx hb dX8_odds_132 (lv_at hl 4 rfl) ?_
                        refine lv_iload (pc := 134) hx hb dX8_odds_134 (lv_at hl 3 rfl) ?_
                        refine lv_iload_n (pc := 136) hx hb dX8_odds_136 rfl (lv_at hl 6 rfl) ?_
                        refine lv_icmp_eq (pc := 137) (tgt := 146) hx hb dX8_odds_137 (by decide) (fun c_16 => ?_) (fun c_16 => ?_)
                        · skip
                          have hin : (i = n) = True := eq_true ((nI_eq (by omega) (by omega)).mp c_16)
                          refine lv_iload (pc := 146) hx hb dX8_odds_146 (lv_at hl 1 rfl) ?_
                          refine lv_goto (pc := 148) (tgt := 152) hx hb dX8_odds_148 (by decide) ?_
                          refine lv_iadd (pc := 152) hx hb dX8_odds_152 ?_
                          refine lv_istore (pc := 153) (lv' := [(4, .int ((odS (odO sv two n) (nT sv) i + odI (odO sv two n) i k) + (g5 sv i 4))), (5, .int ((odS (odC sv two) (nT sv) i + odI (odC sv two) i k) + (g5 sv i 4))), (8, .int (g5 sv i 4)), (7, .int (nI (i + k))), (6, .int (nI i)), (0, .ref (a 0)), (1, .int (nI n)), (2, .int (bI two)), (3, .int part)]) hx hb dX8_odds_153 hl (by decide) rfl (fun ls hl => ?_)
                          refine lv_iinc (pc := 155) (v := nI ((i + k) + 1)) (lv' := [(7, .int (nI ((i + k) + 1))), (4, .int ((odS (odO sv two n) (nT sv) i + odI (odO sv two n) i k) + (g5 sv i 4))), (5, .int ((odS (odC sv two) (nT sv) i + odI (odC sv two) i k) + (g5 sv i 4))), (8, .int (g5 sv i 4)), (6, .int (nI i)), (0, .ref (a 0)), (1, .int (nI n)), (2, .int (bI two)), (3, .int part)]) hx hb dX8_odds_155 hl (k := 3) rfl (nI_1 _) (by decide) rfl (fun ls hl => ?_)
                          refine lv_goto (pc := 158) (tgt := 48) hx hb dX8_odds_158 (by decide) ?_
                          exact ih_48 (k + 1) (nI ((i + k) + 1)) ((odS (odC sv two) (nT sv) i + odI (odC sv two) i k) + (g5 sv i 4)) ((odS (odO sv two n) (nT sv) i + odI (odO sv two n) i k) + (g5 sv i 4)) (by omega) (by omega) (by first | rfl | (simp [oddsP, c_1, hN, c_2, hab1, h2f, c_14, hin]; done)) (by first | exact od_skip _ (by simp [odO, odC, c_1, hN, c_2, hab1, h2f, c_14, hin]) | exact od_step _ (by simp [odO, odC, c_1, hN, c_2, hab1, h2f, c_14, hin])) (by first | exact od_skip _ (by simp [odO, odC, c_1, hN, c_2, hab1, h2f, c_14, hin]) | exact od_step _ (by simp [odO, odC, c_1, hN, c_2, hab1, h2f, c_14, hin]))  _ _  (hW) hS ls (lv_sub hl [0, 4, 2, 1, 5, 6, 7, 8] rfl)
                        · skip
                          have hin : (i = n) = False := eq_false (fun q => c_16 (by rw [q]))
                          refine lv_iload (pc := 140) hx hb dX8_odds_140 (lv_at hl 2 rfl) ?_
                          refine lv_iload_n (pc := 142) hx hb dX8_odds_142 rfl (lv_at hl 6 rfl) ?_
                          refine lv_icmp_ne (pc := 143) (tgt := 151) hx hb dX8_odds_143 (by decide) (fun c_17 => ?_) (fun c_17 => ?_)
                          · skip
                            have hkn : (i + k = n) = False := eq_false (fun q => c_17 (by rw [q]))
                            refine lv_iconst (pc := 151) (v := 0) hx hb dX8_odds_151 (by decide) ?_
                            refine lv_iadd (pc := 152) hx hb dX8_odds_152 ?_
                            refine lv_istore (pc := 153) (lv' := [(4, .int ((odS (odO sv two n) (nT sv) i + odI (odO sv two n) i k) + 0)), (5, .int ((odS (odC sv two) (nT sv) i + odI (odC sv two) i k) + (g5 sv i 4))), (8, .int (g5 sv i 4)), (7, .int (nI (i + k))), (6, .int (nI i)), (0, .ref (a 0)), (1, .int (nI n)), (2, .int (bI two)), (3, .int part)]) hx hb dX8_odds_153 hl (by decide) rfl (fun ls hl => ?_)
                            refine lv_iinc (pc := 155) (v := nI ((i + k) + 1)) (lv' := [(7, .int (nI ((i + k) + 1))), (4, .int ((odS (odO sv two n) (nT sv) i + odI (odO sv two n) i k) + 0)), (5, .int ((odS (odC sv two) (nT sv) i + odI (odC sv two) i k) + (g5 sv i 4))), (8, .int (g5 sv i 4)), (6, .int (nI i)), (0, .ref (a 0)), (1, .int (nI n)), (2, .int (bI two)), (3, .int part)]) hx hb dX8_odds_155 hl (k := 3) rfl (nI_1 _) (by decide) rfl (fun ls hl => ?_)
                            refine lv_goto (pc := 158) (tgt := 48) hx hb dX8_odds_158 (by decide) ?_
                            exact ih_48 (k + 1) (nI ((i + k) + 1)) ((odS (odC sv two) (nT sv) i + odI (odC sv two) i k) + (g5 sv i 4)) ((odS (odO sv two n) (nT sv) i + odI (odO sv two n) i k) + 0) (by omega) (by omega) (by first | rfl | (simp [oddsP, c_1, hN, c_2, hab1, h2f, c_14, hin, hkn]; done)) (by first | exact od_skip _ (by simp [odO, odC, c_1, hN, c_2, hab1, h2f, c_14, hin, hkn]) | exact od_step _ (by simp [odO, odC, c_1, hN, c_2, hab1, h2f, c_14, hin, hkn])) (by first | exact od_skip _ (by simp [odO, odC, c_1, hN, c_2, hab1, h2f, c_14, hin, hkn]) | exact od_step _ (by simp [odO, odC, c_1, hN, c_2, hab1, h2f, c_14, hin, hkn]))  _ _  (hW) hS ls (lv_sub hl [0, 4, 2, 1, 5, 6, 7, 8] rfl)
                          · skip
                            have hkn : (i + k = n) = True := eq_true ((nI_eq (by omega) (by omega)).mp (by simpa using c_17))
                            refine lv_iload (pc := 146) hx hb dX8_odds_146 (lv_at hl 1 rfl) ?_
                            refine lv_goto (pc := 148) (tgt := 152) hx hb dX8_odds_148 (by decide) ?_
                            refine lv_iadd (pc := 152) hx hb dX8_odds_152 ?_
                            refine lv_istore (pc := 153) (lv' := [(4, .int ((odS (odO sv two n) (nT sv) i + odI (odO sv two n) i k) + (g5 sv i 4))), (5, .int ((odS (odC sv two) (nT sv) i + odI (odC sv two) i k) + (g5 sv i 4))), (8, .int (g5 sv i 4)), (7, .int (nI (i + k))), (6, .int (nI i)), (0, .ref (a 0)), (1, .int (nI n)), (2, .int (bI two)), (3, .int part)]) hx hb dX8_odds_153 hl (by decide) rfl (fun ls hl => ?_)
                            refine lv_iinc (pc := 155) (v := nI ((i + k) + 1)) (lv' := [(7, .int (nI ((i + k) + 1))), (4, .int ((odS (odO sv two n) (nT sv) i + odI (odO sv two n) i k) + (g5 sv i 4))), (5, .int ((odS (odC sv two) (nT sv) i + odI (odC sv two) i k) + (g5 sv i 4))), (8, .int (g5 sv i 4)), (6, .int (nI i)), (0, .ref (a 0)), (1, .int (nI n)), (2, .int (bI two)), (3, .int part)]) hx hb dX8_odds_155 hl (k := 3) rfl (nI_1 _) (by decide) rfl (fun ls hl => ?_)
                            refine lv_goto (pc := 158) (tgt := 48) hx hb dX8_odds_158 (by decide) ?_
                            exact ih_48 (k + 1) (nI ((i + k) + 1)) ((odS (odC sv two) (nT sv) i + odI (odC sv two) i k) + (g5 sv i 4)) ((odS (odO sv two n) (nT sv) i + odI (odO sv two n) i k) + (g5 sv i 4)) (by omega) (by omega) (by first | rfl | (simp [oddsP, c_1, hN, c_2, hab1, h2f, c_14, hin, hkn]; done)) (by first | exact od_skip _ (by simp [odO, odC, c_1, hN, c_2, hab1, h2f, c_14, hin, hkn]) | exact od_step _ (by simp [odO, odC, c_1, hN, c_2, hab1, h2f, c_14, hin, hkn])) (by first | exact od_skip _ (by simp [odO, odC, c_1, hN, c_2, hab1, h2f, c_14, hin, hkn]) | exact od_step _ (by simp [odO, odC, c_1, hN, c_2, hab1, h2f, c_14, hin, hkn]))  _ _  (hW) hS ls (lv_sub hl [0, 4, 2, 1, 5, 6, 7, 8] rfl)
                      · skip
                        refine lv_goto (pc := 91) (tgt := 155) hx hb dX8_odds_91 (by decide) ?_
                        refine lv_iinc (pc := 155) (v := nI ((i + k) + 1)) (lv' := [(7, .int (nI ((i + k) + 1))), (6, .int (nI i)), (5, .int (odS (odC sv two) (nT sv) i + odI (odC sv two) i k)), (4, .int (odS (odO sv two n) (nT sv) i + odI (odO sv two n) i k)), (0, .ref (a 0)), (1, .int (nI n)), (2, .int (bI two)), (3, .int part)]) hx hb dX8_odds_155 hl (k := 0) rfl (nI_1 _) (by decide) rfl (fun ls hl => ?_)
                        refine lv_goto (pc := 158) (tgt := 48) hx hb dX8_odds_158 (by decide) ?_
                        exact ih_48 (k + 1) (nI ((i + k) + 1)) (odS (odC sv two) (nT sv) i + odI (odC sv two) i k) (odS (odO sv two n) (nT sv) i + odI (odO sv two n) i k) (by omega) (by omega) (by first | rfl | (simp [oddsP, c_1, hN, c_2, hab1, h2f, c_14]; done)) (by first | exact od_skip _ (by simp [odO, odC, c_1, hN, c_2, hab1, h2f, c_14]) | exact od_step _ (by simp [odO, odC, c_1, hN, c_2, hab1, h2f, c_14])) (by first | exact od_skip _ (by simp [odO, odC, c_1, hN, c_2, hab1, h2f, c_14]) | exact od_step _ (by simp [odO, odC, c_1, hN, c_2, hab1, h2f, c_14]))  _ _  (hW) hS ls (lv_sub hl [0, 1, 2, 3, 4, 5, 6, 7] rfl)
            exact loop_48 ((nT sv - i - 0) + 1) 0 (nI i) (odS (odC sv two) (nT sv) i) (odS (odO sv two n) (nT sv) i) (Nat.lt_succ_self _) (by omega) (by first | rfl | (simp [oddsP, c_1, hN, c_2]; done)) (od_0 _ _ _) (od_0 _ _ _)  _ _  (hW) hS ls (lv_sub hl [0, 1, 2, 3, 4, 5, 6, 7] rfl)
      exact loop_33 ((nT sv - 0) + 1) 0 0 0 0 (Nat.lt_succ_self _) (by omega) (by first | rfl | (simp [oddsP, c_1, hN, c_2]; done)) (by first | rfl | (simp [oddsP, c_1, hN, c_2]; done)) (by first | rfl | (simp [oddsP, c_1, hN, c_2]; done))  _ _  (hW) hS ls (lv_sub hl [0, 1, 2, 3, 4, 5, 6] rfl)
    · skip
      refine lv_iconst (pc := 18) (v := (-1)) hx hb dX8_odds_18 (by decide) ?_
      exact z_wiret cx hr hlk dX8_odds_19 hS ⟨_, _, (sI (by first | rfl | (simp [oddsP, c_1, hN, c_2]; done))), hW⟩
theorem k_X8_odds {p : Program} {l : Launch} {e : Env} {R : Room} {s : State} {m : MethodId} {args : Array Value} {below : List Frame} {meth : Method} {c : Code} {H H0 : Heap} {locs : List Loc} {cells slots : Nat} {Q : State → Prop} {cc : ByteArray} {pc index : Nat} {ls : Array Slot} {rest st0 : List Value} {E : zE} {own : String} {nL : Nat} {F : Nat → Prop} {a : Nat → Nat} {sv im rd wa kp so sz el pr ts nu bu ht : Nat → Int32} {th po ba en td : Int32} {ig : Bool} {ij : Bool} {x : Int32} {two : Bool} {part : Int32} (cx : Cx E p s args m c own cc nL) (hW : WW E (wM a (E.2.1 0) sv im rd wa kp so sz el pr ts nu bu ht (bI ig) th po ba en td (bI ij)) gN H) (hS : va_S F H0 H locs) (zF : ∀ q, (mF a) q → F q) (hI : Inv sv) (zl : Cond.methodLink own index yX8_odds ∈ AllW) (zR : 42 + 1 ≤ R.frames ∧ 8 + (9 + 11) + 1251 ≤ R.locals) (zs : ls.size = nL) (zt : st0 = ([.int x, .int (bI two), .int part] : List Value).reverse ++ .ref (a 0) :: rest) (z8 : (rest.map fun v => v.category).sum ≤ 8) (zd : decode cc pc = .ok (.invokevirtual index, 3)) (zf : cells ≤ R.cells ∧ slots ≤ R.slots) (kk0 : ∀ (wa2 : Nat → Int32) (bu2 : Nat → Int32) (H1 : Heap) (locs1 : List Loc), WW E (wM a (E.2.1 0) sv im rd wa2 kp so sz el pr ts nu bu2 ht (bI ig) th po ba en td (bI ij)) gN H1 → va_S F H0 H1 locs1 → W p l e R s m args below meth c H1 locs1 cells slots Q (F0 m (pc + 3) ls (.int (oddsP sv x two part) :: rest))) : W p l e R s m args below meth c H locs cells slots Q (F0 m pc ls st0) := by
  refine z_callVw cx vm_X8_odds (c_X8_odds l E a sv im rd wa kp so sz el pr ts nu bu ht th po ba en td ig ij x two part hI) (z_rec cx.2 (hW.at 0 rfl) rfl) hW hS zF zl ⟨rfl, rfl⟩ zR rfl zs zt z8 zd zf (fun v H1 locs1 hq hS1 _ => ?_)
  rcases hq with ⟨wa2, bu2, rfl, hW1⟩
  · exact kk0 wa2 bu2 H1 locs1  hW1 hS1
