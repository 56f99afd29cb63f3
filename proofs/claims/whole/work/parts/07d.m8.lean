theorem vm_X8_common : zSm yX8_common cX8_common 2 (some FieldType.int) 2 := ⟨m_co_X8_common, m_in_RX8, m_st_X8_common, by decide +kernel, by decide +kernel, by decide +kernel⟩
set_option maxHeartbeats 4000000 in
set_option maxRecDepth 100000 in
theorem c_X8_common (l : Launch) (E : zE)   : ∀ (k u v : Nat), u < 2147483648 → v < 2147483648 → stepsLe k u v → Met l yX8_common (.code yX8_common cX8_common 2 (some FieldType.int) :: AllW) (rm0' k (30 * k)) (zP E (fun _ => True) [.int (nI u), .int (nI v)]) (rQ (.int (nI (Nat.gcd u v)))) 0 0 nF := by
  intro k
  induction k with
  | zero =>
    intro u v hu hv hs
    exact absurd hs id
  | succ k ih =>
    intro u v hu hv hs
    refine z_body (own := RX8) (by decide) rfl rfl ?_
    intro p e s m args below meth c ls cx hr hlk hnm hW hl
    have hx := cx.x
    have hb := cx.b
    have hl : lv_has ls 2 [(0, .int (nI u)), (1, .int (nI v))] := hl
    refine lv_iload_n (pc := 0) hx hb dX8_common_0 rfl (lv_at hl 1 rfl) ?_
    refine lv_if_ne (pc := 1) (tgt := 8) hx hb dX8_common_1 (by decide) (fun c_1 => ?_) (fun c_1 => ?_)
    · skip
      have hvz := c_1
      have hv0 : ¬ v = 0 := fun q => c_1 (by rw [q]; rfl)
      refine lv_iload_n (pc := 8) hx hb dX8_common_8 rfl (lv_at hl 1 rfl) ?_
      refine lv_iload_n (pc := 9) hx hb dX8_common_9 rfl (lv_at hl 0 rfl) ?_
      refine lv_iload_n (pc := 10) hx hb dX8_common_10 rfl (lv_at hl 1 rfl) ?_
      refine lv_irem (pc := 11) hx hb dX8_common_11 hvz ?_
      refine z_tope (y := irm (nI u) (nI v)) rfl ?_
      refine z_tope (irm_nI hu hv) ?_
      refine z_callS (pc := 12) cx vm_X8_common (ih v (u % v) hv (by have := Nat.mod_lt u (show 0 < v by omega); omega) (hs.resolve_left hv0)) trivial m_ml_X8_223 ⟨rfl, rfl⟩ ⟨by show k + 1 ≤ k + 1; omega, by show 8 + (2 + 11) + 30 * k ≤ 30 * (k + 1); omega⟩ rfl hl.1 rfl (by simp [Value.category]) dX8_common_12 ⟨Nat.le_refl _, Nat.le_refl _⟩ ?_
      exact z_iret cx hr hlk dX8_common_15 (by first | rw [Nat.gcd_zero_right] | rw [Nat.gcd_comm u v, Nat.gcd_rec v u, Nat.gcd_comm])
    · skip
      obtain rfl : v = 0 := (nI_z hv).mp c_1
      refine lv_iload_n (pc := 4) hx hb dX8_common_4 rfl (lv_at hl 0 rfl) ?_
      refine lv_goto (pc := 5) (tgt := 15) hx hb dX8_common_5 (by decide) ?_
      exact z_iret cx hr hlk dX8_common_15 (by first | rw [Nat.gcd_zero_right] | rw [Nat.gcd_comm u v, Nat.gcd_rec v u, Nat.gcd_comm])
theorem k_X8_common {p : Program} {l : Launch} {e : Env} {R : Room} {s : State} {m : MethodId} {args : Array Value} {below : List Frame} {meth : Method} {c : Code} {H : Heap} {locs : List Loc} {cells slots : Nat} {Q : State → Prop} {cc : ByteArray} {pc index : Nat} {ls : Array Slot} {rest st0 : List Value} {E : zE} {own : String} {nL : Nat} {u v : Nat}  (cx : Cx E p s args m c own cc nL)  (hu : u < 2147483648) (hv : v < 2147483648) (hs : stepsLe 41 u v) (zl : Cond.methodLink own index yX8_common ∈ AllW) (zR : 41 + 1 ≤ R.frames ∧ 8 + (2 + 11) + 1230 ≤ R.locals) (zs : ls.size = nL) (zt : st0 = ([.int (nI u), .int (nI v)] : List Value).reverse ++ rest) (z8 : (rest.map fun v => v.category).sum ≤ 8) (zd : decode cc pc = .ok (.invokestatic index, 3)) (zf : cells ≤ R.cells ∧ slots ≤ R.slots) (kk : W p l e R s m args below meth c H locs cells slots Q (F0 m (pc + 3) ls (.int (nI (Nat.gcd u v)) :: rest))) : W p l e R s m args below meth c H locs cells slots Q (F0 m pc ls st0) :=
  z_callS cx vm_X8_common (c_X8_common l E  41 u v hu hv hs) trivial zl ⟨rfl, rfl⟩ zR rfl zs zt z8 zd zf kk
theorem vm_X8_wolfOf : zVm yX8_wolfOf cX8_wolfOf 5 (some FieldType.int) 1 := ⟨m_co_X8_wolfOf, m_in_RX8, ⟨m_im_X8_wolfOf, m_se_X8_X8_wolfOf⟩, by decide +kernel, by decide +kernel, by decide +kernel⟩
set_option maxHeartbeats 4000000 in
set_option maxRecDepth 100000 in
theorem c_X8_wolfOf (l : Launch) (E : zE) (a : Nat → Nat) (sv im rd wa kp so sz el pr ts nu bu ht : Nat → Int32) (th po ba en td : Int32) (ig : Bool) (ij : Bool) (x : Int32) (hI : Inv sv) : Met l yX8_wolfOf (.code yX8_wolfOf cX8_wolfOf 5 (some FieldType.int) :: AllW) (rm0' 4 88) (zP E (fun H => WW E (wM a (E.2.1 0) sv im rd wa kp so sz el pr ts nu bu ht (bI ig) th po ba en td (bI ij)) gN H) [.ref (a 0), .int x]) (rQ (.int (wfO sv x))) 0 0 nF := by
  refine z_body (own := RX8) (by decide) rfl rfl ?_
  intro p e s m args below meth c ls cx hr hlk hnm hW hl
  have hx := cx.x
  have hb := cx.b
  have hl : lv_has ls 5 [(0, .ref (a 0)), (1, .int x)] := hl
  have hC := hI.1
  have hP10 := (Inv.n0 hC).2
  have hT7 := (Inv.n1 hC).2
  have hA24 := (Inv.n2 hC).2
  refine lv_iconst (pc := 0) (v := 0) hx hb dX8_wolfOf_0 (by decide) ?_
  refine lv_istore_n (pc := 1) (lv' := [(2, .int 0), (0, .ref (a 0)), (1, .int x)]) hx hb dX8_wolfOf_1 rfl hl (by decide) rfl (fun ls hl => ?_)
  refine lv_iconst (pc := 2) (v := 0) hx hb dX8_wolfOf_2 (by decide) ?_
  refine lv_istore_n (pc := 3) (lv' := [(3, .int 0), (2, .int 0), (0, .ref (a 0)), (1, .int x)]) hx hb dX8_wolfOf_3 rfl hl (by decide) rfl (fun ls hl => ?_)
  have loop_4 : ∀ (k_4 : Nat) (i : Nat) (k : Nat) (x3 : Int32) (x2 : Int32), (nP sv - i) < k_4 → (i ≤ nP sv) → (wA sv x (nP sv) 0 0 = wA sv x (nP sv - i) i k) → x3 = nI i → x2 = nI k → ∀ (ls : Array Slot), lv_has ls 5 [(3, .int x3), (2, .int x2), (0, .ref (a 0)), (1, .int x)] → W p l e (rm0' (4) (88)) s m args below meth c s.heap [] 0 0 (MQ below (rQ (.int (wfO sv x))) args s 0 0 nF) (F0 m 4 ls []) := by
    intro k_4
    induction k_4 with
    | zero =>
      intro i k x3 x2 hm
      exact absurd hm (Nat.not_lt_zero _)
    | succ k_4 ih_4 =>
      intro i k x3 x2 hm_4 hi hA e_x3 e_x2  ls hl
      subst e_x3
      subst e_x2
      refine lv_iload_n (pc := 4) hx hb dX8_wolfOf_4 rfl (lv_at hl 0 rfl) ?_
      refine lv_aload_n (pc := 5) hx hb dX8_wolfOf_5 rfl (lv_at hl 2 rfl) ?_
      refine z_getM (pc := 6) cx (hW.at 0 rfl) 0 rfl m_fl_X8_9 rfl dX8_wolfOf_6 ?_
      refine lv_iconst (pc := 9) (v := 0) hx hb dX8_wolfOf_9 (by decide) ?_
      refine z_iald (pc := 10) (f := sv) (j := 0) cx (hW.at 1 rfl) rfl (by decide) (by decide) dX8_wolfOf_10 ?_
      refine lv_icmp_ge (pc := 11) (tgt := 69) hx hb dX8_wolfOf_11 (by decide) (fun c_1 => ?_) (fun c_1 => ?_)
      · skip
        obtain rfl : i = nP sv := by have := ge_nat (a := i) rfl (Inv.n0 hC).1 (by omega) (by omega) c_1; omega
        refine lv_iload_n (pc := 69) hx hb dX8_wolfOf_69 rfl (lv_at hl 3 rfl) ?_
        refine lv_if_ge (pc := 70) (tgt := 77) hx hb dX8_wolfOf_70 (by decide) (fun c_2 => ?_) (fun c_2 => ?_)
        · skip
          refine lv_bipush (pc := 77) (v := (-4)) hx hb dX8_wolfOf_77 (by decide) ?_
          exact z_iret cx hr hlk dX8_wolfOf_79 (by unfold wfO; rw [hA, Nat.sub_self]; simp [wA, c_2, i_nlt.mpr c_2])
        · skip
          refine lv_iload_n (pc := 73) hx hb dX8_wolfOf_73 rfl (lv_at hl 1 rfl) ?_
          refine lv_goto (pc := 74) (tgt := 79) hx hb dX8_wolfOf_74 (by decide) ?_
          exact z_iret cx hr hlk dX8_wolfOf_79 (by unfold wfO; rw [hA, Nat.sub_self]; simp [wA, c_2, i_nle.mp c_2])
      · skip
        have hlt_i := lt_nat (a := i) rfl (Inv.n0 hC).1 (by omega) (by omega) c_1
        refine lv_iconst (pc := 14) (v := 0) hx hb dX8_wolfOf_14 (by decide) ?_
        refine lv_istore (pc := 15) (lv' := [(4, .int 0), (3, .int (nI i)), (2, .int (nI k)), (0, .ref (a 0)), (1, .int x)]) hx hb dX8_wolfOf_15 hl (by decide) rfl (fun ls hl => ?_)
        have loop_17 : ∀ (k_17 : Nat) (b : Nat) (k2 : Nat) (x4 : Int32) (x2 : Int32), (nP sv - b) < k_17 → (b ≤ nP sv) → (wB sv x i (nP sv) 0 k = wB sv x i (nP sv - b) b k2) → x4 = nI b → x2 = nI k2 → ∀ (ls : Array Slot), lv_has ls 5 [(4, .int x4), (3, .int (nI i)), (2, .int x2), (0, .ref (a 0)), (1, .int x)] → W p l e (rm0' (4) (88)) s m args below meth c s.heap [] 0 0 (MQ below (rQ (.int (wfO sv x))) args s 0 0 nF) (F0 m 17 ls []) := by
          intro k_17
          induction k_17 with
          | zero =>
            intro b k2 x4 x2 hm
            exact absurd hm (Nat.not_lt_zero _)
          | succ k_17 ih_17 =>
            intro b k2 x4 x2 hm_17 hbn hB e_x4 e_x2  ls hl
            subst e_x4
            subst e_x2
            refine lv_iload (pc := 17) hx hb dX8_wolfOf_17 (lv_at hl 0 rfl) ?_
            refine lv_aload_n (pc := 19) hx hb dX8_wolfOf_19 rfl (lv_at hl 3 rfl) ?_
            refine z_getM (pc := 20) cx (hW.at 0 rfl) 0 rfl m_fl_X8_9 rfl dX8_wolfOf_20 ?_
            refine lv_iconst (pc := 23) (v := 0) hx hb dX8_wolfOf_23 (by decide) ?_
            refine z_iald (pc := 24) (f := sv) (j := 0) cx (hW.at 1 rfl) rfl (by decide) (by decide) dX8_wolfOf_24 ?_
            refine lv_icmp_ge (pc := 25) (tgt := 63) hx hb dX8_wolfOf_25 (by decide) (fun c_3 => ?_) (fun c_3 => ?_)
            · skip
              obtain rfl : b = nP sv := by have := ge_nat (a := b) rfl (Inv.n0 hC).1 (by omega) (by omega) c_3; omega
              refine lv_iinc (pc := 63) (v := nI (i + 1)) (lv' := [(3, .int (nI (i + 1))), (4, .int (nI (nP sv))), (2, .int (nI k2)), (0, .ref (a 0)), (1, .int x)]) hx hb dX8_wolfOf_63 hl (k := 1) rfl (nI_1 _) (by decide) rfl (fun ls hl => ?_)
              refine lv_goto (pc := 66) (tgt := 4) hx hb dX8_wolfOf_66 (by decide) ?_
              exact ih_4 (i + 1) k2 (nI (i + 1)) (nI k2) (by omega) (by omega) (by rw [hA, wA_go (hB.trans (by rw [Nat.sub_self]; rfl)) (by omega)]; rfl) (by first | rfl | (simp []; done)) (by first | rfl | (simp []; done)) ls (lv_sub hl [0, 2, 3, 4] rfl)
            · skip
              have hlt_b := lt_nat (a := b) rfl (Inv.n0 hC).1 (by omega) (by omega) c_3
              refine lv_aload_n (pc := 28) hx hb dX8_wolfOf_28 rfl (lv_at hl 3 rfl) ?_
              refine lv_iload_n (pc := 29) hx hb dX8_wolfOf_29 rfl (lv_at hl 1 rfl) ?_
              refine lv_iload (pc := 30) hx hb dX8_wolfOf_30 (lv_at hl 0 rfl) ?_
              refine k_X8_isWolf (pc := 32) (n := i) (b := b) cx hW (by first | assumption | omega) (by first | assumption | omega) (by first | assumption | omega) m_ml_X8_245 ⟨Nat.le_of_ble_eq_true rfl, Nat.le_of_ble_eq_true rfl⟩ hl.1 rfl (by simp [Value.category]) dX8_wolfOf_32 ⟨Nat.le_refl _, Nat.le_refl _⟩ ?_
              refine z_ifne (pc := 35) (tgt := 41) hx hb dX8_wolfOf_35 (by decide) (fun c_4 => ?_) (fun c_4 => ?_)
              · skip
                refine lv_iload_n (pc := 41) hx hb dX8_wolfOf_41 rfl (lv_at hl 2 rfl) ?_
                refine lv_iload_n (pc := 42) hx hb dX8_wolfOf_42 rfl (lv_at hl 4 rfl) ?_
                refine lv_icmp_ne (pc := 43) (tgt := 54) hx hb dX8_wolfOf_43 (by decide) (fun c_5 => ?_) (fun c_5 => ?_)
                · skip
                  refine lv_iinc (pc := 54) (v := nI (k2 + 1)) (lv' := [(2, .int (nI (k2 + 1))), (4, .int (nI b)), (3, .int (nI i)), (0, .ref (a 0)), (1, .int x)]) hx hb dX8_wolfOf_54 hl (k := 2) rfl (nI_1 _) (by decide) rfl (fun ls hl => ?_)
                  refine lv_iinc (pc := 57) (v := nI (b + 1)) (lv' := [(4, .int (nI (b + 1))), (2, .int (nI (k2 + 1))), (3, .int (nI i)), (0, .ref (a 0)), (1, .int x)]) hx hb dX8_wolfOf_57 hl (k := 1) rfl (nI_1 _) (by decide) rfl (fun ls hl => ?_)
                  refine lv_goto (pc := 60) (tgt := 17) hx hb dX8_wolfOf_60 (by decide) ?_
                  exact ih_17 (b + 1) (k2 + 1) (nI (b + 1)) (nI (k2 + 1)) (by omega) (by omega) (by first | (rw [hB, wB_miss (by assumption) (by omega)]; rfl) | (rw [hB, wB_cnt (by assumption) (by assumption) (by omega)]; rfl)) (by first | rfl | (simp [c_4, c_5]; done)) (by first | rfl | exact nI_1 _) ls (lv_sub hl [0, 2, 1, 3, 4] rfl)
                · skip
                  refine lv_bipush (pc := 46) (v := 10) hx hb dX8_wolfOf_46 (by decide) ?_
                  refine lv_iload_n (pc := 48) hx hb dX8_wolfOf_48 rfl (lv_at hl 1 rfl) ?_
                  refine lv_imul (pc := 49) hx hb dX8_wolfOf_49 ?_
                  refine lv_iload (pc := 50) hx hb dX8_wolfOf_50 (lv_at hl 0 rfl) ?_
                  refine lv_iadd (pc := 52) hx hb dX8_wolfOf_52 ?_
                  exact z_iret cx hr hlk dX8_wolfOf_53 (by unfold wfO; rw [hA, wA_hit (hB.trans (wB_hit (by assumption) (by assumption) (by omega))) (by omega)]; rw [show (10 : Int32) = nI 10 from rfl, nI_mul, nI_add])
              · skip
                refine lv_goto (pc := 38) (tgt := 57) hx hb dX8_wolfOf_38 (by decide) ?_
                refine lv_iinc (pc := 57) (v := nI (b + 1)) (lv' := [(4, .int (nI (b + 1))), (3, .int (nI i)), (2, .int (nI k2)), (0, .ref (a 0)), (1, .int x)]) hx hb dX8_wolfOf_57 hl (k := 0) rfl (nI_1 _) (by decide) rfl (fun ls hl => ?_)
                refine lv_goto (pc := 60) (tgt := 17) hx hb dX8_wolfOf_60 (by decide) ?_
                exact ih_17 (b + 1) k2 (nI (b + 1)) (nI k2) (by omega) (by omega) (by first | (rw [hB, wB_miss (by assumption) (by omega)]; rfl) | (rw [hB, wB_cnt (by assumption) (by assumption) (by omega)]; rfl)) (by first | rfl | (simp [c_4]; done)) (by first | rfl | exact nI_1 _) ls (lv_sub hl [0, 1, 2, 3, 4] rfl)
        exact loop_17 ((nP sv - 0) + 1) 0 k 0 (nI k) (Nat.lt_succ_self _) (by omega) rfl (by first | rfl | (simp []; done)) (by first | rfl | (simp []; done)) ls (lv_sub hl [0, 1, 2, 3, 4] rfl)
  exact loop_4 ((nP sv - 0) + 1) 0 0 0 0 (Nat.lt_succ_self _) (by omega) rfl (by first | rfl | (simp []; done)) (by first | rfl | (simp []; done)) ls (lv_sub hl [0, 1, 2, 3] rfl)
theorem k_X8_wolfOf {p : Program} {l : Launch} {e : Env} {R : Room} {s : State} {m : MethodId} {args : Array Value} {below : List Frame} {meth : Method} {c : Code} {H : Heap} {locs : List Loc} {cells slots : Nat} {Q : State → Prop} {cc : ByteArray} {pc index : Nat} {ls : Array Slot} {rest st0 : List Value} {E : zE} {own : String} {nL : Nat} {a : Nat → Nat} {sv im rd wa kp so sz el pr ts nu bu ht : Nat → Int32} {th po ba en td : Int32} {ig : Bool} {ij : Bool} {x : Int32} (cx : Cx E p s args m c own cc nL) (hW : WW E (wM a (E.2.1 0) sv im rd wa kp so sz el pr ts nu bu ht (bI ig) th po ba en td (bI ij)) gN H) (hI : Inv sv) (zl : Cond.methodLink own index yX8_wolfOf ∈ AllW) (zR : 4 + 1 ≤ R.frames ∧ 8 + (5 + 11) + 88 ≤ R.locals) (zs : ls.size = nL) (zt : st0 = ([.int x] : List Value).reverse ++ .ref (a 0) :: rest) (z8 : (rest.map fun v => v.category).sum ≤ 8) (zd : decode cc pc = .ok (.invokevirtual index, 3)) (zf : cells ≤ R.cells ∧ slots ≤ R.slots) (kk : W p l e R s m args below meth c H locs cells slots Q (F0 m (pc + 3) ls (.int (wfO sv x) :: rest))) : W p l e R s m args below meth c H locs cells slots Q (F0 m pc ls st0) :=
  z_callV cx vm_X8_wolfOf (c_X8_wolfOf l E a sv im rd wa kp so sz el pr ts nu bu ht th po ba en td ig ij x hI) (z_rec cx.2 (hW.at 0 rfl) rfl) hW zl ⟨rfl, rfl⟩ zR rfl zs zt z8 zd zf kk
theorem vm_X8_wolf : zVm yX8_wolf cX8_wolf 2 (some FieldType.int) 1 := ⟨m_co_X8_wolf, m_in_RX8, ⟨m_im_X8_wolf, m_se_X8_X8_wolf⟩, by decide +kernel, by decide +kernel, by decide +kernel⟩
set_option maxHeartbeats 4000000 in
set_option maxRecDepth 100000 in
theorem c_X8_wolf (l : Launch) (E : zE) (a : Nat → Nat) (sv im rd wa kp so sz el pr ts nu bu ht : Nat → Int32) (th po ba en td : Int32) (ig : Bool) (ij : Bool) (x : Int32) (hI : Inv sv) : Met l yX8_wolf (.code yX8_wolf cX8_wolf 2 (some FieldType.int) :: AllW) (rm0' 5 112) (zP E (fun H => WW E (wM a (E.2.1 0) sv im rd wa kp so sz el pr ts nu bu ht (bI ig) th po ba en td (bI ij)) gN H) [.ref (a 0), .int x]) (rQ (.int (wolfP sv x))) 0 0 nF := by
  refine z_body (own := RX8) (by decide) rfl rfl ?_
  intro p e s m args below meth c ls cx hr hlk hnm hW hl
  have hx := cx.x
  have hb := cx.b
  have hl : lv_has ls 2 [(0, .ref (a 0)), (1, .int x)] := hl
  have hC := hI.1
  have hP10 := (Inv.n0 hC).2
  have hT7 := (Inv.n1 hC).2
  have hA24 := (Inv.n2 hC).2
  refine lv_iload_n (pc := 0) hx hb dX8_wolf_0 rfl (lv_at hl 1 rfl) ?_
  refine lv_iconst (pc := 1) (v := (-1)) hx hb dX8_wolf_1 (by decide) ?_
  refine lv_icmp_ge (pc := 2) (tgt := 9) hx hb dX8_wolf_2 (by decide) (fun c_1 => ?_) (fun c_1 => ?_)
  · skip
    refine lv_aload_n (pc := 9) hx hb dX8_wolf_9 rfl (lv_at hl 0 rfl) ?_
    refine lv_iload_n (pc := 10) hx hb dX8_wolf_10 rfl (lv_at hl 1 rfl) ?_
    refine k_X8_wolfOf (pc := 11) (x := x) cx hW (by first | assumption | omega) m_ml_X8_248 ⟨Nat.le_of_ble_eq_true rfl, Nat.le_of_ble_eq_true rfl⟩ hl.1 rfl (by simp [Value.category]) dX8_wolf_11 ⟨Nat.le_refl _, Nat.le_refl _⟩ ?_
    exact z_iret cx hr hlk dX8_wolf_14 (by first | rfl | (simp [wolfP, c_1, i_nlt.mpr c_1]; done))
  · skip
    refine lv_iconst (pc := 5) (v := (-1)) hx hb dX8_wolf_5 (by decide) ?_
    refine lv_goto (pc := 6) (tgt := 14) hx hb dX8_wolf_6 (by decide) ?_
    exact z_iret cx hr hlk dX8_wolf_14 (by first | rfl | (simp [wolfP, c_1, i_nle.mp c_1]; done))
theorem k_X8_wolf {p : Program} {l : Launch} {e : Env} {R : Room} {s : State} {m : MethodId} {args : Array Value} {below : List Frame} {meth : Method} {c : Code} {H : Heap} {locs : List Loc} {cells slots : Nat} {Q : State → Prop} {cc : ByteArray} {pc index : Nat} {ls : Array Slot} {rest st0 : List Value} {E : zE} {own : String} {nL : Nat} {a : Nat → Nat} {sv im rd wa kp so sz el pr ts nu bu ht : Nat → Int32} {th po ba en td : Int32} {ig : Bool} {ij : Bool} {x : Int32} (cx : Cx E p s args m c own cc nL) (hW : WW E (wM a (E.2.1 0) sv im rd wa kp so sz el pr ts nu bu ht (bI ig) th po ba en td (bI ij)) gN H) (hI : Inv sv) (zl : Cond.methodLink own index yX8_wolf ∈ AllW) (zR : 5 + 1 ≤ R.frames ∧ 8 + (2 + 11) + 112 ≤ R.locals) (zs : ls.size = nL) (zt : st0 = ([.int x] : List Value).reverse ++ .ref (a 0) :: rest) (z8 : (rest.map fun v => v.category).sum ≤ 8) (zd : decode cc pc = .ok (.invokevirtual index, 3)) (zf : cells ≤ R.cells ∧ slots ≤ R.slots) (kk : W p l e R s m args below meth c H locs cells slots Q (F0 m (pc + 3) ls (.int (wolfP sv x) :: rest))) : W p l e R s m args below meth c H locs cells slots Q (F0 m pc ls st0) :=
  z_callV cx vm_X8_wolf (c_X8_wolf l E a sv im rd wa kp so sz el pr ts nu bu ht th po ba en td ig ij x hI) (z_rec cx.2 (hW.at 0 rfl) rfl) hW zl ⟨rfl, rfl⟩ zR rfl zs zt z8 zd zf kk
theorem vm_X8_beats : zVm yX8_beats cX8_beats 4 (some FieldType.int) 1 := ⟨m_co_X8_beats, m_in_RX8, ⟨m_im_X8_beats, m_se_X8_X8_beats⟩, by decide +kernel, by decide +kernel, by decide +kernel⟩
set_option maxHeartbeats 4000000 in
set_option maxRecDepth 100000 in
theorem c_X8_beats (l : Launch) (E : zE) (a : Nat → Nat) (sv im rd wa kp so sz el pr ts nu bu ht : Nat → Int32) (th po ba en td : Int32) (ig : Bool) (ij : Bool) (x : Int32) (hI : Inv sv) : Met l yX8_beats (.code yX8_beats cX8_beats 4 (some FieldType.int) :: AllW) (rm0' 5 112) (zP E (fun H => WW E (wM a (E.2.1 0) sv im rd wa kp so sz el pr ts nu bu ht (bI ig) th po ba en td (bI ij)) gN H) [.ref (a 0), .int x]) (rQ (.int (beatsP sv x))) 0 0 nF := by
  refine z_body (own := RX8) (by decide) rfl rfl ?_
  intro p e s m args below meth c ls cx hr hlk hnm hW hl
  have hx := cx.x
  have hb := cx.b
  have hl : lv_has ls 4 [(0, .ref (a 0)), (1, .int x)] := hl
  have hC := hI.1
  have hP10 := (Inv.n0 hC).2
  have hT7 := (Inv.n1 hC).2
  have hA24 := (Inv.n2 hC).2
  refine lv_iload_n (pc := 0) hx hb dX8_beats_0 rfl (lv_at hl 1 rfl) ?_
  refine lv_if_ge (pc := 1) (tgt := 6) hx hb dX8_beats_1 (by decide) (fun c_1 => ?_) (fun c_1 => ?_)
  · skip
    have h0 : 0 ≤ x := by simpa using c_1
    refine lv_aload_n (pc := 6) hx hb dX8_beats_6 rfl (lv_at hl 0 rfl) ?_
    refine lv_iload_n (pc := 7) hx hb dX8_beats_7 rfl (lv_at hl 1 rfl) ?_
    refine k_X8_wolfOf (pc := 8) (x := x) cx hW (by first | assumption | omega) m_ml_X8_248 ⟨Nat.le_of_ble_eq_true rfl, Nat.le_of_ble_eq_true rfl⟩ hl.1 rfl (by simp [Value.category]) dX8_beats_8 ⟨Nat.le_refl _, Nat.le_refl _⟩ ?_
    refine lv_istore_n (pc := 11) (lv' := [(2, .int (wfO sv x)), (0, .ref (a 0)), (1, .int x)]) hx hb dX8_beats_11 rfl hl (by decide) rfl (fun ls hl => ?_)
    refine lv_iload_n (pc := 12) hx hb dX8_beats_12 rfl (lv_at hl 0 rfl) ?_
    refine lv_if_ge (pc := 13) (tgt := 19) hx hb dX8_beats_13 (by decide) (fun c_2 => ?_) (fun c_2 => ?_)
    · skip
      have h1 : 0 ≤ wfO sv x := by simpa using c_2
      obtain ⟨a2, b2, ha, hb2, ew⟩ := wfO_pair h0 h1
      rw [ew] at hl h1
      have h2 := h1
      have ha10 : a2 < 10 := by omega
      have hb10 : b2 < 10 := by omega
      refine lv_aload_n (pc := 19) hx hb dX8_beats_19 rfl (lv_at hl 1 rfl) ?_
      refine lv_iload_n (pc := 20) hx hb dX8_beats_20 rfl (lv_at hl 0 rfl) ?_
      refine lv_bipush (pc := 21) (v := 10) hx hb dX8_beats_21 (by decide) ?_
      refine lv_idiv (pc := 23) hx hb dX8_beats_23 (by decide) ?_
      refine z_tope (y := nI a2) (by rw [show (10 : Int32) = nI 10 from rfl, nI_div (by omega) (by decide), show (10 * a2 + b2) / 10 = a2 by omega]) ?_
      refine k_X8_toneNow (pc := 24) (n := a2) cx hW (by first | assumption | omega) (by first | assumption | omega) m_ml_X8_133 ⟨Nat.le_of_ble_eq_true rfl, Nat.le_of_ble_eq_true rfl⟩ hl.1 rfl (by simp [Value.category]) dX8_beats_24 ⟨Nat.le_refl _, Nat.le_refl _⟩ ?_
      refine lv_aload_n (pc := 27) hx hb dX8_beats_27 rfl (lv_at hl 1 rfl) ?_
      refine lv_iload_n (pc := 28) hx hb dX8_beats_28 rfl (lv_at hl 0 rfl) ?_
      refine lv_bipush (pc := 29) (v := 10) hx hb dX8_beats_29 (by decide) ?_
      refine lv_irem (pc := 31) hx hb dX8_beats_31 (by decide) ?_
      refine z_tope (y := irm (nI (10 * a2 + b2)) 10) rfl ?_
      refine z_tope (y := nI b2) (by rw [show (10 : Int32) = nI 10 from rfl, irm_nI (by omega) (by decide), show (10 * a2 + b2) % 10 = b2 by omega]) ?_
      refine k_X8_toneNow (pc := 32) (n := b2) cx hW (by first | assumption | omega) (by first | assumption | omega) m_ml_X8_133 ⟨Nat.le_of_ble_eq_true rfl, Nat.le_of_ble_eq_true rfl⟩ hl.1 rfl (by simp [Value.category]) dX8_beats_32 ⟨Nat.le_refl _, Nat.le_refl _⟩ ?_
      refine lv_isub (pc := 35) hx hb dX8_beats_35 ?_
      refine k_X8_amount (pc := 36) (x := (tnN sv a2) - (tnN sv b2)) cx  m_ml_X8_167 ⟨Nat.le_of_ble_eq_true rfl, Nat.le_of_ble_eq_true rfl⟩ hl.1 rfl (by simp [Value.category]) dX8_beats_36 ⟨Nat.le_refl _, Nat.le_refl _⟩ ?_
      refine lv_istore_n (pc := 39) (lv' := [(3, .int (amt ((tnN sv a2) - (tnN sv b2)))), (2, .int (nI (10 * a2 + b2))), (0, .ref (a 0)), (1, .int x)]) hx hb dX8_beats_39 rfl hl (by decide) rfl (fun ls hl => ?_)
      refine lv_iload_n (pc := 40) hx hb dX8_beats_40 rfl (lv_at hl 0 rfl) ?_
      refine lv_if_ne (pc := 41) (tgt := 50) hx hb dX8_beats_41 (by decide) (fun c_3 => ?_) (fun c_3 => ?_)
      · skip
        refine lv_sipush (pc := 50) (v := 600) hx hb dX8_beats_50 (by decide) ?_
        refine lv_iload_n (pc := 53) hx hb dX8_beats_53 rfl (lv_at hl 0 rfl) ?_
        refine lv_idiv (pc := 54) hx hb dX8_beats_54 (by assumption) ?_
        exact z_iret cx hr hlk dX8_beats_55 (by first | rfl | (simp [beatsP, btO_eq ha10 hb10, c_1, ew, h1, c_3, i_nlt.mpr c_1]; done))
      · skip
        refine lv_sipush (pc := 44) (v := 600) hx hb dX8_beats_44 (by decide) ?_
        refine lv_goto (pc := 47) (tgt := 55) hx hb dX8_beats_47 (by decide) ?_
        exact z_iret cx hr hlk dX8_beats_55 (by first | rfl | (simp [beatsP, btO_eq ha10 hb10, c_1, ew, h1, c_3, i_nlt.mpr c_1]; done))
    · skip
      refine lv_bipush (pc := 16) (v := (-4)) hx hb dX8_beats_16 (by decide) ?_
      exact z_iret cx hr hlk dX8_beats_18 (by simp only [beatsP, if_pos h0]; rw [if_neg (by simpa using c_2)])
  · skip
    refine lv_iconst (pc := 4) (v := (-1)) hx hb dX8_beats_4 (by decide) ?_
    exact z_iret cx hr hlk dX8_beats_5 (by simp [beatsP, c_1, i_nle.mp c_1])
theorem k_X8_beats {p : Program} {l : Launch} {e : Env} {R : Room} {s : State} {m : MethodId} {args : Array Value} {below : List Frame} {meth : Method} {c : Code} {H : Heap} {locs : List Loc} {cells slots : Nat} {Q : State → Prop} {cc : ByteArray} {pc index : Nat} {ls : Array Slot} {rest st0 : List Value} {E : zE} {own : String} {nL : Nat} {a : Nat → Nat} {sv im rd wa kp so sz el pr ts nu bu ht : Nat → Int32} {th po ba en td : Int32} {ig : Bool} {ij : Bool} {x : Int32} (cx : Cx E p s args m c own cc nL) (hW : WW E (wM a (E.2.1 0) sv im rd wa kp so sz el pr ts nu bu ht (bI ig) th po ba en td (bI ij)) gN H) (hI : Inv sv) (zl : Cond.methodLink own index yX8_beats ∈ AllW) (zR : 5 + 1 ≤ R.frames ∧ 8 + (4 + 11) + 112 ≤ R.locals) (zs : ls.size = nL) (zt : st0 = ([.int x] : List Value).reverse ++ .ref (a 0) :: rest) (z8 : (rest.map fun v => v.category).sum ≤ 8) (zd : decode cc pc = .ok (.invokevirtual index, 3)) (zf : cells ≤ R.cells ∧ slots ≤ R.slots) (kk : W p l e R s m args below meth c H locs cells slots Q (F0 m (pc + 3) ls (.int (beatsP sv x) :: rest))) : W p l e R s m args below meth c H locs cells slots Q (F0 m pc ls st0) :=
  z_callV cx vm_X8_beats (c_X8_beats l E a sv im rd wa kp so sz el pr ts nu bu ht th po ba en td ig ij x hI) (z_rec cx.2 (hW.at 0 rfl) rfl) hW zl ⟨rfl, rfl⟩ zR rfl zs zt z8 zd zf kk
theorem vm_X8_harm : zVm yX8_harm cX8_harm 6 (some FieldType.int) 1 := ⟨m_co_X8_harm, m_in_RX8, ⟨m_im_X8_harm, m_se_X8_X8_harm⟩, by decide +kernel, by decide +kernel, by decide +kernel⟩
set_option maxHeartbeats 4000000 in
set_option maxRecDepth 100000 in
theorem c_X8_harm (l : Launch) (E : zE) (a : Nat → Nat) (sv im rd wa kp so sz el pr ts nu bu ht : Nat → Int32) (th po ba en td : Int32) (ig : Bool) (ij : Bool) (w : Int32) (hI : Inv sv) : Met l yX8_harm (.code yX8_harm cX8_harm 6 (some FieldType.int) :: AllW) (rm0' 4 91) (zP E (fun H => WW E (wM a (E.2.1 0) sv im rd wa kp so sz el pr ts nu bu ht (bI ig) th po ba en td (bI ij)) gN H) [.ref (a 0), .int w]) (rQ (.int (harmP sv w))) 0 0 nF := by
  refine z_body (own := RX8) (by decide) rfl rfl ?_
  intro p e s m args below meth c ls cx hr hlk hnm hW hl
  have hx := cx.x
  have hb := cx.b
  have hl : lv_has ls 6 [(0, .ref (a 0)), (1, .int w)] := hl
  have hC := hI.1
  have hP10 := (Inv.n0 hC).2
  have hT7 := (Inv.n1 hC).2
  have hA24 := (Inv.n2 hC).2
  refine lv_iload_n (pc := 0) hx hb dX8_harm_0 rfl (lv_at hl 1 rfl) ?_
  refine lv_i2l (pc := 1) (v := Int32.toInt64 w) hx hb dX8_harm_1 rfl ?_
  refine lv_lconst (pc := 2) (v := 0) hx hb dX8_harm_2 rfl ?_
  refine lv_ldc2 (pc := 3) (v := 20) hx hb cx.own (cx.ts _ m_kl_X8_151) dX8_harm_3 ?_
  refine k_X8_isIn (pc := 6) (x := w) (y := 0) (z := 20) cx  m_ml_X8_53 ⟨Nat.le_of_ble_eq_true rfl, Nat.le_of_ble_eq_true rfl⟩ hl.1 rfl (by simp [Value.category]) dX8_harm_6 ⟨Nat.le_refl _, Nat.le_refl _⟩ ?_
  refine z_ifne (pc := 9) (tgt := 14) hx hb dX8_harm_9 (by decide) (fun c_1 => ?_) (fun c_1 => ?_)
  · skip
    refine lv_aload_n (pc := 14) hx hb dX8_harm_14 rfl (lv_at hl 0 rfl) ?_
    refine z_getM (pc := 15) cx (hW.at 0 rfl) 0 rfl m_fl_X8_9 rfl dX8_harm_15 ?_
    refine lv_iconst (pc := 18) (v := 4) hx hb dX8_harm_18 (by decide) ?_
    refine z_iald (pc := 19) (f := sv) (j := 4) cx (hW.at 1 rfl) rfl (by decide) (by decide) dX8_harm_19 ?_
    refine lv_iload_n (pc := 20) hx hb dX8_harm_20 rfl (lv_at hl 1 rfl) ?_
    refine lv_iadd (pc := 21) hx hb dX8_harm_21 ?_
    refine lv_bipush (pc := 22) (v := 20) hx hb dX8_harm_22 (by decide) ?_
    refine lv_icmp_le (pc := 24) (tgt := 32) hx hb dX8_harm_24 (by decide) (fun c_2 => ?_) (fun c_2 => ?_)
    · skip
      have hd : dryL sv w = sv 4 + w := by simp [dryL, c_2]
      refine lv_aload_n (pc := 32) hx hb dX8_harm_32 rfl (lv_at hl 0 rfl) ?_
      refine z_getM (pc := 33) cx (hW.at 0 rfl) 0 rfl m_fl_X8_9 rfl dX8_harm_33 ?_
      refine lv_iconst (pc := 36) (v := 4) hx hb dX8_harm_36 (by decide) ?_
      refine z_iald (pc := 37) (f := sv) (j := 4) cx (hW.at 1 rfl) rfl (by decide) (by decide) dX8_harm_37 ?_
      refine lv_iload_n (pc := 38) hx hb dX8_harm_38 rfl (lv_at hl 1 rfl) ?_
      refine lv_iadd (pc := 39) hx hb dX8_harm_39 ?_
      refine lv_istore_n (pc := 40) (lv' := [(2, .int ((sv 4) + w)), (0, .ref (a 0)), (1, .int w)]) hx hb dX8_harm_40 rfl hl (by decide) rfl (fun ls hl => ?_)
      refine lv_iconst (pc := 41) (v := 0) hx hb dX8_harm_41 (by decide) ?_
      refine lv_istore_n (pc := 42) (lv' := [(3, .int 0), (2, .int ((sv 4) + w)), (0, .ref (a 0)), (1, .int w)]) hx hb dX8_harm_42 rfl hl (by decide) rfl (fun ls hl => ?_)
      refine lv_iconst (pc := 43) (v := 0) hx hb dX8_harm_43 (by decide) ?_
      refine lv_istore (pc := 44) (lv' := [(4, .int 0), (3, .int 0), (2, .int ((sv 4) + w)), (0, .ref (a 0)), (1, .int w)]) hx hb dX8_harm_44 hl (by decide) rfl (fun ls hl => ?_)
      have loop_46 : ∀ (k_46 : Nat) (i : Nat) (x4 : Int32) (x3 : Int32), (nT sv - i) < k_46 → (i ≤ nT sv) → x4 = nI i → x3 = hmN sv w i → ∀ (ls : Array Slot), lv_has ls 6 [(4, .int x4), (3, .int x3), (2, .int ((sv 4) + w)), (0, .ref (a 0)), (1, .int w)] → W p l e (rm0' (4) (91)) s m args below meth c s.heap [] 0 0 (MQ below (rQ (.int (harmP sv w))) args s 0 0 nF) (F0 m 46 ls []) := by
        intro k_46
        induction k_46 with
        | zero =>
          intro i x4 x3 hm
          exact absurd hm (Nat.not_lt_zero _)
        | succ k_46 ih_46 =>
          intro i x4 x3 hm_46 hi e_x4 e_x3  ls hl
          subst e_x4
          subst e_x3
          refine lv_iload (pc := 46) hx hb dX8_harm_46 (lv_at hl 0 rfl) ?_
          refine lv_aload_n (pc := 48) hx hb dX8_harm_48 rfl (lv_at hl 3 rfl) ?_
          refine z_getM (pc := 49) cx (hW.at 0 rfl) 0 rfl m_fl_X8_9 rfl dX8_harm_49 ?_
          refine lv_iconst (pc := 52) (v := 1) hx hb dX8_harm_52 (by decide) ?_
          refine z_iald (pc := 53) (f := sv) (j := 1) cx (hW.at 1 rfl) rfl (by decide) (by decide) dX8_harm_53 ?_
          refine lv_icmp_ge (pc := 54) (tgt := 108) hx hb dX8_harm_54 (by decide) (fun c_3 => ?_) (fun c_3 => ?_)
          · skip
            obtain rfl : i = nT sv := by have := ge_nat (a := i) rfl (Inv.n1 hC).1 (by omega) (by omega) c_3; omega
            refine lv_iload_n (pc := 108) hx hb dX8_harm_108 rfl (lv_at hl 1 rfl) ?_
            exact z_iret cx hr hlk dX8_harm_109 (by first | rfl | (simp [harmP, hmN, sumN, c_1, hd]; done))
          · skip
            have hlt_i := lt_nat (a := i) rfl (Inv.n1 hC).1 (by omega) (by omega) c_3
            refine lv_aload_n (pc := 57) hx hb dX8_harm_57 rfl (lv_at hl 3 rfl) ?_
            refine lv_iload (pc := 58) hx hb dX8_harm_58 (lv_at hl 0 rfl) ?_
            refine lv_iconst (pc := 60) (v := 0) hx hb dX8_harm_60 (by decide) ?_
            refine k_X8_of (pc := 61) (n := i) (k := 0) cx hW (by first | assumption | omega) (by first | assumption | omega) m_ml_X8_140 ⟨Nat.le_of_ble_eq_true rfl, Nat.le_of_ble_eq_true rfl⟩ hl.1 rfl (by simp [Value.category]) dX8_harm_61 ⟨Nat.le_refl _, Nat.le_refl _⟩ ?_
            refine lv_istore (pc := 64) (lv' := [(5, .int (g5 sv i 0)), (4, .int (nI i)), (3, .int (hmN sv w i)), (2, .int ((sv 4) + w)), (0, .ref (a 0)), (1, .int w)]) hx hb dX8_harm_64 hl (by decide) rfl (fun ls hl => ?_)
            refine lv_iload (pc := 66) hx hb dX8_harm_66 (lv_at hl 0 rfl) ?_
            refine lv_iconst (pc := 68) (v := 1) hx hb dX8_harm_68 (by decide) ?_
            refine lv_icmp_eq (pc := 69) (tgt := 78) hx hb dX8_harm_69 (by decide) (fun c_4 => ?_) (fun c_4 => ?_)
            · skip
              refine lv_iload_n (pc := 78) hx hb dX8_harm_78 rfl (lv_at hl 2 rfl) ?_
              refine lv_aload_n (pc := 79) hx hb dX8_harm_79 rfl (lv_at hl 4 rfl) ?_
              refine lv_iload (pc := 80) hx hb dX8_harm_80 (lv_at hl 1 rfl) ?_
              refine k_X8_strikesOf (pc := 82) (n := i) cx hW (by first | assumption | omega) (by first | assumption | omega) m_ml_X8_192 ⟨Nat.le_of_ble_eq_true rfl, Nat.le_of_ble_eq_true rfl⟩ hl.1 rfl (by simp [Value.category]) dX8_harm_82 ⟨Nat.le_refl _, Nat.le_refl _⟩ ?_
              refine lv_aload_n (pc := 85) hx hb dX8_harm_85 rfl (lv_at hl 4 rfl) ?_
              refine lv_iload (pc := 86) hx hb dX8_harm_86 (lv_at hl 1 rfl) ?_
              refine lv_aload_n (pc := 88) hx hb dX8_harm_88 rfl (lv_at hl 4 rfl) ?_
              refine lv_iload (pc := 89) hx hb dX8_harm_89 (lv_at hl 1 rfl) ?_
              refine lv_iconst (pc := 91) (v := 2) hx hb dX8_harm_91 (by decide) ?_
              refine k_X8_of (pc := 92) (n := i) (k := 2) cx hW (by first | assumption | omega) (by first | assumption | omega) m_ml_X8_140 ⟨Nat.le_of_ble_eq_true rfl, Nat.le_of_ble_eq_true rfl⟩ hl.1 rfl (by simp [Value.category]) dX8_harm_92 ⟨Nat.le_refl _, Nat.le_refl _⟩ ?_
              refine lv_iload_n (pc := 95) hx hb dX8_harm_95 rfl (lv_at hl 3 rfl) ?_
              refine k_X8_strikesWith (pc := 96) (n := i) (gap := g5 sv i 2) (dry := (sv 4) + w) cx hW (by first | assumption | omega) (by first | assumption | omega) m_ml_X8_186 ⟨Nat.le_of_ble_eq_true rfl, Nat.le_of_ble_eq_true rfl⟩ hl.1 rfl (by simp [Value.category]) dX8_harm_96 ⟨Nat.le_refl _, Nat.le_refl _⟩ ?_
              refine lv_isub (pc := 99) hx hb dX8_harm_99 ?_
              refine lv_iadd (pc := 100) hx hb dX8_harm_100 ?_
              refine lv_istore_n (pc := 101) (lv' := [(3, .int ((hmN sv w i) + ((stO sv i) - (stW sv i (g5 sv i 2) ((sv 4) + w))))), (5, .int (g5 sv i 0)), (4, .int (nI i)), (2, .int ((sv 4) + w)), (0, .ref (a 0)), (1, .int w)]) hx hb dX8_harm_101 rfl hl (by decide) rfl (fun ls hl => ?_)
              refine lv_iinc (pc := 102) (v := nI (i + 1)) (lv' := [(4, .int (nI (i + 1))), (3, .int ((hmN sv w i) + ((stO sv i) - (stW sv i (g5 sv i 2) ((sv 4) + w))))), (5, .int (g5 sv i 0)), (2, .int ((sv 4) + w)), (0, .ref (a 0)), (1, .int w)]) hx hb dX8_harm_102 hl (k := 2) rfl (nI_1 _) (by decide) rfl (fun ls hl => ?_)
              refine lv_goto (pc := 105) (tgt := 46) hx hb dX8_harm_105 (by decide) ?_
              exact ih_46 (i + 1) (nI (i + 1)) ((hmN sv w i) + ((stO sv i) - (stW sv i (g5 sv i 2) ((sv 4) + w)))) (by omega) (by omega) (by first | rfl | (simp [harmP, hmN, sumN, c_1, hd, c_4]; done)) (by first | rfl | (simp [harmP, hmN, sumN, c_1, hd, c_4]; done)) ls (lv_sub hl [0, 1, 3, 4, 5] rfl)
            · skip
              refine lv_iload (pc := 72) hx hb dX8_harm_72 (lv_at hl 0 rfl) ?_
              refine lv_iconst (pc := 74) (v := 4) hx hb dX8_harm_74 (by decide) ?_
              refine lv_icmp_ne (pc := 75) (tgt := 102) hx hb dX8_harm_75 (by decide) (fun c_5 => ?_) (fun c_5 => ?_)
              · skip
                refine lv_iinc (pc := 102) (v := nI (i + 1)) (lv' := [(4, .int (nI (i + 1))), (5, .int (g5 sv i 0)), (3, .int (hmN sv w i)), (2, .int ((sv 4) + w)), (0, .ref (a 0)), (1, .int w)]) hx hb dX8_harm_102 hl (k := 1) rfl (nI_1 _) (by decide) rfl (fun ls hl => ?_)
                refine lv_goto (pc := 105) (tgt := 46) hx hb dX8_harm_105 (by decide) ?_
                exact ih_46 (i + 1) (nI (i + 1)) (hmN sv w i) (by omega) (by omega) (by first | rfl | (simp [harmP, hmN, sumN, c_1, hd, c_4, c_5]; done)) (by first | rfl | (simp [harmP, hmN, sumN, c_1, hd, c_4, c_5]; done)) ls (lv_sub hl [0, 2, 3, 4, 5] rfl)
              · skip
                refine lv_iload_n (pc := 78) hx hb dX8_harm_78 rfl (lv_at hl 2 rfl) ?_
                refine lv_aload_n (pc := 79) hx hb dX8_harm_79 rfl (lv_at hl 4 rfl) ?_
                refine lv_iload (pc := 80) hx hb dX8_harm_80 (lv_at hl 1 rfl) ?_
                refine k_X8_strikesOf (pc := 82) (n := i) cx hW (by first | assumption | omega) (by first | assumption | omega) m_ml_X8_192 ⟨Nat.le_of_ble_eq_true rfl, Nat.le_of_ble_eq_true rfl⟩ hl.1 rfl (by simp [Value.category]) dX8_harm_82 ⟨Nat.le_refl _, Nat.le_refl _⟩ ?_
                refine lv_aload_n (pc := 85) hx hb dX8_harm_85 rfl (lv_at hl 4 rfl) ?_
                refine lv_iload (pc := 86) hx hb dX8_harm_86 (lv_at hl 1 rfl) ?_
                refine lv_aload_n (pc := 88) hx hb dX8_harm_88 rfl (lv_at hl 4 rfl) ?_
                refine lv_iload (pc := 89) hx hb dX8_harm_89 (lv_at hl 1 rfl) ?_
                refine lv_iconst (pc := 91) (v := 2) hx hb dX8_harm_91 (by decide) ?_
                refine k_X8_of (pc := 92) (n := i) (k := 2) cx hW (by first | assumption | omega) (by first | assumption | omega) m_ml_X8_140 ⟨Nat.le_of_ble_eq_true rfl, Nat.le_of_ble_eq_true rfl⟩ hl.1 rfl (by simp [Value.category]) dX8_harm_92 ⟨Nat.le_refl _, Nat.le_refl _⟩ ?_
                refine lv_iload_n (pc := 95) hx hb dX8_harm_95 rfl (lv_at hl 3 rfl) ?_
                refine k_X8_strikesWith (pc := 96) (n := i) (gap := g5 sv i 2) (dry := (sv 4) + w) cx hW (by first | assumption | omega) (by first | assumption | omega) m_ml_X8_186 ⟨Nat.le_of_ble_eq_true rfl, Nat.le_of_ble_eq_true rfl⟩ hl.1 rfl (by simp [Value.category]) dX8_harm_96 ⟨Nat.le_refl _, Nat.le_refl _⟩ ?_
                refine lv_isub (pc := 99) hx hb dX8_harm_99 ?_
                refine lv_iadd (pc := 100) hx hb dX8_harm_100 ?_
                refine lv_istore_n (pc := 101) (lv' := [(3, .int ((hmN sv w i) + ((stO sv i) - (stW sv i (g5 sv i 2) ((sv 4) + w))))), (5, .int (g5 sv i 0)), (4, .int (nI i)), (2, .int ((sv 4) + w)), (0, .ref (a 0)), (1, .int w)]) hx hb dX8_harm_101 rfl hl (by decide) rfl (fun ls hl => ?_)
                refine lv_iinc (pc := 102) (v := nI (i + 1)) (lv' := [(4, .int (nI (i + 1))), (3, .int ((hmN sv w i) + ((stO sv i) - (stW sv i (g5 sv i 2) ((sv 4) + w))))), (5, .int (g5 sv i 0)), (2, .int ((sv 4) + w)), (0, .ref (a 0)), (1, .int w)]) hx hb dX8_harm_102 hl (k := 2) rfl (nI_1 _) (by decide) rfl (fun ls hl => ?_)
                refine lv_goto (pc := 105) (tgt := 46) hx hb dX8_harm_105 (by decide) ?_
                exact ih_46 (i + 1) (nI (i + 1)) ((hmN sv w i) + ((stO sv i) - (stW sv i (g5 sv i 2) ((sv 4) + w)))) (by omega) (by omega) (by first | rfl | (simp [harmP, hmN, sumN, c_1, hd, c_4, c_5]; done)) (by first | rfl | (simp [harmP, hmN, sumN, c_1, hd, c_4, c_5]; done)) ls (lv_sub hl [0, 1, 3, 4, 5] rfl)
      exact loop_46 ((nT sv - 0) + 1) 0 0 0 (Nat.lt_succ_self _) (by omega) (by first | rfl | (simp [harmP, hmN, sumN, c_1, hd]; done)) (by first | rfl | (simp [harmP, hmN, sumN, c_1, hd]; done)) ls (lv_sub hl [0, 1, 2, 3, 4] rfl)
    · skip
      have hd : dryL sv w = 20 := by simp [dryL, c_2]
      refine lv_bipush (pc := 27) (v := 20) hx hb dX8_harm_27 (by decide) ?_
      refine lv_goto (pc := 29) (tgt := 40) hx hb dX8_harm_29 (by decide) ?_
      refine lv_istore_n (pc := 40) (lv' := [(2, .int 20), (0, .ref (a 0)), (1, .int w)]) hx hb dX8_harm_40 rfl hl (by decide) rfl (fun ls hl => ?_)
      refine lv_iconst (pc := 41) (v := 0) hx hb dX8_harm_41 (by decide) ?_
      refine lv_istore_n (pc := 42) (lv' := [(3, .int 0), (2, .int 20), (0, .ref (a 0)), (1, .int w)]) hx hb dX8_harm_42 rfl hl (by decide) rfl (fun ls hl => ?_)
      refine lv_iconst (pc := 43) (v := 0) hx hb dX8_harm_43 (by decide) ?_
      refine lv_istore (pc := 44) (lv' := [(4, .int 0), (3, .int 0), (2, .int 20), (0, .ref (a 0)), (1, .int w)]) hx hb dX8_harm_44 hl (by decide) rfl (fun ls hl => ?_)
      have loop_46 : ∀ (k_46 : Nat) (i : Nat) (x4 : Int32) (x3 : Int32), (nT sv - i) < k_46 → (i ≤ nT sv) → x4 = nI i → x3 = hmN sv w i → ∀ (ls : Array Slot), lv_has ls 6 [(4, .int x4), (3, .int x3), (2, .int 20), (0, .ref (a 0)), (1, .int w)] → W p l e (rm0' (4) (91)) s m args below meth c s.heap [] 0 0 (MQ below (rQ (.int (harmP sv w))) args s 0 0 nF) (F0 m 46 ls []) := by
        intro k_46
        induction k_46 with
        | zero =>
          intro i x4 x3 hm
          exact absurd hm (Nat.not_lt_zero _)
        | succ k_46 ih_46 =>
          intro i x4 x3 hm_46 hi e_x4 e_x3  ls hl
          subst e_x4
          subst e_x3
          refine lv_iload (pc := 46) hx hb dX8_harm_46 (lv_at hl 0 rfl) ?_
          refine lv_aload_n (pc := 48) hx hb dX8_harm_48 rfl (lv_at hl 3 rfl) ?_
          refine z_getM (pc := 49) cx (hW.at 0 rfl) 0 rfl m_fl_X8_9 rfl dX8_harm_49 ?_
          refine lv_iconst (pc := 52) (v := 1) hx hb dX8_harm_52 (by decide) ?_
          refine z_iald (pc := 53) (f := sv) (j := 1) cx (hW.at 1 rfl) rfl (by decide) (by decide) dX8_harm_53 ?_
          refine lv_icmp_ge (pc := 54) (tgt := 108) hx hb dX8_harm_54 (by decide) (fun c_6 => ?_) (fun c_6 => ?_)
          · skip
            obtain rfl : i = nT sv := by have := ge_nat (a := i) rfl (Inv.n1 hC).1 (by omega) (by omega) c_6; omega
            refine lv_iload_n (pc := 108) hx hb dX8_harm_108 rfl (lv_at hl 1 rfl) ?_
            exact z_iret cx hr hlk dX8_harm_109 (by first | rfl | (simp [harmP, hmN, sumN, c_1, hd]; done))
          · skip
            have hlt_i := lt_nat (a := i) rfl (Inv.n1 hC).1 (by omega) (by omega) c_6
            refine lv_aload_n (pc := 57) hx hb dX8_harm_57 rfl (lv_at hl 3 rfl) ?_
            refine lv_iload (pc := 58) hx hb dX8_harm_58 (lv_at hl 0 rfl) ?_
            refine lv_iconst (pc := 60) (v := 0) hx hb dX8_harm_60 (by decide) ?_
            refine k_X8_of (pc := 61) (n := i) (k := 0) cx hW (by first | assumption | omega) (by first | assumption | omega) m_ml_X8_140 ⟨Nat.le_of_ble_eq_true rfl, Nat.le_of_ble_eq_true rfl⟩ hl.1 rfl (by simp [Value.category]) dX8_harm_61 ⟨Nat.le_refl _, Nat.le_refl _⟩ ?_
            refine lv_istore (pc := 64) (lv' := [(5, .int (g5 sv i 0)), (4, .int (nI i)), (3, .int (hmN sv w i)), (2, .int 20), (0, .ref (a 0)), (1, .int w)]) hx hb dX8_harm_64 hl (by decide) rfl (fun ls hl => ?_)
            refine lv_iload (pc := 66) hx hb dX8_harm_66 (lv_at hl 0 rfl) ?_
            refine lv_iconst (pc := 68) (v := 1) hx hb dX8_harm_68 (by decide) ?_
            refine lv_icmp_eq (pc := 69) (tgt := 78) hx hb dX8_harm_69 (by decide) (fun c_7 => ?_) (fun c_7 => ?_)
            · skip
              refine lv_iload_n (pc := 78) hx hb dX8_harm_78 rfl (lv_at hl 2 rfl) ?_
              refine lv_aload_n (pc := 79) hx hb dX8_harm_79 rfl (lv_at hl 4 rfl) ?_
              refine lv_iload (pc := 80) hx hb dX8_harm_80 (lv_at hl 1 rfl) ?_
              refine k_X8_strikesOf (pc := 82) (n := i) cx hW (by first | assumption | omega) (by first | assumption | omega) m_ml_X8_192 ⟨Nat.le_of_ble_eq_true rfl, Nat.le_of_ble_eq_true rfl⟩ hl.1 rfl (by simp [Value.category]) dX8_harm_82 ⟨Nat.le_refl _, Nat.le_refl _⟩ ?_
              refine lv_aload_n (pc := 85) hx hb dX8_harm_85 rfl (lv_at hl 4 rfl) ?_
              refine lv_iload (pc := 86) hx hb dX8_harm_86 (lv_at hl 1 rfl) ?_
              refine lv_aload_n (pc := 88) hx hb dX8_harm_88 rfl (lv_at hl 4 rfl) ?_
              refine lv_iload (pc := 89) hx hb dX8_harm_89 (lv_at hl 1 rfl) ?_
              refine lv_iconst (pc := 91) (v := 2) hx hb dX8_harm_91 (by decide) ?_
              refine k_X8_of (pc := 92) (n := i) (k := 2) cx hW (by first | assumption | omega) (by first | assumption | omega) m_ml_X8_140 ⟨Nat.le_of_ble_eq_true rfl, Nat.le_of_ble_eq_true rfl⟩ hl.1 rfl (by simp [Value.category]) dX8_harm_92 ⟨Nat.le_refl _, Nat.le_refl _⟩ ?_
              refine lv_iload_n (pc := 95) hx hb dX8_harm_95 rfl (lv_at hl 3 rfl) ?_
              refine k_X8_strikesWith (pc := 96) (n := i) (gap := g5 sv i 2) (dry := 20) cx hW (by first | assumption | omega) (by first | assumption | omega) m_ml_X8_186 ⟨Nat.le_of_ble_eq_true rfl, Nat.le_of_ble_eq_true rfl⟩ hl.1 rfl (by simp [Value.category]) dX8_harm_96 ⟨Nat.le_refl _, Nat.le_refl _⟩ ?_
              refine lv_isub (pc := 99) hx hb dX8_harm_99 ?_
              refine lv_iadd (pc := 100) hx hb dX8_harm_100 ?_
              refine lv_istore_n (pc := 101) (lv' := [(3, .int ((hmN sv w i) + ((stO sv i) - (stW sv i (g5 sv i 2) 20)))), (5, .int (g5 sv i 0)), (4, .int (nI i)), (2, .int 20), (0, .ref (a 0)), (1, .int w)]) hx hb dX8_harm_101 rfl hl (by decide) rfl (fun ls hl => ?_)
              refine lv_iinc (pc := 102) (v := nI (i + 1)) (lv' := [(4, .int (nI (i + 1))), (3, .int ((hmN sv w i) + ((stO sv i) - (stW sv i (g5 sv i 2) 20)))), (5, .int (g5 sv i 0)), (2, .int 20), (0, .ref (a 0)), (1, .int w)]) hx hb dX8_harm_102 hl (k := 2) rfl (nI_1 _) (by decide) rfl (fun ls hl => ?_)
              refine lv_goto (pc := 105) (tgt := 46) hx hb dX8_harm_105 (by decide) ?_
              exact ih_46 (i + 1) (nI (i + 1)) ((hmN sv w i) + ((stO sv i) - (stW sv i (g5 sv i 2) 20))) (by omega) (by omega) (by first | rfl | (simp [harmP, hmN, sumN, c_1, hd, c_7]; done)) (by first | rfl | (simp [harmP, hmN, sumN, c_1, hd, c_7]; done)) ls (lv_sub hl [0, 1, 3, 4, 5] rfl)
            · skip
              refine lv_iload (pc := 72) hx hb dX8_harm_72 (lv_at hl 0 rfl) ?_
              refine lv_iconst (pc := 74) (v := 4) hx hb dX8_harm_74 (by decide) ?_
              refine lv_icmp_ne (pc := 75) (tgt := 102) hx hb dX8_harm_75 (by decide) (fun c_8 => ?_) (fun c_8 => ?_)
              · skip
                refine lv_iinc (pc := 102) (v := nI (i + 1)) (lv' := [(4, .int (nI (i + 1))), (5, .int (g5 sv i 0)), (3, .int (hmN sv w i)), (2, .int 20), (0, .ref (a 0)), (1, .int w)]) hx hb dX8_harm_102 hl (k := 1) rfl (nI_1 _) (by decide) rfl (fun ls hl => ?_)
                refine lv_goto (pc := 105) (tgt := 46) hx hb dX8_harm_105 (by decide) ?_
                exact ih_46 (i + 1) (nI (i + 1)) (hmN sv w i) (by omega) (by omega) (by first | rfl | (simp [harmP, hmN, sumN, c_1, hd, c_7, c_8]; done)) (by first | rfl | (simp [harmP, hmN, sumN, c_1, hd, c_7, c_8]; done)) ls (lv_sub hl [0, 2, 3, 4, 5] rfl)
              · skip
                refine lv_iload_n (pc := 78) hx hb dX8_harm_78 rfl (lv_at hl 2 rfl) ?_
                refine lv_aload_n (pc := 79) hx hb dX8_harm_79 rfl (lv_at hl 4 rfl) ?_
                refine lv_iload (pc := 80) hx hb dX8_harm_80 (lv_at hl 1 rfl) ?_
                refine k_X8_strikesOf (pc := 82) (n := i) cx hW (by first | assumption | omega) (by first | assumption | omega) m_ml_X8_192 ⟨Nat.le_of_ble_eq_true rfl, Nat.le_of_ble_eq_true rfl⟩ hl.1 rfl (by simp [Value.category]) dX8_harm_82 ⟨Nat.le_refl _, Nat.le_refl _⟩ ?_
                refine lv_aload_n (pc := 85) hx hb dX8_harm_85 rfl (lv_at hl 4 rfl) ?_
                refine lv_iload (pc := 86) hx hb dX8_harm_86 (lv_at hl 1 rfl) ?_
                refine lv_aload_n (pc := 88) hx hb dX8_harm_88 rfl (lv_at hl 4 rfl) ?_
                refine lv_iload (pc := 89) hx hb dX8_harm_89 (lv_at hl 1 rfl) ?_
                refine lv_iconst (pc := 91) (v := 2) hx hb dX8_harm_91 (by decide) ?_
                refine k_X8_of (pc := 92) (n := i) (k := 2) cx hW (by first | assumption | omega) (by first | assumption | omega) m_ml_X8_140 ⟨Nat.le_of_ble_eq_true rfl, Nat.le_of_ble_eq_true rfl⟩ hl.1 rfl (by simp [Value.category]) dX8_harm_92 ⟨Nat.le_refl _, Nat.le_refl _⟩ ?_
                refine lv_iload_n (pc := 95) hx hb dX8_harm_95 rfl (lv_at hl 3 rfl) ?_
                refine k_X8_strikesWith (pc := 96) (n := i) (gap := g5 sv i 2) (dry := 20) cx hW (by first | assumption | omega) (by first | assumption | omega) m_ml_X8_186 ⟨Nat.le_of_ble_eq_true rfl, Nat.le_of_ble_eq_true rfl⟩ hl.1 rfl (by simp [Value.category]) dX8_harm_96 ⟨Nat.le_refl _, Nat.le_refl _⟩ ?_
                refine lv_isub (pc := 99) hx hb dX8_harm_99 ?_
                refine lv_iadd (pc := 100) hx hb dX8_harm_100 ?_
                refine lv_istore_n (pc := 101) (lv' := [(3, .int ((hmN sv w i) + ((stO sv i) - (stW sv i (g5 sv i 2) 20)))), (5, .int (g5 sv i 0)), (4, .int (nI i)), (2, .int 20), (0, .ref (a 0)), (1, .int w)]) hx hb dX8_harm_101 rfl hl (by decide) rfl (fun ls hl => ?_)
                refine lv_iinc (pc := 102) (v := nI (i + 1)) (lv' := [(4, .int (nI (i + 1))), (3, .int ((hmN sv w i) + ((stO sv i) - (stW sv i (g5 sv i 2) 20)))), (5, .int (g5 sv i 0)), (2, .int 20), (0, .ref (a 0)), (1, .int w)]) hx hb dX8_harm_102 hl (k := 2) rfl (nI_1 _) (by decide) rfl (fun ls hl => ?_)
                refine lv_goto (pc := 105) (tgt := 46) hx hb dX8_harm_105 (by decide) ?_
                exact ih_46 (i + 1) (nI (i + 1)) ((hmN sv w i) + ((stO sv i) - (stW sv i (g5 sv i 2) 20))) (by omega) (by omega) (by first | rfl | (simp [harmP, hmN, sumN, c_1, hd, c_7, c_8]; done)) (by first | rfl | (simp [harmP, hmN, sumN, c_1, hd, c_7, c_8]; done)) ls (lv_sub hl [0, 1, 3, 4, 5] rfl)
      exact loop_46 ((nT sv - 0) + 1) 0 0 0 (Nat.lt_succ_self _) (by omega) (by first | rfl | (simp [harmP, hmN, sumN, c_1, hd]; done)) (by first | rfl | (simp [harmP, hmN, sumN, c_1, hd]; done)) ls (lv_sub hl [0, 1, 2, 3, 4] rfl)
  · skip
    refine lv_iconst (pc := 12) (v := (-1)) hx hb dX8_harm_12 (by decide) ?_
    exact z_iret cx hr hlk dX8_harm_13 (by first | rfl | (simp [harmP, hmN, sumN, c_1]; done))
theorem k_X8_harm {p : Program} {l : Launch} {e : Env} {R : Room} {s : State} {m : MethodId} {args : Array Value} {below : List Frame} {meth : Method} {c : Code} {H : Heap} {locs : List Loc} {cells slots : Nat} {Q : State → Prop} {cc : ByteArray} {pc index : Nat} {ls : Array Slot} {rest st0 : List Value} {E : zE} {own : String} {nL : Nat} {a : Nat → Nat} {sv im rd wa kp so sz el pr ts nu bu ht : Nat → Int32} {th po ba en td : Int32} {ig : Bool} {ij : Bool} {w : Int32} (cx : Cx E p s args m c own cc nL) (hW : WW E (wM a (E.2.1 0) sv im rd wa kp so sz el pr ts nu bu ht (bI ig) th po ba en td (bI ij)) gN H) (hI : Inv sv) (zl : Cond.methodLink own index yX8_harm ∈ AllW) (zR : 4 + 1 ≤ R.frames ∧ 8 + (6 + 11) + 91 ≤ R.locals) (zs : ls.size = nL) (zt : st0 = ([.int w] : List Value).reverse ++ .ref (a 0) :: rest) (z8 : (rest.map fun v => v.category).sum ≤ 8) (zd : decode cc pc = .ok (.invokevirtual index, 3)) (zf : cells ≤ R.cells ∧ slots ≤ R.slots) (kk : W p l e R s m args below meth c H locs cells slots Q (F0 m (pc + 3) ls (.int (harmP sv w) :: rest))) : W p l e R s m args below meth c H locs cells slots Q (F0 m pc ls st0) :=
  z_callV cx vm_X8_harm (c_X8_harm l E a sv im rd wa kp so sz el pr ts nu bu ht th po ba en td ig ij w hI) (z_rec cx.2 (hW.at 0 rfl) rfl) hW zl ⟨rfl, rfl⟩ zR rfl zs zt z8 zd zf kk
theorem vm_X8_count : zVm yX8_count cX8_count 4 (some FieldType.int) 1 := ⟨m_co_X8_count, m_in_RX8, ⟨m_im_X8_count, m_se_X8_X8_count⟩, by decide +kernel, by decide +kernel, by decide +kernel⟩
set_option maxHeartbeats 4000000 in
set_option maxRecDepth 100000 in
theorem c_X8_count (l : Launch) (E : zE) (a : Nat → Nat) (sv im rd wa kp so sz el pr ts nu bu ht : Nat → Int32) (th po ba en td : Int32) (ig : Bool) (ij : Bool) (w : Int32) (hI : Inv sv) : Met l yX8_count (.code yX8_count cX8_count 4 (some FieldType.int) :: AllW) (rm0' 2 45) (zP E (fun H => WW E (wM a (E.2.1 0) sv im rd wa kp so sz el pr ts nu bu ht (bI ig) th po ba en td (bI ij)) gN H) [.ref (a 0), .int w]) (rQ (.int (countP sv w))) 0 0 nF := by
  refine z_body (own := RX8) (by decide) rfl rfl ?_
  intro p e s m args below meth c ls cx hr hlk hnm hW hl
  have hx := cx.x
  have hb := cx.b
  have hl : lv_has ls 4 [(0, .ref (a 0)), (1, .int w)] := hl
  have hC := hI.1
  have hP10 := (Inv.n0 hC).2
  have hT7 := (Inv.n1 hC).2
  have hA24 := (Inv.n2 hC).2
  refine lv_iconst (pc := 0) (v := 0) hx hb dX8_count_0 (by decide) ?_
  refine lv_istore_n (pc := 1) (lv' := [(2, .int 0), (0, .ref (a 0)), (1, .int w)]) hx hb dX8_count_1 rfl hl (by decide) rfl (fun ls hl => ?_)
  refine lv_iload_n (pc := 2) hx hb dX8_count_2 rfl (lv_at hl 2 rfl) ?_
  by_cases c_1 : w = 0
  · subst c_1
    refine lv_tableIn (pc := 3) (tgt := 40) hx hb dX8_count_3 (by decide) (by decide) rfl (by decide) ?_
    refine lv_aload_n (pc := 40) hx hb dX8_count_40 rfl (lv_at hl 1 rfl) ?_
    refine z_getM (pc := 41) cx (hW.at 0 rfl) 0 rfl m_fl_X8_9 rfl dX8_count_41 ?_
    refine lv_iload_n (pc := 44) hx hb dX8_count_44 rfl (lv_at hl 2 rfl) ?_
    refine z_iald (pc := 45) (f := sv) (j := 0) cx (hW.at 1 rfl) rfl (by decide) (by decide) dX8_count_45 ?_
    exact z_iret cx hr hlk dX8_count_46 (by first | rfl | (simp [countP, sumN, bI]; done))
  by_cases c_2 : w = 1
  · subst c_2
    refine lv_tableIn (pc := 3) (tgt := 40) hx hb dX8_count_3 (by decide) (by decide) rfl (by decide) ?_
    refine lv_aload_n (pc := 40) hx hb dX8_count_40 rfl (lv_at hl 1 rfl) ?_
    refine z_getM (pc := 41) cx (hW.at 0 rfl) 0 rfl m_fl_X8_9 rfl dX8_count_41 ?_
    refine lv_iload_n (pc := 44) hx hb dX8_count_44 rfl (lv_at hl 2 rfl) ?_
    refine z_iald (pc := 45) (f := sv) (j := 1) cx (hW.at 1 rfl) rfl (by decide) (by decide) dX8_count_45 ?_
    exact z_iret cx hr hlk dX8_count_46 (by first | rfl | (simp [countP, sumN, bI, c_1]; done))
  by_cases c_3 : w = 2
  · subst c_3
    refine lv_tableIn (pc := 3) (tgt := 40) hx hb dX8_count_3 (by decide) (by decide) rfl (by decide) ?_
    refine lv_aload_n (pc := 40) hx hb dX8_count_40 rfl (lv_at hl 1 rfl) ?_
    refine z_getM (pc := 41) cx (hW.at 0 rfl) 0 rfl m_fl_X8_9 rfl dX8_count_41 ?_
    refine lv_iload_n (pc := 44) hx hb dX8_count_44 rfl (lv_at hl 2 rfl) ?_
    refine z_iald (pc := 45) (f := sv) (j := 2) cx (hW.at 1 rfl) rfl (by decide) (by decide) dX8_count_45 ?_
    exact z_iret cx hr hlk dX8_count_46 (by first | rfl | (simp [countP, sumN, bI, c_1, c_2]; done))
  by_cases c_4 : w = 3
  · subst c_4
    refine lv_tableIn (pc := 3) (tgt := 47) hx hb dX8_count_3 (by decide) (by decide) rfl (by decide) ?_
    refine lv_iconst (pc := 47) (v := 0) hx hb dX8_count_47 (by decide) ?_
    refine lv_istore_n (pc := 48) (lv' := [(3, .int 0), (2, .int 0), (0, .ref (a 0)), (1, .int 3)]) hx hb dX8_count_48 rfl hl (by decide) rfl (fun ls hl => ?_)
    have loop_49 : ∀ (k_49 : Nat) (i : Nat) (x3 : Int32) (x2 : Int32), (nP sv - i) < k_49 → (i ≤ nP sv) → x3 = nI i → x2 = sumN (fun n => g6 sv n 5) i → ∀ (ls : Array Slot), lv_has ls 4 [(3, .int x3), (2, .int x2), (0, .ref (a 0)), (1, .int 3)] → W p l e (rm0' (2) (45)) s m args below meth c s.heap [] 0 0 (MQ below (rQ (.int (countP sv 3))) args s 0 0 nF) (F0 m 49 ls []) := by
      intro k_49
      induction k_49 with
      | zero =>
        intro i x3 x2 hm
        exact absurd hm (Nat.not_lt_zero _)
      | succ k_49 ih_49 =>
        intro i x3 x2 hm_49 hi e_x3 e_x2  ls hl
        subst e_x3
        subst e_x2
        refine lv_iload_n (pc := 49) hx hb dX8_count_49 rfl (lv_at hl 0 rfl) ?_
        refine lv_aload_n (pc := 50) hx hb dX8_count_50 rfl (lv_at hl 2 rfl) ?_
        refine z_getM (pc := 51) cx (hW.at 0 rfl) 0 rfl m_fl_X8_9 rfl dX8_count_51 ?_
        refine lv_iconst (pc := 54) (v := 0) hx hb dX8_count_54 (by decide) ?_
        refine z_iald (pc := 55) (f := sv) (j := 0) cx (hW.at 1 rfl) rfl (by decide) (by decide) dX8_count_55 ?_
        refine lv_icmp_ge (pc := 56) (tgt := 74) hx hb dX8_count_56 (by decide) (fun c_5 => ?_) (fun c_5 => ?_)
        · skip
          obtain rfl : i = nP sv := by have := ge_nat (a := i) rfl (Inv.n0 hC).1 (by omega) (by omega) c_5; omega
          refine lv_iload_n (pc := 74) hx hb dX8_count_74 rfl (lv_at hl 1 rfl) ?_
          exact z_iret cx hr hlk dX8_count_75 (by first | rfl | (simp [countP, sumN, bI, c_1, c_2, c_3]; done))
        · skip
          have hlt_i := lt_nat (a := i) rfl (Inv.n0 hC).1 (by omega) (by omega) c_5
          refine lv_iload_n (pc := 59) hx hb dX8_count_59 rfl (lv_at hl 1 rfl) ?_
          refine lv_aload_n (pc := 60) hx hb dX8_count_60 rfl (lv_at hl 2 rfl) ?_
          refine lv_iload_n (pc := 61) hx hb dX8_count_61 rfl (lv_at hl 0 rfl) ?_
          refine lv_iconst (pc := 62) (v := 5) hx hb dX8_count_62 (by decide) ?_
          refine k_X8_get (pc := 63) (n := i) (k := 5) cx hW (by first | assumption | omega) (by first | assumption | omega) m_ml_X8_124 ⟨Nat.le_of_ble_eq_true rfl, Nat.le_of_ble_eq_true rfl⟩ hl.1 rfl (by simp [Value.category]) dX8_count_63 ⟨Nat.le_refl _, Nat.le_refl _⟩ ?_
          refine lv_iadd (pc := 66) hx hb dX8_count_66 ?_
          refine lv_istore_n (pc := 67) (lv' := [(2, .int ((sumN (fun n => g6 sv n 5) i) + (g6 sv i 5))), (3, .int (nI i)), (0, .ref (a 0)), (1, .int 3)]) hx hb dX8_count_67 rfl hl (by decide) rfl (fun ls hl => ?_)
          refine lv_iinc (pc := 68) (v := nI (i + 1)) (lv' := [(3, .int (nI (i + 1))), (2, .int ((sumN (fun n => g6 sv n 5) i) + (g6 sv i 5))), (0, .ref (a 0)), (1, .int 3)]) hx hb dX8_count_68 hl (k := 1) rfl (nI_1 _) (by decide) rfl (fun ls hl => ?_)
          refine lv_goto (pc := 71) (tgt := 49) hx hb dX8_count_71 (by decide) ?_
          exact ih_49 (i + 1) (nI (i + 1)) ((sumN (fun n => g6 sv n 5) i) + (g6 sv i 5)) (by omega) (by omega) (by first | rfl | (simp [countP, sumN, bI, c_1, c_2, c_3]; done)) (by first | rfl | (simp [countP, sumN, bI, c_1, c_2, c_3]; done)) ls (lv_sub hl [0, 1, 2, 3] rfl)
    exact loop_49 ((nP sv - 0) + 1) 0 0 0 (Nat.lt_succ_self _) (by omega) (by first | rfl | (simp [countP, sumN, bI, c_1, c_2, c_3]; done)) (by first | rfl | (simp [countP, sumN, bI, c_1, c_2, c_3]; done)) ls (lv_sub hl [0, 1, 2, 3] rfl)
  by_cases c_6 : w = 4
  · subst c_6
    refine lv_tableIn (pc := 3) (tgt := 76) hx hb dX8_count_3 (by decide) (by decide) rfl (by decide) ?_
    refine lv_iconst (pc := 76) (v := 0) hx hb dX8_count_76 (by decide) ?_
    refine lv_istore_n (pc := 77) (lv' := [(3, .int 0), (2, .int 0), (0, .ref (a 0)), (1, .int 4)]) hx hb dX8_count_77 rfl hl (by decide) rfl (fun ls hl => ?_)
    have loop_78 : ∀ (k_78 : Nat) (i : Nat) (x3 : Int32) (x2 : Int32), (nA sv - i) < k_78 → (i ≤ nA sv) → x3 = nI i → x2 = sumN (fun i => bI (hdA sv i)) i → ∀ (ls : Array Slot), lv_has ls 4 [(3, .int x3), (2, .int x2), (0, .ref (a 0)), (1, .int 4)] → W p l e (rm0' (2) (45)) s m args below meth c s.heap [] 0 0 (MQ below (rQ (.int (countP sv 4))) args s 0 0 nF) (F0 m 78 ls []) := by
      intro k_78
      induction k_78 with
      | zero =>
        intro i x3 x2 hm
        exact absurd hm (Nat.not_lt_zero _)
      | succ k_78 ih_78 =>
        intro i x3 x2 hm_78 hi e_x3 e_x2  ls hl
        subst e_x3
        subst e_x2
        refine lv_iload_n (pc := 78) hx hb dX8_count_78 rfl (lv_at hl 0 rfl) ?_
        refine lv_aload_n (pc := 79) hx hb dX8_count_79 rfl (lv_at hl 2 rfl) ?_
        refine z_getM (pc := 80) cx (hW.at 0 rfl) 0 rfl m_fl_X8_9 rfl dX8_count_80 ?_
        refine lv_iconst (pc := 83) (v := 2) hx hb dX8_count_83 (by decide) ?_
        refine z_iald (pc := 84) (f := sv) (j := 2) cx (hW.at 1 rfl) rfl (by decide) (by decide) dX8_count_84 ?_
        refine lv_icmp_ge (pc := 85) (tgt := 110) hx hb dX8_count_85 (by decide) (fun c_7 => ?_) (fun c_7 => ?_)
        · skip
          obtain rfl : i = nA sv := by have := ge_nat (a := i) rfl (Inv.n2 hC).1 (by omega) (by omega) c_7; omega
          refine lv_iload_n (pc := 110) hx hb dX8_count_110 rfl (lv_at hl 1 rfl) ?_
          exact z_iret cx hr hlk dX8_count_111 (by first | rfl | (simp [countP, sumN, bI, c_1, c_2, c_3, c_4]; done))
        · skip
          have hlt_i := lt_nat (a := i) rfl (Inv.n2 hC).1 (by omega) (by omega) c_7
          refine lv_iload_n (pc := 88) hx hb dX8_count_88 rfl (lv_at hl 1 rfl) ?_
          refine lv_aload_n (pc := 89) hx hb dX8_count_89 rfl (lv_at hl 2 rfl) ?_
          refine lv_iload_n (pc := 90) hx hb dX8_count_90 rfl (lv_at hl 0 rfl) ?_
          refine k_X8_isHeard (pc := 91) (n := i) cx hW (by first | assumption | omega) m_ml_X8_211 ⟨Nat.le_of_ble_eq_true rfl, Nat.le_of_ble_eq_true rfl⟩ hl.1 rfl (by simp [Value.category]) dX8_count_91 ⟨Nat.le_refl _, Nat.le_refl _⟩ ?_
          refine z_ifeq (pc := 94) (tgt := 101) hx hb dX8_count_94 (by decide) (fun c_8 => ?_) (fun c_8 => ?_)
          · skip
            refine lv_iconst (pc := 101) (v := 0) hx hb dX8_count_101 (by decide) ?_
            refine lv_iadd (pc := 102) hx hb dX8_count_102 ?_
            refine lv_istore_n (pc := 103) (lv' := [(2, .int ((sumN (fun i => bI (hdA sv i)) i) + 0)), (3, .int (nI i)), (0, .ref (a 0)), (1, .int 4)]) hx hb dX8_count_103 rfl hl (by decide) rfl (fun ls hl => ?_)
            refine lv_iinc (pc := 104) (v := nI (i + 1)) (lv' := [(3, .int (nI (i + 1))), (2, .int ((sumN (fun i => bI (hdA sv i)) i) + 0)), (0, .ref (a 0)), (1, .int 4)]) hx hb dX8_count_104 hl (k := 1) rfl (nI_1 _) (by decide) rfl (fun ls hl => ?_)
            refine lv_goto (pc := 107) (tgt := 78) hx hb dX8_count_107 (by decide) ?_
            exact ih_78 (i + 1) (nI (i + 1)) ((sumN (fun i => bI (hdA sv i)) i) + 0) (by omega) (by omega) (by first | rfl | (simp [countP, sumN, bI, c_1, c_2, c_3, c_4, c_8]; done)) (by first | rfl | (simp [countP, sumN, bI, c_1, c_2, c_3, c_4, c_8]; done)) ls (lv_sub hl [0, 1, 2, 3] rfl)
          · skip
            refine lv_iconst (pc := 97) (v := 1) hx hb dX8_count_97 (by decide) ?_
            refine lv_goto (pc := 98) (tgt := 102) hx hb dX8_count_98 (by decide) ?_
            refine lv_iadd (pc := 102) hx hb dX8_count_102 ?_
            refine lv_istore_n (pc := 103) (lv' := [(2, .int ((sumN (fun i => bI (hdA sv i)) i) + 1)), (3, .int (nI i)), (0, .ref (a 0)), (1, .int 4)]) hx hb dX8_count_103 rfl hl (by decide) rfl (fun ls hl => ?_)
            refine lv_iinc (pc := 104) (v := nI (i + 1)) (lv' := [(3, .int (nI (i + 1))), (2, .int ((sumN (fun i => bI (hdA sv i)) i) + 1)), (0, .ref (a 0)), (1, .int 4)]) hx hb dX8_count_104 hl (k := 1) rfl (nI_1 _) (by decide) rfl (fun ls hl => ?_)
            refine lv_goto (pc := 107) (tgt := 78) hx hb dX8_count_107 (by decide) ?_
            exact ih_78 (i + 1) (nI (i + 1)) ((sumN (fun i => bI (hdA sv i)) i) + 1) (by omega) (by omega) (by first | rfl | (simp [countP, sumN, bI, c_1, c_2, c_3, c_4, c_8]; done)) (by first | rfl | (simp [countP, sumN, bI, c_1, c_2, c_3, c_4, c_8]; done)) ls (lv_sub hl [0, 1, 2, 3] rfl)
    exact loop_78 ((nA sv - 0) + 1) 0 0 0 (Nat.lt_succ_self _) (by omega) (by first | rfl | (simp [countP, sumN, bI, c_1, c_2, c_3, c_4]; done)) (by first | rfl | (simp [countP, sumN, bI, c_1, c_2, c_3, c_4]; done)) ls (lv_sub hl [0, 1, 2, 3] rfl)
  by_cases c_9 : w = 5
  · subst c_9
    refine lv_tableIn (pc := 3) (tgt := 112) hx hb dX8_count_3 (by decide) (by decide) rfl (by decide) ?_
    refine lv_aload_n (pc := 112) hx hb dX8_count_112 rfl (lv_at hl 1 rfl) ?_
    refine lv_bipush (pc := 113) (v := 127) hx hb dX8_count_113 (by decide) ?_
    refine k_X8_chancesOf (pc := 115) (set := 127) cx hW (by first | assumption | omega) m_ml_X8_226 ⟨Nat.le_of_ble_eq_true rfl, Nat.le_of_ble_eq_true rfl⟩ hl.1 rfl (by simp [Value.category]) dX8_count_115 ⟨Nat.le_refl _, Nat.le_refl _⟩ ?_
    exact z_iret cx hr hlk dX8_count_118 (by first | rfl | (simp [countP, sumN, bI, c_1, c_2, c_3, c_4, c_6]; done))
  refine lv_tableOut (pc := 3) (tgt := 119) hx hb dX8_count_3 (by have := lv_neT c_1 (a := 0) (by decide); have := lv_neT c_2 (a := 1) (by decide); have := lv_neT c_3 (a := 2) (by decide); have := lv_neT c_4 (a := 3) (by decide); have := lv_neT c_6 (a := 4) (by decide); have := lv_neT c_9 (a := 5) (by decide); omega) (by decide) ?_
  refine lv_iconst (pc := 119) (v := (-1)) hx hb dX8_count_119 (by decide) ?_
  exact z_iret cx hr hlk dX8_count_120 (by first | rfl | (simp [countP, sumN, bI, c_1, c_2, c_3, c_4, c_6, c_9]; done))
theorem k_X8_count {p : Program} {l : Launch} {e : Env} {R : Room} {s : State} {m : MethodId} {args : Array Value} {below : List Frame} {meth : Method} {c : Code} {H : Heap} {locs : List Loc} {cells slots : Nat} {Q : State → Prop} {cc : ByteArray} {pc index : Nat} {ls : Array Slot} {rest st0 : List Value} {E : zE} {own : String} {nL : Nat} {a : Nat → Nat} {sv im rd wa kp so sz el pr ts nu bu ht : Nat → Int32} {th po ba en td : Int32} {ig : Bool} {ij : Bool} {w : Int32} (cx : Cx E p s args m c own cc nL) (hW : WW E (wM a (E.2.1 0) sv im rd wa kp so sz el pr ts nu bu ht (bI ig) th po ba en td (bI ij)) gN H) (hI : Inv sv) (zl : Cond.methodLink own index yX8_count ∈ AllW) (zR : 2 + 1 ≤ R.frames ∧ 8 + (4 + 11) + 45 ≤ R.locals) (zs : ls.size = nL) (zt : st0 = ([.int w] : List Value).reverse ++ .ref (a 0) :: rest) (z8 : (rest.map fun v => v.category).sum ≤ 8) (zd : decode cc pc = .ok (.invokevirtual index, 3)) (zf : cells ≤ R.cells ∧ slots ≤ R.slots) (kk : W p l e R s m args below meth c H locs cells slots Q (F0 m (pc + 3) ls (.int (countP sv w) :: rest))) : W p l e R s m args below meth c H locs cells slots Q (F0 m pc ls st0) :=
  z_callV cx vm_X8_count (c_X8_count l E a sv im rd wa kp so sz el pr ts nu bu ht th po ba en td ig ij w hI) (z_rec cx.2 (hW.at 0 rfl) rfl) hW zl ⟨rfl, rfl⟩ zR rfl zs zt z8 zd zf kk
theorem vm_X8_wrongTones : zVm yX8_wrongTones cX8_wrongTones 5 (some FieldType.int) 2 := ⟨m_co_X8_wrongTones, m_in_RX8, ⟨m_im_X8_wrongTones, m_se_X8_X8_wrongTones⟩, by decide +kernel, by decide +kernel, by decide +kernel⟩
set_option maxHeartbeats 4000000 in
set_option maxRecDepth 100000 in
theorem c_X8_wrongTones (l : Launch) (E : zE) (a : Nat → Nat) (sv im rd wa kp so sz el pr ts nu bu ht : Nat → Int32) (th po ba en td : Int32) (ig : Bool) (ij : Bool) (d mo : Int32) (hR : InvR kp so sz) : Met l yX8_wrongTones (.code yX8_wrongTones cX8_wrongTones 5 (some FieldType.int) :: AllW) (rm0' 3 67) (zP E (fun H => WW E (wM a (E.2.1 0) sv im rd wa kp so sz el pr ts nu bu ht (bI ig) th po ba en td (bI ij)) gN H) [.ref (a 0), .int d, .int mo]) (rQ (.int (wtT kp so sz el d mo))) 0 0 nF := by
  refine z_body (own := RX8) (by decide) rfl rfl ?_
  intro p e s m args below meth c ls cx hr hlk hnm hW hl
  have hx := cx.x
  have hb := cx.b
  have hl : lv_has ls 5 [(0, .ref (a 0)), (1, .int d), (2, .int mo)] := hl
  refine lv_aload_n (pc := 0) hx hb dX8_wrongTones_0 rfl (lv_at hl 0 rfl) ?_
  refine lv_iload_n (pc := 1) hx hb dX8_wrongTones_1 rfl (lv_at hl 1 rfl) ?_
  refine lv_iconst (pc := 2) (v := (-1)) hx hb dX8_wrongTones_2 (by decide) ?_
  refine k_X8_wrongRow (pc := 3) (d := d) (o := (-1)) cx hW  m_ml_X8_114 ⟨Nat.le_of_ble_eq_true rfl, Nat.le_of_ble_eq_true rfl⟩ hl.1 rfl (by simp [Value.category]) dX8_wrongTones_3 ⟨Nat.le_refl _, Nat.le_refl _⟩ ?_
  refine lv_istore_n (pc := 6) (lv' := [(3, .int (wrR kp so d (-1))), (0, .ref (a 0)), (1, .int d), (2, .int mo)]) hx hb dX8_wrongTones_6 rfl hl (by decide) rfl (fun ls hl => ?_)
  refine lv_iload_n (pc := 7) hx hb dX8_wrongTones_7 rfl (lv_at hl 0 rfl) ?_
  refine lv_if_eq (pc := 8) (tgt := 13) hx hb dX8_wrongTones_8 (by decide) (fun c_1 => ?_) (fun c_1 => ?_)
  · skip
    obtain ⟨n, hn, rfl⟩ := shelf_nat (wrR_0 c_1).1
    have hN := iN_nI (n := n) (by omega)
    have hz := sz_nat hR hn
    refine lv_aload_n (pc := 13) hx hb dX8_wrongTones_13 rfl (lv_at hl 1 rfl) ?_
    refine z_getM (pc := 14) cx (hW.at 0 rfl) 6 rfl m_fl_X8_28 rfl dX8_wrongTones_14 ?_
    refine lv_iload_n (pc := 17) hx hb dX8_wrongTones_17 rfl (lv_at hl 2 rfl) ?_
    refine z_iald (pc := 18) (f := sz) (j := n) cx (hW.at 7 rfl) rfl (by omega) (by decide) dX8_wrongTones_18 ?_
    refine lv_iload_n (pc := 19) hx hb dX8_wrongTones_19 rfl (lv_at hl 3 rfl) ?_
    refine lv_icmp_le (pc := 20) (tgt := 26) hx hb dX8_wrongTones_20 (by decide) (fun c_2 => ?_) (fun c_2 => ?_)
    · skip
      refine lv_iconst (pc := 26) (v := 0) hx hb dX8_wrongTones_26 (by decide) ?_
      refine lv_istore (pc := 27) (lv' := [(4, .int 0), (3, .int (wrR kp so (nI n) (-1))), (0, .ref (a 0)), (1, .int (nI n)), (2, .int mo)]) hx hb dX8_wrongTones_27 hl (by decide) rfl (fun ls hl => ?_)
      have loop_29 : ∀ (k_29 : Nat) (i : Nat) (x4 : Int32), (iN (sz n) - i) < k_29 → (i ≤ iN (sz n)) → (allN (fun i => inL (el (100 * n + i)) 1 1200) (iN (sz n)) 0 = allN (fun i => inL (el (100 * n + i)) 1 1200) (iN (sz n) - i) i) → x4 = nI i → ∀ (ls : Array Slot), lv_has ls 5 [(4, .int x4), (3, .int (wrR kp so (nI n) (-1))), (0, .ref (a 0)), (1, .int (nI n)), (2, .int mo)] → W p l e (rm0' (3) (67)) s m args below meth c s.heap [] 0 0 (MQ below (rQ (.int (wtT kp so sz el (nI n) mo))) args s 0 0 nF) (F0 m 29 ls []) := by
        intro k_29
        induction k_29 with
        | zero =>
          intro i x4 hm
          exact absurd hm (Nat.not_lt_zero _)
        | succ k_29 ih_29 =>
          intro i x4 hm_29 hi he e_x4  ls hl
          subst e_x4
          refine lv_iload (pc := 29) hx hb dX8_wrongTones_29 (lv_at hl 0 rfl) ?_
          refine lv_aload_n (pc := 31) hx hb dX8_wrongTones_31 rfl (lv_at hl 2 rfl) ?_
          refine z_getM (pc := 32) cx (hW.at 0 rfl) 6 rfl m_fl_X8_28 rfl dX8_wrongTones_32 ?_
          refine lv_iload_n (pc := 35) hx hb dX8_wrongTones_35 rfl (lv_at hl 3 rfl) ?_
          refine z_iald (pc := 36) (f := sz) (j := n) cx (hW.at 7 rfl) rfl (by omega) (by decide) dX8_wrongTones_36 ?_
          refine lv_icmp_ge (pc := 37) (tgt := 67) hx hb dX8_wrongTones_37 (by decide) (fun c_3 => ?_) (fun c_3 => ?_)
          · skip
            obtain rfl : i = iN (sz n) := by have := ge_nat (a := i) rfl hz.1 (by omega) (by omega) c_3; omega
            refine lv_iconst (pc := 67) (v := 0) hx hb dX8_wrongTones_67 (by decide) ?_
            exact z_iret cx hr hlk dX8_wrongTones_68 (by simp only [wtT, c_1, hN, c_2, i_nlt.mpr c_2, if_true, he]; rw [Nat.sub_self]; rfl)
          · skip
            have hlt_i := lt_nat (a := i) rfl hz.1 (by omega) (by omega) c_3
            refine lv_aload_n (pc := 40) hx hb dX8_wrongTones_40 rfl (lv_at hl 2 rfl) ?_
            refine z_getM (pc := 41) cx (hW.at 0 rfl) 7 rfl m_fl_X8_31 rfl dX8_wrongTones_41 ?_
            refine lv_bipush (pc := 44) (v := 100) hx hb dX8_wrongTones_44 (by decide) ?_
            refine lv_iload_n (pc := 46) hx hb dX8_wrongTones_46 rfl (lv_at hl 3 rfl) ?_
            refine lv_imul (pc := 47) hx hb dX8_wrongTones_47 ?_
            refine lv_iload (pc := 48) hx hb dX8_wrongTones_48 (lv_at hl 0 rfl) ?_
            refine lv_iadd (pc := 50) hx hb dX8_wrongTones_50 ?_
            refine z_iald (pc := 51) (f := el) (j := 100 * n + i) cx (hW.at 8 rfl) (ixe n i) (by omega) (by decide) dX8_wrongTones_51 ?_
            refine k_X8_isTone (pc := 52) (x := el (100 * n + i)) cx  m_ml_X8_177 ⟨Nat.le_of_ble_eq_true rfl, Nat.le_of_ble_eq_true rfl⟩ hl.1 rfl (by simp [Value.category]) dX8_wrongTones_52 ⟨Nat.le_refl _, Nat.le_refl _⟩ ?_
            refine z_ifne (pc := 55) (tgt := 61) hx hb dX8_wrongTones_55 (by decide) (fun c_4 => ?_) (fun c_4 => ?_)
            · skip
              refine lv_iinc (pc := 61) (v := nI (i + 1)) (lv' := [(4, .int (nI (i + 1))), (3, .int (wrR kp so (nI n) (-1))), (0, .ref (a 0)), (1, .int (nI n)), (2, .int mo)]) hx hb dX8_wrongTones_61 hl (k := 0) rfl (nI_1 _) (by decide) rfl (fun ls hl => ?_)
              refine lv_goto (pc := 64) (tgt := 29) hx hb dX8_wrongTones_64 (by decide) ?_
              exact ih_29 (i + 1) (nI (i + 1)) (by omega) (by omega) (by rw [he, allN_go (by assumption) (by omega)]; rfl) (by first | rfl | (simp [wtT, c_1, hN, c_2, c_4, i_nlt.mpr c_2]; done)) ls (lv_sub hl [0, 1, 2, 3, 4] rfl)
            · skip
              refine lv_bipush (pc := 58) (v := (-13)) hx hb dX8_wrongTones_58 (by decide) ?_
              exact z_iret cx hr hlk dX8_wrongTones_60 (by simp only [wtT, c_1, hN, c_2, c_4, i_nlt.mpr c_2, if_true, he]; rw [allN_no (by assumption) (by omega)]; rfl)
      exact loop_29 ((iN (sz n) - 0) + 1) 0 0 (Nat.lt_succ_self _) (by omega) rfl (by first | rfl | (simp [wtT, c_1, hN, c_2, i_nlt.mpr c_2]; done)) ls (lv_sub hl [0, 1, 2, 3, 4] rfl)
    · skip
      refine lv_bipush (pc := 23) (v := (-13)) hx hb dX8_wrongTones_23 (by decide) ?_
      exact z_iret cx hr hlk dX8_wrongTones_25 (by first | rfl | (simp [wtT, c_1, hN, c_2, i_nle.mp c_2]; done))
  · skip
    refine lv_iload_n (pc := 11) hx hb dX8_wrongTones_11 rfl (lv_at hl 0 rfl) ?_
    exact z_iret cx hr hlk dX8_wrongTones_12 (by first | rfl | (simp [wtT, c_1]; done))
theorem k_X8_wrongTones {p : Program} {l : Launch} {e : Env} {R : Room} {s : State} {m : MethodId} {args : Array Value} {below : List Frame} {meth : Method} {c : Code} {H : Heap} {locs : List Loc} {cells slots : Nat} {Q : State → Prop} {cc : ByteArray} {pc index : Nat} {ls : Array Slot} {rest st0 : List Value} {E : zE} {own : String} {nL : Nat} {a : Nat → Nat} {sv im rd wa kp so sz el pr ts nu bu ht : Nat → Int32} {th po ba en td : Int32} {ig : Bool} {ij : Bool} {d mo : Int32} (cx : Cx E p s args m c own cc nL) (hW : WW E (wM a (E.2.1 0) sv im rd wa kp so sz el pr ts nu bu ht (bI ig) th po ba en td (bI ij)) gN H) (hR : InvR kp so sz) (zl : Cond.methodLink own index yX8_wrongTones ∈ AllW) (zR : 3 + 1 ≤ R.frames ∧ 8 + (5 + 11) + 67 ≤ R.locals) (zs : ls.size = nL) (zt : st0 = ([.int d, .int mo] : List Value).reverse ++ .ref (a 0) :: rest) (z8 : (rest.map fun v => v.category).sum ≤ 8) (zd : decode cc pc = .ok (.invokevirtual index, 3)) (zf : cells ≤ R.cells ∧ slots ≤ R.slots) (kk : W p l e R s m args below meth c H locs cells slots Q (F0 m (pc + 3) ls (.int (wtT kp so sz el d mo) :: rest))) : W p l e R s m args below meth c H locs cells slots Q (F0 m pc ls st0) :=
  z_callV cx vm_X8_wrongTones (c_X8_wrongTones l E a sv im rd wa kp so sz el pr ts nu bu ht th po ba en td ig ij d mo hR) (z_rec cx.2 (hW.at 0 rfl) rfl) hW zl ⟨rfl, rfl⟩ zR rfl zs zt z8 zd zf kk
theorem vm_X8_price : zVm yX8_price cX8_price 3 (some FieldType.int) 1 := ⟨m_co_X8_price, m_in_RX8, ⟨m_im_X8_price, m_se_X8_X8_price⟩, by decide +kernel, by decide +kernel, by decide +kernel⟩
set_option maxHeartbeats 4000000 in
set_option maxRecDepth 100000 in
theorem c_X8_price (l : Launch) (E : zE) (a : Nat → Nat) (sv im rd wa kp so sz el pr ts nu bu ht : Nat → Int32) (th po ba en td : Int32) (ig : Bool) (ij : Bool) (d : Int32)  : Met l yX8_price (.code yX8_price cX8_price 3 (some FieldType.int) :: AllW) (rm0' 3 66) (zP E (fun H => WW E (wM a (E.2.1 0) sv im rd wa kp so sz el pr ts nu bu ht (bI ig) th po ba en td (bI ij)) gN H) [.ref (a 0), .int d]) (rQ (.int (priceP kp pr d))) 0 0 nF := by
  refine z_body (own := RX8) (by decide) rfl rfl ?_
  intro p e s m args below meth c ls cx hr hlk hnm hW hl
  have hx := cx.x
  have hb := cx.b
  have hl : lv_has ls 3 [(0, .ref (a 0)), (1, .int d)] := hl
  refine lv_aload_n (pc := 0) hx hb dX8_price_0 rfl (lv_at hl 0 rfl) ?_
  refine lv_iload_n (pc := 1) hx hb dX8_price_1 rfl (lv_at hl 1 rfl) ?_
  refine k_X8_wrongKept (pc := 2) (d := d) cx hW  m_ml_X8_263 ⟨Nat.le_of_ble_eq_true rfl, Nat.le_of_ble_eq_true rfl⟩ hl.1 rfl (by simp [Value.category]) dX8_price_2 ⟨Nat.le_refl _, Nat.le_refl _⟩ ?_
  refine lv_istore_n (pc := 5) (lv' := [(2, .int (wrK kp d)), (0, .ref (a 0)), (1, .int d)]) hx hb dX8_price_5 rfl hl (by decide) rfl (fun ls hl => ?_)
  refine lv_iload_n (pc := 6) hx hb dX8_price_6 rfl (lv_at hl 0 rfl) ?_
  refine lv_if_eq (pc := 7) (tgt := 14) hx hb dX8_price_7 (by decide) (fun c_1 => ?_) (fun c_1 => ?_)
  · skip
    obtain ⟨n, hn, rfl⟩ := shelf_nat (wrK_0 c_1).1
    have hN := iN_nI (n := n) (by omega)
    refine lv_aload_n (pc := 14) hx hb dX8_price_14 rfl (lv_at hl 1 rfl) ?_
    refine z_getM (pc := 15) cx (hW.at 0 rfl) 8 rfl m_fl_X8_34 rfl dX8_price_15 ?_
    refine lv_iload_n (pc := 18) hx hb dX8_price_18 rfl (lv_at hl 2 rfl) ?_
    refine z_iald (pc := 19) (f := pr) (j := n) cx (hW.at 9 rfl) rfl (by omega) (by decide) dX8_price_19 ?_
    exact z_iret cx hr hlk dX8_price_20 (by first | rfl | (simp [priceP, c_1, hN]; done))
  · skip
    refine lv_iload_n (pc := 10) hx hb dX8_price_10 rfl (lv_at hl 0 rfl) ?_
    refine lv_goto (pc := 11) (tgt := 20) hx hb dX8_price_11 (by decide) ?_
    exact z_iret cx hr hlk dX8_price_20 (by first | rfl | (simp [priceP, c_1]; done))
theorem k_X8_price {p : Program} {l : Launch} {e : Env} {R : Room} {s : State} {m : MethodId} {args : Array Value} {below : List Frame} {meth : Method} {c : Code} {H : Heap} {locs : List Loc} {cells slots : Nat} {Q : State → Prop} {cc : ByteArray} {pc index : Nat} {ls : Array Slot} {rest st0 : List Value} {E : zE} {own : String} {nL : Nat} {a : Nat → Nat} {sv im rd wa kp so sz el pr ts nu bu ht : Nat → Int32} {th po ba en td : Int32} {ig : Bool} {ij : Bool} {d : Int32} (cx : Cx E p s args m c own cc nL) (hW : WW E (wM a (E.2.1 0) sv im rd wa kp so sz el pr ts nu bu ht (bI ig) th po ba en td (bI ij)) gN H)  (zl : Cond.methodLink own index yX8_price ∈ AllW) (zR : 3 + 1 ≤ R.frames ∧ 8 + (3 + 11) + 66 ≤ R.locals) (zs : ls.size = nL) (zt : st0 = ([.int d] : List Value).reverse ++ .ref (a 0) :: rest) (z8 : (rest.map fun v => v.category).sum ≤ 8) (zd : decode cc pc = .ok (.invokevirtual index, 3)) (zf : cells ≤ R.cells ∧ slots ≤ R.slots) (kk : W p l e R s m args below meth c H locs cells slots Q (F0 m (pc + 3) ls (.int (priceP kp pr d) :: rest))) : W p l e R s m args below meth c H locs cells slots Q (F0 m pc ls st0) :=
  z_callV cx vm_X8_price (c_X8_price l E a sv im rd wa kp so sz el pr ts nu bu ht th po ba en td ig ij d) (z_rec cx.2 (hW.at 0 rfl) rfl) hW zl ⟨rfl, rfl⟩ zR rfl zs zt z8 zd zf kk
theorem vm_X8_toss : zVm yX8_toss cX8_toss 3 (some FieldType.int) 1 := ⟨m_co_X8_toss, m_in_RX8, ⟨m_im_X8_toss, m_se_X8_X8_toss⟩, by decide +kernel, by decide +kernel, by decide +kernel⟩
set_option maxHeartbeats 4000000 in
set_option maxRecDepth 100000 in
theorem c_X8_toss (l : Launch) (E : zE) (a : Nat → Nat) (sv im rd wa kp so sz el pr ts nu bu ht : Nat → Int32) (th po ba en td : Int32) (ig : Bool) (ij : Bool) (d : Int32)  : Met l yX8_toss (.code yX8_toss cX8_toss 3 (some FieldType.int) :: AllW) (rm0' 3 66) (zP E (fun H => WW E (wM a (E.2.1 0) sv im rd wa kp so sz el pr ts nu bu ht (bI ig) th po ba en td (bI ij)) gN H) [.ref (a 0), .int d]) (rQ (.int (priceP kp ts d))) 0 0 nF := by
  refine z_body (own := RX8) (by decide) rfl rfl ?_
  intro p e s m args below meth c ls cx hr hlk hnm hW hl
  have hx := cx.x
  have hb := cx.b
  have hl : lv_has ls 3 [(0, .ref (a 0)), (1, .int d)] := hl
  refine lv_aload_n (pc := 0) hx hb dX8_toss_0 rfl (lv_at hl 0 rfl) ?_
  refine lv_iload_n (pc := 1) hx hb dX8_toss_1 rfl (lv_at hl 1 rfl) ?_
  refine k_X8_wrongKept (pc := 2) (d := d) cx hW  m_ml_X8_263 ⟨Nat.le_of_ble_eq_true rfl, Nat.le_of_ble_eq_true rfl⟩ hl.1 rfl (by simp [Value.category]) dX8_toss_2 ⟨Nat.le_refl _, Nat.le_refl _⟩ ?_
  refine lv_istore_n (pc := 5) (lv' := [(2, .int (wrK kp d)), (0, .ref (a 0)), (1, .int d)]) hx hb dX8_toss_5 rfl hl (by decide) rfl (fun ls hl => ?_)
  refine lv_iload_n (pc := 6) hx hb dX8_toss_6 rfl (lv_at hl 0 rfl) ?_
  refine lv_if_eq (pc := 7) (tgt := 14) hx hb dX8_toss_7 (by decide) (fun c_1 => ?_) (fun c_1 => ?_)
  · skip
    obtain ⟨n, hn, rfl⟩ := shelf_nat (wrK_0 c_1).1
    have hN := iN_nI (n := n) (by omega)
    refine lv_aload_n (pc := 14) hx hb dX8_toss_14 rfl (lv_at hl 1 rfl) ?_
    refine z_getM (pc := 15) cx (hW.at 0 rfl) 9 rfl m_fl_X8_37 rfl dX8_toss_15 ?_
    refine lv_iload_n (pc := 18) hx hb dX8_toss_18 rfl (lv_at hl 2 rfl) ?_
    refine z_iald (pc := 19) (f := ts) (j := n) cx (hW.at 10 rfl) rfl (by omega) (by decide) dX8_toss_19 ?_
    exact z_iret cx hr hlk dX8_toss_20 (by first | rfl | (simp [priceP, c_1, hN]; done))
  · skip
    refine lv_iload_n (pc := 10) hx hb dX8_toss_10 rfl (lv_at hl 0 rfl) ?_
    refine lv_goto (pc := 11) (tgt := 20) hx hb dX8_toss_11 (by decide) ?_
    exact z_iret cx hr hlk dX8_toss_20 (by first | rfl | (simp [priceP, c_1]; done))
theorem k_X8_toss {p : Program} {l : Launch} {e : Env} {R : Room} {s : State} {m : MethodId} {args : Array Value} {below : List Frame} {meth : Method} {c : Code} {H : Heap} {locs : List Loc} {cells slots : Nat} {Q : State → Prop} {cc : ByteArray} {pc index : Nat} {ls : Array Slot} {rest st0 : List Value} {E : zE} {own : String} {nL : Nat} {a : Nat → Nat} {sv im rd wa kp so sz el pr ts nu bu ht : Nat → Int32} {th po ba en td : Int32} {ig : Bool} {ij : Bool} {d : Int32} (cx : Cx E p s args m c own cc nL) (hW : WW E (wM a (E.2.1 0) sv im rd wa kp so sz el pr ts nu bu ht (bI ig) th po ba en td (bI ij)) gN H)  (zl : Cond.methodLink own index yX8_toss ∈ AllW) (zR : 3 + 1 ≤ R.frames ∧ 8 + (3 + 11) + 66 ≤ R.locals) (zs : ls.size = nL) (zt : st0 = ([.int d] : List Value).reverse ++ .ref (a 0) :: rest) (z8 : (rest.map fun v => v.category).sum ≤ 8) (zd : decode cc pc = .ok (.invokevirtual index, 3)) (zf : cells ≤ R.cells ∧ slots ≤ R.slots) (kk : W p l e R s m args below meth c H locs cells slots Q (F0 m (pc + 3) ls (.int (priceP kp ts d) :: rest))) : W p l e R s m args below meth c H locs cells slots Q (F0 m pc ls st0) :=
  z_callV cx vm_X8_toss (c_X8_toss l E a sv im rd wa kp so sz el pr ts nu bu ht th po ba en td ig ij d) (z_rec cx.2 (hW.at 0 rfl) rfl) hW zl ⟨rfl, rfl⟩ zR rfl zs zt z8 zd zf kk
theorem vm_X8_here : zVm yX8_here cX8_here 1 (some FieldType.int) 0 := ⟨m_co_X8_here, m_in_RX8, ⟨m_im_X8_here, m_se_X8_X8_here⟩, by decide +kernel, by decide +kernel, by decide +kernel⟩
set_option maxHeartbeats 4000000 in
set_option maxRecDepth 100000 in
theorem c_X8_here (l : Launch) (E : zE) (a : Nat → Nat) (sv im rd wa kp so sz el pr ts nu bu ht : Nat → Int32) (th td : Int32) (ig : Bool) (ij : Bool) (q n z : Nat) (hn : n < 8) (hz : z ≤ 100) (hq : q ≤ 100) : Met l yX8_here (.code yX8_here cX8_here 1 (some FieldType.int) :: AllW) (rm0' 0 0) (zP E (fun H => WW E (wM a (E.2.1 0) sv im rd wa kp so sz el pr ts nu bu ht (bI ig) th (nI q) (nI (100 * n)) (nI z) td (bI ij)) gN H) [.ref (a 0)]) (rQ (.int (hrT el n z q))) 0 0 nF := by
  refine z_body (own := RX8) (by decide) rfl rfl ?_
  intro p e s m args below meth c ls cx hr hlk hnm hW hl
  have hx := cx.x
  have hb := cx.b
  have hl : lv_has ls 1 [(0, .ref (a 0))] := hl
  refine lv_aload_n (pc := 0) hx hb dX8_here_0 rfl (lv_at hl 0 rfl) ?_
  refine z_getM (pc := 1) cx (hW.at 0 rfl) 12 rfl m_fl_X8_63 rfl dX8_here_1 ?_
  refine lv_aload_n (pc := 4) hx hb dX8_here_4 rfl (lv_at hl 0 rfl) ?_
  refine z_getM (pc := 5) cx (hW.at 0 rfl) 14 rfl m_fl_X8_66 rfl dX8_here_5 ?_
  refine lv_icmp_ge (pc := 8) (tgt := 28) hx hb dX8_here_8 (by decide) (fun c_1 => ?_) (fun c_1 => ?_)
  · skip
    have hge := ge_nat (a := q) (b := z) rfl rfl (by omega) (by omega) c_1
    have hnl : ¬ q < z := by omega
    refine lv_sipush (pc := 28) (v := (-1000)) hx hb dX8_here_28 (by decide) ?_
    exact z_iret cx hr hlk dX8_here_31 (by first | rfl | (simp [hrT, hnl]; done))
  · skip
    have hlt := lt_nat (a := q) (b := z) rfl rfl (by omega) (by omega) c_1
    refine lv_aload_n (pc := 11) hx hb dX8_here_11 rfl (lv_at hl 0 rfl) ?_
    refine z_getM (pc := 12) cx (hW.at 0 rfl) 7 rfl m_fl_X8_31 rfl dX8_here_12 ?_
    refine lv_aload_n (pc := 15) hx hb dX8_here_15 rfl (lv_at hl 0 rfl) ?_
    refine z_getM (pc := 16) cx (hW.at 0 rfl) 13 rfl m_fl_X8_69 rfl dX8_here_16 ?_
    refine lv_aload_n (pc := 19) hx hb dX8_here_19 rfl (lv_at hl 0 rfl) ?_
    refine z_getM (pc := 20) cx (hW.at 0 rfl) 12 rfl m_fl_X8_63 rfl dX8_here_20 ?_
    refine lv_iadd (pc := 23) hx hb dX8_here_23 ?_
    refine z_iald (pc := 24) (f := el) (j := 100 * n + q) cx (hW.at 8 rfl) (nI_add _ _) (by omega) (by decide) dX8_here_24 ?_
    refine lv_goto (pc := 25) (tgt := 31) hx hb dX8_here_25 (by decide) ?_
    exact z_iret cx hr hlk dX8_here_31 (by first | rfl | (simp [hrT, hlt]; done))
theorem k_X8_here {p : Program} {l : Launch} {e : Env} {R : Room} {s : State} {m : MethodId} {args : Array Value} {below : List Frame} {meth : Method} {c : Code} {H : Heap} {locs : List Loc} {cells slots : Nat} {Q : State → Prop} {cc : ByteArray} {pc index : Nat} {ls : Array Slot} {rest st0 : List Value} {E : zE} {own : String} {nL : Nat} {a : Nat → Nat} {sv im rd wa kp so sz el pr ts nu bu ht : Nat → Int32} {th td : Int32} {ig : Bool} {ij : Bool} {q n z : Nat} (cx : Cx E p s args m c own cc nL) (hW : WW E (wM a (E.2.1 0) sv im rd wa kp so sz el pr ts nu bu ht (bI ig) th (nI q) (nI (100 * n)) (nI z) td (bI ij)) gN H) (hn : n < 8) (hz : z ≤ 100) (hq : q ≤ 100) (zl : Cond.methodLink own index yX8_here ∈ AllW) (zR : 0 + 1 ≤ R.frames ∧ 8 + (1 + 11) + 0 ≤ R.locals) (zs : ls.size = nL) (zt : st0 = ([] : List Value).reverse ++ .ref (a 0) :: rest) (z8 : (rest.map fun v => v.category).sum ≤ 8) (zd : decode cc pc = .ok (.invokevirtual index, 3)) (zf : cells ≤ R.cells ∧ slots ≤ R.slots) (kk : W p l e R s m args below meth c H locs cells slots Q (F0 m (pc + 3) ls (.int (hrT el n z q) :: rest))) : W p l e R s m args below meth c H locs cells slots Q (F0 m pc ls st0) :=
  z_callV cx vm_X8_here (c_X8_here l E a sv im rd wa kp so sz el pr ts nu bu ht th td ig ij q n z hn hz hq) (z_rec cx.2 (hW.at 0 rfl) rfl) hW zl ⟨rfl, rfl⟩ zR rfl zs zt z8 zd zf kk
theorem vm_X8_isDigit : zVm yX8_isDigit cX8_isDigit 1 (some FieldType.boolean) 0 := ⟨m_co_X8_isDigit, m_in_RX8, ⟨m_im_X8_isDigit, m_se_X8_X8_isDigit⟩, by decide +kernel, by decide +kernel, by decide +kernel⟩
set_option maxHeartbeats 4000000 in
set_option maxRecDepth 100000 in
theorem c_X8_isDigit (l : Launch) (E : zE) (a : Nat → Nat) (sv im rd wa kp so sz el pr ts nu bu ht : Nat → Int32) (th td : Int32) (ig : Bool) (ij : Bool) (q n z : Nat) (hn : n < 8) (hz : z ≤ 100) (hq : q ≤ 100) : Met l yX8_isDigit (.code yX8_isDigit cX8_isDigit 1 (some FieldType.boolean) :: AllW) (rm0' 1 25) (zP E (fun H => WW E (wM a (E.2.1 0) sv im rd wa kp so sz el pr ts nu bu ht (bI ig) th (nI q) (nI (100 * n)) (nI z) td (bI ij)) gN H) [.ref (a 0)]) (rQ (.int (bI (inL (hrT el n z q) 48 57)))) 0 0 nF := by
  refine z_body (own := RX8) (by decide) rfl rfl ?_
  intro p e s m args below meth c ls cx hr hlk hnm hW hl
  have hx := cx.x
  have hb := cx.b
  have hl : lv_has ls 1 [(0, .ref (a 0))] := hl
  refine lv_aload_n (pc := 0) hx hb dX8_isDigit_0 rfl (lv_at hl 0 rfl) ?_
  refine k_X8_here (pc := 1) (q := q) (n := n) (z := z) cx hW (by first | assumption | omega) (by first | assumption | omega) (by first | assumption | omega) m_ml_X8_72 ⟨Nat.le_of_ble_eq_true rfl, Nat.le_of_ble_eq_true rfl⟩ hl.1 rfl (by simp [Value.category]) dX8_isDigit_1 ⟨Nat.le_refl _, Nat.le_refl _⟩ ?_
  refine lv_i2l (pc := 4) (v := Int32.toInt64 (hrT el n z q)) hx hb dX8_isDigit_4 rfl ?_
  refine lv_ldc2 (pc := 5) (v := 48) hx hb cx.own (cx.ts _ m_kl_X8_76) dX8_isDigit_5 ?_
  refine lv_ldc2 (pc := 8) (v := 57) hx hb cx.own (cx.ts _ m_kl_X8_78) dX8_isDigit_8 ?_
  refine k_X8_isIn (pc := 11) (x := (hrT el n z q)) (y := 48) (z := 57) cx  m_ml_X8_53 ⟨Nat.le_of_ble_eq_true rfl, Nat.le_of_ble_eq_true rfl⟩ hl.1 rfl (by simp [Value.category]) dX8_isDigit_11 ⟨Nat.le_refl _, Nat.le_refl _⟩ ?_
  exact z_zret cx hr hlk dX8_isDigit_14 (by first | rfl | (simp []; done))
theorem k_X8_isDigit {p : Program} {l : Launch} {e : Env} {R : Room} {s : State} {m : MethodId} {args : Array Value} {below : List Frame} {meth : Method} {c : Code} {H : Heap} {locs : List Loc} {cells slots : Nat} {Q : State → Prop} {cc : ByteArray} {pc index : Nat} {ls : Array Slot} {rest st0 : List Value} {E : zE} {own : String} {nL : Nat} {a : Nat → Nat} {sv im rd wa kp so sz el pr ts nu bu ht : Nat → Int32} {th td : Int32} {ig : Bool} {ij : Bool} {q n z : Nat} (cx : Cx E p s args m c own cc nL) (hW : WW E (wM a (E.2.1 0) sv im rd wa kp so sz el pr ts nu bu ht (bI ig) th (nI q) (nI (100 * n)) (nI z) td (bI ij)) gN H) (hn : n < 8) (hz : z ≤ 100) (hq : q ≤ 100) (zl : Cond.methodLink own index yX8_isDigit ∈ AllW) (zR : 1 + 1 ≤ R.frames ∧ 8 + (1 + 11) + 25 ≤ R.locals) (zs : ls.size = nL) (zt : st0 = ([] : List Value).reverse ++ .ref (a 0) :: rest) (z8 : (rest.map fun v => v.category).sum ≤ 8) (zd : decode cc pc = .ok (.invokevirtual index, 3)) (zf : cells ≤ R.cells ∧ slots ≤ R.slots) (kk : W p l e R s m args below meth c H locs cells slots Q (F0 m (pc + 3) ls (.int (bI (inL (hrT el n z q) 48 57)) :: rest))) : W p l e R s m args below meth c H locs cells slots Q (F0 m pc ls st0) :=
  z_callV cx vm_X8_isDigit (c_X8_isDigit l E a sv im rd wa kp so sz el pr ts nu bu ht th td ig ij q n z hn hz hq) (z_rec cx.2 (hW.at 0 rfl) rfl) hW zl ⟨rfl, rfl⟩ zR rfl zs zt z8 zd zf kk
theorem vm_X8_judge : zVm yX8_judge cX8_judge 7 (some FieldType.int) 3 := ⟨m_co_X8_judge, m_in_RX8, ⟨m_im_X8_judge, m_se_X8_X8_judge⟩, by decide +kernel, by decide +kernel, by decide +kernel⟩
set_option maxHeartbeats 4000000 in
set_option maxRecDepth 100000 in
theorem c_X8_judge (l : Launch) (E : zE) (a : Nat → Nat) (sv im rd wa kp so sz el pr ts nu bu ht : Nat → Int32) (th po ba en td : Int32) (ig : Bool) (ij : Bool) (x st d : Int32) (hI : Inv sv) (hR : InvR kp so sz) : Met l yX8_judge (.code yX8_judge cX8_judge 7 (some FieldType.int) :: AllW) (rm0' 16 474) (zP E (fun H => WW E (wM a (E.2.1 0) sv im rd wa kp so sz el pr ts nu bu ht (bI ig) th po ba en td (bI ij)) gN H) [.ref (a 0), .int x, .int st, .int d]) (rQ (.int (judgeP sv kp so sz el x st d))) 0 0 nF := by
  refine z_body (own := RX8) (by decide) rfl rfl ?_
  intro p e s m args below meth c ls cx hr hlk hnm hW hl
  have hx := cx.x
  have hb := cx.b
  have hl : lv_has ls 7 [(0, .ref (a 0)), (1, .int x), (2, .int st), (3, .int d)] := hl
  have hC := hI.1
  have hP10 := (Inv.n0 hC).2
  have hT7 := (Inv.n1 hC).2
  have hA24 := (Inv.n2 hC).2
  refine lv_aload_n (pc := 0) hx hb dX8_judge_0 rfl (lv_at hl 0 rfl) ?_
  refine lv_iload_n (pc := 1) hx hb dX8_judge_1 rfl (lv_at hl 1 rfl) ?_
  refine k_X8_isPiece (pc := 2) (x := x) cx hW  m_ml_X8_130 ⟨Nat.le_of_ble_eq_true rfl, Nat.le_of_ble_eq_true rfl⟩ hl.1 rfl (by simp [Value.category]) dX8_judge_2 ⟨Nat.le_refl _, Nat.le_refl _⟩ ?_
  refine z_ifeq (pc := 5) (tgt := 22) hx hb dX8_judge_5 (by decide) (fun c_1 => ?_) (fun c_1 => ?_)
  · skip
    refine lv_iconst (pc := 22) (v := (-1)) hx hb dX8_judge_22 (by decide) ?_
    exact z_iret cx hr hlk dX8_judge_23 (by first | rfl | (simp [judgeP, c_1]; done))
  · skip
    obtain ⟨n, hn, rfl⟩ := pc_nat hC c_1
    have hN := iN_nI (n := n) (by omega)
    refine lv_iload_n (pc := 8) hx hb dX8_judge_8 rfl (lv_at hl 2 rfl) ?_
    refine k_X8_isStrong (pc := 9) (x := st) cx  m_ml_X8_180 ⟨Nat.le_of_ble_eq_true rfl, Nat.le_of_ble_eq_true rfl⟩ hl.1 rfl (by simp [Value.category]) dX8_judge_9 ⟨Nat.le_refl _, Nat.le_refl _⟩ ?_
    refine z_ifeq (pc := 12) (tgt := 22) hx hb dX8_judge_12 (by decide) (fun c_2 => ?_) (fun c_2 => ?_)
    · skip
      refine lv_iconst (pc := 22) (v := (-1)) hx hb dX8_judge_22 (by decide) ?_
      exact z_iret cx hr hlk dX8_judge_23 (by first | rfl | (simp [judgeP, c_1, hN, c_2]; done))
    · skip
      refine lv_iload_n (pc := 15) hx hb dX8_judge_15 rfl (lv_at hl 3 rfl) ?_
      refine k_X8_isShelf (pc := 16) (x := d) cx  m_ml_X8_111 ⟨Nat.le_of_ble_eq_true rfl, Nat.le_of_ble_eq_true rfl⟩ hl.1 rfl (by simp [Value.category]) dX8_judge_16 ⟨Nat.le_refl _, Nat.le_refl _⟩ ?_
      refine z_ifne (pc := 19) (tgt := 24) hx hb dX8_judge_19 (by decide) (fun c_3 => ?_) (fun c_3 => ?_)
      · skip
        refine lv_aload_n (pc := 24) hx hb dX8_judge_24 rfl (lv_at hl 0 rfl) ?_
        refine lv_iload_n (pc := 25) hx hb dX8_judge_25 rfl (lv_at hl 3 rfl) ?_
        refine lv_iconst (pc := 26) (v := (-1)) hx hb dX8_judge_26 (by decide) ?_
        refine k_X8_wrongRow (pc := 27) (d := d) (o := (-1)) cx hW  m_ml_X8_114 ⟨Nat.le_of_ble_eq_true rfl, Nat.le_of_ble_eq_true rfl⟩ hl.1 rfl (by simp [Value.category]) dX8_judge_27 ⟨Nat.le_refl _, Nat.le_refl _⟩ ?_
        refine lv_istore (pc := 30) (lv' := [(4, .int (wrR kp so d (-1))), (0, .ref (a 0)), (1, .int (nI n)), (2, .int st), (3, .int d)]) hx hb dX8_judge_30 hl (by decide) rfl (fun ls hl => ?_)
        refine lv_iload (pc := 32) hx hb dX8_judge_32 (lv_at hl 0 rfl) ?_
        refine lv_if_eq (pc := 34) (tgt := 40) hx hb dX8_judge_34 (by decide) (fun c_4 => ?_) (fun c_4 => ?_)
        · skip
          obtain ⟨n2, hn2, rfl⟩ := shelf_nat (wrR_0 c_4).1
          have hN2 := iN_nI (n := n2) (by omega)
          have hz := sz_nat hR hn2
          refine lv_iconst (pc := 40) (v := 0) hx hb dX8_judge_40 (by decide) ?_
          refine lv_istore (pc := 41) (lv' := [(5, .int 0), (4, .int (wrR kp so (nI n2) (-1))), (0, .ref (a 0)), (1, .int (nI n)), (2, .int st), (3, .int (nI n2))]) hx hb dX8_judge_41 hl (by decide) rfl (fun ls hl => ?_)
          have loop_43 : ∀ (k_43 : Nat) (i : Nat) (x5 : Int32), (iN (sz n2) - i) < k_43 → (i ≤ iN (sz n2)) → (fstN (fun i => decide (¬ el (100 * n2 + i) = loS so n2) && decide (¬ el (100 * n2 + i) = sw sv n (10 * (nI i + 1)) st)) (iN (sz n2)) 0 = fstN (fun i => decide (¬ el (100 * n2 + i) = loS so n2) && decide (¬ el (100 * n2 + i) = sw sv n (10 * (nI i + 1)) st)) (iN (sz n2) - i) i) → x5 = nI i → ∀ (ls : Array Slot), lv_has ls 7 [(5, .int x5), (4, .int (wrR kp so (nI n2) (-1))), (0, .ref (a 0)), (1, .int (nI n)), (2, .int st), (3, .int (nI n2))] → W p l e (rm0' (16) (474)) s m args below meth c s.heap [] 0 0 (MQ below (rQ (.int (judgeP sv kp so sz el (nI n) st (nI n2)))) args s 0 0 nF) (F0 m 43 ls []) := by
            intro k_43
            induction k_43 with
            | zero =>
              intro i x5 hm
              exact absurd hm (Nat.not_lt_zero _)
            | succ k_43 ih_43 =>
              intro i x5 hm_43 hi he e_x5  ls hl
              subst e_x5
              refine lv_iload (pc := 43) hx hb dX8_judge_43 (lv_at hl 0 rfl) ?_
              refine lv_aload_n (pc := 45) hx hb dX8_judge_45 rfl (lv_at hl 2 rfl) ?_
              refine z_getM (pc := 46) cx (hW.at 0 rfl) 6 rfl m_fl_X8_28 rfl dX8_judge_46 ?_
              refine lv_iload_n (pc := 49) hx hb dX8_judge_49 rfl (lv_at hl 5 rfl) ?_
              refine z_iald (pc := 50) (f := sz) (j := n2) cx (hW.at 7 rfl) rfl (by omega) (by decide) dX8_judge_50 ?_
              refine lv_icmp_ge (pc := 51) (tgt := 105) hx hb dX8_judge_51 (by decide) (fun c_5 => ?_) (fun c_5 => ?_)
              · skip
                obtain rfl : i = iN (sz n2) := by have := ge_nat (a := i) rfl hz.1 (by omega) (by omega) c_5; omega
                refine lv_bipush (pc := 105) (v := (-4)) hx hb dX8_judge_105 (by decide) ?_
                exact z_iret cx hr hlk dX8_judge_107 (by simp only [judgeP, c_1, hN, c_2, c_3, c_4, hN2, and_self, if_true, he]; rw [Nat.sub_self]; rfl)
              · skip
                have hlt_i := lt_nat (a := i) rfl hz.1 (by omega) (by omega) c_5
                refine lv_aload_n (pc := 54) hx hb dX8_judge_54 rfl (lv_at hl 2 rfl) ?_
                refine z_getM (pc := 55) cx (hW.at 0 rfl) 7 rfl m_fl_X8_31 rfl dX8_judge_55 ?_
                refine lv_bipush (pc := 58) (v := 100) hx hb dX8_judge_58 (by decide) ?_
                refine lv_iload_n (pc := 60) hx hb dX8_judge_60 rfl (lv_at hl 5 rfl) ?_
                refine lv_imul (pc := 61) hx hb dX8_judge_61 ?_
                refine lv_iload (pc := 62) hx hb dX8_judge_62 (lv_at hl 0 rfl) ?_
                refine lv_iadd (pc := 64) hx hb dX8_judge_64 ?_
                refine z_iald (pc := 65) (f := el) (j := 100 * n2 + i) cx (hW.at 8 rfl) (ixe n2 i) (by omega) (by decide) dX8_judge_65 ?_
                refine lv_istore (pc := 66) (lv' := [(6, .int (el (100 * n2 + i))), (5, .int (nI i)), (4, .int (wrR kp so (nI n2) (-1))), (0, .ref (a 0)), (1, .int (nI n)), (2, .int st), (3, .int (nI n2))]) hx hb dX8_judge_66 hl (by decide) rfl (fun ls hl => ?_)
                refine lv_iload (pc := 68) hx hb dX8_judge_68 (lv_at hl 0 rfl) ?_
                refine lv_aload_n (pc := 70) hx hb dX8_judge_70 rfl (lv_at hl 3 rfl) ?_
                refine lv_iload_n (pc := 71) hx hb dX8_judge_71 rfl (lv_at hl 6 rfl) ?_
                refine k_X8_leastOf (pc := 72) (n := n2) cx hW (by first | assumption | omega) m_ml_X8_257 ⟨Nat.le_of_ble_eq_true rfl, Nat.le_of_ble_eq_true rfl⟩ hl.1 rfl (by simp [Value.category]) dX8_judge_72 ⟨Nat.le_refl _, Nat.le_refl _⟩ ?_
                refine lv_icmp_eq (pc := 75) (tgt := 99) hx hb dX8_judge_75 (by decide) (fun c_6 => ?_) (fun c_6 => ?_)
                · skip
                  refine lv_iinc (pc := 99) (v := nI (i + 1)) (lv' := [(5, .int (nI (i + 1))), (6, .int (el (100 * n2 + i))), (4, .int (wrR kp so (nI n2) (-1))), (0, .ref (a 0)), (1, .int (nI n)), (2, .int st), (3, .int (nI n2))]) hx hb dX8_judge_99 hl (k := 1) rfl (nI_1 _) (by decide) rfl (fun ls hl => ?_)
                  refine lv_goto (pc := 102) (tgt := 43) hx hb dX8_judge_102 (by decide) ?_
                  exact ih_43 (i + 1) (nI (i + 1)) (by omega) (by omega) (by rw [he, fstN_miss (by simp [c_1, hN, c_2, c_3, c_4, hN2, c_6]) (by omega)]; rfl) (by first | rfl | (simp [judgeP, c_1, hN, c_2, c_3, c_4, hN2, c_6]; done)) ls (lv_sub hl [0, 2, 3, 4, 5, 6] rfl)
                · skip
                  refine lv_iload (pc := 78) hx hb dX8_judge_78 (lv_at hl 0 rfl) ?_
                  refine lv_aload_n (pc := 80) hx hb dX8_judge_80 rfl (lv_at hl 3 rfl) ?_
                  refine lv_iload_n (pc := 81) hx hb dX8_judge_81 rfl (lv_at hl 4 rfl) ?_
                  refine lv_bipush (pc := 82) (v := 10) hx hb dX8_judge_82 (by decide) ?_
                  refine lv_iload (pc := 84) hx hb dX8_judge_84 (lv_at hl 1 rfl) ?_
                  refine lv_iconst (pc := 86) (v := 1) hx hb dX8_judge_86 (by decide) ?_
                  refine lv_iadd (pc := 87) hx hb dX8_judge_87 ?_
                  refine lv_imul (pc := 88) hx hb dX8_judge_88 ?_
                  refine lv_iload_n (pc := 89) hx hb dX8_judge_89 rfl (lv_at hl 5 rfl) ?_
                  refine k_X8_swingOf (pc := 90) (n := n) (f := 10 * ((nI i) + 1)) (st := st) cx hW hI (tone_i i (by omega)) hn m_ml_X8_174 ⟨Nat.le_of_ble_eq_true rfl, Nat.le_of_ble_eq_true rfl⟩ hl.1 rfl (by simp [Value.category]) dX8_judge_90 ⟨Nat.le_refl _, Nat.le_refl _⟩ ?_
                  refine lv_icmp_eq (pc := 93) (tgt := 99) hx hb dX8_judge_93 (by decide) (fun c_7 => ?_) (fun c_7 => ?_)
                  · skip
                    refine lv_iinc (pc := 99) (v := nI (i + 1)) (lv' := [(5, .int (nI (i + 1))), (6, .int (el (100 * n2 + i))), (4, .int (wrR kp so (nI n2) (-1))), (0, .ref (a 0)), (1, .int (nI n)), (2, .int st), (3, .int (nI n2))]) hx hb dX8_judge_99 hl (k := 1) rfl (nI_1 _) (by decide) rfl (fun ls hl => ?_)
                    refine lv_goto (pc := 102) (tgt := 43) hx hb dX8_judge_102 (by decide) ?_
                    exact ih_43 (i + 1) (nI (i + 1)) (by omega) (by omega) (by rw [he, fstN_miss (by simp [c_1, hN, c_2, c_3, c_4, hN2, c_6, c_7]) (by omega)]; rfl) (by first | rfl | (simp [judgeP, c_1, hN, c_2, c_3, c_4, hN2, c_6, c_7]; done)) ls (lv_sub hl [0, 2, 3, 4, 5, 6] rfl)
                  · skip
                    refine lv_iload (pc := 96) hx hb dX8_judge_96 (lv_at hl 1 rfl) ?_
                    exact z_iret cx hr hlk dX8_judge_98 (by simp only [judgeP, c_1, hN, c_2, c_3, c_4, hN2, c_6, c_7, and_self, if_true, he]; rw [fstN_hit (by simp [c_1, hN, c_2, c_3, c_4, hN2, c_6, c_7]) (by omega)]; rfl)
          exact loop_43 ((iN (sz n2) - 0) + 1) 0 0 (Nat.lt_succ_self _) (by omega) rfl (by first | rfl | (simp [judgeP, c_1, hN, c_2, c_3, c_4, hN2]; done)) ls (lv_sub hl [0, 1, 2, 3, 4, 5] rfl)
        · skip
          refine lv_iload (pc := 37) hx hb dX8_judge_37 (lv_at hl 0 rfl) ?_
          exact z_iret cx hr hlk dX8_judge_39 (by first | rfl | (simp [judgeP, c_1, hN, c_2, c_3, c_4]; done))
      · skip
        refine lv_iconst (pc := 22) (v := (-1)) hx hb dX8_judge_22 (by decide) ?_
        exact z_iret cx hr hlk dX8_judge_23 (by first | rfl | (simp [judgeP, c_1, hN, c_2, c_3]; done))
theorem k_X8_judge {p : Program} {l : Launch} {e : Env} {R : Room} {s : State} {m : MethodId} {args : Array Value} {below : List Frame} {meth : Method} {c : Code} {H : Heap} {locs : List Loc} {cells slots : Nat} {Q : State → Prop} {cc : ByteArray} {pc index : Nat} {ls : Array Slot} {rest st0 : List Value} {E : zE} {own : String} {nL : Nat} {a : Nat → Nat} {sv im rd wa kp so sz el pr ts nu bu ht : Nat → Int32} {th po ba en td : Int32} {ig : Bool} {ij : Bool} {x st d : Int32} (cx : Cx E p s args m c own cc nL) (hW : WW E (wM a (E.2.1 0) sv im rd wa kp so sz el pr ts nu bu ht (bI ig) th po ba en td (bI ij)) gN H) (hI : Inv sv) (hR : InvR kp so sz) (zl : Cond.methodLink own index yX8_judge ∈ AllW) (zR : 16 + 1 ≤ R.frames ∧ 8 + (7 + 11) + 474 ≤ R.locals) (zs : ls.size = nL) (zt : st0 = ([.int x, .int st, .int d] : List Value).reverse ++ .ref (a 0) :: rest) (z8 : (rest.map fun v => v.category).sum ≤ 8) (zd : decode cc pc = .ok (.invokevirtual index, 3)) (zf : cells ≤ R.cells ∧ slots ≤ R.slots) (kk : W p l e R s m args below meth c H locs cells slots Q (F0 m (pc + 3) ls (.int (judgeP sv kp so sz el x st d) :: rest))) : W p l e R s m args below meth c H locs cells slots Q (F0 m pc ls st0) :=
  z_callV cx vm_X8_judge (c_X8_judge l E a sv im rd wa kp so sz el pr ts nu bu ht th po ba en td ig ij x st d hI hR) (z_rec cx.2 (hW.at 0 rfl) rfl) hW zl ⟨rfl, rfl⟩ zR rfl zs zt z8 zd zf kk
