theorem vm_X8_becomes : zVm yX8_becomes cX8_becomes 4 (some FieldType.int) 2 := ⟨m_co_X8_becomes, m_in_RX8, ⟨m_im_X8_becomes, m_se_X8_X8_becomes⟩, by decide +kernel, by decide +kernel, by decide +kernel⟩
set_option maxHeartbeats 4000000 in
set_option maxRecDepth 100000 in
theorem c_X8_becomes (l : Launch) (E : zE) (a : Nat → Nat) (sv im rd wa kp so sz el pr ts nu bu ht : Nat → Int32) (th po ba en td : Int32) (ig : Bool) (ij : Bool) (k : Nat) (x : Int32) (hk : k < 535) : Met l yX8_becomes (.code yX8_becomes cX8_becomes 4 (some FieldType.int) :: AllW) (rm0' 0 0) (zP E (fun H => WW E (wM a (E.2.1 0) sv im rd wa kp so sz el pr ts nu bu ht (bI ig) th po ba en td (bI ij)) gN H) [.ref (a 0), .int (nI k), .int x]) (zQ (fun (_ : Heap) (v : Option Value) (H1 : Heap) => (v = some (.int (sv k)) ∧ WW E (wM a (E.2.1 0) (upd sv k x) im rd wa kp so sz el pr ts nu bu ht (bI ig) th po ba en td (bI ij)) gN H1)) (mF a)) 0 0 (mF a) := by
  refine z_body (own := RX8) (by decide) rfl rfl ?_
  intro p e s m args below meth c ls cx hr hlk hnm hW hl
  have hx := cx.x
  have hb := cx.b
  have hl : lv_has ls 4 [(0, .ref (a 0)), (1, .int (nI k)), (2, .int x)] := hl
  have hS : va_S (mF a) s.heap s.heap [] := va_S.rf
  refine lv_aload_n (pc := 0) hx hb dX8_becomes_0 rfl (lv_at hl 0 rfl) ?_
  refine z_getM (pc := 1) cx (hW.at 0 rfl) 0 rfl m_fl_X8_9 rfl dX8_becomes_1 ?_
  refine lv_iload_n (pc := 4) hx hb dX8_becomes_4 rfl (lv_at hl 1 rfl) ?_
  refine z_iald (pc := 5) (f := sv) (j := k) cx (hW.at 1 rfl) rfl (by omega) (by decide) dX8_becomes_5 ?_
  refine lv_istore_n (pc := 6) (lv' := [(3, .int (sv k)), (0, .ref (a 0)), (1, .int (nI k)), (2, .int x)]) hx hb dX8_becomes_6 rfl hl (by decide) rfl (fun ls hl => ?_)
  refine lv_aload_n (pc := 7) hx hb dX8_becomes_7 rfl (lv_at hl 1 rfl) ?_
  refine z_getM (pc := 8) cx (hW.at 0 rfl) 0 rfl m_fl_X8_9 rfl dX8_becomes_8 ?_
  refine lv_iload_n (pc := 11) hx hb dX8_becomes_11 rfl (lv_at hl 2 rfl) ?_
  refine lv_iload_n (pc := 12) hx hb dX8_becomes_12 rfl (lv_at hl 3 rfl) ?_
  refine z_iast (pc := 13) (f := sv) (j := k) cx hW hS 1 rfl (mF_in a 1) rfl (by omega) (by decide) dX8_becomes_13 (fun H locs hW hS => ?_)
  have hW : WW E (wM a (E.2.1 0) (upd sv k x) im rd wa kp so sz el pr ts nu bu ht (bI ig) th po ba en td (bI ij)) gN H := hW
  refine lv_iload_n (pc := 14) hx hb dX8_becomes_14 rfl (lv_at hl 0 rfl) ?_
  exact z_wiret cx hr hlk dX8_becomes_15 hS ⟨rfl, hW⟩
theorem k_X8_becomes {p : Program} {l : Launch} {e : Env} {R : Room} {s : State} {m : MethodId} {args : Array Value} {below : List Frame} {meth : Method} {c : Code} {H H0 : Heap} {locs : List Loc} {cells slots : Nat} {Q : State → Prop} {cc : ByteArray} {pc index : Nat} {ls : Array Slot} {rest st0 : List Value} {E : zE} {own : String} {nL : Nat} {F : Nat → Prop} {a : Nat → Nat} {sv im rd wa kp so sz el pr ts nu bu ht : Nat → Int32} {th po ba en td : Int32} {ig : Bool} {ij : Bool} {k : Nat} {x : Int32} (cx : Cx E p s args m c own cc nL) (hW : WW E (wM a (E.2.1 0) sv im rd wa kp so sz el pr ts nu bu ht (bI ig) th po ba en td (bI ij)) gN H) (hS : va_S F H0 H locs) (zF : ∀ q, (mF a) q → F q) (hk : k < 535) (zl : Cond.methodLink own index yX8_becomes ∈ AllW) (zR : 0 + 1 ≤ R.frames ∧ 8 + (4 + 11) + 0 ≤ R.locals) (zs : ls.size = nL) (zt : st0 = ([.int (nI k), .int x] : List Value).reverse ++ .ref (a 0) :: rest) (z8 : (rest.map fun v => v.category).sum ≤ 8) (zd : decode cc pc = .ok (.invokevirtual index, 3)) (zf : cells ≤ R.cells ∧ slots ≤ R.slots) (kk0 : ∀  (H1 : Heap) (locs1 : List Loc), WW E (wM a (E.2.1 0) (upd sv k x) im rd wa kp so sz el pr ts nu bu ht (bI ig) th po ba en td (bI ij)) gN H1 → va_S F H0 H1 locs1 → W p l e R s m args below meth c H1 locs1 cells slots Q (F0 m (pc + 3) ls (.int (sv k) :: rest))) : W p l e R s m args below meth c H locs cells slots Q (F0 m pc ls st0) := by
  refine z_callVw cx vm_X8_becomes (c_X8_becomes l E a sv im rd wa kp so sz el pr ts nu bu ht th po ba en td ig ij k x hk) (z_rec cx.2 (hW.at 0 rfl) rfl) hW hS zF zl ⟨rfl, rfl⟩ zR rfl zs zt z8 zd zf (fun v H1 locs1 hq hS1 _ => ?_)
  rcases hq with ⟨rfl, hW1⟩
  · exact kk0  H1 locs1  hW1 hS1
theorem vm_X8_notes : zVm yX8_notes cX8_notes 4 none 2 := ⟨m_co_X8_notes, m_in_RX8, ⟨m_im_X8_notes, m_se_X8_X8_notes⟩, by decide +kernel, by decide +kernel, by decide +kernel⟩
set_option maxHeartbeats 4000000 in
set_option maxRecDepth 100000 in
theorem c_X8_notes_s (l : Launch) (E : zE) (a : Nat → Nat) (sv im rd wa kp so sz el pr ts nu bu ht : Nat → Int32) (th po ba en td : Int32) (ig : Bool) (ij : Bool) (k : Nat) (hk : 73 ≤ k) (hk2 : k + 15 ≤ 535) : Met l yX8_notes (.code yX8_notes cX8_notes 4 none :: AllW) (rm0' 0 0) (zP E (fun H => WW E (wM a (E.2.1 0) sv im rd wa kp so sz el pr ts nu bu ht (bI ig) th po ba en td (bI ij)) gN H) [.ref (a 0), .ref (a 1), .int (nI k)]) (zQ (fun (_ : Heap) (v : Option Value) (H1 : Heap) => (v = none ∧ WW E (wM a (E.2.1 0) (ntA sv (winA sv) k 15) im rd wa kp so sz el pr ts nu bu ht (bI ig) th po ba en td (bI ij)) gN H1)) (mF a)) 0 0 (mF a) := by
  refine z_body (own := RX8) (by decide) rfl rfl ?_
  intro p e s m args below meth c ls cx hr hlk hnm hW hl
  have hx := cx.x
  have hb := cx.b
  have hl : lv_has ls 4 [(0, .ref (a 0)), (1, .ref (a 1)), (2, .int (nI k))] := hl
  have hS : va_S (mF a) s.heap s.heap [] := va_S.rf
  refine lv_iconst (pc := 0) (v := 0) hx hb dX8_notes_0 (by decide) ?_
  refine lv_istore_n (pc := 1) (lv' := [(3, .int 0), (0, .ref (a 0)), (1, .ref (a 1)), (2, .int (nI k))]) hx hb dX8_notes_1 rfl hl (by decide) rfl (fun ls hl => ?_)
  have loop_2 : ∀ (k_2 : Nat) (i : Nat) (x3 : Int32), (5 - i) < k_2 → (i ≤ 5) → x3 = nI i → ∀ (H : Heap) (locs : List Loc), WW E (wM a (E.2.1 0) (ntA sv (winA sv) k i) im rd wa kp so sz el pr ts nu bu ht (bI ig) th po ba en td (bI ij)) gN H → va_S (mF a) s.heap H locs → ∀ (ls : Array Slot), lv_has ls 4 [(3, .int x3), (0, .ref (a 0)), (1, .ref (a 1)), (2, .int (nI k))] → W p l e (rm0' (0) (0)) s m args below meth c H locs 0 0 (MQ below (zQ (fun (_ : Heap) (v : Option Value) (H1 : Heap) => (v = none ∧ WW E (wM a (E.2.1 0) (ntA sv (winA sv) k 15) im rd wa kp so sz el pr ts nu bu ht (bI ig) th po ba en td (bI ij)) gN H1)) (mF a)) args s 0 0 (mF a)) (F0 m 2 ls []) := by
    intro k_2
    induction k_2 with
    | zero =>
      intro i x3 hm
      exact absurd hm (Nat.not_lt_zero _)
    | succ k_2 ih_2 =>
      intro i x3 hm_2 hi e_x3  H locs  hW hS ls hl
      subst e_x3
      refine lv_iload_n (pc := 2) hx hb dX8_notes_2 rfl (lv_at hl 0 rfl) ?_
      refine lv_iconst (pc := 3) (v := 5) hx hb dX8_notes_3 (by decide) ?_
      refine lv_icmp_ge (pc := 4) (tgt := 26) hx hb dX8_notes_4 (by decide) (fun c_1 => ?_) (fun c_1 => ?_)
      · skip
        obtain rfl : i = 5 := by have := ge_nat (a := i) (b := 5) rfl rfl (by omega) (by omega) c_1; omega
        refine lv_iconst (pc := 26) (v := 0) hx hb dX8_notes_26 (by decide) ?_
        refine lv_istore_n (pc := 27) (lv' := [(3, .int 0), (0, .ref (a 0)), (1, .ref (a 1)), (2, .int (nI k))]) hx hb dX8_notes_27 rfl hl (by decide) rfl (fun ls hl => ?_)
        have loop_28 : ∀ (k_28 : Nat) (i : Nat) (x3 : Int32), (10 - i) < k_28 → (i ≤ 10) → x3 = nI i → ∀ (H : Heap) (locs : List Loc), WW E (wM a (E.2.1 0) (ntA sv (winA sv) k (5 + i)) im rd wa kp so sz el pr ts nu bu ht (bI ig) th po ba en td (bI ij)) gN H → va_S (mF a) s.heap H locs → ∀ (ls : Array Slot), lv_has ls 4 [(3, .int x3), (0, .ref (a 0)), (1, .ref (a 1)), (2, .int (nI k))] → W p l e (rm0' (0) (0)) s m args below meth c H locs 0 0 (MQ below (zQ (fun (_ : Heap) (v : Option Value) (H1 : Heap) => (v = none ∧ WW E (wM a (E.2.1 0) (ntA sv (winA sv) k 15) im rd wa kp so sz el pr ts nu bu ht (bI ig) th po ba en td (bI ij)) gN H1)) (mF a)) args s 0 0 (mF a)) (F0 m 28 ls []) := by
          intro k_28
          induction k_28 with
          | zero =>
            intro i x3 hm
            exact absurd hm (Nat.not_lt_zero _)
          | succ k_28 ih_28 =>
            intro i x3 hm_28 hi e_x3  H locs  hW hS ls hl
            subst e_x3
            refine lv_iload_n (pc := 28) hx hb dX8_notes_28 rfl (lv_at hl 0 rfl) ?_
            refine lv_bipush (pc := 29) (v := 10) hx hb dX8_notes_29 (by decide) ?_
            refine lv_icmp_ge (pc := 31) (tgt := 61) hx hb dX8_notes_31 (by decide) (fun c_2 => ?_) (fun c_2 => ?_)
            · skip
              obtain rfl : i = 10 := by have := ge_nat (a := i) (b := 10) rfl rfl (by omega) (by omega) c_2; omega
              exact z_wvret cx hr hlk dX8_notes_61 hS ⟨rfl, (by rw [show (ntA sv (winA sv) k 15) = ntA sv (winA sv) k (5 + 10) from (by first | rfl | (simp []; done))]; exact hW)⟩
            · skip
              have hlt_i := lt_nat (a := i) (b := 10) rfl rfl (by omega) (by omega) c_2
              refine lv_aload_n (pc := 34) hx hb dX8_notes_34 rfl (lv_at hl 2 rfl) ?_
              refine lv_iload_n (pc := 35) hx hb dX8_notes_35 rfl (lv_at hl 3 rfl) ?_
              refine lv_iconst (pc := 36) (v := 5) hx hb dX8_notes_36 (by decide) ?_
              refine lv_iadd (pc := 37) hx hb dX8_notes_37 ?_
              refine lv_iload_n (pc := 38) hx hb dX8_notes_38 rfl (lv_at hl 0 rfl) ?_
              refine lv_iadd (pc := 39) hx hb dX8_notes_39 ?_
              refine lv_aload_n (pc := 40) hx hb dX8_notes_40 rfl (lv_at hl 1 rfl) ?_
              refine z_getM (pc := 41) cx (hW.at 0 rfl) 0 rfl m_fl_X8_9 rfl dX8_notes_41 ?_
              refine lv_bipush (pc := 44) (v := 8) hx hb dX8_notes_44 (by decide) ?_
              refine lv_bipush (pc := 46) (v := 6) hx hb dX8_notes_46 (by decide) ?_
              refine lv_iload_n (pc := 48) hx hb dX8_notes_48 rfl (lv_at hl 0 rfl) ?_
              refine lv_imul (pc := 49) hx hb dX8_notes_49 ?_
              refine lv_iadd (pc := 50) hx hb dX8_notes_50 ?_
              refine lv_iconst (pc := 51) (v := 5) hx hb dX8_notes_51 (by decide) ?_
              refine lv_iadd (pc := 52) hx hb dX8_notes_52 ?_
              refine z_iald (pc := 53) (f := ntA sv (winA sv) k (5 + i)) (j := 8 + 6 * i + 5) cx (hW.at 1 rfl) (ix_65 i) (by omega) (by decide) dX8_notes_53 ?_
              refine z_iast (pc := 54) (f := ntA sv (winA sv) k (5 + i)) (j := k + 5 + i) cx hW hS 1 rfl (mF_in a 1) (ix_a5 k i) (by omega) (by decide) dX8_notes_54 (fun H locs hW hS => ?_)
              have hW : WW E (wM a (E.2.1 0) (upd (ntA sv (winA sv) k (5 + i)) (k + 5 + i) ((ntA sv (winA sv) k (5 + i)) (8 + 6 * i + 5))) im rd wa kp so sz el pr ts nu bu ht (bI ig) th po ba en td (bI ij)) gN H := hW
              refine lv_iinc (pc := 55) (v := nI (i + 1)) (lv' := [(3, .int (nI (i + 1))), (0, .ref (a 0)), (1, .ref (a 1)), (2, .int (nI k))]) hx hb dX8_notes_55 hl (k := 0) rfl (nI_1 _) (by decide) rfl (fun ls hl => ?_)
              refine lv_goto (pc := 58) (tgt := 28) hx hb dX8_notes_58 (by decide) ?_
              exact ih_28 (i + 1) (nI (i + 1)) (by omega) (by omega) (by first | rfl | (simp [c_2, i_nle.mp c_2]; done))  _ _  (by rw [show 5 + (i + 1) = (5 + i) + 1 from rfl, ← ntA_s]; rw [ntA_lo _ _ _ _ _ (by omega)] at hW; simp only [winA, if_neg (show ¬ 5 + i < 5 by omega), Nat.add_sub_cancel_left, ← Nat.add_assoc]; exact hW) hS ls (lv_sub hl [0, 1, 2, 3] rfl)
        exact loop_28 ((10 - 0) + 1) 0 0 (Nat.lt_succ_self _) (by omega) (by first | rfl | (simp []; done))  _ _  (by exact hW) hS ls (lv_sub hl [0, 1, 2, 3] rfl)
      · skip
        have hlt_i := lt_nat (a := i) (b := 5) rfl rfl (by omega) (by omega) c_1
        refine lv_aload_n (pc := 7) hx hb dX8_notes_7 rfl (lv_at hl 2 rfl) ?_
        refine lv_iload_n (pc := 8) hx hb dX8_notes_8 rfl (lv_at hl 3 rfl) ?_
        refine lv_iload_n (pc := 9) hx hb dX8_notes_9 rfl (lv_at hl 0 rfl) ?_
        refine lv_iadd (pc := 10) hx hb dX8_notes_10 ?_
        refine lv_aload_n (pc := 11) hx hb dX8_notes_11 rfl (lv_at hl 1 rfl) ?_
        refine z_getM (pc := 12) cx (hW.at 0 rfl) 0 rfl m_fl_X8_9 rfl dX8_notes_12 ?_
        refine lv_iconst (pc := 15) (v := 3) hx hb dX8_notes_15 (by decide) ?_
        refine lv_iload_n (pc := 16) hx hb dX8_notes_16 rfl (lv_at hl 0 rfl) ?_
        refine lv_iadd (pc := 17) hx hb dX8_notes_17 ?_
        refine z_iald (pc := 18) (f := ntA sv (winA sv) k i) (j := 3 + i) cx (hW.at 1 rfl) (ix_3 i) (by omega) (by decide) dX8_notes_18 ?_
        refine z_iast (pc := 19) (f := ntA sv (winA sv) k i) (j := k + i) cx hW hS 1 rfl (mF_in a 1) (nI_add _ _) (by omega) (by decide) dX8_notes_19 (fun H locs hW hS => ?_)
        have hW : WW E (wM a (E.2.1 0) (upd (ntA sv (winA sv) k i) (k + i) ((ntA sv (winA sv) k i) (3 + i))) im rd wa kp so sz el pr ts nu bu ht (bI ig) th po ba en td (bI ij)) gN H := hW
        refine lv_iinc (pc := 20) (v := nI (i + 1)) (lv' := [(3, .int (nI (i + 1))), (0, .ref (a 0)), (1, .ref (a 1)), (2, .int (nI k))]) hx hb dX8_notes_20 hl (k := 0) rfl (nI_1 _) (by decide) rfl (fun ls hl => ?_)
        refine lv_goto (pc := 23) (tgt := 2) hx hb dX8_notes_23 (by decide) ?_
        exact ih_2 (i + 1) (nI (i + 1)) (by omega) (by omega) (by first | rfl | (simp [c_1, i_nle.mp c_1]; done))  _ _  (by rw [← ntA_s]; rw [ntA_lo _ _ _ _ _ (by omega)] at hW; simp only [winA, if_pos hlt_i]; exact hW) hS ls (lv_sub hl [0, 1, 2, 3] rfl)
  exact loop_2 ((5 - 0) + 1) 0 0 (Nat.lt_succ_self _) (by omega) (by first | rfl | (simp []; done))  _ _  (by rw [ntA_0]; exact hW) hS ls (lv_sub hl [0, 1, 2, 3] rfl)
theorem k_X8_notes_s {p : Program} {l : Launch} {e : Env} {R : Room} {s : State} {m : MethodId} {args : Array Value} {below : List Frame} {meth : Method} {c : Code} {H H0 : Heap} {locs : List Loc} {cells slots : Nat} {Q : State → Prop} {cc : ByteArray} {pc index : Nat} {ls : Array Slot} {rest st0 : List Value} {E : zE} {own : String} {nL : Nat} {F : Nat → Prop} {a : Nat → Nat} {sv im rd wa kp so sz el pr ts nu bu ht : Nat → Int32} {th po ba en td : Int32} {ig : Bool} {ij : Bool} {k : Nat} (cx : Cx E p s args m c own cc nL) (hW : WW E (wM a (E.2.1 0) sv im rd wa kp so sz el pr ts nu bu ht (bI ig) th po ba en td (bI ij)) gN H) (hS : va_S F H0 H locs) (zF : ∀ q, (mF a) q → F q) (hk : 73 ≤ k) (hk2 : k + 15 ≤ 535) (zl : Cond.methodLink own index yX8_notes ∈ AllW) (zR : 0 + 1 ≤ R.frames ∧ 8 + (4 + 11) + 0 ≤ R.locals) (zs : ls.size = nL) (zt : st0 = ([.ref (a 1), .int (nI k)] : List Value).reverse ++ .ref (a 0) :: rest) (z8 : (rest.map fun v => v.category).sum ≤ 8) (zd : decode cc pc = .ok (.invokevirtual index, 3)) (zf : cells ≤ R.cells ∧ slots ≤ R.slots) (kk0 : ∀  (H1 : Heap) (locs1 : List Loc), WW E (wM a (E.2.1 0) (ntA sv (winA sv) k 15) im rd wa kp so sz el pr ts nu bu ht (bI ig) th po ba en td (bI ij)) gN H1 → va_S F H0 H1 locs1 → W p l e R s m args below meth c H1 locs1 cells slots Q (F0 m (pc + 3) ls (rest))) : W p l e R s m args below meth c H locs cells slots Q (F0 m pc ls st0) := by
  refine z_callVw cx vm_X8_notes (c_X8_notes_s l E a sv im rd wa kp so sz el pr ts nu bu ht th po ba en td ig ij k hk hk2) (z_rec cx.2 (hW.at 0 rfl) rfl) hW hS zF zl ⟨rfl, rfl⟩ zR rfl zs zt z8 zd zf (fun v H1 locs1 hq hS1 _ => ?_)
  rcases hq with ⟨rfl, hW1⟩
  · exact kk0  H1 locs1  hW1 hS1
set_option maxHeartbeats 4000000 in
set_option maxRecDepth 100000 in
theorem c_X8_notes_w (l : Launch) (E : zE) (a : Nat → Nat) (sv im rd wa kp so sz el pr ts nu bu ht : Nat → Int32) (th po ba en td : Int32) (ig : Bool) (ij : Bool) (k : Nat) (hk : k + 15 ≤ 18) : Met l yX8_notes (.code yX8_notes cX8_notes 4 none :: AllW) (rm0' 0 0) (zP E (fun H => WW E (wM a (E.2.1 0) sv im rd wa kp so sz el pr ts nu bu ht (bI ig) th po ba en td (bI ij)) gN H) [.ref (a 0), .ref (a 4), .int (nI k)]) (zQ (fun (_ : Heap) (v : Option Value) (H1 : Heap) => (v = none ∧ WW E (wM a (E.2.1 0) sv im rd (ntA wa (winA sv) k 15) kp so sz el pr ts nu bu ht (bI ig) th po ba en td (bI ij)) gN H1)) (mF a)) 0 0 (mF a) := by
  refine z_body (own := RX8) (by decide) rfl rfl ?_
  intro p e s m args below meth c ls cx hr hlk hnm hW hl
  have hx := cx.x
  have hb := cx.b
  have hl : lv_has ls 4 [(0, .ref (a 0)), (1, .ref (a 4)), (2, .int (nI k))] := hl
  have hS : va_S (mF a) s.heap s.heap [] := va_S.rf
  refine lv_iconst (pc := 0) (v := 0) hx hb dX8_notes_0 (by decide) ?_
  refine lv_istore_n (pc := 1) (lv' := [(3, .int 0), (0, .ref (a 0)), (1, .ref (a 4)), (2, .int (nI k))]) hx hb dX8_notes_1 rfl hl (by decide) rfl (fun ls hl => ?_)
  have loop_2 : ∀ (k_2 : Nat) (i : Nat) (x3 : Int32), (5 - i) < k_2 → (i ≤ 5) → x3 = nI i → ∀ (H : Heap) (locs : List Loc), WW E (wM a (E.2.1 0) sv im rd (ntA wa (winA sv) k i) kp so sz el pr ts nu bu ht (bI ig) th po ba en td (bI ij)) gN H → va_S (mF a) s.heap H locs → ∀ (ls : Array Slot), lv_has ls 4 [(3, .int x3), (0, .ref (a 0)), (1, .ref (a 4)), (2, .int (nI k))] → W p l e (rm0' (0) (0)) s m args below meth c H locs 0 0 (MQ below (zQ (fun (_ : Heap) (v : Option Value) (H1 : Heap) => (v = none ∧ WW E (wM a (E.2.1 0) sv im rd (ntA wa (winA sv) k 15) kp so sz el pr ts nu bu ht (bI ig) th po ba en td (bI ij)) gN H1)) (mF a)) args s 0 0 (mF a)) (F0 m 2 ls []) := by
    intro k_2
    induction k_2 with
    | zero =>
      intro i x3 hm
      exact absurd hm (Nat.not_lt_zero _)
    | succ k_2 ih_2 =>
      intro i x3 hm_2 hi e_x3  H locs  hW hS ls hl
      subst e_x3
      refine lv_iload_n (pc := 2) hx hb dX8_notes_2 rfl (lv_at hl 0 rfl) ?_
      refine lv_iconst (pc := 3) (v := 5) hx hb dX8_notes_3 (by decide) ?_
      refine lv_icmp_ge (pc := 4) (tgt := 26) hx hb dX8_notes_4 (by decide) (fun c_1 => ?_) (fun c_1 => ?_)
      · skip
        obtain rfl : i = 5 := by have := ge_nat (a := i) (b := 5) rfl rfl (by omega) (by omega) c_1; omega
        refine lv_iconst (pc := 26) (v := 0) hx hb dX8_notes_26 (by decide) ?_
        refine lv_istore_n (pc := 27) (lv' := [(3, .int 0), (0, .ref (a 0)), (1, .ref (a 4)), (2, .int (nI k))]) hx hb dX8_notes_27 rfl hl (by decide) rfl (fun ls hl => ?_)
        have loop_28 : ∀ (k_28 : Nat) (i : Nat) (x3 : Int32), (10 - i) < k_28 → (i ≤ 10) → x3 = nI i → ∀ (H : Heap) (locs : List Loc), WW E (wM a (E.2.1 0) sv im rd (ntA wa (winA sv) k (5 + i)) kp so sz el pr ts nu bu ht (bI ig) th po ba en td (bI ij)) gN H → va_S (mF a) s.heap H locs → ∀ (ls : Array Slot), lv_has ls 4 [(3, .int x3), (0, .ref (a 0)), (1, .ref (a 4)), (2, .int (nI k))] → W p l e (rm0' (0) (0)) s m args below meth c H locs 0 0 (MQ below (zQ (fun (_ : Heap) (v : Option Value) (H1 : Heap) => (v = none ∧ WW E (wM a (E.2.1 0) sv im rd (ntA wa (winA sv) k 15) kp so sz el pr ts nu bu ht (bI ig) th po ba en td (bI ij)) gN H1)) (mF a)) args s 0 0 (mF a)) (F0 m 28 ls []) := by
          intro k_28
          induction k_28 with
          | zero =>
            intro i x3 hm
            exact absurd hm (Nat.not_lt_zero _)
          | succ k_28 ih_28 =>
            intro i x3 hm_28 hi e_x3  H locs  hW hS ls hl
            subst e_x3
            refine lv_iload_n (pc := 28) hx hb dX8_notes_28 rfl (lv_at hl 0 rfl) ?_
            refine lv_bipush (pc := 29) (v := 10) hx hb dX8_notes_29 (by decide) ?_
            refine lv_icmp_ge (pc := 31) (tgt := 61) hx hb dX8_notes_31 (by decide) (fun c_2 => ?_) (fun c_2 => ?_)
            · skip
              obtain rfl : i = 10 := by have := ge_nat (a := i) (b := 10) rfl rfl (by omega) (by omega) c_2; omega
              exact z_wvret cx hr hlk dX8_notes_61 hS ⟨rfl, (by rw [show (ntA wa (winA sv) k 15) = ntA wa (winA sv) k (5 + 10) from (by first | rfl | (simp []; done))]; exact hW)⟩
            · skip
              have hlt_i := lt_nat (a := i) (b := 10) rfl rfl (by omega) (by omega) c_2
              refine lv_aload_n (pc := 34) hx hb dX8_notes_34 rfl (lv_at hl 2 rfl) ?_
              refine lv_iload_n (pc := 35) hx hb dX8_notes_35 rfl (lv_at hl 3 rfl) ?_
              refine lv_iconst (pc := 36) (v := 5) hx hb dX8_notes_36 (by decide) ?_
              refine lv_iadd (pc := 37) hx hb dX8_notes_37 ?_
              refine lv_iload_n (pc := 38) hx hb dX8_notes_38 rfl (lv_at hl 0 rfl) ?_
              refine lv_iadd (pc := 39) hx hb dX8_notes_39 ?_
              refine lv_aload_n (pc := 40) hx hb dX8_notes_40 rfl (lv_at hl 1 rfl) ?_
              refine z_getM (pc := 41) cx (hW.at 0 rfl) 0 rfl m_fl_X8_9 rfl dX8_notes_41 ?_
              refine lv_bipush (pc := 44) (v := 8) hx hb dX8_notes_44 (by decide) ?_
              refine lv_bipush (pc := 46) (v := 6) hx hb dX8_notes_46 (by decide) ?_
              refine lv_iload_n (pc := 48) hx hb dX8_notes_48 rfl (lv_at hl 0 rfl) ?_
              refine lv_imul (pc := 49) hx hb dX8_notes_49 ?_
              refine lv_iadd (pc := 50) hx hb dX8_notes_50 ?_
              refine lv_iconst (pc := 51) (v := 5) hx hb dX8_notes_51 (by decide) ?_
              refine lv_iadd (pc := 52) hx hb dX8_notes_52 ?_
              refine z_iald (pc := 53) (f := sv) (j := 8 + 6 * i + 5) cx (hW.at 1 rfl) (ix_65 i) (by omega) (by decide) dX8_notes_53 ?_
              refine z_iast (pc := 54) (f := ntA wa (winA sv) k (5 + i)) (j := k + 5 + i) cx hW hS 4 rfl (mF_in a 4) (ix_a5 k i) (by omega) (by decide) dX8_notes_54 (fun H locs hW hS => ?_)
              have hW : WW E (wM a (E.2.1 0) sv im rd (upd (ntA wa (winA sv) k (5 + i)) (k + 5 + i) (sv (8 + 6 * i + 5))) kp so sz el pr ts nu bu ht (bI ig) th po ba en td (bI ij)) gN H := hW
              refine lv_iinc (pc := 55) (v := nI (i + 1)) (lv' := [(3, .int (nI (i + 1))), (0, .ref (a 0)), (1, .ref (a 4)), (2, .int (nI k))]) hx hb dX8_notes_55 hl (k := 0) rfl (nI_1 _) (by decide) rfl (fun ls hl => ?_)
              refine lv_goto (pc := 58) (tgt := 28) hx hb dX8_notes_58 (by decide) ?_
              exact ih_28 (i + 1) (nI (i + 1)) (by omega) (by omega) (by first | rfl | (simp [c_2, i_nle.mp c_2]; done))  _ _  (by rw [show 5 + (i + 1) = (5 + i) + 1 from rfl, ← ntA_s]; simp only [winA, if_neg (show ¬ 5 + i < 5 by omega), Nat.add_sub_cancel_left, ← Nat.add_assoc]; exact hW) hS ls (lv_sub hl [0, 1, 2, 3] rfl)
        exact loop_28 ((10 - 0) + 1) 0 0 (Nat.lt_succ_self _) (by omega) (by first | rfl | (simp []; done))  _ _  (by exact hW) hS ls (lv_sub hl [0, 1, 2, 3] rfl)
      · skip
        have hlt_i := lt_nat (a := i) (b := 5) rfl rfl (by omega) (by omega) c_1
        refine lv_aload_n (pc := 7) hx hb dX8_notes_7 rfl (lv_at hl 2 rfl) ?_
        refine lv_iload_n (pc := 8) hx hb dX8_notes_8 rfl (lv_at hl 3 rfl) ?_
        refine lv_iload_n (pc := 9) hx hb dX8_notes_9 rfl (lv_at hl 0 rfl) ?_
        refine lv_iadd (pc := 10) hx hb dX8_notes_10 ?_
        refine lv_aload_n (pc := 11) hx hb dX8_notes_11 rfl (lv_at hl 1 rfl) ?_
        refine z_getM (pc := 12) cx (hW.at 0 rfl) 0 rfl m_fl_X8_9 rfl dX8_notes_12 ?_
        refine lv_iconst (pc := 15) (v := 3) hx hb dX8_notes_15 (by decide) ?_
        refine lv_iload_n (pc := 16) hx hb dX8_notes_16 rfl (lv_at hl 0 rfl) ?_
        refine lv_iadd (pc := 17) hx hb dX8_notes_17 ?_
        refine z_iald (pc := 18) (f := sv) (j := 3 + i) cx (hW.at 1 rfl) (ix_3 i) (by omega) (by decide) dX8_notes_18 ?_
        refine z_iast (pc := 19) (f := ntA wa (winA sv) k i) (j := k + i) cx hW hS 4 rfl (mF_in a 4) (nI_add _ _) (by omega) (by decide) dX8_notes_19 (fun H locs hW hS => ?_)
        have hW : WW E (wM a (E.2.1 0) sv im rd (upd (ntA wa (winA sv) k i) (k + i) (sv (3 + i))) kp so sz el pr ts nu bu ht (bI ig) th po ba en td (bI ij)) gN H := hW
        refine lv_iinc (pc := 20) (v := nI (i + 1)) (lv' := [(3, .int (nI (i + 1))), (0, .ref (a 0)), (1, .ref (a 4)), (2, .int (nI k))]) hx hb dX8_notes_20 hl (k := 0) rfl (nI_1 _) (by decide) rfl (fun ls hl => ?_)
        refine lv_goto (pc := 23) (tgt := 2) hx hb dX8_notes_23 (by decide) ?_
        exact ih_2 (i + 1) (nI (i + 1)) (by omega) (by omega) (by first | rfl | (simp [c_1, i_nle.mp c_1]; done))  _ _  (by rw [← ntA_s]; simp only [winA, if_pos hlt_i]; exact hW) hS ls (lv_sub hl [0, 1, 2, 3] rfl)
  exact loop_2 ((5 - 0) + 1) 0 0 (Nat.lt_succ_self _) (by omega) (by first | rfl | (simp []; done))  _ _  (by rw [ntA_0]; exact hW) hS ls (lv_sub hl [0, 1, 2, 3] rfl)
theorem k_X8_notes_w {p : Program} {l : Launch} {e : Env} {R : Room} {s : State} {m : MethodId} {args : Array Value} {below : List Frame} {meth : Method} {c : Code} {H H0 : Heap} {locs : List Loc} {cells slots : Nat} {Q : State → Prop} {cc : ByteArray} {pc index : Nat} {ls : Array Slot} {rest st0 : List Value} {E : zE} {own : String} {nL : Nat} {F : Nat → Prop} {a : Nat → Nat} {sv im rd wa kp so sz el pr ts nu bu ht : Nat → Int32} {th po ba en td : Int32} {ig : Bool} {ij : Bool} {k : Nat} (cx : Cx E p s args m c own cc nL) (hW : WW E (wM a (E.2.1 0) sv im rd wa kp so sz el pr ts nu bu ht (bI ig) th po ba en td (bI ij)) gN H) (hS : va_S F H0 H locs) (zF : ∀ q, (mF a) q → F q) (hk : k + 15 ≤ 18) (zl : Cond.methodLink own index yX8_notes ∈ AllW) (zR : 0 + 1 ≤ R.frames ∧ 8 + (4 + 11) + 0 ≤ R.locals) (zs : ls.size = nL) (zt : st0 = ([.ref (a 4), .int (nI k)] : List Value).reverse ++ .ref (a 0) :: rest) (z8 : (rest.map fun v => v.category).sum ≤ 8) (zd : decode cc pc = .ok (.invokevirtual index, 3)) (zf : cells ≤ R.cells ∧ slots ≤ R.slots) (kk0 : ∀  (H1 : Heap) (locs1 : List Loc), WW E (wM a (E.2.1 0) sv im rd (ntA wa (winA sv) k 15) kp so sz el pr ts nu bu ht (bI ig) th po ba en td (bI ij)) gN H1 → va_S F H0 H1 locs1 → W p l e R s m args below meth c H1 locs1 cells slots Q (F0 m (pc + 3) ls (rest))) : W p l e R s m args below meth c H locs cells slots Q (F0 m pc ls st0) := by
  refine z_callVw cx vm_X8_notes (c_X8_notes_w l E a sv im rd wa kp so sz el pr ts nu bu ht th po ba en td ig ij k hk) (z_rec cx.2 (hW.at 0 rfl) rfl) hW hS zF zl ⟨rfl, rfl⟩ zR rfl zs zt z8 zd zf (fun v H1 locs1 hq hS1 _ => ?_)
  rcases hq with ⟨rfl, hW1⟩
  · exact kk0  H1 locs1  hW1 hS1
theorem vm_X8_putsBack : zVm yX8_putsBack cX8_putsBack 4 none 2 := ⟨m_co_X8_putsBack, m_in_RX8, ⟨m_im_X8_putsBack, m_se_X8_X8_putsBack⟩, by decide +kernel, by decide +kernel, by decide +kernel⟩
set_option maxHeartbeats 4000000 in
set_option maxRecDepth 100000 in
theorem c_X8_putsBack_s (l : Launch) (E : zE) (a : Nat → Nat) (sv im rd wa kp so sz el pr ts nu bu ht : Nat → Int32) (th po ba en td : Int32) (ig : Bool) (ij : Bool) (k : Nat) (hk : 73 ≤ k) (hk2 : k + 15 ≤ 535) : Met l yX8_putsBack (.code yX8_putsBack cX8_putsBack 4 none :: AllW) (rm0' 0 0) (zP E (fun H => WW E (wM a (E.2.1 0) sv im rd wa kp so sz el pr ts nu bu ht (bI ig) th po ba en td (bI ij)) gN H) [.ref (a 0), .ref (a 1), .int (nI k)]) (zQ (fun (_ : Heap) (v : Option Value) (H1 : Heap) => (v = none ∧ WW E (wM a (E.2.1 0) (pb sv (fun q => sv (k + q))) im rd wa kp so sz el pr ts nu bu ht (bI ig) th po ba en td (bI ij)) gN H1)) (mF a)) 0 0 (mF a) := by
  refine z_body (own := RX8) (by decide) rfl rfl ?_
  intro p e s m args below meth c ls cx hr hlk hnm hW hl
  have hx := cx.x
  have hb := cx.b
  have hl : lv_has ls 4 [(0, .ref (a 0)), (1, .ref (a 1)), (2, .int (nI k))] := hl
  have hS : va_S (mF a) s.heap s.heap [] := va_S.rf
  refine lv_iconst (pc := 0) (v := 0) hx hb dX8_putsBack_0 (by decide) ?_
  refine lv_istore_n (pc := 1) (lv' := [(3, .int 0), (0, .ref (a 0)), (1, .ref (a 1)), (2, .int (nI k))]) hx hb dX8_putsBack_1 rfl hl (by decide) rfl (fun ls hl => ?_)
  have loop_2 : ∀ (k_2 : Nat) (i : Nat) (x3 : Int32), (5 - i) < k_2 → (i ≤ 5) → x3 = nI i → ∀ (H : Heap) (locs : List Loc), WW E (wM a (E.2.1 0) (pbA sv (fun q => sv (k + q)) i) im rd wa kp so sz el pr ts nu bu ht (bI ig) th po ba en td (bI ij)) gN H → va_S (mF a) s.heap H locs → ∀ (ls : Array Slot), lv_has ls 4 [(3, .int x3), (0, .ref (a 0)), (1, .ref (a 1)), (2, .int (nI k))] → W p l e (rm0' (0) (0)) s m args below meth c H locs 0 0 (MQ below (zQ (fun (_ : Heap) (v : Option Value) (H1 : Heap) => (v = none ∧ WW E (wM a (E.2.1 0) (pb sv (fun q => sv (k + q))) im rd wa kp so sz el pr ts nu bu ht (bI ig) th po ba en td (bI ij)) gN H1)) (mF a)) args s 0 0 (mF a)) (F0 m 2 ls []) := by
    intro k_2
    induction k_2 with
    | zero =>
      intro i x3 hm
      exact absurd hm (Nat.not_lt_zero _)
    | succ k_2 ih_2 =>
      intro i x3 hm_2 hi e_x3  H locs  hW hS ls hl
      subst e_x3
      refine lv_iload_n (pc := 2) hx hb dX8_putsBack_2 rfl (lv_at hl 0 rfl) ?_
      refine lv_iconst (pc := 3) (v := 5) hx hb dX8_putsBack_3 (by decide) ?_
      refine lv_icmp_ge (pc := 4) (tgt := 26) hx hb dX8_putsBack_4 (by decide) (fun c_1 => ?_) (fun c_1 => ?_)
      · skip
        obtain rfl : i = 5 := by have := ge_nat (a := i) (b := 5) rfl rfl (by omega) (by omega) c_1; omega
        refine lv_iconst (pc := 26) (v := 0) hx hb dX8_putsBack_26 (by decide) ?_
        refine lv_istore_n (pc := 27) (lv' := [(3, .int 0), (0, .ref (a 0)), (1, .ref (a 1)), (2, .int (nI k))]) hx hb dX8_putsBack_27 rfl hl (by decide) rfl (fun ls hl => ?_)
        have loop_28 : ∀ (k_28 : Nat) (i : Nat) (x3 : Int32), (10 - i) < k_28 → (i ≤ 10) → x3 = nI i → ∀ (H : Heap) (locs : List Loc), WW E (wM a (E.2.1 0) (pbB sv (fun q => sv (k + q)) i) im rd wa kp so sz el pr ts nu bu ht (bI ig) th po ba en td (bI ij)) gN H → va_S (mF a) s.heap H locs → ∀ (ls : Array Slot), lv_has ls 4 [(3, .int x3), (0, .ref (a 0)), (1, .ref (a 1)), (2, .int (nI k))] → W p l e (rm0' (0) (0)) s m args below meth c H locs 0 0 (MQ below (zQ (fun (_ : Heap) (v : Option Value) (H1 : Heap) => (v = none ∧ WW E (wM a (E.2.1 0) (pb sv (fun q => sv (k + q))) im rd wa kp so sz el pr ts nu bu ht (bI ig) th po ba en td (bI ij)) gN H1)) (mF a)) args s 0 0 (mF a)) (F0 m 28 ls []) := by
          intro k_28
          induction k_28 with
          | zero =>
            intro i x3 hm
            exact absurd hm (Nat.not_lt_zero _)
          | succ k_28 ih_28 =>
            intro i x3 hm_28 hi e_x3  H locs  hW hS ls hl
            subst e_x3
            refine lv_iload_n (pc := 28) hx hb dX8_putsBack_28 rfl (lv_at hl 0 rfl) ?_
            refine lv_bipush (pc := 29) (v := 10) hx hb dX8_putsBack_29 (by decide) ?_
            refine lv_icmp_ge (pc := 31) (tgt := 61) hx hb dX8_putsBack_31 (by decide) (fun c_2 => ?_) (fun c_2 => ?_)
            · skip
              obtain rfl : i = 10 := by have := ge_nat (a := i) (b := 10) rfl rfl (by omega) (by omega) c_2; omega
              exact z_wvret cx hr hlk dX8_putsBack_61 hS ⟨rfl, (by rw [show (pb sv (fun q => sv (k + q))) = pbB sv (fun q => sv (k + q)) 10 from (by first | rfl | (simp []; done))]; exact hW)⟩
            · skip
              have hlt_i := lt_nat (a := i) (b := 10) rfl rfl (by omega) (by omega) c_2
              refine lv_aload_n (pc := 34) hx hb dX8_putsBack_34 rfl (lv_at hl 1 rfl) ?_
              refine z_getM (pc := 35) cx (hW.at 0 rfl) 0 rfl m_fl_X8_9 rfl dX8_putsBack_35 ?_
              refine lv_bipush (pc := 38) (v := 8) hx hb dX8_putsBack_38 (by decide) ?_
              refine lv_bipush (pc := 40) (v := 6) hx hb dX8_putsBack_40 (by decide) ?_
              refine lv_iload_n (pc := 42) hx hb dX8_putsBack_42 rfl (lv_at hl 0 rfl) ?_
              refine lv_imul (pc := 43) hx hb dX8_putsBack_43 ?_
              refine lv_iadd (pc := 44) hx hb dX8_putsBack_44 ?_
              refine lv_iconst (pc := 45) (v := 5) hx hb dX8_putsBack_45 (by decide) ?_
              refine lv_iadd (pc := 46) hx hb dX8_putsBack_46 ?_
              refine lv_aload_n (pc := 47) hx hb dX8_putsBack_47 rfl (lv_at hl 2 rfl) ?_
              refine lv_iload_n (pc := 48) hx hb dX8_putsBack_48 rfl (lv_at hl 3 rfl) ?_
              refine lv_iconst (pc := 49) (v := 5) hx hb dX8_putsBack_49 (by decide) ?_
              refine lv_iadd (pc := 50) hx hb dX8_putsBack_50 ?_
              refine lv_iload_n (pc := 51) hx hb dX8_putsBack_51 rfl (lv_at hl 0 rfl) ?_
              refine lv_iadd (pc := 52) hx hb dX8_putsBack_52 ?_
              refine z_iald (pc := 53) (f := pbB sv (fun q => sv (k + q)) i) (j := k + 5 + i) cx (hW.at 1 rfl) (ix_a5 k i) (by omega) (by decide) dX8_putsBack_53 ?_
              refine z_iast (pc := 54) (f := pbB sv (fun q => sv (k + q)) i) (j := 8 + 6 * i + 5) cx hW hS 1 rfl (mF_in a 1) (ix_65 i) (by omega) (by decide) dX8_putsBack_54 (fun H locs hW hS => ?_)
              have hW : WW E (wM a (E.2.1 0) (upd (pbB sv (fun q => sv (k + q)) i) (8 + 6 * i + 5) ((pbB sv (fun q => sv (k + q)) i) (k + 5 + i))) im rd wa kp so sz el pr ts nu bu ht (bI ig) th po ba en td (bI ij)) gN H := hW
              refine lv_iinc (pc := 55) (v := nI (i + 1)) (lv' := [(3, .int (nI (i + 1))), (0, .ref (a 0)), (1, .ref (a 1)), (2, .int (nI k))]) hx hb dX8_putsBack_55 hl (k := 0) rfl (nI_1 _) (by decide) rfl (fun ls hl => ?_)
              refine lv_goto (pc := 58) (tgt := 28) hx hb dX8_putsBack_58 (by decide) ?_
              exact ih_28 (i + 1) (nI (i + 1)) (by omega) (by omega) (by first | rfl | (simp [c_2, i_nle.mp c_2]; done))  _ _  (by rw [← pbB_s]; rw [pbB_hi _ _ _ _ (by omega) (by omega)] at hW; simp only [← Nat.add_assoc]; exact hW) hS ls (lv_sub hl [0, 1, 2, 3] rfl)
        exact loop_28 ((10 - 0) + 1) 0 0 (Nat.lt_succ_self _) (by omega) (by first | rfl | (simp []; done))  _ _  (by rw [← pbB_0]; exact hW) hS ls (lv_sub hl [0, 1, 2, 3] rfl)
      · skip
        have hlt_i := lt_nat (a := i) (b := 5) rfl rfl (by omega) (by omega) c_1
        refine lv_aload_n (pc := 7) hx hb dX8_putsBack_7 rfl (lv_at hl 1 rfl) ?_
        refine z_getM (pc := 8) cx (hW.at 0 rfl) 0 rfl m_fl_X8_9 rfl dX8_putsBack_8 ?_
        refine lv_iconst (pc := 11) (v := 3) hx hb dX8_putsBack_11 (by decide) ?_
        refine lv_iload_n (pc := 12) hx hb dX8_putsBack_12 rfl (lv_at hl 0 rfl) ?_
        refine lv_iadd (pc := 13) hx hb dX8_putsBack_13 ?_
        refine lv_aload_n (pc := 14) hx hb dX8_putsBack_14 rfl (lv_at hl 2 rfl) ?_
        refine lv_iload_n (pc := 15) hx hb dX8_putsBack_15 rfl (lv_at hl 3 rfl) ?_
        refine lv_iload_n (pc := 16) hx hb dX8_putsBack_16 rfl (lv_at hl 0 rfl) ?_
        refine lv_iadd (pc := 17) hx hb dX8_putsBack_17 ?_
        refine z_iald (pc := 18) (f := pbA sv (fun q => sv (k + q)) i) (j := k + i) cx (hW.at 1 rfl) (nI_add _ _) (by omega) (by decide) dX8_putsBack_18 ?_
        refine z_iast (pc := 19) (f := pbA sv (fun q => sv (k + q)) i) (j := 3 + i) cx hW hS 1 rfl (mF_in a 1) (ix_3 i) (by omega) (by decide) dX8_putsBack_19 (fun H locs hW hS => ?_)
        have hW : WW E (wM a (E.2.1 0) (upd (pbA sv (fun q => sv (k + q)) i) (3 + i) ((pbA sv (fun q => sv (k + q)) i) (k + i))) im rd wa kp so sz el pr ts nu bu ht (bI ig) th po ba en td (bI ij)) gN H := hW
        refine lv_iinc (pc := 20) (v := nI (i + 1)) (lv' := [(3, .int (nI (i + 1))), (0, .ref (a 0)), (1, .ref (a 1)), (2, .int (nI k))]) hx hb dX8_putsBack_20 hl (k := 0) rfl (nI_1 _) (by decide) rfl (fun ls hl => ?_)
        refine lv_goto (pc := 23) (tgt := 2) hx hb dX8_putsBack_23 (by decide) ?_
        exact ih_2 (i + 1) (nI (i + 1)) (by omega) (by omega) (by first | rfl | (simp [c_1, i_nle.mp c_1]; done))  _ _  (by rw [← pbA_s]; rw [pbA_hi _ _ _ _ (by omega) (by omega)] at hW; exact hW) hS ls (lv_sub hl [0, 1, 2, 3] rfl)
  exact loop_2 ((5 - 0) + 1) 0 0 (Nat.lt_succ_self _) (by omega) (by first | rfl | (simp []; done))  _ _  (by rw [pbA_0]; exact hW) hS ls (lv_sub hl [0, 1, 2, 3] rfl)
theorem k_X8_putsBack_s {p : Program} {l : Launch} {e : Env} {R : Room} {s : State} {m : MethodId} {args : Array Value} {below : List Frame} {meth : Method} {c : Code} {H H0 : Heap} {locs : List Loc} {cells slots : Nat} {Q : State → Prop} {cc : ByteArray} {pc index : Nat} {ls : Array Slot} {rest st0 : List Value} {E : zE} {own : String} {nL : Nat} {F : Nat → Prop} {a : Nat → Nat} {sv im rd wa kp so sz el pr ts nu bu ht : Nat → Int32} {th po ba en td : Int32} {ig : Bool} {ij : Bool} {k : Nat} (cx : Cx E p s args m c own cc nL) (hW : WW E (wM a (E.2.1 0) sv im rd wa kp so sz el pr ts nu bu ht (bI ig) th po ba en td (bI ij)) gN H) (hS : va_S F H0 H locs) (zF : ∀ q, (mF a) q → F q) (hk : 73 ≤ k) (hk2 : k + 15 ≤ 535) (zl : Cond.methodLink own index yX8_putsBack ∈ AllW) (zR : 0 + 1 ≤ R.frames ∧ 8 + (4 + 11) + 0 ≤ R.locals) (zs : ls.size = nL) (zt : st0 = ([.ref (a 1), .int (nI k)] : List Value).reverse ++ .ref (a 0) :: rest) (z8 : (rest.map fun v => v.category).sum ≤ 8) (zd : decode cc pc = .ok (.invokevirtual index, 3)) (zf : cells ≤ R.cells ∧ slots ≤ R.slots) (kk0 : ∀  (H1 : Heap) (locs1 : List Loc), WW E (wM a (E.2.1 0) (pb sv (fun q => sv (k + q))) im rd wa kp so sz el pr ts nu bu ht (bI ig) th po ba en td (bI ij)) gN H1 → va_S F H0 H1 locs1 → W p l e R s m args below meth c H1 locs1 cells slots Q (F0 m (pc + 3) ls (rest))) : W p l e R s m args below meth c H locs cells slots Q (F0 m pc ls st0) := by
  refine z_callVw cx vm_X8_putsBack (c_X8_putsBack_s l E a sv im rd wa kp so sz el pr ts nu bu ht th po ba en td ig ij k hk hk2) (z_rec cx.2 (hW.at 0 rfl) rfl) hW hS zF zl ⟨rfl, rfl⟩ zR rfl zs zt z8 zd zf (fun v H1 locs1 hq hS1 _ => ?_)
  rcases hq with ⟨rfl, hW1⟩
  · exact kk0  H1 locs1  hW1 hS1
set_option maxHeartbeats 4000000 in
set_option maxRecDepth 100000 in
theorem c_X8_putsBack_w (l : Launch) (E : zE) (a : Nat → Nat) (sv im rd wa kp so sz el pr ts nu bu ht : Nat → Int32) (th po ba en td : Int32) (ig : Bool) (ij : Bool) (k : Nat) (hk : k + 15 ≤ 18) : Met l yX8_putsBack (.code yX8_putsBack cX8_putsBack 4 none :: AllW) (rm0' 0 0) (zP E (fun H => WW E (wM a (E.2.1 0) sv im rd wa kp so sz el pr ts nu bu ht (bI ig) th po ba en td (bI ij)) gN H) [.ref (a 0), .ref (a 4), .int (nI k)]) (zQ (fun (_ : Heap) (v : Option Value) (H1 : Heap) => (v = none ∧ WW E (wM a (E.2.1 0) (pb sv (fun q => wa (k + q))) im rd wa kp so sz el pr ts nu bu ht (bI ig) th po ba en td (bI ij)) gN H1)) (mF a)) 0 0 (mF a) := by
  refine z_body (own := RX8) (by decide) rfl rfl ?_
  intro p e s m args below meth c ls cx hr hlk hnm hW hl
  have hx := cx.x
  have hb := cx.b
  have hl : lv_has ls 4 [(0, .ref (a 0)), (1, .ref (a 4)), (2, .int (nI k))] := hl
  have hS : va_S (mF a) s.heap s.heap [] := va_S.rf
  refine lv_iconst (pc := 0) (v := 0) hx hb dX8_putsBack_0 (by decide) ?_
  refine lv_istore_n (pc := 1) (lv' := [(3, .int 0), (0, .ref (a 0)), (1, .ref (a 4)), (2, .int (nI k))]) hx hb dX8_putsBack_1 rfl hl (by decide) rfl (fun ls hl => ?_)
  have loop_2 : ∀ (k_2 : Nat) (i : Nat) (x3 : Int32), (5 - i) < k_2 → (i ≤ 5) → x3 = nI i → ∀ (H : Heap) (locs : List Loc), WW E (wM a (E.2.1 0) (pbA sv (fun q => wa (k + q)) i) im rd wa kp so sz el pr ts nu bu ht (bI ig) th po ba en td (bI ij)) gN H → va_S (mF a) s.heap H locs → ∀ (ls : Array Slot), lv_has ls 4 [(3, .int x3), (0, .ref (a 0)), (1, .ref (a 4)), (2, .int (nI k))] → W p l e (rm0' (0) (0)) s m args below meth c H locs 0 0 (MQ below (zQ (fun (_ : Heap) (v : Option Value) (H1 : Heap) => (v = none ∧ WW E (wM a (E.2.1 0) (pb sv (fun q => wa (k + q))) im rd wa kp so sz el pr ts nu bu ht (bI ig) th po ba en td (bI ij)) gN H1)) (mF a)) args s 0 0 (mF a)) (F0 m 2 ls []) := by
    intro k_2
    induction k_2 with
    | zero =>
      intro i x3 hm
      exact absurd hm (Nat.not_lt_zero _)
    | succ k_2 ih_2 =>
      intro i x3 hm_2 hi e_x3  H locs  hW hS ls hl
      subst e_x3
      refine lv_iload_n (pc := 2) hx hb dX8_putsBack_2 rfl (lv_at hl 0 rfl) ?_
      refine lv_iconst (pc := 3) (v := 5) hx hb dX8_putsBack_3 (by decide) ?_
      refine lv_icmp_ge (pc := 4) (tgt := 26) hx hb dX8_putsBack_4 (by decide) (fun c_1 => ?_) (fun c_1 => ?_)
      · skip
        obtain rfl : i = 5 := by have := ge_nat (a := i) (b := 5) rfl rfl (by omega) (by omega) c_1; omega
        refine lv_iconst (pc := 26) (v := 0) hx hb dX8_putsBack_26 (by decide) ?_
        refine lv_istore_n (pc := 27) (lv' := [(3, .int 0), (0, .ref (a 0)), (1, .ref (a 4)), (2, .int (nI k))]) hx hb dX8_putsBack_27 rfl hl (by decide) rfl (fun ls hl => ?_)
        have loop_28 : ∀ (k_28 : Nat) (i : Nat) (x3 : Int32), (10 - i) < k_28 → (i ≤ 10) → x3 = nI i → ∀ (H : Heap) (locs : List Loc), WW E (wM a (E.2.1 0) (pbB sv (fun q => wa (k + q)) i) im rd wa kp so sz el pr ts nu bu ht (bI ig) th po ba en td (bI ij)) gN H → va_S (mF a) s.heap H locs → ∀ (ls : Array Slot), lv_has ls 4 [(3, .int x3), (0, .ref (a 0)), (1, .ref (a 4)), (2, .int (nI k))] → W p l e (rm0' (0) (0)) s m args below meth c H locs 0 0 (MQ below (zQ (fun (_ : Heap) (v : Option Value) (H1 : Heap) => (v = none ∧ WW E (wM a (E.2.1 0) (pb sv (fun q => wa (k + q))) im rd wa kp so sz el pr ts nu bu ht (bI ig) th po ba en td (bI ij)) gN H1)) (mF a)) args s 0 0 (mF a)) (F0 m 28 ls []) := by
          intro k_28
          induction k_28 with
          | zero =>
            intro i x3 hm
            exact absurd hm (Nat.not_lt_zero _)
          | succ k_28 ih_28 =>
            intro i x3 hm_28 hi e_x3  H locs  hW hS ls hl
            subst e_x3
            refine lv_iload_n (pc := 28) hx hb dX8_putsBack_28 rfl (lv_at hl 0 rfl) ?_
            refine lv_bipush (pc := 29) (v := 10) hx hb dX8_putsBack_29 (by decide) ?_
            refine lv_icmp_ge (pc := 31) (tgt := 61) hx hb dX8_putsBack_31 (by decide) (fun c_2 => ?_) (fun c_2 => ?_)
            · skip
              obtain rfl : i = 10 := by have := ge_nat (a := i) (b := 10) rfl rfl (by omega) (by omega) c_2; omega
              exact z_wvret cx hr hlk dX8_putsBack_61 hS ⟨rfl, (by rw [show (pb sv (fun q => wa (k + q))) = pbB sv (fun q => wa (k + q)) 10 from (by first | rfl | (simp []; done))]; exact hW)⟩
            · skip
              have hlt_i := lt_nat (a := i) (b := 10) rfl rfl (by omega) (by omega) c_2
              refine lv_aload_n (pc := 34) hx hb dX8_putsBack_34 rfl (lv_at hl 1 rfl) ?_
              refine z_getM (pc := 35) cx (hW.at 0 rfl) 0 rfl m_fl_X8_9 rfl dX8_putsBack_35 ?_
              refine lv_bipush (pc := 38) (v := 8) hx hb dX8_putsBack_38 (by decide) ?_
              refine lv_bipush (pc := 40) (v := 6) hx hb dX8_putsBack_40 (by decide) ?_
              refine lv_iload_n (pc := 42) hx hb dX8_putsBack_42 rfl (lv_at hl 0 rfl) ?_
              refine lv_imul (pc := 43) hx hb dX8_putsBack_43 ?_
              refine lv_iadd (pc := 44) hx hb dX8_putsBack_44 ?_
              refine lv_iconst (pc := 45) (v := 5) hx hb dX8_putsBack_45 (by decide) ?_
              refine lv_iadd (pc := 46) hx hb dX8_putsBack_46 ?_
              refine lv_aload_n (pc := 47) hx hb dX8_putsBack_47 rfl (lv_at hl 2 rfl) ?_
              refine lv_iload_n (pc := 48) hx hb dX8_putsBack_48 rfl (lv_at hl 3 rfl) ?_
              refine lv_iconst (pc := 49) (v := 5) hx hb dX8_putsBack_49 (by decide) ?_
              refine lv_iadd (pc := 50) hx hb dX8_putsBack_50 ?_
              refine lv_iload_n (pc := 51) hx hb dX8_putsBack_51 rfl (lv_at hl 0 rfl) ?_
              refine lv_iadd (pc := 52) hx hb dX8_putsBack_52 ?_
              refine z_iald (pc := 53) (f := wa) (j := k + 5 + i) cx (hW.at 4 rfl) (ix_a5 k i) (by omega) (by decide) dX8_putsBack_53 ?_
              refine z_iast (pc := 54) (f := pbB sv (fun q => wa (k + q)) i) (j := 8 + 6 * i + 5) cx hW hS 1 rfl (mF_in a 1) (ix_65 i) (by omega) (by decide) dX8_putsBack_54 (fun H locs hW hS => ?_)
              have hW : WW E (wM a (E.2.1 0) (upd (pbB sv (fun q => wa (k + q)) i) (8 + 6 * i + 5) (wa (k + 5 + i))) im rd wa kp so sz el pr ts nu bu ht (bI ig) th po ba en td (bI ij)) gN H := hW
              refine lv_iinc (pc := 55) (v := nI (i + 1)) (lv' := [(3, .int (nI (i + 1))), (0, .ref (a 0)), (1, .ref (a 4)), (2, .int (nI k))]) hx hb dX8_putsBack_55 hl (k := 0) rfl (nI_1 _) (by decide) rfl (fun ls hl => ?_)
              refine lv_goto (pc := 58) (tgt := 28) hx hb dX8_putsBack_58 (by decide) ?_
              exact ih_28 (i + 1) (nI (i + 1)) (by omega) (by omega) (by first | rfl | (simp [c_2, i_nle.mp c_2]; done))  _ _  (by rw [← pbB_s]; simp only [← Nat.add_assoc]; exact hW) hS ls (lv_sub hl [0, 1, 2, 3] rfl)
        exact loop_28 ((10 - 0) + 1) 0 0 (Nat.lt_succ_self _) (by omega) (by first | rfl | (simp []; done))  _ _  (by rw [← pbB_0]; exact hW) hS ls (lv_sub hl [0, 1, 2, 3] rfl)
      · skip
        have hlt_i := lt_nat (a := i) (b := 5) rfl rfl (by omega) (by omega) c_1
        refine lv_aload_n (pc := 7) hx hb dX8_putsBack_7 rfl (lv_at hl 1 rfl) ?_
        refine z_getM (pc := 8) cx (hW.at 0 rfl) 0 rfl m_fl_X8_9 rfl dX8_putsBack_8 ?_
        refine lv_iconst (pc := 11) (v := 3) hx hb dX8_putsBack_11 (by decide) ?_
        refine lv_iload_n (pc := 12) hx hb dX8_putsBack_12 rfl (lv_at hl 0 rfl) ?_
        refine lv_iadd (pc := 13) hx hb dX8_putsBack_13 ?_
        refine lv_aload_n (pc := 14) hx hb dX8_putsBack_14 rfl (lv_at hl 2 rfl) ?_
        refine lv_iload_n (pc := 15) hx hb dX8_putsBack_15 rfl (lv_at hl 3 rfl) ?_
        refine lv_iload_n (pc := 16) hx hb dX8_putsBack_16 rfl (lv_at hl 0 rfl) ?_
        refine lv_iadd (pc := 17) hx hb dX8_putsBack_17 ?_
        refine z_iald (pc := 18) (f := wa) (j := k + i) cx (hW.at 4 rfl) (nI_add _ _) (by omega) (by decide) dX8_putsBack_18 ?_
        refine z_iast (pc := 19) (f := pbA sv (fun q => wa (k + q)) i) (j := 3 + i) cx hW hS 1 rfl (mF_in a 1) (ix_3 i) (by omega) (by decide) dX8_putsBack_19 (fun H locs hW hS => ?_)
        have hW : WW E (wM a (E.2.1 0) (upd (pbA sv (fun q => wa (k + q)) i) (3 + i) (wa (k + i))) im rd wa kp so sz el pr ts nu bu ht (bI ig) th po ba en td (bI ij)) gN H := hW
        refine lv_iinc (pc := 20) (v := nI (i + 1)) (lv' := [(3, .int (nI (i + 1))), (0, .ref (a 0)), (1, .ref (a 4)), (2, .int (nI k))]) hx hb dX8_putsBack_20 hl (k := 0) rfl (nI_1 _) (by decide) rfl (fun ls hl => ?_)
        refine lv_goto (pc := 23) (tgt := 2) hx hb dX8_putsBack_23 (by decide) ?_
        exact ih_2 (i + 1) (nI (i + 1)) (by omega) (by omega) (by first | rfl | (simp [c_1, i_nle.mp c_1]; done))  _ _  (by rw [← pbA_s]; exact hW) hS ls (lv_sub hl [0, 1, 2, 3] rfl)
  exact loop_2 ((5 - 0) + 1) 0 0 (Nat.lt_succ_self _) (by omega) (by first | rfl | (simp []; done))  _ _  (by rw [pbA_0]; exact hW) hS ls (lv_sub hl [0, 1, 2, 3] rfl)
theorem k_X8_putsBack_w {p : Program} {l : Launch} {e : Env} {R : Room} {s : State} {m : MethodId} {args : Array Value} {below : List Frame} {meth : Method} {c : Code} {H H0 : Heap} {locs : List Loc} {cells slots : Nat} {Q : State → Prop} {cc : ByteArray} {pc index : Nat} {ls : Array Slot} {rest st0 : List Value} {E : zE} {own : String} {nL : Nat} {F : Nat → Prop} {a : Nat → Nat} {sv im rd wa kp so sz el pr ts nu bu ht : Nat → Int32} {th po ba en td : Int32} {ig : Bool} {ij : Bool} {k : Nat} (cx : Cx E p s args m c own cc nL) (hW : WW E (wM a (E.2.1 0) sv im rd wa kp so sz el pr ts nu bu ht (bI ig) th po ba en td (bI ij)) gN H) (hS : va_S F H0 H locs) (zF : ∀ q, (mF a) q → F q) (hk : k + 15 ≤ 18) (zl : Cond.methodLink own index yX8_putsBack ∈ AllW) (zR : 0 + 1 ≤ R.frames ∧ 8 + (4 + 11) + 0 ≤ R.locals) (zs : ls.size = nL) (zt : st0 = ([.ref (a 4), .int (nI k)] : List Value).reverse ++ .ref (a 0) :: rest) (z8 : (rest.map fun v => v.category).sum ≤ 8) (zd : decode cc pc = .ok (.invokevirtual index, 3)) (zf : cells ≤ R.cells ∧ slots ≤ R.slots) (kk0 : ∀  (H1 : Heap) (locs1 : List Loc), WW E (wM a (E.2.1 0) (pb sv (fun q => wa (k + q))) im rd wa kp so sz el pr ts nu bu ht (bI ig) th po ba en td (bI ij)) gN H1 → va_S F H0 H1 locs1 → W p l e R s m args below meth c H1 locs1 cells slots Q (F0 m (pc + 3) ls (rest))) : W p l e R s m args below meth c H locs cells slots Q (F0 m pc ls st0) := by
  refine z_callVw cx vm_X8_putsBack (c_X8_putsBack_w l E a sv im rd wa kp so sz el pr ts nu bu ht th po ba en td ig ij k hk) (z_rec cx.2 (hW.at 0 rfl) rfl) hW hS zF zl ⟨rfl, rfl⟩ zR rfl zs zt z8 zd zf (fun v H1 locs1 hq hS1 _ => ?_)
  rcases hq with ⟨rfl, hW1⟩
  · exact kk0  H1 locs1  hW1 hS1
