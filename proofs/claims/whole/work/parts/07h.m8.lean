theorem w0_of {w : Int32} (h : inL w 0 1 = true) (h1 : ¬ w = 1) : w = 0 := by
  obtain ⟨k, hk, rfl⟩ := inL_nat h (B := 1) rfl
  rcases (show k = 0 ∨ k = 1 by omega) with rfl | rfl
  · rfl
  · exact absurd rfl h1
theorem sL {x y : Int64} (h : x = y) : some (Value.long x) = some (Value.long y) := by rw [h]
theorem vm_X8_wax : zVm yX8_wax cX8_wax 3 (some FieldType.int) 2 := ⟨m_co_X8_wax, m_in_RX8, ⟨m_im_X8_wax, m_se_X8_X8_wax⟩, by decide +kernel, by decide +kernel, by decide +kernel⟩
set_option maxHeartbeats 4000000 in
set_option maxRecDepth 100000 in
theorem c_X8_wax (l : Launch) (E : zE) (a : Nat → Nat) (sv im rd wa kp so sz el pr ts nu bu ht : Nat → Int32) (th po ba en td : Int32) (ig : Bool) (ij : Bool) (x n2 : Int32) (hI : Inv sv) : Met l yX8_wax (.code yX8_wax cX8_wax 3 (some FieldType.int) :: AllW) (rm0' 2 46) (zP E (fun H => WW E (wM a (E.2.1 0) sv im rd wa kp so sz el pr ts nu bu ht (bI ig) th po ba en td (bI ij)) gN H) [.ref (a 0), .int x, .int n2]) (zQ (fun (_ : Heap) (v : Option Value) (H1 : Heap) => (v = some (.int (waxR sv x n2)) ∧ WW E (wM a (E.2.1 0) (waxS sv x n2) im rd wa kp so sz el pr ts nu bu ht (bI ig) th po ba en td (bI ij)) gN H1)) (mF a)) 0 0 (mF a) := by
  refine z_body (own := RX8) (by decide) rfl rfl ?_
  intro p e s m args below meth c ls cx hr hlk hnm hW hl
  have hx := cx.x
  have hb := cx.b
  have hl : lv_has ls 3 [(0, .ref (a 0)), (1, .int x), (2, .int n2)] := hl
  have hS : va_S (mF a) s.heap s.heap [] := va_S.rf
  have hC := hI.1
  have hP10 := (Inv.n0 hC).2
  have hT7 := (Inv.n1 hC).2
  have hA24 := (Inv.n2 hC).2
  refine lv_aload_n (pc := 0) hx hb dX8_wax_0 rfl (lv_at hl 0 rfl) ?_
  refine lv_iload_n (pc := 1) hx hb dX8_wax_1 rfl (lv_at hl 1 rfl) ?_
  refine k_X8_isPiece (pc := 2) (x := x) cx hW  m_ml_X8_130 ⟨Nat.le_of_ble_eq_true rfl, Nat.le_of_ble_eq_true rfl⟩ hl.1 rfl (by simp [Value.category]) dX8_wax_2 ⟨Nat.le_refl _, Nat.le_refl _⟩ ?_
  refine z_ifeq (pc := 5) (tgt := 37) hx hb dX8_wax_5 (by decide) (fun c_1 => ?_) (fun c_1 => ?_)
  · skip
    refine lv_iconst (pc := 37) (v := (-1)) hx hb dX8_wax_37 (by decide) ?_
    exact z_wiret cx hr hlk dX8_wax_38 hS ⟨(sI (by first | rfl | (simp [waxR, g6, c_1]; done))), (by rw [show (waxS sv x n2) = sv from (by first | rfl | (simp [waxS, c_1]; done))]; exact hW)⟩
  · skip
    obtain ⟨n, hn, rfl⟩ := pc_nat hC c_1
    have hN := iN_nI (n := n) (by omega)
    refine lv_iload_n (pc := 8) hx hb dX8_wax_8 rfl (lv_at hl 2 rfl) ?_
    refine lv_i2l (pc := 9) (v := Int32.toInt64 n2) hx hb dX8_wax_9 rfl ?_
    refine lv_lconst (pc := 10) (v := 0) hx hb dX8_wax_10 rfl ?_
    refine lv_ldc2 (pc := 11) (v := 20) hx hb cx.own (cx.ts _ m_kl_X8_151) dX8_wax_11 ?_
    refine k_X8_isIn (pc := 14) (x := n2) (y := 0) (z := 20) cx  m_ml_X8_53 ⟨Nat.le_of_ble_eq_true rfl, Nat.le_of_ble_eq_true rfl⟩ hl.1 rfl (by simp [Value.category]) dX8_wax_14 ⟨Nat.le_refl _, Nat.le_refl _⟩ ?_
    refine z_ifeq (pc := 17) (tgt := 37) hx hb dX8_wax_17 (by decide) (fun c_2 => ?_) (fun c_2 => ?_)
    · skip
      refine lv_iconst (pc := 37) (v := (-1)) hx hb dX8_wax_37 (by decide) ?_
      exact z_wiret cx hr hlk dX8_wax_38 hS ⟨(sI (by first | rfl | (simp [waxR, g6, c_1, hN, c_2]; done))), (by rw [show (waxS sv (nI n) n2) = sv from (by first | rfl | (simp [waxS, c_1, hN, c_2]; done))]; exact hW)⟩
    · skip
      refine lv_aload_n (pc := 20) hx hb dX8_wax_20 rfl (lv_at hl 0 rfl) ?_
      refine lv_bipush (pc := 21) (v := 8) hx hb dX8_wax_21 (by decide) ?_
      refine lv_bipush (pc := 23) (v := 6) hx hb dX8_wax_23 (by decide) ?_
      refine lv_iload_n (pc := 25) hx hb dX8_wax_25 rfl (lv_at hl 1 rfl) ?_
      refine lv_imul (pc := 26) hx hb dX8_wax_26 ?_
      refine lv_iadd (pc := 27) hx hb dX8_wax_27 ?_
      refine lv_iconst (pc := 28) (v := 5) hx hb dX8_wax_28 (by decide) ?_
      refine lv_iadd (pc := 29) hx hb dX8_wax_29 ?_
      refine z_tope (y := nI (8 + 6 * n + 5)) (ix_65 n) ?_
      refine lv_iload_n (pc := 30) hx hb dX8_wax_30 rfl (lv_at hl 2 rfl) ?_
      refine k_X8_becomes (pc := 31) (x := n2) (k := 8 + 6 * n + 5) cx hW hS (fun _ h => h) (by first | assumption | omega) m_ml_X8_153 ⟨Nat.le_of_ble_eq_true rfl, Nat.le_of_ble_eq_true rfl⟩ hl.1 rfl (by simp [Value.category]) dX8_wax_31 ⟨Nat.le_refl _, Nat.le_refl _⟩ (fun  H locs  hW hS => ?_)
      have hW : WW E (wM a (E.2.1 0) (upd sv (8 + 6 * n + 5) n2) im rd wa kp so sz el pr ts nu bu ht (bI ig) th po ba en td (bI ij)) gN H := hW
      refine lv_goto (pc := 34) (tgt := 38) hx hb dX8_wax_34 (by decide) ?_
      exact z_wiret cx hr hlk dX8_wax_38 hS ⟨(sI (by first | rfl | (simp [waxR, g6, c_1, hN, c_2]; done))), (by rw [show (waxS sv (nI n) n2) = upd sv (8 + 6 * n + 5) n2 from (by first | rfl | (simp [waxS, c_1, hN, c_2]; done))]; exact hW)⟩
theorem k_X8_wax {p : Program} {l : Launch} {e : Env} {R : Room} {s : State} {m : MethodId} {args : Array Value} {below : List Frame} {meth : Method} {c : Code} {H H0 : Heap} {locs : List Loc} {cells slots : Nat} {Q : State → Prop} {cc : ByteArray} {pc index : Nat} {ls : Array Slot} {rest st0 : List Value} {E : zE} {own : String} {nL : Nat} {F : Nat → Prop} {a : Nat → Nat} {sv im rd wa kp so sz el pr ts nu bu ht : Nat → Int32} {th po ba en td : Int32} {ig : Bool} {ij : Bool} {x n2 : Int32} (cx : Cx E p s args m c own cc nL) (hW : WW E (wM a (E.2.1 0) sv im rd wa kp so sz el pr ts nu bu ht (bI ig) th po ba en td (bI ij)) gN H) (hS : va_S F H0 H locs) (zF : ∀ q, (mF a) q → F q) (hI : Inv sv) (zl : Cond.methodLink own index yX8_wax ∈ AllW) (zR : 2 + 1 ≤ R.frames ∧ 8 + (3 + 11) + 46 ≤ R.locals) (zs : ls.size = nL) (zt : st0 = ([.int x, .int n2] : List Value).reverse ++ .ref (a 0) :: rest) (z8 : (rest.map fun v => v.category).sum ≤ 8) (zd : decode cc pc = .ok (.invokevirtual index, 3)) (zf : cells ≤ R.cells ∧ slots ≤ R.slots) (kk0 : ∀  (H1 : Heap) (locs1 : List Loc), WW E (wM a (E.2.1 0) (waxS sv x n2) im rd wa kp so sz el pr ts nu bu ht (bI ig) th po ba en td (bI ij)) gN H1 → va_S F H0 H1 locs1 → W p l e R s m args below meth c H1 locs1 cells slots Q (F0 m (pc + 3) ls (.int (waxR sv x n2) :: rest))) : W p l e R s m args below meth c H locs cells slots Q (F0 m pc ls st0) := by
  refine z_callVw cx vm_X8_wax (c_X8_wax l E a sv im rd wa kp so sz el pr ts nu bu ht th po ba en td ig ij x n2 hI) (z_rec cx.2 (hW.at 0 rfl) rfl) hW hS zF zl ⟨rfl, rfl⟩ zR rfl zs zt z8 zd zf (fun v H1 locs1 hq hS1 _ => ?_)
  rcases hq with ⟨rfl, hW1⟩
  · exact kk0  H1 locs1  hW1 hS1
theorem vm_X8_hand : zVm yX8_hand cX8_hand 2 (some FieldType.int) 1 := ⟨m_co_X8_hand, m_in_RX8, ⟨m_im_X8_hand, m_se_X8_X8_hand⟩, by decide +kernel, by decide +kernel, by decide +kernel⟩
set_option maxHeartbeats 4000000 in
set_option maxRecDepth 100000 in
theorem c_X8_hand (l : Launch) (E : zE) (a : Nat → Nat) (sv im rd wa kp so sz el pr ts nu bu ht : Nat → Int32) (th po ba en td : Int32) (ig : Bool) (ij : Bool) (x : Int32) (hI : Inv sv) : Met l yX8_hand (.code yX8_hand cX8_hand 2 (some FieldType.int) :: AllW) (rm0' 2 46) (zP E (fun H => WW E (wM a (E.2.1 0) sv im rd wa kp so sz el pr ts nu bu ht (bI ig) th po ba en td (bI ij)) gN H) [.ref (a 0), .int x]) (zQ (fun (_ : Heap) (v : Option Value) (H1 : Heap) => (v = some (.int (handR sv x)) ∧ WW E (wM a (E.2.1 0) (handS sv x) im rd wa kp so sz el pr ts nu bu ht (bI ig) th po ba en td (bI ij)) gN H1)) (mF a)) 0 0 (mF a) := by
  refine z_body (own := RX8) (by decide) rfl rfl ?_
  intro p e s m args below meth c ls cx hr hlk hnm hW hl
  have hx := cx.x
  have hb := cx.b
  have hl : lv_has ls 2 [(0, .ref (a 0)), (1, .int x)] := hl
  have hS : va_S (mF a) s.heap s.heap [] := va_S.rf
  have hC := hI.1
  have hP10 := (Inv.n0 hC).2
  have hT7 := (Inv.n1 hC).2
  have hA24 := (Inv.n2 hC).2
  refine lv_iload_n (pc := 0) hx hb dX8_hand_0 rfl (lv_at hl 1 rfl) ?_
  refine lv_iconst (pc := 1) (v := (-1)) hx hb dX8_hand_1 (by decide) ?_
  refine lv_icmp_ne (pc := 2) (tgt := 15) hx hb dX8_hand_2 (by decide) (fun c_1 => ?_) (fun c_1 => ?_)
  · skip
    refine lv_aload_n (pc := 15) hx hb dX8_hand_15 rfl (lv_at hl 0 rfl) ?_
    refine lv_iload_n (pc := 16) hx hb dX8_hand_16 rfl (lv_at hl 1 rfl) ?_
    refine k_X8_isPiece (pc := 17) (x := x) cx hW  m_ml_X8_130 ⟨Nat.le_of_ble_eq_true rfl, Nat.le_of_ble_eq_true rfl⟩ hl.1 rfl (by simp [Value.category]) dX8_hand_17 ⟨Nat.le_refl _, Nat.le_refl _⟩ ?_
    refine z_ifeq (pc := 20) (tgt := 32) hx hb dX8_hand_20 (by decide) (fun c_2 => ?_) (fun c_2 => ?_)
    · skip
      refine lv_ldc (pc := 32) (v := (-1000000001)) hx hb cx.own (cx.ts _ m_ko_X8_156) dX8_hand_32 ?_
      exact z_wiret cx hr hlk dX8_hand_34 hS ⟨(sI (by first | rfl | (simp [handR, c_1, c_2]; done))), (by rw [show (handS sv x) = sv from (by first | rfl | (simp [handS, c_1, c_2]; done))]; exact hW)⟩
    · skip
      refine lv_aload_n (pc := 23) hx hb dX8_hand_23 rfl (lv_at hl 0 rfl) ?_
      refine lv_iconst (pc := 24) (v := 3) hx hb dX8_hand_24 (by decide) ?_
      refine lv_iload_n (pc := 25) hx hb dX8_hand_25 rfl (lv_at hl 1 rfl) ?_
      refine k_X8_becomes (pc := 26) (k := 3) (x := x) cx hW hS (fun _ h => h) (by first | assumption | omega) m_ml_X8_153 ⟨Nat.le_of_ble_eq_true rfl, Nat.le_of_ble_eq_true rfl⟩ hl.1 rfl (by simp [Value.category]) dX8_hand_26 ⟨Nat.le_refl _, Nat.le_refl _⟩ (fun  H locs  hW hS => ?_)
      have hW : WW E (wM a (E.2.1 0) (upd sv 3 x) im rd wa kp so sz el pr ts nu bu ht (bI ig) th po ba en td (bI ij)) gN H := hW
      refine lv_goto (pc := 29) (tgt := 34) hx hb dX8_hand_29 (by decide) ?_
      exact z_wiret cx hr hlk dX8_hand_34 hS ⟨(sI (by first | rfl | (simp [handR, c_1, c_2]; done))), (by rw [show (handS sv x) = upd sv 3 x from (by first | rfl | (simp [handS, c_1, c_2]; done))]; exact hW)⟩
  · skip
    refine lv_aload_n (pc := 5) hx hb dX8_hand_5 rfl (lv_at hl 0 rfl) ?_
    refine lv_iconst (pc := 6) (v := 3) hx hb dX8_hand_6 (by decide) ?_
    refine lv_bipush (pc := 7) (v := (-4)) hx hb dX8_hand_7 (by decide) ?_
    refine k_X8_becomes (pc := 9) (k := 3) (x := (-4)) cx hW hS (fun _ h => h) (by first | assumption | omega) m_ml_X8_153 ⟨Nat.le_of_ble_eq_true rfl, Nat.le_of_ble_eq_true rfl⟩ hl.1 rfl (by simp [Value.category]) dX8_hand_9 ⟨Nat.le_refl _, Nat.le_refl _⟩ (fun  H locs  hW hS => ?_)
    have hW : WW E (wM a (E.2.1 0) (upd sv 3 (-4)) im rd wa kp so sz el pr ts nu bu ht (bI ig) th po ba en td (bI ij)) gN H := hW
    refine lv_goto (pc := 12) (tgt := 34) hx hb dX8_hand_12 (by decide) ?_
    exact z_wiret cx hr hlk dX8_hand_34 hS ⟨(sI (by first | rfl | (simp [handR, c_1]; done))), (by rw [show (handS sv x) = upd sv 3 (-4) from (by first | rfl | (simp [handS, c_1]; done))]; exact hW)⟩
theorem k_X8_hand {p : Program} {l : Launch} {e : Env} {R : Room} {s : State} {m : MethodId} {args : Array Value} {below : List Frame} {meth : Method} {c : Code} {H H0 : Heap} {locs : List Loc} {cells slots : Nat} {Q : State → Prop} {cc : ByteArray} {pc index : Nat} {ls : Array Slot} {rest st0 : List Value} {E : zE} {own : String} {nL : Nat} {F : Nat → Prop} {a : Nat → Nat} {sv im rd wa kp so sz el pr ts nu bu ht : Nat → Int32} {th po ba en td : Int32} {ig : Bool} {ij : Bool} {x : Int32} (cx : Cx E p s args m c own cc nL) (hW : WW E (wM a (E.2.1 0) sv im rd wa kp so sz el pr ts nu bu ht (bI ig) th po ba en td (bI ij)) gN H) (hS : va_S F H0 H locs) (zF : ∀ q, (mF a) q → F q) (hI : Inv sv) (zl : Cond.methodLink own index yX8_hand ∈ AllW) (zR : 2 + 1 ≤ R.frames ∧ 8 + (2 + 11) + 46 ≤ R.locals) (zs : ls.size = nL) (zt : st0 = ([.int x] : List Value).reverse ++ .ref (a 0) :: rest) (z8 : (rest.map fun v => v.category).sum ≤ 8) (zd : decode cc pc = .ok (.invokevirtual index, 3)) (zf : cells ≤ R.cells ∧ slots ≤ R.slots) (kk0 : ∀  (H1 : Heap) (locs1 : List Loc), WW E (wM a (E.2.1 0) (handS sv x) im rd wa kp so sz el pr ts nu bu ht (bI ig) th po ba en td (bI ij)) gN H1 → va_S F H0 H1 locs1 → W p l e R s m args below meth c H1 locs1 cells slots Q (F0 m (pc + 3) ls (.int (handR sv x) :: rest))) : W p l e R s m args below meth c H locs cells slots Q (F0 m pc ls st0) := by
  refine z_callVw cx vm_X8_hand (c_X8_hand l E a sv im rd wa kp so sz el pr ts nu bu ht th po ba en td ig ij x hI) (z_rec cx.2 (hW.at 0 rfl) rfl) hW hS zF zl ⟨rfl, rfl⟩ zR rfl zs zt z8 zd zf (fun v H1 locs1 hq hS1 _ => ?_)
  rcases hq with ⟨rfl, hW1⟩
  · exact kk0  H1 locs1  hW1 hS1
theorem vm_X8_set : zVm yX8_set cX8_set 3 (some FieldType.int) 2 := ⟨m_co_X8_set, m_in_RX8, ⟨m_im_X8_set, m_se_X8_X8_set⟩, by decide +kernel, by decide +kernel, by decide +kernel⟩
set_option maxHeartbeats 4000000 in
set_option maxRecDepth 100000 in
theorem c_X8_set (l : Launch) (E : zE) (a : Nat → Nat) (sv im rd wa kp so sz el pr ts nu bu ht : Nat → Int32) (th po ba en td : Int32) (ig : Bool) (ij : Bool) (w n2 : Int32)  : Met l yX8_set (.code yX8_set cX8_set 3 (some FieldType.int) :: AllW) (rm0' 2 46) (zP E (fun H => WW E (wM a (E.2.1 0) sv im rd wa kp so sz el pr ts nu bu ht (bI ig) th po ba en td (bI ij)) gN H) [.ref (a 0), .int w, .int n2]) (zQ (fun (_ : Heap) (v : Option Value) (H1 : Heap) => (v = some (.int (setR sv w n2)) ∧ WW E (wM a (E.2.1 0) (setS sv w n2) im rd wa kp so sz el pr ts nu bu ht (bI ig) th po ba en td (bI ij)) gN H1)) (mF a)) 0 0 (mF a) := by
  refine z_body (own := RX8) (by decide) rfl rfl ?_
  intro p e s m args below meth c ls cx hr hlk hnm hW hl
  have hx := cx.x
  have hb := cx.b
  have hl : lv_has ls 3 [(0, .ref (a 0)), (1, .int w), (2, .int n2)] := hl
  have hS : va_S (mF a) s.heap s.heap [] := va_S.rf
  refine lv_iload_n (pc := 0) hx hb dX8_set_0 rfl (lv_at hl 1 rfl) ?_
  refine lv_iload_n (pc := 1) hx hb dX8_set_1 rfl (lv_at hl 2 rfl) ?_
  refine k_X8_isValue (pc := 2) (w := w) (x := n2) cx  m_ml_X8_163 ⟨Nat.le_of_ble_eq_true rfl, Nat.le_of_ble_eq_true rfl⟩ hl.1 rfl (by simp [Value.category]) dX8_set_2 ⟨Nat.le_refl _, Nat.le_refl _⟩ ?_
  refine z_ifeq (pc := 5) (tgt := 19) hx hb dX8_set_5 (by decide) (fun c_1 => ?_) (fun c_1 => ?_)
  · skip
    refine lv_ldc (pc := 19) (v := (-1000000001)) hx hb cx.own (cx.ts _ m_ko_X8_156) dX8_set_19 ?_
    exact z_wiret cx hr hlk dX8_set_21 hS ⟨(sI (by first | rfl | (simp [setR, c_1]; done))), (by rw [show (setS sv w n2) = sv from (by first | rfl | (simp [setS, c_1]; done))]; exact hW)⟩
  · skip
    obtain ⟨k, hk, rfl⟩ := isVl_nat c_1
    have hK := iN_nI (n := k) (by omega)
    refine lv_aload_n (pc := 8) hx hb dX8_set_8 rfl (lv_at hl 0 rfl) ?_
    refine lv_iconst (pc := 9) (v := 4) hx hb dX8_set_9 (by decide) ?_
    refine lv_iload_n (pc := 10) hx hb dX8_set_10 rfl (lv_at hl 1 rfl) ?_
    refine lv_iadd (pc := 11) hx hb dX8_set_11 ?_
    refine z_tope (y := nI (4 + k)) (ix4 k) ?_
    refine lv_iload_n (pc := 12) hx hb dX8_set_12 rfl (lv_at hl 2 rfl) ?_
    refine k_X8_becomes (pc := 13) (k := 4 + k) (x := n2) cx hW hS (fun _ h => h) (by first | assumption | omega) m_ml_X8_153 ⟨Nat.le_of_ble_eq_true rfl, Nat.le_of_ble_eq_true rfl⟩ hl.1 rfl (by simp [Value.category]) dX8_set_13 ⟨Nat.le_refl _, Nat.le_refl _⟩ (fun  H locs  hW hS => ?_)
    have hW : WW E (wM a (E.2.1 0) (upd sv (4 + k) n2) im rd wa kp so sz el pr ts nu bu ht (bI ig) th po ba en td (bI ij)) gN H := hW
    refine lv_goto (pc := 16) (tgt := 21) hx hb dX8_set_16 (by decide) ?_
    exact z_wiret cx hr hlk dX8_set_21 hS ⟨(sI (by first | rfl | (simp [setR, c_1, hK]; done))), (by rw [show (setS sv (nI k) n2) = upd sv (4 + k) n2 from (by first | rfl | (simp [setS, c_1, hK]; done))]; exact hW)⟩
theorem k_X8_set {p : Program} {l : Launch} {e : Env} {R : Room} {s : State} {m : MethodId} {args : Array Value} {below : List Frame} {meth : Method} {c : Code} {H H0 : Heap} {locs : List Loc} {cells slots : Nat} {Q : State → Prop} {cc : ByteArray} {pc index : Nat} {ls : Array Slot} {rest st0 : List Value} {E : zE} {own : String} {nL : Nat} {F : Nat → Prop} {a : Nat → Nat} {sv im rd wa kp so sz el pr ts nu bu ht : Nat → Int32} {th po ba en td : Int32} {ig : Bool} {ij : Bool} {w n2 : Int32} (cx : Cx E p s args m c own cc nL) (hW : WW E (wM a (E.2.1 0) sv im rd wa kp so sz el pr ts nu bu ht (bI ig) th po ba en td (bI ij)) gN H) (hS : va_S F H0 H locs) (zF : ∀ q, (mF a) q → F q)  (zl : Cond.methodLink own index yX8_set ∈ AllW) (zR : 2 + 1 ≤ R.frames ∧ 8 + (3 + 11) + 46 ≤ R.locals) (zs : ls.size = nL) (zt : st0 = ([.int w, .int n2] : List Value).reverse ++ .ref (a 0) :: rest) (z8 : (rest.map fun v => v.category).sum ≤ 8) (zd : decode cc pc = .ok (.invokevirtual index, 3)) (zf : cells ≤ R.cells ∧ slots ≤ R.slots) (kk0 : ∀  (H1 : Heap) (locs1 : List Loc), WW E (wM a (E.2.1 0) (setS sv w n2) im rd wa kp so sz el pr ts nu bu ht (bI ig) th po ba en td (bI ij)) gN H1 → va_S F H0 H1 locs1 → W p l e R s m args below meth c H1 locs1 cells slots Q (F0 m (pc + 3) ls (.int (setR sv w n2) :: rest))) : W p l e R s m args below meth c H locs cells slots Q (F0 m pc ls st0) := by
  refine z_callVw cx vm_X8_set (c_X8_set l E a sv im rd wa kp so sz el pr ts nu bu ht th po ba en td ig ij w n2) (z_rec cx.2 (hW.at 0 rfl) rfl) hW hS zF zl ⟨rfl, rfl⟩ zR rfl zs zt z8 zd zf (fun v H1 locs1 hq hS1 _ => ?_)
  rcases hq with ⟨rfl, hW1⟩
  · exact kk0  H1 locs1  hW1 hS1
theorem vm_X8_forget : zVm yX8_forget cX8_forget 2 (some FieldType.int) 0 := ⟨m_co_X8_forget, m_in_RX8, ⟨m_im_X8_forget, m_se_X8_X8_forget⟩, by decide +kernel, by decide +kernel, by decide +kernel⟩
set_option maxHeartbeats 4000000 in
set_option maxRecDepth 100000 in
theorem c_X8_forget (l : Launch) (E : zE) (a : Nat → Nat) (sv im rd wa kp so sz el pr ts nu bu ht : Nat → Int32) (th po ba en td : Int32) (ig : Bool) (ij : Bool)   : Met l yX8_forget (.code yX8_forget cX8_forget 2 (some FieldType.int) :: AllW) (rm0' 0 0) (zP E (fun H => WW E (wM a (E.2.1 0) sv im rd wa kp so sz el pr ts nu bu ht (bI ig) th po ba en td (bI ij)) gN H) [.ref (a 0)]) (zQ (fun (_ : Heap) (v : Option Value) (H1 : Heap) => (v = some (.int (sv 2)) ∧ WW E (wM a (E.2.1 0) (upd sv 2 0) im rd wa kp so sz el pr ts nu bu ht (bI ig) th po ba en td (bI ij)) gN H1)) (mF a)) 0 0 (mF a) := by
  refine z_body (own := RX8) (by decide) rfl rfl ?_
  intro p e s m args below meth c ls cx hr hlk hnm hW hl
  have hx := cx.x
  have hb := cx.b
  have hl : lv_has ls 2 [(0, .ref (a 0))] := hl
  have hS : va_S (mF a) s.heap s.heap [] := va_S.rf
  refine lv_aload_n (pc := 0) hx hb dX8_forget_0 rfl (lv_at hl 0 rfl) ?_
  refine z_getM (pc := 1) cx (hW.at 0 rfl) 0 rfl m_fl_X8_9 rfl dX8_forget_1 ?_
  refine lv_iconst (pc := 4) (v := 2) hx hb dX8_forget_4 (by decide) ?_
  refine z_iald (pc := 5) (f := sv) (j := 2) cx (hW.at 1 rfl) rfl (by decide) (by decide) dX8_forget_5 ?_
  refine lv_istore_n (pc := 6) (lv' := [(1, .int (sv 2)), (0, .ref (a 0))]) hx hb dX8_forget_6 rfl hl (by decide) rfl (fun ls hl => ?_)
  refine lv_aload_n (pc := 7) hx hb dX8_forget_7 rfl (lv_at hl 1 rfl) ?_
  refine z_getM (pc := 8) cx (hW.at 0 rfl) 0 rfl m_fl_X8_9 rfl dX8_forget_8 ?_
  refine lv_iconst (pc := 11) (v := 2) hx hb dX8_forget_11 (by decide) ?_
  refine lv_iconst (pc := 12) (v := 0) hx hb dX8_forget_12 (by decide) ?_
  refine z_iast (pc := 13) (f := sv) (j := 2) cx hW hS 1 rfl (mF_in a 1) rfl (by decide) (by decide) dX8_forget_13 (fun H locs hW hS => ?_)
  have hW : WW E (wM a (E.2.1 0) (upd sv 2 0) im rd wa kp so sz el pr ts nu bu ht (bI ig) th po ba en td (bI ij)) gN H := hW
  refine lv_iload_n (pc := 14) hx hb dX8_forget_14 rfl (lv_at hl 0 rfl) ?_
  exact z_wiret cx hr hlk dX8_forget_15 hS ⟨rfl, hW⟩
theorem k_X8_forget {p : Program} {l : Launch} {e : Env} {R : Room} {s : State} {m : MethodId} {args : Array Value} {below : List Frame} {meth : Method} {c : Code} {H H0 : Heap} {locs : List Loc} {cells slots : Nat} {Q : State → Prop} {cc : ByteArray} {pc index : Nat} {ls : Array Slot} {rest st0 : List Value} {E : zE} {own : String} {nL : Nat} {F : Nat → Prop} {a : Nat → Nat} {sv im rd wa kp so sz el pr ts nu bu ht : Nat → Int32} {th po ba en td : Int32} {ig : Bool} {ij : Bool}  (cx : Cx E p s args m c own cc nL) (hW : WW E (wM a (E.2.1 0) sv im rd wa kp so sz el pr ts nu bu ht (bI ig) th po ba en td (bI ij)) gN H) (hS : va_S F H0 H locs) (zF : ∀ q, (mF a) q → F q)  (zl : Cond.methodLink own index yX8_forget ∈ AllW) (zR : 0 + 1 ≤ R.frames ∧ 8 + (2 + 11) + 0 ≤ R.locals) (zs : ls.size = nL) (zt : st0 = ([] : List Value).reverse ++ .ref (a 0) :: rest) (z8 : (rest.map fun v => v.category).sum ≤ 8) (zd : decode cc pc = .ok (.invokevirtual index, 3)) (zf : cells ≤ R.cells ∧ slots ≤ R.slots) (kk0 : ∀  (H1 : Heap) (locs1 : List Loc), WW E (wM a (E.2.1 0) (upd sv 2 0) im rd wa kp so sz el pr ts nu bu ht (bI ig) th po ba en td (bI ij)) gN H1 → va_S F H0 H1 locs1 → W p l e R s m args below meth c H1 locs1 cells slots Q (F0 m (pc + 3) ls (.int (sv 2) :: rest))) : W p l e R s m args below meth c H locs cells slots Q (F0 m pc ls st0) := by
  refine z_callVw cx vm_X8_forget (c_X8_forget l E a sv im rd wa kp so sz el pr ts nu bu ht th po ba en td ig ij) (z_rec cx.2 (hW.at 0 rfl) rfl) hW hS zF zl ⟨rfl, rfl⟩ zR rfl zs zt z8 zd zf (fun v H1 locs1 hq hS1 _ => ?_)
  rcases hq with ⟨rfl, hW1⟩
  · exact kk0  H1 locs1  hW1 hS1
theorem vm_X8_ask : zVm yX8_ask cX8_ask 5 (some FieldType.int) 3 := ⟨m_co_X8_ask, m_in_RX8, ⟨m_im_X8_ask, m_se_X8_X8_ask⟩, by decide +kernel, by decide +kernel, by decide +kernel⟩
set_option maxHeartbeats 4000000 in
set_option maxRecDepth 100000 in
theorem c_X8_ask (l : Launch) (E : zE) (a : Nat → Nat) (sv im rd wa kp so sz el pr ts nu bu ht : Nat → Int32) (th po ba en td : Int32) (ig : Bool) (ij : Bool) (f st : Int32) (h : Bool) (hI : Inv sv) : Met l yX8_ask (.code yX8_ask cX8_ask 5 (some FieldType.int) :: AllW) (rm0' 2 45) (zP E (fun H => WW E (wM a (E.2.1 0) sv im rd wa kp so sz el pr ts nu bu ht (bI ig) th po ba en td (bI ij)) gN H) [.ref (a 0), .int f, .int st, .int (bI h)]) (zQ (fun (_ : Heap) (v : Option Value) (H1 : Heap) => (v = some (.int (askR sv f st)) ∧ WW E (wM a (E.2.1 0) (askS sv f st h) im rd wa kp so sz el pr ts nu bu ht (bI ig) th po ba en td (bI ij)) gN H1)) (mF a)) 0 0 (mF a) := by
  refine z_body (own := RX8) (by decide) rfl rfl ?_
  intro p e s m args below meth c ls cx hr hlk hnm hW hl
  have hx := cx.x
  have hb := cx.b
  have hl : lv_has ls 5 [(0, .ref (a 0)), (1, .int f), (2, .int st), (3, .int (bI h))] := hl
  have hS : va_S (mF a) s.heap s.heap [] := va_S.rf
  have hC := hI.1
  have hP10 := (Inv.n0 hC).2
  have hT7 := (Inv.n1 hC).2
  have hA24 := (Inv.n2 hC).2
  refine lv_iload_n (pc := 0) hx hb dX8_ask_0 rfl (lv_at hl 1 rfl) ?_
  refine k_X8_isTone (pc := 1) (x := f) cx  m_ml_X8_177 ⟨Nat.le_of_ble_eq_true rfl, Nat.le_of_ble_eq_true rfl⟩ hl.1 rfl (by simp [Value.category]) dX8_ask_1 ⟨Nat.le_refl _, Nat.le_refl _⟩ ?_
  refine z_ifeq (pc := 4) (tgt := 14) hx hb dX8_ask_4 (by decide) (fun c_1 => ?_) (fun c_1 => ?_)
  · skip
    refine lv_iconst (pc := 14) (v := (-1)) hx hb dX8_ask_14 (by decide) ?_
    exact z_wiret cx hr hlk dX8_ask_15 hS ⟨(sI (by first | rfl | (simp [askR, upd_self, ntA_lo, askX, upd_ne, c_1]; done))), (by rw [show (askS sv f st h) = sv from (by first | rfl | (simp [askS, askX, bI, c_1]; done))]; exact hW)⟩
  · skip
    refine lv_iload_n (pc := 7) hx hb dX8_ask_7 rfl (lv_at hl 2 rfl) ?_
    refine k_X8_isStrong (pc := 8) (x := st) cx  m_ml_X8_180 ⟨Nat.le_of_ble_eq_true rfl, Nat.le_of_ble_eq_true rfl⟩ hl.1 rfl (by simp [Value.category]) dX8_ask_8 ⟨Nat.le_refl _, Nat.le_refl _⟩ ?_
    refine z_ifne (pc := 11) (tgt := 16) hx hb dX8_ask_11 (by decide) (fun c_2 => ?_) (fun c_2 => ?_)
    · skip
      refine lv_aload_n (pc := 16) hx hb dX8_ask_16 rfl (lv_at hl 0 rfl) ?_
      refine z_getM (pc := 17) cx (hW.at 0 rfl) 0 rfl m_fl_X8_9 rfl dX8_ask_17 ?_
      refine lv_iconst (pc := 20) (v := 2) hx hb dX8_ask_20 (by decide) ?_
      refine z_iald (pc := 21) (f := sv) (j := 2) cx (hW.at 1 rfl) rfl (by decide) (by decide) dX8_ask_21 ?_
      refine lv_bipush (pc := 22) (v := 24) hx hb dX8_ask_22 (by decide) ?_
      refine lv_icmp_ne (pc := 24) (tgt := 30) hx hb dX8_ask_24 (by decide) (fun c_3 => ?_) (fun c_3 => ?_)
      · skip
        have h24 : nA sv < 24 := by have e2 := (Inv.n2 hC).1; rw [e2] at c_3; have := (not_congr (nI_eq (a := nA sv) (b := 24) (by omega) (by decide))).mp c_3; omega
        refine lv_aload_n (pc := 30) hx hb dX8_ask_30 rfl (lv_at hl 0 rfl) ?_
        refine z_getM (pc := 31) cx (hW.at 0 rfl) 0 rfl m_fl_X8_9 rfl dX8_ask_31 ?_
        refine lv_iconst (pc := 34) (v := 1) hx hb dX8_ask_34 (by decide) ?_
        refine z_iald (pc := 35) (f := sv) (j := 1) cx (hW.at 1 rfl) rfl (by decide) (by decide) dX8_ask_35 ?_
        refine lv_if_ne (pc := 36) (tgt := 42) hx hb dX8_ask_36 (by decide) (fun c_4 => ?_) (fun c_4 => ?_)
        · skip
          refine lv_bipush (pc := 42) (v := 103) hx hb dX8_ask_42 (by decide) ?_
          refine lv_bipush (pc := 44) (v := 18) hx hb dX8_ask_44 (by decide) ?_
          refine lv_aload_n (pc := 46) hx hb dX8_ask_46 rfl (lv_at hl 0 rfl) ?_
          refine z_getM (pc := 47) cx (hW.at 0 rfl) 0 rfl m_fl_X8_9 rfl dX8_ask_47 ?_
          refine lv_iconst (pc := 50) (v := 2) hx hb dX8_ask_50 (by decide) ?_
          refine z_iald (pc := 51) (f := sv) (j := 2) cx (hW.at 1 rfl) rfl (by decide) (by decide) dX8_ask_51 ?_
          refine lv_imul (pc := 52) hx hb dX8_ask_52 ?_
          refine lv_iadd (pc := 53) hx hb dX8_ask_53 ?_
          refine z_tope (y := nI (103 + 18 * nA sv)) (by rw [(Inv.n2 hC).1]; exact ix_18 _) ?_
          refine lv_istore (pc := 54) (lv' := [(4, .int (nI (103 + 18 * nA sv))), (0, .ref (a 0)), (1, .int f), (2, .int st), (3, .int (bI h))]) hx hb dX8_ask_54 hl (by decide) rfl (fun ls hl => ?_)
          refine lv_aload_n (pc := 56) hx hb dX8_ask_56 rfl (lv_at hl 1 rfl) ?_
          refine z_getM (pc := 57) cx (hW.at 0 rfl) 0 rfl m_fl_X8_9 rfl dX8_ask_57 ?_
          refine lv_iload (pc := 60) hx hb dX8_ask_60 (lv_at hl 0 rfl) ?_
          refine lv_iload_n (pc := 62) hx hb dX8_ask_62 rfl (lv_at hl 2 rfl) ?_
          refine z_iast (pc := 63) (f := sv) (j := 103 + 18 * nA sv) cx hW hS 1 rfl (mF_in a 1) rfl (by omega) (by decide) dX8_ask_63 (fun H locs hW hS => ?_)
          have hW : WW E (wM a (E.2.1 0) (upd sv (103 + 18 * nA sv) f) im rd wa kp so sz el pr ts nu bu ht (bI ig) th po ba en td (bI ij)) gN H := hW
          refine lv_aload_n (pc := 64) hx hb dX8_ask_64 rfl (lv_at hl 1 rfl) ?_
          refine z_getM (pc := 65) cx (hW.at 0 rfl) 0 rfl m_fl_X8_9 rfl dX8_ask_65 ?_
          refine lv_iload (pc := 68) hx hb dX8_ask_68 (lv_at hl 0 rfl) ?_
          refine lv_iconst (pc := 70) (v := 1) hx hb dX8_ask_70 (by decide) ?_
          refine lv_iadd (pc := 71) hx hb dX8_ask_71 ?_
          refine lv_iload_n (pc := 72) hx hb dX8_ask_72 rfl (lv_at hl 3 rfl) ?_
          refine z_iast (pc := 73) (f := upd sv (103 + 18 * nA sv) f) (j := 103 + 18 * nA sv + 1) cx hW hS 1 rfl (mF_in a 1) (by simp only [nI, Int32.ofNat_add, Int32.ofNat_mul] <;> rfl) (by omega) (by decide) dX8_ask_73 (fun H locs hW hS => ?_)
          have hW : WW E (wM a (E.2.1 0) (upd (upd sv (103 + 18 * nA sv) f) (103 + 18 * nA sv + 1) st) im rd wa kp so sz el pr ts nu bu ht (bI ig) th po ba en td (bI ij)) gN H := hW
          refine lv_aload_n (pc := 74) hx hb dX8_ask_74 rfl (lv_at hl 1 rfl) ?_
          refine z_getM (pc := 75) cx (hW.at 0 rfl) 0 rfl m_fl_X8_9 rfl dX8_ask_75 ?_
          refine lv_iload (pc := 78) hx hb dX8_ask_78 (lv_at hl 0 rfl) ?_
          refine lv_iconst (pc := 80) (v := 2) hx hb dX8_ask_80 (by decide) ?_
          refine lv_iadd (pc := 81) hx hb dX8_ask_81 ?_
          refine lv_iload_n (pc := 82) hx hb dX8_ask_82 rfl (lv_at hl 4 rfl) ?_
          refine z_ifeq (pc := 83) (tgt := 90) hx hb dX8_ask_83 (by decide) (fun c_5 => ?_) (fun c_5 => ?_)
          · skip
            refine lv_iconst (pc := 90) (v := 0) hx hb dX8_ask_90 (by decide) ?_
            refine z_iast (pc := 91) (f := upd (upd sv (103 + 18 * nA sv) f) (103 + 18 * nA sv + 1) st) (j := 103 + 18 * nA sv + 2) cx hW hS 1 rfl (mF_in a 1) (by simp only [nI, Int32.ofNat_add, Int32.ofNat_mul] <;> rfl) (by omega) (by decide) dX8_ask_91 (fun H locs hW hS => ?_)
            have hW : WW E (wM a (E.2.1 0) (upd (upd (upd sv (103 + 18 * nA sv) f) (103 + 18 * nA sv + 1) st) (103 + 18 * nA sv + 2) 0) im rd wa kp so sz el pr ts nu bu ht (bI ig) th po ba en td (bI ij)) gN H := hW
            refine lv_aload_n (pc := 92) hx hb dX8_ask_92 rfl (lv_at hl 1 rfl) ?_
            refine lv_aload_n (pc := 93) hx hb dX8_ask_93 rfl (lv_at hl 1 rfl) ?_
            refine z_getM (pc := 94) cx (hW.at 0 rfl) 0 rfl m_fl_X8_9 rfl dX8_ask_94 ?_
            refine lv_iload (pc := 97) hx hb dX8_ask_97 (lv_at hl 0 rfl) ?_
            refine lv_iconst (pc := 99) (v := 3) hx hb dX8_ask_99 (by decide) ?_
            refine lv_iadd (pc := 100) hx hb dX8_ask_100 ?_
            refine z_tope (y := nI (103 + 18 * nA sv + 3)) (nI_add _ 3) ?_
            refine k_X8_notes_s (pc := 101) (k := 103 + 18 * nA sv + 3) cx hW hS (fun _ h => h) (by first | assumption | omega) (by first | assumption | omega) m_ml_X8_204 ⟨Nat.le_of_ble_eq_true rfl, Nat.le_of_ble_eq_true rfl⟩ hl.1 rfl (by simp [Value.category]) dX8_ask_101 ⟨Nat.le_refl _, Nat.le_refl _⟩ (fun  H locs  hW hS => ?_)
            have hW : WW E (wM a (E.2.1 0) (ntA (upd (upd (upd sv (103 + 18 * nA sv) f) (103 + 18 * nA sv + 1) st) (103 + 18 * nA sv + 2) 0) (winA (upd (upd (upd sv (103 + 18 * nA sv) f) (103 + 18 * nA sv + 1) st) (103 + 18 * nA sv + 2) 0)) (103 + 18 * nA sv + 3) 15) im rd wa kp so sz el pr ts nu bu ht (bI ig) th po ba en td (bI ij)) gN H := hW
            refine lv_aload_n (pc := 104) hx hb dX8_ask_104 rfl (lv_at hl 1 rfl) ?_
            refine z_getM (pc := 105) cx (hW.at 0 rfl) 0 rfl m_fl_X8_9 rfl dX8_ask_105 ?_
            refine lv_iconst (pc := 108) (v := 2) hx hb dX8_ask_108 (by decide) ?_
            refine lv_dup2_11 (pc := 109) hx hb dX8_ask_109 rfl rfl ?_
            refine z_iald (pc := 110) (f := ntA (upd (upd (upd sv (103 + 18 * nA sv) f) (103 + 18 * nA sv + 1) st) (103 + 18 * nA sv + 2) 0) (winA (upd (upd (upd sv (103 + 18 * nA sv) f) (103 + 18 * nA sv + 1) st) (103 + 18 * nA sv + 2) 0)) (103 + 18 * nA sv + 3) 15) (j := 2) cx (hW.at 1 rfl) rfl (by decide) (by decide) dX8_ask_110 ?_
            refine z_tope (y := sv 2) (by rw [ntA_lo _ _ _ _ _ (by omega), upd_ne _ _ (by omega), upd_ne _ _ (by omega), upd_ne _ _ (by omega)]) ?_
            refine lv_iconst (pc := 111) (v := 1) hx hb dX8_ask_111 (by decide) ?_
            refine lv_iadd (pc := 112) hx hb dX8_ask_112 ?_
            refine z_iast (pc := 113) (f := ntA (upd (upd (upd sv (103 + 18 * nA sv) f) (103 + 18 * nA sv + 1) st) (103 + 18 * nA sv + 2) 0) (winA (upd (upd (upd sv (103 + 18 * nA sv) f) (103 + 18 * nA sv + 1) st) (103 + 18 * nA sv + 2) 0)) (103 + 18 * nA sv + 3) 15) (j := 2) cx hW hS 1 rfl (mF_in a 1) rfl (by decide) (by decide) dX8_ask_113 (fun H locs hW hS => ?_)
            have hW : WW E (wM a (E.2.1 0) (upd (ntA (upd (upd (upd sv (103 + 18 * nA sv) f) (103 + 18 * nA sv + 1) st) (103 + 18 * nA sv + 2) 0) (winA (upd (upd (upd sv (103 + 18 * nA sv) f) (103 + 18 * nA sv + 1) st) (103 + 18 * nA sv + 2) 0)) (103 + 18 * nA sv + 3) 15) 2 ((sv 2) + 1)) im rd wa kp so sz el pr ts nu bu ht (bI ig) th po ba en td (bI ij)) gN H := hW
            refine lv_aload_n (pc := 114) hx hb dX8_ask_114 rfl (lv_at hl 1 rfl) ?_
            refine z_getM (pc := 115) cx (hW.at 0 rfl) 0 rfl m_fl_X8_9 rfl dX8_ask_115 ?_
            refine lv_iconst (pc := 118) (v := 2) hx hb dX8_ask_118 (by decide) ?_
            refine z_iald (pc := 119) (f := upd (ntA (upd (upd (upd sv (103 + 18 * nA sv) f) (103 + 18 * nA sv + 1) st) (103 + 18 * nA sv + 2) 0) (winA (upd (upd (upd sv (103 + 18 * nA sv) f) (103 + 18 * nA sv + 1) st) (103 + 18 * nA sv + 2) 0)) (103 + 18 * nA sv + 3) 15) 2 ((sv 2) + 1)) (j := 2) cx (hW.at 1 rfl) rfl (by decide) (by decide) dX8_ask_119 ?_
            exact z_wiret cx hr hlk dX8_ask_120 hS ⟨(sI (by first | rfl | (simp [askR, upd_self, ntA_lo, askX, upd_ne, c_1, c_2, c_3, c_4, c_5]; done))), (by rw [show (askS sv f st h) = upd (ntA (upd (upd (upd sv (103 + 18 * nA sv) f) (103 + 18 * nA sv + 1) st) (103 + 18 * nA sv + 2) 0) (winA (upd (upd (upd sv (103 + 18 * nA sv) f) (103 + 18 * nA sv + 1) st) (103 + 18 * nA sv + 2) 0)) (103 + 18 * nA sv + 3) 15) 2 ((sv 2) + 1) from (by first | rfl | (simp [askS, askX, bI, c_1, c_2, c_3, c_4, c_5]; done))]; exact hW)⟩
          · skip
            refine lv_iconst (pc := 86) (v := 1) hx hb dX8_ask_86 (by decide) ?_
            refine lv_goto (pc := 87) (tgt := 91) hx hb dX8_ask_87 (by decide) ?_
            refine z_iast (pc := 91) (f := upd (upd sv (103 + 18 * nA sv) f) (103 + 18 * nA sv + 1) st) (j := 103 + 18 * nA sv + 2) cx hW hS 1 rfl (mF_in a 1) (by simp only [nI, Int32.ofNat_add, Int32.ofNat_mul] <;> rfl) (by omega) (by decide) dX8_ask_91 (fun H locs hW hS => ?_)
            have hW : WW E (wM a (E.2.1 0) (upd (upd (upd sv (103 + 18 * nA sv) f) (103 + 18 * nA sv + 1) st) (103 + 18 * nA sv + 2) 1) im rd wa kp so sz el pr ts nu bu ht (bI ig) th po ba en td (bI ij)) gN H := hW
            refine lv_aload_n (pc := 92) hx hb dX8_ask_92 rfl (lv_at hl 1 rfl) ?_
            refine lv_aload_n (pc := 93) hx hb dX8_ask_93 rfl (lv_at hl 1 rfl) ?_
            refine z_getM (pc := 94) cx (hW.at 0 rfl) 0 rfl m_fl_X8_9 rfl dX8_ask_94 ?_
            refine lv_iload (pc := 97) hx hb dX8_ask_97 (lv_at hl 0 rfl) ?_
            refine lv_iconst (pc := 99) (v := 3) hx hb dX8_ask_99 (by decide) ?_
            refine lv_iadd (pc := 100) hx hb dX8_ask_100 ?_
            refine z_tope (y := nI (103 + 18 * nA sv + 3)) (nI_add _ 3) ?_
            refine k_X8_notes_s (pc := 101) (k := 103 + 18 * nA sv + 3) cx hW hS (fun _ h => h) (by first | assumption | omega) (by first | assumption | omega) m_ml_X8_204 ⟨Nat.le_of_ble_eq_true rfl, Nat.le_of_ble_eq_true rfl⟩ hl.1 rfl (by simp [Value.category]) dX8_ask_101 ⟨Nat.le_refl _, Nat.le_refl _⟩ (fun  H locs  hW hS => ?_)
            have hW : WW E (wM a (E.2.1 0) (ntA (upd (upd (upd sv (103 + 18 * nA sv) f) (103 + 18 * nA sv + 1) st) (103 + 18 * nA sv + 2) 1) (winA (upd (upd (upd sv (103 + 18 * nA sv) f) (103 + 18 * nA sv + 1) st) (103 + 18 * nA sv + 2) 1)) (103 + 18 * nA sv + 3) 15) im rd wa kp so sz el pr ts nu bu ht (bI ig) th po ba en td (bI ij)) gN H := hW
            refine lv_aload_n (pc := 104) hx hb dX8_ask_104 rfl (lv_at hl 1 rfl) ?_
            refine z_getM (pc := 105) cx (hW.at 0 rfl) 0 rfl m_fl_X8_9 rfl dX8_ask_105 ?_
            refine lv_iconst (pc := 108) (v := 2) hx hb dX8_ask_108 (by decide) ?_
            refine lv_dup2_11 (pc := 109) hx hb dX8_ask_109 rfl rfl ?_
            refine z_iald (pc := 110) (f := ntA (upd (upd (upd sv (103 + 18 * nA sv) f) (103 + 18 * nA sv + 1) st) (103 + 18 * nA sv + 2) 1) (winA (upd (upd (upd sv (103 + 18 * nA sv) f) (103 + 18 * nA sv + 1) st) (103 + 18 * nA sv + 2) 1)) (103 + 18 * nA sv + 3) 15) (j := 2) cx (hW.at 1 rfl) rfl (by decide) (by decide) dX8_ask_110 ?_
            refine z_tope (y := sv 2) (by rw [ntA_lo _ _ _ _ _ (by omega), upd_ne _ _ (by omega), upd_ne _ _ (by omega), upd_ne _ _ (by omega)]) ?_
            refine lv_iconst (pc := 111) (v := 1) hx hb dX8_ask_111 (by decide) ?_
            refine lv_iadd (pc := 112) hx hb dX8_ask_112 ?_
            refine z_iast (pc := 113) (f := ntA (upd (upd (upd sv (103 + 18 * nA sv) f) (103 + 18 * nA sv + 1) st) (103 + 18 * nA sv + 2) 1) (winA (upd (upd (upd sv (103 + 18 * nA sv) f) (103 + 18 * nA sv + 1) st) (103 + 18 * nA sv + 2) 1)) (103 + 18 * nA sv + 3) 15) (j := 2) cx hW hS 1 rfl (mF_in a 1) rfl (by decide) (by decide) dX8_ask_113 (fun H locs hW hS => ?_)
            have hW : WW E (wM a (E.2.1 0) (upd (ntA (upd (upd (upd sv (103 + 18 * nA sv) f) (103 + 18 * nA sv + 1) st) (103 + 18 * nA sv + 2) 1) (winA (upd (upd (upd sv (103 + 18 * nA sv) f) (103 + 18 * nA sv + 1) st) (103 + 18 * nA sv + 2) 1)) (103 + 18 * nA sv + 3) 15) 2 ((sv 2) + 1)) im rd wa kp so sz el pr ts nu bu ht (bI ig) th po ba en td (bI ij)) gN H := hW
            refine lv_aload_n (pc := 114) hx hb dX8_ask_114 rfl (lv_at hl 1 rfl) ?_
            refine z_getM (pc := 115) cx (hW.at 0 rfl) 0 rfl m_fl_X8_9 rfl dX8_ask_115 ?_
            refine lv_iconst (pc := 118) (v := 2) hx hb dX8_ask_118 (by decide) ?_
            refine z_iald (pc := 119) (f := upd (ntA (upd (upd (upd sv (103 + 18 * nA sv) f) (103 + 18 * nA sv + 1) st) (103 + 18 * nA sv + 2) 1) (winA (upd (upd (upd sv (103 + 18 * nA sv) f) (103 + 18 * nA sv + 1) st) (103 + 18 * nA sv + 2) 1)) (103 + 18 * nA sv + 3) 15) 2 ((sv 2) + 1)) (j := 2) cx (hW.at 1 rfl) rfl (by decide) (by decide) dX8_ask_119 ?_
            exact z_wiret cx hr hlk dX8_ask_120 hS ⟨(sI (by first | rfl | (simp [askR, upd_self, ntA_lo, askX, upd_ne, c_1, c_2, c_3, c_4, c_5]; done))), (by rw [show (askS sv f st h) = upd (ntA (upd (upd (upd sv (103 + 18 * nA sv) f) (103 + 18 * nA sv + 1) st) (103 + 18 * nA sv + 2) 1) (winA (upd (upd (upd sv (103 + 18 * nA sv) f) (103 + 18 * nA sv + 1) st) (103 + 18 * nA sv + 2) 1)) (103 + 18 * nA sv + 3) 15) 2 ((sv 2) + 1) from (by first | rfl | (simp [askS, askX, bI, c_1, c_2, c_3, c_4, c_5]; done))]; exact hW)⟩
        · skip
          refine lv_bipush (pc := 39) (v := (-3)) hx hb dX8_ask_39 (by decide) ?_
          exact z_wiret cx hr hlk dX8_ask_41 hS ⟨(sI (by first | rfl | (simp [askR, upd_self, ntA_lo, askX, upd_ne, c_1, c_2, c_3, c_4]; done))), (by rw [show (askS sv f st h) = sv from (by first | rfl | (simp [askS, askX, bI, c_1, c_2, c_3, c_4]; done))]; exact hW)⟩
      · skip
        refine lv_bipush (pc := 27) (v := (-2)) hx hb dX8_ask_27 (by decide) ?_
        exact z_wiret cx hr hlk dX8_ask_29 hS ⟨(sI (by first | rfl | (simp [askR, upd_self, ntA_lo, askX, upd_ne, c_1, c_2, c_3]; done))), (by rw [show (askS sv f st h) = sv from (by first | rfl | (simp [askS, askX, bI, c_1, c_2, c_3]; done))]; exact hW)⟩
    · skip
      refine lv_iconst (pc := 14) (v := (-1)) hx hb dX8_ask_14 (by decide) ?_
      exact z_wiret cx hr hlk dX8_ask_15 hS ⟨(sI (by first | rfl | (simp [askR, upd_self, ntA_lo, askX, upd_ne, c_1, c_2]; done))), (by rw [show (askS sv f st h) = sv from (by first | rfl | (simp [askS, askX, bI, c_1, c_2]; done))]; exact hW)⟩
theorem k_X8_ask {p : Program} {l : Launch} {e : Env} {R : Room} {s : State} {m : MethodId} {args : Array Value} {below : List Frame} {meth : Method} {c : Code} {H H0 : Heap} {locs : List Loc} {cells slots : Nat} {Q : State → Prop} {cc : ByteArray} {pc index : Nat} {ls : Array Slot} {rest st0 : List Value} {E : zE} {own : String} {nL : Nat} {F : Nat → Prop} {a : Nat → Nat} {sv im rd wa kp so sz el pr ts nu bu ht : Nat → Int32} {th po ba en td : Int32} {ig : Bool} {ij : Bool} {f st : Int32} {h : Bool} (cx : Cx E p s args m c own cc nL) (hW : WW E (wM a (E.2.1 0) sv im rd wa kp so sz el pr ts nu bu ht (bI ig) th po ba en td (bI ij)) gN H) (hS : va_S F H0 H locs) (zF : ∀ q, (mF a) q → F q) (hI : Inv sv) (zl : Cond.methodLink own index yX8_ask ∈ AllW) (zR : 2 + 1 ≤ R.frames ∧ 8 + (5 + 11) + 45 ≤ R.locals) (zs : ls.size = nL) (zt : st0 = ([.int f, .int st, .int (bI h)] : List Value).reverse ++ .ref (a 0) :: rest) (z8 : (rest.map fun v => v.category).sum ≤ 8) (zd : decode cc pc = .ok (.invokevirtual index, 3)) (zf : cells ≤ R.cells ∧ slots ≤ R.slots) (kk0 : ∀  (H1 : Heap) (locs1 : List Loc), WW E (wM a (E.2.1 0) (askS sv f st h) im rd wa kp so sz el pr ts nu bu ht (bI ig) th po ba en td (bI ij)) gN H1 → va_S F H0 H1 locs1 → W p l e R s m args below meth c H1 locs1 cells slots Q (F0 m (pc + 3) ls (.int (askR sv f st) :: rest))) : W p l e R s m args below meth c H locs cells slots Q (F0 m pc ls st0) := by
  refine z_callVw cx vm_X8_ask (c_X8_ask l E a sv im rd wa kp so sz el pr ts nu bu ht th po ba en td ig ij f st h hI) (z_rec cx.2 (hW.at 0 rfl) rfl) hW hS zF zl ⟨rfl, rfl⟩ zR rfl zs zt z8 zd zf (fun v H1 locs1 hq hS1 _ => ?_)
  rcases hq with ⟨rfl, hW1⟩
  · exact kk0  H1 locs1  hW1 hS1
theorem vm_X8_image : zVm yX8_image cX8_image 2 (some FieldType.int) 0 := ⟨m_co_X8_image, m_in_RX8, ⟨m_im_X8_image, m_se_X8_X8_image⟩, by decide +kernel, by decide +kernel, by decide +kernel⟩
set_option maxHeartbeats 4000000 in
set_option maxRecDepth 100000 in
theorem c_X8_image (l : Launch) (E : zE) (a : Nat → Nat) (sv im rd wa kp so sz el pr ts nu bu ht : Nat → Int32) (th po ba en td : Int32) (ig : Bool) (ij : Bool)   : Met l yX8_image (.code yX8_image cX8_image 2 (some FieldType.int) :: AllW) (rm0' 0 0) (zP E (fun H => WW E (wM a (E.2.1 0) sv im rd wa kp so sz el pr ts nu bu ht (bI ig) th po ba en td (bI ij)) gN H) [.ref (a 0)]) (zQ (fun (_ : Heap) (v : Option Value) (H1 : Heap) => (v = some (.int (sv 2)) ∧ WW E (wM a (E.2.1 0) sv (cpA sv im 535) rd wa kp so sz el pr ts nu bu ht (bI true) th po ba en td (bI ij)) gN H1)) (mF a)) 0 0 (mF a) := by
  refine z_body (own := RX8) (by decide) rfl rfl ?_
  intro p e s m args below meth c ls cx hr hlk hnm hW hl
  have hx := cx.x
  have hb := cx.b
  have hl : lv_has ls 2 [(0, .ref (a 0))] := hl
  have hS : va_S (mF a) s.heap s.heap [] := va_S.rf
  refine lv_iconst (pc := 0) (v := 0) hx hb dX8_image_0 (by decide) ?_
  refine lv_istore_n (pc := 1) (lv' := [(1, .int 0), (0, .ref (a 0))]) hx hb dX8_image_1 rfl hl (by decide) rfl (fun ls hl => ?_)
  have loop_2 : ∀ (k_2 : Nat) (i : Nat) (x1 : Int32), (535 - i) < k_2 → (i ≤ 535) → x1 = nI i → ∀ (H : Heap) (locs : List Loc), WW E (wM a (E.2.1 0) sv (cpA sv im i) rd wa kp so sz el pr ts nu bu ht (bI ig) th po ba en td (bI ij)) gN H → va_S (mF a) s.heap H locs → ∀ (ls : Array Slot), lv_has ls 2 [(1, .int x1), (0, .ref (a 0))] → W p l e (rm0' (0) (0)) s m args below meth c H locs 0 0 (MQ below (zQ (fun (_ : Heap) (v : Option Value) (H1 : Heap) => (v = some (.int (sv 2)) ∧ WW E (wM a (E.2.1 0) sv (cpA sv im 535) rd wa kp so sz el pr ts nu bu ht (bI true) th po ba en td (bI ij)) gN H1)) (mF a)) args s 0 0 (mF a)) (F0 m 2 ls []) := by
    intro k_2
    induction k_2 with
    | zero =>
      intro i x1 hm
      exact absurd hm (Nat.not_lt_zero _)
    | succ k_2 ih_2 =>
      intro i x1 hm_2 hi e_x1  H locs  hW hS ls hl
      subst e_x1
      refine lv_iload_n (pc := 2) hx hb dX8_image_2 rfl (lv_at hl 0 rfl) ?_
      refine lv_sipush (pc := 3) (v := 535) hx hb dX8_image_3 (by decide) ?_
      refine lv_icmp_ge (pc := 6) (tgt := 27) hx hb dX8_image_6 (by decide) (fun c_1 => ?_) (fun c_1 => ?_)
      · skip
        obtain rfl : i = 535 := by have := ge_nat (a := i) (b := 535) rfl rfl (by omega) (by omega) c_1; omega
        refine lv_aload_n (pc := 27) hx hb dX8_image_27 rfl (lv_at hl 1 rfl) ?_
        refine lv_iconst (pc := 28) (v := 1) hx hb dX8_image_28 (by decide) ?_
        refine z_putMz (pc := 29) (b := true) cx hW hS 0 rfl (mF_in a 0) 10 rfl m_fl_X8_260 rfl rfl dX8_image_29 (fun H locs hW hS => ?_)
        have hW : WW E (wM a (E.2.1 0) sv (cpA sv im 535) rd wa kp so sz el pr ts nu bu ht (bI true) th po ba en td (bI ij)) gN H := hW
        refine lv_aload_n (pc := 32) hx hb dX8_image_32 rfl (lv_at hl 1 rfl) ?_
        refine z_getM (pc := 33) cx (hW.at 0 rfl) 0 rfl m_fl_X8_9 rfl dX8_image_33 ?_
        refine lv_iconst (pc := 36) (v := 2) hx hb dX8_image_36 (by decide) ?_
        refine z_iald (pc := 37) (f := sv) (j := 2) cx (hW.at 1 rfl) rfl (by decide) (by decide) dX8_image_37 ?_
        exact z_wiret cx hr hlk dX8_image_38 hS ⟨rfl, hW⟩
      · skip
        have hlt_i := lt_nat (a := i) (b := 535) rfl rfl (by omega) (by omega) c_1
        refine lv_aload_n (pc := 9) hx hb dX8_image_9 rfl (lv_at hl 1 rfl) ?_
        refine z_getM (pc := 10) cx (hW.at 0 rfl) 1 rfl m_fl_X8_13 rfl dX8_image_10 ?_
        refine lv_iload_n (pc := 13) hx hb dX8_image_13 rfl (lv_at hl 0 rfl) ?_
        refine lv_aload_n (pc := 14) hx hb dX8_image_14 rfl (lv_at hl 1 rfl) ?_
        refine z_getM (pc := 15) cx (hW.at 0 rfl) 0 rfl m_fl_X8_9 rfl dX8_image_15 ?_
        refine lv_iload_n (pc := 18) hx hb dX8_image_18 rfl (lv_at hl 0 rfl) ?_
        refine z_iald (pc := 19) (f := sv) (j := i) cx (hW.at 1 rfl) rfl (by omega) (by decide) dX8_image_19 ?_
        refine z_iast (pc := 20) (f := cpA sv im i) (j := i) cx hW hS 2 rfl (mF_in a 2) rfl (by omega) (by decide) dX8_image_20 (fun H locs hW hS => ?_)
        have hW : WW E (wM a (E.2.1 0) sv (upd (cpA sv im i) i (sv i)) rd wa kp so sz el pr ts nu bu ht (bI ig) th po ba en td (bI ij)) gN H := hW
        refine lv_iinc (pc := 21) (v := nI (i + 1)) (lv' := [(1, .int (nI (i + 1))), (0, .ref (a 0))]) hx hb dX8_image_21 hl (k := 0) rfl (nI_1 _) (by decide) rfl (fun ls hl => ?_)
        refine lv_goto (pc := 24) (tgt := 2) hx hb dX8_image_24 (by decide) ?_
        exact ih_2 (i + 1) (nI (i + 1)) (by omega) (by omega) (by first | rfl | (simp []; done))  _ _  (by rw [← cpA_s]; exact hW) hS ls (lv_sub hl [0, 1] rfl)
  exact loop_2 ((535 - 0) + 1) 0 0 (Nat.lt_succ_self _) (by omega) (by first | rfl | (simp []; done))  _ _  (by rw [cpA_0]; exact hW) hS ls (lv_sub hl [0, 1] rfl)
theorem k_X8_image {p : Program} {l : Launch} {e : Env} {R : Room} {s : State} {m : MethodId} {args : Array Value} {below : List Frame} {meth : Method} {c : Code} {H H0 : Heap} {locs : List Loc} {cells slots : Nat} {Q : State → Prop} {cc : ByteArray} {pc index : Nat} {ls : Array Slot} {rest st0 : List Value} {E : zE} {own : String} {nL : Nat} {F : Nat → Prop} {a : Nat → Nat} {sv im rd wa kp so sz el pr ts nu bu ht : Nat → Int32} {th po ba en td : Int32} {ig : Bool} {ij : Bool}  (cx : Cx E p s args m c own cc nL) (hW : WW E (wM a (E.2.1 0) sv im rd wa kp so sz el pr ts nu bu ht (bI ig) th po ba en td (bI ij)) gN H) (hS : va_S F H0 H locs) (zF : ∀ q, (mF a) q → F q)  (zl : Cond.methodLink own index yX8_image ∈ AllW) (zR : 0 + 1 ≤ R.frames ∧ 8 + (2 + 11) + 0 ≤ R.locals) (zs : ls.size = nL) (zt : st0 = ([] : List Value).reverse ++ .ref (a 0) :: rest) (z8 : (rest.map fun v => v.category).sum ≤ 8) (zd : decode cc pc = .ok (.invokevirtual index, 3)) (zf : cells ≤ R.cells ∧ slots ≤ R.slots) (kk0 : ∀  (H1 : Heap) (locs1 : List Loc), WW E (wM a (E.2.1 0) sv (cpA sv im 535) rd wa kp so sz el pr ts nu bu ht (bI true) th po ba en td (bI ij)) gN H1 → va_S F H0 H1 locs1 → W p l e R s m args below meth c H1 locs1 cells slots Q (F0 m (pc + 3) ls (.int (sv 2) :: rest))) : W p l e R s m args below meth c H locs cells slots Q (F0 m pc ls st0) := by
  refine z_callVw cx vm_X8_image (c_X8_image l E a sv im rd wa kp so sz el pr ts nu bu ht th po ba en td ig ij) (z_rec cx.2 (hW.at 0 rfl) rfl) hW hS zF zl ⟨rfl, rfl⟩ zR rfl zs zt z8 zd zf (fun v H1 locs1 hq hS1 _ => ?_)
  rcases hq with ⟨rfl, hW1⟩
  · exact kk0  H1 locs1  hW1 hS1
theorem vm_X8_restore : zVm yX8_restore cX8_restore 2 (some FieldType.int) 0 := ⟨m_co_X8_restore, m_in_RX8, ⟨m_im_X8_restore, m_se_X8_X8_restore⟩, by decide +kernel, by decide +kernel, by decide +kernel⟩
set_option maxHeartbeats 4000000 in
set_option maxRecDepth 100000 in
theorem c_X8_restore (l : Launch) (E : zE) (a : Nat → Nat) (sv im rd wa kp so sz el pr ts nu bu ht : Nat → Int32) (th po ba en td : Int32) (ig : Bool) (ij : Bool)   : Met l yX8_restore (.code yX8_restore cX8_restore 2 (some FieldType.int) :: AllW) (rm0' 0 0) (zP E (fun H => WW E (wM a (E.2.1 0) sv im rd wa kp so sz el pr ts nu bu ht (bI ig) th po ba en td (bI ij)) gN H) [.ref (a 0)]) (zQ (fun (_ : Heap) (v : Option Value) (H1 : Heap) => (v = some (.int (restR sv im ig)) ∧ WW E (wM a (E.2.1 0) (restS sv im ig) im rd wa kp so sz el pr ts nu bu ht (bI ig) th po ba en td (bI ij)) gN H1)) (mF a)) 0 0 (mF a) := by
  refine z_body (own := RX8) (by decide) rfl rfl ?_
  intro p e s m args below meth c ls cx hr hlk hnm hW hl
  have hx := cx.x
  have hb := cx.b
  have hl : lv_has ls 2 [(0, .ref (a 0))] := hl
  have hS : va_S (mF a) s.heap s.heap [] := va_S.rf
  refine lv_aload_n (pc := 0) hx hb dX8_restore_0 rfl (lv_at hl 0 rfl) ?_
  refine z_getM (pc := 1) cx (hW.at 0 rfl) 10 rfl m_fl_X8_260 rfl dX8_restore_1 ?_
  refine z_ifne (pc := 4) (tgt := 10) hx hb dX8_restore_4 (by decide) (fun c_1 => ?_) (fun c_1 => ?_)
  · skip
    refine lv_iconst (pc := 10) (v := 0) hx hb dX8_restore_10 (by decide) ?_
    refine lv_istore_n (pc := 11) (lv' := [(1, .int 0), (0, .ref (a 0))]) hx hb dX8_restore_11 rfl hl (by decide) rfl (fun ls hl => ?_)
    have loop_12 : ∀ (k_12 : Nat) (i : Nat) (x1 : Int32), (535 - i) < k_12 → (i ≤ 535) → x1 = nI i → ∀ (H : Heap) (locs : List Loc), WW E (wM a (E.2.1 0) (cpA im sv i) im rd wa kp so sz el pr ts nu bu ht (bI ig) th po ba en td (bI ij)) gN H → va_S (mF a) s.heap H locs → ∀ (ls : Array Slot), lv_has ls 2 [(1, .int x1), (0, .ref (a 0))] → W p l e (rm0' (0) (0)) s m args below meth c H locs 0 0 (MQ below (zQ (fun (_ : Heap) (v : Option Value) (H1 : Heap) => (v = some (.int (restR sv im ig)) ∧ WW E (wM a (E.2.1 0) (restS sv im ig) im rd wa kp so sz el pr ts nu bu ht (bI ig) th po ba en td (bI ij)) gN H1)) (mF a)) args s 0 0 (mF a)) (F0 m 12 ls []) := by
      intro k_12
      induction k_12 with
      | zero =>
        intro i x1 hm
        exact absurd hm (Nat.not_lt_zero _)
      | succ k_12 ih_12 =>
        intro i x1 hm_12 hi e_x1  H locs  hW hS ls hl
        subst e_x1
        refine lv_iload_n (pc := 12) hx hb dX8_restore_12 rfl (lv_at hl 0 rfl) ?_
        refine lv_sipush (pc := 13) (v := 535) hx hb dX8_restore_13 (by decide) ?_
        refine lv_icmp_ge (pc := 16) (tgt := 37) hx hb dX8_restore_16 (by decide) (fun c_2 => ?_) (fun c_2 => ?_)
        · skip
          obtain rfl : i = 535 := by have := ge_nat (a := i) (b := 535) rfl rfl (by omega) (by omega) c_2; omega
          refine lv_aload_n (pc := 37) hx hb dX8_restore_37 rfl (lv_at hl 1 rfl) ?_
          refine z_getM (pc := 38) cx (hW.at 0 rfl) 0 rfl m_fl_X8_9 rfl dX8_restore_38 ?_
          refine lv_iconst (pc := 41) (v := 2) hx hb dX8_restore_41 (by decide) ?_
          refine z_iald (pc := 42) (f := cpA im sv 535) (j := 2) cx (hW.at 1 rfl) rfl (by decide) (by decide) dX8_restore_42 ?_
          exact z_wiret cx hr hlk dX8_restore_43 hS ⟨(sI (by first | rfl | (simp [restR, cpA, c_1]; done))), (by rw [show (restS sv im ig) = cpA im sv 535 from (by first | rfl | (simp [restS, c_1]; done))]; exact hW)⟩
        · skip
          have hlt_i := lt_nat (a := i) (b := 535) rfl rfl (by omega) (by omega) c_2
          refine lv_aload_n (pc := 19) hx hb dX8_restore_19 rfl (lv_at hl 1 rfl) ?_
          refine z_getM (pc := 20) cx (hW.at 0 rfl) 0 rfl m_fl_X8_9 rfl dX8_restore_20 ?_
          refine lv_iload_n (pc := 23) hx hb dX8_restore_23 rfl (lv_at hl 0 rfl) ?_
          refine lv_aload_n (pc := 24) hx hb dX8_restore_24 rfl (lv_at hl 1 rfl) ?_
          refine z_getM (pc := 25) cx (hW.at 0 rfl) 1 rfl m_fl_X8_13 rfl dX8_restore_25 ?_
          refine lv_iload_n (pc := 28) hx hb dX8_restore_28 rfl (lv_at hl 0 rfl) ?_
          refine z_iald (pc := 29) (f := im) (j := i) cx (hW.at 2 rfl) rfl (by omega) (by decide) dX8_restore_29 ?_
          refine z_iast (pc := 30) (f := cpA im sv i) (j := i) cx hW hS 1 rfl (mF_in a 1) rfl (by omega) (by decide) dX8_restore_30 (fun H locs hW hS => ?_)
          have hW : WW E (wM a (E.2.1 0) (upd (cpA im sv i) i (im i)) im rd wa kp so sz el pr ts nu bu ht (bI ig) th po ba en td (bI ij)) gN H := hW
          refine lv_iinc (pc := 31) (v := nI (i + 1)) (lv' := [(1, .int (nI (i + 1))), (0, .ref (a 0))]) hx hb dX8_restore_31 hl (k := 0) rfl (nI_1 _) (by decide) rfl (fun ls hl => ?_)
          refine lv_goto (pc := 34) (tgt := 12) hx hb dX8_restore_34 (by decide) ?_
          exact ih_12 (i + 1) (nI (i + 1)) (by omega) (by omega) (by first | rfl | (simp [restR, cpA, c_1]; done))  _ _  (by rw [← cpA_s]; exact hW) hS ls (lv_sub hl [0, 1] rfl)
    exact loop_12 ((535 - 0) + 1) 0 0 (Nat.lt_succ_self _) (by omega) (by first | rfl | (simp [restR, cpA, c_1]; done))  _ _  (by rw [cpA_0]; exact hW) hS ls (lv_sub hl [0, 1] rfl)
  · skip
    refine lv_bipush (pc := 7) (v := (-3)) hx hb dX8_restore_7 (by decide) ?_
    exact z_wiret cx hr hlk dX8_restore_9 hS ⟨(sI (by first | rfl | (simp [restR, cpA, c_1]; done))), (by rw [show (restS sv im ig) = sv from (by first | rfl | (simp [restS, c_1]; done))]; exact hW)⟩
theorem k_X8_restore {p : Program} {l : Launch} {e : Env} {R : Room} {s : State} {m : MethodId} {args : Array Value} {below : List Frame} {meth : Method} {c : Code} {H H0 : Heap} {locs : List Loc} {cells slots : Nat} {Q : State → Prop} {cc : ByteArray} {pc index : Nat} {ls : Array Slot} {rest st0 : List Value} {E : zE} {own : String} {nL : Nat} {F : Nat → Prop} {a : Nat → Nat} {sv im rd wa kp so sz el pr ts nu bu ht : Nat → Int32} {th po ba en td : Int32} {ig : Bool} {ij : Bool}  (cx : Cx E p s args m c own cc nL) (hW : WW E (wM a (E.2.1 0) sv im rd wa kp so sz el pr ts nu bu ht (bI ig) th po ba en td (bI ij)) gN H) (hS : va_S F H0 H locs) (zF : ∀ q, (mF a) q → F q)  (zl : Cond.methodLink own index yX8_restore ∈ AllW) (zR : 0 + 1 ≤ R.frames ∧ 8 + (2 + 11) + 0 ≤ R.locals) (zs : ls.size = nL) (zt : st0 = ([] : List Value).reverse ++ .ref (a 0) :: rest) (z8 : (rest.map fun v => v.category).sum ≤ 8) (zd : decode cc pc = .ok (.invokevirtual index, 3)) (zf : cells ≤ R.cells ∧ slots ≤ R.slots) (kk0 : ∀  (H1 : Heap) (locs1 : List Loc), WW E (wM a (E.2.1 0) (restS sv im ig) im rd wa kp so sz el pr ts nu bu ht (bI ig) th po ba en td (bI ij)) gN H1 → va_S F H0 H1 locs1 → W p l e R s m args below meth c H1 locs1 cells slots Q (F0 m (pc + 3) ls (.int (restR sv im ig) :: rest))) : W p l e R s m args below meth c H locs cells slots Q (F0 m pc ls st0) := by
  refine z_callVw cx vm_X8_restore (c_X8_restore l E a sv im rd wa kp so sz el pr ts nu bu ht th po ba en td ig ij) (z_rec cx.2 (hW.at 0 rfl) rfl) hW hS zF zl ⟨rfl, rfl⟩ zR rfl zs zt z8 zd zf (fun v H1 locs1 hq hS1 _ => ?_)
  rcases hq with ⟨rfl, hW1⟩
  · exact kk0  H1 locs1  hW1 hS1
theorem vm_X8_thrown : zVm yX8_thrown cX8_thrown 1 (some FieldType.int) 0 := ⟨m_co_X8_thrown, m_in_RX8, ⟨m_im_X8_thrown, m_se_X8_X8_thrown⟩, by decide +kernel, by decide +kernel, by decide +kernel⟩
set_option maxHeartbeats 4000000 in
set_option maxRecDepth 100000 in
theorem c_X8_thrown (l : Launch) (E : zE) (a : Nat → Nat) (sv im rd wa kp so sz el pr ts nu bu ht : Nat → Int32) (th po ba en td : Int32) (ig : Bool) (ij : Bool)   : Met l yX8_thrown (.code yX8_thrown cX8_thrown 1 (some FieldType.int) :: AllW) (rm0' 0 0) (zP E (fun H => WW E (wM a (E.2.1 0) sv im rd wa kp so sz el pr ts nu bu ht (bI ig) th po ba en td (bI ij)) gN H) [.ref (a 0)]) (rQ (.int th)) 0 0 nF := by
  refine z_body (own := RX8) (by decide) rfl rfl ?_
  intro p e s m args below meth c ls cx hr hlk hnm hW hl
  have hx := cx.x
  have hb := cx.b
  have hl : lv_has ls 1 [(0, .ref (a 0))] := hl
  refine lv_aload_n (pc := 0) hx hb dX8_thrown_0 rfl (lv_at hl 0 rfl) ?_
  refine z_getM (pc := 1) cx (hW.at 0 rfl) 11 rfl m_fl_X8_49 rfl dX8_thrown_1 ?_
  exact z_iret cx hr hlk dX8_thrown_4 (by first | rfl | (simp []; done))
theorem k_X8_thrown {p : Program} {l : Launch} {e : Env} {R : Room} {s : State} {m : MethodId} {args : Array Value} {below : List Frame} {meth : Method} {c : Code} {H : Heap} {locs : List Loc} {cells slots : Nat} {Q : State → Prop} {cc : ByteArray} {pc index : Nat} {ls : Array Slot} {rest st0 : List Value} {E : zE} {own : String} {nL : Nat} {a : Nat → Nat} {sv im rd wa kp so sz el pr ts nu bu ht : Nat → Int32} {th po ba en td : Int32} {ig : Bool} {ij : Bool}  (cx : Cx E p s args m c own cc nL) (hW : WW E (wM a (E.2.1 0) sv im rd wa kp so sz el pr ts nu bu ht (bI ig) th po ba en td (bI ij)) gN H)  (zl : Cond.methodLink own index yX8_thrown ∈ AllW) (zR : 0 + 1 ≤ R.frames ∧ 8 + (1 + 11) + 0 ≤ R.locals) (zs : ls.size = nL) (zt : st0 = ([] : List Value).reverse ++ .ref (a 0) :: rest) (z8 : (rest.map fun v => v.category).sum ≤ 8) (zd : decode cc pc = .ok (.invokevirtual index, 3)) (zf : cells ≤ R.cells ∧ slots ≤ R.slots) (kk : W p l e R s m args below meth c H locs cells slots Q (F0 m (pc + 3) ls (.int th :: rest))) : W p l e R s m args below meth c H locs cells slots Q (F0 m pc ls st0) :=
  z_callV cx vm_X8_thrown (c_X8_thrown l E a sv im rd wa kp so sz el pr ts nu bu ht th po ba en td ig ij) (z_rec cx.2 (hW.at 0 rfl) rfl) hW zl ⟨rfl, rfl⟩ zR rfl zs zt z8 zd zf kk
theorem vm_X8_keep : zVm yX8_keep cX8_keep 5 (some FieldType.int) 3 := ⟨m_co_X8_keep, m_in_RX8, ⟨m_im_X8_keep, m_se_X8_X8_keep⟩, by decide +kernel, by decide +kernel, by decide +kernel⟩
set_option maxHeartbeats 4000000 in
set_option maxRecDepth 100000 in
theorem c_X8_keep (l : Launch) (E : zE) (a : Nat → Nat) (sv im rd wa kp so sz el pr ts nu bu ht : Nat → Int32) (th po ba en td : Int32) (ig : Bool) (ij : Bool) (d w x : Int32) (hI : Inv sv) : Met l yX8_keep (.code yX8_keep cX8_keep 5 (some FieldType.int) :: AllW) (rm0' 2 46) (zP E (fun H => WW E (wM a (E.2.1 0) sv im rd wa kp so sz el pr ts nu bu ht (bI ig) th po ba en td (bI ij)) gN H) [.ref (a 0), .int d, .int w, .int x]) (zQ (fun (_ : Heap) (v : Option Value) (H1 : Heap) => (v = some (.int (keepR sv d w x)) ∧ WW E (wM a (E.2.1 0) sv im rd wa (keepK sv kp d w x) so sz el (keepP sv pr d w x) (keepT sv ts d w x) nu bu ht (bI ig) th po ba en td (bI ij)) gN H1)) (mF a)) 0 0 (mF a) := by
  refine z_body (own := RX8) (by decide) rfl rfl ?_
  intro p e s m args below meth c ls cx hr hlk hnm hW hl
  have hx := cx.x
  have hb := cx.b
  have hl : lv_has ls 5 [(0, .ref (a 0)), (1, .int d), (2, .int w), (3, .int x)] := hl
  have hS : va_S (mF a) s.heap s.heap [] := va_S.rf
  have hC := hI.1
  have hP10 := (Inv.n0 hC).2
  have hT7 := (Inv.n1 hC).2
  have hA24 := (Inv.n2 hC).2
  refine lv_iload_n (pc := 0) hx hb dX8_keep_0 rfl (lv_at hl 1 rfl) ?_
  refine k_X8_isShelf (pc := 1) (x := d) cx  m_ml_X8_111 ⟨Nat.le_of_ble_eq_true rfl, Nat.le_of_ble_eq_true rfl⟩ hl.1 rfl (by simp [Value.category]) dX8_keep_1 ⟨Nat.le_refl _, Nat.le_refl _⟩ ?_
  refine z_ifeq (pc := 4) (tgt := 30) hx hb dX8_keep_4 (by decide) (fun c_1 => ?_) (fun c_1 => ?_)
  · skip
    refine lv_iconst (pc := 30) (v := (-1)) hx hb dX8_keep_30 (by decide) ?_
    exact z_wiret cx hr hlk dX8_keep_31 hS ⟨(sI (by first | rfl | (simp [keepR, keepO, c_1]; done))), (by rw [show (keepK sv kp d w x) = kp from (by first | rfl | (simp [keepK, keepP, keepT, keepO, tsV, c_1]; done)), show (keepP sv pr d w x) = pr from (by first | rfl | (simp [keepK, keepP, keepT, keepO, tsV, c_1]; done)), show (keepT sv ts d w x) = ts from (by first | rfl | (simp [keepK, keepP, keepT, keepO, tsV, c_1]; done))]; exact hW)⟩
  · skip
    refine lv_iload_n (pc := 7) hx hb dX8_keep_7 rfl (lv_at hl 2 rfl) ?_
    refine lv_i2l (pc := 8) (v := Int32.toInt64 w) hx hb dX8_keep_8 rfl ?_
    refine lv_lconst (pc := 9) (v := 0) hx hb dX8_keep_9 rfl ?_
    refine lv_lconst (pc := 10) (v := 1) hx hb dX8_keep_10 rfl ?_
    refine k_X8_isIn (pc := 11) (x := w) (y := 0) (z := 1) cx  m_ml_X8_53 ⟨Nat.le_of_ble_eq_true rfl, Nat.le_of_ble_eq_true rfl⟩ hl.1 rfl (by simp [Value.category]) dX8_keep_11 ⟨Nat.le_refl _, Nat.le_refl _⟩ ?_
    refine z_ifeq (pc := 14) (tgt := 30) hx hb dX8_keep_14 (by decide) (fun c_2 => ?_) (fun c_2 => ?_)
    · skip
      have hwa : ¬ w = 0 := fun q => by rw [q] at c_2; exact absurd c_2 (by decide)
      have hwb : ¬ w = 1 := fun q => by rw [q] at c_2; exact absurd c_2 (by decide)
      refine lv_iconst (pc := 30) (v := (-1)) hx hb dX8_keep_30 (by decide) ?_
      exact z_wiret cx hr hlk dX8_keep_31 hS ⟨(sI (by first | rfl | (simp [keepR, keepO, c_1, c_2, hwa, hwb]; done))), (by rw [show (keepK sv kp d w x) = kp from (by first | rfl | (simp [keepK, keepP, keepT, keepO, tsV, c_1, c_2, hwa, hwb]; done)), show (keepP sv pr d w x) = pr from (by first | rfl | (simp [keepK, keepP, keepT, keepO, tsV, c_1, c_2, hwa, hwb]; done)), show (keepT sv ts d w x) = ts from (by first | rfl | (simp [keepK, keepP, keepT, keepO, tsV, c_1, c_2, hwa, hwb]; done))]; exact hW)⟩
    · skip
      refine lv_iload_n (pc := 17) hx hb dX8_keep_17 rfl (lv_at hl 2 rfl) ?_
      refine lv_iconst (pc := 18) (v := 1) hx hb dX8_keep_18 (by decide) ?_
      refine lv_icmp_ne (pc := 19) (tgt := 32) hx hb dX8_keep_19 (by decide) (fun c_3 => ?_) (fun c_3 => ?_)
      · skip
        obtain ⟨n3, hn3, rfl⟩ := shelf_nat (by assumption)
        have hN3 := iN_nI (n := n3) (by omega)
        have hw0 : w = 0 := w0_of (by assumption) (by assumption)
        refine lv_aload_n (pc := 32) hx hb dX8_keep_32 rfl (lv_at hl 0 rfl) ?_
        refine z_getM (pc := 33) cx (hW.at 0 rfl) 4 rfl m_fl_X8_22 rfl dX8_keep_33 ?_
        refine lv_iload_n (pc := 36) hx hb dX8_keep_36 rfl (lv_at hl 1 rfl) ?_
        refine lv_iload_n (pc := 37) hx hb dX8_keep_37 rfl (lv_at hl 2 rfl) ?_
        refine z_iast (pc := 38) (f := kp) (j := n3) cx hW hS 5 rfl (mF_in a 5) rfl (by omega) (by decide) dX8_keep_38 (fun H locs hW hS => ?_)
        have hW : WW E (wM a (E.2.1 0) sv im rd wa (upd kp n3 w) so sz el pr ts nu bu ht (bI ig) th po ba en td (bI ij)) gN H := hW
        refine lv_iload_n (pc := 39) hx hb dX8_keep_39 rfl (lv_at hl 2 rfl) ?_
        refine lv_if_ne (pc := 40) (tgt := 45) hx hb dX8_keep_40 (by decide) (fun c_4 => ?_) (fun c_4 => ?_)
        · skip
          exact absurd hw0 c_4
        · skip
          refine lv_iconst (pc := 43) (v := 0) hx hb dX8_keep_43 (by decide) ?_
          exact z_wiret cx hr hlk dX8_keep_44 hS ⟨(sI (by first | rfl | (simp [keepR, keepO, c_1, c_2, c_3, hN3, hw0, c_4]; done))), (by rw [show (keepK sv kp (nI n3) w x) = upd kp n3 w from (by first | rfl | (simp [keepK, keepP, keepT, keepO, tsV, c_1, c_2, c_3, hN3, hw0, c_4]; done)), show (keepP sv pr (nI n3) w x) = pr from (by first | rfl | (simp [keepK, keepP, keepT, keepO, tsV, c_1, c_2, c_3, hN3, hw0, c_4]; done)), show (keepT sv ts (nI n3) w x) = ts from (by first | rfl | (simp [keepK, keepP, keepT, keepO, tsV, c_1, c_2, c_3, hN3, hw0, c_4]; done))]; exact hW)⟩
      · skip
        have hw1 := c_3
        refine lv_aload_n (pc := 22) hx hb dX8_keep_22 rfl (lv_at hl 0 rfl) ?_
        refine lv_iload_n (pc := 23) hx hb dX8_keep_23 rfl (lv_at hl 3 rfl) ?_
        refine k_X8_isThing (pc := 24) (x := x) cx hW  m_ml_X8_143 ⟨Nat.le_of_ble_eq_true rfl, Nat.le_of_ble_eq_true rfl⟩ hl.1 rfl (by simp [Value.category]) dX8_keep_24 ⟨Nat.le_refl _, Nat.le_refl _⟩ ?_
        refine z_ifne (pc := 27) (tgt := 32) hx hb dX8_keep_27 (by decide) (fun c_5 => ?_) (fun c_5 => ?_)
        · skip
          obtain ⟨n, hn, rfl⟩ := th_nat hC c_5
          have hN := iN_nI (n := n) (by omega)
          obtain ⟨n3, hn3, rfl⟩ := shelf_nat (by assumption)
          have hN3 := iN_nI (n := n3) (by omega)
          refine lv_aload_n (pc := 32) hx hb dX8_keep_32 rfl (lv_at hl 0 rfl) ?_
          refine z_getM (pc := 33) cx (hW.at 0 rfl) 4 rfl m_fl_X8_22 rfl dX8_keep_33 ?_
          refine lv_iload_n (pc := 36) hx hb dX8_keep_36 rfl (lv_at hl 1 rfl) ?_
          refine lv_iload_n (pc := 37) hx hb dX8_keep_37 rfl (lv_at hl 2 rfl) ?_
          refine z_iast (pc := 38) (f := kp) (j := n3) cx hW hS 5 rfl (mF_in a 5) rfl (by omega) (by decide) dX8_keep_38 (fun H locs hW hS => ?_)
          have hW : WW E (wM a (E.2.1 0) sv im rd wa (upd kp n3 w) so sz el pr ts nu bu ht (bI ig) th po ba en td (bI ij)) gN H := hW
          refine lv_iload_n (pc := 39) hx hb dX8_keep_39 rfl (lv_at hl 2 rfl) ?_
          refine lv_if_ne (pc := 40) (tgt := 45) hx hb dX8_keep_40 (by decide) (fun c_6 => ?_) (fun c_6 => ?_)
          · skip
            refine lv_aload_n (pc := 45) hx hb dX8_keep_45 rfl (lv_at hl 0 rfl) ?_
            refine lv_iload_n (pc := 46) hx hb dX8_keep_46 rfl (lv_at hl 3 rfl) ?_
            refine lv_iconst (pc := 47) (v := 0) hx hb dX8_keep_47 (by decide) ?_
            refine k_X8_of (pc := 48) (n := n) (k := 0) cx hW (by first | assumption | omega) (by first | assumption | omega) m_ml_X8_140 ⟨Nat.le_of_ble_eq_true rfl, Nat.le_of_ble_eq_true rfl⟩ hl.1 rfl (by simp [Value.category]) dX8_keep_48 ⟨Nat.le_refl _, Nat.le_refl _⟩ ?_
            refine lv_istore (pc := 51) (lv' := [(4, .int (g5 sv n 0)), (0, .ref (a 0)), (1, .int (nI n3)), (2, .int w), (3, .int (nI n))]) hx hb dX8_keep_51 hl (by decide) rfl (fun ls hl => ?_)
            refine lv_aload_n (pc := 53) hx hb dX8_keep_53 rfl (lv_at hl 1 rfl) ?_
            refine z_getM (pc := 54) cx (hW.at 0 rfl) 8 rfl m_fl_X8_34 rfl dX8_keep_54 ?_
            refine lv_iload_n (pc := 57) hx hb dX8_keep_57 rfl (lv_at hl 2 rfl) ?_
            refine lv_aload_n (pc := 58) hx hb dX8_keep_58 rfl (lv_at hl 1 rfl) ?_
            refine lv_iload_n (pc := 59) hx hb dX8_keep_59 rfl (lv_at hl 4 rfl) ?_
            refine k_X8_priceOf (pc := 60) (n := n) cx hW (by first | assumption | omega) (by first | assumption | omega) m_ml_X8_148 ⟨Nat.le_of_ble_eq_true rfl, Nat.le_of_ble_eq_true rfl⟩ hl.1 rfl (by simp [Value.category]) dX8_keep_60 ⟨Nat.le_refl _, Nat.le_refl _⟩ ?_
            refine z_iast (pc := 63) (f := pr) (j := n3) cx hW hS 9 rfl (mF_in a 9) rfl (by omega) (by decide) dX8_keep_63 (fun H locs hW hS => ?_)
            have hW : WW E (wM a (E.2.1 0) sv im rd wa (upd kp n3 w) so sz el (upd pr n3 (prO sv n)) ts nu bu ht (bI ig) th po ba en td (bI ij)) gN H := hW
            refine lv_aload_n (pc := 64) hx hb dX8_keep_64 rfl (lv_at hl 1 rfl) ?_
            refine z_getM (pc := 65) cx (hW.at 0 rfl) 9 rfl m_fl_X8_37 rfl dX8_keep_65 ?_
            refine lv_iload_n (pc := 68) hx hb dX8_keep_68 rfl (lv_at hl 2 rfl) ?_
            refine lv_iload (pc := 69) hx hb dX8_keep_69 (lv_at hl 0 rfl) ?_
            refine lv_iconst (pc := 71) (v := 3) hx hb dX8_keep_71 (by decide) ?_
            refine lv_icmp_eq (pc := 72) (tgt := 84) hx hb dX8_keep_72 (by decide) (fun c_7 => ?_) (fun c_7 => ?_)
            · skip
              refine lv_bipush (pc := 84) (v := (-15)) hx hb dX8_keep_84 (by decide) ?_
              refine lv_goto (pc := 86) (tgt := 122) hx hb dX8_keep_86 (by decide) ?_
              refine z_iast (pc := 122) (f := ts) (j := n3) cx hW hS 10 rfl (mF_in a 10) rfl (by omega) (by decide) dX8_keep_122 (fun H locs hW hS => ?_)
              have hW : WW E (wM a (E.2.1 0) sv im rd wa (upd kp n3 w) so sz el (upd pr n3 (prO sv n)) (upd ts n3 (-15)) nu bu ht (bI ig) th po ba en td (bI ij)) gN H := hW
              refine lv_iconst (pc := 123) (v := 0) hx hb dX8_keep_123 (by decide) ?_
              exact z_wiret cx hr hlk dX8_keep_124 hS ⟨(sI (by first | rfl | (simp [keepR, keepO, c_1, c_2, c_3, c_5, hN, hN3, c_6, c_7]; done))), (by rw [show (keepK sv kp (nI n3) w (nI n)) = upd kp n3 w from (by first | rfl | (simp [keepK, keepP, keepT, keepO, tsV, c_1, c_2, c_3, c_5, hN, hN3, c_6, c_7]; done)), show (keepP sv pr (nI n3) w (nI n)) = upd pr n3 (prO sv n) from (by first | rfl | (simp [keepK, keepP, keepT, keepO, tsV, c_1, c_2, c_3, c_5, hN, hN3, c_6, c_7]; done)), show (keepT sv ts (nI n3) w (nI n)) = upd ts n3 (-15) from (by first | rfl | (simp [keepK, keepP, keepT, keepO, tsV, c_1, c_2, c_3, c_5, hN, hN3, c_6, c_7]; done))]; exact hW)⟩
            · skip
              refine lv_aload_n (pc := 75) hx hb dX8_keep_75 rfl (lv_at hl 1 rfl) ?_
              refine lv_iload_n (pc := 76) hx hb dX8_keep_76 rfl (lv_at hl 4 rfl) ?_
              refine lv_iconst (pc := 77) (v := 3) hx hb dX8_keep_77 (by decide) ?_
              refine k_X8_of (pc := 78) (n := n) (k := 3) cx hW (by first | assumption | omega) (by first | assumption | omega) m_ml_X8_140 ⟨Nat.le_of_ble_eq_true rfl, Nat.le_of_ble_eq_true rfl⟩ hl.1 rfl (by simp [Value.category]) dX8_keep_78 ⟨Nat.le_refl _, Nat.le_refl _⟩ ?_
              refine lv_if_ne (pc := 81) (tgt := 89) hx hb dX8_keep_81 (by decide) (fun c_8 => ?_) (fun c_8 => ?_)
              · skip
                refine lv_iload (pc := 89) hx hb dX8_keep_89 (lv_at hl 0 rfl) ?_
                refine lv_iconst (pc := 91) (v := 4) hx hb dX8_keep_91 (by decide) ?_
                refine lv_icmp_ne (pc := 92) (tgt := 102) hx hb dX8_keep_92 (by decide) (fun c_9 => ?_) (fun c_9 => ?_)
                · skip
                  refine lv_iload (pc := 102) hx hb dX8_keep_102 (lv_at hl 0 rfl) ?_
                  refine lv_bipush (pc := 104) (v := 7) hx hb dX8_keep_104 (by decide) ?_
                  refine lv_icmp_ne (pc := 106) (tgt := 121) hx hb dX8_keep_106 (by decide) (fun c_10 => ?_) (fun c_10 => ?_)
                  · skip
                    refine lv_iload_n (pc := 121) hx hb dX8_keep_121 rfl (lv_at hl 4 rfl) ?_
                    refine z_iast (pc := 122) (f := ts) (j := n3) cx hW hS 10 rfl (mF_in a 10) rfl (by omega) (by decide) dX8_keep_122 (fun H locs hW hS => ?_)
                    have hW : WW E (wM a (E.2.1 0) sv im rd wa (upd kp n3 w) so sz el (upd pr n3 (prO sv n)) (upd ts n3 (nI n)) nu bu ht (bI ig) th po ba en td (bI ij)) gN H := hW
                    refine lv_iconst (pc := 123) (v := 0) hx hb dX8_keep_123 (by decide) ?_
                    exact z_wiret cx hr hlk dX8_keep_124 hS ⟨(sI (by first | rfl | (simp [keepR, keepO, c_1, c_2, c_3, c_5, hN, hN3, c_6, c_7, c_8, c_9, c_10]; done))), (by rw [show (keepK sv kp (nI n3) w (nI n)) = upd kp n3 w from (by first | rfl | (simp [keepK, keepP, keepT, keepO, tsV, c_1, c_2, c_3, c_5, hN, hN3, c_6, c_7, c_8, c_9, c_10]; done)), show (keepP sv pr (nI n3) w (nI n)) = upd pr n3 (prO sv n) from (by first | rfl | (simp [keepK, keepP, keepT, keepO, tsV, c_1, c_2, c_3, c_5, hN, hN3, c_6, c_7, c_8, c_9, c_10]; done)), show (keepT sv ts (nI n3) w (nI n)) = upd ts n3 (nI n) from (by first | rfl | (simp [keepK, keepP, keepT, keepO, tsV, c_1, c_2, c_3, c_5, hN, hN3, c_6, c_7, c_8, c_9, c_10]; done))]; exact hW)⟩
                  · skip
                    refine lv_sipush (pc := 109) (v := 200) hx hb dX8_keep_109 (by decide) ?_
                    refine lv_aload_n (pc := 112) hx hb dX8_keep_112 rfl (lv_at hl 1 rfl) ?_
                    refine lv_iload_n (pc := 113) hx hb dX8_keep_113 rfl (lv_at hl 4 rfl) ?_
                    refine k_X8_priceOf (pc := 114) (n := n) cx hW (by first | assumption | omega) (by first | assumption | omega) m_ml_X8_148 ⟨Nat.le_of_ble_eq_true rfl, Nat.le_of_ble_eq_true rfl⟩ hl.1 rfl (by simp [Value.category]) dX8_keep_114 ⟨Nat.le_refl _, Nat.le_refl _⟩ ?_
                    refine lv_iadd (pc := 117) hx hb dX8_keep_117 ?_
                    refine lv_goto (pc := 118) (tgt := 122) hx hb dX8_keep_118 (by decide) ?_
                    refine z_iast (pc := 122) (f := ts) (j := n3) cx hW hS 10 rfl (mF_in a 10) rfl (by omega) (by decide) dX8_keep_122 (fun H locs hW hS => ?_)
                    have hW : WW E (wM a (E.2.1 0) sv im rd wa (upd kp n3 w) so sz el (upd pr n3 (prO sv n)) (upd ts n3 (200 + (prO sv n))) nu bu ht (bI ig) th po ba en td (bI ij)) gN H := hW
                    refine lv_iconst (pc := 123) (v := 0) hx hb dX8_keep_123 (by decide) ?_
                    exact z_wiret cx hr hlk dX8_keep_124 hS ⟨(sI (by first | rfl | (simp [keepR, keepO, c_1, c_2, c_3, c_5, hN, hN3, c_6, c_7, c_8, c_9, c_10]; done))), (by rw [show (keepK sv kp (nI n3) w (nI n)) = upd kp n3 w from (by first | rfl | (simp [keepK, keepP, keepT, keepO, tsV, c_1, c_2, c_3, c_5, hN, hN3, c_6, c_7, c_8, c_9, c_10]; done)), show (keepP sv pr (nI n3) w (nI n)) = upd pr n3 (prO sv n) from (by first | rfl | (simp [keepK, keepP, keepT, keepO, tsV, c_1, c_2, c_3, c_5, hN, hN3, c_6, c_7, c_8, c_9, c_10]; done)), show (keepT sv ts (nI n3) w (nI n)) = upd ts n3 (200 + (prO sv n)) from (by first | rfl | (simp [keepK, keepP, keepT, keepO, tsV, c_1, c_2, c_3, c_5, hN, hN3, c_6, c_7, c_8, c_9, c_10]; done))]; exact hW)⟩
                · skip
                  refine lv_bipush (pc := 95) (v := 100) hx hb dX8_keep_95 (by decide) ?_
                  refine lv_iload_n (pc := 97) hx hb dX8_keep_97 rfl (lv_at hl 4 rfl) ?_
                  refine lv_iadd (pc := 98) hx hb dX8_keep_98 ?_
                  refine lv_goto (pc := 99) (tgt := 122) hx hb dX8_keep_99 (by decide) ?_
                  refine z_iast (pc := 122) (f := ts) (j := n3) cx hW hS 10 rfl (mF_in a 10) rfl (by omega) (by decide) dX8_keep_122 (fun H locs hW hS => ?_)
                  have hW : WW E (wM a (E.2.1 0) sv im rd wa (upd kp n3 w) so sz el (upd pr n3 (prO sv n)) (upd ts n3 (100 + (nI n))) nu bu ht (bI ig) th po ba en td (bI ij)) gN H := hW
                  refine lv_iconst (pc := 123) (v := 0) hx hb dX8_keep_123 (by decide) ?_
                  exact z_wiret cx hr hlk dX8_keep_124 hS ⟨(sI (by first | rfl | (simp [keepR, keepO, c_1, c_2, c_3, c_5, hN, hN3, c_6, c_7, c_8, c_9]; done))), (by rw [show (keepK sv kp (nI n3) w (nI n)) = upd kp n3 w from (by first | rfl | (simp [keepK, keepP, keepT, keepO, tsV, c_1, c_2, c_3, c_5, hN, hN3, c_6, c_7, c_8, c_9]; done)), show (keepP sv pr (nI n3) w (nI n)) = upd pr n3 (prO sv n) from (by first | rfl | (simp [keepK, keepP, keepT, keepO, tsV, c_1, c_2, c_3, c_5, hN, hN3, c_6, c_7, c_8, c_9]; done)), show (keepT sv ts (nI n3) w (nI n)) = upd ts n3 (100 + (nI n)) from (by first | rfl | (simp [keepK, keepP, keepT, keepO, tsV, c_1, c_2, c_3, c_5, hN, hN3, c_6, c_7, c_8, c_9]; done))]; exact hW)⟩
              · skip
                refine lv_bipush (pc := 84) (v := (-15)) hx hb dX8_keep_84 (by decide) ?_
                refine lv_goto (pc := 86) (tgt := 122) hx hb dX8_keep_86 (by decide) ?_
                refine z_iast (pc := 122) (f := ts) (j := n3) cx hW hS 10 rfl (mF_in a 10) rfl (by omega) (by decide) dX8_keep_122 (fun H locs hW hS => ?_)
                have hW : WW E (wM a (E.2.1 0) sv im rd wa (upd kp n3 w) so sz el (upd pr n3 (prO sv n)) (upd ts n3 (-15)) nu bu ht (bI ig) th po ba en td (bI ij)) gN H := hW
                refine lv_iconst (pc := 123) (v := 0) hx hb dX8_keep_123 (by decide) ?_
                exact z_wiret cx hr hlk dX8_keep_124 hS ⟨(sI (by first | rfl | (simp [keepR, keepO, c_1, c_2, c_3, c_5, hN, hN3, c_6, c_7, c_8]; done))), (by rw [show (keepK sv kp (nI n3) w (nI n)) = upd kp n3 w from (by first | rfl | (simp [keepK, keepP, keepT, keepO, tsV, c_1, c_2, c_3, c_5, hN, hN3, c_6, c_7, c_8]; done)), show (keepP sv pr (nI n3) w (nI n)) = upd pr n3 (prO sv n) from (by first | rfl | (simp [keepK, keepP, keepT, keepO, tsV, c_1, c_2, c_3, c_5, hN, hN3, c_6, c_7, c_8]; done)), show (keepT sv ts (nI n3) w (nI n)) = upd ts n3 (-15) from (by first | rfl | (simp [keepK, keepP, keepT, keepO, tsV, c_1, c_2, c_3, c_5, hN, hN3, c_6, c_7, c_8]; done))]; exact hW)⟩
          · skip
            exact absurd (c_6.symm.trans hw1) (by decide)
        · skip
          refine lv_iconst (pc := 30) (v := (-1)) hx hb dX8_keep_30 (by decide) ?_
          exact z_wiret cx hr hlk dX8_keep_31 hS ⟨(sI (by first | rfl | (simp [keepR, keepO, c_1, c_2, c_3, c_5]; done))), (by rw [show (keepK sv kp d w x) = kp from (by first | rfl | (simp [keepK, keepP, keepT, keepO, tsV, c_1, c_2, c_3, c_5]; done)), show (keepP sv pr d w x) = pr from (by first | rfl | (simp [keepK, keepP, keepT, keepO, tsV, c_1, c_2, c_3, c_5]; done)), show (keepT sv ts d w x) = ts from (by first | rfl | (simp [keepK, keepP, keepT, keepO, tsV, c_1, c_2, c_3, c_5]; done))]; exact hW)⟩
theorem k_X8_keep {p : Program} {l : Launch} {e : Env} {R : Room} {s : State} {m : MethodId} {args : Array Value} {below : List Frame} {meth : Method} {c : Code} {H H0 : Heap} {locs : List Loc} {cells slots : Nat} {Q : State → Prop} {cc : ByteArray} {pc index : Nat} {ls : Array Slot} {rest st0 : List Value} {E : zE} {own : String} {nL : Nat} {F : Nat → Prop} {a : Nat → Nat} {sv im rd wa kp so sz el pr ts nu bu ht : Nat → Int32} {th po ba en td : Int32} {ig : Bool} {ij : Bool} {d w x : Int32} (cx : Cx E p s args m c own cc nL) (hW : WW E (wM a (E.2.1 0) sv im rd wa kp so sz el pr ts nu bu ht (bI ig) th po ba en td (bI ij)) gN H) (hS : va_S F H0 H locs) (zF : ∀ q, (mF a) q → F q) (hI : Inv sv) (zl : Cond.methodLink own index yX8_keep ∈ AllW) (zR : 2 + 1 ≤ R.frames ∧ 8 + (5 + 11) + 46 ≤ R.locals) (zs : ls.size = nL) (zt : st0 = ([.int d, .int w, .int x] : List Value).reverse ++ .ref (a 0) :: rest) (z8 : (rest.map fun v => v.category).sum ≤ 8) (zd : decode cc pc = .ok (.invokevirtual index, 3)) (zf : cells ≤ R.cells ∧ slots ≤ R.slots) (kk0 : ∀  (H1 : Heap) (locs1 : List Loc), WW E (wM a (E.2.1 0) sv im rd wa (keepK sv kp d w x) so sz el (keepP sv pr d w x) (keepT sv ts d w x) nu bu ht (bI ig) th po ba en td (bI ij)) gN H1 → va_S F H0 H1 locs1 → W p l e R s m args below meth c H1 locs1 cells slots Q (F0 m (pc + 3) ls (.int (keepR sv d w x) :: rest))) : W p l e R s m args below meth c H locs cells slots Q (F0 m pc ls st0) := by
  refine z_callVw cx vm_X8_keep (c_X8_keep l E a sv im rd wa kp so sz el pr ts nu bu ht th po ba en td ig ij d w x hI) (z_rec cx.2 (hW.at 0 rfl) rfl) hW hS zF zl ⟨rfl, rfl⟩ zR rfl zs zt z8 zd zf (fun v H1 locs1 hq hS1 _ => ?_)
  rcases hq with ⟨rfl, hW1⟩
  · exact kk0  H1 locs1  hW1 hS1
theorem vm_X8_row : zVm yX8_row cX8_row 5 (some FieldType.int) 3 := ⟨m_co_X8_row, m_in_RX8, ⟨m_im_X8_row, m_se_X8_X8_row⟩, by decide +kernel, by decide +kernel, by decide +kernel⟩
set_option maxHeartbeats 4000000 in
set_option maxRecDepth 100000 in
theorem c_X8_row (l : Launch) (E : zE) (a : Nat → Nat) (sv im rd wa kp so sz el pr ts nu bu ht : Nat → Int32) (th po ba en td : Int32) (ig : Bool) (ij : Bool) (d o n2 : Int32)  : Met l yX8_row (.code yX8_row cX8_row 5 (some FieldType.int) :: AllW) (rm0' 2 45) (zP E (fun H => WW E (wM a (E.2.1 0) sv im rd wa kp so sz el pr ts nu bu ht (bI ig) th po ba en td (bI ij)) gN H) [.ref (a 0), .int d, .int o, .int n2]) (zQ (fun (_ : Heap) (v : Option Value) (H1 : Heap) => (v = some (.int (rowR d o n2)) ∧ WW E (wM a (E.2.1 0) sv im rd wa (rowK kp d o n2) (rowS so d o n2) (rowZ sz d o n2) (rowE el d o n2) pr ts nu bu ht (bI ig) th po ba en td (bI ij)) gN H1)) (mF a)) 0 0 (mF a) := by
  refine z_body (own := RX8) (by decide) rfl rfl ?_
  intro p e s m args below meth c ls cx hr hlk hnm hW hl
  have hx := cx.x
  have hb := cx.b
  have hl : lv_has ls 5 [(0, .ref (a 0)), (1, .int d), (2, .int o), (3, .int n2)] := hl
  have hS : va_S (mF a) s.heap s.heap [] := va_S.rf
  refine lv_iload_n (pc := 0) hx hb dX8_row_0 rfl (lv_at hl 1 rfl) ?_
  refine k_X8_isShelf (pc := 1) (x := d) cx  m_ml_X8_111 ⟨Nat.le_of_ble_eq_true rfl, Nat.le_of_ble_eq_true rfl⟩ hl.1 rfl (by simp [Value.category]) dX8_row_1 ⟨Nat.le_refl _, Nat.le_refl _⟩ ?_
  refine z_ifeq (pc := 4) (tgt := 25) hx hb dX8_row_4 (by decide) (fun c_1 => ?_) (fun c_1 => ?_)
  · skip
    refine lv_iconst (pc := 25) (v := (-1)) hx hb dX8_row_25 (by decide) ?_
    exact z_wiret cx hr hlk dX8_row_26 hS ⟨(sI (by first | rfl | (simp [rowR, c_1]; done))), (by rw [show (rowK kp d o n2) = kp from (by first | rfl | (simp [rowK, rowS, rowZ, rowE, rowO, c_1]; done)), show (rowS so d o n2) = so from (by first | rfl | (simp [rowK, rowS, rowZ, rowE, rowO, c_1]; done)), show (rowZ sz d o n2) = sz from (by first | rfl | (simp [rowK, rowS, rowZ, rowE, rowO, c_1]; done)), show (rowE el d o n2) = el from (by first | rfl | (simp [rowK, rowS, rowZ, rowE, rowO, c_1]; done))]; exact hW)⟩
  · skip
    refine lv_iload_n (pc := 7) hx hb dX8_row_7 rfl (lv_at hl 2 rfl) ?_
    refine lv_i2l (pc := 8) (v := Int32.toInt64 o) hx hb dX8_row_8 rfl ?_
    refine lv_lconst (pc := 9) (v := 0) hx hb dX8_row_9 rfl ?_
    refine lv_ldc2 (pc := 10) (v := 2) hx hb cx.own (cx.ts _ m_kl_X8_195) dX8_row_10 ?_
    refine k_X8_isIn (pc := 13) (x := o) (y := 0) (z := 2) cx  m_ml_X8_53 ⟨Nat.le_of_ble_eq_true rfl, Nat.le_of_ble_eq_true rfl⟩ hl.1 rfl (by simp [Value.category]) dX8_row_13 ⟨Nat.le_refl _, Nat.le_refl _⟩ ?_
    refine z_ifeq (pc := 16) (tgt := 25) hx hb dX8_row_16 (by decide) (fun c_2 => ?_) (fun c_2 => ?_)
    · skip
      refine lv_iconst (pc := 25) (v := (-1)) hx hb dX8_row_25 (by decide) ?_
      exact z_wiret cx hr hlk dX8_row_26 hS ⟨(sI (by first | rfl | (simp [rowR, c_1, c_2]; done))), (by rw [show (rowK kp d o n2) = kp from (by first | rfl | (simp [rowK, rowS, rowZ, rowE, rowO, c_1, c_2]; done)), show (rowS so d o n2) = so from (by first | rfl | (simp [rowK, rowS, rowZ, rowE, rowO, c_1, c_2]; done)), show (rowZ sz d o n2) = sz from (by first | rfl | (simp [rowK, rowS, rowZ, rowE, rowO, c_1, c_2]; done)), show (rowE el d o n2) = el from (by first | rfl | (simp [rowK, rowS, rowZ, rowE, rowO, c_1, c_2]; done))]; exact hW)⟩
    · skip
      refine lv_iload_n (pc := 19) hx hb dX8_row_19 rfl (lv_at hl 3 rfl) ?_
      refine lv_bipush (pc := 20) (v := 100) hx hb dX8_row_20 (by decide) ?_
      refine lv_icmp_le (pc := 22) (tgt := 27) hx hb dX8_row_22 (by decide) (fun c_3 => ?_) (fun c_3 => ?_)
      · skip
        refine lv_iload_n (pc := 27) hx hb dX8_row_27 rfl (lv_at hl 3 rfl) ?_
        refine lv_if_ge (pc := 28) (tgt := 34) hx hb dX8_row_28 (by decide) (fun c_4 => ?_) (fun c_4 => ?_)
        · skip
          obtain ⟨n, hn, rfl⟩ := shelf_nat (by assumption)
          have hN := iN_nI (n := n) (by omega)
          refine lv_aload_n (pc := 34) hx hb dX8_row_34 rfl (lv_at hl 0 rfl) ?_
          refine z_getM (pc := 35) cx (hW.at 0 rfl) 4 rfl m_fl_X8_22 rfl dX8_row_35 ?_
          refine lv_iload_n (pc := 38) hx hb dX8_row_38 rfl (lv_at hl 1 rfl) ?_
          refine lv_iconst (pc := 39) (v := 2) hx hb dX8_row_39 (by decide) ?_
          refine z_iast (pc := 40) (f := kp) (j := n) cx hW hS 5 rfl (mF_in a 5) rfl (by omega) (by decide) dX8_row_40 (fun H locs hW hS => ?_)
          have hW : WW E (wM a (E.2.1 0) sv im rd wa (upd kp n 2) so sz el pr ts nu bu ht (bI ig) th po ba en td (bI ij)) gN H := hW
          refine lv_aload_n (pc := 41) hx hb dX8_row_41 rfl (lv_at hl 0 rfl) ?_
          refine z_getM (pc := 42) cx (hW.at 0 rfl) 5 rfl m_fl_X8_25 rfl dX8_row_42 ?_
          refine lv_iload_n (pc := 45) hx hb dX8_row_45 rfl (lv_at hl 1 rfl) ?_
          refine lv_iload_n (pc := 46) hx hb dX8_row_46 rfl (lv_at hl 2 rfl) ?_
          refine z_iast (pc := 47) (f := so) (j := n) cx hW hS 6 rfl (mF_in a 6) rfl (by omega) (by decide) dX8_row_47 (fun H locs hW hS => ?_)
          have hW : WW E (wM a (E.2.1 0) sv im rd wa (upd kp n 2) (upd so n o) sz el pr ts nu bu ht (bI ig) th po ba en td (bI ij)) gN H := hW
          refine lv_aload_n (pc := 48) hx hb dX8_row_48 rfl (lv_at hl 0 rfl) ?_
          refine z_getM (pc := 49) cx (hW.at 0 rfl) 6 rfl m_fl_X8_28 rfl dX8_row_49 ?_
          refine lv_iload_n (pc := 52) hx hb dX8_row_52 rfl (lv_at hl 1 rfl) ?_
          refine lv_iload_n (pc := 53) hx hb dX8_row_53 rfl (lv_at hl 3 rfl) ?_
          refine z_iast (pc := 54) (f := sz) (j := n) cx hW hS 7 rfl (mF_in a 7) rfl (by omega) (by decide) dX8_row_54 (fun H locs hW hS => ?_)
          have hW : WW E (wM a (E.2.1 0) sv im rd wa (upd kp n 2) (upd so n o) (upd sz n n2) el pr ts nu bu ht (bI ig) th po ba en td (bI ij)) gN H := hW
          refine lv_iconst (pc := 55) (v := 0) hx hb dX8_row_55 (by decide) ?_
          refine lv_istore (pc := 56) (lv' := [(4, .int 0), (0, .ref (a 0)), (1, .int (nI n)), (2, .int o), (3, .int n2)]) hx hb dX8_row_56 hl (by decide) rfl (fun ls hl => ?_)
          have loop_58 : ∀ (k_58 : Nat) (i : Nat) (x4 : Int32), (100 - i) < k_58 → (i ≤ 100) → x4 = nI i → ∀ (H : Heap) (locs : List Loc), WW E (wM a (E.2.1 0) sv im rd wa (upd kp n 2) (upd so n o) (upd sz n n2) (zeA el (100 * n) i) pr ts nu bu ht (bI ig) th po ba en td (bI ij)) gN H → va_S (mF a) s.heap H locs → ∀ (ls : Array Slot), lv_has ls 5 [(4, .int x4), (0, .ref (a 0)), (1, .int (nI n)), (2, .int o), (3, .int n2)] → W p l e (rm0' (2) (45)) s m args below meth c H locs 0 0 (MQ below (zQ (fun (_ : Heap) (v : Option Value) (H1 : Heap) => (v = some (.int (rowR (nI n) o n2)) ∧ WW E (wM a (E.2.1 0) sv im rd wa (rowK kp (nI n) o n2) (rowS so (nI n) o n2) (rowZ sz (nI n) o n2) (rowE el (nI n) o n2) pr ts nu bu ht (bI ig) th po ba en td (bI ij)) gN H1)) (mF a)) args s 0 0 (mF a)) (F0 m 58 ls []) := by
            intro k_58
            induction k_58 with
            | zero =>
              intro i x4 hm
              exact absurd hm (Nat.not_lt_zero _)
            | succ k_58 ih_58 =>
              intro i x4 hm_58 hi e_x4  H locs  hW hS ls hl
              subst e_x4
              refine lv_iload (pc := 58) hx hb dX8_row_58 (lv_at hl 0 rfl) ?_
              refine lv_bipush (pc := 60) (v := 100) hx hb dX8_row_60 (by decide) ?_
              refine lv_icmp_ge (pc := 62) (tgt := 84) hx hb dX8_row_62 (by decide) (fun c_5 => ?_) (fun c_5 => ?_)
              · skip
                obtain rfl : i = 100 := by have := ge_nat (a := i) (b := 100) rfl rfl (by omega) (by omega) c_5; omega
                refine lv_iconst (pc := 84) (v := 0) hx hb dX8_row_84 (by decide) ?_
                exact z_wiret cx hr hlk dX8_row_85 hS ⟨(sI (by first | rfl | (simp [rowR, c_1, c_2, c_3, c_4, hN, i_nlt.mpr c_3, i_nlt.mpr c_4]; done))), (by rw [show (rowK kp (nI n) o n2) = upd kp n 2 from (by first | rfl | (simp [rowK, rowS, rowZ, rowE, rowO, c_1, c_2, c_3, c_4, hN, i_nlt.mpr c_3, i_nlt.mpr c_4]; done)), show (rowS so (nI n) o n2) = upd so n o from (by first | rfl | (simp [rowK, rowS, rowZ, rowE, rowO, c_1, c_2, c_3, c_4, hN, i_nlt.mpr c_3, i_nlt.mpr c_4]; done)), show (rowZ sz (nI n) o n2) = upd sz n n2 from (by first | rfl | (simp [rowK, rowS, rowZ, rowE, rowO, c_1, c_2, c_3, c_4, hN, i_nlt.mpr c_3, i_nlt.mpr c_4]; done)), show (rowE el (nI n) o n2) = zeA el (100 * n) 100 from (by first | rfl | (simp [rowK, rowS, rowZ, rowE, rowO, c_1, c_2, c_3, c_4, hN, i_nlt.mpr c_3, i_nlt.mpr c_4]; done))]; exact hW)⟩
              · skip
                have hlt_i := lt_nat (a := i) (b := 100) rfl rfl (by omega) (by omega) c_5
                refine lv_aload_n (pc := 65) hx hb dX8_row_65 rfl (lv_at hl 1 rfl) ?_
                refine z_getM (pc := 66) cx (hW.at 0 rfl) 7 rfl m_fl_X8_31 rfl dX8_row_66 ?_
                refine lv_bipush (pc := 69) (v := 100) hx hb dX8_row_69 (by decide) ?_
                refine lv_iload_n (pc := 71) hx hb dX8_row_71 rfl (lv_at hl 2 rfl) ?_
                refine lv_imul (pc := 72) hx hb dX8_row_72 ?_
                refine lv_iload (pc := 73) hx hb dX8_row_73 (lv_at hl 0 rfl) ?_
                refine lv_iadd (pc := 75) hx hb dX8_row_75 ?_
                refine lv_iconst (pc := 76) (v := 0) hx hb dX8_row_76 (by decide) ?_
                refine z_iast (pc := 77) (f := zeA el (100 * n) i) (j := 100 * n + i) cx hW hS 8 rfl (mF_in a 8) (ixe n i) (by omega) (by decide) dX8_row_77 (fun H locs hW hS => ?_)
                have hW : WW E (wM a (E.2.1 0) sv im rd wa (upd kp n 2) (upd so n o) (upd sz n n2) (upd (zeA el (100 * n) i) (100 * n + i) 0) pr ts nu bu ht (bI ig) th po ba en td (bI ij)) gN H := hW
                refine lv_iinc (pc := 78) (v := nI (i + 1)) (lv' := [(4, .int (nI (i + 1))), (0, .ref (a 0)), (1, .int (nI n)), (2, .int o), (3, .int n2)]) hx hb dX8_row_78 hl (k := 0) rfl (nI_1 _) (by decide) rfl (fun ls hl => ?_)
                refine lv_goto (pc := 81) (tgt := 58) hx hb dX8_row_81 (by decide) ?_
                exact ih_58 (i + 1) (nI (i + 1)) (by omega) (by omega) (by first | rfl | (simp [rowR, c_1, c_2, c_3, c_4, hN, i_nlt.mpr c_3, i_nlt.mpr c_4]; done))  _ _  (by rw [← zeA_s]; exact hW) hS ls (lv_sub hl [0, 1, 2, 3, 4] rfl)
          exact loop_58 ((100 - 0) + 1) 0 0 (Nat.lt_succ_self _) (by omega) (by first | rfl | (simp [rowR, c_1, c_2, c_3, c_4, hN, i_nlt.mpr c_3, i_nlt.mpr c_4]; done))  _ _  (by rw [zeA_0]; exact hW) hS ls (lv_sub hl [0, 1, 2, 3, 4] rfl)
        · skip
          refine lv_bipush (pc := 31) (v := (-14)) hx hb dX8_row_31 (by decide) ?_
          exact z_wiret cx hr hlk dX8_row_33 hS ⟨(sI (by first | rfl | (simp [rowR, c_1, c_2, c_3, c_4, i_nlt.mpr c_3, i_nle.mp c_4]; done))), (by rw [show (rowK kp d o n2) = kp from (by first | rfl | (simp [rowK, rowS, rowZ, rowE, rowO, c_1, c_2, c_3, c_4, i_nlt.mpr c_3, i_nle.mp c_4]; done)), show (rowS so d o n2) = so from (by first | rfl | (simp [rowK, rowS, rowZ, rowE, rowO, c_1, c_2, c_3, c_4, i_nlt.mpr c_3, i_nle.mp c_4]; done)), show (rowZ sz d o n2) = sz from (by first | rfl | (simp [rowK, rowS, rowZ, rowE, rowO, c_1, c_2, c_3, c_4, i_nlt.mpr c_3, i_nle.mp c_4]; done)), show (rowE el d o n2) = el from (by first | rfl | (simp [rowK, rowS, rowZ, rowE, rowO, c_1, c_2, c_3, c_4, i_nlt.mpr c_3, i_nle.mp c_4]; done))]; exact hW)⟩
      · skip
        refine lv_iconst (pc := 25) (v := (-1)) hx hb dX8_row_25 (by decide) ?_
        exact z_wiret cx hr hlk dX8_row_26 hS ⟨(sI (by first | rfl | (simp [rowR, c_1, c_2, c_3, i_nle.mp c_3]; done))), (by rw [show (rowK kp d o n2) = kp from (by first | rfl | (simp [rowK, rowS, rowZ, rowE, rowO, c_1, c_2, c_3, i_nle.mp c_3]; done)), show (rowS so d o n2) = so from (by first | rfl | (simp [rowK, rowS, rowZ, rowE, rowO, c_1, c_2, c_3, i_nle.mp c_3]; done)), show (rowZ sz d o n2) = sz from (by first | rfl | (simp [rowK, rowS, rowZ, rowE, rowO, c_1, c_2, c_3, i_nle.mp c_3]; done)), show (rowE el d o n2) = el from (by first | rfl | (simp [rowK, rowS, rowZ, rowE, rowO, c_1, c_2, c_3, i_nle.mp c_3]; done))]; exact hW)⟩
theorem k_X8_row {p : Program} {l : Launch} {e : Env} {R : Room} {s : State} {m : MethodId} {args : Array Value} {below : List Frame} {meth : Method} {c : Code} {H H0 : Heap} {locs : List Loc} {cells slots : Nat} {Q : State → Prop} {cc : ByteArray} {pc index : Nat} {ls : Array Slot} {rest st0 : List Value} {E : zE} {own : String} {nL : Nat} {F : Nat → Prop} {a : Nat → Nat} {sv im rd wa kp so sz el pr ts nu bu ht : Nat → Int32} {th po ba en td : Int32} {ig : Bool} {ij : Bool} {d o n2 : Int32} (cx : Cx E p s args m c own cc nL) (hW : WW E (wM a (E.2.1 0) sv im rd wa kp so sz el pr ts nu bu ht (bI ig) th po ba en td (bI ij)) gN H) (hS : va_S F H0 H locs) (zF : ∀ q, (mF a) q → F q)  (zl : Cond.methodLink own index yX8_row ∈ AllW) (zR : 2 + 1 ≤ R.frames ∧ 8 + (5 + 11) + 45 ≤ R.locals) (zs : ls.size = nL) (zt : st0 = ([.int d, .int o, .int n2] : List Value).reverse ++ .ref (a 0) :: rest) (z8 : (rest.map fun v => v.category).sum ≤ 8) (zd : decode cc pc = .ok (.invokevirtual index, 3)) (zf : cells ≤ R.cells ∧ slots ≤ R.slots) (kk0 : ∀  (H1 : Heap) (locs1 : List Loc), WW E (wM a (E.2.1 0) sv im rd wa (rowK kp d o n2) (rowS so d o n2) (rowZ sz d o n2) (rowE el d o n2) pr ts nu bu ht (bI ig) th po ba en td (bI ij)) gN H1 → va_S F H0 H1 locs1 → W p l e R s m args below meth c H1 locs1 cells slots Q (F0 m (pc + 3) ls (.int (rowR d o n2) :: rest))) : W p l e R s m args below meth c H locs cells slots Q (F0 m pc ls st0) := by
  refine z_callVw cx vm_X8_row (c_X8_row l E a sv im rd wa kp so sz el pr ts nu bu ht th po ba en td ig ij d o n2) (z_rec cx.2 (hW.at 0 rfl) rfl) hW hS zF zl ⟨rfl, rfl⟩ zR rfl zs zt z8 zd zf (fun v H1 locs1 hq hS1 _ => ?_)
  rcases hq with ⟨rfl, hW1⟩
  · exact kk0  H1 locs1  hW1 hS1
theorem vm_X8_put : zVm yX8_put cX8_put 5 (some FieldType.int) 3 := ⟨m_co_X8_put, m_in_RX8, ⟨m_im_X8_put, m_se_X8_X8_put⟩, by decide +kernel, by decide +kernel, by decide +kernel⟩
set_option maxHeartbeats 4000000 in
set_option maxRecDepth 100000 in
theorem c_X8_put (l : Launch) (E : zE) (a : Nat → Nat) (sv im rd wa kp so sz el pr ts nu bu ht : Nat → Int32) (th po ba en td : Int32) (ig : Bool) (ij : Bool) (d x y : Int32) (hR : InvR kp so sz) : Met l yX8_put (.code yX8_put cX8_put 5 (some FieldType.int) :: AllW) (rm0' 3 67) (zP E (fun H => WW E (wM a (E.2.1 0) sv im rd wa kp so sz el pr ts nu bu ht (bI ig) th po ba en td (bI ij)) gN H) [.ref (a 0), .int d, .int x, .int y]) (zQ (fun (_ : Heap) (v : Option Value) (H1 : Heap) => (v = some (.int (putR kp so sz d x)) ∧ WW E (wM a (E.2.1 0) sv im rd wa kp so sz (putE kp so sz el d x y) pr ts nu bu ht (bI ig) th po ba en td (bI ij)) gN H1)) (mF a)) 0 0 (mF a) := by
  refine z_body (own := RX8) (by decide) rfl rfl ?_
  intro p e s m args below meth c ls cx hr hlk hnm hW hl
  have hx := cx.x
  have hb := cx.b
  have hl : lv_has ls 5 [(0, .ref (a 0)), (1, .int d), (2, .int x), (3, .int y)] := hl
  have hS : va_S (mF a) s.heap s.heap [] := va_S.rf
  refine lv_aload_n (pc := 0) hx hb dX8_put_0 rfl (lv_at hl 0 rfl) ?_
  refine lv_iload_n (pc := 1) hx hb dX8_put_1 rfl (lv_at hl 1 rfl) ?_
  refine lv_iconst (pc := 2) (v := (-1)) hx hb dX8_put_2 (by decide) ?_
  refine k_X8_wrongRow (pc := 3) (d := d) (o := (-1)) cx hW  m_ml_X8_114 ⟨Nat.le_of_ble_eq_true rfl, Nat.le_of_ble_eq_true rfl⟩ hl.1 rfl (by simp [Value.category]) dX8_put_3 ⟨Nat.le_refl _, Nat.le_refl _⟩ ?_
  refine lv_istore (pc := 6) (lv' := [(4, .int (wrR kp so d (-1))), (0, .ref (a 0)), (1, .int d), (2, .int x), (3, .int y)]) hx hb dX8_put_6 hl (by decide) rfl (fun ls hl => ?_)
  refine lv_iload (pc := 8) hx hb dX8_put_8 (lv_at hl 0 rfl) ?_
  refine lv_if_eq (pc := 10) (tgt := 16) hx hb dX8_put_10 (by decide) (fun c_1 => ?_) (fun c_1 => ?_)
  · skip
    obtain ⟨n, hn, rfl⟩ := shelf_nat (wrR_0 c_1).1
    have hN := iN_nI (n := n) (by omega)
    have hz := sz_nat hR hn
    refine lv_iload_n (pc := 16) hx hb dX8_put_16 rfl (lv_at hl 3 rfl) ?_
    refine lv_i2l (pc := 17) (v := Int32.toInt64 x) hx hb dX8_put_17 rfl ?_
    refine lv_lconst (pc := 18) (v := 0) hx hb dX8_put_18 rfl ?_
    refine lv_aload_n (pc := 19) hx hb dX8_put_19 rfl (lv_at hl 1 rfl) ?_
    refine z_getM (pc := 20) cx (hW.at 0 rfl) 6 rfl m_fl_X8_28 rfl dX8_put_20 ?_
    refine lv_iload_n (pc := 23) hx hb dX8_put_23 rfl (lv_at hl 2 rfl) ?_
    refine z_iald (pc := 24) (f := sz) (j := n) cx (hW.at 7 rfl) rfl (by omega) (by decide) dX8_put_24 ?_
    refine lv_iconst (pc := 25) (v := 1) hx hb dX8_put_25 (by decide) ?_
    refine lv_isub (pc := 26) hx hb dX8_put_26 ?_
    refine lv_i2l (pc := 27) (v := Int32.toInt64 ((sz n) - 1)) hx hb dX8_put_27 rfl ?_
    refine k_X8_isIn (pc := 28) (x := x) (y := 0) (z := ((sz n) - 1)) cx  m_ml_X8_53 ⟨Nat.le_of_ble_eq_true rfl, Nat.le_of_ble_eq_true rfl⟩ hl.1 rfl (by simp [Value.category]) dX8_put_28 ⟨Nat.le_refl _, Nat.le_refl _⟩ ?_
    refine z_ifne (pc := 31) (tgt := 37) hx hb dX8_put_31 (by decide) (fun c_2 => ?_) (fun c_2 => ?_)
    · skip
      obtain ⟨k, hk, rfl⟩ := in_sz hz.1 hz.2 c_2
      have hK := iN_nI (n := k) (by omega)
      refine lv_aload_n (pc := 37) hx hb dX8_put_37 rfl (lv_at hl 1 rfl) ?_
      refine z_getM (pc := 38) cx (hW.at 0 rfl) 7 rfl m_fl_X8_31 rfl dX8_put_38 ?_
      refine lv_bipush (pc := 41) (v := 100) hx hb dX8_put_41 (by decide) ?_
      refine lv_iload_n (pc := 43) hx hb dX8_put_43 rfl (lv_at hl 2 rfl) ?_
      refine lv_imul (pc := 44) hx hb dX8_put_44 ?_
      refine lv_iload_n (pc := 45) hx hb dX8_put_45 rfl (lv_at hl 3 rfl) ?_
      refine lv_iadd (pc := 46) hx hb dX8_put_46 ?_
      refine lv_aload_n (pc := 47) hx hb dX8_put_47 rfl (lv_at hl 1 rfl) ?_
      refine z_getM (pc := 48) cx (hW.at 0 rfl) 5 rfl m_fl_X8_25 rfl dX8_put_48 ?_
      refine lv_iload_n (pc := 51) hx hb dX8_put_51 rfl (lv_at hl 2 rfl) ?_
      refine z_iald (pc := 52) (f := so) (j := n) cx (hW.at 6 rfl) rfl (by omega) (by decide) dX8_put_52 ?_
      refine lv_if_ne (pc := 53) (tgt := 61) hx hb dX8_put_53 (by decide) (fun c_3 => ?_) (fun c_3 => ?_)
      · skip
        refine lv_aload_n (pc := 61) hx hb dX8_put_61 rfl (lv_at hl 1 rfl) ?_
        refine z_getM (pc := 62) cx (hW.at 0 rfl) 5 rfl m_fl_X8_25 rfl dX8_put_62 ?_
        refine lv_iload_n (pc := 65) hx hb dX8_put_65 rfl (lv_at hl 2 rfl) ?_
        refine z_iald (pc := 66) (f := so) (j := n) cx (hW.at 6 rfl) rfl (by omega) (by decide) dX8_put_66 ?_
        refine lv_iconst (pc := 67) (v := 1) hx hb dX8_put_67 (by decide) ?_
        refine lv_icmp_ne (pc := 68) (tgt := 76) hx hb dX8_put_68 (by decide) (fun c_4 => ?_) (fun c_4 => ?_)
        · skip
          refine lv_iload_n (pc := 76) hx hb dX8_put_76 rfl (lv_at hl 4 rfl) ?_
          refine z_iast (pc := 77) (f := el) (j := 100 * n + k) cx hW hS 8 rfl (mF_in a 8) (ixe n k) (by omega) (by decide) dX8_put_77 (fun H locs hW hS => ?_)
          have hW : WW E (wM a (E.2.1 0) sv im rd wa kp so sz (upd el (100 * n + k) y) pr ts nu bu ht (bI ig) th po ba en td (bI ij)) gN H := hW
          refine lv_iconst (pc := 78) (v := 0) hx hb dX8_put_78 (by decide) ?_
          exact z_wiret cx hr hlk dX8_put_79 hS ⟨(sI (by first | rfl | (simp [putR, c_1, hN, c_2, hK, c_3, c_4]; done))), (by rw [show (putE kp so sz el (nI n) (nI k) y) = upd el (100 * n + k) y from (by first | rfl | (simp [putE, narV, c_1, hN, c_2, hK, c_3, c_4]; done))]; exact hW)⟩
        · skip
          refine lv_iload_n (pc := 71) hx hb dX8_put_71 rfl (lv_at hl 4 rfl) ?_
          refine lv_i2s (pc := 72) (v := (y).toInt16.toInt32) hx hb dX8_put_72 rfl ?_
          refine lv_goto (pc := 73) (tgt := 77) hx hb dX8_put_73 (by decide) ?_
          refine z_iast (pc := 77) (f := el) (j := 100 * n + k) cx hW hS 8 rfl (mF_in a 8) (ixe n k) (by omega) (by decide) dX8_put_77 (fun H locs hW hS => ?_)
          have hW : WW E (wM a (E.2.1 0) sv im rd wa kp so sz (upd el (100 * n + k) ((y).toInt16.toInt32)) pr ts nu bu ht (bI ig) th po ba en td (bI ij)) gN H := hW
          refine lv_iconst (pc := 78) (v := 0) hx hb dX8_put_78 (by decide) ?_
          exact z_wiret cx hr hlk dX8_put_79 hS ⟨(sI (by first | rfl | (simp [putR, c_1, hN, c_2, hK, c_3, c_4]; done))), (by rw [show (putE kp so sz el (nI n) (nI k) y) = upd el (100 * n + k) ((y).toInt16.toInt32) from (by first | rfl | (simp [putE, narV, c_1, hN, c_2, hK, c_3, c_4]; done))]; exact hW)⟩
      · skip
        refine lv_iload_n (pc := 56) hx hb dX8_put_56 rfl (lv_at hl 4 rfl) ?_
        refine lv_i2b (pc := 57) (v := (y).toInt8.toInt32) hx hb dX8_put_57 rfl ?_
        refine lv_goto (pc := 58) (tgt := 77) hx hb dX8_put_58 (by decide) ?_
        refine z_iast (pc := 77) (f := el) (j := 100 * n + k) cx hW hS 8 rfl (mF_in a 8) (ixe n k) (by omega) (by decide) dX8_put_77 (fun H locs hW hS => ?_)
        have hW : WW E (wM a (E.2.1 0) sv im rd wa kp so sz (upd el (100 * n + k) ((y).toInt8.toInt32)) pr ts nu bu ht (bI ig) th po ba en td (bI ij)) gN H := hW
        refine lv_iconst (pc := 78) (v := 0) hx hb dX8_put_78 (by decide) ?_
        exact z_wiret cx hr hlk dX8_put_79 hS ⟨(sI (by first | rfl | (simp [putR, c_1, hN, c_2, hK, c_3]; done))), (by rw [show (putE kp so sz el (nI n) (nI k) y) = upd el (100 * n + k) ((y).toInt8.toInt32) from (by first | rfl | (simp [putE, narV, c_1, hN, c_2, hK, c_3]; done))]; exact hW)⟩
    · skip
      refine lv_bipush (pc := 34) (v := (-13)) hx hb dX8_put_34 (by decide) ?_
      exact z_wiret cx hr hlk dX8_put_36 hS ⟨(sI (by first | rfl | (simp [putR, c_1, hN, c_2]; done))), (by rw [show (putE kp so sz el (nI n) x y) = el from (by first | rfl | (simp [putE, narV, c_1, hN, c_2]; done))]; exact hW)⟩
  · skip
    refine lv_iload (pc := 13) hx hb dX8_put_13 (lv_at hl 0 rfl) ?_
    exact z_wiret cx hr hlk dX8_put_15 hS ⟨(sI (by first | rfl | (simp [putR, c_1]; done))), (by rw [show (putE kp so sz el d x y) = el from (by first | rfl | (simp [putE, narV, c_1]; done))]; exact hW)⟩
theorem k_X8_put {p : Program} {l : Launch} {e : Env} {R : Room} {s : State} {m : MethodId} {args : Array Value} {below : List Frame} {meth : Method} {c : Code} {H H0 : Heap} {locs : List Loc} {cells slots : Nat} {Q : State → Prop} {cc : ByteArray} {pc index : Nat} {ls : Array Slot} {rest st0 : List Value} {E : zE} {own : String} {nL : Nat} {F : Nat → Prop} {a : Nat → Nat} {sv im rd wa kp so sz el pr ts nu bu ht : Nat → Int32} {th po ba en td : Int32} {ig : Bool} {ij : Bool} {d x y : Int32} (cx : Cx E p s args m c own cc nL) (hW : WW E (wM a (E.2.1 0) sv im rd wa kp so sz el pr ts nu bu ht (bI ig) th po ba en td (bI ij)) gN H) (hS : va_S F H0 H locs) (zF : ∀ q, (mF a) q → F q) (hR : InvR kp so sz) (zl : Cond.methodLink own index yX8_put ∈ AllW) (zR : 3 + 1 ≤ R.frames ∧ 8 + (5 + 11) + 67 ≤ R.locals) (zs : ls.size = nL) (zt : st0 = ([.int d, .int x, .int y] : List Value).reverse ++ .ref (a 0) :: rest) (z8 : (rest.map fun v => v.category).sum ≤ 8) (zd : decode cc pc = .ok (.invokevirtual index, 3)) (zf : cells ≤ R.cells ∧ slots ≤ R.slots) (kk0 : ∀  (H1 : Heap) (locs1 : List Loc), WW E (wM a (E.2.1 0) sv im rd wa kp so sz (putE kp so sz el d x y) pr ts nu bu ht (bI ig) th po ba en td (bI ij)) gN H1 → va_S F H0 H1 locs1 → W p l e R s m args below meth c H1 locs1 cells slots Q (F0 m (pc + 3) ls (.int (putR kp so sz d x) :: rest))) : W p l e R s m args below meth c H locs cells slots Q (F0 m pc ls st0) := by
  refine z_callVw cx vm_X8_put (c_X8_put l E a sv im rd wa kp so sz el pr ts nu bu ht th po ba en td ig ij d x y hR) (z_rec cx.2 (hW.at 0 rfl) rfl) hW hS zF zl ⟨rfl, rfl⟩ zR rfl zs zt z8 zd zf (fun v H1 locs1 hq hS1 _ => ?_)
  rcases hq with ⟨rfl, hW1⟩
  · exact kk0  H1 locs1  hW1 hS1
theorem vm_X8_element : zVm yX8_element cX8_element 3 (some FieldType.long) 2 := ⟨m_co_X8_element, m_in_RX8, ⟨m_im_X8_element, m_se_X8_X8_element⟩, by decide +kernel, by decide +kernel, by decide +kernel⟩
set_option maxHeartbeats 4000000 in
set_option maxRecDepth 100000 in
theorem c_X8_element (l : Launch) (E : zE) (a : Nat → Nat) (sv im rd wa kp so sz el pr ts nu bu ht : Nat → Int32) (th po ba en td : Int32) (ig : Bool) (ij : Bool) (d x : Int32) (hR : InvR kp so sz) : Met l yX8_element (.code yX8_element cX8_element 3 (some FieldType.long) :: AllW) (rm0' 2 45) (zP E (fun H => WW E (wM a (E.2.1 0) sv im rd wa kp so sz el pr ts nu bu ht (bI ig) th po ba en td (bI ij)) gN H) [.ref (a 0), .int d, .int x]) (zQ (fun (_ : Heap) (v : Option Value) (H1 : Heap) => (v = some (.long (elmV kp sz el d x)) ∧ WW E (wM a (E.2.1 0) sv im rd wa kp so sz el pr ts nu bu ht (bI ig) (elmT kp sz d x) po ba en td (bI ij)) gN H1)) (mF a)) 0 0 (mF a) := by
  refine z_body (own := RX8) (by decide) rfl rfl ?_
  intro p e s m args below meth c ls cx hr hlk hnm hW hl
  have hx := cx.x
  have hb := cx.b
  have hl : lv_has ls 3 [(0, .ref (a 0)), (1, .int d), (2, .int x)] := hl
  have hS : va_S (mF a) s.heap s.heap [] := va_S.rf
  refine lv_aload_n (pc := 0) hx hb dX8_element_0 rfl (lv_at hl 0 rfl) ?_
  refine lv_iload_n (pc := 1) hx hb dX8_element_1 rfl (lv_at hl 1 rfl) ?_
  refine k_X8_isShelf (pc := 2) (x := d) cx  m_ml_X8_111 ⟨Nat.le_of_ble_eq_true rfl, Nat.le_of_ble_eq_true rfl⟩ hl.1 rfl (by simp [Value.category]) dX8_element_2 ⟨Nat.le_refl _, Nat.le_refl _⟩ ?_
  refine z_ifne (pc := 5) (tgt := 12) hx hb dX8_element_5 (by decide) (fun c_1 => ?_) (fun c_1 => ?_)
  · skip
    obtain ⟨n, hn, rfl⟩ := shelf_nat c_1
    have hN := iN_nI (n := n) (by omega)
    have hz := sz_nat hR hn
    refine lv_aload_n (pc := 12) hx hb dX8_element_12 rfl (lv_at hl 0 rfl) ?_
    refine z_getM (pc := 13) cx (hW.at 0 rfl) 4 rfl m_fl_X8_22 rfl dX8_element_13 ?_
    refine lv_iload_n (pc := 16) hx hb dX8_element_16 rfl (lv_at hl 1 rfl) ?_
    refine z_iald (pc := 17) (f := kp) (j := n) cx (hW.at 5 rfl) rfl (by omega) (by decide) dX8_element_17 ?_
    refine lv_iconst (pc := 18) (v := 2) hx hb dX8_element_18 (by decide) ?_
    refine lv_icmp_ne (pc := 19) (tgt := 40) hx hb dX8_element_19 (by decide) (fun c_2 => ?_) (fun c_2 => ?_)
    · skip
      refine lv_iconst (pc := 40) (v := 2) hx hb dX8_element_40 (by decide) ?_
      refine lv_goto (pc := 41) (tgt := 45) hx hb dX8_element_41 (by decide) ?_
      refine z_putMi (pc := 45) cx hW hS 0 rfl (mF_in a 0) 11 rfl m_fl_X8_49 rfl rfl dX8_element_45 (fun H locs hW hS => ?_)
      have hW : WW E (wM a (E.2.1 0) sv im rd wa kp so sz el pr ts nu bu ht (bI ig) 2 po ba en td (bI ij)) gN H := hW
      refine lv_aload_n (pc := 48) hx hb dX8_element_48 rfl (lv_at hl 0 rfl) ?_
      refine z_getM (pc := 49) cx (hW.at 0 rfl) 11 rfl m_fl_X8_49 rfl dX8_element_49 ?_
      refine lv_if_ne (pc := 52) (tgt := 70) hx hb dX8_element_52 (by decide) (fun _ => ?_) (fun c => absurd c (by decide))
      refine lv_lconst (pc := 70) (v := 0) hx hb dX8_element_70 rfl ?_
      exact z_wlret cx hr hlk dX8_element_71 hS ⟨(sL (by first | rfl | (simp [elmV, elmT, c_1, hN, c_2]; done))), (by rw [show (elmT kp sz (nI n) x) = 2 from (by first | rfl | (simp [elmT, c_1, hN, c_2]; done))]; exact hW)⟩
    · skip
      refine lv_iload_n (pc := 22) hx hb dX8_element_22 rfl (lv_at hl 2 rfl) ?_
      refine lv_i2l (pc := 23) (v := Int32.toInt64 x) hx hb dX8_element_23 rfl ?_
      refine lv_lconst (pc := 24) (v := 0) hx hb dX8_element_24 rfl ?_
      refine lv_aload_n (pc := 25) hx hb dX8_element_25 rfl (lv_at hl 0 rfl) ?_
      refine z_getM (pc := 26) cx (hW.at 0 rfl) 6 rfl m_fl_X8_28 rfl dX8_element_26 ?_
      refine lv_iload_n (pc := 29) hx hb dX8_element_29 rfl (lv_at hl 1 rfl) ?_
      refine z_iald (pc := 30) (f := sz) (j := n) cx (hW.at 7 rfl) rfl (by omega) (by decide) dX8_element_30 ?_
      refine lv_iconst (pc := 31) (v := 1) hx hb dX8_element_31 (by decide) ?_
      refine lv_isub (pc := 32) hx hb dX8_element_32 ?_
      refine lv_i2l (pc := 33) (v := Int32.toInt64 ((sz n) - 1)) hx hb dX8_element_33 rfl ?_
      refine k_X8_isIn (pc := 34) (x := x) (y := 0) (z := ((sz n) - 1)) cx  m_ml_X8_53 ⟨Nat.le_of_ble_eq_true rfl, Nat.le_of_ble_eq_true rfl⟩ hl.1 rfl (by simp [Value.category]) dX8_element_34 ⟨Nat.le_refl _, Nat.le_refl _⟩ ?_
      refine z_ifne (pc := 37) (tgt := 44) hx hb dX8_element_37 (by decide) (fun c_4 => ?_) (fun c_4 => ?_)
      · skip
        obtain ⟨k, hk, rfl⟩ := in_sz hz.1 hz.2 c_4
        have hK := iN_nI (n := k) (by omega)
        refine lv_iconst (pc := 44) (v := 0) hx hb dX8_element_44 (by decide) ?_
        refine z_putMi (pc := 45) cx hW hS 0 rfl (mF_in a 0) 11 rfl m_fl_X8_49 rfl rfl dX8_element_45 (fun H locs hW hS => ?_)
        have hW : WW E (wM a (E.2.1 0) sv im rd wa kp so sz el pr ts nu bu ht (bI ig) 0 po ba en td (bI ij)) gN H := hW
        refine lv_aload_n (pc := 48) hx hb dX8_element_48 rfl (lv_at hl 0 rfl) ?_
        refine z_getM (pc := 49) cx (hW.at 0 rfl) 11 rfl m_fl_X8_49 rfl dX8_element_49 ?_
        refine lv_if_ne (pc := 52) (tgt := 70) hx hb dX8_element_52 (by decide) (fun c => (c (by decide)).elim) (fun _ => ?_)
        refine lv_aload_n (pc := 55) hx hb dX8_element_55 rfl (lv_at hl 0 rfl) ?_
        refine z_getM (pc := 56) cx (hW.at 0 rfl) 7 rfl m_fl_X8_31 rfl dX8_element_56 ?_
        refine lv_bipush (pc := 59) (v := 100) hx hb dX8_element_59 (by decide) ?_
        refine lv_iload_n (pc := 61) hx hb dX8_element_61 rfl (lv_at hl 1 rfl) ?_
        refine lv_imul (pc := 62) hx hb dX8_element_62 ?_
        refine lv_iload_n (pc := 63) hx hb dX8_element_63 rfl (lv_at hl 2 rfl) ?_
        refine lv_iadd (pc := 64) hx hb dX8_element_64 ?_
        refine z_iald (pc := 65) (f := el) (j := 100 * n + k) cx (hW.at 8 rfl) (ixe n k) (by omega) (by decide) dX8_element_65 ?_
        refine lv_i2l (pc := 66) (v := Int32.toInt64 (el (100 * n + k))) hx hb dX8_element_66 rfl ?_
        refine lv_goto (pc := 67) (tgt := 71) hx hb dX8_element_67 (by decide) ?_
        exact z_wlret cx hr hlk dX8_element_71 hS ⟨(sL (by first | rfl | (simp [elmV, elmT, c_1, hN, c_2, c_4, hK]; done))), (by rw [show (elmT kp sz (nI n) (nI k)) = 0 from (by first | rfl | (simp [elmT, c_1, hN, c_2, c_4, hK]; done))]; exact hW)⟩
      · skip
        refine lv_iconst (pc := 40) (v := 2) hx hb dX8_element_40 (by decide) ?_
        refine lv_goto (pc := 41) (tgt := 45) hx hb dX8_element_41 (by decide) ?_
        refine z_putMi (pc := 45) cx hW hS 0 rfl (mF_in a 0) 11 rfl m_fl_X8_49 rfl rfl dX8_element_45 (fun H locs hW hS => ?_)
        have hW : WW E (wM a (E.2.1 0) sv im rd wa kp so sz el pr ts nu bu ht (bI ig) 2 po ba en td (bI ij)) gN H := hW
        refine lv_aload_n (pc := 48) hx hb dX8_element_48 rfl (lv_at hl 0 rfl) ?_
        refine z_getM (pc := 49) cx (hW.at 0 rfl) 11 rfl m_fl_X8_49 rfl dX8_element_49 ?_
        refine lv_if_ne (pc := 52) (tgt := 70) hx hb dX8_element_52 (by decide) (fun _ => ?_) (fun c => absurd c (by decide))
        refine lv_lconst (pc := 70) (v := 0) hx hb dX8_element_70 rfl ?_
        exact z_wlret cx hr hlk dX8_element_71 hS ⟨(sL (by first | rfl | (simp [elmV, elmT, c_1, hN, c_2, c_4]; done))), (by rw [show (elmT kp sz (nI n) x) = 2 from (by first | rfl | (simp [elmT, c_1, hN, c_2, c_4]; done))]; exact hW)⟩
  · skip
    refine lv_iconst (pc := 8) (v := 1) hx hb dX8_element_8 (by decide) ?_
    refine lv_goto (pc := 9) (tgt := 45) hx hb dX8_element_9 (by decide) ?_
    refine z_putMi (pc := 45) cx hW hS 0 rfl (mF_in a 0) 11 rfl m_fl_X8_49 rfl rfl dX8_element_45 (fun H locs hW hS => ?_)
    have hW : WW E (wM a (E.2.1 0) sv im rd wa kp so sz el pr ts nu bu ht (bI ig) 1 po ba en td (bI ij)) gN H := hW
    refine lv_aload_n (pc := 48) hx hb dX8_element_48 rfl (lv_at hl 0 rfl) ?_
    refine z_getM (pc := 49) cx (hW.at 0 rfl) 11 rfl m_fl_X8_49 rfl dX8_element_49 ?_
    refine lv_if_ne (pc := 52) (tgt := 70) hx hb dX8_element_52 (by decide) (fun _ => ?_) (fun c => absurd c (by decide))
    refine lv_lconst (pc := 70) (v := 0) hx hb dX8_element_70 rfl ?_
    exact z_wlret cx hr hlk dX8_element_71 hS ⟨(sL (by first | rfl | (simp [elmV, elmT, c_1]; done))), (by rw [show (elmT kp sz d x) = 1 from (by first | rfl | (simp [elmT, c_1]; done))]; exact hW)⟩
theorem k_X8_element {p : Program} {l : Launch} {e : Env} {R : Room} {s : State} {m : MethodId} {args : Array Value} {below : List Frame} {meth : Method} {c : Code} {H H0 : Heap} {locs : List Loc} {cells slots : Nat} {Q : State → Prop} {cc : ByteArray} {pc index : Nat} {ls : Array Slot} {rest st0 : List Value} {E : zE} {own : String} {nL : Nat} {F : Nat → Prop} {a : Nat → Nat} {sv im rd wa kp so sz el pr ts nu bu ht : Nat → Int32} {th po ba en td : Int32} {ig : Bool} {ij : Bool} {d x : Int32} (cx : Cx E p s args m c own cc nL) (hW : WW E (wM a (E.2.1 0) sv im rd wa kp so sz el pr ts nu bu ht (bI ig) th po ba en td (bI ij)) gN H) (hS : va_S F H0 H locs) (zF : ∀ q, (mF a) q → F q) (hR : InvR kp so sz) (zl : Cond.methodLink own index yX8_element ∈ AllW) (zR : 2 + 1 ≤ R.frames ∧ 8 + (3 + 11) + 45 ≤ R.locals) (zs : ls.size = nL) (zt : st0 = ([.int d, .int x] : List Value).reverse ++ .ref (a 0) :: rest) (z8 : (rest.map fun v => v.category).sum ≤ 8) (zd : decode cc pc = .ok (.invokevirtual index, 3)) (zf : cells ≤ R.cells ∧ slots ≤ R.slots) (kk0 : ∀  (H1 : Heap) (locs1 : List Loc), WW E (wM a (E.2.1 0) sv im rd wa kp so sz el pr ts nu bu ht (bI ig) (elmT kp sz d x) po ba en td (bI ij)) gN H1 → va_S F H0 H1 locs1 → W p l e R s m args below meth c H1 locs1 cells slots Q (F0 m (pc + 3) ls (.long (elmV kp sz el d x) :: rest))) : W p l e R s m args below meth c H locs cells slots Q (F0 m pc ls st0) := by
  refine z_callVw cx vm_X8_element (c_X8_element l E a sv im rd wa kp so sz el pr ts nu bu ht th po ba en td ig ij d x hR) (z_rec cx.2 (hW.at 0 rfl) rfl) hW hS zF zl ⟨rfl, rfl⟩ zR rfl zs zt z8 zd zf (fun v H1 locs1 hq hS1 _ => ?_)
  rcases hq with ⟨rfl, hW1⟩
  · exact kk0  H1 locs1  hW1 hS1
theorem vm_X8_hair : zVm yX8_hair cX8_hair 7 (some FieldType.int) 4 := ⟨m_co_X8_hair, m_in_RX8, ⟨m_im_X8_hair, m_se_X8_X8_hair⟩, by decide +kernel, by decide +kernel, by decide +kernel⟩
set_option maxHeartbeats 4000000 in
set_option maxRecDepth 100000 in
theorem c_X8_hair (l : Launch) (E : zE) (a : Nat → Nat) (sv im rd wa kp so sz el pr ts nu bu ht : Nat → Int32) (th po ba en td : Int32) (ig : Bool) (ij : Bool) (x f st x2 : Int32) (hI : Inv sv) : Met l yX8_hair (.code yX8_hair cX8_hair 7 (some FieldType.int) :: AllW) (rm0' 16 474) (zP E (fun H => WW E (wM a (E.2.1 0) sv im rd wa kp so sz el pr ts nu bu ht (bI ig) th po ba en td (bI ij)) gN H) [.ref (a 0), .int x, .int f, .int st, .int x2]) (zQ (fun (_ : Heap) (v : Option Value) (H1 : Heap) => (v = some (.int (hairP sv x f st x2)) ∧ WW E (wM a (E.2.1 0) sv im rd wa kp so sz el pr ts nu bu ht (bI ig) th po ba en td (bI ij)) gN H1)) (mF a)) 0 0 (mF a) := by
  refine z_body (own := RX8) (by decide) rfl rfl ?_
  intro p e s m args below meth c ls cx hr hlk hnm hW hl
  have hx := cx.x
  have hb := cx.b
  have hl : lv_has ls 7 [(0, .ref (a 0)), (1, .int x), (2, .int f), (3, .int st), (4, .int x2)] := hl
  have hS : va_S (mF a) s.heap s.heap [] := va_S.rf
  have hC := hI.1
  have hP10 := (Inv.n0 hC).2
  have hT7 := (Inv.n1 hC).2
  have hA24 := (Inv.n2 hC).2
  refine lv_aload_n (pc := 0) hx hb dX8_hair_0 rfl (lv_at hl 0 rfl) ?_
  refine lv_iload_n (pc := 1) hx hb dX8_hair_1 rfl (lv_at hl 1 rfl) ?_
  refine k_X8_isPiece (pc := 2) (x := x) cx hW  m_ml_X8_130 ⟨Nat.le_of_ble_eq_true rfl, Nat.le_of_ble_eq_true rfl⟩ hl.1 rfl (by simp [Value.category]) dX8_hair_2 ⟨Nat.le_refl _, Nat.le_refl _⟩ ?_
  refine z_ifeq (pc := 5) (tgt := 37) hx hb dX8_hair_5 (by decide) (fun c_1 => ?_) (fun c_1 => ?_)
  · skip
    refine lv_ldc (pc := 37) (v := (-1000000001)) hx hb cx.own (cx.ts _ m_ko_X8_156) dX8_hair_37 ?_
    exact z_wiret cx hr hlk dX8_hair_39 hS ⟨(sI (by first | rfl | (simp [hairP, hairV, c_1]; done))), hW⟩
  · skip
    obtain ⟨n, hn, rfl⟩ := pc_nat hC c_1
    have hN := iN_nI (n := n) (by omega)
    refine lv_iload_n (pc := 8) hx hb dX8_hair_8 rfl (lv_at hl 2 rfl) ?_
    refine k_X8_isTone (pc := 9) (x := f) cx  m_ml_X8_177 ⟨Nat.le_of_ble_eq_true rfl, Nat.le_of_ble_eq_true rfl⟩ hl.1 rfl (by simp [Value.category]) dX8_hair_9 ⟨Nat.le_refl _, Nat.le_refl _⟩ ?_
    refine z_ifeq (pc := 12) (tgt := 37) hx hb dX8_hair_12 (by decide) (fun c_2 => ?_) (fun c_2 => ?_)
    · skip
      refine lv_ldc (pc := 37) (v := (-1000000001)) hx hb cx.own (cx.ts _ m_ko_X8_156) dX8_hair_37 ?_
      exact z_wiret cx hr hlk dX8_hair_39 hS ⟨(sI (by first | rfl | (simp [hairP, hairV, c_1, hN, c_2]; done))), hW⟩
    · skip
      have hf := tone_rg c_2
      refine lv_iload_n (pc := 15) hx hb dX8_hair_15 rfl (lv_at hl 3 rfl) ?_
      refine k_X8_isStrong (pc := 16) (x := st) cx  m_ml_X8_180 ⟨Nat.le_of_ble_eq_true rfl, Nat.le_of_ble_eq_true rfl⟩ hl.1 rfl (by simp [Value.category]) dX8_hair_16 ⟨Nat.le_refl _, Nat.le_refl _⟩ ?_
      refine z_ifeq (pc := 19) (tgt := 37) hx hb dX8_hair_19 (by decide) (fun c_3 => ?_) (fun c_3 => ?_)
      · skip
        refine lv_ldc (pc := 37) (v := (-1000000001)) hx hb cx.own (cx.ts _ m_ko_X8_156) dX8_hair_37 ?_
        exact z_wiret cx hr hlk dX8_hair_39 hS ⟨(sI (by first | rfl | (simp [hairP, hairV, c_1, hN, c_2, c_3]; done))), hW⟩
      · skip
        refine lv_iload (pc := 22) hx hb dX8_hair_22 (lv_at hl 4 rfl) ?_
        refine lv_i2l (pc := 24) (v := Int32.toInt64 x2) hx hb dX8_hair_24 rfl ?_
        refine lv_ldc2 (pc := 25) (v := (-18)) hx hb cx.own (cx.ts _ m_kl_X8_251) dX8_hair_25 ?_
        refine lv_ldc2 (pc := 28) (v := 18) hx hb cx.own (cx.ts _ m_kl_X8_253) dX8_hair_28 ?_
        refine k_X8_isIn (pc := 31) (x := x2) (y := (-18)) (z := 18) cx  m_ml_X8_53 ⟨Nat.le_of_ble_eq_true rfl, Nat.le_of_ble_eq_true rfl⟩ hl.1 rfl (by simp [Value.category]) dX8_hair_31 ⟨Nat.le_refl _, Nat.le_refl _⟩ ?_
        refine z_ifne (pc := 34) (tgt := 40) hx hb dX8_hair_34 (by decide) (fun c_4 => ?_) (fun c_4 => ?_)
        · skip
          refine lv_aload_n (pc := 40) hx hb dX8_hair_40 rfl (lv_at hl 0 rfl) ?_
          refine z_getM (pc := 41) cx (hW.at 0 rfl) 0 rfl m_fl_X8_9 rfl dX8_hair_41 ?_
          refine lv_bipush (pc := 44) (v := 7) hx hb dX8_hair_44 (by decide) ?_
          refine z_iald (pc := 46) (f := sv) (j := 7) cx (hW.at 1 rfl) rfl (by decide) (by decide) dX8_hair_46 ?_
          refine lv_iload (pc := 47) hx hb dX8_hair_47 (lv_at hl 4 rfl) ?_
          refine lv_iadd (pc := 49) hx hb dX8_hair_49 ?_
          refine lv_i2l (pc := 50) (v := Int32.toInt64 ((sv 7) + x2)) hx hb dX8_hair_50 rfl ?_
          refine lv_ldc2 (pc := 51) (v := (-9)) hx hb cx.own (cx.ts _ m_kl_X8_159) dX8_hair_51 ?_
          refine lv_ldc2 (pc := 54) (v := 9) hx hb cx.own (cx.ts _ m_kl_X8_161) dX8_hair_54 ?_
          refine k_X8_isIn (pc := 57) (x := ((sv 7) + x2)) (y := (-9)) (z := 9) cx  m_ml_X8_53 ⟨Nat.le_of_ble_eq_true rfl, Nat.le_of_ble_eq_true rfl⟩ hl.1 rfl (by simp [Value.category]) dX8_hair_57 ⟨Nat.le_refl _, Nat.le_refl _⟩ ?_
          refine z_ifne (pc := 60) (tgt := 66) hx hb dX8_hair_60 (by decide) (fun c_5 => ?_) (fun c_5 => ?_)
          · skip
            have hpo : rg (sv 7 + x2) (-9) 9 := inL_rg c_5
            refine lv_aload_n (pc := 66) hx hb dX8_hair_66 rfl (lv_at hl 0 rfl) ?_
            refine lv_iload_n (pc := 67) hx hb dX8_hair_67 rfl (lv_at hl 1 rfl) ?_
            refine lv_iload_n (pc := 68) hx hb dX8_hair_68 rfl (lv_at hl 2 rfl) ?_
            refine lv_iload_n (pc := 69) hx hb dX8_hair_69 rfl (lv_at hl 3 rfl) ?_
            refine k_X8_swingOf (pc := 70) (n := n) (f := f) (st := st) cx hW hI (rg_w hf (by decide) (by decide)) hn m_ml_X8_174 ⟨Nat.le_of_ble_eq_true rfl, Nat.le_of_ble_eq_true rfl⟩ hl.1 rfl (by simp [Value.category]) dX8_hair_70 ⟨Nat.le_refl _, Nat.le_refl _⟩ ?_
            refine lv_istore (pc := 73) (lv' := [(5, .int (sw sv n f st)), (0, .ref (a 0)), (1, .int (nI n)), (2, .int f), (3, .int st), (4, .int x2)]) hx hb dX8_hair_73 hl (by decide) rfl (fun ls hl => ?_)
            refine lv_aload_n (pc := 75) hx hb dX8_hair_75 rfl (lv_at hl 1 rfl) ?_
            refine z_getM (pc := 76) cx (hW.at 0 rfl) 0 rfl m_fl_X8_9 rfl dX8_hair_76 ?_
            refine lv_bipush (pc := 79) (v := 7) hx hb dX8_hair_79 (by decide) ?_
            refine lv_dup2_11 (pc := 81) hx hb dX8_hair_81 rfl rfl ?_
            refine z_iald (pc := 82) (f := sv) (j := 7) cx (hW.at 1 rfl) rfl (by decide) (by decide) dX8_hair_82 ?_
            refine lv_iload (pc := 83) hx hb dX8_hair_83 (lv_at hl 5 rfl) ?_
            refine lv_iadd (pc := 85) hx hb dX8_hair_85 ?_
            refine z_iast (pc := 86) (f := sv) (j := 7) cx hW hS 1 rfl (mF_in a 1) rfl (by decide) (by decide) dX8_hair_86 (fun H locs hW hS => ?_)
            have hW : WW E (wM a (E.2.1 0) (upd sv 7 ((sv 7) + x2)) im rd wa kp so sz el pr ts nu bu ht (bI ig) th po ba en td (bI ij)) gN H := hW
            refine lv_aload_n (pc := 87) hx hb dX8_hair_87 rfl (lv_at hl 1 rfl) ?_
            refine lv_iload_n (pc := 88) hx hb dX8_hair_88 rfl (lv_at hl 2 rfl) ?_
            refine lv_iload_n (pc := 89) hx hb dX8_hair_89 rfl (lv_at hl 3 rfl) ?_
            refine lv_iload_n (pc := 90) hx hb dX8_hair_90 rfl (lv_at hl 4 rfl) ?_
            refine k_X8_swingOf (pc := 91) (n := n) (f := f) (st := st) cx hW (Inv_post hI hpo) (rg_w hf (by decide) (by decide)) (by unfold nP at hn ⊢; rw [upd_ne _ _ (by decide)]; exact hn) m_ml_X8_174 ⟨Nat.le_of_ble_eq_true rfl, Nat.le_of_ble_eq_true rfl⟩ hl.1 rfl (by simp [Value.category]) dX8_hair_91 ⟨Nat.le_refl _, Nat.le_refl _⟩ ?_
            refine lv_istore (pc := 94) (lv' := [(6, .int (sw (upd sv 7 ((sv 7) + x2)) n f st)), (5, .int (sw sv n f st)), (0, .ref (a 0)), (1, .int (nI n)), (2, .int f), (3, .int st), (4, .int x2)]) hx hb dX8_hair_94 hl (by decide) rfl (fun ls hl => ?_)
            refine lv_aload_n (pc := 96) hx hb dX8_hair_96 rfl (lv_at hl 2 rfl) ?_
            refine z_getM (pc := 97) cx (hW.at 0 rfl) 0 rfl m_fl_X8_9 rfl dX8_hair_97 ?_
            refine lv_bipush (pc := 100) (v := 7) hx hb dX8_hair_100 (by decide) ?_
            refine lv_dup2_11 (pc := 102) hx hb dX8_hair_102 rfl rfl ?_
            refine z_iald (pc := 103) (f := upd sv 7 ((sv 7) + x2)) (j := 7) cx (hW.at 1 rfl) rfl (by decide) (by decide) dX8_hair_103 ?_
            refine lv_iload (pc := 104) hx hb dX8_hair_104 (lv_at hl 6 rfl) ?_
            refine lv_isub (pc := 106) hx hb dX8_hair_106 ?_
            refine z_tope (y := sv 7) (by rw [upd_self, Int32.add_sub_cancel]) ?_
            refine z_iast (pc := 107) (f := upd sv 7 ((sv 7) + x2)) (j := 7) cx hW hS 1 rfl (mF_in a 1) rfl (by decide) (by decide) dX8_hair_107 (fun H locs hW hS => ?_)
            have hW : WW E (wM a (E.2.1 0) (upd (upd sv 7 ((sv 7) + x2)) 7 (sv 7)) im rd wa kp so sz el pr ts nu bu ht (bI ig) th po ba en td (bI ij)) gN H := hW
            have e7 : upd (upd sv 7 (sv 7 + x2)) 7 (sv 7) = sv := upd_back sv 7 _
            rw [e7] at hW
            have hW : WW E (wM a (E.2.1 0) sv im rd wa kp so sz el pr ts nu bu ht (bI ig) th po ba en td (bI ij)) gN H := hW
            refine lv_iload (pc := 108) hx hb dX8_hair_108 (lv_at hl 0 rfl) ?_
            refine lv_iload (pc := 110) hx hb dX8_hair_110 (lv_at hl 1 rfl) ?_
            refine lv_isub (pc := 112) hx hb dX8_hair_112 ?_
            exact z_wiret cx hr hlk dX8_hair_113 hS ⟨(sI (by first | rfl | (simp [hairP, hairV, c_1, hN, c_2, c_3, c_4, c_5]; done))), hW⟩
          · skip
            refine lv_ldc (pc := 63) (v := (-1000000003)) hx hb cx.own (cx.ts _ m_ko_X8_255) dX8_hair_63 ?_
            exact z_wiret cx hr hlk dX8_hair_65 hS ⟨(sI (by first | rfl | (simp [hairP, hairV, c_1, hN, c_2, c_3, c_4, c_5]; done))), hW⟩
        · skip
          refine lv_ldc (pc := 37) (v := (-1000000001)) hx hb cx.own (cx.ts _ m_ko_X8_156) dX8_hair_37 ?_
          exact z_wiret cx hr hlk dX8_hair_39 hS ⟨(sI (by first | rfl | (simp [hairP, hairV, c_1, hN, c_2, c_3, c_4]; done))), hW⟩
theorem k_X8_hair {p : Program} {l : Launch} {e : Env} {R : Room} {s : State} {m : MethodId} {args : Array Value} {below : List Frame} {meth : Method} {c : Code} {H H0 : Heap} {locs : List Loc} {cells slots : Nat} {Q : State → Prop} {cc : ByteArray} {pc index : Nat} {ls : Array Slot} {rest st0 : List Value} {E : zE} {own : String} {nL : Nat} {F : Nat → Prop} {a : Nat → Nat} {sv im rd wa kp so sz el pr ts nu bu ht : Nat → Int32} {th po ba en td : Int32} {ig : Bool} {ij : Bool} {x f st x2 : Int32} (cx : Cx E p s args m c own cc nL) (hW : WW E (wM a (E.2.1 0) sv im rd wa kp so sz el pr ts nu bu ht (bI ig) th po ba en td (bI ij)) gN H) (hS : va_S F H0 H locs) (zF : ∀ q, (mF a) q → F q) (hI : Inv sv) (zl : Cond.methodLink own index yX8_hair ∈ AllW) (zR : 16 + 1 ≤ R.frames ∧ 8 + (7 + 11) + 474 ≤ R.locals) (zs : ls.size = nL) (zt : st0 = ([.int x, .int f, .int st, .int x2] : List Value).reverse ++ .ref (a 0) :: rest) (z8 : (rest.map fun v => v.category).sum ≤ 8) (zd : decode cc pc = .ok (.invokevirtual index, 3)) (zf : cells ≤ R.cells ∧ slots ≤ R.slots) (kk0 : ∀  (H1 : Heap) (locs1 : List Loc), WW E (wM a (E.2.1 0) sv im rd wa kp so sz el pr ts nu bu ht (bI ig) th po ba en td (bI ij)) gN H1 → va_S F H0 H1 locs1 → W p l e R s m args below meth c H1 locs1 cells slots Q (F0 m (pc + 3) ls (.int (hairP sv x f st x2) :: rest))) : W p l e R s m args below meth c H locs cells slots Q (F0 m pc ls st0) := by
  refine z_callVw cx vm_X8_hair (c_X8_hair l E a sv im rd wa kp so sz el pr ts nu bu ht th po ba en td ig ij x f st x2 hI) (z_rec cx.2 (hW.at 0 rfl) rfl) hW hS zF zl ⟨rfl, rfl⟩ zR rfl zs zt z8 zd zf (fun v H1 locs1 hq hS1 _ => ?_)
  rcases hq with ⟨rfl, hW1⟩
  · exact kk0  H1 locs1  hW1 hS1
