theorem rw_nat {z : Nat} (hz : z ≤ 100) {i : Int32} (h : inL i 0 (nI z - 1) = true) : ∃ n, n < z ∧ i = nI n := by
  rw [isR_C hz] at h
  simp only [Bool.and_eq_true, decide_eq_true_eq] at h
  obtain ⟨k, hk, rfl⟩ := le_nat (B := z) (b := nI z) (Int32.not_lt.mp h.1) (Int32.le_of_lt (Int32.not_le.mp h.2)) (nI_toInt (by omega))
  exact ⟨k, lt_nat (a := k) (b := z) rfl rfl (by omega) (by omega) h.2, rfl⟩
theorem hf_k {a d k k2 z z2 : Nat} (h1 : a + k ≤ z) (h2 : d + k2 ≤ z2) (hz : z ≤ 100) (hz2 : z2 ≤ 100) (h : nI k = nI k2) : k2 = k := ((nI_eq (by omega) (by omega)).mp h).symm
theorem vm_X4_lowestBits : zVm yX4_lowestBits cX4_lowestBits 2 (some FieldType.int) 1 := ⟨m_co_X4_lowestBits, m_in_RX4, ⟨m_im_X4_lowestBits, m_se_X4_X4_lowestBits⟩, by decide +kernel, by decide +kernel, by decide +kernel⟩
set_option maxHeartbeats 1000000 in
set_option maxRecDepth 100000 in
theorem c_X4_lowestBits (l : Launch) (E : zE) (q w : Nat) (v0 : Int32) (v : Int32)  : Met l yX4_lowestBits (.code yX4_lowestBits cX4_lowestBits 2 (some FieldType.int) :: AllW) (rm0' 0 0) (zP E (fun H => va_at E.1 vwCl (q, ceW v0 w) H) [.ref q, .int v]) (rQ (.int (narV v0 v))) 0 0 nF := by
  refine z_body (own := RX4) (by decide) rfl rfl ?_
  intro p e s m args below meth c ls cx hr hlk hnm hW hl
  have hx := cx.x
  have hb := cx.b
  have hl : lv_has ls 2 [(0, .ref q), (1, .int v)] := hl
  refine lv_aload_n (pc := 0) hx hb dX4_lowestBits_0 rfl (lv_at hl 0 rfl) ?_
  refine z_get (pc := 1) cx hW (C := RX4) (T := TX4) (N := 2) rfl i_X4 0 rfl m_fl_X4_7 rfl dX4_lowestBits_1 ?_
  by_cases c_1 : v0 = 0
  · subst c_1
    refine lv_lookup (pc := 4) (tgt := 32) (off := 28) hx hb dX4_lowestBits_4 (by decide) (by decide) (by decide) ?_
    refine lv_iload_n (pc := 32) hx hb dX4_lowestBits_32 rfl (lv_at hl 1 rfl) ?_
    refine lv_i2b (pc := 33) (v := (v).toInt8.toInt32) hx hb dX4_lowestBits_33 rfl ?_
    exact z_iret cx hr hlk dX4_lowestBits_34 (by first | rfl | (simp [narV]; done))
  by_cases c_2 : v0 = 1
  · subst c_2
    refine lv_lookup (pc := 4) (tgt := 35) (off := 31) hx hb dX4_lowestBits_4 (by decide) (by decide) (by decide) ?_
    refine lv_iload_n (pc := 35) hx hb dX4_lowestBits_35 rfl (lv_at hl 1 rfl) ?_
    refine lv_i2s (pc := 36) (v := (v).toInt16.toInt32) hx hb dX4_lowestBits_36 rfl ?_
    exact z_iret cx hr hlk dX4_lowestBits_37 (by first | rfl | (simp [narV, c_1]; done))
  refine lv_lookup (pc := 4) (tgt := 38) (off := 34) hx hb dX4_lowestBits_4 (by decide) ((lv_osw c_1 (by decide)).trans ((lv_osw c_2 (by decide)).trans (rfl))) (by decide) ?_
  refine lv_iload_n (pc := 38) hx hb dX4_lowestBits_38 rfl (lv_at hl 1 rfl) ?_
  exact z_iret cx hr hlk dX4_lowestBits_39 (by first | rfl | (simp [narV, c_1, c_2]; done))
theorem k_X4_lowestBits {p : Program} {l : Launch} {e : Env} {R : Room} {s : State} {m : MethodId} {args : Array Value} {below : List Frame} {meth : Method} {c : Code} {H : Heap} {locs : List Loc} {cells slots : Nat} {Q : State → Prop} {cc : ByteArray} {pc index : Nat} {ls : Array Slot} {rest st0 : List Value} {E : zE} {own : String} {nL : Nat} {q w : Nat} {v0 : Int32} {v : Int32} (cx : Cx E p s args m c own cc nL) (hW : va_at E.1 vwCl (q, ceW v0 w) H)  (zl : Cond.methodLink own index yX4_lowestBits ∈ AllW) (zR : 0 + 1 ≤ R.frames ∧ 8 + (2 + 11) + 0 ≤ R.locals) (zs : ls.size = nL) (zt : st0 = ([.int v] : List Value).reverse ++ .ref q :: rest) (z8 : (rest.map fun v => v.category).sum ≤ 8) (zd : decode cc pc = .ok (.invokevirtual index, 3)) (zf : cells ≤ R.cells ∧ slots ≤ R.slots) (kk : W p l e R s m args below meth c H locs cells slots Q (F0 m (pc + 3) ls (.int (narV v0 v) :: rest))) : W p l e R s m args below meth c H locs cells slots Q (F0 m pc ls st0) :=
  z_callV cx vm_X4_lowestBits (c_X4_lowestBits l E q w v0 v) (z_rec cx.2 hW rfl) hW zl ⟨rfl, rfl⟩ zR rfl zs zt z8 zd zf kk
theorem vm_X4_hasFrom : zVm yX4_hasFrom cX4_hasFrom 3 (some FieldType.boolean) 2 := ⟨m_co_X4_hasFrom, m_in_RX4, ⟨m_im_X4_hasFrom, m_se_X4_X4_hasFrom⟩, by decide +kernel, by decide +kernel, by decide +kernel⟩
set_option maxHeartbeats 1000000 in
set_option maxRecDepth 100000 in
theorem c_X4_hasFrom (l : Launch) (E : zE) (q w z : Nat) (v0 : Int32) (x : Nat → Int32) (i n : Int32)  : Met l yX4_hasFrom (.code yX4_hasFrom cX4_hasFrom 3 (some FieldType.boolean) :: AllW) (rm0' 0 0) (zP E (fun H => va_at E.1 vwCl (q, ceW v0 w) H ∧ va_at E.1 vwCl (w, ceI E.2.1 z x) H) [.ref q, .int i, .int n]) (rQ (.int (bI (hfB z i n)))) 0 0 nF := by
  refine z_body (own := RX4) (by decide) rfl rfl ?_
  intro p e s m args below meth c ls cx hr hlk hnm hW hl
  have hx := cx.x
  have hb := cx.b
  have hl : lv_has ls 3 [(0, .ref q), (1, .int i), (2, .int n)] := hl
  refine lv_iload_n (pc := 0) hx hb dX4_hasFrom_0 rfl (lv_at hl 1 rfl) ?_
  refine lv_if_lt (pc := 1) (tgt := 32) hx hb dX4_hasFrom_1 (by decide) (fun c_1 => ?_) (fun c_1 => ?_)
  · skip
    refine lv_iconst (pc := 32) (v := 0) hx hb dX4_hasFrom_32 (by decide) ?_
    exact z_zret cx hr hlk dX4_hasFrom_33 (by first | rfl | (simp [hfB, bI, c_1, i_nle.mpr c_1]; done))
  · skip
    refine lv_iload_n (pc := 4) hx hb dX4_hasFrom_4 rfl (lv_at hl 2 rfl) ?_
    refine lv_if_lt (pc := 5) (tgt := 32) hx hb dX4_hasFrom_5 (by decide) (fun c_2 => ?_) (fun c_2 => ?_)
    · skip
      refine lv_iconst (pc := 32) (v := 0) hx hb dX4_hasFrom_32 (by decide) ?_
      exact z_zret cx hr hlk dX4_hasFrom_33 (by first | rfl | (simp [hfB, bI, c_1, c_2, i_nlt.mp c_1, i_nle.mpr c_2]; done))
    · skip
      refine lv_iload_n (pc := 8) hx hb dX4_hasFrom_8 rfl (lv_at hl 1 rfl) ?_
      refine lv_aload_n (pc := 9) hx hb dX4_hasFrom_9 rfl (lv_at hl 0 rfl) ?_
      refine z_get (pc := 10) cx hW.1 (C := RX4) (T := TX4) (N := 2) rfl i_X4 1 rfl m_fl_X4_13 rfl dX4_hasFrom_10 ?_
      refine z_alen (pc := 13) cx 0 hW.2 rfl rfl dX4_hasFrom_13 ?_
      refine lv_icmp_gt (pc := 14) (tgt := 32) hx hb dX4_hasFrom_14 (by decide) (fun c_3 => ?_) (fun c_3 => ?_)
      · skip
        refine lv_iconst (pc := 32) (v := 0) hx hb dX4_hasFrom_32 (by decide) ?_
        exact z_zret cx hr hlk dX4_hasFrom_33 (by first | rfl | (simp [hfB, bI, c_1, c_2, c_3, i_nlt.mp c_1, i_nlt.mp c_2, i_nle.mpr c_3]; done))
      · skip
        refine lv_iload_n (pc := 17) hx hb dX4_hasFrom_17 rfl (lv_at hl 2 rfl) ?_
        refine lv_aload_n (pc := 18) hx hb dX4_hasFrom_18 rfl (lv_at hl 0 rfl) ?_
        refine z_get (pc := 19) cx hW.1 (C := RX4) (T := TX4) (N := 2) rfl i_X4 1 rfl m_fl_X4_13 rfl dX4_hasFrom_19 ?_
        refine z_alen (pc := 22) cx 0 hW.2 rfl rfl dX4_hasFrom_22 ?_
        refine lv_iload_n (pc := 23) hx hb dX4_hasFrom_23 rfl (lv_at hl 1 rfl) ?_
        refine lv_isub (pc := 24) hx hb dX4_hasFrom_24 ?_
        refine lv_icmp_gt (pc := 25) (tgt := 32) hx hb dX4_hasFrom_25 (by decide) (fun c_4 => ?_) (fun c_4 => ?_)
        · skip
          refine lv_iconst (pc := 32) (v := 0) hx hb dX4_hasFrom_32 (by decide) ?_
          exact z_zret cx hr hlk dX4_hasFrom_33 (by first | rfl | (simp [hfB, bI, c_1, c_2, c_3, c_4, i_nlt.mp c_1, i_nlt.mp c_2, i_nlt.mp c_3, i_nle.mpr c_4]; done))
        · skip
          refine lv_iconst (pc := 28) (v := 1) hx hb dX4_hasFrom_28 (by decide) ?_
          refine lv_goto (pc := 29) (tgt := 33) hx hb dX4_hasFrom_29 (by decide) ?_
          exact z_zret cx hr hlk dX4_hasFrom_33 (by first | rfl | (simp [hfB, bI, c_1, c_2, c_3, c_4, i_nlt.mp c_1, i_nlt.mp c_2, i_nlt.mp c_3, i_nlt.mp c_4]; done))
theorem k_X4_hasFrom {p : Program} {l : Launch} {e : Env} {R : Room} {s : State} {m : MethodId} {args : Array Value} {below : List Frame} {meth : Method} {c : Code} {H : Heap} {locs : List Loc} {cells slots : Nat} {Q : State → Prop} {cc : ByteArray} {pc index : Nat} {ls : Array Slot} {rest st0 : List Value} {E : zE} {own : String} {nL : Nat} {q w z : Nat} {v0 : Int32} {x : Nat → Int32} {i n : Int32} (cx : Cx E p s args m c own cc nL) (hW : va_at E.1 vwCl (q, ceW v0 w) H ∧ va_at E.1 vwCl (w, ceI E.2.1 z x) H)  (zl : Cond.methodLink own index yX4_hasFrom ∈ AllW) (zR : 0 + 1 ≤ R.frames ∧ 8 + (3 + 11) + 0 ≤ R.locals) (zs : ls.size = nL) (zt : st0 = ([.int i, .int n] : List Value).reverse ++ .ref q :: rest) (z8 : (rest.map fun v => v.category).sum ≤ 8) (zd : decode cc pc = .ok (.invokevirtual index, 3)) (zf : cells ≤ R.cells ∧ slots ≤ R.slots) (kk : W p l e R s m args below meth c H locs cells slots Q (F0 m (pc + 3) ls (.int (bI (hfB z i n)) :: rest))) : W p l e R s m args below meth c H locs cells slots Q (F0 m pc ls st0) :=
  z_callV cx vm_X4_hasFrom (c_X4_hasFrom l E q w z v0 x i n) (z_rec cx.2 hW.1 rfl) hW zl ⟨rfl, rfl⟩ zR rfl zs zt z8 zd zf kk
theorem vm_X4_place : zVm yX4_place cX4_place 3 (some FieldType.boolean) 2 := ⟨m_co_X4_place, m_in_RX4, ⟨m_im_X4_place, m_se_X4_X4_place⟩, by decide +kernel, by decide +kernel, by decide +kernel⟩
set_option maxHeartbeats 1000000 in
set_option maxRecDepth 100000 in
theorem c_X4_place (l : Launch) (E : zE) (q w z : Nat) (v0 : Int32) (x : Nat → Int32) (i vv : Int32) (hz : z ≤ 100) : Met l yX4_place (.code yX4_place cX4_place 3 (some FieldType.boolean) :: AllW) (rm0' 1 21) (zP E (fun H => WW E [(q, ceW v0 w), (w, ceI E.2.1 z x)] gN H) [.ref q, .int i, .int vv]) (zQ (fun (_ : Heap) (v : Option Value) (H1 : Heap) => (v = some (.int (bI (inL i 0 (nI z - 1)))) ∧ WW E [(q, ceW v0 w), (w, ceI E.2.1 z (if inL i 0 (nI z - 1) = true then upd x (iN i) (narV v0 vv) else x))] gN H1)) (fun y => y = w)) 0 0 (fun y => y = w) := by
  refine z_body (own := RX4) (by decide) rfl rfl ?_
  intro p e s m args below meth c ls cx hr hlk hnm hW hl
  have hx := cx.x
  have hb := cx.b
  have hl : lv_has ls 3 [(0, .ref q), (1, .int i), (2, .int vv)] := hl
  have hS : va_S (fun y => y = w) s.heap s.heap [] := va_S.rf
  have hFc : ∀ i : Nat, (fun y => y = w) w := fun _ => rfl
  refine lv_aload_n (pc := 0) hx hb dX4_place_0 rfl (lv_at hl 0 rfl) ?_
  refine lv_iload_n (pc := 1) hx hb dX4_place_1 rfl (lv_at hl 1 rfl) ?_
  refine k_X4_isPlace (pc := 2) (i := i) cx ⟨hW.at 0 rfl, hW.at 1 rfl⟩ (by first | assumption | omega) m_ml_X4_17 ⟨Nat.le_of_ble_eq_true rfl, Nat.le_of_ble_eq_true rfl⟩ hl.1 rfl (by simp [Value.category]) dX4_place_2 ⟨Nat.le_refl _, Nat.le_refl _⟩ ?_
  refine z_ifne (pc := 5) (tgt := 10) hx hb dX4_place_5 (by decide) (fun c_1 => ?_) (fun c_1 => ?_)
  · skip
    obtain ⟨n, hn, rfl⟩ := rw_nat hz c_1
    have hN := iN_nI (n := n) (by omega)
    refine lv_aload_n (pc := 10) hx hb dX4_place_10 rfl (lv_at hl 0 rfl) ?_
    refine z_get (pc := 11) cx (hW.at 0 rfl) (C := RX4) (T := TX4) (N := 2) rfl i_X4 1 rfl m_fl_X4_13 rfl dX4_place_11 ?_
    refine lv_iload_n (pc := 14) hx hb dX4_place_14 rfl (lv_at hl 1 rfl) ?_
    refine lv_aload_n (pc := 15) hx hb dX4_place_15 rfl (lv_at hl 0 rfl) ?_
    refine lv_iload_n (pc := 16) hx hb dX4_place_16 rfl (lv_at hl 2 rfl) ?_
    refine k_X4_lowestBits (pc := 17) (v := vv) cx (hW.at 0 rfl)  m_ml_X4_21 ⟨Nat.le_of_ble_eq_true rfl, Nat.le_of_ble_eq_true rfl⟩ hl.1 rfl (by simp [Value.category]) dX4_place_17 ⟨Nat.le_refl _, Nat.le_refl _⟩ ?_
    refine z_iast (pc := 20) (f := x) (j := n) cx hW hS 1 rfl (hFc 1) rfl (by omega) (by omega) dX4_place_20 (fun H locs hW hS => ?_)
    have hW : WW E [(q, ceW v0 w), (w, ceI E.2.1 z (upd x n (narV v0 vv)))] gN H := hW
    refine lv_iconst (pc := 21) (v := 1) hx hb dX4_place_21 (by decide) ?_
    exact z_wzret (b := true) cx hr hlk dX4_place_22 hS ⟨(sI (by first | rfl | (simp [bI, c_1, hN]; done))), (by rw [show (if inL (nI n) 0 (nI z - 1) = true then upd x (iN (nI n)) (narV v0 vv) else x) = upd x n (narV v0 vv) from (by first | rfl | (simp [c_1, hN]; done))]; exact hW)⟩
  · skip
    refine lv_iconst (pc := 8) (v := 0) hx hb dX4_place_8 (by decide) ?_
    exact z_wzret (b := false) cx hr hlk dX4_place_9 hS ⟨(sI (by first | rfl | (simp [bI, c_1]; done))), (by rw [show (if inL i 0 (nI z - 1) = true then upd x (iN i) (narV v0 vv) else x) = x from (by first | rfl | (simp [c_1]; done))]; exact hW)⟩
theorem vm_X4_copyTo : zVm yX4_copyTo cX4_copyTo 5 (some FieldType.boolean) 4 := ⟨m_co_X4_copyTo, m_in_RX4, ⟨m_im_X4_copyTo, m_se_X4_X4_copyTo⟩, by decide +kernel, by decide +kernel, by decide +kernel⟩
set_option maxHeartbeats 1000000 in
set_option maxRecDepth 100000 in
theorem c_X4_copyTo2 (l : Launch) (E : zE) (q w q2 w2 z z2 : Nat) (v0 v1 : Int32) (x y : Nat → Int32) (i j n : Int32) (hz : z ≤ 100) (hz2 : z2 ≤ 100) : Met l yX4_copyTo (.code yX4_copyTo cX4_copyTo 5 (some FieldType.boolean) :: AllW) (rm0' 1 80) (zP E (fun H => WW E [(q, ceW v0 w), (w, ceI E.2.1 z x), (q2, ceW v1 w2), (w2, ceI E.2.1 z2 y)] gN H) [.ref q, .ref q2, .int i, .int j, .int n]) (zQ (fun (_ : Heap) (v : Option Value) (H1 : Heap) => (v = some (.int (bI (hfB z i n && hfB z2 j n))) ∧ WW E [(q, ceW v0 w), (w, ceI E.2.1 z x), (q2, ceW v1 w2), (w2, ceI E.2.1 z2 (if (hfB z i n && hfB z2 j n) = true then va_cpy x y (iN i) (iN j) (iN n) else y))] gN H1)) (fun y => y = w2)) 0 0 (fun y => y = w2) := by
  refine z_body (own := RX4) (by decide) rfl rfl ?_
  intro p e s m args below meth c ls cx hr hlk hnm hW hl
  have hx := cx.x
  have hb := cx.b
  have hl : lv_has ls 5 [(0, .ref q), (1, .ref q2), (2, .int i), (3, .int j), (4, .int n)] := hl
  have hS : va_S (fun y => y = w2) s.heap s.heap [] := va_S.rf
  have hFc : ∀ i : Nat, (fun y => y = w2) w2 := fun _ => rfl
  refine lv_aload_n (pc := 0) hx hb dX4_copyTo_0 rfl (lv_at hl 0 rfl) ?_
  refine lv_iload_n (pc := 1) hx hb dX4_copyTo_1 rfl (lv_at hl 2 rfl) ?_
  refine lv_iload (pc := 2) hx hb dX4_copyTo_2 (lv_at hl 4 rfl) ?_
  refine k_X4_hasFrom (pc := 4) (i := i) (n := n) cx ⟨hW.at 0 rfl, hW.at 1 rfl⟩  m_ml_X4_26 ⟨Nat.le_of_ble_eq_true rfl, Nat.le_of_ble_eq_true rfl⟩ hl.1 rfl (by simp [Value.category]) dX4_copyTo_4 ⟨Nat.le_refl _, Nat.le_refl _⟩ ?_
  refine z_ifeq (pc := 7) (tgt := 20) hx hb dX4_copyTo_7 (by decide) (fun c_1 => ?_) (fun c_1 => ?_)
  · skip
    refine lv_iconst (pc := 20) (v := 0) hx hb dX4_copyTo_20 (by decide) ?_
    exact z_wzret (b := false) cx hr hlk dX4_copyTo_21 hS ⟨(sI (by first | rfl | (simp [bI, c_1]; done))), (by rw [show (if (hfB z i n && hfB z2 j n) = true then va_cpy x y (iN i) (iN j) (iN n) else y) = y from (by first | rfl | (simp [c_1]; done))]; exact hW)⟩
  · skip
    have hf1 := c_1
    refine lv_aload_n (pc := 10) hx hb dX4_copyTo_10 rfl (lv_at hl 1 rfl) ?_
    refine lv_iload_n (pc := 11) hx hb dX4_copyTo_11 rfl (lv_at hl 3 rfl) ?_
    refine lv_iload (pc := 12) hx hb dX4_copyTo_12 (lv_at hl 4 rfl) ?_
    refine k_X4_hasFrom (pc := 14) (i := j) (n := n) cx ⟨hW.at 2 rfl, hW.at 3 rfl⟩  m_ml_X4_26 ⟨Nat.le_of_ble_eq_true rfl, Nat.le_of_ble_eq_true rfl⟩ hl.1 rfl (by simp [Value.category]) dX4_copyTo_14 ⟨Nat.le_refl _, Nat.le_refl _⟩ ?_
    refine z_ifne (pc := 17) (tgt := 22) hx hb dX4_copyTo_17 (by decide) (fun c_2 => ?_) (fun c_2 => ?_)
    · skip
      obtain ⟨a, k, rfl, rfl, hak⟩ := hf_nat hz hf1
      obtain ⟨d, k2, rfl, hk2, hdk⟩ := hf_nat hz2 c_2
      obtain rfl : k = k2 := (hf_k hak hdk hz hz2 hk2).symm
      have hA := iN_nI (n := a) (by omega)
      have hD := iN_nI (n := d) (by omega)
      have hK := iN_nI (n := k) (by omega)
      refine lv_aload_n (pc := 22) hx hb dX4_copyTo_22 rfl (lv_at hl 0 rfl) ?_
      refine z_get (pc := 23) cx (hW.at 0 rfl) (C := RX4) (T := TX4) (N := 2) rfl i_X4 1 rfl m_fl_X4_13 rfl dX4_copyTo_23 ?_
      refine lv_iload_n (pc := 26) hx hb dX4_copyTo_26 rfl (lv_at hl 2 rfl) ?_
      refine lv_aload_n (pc := 27) hx hb dX4_copyTo_27 rfl (lv_at hl 1 rfl) ?_
      refine z_get (pc := 28) cx (hW.at 2 rfl) (C := RX4) (T := TX4) (N := 2) rfl i_X4 1 rfl m_fl_X4_13 rfl dX4_copyTo_28 ?_
      refine lv_iload_n (pc := 31) hx hb dX4_copyTo_31 rfl (lv_at hl 3 rfl) ?_
      refine lv_iload (pc := 32) hx hb dX4_copyTo_32 (lv_at hl 4 rfl) ?_
      refine z_copyG (pc := 34) (a := a) (d := d) (k := k) cx hW hS 3 (hW.at 1 rfl) rfl (hFc 3) (by omega) (by omega) (by omega) hl.1 m_ml_X4_30 ⟨Nat.le_of_ble_eq_true rfl, Nat.le_of_ble_eq_true rfl⟩ (by simp [Value.category]) dX4_copyTo_34 (fun H locs hW hS => ?_)
      have hW : WW E [(q, ceW v0 w), (w, ceI E.2.1 z x), (q2, ceW v1 w2), (w2, ceI E.2.1 z2 (va_cpy x y a d k))] gN H := hW
      refine lv_iconst (pc := 37) (v := 1) hx hb dX4_copyTo_37 (by decide) ?_
      exact z_wzret (b := true) cx hr hlk dX4_copyTo_38 hS ⟨(sI (by first | rfl | (simp [bI, c_1, c_2, hA, hD, hK]; done))), (by rw [show (if (hfB z (nI a) (nI k) && hfB z2 (nI d) (nI k)) = true then va_cpy x y (iN (nI a)) (iN (nI d)) (iN (nI k)) else y) = va_cpy x y a d k from (by first | rfl | (simp [c_1, c_2, hA, hD, hK]; done))]; exact hW)⟩
    · skip
      refine lv_iconst (pc := 20) (v := 0) hx hb dX4_copyTo_20 (by decide) ?_
      exact z_wzret (b := false) cx hr hlk dX4_copyTo_21 hS ⟨(sI (by first | rfl | (simp [bI, c_1, c_2]; done))), (by rw [show (if (hfB z i n && hfB z2 j n) = true then va_cpy x y (iN i) (iN j) (iN n) else y) = y from (by first | rfl | (simp [c_1, c_2]; done))]; exact hW)⟩
set_option maxHeartbeats 1000000 in
set_option maxRecDepth 100000 in
theorem c_X4_copyTo1 (l : Launch) (E : zE) (q w z : Nat) (v0 : Int32) (x : Nat → Int32) (i j n : Int32) (hz : z ≤ 100) : Met l yX4_copyTo (.code yX4_copyTo cX4_copyTo 5 (some FieldType.boolean) :: AllW) (rm0' 1 80) (zP E (fun H => WW E [(q, ceW v0 w), (w, ceI E.2.1 z x)] gN H) [.ref q, .ref q, .int i, .int j, .int n]) (zQ (fun (_ : Heap) (v : Option Value) (H1 : Heap) => (v = some (.int (bI (hfB z i n && hfB z j n))) ∧ WW E [(q, ceW v0 w), (w, ceI E.2.1 z (if (hfB z i n && hfB z j n) = true then va_cpy x x (iN i) (iN j) (iN n) else x))] gN H1)) (fun y => y = w)) 0 0 (fun y => y = w) := by
  refine z_body (own := RX4) (by decide) rfl rfl ?_
  intro p e s m args below meth c ls cx hr hlk hnm hW hl
  have hx := cx.x
  have hb := cx.b
  have hl : lv_has ls 5 [(0, .ref q), (1, .ref q), (2, .int i), (3, .int j), (4, .int n)] := hl
  have hS : va_S (fun y => y = w) s.heap s.heap [] := va_S.rf
  have hFc : ∀ i : Nat, (fun y => y = w) w := fun _ => rfl
  refine lv_aload_n (pc := 0) hx hb dX4_copyTo_0 rfl (lv_at hl 0 rfl) ?_
  refine lv_iload_n (pc := 1) hx hb dX4_copyTo_1 rfl (lv_at hl 2 rfl) ?_
  refine lv_iload (pc := 2) hx hb dX4_copyTo_2 (lv_at hl 4 rfl) ?_
  refine k_X4_hasFrom (pc := 4) (i := i) (n := n) cx ⟨hW.at 0 rfl, hW.at 1 rfl⟩  m_ml_X4_26 ⟨Nat.le_of_ble_eq_true rfl, Nat.le_of_ble_eq_true rfl⟩ hl.1 rfl (by simp [Value.category]) dX4_copyTo_4 ⟨Nat.le_refl _, Nat.le_refl _⟩ ?_
  refine z_ifeq (pc := 7) (tgt := 20) hx hb dX4_copyTo_7 (by decide) (fun c_1 => ?_) (fun c_1 => ?_)
  · skip
    refine lv_iconst (pc := 20) (v := 0) hx hb dX4_copyTo_20 (by decide) ?_
    exact z_wzret (b := false) cx hr hlk dX4_copyTo_21 hS ⟨(sI (by first | rfl | (simp [bI, c_1]; done))), (by rw [show (if (hfB z i n && hfB z j n) = true then va_cpy x x (iN i) (iN j) (iN n) else x) = x from (by first | rfl | (simp [c_1]; done))]; exact hW)⟩
  · skip
    have hf1 := c_1
    refine lv_aload_n (pc := 10) hx hb dX4_copyTo_10 rfl (lv_at hl 1 rfl) ?_
    refine lv_iload_n (pc := 11) hx hb dX4_copyTo_11 rfl (lv_at hl 3 rfl) ?_
    refine lv_iload (pc := 12) hx hb dX4_copyTo_12 (lv_at hl 4 rfl) ?_
    refine k_X4_hasFrom (pc := 14) (i := j) (n := n) cx ⟨hW.at 0 rfl, hW.at 1 rfl⟩  m_ml_X4_26 ⟨Nat.le_of_ble_eq_true rfl, Nat.le_of_ble_eq_true rfl⟩ hl.1 rfl (by simp [Value.category]) dX4_copyTo_14 ⟨Nat.le_refl _, Nat.le_refl _⟩ ?_
    refine z_ifne (pc := 17) (tgt := 22) hx hb dX4_copyTo_17 (by decide) (fun c_2 => ?_) (fun c_2 => ?_)
    · skip
      obtain ⟨a, k, rfl, rfl, hak⟩ := hf_nat hz hf1
      obtain ⟨d, k2, rfl, hk2, hdk⟩ := hf_nat hz c_2
      obtain rfl : k = k2 := (hf_k hak hdk hz hz hk2).symm
      have hA := iN_nI (n := a) (by omega)
      have hD := iN_nI (n := d) (by omega)
      have hK := iN_nI (n := k) (by omega)
      refine lv_aload_n (pc := 22) hx hb dX4_copyTo_22 rfl (lv_at hl 0 rfl) ?_
      refine z_get (pc := 23) cx (hW.at 0 rfl) (C := RX4) (T := TX4) (N := 2) rfl i_X4 1 rfl m_fl_X4_13 rfl dX4_copyTo_23 ?_
      refine lv_iload_n (pc := 26) hx hb dX4_copyTo_26 rfl (lv_at hl 2 rfl) ?_
      refine lv_aload_n (pc := 27) hx hb dX4_copyTo_27 rfl (lv_at hl 1 rfl) ?_
      refine z_get (pc := 28) cx (hW.at 0 rfl) (C := RX4) (T := TX4) (N := 2) rfl i_X4 1 rfl m_fl_X4_13 rfl dX4_copyTo_28 ?_
      refine lv_iload_n (pc := 31) hx hb dX4_copyTo_31 rfl (lv_at hl 3 rfl) ?_
      refine lv_iload (pc := 32) hx hb dX4_copyTo_32 (lv_at hl 4 rfl) ?_
      refine z_copyG (pc := 34) (a := a) (d := d) (k := k) cx hW hS 1 (hW.at 1 rfl) rfl (hFc 1) (by omega) (by omega) (by omega) hl.1 m_ml_X4_30 ⟨Nat.le_of_ble_eq_true rfl, Nat.le_of_ble_eq_true rfl⟩ (by simp [Value.category]) dX4_copyTo_34 (fun H locs hW hS => ?_)
      have hW : WW E [(q, ceW v0 w), (w, ceI E.2.1 z (va_cpy x x a d k))] gN H := hW
      refine lv_iconst (pc := 37) (v := 1) hx hb dX4_copyTo_37 (by decide) ?_
      exact z_wzret (b := true) cx hr hlk dX4_copyTo_38 hS ⟨(sI (by first | rfl | (simp [bI, c_1, c_2, hA, hD, hK]; done))), (by rw [show (if (hfB z (nI a) (nI k) && hfB z (nI d) (nI k)) = true then va_cpy x x (iN (nI a)) (iN (nI d)) (iN (nI k)) else x) = va_cpy x x a d k from (by first | rfl | (simp [c_1, c_2, hA, hD, hK]; done))]; exact hW)⟩
    · skip
      refine lv_iconst (pc := 20) (v := 0) hx hb dX4_copyTo_20 (by decide) ?_
      exact z_wzret (b := false) cx hr hlk dX4_copyTo_21 hS ⟨(sI (by first | rfl | (simp [bI, c_1, c_2]; done))), (by rw [show (if (hfB z i n && hfB z j n) = true then va_cpy x x (iN i) (iN j) (iN n) else x) = x from (by first | rfl | (simp [c_1, c_2]; done))]; exact hW)⟩
set_option maxHeartbeats 1000000 in
set_option maxRecDepth 100000 in
theorem c_X5_become_n (l : Launch) (E : zE) (q w q2 w2 : Nat) (u0 u1 u2 u3 u4 v0 v1 v2 v3 v4 : Int32) (x y : Nat → Int32)   : Met l yX5_become (.code yX5_become cX5_become 2 none :: AllW) (rm0' 1 80) (zP E (fun H => WW E [(q, ceS u0 u1 u2 u3 u4 w), (w, ceI E.2.1 10 x), (q2, ceS v0 v1 v2 v3 v4 w2), (w2, ceI E.2.1 10 y)] gN H) [.ref q, .ref q2]) (zQ (fun (_ : Heap) (v : Option Value) (H1 : Heap) => (v = none ∧ WW E [(q, ceS v0 v1 v2 v3 v4 w), (w, ceI E.2.1 10 y), (q2, ceS v0 v1 v2 v3 v4 w2), (w2, ceI E.2.1 10 y)] gN H1)) (fun y => y = q ∨ y = w)) 0 0 (fun y => y = q ∨ y = w) := by
  refine z_body (own := RX5) (by decide) rfl rfl ?_
  intro p e s m args below meth c ls cx hr hlk hnm hW hl
  have hx := cx.x
  have hb := cx.b
  have hl : lv_has ls 2 [(0, .ref q), (1, .ref q2)] := hl
  have hS : va_S (fun y => y = q ∨ y = w) s.heap s.heap [] := va_S.rf
  have hFc : ∀ i : Nat, (fun y => y = q ∨ y = w) (if i = 0 then q else w) := fun i => by by_cases c : i = 0; rw [if_pos c]; exact Or.inl rfl; rw [if_neg c]; exact Or.inr rfl
  refine lv_aload_n (pc := 0) hx hb dX5_become_0 rfl (lv_at hl 0 rfl) ?_
  refine lv_aload_n (pc := 1) hx hb dX5_become_1 rfl (lv_at hl 1 rfl) ?_
  refine z_get (pc := 2) cx (hW.at 2 rfl) (C := RX5) (T := TX5) (N := 6) rfl i_X5 0 rfl m_fl_X5_9 rfl dX5_become_2 ?_
  refine z_putK5 (pc := 5) cx hW hS 0 rfl (hFc 0) 0 rfl m_fl_X5_9 rfl rfl dX5_become_5 (fun H locs hW hS => ?_)
  have hW : WW E [(q, ceS v0 u1 u2 u3 u4 w), (w, ceI E.2.1 10 x), (q2, ceS v0 v1 v2 v3 v4 w2), (w2, ceI E.2.1 10 y)] gN H := hW
  refine lv_aload_n (pc := 8) hx hb dX5_become_8 rfl (lv_at hl 0 rfl) ?_
  refine lv_aload_n (pc := 9) hx hb dX5_become_9 rfl (lv_at hl 1 rfl) ?_
  refine z_get (pc := 10) cx (hW.at 2 rfl) (C := RX5) (T := TX5) (N := 6) rfl i_X5 1 rfl m_fl_X5_19 rfl dX5_become_10 ?_
  refine z_putK5 (pc := 13) cx hW hS 0 rfl (hFc 0) 1 rfl m_fl_X5_19 rfl rfl dX5_become_13 (fun H locs hW hS => ?_)
  have hW : WW E [(q, ceS v0 v1 u2 u3 u4 w), (w, ceI E.2.1 10 x), (q2, ceS v0 v1 v2 v3 v4 w2), (w2, ceI E.2.1 10 y)] gN H := hW
  refine lv_aload_n (pc := 16) hx hb dX5_become_16 rfl (lv_at hl 0 rfl) ?_
  refine lv_aload_n (pc := 17) hx hb dX5_become_17 rfl (lv_at hl 1 rfl) ?_
  refine z_get (pc := 18) cx (hW.at 2 rfl) (C := RX5) (T := TX5) (N := 6) rfl i_X5 2 rfl m_fl_X5_22 rfl dX5_become_18 ?_
  refine z_putK5 (pc := 21) cx hW hS 0 rfl (hFc 0) 2 rfl m_fl_X5_22 rfl rfl dX5_become_21 (fun H locs hW hS => ?_)
  have hW : WW E [(q, ceS v0 v1 v2 u3 u4 w), (w, ceI E.2.1 10 x), (q2, ceS v0 v1 v2 v3 v4 w2), (w2, ceI E.2.1 10 y)] gN H := hW
  refine lv_aload_n (pc := 24) hx hb dX5_become_24 rfl (lv_at hl 0 rfl) ?_
  refine lv_aload_n (pc := 25) hx hb dX5_become_25 rfl (lv_at hl 1 rfl) ?_
  refine z_get (pc := 26) cx (hW.at 2 rfl) (C := RX5) (T := TX5) (N := 6) rfl i_X5 3 rfl m_fl_X5_25 rfl dX5_become_26 ?_
  refine z_putK5 (pc := 29) cx hW hS 0 rfl (hFc 0) 3 rfl m_fl_X5_25 rfl rfl dX5_become_29 (fun H locs hW hS => ?_)
  have hW : WW E [(q, ceS v0 v1 v2 v3 u4 w), (w, ceI E.2.1 10 x), (q2, ceS v0 v1 v2 v3 v4 w2), (w2, ceI E.2.1 10 y)] gN H := hW
  refine lv_aload_n (pc := 32) hx hb dX5_become_32 rfl (lv_at hl 0 rfl) ?_
  refine lv_aload_n (pc := 33) hx hb dX5_become_33 rfl (lv_at hl 1 rfl) ?_
  refine z_get (pc := 34) cx (hW.at 2 rfl) (C := RX5) (T := TX5) (N := 6) rfl i_X5 4 rfl m_fl_X5_28 rfl dX5_become_34 ?_
  refine z_putK5 (pc := 37) cx hW hS 0 rfl (hFc 0) 4 rfl m_fl_X5_28 rfl rfl dX5_become_37 (fun H locs hW hS => ?_)
  have hW : WW E [(q, ceS v0 v1 v2 v3 v4 w), (w, ceI E.2.1 10 x), (q2, ceS v0 v1 v2 v3 v4 w2), (w2, ceI E.2.1 10 y)] gN H := hW
  refine lv_aload_n (pc := 40) hx hb dX5_become_40 rfl (lv_at hl 1 rfl) ?_
  refine z_get (pc := 41) cx (hW.at 2 rfl) (C := RX5) (T := TX5) (N := 6) rfl i_X5 5 rfl m_fl_X5_15 rfl dX5_become_41 ?_
  refine lv_iconst (pc := 44) (v := 0) hx hb dX5_become_44 (by decide) ?_
  refine lv_aload_n (pc := 45) hx hb dX5_become_45 rfl (lv_at hl 0 rfl) ?_
  refine z_get (pc := 46) cx (hW.at 0 rfl) (C := RX5) (T := TX5) (N := 6) rfl i_X5 5 rfl m_fl_X5_15 rfl dX5_become_46 ?_
  refine lv_iconst (pc := 49) (v := 0) hx hb dX5_become_49 (by decide) ?_
  refine lv_bipush (pc := 50) (v := 10) hx hb dX5_become_50 (by decide) ?_
  refine z_copyI (pc := 52) (n := 10) cx hW hS 1 (hW.at 3 rfl) rfl (hFc 1) (by decide) hl.1 m_ml_X5_31 ⟨Nat.le_of_ble_eq_true rfl, Nat.le_of_ble_eq_true rfl⟩ (by simp [Value.category]) dX5_become_52 (fun H locs hW hS => ?_)
  have hW : WW E [(q, ceS v0 v1 v2 v3 v4 w), (w, ceI E.2.1 10 y), (q2, ceS v0 v1 v2 v3 v4 w2), (w2, ceI E.2.1 10 y)] gN H := hW
  exact z_wvret cx hr hlk dX5_become_55 hS ⟨rfl, hW⟩
