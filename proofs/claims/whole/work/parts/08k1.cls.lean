theorem WW.add {E : zE} {ws : va_W} {G : zG} {H : Heap} (h : WW E ws G H) {r N : Nat} {e : va_E} (h1 : ∀ (k : Nat) (x : Nat × va_E), ws[k]? = some x → x.1 < N) (h2 : ∀ z x, G z = some x → z < N) (hr : N ≤ r) (he : va_at E.1 vwCl (r, e) H) : WW E ws (va_up G r (some e)) H := by
  refine ⟨h.1, h.2.1, fun q x hq => ?_, fun k x y hk => ?_⟩
  · by_cases c : q = r
    · subst c
      have : e = x := by simpa [va_up] using hq
      exact this ▸ he
    · have hq' : G q = some x := by simpa [va_up, c] using hq
      exact h.2.2.1 q x hq'
  · have c : x.1 ≠ r := Nat.ne_of_lt (Nat.lt_of_lt_of_le (h1 k x hk) hr)
    simpa [va_up, c] using h.2.2.2 k x y hk
theorem va_D1 {F : Nat → Prop} {q : Nat} {e : va_E} (h : F q) : va_D F [(q, e)] := by
  refine ⟨fun i j a b hi hj _ => ?_, fun k x hk => ?_⟩
  · have h1 : i < 1 := (List.getElem?_eq_some_iff.mp hi).1
    have h2 : j < 1 := (List.getElem?_eq_some_iff.mp hj).1
    omega
  · have h1 : k < 1 := (List.getElem?_eq_some_iff.mp hk).1
    rw [show k = 0 by omega] at hk
    cases hk
    exact h
theorem vm_X2_init : zIm yX2_init cX2_init 6 5 := ⟨m_co_X2_init, m_in_RX2, ⟨rfl, m_im_X2_init⟩, by decide +kernel, by decide +kernel, by decide +kernel⟩
set_option maxHeartbeats 1000000 in
set_option maxRecDepth 100000 in
theorem c_X2_init (l : Launch) (E : zE) (q : Nat) (v0 : Int32) (v1 : Int32) (v2 : Int32) (v3 : Int32) (v4 : Int32) : Met l yX2_init (.code yX2_init cX2_init 6 none :: AllW) (rmA 1 40 0 0) (zP E (fun H => va_at E.1 vwCl (q, ceP 0 0 0 0 0) H) [.ref q, .int v0, .int v1, .int v2, .int v3, .int v4]) (zQ (fun _ v H1 => v = none ∧ va_at E.1 vwCl (q, ceP v0 v1 v2 v3 v4) H1) (fun z => z = q)) 0 0 (fun z => z = q) := by
  refine z_body (own := RX2) (by decide) rfl rfl ?_
  intro p e s m args below meth c ls cx hr hlk hnm hW hl
  have hx := cx.x
  have hb := cx.b
  have hl : lv_has ls 6 [(0, .ref q), (1, .int v0), (2, .int v1), (3, .int v2), (4, .int v3), (5, .int v4)] := hl
  have hP : va_P E.1 vwCl [(q, ceP 0 0 0 0 0)] s.heap := z_sing hW
  have hD : va_D (fun z => z = q) [(q, ceP 0 0 0 0 0)] := va_D1 rfl
  have hS : va_S (fun z => z = q) s.heap s.heap [] := va_S.rf
  refine lv_aload_n (pc := 0) hx hb dX2_init_0 rfl (lv_at hl 0 rfl) ?_
  refine z_oinit (pc := 1) cx hl.1 m_ml_X2_3 ⟨Nat.le_of_ble_eq_true rfl, Nat.le_of_ble_eq_true rfl⟩ (by simp [Value.category]) dX2_init_1 ?_
  refine lv_aload_n (pc := 4) hx hb dX2_init_4 rfl (lv_at hl 0 rfl) ?_
  refine lv_iload_n (pc := 5) hx hb dX2_init_5 rfl (lv_at hl 1 rfl) ?_
  refine z_putF (pc := 6) cx hnm hP hD hS 0 rfl (C := RX2) (T := TX2) (N := 5) rfl i_X2 tyX2_ok nmX2 0 (by decide) m_fl_X2_9 rfl rfl (ty := .int) (v := .int v0) (by decide +kernel) rfl rfl (by simp) dX2_init_6 (fun H locs hP hD hS => ?_)
  refine lv_aload_n (pc := 9) hx hb dX2_init_9 rfl (lv_at hl 0 rfl) ?_
  refine lv_iload_n (pc := 10) hx hb dX2_init_10 rfl (lv_at hl 2 rfl) ?_
  refine z_putF (pc := 11) cx hnm hP hD hS 0 rfl (C := RX2) (T := TX2) (N := 5) rfl i_X2 tyX2_ok nmX2 1 (by decide) m_fl_X2_15 rfl rfl (ty := .int) (v := .int v1) (by decide +kernel) rfl rfl (by simp) dX2_init_11 (fun H locs hP hD hS => ?_)
  refine lv_aload_n (pc := 14) hx hb dX2_init_14 rfl (lv_at hl 0 rfl) ?_
  refine lv_iload_n (pc := 15) hx hb dX2_init_15 rfl (lv_at hl 3 rfl) ?_
  refine z_putF (pc := 16) cx hnm hP hD hS 0 rfl (C := RX2) (T := TX2) (N := 5) rfl i_X2 tyX2_ok nmX2 2 (by decide) m_fl_X2_18 rfl rfl (ty := .int) (v := .int v2) (by decide +kernel) rfl rfl (by simp) dX2_init_16 (fun H locs hP hD hS => ?_)
  refine lv_aload_n (pc := 19) hx hb dX2_init_19 rfl (lv_at hl 0 rfl) ?_
  refine lv_iload (pc := 20) hx hb dX2_init_20 (lv_at hl 4 rfl) ?_
  refine z_putF (pc := 22) cx hnm hP hD hS 0 rfl (C := RX2) (T := TX2) (N := 5) rfl i_X2 tyX2_ok nmX2 3 (by decide) m_fl_X2_21 rfl rfl (ty := .int) (v := .int v3) (by decide +kernel) rfl rfl (by simp) dX2_init_22 (fun H locs hP hD hS => ?_)
  refine lv_aload_n (pc := 25) hx hb dX2_init_25 rfl (lv_at hl 0 rfl) ?_
  refine lv_iload (pc := 26) hx hb dX2_init_26 (lv_at hl 5 rfl) ?_
  refine z_putF (pc := 28) cx hnm hP hD hS 0 rfl (C := RX2) (T := TX2) (N := 5) rfl i_X2 tyX2_ok nmX2 4 (by decide) m_fl_X2_24 rfl rfl (ty := .int) (v := .int v4) (by decide +kernel) rfl rfl (by simp) dX2_init_28 (fun H locs hP hD hS => ?_)
  exact z_wvret (pc := 31) cx hr hlk dX2_init_31 hS ⟨rfl, hP 0 _ rfl⟩
theorem k_X2_init {p : Program} {l : Launch} {e : Env} {R : Room} {s : State} {m : MethodId} {args : Array Value} {below : List Frame} {meth : Method} {c : Code} {H H0 : Heap} {locs : List Loc} {cells slots : Nat} {Q : State → Prop} {cc : ByteArray} {pc index : Nat} {ls : Array Slot} {rest st0 : List Value} {E : zE} {own : String} {nL : Nat} {ws : va_W} {G : zG} {F : Nat → Prop} {q : Nat} {v0 : Int32} {v1 : Int32} {v2 : Int32} {v3 : Int32} {v4 : Int32} (cx : Cx E p s args m c own cc nL) (hW : WW E ws G H) (hS : va_S F H0 H locs) (hq : G q = some (ceP 0 0 0 0 0)) (hFq : F q) (zl : Cond.methodLink own index yX2_init ∈ AllW) (zR : 2 ≤ R.frames ∧ 8 + (6 + 11) + 40 ≤ R.locals) (zs : ls.size = nL) (zt : st0 = ([.int v0, .int v1, .int v2, .int v3, .int v4] : List Value).reverse ++ .ref q :: rest) (z8 : (rest.map fun v => v.category).sum ≤ 8) (zd : decode cc pc = .ok (.invokespecial index, 3)) (zf : cells + 0 ≤ R.cells ∧ slots + 0 ≤ R.slots) (kk : ∀ (H1 : Heap) (locs1 : List Loc), WW E ws (va_up G q (some (ceP v0 v1 v2 v3 v4))) H1 → va_S F H0 H1 locs1 → W p l e R s m args below meth c H1 locs1 cells slots Q (F0 m (pc + 3) ls rest)) : W p l e R s m args below meth c H locs cells slots Q (F0 m pc ls st0) := by
  refine z_callIw cx vm_X2_init (c_X2_init l E q v0 v1 v2 v3 v4) (hW.dyn hq) hS (fun z h => h ▸ hFq) zl ⟨rfl, rfl⟩ zR rfl zs zt z8 zd zf (fun v H1 locs1 hq1 hS1 hk => ?_)
  obtain ⟨rfl, h1⟩ := hq1
  exact kk H1 locs1 (hW.setG hq h1 (fun z g1 g2 => hk.2 z g1 g2)) hS1
theorem vm_X6_init : zIm yX6_init cX6_init 7 6 := ⟨m_co_X6_init, m_in_RX6, ⟨rfl, m_im_X6_init⟩, by decide +kernel, by decide +kernel, by decide +kernel⟩
set_option maxHeartbeats 1000000 in
set_option maxRecDepth 100000 in
theorem c_X6_init (l : Launch) (E : zE) (q : Nat) (v0 : Int32) (v1 : Int32) (v2 : Int32) (v3 : Int32) (v4 : Int32) (v5 : Int32) : Met l yX6_init (.code yX6_init cX6_init 7 none :: AllW) (rmA 1 40 0 0) (zP E (fun H => va_at E.1 vwCl (q, ceT 0 0 0 0 0 0) H) [.ref q, .int v0, .int v1, .int v2, .int v3, .int v4, .int v5]) (zQ (fun _ v H1 => v = none ∧ va_at E.1 vwCl (q, ceT v0 v1 v2 v3 v4 v5) H1) (fun z => z = q)) 0 0 (fun z => z = q) := by
  refine z_body (own := RX6) (by decide) rfl rfl ?_
  intro p e s m args below meth c ls cx hr hlk hnm hW hl
  have hx := cx.x
  have hb := cx.b
  have hl : lv_has ls 7 [(0, .ref q), (1, .int v0), (2, .int v1), (3, .int v2), (4, .int v3), (5, .int v4), (6, .int v5)] := hl
  have hP : va_P E.1 vwCl [(q, ceT 0 0 0 0 0 0)] s.heap := z_sing hW
  have hD : va_D (fun z => z = q) [(q, ceT 0 0 0 0 0 0)] := va_D1 rfl
  have hS : va_S (fun z => z = q) s.heap s.heap [] := va_S.rf
  refine lv_aload_n (pc := 0) hx hb dX6_init_0 rfl (lv_at hl 0 rfl) ?_
  refine z_oinit (pc := 1) cx hl.1 m_ml_X6_1 ⟨Nat.le_of_ble_eq_true rfl, Nat.le_of_ble_eq_true rfl⟩ (by simp [Value.category]) dX6_init_1 ?_
  refine lv_aload_n (pc := 4) hx hb dX6_init_4 rfl (lv_at hl 0 rfl) ?_
  refine lv_iload_n (pc := 5) hx hb dX6_init_5 rfl (lv_at hl 1 rfl) ?_
  refine z_putF (pc := 6) cx hnm hP hD hS 0 rfl (C := RX6) (T := TX6) (N := 6) rfl i_X6 tyX6_ok nmX6 0 (by decide) m_fl_X6_7 rfl rfl (ty := .int) (v := .int v0) (by decide +kernel) rfl rfl (by simp) dX6_init_6 (fun H locs hP hD hS => ?_)
  refine lv_aload_n (pc := 9) hx hb dX6_init_9 rfl (lv_at hl 0 rfl) ?_
  refine lv_iload_n (pc := 10) hx hb dX6_init_10 rfl (lv_at hl 2 rfl) ?_
  refine z_putF (pc := 11) cx hnm hP hD hS 0 rfl (C := RX6) (T := TX6) (N := 6) rfl i_X6 tyX6_ok nmX6 1 (by decide) m_fl_X6_13 rfl rfl (ty := .int) (v := .int v1) (by decide +kernel) rfl rfl (by simp) dX6_init_11 (fun H locs hP hD hS => ?_)
  refine lv_aload_n (pc := 14) hx hb dX6_init_14 rfl (lv_at hl 0 rfl) ?_
  refine lv_iload_n (pc := 15) hx hb dX6_init_15 rfl (lv_at hl 3 rfl) ?_
  refine z_putF (pc := 16) cx hnm hP hD hS 0 rfl (C := RX6) (T := TX6) (N := 6) rfl i_X6 tyX6_ok nmX6 2 (by decide) m_fl_X6_16 rfl rfl (ty := .int) (v := .int v2) (by decide +kernel) rfl rfl (by simp) dX6_init_16 (fun H locs hP hD hS => ?_)
  refine lv_aload_n (pc := 19) hx hb dX6_init_19 rfl (lv_at hl 0 rfl) ?_
  refine lv_iload (pc := 20) hx hb dX6_init_20 (lv_at hl 4 rfl) ?_
  refine z_putF (pc := 22) cx hnm hP hD hS 0 rfl (C := RX6) (T := TX6) (N := 6) rfl i_X6 tyX6_ok nmX6 3 (by decide) m_fl_X6_19 rfl rfl (ty := .int) (v := .int v3) (by decide +kernel) rfl rfl (by simp) dX6_init_22 (fun H locs hP hD hS => ?_)
  refine lv_aload_n (pc := 25) hx hb dX6_init_25 rfl (lv_at hl 0 rfl) ?_
  refine lv_iload (pc := 26) hx hb dX6_init_26 (lv_at hl 5 rfl) ?_
  refine z_putF (pc := 28) cx hnm hP hD hS 0 rfl (C := RX6) (T := TX6) (N := 6) rfl i_X6 tyX6_ok nmX6 4 (by decide) m_fl_X6_22 rfl rfl (ty := .int) (v := .int v4) (by decide +kernel) rfl rfl (by simp) dX6_init_28 (fun H locs hP hD hS => ?_)
  refine lv_aload_n (pc := 31) hx hb dX6_init_31 rfl (lv_at hl 0 rfl) ?_
  refine lv_iload (pc := 32) hx hb dX6_init_32 (lv_at hl 6 rfl) ?_
  refine z_putF (pc := 34) cx hnm hP hD hS 0 rfl (C := RX6) (T := TX6) (N := 6) rfl i_X6 tyX6_ok nmX6 5 (by decide) m_fl_X6_25 rfl rfl (ty := .int) (v := .int v5) (by decide +kernel) rfl rfl (by simp) dX6_init_34 (fun H locs hP hD hS => ?_)
  exact z_wvret (pc := 37) cx hr hlk dX6_init_37 hS ⟨rfl, hP 0 _ rfl⟩
theorem k_X6_init {p : Program} {l : Launch} {e : Env} {R : Room} {s : State} {m : MethodId} {args : Array Value} {below : List Frame} {meth : Method} {c : Code} {H H0 : Heap} {locs : List Loc} {cells slots : Nat} {Q : State → Prop} {cc : ByteArray} {pc index : Nat} {ls : Array Slot} {rest st0 : List Value} {E : zE} {own : String} {nL : Nat} {ws : va_W} {G : zG} {F : Nat → Prop} {q : Nat} {v0 : Int32} {v1 : Int32} {v2 : Int32} {v3 : Int32} {v4 : Int32} {v5 : Int32} (cx : Cx E p s args m c own cc nL) (hW : WW E ws G H) (hS : va_S F H0 H locs) (hq : G q = some (ceT 0 0 0 0 0 0)) (hFq : F q) (zl : Cond.methodLink own index yX6_init ∈ AllW) (zR : 2 ≤ R.frames ∧ 8 + (7 + 11) + 40 ≤ R.locals) (zs : ls.size = nL) (zt : st0 = ([.int v0, .int v1, .int v2, .int v3, .int v4, .int v5] : List Value).reverse ++ .ref q :: rest) (z8 : (rest.map fun v => v.category).sum ≤ 8) (zd : decode cc pc = .ok (.invokespecial index, 3)) (zf : cells + 0 ≤ R.cells ∧ slots + 0 ≤ R.slots) (kk : ∀ (H1 : Heap) (locs1 : List Loc), WW E ws (va_up G q (some (ceT v0 v1 v2 v3 v4 v5))) H1 → va_S F H0 H1 locs1 → W p l e R s m args below meth c H1 locs1 cells slots Q (F0 m (pc + 3) ls rest)) : W p l e R s m args below meth c H locs cells slots Q (F0 m pc ls st0) := by
  refine z_callIw cx vm_X6_init (c_X6_init l E q v0 v1 v2 v3 v4 v5) (hW.dyn hq) hS (fun z h => h ▸ hFq) zl ⟨rfl, rfl⟩ zR rfl zs zt z8 zd zf (fun v H1 locs1 hq1 hS1 hk => ?_)
  obtain ⟨rfl, h1⟩ := hq1
  exact kk H1 locs1 (hW.setG hq h1 (fun z g1 g2 => hk.2 z g1 g2)) hS1
theorem vm_X0_init : zIm yX0_init cX0_init 6 5 := ⟨m_co_X0_init, m_in_RX0, ⟨rfl, m_im_X0_init⟩, by decide +kernel, by decide +kernel, by decide +kernel⟩
set_option maxHeartbeats 1000000 in
set_option maxRecDepth 100000 in
theorem c_X0_init (l : Launch) (E : zE) (q : Nat) (v0 : Int32) (v1 : Int32) (hb2 : Bool) (v3 : Int32) (t : Nat) : Met l yX0_init (.code yX0_init cX0_init 6 none :: AllW) (rmA 1 40 0 0) (zP E (fun H => va_at E.1 vwCl (q, (.inr (0, [.int 0, .int 0, .int 0, .int 0, .null]) : va_E)) H) [.ref q, .int v0, .int v1, .int (bI hb2), .int v3, .ref t]) (zQ (fun _ v H1 => v = none ∧ va_at E.1 vwCl (q, ceA v0 v1 (bI hb2) v3 t) H1) (fun z => z = q)) 0 0 (fun z => z = q) := by
  refine z_body (own := RX0) (by decide) rfl rfl ?_
  intro p e s m args below meth c ls cx hr hlk hnm hW hl
  have hx := cx.x
  have hb := cx.b
  have hl : lv_has ls 6 [(0, .ref q), (1, .int v0), (2, .int v1), (3, .int (bI hb2)), (4, .int v3), (5, .ref t)] := hl
  have hP : va_P E.1 vwCl [(q, (.inr (0, [.int 0, .int 0, .int 0, .int 0, .null]) : va_E))] s.heap := z_sing hW
  have hD : va_D (fun z => z = q) [(q, (.inr (0, [.int 0, .int 0, .int 0, .int 0, .null]) : va_E))] := va_D1 rfl
  have hS : va_S (fun z => z = q) s.heap s.heap [] := va_S.rf
  refine lv_aload_n (pc := 0) hx hb dX0_init_0 rfl (lv_at hl 0 rfl) ?_
  refine z_oinit (pc := 1) cx hl.1 m_ml_X0_1 ⟨Nat.le_of_ble_eq_true rfl, Nat.le_of_ble_eq_true rfl⟩ (by simp [Value.category]) dX0_init_1 ?_
  refine lv_aload_n (pc := 4) hx hb dX0_init_4 rfl (lv_at hl 0 rfl) ?_
  refine lv_iload_n (pc := 5) hx hb dX0_init_5 rfl (lv_at hl 1 rfl) ?_
  refine z_putF (pc := 6) cx hnm hP hD hS 0 rfl (C := RX0) (T := TX0) (N := 5) rfl i_X0 tyX0_ok nmX0 0 (by decide) m_fl_X0_7 rfl rfl (ty := .int) (v := .int v0) (by decide +kernel) rfl rfl (by simp) dX0_init_6 (fun H locs hP hD hS => ?_)
  refine lv_aload_n (pc := 9) hx hb dX0_init_9 rfl (lv_at hl 0 rfl) ?_
  refine lv_iload_n (pc := 10) hx hb dX0_init_10 rfl (lv_at hl 2 rfl) ?_
  refine z_putF (pc := 11) cx hnm hP hD hS 0 rfl (C := RX0) (T := TX0) (N := 5) rfl i_X0 tyX0_ok nmX0 1 (by decide) m_fl_X0_13 rfl rfl (ty := .int) (v := .int v1) (by decide +kernel) rfl rfl (by simp) dX0_init_11 (fun H locs hP hD hS => ?_)
  refine lv_aload_n (pc := 14) hx hb dX0_init_14 rfl (lv_at hl 0 rfl) ?_
  refine lv_iload_n (pc := 15) hx hb dX0_init_15 rfl (lv_at hl 3 rfl) ?_
  refine z_putF (pc := 16) cx hnm hP hD hS 0 rfl (C := RX0) (T := TX0) (N := 5) rfl i_X0 tyX0_ok nmX0 2 (by decide) m_fl_X0_16 rfl rfl (ty := .boolean) (v := .int (bI hb2)) (by decide +kernel) (bI_narrow _) (by cases hb2 <;> rfl) (by simp) dX0_init_16 (fun H locs hP hD hS => ?_)
  refine lv_aload_n (pc := 19) hx hb dX0_init_19 rfl (lv_at hl 0 rfl) ?_
  refine lv_iload (pc := 20) hx hb dX0_init_20 (lv_at hl 4 rfl) ?_
  refine z_putF (pc := 22) cx hnm hP hD hS 0 rfl (C := RX0) (T := TX0) (N := 5) rfl i_X0 tyX0_ok nmX0 3 (by decide) m_fl_X0_20 rfl rfl (ty := .int) (v := .int v3) (by decide +kernel) rfl rfl (by simp) dX0_init_22 (fun H locs hP hD hS => ?_)
  refine lv_aload_n (pc := 25) hx hb dX0_init_25 rfl (lv_at hl 0 rfl) ?_
  refine lv_aload (pc := 26) hx hb dX0_init_26 (lv_at hl 5 rfl) ?_
  refine z_putF (pc := 28) cx hnm hP hD hS 0 rfl (C := RX0) (T := TX0) (N := 5) rfl i_X0 tyX0_ok nmX0 4 (by decide) m_fl_X0_23 rfl rfl (ty := .object "FiddleBuzz$Setting") (v := .ref t) (by decide +kernel) rfl rfl (by simp) dX0_init_28 (fun H locs hP hD hS => ?_)
  exact z_wvret (pc := 31) cx hr hlk dX0_init_31 hS ⟨rfl, hP 0 _ rfl⟩
theorem k_X0_init {p : Program} {l : Launch} {e : Env} {R : Room} {s : State} {m : MethodId} {args : Array Value} {below : List Frame} {meth : Method} {c : Code} {H H0 : Heap} {locs : List Loc} {cells slots : Nat} {Q : State → Prop} {cc : ByteArray} {pc index : Nat} {ls : Array Slot} {rest st0 : List Value} {E : zE} {own : String} {nL : Nat} {ws : va_W} {G : zG} {F : Nat → Prop} {q : Nat} {v0 : Int32} {v1 : Int32} {hb2 : Bool} {v3 : Int32} {t : Nat} (cx : Cx E p s args m c own cc nL) (hW : WW E ws G H) (hS : va_S F H0 H locs) (hq : G q = some ((.inr (0, [.int 0, .int 0, .int 0, .int 0, .null]) : va_E))) (hFq : F q) (zl : Cond.methodLink own index yX0_init ∈ AllW) (zR : 2 ≤ R.frames ∧ 8 + (6 + 11) + 40 ≤ R.locals) (zs : ls.size = nL) (zt : st0 = ([.int v0, .int v1, .int (bI hb2), .int v3, .ref t] : List Value).reverse ++ .ref q :: rest) (z8 : (rest.map fun v => v.category).sum ≤ 8) (zd : decode cc pc = .ok (.invokespecial index, 3)) (zf : cells + 0 ≤ R.cells ∧ slots + 0 ≤ R.slots) (kk : ∀ (H1 : Heap) (locs1 : List Loc), WW E ws (va_up G q (some (ceA v0 v1 (bI hb2) v3 t))) H1 → va_S F H0 H1 locs1 → W p l e R s m args below meth c H1 locs1 cells slots Q (F0 m (pc + 3) ls rest)) : W p l e R s m args below meth c H locs cells slots Q (F0 m pc ls st0) := by
  refine z_callIw cx vm_X0_init (c_X0_init l E q v0 v1 hb2 v3 t) (hW.dyn hq) hS (fun z h => h ▸ hFq) zl ⟨rfl, rfl⟩ zR rfl zs zt z8 zd zf (fun v H1 locs1 hq1 hS1 hk => ?_)
  obtain ⟨rfl, h1⟩ := hq1
  exact kk H1 locs1 (hW.setG hq h1 (fun z g1 g2 => hk.2 z g1 g2)) hS1
theorem vm_X4_init : zIm yX4_init cX4_init 3 2 := ⟨m_co_X4_init, m_in_RX4, ⟨rfl, m_im_X4_init⟩, by decide +kernel, by decide +kernel, by decide +kernel⟩
set_option maxHeartbeats 1000000 in
set_option maxRecDepth 100000 in
theorem c_X4_init (l : Launch) (E : zE) (q : Nat) (N : Nat) (o : Int32) (n : Nat) (hn : n ≤ 1000) : Met l yX4_init (.code yX4_init cX4_init 3 none :: AllW) (rmA 1 40 1 n) (zP E (fun H => va_at E.1 vwCl (q, (.inr (4, [.int 0, .null]) : va_E)) H ∧ H.size = N) [.ref q, .int o, .int (nI n)]) (zQ (fun _ v H1 => v = none ∧ ∃ r, N ≤ r ∧ va_at E.1 vwCl (q, ceW o r) H1 ∧ va_at E.1 vwCl (r, ceI E.2.1 n (fun _ => 0)) H1) (fun z => z = q ∨ N ≤ z)) 1 n (fun z => z = q ∨ N ≤ z) := by
  refine z_body (own := RX4) (by decide) rfl rfl ?_
  intro p e s m args below meth c ls cx hr hlk hnm hW hl
  have hx := cx.x
  have hb := cx.b
  obtain ⟨hW, hN0⟩ := hW
  have hl : lv_has ls 3 [(0, .ref q), (1, .int o), (2, .int (nI n))] := hl
  have hP : va_P E.1 vwCl [(q, (.inr (4, [.int 0, .null]) : va_E))] s.heap := z_sing hW
  have hD : va_D (fun z => z = q ∨ N ≤ z) [(q, (.inr (4, [.int 0, .null]) : va_E))] := va_D1 (Or.inl rfl)
  have hS : va_S (fun z => z = q ∨ N ≤ z) s.heap s.heap [] := va_S.rf
  refine lv_aload_n (pc := 0) hx hb dX4_init_0 rfl (lv_at hl 0 rfl) ?_
  refine z_oinit (pc := 1) cx hl.1 m_ml_X4_1 ⟨Nat.le_of_ble_eq_true rfl, Nat.le_of_ble_eq_true rfl⟩ (by simp [Value.category]) dX4_init_1 ?_
  refine lv_aload_n (pc := 4) hx hb dX4_init_4 rfl (lv_at hl 0 rfl) ?_
  refine lv_iload_n (pc := 5) hx hb dX4_init_5 rfl (lv_at hl 1 rfl) ?_
  refine z_putF (pc := 6) cx hnm hP hD hS 0 rfl (C := RX4) (T := TX4) (N := 2) rfl i_X4 tyX4_ok nmX4 0 (by decide) m_fl_X4_7 rfl rfl (ty := .int) (v := .int o) (by decide +kernel) rfl rfl (by simp) dX4_init_6 (fun H locs hP hD hS => ?_)
  refine lv_aload_n (pc := 9) hx hb dX4_init_9 rfl (lv_at hl 0 rfl) ?_
  refine lv_iload_n (pc := 10) hx hb dX4_init_10 rfl (lv_at hl 2 rfl) ?_
  refine lv_if_ge (pc := 11) (tgt := 18) hx hb dX4_init_11 (by decide) (fun _ => ?_) (fun c => absurd (Int32.not_lt.mp (nI_n0 (n := n) (by omega))) c)
  refine lv_iload_n (pc := 18) hx hb dX4_init_18 rfl (lv_at hl 2 rfl) ?_
  have hz0 := hS.1
  refine z_newI (pc := 19) cx hP hD hS (fun z h => Or.inr (hN0 ▸ h)) hn (by show _ + 1 ≤ 1 ∧ _ + n ≤ n; omega) dX4_init_19 (fun r H hr0 hP hD hS => ?_)
  have hr1 : N ≤ r := hN0 ▸ Nat.le_trans hz0 hr0
  refine z_putF (pc := 21) cx hnm hP hD hS 0 rfl (C := RX4) (T := TX4) (N := 2) rfl i_X4 tyX4_ok nmX4 1 (by decide) m_fl_X4_13 rfl rfl (ty := .array .int) (v := .ref r) (by decide +kernel) rfl rfl (by simp) dX4_init_21 (fun H locs hP hD hS => ?_)
  refine W.widen (k := 1) (n := n) (by omega) (by omega) ?_
  exact z_wvret (pc := 24) cx hr hlk dX4_init_24 hS ⟨rfl, r, hr1, hP 0 _ rfl, hP 1 _ rfl⟩
theorem k_X4_init {p : Program} {l : Launch} {e : Env} {R : Room} {s : State} {m : MethodId} {args : Array Value} {below : List Frame} {meth : Method} {c : Code} {H H0 : Heap} {locs : List Loc} {cells slots : Nat} {Q : State → Prop} {cc : ByteArray} {pc index : Nat} {ls : Array Slot} {rest st0 : List Value} {E : zE} {own : String} {nL : Nat} {ws : va_W} {G : zG} {F : Nat → Prop} {q : Nat} {o : Int32} {n : Nat} (hn : n ≤ 1000) (cx : Cx E p s args m c own cc nL) (hW : WW E ws G H) (hS : va_S F H0 H locs) (hq : G q = some ((.inr (4, [.int 0, .null]) : va_E))) (hFq : F q) (hFN : ∀ z, H0.size ≤ z → F z) (zl : Cond.methodLink own index yX4_init ∈ AllW) (zR : 2 ≤ R.frames ∧ 8 + (3 + 11) + 40 ≤ R.locals) (zs : ls.size = nL) (zt : st0 = ([.int o, .int (nI n)] : List Value).reverse ++ .ref q :: rest) (z8 : (rest.map fun v => v.category).sum ≤ 8) (zd : decode cc pc = .ok (.invokespecial index, 3)) (zf : cells + 1 ≤ R.cells ∧ slots + n ≤ R.slots) (kk : ∀ (r : Nat) (H1 : Heap) (locs1 : List Loc), H0.size ≤ r → (∀ z e, G z = some e → z ≠ r) → WW E ws (va_up (va_up G q (some (ceW o r))) r (some (ceI E.2.1 n (fun _ => 0)))) H1 → va_S F H0 H1 locs1 → W p l e R s m args below meth c H1 locs1 (cells + 1) (slots + n) Q (F0 m (pc + 3) ls rest)) : W p l e R s m args below meth c H locs cells slots Q (F0 m pc ls st0) := by
  refine z_callIw cx vm_X4_init (c_X4_init l E q H.size o n hn) ⟨hW.dyn hq, rfl⟩ hS (fun z h => h.elim (fun g => g ▸ hFq) (fun g => hFN z (Nat.le_trans hS.1 g))) zl ⟨rfl, rfl⟩ zR rfl zs zt z8 zd zf (fun v H1 locs1 hq1 hS1 hk => ?_)
  obtain ⟨rfl, r, hr, h1, h2⟩ := hq1
  have hW2 := hW.setG hq h1 (fun z g1 g2 => hk.2 z g1 (fun g => g.elim g2 (fun g3 => absurd g1 (Nat.not_lt.mpr g3))))
  refine kk r H1 locs1 (Nat.le_trans hS.1 hr) (fun z e hz => Nat.ne_of_lt (Nat.lt_of_lt_of_le (hW.ltG hz) hr)) (hW2.add (N := H.size) (fun k x hx => hW.lt k hx) (fun z x hz => ?_) hr h2) hS1
  by_cases c : z = q
  · subst c; exact hW.ltG hq
  · exact hW.ltG (e := x) (by simpa [va_up, c] using hz)
theorem vm_X5_init : zIm yX5_init cX5_init 1 0 := ⟨m_co_X5_init, m_in_RX5, ⟨rfl, m_im_X5_init⟩, by decide +kernel, by decide +kernel, by decide +kernel⟩
set_option maxHeartbeats 1000000 in
set_option maxRecDepth 100000 in
theorem c_X5_init (l : Launch) (E : zE) (q : Nat) (N : Nat)  : Met l yX5_init (.code yX5_init cX5_init 1 none :: AllW) (rmA 1 40 1 10) (zP E (fun H => va_at E.1 vwCl (q, (.inr (5, [.int 0, .int 0, .int 0, .int 0, .int 0, .null]) : va_E)) H ∧ H.size = N) [.ref q]) (zQ (fun _ v H1 => v = none ∧ ∃ r, N ≤ r ∧ va_at E.1 vwCl (q, ceS (-1) 0 0 0 0 r) H1 ∧ va_at E.1 vwCl (r, ceI E.2.1 10 (fun _ => 0)) H1) (fun z => z = q ∨ N ≤ z)) 1 10 (fun z => z = q ∨ N ≤ z) := by
  refine z_body (own := RX5) (by decide) rfl rfl ?_
  intro p e s m args below meth c ls cx hr hlk hnm hW hl
  have hx := cx.x
  have hb := cx.b
  obtain ⟨hW, hN0⟩ := hW
  have hl : lv_has ls 1 [(0, .ref q)] := hl
  have hP : va_P E.1 vwCl [(q, (.inr (5, [.int 0, .int 0, .int 0, .int 0, .int 0, .null]) : va_E))] s.heap := z_sing hW
  have hD : va_D (fun z => z = q ∨ N ≤ z) [(q, (.inr (5, [.int 0, .int 0, .int 0, .int 0, .int 0, .null]) : va_E))] := va_D1 (Or.inl rfl)
  have hS : va_S (fun z => z = q ∨ N ≤ z) s.heap s.heap [] := va_S.rf
  refine lv_aload_n (pc := 0) hx hb dX5_init_0 rfl (lv_at hl 0 rfl) ?_
  refine z_oinit (pc := 1) cx hl.1 m_ml_X5_3 ⟨Nat.le_of_ble_eq_true rfl, Nat.le_of_ble_eq_true rfl⟩ (by simp [Value.category]) dX5_init_1 ?_
  refine lv_aload_n (pc := 4) hx hb dX5_init_4 rfl (lv_at hl 0 rfl) ?_
  refine lv_iconst (pc := 5) (v := (-1)) hx hb dX5_init_5 (by decide) ?_
  refine z_putV (pc := 6) cx hP hD hS 0 rfl (C := RX5) (T := TX5) (N := 6) rfl i_X5 tyX5_ok nmX5 0 (by decide) m_fl_X5_9 rfl (ty := .int) (v := .int (-1)) (by decide +kernel) rfl rfl (by simp) dX5_init_6 (fun H locs hP hD hS => ?_)
  refine lv_aload_n (pc := 9) hx hb dX5_init_9 rfl (lv_at hl 0 rfl) ?_
  refine lv_bipush (pc := 10) (v := 10) hx hb dX5_init_10 (by decide) ?_
  have hz0 := hS.1
  refine z_newI (n := 10) (pc := 12) cx hP hD hS (fun z h => Or.inr (hN0 ▸ h)) (by decide) (by show _ + 1 ≤ 1 ∧ _ + 10 ≤ 10; omega) dX5_init_12 (fun r H hr0 hP hD hS => ?_)
  have hr1 : N ≤ r := hN0 ▸ Nat.le_trans hz0 hr0
  refine z_putF (pc := 14) cx hnm hP hD hS 0 rfl (C := RX5) (T := TX5) (N := 6) rfl i_X5 tyX5_ok nmX5 5 (by decide) m_fl_X5_15 rfl rfl (ty := .array .int) (v := .ref r) (by decide +kernel) rfl rfl (by simp) dX5_init_14 (fun H locs hP hD hS => ?_)
  refine W.widen (k := 1) (n := 10) (by omega) (by omega) ?_
  exact z_wvret (pc := 17) cx hr hlk dX5_init_17 hS ⟨rfl, r, hr1, hP 0 _ rfl, hP 1 _ rfl⟩
theorem k_X5_init {p : Program} {l : Launch} {e : Env} {R : Room} {s : State} {m : MethodId} {args : Array Value} {below : List Frame} {meth : Method} {c : Code} {H H0 : Heap} {locs : List Loc} {cells slots : Nat} {Q : State → Prop} {cc : ByteArray} {pc index : Nat} {ls : Array Slot} {rest st0 : List Value} {E : zE} {own : String} {nL : Nat} {ws : va_W} {G : zG} {F : Nat → Prop} {q : Nat}  (cx : Cx E p s args m c own cc nL) (hW : WW E ws G H) (hS : va_S F H0 H locs) (hq : G q = some ((.inr (5, [.int 0, .int 0, .int 0, .int 0, .int 0, .null]) : va_E))) (hFq : F q) (hFN : ∀ z, H0.size ≤ z → F z) (zl : Cond.methodLink own index yX5_init ∈ AllW) (zR : 2 ≤ R.frames ∧ 8 + (1 + 11) + 40 ≤ R.locals) (zs : ls.size = nL) (zt : st0 = ([] : List Value).reverse ++ .ref q :: rest) (z8 : (rest.map fun v => v.category).sum ≤ 8) (zd : decode cc pc = .ok (.invokespecial index, 3)) (zf : cells + 1 ≤ R.cells ∧ slots + 10 ≤ R.slots) (kk : ∀ (r : Nat) (H1 : Heap) (locs1 : List Loc), H0.size ≤ r → (∀ z e, G z = some e → z ≠ r) → WW E ws (va_up (va_up G q (some (ceS (-1) 0 0 0 0 r))) r (some (ceI E.2.1 10 (fun _ => 0)))) H1 → va_S F H0 H1 locs1 → W p l e R s m args below meth c H1 locs1 (cells + 1) (slots + 10) Q (F0 m (pc + 3) ls rest)) : W p l e R s m args below meth c H locs cells slots Q (F0 m pc ls st0) := by
  refine z_callIw cx vm_X5_init (c_X5_init l E q H.size ) ⟨hW.dyn hq, rfl⟩ hS (fun z h => h.elim (fun g => g ▸ hFq) (fun g => hFN z (Nat.le_trans hS.1 g))) zl ⟨rfl, rfl⟩ zR rfl zs zt z8 zd zf (fun v H1 locs1 hq1 hS1 hk => ?_)
  obtain ⟨rfl, r, hr, h1, h2⟩ := hq1
  have hW2 := hW.setG hq h1 (fun z g1 g2 => hk.2 z g1 (fun g => g.elim g2 (fun g3 => absurd g1 (Nat.not_lt.mpr g3))))
  refine kk r H1 locs1 (Nat.le_trans hS.1 hr) (fun z e hz => Nat.ne_of_lt (Nat.lt_of_lt_of_le (hW.ltG hz) hr)) (hW2.add (N := H.size) (fun k x hx => hW.lt k hx) (fun z x hz => ?_) hr h2) hS1
  by_cases c : z = q
  · subst c; exact hW.ltG hq
  · exact hW.ltG (e := x) (by simpa [va_up, c] using hz)
