theorem nI00 : nI 0 = 0 := rfl
theorem nk_ne {k : Nat} (h : k < 1000) : nI k ≠ -1000 := by
  intro q
  have h1 : (nI k).toInt = k := nI_toInt (by omega)
  rw [q] at h1
  have : (-1000 : Int32).toInt = -1000 := rfl
  omega
theorem vm_X8_takes : zVm yX8_takes cX8_takes 2 (some FieldType.boolean) 1 := ⟨m_co_X8_takes, m_in_RX8, ⟨m_im_X8_takes, m_se_X8_X8_takes⟩, by decide +kernel, by decide +kernel, by decide +kernel⟩
set_option maxHeartbeats 1000000 in
set_option maxRecDepth 100000 in
theorem c_X8_takes (l : Launch) (E : zE) (a : Nat → Nat) (sv im rd wa kp so sz el pr ts nu bu ht : Nat → Int32) (th td : Int32) (ig : Bool) (ij : Bool) (k q n z : Nat) (hn : n < 8) (hz : z ≤ 100) (hq : q ≤ z) (hk : k ≠ 100 ∧ k ≠ 110 ∧ k < 1000) : Met l yX8_takes (.code yX8_takes cX8_takes 2 (some FieldType.boolean) :: AllW) (rm0' 1 20) (zP E (fun H => WW E (wM a (E.2.1 0) sv im rd wa kp so sz el pr ts nu bu ht (bI ig) th (nI q) (nI (100 * n)) (nI z) td (bI ij)) gN H) [.ref (a 0), .int (nI k)]) (zQ (fun (_ : Heap) (v : Option Value) (H1 : Heap) => (v = some (.int (bI true)) ∧ (∀ u t, pSy (hrT el n z) k (q, u, t) = some (q + 1, u, t)) ∧ (q + 1 ≤ z) ∧ WW E (wM a (E.2.1 0) sv im rd wa kp so sz el pr ts nu bu ht (bI ig) th (nI (q + 1)) (nI (100 * n)) (nI z) td (bI ij)) gN H1) ∨ (v = some (.int (bI false)) ∧ (∀ u t, pSy (hrT el n z) k (q, u, t) = none) ∧ WW E (wM a (E.2.1 0) sv im rd wa kp so sz el pr ts nu bu ht (bI ig) th (nI q) (nI (100 * n)) (nI z) td (bI ij)) gN H1)) (mF a)) 0 0 (mF a) := by
  refine z_body (own := RX8) (by decide) rfl rfl ?_
  intro p e s m args below meth c ls cx hr hlk hnm hW hl
  have hx := cx.x
  have hb := cx.b
  have hl : lv_has ls 2 [(0, .ref (a 0)), (1, .int (nI k))] := hl
  have hS : va_S (mF a) s.heap s.heap [] := va_S.rf
  refine lv_aload_n (pc := 0) hx hb dX8_takes_0 rfl (lv_at hl 0 rfl) ?_
  refine k_X8_here (pc := 1) (q := q) (n := n) (z := z) cx hW hn hz (by omega) m_ml_X8_72 ⟨Nat.le_of_ble_eq_true rfl, Nat.le_of_ble_eq_true rfl⟩ hl.1 rfl (by simp [Value.category]) dX8_takes_1 ⟨Nat.le_refl _, Nat.le_refl _⟩ ?_
  refine lv_iload_n (pc := 4) hx hb dX8_takes_4 rfl (lv_at hl 1 rfl) ?_
  refine lv_icmp_eq (pc := 5) (tgt := 10) hx hb dX8_takes_5 (by decide) (fun c_1 => ?_) (fun c_1 => ?_)
  · skip
    have hlt := hrT_lt2 c_1 (nk_ne hk.2.2)
    refine lv_aload_n (pc := 10) hx hb dX8_takes_10 rfl (lv_at hl 0 rfl) ?_
    refine lv_dup (pc := 11) hx hb dX8_takes_11 rfl ?_
    refine z_getM (pc := 12) cx (hW.at 0 rfl) 12 rfl m_fl_X8_63 rfl dX8_takes_12 ?_
    refine lv_iconst (pc := 15) (v := 1) hx hb dX8_takes_15 (by decide) ?_
    refine lv_iadd (pc := 16) hx hb dX8_takes_16 ?_
    refine z_putMi (pc := 17) cx hW hS 0 rfl (mF_in a 0) 12 rfl m_fl_X8_63 rfl rfl dX8_takes_17 (fun H locs hW hS => ?_)
    have hW : WW E (wM a (E.2.1 0) sv im rd wa kp so sz el pr ts nu bu ht (bI ig) th ((nI q) + 1) (nI (100 * n)) (nI z) td (bI ij)) gN H := hW
    refine lv_iconst (pc := 20) (v := 1) hx hb dX8_takes_20 (by decide) ?_
    exact z_wzret (b := true) cx hr hlk dX8_takes_21 hS (Or.inl ⟨rfl, (fun u t => by rw [pSy_k ⟨hk.1, hk.2.1⟩]; exact if_pos c_1), (by omega), (by rw [show (nI (q + 1)) = (nI q) + 1 from (nI_1 q).symm]; exact hW)⟩)
  · skip
    refine lv_iconst (pc := 8) (v := 0) hx hb dX8_takes_8 (by decide) ?_
    exact z_wzret (b := false) cx hr hlk dX8_takes_9 hS (Or.inr ⟨rfl, (fun u t => by rw [pSy_k ⟨hk.1, hk.2.1⟩]; exact if_neg c_1), hW⟩)
theorem k_X8_takes {p : Program} {l : Launch} {e : Env} {R : Room} {s : State} {m : MethodId} {args : Array Value} {below : List Frame} {meth : Method} {c : Code} {H H0 : Heap} {locs : List Loc} {cells slots : Nat} {Q : State → Prop} {cc : ByteArray} {pc index : Nat} {ls : Array Slot} {rest st0 : List Value} {E : zE} {own : String} {nL : Nat} {F : Nat → Prop} {a : Nat → Nat} {sv im rd wa kp so sz el pr ts nu bu ht : Nat → Int32} {th td : Int32} {ig : Bool} {ij : Bool} {k q n z : Nat} (cx : Cx E p s args m c own cc nL) (hW : WW E (wM a (E.2.1 0) sv im rd wa kp so sz el pr ts nu bu ht (bI ig) th (nI q) (nI (100 * n)) (nI z) td (bI ij)) gN H) (hS : va_S F H0 H locs) (zF : ∀ q, (mF a) q → F q) (hn : n < 8) (hz : z ≤ 100) (hq : q ≤ z) (hk : k ≠ 100 ∧ k ≠ 110 ∧ k < 1000) (zl : Cond.methodLink own index yX8_takes ∈ AllW) (zR : 1 + 1 ≤ R.frames ∧ 8 + (2 + 11) + 20 ≤ R.locals) (zs : ls.size = nL) (zt : st0 = ([.int (nI k)] : List Value).reverse ++ .ref (a 0) :: rest) (z8 : (rest.map fun v => v.category).sum ≤ 8) (zd : decode cc pc = .ok (.invokevirtual index, 3)) (zf : cells ≤ R.cells ∧ slots ≤ R.slots) (kk0 : ∀  (H1 : Heap) (locs1 : List Loc), (∀ u t, pSy (hrT el n z) k (q, u, t) = some (q + 1, u, t)) → (q + 1 ≤ z) → WW E (wM a (E.2.1 0) sv im rd wa kp so sz el pr ts nu bu ht (bI ig) th (nI (q + 1)) (nI (100 * n)) (nI z) td (bI ij)) gN H1 → va_S F H0 H1 locs1 → W p l e R s m args below meth c H1 locs1 cells slots Q (F0 m (pc + 3) ls (.int 1 :: rest))) (kk1 : ∀  (H1 : Heap) (locs1 : List Loc), (∀ u t, pSy (hrT el n z) k (q, u, t) = none) → WW E (wM a (E.2.1 0) sv im rd wa kp so sz el pr ts nu bu ht (bI ig) th (nI q) (nI (100 * n)) (nI z) td (bI ij)) gN H1 → va_S F H0 H1 locs1 → W p l e R s m args below meth c H1 locs1 cells slots Q (F0 m (pc + 3) ls (.int 0 :: rest))) : W p l e R s m args below meth c H locs cells slots Q (F0 m pc ls st0) := by
  refine z_callVw cx vm_X8_takes (c_X8_takes l E a sv im rd wa kp so sz el pr ts nu bu ht th td ig ij k q n z hn hz hq hk) (z_rec cx.2 (hW.at 0 rfl) rfl) hW hS zF zl ⟨rfl, rfl⟩ zR rfl zs zt z8 zd zf (fun v H1 locs1 hq hS1 _ => ?_)
  rcases hq with ⟨rfl, hf, hqz, hW1⟩ | ⟨rfl, hf, hW1⟩
  · exact kk0  H1 locs1 hf hqz hW1 hS1
  · exact kk1  H1 locs1 hf hW1 hS1
theorem vm_X8_readsDigit : zVm yX8_readsDigit cX8_readsDigit 1 (some FieldType.boolean) 0 := ⟨m_co_X8_readsDigit, m_in_RX8, ⟨m_im_X8_readsDigit, m_se_X8_X8_readsDigit⟩, by decide +kernel, by decide +kernel, by decide +kernel⟩
set_option maxHeartbeats 1000000 in
set_option maxRecDepth 100000 in
theorem c_X8_readsDigit (l : Launch) (E : zE) (a : Nat → Nat) (sv im rd wa kp so sz el pr ts nu bu ht : Nat → Int32) (th : Int32) (ig : Bool) (ij : Bool) (q n z t : Nat) (hn : n < 8) (hz : z ≤ 100) (hq : q ≤ z) (h5 : t < 5) : Met l yX8_readsDigit (.code yX8_readsDigit cX8_readsDigit 1 (some FieldType.boolean) :: AllW) (rm0' 2 45) (zP E (fun H => WW E (wM a (E.2.1 0) sv im rd wa kp so sz el pr ts nu bu ht (bI ig) th (nI q) (nI (100 * n)) (nI z) (nI t) (bI ij)) gN H) [.ref (a 0)]) (zQ (fun (_ : Heap) (v : Option Value) (H1 : Heap) => (v = some (.int (bI true)) ∧ (pSy (hrT el n z) 100 (q, nu, t) = some (q + 1, upd nu t (hrT el n z q - 48), t + 1)) ∧ (q + 1 ≤ z) ∧ WW E (wM a (E.2.1 0) sv im rd wa kp so sz el pr ts (upd nu t (hrT el n z q - 48)) bu ht (bI ig) th (nI (q + 1)) (nI (100 * n)) (nI z) (nI (t + 1)) (bI ij)) gN H1) ∨ (v = some (.int (bI false)) ∧ (pSy (hrT el n z) 100 (q, nu, t) = none) ∧ WW E (wM a (E.2.1 0) sv im rd wa kp so sz el pr ts nu bu ht (bI ig) th (nI q) (nI (100 * n)) (nI z) (nI t) (bI ij)) gN H1)) (mF a)) 0 0 (mF a) := by
  refine z_body (own := RX8) (by decide) rfl rfl ?_
  intro p e s m args below meth c ls cx hr hlk hnm hW hl
  have hx := cx.x
  have hb := cx.b
  have hl : lv_has ls 1 [(0, .ref (a 0))] := hl
  have hS : va_S (mF a) s.heap s.heap [] := va_S.rf
  refine lv_aload_n (pc := 0) hx hb dX8_readsDigit_0 rfl (lv_at hl 0 rfl) ?_
  refine k_X8_isDigit (pc := 1) (q := q) (n := n) (z := z) cx hW hn hz (by omega) m_ml_X8_80 ⟨Nat.le_of_ble_eq_true rfl, Nat.le_of_ble_eq_true rfl⟩ hl.1 rfl (by simp [Value.category]) dX8_readsDigit_1 ⟨Nat.le_refl _, Nat.le_refl _⟩ ?_
  refine z_ifne (pc := 4) (tgt := 9) hx hb dX8_readsDigit_4 (by decide) (fun c_1 => ?_) (fun c_1 => ?_)
  · skip
    refine lv_aload_n (pc := 9) hx hb dX8_readsDigit_9 rfl (lv_at hl 0 rfl) ?_
    refine z_getM (pc := 10) cx (hW.at 0 rfl) 16 rfl m_fl_X8_40 rfl dX8_readsDigit_10 ?_
    refine lv_aload_n (pc := 13) hx hb dX8_readsDigit_13 rfl (lv_at hl 0 rfl) ?_
    refine z_getM (pc := 14) cx (hW.at 0 rfl) 15 rfl m_fl_X8_84 rfl dX8_readsDigit_14 ?_
    refine lv_aload_n (pc := 17) hx hb dX8_readsDigit_17 rfl (lv_at hl 0 rfl) ?_
    refine k_X8_here (pc := 18) (q := q) (n := n) (z := z) cx hW hn hz (by omega) m_ml_X8_72 ⟨Nat.le_of_ble_eq_true rfl, Nat.le_of_ble_eq_true rfl⟩ hl.1 rfl (by simp [Value.category]) dX8_readsDigit_18 ⟨Nat.le_refl _, Nat.le_refl _⟩ ?_
    refine lv_bipush (pc := 21) (v := 48) hx hb dX8_readsDigit_21 (by decide) ?_
    refine lv_isub (pc := 23) hx hb dX8_readsDigit_23 ?_
    refine z_iast (pc := 24) (f := nu) (j := t) cx hW hS 11 rfl (mF_in a 11) rfl (by omega) (by decide) dX8_readsDigit_24 (fun H locs hW hS => ?_)
    have hW : WW E (wM a (E.2.1 0) sv im rd wa kp so sz el pr ts (upd nu t ((hrT el n z q) - 48)) bu ht (bI ig) th (nI q) (nI (100 * n)) (nI z) (nI t) (bI ij)) gN H := hW
    refine lv_aload_n (pc := 25) hx hb dX8_readsDigit_25 rfl (lv_at hl 0 rfl) ?_
    refine lv_dup (pc := 26) hx hb dX8_readsDigit_26 rfl ?_
    refine z_getM (pc := 27) cx (hW.at 0 rfl) 15 rfl m_fl_X8_84 rfl dX8_readsDigit_27 ?_
    refine lv_iconst (pc := 30) (v := 1) hx hb dX8_readsDigit_30 (by decide) ?_
    refine lv_iadd (pc := 31) hx hb dX8_readsDigit_31 ?_
    refine z_putMi (pc := 32) cx hW hS 0 rfl (mF_in a 0) 15 rfl m_fl_X8_84 rfl rfl dX8_readsDigit_32 (fun H locs hW hS => ?_)
    have hW : WW E (wM a (E.2.1 0) sv im rd wa kp so sz el pr ts (upd nu t ((hrT el n z q) - 48)) bu ht (bI ig) th (nI q) (nI (100 * n)) (nI z) ((nI t) + 1) (bI ij)) gN H := hW
    refine lv_aload_n (pc := 35) hx hb dX8_readsDigit_35 rfl (lv_at hl 0 rfl) ?_
    refine lv_dup (pc := 36) hx hb dX8_readsDigit_36 rfl ?_
    refine z_getM (pc := 37) cx (hW.at 0 rfl) 12 rfl m_fl_X8_63 rfl dX8_readsDigit_37 ?_
    refine lv_iconst (pc := 40) (v := 1) hx hb dX8_readsDigit_40 (by decide) ?_
    refine lv_iadd (pc := 41) hx hb dX8_readsDigit_41 ?_
    refine z_putMi (pc := 42) cx hW hS 0 rfl (mF_in a 0) 12 rfl m_fl_X8_63 rfl rfl dX8_readsDigit_42 (fun H locs hW hS => ?_)
    have hW : WW E (wM a (E.2.1 0) sv im rd wa kp so sz el pr ts (upd nu t ((hrT el n z q) - 48)) bu ht (bI ig) th ((nI q) + 1) (nI (100 * n)) (nI z) ((nI t) + 1) (bI ij)) gN H := hW
    refine lv_iconst (pc := 45) (v := 1) hx hb dX8_readsDigit_45 (by decide) ?_
    exact z_wzret (b := true) cx hr hlk dX8_readsDigit_46 hS (Or.inl ⟨rfl, (by rw [pSy_d]; exact if_pos c_1), (by have := hrT_lt c_1; omega), (by rw [show (nI (q + 1)) = (nI q) + 1 from (nI_1 q).symm, show (upd nu t (hrT el n z q - 48)) = upd nu t ((hrT el n z q) - 48) from (by first | rfl | (simp [c_1]; done)), show (nI (t + 1)) = (nI t) + 1 from (nI_1 t).symm]; exact hW)⟩)
  · skip
    refine lv_iconst (pc := 7) (v := 0) hx hb dX8_readsDigit_7 (by decide) ?_
    exact z_wzret (b := false) cx hr hlk dX8_readsDigit_8 hS (Or.inr ⟨rfl, (by rw [pSy_d]; exact if_neg (by simp [c_1])), hW⟩)
theorem k_X8_readsDigit {p : Program} {l : Launch} {e : Env} {R : Room} {s : State} {m : MethodId} {args : Array Value} {below : List Frame} {meth : Method} {c : Code} {H H0 : Heap} {locs : List Loc} {cells slots : Nat} {Q : State → Prop} {cc : ByteArray} {pc index : Nat} {ls : Array Slot} {rest st0 : List Value} {E : zE} {own : String} {nL : Nat} {F : Nat → Prop} {a : Nat → Nat} {sv im rd wa kp so sz el pr ts nu bu ht : Nat → Int32} {th : Int32} {ig : Bool} {ij : Bool} {q n z t : Nat} (cx : Cx E p s args m c own cc nL) (hW : WW E (wM a (E.2.1 0) sv im rd wa kp so sz el pr ts nu bu ht (bI ig) th (nI q) (nI (100 * n)) (nI z) (nI t) (bI ij)) gN H) (hS : va_S F H0 H locs) (zF : ∀ q, (mF a) q → F q) (hn : n < 8) (hz : z ≤ 100) (hq : q ≤ z) (h5 : t < 5) (zl : Cond.methodLink own index yX8_readsDigit ∈ AllW) (zR : 2 + 1 ≤ R.frames ∧ 8 + (1 + 11) + 45 ≤ R.locals) (zs : ls.size = nL) (zt : st0 = ([] : List Value).reverse ++ .ref (a 0) :: rest) (z8 : (rest.map fun v => v.category).sum ≤ 8) (zd : decode cc pc = .ok (.invokevirtual index, 3)) (zf : cells ≤ R.cells ∧ slots ≤ R.slots) (kk0 : ∀  (H1 : Heap) (locs1 : List Loc), (pSy (hrT el n z) 100 (q, nu, t) = some (q + 1, upd nu t (hrT el n z q - 48), t + 1)) → (q + 1 ≤ z) → WW E (wM a (E.2.1 0) sv im rd wa kp so sz el pr ts (upd nu t (hrT el n z q - 48)) bu ht (bI ig) th (nI (q + 1)) (nI (100 * n)) (nI z) (nI (t + 1)) (bI ij)) gN H1 → va_S F H0 H1 locs1 → W p l e R s m args below meth c H1 locs1 cells slots Q (F0 m (pc + 3) ls (.int 1 :: rest))) (kk1 : ∀  (H1 : Heap) (locs1 : List Loc), (pSy (hrT el n z) 100 (q, nu, t) = none) → WW E (wM a (E.2.1 0) sv im rd wa kp so sz el pr ts nu bu ht (bI ig) th (nI q) (nI (100 * n)) (nI z) (nI t) (bI ij)) gN H1 → va_S F H0 H1 locs1 → W p l e R s m args below meth c H1 locs1 cells slots Q (F0 m (pc + 3) ls (.int 0 :: rest))) : W p l e R s m args below meth c H locs cells slots Q (F0 m pc ls st0) := by
  refine z_callVw cx vm_X8_readsDigit (c_X8_readsDigit l E a sv im rd wa kp so sz el pr ts nu bu ht th ig ij q n z t hn hz hq h5) (z_rec cx.2 (hW.at 0 rfl) rfl) hW hS zF zl ⟨rfl, rfl⟩ zR rfl zs zt z8 zd zf (fun v H1 locs1 hq hS1 _ => ?_)
  rcases hq with ⟨rfl, hf, hqz, hW1⟩ | ⟨rfl, hf, hW1⟩
  · exact kk0  H1 locs1 hf hqz hW1 hS1
  · exact kk1  H1 locs1 hf hW1 hS1
theorem vm_X8_readsNumber : zVm yX8_readsNumber cX8_readsNumber 2 (some FieldType.boolean) 0 := ⟨m_co_X8_readsNumber, m_in_RX8, ⟨m_im_X8_readsNumber, m_se_X8_X8_readsNumber⟩, by decide +kernel, by decide +kernel, by decide +kernel⟩
set_option maxHeartbeats 1000000 in
set_option maxRecDepth 100000 in
theorem c_X8_readsNumber (l : Launch) (E : zE) (a : Nat → Nat) (sv im rd wa kp so sz el pr ts nu bu ht : Nat → Int32) (th : Int32) (ig : Bool) (ij : Bool) (q n z t : Nat) (hn : n < 8) (hz : z ≤ 100) (hq : q ≤ z) (h5 : t < 5) : Met l yX8_readsNumber (.code yX8_readsNumber cX8_readsNumber 2 (some FieldType.boolean) :: AllW) (rm0' 3 65) (zP E (fun H => WW E (wM a (E.2.1 0) sv im rd wa kp so sz el pr ts nu bu ht (bI ig) th (nI q) (nI (100 * n)) (nI z) (nI t) (bI ij)) gN H) [.ref (a 0)]) (zQ (fun (_ : Heap) (v : Option Value) (H1 : Heap) => (∃ (q2 : Nat) (v2 : Int32), v = some (.int (bI true)) ∧ (pSy (hrT el n z) 110 (q, nu, t) = some (q2, upd nu t v2, t + 1)) ∧ (q2 ≤ z) ∧ WW E (wM a (E.2.1 0) sv im rd wa kp so sz el pr ts (upd nu t v2) bu ht (bI ig) th (nI q2) (nI (100 * n)) (nI z) (nI (t + 1)) (bI ij)) gN H1) ∨ (v = some (.int (bI false)) ∧ (pSy (hrT el n z) 110 (q, nu, t) = none) ∧ WW E (wM a (E.2.1 0) sv im rd wa kp so sz el pr ts nu bu ht (bI ig) th (nI q) (nI (100 * n)) (nI z) (nI t) (bI ij)) gN H1)) (mF a)) 0 0 (mF a) := by
  refine z_body (own := RX8) (by decide) rfl rfl ?_
  intro p e s m args below meth c ls cx hr hlk hnm hW hl
  have hx := cx.x
  have hb := cx.b
  have hl : lv_has ls 2 [(0, .ref (a 0))] := hl
  have hS : va_S (mF a) s.heap s.heap [] := va_S.rf
  refine lv_aload_n (pc := 0) hx hb dX8_readsNumber_0 rfl (lv_at hl 0 rfl) ?_
  refine k_X8_readsDigit (pc := 1) (q := q) (n := n) (z := z) (t := t) cx hW hS (fun _ h => h) hn hz (by omega) h5 m_ml_X8_87 ⟨Nat.le_of_ble_eq_true rfl, Nat.le_of_ble_eq_true rfl⟩ hl.1 rfl (by simp [Value.category]) dX8_readsNumber_1 ⟨Nat.le_refl _, Nat.le_refl _⟩ (fun  H locs hf hqz hW hS => ?_) (fun  H locs hf hW hS => ?_)
  · skip
    have hW : WW E (wM a (E.2.1 0) sv im rd wa kp so sz el pr ts (upd nu t (hrT el n z q - 48)) bu ht (bI ig) th (nI (q + 1)) (nI (100 * n)) (nI z) (nI (t + 1)) (bI ij)) gN H := hW
    have hf1 := pSy_d1 hf
    refine lv_if_ne (pc := 4) (tgt := 9) hx hb dX8_readsNumber_4 (by decide) (fun _ => ?_) (fun c => absurd c (by decide))
    refine lv_iconst (pc := 9) (v := 1) hx hb dX8_readsNumber_9 (by decide) ?_
    refine lv_istore_n (pc := 10) (lv' := [(1, .int 1), (0, .ref (a 0))]) hx hb dX8_readsNumber_10 rfl hl (by decide) rfl (fun ls hl => ?_)
    have loop_11 : ∀ (k_11 : Nat) (i : Nat) (x1 : Int32), (3 - i) < k_11 → (1 ≤ i ∧ i ≤ 3) → x1 = nI i → ∀ (r : Nat) (w : Int32) (H : Heap) (locs : List Loc), (nb (hrT el n z) 2 (q + 1) (hrT el n z q - 48) = nb (hrT el n z) (3 - i) r w) → (r ≤ z) → WW E (wM a (E.2.1 0) sv im rd wa kp so sz el pr ts (upd nu t w) bu ht (bI ig) th (nI r) (nI (100 * n)) (nI z) (nI (t + 1)) (bI ij)) gN H → va_S (mF a) s.heap H locs → ∀ (ls : Array Slot), lv_has ls 2 [(1, .int x1), (0, .ref (a 0))] → W p l e (rm0' (3) (65)) s m args below meth c H locs 0 0 (MQ below (zQ (fun (_ : Heap) (v : Option Value) (H1 : Heap) => (∃ (q2 : Nat) (v2 : Int32), v = some (.int (bI true)) ∧ (pSy (hrT el n z) 110 (q, nu, t) = some (q2, upd nu t v2, t + 1)) ∧ (q2 ≤ z) ∧ WW E (wM a (E.2.1 0) sv im rd wa kp so sz el pr ts (upd nu t v2) bu ht (bI ig) th (nI q2) (nI (100 * n)) (nI z) (nI (t + 1)) (bI ij)) gN H1) ∨ (v = some (.int (bI false)) ∧ (pSy (hrT el n z) 110 (q, nu, t) = none) ∧ WW E (wM a (E.2.1 0) sv im rd wa kp so sz el pr ts nu bu ht (bI ig) th (nI q) (nI (100 * n)) (nI z) (nI t) (bI ij)) gN H1)) (mF a)) args s 0 0 (mF a)) (F0 m 11 ls []) := by
      intro k_11
      induction k_11 with
      | zero =>
        intro i x1 hm
        exact absurd hm (Nat.not_lt_zero _)
      | succ k_11 ih_11 =>
        intro i x1 hm_11 hi e_x1 r w H locs hrn hrz hW hS ls hl
        subst e_x1
        refine lv_iload_n (pc := 11) hx hb dX8_readsNumber_11 rfl (lv_at hl 0 rfl) ?_
        refine lv_iconst (pc := 12) (v := 3) hx hb dX8_readsNumber_12 (by decide) ?_
        refine lv_icmp_ge (pc := 13) (tgt := 86) hx hb dX8_readsNumber_13 (by decide) (fun c_2 => ?_) (fun c_2 => ?_)
        · skip
          have hi3 := ge_nat (a := i) (b := 3) rfl rfl (by omega) (by omega) c_2
          have hst : 3 - i = 0 ∨ ¬ 0 < w ∨ inL (hrT el n z r) 48 57 = false := Or.inl (by omega)
          refine lv_iconst (pc := 86) (v := 1) hx hb dX8_readsNumber_86 (by decide) ?_
          exact z_wzret (b := true) cx hr hlk dX8_readsNumber_87 hS (Or.inl ⟨r, w, rfl, (by rw [pSy_n, if_pos hf1]; simp only [hrn, nb_stop hst]), hrz, (by exact hW)⟩)
        · skip
          have hi3 := lt_nat (a := i) (b := 3) rfl rfl (by omega) (by omega) c_2
          refine lv_aload_n (pc := 16) hx hb dX8_readsNumber_16 rfl (lv_at hl 1 rfl) ?_
          refine z_getM (pc := 17) cx (hW.at 0 rfl) 16 rfl m_fl_X8_40 rfl dX8_readsNumber_17 ?_
          refine lv_aload_n (pc := 20) hx hb dX8_readsNumber_20 rfl (lv_at hl 1 rfl) ?_
          refine z_getM (pc := 21) cx (hW.at 0 rfl) 15 rfl m_fl_X8_84 rfl dX8_readsNumber_21 ?_
          refine lv_iconst (pc := 24) (v := 1) hx hb dX8_readsNumber_24 (by decide) ?_
          refine lv_isub (pc := 25) hx hb dX8_readsNumber_25 ?_
          refine z_iald (pc := 26) (f := upd nu t w) (j := t) cx (hW.at 11 rfl) (nI_p1 t) (by omega) (by decide) dX8_readsNumber_26 ?_
          refine z_tope (y := w) (upd_self nu t w) ?_
          refine lv_if_le (pc := 27) (tgt := 86) hx hb dX8_readsNumber_27 (by decide) (fun c_3 => ?_) (fun c_3 => ?_)
          · skip
            have hst : 3 - i = 0 ∨ ¬ 0 < w ∨ inL (hrT el n z r) 48 57 = false := Or.inr (Or.inl (i_nlt.mpr c_3))
            refine lv_iconst (pc := 86) (v := 1) hx hb dX8_readsNumber_86 (by decide) ?_
            exact z_wzret (b := true) cx hr hlk dX8_readsNumber_87 hS (Or.inl ⟨r, w, rfl, (by rw [pSy_n, if_pos hf1]; simp only [hrn, nb_stop hst]), hrz, (by exact hW)⟩)
          · skip
            have hw0 := i_nle.mp c_3
            refine lv_aload_n (pc := 30) hx hb dX8_readsNumber_30 rfl (lv_at hl 1 rfl) ?_
            refine k_X8_isDigit (pc := 31) (q := r) (n := n) (z := z) cx hW hn hz (by omega) m_ml_X8_80 ⟨Nat.le_of_ble_eq_true rfl, Nat.le_of_ble_eq_true rfl⟩ hl.1 rfl (by simp [Value.category]) dX8_readsNumber_31 ⟨Nat.le_refl _, Nat.le_refl _⟩ ?_
            refine z_ifeq (pc := 34) (tgt := 86) hx hb dX8_readsNumber_34 (by decide) (fun c_4 => ?_) (fun c_4 => ?_)
            · skip
              have hst : 3 - i = 0 ∨ ¬ 0 < w ∨ inL (hrT el n z r) 48 57 = false := Or.inr (Or.inr c_4)
              refine lv_iconst (pc := 86) (v := 1) hx hb dX8_readsNumber_86 (by decide) ?_
              exact z_wzret (b := true) cx hr hlk dX8_readsNumber_87 hS (Or.inl ⟨r, w, rfl, (by rw [pSy_n, if_pos hf1]; simp only [hrn, nb_stop hst]), hrz, (by exact hW)⟩)
            · skip
              have hdg := c_4
              have hrz2 := hrT_lt c_4
              refine lv_aload_n (pc := 37) hx hb dX8_readsNumber_37 rfl (lv_at hl 1 rfl) ?_
              refine z_getM (pc := 38) cx (hW.at 0 rfl) 16 rfl m_fl_X8_40 rfl dX8_readsNumber_38 ?_
              refine lv_aload_n (pc := 41) hx hb dX8_readsNumber_41 rfl (lv_at hl 1 rfl) ?_
              refine z_getM (pc := 42) cx (hW.at 0 rfl) 15 rfl m_fl_X8_84 rfl dX8_readsNumber_42 ?_
              refine lv_iconst (pc := 45) (v := 1) hx hb dX8_readsNumber_45 (by decide) ?_
              refine lv_isub (pc := 46) hx hb dX8_readsNumber_46 ?_
              refine lv_bipush (pc := 47) (v := 10) hx hb dX8_readsNumber_47 (by decide) ?_
              refine lv_aload_n (pc := 49) hx hb dX8_readsNumber_49 rfl (lv_at hl 1 rfl) ?_
              refine z_getM (pc := 50) cx (hW.at 0 rfl) 16 rfl m_fl_X8_40 rfl dX8_readsNumber_50 ?_
              refine lv_aload_n (pc := 53) hx hb dX8_readsNumber_53 rfl (lv_at hl 1 rfl) ?_
              refine z_getM (pc := 54) cx (hW.at 0 rfl) 15 rfl m_fl_X8_84 rfl dX8_readsNumber_54 ?_
              refine lv_iconst (pc := 57) (v := 1) hx hb dX8_readsNumber_57 (by decide) ?_
              refine lv_isub (pc := 58) hx hb dX8_readsNumber_58 ?_
              refine z_iald (pc := 59) (f := upd nu t w) (j := t) cx (hW.at 11 rfl) (nI_p1 t) (by omega) (by decide) dX8_readsNumber_59 ?_
              refine z_tope (y := w) (upd_self nu t w) ?_
              refine lv_imul (pc := 60) hx hb dX8_readsNumber_60 ?_
              refine lv_aload_n (pc := 61) hx hb dX8_readsNumber_61 rfl (lv_at hl 1 rfl) ?_
              refine k_X8_here (pc := 62) (q := r) (n := n) (z := z) cx hW hn hz (by omega) m_ml_X8_72 ⟨Nat.le_of_ble_eq_true rfl, Nat.le_of_ble_eq_true rfl⟩ hl.1 rfl (by simp [Value.category]) dX8_readsNumber_62 ⟨Nat.le_refl _, Nat.le_refl _⟩ ?_
              refine lv_iadd (pc := 65) hx hb dX8_readsNumber_65 ?_
              refine lv_bipush (pc := 66) (v := 48) hx hb dX8_readsNumber_66 (by decide) ?_
              refine lv_isub (pc := 68) hx hb dX8_readsNumber_68 ?_
              refine z_iast (pc := 69) (f := upd nu t w) (j := t) cx hW hS 11 rfl (mF_in a 11) (nI_p1 t) (by omega) (by decide) dX8_readsNumber_69 (fun H locs hW hS => ?_)
              have hW : WW E (wM a (E.2.1 0) sv im rd wa kp so sz el pr ts (upd (upd nu t w) t (((10 * w) + (hrT el n z r)) - 48)) bu ht (bI ig) th (nI r) (nI (100 * n)) (nI z) (nI (t + 1)) (bI ij)) gN H := hW
              rw [upd_upd] at hW
              have hW : WW E (wM a (E.2.1 0) sv im rd wa kp so sz el pr ts (upd nu t (10 * w + hrT el n z r - 48)) bu ht (bI ig) th (nI r) (nI (100 * n)) (nI z) (nI (t + 1)) (bI ij)) gN H := hW
              refine lv_aload_n (pc := 70) hx hb dX8_readsNumber_70 rfl (lv_at hl 1 rfl) ?_
              refine lv_dup (pc := 71) hx hb dX8_readsNumber_71 rfl ?_
              refine z_getM (pc := 72) cx (hW.at 0 rfl) 12 rfl m_fl_X8_63 rfl dX8_readsNumber_72 ?_
              refine lv_iconst (pc := 75) (v := 1) hx hb dX8_readsNumber_75 (by decide) ?_
              refine lv_iadd (pc := 76) hx hb dX8_readsNumber_76 ?_
              refine z_putMi (pc := 77) cx hW hS 0 rfl (mF_in a 0) 12 rfl m_fl_X8_63 rfl rfl dX8_readsNumber_77 (fun H locs hW hS => ?_)
              have hW : WW E (wM a (E.2.1 0) sv im rd wa kp so sz el pr ts (upd nu t (10 * w + hrT el n z r - 48)) bu ht (bI ig) th ((nI r) + 1) (nI (100 * n)) (nI z) (nI (t + 1)) (bI ij)) gN H := hW
              rw [nI_1 r] at hW
              have hW : WW E (wM a (E.2.1 0) sv im rd wa kp so sz el pr ts (upd nu t (10 * w + hrT el n z r - 48)) bu ht (bI ig) th (nI (r + 1)) (nI (100 * n)) (nI z) (nI (t + 1)) (bI ij)) gN H := hW
              refine lv_iinc (pc := 80) (v := nI (i + 1)) (lv' := [(1, .int (nI (i + 1))), (0, .ref (a 0))]) hx hb dX8_readsNumber_80 hl (k := 0) rfl (nI_1 _) (by decide) rfl (fun ls hl => ?_)
              refine lv_goto (pc := 83) (tgt := 11) hx hb dX8_readsNumber_83 (by decide) ?_
              exact ih_11 (i + 1) (nI (i + 1)) (by omega) (by omega) (by first | rfl | (simp [c_2, c_3, c_4, i_nle.mp c_2, i_nle.mp c_3]; done)) (r + 1) (10 * w + hrT el n z r - 48) _ _ (by rw [hrn, nb_go (by omega) hw0 hdg]; congr 1) (by omega) (hW) hS ls (lv_sub hl [0, 1] rfl)
    exact loop_11 ((3 - 1) + 1) 1 1 (Nat.lt_succ_self _) (by omega) (by first | rfl | (simp []; done)) (q + 1) (hrT el n z q - 48) _ _ rfl (by omega) (hW) hS ls (lv_sub hl [0, 1] rfl)
  · skip
    have hW : WW E (wM a (E.2.1 0) sv im rd wa kp so sz el pr ts nu bu ht (bI ig) th (nI q) (nI (100 * n)) (nI z) (nI t) (bI ij)) gN H := hW
    refine lv_if_ne (pc := 4) (tgt := 9) hx hb dX8_readsNumber_4 (by decide) (fun c => (c (by decide)).elim) (fun _ => ?_)
    refine lv_iconst (pc := 7) (v := 0) hx hb dX8_readsNumber_7 (by decide) ?_
    exact z_wzret (b := false) cx hr hlk dX8_readsNumber_8 hS (Or.inr ⟨rfl, (by rw [pSy_n]; exact if_neg (pSy_d0 hf)), hW⟩)
theorem k_X8_readsNumber {p : Program} {l : Launch} {e : Env} {R : Room} {s : State} {m : MethodId} {args : Array Value} {below : List Frame} {meth : Method} {c : Code} {H H0 : Heap} {locs : List Loc} {cells slots : Nat} {Q : State → Prop} {cc : ByteArray} {pc index : Nat} {ls : Array Slot} {rest st0 : List Value} {E : zE} {own : String} {nL : Nat} {F : Nat → Prop} {a : Nat → Nat} {sv im rd wa kp so sz el pr ts nu bu ht : Nat → Int32} {th : Int32} {ig : Bool} {ij : Bool} {q n z t : Nat} (cx : Cx E p s args m c own cc nL) (hW : WW E (wM a (E.2.1 0) sv im rd wa kp so sz el pr ts nu bu ht (bI ig) th (nI q) (nI (100 * n)) (nI z) (nI t) (bI ij)) gN H) (hS : va_S F H0 H locs) (zF : ∀ q, (mF a) q → F q) (hn : n < 8) (hz : z ≤ 100) (hq : q ≤ z) (h5 : t < 5) (zl : Cond.methodLink own index yX8_readsNumber ∈ AllW) (zR : 3 + 1 ≤ R.frames ∧ 8 + (2 + 11) + 65 ≤ R.locals) (zs : ls.size = nL) (zt : st0 = ([] : List Value).reverse ++ .ref (a 0) :: rest) (z8 : (rest.map fun v => v.category).sum ≤ 8) (zd : decode cc pc = .ok (.invokevirtual index, 3)) (zf : cells ≤ R.cells ∧ slots ≤ R.slots) (kk0 : ∀ (q2 : Nat) (v2 : Int32) (H1 : Heap) (locs1 : List Loc), (pSy (hrT el n z) 110 (q, nu, t) = some (q2, upd nu t v2, t + 1)) → (q2 ≤ z) → WW E (wM a (E.2.1 0) sv im rd wa kp so sz el pr ts (upd nu t v2) bu ht (bI ig) th (nI q2) (nI (100 * n)) (nI z) (nI (t + 1)) (bI ij)) gN H1 → va_S F H0 H1 locs1 → W p l e R s m args below meth c H1 locs1 cells slots Q (F0 m (pc + 3) ls (.int 1 :: rest))) (kk1 : ∀  (H1 : Heap) (locs1 : List Loc), (pSy (hrT el n z) 110 (q, nu, t) = none) → WW E (wM a (E.2.1 0) sv im rd wa kp so sz el pr ts nu bu ht (bI ig) th (nI q) (nI (100 * n)) (nI z) (nI t) (bI ij)) gN H1 → va_S F H0 H1 locs1 → W p l e R s m args below meth c H1 locs1 cells slots Q (F0 m (pc + 3) ls (.int 0 :: rest))) : W p l e R s m args below meth c H locs cells slots Q (F0 m pc ls st0) := by
  refine z_callVw cx vm_X8_readsNumber (c_X8_readsNumber l E a sv im rd wa kp so sz el pr ts nu bu ht th ig ij q n z t hn hz hq h5) (z_rec cx.2 (hW.at 0 rfl) rfl) hW hS zF zl ⟨rfl, rfl⟩ zR rfl zs zt z8 zd zf (fun v H1 locs1 hq hS1 _ => ?_)
  rcases hq with ⟨q2, v2, rfl, hf, hqz, hW1⟩ | ⟨rfl, hf, hW1⟩
  · exact kk0 q2 v2 H1 locs1 hf hqz hW1 hS1
  · exact kk1  H1 locs1 hf hW1 hS1
theorem vm_X8_readsStatement : zVm yX8_readsStatement cX8_readsStatement 2 (some FieldType.boolean) 0 := ⟨m_co_X8_readsStatement, m_in_RX8, ⟨m_im_X8_readsStatement, m_se_X8_X8_readsStatement⟩, by decide +kernel, by decide +kernel, by decide +kernel⟩
set_option maxHeartbeats 1000000 in
set_option maxRecDepth 100000 in
theorem c_X8_readsStatement (l : Launch) (E : zE) (a : Nat → Nat) (sv im rd wa kp so sz el pr ts nu bu ht : Nat → Int32) (th td : Int32) (ig : Bool) (ij : Bool) (q n z : Nat) (hn : n < 8) (hz : z ≤ 100) (hq : q ≤ z) : Met l yX8_readsStatement (.code yX8_readsStatement cX8_readsStatement 2 (some FieldType.boolean) :: AllW) (rm0' 4 86) (zP E (fun H => WW E (wM a (E.2.1 0) sv im rd wa kp so sz el pr ts nu bu ht (bI ig) th (nI q) (nI (100 * n)) (nI z) td (bI ij)) gN H) [.ref (a 0)]) (zQ (fun (_ : Heap) (v : Option Value) (H1 : Heap) => (v = some (.int (bI ((rdS (hrT el n z) q nu).1))) ∧ ((rdS (hrT el n z) q nu).2.1.1 ≤ z) ∧ WW E (wM a (E.2.1 0) sv im rd wa kp so sz el pr ts ((rdS (hrT el n z) q nu).2.1.2.1) bu ht (bI ig) th (nI (rdS (hrT el n z) q nu).2.1.1) (nI (100 * n)) (nI z) (nI (rdS (hrT el n z) q nu).2.1.2.2) (bI ((rdS (hrT el n z) q nu).2.2))) gN H1)) (mF a)) 0 0 (mF a) := by
  refine z_body (own := RX8) (by decide) rfl rfl ?_
  intro p e s m args below meth c ls cx hr hlk hnm hW hl
  have hx := cx.x
  have hb := cx.b
  have hl : lv_has ls 2 [(0, .ref (a 0))] := hl
  have hS : va_S (mF a) s.heap s.heap [] := va_S.rf
  refine lv_aload_n (pc := 0) hx hb dX8_readsStatement_0 rfl (lv_at hl 0 rfl) ?_
  refine k_X8_here (pc := 1) (q := q) (n := n) (z := z) cx hW hn hz (by omega) m_ml_X8_72 ⟨Nat.le_of_ble_eq_true rfl, Nat.le_of_ble_eq_true rfl⟩ hl.1 rfl (by simp [Value.category]) dX8_readsStatement_1 ⟨Nat.le_refl _, Nat.le_refl _⟩ ?_
  refine lv_istore_n (pc := 4) (lv' := [(1, .int (hrT el n z q)), (0, .ref (a 0))]) hx hb dX8_readsStatement_4 rfl hl (by decide) rfl (fun ls hl => ?_)
  refine lv_aload_n (pc := 5) hx hb dX8_readsStatement_5 rfl (lv_at hl 1 rfl) ?_
  refine lv_iconst (pc := 6) (v := 0) hx hb dX8_readsStatement_6 (by decide) ?_
  refine z_putMi (pc := 7) cx hW hS 0 rfl (mF_in a 0) 15 rfl m_fl_X8_84 rfl rfl dX8_readsStatement_7 (fun H locs hW hS => ?_)
  have hW : WW E (wM a (E.2.1 0) sv im rd wa kp so sz el pr ts nu bu ht (bI ig) th (nI q) (nI (100 * n)) (nI z) 0 (bI ij)) gN H := hW
  refine lv_aload_n (pc := 10) hx hb dX8_readsStatement_10 rfl (lv_at hl 1 rfl) ?_
  refine lv_iconst (pc := 11) (v := 0) hx hb dX8_readsStatement_11 (by decide) ?_
  refine z_putMz (pc := 12) (b := false) cx hW hS 0 rfl (mF_in a 0) 17 rfl m_fl_X8_90 rfl rfl dX8_readsStatement_12 (fun H locs hW hS => ?_)
  have hW : WW E (wM a (E.2.1 0) sv im rd wa kp so sz el pr ts nu bu ht (bI ig) th (nI q) (nI (100 * n)) (nI z) 0 (bI false)) gN H := hW
  refine lv_iload_n (pc := 15) hx hb dX8_readsStatement_15 rfl (lv_at hl 0 rfl) ?_
  by_cases c_1 : hrT el n z q = 100
  · rw [c_1]
    refine lv_lookup (pc := 16) (tgt := 261) (off := 245) hx hb dX8_readsStatement_16 (by decide) (by decide) (by decide) ?_
    refine lv_aload_n (pc := 261) hx hb dX8_readsStatement_261 rfl (lv_at hl 1 rfl) ?_
    refine lv_dup (pc := 262) hx hb dX8_readsStatement_262 rfl ?_
    refine z_getM (pc := 263) cx (hW.at 0 rfl) 12 rfl m_fl_X8_63 rfl dX8_readsStatement_263 ?_
    refine lv_iconst (pc := 266) (v := 1) hx hb dX8_readsStatement_266 (by decide) ?_
    refine lv_iadd (pc := 267) hx hb dX8_readsStatement_267 ?_
    refine z_putMi (pc := 268) cx hW hS 0 rfl (mF_in a 0) 12 rfl m_fl_X8_63 rfl rfl dX8_readsStatement_268 (fun H locs hW hS => ?_)
    have hW : WW E (wM a (E.2.1 0) sv im rd wa kp so sz el pr ts nu bu ht (bI ig) th ((nI q) + 1) (nI (100 * n)) (nI z) 0 (bI false)) gN H := hW
    rw [nI_1 q] at hW
    have hW : WW E (wM a (E.2.1 0) sv im rd wa kp so sz el pr ts nu bu ht (bI ig) th (nI (q + 1)) (nI (100 * n)) (nI z) 0 (bI false)) gN H := hW
    have hlt := hrT_lt2 (by assumption : hrT el n z q = _) (by decide)
    refine lv_aload_n (pc := 271) hx hb dX8_readsStatement_271 rfl (lv_at hl 1 rfl) ?_
    refine k_X8_readsNumber (pc := 272) (q := q + 1) (n := n) (z := z) (t := 0) cx hW hS (fun _ h => h) (by first | assumption | omega) (by first | assumption | omega) (by first | assumption | omega) (by first | assumption | omega) m_ml_X8_94 ⟨Nat.le_of_ble_eq_true rfl, Nat.le_of_ble_eq_true rfl⟩ hl.1 rfl (by simp [Value.category]) dX8_readsStatement_272 ⟨Nat.le_refl _, Nat.le_refl _⟩ (fun q2_272 v2_272 H locs hf_272 hqz_272 hW hS => ?_) (fun  H locs hf_272 hW hS => ?_)
    · skip
      have hW : WW E (wM a (E.2.1 0) sv im rd wa kp so sz el pr ts (upd nu 0 v2_272) bu ht (bI ig) th (nI q2_272) (nI (100 * n)) (nI z) (nI (0 + 1)) (bI false)) gN H := hW
      refine lv_if_eq (pc := 275) (tgt := 291) hx hb dX8_readsStatement_275 (by decide) (fun c => absurd c (by decide)) (fun _ => ?_)
      refine lv_aload_n (pc := 278) hx hb dX8_readsStatement_278 rfl (lv_at hl 1 rfl) ?_
      refine lv_bipush (pc := 279) (v := 59) hx hb dX8_readsStatement_279 (by decide) ?_
      refine k_X8_takes (pc := 281) (k := 59) (q := q2_272) (n := n) (z := z) cx hW hS (fun _ h => h) (by first | assumption | omega) (by first | assumption | omega) (by first | assumption | omega) (by first | assumption | omega) m_ml_X8_97 ⟨Nat.le_of_ble_eq_true rfl, Nat.le_of_ble_eq_true rfl⟩ hl.1 rfl (by simp [Value.category]) dX8_readsStatement_281 ⟨Nat.le_refl _, Nat.le_refl _⟩ (fun  H locs hf_281 hqz_281 hW hS => ?_) (fun  H locs hf_281 hW hS => ?_)
      · skip
        have hW : WW E (wM a (E.2.1 0) sv im rd wa kp so sz el pr ts (upd nu 0 v2_272) bu ht (bI ig) th (nI (q2_272 + 1)) (nI (100 * n)) (nI z) (nI (0 + 1)) (bI false)) gN H := hW
        refine lv_if_eq (pc := 284) (tgt := 291) hx hb dX8_readsStatement_284 (by decide) (fun c => absurd c (by decide)) (fun _ => ?_)
        refine lv_iconst (pc := 287) (v := 1) hx hb dX8_readsStatement_287 (by decide) ?_
        refine lv_goto (pc := 288) (tgt := 292) hx hb dX8_readsStatement_288 (by decide) ?_
        have hR : rdS (hrT el n z) q nu = (true, (q2_272 + 1, upd nu 0 v2_272, 0 + 1), false) := by simp [rdS, pF, c_1, hf_272, hf_281]
        exact z_wzret (b := true) cx hr hlk dX8_readsStatement_292 hS ⟨(sI (by first | rfl | (simp [hR, c_1, hf_272, hf_281]; done))), (by rw [hR]; first | assumption | omega), (by rw [show (nI (rdS (hrT el n z) q nu).2.1.1) = nI (q2_272 + 1) from (by first | rfl | (simp [hR, nI00, c_1, hf_272, hf_281]; done)), show ((rdS (hrT el n z) q nu).2.1.2.1) = upd nu 0 v2_272 from (by first | rfl | (simp [hR, nI00, c_1, hf_272, hf_281]; done)), show (nI (rdS (hrT el n z) q nu).2.1.2.2) = nI (0 + 1) from (by first | rfl | (simp [hR, nI00, c_1, hf_272, hf_281]; done)), show ((rdS (hrT el n z) q nu).2.2) = false from (by first | rfl | (simp [hR, nI00, c_1, hf_272, hf_281]; done))]; exact hW)⟩
      · skip
        have hW : WW E (wM a (E.2.1 0) sv im rd wa kp so sz el pr ts (upd nu 0 v2_272) bu ht (bI ig) th (nI q2_272) (nI (100 * n)) (nI z) (nI (0 + 1)) (bI false)) gN H := hW
        refine lv_if_eq (pc := 284) (tgt := 291) hx hb dX8_readsStatement_284 (by decide) (fun _ => ?_) (fun c => (c (by decide)).elim)
        refine lv_iconst (pc := 291) (v := 0) hx hb dX8_readsStatement_291 (by decide) ?_
        have hR : rdS (hrT el n z) q nu = (false, (q2_272, upd nu 0 v2_272, 0 + 1), false) := by simp [rdS, pF, c_1, hf_272, hf_281]
        exact z_wzret (b := false) cx hr hlk dX8_readsStatement_292 hS ⟨(sI (by first | rfl | (simp [hR, c_1, hf_272, hf_281]; done))), (by rw [hR]; first | assumption | omega), (by rw [show (nI (rdS (hrT el n z) q nu).2.1.1) = nI q2_272 from (by first | rfl | (simp [hR, nI00, c_1, hf_272, hf_281]; done)), show ((rdS (hrT el n z) q nu).2.1.2.1) = upd nu 0 v2_272 from (by first | rfl | (simp [hR, nI00, c_1, hf_272, hf_281]; done)), show (nI (rdS (hrT el n z) q nu).2.1.2.2) = nI (0 + 1) from (by first | rfl | (simp [hR, nI00, c_1, hf_272, hf_281]; done)), show ((rdS (hrT el n z) q nu).2.2) = false from (by first | rfl | (simp [hR, nI00, c_1, hf_272, hf_281]; done))]; exact hW)⟩
    · skip
      have hW : WW E (wM a (E.2.1 0) sv im rd wa kp so sz el pr ts nu bu ht (bI ig) th (nI (q + 1)) (nI (100 * n)) (nI z) 0 (bI false)) gN H := hW
      refine lv_if_eq (pc := 275) (tgt := 291) hx hb dX8_readsStatement_275 (by decide) (fun _ => ?_) (fun c => (c (by decide)).elim)
      refine lv_iconst (pc := 291) (v := 0) hx hb dX8_readsStatement_291 (by decide) ?_
      have hR : rdS (hrT el n z) q nu = (false, (q + 1, nu, 0), false) := by simp [rdS, pF, c_1, hf_272]
      exact z_wzret (b := false) cx hr hlk dX8_readsStatement_292 hS ⟨(sI (by first | rfl | (simp [hR, c_1, hf_272]; done))), (by rw [hR]; first | assumption | omega), (by rw [show (nI (rdS (hrT el n z) q nu).2.1.1) = nI (q + 1) from (by first | rfl | (simp [hR, nI00, c_1, hf_272]; done)), show ((rdS (hrT el n z) q nu).2.1.2.1) = nu from (by first | rfl | (simp [hR, nI00, c_1, hf_272]; done)), show (nI (rdS (hrT el n z) q nu).2.1.2.2) = 0 from (by first | rfl | (simp [hR, nI00, c_1, hf_272]; done)), show ((rdS (hrT el n z) q nu).2.2) = false from (by first | rfl | (simp [hR, nI00, c_1, hf_272]; done))]; exact hW)⟩
  by_cases c_6 : hrT el n z q = 112
  · rw [c_6]
    refine lv_lookup (pc := 16) (tgt := 68) (off := 52) hx hb dX8_readsStatement_16 (by decide) (by decide) (by decide) ?_
    refine lv_aload_n (pc := 68) hx hb dX8_readsStatement_68 rfl (lv_at hl 1 rfl) ?_
    refine lv_dup (pc := 69) hx hb dX8_readsStatement_69 rfl ?_
    refine z_getM (pc := 70) cx (hW.at 0 rfl) 12 rfl m_fl_X8_63 rfl dX8_readsStatement_70 ?_
    refine lv_iconst (pc := 73) (v := 1) hx hb dX8_readsStatement_73 (by decide) ?_
    refine lv_iadd (pc := 74) hx hb dX8_readsStatement_74 ?_
    refine z_putMi (pc := 75) cx hW hS 0 rfl (mF_in a 0) 12 rfl m_fl_X8_63 rfl rfl dX8_readsStatement_75 (fun H locs hW hS => ?_)
    have hW : WW E (wM a (E.2.1 0) sv im rd wa kp so sz el pr ts nu bu ht (bI ig) th ((nI q) + 1) (nI (100 * n)) (nI z) 0 (bI false)) gN H := hW
    rw [nI_1 q] at hW
    have hW : WW E (wM a (E.2.1 0) sv im rd wa kp so sz el pr ts nu bu ht (bI ig) th (nI (q + 1)) (nI (100 * n)) (nI z) 0 (bI false)) gN H := hW
    have hlt := hrT_lt2 (by assumption : hrT el n z q = _) (by decide)
    refine lv_aload_n (pc := 78) hx hb dX8_readsStatement_78 rfl (lv_at hl 1 rfl) ?_
    refine k_X8_readsNumber (pc := 79) (q := q + 1) (n := n) (z := z) (t := 0) cx hW hS (fun _ h => h) (by first | assumption | omega) (by first | assumption | omega) (by first | assumption | omega) (by first | assumption | omega) m_ml_X8_94 ⟨Nat.le_of_ble_eq_true rfl, Nat.le_of_ble_eq_true rfl⟩ hl.1 rfl (by simp [Value.category]) dX8_readsStatement_79 ⟨Nat.le_refl _, Nat.le_refl _⟩ (fun q2_79 v2_79 H locs hf_79 hqz_79 hW hS => ?_) (fun  H locs hf_79 hW hS => ?_)
    · skip
      have hW : WW E (wM a (E.2.1 0) sv im rd wa kp so sz el pr ts (upd nu 0 v2_79) bu ht (bI ig) th (nI q2_79) (nI (100 * n)) (nI z) (nI (0 + 1)) (bI false)) gN H := hW
      refine lv_if_eq (pc := 82) (tgt := 117) hx hb dX8_readsStatement_82 (by decide) (fun c => absurd c (by decide)) (fun _ => ?_)
      refine lv_aload_n (pc := 85) hx hb dX8_readsStatement_85 rfl (lv_at hl 1 rfl) ?_
      refine lv_bipush (pc := 86) (v := 32) hx hb dX8_readsStatement_86 (by decide) ?_
      refine k_X8_takes (pc := 88) (k := 32) (q := q2_79) (n := n) (z := z) cx hW hS (fun _ h => h) (by first | assumption | omega) (by first | assumption | omega) (by first | assumption | omega) (by first | assumption | omega) m_ml_X8_97 ⟨Nat.le_of_ble_eq_true rfl, Nat.le_of_ble_eq_true rfl⟩ hl.1 rfl (by simp [Value.category]) dX8_readsStatement_88 ⟨Nat.le_refl _, Nat.le_refl _⟩ (fun  H locs hf_88 hqz_88 hW hS => ?_) (fun  H locs hf_88 hW hS => ?_)
      · skip
        have hW : WW E (wM a (E.2.1 0) sv im rd wa kp so sz el pr ts (upd nu 0 v2_79) bu ht (bI ig) th (nI (q2_79 + 1)) (nI (100 * n)) (nI z) (nI (0 + 1)) (bI false)) gN H := hW
        refine lv_if_eq (pc := 91) (tgt := 117) hx hb dX8_readsStatement_91 (by decide) (fun c => absurd c (by decide)) (fun _ => ?_)
        refine lv_aload_n (pc := 94) hx hb dX8_readsStatement_94 rfl (lv_at hl 1 rfl) ?_
        refine k_X8_readsNumber (pc := 95) (q := q2_79 + 1) (n := n) (z := z) (t := 0 + 1) cx hW hS (fun _ h => h) (by first | assumption | omega) (by first | assumption | omega) (by first | assumption | omega) (by first | assumption | omega) m_ml_X8_94 ⟨Nat.le_of_ble_eq_true rfl, Nat.le_of_ble_eq_true rfl⟩ hl.1 rfl (by simp [Value.category]) dX8_readsStatement_95 ⟨Nat.le_refl _, Nat.le_refl _⟩ (fun q2_95 v2_95 H locs hf_95 hqz_95 hW hS => ?_) (fun  H locs hf_95 hW hS => ?_)
        · skip
          have hW : WW E (wM a (E.2.1 0) sv im rd wa kp so sz el pr ts (upd (upd nu 0 v2_79) (0 + 1) v2_95) bu ht (bI ig) th (nI q2_95) (nI (100 * n)) (nI z) (nI ((0 + 1) + 1)) (bI false)) gN H := hW
          refine lv_if_eq (pc := 98) (tgt := 117) hx hb dX8_readsStatement_98 (by decide) (fun c => absurd c (by decide)) (fun _ => ?_)
          refine lv_aload_n (pc := 101) hx hb dX8_readsStatement_101 rfl (lv_at hl 1 rfl) ?_
          refine lv_bipush (pc := 102) (v := 32) hx hb dX8_readsStatement_102 (by decide) ?_
          refine k_X8_takes (pc := 104) (k := 32) (q := q2_95) (n := n) (z := z) cx hW hS (fun _ h => h) (by first | assumption | omega) (by first | assumption | omega) (by first | assumption | omega) (by first | assumption | omega) m_ml_X8_97 ⟨Nat.le_of_ble_eq_true rfl, Nat.le_of_ble_eq_true rfl⟩ hl.1 rfl (by simp [Value.category]) dX8_readsStatement_104 ⟨Nat.le_refl _, Nat.le_refl _⟩ (fun  H locs hf_104 hqz_104 hW hS => ?_) (fun  H locs hf_104 hW hS => ?_)
          · skip
            have hW : WW E (wM a (E.2.1 0) sv im rd wa kp so sz el pr ts (upd (upd nu 0 v2_79) (0 + 1) v2_95) bu ht (bI ig) th (nI (q2_95 + 1)) (nI (100 * n)) (nI z) (nI ((0 + 1) + 1)) (bI false)) gN H := hW
            refine lv_if_eq (pc := 107) (tgt := 117) hx hb dX8_readsStatement_107 (by decide) (fun c => absurd c (by decide)) (fun _ => ?_)
            refine lv_aload_n (pc := 110) hx hb dX8_readsStatement_110 rfl (lv_at hl 1 rfl) ?_
            refine k_X8_readsNumber (pc := 111) (q := q2_95 + 1) (n := n) (z := z) (t := (0 + 1) + 1) cx hW hS (fun _ h => h) (by first | assumption | omega) (by first | assumption | omega) (by first | assumption | omega) (by first | assumption | omega) m_ml_X8_94 ⟨Nat.le_of_ble_eq_true rfl, Nat.le_of_ble_eq_true rfl⟩ hl.1 rfl (by simp [Value.category]) dX8_readsStatement_111 ⟨Nat.le_refl _, Nat.le_refl _⟩ (fun q2_111 v2_111 H locs hf_111 hqz_111 hW hS => ?_) (fun  H locs hf_111 hW hS => ?_)
            · skip
              have hW : WW E (wM a (E.2.1 0) sv im rd wa kp so sz el pr ts (upd (upd (upd nu 0 v2_79) (0 + 1) v2_95) ((0 + 1) + 1) v2_111) bu ht (bI ig) th (nI q2_111) (nI (100 * n)) (nI z) (nI (((0 + 1) + 1) + 1)) (bI false)) gN H := hW
              refine lv_if_ne (pc := 114) (tgt := 119) hx hb dX8_readsStatement_114 (by decide) (fun _ => ?_) (fun c => absurd c (by decide))
              refine lv_aload_n (pc := 119) hx hb dX8_readsStatement_119 rfl (lv_at hl 1 rfl) ?_
              refine lv_aload_n (pc := 120) hx hb dX8_readsStatement_120 rfl (lv_at hl 1 rfl) ?_
              refine lv_bipush (pc := 121) (v := 106) hx hb dX8_readsStatement_121 (by decide) ?_
              refine k_X8_takes (pc := 123) (k := 106) (q := q2_111) (n := n) (z := z) cx hW hS (fun _ h => h) (by first | assumption | omega) (by first | assumption | omega) (by first | assumption | omega) (by first | assumption | omega) m_ml_X8_97 ⟨Nat.le_of_ble_eq_true rfl, Nat.le_of_ble_eq_true rfl⟩ hl.1 rfl (by simp [Value.category]) dX8_readsStatement_123 ⟨Nat.le_refl _, Nat.le_refl _⟩ (fun  H locs hf_123 hqz_123 hW hS => ?_) (fun  H locs hf_123 hW hS => ?_)
              · skip
                have hW : WW E (wM a (E.2.1 0) sv im rd wa kp so sz el pr ts (upd (upd (upd nu 0 v2_79) (0 + 1) v2_95) ((0 + 1) + 1) v2_111) bu ht (bI ig) th (nI (q2_111 + 1)) (nI (100 * n)) (nI z) (nI (((0 + 1) + 1) + 1)) (bI false)) gN H := hW
                refine z_putMz (pc := 126) (b := true) cx hW hS 0 rfl (mF_in a 0) 17 rfl m_fl_X8_90 rfl rfl dX8_readsStatement_126 (fun H locs hW hS => ?_)
                have hW : WW E (wM a (E.2.1 0) sv im rd wa kp so sz el pr ts (upd (upd (upd nu 0 v2_79) (0 + 1) v2_95) ((0 + 1) + 1) v2_111) bu ht (bI ig) th (nI (q2_111 + 1)) (nI (100 * n)) (nI z) (nI (((0 + 1) + 1) + 1)) (bI true)) gN H := hW
                refine lv_aload_n (pc := 129) hx hb dX8_readsStatement_129 rfl (lv_at hl 1 rfl) ?_
                refine z_getM (pc := 130) cx (hW.at 0 rfl) 17 rfl m_fl_X8_90 rfl dX8_readsStatement_130 ?_
                refine z_ifeq (pc := 133) (tgt := 159) hx hb dX8_readsStatement_133 (by decide) (fun c => absurd c (by decide)) (fun _ => ?_)
                refine lv_aload_n (pc := 136) hx hb dX8_readsStatement_136 rfl (lv_at hl 1 rfl) ?_
                refine k_X8_readsDigit (pc := 137) (q := q2_111 + 1) (n := n) (z := z) (t := ((0 + 1) + 1) + 1) cx hW hS (fun _ h => h) (by first | assumption | omega) (by first | assumption | omega) (by first | assumption | omega) (by first | assumption | omega) m_ml_X8_87 ⟨Nat.le_of_ble_eq_true rfl, Nat.le_of_ble_eq_true rfl⟩ hl.1 rfl (by simp [Value.category]) dX8_readsStatement_137 ⟨Nat.le_refl _, Nat.le_refl _⟩ (fun  H locs hf_137 hqz_137 hW hS => ?_) (fun  H locs hf_137 hW hS => ?_)
                · skip
                  have hW : WW E (wM a (E.2.1 0) sv im rd wa kp so sz el pr ts (upd (upd (upd (upd nu 0 v2_79) (0 + 1) v2_95) ((0 + 1) + 1) v2_111) (((0 + 1) + 1) + 1) (hrT el n z (q2_111 + 1) - 48)) bu ht (bI ig) th (nI ((q2_111 + 1) + 1)) (nI (100 * n)) (nI z) (nI ((((0 + 1) + 1) + 1) + 1)) (bI true)) gN H := hW
                  refine lv_if_eq (pc := 140) (tgt := 172) hx hb dX8_readsStatement_140 (by decide) (fun c => absurd c (by decide)) (fun _ => ?_)
                  refine lv_aload_n (pc := 143) hx hb dX8_readsStatement_143 rfl (lv_at hl 1 rfl) ?_
                  refine lv_bipush (pc := 144) (v := 32) hx hb dX8_readsStatement_144 (by decide) ?_
                  refine k_X8_takes (pc := 146) (k := 32) (q := (q2_111 + 1) + 1) (n := n) (z := z) cx hW hS (fun _ h => h) (by first | assumption | omega) (by first | assumption | omega) (by first | assumption | omega) (by first | assumption | omega) m_ml_X8_97 ⟨Nat.le_of_ble_eq_true rfl, Nat.le_of_ble_eq_true rfl⟩ hl.1 rfl (by simp [Value.category]) dX8_readsStatement_146 ⟨Nat.le_refl _, Nat.le_refl _⟩ (fun  H locs hf_146 hqz_146 hW hS => ?_) (fun  H locs hf_146 hW hS => ?_)
                  · skip
                    have hW : WW E (wM a (E.2.1 0) sv im rd wa kp so sz el pr ts (upd (upd (upd (upd nu 0 v2_79) (0 + 1) v2_95) ((0 + 1) + 1) v2_111) (((0 + 1) + 1) + 1) (hrT el n z (q2_111 + 1) - 48)) bu ht (bI ig) th (nI (((q2_111 + 1) + 1) + 1)) (nI (100 * n)) (nI z) (nI ((((0 + 1) + 1) + 1) + 1)) (bI true)) gN H := hW
                    refine lv_if_eq (pc := 149) (tgt := 172) hx hb dX8_readsStatement_149 (by decide) (fun c => absurd c (by decide)) (fun _ => ?_)
                    refine lv_aload_n (pc := 152) hx hb dX8_readsStatement_152 rfl (lv_at hl 1 rfl) ?_
                    refine k_X8_readsNumber (pc := 153) (q := ((q2_111 + 1) + 1) + 1) (n := n) (z := z) (t := (((0 + 1) + 1) + 1) + 1) cx hW hS (fun _ h => h) (by first | assumption | omega) (by first | assumption | omega) (by first | assumption | omega) (by first | assumption | omega) m_ml_X8_94 ⟨Nat.le_of_ble_eq_true rfl, Nat.le_of_ble_eq_true rfl⟩ hl.1 rfl (by simp [Value.category]) dX8_readsStatement_153 ⟨Nat.le_refl _, Nat.le_refl _⟩ (fun q2_153 v2_153 H locs hf_153 hqz_153 hW hS => ?_) (fun  H locs hf_153 hW hS => ?_)
                    · skip
                      have hW : WW E (wM a (E.2.1 0) sv im rd wa kp so sz el pr ts (upd (upd (upd (upd (upd nu 0 v2_79) (0 + 1) v2_95) ((0 + 1) + 1) v2_111) (((0 + 1) + 1) + 1) (hrT el n z (q2_111 + 1) - 48)) ((((0 + 1) + 1) + 1) + 1) v2_153) bu ht (bI ig) th (nI q2_153) (nI (100 * n)) (nI z) (nI (((((0 + 1) + 1) + 1) + 1) + 1)) (bI true)) gN H := hW
                      refine lv_if_eq (pc := 156) (tgt := 172) hx hb dX8_readsStatement_156 (by decide) (fun c => absurd c (by decide)) (fun _ => ?_)
                      refine lv_aload_n (pc := 159) hx hb dX8_readsStatement_159 rfl (lv_at hl 1 rfl) ?_
                      refine lv_bipush (pc := 160) (v := 59) hx hb dX8_readsStatement_160 (by decide) ?_
                      refine k_X8_takes (pc := 162) (k := 59) (q := q2_153) (n := n) (z := z) cx hW hS (fun _ h => h) (by first | assumption | omega) (by first | assumption | omega) (by first | assumption | omega) (by first | assumption | omega) m_ml_X8_97 ⟨Nat.le_of_ble_eq_true rfl, Nat.le_of_ble_eq_true rfl⟩ hl.1 rfl (by simp [Value.category]) dX8_readsStatement_162 ⟨Nat.le_refl _, Nat.le_refl _⟩ (fun  H locs hf_162 hqz_162 hW hS => ?_) (fun  H locs hf_162 hW hS => ?_)
                      · skip
                        have hW : WW E (wM a (E.2.1 0) sv im rd wa kp so sz el pr ts (upd (upd (upd (upd (upd nu 0 v2_79) (0 + 1) v2_95) ((0 + 1) + 1) v2_111) (((0 + 1) + 1) + 1) (hrT el n z (q2_111 + 1) - 48)) ((((0 + 1) + 1) + 1) + 1) v2_153) bu ht (bI ig) th (nI (q2_153 + 1)) (nI (100 * n)) (nI z) (nI (((((0 + 1) + 1) + 1) + 1) + 1)) (bI true)) gN H := hW
                        refine lv_if_eq (pc := 165) (tgt := 172) hx hb dX8_readsStatement_165 (by decide) (fun c => absurd c (by decide)) (fun _ => ?_)
                        refine lv_iconst (pc := 168) (v := 1) hx hb dX8_readsStatement_168 (by decide) ?_
                        refine lv_goto (pc := 169) (tgt := 173) hx hb dX8_readsStatement_169 (by decide) ?_
                        have hR : rdS (hrT el n z) q nu = (true, (q2_153 + 1, upd (upd (upd (upd (upd nu 0 v2_79) (0 + 1) v2_95) ((0 + 1) + 1) v2_111) (((0 + 1) + 1) + 1) (hrT el n z (q2_111 + 1) - 48)) ((((0 + 1) + 1) + 1) + 1) v2_153, ((((0 + 1) + 1) + 1) + 1) + 1), true) := by simp [rdS, pF, c_1, c_6, hf_79, hf_88, hf_95, hf_104, hf_111, hf_123, hf_137, hf_146, hf_153, hf_162]
                        exact z_wzret (b := true) cx hr hlk dX8_readsStatement_173 hS ⟨(sI (by first | rfl | (simp [hR, c_1, c_6, hf_79, hf_88, hf_95, hf_104, hf_111, hf_123, hf_137, hf_146, hf_153, hf_162]; done))), (by rw [hR]; first | assumption | omega), (by rw [show (nI (rdS (hrT el n z) q nu).2.1.1) = nI (q2_153 + 1) from (by first | rfl | (simp [hR, nI00, c_1, c_6, hf_79, hf_88, hf_95, hf_104, hf_111, hf_123, hf_137, hf_146, hf_153, hf_162]; done)), show ((rdS (hrT el n z) q nu).2.1.2.1) = upd (upd (upd (upd (upd nu 0 v2_79) (0 + 1) v2_95) ((0 + 1) + 1) v2_111) (((0 + 1) + 1) + 1) (hrT el n z (q2_111 + 1) - 48)) ((((0 + 1) + 1) + 1) + 1) v2_153 from (by first | rfl | (simp [hR, nI00, c_1, c_6, hf_79, hf_88, hf_95, hf_104, hf_111, hf_123, hf_137, hf_146, hf_153, hf_162]; done)), show (nI (rdS (hrT el n z) q nu).2.1.2.2) = nI (((((0 + 1) + 1) + 1) + 1) + 1) from (by first | rfl | (simp [hR, nI00, c_1, c_6, hf_79, hf_88, hf_95, hf_104, hf_111, hf_123, hf_137, hf_146, hf_153, hf_162]; done)), show ((rdS (hrT el n z) q nu).2.2) = true from (by first | rfl | (simp [hR, nI00, c_1, c_6, hf_79, hf_88, hf_95, hf_104, hf_111, hf_123, hf_137, hf_146, hf_153, hf_162]; done))]; exact hW)⟩
                      · skip
                        have hW : WW E (wM a (E.2.1 0) sv im rd wa kp so sz el pr ts (upd (upd (upd (upd (upd nu 0 v2_79) (0 + 1) v2_95) ((0 + 1) + 1) v2_111) (((0 + 1) + 1) + 1) (hrT el n z (q2_111 + 1) - 48)) ((((0 + 1) + 1) + 1) + 1) v2_153) bu ht (bI ig) th (nI q2_153) (nI (100 * n)) (nI z) (nI (((((0 + 1) + 1) + 1) + 1) + 1)) (bI true)) gN H := hW
                        refine lv_if_eq (pc := 165) (tgt := 172) hx hb dX8_readsStatement_165 (by decide) (fun _ => ?_) (fun c => (c (by decide)).elim)
                        refine lv_iconst (pc := 172) (v := 0) hx hb dX8_readsStatement_172 (by decide) ?_
                        have hR : rdS (hrT el n z) q nu = (false, (q2_153, upd (upd (upd (upd (upd nu 0 v2_79) (0 + 1) v2_95) ((0 + 1) + 1) v2_111) (((0 + 1) + 1) + 1) (hrT el n z (q2_111 + 1) - 48)) ((((0 + 1) + 1) + 1) + 1) v2_153, ((((0 + 1) + 1) + 1) + 1) + 1), true) := by simp [rdS, pF, c_1, c_6, hf_79, hf_88, hf_95, hf_104, hf_111, hf_123, hf_137, hf_146, hf_153, hf_162]
                        exact z_wzret (b := false) cx hr hlk dX8_readsStatement_173 hS ⟨(sI (by first | rfl | (simp [hR, c_1, c_6, hf_79, hf_88, hf_95, hf_104, hf_111, hf_123, hf_137, hf_146, hf_153, hf_162]; done))), (by rw [hR]; first | assumption | omega), (by rw [show (nI (rdS (hrT el n z) q nu).2.1.1) = nI q2_153 from (by first | rfl | (simp [hR, nI00, c_1, c_6, hf_79, hf_88, hf_95, hf_104, hf_111, hf_123, hf_137, hf_146, hf_153, hf_162]; done)), show ((rdS (hrT el n z) q nu).2.1.2.1) = upd (upd (upd (upd (upd nu 0 v2_79) (0 + 1) v2_95) ((0 + 1) + 1) v2_111) (((0 + 1) + 1) + 1) (hrT el n z (q2_111 + 1) - 48)) ((((0 + 1) + 1) + 1) + 1) v2_153 from (by first | rfl | (simp [hR, nI00, c_1, c_6, hf_79, hf_88, hf_95, hf_104, hf_111, hf_123, hf_137, hf_146, hf_153, hf_162]; done)), show (nI (rdS (hrT el n z) q nu).2.1.2.2) = nI (((((0 + 1) + 1) + 1) + 1) + 1) from (by first | rfl | (simp [hR, nI00, c_1, c_6, hf_79, hf_88, hf_95, hf_104, hf_111, hf_123, hf_137, hf_146, hf_153, hf_162]; done)), show ((rdS (hrT el n z) q nu).2.2) = true from (by first | rfl | (simp [hR, nI00, c_1, c_6, hf_79, hf_88, hf_95, hf_104, hf_111, hf_123, hf_137, hf_146, hf_153, hf_162]; done))]; exact hW)⟩
                    · skip
                      have hW : WW E (wM a (E.2.1 0) sv im rd wa kp so sz el pr ts (upd (upd (upd (upd nu 0 v2_79) (0 + 1) v2_95) ((0 + 1) + 1) v2_111) (((0 + 1) + 1) + 1) (hrT el n z (q2_111 + 1) - 48)) bu ht (bI ig) th (nI (((q2_111 + 1) + 1) + 1)) (nI (100 * n)) (nI z) (nI ((((0 + 1) + 1) + 1) + 1)) (bI true)) gN H := hW
                      refine lv_if_eq (pc := 156) (tgt := 172) hx hb dX8_readsStatement_156 (by decide) (fun _ => ?_) (fun c => (c (by decide)).elim)
                      refine lv_iconst (pc := 172) (v := 0) hx hb dX8_readsStatement_172 (by decide) ?_
                      have hR : rdS (hrT el n z) q nu = (false, (((q2_111 + 1) + 1) + 1, upd (upd (upd (upd nu 0 v2_79) (0 + 1) v2_95) ((0 + 1) + 1) v2_111) (((0 + 1) + 1) + 1) (hrT el n z (q2_111 + 1) - 48), (((0 + 1) + 1) + 1) + 1), true) := by simp [rdS, pF, c_1, c_6, hf_79, hf_88, hf_95, hf_104, hf_111, hf_123, hf_137, hf_146, hf_153]
                      exact z_wzret (b := false) cx hr hlk dX8_readsStatement_173 hS ⟨(sI (by first | rfl | (simp [hR, c_1, c_6, hf_79, hf_88, hf_95, hf_104, hf_111, hf_123, hf_137, hf_146, hf_153]; done))), (by rw [hR]; first | assumption | omega), (by rw [show (nI (rdS (hrT el n z) q nu).2.1.1) = nI (((q2_111 + 1) + 1) + 1) from (by first | rfl | (simp [hR, nI00, c_1, c_6, hf_79, hf_88, hf_95, hf_104, hf_111, hf_123, hf_137, hf_146, hf_153]; done)), show ((rdS (hrT el n z) q nu).2.1.2.1) = upd (upd (upd (upd nu 0 v2_79) (0 + 1) v2_95) ((0 + 1) + 1) v2_111) (((0 + 1) + 1) + 1) (hrT el n z (q2_111 + 1) - 48) from (by first | rfl | (simp [hR, nI00, c_1, c_6, hf_79, hf_88, hf_95, hf_104, hf_111, hf_123, hf_137, hf_146, hf_153]; done)), show (nI (rdS (hrT el n z) q nu).2.1.2.2) = nI ((((0 + 1) + 1) + 1) + 1) from (by first | rfl | (simp [hR, nI00, c_1, c_6, hf_79, hf_88, hf_95, hf_104, hf_111, hf_123, hf_137, hf_146, hf_153]; done)), show ((rdS (hrT el n z) q nu).2.2) = true from (by first | rfl | (simp [hR, nI00, c_1, c_6, hf_79, hf_88, hf_95, hf_104, hf_111, hf_123, hf_137, hf_146, hf_153]; done))]; exact hW)⟩
                  · skip
                    have hW : WW E (wM a (E.2.1 0) sv im rd wa kp so sz el pr ts (upd (upd (upd (upd nu 0 v2_79) (0 + 1) v2_95) ((0 + 1) + 1) v2_111) (((0 + 1) + 1) + 1) (hrT el n z (q2_111 + 1) - 48)) bu ht (bI ig) th (nI ((q2_111 + 1) + 1)) (nI (100 * n)) (nI z) (nI ((((0 + 1) + 1) + 1) + 1)) (bI true)) gN H := hW
                    refine lv_if_eq (pc := 149) (tgt := 172) hx hb dX8_readsStatement_149 (by decide) (fun _ => ?_) (fun c => (c (by decide)).elim)
                    refine lv_iconst (pc := 172) (v := 0) hx hb dX8_readsStatement_172 (by decide) ?_
                    have hR : rdS (hrT el n z) q nu = (false, ((q2_111 + 1) + 1, upd (upd (upd (upd nu 0 v2_79) (0 + 1) v2_95) ((0 + 1) + 1) v2_111) (((0 + 1) + 1) + 1) (hrT el n z (q2_111 + 1) - 48), (((0 + 1) + 1) + 1) + 1), true) := by simp [rdS, pF, c_1, c_6, hf_79, hf_88, hf_95, hf_104, hf_111, hf_123, hf_137, hf_146]
                    exact z_wzret (b := false) cx hr hlk dX8_readsStatement_173 hS ⟨(sI (by first | rfl | (simp [hR, c_1, c_6, hf_79, hf_88, hf_95, hf_104, hf_111, hf_123, hf_137, hf_146]; done))), (by rw [hR]; first | assumption | omega), (by rw [show (nI (rdS (hrT el n z) q nu).2.1.1) = nI ((q2_111 + 1) + 1) from (by first | rfl | (simp [hR, nI00, c_1, c_6, hf_79, hf_88, hf_95, hf_104, hf_111, hf_123, hf_137, hf_146]; done)), show ((rdS (hrT el n z) q nu).2.1.2.1) = upd (upd (upd (upd nu 0 v2_79) (0 + 1) v2_95) ((0 + 1) + 1) v2_111) (((0 + 1) + 1) + 1) (hrT el n z (q2_111 + 1) - 48) from (by first | rfl | (simp [hR, nI00, c_1, c_6, hf_79, hf_88, hf_95, hf_104, hf_111, hf_123, hf_137, hf_146]; done)), show (nI (rdS (hrT el n z) q nu).2.1.2.2) = nI ((((0 + 1) + 1) + 1) + 1) from (by first | rfl | (simp [hR, nI00, c_1, c_6, hf_79, hf_88, hf_95, hf_104, hf_111, hf_123, hf_137, hf_146]; done)), show ((rdS (hrT el n z) q nu).2.2) = true from (by first | rfl | (simp [hR, nI00, c_1, c_6, hf_79, hf_88, hf_95, hf_104, hf_111, hf_123, hf_137, hf_146]; done))]; exact hW)⟩
                · skip
                  have hW : WW E (wM a (E.2.1 0) sv im rd wa kp so sz el pr ts (upd (upd (upd nu 0 v2_79) (0 + 1) v2_95) ((0 + 1) + 1) v2_111) bu ht (bI ig) th (nI (q2_111 + 1)) (nI (100 * n)) (nI z) (nI (((0 + 1) + 1) + 1)) (bI true)) gN H := hW
                  refine lv_if_eq (pc := 140) (tgt := 172) hx hb dX8_readsStatement_140 (by decide) (fun _ => ?_) (fun c => (c (by decide)).elim)
                  refine lv_iconst (pc := 172) (v := 0) hx hb dX8_readsStatement_172 (by decide) ?_
                  have hR : rdS (hrT el n z) q nu = (false, (q2_111 + 1, upd (upd (upd nu 0 v2_79) (0 + 1) v2_95) ((0 + 1) + 1) v2_111, ((0 + 1) + 1) + 1), true) := by simp [rdS, pF, c_1, c_6, hf_79, hf_88, hf_95, hf_104, hf_111, hf_123, hf_137]
                  exact z_wzret (b := false) cx hr hlk dX8_readsStatement_173 hS ⟨(sI (by first | rfl | (simp [hR, c_1, c_6, hf_79, hf_88, hf_95, hf_104, hf_111, hf_123, hf_137]; done))), (by rw [hR]; first | assumption | omega), (by rw [show (nI (rdS (hrT el n z) q nu).2.1.1) = nI (q2_111 + 1) from (by first | rfl | (simp [hR, nI00, c_1, c_6, hf_79, hf_88, hf_95, hf_104, hf_111, hf_123, hf_137]; done)), show ((rdS (hrT el n z) q nu).2.1.2.1) = upd (upd (upd nu 0 v2_79) (0 + 1) v2_95) ((0 + 1) + 1) v2_111 from (by first | rfl | (simp [hR, nI00, c_1, c_6, hf_79, hf_88, hf_95, hf_104, hf_111, hf_123, hf_137]; done)), show (nI (rdS (hrT el n z) q nu).2.1.2.2) = nI (((0 + 1) + 1) + 1) from (by first | rfl | (simp [hR, nI00, c_1, c_6, hf_79, hf_88, hf_95, hf_104, hf_111, hf_123, hf_137]; done)), show ((rdS (hrT el n z) q nu).2.2) = true from (by first | rfl | (simp [hR, nI00, c_1, c_6, hf_79, hf_88, hf_95, hf_104, hf_111, hf_123, hf_137]; done))]; exact hW)⟩
              · skip
                have hW : WW E (wM a (E.2.1 0) sv im rd wa kp so sz el pr ts (upd (upd (upd nu 0 v2_79) (0 + 1) v2_95) ((0 + 1) + 1) v2_111) bu ht (bI ig) th (nI q2_111) (nI (100 * n)) (nI z) (nI (((0 + 1) + 1) + 1)) (bI false)) gN H := hW
                refine z_putMz (pc := 126) (b := false) cx hW hS 0 rfl (mF_in a 0) 17 rfl m_fl_X8_90 rfl rfl dX8_readsStatement_126 (fun H locs hW hS => ?_)
                have hW : WW E (wM a (E.2.1 0) sv im rd wa kp so sz el pr ts (upd (upd (upd nu 0 v2_79) (0 + 1) v2_95) ((0 + 1) + 1) v2_111) bu ht (bI ig) th (nI q2_111) (nI (100 * n)) (nI z) (nI (((0 + 1) + 1) + 1)) (bI false)) gN H := hW
                refine lv_aload_n (pc := 129) hx hb dX8_readsStatement_129 rfl (lv_at hl 1 rfl) ?_
                refine z_getM (pc := 130) cx (hW.at 0 rfl) 17 rfl m_fl_X8_90 rfl dX8_readsStatement_130 ?_
                refine z_ifeq (pc := 133) (tgt := 159) hx hb dX8_readsStatement_133 (by decide) (fun _ => ?_) (fun c => absurd c (by decide))
                refine lv_aload_n (pc := 159) hx hb dX8_readsStatement_159 rfl (lv_at hl 1 rfl) ?_
                refine lv_bipush (pc := 160) (v := 59) hx hb dX8_readsStatement_160 (by decide) ?_
                refine k_X8_takes (pc := 162) (k := 59) (q := q2_111) (n := n) (z := z) cx hW hS (fun _ h => h) (by first | assumption | omega) (by first | assumption | omega) (by first | assumption | omega) (by first | assumption | omega) m_ml_X8_97 ⟨Nat.le_of_ble_eq_true rfl, Nat.le_of_ble_eq_true rfl⟩ hl.1 rfl (by simp [Value.category]) dX8_readsStatement_162 ⟨Nat.le_refl _, Nat.le_refl _⟩ (fun  H locs hf_162 hqz_162 hW hS => ?_) (fun  H locs hf_162 hW hS => ?_)
                · skip
                  have hW : WW E (wM a (E.2.1 0) sv im rd wa kp so sz el pr ts (upd (upd (upd nu 0 v2_79) (0 + 1) v2_95) ((0 + 1) + 1) v2_111) bu ht (bI ig) th (nI (q2_111 + 1)) (nI (100 * n)) (nI z) (nI (((0 + 1) + 1) + 1)) (bI false)) gN H := hW
                  refine lv_if_eq (pc := 165) (tgt := 172) hx hb dX8_readsStatement_165 (by decide) (fun c => absurd c (by decide)) (fun _ => ?_)
                  refine lv_iconst (pc := 168) (v := 1) hx hb dX8_readsStatement_168 (by decide) ?_
                  refine lv_goto (pc := 169) (tgt := 173) hx hb dX8_readsStatement_169 (by decide) ?_
                  have hR : rdS (hrT el n z) q nu = (true, (q2_111 + 1, upd (upd (upd nu 0 v2_79) (0 + 1) v2_95) ((0 + 1) + 1) v2_111, ((0 + 1) + 1) + 1), false) := by simp [rdS, pF, c_1, c_6, hf_79, hf_88, hf_95, hf_104, hf_111, hf_123, hf_162]
                  exact z_wzret (b := true) cx hr hlk dX8_readsStatement_173 hS ⟨(sI (by first | rfl | (simp [hR, c_1, c_6, hf_79, hf_88, hf_95, hf_104, hf_111, hf_123, hf_162]; done))), (by rw [hR]; first | assumption | omega), (by rw [show (nI (rdS (hrT el n z) q nu).2.1.1) = nI (q2_111 + 1) from (by first | rfl | (simp [hR, nI00, c_1, c_6, hf_79, hf_88, hf_95, hf_104, hf_111, hf_123, hf_162]; done)), show ((rdS (hrT el n z) q nu).2.1.2.1) = upd (upd (upd nu 0 v2_79) (0 + 1) v2_95) ((0 + 1) + 1) v2_111 from (by first | rfl | (simp [hR, nI00, c_1, c_6, hf_79, hf_88, hf_95, hf_104, hf_111, hf_123, hf_162]; done)), show (nI (rdS (hrT el n z) q nu).2.1.2.2) = nI (((0 + 1) + 1) + 1) from (by first | rfl | (simp [hR, nI00, c_1, c_6, hf_79, hf_88, hf_95, hf_104, hf_111, hf_123, hf_162]; done)), show ((rdS (hrT el n z) q nu).2.2) = false from (by first | rfl | (simp [hR, nI00, c_1, c_6, hf_79, hf_88, hf_95, hf_104, hf_111, hf_123, hf_162]; done))]; exact hW)⟩
                · skip
                  have hW : WW E (wM a (E.2.1 0) sv im rd wa kp so sz el pr ts (upd (upd (upd nu 0 v2_79) (0 + 1) v2_95) ((0 + 1) + 1) v2_111) bu ht (bI ig) th (nI q2_111) (nI (100 * n)) (nI z) (nI (((0 + 1) + 1) + 1)) (bI false)) gN H := hW
                  refine lv_if_eq (pc := 165) (tgt := 172) hx hb dX8_readsStatement_165 (by decide) (fun _ => ?_) (fun c => (c (by decide)).elim)
                  refine lv_iconst (pc := 172) (v := 0) hx hb dX8_readsStatement_172 (by decide) ?_
                  have hR : rdS (hrT el n z) q nu = (false, (q2_111, upd (upd (upd nu 0 v2_79) (0 + 1) v2_95) ((0 + 1) + 1) v2_111, ((0 + 1) + 1) + 1), false) := by simp [rdS, pF, c_1, c_6, hf_79, hf_88, hf_95, hf_104, hf_111, hf_123, hf_162]
                  exact z_wzret (b := false) cx hr hlk dX8_readsStatement_173 hS ⟨(sI (by first | rfl | (simp [hR, c_1, c_6, hf_79, hf_88, hf_95, hf_104, hf_111, hf_123, hf_162]; done))), (by rw [hR]; first | assumption | omega), (by rw [show (nI (rdS (hrT el n z) q nu).2.1.1) = nI q2_111 from (by first | rfl | (simp [hR, nI00, c_1, c_6, hf_79, hf_88, hf_95, hf_104, hf_111, hf_123, hf_162]; done)), show ((rdS (hrT el n z) q nu).2.1.2.1) = upd (upd (upd nu 0 v2_79) (0 + 1) v2_95) ((0 + 1) + 1) v2_111 from (by first | rfl | (simp [hR, nI00, c_1, c_6, hf_79, hf_88, hf_95, hf_104, hf_111, hf_123, hf_162]; done)), show (nI (rdS (hrT el n z) q nu).2.1.2.2) = nI (((0 + 1) + 1) + 1) from (by first | rfl | (simp [hR, nI00, c_1, c_6, hf_79, hf_88, hf_95, hf_104, hf_111, hf_123, hf_162]; done)), show ((rdS (hrT el n z) q nu).2.2) = false from (by first | rfl | (simp [hR, nI00, c_1, c_6, hf_79, hf_88, hf_95, hf_104, hf_111, hf_123, hf_162]; done))]; exact hW)⟩
            · skip
              have hW : WW E (wM a (E.2.1 0) sv im rd wa kp so sz el pr ts (upd (upd nu 0 v2_79) (0 + 1) v2_95) bu ht (bI ig) th (nI (q2_95 + 1)) (nI (100 * n)) (nI z) (nI ((0 + 1) + 1)) (bI false)) gN H := hW
              refine lv_if_ne (pc := 114) (tgt := 119) hx hb dX8_readsStatement_114 (by decide) (fun c => (c (by decide)).elim) (fun _ => ?_)
              refine lv_iconst (pc := 117) (v := 0) hx hb dX8_readsStatement_117 (by decide) ?_
              have hR : rdS (hrT el n z) q nu = (false, (q2_95 + 1, upd (upd nu 0 v2_79) (0 + 1) v2_95, (0 + 1) + 1), false) := by simp [rdS, pF, c_1, c_6, hf_79, hf_88, hf_95, hf_104, hf_111]
              exact z_wzret (b := false) cx hr hlk dX8_readsStatement_118 hS ⟨(sI (by first | rfl | (simp [hR, c_1, c_6, hf_79, hf_88, hf_95, hf_104, hf_111]; done))), (by rw [hR]; first | assumption | omega), (by rw [show (nI (rdS (hrT el n z) q nu).2.1.1) = nI (q2_95 + 1) from (by first | rfl | (simp [hR, nI00, c_1, c_6, hf_79, hf_88, hf_95, hf_104, hf_111]; done)), show ((rdS (hrT el n z) q nu).2.1.2.1) = upd (upd nu 0 v2_79) (0 + 1) v2_95 from (by first | rfl | (simp [hR, nI00, c_1, c_6, hf_79, hf_88, hf_95, hf_104, hf_111]; done)), show (nI (rdS (hrT el n z) q nu).2.1.2.2) = nI ((0 + 1) + 1) from (by first | rfl | (simp [hR, nI00, c_1, c_6, hf_79, hf_88, hf_95, hf_104, hf_111]; done)), show ((rdS (hrT el n z) q nu).2.2) = false from (by first | rfl | (simp [hR, nI00, c_1, c_6, hf_79, hf_88, hf_95, hf_104, hf_111]; done))]; exact hW)⟩
          · skip
            have hW : WW E (wM a (E.2.1 0) sv im rd wa kp so sz el pr ts (upd (upd nu 0 v2_79) (0 + 1) v2_95) bu ht (bI ig) th (nI q2_95) (nI (100 * n)) (nI z) (nI ((0 + 1) + 1)) (bI false)) gN H := hW
            refine lv_if_eq (pc := 107) (tgt := 117) hx hb dX8_readsStatement_107 (by decide) (fun _ => ?_) (fun c => (c (by decide)).elim)
            refine lv_iconst (pc := 117) (v := 0) hx hb dX8_readsStatement_117 (by decide) ?_
            have hR : rdS (hrT el n z) q nu = (false, (q2_95, upd (upd nu 0 v2_79) (0 + 1) v2_95, (0 + 1) + 1), false) := by simp [rdS, pF, c_1, c_6, hf_79, hf_88, hf_95, hf_104]
            exact z_wzret (b := false) cx hr hlk dX8_readsStatement_118 hS ⟨(sI (by first | rfl | (simp [hR, c_1, c_6, hf_79, hf_88, hf_95, hf_104]; done))), (by rw [hR]; first | assumption | omega), (by rw [show (nI (rdS (hrT el n z) q nu).2.1.1) = nI q2_95 from (by first | rfl | (simp [hR, nI00, c_1, c_6, hf_79, hf_88, hf_95, hf_104]; done)), show ((rdS (hrT el n z) q nu).2.1.2.1) = upd (upd nu 0 v2_79) (0 + 1) v2_95 from (by first | rfl | (simp [hR, nI00, c_1, c_6, hf_79, hf_88, hf_95, hf_104]; done)), show (nI (rdS (hrT el n z) q nu).2.1.2.2) = nI ((0 + 1) + 1) from (by first | rfl | (simp [hR, nI00, c_1, c_6, hf_79, hf_88, hf_95, hf_104]; done)), show ((rdS (hrT el n z) q nu).2.2) = false from (by first | rfl | (simp [hR, nI00, c_1, c_6, hf_79, hf_88, hf_95, hf_104]; done))]; exact hW)⟩
        · skip
          have hW : WW E (wM a (E.2.1 0) sv im rd wa kp so sz el pr ts (upd nu 0 v2_79) bu ht (bI ig) th (nI (q2_79 + 1)) (nI (100 * n)) (nI z) (nI (0 + 1)) (bI false)) gN H := hW
          refine lv_if_eq (pc := 98) (tgt := 117) hx hb dX8_readsStatement_98 (by decide) (fun _ => ?_) (fun c => (c (by decide)).elim)
          refine lv_iconst (pc := 117) (v := 0) hx hb dX8_readsStatement_117 (by decide) ?_
          have hR : rdS (hrT el n z) q nu = (false, (q2_79 + 1, upd nu 0 v2_79, 0 + 1), false) := by simp [rdS, pF, c_1, c_6, hf_79, hf_88, hf_95]
          exact z_wzret (b := false) cx hr hlk dX8_readsStatement_118 hS ⟨(sI (by first | rfl | (simp [hR, c_1, c_6, hf_79, hf_88, hf_95]; done))), (by rw [hR]; first | assumption | omega), (by rw [show (nI (rdS (hrT el n z) q nu).2.1.1) = nI (q2_79 + 1) from (by first | rfl | (simp [hR, nI00, c_1, c_6, hf_79, hf_88, hf_95]; done)), show ((rdS (hrT el n z) q nu).2.1.2.1) = upd nu 0 v2_79 from (by first | rfl | (simp [hR, nI00, c_1, c_6, hf_79, hf_88, hf_95]; done)), show (nI (rdS (hrT el n z) q nu).2.1.2.2) = nI (0 + 1) from (by first | rfl | (simp [hR, nI00, c_1, c_6, hf_79, hf_88, hf_95]; done)), show ((rdS (hrT el n z) q nu).2.2) = false from (by first | rfl | (simp [hR, nI00, c_1, c_6, hf_79, hf_88, hf_95]; done))]; exact hW)⟩
      · skip
        have hW : WW E (wM a (E.2.1 0) sv im rd wa kp so sz el pr ts (upd nu 0 v2_79) bu ht (bI ig) th (nI q2_79) (nI (100 * n)) (nI z) (nI (0 + 1)) (bI false)) gN H := hW
        refine lv_if_eq (pc := 91) (tgt := 117) hx hb dX8_readsStatement_91 (by decide) (fun _ => ?_) (fun c => (c (by decide)).elim)
        refine lv_iconst (pc := 117) (v := 0) hx hb dX8_readsStatement_117 (by decide) ?_
        have hR : rdS (hrT el n z) q nu = (false, (q2_79, upd nu 0 v2_79, 0 + 1), false) := by simp [rdS, pF, c_1, c_6, hf_79, hf_88]
        exact z_wzret (b := false) cx hr hlk dX8_readsStatement_118 hS ⟨(sI (by first | rfl | (simp [hR, c_1, c_6, hf_79, hf_88]; done))), (by rw [hR]; first | assumption | omega), (by rw [show (nI (rdS (hrT el n z) q nu).2.1.1) = nI q2_79 from (by first | rfl | (simp [hR, nI00, c_1, c_6, hf_79, hf_88]; done)), show ((rdS (hrT el n z) q nu).2.1.2.1) = upd nu 0 v2_79 from (by first | rfl | (simp [hR, nI00, c_1, c_6, hf_79, hf_88]; done)), show (nI (rdS (hrT el n z) q nu).2.1.2.2) = nI (0 + 1) from (by first | rfl | (simp [hR, nI00, c_1, c_6, hf_79, hf_88]; done)), show ((rdS (hrT el n z) q nu).2.2) = false from (by first | rfl | (simp [hR, nI00, c_1, c_6, hf_79, hf_88]; done))]; exact hW)⟩
    · skip
      have hW : WW E (wM a (E.2.1 0) sv im rd wa kp so sz el pr ts nu bu ht (bI ig) th (nI (q + 1)) (nI (100 * n)) (nI z) 0 (bI false)) gN H := hW
      refine lv_if_eq (pc := 82) (tgt := 117) hx hb dX8_readsStatement_82 (by decide) (fun _ => ?_) (fun c => (c (by decide)).elim)
      refine lv_iconst (pc := 117) (v := 0) hx hb dX8_readsStatement_117 (by decide) ?_
      have hR : rdS (hrT el n z) q nu = (false, (q + 1, nu, 0), false) := by simp [rdS, pF, c_1, c_6, hf_79]
      exact z_wzret (b := false) cx hr hlk dX8_readsStatement_118 hS ⟨(sI (by first | rfl | (simp [hR, c_1, c_6, hf_79]; done))), (by rw [hR]; first | assumption | omega), (by rw [show (nI (rdS (hrT el n z) q nu).2.1.1) = nI (q + 1) from (by first | rfl | (simp [hR, nI00, c_1, c_6, hf_79]; done)), show ((rdS (hrT el n z) q nu).2.1.2.1) = nu from (by first | rfl | (simp [hR, nI00, c_1, c_6, hf_79]; done)), show (nI (rdS (hrT el n z) q nu).2.1.2.2) = 0 from (by first | rfl | (simp [hR, nI00, c_1, c_6, hf_79]; done)), show ((rdS (hrT el n z) q nu).2.2) = false from (by first | rfl | (simp [hR, nI00, c_1, c_6, hf_79]; done))]; exact hW)⟩
  by_cases c_29 : hrT el n z q = 114
  · rw [c_29]
    refine lv_lookup (pc := 16) (tgt := 293) (off := 277) hx hb dX8_readsStatement_16 (by decide) (by decide) (by decide) ?_
    refine lv_aload_n (pc := 293) hx hb dX8_readsStatement_293 rfl (lv_at hl 1 rfl) ?_
    refine lv_dup (pc := 294) hx hb dX8_readsStatement_294 rfl ?_
    refine z_getM (pc := 295) cx (hW.at 0 rfl) 12 rfl m_fl_X8_63 rfl dX8_readsStatement_295 ?_
    refine lv_iconst (pc := 298) (v := 1) hx hb dX8_readsStatement_298 (by decide) ?_
    refine lv_iadd (pc := 299) hx hb dX8_readsStatement_299 ?_
    refine z_putMi (pc := 300) cx hW hS 0 rfl (mF_in a 0) 12 rfl m_fl_X8_63 rfl rfl dX8_readsStatement_300 (fun H locs hW hS => ?_)
    have hW : WW E (wM a (E.2.1 0) sv im rd wa kp so sz el pr ts nu bu ht (bI ig) th ((nI q) + 1) (nI (100 * n)) (nI z) 0 (bI false)) gN H := hW
    rw [nI_1 q] at hW
    have hW : WW E (wM a (E.2.1 0) sv im rd wa kp so sz el pr ts nu bu ht (bI ig) th (nI (q + 1)) (nI (100 * n)) (nI z) 0 (bI false)) gN H := hW
    have hlt := hrT_lt2 (by assumption : hrT el n z q = _) (by decide)
    refine lv_aload_n (pc := 303) hx hb dX8_readsStatement_303 rfl (lv_at hl 1 rfl) ?_
    refine k_X8_readsDigit (pc := 304) (q := q + 1) (n := n) (z := z) (t := 0) cx hW hS (fun _ h => h) (by first | assumption | omega) (by first | assumption | omega) (by first | assumption | omega) (by first | assumption | omega) m_ml_X8_87 ⟨Nat.le_of_ble_eq_true rfl, Nat.le_of_ble_eq_true rfl⟩ hl.1 rfl (by simp [Value.category]) dX8_readsStatement_304 ⟨Nat.le_refl _, Nat.le_refl _⟩ (fun  H locs hf_304 hqz_304 hW hS => ?_) (fun  H locs hf_304 hW hS => ?_)
    · skip
      have hW : WW E (wM a (E.2.1 0) sv im rd wa kp so sz el pr ts (upd nu 0 (hrT el n z (q + 1) - 48)) bu ht (bI ig) th (nI ((q + 1) + 1)) (nI (100 * n)) (nI z) (nI (0 + 1)) (bI false)) gN H := hW
      refine lv_if_eq (pc := 307) (tgt := 323) hx hb dX8_readsStatement_307 (by decide) (fun c => absurd c (by decide)) (fun _ => ?_)
      refine lv_aload_n (pc := 310) hx hb dX8_readsStatement_310 rfl (lv_at hl 1 rfl) ?_
      refine lv_bipush (pc := 311) (v := 59) hx hb dX8_readsStatement_311 (by decide) ?_
      refine k_X8_takes (pc := 313) (k := 59) (q := (q + 1) + 1) (n := n) (z := z) cx hW hS (fun _ h => h) (by first | assumption | omega) (by first | assumption | omega) (by first | assumption | omega) (by first | assumption | omega) m_ml_X8_97 ⟨Nat.le_of_ble_eq_true rfl, Nat.le_of_ble_eq_true rfl⟩ hl.1 rfl (by simp [Value.category]) dX8_readsStatement_313 ⟨Nat.le_refl _, Nat.le_refl _⟩ (fun  H locs hf_313 hqz_313 hW hS => ?_) (fun  H locs hf_313 hW hS => ?_)
      · skip
        have hW : WW E (wM a (E.2.1 0) sv im rd wa kp so sz el pr ts (upd nu 0 (hrT el n z (q + 1) - 48)) bu ht (bI ig) th (nI (((q + 1) + 1) + 1)) (nI (100 * n)) (nI z) (nI (0 + 1)) (bI false)) gN H := hW
        refine lv_if_eq (pc := 316) (tgt := 323) hx hb dX8_readsStatement_316 (by decide) (fun c => absurd c (by decide)) (fun _ => ?_)
        refine lv_iconst (pc := 319) (v := 1) hx hb dX8_readsStatement_319 (by decide) ?_
        refine lv_goto (pc := 320) (tgt := 324) hx hb dX8_readsStatement_320 (by decide) ?_
        have hR : rdS (hrT el n z) q nu = (true, (((q + 1) + 1) + 1, upd nu 0 (hrT el n z (q + 1) - 48), 0 + 1), false) := by simp [rdS, pF, c_1, c_6, c_29, hf_304, hf_313]
        exact z_wzret (b := true) cx hr hlk dX8_readsStatement_324 hS ⟨(sI (by first | rfl | (simp [hR, c_1, c_6, c_29, hf_304, hf_313]; done))), (by rw [hR]; first | assumption | omega), (by rw [show (nI (rdS (hrT el n z) q nu).2.1.1) = nI (((q + 1) + 1) + 1) from (by first | rfl | (simp [hR, nI00, c_1, c_6, c_29, hf_304, hf_313]; done)), show ((rdS (hrT el n z) q nu).2.1.2.1) = upd nu 0 (hrT el n z (q + 1) - 48) from (by first | rfl | (simp [hR, nI00, c_1, c_6, c_29, hf_304, hf_313]; done)), show (nI (rdS (hrT el n z) q nu).2.1.2.2) = nI (0 + 1) from (by first | rfl | (simp [hR, nI00, c_1, c_6, c_29, hf_304, hf_313]; done)), show ((rdS (hrT el n z) q nu).2.2) = false from (by first | rfl | (simp [hR, nI00, c_1, c_6, c_29, hf_304, hf_313]; done))]; exact hW)⟩
      · skip
        have hW : WW E (wM a (E.2.1 0) sv im rd wa kp so sz el pr ts (upd nu 0 (hrT el n z (q + 1) - 48)) bu ht (bI ig) th (nI ((q + 1) + 1)) (nI (100 * n)) (nI z) (nI (0 + 1)) (bI false)) gN H := hW
        refine lv_if_eq (pc := 316) (tgt := 323) hx hb dX8_readsStatement_316 (by decide) (fun _ => ?_) (fun c => (c (by decide)).elim)
        refine lv_iconst (pc := 323) (v := 0) hx hb dX8_readsStatement_323 (by decide) ?_
        have hR : rdS (hrT el n z) q nu = (false, ((q + 1) + 1, upd nu 0 (hrT el n z (q + 1) - 48), 0 + 1), false) := by simp [rdS, pF, c_1, c_6, c_29, hf_304, hf_313]
        exact z_wzret (b := false) cx hr hlk dX8_readsStatement_324 hS ⟨(sI (by first | rfl | (simp [hR, c_1, c_6, c_29, hf_304, hf_313]; done))), (by rw [hR]; first | assumption | omega), (by rw [show (nI (rdS (hrT el n z) q nu).2.1.1) = nI ((q + 1) + 1) from (by first | rfl | (simp [hR, nI00, c_1, c_6, c_29, hf_304, hf_313]; done)), show ((rdS (hrT el n z) q nu).2.1.2.1) = upd nu 0 (hrT el n z (q + 1) - 48) from (by first | rfl | (simp [hR, nI00, c_1, c_6, c_29, hf_304, hf_313]; done)), show (nI (rdS (hrT el n z) q nu).2.1.2.2) = nI (0 + 1) from (by first | rfl | (simp [hR, nI00, c_1, c_6, c_29, hf_304, hf_313]; done)), show ((rdS (hrT el n z) q nu).2.2) = false from (by first | rfl | (simp [hR, nI00, c_1, c_6, c_29, hf_304, hf_313]; done))]; exact hW)⟩
    · skip
      have hW : WW E (wM a (E.2.1 0) sv im rd wa kp so sz el pr ts nu bu ht (bI ig) th (nI (q + 1)) (nI (100 * n)) (nI z) 0 (bI false)) gN H := hW
      refine lv_if_eq (pc := 307) (tgt := 323) hx hb dX8_readsStatement_307 (by decide) (fun _ => ?_) (fun c => (c (by decide)).elim)
      refine lv_iconst (pc := 323) (v := 0) hx hb dX8_readsStatement_323 (by decide) ?_
      have hR : rdS (hrT el n z) q nu = (false, (q + 1, nu, 0), false) := by simp [rdS, pF, c_1, c_6, c_29, hf_304]
      exact z_wzret (b := false) cx hr hlk dX8_readsStatement_324 hS ⟨(sI (by first | rfl | (simp [hR, c_1, c_6, c_29, hf_304]; done))), (by rw [hR]; first | assumption | omega), (by rw [show (nI (rdS (hrT el n z) q nu).2.1.1) = nI (q + 1) from (by first | rfl | (simp [hR, nI00, c_1, c_6, c_29, hf_304]; done)), show ((rdS (hrT el n z) q nu).2.1.2.1) = nu from (by first | rfl | (simp [hR, nI00, c_1, c_6, c_29, hf_304]; done)), show (nI (rdS (hrT el n z) q nu).2.1.2.2) = 0 from (by first | rfl | (simp [hR, nI00, c_1, c_6, c_29, hf_304]; done)), show ((rdS (hrT el n z) q nu).2.2) = false from (by first | rfl | (simp [hR, nI00, c_1, c_6, c_29, hf_304]; done))]; exact hW)⟩
  by_cases c_34 : hrT el n z q = 116
  · rw [c_34]
    refine lv_lookup (pc := 16) (tgt := 174) (off := 158) hx hb dX8_readsStatement_16 (by decide) (by decide) (by decide) ?_
    refine lv_aload_n (pc := 174) hx hb dX8_readsStatement_174 rfl (lv_at hl 1 rfl) ?_
    refine lv_dup (pc := 175) hx hb dX8_readsStatement_175 rfl ?_
    refine z_getM (pc := 176) cx (hW.at 0 rfl) 12 rfl m_fl_X8_63 rfl dX8_readsStatement_176 ?_
    refine lv_iconst (pc := 179) (v := 1) hx hb dX8_readsStatement_179 (by decide) ?_
    refine lv_iadd (pc := 180) hx hb dX8_readsStatement_180 ?_
    refine z_putMi (pc := 181) cx hW hS 0 rfl (mF_in a 0) 12 rfl m_fl_X8_63 rfl rfl dX8_readsStatement_181 (fun H locs hW hS => ?_)
    have hW : WW E (wM a (E.2.1 0) sv im rd wa kp so sz el pr ts nu bu ht (bI ig) th ((nI q) + 1) (nI (100 * n)) (nI z) 0 (bI false)) gN H := hW
    rw [nI_1 q] at hW
    have hW : WW E (wM a (E.2.1 0) sv im rd wa kp so sz el pr ts nu bu ht (bI ig) th (nI (q + 1)) (nI (100 * n)) (nI z) 0 (bI false)) gN H := hW
    have hlt := hrT_lt2 (by assumption : hrT el n z q = _) (by decide)
    refine lv_aload_n (pc := 184) hx hb dX8_readsStatement_184 rfl (lv_at hl 1 rfl) ?_
    refine k_X8_readsDigit (pc := 185) (q := q + 1) (n := n) (z := z) (t := 0) cx hW hS (fun _ h => h) (by first | assumption | omega) (by first | assumption | omega) (by first | assumption | omega) (by first | assumption | omega) m_ml_X8_87 ⟨Nat.le_of_ble_eq_true rfl, Nat.le_of_ble_eq_true rfl⟩ hl.1 rfl (by simp [Value.category]) dX8_readsStatement_185 ⟨Nat.le_refl _, Nat.le_refl _⟩ (fun  H locs hf_185 hqz_185 hW hS => ?_) (fun  H locs hf_185 hW hS => ?_)
    · skip
      have hW : WW E (wM a (E.2.1 0) sv im rd wa kp so sz el pr ts (upd nu 0 (hrT el n z (q + 1) - 48)) bu ht (bI ig) th (nI ((q + 1) + 1)) (nI (100 * n)) (nI z) (nI (0 + 1)) (bI false)) gN H := hW
      refine lv_if_eq (pc := 188) (tgt := 259) hx hb dX8_readsStatement_188 (by decide) (fun c => absurd c (by decide)) (fun _ => ?_)
      refine lv_aload_n (pc := 191) hx hb dX8_readsStatement_191 rfl (lv_at hl 1 rfl) ?_
      refine k_X8_readsDigit (pc := 192) (q := (q + 1) + 1) (n := n) (z := z) (t := 0 + 1) cx hW hS (fun _ h => h) (by first | assumption | omega) (by first | assumption | omega) (by first | assumption | omega) (by first | assumption | omega) m_ml_X8_87 ⟨Nat.le_of_ble_eq_true rfl, Nat.le_of_ble_eq_true rfl⟩ hl.1 rfl (by simp [Value.category]) dX8_readsStatement_192 ⟨Nat.le_refl _, Nat.le_refl _⟩ (fun  H locs hf_192 hqz_192 hW hS => ?_) (fun  H locs hf_192 hW hS => ?_)
      · skip
        have hW : WW E (wM a (E.2.1 0) sv im rd wa kp so sz el pr ts (upd (upd nu 0 (hrT el n z (q + 1) - 48)) (0 + 1) (hrT el n z ((q + 1) + 1) - 48)) bu ht (bI ig) th (nI (((q + 1) + 1) + 1)) (nI (100 * n)) (nI z) (nI ((0 + 1) + 1)) (bI false)) gN H := hW
        refine lv_if_eq (pc := 195) (tgt := 259) hx hb dX8_readsStatement_195 (by decide) (fun c => absurd c (by decide)) (fun _ => ?_)
        refine lv_aload_n (pc := 198) hx hb dX8_readsStatement_198 rfl (lv_at hl 1 rfl) ?_
        refine lv_bipush (pc := 199) (v := 32) hx hb dX8_readsStatement_199 (by decide) ?_
        refine k_X8_takes (pc := 201) (k := 32) (q := ((q + 1) + 1) + 1) (n := n) (z := z) cx hW hS (fun _ h => h) (by first | assumption | omega) (by first | assumption | omega) (by first | assumption | omega) (by first | assumption | omega) m_ml_X8_97 ⟨Nat.le_of_ble_eq_true rfl, Nat.le_of_ble_eq_true rfl⟩ hl.1 rfl (by simp [Value.category]) dX8_readsStatement_201 ⟨Nat.le_refl _, Nat.le_refl _⟩ (fun  H locs hf_201 hqz_201 hW hS => ?_) (fun  H locs hf_201 hW hS => ?_)
        · skip
          have hW : WW E (wM a (E.2.1 0) sv im rd wa kp so sz el pr ts (upd (upd nu 0 (hrT el n z (q + 1) - 48)) (0 + 1) (hrT el n z ((q + 1) + 1) - 48)) bu ht (bI ig) th (nI ((((q + 1) + 1) + 1) + 1)) (nI (100 * n)) (nI z) (nI ((0 + 1) + 1)) (bI false)) gN H := hW
          refine lv_if_eq (pc := 204) (tgt := 259) hx hb dX8_readsStatement_204 (by decide) (fun c => absurd c (by decide)) (fun _ => ?_)
          refine lv_aload_n (pc := 207) hx hb dX8_readsStatement_207 rfl (lv_at hl 1 rfl) ?_
          refine k_X8_readsNumber (pc := 208) (q := (((q + 1) + 1) + 1) + 1) (n := n) (z := z) (t := (0 + 1) + 1) cx hW hS (fun _ h => h) (by first | assumption | omega) (by first | assumption | omega) (by first | assumption | omega) (by first | assumption | omega) m_ml_X8_94 ⟨Nat.le_of_ble_eq_true rfl, Nat.le_of_ble_eq_true rfl⟩ hl.1 rfl (by simp [Value.category]) dX8_readsStatement_208 ⟨Nat.le_refl _, Nat.le_refl _⟩ (fun q2_208 v2_208 H locs hf_208 hqz_208 hW hS => ?_) (fun  H locs hf_208 hW hS => ?_)
          · skip
            have hW : WW E (wM a (E.2.1 0) sv im rd wa kp so sz el pr ts (upd (upd (upd nu 0 (hrT el n z (q + 1) - 48)) (0 + 1) (hrT el n z ((q + 1) + 1) - 48)) ((0 + 1) + 1) v2_208) bu ht (bI ig) th (nI q2_208) (nI (100 * n)) (nI z) (nI (((0 + 1) + 1) + 1)) (bI false)) gN H := hW
            refine lv_if_eq (pc := 211) (tgt := 259) hx hb dX8_readsStatement_211 (by decide) (fun c => absurd c (by decide)) (fun _ => ?_)
            refine lv_aload_n (pc := 214) hx hb dX8_readsStatement_214 rfl (lv_at hl 1 rfl) ?_
            refine lv_bipush (pc := 215) (v := 32) hx hb dX8_readsStatement_215 (by decide) ?_
            refine k_X8_takes (pc := 217) (k := 32) (q := q2_208) (n := n) (z := z) cx hW hS (fun _ h => h) (by first | assumption | omega) (by first | assumption | omega) (by first | assumption | omega) (by first | assumption | omega) m_ml_X8_97 ⟨Nat.le_of_ble_eq_true rfl, Nat.le_of_ble_eq_true rfl⟩ hl.1 rfl (by simp [Value.category]) dX8_readsStatement_217 ⟨Nat.le_refl _, Nat.le_refl _⟩ (fun  H locs hf_217 hqz_217 hW hS => ?_) (fun  H locs hf_217 hW hS => ?_)
            · skip
              have hW : WW E (wM a (E.2.1 0) sv im rd wa kp so sz el pr ts (upd (upd (upd nu 0 (hrT el n z (q + 1) - 48)) (0 + 1) (hrT el n z ((q + 1) + 1) - 48)) ((0 + 1) + 1) v2_208) bu ht (bI ig) th (nI (q2_208 + 1)) (nI (100 * n)) (nI z) (nI (((0 + 1) + 1) + 1)) (bI false)) gN H := hW
              refine lv_if_eq (pc := 220) (tgt := 259) hx hb dX8_readsStatement_220 (by decide) (fun c => absurd c (by decide)) (fun _ => ?_)
              refine lv_aload_n (pc := 223) hx hb dX8_readsStatement_223 rfl (lv_at hl 1 rfl) ?_
              refine k_X8_readsDigit (pc := 224) (q := q2_208 + 1) (n := n) (z := z) (t := ((0 + 1) + 1) + 1) cx hW hS (fun _ h => h) (by first | assumption | omega) (by first | assumption | omega) (by first | assumption | omega) (by first | assumption | omega) m_ml_X8_87 ⟨Nat.le_of_ble_eq_true rfl, Nat.le_of_ble_eq_true rfl⟩ hl.1 rfl (by simp [Value.category]) dX8_readsStatement_224 ⟨Nat.le_refl _, Nat.le_refl _⟩ (fun  H locs hf_224 hqz_224 hW hS => ?_) (fun  H locs hf_224 hW hS => ?_)
              · skip
                have hW : WW E (wM a (E.2.1 0) sv im rd wa kp so sz el pr ts (upd (upd (upd (upd nu 0 (hrT el n z (q + 1) - 48)) (0 + 1) (hrT el n z ((q + 1) + 1) - 48)) ((0 + 1) + 1) v2_208) (((0 + 1) + 1) + 1) (hrT el n z (q2_208 + 1) - 48)) bu ht (bI ig) th (nI ((q2_208 + 1) + 1)) (nI (100 * n)) (nI z) (nI ((((0 + 1) + 1) + 1) + 1)) (bI false)) gN H := hW
                refine lv_if_eq (pc := 227) (tgt := 259) hx hb dX8_readsStatement_227 (by decide) (fun c => absurd c (by decide)) (fun _ => ?_)
                refine lv_aload_n (pc := 230) hx hb dX8_readsStatement_230 rfl (lv_at hl 1 rfl) ?_
                refine lv_bipush (pc := 231) (v := 32) hx hb dX8_readsStatement_231 (by decide) ?_
                refine k_X8_takes (pc := 233) (k := 32) (q := (q2_208 + 1) + 1) (n := n) (z := z) cx hW hS (fun _ h => h) (by first | assumption | omega) (by first | assumption | omega) (by first | assumption | omega) (by first | assumption | omega) m_ml_X8_97 ⟨Nat.le_of_ble_eq_true rfl, Nat.le_of_ble_eq_true rfl⟩ hl.1 rfl (by simp [Value.category]) dX8_readsStatement_233 ⟨Nat.le_refl _, Nat.le_refl _⟩ (fun  H locs hf_233 hqz_233 hW hS => ?_) (fun  H locs hf_233 hW hS => ?_)
                · skip
                  have hW : WW E (wM a (E.2.1 0) sv im rd wa kp so sz el pr ts (upd (upd (upd (upd nu 0 (hrT el n z (q + 1) - 48)) (0 + 1) (hrT el n z ((q + 1) + 1) - 48)) ((0 + 1) + 1) v2_208) (((0 + 1) + 1) + 1) (hrT el n z (q2_208 + 1) - 48)) bu ht (bI ig) th (nI (((q2_208 + 1) + 1) + 1)) (nI (100 * n)) (nI z) (nI ((((0 + 1) + 1) + 1) + 1)) (bI false)) gN H := hW
                  refine lv_if_eq (pc := 236) (tgt := 259) hx hb dX8_readsStatement_236 (by decide) (fun c => absurd c (by decide)) (fun _ => ?_)
                  refine lv_aload_n (pc := 239) hx hb dX8_readsStatement_239 rfl (lv_at hl 1 rfl) ?_
                  refine k_X8_readsNumber (pc := 240) (q := ((q2_208 + 1) + 1) + 1) (n := n) (z := z) (t := (((0 + 1) + 1) + 1) + 1) cx hW hS (fun _ h => h) (by first | assumption | omega) (by first | assumption | omega) (by first | assumption | omega) (by first | assumption | omega) m_ml_X8_94 ⟨Nat.le_of_ble_eq_true rfl, Nat.le_of_ble_eq_true rfl⟩ hl.1 rfl (by simp [Value.category]) dX8_readsStatement_240 ⟨Nat.le_refl _, Nat.le_refl _⟩ (fun q2_240 v2_240 H locs hf_240 hqz_240 hW hS => ?_) (fun  H locs hf_240 hW hS => ?_)
                  · skip
                    have hW : WW E (wM a (E.2.1 0) sv im rd wa kp so sz el pr ts (upd (upd (upd (upd (upd nu 0 (hrT el n z (q + 1) - 48)) (0 + 1) (hrT el n z ((q + 1) + 1) - 48)) ((0 + 1) + 1) v2_208) (((0 + 1) + 1) + 1) (hrT el n z (q2_208 + 1) - 48)) ((((0 + 1) + 1) + 1) + 1) v2_240) bu ht (bI ig) th (nI q2_240) (nI (100 * n)) (nI z) (nI (((((0 + 1) + 1) + 1) + 1) + 1)) (bI false)) gN H := hW
                    refine lv_if_eq (pc := 243) (tgt := 259) hx hb dX8_readsStatement_243 (by decide) (fun c => absurd c (by decide)) (fun _ => ?_)
                    refine lv_aload_n (pc := 246) hx hb dX8_readsStatement_246 rfl (lv_at hl 1 rfl) ?_
                    refine lv_bipush (pc := 247) (v := 59) hx hb dX8_readsStatement_247 (by decide) ?_
                    refine k_X8_takes (pc := 249) (k := 59) (q := q2_240) (n := n) (z := z) cx hW hS (fun _ h => h) (by first | assumption | omega) (by first | assumption | omega) (by first | assumption | omega) (by first | assumption | omega) m_ml_X8_97 ⟨Nat.le_of_ble_eq_true rfl, Nat.le_of_ble_eq_true rfl⟩ hl.1 rfl (by simp [Value.category]) dX8_readsStatement_249 ⟨Nat.le_refl _, Nat.le_refl _⟩ (fun  H locs hf_249 hqz_249 hW hS => ?_) (fun  H locs hf_249 hW hS => ?_)
                    · skip
                      have hW : WW E (wM a (E.2.1 0) sv im rd wa kp so sz el pr ts (upd (upd (upd (upd (upd nu 0 (hrT el n z (q + 1) - 48)) (0 + 1) (hrT el n z ((q + 1) + 1) - 48)) ((0 + 1) + 1) v2_208) (((0 + 1) + 1) + 1) (hrT el n z (q2_208 + 1) - 48)) ((((0 + 1) + 1) + 1) + 1) v2_240) bu ht (bI ig) th (nI (q2_240 + 1)) (nI (100 * n)) (nI z) (nI (((((0 + 1) + 1) + 1) + 1) + 1)) (bI false)) gN H := hW
                      refine lv_if_eq (pc := 252) (tgt := 259) hx hb dX8_readsStatement_252 (by decide) (fun c => absurd c (by decide)) (fun _ => ?_)
                      refine lv_iconst (pc := 255) (v := 1) hx hb dX8_readsStatement_255 (by decide) ?_
                      refine lv_goto (pc := 256) (tgt := 260) hx hb dX8_readsStatement_256 (by decide) ?_
                      have hR : rdS (hrT el n z) q nu = (true, (q2_240 + 1, upd (upd (upd (upd (upd nu 0 (hrT el n z (q + 1) - 48)) (0 + 1) (hrT el n z ((q + 1) + 1) - 48)) ((0 + 1) + 1) v2_208) (((0 + 1) + 1) + 1) (hrT el n z (q2_208 + 1) - 48)) ((((0 + 1) + 1) + 1) + 1) v2_240, ((((0 + 1) + 1) + 1) + 1) + 1), false) := by simp [rdS, pF, c_1, c_6, c_29, c_34, hf_185, hf_192, hf_201, hf_208, hf_217, hf_224, hf_233, hf_240, hf_249]
                      exact z_wzret (b := true) cx hr hlk dX8_readsStatement_260 hS ⟨(sI (by first | rfl | (simp [hR, c_1, c_6, c_29, c_34, hf_185, hf_192, hf_201, hf_208, hf_217, hf_224, hf_233, hf_240, hf_249]; done))), (by rw [hR]; first | assumption | omega), (by rw [show (nI (rdS (hrT el n z) q nu).2.1.1) = nI (q2_240 + 1) from (by first | rfl | (simp [hR, nI00, c_1, c_6, c_29, c_34, hf_185, hf_192, hf_201, hf_208, hf_217, hf_224, hf_233, hf_240, hf_249]; done)), show ((rdS (hrT el n z) q nu).2.1.2.1) = upd (upd (upd (upd (upd nu 0 (hrT el n z (q + 1) - 48)) (0 + 1) (hrT el n z ((q + 1) + 1) - 48)) ((0 + 1) + 1) v2_208) (((0 + 1) + 1) + 1) (hrT el n z (q2_208 + 1) - 48)) ((((0 + 1) + 1) + 1) + 1) v2_240 from (by first | rfl | (simp [hR, nI00, c_1, c_6, c_29, c_34, hf_185, hf_192, hf_201, hf_208, hf_217, hf_224, hf_233, hf_240, hf_249]; done)), show (nI (rdS (hrT el n z) q nu).2.1.2.2) = nI (((((0 + 1) + 1) + 1) + 1) + 1) from (by first | rfl | (simp [hR, nI00, c_1, c_6, c_29, c_34, hf_185, hf_192, hf_201, hf_208, hf_217, hf_224, hf_233, hf_240, hf_249]; done)), show ((rdS (hrT el n z) q nu).2.2) = false from (by first | rfl | (simp [hR, nI00, c_1, c_6, c_29, c_34, hf_185, hf_192, hf_201, hf_208, hf_217, hf_224, hf_233, hf_240, hf_249]; done))]; exact hW)⟩
                    · skip
                      have hW : WW E (wM a (E.2.1 0) sv im rd wa kp so sz el pr ts (upd (upd (upd (upd (upd nu 0 (hrT el n z (q + 1) - 48)) (0 + 1) (hrT el n z ((q + 1) + 1) - 48)) ((0 + 1) + 1) v2_208) (((0 + 1) + 1) + 1) (hrT el n z (q2_208 + 1) - 48)) ((((0 + 1) + 1) + 1) + 1) v2_240) bu ht (bI ig) th (nI q2_240) (nI (100 * n)) (nI z) (nI (((((0 + 1) + 1) + 1) + 1) + 1)) (bI false)) gN H := hW
                      refine lv_if_eq (pc := 252) (tgt := 259) hx hb dX8_readsStatement_252 (by decide) (fun _ => ?_) (fun c => (c (by decide)).elim)
                      refine lv_iconst (pc := 259) (v := 0) hx hb dX8_readsStatement_259 (by decide) ?_
                      have hR : rdS (hrT el n z) q nu = (false, (q2_240, upd (upd (upd (upd (upd nu 0 (hrT el n z (q + 1) - 48)) (0 + 1) (hrT el n z ((q + 1) + 1) - 48)) ((0 + 1) + 1) v2_208) (((0 + 1) + 1) + 1) (hrT el n z (q2_208 + 1) - 48)) ((((0 + 1) + 1) + 1) + 1) v2_240, ((((0 + 1) + 1) + 1) + 1) + 1), false) := by simp [rdS, pF, c_1, c_6, c_29, c_34, hf_185, hf_192, hf_201, hf_208, hf_217, hf_224, hf_233, hf_240, hf_249]
                      exact z_wzret (b := false) cx hr hlk dX8_readsStatement_260 hS ⟨(sI (by first | rfl | (simp [hR, c_1, c_6, c_29, c_34, hf_185, hf_192, hf_201, hf_208, hf_217, hf_224, hf_233, hf_240, hf_249]; done))), (by rw [hR]; first | assumption | omega), (by rw [show (nI (rdS (hrT el n z) q nu).2.1.1) = nI q2_240 from (by first | rfl | (simp [hR, nI00, c_1, c_6, c_29, c_34, hf_185, hf_192, hf_201, hf_208, hf_217, hf_224, hf_233, hf_240, hf_249]; done)), show ((rdS (hrT el n z) q nu).2.1.2.1) = upd (upd (upd (upd (upd nu 0 (hrT el n z (q + 1) - 48)) (0 + 1) (hrT el n z ((q + 1) + 1) - 48)) ((0 + 1) + 1) v2_208) (((0 + 1) + 1) + 1) (hrT el n z (q2_208 + 1) - 48)) ((((0 + 1) + 1) + 1) + 1) v2_240 from (by first | rfl | (simp [hR, nI00, c_1, c_6, c_29, c_34, hf_185, hf_192, hf_201, hf_208, hf_217, hf_224, hf_233, hf_240, hf_249]; done)), show (nI (rdS (hrT el n z) q nu).2.1.2.2) = nI (((((0 + 1) + 1) + 1) + 1) + 1) from (by first | rfl | (simp [hR, nI00, c_1, c_6, c_29, c_34, hf_185, hf_192, hf_201, hf_208, hf_217, hf_224, hf_233, hf_240, hf_249]; done)), show ((rdS (hrT el n z) q nu).2.2) = false from (by first | rfl | (simp [hR, nI00, c_1, c_6, c_29, c_34, hf_185, hf_192, hf_201, hf_208, hf_217, hf_224, hf_233, hf_240, hf_249]; done))]; exact hW)⟩
                  · skip
                    have hW : WW E (wM a (E.2.1 0) sv im rd wa kp so sz el pr ts (upd (upd (upd (upd nu 0 (hrT el n z (q + 1) - 48)) (0 + 1) (hrT el n z ((q + 1) + 1) - 48)) ((0 + 1) + 1) v2_208) (((0 + 1) + 1) + 1) (hrT el n z (q2_208 + 1) - 48)) bu ht (bI ig) th (nI (((q2_208 + 1) + 1) + 1)) (nI (100 * n)) (nI z) (nI ((((0 + 1) + 1) + 1) + 1)) (bI false)) gN H := hW
                    refine lv_if_eq (pc := 243) (tgt := 259) hx hb dX8_readsStatement_243 (by decide) (fun _ => ?_) (fun c => (c (by decide)).elim)
                    refine lv_iconst (pc := 259) (v := 0) hx hb dX8_readsStatement_259 (by decide) ?_
                    have hR : rdS (hrT el n z) q nu = (false, (((q2_208 + 1) + 1) + 1, upd (upd (upd (upd nu 0 (hrT el n z (q + 1) - 48)) (0 + 1) (hrT el n z ((q + 1) + 1) - 48)) ((0 + 1) + 1) v2_208) (((0 + 1) + 1) + 1) (hrT el n z (q2_208 + 1) - 48), (((0 + 1) + 1) + 1) + 1), false) := by simp [rdS, pF, c_1, c_6, c_29, c_34, hf_185, hf_192, hf_201, hf_208, hf_217, hf_224, hf_233, hf_240]
                    exact z_wzret (b := false) cx hr hlk dX8_readsStatement_260 hS ⟨(sI (by first | rfl | (simp [hR, c_1, c_6, c_29, c_34, hf_185, hf_192, hf_201, hf_208, hf_217, hf_224, hf_233, hf_240]; done))), (by rw [hR]; first | assumption | omega), (by rw [show (nI (rdS (hrT el n z) q nu).2.1.1) = nI (((q2_208 + 1) + 1) + 1) from (by first | rfl | (simp [hR, nI00, c_1, c_6, c_29, c_34, hf_185, hf_192, hf_201, hf_208, hf_217, hf_224, hf_233, hf_240]; done)), show ((rdS (hrT el n z) q nu).2.1.2.1) = upd (upd (upd (upd nu 0 (hrT el n z (q + 1) - 48)) (0 + 1) (hrT el n z ((q + 1) + 1) - 48)) ((0 + 1) + 1) v2_208) (((0 + 1) + 1) + 1) (hrT el n z (q2_208 + 1) - 48) from (by first | rfl | (simp [hR, nI00, c_1, c_6, c_29, c_34, hf_185, hf_192, hf_201, hf_208, hf_217, hf_224, hf_233, hf_240]; done)), show (nI (rdS (hrT el n z) q nu).2.1.2.2) = nI ((((0 + 1) + 1) + 1) + 1) from (by first | rfl | (simp [hR, nI00, c_1, c_6, c_29, c_34, hf_185, hf_192, hf_201, hf_208, hf_217, hf_224, hf_233, hf_240]; done)), show ((rdS (hrT el n z) q nu).2.2) = false from (by first | rfl | (simp [hR, nI00, c_1, c_6, c_29, c_34, hf_185, hf_192, hf_201, hf_208, hf_217, hf_224, hf_233, hf_240]; done))]; exact hW)⟩
                · skip
                  have hW : WW E (wM a (E.2.1 0) sv im rd wa kp so sz el pr ts (upd (upd (upd (upd nu 0 (hrT el n z (q + 1) - 48)) (0 + 1) (hrT el n z ((q + 1) + 1) - 48)) ((0 + 1) + 1) v2_208) (((0 + 1) + 1) + 1) (hrT el n z (q2_208 + 1) - 48)) bu ht (bI ig) th (nI ((q2_208 + 1) + 1)) (nI (100 * n)) (nI z) (nI ((((0 + 1) + 1) + 1) + 1)) (bI false)) gN H := hW
                  refine lv_if_eq (pc := 236) (tgt := 259) hx hb dX8_readsStatement_236 (by decide) (fun _ => ?_) (fun c => (c (by decide)).elim)
                  refine lv_iconst (pc := 259) (v := 0) hx hb dX8_readsStatement_259 (by decide) ?_
                  have hR : rdS (hrT el n z) q nu = (false, ((q2_208 + 1) + 1, upd (upd (upd (upd nu 0 (hrT el n z (q + 1) - 48)) (0 + 1) (hrT el n z ((q + 1) + 1) - 48)) ((0 + 1) + 1) v2_208) (((0 + 1) + 1) + 1) (hrT el n z (q2_208 + 1) - 48), (((0 + 1) + 1) + 1) + 1), false) := by simp [rdS, pF, c_1, c_6, c_29, c_34, hf_185, hf_192, hf_201, hf_208, hf_217, hf_224, hf_233]
                  exact z_wzret (b := false) cx hr hlk dX8_readsStatement_260 hS ⟨(sI (by first | rfl | (simp [hR, c_1, c_6, c_29, c_34, hf_185, hf_192, hf_201, hf_208, hf_217, hf_224, hf_233]; done))), (by rw [hR]; first | assumption | omega), (by rw [show (nI (rdS (hrT el n z) q nu).2.1.1) = nI ((q2_208 + 1) + 1) from (by first | rfl | (simp [hR, nI00, c_1, c_6, c_29, c_34, hf_185, hf_192, hf_201, hf_208, hf_217, hf_224, hf_233]; done)), show ((rdS (hrT el n z) q nu).2.1.2.1) = upd (upd (upd (upd nu 0 (hrT el n z (q + 1) - 48)) (0 + 1) (hrT el n z ((q + 1) + 1) - 48)) ((0 + 1) + 1) v2_208) (((0 + 1) + 1) + 1) (hrT el n z (q2_208 + 1) - 48) from (by first | rfl | (simp [hR, nI00, c_1, c_6, c_29, c_34, hf_185, hf_192, hf_201, hf_208, hf_217, hf_224, hf_233]; done)), show (nI (rdS (hrT el n z) q nu).2.1.2.2) = nI ((((0 + 1) + 1) + 1) + 1) from (by first | rfl | (simp [hR, nI00, c_1, c_6, c_29, c_34, hf_185, hf_192, hf_201, hf_208, hf_217, hf_224, hf_233]; done)), show ((rdS (hrT el n z) q nu).2.2) = false from (by first | rfl | (simp [hR, nI00, c_1, c_6, c_29, c_34, hf_185, hf_192, hf_201, hf_208, hf_217, hf_224, hf_233]; done))]; exact hW)⟩
              · skip
                have hW : WW E (wM a (E.2.1 0) sv im rd wa kp so sz el pr ts (upd (upd (upd nu 0 (hrT el n z (q + 1) - 48)) (0 + 1) (hrT el n z ((q + 1) + 1) - 48)) ((0 + 1) + 1) v2_208) bu ht (bI ig) th (nI (q2_208 + 1)) (nI (100 * n)) (nI z) (nI (((0 + 1) + 1) + 1)) (bI false)) gN H := hW
                refine lv_if_eq (pc := 227) (tgt := 259) hx hb dX8_readsStatement_227 (by decide) (fun _ => ?_) (fun c => (c (by decide)).elim)
                refine lv_iconst (pc := 259) (v := 0) hx hb dX8_readsStatement_259 (by decide) ?_
                have hR : rdS (hrT el n z) q nu = (false, (q2_208 + 1, upd (upd (upd nu 0 (hrT el n z (q + 1) - 48)) (0 + 1) (hrT el n z ((q + 1) + 1) - 48)) ((0 + 1) + 1) v2_208, ((0 + 1) + 1) + 1), false) := by simp [rdS, pF, c_1, c_6, c_29, c_34, hf_185, hf_192, hf_201, hf_208, hf_217, hf_224]
                exact z_wzret (b := false) cx hr hlk dX8_readsStatement_260 hS ⟨(sI (by first | rfl | (simp [hR, c_1, c_6, c_29, c_34, hf_185, hf_192, hf_201, hf_208, hf_217, hf_224]; done))), (by rw [hR]; first | assumption | omega), (by rw [show (nI (rdS (hrT el n z) q nu).2.1.1) = nI (q2_208 + 1) from (by first | rfl | (simp [hR, nI00, c_1, c_6, c_29, c_34, hf_185, hf_192, hf_201, hf_208, hf_217, hf_224]; done)), show ((rdS (hrT el n z) q nu).2.1.2.1) = upd (upd (upd nu 0 (hrT el n z (q + 1) - 48)) (0 + 1) (hrT el n z ((q + 1) + 1) - 48)) ((0 + 1) + 1) v2_208 from (by first | rfl | (simp [hR, nI00, c_1, c_6, c_29, c_34, hf_185, hf_192, hf_201, hf_208, hf_217, hf_224]; done)), show (nI (rdS (hrT el n z) q nu).2.1.2.2) = nI (((0 + 1) + 1) + 1) from (by first | rfl | (simp [hR, nI00, c_1, c_6, c_29, c_34, hf_185, hf_192, hf_201, hf_208, hf_217, hf_224]; done)), show ((rdS (hrT el n z) q nu).2.2) = false from (by first | rfl | (simp [hR, nI00, c_1, c_6, c_29, c_34, hf_185, hf_192, hf_201, hf_208, hf_217, hf_224]; done))]; exact hW)⟩
            · skip
              have hW : WW E (wM a (E.2.1 0) sv im rd wa kp so sz el pr ts (upd (upd (upd nu 0 (hrT el n z (q + 1) - 48)) (0 + 1) (hrT el n z ((q + 1) + 1) - 48)) ((0 + 1) + 1) v2_208) bu ht (bI ig) th (nI q2_208) (nI (100 * n)) (nI z) (nI (((0 + 1) + 1) + 1)) (bI false)) gN H := hW
              refine lv_if_eq (pc := 220) (tgt := 259) hx hb dX8_readsStatement_220 (by decide) (fun _ => ?_) (fun c => (c (by decide)).elim)
              refine lv_iconst (pc := 259) (v := 0) hx hb dX8_readsStatement_259 (by decide) ?_
              have hR : rdS (hrT el n z) q nu = (false, (q2_208, upd (upd (upd nu 0 (hrT el n z (q + 1) - 48)) (0 + 1) (hrT el n z ((q + 1) + 1) - 48)) ((0 + 1) + 1) v2_208, ((0 + 1) + 1) + 1), false) := by simp [rdS, pF, c_1, c_6, c_29, c_34, hf_185, hf_192, hf_201, hf_208, hf_217]
              exact z_wzret (b := false) cx hr hlk dX8_readsStatement_260 hS ⟨(sI (by first | rfl | (simp [hR, c_1, c_6, c_29, c_34, hf_185, hf_192, hf_201, hf_208, hf_217]; done))), (by rw [hR]; first | assumption | omega), (by rw [show (nI (rdS (hrT el n z) q nu).2.1.1) = nI q2_208 from (by first | rfl | (simp [hR, nI00, c_1, c_6, c_29, c_34, hf_185, hf_192, hf_201, hf_208, hf_217]; done)), show ((rdS (hrT el n z) q nu).2.1.2.1) = upd (upd (upd nu 0 (hrT el n z (q + 1) - 48)) (0 + 1) (hrT el n z ((q + 1) + 1) - 48)) ((0 + 1) + 1) v2_208 from (by first | rfl | (simp [hR, nI00, c_1, c_6, c_29, c_34, hf_185, hf_192, hf_201, hf_208, hf_217]; done)), show (nI (rdS (hrT el n z) q nu).2.1.2.2) = nI (((0 + 1) + 1) + 1) from (by first | rfl | (simp [hR, nI00, c_1, c_6, c_29, c_34, hf_185, hf_192, hf_201, hf_208, hf_217]; done)), show ((rdS (hrT el n z) q nu).2.2) = false from (by first | rfl | (simp [hR, nI00, c_1, c_6, c_29, c_34, hf_185, hf_192, hf_201, hf_208, hf_217]; done))]; exact hW)⟩
          · skip
            have hW : WW E (wM a (E.2.1 0) sv im rd wa kp so sz el pr ts (upd (upd nu 0 (hrT el n z (q + 1) - 48)) (0 + 1) (hrT el n z ((q + 1) + 1) - 48)) bu ht (bI ig) th (nI ((((q + 1) + 1) + 1) + 1)) (nI (100 * n)) (nI z) (nI ((0 + 1) + 1)) (bI false)) gN H := hW
            refine lv_if_eq (pc := 211) (tgt := 259) hx hb dX8_readsStatement_211 (by decide) (fun _ => ?_) (fun c => (c (by decide)).elim)
            refine lv_iconst (pc := 259) (v := 0) hx hb dX8_readsStatement_259 (by decide) ?_
            have hR : rdS (hrT el n z) q nu = (false, ((((q + 1) + 1) + 1) + 1, upd (upd nu 0 (hrT el n z (q + 1) - 48)) (0 + 1) (hrT el n z ((q + 1) + 1) - 48), (0 + 1) + 1), false) := by simp [rdS, pF, c_1, c_6, c_29, c_34, hf_185, hf_192, hf_201, hf_208]
            exact z_wzret (b := false) cx hr hlk dX8_readsStatement_260 hS ⟨(sI (by first | rfl | (simp [hR, c_1, c_6, c_29, c_34, hf_185, hf_192, hf_201, hf_208]; done))), (by rw [hR]; first | assumption | omega), (by rw [show (nI (rdS (hrT el n z) q nu).2.1.1) = nI ((((q + 1) + 1) + 1) + 1) from (by first | rfl | (simp [hR, nI00, c_1, c_6, c_29, c_34, hf_185, hf_192, hf_201, hf_208]; done)), show ((rdS (hrT el n z) q nu).2.1.2.1) = upd (upd nu 0 (hrT el n z (q + 1) - 48)) (0 + 1) (hrT el n z ((q + 1) + 1) - 48) from (by first | rfl | (simp [hR, nI00, c_1, c_6, c_29, c_34, hf_185, hf_192, hf_201, hf_208]; done)), show (nI (rdS (hrT el n z) q nu).2.1.2.2) = nI ((0 + 1) + 1) from (by first | rfl | (simp [hR, nI00, c_1, c_6, c_29, c_34, hf_185, hf_192, hf_201, hf_208]; done)), show ((rdS (hrT el n z) q nu).2.2) = false from (by first | rfl | (simp [hR, nI00, c_1, c_6, c_29, c_34, hf_185, hf_192, hf_201, hf_208]; done))]; exact hW)⟩
        · skip
          have hW : WW E (wM a (E.2.1 0) sv im rd wa kp so sz el pr ts (upd (upd nu 0 (hrT el n z (q + 1) - 48)) (0 + 1) (hrT el n z ((q + 1) + 1) - 48)) bu ht (bI ig) th (nI (((q + 1) + 1) + 1)) (nI (100 * n)) (nI z) (nI ((0 + 1) + 1)) (bI false)) gN H := hW
          refine lv_if_eq (pc := 204) (tgt := 259) hx hb dX8_readsStatement_204 (by decide) (fun _ => ?_) (fun c => (c (by decide)).elim)
          refine lv_iconst (pc := 259) (v := 0) hx hb dX8_readsStatement_259 (by decide) ?_
          have hR : rdS (hrT el n z) q nu = (false, (((q + 1) + 1) + 1, upd (upd nu 0 (hrT el n z (q + 1) - 48)) (0 + 1) (hrT el n z ((q + 1) + 1) - 48), (0 + 1) + 1), false) := by simp [rdS, pF, c_1, c_6, c_29, c_34, hf_185, hf_192, hf_201]
          exact z_wzret (b := false) cx hr hlk dX8_readsStatement_260 hS ⟨(sI (by first | rfl | (simp [hR, c_1, c_6, c_29, c_34, hf_185, hf_192, hf_201]; done))), (by rw [hR]; first | assumption | omega), (by rw [show (nI (rdS (hrT el n z) q nu).2.1.1) = nI (((q + 1) + 1) + 1) from (by first | rfl | (simp [hR, nI00, c_1, c_6, c_29, c_34, hf_185, hf_192, hf_201]; done)), show ((rdS (hrT el n z) q nu).2.1.2.1) = upd (upd nu 0 (hrT el n z (q + 1) - 48)) (0 + 1) (hrT el n z ((q + 1) + 1) - 48) from (by first | rfl | (simp [hR, nI00, c_1, c_6, c_29, c_34, hf_185, hf_192, hf_201]; done)), show (nI (rdS (hrT el n z) q nu).2.1.2.2) = nI ((0 + 1) + 1) from (by first | rfl | (simp [hR, nI00, c_1, c_6, c_29, c_34, hf_185, hf_192, hf_201]; done)), show ((rdS (hrT el n z) q nu).2.2) = false from (by first | rfl | (simp [hR, nI00, c_1, c_6, c_29, c_34, hf_185, hf_192, hf_201]; done))]; exact hW)⟩
      · skip
        have hW : WW E (wM a (E.2.1 0) sv im rd wa kp so sz el pr ts (upd nu 0 (hrT el n z (q + 1) - 48)) bu ht (bI ig) th (nI ((q + 1) + 1)) (nI (100 * n)) (nI z) (nI (0 + 1)) (bI false)) gN H := hW
        refine lv_if_eq (pc := 195) (tgt := 259) hx hb dX8_readsStatement_195 (by decide) (fun _ => ?_) (fun c => (c (by decide)).elim)
        refine lv_iconst (pc := 259) (v := 0) hx hb dX8_readsStatement_259 (by decide) ?_
        have hR : rdS (hrT el n z) q nu = (false, ((q + 1) + 1, upd nu 0 (hrT el n z (q + 1) - 48), 0 + 1), false) := by simp [rdS, pF, c_1, c_6, c_29, c_34, hf_185, hf_192]
        exact z_wzret (b := false) cx hr hlk dX8_readsStatement_260 hS ⟨(sI (by first | rfl | (simp [hR, c_1, c_6, c_29, c_34, hf_185, hf_192]; done))), (by rw [hR]; first | assumption | omega), (by rw [show (nI (rdS (hrT el n z) q nu).2.1.1) = nI ((q + 1) + 1) from (by first | rfl | (simp [hR, nI00, c_1, c_6, c_29, c_34, hf_185, hf_192]; done)), show ((rdS (hrT el n z) q nu).2.1.2.1) = upd nu 0 (hrT el n z (q + 1) - 48) from (by first | rfl | (simp [hR, nI00, c_1, c_6, c_29, c_34, hf_185, hf_192]; done)), show (nI (rdS (hrT el n z) q nu).2.1.2.2) = nI (0 + 1) from (by first | rfl | (simp [hR, nI00, c_1, c_6, c_29, c_34, hf_185, hf_192]; done)), show ((rdS (hrT el n z) q nu).2.2) = false from (by first | rfl | (simp [hR, nI00, c_1, c_6, c_29, c_34, hf_185, hf_192]; done))]; exact hW)⟩
    · skip
      have hW : WW E (wM a (E.2.1 0) sv im rd wa kp so sz el pr ts nu bu ht (bI ig) th (nI (q + 1)) (nI (100 * n)) (nI z) 0 (bI false)) gN H := hW
      refine lv_if_eq (pc := 188) (tgt := 259) hx hb dX8_readsStatement_188 (by decide) (fun _ => ?_) (fun c => (c (by decide)).elim)
      refine lv_iconst (pc := 259) (v := 0) hx hb dX8_readsStatement_259 (by decide) ?_
      have hR : rdS (hrT el n z) q nu = (false, (q + 1, nu, 0), false) := by simp [rdS, pF, c_1, c_6, c_29, c_34, hf_185]
      exact z_wzret (b := false) cx hr hlk dX8_readsStatement_260 hS ⟨(sI (by first | rfl | (simp [hR, c_1, c_6, c_29, c_34, hf_185]; done))), (by rw [hR]; first | assumption | omega), (by rw [show (nI (rdS (hrT el n z) q nu).2.1.1) = nI (q + 1) from (by first | rfl | (simp [hR, nI00, c_1, c_6, c_29, c_34, hf_185]; done)), show ((rdS (hrT el n z) q nu).2.1.2.1) = nu from (by first | rfl | (simp [hR, nI00, c_1, c_6, c_29, c_34, hf_185]; done)), show (nI (rdS (hrT el n z) q nu).2.1.2.2) = 0 from (by first | rfl | (simp [hR, nI00, c_1, c_6, c_29, c_34, hf_185]; done)), show ((rdS (hrT el n z) q nu).2.2) = false from (by first | rfl | (simp [hR, nI00, c_1, c_6, c_29, c_34, hf_185]; done))]; exact hW)⟩
  by_cases c_53 : hrT el n z q = 119
  · rw [c_53]
    refine lv_lookup (pc := 16) (tgt := 293) (off := 277) hx hb dX8_readsStatement_16 (by decide) (by decide) (by decide) ?_
    refine lv_aload_n (pc := 293) hx hb dX8_readsStatement_293 rfl (lv_at hl 1 rfl) ?_
    refine lv_dup (pc := 294) hx hb dX8_readsStatement_294 rfl ?_
    refine z_getM (pc := 295) cx (hW.at 0 rfl) 12 rfl m_fl_X8_63 rfl dX8_readsStatement_295 ?_
    refine lv_iconst (pc := 298) (v := 1) hx hb dX8_readsStatement_298 (by decide) ?_
    refine lv_iadd (pc := 299) hx hb dX8_readsStatement_299 ?_
    refine z_putMi (pc := 300) cx hW hS 0 rfl (mF_in a 0) 12 rfl m_fl_X8_63 rfl rfl dX8_readsStatement_300 (fun H locs hW hS => ?_)
    have hW : WW E (wM a (E.2.1 0) sv im rd wa kp so sz el pr ts nu bu ht (bI ig) th ((nI q) + 1) (nI (100 * n)) (nI z) 0 (bI false)) gN H := hW
    rw [nI_1 q] at hW
    have hW : WW E (wM a (E.2.1 0) sv im rd wa kp so sz el pr ts nu bu ht (bI ig) th (nI (q + 1)) (nI (100 * n)) (nI z) 0 (bI false)) gN H := hW
    have hlt := hrT_lt2 (by assumption : hrT el n z q = _) (by decide)
    refine lv_aload_n (pc := 303) hx hb dX8_readsStatement_303 rfl (lv_at hl 1 rfl) ?_
    refine k_X8_readsDigit (pc := 304) (q := q + 1) (n := n) (z := z) (t := 0) cx hW hS (fun _ h => h) (by first | assumption | omega) (by first | assumption | omega) (by first | assumption | omega) (by first | assumption | omega) m_ml_X8_87 ⟨Nat.le_of_ble_eq_true rfl, Nat.le_of_ble_eq_true rfl⟩ hl.1 rfl (by simp [Value.category]) dX8_readsStatement_304 ⟨Nat.le_refl _, Nat.le_refl _⟩ (fun  H locs hf_304 hqz_304 hW hS => ?_) (fun  H locs hf_304 hW hS => ?_)
    · skip
      have hW : WW E (wM a (E.2.1 0) sv im rd wa kp so sz el pr ts (upd nu 0 (hrT el n z (q + 1) - 48)) bu ht (bI ig) th (nI ((q + 1) + 1)) (nI (100 * n)) (nI z) (nI (0 + 1)) (bI false)) gN H := hW
      refine lv_if_eq (pc := 307) (tgt := 323) hx hb dX8_readsStatement_307 (by decide) (fun c => absurd c (by decide)) (fun _ => ?_)
      refine lv_aload_n (pc := 310) hx hb dX8_readsStatement_310 rfl (lv_at hl 1 rfl) ?_
      refine lv_bipush (pc := 311) (v := 59) hx hb dX8_readsStatement_311 (by decide) ?_
      refine k_X8_takes (pc := 313) (k := 59) (q := (q + 1) + 1) (n := n) (z := z) cx hW hS (fun _ h => h) (by first | assumption | omega) (by first | assumption | omega) (by first | assumption | omega) (by first | assumption | omega) m_ml_X8_97 ⟨Nat.le_of_ble_eq_true rfl, Nat.le_of_ble_eq_true rfl⟩ hl.1 rfl (by simp [Value.category]) dX8_readsStatement_313 ⟨Nat.le_refl _, Nat.le_refl _⟩ (fun  H locs hf_313 hqz_313 hW hS => ?_) (fun  H locs hf_313 hW hS => ?_)
      · skip
        have hW : WW E (wM a (E.2.1 0) sv im rd wa kp so sz el pr ts (upd nu 0 (hrT el n z (q + 1) - 48)) bu ht (bI ig) th (nI (((q + 1) + 1) + 1)) (nI (100 * n)) (nI z) (nI (0 + 1)) (bI false)) gN H := hW
        refine lv_if_eq (pc := 316) (tgt := 323) hx hb dX8_readsStatement_316 (by decide) (fun c => absurd c (by decide)) (fun _ => ?_)
        refine lv_iconst (pc := 319) (v := 1) hx hb dX8_readsStatement_319 (by decide) ?_
        refine lv_goto (pc := 320) (tgt := 324) hx hb dX8_readsStatement_320 (by decide) ?_
        have hR : rdS (hrT el n z) q nu = (true, (((q + 1) + 1) + 1, upd nu 0 (hrT el n z (q + 1) - 48), 0 + 1), false) := by simp [rdS, pF, c_1, c_6, c_29, c_34, c_53, hf_304, hf_313]
        exact z_wzret (b := true) cx hr hlk dX8_readsStatement_324 hS ⟨(sI (by first | rfl | (simp [hR, c_1, c_6, c_29, c_34, c_53, hf_304, hf_313]; done))), (by rw [hR]; first | assumption | omega), (by rw [show (nI (rdS (hrT el n z) q nu).2.1.1) = nI (((q + 1) + 1) + 1) from (by first | rfl | (simp [hR, nI00, c_1, c_6, c_29, c_34, c_53, hf_304, hf_313]; done)), show ((rdS (hrT el n z) q nu).2.1.2.1) = upd nu 0 (hrT el n z (q + 1) - 48) from (by first | rfl | (simp [hR, nI00, c_1, c_6, c_29, c_34, c_53, hf_304, hf_313]; done)), show (nI (rdS (hrT el n z) q nu).2.1.2.2) = nI (0 + 1) from (by first | rfl | (simp [hR, nI00, c_1, c_6, c_29, c_34, c_53, hf_304, hf_313]; done)), show ((rdS (hrT el n z) q nu).2.2) = false from (by first | rfl | (simp [hR, nI00, c_1, c_6, c_29, c_34, c_53, hf_304, hf_313]; done))]; exact hW)⟩
      · skip
        have hW : WW E (wM a (E.2.1 0) sv im rd wa kp so sz el pr ts (upd nu 0 (hrT el n z (q + 1) - 48)) bu ht (bI ig) th (nI ((q + 1) + 1)) (nI (100 * n)) (nI z) (nI (0 + 1)) (bI false)) gN H := hW
        refine lv_if_eq (pc := 316) (tgt := 323) hx hb dX8_readsStatement_316 (by decide) (fun _ => ?_) (fun c => (c (by decide)).elim)
        refine lv_iconst (pc := 323) (v := 0) hx hb dX8_readsStatement_323 (by decide) ?_
        have hR : rdS (hrT el n z) q nu = (false, ((q + 1) + 1, upd nu 0 (hrT el n z (q + 1) - 48), 0 + 1), false) := by simp [rdS, pF, c_1, c_6, c_29, c_34, c_53, hf_304, hf_313]
        exact z_wzret (b := false) cx hr hlk dX8_readsStatement_324 hS ⟨(sI (by first | rfl | (simp [hR, c_1, c_6, c_29, c_34, c_53, hf_304, hf_313]; done))), (by rw [hR]; first | assumption | omega), (by rw [show (nI (rdS (hrT el n z) q nu).2.1.1) = nI ((q + 1) + 1) from (by first | rfl | (simp [hR, nI00, c_1, c_6, c_29, c_34, c_53, hf_304, hf_313]; done)), show ((rdS (hrT el n z) q nu).2.1.2.1) = upd nu 0 (hrT el n z (q + 1) - 48) from (by first | rfl | (simp [hR, nI00, c_1, c_6, c_29, c_34, c_53, hf_304, hf_313]; done)), show (nI (rdS (hrT el n z) q nu).2.1.2.2) = nI (0 + 1) from (by first | rfl | (simp [hR, nI00, c_1, c_6, c_29, c_34, c_53, hf_304, hf_313]; done)), show ((rdS (hrT el n z) q nu).2.2) = false from (by first | rfl | (simp [hR, nI00, c_1, c_6, c_29, c_34, c_53, hf_304, hf_313]; done))]; exact hW)⟩
    · skip
      have hW : WW E (wM a (E.2.1 0) sv im rd wa kp so sz el pr ts nu bu ht (bI ig) th (nI (q + 1)) (nI (100 * n)) (nI z) 0 (bI false)) gN H := hW
      refine lv_if_eq (pc := 307) (tgt := 323) hx hb dX8_readsStatement_307 (by decide) (fun _ => ?_) (fun c => (c (by decide)).elim)
      refine lv_iconst (pc := 323) (v := 0) hx hb dX8_readsStatement_323 (by decide) ?_
      have hR : rdS (hrT el n z) q nu = (false, (q + 1, nu, 0), false) := by simp [rdS, pF, c_1, c_6, c_29, c_34, c_53, hf_304]
      exact z_wzret (b := false) cx hr hlk dX8_readsStatement_324 hS ⟨(sI (by first | rfl | (simp [hR, c_1, c_6, c_29, c_34, c_53, hf_304]; done))), (by rw [hR]; first | assumption | omega), (by rw [show (nI (rdS (hrT el n z) q nu).2.1.1) = nI (q + 1) from (by first | rfl | (simp [hR, nI00, c_1, c_6, c_29, c_34, c_53, hf_304]; done)), show ((rdS (hrT el n z) q nu).2.1.2.1) = nu from (by first | rfl | (simp [hR, nI00, c_1, c_6, c_29, c_34, c_53, hf_304]; done)), show (nI (rdS (hrT el n z) q nu).2.1.2.2) = 0 from (by first | rfl | (simp [hR, nI00, c_1, c_6, c_29, c_34, c_53, hf_304]; done)), show ((rdS (hrT el n z) q nu).2.2) = false from (by first | rfl | (simp [hR, nI00, c_1, c_6, c_29, c_34, c_53, hf_304]; done))]; exact hW)⟩
  refine lv_lookup (pc := 16) (tgt := 325) (off := 309) hx hb dX8_readsStatement_16 (by decide) ((lv_osw c_1 (by decide)).trans ((lv_osw c_6 (by decide)).trans ((lv_osw c_29 (by decide)).trans ((lv_osw c_34 (by decide)).trans ((lv_osw c_53 (by decide)).trans (rfl)))))) (by decide) ?_
  refine lv_iconst (pc := 325) (v := 0) hx hb dX8_readsStatement_325 (by decide) ?_
  have hR : rdS (hrT el n z) q nu = (false, (q, nu, 0), false) := by simp [rdS, pF, c_1, c_6, c_29, c_34, c_53]
  exact z_wzret (b := false) cx hr hlk dX8_readsStatement_326 hS ⟨(sI (by first | rfl | (simp [hR, c_1, c_6, c_29, c_34, c_53]; done))), (by rw [hR]; first | assumption | omega), (by rw [show (nI (rdS (hrT el n z) q nu).2.1.1) = nI q from (by first | rfl | (simp [hR, nI00, c_1, c_6, c_29, c_34, c_53]; done)), show ((rdS (hrT el n z) q nu).2.1.2.1) = nu from (by first | rfl | (simp [hR, nI00, c_1, c_6, c_29, c_34, c_53]; done)), show (nI (rdS (hrT el n z) q nu).2.1.2.2) = 0 from (by first | rfl | (simp [hR, nI00, c_1, c_6, c_29, c_34, c_53]; done)), show ((rdS (hrT el n z) q nu).2.2) = false from (by first | rfl | (simp [hR, nI00, c_1, c_6, c_29, c_34, c_53]; done))]; exact hW)⟩
theorem k_X8_readsStatement {p : Program} {l : Launch} {e : Env} {R : Room} {s : State} {m : MethodId} {args : Array Value} {below : List Frame} {meth : Method} {c : Code} {H H0 : Heap} {locs : List Loc} {cells slots : Nat} {Q : State → Prop} {cc : ByteArray} {pc index : Nat} {ls : Array Slot} {rest st0 : List Value} {E : zE} {own : String} {nL : Nat} {F : Nat → Prop} {a : Nat → Nat} {sv im rd wa kp so sz el pr ts nu bu ht : Nat → Int32} {th td : Int32} {ig : Bool} {ij : Bool} {q n z : Nat} (cx : Cx E p s args m c own cc nL) (hW : WW E (wM a (E.2.1 0) sv im rd wa kp so sz el pr ts nu bu ht (bI ig) th (nI q) (nI (100 * n)) (nI z) td (bI ij)) gN H) (hS : va_S F H0 H locs) (zF : ∀ q, (mF a) q → F q) (hn : n < 8) (hz : z ≤ 100) (hq : q ≤ z) (zl : Cond.methodLink own index yX8_readsStatement ∈ AllW) (zR : 4 + 1 ≤ R.frames ∧ 8 + (2 + 11) + 86 ≤ R.locals) (zs : ls.size = nL) (zt : st0 = ([] : List Value).reverse ++ .ref (a 0) :: rest) (z8 : (rest.map fun v => v.category).sum ≤ 8) (zd : decode cc pc = .ok (.invokevirtual index, 3)) (zf : cells ≤ R.cells ∧ slots ≤ R.slots) (kk0 : ∀  (H1 : Heap) (locs1 : List Loc), ((rdS (hrT el n z) q nu).2.1.1 ≤ z) → WW E (wM a (E.2.1 0) sv im rd wa kp so sz el pr ts ((rdS (hrT el n z) q nu).2.1.2.1) bu ht (bI ig) th (nI (rdS (hrT el n z) q nu).2.1.1) (nI (100 * n)) (nI z) (nI (rdS (hrT el n z) q nu).2.1.2.2) (bI ((rdS (hrT el n z) q nu).2.2))) gN H1 → va_S F H0 H1 locs1 → W p l e R s m args below meth c H1 locs1 cells slots Q (F0 m (pc + 3) ls (.int (bI ((rdS (hrT el n z) q nu).1)) :: rest))) : W p l e R s m args below meth c H locs cells slots Q (F0 m pc ls st0) := by
  refine z_callVw cx vm_X8_readsStatement (c_X8_readsStatement l E a sv im rd wa kp so sz el pr ts nu bu ht th td ig ij q n z hn hz hq) (z_rec cx.2 (hW.at 0 rfl) rfl) hW hS zF zl ⟨rfl, rfl⟩ zR rfl zs zt z8 zd zf (fun v H1 locs1 hq hS1 _ => ?_)
  rcases hq with ⟨rfl, hq3, hW1⟩
  · exact kk0  H1 locs1 hq3 hW1 hS1
