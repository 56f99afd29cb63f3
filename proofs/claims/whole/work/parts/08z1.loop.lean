/-! the law's loop -/
theorem lp_le {L n : Nat} (hL : L ≤ 3072) (hn : 6 * n ≤ L + 5) (h : ¬ nI L - 6 < nI (6 * n)) : 6 * n + 6 ≤ L := by
  have e6 : (6 : Int32).toInt = 6 := rfl
  have h1 : (nI L).toInt = L := nI_toInt (by omega)
  have h2 : (nI (6 * n)).toInt = (6 * n : Nat) := nI_toInt (by omega)
  rw [Int32.lt_iff_toInt_lt, ti_sub (by omega) (by omega), h1, h2, e6] at h
  omega
set_option maxHeartbeats 8000000 in
set_option maxRecDepth 100000 in
theorem law_loop {p : Program} {e : Env} {s : State} {m : MethodId} {args : Array Value} {below : List Frame} {meth : Method} {c : Code} {Q : State → Prop} {E : zE} {a b : Nat → Nat} {o sb L : Nat} {xs : Nat → Int32} (l : Launch) (hst : l.stackTraces = false) (cx : Cx E p s args m c RL code 8) (hX : va_X sb L xs s s.heap) (hsb : sb < s.heap.size) (hLL : L ≤ 3072) (hLF : LF a b o s.heap.size) (hCE : CE E (FL s.heap.size) s s.heap) (hXE : XE E (FL s.heap.size) s s.heap) (kend : ∀ (H : Heap) (locs : List Loc) (ls : Array Slot), va_S (FL s.heap.size) s.heap H locs → W p l e room_1 s m args below meth c H locs 660476 7114676 Q (F0 m 1846 ls [])) :
    ∀ (k n : Nat), L + 7 - 6 * n < k → 6 * n ≤ L + 5 → ∀ (r : Nat → Int32) (im : Nat → Int32) (ig : Bool) (kp : Nat → Int32) (so : Nat → Int32) (sz : Nat → Int32) (el : Nat → Int32) (pr : Nat → Int32) (ts : Nat → Int32) (G : zG) (H : Heap) (locs : List Loc) (ls : Array Slot), lv_has ls 8 [(4, .int (nI (6 * n))), (3, .ref o), (2, .ref (a 0)), (1, .ref (b 0)), (0, .ref sb)] → CLS E b r im ig kp so sz el pr ts G H → REF E a r im ig kp so sz el pr ts H → OUTc E o H → SEP a o s.heap.size G → va_S (FL s.heap.size) s.heap H locs → W p l e room_1 s m args below meth c H locs (100 + 200 * n) (5000 + 2000 * n) Q (F0 m 23 ls []) := by
  intro k
  induction k with
  | zero => intro n hm; omega
  | succ k ih =>
    intro n hm hn r im ig kp so sz el pr ts G H locs ls hl hC hR hO hSG hS
    have hx := cx.x
    have hb := cx.b
    have hn512 : n ≤ 513 := by omega
    refine lv_iload (pc := 23) hx hb dL_law_23 (lv_at hl 0 rfl) ?_
    refine lv_aload_n (pc := 25) hx hb dL_law_25 rfl (lv_at hl 4 rfl) ?_
    refine va_slen (pc := 26) hx hb hX hsb (Nat.not_le.mpr hsb) hS dL_law_26 ?_
    refine lv_bipush (pc := 27) (v := 6) hx hb dL_law_27 (by decide) ?_
    refine lv_isub (pc := 29) hx hb dL_law_29 ?_
    refine lv_icmp_gt (pc := 30) (tgt := 1846) hx hb dL_law_30 (by decide) (fun _ => ?_) (fun c0 => ?_)
    · refine W.widen (k := 660476) (n := 7114676) (by omega) (by omega) ?_
      exact kend H locs ls hS
    have hi : 6 * n + 6 ≤ L := lp_le hLL hn c0
    refine lv_aload_n (pc := 33) hx hb dL_law_33 rfl (lv_at hl 4 rfl) ?_
    refine lv_iload (pc := 34) hx hb dL_law_34 (lv_at hl 0 rfl) ?_
    refine z_sld (j := 6 * n) (pc := 36) cx hX hsb (Nat.not_le.mpr hsb) hS rfl (by omega) hLL dL_law_36 ?_
    refine lv_bipush (pc := 37) (v := 63) hx hb dL_law_37 (by decide) ?_
    refine lv_iand (pc := 39) hx hb dL_law_39 ?_
    have kk : ∀ (r : Nat → Int32) (im : Nat → Int32) (ig : Bool) (kp : Nat → Int32) (so : Nat → Int32) (sz : Nat → Int32) (el : Nat → Int32) (pr : Nat → Int32) (ts : Nat → Int32) (G : zG) (H1 : Heap) (locs1 : List Loc) (ls1 : Array Slot), lv_has ls1 8 [(4, .int (nI (6 * n))), (3, .ref o), (2, .ref (a 0)), (1, .ref (b 0)), (0, .ref sb)] → CLS E b r im ig kp so sz el pr ts G H1 → REF E a r im ig kp so sz el pr ts H1 → OUTc E o H1 → SEP a o s.heap.size G → va_S (FL s.heap.size) s.heap H1 locs1 → W p l e room_1 s m args below meth c H1 locs1 (100 + 200 * n + 200) (5000 + 2000 * n + 2000) Q (F0 m 1840 ls1 []) := by
      intro r im ig kp so sz el pr ts G H locs ls hl hC hR hO hSG hS
      refine lv_iinc (pc := 1840) (v := nI (6 * n + 6)) (lv' := [(4, .int (nI (6 * n + 6))), (3, .ref o), (2, .ref (a 0)), (1, .ref (b 0)), (0, .ref sb)]) hx hb dL_law_1840 hl (k := 0) rfl (nI_add _ 6) (by decide) rfl (fun ls hl => ?_)
      refine lv_goto (pc := 1843) (tgt := 23) hx hb dL_law_1843 (by decide) ?_
      refine W.widen (k := 100 + 200 * (n + 1)) (n := 5000 + 2000 * (n + 1)) (by omega) (by omega) ?_
      exact ih (n + 1) (by omega) (by omega) r im ig kp so sz el pr ts G H locs ls hl hC hR hO hSG hS
    by_cases c_0 : xs (6 * n) &&& 63 = 0
    · rw [c_0]
      refine lv_tableIn (pc := 40) (tgt := 224) hx hb dL_law_40 (by decide) (by decide) rfl (by decide) ?_
      exact y_0 l hst (i := 6 * n) cx hX hsb hLL hi hLF hCE hXE hl hS (by omega) (by omega) hC hR hO hSG kk
    by_cases c_1 : xs (6 * n) &&& 63 = 1
    · rw [c_1]
      refine lv_tableIn (pc := 40) (tgt := 249) hx hb dL_law_40 (by decide) (by decide) rfl (by decide) ?_
      exact y_1 l hst (i := 6 * n) cx hX hsb hLL hi hLF hCE hXE hl hS (by omega) (by omega) hC hR hO hSG kk
    by_cases c_2 : xs (6 * n) &&& 63 = 2
    · rw [c_2]
      refine lv_tableIn (pc := 40) (tgt := 286) hx hb dL_law_40 (by decide) (by decide) rfl (by decide) ?_
      exact y_2 l hst (i := 6 * n) cx hX hsb hLL hi hLF hCE hXE hl hS (by omega) (by omega) hC hR hO hSG kk
    by_cases c_3 : xs (6 * n) &&& 63 = 3
    · rw [c_3]
      refine lv_tableIn (pc := 40) (tgt := 323) hx hb dL_law_40 (by decide) (by decide) rfl (by decide) ?_
      exact y_3 l hst (i := 6 * n) cx hX hsb hLL hi hLF hCE hXE hl hS (by omega) (by omega) hC hR hO hSG kk
    by_cases c_4 : xs (6 * n) &&& 63 = 4
    · rw [c_4]
      refine lv_tableIn (pc := 40) (tgt := 360) hx hb dL_law_40 (by decide) (by decide) rfl (by decide) ?_
      exact y_4 l hst (i := 6 * n) cx hX hsb hLL hi hLF hCE hXE hl hS (by omega) (by omega) hC hR hO hSG kk
    by_cases c_5 : xs (6 * n) &&& 63 = 5
    · rw [c_5]
      refine lv_tableIn (pc := 40) (tgt := 385) hx hb dL_law_40 (by decide) (by decide) rfl (by decide) ?_
      exact y_5 l hst (i := 6 * n) cx hX hsb hLL hi hLF hCE hXE hl hS (by omega) (by omega) hC hR hO hSG kk
    by_cases c_6 : xs (6 * n) &&& 63 = 6
    · rw [c_6]
      refine lv_tableIn (pc := 40) (tgt := 422) hx hb dL_law_40 (by decide) (by decide) rfl (by decide) ?_
      exact y_6 l hst (i := 6 * n) cx hX hsb hLL hi hLF hCE hXE hl hS (by omega) (by omega) hC hR hO hSG kk
    by_cases c_7 : xs (6 * n) &&& 63 = 7
    · rw [c_7]
      refine lv_tableIn (pc := 40) (tgt := 471) hx hb dL_law_40 (by decide) (by decide) rfl (by decide) ?_
      exact y_7 l hst (i := 6 * n) cx hX hsb hLL hi hLF hCE hXE hl hS (by omega) (by omega) hC hR hO hSG kk
    by_cases c_8 : xs (6 * n) &&& 63 = 8
    · rw [c_8]
      refine lv_tableIn (pc := 40) (tgt := 532) hx hb dL_law_40 (by decide) (by decide) rfl (by decide) ?_
      exact y_8 l hst (i := 6 * n) cx hX hsb hLL hi hLF hCE hXE hl hS (by omega) (by omega) hC hR hO hSG kk
    by_cases c_9 : xs (6 * n) &&& 63 = 9
    · rw [c_9]
      refine lv_tableIn (pc := 40) (tgt := 569) hx hb dL_law_40 (by decide) (by decide) rfl (by decide) ?_
      exact y_9 l hst (i := 6 * n) cx hX hsb hLL hi hLF hCE hXE hl hS (by omega) (by omega) hC hR hO hSG kk
    by_cases c_10 : xs (6 * n) &&& 63 = 10
    · rw [c_10]
      refine lv_tableIn (pc := 40) (tgt := 630) hx hb dL_law_40 (by decide) (by decide) rfl (by decide) ?_
      exact y_10 l hst (i := 6 * n) cx hX hsb hLL hi hLF hCE hXE hl hS (by omega) (by omega) hC hR hO hSG kk
    by_cases c_11 : xs (6 * n) &&& 63 = 11
    · rw [c_11]
      refine lv_tableIn (pc := 40) (tgt := 667) hx hb dL_law_40 (by decide) (by decide) rfl (by decide) ?_
      exact y_11 l hst (i := 6 * n) cx hX hsb hLL hi hLF hCE hXE hl hS (by omega) (by omega) hC hR hO hSG kk
    by_cases c_12 : xs (6 * n) &&& 63 = 12
    · rw [c_12]
      refine lv_tableIn (pc := 40) (tgt := 704) hx hb dL_law_40 (by decide) (by decide) rfl (by decide) ?_
      exact y_12 l hst (i := 6 * n) cx hX hsb hLL hi hLF hCE hXE hl hS (by omega) (by omega) hC hR hO hSG kk
    by_cases c_13 : xs (6 * n) &&& 63 = 13
    · rw [c_13]
      refine lv_tableIn (pc := 40) (tgt := 769) hx hb dL_law_40 (by decide) (by decide) rfl (by decide) ?_
      exact y_13 l hst (i := 6 * n) cx hX hsb hLL hi hLF hCE hXE hl hS (by omega) (by omega) hC hR hO hSG kk
    by_cases c_14 : xs (6 * n) &&& 63 = 14
    · rw [c_14]
      refine lv_tableIn (pc := 40) (tgt := 782) hx hb dL_law_40 (by decide) (by decide) rfl (by decide) ?_
      exact y_14 l hst (i := 6 * n) cx hX hsb hLL hi hLF hCE hXE hl hS (by omega) (by omega) hC hR hO hSG kk
    by_cases c_15 : xs (6 * n) &&& 63 = 15
    · rw [c_15]
      refine lv_tableIn (pc := 40) (tgt := 795) hx hb dL_law_40 (by decide) (by decide) rfl (by decide) ?_
      exact y_15 l hst (i := 6 * n) cx hX hsb hLL hi hLF hCE hXE hl hS (by omega) (by omega) hC hR hO hSG kk
    by_cases c_16 : xs (6 * n) &&& 63 = 16
    · rw [c_16]
      refine lv_tableIn (pc := 40) (tgt := 832) hx hb dL_law_40 (by decide) (by decide) rfl (by decide) ?_
      exact y_16 l hst (i := 6 * n) cx hX hsb hLL hi hLF hCE hXE hl hS (by omega) (by omega) hC hR hO hSG kk
    by_cases c_17 : xs (6 * n) &&& 63 = 17
    · rw [c_17]
      refine lv_tableIn (pc := 40) (tgt := 897) hx hb dL_law_40 (by decide) (by decide) rfl (by decide) ?_
      exact y_17 l hst (i := 6 * n) cx hX hsb hLL hi hLF hCE hXE hl hS (by omega) (by omega) hC hR hO hSG kk
    by_cases c_18 : xs (6 * n) &&& 63 = 18
    · rw [c_18]
      refine lv_tableIn (pc := 40) (tgt := 910) hx hb dL_law_40 (by decide) (by decide) rfl (by decide) ?_
      exact y_18 l hst (i := 6 * n) cx hX hsb hLL hi hLF hCE hXE hl hS (by omega) (by omega) hC hR hO hSG kk
    by_cases c_19 : xs (6 * n) &&& 63 = 19
    · rw [c_19]
      refine lv_tableIn (pc := 40) (tgt := 935) hx hb dL_law_40 (by decide) (by decide) rfl (by decide) ?_
      exact y_19 l hst (i := 6 * n) cx hX hsb hLL hi hLF hCE hXE hl hS (by omega) (by omega) hC hR hO hSG kk
    by_cases c_20 : xs (6 * n) &&& 63 = 20
    · rw [c_20]
      refine lv_tableIn (pc := 40) (tgt := 972) hx hb dL_law_40 (by decide) (by decide) rfl (by decide) ?_
      exact y_20 l hst (i := 6 * n) cx hX hsb hLL hi hLF hCE hXE hl hS (by omega) (by omega) hC hR hO hSG kk
    by_cases c_21 : xs (6 * n) &&& 63 = 21
    · rw [c_21]
      refine lv_tableIn (pc := 40) (tgt := 1009) hx hb dL_law_40 (by decide) (by decide) rfl (by decide) ?_
      exact y_21 l hst (i := 6 * n) cx hX hsb hLL hi hLF hCE hXE hl hS (by omega) (by omega) hC hR hO hSG kk
    by_cases c_22 : xs (6 * n) &&& 63 = 22
    · rw [c_22]
      refine lv_tableIn (pc := 40) (tgt := 1058) hx hb dL_law_40 (by decide) (by decide) rfl (by decide) ?_
      exact y_22 l hst (i := 6 * n) cx hX hsb hLL hi hLF hCE hXE hl hS (by omega) (by omega) hC hR hO hSG kk
    by_cases c_23 : xs (6 * n) &&& 63 = 23
    · rw [c_23]
      refine lv_tableIn (pc := 40) (tgt := 1107) hx hb dL_law_40 (by decide) (by decide) rfl (by decide) ?_
      exact y_23 l hst (i := 6 * n) cx hX hsb hLL hi hLF hCE hXE hl hS (by omega) (by omega) hC hR hO hSG kk
    by_cases c_24 : xs (6 * n) &&& 63 = 24
    · rw [c_24]
      refine lv_tableIn (pc := 40) (tgt := 1144) hx hb dL_law_40 (by decide) (by decide) rfl (by decide) ?_
      exact y_24 l hst (i := 6 * n) cx hX hsb hLL hi hLF hCE hXE hl hS (by omega) (by omega) hC hR hO hSG kk
    by_cases c_25 : xs (6 * n) &&& 63 = 25
    · rw [c_25]
      refine lv_tableIn (pc := 40) (tgt := 1193) hx hb dL_law_40 (by decide) (by decide) rfl (by decide) ?_
      exact y_25 l hst (i := 6 * n) cx hX hsb hLL hi hLF hCE hXE hl hS (by omega) (by omega) hC hR hO hSG kk
    by_cases c_26 : xs (6 * n) &&& 63 = 26
    · rw [c_26]
      refine lv_tableIn (pc := 40) (tgt := 1218) hx hb dL_law_40 (by decide) (by decide) rfl (by decide) ?_
      exact y_26 l hst (i := 6 * n) cx hX hsb hLL hi hLF hCE hXE hl hS (by omega) (by omega) hC hR hO hSG kk
    by_cases c_27 : xs (6 * n) &&& 63 = 27
    · rw [c_27]
      refine lv_tableIn (pc := 40) (tgt := 1243) hx hb dL_law_40 (by decide) (by decide) rfl (by decide) ?_
      exact y_27 l hst (i := 6 * n) cx hX hsb hLL hi hLF hCE hXE hl hS (by omega) (by omega) hC hR hO hSG kk
    by_cases c_28 : xs (6 * n) &&& 63 = 28
    · rw [c_28]
      refine lv_tableIn (pc := 40) (tgt := 1268) hx hb dL_law_40 (by decide) (by decide) rfl (by decide) ?_
      exact y_28 l hst (i := 6 * n) cx hX hsb hLL hi hLF hCE hXE hl hS (by omega) (by omega) hC hR hO hSG kk
    by_cases c_29 : xs (6 * n) &&& 63 = 29
    · rw [c_29]
      refine lv_tableIn (pc := 40) (tgt := 1317) hx hb dL_law_40 (by decide) (by decide) rfl (by decide) ?_
      exact y_29 l hst (i := 6 * n) cx hX hsb hLL hi hLF hCE hXE hl hS (by omega) (by omega) hC hR hO hSG kk
    by_cases c_30 : xs (6 * n) &&& 63 = 30
    · rw [c_30]
      refine lv_tableIn (pc := 40) (tgt := 1342) hx hb dL_law_40 (by decide) (by decide) rfl (by decide) ?_
      exact y_30 l hst (i := 6 * n) cx hX hsb hLL hi hLF hCE hXE hl hS (by omega) (by omega) hC hR hO hSG kk
    by_cases c_31 : xs (6 * n) &&& 63 = 31
    · rw [c_31]
      refine lv_tableIn (pc := 40) (tgt := 1403) hx hb dL_law_40 (by decide) (by decide) rfl (by decide) ?_
      exact y_31 l hst (i := 6 * n) cx hX hsb hLL hi hLF hCE hXE hl hS (by omega) (by omega) hC hR hO hSG kk
    by_cases c_32 : xs (6 * n) &&& 63 = 32
    · rw [c_32]
      refine lv_tableIn (pc := 40) (tgt := 1452) hx hb dL_law_40 (by decide) (by decide) rfl (by decide) ?_
      exact y_32 l hst (i := 6 * n) cx hX hsb hLL hi hLF hCE hXE hl hS (by omega) (by omega) hC hR hO hSG kk
    by_cases c_33 : xs (6 * n) &&& 63 = 33
    · rw [c_33]
      refine lv_tableIn (pc := 40) (tgt := 1465) hx hb dL_law_40 (by decide) (by decide) rfl (by decide) ?_
      exact y_33 l hst (i := 6 * n) cx hX hsb hLL hi hLF hCE hXE hl hS (by omega) (by omega) hC hR hO hSG kk
    by_cases c_34 : xs (6 * n) &&& 63 = 34
    · rw [c_34]
      refine lv_tableIn (pc := 40) (tgt := 1478) hx hb dL_law_40 (by decide) (by decide) rfl (by decide) ?_
      exact y_34 l hst (i := 6 * n) cx hX hsb hLL hi hLF hCE hXE hl hS (by omega) (by omega) hC hR hO hSG kk
    by_cases c_35 : xs (6 * n) &&& 63 = 35
    · rw [c_35]
      refine lv_tableIn (pc := 40) (tgt := 1503) hx hb dL_law_40 (by decide) (by decide) rfl (by decide) ?_
      exact y_35 l hst (i := 6 * n) cx hX hsb hLL hi hLF hCE hXE hl hS (by omega) (by omega) hC hR hO hSG kk
    by_cases c_36 : xs (6 * n) &&& 63 = 36
    · rw [c_36]
      refine lv_tableIn (pc := 40) (tgt := 1552) hx hb dL_law_40 (by decide) (by decide) rfl (by decide) ?_
      exact y_36 l hst (i := 6 * n) cx hX hsb hLL hi hLF hCE hXE hl hS (by omega) (by omega) hC hR hO hSG kk
    by_cases c_37 : xs (6 * n) &&& 63 = 37
    · rw [c_37]
      refine lv_tableIn (pc := 40) (tgt := 1601) hx hb dL_law_40 (by decide) (by decide) rfl (by decide) ?_
      exact y_37 l hst (i := 6 * n) cx hX hsb hLL hi hLF hCE hXE hl hS (by omega) (by omega) hC hR hO hSG kk
    by_cases c_38 : xs (6 * n) &&& 63 = 38
    · rw [c_38]
      refine lv_tableIn (pc := 40) (tgt := 1650) hx hb dL_law_40 (by decide) (by decide) rfl (by decide) ?_
      exact y_38 l hst (i := 6 * n) cx hX hsb hLL hi hLF hCE hXE hl hS (by omega) (by omega) hC hR hO hSG kk
    by_cases c_39 : xs (6 * n) &&& 63 = 39
    · rw [c_39]
      refine lv_tableIn (pc := 40) (tgt := 1717) hx hb dL_law_40 (by decide) (by decide) rfl (by decide) ?_
      exact y_39 l hst (i := 6 * n) cx hX hsb hLL hi hLF hCE hXE hl hS (by omega) (by omega) hC hR hO hSG kk
    by_cases c_40 : xs (6 * n) &&& 63 = 40
    · rw [c_40]
      refine lv_tableIn (pc := 40) (tgt := 1790) hx hb dL_law_40 (by decide) (by decide) rfl (by decide) ?_
      exact y_40 l hst (i := 6 * n) cx hX hsb hLL hi hLF hCE hXE hl hS (by omega) (by omega) hC hR hO hSG kk
    by_cases c_41 : xs (6 * n) &&& 63 = 41
    · rw [c_41]
      refine lv_tableIn (pc := 40) (tgt := 1815) hx hb dL_law_40 (by decide) (by decide) rfl (by decide) ?_
      exact y_41 l hst (i := 6 * n) cx hX hsb hLL hi hLF hCE hXE hl hS (by omega) (by omega) hC hR hO hSG kk
    refine lv_tableOut (pc := 40) (tgt := 1840) hx hb dL_law_40 (by have := lv_neT c_0 (a := 0) (by decide); have := lv_neT c_1 (a := 1) (by decide); have := lv_neT c_2 (a := 2) (by decide); have := lv_neT c_3 (a := 3) (by decide); have := lv_neT c_4 (a := 4) (by decide); have := lv_neT c_5 (a := 5) (by decide); have := lv_neT c_6 (a := 6) (by decide); have := lv_neT c_7 (a := 7) (by decide); have := lv_neT c_8 (a := 8) (by decide); have := lv_neT c_9 (a := 9) (by decide); have := lv_neT c_10 (a := 10) (by decide); have := lv_neT c_11 (a := 11) (by decide); have := lv_neT c_12 (a := 12) (by decide); have := lv_neT c_13 (a := 13) (by decide); have := lv_neT c_14 (a := 14) (by decide); have := lv_neT c_15 (a := 15) (by decide); have := lv_neT c_16 (a := 16) (by decide); have := lv_neT c_17 (a := 17) (by decide); have := lv_neT c_18 (a := 18) (by decide); have := lv_neT c_19 (a := 19) (by decide); have := lv_neT c_20 (a := 20) (by decide); have := lv_neT c_21 (a := 21) (by decide); have := lv_neT c_22 (a := 22) (by decide); have := lv_neT c_23 (a := 23) (by decide); have := lv_neT c_24 (a := 24) (by decide); have := lv_neT c_25 (a := 25) (by decide); have := lv_neT c_26 (a := 26) (by decide); have := lv_neT c_27 (a := 27) (by decide); have := lv_neT c_28 (a := 28) (by decide); have := lv_neT c_29 (a := 29) (by decide); have := lv_neT c_30 (a := 30) (by decide); have := lv_neT c_31 (a := 31) (by decide); have := lv_neT c_32 (a := 32) (by decide); have := lv_neT c_33 (a := 33) (by decide); have := lv_neT c_34 (a := 34) (by decide); have := lv_neT c_35 (a := 35) (by decide); have := lv_neT c_36 (a := 36) (by decide); have := lv_neT c_37 (a := 37) (by decide); have := lv_neT c_38 (a := 38) (by decide); have := lv_neT c_39 (a := 39) (by decide); have := lv_neT c_40 (a := 40) (by decide); have := lv_neT c_41 (a := 41) (by decide); omega) (by decide) ?_
    refine W.widen (k := 100 + 200 * n + 200) (n := 5000 + 2000 * n + 2000) (by omega) (by omega) ?_
    exact kk r im ig kp so sz el pr ts G H locs ls hl hC hR hO hSG hS
