set_option maxHeartbeats 4000000 in
set_option maxRecDepth 100000 in
theorem y_34 (l : Launch) (hst : l.stackTraces = false) {p : Program} {e : Env} {s : State} {m : MethodId} {args : Array Value} {below : List Frame} {meth : Method} {c : Code} {H : Heap} {locs : List Loc} {cells slots : Nat} {Q : State → Prop} {ls : Array Slot} {E : zE} {a b : Nat → Nat} {o sb L i : Nat} {xs : Nat → Int32} {r : Nat → Int32} {im : Nat → Int32} {ig : Bool} {kp : Nat → Int32} {so : Nat → Int32} {sz : Nat → Int32} {el : Nat → Int32} {pr : Nat → Int32} {ts : Nat → Int32} {G : zG} (cx : Cx E p s args m c RL code 8) (hX : va_X sb L xs s s.heap) (hsb : sb < s.heap.size) (hLL : L ≤ 3072) (hi : i + 6 ≤ L) (hLF : LF a b o s.heap.size) (hCE : CE E (FL s.heap.size) s s.heap) (hXE : XE E (FL s.heap.size) s s.heap) (hl : lv_has ls 8 [(4, .int (nI i)), (3, .ref o), (2, .ref (a 0)), (1, .ref (b 0)), (0, .ref sb)]) (hS : va_S (FL s.heap.size) s.heap H locs) (hc1 : cells + 200 ≤ 660476) (hc2 : slots + 2000 ≤ 7114676) (hC : CLS E b r im ig kp so sz el pr ts G H) (hR : REF E a r im ig kp so sz el pr ts H) (hO : OUTc E o H) (hSG : SEP a o s.heap.size G) (kk : ∀ (r : Nat → Int32) (im : Nat → Int32) (ig : Bool) (kp : Nat → Int32) (so : Nat → Int32) (sz : Nat → Int32) (el : Nat → Int32) (pr : Nat → Int32) (ts : Nat → Int32) (G : zG) (H1 : Heap) (locs1 : List Loc) (ls1 : Array Slot), lv_has ls1 8 [(4, .int (nI i)), (3, .ref o), (2, .ref (a 0)), (1, .ref (b 0)), (0, .ref sb)] → CLS E b r im ig kp so sz el pr ts G H1 → REF E a r im ig kp so sz el pr ts H1 → OUTc E o H1 → SEP a o s.heap.size G → va_S (FL s.heap.size) s.heap H1 locs1 → W p l e room_1 s m args below meth c H1 locs1 (cells + 200) (slots + 2000) Q (F0 m 1840 ls1 [])) : W p l e room_1 s m args below meth c H locs cells slots Q (F0 m 1478 ls []) := by
  refine hC.elim (fun qt qr tbu wst asw pN tN aN wx pp tp ap sg uh ud up ur us ux xN xT xA xh xd xl xr xo xw xpp xtp xap xsg yN yT yA yh yd yl yr yo yw ypp ytp yap ysg zat zpl zlt zjo zfo zsz zby znu hW hG hSh hIm hrp hrt hra hxp hxt hxa hrd hdm hri hwr => ?_)
  obtain ⟨rd, wa, nu, bu, ht, th, po, ba, en, td, ij, hV⟩ := hR
  have hx := cx.x
  have hb := cx.b
  refine lv_aload_n (pc := 1478) hx hb dL_law_1478 rfl (lv_at hl 3 rfl) ?_
  refine lv_aload_n (pc := 1479) hx hb dL_law_1479 rfl (lv_at hl 4 rfl) ?_
  refine lv_iload (pc := 1480) hx hb dL_law_1480 (lv_at hl 0 rfl) ?_
  refine lv_iconst (pc := 1482) (v := 1) hx hb dL_law_1482 (by decide) ?_
  refine lv_iadd (pc := 1483) hx hb dL_law_1483 ?_
  refine z_sld (pc := 1484) (j := i + 1) cx hX hsb (Nat.not_le.mpr hsb) hS (by simp only [nI, Int32.ofNat_add] <;> rfl) (by omega) hLL dL_law_1484 ?_
  refine z_callV (pc := 1485) cx vm_X7_count (c_X7_count l E b (wT b E.2.1 xN xT xA xh xd xl xr xo xw xpp xtp xap xsg yN yT yA yh yd yl yr yo yw ypp ytp yap ysg zat zpl zlt zjo zfo zsz zby znu) ig qt qr tbu wst asw pN tN aN (hdC (r 3)) (r 4) (r 5) (r 6) (r 7) wx pp tp ap sg uh ud up ur us ux G (xs (i + 1)) r hG) (z_rec cx.2 (hW.at 0 rfl) rfl) hW m_ml_L_164 ⟨rfl, rfl⟩ ⟨Nat.le_of_ble_eq_true rfl, Nat.le_of_ble_eq_true rfl⟩ rfl hl.1 rfl (by simp [Value.category]) dL_law_1485 ⟨(by show cells ≤ 660476; omega), (by show slots ≤ 7114676; omega)⟩ ?_
  refine (?_ : W p l e room_1 s m args below meth c H locs cells slots Q (F0 m 1488 ls [.int (countP r (xs (i + 1)))]))
  refine lv_aload_n (pc := 1488) hx hb dL_law_1488 rfl (lv_at hl 2 rfl) ?_
  refine lv_aload_n (pc := 1489) hx hb dL_law_1489 rfl (lv_at hl 4 rfl) ?_
  refine lv_iload (pc := 1490) hx hb dL_law_1490 (lv_at hl 0 rfl) ?_
  refine lv_iconst (pc := 1492) (v := 1) hx hb dL_law_1492 (by decide) ?_
  refine lv_iadd (pc := 1493) hx hb dL_law_1493 ?_
  refine z_sld (pc := 1494) (j := i + 1) cx hX hsb (Nat.not_le.mpr hsb) hS (by simp only [nI, Int32.ofNat_add] <;> rfl) (by omega) hLL dL_law_1494 ?_
  refine z_callV (pc := 1495) cx vm_X8_count (c_X8_count l E a r im rd wa kp so sz el pr ts nu bu ht th po ba en td ig ij (xs (i + 1)) hG.1) (z_rec cx.2 (hV.at 0 rfl) rfl) hV m_ml_L_167 ⟨rfl, rfl⟩ ⟨Nat.le_of_ble_eq_true rfl, Nat.le_of_ble_eq_true rfl⟩ rfl hl.1 rfl (by simp [Value.category]) dL_law_1495 ⟨(by show cells ≤ 660476; omega), (by show slots ≤ 7114676; omega)⟩ ?_
  refine (?_ : W p l e room_1 s m args below meth c H locs cells slots Q (F0 m 1498 ls [.int (countP r (xs (i + 1))), .int (countP r (xs (i + 1)))]))
  refine lv_icmp_eq (pc := 1498) (tgt := 1840) hx hb dL_law_1498 (by decide) (fun _ => ?_) (fun c => absurd rfl c)
  refine W.widen (k := cells + 200) (n := slots + 2000) (by omega) (by omega) ?_
  exact kk r im ig kp so sz el pr ts G H locs ls (lv_sub hl [0, 1, 2, 3, 4] rfl) (CLS.mk hW hG hSh hIm hrp hrt hra hxp hxt hxa hrd hdm hri hwr) ⟨_, _, _, _, _, _, _, _, _, _, _, hV⟩ hO hSG hS
set_option maxHeartbeats 4000000 in
set_option maxRecDepth 100000 in
theorem y_35 (l : Launch) (hst : l.stackTraces = false) {p : Program} {e : Env} {s : State} {m : MethodId} {args : Array Value} {below : List Frame} {meth : Method} {c : Code} {H : Heap} {locs : List Loc} {cells slots : Nat} {Q : State → Prop} {ls : Array Slot} {E : zE} {a b : Nat → Nat} {o sb L i : Nat} {xs : Nat → Int32} {r : Nat → Int32} {im : Nat → Int32} {ig : Bool} {kp : Nat → Int32} {so : Nat → Int32} {sz : Nat → Int32} {el : Nat → Int32} {pr : Nat → Int32} {ts : Nat → Int32} {G : zG} (cx : Cx E p s args m c RL code 8) (hX : va_X sb L xs s s.heap) (hsb : sb < s.heap.size) (hLL : L ≤ 3072) (hi : i + 6 ≤ L) (hLF : LF a b o s.heap.size) (hCE : CE E (FL s.heap.size) s s.heap) (hXE : XE E (FL s.heap.size) s s.heap) (hl : lv_has ls 8 [(4, .int (nI i)), (3, .ref o), (2, .ref (a 0)), (1, .ref (b 0)), (0, .ref sb)]) (hS : va_S (FL s.heap.size) s.heap H locs) (hc1 : cells + 200 ≤ 660476) (hc2 : slots + 2000 ≤ 7114676) (hC : CLS E b r im ig kp so sz el pr ts G H) (hR : REF E a r im ig kp so sz el pr ts H) (hO : OUTc E o H) (hSG : SEP a o s.heap.size G) (kk : ∀ (r : Nat → Int32) (im : Nat → Int32) (ig : Bool) (kp : Nat → Int32) (so : Nat → Int32) (sz : Nat → Int32) (el : Nat → Int32) (pr : Nat → Int32) (ts : Nat → Int32) (G : zG) (H1 : Heap) (locs1 : List Loc) (ls1 : Array Slot), lv_has ls1 8 [(4, .int (nI i)), (3, .ref o), (2, .ref (a 0)), (1, .ref (b 0)), (0, .ref sb)] → CLS E b r im ig kp so sz el pr ts G H1 → REF E a r im ig kp so sz el pr ts H1 → OUTc E o H1 → SEP a o s.heap.size G → va_S (FL s.heap.size) s.heap H1 locs1 → W p l e room_1 s m args below meth c H1 locs1 (cells + 200) (slots + 2000) Q (F0 m 1840 ls1 [])) : W p l e room_1 s m args below meth c H locs cells slots Q (F0 m 1503 ls []) := by
  refine hC.elim (fun qt qr tbu wst asw pN tN aN wx pp tp ap sg uh ud up ur us ux xN xT xA xh xd xl xr xo xw xpp xtp xap xsg yN yT yA yh yd yl yr yo yw ypp ytp yap ysg zat zpl zlt zjo zfo zsz zby znu hW hG hSh hIm hrp hrt hra hxp hxt hxa hrd hdm hri hwr => ?_)
  obtain ⟨rd, wa, nu, bu, ht, th, po, ba, en, td, ij, hV⟩ := hR
  have hx := cx.x
  have hb := cx.b
  refine lv_aload_n (pc := 1503) hx hb dL_law_1503 rfl (lv_at hl 3 rfl) ?_
  refine lv_aload_n (pc := 1504) hx hb dL_law_1504 rfl (lv_at hl 4 rfl) ?_
  refine lv_iload (pc := 1505) hx hb dL_law_1505 (lv_at hl 0 rfl) ?_
  refine lv_iconst (pc := 1507) (v := 1) hx hb dL_law_1507 (by decide) ?_
  refine lv_iadd (pc := 1508) hx hb dL_law_1508 ?_
  refine z_sld (pc := 1509) (j := i + 1) cx hX hsb (Nat.not_le.mpr hsb) hS (by simp only [nI, Int32.ofNat_add] <;> rfl) (by omega) hLL dL_law_1509 ?_
  refine lv_aload_n (pc := 1510) hx hb dL_law_1510 rfl (lv_at hl 4 rfl) ?_
  refine lv_iload (pc := 1511) hx hb dL_law_1511 (lv_at hl 0 rfl) ?_
  refine lv_iconst (pc := 1513) (v := 2) hx hb dL_law_1513 (by decide) ?_
  refine lv_iadd (pc := 1514) hx hb dL_law_1514 ?_
  refine z_sld (pc := 1515) (j := i + 2) cx hX hsb (Nat.not_le.mpr hsb) hS (by simp only [nI, Int32.ofNat_add] <;> rfl) (by omega) hLL dL_law_1515 ?_
  refine lv_aload_n (pc := 1516) hx hb dL_law_1516 rfl (lv_at hl 4 rfl) ?_
  refine lv_iload (pc := 1517) hx hb dL_law_1517 (lv_at hl 0 rfl) ?_
  refine lv_iconst (pc := 1519) (v := 3) hx hb dL_law_1519 (by decide) ?_
  refine lv_iadd (pc := 1520) hx hb dL_law_1520 ?_
  refine z_sld (pc := 1521) (j := i + 3) cx hX hsb (Nat.not_le.mpr hsb) hS (by simp only [nI, Int32.ofNat_add] <;> rfl) (by omega) hLL dL_law_1521 ?_
  refine z_callVw (pc := 1522) cx vm_X7_keep (c_X7_keep l E b (wT b E.2.1 xN xT xA xh xd xl xr xo xw xpp xtp xap xsg yN yT yA yh yd yl yr yo yw ypp ytp yap ysg zat zpl zlt zjo zfo zsz zby znu) ig qt qr tbu wst asw pN tN aN (hdC (r 3)) (r 4) (r 5) (r 6) (r 7) wx pp tp ap sg uh ud up ur us ux G (xs (i + 1)) (xs (i + 2)) (xs (i + 3)) r kp so sz el pr ts hG hSh) (z_rec cx.2 (hW.at 0 rfl) rfl) hW hS (fun q ⟨k, hk⟩ => by rw [hk]; exact hLF.2.2.2.1 k) m_ml_L_168 ⟨rfl, rfl⟩ ⟨Nat.le_of_ble_eq_true rfl, Nat.le_of_ble_eq_true rfl⟩ rfl hl.1 rfl (by simp [Value.category]) dL_law_1522 ⟨(by show cells ≤ 660476; omega), (by show slots ≤ 7114676; omega)⟩ (fun v H locs hq hS hk2 => ?_)
  obtain ⟨qt2, qr2, rfl, hSh2, hqk, hW2⟩ := hq
  have hW : WW E (wK b E.2.1 (wT b E.2.1 xN xT xA xh xd xl xr xo xw xpp xtp xap xsg yN yT yA yh yd yl yr yo yw ypp ytp yap ysg zat zpl zlt zjo zfo zsz zby znu) ig qt2 qr2 tbu wst asw pN tN aN (hdC (r 3)) (r 4) (r 5) (r 6) (r 7) wx pp tp ap sg uh ud up ur us ux) G H := hW2
  have hV := hV.refK hk2.2 (fun j ⟨k, hk⟩ => hLF.1 j k hk)
  have hO := hO.kept hk2.2 (fun ⟨k, hk⟩ => hLF.2.1 k hk)
  refine (?_ : W p l e room_1 s m args below meth c H locs (cells + 0) (slots + 0) Q (F0 m 1525 ls [.int (keepR r (xs (i + 1)) (xs (i + 2)) (xs (i + 3)))]))
  refine lv_aload_n (pc := 1525) hx hb dL_law_1525 rfl (lv_at hl 2 rfl) ?_
  refine lv_aload_n (pc := 1526) hx hb dL_law_1526 rfl (lv_at hl 4 rfl) ?_
  refine lv_iload (pc := 1527) hx hb dL_law_1527 (lv_at hl 0 rfl) ?_
  refine lv_iconst (pc := 1529) (v := 1) hx hb dL_law_1529 (by decide) ?_
  refine lv_iadd (pc := 1530) hx hb dL_law_1530 ?_
  refine z_sld (pc := 1531) (j := i + 1) cx hX hsb (Nat.not_le.mpr hsb) hS (by simp only [nI, Int32.ofNat_add] <;> rfl) (by omega) hLL dL_law_1531 ?_
  refine lv_aload_n (pc := 1532) hx hb dL_law_1532 rfl (lv_at hl 4 rfl) ?_
  refine lv_iload (pc := 1533) hx hb dL_law_1533 (lv_at hl 0 rfl) ?_
  refine lv_iconst (pc := 1535) (v := 2) hx hb dL_law_1535 (by decide) ?_
  refine lv_iadd (pc := 1536) hx hb dL_law_1536 ?_
  refine z_sld (pc := 1537) (j := i + 2) cx hX hsb (Nat.not_le.mpr hsb) hS (by simp only [nI, Int32.ofNat_add] <;> rfl) (by omega) hLL dL_law_1537 ?_
  refine lv_aload_n (pc := 1538) hx hb dL_law_1538 rfl (lv_at hl 4 rfl) ?_
  refine lv_iload (pc := 1539) hx hb dL_law_1539 (lv_at hl 0 rfl) ?_
  refine lv_iconst (pc := 1541) (v := 3) hx hb dL_law_1541 (by decide) ?_
  refine lv_iadd (pc := 1542) hx hb dL_law_1542 ?_
  refine z_sld (pc := 1543) (j := i + 3) cx hX hsb (Nat.not_le.mpr hsb) hS (by simp only [nI, Int32.ofNat_add] <;> rfl) (by omega) hLL dL_law_1543 ?_
  refine z_callVw (pc := 1544) cx vm_X8_keep (c_X8_keep l E a r im rd wa kp so sz el pr ts nu bu ht th po ba en td ig ij (xs (i + 1)) (xs (i + 2)) (xs (i + 3)) hG.1) (z_rec cx.2 (hV.at 0 rfl) rfl) hV hS (fun q ⟨k, hk⟩ => by rw [hk]; exact hLF.2.2.2.2.1 k) m_ml_L_171 ⟨rfl, rfl⟩ ⟨Nat.le_of_ble_eq_true rfl, Nat.le_of_ble_eq_true rfl⟩ rfl hl.1 rfl (by simp [Value.category]) dL_law_1544 ⟨(by show cells + 0 ≤ 660476; omega), (by show slots + 0 ≤ 7114676; omega)⟩ (fun v H locs hq hS hk2 => ?_)
  obtain ⟨rfl, hV2⟩ := hq
  have hV : WW E (wM a (E.2.1 0) r im rd wa (keepK r kp (xs (i + 1)) (xs (i + 2)) (xs (i + 3))) so sz el (keepP r pr (xs (i + 1)) (xs (i + 2)) (xs (i + 3))) (keepT r ts (xs (i + 1)) (xs (i + 2)) (xs (i + 3))) nu bu ht (bI ig) th po ba en td (bI ij)) gN H := hV2
  have hW := hW.clsK hk2.2 (fun k ⟨j, hj⟩ => hLF.1 j k hj.symm) (fun z e hz ⟨j, hj⟩ => (hSG z e hz).2.1 j hj)
  have hO := hO.kept hk2.2 (fun ⟨j, hj⟩ => hLF.2.2.1 j hj)
  refine (?_ : W p l e room_1 s m args below meth c H locs (cells + 0 + 0) (slots + 0 + 0) Q (F0 m 1547 ls [.int (keepR r (xs (i + 1)) (xs (i + 2)) (xs (i + 3))), .int (keepR r (xs (i + 1)) (xs (i + 2)) (xs (i + 3)))]))
  refine lv_icmp_eq (pc := 1547) (tgt := 1840) hx hb dL_law_1547 (by decide) (fun _ => ?_) (fun c => absurd rfl c)
  refine W.widen (k := cells + 200) (n := slots + 2000) (by omega) (by omega) ?_
  exact kk r im ig (keepK r kp (xs (i + 1)) (xs (i + 2)) (xs (i + 3))) so sz el (keepP r pr (xs (i + 1)) (xs (i + 2)) (xs (i + 3))) (keepT r ts (xs (i + 1)) (xs (i + 2)) (xs (i + 3))) G H locs ls (lv_sub hl [0, 1, 2, 3, 4] rfl) (CLS.mk hW hG hSh2 (hIm.sub hqk) hrp hrt hra hxp hxt hxa (hrd.sub hqk) (hdm.sub hqk) (hri.sub hqk) (hwr.sub hqk)) ⟨_, _, _, _, _, _, _, _, _, _, _, hV⟩ hO hSG hS
set_option maxHeartbeats 4000000 in
set_option maxRecDepth 100000 in
theorem y_36 (l : Launch) (hst : l.stackTraces = false) {p : Program} {e : Env} {s : State} {m : MethodId} {args : Array Value} {below : List Frame} {meth : Method} {c : Code} {H : Heap} {locs : List Loc} {cells slots : Nat} {Q : State → Prop} {ls : Array Slot} {E : zE} {a b : Nat → Nat} {o sb L i : Nat} {xs : Nat → Int32} {r : Nat → Int32} {im : Nat → Int32} {ig : Bool} {kp : Nat → Int32} {so : Nat → Int32} {sz : Nat → Int32} {el : Nat → Int32} {pr : Nat → Int32} {ts : Nat → Int32} {G : zG} (cx : Cx E p s args m c RL code 8) (hX : va_X sb L xs s s.heap) (hsb : sb < s.heap.size) (hLL : L ≤ 3072) (hi : i + 6 ≤ L) (hLF : LF a b o s.heap.size) (hCE : CE E (FL s.heap.size) s s.heap) (hXE : XE E (FL s.heap.size) s s.heap) (hl : lv_has ls 8 [(4, .int (nI i)), (3, .ref o), (2, .ref (a 0)), (1, .ref (b 0)), (0, .ref sb)]) (hS : va_S (FL s.heap.size) s.heap H locs) (hc1 : cells + 200 ≤ 660476) (hc2 : slots + 2000 ≤ 7114676) (hC : CLS E b r im ig kp so sz el pr ts G H) (hR : REF E a r im ig kp so sz el pr ts H) (hO : OUTc E o H) (hSG : SEP a o s.heap.size G) (kk : ∀ (r : Nat → Int32) (im : Nat → Int32) (ig : Bool) (kp : Nat → Int32) (so : Nat → Int32) (sz : Nat → Int32) (el : Nat → Int32) (pr : Nat → Int32) (ts : Nat → Int32) (G : zG) (H1 : Heap) (locs1 : List Loc) (ls1 : Array Slot), lv_has ls1 8 [(4, .int (nI i)), (3, .ref o), (2, .ref (a 0)), (1, .ref (b 0)), (0, .ref sb)] → CLS E b r im ig kp so sz el pr ts G H1 → REF E a r im ig kp so sz el pr ts H1 → OUTc E o H1 → SEP a o s.heap.size G → va_S (FL s.heap.size) s.heap H1 locs1 → W p l e room_1 s m args below meth c H1 locs1 (cells + 200) (slots + 2000) Q (F0 m 1840 ls1 [])) : W p l e room_1 s m args below meth c H locs cells slots Q (F0 m 1552 ls []) := by
  refine hC.elim (fun qt qr tbu wst asw pN tN aN wx pp tp ap sg uh ud up ur us ux xN xT xA xh xd xl xr xo xw xpp xtp xap xsg yN yT yA yh yd yl yr yo yw ypp ytp yap ysg zat zpl zlt zjo zfo zsz zby znu hW hG hSh hIm hrp hrt hra hxp hxt hxa hrd hdm hri hwr => ?_)
  obtain ⟨rd, wa, nu, bu, ht, th, po, ba, en, td, ij, hV⟩ := hR
  have hx := cx.x
  have hb := cx.b
  refine lv_aload_n (pc := 1552) hx hb dL_law_1552 rfl (lv_at hl 3 rfl) ?_
  refine lv_aload_n (pc := 1553) hx hb dL_law_1553 rfl (lv_at hl 4 rfl) ?_
  refine lv_iload (pc := 1554) hx hb dL_law_1554 (lv_at hl 0 rfl) ?_
  refine lv_iconst (pc := 1556) (v := 1) hx hb dL_law_1556 (by decide) ?_
  refine lv_iadd (pc := 1557) hx hb dL_law_1557 ?_
  refine z_sld (pc := 1558) (j := i + 1) cx hX hsb (Nat.not_le.mpr hsb) hS (by simp only [nI, Int32.ofNat_add] <;> rfl) (by omega) hLL dL_law_1558 ?_
  refine lv_aload_n (pc := 1559) hx hb dL_law_1559 rfl (lv_at hl 4 rfl) ?_
  refine lv_iload (pc := 1560) hx hb dL_law_1560 (lv_at hl 0 rfl) ?_
  refine lv_iconst (pc := 1562) (v := 2) hx hb dL_law_1562 (by decide) ?_
  refine lv_iadd (pc := 1563) hx hb dL_law_1563 ?_
  refine z_sld (pc := 1564) (j := i + 2) cx hX hsb (Nat.not_le.mpr hsb) hS (by simp only [nI, Int32.ofNat_add] <;> rfl) (by omega) hLL dL_law_1564 ?_
  refine lv_aload_n (pc := 1565) hx hb dL_law_1565 rfl (lv_at hl 4 rfl) ?_
  refine lv_iload (pc := 1566) hx hb dL_law_1566 (lv_at hl 0 rfl) ?_
  refine lv_iconst (pc := 1568) (v := 3) hx hb dL_law_1568 (by decide) ?_
  refine lv_iadd (pc := 1569) hx hb dL_law_1569 ?_
  refine z_sld (pc := 1570) (j := i + 3) cx hX hsb (Nat.not_le.mpr hsb) hS (by simp only [nI, Int32.ofNat_add] <;> rfl) (by omega) hLL dL_law_1570 ?_
  have hVN := hV.refN hLF.2.2.2.2.2.2
  have hON := hO.lt
  have hSN := hS.1
  refine z_callVw (pc := 1571) cx vm_X7_row (c_X7_row l E b (wT b E.2.1 xN xT xA xh xd xl xr xo xw xpp xtp xap xsg yN yT yA yh yd yl yr yo yw ypp ytp yap ysg zat zpl zlt zjo zfo zsz zby znu) ig qt qr tbu wst asw pN tN aN (hdC (r 3)) (r 4) (r 5) (r 6) (r 7) wx pp tp ap sg uh ud up ur us ux G H.size (xs (i + 1)) (xs (i + 2)) (xs (i + 3)) kp so sz el pr ts hSh hdm) (z_rec cx.2 (hW.at 0 rfl) rfl) ⟨hW, rfl⟩ hS (fun q h => h.elim (fun ⟨k, hk⟩ => by rw [hk]; exact hLF.2.2.2.1 k) (fun g => Nat.le_trans hS.1 g)) m_ml_L_172 ⟨rfl, rfl⟩ ⟨Nat.le_of_ble_eq_true rfl, Nat.le_of_ble_eq_true rfl⟩ rfl hl.1 rfl (by simp [Value.category]) dL_law_1571 ⟨(by show cells + 2 ≤ 660476; omega), (by show slots + 102 ≤ 7114676; omega)⟩ (fun v H locs hq hS hk2 => ?_)
  obtain ⟨qt2, qr2, G2, rfl, hGL, hSh2, hnw, hng, hrd2, hW2⟩ := hq
  have hW : WW E (wK b E.2.1 (wT b E.2.1 xN xT xA xh xd xl xr xo xw xpp xtp xap xsg yN yT yA yh yd yl yr yo yw ypp ytp yap ysg zat zpl zlt zjo zfo zsz zby znu) ig qt2 qr2 tbu wst asw pN tN aN (hdC (r 3)) (r 4) (r 5) (r 6) (r 7) wx pp tp ap sg uh ud up ur us ux) G2 H := hW2
  have hV := hV.refK hk2.2 (fun j h => h.elim (fun ⟨k, hk⟩ => hLF.1 j k hk) (fun g => absurd (hVN j) (Nat.not_lt.mpr g)))
  have hO := hO.kept hk2.2 (fun h => h.elim (fun ⟨k, hk⟩ => hLF.2.1 k hk) (fun g => absurd hON (Nat.not_lt.mpr g)))
  have hcu : ∀ k q, cut8 qr2 k = some q → qr2 k = some q := fun k q h => (cut8_s k q h).1
  have hW : WW E (wK b E.2.1 (wT b E.2.1 xN xT xA xh xd xl xr xo xw xpp xtp xap xsg yN yT yA yh yd yl yr yo yw ypp ytp yap ysg zat zpl zlt zjo zfo zsz zby znu) ig qt2 (cut8 qr2) tbu wst asw pN tN aN (hdC (r 3)) (r 4) (r 5) (r 6) (r 7) wx pp tp ap sg uh ud up ur us ux) G2 H := hW.congrR (i := 2) rfl (fun j hj => (cut8_e hj).symm)
  have hSG2 := hSG.fr hng hSN hON hVN
  refine (?_ : W p l e room_1 s m args below meth c H locs (cells + 2) (slots + 102) Q (F0 m 1574 ls [.int (rowR (xs (i + 1)) (xs (i + 2)) (xs (i + 3)))]))
  refine lv_aload_n (pc := 1574) hx hb dL_law_1574 rfl (lv_at hl 2 rfl) ?_
  refine lv_aload_n (pc := 1575) hx hb dL_law_1575 rfl (lv_at hl 4 rfl) ?_
  refine lv_iload (pc := 1576) hx hb dL_law_1576 (lv_at hl 0 rfl) ?_
  refine lv_iconst (pc := 1578) (v := 1) hx hb dL_law_1578 (by decide) ?_
  refine lv_iadd (pc := 1579) hx hb dL_law_1579 ?_
  refine z_sld (pc := 1580) (j := i + 1) cx hX hsb (Nat.not_le.mpr hsb) hS (by simp only [nI, Int32.ofNat_add] <;> rfl) (by omega) hLL dL_law_1580 ?_
  refine lv_aload_n (pc := 1581) hx hb dL_law_1581 rfl (lv_at hl 4 rfl) ?_
  refine lv_iload (pc := 1582) hx hb dL_law_1582 (lv_at hl 0 rfl) ?_
  refine lv_iconst (pc := 1584) (v := 2) hx hb dL_law_1584 (by decide) ?_
  refine lv_iadd (pc := 1585) hx hb dL_law_1585 ?_
  refine z_sld (pc := 1586) (j := i + 2) cx hX hsb (Nat.not_le.mpr hsb) hS (by simp only [nI, Int32.ofNat_add] <;> rfl) (by omega) hLL dL_law_1586 ?_
  refine lv_aload_n (pc := 1587) hx hb dL_law_1587 rfl (lv_at hl 4 rfl) ?_
  refine lv_iload (pc := 1588) hx hb dL_law_1588 (lv_at hl 0 rfl) ?_
  refine lv_iconst (pc := 1590) (v := 3) hx hb dL_law_1590 (by decide) ?_
  refine lv_iadd (pc := 1591) hx hb dL_law_1591 ?_
  refine z_sld (pc := 1592) (j := i + 3) cx hX hsb (Nat.not_le.mpr hsb) hS (by simp only [nI, Int32.ofNat_add] <;> rfl) (by omega) hLL dL_law_1592 ?_
  refine z_callVw (pc := 1593) cx vm_X8_row (c_X8_row l E a r im rd wa kp so sz el pr ts nu bu ht th po ba en td ig ij (xs (i + 1)) (xs (i + 2)) (xs (i + 3)) ) (z_rec cx.2 (hV.at 0 rfl) rfl) hV hS (fun q ⟨k, hk⟩ => by rw [hk]; exact hLF.2.2.2.2.1 k) m_ml_L_175 ⟨rfl, rfl⟩ ⟨Nat.le_of_ble_eq_true rfl, Nat.le_of_ble_eq_true rfl⟩ rfl hl.1 rfl (by simp [Value.category]) dL_law_1593 ⟨(by show cells + 2 ≤ 660476; omega), (by show slots + 102 ≤ 7114676; omega)⟩ (fun v H locs hq hS hk2 => ?_)
  obtain ⟨rfl, hV2⟩ := hq
  have hV : WW E (wM a (E.2.1 0) r im rd wa (rowK kp (xs (i + 1)) (xs (i + 2)) (xs (i + 3))) (rowS so (xs (i + 1)) (xs (i + 2)) (xs (i + 3))) (rowZ sz (xs (i + 1)) (xs (i + 2)) (xs (i + 3))) (rowE el (xs (i + 1)) (xs (i + 2)) (xs (i + 3))) pr ts nu bu ht (bI ig) th po ba en td (bI ij)) gN H := hV2
  have hW := hW.clsK hk2.2 (fun k ⟨j, hj⟩ => hLF.1 j k hj.symm) (fun z e hz ⟨j, hj⟩ => (hSG2 z e hz).2.1 j hj)
  have hO := hO.kept hk2.2 (fun ⟨j, hj⟩ => hLF.2.2.1 j hj)
  refine (?_ : W p l e room_1 s m args below meth c H locs (cells + 2 + 0) (slots + 102 + 0) Q (F0 m 1596 ls [.int (rowR (xs (i + 1)) (xs (i + 2)) (xs (i + 3))), .int (rowR (xs (i + 1)) (xs (i + 2)) (xs (i + 3)))]))
  refine lv_icmp_eq (pc := 1596) (tgt := 1840) hx hb dL_law_1596 (by decide) (fun _ => ?_) (fun c => absurd rfl c)
  refine W.widen (k := cells + 200) (n := slots + 2000) (by omega) (by omega) ?_
  exact kk r im ig (rowK kp (xs (i + 1)) (xs (i + 2)) (xs (i + 3))) (rowS so (xs (i + 1)) (xs (i + 2)) (xs (i + 3))) (rowZ sz (xs (i + 1)) (xs (i + 2)) (xs (i + 3))) (rowE el (xs (i + 1)) (xs (i + 2)) (xs (i + 3))) pr ts G2 H locs ls (lv_sub hl [0, 1, 2, 3, 4] rfl) (CLS.mk hW (hG.mono hGL) hSh2.cut ((hIm.row hGL hnw).sub hcu) (hrp.mono hGL) (hrt.mono hGL) (hra.mono hGL) (hxp.mono hGL) (hxt.mono hGL) (hxa.mono hGL) ((show RwD G2 qr2 from hrd2 hri hrd).sub hcu) (QrD.cut hSh2) (RwI.cut hSh2) ((hwr.row hG hGL hnw).sub hcu)) ⟨_, _, _, _, _, _, _, _, _, _, _, hV⟩ hO hSG2 hS
set_option maxHeartbeats 4000000 in
set_option maxRecDepth 100000 in
theorem y_37 (l : Launch) (hst : l.stackTraces = false) {p : Program} {e : Env} {s : State} {m : MethodId} {args : Array Value} {below : List Frame} {meth : Method} {c : Code} {H : Heap} {locs : List Loc} {cells slots : Nat} {Q : State → Prop} {ls : Array Slot} {E : zE} {a b : Nat → Nat} {o sb L i : Nat} {xs : Nat → Int32} {r : Nat → Int32} {im : Nat → Int32} {ig : Bool} {kp : Nat → Int32} {so : Nat → Int32} {sz : Nat → Int32} {el : Nat → Int32} {pr : Nat → Int32} {ts : Nat → Int32} {G : zG} (cx : Cx E p s args m c RL code 8) (hX : va_X sb L xs s s.heap) (hsb : sb < s.heap.size) (hLL : L ≤ 3072) (hi : i + 6 ≤ L) (hLF : LF a b o s.heap.size) (hCE : CE E (FL s.heap.size) s s.heap) (hXE : XE E (FL s.heap.size) s s.heap) (hl : lv_has ls 8 [(4, .int (nI i)), (3, .ref o), (2, .ref (a 0)), (1, .ref (b 0)), (0, .ref sb)]) (hS : va_S (FL s.heap.size) s.heap H locs) (hc1 : cells + 200 ≤ 660476) (hc2 : slots + 2000 ≤ 7114676) (hC : CLS E b r im ig kp so sz el pr ts G H) (hR : REF E a r im ig kp so sz el pr ts H) (hO : OUTc E o H) (hSG : SEP a o s.heap.size G) (kk : ∀ (r : Nat → Int32) (im : Nat → Int32) (ig : Bool) (kp : Nat → Int32) (so : Nat → Int32) (sz : Nat → Int32) (el : Nat → Int32) (pr : Nat → Int32) (ts : Nat → Int32) (G : zG) (H1 : Heap) (locs1 : List Loc) (ls1 : Array Slot), lv_has ls1 8 [(4, .int (nI i)), (3, .ref o), (2, .ref (a 0)), (1, .ref (b 0)), (0, .ref sb)] → CLS E b r im ig kp so sz el pr ts G H1 → REF E a r im ig kp so sz el pr ts H1 → OUTc E o H1 → SEP a o s.heap.size G → va_S (FL s.heap.size) s.heap H1 locs1 → W p l e room_1 s m args below meth c H1 locs1 (cells + 200) (slots + 2000) Q (F0 m 1840 ls1 [])) : W p l e room_1 s m args below meth c H locs cells slots Q (F0 m 1601 ls []) := by
  refine hC.elim (fun qt qr tbu wst asw pN tN aN wx pp tp ap sg uh ud up ur us ux xN xT xA xh xd xl xr xo xw xpp xtp xap xsg yN yT yA yh yd yl yr yo yw ypp ytp yap ysg zat zpl zlt zjo zfo zsz zby znu hW hG hSh hIm hrp hrt hra hxp hxt hxa hrd hdm hri hwr => ?_)
  obtain ⟨rd, wa, nu, bu, ht, th, po, ba, en, td, ij, hV⟩ := hR
  have hx := cx.x
  have hb := cx.b
  refine lv_aload_n (pc := 1601) hx hb dL_law_1601 rfl (lv_at hl 3 rfl) ?_
  refine lv_aload_n (pc := 1602) hx hb dL_law_1602 rfl (lv_at hl 4 rfl) ?_
  refine lv_iload (pc := 1603) hx hb dL_law_1603 (lv_at hl 0 rfl) ?_
  refine lv_iconst (pc := 1605) (v := 1) hx hb dL_law_1605 (by decide) ?_
  refine lv_iadd (pc := 1606) hx hb dL_law_1606 ?_
  refine z_sld (pc := 1607) (j := i + 1) cx hX hsb (Nat.not_le.mpr hsb) hS (by simp only [nI, Int32.ofNat_add] <;> rfl) (by omega) hLL dL_law_1607 ?_
  refine lv_aload_n (pc := 1608) hx hb dL_law_1608 rfl (lv_at hl 4 rfl) ?_
  refine lv_iload (pc := 1609) hx hb dL_law_1609 (lv_at hl 0 rfl) ?_
  refine lv_iconst (pc := 1611) (v := 2) hx hb dL_law_1611 (by decide) ?_
  refine lv_iadd (pc := 1612) hx hb dL_law_1612 ?_
  refine z_sld (pc := 1613) (j := i + 2) cx hX hsb (Nat.not_le.mpr hsb) hS (by simp only [nI, Int32.ofNat_add] <;> rfl) (by omega) hLL dL_law_1613 ?_
  refine lv_aload_n (pc := 1614) hx hb dL_law_1614 rfl (lv_at hl 4 rfl) ?_
  refine lv_iload (pc := 1615) hx hb dL_law_1615 (lv_at hl 0 rfl) ?_
  refine lv_iconst (pc := 1617) (v := 3) hx hb dL_law_1617 (by decide) ?_
  refine lv_iadd (pc := 1618) hx hb dL_law_1618 ?_
  refine z_sld (pc := 1619) (j := i + 3) cx hX hsb (Nat.not_le.mpr hsb) hS (by simp only [nI, Int32.ofNat_add] <;> rfl) (by omega) hLL dL_law_1619 ?_
  refine z_callVw (pc := 1620) cx vm_X7_put (c_X7_put l E b (wT b E.2.1 xN xT xA xh xd xl xr xo xw xpp xtp xap xsg yN yT yA yh yd yl yr yo yw ypp ytp yap ysg zat zpl zlt zjo zfo zsz zby znu) ig qt qr tbu wst asw pN tN aN (hdC (r 3)) (r 4) (r 5) (r 6) (r 7) wx pp tp ap sg uh ud up ur us ux G (xs (i + 1)) (xs (i + 2)) (xs (i + 3)) kp so sz el pr ts hSh hrd) (z_rec cx.2 (hW.at 0 rfl) rfl) hW hS (fun q h => h.elim (fun ⟨k, hk⟩ => by rw [hk]; exact hLF.2.2.2.1 k) (fun ⟨d, p, u, h1, h2⟩ => by obtain ⟨e, he⟩ := hri d p u _ h1 h2; exact (hSG _ e he).2.2)) m_ml_L_176 ⟨rfl, rfl⟩ ⟨Nat.le_of_ble_eq_true rfl, Nat.le_of_ble_eq_true rfl⟩ rfl hl.1 rfl (by simp [Value.category]) dL_law_1620 ⟨(by show cells ≤ 660476; omega), (by show slots ≤ 7114676; omega)⟩ (fun v H locs hq hS hk2 => ?_)
  obtain ⟨G2, rfl, hpg, hSh2, hW2⟩ := hq
  have hW : WW E (wK b E.2.1 (wT b E.2.1 xN xT xA xh xd xl xr xo xw xpp xtp xap xsg yN yT yA yh yd yl yr yo yw ypp ytp yap ysg zat zpl zlt zjo zfo zsz zby znu) ig qt qr tbu wst asw pN tN aN (hdC (r 3)) (r 4) (r 5) (r 6) (r 7) wx pp tp ap sg uh ud up ur us ux) G2 H := hW2
  have hV := hV.refK hk2.2 (fun j h => h.elim (fun ⟨k, hk⟩ => hLF.1 j k hk) (fun ⟨d, p, u, h1, h2⟩ => by obtain ⟨e, he⟩ := hri d p u _ h1 h2; exact (hSG _ e he).2.1 j rfl))
  have hO := hO.kept hk2.2 (fun h => h.elim (fun ⟨k, hk⟩ => hLF.2.1 k hk) (fun ⟨d, p, u, h1, h2⟩ => by obtain ⟨e, he⟩ := hri d p u _ h1 h2; exact (hSG _ e he).1 rfl))
  have hSG2 := hSG.put hpg
  refine (?_ : W p l e room_1 s m args below meth c H locs (cells + 0) (slots + 0) Q (F0 m 1623 ls [.int (putR kp so sz (xs (i + 1)) (xs (i + 2)))]))
  refine lv_aload_n (pc := 1623) hx hb dL_law_1623 rfl (lv_at hl 2 rfl) ?_
  refine lv_aload_n (pc := 1624) hx hb dL_law_1624 rfl (lv_at hl 4 rfl) ?_
  refine lv_iload (pc := 1625) hx hb dL_law_1625 (lv_at hl 0 rfl) ?_
  refine lv_iconst (pc := 1627) (v := 1) hx hb dL_law_1627 (by decide) ?_
  refine lv_iadd (pc := 1628) hx hb dL_law_1628 ?_
  refine z_sld (pc := 1629) (j := i + 1) cx hX hsb (Nat.not_le.mpr hsb) hS (by simp only [nI, Int32.ofNat_add] <;> rfl) (by omega) hLL dL_law_1629 ?_
  refine lv_aload_n (pc := 1630) hx hb dL_law_1630 rfl (lv_at hl 4 rfl) ?_
  refine lv_iload (pc := 1631) hx hb dL_law_1631 (lv_at hl 0 rfl) ?_
  refine lv_iconst (pc := 1633) (v := 2) hx hb dL_law_1633 (by decide) ?_
  refine lv_iadd (pc := 1634) hx hb dL_law_1634 ?_
  refine z_sld (pc := 1635) (j := i + 2) cx hX hsb (Nat.not_le.mpr hsb) hS (by simp only [nI, Int32.ofNat_add] <;> rfl) (by omega) hLL dL_law_1635 ?_
  refine lv_aload_n (pc := 1636) hx hb dL_law_1636 rfl (lv_at hl 4 rfl) ?_
  refine lv_iload (pc := 1637) hx hb dL_law_1637 (lv_at hl 0 rfl) ?_
  refine lv_iconst (pc := 1639) (v := 3) hx hb dL_law_1639 (by decide) ?_
  refine lv_iadd (pc := 1640) hx hb dL_law_1640 ?_
  refine z_sld (pc := 1641) (j := i + 3) cx hX hsb (Nat.not_le.mpr hsb) hS (by simp only [nI, Int32.ofNat_add] <;> rfl) (by omega) hLL dL_law_1641 ?_
  refine z_callVw (pc := 1642) cx vm_X8_put (c_X8_put l E a r im rd wa kp so sz el pr ts nu bu ht th po ba en td ig ij (xs (i + 1)) (xs (i + 2)) (xs (i + 3)) hSh.1) (z_rec cx.2 (hV.at 0 rfl) rfl) hV hS (fun q ⟨k, hk⟩ => by rw [hk]; exact hLF.2.2.2.2.1 k) m_ml_L_179 ⟨rfl, rfl⟩ ⟨Nat.le_of_ble_eq_true rfl, Nat.le_of_ble_eq_true rfl⟩ rfl hl.1 rfl (by simp [Value.category]) dL_law_1642 ⟨(by show cells + 0 ≤ 660476; omega), (by show slots + 0 ≤ 7114676; omega)⟩ (fun v H locs hq hS hk2 => ?_)
  obtain ⟨rfl, hV2⟩ := hq
  have hV : WW E (wM a (E.2.1 0) r im rd wa kp so sz (putE kp so sz el (xs (i + 1)) (xs (i + 2)) (xs (i + 3))) pr ts nu bu ht (bI ig) th po ba en td (bI ij)) gN H := hV2
  have hW := hW.clsK hk2.2 (fun k ⟨j, hj⟩ => hLF.1 j k hj.symm) (fun z e hz ⟨j, hj⟩ => (hSG2 z e hz).2.1 j hj)
  have hO := hO.kept hk2.2 (fun ⟨j, hj⟩ => hLF.2.2.1 j hj)
  refine (?_ : W p l e room_1 s m args below meth c H locs (cells + 0 + 0) (slots + 0 + 0) Q (F0 m 1645 ls [.int (putR kp so sz (xs (i + 1)) (xs (i + 2))), .int (putR kp so sz (xs (i + 1)) (xs (i + 2)))]))
  refine lv_icmp_eq (pc := 1645) (tgt := 1840) hx hb dL_law_1645 (by decide) (fun _ => ?_) (fun c => absurd rfl c)
  refine W.widen (k := cells + 200) (n := slots + 2000) (by omega) (by omega) ?_
  exact kk r im ig kp so sz (putE kp so sz el (xs (i + 1)) (xs (i + 2)) (xs (i + 3))) pr ts G2 H locs ls (lv_sub hl [0, 1, 2, 3, 4] rfl) (CLS.mk hW (CG_put hG hpg hwr) hSh2 (hIm.put hpg) (hrp.put hpg) (hrt.put hpg) (hra.put hpg) (hxp.put hpg) (hxt.put hpg) (hxa.put hpg) (hrd.put hpg) (hdm.put hpg) (hri.put hpg) (hwr.put hpg)) ⟨_, _, _, _, _, _, _, _, _, _, _, hV⟩ hO hSG2 hS
set_option maxHeartbeats 4000000 in
set_option maxRecDepth 100000 in
theorem y_38 (l : Launch) (hst : l.stackTraces = false) {p : Program} {e : Env} {s : State} {m : MethodId} {args : Array Value} {below : List Frame} {meth : Method} {c : Code} {H : Heap} {locs : List Loc} {cells slots : Nat} {Q : State → Prop} {ls : Array Slot} {E : zE} {a b : Nat → Nat} {o sb L i : Nat} {xs : Nat → Int32} {r : Nat → Int32} {im : Nat → Int32} {ig : Bool} {kp : Nat → Int32} {so : Nat → Int32} {sz : Nat → Int32} {el : Nat → Int32} {pr : Nat → Int32} {ts : Nat → Int32} {G : zG} (cx : Cx E p s args m c RL code 8) (hX : va_X sb L xs s s.heap) (hsb : sb < s.heap.size) (hLL : L ≤ 3072) (hi : i + 6 ≤ L) (hLF : LF a b o s.heap.size) (hCE : CE E (FL s.heap.size) s s.heap) (hXE : XE E (FL s.heap.size) s s.heap) (hl : lv_has ls 8 [(4, .int (nI i)), (3, .ref o), (2, .ref (a 0)), (1, .ref (b 0)), (0, .ref sb)]) (hS : va_S (FL s.heap.size) s.heap H locs) (hc1 : cells + 200 ≤ 660476) (hc2 : slots + 2000 ≤ 7114676) (hC : CLS E b r im ig kp so sz el pr ts G H) (hR : REF E a r im ig kp so sz el pr ts H) (hO : OUTc E o H) (hSG : SEP a o s.heap.size G) (kk : ∀ (r : Nat → Int32) (im : Nat → Int32) (ig : Bool) (kp : Nat → Int32) (so : Nat → Int32) (sz : Nat → Int32) (el : Nat → Int32) (pr : Nat → Int32) (ts : Nat → Int32) (G : zG) (H1 : Heap) (locs1 : List Loc) (ls1 : Array Slot), lv_has ls1 8 [(4, .int (nI i)), (3, .ref o), (2, .ref (a 0)), (1, .ref (b 0)), (0, .ref sb)] → CLS E b r im ig kp so sz el pr ts G H1 → REF E a r im ig kp so sz el pr ts H1 → OUTc E o H1 → SEP a o s.heap.size G → va_S (FL s.heap.size) s.heap H1 locs1 → W p l e room_1 s m args below meth c H1 locs1 (cells + 200) (slots + 2000) Q (F0 m 1840 ls1 [])) : W p l e room_1 s m args below meth c H locs cells slots Q (F0 m 1650 ls []) := by
  refine hC.elim (fun qt qr tbu wst asw pN tN aN wx pp tp ap sg uh ud up ur us ux xN xT xA xh xd xl xr xo xw xpp xtp xap xsg yN yT yA yh yd yl yr yo yw ypp ytp yap ysg zat zpl zlt zjo zfo zsz zby znu hW hG hSh hIm hrp hrt hra hxp hxt hxa hrd hdm hri hwr => ?_)
  obtain ⟨rd, wa, nu, bu, ht, th, po, ba, en, td, ij, hV⟩ := hR
  have hx := cx.x
  have hb := cx.b
  refine lv_aload_n (pc := 1650) hx hb dL_law_1650 rfl (lv_at hl 3 rfl) ?_
  refine lv_aload_n (pc := 1651) hx hb dL_law_1651 rfl (lv_at hl 4 rfl) ?_
  refine lv_iload (pc := 1652) hx hb dL_law_1652 (lv_at hl 0 rfl) ?_
  refine lv_iconst (pc := 1654) (v := 1) hx hb dL_law_1654 (by decide) ?_
  refine lv_iadd (pc := 1655) hx hb dL_law_1655 ?_
  refine z_sld (pc := 1656) (j := i + 1) cx hX hsb (Nat.not_le.mpr hsb) hS (by simp only [nI, Int32.ofNat_add] <;> rfl) (by omega) hLL dL_law_1656 ?_
  refine lv_aload_n (pc := 1657) hx hb dL_law_1657 rfl (lv_at hl 4 rfl) ?_
  refine lv_iload (pc := 1658) hx hb dL_law_1658 (lv_at hl 0 rfl) ?_
  refine lv_iconst (pc := 1660) (v := 2) hx hb dL_law_1660 (by decide) ?_
  refine lv_iadd (pc := 1661) hx hb dL_law_1661 ?_
  refine z_sld (pc := 1662) (j := i + 2) cx hX hsb (Nat.not_le.mpr hsb) hS (by simp only [nI, Int32.ofNat_add] <;> rfl) (by omega) hLL dL_law_1662 ?_
  refine lv_aload_n (pc := 1663) hx hb dL_law_1663 rfl (lv_at hl 1 rfl) ?_
  have hXH := hXE.kept hS.2.1
  obtain ⟨f, hf⟩ := hO
  refine vx_calli (pc := 1664) (vx_runSX cx.1 (c_L_element l hst E b (wT b E.2.1 xN xT xA xh xd xl xr xo xw xpp xtp xap xsg yN yT yA yh yd yl yr yo yw ypp ytp yap ysg zat zpl zlt zjo zfo zsz zby znu) ig qt qr tbu wst asw pN tN aN (hdC (r 3)) (r 4) (r 5) (r 6) (r 7) wx pp tp ap sg uh ud up ur us ux G (FL s.heap.size) (xs (i + 1)) (xs (i + 2)) kp so sz el pr ts o f hSh) (z_csw cx m_cw_L_element m_ml_L_180 m_in_RL m_st_L_element rfl rfl vd_L_element ⟨Nat.le_of_ble_eq_true rfl, Nat.le_of_ble_eq_true rfl⟩) ⟨zPx.blind, fun U hU hW2 => ⟨rfl, by rw [hU]; exact ⟨hW, hf⟩, by rw [hU]; exact hXH.warm hW2, cx.2.warm hW2⟩⟩ rfl rfl hl.1 rfl (by simp [Value.category]) dL_law_1664 ⟨(by show cells + 1 ≤ 660476; omega), (by show slots + 6 ≤ 7114676; omega)⟩) hS (fun q _ h => by rw [h]; exact hLF.2.2.2.2.2.1) (fun q h => by rw [h]; exact hLF.2.2.2.2.2.1) (fun _ _ h => h.elim) (fun X ce q9 u t H1 locs1 _ _ hf => hf.elim) (fun v u t H locs hH hal hv hB hsz hkp hS => ?_)
  replace hv : v = elmT kp sz (xs (i + 1)) (xs (i + 2)) := hv
  subst hv
  obtain ⟨f2, hf2, hfe⟩ : ∃ f2 : Nat → Int64, va_at E.1 vwCl (o, .inl (E.2.1 5, 1, .inr (.inl f2))) t.heap ∧ (elmT kp sz (xs (i + 1)) (xs (i + 2)) = 0 → f2 0 = elmV kp sz el (xs (i + 1)) (xs (i + 2))) := hB
  rw [hH] at hf2
  have hW := hW.clsK (F1 := fun q => q = o) hkp (fun k h => hLF.2.1 k h.symm) (fun z e hz h => (hSG z e hz).1 h)
  have hV := hV.refK (F1 := fun q => q = o) hkp (fun j h => hLF.2.2.1 j h.symm)
  have hO : OUTc E o H := ⟨f2, hf2⟩
  refine (?_ : W p l e room_1 s m args below meth c H locs (cells + 1) (slots + 6) Q (F0 m 1667 ls [.int (elmT kp sz (xs (i + 1)) (xs (i + 2)))]))
  refine lv_istore (pc := 1667) (lv' := [(5, .int (elmT kp sz (xs (i + 1)) (xs (i + 2)))), (4, .int (nI i)), (3, .ref o), (2, .ref (a 0)), (1, .ref (b 0)), (0, .ref sb)]) hx hb dL_law_1667 hl (by decide) rfl (fun ls hl => ?_)
  refine lv_aload_n (pc := 1669) hx hb dL_law_1669 rfl (lv_at hl 3 rfl) ?_
  refine lv_aload_n (pc := 1670) hx hb dL_law_1670 rfl (lv_at hl 5 rfl) ?_
  refine lv_iload (pc := 1671) hx hb dL_law_1671 (lv_at hl 1 rfl) ?_
  refine lv_iconst (pc := 1673) (v := 1) hx hb dL_law_1673 (by decide) ?_
  refine lv_iadd (pc := 1674) hx hb dL_law_1674 ?_
  refine z_sld (pc := 1675) (j := i + 1) cx hX hsb (Nat.not_le.mpr hsb) hS (by simp only [nI, Int32.ofNat_add] <;> rfl) (by omega) hLL dL_law_1675 ?_
  refine lv_aload_n (pc := 1676) hx hb dL_law_1676 rfl (lv_at hl 5 rfl) ?_
  refine lv_iload (pc := 1677) hx hb dL_law_1677 (lv_at hl 1 rfl) ?_
  refine lv_iconst (pc := 1679) (v := 2) hx hb dL_law_1679 (by decide) ?_
  refine lv_iadd (pc := 1680) hx hb dL_law_1680 ?_
  refine z_sld (pc := 1681) (j := i + 2) cx hX hsb (Nat.not_le.mpr hsb) hS (by simp only [nI, Int32.ofNat_add] <;> rfl) (by omega) hLL dL_law_1681 ?_
  refine z_callVw (pc := 1682) cx vm_X8_element (c_X8_element l E a r im rd wa kp so sz el pr ts nu bu ht th po ba en td ig ij (xs (i + 1)) (xs (i + 2)) hSh.1) (z_rec cx.2 (hV.at 0 rfl) rfl) hV hS (fun q ⟨k, hk⟩ => by rw [hk]; exact hLF.2.2.2.2.1 k) m_ml_L_185 ⟨rfl, rfl⟩ ⟨Nat.le_of_ble_eq_true rfl, Nat.le_of_ble_eq_true rfl⟩ rfl hl.1 rfl (by simp [Value.category]) dL_law_1682 ⟨(by show cells + 1 ≤ 660476; omega), (by show slots + 6 ≤ 7114676; omega)⟩ (fun v H locs hq hS hk2 => ?_)
  obtain ⟨rfl, hV2⟩ := hq
  have hV : WW E (wM a (E.2.1 0) r im rd wa kp so sz el pr ts nu bu ht (bI ig) (elmT kp sz (xs (i + 1)) (xs (i + 2))) po ba en td (bI ij)) gN H := hV2
  have hW := hW.clsK hk2.2 (fun k ⟨j, hj⟩ => hLF.1 j k hj.symm) (fun z e hz ⟨j, hj⟩ => (hSG z e hz).2.1 j hj)
  have hO := hO.kept hk2.2 (fun ⟨j, hj⟩ => hLF.2.2.1 j hj)
  have hf2 := hf2.kept (hk2.2 _ hf2.lt (fun ⟨j, hj⟩ => hLF.2.2.1 j hj))
  refine (?_ : W p l e room_1 s m args below meth c H locs (cells + 1 + 0) (slots + 6 + 0) Q (F0 m 1685 ls [.long (elmV kp sz el (xs (i + 1)) (xs (i + 2)))]))
  refine lv_lstore (pc := 1685) (lv' := [(6, .long (elmV kp sz el (xs (i + 1)) (xs (i + 2)))), (5, .int (elmT kp sz (xs (i + 1)) (xs (i + 2)))), (4, .int (nI i)), (3, .ref o), (2, .ref (a 0)), (1, .ref (b 0)), (0, .ref sb)]) hx hb dL_law_1685 hl (by decide) rfl (fun ls hl => ?_)
  refine lv_aload_n (pc := 1687) hx hb dL_law_1687 rfl (lv_at hl 4 rfl) ?_
  refine z_callV (pc := 1688) cx vm_X8_thrown (c_X8_thrown l E a r im rd wa kp so sz el pr ts nu bu ht (elmT kp sz (xs (i + 1)) (xs (i + 2))) po ba en td ig ij  ) (z_rec cx.2 (hV.at 0 rfl) rfl) hV m_ml_L_186 ⟨rfl, rfl⟩ ⟨Nat.le_of_ble_eq_true rfl, Nat.le_of_ble_eq_true rfl⟩ rfl hl.1 rfl (by simp [Value.category]) dL_law_1688 ⟨(by show cells + 1 + 0 ≤ 660476; omega), (by show slots + 6 + 0 ≤ 7114676; omega)⟩ ?_
  refine (?_ : W p l e room_1 s m args below meth c H locs (cells + 1 + 0) (slots + 6 + 0) Q (F0 m 1691 ls [.int (elmT kp sz (xs (i + 1)) (xs (i + 2)))]))
  refine lv_iload (pc := 1691) hx hb dL_law_1691 (lv_at hl 1 rfl) ?_
  refine lv_icmp_eq (pc := 1693) (tgt := 1698) hx hb dL_law_1693 (by decide) (fun _ => ?_) (fun c => absurd rfl c)
  refine lv_iload (pc := 1698) hx hb dL_law_1698 (lv_at hl 1 rfl) ?_
  by_cases hz0 : elmT kp sz (xs (i + 1)) (xs (i + 2)) = 0
  · skip
    refine lv_if_ne (pc := 1700) (tgt := 1714) hx hb dL_law_1700 (by decide) (fun c => absurd hz0 c) (fun _ => ?_)
    refine lv_aload_n (pc := 1703) hx hb dL_law_1703 rfl (lv_at hl 3 rfl) ?_
    refine lv_iconst (pc := 1704) (v := 0) hx hb dL_law_1704 (by decide) ?_
    refine va_lald (pc := 1705) (D := E.1) (cl := vwCl) cx.x cx.b cx.K (z_sing hf2) 0 5 rfl rfl (i := 0) (by unfold vp_in; decide) dL_law_1705 ?_
    refine lv_lload (pc := 1706) hx hb dL_law_1706 (lv_at hl 0 rfl) ?_
    refine W.lcmp (pc := 1708) hx hb dL_law_1708 ?_
    have h1709 : f2 (Int32.toNatClampNeg 0) = elmV kp sz el (xs (i + 1)) (xs (i + 2)) := hfe hz0
    refine lv_if_eq (pc := 1709) (tgt := 1714) hx hb dL_law_1709 (by decide) (fun _ => ?_) (fun c => absurd (by rw [h1709]; exact lg_cmp_self _) c)
    refine lv_goto (pc := 1714) (tgt := 1840) hx hb dL_law_1714 (by decide) ?_
    refine W.widen (k := cells + 200) (n := slots + 2000) (by omega) (by omega) ?_
    exact kk r im ig kp so sz el pr ts G H locs ls (lv_sub hl [2, 3, 4, 5, 6] rfl) (CLS.mk hW hG hSh hIm hrp hrt hra hxp hxt hxa hrd hdm hri hwr) ⟨_, _, _, _, _, _, _, _, _, _, _, hV⟩ hO hSG hS
  · skip
    refine lv_if_ne (pc := 1700) (tgt := 1714) hx hb dL_law_1700 (by decide) (fun _ => ?_) (fun c => absurd c hz0)
    refine lv_goto (pc := 1714) (tgt := 1840) hx hb dL_law_1714 (by decide) ?_
    refine W.widen (k := cells + 200) (n := slots + 2000) (by omega) (by omega) ?_
    exact kk r im ig kp so sz el pr ts G H locs ls (lv_sub hl [2, 3, 4, 5, 6] rfl) (CLS.mk hW hG hSh hIm hrp hrt hra hxp hxt hxa hrd hdm hri hwr) ⟨_, _, _, _, _, _, _, _, _, _, _, hV⟩ hO hSG hS
set_option maxHeartbeats 4000000 in
set_option maxRecDepth 100000 in
theorem y_39 (l : Launch) (hst : l.stackTraces = false) {p : Program} {e : Env} {s : State} {m : MethodId} {args : Array Value} {below : List Frame} {meth : Method} {c : Code} {H : Heap} {locs : List Loc} {cells slots : Nat} {Q : State → Prop} {ls : Array Slot} {E : zE} {a b : Nat → Nat} {o sb L i : Nat} {xs : Nat → Int32} {r : Nat → Int32} {im : Nat → Int32} {ig : Bool} {kp : Nat → Int32} {so : Nat → Int32} {sz : Nat → Int32} {el : Nat → Int32} {pr : Nat → Int32} {ts : Nat → Int32} {G : zG} (cx : Cx E p s args m c RL code 8) (hX : va_X sb L xs s s.heap) (hsb : sb < s.heap.size) (hLL : L ≤ 3072) (hi : i + 6 ≤ L) (hLF : LF a b o s.heap.size) (hCE : CE E (FL s.heap.size) s s.heap) (hXE : XE E (FL s.heap.size) s s.heap) (hl : lv_has ls 8 [(4, .int (nI i)), (3, .ref o), (2, .ref (a 0)), (1, .ref (b 0)), (0, .ref sb)]) (hS : va_S (FL s.heap.size) s.heap H locs) (hc1 : cells + 200 ≤ 660476) (hc2 : slots + 2000 ≤ 7114676) (hC : CLS E b r im ig kp so sz el pr ts G H) (hR : REF E a r im ig kp so sz el pr ts H) (hO : OUTc E o H) (hSG : SEP a o s.heap.size G) (kk : ∀ (r : Nat → Int32) (im : Nat → Int32) (ig : Bool) (kp : Nat → Int32) (so : Nat → Int32) (sz : Nat → Int32) (el : Nat → Int32) (pr : Nat → Int32) (ts : Nat → Int32) (G : zG) (H1 : Heap) (locs1 : List Loc) (ls1 : Array Slot), lv_has ls1 8 [(4, .int (nI i)), (3, .ref o), (2, .ref (a 0)), (1, .ref (b 0)), (0, .ref sb)] → CLS E b r im ig kp so sz el pr ts G H1 → REF E a r im ig kp so sz el pr ts H1 → OUTc E o H1 → SEP a o s.heap.size G → va_S (FL s.heap.size) s.heap H1 locs1 → W p l e room_1 s m args below meth c H1 locs1 (cells + 200) (slots + 2000) Q (F0 m 1840 ls1 [])) : W p l e room_1 s m args below meth c H locs cells slots Q (F0 m 1717 ls []) := by
  refine hC.elim (fun qt qr tbu wst asw pN tN aN wx pp tp ap sg uh ud up ur us ux xN xT xA xh xd xl xr xo xw xpp xtp xap xsg yN yT yA yh yd yl yr yo yw ypp ytp yap ysg zat zpl zlt zjo zfo zsz zby znu hW hG hSh hIm hrp hrt hra hxp hxt hxa hrd hdm hri hwr => ?_)
  obtain ⟨rd, wa, nu, bu, ht, th, po, ba, en, td, ij, hV⟩ := hR
  have hx := cx.x
  have hb := cx.b
  refine lv_aload_n (pc := 1717) hx hb dL_law_1717 rfl (lv_at hl 3 rfl) ?_
  refine lv_aload_n (pc := 1718) hx hb dL_law_1718 rfl (lv_at hl 4 rfl) ?_
  refine lv_iload (pc := 1719) hx hb dL_law_1719 (lv_at hl 0 rfl) ?_
  refine lv_iconst (pc := 1721) (v := 1) hx hb dL_law_1721 (by decide) ?_
  refine lv_iadd (pc := 1722) hx hb dL_law_1722 ?_
  refine z_sld (pc := 1723) (j := i + 1) cx hX hsb (Nat.not_le.mpr hsb) hS (by simp only [nI, Int32.ofNat_add] <;> rfl) (by omega) hLL dL_law_1723 ?_
  refine lv_aload_n (pc := 1724) hx hb dL_law_1724 rfl (lv_at hl 4 rfl) ?_
  refine lv_iload (pc := 1725) hx hb dL_law_1725 (lv_at hl 0 rfl) ?_
  refine lv_iconst (pc := 1727) (v := 2) hx hb dL_law_1727 (by decide) ?_
  refine lv_iadd (pc := 1728) hx hb dL_law_1728 ?_
  refine z_sld (pc := 1729) (j := i + 2) cx hX hsb (Nat.not_le.mpr hsb) hS (by simp only [nI, Int32.ofNat_add] <;> rfl) (by omega) hLL dL_law_1729 ?_
  refine lv_aload_n (pc := 1730) hx hb dL_law_1730 rfl (lv_at hl 4 rfl) ?_
  refine lv_iload (pc := 1731) hx hb dL_law_1731 (lv_at hl 0 rfl) ?_
  refine lv_iconst (pc := 1733) (v := 3) hx hb dL_law_1733 (by decide) ?_
  refine lv_iadd (pc := 1734) hx hb dL_law_1734 ?_
  refine z_sld (pc := 1735) (j := i + 3) cx hX hsb (Nat.not_le.mpr hsb) hS (by simp only [nI, Int32.ofNat_add] <;> rfl) (by omega) hLL dL_law_1735 ?_
  refine lv_aload_n (pc := 1736) hx hb dL_law_1736 rfl (lv_at hl 4 rfl) ?_
  refine lv_iload (pc := 1737) hx hb dL_law_1737 (lv_at hl 0 rfl) ?_
  refine lv_iconst (pc := 1739) (v := 4) hx hb dL_law_1739 (by decide) ?_
  refine lv_iadd (pc := 1740) hx hb dL_law_1740 ?_
  refine z_sld (pc := 1741) (j := i + 4) cx hX hsb (Nat.not_le.mpr hsb) hS (by simp only [nI, Int32.ofNat_add] <;> rfl) (by omega) hLL dL_law_1741 ?_
  refine lv_aload_n (pc := 1742) hx hb dL_law_1742 rfl (lv_at hl 4 rfl) ?_
  refine lv_iload (pc := 1743) hx hb dL_law_1743 (lv_at hl 0 rfl) ?_
  refine lv_iconst (pc := 1745) (v := 5) hx hb dL_law_1745 (by decide) ?_
  refine lv_iadd (pc := 1746) hx hb dL_law_1746 ?_
  refine z_sld (pc := 1747) (j := i + 5) cx hX hsb (Nat.not_le.mpr hsb) hS (by simp only [nI, Int32.ofNat_add] <;> rfl) (by omega) hLL dL_law_1747 ?_
  refine z_callVw (pc := 1748) cx vm_X7_copy (c_X7_copy l E b (wT b E.2.1 xN xT xA xh xd xl xr xo xw xpp xtp xap xsg yN yT yA yh yd yl yr yo yw ypp ytp yap ysg zat zpl zlt zjo zfo zsz zby znu) ig qt qr tbu wst asw pN tN aN (hdC (r 3)) (r 4) (r 5) (r 6) (r 7) wx pp tp ap sg uh ud up ur us ux G (xs (i + 1)) (xs (i + 2)) (xs (i + 3)) (xs (i + 4)) (xs (i + 5)) kp so sz el pr ts hSh hrd) (z_rec cx.2 (hW.at 0 rfl) rfl) hW hS (fun q h => h.elim (fun ⟨k, hk⟩ => by rw [hk]; exact hLF.2.2.2.1 k) (fun ⟨d, p, u, h1, h2⟩ => by obtain ⟨e, he⟩ := hri d p u _ h1 h2; exact (hSG _ e he).2.2)) m_ml_L_189 ⟨rfl, rfl⟩ ⟨Nat.le_of_ble_eq_true rfl, Nat.le_of_ble_eq_true rfl⟩ rfl hl.1 rfl (by simp [Value.category]) dL_law_1748 ⟨(by show cells ≤ 660476; omega), (by show slots ≤ 7114676; omega)⟩ (fun v H locs hq hS hk2 => ?_)
  obtain ⟨G2, rfl, hpg, hSh2, hW2⟩ := hq
  have hW : WW E (wK b E.2.1 (wT b E.2.1 xN xT xA xh xd xl xr xo xw xpp xtp xap xsg yN yT yA yh yd yl yr yo yw ypp ytp yap ysg zat zpl zlt zjo zfo zsz zby znu) ig qt qr tbu wst asw pN tN aN (hdC (r 3)) (r 4) (r 5) (r 6) (r 7) wx pp tp ap sg uh ud up ur us ux) G2 H := hW2
  have hV := hV.refK hk2.2 (fun j h => h.elim (fun ⟨k, hk⟩ => hLF.1 j k hk) (fun ⟨d, p, u, h1, h2⟩ => by obtain ⟨e, he⟩ := hri d p u _ h1 h2; exact (hSG _ e he).2.1 j rfl))
  have hO := hO.kept hk2.2 (fun h => h.elim (fun ⟨k, hk⟩ => hLF.2.1 k hk) (fun ⟨d, p, u, h1, h2⟩ => by obtain ⟨e, he⟩ := hri d p u _ h1 h2; exact (hSG _ e he).1 rfl))
  have hSG2 := hSG.put hpg
  refine (?_ : W p l e room_1 s m args below meth c H locs (cells + 0) (slots + 0) Q (F0 m 1751 ls [.int (copyR kp so sz (xs (i + 1)) (xs (i + 2)) (xs (i + 3)) (xs (i + 4)) (xs (i + 5)))]))
  refine lv_aload_n (pc := 1751) hx hb dL_law_1751 rfl (lv_at hl 2 rfl) ?_
  refine lv_aload_n (pc := 1752) hx hb dL_law_1752 rfl (lv_at hl 4 rfl) ?_
  refine lv_iload (pc := 1753) hx hb dL_law_1753 (lv_at hl 0 rfl) ?_
  refine lv_iconst (pc := 1755) (v := 1) hx hb dL_law_1755 (by decide) ?_
  refine lv_iadd (pc := 1756) hx hb dL_law_1756 ?_
  refine z_sld (pc := 1757) (j := i + 1) cx hX hsb (Nat.not_le.mpr hsb) hS (by simp only [nI, Int32.ofNat_add] <;> rfl) (by omega) hLL dL_law_1757 ?_
  refine lv_aload_n (pc := 1758) hx hb dL_law_1758 rfl (lv_at hl 4 rfl) ?_
  refine lv_iload (pc := 1759) hx hb dL_law_1759 (lv_at hl 0 rfl) ?_
  refine lv_iconst (pc := 1761) (v := 2) hx hb dL_law_1761 (by decide) ?_
  refine lv_iadd (pc := 1762) hx hb dL_law_1762 ?_
  refine z_sld (pc := 1763) (j := i + 2) cx hX hsb (Nat.not_le.mpr hsb) hS (by simp only [nI, Int32.ofNat_add] <;> rfl) (by omega) hLL dL_law_1763 ?_
  refine lv_aload_n (pc := 1764) hx hb dL_law_1764 rfl (lv_at hl 4 rfl) ?_
  refine lv_iload (pc := 1765) hx hb dL_law_1765 (lv_at hl 0 rfl) ?_
  refine lv_iconst (pc := 1767) (v := 3) hx hb dL_law_1767 (by decide) ?_
  refine lv_iadd (pc := 1768) hx hb dL_law_1768 ?_
  refine z_sld (pc := 1769) (j := i + 3) cx hX hsb (Nat.not_le.mpr hsb) hS (by simp only [nI, Int32.ofNat_add] <;> rfl) (by omega) hLL dL_law_1769 ?_
  refine lv_aload_n (pc := 1770) hx hb dL_law_1770 rfl (lv_at hl 4 rfl) ?_
  refine lv_iload (pc := 1771) hx hb dL_law_1771 (lv_at hl 0 rfl) ?_
  refine lv_iconst (pc := 1773) (v := 4) hx hb dL_law_1773 (by decide) ?_
  refine lv_iadd (pc := 1774) hx hb dL_law_1774 ?_
  refine z_sld (pc := 1775) (j := i + 4) cx hX hsb (Nat.not_le.mpr hsb) hS (by simp only [nI, Int32.ofNat_add] <;> rfl) (by omega) hLL dL_law_1775 ?_
  refine lv_aload_n (pc := 1776) hx hb dL_law_1776 rfl (lv_at hl 4 rfl) ?_
  refine lv_iload (pc := 1777) hx hb dL_law_1777 (lv_at hl 0 rfl) ?_
  refine lv_iconst (pc := 1779) (v := 5) hx hb dL_law_1779 (by decide) ?_
  refine lv_iadd (pc := 1780) hx hb dL_law_1780 ?_
  refine z_sld (pc := 1781) (j := i + 5) cx hX hsb (Nat.not_le.mpr hsb) hS (by simp only [nI, Int32.ofNat_add] <;> rfl) (by omega) hLL dL_law_1781 ?_
  refine z_callVw (pc := 1782) cx vm_X8_copy (c_X8_copy l E a r im rd wa kp so sz el pr ts nu bu ht th po ba en td ig ij (xs (i + 1)) (xs (i + 2)) (xs (i + 3)) (xs (i + 4)) (xs (i + 5)) hSh.1) (z_rec cx.2 (hV.at 0 rfl) rfl) hV hS (fun q ⟨k, hk⟩ => by rw [hk]; exact hLF.2.2.2.2.1 k) m_ml_L_193 ⟨rfl, rfl⟩ ⟨Nat.le_of_ble_eq_true rfl, Nat.le_of_ble_eq_true rfl⟩ rfl hl.1 rfl (by simp [Value.category]) dL_law_1782 ⟨(by show cells + 0 ≤ 660476; omega), (by show slots + 0 ≤ 7114676; omega)⟩ (fun v H locs hq hS hk2 => ?_)
  obtain ⟨rfl, hV2⟩ := hq
  have hV : WW E (wM a (E.2.1 0) r im rd wa kp so sz (copyE kp so sz el (xs (i + 1)) (xs (i + 2)) (xs (i + 3)) (xs (i + 4)) (xs (i + 5))) pr ts nu bu ht (bI ig) th po ba en td (bI ij)) gN H := hV2
  have hW := hW.clsK hk2.2 (fun k ⟨j, hj⟩ => hLF.1 j k hj.symm) (fun z e hz ⟨j, hj⟩ => (hSG2 z e hz).2.1 j hj)
  have hO := hO.kept hk2.2 (fun ⟨j, hj⟩ => hLF.2.2.1 j hj)
  refine (?_ : W p l e room_1 s m args below meth c H locs (cells + 0 + 0) (slots + 0 + 0) Q (F0 m 1785 ls [.int (copyR kp so sz (xs (i + 1)) (xs (i + 2)) (xs (i + 3)) (xs (i + 4)) (xs (i + 5))), .int (copyR kp so sz (xs (i + 1)) (xs (i + 2)) (xs (i + 3)) (xs (i + 4)) (xs (i + 5)))]))
  refine lv_icmp_eq (pc := 1785) (tgt := 1840) hx hb dL_law_1785 (by decide) (fun _ => ?_) (fun c => absurd rfl c)
  refine W.widen (k := cells + 200) (n := slots + 2000) (by omega) (by omega) ?_
  exact kk r im ig kp so sz (copyE kp so sz el (xs (i + 1)) (xs (i + 2)) (xs (i + 3)) (xs (i + 4)) (xs (i + 5))) pr ts G2 H locs ls (lv_sub hl [0, 1, 2, 3, 4] rfl) (CLS.mk hW (CG_put hG hpg hwr) hSh2 (hIm.put hpg) (hrp.put hpg) (hrt.put hpg) (hra.put hpg) (hxp.put hpg) (hxt.put hpg) (hxa.put hpg) (hrd.put hpg) (hdm.put hpg) (hri.put hpg) (hwr.put hpg)) ⟨_, _, _, _, _, _, _, _, _, _, _, hV⟩ hO hSG2 hS
set_option maxHeartbeats 4000000 in
set_option maxRecDepth 100000 in
theorem y_40 (l : Launch) (hst : l.stackTraces = false) {p : Program} {e : Env} {s : State} {m : MethodId} {args : Array Value} {below : List Frame} {meth : Method} {c : Code} {H : Heap} {locs : List Loc} {cells slots : Nat} {Q : State → Prop} {ls : Array Slot} {E : zE} {a b : Nat → Nat} {o sb L i : Nat} {xs : Nat → Int32} {r : Nat → Int32} {im : Nat → Int32} {ig : Bool} {kp : Nat → Int32} {so : Nat → Int32} {sz : Nat → Int32} {el : Nat → Int32} {pr : Nat → Int32} {ts : Nat → Int32} {G : zG} (cx : Cx E p s args m c RL code 8) (hX : va_X sb L xs s s.heap) (hsb : sb < s.heap.size) (hLL : L ≤ 3072) (hi : i + 6 ≤ L) (hLF : LF a b o s.heap.size) (hCE : CE E (FL s.heap.size) s s.heap) (hXE : XE E (FL s.heap.size) s s.heap) (hl : lv_has ls 8 [(4, .int (nI i)), (3, .ref o), (2, .ref (a 0)), (1, .ref (b 0)), (0, .ref sb)]) (hS : va_S (FL s.heap.size) s.heap H locs) (hc1 : cells + 200 ≤ 660476) (hc2 : slots + 2000 ≤ 7114676) (hC : CLS E b r im ig kp so sz el pr ts G H) (hR : REF E a r im ig kp so sz el pr ts H) (hO : OUTc E o H) (hSG : SEP a o s.heap.size G) (kk : ∀ (r : Nat → Int32) (im : Nat → Int32) (ig : Bool) (kp : Nat → Int32) (so : Nat → Int32) (sz : Nat → Int32) (el : Nat → Int32) (pr : Nat → Int32) (ts : Nat → Int32) (G : zG) (H1 : Heap) (locs1 : List Loc) (ls1 : Array Slot), lv_has ls1 8 [(4, .int (nI i)), (3, .ref o), (2, .ref (a 0)), (1, .ref (b 0)), (0, .ref sb)] → CLS E b r im ig kp so sz el pr ts G H1 → REF E a r im ig kp so sz el pr ts H1 → OUTc E o H1 → SEP a o s.heap.size G → va_S (FL s.heap.size) s.heap H1 locs1 → W p l e room_1 s m args below meth c H1 locs1 (cells + 200) (slots + 2000) Q (F0 m 1840 ls1 [])) : W p l e room_1 s m args below meth c H locs cells slots Q (F0 m 1790 ls []) := by
  refine hC.elim (fun qt qr tbu wst asw pN tN aN wx pp tp ap sg uh ud up ur us ux xN xT xA xh xd xl xr xo xw xpp xtp xap xsg yN yT yA yh yd yl yr yo yw ypp ytp yap ysg zat zpl zlt zjo zfo zsz zby znu hW hG hSh hIm hrp hrt hra hxp hxt hxa hrd hdm hri hwr => ?_)
  obtain ⟨rd, wa, nu, bu, ht, th, po, ba, en, td, ij, hV⟩ := hR
  have hx := cx.x
  have hb := cx.b
  refine lv_aload_n (pc := 1790) hx hb dL_law_1790 rfl (lv_at hl 3 rfl) ?_
  refine lv_aload_n (pc := 1791) hx hb dL_law_1791 rfl (lv_at hl 4 rfl) ?_
  refine lv_iload (pc := 1792) hx hb dL_law_1792 (lv_at hl 0 rfl) ?_
  refine lv_iconst (pc := 1794) (v := 1) hx hb dL_law_1794 (by decide) ?_
  refine lv_iadd (pc := 1795) hx hb dL_law_1795 ?_
  refine z_sld (pc := 1796) (j := i + 1) cx hX hsb (Nat.not_le.mpr hsb) hS (by simp only [nI, Int32.ofNat_add] <;> rfl) (by omega) hLL dL_law_1796 ?_
  refine z_callV (pc := 1797) cx vm_X7_price (c_X7_price l E b (wT b E.2.1 xN xT xA xh xd xl xr xo xw xpp xtp xap xsg yN yT yA yh yd yl yr yo yw ypp ytp yap ysg zat zpl zlt zjo zfo zsz zby znu) ig qt qr tbu wst asw pN tN aN (hdC (r 3)) (r 4) (r 5) (r 6) (r 7) wx pp tp ap sg uh ud up ur us ux G (xs (i + 1)) kp so sz el pr ts hSh) (z_rec cx.2 (hW.at 0 rfl) rfl) hW m_ml_L_194 ⟨rfl, rfl⟩ ⟨Nat.le_of_ble_eq_true rfl, Nat.le_of_ble_eq_true rfl⟩ rfl hl.1 rfl (by simp [Value.category]) dL_law_1797 ⟨(by show cells ≤ 660476; omega), (by show slots ≤ 7114676; omega)⟩ ?_
  refine (?_ : W p l e room_1 s m args below meth c H locs cells slots Q (F0 m 1800 ls [.int (priceP kp pr (xs (i + 1)))]))
  refine lv_aload_n (pc := 1800) hx hb dL_law_1800 rfl (lv_at hl 2 rfl) ?_
  refine lv_aload_n (pc := 1801) hx hb dL_law_1801 rfl (lv_at hl 4 rfl) ?_
  refine lv_iload (pc := 1802) hx hb dL_law_1802 (lv_at hl 0 rfl) ?_
  refine lv_iconst (pc := 1804) (v := 1) hx hb dL_law_1804 (by decide) ?_
  refine lv_iadd (pc := 1805) hx hb dL_law_1805 ?_
  refine z_sld (pc := 1806) (j := i + 1) cx hX hsb (Nat.not_le.mpr hsb) hS (by simp only [nI, Int32.ofNat_add] <;> rfl) (by omega) hLL dL_law_1806 ?_
  refine z_callV (pc := 1807) cx vm_X8_price (c_X8_price l E a r im rd wa kp so sz el pr ts nu bu ht th po ba en td ig ij (xs (i + 1)) ) (z_rec cx.2 (hV.at 0 rfl) rfl) hV m_ml_L_197 ⟨rfl, rfl⟩ ⟨Nat.le_of_ble_eq_true rfl, Nat.le_of_ble_eq_true rfl⟩ rfl hl.1 rfl (by simp [Value.category]) dL_law_1807 ⟨(by show cells ≤ 660476; omega), (by show slots ≤ 7114676; omega)⟩ ?_
  refine (?_ : W p l e room_1 s m args below meth c H locs cells slots Q (F0 m 1810 ls [.int (priceP kp pr (xs (i + 1))), .int (priceP kp pr (xs (i + 1)))]))
  refine lv_icmp_eq (pc := 1810) (tgt := 1840) hx hb dL_law_1810 (by decide) (fun _ => ?_) (fun c => absurd rfl c)
  refine W.widen (k := cells + 200) (n := slots + 2000) (by omega) (by omega) ?_
  exact kk r im ig kp so sz el pr ts G H locs ls (lv_sub hl [0, 1, 2, 3, 4] rfl) (CLS.mk hW hG hSh hIm hrp hrt hra hxp hxt hxa hrd hdm hri hwr) ⟨_, _, _, _, _, _, _, _, _, _, _, hV⟩ hO hSG hS
set_option maxHeartbeats 4000000 in
set_option maxRecDepth 100000 in
theorem y_41 (l : Launch) (hst : l.stackTraces = false) {p : Program} {e : Env} {s : State} {m : MethodId} {args : Array Value} {below : List Frame} {meth : Method} {c : Code} {H : Heap} {locs : List Loc} {cells slots : Nat} {Q : State → Prop} {ls : Array Slot} {E : zE} {a b : Nat → Nat} {o sb L i : Nat} {xs : Nat → Int32} {r : Nat → Int32} {im : Nat → Int32} {ig : Bool} {kp : Nat → Int32} {so : Nat → Int32} {sz : Nat → Int32} {el : Nat → Int32} {pr : Nat → Int32} {ts : Nat → Int32} {G : zG} (cx : Cx E p s args m c RL code 8) (hX : va_X sb L xs s s.heap) (hsb : sb < s.heap.size) (hLL : L ≤ 3072) (hi : i + 6 ≤ L) (hLF : LF a b o s.heap.size) (hCE : CE E (FL s.heap.size) s s.heap) (hXE : XE E (FL s.heap.size) s s.heap) (hl : lv_has ls 8 [(4, .int (nI i)), (3, .ref o), (2, .ref (a 0)), (1, .ref (b 0)), (0, .ref sb)]) (hS : va_S (FL s.heap.size) s.heap H locs) (hc1 : cells + 200 ≤ 660476) (hc2 : slots + 2000 ≤ 7114676) (hC : CLS E b r im ig kp so sz el pr ts G H) (hR : REF E a r im ig kp so sz el pr ts H) (hO : OUTc E o H) (hSG : SEP a o s.heap.size G) (kk : ∀ (r : Nat → Int32) (im : Nat → Int32) (ig : Bool) (kp : Nat → Int32) (so : Nat → Int32) (sz : Nat → Int32) (el : Nat → Int32) (pr : Nat → Int32) (ts : Nat → Int32) (G : zG) (H1 : Heap) (locs1 : List Loc) (ls1 : Array Slot), lv_has ls1 8 [(4, .int (nI i)), (3, .ref o), (2, .ref (a 0)), (1, .ref (b 0)), (0, .ref sb)] → CLS E b r im ig kp so sz el pr ts G H1 → REF E a r im ig kp so sz el pr ts H1 → OUTc E o H1 → SEP a o s.heap.size G → va_S (FL s.heap.size) s.heap H1 locs1 → W p l e room_1 s m args below meth c H1 locs1 (cells + 200) (slots + 2000) Q (F0 m 1840 ls1 [])) : W p l e room_1 s m args below meth c H locs cells slots Q (F0 m 1815 ls []) := by
  refine hC.elim (fun qt qr tbu wst asw pN tN aN wx pp tp ap sg uh ud up ur us ux xN xT xA xh xd xl xr xo xw xpp xtp xap xsg yN yT yA yh yd yl yr yo yw ypp ytp yap ysg zat zpl zlt zjo zfo zsz zby znu hW hG hSh hIm hrp hrt hra hxp hxt hxa hrd hdm hri hwr => ?_)
  obtain ⟨rd, wa, nu, bu, ht, th, po, ba, en, td, ij, hV⟩ := hR
  have hx := cx.x
  have hb := cx.b
  refine lv_aload_n (pc := 1815) hx hb dL_law_1815 rfl (lv_at hl 3 rfl) ?_
  refine lv_aload_n (pc := 1816) hx hb dL_law_1816 rfl (lv_at hl 4 rfl) ?_
  refine lv_iload (pc := 1817) hx hb dL_law_1817 (lv_at hl 0 rfl) ?_
  refine lv_iconst (pc := 1819) (v := 1) hx hb dL_law_1819 (by decide) ?_
  refine lv_iadd (pc := 1820) hx hb dL_law_1820 ?_
  refine z_sld (pc := 1821) (j := i + 1) cx hX hsb (Nat.not_le.mpr hsb) hS (by simp only [nI, Int32.ofNat_add] <;> rfl) (by omega) hLL dL_law_1821 ?_
  have hXH := hXE.kept hS.2.1
  refine vx_calli (pc := 1822) (vx_runVX cx.1 (c_X7_toss l hst E b (wT b E.2.1 xN xT xA xh xd xl xr xo xw xpp xtp xap xsg yN yT yA yh yd yl yr yo yw ypp ytp yap ysg zat zpl zlt zjo zfo zsz zby znu) ig qt qr tbu wst asw pN tN aN (hdC (r 3)) (r 4) (r 5) (r 6) (r 7) wx pp tp ap sg uh ud up ur us ux G (FL s.heap.size) (xs (i + 1)) kp so sz el pr ts hSh) (z_cvw cx m_cw_X7_toss m_ml_L_198 m_in_RX7 m_im_X7_toss m_se_X7_X7_toss rfl rfl vd_X7_toss ⟨Nat.le_of_ble_eq_true rfl, Nat.le_of_ble_eq_true rfl⟩) ⟨zPx.blind, z_rec cx.2 (hW.at 0 rfl) rfl, fun U hU hW2 => ⟨rfl, by rw [hU]; exact hW, by rw [hU]; exact hXH.warm hW2, cx.2.warm hW2⟩⟩ rfl rfl hl.1 rfl (by simp [Value.category]) dL_law_1822 ⟨(by show cells + 1 ≤ 660476; omega), (by show slots + 6 ≤ 7114676; omega)⟩) hS (fun _ _ h => h.elim) (fun _ h => h.elim) (fun _ _ h => h.elim) (fun X ce q9 u t H1 locs1 _ _ hf => hf.elim) (fun v u t H locs hH hal hv _ hsz hkp hS => ?_)
  replace hv : v = priceP kp ts (xs (i + 1)) := hv
  subst hv
  have hW := hW.kept (fun q h => hkp q h (fun z => z))
  have hV := hV.kept (fun q h => hkp q h (fun z => z))
  have hO := hO.kept (F1 := nF) (fun q h => hkp q h) (fun z => z)
  refine (?_ : W p l e room_1 s m args below meth c H locs (cells + 1) (slots + 6) Q (F0 m 1825 ls [.int (priceP kp ts (xs (i + 1)))]))
  refine lv_aload_n (pc := 1825) hx hb dL_law_1825 rfl (lv_at hl 2 rfl) ?_
  refine lv_aload_n (pc := 1826) hx hb dL_law_1826 rfl (lv_at hl 4 rfl) ?_
  refine lv_iload (pc := 1827) hx hb dL_law_1827 (lv_at hl 0 rfl) ?_
  refine lv_iconst (pc := 1829) (v := 1) hx hb dL_law_1829 (by decide) ?_
  refine lv_iadd (pc := 1830) hx hb dL_law_1830 ?_
  refine z_sld (pc := 1831) (j := i + 1) cx hX hsb (Nat.not_le.mpr hsb) hS (by simp only [nI, Int32.ofNat_add] <;> rfl) (by omega) hLL dL_law_1831 ?_
  refine z_callV (pc := 1832) cx vm_X8_toss (c_X8_toss l E a r im rd wa kp so sz el pr ts nu bu ht th po ba en td ig ij (xs (i + 1)) ) (z_rec cx.2 (hV.at 0 rfl) rfl) hV m_ml_L_201 ⟨rfl, rfl⟩ ⟨Nat.le_of_ble_eq_true rfl, Nat.le_of_ble_eq_true rfl⟩ rfl hl.1 rfl (by simp [Value.category]) dL_law_1832 ⟨(by show cells + 1 ≤ 660476; omega), (by show slots + 6 ≤ 7114676; omega)⟩ ?_
  refine (?_ : W p l e room_1 s m args below meth c H locs (cells + 1) (slots + 6) Q (F0 m 1835 ls [.int (priceP kp ts (xs (i + 1))), .int (priceP kp ts (xs (i + 1)))]))
  refine lv_icmp_eq (pc := 1835) (tgt := 1840) hx hb dL_law_1835 (by decide) (fun _ => ?_) (fun c => absurd rfl c)
  refine W.widen (k := cells + 200) (n := slots + 2000) (by omega) (by omega) ?_
  exact kk r im ig kp so sz el pr ts G H locs ls (lv_sub hl [0, 1, 2, 3, 4] rfl) (CLS.mk hW hG hSh hIm hrp hrt hra hxp hxt hxa hrd hdm hri hwr) ⟨_, _, _, _, _, _, _, _, _, _, _, hV⟩ hO hSG hS
