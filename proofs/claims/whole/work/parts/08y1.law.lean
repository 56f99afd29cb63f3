set_option maxHeartbeats 4000000 in
set_option maxRecDepth 100000 in
theorem y_12 (l : Launch) (hst : l.stackTraces = false) {p : Program} {e : Env} {s : State} {m : MethodId} {args : Array Value} {below : List Frame} {meth : Method} {c : Code} {H : Heap} {locs : List Loc} {cells slots : Nat} {Q : State → Prop} {ls : Array Slot} {E : zE} {a b : Nat → Nat} {o sb L i : Nat} {xs : Nat → Int32} {r : Nat → Int32} {im : Nat → Int32} {ig : Bool} {kp : Nat → Int32} {so : Nat → Int32} {sz : Nat → Int32} {el : Nat → Int32} {pr : Nat → Int32} {ts : Nat → Int32} {G : zG} (cx : Cx E p s args m c RL code 8) (hX : va_X sb L xs s s.heap) (hsb : sb < s.heap.size) (hLL : L ≤ 3072) (hi : i + 6 ≤ L) (hLF : LF a b o s.heap.size) (hCE : CE E (FL s.heap.size) s s.heap) (hXE : XE E (FL s.heap.size) s s.heap) (hl : lv_has ls 8 [(4, .int (nI i)), (3, .ref o), (2, .ref (a 0)), (1, .ref (b 0)), (0, .ref sb)]) (hS : va_S (FL s.heap.size) s.heap H locs) (hc1 : cells + 200 ≤ 660476) (hc2 : slots + 2000 ≤ 7114676) (hC : CLS E b r im ig kp so sz el pr ts G H) (hR : REF E a r im ig kp so sz el pr ts H) (hO : OUTc E o H) (hSG : SEP a o s.heap.size G) (kk : ∀ (r : Nat → Int32) (im : Nat → Int32) (ig : Bool) (kp : Nat → Int32) (so : Nat → Int32) (sz : Nat → Int32) (el : Nat → Int32) (pr : Nat → Int32) (ts : Nat → Int32) (G : zG) (H1 : Heap) (locs1 : List Loc) (ls1 : Array Slot), lv_has ls1 8 [(4, .int (nI i)), (3, .ref o), (2, .ref (a 0)), (1, .ref (b 0)), (0, .ref sb)] → CLS E b r im ig kp so sz el pr ts G H1 → REF E a r im ig kp so sz el pr ts H1 → OUTc E o H1 → SEP a o s.heap.size G → va_S (FL s.heap.size) s.heap H1 locs1 → W p l e room_1 s m args below meth c H1 locs1 (cells + 200) (slots + 2000) Q (F0 m 1840 ls1 [])) : W p l e room_1 s m args below meth c H locs cells slots Q (F0 m 704 ls []) := by
  refine hC.elim (fun qt qr tbu wst asw pN tN aN wx pp tp ap sg uh ud up ur us ux xN xT xA xh xd xl xr xo xw xpp xtp xap xsg yN yT yA yh yd yl yr yo yw ypp ytp yap ysg zat zpl zlt zjo zfo zsz zby znu hW hG hSh hIm hrp hrt hra hxp hxt hxa hrd hdm hri hwr => ?_)
  obtain ⟨rd, wa, nu, bu, ht, th, po, ba, en, td, ij, hV⟩ := hR
  have hx := cx.x
  have hb := cx.b
  by_cases hb3 : xs (i + 3) = 0
  · skip
    refine lv_aload_n (pc := 704) hx hb dL_law_704 rfl (lv_at hl 3 rfl) ?_
    refine lv_aload_n (pc := 705) hx hb dL_law_705 rfl (lv_at hl 4 rfl) ?_
    refine lv_iload (pc := 706) hx hb dL_law_706 (lv_at hl 0 rfl) ?_
    refine lv_iconst (pc := 708) (v := 1) hx hb dL_law_708 (by decide) ?_
    refine lv_iadd (pc := 709) hx hb dL_law_709 ?_
    refine z_sld (pc := 710) (j := i + 1) cx hX hsb (Nat.not_le.mpr hsb) hS (by simp only [nI, Int32.ofNat_add] <;> rfl) (by omega) hLL dL_law_710 ?_
    refine lv_aload_n (pc := 711) hx hb dL_law_711 rfl (lv_at hl 4 rfl) ?_
    refine lv_iload (pc := 712) hx hb dL_law_712 (lv_at hl 0 rfl) ?_
    refine lv_iconst (pc := 714) (v := 2) hx hb dL_law_714 (by decide) ?_
    refine lv_iadd (pc := 715) hx hb dL_law_715 ?_
    refine z_sld (pc := 716) (j := i + 2) cx hX hsb (Nat.not_le.mpr hsb) hS (by simp only [nI, Int32.ofNat_add] <;> rfl) (by omega) hLL dL_law_716 ?_
    refine lv_aload_n (pc := 717) hx hb dL_law_717 rfl (lv_at hl 4 rfl) ?_
    refine lv_iload (pc := 718) hx hb dL_law_718 (lv_at hl 0 rfl) ?_
    refine lv_iconst (pc := 720) (v := 3) hx hb dL_law_720 (by decide) ?_
    refine lv_iadd (pc := 721) hx hb dL_law_721 ?_
    refine z_sld (pc := 722) (j := i + 3) cx hX hsb (Nat.not_le.mpr hsb) hS (by simp only [nI, Int32.ofNat_add] <;> rfl) (by omega) hLL dL_law_722 ?_
    refine lv_if_eq (pc := 723) (tgt := 730) hx hb dL_law_723 (by decide) (fun _ => ?_) (fun c => absurd hb3 c)
    refine lv_iconst (pc := 730) (v := 0) hx hb dL_law_730 (by decide) ?_
    have hVN := hV.refN hLF.2.2.2.2.2.2
    have hON := hO.lt
    have hSN := hS.1
    refine z_callVw (pc := 731) cx vm_X7_ask (c_X7_ask l E b (wT b E.2.1 xN xT xA xh xd xl xr xo xw xpp xtp xap xsg yN yT yA yh yd yl yr yo yw ypp ytp yap ysg zat zpl zlt zjo zfo zsz zby znu) ig qt qr tbu wst asw pN tN aN wx pp tp ap sg uh ud up ur us ux G H.size (xs (i + 1)) (xs (i + 2)) false r hG) (z_rec cx.2 (hW.at 0 rfl) rfl) ⟨hW, rfl⟩ hS (fun q h => h.elim (fun ⟨k, hk⟩ => by rw [hk]; exact hLF.2.2.2.1 k) (fun g => Nat.le_trans hS.1 g)) m_ml_L_73 ⟨rfl, rfl⟩ ⟨Nat.le_of_ble_eq_true rfl, Nat.le_of_ble_eq_true rfl⟩ rfl hl.1 rfl (by simp [Value.category]) dL_law_731 ⟨(by show cells + 3 ≤ 660476; omega), (by show slots + 21 ≤ 7114676; omega)⟩ (fun v H locs hq hS hk2 => ?_)
    rcases hq with ⟨rfl, hno, hW2⟩ | ⟨q9, t9, w9, G2, sg2, rfl, hys, hGL, hG2, hgq, hgt, hfw, hng, hW2⟩
    · skip
      have hW : WW E (wK b E.2.1 (wT b E.2.1 xN xT xA xh xd xl xr xo xw xpp xtp xap xsg yN yT yA yh yd yl yr yo yw ypp ytp yap ysg zat zpl zlt zjo zfo zsz zby znu) ig qt qr tbu wst asw pN tN aN (hdC (r 3)) (r 4) (r 5) (r 6) (r 7) wx pp tp ap sg uh ud up ur us ux) G H := hW2
      have hV := hV.refK hk2.2 (fun j h => h.elim (fun ⟨k, hk⟩ => hLF.1 j k hk) (fun g => absurd (hVN j) (Nat.not_lt.mpr g)))
      have hO := hO.kept hk2.2 (fun h => h.elim (fun ⟨k, hk⟩ => hLF.2.1 k hk) (fun g => absurd hON (Nat.not_lt.mpr g)))
      refine (?_ : W p l e room_1 s m args below meth c H locs (cells + 3) (slots + 21) Q (F0 m 734 ls [.int (askR r (xs (i + 1)) (xs (i + 2)))]))
      refine lv_aload_n (pc := 734) hx hb dL_law_734 rfl (lv_at hl 2 rfl) ?_
      refine lv_aload_n (pc := 735) hx hb dL_law_735 rfl (lv_at hl 4 rfl) ?_
      refine lv_iload (pc := 736) hx hb dL_law_736 (lv_at hl 0 rfl) ?_
      refine lv_iconst (pc := 738) (v := 1) hx hb dL_law_738 (by decide) ?_
      refine lv_iadd (pc := 739) hx hb dL_law_739 ?_
      refine z_sld (pc := 740) (j := i + 1) cx hX hsb (Nat.not_le.mpr hsb) hS (by simp only [nI, Int32.ofNat_add] <;> rfl) (by omega) hLL dL_law_740 ?_
      refine lv_aload_n (pc := 741) hx hb dL_law_741 rfl (lv_at hl 4 rfl) ?_
      refine lv_iload (pc := 742) hx hb dL_law_742 (lv_at hl 0 rfl) ?_
      refine lv_iconst (pc := 744) (v := 2) hx hb dL_law_744 (by decide) ?_
      refine lv_iadd (pc := 745) hx hb dL_law_745 ?_
      refine z_sld (pc := 746) (j := i + 2) cx hX hsb (Nat.not_le.mpr hsb) hS (by simp only [nI, Int32.ofNat_add] <;> rfl) (by omega) hLL dL_law_746 ?_
      refine lv_aload_n (pc := 747) hx hb dL_law_747 rfl (lv_at hl 4 rfl) ?_
      refine lv_iload (pc := 748) hx hb dL_law_748 (lv_at hl 0 rfl) ?_
      refine lv_iconst (pc := 750) (v := 3) hx hb dL_law_750 (by decide) ?_
      refine lv_iadd (pc := 751) hx hb dL_law_751 ?_
      refine z_sld (pc := 752) (j := i + 3) cx hX hsb (Nat.not_le.mpr hsb) hS (by simp only [nI, Int32.ofNat_add] <;> rfl) (by omega) hLL dL_law_752 ?_
      refine lv_if_eq (pc := 753) (tgt := 760) hx hb dL_law_753 (by decide) (fun _ => ?_) (fun c => absurd hb3 c)
      refine lv_iconst (pc := 760) (v := 0) hx hb dL_law_760 (by decide) ?_
      refine z_callVw (pc := 761) cx vm_X8_ask (c_X8_ask l E a r im rd wa kp so sz el pr ts nu bu ht th po ba en td ig ij (xs (i + 1)) (xs (i + 2)) false hG.1) (z_rec cx.2 (hV.at 0 rfl) rfl) hV hS (fun q ⟨k, hk⟩ => by rw [hk]; exact hLF.2.2.2.2.1 k) m_ml_L_77 ⟨rfl, rfl⟩ ⟨Nat.le_of_ble_eq_true rfl, Nat.le_of_ble_eq_true rfl⟩ rfl hl.1 rfl (by simp [Value.category]) dL_law_761 ⟨(by show cells + 3 ≤ 660476; omega), (by show slots + 21 ≤ 7114676; omega)⟩ (fun v H locs hq hS hk2 => ?_)
      obtain ⟨rfl, hV2⟩ := hq
      have hV : WW E (wM a (E.2.1 0) (askS r (xs (i + 1)) (xs (i + 2)) false) im rd wa kp so sz el pr ts nu bu ht (bI ig) th po ba en td (bI ij)) gN H := hV2
      have hW := hW.clsK hk2.2 (fun k ⟨j, hj⟩ => hLF.1 j k hj.symm) (fun z e hz ⟨j, hj⟩ => (hSG z e hz).2.1 j hj)
      have hO := hO.kept hk2.2 (fun ⟨j, hj⟩ => hLF.2.2.1 j hj)
      rw [hno] at hV
      refine (?_ : W p l e room_1 s m args below meth c H locs (cells + 3 + 0) (slots + 21 + 0) Q (F0 m 764 ls [.int (askR r (xs (i + 1)) (xs (i + 2))), .int (askR r (xs (i + 1)) (xs (i + 2)))]))
      refine lv_icmp_eq (pc := 764) (tgt := 1840) hx hb dL_law_764 (by decide) (fun _ => ?_) (fun c => absurd rfl c)
      refine W.widen (k := cells + 200) (n := slots + 2000) (by omega) (by omega) ?_
      exact kk r im ig kp so sz el pr ts G H locs ls (lv_sub hl [0, 1, 2, 3, 4] rfl) (CLS.mk hW hG hSh hIm hrp hrt hra hxp hxt hxa hrd hdm hri hwr) ⟨_, _, _, _, _, _, _, _, _, _, _, hV⟩ hO hSG hS
    · skip
      have hW : WW E (wK b E.2.1 (wT b E.2.1 xN xT xA xh xd xl xr xo xw xpp xtp xap xsg yN yT yA yh yd yl yr yo yw ypp ytp yap ysg zat zpl zlt zjo zfo zsz zby znu) ig qt qr tbu wst asw pN tN (nI (nA r + 1)) (hdC ((akS r (xs (i + 1)) (xs (i + 2)) false) 3)) ((akS r (xs (i + 1)) (xs (i + 2)) false) 4) ((akS r (xs (i + 1)) (xs (i + 2)) false) 5) ((akS r (xs (i + 1)) (xs (i + 2)) false) 6) ((akS r (xs (i + 1)) (xs (i + 2)) false) 7) wx pp tp (va_up ap (nA r) (some q9)) sg2 uh ud up ur us ux) G2 H := hW2
      have hV := hV.refK hk2.2 (fun j h => h.elim (fun ⟨k, hk⟩ => hLF.1 j k hk) (fun g => absurd (hVN j) (Nat.not_lt.mpr g)))
      have hO := hO.kept hk2.2 (fun h => h.elim (fun ⟨k, hk⟩ => hLF.2.1 k hk) (fun g => absurd hON (Nat.not_lt.mpr g)))
      have hSG2 := hSG.fr hng hSN hON hVN
      refine (?_ : W p l e room_1 s m args below meth c H locs (cells + 3) (slots + 21) Q (F0 m 734 ls [.int (askR r (xs (i + 1)) (xs (i + 2)))]))
      refine lv_aload_n (pc := 734) hx hb dL_law_734 rfl (lv_at hl 2 rfl) ?_
      refine lv_aload_n (pc := 735) hx hb dL_law_735 rfl (lv_at hl 4 rfl) ?_
      refine lv_iload (pc := 736) hx hb dL_law_736 (lv_at hl 0 rfl) ?_
      refine lv_iconst (pc := 738) (v := 1) hx hb dL_law_738 (by decide) ?_
      refine lv_iadd (pc := 739) hx hb dL_law_739 ?_
      refine z_sld (pc := 740) (j := i + 1) cx hX hsb (Nat.not_le.mpr hsb) hS (by simp only [nI, Int32.ofNat_add] <;> rfl) (by omega) hLL dL_law_740 ?_
      refine lv_aload_n (pc := 741) hx hb dL_law_741 rfl (lv_at hl 4 rfl) ?_
      refine lv_iload (pc := 742) hx hb dL_law_742 (lv_at hl 0 rfl) ?_
      refine lv_iconst (pc := 744) (v := 2) hx hb dL_law_744 (by decide) ?_
      refine lv_iadd (pc := 745) hx hb dL_law_745 ?_
      refine z_sld (pc := 746) (j := i + 2) cx hX hsb (Nat.not_le.mpr hsb) hS (by simp only [nI, Int32.ofNat_add] <;> rfl) (by omega) hLL dL_law_746 ?_
      refine lv_aload_n (pc := 747) hx hb dL_law_747 rfl (lv_at hl 4 rfl) ?_
      refine lv_iload (pc := 748) hx hb dL_law_748 (lv_at hl 0 rfl) ?_
      refine lv_iconst (pc := 750) (v := 3) hx hb dL_law_750 (by decide) ?_
      refine lv_iadd (pc := 751) hx hb dL_law_751 ?_
      refine z_sld (pc := 752) (j := i + 3) cx hX hsb (Nat.not_le.mpr hsb) hS (by simp only [nI, Int32.ofNat_add] <;> rfl) (by omega) hLL dL_law_752 ?_
      refine lv_if_eq (pc := 753) (tgt := 760) hx hb dL_law_753 (by decide) (fun _ => ?_) (fun c => absurd hb3 c)
      refine lv_iconst (pc := 760) (v := 0) hx hb dL_law_760 (by decide) ?_
      refine z_callVw (pc := 761) cx vm_X8_ask (c_X8_ask l E a r im rd wa kp so sz el pr ts nu bu ht th po ba en td ig ij (xs (i + 1)) (xs (i + 2)) false hG.1) (z_rec cx.2 (hV.at 0 rfl) rfl) hV hS (fun q ⟨k, hk⟩ => by rw [hk]; exact hLF.2.2.2.2.1 k) m_ml_L_77 ⟨rfl, rfl⟩ ⟨Nat.le_of_ble_eq_true rfl, Nat.le_of_ble_eq_true rfl⟩ rfl hl.1 rfl (by simp [Value.category]) dL_law_761 ⟨(by show cells + 3 ≤ 660476; omega), (by show slots + 21 ≤ 7114676; omega)⟩ (fun v H locs hq hS hk2 => ?_)
      obtain ⟨rfl, hV2⟩ := hq
      have hV : WW E (wM a (E.2.1 0) (askS r (xs (i + 1)) (xs (i + 2)) false) im rd wa kp so sz el pr ts nu bu ht (bI ig) th po ba en td (bI ij)) gN H := hV2
      have hW := hW.clsK hk2.2 (fun k ⟨j, hj⟩ => hLF.1 j k hj.symm) (fun z e hz ⟨j, hj⟩ => (hSG2 z e hz).2.1 j hj)
      have hO := hO.kept hk2.2 (fun ⟨j, hj⟩ => hLF.2.2.1 j hj)
      rw [hys] at hV
      refine (?_ : W p l e room_1 s m args below meth c H locs (cells + 3 + 0) (slots + 21 + 0) Q (F0 m 764 ls [.int (askR r (xs (i + 1)) (xs (i + 2))), .int (askR r (xs (i + 1)) (xs (i + 2)))]))
      refine lv_icmp_eq (pc := 764) (tgt := 1840) hx hb dL_law_764 (by decide) (fun _ => ?_) (fun c => absurd rfl c)
      refine W.widen (k := cells + 200) (n := slots + 2000) (by omega) (by omega) ?_
      exact kk (akS r (xs (i + 1)) (xs (i + 2)) false) im ig kp so sz el pr ts G2 H locs ls (lv_sub hl [0, 1, 2, 3, 4] rfl) (CLS.mk hW hG2 (hSh.mono hGL) (hIm.mono hGL hdm) (hrp.mono hGL) (hrt.mono hGL) (RfG_up (hra.mono hGL) hgq) (hxp.mono hGL) (hxt.mono hGL) (hxa.mono hGL) (hrd.mono hdm hGL) (hdm.mono hGL) (hri.mono hdm hGL) (hwr.ask hG hGL hdm hri (CG_nA1 hG hG2) hgq hgt hfw)) ⟨_, _, _, _, _, _, _, _, _, _, _, hV⟩ hO hSG2 hS
  · skip
    refine lv_aload_n (pc := 704) hx hb dL_law_704 rfl (lv_at hl 3 rfl) ?_
    refine lv_aload_n (pc := 705) hx hb dL_law_705 rfl (lv_at hl 4 rfl) ?_
    refine lv_iload (pc := 706) hx hb dL_law_706 (lv_at hl 0 rfl) ?_
    refine lv_iconst (pc := 708) (v := 1) hx hb dL_law_708 (by decide) ?_
    refine lv_iadd (pc := 709) hx hb dL_law_709 ?_
    refine z_sld (pc := 710) (j := i + 1) cx hX hsb (Nat.not_le.mpr hsb) hS (by simp only [nI, Int32.ofNat_add] <;> rfl) (by omega) hLL dL_law_710 ?_
    refine lv_aload_n (pc := 711) hx hb dL_law_711 rfl (lv_at hl 4 rfl) ?_
    refine lv_iload (pc := 712) hx hb dL_law_712 (lv_at hl 0 rfl) ?_
    refine lv_iconst (pc := 714) (v := 2) hx hb dL_law_714 (by decide) ?_
    refine lv_iadd (pc := 715) hx hb dL_law_715 ?_
    refine z_sld (pc := 716) (j := i + 2) cx hX hsb (Nat.not_le.mpr hsb) hS (by simp only [nI, Int32.ofNat_add] <;> rfl) (by omega) hLL dL_law_716 ?_
    refine lv_aload_n (pc := 717) hx hb dL_law_717 rfl (lv_at hl 4 rfl) ?_
    refine lv_iload (pc := 718) hx hb dL_law_718 (lv_at hl 0 rfl) ?_
    refine lv_iconst (pc := 720) (v := 3) hx hb dL_law_720 (by decide) ?_
    refine lv_iadd (pc := 721) hx hb dL_law_721 ?_
    refine z_sld (pc := 722) (j := i + 3) cx hX hsb (Nat.not_le.mpr hsb) hS (by simp only [nI, Int32.ofNat_add] <;> rfl) (by omega) hLL dL_law_722 ?_
    refine lv_if_eq (pc := 723) (tgt := 730) hx hb dL_law_723 (by decide) (fun c => absurd c hb3) (fun _ => ?_)
    refine lv_iconst (pc := 726) (v := 1) hx hb dL_law_726 (by decide) ?_
    refine lv_goto (pc := 727) (tgt := 731) hx hb dL_law_727 (by decide) ?_
    have hVN := hV.refN hLF.2.2.2.2.2.2
    have hON := hO.lt
    have hSN := hS.1
    refine z_callVw (pc := 731) cx vm_X7_ask (c_X7_ask l E b (wT b E.2.1 xN xT xA xh xd xl xr xo xw xpp xtp xap xsg yN yT yA yh yd yl yr yo yw ypp ytp yap ysg zat zpl zlt zjo zfo zsz zby znu) ig qt qr tbu wst asw pN tN aN wx pp tp ap sg uh ud up ur us ux G H.size (xs (i + 1)) (xs (i + 2)) true r hG) (z_rec cx.2 (hW.at 0 rfl) rfl) ⟨hW, rfl⟩ hS (fun q h => h.elim (fun ⟨k, hk⟩ => by rw [hk]; exact hLF.2.2.2.1 k) (fun g => Nat.le_trans hS.1 g)) m_ml_L_73 ⟨rfl, rfl⟩ ⟨Nat.le_of_ble_eq_true rfl, Nat.le_of_ble_eq_true rfl⟩ rfl hl.1 rfl (by simp [Value.category]) dL_law_731 ⟨(by show cells + 3 ≤ 660476; omega), (by show slots + 21 ≤ 7114676; omega)⟩ (fun v H locs hq hS hk2 => ?_)
    rcases hq with ⟨rfl, hno, hW2⟩ | ⟨q9, t9, w9, G2, sg2, rfl, hys, hGL, hG2, hgq, hgt, hfw, hng, hW2⟩
    · skip
      have hW : WW E (wK b E.2.1 (wT b E.2.1 xN xT xA xh xd xl xr xo xw xpp xtp xap xsg yN yT yA yh yd yl yr yo yw ypp ytp yap ysg zat zpl zlt zjo zfo zsz zby znu) ig qt qr tbu wst asw pN tN aN (hdC (r 3)) (r 4) (r 5) (r 6) (r 7) wx pp tp ap sg uh ud up ur us ux) G H := hW2
      have hV := hV.refK hk2.2 (fun j h => h.elim (fun ⟨k, hk⟩ => hLF.1 j k hk) (fun g => absurd (hVN j) (Nat.not_lt.mpr g)))
      have hO := hO.kept hk2.2 (fun h => h.elim (fun ⟨k, hk⟩ => hLF.2.1 k hk) (fun g => absurd hON (Nat.not_lt.mpr g)))
      refine (?_ : W p l e room_1 s m args below meth c H locs (cells + 3) (slots + 21) Q (F0 m 734 ls [.int (askR r (xs (i + 1)) (xs (i + 2)))]))
      refine lv_aload_n (pc := 734) hx hb dL_law_734 rfl (lv_at hl 2 rfl) ?_
      refine lv_aload_n (pc := 735) hx hb dL_law_735 rfl (lv_at hl 4 rfl) ?_
      refine lv_iload (pc := 736) hx hb dL_law_736 (lv_at hl 0 rfl) ?_
      refine lv_iconst (pc := 738) (v := 1) hx hb dL_law_738 (by decide) ?_
      refine lv_iadd (pc := 739) hx hb dL_law_739 ?_
      refine z_sld (pc := 740) (j := i + 1) cx hX hsb (Nat.not_le.mpr hsb) hS (by simp only [nI, Int32.ofNat_add] <;> rfl) (by omega) hLL dL_law_740 ?_
      refine lv_aload_n (pc := 741) hx hb dL_law_741 rfl (lv_at hl 4 rfl) ?_
      refine lv_iload (pc := 742) hx hb dL_law_742 (lv_at hl 0 rfl) ?_
      refine lv_iconst (pc := 744) (v := 2) hx hb dL_law_744 (by decide) ?_
      refine lv_iadd (pc := 745) hx hb dL_law_745 ?_
      refine z_sld (pc := 746) (j := i + 2) cx hX hsb (Nat.not_le.mpr hsb) hS (by simp only [nI, Int32.ofNat_add] <;> rfl) (by omega) hLL dL_law_746 ?_
      refine lv_aload_n (pc := 747) hx hb dL_law_747 rfl (lv_at hl 4 rfl) ?_
      refine lv_iload (pc := 748) hx hb dL_law_748 (lv_at hl 0 rfl) ?_
      refine lv_iconst (pc := 750) (v := 3) hx hb dL_law_750 (by decide) ?_
      refine lv_iadd (pc := 751) hx hb dL_law_751 ?_
      refine z_sld (pc := 752) (j := i + 3) cx hX hsb (Nat.not_le.mpr hsb) hS (by simp only [nI, Int32.ofNat_add] <;> rfl) (by omega) hLL dL_law_752 ?_
      refine lv_if_eq (pc := 753) (tgt := 760) hx hb dL_law_753 (by decide) (fun c => absurd c hb3) (fun _ => ?_)
      refine lv_iconst (pc := 756) (v := 1) hx hb dL_law_756 (by decide) ?_
      refine lv_goto (pc := 757) (tgt := 761) hx hb dL_law_757 (by decide) ?_
      refine z_callVw (pc := 761) cx vm_X8_ask (c_X8_ask l E a r im rd wa kp so sz el pr ts nu bu ht th po ba en td ig ij (xs (i + 1)) (xs (i + 2)) true hG.1) (z_rec cx.2 (hV.at 0 rfl) rfl) hV hS (fun q ⟨k, hk⟩ => by rw [hk]; exact hLF.2.2.2.2.1 k) m_ml_L_77 ⟨rfl, rfl⟩ ⟨Nat.le_of_ble_eq_true rfl, Nat.le_of_ble_eq_true rfl⟩ rfl hl.1 rfl (by simp [Value.category]) dL_law_761 ⟨(by show cells + 3 ≤ 660476; omega), (by show slots + 21 ≤ 7114676; omega)⟩ (fun v H locs hq hS hk2 => ?_)
      obtain ⟨rfl, hV2⟩ := hq
      have hV : WW E (wM a (E.2.1 0) (askS r (xs (i + 1)) (xs (i + 2)) true) im rd wa kp so sz el pr ts nu bu ht (bI ig) th po ba en td (bI ij)) gN H := hV2
      have hW := hW.clsK hk2.2 (fun k ⟨j, hj⟩ => hLF.1 j k hj.symm) (fun z e hz ⟨j, hj⟩ => (hSG z e hz).2.1 j hj)
      have hO := hO.kept hk2.2 (fun ⟨j, hj⟩ => hLF.2.2.1 j hj)
      rw [hno] at hV
      refine (?_ : W p l e room_1 s m args below meth c H locs (cells + 3 + 0) (slots + 21 + 0) Q (F0 m 764 ls [.int (askR r (xs (i + 1)) (xs (i + 2))), .int (askR r (xs (i + 1)) (xs (i + 2)))]))
      refine lv_icmp_eq (pc := 764) (tgt := 1840) hx hb dL_law_764 (by decide) (fun _ => ?_) (fun c => absurd rfl c)
      refine W.widen (k := cells + 200) (n := slots + 2000) (by omega) (by omega) ?_
      exact kk r im ig kp so sz el pr ts G H locs ls (lv_sub hl [0, 1, 2, 3, 4] rfl) (CLS.mk hW hG hSh hIm hrp hrt hra hxp hxt hxa hrd hdm hri hwr) ⟨_, _, _, _, _, _, _, _, _, _, _, hV⟩ hO hSG hS
    · skip
      have hW : WW E (wK b E.2.1 (wT b E.2.1 xN xT xA xh xd xl xr xo xw xpp xtp xap xsg yN yT yA yh yd yl yr yo yw ypp ytp yap ysg zat zpl zlt zjo zfo zsz zby znu) ig qt qr tbu wst asw pN tN (nI (nA r + 1)) (hdC ((akS r (xs (i + 1)) (xs (i + 2)) true) 3)) ((akS r (xs (i + 1)) (xs (i + 2)) true) 4) ((akS r (xs (i + 1)) (xs (i + 2)) true) 5) ((akS r (xs (i + 1)) (xs (i + 2)) true) 6) ((akS r (xs (i + 1)) (xs (i + 2)) true) 7) wx pp tp (va_up ap (nA r) (some q9)) sg2 uh ud up ur us ux) G2 H := hW2
      have hV := hV.refK hk2.2 (fun j h => h.elim (fun ⟨k, hk⟩ => hLF.1 j k hk) (fun g => absurd (hVN j) (Nat.not_lt.mpr g)))
      have hO := hO.kept hk2.2 (fun h => h.elim (fun ⟨k, hk⟩ => hLF.2.1 k hk) (fun g => absurd hON (Nat.not_lt.mpr g)))
      have hSG2 := hSG.fr hng hSN hON hVN
      refine (?_ : W p l e room_1 s m args below meth c H locs (cells + 3) (slots + 21) Q (F0 m 734 ls [.int (askR r (xs (i + 1)) (xs (i + 2)))]))
      refine lv_aload_n (pc := 734) hx hb dL_law_734 rfl (lv_at hl 2 rfl) ?_
      refine lv_aload_n (pc := 735) hx hb dL_law_735 rfl (lv_at hl 4 rfl) ?_
      refine lv_iload (pc := 736) hx hb dL_law_736 (lv_at hl 0 rfl) ?_
      refine lv_iconst (pc := 738) (v := 1) hx hb dL_law_738 (by decide) ?_
      refine lv_iadd (pc := 739) hx hb dL_law_739 ?_
      refine z_sld (pc := 740) (j := i + 1) cx hX hsb (Nat.not_le.mpr hsb) hS (by simp only [nI, Int32.ofNat_add] <;> rfl) (by omega) hLL dL_law_740 ?_
      refine lv_aload_n (pc := 741) hx hb dL_law_741 rfl (lv_at hl 4 rfl) ?_
      refine lv_iload (pc := 742) hx hb dL_law_742 (lv_at hl 0 rfl) ?_
      refine lv_iconst (pc := 744) (v := 2) hx hb dL_law_744 (by decide) ?_
      refine lv_iadd (pc := 745) hx hb dL_law_745 ?_
      refine z_sld (pc := 746) (j := i + 2) cx hX hsb (Nat.not_le.mpr hsb) hS (by simp only [nI, Int32.ofNat_add] <;> rfl) (by omega) hLL dL_law_746 ?_
      refine lv_aload_n (pc := 747) hx hb dL_law_747 rfl (lv_at hl 4 rfl) ?_
      refine lv_iload (pc := 748) hx hb dL_law_748 (lv_at hl 0 rfl) ?_
      refine lv_iconst (pc := 750) (v := 3) hx hb dL_law_750 (by decide) ?_
      refine lv_iadd (pc := 751) hx hb dL_law_751 ?_
      refine z_sld (pc := 752) (j := i + 3) cx hX hsb (Nat.not_le.mpr hsb) hS (by simp only [nI, Int32.ofNat_add] <;> rfl) (by omega) hLL dL_law_752 ?_
      refine lv_if_eq (pc := 753) (tgt := 760) hx hb dL_law_753 (by decide) (fun c => absurd c hb3) (fun _ => ?_)
      refine lv_iconst (pc := 756) (v := 1) hx hb dL_law_756 (by decide) ?_
      refine lv_goto (pc := 757) (tgt := 761) hx hb dL_law_757 (by decide) ?_
      refine z_callVw (pc := 761) cx vm_X8_ask (c_X8_ask l E a r im rd wa kp so sz el pr ts nu bu ht th po ba en td ig ij (xs (i + 1)) (xs (i + 2)) true hG.1) (z_rec cx.2 (hV.at 0 rfl) rfl) hV hS (fun q ⟨k, hk⟩ => by rw [hk]; exact hLF.2.2.2.2.1 k) m_ml_L_77 ⟨rfl, rfl⟩ ⟨Nat.le_of_ble_eq_true rfl, Nat.le_of_ble_eq_true rfl⟩ rfl hl.1 rfl (by simp [Value.category]) dL_law_761 ⟨(by show cells + 3 ≤ 660476; omega), (by show slots + 21 ≤ 7114676; omega)⟩ (fun v H locs hq hS hk2 => ?_)
      obtain ⟨rfl, hV2⟩ := hq
      have hV : WW E (wM a (E.2.1 0) (askS r (xs (i + 1)) (xs (i + 2)) true) im rd wa kp so sz el pr ts nu bu ht (bI ig) th po ba en td (bI ij)) gN H := hV2
      have hW := hW.clsK hk2.2 (fun k ⟨j, hj⟩ => hLF.1 j k hj.symm) (fun z e hz ⟨j, hj⟩ => (hSG2 z e hz).2.1 j hj)
      have hO := hO.kept hk2.2 (fun ⟨j, hj⟩ => hLF.2.2.1 j hj)
      rw [hys] at hV
      refine (?_ : W p l e room_1 s m args below meth c H locs (cells + 3 + 0) (slots + 21 + 0) Q (F0 m 764 ls [.int (askR r (xs (i + 1)) (xs (i + 2))), .int (askR r (xs (i + 1)) (xs (i + 2)))]))
      refine lv_icmp_eq (pc := 764) (tgt := 1840) hx hb dL_law_764 (by decide) (fun _ => ?_) (fun c => absurd rfl c)
      refine W.widen (k := cells + 200) (n := slots + 2000) (by omega) (by omega) ?_
      exact kk (akS r (xs (i + 1)) (xs (i + 2)) true) im ig kp so sz el pr ts G2 H locs ls (lv_sub hl [0, 1, 2, 3, 4] rfl) (CLS.mk hW hG2 (hSh.mono hGL) (hIm.mono hGL hdm) (hrp.mono hGL) (hrt.mono hGL) (RfG_up (hra.mono hGL) hgq) (hxp.mono hGL) (hxt.mono hGL) (hxa.mono hGL) (hrd.mono hdm hGL) (hdm.mono hGL) (hri.mono hdm hGL) (hwr.ask hG hGL hdm hri (CG_nA1 hG hG2) hgq hgt hfw)) ⟨_, _, _, _, _, _, _, _, _, _, _, hV⟩ hO hSG2 hS
set_option maxHeartbeats 4000000 in
set_option maxRecDepth 100000 in
theorem y_13 (l : Launch) (hst : l.stackTraces = false) {p : Program} {e : Env} {s : State} {m : MethodId} {args : Array Value} {below : List Frame} {meth : Method} {c : Code} {H : Heap} {locs : List Loc} {cells slots : Nat} {Q : State → Prop} {ls : Array Slot} {E : zE} {a b : Nat → Nat} {o sb L i : Nat} {xs : Nat → Int32} {r : Nat → Int32} {im : Nat → Int32} {ig : Bool} {kp : Nat → Int32} {so : Nat → Int32} {sz : Nat → Int32} {el : Nat → Int32} {pr : Nat → Int32} {ts : Nat → Int32} {G : zG} (cx : Cx E p s args m c RL code 8) (hX : va_X sb L xs s s.heap) (hsb : sb < s.heap.size) (hLL : L ≤ 3072) (hi : i + 6 ≤ L) (hLF : LF a b o s.heap.size) (hCE : CE E (FL s.heap.size) s s.heap) (hXE : XE E (FL s.heap.size) s s.heap) (hl : lv_has ls 8 [(4, .int (nI i)), (3, .ref o), (2, .ref (a 0)), (1, .ref (b 0)), (0, .ref sb)]) (hS : va_S (FL s.heap.size) s.heap H locs) (hc1 : cells + 200 ≤ 660476) (hc2 : slots + 2000 ≤ 7114676) (hC : CLS E b r im ig kp so sz el pr ts G H) (hR : REF E a r im ig kp so sz el pr ts H) (hO : OUTc E o H) (hSG : SEP a o s.heap.size G) (kk : ∀ (r : Nat → Int32) (im : Nat → Int32) (ig : Bool) (kp : Nat → Int32) (so : Nat → Int32) (sz : Nat → Int32) (el : Nat → Int32) (pr : Nat → Int32) (ts : Nat → Int32) (G : zG) (H1 : Heap) (locs1 : List Loc) (ls1 : Array Slot), lv_has ls1 8 [(4, .int (nI i)), (3, .ref o), (2, .ref (a 0)), (1, .ref (b 0)), (0, .ref sb)] → CLS E b r im ig kp so sz el pr ts G H1 → REF E a r im ig kp so sz el pr ts H1 → OUTc E o H1 → SEP a o s.heap.size G → va_S (FL s.heap.size) s.heap H1 locs1 → W p l e room_1 s m args below meth c H1 locs1 (cells + 200) (slots + 2000) Q (F0 m 1840 ls1 [])) : W p l e room_1 s m args below meth c H locs cells slots Q (F0 m 769 ls []) := by
  refine hC.elim (fun qt qr tbu wst asw pN tN aN wx pp tp ap sg uh ud up ur us ux xN xT xA xh xd xl xr xo xw xpp xtp xap xsg yN yT yA yh yd yl yr yo yw ypp ytp yap ysg zat zpl zlt zjo zfo zsz zby znu hW hG hSh hIm hrp hrt hra hxp hxt hxa hrd hdm hri hwr => ?_)
  obtain ⟨rd, wa, nu, bu, ht, th, po, ba, en, td, ij, hV⟩ := hR
  have hx := cx.x
  have hb := cx.b
  refine lv_aload_n (pc := 769) hx hb dL_law_769 rfl (lv_at hl 3 rfl) ?_
  refine z_callVw (pc := 770) cx vm_X7_forget (c_X7_forget l E b (wT b E.2.1 xN xT xA xh xd xl xr xo xw xpp xtp xap xsg yN yT yA yh yd yl yr yo yw ypp ytp yap ysg zat zpl zlt zjo zfo zsz zby znu) ig qt qr tbu wst asw pN tN aN wx pp tp ap sg uh ud up ur us ux G r hG) (z_rec cx.2 (hW.at 0 rfl) rfl) hW hS (fun q ⟨k, hk⟩ => by rw [hk]; exact hLF.2.2.2.1 k) m_ml_L_78 ⟨rfl, rfl⟩ ⟨Nat.le_of_ble_eq_true rfl, Nat.le_of_ble_eq_true rfl⟩ rfl hl.1 rfl (by simp [Value.category]) dL_law_770 ⟨(by show cells ≤ 660476; omega), (by show slots ≤ 7114676; omega)⟩ (fun v H locs hq hS hk2 => ?_)
  obtain ⟨rfl, hG2, hW2⟩ := hq
  have hW : WW E (wK b E.2.1 (wT b E.2.1 xN xT xA xh xd xl xr xo xw xpp xtp xap xsg yN yT yA yh yd yl yr yo yw ypp ytp yap ysg zat zpl zlt zjo zfo zsz zby znu) ig qt qr tbu wst asw pN tN 0 (hdC ((upd r 2 0) 3)) ((upd r 2 0) 4) ((upd r 2 0) 5) ((upd r 2 0) 6) ((upd r 2 0) 7) wx pp tp ap sg uh ud up ur us ux) G H := hW2
  have hV := hV.refK hk2.2 (fun j ⟨k, hk⟩ => hLF.1 j k hk)
  have hO := hO.kept hk2.2 (fun ⟨k, hk⟩ => hLF.2.1 k hk)
  refine (?_ : W p l e room_1 s m args below meth c H locs (cells + 0) (slots + 0) Q (F0 m 773 ls [.int (r 2)]))
  refine lv_aload_n (pc := 773) hx hb dL_law_773 rfl (lv_at hl 2 rfl) ?_
  refine z_callVw (pc := 774) cx vm_X8_forget (c_X8_forget l E a r im rd wa kp so sz el pr ts nu bu ht th po ba en td ig ij  ) (z_rec cx.2 (hV.at 0 rfl) rfl) hV hS (fun q ⟨k, hk⟩ => by rw [hk]; exact hLF.2.2.2.2.1 k) m_ml_L_82 ⟨rfl, rfl⟩ ⟨Nat.le_of_ble_eq_true rfl, Nat.le_of_ble_eq_true rfl⟩ rfl hl.1 rfl (by simp [Value.category]) dL_law_774 ⟨(by show cells + 0 ≤ 660476; omega), (by show slots + 0 ≤ 7114676; omega)⟩ (fun v H locs hq hS hk2 => ?_)
  obtain ⟨rfl, hV2⟩ := hq
  have hV : WW E (wM a (E.2.1 0) (upd r 2 0) im rd wa kp so sz el pr ts nu bu ht (bI ig) th po ba en td (bI ij)) gN H := hV2
  have hW := hW.clsK hk2.2 (fun k ⟨j, hj⟩ => hLF.1 j k hj.symm) (fun z e hz ⟨j, hj⟩ => (hSG z e hz).2.1 j hj)
  have hO := hO.kept hk2.2 (fun ⟨j, hj⟩ => hLF.2.2.1 j hj)
  refine (?_ : W p l e room_1 s m args below meth c H locs (cells + 0 + 0) (slots + 0 + 0) Q (F0 m 777 ls [.int (r 2), .int (r 2)]))
  refine lv_icmp_eq (pc := 777) (tgt := 1840) hx hb dL_law_777 (by decide) (fun _ => ?_) (fun c => absurd rfl c)
  refine W.widen (k := cells + 200) (n := slots + 2000) (by omega) (by omega) ?_
  exact kk (upd r 2 0) im ig kp so sz el pr ts G H locs ls (lv_sub hl [0, 1, 2, 3, 4] rfl) (CLS.mk hW hG2 hSh hIm hrp hrt hra hxp hxt hxa hrd hdm hri (hwr.le (Nat.zero_le _))) ⟨_, _, _, _, _, _, _, _, _, _, _, hV⟩ hO hSG hS
set_option maxHeartbeats 4000000 in
set_option maxRecDepth 100000 in
theorem y_14 (l : Launch) (hst : l.stackTraces = false) {p : Program} {e : Env} {s : State} {m : MethodId} {args : Array Value} {below : List Frame} {meth : Method} {c : Code} {H : Heap} {locs : List Loc} {cells slots : Nat} {Q : State → Prop} {ls : Array Slot} {E : zE} {a b : Nat → Nat} {o sb L i : Nat} {xs : Nat → Int32} {r : Nat → Int32} {im : Nat → Int32} {ig : Bool} {kp : Nat → Int32} {so : Nat → Int32} {sz : Nat → Int32} {el : Nat → Int32} {pr : Nat → Int32} {ts : Nat → Int32} {G : zG} (cx : Cx E p s args m c RL code 8) (hX : va_X sb L xs s s.heap) (hsb : sb < s.heap.size) (hLL : L ≤ 3072) (hi : i + 6 ≤ L) (hLF : LF a b o s.heap.size) (hCE : CE E (FL s.heap.size) s s.heap) (hXE : XE E (FL s.heap.size) s s.heap) (hl : lv_has ls 8 [(4, .int (nI i)), (3, .ref o), (2, .ref (a 0)), (1, .ref (b 0)), (0, .ref sb)]) (hS : va_S (FL s.heap.size) s.heap H locs) (hc1 : cells + 200 ≤ 660476) (hc2 : slots + 2000 ≤ 7114676) (hC : CLS E b r im ig kp so sz el pr ts G H) (hR : REF E a r im ig kp so sz el pr ts H) (hO : OUTc E o H) (hSG : SEP a o s.heap.size G) (kk : ∀ (r : Nat → Int32) (im : Nat → Int32) (ig : Bool) (kp : Nat → Int32) (so : Nat → Int32) (sz : Nat → Int32) (el : Nat → Int32) (pr : Nat → Int32) (ts : Nat → Int32) (G : zG) (H1 : Heap) (locs1 : List Loc) (ls1 : Array Slot), lv_has ls1 8 [(4, .int (nI i)), (3, .ref o), (2, .ref (a 0)), (1, .ref (b 0)), (0, .ref sb)] → CLS E b r im ig kp so sz el pr ts G H1 → REF E a r im ig kp so sz el pr ts H1 → OUTc E o H1 → SEP a o s.heap.size G → va_S (FL s.heap.size) s.heap H1 locs1 → W p l e room_1 s m args below meth c H1 locs1 (cells + 200) (slots + 2000) Q (F0 m 1840 ls1 [])) : W p l e room_1 s m args below meth c H locs cells slots Q (F0 m 782 ls []) := by
  refine hC.elim (fun qt qr tbu wst asw pN tN aN wx pp tp ap sg uh ud up ur us ux xN xT xA xh xd xl xr xo xw xpp xtp xap xsg yN yT yA yh yd yl yr yo yw ypp ytp yap ysg zat zpl zlt zjo zfo zsz zby znu hW hG hSh hIm hrp hrt hra hxp hxt hxa hrd hdm hri hwr => ?_)
  obtain ⟨rd, wa, nu, bu, ht, th, po, ba, en, td, ij, hV⟩ := hR
  have hx := cx.x
  have hb := cx.b
  refine lv_aload_n (pc := 782) hx hb dL_law_782 rfl (lv_at hl 3 rfl) ?_
  refine z_callV (pc := 783) cx vm_X7_fits (c_X7_fits l E b (wT b E.2.1 xN xT xA xh xd xl xr xo xw xpp xtp xap xsg yN yT yA yh yd yl yr yo yw ypp ytp yap ysg zat zpl zlt zjo zfo zsz zby znu) ig qt qr tbu wst asw pN tN aN (hdC (r 3)) (r 4) (r 5) (r 6) (r 7) wx pp tp ap sg uh ud up ur us ux G r hG) (z_rec cx.2 (hW.at 0 rfl) rfl) hW m_ml_L_83 ⟨rfl, rfl⟩ ⟨Nat.le_of_ble_eq_true rfl, Nat.le_of_ble_eq_true rfl⟩ rfl hl.1 rfl (by simp [Value.category]) dL_law_783 ⟨(by show cells ≤ 660476; omega), (by show slots ≤ 7114676; omega)⟩ ?_
  refine (?_ : W p l e room_1 s m args below meth c H locs cells slots Q (F0 m 786 ls [.int (fitsP r)]))
  refine lv_aload_n (pc := 786) hx hb dL_law_786 rfl (lv_at hl 2 rfl) ?_
  refine z_callVw (pc := 787) cx vm_X8_fits (c_X8_fits l E a r im rd wa kp so sz el pr ts nu bu ht th po ba en td ig ij  hG.1) (z_rec cx.2 (hV.at 0 rfl) rfl) hV hS (fun q ⟨k, hk⟩ => by rw [hk]; exact hLF.2.2.2.2.1 k) m_ml_L_86 ⟨rfl, rfl⟩ ⟨Nat.le_of_ble_eq_true rfl, Nat.le_of_ble_eq_true rfl⟩ rfl hl.1 rfl (by simp [Value.category]) dL_law_787 ⟨(by show cells ≤ 660476; omega), (by show slots ≤ 7114676; omega)⟩ (fun v H locs hq hS hk2 => ?_)
  obtain ⟨wa2, bu2, rfl, hV2⟩ := hq
  have hV : WW E (wM a (E.2.1 0) r im rd wa2 kp so sz el pr ts nu bu2 ht (bI ig) th po ba en td (bI ij)) gN H := hV2
  have hW := hW.clsK hk2.2 (fun k ⟨j, hj⟩ => hLF.1 j k hj.symm) (fun z e hz ⟨j, hj⟩ => (hSG z e hz).2.1 j hj)
  have hO := hO.kept hk2.2 (fun ⟨j, hj⟩ => hLF.2.2.1 j hj)
  refine (?_ : W p l e room_1 s m args below meth c H locs (cells + 0) (slots + 0) Q (F0 m 790 ls [.int (fitsP r), .int (fitsP r)]))
  refine lv_icmp_eq (pc := 790) (tgt := 1840) hx hb dL_law_790 (by decide) (fun _ => ?_) (fun c => absurd rfl c)
  refine W.widen (k := cells + 200) (n := slots + 2000) (by omega) (by omega) ?_
  exact kk r im ig kp so sz el pr ts G H locs ls (lv_sub hl [0, 1, 2, 3, 4] rfl) (CLS.mk hW hG hSh hIm hrp hrt hra hxp hxt hxa hrd hdm hri hwr) ⟨_, _, _, _, _, _, _, _, _, _, _, hV⟩ hO hSG hS
set_option maxHeartbeats 4000000 in
set_option maxRecDepth 100000 in
theorem y_15 (l : Launch) (hst : l.stackTraces = false) {p : Program} {e : Env} {s : State} {m : MethodId} {args : Array Value} {below : List Frame} {meth : Method} {c : Code} {H : Heap} {locs : List Loc} {cells slots : Nat} {Q : State → Prop} {ls : Array Slot} {E : zE} {a b : Nat → Nat} {o sb L i : Nat} {xs : Nat → Int32} {r : Nat → Int32} {im : Nat → Int32} {ig : Bool} {kp : Nat → Int32} {so : Nat → Int32} {sz : Nat → Int32} {el : Nat → Int32} {pr : Nat → Int32} {ts : Nat → Int32} {G : zG} (cx : Cx E p s args m c RL code 8) (hX : va_X sb L xs s s.heap) (hsb : sb < s.heap.size) (hLL : L ≤ 3072) (hi : i + 6 ≤ L) (hLF : LF a b o s.heap.size) (hCE : CE E (FL s.heap.size) s s.heap) (hXE : XE E (FL s.heap.size) s s.heap) (hl : lv_has ls 8 [(4, .int (nI i)), (3, .ref o), (2, .ref (a 0)), (1, .ref (b 0)), (0, .ref sb)]) (hS : va_S (FL s.heap.size) s.heap H locs) (hc1 : cells + 200 ≤ 660476) (hc2 : slots + 2000 ≤ 7114676) (hC : CLS E b r im ig kp so sz el pr ts G H) (hR : REF E a r im ig kp so sz el pr ts H) (hO : OUTc E o H) (hSG : SEP a o s.heap.size G) (kk : ∀ (r : Nat → Int32) (im : Nat → Int32) (ig : Bool) (kp : Nat → Int32) (so : Nat → Int32) (sz : Nat → Int32) (el : Nat → Int32) (pr : Nat → Int32) (ts : Nat → Int32) (G : zG) (H1 : Heap) (locs1 : List Loc) (ls1 : Array Slot), lv_has ls1 8 [(4, .int (nI i)), (3, .ref o), (2, .ref (a 0)), (1, .ref (b 0)), (0, .ref sb)] → CLS E b r im ig kp so sz el pr ts G H1 → REF E a r im ig kp so sz el pr ts H1 → OUTc E o H1 → SEP a o s.heap.size G → va_S (FL s.heap.size) s.heap H1 locs1 → W p l e room_1 s m args below meth c H1 locs1 (cells + 200) (slots + 2000) Q (F0 m 1840 ls1 [])) : W p l e room_1 s m args below meth c H locs cells slots Q (F0 m 795 ls []) := by
  refine hC.elim (fun qt qr tbu wst asw pN tN aN wx pp tp ap sg uh ud up ur us ux xN xT xA xh xd xl xr xo xw xpp xtp xap xsg yN yT yA yh yd yl yr yo yw ypp ytp yap ysg zat zpl zlt zjo zfo zsz zby znu hW hG hSh hIm hrp hrt hra hxp hxt hxa hrd hdm hri hwr => ?_)
  obtain ⟨rd, wa, nu, bu, ht, th, po, ba, en, td, ij, hV⟩ := hR
  have hx := cx.x
  have hb := cx.b
  refine lv_aload_n (pc := 795) hx hb dL_law_795 rfl (lv_at hl 3 rfl) ?_
  refine lv_aload_n (pc := 796) hx hb dL_law_796 rfl (lv_at hl 4 rfl) ?_
  refine lv_iload (pc := 797) hx hb dL_law_797 (lv_at hl 0 rfl) ?_
  refine lv_iconst (pc := 799) (v := 1) hx hb dL_law_799 (by decide) ?_
  refine lv_iadd (pc := 800) hx hb dL_law_800 ?_
  refine z_sld (pc := 801) (j := i + 1) cx hX hsb (Nat.not_le.mpr hsb) hS (by simp only [nI, Int32.ofNat_add] <;> rfl) (by omega) hLL dL_law_801 ?_
  refine lv_aload_n (pc := 802) hx hb dL_law_802 rfl (lv_at hl 4 rfl) ?_
  refine lv_iload (pc := 803) hx hb dL_law_803 (lv_at hl 0 rfl) ?_
  refine lv_iconst (pc := 805) (v := 2) hx hb dL_law_805 (by decide) ?_
  refine lv_iadd (pc := 806) hx hb dL_law_806 ?_
  refine z_sld (pc := 807) (j := i + 2) cx hX hsb (Nat.not_le.mpr hsb) hS (by simp only [nI, Int32.ofNat_add] <;> rfl) (by omega) hLL dL_law_807 ?_
  refine z_callV (pc := 808) cx vm_X7_both (c_X7_both l E b (wT b E.2.1 xN xT xA xh xd xl xr xo xw xpp xtp xap xsg yN yT yA yh yd yl yr yo yw ypp ytp yap ysg zat zpl zlt zjo zfo zsz zby znu) ig qt qr tbu wst asw pN tN aN (hdC (r 3)) (r 4) (r 5) (r 6) (r 7) wx pp tp ap sg uh ud up ur us ux G (xs (i + 1)) (xs (i + 2)) r hG) (z_rec cx.2 (hW.at 0 rfl) rfl) hW m_ml_L_87 ⟨rfl, rfl⟩ ⟨Nat.le_of_ble_eq_true rfl, Nat.le_of_ble_eq_true rfl⟩ rfl hl.1 rfl (by simp [Value.category]) dL_law_808 ⟨(by show cells ≤ 660476; omega), (by show slots ≤ 7114676; omega)⟩ ?_
  refine (?_ : W p l e room_1 s m args below meth c H locs cells slots Q (F0 m 811 ls [.int (bothP r (xs (i + 1)) (xs (i + 2)))]))
  refine lv_aload_n (pc := 811) hx hb dL_law_811 rfl (lv_at hl 2 rfl) ?_
  refine lv_aload_n (pc := 812) hx hb dL_law_812 rfl (lv_at hl 4 rfl) ?_
  refine lv_iload (pc := 813) hx hb dL_law_813 (lv_at hl 0 rfl) ?_
  refine lv_iconst (pc := 815) (v := 1) hx hb dL_law_815 (by decide) ?_
  refine lv_iadd (pc := 816) hx hb dL_law_816 ?_
  refine z_sld (pc := 817) (j := i + 1) cx hX hsb (Nat.not_le.mpr hsb) hS (by simp only [nI, Int32.ofNat_add] <;> rfl) (by omega) hLL dL_law_817 ?_
  refine lv_aload_n (pc := 818) hx hb dL_law_818 rfl (lv_at hl 4 rfl) ?_
  refine lv_iload (pc := 819) hx hb dL_law_819 (lv_at hl 0 rfl) ?_
  refine lv_iconst (pc := 821) (v := 2) hx hb dL_law_821 (by decide) ?_
  refine lv_iadd (pc := 822) hx hb dL_law_822 ?_
  refine z_sld (pc := 823) (j := i + 2) cx hX hsb (Nat.not_le.mpr hsb) hS (by simp only [nI, Int32.ofNat_add] <;> rfl) (by omega) hLL dL_law_823 ?_
  refine z_callVw (pc := 824) cx vm_X8_both (c_X8_both l E a r im rd wa kp so sz el pr ts nu bu ht th po ba en td ig ij (xs (i + 1)) (xs (i + 2)) hG.1) (z_rec cx.2 (hV.at 0 rfl) rfl) hV hS (fun q ⟨k, hk⟩ => by rw [hk]; exact hLF.2.2.2.2.1 k) m_ml_L_90 ⟨rfl, rfl⟩ ⟨Nat.le_of_ble_eq_true rfl, Nat.le_of_ble_eq_true rfl⟩ rfl hl.1 rfl (by simp [Value.category]) dL_law_824 ⟨(by show cells ≤ 660476; omega), (by show slots ≤ 7114676; omega)⟩ (fun v H locs hq hS hk2 => ?_)
  obtain ⟨wa2, bu2, rfl, hV2⟩ := hq
  have hV : WW E (wM a (E.2.1 0) r im rd wa2 kp so sz el pr ts nu bu2 ht (bI ig) th po ba en td (bI ij)) gN H := hV2
  have hW := hW.clsK hk2.2 (fun k ⟨j, hj⟩ => hLF.1 j k hj.symm) (fun z e hz ⟨j, hj⟩ => (hSG z e hz).2.1 j hj)
  have hO := hO.kept hk2.2 (fun ⟨j, hj⟩ => hLF.2.2.1 j hj)
  refine (?_ : W p l e room_1 s m args below meth c H locs (cells + 0) (slots + 0) Q (F0 m 827 ls [.int (bothP r (xs (i + 1)) (xs (i + 2))), .int (bothP r (xs (i + 1)) (xs (i + 2)))]))
  refine lv_icmp_eq (pc := 827) (tgt := 1840) hx hb dL_law_827 (by decide) (fun _ => ?_) (fun c => absurd rfl c)
  refine W.widen (k := cells + 200) (n := slots + 2000) (by omega) (by omega) ?_
  exact kk r im ig kp so sz el pr ts G H locs ls (lv_sub hl [0, 1, 2, 3, 4] rfl) (CLS.mk hW hG hSh hIm hrp hrt hra hxp hxt hxa hrd hdm hri hwr) ⟨_, _, _, _, _, _, _, _, _, _, _, hV⟩ hO hSG hS
set_option maxHeartbeats 4000000 in
set_option maxRecDepth 100000 in
theorem y_16 (l : Launch) (hst : l.stackTraces = false) {p : Program} {e : Env} {s : State} {m : MethodId} {args : Array Value} {below : List Frame} {meth : Method} {c : Code} {H : Heap} {locs : List Loc} {cells slots : Nat} {Q : State → Prop} {ls : Array Slot} {E : zE} {a b : Nat → Nat} {o sb L i : Nat} {xs : Nat → Int32} {r : Nat → Int32} {im : Nat → Int32} {ig : Bool} {kp : Nat → Int32} {so : Nat → Int32} {sz : Nat → Int32} {el : Nat → Int32} {pr : Nat → Int32} {ts : Nat → Int32} {G : zG} (cx : Cx E p s args m c RL code 8) (hX : va_X sb L xs s s.heap) (hsb : sb < s.heap.size) (hLL : L ≤ 3072) (hi : i + 6 ≤ L) (hLF : LF a b o s.heap.size) (hCE : CE E (FL s.heap.size) s s.heap) (hXE : XE E (FL s.heap.size) s s.heap) (hl : lv_has ls 8 [(4, .int (nI i)), (3, .ref o), (2, .ref (a 0)), (1, .ref (b 0)), (0, .ref sb)]) (hS : va_S (FL s.heap.size) s.heap H locs) (hc1 : cells + 200 ≤ 660476) (hc2 : slots + 2000 ≤ 7114676) (hC : CLS E b r im ig kp so sz el pr ts G H) (hR : REF E a r im ig kp so sz el pr ts H) (hO : OUTc E o H) (hSG : SEP a o s.heap.size G) (kk : ∀ (r : Nat → Int32) (im : Nat → Int32) (ig : Bool) (kp : Nat → Int32) (so : Nat → Int32) (sz : Nat → Int32) (el : Nat → Int32) (pr : Nat → Int32) (ts : Nat → Int32) (G : zG) (H1 : Heap) (locs1 : List Loc) (ls1 : Array Slot), lv_has ls1 8 [(4, .int (nI i)), (3, .ref o), (2, .ref (a 0)), (1, .ref (b 0)), (0, .ref sb)] → CLS E b r im ig kp so sz el pr ts G H1 → REF E a r im ig kp so sz el pr ts H1 → OUTc E o H1 → SEP a o s.heap.size G → va_S (FL s.heap.size) s.heap H1 locs1 → W p l e room_1 s m args below meth c H1 locs1 (cells + 200) (slots + 2000) Q (F0 m 1840 ls1 [])) : W p l e room_1 s m args below meth c H locs cells slots Q (F0 m 832 ls []) := by
  refine hC.elim (fun qt qr tbu wst asw pN tN aN wx pp tp ap sg uh ud up ur us ux xN xT xA xh xd xl xr xo xw xpp xtp xap xsg yN yT yA yh yd yl yr yo yw ypp ytp yap ysg zat zpl zlt zjo zfo zsz zby znu hW hG hSh hIm hrp hrt hra hxp hxt hxa hrd hdm hri hwr => ?_)
  obtain ⟨rd, wa, nu, bu, ht, th, po, ba, en, td, ij, hV⟩ := hR
  have hx := cx.x
  have hb := cx.b
  by_cases hb3 : xs (i + 2) = 0
  · skip
    refine lv_aload_n (pc := 832) hx hb dL_law_832 rfl (lv_at hl 3 rfl) ?_
    refine lv_aload_n (pc := 833) hx hb dL_law_833 rfl (lv_at hl 4 rfl) ?_
    refine lv_iload (pc := 834) hx hb dL_law_834 (lv_at hl 0 rfl) ?_
    refine lv_iconst (pc := 836) (v := 1) hx hb dL_law_836 (by decide) ?_
    refine lv_iadd (pc := 837) hx hb dL_law_837 ?_
    refine z_sld (pc := 838) (j := i + 1) cx hX hsb (Nat.not_le.mpr hsb) hS (by simp only [nI, Int32.ofNat_add] <;> rfl) (by omega) hLL dL_law_838 ?_
    refine lv_aload_n (pc := 839) hx hb dL_law_839 rfl (lv_at hl 4 rfl) ?_
    refine lv_iload (pc := 840) hx hb dL_law_840 (lv_at hl 0 rfl) ?_
    refine lv_iconst (pc := 842) (v := 2) hx hb dL_law_842 (by decide) ?_
    refine lv_iadd (pc := 843) hx hb dL_law_843 ?_
    refine z_sld (pc := 844) (j := i + 2) cx hX hsb (Nat.not_le.mpr hsb) hS (by simp only [nI, Int32.ofNat_add] <;> rfl) (by omega) hLL dL_law_844 ?_
    refine lv_if_eq (pc := 845) (tgt := 852) hx hb dL_law_845 (by decide) (fun _ => ?_) (fun c => absurd hb3 c)
    refine lv_iconst (pc := 852) (v := 0) hx hb dL_law_852 (by decide) ?_
    refine lv_aload_n (pc := 853) hx hb dL_law_853 rfl (lv_at hl 4 rfl) ?_
    refine lv_iload (pc := 854) hx hb dL_law_854 (lv_at hl 0 rfl) ?_
    refine lv_iconst (pc := 856) (v := 3) hx hb dL_law_856 (by decide) ?_
    refine lv_iadd (pc := 857) hx hb dL_law_857 ?_
    refine z_sld (pc := 858) (j := i + 3) cx hX hsb (Nat.not_le.mpr hsb) hS (by simp only [nI, Int32.ofNat_add] <;> rfl) (by omega) hLL dL_law_858 ?_
    refine z_callV (pc := 859) cx vm_X7_odds (c_X7_odds l E b (wT b E.2.1 xN xT xA xh xd xl xr xo xw xpp xtp xap xsg yN yT yA yh yd yl yr yo yw ypp ytp yap ysg zat zpl zlt zjo zfo zsz zby znu) ig qt qr tbu wst asw pN tN aN (hdC (r 3)) (r 4) (r 5) (r 6) (r 7) wx pp tp ap sg uh ud up ur us ux G (xs (i + 1)) false (xs (i + 3)) r hG) (z_rec cx.2 (hW.at 0 rfl) rfl) hW m_ml_L_91 ⟨rfl, rfl⟩ ⟨Nat.le_of_ble_eq_true rfl, Nat.le_of_ble_eq_true rfl⟩ rfl hl.1 rfl (by simp [Value.category]) dL_law_859 ⟨(by show cells ≤ 660476; omega), (by show slots ≤ 7114676; omega)⟩ ?_
    refine (?_ : W p l e room_1 s m args below meth c H locs cells slots Q (F0 m 862 ls [.int (oddsP r (xs (i + 1)) false (xs (i + 3)))]))
    refine lv_aload_n (pc := 862) hx hb dL_law_862 rfl (lv_at hl 2 rfl) ?_
    refine lv_aload_n (pc := 863) hx hb dL_law_863 rfl (lv_at hl 4 rfl) ?_
    refine lv_iload (pc := 864) hx hb dL_law_864 (lv_at hl 0 rfl) ?_
    refine lv_iconst (pc := 866) (v := 1) hx hb dL_law_866 (by decide) ?_
    refine lv_iadd (pc := 867) hx hb dL_law_867 ?_
    refine z_sld (pc := 868) (j := i + 1) cx hX hsb (Nat.not_le.mpr hsb) hS (by simp only [nI, Int32.ofNat_add] <;> rfl) (by omega) hLL dL_law_868 ?_
    refine lv_aload_n (pc := 869) hx hb dL_law_869 rfl (lv_at hl 4 rfl) ?_
    refine lv_iload (pc := 870) hx hb dL_law_870 (lv_at hl 0 rfl) ?_
    refine lv_iconst (pc := 872) (v := 2) hx hb dL_law_872 (by decide) ?_
    refine lv_iadd (pc := 873) hx hb dL_law_873 ?_
    refine z_sld (pc := 874) (j := i + 2) cx hX hsb (Nat.not_le.mpr hsb) hS (by simp only [nI, Int32.ofNat_add] <;> rfl) (by omega) hLL dL_law_874 ?_
    refine lv_if_eq (pc := 875) (tgt := 882) hx hb dL_law_875 (by decide) (fun _ => ?_) (fun c => absurd hb3 c)
    refine lv_iconst (pc := 882) (v := 0) hx hb dL_law_882 (by decide) ?_
    refine lv_aload_n (pc := 883) hx hb dL_law_883 rfl (lv_at hl 4 rfl) ?_
    refine lv_iload (pc := 884) hx hb dL_law_884 (lv_at hl 0 rfl) ?_
    refine lv_iconst (pc := 886) (v := 3) hx hb dL_law_886 (by decide) ?_
    refine lv_iadd (pc := 887) hx hb dL_law_887 ?_
    refine z_sld (pc := 888) (j := i + 3) cx hX hsb (Nat.not_le.mpr hsb) hS (by simp only [nI, Int32.ofNat_add] <;> rfl) (by omega) hLL dL_law_888 ?_
    refine z_callVw (pc := 889) cx vm_X8_odds (c_X8_odds l E a r im rd wa kp so sz el pr ts nu bu ht th po ba en td ig ij (xs (i + 1)) false (xs (i + 3)) hG.1) (z_rec cx.2 (hV.at 0 rfl) rfl) hV hS (fun q ⟨k, hk⟩ => by rw [hk]; exact hLF.2.2.2.2.1 k) m_ml_L_95 ⟨rfl, rfl⟩ ⟨Nat.le_of_ble_eq_true rfl, Nat.le_of_ble_eq_true rfl⟩ rfl hl.1 rfl (by simp [Value.category]) dL_law_889 ⟨(by show cells ≤ 660476; omega), (by show slots ≤ 7114676; omega)⟩ (fun v H locs hq hS hk2 => ?_)
    obtain ⟨wa2, bu2, rfl, hV2⟩ := hq
    have hV : WW E (wM a (E.2.1 0) r im rd wa2 kp so sz el pr ts nu bu2 ht (bI ig) th po ba en td (bI ij)) gN H := hV2
    have hW := hW.clsK hk2.2 (fun k ⟨j, hj⟩ => hLF.1 j k hj.symm) (fun z e hz ⟨j, hj⟩ => (hSG z e hz).2.1 j hj)
    have hO := hO.kept hk2.2 (fun ⟨j, hj⟩ => hLF.2.2.1 j hj)
    refine (?_ : W p l e room_1 s m args below meth c H locs (cells + 0) (slots + 0) Q (F0 m 892 ls [.int (oddsP r (xs (i + 1)) false (xs (i + 3))), .int (oddsP r (xs (i + 1)) false (xs (i + 3)))]))
    refine lv_icmp_eq (pc := 892) (tgt := 1840) hx hb dL_law_892 (by decide) (fun _ => ?_) (fun c => absurd rfl c)
    refine W.widen (k := cells + 200) (n := slots + 2000) (by omega) (by omega) ?_
    exact kk r im ig kp so sz el pr ts G H locs ls (lv_sub hl [0, 1, 2, 3, 4] rfl) (CLS.mk hW hG hSh hIm hrp hrt hra hxp hxt hxa hrd hdm hri hwr) ⟨_, _, _, _, _, _, _, _, _, _, _, hV⟩ hO hSG hS
  · skip
    refine lv_aload_n (pc := 832) hx hb dL_law_832 rfl (lv_at hl 3 rfl) ?_
    refine lv_aload_n (pc := 833) hx hb dL_law_833 rfl (lv_at hl 4 rfl) ?_
    refine lv_iload (pc := 834) hx hb dL_law_834 (lv_at hl 0 rfl) ?_
    refine lv_iconst (pc := 836) (v := 1) hx hb dL_law_836 (by decide) ?_
    refine lv_iadd (pc := 837) hx hb dL_law_837 ?_
    refine z_sld (pc := 838) (j := i + 1) cx hX hsb (Nat.not_le.mpr hsb) hS (by simp only [nI, Int32.ofNat_add] <;> rfl) (by omega) hLL dL_law_838 ?_
    refine lv_aload_n (pc := 839) hx hb dL_law_839 rfl (lv_at hl 4 rfl) ?_
    refine lv_iload (pc := 840) hx hb dL_law_840 (lv_at hl 0 rfl) ?_
    refine lv_iconst (pc := 842) (v := 2) hx hb dL_law_842 (by decide) ?_
    refine lv_iadd (pc := 843) hx hb dL_law_843 ?_
    refine z_sld (pc := 844) (j := i + 2) cx hX hsb (Nat.not_le.mpr hsb) hS (by simp only [nI, Int32.ofNat_add] <;> rfl) (by omega) hLL dL_law_844 ?_
    refine lv_if_eq (pc := 845) (tgt := 852) hx hb dL_law_845 (by decide) (fun c => absurd c hb3) (fun _ => ?_)
    refine lv_iconst (pc := 848) (v := 1) hx hb dL_law_848 (by decide) ?_
    refine lv_goto (pc := 849) (tgt := 853) hx hb dL_law_849 (by decide) ?_
    refine lv_aload_n (pc := 853) hx hb dL_law_853 rfl (lv_at hl 4 rfl) ?_
    refine lv_iload (pc := 854) hx hb dL_law_854 (lv_at hl 0 rfl) ?_
    refine lv_iconst (pc := 856) (v := 3) hx hb dL_law_856 (by decide) ?_
    refine lv_iadd (pc := 857) hx hb dL_law_857 ?_
    refine z_sld (pc := 858) (j := i + 3) cx hX hsb (Nat.not_le.mpr hsb) hS (by simp only [nI, Int32.ofNat_add] <;> rfl) (by omega) hLL dL_law_858 ?_
    refine z_callV (pc := 859) cx vm_X7_odds (c_X7_odds l E b (wT b E.2.1 xN xT xA xh xd xl xr xo xw xpp xtp xap xsg yN yT yA yh yd yl yr yo yw ypp ytp yap ysg zat zpl zlt zjo zfo zsz zby znu) ig qt qr tbu wst asw pN tN aN (hdC (r 3)) (r 4) (r 5) (r 6) (r 7) wx pp tp ap sg uh ud up ur us ux G (xs (i + 1)) true (xs (i + 3)) r hG) (z_rec cx.2 (hW.at 0 rfl) rfl) hW m_ml_L_91 ⟨rfl, rfl⟩ ⟨Nat.le_of_ble_eq_true rfl, Nat.le_of_ble_eq_true rfl⟩ rfl hl.1 rfl (by simp [Value.category]) dL_law_859 ⟨(by show cells ≤ 660476; omega), (by show slots ≤ 7114676; omega)⟩ ?_
    refine (?_ : W p l e room_1 s m args below meth c H locs cells slots Q (F0 m 862 ls [.int (oddsP r (xs (i + 1)) true (xs (i + 3)))]))
    refine lv_aload_n (pc := 862) hx hb dL_law_862 rfl (lv_at hl 2 rfl) ?_
    refine lv_aload_n (pc := 863) hx hb dL_law_863 rfl (lv_at hl 4 rfl) ?_
    refine lv_iload (pc := 864) hx hb dL_law_864 (lv_at hl 0 rfl) ?_
    refine lv_iconst (pc := 866) (v := 1) hx hb dL_law_866 (by decide) ?_
    refine lv_iadd (pc := 867) hx hb dL_law_867 ?_
    refine z_sld (pc := 868) (j := i + 1) cx hX hsb (Nat.not_le.mpr hsb) hS (by simp only [nI, Int32.ofNat_add] <;> rfl) (by omega) hLL dL_law_868 ?_
    refine lv_aload_n (pc := 869) hx hb dL_law_869 rfl (lv_at hl 4 rfl) ?_
    refine lv_iload (pc := 870) hx hb dL_law_870 (lv_at hl 0 rfl) ?_
    refine lv_iconst (pc := 872) (v := 2) hx hb dL_law_872 (by decide) ?_
    refine lv_iadd (pc := 873) hx hb dL_law_873 ?_
    refine z_sld (pc := 874) (j := i + 2) cx hX hsb (Nat.not_le.mpr hsb) hS (by simp only [nI, Int32.ofNat_add] <;> rfl) (by omega) hLL dL_law_874 ?_
    refine lv_if_eq (pc := 875) (tgt := 882) hx hb dL_law_875 (by decide) (fun c => absurd c hb3) (fun _ => ?_)
    refine lv_iconst (pc := 878) (v := 1) hx hb dL_law_878 (by decide) ?_
    refine lv_goto (pc := 879) (tgt := 883) hx hb dL_law_879 (by decide) ?_
    refine lv_aload_n (pc := 883) hx hb dL_law_883 rfl (lv_at hl 4 rfl) ?_
    refine lv_iload (pc := 884) hx hb dL_law_884 (lv_at hl 0 rfl) ?_
    refine lv_iconst (pc := 886) (v := 3) hx hb dL_law_886 (by decide) ?_
    refine lv_iadd (pc := 887) hx hb dL_law_887 ?_
    refine z_sld (pc := 888) (j := i + 3) cx hX hsb (Nat.not_le.mpr hsb) hS (by simp only [nI, Int32.ofNat_add] <;> rfl) (by omega) hLL dL_law_888 ?_
    refine z_callVw (pc := 889) cx vm_X8_odds (c_X8_odds l E a r im rd wa kp so sz el pr ts nu bu ht th po ba en td ig ij (xs (i + 1)) true (xs (i + 3)) hG.1) (z_rec cx.2 (hV.at 0 rfl) rfl) hV hS (fun q ⟨k, hk⟩ => by rw [hk]; exact hLF.2.2.2.2.1 k) m_ml_L_95 ⟨rfl, rfl⟩ ⟨Nat.le_of_ble_eq_true rfl, Nat.le_of_ble_eq_true rfl⟩ rfl hl.1 rfl (by simp [Value.category]) dL_law_889 ⟨(by show cells ≤ 660476; omega), (by show slots ≤ 7114676; omega)⟩ (fun v H locs hq hS hk2 => ?_)
    obtain ⟨wa2, bu2, rfl, hV2⟩ := hq
    have hV : WW E (wM a (E.2.1 0) r im rd wa2 kp so sz el pr ts nu bu2 ht (bI ig) th po ba en td (bI ij)) gN H := hV2
    have hW := hW.clsK hk2.2 (fun k ⟨j, hj⟩ => hLF.1 j k hj.symm) (fun z e hz ⟨j, hj⟩ => (hSG z e hz).2.1 j hj)
    have hO := hO.kept hk2.2 (fun ⟨j, hj⟩ => hLF.2.2.1 j hj)
    refine (?_ : W p l e room_1 s m args below meth c H locs (cells + 0) (slots + 0) Q (F0 m 892 ls [.int (oddsP r (xs (i + 1)) true (xs (i + 3))), .int (oddsP r (xs (i + 1)) true (xs (i + 3)))]))
    refine lv_icmp_eq (pc := 892) (tgt := 1840) hx hb dL_law_892 (by decide) (fun _ => ?_) (fun c => absurd rfl c)
    refine W.widen (k := cells + 200) (n := slots + 2000) (by omega) (by omega) ?_
    exact kk r im ig kp so sz el pr ts G H locs ls (lv_sub hl [0, 1, 2, 3, 4] rfl) (CLS.mk hW hG hSh hIm hrp hrt hra hxp hxt hxa hrd hdm hri hwr) ⟨_, _, _, _, _, _, _, _, _, _, _, hV⟩ hO hSG hS
set_option maxHeartbeats 4000000 in
set_option maxRecDepth 100000 in
theorem y_17 (l : Launch) (hst : l.stackTraces = false) {p : Program} {e : Env} {s : State} {m : MethodId} {args : Array Value} {below : List Frame} {meth : Method} {c : Code} {H : Heap} {locs : List Loc} {cells slots : Nat} {Q : State → Prop} {ls : Array Slot} {E : zE} {a b : Nat → Nat} {o sb L i : Nat} {xs : Nat → Int32} {r : Nat → Int32} {im : Nat → Int32} {ig : Bool} {kp : Nat → Int32} {so : Nat → Int32} {sz : Nat → Int32} {el : Nat → Int32} {pr : Nat → Int32} {ts : Nat → Int32} {G : zG} (cx : Cx E p s args m c RL code 8) (hX : va_X sb L xs s s.heap) (hsb : sb < s.heap.size) (hLL : L ≤ 3072) (hi : i + 6 ≤ L) (hLF : LF a b o s.heap.size) (hCE : CE E (FL s.heap.size) s s.heap) (hXE : XE E (FL s.heap.size) s s.heap) (hl : lv_has ls 8 [(4, .int (nI i)), (3, .ref o), (2, .ref (a 0)), (1, .ref (b 0)), (0, .ref sb)]) (hS : va_S (FL s.heap.size) s.heap H locs) (hc1 : cells + 200 ≤ 660476) (hc2 : slots + 2000 ≤ 7114676) (hC : CLS E b r im ig kp so sz el pr ts G H) (hR : REF E a r im ig kp so sz el pr ts H) (hO : OUTc E o H) (hSG : SEP a o s.heap.size G) (kk : ∀ (r : Nat → Int32) (im : Nat → Int32) (ig : Bool) (kp : Nat → Int32) (so : Nat → Int32) (sz : Nat → Int32) (el : Nat → Int32) (pr : Nat → Int32) (ts : Nat → Int32) (G : zG) (H1 : Heap) (locs1 : List Loc) (ls1 : Array Slot), lv_has ls1 8 [(4, .int (nI i)), (3, .ref o), (2, .ref (a 0)), (1, .ref (b 0)), (0, .ref sb)] → CLS E b r im ig kp so sz el pr ts G H1 → REF E a r im ig kp so sz el pr ts H1 → OUTc E o H1 → SEP a o s.heap.size G → va_S (FL s.heap.size) s.heap H1 locs1 → W p l e room_1 s m args below meth c H1 locs1 (cells + 200) (slots + 2000) Q (F0 m 1840 ls1 [])) : W p l e room_1 s m args below meth c H locs cells slots Q (F0 m 897 ls []) := by
  refine hC.elim (fun qt qr tbu wst asw pN tN aN wx pp tp ap sg uh ud up ur us ux xN xT xA xh xd xl xr xo xw xpp xtp xap xsg yN yT yA yh yd yl yr yo yw ypp ytp yap ysg zat zpl zlt zjo zfo zsz zby znu hW hG hSh hIm hrp hrt hra hxp hxt hxa hrd hdm hri hwr => ?_)
  obtain ⟨rd, wa, nu, bu, ht, th, po, ba, en, td, ij, hV⟩ := hR
  have hx := cx.x
  have hb := cx.b
  refine lv_aload_n (pc := 897) hx hb dL_law_897 rfl (lv_at hl 3 rfl) ?_
  refine z_callV (pc := 898) cx vm_X7_which (c_X7_which l E b (wT b E.2.1 xN xT xA xh xd xl xr xo xw xpp xtp xap xsg yN yT yA yh yd yl yr yo yw ypp ytp yap ysg zat zpl zlt zjo zfo zsz zby znu) ig qt qr tbu wst asw pN tN aN (hdC (r 3)) (r 4) (r 5) (r 6) (r 7) wx pp tp ap sg uh ud up ur us ux G r hG) (z_rec cx.2 (hW.at 0 rfl) rfl) hW m_ml_L_96 ⟨rfl, rfl⟩ ⟨Nat.le_of_ble_eq_true rfl, Nat.le_of_ble_eq_true rfl⟩ rfl hl.1 rfl (by simp [Value.category]) dL_law_898 ⟨(by show cells ≤ 660476; omega), (by show slots ≤ 7114676; omega)⟩ ?_
  refine (?_ : W p l e room_1 s m args below meth c H locs cells slots Q (F0 m 901 ls [.int (whP r)]))
  refine lv_aload_n (pc := 901) hx hb dL_law_901 rfl (lv_at hl 2 rfl) ?_
  refine z_callVw (pc := 902) cx vm_X8_which (c_X8_which l E a r im rd wa kp so sz el pr ts nu bu ht th po ba en td ig ij  hG.1) (z_rec cx.2 (hV.at 0 rfl) rfl) hV hS (fun q ⟨k, hk⟩ => by rw [hk]; exact hLF.2.2.2.2.1 k) m_ml_L_99 ⟨rfl, rfl⟩ ⟨Nat.le_of_ble_eq_true rfl, Nat.le_of_ble_eq_true rfl⟩ rfl hl.1 rfl (by simp [Value.category]) dL_law_902 ⟨(by show cells ≤ 660476; omega), (by show slots ≤ 7114676; omega)⟩ (fun v H locs hq hS hk2 => ?_)
  obtain ⟨wa2, bu2, rfl, hV2⟩ := hq
  have hV : WW E (wM a (E.2.1 0) r im rd wa2 kp so sz el pr ts nu bu2 ht (bI ig) th po ba en td (bI ij)) gN H := hV2
  have hW := hW.clsK hk2.2 (fun k ⟨j, hj⟩ => hLF.1 j k hj.symm) (fun z e hz ⟨j, hj⟩ => (hSG z e hz).2.1 j hj)
  have hO := hO.kept hk2.2 (fun ⟨j, hj⟩ => hLF.2.2.1 j hj)
  refine (?_ : W p l e room_1 s m args below meth c H locs (cells + 0) (slots + 0) Q (F0 m 905 ls [.int (whP r), .int (whP r)]))
  refine lv_icmp_eq (pc := 905) (tgt := 1840) hx hb dL_law_905 (by decide) (fun _ => ?_) (fun c => absurd rfl c)
  refine W.widen (k := cells + 200) (n := slots + 2000) (by omega) (by omega) ?_
  exact kk r im ig kp so sz el pr ts G H locs ls (lv_sub hl [0, 1, 2, 3, 4] rfl) (CLS.mk hW hG hSh hIm hrp hrt hra hxp hxt hxa hrd hdm hri hwr) ⟨_, _, _, _, _, _, _, _, _, _, _, hV⟩ hO hSG hS
set_option maxHeartbeats 4000000 in
set_option maxRecDepth 100000 in
theorem y_18 (l : Launch) (hst : l.stackTraces = false) {p : Program} {e : Env} {s : State} {m : MethodId} {args : Array Value} {below : List Frame} {meth : Method} {c : Code} {H : Heap} {locs : List Loc} {cells slots : Nat} {Q : State → Prop} {ls : Array Slot} {E : zE} {a b : Nat → Nat} {o sb L i : Nat} {xs : Nat → Int32} {r : Nat → Int32} {im : Nat → Int32} {ig : Bool} {kp : Nat → Int32} {so : Nat → Int32} {sz : Nat → Int32} {el : Nat → Int32} {pr : Nat → Int32} {ts : Nat → Int32} {G : zG} (cx : Cx E p s args m c RL code 8) (hX : va_X sb L xs s s.heap) (hsb : sb < s.heap.size) (hLL : L ≤ 3072) (hi : i + 6 ≤ L) (hLF : LF a b o s.heap.size) (hCE : CE E (FL s.heap.size) s s.heap) (hXE : XE E (FL s.heap.size) s s.heap) (hl : lv_has ls 8 [(4, .int (nI i)), (3, .ref o), (2, .ref (a 0)), (1, .ref (b 0)), (0, .ref sb)]) (hS : va_S (FL s.heap.size) s.heap H locs) (hc1 : cells + 200 ≤ 660476) (hc2 : slots + 2000 ≤ 7114676) (hC : CLS E b r im ig kp so sz el pr ts G H) (hR : REF E a r im ig kp so sz el pr ts H) (hO : OUTc E o H) (hSG : SEP a o s.heap.size G) (kk : ∀ (r : Nat → Int32) (im : Nat → Int32) (ig : Bool) (kp : Nat → Int32) (so : Nat → Int32) (sz : Nat → Int32) (el : Nat → Int32) (pr : Nat → Int32) (ts : Nat → Int32) (G : zG) (H1 : Heap) (locs1 : List Loc) (ls1 : Array Slot), lv_has ls1 8 [(4, .int (nI i)), (3, .ref o), (2, .ref (a 0)), (1, .ref (b 0)), (0, .ref sb)] → CLS E b r im ig kp so sz el pr ts G H1 → REF E a r im ig kp so sz el pr ts H1 → OUTc E o H1 → SEP a o s.heap.size G → va_S (FL s.heap.size) s.heap H1 locs1 → W p l e room_1 s m args below meth c H1 locs1 (cells + 200) (slots + 2000) Q (F0 m 1840 ls1 [])) : W p l e room_1 s m args below meth c H locs cells slots Q (F0 m 910 ls []) := by
  refine hC.elim (fun qt qr tbu wst asw pN tN aN wx pp tp ap sg uh ud up ur us ux xN xT xA xh xd xl xr xo xw xpp xtp xap xsg yN yT yA yh yd yl yr yo yw ypp ytp yap ysg zat zpl zlt zjo zfo zsz zby znu hW hG hSh hIm hrp hrt hra hxp hxt hxa hrd hdm hri hwr => ?_)
  obtain ⟨rd, wa, nu, bu, ht, th, po, ba, en, td, ij, hV⟩ := hR
  have hx := cx.x
  have hb := cx.b
  refine lv_aload_n (pc := 910) hx hb dL_law_910 rfl (lv_at hl 3 rfl) ?_
  refine lv_aload_n (pc := 911) hx hb dL_law_911 rfl (lv_at hl 4 rfl) ?_
  refine lv_iload (pc := 912) hx hb dL_law_912 (lv_at hl 0 rfl) ?_
  refine lv_iconst (pc := 914) (v := 1) hx hb dL_law_914 (by decide) ?_
  refine lv_iadd (pc := 915) hx hb dL_law_915 ?_
  refine z_sld (pc := 916) (j := i + 1) cx hX hsb (Nat.not_le.mpr hsb) hS (by simp only [nI, Int32.ofNat_add] <;> rfl) (by omega) hLL dL_law_916 ?_
  refine z_callVw (pc := 917) cx vm_X7_next (c_X7_next l E b (wT b E.2.1 xN xT xA xh xd xl xr xo xw xpp xtp xap xsg yN yT yA yh yd yl yr yo yw ypp ytp yap ysg zat zpl zlt zjo zfo zsz zby znu) ig qt qr tbu wst asw pN tN aN wx pp tp ap sg uh ud up ur us ux G (xs (i + 1)) r hG) (z_rec cx.2 (hW.at 0 rfl) rfl) hW hS (fun q ⟨k, hk⟩ => by rw [hk]; exact hLF.2.2.2.1 k) m_ml_L_100 ⟨rfl, rfl⟩ ⟨Nat.le_of_ble_eq_true rfl, Nat.le_of_ble_eq_true rfl⟩ rfl hl.1 rfl (by simp [Value.category]) dL_law_917 ⟨(by show cells ≤ 660476; omega), (by show slots ≤ 7114676; omega)⟩ (fun v H locs hq hS hk2 => ?_)
  obtain ⟨sg2, rfl, hW2⟩ := hq
  have hW : WW E (wK b E.2.1 (wT b E.2.1 xN xT xA xh xd xl xr xo xw xpp xtp xap xsg yN yT yA yh yd yl yr yo yw ypp ytp yap ysg zat zpl zlt zjo zfo zsz zby znu) ig qt qr tbu wst asw pN tN aN (hdC (r 3)) (r 4) (r 5) (r 6) (r 7) wx pp tp ap sg2 uh ud up ur us ux) G H := hW2
  have hV := hV.refK hk2.2 (fun j ⟨k, hk⟩ => hLF.1 j k hk)
  have hO := hO.kept hk2.2 (fun ⟨k, hk⟩ => hLF.2.1 k hk)
  refine (?_ : W p l e room_1 s m args below meth c H locs (cells + 0) (slots + 0) Q (F0 m 920 ls [.int (nextP r (xs (i + 1)))]))
  refine lv_aload_n (pc := 920) hx hb dL_law_920 rfl (lv_at hl 2 rfl) ?_
  refine lv_aload_n (pc := 921) hx hb dL_law_921 rfl (lv_at hl 4 rfl) ?_
  refine lv_iload (pc := 922) hx hb dL_law_922 (lv_at hl 0 rfl) ?_
  refine lv_iconst (pc := 924) (v := 1) hx hb dL_law_924 (by decide) ?_
  refine lv_iadd (pc := 925) hx hb dL_law_925 ?_
  refine z_sld (pc := 926) (j := i + 1) cx hX hsb (Nat.not_le.mpr hsb) hS (by simp only [nI, Int32.ofNat_add] <;> rfl) (by omega) hLL dL_law_926 ?_
  refine z_callVw (pc := 927) cx vm_X8_next (c_X8_next l E a r im rd wa kp so sz el pr ts nu bu ht th po ba en td ig ij (xs (i + 1)) hG.1) (z_rec cx.2 (hV.at 0 rfl) rfl) hV hS (fun q ⟨k, hk⟩ => by rw [hk]; exact hLF.2.2.2.2.1 k) m_ml_L_103 ⟨rfl, rfl⟩ ⟨Nat.le_of_ble_eq_true rfl, Nat.le_of_ble_eq_true rfl⟩ rfl hl.1 rfl (by simp [Value.category]) dL_law_927 ⟨(by show cells + 0 ≤ 660476; omega), (by show slots + 0 ≤ 7114676; omega)⟩ (fun v H locs hq hS hk2 => ?_)
  obtain ⟨wa2, bu2, rfl, hV2⟩ := hq
  have hV : WW E (wM a (E.2.1 0) r im rd wa2 kp so sz el pr ts nu bu2 ht (bI ig) th po ba en td (bI ij)) gN H := hV2
  have hW := hW.clsK hk2.2 (fun k ⟨j, hj⟩ => hLF.1 j k hj.symm) (fun z e hz ⟨j, hj⟩ => (hSG z e hz).2.1 j hj)
  have hO := hO.kept hk2.2 (fun ⟨j, hj⟩ => hLF.2.2.1 j hj)
  refine (?_ : W p l e room_1 s m args below meth c H locs (cells + 0 + 0) (slots + 0 + 0) Q (F0 m 930 ls [.int (nextP r (xs (i + 1))), .int (nextP r (xs (i + 1)))]))
  refine lv_icmp_eq (pc := 930) (tgt := 1840) hx hb dL_law_930 (by decide) (fun _ => ?_) (fun c => absurd rfl c)
  refine W.widen (k := cells + 200) (n := slots + 2000) (by omega) (by omega) ?_
  exact kk r im ig kp so sz el pr ts G H locs ls (lv_sub hl [0, 1, 2, 3, 4] rfl) (CLS.mk hW hG hSh hIm hrp hrt hra hxp hxt hxa hrd hdm hri hwr) ⟨_, _, _, _, _, _, _, _, _, _, _, hV⟩ hO hSG hS
set_option maxHeartbeats 4000000 in
set_option maxRecDepth 100000 in
theorem y_19 (l : Launch) (hst : l.stackTraces = false) {p : Program} {e : Env} {s : State} {m : MethodId} {args : Array Value} {below : List Frame} {meth : Method} {c : Code} {H : Heap} {locs : List Loc} {cells slots : Nat} {Q : State → Prop} {ls : Array Slot} {E : zE} {a b : Nat → Nat} {o sb L i : Nat} {xs : Nat → Int32} {r : Nat → Int32} {im : Nat → Int32} {ig : Bool} {kp : Nat → Int32} {so : Nat → Int32} {sz : Nat → Int32} {el : Nat → Int32} {pr : Nat → Int32} {ts : Nat → Int32} {G : zG} (cx : Cx E p s args m c RL code 8) (hX : va_X sb L xs s s.heap) (hsb : sb < s.heap.size) (hLL : L ≤ 3072) (hi : i + 6 ≤ L) (hLF : LF a b o s.heap.size) (hCE : CE E (FL s.heap.size) s s.heap) (hXE : XE E (FL s.heap.size) s s.heap) (hl : lv_has ls 8 [(4, .int (nI i)), (3, .ref o), (2, .ref (a 0)), (1, .ref (b 0)), (0, .ref sb)]) (hS : va_S (FL s.heap.size) s.heap H locs) (hc1 : cells + 200 ≤ 660476) (hc2 : slots + 2000 ≤ 7114676) (hC : CLS E b r im ig kp so sz el pr ts G H) (hR : REF E a r im ig kp so sz el pr ts H) (hO : OUTc E o H) (hSG : SEP a o s.heap.size G) (kk : ∀ (r : Nat → Int32) (im : Nat → Int32) (ig : Bool) (kp : Nat → Int32) (so : Nat → Int32) (sz : Nat → Int32) (el : Nat → Int32) (pr : Nat → Int32) (ts : Nat → Int32) (G : zG) (H1 : Heap) (locs1 : List Loc) (ls1 : Array Slot), lv_has ls1 8 [(4, .int (nI i)), (3, .ref o), (2, .ref (a 0)), (1, .ref (b 0)), (0, .ref sb)] → CLS E b r im ig kp so sz el pr ts G H1 → REF E a r im ig kp so sz el pr ts H1 → OUTc E o H1 → SEP a o s.heap.size G → va_S (FL s.heap.size) s.heap H1 locs1 → W p l e room_1 s m args below meth c H1 locs1 (cells + 200) (slots + 2000) Q (F0 m 1840 ls1 [])) : W p l e room_1 s m args below meth c H locs cells slots Q (F0 m 935 ls []) := by
  refine hC.elim (fun qt qr tbu wst asw pN tN aN wx pp tp ap sg uh ud up ur us ux xN xT xA xh xd xl xr xo xw xpp xtp xap xsg yN yT yA yh yd yl yr yo yw ypp ytp yap ysg zat zpl zlt zjo zfo zsz zby znu hW hG hSh hIm hrp hrt hra hxp hxt hxa hrd hdm hri hwr => ?_)
  obtain ⟨rd, wa, nu, bu, ht, th, po, ba, en, td, ij, hV⟩ := hR
  have hx := cx.x
  have hb := cx.b
  refine lv_aload_n (pc := 935) hx hb dL_law_935 rfl (lv_at hl 3 rfl) ?_
  refine lv_aload_n (pc := 936) hx hb dL_law_936 rfl (lv_at hl 4 rfl) ?_
  refine lv_iload (pc := 937) hx hb dL_law_937 (lv_at hl 0 rfl) ?_
  refine lv_iconst (pc := 939) (v := 1) hx hb dL_law_939 (by decide) ?_
  refine lv_iadd (pc := 940) hx hb dL_law_940 ?_
  refine z_sld (pc := 941) (j := i + 1) cx hX hsb (Nat.not_le.mpr hsb) hS (by simp only [nI, Int32.ofNat_add] <;> rfl) (by omega) hLL dL_law_941 ?_
  refine lv_aload_n (pc := 942) hx hb dL_law_942 rfl (lv_at hl 4 rfl) ?_
  refine lv_iload (pc := 943) hx hb dL_law_943 (lv_at hl 0 rfl) ?_
  refine lv_iconst (pc := 945) (v := 2) hx hb dL_law_945 (by decide) ?_
  refine lv_iadd (pc := 946) hx hb dL_law_946 ?_
  refine z_sld (pc := 947) (j := i + 2) cx hX hsb (Nat.not_le.mpr hsb) hS (by simp only [nI, Int32.ofNat_add] <;> rfl) (by omega) hLL dL_law_947 ?_
  refine z_callVw (pc := 948) cx vm_X7_fewest (c_X7_fewest l E b (wT b E.2.1 xN xT xA xh xd xl xr xo xw xpp xtp xap xsg yN yT yA yh yd yl yr yo yw ypp ytp yap ysg zat zpl zlt zjo zfo zsz zby znu) ig qt qr tbu wst asw pN tN aN wx pp tp ap sg uh ud up ur us ux G (xs (i + 1)) (xs (i + 2)) r kp so sz el pr ts hG hSh) (z_rec cx.2 (hW.at 0 rfl) rfl) hW hS (fun q ⟨k, hk⟩ => by rw [hk]; exact hLF.2.2.2.1 k) m_ml_L_104 ⟨rfl, rfl⟩ ⟨Nat.le_of_ble_eq_true rfl, Nat.le_of_ble_eq_true rfl⟩ rfl hl.1 rfl (by simp [Value.category]) dL_law_948 ⟨(by show cells ≤ 660476; omega), (by show slots ≤ 7114676; omega)⟩ (fun v H locs hq hS hk2 => ?_)
  obtain ⟨tb2, ws2, sg2, rfl, hW2⟩ := hq
  have hW : WW E (wK b E.2.1 (wT b E.2.1 xN xT xA xh xd xl xr xo xw xpp xtp xap xsg yN yT yA yh yd yl yr yo yw ypp ytp yap ysg zat zpl zlt zjo zfo zsz zby znu) ig qt qr tb2 ws2 asw pN tN aN (hdC (r 3)) (r 4) (r 5) (r 6) (r 7) wx pp tp ap sg2 uh ud up ur us ux) G H := hW2
  have hV := hV.refK hk2.2 (fun j ⟨k, hk⟩ => hLF.1 j k hk)
  have hO := hO.kept hk2.2 (fun ⟨k, hk⟩ => hLF.2.1 k hk)
  refine (?_ : W p l e room_1 s m args below meth c H locs (cells + 0) (slots + 0) Q (F0 m 951 ls [.int (fewestP r kp so sz el (xs (i + 1)) (xs (i + 2)))]))
  refine lv_aload_n (pc := 951) hx hb dL_law_951 rfl (lv_at hl 2 rfl) ?_
  refine lv_aload_n (pc := 952) hx hb dL_law_952 rfl (lv_at hl 4 rfl) ?_
  refine lv_iload (pc := 953) hx hb dL_law_953 (lv_at hl 0 rfl) ?_
  refine lv_iconst (pc := 955) (v := 1) hx hb dL_law_955 (by decide) ?_
  refine lv_iadd (pc := 956) hx hb dL_law_956 ?_
  refine z_sld (pc := 957) (j := i + 1) cx hX hsb (Nat.not_le.mpr hsb) hS (by simp only [nI, Int32.ofNat_add] <;> rfl) (by omega) hLL dL_law_957 ?_
  refine lv_aload_n (pc := 958) hx hb dL_law_958 rfl (lv_at hl 4 rfl) ?_
  refine lv_iload (pc := 959) hx hb dL_law_959 (lv_at hl 0 rfl) ?_
  refine lv_iconst (pc := 961) (v := 2) hx hb dL_law_961 (by decide) ?_
  refine lv_iadd (pc := 962) hx hb dL_law_962 ?_
  refine z_sld (pc := 963) (j := i + 2) cx hX hsb (Nat.not_le.mpr hsb) hS (by simp only [nI, Int32.ofNat_add] <;> rfl) (by omega) hLL dL_law_963 ?_
  refine z_callVw (pc := 964) cx vm_X8_fewest (c_X8_fewest l E a r im rd wa kp so sz el pr ts nu bu ht th po ba en td ig ij (xs (i + 1)) (xs (i + 2)) hG.1 hSh.1) (z_rec cx.2 (hV.at 0 rfl) rfl) hV hS (fun q ⟨k, hk⟩ => by rw [hk]; exact hLF.2.2.2.2.1 k) m_ml_L_107 ⟨rfl, rfl⟩ ⟨Nat.le_of_ble_eq_true rfl, Nat.le_of_ble_eq_true rfl⟩ rfl hl.1 rfl (by simp [Value.category]) dL_law_964 ⟨(by show cells + 0 ≤ 660476; omega), (by show slots + 0 ≤ 7114676; omega)⟩ (fun v H locs hq hS hk2 => ?_)
  obtain ⟨wa2, bu2, ht2, rfl, hV2⟩ := hq
  have hV : WW E (wM a (E.2.1 0) r im rd wa2 kp so sz el pr ts nu bu2 ht2 (bI ig) th po ba en td (bI ij)) gN H := hV2
  have hW := hW.clsK hk2.2 (fun k ⟨j, hj⟩ => hLF.1 j k hj.symm) (fun z e hz ⟨j, hj⟩ => (hSG z e hz).2.1 j hj)
  have hO := hO.kept hk2.2 (fun ⟨j, hj⟩ => hLF.2.2.1 j hj)
  refine (?_ : W p l e room_1 s m args below meth c H locs (cells + 0 + 0) (slots + 0 + 0) Q (F0 m 967 ls [.int (fewestP r kp so sz el (xs (i + 1)) (xs (i + 2))), .int (fewestP r kp so sz el (xs (i + 1)) (xs (i + 2)))]))
  refine lv_icmp_eq (pc := 967) (tgt := 1840) hx hb dL_law_967 (by decide) (fun _ => ?_) (fun c => absurd rfl c)
  refine W.widen (k := cells + 200) (n := slots + 2000) (by omega) (by omega) ?_
  exact kk r im ig kp so sz el pr ts G H locs ls (lv_sub hl [0, 1, 2, 3, 4] rfl) (CLS.mk hW hG hSh hIm hrp hrt hra hxp hxt hxa hrd hdm hri hwr) ⟨_, _, _, _, _, _, _, _, _, _, _, hV⟩ hO hSG hS
set_option maxHeartbeats 4000000 in
set_option maxRecDepth 100000 in
theorem y_20 (l : Launch) (hst : l.stackTraces = false) {p : Program} {e : Env} {s : State} {m : MethodId} {args : Array Value} {below : List Frame} {meth : Method} {c : Code} {H : Heap} {locs : List Loc} {cells slots : Nat} {Q : State → Prop} {ls : Array Slot} {E : zE} {a b : Nat → Nat} {o sb L i : Nat} {xs : Nat → Int32} {r : Nat → Int32} {im : Nat → Int32} {ig : Bool} {kp : Nat → Int32} {so : Nat → Int32} {sz : Nat → Int32} {el : Nat → Int32} {pr : Nat → Int32} {ts : Nat → Int32} {G : zG} (cx : Cx E p s args m c RL code 8) (hX : va_X sb L xs s s.heap) (hsb : sb < s.heap.size) (hLL : L ≤ 3072) (hi : i + 6 ≤ L) (hLF : LF a b o s.heap.size) (hCE : CE E (FL s.heap.size) s s.heap) (hXE : XE E (FL s.heap.size) s s.heap) (hl : lv_has ls 8 [(4, .int (nI i)), (3, .ref o), (2, .ref (a 0)), (1, .ref (b 0)), (0, .ref sb)]) (hS : va_S (FL s.heap.size) s.heap H locs) (hc1 : cells + 200 ≤ 660476) (hc2 : slots + 2000 ≤ 7114676) (hC : CLS E b r im ig kp so sz el pr ts G H) (hR : REF E a r im ig kp so sz el pr ts H) (hO : OUTc E o H) (hSG : SEP a o s.heap.size G) (kk : ∀ (r : Nat → Int32) (im : Nat → Int32) (ig : Bool) (kp : Nat → Int32) (so : Nat → Int32) (sz : Nat → Int32) (el : Nat → Int32) (pr : Nat → Int32) (ts : Nat → Int32) (G : zG) (H1 : Heap) (locs1 : List Loc) (ls1 : Array Slot), lv_has ls1 8 [(4, .int (nI i)), (3, .ref o), (2, .ref (a 0)), (1, .ref (b 0)), (0, .ref sb)] → CLS E b r im ig kp so sz el pr ts G H1 → REF E a r im ig kp so sz el pr ts H1 → OUTc E o H1 → SEP a o s.heap.size G → va_S (FL s.heap.size) s.heap H1 locs1 → W p l e room_1 s m args below meth c H1 locs1 (cells + 200) (slots + 2000) Q (F0 m 1840 ls1 [])) : W p l e room_1 s m args below meth c H locs cells slots Q (F0 m 972 ls []) := by
  refine hC.elim (fun qt qr tbu wst asw pN tN aN wx pp tp ap sg uh ud up ur us ux xN xT xA xh xd xl xr xo xw xpp xtp xap xsg yN yT yA yh yd yl yr yo yw ypp ytp yap ysg zat zpl zlt zjo zfo zsz zby znu hW hG hSh hIm hrp hrt hra hxp hxt hxa hrd hdm hri hwr => ?_)
  obtain ⟨rd, wa, nu, bu, ht, th, po, ba, en, td, ij, hV⟩ := hR
  have hx := cx.x
  have hb := cx.b
  refine lv_aload_n (pc := 972) hx hb dL_law_972 rfl (lv_at hl 3 rfl) ?_
  refine lv_aload_n (pc := 973) hx hb dL_law_973 rfl (lv_at hl 4 rfl) ?_
  refine lv_iload (pc := 974) hx hb dL_law_974 (lv_at hl 0 rfl) ?_
  refine lv_iconst (pc := 976) (v := 1) hx hb dL_law_976 (by decide) ?_
  refine lv_iadd (pc := 977) hx hb dL_law_977 ?_
  refine z_sld (pc := 978) (j := i + 1) cx hX hsb (Nat.not_le.mpr hsb) hS (by simp only [nI, Int32.ofNat_add] <;> rfl) (by omega) hLL dL_law_978 ?_
  refine lv_aload_n (pc := 979) hx hb dL_law_979 rfl (lv_at hl 4 rfl) ?_
  refine lv_iload (pc := 980) hx hb dL_law_980 (lv_at hl 0 rfl) ?_
  refine lv_iconst (pc := 982) (v := 2) hx hb dL_law_982 (by decide) ?_
  refine lv_iadd (pc := 983) hx hb dL_law_983 ?_
  refine z_sld (pc := 984) (j := i + 2) cx hX hsb (Nat.not_le.mpr hsb) hS (by simp only [nI, Int32.ofNat_add] <;> rfl) (by omega) hLL dL_law_984 ?_
  refine z_callV (pc := 985) cx vm_X7_shift (c_X7_shift l E b (wT b E.2.1 xN xT xA xh xd xl xr xo xw xpp xtp xap xsg yN yT yA yh yd yl yr yo yw ypp ytp yap ysg zat zpl zlt zjo zfo zsz zby znu) ig qt qr tbu wst asw pN tN aN wx pp tp ap sg uh ud up ur us ux G (xs (i + 1)) (xs (i + 2)) r hG) (z_rec cx.2 (hW.at 0 rfl) rfl) hW m_ml_L_108 ⟨rfl, rfl⟩ ⟨Nat.le_of_ble_eq_true rfl, Nat.le_of_ble_eq_true rfl⟩ rfl hl.1 rfl (by simp [Value.category]) dL_law_985 ⟨(by show cells ≤ 660476; omega), (by show slots ≤ 7114676; omega)⟩ ?_
  refine (?_ : W p l e room_1 s m args below meth c H locs cells slots Q (F0 m 988 ls [.int (shiftP r (xs (i + 1)) (xs (i + 2)))]))
  refine lv_aload_n (pc := 988) hx hb dL_law_988 rfl (lv_at hl 2 rfl) ?_
  refine lv_aload_n (pc := 989) hx hb dL_law_989 rfl (lv_at hl 4 rfl) ?_
  refine lv_iload (pc := 990) hx hb dL_law_990 (lv_at hl 0 rfl) ?_
  refine lv_iconst (pc := 992) (v := 1) hx hb dL_law_992 (by decide) ?_
  refine lv_iadd (pc := 993) hx hb dL_law_993 ?_
  refine z_sld (pc := 994) (j := i + 1) cx hX hsb (Nat.not_le.mpr hsb) hS (by simp only [nI, Int32.ofNat_add] <;> rfl) (by omega) hLL dL_law_994 ?_
  refine lv_aload_n (pc := 995) hx hb dL_law_995 rfl (lv_at hl 4 rfl) ?_
  refine lv_iload (pc := 996) hx hb dL_law_996 (lv_at hl 0 rfl) ?_
  refine lv_iconst (pc := 998) (v := 2) hx hb dL_law_998 (by decide) ?_
  refine lv_iadd (pc := 999) hx hb dL_law_999 ?_
  refine z_sld (pc := 1000) (j := i + 2) cx hX hsb (Nat.not_le.mpr hsb) hS (by simp only [nI, Int32.ofNat_add] <;> rfl) (by omega) hLL dL_law_1000 ?_
  refine z_callV (pc := 1001) cx vm_X8_shift (c_X8_shift l E a r im rd wa kp so sz el pr ts nu bu ht th po ba en td ig ij (xs (i + 1)) (xs (i + 2)) hG.1) (z_rec cx.2 (hV.at 0 rfl) rfl) hV m_ml_L_111 ⟨rfl, rfl⟩ ⟨Nat.le_of_ble_eq_true rfl, Nat.le_of_ble_eq_true rfl⟩ rfl hl.1 rfl (by simp [Value.category]) dL_law_1001 ⟨(by show cells ≤ 660476; omega), (by show slots ≤ 7114676; omega)⟩ ?_
  refine (?_ : W p l e room_1 s m args below meth c H locs cells slots Q (F0 m 1004 ls [.int (shiftP r (xs (i + 1)) (xs (i + 2))), .int (shiftP r (xs (i + 1)) (xs (i + 2)))]))
  refine lv_icmp_eq (pc := 1004) (tgt := 1840) hx hb dL_law_1004 (by decide) (fun _ => ?_) (fun c => absurd rfl c)
  refine W.widen (k := cells + 200) (n := slots + 2000) (by omega) (by omega) ?_
  exact kk r im ig kp so sz el pr ts G H locs ls (lv_sub hl [0, 1, 2, 3, 4] rfl) (CLS.mk hW hG hSh hIm hrp hrt hra hxp hxt hxa hrd hdm hri hwr) ⟨_, _, _, _, _, _, _, _, _, _, _, hV⟩ hO hSG hS
set_option maxHeartbeats 4000000 in
set_option maxRecDepth 100000 in
theorem y_21 (l : Launch) (hst : l.stackTraces = false) {p : Program} {e : Env} {s : State} {m : MethodId} {args : Array Value} {below : List Frame} {meth : Method} {c : Code} {H : Heap} {locs : List Loc} {cells slots : Nat} {Q : State → Prop} {ls : Array Slot} {E : zE} {a b : Nat → Nat} {o sb L i : Nat} {xs : Nat → Int32} {r : Nat → Int32} {im : Nat → Int32} {ig : Bool} {kp : Nat → Int32} {so : Nat → Int32} {sz : Nat → Int32} {el : Nat → Int32} {pr : Nat → Int32} {ts : Nat → Int32} {G : zG} (cx : Cx E p s args m c RL code 8) (hX : va_X sb L xs s s.heap) (hsb : sb < s.heap.size) (hLL : L ≤ 3072) (hi : i + 6 ≤ L) (hLF : LF a b o s.heap.size) (hCE : CE E (FL s.heap.size) s s.heap) (hXE : XE E (FL s.heap.size) s s.heap) (hl : lv_has ls 8 [(4, .int (nI i)), (3, .ref o), (2, .ref (a 0)), (1, .ref (b 0)), (0, .ref sb)]) (hS : va_S (FL s.heap.size) s.heap H locs) (hc1 : cells + 200 ≤ 660476) (hc2 : slots + 2000 ≤ 7114676) (hC : CLS E b r im ig kp so sz el pr ts G H) (hR : REF E a r im ig kp so sz el pr ts H) (hO : OUTc E o H) (hSG : SEP a o s.heap.size G) (kk : ∀ (r : Nat → Int32) (im : Nat → Int32) (ig : Bool) (kp : Nat → Int32) (so : Nat → Int32) (sz : Nat → Int32) (el : Nat → Int32) (pr : Nat → Int32) (ts : Nat → Int32) (G : zG) (H1 : Heap) (locs1 : List Loc) (ls1 : Array Slot), lv_has ls1 8 [(4, .int (nI i)), (3, .ref o), (2, .ref (a 0)), (1, .ref (b 0)), (0, .ref sb)] → CLS E b r im ig kp so sz el pr ts G H1 → REF E a r im ig kp so sz el pr ts H1 → OUTc E o H1 → SEP a o s.heap.size G → va_S (FL s.heap.size) s.heap H1 locs1 → W p l e room_1 s m args below meth c H1 locs1 (cells + 200) (slots + 2000) Q (F0 m 1840 ls1 [])) : W p l e room_1 s m args below meth c H locs cells slots Q (F0 m 1009 ls []) := by
  refine hC.elim (fun qt qr tbu wst asw pN tN aN wx pp tp ap sg uh ud up ur us ux xN xT xA xh xd xl xr xo xw xpp xtp xap xsg yN yT yA yh yd yl yr yo yw ypp ytp yap ysg zat zpl zlt zjo zfo zsz zby znu hW hG hSh hIm hrp hrt hra hxp hxt hxa hrd hdm hri hwr => ?_)
  obtain ⟨rd, wa, nu, bu, ht, th, po, ba, en, td, ij, hV⟩ := hR
  have hx := cx.x
  have hb := cx.b
  refine lv_aload_n (pc := 1009) hx hb dL_law_1009 rfl (lv_at hl 3 rfl) ?_
  refine lv_aload_n (pc := 1010) hx hb dL_law_1010 rfl (lv_at hl 4 rfl) ?_
  refine lv_iload (pc := 1011) hx hb dL_law_1011 (lv_at hl 0 rfl) ?_
  refine lv_iconst (pc := 1013) (v := 1) hx hb dL_law_1013 (by decide) ?_
  refine lv_iadd (pc := 1014) hx hb dL_law_1014 ?_
  refine z_sld (pc := 1015) (j := i + 1) cx hX hsb (Nat.not_le.mpr hsb) hS (by simp only [nI, Int32.ofNat_add] <;> rfl) (by omega) hLL dL_law_1015 ?_
  refine lv_aload_n (pc := 1016) hx hb dL_law_1016 rfl (lv_at hl 4 rfl) ?_
  refine lv_iload (pc := 1017) hx hb dL_law_1017 (lv_at hl 0 rfl) ?_
  refine lv_iconst (pc := 1019) (v := 2) hx hb dL_law_1019 (by decide) ?_
  refine lv_iadd (pc := 1020) hx hb dL_law_1020 ?_
  refine z_sld (pc := 1021) (j := i + 2) cx hX hsb (Nat.not_le.mpr hsb) hS (by simp only [nI, Int32.ofNat_add] <;> rfl) (by omega) hLL dL_law_1021 ?_
  refine lv_aload_n (pc := 1022) hx hb dL_law_1022 rfl (lv_at hl 4 rfl) ?_
  refine lv_iload (pc := 1023) hx hb dL_law_1023 (lv_at hl 0 rfl) ?_
  refine lv_iconst (pc := 1025) (v := 3) hx hb dL_law_1025 (by decide) ?_
  refine lv_iadd (pc := 1026) hx hb dL_law_1026 ?_
  refine z_sld (pc := 1027) (j := i + 3) cx hX hsb (Nat.not_le.mpr hsb) hS (by simp only [nI, Int32.ofNat_add] <;> rfl) (by omega) hLL dL_law_1027 ?_
  refine z_callV (pc := 1028) cx vm_X7_lives (c_X7_lives l E b (wT b E.2.1 xN xT xA xh xd xl xr xo xw xpp xtp xap xsg yN yT yA yh yd yl yr yo yw ypp ytp yap ysg zat zpl zlt zjo zfo zsz zby znu) ig qt qr tbu wst asw pN tN aN wx pp tp ap sg uh ud up ur us ux G (xs (i + 1)) (xs (i + 2)) (xs (i + 3)) r hG) (z_rec cx.2 (hW.at 0 rfl) rfl) hW m_ml_L_112 ⟨rfl, rfl⟩ ⟨Nat.le_of_ble_eq_true rfl, Nat.le_of_ble_eq_true rfl⟩ rfl hl.1 rfl (by simp [Value.category]) dL_law_1028 ⟨(by show cells ≤ 660476; omega), (by show slots ≤ 7114676; omega)⟩ ?_
  refine (?_ : W p l e room_1 s m args below meth c H locs cells slots Q (F0 m 1031 ls [.int (livesP r (xs (i + 1)) (xs (i + 2)) (xs (i + 3)))]))
  refine lv_aload_n (pc := 1031) hx hb dL_law_1031 rfl (lv_at hl 2 rfl) ?_
  refine lv_aload_n (pc := 1032) hx hb dL_law_1032 rfl (lv_at hl 4 rfl) ?_
  refine lv_iload (pc := 1033) hx hb dL_law_1033 (lv_at hl 0 rfl) ?_
  refine lv_iconst (pc := 1035) (v := 1) hx hb dL_law_1035 (by decide) ?_
  refine lv_iadd (pc := 1036) hx hb dL_law_1036 ?_
  refine z_sld (pc := 1037) (j := i + 1) cx hX hsb (Nat.not_le.mpr hsb) hS (by simp only [nI, Int32.ofNat_add] <;> rfl) (by omega) hLL dL_law_1037 ?_
  refine lv_aload_n (pc := 1038) hx hb dL_law_1038 rfl (lv_at hl 4 rfl) ?_
  refine lv_iload (pc := 1039) hx hb dL_law_1039 (lv_at hl 0 rfl) ?_
  refine lv_iconst (pc := 1041) (v := 2) hx hb dL_law_1041 (by decide) ?_
  refine lv_iadd (pc := 1042) hx hb dL_law_1042 ?_
  refine z_sld (pc := 1043) (j := i + 2) cx hX hsb (Nat.not_le.mpr hsb) hS (by simp only [nI, Int32.ofNat_add] <;> rfl) (by omega) hLL dL_law_1043 ?_
  refine lv_aload_n (pc := 1044) hx hb dL_law_1044 rfl (lv_at hl 4 rfl) ?_
  refine lv_iload (pc := 1045) hx hb dL_law_1045 (lv_at hl 0 rfl) ?_
  refine lv_iconst (pc := 1047) (v := 3) hx hb dL_law_1047 (by decide) ?_
  refine lv_iadd (pc := 1048) hx hb dL_law_1048 ?_
  refine z_sld (pc := 1049) (j := i + 3) cx hX hsb (Nat.not_le.mpr hsb) hS (by simp only [nI, Int32.ofNat_add] <;> rfl) (by omega) hLL dL_law_1049 ?_
  refine z_callV (pc := 1050) cx vm_X8_lives (c_X8_lives l E a r im rd wa kp so sz el pr ts nu bu ht th po ba en td ig ij (xs (i + 1)) (xs (i + 2)) (xs (i + 3)) hG.1) (z_rec cx.2 (hV.at 0 rfl) rfl) hV m_ml_L_115 ⟨rfl, rfl⟩ ⟨Nat.le_of_ble_eq_true rfl, Nat.le_of_ble_eq_true rfl⟩ rfl hl.1 rfl (by simp [Value.category]) dL_law_1050 ⟨(by show cells ≤ 660476; omega), (by show slots ≤ 7114676; omega)⟩ ?_
  refine (?_ : W p l e room_1 s m args below meth c H locs cells slots Q (F0 m 1053 ls [.int (livesP r (xs (i + 1)) (xs (i + 2)) (xs (i + 3))), .int (livesP r (xs (i + 1)) (xs (i + 2)) (xs (i + 3)))]))
  refine lv_icmp_eq (pc := 1053) (tgt := 1840) hx hb dL_law_1053 (by decide) (fun _ => ?_) (fun c => absurd rfl c)
  refine W.widen (k := cells + 200) (n := slots + 2000) (by omega) (by omega) ?_
  exact kk r im ig kp so sz el pr ts G H locs ls (lv_sub hl [0, 1, 2, 3, 4] rfl) (CLS.mk hW hG hSh hIm hrp hrt hra hxp hxt hxa hrd hdm hri hwr) ⟨_, _, _, _, _, _, _, _, _, _, _, hV⟩ hO hSG hS
set_option maxHeartbeats 4000000 in
set_option maxRecDepth 100000 in
theorem y_22 (l : Launch) (hst : l.stackTraces = false) {p : Program} {e : Env} {s : State} {m : MethodId} {args : Array Value} {below : List Frame} {meth : Method} {c : Code} {H : Heap} {locs : List Loc} {cells slots : Nat} {Q : State → Prop} {ls : Array Slot} {E : zE} {a b : Nat → Nat} {o sb L i : Nat} {xs : Nat → Int32} {r : Nat → Int32} {im : Nat → Int32} {ig : Bool} {kp : Nat → Int32} {so : Nat → Int32} {sz : Nat → Int32} {el : Nat → Int32} {pr : Nat → Int32} {ts : Nat → Int32} {G : zG} (cx : Cx E p s args m c RL code 8) (hX : va_X sb L xs s s.heap) (hsb : sb < s.heap.size) (hLL : L ≤ 3072) (hi : i + 6 ≤ L) (hLF : LF a b o s.heap.size) (hCE : CE E (FL s.heap.size) s s.heap) (hXE : XE E (FL s.heap.size) s s.heap) (hl : lv_has ls 8 [(4, .int (nI i)), (3, .ref o), (2, .ref (a 0)), (1, .ref (b 0)), (0, .ref sb)]) (hS : va_S (FL s.heap.size) s.heap H locs) (hc1 : cells + 200 ≤ 660476) (hc2 : slots + 2000 ≤ 7114676) (hC : CLS E b r im ig kp so sz el pr ts G H) (hR : REF E a r im ig kp so sz el pr ts H) (hO : OUTc E o H) (hSG : SEP a o s.heap.size G) (kk : ∀ (r : Nat → Int32) (im : Nat → Int32) (ig : Bool) (kp : Nat → Int32) (so : Nat → Int32) (sz : Nat → Int32) (el : Nat → Int32) (pr : Nat → Int32) (ts : Nat → Int32) (G : zG) (H1 : Heap) (locs1 : List Loc) (ls1 : Array Slot), lv_has ls1 8 [(4, .int (nI i)), (3, .ref o), (2, .ref (a 0)), (1, .ref (b 0)), (0, .ref sb)] → CLS E b r im ig kp so sz el pr ts G H1 → REF E a r im ig kp so sz el pr ts H1 → OUTc E o H1 → SEP a o s.heap.size G → va_S (FL s.heap.size) s.heap H1 locs1 → W p l e room_1 s m args below meth c H1 locs1 (cells + 200) (slots + 2000) Q (F0 m 1840 ls1 [])) : W p l e room_1 s m args below meth c H locs cells slots Q (F0 m 1058 ls []) := by
  refine hC.elim (fun qt qr tbu wst asw pN tN aN wx pp tp ap sg uh ud up ur us ux xN xT xA xh xd xl xr xo xw xpp xtp xap xsg yN yT yA yh yd yl yr yo yw ypp ytp yap ysg zat zpl zlt zjo zfo zsz zby znu hW hG hSh hIm hrp hrt hra hxp hxt hxa hrd hdm hri hwr => ?_)
  obtain ⟨rd, wa, nu, bu, ht, th, po, ba, en, td, ij, hV⟩ := hR
  have hx := cx.x
  have hb := cx.b
  refine lv_aload_n (pc := 1058) hx hb dL_law_1058 rfl (lv_at hl 3 rfl) ?_
  refine lv_aload_n (pc := 1059) hx hb dL_law_1059 rfl (lv_at hl 4 rfl) ?_
  refine lv_iload (pc := 1060) hx hb dL_law_1060 (lv_at hl 0 rfl) ?_
  refine lv_iconst (pc := 1062) (v := 1) hx hb dL_law_1062 (by decide) ?_
  refine lv_iadd (pc := 1063) hx hb dL_law_1063 ?_
  refine z_sld (pc := 1064) (j := i + 1) cx hX hsb (Nat.not_le.mpr hsb) hS (by simp only [nI, Int32.ofNat_add] <;> rfl) (by omega) hLL dL_law_1064 ?_
  refine lv_aload_n (pc := 1065) hx hb dL_law_1065 rfl (lv_at hl 4 rfl) ?_
  refine lv_iload (pc := 1066) hx hb dL_law_1066 (lv_at hl 0 rfl) ?_
  refine lv_iconst (pc := 1068) (v := 2) hx hb dL_law_1068 (by decide) ?_
  refine lv_iadd (pc := 1069) hx hb dL_law_1069 ?_
  refine z_sld (pc := 1070) (j := i + 2) cx hX hsb (Nat.not_le.mpr hsb) hS (by simp only [nI, Int32.ofNat_add] <;> rfl) (by omega) hLL dL_law_1070 ?_
  refine lv_aload_n (pc := 1071) hx hb dL_law_1071 rfl (lv_at hl 4 rfl) ?_
  refine lv_iload (pc := 1072) hx hb dL_law_1072 (lv_at hl 0 rfl) ?_
  refine lv_iconst (pc := 1074) (v := 3) hx hb dL_law_1074 (by decide) ?_
  refine lv_iadd (pc := 1075) hx hb dL_law_1075 ?_
  refine z_sld (pc := 1076) (j := i + 3) cx hX hsb (Nat.not_le.mpr hsb) hS (by simp only [nI, Int32.ofNat_add] <;> rfl) (by omega) hLL dL_law_1076 ?_
  refine z_callVw (pc := 1077) cx vm_X7_seamOrCrack (c_X7_seamOrCrack l E b (wT b E.2.1 xN xT xA xh xd xl xr xo xw xpp xtp xap xsg yN yT yA yh yd yl yr yo yw ypp ytp yap ysg zat zpl zlt zjo zfo zsz zby znu) ig qt qr tbu wst asw pN tN aN wx pp tp ap sg uh ud up ur us ux G (xs (i + 1)) (xs (i + 2)) (xs (i + 3)) r hG) (z_rec cx.2 (hW.at 0 rfl) rfl) hW hS (fun q ⟨k, hk⟩ => by rw [hk]; exact hLF.2.2.2.1 k) m_ml_L_116 ⟨rfl, rfl⟩ ⟨Nat.le_of_ble_eq_true rfl, Nat.le_of_ble_eq_true rfl⟩ rfl hl.1 rfl (by simp [Value.category]) dL_law_1077 ⟨(by show cells ≤ 660476; omega), (by show slots ≤ 7114676; omega)⟩ (fun v H locs hq hS hk2 => ?_)
  obtain ⟨sg2, rfl, hW2⟩ := hq
  have hW : WW E (wK b E.2.1 (wT b E.2.1 xN xT xA xh xd xl xr xo xw xpp xtp xap xsg yN yT yA yh yd yl yr yo yw ypp ytp yap ysg zat zpl zlt zjo zfo zsz zby znu) ig qt qr tbu wst asw pN tN aN (hdC (r 3)) (r 4) (r 5) (r 6) (r 7) wx pp tp ap sg2 uh ud up ur us ux) G H := hW2
  have hV := hV.refK hk2.2 (fun j ⟨k, hk⟩ => hLF.1 j k hk)
  have hO := hO.kept hk2.2 (fun ⟨k, hk⟩ => hLF.2.1 k hk)
  refine (?_ : W p l e room_1 s m args below meth c H locs (cells + 0) (slots + 0) Q (F0 m 1080 ls [.int (seamP r (xs (i + 1)) (xs (i + 2)) (xs (i + 3)))]))
  refine lv_aload_n (pc := 1080) hx hb dL_law_1080 rfl (lv_at hl 2 rfl) ?_
  refine lv_aload_n (pc := 1081) hx hb dL_law_1081 rfl (lv_at hl 4 rfl) ?_
  refine lv_iload (pc := 1082) hx hb dL_law_1082 (lv_at hl 0 rfl) ?_
  refine lv_iconst (pc := 1084) (v := 1) hx hb dL_law_1084 (by decide) ?_
  refine lv_iadd (pc := 1085) hx hb dL_law_1085 ?_
  refine z_sld (pc := 1086) (j := i + 1) cx hX hsb (Nat.not_le.mpr hsb) hS (by simp only [nI, Int32.ofNat_add] <;> rfl) (by omega) hLL dL_law_1086 ?_
  refine lv_aload_n (pc := 1087) hx hb dL_law_1087 rfl (lv_at hl 4 rfl) ?_
  refine lv_iload (pc := 1088) hx hb dL_law_1088 (lv_at hl 0 rfl) ?_
  refine lv_iconst (pc := 1090) (v := 2) hx hb dL_law_1090 (by decide) ?_
  refine lv_iadd (pc := 1091) hx hb dL_law_1091 ?_
  refine z_sld (pc := 1092) (j := i + 2) cx hX hsb (Nat.not_le.mpr hsb) hS (by simp only [nI, Int32.ofNat_add] <;> rfl) (by omega) hLL dL_law_1092 ?_
  refine lv_aload_n (pc := 1093) hx hb dL_law_1093 rfl (lv_at hl 4 rfl) ?_
  refine lv_iload (pc := 1094) hx hb dL_law_1094 (lv_at hl 0 rfl) ?_
  refine lv_iconst (pc := 1096) (v := 3) hx hb dL_law_1096 (by decide) ?_
  refine lv_iadd (pc := 1097) hx hb dL_law_1097 ?_
  refine z_sld (pc := 1098) (j := i + 3) cx hX hsb (Nat.not_le.mpr hsb) hS (by simp only [nI, Int32.ofNat_add] <;> rfl) (by omega) hLL dL_law_1098 ?_
  refine z_callV (pc := 1099) cx vm_X8_seamOrCrack (c_X8_seamOrCrack l E a r im rd wa kp so sz el pr ts nu bu ht th po ba en td ig ij (xs (i + 1)) (xs (i + 2)) (xs (i + 3)) hG.1) (z_rec cx.2 (hV.at 0 rfl) rfl) hV m_ml_L_119 ⟨rfl, rfl⟩ ⟨Nat.le_of_ble_eq_true rfl, Nat.le_of_ble_eq_true rfl⟩ rfl hl.1 rfl (by simp [Value.category]) dL_law_1099 ⟨(by show cells + 0 ≤ 660476; omega), (by show slots + 0 ≤ 7114676; omega)⟩ ?_
  refine (?_ : W p l e room_1 s m args below meth c H locs (cells + 0) (slots + 0) Q (F0 m 1102 ls [.int (seamP r (xs (i + 1)) (xs (i + 2)) (xs (i + 3))), .int (seamP r (xs (i + 1)) (xs (i + 2)) (xs (i + 3)))]))
  refine lv_icmp_eq (pc := 1102) (tgt := 1840) hx hb dL_law_1102 (by decide) (fun _ => ?_) (fun c => absurd rfl c)
  refine W.widen (k := cells + 200) (n := slots + 2000) (by omega) (by omega) ?_
  exact kk r im ig kp so sz el pr ts G H locs ls (lv_sub hl [0, 1, 2, 3, 4] rfl) (CLS.mk hW hG hSh hIm hrp hrt hra hxp hxt hxa hrd hdm hri hwr) ⟨_, _, _, _, _, _, _, _, _, _, _, hV⟩ hO hSG hS
set_option maxHeartbeats 4000000 in
set_option maxRecDepth 100000 in
theorem y_23 (l : Launch) (hst : l.stackTraces = false) {p : Program} {e : Env} {s : State} {m : MethodId} {args : Array Value} {below : List Frame} {meth : Method} {c : Code} {H : Heap} {locs : List Loc} {cells slots : Nat} {Q : State → Prop} {ls : Array Slot} {E : zE} {a b : Nat → Nat} {o sb L i : Nat} {xs : Nat → Int32} {r : Nat → Int32} {im : Nat → Int32} {ig : Bool} {kp : Nat → Int32} {so : Nat → Int32} {sz : Nat → Int32} {el : Nat → Int32} {pr : Nat → Int32} {ts : Nat → Int32} {G : zG} (cx : Cx E p s args m c RL code 8) (hX : va_X sb L xs s s.heap) (hsb : sb < s.heap.size) (hLL : L ≤ 3072) (hi : i + 6 ≤ L) (hLF : LF a b o s.heap.size) (hCE : CE E (FL s.heap.size) s s.heap) (hXE : XE E (FL s.heap.size) s s.heap) (hl : lv_has ls 8 [(4, .int (nI i)), (3, .ref o), (2, .ref (a 0)), (1, .ref (b 0)), (0, .ref sb)]) (hS : va_S (FL s.heap.size) s.heap H locs) (hc1 : cells + 200 ≤ 660476) (hc2 : slots + 2000 ≤ 7114676) (hC : CLS E b r im ig kp so sz el pr ts G H) (hR : REF E a r im ig kp so sz el pr ts H) (hO : OUTc E o H) (hSG : SEP a o s.heap.size G) (kk : ∀ (r : Nat → Int32) (im : Nat → Int32) (ig : Bool) (kp : Nat → Int32) (so : Nat → Int32) (sz : Nat → Int32) (el : Nat → Int32) (pr : Nat → Int32) (ts : Nat → Int32) (G : zG) (H1 : Heap) (locs1 : List Loc) (ls1 : Array Slot), lv_has ls1 8 [(4, .int (nI i)), (3, .ref o), (2, .ref (a 0)), (1, .ref (b 0)), (0, .ref sb)] → CLS E b r im ig kp so sz el pr ts G H1 → REF E a r im ig kp so sz el pr ts H1 → OUTc E o H1 → SEP a o s.heap.size G → va_S (FL s.heap.size) s.heap H1 locs1 → W p l e room_1 s m args below meth c H1 locs1 (cells + 200) (slots + 2000) Q (F0 m 1840 ls1 [])) : W p l e room_1 s m args below meth c H locs cells slots Q (F0 m 1107 ls []) := by
  refine hC.elim (fun qt qr tbu wst asw pN tN aN wx pp tp ap sg uh ud up ur us ux xN xT xA xh xd xl xr xo xw xpp xtp xap xsg yN yT yA yh yd yl yr yo yw ypp ytp yap ysg zat zpl zlt zjo zfo zsz zby znu hW hG hSh hIm hrp hrt hra hxp hxt hxa hrd hdm hri hwr => ?_)
  obtain ⟨rd, wa, nu, bu, ht, th, po, ba, en, td, ij, hV⟩ := hR
  have hx := cx.x
  have hb := cx.b
  refine lv_aload_n (pc := 1107) hx hb dL_law_1107 rfl (lv_at hl 3 rfl) ?_
  refine lv_aload_n (pc := 1108) hx hb dL_law_1108 rfl (lv_at hl 4 rfl) ?_
  refine lv_iload (pc := 1109) hx hb dL_law_1109 (lv_at hl 0 rfl) ?_
  refine lv_iconst (pc := 1111) (v := 1) hx hb dL_law_1111 (by decide) ?_
  refine lv_iadd (pc := 1112) hx hb dL_law_1112 ?_
  refine z_sld (pc := 1113) (j := i + 1) cx hX hsb (Nat.not_le.mpr hsb) hS (by simp only [nI, Int32.ofNat_add] <;> rfl) (by omega) hLL dL_law_1113 ?_
  refine lv_aload_n (pc := 1114) hx hb dL_law_1114 rfl (lv_at hl 4 rfl) ?_
  refine lv_iload (pc := 1115) hx hb dL_law_1115 (lv_at hl 0 rfl) ?_
  refine lv_iconst (pc := 1117) (v := 2) hx hb dL_law_1117 (by decide) ?_
  refine lv_iadd (pc := 1118) hx hb dL_law_1118 ?_
  refine z_sld (pc := 1119) (j := i + 2) cx hX hsb (Nat.not_le.mpr hsb) hS (by simp only [nI, Int32.ofNat_add] <;> rfl) (by omega) hLL dL_law_1119 ?_
  refine z_callVw (pc := 1120) cx vm_X7_length (c_X7_length l E b (wT b E.2.1 xN xT xA xh xd xl xr xo xw xpp xtp xap xsg yN yT yA yh yd yl yr yo yw ypp ytp yap ysg zat zpl zlt zjo zfo zsz zby znu) ig qt qr tbu wst asw pN tN aN (hdC (r 3)) (r 4) (r 5) (r 6) (r 7) wx pp tp ap sg uh ud up ur us ux G (xs (i + 1)) (xs (i + 2)) r hG) (z_rec cx.2 (hW.at 0 rfl) rfl) hW hS (fun q ⟨k, hk⟩ => by rw [hk]; exact hLF.2.2.2.1 k) m_ml_L_120 ⟨rfl, rfl⟩ ⟨Nat.le_of_ble_eq_true rfl, Nat.le_of_ble_eq_true rfl⟩ rfl hl.1 rfl (by simp [Value.category]) dL_law_1120 ⟨(by show cells ≤ 660476; omega), (by show slots ≤ 7114676; omega)⟩ (fun v H locs hq hS hk2 => ?_)
  obtain ⟨as2, sg2, rfl, hW2⟩ := hq
  have hW : WW E (wK b E.2.1 (wT b E.2.1 xN xT xA xh xd xl xr xo xw xpp xtp xap xsg yN yT yA yh yd yl yr yo yw ypp ytp yap ysg zat zpl zlt zjo zfo zsz zby znu) ig qt qr tbu wst as2 pN tN aN (hdC (r 3)) (r 4) (r 5) (r 6) (r 7) wx pp tp ap sg2 uh ud up ur us ux) G H := hW2
  have hV := hV.refK hk2.2 (fun j ⟨k, hk⟩ => hLF.1 j k hk)
  have hO := hO.kept hk2.2 (fun ⟨k, hk⟩ => hLF.2.1 k hk)
  refine (?_ : W p l e room_1 s m args below meth c H locs (cells + 0) (slots + 0) Q (F0 m 1123 ls [.int (lengthP r (xs (i + 1)) (xs (i + 2)))]))
  refine lv_aload_n (pc := 1123) hx hb dL_law_1123 rfl (lv_at hl 2 rfl) ?_
  refine lv_aload_n (pc := 1124) hx hb dL_law_1124 rfl (lv_at hl 4 rfl) ?_
  refine lv_iload (pc := 1125) hx hb dL_law_1125 (lv_at hl 0 rfl) ?_
  refine lv_iconst (pc := 1127) (v := 1) hx hb dL_law_1127 (by decide) ?_
  refine lv_iadd (pc := 1128) hx hb dL_law_1128 ?_
  refine z_sld (pc := 1129) (j := i + 1) cx hX hsb (Nat.not_le.mpr hsb) hS (by simp only [nI, Int32.ofNat_add] <;> rfl) (by omega) hLL dL_law_1129 ?_
  refine lv_aload_n (pc := 1130) hx hb dL_law_1130 rfl (lv_at hl 4 rfl) ?_
  refine lv_iload (pc := 1131) hx hb dL_law_1131 (lv_at hl 0 rfl) ?_
  refine lv_iconst (pc := 1133) (v := 2) hx hb dL_law_1133 (by decide) ?_
  refine lv_iadd (pc := 1134) hx hb dL_law_1134 ?_
  refine z_sld (pc := 1135) (j := i + 2) cx hX hsb (Nat.not_le.mpr hsb) hS (by simp only [nI, Int32.ofNat_add] <;> rfl) (by omega) hLL dL_law_1135 ?_
  refine z_callVw (pc := 1136) cx vm_X8_length (c_X8_length l E a r im rd wa kp so sz el pr ts nu bu ht th po ba en td ig ij (xs (i + 1)) (xs (i + 2)) hG.1) (z_rec cx.2 (hV.at 0 rfl) rfl) hV hS (fun q ⟨k, hk⟩ => by rw [hk]; exact hLF.2.2.2.2.1 k) m_ml_L_123 ⟨rfl, rfl⟩ ⟨Nat.le_of_ble_eq_true rfl, Nat.le_of_ble_eq_true rfl⟩ rfl hl.1 rfl (by simp [Value.category]) dL_law_1136 ⟨(by show cells + 0 ≤ 660476; omega), (by show slots + 0 ≤ 7114676; omega)⟩ (fun v H locs hq hS hk2 => ?_)
  obtain ⟨wa2, bu2, rfl, hV2⟩ := hq
  have hV : WW E (wM a (E.2.1 0) r im rd wa2 kp so sz el pr ts nu bu2 ht (bI ig) th po ba en td (bI ij)) gN H := hV2
  have hW := hW.clsK hk2.2 (fun k ⟨j, hj⟩ => hLF.1 j k hj.symm) (fun z e hz ⟨j, hj⟩ => (hSG z e hz).2.1 j hj)
  have hO := hO.kept hk2.2 (fun ⟨j, hj⟩ => hLF.2.2.1 j hj)
  refine (?_ : W p l e room_1 s m args below meth c H locs (cells + 0 + 0) (slots + 0 + 0) Q (F0 m 1139 ls [.int (lengthP r (xs (i + 1)) (xs (i + 2))), .int (lengthP r (xs (i + 1)) (xs (i + 2)))]))
  refine lv_icmp_eq (pc := 1139) (tgt := 1840) hx hb dL_law_1139 (by decide) (fun _ => ?_) (fun c => absurd rfl c)
  refine W.widen (k := cells + 200) (n := slots + 2000) (by omega) (by omega) ?_
  exact kk r im ig kp so sz el pr ts G H locs ls (lv_sub hl [0, 1, 2, 3, 4] rfl) (CLS.mk hW hG hSh hIm hrp hrt hra hxp hxt hxa hrd hdm hri hwr) ⟨_, _, _, _, _, _, _, _, _, _, _, hV⟩ hO hSG hS
