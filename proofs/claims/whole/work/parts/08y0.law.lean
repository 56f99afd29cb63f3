set_option maxHeartbeats 4000000 in
set_option maxRecDepth 100000 in
theorem y_0 (l : Launch) (hst : l.stackTraces = false) {p : Program} {e : Env} {s : State} {m : MethodId} {args : Array Value} {below : List Frame} {meth : Method} {c : Code} {H : Heap} {locs : List Loc} {cells slots : Nat} {Q : State → Prop} {ls : Array Slot} {E : zE} {a b : Nat → Nat} {o sb L i : Nat} {xs : Nat → Int32} {r : Nat → Int32} {im : Nat → Int32} {ig : Bool} {kp : Nat → Int32} {so : Nat → Int32} {sz : Nat → Int32} {el : Nat → Int32} {pr : Nat → Int32} {ts : Nat → Int32} {G : zG} (cx : Cx E p s args m c RL code 8) (hX : va_X sb L xs s s.heap) (hsb : sb < s.heap.size) (hLL : L ≤ 3072) (hi : i + 6 ≤ L) (hLF : LF a b o s.heap.size) (hCE : CE E (FL s.heap.size) s s.heap) (hXE : XE E (FL s.heap.size) s s.heap) (hl : lv_has ls 8 [(4, .int (nI i)), (3, .ref o), (2, .ref (a 0)), (1, .ref (b 0)), (0, .ref sb)]) (hS : va_S (FL s.heap.size) s.heap H locs) (hc1 : cells + 200 ≤ 660476) (hc2 : slots + 2000 ≤ 7114676) (hC : CLS E b r im ig kp so sz el pr ts G H) (hR : REF E a r im ig kp so sz el pr ts H) (hO : OUTc E o H) (hSG : SEP a o s.heap.size G) (kk : ∀ (r : Nat → Int32) (im : Nat → Int32) (ig : Bool) (kp : Nat → Int32) (so : Nat → Int32) (sz : Nat → Int32) (el : Nat → Int32) (pr : Nat → Int32) (ts : Nat → Int32) (G : zG) (H1 : Heap) (locs1 : List Loc) (ls1 : Array Slot), lv_has ls1 8 [(4, .int (nI i)), (3, .ref o), (2, .ref (a 0)), (1, .ref (b 0)), (0, .ref sb)] → CLS E b r im ig kp so sz el pr ts G H1 → REF E a r im ig kp so sz el pr ts H1 → OUTc E o H1 → SEP a o s.heap.size G → va_S (FL s.heap.size) s.heap H1 locs1 → W p l e room_1 s m args below meth c H1 locs1 (cells + 200) (slots + 2000) Q (F0 m 1840 ls1 [])) : W p l e room_1 s m args below meth c H locs cells slots Q (F0 m 224 ls []) := by
  refine hC.elim (fun qt qr tbu wst asw pN tN aN wx pp tp ap sg uh ud up ur us ux xN xT xA xh xd xl xr xo xw xpp xtp xap xsg yN yT yA yh yd yl yr yo yw ypp ytp yap ysg zat zpl zlt zjo zfo zsz zby znu hW hG hSh hIm hrp hrt hra hxp hxt hxa hrd hdm hri hwr => ?_)
  obtain ⟨rd, wa, nu, bu, ht, th, po, ba, en, td, ij, hV⟩ := hR
  have hx := cx.x
  have hb := cx.b
  refine lv_aload_n (pc := 224) hx hb dL_law_224 rfl (lv_at hl 3 rfl) ?_
  refine lv_aload_n (pc := 225) hx hb dL_law_225 rfl (lv_at hl 4 rfl) ?_
  refine lv_iload (pc := 226) hx hb dL_law_226 (lv_at hl 0 rfl) ?_
  refine lv_iconst (pc := 228) (v := 1) hx hb dL_law_228 (by decide) ?_
  refine lv_iadd (pc := 229) hx hb dL_law_229 ?_
  refine z_sld (pc := 230) (j := i + 1) cx hX hsb (Nat.not_le.mpr hsb) hS (by simp only [nI, Int32.ofNat_add] <;> rfl) (by omega) hLL dL_law_230 ?_
  have hVN := hV.refN hLF.2.2.2.2.2.2
  have hON := hO.lt
  have hSN := hS.1
  refine z_callVwc (pc := 231) cx ((hCE.kept hS.2.1).narrow (fun q h => h.elim (fun ⟨k, hk⟩ => by rw [hk]; exact hLF.2.2.2.1 k) (fun g => Nat.le_trans hS.1 g))) vm_X7_instrument (c_X7_instrument l E b ig qt qr tbu wst asw pN tN aN wx pp tp ap sg uh ud up ur us ux xN xT xA xh xd xl xr xo xw xpp xtp xap xsg yN yT yA yh yd yl yr yo yw ypp ytp yap ysg zat zpl zlt zjo zfo zsz zby znu G H.size (xs (i + 1)) r kp so sz el pr ts hG hSh hrp hrt hra) (z_rec cx.2 (hW.at 0 rfl) rfl) ⟨hW, rfl⟩ hS (fun q h => h.elim (fun ⟨k, hk⟩ => by rw [hk]; exact hLF.2.2.2.1 k) (fun g => Nat.le_trans hS.1 g)) m_ml_L_21 ⟨rfl, rfl⟩ ⟨Nat.le_of_ble_eq_true rfl, Nat.le_of_ble_eq_true rfl⟩ rfl hl.1 rfl (by simp [Value.category]) dL_law_231 ⟨(by show cells + 101 ≤ 660476; omega), (by show slots + 606 ≤ 7114676; omega)⟩ (fun v H locs hq hS hk2 => ?_)
  obtain ⟨G2, pN2, tN2, wx2, pp2, tp2, yN2, yT2, yA2, yh2, yd2, yl2, yr2, yo2, yw2, ypp2, ytp2, yap2, zat2, zpl2, zlt2, zjo2, zfo2, zsz2, zby2, znu2, rfl, hGL, hng, hG2, hrp2, hrt2, hW2⟩ := hq
  have hW : WW E (wK b E.2.1 (wT b E.2.1 xN xT xA xh xd xl xr xo xw xpp xtp xap xsg yN2 yT2 yA2 yh2 yd2 yl2 yr2 yo2 yw2 ypp2 ytp2 yap2 ysg zat2 zpl2 zlt2 zjo2 zfo2 zsz2 zby2 znu2) ig qt qr tbu wst asw pN2 tN2 aN (hdC ((instS kp so sz el r znu (xs (i + 1))) 3)) ((instS kp so sz el r znu (xs (i + 1))) 4) ((instS kp so sz el r znu (xs (i + 1))) 5) ((instS kp so sz el r znu (xs (i + 1))) 6) ((instS kp so sz el r znu (xs (i + 1))) 7) wx2 pp2 tp2 ap sg uh ud up ur us ux) G2 H := hW2
  have hV := hV.refK hk2.2 (fun j h => h.elim (fun ⟨k, hk⟩ => hLF.1 j k hk) (fun g => absurd (hVN j) (Nat.not_lt.mpr g)))
  have hO := hO.kept hk2.2 (fun h => h.elim (fun ⟨k, hk⟩ => hLF.2.1 k hk) (fun g => absurd hON (Nat.not_lt.mpr g)))
  have hSG2 := hSG.fr hng hSN hON hVN
  refine (?_ : W p l e room_1 s m args below meth c H locs (cells + 101) (slots + 606) Q (F0 m 234 ls [.int (instR kp so sz el r znu (xs (i + 1)))]))
  refine lv_aload_n (pc := 234) hx hb dL_law_234 rfl (lv_at hl 2 rfl) ?_
  refine lv_aload_n (pc := 235) hx hb dL_law_235 rfl (lv_at hl 4 rfl) ?_
  refine lv_iload (pc := 236) hx hb dL_law_236 (lv_at hl 0 rfl) ?_
  refine lv_iconst (pc := 238) (v := 1) hx hb dL_law_238 (by decide) ?_
  refine lv_iadd (pc := 239) hx hb dL_law_239 ?_
  refine z_sld (pc := 240) (j := i + 1) cx hX hsb (Nat.not_le.mpr hsb) hS (by simp only [nI, Int32.ofNat_add] <;> rfl) (by omega) hLL dL_law_240 ?_
  refine z_callVw (pc := 241) cx vm_X8_instrument (c_X8_instrument l E a r im rd wa kp so sz el pr ts nu bu ht th po ba en td ig ij (xs (i + 1)) hG.1 hSh.1) (z_rec cx.2 (hV.at 0 rfl) rfl) hV hS (fun q ⟨k, hk⟩ => by rw [hk]; exact hLF.2.2.2.2.1 k) m_ml_L_25 ⟨rfl, rfl⟩ ⟨Nat.le_of_ble_eq_true rfl, Nat.le_of_ble_eq_true rfl⟩ rfl hl.1 rfl (by simp [Value.category]) dL_law_241 ⟨(by show cells + 101 ≤ 660476; omega), (by show slots + 606 ≤ 7114676; omega)⟩ (fun v H locs hq hS hk2 => ?_)
  obtain ⟨rd2, po2, ba2, en2, td2, nu2, ij2, rfl, hV2⟩ := hq
  have hV : WW E (wM a (E.2.1 0) (instS kp so sz el r nu (xs (i + 1))) im rd2 wa kp so sz el pr ts nu2 bu ht (bI ig) th po2 ba2 en2 td2 (bI ij2)) gN H := hV2
  have hW := hW.clsK hk2.2 (fun k ⟨j, hj⟩ => hLF.1 j k hj.symm) (fun z e hz ⟨j, hj⟩ => (hSG2 z e hz).2.1 j hj)
  have hO := hO.kept hk2.2 (fun ⟨j, hj⟩ => hLF.2.2.1 j hj)
  rw [(inst_e kp so sz el r nu znu (xs (i + 1))).2] at hV
  refine (?_ : W p l e room_1 s m args below meth c H locs (cells + 101 + 0) (slots + 606 + 0) Q (F0 m 244 ls [.int (instR kp so sz el r nu (xs (i + 1))), .int (instR kp so sz el r znu (xs (i + 1)))]))
  refine lv_icmp_eq (pc := 244) (tgt := 1840) hx hb dL_law_244 (by decide) (fun _ => ?_) (fun c => absurd (inst_e kp so sz el r znu nu (xs (i + 1))).1 c)
  refine W.widen (k := cells + 200) (n := slots + 2000) (by omega) (by omega) ?_
  exact kk (instS kp so sz el r znu (xs (i + 1))) im ig kp so sz el pr ts G2 H locs ls (lv_sub hl [0, 1, 2, 3, 4] rfl) (CLS.mk hW hG2 (hSh.mono hGL) (hIm.mono hGL hdm) hrp2 hrt2 (hra.mono hGL) (hxp.mono hGL) (hxt.mono hGL) (hxa.mono hGL) (hrd.mono hdm hGL) (hdm.mono hGL) (hri.mono hdm hGL) ((hwr.mono hG hGL hdm).le (Nat.le_of_eq (CG_nA hG hG2)))) ⟨_, _, _, _, _, _, _, _, _, _, _, hV⟩ hO hSG2 hS
set_option maxHeartbeats 4000000 in
set_option maxRecDepth 100000 in
theorem y_1 (l : Launch) (hst : l.stackTraces = false) {p : Program} {e : Env} {s : State} {m : MethodId} {args : Array Value} {below : List Frame} {meth : Method} {c : Code} {H : Heap} {locs : List Loc} {cells slots : Nat} {Q : State → Prop} {ls : Array Slot} {E : zE} {a b : Nat → Nat} {o sb L i : Nat} {xs : Nat → Int32} {r : Nat → Int32} {im : Nat → Int32} {ig : Bool} {kp : Nat → Int32} {so : Nat → Int32} {sz : Nat → Int32} {el : Nat → Int32} {pr : Nat → Int32} {ts : Nat → Int32} {G : zG} (cx : Cx E p s args m c RL code 8) (hX : va_X sb L xs s s.heap) (hsb : sb < s.heap.size) (hLL : L ≤ 3072) (hi : i + 6 ≤ L) (hLF : LF a b o s.heap.size) (hCE : CE E (FL s.heap.size) s s.heap) (hXE : XE E (FL s.heap.size) s s.heap) (hl : lv_has ls 8 [(4, .int (nI i)), (3, .ref o), (2, .ref (a 0)), (1, .ref (b 0)), (0, .ref sb)]) (hS : va_S (FL s.heap.size) s.heap H locs) (hc1 : cells + 200 ≤ 660476) (hc2 : slots + 2000 ≤ 7114676) (hC : CLS E b r im ig kp so sz el pr ts G H) (hR : REF E a r im ig kp so sz el pr ts H) (hO : OUTc E o H) (hSG : SEP a o s.heap.size G) (kk : ∀ (r : Nat → Int32) (im : Nat → Int32) (ig : Bool) (kp : Nat → Int32) (so : Nat → Int32) (sz : Nat → Int32) (el : Nat → Int32) (pr : Nat → Int32) (ts : Nat → Int32) (G : zG) (H1 : Heap) (locs1 : List Loc) (ls1 : Array Slot), lv_has ls1 8 [(4, .int (nI i)), (3, .ref o), (2, .ref (a 0)), (1, .ref (b 0)), (0, .ref sb)] → CLS E b r im ig kp so sz el pr ts G H1 → REF E a r im ig kp so sz el pr ts H1 → OUTc E o H1 → SEP a o s.heap.size G → va_S (FL s.heap.size) s.heap H1 locs1 → W p l e room_1 s m args below meth c H1 locs1 (cells + 200) (slots + 2000) Q (F0 m 1840 ls1 [])) : W p l e room_1 s m args below meth c H locs cells slots Q (F0 m 249 ls []) := by
  refine hC.elim (fun qt qr tbu wst asw pN tN aN wx pp tp ap sg uh ud up ur us ux xN xT xA xh xd xl xr xo xw xpp xtp xap xsg yN yT yA yh yd yl yr yo yw ypp ytp yap ysg zat zpl zlt zjo zfo zsz zby znu hW hG hSh hIm hrp hrt hra hxp hxt hxa hrd hdm hri hwr => ?_)
  obtain ⟨rd, wa, nu, bu, ht, th, po, ba, en, td, ij, hV⟩ := hR
  have hx := cx.x
  have hb := cx.b
  refine lv_aload_n (pc := 249) hx hb dL_law_249 rfl (lv_at hl 3 rfl) ?_
  refine lv_aload_n (pc := 250) hx hb dL_law_250 rfl (lv_at hl 4 rfl) ?_
  refine lv_iload (pc := 251) hx hb dL_law_251 (lv_at hl 0 rfl) ?_
  refine lv_iconst (pc := 253) (v := 1) hx hb dL_law_253 (by decide) ?_
  refine lv_iadd (pc := 254) hx hb dL_law_254 ?_
  refine z_sld (pc := 255) (j := i + 1) cx hX hsb (Nat.not_le.mpr hsb) hS (by simp only [nI, Int32.ofNat_add] <;> rfl) (by omega) hLL dL_law_255 ?_
  refine lv_aload_n (pc := 256) hx hb dL_law_256 rfl (lv_at hl 4 rfl) ?_
  refine lv_iload (pc := 257) hx hb dL_law_257 (lv_at hl 0 rfl) ?_
  refine lv_iconst (pc := 259) (v := 2) hx hb dL_law_259 (by decide) ?_
  refine lv_iadd (pc := 260) hx hb dL_law_260 ?_
  refine z_sld (pc := 261) (j := i + 2) cx hX hsb (Nat.not_le.mpr hsb) hS (by simp only [nI, Int32.ofNat_add] <;> rfl) (by omega) hLL dL_law_261 ?_
  refine z_callV (pc := 262) cx vm_X7_piece (c_X7_piece l E b (wT b E.2.1 xN xT xA xh xd xl xr xo xw xpp xtp xap xsg yN yT yA yh yd yl yr yo yw ypp ytp yap ysg zat zpl zlt zjo zfo zsz zby znu) ig qt qr tbu wst asw pN tN aN wx pp tp ap sg uh ud up ur us ux G (xs (i + 1)) (xs (i + 2)) r hG) (z_rec cx.2 (hW.at 0 rfl) rfl) hW m_ml_L_26 ⟨rfl, rfl⟩ ⟨Nat.le_of_ble_eq_true rfl, Nat.le_of_ble_eq_true rfl⟩ rfl hl.1 rfl (by simp [Value.category]) dL_law_262 ⟨(by show cells ≤ 660476; omega), (by show slots ≤ 7114676; omega)⟩ ?_
  refine (?_ : W p l e room_1 s m args below meth c H locs cells slots Q (F0 m 265 ls [.int (pieceP r (xs (i + 1)) (xs (i + 2)))]))
  refine lv_aload_n (pc := 265) hx hb dL_law_265 rfl (lv_at hl 2 rfl) ?_
  refine lv_aload_n (pc := 266) hx hb dL_law_266 rfl (lv_at hl 4 rfl) ?_
  refine lv_iload (pc := 267) hx hb dL_law_267 (lv_at hl 0 rfl) ?_
  refine lv_iconst (pc := 269) (v := 1) hx hb dL_law_269 (by decide) ?_
  refine lv_iadd (pc := 270) hx hb dL_law_270 ?_
  refine z_sld (pc := 271) (j := i + 1) cx hX hsb (Nat.not_le.mpr hsb) hS (by simp only [nI, Int32.ofNat_add] <;> rfl) (by omega) hLL dL_law_271 ?_
  refine lv_aload_n (pc := 272) hx hb dL_law_272 rfl (lv_at hl 4 rfl) ?_
  refine lv_iload (pc := 273) hx hb dL_law_273 (lv_at hl 0 rfl) ?_
  refine lv_iconst (pc := 275) (v := 2) hx hb dL_law_275 (by decide) ?_
  refine lv_iadd (pc := 276) hx hb dL_law_276 ?_
  refine z_sld (pc := 277) (j := i + 2) cx hX hsb (Nat.not_le.mpr hsb) hS (by simp only [nI, Int32.ofNat_add] <;> rfl) (by omega) hLL dL_law_277 ?_
  refine z_callV (pc := 278) cx vm_X8_piece (c_X8_piece l E a r im rd wa kp so sz el pr ts nu bu ht th po ba en td ig ij (xs (i + 1)) (xs (i + 2)) hG.1) (z_rec cx.2 (hV.at 0 rfl) rfl) hV m_ml_L_30 ⟨rfl, rfl⟩ ⟨Nat.le_of_ble_eq_true rfl, Nat.le_of_ble_eq_true rfl⟩ rfl hl.1 rfl (by simp [Value.category]) dL_law_278 ⟨(by show cells ≤ 660476; omega), (by show slots ≤ 7114676; omega)⟩ ?_
  refine (?_ : W p l e room_1 s m args below meth c H locs cells slots Q (F0 m 281 ls [.int (pieceP r (xs (i + 1)) (xs (i + 2))), .int (pieceP r (xs (i + 1)) (xs (i + 2)))]))
  refine lv_icmp_eq (pc := 281) (tgt := 1840) hx hb dL_law_281 (by decide) (fun _ => ?_) (fun c => absurd rfl c)
  refine W.widen (k := cells + 200) (n := slots + 2000) (by omega) (by omega) ?_
  exact kk r im ig kp so sz el pr ts G H locs ls (lv_sub hl [0, 1, 2, 3, 4] rfl) (CLS.mk hW hG hSh hIm hrp hrt hra hxp hxt hxa hrd hdm hri hwr) ⟨_, _, _, _, _, _, _, _, _, _, _, hV⟩ hO hSG hS
set_option maxHeartbeats 4000000 in
set_option maxRecDepth 100000 in
theorem y_2 (l : Launch) (hst : l.stackTraces = false) {p : Program} {e : Env} {s : State} {m : MethodId} {args : Array Value} {below : List Frame} {meth : Method} {c : Code} {H : Heap} {locs : List Loc} {cells slots : Nat} {Q : State → Prop} {ls : Array Slot} {E : zE} {a b : Nat → Nat} {o sb L i : Nat} {xs : Nat → Int32} {r : Nat → Int32} {im : Nat → Int32} {ig : Bool} {kp : Nat → Int32} {so : Nat → Int32} {sz : Nat → Int32} {el : Nat → Int32} {pr : Nat → Int32} {ts : Nat → Int32} {G : zG} (cx : Cx E p s args m c RL code 8) (hX : va_X sb L xs s s.heap) (hsb : sb < s.heap.size) (hLL : L ≤ 3072) (hi : i + 6 ≤ L) (hLF : LF a b o s.heap.size) (hCE : CE E (FL s.heap.size) s s.heap) (hXE : XE E (FL s.heap.size) s s.heap) (hl : lv_has ls 8 [(4, .int (nI i)), (3, .ref o), (2, .ref (a 0)), (1, .ref (b 0)), (0, .ref sb)]) (hS : va_S (FL s.heap.size) s.heap H locs) (hc1 : cells + 200 ≤ 660476) (hc2 : slots + 2000 ≤ 7114676) (hC : CLS E b r im ig kp so sz el pr ts G H) (hR : REF E a r im ig kp so sz el pr ts H) (hO : OUTc E o H) (hSG : SEP a o s.heap.size G) (kk : ∀ (r : Nat → Int32) (im : Nat → Int32) (ig : Bool) (kp : Nat → Int32) (so : Nat → Int32) (sz : Nat → Int32) (el : Nat → Int32) (pr : Nat → Int32) (ts : Nat → Int32) (G : zG) (H1 : Heap) (locs1 : List Loc) (ls1 : Array Slot), lv_has ls1 8 [(4, .int (nI i)), (3, .ref o), (2, .ref (a 0)), (1, .ref (b 0)), (0, .ref sb)] → CLS E b r im ig kp so sz el pr ts G H1 → REF E a r im ig kp so sz el pr ts H1 → OUTc E o H1 → SEP a o s.heap.size G → va_S (FL s.heap.size) s.heap H1 locs1 → W p l e room_1 s m args below meth c H1 locs1 (cells + 200) (slots + 2000) Q (F0 m 1840 ls1 [])) : W p l e room_1 s m args below meth c H locs cells slots Q (F0 m 286 ls []) := by
  refine hC.elim (fun qt qr tbu wst asw pN tN aN wx pp tp ap sg uh ud up ur us ux xN xT xA xh xd xl xr xo xw xpp xtp xap xsg yN yT yA yh yd yl yr yo yw ypp ytp yap ysg zat zpl zlt zjo zfo zsz zby znu hW hG hSh hIm hrp hrt hra hxp hxt hxa hrd hdm hri hwr => ?_)
  obtain ⟨rd, wa, nu, bu, ht, th, po, ba, en, td, ij, hV⟩ := hR
  have hx := cx.x
  have hb := cx.b
  refine lv_aload_n (pc := 286) hx hb dL_law_286 rfl (lv_at hl 3 rfl) ?_
  refine lv_aload_n (pc := 287) hx hb dL_law_287 rfl (lv_at hl 4 rfl) ?_
  refine lv_iload (pc := 288) hx hb dL_law_288 (lv_at hl 0 rfl) ?_
  refine lv_iconst (pc := 290) (v := 1) hx hb dL_law_290 (by decide) ?_
  refine lv_iadd (pc := 291) hx hb dL_law_291 ?_
  refine z_sld (pc := 292) (j := i + 1) cx hX hsb (Nat.not_le.mpr hsb) hS (by simp only [nI, Int32.ofNat_add] <;> rfl) (by omega) hLL dL_law_292 ?_
  refine lv_aload_n (pc := 293) hx hb dL_law_293 rfl (lv_at hl 4 rfl) ?_
  refine lv_iload (pc := 294) hx hb dL_law_294 (lv_at hl 0 rfl) ?_
  refine lv_iconst (pc := 296) (v := 2) hx hb dL_law_296 (by decide) ?_
  refine lv_iadd (pc := 297) hx hb dL_law_297 ?_
  refine z_sld (pc := 298) (j := i + 2) cx hX hsb (Nat.not_le.mpr hsb) hS (by simp only [nI, Int32.ofNat_add] <;> rfl) (by omega) hLL dL_law_298 ?_
  refine z_callV (pc := 299) cx vm_X7_thing (c_X7_thing l E b (wT b E.2.1 xN xT xA xh xd xl xr xo xw xpp xtp xap xsg yN yT yA yh yd yl yr yo yw ypp ytp yap ysg zat zpl zlt zjo zfo zsz zby znu) ig qt qr tbu wst asw pN tN aN (hdC (r 3)) (r 4) (r 5) (r 6) (r 7) wx pp tp ap sg uh ud up ur us ux G (xs (i + 1)) (xs (i + 2)) r hG) (z_rec cx.2 (hW.at 0 rfl) rfl) hW m_ml_L_31 ⟨rfl, rfl⟩ ⟨Nat.le_of_ble_eq_true rfl, Nat.le_of_ble_eq_true rfl⟩ rfl hl.1 rfl (by simp [Value.category]) dL_law_299 ⟨(by show cells ≤ 660476; omega), (by show slots ≤ 7114676; omega)⟩ ?_
  refine (?_ : W p l e room_1 s m args below meth c H locs cells slots Q (F0 m 302 ls [.int (thingP r (xs (i + 1)) (xs (i + 2)))]))
  refine lv_aload_n (pc := 302) hx hb dL_law_302 rfl (lv_at hl 2 rfl) ?_
  refine lv_aload_n (pc := 303) hx hb dL_law_303 rfl (lv_at hl 4 rfl) ?_
  refine lv_iload (pc := 304) hx hb dL_law_304 (lv_at hl 0 rfl) ?_
  refine lv_iconst (pc := 306) (v := 1) hx hb dL_law_306 (by decide) ?_
  refine lv_iadd (pc := 307) hx hb dL_law_307 ?_
  refine z_sld (pc := 308) (j := i + 1) cx hX hsb (Nat.not_le.mpr hsb) hS (by simp only [nI, Int32.ofNat_add] <;> rfl) (by omega) hLL dL_law_308 ?_
  refine lv_aload_n (pc := 309) hx hb dL_law_309 rfl (lv_at hl 4 rfl) ?_
  refine lv_iload (pc := 310) hx hb dL_law_310 (lv_at hl 0 rfl) ?_
  refine lv_iconst (pc := 312) (v := 2) hx hb dL_law_312 (by decide) ?_
  refine lv_iadd (pc := 313) hx hb dL_law_313 ?_
  refine z_sld (pc := 314) (j := i + 2) cx hX hsb (Nat.not_le.mpr hsb) hS (by simp only [nI, Int32.ofNat_add] <;> rfl) (by omega) hLL dL_law_314 ?_
  refine z_callV (pc := 315) cx vm_X8_thing (c_X8_thing l E a r im rd wa kp so sz el pr ts nu bu ht th po ba en td ig ij (xs (i + 1)) (xs (i + 2)) hG.1) (z_rec cx.2 (hV.at 0 rfl) rfl) hV m_ml_L_34 ⟨rfl, rfl⟩ ⟨Nat.le_of_ble_eq_true rfl, Nat.le_of_ble_eq_true rfl⟩ rfl hl.1 rfl (by simp [Value.category]) dL_law_315 ⟨(by show cells ≤ 660476; omega), (by show slots ≤ 7114676; omega)⟩ ?_
  refine (?_ : W p l e room_1 s m args below meth c H locs cells slots Q (F0 m 318 ls [.int (thingP r (xs (i + 1)) (xs (i + 2))), .int (thingP r (xs (i + 1)) (xs (i + 2)))]))
  refine lv_icmp_eq (pc := 318) (tgt := 1840) hx hb dL_law_318 (by decide) (fun _ => ?_) (fun c => absurd rfl c)
  refine W.widen (k := cells + 200) (n := slots + 2000) (by omega) (by omega) ?_
  exact kk r im ig kp so sz el pr ts G H locs ls (lv_sub hl [0, 1, 2, 3, 4] rfl) (CLS.mk hW hG hSh hIm hrp hrt hra hxp hxt hxa hrd hdm hri hwr) ⟨_, _, _, _, _, _, _, _, _, _, _, hV⟩ hO hSG hS
set_option maxHeartbeats 4000000 in
set_option maxRecDepth 100000 in
theorem y_3 (l : Launch) (hst : l.stackTraces = false) {p : Program} {e : Env} {s : State} {m : MethodId} {args : Array Value} {below : List Frame} {meth : Method} {c : Code} {H : Heap} {locs : List Loc} {cells slots : Nat} {Q : State → Prop} {ls : Array Slot} {E : zE} {a b : Nat → Nat} {o sb L i : Nat} {xs : Nat → Int32} {r : Nat → Int32} {im : Nat → Int32} {ig : Bool} {kp : Nat → Int32} {so : Nat → Int32} {sz : Nat → Int32} {el : Nat → Int32} {pr : Nat → Int32} {ts : Nat → Int32} {G : zG} (cx : Cx E p s args m c RL code 8) (hX : va_X sb L xs s s.heap) (hsb : sb < s.heap.size) (hLL : L ≤ 3072) (hi : i + 6 ≤ L) (hLF : LF a b o s.heap.size) (hCE : CE E (FL s.heap.size) s s.heap) (hXE : XE E (FL s.heap.size) s s.heap) (hl : lv_has ls 8 [(4, .int (nI i)), (3, .ref o), (2, .ref (a 0)), (1, .ref (b 0)), (0, .ref sb)]) (hS : va_S (FL s.heap.size) s.heap H locs) (hc1 : cells + 200 ≤ 660476) (hc2 : slots + 2000 ≤ 7114676) (hC : CLS E b r im ig kp so sz el pr ts G H) (hR : REF E a r im ig kp so sz el pr ts H) (hO : OUTc E o H) (hSG : SEP a o s.heap.size G) (kk : ∀ (r : Nat → Int32) (im : Nat → Int32) (ig : Bool) (kp : Nat → Int32) (so : Nat → Int32) (sz : Nat → Int32) (el : Nat → Int32) (pr : Nat → Int32) (ts : Nat → Int32) (G : zG) (H1 : Heap) (locs1 : List Loc) (ls1 : Array Slot), lv_has ls1 8 [(4, .int (nI i)), (3, .ref o), (2, .ref (a 0)), (1, .ref (b 0)), (0, .ref sb)] → CLS E b r im ig kp so sz el pr ts G H1 → REF E a r im ig kp so sz el pr ts H1 → OUTc E o H1 → SEP a o s.heap.size G → va_S (FL s.heap.size) s.heap H1 locs1 → W p l e room_1 s m args below meth c H1 locs1 (cells + 200) (slots + 2000) Q (F0 m 1840 ls1 [])) : W p l e room_1 s m args below meth c H locs cells slots Q (F0 m 323 ls []) := by
  refine hC.elim (fun qt qr tbu wst asw pN tN aN wx pp tp ap sg uh ud up ur us ux xN xT xA xh xd xl xr xo xw xpp xtp xap xsg yN yT yA yh yd yl yr yo yw ypp ytp yap ysg zat zpl zlt zjo zfo zsz zby znu hW hG hSh hIm hrp hrt hra hxp hxt hxa hrd hdm hri hwr => ?_)
  obtain ⟨rd, wa, nu, bu, ht, th, po, ba, en, td, ij, hV⟩ := hR
  have hx := cx.x
  have hb := cx.b
  refine lv_aload_n (pc := 323) hx hb dL_law_323 rfl (lv_at hl 3 rfl) ?_
  refine lv_aload_n (pc := 324) hx hb dL_law_324 rfl (lv_at hl 4 rfl) ?_
  refine lv_iload (pc := 325) hx hb dL_law_325 (lv_at hl 0 rfl) ?_
  refine lv_iconst (pc := 327) (v := 1) hx hb dL_law_327 (by decide) ?_
  refine lv_iadd (pc := 328) hx hb dL_law_328 ?_
  refine z_sld (pc := 329) (j := i + 1) cx hX hsb (Nat.not_le.mpr hsb) hS (by simp only [nI, Int32.ofNat_add] <;> rfl) (by omega) hLL dL_law_329 ?_
  refine lv_aload_n (pc := 330) hx hb dL_law_330 rfl (lv_at hl 4 rfl) ?_
  refine lv_iload (pc := 331) hx hb dL_law_331 (lv_at hl 0 rfl) ?_
  refine lv_iconst (pc := 333) (v := 2) hx hb dL_law_333 (by decide) ?_
  refine lv_iadd (pc := 334) hx hb dL_law_334 ?_
  refine z_sld (pc := 335) (j := i + 2) cx hX hsb (Nat.not_le.mpr hsb) hS (by simp only [nI, Int32.ofNat_add] <;> rfl) (by omega) hLL dL_law_335 ?_
  refine z_callVw (pc := 336) cx vm_X7_wax (c_X7_wax l E b (wT b E.2.1 xN xT xA xh xd xl xr xo xw xpp xtp xap xsg yN yT yA yh yd yl yr yo yw ypp ytp yap ysg zat zpl zlt zjo zfo zsz zby znu) ig qt qr tbu wst asw pN tN aN wx pp tp ap sg uh ud up ur us ux G (xs (i + 1)) (xs (i + 2)) r hG) (z_rec cx.2 (hW.at 0 rfl) rfl) hW hS (fun q ⟨k, hk⟩ => by rw [hk]; exact hLF.2.2.2.1 k) m_ml_L_35 ⟨rfl, rfl⟩ ⟨Nat.le_of_ble_eq_true rfl, Nat.le_of_ble_eq_true rfl⟩ rfl hl.1 rfl (by simp [Value.category]) dL_law_336 ⟨(by show cells ≤ 660476; omega), (by show slots ≤ 7114676; omega)⟩ (fun v H locs hq hS hk2 => ?_)
  obtain ⟨wx2, rfl, hG2, hW2⟩ := hq
  have hW : WW E (wK b E.2.1 (wT b E.2.1 xN xT xA xh xd xl xr xo xw xpp xtp xap xsg yN yT yA yh yd yl yr yo yw ypp ytp yap ysg zat zpl zlt zjo zfo zsz zby znu) ig qt qr tbu wst asw pN tN aN (hdC ((waxS r (xs (i + 1)) (xs (i + 2))) 3)) ((waxS r (xs (i + 1)) (xs (i + 2))) 4) ((waxS r (xs (i + 1)) (xs (i + 2))) 5) ((waxS r (xs (i + 1)) (xs (i + 2))) 6) ((waxS r (xs (i + 1)) (xs (i + 2))) 7) wx2 pp tp ap sg uh ud up ur us ux) G H := hW2
  have hV := hV.refK hk2.2 (fun j ⟨k, hk⟩ => hLF.1 j k hk)
  have hO := hO.kept hk2.2 (fun ⟨k, hk⟩ => hLF.2.1 k hk)
  refine (?_ : W p l e room_1 s m args below meth c H locs (cells + 0) (slots + 0) Q (F0 m 339 ls [.int (waxR r (xs (i + 1)) (xs (i + 2)))]))
  refine lv_aload_n (pc := 339) hx hb dL_law_339 rfl (lv_at hl 2 rfl) ?_
  refine lv_aload_n (pc := 340) hx hb dL_law_340 rfl (lv_at hl 4 rfl) ?_
  refine lv_iload (pc := 341) hx hb dL_law_341 (lv_at hl 0 rfl) ?_
  refine lv_iconst (pc := 343) (v := 1) hx hb dL_law_343 (by decide) ?_
  refine lv_iadd (pc := 344) hx hb dL_law_344 ?_
  refine z_sld (pc := 345) (j := i + 1) cx hX hsb (Nat.not_le.mpr hsb) hS (by simp only [nI, Int32.ofNat_add] <;> rfl) (by omega) hLL dL_law_345 ?_
  refine lv_aload_n (pc := 346) hx hb dL_law_346 rfl (lv_at hl 4 rfl) ?_
  refine lv_iload (pc := 347) hx hb dL_law_347 (lv_at hl 0 rfl) ?_
  refine lv_iconst (pc := 349) (v := 2) hx hb dL_law_349 (by decide) ?_
  refine lv_iadd (pc := 350) hx hb dL_law_350 ?_
  refine z_sld (pc := 351) (j := i + 2) cx hX hsb (Nat.not_le.mpr hsb) hS (by simp only [nI, Int32.ofNat_add] <;> rfl) (by omega) hLL dL_law_351 ?_
  refine z_callVw (pc := 352) cx vm_X8_wax (c_X8_wax l E a r im rd wa kp so sz el pr ts nu bu ht th po ba en td ig ij (xs (i + 1)) (xs (i + 2)) hG.1) (z_rec cx.2 (hV.at 0 rfl) rfl) hV hS (fun q ⟨k, hk⟩ => by rw [hk]; exact hLF.2.2.2.2.1 k) m_ml_L_38 ⟨rfl, rfl⟩ ⟨Nat.le_of_ble_eq_true rfl, Nat.le_of_ble_eq_true rfl⟩ rfl hl.1 rfl (by simp [Value.category]) dL_law_352 ⟨(by show cells + 0 ≤ 660476; omega), (by show slots + 0 ≤ 7114676; omega)⟩ (fun v H locs hq hS hk2 => ?_)
  obtain ⟨rfl, hV2⟩ := hq
  have hV : WW E (wM a (E.2.1 0) (waxS r (xs (i + 1)) (xs (i + 2))) im rd wa kp so sz el pr ts nu bu ht (bI ig) th po ba en td (bI ij)) gN H := hV2
  have hW := hW.clsK hk2.2 (fun k ⟨j, hj⟩ => hLF.1 j k hj.symm) (fun z e hz ⟨j, hj⟩ => (hSG z e hz).2.1 j hj)
  have hO := hO.kept hk2.2 (fun ⟨j, hj⟩ => hLF.2.2.1 j hj)
  refine (?_ : W p l e room_1 s m args below meth c H locs (cells + 0 + 0) (slots + 0 + 0) Q (F0 m 355 ls [.int (waxR r (xs (i + 1)) (xs (i + 2))), .int (waxR r (xs (i + 1)) (xs (i + 2)))]))
  refine lv_icmp_eq (pc := 355) (tgt := 1840) hx hb dL_law_355 (by decide) (fun _ => ?_) (fun c => absurd rfl c)
  refine W.widen (k := cells + 200) (n := slots + 2000) (by omega) (by omega) ?_
  exact kk (waxS r (xs (i + 1)) (xs (i + 2))) im ig kp so sz el pr ts G H locs ls (lv_sub hl [0, 1, 2, 3, 4] rfl) (CLS.mk hW hG2 hSh hIm hrp hrt hra hxp hxt hxa hrd hdm hri (hwr.le (Nat.le_of_eq (CG_nA hG hG2)))) ⟨_, _, _, _, _, _, _, _, _, _, _, hV⟩ hO hSG hS
set_option maxHeartbeats 4000000 in
set_option maxRecDepth 100000 in
theorem y_4 (l : Launch) (hst : l.stackTraces = false) {p : Program} {e : Env} {s : State} {m : MethodId} {args : Array Value} {below : List Frame} {meth : Method} {c : Code} {H : Heap} {locs : List Loc} {cells slots : Nat} {Q : State → Prop} {ls : Array Slot} {E : zE} {a b : Nat → Nat} {o sb L i : Nat} {xs : Nat → Int32} {r : Nat → Int32} {im : Nat → Int32} {ig : Bool} {kp : Nat → Int32} {so : Nat → Int32} {sz : Nat → Int32} {el : Nat → Int32} {pr : Nat → Int32} {ts : Nat → Int32} {G : zG} (cx : Cx E p s args m c RL code 8) (hX : va_X sb L xs s s.heap) (hsb : sb < s.heap.size) (hLL : L ≤ 3072) (hi : i + 6 ≤ L) (hLF : LF a b o s.heap.size) (hCE : CE E (FL s.heap.size) s s.heap) (hXE : XE E (FL s.heap.size) s s.heap) (hl : lv_has ls 8 [(4, .int (nI i)), (3, .ref o), (2, .ref (a 0)), (1, .ref (b 0)), (0, .ref sb)]) (hS : va_S (FL s.heap.size) s.heap H locs) (hc1 : cells + 200 ≤ 660476) (hc2 : slots + 2000 ≤ 7114676) (hC : CLS E b r im ig kp so sz el pr ts G H) (hR : REF E a r im ig kp so sz el pr ts H) (hO : OUTc E o H) (hSG : SEP a o s.heap.size G) (kk : ∀ (r : Nat → Int32) (im : Nat → Int32) (ig : Bool) (kp : Nat → Int32) (so : Nat → Int32) (sz : Nat → Int32) (el : Nat → Int32) (pr : Nat → Int32) (ts : Nat → Int32) (G : zG) (H1 : Heap) (locs1 : List Loc) (ls1 : Array Slot), lv_has ls1 8 [(4, .int (nI i)), (3, .ref o), (2, .ref (a 0)), (1, .ref (b 0)), (0, .ref sb)] → CLS E b r im ig kp so sz el pr ts G H1 → REF E a r im ig kp so sz el pr ts H1 → OUTc E o H1 → SEP a o s.heap.size G → va_S (FL s.heap.size) s.heap H1 locs1 → W p l e room_1 s m args below meth c H1 locs1 (cells + 200) (slots + 2000) Q (F0 m 1840 ls1 [])) : W p l e room_1 s m args below meth c H locs cells slots Q (F0 m 360 ls []) := by
  refine hC.elim (fun qt qr tbu wst asw pN tN aN wx pp tp ap sg uh ud up ur us ux xN xT xA xh xd xl xr xo xw xpp xtp xap xsg yN yT yA yh yd yl yr yo yw ypp ytp yap ysg zat zpl zlt zjo zfo zsz zby znu hW hG hSh hIm hrp hrt hra hxp hxt hxa hrd hdm hri hwr => ?_)
  obtain ⟨rd, wa, nu, bu, ht, th, po, ba, en, td, ij, hV⟩ := hR
  have hx := cx.x
  have hb := cx.b
  refine lv_aload_n (pc := 360) hx hb dL_law_360 rfl (lv_at hl 3 rfl) ?_
  refine lv_aload_n (pc := 361) hx hb dL_law_361 rfl (lv_at hl 4 rfl) ?_
  refine lv_iload (pc := 362) hx hb dL_law_362 (lv_at hl 0 rfl) ?_
  refine lv_iconst (pc := 364) (v := 1) hx hb dL_law_364 (by decide) ?_
  refine lv_iadd (pc := 365) hx hb dL_law_365 ?_
  refine z_sld (pc := 366) (j := i + 1) cx hX hsb (Nat.not_le.mpr hsb) hS (by simp only [nI, Int32.ofNat_add] <;> rfl) (by omega) hLL dL_law_366 ?_
  refine z_callVw (pc := 367) cx vm_X7_hand (c_X7_hand l E b (wT b E.2.1 xN xT xA xh xd xl xr xo xw xpp xtp xap xsg yN yT yA yh yd yl yr yo yw ypp ytp yap ysg zat zpl zlt zjo zfo zsz zby znu) ig qt qr tbu wst asw pN tN aN wx pp tp ap sg uh ud up ur us ux G (xs (i + 1)) r hG) (z_rec cx.2 (hW.at 0 rfl) rfl) hW hS (fun q ⟨k, hk⟩ => by rw [hk]; exact hLF.2.2.2.1 k) m_ml_L_39 ⟨rfl, rfl⟩ ⟨Nat.le_of_ble_eq_true rfl, Nat.le_of_ble_eq_true rfl⟩ rfl hl.1 rfl (by simp [Value.category]) dL_law_367 ⟨(by show cells ≤ 660476; omega), (by show slots ≤ 7114676; omega)⟩ (fun v H locs hq hS hk2 => ?_)
  obtain ⟨rfl, hG2, hW2⟩ := hq
  have hW : WW E (wK b E.2.1 (wT b E.2.1 xN xT xA xh xd xl xr xo xw xpp xtp xap xsg yN yT yA yh yd yl yr yo yw ypp ytp yap ysg zat zpl zlt zjo zfo zsz zby znu) ig qt qr tbu wst asw pN tN aN (hdC ((handS r (xs (i + 1))) 3)) ((handS r (xs (i + 1))) 4) ((handS r (xs (i + 1))) 5) ((handS r (xs (i + 1))) 6) ((handS r (xs (i + 1))) 7) wx pp tp ap sg uh ud up ur us ux) G H := hW2
  have hV := hV.refK hk2.2 (fun j ⟨k, hk⟩ => hLF.1 j k hk)
  have hO := hO.kept hk2.2 (fun ⟨k, hk⟩ => hLF.2.1 k hk)
  refine (?_ : W p l e room_1 s m args below meth c H locs (cells + 0) (slots + 0) Q (F0 m 370 ls [.int (handR r (xs (i + 1)))]))
  refine lv_aload_n (pc := 370) hx hb dL_law_370 rfl (lv_at hl 2 rfl) ?_
  refine lv_aload_n (pc := 371) hx hb dL_law_371 rfl (lv_at hl 4 rfl) ?_
  refine lv_iload (pc := 372) hx hb dL_law_372 (lv_at hl 0 rfl) ?_
  refine lv_iconst (pc := 374) (v := 1) hx hb dL_law_374 (by decide) ?_
  refine lv_iadd (pc := 375) hx hb dL_law_375 ?_
  refine z_sld (pc := 376) (j := i + 1) cx hX hsb (Nat.not_le.mpr hsb) hS (by simp only [nI, Int32.ofNat_add] <;> rfl) (by omega) hLL dL_law_376 ?_
  refine z_callVw (pc := 377) cx vm_X8_hand (c_X8_hand l E a r im rd wa kp so sz el pr ts nu bu ht th po ba en td ig ij (xs (i + 1)) hG.1) (z_rec cx.2 (hV.at 0 rfl) rfl) hV hS (fun q ⟨k, hk⟩ => by rw [hk]; exact hLF.2.2.2.2.1 k) m_ml_L_42 ⟨rfl, rfl⟩ ⟨Nat.le_of_ble_eq_true rfl, Nat.le_of_ble_eq_true rfl⟩ rfl hl.1 rfl (by simp [Value.category]) dL_law_377 ⟨(by show cells + 0 ≤ 660476; omega), (by show slots + 0 ≤ 7114676; omega)⟩ (fun v H locs hq hS hk2 => ?_)
  obtain ⟨rfl, hV2⟩ := hq
  have hV : WW E (wM a (E.2.1 0) (handS r (xs (i + 1))) im rd wa kp so sz el pr ts nu bu ht (bI ig) th po ba en td (bI ij)) gN H := hV2
  have hW := hW.clsK hk2.2 (fun k ⟨j, hj⟩ => hLF.1 j k hj.symm) (fun z e hz ⟨j, hj⟩ => (hSG z e hz).2.1 j hj)
  have hO := hO.kept hk2.2 (fun ⟨j, hj⟩ => hLF.2.2.1 j hj)
  refine (?_ : W p l e room_1 s m args below meth c H locs (cells + 0 + 0) (slots + 0 + 0) Q (F0 m 380 ls [.int (handR r (xs (i + 1))), .int (handR r (xs (i + 1)))]))
  refine lv_icmp_eq (pc := 380) (tgt := 1840) hx hb dL_law_380 (by decide) (fun _ => ?_) (fun c => absurd rfl c)
  refine W.widen (k := cells + 200) (n := slots + 2000) (by omega) (by omega) ?_
  exact kk (handS r (xs (i + 1))) im ig kp so sz el pr ts G H locs ls (lv_sub hl [0, 1, 2, 3, 4] rfl) (CLS.mk hW hG2 hSh hIm hrp hrt hra hxp hxt hxa hrd hdm hri (hwr.le (Nat.le_of_eq (CG_nA hG hG2)))) ⟨_, _, _, _, _, _, _, _, _, _, _, hV⟩ hO hSG hS
set_option maxHeartbeats 4000000 in
set_option maxRecDepth 100000 in
theorem y_5 (l : Launch) (hst : l.stackTraces = false) {p : Program} {e : Env} {s : State} {m : MethodId} {args : Array Value} {below : List Frame} {meth : Method} {c : Code} {H : Heap} {locs : List Loc} {cells slots : Nat} {Q : State → Prop} {ls : Array Slot} {E : zE} {a b : Nat → Nat} {o sb L i : Nat} {xs : Nat → Int32} {r : Nat → Int32} {im : Nat → Int32} {ig : Bool} {kp : Nat → Int32} {so : Nat → Int32} {sz : Nat → Int32} {el : Nat → Int32} {pr : Nat → Int32} {ts : Nat → Int32} {G : zG} (cx : Cx E p s args m c RL code 8) (hX : va_X sb L xs s s.heap) (hsb : sb < s.heap.size) (hLL : L ≤ 3072) (hi : i + 6 ≤ L) (hLF : LF a b o s.heap.size) (hCE : CE E (FL s.heap.size) s s.heap) (hXE : XE E (FL s.heap.size) s s.heap) (hl : lv_has ls 8 [(4, .int (nI i)), (3, .ref o), (2, .ref (a 0)), (1, .ref (b 0)), (0, .ref sb)]) (hS : va_S (FL s.heap.size) s.heap H locs) (hc1 : cells + 200 ≤ 660476) (hc2 : slots + 2000 ≤ 7114676) (hC : CLS E b r im ig kp so sz el pr ts G H) (hR : REF E a r im ig kp so sz el pr ts H) (hO : OUTc E o H) (hSG : SEP a o s.heap.size G) (kk : ∀ (r : Nat → Int32) (im : Nat → Int32) (ig : Bool) (kp : Nat → Int32) (so : Nat → Int32) (sz : Nat → Int32) (el : Nat → Int32) (pr : Nat → Int32) (ts : Nat → Int32) (G : zG) (H1 : Heap) (locs1 : List Loc) (ls1 : Array Slot), lv_has ls1 8 [(4, .int (nI i)), (3, .ref o), (2, .ref (a 0)), (1, .ref (b 0)), (0, .ref sb)] → CLS E b r im ig kp so sz el pr ts G H1 → REF E a r im ig kp so sz el pr ts H1 → OUTc E o H1 → SEP a o s.heap.size G → va_S (FL s.heap.size) s.heap H1 locs1 → W p l e room_1 s m args below meth c H1 locs1 (cells + 200) (slots + 2000) Q (F0 m 1840 ls1 [])) : W p l e room_1 s m args below meth c H locs cells slots Q (F0 m 385 ls []) := by
  refine hC.elim (fun qt qr tbu wst asw pN tN aN wx pp tp ap sg uh ud up ur us ux xN xT xA xh xd xl xr xo xw xpp xtp xap xsg yN yT yA yh yd yl yr yo yw ypp ytp yap ysg zat zpl zlt zjo zfo zsz zby znu hW hG hSh hIm hrp hrt hra hxp hxt hxa hrd hdm hri hwr => ?_)
  obtain ⟨rd, wa, nu, bu, ht, th, po, ba, en, td, ij, hV⟩ := hR
  have hx := cx.x
  have hb := cx.b
  refine lv_aload_n (pc := 385) hx hb dL_law_385 rfl (lv_at hl 3 rfl) ?_
  refine lv_aload_n (pc := 386) hx hb dL_law_386 rfl (lv_at hl 4 rfl) ?_
  refine lv_iload (pc := 387) hx hb dL_law_387 (lv_at hl 0 rfl) ?_
  refine lv_iconst (pc := 389) (v := 1) hx hb dL_law_389 (by decide) ?_
  refine lv_iadd (pc := 390) hx hb dL_law_390 ?_
  refine z_sld (pc := 391) (j := i + 1) cx hX hsb (Nat.not_le.mpr hsb) hS (by simp only [nI, Int32.ofNat_add] <;> rfl) (by omega) hLL dL_law_391 ?_
  refine lv_aload_n (pc := 392) hx hb dL_law_392 rfl (lv_at hl 4 rfl) ?_
  refine lv_iload (pc := 393) hx hb dL_law_393 (lv_at hl 0 rfl) ?_
  refine lv_iconst (pc := 395) (v := 2) hx hb dL_law_395 (by decide) ?_
  refine lv_iadd (pc := 396) hx hb dL_law_396 ?_
  refine z_sld (pc := 397) (j := i + 2) cx hX hsb (Nat.not_le.mpr hsb) hS (by simp only [nI, Int32.ofNat_add] <;> rfl) (by omega) hLL dL_law_397 ?_
  refine z_callVwc (pc := 398) cx ((hCE.kept hS.2.1).narrow (fun q ⟨k, hk⟩ => by rw [hk]; exact hLF.2.2.2.1 k)) vm_X7_set (c_X7_set l E b (wT b E.2.1 xN xT xA xh xd xl xr xo xw xpp xtp xap xsg yN yT yA yh yd yl yr yo yw ypp ytp yap ysg zat zpl zlt zjo zfo zsz zby znu) ig qt qr tbu wst asw pN tN aN wx pp tp ap sg uh ud up ur us ux G (xs (i + 1)) (xs (i + 2)) r hG) (z_rec cx.2 (hW.at 0 rfl) rfl) hW hS (fun q ⟨k, hk⟩ => by rw [hk]; exact hLF.2.2.2.1 k) m_ml_L_43 ⟨rfl, rfl⟩ ⟨Nat.le_of_ble_eq_true rfl, Nat.le_of_ble_eq_true rfl⟩ rfl hl.1 rfl (by simp [Value.category]) dL_law_398 ⟨(by show cells ≤ 660476; omega), (by show slots ≤ 7114676; omega)⟩ (fun v H locs hq hS hk2 => ?_)
  obtain ⟨rfl, hG2, hW2⟩ := hq
  have hW : WW E (wK b E.2.1 (wT b E.2.1 xN xT xA xh xd xl xr xo xw xpp xtp xap xsg yN yT yA yh yd yl yr yo yw ypp ytp yap ysg zat zpl zlt zjo zfo zsz zby znu) ig qt qr tbu wst asw pN tN aN (hdC ((setS r (xs (i + 1)) (xs (i + 2))) 3)) ((setS r (xs (i + 1)) (xs (i + 2))) 4) ((setS r (xs (i + 1)) (xs (i + 2))) 5) ((setS r (xs (i + 1)) (xs (i + 2))) 6) ((setS r (xs (i + 1)) (xs (i + 2))) 7) wx pp tp ap sg uh ud up ur us ux) G H := hW2
  have hV := hV.refK hk2.2 (fun j ⟨k, hk⟩ => hLF.1 j k hk)
  have hO := hO.kept hk2.2 (fun ⟨k, hk⟩ => hLF.2.1 k hk)
  refine (?_ : W p l e room_1 s m args below meth c H locs (cells + 0) (slots + 0) Q (F0 m 401 ls [.int (setR r (xs (i + 1)) (xs (i + 2)))]))
  refine lv_aload_n (pc := 401) hx hb dL_law_401 rfl (lv_at hl 2 rfl) ?_
  refine lv_aload_n (pc := 402) hx hb dL_law_402 rfl (lv_at hl 4 rfl) ?_
  refine lv_iload (pc := 403) hx hb dL_law_403 (lv_at hl 0 rfl) ?_
  refine lv_iconst (pc := 405) (v := 1) hx hb dL_law_405 (by decide) ?_
  refine lv_iadd (pc := 406) hx hb dL_law_406 ?_
  refine z_sld (pc := 407) (j := i + 1) cx hX hsb (Nat.not_le.mpr hsb) hS (by simp only [nI, Int32.ofNat_add] <;> rfl) (by omega) hLL dL_law_407 ?_
  refine lv_aload_n (pc := 408) hx hb dL_law_408 rfl (lv_at hl 4 rfl) ?_
  refine lv_iload (pc := 409) hx hb dL_law_409 (lv_at hl 0 rfl) ?_
  refine lv_iconst (pc := 411) (v := 2) hx hb dL_law_411 (by decide) ?_
  refine lv_iadd (pc := 412) hx hb dL_law_412 ?_
  refine z_sld (pc := 413) (j := i + 2) cx hX hsb (Nat.not_le.mpr hsb) hS (by simp only [nI, Int32.ofNat_add] <;> rfl) (by omega) hLL dL_law_413 ?_
  refine z_callVw (pc := 414) cx vm_X8_set (c_X8_set l E a r im rd wa kp so sz el pr ts nu bu ht th po ba en td ig ij (xs (i + 1)) (xs (i + 2)) ) (z_rec cx.2 (hV.at 0 rfl) rfl) hV hS (fun q ⟨k, hk⟩ => by rw [hk]; exact hLF.2.2.2.2.1 k) m_ml_L_46 ⟨rfl, rfl⟩ ⟨Nat.le_of_ble_eq_true rfl, Nat.le_of_ble_eq_true rfl⟩ rfl hl.1 rfl (by simp [Value.category]) dL_law_414 ⟨(by show cells + 0 ≤ 660476; omega), (by show slots + 0 ≤ 7114676; omega)⟩ (fun v H locs hq hS hk2 => ?_)
  obtain ⟨rfl, hV2⟩ := hq
  have hV : WW E (wM a (E.2.1 0) (setS r (xs (i + 1)) (xs (i + 2))) im rd wa kp so sz el pr ts nu bu ht (bI ig) th po ba en td (bI ij)) gN H := hV2
  have hW := hW.clsK hk2.2 (fun k ⟨j, hj⟩ => hLF.1 j k hj.symm) (fun z e hz ⟨j, hj⟩ => (hSG z e hz).2.1 j hj)
  have hO := hO.kept hk2.2 (fun ⟨j, hj⟩ => hLF.2.2.1 j hj)
  refine (?_ : W p l e room_1 s m args below meth c H locs (cells + 0 + 0) (slots + 0 + 0) Q (F0 m 417 ls [.int (setR r (xs (i + 1)) (xs (i + 2))), .int (setR r (xs (i + 1)) (xs (i + 2)))]))
  refine lv_icmp_eq (pc := 417) (tgt := 1840) hx hb dL_law_417 (by decide) (fun _ => ?_) (fun c => absurd rfl c)
  refine W.widen (k := cells + 200) (n := slots + 2000) (by omega) (by omega) ?_
  exact kk (setS r (xs (i + 1)) (xs (i + 2))) im ig kp so sz el pr ts G H locs ls (lv_sub hl [0, 1, 2, 3, 4] rfl) (CLS.mk hW hG2 hSh hIm hrp hrt hra hxp hxt hxa hrd hdm hri (hwr.le (Nat.le_of_eq (CG_nA hG hG2)))) ⟨_, _, _, _, _, _, _, _, _, _, _, hV⟩ hO hSG hS
set_option maxHeartbeats 4000000 in
set_option maxRecDepth 100000 in
theorem y_6 (l : Launch) (hst : l.stackTraces = false) {p : Program} {e : Env} {s : State} {m : MethodId} {args : Array Value} {below : List Frame} {meth : Method} {c : Code} {H : Heap} {locs : List Loc} {cells slots : Nat} {Q : State → Prop} {ls : Array Slot} {E : zE} {a b : Nat → Nat} {o sb L i : Nat} {xs : Nat → Int32} {r : Nat → Int32} {im : Nat → Int32} {ig : Bool} {kp : Nat → Int32} {so : Nat → Int32} {sz : Nat → Int32} {el : Nat → Int32} {pr : Nat → Int32} {ts : Nat → Int32} {G : zG} (cx : Cx E p s args m c RL code 8) (hX : va_X sb L xs s s.heap) (hsb : sb < s.heap.size) (hLL : L ≤ 3072) (hi : i + 6 ≤ L) (hLF : LF a b o s.heap.size) (hCE : CE E (FL s.heap.size) s s.heap) (hXE : XE E (FL s.heap.size) s s.heap) (hl : lv_has ls 8 [(4, .int (nI i)), (3, .ref o), (2, .ref (a 0)), (1, .ref (b 0)), (0, .ref sb)]) (hS : va_S (FL s.heap.size) s.heap H locs) (hc1 : cells + 200 ≤ 660476) (hc2 : slots + 2000 ≤ 7114676) (hC : CLS E b r im ig kp so sz el pr ts G H) (hR : REF E a r im ig kp so sz el pr ts H) (hO : OUTc E o H) (hSG : SEP a o s.heap.size G) (kk : ∀ (r : Nat → Int32) (im : Nat → Int32) (ig : Bool) (kp : Nat → Int32) (so : Nat → Int32) (sz : Nat → Int32) (el : Nat → Int32) (pr : Nat → Int32) (ts : Nat → Int32) (G : zG) (H1 : Heap) (locs1 : List Loc) (ls1 : Array Slot), lv_has ls1 8 [(4, .int (nI i)), (3, .ref o), (2, .ref (a 0)), (1, .ref (b 0)), (0, .ref sb)] → CLS E b r im ig kp so sz el pr ts G H1 → REF E a r im ig kp so sz el pr ts H1 → OUTc E o H1 → SEP a o s.heap.size G → va_S (FL s.heap.size) s.heap H1 locs1 → W p l e room_1 s m args below meth c H1 locs1 (cells + 200) (slots + 2000) Q (F0 m 1840 ls1 [])) : W p l e room_1 s m args below meth c H locs cells slots Q (F0 m 422 ls []) := by
  refine hC.elim (fun qt qr tbu wst asw pN tN aN wx pp tp ap sg uh ud up ur us ux xN xT xA xh xd xl xr xo xw xpp xtp xap xsg yN yT yA yh yd yl yr yo yw ypp ytp yap ysg zat zpl zlt zjo zfo zsz zby znu hW hG hSh hIm hrp hrt hra hxp hxt hxa hrd hdm hri hwr => ?_)
  obtain ⟨rd, wa, nu, bu, ht, th, po, ba, en, td, ij, hV⟩ := hR
  have hx := cx.x
  have hb := cx.b
  refine lv_aload_n (pc := 422) hx hb dL_law_422 rfl (lv_at hl 3 rfl) ?_
  refine lv_aload_n (pc := 423) hx hb dL_law_423 rfl (lv_at hl 4 rfl) ?_
  refine lv_iload (pc := 424) hx hb dL_law_424 (lv_at hl 0 rfl) ?_
  refine lv_iconst (pc := 426) (v := 1) hx hb dL_law_426 (by decide) ?_
  refine lv_iadd (pc := 427) hx hb dL_law_427 ?_
  refine z_sld (pc := 428) (j := i + 1) cx hX hsb (Nat.not_le.mpr hsb) hS (by simp only [nI, Int32.ofNat_add] <;> rfl) (by omega) hLL dL_law_428 ?_
  refine lv_aload_n (pc := 429) hx hb dL_law_429 rfl (lv_at hl 4 rfl) ?_
  refine lv_iload (pc := 430) hx hb dL_law_430 (lv_at hl 0 rfl) ?_
  refine lv_iconst (pc := 432) (v := 2) hx hb dL_law_432 (by decide) ?_
  refine lv_iadd (pc := 433) hx hb dL_law_433 ?_
  refine z_sld (pc := 434) (j := i + 2) cx hX hsb (Nat.not_le.mpr hsb) hS (by simp only [nI, Int32.ofNat_add] <;> rfl) (by omega) hLL dL_law_434 ?_
  refine lv_aload_n (pc := 435) hx hb dL_law_435 rfl (lv_at hl 4 rfl) ?_
  refine lv_iload (pc := 436) hx hb dL_law_436 (lv_at hl 0 rfl) ?_
  refine lv_iconst (pc := 438) (v := 3) hx hb dL_law_438 (by decide) ?_
  refine lv_iadd (pc := 439) hx hb dL_law_439 ?_
  refine z_sld (pc := 440) (j := i + 3) cx hX hsb (Nat.not_le.mpr hsb) hS (by simp only [nI, Int32.ofNat_add] <;> rfl) (by omega) hLL dL_law_440 ?_
  refine z_callVw (pc := 441) cx vm_X7_swing (c_X7_swing l E b (wT b E.2.1 xN xT xA xh xd xl xr xo xw xpp xtp xap xsg yN yT yA yh yd yl yr yo yw ypp ytp yap ysg zat zpl zlt zjo zfo zsz zby znu) ig qt qr tbu wst asw pN tN aN wx pp tp ap sg uh ud up ur us ux G (xs (i + 1)) (xs (i + 2)) (xs (i + 3)) r hG) (z_rec cx.2 (hW.at 0 rfl) rfl) hW hS (fun q ⟨k, hk⟩ => by rw [hk]; exact hLF.2.2.2.1 k) m_ml_L_47 ⟨rfl, rfl⟩ ⟨Nat.le_of_ble_eq_true rfl, Nat.le_of_ble_eq_true rfl⟩ rfl hl.1 rfl (by simp [Value.category]) dL_law_441 ⟨(by show cells ≤ 660476; omega), (by show slots ≤ 7114676; omega)⟩ (fun v H locs hq hS hk2 => ?_)
  obtain ⟨sg2, rfl, hW2⟩ := hq
  have hW : WW E (wK b E.2.1 (wT b E.2.1 xN xT xA xh xd xl xr xo xw xpp xtp xap xsg yN yT yA yh yd yl yr yo yw ypp ytp yap ysg zat zpl zlt zjo zfo zsz zby znu) ig qt qr tbu wst asw pN tN aN (hdC (r 3)) (r 4) (r 5) (r 6) (r 7) wx pp tp ap sg2 uh ud up ur us ux) G H := hW2
  have hV := hV.refK hk2.2 (fun j ⟨k, hk⟩ => hLF.1 j k hk)
  have hO := hO.kept hk2.2 (fun ⟨k, hk⟩ => hLF.2.1 k hk)
  refine (?_ : W p l e room_1 s m args below meth c H locs (cells + 0) (slots + 0) Q (F0 m 444 ls [.int (swingP r (xs (i + 1)) (xs (i + 2)) (xs (i + 3)))]))
  refine lv_aload_n (pc := 444) hx hb dL_law_444 rfl (lv_at hl 2 rfl) ?_
  refine lv_aload_n (pc := 445) hx hb dL_law_445 rfl (lv_at hl 4 rfl) ?_
  refine lv_iload (pc := 446) hx hb dL_law_446 (lv_at hl 0 rfl) ?_
  refine lv_iconst (pc := 448) (v := 1) hx hb dL_law_448 (by decide) ?_
  refine lv_iadd (pc := 449) hx hb dL_law_449 ?_
  refine z_sld (pc := 450) (j := i + 1) cx hX hsb (Nat.not_le.mpr hsb) hS (by simp only [nI, Int32.ofNat_add] <;> rfl) (by omega) hLL dL_law_450 ?_
  refine lv_aload_n (pc := 451) hx hb dL_law_451 rfl (lv_at hl 4 rfl) ?_
  refine lv_iload (pc := 452) hx hb dL_law_452 (lv_at hl 0 rfl) ?_
  refine lv_iconst (pc := 454) (v := 2) hx hb dL_law_454 (by decide) ?_
  refine lv_iadd (pc := 455) hx hb dL_law_455 ?_
  refine z_sld (pc := 456) (j := i + 2) cx hX hsb (Nat.not_le.mpr hsb) hS (by simp only [nI, Int32.ofNat_add] <;> rfl) (by omega) hLL dL_law_456 ?_
  refine lv_aload_n (pc := 457) hx hb dL_law_457 rfl (lv_at hl 4 rfl) ?_
  refine lv_iload (pc := 458) hx hb dL_law_458 (lv_at hl 0 rfl) ?_
  refine lv_iconst (pc := 460) (v := 3) hx hb dL_law_460 (by decide) ?_
  refine lv_iadd (pc := 461) hx hb dL_law_461 ?_
  refine z_sld (pc := 462) (j := i + 3) cx hX hsb (Nat.not_le.mpr hsb) hS (by simp only [nI, Int32.ofNat_add] <;> rfl) (by omega) hLL dL_law_462 ?_
  refine z_callV (pc := 463) cx vm_X8_swing (c_X8_swing l E a r im rd wa kp so sz el pr ts nu bu ht th po ba en td ig ij (xs (i + 1)) (xs (i + 2)) (xs (i + 3)) hG.1) (z_rec cx.2 (hV.at 0 rfl) rfl) hV m_ml_L_51 ⟨rfl, rfl⟩ ⟨Nat.le_of_ble_eq_true rfl, Nat.le_of_ble_eq_true rfl⟩ rfl hl.1 rfl (by simp [Value.category]) dL_law_463 ⟨(by show cells + 0 ≤ 660476; omega), (by show slots + 0 ≤ 7114676; omega)⟩ ?_
  refine (?_ : W p l e room_1 s m args below meth c H locs (cells + 0) (slots + 0) Q (F0 m 466 ls [.int (swingP r (xs (i + 1)) (xs (i + 2)) (xs (i + 3))), .int (swingP r (xs (i + 1)) (xs (i + 2)) (xs (i + 3)))]))
  refine lv_icmp_eq (pc := 466) (tgt := 1840) hx hb dL_law_466 (by decide) (fun _ => ?_) (fun c => absurd rfl c)
  refine W.widen (k := cells + 200) (n := slots + 2000) (by omega) (by omega) ?_
  exact kk r im ig kp so sz el pr ts G H locs ls (lv_sub hl [0, 1, 2, 3, 4] rfl) (CLS.mk hW hG hSh hIm hrp hrt hra hxp hxt hxa hrd hdm hri hwr) ⟨_, _, _, _, _, _, _, _, _, _, _, hV⟩ hO hSG hS
set_option maxHeartbeats 4000000 in
set_option maxRecDepth 100000 in
theorem y_7 (l : Launch) (hst : l.stackTraces = false) {p : Program} {e : Env} {s : State} {m : MethodId} {args : Array Value} {below : List Frame} {meth : Method} {c : Code} {H : Heap} {locs : List Loc} {cells slots : Nat} {Q : State → Prop} {ls : Array Slot} {E : zE} {a b : Nat → Nat} {o sb L i : Nat} {xs : Nat → Int32} {r : Nat → Int32} {im : Nat → Int32} {ig : Bool} {kp : Nat → Int32} {so : Nat → Int32} {sz : Nat → Int32} {el : Nat → Int32} {pr : Nat → Int32} {ts : Nat → Int32} {G : zG} (cx : Cx E p s args m c RL code 8) (hX : va_X sb L xs s s.heap) (hsb : sb < s.heap.size) (hLL : L ≤ 3072) (hi : i + 6 ≤ L) (hLF : LF a b o s.heap.size) (hCE : CE E (FL s.heap.size) s s.heap) (hXE : XE E (FL s.heap.size) s s.heap) (hl : lv_has ls 8 [(4, .int (nI i)), (3, .ref o), (2, .ref (a 0)), (1, .ref (b 0)), (0, .ref sb)]) (hS : va_S (FL s.heap.size) s.heap H locs) (hc1 : cells + 200 ≤ 660476) (hc2 : slots + 2000 ≤ 7114676) (hC : CLS E b r im ig kp so sz el pr ts G H) (hR : REF E a r im ig kp so sz el pr ts H) (hO : OUTc E o H) (hSG : SEP a o s.heap.size G) (kk : ∀ (r : Nat → Int32) (im : Nat → Int32) (ig : Bool) (kp : Nat → Int32) (so : Nat → Int32) (sz : Nat → Int32) (el : Nat → Int32) (pr : Nat → Int32) (ts : Nat → Int32) (G : zG) (H1 : Heap) (locs1 : List Loc) (ls1 : Array Slot), lv_has ls1 8 [(4, .int (nI i)), (3, .ref o), (2, .ref (a 0)), (1, .ref (b 0)), (0, .ref sb)] → CLS E b r im ig kp so sz el pr ts G H1 → REF E a r im ig kp so sz el pr ts H1 → OUTc E o H1 → SEP a o s.heap.size G → va_S (FL s.heap.size) s.heap H1 locs1 → W p l e room_1 s m args below meth c H1 locs1 (cells + 200) (slots + 2000) Q (F0 m 1840 ls1 [])) : W p l e room_1 s m args below meth c H locs cells slots Q (F0 m 471 ls []) := by
  refine hC.elim (fun qt qr tbu wst asw pN tN aN wx pp tp ap sg uh ud up ur us ux xN xT xA xh xd xl xr xo xw xpp xtp xap xsg yN yT yA yh yd yl yr yo yw ypp ytp yap ysg zat zpl zlt zjo zfo zsz zby znu hW hG hSh hIm hrp hrt hra hxp hxt hxa hrd hdm hri hwr => ?_)
  obtain ⟨rd, wa, nu, bu, ht, th, po, ba, en, td, ij, hV⟩ := hR
  have hx := cx.x
  have hb := cx.b
  refine lv_aload_n (pc := 471) hx hb dL_law_471 rfl (lv_at hl 3 rfl) ?_
  refine lv_aload_n (pc := 472) hx hb dL_law_472 rfl (lv_at hl 4 rfl) ?_
  refine lv_iload (pc := 473) hx hb dL_law_473 (lv_at hl 0 rfl) ?_
  refine lv_iconst (pc := 475) (v := 1) hx hb dL_law_475 (by decide) ?_
  refine lv_iadd (pc := 476) hx hb dL_law_476 ?_
  refine z_sld (pc := 477) (j := i + 1) cx hX hsb (Nat.not_le.mpr hsb) hS (by simp only [nI, Int32.ofNat_add] <;> rfl) (by omega) hLL dL_law_477 ?_
  refine lv_aload_n (pc := 478) hx hb dL_law_478 rfl (lv_at hl 4 rfl) ?_
  refine lv_iload (pc := 479) hx hb dL_law_479 (lv_at hl 0 rfl) ?_
  refine lv_iconst (pc := 481) (v := 2) hx hb dL_law_481 (by decide) ?_
  refine lv_iadd (pc := 482) hx hb dL_law_482 ?_
  refine z_sld (pc := 483) (j := i + 2) cx hX hsb (Nat.not_le.mpr hsb) hS (by simp only [nI, Int32.ofNat_add] <;> rfl) (by omega) hLL dL_law_483 ?_
  refine lv_aload_n (pc := 484) hx hb dL_law_484 rfl (lv_at hl 4 rfl) ?_
  refine lv_iload (pc := 485) hx hb dL_law_485 (lv_at hl 0 rfl) ?_
  refine lv_iconst (pc := 487) (v := 3) hx hb dL_law_487 (by decide) ?_
  refine lv_iadd (pc := 488) hx hb dL_law_488 ?_
  refine z_sld (pc := 489) (j := i + 3) cx hX hsb (Nat.not_le.mpr hsb) hS (by simp only [nI, Int32.ofNat_add] <;> rfl) (by omega) hLL dL_law_489 ?_
  refine lv_aload_n (pc := 490) hx hb dL_law_490 rfl (lv_at hl 4 rfl) ?_
  refine lv_iload (pc := 491) hx hb dL_law_491 (lv_at hl 0 rfl) ?_
  refine lv_iconst (pc := 493) (v := 4) hx hb dL_law_493 (by decide) ?_
  refine lv_iadd (pc := 494) hx hb dL_law_494 ?_
  refine z_sld (pc := 495) (j := i + 4) cx hX hsb (Nat.not_le.mpr hsb) hS (by simp only [nI, Int32.ofNat_add] <;> rfl) (by omega) hLL dL_law_495 ?_
  refine z_callVw (pc := 496) cx vm_X7_buzzes (c_X7_buzzes l E b (wT b E.2.1 xN xT xA xh xd xl xr xo xw xpp xtp xap xsg yN yT yA yh yd yl yr yo yw ypp ytp yap ysg zat zpl zlt zjo zfo zsz zby znu) ig qt qr tbu wst asw pN tN aN wx pp tp ap sg uh ud up ur us ux G (xs (i + 1)) (xs (i + 2)) (xs (i + 3)) (xs (i + 4)) r hG) (z_rec cx.2 (hW.at 0 rfl) rfl) hW hS (fun q ⟨k, hk⟩ => by rw [hk]; exact hLF.2.2.2.1 k) m_ml_L_52 ⟨rfl, rfl⟩ ⟨Nat.le_of_ble_eq_true rfl, Nat.le_of_ble_eq_true rfl⟩ rfl hl.1 rfl (by simp [Value.category]) dL_law_496 ⟨(by show cells ≤ 660476; omega), (by show slots ≤ 7114676; omega)⟩ (fun v H locs hq hS hk2 => ?_)
  obtain ⟨sg2, rfl, hW2⟩ := hq
  have hW : WW E (wK b E.2.1 (wT b E.2.1 xN xT xA xh xd xl xr xo xw xpp xtp xap xsg yN yT yA yh yd yl yr yo yw ypp ytp yap ysg zat zpl zlt zjo zfo zsz zby znu) ig qt qr tbu wst asw pN tN aN (hdC (r 3)) (r 4) (r 5) (r 6) (r 7) wx pp tp ap sg2 uh ud up ur us ux) G H := hW2
  have hV := hV.refK hk2.2 (fun j ⟨k, hk⟩ => hLF.1 j k hk)
  have hO := hO.kept hk2.2 (fun ⟨k, hk⟩ => hLF.2.1 k hk)
  refine (?_ : W p l e room_1 s m args below meth c H locs (cells + 0) (slots + 0) Q (F0 m 499 ls [.int (buzzesP r (xs (i + 1)) (xs (i + 2)) (xs (i + 3)) (xs (i + 4)))]))
  refine lv_aload_n (pc := 499) hx hb dL_law_499 rfl (lv_at hl 2 rfl) ?_
  refine lv_aload_n (pc := 500) hx hb dL_law_500 rfl (lv_at hl 4 rfl) ?_
  refine lv_iload (pc := 501) hx hb dL_law_501 (lv_at hl 0 rfl) ?_
  refine lv_iconst (pc := 503) (v := 1) hx hb dL_law_503 (by decide) ?_
  refine lv_iadd (pc := 504) hx hb dL_law_504 ?_
  refine z_sld (pc := 505) (j := i + 1) cx hX hsb (Nat.not_le.mpr hsb) hS (by simp only [nI, Int32.ofNat_add] <;> rfl) (by omega) hLL dL_law_505 ?_
  refine lv_aload_n (pc := 506) hx hb dL_law_506 rfl (lv_at hl 4 rfl) ?_
  refine lv_iload (pc := 507) hx hb dL_law_507 (lv_at hl 0 rfl) ?_
  refine lv_iconst (pc := 509) (v := 2) hx hb dL_law_509 (by decide) ?_
  refine lv_iadd (pc := 510) hx hb dL_law_510 ?_
  refine z_sld (pc := 511) (j := i + 2) cx hX hsb (Nat.not_le.mpr hsb) hS (by simp only [nI, Int32.ofNat_add] <;> rfl) (by omega) hLL dL_law_511 ?_
  refine lv_aload_n (pc := 512) hx hb dL_law_512 rfl (lv_at hl 4 rfl) ?_
  refine lv_iload (pc := 513) hx hb dL_law_513 (lv_at hl 0 rfl) ?_
  refine lv_iconst (pc := 515) (v := 3) hx hb dL_law_515 (by decide) ?_
  refine lv_iadd (pc := 516) hx hb dL_law_516 ?_
  refine z_sld (pc := 517) (j := i + 3) cx hX hsb (Nat.not_le.mpr hsb) hS (by simp only [nI, Int32.ofNat_add] <;> rfl) (by omega) hLL dL_law_517 ?_
  refine lv_aload_n (pc := 518) hx hb dL_law_518 rfl (lv_at hl 4 rfl) ?_
  refine lv_iload (pc := 519) hx hb dL_law_519 (lv_at hl 0 rfl) ?_
  refine lv_iconst (pc := 521) (v := 4) hx hb dL_law_521 (by decide) ?_
  refine lv_iadd (pc := 522) hx hb dL_law_522 ?_
  refine z_sld (pc := 523) (j := i + 4) cx hX hsb (Nat.not_le.mpr hsb) hS (by simp only [nI, Int32.ofNat_add] <;> rfl) (by omega) hLL dL_law_523 ?_
  refine z_callV (pc := 524) cx vm_X8_buzzes (c_X8_buzzes l E a r im rd wa kp so sz el pr ts nu bu ht th po ba en td ig ij (xs (i + 1)) (xs (i + 2)) (xs (i + 3)) (xs (i + 4)) hG.1) (z_rec cx.2 (hV.at 0 rfl) rfl) hV m_ml_L_56 ⟨rfl, rfl⟩ ⟨Nat.le_of_ble_eq_true rfl, Nat.le_of_ble_eq_true rfl⟩ rfl hl.1 rfl (by simp [Value.category]) dL_law_524 ⟨(by show cells + 0 ≤ 660476; omega), (by show slots + 0 ≤ 7114676; omega)⟩ ?_
  refine (?_ : W p l e room_1 s m args below meth c H locs (cells + 0) (slots + 0) Q (F0 m 527 ls [.int (buzzesP r (xs (i + 1)) (xs (i + 2)) (xs (i + 3)) (xs (i + 4))), .int (buzzesP r (xs (i + 1)) (xs (i + 2)) (xs (i + 3)) (xs (i + 4)))]))
  refine lv_icmp_eq (pc := 527) (tgt := 1840) hx hb dL_law_527 (by decide) (fun _ => ?_) (fun c => absurd rfl c)
  refine W.widen (k := cells + 200) (n := slots + 2000) (by omega) (by omega) ?_
  exact kk r im ig kp so sz el pr ts G H locs ls (lv_sub hl [0, 1, 2, 3, 4] rfl) (CLS.mk hW hG hSh hIm hrp hrt hra hxp hxt hxa hrd hdm hri hwr) ⟨_, _, _, _, _, _, _, _, _, _, _, hV⟩ hO hSG hS
set_option maxHeartbeats 4000000 in
set_option maxRecDepth 100000 in
theorem y_8 (l : Launch) (hst : l.stackTraces = false) {p : Program} {e : Env} {s : State} {m : MethodId} {args : Array Value} {below : List Frame} {meth : Method} {c : Code} {H : Heap} {locs : List Loc} {cells slots : Nat} {Q : State → Prop} {ls : Array Slot} {E : zE} {a b : Nat → Nat} {o sb L i : Nat} {xs : Nat → Int32} {r : Nat → Int32} {im : Nat → Int32} {ig : Bool} {kp : Nat → Int32} {so : Nat → Int32} {sz : Nat → Int32} {el : Nat → Int32} {pr : Nat → Int32} {ts : Nat → Int32} {G : zG} (cx : Cx E p s args m c RL code 8) (hX : va_X sb L xs s s.heap) (hsb : sb < s.heap.size) (hLL : L ≤ 3072) (hi : i + 6 ≤ L) (hLF : LF a b o s.heap.size) (hCE : CE E (FL s.heap.size) s s.heap) (hXE : XE E (FL s.heap.size) s s.heap) (hl : lv_has ls 8 [(4, .int (nI i)), (3, .ref o), (2, .ref (a 0)), (1, .ref (b 0)), (0, .ref sb)]) (hS : va_S (FL s.heap.size) s.heap H locs) (hc1 : cells + 200 ≤ 660476) (hc2 : slots + 2000 ≤ 7114676) (hC : CLS E b r im ig kp so sz el pr ts G H) (hR : REF E a r im ig kp so sz el pr ts H) (hO : OUTc E o H) (hSG : SEP a o s.heap.size G) (kk : ∀ (r : Nat → Int32) (im : Nat → Int32) (ig : Bool) (kp : Nat → Int32) (so : Nat → Int32) (sz : Nat → Int32) (el : Nat → Int32) (pr : Nat → Int32) (ts : Nat → Int32) (G : zG) (H1 : Heap) (locs1 : List Loc) (ls1 : Array Slot), lv_has ls1 8 [(4, .int (nI i)), (3, .ref o), (2, .ref (a 0)), (1, .ref (b 0)), (0, .ref sb)] → CLS E b r im ig kp so sz el pr ts G H1 → REF E a r im ig kp so sz el pr ts H1 → OUTc E o H1 → SEP a o s.heap.size G → va_S (FL s.heap.size) s.heap H1 locs1 → W p l e room_1 s m args below meth c H1 locs1 (cells + 200) (slots + 2000) Q (F0 m 1840 ls1 [])) : W p l e room_1 s m args below meth c H locs cells slots Q (F0 m 532 ls []) := by
  refine hC.elim (fun qt qr tbu wst asw pN tN aN wx pp tp ap sg uh ud up ur us ux xN xT xA xh xd xl xr xo xw xpp xtp xap xsg yN yT yA yh yd yl yr yo yw ypp ytp yap ysg zat zpl zlt zjo zfo zsz zby znu hW hG hSh hIm hrp hrt hra hxp hxt hxa hrd hdm hri hwr => ?_)
  obtain ⟨rd, wa, nu, bu, ht, th, po, ba, en, td, ij, hV⟩ := hR
  have hx := cx.x
  have hb := cx.b
  refine lv_aload_n (pc := 532) hx hb dL_law_532 rfl (lv_at hl 3 rfl) ?_
  refine lv_aload_n (pc := 533) hx hb dL_law_533 rfl (lv_at hl 4 rfl) ?_
  refine lv_iload (pc := 534) hx hb dL_law_534 (lv_at hl 0 rfl) ?_
  refine lv_iconst (pc := 536) (v := 1) hx hb dL_law_536 (by decide) ?_
  refine lv_iadd (pc := 537) hx hb dL_law_537 ?_
  refine z_sld (pc := 538) (j := i + 1) cx hX hsb (Nat.not_le.mpr hsb) hS (by simp only [nI, Int32.ofNat_add] <;> rfl) (by omega) hLL dL_law_538 ?_
  refine lv_aload_n (pc := 539) hx hb dL_law_539 rfl (lv_at hl 4 rfl) ?_
  refine lv_iload (pc := 540) hx hb dL_law_540 (lv_at hl 0 rfl) ?_
  refine lv_iconst (pc := 542) (v := 2) hx hb dL_law_542 (by decide) ?_
  refine lv_iadd (pc := 543) hx hb dL_law_543 ?_
  refine z_sld (pc := 544) (j := i + 2) cx hX hsb (Nat.not_le.mpr hsb) hS (by simp only [nI, Int32.ofNat_add] <;> rfl) (by omega) hLL dL_law_544 ?_
  refine z_callVw (pc := 545) cx vm_X7_heard (c_X7_heard l E b (wT b E.2.1 xN xT xA xh xd xl xr xo xw xpp xtp xap xsg yN yT yA yh yd yl yr yo yw ypp ytp yap ysg zat zpl zlt zjo zfo zsz zby znu) ig qt qr tbu wst asw pN tN aN wx pp tp ap sg uh ud up ur us ux G (xs (i + 1)) (xs (i + 2)) r hG) (z_rec cx.2 (hW.at 0 rfl) rfl) hW hS (fun q ⟨k, hk⟩ => by rw [hk]; exact hLF.2.2.2.1 k) m_ml_L_57 ⟨rfl, rfl⟩ ⟨Nat.le_of_ble_eq_true rfl, Nat.le_of_ble_eq_true rfl⟩ rfl hl.1 rfl (by simp [Value.category]) dL_law_545 ⟨(by show cells ≤ 660476; omega), (by show slots ≤ 7114676; omega)⟩ (fun v H locs hq hS hk2 => ?_)
  obtain ⟨sg2, rfl, hW2⟩ := hq
  have hW : WW E (wK b E.2.1 (wT b E.2.1 xN xT xA xh xd xl xr xo xw xpp xtp xap xsg yN yT yA yh yd yl yr yo yw ypp ytp yap ysg zat zpl zlt zjo zfo zsz zby znu) ig qt qr tbu wst asw pN tN aN (hdC (r 3)) (r 4) (r 5) (r 6) (r 7) wx pp tp ap sg2 uh ud up ur us ux) G H := hW2
  have hV := hV.refK hk2.2 (fun j ⟨k, hk⟩ => hLF.1 j k hk)
  have hO := hO.kept hk2.2 (fun ⟨k, hk⟩ => hLF.2.1 k hk)
  refine (?_ : W p l e room_1 s m args below meth c H locs (cells + 0) (slots + 0) Q (F0 m 548 ls [.int (heardP r (xs (i + 1)) (xs (i + 2)))]))
  refine lv_aload_n (pc := 548) hx hb dL_law_548 rfl (lv_at hl 2 rfl) ?_
  refine lv_aload_n (pc := 549) hx hb dL_law_549 rfl (lv_at hl 4 rfl) ?_
  refine lv_iload (pc := 550) hx hb dL_law_550 (lv_at hl 0 rfl) ?_
  refine lv_iconst (pc := 552) (v := 1) hx hb dL_law_552 (by decide) ?_
  refine lv_iadd (pc := 553) hx hb dL_law_553 ?_
  refine z_sld (pc := 554) (j := i + 1) cx hX hsb (Nat.not_le.mpr hsb) hS (by simp only [nI, Int32.ofNat_add] <;> rfl) (by omega) hLL dL_law_554 ?_
  refine lv_aload_n (pc := 555) hx hb dL_law_555 rfl (lv_at hl 4 rfl) ?_
  refine lv_iload (pc := 556) hx hb dL_law_556 (lv_at hl 0 rfl) ?_
  refine lv_iconst (pc := 558) (v := 2) hx hb dL_law_558 (by decide) ?_
  refine lv_iadd (pc := 559) hx hb dL_law_559 ?_
  refine z_sld (pc := 560) (j := i + 2) cx hX hsb (Nat.not_le.mpr hsb) hS (by simp only [nI, Int32.ofNat_add] <;> rfl) (by omega) hLL dL_law_560 ?_
  refine z_callV (pc := 561) cx vm_X8_heard (c_X8_heard l E a r im rd wa kp so sz el pr ts nu bu ht th po ba en td ig ij (xs (i + 1)) (xs (i + 2)) hG.1) (z_rec cx.2 (hV.at 0 rfl) rfl) hV m_ml_L_60 ⟨rfl, rfl⟩ ⟨Nat.le_of_ble_eq_true rfl, Nat.le_of_ble_eq_true rfl⟩ rfl hl.1 rfl (by simp [Value.category]) dL_law_561 ⟨(by show cells + 0 ≤ 660476; omega), (by show slots + 0 ≤ 7114676; omega)⟩ ?_
  refine (?_ : W p l e room_1 s m args below meth c H locs (cells + 0) (slots + 0) Q (F0 m 564 ls [.int (heardP r (xs (i + 1)) (xs (i + 2))), .int (heardP r (xs (i + 1)) (xs (i + 2)))]))
  refine lv_icmp_eq (pc := 564) (tgt := 1840) hx hb dL_law_564 (by decide) (fun _ => ?_) (fun c => absurd rfl c)
  refine W.widen (k := cells + 200) (n := slots + 2000) (by omega) (by omega) ?_
  exact kk r im ig kp so sz el pr ts G H locs ls (lv_sub hl [0, 1, 2, 3, 4] rfl) (CLS.mk hW hG hSh hIm hrp hrt hra hxp hxt hxa hrd hdm hri hwr) ⟨_, _, _, _, _, _, _, _, _, _, _, hV⟩ hO hSG hS
set_option maxHeartbeats 4000000 in
set_option maxRecDepth 100000 in
theorem y_9 (l : Launch) (hst : l.stackTraces = false) {p : Program} {e : Env} {s : State} {m : MethodId} {args : Array Value} {below : List Frame} {meth : Method} {c : Code} {H : Heap} {locs : List Loc} {cells slots : Nat} {Q : State → Prop} {ls : Array Slot} {E : zE} {a b : Nat → Nat} {o sb L i : Nat} {xs : Nat → Int32} {r : Nat → Int32} {im : Nat → Int32} {ig : Bool} {kp : Nat → Int32} {so : Nat → Int32} {sz : Nat → Int32} {el : Nat → Int32} {pr : Nat → Int32} {ts : Nat → Int32} {G : zG} (cx : Cx E p s args m c RL code 8) (hX : va_X sb L xs s s.heap) (hsb : sb < s.heap.size) (hLL : L ≤ 3072) (hi : i + 6 ≤ L) (hLF : LF a b o s.heap.size) (hCE : CE E (FL s.heap.size) s s.heap) (hXE : XE E (FL s.heap.size) s s.heap) (hl : lv_has ls 8 [(4, .int (nI i)), (3, .ref o), (2, .ref (a 0)), (1, .ref (b 0)), (0, .ref sb)]) (hS : va_S (FL s.heap.size) s.heap H locs) (hc1 : cells + 200 ≤ 660476) (hc2 : slots + 2000 ≤ 7114676) (hC : CLS E b r im ig kp so sz el pr ts G H) (hR : REF E a r im ig kp so sz el pr ts H) (hO : OUTc E o H) (hSG : SEP a o s.heap.size G) (kk : ∀ (r : Nat → Int32) (im : Nat → Int32) (ig : Bool) (kp : Nat → Int32) (so : Nat → Int32) (sz : Nat → Int32) (el : Nat → Int32) (pr : Nat → Int32) (ts : Nat → Int32) (G : zG) (H1 : Heap) (locs1 : List Loc) (ls1 : Array Slot), lv_has ls1 8 [(4, .int (nI i)), (3, .ref o), (2, .ref (a 0)), (1, .ref (b 0)), (0, .ref sb)] → CLS E b r im ig kp so sz el pr ts G H1 → REF E a r im ig kp so sz el pr ts H1 → OUTc E o H1 → SEP a o s.heap.size G → va_S (FL s.heap.size) s.heap H1 locs1 → W p l e room_1 s m args below meth c H1 locs1 (cells + 200) (slots + 2000) Q (F0 m 1840 ls1 [])) : W p l e room_1 s m args below meth c H locs cells slots Q (F0 m 569 ls []) := by
  refine hC.elim (fun qt qr tbu wst asw pN tN aN wx pp tp ap sg uh ud up ur us ux xN xT xA xh xd xl xr xo xw xpp xtp xap xsg yN yT yA yh yd yl yr yo yw ypp ytp yap ysg zat zpl zlt zjo zfo zsz zby znu hW hG hSh hIm hrp hrt hra hxp hxt hxa hrd hdm hri hwr => ?_)
  obtain ⟨rd, wa, nu, bu, ht, th, po, ba, en, td, ij, hV⟩ := hR
  have hx := cx.x
  have hb := cx.b
  refine lv_aload_n (pc := 569) hx hb dL_law_569 rfl (lv_at hl 3 rfl) ?_
  refine lv_aload_n (pc := 570) hx hb dL_law_570 rfl (lv_at hl 4 rfl) ?_
  refine lv_iload (pc := 571) hx hb dL_law_571 (lv_at hl 0 rfl) ?_
  refine lv_iconst (pc := 573) (v := 1) hx hb dL_law_573 (by decide) ?_
  refine lv_iadd (pc := 574) hx hb dL_law_574 ?_
  refine z_sld (pc := 575) (j := i + 1) cx hX hsb (Nat.not_le.mpr hsb) hS (by simp only [nI, Int32.ofNat_add] <;> rfl) (by omega) hLL dL_law_575 ?_
  refine lv_aload_n (pc := 576) hx hb dL_law_576 rfl (lv_at hl 4 rfl) ?_
  refine lv_iload (pc := 577) hx hb dL_law_577 (lv_at hl 0 rfl) ?_
  refine lv_iconst (pc := 579) (v := 2) hx hb dL_law_579 (by decide) ?_
  refine lv_iadd (pc := 580) hx hb dL_law_580 ?_
  refine z_sld (pc := 581) (j := i + 2) cx hX hsb (Nat.not_le.mpr hsb) hS (by simp only [nI, Int32.ofNat_add] <;> rfl) (by omega) hLL dL_law_581 ?_
  refine lv_aload_n (pc := 582) hx hb dL_law_582 rfl (lv_at hl 4 rfl) ?_
  refine lv_iload (pc := 583) hx hb dL_law_583 (lv_at hl 0 rfl) ?_
  refine lv_iconst (pc := 585) (v := 3) hx hb dL_law_585 (by decide) ?_
  refine lv_iadd (pc := 586) hx hb dL_law_586 ?_
  refine z_sld (pc := 587) (j := i + 3) cx hX hsb (Nat.not_le.mpr hsb) hS (by simp only [nI, Int32.ofNat_add] <;> rfl) (by omega) hLL dL_law_587 ?_
  refine lv_aload_n (pc := 588) hx hb dL_law_588 rfl (lv_at hl 4 rfl) ?_
  refine lv_iload (pc := 589) hx hb dL_law_589 (lv_at hl 0 rfl) ?_
  refine lv_iconst (pc := 591) (v := 4) hx hb dL_law_591 (by decide) ?_
  refine lv_iadd (pc := 592) hx hb dL_law_592 ?_
  refine z_sld (pc := 593) (j := i + 4) cx hX hsb (Nat.not_le.mpr hsb) hS (by simp only [nI, Int32.ofNat_add] <;> rfl) (by omega) hLL dL_law_593 ?_
  refine z_callVw (pc := 594) cx vm_X7_bands (c_X7_bands l E b (wT b E.2.1 xN xT xA xh xd xl xr xo xw xpp xtp xap xsg yN yT yA yh yd yl yr yo yw ypp ytp yap ysg zat zpl zlt zjo zfo zsz zby znu) ig qt qr tbu wst asw pN tN aN wx pp tp ap sg uh ud up ur us ux G (xs (i + 1)) (xs (i + 2)) (xs (i + 3)) (xs (i + 4)) r hG) (z_rec cx.2 (hW.at 0 rfl) rfl) hW hS (fun q ⟨k, hk⟩ => by rw [hk]; exact hLF.2.2.2.1 k) m_ml_L_61 ⟨rfl, rfl⟩ ⟨Nat.le_of_ble_eq_true rfl, Nat.le_of_ble_eq_true rfl⟩ rfl hl.1 rfl (by simp [Value.category]) dL_law_594 ⟨(by show cells ≤ 660476; omega), (by show slots ≤ 7114676; omega)⟩ (fun v H locs hq hS hk2 => ?_)
  obtain ⟨sg2, rfl, hW2⟩ := hq
  have hW : WW E (wK b E.2.1 (wT b E.2.1 xN xT xA xh xd xl xr xo xw xpp xtp xap xsg yN yT yA yh yd yl yr yo yw ypp ytp yap ysg zat zpl zlt zjo zfo zsz zby znu) ig qt qr tbu wst asw pN tN aN (hdC (r 3)) (r 4) (r 5) (r 6) (r 7) wx pp tp ap sg2 uh ud up ur us ux) G H := hW2
  have hV := hV.refK hk2.2 (fun j ⟨k, hk⟩ => hLF.1 j k hk)
  have hO := hO.kept hk2.2 (fun ⟨k, hk⟩ => hLF.2.1 k hk)
  refine (?_ : W p l e room_1 s m args below meth c H locs (cells + 0) (slots + 0) Q (F0 m 597 ls [.int (bandsP r (xs (i + 1)) (xs (i + 2)) (xs (i + 3)) (xs (i + 4)))]))
  refine lv_aload_n (pc := 597) hx hb dL_law_597 rfl (lv_at hl 2 rfl) ?_
  refine lv_aload_n (pc := 598) hx hb dL_law_598 rfl (lv_at hl 4 rfl) ?_
  refine lv_iload (pc := 599) hx hb dL_law_599 (lv_at hl 0 rfl) ?_
  refine lv_iconst (pc := 601) (v := 1) hx hb dL_law_601 (by decide) ?_
  refine lv_iadd (pc := 602) hx hb dL_law_602 ?_
  refine z_sld (pc := 603) (j := i + 1) cx hX hsb (Nat.not_le.mpr hsb) hS (by simp only [nI, Int32.ofNat_add] <;> rfl) (by omega) hLL dL_law_603 ?_
  refine lv_aload_n (pc := 604) hx hb dL_law_604 rfl (lv_at hl 4 rfl) ?_
  refine lv_iload (pc := 605) hx hb dL_law_605 (lv_at hl 0 rfl) ?_
  refine lv_iconst (pc := 607) (v := 2) hx hb dL_law_607 (by decide) ?_
  refine lv_iadd (pc := 608) hx hb dL_law_608 ?_
  refine z_sld (pc := 609) (j := i + 2) cx hX hsb (Nat.not_le.mpr hsb) hS (by simp only [nI, Int32.ofNat_add] <;> rfl) (by omega) hLL dL_law_609 ?_
  refine lv_aload_n (pc := 610) hx hb dL_law_610 rfl (lv_at hl 4 rfl) ?_
  refine lv_iload (pc := 611) hx hb dL_law_611 (lv_at hl 0 rfl) ?_
  refine lv_iconst (pc := 613) (v := 3) hx hb dL_law_613 (by decide) ?_
  refine lv_iadd (pc := 614) hx hb dL_law_614 ?_
  refine z_sld (pc := 615) (j := i + 3) cx hX hsb (Nat.not_le.mpr hsb) hS (by simp only [nI, Int32.ofNat_add] <;> rfl) (by omega) hLL dL_law_615 ?_
  refine lv_aload_n (pc := 616) hx hb dL_law_616 rfl (lv_at hl 4 rfl) ?_
  refine lv_iload (pc := 617) hx hb dL_law_617 (lv_at hl 0 rfl) ?_
  refine lv_iconst (pc := 619) (v := 4) hx hb dL_law_619 (by decide) ?_
  refine lv_iadd (pc := 620) hx hb dL_law_620 ?_
  refine z_sld (pc := 621) (j := i + 4) cx hX hsb (Nat.not_le.mpr hsb) hS (by simp only [nI, Int32.ofNat_add] <;> rfl) (by omega) hLL dL_law_621 ?_
  refine z_callV (pc := 622) cx vm_X8_bands (c_X8_bands l E a r im rd wa kp so sz el pr ts nu bu ht th po ba en td ig ij (xs (i + 1)) (xs (i + 2)) (xs (i + 3)) (xs (i + 4)) hG.1) (z_rec cx.2 (hV.at 0 rfl) rfl) hV m_ml_L_64 ⟨rfl, rfl⟩ ⟨Nat.le_of_ble_eq_true rfl, Nat.le_of_ble_eq_true rfl⟩ rfl hl.1 rfl (by simp [Value.category]) dL_law_622 ⟨(by show cells + 0 ≤ 660476; omega), (by show slots + 0 ≤ 7114676; omega)⟩ ?_
  refine (?_ : W p l e room_1 s m args below meth c H locs (cells + 0) (slots + 0) Q (F0 m 625 ls [.int (bandsP r (xs (i + 1)) (xs (i + 2)) (xs (i + 3)) (xs (i + 4))), .int (bandsP r (xs (i + 1)) (xs (i + 2)) (xs (i + 3)) (xs (i + 4)))]))
  refine lv_icmp_eq (pc := 625) (tgt := 1840) hx hb dL_law_625 (by decide) (fun _ => ?_) (fun c => absurd rfl c)
  refine W.widen (k := cells + 200) (n := slots + 2000) (by omega) (by omega) ?_
  exact kk r im ig kp so sz el pr ts G H locs ls (lv_sub hl [0, 1, 2, 3, 4] rfl) (CLS.mk hW hG hSh hIm hrp hrt hra hxp hxt hxa hrd hdm hri hwr) ⟨_, _, _, _, _, _, _, _, _, _, _, hV⟩ hO hSG hS
set_option maxHeartbeats 4000000 in
set_option maxRecDepth 100000 in
theorem y_10 (l : Launch) (hst : l.stackTraces = false) {p : Program} {e : Env} {s : State} {m : MethodId} {args : Array Value} {below : List Frame} {meth : Method} {c : Code} {H : Heap} {locs : List Loc} {cells slots : Nat} {Q : State → Prop} {ls : Array Slot} {E : zE} {a b : Nat → Nat} {o sb L i : Nat} {xs : Nat → Int32} {r : Nat → Int32} {im : Nat → Int32} {ig : Bool} {kp : Nat → Int32} {so : Nat → Int32} {sz : Nat → Int32} {el : Nat → Int32} {pr : Nat → Int32} {ts : Nat → Int32} {G : zG} (cx : Cx E p s args m c RL code 8) (hX : va_X sb L xs s s.heap) (hsb : sb < s.heap.size) (hLL : L ≤ 3072) (hi : i + 6 ≤ L) (hLF : LF a b o s.heap.size) (hCE : CE E (FL s.heap.size) s s.heap) (hXE : XE E (FL s.heap.size) s s.heap) (hl : lv_has ls 8 [(4, .int (nI i)), (3, .ref o), (2, .ref (a 0)), (1, .ref (b 0)), (0, .ref sb)]) (hS : va_S (FL s.heap.size) s.heap H locs) (hc1 : cells + 200 ≤ 660476) (hc2 : slots + 2000 ≤ 7114676) (hC : CLS E b r im ig kp so sz el pr ts G H) (hR : REF E a r im ig kp so sz el pr ts H) (hO : OUTc E o H) (hSG : SEP a o s.heap.size G) (kk : ∀ (r : Nat → Int32) (im : Nat → Int32) (ig : Bool) (kp : Nat → Int32) (so : Nat → Int32) (sz : Nat → Int32) (el : Nat → Int32) (pr : Nat → Int32) (ts : Nat → Int32) (G : zG) (H1 : Heap) (locs1 : List Loc) (ls1 : Array Slot), lv_has ls1 8 [(4, .int (nI i)), (3, .ref o), (2, .ref (a 0)), (1, .ref (b 0)), (0, .ref sb)] → CLS E b r im ig kp so sz el pr ts G H1 → REF E a r im ig kp so sz el pr ts H1 → OUTc E o H1 → SEP a o s.heap.size G → va_S (FL s.heap.size) s.heap H1 locs1 → W p l e room_1 s m args below meth c H1 locs1 (cells + 200) (slots + 2000) Q (F0 m 1840 ls1 [])) : W p l e room_1 s m args below meth c H locs cells slots Q (F0 m 630 ls []) := by
  refine hC.elim (fun qt qr tbu wst asw pN tN aN wx pp tp ap sg uh ud up ur us ux xN xT xA xh xd xl xr xo xw xpp xtp xap xsg yN yT yA yh yd yl yr yo yw ypp ytp yap ysg zat zpl zlt zjo zfo zsz zby znu hW hG hSh hIm hrp hrt hra hxp hxt hxa hrd hdm hri hwr => ?_)
  obtain ⟨rd, wa, nu, bu, ht, th, po, ba, en, td, ij, hV⟩ := hR
  have hx := cx.x
  have hb := cx.b
  refine lv_aload_n (pc := 630) hx hb dL_law_630 rfl (lv_at hl 3 rfl) ?_
  refine lv_aload_n (pc := 631) hx hb dL_law_631 rfl (lv_at hl 4 rfl) ?_
  refine lv_iload (pc := 632) hx hb dL_law_632 (lv_at hl 0 rfl) ?_
  refine lv_iconst (pc := 634) (v := 1) hx hb dL_law_634 (by decide) ?_
  refine lv_iadd (pc := 635) hx hb dL_law_635 ?_
  refine z_sld (pc := 636) (j := i + 1) cx hX hsb (Nat.not_le.mpr hsb) hS (by simp only [nI, Int32.ofNat_add] <;> rfl) (by omega) hLL dL_law_636 ?_
  refine lv_aload_n (pc := 637) hx hb dL_law_637 rfl (lv_at hl 4 rfl) ?_
  refine lv_iload (pc := 638) hx hb dL_law_638 (lv_at hl 0 rfl) ?_
  refine lv_iconst (pc := 640) (v := 2) hx hb dL_law_640 (by decide) ?_
  refine lv_iadd (pc := 641) hx hb dL_law_641 ?_
  refine z_sld (pc := 642) (j := i + 2) cx hX hsb (Nat.not_le.mpr hsb) hS (by simp only [nI, Int32.ofNat_add] <;> rfl) (by omega) hLL dL_law_642 ?_
  refine z_callVw (pc := 643) cx vm_X7_loudest (c_X7_loudest l E b (wT b E.2.1 xN xT xA xh xd xl xr xo xw xpp xtp xap xsg yN yT yA yh yd yl yr yo yw ypp ytp yap ysg zat zpl zlt zjo zfo zsz zby znu) ig qt qr tbu wst asw pN tN aN wx pp tp ap sg uh ud up ur us ux G (xs (i + 1)) (xs (i + 2)) r hG) (z_rec cx.2 (hW.at 0 rfl) rfl) hW hS (fun q ⟨k, hk⟩ => by rw [hk]; exact hLF.2.2.2.1 k) m_ml_L_65 ⟨rfl, rfl⟩ ⟨Nat.le_of_ble_eq_true rfl, Nat.le_of_ble_eq_true rfl⟩ rfl hl.1 rfl (by simp [Value.category]) dL_law_643 ⟨(by show cells ≤ 660476; omega), (by show slots ≤ 7114676; omega)⟩ (fun v H locs hq hS hk2 => ?_)
  obtain ⟨sg2, rfl, hW2⟩ := hq
  have hW : WW E (wK b E.2.1 (wT b E.2.1 xN xT xA xh xd xl xr xo xw xpp xtp xap xsg yN yT yA yh yd yl yr yo yw ypp ytp yap ysg zat zpl zlt zjo zfo zsz zby znu) ig qt qr tbu wst asw pN tN aN (hdC (r 3)) (r 4) (r 5) (r 6) (r 7) wx pp tp ap sg2 uh ud up ur us ux) G H := hW2
  have hV := hV.refK hk2.2 (fun j ⟨k, hk⟩ => hLF.1 j k hk)
  have hO := hO.kept hk2.2 (fun ⟨k, hk⟩ => hLF.2.1 k hk)
  refine (?_ : W p l e room_1 s m args below meth c H locs (cells + 0) (slots + 0) Q (F0 m 646 ls [.int (loudestP r (xs (i + 1)) (xs (i + 2)))]))
  refine lv_aload_n (pc := 646) hx hb dL_law_646 rfl (lv_at hl 2 rfl) ?_
  refine lv_aload_n (pc := 647) hx hb dL_law_647 rfl (lv_at hl 4 rfl) ?_
  refine lv_iload (pc := 648) hx hb dL_law_648 (lv_at hl 0 rfl) ?_
  refine lv_iconst (pc := 650) (v := 1) hx hb dL_law_650 (by decide) ?_
  refine lv_iadd (pc := 651) hx hb dL_law_651 ?_
  refine z_sld (pc := 652) (j := i + 1) cx hX hsb (Nat.not_le.mpr hsb) hS (by simp only [nI, Int32.ofNat_add] <;> rfl) (by omega) hLL dL_law_652 ?_
  refine lv_aload_n (pc := 653) hx hb dL_law_653 rfl (lv_at hl 4 rfl) ?_
  refine lv_iload (pc := 654) hx hb dL_law_654 (lv_at hl 0 rfl) ?_
  refine lv_iconst (pc := 656) (v := 2) hx hb dL_law_656 (by decide) ?_
  refine lv_iadd (pc := 657) hx hb dL_law_657 ?_
  refine z_sld (pc := 658) (j := i + 2) cx hX hsb (Nat.not_le.mpr hsb) hS (by simp only [nI, Int32.ofNat_add] <;> rfl) (by omega) hLL dL_law_658 ?_
  refine z_callV (pc := 659) cx vm_X8_loudest (c_X8_loudest l E a r im rd wa kp so sz el pr ts nu bu ht th po ba en td ig ij (xs (i + 1)) (xs (i + 2)) hG.1) (z_rec cx.2 (hV.at 0 rfl) rfl) hV m_ml_L_68 ⟨rfl, rfl⟩ ⟨Nat.le_of_ble_eq_true rfl, Nat.le_of_ble_eq_true rfl⟩ rfl hl.1 rfl (by simp [Value.category]) dL_law_659 ⟨(by show cells + 0 ≤ 660476; omega), (by show slots + 0 ≤ 7114676; omega)⟩ ?_
  refine (?_ : W p l e room_1 s m args below meth c H locs (cells + 0) (slots + 0) Q (F0 m 662 ls [.int (loudestP r (xs (i + 1)) (xs (i + 2))), .int (loudestP r (xs (i + 1)) (xs (i + 2)))]))
  refine lv_icmp_eq (pc := 662) (tgt := 1840) hx hb dL_law_662 (by decide) (fun _ => ?_) (fun c => absurd rfl c)
  refine W.widen (k := cells + 200) (n := slots + 2000) (by omega) (by omega) ?_
  exact kk r im ig kp so sz el pr ts G H locs ls (lv_sub hl [0, 1, 2, 3, 4] rfl) (CLS.mk hW hG hSh hIm hrp hrt hra hxp hxt hxa hrd hdm hri hwr) ⟨_, _, _, _, _, _, _, _, _, _, _, hV⟩ hO hSG hS
set_option maxHeartbeats 4000000 in
set_option maxRecDepth 100000 in
theorem y_11 (l : Launch) (hst : l.stackTraces = false) {p : Program} {e : Env} {s : State} {m : MethodId} {args : Array Value} {below : List Frame} {meth : Method} {c : Code} {H : Heap} {locs : List Loc} {cells slots : Nat} {Q : State → Prop} {ls : Array Slot} {E : zE} {a b : Nat → Nat} {o sb L i : Nat} {xs : Nat → Int32} {r : Nat → Int32} {im : Nat → Int32} {ig : Bool} {kp : Nat → Int32} {so : Nat → Int32} {sz : Nat → Int32} {el : Nat → Int32} {pr : Nat → Int32} {ts : Nat → Int32} {G : zG} (cx : Cx E p s args m c RL code 8) (hX : va_X sb L xs s s.heap) (hsb : sb < s.heap.size) (hLL : L ≤ 3072) (hi : i + 6 ≤ L) (hLF : LF a b o s.heap.size) (hCE : CE E (FL s.heap.size) s s.heap) (hXE : XE E (FL s.heap.size) s s.heap) (hl : lv_has ls 8 [(4, .int (nI i)), (3, .ref o), (2, .ref (a 0)), (1, .ref (b 0)), (0, .ref sb)]) (hS : va_S (FL s.heap.size) s.heap H locs) (hc1 : cells + 200 ≤ 660476) (hc2 : slots + 2000 ≤ 7114676) (hC : CLS E b r im ig kp so sz el pr ts G H) (hR : REF E a r im ig kp so sz el pr ts H) (hO : OUTc E o H) (hSG : SEP a o s.heap.size G) (kk : ∀ (r : Nat → Int32) (im : Nat → Int32) (ig : Bool) (kp : Nat → Int32) (so : Nat → Int32) (sz : Nat → Int32) (el : Nat → Int32) (pr : Nat → Int32) (ts : Nat → Int32) (G : zG) (H1 : Heap) (locs1 : List Loc) (ls1 : Array Slot), lv_has ls1 8 [(4, .int (nI i)), (3, .ref o), (2, .ref (a 0)), (1, .ref (b 0)), (0, .ref sb)] → CLS E b r im ig kp so sz el pr ts G H1 → REF E a r im ig kp so sz el pr ts H1 → OUTc E o H1 → SEP a o s.heap.size G → va_S (FL s.heap.size) s.heap H1 locs1 → W p l e room_1 s m args below meth c H1 locs1 (cells + 200) (slots + 2000) Q (F0 m 1840 ls1 [])) : W p l e room_1 s m args below meth c H locs cells slots Q (F0 m 667 ls []) := by
  refine hC.elim (fun qt qr tbu wst asw pN tN aN wx pp tp ap sg uh ud up ur us ux xN xT xA xh xd xl xr xo xw xpp xtp xap xsg yN yT yA yh yd yl yr yo yw ypp ytp yap ysg zat zpl zlt zjo zfo zsz zby znu hW hG hSh hIm hrp hrt hra hxp hxt hxa hrd hdm hri hwr => ?_)
  obtain ⟨rd, wa, nu, bu, ht, th, po, ba, en, td, ij, hV⟩ := hR
  have hx := cx.x
  have hb := cx.b
  refine lv_aload_n (pc := 667) hx hb dL_law_667 rfl (lv_at hl 3 rfl) ?_
  refine lv_aload_n (pc := 668) hx hb dL_law_668 rfl (lv_at hl 4 rfl) ?_
  refine lv_iload (pc := 669) hx hb dL_law_669 (lv_at hl 0 rfl) ?_
  refine lv_iconst (pc := 671) (v := 1) hx hb dL_law_671 (by decide) ?_
  refine lv_iadd (pc := 672) hx hb dL_law_672 ?_
  refine z_sld (pc := 673) (j := i + 1) cx hX hsb (Nat.not_le.mpr hsb) hS (by simp only [nI, Int32.ofNat_add] <;> rfl) (by omega) hLL dL_law_673 ?_
  refine lv_aload_n (pc := 674) hx hb dL_law_674 rfl (lv_at hl 4 rfl) ?_
  refine lv_iload (pc := 675) hx hb dL_law_675 (lv_at hl 0 rfl) ?_
  refine lv_iconst (pc := 677) (v := 2) hx hb dL_law_677 (by decide) ?_
  refine lv_iadd (pc := 678) hx hb dL_law_678 ?_
  refine z_sld (pc := 679) (j := i + 2) cx hX hsb (Nat.not_le.mpr hsb) hS (by simp only [nI, Int32.ofNat_add] <;> rfl) (by omega) hLL dL_law_679 ?_
  refine z_callVw (pc := 680) cx vm_X7_softest (c_X7_softest l E b (wT b E.2.1 xN xT xA xh xd xl xr xo xw xpp xtp xap xsg yN yT yA yh yd yl yr yo yw ypp ytp yap ysg zat zpl zlt zjo zfo zsz zby znu) ig qt qr tbu wst asw pN tN aN wx pp tp ap sg uh ud up ur us ux G (xs (i + 1)) (xs (i + 2)) r hG) (z_rec cx.2 (hW.at 0 rfl) rfl) hW hS (fun q ⟨k, hk⟩ => by rw [hk]; exact hLF.2.2.2.1 k) m_ml_L_69 ⟨rfl, rfl⟩ ⟨Nat.le_of_ble_eq_true rfl, Nat.le_of_ble_eq_true rfl⟩ rfl hl.1 rfl (by simp [Value.category]) dL_law_680 ⟨(by show cells ≤ 660476; omega), (by show slots ≤ 7114676; omega)⟩ (fun v H locs hq hS hk2 => ?_)
  obtain ⟨sg2, rfl, hW2⟩ := hq
  have hW : WW E (wK b E.2.1 (wT b E.2.1 xN xT xA xh xd xl xr xo xw xpp xtp xap xsg yN yT yA yh yd yl yr yo yw ypp ytp yap ysg zat zpl zlt zjo zfo zsz zby znu) ig qt qr tbu wst asw pN tN aN (hdC (r 3)) (r 4) (r 5) (r 6) (r 7) wx pp tp ap sg2 uh ud up ur us ux) G H := hW2
  have hV := hV.refK hk2.2 (fun j ⟨k, hk⟩ => hLF.1 j k hk)
  have hO := hO.kept hk2.2 (fun ⟨k, hk⟩ => hLF.2.1 k hk)
  refine (?_ : W p l e room_1 s m args below meth c H locs (cells + 0) (slots + 0) Q (F0 m 683 ls [.int (softestP r (xs (i + 1)) (xs (i + 2)))]))
  refine lv_aload_n (pc := 683) hx hb dL_law_683 rfl (lv_at hl 2 rfl) ?_
  refine lv_aload_n (pc := 684) hx hb dL_law_684 rfl (lv_at hl 4 rfl) ?_
  refine lv_iload (pc := 685) hx hb dL_law_685 (lv_at hl 0 rfl) ?_
  refine lv_iconst (pc := 687) (v := 1) hx hb dL_law_687 (by decide) ?_
  refine lv_iadd (pc := 688) hx hb dL_law_688 ?_
  refine z_sld (pc := 689) (j := i + 1) cx hX hsb (Nat.not_le.mpr hsb) hS (by simp only [nI, Int32.ofNat_add] <;> rfl) (by omega) hLL dL_law_689 ?_
  refine lv_aload_n (pc := 690) hx hb dL_law_690 rfl (lv_at hl 4 rfl) ?_
  refine lv_iload (pc := 691) hx hb dL_law_691 (lv_at hl 0 rfl) ?_
  refine lv_iconst (pc := 693) (v := 2) hx hb dL_law_693 (by decide) ?_
  refine lv_iadd (pc := 694) hx hb dL_law_694 ?_
  refine z_sld (pc := 695) (j := i + 2) cx hX hsb (Nat.not_le.mpr hsb) hS (by simp only [nI, Int32.ofNat_add] <;> rfl) (by omega) hLL dL_law_695 ?_
  refine z_callV (pc := 696) cx vm_X8_softest (c_X8_softest l E a r im rd wa kp so sz el pr ts nu bu ht th po ba en td ig ij (xs (i + 1)) (xs (i + 2)) hG.1) (z_rec cx.2 (hV.at 0 rfl) rfl) hV m_ml_L_72 ⟨rfl, rfl⟩ ⟨Nat.le_of_ble_eq_true rfl, Nat.le_of_ble_eq_true rfl⟩ rfl hl.1 rfl (by simp [Value.category]) dL_law_696 ⟨(by show cells + 0 ≤ 660476; omega), (by show slots + 0 ≤ 7114676; omega)⟩ ?_
  refine (?_ : W p l e room_1 s m args below meth c H locs (cells + 0) (slots + 0) Q (F0 m 699 ls [.int (softestP r (xs (i + 1)) (xs (i + 2))), .int (softestP r (xs (i + 1)) (xs (i + 2)))]))
  refine lv_icmp_eq (pc := 699) (tgt := 1840) hx hb dL_law_699 (by decide) (fun _ => ?_) (fun c => absurd rfl c)
  refine W.widen (k := cells + 200) (n := slots + 2000) (by omega) (by omega) ?_
  exact kk r im ig kp so sz el pr ts G H locs ls (lv_sub hl [0, 1, 2, 3, 4] rfl) (CLS.mk hW hG hSh hIm hrp hrt hra hxp hxt hxa hrd hdm hri hwr) ⟨_, _, _, _, _, _, _, _, _, _, _, hV⟩ hO hSG hS
