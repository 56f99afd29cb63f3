set_option maxHeartbeats 4000000 in
set_option maxRecDepth 100000 in
theorem y_24 (l : Launch) (hst : l.stackTraces = false) {p : Program} {e : Env} {s : State} {m : MethodId} {args : Array Value} {below : List Frame} {meth : Method} {c : Code} {H : Heap} {locs : List Loc} {cells slots : Nat} {Q : State → Prop} {ls : Array Slot} {E : zE} {a b : Nat → Nat} {o sb L i : Nat} {xs : Nat → Int32} {r : Nat → Int32} {im : Nat → Int32} {ig : Bool} {kp : Nat → Int32} {so : Nat → Int32} {sz : Nat → Int32} {el : Nat → Int32} {pr : Nat → Int32} {ts : Nat → Int32} {G : zG} (cx : Cx E p s args m c RL code 8) (hX : va_X sb L xs s s.heap) (hsb : sb < s.heap.size) (hLL : L ≤ 3072) (hi : i + 6 ≤ L) (hLF : LF a b o s.heap.size) (hCE : CE E (FL s.heap.size) s s.heap) (hXE : XE E (FL s.heap.size) s s.heap) (hl : lv_has ls 8 [(4, .int (nI i)), (3, .ref o), (2, .ref (a 0)), (1, .ref (b 0)), (0, .ref sb)]) (hS : va_S (FL s.heap.size) s.heap H locs) (hc1 : cells + 200 ≤ 660476) (hc2 : slots + 2000 ≤ 7114676) (hC : CLS E b r im ig kp so sz el pr ts G H) (hR : REF E a r im ig kp so sz el pr ts H) (hO : OUTc E o H) (hSG : SEP a o s.heap.size G) (kk : ∀ (r : Nat → Int32) (im : Nat → Int32) (ig : Bool) (kp : Nat → Int32) (so : Nat → Int32) (sz : Nat → Int32) (el : Nat → Int32) (pr : Nat → Int32) (ts : Nat → Int32) (G : zG) (H1 : Heap) (locs1 : List Loc) (ls1 : Array Slot), lv_has ls1 8 [(4, .int (nI i)), (3, .ref o), (2, .ref (a 0)), (1, .ref (b 0)), (0, .ref sb)] → CLS E b r im ig kp so sz el pr ts G H1 → REF E a r im ig kp so sz el pr ts H1 → OUTc E o H1 → SEP a o s.heap.size G → va_S (FL s.heap.size) s.heap H1 locs1 → W p l e room_1 s m args below meth c H1 locs1 (cells + 200) (slots + 2000) Q (F0 m 1840 ls1 [])) : W p l e room_1 s m args below meth c H locs cells slots Q (F0 m 1144 ls []) := by
  refine hC.elim (fun qt qr tbu wst asw pN tN aN wx pp tp ap sg uh ud up ur us ux xN xT xA xh xd xl xr xo xw xpp xtp xap xsg yN yT yA yh yd yl yr yo yw ypp ytp yap ysg zat zpl zlt zjo zfo zsz zby znu hW hG hSh hIm hrp hrt hra hxp hxt hxa hrd hdm hri hwr => ?_)
  obtain ⟨rd, wa, nu, bu, ht, th, po, ba, en, td, ij, hV⟩ := hR
  have hx := cx.x
  have hb := cx.b
  refine lv_aload_n (pc := 1144) hx hb dL_law_1144 rfl (lv_at hl 3 rfl) ?_
  refine lv_aload_n (pc := 1145) hx hb dL_law_1145 rfl (lv_at hl 4 rfl) ?_
  refine lv_iload (pc := 1146) hx hb dL_law_1146 (lv_at hl 0 rfl) ?_
  refine lv_iconst (pc := 1148) (v := 1) hx hb dL_law_1148 (by decide) ?_
  refine lv_iadd (pc := 1149) hx hb dL_law_1149 ?_
  refine z_sld (pc := 1150) (j := i + 1) cx hX hsb (Nat.not_le.mpr hsb) hS (by simp only [nI, Int32.ofNat_add] <;> rfl) (by omega) hLL dL_law_1150 ?_
  refine lv_aload_n (pc := 1151) hx hb dL_law_1151 rfl (lv_at hl 4 rfl) ?_
  refine lv_iload (pc := 1152) hx hb dL_law_1152 (lv_at hl 0 rfl) ?_
  refine lv_iconst (pc := 1154) (v := 2) hx hb dL_law_1154 (by decide) ?_
  refine lv_iadd (pc := 1155) hx hb dL_law_1155 ?_
  refine z_sld (pc := 1156) (j := i + 2) cx hX hsb (Nat.not_le.mpr hsb) hS (by simp only [nI, Int32.ofNat_add] <;> rfl) (by omega) hLL dL_law_1156 ?_
  refine lv_aload_n (pc := 1157) hx hb dL_law_1157 rfl (lv_at hl 4 rfl) ?_
  refine lv_iload (pc := 1158) hx hb dL_law_1158 (lv_at hl 0 rfl) ?_
  refine lv_iconst (pc := 1160) (v := 3) hx hb dL_law_1160 (by decide) ?_
  refine lv_iadd (pc := 1161) hx hb dL_law_1161 ?_
  refine z_sld (pc := 1162) (j := i + 3) cx hX hsb (Nat.not_le.mpr hsb) hS (by simp only [nI, Int32.ofNat_add] <;> rfl) (by omega) hLL dL_law_1162 ?_
  refine z_callVw (pc := 1163) cx vm_X7_friday (c_X7_friday l E b (wT b E.2.1 xN xT xA xh xd xl xr xo xw xpp xtp xap xsg yN yT yA yh yd yl yr yo yw ypp ytp yap ysg zat zpl zlt zjo zfo zsz zby znu) ig qt qr tbu wst asw pN tN aN wx pp tp ap sg uh ud up ur us ux G (xs (i + 1)) (xs (i + 2)) (xs (i + 3)) r kp so sz el pr ts hG hSh) (z_rec cx.2 (hW.at 0 rfl) rfl) hW hS (fun q ⟨k, hk⟩ => by rw [hk]; exact hLF.2.2.2.1 k) m_ml_L_124 ⟨rfl, rfl⟩ ⟨Nat.le_of_ble_eq_true rfl, Nat.le_of_ble_eq_true rfl⟩ rfl hl.1 rfl (by simp [Value.category]) dL_law_1163 ⟨(by show cells ≤ 660476; omega), (by show slots ≤ 7114676; omega)⟩ (fun v H locs hq hS hk2 => ?_)
  obtain ⟨sg2, rfl, hW2⟩ := hq
  have hW : WW E (wK b E.2.1 (wT b E.2.1 xN xT xA xh xd xl xr xo xw xpp xtp xap xsg yN yT yA yh yd yl yr yo yw ypp ytp yap ysg zat zpl zlt zjo zfo zsz zby znu) ig qt qr tbu wst asw pN tN aN (hdC (r 3)) (r 4) (r 5) (r 6) (r 7) wx pp tp ap sg2 uh ud up ur us ux) G H := hW2
  have hV := hV.refK hk2.2 (fun j ⟨k, hk⟩ => hLF.1 j k hk)
  have hO := hO.kept hk2.2 (fun ⟨k, hk⟩ => hLF.2.1 k hk)
  refine (?_ : W p l e room_1 s m args below meth c H locs (cells + 0) (slots + 0) Q (F0 m 1166 ls [.int (fridayP r kp so sz el (xs (i + 1)) (xs (i + 2)) (xs (i + 3)))]))
  refine lv_aload_n (pc := 1166) hx hb dL_law_1166 rfl (lv_at hl 2 rfl) ?_
  refine lv_aload_n (pc := 1167) hx hb dL_law_1167 rfl (lv_at hl 4 rfl) ?_
  refine lv_iload (pc := 1168) hx hb dL_law_1168 (lv_at hl 0 rfl) ?_
  refine lv_iconst (pc := 1170) (v := 1) hx hb dL_law_1170 (by decide) ?_
  refine lv_iadd (pc := 1171) hx hb dL_law_1171 ?_
  refine z_sld (pc := 1172) (j := i + 1) cx hX hsb (Nat.not_le.mpr hsb) hS (by simp only [nI, Int32.ofNat_add] <;> rfl) (by omega) hLL dL_law_1172 ?_
  refine lv_aload_n (pc := 1173) hx hb dL_law_1173 rfl (lv_at hl 4 rfl) ?_
  refine lv_iload (pc := 1174) hx hb dL_law_1174 (lv_at hl 0 rfl) ?_
  refine lv_iconst (pc := 1176) (v := 2) hx hb dL_law_1176 (by decide) ?_
  refine lv_iadd (pc := 1177) hx hb dL_law_1177 ?_
  refine z_sld (pc := 1178) (j := i + 2) cx hX hsb (Nat.not_le.mpr hsb) hS (by simp only [nI, Int32.ofNat_add] <;> rfl) (by omega) hLL dL_law_1178 ?_
  refine lv_aload_n (pc := 1179) hx hb dL_law_1179 rfl (lv_at hl 4 rfl) ?_
  refine lv_iload (pc := 1180) hx hb dL_law_1180 (lv_at hl 0 rfl) ?_
  refine lv_iconst (pc := 1182) (v := 3) hx hb dL_law_1182 (by decide) ?_
  refine lv_iadd (pc := 1183) hx hb dL_law_1183 ?_
  refine z_sld (pc := 1184) (j := i + 3) cx hX hsb (Nat.not_le.mpr hsb) hS (by simp only [nI, Int32.ofNat_add] <;> rfl) (by omega) hLL dL_law_1184 ?_
  refine z_callV (pc := 1185) cx vm_X8_friday (c_X8_friday l E a r im rd wa kp so sz el pr ts nu bu ht th po ba en td ig ij (xs (i + 1)) (xs (i + 2)) (xs (i + 3)) hG.1 hSh.1) (z_rec cx.2 (hV.at 0 rfl) rfl) hV m_ml_L_127 ⟨rfl, rfl⟩ ⟨Nat.le_of_ble_eq_true rfl, Nat.le_of_ble_eq_true rfl⟩ rfl hl.1 rfl (by simp [Value.category]) dL_law_1185 ⟨(by show cells + 0 ≤ 660476; omega), (by show slots + 0 ≤ 7114676; omega)⟩ ?_
  refine (?_ : W p l e room_1 s m args below meth c H locs (cells + 0) (slots + 0) Q (F0 m 1188 ls [.int (fridayP r kp so sz el (xs (i + 1)) (xs (i + 2)) (xs (i + 3))), .int (fridayP r kp so sz el (xs (i + 1)) (xs (i + 2)) (xs (i + 3)))]))
  refine lv_icmp_eq (pc := 1188) (tgt := 1840) hx hb dL_law_1188 (by decide) (fun _ => ?_) (fun c => absurd rfl c)
  refine W.widen (k := cells + 200) (n := slots + 2000) (by omega) (by omega) ?_
  exact kk r im ig kp so sz el pr ts G H locs ls (lv_sub hl [0, 1, 2, 3, 4] rfl) (CLS.mk hW hG hSh hIm hrp hrt hra hxp hxt hxa hrd hdm hri hwr) ⟨_, _, _, _, _, _, _, _, _, _, _, hV⟩ hO hSG hS
set_option maxHeartbeats 4000000 in
set_option maxRecDepth 100000 in
theorem y_25 (l : Launch) (hst : l.stackTraces = false) {p : Program} {e : Env} {s : State} {m : MethodId} {args : Array Value} {below : List Frame} {meth : Method} {c : Code} {H : Heap} {locs : List Loc} {cells slots : Nat} {Q : State → Prop} {ls : Array Slot} {E : zE} {a b : Nat → Nat} {o sb L i : Nat} {xs : Nat → Int32} {r : Nat → Int32} {im : Nat → Int32} {ig : Bool} {kp : Nat → Int32} {so : Nat → Int32} {sz : Nat → Int32} {el : Nat → Int32} {pr : Nat → Int32} {ts : Nat → Int32} {G : zG} (cx : Cx E p s args m c RL code 8) (hX : va_X sb L xs s s.heap) (hsb : sb < s.heap.size) (hLL : L ≤ 3072) (hi : i + 6 ≤ L) (hLF : LF a b o s.heap.size) (hCE : CE E (FL s.heap.size) s s.heap) (hXE : XE E (FL s.heap.size) s s.heap) (hl : lv_has ls 8 [(4, .int (nI i)), (3, .ref o), (2, .ref (a 0)), (1, .ref (b 0)), (0, .ref sb)]) (hS : va_S (FL s.heap.size) s.heap H locs) (hc1 : cells + 200 ≤ 660476) (hc2 : slots + 2000 ≤ 7114676) (hC : CLS E b r im ig kp so sz el pr ts G H) (hR : REF E a r im ig kp so sz el pr ts H) (hO : OUTc E o H) (hSG : SEP a o s.heap.size G) (kk : ∀ (r : Nat → Int32) (im : Nat → Int32) (ig : Bool) (kp : Nat → Int32) (so : Nat → Int32) (sz : Nat → Int32) (el : Nat → Int32) (pr : Nat → Int32) (ts : Nat → Int32) (G : zG) (H1 : Heap) (locs1 : List Loc) (ls1 : Array Slot), lv_has ls1 8 [(4, .int (nI i)), (3, .ref o), (2, .ref (a 0)), (1, .ref (b 0)), (0, .ref sb)] → CLS E b r im ig kp so sz el pr ts G H1 → REF E a r im ig kp so sz el pr ts H1 → OUTc E o H1 → SEP a o s.heap.size G → va_S (FL s.heap.size) s.heap H1 locs1 → W p l e room_1 s m args below meth c H1 locs1 (cells + 200) (slots + 2000) Q (F0 m 1840 ls1 [])) : W p l e room_1 s m args below meth c H locs cells slots Q (F0 m 1193 ls []) := by
  refine hC.elim (fun qt qr tbu wst asw pN tN aN wx pp tp ap sg uh ud up ur us ux xN xT xA xh xd xl xr xo xw xpp xtp xap xsg yN yT yA yh yd yl yr yo yw ypp ytp yap ysg zat zpl zlt zjo zfo zsz zby znu hW hG hSh hIm hrp hrt hra hxp hxt hxa hrd hdm hri hwr => ?_)
  obtain ⟨rd, wa, nu, bu, ht, th, po, ba, en, td, ij, hV⟩ := hR
  have hx := cx.x
  have hb := cx.b
  refine lv_aload_n (pc := 1193) hx hb dL_law_1193 rfl (lv_at hl 3 rfl) ?_
  refine lv_aload_n (pc := 1194) hx hb dL_law_1194 rfl (lv_at hl 4 rfl) ?_
  refine lv_iload (pc := 1195) hx hb dL_law_1195 (lv_at hl 0 rfl) ?_
  refine lv_iconst (pc := 1197) (v := 1) hx hb dL_law_1197 (by decide) ?_
  refine lv_iadd (pc := 1198) hx hb dL_law_1198 ?_
  refine z_sld (pc := 1199) (j := i + 1) cx hX hsb (Nat.not_le.mpr hsb) hS (by simp only [nI, Int32.ofNat_add] <;> rfl) (by omega) hLL dL_law_1199 ?_
  refine z_callV (pc := 1200) cx vm_X7_wolf (c_X7_wolf l E b (wT b E.2.1 xN xT xA xh xd xl xr xo xw xpp xtp xap xsg yN yT yA yh yd yl yr yo yw ypp ytp yap ysg zat zpl zlt zjo zfo zsz zby znu) ig qt qr tbu wst asw pN tN aN wx pp tp ap sg uh ud up ur us ux G (xs (i + 1)) r hG) (z_rec cx.2 (hW.at 0 rfl) rfl) hW m_ml_L_128 ⟨rfl, rfl⟩ ⟨Nat.le_of_ble_eq_true rfl, Nat.le_of_ble_eq_true rfl⟩ rfl hl.1 rfl (by simp [Value.category]) dL_law_1200 ⟨(by show cells ≤ 660476; omega), (by show slots ≤ 7114676; omega)⟩ ?_
  refine (?_ : W p l e room_1 s m args below meth c H locs cells slots Q (F0 m 1203 ls [.int (wolfP r (xs (i + 1)))]))
  refine lv_aload_n (pc := 1203) hx hb dL_law_1203 rfl (lv_at hl 2 rfl) ?_
  refine lv_aload_n (pc := 1204) hx hb dL_law_1204 rfl (lv_at hl 4 rfl) ?_
  refine lv_iload (pc := 1205) hx hb dL_law_1205 (lv_at hl 0 rfl) ?_
  refine lv_iconst (pc := 1207) (v := 1) hx hb dL_law_1207 (by decide) ?_
  refine lv_iadd (pc := 1208) hx hb dL_law_1208 ?_
  refine z_sld (pc := 1209) (j := i + 1) cx hX hsb (Nat.not_le.mpr hsb) hS (by simp only [nI, Int32.ofNat_add] <;> rfl) (by omega) hLL dL_law_1209 ?_
  refine z_callV (pc := 1210) cx vm_X8_wolf (c_X8_wolf l E a r im rd wa kp so sz el pr ts nu bu ht th po ba en td ig ij (xs (i + 1)) hG.1) (z_rec cx.2 (hV.at 0 rfl) rfl) hV m_ml_L_131 ⟨rfl, rfl⟩ ⟨Nat.le_of_ble_eq_true rfl, Nat.le_of_ble_eq_true rfl⟩ rfl hl.1 rfl (by simp [Value.category]) dL_law_1210 ⟨(by show cells ≤ 660476; omega), (by show slots ≤ 7114676; omega)⟩ ?_
  refine (?_ : W p l e room_1 s m args below meth c H locs cells slots Q (F0 m 1213 ls [.int (wolfP r (xs (i + 1))), .int (wolfP r (xs (i + 1)))]))
  refine lv_icmp_eq (pc := 1213) (tgt := 1840) hx hb dL_law_1213 (by decide) (fun _ => ?_) (fun c => absurd rfl c)
  refine W.widen (k := cells + 200) (n := slots + 2000) (by omega) (by omega) ?_
  exact kk r im ig kp so sz el pr ts G H locs ls (lv_sub hl [0, 1, 2, 3, 4] rfl) (CLS.mk hW hG hSh hIm hrp hrt hra hxp hxt hxa hrd hdm hri hwr) ⟨_, _, _, _, _, _, _, _, _, _, _, hV⟩ hO hSG hS
set_option maxHeartbeats 4000000 in
set_option maxRecDepth 100000 in
theorem y_26 (l : Launch) (hst : l.stackTraces = false) {p : Program} {e : Env} {s : State} {m : MethodId} {args : Array Value} {below : List Frame} {meth : Method} {c : Code} {H : Heap} {locs : List Loc} {cells slots : Nat} {Q : State → Prop} {ls : Array Slot} {E : zE} {a b : Nat → Nat} {o sb L i : Nat} {xs : Nat → Int32} {r : Nat → Int32} {im : Nat → Int32} {ig : Bool} {kp : Nat → Int32} {so : Nat → Int32} {sz : Nat → Int32} {el : Nat → Int32} {pr : Nat → Int32} {ts : Nat → Int32} {G : zG} (cx : Cx E p s args m c RL code 8) (hX : va_X sb L xs s s.heap) (hsb : sb < s.heap.size) (hLL : L ≤ 3072) (hi : i + 6 ≤ L) (hLF : LF a b o s.heap.size) (hCE : CE E (FL s.heap.size) s s.heap) (hXE : XE E (FL s.heap.size) s s.heap) (hl : lv_has ls 8 [(4, .int (nI i)), (3, .ref o), (2, .ref (a 0)), (1, .ref (b 0)), (0, .ref sb)]) (hS : va_S (FL s.heap.size) s.heap H locs) (hc1 : cells + 200 ≤ 660476) (hc2 : slots + 2000 ≤ 7114676) (hC : CLS E b r im ig kp so sz el pr ts G H) (hR : REF E a r im ig kp so sz el pr ts H) (hO : OUTc E o H) (hSG : SEP a o s.heap.size G) (kk : ∀ (r : Nat → Int32) (im : Nat → Int32) (ig : Bool) (kp : Nat → Int32) (so : Nat → Int32) (sz : Nat → Int32) (el : Nat → Int32) (pr : Nat → Int32) (ts : Nat → Int32) (G : zG) (H1 : Heap) (locs1 : List Loc) (ls1 : Array Slot), lv_has ls1 8 [(4, .int (nI i)), (3, .ref o), (2, .ref (a 0)), (1, .ref (b 0)), (0, .ref sb)] → CLS E b r im ig kp so sz el pr ts G H1 → REF E a r im ig kp so sz el pr ts H1 → OUTc E o H1 → SEP a o s.heap.size G → va_S (FL s.heap.size) s.heap H1 locs1 → W p l e room_1 s m args below meth c H1 locs1 (cells + 200) (slots + 2000) Q (F0 m 1840 ls1 [])) : W p l e room_1 s m args below meth c H locs cells slots Q (F0 m 1218 ls []) := by
  refine hC.elim (fun qt qr tbu wst asw pN tN aN wx pp tp ap sg uh ud up ur us ux xN xT xA xh xd xl xr xo xw xpp xtp xap xsg yN yT yA yh yd yl yr yo yw ypp ytp yap ysg zat zpl zlt zjo zfo zsz zby znu hW hG hSh hIm hrp hrt hra hxp hxt hxa hrd hdm hri hwr => ?_)
  obtain ⟨rd, wa, nu, bu, ht, th, po, ba, en, td, ij, hV⟩ := hR
  have hx := cx.x
  have hb := cx.b
  refine lv_aload_n (pc := 1218) hx hb dL_law_1218 rfl (lv_at hl 3 rfl) ?_
  refine lv_aload_n (pc := 1219) hx hb dL_law_1219 rfl (lv_at hl 4 rfl) ?_
  refine lv_iload (pc := 1220) hx hb dL_law_1220 (lv_at hl 0 rfl) ?_
  refine lv_iconst (pc := 1222) (v := 1) hx hb dL_law_1222 (by decide) ?_
  refine lv_iadd (pc := 1223) hx hb dL_law_1223 ?_
  refine z_sld (pc := 1224) (j := i + 1) cx hX hsb (Nat.not_le.mpr hsb) hS (by simp only [nI, Int32.ofNat_add] <;> rfl) (by omega) hLL dL_law_1224 ?_
  refine z_callV (pc := 1225) cx vm_X7_beats (c_X7_beats l E b (wT b E.2.1 xN xT xA xh xd xl xr xo xw xpp xtp xap xsg yN yT yA yh yd yl yr yo yw ypp ytp yap ysg zat zpl zlt zjo zfo zsz zby znu) ig qt qr tbu wst asw pN tN aN wx pp tp ap sg uh ud up ur us ux G (xs (i + 1)) r hG) (z_rec cx.2 (hW.at 0 rfl) rfl) hW m_ml_L_132 ⟨rfl, rfl⟩ ⟨Nat.le_of_ble_eq_true rfl, Nat.le_of_ble_eq_true rfl⟩ rfl hl.1 rfl (by simp [Value.category]) dL_law_1225 ⟨(by show cells ≤ 660476; omega), (by show slots ≤ 7114676; omega)⟩ ?_
  refine (?_ : W p l e room_1 s m args below meth c H locs cells slots Q (F0 m 1228 ls [.int (beatsP r (xs (i + 1)))]))
  refine lv_aload_n (pc := 1228) hx hb dL_law_1228 rfl (lv_at hl 2 rfl) ?_
  refine lv_aload_n (pc := 1229) hx hb dL_law_1229 rfl (lv_at hl 4 rfl) ?_
  refine lv_iload (pc := 1230) hx hb dL_law_1230 (lv_at hl 0 rfl) ?_
  refine lv_iconst (pc := 1232) (v := 1) hx hb dL_law_1232 (by decide) ?_
  refine lv_iadd (pc := 1233) hx hb dL_law_1233 ?_
  refine z_sld (pc := 1234) (j := i + 1) cx hX hsb (Nat.not_le.mpr hsb) hS (by simp only [nI, Int32.ofNat_add] <;> rfl) (by omega) hLL dL_law_1234 ?_
  refine z_callV (pc := 1235) cx vm_X8_beats (c_X8_beats l E a r im rd wa kp so sz el pr ts nu bu ht th po ba en td ig ij (xs (i + 1)) hG.1) (z_rec cx.2 (hV.at 0 rfl) rfl) hV m_ml_L_135 ⟨rfl, rfl⟩ ⟨Nat.le_of_ble_eq_true rfl, Nat.le_of_ble_eq_true rfl⟩ rfl hl.1 rfl (by simp [Value.category]) dL_law_1235 ⟨(by show cells ≤ 660476; omega), (by show slots ≤ 7114676; omega)⟩ ?_
  refine (?_ : W p l e room_1 s m args below meth c H locs cells slots Q (F0 m 1238 ls [.int (beatsP r (xs (i + 1))), .int (beatsP r (xs (i + 1)))]))
  refine lv_icmp_eq (pc := 1238) (tgt := 1840) hx hb dL_law_1238 (by decide) (fun _ => ?_) (fun c => absurd rfl c)
  refine W.widen (k := cells + 200) (n := slots + 2000) (by omega) (by omega) ?_
  exact kk r im ig kp so sz el pr ts G H locs ls (lv_sub hl [0, 1, 2, 3, 4] rfl) (CLS.mk hW hG hSh hIm hrp hrt hra hxp hxt hxa hrd hdm hri hwr) ⟨_, _, _, _, _, _, _, _, _, _, _, hV⟩ hO hSG hS
set_option maxHeartbeats 4000000 in
set_option maxRecDepth 100000 in
theorem y_27 (l : Launch) (hst : l.stackTraces = false) {p : Program} {e : Env} {s : State} {m : MethodId} {args : Array Value} {below : List Frame} {meth : Method} {c : Code} {H : Heap} {locs : List Loc} {cells slots : Nat} {Q : State → Prop} {ls : Array Slot} {E : zE} {a b : Nat → Nat} {o sb L i : Nat} {xs : Nat → Int32} {r : Nat → Int32} {im : Nat → Int32} {ig : Bool} {kp : Nat → Int32} {so : Nat → Int32} {sz : Nat → Int32} {el : Nat → Int32} {pr : Nat → Int32} {ts : Nat → Int32} {G : zG} (cx : Cx E p s args m c RL code 8) (hX : va_X sb L xs s s.heap) (hsb : sb < s.heap.size) (hLL : L ≤ 3072) (hi : i + 6 ≤ L) (hLF : LF a b o s.heap.size) (hCE : CE E (FL s.heap.size) s s.heap) (hXE : XE E (FL s.heap.size) s s.heap) (hl : lv_has ls 8 [(4, .int (nI i)), (3, .ref o), (2, .ref (a 0)), (1, .ref (b 0)), (0, .ref sb)]) (hS : va_S (FL s.heap.size) s.heap H locs) (hc1 : cells + 200 ≤ 660476) (hc2 : slots + 2000 ≤ 7114676) (hC : CLS E b r im ig kp so sz el pr ts G H) (hR : REF E a r im ig kp so sz el pr ts H) (hO : OUTc E o H) (hSG : SEP a o s.heap.size G) (kk : ∀ (r : Nat → Int32) (im : Nat → Int32) (ig : Bool) (kp : Nat → Int32) (so : Nat → Int32) (sz : Nat → Int32) (el : Nat → Int32) (pr : Nat → Int32) (ts : Nat → Int32) (G : zG) (H1 : Heap) (locs1 : List Loc) (ls1 : Array Slot), lv_has ls1 8 [(4, .int (nI i)), (3, .ref o), (2, .ref (a 0)), (1, .ref (b 0)), (0, .ref sb)] → CLS E b r im ig kp so sz el pr ts G H1 → REF E a r im ig kp so sz el pr ts H1 → OUTc E o H1 → SEP a o s.heap.size G → va_S (FL s.heap.size) s.heap H1 locs1 → W p l e room_1 s m args below meth c H1 locs1 (cells + 200) (slots + 2000) Q (F0 m 1840 ls1 [])) : W p l e room_1 s m args below meth c H locs cells slots Q (F0 m 1243 ls []) := by
  refine hC.elim (fun qt qr tbu wst asw pN tN aN wx pp tp ap sg uh ud up ur us ux xN xT xA xh xd xl xr xo xw xpp xtp xap xsg yN yT yA yh yd yl yr yo yw ypp ytp yap ysg zat zpl zlt zjo zfo zsz zby znu hW hG hSh hIm hrp hrt hra hxp hxt hxa hrd hdm hri hwr => ?_)
  obtain ⟨rd, wa, nu, bu, ht, th, po, ba, en, td, ij, hV⟩ := hR
  have hx := cx.x
  have hb := cx.b
  refine lv_aload_n (pc := 1243) hx hb dL_law_1243 rfl (lv_at hl 3 rfl) ?_
  refine lv_aload_n (pc := 1244) hx hb dL_law_1244 rfl (lv_at hl 4 rfl) ?_
  refine lv_iload (pc := 1245) hx hb dL_law_1245 (lv_at hl 0 rfl) ?_
  refine lv_iconst (pc := 1247) (v := 1) hx hb dL_law_1247 (by decide) ?_
  refine lv_iadd (pc := 1248) hx hb dL_law_1248 ?_
  refine z_sld (pc := 1249) (j := i + 1) cx hX hsb (Nat.not_le.mpr hsb) hS (by simp only [nI, Int32.ofNat_add] <;> rfl) (by omega) hLL dL_law_1249 ?_
  refine z_callVw (pc := 1250) cx vm_X7_ends (c_X7_ends l E b (wT b E.2.1 xN xT xA xh xd xl xr xo xw xpp xtp xap xsg yN yT yA yh yd yl yr yo yw ypp ytp yap ysg zat zpl zlt zjo zfo zsz zby znu) ig qt qr tbu wst asw pN tN aN wx pp tp ap sg uh ud up ur us ux G (xs (i + 1)) r hG) (z_rec cx.2 (hW.at 0 rfl) rfl) hW hS (fun q ⟨k, hk⟩ => by rw [hk]; exact hLF.2.2.2.1 k) m_ml_L_136 ⟨rfl, rfl⟩ ⟨Nat.le_of_ble_eq_true rfl, Nat.le_of_ble_eq_true rfl⟩ rfl hl.1 rfl (by simp [Value.category]) dL_law_1250 ⟨(by show cells ≤ 660476; omega), (by show slots ≤ 7114676; omega)⟩ (fun v H locs hq hS hk2 => ?_)
  obtain ⟨uh2, ud2, up2, ur2, us2, ux2, rfl, hW2⟩ := hq
  have hW : WW E (wK b E.2.1 (wT b E.2.1 xN xT xA xh xd xl xr xo xw xpp xtp xap xsg yN yT yA yh yd yl yr yo yw ypp ytp yap ysg zat zpl zlt zjo zfo zsz zby znu) ig qt qr tbu wst asw pN tN aN (hdC (r 3)) (r 4) (r 5) (r 6) (r 7) wx pp tp ap sg uh2 ud2 up2 ur2 us2 ux2) G H := hW2
  have hV := hV.refK hk2.2 (fun j ⟨k, hk⟩ => hLF.1 j k hk)
  have hO := hO.kept hk2.2 (fun ⟨k, hk⟩ => hLF.2.1 k hk)
  refine (?_ : W p l e room_1 s m args below meth c H locs (cells + 0) (slots + 0) Q (F0 m 1253 ls [.int (endsP r (xs (i + 1)))]))
  refine lv_aload_n (pc := 1253) hx hb dL_law_1253 rfl (lv_at hl 2 rfl) ?_
  refine lv_aload_n (pc := 1254) hx hb dL_law_1254 rfl (lv_at hl 4 rfl) ?_
  refine lv_iload (pc := 1255) hx hb dL_law_1255 (lv_at hl 0 rfl) ?_
  refine lv_iconst (pc := 1257) (v := 1) hx hb dL_law_1257 (by decide) ?_
  refine lv_iadd (pc := 1258) hx hb dL_law_1258 ?_
  refine z_sld (pc := 1259) (j := i + 1) cx hX hsb (Nat.not_le.mpr hsb) hS (by simp only [nI, Int32.ofNat_add] <;> rfl) (by omega) hLL dL_law_1259 ?_
  refine z_callVw (pc := 1260) cx vm_X8_ends (c_X8_ends l E a r im rd wa kp so sz el pr ts nu bu ht th po ba en td ig ij (xs (i + 1)) hG.1) (z_rec cx.2 (hV.at 0 rfl) rfl) hV hS (fun q ⟨k, hk⟩ => by rw [hk]; exact hLF.2.2.2.2.1 k) m_ml_L_139 ⟨rfl, rfl⟩ ⟨Nat.le_of_ble_eq_true rfl, Nat.le_of_ble_eq_true rfl⟩ rfl hl.1 rfl (by simp [Value.category]) dL_law_1260 ⟨(by show cells + 0 ≤ 660476; omega), (by show slots + 0 ≤ 7114676; omega)⟩ (fun v H locs hq hS hk2 => ?_)
  obtain ⟨rfl, hV2⟩ := hq
  have hV : WW E (wM a (E.2.1 0) r im rd wa kp so sz el pr ts nu bu ht (bI ig) th po ba en td (bI ij)) gN H := hV2
  have hW := hW.clsK hk2.2 (fun k ⟨j, hj⟩ => hLF.1 j k hj.symm) (fun z e hz ⟨j, hj⟩ => (hSG z e hz).2.1 j hj)
  have hO := hO.kept hk2.2 (fun ⟨j, hj⟩ => hLF.2.2.1 j hj)
  refine (?_ : W p l e room_1 s m args below meth c H locs (cells + 0 + 0) (slots + 0 + 0) Q (F0 m 1263 ls [.int (endsP r (xs (i + 1))), .int (endsP r (xs (i + 1)))]))
  refine lv_icmp_eq (pc := 1263) (tgt := 1840) hx hb dL_law_1263 (by decide) (fun _ => ?_) (fun c => absurd rfl c)
  refine W.widen (k := cells + 200) (n := slots + 2000) (by omega) (by omega) ?_
  exact kk r im ig kp so sz el pr ts G H locs ls (lv_sub hl [0, 1, 2, 3, 4] rfl) (CLS.mk hW hG hSh hIm hrp hrt hra hxp hxt hxa hrd hdm hri hwr) ⟨_, _, _, _, _, _, _, _, _, _, _, hV⟩ hO hSG hS
set_option maxHeartbeats 4000000 in
set_option maxRecDepth 100000 in
theorem y_28 (l : Launch) (hst : l.stackTraces = false) {p : Program} {e : Env} {s : State} {m : MethodId} {args : Array Value} {below : List Frame} {meth : Method} {c : Code} {H : Heap} {locs : List Loc} {cells slots : Nat} {Q : State → Prop} {ls : Array Slot} {E : zE} {a b : Nat → Nat} {o sb L i : Nat} {xs : Nat → Int32} {r : Nat → Int32} {im : Nat → Int32} {ig : Bool} {kp : Nat → Int32} {so : Nat → Int32} {sz : Nat → Int32} {el : Nat → Int32} {pr : Nat → Int32} {ts : Nat → Int32} {G : zG} (cx : Cx E p s args m c RL code 8) (hX : va_X sb L xs s s.heap) (hsb : sb < s.heap.size) (hLL : L ≤ 3072) (hi : i + 6 ≤ L) (hLF : LF a b o s.heap.size) (hCE : CE E (FL s.heap.size) s s.heap) (hXE : XE E (FL s.heap.size) s s.heap) (hl : lv_has ls 8 [(4, .int (nI i)), (3, .ref o), (2, .ref (a 0)), (1, .ref (b 0)), (0, .ref sb)]) (hS : va_S (FL s.heap.size) s.heap H locs) (hc1 : cells + 200 ≤ 660476) (hc2 : slots + 2000 ≤ 7114676) (hC : CLS E b r im ig kp so sz el pr ts G H) (hR : REF E a r im ig kp so sz el pr ts H) (hO : OUTc E o H) (hSG : SEP a o s.heap.size G) (kk : ∀ (r : Nat → Int32) (im : Nat → Int32) (ig : Bool) (kp : Nat → Int32) (so : Nat → Int32) (sz : Nat → Int32) (el : Nat → Int32) (pr : Nat → Int32) (ts : Nat → Int32) (G : zG) (H1 : Heap) (locs1 : List Loc) (ls1 : Array Slot), lv_has ls1 8 [(4, .int (nI i)), (3, .ref o), (2, .ref (a 0)), (1, .ref (b 0)), (0, .ref sb)] → CLS E b r im ig kp so sz el pr ts G H1 → REF E a r im ig kp so sz el pr ts H1 → OUTc E o H1 → SEP a o s.heap.size G → va_S (FL s.heap.size) s.heap H1 locs1 → W p l e room_1 s m args below meth c H1 locs1 (cells + 200) (slots + 2000) Q (F0 m 1840 ls1 [])) : W p l e room_1 s m args below meth c H locs cells slots Q (F0 m 1268 ls []) := by
  refine hC.elim (fun qt qr tbu wst asw pN tN aN wx pp tp ap sg uh ud up ur us ux xN xT xA xh xd xl xr xo xw xpp xtp xap xsg yN yT yA yh yd yl yr yo yw ypp ytp yap ysg zat zpl zlt zjo zfo zsz zby znu hW hG hSh hIm hrp hrt hra hxp hxt hxa hrd hdm hri hwr => ?_)
  obtain ⟨rd, wa, nu, bu, ht, th, po, ba, en, td, ij, hV⟩ := hR
  have hx := cx.x
  have hb := cx.b
  refine lv_aload_n (pc := 1268) hx hb dL_law_1268 rfl (lv_at hl 3 rfl) ?_
  refine lv_aload_n (pc := 1269) hx hb dL_law_1269 rfl (lv_at hl 4 rfl) ?_
  refine lv_iload (pc := 1270) hx hb dL_law_1270 (lv_at hl 0 rfl) ?_
  refine lv_iconst (pc := 1272) (v := 1) hx hb dL_law_1272 (by decide) ?_
  refine lv_iadd (pc := 1273) hx hb dL_law_1273 ?_
  refine z_sld (pc := 1274) (j := i + 1) cx hX hsb (Nat.not_le.mpr hsb) hS (by simp only [nI, Int32.ofNat_add] <;> rfl) (by omega) hLL dL_law_1274 ?_
  refine lv_aload_n (pc := 1275) hx hb dL_law_1275 rfl (lv_at hl 4 rfl) ?_
  refine lv_iload (pc := 1276) hx hb dL_law_1276 (lv_at hl 0 rfl) ?_
  refine lv_iconst (pc := 1278) (v := 2) hx hb dL_law_1278 (by decide) ?_
  refine lv_iadd (pc := 1279) hx hb dL_law_1279 ?_
  refine z_sld (pc := 1280) (j := i + 2) cx hX hsb (Nat.not_le.mpr hsb) hS (by simp only [nI, Int32.ofNat_add] <;> rfl) (by omega) hLL dL_law_1280 ?_
  refine lv_aload_n (pc := 1281) hx hb dL_law_1281 rfl (lv_at hl 4 rfl) ?_
  refine lv_iload (pc := 1282) hx hb dL_law_1282 (lv_at hl 0 rfl) ?_
  refine lv_iconst (pc := 1284) (v := 3) hx hb dL_law_1284 (by decide) ?_
  refine lv_iadd (pc := 1285) hx hb dL_law_1285 ?_
  refine z_sld (pc := 1286) (j := i + 3) cx hX hsb (Nat.not_le.mpr hsb) hS (by simp only [nI, Int32.ofNat_add] <;> rfl) (by omega) hLL dL_law_1286 ?_
  refine z_callVw (pc := 1287) cx vm_X7_rattles (c_X7_rattles l E b (wT b E.2.1 xN xT xA xh xd xl xr xo xw xpp xtp xap xsg yN yT yA yh yd yl yr yo yw ypp ytp yap ysg zat zpl zlt zjo zfo zsz zby znu) ig qt qr tbu wst asw pN tN aN wx pp tp ap sg uh ud up ur us ux G (xs (i + 1)) (xs (i + 2)) (xs (i + 3)) r kp so sz el pr ts hG hSh) (z_rec cx.2 (hW.at 0 rfl) rfl) hW hS (fun q ⟨k, hk⟩ => by rw [hk]; exact hLF.2.2.2.1 k) m_ml_L_140 ⟨rfl, rfl⟩ ⟨Nat.le_of_ble_eq_true rfl, Nat.le_of_ble_eq_true rfl⟩ rfl hl.1 rfl (by simp [Value.category]) dL_law_1287 ⟨(by show cells ≤ 660476; omega), (by show slots ≤ 7114676; omega)⟩ (fun v H locs hq hS hk2 => ?_)
  obtain ⟨tb2, sg2, rfl, hW2⟩ := hq
  have hW : WW E (wK b E.2.1 (wT b E.2.1 xN xT xA xh xd xl xr xo xw xpp xtp xap xsg yN yT yA yh yd yl yr yo yw ypp ytp yap ysg zat zpl zlt zjo zfo zsz zby znu) ig qt qr tb2 wst asw pN tN aN (hdC (r 3)) (r 4) (r 5) (r 6) (r 7) wx pp tp ap sg2 uh ud up ur us ux) G H := hW2
  have hV := hV.refK hk2.2 (fun j ⟨k, hk⟩ => hLF.1 j k hk)
  have hO := hO.kept hk2.2 (fun ⟨k, hk⟩ => hLF.2.1 k hk)
  refine (?_ : W p l e room_1 s m args below meth c H locs (cells + 0) (slots + 0) Q (F0 m 1290 ls [.int (ratP r kp so sz el (xs (i + 1)) (xs (i + 2)) (xs (i + 3)))]))
  refine lv_aload_n (pc := 1290) hx hb dL_law_1290 rfl (lv_at hl 2 rfl) ?_
  refine lv_aload_n (pc := 1291) hx hb dL_law_1291 rfl (lv_at hl 4 rfl) ?_
  refine lv_iload (pc := 1292) hx hb dL_law_1292 (lv_at hl 0 rfl) ?_
  refine lv_iconst (pc := 1294) (v := 1) hx hb dL_law_1294 (by decide) ?_
  refine lv_iadd (pc := 1295) hx hb dL_law_1295 ?_
  refine z_sld (pc := 1296) (j := i + 1) cx hX hsb (Nat.not_le.mpr hsb) hS (by simp only [nI, Int32.ofNat_add] <;> rfl) (by omega) hLL dL_law_1296 ?_
  refine lv_aload_n (pc := 1297) hx hb dL_law_1297 rfl (lv_at hl 4 rfl) ?_
  refine lv_iload (pc := 1298) hx hb dL_law_1298 (lv_at hl 0 rfl) ?_
  refine lv_iconst (pc := 1300) (v := 2) hx hb dL_law_1300 (by decide) ?_
  refine lv_iadd (pc := 1301) hx hb dL_law_1301 ?_
  refine z_sld (pc := 1302) (j := i + 2) cx hX hsb (Nat.not_le.mpr hsb) hS (by simp only [nI, Int32.ofNat_add] <;> rfl) (by omega) hLL dL_law_1302 ?_
  refine lv_aload_n (pc := 1303) hx hb dL_law_1303 rfl (lv_at hl 4 rfl) ?_
  refine lv_iload (pc := 1304) hx hb dL_law_1304 (lv_at hl 0 rfl) ?_
  refine lv_iconst (pc := 1306) (v := 3) hx hb dL_law_1306 (by decide) ?_
  refine lv_iadd (pc := 1307) hx hb dL_law_1307 ?_
  refine z_sld (pc := 1308) (j := i + 3) cx hX hsb (Nat.not_le.mpr hsb) hS (by simp only [nI, Int32.ofNat_add] <;> rfl) (by omega) hLL dL_law_1308 ?_
  refine z_callVw (pc := 1309) cx vm_X8_rattles (c_X8_rattles l E a r im rd wa kp so sz el pr ts nu bu ht th po ba en td ig ij (xs (i + 1)) (xs (i + 2)) (xs (i + 3)) hG.1 hSh.1) (z_rec cx.2 (hV.at 0 rfl) rfl) hV hS (fun q ⟨k, hk⟩ => by rw [hk]; exact hLF.2.2.2.2.1 k) m_ml_L_143 ⟨rfl, rfl⟩ ⟨Nat.le_of_ble_eq_true rfl, Nat.le_of_ble_eq_true rfl⟩ rfl hl.1 rfl (by simp [Value.category]) dL_law_1309 ⟨(by show cells + 0 ≤ 660476; omega), (by show slots + 0 ≤ 7114676; omega)⟩ (fun v H locs hq hS hk2 => ?_)
  obtain ⟨ht2, rfl, hV2⟩ := hq
  have hV : WW E (wM a (E.2.1 0) r im rd wa kp so sz el pr ts nu bu ht2 (bI ig) th po ba en td (bI ij)) gN H := hV2
  have hW := hW.clsK hk2.2 (fun k ⟨j, hj⟩ => hLF.1 j k hj.symm) (fun z e hz ⟨j, hj⟩ => (hSG z e hz).2.1 j hj)
  have hO := hO.kept hk2.2 (fun ⟨j, hj⟩ => hLF.2.2.1 j hj)
  refine (?_ : W p l e room_1 s m args below meth c H locs (cells + 0 + 0) (slots + 0 + 0) Q (F0 m 1312 ls [.int (ratP r kp so sz el (xs (i + 1)) (xs (i + 2)) (xs (i + 3))), .int (ratP r kp so sz el (xs (i + 1)) (xs (i + 2)) (xs (i + 3)))]))
  refine lv_icmp_eq (pc := 1312) (tgt := 1840) hx hb dL_law_1312 (by decide) (fun _ => ?_) (fun c => absurd rfl c)
  refine W.widen (k := cells + 200) (n := slots + 2000) (by omega) (by omega) ?_
  exact kk r im ig kp so sz el pr ts G H locs ls (lv_sub hl [0, 1, 2, 3, 4] rfl) (CLS.mk hW hG hSh hIm hrp hrt hra hxp hxt hxa hrd hdm hri hwr) ⟨_, _, _, _, _, _, _, _, _, _, _, hV⟩ hO hSG hS
set_option maxHeartbeats 4000000 in
set_option maxRecDepth 100000 in
theorem y_29 (l : Launch) (hst : l.stackTraces = false) {p : Program} {e : Env} {s : State} {m : MethodId} {args : Array Value} {below : List Frame} {meth : Method} {c : Code} {H : Heap} {locs : List Loc} {cells slots : Nat} {Q : State → Prop} {ls : Array Slot} {E : zE} {a b : Nat → Nat} {o sb L i : Nat} {xs : Nat → Int32} {r : Nat → Int32} {im : Nat → Int32} {ig : Bool} {kp : Nat → Int32} {so : Nat → Int32} {sz : Nat → Int32} {el : Nat → Int32} {pr : Nat → Int32} {ts : Nat → Int32} {G : zG} (cx : Cx E p s args m c RL code 8) (hX : va_X sb L xs s s.heap) (hsb : sb < s.heap.size) (hLL : L ≤ 3072) (hi : i + 6 ≤ L) (hLF : LF a b o s.heap.size) (hCE : CE E (FL s.heap.size) s s.heap) (hXE : XE E (FL s.heap.size) s s.heap) (hl : lv_has ls 8 [(4, .int (nI i)), (3, .ref o), (2, .ref (a 0)), (1, .ref (b 0)), (0, .ref sb)]) (hS : va_S (FL s.heap.size) s.heap H locs) (hc1 : cells + 200 ≤ 660476) (hc2 : slots + 2000 ≤ 7114676) (hC : CLS E b r im ig kp so sz el pr ts G H) (hR : REF E a r im ig kp so sz el pr ts H) (hO : OUTc E o H) (hSG : SEP a o s.heap.size G) (kk : ∀ (r : Nat → Int32) (im : Nat → Int32) (ig : Bool) (kp : Nat → Int32) (so : Nat → Int32) (sz : Nat → Int32) (el : Nat → Int32) (pr : Nat → Int32) (ts : Nat → Int32) (G : zG) (H1 : Heap) (locs1 : List Loc) (ls1 : Array Slot), lv_has ls1 8 [(4, .int (nI i)), (3, .ref o), (2, .ref (a 0)), (1, .ref (b 0)), (0, .ref sb)] → CLS E b r im ig kp so sz el pr ts G H1 → REF E a r im ig kp so sz el pr ts H1 → OUTc E o H1 → SEP a o s.heap.size G → va_S (FL s.heap.size) s.heap H1 locs1 → W p l e room_1 s m args below meth c H1 locs1 (cells + 200) (slots + 2000) Q (F0 m 1840 ls1 [])) : W p l e room_1 s m args below meth c H locs cells slots Q (F0 m 1317 ls []) := by
  refine hC.elim (fun qt qr tbu wst asw pN tN aN wx pp tp ap sg uh ud up ur us ux xN xT xA xh xd xl xr xo xw xpp xtp xap xsg yN yT yA yh yd yl yr yo yw ypp ytp yap ysg zat zpl zlt zjo zfo zsz zby znu hW hG hSh hIm hrp hrt hra hxp hxt hxa hrd hdm hri hwr => ?_)
  obtain ⟨rd, wa, nu, bu, ht, th, po, ba, en, td, ij, hV⟩ := hR
  have hx := cx.x
  have hb := cx.b
  refine lv_aload_n (pc := 1317) hx hb dL_law_1317 rfl (lv_at hl 3 rfl) ?_
  refine lv_aload_n (pc := 1318) hx hb dL_law_1318 rfl (lv_at hl 4 rfl) ?_
  refine lv_iload (pc := 1319) hx hb dL_law_1319 (lv_at hl 0 rfl) ?_
  refine lv_iconst (pc := 1321) (v := 1) hx hb dL_law_1321 (by decide) ?_
  refine lv_iadd (pc := 1322) hx hb dL_law_1322 ?_
  refine z_sld (pc := 1323) (j := i + 1) cx hX hsb (Nat.not_le.mpr hsb) hS (by simp only [nI, Int32.ofNat_add] <;> rfl) (by omega) hLL dL_law_1323 ?_
  refine z_callVw (pc := 1324) cx vm_X7_harm (c_X7_harm l E b (wT b E.2.1 xN xT xA xh xd xl xr xo xw xpp xtp xap xsg yN yT yA yh yd yl yr yo yw ypp ytp yap ysg zat zpl zlt zjo zfo zsz zby znu) ig qt qr tbu wst asw pN tN aN wx pp tp ap sg uh ud up ur us ux G (xs (i + 1)) r hG) (z_rec cx.2 (hW.at 0 rfl) rfl) hW hS (fun q ⟨k, hk⟩ => by rw [hk]; exact hLF.2.2.2.1 k) m_ml_L_144 ⟨rfl, rfl⟩ ⟨Nat.le_of_ble_eq_true rfl, Nat.le_of_ble_eq_true rfl⟩ rfl hl.1 rfl (by simp [Value.category]) dL_law_1324 ⟨(by show cells ≤ 660476; omega), (by show slots ≤ 7114676; omega)⟩ (fun v H locs hq hS hk2 => ?_)
  obtain ⟨uh2, ud2, up2, ur2, us2, ux2, rfl, hW2⟩ := hq
  have hW : WW E (wK b E.2.1 (wT b E.2.1 xN xT xA xh xd xl xr xo xw xpp xtp xap xsg yN yT yA yh yd yl yr yo yw ypp ytp yap ysg zat zpl zlt zjo zfo zsz zby znu) ig qt qr tbu wst asw pN tN aN (hdC (r 3)) (r 4) (r 5) (r 6) (r 7) wx pp tp ap sg uh2 ud2 up2 ur2 us2 ux2) G H := hW2
  have hV := hV.refK hk2.2 (fun j ⟨k, hk⟩ => hLF.1 j k hk)
  have hO := hO.kept hk2.2 (fun ⟨k, hk⟩ => hLF.2.1 k hk)
  refine (?_ : W p l e room_1 s m args below meth c H locs (cells + 0) (slots + 0) Q (F0 m 1327 ls [.int (harmP r (xs (i + 1)))]))
  refine lv_aload_n (pc := 1327) hx hb dL_law_1327 rfl (lv_at hl 2 rfl) ?_
  refine lv_aload_n (pc := 1328) hx hb dL_law_1328 rfl (lv_at hl 4 rfl) ?_
  refine lv_iload (pc := 1329) hx hb dL_law_1329 (lv_at hl 0 rfl) ?_
  refine lv_iconst (pc := 1331) (v := 1) hx hb dL_law_1331 (by decide) ?_
  refine lv_iadd (pc := 1332) hx hb dL_law_1332 ?_
  refine z_sld (pc := 1333) (j := i + 1) cx hX hsb (Nat.not_le.mpr hsb) hS (by simp only [nI, Int32.ofNat_add] <;> rfl) (by omega) hLL dL_law_1333 ?_
  refine z_callV (pc := 1334) cx vm_X8_harm (c_X8_harm l E a r im rd wa kp so sz el pr ts nu bu ht th po ba en td ig ij (xs (i + 1)) hG.1) (z_rec cx.2 (hV.at 0 rfl) rfl) hV m_ml_L_147 ⟨rfl, rfl⟩ ⟨Nat.le_of_ble_eq_true rfl, Nat.le_of_ble_eq_true rfl⟩ rfl hl.1 rfl (by simp [Value.category]) dL_law_1334 ⟨(by show cells + 0 ≤ 660476; omega), (by show slots + 0 ≤ 7114676; omega)⟩ ?_
  refine (?_ : W p l e room_1 s m args below meth c H locs (cells + 0) (slots + 0) Q (F0 m 1337 ls [.int (harmP r (xs (i + 1))), .int (harmP r (xs (i + 1)))]))
  refine lv_icmp_eq (pc := 1337) (tgt := 1840) hx hb dL_law_1337 (by decide) (fun _ => ?_) (fun c => absurd rfl c)
  refine W.widen (k := cells + 200) (n := slots + 2000) (by omega) (by omega) ?_
  exact kk r im ig kp so sz el pr ts G H locs ls (lv_sub hl [0, 1, 2, 3, 4] rfl) (CLS.mk hW hG hSh hIm hrp hrt hra hxp hxt hxa hrd hdm hri hwr) ⟨_, _, _, _, _, _, _, _, _, _, _, hV⟩ hO hSG hS
set_option maxHeartbeats 4000000 in
set_option maxRecDepth 100000 in
theorem y_30 (l : Launch) (hst : l.stackTraces = false) {p : Program} {e : Env} {s : State} {m : MethodId} {args : Array Value} {below : List Frame} {meth : Method} {c : Code} {H : Heap} {locs : List Loc} {cells slots : Nat} {Q : State → Prop} {ls : Array Slot} {E : zE} {a b : Nat → Nat} {o sb L i : Nat} {xs : Nat → Int32} {r : Nat → Int32} {im : Nat → Int32} {ig : Bool} {kp : Nat → Int32} {so : Nat → Int32} {sz : Nat → Int32} {el : Nat → Int32} {pr : Nat → Int32} {ts : Nat → Int32} {G : zG} (cx : Cx E p s args m c RL code 8) (hX : va_X sb L xs s s.heap) (hsb : sb < s.heap.size) (hLL : L ≤ 3072) (hi : i + 6 ≤ L) (hLF : LF a b o s.heap.size) (hCE : CE E (FL s.heap.size) s s.heap) (hXE : XE E (FL s.heap.size) s s.heap) (hl : lv_has ls 8 [(4, .int (nI i)), (3, .ref o), (2, .ref (a 0)), (1, .ref (b 0)), (0, .ref sb)]) (hS : va_S (FL s.heap.size) s.heap H locs) (hc1 : cells + 200 ≤ 660476) (hc2 : slots + 2000 ≤ 7114676) (hC : CLS E b r im ig kp so sz el pr ts G H) (hR : REF E a r im ig kp so sz el pr ts H) (hO : OUTc E o H) (hSG : SEP a o s.heap.size G) (kk : ∀ (r : Nat → Int32) (im : Nat → Int32) (ig : Bool) (kp : Nat → Int32) (so : Nat → Int32) (sz : Nat → Int32) (el : Nat → Int32) (pr : Nat → Int32) (ts : Nat → Int32) (G : zG) (H1 : Heap) (locs1 : List Loc) (ls1 : Array Slot), lv_has ls1 8 [(4, .int (nI i)), (3, .ref o), (2, .ref (a 0)), (1, .ref (b 0)), (0, .ref sb)] → CLS E b r im ig kp so sz el pr ts G H1 → REF E a r im ig kp so sz el pr ts H1 → OUTc E o H1 → SEP a o s.heap.size G → va_S (FL s.heap.size) s.heap H1 locs1 → W p l e room_1 s m args below meth c H1 locs1 (cells + 200) (slots + 2000) Q (F0 m 1840 ls1 [])) : W p l e room_1 s m args below meth c H locs cells slots Q (F0 m 1342 ls []) := by
  refine hC.elim (fun qt qr tbu wst asw pN tN aN wx pp tp ap sg uh ud up ur us ux xN xT xA xh xd xl xr xo xw xpp xtp xap xsg yN yT yA yh yd yl yr yo yw ypp ytp yap ysg zat zpl zlt zjo zfo zsz zby znu hW hG hSh hIm hrp hrt hra hxp hxt hxa hrd hdm hri hwr => ?_)
  obtain ⟨rd, wa, nu, bu, ht, th, po, ba, en, td, ij, hV⟩ := hR
  have hx := cx.x
  have hb := cx.b
  refine lv_aload_n (pc := 1342) hx hb dL_law_1342 rfl (lv_at hl 3 rfl) ?_
  refine lv_aload_n (pc := 1343) hx hb dL_law_1343 rfl (lv_at hl 4 rfl) ?_
  refine lv_iload (pc := 1344) hx hb dL_law_1344 (lv_at hl 0 rfl) ?_
  refine lv_iconst (pc := 1346) (v := 1) hx hb dL_law_1346 (by decide) ?_
  refine lv_iadd (pc := 1347) hx hb dL_law_1347 ?_
  refine z_sld (pc := 1348) (j := i + 1) cx hX hsb (Nat.not_le.mpr hsb) hS (by simp only [nI, Int32.ofNat_add] <;> rfl) (by omega) hLL dL_law_1348 ?_
  refine lv_aload_n (pc := 1349) hx hb dL_law_1349 rfl (lv_at hl 4 rfl) ?_
  refine lv_iload (pc := 1350) hx hb dL_law_1350 (lv_at hl 0 rfl) ?_
  refine lv_iconst (pc := 1352) (v := 2) hx hb dL_law_1352 (by decide) ?_
  refine lv_iadd (pc := 1353) hx hb dL_law_1353 ?_
  refine z_sld (pc := 1354) (j := i + 2) cx hX hsb (Nat.not_le.mpr hsb) hS (by simp only [nI, Int32.ofNat_add] <;> rfl) (by omega) hLL dL_law_1354 ?_
  refine lv_aload_n (pc := 1355) hx hb dL_law_1355 rfl (lv_at hl 4 rfl) ?_
  refine lv_iload (pc := 1356) hx hb dL_law_1356 (lv_at hl 0 rfl) ?_
  refine lv_iconst (pc := 1358) (v := 3) hx hb dL_law_1358 (by decide) ?_
  refine lv_iadd (pc := 1359) hx hb dL_law_1359 ?_
  refine z_sld (pc := 1360) (j := i + 3) cx hX hsb (Nat.not_le.mpr hsb) hS (by simp only [nI, Int32.ofNat_add] <;> rfl) (by omega) hLL dL_law_1360 ?_
  refine lv_aload_n (pc := 1361) hx hb dL_law_1361 rfl (lv_at hl 4 rfl) ?_
  refine lv_iload (pc := 1362) hx hb dL_law_1362 (lv_at hl 0 rfl) ?_
  refine lv_iconst (pc := 1364) (v := 4) hx hb dL_law_1364 (by decide) ?_
  refine lv_iadd (pc := 1365) hx hb dL_law_1365 ?_
  refine z_sld (pc := 1366) (j := i + 4) cx hX hsb (Nat.not_le.mpr hsb) hS (by simp only [nI, Int32.ofNat_add] <;> rfl) (by omega) hLL dL_law_1366 ?_
  refine z_callVw (pc := 1367) cx vm_X7_hair (c_X7_hair l E b (wT b E.2.1 xN xT xA xh xd xl xr xo xw xpp xtp xap xsg yN yT yA yh yd yl yr yo yw ypp ytp yap ysg zat zpl zlt zjo zfo zsz zby znu) ig qt qr tbu wst asw pN tN aN wx pp tp ap sg uh ud up ur us ux G (xs (i + 1)) (xs (i + 2)) (xs (i + 3)) (xs (i + 4)) r hG) (z_rec cx.2 (hW.at 0 rfl) rfl) hW hS (fun q ⟨k, hk⟩ => by rw [hk]; exact hLF.2.2.2.1 k) m_ml_L_148 ⟨rfl, rfl⟩ ⟨Nat.le_of_ble_eq_true rfl, Nat.le_of_ble_eq_true rfl⟩ rfl hl.1 rfl (by simp [Value.category]) dL_law_1367 ⟨(by show cells ≤ 660476; omega), (by show slots ≤ 7114676; omega)⟩ (fun v H locs hq hS hk2 => ?_)
  obtain ⟨uh2, ud2, up2, ur2, us2, ux2, sg2, rfl, hW2⟩ := hq
  have hW : WW E (wK b E.2.1 (wT b E.2.1 xN xT xA xh xd xl xr xo xw xpp xtp xap xsg yN yT yA yh yd yl yr yo yw ypp ytp yap ysg zat zpl zlt zjo zfo zsz zby znu) ig qt qr tbu wst asw pN tN aN (hdC (r 3)) (r 4) (r 5) (r 6) (r 7) wx pp tp ap sg2 uh2 ud2 up2 ur2 us2 ux2) G H := hW2
  have hV := hV.refK hk2.2 (fun j ⟨k, hk⟩ => hLF.1 j k hk)
  have hO := hO.kept hk2.2 (fun ⟨k, hk⟩ => hLF.2.1 k hk)
  refine (?_ : W p l e room_1 s m args below meth c H locs (cells + 0) (slots + 0) Q (F0 m 1370 ls [.int (hairP r (xs (i + 1)) (xs (i + 2)) (xs (i + 3)) (xs (i + 4)))]))
  refine lv_aload_n (pc := 1370) hx hb dL_law_1370 rfl (lv_at hl 2 rfl) ?_
  refine lv_aload_n (pc := 1371) hx hb dL_law_1371 rfl (lv_at hl 4 rfl) ?_
  refine lv_iload (pc := 1372) hx hb dL_law_1372 (lv_at hl 0 rfl) ?_
  refine lv_iconst (pc := 1374) (v := 1) hx hb dL_law_1374 (by decide) ?_
  refine lv_iadd (pc := 1375) hx hb dL_law_1375 ?_
  refine z_sld (pc := 1376) (j := i + 1) cx hX hsb (Nat.not_le.mpr hsb) hS (by simp only [nI, Int32.ofNat_add] <;> rfl) (by omega) hLL dL_law_1376 ?_
  refine lv_aload_n (pc := 1377) hx hb dL_law_1377 rfl (lv_at hl 4 rfl) ?_
  refine lv_iload (pc := 1378) hx hb dL_law_1378 (lv_at hl 0 rfl) ?_
  refine lv_iconst (pc := 1380) (v := 2) hx hb dL_law_1380 (by decide) ?_
  refine lv_iadd (pc := 1381) hx hb dL_law_1381 ?_
  refine z_sld (pc := 1382) (j := i + 2) cx hX hsb (Nat.not_le.mpr hsb) hS (by simp only [nI, Int32.ofNat_add] <;> rfl) (by omega) hLL dL_law_1382 ?_
  refine lv_aload_n (pc := 1383) hx hb dL_law_1383 rfl (lv_at hl 4 rfl) ?_
  refine lv_iload (pc := 1384) hx hb dL_law_1384 (lv_at hl 0 rfl) ?_
  refine lv_iconst (pc := 1386) (v := 3) hx hb dL_law_1386 (by decide) ?_
  refine lv_iadd (pc := 1387) hx hb dL_law_1387 ?_
  refine z_sld (pc := 1388) (j := i + 3) cx hX hsb (Nat.not_le.mpr hsb) hS (by simp only [nI, Int32.ofNat_add] <;> rfl) (by omega) hLL dL_law_1388 ?_
  refine lv_aload_n (pc := 1389) hx hb dL_law_1389 rfl (lv_at hl 4 rfl) ?_
  refine lv_iload (pc := 1390) hx hb dL_law_1390 (lv_at hl 0 rfl) ?_
  refine lv_iconst (pc := 1392) (v := 4) hx hb dL_law_1392 (by decide) ?_
  refine lv_iadd (pc := 1393) hx hb dL_law_1393 ?_
  refine z_sld (pc := 1394) (j := i + 4) cx hX hsb (Nat.not_le.mpr hsb) hS (by simp only [nI, Int32.ofNat_add] <;> rfl) (by omega) hLL dL_law_1394 ?_
  refine z_callVw (pc := 1395) cx vm_X8_hair (c_X8_hair l E a r im rd wa kp so sz el pr ts nu bu ht th po ba en td ig ij (xs (i + 1)) (xs (i + 2)) (xs (i + 3)) (xs (i + 4)) hG.1) (z_rec cx.2 (hV.at 0 rfl) rfl) hV hS (fun q ⟨k, hk⟩ => by rw [hk]; exact hLF.2.2.2.2.1 k) m_ml_L_151 ⟨rfl, rfl⟩ ⟨Nat.le_of_ble_eq_true rfl, Nat.le_of_ble_eq_true rfl⟩ rfl hl.1 rfl (by simp [Value.category]) dL_law_1395 ⟨(by show cells + 0 ≤ 660476; omega), (by show slots + 0 ≤ 7114676; omega)⟩ (fun v H locs hq hS hk2 => ?_)
  obtain ⟨rfl, hV2⟩ := hq
  have hV : WW E (wM a (E.2.1 0) r im rd wa kp so sz el pr ts nu bu ht (bI ig) th po ba en td (bI ij)) gN H := hV2
  have hW := hW.clsK hk2.2 (fun k ⟨j, hj⟩ => hLF.1 j k hj.symm) (fun z e hz ⟨j, hj⟩ => (hSG z e hz).2.1 j hj)
  have hO := hO.kept hk2.2 (fun ⟨j, hj⟩ => hLF.2.2.1 j hj)
  refine (?_ : W p l e room_1 s m args below meth c H locs (cells + 0 + 0) (slots + 0 + 0) Q (F0 m 1398 ls [.int (hairP r (xs (i + 1)) (xs (i + 2)) (xs (i + 3)) (xs (i + 4))), .int (hairP r (xs (i + 1)) (xs (i + 2)) (xs (i + 3)) (xs (i + 4)))]))
  refine lv_icmp_eq (pc := 1398) (tgt := 1840) hx hb dL_law_1398 (by decide) (fun _ => ?_) (fun c => absurd rfl c)
  refine W.widen (k := cells + 200) (n := slots + 2000) (by omega) (by omega) ?_
  exact kk r im ig kp so sz el pr ts G H locs ls (lv_sub hl [0, 1, 2, 3, 4] rfl) (CLS.mk hW hG hSh hIm hrp hrt hra hxp hxt hxa hrd hdm hri hwr) ⟨_, _, _, _, _, _, _, _, _, _, _, hV⟩ hO hSG hS
set_option maxHeartbeats 4000000 in
set_option maxRecDepth 100000 in
theorem y_31 (l : Launch) (hst : l.stackTraces = false) {p : Program} {e : Env} {s : State} {m : MethodId} {args : Array Value} {below : List Frame} {meth : Method} {c : Code} {H : Heap} {locs : List Loc} {cells slots : Nat} {Q : State → Prop} {ls : Array Slot} {E : zE} {a b : Nat → Nat} {o sb L i : Nat} {xs : Nat → Int32} {r : Nat → Int32} {im : Nat → Int32} {ig : Bool} {kp : Nat → Int32} {so : Nat → Int32} {sz : Nat → Int32} {el : Nat → Int32} {pr : Nat → Int32} {ts : Nat → Int32} {G : zG} (cx : Cx E p s args m c RL code 8) (hX : va_X sb L xs s s.heap) (hsb : sb < s.heap.size) (hLL : L ≤ 3072) (hi : i + 6 ≤ L) (hLF : LF a b o s.heap.size) (hCE : CE E (FL s.heap.size) s s.heap) (hXE : XE E (FL s.heap.size) s s.heap) (hl : lv_has ls 8 [(4, .int (nI i)), (3, .ref o), (2, .ref (a 0)), (1, .ref (b 0)), (0, .ref sb)]) (hS : va_S (FL s.heap.size) s.heap H locs) (hc1 : cells + 200 ≤ 660476) (hc2 : slots + 2000 ≤ 7114676) (hC : CLS E b r im ig kp so sz el pr ts G H) (hR : REF E a r im ig kp so sz el pr ts H) (hO : OUTc E o H) (hSG : SEP a o s.heap.size G) (kk : ∀ (r : Nat → Int32) (im : Nat → Int32) (ig : Bool) (kp : Nat → Int32) (so : Nat → Int32) (sz : Nat → Int32) (el : Nat → Int32) (pr : Nat → Int32) (ts : Nat → Int32) (G : zG) (H1 : Heap) (locs1 : List Loc) (ls1 : Array Slot), lv_has ls1 8 [(4, .int (nI i)), (3, .ref o), (2, .ref (a 0)), (1, .ref (b 0)), (0, .ref sb)] → CLS E b r im ig kp so sz el pr ts G H1 → REF E a r im ig kp so sz el pr ts H1 → OUTc E o H1 → SEP a o s.heap.size G → va_S (FL s.heap.size) s.heap H1 locs1 → W p l e room_1 s m args below meth c H1 locs1 (cells + 200) (slots + 2000) Q (F0 m 1840 ls1 [])) : W p l e room_1 s m args below meth c H locs cells slots Q (F0 m 1403 ls []) := by
  refine hC.elim (fun qt qr tbu wst asw pN tN aN wx pp tp ap sg uh ud up ur us ux xN xT xA xh xd xl xr xo xw xpp xtp xap xsg yN yT yA yh yd yl yr yo yw ypp ytp yap ysg zat zpl zlt zjo zfo zsz zby znu hW hG hSh hIm hrp hrt hra hxp hxt hxa hrd hdm hri hwr => ?_)
  obtain ⟨rd, wa, nu, bu, ht, th, po, ba, en, td, ij, hV⟩ := hR
  have hx := cx.x
  have hb := cx.b
  refine lv_aload_n (pc := 1403) hx hb dL_law_1403 rfl (lv_at hl 3 rfl) ?_
  refine lv_aload_n (pc := 1404) hx hb dL_law_1404 rfl (lv_at hl 4 rfl) ?_
  refine lv_iload (pc := 1405) hx hb dL_law_1405 (lv_at hl 0 rfl) ?_
  refine lv_iconst (pc := 1407) (v := 1) hx hb dL_law_1407 (by decide) ?_
  refine lv_iadd (pc := 1408) hx hb dL_law_1408 ?_
  refine z_sld (pc := 1409) (j := i + 1) cx hX hsb (Nat.not_le.mpr hsb) hS (by simp only [nI, Int32.ofNat_add] <;> rfl) (by omega) hLL dL_law_1409 ?_
  refine lv_aload_n (pc := 1410) hx hb dL_law_1410 rfl (lv_at hl 4 rfl) ?_
  refine lv_iload (pc := 1411) hx hb dL_law_1411 (lv_at hl 0 rfl) ?_
  refine lv_iconst (pc := 1413) (v := 2) hx hb dL_law_1413 (by decide) ?_
  refine lv_iadd (pc := 1414) hx hb dL_law_1414 ?_
  refine z_sld (pc := 1415) (j := i + 2) cx hX hsb (Nat.not_le.mpr hsb) hS (by simp only [nI, Int32.ofNat_add] <;> rfl) (by omega) hLL dL_law_1415 ?_
  refine lv_aload_n (pc := 1416) hx hb dL_law_1416 rfl (lv_at hl 4 rfl) ?_
  refine lv_iload (pc := 1417) hx hb dL_law_1417 (lv_at hl 0 rfl) ?_
  refine lv_iconst (pc := 1419) (v := 3) hx hb dL_law_1419 (by decide) ?_
  refine lv_iadd (pc := 1420) hx hb dL_law_1420 ?_
  refine z_sld (pc := 1421) (j := i + 3) cx hX hsb (Nat.not_le.mpr hsb) hS (by simp only [nI, Int32.ofNat_add] <;> rfl) (by omega) hLL dL_law_1421 ?_
  refine z_callVw (pc := 1422) cx vm_X7_judge (c_X7_judge l E b (wT b E.2.1 xN xT xA xh xd xl xr xo xw xpp xtp xap xsg yN yT yA yh yd yl yr yo yw ypp ytp yap ysg zat zpl zlt zjo zfo zsz zby znu) ig qt qr tbu wst asw pN tN aN wx pp tp ap sg uh ud up ur us ux G (xs (i + 1)) (xs (i + 2)) (xs (i + 3)) r kp so sz el pr ts hG hSh) (z_rec cx.2 (hW.at 0 rfl) rfl) hW hS (fun q ⟨k, hk⟩ => by rw [hk]; exact hLF.2.2.2.1 k) m_ml_L_152 ⟨rfl, rfl⟩ ⟨Nat.le_of_ble_eq_true rfl, Nat.le_of_ble_eq_true rfl⟩ rfl hl.1 rfl (by simp [Value.category]) dL_law_1422 ⟨(by show cells ≤ 660476; omega), (by show slots ≤ 7114676; omega)⟩ (fun v H locs hq hS hk2 => ?_)
  obtain ⟨sg2, rfl, hW2⟩ := hq
  have hW : WW E (wK b E.2.1 (wT b E.2.1 xN xT xA xh xd xl xr xo xw xpp xtp xap xsg yN yT yA yh yd yl yr yo yw ypp ytp yap ysg zat zpl zlt zjo zfo zsz zby znu) ig qt qr tbu wst asw pN tN aN (hdC (r 3)) (r 4) (r 5) (r 6) (r 7) wx pp tp ap sg2 uh ud up ur us ux) G H := hW2
  have hV := hV.refK hk2.2 (fun j ⟨k, hk⟩ => hLF.1 j k hk)
  have hO := hO.kept hk2.2 (fun ⟨k, hk⟩ => hLF.2.1 k hk)
  refine (?_ : W p l e room_1 s m args below meth c H locs (cells + 0) (slots + 0) Q (F0 m 1425 ls [.int (judgeP r kp so sz el (xs (i + 1)) (xs (i + 2)) (xs (i + 3)))]))
  refine lv_aload_n (pc := 1425) hx hb dL_law_1425 rfl (lv_at hl 2 rfl) ?_
  refine lv_aload_n (pc := 1426) hx hb dL_law_1426 rfl (lv_at hl 4 rfl) ?_
  refine lv_iload (pc := 1427) hx hb dL_law_1427 (lv_at hl 0 rfl) ?_
  refine lv_iconst (pc := 1429) (v := 1) hx hb dL_law_1429 (by decide) ?_
  refine lv_iadd (pc := 1430) hx hb dL_law_1430 ?_
  refine z_sld (pc := 1431) (j := i + 1) cx hX hsb (Nat.not_le.mpr hsb) hS (by simp only [nI, Int32.ofNat_add] <;> rfl) (by omega) hLL dL_law_1431 ?_
  refine lv_aload_n (pc := 1432) hx hb dL_law_1432 rfl (lv_at hl 4 rfl) ?_
  refine lv_iload (pc := 1433) hx hb dL_law_1433 (lv_at hl 0 rfl) ?_
  refine lv_iconst (pc := 1435) (v := 2) hx hb dL_law_1435 (by decide) ?_
  refine lv_iadd (pc := 1436) hx hb dL_law_1436 ?_
  refine z_sld (pc := 1437) (j := i + 2) cx hX hsb (Nat.not_le.mpr hsb) hS (by simp only [nI, Int32.ofNat_add] <;> rfl) (by omega) hLL dL_law_1437 ?_
  refine lv_aload_n (pc := 1438) hx hb dL_law_1438 rfl (lv_at hl 4 rfl) ?_
  refine lv_iload (pc := 1439) hx hb dL_law_1439 (lv_at hl 0 rfl) ?_
  refine lv_iconst (pc := 1441) (v := 3) hx hb dL_law_1441 (by decide) ?_
  refine lv_iadd (pc := 1442) hx hb dL_law_1442 ?_
  refine z_sld (pc := 1443) (j := i + 3) cx hX hsb (Nat.not_le.mpr hsb) hS (by simp only [nI, Int32.ofNat_add] <;> rfl) (by omega) hLL dL_law_1443 ?_
  refine z_callV (pc := 1444) cx vm_X8_judge (c_X8_judge l E a r im rd wa kp so sz el pr ts nu bu ht th po ba en td ig ij (xs (i + 1)) (xs (i + 2)) (xs (i + 3)) hG.1 hSh.1) (z_rec cx.2 (hV.at 0 rfl) rfl) hV m_ml_L_155 ⟨rfl, rfl⟩ ⟨Nat.le_of_ble_eq_true rfl, Nat.le_of_ble_eq_true rfl⟩ rfl hl.1 rfl (by simp [Value.category]) dL_law_1444 ⟨(by show cells + 0 ≤ 660476; omega), (by show slots + 0 ≤ 7114676; omega)⟩ ?_
  refine (?_ : W p l e room_1 s m args below meth c H locs (cells + 0) (slots + 0) Q (F0 m 1447 ls [.int (judgeP r kp so sz el (xs (i + 1)) (xs (i + 2)) (xs (i + 3))), .int (judgeP r kp so sz el (xs (i + 1)) (xs (i + 2)) (xs (i + 3)))]))
  refine lv_icmp_eq (pc := 1447) (tgt := 1840) hx hb dL_law_1447 (by decide) (fun _ => ?_) (fun c => absurd rfl c)
  refine W.widen (k := cells + 200) (n := slots + 2000) (by omega) (by omega) ?_
  exact kk r im ig kp so sz el pr ts G H locs ls (lv_sub hl [0, 1, 2, 3, 4] rfl) (CLS.mk hW hG hSh hIm hrp hrt hra hxp hxt hxa hrd hdm hri hwr) ⟨_, _, _, _, _, _, _, _, _, _, _, hV⟩ hO hSG hS
set_option maxHeartbeats 4000000 in
set_option maxRecDepth 100000 in
theorem y_32 (l : Launch) (hst : l.stackTraces = false) {p : Program} {e : Env} {s : State} {m : MethodId} {args : Array Value} {below : List Frame} {meth : Method} {c : Code} {H : Heap} {locs : List Loc} {cells slots : Nat} {Q : State → Prop} {ls : Array Slot} {E : zE} {a b : Nat → Nat} {o sb L i : Nat} {xs : Nat → Int32} {r : Nat → Int32} {im : Nat → Int32} {ig : Bool} {kp : Nat → Int32} {so : Nat → Int32} {sz : Nat → Int32} {el : Nat → Int32} {pr : Nat → Int32} {ts : Nat → Int32} {G : zG} (cx : Cx E p s args m c RL code 8) (hX : va_X sb L xs s s.heap) (hsb : sb < s.heap.size) (hLL : L ≤ 3072) (hi : i + 6 ≤ L) (hLF : LF a b o s.heap.size) (hCE : CE E (FL s.heap.size) s s.heap) (hXE : XE E (FL s.heap.size) s s.heap) (hl : lv_has ls 8 [(4, .int (nI i)), (3, .ref o), (2, .ref (a 0)), (1, .ref (b 0)), (0, .ref sb)]) (hS : va_S (FL s.heap.size) s.heap H locs) (hc1 : cells + 200 ≤ 660476) (hc2 : slots + 2000 ≤ 7114676) (hC : CLS E b r im ig kp so sz el pr ts G H) (hR : REF E a r im ig kp so sz el pr ts H) (hO : OUTc E o H) (hSG : SEP a o s.heap.size G) (kk : ∀ (r : Nat → Int32) (im : Nat → Int32) (ig : Bool) (kp : Nat → Int32) (so : Nat → Int32) (sz : Nat → Int32) (el : Nat → Int32) (pr : Nat → Int32) (ts : Nat → Int32) (G : zG) (H1 : Heap) (locs1 : List Loc) (ls1 : Array Slot), lv_has ls1 8 [(4, .int (nI i)), (3, .ref o), (2, .ref (a 0)), (1, .ref (b 0)), (0, .ref sb)] → CLS E b r im ig kp so sz el pr ts G H1 → REF E a r im ig kp so sz el pr ts H1 → OUTc E o H1 → SEP a o s.heap.size G → va_S (FL s.heap.size) s.heap H1 locs1 → W p l e room_1 s m args below meth c H1 locs1 (cells + 200) (slots + 2000) Q (F0 m 1840 ls1 [])) : W p l e room_1 s m args below meth c H locs cells slots Q (F0 m 1452 ls []) := by
  refine hC.elim (fun qt qr tbu wst asw pN tN aN wx pp tp ap sg uh ud up ur us ux xN xT xA xh xd xl xr xo xw xpp xtp xap xsg yN yT yA yh yd yl yr yo yw ypp ytp yap ysg zat zpl zlt zjo zfo zsz zby znu hW hG hSh hIm hrp hrt hra hxp hxt hxa hrd hdm hri hwr => ?_)
  obtain ⟨rd, wa, nu, bu, ht, th, po, ba, en, td, ij, hV⟩ := hR
  have hx := cx.x
  have hb := cx.b
  refine lv_aload_n (pc := 1452) hx hb dL_law_1452 rfl (lv_at hl 3 rfl) ?_
  refine z_callVw (pc := 1453) cx vm_X7_image (c_X7_image l E b ig qt qr tbu wst asw pN tN aN (hdC (r 3)) (r 4) (r 5) (r 6) (r 7) wx pp tp ap sg uh ud up ur us ux xN xT xA xh xd xl xr xo xw xpp xtp xap xsg yN yT yA yh yd yl yr yo yw ypp ytp yap ysg zat zpl zlt zjo zfo zsz zby znu G  hrp hrt hra) (z_rec cx.2 (hW.at 0 rfl) rfl) hW hS (fun q ⟨k, hk⟩ => by rw [hk]; exact hLF.2.2.2.1 k) m_ml_L_156 ⟨rfl, rfl⟩ ⟨Nat.le_of_ble_eq_true rfl, Nat.le_of_ble_eq_true rfl⟩ rfl hl.1 rfl (by simp [Value.category]) dL_law_1453 ⟨(by show cells ≤ 660476; omega), (by show slots ≤ 7114676; omega)⟩ (fun v H locs hq hS hk2 => ?_)
  obtain ⟨rfl, hW2⟩ := hq
  have hW : WW E (wK b E.2.1 (wT b E.2.1 pN tN aN (hdC (r 3)) (r 4) (r 5) (r 6) (r 7) wx pp tp ap xsg yN yT yA yh yd yl yr yo yw ypp ytp yap ysg zat zpl zlt zjo zfo zsz zby znu) true qt qr tbu wst asw pN tN aN (hdC (r 3)) (r 4) (r 5) (r 6) (r 7) wx pp tp ap sg uh ud up ur us ux) G H := hW2
  have hV := hV.refK hk2.2 (fun j ⟨k, hk⟩ => hLF.1 j k hk)
  have hO := hO.kept hk2.2 (fun ⟨k, hk⟩ => hLF.2.1 k hk)
  refine (?_ : W p l e room_1 s m args below meth c H locs (cells + 0) (slots + 0) Q (F0 m 1456 ls [.int aN]))
  refine lv_aload_n (pc := 1456) hx hb dL_law_1456 rfl (lv_at hl 2 rfl) ?_
  refine z_callVw (pc := 1457) cx vm_X8_image (c_X8_image l E a r im rd wa kp so sz el pr ts nu bu ht th po ba en td ig ij  ) (z_rec cx.2 (hV.at 0 rfl) rfl) hV hS (fun q ⟨k, hk⟩ => by rw [hk]; exact hLF.2.2.2.2.1 k) m_ml_L_159 ⟨rfl, rfl⟩ ⟨Nat.le_of_ble_eq_true rfl, Nat.le_of_ble_eq_true rfl⟩ rfl hl.1 rfl (by simp [Value.category]) dL_law_1457 ⟨(by show cells + 0 ≤ 660476; omega), (by show slots + 0 ≤ 7114676; omega)⟩ (fun v H locs hq hS hk2 => ?_)
  obtain ⟨rfl, hV2⟩ := hq
  have hV : WW E (wM a (E.2.1 0) r (cpA r im 535) rd wa kp so sz el pr ts nu bu ht (bI true) th po ba en td (bI ij)) gN H := hV2
  have hW := hW.clsK hk2.2 (fun k ⟨j, hj⟩ => hLF.1 j k hj.symm) (fun z e hz ⟨j, hj⟩ => (hSG z e hz).2.1 j hj)
  have hO := hO.kept hk2.2 (fun ⟨j, hj⟩ => hLF.2.2.1 j hj)
  have hV : WW E (wM a (E.2.1 0) r r rd wa kp so sz el pr ts nu bu ht (bI true) th po ba en td (bI ij)) gN H := hV.congr (i := 2) rfl (g := r) (fun j hj => by unfold cpA; exact if_pos hj)
  refine (?_ : W p l e room_1 s m args below meth c H locs (cells + 0 + 0) (slots + 0 + 0) Q (F0 m 1460 ls [.int (r 2), .int aN]))
  refine lv_icmp_eq (pc := 1460) (tgt := 1840) hx hb dL_law_1460 (by decide) (fun _ => ?_) (fun c => absurd (CG_a2 hG) c)
  refine W.widen (k := cells + 200) (n := slots + 2000) (by omega) (by omega) ?_
  exact kk r r true kp so sz el pr ts G H locs ls (lv_sub hl [0, 1, 2, 3, 4] rfl) (CLS.mk hW hG hSh (fun _ => ⟨hG, ⟨rfl, rfl, rfl, rfl, rfl⟩, hwr⟩) hrp hrt hra hrp hrt hra hrd hdm hri hwr) ⟨_, _, _, _, _, _, _, _, _, _, _, hV⟩ hO hSG hS
set_option maxHeartbeats 4000000 in
set_option maxRecDepth 100000 in
theorem y_33 (l : Launch) (hst : l.stackTraces = false) {p : Program} {e : Env} {s : State} {m : MethodId} {args : Array Value} {below : List Frame} {meth : Method} {c : Code} {H : Heap} {locs : List Loc} {cells slots : Nat} {Q : State → Prop} {ls : Array Slot} {E : zE} {a b : Nat → Nat} {o sb L i : Nat} {xs : Nat → Int32} {r : Nat → Int32} {im : Nat → Int32} {ig : Bool} {kp : Nat → Int32} {so : Nat → Int32} {sz : Nat → Int32} {el : Nat → Int32} {pr : Nat → Int32} {ts : Nat → Int32} {G : zG} (cx : Cx E p s args m c RL code 8) (hX : va_X sb L xs s s.heap) (hsb : sb < s.heap.size) (hLL : L ≤ 3072) (hi : i + 6 ≤ L) (hLF : LF a b o s.heap.size) (hCE : CE E (FL s.heap.size) s s.heap) (hXE : XE E (FL s.heap.size) s s.heap) (hl : lv_has ls 8 [(4, .int (nI i)), (3, .ref o), (2, .ref (a 0)), (1, .ref (b 0)), (0, .ref sb)]) (hS : va_S (FL s.heap.size) s.heap H locs) (hc1 : cells + 200 ≤ 660476) (hc2 : slots + 2000 ≤ 7114676) (hC : CLS E b r im ig kp so sz el pr ts G H) (hR : REF E a r im ig kp so sz el pr ts H) (hO : OUTc E o H) (hSG : SEP a o s.heap.size G) (kk : ∀ (r : Nat → Int32) (im : Nat → Int32) (ig : Bool) (kp : Nat → Int32) (so : Nat → Int32) (sz : Nat → Int32) (el : Nat → Int32) (pr : Nat → Int32) (ts : Nat → Int32) (G : zG) (H1 : Heap) (locs1 : List Loc) (ls1 : Array Slot), lv_has ls1 8 [(4, .int (nI i)), (3, .ref o), (2, .ref (a 0)), (1, .ref (b 0)), (0, .ref sb)] → CLS E b r im ig kp so sz el pr ts G H1 → REF E a r im ig kp so sz el pr ts H1 → OUTc E o H1 → SEP a o s.heap.size G → va_S (FL s.heap.size) s.heap H1 locs1 → W p l e room_1 s m args below meth c H1 locs1 (cells + 200) (slots + 2000) Q (F0 m 1840 ls1 [])) : W p l e room_1 s m args below meth c H locs cells slots Q (F0 m 1465 ls []) := by
  refine hC.elim (fun qt qr tbu wst asw pN tN aN wx pp tp ap sg uh ud up ur us ux xN xT xA xh xd xl xr xo xw xpp xtp xap xsg yN yT yA yh yd yl yr yo yw ypp ytp yap ysg zat zpl zlt zjo zfo zsz zby znu hW hG hSh hIm hrp hrt hra hxp hxt hxa hrd hdm hri hwr => ?_)
  obtain ⟨rd, wa, nu, bu, ht, th, po, ba, en, td, ij, hV⟩ := hR
  have hx := cx.x
  have hb := cx.b
  cases ig with
  | false =>
    refine lv_aload_n (pc := 1465) hx hb dL_law_1465 rfl (lv_at hl 3 rfl) ?_
    refine z_callVw (pc := 1466) cx vm_X7_restore (c_X7_restore0 l E b qt qr tbu wst asw pN tN aN (hdC (r 3)) (r 4) (r 5) (r 6) (r 7) wx pp tp ap sg uh ud up ur us ux xN xT xA xh xd xl xr xo xw xpp xtp xap xsg yN yT yA yh yd yl yr yo yw ypp ytp yap ysg zat zpl zlt zjo zfo zsz zby znu G  ) (z_rec cx.2 (hW.at 0 rfl) rfl) hW hS (fun q ⟨k, hk⟩ => by rw [hk]; exact hLF.2.2.2.1 k) m_ml_L_160 ⟨rfl, rfl⟩ ⟨Nat.le_of_ble_eq_true rfl, Nat.le_of_ble_eq_true rfl⟩ rfl hl.1 rfl (by simp [Value.category]) dL_law_1466 ⟨(by show cells ≤ 660476; omega), (by show slots ≤ 7114676; omega)⟩ (fun v H locs hq hS hk2 => ?_)
    obtain ⟨rfl, hW2⟩ := hq
    have hW : WW E (wK b E.2.1 (wT b E.2.1 xN xT xA xh xd xl xr xo xw xpp xtp xap xsg yN yT yA yh yd yl yr yo yw ypp ytp yap ysg zat zpl zlt zjo zfo zsz zby znu) false qt qr tbu wst asw pN tN aN (hdC (r 3)) (r 4) (r 5) (r 6) (r 7) wx pp tp ap sg uh ud up ur us ux) G H := hW2
    have hV := hV.refK hk2.2 (fun j ⟨k, hk⟩ => hLF.1 j k hk)
    have hO := hO.kept hk2.2 (fun ⟨k, hk⟩ => hLF.2.1 k hk)
    refine (?_ : W p l e room_1 s m args below meth c H locs (cells + 0) (slots + 0) Q (F0 m 1469 ls [.int (-3)]))
    refine lv_aload_n (pc := 1469) hx hb dL_law_1469 rfl (lv_at hl 2 rfl) ?_
    refine z_callVw (pc := 1470) cx vm_X8_restore (c_X8_restore l E a r im rd wa kp so sz el pr ts nu bu ht th po ba en td false ij  ) (z_rec cx.2 (hV.at 0 rfl) rfl) hV hS (fun q ⟨k, hk⟩ => by rw [hk]; exact hLF.2.2.2.2.1 k) m_ml_L_163 ⟨rfl, rfl⟩ ⟨Nat.le_of_ble_eq_true rfl, Nat.le_of_ble_eq_true rfl⟩ rfl hl.1 rfl (by simp [Value.category]) dL_law_1470 ⟨(by show cells + 0 ≤ 660476; omega), (by show slots + 0 ≤ 7114676; omega)⟩ (fun v H locs hq hS hk2 => ?_)
    obtain ⟨rfl, hV2⟩ := hq
    have hV : WW E (wM a (E.2.1 0) (restS r im false) im rd wa kp so sz el pr ts nu bu ht (bI false) th po ba en td (bI ij)) gN H := hV2
    have hW := hW.clsK hk2.2 (fun k ⟨j, hj⟩ => hLF.1 j k hj.symm) (fun z e hz ⟨j, hj⟩ => (hSG z e hz).2.1 j hj)
    have hO := hO.kept hk2.2 (fun ⟨j, hj⟩ => hLF.2.2.1 j hj)
    rw [show restS r im false = r from rfl] at hV
    refine (?_ : W p l e room_1 s m args below meth c H locs (cells + 0 + 0) (slots + 0 + 0) Q (F0 m 1473 ls [.int (restR r im false), .int (-3)]))
    refine lv_icmp_eq (pc := 1473) (tgt := 1840) hx hb dL_law_1473 (by decide) (fun _ => ?_) (fun c => absurd rfl c)
    refine W.widen (k := cells + 200) (n := slots + 2000) (by omega) (by omega) ?_
    exact kk r im false kp so sz el pr ts G H locs ls (lv_sub hl [0, 1, 2, 3, 4] rfl) (CLS.mk hW hG hSh hIm hrp hrt hra hxp hxt hxa hrd hdm hri hwr) ⟨_, _, _, _, _, _, _, _, _, _, _, hV⟩ hO hSG hS
  | true =>
    obtain ⟨hGi, ⟨e1, e2, e3, e4, e5⟩, hwi⟩ := hIm rfl
    subst e1; subst e2; subst e3; subst e4; subst e5
    refine lv_aload_n (pc := 1465) hx hb dL_law_1465 rfl (lv_at hl 3 rfl) ?_
    refine z_callVw (pc := 1466) cx vm_X7_restore (c_X7_restore1 l E b qt qr tbu wst asw pN tN aN (hdC (r 3)) (r 4) (r 5) (r 6) (r 7) wx pp tp ap sg uh ud up ur us ux xN xT xA (hdC (im 3)) (im 4) (im 5) (im 6) (im 7) xw xpp xtp xap xsg yN yT yA yh yd yl yr yo yw ypp ytp yap ysg zat zpl zlt zjo zfo zsz zby znu G  hxp hxt hxa) (z_rec cx.2 (hW.at 0 rfl) rfl) hW hS (fun q ⟨k, hk⟩ => by rw [hk]; exact hLF.2.2.2.1 k) m_ml_L_160 ⟨rfl, rfl⟩ ⟨Nat.le_of_ble_eq_true rfl, Nat.le_of_ble_eq_true rfl⟩ rfl hl.1 rfl (by simp [Value.category]) dL_law_1466 ⟨(by show cells ≤ 660476; omega), (by show slots ≤ 7114676; omega)⟩ (fun v H locs hq hS hk2 => ?_)
    obtain ⟨rfl, hW2⟩ := hq
    have hW : WW E (wK b E.2.1 (wT b E.2.1 xN xT xA (hdC (im 3)) (im 4) (im 5) (im 6) (im 7) xw xpp xtp xap xsg yN yT yA yh yd yl yr yo yw ypp ytp yap ysg zat zpl zlt zjo zfo zsz zby znu) true qt qr tbu wst asw xN xT xA (hdC (im 3)) (im 4) (im 5) (im 6) (im 7) xw xpp xtp xap sg uh ud up ur us ux) G H := hW2
    have hV := hV.refK hk2.2 (fun j ⟨k, hk⟩ => hLF.1 j k hk)
    have hO := hO.kept hk2.2 (fun ⟨k, hk⟩ => hLF.2.1 k hk)
    refine (?_ : W p l e room_1 s m args below meth c H locs (cells + 0) (slots + 0) Q (F0 m 1469 ls [.int xA]))
    refine lv_aload_n (pc := 1469) hx hb dL_law_1469 rfl (lv_at hl 2 rfl) ?_
    refine z_callVw (pc := 1470) cx vm_X8_restore (c_X8_restore l E a r im rd wa kp so sz el pr ts nu bu ht th po ba en td true ij  ) (z_rec cx.2 (hV.at 0 rfl) rfl) hV hS (fun q ⟨k, hk⟩ => by rw [hk]; exact hLF.2.2.2.2.1 k) m_ml_L_163 ⟨rfl, rfl⟩ ⟨Nat.le_of_ble_eq_true rfl, Nat.le_of_ble_eq_true rfl⟩ rfl hl.1 rfl (by simp [Value.category]) dL_law_1470 ⟨(by show cells + 0 ≤ 660476; omega), (by show slots + 0 ≤ 7114676; omega)⟩ (fun v H locs hq hS hk2 => ?_)
    obtain ⟨rfl, hV2⟩ := hq
    have hV : WW E (wM a (E.2.1 0) (restS r im true) im rd wa kp so sz el pr ts nu bu ht (bI true) th po ba en td (bI ij)) gN H := hV2
    have hW := hW.clsK hk2.2 (fun k ⟨j, hj⟩ => hLF.1 j k hj.symm) (fun z e hz ⟨j, hj⟩ => (hSG z e hz).2.1 j hj)
    have hO := hO.kept hk2.2 (fun ⟨j, hj⟩ => hLF.2.2.1 j hj)
    have hV : WW E (wM a (E.2.1 0) im im rd wa kp so sz el pr ts nu bu ht (bI true) th po ba en td (bI ij)) gN H := hV.congr (i := 1) rfl (g := im) (fun j hj => by show cpA im r 535 j = im j; unfold cpA; exact if_pos hj)
    refine (?_ : W p l e room_1 s m args below meth c H locs (cells + 0 + 0) (slots + 0 + 0) Q (F0 m 1473 ls [.int (restR r im true), .int xA]))
    refine lv_icmp_eq (pc := 1473) (tgt := 1840) hx hb dL_law_1473 (by decide) (fun _ => ?_) (fun c => absurd (CG_a2 hGi) c)
    refine W.widen (k := cells + 200) (n := slots + 2000) (by omega) (by omega) ?_
    exact kk im im true kp so sz el pr ts G H locs ls (lv_sub hl [0, 1, 2, 3, 4] rfl) (CLS.mk hW hGi hSh (fun _ => ⟨hGi, ⟨rfl, rfl, rfl, rfl, rfl⟩, hwi⟩) hxp hxt hxa hxp hxt hxa hrd hdm hri hwi) ⟨_, _, _, _, _, _, _, _, _, _, _, hV⟩ hO hSG hS
