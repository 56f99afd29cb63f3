/-! THE LAW'S INVARIANT: what class and reference know of one and the same instrument -/
def AkW (G : zG) (r : Nat → Int32) (ap : Nat → Option Nat) (w : Nat) : Prop := ∃ (i q t : Nat) (f s h b h2 d p u o : Int32), i < nA r ∧ ap i = some q ∧ G q = some (ceA f s h b t) ∧ G t = some (ceS h2 d p u o w)
def WxR (G : zG) (r : Nat → Int32) (ap qr : Nat → Option Nat) : Prop := ∀ (k q : Nat) (o : Int32) (w : Nat), qr k = some q → G q = some (ceW o w) → ¬ AkW G r ap w
def QrD (G : zG) (qr : Nat → Option Nat) : Prop := ∀ k q, qr k = some q → ∃ e, G q = some e
def PIC (d : Nat → ClassId) (G : zG) (qr : Nat → Option Nat) (im : Nat → Int32) (ig : Bool) (xN xT xA xh xd xl xr xo : Int32) (xw : Nat → Int32) (xpp xtp xap : Nat → Option Nat) : Prop :=
  ig = true → CG d G im xN xT xA xw xpp xtp xap ∧ (xh = hdC (im 3) ∧ xd = im 4 ∧ xl = im 5 ∧ xr = im 6 ∧ xo = im 7) ∧ WxR G im xap qr
def CLS (E : zE) (b : Nat → Nat) (r : Nat → Int32) (im : Nat → Int32) (ig : Bool) (kp : Nat → Int32) (so : Nat → Int32) (sz : Nat → Int32) (el : Nat → Int32) (pr : Nat → Int32) (ts : Nat → Int32) (G : zG) (H : Heap) : Prop :=
  ∃ (qt : Nat → Option Nat) (qr : Nat → Option Nat) (tbu : Nat → Int32) (wst : Nat → Int32) (asw : Nat → Int32) (pN : Int32) (tN : Int32) (aN : Int32) (wx : Nat → Int32) (pp : Nat → Option Nat) (tp : Nat → Option Nat) (ap : Nat → Option Nat) (sg : Nat → Int32) (uh : Int32) (ud : Int32) (up : Int32) (ur : Int32) (us : Int32) (ux : Nat → Int32) (xN : Int32) (xT : Int32) (xA : Int32) (xh : Int32) (xd : Int32) (xl : Int32) (xr : Int32) (xo : Int32) (xw : Nat → Int32) (xpp : Nat → Option Nat) (xtp : Nat → Option Nat) (xap : Nat → Option Nat) (xsg : Nat → Int32) (yN : Int32) (yT : Int32) (yA : Int32) (yh : Int32) (yd : Int32) (yl : Int32) (yr : Int32) (yo : Int32) (yw : Nat → Int32) (ypp : Nat → Option Nat) (ytp : Nat → Option Nat) (yap : Nat → Option Nat) (ysg : Nat → Int32) (zat : Int32) (zpl : Int32) (zlt : Int32) (zjo : Bool) (zfo : Int32) (zsz : Int32) (zby : Nat → Int32) (znu : Nat → Int32), WW E (wK b E.2.1 (wT b E.2.1 xN xT xA xh xd xl xr xo xw xpp xtp xap xsg yN yT yA yh yd yl yr yo yw ypp ytp yap ysg zat zpl zlt zjo zfo zsz zby znu) ig qt qr tbu wst asw pN tN aN (hdC (r 3)) (r 4) (r 5) (r 6) (r 7) wx pp tp ap sg uh ud up ur us ux) G H ∧ CG E.2.1 G r pN tN aN wx pp tp ap ∧ ShG E.2.1 G qt qr kp so sz el pr ts ∧ PIC E.2.1 G qr im ig xN xT xA xh xd xl xr xo xw xpp xtp xap ∧ RfG G 2 10 pp ∧ RfG G 6 7 tp ∧ RfG G 0 24 ap ∧ RfG G 2 10 xpp ∧ RfG G 6 7 xtp ∧ RfG G 0 24 xap ∧ RwD G qr ∧ QrD G qr ∧ RwI G qr ∧ WxR G r ap qr
theorem CLS.mk {E : zE} {b : Nat → Nat} {r : Nat → Int32} {im : Nat → Int32} {ig : Bool} {kp : Nat → Int32} {so : Nat → Int32} {sz : Nat → Int32} {el : Nat → Int32} {pr : Nat → Int32} {ts : Nat → Int32} {G : zG} {H : Heap} {qt : Nat → Option Nat} {qr : Nat → Option Nat} {tbu : Nat → Int32} {wst : Nat → Int32} {asw : Nat → Int32} {pN : Int32} {tN : Int32} {aN : Int32} {wx : Nat → Int32} {pp : Nat → Option Nat} {tp : Nat → Option Nat} {ap : Nat → Option Nat} {sg : Nat → Int32} {uh : Int32} {ud : Int32} {up : Int32} {ur : Int32} {us : Int32} {ux : Nat → Int32} {xN : Int32} {xT : Int32} {xA : Int32} {xh : Int32} {xd : Int32} {xl : Int32} {xr : Int32} {xo : Int32} {xw : Nat → Int32} {xpp : Nat → Option Nat} {xtp : Nat → Option Nat} {xap : Nat → Option Nat} {xsg : Nat → Int32} {yN : Int32} {yT : Int32} {yA : Int32} {yh : Int32} {yd : Int32} {yl : Int32} {yr : Int32} {yo : Int32} {yw : Nat → Int32} {ypp : Nat → Option Nat} {ytp : Nat → Option Nat} {yap : Nat → Option Nat} {ysg : Nat → Int32} {zat : Int32} {zpl : Int32} {zlt : Int32} {zjo : Bool} {zfo : Int32} {zsz : Int32} {zby : Nat → Int32} {znu : Nat → Int32} (hW : WW E (wK b E.2.1 (wT b E.2.1 xN xT xA xh xd xl xr xo xw xpp xtp xap xsg yN yT yA yh yd yl yr yo yw ypp ytp yap ysg zat zpl zlt zjo zfo zsz zby znu) ig qt qr tbu wst asw pN tN aN (hdC (r 3)) (r 4) (r 5) (r 6) (r 7) wx pp tp ap sg uh ud up ur us ux) G H) (hG : CG E.2.1 G r pN tN aN wx pp tp ap) (hSh : ShG E.2.1 G qt qr kp so sz el pr ts) (hIm : PIC E.2.1 G qr im ig xN xT xA xh xd xl xr xo xw xpp xtp xap) (hrp : RfG G 2 10 pp) (hrt : RfG G 6 7 tp) (hra : RfG G 0 24 ap) (hxp : RfG G 2 10 xpp) (hxt : RfG G 6 7 xtp) (hxa : RfG G 0 24 xap) (hrd : RwD G qr) (hdm : QrD G qr) (hri : RwI G qr) (hwr : WxR G r ap qr) : CLS E b r im ig kp so sz el pr ts G H := ⟨qt, qr, tbu, wst, asw, pN, tN, aN, wx, pp, tp, ap, sg, uh, ud, up, ur, us, ux, xN, xT, xA, xh, xd, xl, xr, xo, xw, xpp, xtp, xap, xsg, yN, yT, yA, yh, yd, yl, yr, yo, yw, ypp, ytp, yap, ysg, zat, zpl, zlt, zjo, zfo, zsz, zby, znu, hW, hG, hSh, hIm, hrp, hrt, hra, hxp, hxt, hxa, hrd, hdm, hri, hwr⟩
theorem CLS.elim {E : zE} {b : Nat → Nat} {r : Nat → Int32} {im : Nat → Int32} {ig : Bool} {kp : Nat → Int32} {so : Nat → Int32} {sz : Nat → Int32} {el : Nat → Int32} {pr : Nat → Int32} {ts : Nat → Int32} {G : zG} {H : Heap} {P : Prop} (h : CLS E b r im ig kp so sz el pr ts G H) (k : ∀ (qt : Nat → Option Nat) (qr : Nat → Option Nat) (tbu : Nat → Int32) (wst : Nat → Int32) (asw : Nat → Int32) (pN : Int32) (tN : Int32) (aN : Int32) (wx : Nat → Int32) (pp : Nat → Option Nat) (tp : Nat → Option Nat) (ap : Nat → Option Nat) (sg : Nat → Int32) (uh : Int32) (ud : Int32) (up : Int32) (ur : Int32) (us : Int32) (ux : Nat → Int32) (xN : Int32) (xT : Int32) (xA : Int32) (xh : Int32) (xd : Int32) (xl : Int32) (xr : Int32) (xo : Int32) (xw : Nat → Int32) (xpp : Nat → Option Nat) (xtp : Nat → Option Nat) (xap : Nat → Option Nat) (xsg : Nat → Int32) (yN : Int32) (yT : Int32) (yA : Int32) (yh : Int32) (yd : Int32) (yl : Int32) (yr : Int32) (yo : Int32) (yw : Nat → Int32) (ypp : Nat → Option Nat) (ytp : Nat → Option Nat) (yap : Nat → Option Nat) (ysg : Nat → Int32) (zat : Int32) (zpl : Int32) (zlt : Int32) (zjo : Bool) (zfo : Int32) (zsz : Int32) (zby : Nat → Int32) (znu : Nat → Int32), WW E (wK b E.2.1 (wT b E.2.1 xN xT xA xh xd xl xr xo xw xpp xtp xap xsg yN yT yA yh yd yl yr yo yw ypp ytp yap ysg zat zpl zlt zjo zfo zsz zby znu) ig qt qr tbu wst asw pN tN aN (hdC (r 3)) (r 4) (r 5) (r 6) (r 7) wx pp tp ap sg uh ud up ur us ux) G H → CG E.2.1 G r pN tN aN wx pp tp ap → ShG E.2.1 G qt qr kp so sz el pr ts → PIC E.2.1 G qr im ig xN xT xA xh xd xl xr xo xw xpp xtp xap → RfG G 2 10 pp → RfG G 6 7 tp → RfG G 0 24 ap → RfG G 2 10 xpp → RfG G 6 7 xtp → RfG G 0 24 xap → RwD G qr → QrD G qr → RwI G qr → WxR G r ap qr → P) : P := by
  exact match h with
  | ⟨qt, qr, tbu, wst, asw, pN, tN, aN, wx, pp, tp, ap, sg, uh, ud, up, ur, us, ux, xN, xT, xA, xh, xd, xl, xr, xo, xw, xpp, xtp, xap, xsg, yN, yT, yA, yh, yd, yl, yr, yo, yw, ypp, ytp, yap, ysg, zat, zpl, zlt, zjo, zfo, zsz, zby, znu, hW, hG, hSh, hIm, hrp, hrt, hra, hxp, hxt, hxa, hrd, hdm, hri, hwr⟩ => k qt qr tbu wst asw pN tN aN wx pp tp ap sg uh ud up ur us ux xN xT xA xh xd xl xr xo xw xpp xtp xap xsg yN yT yA yh yd yl yr yo yw ypp ytp yap ysg zat zpl zlt zjo zfo zsz zby znu hW hG hSh hIm hrp hrt hra hxp hxt hxa hrd hdm hri hwr
def REF (E : zE) (a : Nat → Nat) (r : Nat → Int32) (im : Nat → Int32) (ig : Bool) (kp : Nat → Int32) (so : Nat → Int32) (sz : Nat → Int32) (el : Nat → Int32) (pr : Nat → Int32) (ts : Nat → Int32) (H : Heap) : Prop := ∃ (rd : Nat → Int32) (wa : Nat → Int32) (nu : Nat → Int32) (bu : Nat → Int32) (ht : Nat → Int32) (th : Int32) (po : Int32) (ba : Int32) (en : Int32) (td : Int32) (ij : Bool), WW E (wM a (E.2.1 0) r im rd wa kp so sz el pr ts nu bu ht (bI ig) th po ba en td (bI ij)) gN H
def OUTc (E : zE) (o : Nat) (H : Heap) : Prop := ∃ f : Nat → Int64, va_at E.1 vwCl (o, .inl (E.2.1 5, 1, .inr (.inl f))) H
def SEP (a : Nat → Nat) (o N : Nat) (G : zG) : Prop := ∀ z e, G z = some e → z ≠ o ∧ (∀ j, z ≠ a j) ∧ N ≤ z
/-- where class, reference and the row for an answer lie -/
def LF (a b : Nat → Nat) (o N : Nat) : Prop := (∀ j k, a j ≠ b k) ∧ (∀ k, o ≠ b k) ∧ (∀ j, o ≠ a j) ∧ (∀ k, N ≤ b k) ∧ (∀ j, N ≤ a j) ∧ N ≤ o ∧ ∀ k, ∃ j, j < 14 ∧ a k = a j
def FL (N : Nat) : Nat → Prop := fun q => N ≤ q
theorem CG_nA {d : Nat → ClassId} {G G2 : zG} {r r2 : Nat → Int32} {pN tN aN pN2 tN2 : Int32} {wx wx2 : Nat → Int32} {pp tp ap pp2 tp2 ap2 : Nat → Option Nat} (h : CG d G r pN tN aN wx pp tp ap) (h2 : CG d G2 r2 pN2 tN2 aN wx2 pp2 tp2 ap2) : nA r2 = nA r := by
  have e1 := h.2.2.2.1
  have e2 := h2.2.2.2.1
  have b1 := (Inv.n2 h.1.1).2
  have b2 := (Inv.n2 h2.1.1).2
  exact (nI_eq (by omega) (by omega)).mp (e2.symm.trans e1)
theorem WxR.le {G : zG} {r r2 : Nat → Int32} {ap qr : Nat → Option Nat} (h : WxR G r ap qr) (hn : nA r2 ≤ nA r) : WxR G r2 ap qr := fun k q o w h1 h2 ⟨i, q2, t, f, s, hh, b, g2, d, p, u, o2, c1, c2⟩ => h k q o w h1 h2 ⟨i, q2, t, f, s, hh, b, g2, d, p, u, o2, Nat.lt_of_lt_of_le c1 hn, c2⟩
theorem WxR.sub {G : zG} {r : Nat → Int32} {ap qr qr2 : Nat → Option Nat} (h : WxR G r ap qr) (hs : ∀ k q, qr2 k = some q → qr k = some q) : WxR G r ap qr2 := fun k q o w h1 h2 => h k q o w (hs k q h1) h2
theorem ceA_t {f s h b f2 s2 h2 b2 : Int32} {t t2 : Nat} (h : some (ceA f s h b t) = some (ceA f2 s2 h2 b2 t2)) : t = t2 := by cases h; rfl
theorem ceS_w {f s h b o f2 s2 h2 b2 o2 : Int32} {t t2 : Nat} (h : some (ceS f s h b o t) = some (ceS f2 s2 h2 b2 o2 t2)) : t = t2 := by cases h; rfl
/-- the wax of an ask that is kept: in the map before, and there in the map behind -/
theorem AkW.old {d : Nat → ClassId} {G G2 : zG} {r : Nat → Int32} {pN tN aN : Int32} {wx : Nat → Int32} {pp tp ap ap2 : Nat → Option Nat} {w : Nat} (hg : CG d G r pN tN aN wx pp tp ap) (hL : GLe G G2) (hap : ∀ i, i < nA r → ap2 i = ap i) (h : AkW G2 r ap2 w) : AkW G r ap w ∧ ∃ e, G w = some e := by
  obtain ⟨i, q, t, f, s, hh, b, h2, d2, p, u, o, c1, c2, c3, c4⟩ := h
  obtain ⟨q1, t1, w1, x1, a1, a2, a3, a4, -⟩ := hg.2.2.2.2.2.2.1 i c1
  rw [hap i c1, a1] at c2
  cases c2
  have e1 := hL _ _ a2
  rw [c3] at e1
  obtain rfl := ceA_t e1
  have e2 := hL _ _ a3
  rw [c4] at e2
  obtain rfl := ceS_w e2
  exact ⟨⟨i, _, _, _, _, _, _, _, _, _, _, _, c1, a1, a2, a3⟩, _, a4⟩
theorem WxR.mono {d : Nat → ClassId} {G G2 : zG} {r : Nat → Int32} {pN tN aN : Int32} {wx : Nat → Int32} {pp tp ap qr : Nat → Option Nat} (h : WxR G r ap qr) (hg : CG d G r pN tN aN wx pp tp ap) (hL : GLe G G2) (hq : QrD G qr) : WxR G2 r ap qr := fun k q o w h1 h2 h3 => by
  obtain ⟨e, he⟩ := hq k q h1
  have h4 := hL _ _ he
  rw [h2] at h4
  cases h4
  exact h k q o w h1 he (h3.old hg hL (fun _ _ => rfl)).1
theorem WxR.row {d : Nat → ClassId} {G G2 : zG} {r : Nat → Int32} {pN tN aN : Int32} {wx : Nat → Int32} {pp tp ap qr qr2 : Nat → Option Nat} (h : WxR G r ap qr) (hg : CG d G r pN tN aN wx pp tp ap) (hL : GLe G G2) (hn : RowNw G G2 qr qr2) : WxR G2 r ap qr2 := fun k q o w h1 h2 h3 => by
  obtain ⟨h4, e, h5⟩ := h3.old hg hL (fun _ _ => rfl)
  rcases hn k q o w h1 h2 with ⟨g1, g2⟩ | g
  · exact h k q o w g1 g2 h4
  · exact g w e h5 rfl
theorem WxR.ask {d : Nat → ClassId} {G G2 : zG} {r r2 : Nat → Int32} {pN tN aN : Int32} {wx : Nat → Int32} {pp tp ap qr : Nat → Option Nat} {q9 t9 w9 : Nat} {f s hh bb h2 d2 p2 u2 o2 : Int32} (h : WxR G r ap qr) (hg : CG d G r pN tN aN wx pp tp ap) (hL : GLe G G2) (hq : QrD G qr) (hi : RwI G qr) (hn : nA r2 = nA r + 1) (hgq : G2 q9 = some (ceA f s hh bb t9)) (hgt : G2 t9 = some (ceS h2 d2 p2 u2 o2 w9)) (hfw : ∀ z e, G z = some e → z ≠ w9) : WxR G2 r2 (va_up ap (nA r) (some q9)) qr := fun k q o w h1 h2 h3 => by
  obtain ⟨e, he⟩ := hq k q h1
  have h4 := hL _ _ he
  rw [h2] at h4
  cases h4
  obtain ⟨i, q2, t, a1, a2, a3, a4, a5, a6, a7, a8, a9, c1, c2, c3, c4⟩ := h3
  by_cases c : i = nA r
  · subst c
    rw [up_self] at c2
    cases c2
    rw [hgq] at c3
    obtain rfl := ceA_t c3
    rw [hgt] at c4
    obtain rfl := ceS_w c4
    obtain ⟨e, h5⟩ := hi k q o _ h1 he
    exact hfw _ e h5 rfl
  · rw [up_ne c] at c2
    exact h k q o w h1 he (AkW.old (ap2 := ap) hg hL (fun _ _ => rfl) ⟨i, q2, t, a1, a2, a3, a4, a5, a6, a7, a8, a9, by omega, c2, c3, c4⟩).1
theorem QrD.mono {G G2 : zG} {qr : Nat → Option Nat} (h : QrD G qr) (hL : GLe G G2) : QrD G2 qr := fun k q hk => by obtain ⟨e, he⟩ := h k q hk; exact ⟨e, hL _ _ he⟩
theorem RwI.mono {G G2 : zG} {qr : Nat → Option Nat} (h : RwI G qr) (hq : QrD G qr) (hL : GLe G G2) : RwI G2 qr := fun k q o w h1 h2 => by
  obtain ⟨e, he⟩ := hq k q h1
  have h4 := hL _ _ he
  rw [h2] at h4
  cases h4
  obtain ⟨e2, h5⟩ := h k q o w h1 he
  exact ⟨e2, hL _ _ h5⟩
theorem RwD.mono {G G2 : zG} {qr : Nat → Option Nat} (h : RwD G qr) (hq : QrD G qr) (hL : GLe G G2) : RwD G2 qr := RwE_old hq hL h
theorem PIC.mono {d : Nat → ClassId} {G G2 : zG} {qr : Nat → Option Nat} {im : Nat → Int32} {ig : Bool} {xN xT xA xh xd xl xr xo : Int32} {xw : Nat → Int32} {xpp xtp xap : Nat → Option Nat} (h : PIC d G qr im ig xN xT xA xh xd xl xr xo xw xpp xtp xap) (hL : GLe G G2) (hq : QrD G qr) : PIC d G2 qr im ig xN xT xA xh xd xl xr xo xw xpp xtp xap := fun hi => by
  obtain ⟨h1, h2, h3⟩ := h hi
  exact ⟨h1.mono hL, h2, h3.mono h1 hL hq⟩
theorem PIC.row {d : Nat → ClassId} {G G2 : zG} {qr qr2 : Nat → Option Nat} {im : Nat → Int32} {ig : Bool} {xN xT xA xh xd xl xr xo : Int32} {xw : Nat → Int32} {xpp xtp xap : Nat → Option Nat} (h : PIC d G qr im ig xN xT xA xh xd xl xr xo xw xpp xtp xap) (hL : GLe G G2) (hn : RowNw G G2 qr qr2) : PIC d G2 qr2 im ig xN xT xA xh xd xl xr xo xw xpp xtp xap := fun hi => by
  obtain ⟨h1, h2, h3⟩ := h hi
  exact ⟨h1.mono hL, h2, h3.row h1 hL hn⟩
theorem PIC.sub {d : Nat → ClassId} {G : zG} {qr qr2 : Nat → Option Nat} {im : Nat → Int32} {ig : Bool} {xN xT xA xh xd xl xr xo : Int32} {xw : Nat → Int32} {xpp xtp xap : Nat → Option Nat} (h : PIC d G qr im ig xN xT xA xh xd xl xr xo xw xpp xtp xap) (hs : ∀ k q, qr2 k = some q → qr k = some q) : PIC d G qr2 im ig xN xT xA xh xd xl xr xo xw xpp xtp xap := fun hi => by
  obtain ⟨h1, h2, h3⟩ := h hi
  exact ⟨h1, h2, h3.sub hs⟩
/-! values put into a row -/
theorem Put_o {d : Nat → ClassId} {G G2 : zG} {qr : Nat → Option Nat} (h : PutG d G G2 qr) : (∀ z o, G z = some (.inr o) ↔ G2 z = some (.inr o)) ∧ (∀ z e, G2 z = some e → ∃ e0, G z = some e0) ∧ (∀ z e, G z = some e → ∃ e0, G2 z = some e0) := by
  rcases h with rfl | ⟨k, p, o, w, z, x, y, h1, h2, h3, rfl⟩
  · exact ⟨fun z o => Iff.rfl, fun z e h => ⟨e, h⟩, fun z e h => ⟨e, h⟩⟩
  · refine ⟨fun v u => ?_, fun v e hv => ?_, fun v e hv => ?_⟩
    · by_cases c : v = w
      · subst c
        rw [h3, up_s]
        exact ⟨fun g => (by cases g), fun g => (by cases g)⟩
      · rw [up_n c]
    · by_cases c : v = w
      · subst c; exact ⟨_, h3⟩
      · rw [up_n c] at hv; exact ⟨e, hv⟩
    · by_cases c : v = w
      · subst c; exact ⟨_, up_s⟩
      · rw [up_n c]; exact ⟨e, hv⟩
theorem Put_i {d : Nat → ClassId} {G G2 : zG} {qr : Nat → Option Nat} (h : PutG d G G2 qr) {w : Nat} {e : va_E} (hn : ∀ k p o, qr k = some p → G p = some (ceW o w) → False) (hw : G w = some e) : G2 w = some e := by
  rcases h with rfl | ⟨k, p, o, v, z, x, y, h1, h2, h3, rfl⟩
  · exact hw
  · by_cases c : w = v
    · subst c; exact (hn k p o h1 h2).elim
    · rw [up_n c]; exact hw
theorem Put_AkW {d : Nat → ClassId} {G G2 : zG} {qr ap : Nat → Option Nat} {r : Nat → Int32} {w : Nat} (h : PutG d G G2 qr) (hk : AkW G2 r ap w) : AkW G r ap w := by
  obtain ⟨i, q2, t, a1, a2, a3, a4, a5, a6, a7, a8, a9, c1, c2, c3, c4⟩ := hk
  exact ⟨i, q2, t, a1, a2, a3, a4, a5, a6, a7, a8, a9, c1, c2, ((Put_o h).1 _ _).mpr c3, ((Put_o h).1 _ _).mpr c4⟩
theorem WxR.put {d : Nat → ClassId} {G G2 : zG} {qr ap : Nat → Option Nat} {r : Nat → Int32} (h : WxR G r ap qr) (hp : PutG d G G2 qr) : WxR G2 r ap qr := fun k q o w h1 h2 h3 => h k q o w h1 (((Put_o hp).1 _ _).mpr h2) (Put_AkW hp h3)
theorem CG_put {d : Nat → ClassId} {G G2 : zG} {r : Nat → Int32} {pN tN aN : Int32} {wx : Nat → Int32} {pp tp ap qr : Nat → Option Nat} (hg : CG d G r pN tN aN wx pp tp ap) (hp : PutG d G G2 qr) (hw : WxR G r ap qr) : CG d G2 r pN tN aN wx pp tp ap := by
  obtain ⟨h1, h2, h3, h4, h5, h6, h7, h8⟩ := hg
  refine ⟨h1, h2, h3, h4, fun n hn => ?_, fun n hn => ?_, fun i hi => ?_, h8⟩
  · obtain ⟨q, g1, g2⟩ := h5 n hn
    exact ⟨q, g1, ((Put_o hp).1 _ _).mp g2⟩
  · obtain ⟨q, g1, g2⟩ := h6 n hn
    exact ⟨q, g1, ((Put_o hp).1 _ _).mp g2⟩
  · obtain ⟨q, t, w, x, g1, g2, g3, g4, g5⟩ := h7 i hi
    exact ⟨q, t, w, x, g1, ((Put_o hp).1 _ _).mp g2, ((Put_o hp).1 _ _).mp g3, Put_i hp (fun k p o k1 k2 => hw k p o w k1 k2 ⟨i, q, t, _, _, _, _, _, _, _, _, _, hi, g1, g2, g3⟩) g4, g5⟩
theorem RfG.put {d : Nat → ClassId} {G G2 : zG} {qr : Nat → Option Nat} {ci n : Nat} {f : Nat → Option Nat} (h : RfG G ci n f) (hp : PutG d G G2 qr) : RfG G2 ci n f := fun i hi v hv => by
  obtain ⟨vs, h1⟩ := h i hi v hv
  exact ⟨vs, ((Put_o hp).1 _ _).mp h1⟩
theorem QrD.put {d : Nat → ClassId} {G G2 : zG} {qr : Nat → Option Nat} (h : QrD G qr) (hp : PutG d G G2 qr) : QrD G2 qr := fun k q hk => by obtain ⟨e, he⟩ := h k q hk; exact (Put_o hp).2.2 _ _ he
theorem RwI.put {d : Nat → ClassId} {G G2 : zG} {qr : Nat → Option Nat} (h : RwI G qr) (hp : PutG d G G2 qr) : RwI G2 qr := fun k q o w h1 h2 => by
  obtain ⟨e, he⟩ := h k q o w h1 (((Put_o hp).1 _ _).mpr h2)
  exact (Put_o hp).2.2 _ _ he
theorem RwD.put {d : Nat → ClassId} {G G2 : zG} {qr : Nat → Option Nat} (h : RwD G qr) (hp : PutG d G G2 qr) : RwD G2 qr := fun d e p q o u w h1 h2 h3 h4 => h d e p q o u w h1 h2 (((Put_o hp).1 _ _).mpr h3) (((Put_o hp).1 _ _).mpr h4)
theorem PIC.put {d : Nat → ClassId} {G G2 : zG} {qr : Nat → Option Nat} {im : Nat → Int32} {ig : Bool} {xN xT xA xh xd xl xr xo : Int32} {xw : Nat → Int32} {xpp xtp xap : Nat → Option Nat} (h : PIC d G qr im ig xN xT xA xh xd xl xr xo xw xpp xtp xap) (hp : PutG d G G2 qr) : PIC d G2 qr im ig xN xT xA xh xd xl xr xo xw xpp xtp xap := fun hi => by
  obtain ⟨h1, h2, h3⟩ := h hi
  exact ⟨CG_put h1 hp h3, h2, h3.put hp⟩
theorem SEP.put {d : Nat → ClassId} {G G2 : zG} {qr : Nat → Option Nat} {a : Nat → Nat} {o N : Nat} (h : SEP a o N G) (hp : PutG d G G2 qr) : SEP a o N G2 := fun z e hz => by obtain ⟨e0, h0⟩ := (Put_o hp).2.1 z e hz; exact h z e0 h0
theorem SEP.fr {G G2 : zG} {a : Nat → Nat} {o N N0 : Nat} (h : SEP a o N0 G) (hf : FrG G G2 N) (hN : N0 ≤ N) (ho : o < N) (ha : ∀ j, a j < N) : SEP a o N0 G2 := fun z e hz => by
  rcases hf z e hz with ⟨e0, h0⟩ | h0
  · exact h z e0 h0
  · exact ⟨by omega, fun j => by have := ha j; omega, by omega⟩
theorem CG_nA1 {d : Nat → ClassId} {G G2 : zG} {r r2 : Nat → Int32} {pN tN aN pN2 tN2 : Int32} {wx wx2 : Nat → Int32} {pp tp ap pp2 tp2 ap2 : Nat → Option Nat} (h : CG d G r pN tN aN wx pp tp ap) (h2 : CG d G2 r2 pN2 tN2 (nI (nA r + 1)) wx2 pp2 tp2 ap2) : nA r2 = nA r + 1 := by
  have e2 := h2.2.2.2.1
  have b1 := (Inv.n2 h.1.1).2
  have b2 := (Inv.n2 h2.1.1).2
  exact (nI_eq (by omega) (by omega)).mp e2.symm
theorem CG_a2 {d : Nat → ClassId} {G : zG} {r : Nat → Int32} {pN tN aN : Int32} {wx : Nat → Int32} {pp tp ap : Nat → Option Nat} (h : CG d G r pN tN aN wx pp tp ap) : aN = r 2 := h.2.2.2.1.trans (Inv.n2 h.1.1).1.symm
/-! the rows of shelves beyond the eighth are nobody's -/
def cut8 (f : Nat → Option Nat) : Nat → Option Nat := fun k => if k < 8 then f k else none
theorem cut8_s {f : Nat → Option Nat} : ∀ k q, cut8 f k = some q → f k = some q ∧ k < 8 := fun k q h => by
  unfold cut8 at h
  by_cases c : k < 8
  · rw [if_pos c] at h; exact ⟨h, c⟩
  · rw [if_neg c] at h; cases h
theorem cut8_e {f : Nat → Option Nat} {k : Nat} (h : k < 8) : cut8 f k = f k := if_pos h
theorem ShG.cut {d : Nat → ClassId} {G : zG} {qt qr : Nat → Option Nat} {kp so sz el pr ts : Nat → Int32} (h : ShG d G qt qr kp so sz el pr ts) : ShG d G qt (cut8 qr) kp so sz el pr ts := ⟨h.1, fun n hn => by rw [cut8_e hn]; exact h.2 n hn⟩
theorem ShG_dom {d : Nat → ClassId} {G : zG} {qt qr : Nat → Option Nat} {kp so sz el pr ts : Nat → Int32} (h : ShG d G qt qr kp so sz el pr ts) {k q : Nat} (hk : k < 8) (hq : qr k = some q) : ∃ o w e, G q = some (ceW o w) ∧ G w = some e := by
  rcases h.2 k hk with ⟨-, -, g⟩ | ⟨-, g, -⟩ | ⟨-, -, p, w, x, g1, g2, g3, -⟩
  · rw [hq] at g; cases g
  · rw [hq] at g; cases g
  · rw [hq] at g1; cases g1; exact ⟨_, w, _, g2, g3⟩
theorem QrD.cut {d : Nat → ClassId} {G : zG} {qt qr : Nat → Option Nat} {kp so sz el pr ts : Nat → Int32} (h : ShG d G qt qr kp so sz el pr ts) : QrD G (cut8 qr) := fun k q hq => by
  obtain ⟨h1, h2⟩ := cut8_s k q hq
  obtain ⟨o, w, e, g1, g2⟩ := ShG_dom h h2 h1
  exact ⟨_, g1⟩
theorem RwI.cut {d : Nat → ClassId} {G : zG} {qt qr : Nat → Option Nat} {kp so sz el pr ts : Nat → Int32} (h : ShG d G qt qr kp so sz el pr ts) : RwI G (cut8 qr) := fun k q o w hq hw => by
  obtain ⟨h1, h2⟩ := cut8_s k q hq
  obtain ⟨o2, w2, e, g1, g2⟩ := ShG_dom h h2 h1
  obtain ⟨rfl, rfl⟩ := ceW_inj (hw.symm.trans g1)
  exact ⟨_, g2⟩
theorem RwD.sub {G : zG} {qr qr2 : Nat → Option Nat} (h : RwD G qr) (hs : ∀ k q, qr2 k = some q → qr k = some q) : RwD G qr2 := fun d e p q o u w h1 h2 => h d e p q o u w (hs d p h1) (hs e q h2)
theorem QrD.sub {G : zG} {qr qr2 : Nat → Option Nat} (h : QrD G qr) (hs : ∀ k q, qr2 k = some q → qr k = some q) : QrD G qr2 := fun k q h1 => h k q (hs k q h1)
theorem RwI.sub {G : zG} {qr qr2 : Nat → Option Nat} (h : RwI G qr) (hs : ∀ k q, qr2 k = some q → qr k = some q) : RwI G qr2 := fun k q o w h1 => h k q o w (hs k q h1)
/-! what a call of one side leaves of the other -/
theorem WW.keptD {E : zE} {ws : va_W} {G : zG} {H H1 : Heap} (h : WW E ws G H) (h1 : ∀ (i : Nat) (x : Nat × va_E), ws[i]? = some x → H1[x.1]? = H[x.1]?) (h2 : ∀ z e, G z = some e → H1[z]? = H[z]?) : WW E ws G H1 :=
  ⟨fun i x hx => (h.1 i x hx).kept (h1 i x hx), h.2.1, fun q e hq => (h.2.2.1 q e hq).kept (h2 q e hq), h.2.2.2⟩
theorem wM_ad (a : Nat → Nat) (d : ClassId) (sv im rd wa kp so sz el pr ts nu bu ht : Nat → Int32) (ig th po ba en td ij : Int32) : ∀ (i : Nat) (x : Nat × va_E), (wM a d sv im rd wa kp so sz el pr ts nu bu ht ig th po ba en td ij)[i]? = some x → ∃ j, j < 14 ∧ x.1 = a j := by
  intro i x hx
  rcases i with _ | _ | _ | _ | _ | _ | _ | _ | _ | _ | _ | _ | _ | _ | i
  · exact ⟨0, by decide, by cases hx; rfl⟩
  · exact ⟨1, by decide, by cases hx; rfl⟩
  · exact ⟨2, by decide, by cases hx; rfl⟩
  · exact ⟨3, by decide, by cases hx; rfl⟩
  · exact ⟨4, by decide, by cases hx; rfl⟩
  · exact ⟨5, by decide, by cases hx; rfl⟩
  · exact ⟨6, by decide, by cases hx; rfl⟩
  · exact ⟨7, by decide, by cases hx; rfl⟩
  · exact ⟨8, by decide, by cases hx; rfl⟩
  · exact ⟨9, by decide, by cases hx; rfl⟩
  · exact ⟨10, by decide, by cases hx; rfl⟩
  · exact ⟨11, by decide, by cases hx; rfl⟩
  · exact ⟨12, by decide, by cases hx; rfl⟩
  · exact ⟨13, by decide, by cases hx; rfl⟩
  · simp [wM] at hx
theorem wK_ad (b : Nat → Nat) (d : Nat → ClassId) (xN : Int32) (xT : Int32) (xA : Int32) (xh : Int32) (xd : Int32) (xl : Int32) (xr : Int32) (xo : Int32) (xw : Nat → Int32) (xpp : Nat → Option Nat) (xtp : Nat → Option Nat) (xap : Nat → Option Nat) (xsg : Nat → Int32) (yN : Int32) (yT : Int32) (yA : Int32) (yh : Int32) (yd : Int32) (yl : Int32) (yr : Int32) (yo : Int32) (yw : Nat → Int32) (ypp : Nat → Option Nat) (ytp : Nat → Option Nat) (yap : Nat → Option Nat) (ysg : Nat → Int32) (zat : Int32) (zpl : Int32) (zlt : Int32) (zjo : Bool) (zfo : Int32) (zsz : Int32) (zby : Nat → Int32) (znu : Nat → Int32) (pd : Bool) (qt : Nat → Option Nat) (qr : Nat → Option Nat) (tbu : Nat → Int32) (wst : Nat → Int32) (asw : Nat → Int32) (pN : Int32) (tN : Int32) (aN : Int32) (hd : Int32) (dr : Int32) (pl : Int32) (rm : Int32) (ps : Int32) (wx : Nat → Int32) (pp : Nat → Option Nat) (tp : Nat → Option Nat) (ap : Nat → Option Nat) (sg : Nat → Int32) (uh : Int32) (ud : Int32) (up : Int32) (ur : Int32) (us : Int32) (ux : Nat → Int32) : ∀ (i : Nat) (x : Nat × va_E), (wK b d (wT b d xN xT xA xh xd xl xr xo xw xpp xtp xap xsg yN yT yA yh yd yl yr yo yw ypp ytp yap ysg zat zpl zlt zjo zfo zsz zby znu) pd qt qr tbu wst asw pN tN aN hd dr pl rm ps wx pp tp ap sg uh ud up ur us ux)[i]? = some x → ∃ j, j < 32 ∧ x.1 = b j := by
  intro i x hx
  rcases i with _ | _ | _ | _ | _ | _ | _ | _ | _ | _ | _ | _ | _ | _ | _ | _ | _ | _ | _ | _ | _ | _ | _ | _ | _ | _ | _ | _ | _ | _ | _ | _ | i
  · exact ⟨0, by decide, by cases hx; rfl⟩
  · exact ⟨1, by decide, by cases hx; rfl⟩
  · exact ⟨2, by decide, by cases hx; rfl⟩
  · exact ⟨3, by decide, by cases hx; rfl⟩
  · exact ⟨4, by decide, by cases hx; rfl⟩
  · exact ⟨5, by decide, by cases hx; rfl⟩
  · exact ⟨6, by decide, by cases hx; rfl⟩
  · exact ⟨7, by decide, by cases hx; rfl⟩
  · exact ⟨8, by decide, by cases hx; rfl⟩
  · exact ⟨9, by decide, by cases hx; rfl⟩
  · exact ⟨10, by decide, by cases hx; rfl⟩
  · exact ⟨11, by decide, by cases hx; rfl⟩
  · exact ⟨12, by decide, by cases hx; rfl⟩
  · exact ⟨13, by decide, by cases hx; rfl⟩
  · exact ⟨14, by decide, by cases hx; rfl⟩
  · exact ⟨15, by decide, by cases hx; rfl⟩
  · exact ⟨16, by decide, by cases hx; rfl⟩
  · exact ⟨17, by decide, by cases hx; rfl⟩
  · exact ⟨18, by decide, by cases hx; rfl⟩
  · exact ⟨19, by decide, by cases hx; rfl⟩
  · exact ⟨20, by decide, by cases hx; rfl⟩
  · exact ⟨21, by decide, by cases hx; rfl⟩
  · exact ⟨22, by decide, by cases hx; rfl⟩
  · exact ⟨23, by decide, by cases hx; rfl⟩
  · exact ⟨24, by decide, by cases hx; rfl⟩
  · exact ⟨25, by decide, by cases hx; rfl⟩
  · exact ⟨26, by decide, by cases hx; rfl⟩
  · exact ⟨27, by decide, by cases hx; rfl⟩
  · exact ⟨28, by decide, by cases hx; rfl⟩
  · exact ⟨29, by decide, by cases hx; rfl⟩
  · exact ⟨30, by decide, by cases hx; rfl⟩
  · exact ⟨31, by decide, by cases hx; rfl⟩
  · simp [wK, wT] at hx
theorem WW.refK {E : zE} {a : Nat → Nat} {d : ClassId} {sv im rd wa kp so sz el pr ts nu bu ht : Nat → Int32} {ig th po ba en td ij : Int32} {H H1 : Heap} {F1 : Nat → Prop} (h : WW E (wM a d sv im rd wa kp so sz el pr ts nu bu ht ig th po ba en td ij) gN H) (hk : ∀ q : Nat, q < H.size → ¬ F1 q → H1[q]? = H[q]?) (hn : ∀ j, ¬ F1 (a j)) : WW E (wM a d sv im rd wa kp so sz el pr ts nu bu ht ig th po ba en td ij) gN H1 := by
  refine h.keptD (fun i x hx => ?_) (fun z e hz => by cases hz)
  obtain ⟨j, -, hj⟩ := wM_ad _ _ _ _ _ _ _ _ _ _ _ _ _ _ _ _ _ _ _ _ _ _ i x hx
  exact hk _ (h.at i hx).lt (hj ▸ hn j)
theorem WW.clsK {E : zE} {b : Nat → Nat} {d : Nat → ClassId} {xN : Int32} {xT : Int32} {xA : Int32} {xh : Int32} {xd : Int32} {xl : Int32} {xr : Int32} {xo : Int32} {xw : Nat → Int32} {xpp : Nat → Option Nat} {xtp : Nat → Option Nat} {xap : Nat → Option Nat} {xsg : Nat → Int32} {yN : Int32} {yT : Int32} {yA : Int32} {yh : Int32} {yd : Int32} {yl : Int32} {yr : Int32} {yo : Int32} {yw : Nat → Int32} {ypp : Nat → Option Nat} {ytp : Nat → Option Nat} {yap : Nat → Option Nat} {ysg : Nat → Int32} {zat : Int32} {zpl : Int32} {zlt : Int32} {zjo : Bool} {zfo : Int32} {zsz : Int32} {zby : Nat → Int32} {znu : Nat → Int32} {pd : Bool} {qt : Nat → Option Nat} {qr : Nat → Option Nat} {tbu : Nat → Int32} {wst : Nat → Int32} {asw : Nat → Int32} {pN : Int32} {tN : Int32} {aN : Int32} {hd : Int32} {dr : Int32} {pl : Int32} {rm : Int32} {ps : Int32} {wx : Nat → Int32} {pp : Nat → Option Nat} {tp : Nat → Option Nat} {ap : Nat → Option Nat} {sg : Nat → Int32} {uh : Int32} {ud : Int32} {up : Int32} {ur : Int32} {us : Int32} {ux : Nat → Int32} {G : zG} {H H1 : Heap} {F1 : Nat → Prop} (h : WW E (wK b d (wT b d xN xT xA xh xd xl xr xo xw xpp xtp xap xsg yN yT yA yh yd yl yr yo yw ypp ytp yap ysg zat zpl zlt zjo zfo zsz zby znu) pd qt qr tbu wst asw pN tN aN hd dr pl rm ps wx pp tp ap sg uh ud up ur us ux) G H) (hk : ∀ q : Nat, q < H.size → ¬ F1 q → H1[q]? = H[q]?) (hn : ∀ k, ¬ F1 (b k)) (hg : ∀ z e, G z = some e → ¬ F1 z) : WW E (wK b d (wT b d xN xT xA xh xd xl xr xo xw xpp xtp xap xsg yN yT yA yh yd yl yr yo yw ypp ytp yap ysg zat zpl zlt zjo zfo zsz zby znu) pd qt qr tbu wst asw pN tN aN hd dr pl rm ps wx pp tp ap sg uh ud up ur us ux) G H1 := by
  refine h.keptD (fun i x hx => ?_) (fun z e hz => hk z (h.dyn hz).lt (hg z e hz))
  obtain ⟨j, -, hj⟩ := wK_ad _ _ _ _ _ _ _ _ _ _ _ _ _ _ _ _ _ _ _ _ _ _ _ _ _ _ _ _ _ _ _ _ _ _ _ _ _ _ _ _ _ _ _ _ _ _ _ _ _ _ _ _ _ _ _ _ _ _ _ _ _ i x hx
  exact hk _ (h.at i hx).lt (hj ▸ hn j)
theorem WW.refN {E : zE} {a : Nat → Nat} {d : ClassId} {sv im rd wa kp so sz el pr ts nu bu ht : Nat → Int32} {ig th po ba en td ij : Int32} {H : Heap} (h : WW E (wM a d sv im rd wa kp so sz el pr ts nu bu ht ig th po ba en td ij) gN H) (ha : ∀ k, ∃ j, j < 14 ∧ a k = a j) : ∀ k, a k < H.size := by
  intro k
  obtain ⟨j, hj, e⟩ := ha k
  rw [e]
  rcases (show j = 0 ∨ j = 1 ∨ j = 2 ∨ j = 3 ∨ j = 4 ∨ j = 5 ∨ j = 6 ∨ j = 7 ∨ j = 8 ∨ j = 9 ∨ j = 10 ∨ j = 11 ∨ j = 12 ∨ j = 13 by omega) with rfl | rfl | rfl | rfl | rfl | rfl | rfl | rfl | rfl | rfl | rfl | rfl | rfl | rfl
  · exact (h.at 0 rfl).lt
  · exact (h.at 1 rfl).lt
  · exact (h.at 2 rfl).lt
  · exact (h.at 3 rfl).lt
  · exact (h.at 4 rfl).lt
  · exact (h.at 5 rfl).lt
  · exact (h.at 6 rfl).lt
  · exact (h.at 7 rfl).lt
  · exact (h.at 8 rfl).lt
  · exact (h.at 9 rfl).lt
  · exact (h.at 10 rfl).lt
  · exact (h.at 11 rfl).lt
  · exact (h.at 12 rfl).lt
  · exact (h.at 13 rfl).lt
theorem OUTc.kept {E : zE} {o : Nat} {H H1 : Heap} {F1 : Nat → Prop} (h : OUTc E o H) (hk : ∀ q : Nat, q < H.size → ¬ F1 q → H1[q]? = H[q]?) (hn : ¬ F1 o) : OUTc E o H1 := by
  obtain ⟨f, hf⟩ := h
  exact ⟨f, hf.kept (hk _ hf.lt hn)⟩
theorem OUTc.lt {E : zE} {o : Nat} {H : Heap} (h : OUTc E o H) : o < H.size := by
  obtain ⟨f, hf⟩ := h
  exact hf.lt
