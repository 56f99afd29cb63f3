/-! THE CLASS'S WORLD: its object, its fiddle, what it supposes; others behind them -/
abbrev ceS (h d p r o : Int32) (w : Nat) : va_E := .inr (5, [.int h, .int d, .int p, .int r, .int o, .ref w])
abbrev ceI (d : Nat → ClassId) (n : Nat) (f : Nat → Int32) : va_E := .inl (d 0, n, .inl f)
abbrev ceR (c : ClassId) (n : Nat) (f : Nat → Option Nat) : va_E := .inl (c, n, .inr (.inr (.inr (.inr f))))
abbrev ceP (t l w j p : Int32) : va_E := .inr (2, [.int t, .int l, .int w, .int j, .int p])
abbrev ceT (n k p g f c : Int32) : va_E := .inr (6, [.int n, .int k, .int p, .int g, .int f, .int c])
abbrev ceA (f s h b : Int32) (t : Nat) : va_E := .inr (0, [.int f, .int s, .int h, .int b, .ref t])
abbrev ceW (o : Int32) (r : Nat) : va_E := .inr (4, [.int o, .ref r])
def wK (b : Nat → Nat) (d : Nat → ClassId) (tl : va_W) (pd : Bool) (qt qr : Nat → Option Nat) (tbu wst asw : Nat → Int32) (pN tN aN hd dr pl rm ps : Int32) (wx : Nat → Int32) (pp tp ap : Nat → Option Nat) (sg : Nat → Int32) (uh ud up ur us : Int32) (ux : Nat → Int32) : va_W :=
  (b 0, .inr (7, [.ref (b 6), .ref (b 15), .int (bI pd), .ref (b 22), .ref (b 29), .ref (b 13), .ref (b 1), .ref (b 2), .ref (b 3), .ref (b 4), .ref (b 5)])) ::
  (b 1, ceR (d 2) 8 qt) :: (b 2, ceR (d 4) 8 qr) :: (b 3, ceI d 10 tbu) :: (b 4, ceI d 128 wst) :: (b 5, ceI d 24 asw) ::
  (b 6, .inr (1, [.int pN, .int tN, .int aN, .ref (b 7), .ref (b 9), .ref (b 10), .ref (b 11), .ref (b 12)])) ::
  (b 7, ceS hd dr pl rm ps (b 8)) :: (b 8, ceI d 10 wx) :: (b 9, ceR (d 1) 10 pp) :: (b 10, ceR (d 2) 7 tp) :: (b 11, ceR (d 3) 24 ap) :: (b 12, ceI d 10 sg) ::
  (b 13, ceS uh ud up ur us (b 14)) :: (b 14, ceI d 10 ux) :: tl
/-- what the class's methods may write -/
def bF (b : Nat → Nat) : Nat → Prop := fun q => ∃ k, q = b k
theorem bF_in (b : Nat → Nat) (k : Nat) : bF b (b k) := ⟨k, rfl⟩
/-- nobody and no piece: -1 in the class -/
def hdC (x : Int32) : Int32 := if x = -4 then -1 else x
def PcG (G : zG) (r : Nat → Int32) (pp : Nat → Option Nat) : Prop := ∀ n, n < nP r → ∃ q, pp n = some q ∧ G q = some (ceP (g6 r n 0) (g6 r n 1) (g6 r n 2) (hdC (g6 r n 3)) (g6 r n 4))
def ThG (G : zG) (r : Nat → Int32) (tp : Nat → Option Nat) : Prop := ∀ n, n < nT r → ∃ q, tp n = some q ∧ G q = some (ceT (nI n) (g5 r n 0) (g5 r n 1) (g5 r n 2) (g5 r n 3) (g5 r n 4))
def AkG (d : Nat → ClassId) (G : zG) (r : Nat → Int32) (ap : Nat → Option Nat) : Prop := ∀ i, i < nA r → ∃ q t w x, ap i = some q ∧ G q = some (ceA (r (103 + 18 * i)) (r (103 + 18 * i + 1)) (bI (hdA r i)) (bzV r i) t) ∧ G t = some (ceS (hdC (askW r i 0)) (askW r i 1) (askW r i 2) (askW r i 3) (askW r i 4) w) ∧ G w = some (ceI d 10 x) ∧ ∀ n, n < nP r → x n = askW r i (5 + n)
/-- a setting at t (its wax at w, as in x) is that of the row r -/
abbrev StA (E : zE) (H : Heap) (t w : Nat) (r x : Nat → Int32) : Prop := va_at E.1 vwCl (t, ceS (hdC (r 3)) (r 4) (r 5) (r 6) (r 7) w) H ∧ va_at E.1 vwCl (w, ceI E.2.1 10 x) H ∧ ∀ n, n < nP r → x n = g6 r n 5
def mnI (a b : Int32) : Int32 := if a ≤ b then a else b
theorem mx_a {a b : Int32} (h : ¬ a < b) : a = mxI a b := by
  unfold mxI
  have h1 := Int32.not_lt.mp h
  split
  · rename_i h2; exact Int32.le_antisymm h2 h1
  · rfl
theorem mx_b {a b : Int32} (h : a < b) : b = mxI a b := by
  unfold mxI
  rw [if_pos (Int32.le_of_lt h)]
theorem mx_C (x y : Int32) : (if x < y then y else x) = mxI x y := by
  split
  · rename_i h; exact mx_b h
  · rename_i h; exact mx_a h
theorem mn_C (x y : Int32) : (if y < x then y else x) = mnI x y := by
  unfold mnI
  by_cases h : y < x
  · rw [if_pos h, if_neg (Int32.not_le.mpr h)]
  · rw [if_neg h, if_pos (Int32.not_lt.mp h)]
theorem am_C (x : Int32) : (if 0 ≤ x then x else 0 - x) = amt x := by
  unfold amt
  by_cases h : x < 0
  · rw [if_pos h, if_neg (Int32.not_le.mpr h), Int32.zero_sub]
  · rw [if_neg h, if_pos (Int32.not_lt.mp h)]
def amL (x : Int64) : Int64 := if 0 < x then x else -x
section ZC
variable {p : Program} {l : Launch} {e : Env} {R : Room} {s : State} {m : MethodId} {args : Array Value} {below : List Frame} {meth : Method} {c : Code} {H H0 : Heap} {locs : List Loc} {cells slots : Nat} {Q : State → Prop}
variable {cc : ByteArray} {pc : Nat} {ls : Array Slot} {rest st0 : List Value} {E : zE} {own : String} {nL : Nat} {ws : va_W} {G : zG} {F : Nat → Prop}
theorem z_rfS {o : Option Nat} {q : Nat} (h : o = some q) (k : W p l e R s m args below meth c H locs cells slots Q (F0 m pc ls (.ref q :: rest))) : W p l e R s m args below meth c H locs cells slots Q (F0 m pc ls (va_rf o :: rest)) := by
  subst h; exact k
theorem z_rfN {o : Option Nat} (h : o = none) (k : W p l e R s m args below meth c H locs cells slots Q (F0 m pc ls (.null :: rest))) : W p l e R s m args below meth c H locs cells slots Q (F0 m pc ls (va_rf o :: rest)) := by
  subst h; exact k
theorem z_aret {v w : Value} {rt : FieldType} (cx : Cx E p s args m c own cc nL) (hr : meth.sig.returnType = some rt) (hlk : meth.locks = false) (hrt : (∃ n, rt = .object n) ∨ ∃ t, rt = .array t) (hv : v = .null ∨ ∃ a, v = .ref a) (hdg : decode cc pc = .ok (.areturn, 1)) (hw : v = w) : W p l e R s m args below meth c s.heap [] 0 0 (MQ below (rQ w) args s 0 0 nF) (F0 m pc ls [v]) := by
  subst hw
  exact W.aret cx.x cx.b hr hrt hv (fun t ht _ => ⟨rfl, ht⟩) (fun _ h => by cases h) hdg hlk
theorem z_mmax {index : Nat} {x y : Int32} (cx : Cx E p s args m c own cc nL) (hsz : ls.size = nL) (hlink : Cond.methodLink own index yJ9_max_7cf53 ∈ AllW) (hR : 1 ≤ R.frames ∧ 21 ≤ R.locals) (h8 : (rest.map fun v => v.category).sum ≤ 8) (hf : cells ≤ R.cells ∧ slots ≤ R.slots) (hdg : decode cc pc = .ok (.invokestatic index, 3))
    (kk : W p l e R s m args below meth c H locs cells slots Q (F0 m (pc + 3) ls (.int (mxI x y) :: rest))) : W p l e R s m args below meth c H locs cells slots Q (F0 m pc ls (.int y :: .int x :: rest)) := by
  refine va_mmax cx.x cx.b (cx.1.2.2.1.trans hsz.symm) cx.own (cx.ts _ hlink) (cx.ts _ m_st_J9_max_7cf53) (cx.ts _ m_in_RJ9) (cx.ts _ m_co_J9_max_7cf53) hR.1 (by omega) hf.1 hf.2 hdg ?_
  rw [show (if x < y then y else x) = mxI x y from mx_C x y]
  exact kk
theorem z_mmin {index : Nat} {x y : Int32} (cx : Cx E p s args m c own cc nL) (hsz : ls.size = nL) (hlink : Cond.methodLink own index yJ9_min_7cf53 ∈ AllW) (hR : 1 ≤ R.frames ∧ 21 ≤ R.locals) (h8 : (rest.map fun v => v.category).sum ≤ 8) (hf : cells ≤ R.cells ∧ slots ≤ R.slots) (hdg : decode cc pc = .ok (.invokestatic index, 3))
    (kk : W p l e R s m args below meth c H locs cells slots Q (F0 m (pc + 3) ls (.int (mnI x y) :: rest))) : W p l e R s m args below meth c H locs cells slots Q (F0 m pc ls (.int y :: .int x :: rest)) := by
  refine va_mmin cx.x cx.b (cx.1.2.2.1.trans hsz.symm) cx.own (cx.ts _ hlink) (cx.ts _ m_st_J9_min_7cf53) (cx.ts _ m_in_RJ9) (cx.ts _ m_co_J9_min_7cf53) hR.1 (by omega) hf.1 hf.2 hdg ?_
  rw [show (if y < x then y else x) = mnI x y from mn_C x y]
  exact kk
theorem z_mabs {index : Nat} {x : Int32} (cx : Cx E p s args m c own cc nL) (hsz : ls.size = nL) (hlink : Cond.methodLink own index yJ9_abs_0f7a4 ∈ AllW) (hR : 1 ≤ R.frames ∧ 21 ≤ R.locals) (h8 : (rest.map fun v => v.category).sum ≤ 8) (hf : cells ≤ R.cells ∧ slots ≤ R.slots) (hdg : decode cc pc = .ok (.invokestatic index, 3))
    (kk : W p l e R s m args below meth c H locs cells slots Q (F0 m (pc + 3) ls (.int (amt x) :: rest))) : W p l e R s m args below meth c H locs cells slots Q (F0 m pc ls (.int x :: rest)) := by
  refine va_mabs cx.x cx.b (cx.1.2.2.1.trans hsz.symm) cx.own (cx.ts _ hlink) (cx.ts _ m_st_J9_abs_0f7a4) (cx.ts _ m_in_RJ9) (cx.ts _ m_co_J9_abs_0f7a4) hR.1 (by omega) hf.1 hf.2 hdg ?_
  rw [show (if 0 ≤ x then x else 0 - x) = amt x from am_C x]
  exact kk
theorem z_mabl {index : Nat} {x : Int64} (cx : Cx E p s args m c own cc nL) (hsz : ls.size = nL) (hlink : Cond.methodLink own index yJ9_abs_067f4 ∈ AllW) (hR : 1 ≤ R.frames ∧ 21 ≤ R.locals) (h8 : (rest.map fun v => v.category).sum ≤ 8) (hf : cells ≤ R.cells ∧ slots ≤ R.slots) (hdg : decode cc pc = .ok (.invokestatic index, 3))
    (kk : W p l e R s m args below meth c H locs cells slots Q (F0 m (pc + 3) ls (.long (amL x) :: rest))) : W p l e R s m args below meth c H locs cells slots Q (F0 m pc ls (.long x :: rest)) := by
  refine va_mabs_long cx.x cx.b (cx.1.2.2.1.trans hsz.symm) cx.own (cx.ts _ hlink) (cx.ts _ m_st_J9_abs_067f4) (cx.ts _ m_in_RJ9) (cx.ts _ m_co_J9_abs_067f4) hR.1 (by omega) hf.1 hf.2 hdg ?_
  rw [show (if 0 < x then x else -x) = amL x from rfl]
  exact kk
end ZC

def lhC (v : Int32) (h : Bool) : Int32 := if h = true then 2 * v else v
def toW (v0 v2 x : Int32) : Int32 := if 0 < 2 * v2 + x then v0 - v0 * x / (2 * v2 + x) else v0
theorem hdC_nI {x : Int32} {n : Nat} (hn : n < 100) (hx : x = -4 ∨ ∃ j, j < 100 ∧ x = nI j) : (hdC x = nI n ↔ x = nI n) := by
  have h4 : (-4 : Int32).toInt = -4 := rfl
  have h1 : (-1 : Int32).toInt = -1 := rfl
  have hk : (nI n).toInt = n := nI_toInt (by omega)
  unfold hdC
  rcases hx with rfl | ⟨j, hj, rfl⟩
  · rw [if_pos rfl]
    exact ⟨fun e => by rw [← e, h1] at hk; omega, fun e => by rw [← e, h4] at hk; omega⟩
  · have hj2 : (nI j).toInt = j := nI_toInt (by omega)
    rw [if_neg (fun e => by rw [e, h4] at hj2; omega)]
theorem hand_C {r : Nat → Int32} (hC : InvC r) (hS : InvS r) : r 3 = -4 ∨ ∃ j, j < 100 ∧ r 3 = nI j := by
  rcases hS.1.1 with h | ⟨n, h1, h2⟩
  · exact Or.inl h
  · exact Or.inr ⟨n, by have := (Inv.n0 hC).2; omega, h2⟩
theorem ls_t {r : Nat → Int32} (hI : Inv r) {i : Nat} (hi : i < nP r) (h : hdC (r 3) = nI i) : lhC (g6 r i 1) true = lsN r i := by
  have hP := (Inv.n0 hI.1).2
  unfold lhC lsN
  rw [if_pos rfl, if_pos ((hdC_nI (by omega) (hand_C hI.1 hI.2.1)).mp h)]
theorem ls_f {r : Nat → Int32} (hI : Inv r) {i : Nat} (hi : i < nP r) (h : ¬ hdC (r 3) = nI i) : lhC (g6 r i 1) false = lsN r i := by
  have hP := (Inv.n0 hI.1).2
  unfold lhC lsN
  rw [if_neg (by decide), if_neg (fun e => h ((hdC_nI (by omega) (hand_C hI.1 hI.2.1)).mpr e))]
theorem tw_pos {r : Nat → Int32} (h : InvP r) {n : Nat} (hn : n < nP r) {w : Int32} (hw : rg w 0 40) : 0 < 2 * g6 r n 2 + w := by
  have h2 := (h n hn).2.2.1
  have e2 : (2 : Int32).toInt = 2 := rfl
  have e0 : (0 : Int32).toInt = 0 := rfl
  unfold rg at h2 hw
  have hm : (2 * g6 r n 2).toInt = 2 * (g6 r n 2).toInt := by rw [ti_mul] <;> rw [e2] <;> omega
  rw [Int32.lt_iff_toInt_lt, ti_add (by rw [hm]; omega) (by rw [hm]; omega), hm, e0]
  omega
theorem toW_tn {r : Nat → Int32} (h : InvP r) {n : Nat} (hn : n < nP r) {w : Int32} (hw : rg w 0 40) : toW (g6 r n 0) (g6 r n 2) w = tnW r n w := by
  unfold toW
  rw [if_pos (tw_pos h hn hw)]
  rfl
theorem jn_C {r : Nat → Int32} (h : InvP r) {n : Nat} (hn : n < nP r) (hn10 : n < 10) : (hdC (g6 r n 3) < 0 → g6 r n 3 < 0) ∧ (¬ hdC (g6 r n 3) < 0 → ∃ j, j < n ∧ hdC (g6 r n 3) = nI j ∧ g6 r n 3 = nI j) := by
  rcases (h n hn).2.2.2.1 with e | ⟨j, hj, e⟩
  · rw [e]
    exact ⟨fun _ => by decide, fun c => absurd (by decide) c⟩
  · have hd : hdC (nI j) = nI j := by
      have hj2 : (nI j).toInt = j := nI_toInt (by omega)
      have h4 : (-4 : Int32).toInt = -4 := rfl
      unfold hdC
      rw [if_neg (fun e => by rw [e, h4] at hj2; omega)]
    rw [e, hd]
    exact ⟨fun c => c, fun _ => ⟨j, hj, rfl, rfl⟩⟩
theorem hld_C (v : Int32) : mxI 0 (mnI 99 v) = hld v 0 99 := by
  unfold mxI mnI hld
  by_cases h1 : v < 0
  · have h99 : ¬ 99 ≤ v := fun c => by
      rw [Int32.le_iff_toInt_le] at c
      rw [Int32.lt_iff_toInt_lt] at h1
      have e1 : (99 : Int32).toInt = 99 := rfl
      have e0 : (0 : Int32).toInt = 0 := rfl
      omega
    rw [if_pos h1, if_neg h99, if_neg (Int32.not_le.mpr h1)]
  · rw [if_neg h1]
    have h2 := Int32.not_lt.mp h1
    by_cases h3 : 99 < v
    · rw [if_pos h3, if_pos (Int32.le_of_lt h3), if_pos (by decide)]
    · rw [if_neg h3]
      have h4 := Int32.not_lt.mp h3
      by_cases h5 : 99 ≤ v
      · have : v = 99 := Int32.le_antisymm h4 h5
        subst this
        rw [if_pos (Int32.le_refl _), if_pos (by decide)]
      · rw [if_neg h5, if_pos h2]
theorem isP_n {r : Nat → Int32} (hC : InvC r) {n : Nat} (hn : n < nP r) : isPc r (nI n) = true := by
  obtain ⟨h0, h10⟩ := Inv.n0 hC
  unfold isPc inL
  have e0 : (0 : Int32).toInt = 0 := rfl
  have e1 : (1 : Int32).toInt = 1 := rfl
  have hk : (nI n).toInt = n := nI_toInt (by omega)
  have hp : (nI (nP r)).toInt = nP r := nI_toInt (by omega)
  rw [h0]
  simp only [Bool.and_eq_true, decide_eq_true_eq, Int32.le_iff_toInt_le]
  rw [ti_sub (by omega) (by omega)]
  omega
theorem isP_C {r : Nat → Int32} (hC : InvC r) (x : Int32) : isPc r x = (decide (¬ x < 0) && decide (¬ r 0 ≤ x) && decide (¬ 10 ≤ x)) := by
  obtain ⟨h0, h10⟩ := Inv.n0 hC
  unfold isPc inL
  have e0 : (0 : Int32).toInt = 0 := rfl
  have e1 : (1 : Int32).toInt = 1 := rfl
  have eT : (10 : Int32).toInt = 10 := rfl
  have hp : (nI (nP r)).toInt = nP r := nI_toInt (by omega)
  rw [h0, Bool.eq_iff_iff]
  simp only [Bool.and_eq_true, decide_eq_true_eq, Int32.le_iff_toInt_le, Int32.lt_iff_toInt_lt]
  rw [ti_sub (by omega) (by omega)]
  omega
theorem isT_n {r : Nat → Int32} (hC : InvC r) {n : Nat} (hn : n < nT r) : isTh r (nI n) = true := by
  obtain ⟨h0, h10⟩ := Inv.n1 hC
  unfold isTh inL
  have e0 : (0 : Int32).toInt = 0 := rfl
  have e1 : (1 : Int32).toInt = 1 := rfl
  have hk : (nI n).toInt = n := nI_toInt (by omega)
  have hp : (nI (nT r)).toInt = nT r := nI_toInt (by omega)
  rw [h0]
  simp only [Bool.and_eq_true, decide_eq_true_eq, Int32.le_iff_toInt_le]
  rw [ti_sub (by omega) (by omega)]
  omega
theorem isT_C {r : Nat → Int32} (hC : InvC r) (x : Int32) : isTh r x = (decide (¬ x < 0) && decide (¬ r 1 ≤ x) && decide (¬ 7 ≤ x)) := by
  obtain ⟨h0, h10⟩ := Inv.n1 hC
  unfold isTh inL
  have e0 : (0 : Int32).toInt = 0 := rfl
  have e1 : (1 : Int32).toInt = 1 := rfl
  have eT : (7 : Int32).toInt = 7 := rfl
  have hp : (nI (nT r)).toInt = nT r := nI_toInt (by omega)
  rw [h0, Bool.eq_iff_iff]
  simp only [Bool.and_eq_true, decide_eq_true_eq, Int32.le_iff_toInt_le, Int32.lt_iff_toInt_lt]
  rw [ti_sub (by omega) (by omega)]
  omega
theorem nz_le {x : Int32} (h : ¬ x ≤ 0) : ¬ x = 0 := fun e => h (by rw [e]; decide)
theorem nI_n0 {n : Nat} (h : n < 2147483648) : ¬ nI n < 0 := by
  rw [Int32.lt_iff_toInt_lt, nI_toInt (by omega)]
  have e0 : (0 : Int32).toInt = 0 := rfl
  omega
theorem pos_rg {x : Int32} {b : Int} (h : rg x 1 b) : 0 < x := by
  rw [Int32.lt_iff_toInt_lt]
  have e0 : (0 : Int32).toInt = 0 := rfl
  unfold rg at h
  omega
theorem upd_nx {f g : Nat → Int32} {i : Nat} (h : ∀ j, j < i → f j = g j) : ∀ j, j < i + 1 → upd f i (g i) j = g j := fun j hj => by
  by_cases c : j = i
  · subst c; exact upd_self _ _ _
  · exact (upd_ne _ _ c).trans (h j (by omega))
