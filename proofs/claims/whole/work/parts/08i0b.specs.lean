/-! the class: the rest of its world -/
def wT (b : Nat → Nat) (d : Nat → ClassId) (xN xT xA xh xd xl xr xo : Int32) (xw : Nat → Int32) (xpp xtp xap : Nat → Option Nat) (xsg : Nat → Int32) (yN yT yA yh yd yl yr yo : Int32) (yw : Nat → Int32) (ypp ytp yap : Nat → Option Nat) (ysg : Nat → Int32) (zat zpl zlt : Int32) (zjo : Bool) (zfo zsz : Int32) (zby znu : Nat → Int32) : va_W :=
  [(b 15, .inr (1, [.int xN, .int xT, .int xA, .ref (b 16), .ref (b 18), .ref (b 19), .ref (b 20), .ref (b 21)])),
   (b 16, ceS xh xd xl xr xo (b 17)), (b 17, ceI d 10 xw), (b 18, ceR (d 1) 10 xpp), (b 19, ceR (d 2) 7 xtp), (b 20, ceR (d 3) 24 xap), (b 21, ceI d 10 xsg),
   (b 22, .inr (1, [.int yN, .int yT, .int yA, .ref (b 23), .ref (b 25), .ref (b 26), .ref (b 27), .ref (b 28)])),
   (b 23, ceS yh yd yl yr yo (b 24)), (b 24, ceI d 10 yw), (b 25, ceR (d 1) 10 ypp), (b 26, ceR (d 2) 7 ytp), (b 27, ceR (d 3) 24 yap), (b 28, ceI d 10 ysg),
   (b 29, .inr (3, [.int zat, .int zpl, .int zlt, .int (bI zjo), .int zfo, .int zsz, .ref (b 30), .ref (b 31)])), (b 30, ceI d 100 zby), (b 31, ceI d 5 znu)]
def cpR (f g : Nat → Option Nat) (i : Nat) : Nat → Option Nat := fun j => if j < i then f j else g j
theorem cpR_0 (f g : Nat → Option Nat) : cpR f g 0 = g := by funext j; unfold cpR; rw [if_neg (Nat.not_lt_zero _)]
theorem cpR_s (f g : Nat → Option Nat) (i : Nat) : va_up (cpR f g i) i (f i) = cpR f g (i + 1) := by
  funext j
  unfold va_up cpR
  by_cases h : j = i
  · subst h; rw [if_pos rfl, if_pos (Nat.lt_succ_self _)]
  · rw [if_neg h]
    by_cases h2 : j < i
    · rw [if_pos h2, if_pos (by omega)]
    · rw [if_neg h2, if_neg (by omega)]
/-- what an array of references holds -/
def RfG (G : zG) (ci n : Nat) (f : Nat → Option Nat) : Prop := ∀ i, i < n → ∀ v, f i = some v → ∃ vs, G v = some (.inr (ci, vs))
/-! rows that say the same but for what is moved -/
def Sm (r s : Nat → Int32) : Prop := ∀ j, (j < 3 ∨ 68 ≤ j ∨ (8 ≤ j ∧ (j - 8) % 6 ≠ 5)) → s j = r j
theorem Sm.upd_w {r : Nat → Int32} {n : Nat} {v : Int32} (hn : n < 10) : Sm r (upd r (8 + 6 * n + 5) v) := fun j hj => upd_ne _ _ (by omega)
theorem Sm.upd_s {r : Nat → Int32} {k : Nat} {v : Int32} (h3 : 3 ≤ k) (h8 : k < 8) : Sm r (upd r k v) := fun j hj => upd_ne _ _ (by omega)
theorem sm_nP {r s : Nat → Int32} (h : Sm r s) : nP s = nP r := by unfold nP; rw [h 0 (by omega)]
theorem sm_nT {r s : Nat → Int32} (h : Sm r s) : nT s = nT r := by unfold nT; rw [h 1 (by omega)]
theorem sm_nA {r s : Nat → Int32} (h : Sm r s) : nA s = nA r := by unfold nA; rw [h 2 (by omega)]
theorem sm_g6 {r s : Nat → Int32} (h : Sm r s) {n k : Nat} (hk : k < 5) : g6 s n k = g6 r n k := h _ (by omega)
theorem sm_g5 {r s : Nat → Int32} (h : Sm r s) (n k : Nat) : g5 s n k = g5 r n k := h _ (by omega)
theorem sm_ask {r s : Nat → Int32} (h : Sm r s) (i : Nat) : askW s i = askW r i := by funext q; exact h _ (by omega)
theorem sm_pb {r s : Nat → Int32} (h : Sm r s) (w : Nat → Int32) : pb s w = pb r w := by
  funext j
  unfold pb pbB
  by_cases h1 : 3 ≤ j ∧ j < 8
  · rw [if_pos h1, if_pos h1]
  · rw [if_neg h1, if_neg h1]
    by_cases h2 : 13 ≤ j ∧ (j - 13) % 6 = 0 ∧ (j - 13) / 6 < 10
    · rw [if_pos h2, if_pos h2]
    · rw [if_neg h2, if_neg h2]
      exact h j (by omega)
theorem sm_bzV {r s : Nat → Int32} (h : Sm r s) (i : Nat) : bzV s i = bzV r i := by
  unfold bzV
  rw [sm_ask h, sm_pb h, h _ (by omega), h _ (by omega)]
theorem sm_PcG {G : zG} {r s : Nat → Int32} {pp : Nat → Option Nat} (h : Sm r s) (hP : PcG G r pp) : PcG G s pp := fun n hn => by
  obtain ⟨q, h1, h2⟩ := hP n (by rw [← sm_nP h]; exact hn)
  refine ⟨q, h1, ?_⟩
  rw [h2, sm_g6 h (by decide), sm_g6 h (by decide), sm_g6 h (by decide), sm_g6 h (by decide), sm_g6 h (by decide)]
theorem sm_ThG {G : zG} {r s : Nat → Int32} {tp : Nat → Option Nat} (h : Sm r s) (hT : ThG G r tp) : ThG G s tp := fun n hn => by
  obtain ⟨q, h1, h2⟩ := hT n (by rw [← sm_nT h]; exact hn)
  refine ⟨q, h1, ?_⟩
  rw [h2, sm_g5 h, sm_g5 h, sm_g5 h, sm_g5 h, sm_g5 h]
theorem sm_AkG {d : Nat → ClassId} {G : zG} {r s : Nat → Int32} {ap : Nat → Option Nat} (h : Sm r s) (hA : AkG d G r ap) : AkG d G s ap := fun i hi => by
  obtain ⟨q, t, w, x, h1, h2, h3, h4, h5⟩ := hA i (by rw [← sm_nA h]; exact hi)
  refine ⟨q, t, w, x, h1, ?_, ?_, h4, fun n hn => ?_⟩
  · have e : hdA s i = hdA r i := by unfold hdA; rw [h _ (by omega)]
    rw [h2, h _ (by omega), h _ (by omega), e, sm_bzV h]
  · rw [h3, sm_ask h]
  · rw [sm_ask h]; exact h5 n (by rw [← sm_nP h]; exact hn)
theorem CG_sm {d : Nat → ClassId} {G : zG} {r s : Nat → Int32} {pN tN aN : Int32} {wx wy : Nat → Int32} {pp tp ap : Nat → Option Nat} (h : CG d G r pN tN aN wx pp tp ap) (hS : Sm r s) (hI : Inv s) (hw : ∀ n, n < nP r → wy n = g6 s n 5) : CG d G s pN tN aN wy pp tp ap := by
  obtain ⟨-, h1, h2, h3, h4, h5, h6, -⟩ := h
  exact ⟨hI, by rw [sm_nP hS]; exact h1, by rw [sm_nT hS]; exact h2, by rw [sm_nA hS]; exact h3, sm_PcG hS h4, sm_ThG hS h5, sm_AkG hS h6, fun n hn => hw n (by rw [← sm_nP hS]; exact hn)⟩
theorem CG_wax {d : Nat → ClassId} {G : zG} {r : Nat → Int32} {pN tN aN : Int32} {wx : Nat → Int32} {pp tp ap : Nat → Option Nat} (h : CG d G r pN tN aN wx pp tp ap) {n : Nat} {v : Int32} (hn : n < nP r) (hv : rg v 0 20) : CG d G (upd r (8 + 6 * n + 5) v) pN tN aN (upd wx n v) pp tp ap := by
  have hP10 := (Inv.n0 h.1.1).2
  refine CG_sm h (Sm.upd_w (by omega)) (Inv_wx h.1 (by omega) hv) fun k hk => ?_
  unfold g6
  by_cases c : k = n
  · subst c; rw [upd_self, upd_self]
  · rw [upd_ne _ _ c, upd_ne _ _ (by omega)]
    exact h.2.2.2.2.2.2.2 k hk
theorem CG_set {d : Nat → ClassId} {G : zG} {r : Nat → Int32} {pN tN aN : Int32} {wx : Nat → Int32} {pp tp ap : Nat → Option Nat} (h : CG d G r pN tN aN wx pp tp ap) {k : Nat} {v : Int32} (h3 : 3 ≤ k) (h8 : k < 8) (hI : Inv (upd r k v)) : CG d G (upd r k v) pN tN aN wx pp tp ap := by
  refine CG_sm h (Sm.upd_s h3 h8) hI fun n hn => ?_
  unfold g6
  rw [upd_ne _ _ (by omega)]
  exact h.2.2.2.2.2.2.2 n hn
/-- a setting moved within its range -/
theorem Inv_mv {r : Nat → Int32} (h : Inv r) {k : Nat} {v : Int32} (h3 : 3 ≤ k) (h8 : k < 8) (hz : InvZ (nP r) (fun j => upd r k v (3 + j))) : Inv (upd r k v) := by
  obtain ⟨hC, hS, hP, hT, hA⟩ := h
  have sm := Sm.upd_s (r := r) (v := v) h3 h8
  have w5 : ∀ n, g6 (upd r k v) n 5 = g6 r n 5 := fun n => upd_ne _ _ (by omega)
  refine ⟨?_, ⟨?_, fun n hn => by rw [w5]; exact hS.2 n hn⟩, fun n hn => ?_, fun n hn => ?_, fun i hi => ?_⟩
  · unfold InvC; rw [sm 0 (by omega), sm 1 (by omega), sm 2 (by omega)]; exact hC
  · rw [sm_nP sm]; exact hz
  · rw [sm_g6 sm (by decide), sm_g6 sm (by decide), sm_g6 sm (by decide), sm_g6 sm (by decide), sm_g6 sm (by decide)]
    exact hP n (by rw [← sm_nP sm]; exact hn)
  · rw [sm_g5 sm, sm_g5 sm, sm_g5 sm, sm_g5 sm, sm_g5 sm, sm_nP sm]
    exact hT n (by rw [← sm_nT sm]; exact hn)
  · rw [sm_nP sm]
    have e : ∀ q, upd r k v (103 + 18 * i + q) = r (103 + 18 * i + q) := fun q => sm _ (by omega)
    have e0 : upd r k v (103 + 18 * i) = r (103 + 18 * i) := sm _ (by omega)
    obtain ⟨a1, a2, a3, a4, a5⟩ := hA i (by rw [← sm_nA sm]; exact hi)
    refine ⟨by rw [e0]; exact a1, by rw [e]; exact a2, by rw [e]; exact a3, ?_, fun n hn => ?_⟩
    · have : (fun q => upd r k v (103 + 18 * i + 3 + q)) = fun q => r (103 + 18 * i + 3 + q) := by funext q; rw [show 103 + 18 * i + 3 + q = 103 + 18 * i + (3 + q) by omega]; exact e _
      rw [this]; exact a4
    · rw [show 103 + 18 * i + 8 + n = 103 + 18 * i + (8 + n) by omega, e]
      rw [show 103 + 18 * i + (8 + n) = 103 + 18 * i + 8 + n by omega]
      exact a5 n hn
theorem Inv_hand {r : Nat → Int32} (h : Inv r) {v : Int32} (hv : v = -4 ∨ ∃ n, n < nP r ∧ v = nI n) : Inv (upd r 3 v) :=
  Inv_mv h (by decide) (by decide) ⟨hv, h.2.1.1.2⟩
theorem Inv_dry {r : Nat → Int32} (h : Inv r) {v : Int32} (hv : rg v 0 20) : Inv (upd r 4 v) :=
  Inv_mv h (by decide) (by decide) ⟨h.2.1.1.1, hv, h.2.1.1.2.2⟩
theorem Inv_ply {r : Nat → Int32} (h : Inv r) {v : Int32} (hv : rg v 0 1) : Inv (upd r 5 v) :=
  Inv_mv h (by decide) (by decide) ⟨h.2.1.1.1, h.2.1.1.2.1, hv, h.2.1.1.2.2.2⟩
theorem Inv_roo {r : Nat → Int32} (h : Inv r) {v : Int32} (hv : rg v 0 3) : Inv (upd r 6 v) :=
  Inv_mv h (by decide) (by decide) ⟨h.2.1.1.1, h.2.1.1.2.1, h.2.1.1.2.2.1, hv, h.2.1.1.2.2.2.2⟩
theorem Inv_fgt {r : Nat → Int32} (h : Inv r) : Inv (upd r 2 0) := by
  obtain ⟨hC, hS, hP, hT, hA⟩ := h
  have e : ∀ j, j ≠ 2 → upd r 2 0 j = r j := fun j hj => upd_ne _ _ hj
  have hz : nA (upd r 2 0) = 0 := rfl
  refine ⟨⟨hC.1, hC.2.1, ?_⟩, ⟨hS.1, fun n hn => ?_⟩, fun n hn => ?_, fun n hn => ?_, fun i hi => ?_⟩
  · show rg 0 0 24
    exact ⟨by decide, by decide⟩
  · unfold g6; rw [e _ (by omega)]; exact hS.2 n hn
  · unfold g6; rw [e _ (by omega), e _ (by omega), e _ (by omega), e _ (by omega), e _ (by omega)]; exact hP n hn
  · unfold g5; rw [e _ (by omega), e _ (by omega), e _ (by omega), e _ (by omega), e _ (by omega)]; exact hT n hn
  · rw [hz] at hi; exact absurd hi (Nat.not_lt_zero _)
theorem CG_fgt {d : Nat → ClassId} {G : zG} {r : Nat → Int32} {pN tN aN : Int32} {wx : Nat → Int32} {pp tp ap : Nat → Option Nat} (h : CG d G r pN tN aN wx pp tp ap) : CG d G (upd r 2 0) pN tN 0 wx pp tp ap := by
  obtain ⟨hI, h1, h2, -, h4, h5, -, h7⟩ := h
  have e : ∀ j, j ≠ 2 → upd r 2 0 j = r j := fun j hj => upd_ne _ _ hj
  refine ⟨Inv_fgt hI, h1, h2, rfl, fun n hn => ?_, fun n hn => ?_, fun i hi => absurd hi (Nat.not_lt_zero _), fun n hn => ?_⟩
  · obtain ⟨q, a, b⟩ := h4 n hn
    refine ⟨q, a, ?_⟩
    unfold g6 at b ⊢
    rw [e _ (by omega), e _ (by omega), e _ (by omega), e _ (by omega), e _ (by omega)]; exact b
  · obtain ⟨q, a, b⟩ := h5 n hn
    refine ⟨q, a, ?_⟩
    unfold g5 at b ⊢
    rw [e _ (by omega), e _ (by omega), e _ (by omega), e _ (by omega), e _ (by omega)]; exact b
  · unfold g6; rw [e _ (by omega)]; exact h7 n hn
theorem hd_m4 {r : Nat → Int32} (hC : InvC r) (hS : InvS r) : (hdC (r 3) = -1 → r 3 = -4) ∧ (¬ hdC (r 3) = -1 → hdC (r 3) = r 3) := by
  unfold hdC
  by_cases c : r 3 = -4
  · exact ⟨fun _ => c, fun h => absurd (if_pos c) h⟩
  · rw [if_neg c]
    refine ⟨fun e => ?_, fun _ => rfl⟩
    obtain ⟨j, hj, q⟩ := (hand_C hC hS).resolve_left c
    rw [q] at e
    exact absurd e (nI_ne_m1 (by omega))
theorem hd_nI {n : Nat} (hn : n < 100) : hdC (nI n) = nI n := by
  have h1 : (nI n).toInt = n := nI_toInt (by omega)
  have h4 : (-4 : Int32).toInt = -4 := rfl
  unfold hdC
  rw [if_neg (fun e => by rw [e, h4] at h1; omega)]
/-- what is supposed: a lump more, another post, drier -/
theorem StA_wx {E : zE} {H : Heap} {t w : Nat} {r x : Nat → Int32} {n : Nat} {v : Int32} (hP10 : nP r ≤ 10) (h1 : va_at E.1 vwCl (t, ceS (hdC (r 3)) (r 4) (r 5) (r 6) (r 7) w) H) (h2 : va_at E.1 vwCl (w, ceI E.2.1 10 (upd x n v)) H) (h3 : ∀ n, n < nP r → x n = g6 r n 5) (hn : n < 10) : StA E H t w (upd r (8 + 6 * n + 5) v) (upd x n v) := by
  refine ⟨?_, h2, fun k hk => ?_⟩
  · rw [upd_ne _ _ (by omega), upd_ne _ _ (by omega), upd_ne _ _ (by omega), upd_ne _ _ (by omega), upd_ne _ _ (by omega)]
    exact h1
  · rw [sm_nP (Sm.upd_w hn)] at hk
    unfold g6
    by_cases c : k = n
    · subst c; rw [upd_self, upd_self]
    · rw [upd_ne _ _ c, upd_ne _ _ (by omega)]; exact h3 k hk
theorem mnJ_dry (r : Nat → Int32) (n : Int32) : mnI 20 (r 4 + n) = dryL r n := by
  unfold mnI dryL
  by_cases h : 20 ≤ r 4 + n
  · rw [if_pos h]
    by_cases h2 : r 4 + n ≤ 20
    · rw [if_pos h2]; exact Int32.le_antisymm h h2
    · rw [if_neg h2]
  · rw [if_neg h, if_pos (Int32.le_of_lt (Int32.not_le.mp h))]
theorem dry_rg {r : Nat → Int32} (hS : InvS r) {n : Int32} (hn : rg n 0 20) : rg (dryL r n) 0 20 := by
  have h4 : rg (r 4) 0 20 := hS.1.2.1
  have e : (20 : Int32).toInt = 20 := rfl
  unfold dryL
  unfold rg at h4 hn
  split
  · rename_i h
    rw [Int32.le_iff_toInt_le, e, ti_add (by omega) (by omega)] at h
    unfold rg
    rw [ti_add (by omega) (by omega)]
    omega
  · exact ⟨by decide, by decide⟩
theorem sub_sum (a b c d : Int32) : (a + b) - (c + d) = (a - c) + (b - d) := by grind
theorem hm_eq (r : Nat → Int32) (n : Int32) : ∀ k, smS r k - smS (upd r 4 (dryL r n)) k = hmN r n k := by
  have g : ∀ m q, g5 (upd r 4 (dryL r n)) m q = g5 r m q := fun m q => upd_ne _ _ (by omega)
  have g' : ∀ m q, g6 (upd r 4 (dryL r n)) m q = g6 r m q := fun m q => upd_ne _ _ (by omega)
  have ho : ∀ m, stO (upd r 4 (dryL r n)) m = stW r m (g5 r m 2) (dryL r n) := fun m => by
    have e4 : upd r 4 (dryL r n) 4 = dryL r n := upd_self _ _ _
    have e3 : upd r 4 (dryL r n) 3 = r 3 := rfl
    unfold stO stW smW lsN onN
    rw [g, g, g, g, g', e4, e3]
  intro k
  induction k with
  | zero => show (0 : Int32) - 0 = 0; decide
  | succ k ih =>
    have e1 : smS r (k + 1) = smS r k + (if g5 r k 0 = 1 ∨ g5 r k 0 = 4 then stO r k else 0) := rfl
    have e2 : smS (upd r 4 (dryL r n)) (k + 1) = smS (upd r 4 (dryL r n)) k + (if g5 (upd r 4 (dryL r n)) k 0 = 1 ∨ g5 (upd r 4 (dryL r n)) k 0 = 4 then stO (upd r 4 (dryL r n)) k else 0) := rfl
    have e3 : hmN r n (k + 1) = hmN r n k + (if g5 r k 0 = 1 ∨ g5 r k 0 = 4 then stO r k - stW r k (g5 r k 2) (dryL r n) else 0) := rfl
    rw [e1, e2, e3, sub_sum, ih, g, ho]
    split <;> rfl
theorem en_w {r : Nat → Int32} (hI : Inv r) {i q : Nat} (hi : i < 10) (hq : q ≤ 20) : enT r q i = decide (nI (wvN (upd r (8 + 6 * i + 5) (nI q)) (nP r)) = 0) := by
  have hI2 := Inv_wx hI (n := i) (d := nI q) hi (rgN (by omega) (by omega) (by omega))
  unfold enT
  rw [wv_eq hI2, sm_nP (Sm.upd_w hi)]
/-! shelves that are kept anew -/
theorem up_self {f : Nat → Option Nat} {m : Nat} {o : Option Nat} : va_up f m o m = o := by unfold va_up; rw [if_pos rfl]
theorem up_ne {f : Nat → Option Nat} {m k : Nat} {o : Option Nat} (h : k ≠ m) : va_up f m o k = f k := by unfold va_up; rw [if_neg h]
theorem InvR_k {kp so sz : Nat → Int32} (h : InvR kp so sz) {m : Nat} {v : Int32} (hv : rg v 0 2) : InvR (upd kp m v) so sz := fun n hn => by
  refine ⟨(h n hn).1, (h n hn).2.1, ?_⟩
  by_cases c : n = m
  · subst c; rw [upd_self]; exact hv
  · rw [upd_ne _ _ c]; exact (h n hn).2.2
theorem ShG_keep0 {d : Nat → ClassId} {G : zG} {qt qr : Nat → Option Nat} {kp so sz el pr ts : Nat → Int32} (h : ShG d G qt qr kp so sz el pr ts) (m : Nat) : ShG d G (va_up qt m none) (va_up qr m none) (upd kp m 0) so sz el pr ts := by
  refine ⟨InvR_k h.1 ⟨by decide, by decide⟩, fun n hn => ?_⟩
  by_cases c : n = m
  · subst c; rw [upd_self, up_self, up_self]; exact Or.inl ⟨rfl, rfl, rfl⟩
  · rw [upd_ne _ _ c, up_ne c, up_ne c]; exact h.2 n hn
theorem ShG_keep1 {d : Nat → ClassId} {G : zG} {qt qr : Nat → Option Nat} {kp so sz el pr ts : Nat → Int32} (h : ShG d G qt qr kp so sz el pr ts) (m : Nat) {q : Nat} {v0 v1 v2 v3 v4 v5 : Int32} (hq : G q = some (ceT v0 v1 v2 v3 v4 v5)) : ShG d G (va_up qt m (some q)) (va_up qr m none) (upd kp m 1) so sz el (upd pr m (prK v1 v4)) (upd ts m (tsK v0 v1 v4)) := by
  refine ⟨InvR_k h.1 ⟨by decide, by decide⟩, fun n hn => ?_⟩
  by_cases c : n = m
  · subst c; rw [upd_self, up_self, up_self, upd_self, upd_self]; exact Or.inr (Or.inl ⟨rfl, rfl, q, v0, v1, v2, v3, v4, v5, rfl, hq, rfl, rfl⟩)
  · rw [upd_ne _ _ c, up_ne c, up_ne c, upd_ne _ _ c, upd_ne _ _ c]; exact h.2 n hn
theorem g65_s {r : Nat → Int32} {k n : Nat} {v : Int32} (h : k < 8) : g6 (upd r k v) n 5 = g6 r n 5 := upd_ne _ _ (by omega)
