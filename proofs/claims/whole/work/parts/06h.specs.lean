/-! calls that write: answer and row -/
section ZM2
variable {p : Program} {l : Launch} {e : Env} {R : Room} {s : State} {m : MethodId} {args : Array Value} {below : List Frame} {meth : Method} {c : Code} {H H0 : Heap} {locs : List Loc} {cells slots : Nat} {Q : State → Prop}
variable {cc : ByteArray} {pc : Nat} {ls : Array Slot} {rest st0 : List Value} {E : zE} {own : String} {nL : Nat} {F : Nat → Prop}
theorem z_wlret {Pq : Heap → Option Value → Heap → Prop} {x : Int64} (cx : Cx E p s args m c own cc nL) (hr : meth.sig.returnType = some .long) (hlk : meth.locks = false) (hdg : decode cc pc = .ok (.lreturn, 1)) (hS : va_S F s.heap H locs) (hq : Pq s.heap (some (.long x)) H) : W p l e R s m args below meth c H locs cells slots (MQ below (zQ Pq F) args s cells slots F) (F0 m pc ls [.long x]) :=
  W.lret cx.x cx.b hr (fun t ht _ => ⟨⟨_, rfl, by rw [ht]; exact hq⟩, hS.F ht⟩) hS.2.2 hdg hlk
end ZM2
def waxR (sv : Nat → Int32) (x n : Int32) : Int32 := if isPc sv x = true ∧ inL n 0 20 = true then g6 sv (iN x) 5 else -1
def waxS (sv : Nat → Int32) (x n : Int32) : Nat → Int32 := if isPc sv x = true ∧ inL n 0 20 = true then upd sv (8 + 6 * iN x + 5) n else sv
def handR (sv : Nat → Int32) (x : Int32) : Int32 := if x = -1 ∨ isPc sv x = true then sv 3 else -1000000001
def handS (sv : Nat → Int32) (x : Int32) : Nat → Int32 := if x = -1 then upd sv 3 (-4) else if isPc sv x = true then upd sv 3 x else sv
def setR (sv : Nat → Int32) (w n : Int32) : Int32 := if isVl w n = true then sv (4 + iN w) else -1000000001
def setS (sv : Nat → Int32) (w n : Int32) : Nat → Int32 := if isVl w n = true then upd sv (4 + iN w) n else sv
theorem isVl_nat {w n : Int32} (h : isVl w n = true) : ∃ k, k < 4 ∧ w = nI k := by
  unfold isVl at h
  split at h
  · rename_i e; exact ⟨0, by omega, e⟩
  · split at h
    · rename_i e; exact ⟨1, by omega, e⟩
    · split at h
      · rename_i e; exact ⟨2, by omega, e⟩
      · simp only [Bool.and_eq_true, decide_eq_true_eq] at h
        exact ⟨3, by omega, h.1⟩
theorem ix4 (k : Nat) : (4 : Int32) + nI k = nI (4 + k) := by rw [← nI_add]; rfl
def askR (sv : Nat → Int32) (f st : Int32) : Int32 := if inL f 1 1200 = true ∧ inL st 1 99 = true then (if sv 2 = 24 then -2 else if sv 1 = 0 then -3 else sv 2 + 1) else -1
def askX (sv : Nat → Int32) (f st : Int32) (h : Bool) : Nat → Int32 := upd (upd (upd sv (103 + 18 * nA sv) f) (103 + 18 * nA sv + 1) st) (103 + 18 * nA sv + 2) (bI h)
def askS (sv : Nat → Int32) (f st : Int32) (h : Bool) : Nat → Int32 := if inL f 1 1200 = true ∧ inL st 1 99 = true then (if sv 2 = 24 then sv else if sv 1 = 0 then sv else upd (ntA (askX sv f st h) (winA (askX sv f st h)) (103 + 18 * nA sv + 3) 15) 2 (sv 2 + 1)) else sv
def cpA (f g : Nat → Int32) (i : Nat) : Nat → Int32 := fun j => if j < i then f j else g j
theorem cpA_0 (f g : Nat → Int32) : cpA f g 0 = g := by funext j; unfold cpA; rw [if_neg (by omega)]
theorem cpA_s (f g : Nat → Int32) (i : Nat) : upd (cpA f g i) i (f i) = cpA f g (i + 1) := by
  funext j
  unfold upd cpA
  by_cases h : j = i
  · subst h; rw [if_pos rfl, if_pos (by omega)]
  · rw [if_neg h]
    by_cases h2 : j < i
    · rw [if_pos h2, if_pos (by omega)]
    · rw [if_neg h2, if_neg (by omega)]
def restR (sv im : Nat → Int32) (ig : Bool) : Int32 := if ig = true then im 2 else -3
def restS (sv im : Nat → Int32) (ig : Bool) : Nat → Int32 := if ig = true then cpA im sv 535 else sv
def tsV (sv : Nat → Int32) (n : Nat) : Int32 := if g5 sv n 0 = 3 ∨ g5 sv n 3 = 0 then -15 else if g5 sv n 0 = 4 then 100 + nI n else if g5 sv n 0 = 7 then 200 + prO sv n else nI n
def keepO (sv : Nat → Int32) (d w x : Int32) : Bool := inL d 0 7 && (decide (w = 0) || (decide (w = 1) && isTh sv x))
def keepR (sv : Nat → Int32) (d w x : Int32) : Int32 := if keepO sv d w x = true then 0 else -1
def keepK (sv kp : Nat → Int32) (d w x : Int32) : Nat → Int32 := if keepO sv d w x = true then upd kp (iN d) w else kp
def keepP (sv pr : Nat → Int32) (d w x : Int32) : Nat → Int32 := if keepO sv d w x = true ∧ w = 1 then upd pr (iN d) (prO sv (iN x)) else pr
def keepT (sv ts : Nat → Int32) (d w x : Int32) : Nat → Int32 := if keepO sv d w x = true ∧ w = 1 then upd ts (iN d) (tsV sv (iN x)) else ts
def rowR (d o n : Int32) : Int32 := if inL d 0 7 = true ∧ inL o 0 2 = true ∧ n ≤ 100 then (if 0 ≤ n then 0 else -14) else -1
def rowO (d o n : Int32) : Bool := inL d 0 7 && inL o 0 2 && decide (n ≤ 100) && decide (0 ≤ n)
def zeA (f : Nat → Int32) (b i : Nat) : Nat → Int32 := fun j => if b ≤ j ∧ j < b + i then 0 else f j
theorem zeA_0 (f : Nat → Int32) (b : Nat) : zeA f b 0 = f := by funext j; unfold zeA; rw [if_neg (by omega)]
theorem zeA_s (f : Nat → Int32) (b i : Nat) : upd (zeA f b i) (b + i) 0 = zeA f b (i + 1) := by
  funext j
  unfold upd zeA
  by_cases h : j = b + i
  · subst h; rw [if_pos rfl, if_pos (by omega)]
  · rw [if_neg h]
    by_cases h2 : b ≤ j ∧ j < b + i
    · rw [if_pos h2, if_pos (by omega)]
    · rw [if_neg h2, if_neg (by omega)]
def rowK (kp : Nat → Int32) (d o n : Int32) : Nat → Int32 := if rowO d o n = true then upd kp (iN d) 2 else kp
def rowS (so : Nat → Int32) (d o n : Int32) : Nat → Int32 := if rowO d o n = true then upd so (iN d) o else so
def rowZ (sz : Nat → Int32) (d o n : Int32) : Nat → Int32 := if rowO d o n = true then upd sz (iN d) n else sz
def rowE (el : Nat → Int32) (d o n : Int32) : Nat → Int32 := if rowO d o n = true then zeA el (100 * iN d) 100 else el
def narV (o v : Int32) : Int32 := if o = 0 then v.toInt8.toInt32 else if o = 1 then v.toInt16.toInt32 else v
def putR (kp so sz : Nat → Int32) (d i : Int32) : Int32 := if wrR kp so d (-1) = 0 then (if inL i 0 (sz (iN d) - 1) = true then 0 else -13) else wrR kp so d (-1)
def putE (kp so sz el : Nat → Int32) (d i v : Int32) : Nat → Int32 := if wrR kp so d (-1) = 0 ∧ inL i 0 (sz (iN d) - 1) = true then upd el (100 * iN d + iN i) (narV (so (iN d)) v) else el
def elmT (kp sz : Nat → Int32) (d i : Int32) : Int32 := if inL d 0 7 = true then (if kp (iN d) = 2 ∧ inL i 0 (sz (iN d) - 1) = true then 0 else 2) else 1
def elmV (kp sz el : Nat → Int32) (d i : Int32) : Int64 := if elmT kp sz d i = 0 then (el (100 * iN d + iN i)).toInt64 else 0
theorem in_sz {z x : Int32} {N : Nat} (hz : z = nI N) (hN : N ≤ 100) (h : inL x 0 (z - 1) = true) : ∃ k, k < N ∧ x = nI k := by
  have h' := inL_rg h
  have h0 : (0 : Int32).toInt = 0 := rfl
  have h1 : (z - 1).toInt = (N : Int) - 1 := by
    rw [hz, ti_sub] <;> rw [nI_toInt (by omega)] <;> (have : (1 : Int32).toInt = 1 := rfl) <;> omega
  unfold rg at h'
  refine ⟨x.toInt.toNat, by omega, ?_⟩
  apply Int32.toInt_inj.mp
  rw [nI_toInt (by omega)]
  omega
def hairV (sv : Nat → Int32) (n : Nat) (f st d : Int32) : Int32 := sw (upd sv 7 (sv 7 + d)) n f st - sw sv n f st
def hairP (sv : Nat → Int32) (x f st d : Int32) : Int32 :=
  if isPc sv x = true ∧ inL f 1 1200 = true ∧ inL st 1 99 = true ∧ inL d (-18) 18 = true then (if inL (sv 7 + d) (-9) 9 = true then hairV sv (iN x) f st d else -1000000003) else -1000000001
theorem Inv_post {sv : Nat → Int32} (h : Inv sv) {d : Int32} (hd : rg d (-9) 9) : Inv (upd sv 7 d) := by
  obtain ⟨hC, hS, hP, hT, hA⟩ := h
  have e : ∀ j, j ≠ 7 → upd sv 7 d j = sv j := fun j hj => by unfold upd; rw [if_neg hj]
  have eP : nP (upd sv 7 d) = nP sv := by unfold nP; rw [e 0 (by decide)]
  have eT : nT (upd sv 7 d) = nT sv := by unfold nT; rw [e 1 (by decide)]
  have eA : nA (upd sv 7 d) = nA sv := by unfold nA; rw [e 2 (by decide)]
  have e6 : ∀ n k, g6 (upd sv 7 d) n k = g6 sv n k := fun n k => e _ (by omega)
  have e5 : ∀ n k, g5 (upd sv 7 d) n k = g5 sv n k := fun n k => e _ (by omega)
  refine ⟨?_, ⟨?_, ?_⟩, ?_, ?_, ?_⟩
  · unfold InvC; rw [e 0 (by decide), e 1 (by decide), e 2 (by decide)]; exact hC
  · rw [eP]
    obtain ⟨h1, h2, h3, h4, -⟩ := hS.1
    refine ⟨?_, ?_, ?_, ?_, ?_⟩
    · show upd sv 7 d 3 = -4 ∨ _
      rw [e 3 (by decide)]
      rcases h1 with h1 | ⟨n, h5, h6⟩
      · exact Or.inl h1
      · exact Or.inr ⟨n, h5, by show upd sv 7 d 3 = _; rw [e 3 (by decide)]; exact h6⟩
    · show rg (upd sv 7 d 4) _ _
      rw [e 4 (by decide)]; exact h2
    · show rg (upd sv 7 d 5) _ _
      rw [e 5 (by decide)]; exact h3
    · show rg (upd sv 7 d 6) _ _
      rw [e 6 (by decide)]; exact h4
    · show rg (upd sv 7 d 7) _ _
      unfold upd; rw [if_pos rfl]; exact hd
  · intro n hn; rw [e6]; exact hS.2 n hn
  · intro n hn; rw [eP] at hn; simp only [e6]; exact hP n hn
  · intro n hn; rw [eT] at hn; rw [eP]; simp only [e5]; exact hT n hn
  · intro i hi
    rw [eA] at hi
    obtain ⟨h1, h2, h3, h4, h5⟩ := hA i hi
    rw [eP, e _ (by omega), e _ (by omega), e _ (by omega)]
    refine ⟨h1, h2, h3, ?_, fun n hn => by rw [e _ (by omega)]; exact h5 n hn⟩
    rw [show (fun k => upd sv 7 d (103 + 18 * i + 3 + k)) = fun k => sv (103 + 18 * i + 3 + k) from funext fun k => e _ (by omega)]
    exact h4
theorem upd_back (f : Nat → Int32) (k : Nat) (v : Int32) : upd (upd f k v) k (f k) = f := by
  funext j
  unfold upd
  by_cases h : j = k
  · rw [if_pos h, h]
  · rw [if_neg h, if_neg h]
theorem upd_self (f : Nat → Int32) (k : Nat) (v : Int32) : upd f k v k = v := by unfold upd; rw [if_pos rfl]
theorem upd_upd (f : Nat → Int32) (k : Nat) (v w : Int32) : upd (upd f k v) k w = upd f k w := by
  funext j
  unfold upd
  by_cases h : j = k
  · rw [if_pos h, if_pos h]
  · rw [if_neg h, if_neg h, if_neg h]
theorem upd_ne (f : Nat → Int32) {k j : Nat} (v : Int32) (h : j ≠ k) : upd f k v j = f j := by unfold upd; rw [if_neg h]
