/-! the start: classes, arrays' classes, constants, out of what the Statement gives -/
theorem tb {w : Cond} (k : Nat) (h : tables_1[k]? = some w) : w ∈ lw_tbl := List.mem_append_right _ (List.mem_of_getElem? h)
theorem str_at {args : Array Value} {s : State} {t : Term} {C : String} (h : (Cond.exactly t C).before args s = true) : ∃ a, t.eval args s none [] s = some (.ref a) := by
  obtain ⟨a, c, cA, kA, q1, -⟩ := Cond.exactly_spec (args := args) (first := s) (o := none) (s := s) (idx := []) (t := t) (cls := C) h
  exact ⟨a, q1⟩
theorem arr_p {args : Array Value} {s : State} {ty : FieldType} (h : (Cond.arrayClass ty).before args s = true) (hn : ∀ C, ty ≠ .object C) : ∃ cA, ArrOfT s cA ty ∧ va_RA s cA ty := by
  obtain ⟨c, k, comp, h1, h2, h3⟩ := Cond.arrayClass_spec (first := s) (o := none) (idx := []) h
  refine ⟨c, fun n z => ⟨(fun k h => by cases h), k, h2, comp, h3⟩, ?_⟩
  cases ty <;> first | exact absurd rfl (hn _) | exact h1
theorem arr_o {args : Array Value} {s : State} {C : String} (h : (Cond.arrayOver (.object C)).before args s = true) : ∃ cA, ArrOfT s cA (.object C) ∧ va_RA s cA (.object C) := by
  obtain ⟨comp, c, k, h1, h2, h3, h4, h5⟩ := Cond.arrayOver_spec (first := s) (o := none) (idx := []) h
  exact ⟨c, fun n z => ⟨(fun k h => by cases h), k, h3, comp, h4⟩, k, comp, h3, h4, h1, h5⟩
theorem vk_S.as {len : List Nat} {byt : List (List Int32)} {adK adV : Nat → Nat} {A : Nat → Prop} {U : State} {H : Heap} {E : zE} (h : vk_S 7 len byt adK adV A U H) (he : ∀ i, i < 7 → aS E i = adK i ∧ aV E i = adV i) : vk_S 7 len byt (aS E) (aV E) A U H :=
  ⟨fun i hi => by rw [(he i hi).1, (he i hi).2]; exact h.1 i hi, fun i j hi hj e => h.2 i j hi hj (by rw [← (he i hi).1, ← (he j hj).1]; exact e)⟩
def sR : Nat → Nat := fun i => if i < 5 then 224 + i else 291 + i
def sTm : Nat → Term := fun i => Term.string RX3 (kS i)
set_option maxRecDepth 100000 in
theorem st_ex : ∀ i, i < 7 → Cond.exactly (sTm i) "java/lang/String" ∈ flatC (Jvm.Cond.and given_1 narrow_1) := by decide +kernel
set_option maxRecDepth 100000 in
theorem st_co : ∀ i, i < 7 → Cond.eq (.field (sTm i) "java/lang/String" "coder" "B") (.int 0) ∈ flatC (Jvm.Cond.and given_1 narrow_1) := by decide +kernel
set_option maxRecDepth 100000 in
theorem st_ar : ∀ i, i < 7 → Cond.arrayOf (.field (sTm i) "java/lang/String" "value" "[B") .byte ∈ flatC (Jvm.Cond.and given_1 narrow_1) := by decide +kernel
set_option maxRecDepth 100000 in
theorem st_le : ∀ i, i < 7 → Cond.eq (.length (.field (sTm i) "java/lang/String" "value" "[B")) (.int (Int32.ofNat (lenS.getD i 0))) ∈ flatC (Jvm.Cond.and given_1 narrow_1) := by decide +kernel
set_option maxRecDepth 100000 in
theorem st_el : ∀ i, i < 7 → ∀ j, j < lenS.getD i 0 → Cond.eq (.elem (.field (sTm i) "java/lang/String" "value" "[B") (.int (Int32.ofNat j))) (.int ((bytS.getD i []).getD j 0)) ∈ flatC (Jvm.Cond.and given_1 narrow_1) := by decide +kernel
set_option maxRecDepth 100000 in
theorem st_ne : ∀ i, i < 7 → ∀ j, j < 7 → i = j ∨ Cond.not (Cond.eq (sTm i) (sTm j)) ∈ flatC (Jvm.Cond.and given_1 narrow_1) ∨ Cond.not (Cond.eq (sTm j) (sTm i)) ∈ flatC (Jvm.Cond.and given_1 narrow_1) := by decide +kernel
set_option maxRecDepth 100000 in
theorem st_sr : ∀ i, i < 7 → tables_1[sR i]? = some (Cond.stringRef RX3 (kS i) (tS i)) := by decide +kernel
set_option maxRecDepth 100000 in
theorem st_l4 : ∀ j, j < 4 → Cond.eq (.elem (.static RX7 "LEAST_SET" "[I") (.int (Int32.ofNat j))) (.int (lstS j)) ∈ flatC (Jvm.Cond.and given_1 narrow_1) ∧ Cond.eq (.elem (.static RX7 "MOST_SET" "[I") (.int (Int32.ofNat j))) (.int (mstS j)) ∈ flatC (Jvm.Cond.and given_1 narrow_1) := by decide +kernel
set_option maxHeartbeats 4000000 in
set_option maxRecDepth 100000 in
theorem start_facts {s : State} {args : Array Value} (hts : ∀ w ∈ lw_tbl, w.before args s = true) (hgv : (Jvm.Cond.and given_1 narrow_1).before args s = true) : ∃ E : zE, KK E s ∧ CE E (FL s.heap.size) s s.heap ∧ XE E (FL s.heap.size) s s.heap := by
  have hs := flat_of_before _ hgv
  have hta : ∀ w ∈ AllW, w.before args s = true := fun w hw => hts w (aw_in w hw)
  have hA : ∀ a : Nat, a < s.heap.size → ¬ FL s.heap.size a := fun a h => Nat.not_le.mpr h
  obtain ⟨c0, p0, k0⟩ := u_known (C := RX0) (T := TX0) (N := 5) (n := 5) hta i_X0 (hta _ m_is_RX0)
  obtain ⟨c1, p1, k1⟩ := u_known (C := RX1) (T := TX1) (N := 8) (n := 8) hta i_X1 (hta _ m_is_RX1)
  obtain ⟨c2, p2, k2⟩ := u_known (C := RX2) (T := TX2) (N := 5) (n := 5) hta i_X2 (hta _ m_is_RX2)
  obtain ⟨c3, p3, k3⟩ := u_known (C := RX3) (T := TX3) (N := 8) (n := 8) hta i_X3 (hta _ m_is_RX3)
  obtain ⟨c4, p4, k4⟩ := u_known (C := RX4) (T := TX4) (N := 2) (n := 2) hta i_X4 (hta _ m_is_RX4)
  obtain ⟨c5, p5, k5⟩ := u_known (C := RX5) (T := TX5) (N := 6) (n := 6) hta i_X5 (hta _ m_is_RX5)
  obtain ⟨c6, p6, k6⟩ := u_known (C := RX6) (T := TX6) (N := 6) (n := 6) hta i_X6 (hta _ m_is_RX6)
  obtain ⟨c7, p7, k7⟩ := u_known (C := RX7) (T := TX7) (N := 11) (n := 11) hta i_X7 (hta _ m_is_RX7)
  obtain ⟨c8, p8, k8⟩ := u_known (C := RX8) (T := TX8) (N := 20) (n := 20) hta i_X8 (hta _ m_is_RX8)
  obtain ⟨dC, dI, hKc⟩ : ∃ (dC : Nat → ClassId) (dI : Nat → Nat → Nat), ∀ (k : Nat) (q : vw_C), vwCl[k]? = some q → u_Kn s q.1 q.2.1 q.2.2 (dC k) (dI k) := by
    refine ⟨fun k => [c0, c1, c2, c3, c4, c5, c6, c7, c8].getD k c0, fun k => [p0, p1, p2, p3, p4, p5, p6, p7, p8].getD k p0, ?_⟩
    intro k q hq
    match k, hq with
    | 0, hq => cases hq; exact k0
    | 1, hq => cases hq; exact k1
    | 2, hq => cases hq; exact k2
    | 3, hq => cases hq; exact k3
    | 4, hq => cases hq; exact k4
    | 5, hq => cases hq; exact k5
    | 6, hq => cases hq; exact k6
    | 7, hq => cases hq; exact k7
    | 8, hq => cases hq; exact k8
    | k + 9, hq => simp [vwCl] at hq
  obtain ⟨a0, f0, g0⟩ := arr_p (hta _ m_ac_int) (fun _ h => by cases h)
  have ao2 : (Cond.arrayOver (.object RX2)).before args s = true := hts _ (tb 72 (by decide +kernel))
  have ao6 : (Cond.arrayOver (.object RX6)).before args s = true := hts _ (tb 74 (by decide +kernel))
  have ao0 : (Cond.arrayOver (.object RX0)).before args s = true := hts _ (tb 76 (by decide +kernel))
  have ao4 : (Cond.arrayOver (.object RX4)).before args s = true := hts _ (tb 145 (by decide +kernel))
  obtain ⟨a1, f1, g1⟩ := arr_o ao2
  obtain ⟨a2, f2, g2⟩ := arr_o ao6
  obtain ⟨a3, f3, g3⟩ := arr_o ao0
  obtain ⟨a4, f4, g4⟩ := arr_o ao4
  obtain ⟨a5, f5, g5⟩ := arr_p (hta _ m_ac_long) (fun _ h => by cases h)
  obtain ⟨adK, adV, hSS, hSe⟩ := vk_Sof (args := args) (s := s) (N := 7) (tm := sTm) (len := lenS) (byt := bytS) (A := FL s.heap.size) (by decide) (fun i hi => hs _ (st_ex i hi)) (fun i hi => hs _ (st_co i hi)) (fun i hi => hs _ (st_ar i hi)) (fun i hi => hs _ (st_le i hi)) (fun i hi j hj => hs _ (st_el i hi j hj))
    (fun i j hi hj hij => (st_ne i hi j hj).elim (fun h => absurd h hij) (fun h => h.elim (fun h => Or.inl (hs _ h)) (fun h => Or.inr (hs _ h)))) hA
  obtain ⟨t15, e15, T15⟩ := va_Tof (tm := .static RX7 "LEAST_SET" "[I") (ty := .int) (N := 4) (f := fun j => .int (lstS j)) (A := FL s.heap.size) (by decide) (hs _ (by decide +kernel)) (va_eqt (hs _ (by decide +kernel))) (fun j hj => va_eqt (hs _ (st_l4 j hj).1)) hA
  obtain ⟨t16, e16, T16⟩ := va_Tof (tm := .static RX7 "MOST_SET" "[I") (ty := .int) (N := 4) (f := fun j => .int (mstS j)) (A := FL s.heap.size) (by decide) (hs _ (by decide +kernel)) (va_eqt (hs _ (by decide +kernel))) (fun j hj => va_eqt (hs _ (st_l4 j hj).2)) hA
  obtain ⟨s17, e17⟩ := str_at (t := Term.string RX6 30) (C := "java/lang/String") (hs _ (by decide +kernel))
  obtain ⟨s18, e18⟩ := str_at (t := Term.string RX6 37) (C := "java/lang/String") (hs _ (by decide +kernel))
  obtain ⟨s19, e19⟩ := str_at (t := Term.string RX6 42) (C := "java/lang/String") (hs _ (by decide +kernel))
  obtain ⟨s20, e20⟩ := str_at (t := Term.string RX7 352) (C := "java/lang/String") (hs _ (by decide +kernel))
  obtain ⟨s21, e21⟩ := str_at (t := Term.string RX7 359) (C := "java/lang/String") (hs _ (by decide +kernel))
  obtain ⟨s22, e22⟩ := str_at (t := Term.string RX7 365) (C := "java/lang/String") (hs _ (by decide +kernel))
  let E : zE := ((dC, dI), fun k => [a0, a1, a2, a3, a4, a5].getD k a0, fun k => if k < 14 then (if k % 2 = 0 then adK (k / 2) else adV (k / 2)) else [t15, t16, s17, s18, s19, s20, s21, s22].getD (k - 15) 0)
  have heS : ∀ i, i < 7 → aS E i = adK i ∧ aV E i = adV i := fun i hi => by
    refine ⟨?_, ?_⟩
    · show (if 2 * i < 14 then (if 2 * i % 2 = 0 then adK (2 * i / 2) else adV (2 * i / 2)) else _) = _
      rw [if_pos (by omega), if_pos (by omega), show 2 * i / 2 = i by omega]
    · show (if 2 * i + 1 < 14 then (if (2 * i + 1) % 2 = 0 then adK ((2 * i + 1) / 2) else adV ((2 * i + 1) / 2)) else _) = _
      rw [if_pos (by omega), if_neg (by omega), show (2 * i + 1) / 2 = i by omega]
  refine ⟨E, ⟨⟨hKc, fun k q hq => ?_⟩, va_Nw.of rfl (hts _ (tb 325 (by decide +kernel))), va_Nw.of rfl (hts _ (tb 405 (by decide +kernel))), va_Nw.of rfl (hts _ (tb 406 (by decide +kernel))), va_Nw.of rfl (hts _ (tb 408 (by decide +kernel))), va_AO.of ao2, va_AO.of ao6, va_AO.of ao0, va_AO.of ao4⟩, ⟨hSS.as heS, fun i hi => ?_, va_Zof (hts _ (tb 246 (by decide +kernel))) (hta _ m_in_RJ0) (va_eqt (hs _ (by decide +kernel))) hA, va_Zqof (hts _ (tb 262 (by decide +kernel))) (hta _ m_in_RJ3) (hs _ (by decide +kernel)) hA, va_Zof (hts _ (tb 407 (by decide +kernel))) (hta _ m_in_RX7) e15 hA, T15, va_Zof (hts _ (tb 409 (by decide +kernel))) (hta _ m_in_RX7) e16 hA, T16⟩,
    vx_Zqof (hts _ (tb 892 (by decide +kernel))) (hta _ m_in_Qjava_lang_Throwable) (hs _ (by decide +kernel)) hA, vx_Zqof (hts _ (tb 894 (by decide +kernel))) (hta _ m_in_Qjava_lang_Throwable) (hs _ (by decide +kernel)) hA,
    va_Nw.of rfl (hts _ (tb 869 (by decide +kernel))), va_Nw.of rfl (hts _ (tb 871 (by decide +kernel))), va_Nw.of rfl (hts _ (tb 873 (by decide +kernel))), va_Nw.of rfl (hts _ (tb 867 (by decide +kernel))), va_Nw.of rfl (hts _ (tb 934 (by decide +kernel))), va_Nw.of rfl (hts _ (tb 950 (by decide +kernel))), va_Nc.of (args := args) (hs _ (by decide +kernel)), va_Nc.of (args := args) (hs _ (by decide +kernel)), va_Nc.of (args := args) (hs _ (by decide +kernel)),
    vk_R.of (hts _ (tb 906 (by decide +kernel))) e17, vk_R.of (hts _ (tb 941 (by decide +kernel))) e18, vk_R.of (hts _ (tb 957 (by decide +kernel))) e19, vk_R.of (hts _ (tb 973 (by decide +kernel))) e20, vk_R.of (hts _ (tb 975 (by decide +kernel))) e21, vk_R.of (hts _ (tb 978 (by decide +kernel))) e22⟩
  · match k, hq with
    | 0, hq => cases hq; exact ⟨f0, g0⟩
    | 1, hq => cases hq; exact ⟨f1, g1⟩
    | 2, hq => cases hq; exact ⟨f2, g2⟩
    | 3, hq => cases hq; exact ⟨f3, g3⟩
    | 4, hq => cases hq; exact ⟨f4, g4⟩
    | 5, hq => cases hq; exact ⟨f5, g5⟩
    | k + 6, hq => simp [tyL] at hq
  · rw [(heS i hi).1]
    exact vk_R.of (hts _ (tb (sR i) (st_sr i hi))) (hSe i hi)
