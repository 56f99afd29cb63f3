/-! the library's methods on the texts -/
def tlS (i : Nat) : Int32 := Int32.ofNat (lenS.getD i 0)
def chS (i j : Nat) : Int32 := (bytS.getD i []).getD j 0
theorem chS_and : ∀ i, i < 7 → ∀ j, j < lenS.getD i 0 → ((chS i j &&& 255).toUInt32 % 65536).toInt32 = chS i j := by decide +kernel
theorem chS_in : ∀ i, i < 7 → ∀ j, j < lenS.getD i 0 → (¬ (nI j < 0 ∨ lenS.getD i 0 ≤ (nI j).toNatClampNeg)) ∧ ¬ nI j < 0 ∧ nI j < tlS i ∧ (nI j).toNatClampNeg = j ∧ narrow .char (.int (chS i j)) = .int (chS i j) := by decide +kernel
theorem tlS_shr (i : Nat) : tlS i >>> ((0 : Int32) &&& 31) = tlS i := by
  rw [show ((0 : Int32) &&& 31) = 0 from rfl]
  exact Int32.shiftRight_zero
theorem vm_J0_isEmpty : zVm yJ0_isEmpty_aae02 cJ0_isEmpty_aae02 1 (some FieldType.boolean) 0 := ⟨m_co_J0_isEmpty_aae02, m_in_RJ0, ⟨m_im_J0_isEmpty_aae02, m_se_J0_J0_isEmpty_aae02⟩, by decide +kernel, by decide +kernel, by decide +kernel⟩
theorem vm_J0_length : zVm yJ0_length_8abf5 cJ0_length_8abf5 1 (some FieldType.int) 0 := ⟨m_co_J0_length_8abf5, m_in_RJ0, ⟨m_im_J0_length_8abf5, m_se_J0_J0_length_8abf5⟩, by decide +kernel, by decide +kernel, by decide +kernel⟩
theorem vm_J0_charAt : zVm yJ0_charAt_5068e cJ0_charAt_5068e 2 (some FieldType.char) 1 := ⟨m_co_J0_charAt_5068e, m_in_RJ0, ⟨m_im_J0_charAt_5068e, m_se_J0_J0_charAt_5068e⟩, by decide +kernel, by decide +kernel, by decide +kernel⟩
theorem vm_J0_coder : zVm yJ0_coder_7d493 cJ0_coder_7d493 1 (some FieldType.byte) 0 := ⟨m_co_J0_coder_7d493, m_in_RJ0, ⟨m_im_J0_coder_7d493, m_se_J0_J0_coder_7d493⟩, by decide +kernel, by decide +kernel, by decide +kernel⟩
theorem vm_J0_isLatin1 : zVm yJ0_isLatin1_aae02 cJ0_isLatin1_aae02 1 (some FieldType.boolean) 0 := ⟨m_co_J0_isLatin1_aae02, m_in_RJ0, ⟨m_im_J0_isLatin1_aae02, m_se_J0_J0_isLatin1_aae02⟩, by decide +kernel, by decide +kernel, by decide +kernel⟩
theorem vm_J0_checkIndex : zSm yJ0_checkIndex_df160 cJ0_checkIndex_df160 2 none 2 := ⟨m_co_J0_checkIndex_df160, m_in_RJ0, m_st_J0_checkIndex_df160, by decide +kernel, by decide +kernel, by decide +kernel⟩
theorem vm_J1_charAt : zSm yJ1_charAt_3b067 cJ1_charAt_3b067 2 (some FieldType.char) 2 := ⟨m_co_J1_charAt_3b067, m_in_RJ1, m_st_J1_charAt_3b067, by decide +kernel, by decide +kernel, by decide +kernel⟩
theorem vm_J3_checkIndex : zSm yJ3_checkIndex_8e157 cJ3_checkIndex_8e157 3 (some FieldType.int) 3 := ⟨m_co_J3_checkIndex_8e157, m_in_RJ3, m_st_J3_checkIndex_8e157, by decide +kernel, by decide +kernel, by decide +kernel⟩
theorem c_J0_isEmpty (l : Launch) (E : zE) (A : Nat → Prop) (i : Nat) (hi : i < 7) : Met l yJ0_isEmpty_aae02 (.code yJ0_isEmpty_aae02 cJ0_isEmpty_aae02 1 (some FieldType.boolean) :: AllW) (rm0' 0 0) (zPc E A (fun _ => True) [.ref (aS E i)]) (rQ (.int (bI (decide (tlS i = 0))))) 0 0 nF := by
  refine z_bodyc (own := RJ0) (by decide) rfl rfl ?_
  intro p e s m args below meth c ls cx hr hlk hnm hW hCE hl
  have hx := cx.x
  have hb := cx.b
  have hl : lv_has ls 1 [(0, .ref (aS E i))] := hl
  obtain ⟨hO, hCo, hVa, hTt⟩ := hCE.1.1 i hi
  refine lv_aload_n (pc := 0) hx hb dJ0_isEmpty_aae02_0 rfl (lv_at hl 0 rfl) ?_
  refine vk_getf (pc := 1) hx hb hVa va_S.rf cx.own (cx.ts _ m_fl_J0_9) (fun _ h => h) dJ0_isEmpty_aae02_1 ?_
  refine va_tlen (pc := 4) (v := tlS i) hx hb hTt va_S.rf rfl dJ0_isEmpty_aae02_4 ?_
  refine lv_if_ne (pc := 5) (tgt := 12) hx hb dJ0_isEmpty_aae02_5 (by decide) (fun c1 => ?_) (fun c1 => ?_)
  · refine lv_iconst (pc := 12) (v := 0) hx hb dJ0_isEmpty_aae02_12 (by decide) ?_
    exact z_zret cx hr hlk dJ0_isEmpty_aae02_13 (by rw [decide_eq_false c1]; rfl)
  · refine lv_iconst (pc := 8) (v := 1) hx hb dJ0_isEmpty_aae02_8 (by decide) ?_
    refine lv_goto (pc := 9) (tgt := 13) hx hb dJ0_isEmpty_aae02_9 (by decide) ?_
    exact z_zret cx hr hlk dJ0_isEmpty_aae02_13 (by rw [decide_eq_true c1]; rfl)
theorem c_J0_coder (l : Launch) (E : zE) (A : Nat → Prop) (i : Nat) (hi : i < 7) : Met l yJ0_coder_7d493 (.code yJ0_coder_7d493 cJ0_coder_7d493 1 (some FieldType.byte) :: AllW) (rm0' 0 0) (zPc E A (fun _ => True) [.ref (aS E i)]) (rQ (.int 0)) 0 0 nF := by
  refine z_bodyc (own := RJ0) (by decide) rfl rfl ?_
  intro p e s m args below meth c ls cx hr hlk hnm hW hCE hl
  have hx := cx.x
  have hb := cx.b
  have hl : lv_has ls 1 [(0, .ref (aS E i))] := hl
  obtain ⟨hO, hCo, hVa, hTt⟩ := hCE.1.1 i hi
  refine va_gets (pc := 0) hx hb hCE.2.2.1 va_S.rf cx.own (cx.ts _ m_fl_J0_38) (fun _ h => h) dJ0_coder_7d493_0 ?_
  refine lv_if_eq (pc := 3) (tgt := 13) hx hb dJ0_coder_7d493_3 (by decide) (fun c => absurd c (by decide)) (fun _ => ?_)
  refine lv_aload_n (pc := 6) hx hb dJ0_coder_7d493_6 rfl (lv_at hl 0 rfl) ?_
  refine vk_getf (pc := 7) hx hb hCo va_S.rf cx.own (cx.ts _ m_fl_J0_15) (fun _ h => h) dJ0_coder_7d493_7 ?_
  refine lv_goto (pc := 10) (tgt := 14) hx hb dJ0_coder_7d493_10 (by decide) ?_
  exact W.zret hx hb hr rfl (fun t ht _ => ⟨rfl, ht⟩) (fun _ h => by cases h) dJ0_coder_7d493_14 hlk
theorem c_J0_isLatin1 (l : Launch) (E : zE) (A : Nat → Prop) (i : Nat) (hi : i < 7) : Met l yJ0_isLatin1_aae02 (.code yJ0_isLatin1_aae02 cJ0_isLatin1_aae02 1 (some FieldType.boolean) :: AllW) (rm0' 0 0) (zPc E A (fun _ => True) [.ref (aS E i)]) (rQ (.int (bI true))) 0 0 nF := by
  refine z_bodyc (own := RJ0) (by decide) rfl rfl ?_
  intro p e s m args below meth c ls cx hr hlk hnm hW hCE hl
  have hx := cx.x
  have hb := cx.b
  have hl : lv_has ls 1 [(0, .ref (aS E i))] := hl
  obtain ⟨hO, hCo, hVa, hTt⟩ := hCE.1.1 i hi
  refine va_gets (pc := 0) hx hb hCE.2.2.1 va_S.rf cx.own (cx.ts _ m_fl_J0_38) (fun _ h => h) dJ0_isLatin1_aae02_0 ?_
  refine lv_if_eq (pc := 3) (tgt := 17) hx hb dJ0_isLatin1_aae02_3 (by decide) (fun c => absurd c (by decide)) (fun _ => ?_)
  refine lv_aload_n (pc := 6) hx hb dJ0_isLatin1_aae02_6 rfl (lv_at hl 0 rfl) ?_
  refine vk_getf (pc := 7) hx hb hCo va_S.rf cx.own (cx.ts _ m_fl_J0_15) (fun _ h => h) dJ0_isLatin1_aae02_7 ?_
  refine lv_if_ne (pc := 10) (tgt := 17) hx hb dJ0_isLatin1_aae02_10 (by decide) (fun c => (c rfl).elim) (fun _ => ?_)
  refine lv_iconst (pc := 13) (v := 1) hx hb dJ0_isLatin1_aae02_13 (by decide) ?_
  refine lv_goto (pc := 14) (tgt := 18) hx hb dJ0_isLatin1_aae02_14 (by decide) ?_
  exact z_zret cx hr hlk dJ0_isLatin1_aae02_18 rfl
theorem c_J0_length (l : Launch) (E : zE) (A : Nat → Prop) (i : Nat) (hi : i < 7) : Met l yJ0_length_8abf5 (.code yJ0_length_8abf5 cJ0_length_8abf5 1 (some FieldType.int) :: AllW) (rm0' 1 20) (zPc E A (fun _ => True) [.ref (aS E i)]) (rQ (.int (tlS i))) 0 0 nF := by
  refine z_bodyc (own := RJ0) (by decide) rfl rfl ?_
  intro p e s m args below meth c ls cx hr hlk hnm hW hCE hl
  have hx := cx.x
  have hb := cx.b
  have hl : lv_has ls 1 [(0, .ref (aS E i))] := hl
  obtain ⟨hO, hCo, hVa, hTt⟩ := hCE.1.1 i hi
  refine lv_aload_n (pc := 0) hx hb dJ0_length_8abf5_0 rfl (lv_at hl 0 rfl) ?_
  refine vk_getf (pc := 1) hx hb hVa va_S.rf cx.own (cx.ts _ m_fl_J0_9) (fun _ h => h) dJ0_length_8abf5_1 ?_
  refine va_tlen (pc := 4) (v := tlS i) hx hb hTt va_S.rf rfl dJ0_length_8abf5_4 ?_
  refine lv_aload_n (pc := 5) hx hb dJ0_length_8abf5_5 rfl (lv_at hl 0 rfl) ?_
  refine z_callVc (pc := 6) cx hCE vm_J0_coder (c_J0_coder l E A i hi) (vk_recv hCE.1 hi va_S.rf) trivial m_ml_J0_335 ⟨rfl, rfl⟩ ⟨Nat.le_of_ble_eq_true rfl, Nat.le_of_ble_eq_true rfl⟩ rfl hl.1 rfl (by simp [Value.category]) dJ0_length_8abf5_6 ⟨Nat.le_refl _, Nat.le_refl _⟩ ?_
  refine lv_ishr (pc := 9) hx hb dJ0_length_8abf5_9 ?_
  exact z_iret cx hr hlk dJ0_length_8abf5_10 (tlS_shr i)
theorem c_J3_checkIndex (l : Launch) (E : zE) (x n : Int32) (f : Nat) (h1 : ¬ x < 0) (h2 : x < n) : Met l yJ3_checkIndex_8e157 (.code yJ3_checkIndex_8e157 cJ3_checkIndex_8e157 3 (some FieldType.int) :: AllW) (rm0' 0 0) (zP E (fun _ => True) [.int x, .int n, .ref f]) (rQ (.int x)) 0 0 nF := by
  refine z_body (own := RJ3) (by decide) rfl rfl ?_
  intro p e s m args below meth c ls cx hr hlk hnm hW hl
  have hx := cx.x
  have hb := cx.b
  have hl : lv_has ls 3 [(0, .int x), (1, .int n), (2, .ref f)] := hl
  refine lv_iload_n (pc := 0) hx hb dJ3_checkIndex_8e157_0 rfl (lv_at hl 0 rfl) ?_
  refine lv_if_lt (pc := 1) (tgt := 9) hx hb dJ3_checkIndex_8e157_1 (by decide) (fun c1 => absurd c1 h1) (fun _ => ?_)
  refine lv_iload_n (pc := 4) hx hb dJ3_checkIndex_8e157_4 rfl (lv_at hl 0 rfl) ?_
  refine lv_iload_n (pc := 5) hx hb dJ3_checkIndex_8e157_5 rfl (lv_at hl 1 rfl) ?_
  refine lv_icmp_lt (pc := 6) (tgt := 16) hx hb dJ3_checkIndex_8e157_6 (by decide) (fun _ => ?_) (fun c1 => absurd h2 c1)
  refine lv_iload_n (pc := 16) hx hb dJ3_checkIndex_8e157_16 rfl (lv_at hl 0 rfl) ?_
  exact z_iret cx hr hlk dJ3_checkIndex_8e157_17 rfl
theorem c_J3_checkIndexN (l : Launch) (E : zE) (x n : Int32) (h1 : ¬ x < 0) (h2 : x < n) : Met l yJ3_checkIndex_8e157 (.code yJ3_checkIndex_8e157 cJ3_checkIndex_8e157 3 (some FieldType.int) :: AllW) (rm0' 0 0) (zP E (fun _ => True) [.int x, .int n, .null]) (rQ (.int x)) 0 0 nF := by
  refine z_body (own := RJ3) (by decide) rfl rfl ?_
  intro p e s m args below meth c ls cx hr hlk hnm hW hl
  have hx := cx.x
  have hb := cx.b
  have hl : lv_has ls 3 [(0, .int x), (1, .int n), (2, .null)] := hl
  refine lv_iload_n (pc := 0) hx hb dJ3_checkIndex_8e157_0 rfl (lv_at hl 0 rfl) ?_
  refine lv_if_lt (pc := 1) (tgt := 9) hx hb dJ3_checkIndex_8e157_1 (by decide) (fun c1 => absurd c1 h1) (fun _ => ?_)
  refine lv_iload_n (pc := 4) hx hb dJ3_checkIndex_8e157_4 rfl (lv_at hl 0 rfl) ?_
  refine lv_iload_n (pc := 5) hx hb dJ3_checkIndex_8e157_5 rfl (lv_at hl 1 rfl) ?_
  refine lv_icmp_lt (pc := 6) (tgt := 16) hx hb dJ3_checkIndex_8e157_6 (by decide) (fun _ => ?_) (fun c1 => absurd h2 c1)
  refine lv_iload_n (pc := 16) hx hb dJ3_checkIndex_8e157_16 rfl (lv_at hl 0 rfl) ?_
  exact z_iret cx hr hlk dJ3_checkIndex_8e157_17 rfl
theorem c_J0_checkIndex (l : Launch) (E : zE) (A : Nat → Prop) (x n : Int32) (h1 : ¬ x < 0) (h2 : x < n) : Met l yJ0_checkIndex_df160 (.code yJ0_checkIndex_df160 cJ0_checkIndex_df160 2 none :: AllW) (rm0' 1 22) (zPc E A (fun _ => True) [.int x, .int n]) (fun _ st o t => o = .returned none ∧ t.heap = st.heap) 0 0 nF := by
  refine z_bodyc (own := RJ0) (by decide) rfl rfl ?_
  intro p e s m args below meth c ls cx hr hlk hnm hW hCE hl
  have hx := cx.x
  have hb := cx.b
  have hl : lv_has ls 2 [(0, .int x), (1, .int n)] := hl
  refine lv_iload_n (pc := 0) hx hb dJ0_checkIndex_df160_0 rfl (lv_at hl 0 rfl) ?_
  refine lv_iload_n (pc := 1) hx hb dJ0_checkIndex_df160_1 rfl (lv_at hl 1 rfl) ?_
  rcases hCE.2.2.2.1 with hz | ⟨t0, hz⟩
  · refine va_gets (pc := 2) hx hb hz va_S.rf cx.own (cx.ts _ m_fl_J0_1053) (fun _ h => h) dJ0_checkIndex_df160_2 ?_
    refine z_callS (pc := 5) cx vm_J3_checkIndex (c_J3_checkIndexN l E x n h1 h2) trivial m_ml_J0_1059 ⟨rfl, rfl⟩ ⟨Nat.le_of_ble_eq_true rfl, Nat.le_of_ble_eq_true rfl⟩ rfl hl.1 rfl (by simp [Value.category]) dJ0_checkIndex_df160_5 ⟨Nat.le_refl _, Nat.le_refl _⟩ ?_
    refine lv_pop (pc := 8) hx hb dJ0_checkIndex_df160_8 rfl ?_
    exact W.vret hx hb hr (fun t ht _ => ⟨rfl, ht⟩) (fun _ h => by cases h) dJ0_checkIndex_df160_9 hlk
  · refine va_gets (pc := 2) hx hb hz va_S.rf cx.own (cx.ts _ m_fl_J0_1053) (fun _ h => h) dJ0_checkIndex_df160_2 ?_
    refine z_callS (pc := 5) cx vm_J3_checkIndex (c_J3_checkIndex l E x n _ h1 h2) trivial m_ml_J0_1059 ⟨rfl, rfl⟩ ⟨Nat.le_of_ble_eq_true rfl, Nat.le_of_ble_eq_true rfl⟩ rfl hl.1 rfl (by simp [Value.category]) dJ0_checkIndex_df160_5 ⟨Nat.le_refl _, Nat.le_refl _⟩ ?_
    refine lv_pop (pc := 8) hx hb dJ0_checkIndex_df160_8 rfl ?_
    exact W.vret hx hb hr (fun t ht _ => ⟨rfl, ht⟩) (fun _ h => by cases h) dJ0_checkIndex_df160_9 hlk
theorem c_J1_charAt (l : Launch) (E : zE) (A : Nat → Prop) (i j : Nat) (hi : i < 7) (hj : j < lenS.getD i 0) : Met l yJ1_charAt_3b067 (.code yJ1_charAt_3b067 cJ1_charAt_3b067 2 (some FieldType.char) :: AllW) (rm0' 2 43) (zPc E A (fun _ => True) [.ref (aV E i), .int (nI j)]) (rQ (.int (chS i j))) 0 0 nF := by
  refine z_bodyc (own := RJ1) (by decide) rfl rfl ?_
  intro p e s m args below meth c ls cx hr hlk hnm hW hCE hl
  have hx := cx.x
  have hb := cx.b
  have hl : lv_has ls 2 [(0, .ref (aV E i)), (1, .int (nI j))] := hl
  obtain ⟨hO, hCo, hVa, hTt⟩ := hCE.1.1 i hi
  obtain ⟨hin, h1, h2, h3, h4⟩ := chS_in i hi j hj
  refine lv_iload_n (pc := 0) hx hb dJ1_charAt_3b067_0 rfl (lv_at hl 1 rfl) ?_
  refine lv_aload_n (pc := 1) hx hb dJ1_charAt_3b067_1 rfl (lv_at hl 0 rfl) ?_
  refine va_tlen (pc := 2) (v := tlS i) hx hb hTt va_S.rf rfl dJ1_charAt_3b067_2 ?_
  refine z_callSc (pc := 3) cx hCE vm_J0_checkIndex (c_J0_checkIndex l E A (nI j) (tlS i) h1 h2) trivial m_ml_J1_9 ⟨rfl, rfl⟩ ⟨Nat.le_of_ble_eq_true rfl, Nat.le_of_ble_eq_true rfl⟩ rfl hl.1 rfl (by simp [Value.category]) dJ1_charAt_3b067_3 ⟨Nat.le_refl _, Nat.le_refl _⟩ ?_
  refine lv_aload_n (pc := 6) hx hb dJ1_charAt_3b067_6 rfl (lv_at hl 0 rfl) ?_
  refine lv_iload_n (pc := 7) hx hb dJ1_charAt_3b067_7 rfl (lv_at hl 1 rfl) ?_
  refine va_tb (pc := 8) (v := .int (chS i j)) hx hb hTt va_S.rf hin (by rw [h3]; rfl) dJ1_charAt_3b067_8 ?_
  refine lv_sipush (pc := 9) (v := 255) hx hb dJ1_charAt_3b067_9 (by decide) ?_
  refine lv_iand (pc := 12) hx hb dJ1_charAt_3b067_12 ?_
  refine lv_i2c (pc := 13) hx hb dJ1_charAt_3b067_13 (chS_and i hi j hj) ?_
  exact W.zret hx hb hr h4 (fun t ht _ => ⟨rfl, ht⟩) (fun _ h => by cases h) dJ1_charAt_3b067_14 hlk
theorem c_J0_charAt (l : Launch) (E : zE) (A : Nat → Prop) (i j : Nat) (hi : i < 7) (hj : j < lenS.getD i 0) : Met l yJ0_charAt_5068e (.code yJ0_charAt_5068e cJ0_charAt_5068e 2 (some FieldType.char) :: AllW) (rm0' 3 64) (zPc E A (fun _ => True) [.ref (aS E i), .int (nI j)]) (rQ (.int (chS i j))) 0 0 nF := by
  refine z_bodyc (own := RJ0) (by decide) rfl rfl ?_
  intro p e s m args below meth c ls cx hr hlk hnm hW hCE hl
  have hx := cx.x
  have hb := cx.b
  have hl : lv_has ls 2 [(0, .ref (aS E i)), (1, .int (nI j))] := hl
  obtain ⟨hO, hCo, hVa, hTt⟩ := hCE.1.1 i hi
  obtain ⟨hin, h1, h2, h3, h4⟩ := chS_in i hi j hj
  refine lv_aload_n (pc := 0) hx hb dJ0_charAt_5068e_0 rfl (lv_at hl 0 rfl) ?_
  refine z_callVc (pc := 1) cx hCE vm_J0_isLatin1 (c_J0_isLatin1 l E A i hi) (vk_recv hCE.1 hi va_S.rf) trivial m_ml_J0_492 ⟨rfl, rfl⟩ ⟨Nat.le_of_ble_eq_true rfl, Nat.le_of_ble_eq_true rfl⟩ rfl hl.1 rfl (by simp [Value.category]) dJ0_charAt_5068e_1 ⟨Nat.le_refl _, Nat.le_refl _⟩ ?_
  refine z_ifeq (pc := 4) (tgt := 16) hx hb dJ0_charAt_5068e_4 (by decide) (fun c => absurd c (by decide)) (fun _ => ?_)
  refine lv_aload_n (pc := 7) hx hb dJ0_charAt_5068e_7 rfl (lv_at hl 0 rfl) ?_
  refine vk_getf (pc := 8) hx hb hVa va_S.rf cx.own (cx.ts _ m_fl_J0_9) (fun _ h => h) dJ0_charAt_5068e_8 ?_
  refine lv_iload_n (pc := 11) hx hb dJ0_charAt_5068e_11 rfl (lv_at hl 1 rfl) ?_
  refine z_callSc (pc := 12) (Ov := some (.int (chS i j))) cx hCE vm_J1_charAt (c_J1_charAt l E A i j hi hj) trivial m_ml_J0_495 ⟨rfl, rfl⟩ ⟨Nat.le_of_ble_eq_true rfl, Nat.le_of_ble_eq_true rfl⟩ rfl hl.1 rfl (by simp [Value.category]) dJ0_charAt_5068e_12 ⟨Nat.le_refl _, Nat.le_refl _⟩ ?_
  exact W.zret hx hb hr h4 (fun t ht _ => ⟨rfl, ht⟩) (fun _ h => by cases h) dJ0_charAt_5068e_15 hlk
