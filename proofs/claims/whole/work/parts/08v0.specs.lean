/-! exceptions: what is known of their classes; methods that may throw -/
abbrev xU : String := "java/lang/UnsupportedOperationException"
abbrev xI : String := "java/lang/IllegalArgumentException"
abbrev xS : String := "java/lang/IllegalStateException"
abbrev xN : List String := ["java/lang/RuntimeException", "java/lang/Exception"]
abbrev xB (X : String) : List Cond := [.declares (Bundle.initS "java/lang/RuntimeException"), .declares (Bundle.initS "java/lang/Exception"), .declares (Bundle.initS "java/lang/Throwable"), .castable X X]
def XK (E : zE) (U : State) : Prop :=
  va_Nw (.declares (Bundle.initS "java/lang/RuntimeException")) U ∧ va_Nw (.declares (Bundle.initS "java/lang/Exception")) U ∧ va_Nw (.declares (Bundle.initS "java/lang/Throwable")) U ∧
  va_Nw (.castable xU xU) U ∧ va_Nw (.castable xI xI) U ∧ va_Nw (.castable xS xS) U ∧ va_Nc xI xU U ∧ va_Nc xS xU U ∧ va_Nc xS xI U ∧
  vk_R RX6 30 "the room's" (E.2.2 17) U ∧ vk_R RX6 37 "a crack's" (E.2.2 18) U ∧ vk_R RX6 42 "a loose thing's" (E.2.2 19) U ∧
  vk_R RX7 352 "no such SHELF" (E.2.2 20) U ∧ vk_R RX7 359 "no ROW" (E.2.2 21) U ∧ vk_R RX7 365 "no such place" (E.2.2 22) U
theorem XK.warm {E : zE} {u U : State} (hW : u.WarmedH U.vm) (h : XK E u) : XK E U := by
  obtain ⟨h1, h2, h3, h4, h5, h6, h7, h8, h9, g1, g2, g3, g4, g5, g6⟩ := h
  exact ⟨h1.warmD hW, h2.warmD hW, h3.warmD hW, h4.warmC hW, h5.warmC hW, h6.warmC hW, h7.moved hW.alike, h8.moved hW.alike, h9.moved hW.alike, g1.warm hW, g2.warm hW, g3.warm hW, g4.warm hW, g5.warm hW, g6.warm hW⟩
theorem XK.calling {E : zE} {U : State} {g : JFrame} {mk : MethodId} {a : Array Value} (h : XK E U) : XK E (U.calling g mk a) := by
  obtain ⟨h1, h2, h3, h4, h5, h6, h7, h8, h9, g1, g2, g3, g4, g5, g6⟩ := h
  have hv : U.vm = (U.calling g mk a).vm := rfl
  have al : U.vm.Alike (U.calling g mk a).vm := Vm.Alike.refl U.vm
  exact ⟨h1.same rfl hv, h2.same rfl hv, h3.same rfl hv, h4.same rfl hv, h5.same rfl hv, h6.same rfl hv, h7.moved al, h8.moved al, h9.moved al, g1.same rfl, g2.same rfl, g3.same rfl, g4.same rfl, g5.same rfl, g6.same rfl⟩
def XE (E : zE) (A : Nat → Prop) (U : State) (H : Heap) : Prop := vx_Zq Bundle.tN "UNASSIGNED_STACK" Bundle.steD A U H ∧ vx_Zq Bundle.tN "SUPPRESSED_SENTINEL" Bundle.listD A U H ∧ XK E U
theorem XE.warm {E : zE} {A : Nat → Prop} {u U : State} {H : Heap} (hW : u.WarmedH U.vm) (h : XE E A u H) : XE E A U H := ⟨vx_Zq.moved hW.alike h.1, vx_Zq.moved hW.alike h.2.1, h.2.2.warm hW⟩
theorem XE.calling {E : zE} {A : Nat → Prop} {U : State} {H : Heap} {g : JFrame} {mk : MethodId} {a : Array Value} (h : XE E A U H) : XE E A (U.calling g mk a) H := by
  have al : U.vm.Alike (U.calling g mk a).vm := Vm.Alike.refl U.vm
  exact ⟨vx_Zq.moved al h.1, vx_Zq.moved al h.2.1, h.2.2.calling⟩
theorem XE.kept {E : zE} {A : Nat → Prop} {U : State} {H H1 : Heap} (h : XE E A U H) (hq : ∀ a : Nat, a < H.size → ¬ A a → H1[a]? = H[a]?) : XE E A U H1 := ⟨vx_Zq.kept h.1 hq, vx_Zq.kept h.2.1 hq, h.2.2⟩
theorem XE.narrow {E : zE} {A B : Nat → Prop} {U : State} {H : Heap} (h : XE E A U H) (hAB : ∀ q, B q → A q) : XE E B U H := ⟨vx_Zq.narrow h.1 hAB, vx_Zq.narrow h.2.1 hAB, h.2.2⟩
theorem XK.B {E : zE} {U : State} {args : Array Value} (h : XK E U) {X : String} (hX : X = xU ∨ X = xI ∨ X = xS) : ∀ w ∈ xB X, w.before args U = true := by
  obtain ⟨h1, h2, h3, h4, h5, h6, -⟩ := h
  refine vx_c (h1.use rfl) (vx_c (h2.use rfl) (vx_c (h3.use rfl) (vx_c ?_ vx_n)))
  rcases hX with rfl | rfl | rfl
  · exact h4.use rfl
  · exact h5.use rfl
  · exact h6.use rfl
theorem x_names : ∀ n ∈ xN, Bundle.fit n = true := by decide +kernel
theorem x_mem {L : List Cond} {ps : List Nat} (h : L = ps.filterMap (fun i => tables_1[i]?)) : ∀ w ∈ L.filter goodWord, w ∈ AllW := by
  intro w hw
  obtain ⟨hw, hg⟩ := List.mem_filter.mp hw
  rw [h] at hw
  obtain ⟨i, -, hi⟩ := List.mem_filterMap.mp hw
  exact List.mem_filter.mpr ⟨List.mem_append_right _ (List.mem_of_getElem? hi), hg⟩
theorem x_hat {E : zE} {own X : String} {ic : Nat} {ps : List Nat} {args : Array Value} {s : State} (h : vx_atS own ic X xN = ps.filterMap (fun i => tables_1[i]?)) (hng : (vx_atS own ic X xN).filter (fun w => !goodWord w) = xB X) (ts : ∀ w ∈ AllW, w.before args s = true) (hk : XK E s) (hX : X = xU ∨ X = xI ∨ X = xS) : ∀ w ∈ vx_atS own ic X xN, w.before args s = true :=
  vx_hat (fun w hw => ts w (x_mem h w hw)) (fun w hw => by rw [hng] at hw; exact hw) (hk.B hX)
theorem xw_6U : vx_atS RX6 32 xU xN = [17, 887, 896, 900, 903, 905, 888, 889, 29, 30, 890, 895, 901, 921, 877, 922, 879, 923, 881, 891, 893, 883, 917, 918, 920, 883, 908, 909, 910, 911, 869, 911, 912, 913, 914, 871, 914, 915, 916, 917, 873, 907, 866, 867, 874, 875, 876, 878, 880, 882, 886, 885, 884].filterMap (fun i => tables_1[i]?) := by decide +kernel
theorem xn_6U : (vx_atS RX6 32 xU xN).filter (fun w => !goodWord w) = xB xU := by decide +kernel
theorem xg_6U : ∀ w ∈ Cond.classLink RX6 28 xU :: Cond.initialized xU :: vx_atS RX6 32 xU xN, vx_ot w = true := by decide +kernel
theorem xw_6I : vx_atS RX6 39 xI xN = [17, 887, 896, 900, 903, 905, 888, 889, 29, 30, 890, 895, 901, 921, 877, 922, 879, 923, 881, 891, 893, 883, 917, 918, 920, 883, 943, 944, 945, 911, 869, 911, 912, 913, 914, 871, 914, 915, 916, 917, 873, 942, 933, 934, 935, 898, 936, 937, 938, 939, 886, 885, 940].filterMap (fun i => tables_1[i]?) := by decide +kernel
theorem xn_6I : (vx_atS RX6 39 xI xN).filter (fun w => !goodWord w) = xB xI := by decide +kernel
theorem xg_6I : ∀ w ∈ Cond.classLink RX6 35 xI :: Cond.initialized xI :: vx_atS RX6 39 xI xN, vx_ot w = true := by decide +kernel
theorem xw_6S : vx_atS RX6 44 xS xN = [17, 887, 896, 900, 903, 905, 888, 889, 29, 30, 890, 895, 901, 921, 877, 922, 879, 923, 881, 891, 893, 883, 917, 918, 920, 883, 959, 960, 961, 911, 869, 911, 912, 913, 914, 871, 914, 915, 916, 917, 873, 958, 949, 950, 951, 899, 952, 953, 954, 955, 886, 885, 956].filterMap (fun i => tables_1[i]?) := by decide +kernel
theorem xn_6S : (vx_atS RX6 44 xS xN).filter (fun w => !goodWord w) = xB xS := by decide +kernel
theorem xg_6S : ∀ w ∈ Cond.classLink RX6 40 xS :: Cond.initialized xS :: vx_atS RX6 44 xS xN, vx_ot w = true := by decide +kernel
theorem xw_7I : vx_atS RX7 354 xI xN = [17, 887, 896, 900, 903, 905, 888, 889, 29, 30, 890, 895, 901, 921, 877, 922, 879, 923, 881, 891, 893, 883, 917, 918, 920, 883, 943, 944, 945, 911, 869, 911, 912, 913, 914, 871, 914, 915, 916, 917, 873, 974, 933, 934, 935, 898, 936, 937, 938, 939, 886, 885, 940].filterMap (fun i => tables_1[i]?) := by decide +kernel
theorem xn_7I : (vx_atS RX7 354 xI xN).filter (fun w => !goodWord w) = xB xI := by decide +kernel
theorem xg_7I : ∀ w ∈ Cond.classLink RX7 350 xI :: Cond.initialized xI :: vx_atS RX7 354 xI xN, vx_ot w = true := by decide +kernel
theorem xw_7S : vx_atS RX7 361 xS xN = [17, 887, 896, 900, 903, 905, 888, 889, 29, 30, 890, 895, 901, 921, 877, 922, 879, 923, 881, 891, 893, 883, 917, 918, 920, 883, 959, 960, 961, 911, 869, 911, 912, 913, 914, 871, 914, 915, 916, 917, 873, 976, 949, 950, 951, 899, 952, 953, 954, 955, 886, 885, 956].filterMap (fun i => tables_1[i]?) := by decide +kernel
theorem xn_7S : (vx_atS RX7 361 xS xN).filter (fun w => !goodWord w) = xB xS := by decide +kernel
theorem xg_7S : ∀ w ∈ Cond.classLink RX7 357 xS :: Cond.initialized xS :: vx_atS RX7 361 xS xN, vx_ot w = true := by decide +kernel
def zPx (E : zE) (A : Nat → Prop) (Wd : Heap → Prop) (av : List Value) : Array Value → State → Prop := fun v U => v = av.toArray ∧ Wd U.heap ∧ XE E A U U.heap ∧ KK E U
theorem zPx.blind {E : zE} {A : Nat → Prop} {Wd : Heap → Prop} {av : List Value} : FrameBlind (zPx E A Wd av) := fun _ _ _ _ h => ⟨h.1, h.2.1, h.2.2.1.calling, h.2.2.2.calling⟩
theorem z_bodyx {l : Launch} {E : zE} {A : Nat → Prop} {y : MethodName} {cc : ByteArray} {maxL : Nat} {ret : Option FieldType} {rm : Room} {Wd : Heap → Prop} {av : List Value} {Qc : Array Value → State → Outcome → State → Prop} {XC : String → State → State → Prop} {mc ms : Nat} {F : Nat → Prop} {own : String}
    (hy : plainName y.cls = true) (hcls : y.cls = own) (hsl : Nat.ble (lg_sl av).length maxL = true)
    (body : ∀ p e s m args below meth c ls, Cx E p s args m c own cc maxL → meth.sig.returnType = ret → meth.locks = false → (∀ x ∈ c.exceptionTable.toList, False) → Wd s.heap → XE E A s s.heap → lv_has ls maxL (lv_args 0 av) → W p l e rm s m args below meth c s.heap [] 0 0 (vx_MQ below Qc XC args s mc ms F) (F0 m 0 ls [])) :
    vx_Met l y (.code y cc maxL ret :: AllW) rm (zPx E A Wd av) Qc XC mc ms F := by
  refine vx_ofW (cc := cc) (maxL := maxL) (ret := ret) hy rfl ?_
  intro p e s m args below meth c s₁ B hml hne hv
  obtain ⟨rfl, hw, hxe, hk⟩ := hv
  have hts := atoms_spec (ws := .code y cc maxL ret :: AllW) B.pre
  have hown : s.vm.findClass y.cls = some m.cls := findClass_of_methodNamed B.named
  rw [hcls] at hown
  have hl := lv_entry av (n := maxL) (Nat.le_of_ble_eq_true hsl)
  rw [lg_entry_eq]
  exact body p e s m _ below meth c _ ⟨⟨B.exec, B.bytes, hml, hown, fun w h => hts w (List.mem_cons_of_mem _ h)⟩, hk⟩ B.returns B.notSynchronized hne hw hxe hl
theorem z_bodyh {l : Launch} {E : zE} {A : Nat → Prop} {y : MethodName} {cc : ByteArray} {maxL : Nat} {ret : Option FieldType} {hh : List (Nat × Nat × Nat × Nat)} {rm : Room} {Wd : Heap → Prop} {av : List Value} {Qc : Array Value → State → Outcome → State → Prop} {XC : String → State → State → Prop} {mc ms : Nat} {F : Nat → Prop} {own : String}
    (hy : plainName y.cls = true) (hcls : y.cls = own) (hsl : Nat.ble (lg_sl av).length maxL = true)
    (body : ∀ p e s m args below meth c ls, Cx E p s args m c own cc maxL → meth.sig.returnType = ret → meth.locks = false → c.exceptionTable.toList = tableOf hh → Wd s.heap → XE E A s s.heap → lv_has ls maxL (lv_args 0 av) → W p l e rm s m args below meth c s.heap [] 0 0 (vx_MQ below Qc XC args s mc ms F) (F0 m 0 ls [])) :
    vx_Met l y (.codeWith y cc maxL ret hh :: AllW) rm (zPx E A Wd av) Qc XC mc ms F := by
  refine vx_ofWH (cc := cc) (maxL := maxL) (ret := ret) (hh := hh) hy rfl ?_
  intro p e s m args below meth c s₁ B hml hv
  obtain ⟨rfl, hw, hxe, hk⟩ := hv
  have hts := atoms_spec (ws := .codeWith y cc maxL ret hh :: AllW) B.pre
  have hown : s.vm.findClass y.cls = some m.cls := findClass_of_methodNamed B.named
  rw [hcls] at hown
  have hl := lv_entry av (n := maxL) (Nat.le_of_ble_eq_true hsl)
  rw [lg_entry_eq]
  exact body p e s m _ below meth c _ ⟨⟨B.exec, B.bytes, hml, hown, fun w h => hts w (List.mem_cons_of_mem _ h)⟩, hk⟩ B.returns B.notSynchronized (vx_table (x := y) B (hts _ List.mem_cons_self)) hw hxe hl
theorem z_goodh {y : MethodName} {bytes : ByteArray} {maxL : Nat} {ret : Option FieldType} {hh : List (Nat × Nat × Nat × Nat)} (hc : Cond.codeWith y bytes maxL ret hh ∈ AllW) : GoodIn AllW (.codeWith y bytes maxL ret hh :: AllW) := fun w h => by
  have hw : w ∈ AllW := (List.mem_cons.mp h).elim (fun e => e ▸ hc) id
  exact ⟨hw, good_of_word (aw_good w hw)⟩
def exN (v : Int32) : String := if v = 7 then xU else if v = 4 then xI else xS
