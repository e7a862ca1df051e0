theorem dJx4a65c_size_8abf5_0 : decode cJx4a65c_size_8abf5 0 = .ok (.aload_n 0, 1) := by decide +kernel
theorem dJx4a65c_size_8abf5_1 : decode cJx4a65c_size_8abf5 1 = .ok (.getfield 48, 3) := by decide +kernel
theorem dJx4a65c_size_8abf5_4 : decode cJx4a65c_size_8abf5 4 = .ok (.ireturn, 1) := by decide +kernel
theorem q4_214 : (Jvm.Cond.fieldLink "java/util/ArrayList" (48 : Nat) "java/util/ArrayList" "size" "I") ∈ lw_g := zg_of (zin4 (List.mem_of_getElem? (i := 214) rfl)) rfl
theorem q5_43 : (Jvm.Cond.code ({ cls := "java/util/ArrayList", name := "size", desc := "()I" } : Jvm.MethodName) prog_33_method_8_code (1 : Nat) (Option.some Jvm.ClassFile.FieldType.int)) ∈ lw_g := zg_of (zin5 (List.mem_of_getElem? (i := 43) rfl)) rfl
theorem q1_6 : (Jvm.Cond.initialized "java/util/ArrayList") ∈ lw_g := zg_of (zin1 (List.mem_of_getElem? (i := 6) rfl)) rfl
theorem q5_41 : (Jvm.Cond.instanceMethod ({ cls := "java/util/ArrayList", name := "size", desc := "()I" } : Jvm.MethodName)) ∈ lw_g := zg_of (zin5 (List.mem_of_getElem? (i := 41) rfl)) rfl
theorem q5_42 : (Jvm.Cond.selects "java/util/ArrayList" ({ cls := "java/util/ArrayList", name := "size", desc := "()I" } : Jvm.MethodName) ({ cls := "java/util/ArrayList", name := "size", desc := "()I" } : Jvm.MethodName)) ∈ lw_g := zg_of (zin5 (List.mem_of_getElem? (i := 42) rfl)) rfl
theorem ok_Jx4a65c_size_8abf5 : zOV yJx4a65c_size_8abf5 cJx4a65c_size_8abf5 1 ((Option.some Jvm.ClassFile.FieldType.int)) 0 := ⟨⟨q5_43, q1_6, by decide, by decide, by decide +kernel⟩, q5_41, q5_42⟩
set_option maxHeartbeats 4000000 in
set_option maxRecDepth 100000 in
theorem c_alSize (l : Launch) (G : zG) (q ed : Nat) (mc : Int32) (n : Int) : Met l yJx4a65c_size_8abf5 (wq yJx4a65c_size_8abf5 cJx4a65c_size_8abf5 1 ((Option.some Jvm.ClassFile.FieldType.int))) (rmR 0 0) (va_Pc [.ref (q)] (zK G (hAL G q ed mc n))) (zQ (some (.int ((zI (n)))))) 0 0 zF := by
  refine z_enterI (by decide +kernel) (Nat.le_of_ble_eq_true rfl) ?_
  intro p env s m below meth cod Q S hG hP ret ls hl
  have hl : lv_has ls 1 [(0, .ref (q))] := hl
  refine z_aload_n S dJx4a65c_size_8abf5_0 hl 0 rfl rfl ?_
  refine z_get S hG hP zc_Jx4a65c 2 (by decide) q4_214 rfl rfl dJx4a65c_size_8abf5_1 ?_
  exact ret _ _ _ dJx4a65c_size_8abf5_4 (rfl)
theorem dJ3_checkIndex_8e157_0 : decode cJ3_checkIndex_8e157 0 = .ok (.iload_n 0, 1) := by decide +kernel
theorem dJ3_checkIndex_8e157_1 : decode cJ3_checkIndex_8e157 1 = .ok (.ifCond .lt 8, 3) := by decide +kernel
theorem dJ3_checkIndex_8e157_4 : decode cJ3_checkIndex_8e157 4 = .ok (.iload_n 0, 1) := by decide +kernel
theorem dJ3_checkIndex_8e157_5 : decode cJ3_checkIndex_8e157 5 = .ok (.iload_n 1, 1) := by decide +kernel
theorem dJ3_checkIndex_8e157_6 : decode cJ3_checkIndex_8e157 6 = .ok (.if_icmp .lt 10, 3) := by decide +kernel
theorem dJ3_checkIndex_8e157_9 : decode cJ3_checkIndex_8e157 9 = .ok (.aload_n 2, 1) := by decide +kernel
theorem dJ3_checkIndex_8e157_10 : decode cJ3_checkIndex_8e157 10 = .ok (.iload_n 0, 1) := by decide +kernel
theorem dJ3_checkIndex_8e157_11 : decode cJ3_checkIndex_8e157 11 = .ok (.iload_n 1, 1) := by decide +kernel
theorem dJ3_checkIndex_8e157_12 : decode cJ3_checkIndex_8e157 12 = .ok (.invokestatic 95, 3) := by decide +kernel
theorem dJ3_checkIndex_8e157_15 : decode cJ3_checkIndex_8e157 15 = .ok (.athrow, 1) := by decide +kernel
theorem dJ3_checkIndex_8e157_16 : decode cJ3_checkIndex_8e157 16 = .ok (.iload_n 0, 1) := by decide +kernel
theorem dJ3_checkIndex_8e157_17 : decode cJ3_checkIndex_8e157 17 = .ok (.ireturn, 1) := by decide +kernel
theorem q4_14 : (Jvm.Cond.code ({ cls := "jdk/internal/util/Preconditions", name := "checkIndex", desc := "(IILjava/util/function/BiFunction;)I" } : Jvm.MethodName) prog_43_method_11_code (3 : Nat) (Option.some Jvm.ClassFile.FieldType.int)) ∈ lw_g := zg_of (zin4 (List.mem_of_getElem? (i := 14) rfl)) rfl
theorem q1_16 : (Jvm.Cond.initialized "jdk/internal/util/Preconditions") ∈ lw_g := zg_of (zin1 (List.mem_of_getElem? (i := 16) rfl)) rfl
theorem q4_13 : (Jvm.Cond.static ({ cls := "jdk/internal/util/Preconditions", name := "checkIndex", desc := "(IILjava/util/function/BiFunction;)I" } : Jvm.MethodName)) ∈ lw_g := zg_of (zin4 (List.mem_of_getElem? (i := 13) rfl)) rfl
theorem ok_J3_checkIndex_8e157 : zOS yJ3_checkIndex_8e157 cJ3_checkIndex_8e157 3 ((Option.some Jvm.ClassFile.FieldType.int)) 3 := ⟨⟨q4_14, q1_16, by decide, by decide, by decide +kernel⟩, q4_13⟩
set_option maxHeartbeats 4000000 in
set_option maxRecDepth 100000 in
theorem c_chk3 (l : Launch) (G : zG) (i n : Int) (hi : 0 ≤ i ∧ i < n) (hn : n < 2147483648) : Met l yJ3_checkIndex_8e157 (wq yJ3_checkIndex_8e157 cJ3_checkIndex_8e157 3 ((Option.some Jvm.ClassFile.FieldType.int))) (rmR 0 0) (va_Pc [.int (zI (i)), .int (zI (n)), .null] (zK G (fun _ => True))) (zQ (some (.int ((zI (i)))))) 0 0 zF := by
  refine z_enterI (by decide +kernel) (Nat.le_of_ble_eq_true rfl) ?_
  intro p env s m below meth cod Q S hG hP ret ls hl
  have hl : lv_has ls 3 [(0, .int (zI (i))), (1, .int (zI (n))), (2, .null)] := hl
  refine z_iload_n S dJ3_checkIndex_8e157_0 hl 0 rfl rfl ?_
  refine z_if_lt_F S 9 dJ3_checkIndex_8e157_1 (by decide) (by omega) (by omega) ?_
  refine z_iload_n S dJ3_checkIndex_8e157_4 hl 0 rfl rfl ?_
  refine z_iload_n S dJ3_checkIndex_8e157_5 hl 1 rfl rfl ?_
  refine z_icmp_lt_T S 16 dJ3_checkIndex_8e157_6 (by decide) (by omega) (by omega) (by omega) ?_
  refine z_iload_n S dJ3_checkIndex_8e157_16 hl 0 rfl rfl ?_
  exact ret _ _ _ dJ3_checkIndex_8e157_17 (rfl)
theorem dJ15_checkIndex_7cf53_0 : decode cJ15_checkIndex_7cf53 0 = .ok (.iload_n 0, 1) := by decide +kernel
theorem dJ15_checkIndex_7cf53_1 : decode cJ15_checkIndex_7cf53 1 = .ok (.iload_n 1, 1) := by decide +kernel
theorem dJ15_checkIndex_7cf53_2 : decode cJ15_checkIndex_7cf53 2 = .ok (.aconst_null, 1) := by decide +kernel
theorem dJ15_checkIndex_7cf53_3 : decode cJ15_checkIndex_7cf53 3 = .ok (.invokestatic 105, 3) := by decide +kernel
theorem dJ15_checkIndex_7cf53_6 : decode cJ15_checkIndex_7cf53 6 = .ok (.ireturn, 1) := by decide +kernel
theorem q5_59 : (Jvm.Cond.methodLink "java/util/Objects" (105 : Nat) ({ cls := "jdk/internal/util/Preconditions", name := "checkIndex", desc := "(IILjava/util/function/BiFunction;)I" } : Jvm.MethodName)) ∈ lw_g := zg_of (zin5 (List.mem_of_getElem? (i := 59) rfl)) rfl
theorem q5_58 : (Jvm.Cond.code ({ cls := "java/util/Objects", name := "checkIndex", desc := "(II)I" } : Jvm.MethodName) prog_39_method_17_code (2 : Nat) (Option.some Jvm.ClassFile.FieldType.int)) ∈ lw_g := zg_of (zin5 (List.mem_of_getElem? (i := 58) rfl)) rfl
theorem q1_15 : (Jvm.Cond.initialized "java/util/Objects") ∈ lw_g := zg_of (zin1 (List.mem_of_getElem? (i := 15) rfl)) rfl
theorem q5_57 : (Jvm.Cond.static ({ cls := "java/util/Objects", name := "checkIndex", desc := "(II)I" } : Jvm.MethodName)) ∈ lw_g := zg_of (zin5 (List.mem_of_getElem? (i := 57) rfl)) rfl
theorem ok_J15_checkIndex_7cf53 : zOS yJ15_checkIndex_7cf53 cJ15_checkIndex_7cf53 2 ((Option.some Jvm.ClassFile.FieldType.int)) 2 := ⟨⟨q5_58, q1_15, by decide, by decide, by decide +kernel⟩, q5_57⟩
set_option maxHeartbeats 4000000 in
set_option maxRecDepth 100000 in
theorem c_chk (l : Launch) (G : zG) (i n : Int) (hi : 0 ≤ i ∧ i < n) (hn : n < 2147483648) : Met l yJ15_checkIndex_7cf53 (wq yJ15_checkIndex_7cf53 cJ15_checkIndex_7cf53 2 ((Option.some Jvm.ClassFile.FieldType.int))) (rmR 1 22) (va_Pc [.int (zI (i)), .int (zI (n))] (zK G (fun _ => True))) (zQ (some (.int ((zI (i)))))) 0 0 zF := by
  refine z_enterI (by decide +kernel) (Nat.le_of_ble_eq_true rfl) ?_
  intro p env s m below meth cod Q S hG hP ret ls hl
  have hl : lv_has ls 2 [(0, .int (zI (i))), (1, .int (zI (n)))] := hl
  refine z_iload_n S dJ15_checkIndex_7cf53_0 hl 0 rfl rfl ?_
  refine z_iload_n S dJ15_checkIndex_7cf53_1 hl 1 rfl rfl ?_
  refine lv_null S.1 S.2.1 dJ15_checkIndex_7cf53_2 ?_
  refine z_callSs S hG (c_chk3 l G (i) (n) hi hn) ok_J3_checkIndex_8e157 q5_59 (trivial) ⟨rfl, rfl, by decide, by decide⟩ ⟨Nat.zero_le _, Nat.zero_le _⟩ rfl (Nat.le_of_ble_eq_true rfl) hl.1 rfl dJ15_checkIndex_7cf53_3 ?_
  exact ret _ _ _ dJ15_checkIndex_7cf53_6 (rfl)
theorem dJx4a65c_elementData_915e3_0 : decode cJx4a65c_elementData_915e3 0 = .ok (.aload_n 0, 1) := by decide +kernel
theorem dJx4a65c_elementData_915e3_1 : decode cJx4a65c_elementData_915e3 1 = .ok (.getfield 9, 3) := by decide +kernel
theorem dJx4a65c_elementData_915e3_4 : decode cJx4a65c_elementData_915e3 4 = .ok (.iload_n 1, 1) := by decide +kernel
theorem dJx4a65c_elementData_915e3_5 : decode cJx4a65c_elementData_915e3 5 = .ok (.aaload, 1) := by decide +kernel
theorem dJx4a65c_elementData_915e3_6 : decode cJx4a65c_elementData_915e3 6 = .ok (.areturn, 1) := by decide +kernel
theorem q4_211 : (Jvm.Cond.fieldLink "java/util/ArrayList" (9 : Nat) "java/util/ArrayList" "elementData" "[Ljava/lang/Object;") ∈ lw_g := zg_of (zin4 (List.mem_of_getElem? (i := 211) rfl)) rfl
theorem q5_63 : (Jvm.Cond.code ({ cls := "java/util/ArrayList", name := "elementData", desc := "(I)Ljava/lang/Object;" } : Jvm.MethodName) prog_33_method_18_code (2 : Nat) (Option.some (Jvm.ClassFile.FieldType.object "java/lang/Object"))) ∈ lw_g := zg_of (zin5 (List.mem_of_getElem? (i := 63) rfl)) rfl
theorem q5_61 : (Jvm.Cond.instanceMethod ({ cls := "java/util/ArrayList", name := "elementData", desc := "(I)Ljava/lang/Object;" } : Jvm.MethodName)) ∈ lw_g := zg_of (zin5 (List.mem_of_getElem? (i := 61) rfl)) rfl
theorem q5_62 : (Jvm.Cond.selects "java/util/ArrayList" ({ cls := "java/util/ArrayList", name := "elementData", desc := "(I)Ljava/lang/Object;" } : Jvm.MethodName) ({ cls := "java/util/ArrayList", name := "elementData", desc := "(I)Ljava/lang/Object;" } : Jvm.MethodName)) ∈ lw_g := zg_of (zin5 (List.mem_of_getElem? (i := 62) rfl)) rfl
theorem ok_Jx4a65c_elementData_915e3 : zOV yJx4a65c_elementData_915e3 cJx4a65c_elementData_915e3 2 ((Option.some (Jvm.ClassFile.FieldType.object "java/lang/Object"))) 1 := ⟨⟨q5_63, q1_6, by decide, by decide, by decide +kernel⟩, q5_61, q5_62⟩
set_option maxHeartbeats 4000000 in
set_option maxRecDepth 100000 in
theorem c_alElem (l : Launch) (G : zG) (q ed : Nat) (mc : Int32) (n : Int) (els : Int → Option Nat) (i : Int) (x : Nat) (hx : els i = some x) (hi : 0 ≤ i ∧ i < n) (hn : n ≤ 10) : Met l yJx4a65c_elementData_915e3 (wq yJx4a65c_elementData_915e3 cJx4a65c_elementData_915e3 2 ((Option.some (Jvm.ClassFile.FieldType.object "java/lang/Object")))) (rmR 0 0) (va_Pc [.ref (q), .int (zI (i))] (zK G (fun H => hAL G q ed mc n H ∧ hEd G ed els H))) (zQ (some (.ref (x)))) 0 0 zF := by
  refine z_enterA (by decide +kernel) (Nat.le_of_ble_eq_true rfl) ?_
  intro p env s m below meth cod Q S hG hP ret ls hl
  have hl : lv_has ls 2 [(0, .ref (q)), (1, .int (zI (i)))] := hl
  refine z_aload_n S dJx4a65c_elementData_915e3_0 hl 0 rfl rfl ?_
  refine z_get S hG hP.1 zc_Jx4a65c 1 (by decide) q4_211 rfl rfl dJx4a65c_elementData_915e3_1 ?_
  refine z_iload_n S dJx4a65c_elementData_915e3_4 hl 1 rfl rfl ?_
  refine z_aaldO S hG hP.2 (by omega) (by decide) dJx4a65c_elementData_915e3_5 ?_
  rw [hx]
  exact ret _ _ dJx4a65c_elementData_915e3_6 (Or.inr ⟨_, rfl⟩)
theorem dJx4a65c_get_915e3_0 : decode cJx4a65c_get_915e3 0 = .ok (.iload_n 1, 1) := by decide +kernel
theorem dJx4a65c_get_915e3_1 : decode cJx4a65c_get_915e3 1 = .ok (.aload_n 0, 1) := by decide +kernel
theorem dJx4a65c_get_915e3_2 : decode cJx4a65c_get_915e3 2 = .ok (.getfield 48, 3) := by decide +kernel
theorem dJx4a65c_get_915e3_5 : decode cJx4a65c_get_915e3 5 = .ok (.invokestatic 118, 3) := by decide +kernel
theorem dJx4a65c_get_915e3_8 : decode cJx4a65c_get_915e3 8 = .ok (.pop, 1) := by decide +kernel
theorem dJx4a65c_get_915e3_9 : decode cJx4a65c_get_915e3 9 = .ok (.aload_n 0, 1) := by decide +kernel
theorem dJx4a65c_get_915e3_10 : decode cJx4a65c_get_915e3 10 = .ok (.iload_n 1, 1) := by decide +kernel
theorem dJx4a65c_get_915e3_11 : decode cJx4a65c_get_915e3 11 = .ok (.invokevirtual 123, 3) := by decide +kernel
theorem dJx4a65c_get_915e3_14 : decode cJx4a65c_get_915e3 14 = .ok (.areturn, 1) := by decide +kernel
theorem q5_56 : (Jvm.Cond.methodLink "java/util/ArrayList" (118 : Nat) ({ cls := "java/util/Objects", name := "checkIndex", desc := "(II)I" } : Jvm.MethodName)) ∈ lw_g := zg_of (zin5 (List.mem_of_getElem? (i := 56) rfl)) rfl
theorem q5_60 : (Jvm.Cond.methodLink "java/util/ArrayList" (123 : Nat) ({ cls := "java/util/ArrayList", name := "elementData", desc := "(I)Ljava/lang/Object;" } : Jvm.MethodName)) ∈ lw_g := zg_of (zin5 (List.mem_of_getElem? (i := 60) rfl)) rfl
theorem q5_55 : (Jvm.Cond.code ({ cls := "java/util/ArrayList", name := "get", desc := "(I)Ljava/lang/Object;" } : Jvm.MethodName) prog_33_method_20_code (2 : Nat) (Option.some (Jvm.ClassFile.FieldType.object "java/lang/Object"))) ∈ lw_g := zg_of (zin5 (List.mem_of_getElem? (i := 55) rfl)) rfl
theorem q5_53 : (Jvm.Cond.instanceMethod ({ cls := "java/util/ArrayList", name := "get", desc := "(I)Ljava/lang/Object;" } : Jvm.MethodName)) ∈ lw_g := zg_of (zin5 (List.mem_of_getElem? (i := 53) rfl)) rfl
theorem q5_54 : (Jvm.Cond.selects "java/util/ArrayList" ({ cls := "java/util/ArrayList", name := "get", desc := "(I)Ljava/lang/Object;" } : Jvm.MethodName) ({ cls := "java/util/ArrayList", name := "get", desc := "(I)Ljava/lang/Object;" } : Jvm.MethodName)) ∈ lw_g := zg_of (zin5 (List.mem_of_getElem? (i := 54) rfl)) rfl
theorem ok_Jx4a65c_get_915e3 : zOV yJx4a65c_get_915e3 cJx4a65c_get_915e3 2 ((Option.some (Jvm.ClassFile.FieldType.object "java/lang/Object"))) 1 := ⟨⟨q5_55, q1_6, by decide, by decide, by decide +kernel⟩, q5_53, q5_54⟩
set_option maxHeartbeats 4000000 in
set_option maxRecDepth 100000 in
theorem c_alGet (l : Launch) (G : zG) (q ed : Nat) (mc : Int32) (n : Int) (els : Int → Option Nat) (i : Int) (x : Nat) (hx : els i = some x) (hi : 0 ≤ i ∧ i < n) (hn : n ≤ 10) : Met l yJx4a65c_get_915e3 (wq yJx4a65c_get_915e3 cJx4a65c_get_915e3 2 ((Option.some (Jvm.ClassFile.FieldType.object "java/lang/Object")))) (rmR 2 43) (va_Pc [.ref (q), .int (zI (i))] (zK G (fun H => hAL G q ed mc n H ∧ hEd G ed els H))) (zQ (some (.ref (x)))) 0 0 zF := by
  refine z_enterA (by decide +kernel) (Nat.le_of_ble_eq_true rfl) ?_
  intro p env s m below meth cod Q S hG hP ret ls hl
  have hl : lv_has ls 2 [(0, .ref (q)), (1, .int (zI (i)))] := hl
  refine z_iload_n S dJx4a65c_get_915e3_0 hl 1 rfl rfl ?_
  refine z_aload_n S dJx4a65c_get_915e3_1 hl 0 rfl rfl ?_
  refine z_get S hG hP.1 zc_Jx4a65c 2 (by decide) q4_214 rfl rfl dJx4a65c_get_915e3_2 ?_
  refine z_callSs S hG (c_chk l G (i) (n) (by omega) (by omega)) ok_J15_checkIndex_7cf53 q5_56 (trivial) ⟨rfl, rfl, by decide, by decide⟩ ⟨Nat.zero_le _, Nat.zero_le _⟩ rfl (Nat.le_of_ble_eq_true rfl) hl.1 rfl dJx4a65c_get_915e3_5 ?_
  refine lv_pop S.1 S.2.1 dJx4a65c_get_915e3_8 rfl ?_
  refine z_aload_n S dJx4a65c_get_915e3_9 hl 0 rfl rfl ?_
  refine z_iload_n S dJx4a65c_get_915e3_10 hl 1 rfl rfl ?_
  refine z_callVs S hG (c_alElem l G q ed mc n els (i) x hx hi hn) ok_Jx4a65c_elementData_915e3 hP.1 zc_Jx4a65c rfl q5_60 (hP) ⟨rfl, rfl, by decide, by decide⟩ ⟨Nat.zero_le _, Nat.zero_le _⟩ rfl (Nat.le_of_ble_eq_true rfl) hl.1 rfl dJx4a65c_get_915e3_11 ?_
  exact ret _ _ dJx4a65c_get_915e3_14 (Or.inr ⟨_, rfl⟩)
theorem msh0 {k len sp w : Int} (h : k = 0 ∧ 0 < len) : shiftR k len sp w = w / sp % len := by
  have h1 := Int.emod_lt_of_pos (w / sp) h.2
  unfold shiftR cyc
  rw [if_neg (by omega), if_neg (show ¬ k = 2 by omega), if_pos h1]
theorem msh1 {k len sp w : Int} (h : k = 1) (h0 : 0 ≤ w / sp % len) (h1 : w / sp % len < len) : shiftR k len sp w = (len - w / sp % len) % len := by
  unfold shiftR cyc
  rw [if_pos h, if_neg (show ¬ k = 2 by omega)]
  by_cases q : w / sp % len = 0
  · rw [if_pos q, q, Int.sub_zero, Int.emod_self]
  · rw [if_neg q]; exact (Int.emod_eq_of_lt (by omega) (by omega)).symm
theorem msh2 {k len sp w : Int} (h : k = 2) (_ : 2 ≤ len) : shiftR k len sp w = if w / sp % (2 * len - 2) < len then w / sp % (2 * len - 2) else 2 * len - 2 - w / sp % (2 * len - 2) := by
  unfold shiftR cyc
  rw [if_neg (by omega), if_pos h]
theorem dX4_shift_0 : decode cX4_shift 0 = .ok (.iload_n 1, 1) := by decide +kernel
theorem dX4_shift_1 : decode cX4_shift 1 = .ok (.aload_n 0, 1) := by decide +kernel
theorem dX4_shift_2 : decode cX4_shift 2 = .ok (.iconst 2, 1) := by decide +kernel
theorem dX4_shift_3 : decode cX4_shift 3 = .ok (.iaload, 1) := by decide +kernel
theorem dX4_shift_4 : decode cX4_shift 4 = .ok (.idiv, 1) := by decide +kernel
theorem dX4_shift_5 : decode cX4_shift 5 = .ok (.istore_n 2, 1) := by decide +kernel
theorem dX4_shift_6 : decode cX4_shift 6 = .ok (.aload_n 0, 1) := by decide +kernel
theorem dX4_shift_7 : decode cX4_shift 7 = .ok (.iconst 1, 1) := by decide +kernel
theorem dX4_shift_8 : decode cX4_shift 8 = .ok (.iaload, 1) := by decide +kernel
theorem dX4_shift_9 : decode cX4_shift 9 = .ok (.istore_n 3, 1) := by decide +kernel
theorem dX4_shift_10 : decode cX4_shift 10 = .ok (.aload_n 0, 1) := by decide +kernel
theorem dX4_shift_11 : decode cX4_shift 11 = .ok (.iconst 3, 1) := by decide +kernel
theorem dX4_shift_12 : decode cX4_shift 12 = .ok (.iaload, 1) := by decide +kernel
theorem dX4_shift_13 : decode cX4_shift 13 = .ok (.ifCond .ne 7, 3) := by decide +kernel
theorem dX4_shift_16 : decode cX4_shift 16 = .ok (.iload_n 2, 1) := by decide +kernel
theorem dX4_shift_17 : decode cX4_shift 17 = .ok (.iload_n 3, 1) := by decide +kernel
theorem dX4_shift_18 : decode cX4_shift 18 = .ok (.irem, 1) := by decide +kernel
theorem dX4_shift_19 : decode cX4_shift 19 = .ok (.ireturn, 1) := by decide +kernel
theorem dX4_shift_20 : decode cX4_shift 20 = .ok (.aload_n 0, 1) := by decide +kernel
theorem dX4_shift_21 : decode cX4_shift 21 = .ok (.iconst 3, 1) := by decide +kernel
theorem dX4_shift_22 : decode cX4_shift 22 = .ok (.iaload, 1) := by decide +kernel
theorem dX4_shift_23 : decode cX4_shift 23 = .ok (.iconst 1, 1) := by decide +kernel
theorem dX4_shift_24 : decode cX4_shift 24 = .ok (.if_icmp .ne 11, 3) := by decide +kernel
theorem dX4_shift_27 : decode cX4_shift 27 = .ok (.iload_n 3, 1) := by decide +kernel
theorem dX4_shift_28 : decode cX4_shift 28 = .ok (.iload_n 2, 1) := by decide +kernel
theorem dX4_shift_29 : decode cX4_shift 29 = .ok (.iload_n 3, 1) := by decide +kernel
theorem dX4_shift_30 : decode cX4_shift 30 = .ok (.irem, 1) := by decide +kernel
theorem dX4_shift_31 : decode cX4_shift 31 = .ok (.isub, 1) := by decide +kernel
theorem dX4_shift_32 : decode cX4_shift 32 = .ok (.iload_n 3, 1) := by decide +kernel
theorem dX4_shift_33 : decode cX4_shift 33 = .ok (.irem, 1) := by decide +kernel
theorem dX4_shift_34 : decode cX4_shift 34 = .ok (.ireturn, 1) := by decide +kernel
theorem dX4_shift_35 : decode cX4_shift 35 = .ok (.iload_n 2, 1) := by decide +kernel
theorem dX4_shift_36 : decode cX4_shift 36 = .ok (.iconst 2, 1) := by decide +kernel
theorem dX4_shift_37 : decode cX4_shift 37 = .ok (.iload_n 3, 1) := by decide +kernel
theorem dX4_shift_38 : decode cX4_shift 38 = .ok (.imul, 1) := by decide +kernel
theorem dX4_shift_39 : decode cX4_shift 39 = .ok (.iconst 2, 1) := by decide +kernel
theorem dX4_shift_40 : decode cX4_shift 40 = .ok (.isub, 1) := by decide +kernel
theorem dX4_shift_41 : decode cX4_shift 41 = .ok (.irem, 1) := by decide +kernel
theorem dX4_shift_42 : decode cX4_shift 42 = .ok (.istore 4, 2) := by decide +kernel
theorem dX4_shift_44 : decode cX4_shift 44 = .ok (.iload 4, 2) := by decide +kernel
theorem dX4_shift_46 : decode cX4_shift 46 = .ok (.iload_n 3, 1) := by decide +kernel
theorem dX4_shift_47 : decode cX4_shift 47 = .ok (.if_icmp .ge 8, 3) := by decide +kernel
theorem dX4_shift_50 : decode cX4_shift 50 = .ok (.iload 4, 2) := by decide +kernel
theorem dX4_shift_52 : decode cX4_shift 52 = .ok (.goto 11, 3) := by decide +kernel
theorem dX4_shift_55 : decode cX4_shift 55 = .ok (.iconst 2, 1) := by decide +kernel
theorem dX4_shift_56 : decode cX4_shift 56 = .ok (.iload_n 3, 1) := by decide +kernel
theorem dX4_shift_57 : decode cX4_shift 57 = .ok (.imul, 1) := by decide +kernel
theorem dX4_shift_58 : decode cX4_shift 58 = .ok (.iconst 2, 1) := by decide +kernel
theorem dX4_shift_59 : decode cX4_shift 59 = .ok (.isub, 1) := by decide +kernel
theorem dX4_shift_60 : decode cX4_shift 60 = .ok (.iload 4, 2) := by decide +kernel
theorem dX4_shift_62 : decode cX4_shift 62 = .ok (.isub, 1) := by decide +kernel
theorem dX4_shift_63 : decode cX4_shift 63 = .ok (.ireturn, 1) := by decide +kernel
theorem q5_119 : (Jvm.Cond.code ({ cls := "CyclepaintModel", name := "shift", desc := "([II)I" } : Jvm.MethodName) prog_6_method_12_code (5 : Nat) (Option.some Jvm.ClassFile.FieldType.int)) ∈ lw_g := zg_of (zin5 (List.mem_of_getElem? (i := 119) rfl)) rfl
theorem q1_3 : (Jvm.Cond.initialized "CyclepaintModel") ∈ lw_g := zg_of (zin1 (List.mem_of_getElem? (i := 3) rfl)) rfl
theorem q5_118 : (Jvm.Cond.static ({ cls := "CyclepaintModel", name := "shift", desc := "([II)I" } : Jvm.MethodName)) ∈ lw_g := zg_of (zin5 (List.mem_of_getElem? (i := 118) rfl)) rfl
theorem ok_X4_shift : zOS yX4_shift cX4_shift 5 ((Option.some Jvm.ClassFile.FieldType.int)) 2 := ⟨⟨q5_119, q1_3, by decide, by decide, by decide +kernel⟩, q5_118⟩
set_option maxHeartbeats 4000000 in
set_option maxRecDepth 100000 in
theorem c_X4_shift (l : Launch) (G : zG) (q : Nat) (f len sp k : Int) (w : Int) (hw : 0 ≤ w ∧ w < 2147483648) (hr : (0 ≤ f ∧ f ≤ 16) ∧ (2 ≤ len ∧ len ≤ 16) ∧ (1 ≤ sp ∧ sp ≤ 9) ∧ 0 ≤ k ∧ k ≤ 2) : Met l yX4_shift (wq yX4_shift cX4_shift 5 ((Option.some Jvm.ClassFile.FieldType.int))) (rmR 0 0) (va_Pc [.ref (q), .int (zI (w))] (zK G (hR4 G q f len sp k))) (zQ (some (.int ((zI (shiftR k len sp w)))))) 0 0 zF := by
  refine z_enterI (by decide +kernel) (Nat.le_of_ble_eq_true rfl) ?_
  intro p env s m below meth cod Q S hG hP ret ls hl
  have hl : lv_has ls 5 [(0, .ref (q)), (1, .int (zI (w)))] := hl
  have hd0 : 0 ≤ w / sp := Int.ediv_nonneg hw.1 (by omega)
  have hd1 : w / sp ≤ w := Int.ediv_le_self sp hw.1
  have hm0 := Int.emod_nonneg (w / sp) (show len ≠ 0 by omega)
  have hm1 := Int.emod_lt_of_pos (w / sp) (show 0 < len by omega)
  have hm2 := Int.emod_nonneg (w / sp) (show 2 * len - 2 ≠ 0 by omega)
  have hm3 := Int.emod_lt_of_pos (w / sp) (show 0 < 2 * len - 2 by omega)
  refine z_iload_n S dX4_shift_0 hl 1 rfl rfl ?_
  refine z_aload_n S dX4_shift_1 hl 0 rfl rfl ?_
  refine z_iconst S dX4_shift_2 ?_
  refine z_ialdB S hG hP (by omega) (by decide) dX4_shift_3 ?_
  rw [show r4 (f) (len) (sp) (k) (2) = (sp) from rfl]
  refine z_idiv S dX4_shift_4 (by omega) (by omega) ?_
  refine z_istore_n (lv' := [(2, .int (zI ((w) / (sp)))), (0, .ref (q)), (1, .int (zI (w)))]) S dX4_shift_5 hl rfl (by decide) rfl (fun ls hl => ?_)
  refine z_aload_n S dX4_shift_6 hl 1 rfl rfl ?_
  refine z_iconst S dX4_shift_7 ?_
  refine z_ialdB S hG hP (by omega) (by decide) dX4_shift_8 ?_
  rw [show r4 (f) (len) (sp) (k) (1) = (len) from rfl]
  refine z_istore_n (lv' := [(3, .int (zI (len))), (2, .int (zI ((w) / (sp)))), (0, .ref (q)), (1, .int (zI (w)))]) S dX4_shift_9 hl rfl (by decide) rfl (fun ls hl => ?_)
  refine z_aload_n S dX4_shift_10 hl 2 rfl rfl ?_
  refine z_iconst S dX4_shift_11 ?_
  refine z_ialdB S hG hP (by omega) (by decide) dX4_shift_12 ?_
  rw [show r4 (f) (len) (sp) (k) (3) = (k) from rfl]
  refine z_if_ne S 20 dX4_shift_13 (by decide) (by omega) (fun c_13 => ?_) (fun c_13 => ?_)
  · skip
    refine z_aload_n S dX4_shift_20 hl 2 rfl rfl ?_
    refine z_iconst S dX4_shift_21 ?_
    refine z_ialdB S hG hP (by omega) (by decide) dX4_shift_22 ?_
    rw [show r4 (f) (len) (sp) (k) (3) = (k) from rfl]
    refine z_iconst S dX4_shift_23 ?_
    refine z_icmp_ne S 35 dX4_shift_24 (by decide) (by omega) (by omega) (fun c_24 => ?_) (fun c_24 => ?_)
    · skip
      refine z_iload_n S dX4_shift_35 hl 1 rfl rfl ?_
      refine z_iconst S dX4_shift_36 ?_
      refine z_iload_n S dX4_shift_37 hl 0 rfl rfl ?_
      refine z_imul S dX4_shift_38 ?_
      refine z_iconst S dX4_shift_39 ?_
      refine z_isub S dX4_shift_40 ?_
      refine z_irem S dX4_shift_41 (by omega) (by omega) ?_
      refine z_istore (lv' := [(4, .int (zI (((w) / (sp)) % (((2) * (len)) - (2))))), (3, .int (zI (len))), (2, .int (zI ((w) / (sp)))), (0, .ref (q)), (1, .int (zI (w)))]) S dX4_shift_42 hl (by decide) rfl (fun ls hl => ?_)
      refine z_iload S dX4_shift_44 hl 0 rfl ?_
      refine z_iload_n S dX4_shift_46 hl 1 rfl rfl ?_
      refine z_icmp_ge S 55 dX4_shift_47 (by decide) (by omega) (by omega) (fun c_47 => ?_) (fun c_47 => ?_)
      · skip
        refine z_iconst S dX4_shift_55 ?_
        refine z_iload_n S dX4_shift_56 hl 1 rfl rfl ?_
        refine z_imul S dX4_shift_57 ?_
        refine z_iconst S dX4_shift_58 ?_
        refine z_isub S dX4_shift_59 ?_
        refine z_iload S dX4_shift_60 hl 0 rfl ?_
        refine z_isub S dX4_shift_62 ?_
        exact ret _ _ _ dX4_shift_63 (by rw [msh2 (by omega) (by omega)]; rw [if_neg (by omega)])
      · skip
        refine z_iload S dX4_shift_50 hl 0 rfl ?_
        refine z_goto S 63 dX4_shift_52 (by decide) ?_
        exact ret _ _ _ dX4_shift_63 (by rw [msh2 (by omega) (by omega)]; rw [if_pos (by omega)])
    · skip
      refine z_iload_n S dX4_shift_27 hl 0 rfl rfl ?_
      refine z_iload_n S dX4_shift_28 hl 1 rfl rfl ?_
      refine z_iload_n S dX4_shift_29 hl 0 rfl rfl ?_
      refine z_irem S dX4_shift_30 (by omega) (by omega) ?_
      refine z_isub S dX4_shift_31 ?_
      refine z_iload_n S dX4_shift_32 hl 0 rfl rfl ?_
      refine z_irem S dX4_shift_33 (by omega) (by omega) ?_
      exact ret _ _ _ dX4_shift_34 (by rw [msh1 (by omega) hm0 hm1])
  · skip
    refine z_iload_n S dX4_shift_16 hl 1 rfl rfl ?_
    refine z_iload_n S dX4_shift_17 hl 0 rfl rfl ?_
    refine z_irem S dX4_shift_18 (by omega) (by omega) ?_
    exact ret _ _ _ dX4_shift_19 (by rw [msh0 (by omega)])
theorem dX4_round_0 : decode cX4_round 0 = .ok (.aload_n 0, 1) := by decide +kernel
theorem dX4_round_1 : decode cX4_round 1 = .ok (.iconst 2, 1) := by decide +kernel
theorem dX4_round_2 : decode cX4_round 2 = .ok (.iaload, 1) := by decide +kernel
theorem dX4_round_3 : decode cX4_round 3 = .ok (.aload_n 0, 1) := by decide +kernel
theorem dX4_round_4 : decode cX4_round 4 = .ok (.iconst 3, 1) := by decide +kernel
theorem dX4_round_5 : decode cX4_round 5 = .ok (.iaload, 1) := by decide +kernel
theorem dX4_round_6 : decode cX4_round 6 = .ok (.iconst 2, 1) := by decide +kernel
theorem dX4_round_7 : decode cX4_round 7 = .ok (.if_icmp .ne 13, 3) := by decide +kernel
theorem dX4_round_10 : decode cX4_round 10 = .ok (.iconst 2, 1) := by decide +kernel
theorem dX4_round_11 : decode cX4_round 11 = .ok (.aload_n 0, 1) := by decide +kernel
theorem dX4_round_12 : decode cX4_round 12 = .ok (.iconst 1, 1) := by decide +kernel
theorem dX4_round_13 : decode cX4_round 13 = .ok (.iaload, 1) := by decide +kernel
theorem dX4_round_14 : decode cX4_round 14 = .ok (.imul, 1) := by decide +kernel
theorem dX4_round_15 : decode cX4_round 15 = .ok (.iconst 2, 1) := by decide +kernel
theorem dX4_round_16 : decode cX4_round 16 = .ok (.isub, 1) := by decide +kernel
theorem dX4_round_17 : decode cX4_round 17 = .ok (.goto 6, 3) := by decide +kernel
theorem dX4_round_20 : decode cX4_round 20 = .ok (.aload_n 0, 1) := by decide +kernel
theorem dX4_round_21 : decode cX4_round 21 = .ok (.iconst 1, 1) := by decide +kernel
theorem dX4_round_22 : decode cX4_round 22 = .ok (.iaload, 1) := by decide +kernel
theorem dX4_round_23 : decode cX4_round 23 = .ok (.imul, 1) := by decide +kernel
theorem dX4_round_24 : decode cX4_round 24 = .ok (.ireturn, 1) := by decide +kernel
theorem q5_155 : (Jvm.Cond.code ({ cls := "CyclepaintModel", name := "round", desc := "([I)I" } : Jvm.MethodName) prog_6_method_14_code (1 : Nat) (Option.some Jvm.ClassFile.FieldType.int)) ∈ lw_g := zg_of (zin5 (List.mem_of_getElem? (i := 155) rfl)) rfl
theorem q5_154 : (Jvm.Cond.static ({ cls := "CyclepaintModel", name := "round", desc := "([I)I" } : Jvm.MethodName)) ∈ lw_g := zg_of (zin5 (List.mem_of_getElem? (i := 154) rfl)) rfl
theorem ok_X4_round : zOS yX4_round cX4_round 1 ((Option.some Jvm.ClassFile.FieldType.int)) 1 := ⟨⟨q5_155, q1_3, by decide, by decide, by decide +kernel⟩, q5_154⟩
set_option maxHeartbeats 4000000 in
set_option maxRecDepth 100000 in
theorem c_X4_round (l : Launch) (G : zG) (q : Nat) (f len sp k : Int) (hr : (0 ≤ f ∧ f ≤ 16) ∧ (2 ≤ len ∧ len ≤ 16) ∧ (1 ≤ sp ∧ sp ≤ 9) ∧ 0 ≤ k ∧ k ≤ 2) : Met l yX4_round (wq yX4_round cX4_round 1 ((Option.some Jvm.ClassFile.FieldType.int))) (rmR 0 0) (va_Pc [.ref (q)] (zK G (hR4 G q f len sp k))) (zQ (some (.int ((zI (sp * cyc k len)))))) 0 0 zF := by
  refine z_enterI (by decide +kernel) (Nat.le_of_ble_eq_true rfl) ?_
  intro p env s m below meth cod Q S hG hP ret ls hl
  have hl : lv_has ls 1 [(0, .ref (q))] := hl
  refine z_aload_n S dX4_round_0 hl 0 rfl rfl ?_
  refine z_iconst S dX4_round_1 ?_
  refine z_ialdB S hG hP (by omega) (by decide) dX4_round_2 ?_
  rw [show r4 (f) (len) (sp) (k) (2) = (sp) from rfl]
  refine z_aload_n S dX4_round_3 hl 0 rfl rfl ?_
  refine z_iconst S dX4_round_4 ?_
  refine z_ialdB S hG hP (by omega) (by decide) dX4_round_5 ?_
  rw [show r4 (f) (len) (sp) (k) (3) = (k) from rfl]
  refine z_iconst S dX4_round_6 ?_
  refine z_icmp_ne S 20 dX4_round_7 (by decide) (by omega) (by omega) (fun c_7 => ?_) (fun c_7 => ?_)
  · skip
    refine z_aload_n S dX4_round_20 hl 0 rfl rfl ?_
    refine z_iconst S dX4_round_21 ?_
    refine z_ialdB S hG hP (by omega) (by decide) dX4_round_22 ?_
    rw [show r4 (f) (len) (sp) (k) (1) = (len) from rfl]
    refine z_imul S dX4_round_23 ?_
    exact ret _ _ _ dX4_round_24 (by unfold cyc; rw [if_neg (by omega)])
  · skip
    refine z_iconst S dX4_round_10 ?_
    refine z_aload_n S dX4_round_11 hl 0 rfl rfl ?_
    refine z_iconst S dX4_round_12 ?_
    refine z_ialdB S hG hP (by omega) (by decide) dX4_round_13 ?_
    rw [show r4 (f) (len) (sp) (k) (1) = (len) from rfl]
    refine z_imul S dX4_round_14 ?_
    refine z_iconst S dX4_round_15 ?_
    refine z_isub S dX4_round_16 ?_
    refine z_goto S 23 dX4_round_17 (by decide) ?_
    refine z_imul S dX4_round_23 ?_
    exact ret _ _ _ dX4_round_24 (by unfold cyc; rw [if_pos (by omega)])
theorem dX4_common_0 : decode cX4_common 0 = .ok (.iload_n 0, 1) := by decide +kernel
theorem dX4_common_1 : decode cX4_common 1 = .ok (.istore_n 2, 1) := by decide +kernel
theorem dX4_common_2 : decode cX4_common 2 = .ok (.iload_n 1, 1) := by decide +kernel
theorem dX4_common_3 : decode cX4_common 3 = .ok (.istore_n 3, 1) := by decide +kernel
theorem dX4_common_4 : decode cX4_common 4 = .ok (.iload_n 3, 1) := by decide +kernel
theorem dX4_common_5 : decode cX4_common 5 = .ok (.ifCond .eq 16, 3) := by decide +kernel
theorem dX4_common_8 : decode cX4_common 8 = .ok (.iload_n 2, 1) := by decide +kernel
theorem dX4_common_9 : decode cX4_common 9 = .ok (.iload_n 3, 1) := by decide +kernel
theorem dX4_common_10 : decode cX4_common 10 = .ok (.irem, 1) := by decide +kernel
theorem dX4_common_11 : decode cX4_common 11 = .ok (.istore 4, 2) := by decide +kernel
theorem dX4_common_13 : decode cX4_common 13 = .ok (.iload_n 3, 1) := by decide +kernel
theorem dX4_common_14 : decode cX4_common 14 = .ok (.istore_n 2, 1) := by decide +kernel
theorem dX4_common_15 : decode cX4_common 15 = .ok (.iload 4, 2) := by decide +kernel
theorem dX4_common_17 : decode cX4_common 17 = .ok (.istore_n 3, 1) := by decide +kernel
theorem dX4_common_18 : decode cX4_common 18 = .ok (.goto (-14), 3) := by decide +kernel
theorem dX4_common_21 : decode cX4_common 21 = .ok (.iload_n 0, 1) := by decide +kernel
theorem dX4_common_22 : decode cX4_common 22 = .ok (.iload_n 2, 1) := by decide +kernel
theorem dX4_common_23 : decode cX4_common 23 = .ok (.idiv, 1) := by decide +kernel
theorem dX4_common_24 : decode cX4_common 24 = .ok (.iload_n 1, 1) := by decide +kernel
theorem dX4_common_25 : decode cX4_common 25 = .ok (.imul, 1) := by decide +kernel
theorem dX4_common_26 : decode cX4_common 26 = .ok (.ireturn, 1) := by decide +kernel
theorem q5_158 : (Jvm.Cond.code ({ cls := "CyclepaintModel", name := "common", desc := "(II)I" } : Jvm.MethodName) prog_6_method_16_code (5 : Nat) (Option.some Jvm.ClassFile.FieldType.int)) ∈ lw_g := zg_of (zin5 (List.mem_of_getElem? (i := 158) rfl)) rfl
theorem q5_157 : (Jvm.Cond.static ({ cls := "CyclepaintModel", name := "common", desc := "(II)I" } : Jvm.MethodName)) ∈ lw_g := zg_of (zin5 (List.mem_of_getElem? (i := 157) rfl)) rfl
theorem ok_X4_common : zOS yX4_common cX4_common 5 ((Option.some Jvm.ClassFile.FieldType.int)) 2 := ⟨⟨q5_158, q1_3, by decide, by decide, by decide +kernel⟩, q5_157⟩
set_option maxHeartbeats 4000000 in
set_option maxRecDepth 100000 in
theorem c_X4_common (l : Launch) (G : zG) (x y : Int) (hx : 1 ≤ x ∧ x ≤ 2147483647) (hy : 1 ≤ y ∧ y ≤ 2147483647) : Met l yX4_common (wq yX4_common cX4_common 5 ((Option.some Jvm.ClassFile.FieldType.int))) (rmR 0 0) (va_Pc [.int (zI (x)), .int (zI (y))] (zK G (fun _ => True))) (zQ (some (.int ((zI (lcI x y)))))) 0 0 zF := by
  refine z_enterI (by decide +kernel) (Nat.le_of_ble_eq_true rfl) ?_
  intro p env s m below meth cod Q S hG hP ret ls hl
  have hl : lv_has ls 5 [(0, .int (zI (x))), (1, .int (zI (y)))] := hl
  refine z_iload_n S dX4_common_0 hl 0 rfl rfl ?_
  refine z_istore_n (lv' := [(2, .int (zI (x))), (0, .int (zI (x))), (1, .int (zI (y)))]) S dX4_common_1 hl rfl (by decide) rfl (fun ls hl => ?_)
  refine z_iload_n S dX4_common_2 hl 2 rfl rfl ?_
  refine z_istore_n (lv' := [(3, .int (zI (y))), (2, .int (zI (x))), (0, .int (zI (x))), (1, .int (zI (y)))]) S dX4_common_3 hl rfl (by decide) rfl (fun ls hl => ?_)
  have loop_4 : ∀ (nn : Nat) (u : Int) (v : Int), ((1 ≤ u ∧ u ≤ 2147483647) ∧ (0 ≤ v ∧ v ≤ 2147483647)) → (gI u v = gI x y) → (v.toNat) < nn → ∀ ls, lv_has ls 5 [(3, .int (zI (v))), (2, .int (zI (u))), (0, .int (zI (x))), (1, .int (zI (y)))] → W p l env (rmR 0 0) s m ([.int (zI (x)), .int (zI (y))] : List Value).toArray below meth cod s.heap [] 0 0 Q (F0 m 4 ls []) := by
    intro nn
    induction nn with
    | zero => intro _ _ _ _ h; exact absurd h (Nat.not_lt_zero _)
    | succ nn ih_4 =>
      intro u v hu hg hm_4 ls hl
      refine z_iload_n S dX4_common_4 hl 0 rfl rfl ?_
      refine z_if_eq S 21 dX4_common_5 (by decide) (by omega) (fun c_5 => ?_) (fun c_5 => ?_)
      · skip
        have hgu : u = gI x y := by rw [← hg, show v = 0 by omega, gI_0 (by omega)]
        refine z_iload_n S dX4_common_21 hl 2 rfl rfl ?_
        refine z_iload_n S dX4_common_22 hl 1 rfl rfl ?_
        refine z_idiv S dX4_common_23 (by omega) (by omega) ?_
        refine z_iload_n S dX4_common_24 hl 3 rfl rfl ?_
        refine z_imul S dX4_common_25 ?_
        exact ret _ _ _ dX4_common_26 (by rw [hgu]; rfl)
      · skip
        refine z_iload_n S dX4_common_8 hl 1 rfl rfl ?_
        refine z_iload_n S dX4_common_9 hl 0 rfl rfl ?_
        have hm0 := Int.emod_nonneg u (show v ≠ 0 by omega)
        have hm1 := Int.emod_lt_of_pos u (show 0 < v by omega)
        refine z_irem S dX4_common_10 (by omega) (by omega) ?_
        refine z_istore (lv' := [(4, .int (zI ((u) % (v)))), (3, .int (zI (v))), (2, .int (zI (u))), (0, .int (zI (x))), (1, .int (zI (y)))]) S dX4_common_11 hl (by decide) rfl (fun ls hl => ?_)
        refine z_iload_n S dX4_common_13 hl 1 rfl rfl ?_
        refine z_istore_n (lv' := [(2, .int (zI (v))), (4, .int (zI ((u) % (v)))), (3, .int (zI (v))), (0, .int (zI (x))), (1, .int (zI (y)))]) S dX4_common_14 hl rfl (by decide) rfl (fun ls hl => ?_)
        refine z_iload S dX4_common_15 hl 1 rfl ?_
        refine z_istore_n (lv' := [(3, .int (zI ((u) % (v)))), (2, .int (zI (v))), (4, .int (zI ((u) % (v)))), (0, .int (zI (x))), (1, .int (zI (y)))]) S dX4_common_17 hl rfl (by decide) rfl (fun ls hl => ?_)
        refine z_goto S 4 dX4_common_18 (by decide) ?_
        exact ih_4 (v) ((u) % (v)) (by omega) (by rw [gI_s (by omega) (by omega)]; exact hg) (by omega) ls (lv_sub hl [0, 1, 3, 4] rfl)
  exact loop_4 _ (x) (y) (by omega) (rfl) (Nat.lt_succ_self _) ls (lv_sub hl [0, 1, 2, 3] rfl)
theorem dX4_light_0 : decode cX4_light 0 = .ok (.iconst 2, 1) := by decide +kernel
theorem dX4_light_1 : decode cX4_light 1 = .ok (.iload_n 0, 1) := by decide +kernel
theorem dX4_light_2 : decode cX4_light 2 = .ok (.bipush 16, 2) := by decide +kernel
theorem dX4_light_4 : decode cX4_light 4 = .ok (.idiv, 1) := by decide +kernel
theorem dX4_light_5 : decode cX4_light 5 = .ok (.imul, 1) := by decide +kernel
theorem dX4_light_6 : decode cX4_light 6 = .ok (.iconst 3, 1) := by decide +kernel
theorem dX4_light_7 : decode cX4_light 7 = .ok (.iload_n 0, 1) := by decide +kernel
theorem dX4_light_8 : decode cX4_light 8 = .ok (.iconst 4, 1) := by decide +kernel
theorem dX4_light_9 : decode cX4_light 9 = .ok (.idiv, 1) := by decide +kernel
theorem dX4_light_10 : decode cX4_light 10 = .ok (.iconst 4, 1) := by decide +kernel
theorem dX4_light_11 : decode cX4_light 11 = .ok (.irem, 1) := by decide +kernel
theorem dX4_light_12 : decode cX4_light 12 = .ok (.imul, 1) := by decide +kernel
theorem dX4_light_13 : decode cX4_light 13 = .ok (.iadd, 1) := by decide +kernel
theorem dX4_light_14 : decode cX4_light 14 = .ok (.iload_n 0, 1) := by decide +kernel
theorem dX4_light_15 : decode cX4_light 15 = .ok (.iconst 4, 1) := by decide +kernel
theorem dX4_light_16 : decode cX4_light 16 = .ok (.irem, 1) := by decide +kernel
theorem dX4_light_17 : decode cX4_light 17 = .ok (.iadd, 1) := by decide +kernel
theorem dX4_light_18 : decode cX4_light 18 = .ok (.ireturn, 1) := by decide +kernel
theorem q5_209 : (Jvm.Cond.code ({ cls := "CyclepaintModel", name := "light", desc := "(I)I" } : Jvm.MethodName) prog_6_method_10_code (1 : Nat) (Option.some Jvm.ClassFile.FieldType.int)) ∈ lw_g := zg_of (zin5 (List.mem_of_getElem? (i := 209) rfl)) rfl
theorem q5_208 : (Jvm.Cond.static ({ cls := "CyclepaintModel", name := "light", desc := "(I)I" } : Jvm.MethodName)) ∈ lw_g := zg_of (zin5 (List.mem_of_getElem? (i := 208) rfl)) rfl
theorem ok_X4_light : zOS yX4_light cX4_light 1 ((Option.some Jvm.ClassFile.FieldType.int)) 1 := ⟨⟨q5_209, q1_3, by decide, by decide, by decide +kernel⟩, q5_208⟩
set_option maxHeartbeats 4000000 in
set_option maxRecDepth 100000 in
theorem c_X4_light (l : Launch) (G : zG) (C : Int32) : Met l yX4_light (wq yX4_light cX4_light 1 ((Option.some Jvm.ClassFile.FieldType.int))) (rmR 0 0) (va_Pc [.int (C)] (zK G (fun _ => True))) (zQ (some (.int ((lgt C))))) 0 0 zF := by
  refine z_enterI (by decide +kernel) (Nat.le_of_ble_eq_true rfl) ?_
  intro p env s m below meth cod Q S hG hP ret ls hl
  have hl : lv_has ls 1 [(0, .int (C))] := hl
  refine z_iconst S dX4_light_0 ?_
  refine z_iload_n S dX4_light_1 hl 0 rfl rfl ?_
  refine z_bipush S dX4_light_2 rfl ?_
  refine lv_idiv S.1 S.2.1 dX4_light_4 (by decide) ?_
  refine lv_imul S.1 S.2.1 dX4_light_5 ?_
  refine z_iconst S dX4_light_6 ?_
  refine z_iload_n S dX4_light_7 hl 0 rfl rfl ?_
  refine z_iconst S dX4_light_8 ?_
  refine lv_idiv S.1 S.2.1 dX4_light_9 (by decide) ?_
  refine z_iconst S dX4_light_10 ?_
  refine lv_irem S.1 S.2.1 dX4_light_11 (by decide) ?_
  refine lv_imul S.1 S.2.1 dX4_light_12 ?_
  refine lv_iadd S.1 S.2.1 dX4_light_13 ?_
  refine z_iload_n S dX4_light_14 hl 0 rfl rfl ?_
  refine z_iconst S dX4_light_15 ?_
  refine lv_irem S.1 S.2.1 dX4_light_16 (by decide) ?_
  refine lv_iadd S.1 S.2.1 dX4_light_17 ?_
  exact ret _ _ _ dX4_light_18 (rfl)
theorem dX4_isIn_0 : decode cX4_isIn 0 = .ok (.iload_n 0, 1) := by decide +kernel
theorem dX4_isIn_1 : decode cX4_isIn 1 = .ok (.iload_n 1, 1) := by decide +kernel
theorem dX4_isIn_2 : decode cX4_isIn 2 = .ok (.if_icmp .lt 12, 3) := by decide +kernel
theorem dX4_isIn_5 : decode cX4_isIn 5 = .ok (.iload_n 0, 1) := by decide +kernel
theorem dX4_isIn_6 : decode cX4_isIn 6 = .ok (.iload_n 2, 1) := by decide +kernel
theorem dX4_isIn_7 : decode cX4_isIn 7 = .ok (.if_icmp .gt 7, 3) := by decide +kernel
theorem dX4_isIn_10 : decode cX4_isIn 10 = .ok (.iconst 1, 1) := by decide +kernel
theorem dX4_isIn_11 : decode cX4_isIn 11 = .ok (.goto 4, 3) := by decide +kernel
theorem dX4_isIn_14 : decode cX4_isIn 14 = .ok (.iconst 0, 1) := by decide +kernel
theorem dX4_isIn_15 : decode cX4_isIn 15 = .ok (.ireturn, 1) := by decide +kernel
theorem q5_20 : (Jvm.Cond.code ({ cls := "CyclepaintModel", name := "isIn", desc := "(III)Z" } : Jvm.MethodName) prog_6_method_3_code (3 : Nat) (Option.some Jvm.ClassFile.FieldType.boolean)) ∈ lw_g := zg_of (zin5 (List.mem_of_getElem? (i := 20) rfl)) rfl
theorem q5_19 : (Jvm.Cond.static ({ cls := "CyclepaintModel", name := "isIn", desc := "(III)Z" } : Jvm.MethodName)) ∈ lw_g := zg_of (zin5 (List.mem_of_getElem? (i := 19) rfl)) rfl
theorem ok_X4_isIn : zOS yX4_isIn cX4_isIn 3 ((Option.some Jvm.ClassFile.FieldType.boolean)) 3 := ⟨⟨q5_20, q1_3, by decide, by decide, by decide +kernel⟩, q5_19⟩
set_option maxHeartbeats 4000000 in
set_option maxRecDepth 100000 in
theorem c_X4_isIn (l : Launch) (G : zG) (x y z : Int) (hr : rg x ∧ rg y ∧ rg z) : Met l yX4_isIn (wq yX4_isIn cX4_isIn 3 ((Option.some Jvm.ClassFile.FieldType.boolean))) (rmR 0 0) (va_Pc [.int (zI (x)), .int (zI (y)), .int (zI (z))] (zK G (fun _ => True))) (zQ (some (.int (bI (decide (y ≤ x) && decide (x ≤ z)))))) 0 0 zF := by
  refine z_enterB (by decide +kernel) (Nat.le_of_ble_eq_true rfl) ?_
  intro p env s m below meth cod Q S hG hP ret ls hl
  have hl : lv_has ls 3 [(0, .int (zI (x))), (1, .int (zI (y))), (2, .int (zI (z)))] := hl
  refine z_iload_n S dX4_isIn_0 hl 0 rfl rfl ?_
  refine z_iload_n S dX4_isIn_1 hl 1 rfl rfl ?_
  refine z_icmp_lt S 14 dX4_isIn_2 (by decide) (by omega) (by omega) (fun c_2 => ?_) (fun c_2 => ?_)
  · skip
    refine z_iconst S dX4_isIn_14 ?_
    exact ret _ _ _ dX4_isIn_15 (by rw [show (decide (y ≤ x) && decide (x ≤ z)) = false from by simp; omega]; rfl)
  · skip
    refine z_iload_n S dX4_isIn_5 hl 0 rfl rfl ?_
    refine z_iload_n S dX4_isIn_6 hl 2 rfl rfl ?_
    refine z_icmp_gt S 14 dX4_isIn_7 (by decide) (by omega) (by omega) (fun c_7 => ?_) (fun c_7 => ?_)
    · skip
      refine z_iconst S dX4_isIn_14 ?_
      exact ret _ _ _ dX4_isIn_15 (by rw [show (decide (y ≤ x) && decide (x ≤ z)) = false from by simp; omega]; rfl)
    · skip
      refine z_iconst S dX4_isIn_10 ?_
      refine z_goto S 15 dX4_isIn_11 (by decide) ?_
      exact ret _ _ _ dX4_isIn_15 (by rw [show (decide (y ≤ x) && decide (x ≤ z)) = true from by simp; omega]; rfl)
theorem dX4_rangeOf_0 : decode cX4_rangeOf 0 = .ok (.iconst 0, 1) := by decide +kernel
theorem dX4_rangeOf_1 : decode cX4_rangeOf 1 = .ok (.istore_n 2, 1) := by decide +kernel
theorem dX4_rangeOf_2 : decode cX4_rangeOf 2 = .ok (.iload_n 2, 1) := by decide +kernel
theorem dX4_rangeOf_3 : decode cX4_rangeOf 3 = .ok (.aload_n 0, 1) := by decide +kernel
theorem dX4_rangeOf_4 : decode cX4_rangeOf 4 = .ok (.getfield 23, 3) := by decide +kernel
theorem dX4_rangeOf_7 : decode cX4_rangeOf 7 = .ok (.invokevirtual 41, 3) := by decide +kernel
theorem dX4_rangeOf_10 : decode cX4_rangeOf 10 = .ok (.if_icmp .ge 59, 3) := by decide +kernel
theorem dX4_rangeOf_13 : decode cX4_rangeOf 13 = .ok (.iload_n 1, 1) := by decide +kernel
theorem dX4_rangeOf_14 : decode cX4_rangeOf 14 = .ok (.aload_n 0, 1) := by decide +kernel
theorem dX4_rangeOf_15 : decode cX4_rangeOf 15 = .ok (.getfield 23, 3) := by decide +kernel
theorem dX4_rangeOf_18 : decode cX4_rangeOf 18 = .ok (.iload_n 2, 1) := by decide +kernel
theorem dX4_rangeOf_19 : decode cX4_rangeOf 19 = .ok (.invokevirtual 46, 3) := by decide +kernel
theorem dX4_rangeOf_22 : decode cX4_rangeOf 22 = .ok (.checkcast 50, 3) := by decide +kernel
theorem dX4_rangeOf_25 : decode cX4_rangeOf 25 = .ok (.iconst 0, 1) := by decide +kernel
theorem dX4_rangeOf_26 : decode cX4_rangeOf 26 = .ok (.iaload, 1) := by decide +kernel
theorem dX4_rangeOf_27 : decode cX4_rangeOf 27 = .ok (.if_icmp .lt 36, 3) := by decide +kernel
theorem dX4_rangeOf_30 : decode cX4_rangeOf 30 = .ok (.iload_n 1, 1) := by decide +kernel
theorem dX4_rangeOf_31 : decode cX4_rangeOf 31 = .ok (.aload_n 0, 1) := by decide +kernel
theorem dX4_rangeOf_32 : decode cX4_rangeOf 32 = .ok (.getfield 23, 3) := by decide +kernel
theorem dX4_rangeOf_35 : decode cX4_rangeOf 35 = .ok (.iload_n 2, 1) := by decide +kernel
theorem dX4_rangeOf_36 : decode cX4_rangeOf 36 = .ok (.invokevirtual 46, 3) := by decide +kernel
theorem dX4_rangeOf_39 : decode cX4_rangeOf 39 = .ok (.checkcast 50, 3) := by decide +kernel
theorem dX4_rangeOf_42 : decode cX4_rangeOf 42 = .ok (.iconst 0, 1) := by decide +kernel
theorem dX4_rangeOf_43 : decode cX4_rangeOf 43 = .ok (.iaload, 1) := by decide +kernel
theorem dX4_rangeOf_44 : decode cX4_rangeOf 44 = .ok (.aload_n 0, 1) := by decide +kernel
theorem dX4_rangeOf_45 : decode cX4_rangeOf 45 = .ok (.getfield 23, 3) := by decide +kernel
theorem dX4_rangeOf_48 : decode cX4_rangeOf 48 = .ok (.iload_n 2, 1) := by decide +kernel
theorem dX4_rangeOf_49 : decode cX4_rangeOf 49 = .ok (.invokevirtual 46, 3) := by decide +kernel
theorem dX4_rangeOf_52 : decode cX4_rangeOf 52 = .ok (.checkcast 50, 3) := by decide +kernel
theorem dX4_rangeOf_55 : decode cX4_rangeOf 55 = .ok (.iconst 1, 1) := by decide +kernel
theorem dX4_rangeOf_56 : decode cX4_rangeOf 56 = .ok (.iaload, 1) := by decide +kernel
theorem dX4_rangeOf_57 : decode cX4_rangeOf 57 = .ok (.iadd, 1) := by decide +kernel
theorem dX4_rangeOf_58 : decode cX4_rangeOf 58 = .ok (.if_icmp .ge 5, 3) := by decide +kernel
theorem dX4_rangeOf_61 : decode cX4_rangeOf 61 = .ok (.iload_n 2, 1) := by decide +kernel
theorem dX4_rangeOf_62 : decode cX4_rangeOf 62 = .ok (.ireturn, 1) := by decide +kernel
theorem dX4_rangeOf_63 : decode cX4_rangeOf 63 = .ok (.iinc 2 1, 3) := by decide +kernel
theorem dX4_rangeOf_66 : decode cX4_rangeOf 66 = .ok (.goto (-64), 3) := by decide +kernel
theorem dX4_rangeOf_69 : decode cX4_rangeOf 69 = .ok (.iconst (-1), 1) := by decide +kernel
theorem dX4_rangeOf_70 : decode cX4_rangeOf 70 = .ok (.ireturn, 1) := by decide +kernel
theorem q4_232 : (Jvm.Cond.fieldLink "CyclepaintModel" (23 : Nat) "CyclepaintModel" "ranges" "Ljava/util/ArrayList;") ∈ lw_g := zg_of (zin4 (List.mem_of_getElem? (i := 232) rfl)) rfl
theorem q5_40 : (Jvm.Cond.methodLink "CyclepaintModel" (41 : Nat) ({ cls := "java/util/ArrayList", name := "size", desc := "()I" } : Jvm.MethodName)) ∈ lw_g := zg_of (zin5 (List.mem_of_getElem? (i := 40) rfl)) rfl
theorem q5_52 : (Jvm.Cond.methodLink "CyclepaintModel" (46 : Nat) ({ cls := "java/util/ArrayList", name := "get", desc := "(I)Ljava/lang/Object;" } : Jvm.MethodName)) ∈ lw_g := zg_of (zin5 (List.mem_of_getElem? (i := 52) rfl)) rfl
theorem q5_64 : (Jvm.Cond.classLink "CyclepaintModel" (50 : Nat) "[I") ∈ lw_g := zg_of (zin5 (List.mem_of_getElem? (i := 64) rfl)) rfl
theorem q5_51 : (Jvm.Cond.code ({ cls := "CyclepaintModel", name := "rangeOf", desc := "(I)I" } : Jvm.MethodName) prog_6_method_11_code (3 : Nat) (Option.some Jvm.ClassFile.FieldType.int)) ∈ lw_g := zg_of (zin5 (List.mem_of_getElem? (i := 51) rfl)) rfl
theorem q5_50 : (Jvm.Cond.instanceMethod ({ cls := "CyclepaintModel", name := "rangeOf", desc := "(I)I" } : Jvm.MethodName)) ∈ lw_g := zg_of (zin5 (List.mem_of_getElem? (i := 50) rfl)) rfl
theorem qs_23 : Cond.selects "CyclepaintModel" (⟨"CyclepaintModel", "rangeOf", "(I)I"⟩ : MethodName) (⟨"CyclepaintModel", "rangeOf", "(I)I"⟩ : MethodName) ∈ lw_g := zg_of (zinS (List.mem_of_getElem? (i := 23) rfl)) rfl
theorem ok_X4_rangeOf : zOV yX4_rangeOf cX4_rangeOf 3 ((Option.some Jvm.ClassFile.FieldType.int)) 1 := ⟨⟨q5_51, q1_3, by decide, by decide, by decide +kernel⟩, q5_50, qs_23⟩
set_option maxHeartbeats 4000000 in
set_option maxRecDepth 100000 in
theorem c_X4_rangeOf (l : Launch) (G : zG) (σ : St) (b : Nat → Nat) (th m1 m2 : Int32) (e : Int) (he : -1 ≤ e ∧ e ≤ 16) : Met l yX4_rangeOf (wq yX4_rangeOf cX4_rangeOf 3 ((Option.some Jvm.ClassFile.FieldType.int))) (rmR 3 64) (va_Pc [.ref (b 0), .int (zI (e))] (zK G (hMod G σ b th m1 m2))) (zQ (some (.int ((zI (rgOf σ e)))))) 0 0 zF := by
  refine z_enterI (by decide +kernel) (Nat.le_of_ble_eq_true rfl) ?_
  intro p env s m below meth cod Q S hG hP ret ls hl
  have hl : lv_has ls 3 [(0, .ref (b 0)), (1, .int (zI (e)))] := hl
  have hO := hP.2.2.2.2.2.2.2.2.2
  have hrn := hO.1
  refine z_iconst S dX4_rangeOf_0 ?_
  refine z_istore_n (lv' := [(2, .int (zI (0))), (0, .ref (b 0)), (1, .int (zI (e)))]) S dX4_rangeOf_1 hl rfl (by decide) rfl (fun ls hl => ?_)
  have loop_2 : ∀ (nn : Nat) (k : Int), (0 ≤ k ∧ k ≤ σ.rn) → (∀ t : Int, 0 ≤ t → t < k → (fun j => rgIn σ j e) t = false) → ((σ.rn - k).toNat) < nn → ∀ ls, lv_has ls 3 [(2, .int (zI (k))), (0, .ref (b 0)), (1, .int (zI (e)))] → W p l env (rmR 3 64) s m ([.ref (b 0), .int (zI (e))] : List Value).toArray below meth cod s.heap [] 0 0 Q (F0 m 2 ls []) := by
    intro nn
    induction nn with
    | zero => intro _ _ _ h; exact absurd h (Nat.not_lt_zero _)
    | succ nn ih_2 =>
      intro k hk hI hm_2 ls hl
      refine z_iload_n S dX4_rangeOf_2 hl 0 rfl rfl ?_
      refine z_aload_n S dX4_rangeOf_3 hl 1 rfl rfl ?_
      refine z_get S hG hP.1 zc_X4 6 (by decide) q4_232 rfl rfl dX4_rangeOf_4 ?_
      refine z_callVs S hG (c_alSize l G (b 3) (b 5) m1 σ.rn) ok_Jx4a65c_size_8abf5 hP.2.2.2.1 zc_Jx4a65c rfl q5_40 (hP.2.2.2.1) ⟨rfl, rfl, by decide, by decide⟩ ⟨Nat.zero_le _, Nat.zero_le _⟩ rfl (Nat.le_of_ble_eq_true rfl) hl.1 rfl dX4_rangeOf_7 ?_
      refine z_icmp_ge S 69 dX4_rangeOf_10 (by decide) (by omega) (by omega) (fun c_10 => ?_) (fun c_10 => ?_)
      · skip
        refine z_iconst S dX4_rangeOf_69 ?_
        exact ret _ _ _ dX4_rangeOf_70 (by rw [rgOf_none (fun t h0 h1 => hI t h0 (by omega))])
      · skip
        have hok := hO.2 k hk.1 (by omega)
        refine z_iload_n S dX4_rangeOf_13 hl 2 rfl rfl ?_
        refine z_aload_n S dX4_rangeOf_14 hl 1 rfl rfl ?_
        refine z_get S hG hP.1 zc_X4 6 (by decide) q4_232 rfl rfl dX4_rangeOf_15 ?_
        refine z_iload_n S dX4_rangeOf_18 hl 0 rfl rfl ?_
        refine z_callVs S hG (c_alGet l G (b 3) (b 5) m1 σ.rn (elR σ b) (k) (b (8 + Int.toNat (k))) (if_pos (by omega)) (by omega) (by omega)) ok_Jx4a65c_get_915e3 hP.2.2.2.1 zc_Jx4a65c rfl q5_52 (⟨hP.2.2.2.1, hP.2.2.2.2.2.1 (by omega)⟩) ⟨rfl, rfl, by decide, by decide⟩ ⟨Nat.zero_le _, Nat.zero_le _⟩ rfl (Nat.le_of_ble_eq_true rfl) hl.1 rfl dX4_rangeOf_19 ?_
        refine z_castI S hG (hP.2.2.2.2.2.2.2.1 (k) (by omega) (by omega)) q5_64 dX4_rangeOf_22 ?_
        refine z_iconst S dX4_rangeOf_25 ?_
        refine z_ialdB S hG (hP.2.2.2.2.2.2.2.1 (k) (by omega) (by omega)) (by omega) (by decide) dX4_rangeOf_26 ?_
        rw [show r4 (σ.F (k)) (σ.L (k)) (σ.S (k)) (σ.K (k)) (0) = (σ.F (k)) from rfl]
        refine z_icmp_lt S 63 dX4_rangeOf_27 (by decide) (by omega) (by omega) (fun c_27 => ?_) (fun c_27 => ?_)
        · skip
          refine z_iinc (lv' := [(2, .int (zI (k + 1))), (0, .ref (b 0)), (1, .int (zI (e)))]) S dX4_rangeOf_63 hl 0 rfl (by decide) rfl (fun ls hl => ?_)
          refine z_goto S 2 dX4_rangeOf_66 (by decide) ?_
          exact ih_2 (k + 1) (by omega) (lt_stp hI (by simp [rgIn]; omega)) (by omega) ls (lv_sub hl [0, 1, 2] rfl)
        · skip
          refine z_iload_n S dX4_rangeOf_30 hl 2 rfl rfl ?_
          refine z_aload_n S dX4_rangeOf_31 hl 1 rfl rfl ?_
          refine z_get S hG hP.1 zc_X4 6 (by decide) q4_232 rfl rfl dX4_rangeOf_32 ?_
          refine z_iload_n S dX4_rangeOf_35 hl 0 rfl rfl ?_
          refine z_callVs S hG (c_alGet l G (b 3) (b 5) m1 σ.rn (elR σ b) (k) (b (8 + Int.toNat (k))) (if_pos (by omega)) (by omega) (by omega)) ok_Jx4a65c_get_915e3 hP.2.2.2.1 zc_Jx4a65c rfl q5_52 (⟨hP.2.2.2.1, hP.2.2.2.2.2.1 (by omega)⟩) ⟨rfl, rfl, by decide, by decide⟩ ⟨Nat.zero_le _, Nat.zero_le _⟩ rfl (Nat.le_of_ble_eq_true rfl) hl.1 rfl dX4_rangeOf_36 ?_
          refine z_castI S hG (hP.2.2.2.2.2.2.2.1 (k) (by omega) (by omega)) q5_64 dX4_rangeOf_39 ?_
          refine z_iconst S dX4_rangeOf_42 ?_
          refine z_ialdB S hG (hP.2.2.2.2.2.2.2.1 (k) (by omega) (by omega)) (by omega) (by decide) dX4_rangeOf_43 ?_
          rw [show r4 (σ.F (k)) (σ.L (k)) (σ.S (k)) (σ.K (k)) (0) = (σ.F (k)) from rfl]
          refine z_aload_n S dX4_rangeOf_44 hl 1 rfl rfl ?_
          refine z_get S hG hP.1 zc_X4 6 (by decide) q4_232 rfl rfl dX4_rangeOf_45 ?_
          refine z_iload_n S dX4_rangeOf_48 hl 0 rfl rfl ?_
          refine z_callVs S hG (c_alGet l G (b 3) (b 5) m1 σ.rn (elR σ b) (k) (b (8 + Int.toNat (k))) (if_pos (by omega)) (by omega) (by omega)) ok_Jx4a65c_get_915e3 hP.2.2.2.1 zc_Jx4a65c rfl q5_52 (⟨hP.2.2.2.1, hP.2.2.2.2.2.1 (by omega)⟩) ⟨rfl, rfl, by decide, by decide⟩ ⟨Nat.zero_le _, Nat.zero_le _⟩ rfl (Nat.le_of_ble_eq_true rfl) hl.1 rfl dX4_rangeOf_49 ?_
          refine z_castI S hG (hP.2.2.2.2.2.2.2.1 (k) (by omega) (by omega)) q5_64 dX4_rangeOf_52 ?_
          refine z_iconst S dX4_rangeOf_55 ?_
          refine z_ialdB S hG (hP.2.2.2.2.2.2.2.1 (k) (by omega) (by omega)) (by omega) (by decide) dX4_rangeOf_56 ?_
          rw [show r4 (σ.F (k)) (σ.L (k)) (σ.S (k)) (σ.K (k)) (1) = (σ.L (k)) from rfl]
          refine z_iadd S dX4_rangeOf_57 ?_
          refine z_icmp_ge S 63 dX4_rangeOf_58 (by decide) (by omega) (by omega) (fun c_58 => ?_) (fun c_58 => ?_)
          · skip
            refine z_iinc (lv' := [(2, .int (zI (k + 1))), (0, .ref (b 0)), (1, .int (zI (e)))]) S dX4_rangeOf_63 hl 0 rfl (by decide) rfl (fun ls hl => ?_)
            refine z_goto S 2 dX4_rangeOf_66 (by decide) ?_
            exact ih_2 (k + 1) (by omega) (lt_stp hI (by simp [rgIn]; omega)) (by omega) ls (lv_sub hl [0, 1, 2] rfl)
          · skip
            refine z_iload_n S dX4_rangeOf_61 hl 0 rfl rfl ?_
            exact ret _ _ _ dX4_rangeOf_62 (by rw [rgOf_first hrn.2 hk.1 (by omega) hI (rgIn_iff.mpr ⟨by omega, by omega, by omega⟩)])
  exact loop_2 _ (0) (by omega) (lt_st0) (Nat.lt_succ_self _) ls (lv_sub hl [0, 1, 2] rfl)
theorem dX4_show_0 : decode cX4_show 0 = .ok (.aload_n 0, 1) := by decide +kernel
theorem dX4_show_1 : decode cX4_show 1 = .ok (.iload_n 1, 1) := by decide +kernel
theorem dX4_show_2 : decode cX4_show 2 = .ok (.invokevirtual 51, 3) := by decide +kernel
theorem dX4_show_5 : decode cX4_show 5 = .ok (.istore_n 3, 1) := by decide +kernel
theorem dX4_show_6 : decode cX4_show 6 = .ok (.iload_n 3, 1) := by decide +kernel
theorem dX4_show_7 : decode cX4_show 7 = .ok (.iconst (-1), 1) := by decide +kernel
theorem dX4_show_8 : decode cX4_show 8 = .ok (.if_icmp .ne 10, 3) := by decide +kernel
theorem dX4_show_11 : decode cX4_show 11 = .ok (.aload_n 0, 1) := by decide +kernel
theorem dX4_show_12 : decode cX4_show 12 = .ok (.getfield 13, 3) := by decide +kernel
theorem dX4_show_15 : decode cX4_show 15 = .ok (.iload_n 1, 1) := by decide +kernel
theorem dX4_show_16 : decode cX4_show 16 = .ok (.iaload, 1) := by decide +kernel
theorem dX4_show_17 : decode cX4_show 17 = .ok (.ireturn, 1) := by decide +kernel
theorem dX4_show_18 : decode cX4_show 18 = .ok (.aload_n 0, 1) := by decide +kernel
theorem dX4_show_19 : decode cX4_show 19 = .ok (.getfield 23, 3) := by decide +kernel
theorem dX4_show_22 : decode cX4_show 22 = .ok (.iload_n 3, 1) := by decide +kernel
theorem dX4_show_23 : decode cX4_show 23 = .ok (.invokevirtual 46, 3) := by decide +kernel
theorem dX4_show_26 : decode cX4_show 26 = .ok (.checkcast 50, 3) := by decide +kernel
theorem dX4_show_29 : decode cX4_show 29 = .ok (.astore 4, 2) := by decide +kernel
theorem dX4_show_31 : decode cX4_show 31 = .ok (.aload_n 0, 1) := by decide +kernel
theorem dX4_show_32 : decode cX4_show 32 = .ok (.getfield 13, 3) := by decide +kernel
theorem dX4_show_35 : decode cX4_show 35 = .ok (.aload 4, 2) := by decide +kernel
theorem dX4_show_37 : decode cX4_show 37 = .ok (.iconst 0, 1) := by decide +kernel
theorem dX4_show_38 : decode cX4_show 38 = .ok (.iaload, 1) := by decide +kernel
theorem dX4_show_39 : decode cX4_show 39 = .ok (.iload_n 1, 1) := by decide +kernel
theorem dX4_show_40 : decode cX4_show 40 = .ok (.aload 4, 2) := by decide +kernel
theorem dX4_show_42 : decode cX4_show 42 = .ok (.iconst 0, 1) := by decide +kernel
theorem dX4_show_43 : decode cX4_show 43 = .ok (.iaload, 1) := by decide +kernel
theorem dX4_show_44 : decode cX4_show 44 = .ok (.isub, 1) := by decide +kernel
theorem dX4_show_45 : decode cX4_show 45 = .ok (.aload 4, 2) := by decide +kernel
theorem dX4_show_47 : decode cX4_show 47 = .ok (.iload_n 2, 1) := by decide +kernel
theorem dX4_show_48 : decode cX4_show 48 = .ok (.invokestatic 55, 3) := by decide +kernel
theorem dX4_show_51 : decode cX4_show 51 = .ok (.isub, 1) := by decide +kernel
theorem dX4_show_52 : decode cX4_show 52 = .ok (.aload 4, 2) := by decide +kernel
theorem dX4_show_54 : decode cX4_show 54 = .ok (.iconst 1, 1) := by decide +kernel
theorem dX4_show_55 : decode cX4_show 55 = .ok (.iaload, 1) := by decide +kernel
theorem dX4_show_56 : decode cX4_show 56 = .ok (.iadd, 1) := by decide +kernel
theorem dX4_show_57 : decode cX4_show 57 = .ok (.aload 4, 2) := by decide +kernel
theorem dX4_show_59 : decode cX4_show 59 = .ok (.iconst 1, 1) := by decide +kernel
theorem dX4_show_60 : decode cX4_show 60 = .ok (.iaload, 1) := by decide +kernel
theorem dX4_show_61 : decode cX4_show 61 = .ok (.irem, 1) := by decide +kernel
theorem dX4_show_62 : decode cX4_show 62 = .ok (.iadd, 1) := by decide +kernel
theorem dX4_show_63 : decode cX4_show 63 = .ok (.iaload, 1) := by decide +kernel
theorem dX4_show_64 : decode cX4_show 64 = .ok (.ireturn, 1) := by decide +kernel
theorem q5_48 : (Jvm.Cond.methodLink "CyclepaintModel" (51 : Nat) ({ cls := "CyclepaintModel", name := "rangeOf", desc := "(I)I" } : Jvm.MethodName)) ∈ lw_g := zg_of (zin5 (List.mem_of_getElem? (i := 48) rfl)) rfl
theorem q4_230 : (Jvm.Cond.fieldLink "CyclepaintModel" (13 : Nat) "CyclepaintModel" "bases" "[I") ∈ lw_g := zg_of (zin4 (List.mem_of_getElem? (i := 230) rfl)) rfl
theorem q5_117 : (Jvm.Cond.methodLink "CyclepaintModel" (55 : Nat) ({ cls := "CyclepaintModel", name := "shift", desc := "([II)I" } : Jvm.MethodName)) ∈ lw_g := zg_of (zin5 (List.mem_of_getElem? (i := 117) rfl)) rfl
theorem q5_162 : (Jvm.Cond.code ({ cls := "CyclepaintModel", name := "show", desc := "(II)I" } : Jvm.MethodName) prog_6_method_13_code (5 : Nat) (Option.some Jvm.ClassFile.FieldType.int)) ∈ lw_g := zg_of (zin5 (List.mem_of_getElem? (i := 162) rfl)) rfl
theorem q5_161 : (Jvm.Cond.instanceMethod ({ cls := "CyclepaintModel", name := "show", desc := "(II)I" } : Jvm.MethodName)) ∈ lw_g := zg_of (zin5 (List.mem_of_getElem? (i := 161) rfl)) rfl
theorem qs_33 : Cond.selects "CyclepaintModel" (⟨"CyclepaintModel", "show", "(II)I"⟩ : MethodName) (⟨"CyclepaintModel", "show", "(II)I"⟩ : MethodName) ∈ lw_g := zg_of (zinS (List.mem_of_getElem? (i := 33) rfl)) rfl
theorem ok_X4_show : zOV yX4_show cX4_show 5 ((Option.some Jvm.ClassFile.FieldType.int)) 2 := ⟨⟨q5_162, q1_3, by decide, by decide, by decide +kernel⟩, q5_161, qs_33⟩
set_option maxHeartbeats 4000000 in
set_option maxRecDepth 100000 in
theorem c_X4_show (l : Launch) (G : zG) (σ : St) (b : Nat → Nat) (th m1 m2 : Int32) (e w : Int) (he : 0 ≤ e ∧ e < 16) (hw : 0 ≤ w ∧ w < 2147483648) : Met l yX4_show (wq yX4_show cX4_show 5 ((Option.some Jvm.ClassFile.FieldType.int))) (rmR 4 86) (va_Pc [.ref (b 0), .int (zI (e)), .int (zI (w))] (zK G (hMod G σ b th m1 m2))) (zQ (some (.int ((shw σ e w))))) 0 0 zF := by
  refine z_enterI (by decide +kernel) (Nat.le_of_ble_eq_true rfl) ?_
  intro p env s m below meth cod Q S hG hP ret ls hl
  have hl : lv_has ls 5 [(0, .ref (b 0)), (1, .int (zI (e))), (2, .int (zI (w)))] := hl
  have hO := hP.2.2.2.2.2.2.2.2.2
  have hrn := hO.1
  by_cases hc : rgOf σ e = -1
  · skip
    refine z_aload_n S dX4_show_0 hl 0 rfl rfl ?_
    refine z_iload_n S dX4_show_1 hl 1 rfl rfl ?_
    refine z_callVs S hG (c_X4_rangeOf l G σ b th m1 m2 (e) (by omega)) ok_X4_rangeOf hP.1 zc_X4 rfl q5_48 (hP) ⟨rfl, rfl, by decide, by decide⟩ ⟨Nat.zero_le _, Nat.zero_le _⟩ rfl (Nat.le_of_ble_eq_true rfl) hl.1 rfl dX4_show_2 ?_
    refine z_istore_n (lv' := [(3, .int (zI (rgOf σ (e)))), (0, .ref (b 0)), (1, .int (zI (e))), (2, .int (zI (w)))]) S dX4_show_5 hl rfl (by decide) rfl (fun ls hl => ?_)
    refine z_iload_n S dX4_show_6 hl 0 rfl rfl ?_
    refine z_iconst S dX4_show_7 ?_
    refine z_icmp_ne_F S 18 dX4_show_8 (by decide) (by omega) (by omega) (by omega) ?_
    refine z_aload_n S dX4_show_11 hl 1 rfl rfl ?_
    refine z_get S hG hP.1 zc_X4 4 (by decide) q4_230 rfl rfl dX4_show_12 ?_
    refine z_iload_n S dX4_show_15 hl 2 rfl rfl ?_
    refine z_iald S hG hP.2.1 (by omega) (by decide) dX4_show_16 ?_
    exact ret _ _ _ dX4_show_17 (by unfold shw src; rw [if_pos hc])
  · skip
    have hin := rgOf_in hc
    have hok := hO.2 (rgOf σ e) hin.1 hin.2.2.1
    have hsh := shiftR_b (w := w) hok.2.2 ⟨hok.1.2.1, by omega⟩ hok.2.1.1 hw.1
    have hsr := srcR_mod (f := σ.F (rgOf σ e)) (len := σ.L (rgOf σ e)) (e := e) ⟨hin.2.2.2.1, hin.2.2.2.2⟩ hsh
    have hsb := srcR_b (f := σ.F (rgOf σ e)) (len := σ.L (rgOf σ e)) (e := e) ⟨hin.2.2.2.1, hin.2.2.2.2⟩ hsh
    refine z_aload_n S dX4_show_0 hl 0 rfl rfl ?_
    refine z_iload_n S dX4_show_1 hl 1 rfl rfl ?_
    refine z_callVs S hG (c_X4_rangeOf l G σ b th m1 m2 (e) (by omega)) ok_X4_rangeOf hP.1 zc_X4 rfl q5_48 (hP) ⟨rfl, rfl, by decide, by decide⟩ ⟨Nat.zero_le _, Nat.zero_le _⟩ rfl (Nat.le_of_ble_eq_true rfl) hl.1 rfl dX4_show_2 ?_
    refine z_istore_n (lv' := [(3, .int (zI (rgOf σ (e)))), (0, .ref (b 0)), (1, .int (zI (e))), (2, .int (zI (w)))]) S dX4_show_5 hl rfl (by decide) rfl (fun ls hl => ?_)
    refine z_iload_n S dX4_show_6 hl 0 rfl rfl ?_
    refine z_iconst S dX4_show_7 ?_
    refine z_icmp_ne_T S 18 dX4_show_8 (by decide) (by omega) (by omega) (by omega) ?_
    refine z_aload_n S dX4_show_18 hl 1 rfl rfl ?_
    refine z_get S hG hP.1 zc_X4 6 (by decide) q4_232 rfl rfl dX4_show_19 ?_
    refine z_iload_n S dX4_show_22 hl 0 rfl rfl ?_
    refine z_callVs S hG (c_alGet l G (b 3) (b 5) m1 σ.rn (elR σ b) (rgOf σ (e)) (b (8 + Int.toNat (rgOf σ (e)))) (if_pos (by omega)) (by omega) (by omega)) ok_Jx4a65c_get_915e3 hP.2.2.2.1 zc_Jx4a65c rfl q5_52 (⟨hP.2.2.2.1, hP.2.2.2.2.2.1 (by omega)⟩) ⟨rfl, rfl, by decide, by decide⟩ ⟨Nat.zero_le _, Nat.zero_le _⟩ rfl (Nat.le_of_ble_eq_true rfl) hl.1 rfl dX4_show_23 ?_
    refine z_castI S hG (hP.2.2.2.2.2.2.2.1 (rgOf σ (e)) (by omega) (by omega)) q5_64 dX4_show_26 ?_
    refine z_astore (lv' := [(4, .ref (b (8 + Int.toNat (rgOf σ (e))))), (3, .int (zI (rgOf σ (e)))), (0, .ref (b 0)), (1, .int (zI (e))), (2, .int (zI (w)))]) S dX4_show_29 hl (by decide) rfl (fun ls hl => ?_)
    refine z_aload_n S dX4_show_31 hl 2 rfl rfl ?_
    refine z_get S hG hP.1 zc_X4 4 (by decide) q4_230 rfl rfl dX4_show_32 ?_
    refine z_aload S dX4_show_35 hl 0 rfl ?_
    refine z_iconst S dX4_show_37 ?_
    refine z_ialdB S hG (hP.2.2.2.2.2.2.2.1 (rgOf σ (e)) (by omega) (by omega)) (by omega) (by decide) dX4_show_38 ?_
    rw [show r4 (σ.F (rgOf σ (e))) (σ.L (rgOf σ (e))) (σ.S (rgOf σ (e))) (σ.K (rgOf σ (e))) (0) = (σ.F (rgOf σ (e))) from rfl]
    refine z_iload_n S dX4_show_39 hl 3 rfl rfl ?_
    refine z_aload S dX4_show_40 hl 0 rfl ?_
    refine z_iconst S dX4_show_42 ?_
    refine z_ialdB S hG (hP.2.2.2.2.2.2.2.1 (rgOf σ (e)) (by omega) (by omega)) (by omega) (by decide) dX4_show_43 ?_
    rw [show r4 (σ.F (rgOf σ (e))) (σ.L (rgOf σ (e))) (σ.S (rgOf σ (e))) (σ.K (rgOf σ (e))) (0) = (σ.F (rgOf σ (e))) from rfl]
    refine z_isub S dX4_show_44 ?_
    refine z_aload S dX4_show_45 hl 0 rfl ?_
    refine z_iload_n S dX4_show_47 hl 4 rfl rfl ?_
    refine z_callSs S hG (c_X4_shift l G (b (8 + Int.toNat (rgOf σ (e)))) (σ.F (rgOf σ (e))) (σ.L (rgOf σ (e))) (σ.S (rgOf σ (e))) (σ.K (rgOf σ (e))) (w) (by omega) (by omega)) ok_X4_shift q5_117 (hP.2.2.2.2.2.2.2.1 (rgOf σ (e)) (by omega) (by omega)) ⟨rfl, rfl, by decide, by decide⟩ ⟨Nat.zero_le _, Nat.zero_le _⟩ rfl (Nat.le_of_ble_eq_true rfl) hl.1 rfl dX4_show_48 ?_
    refine z_isub S dX4_show_51 ?_
    refine z_aload S dX4_show_52 hl 0 rfl ?_
    refine z_iconst S dX4_show_54 ?_
    refine z_ialdB S hG (hP.2.2.2.2.2.2.2.1 (rgOf σ (e)) (by omega) (by omega)) (by omega) (by decide) dX4_show_55 ?_
    rw [show r4 (σ.F (rgOf σ (e))) (σ.L (rgOf σ (e))) (σ.S (rgOf σ (e))) (σ.K (rgOf σ (e))) (1) = (σ.L (rgOf σ (e))) from rfl]
    refine z_iadd S dX4_show_56 ?_
    refine z_aload S dX4_show_57 hl 0 rfl ?_
    refine z_iconst S dX4_show_59 ?_
    refine z_ialdB S hG (hP.2.2.2.2.2.2.2.1 (rgOf σ (e)) (by omega) (by omega)) (by omega) (by decide) dX4_show_60 ?_
    rw [show r4 (σ.F (rgOf σ (e))) (σ.L (rgOf σ (e))) (σ.S (rgOf σ (e))) (σ.K (rgOf σ (e))) (1) = (σ.L (rgOf σ (e))) from rfl]
    refine z_irem S dX4_show_61 (by omega) (by omega) ?_
    refine z_iadd S dX4_show_62 ?_
    refine z_iald S hG hP.2.1 (by omega) (by decide) dX4_show_63 ?_
    exact ret _ _ _ dX4_show_64 (by unfold shw src; rw [if_neg hc, ← hsr])
theorem dX4_roundOf_0 : decode cX4_roundOf 0 = .ok (.aload_n 0, 1) := by decide +kernel
theorem dX4_roundOf_1 : decode cX4_roundOf 1 = .ok (.iload_n 1, 1) := by decide +kernel
theorem dX4_roundOf_2 : decode cX4_roundOf 2 = .ok (.invokevirtual 51, 3) := by decide +kernel
theorem dX4_roundOf_5 : decode cX4_roundOf 5 = .ok (.iconst (-1), 1) := by decide +kernel
theorem dX4_roundOf_6 : decode cX4_roundOf 6 = .ok (.if_icmp .ne 7, 3) := by decide +kernel
theorem dX4_roundOf_9 : decode cX4_roundOf 9 = .ok (.iconst 1, 1) := by decide +kernel
theorem dX4_roundOf_10 : decode cX4_roundOf 10 = .ok (.goto 21, 3) := by decide +kernel
theorem dX4_roundOf_13 : decode cX4_roundOf 13 = .ok (.aload_n 0, 1) := by decide +kernel
theorem dX4_roundOf_14 : decode cX4_roundOf 14 = .ok (.getfield 23, 3) := by decide +kernel
theorem dX4_roundOf_17 : decode cX4_roundOf 17 = .ok (.aload_n 0, 1) := by decide +kernel
theorem dX4_roundOf_18 : decode cX4_roundOf 18 = .ok (.iload_n 1, 1) := by decide +kernel
theorem dX4_roundOf_19 : decode cX4_roundOf 19 = .ok (.invokevirtual 51, 3) := by decide +kernel
theorem dX4_roundOf_22 : decode cX4_roundOf 22 = .ok (.invokevirtual 46, 3) := by decide +kernel
theorem dX4_roundOf_25 : decode cX4_roundOf 25 = .ok (.checkcast 50, 3) := by decide +kernel
theorem dX4_roundOf_28 : decode cX4_roundOf 28 = .ok (.invokestatic 59, 3) := by decide +kernel
theorem dX4_roundOf_31 : decode cX4_roundOf 31 = .ok (.ireturn, 1) := by decide +kernel
theorem q5_153 : (Jvm.Cond.methodLink "CyclepaintModel" (59 : Nat) ({ cls := "CyclepaintModel", name := "round", desc := "([I)I" } : Jvm.MethodName)) ∈ lw_g := zg_of (zin5 (List.mem_of_getElem? (i := 153) rfl)) rfl
theorem q5_152 : (Jvm.Cond.code ({ cls := "CyclepaintModel", name := "roundOf", desc := "(I)I" } : Jvm.MethodName) prog_6_method_15_code (2 : Nat) (Option.some Jvm.ClassFile.FieldType.int)) ∈ lw_g := zg_of (zin5 (List.mem_of_getElem? (i := 152) rfl)) rfl
theorem q5_151 : (Jvm.Cond.instanceMethod ({ cls := "CyclepaintModel", name := "roundOf", desc := "(I)I" } : Jvm.MethodName)) ∈ lw_g := zg_of (zin5 (List.mem_of_getElem? (i := 151) rfl)) rfl
theorem qs_32 : Cond.selects "CyclepaintModel" (⟨"CyclepaintModel", "roundOf", "(I)I"⟩ : MethodName) (⟨"CyclepaintModel", "roundOf", "(I)I"⟩ : MethodName) ∈ lw_g := zg_of (zinS (List.mem_of_getElem? (i := 32) rfl)) rfl
theorem ok_X4_roundOf : zOV yX4_roundOf cX4_roundOf 2 ((Option.some Jvm.ClassFile.FieldType.int)) 1 := ⟨⟨q5_152, q1_3, by decide, by decide, by decide +kernel⟩, q5_151, qs_32⟩
set_option maxHeartbeats 4000000 in
set_option maxRecDepth 100000 in
theorem c_X4_roundOf (l : Launch) (G : zG) (σ : St) (b : Nat → Nat) (th m1 m2 : Int32) (e : Int) (he : 0 ≤ e ∧ e < 16) : Met l yX4_roundOf (wq yX4_roundOf cX4_roundOf 2 ((Option.some Jvm.ClassFile.FieldType.int))) (rmR 4 86) (va_Pc [.ref (b 0), .int (zI (e))] (zK G (hMod G σ b th m1 m2))) (zQ (some (.int ((zI (rndE σ e)))))) 0 0 zF := by
  refine z_enterI (by decide +kernel) (Nat.le_of_ble_eq_true rfl) ?_
  intro p env s m below meth cod Q S hG hP ret ls hl
  have hl : lv_has ls 2 [(0, .ref (b 0)), (1, .int (zI (e)))] := hl
  have hO := hP.2.2.2.2.2.2.2.2.2
  have hrn := hO.1
  by_cases hc : rgOf σ e = -1
  · skip
    refine z_aload_n S dX4_roundOf_0 hl 0 rfl rfl ?_
    refine z_iload_n S dX4_roundOf_1 hl 1 rfl rfl ?_
    refine z_callVs S hG (c_X4_rangeOf l G σ b th m1 m2 (e) (by omega)) ok_X4_rangeOf hP.1 zc_X4 rfl q5_48 (hP) ⟨rfl, rfl, by decide, by decide⟩ ⟨Nat.zero_le _, Nat.zero_le _⟩ rfl (Nat.le_of_ble_eq_true rfl) hl.1 rfl dX4_roundOf_2 ?_
    refine z_iconst S dX4_roundOf_5 ?_
    refine z_icmp_ne_F S 13 dX4_roundOf_6 (by decide) (by omega) (by omega) (by omega) ?_
    refine z_iconst S dX4_roundOf_9 ?_
    refine z_goto S 31 dX4_roundOf_10 (by decide) ?_
    exact ret _ _ _ dX4_roundOf_31 (by unfold rndE; first | rw [if_pos hc] | (rw [if_neg hc]; rfl))
  · skip
    have hin := rgOf_in hc
    have hok := hO.2 (rgOf σ e) hin.1 hin.2.2.1
    refine z_aload_n S dX4_roundOf_0 hl 0 rfl rfl ?_
    refine z_iload_n S dX4_roundOf_1 hl 1 rfl rfl ?_
    refine z_callVs S hG (c_X4_rangeOf l G σ b th m1 m2 (e) (by omega)) ok_X4_rangeOf hP.1 zc_X4 rfl q5_48 (hP) ⟨rfl, rfl, by decide, by decide⟩ ⟨Nat.zero_le _, Nat.zero_le _⟩ rfl (Nat.le_of_ble_eq_true rfl) hl.1 rfl dX4_roundOf_2 ?_
    refine z_iconst S dX4_roundOf_5 ?_
    refine z_icmp_ne_T S 13 dX4_roundOf_6 (by decide) (by omega) (by omega) (by omega) ?_
    refine z_aload_n S dX4_roundOf_13 hl 0 rfl rfl ?_
    refine z_get S hG hP.1 zc_X4 6 (by decide) q4_232 rfl rfl dX4_roundOf_14 ?_
    refine z_aload_n S dX4_roundOf_17 hl 0 rfl rfl ?_
    refine z_iload_n S dX4_roundOf_18 hl 1 rfl rfl ?_
    refine z_callVs S hG (c_X4_rangeOf l G σ b th m1 m2 (e) (by omega)) ok_X4_rangeOf hP.1 zc_X4 rfl q5_48 (hP) ⟨rfl, rfl, by decide, by decide⟩ ⟨Nat.zero_le _, Nat.zero_le _⟩ rfl (Nat.le_of_ble_eq_true rfl) hl.1 rfl dX4_roundOf_19 ?_
    refine z_callVs S hG (c_alGet l G (b 3) (b 5) m1 σ.rn (elR σ b) (rgOf σ (e)) (b (8 + Int.toNat (rgOf σ (e)))) (if_pos (by omega)) (by omega) (by omega)) ok_Jx4a65c_get_915e3 hP.2.2.2.1 zc_Jx4a65c rfl q5_52 (⟨hP.2.2.2.1, hP.2.2.2.2.2.1 (by omega)⟩) ⟨rfl, rfl, by decide, by decide⟩ ⟨Nat.zero_le _, Nat.zero_le _⟩ rfl (Nat.le_of_ble_eq_true rfl) hl.1 rfl dX4_roundOf_22 ?_
    refine z_castI S hG (hP.2.2.2.2.2.2.2.1 (rgOf σ (e)) (by omega) (by omega)) q5_64 dX4_roundOf_25 ?_
    refine z_callSs S hG (c_X4_round l G (b (8 + Int.toNat (rgOf σ (e)))) (σ.F (rgOf σ (e))) (σ.L (rgOf σ (e))) (σ.S (rgOf σ (e))) (σ.K (rgOf σ (e))) (by omega)) ok_X4_round q5_153 (hP.2.2.2.2.2.2.2.1 (rgOf σ (e)) (by omega) (by omega)) ⟨rfl, rfl, by decide, by decide⟩ ⟨Nat.zero_le _, Nat.zero_le _⟩ rfl (Nat.le_of_ble_eq_true rfl) hl.1 rfl dX4_roundOf_28 ?_
    exact ret _ _ _ dX4_roundOf_31 (by unfold rndE; first | rw [if_pos hc] | (rw [if_neg hc]; rfl))
