def bcR (x : Int32) : Int32 := (((((((((x) - ((((x).toUInt32 >>> ((zI (1)).toUInt32 &&& Int32.toUInt32 31)).toInt32) &&& ((1431655765 : Int32)))) &&& ((858993459 : Int32))) + (((((x) - ((((x).toUInt32 >>> ((zI (1)).toUInt32 &&& Int32.toUInt32 31)).toInt32) &&& ((1431655765 : Int32)))).toUInt32 >>> ((zI (2)).toUInt32 &&& Int32.toUInt32 31)).toInt32) &&& ((858993459 : Int32)))) + ((((((x) - ((((x).toUInt32 >>> ((zI (1)).toUInt32 &&& Int32.toUInt32 31)).toInt32) &&& ((1431655765 : Int32)))) &&& ((858993459 : Int32))) + (((((x) - ((((x).toUInt32 >>> ((zI (1)).toUInt32 &&& Int32.toUInt32 31)).toInt32) &&& ((1431655765 : Int32)))).toUInt32 >>> ((zI (2)).toUInt32 &&& Int32.toUInt32 31)).toInt32) &&& ((858993459 : Int32)))).toUInt32 >>> ((zI (4)).toUInt32 &&& Int32.toUInt32 31)).toInt32)) &&& ((252645135 : Int32))) + ((((((((x) - ((((x).toUInt32 >>> ((zI (1)).toUInt32 &&& Int32.toUInt32 31)).toInt32) &&& ((1431655765 : Int32)))) &&& ((858993459 : Int32))) + (((((x) - ((((x).toUInt32 >>> ((zI (1)).toUInt32 &&& Int32.toUInt32 31)).toInt32) &&& ((1431655765 : Int32)))).toUInt32 >>> ((zI (2)).toUInt32 &&& Int32.toUInt32 31)).toInt32) &&& ((858993459 : Int32)))) + ((((((x) - ((((x).toUInt32 >>> ((zI (1)).toUInt32 &&& Int32.toUInt32 31)).toInt32) &&& ((1431655765 : Int32)))) &&& ((858993459 : Int32))) + (((((x) - ((((x).toUInt32 >>> ((zI (1)).toUInt32 &&& Int32.toUInt32 31)).toInt32) &&& ((1431655765 : Int32)))).toUInt32 >>> ((zI (2)).toUInt32 &&& Int32.toUInt32 31)).toInt32) &&& ((858993459 : Int32)))).toUInt32 >>> ((zI (4)).toUInt32 &&& Int32.toUInt32 31)).toInt32)) &&& ((252645135 : Int32))).toUInt32 >>> ((zI (8)).toUInt32 &&& Int32.toUInt32 31)).toInt32)) + (((((((((x) - ((((x).toUInt32 >>> ((zI (1)).toUInt32 &&& Int32.toUInt32 31)).toInt32) &&& ((1431655765 : Int32)))) &&& ((858993459 : Int32))) + (((((x) - ((((x).toUInt32 >>> ((zI (1)).toUInt32 &&& Int32.toUInt32 31)).toInt32) &&& ((1431655765 : Int32)))).toUInt32 >>> ((zI (2)).toUInt32 &&& Int32.toUInt32 31)).toInt32) &&& ((858993459 : Int32)))) + ((((((x) - ((((x).toUInt32 >>> ((zI (1)).toUInt32 &&& Int32.toUInt32 31)).toInt32) &&& ((1431655765 : Int32)))) &&& ((858993459 : Int32))) + (((((x) - ((((x).toUInt32 >>> ((zI (1)).toUInt32 &&& Int32.toUInt32 31)).toInt32) &&& ((1431655765 : Int32)))).toUInt32 >>> ((zI (2)).toUInt32 &&& Int32.toUInt32 31)).toInt32) &&& ((858993459 : Int32)))).toUInt32 >>> ((zI (4)).toUInt32 &&& Int32.toUInt32 31)).toInt32)) &&& ((252645135 : Int32))) + ((((((((x) - ((((x).toUInt32 >>> ((zI (1)).toUInt32 &&& Int32.toUInt32 31)).toInt32) &&& ((1431655765 : Int32)))) &&& ((858993459 : Int32))) + (((((x) - ((((x).toUInt32 >>> ((zI (1)).toUInt32 &&& Int32.toUInt32 31)).toInt32) &&& ((1431655765 : Int32)))).toUInt32 >>> ((zI (2)).toUInt32 &&& Int32.toUInt32 31)).toInt32) &&& ((858993459 : Int32)))) + ((((((x) - ((((x).toUInt32 >>> ((zI (1)).toUInt32 &&& Int32.toUInt32 31)).toInt32) &&& ((1431655765 : Int32)))) &&& ((858993459 : Int32))) + (((((x) - ((((x).toUInt32 >>> ((zI (1)).toUInt32 &&& Int32.toUInt32 31)).toInt32) &&& ((1431655765 : Int32)))).toUInt32 >>> ((zI (2)).toUInt32 &&& Int32.toUInt32 31)).toInt32) &&& ((858993459 : Int32)))).toUInt32 >>> ((zI (4)).toUInt32 &&& Int32.toUInt32 31)).toInt32)) &&& ((252645135 : Int32))).toUInt32 >>> ((zI (8)).toUInt32 &&& Int32.toUInt32 31)).toInt32)).toUInt32 >>> ((zI (16)).toUInt32 &&& Int32.toUInt32 31)).toInt32)) &&& (zI (63)))
theorem dJ6_bitCount_0f7a4_0 : decode cJ6_bitCount_0f7a4 0 = .ok (.iload_n 0, 1) := by decide +kernel
theorem dJ6_bitCount_0f7a4_1 : decode cJ6_bitCount_0f7a4 1 = .ok (.iload_n 0, 1) := by decide +kernel
theorem dJ6_bitCount_0f7a4_2 : decode cJ6_bitCount_0f7a4 2 = .ok (.iconst 1, 1) := by decide +kernel
theorem dJ6_bitCount_0f7a4_3 : decode cJ6_bitCount_0f7a4 3 = .ok (.iushr, 1) := by decide +kernel
theorem dJ6_bitCount_0f7a4_4 : decode cJ6_bitCount_0f7a4 4 = .ok (.ldc_w 265, 3) := by decide +kernel
theorem dJ6_bitCount_0f7a4_7 : decode cJ6_bitCount_0f7a4 7 = .ok (.iand, 1) := by decide +kernel
theorem dJ6_bitCount_0f7a4_8 : decode cJ6_bitCount_0f7a4 8 = .ok (.isub, 1) := by decide +kernel
theorem dJ6_bitCount_0f7a4_9 : decode cJ6_bitCount_0f7a4 9 = .ok (.istore_n 0, 1) := by decide +kernel
theorem dJ6_bitCount_0f7a4_10 : decode cJ6_bitCount_0f7a4 10 = .ok (.iload_n 0, 1) := by decide +kernel
theorem dJ6_bitCount_0f7a4_11 : decode cJ6_bitCount_0f7a4 11 = .ok (.ldc_w 266, 3) := by decide +kernel
theorem dJ6_bitCount_0f7a4_14 : decode cJ6_bitCount_0f7a4 14 = .ok (.iand, 1) := by decide +kernel
theorem dJ6_bitCount_0f7a4_15 : decode cJ6_bitCount_0f7a4 15 = .ok (.iload_n 0, 1) := by decide +kernel
theorem dJ6_bitCount_0f7a4_16 : decode cJ6_bitCount_0f7a4 16 = .ok (.iconst 2, 1) := by decide +kernel
theorem dJ6_bitCount_0f7a4_17 : decode cJ6_bitCount_0f7a4 17 = .ok (.iushr, 1) := by decide +kernel
theorem dJ6_bitCount_0f7a4_18 : decode cJ6_bitCount_0f7a4 18 = .ok (.ldc_w 266, 3) := by decide +kernel
theorem dJ6_bitCount_0f7a4_21 : decode cJ6_bitCount_0f7a4 21 = .ok (.iand, 1) := by decide +kernel
theorem dJ6_bitCount_0f7a4_22 : decode cJ6_bitCount_0f7a4 22 = .ok (.iadd, 1) := by decide +kernel
theorem dJ6_bitCount_0f7a4_23 : decode cJ6_bitCount_0f7a4 23 = .ok (.istore_n 0, 1) := by decide +kernel
theorem dJ6_bitCount_0f7a4_24 : decode cJ6_bitCount_0f7a4 24 = .ok (.iload_n 0, 1) := by decide +kernel
theorem dJ6_bitCount_0f7a4_25 : decode cJ6_bitCount_0f7a4 25 = .ok (.iload_n 0, 1) := by decide +kernel
theorem dJ6_bitCount_0f7a4_26 : decode cJ6_bitCount_0f7a4 26 = .ok (.iconst 4, 1) := by decide +kernel
theorem dJ6_bitCount_0f7a4_27 : decode cJ6_bitCount_0f7a4 27 = .ok (.iushr, 1) := by decide +kernel
theorem dJ6_bitCount_0f7a4_28 : decode cJ6_bitCount_0f7a4 28 = .ok (.iadd, 1) := by decide +kernel
theorem dJ6_bitCount_0f7a4_29 : decode cJ6_bitCount_0f7a4 29 = .ok (.ldc_w 267, 3) := by decide +kernel
theorem dJ6_bitCount_0f7a4_32 : decode cJ6_bitCount_0f7a4 32 = .ok (.iand, 1) := by decide +kernel
theorem dJ6_bitCount_0f7a4_33 : decode cJ6_bitCount_0f7a4 33 = .ok (.istore_n 0, 1) := by decide +kernel
theorem dJ6_bitCount_0f7a4_34 : decode cJ6_bitCount_0f7a4 34 = .ok (.iload_n 0, 1) := by decide +kernel
theorem dJ6_bitCount_0f7a4_35 : decode cJ6_bitCount_0f7a4 35 = .ok (.iload_n 0, 1) := by decide +kernel
theorem dJ6_bitCount_0f7a4_36 : decode cJ6_bitCount_0f7a4 36 = .ok (.bipush 8, 2) := by decide +kernel
theorem dJ6_bitCount_0f7a4_38 : decode cJ6_bitCount_0f7a4 38 = .ok (.iushr, 1) := by decide +kernel
theorem dJ6_bitCount_0f7a4_39 : decode cJ6_bitCount_0f7a4 39 = .ok (.iadd, 1) := by decide +kernel
theorem dJ6_bitCount_0f7a4_40 : decode cJ6_bitCount_0f7a4 40 = .ok (.istore_n 0, 1) := by decide +kernel
theorem dJ6_bitCount_0f7a4_41 : decode cJ6_bitCount_0f7a4 41 = .ok (.iload_n 0, 1) := by decide +kernel
theorem dJ6_bitCount_0f7a4_42 : decode cJ6_bitCount_0f7a4 42 = .ok (.iload_n 0, 1) := by decide +kernel
theorem dJ6_bitCount_0f7a4_43 : decode cJ6_bitCount_0f7a4 43 = .ok (.bipush 16, 2) := by decide +kernel
theorem dJ6_bitCount_0f7a4_45 : decode cJ6_bitCount_0f7a4 45 = .ok (.iushr, 1) := by decide +kernel
theorem dJ6_bitCount_0f7a4_46 : decode cJ6_bitCount_0f7a4 46 = .ok (.iadd, 1) := by decide +kernel
theorem dJ6_bitCount_0f7a4_47 : decode cJ6_bitCount_0f7a4 47 = .ok (.istore_n 0, 1) := by decide +kernel
theorem dJ6_bitCount_0f7a4_48 : decode cJ6_bitCount_0f7a4 48 = .ok (.iload_n 0, 1) := by decide +kernel
theorem dJ6_bitCount_0f7a4_49 : decode cJ6_bitCount_0f7a4 49 = .ok (.bipush 63, 2) := by decide +kernel
theorem dJ6_bitCount_0f7a4_51 : decode cJ6_bitCount_0f7a4 51 = .ok (.iand, 1) := by decide +kernel
theorem dJ6_bitCount_0f7a4_52 : decode cJ6_bitCount_0f7a4 52 = .ok (.ireturn, 1) := by decide +kernel
theorem q1_203 : (Jvm.Cond.constant "java/lang/Integer" (265 : Nat) (1431655765 : Int32)) ∈ lw_g := zg_of (zin1 (List.mem_of_getElem? (i := 203) rfl)) rfl
theorem q1_204 : (Jvm.Cond.constant "java/lang/Integer" (266 : Nat) (858993459 : Int32)) ∈ lw_g := zg_of (zin1 (List.mem_of_getElem? (i := 204) rfl)) rfl
theorem q1_205 : (Jvm.Cond.constant "java/lang/Integer" (267 : Nat) (252645135 : Int32)) ∈ lw_g := zg_of (zin1 (List.mem_of_getElem? (i := 205) rfl)) rfl
theorem q1_202 : (Jvm.Cond.code ({ cls := "java/lang/Integer", name := "bitCount", desc := "(I)I" } : Jvm.MethodName) prog_17_method_49_code (1 : Nat) (Option.some Jvm.ClassFile.FieldType.int)) ∈ lw_g := zg_of (zin1 (List.mem_of_getElem? (i := 202) rfl)) rfl
theorem q1_22 : (Jvm.Cond.initialized "java/lang/Integer") ∈ lw_g := zg_of (zin1 (List.mem_of_getElem? (i := 22) rfl)) rfl
theorem q1_201 : (Jvm.Cond.static ({ cls := "java/lang/Integer", name := "bitCount", desc := "(I)I" } : Jvm.MethodName)) ∈ lw_g := zg_of (zin1 (List.mem_of_getElem? (i := 201) rfl)) rfl
theorem ok_J6_bitCount_0f7a4 : zOS yJ6_bitCount_0f7a4 cJ6_bitCount_0f7a4 1 ((Option.some Jvm.ClassFile.FieldType.int)) 1 := ⟨⟨q1_202, q1_22, by decide, by decide, by decide +kernel⟩, q1_201⟩
set_option maxHeartbeats 4000000 in
set_option maxRecDepth 100000 in
theorem c_bitCount (l : Launch) (G : zG) (x : Int32) : Met l yJ6_bitCount_0f7a4 (wq yJ6_bitCount_0f7a4 cJ6_bitCount_0f7a4 1 ((Option.some Jvm.ClassFile.FieldType.int))) (rmR 0 0) (va_Pc [.int (x)] (zK G (fun _ => True))) (zQ (some (.int ((bcR x))))) 0 0 zF := by
  refine z_enterI (by decide +kernel) (Nat.le_of_ble_eq_true rfl) ?_
  intro p env s m below meth cod Q S hG hP ret ls hl
  have hl : lv_has ls 1 [(0, .int (x))] := hl
  refine z_iload_n S dJ6_bitCount_0f7a4_0 hl 0 rfl rfl ?_
  refine z_iload_n S dJ6_bitCount_0f7a4_1 hl 0 rfl rfl ?_
  refine z_iconst S dJ6_bitCount_0f7a4_2 ?_
  refine lv_iushr S.1 S.2.1 dJ6_bitCount_0f7a4_3 rfl ?_
  refine lv_ldcw S.1 S.2.1 S.2.2.2.1 (S.2.2.2.2 _ q1_203) dJ6_bitCount_0f7a4_4 ?_
  refine lv_iand S.1 S.2.1 dJ6_bitCount_0f7a4_7 ?_
  refine lv_isub S.1 S.2.1 dJ6_bitCount_0f7a4_8 ?_
  refine z_istore_n (lv' := [(0, .int ((x) - ((((x).toUInt32 >>> ((zI (1)).toUInt32 &&& Int32.toUInt32 31)).toInt32) &&& ((1431655765 : Int32)))))]) S dJ6_bitCount_0f7a4_9 hl rfl (by decide) rfl (fun ls hl => ?_)
  refine z_iload_n S dJ6_bitCount_0f7a4_10 hl 0 rfl rfl ?_
  refine lv_ldcw S.1 S.2.1 S.2.2.2.1 (S.2.2.2.2 _ q1_204) dJ6_bitCount_0f7a4_11 ?_
  refine lv_iand S.1 S.2.1 dJ6_bitCount_0f7a4_14 ?_
  refine z_iload_n S dJ6_bitCount_0f7a4_15 hl 0 rfl rfl ?_
  refine z_iconst S dJ6_bitCount_0f7a4_16 ?_
  refine lv_iushr S.1 S.2.1 dJ6_bitCount_0f7a4_17 rfl ?_
  refine lv_ldcw S.1 S.2.1 S.2.2.2.1 (S.2.2.2.2 _ q1_204) dJ6_bitCount_0f7a4_18 ?_
  refine lv_iand S.1 S.2.1 dJ6_bitCount_0f7a4_21 ?_
  refine lv_iadd S.1 S.2.1 dJ6_bitCount_0f7a4_22 ?_
  refine z_istore_n (lv' := [(0, .int ((((x) - ((((x).toUInt32 >>> ((zI (1)).toUInt32 &&& Int32.toUInt32 31)).toInt32) &&& ((1431655765 : Int32)))) &&& ((858993459 : Int32))) + (((((x) - ((((x).toUInt32 >>> ((zI (1)).toUInt32 &&& Int32.toUInt32 31)).toInt32) &&& ((1431655765 : Int32)))).toUInt32 >>> ((zI (2)).toUInt32 &&& Int32.toUInt32 31)).toInt32) &&& ((858993459 : Int32)))))]) S dJ6_bitCount_0f7a4_23 hl rfl (by decide) rfl (fun ls hl => ?_)
  refine z_iload_n S dJ6_bitCount_0f7a4_24 hl 0 rfl rfl ?_
  refine z_iload_n S dJ6_bitCount_0f7a4_25 hl 0 rfl rfl ?_
  refine z_iconst S dJ6_bitCount_0f7a4_26 ?_
  refine lv_iushr S.1 S.2.1 dJ6_bitCount_0f7a4_27 rfl ?_
  refine lv_iadd S.1 S.2.1 dJ6_bitCount_0f7a4_28 ?_
  refine lv_ldcw S.1 S.2.1 S.2.2.2.1 (S.2.2.2.2 _ q1_205) dJ6_bitCount_0f7a4_29 ?_
  refine lv_iand S.1 S.2.1 dJ6_bitCount_0f7a4_32 ?_
  refine z_istore_n (lv' := [(0, .int ((((((x) - ((((x).toUInt32 >>> ((zI (1)).toUInt32 &&& Int32.toUInt32 31)).toInt32) &&& ((1431655765 : Int32)))) &&& ((858993459 : Int32))) + (((((x) - ((((x).toUInt32 >>> ((zI (1)).toUInt32 &&& Int32.toUInt32 31)).toInt32) &&& ((1431655765 : Int32)))).toUInt32 >>> ((zI (2)).toUInt32 &&& Int32.toUInt32 31)).toInt32) &&& ((858993459 : Int32)))) + ((((((x) - ((((x).toUInt32 >>> ((zI (1)).toUInt32 &&& Int32.toUInt32 31)).toInt32) &&& ((1431655765 : Int32)))) &&& ((858993459 : Int32))) + (((((x) - ((((x).toUInt32 >>> ((zI (1)).toUInt32 &&& Int32.toUInt32 31)).toInt32) &&& ((1431655765 : Int32)))).toUInt32 >>> ((zI (2)).toUInt32 &&& Int32.toUInt32 31)).toInt32) &&& ((858993459 : Int32)))).toUInt32 >>> ((zI (4)).toUInt32 &&& Int32.toUInt32 31)).toInt32)) &&& ((252645135 : Int32))))]) S dJ6_bitCount_0f7a4_33 hl rfl (by decide) rfl (fun ls hl => ?_)
  refine z_iload_n S dJ6_bitCount_0f7a4_34 hl 0 rfl rfl ?_
  refine z_iload_n S dJ6_bitCount_0f7a4_35 hl 0 rfl rfl ?_
  refine z_bipush S dJ6_bitCount_0f7a4_36 rfl ?_
  refine lv_iushr S.1 S.2.1 dJ6_bitCount_0f7a4_38 rfl ?_
  refine lv_iadd S.1 S.2.1 dJ6_bitCount_0f7a4_39 ?_
  refine z_istore_n (lv' := [(0, .int (((((((x) - ((((x).toUInt32 >>> ((zI (1)).toUInt32 &&& Int32.toUInt32 31)).toInt32) &&& ((1431655765 : Int32)))) &&& ((858993459 : Int32))) + (((((x) - ((((x).toUInt32 >>> ((zI (1)).toUInt32 &&& Int32.toUInt32 31)).toInt32) &&& ((1431655765 : Int32)))).toUInt32 >>> ((zI (2)).toUInt32 &&& Int32.toUInt32 31)).toInt32) &&& ((858993459 : Int32)))) + ((((((x) - ((((x).toUInt32 >>> ((zI (1)).toUInt32 &&& Int32.toUInt32 31)).toInt32) &&& ((1431655765 : Int32)))) &&& ((858993459 : Int32))) + (((((x) - ((((x).toUInt32 >>> ((zI (1)).toUInt32 &&& Int32.toUInt32 31)).toInt32) &&& ((1431655765 : Int32)))).toUInt32 >>> ((zI (2)).toUInt32 &&& Int32.toUInt32 31)).toInt32) &&& ((858993459 : Int32)))).toUInt32 >>> ((zI (4)).toUInt32 &&& Int32.toUInt32 31)).toInt32)) &&& ((252645135 : Int32))) + ((((((((x) - ((((x).toUInt32 >>> ((zI (1)).toUInt32 &&& Int32.toUInt32 31)).toInt32) &&& ((1431655765 : Int32)))) &&& ((858993459 : Int32))) + (((((x) - ((((x).toUInt32 >>> ((zI (1)).toUInt32 &&& Int32.toUInt32 31)).toInt32) &&& ((1431655765 : Int32)))).toUInt32 >>> ((zI (2)).toUInt32 &&& Int32.toUInt32 31)).toInt32) &&& ((858993459 : Int32)))) + ((((((x) - ((((x).toUInt32 >>> ((zI (1)).toUInt32 &&& Int32.toUInt32 31)).toInt32) &&& ((1431655765 : Int32)))) &&& ((858993459 : Int32))) + (((((x) - ((((x).toUInt32 >>> ((zI (1)).toUInt32 &&& Int32.toUInt32 31)).toInt32) &&& ((1431655765 : Int32)))).toUInt32 >>> ((zI (2)).toUInt32 &&& Int32.toUInt32 31)).toInt32) &&& ((858993459 : Int32)))).toUInt32 >>> ((zI (4)).toUInt32 &&& Int32.toUInt32 31)).toInt32)) &&& ((252645135 : Int32))).toUInt32 >>> ((zI (8)).toUInt32 &&& Int32.toUInt32 31)).toInt32)))]) S dJ6_bitCount_0f7a4_40 hl rfl (by decide) rfl (fun ls hl => ?_)
  refine z_iload_n S dJ6_bitCount_0f7a4_41 hl 0 rfl rfl ?_
  refine z_iload_n S dJ6_bitCount_0f7a4_42 hl 0 rfl rfl ?_
  refine z_bipush S dJ6_bitCount_0f7a4_43 rfl ?_
  refine lv_iushr S.1 S.2.1 dJ6_bitCount_0f7a4_45 rfl ?_
  refine lv_iadd S.1 S.2.1 dJ6_bitCount_0f7a4_46 ?_
  refine z_istore_n (lv' := [(0, .int ((((((((x) - ((((x).toUInt32 >>> ((zI (1)).toUInt32 &&& Int32.toUInt32 31)).toInt32) &&& ((1431655765 : Int32)))) &&& ((858993459 : Int32))) + (((((x) - ((((x).toUInt32 >>> ((zI (1)).toUInt32 &&& Int32.toUInt32 31)).toInt32) &&& ((1431655765 : Int32)))).toUInt32 >>> ((zI (2)).toUInt32 &&& Int32.toUInt32 31)).toInt32) &&& ((858993459 : Int32)))) + ((((((x) - ((((x).toUInt32 >>> ((zI (1)).toUInt32 &&& Int32.toUInt32 31)).toInt32) &&& ((1431655765 : Int32)))) &&& ((858993459 : Int32))) + (((((x) - ((((x).toUInt32 >>> ((zI (1)).toUInt32 &&& Int32.toUInt32 31)).toInt32) &&& ((1431655765 : Int32)))).toUInt32 >>> ((zI (2)).toUInt32 &&& Int32.toUInt32 31)).toInt32) &&& ((858993459 : Int32)))).toUInt32 >>> ((zI (4)).toUInt32 &&& Int32.toUInt32 31)).toInt32)) &&& ((252645135 : Int32))) + ((((((((x) - ((((x).toUInt32 >>> ((zI (1)).toUInt32 &&& Int32.toUInt32 31)).toInt32) &&& ((1431655765 : Int32)))) &&& ((858993459 : Int32))) + (((((x) - ((((x).toUInt32 >>> ((zI (1)).toUInt32 &&& Int32.toUInt32 31)).toInt32) &&& ((1431655765 : Int32)))).toUInt32 >>> ((zI (2)).toUInt32 &&& Int32.toUInt32 31)).toInt32) &&& ((858993459 : Int32)))) + ((((((x) - ((((x).toUInt32 >>> ((zI (1)).toUInt32 &&& Int32.toUInt32 31)).toInt32) &&& ((1431655765 : Int32)))) &&& ((858993459 : Int32))) + (((((x) - ((((x).toUInt32 >>> ((zI (1)).toUInt32 &&& Int32.toUInt32 31)).toInt32) &&& ((1431655765 : Int32)))).toUInt32 >>> ((zI (2)).toUInt32 &&& Int32.toUInt32 31)).toInt32) &&& ((858993459 : Int32)))).toUInt32 >>> ((zI (4)).toUInt32 &&& Int32.toUInt32 31)).toInt32)) &&& ((252645135 : Int32))).toUInt32 >>> ((zI (8)).toUInt32 &&& Int32.toUInt32 31)).toInt32)) + (((((((((x) - ((((x).toUInt32 >>> ((zI (1)).toUInt32 &&& Int32.toUInt32 31)).toInt32) &&& ((1431655765 : Int32)))) &&& ((858993459 : Int32))) + (((((x) - ((((x).toUInt32 >>> ((zI (1)).toUInt32 &&& Int32.toUInt32 31)).toInt32) &&& ((1431655765 : Int32)))).toUInt32 >>> ((zI (2)).toUInt32 &&& Int32.toUInt32 31)).toInt32) &&& ((858993459 : Int32)))) + ((((((x) - ((((x).toUInt32 >>> ((zI (1)).toUInt32 &&& Int32.toUInt32 31)).toInt32) &&& ((1431655765 : Int32)))) &&& ((858993459 : Int32))) + (((((x) - ((((x).toUInt32 >>> ((zI (1)).toUInt32 &&& Int32.toUInt32 31)).toInt32) &&& ((1431655765 : Int32)))).toUInt32 >>> ((zI (2)).toUInt32 &&& Int32.toUInt32 31)).toInt32) &&& ((858993459 : Int32)))).toUInt32 >>> ((zI (4)).toUInt32 &&& Int32.toUInt32 31)).toInt32)) &&& ((252645135 : Int32))) + ((((((((x) - ((((x).toUInt32 >>> ((zI (1)).toUInt32 &&& Int32.toUInt32 31)).toInt32) &&& ((1431655765 : Int32)))) &&& ((858993459 : Int32))) + (((((x) - ((((x).toUInt32 >>> ((zI (1)).toUInt32 &&& Int32.toUInt32 31)).toInt32) &&& ((1431655765 : Int32)))).toUInt32 >>> ((zI (2)).toUInt32 &&& Int32.toUInt32 31)).toInt32) &&& ((858993459 : Int32)))) + ((((((x) - ((((x).toUInt32 >>> ((zI (1)).toUInt32 &&& Int32.toUInt32 31)).toInt32) &&& ((1431655765 : Int32)))) &&& ((858993459 : Int32))) + (((((x) - ((((x).toUInt32 >>> ((zI (1)).toUInt32 &&& Int32.toUInt32 31)).toInt32) &&& ((1431655765 : Int32)))).toUInt32 >>> ((zI (2)).toUInt32 &&& Int32.toUInt32 31)).toInt32) &&& ((858993459 : Int32)))).toUInt32 >>> ((zI (4)).toUInt32 &&& Int32.toUInt32 31)).toInt32)) &&& ((252645135 : Int32))).toUInt32 >>> ((zI (8)).toUInt32 &&& Int32.toUInt32 31)).toInt32)).toUInt32 >>> ((zI (16)).toUInt32 &&& Int32.toUInt32 31)).toInt32)))]) S dJ6_bitCount_0f7a4_47 hl rfl (by decide) rfl (fun ls hl => ?_)
  refine z_iload_n S dJ6_bitCount_0f7a4_48 hl 0 rfl rfl ?_
  refine z_bipush S dJ6_bitCount_0f7a4_49 rfl ?_
  refine lv_iand S.1 S.2.1 dJ6_bitCount_0f7a4_51 ?_
  exact ret _ _ _ dJ6_bitCount_0f7a4_52 (rfl)
def bcL (x : Int64) : Int32 := (((((((((((x) - ((((x).toUInt64 >>> ((zI (1)).toInt64.toUInt64 &&& Int64.toUInt64 63)).toInt64) &&& (6148914691236517205))) &&& (3689348814741910323)) + (((((x) - ((((x).toUInt64 >>> ((zI (1)).toInt64.toUInt64 &&& Int64.toUInt64 63)).toInt64) &&& (6148914691236517205))).toUInt64 >>> ((zI (2)).toInt64.toUInt64 &&& Int64.toUInt64 63)).toInt64) &&& (3689348814741910323))) + ((((((x) - ((((x).toUInt64 >>> ((zI (1)).toInt64.toUInt64 &&& Int64.toUInt64 63)).toInt64) &&& (6148914691236517205))) &&& (3689348814741910323)) + (((((x) - ((((x).toUInt64 >>> ((zI (1)).toInt64.toUInt64 &&& Int64.toUInt64 63)).toInt64) &&& (6148914691236517205))).toUInt64 >>> ((zI (2)).toInt64.toUInt64 &&& Int64.toUInt64 63)).toInt64) &&& (3689348814741910323))).toUInt64 >>> ((zI (4)).toInt64.toUInt64 &&& Int64.toUInt64 63)).toInt64)) &&& (1085102592571150095)) + ((((((((x) - ((((x).toUInt64 >>> ((zI (1)).toInt64.toUInt64 &&& Int64.toUInt64 63)).toInt64) &&& (6148914691236517205))) &&& (3689348814741910323)) + (((((x) - ((((x).toUInt64 >>> ((zI (1)).toInt64.toUInt64 &&& Int64.toUInt64 63)).toInt64) &&& (6148914691236517205))).toUInt64 >>> ((zI (2)).toInt64.toUInt64 &&& Int64.toUInt64 63)).toInt64) &&& (3689348814741910323))) + ((((((x) - ((((x).toUInt64 >>> ((zI (1)).toInt64.toUInt64 &&& Int64.toUInt64 63)).toInt64) &&& (6148914691236517205))) &&& (3689348814741910323)) + (((((x) - ((((x).toUInt64 >>> ((zI (1)).toInt64.toUInt64 &&& Int64.toUInt64 63)).toInt64) &&& (6148914691236517205))).toUInt64 >>> ((zI (2)).toInt64.toUInt64 &&& Int64.toUInt64 63)).toInt64) &&& (3689348814741910323))).toUInt64 >>> ((zI (4)).toInt64.toUInt64 &&& Int64.toUInt64 63)).toInt64)) &&& (1085102592571150095)).toUInt64 >>> ((zI (8)).toInt64.toUInt64 &&& Int64.toUInt64 63)).toInt64)) + (((((((((x) - ((((x).toUInt64 >>> ((zI (1)).toInt64.toUInt64 &&& Int64.toUInt64 63)).toInt64) &&& (6148914691236517205))) &&& (3689348814741910323)) + (((((x) - ((((x).toUInt64 >>> ((zI (1)).toInt64.toUInt64 &&& Int64.toUInt64 63)).toInt64) &&& (6148914691236517205))).toUInt64 >>> ((zI (2)).toInt64.toUInt64 &&& Int64.toUInt64 63)).toInt64) &&& (3689348814741910323))) + ((((((x) - ((((x).toUInt64 >>> ((zI (1)).toInt64.toUInt64 &&& Int64.toUInt64 63)).toInt64) &&& (6148914691236517205))) &&& (3689348814741910323)) + (((((x) - ((((x).toUInt64 >>> ((zI (1)).toInt64.toUInt64 &&& Int64.toUInt64 63)).toInt64) &&& (6148914691236517205))).toUInt64 >>> ((zI (2)).toInt64.toUInt64 &&& Int64.toUInt64 63)).toInt64) &&& (3689348814741910323))).toUInt64 >>> ((zI (4)).toInt64.toUInt64 &&& Int64.toUInt64 63)).toInt64)) &&& (1085102592571150095)) + ((((((((x) - ((((x).toUInt64 >>> ((zI (1)).toInt64.toUInt64 &&& Int64.toUInt64 63)).toInt64) &&& (6148914691236517205))) &&& (3689348814741910323)) + (((((x) - ((((x).toUInt64 >>> ((zI (1)).toInt64.toUInt64 &&& Int64.toUInt64 63)).toInt64) &&& (6148914691236517205))).toUInt64 >>> ((zI (2)).toInt64.toUInt64 &&& Int64.toUInt64 63)).toInt64) &&& (3689348814741910323))) + ((((((x) - ((((x).toUInt64 >>> ((zI (1)).toInt64.toUInt64 &&& Int64.toUInt64 63)).toInt64) &&& (6148914691236517205))) &&& (3689348814741910323)) + (((((x) - ((((x).toUInt64 >>> ((zI (1)).toInt64.toUInt64 &&& Int64.toUInt64 63)).toInt64) &&& (6148914691236517205))).toUInt64 >>> ((zI (2)).toInt64.toUInt64 &&& Int64.toUInt64 63)).toInt64) &&& (3689348814741910323))).toUInt64 >>> ((zI (4)).toInt64.toUInt64 &&& Int64.toUInt64 63)).toInt64)) &&& (1085102592571150095)).toUInt64 >>> ((zI (8)).toInt64.toUInt64 &&& Int64.toUInt64 63)).toInt64)).toUInt64 >>> ((zI (16)).toInt64.toUInt64 &&& Int64.toUInt64 63)).toInt64)) + ((((((((((x) - ((((x).toUInt64 >>> ((zI (1)).toInt64.toUInt64 &&& Int64.toUInt64 63)).toInt64) &&& (6148914691236517205))) &&& (3689348814741910323)) + (((((x) - ((((x).toUInt64 >>> ((zI (1)).toInt64.toUInt64 &&& Int64.toUInt64 63)).toInt64) &&& (6148914691236517205))).toUInt64 >>> ((zI (2)).toInt64.toUInt64 &&& Int64.toUInt64 63)).toInt64) &&& (3689348814741910323))) + ((((((x) - ((((x).toUInt64 >>> ((zI (1)).toInt64.toUInt64 &&& Int64.toUInt64 63)).toInt64) &&& (6148914691236517205))) &&& (3689348814741910323)) + (((((x) - ((((x).toUInt64 >>> ((zI (1)).toInt64.toUInt64 &&& Int64.toUInt64 63)).toInt64) &&& (6148914691236517205))).toUInt64 >>> ((zI (2)).toInt64.toUInt64 &&& Int64.toUInt64 63)).toInt64) &&& (3689348814741910323))).toUInt64 >>> ((zI (4)).toInt64.toUInt64 &&& Int64.toUInt64 63)).toInt64)) &&& (1085102592571150095)) + ((((((((x) - ((((x).toUInt64 >>> ((zI (1)).toInt64.toUInt64 &&& Int64.toUInt64 63)).toInt64) &&& (6148914691236517205))) &&& (3689348814741910323)) + (((((x) - ((((x).toUInt64 >>> ((zI (1)).toInt64.toUInt64 &&& Int64.toUInt64 63)).toInt64) &&& (6148914691236517205))).toUInt64 >>> ((zI (2)).toInt64.toUInt64 &&& Int64.toUInt64 63)).toInt64) &&& (3689348814741910323))) + ((((((x) - ((((x).toUInt64 >>> ((zI (1)).toInt64.toUInt64 &&& Int64.toUInt64 63)).toInt64) &&& (6148914691236517205))) &&& (3689348814741910323)) + (((((x) - ((((x).toUInt64 >>> ((zI (1)).toInt64.toUInt64 &&& Int64.toUInt64 63)).toInt64) &&& (6148914691236517205))).toUInt64 >>> ((zI (2)).toInt64.toUInt64 &&& Int64.toUInt64 63)).toInt64) &&& (3689348814741910323))).toUInt64 >>> ((zI (4)).toInt64.toUInt64 &&& Int64.toUInt64 63)).toInt64)) &&& (1085102592571150095)).toUInt64 >>> ((zI (8)).toInt64.toUInt64 &&& Int64.toUInt64 63)).toInt64)) + (((((((((x) - ((((x).toUInt64 >>> ((zI (1)).toInt64.toUInt64 &&& Int64.toUInt64 63)).toInt64) &&& (6148914691236517205))) &&& (3689348814741910323)) + (((((x) - ((((x).toUInt64 >>> ((zI (1)).toInt64.toUInt64 &&& Int64.toUInt64 63)).toInt64) &&& (6148914691236517205))).toUInt64 >>> ((zI (2)).toInt64.toUInt64 &&& Int64.toUInt64 63)).toInt64) &&& (3689348814741910323))) + ((((((x) - ((((x).toUInt64 >>> ((zI (1)).toInt64.toUInt64 &&& Int64.toUInt64 63)).toInt64) &&& (6148914691236517205))) &&& (3689348814741910323)) + (((((x) - ((((x).toUInt64 >>> ((zI (1)).toInt64.toUInt64 &&& Int64.toUInt64 63)).toInt64) &&& (6148914691236517205))).toUInt64 >>> ((zI (2)).toInt64.toUInt64 &&& Int64.toUInt64 63)).toInt64) &&& (3689348814741910323))).toUInt64 >>> ((zI (4)).toInt64.toUInt64 &&& Int64.toUInt64 63)).toInt64)) &&& (1085102592571150095)) + ((((((((x) - ((((x).toUInt64 >>> ((zI (1)).toInt64.toUInt64 &&& Int64.toUInt64 63)).toInt64) &&& (6148914691236517205))) &&& (3689348814741910323)) + (((((x) - ((((x).toUInt64 >>> ((zI (1)).toInt64.toUInt64 &&& Int64.toUInt64 63)).toInt64) &&& (6148914691236517205))).toUInt64 >>> ((zI (2)).toInt64.toUInt64 &&& Int64.toUInt64 63)).toInt64) &&& (3689348814741910323))) + ((((((x) - ((((x).toUInt64 >>> ((zI (1)).toInt64.toUInt64 &&& Int64.toUInt64 63)).toInt64) &&& (6148914691236517205))) &&& (3689348814741910323)) + (((((x) - ((((x).toUInt64 >>> ((zI (1)).toInt64.toUInt64 &&& Int64.toUInt64 63)).toInt64) &&& (6148914691236517205))).toUInt64 >>> ((zI (2)).toInt64.toUInt64 &&& Int64.toUInt64 63)).toInt64) &&& (3689348814741910323))).toUInt64 >>> ((zI (4)).toInt64.toUInt64 &&& Int64.toUInt64 63)).toInt64)) &&& (1085102592571150095)).toUInt64 >>> ((zI (8)).toInt64.toUInt64 &&& Int64.toUInt64 63)).toInt64)).toUInt64 >>> ((zI (16)).toInt64.toUInt64 &&& Int64.toUInt64 63)).toInt64)).toUInt64 >>> ((zI (32)).toInt64.toUInt64 &&& Int64.toUInt64 63)).toInt64)).toInt32) &&& (zI (127)))
theorem dJ13_bitCount_95d88_0 : decode cJ13_bitCount_95d88 0 = .ok (.lload_n 0, 1) := by decide +kernel
theorem dJ13_bitCount_95d88_1 : decode cJ13_bitCount_95d88 1 = .ok (.lload_n 0, 1) := by decide +kernel
theorem dJ13_bitCount_95d88_2 : decode cJ13_bitCount_95d88 2 = .ok (.iconst 1, 1) := by decide +kernel
theorem dJ13_bitCount_95d88_3 : decode cJ13_bitCount_95d88 3 = .ok (.lushr, 1) := by decide +kernel
theorem dJ13_bitCount_95d88_4 : decode cJ13_bitCount_95d88 4 = .ok (.ldc2_w 314, 3) := by decide +kernel
theorem dJ13_bitCount_95d88_7 : decode cJ13_bitCount_95d88 7 = .ok (.land, 1) := by decide +kernel
theorem dJ13_bitCount_95d88_8 : decode cJ13_bitCount_95d88 8 = .ok (.lsub, 1) := by decide +kernel
theorem dJ13_bitCount_95d88_9 : decode cJ13_bitCount_95d88 9 = .ok (.lstore_n 0, 1) := by decide +kernel
theorem dJ13_bitCount_95d88_10 : decode cJ13_bitCount_95d88 10 = .ok (.lload_n 0, 1) := by decide +kernel
theorem dJ13_bitCount_95d88_11 : decode cJ13_bitCount_95d88 11 = .ok (.ldc2_w 316, 3) := by decide +kernel
theorem dJ13_bitCount_95d88_14 : decode cJ13_bitCount_95d88 14 = .ok (.land, 1) := by decide +kernel
theorem dJ13_bitCount_95d88_15 : decode cJ13_bitCount_95d88 15 = .ok (.lload_n 0, 1) := by decide +kernel
theorem dJ13_bitCount_95d88_16 : decode cJ13_bitCount_95d88 16 = .ok (.iconst 2, 1) := by decide +kernel
theorem dJ13_bitCount_95d88_17 : decode cJ13_bitCount_95d88 17 = .ok (.lushr, 1) := by decide +kernel
theorem dJ13_bitCount_95d88_18 : decode cJ13_bitCount_95d88 18 = .ok (.ldc2_w 316, 3) := by decide +kernel
theorem dJ13_bitCount_95d88_21 : decode cJ13_bitCount_95d88 21 = .ok (.land, 1) := by decide +kernel
theorem dJ13_bitCount_95d88_22 : decode cJ13_bitCount_95d88 22 = .ok (.ladd, 1) := by decide +kernel
theorem dJ13_bitCount_95d88_23 : decode cJ13_bitCount_95d88 23 = .ok (.lstore_n 0, 1) := by decide +kernel
theorem dJ13_bitCount_95d88_24 : decode cJ13_bitCount_95d88 24 = .ok (.lload_n 0, 1) := by decide +kernel
theorem dJ13_bitCount_95d88_25 : decode cJ13_bitCount_95d88 25 = .ok (.lload_n 0, 1) := by decide +kernel
theorem dJ13_bitCount_95d88_26 : decode cJ13_bitCount_95d88 26 = .ok (.iconst 4, 1) := by decide +kernel
theorem dJ13_bitCount_95d88_27 : decode cJ13_bitCount_95d88 27 = .ok (.lushr, 1) := by decide +kernel
theorem dJ13_bitCount_95d88_28 : decode cJ13_bitCount_95d88 28 = .ok (.ladd, 1) := by decide +kernel
theorem dJ13_bitCount_95d88_29 : decode cJ13_bitCount_95d88 29 = .ok (.ldc2_w 318, 3) := by decide +kernel
theorem dJ13_bitCount_95d88_32 : decode cJ13_bitCount_95d88 32 = .ok (.land, 1) := by decide +kernel
theorem dJ13_bitCount_95d88_33 : decode cJ13_bitCount_95d88 33 = .ok (.lstore_n 0, 1) := by decide +kernel
theorem dJ13_bitCount_95d88_34 : decode cJ13_bitCount_95d88 34 = .ok (.lload_n 0, 1) := by decide +kernel
theorem dJ13_bitCount_95d88_35 : decode cJ13_bitCount_95d88 35 = .ok (.lload_n 0, 1) := by decide +kernel
theorem dJ13_bitCount_95d88_36 : decode cJ13_bitCount_95d88 36 = .ok (.bipush 8, 2) := by decide +kernel
theorem dJ13_bitCount_95d88_38 : decode cJ13_bitCount_95d88 38 = .ok (.lushr, 1) := by decide +kernel
theorem dJ13_bitCount_95d88_39 : decode cJ13_bitCount_95d88 39 = .ok (.ladd, 1) := by decide +kernel
theorem dJ13_bitCount_95d88_40 : decode cJ13_bitCount_95d88 40 = .ok (.lstore_n 0, 1) := by decide +kernel
theorem dJ13_bitCount_95d88_41 : decode cJ13_bitCount_95d88 41 = .ok (.lload_n 0, 1) := by decide +kernel
theorem dJ13_bitCount_95d88_42 : decode cJ13_bitCount_95d88 42 = .ok (.lload_n 0, 1) := by decide +kernel
theorem dJ13_bitCount_95d88_43 : decode cJ13_bitCount_95d88 43 = .ok (.bipush 16, 2) := by decide +kernel
theorem dJ13_bitCount_95d88_45 : decode cJ13_bitCount_95d88 45 = .ok (.lushr, 1) := by decide +kernel
theorem dJ13_bitCount_95d88_46 : decode cJ13_bitCount_95d88 46 = .ok (.ladd, 1) := by decide +kernel
theorem dJ13_bitCount_95d88_47 : decode cJ13_bitCount_95d88 47 = .ok (.lstore_n 0, 1) := by decide +kernel
theorem dJ13_bitCount_95d88_48 : decode cJ13_bitCount_95d88 48 = .ok (.lload_n 0, 1) := by decide +kernel
theorem dJ13_bitCount_95d88_49 : decode cJ13_bitCount_95d88 49 = .ok (.lload_n 0, 1) := by decide +kernel
theorem dJ13_bitCount_95d88_50 : decode cJ13_bitCount_95d88 50 = .ok (.bipush 32, 2) := by decide +kernel
theorem dJ13_bitCount_95d88_52 : decode cJ13_bitCount_95d88 52 = .ok (.lushr, 1) := by decide +kernel
theorem dJ13_bitCount_95d88_53 : decode cJ13_bitCount_95d88 53 = .ok (.ladd, 1) := by decide +kernel
theorem dJ13_bitCount_95d88_54 : decode cJ13_bitCount_95d88 54 = .ok (.lstore_n 0, 1) := by decide +kernel
theorem dJ13_bitCount_95d88_55 : decode cJ13_bitCount_95d88 55 = .ok (.lload_n 0, 1) := by decide +kernel
theorem dJ13_bitCount_95d88_56 : decode cJ13_bitCount_95d88 56 = .ok (.l2i, 1) := by decide +kernel
theorem dJ13_bitCount_95d88_57 : decode cJ13_bitCount_95d88 57 = .ok (.bipush 127, 2) := by decide +kernel
theorem dJ13_bitCount_95d88_59 : decode cJ13_bitCount_95d88 59 = .ok (.iand, 1) := by decide +kernel
theorem dJ13_bitCount_95d88_60 : decode cJ13_bitCount_95d88 60 = .ok (.ireturn, 1) := by decide +kernel
theorem q2_17 : (Jvm.Cond.constantLong "java/lang/Long" (314 : Nat) (6148914691236517205 : Int64)) ∈ lw_g := zg_of (zin2 (List.mem_of_getElem? (i := 17) rfl)) rfl
theorem q2_18 : (Jvm.Cond.constantLong "java/lang/Long" (316 : Nat) (3689348814741910323 : Int64)) ∈ lw_g := zg_of (zin2 (List.mem_of_getElem? (i := 18) rfl)) rfl
theorem q2_19 : (Jvm.Cond.constantLong "java/lang/Long" (318 : Nat) (1085102592571150095 : Int64)) ∈ lw_g := zg_of (zin2 (List.mem_of_getElem? (i := 19) rfl)) rfl
theorem q2_16 : (Jvm.Cond.code ({ cls := "java/lang/Long", name := "bitCount", desc := "(J)I" } : Jvm.MethodName) prog_19_method_50_code (2 : Nat) (Option.some Jvm.ClassFile.FieldType.int)) ∈ lw_g := zg_of (zin2 (List.mem_of_getElem? (i := 16) rfl)) rfl
theorem q1_23 : (Jvm.Cond.initialized "java/lang/Long") ∈ lw_g := zg_of (zin1 (List.mem_of_getElem? (i := 23) rfl)) rfl
theorem q2_15 : (Jvm.Cond.static ({ cls := "java/lang/Long", name := "bitCount", desc := "(J)I" } : Jvm.MethodName)) ∈ lw_g := zg_of (zin2 (List.mem_of_getElem? (i := 15) rfl)) rfl
theorem ok_J13_bitCount_95d88 : zOS yJ13_bitCount_95d88 cJ13_bitCount_95d88 2 ((Option.some Jvm.ClassFile.FieldType.int)) 1 := ⟨⟨q2_16, q1_23, by decide, by decide, by decide +kernel⟩, q2_15⟩
set_option maxHeartbeats 4000000 in
set_option maxRecDepth 100000 in
theorem c_bitCountL (l : Launch) (G : zG) (x : Int64) : Met l yJ13_bitCount_95d88 (wq yJ13_bitCount_95d88 cJ13_bitCount_95d88 2 ((Option.some Jvm.ClassFile.FieldType.int))) (rmR 0 0) (va_Pc [.long (x)] (zK G (fun _ => True))) (zQ (some (.int ((bcL x))))) 0 0 zF := by
  refine z_enterI (by decide +kernel) (Nat.le_of_ble_eq_true rfl) ?_
  intro p env s m below meth cod Q S hG hP ret ls hl
  have hl : lv_has ls 2 [(0, .long (x))] := hl
  refine lv_lload_n S.1 S.2.1 dJ13_bitCount_95d88_0 rfl (lv_at hl 0 rfl) ?_
  refine lv_lload_n S.1 S.2.1 dJ13_bitCount_95d88_1 rfl (lv_at hl 0 rfl) ?_
  refine z_iconst S dJ13_bitCount_95d88_2 ?_
  refine lv_lushr S.1 S.2.1 dJ13_bitCount_95d88_3 rfl ?_
  refine lv_ldc2 S.1 S.2.1 S.2.2.2.1 (S.2.2.2.2 _ q2_17) dJ13_bitCount_95d88_4 ?_
  refine lv_land S.1 S.2.1 dJ13_bitCount_95d88_7 ?_
  refine lv_lsub S.1 S.2.1 dJ13_bitCount_95d88_8 ?_
  refine lv_lstore_n (lv' := [(0, .long ((x) - ((((x).toUInt64 >>> ((zI (1)).toInt64.toUInt64 &&& Int64.toUInt64 63)).toInt64) &&& (6148914691236517205))))]) S.1 S.2.1 dJ13_bitCount_95d88_9 rfl hl (by decide) rfl (fun ls hl => ?_)
  refine lv_lload_n S.1 S.2.1 dJ13_bitCount_95d88_10 rfl (lv_at hl 0 rfl) ?_
  refine lv_ldc2 S.1 S.2.1 S.2.2.2.1 (S.2.2.2.2 _ q2_18) dJ13_bitCount_95d88_11 ?_
  refine lv_land S.1 S.2.1 dJ13_bitCount_95d88_14 ?_
  refine lv_lload_n S.1 S.2.1 dJ13_bitCount_95d88_15 rfl (lv_at hl 0 rfl) ?_
  refine z_iconst S dJ13_bitCount_95d88_16 ?_
  refine lv_lushr S.1 S.2.1 dJ13_bitCount_95d88_17 rfl ?_
  refine lv_ldc2 S.1 S.2.1 S.2.2.2.1 (S.2.2.2.2 _ q2_18) dJ13_bitCount_95d88_18 ?_
  refine lv_land S.1 S.2.1 dJ13_bitCount_95d88_21 ?_
  refine lv_ladd S.1 S.2.1 dJ13_bitCount_95d88_22 ?_
  refine lv_lstore_n (lv' := [(0, .long ((((x) - ((((x).toUInt64 >>> ((zI (1)).toInt64.toUInt64 &&& Int64.toUInt64 63)).toInt64) &&& (6148914691236517205))) &&& (3689348814741910323)) + (((((x) - ((((x).toUInt64 >>> ((zI (1)).toInt64.toUInt64 &&& Int64.toUInt64 63)).toInt64) &&& (6148914691236517205))).toUInt64 >>> ((zI (2)).toInt64.toUInt64 &&& Int64.toUInt64 63)).toInt64) &&& (3689348814741910323))))]) S.1 S.2.1 dJ13_bitCount_95d88_23 rfl hl (by decide) rfl (fun ls hl => ?_)
  refine lv_lload_n S.1 S.2.1 dJ13_bitCount_95d88_24 rfl (lv_at hl 0 rfl) ?_
  refine lv_lload_n S.1 S.2.1 dJ13_bitCount_95d88_25 rfl (lv_at hl 0 rfl) ?_
  refine z_iconst S dJ13_bitCount_95d88_26 ?_
  refine lv_lushr S.1 S.2.1 dJ13_bitCount_95d88_27 rfl ?_
  refine lv_ladd S.1 S.2.1 dJ13_bitCount_95d88_28 ?_
  refine lv_ldc2 S.1 S.2.1 S.2.2.2.1 (S.2.2.2.2 _ q2_19) dJ13_bitCount_95d88_29 ?_
  refine lv_land S.1 S.2.1 dJ13_bitCount_95d88_32 ?_
  refine lv_lstore_n (lv' := [(0, .long ((((((x) - ((((x).toUInt64 >>> ((zI (1)).toInt64.toUInt64 &&& Int64.toUInt64 63)).toInt64) &&& (6148914691236517205))) &&& (3689348814741910323)) + (((((x) - ((((x).toUInt64 >>> ((zI (1)).toInt64.toUInt64 &&& Int64.toUInt64 63)).toInt64) &&& (6148914691236517205))).toUInt64 >>> ((zI (2)).toInt64.toUInt64 &&& Int64.toUInt64 63)).toInt64) &&& (3689348814741910323))) + ((((((x) - ((((x).toUInt64 >>> ((zI (1)).toInt64.toUInt64 &&& Int64.toUInt64 63)).toInt64) &&& (6148914691236517205))) &&& (3689348814741910323)) + (((((x) - ((((x).toUInt64 >>> ((zI (1)).toInt64.toUInt64 &&& Int64.toUInt64 63)).toInt64) &&& (6148914691236517205))).toUInt64 >>> ((zI (2)).toInt64.toUInt64 &&& Int64.toUInt64 63)).toInt64) &&& (3689348814741910323))).toUInt64 >>> ((zI (4)).toInt64.toUInt64 &&& Int64.toUInt64 63)).toInt64)) &&& (1085102592571150095)))]) S.1 S.2.1 dJ13_bitCount_95d88_33 rfl hl (by decide) rfl (fun ls hl => ?_)
  refine lv_lload_n S.1 S.2.1 dJ13_bitCount_95d88_34 rfl (lv_at hl 0 rfl) ?_
  refine lv_lload_n S.1 S.2.1 dJ13_bitCount_95d88_35 rfl (lv_at hl 0 rfl) ?_
  refine z_bipush S dJ13_bitCount_95d88_36 rfl ?_
  refine lv_lushr S.1 S.2.1 dJ13_bitCount_95d88_38 rfl ?_
  refine lv_ladd S.1 S.2.1 dJ13_bitCount_95d88_39 ?_
  refine lv_lstore_n (lv' := [(0, .long (((((((x) - ((((x).toUInt64 >>> ((zI (1)).toInt64.toUInt64 &&& Int64.toUInt64 63)).toInt64) &&& (6148914691236517205))) &&& (3689348814741910323)) + (((((x) - ((((x).toUInt64 >>> ((zI (1)).toInt64.toUInt64 &&& Int64.toUInt64 63)).toInt64) &&& (6148914691236517205))).toUInt64 >>> ((zI (2)).toInt64.toUInt64 &&& Int64.toUInt64 63)).toInt64) &&& (3689348814741910323))) + ((((((x) - ((((x).toUInt64 >>> ((zI (1)).toInt64.toUInt64 &&& Int64.toUInt64 63)).toInt64) &&& (6148914691236517205))) &&& (3689348814741910323)) + (((((x) - ((((x).toUInt64 >>> ((zI (1)).toInt64.toUInt64 &&& Int64.toUInt64 63)).toInt64) &&& (6148914691236517205))).toUInt64 >>> ((zI (2)).toInt64.toUInt64 &&& Int64.toUInt64 63)).toInt64) &&& (3689348814741910323))).toUInt64 >>> ((zI (4)).toInt64.toUInt64 &&& Int64.toUInt64 63)).toInt64)) &&& (1085102592571150095)) + ((((((((x) - ((((x).toUInt64 >>> ((zI (1)).toInt64.toUInt64 &&& Int64.toUInt64 63)).toInt64) &&& (6148914691236517205))) &&& (3689348814741910323)) + (((((x) - ((((x).toUInt64 >>> ((zI (1)).toInt64.toUInt64 &&& Int64.toUInt64 63)).toInt64) &&& (6148914691236517205))).toUInt64 >>> ((zI (2)).toInt64.toUInt64 &&& Int64.toUInt64 63)).toInt64) &&& (3689348814741910323))) + ((((((x) - ((((x).toUInt64 >>> ((zI (1)).toInt64.toUInt64 &&& Int64.toUInt64 63)).toInt64) &&& (6148914691236517205))) &&& (3689348814741910323)) + (((((x) - ((((x).toUInt64 >>> ((zI (1)).toInt64.toUInt64 &&& Int64.toUInt64 63)).toInt64) &&& (6148914691236517205))).toUInt64 >>> ((zI (2)).toInt64.toUInt64 &&& Int64.toUInt64 63)).toInt64) &&& (3689348814741910323))).toUInt64 >>> ((zI (4)).toInt64.toUInt64 &&& Int64.toUInt64 63)).toInt64)) &&& (1085102592571150095)).toUInt64 >>> ((zI (8)).toInt64.toUInt64 &&& Int64.toUInt64 63)).toInt64)))]) S.1 S.2.1 dJ13_bitCount_95d88_40 rfl hl (by decide) rfl (fun ls hl => ?_)
  refine lv_lload_n S.1 S.2.1 dJ13_bitCount_95d88_41 rfl (lv_at hl 0 rfl) ?_
  refine lv_lload_n S.1 S.2.1 dJ13_bitCount_95d88_42 rfl (lv_at hl 0 rfl) ?_
  refine z_bipush S dJ13_bitCount_95d88_43 rfl ?_
  refine lv_lushr S.1 S.2.1 dJ13_bitCount_95d88_45 rfl ?_
  refine lv_ladd S.1 S.2.1 dJ13_bitCount_95d88_46 ?_
  refine lv_lstore_n (lv' := [(0, .long ((((((((x) - ((((x).toUInt64 >>> ((zI (1)).toInt64.toUInt64 &&& Int64.toUInt64 63)).toInt64) &&& (6148914691236517205))) &&& (3689348814741910323)) + (((((x) - ((((x).toUInt64 >>> ((zI (1)).toInt64.toUInt64 &&& Int64.toUInt64 63)).toInt64) &&& (6148914691236517205))).toUInt64 >>> ((zI (2)).toInt64.toUInt64 &&& Int64.toUInt64 63)).toInt64) &&& (3689348814741910323))) + ((((((x) - ((((x).toUInt64 >>> ((zI (1)).toInt64.toUInt64 &&& Int64.toUInt64 63)).toInt64) &&& (6148914691236517205))) &&& (3689348814741910323)) + (((((x) - ((((x).toUInt64 >>> ((zI (1)).toInt64.toUInt64 &&& Int64.toUInt64 63)).toInt64) &&& (6148914691236517205))).toUInt64 >>> ((zI (2)).toInt64.toUInt64 &&& Int64.toUInt64 63)).toInt64) &&& (3689348814741910323))).toUInt64 >>> ((zI (4)).toInt64.toUInt64 &&& Int64.toUInt64 63)).toInt64)) &&& (1085102592571150095)) + ((((((((x) - ((((x).toUInt64 >>> ((zI (1)).toInt64.toUInt64 &&& Int64.toUInt64 63)).toInt64) &&& (6148914691236517205))) &&& (3689348814741910323)) + (((((x) - ((((x).toUInt64 >>> ((zI (1)).toInt64.toUInt64 &&& Int64.toUInt64 63)).toInt64) &&& (6148914691236517205))).toUInt64 >>> ((zI (2)).toInt64.toUInt64 &&& Int64.toUInt64 63)).toInt64) &&& (3689348814741910323))) + ((((((x) - ((((x).toUInt64 >>> ((zI (1)).toInt64.toUInt64 &&& Int64.toUInt64 63)).toInt64) &&& (6148914691236517205))) &&& (3689348814741910323)) + (((((x) - ((((x).toUInt64 >>> ((zI (1)).toInt64.toUInt64 &&& Int64.toUInt64 63)).toInt64) &&& (6148914691236517205))).toUInt64 >>> ((zI (2)).toInt64.toUInt64 &&& Int64.toUInt64 63)).toInt64) &&& (3689348814741910323))).toUInt64 >>> ((zI (4)).toInt64.toUInt64 &&& Int64.toUInt64 63)).toInt64)) &&& (1085102592571150095)).toUInt64 >>> ((zI (8)).toInt64.toUInt64 &&& Int64.toUInt64 63)).toInt64)) + (((((((((x) - ((((x).toUInt64 >>> ((zI (1)).toInt64.toUInt64 &&& Int64.toUInt64 63)).toInt64) &&& (6148914691236517205))) &&& (3689348814741910323)) + (((((x) - ((((x).toUInt64 >>> ((zI (1)).toInt64.toUInt64 &&& Int64.toUInt64 63)).toInt64) &&& (6148914691236517205))).toUInt64 >>> ((zI (2)).toInt64.toUInt64 &&& Int64.toUInt64 63)).toInt64) &&& (3689348814741910323))) + ((((((x) - ((((x).toUInt64 >>> ((zI (1)).toInt64.toUInt64 &&& Int64.toUInt64 63)).toInt64) &&& (6148914691236517205))) &&& (3689348814741910323)) + (((((x) - ((((x).toUInt64 >>> ((zI (1)).toInt64.toUInt64 &&& Int64.toUInt64 63)).toInt64) &&& (6148914691236517205))).toUInt64 >>> ((zI (2)).toInt64.toUInt64 &&& Int64.toUInt64 63)).toInt64) &&& (3689348814741910323))).toUInt64 >>> ((zI (4)).toInt64.toUInt64 &&& Int64.toUInt64 63)).toInt64)) &&& (1085102592571150095)) + ((((((((x) - ((((x).toUInt64 >>> ((zI (1)).toInt64.toUInt64 &&& Int64.toUInt64 63)).toInt64) &&& (6148914691236517205))) &&& (3689348814741910323)) + (((((x) - ((((x).toUInt64 >>> ((zI (1)).toInt64.toUInt64 &&& Int64.toUInt64 63)).toInt64) &&& (6148914691236517205))).toUInt64 >>> ((zI (2)).toInt64.toUInt64 &&& Int64.toUInt64 63)).toInt64) &&& (3689348814741910323))) + ((((((x) - ((((x).toUInt64 >>> ((zI (1)).toInt64.toUInt64 &&& Int64.toUInt64 63)).toInt64) &&& (6148914691236517205))) &&& (3689348814741910323)) + (((((x) - ((((x).toUInt64 >>> ((zI (1)).toInt64.toUInt64 &&& Int64.toUInt64 63)).toInt64) &&& (6148914691236517205))).toUInt64 >>> ((zI (2)).toInt64.toUInt64 &&& Int64.toUInt64 63)).toInt64) &&& (3689348814741910323))).toUInt64 >>> ((zI (4)).toInt64.toUInt64 &&& Int64.toUInt64 63)).toInt64)) &&& (1085102592571150095)).toUInt64 >>> ((zI (8)).toInt64.toUInt64 &&& Int64.toUInt64 63)).toInt64)).toUInt64 >>> ((zI (16)).toInt64.toUInt64 &&& Int64.toUInt64 63)).toInt64)))]) S.1 S.2.1 dJ13_bitCount_95d88_47 rfl hl (by decide) rfl (fun ls hl => ?_)
  refine lv_lload_n S.1 S.2.1 dJ13_bitCount_95d88_48 rfl (lv_at hl 0 rfl) ?_
  refine lv_lload_n S.1 S.2.1 dJ13_bitCount_95d88_49 rfl (lv_at hl 0 rfl) ?_
  refine z_bipush S dJ13_bitCount_95d88_50 rfl ?_
  refine lv_lushr S.1 S.2.1 dJ13_bitCount_95d88_52 rfl ?_
  refine lv_ladd S.1 S.2.1 dJ13_bitCount_95d88_53 ?_
  refine lv_lstore_n (lv' := [(0, .long (((((((((x) - ((((x).toUInt64 >>> ((zI (1)).toInt64.toUInt64 &&& Int64.toUInt64 63)).toInt64) &&& (6148914691236517205))) &&& (3689348814741910323)) + (((((x) - ((((x).toUInt64 >>> ((zI (1)).toInt64.toUInt64 &&& Int64.toUInt64 63)).toInt64) &&& (6148914691236517205))).toUInt64 >>> ((zI (2)).toInt64.toUInt64 &&& Int64.toUInt64 63)).toInt64) &&& (3689348814741910323))) + ((((((x) - ((((x).toUInt64 >>> ((zI (1)).toInt64.toUInt64 &&& Int64.toUInt64 63)).toInt64) &&& (6148914691236517205))) &&& (3689348814741910323)) + (((((x) - ((((x).toUInt64 >>> ((zI (1)).toInt64.toUInt64 &&& Int64.toUInt64 63)).toInt64) &&& (6148914691236517205))).toUInt64 >>> ((zI (2)).toInt64.toUInt64 &&& Int64.toUInt64 63)).toInt64) &&& (3689348814741910323))).toUInt64 >>> ((zI (4)).toInt64.toUInt64 &&& Int64.toUInt64 63)).toInt64)) &&& (1085102592571150095)) + ((((((((x) - ((((x).toUInt64 >>> ((zI (1)).toInt64.toUInt64 &&& Int64.toUInt64 63)).toInt64) &&& (6148914691236517205))) &&& (3689348814741910323)) + (((((x) - ((((x).toUInt64 >>> ((zI (1)).toInt64.toUInt64 &&& Int64.toUInt64 63)).toInt64) &&& (6148914691236517205))).toUInt64 >>> ((zI (2)).toInt64.toUInt64 &&& Int64.toUInt64 63)).toInt64) &&& (3689348814741910323))) + ((((((x) - ((((x).toUInt64 >>> ((zI (1)).toInt64.toUInt64 &&& Int64.toUInt64 63)).toInt64) &&& (6148914691236517205))) &&& (3689348814741910323)) + (((((x) - ((((x).toUInt64 >>> ((zI (1)).toInt64.toUInt64 &&& Int64.toUInt64 63)).toInt64) &&& (6148914691236517205))).toUInt64 >>> ((zI (2)).toInt64.toUInt64 &&& Int64.toUInt64 63)).toInt64) &&& (3689348814741910323))).toUInt64 >>> ((zI (4)).toInt64.toUInt64 &&& Int64.toUInt64 63)).toInt64)) &&& (1085102592571150095)).toUInt64 >>> ((zI (8)).toInt64.toUInt64 &&& Int64.toUInt64 63)).toInt64)) + (((((((((x) - ((((x).toUInt64 >>> ((zI (1)).toInt64.toUInt64 &&& Int64.toUInt64 63)).toInt64) &&& (6148914691236517205))) &&& (3689348814741910323)) + (((((x) - ((((x).toUInt64 >>> ((zI (1)).toInt64.toUInt64 &&& Int64.toUInt64 63)).toInt64) &&& (6148914691236517205))).toUInt64 >>> ((zI (2)).toInt64.toUInt64 &&& Int64.toUInt64 63)).toInt64) &&& (3689348814741910323))) + ((((((x) - ((((x).toUInt64 >>> ((zI (1)).toInt64.toUInt64 &&& Int64.toUInt64 63)).toInt64) &&& (6148914691236517205))) &&& (3689348814741910323)) + (((((x) - ((((x).toUInt64 >>> ((zI (1)).toInt64.toUInt64 &&& Int64.toUInt64 63)).toInt64) &&& (6148914691236517205))).toUInt64 >>> ((zI (2)).toInt64.toUInt64 &&& Int64.toUInt64 63)).toInt64) &&& (3689348814741910323))).toUInt64 >>> ((zI (4)).toInt64.toUInt64 &&& Int64.toUInt64 63)).toInt64)) &&& (1085102592571150095)) + ((((((((x) - ((((x).toUInt64 >>> ((zI (1)).toInt64.toUInt64 &&& Int64.toUInt64 63)).toInt64) &&& (6148914691236517205))) &&& (3689348814741910323)) + (((((x) - ((((x).toUInt64 >>> ((zI (1)).toInt64.toUInt64 &&& Int64.toUInt64 63)).toInt64) &&& (6148914691236517205))).toUInt64 >>> ((zI (2)).toInt64.toUInt64 &&& Int64.toUInt64 63)).toInt64) &&& (3689348814741910323))) + ((((((x) - ((((x).toUInt64 >>> ((zI (1)).toInt64.toUInt64 &&& Int64.toUInt64 63)).toInt64) &&& (6148914691236517205))) &&& (3689348814741910323)) + (((((x) - ((((x).toUInt64 >>> ((zI (1)).toInt64.toUInt64 &&& Int64.toUInt64 63)).toInt64) &&& (6148914691236517205))).toUInt64 >>> ((zI (2)).toInt64.toUInt64 &&& Int64.toUInt64 63)).toInt64) &&& (3689348814741910323))).toUInt64 >>> ((zI (4)).toInt64.toUInt64 &&& Int64.toUInt64 63)).toInt64)) &&& (1085102592571150095)).toUInt64 >>> ((zI (8)).toInt64.toUInt64 &&& Int64.toUInt64 63)).toInt64)).toUInt64 >>> ((zI (16)).toInt64.toUInt64 &&& Int64.toUInt64 63)).toInt64)) + ((((((((((x) - ((((x).toUInt64 >>> ((zI (1)).toInt64.toUInt64 &&& Int64.toUInt64 63)).toInt64) &&& (6148914691236517205))) &&& (3689348814741910323)) + (((((x) - ((((x).toUInt64 >>> ((zI (1)).toInt64.toUInt64 &&& Int64.toUInt64 63)).toInt64) &&& (6148914691236517205))).toUInt64 >>> ((zI (2)).toInt64.toUInt64 &&& Int64.toUInt64 63)).toInt64) &&& (3689348814741910323))) + ((((((x) - ((((x).toUInt64 >>> ((zI (1)).toInt64.toUInt64 &&& Int64.toUInt64 63)).toInt64) &&& (6148914691236517205))) &&& (3689348814741910323)) + (((((x) - ((((x).toUInt64 >>> ((zI (1)).toInt64.toUInt64 &&& Int64.toUInt64 63)).toInt64) &&& (6148914691236517205))).toUInt64 >>> ((zI (2)).toInt64.toUInt64 &&& Int64.toUInt64 63)).toInt64) &&& (3689348814741910323))).toUInt64 >>> ((zI (4)).toInt64.toUInt64 &&& Int64.toUInt64 63)).toInt64)) &&& (1085102592571150095)) + ((((((((x) - ((((x).toUInt64 >>> ((zI (1)).toInt64.toUInt64 &&& Int64.toUInt64 63)).toInt64) &&& (6148914691236517205))) &&& (3689348814741910323)) + (((((x) - ((((x).toUInt64 >>> ((zI (1)).toInt64.toUInt64 &&& Int64.toUInt64 63)).toInt64) &&& (6148914691236517205))).toUInt64 >>> ((zI (2)).toInt64.toUInt64 &&& Int64.toUInt64 63)).toInt64) &&& (3689348814741910323))) + ((((((x) - ((((x).toUInt64 >>> ((zI (1)).toInt64.toUInt64 &&& Int64.toUInt64 63)).toInt64) &&& (6148914691236517205))) &&& (3689348814741910323)) + (((((x) - ((((x).toUInt64 >>> ((zI (1)).toInt64.toUInt64 &&& Int64.toUInt64 63)).toInt64) &&& (6148914691236517205))).toUInt64 >>> ((zI (2)).toInt64.toUInt64 &&& Int64.toUInt64 63)).toInt64) &&& (3689348814741910323))).toUInt64 >>> ((zI (4)).toInt64.toUInt64 &&& Int64.toUInt64 63)).toInt64)) &&& (1085102592571150095)).toUInt64 >>> ((zI (8)).toInt64.toUInt64 &&& Int64.toUInt64 63)).toInt64)) + (((((((((x) - ((((x).toUInt64 >>> ((zI (1)).toInt64.toUInt64 &&& Int64.toUInt64 63)).toInt64) &&& (6148914691236517205))) &&& (3689348814741910323)) + (((((x) - ((((x).toUInt64 >>> ((zI (1)).toInt64.toUInt64 &&& Int64.toUInt64 63)).toInt64) &&& (6148914691236517205))).toUInt64 >>> ((zI (2)).toInt64.toUInt64 &&& Int64.toUInt64 63)).toInt64) &&& (3689348814741910323))) + ((((((x) - ((((x).toUInt64 >>> ((zI (1)).toInt64.toUInt64 &&& Int64.toUInt64 63)).toInt64) &&& (6148914691236517205))) &&& (3689348814741910323)) + (((((x) - ((((x).toUInt64 >>> ((zI (1)).toInt64.toUInt64 &&& Int64.toUInt64 63)).toInt64) &&& (6148914691236517205))).toUInt64 >>> ((zI (2)).toInt64.toUInt64 &&& Int64.toUInt64 63)).toInt64) &&& (3689348814741910323))).toUInt64 >>> ((zI (4)).toInt64.toUInt64 &&& Int64.toUInt64 63)).toInt64)) &&& (1085102592571150095)) + ((((((((x) - ((((x).toUInt64 >>> ((zI (1)).toInt64.toUInt64 &&& Int64.toUInt64 63)).toInt64) &&& (6148914691236517205))) &&& (3689348814741910323)) + (((((x) - ((((x).toUInt64 >>> ((zI (1)).toInt64.toUInt64 &&& Int64.toUInt64 63)).toInt64) &&& (6148914691236517205))).toUInt64 >>> ((zI (2)).toInt64.toUInt64 &&& Int64.toUInt64 63)).toInt64) &&& (3689348814741910323))) + ((((((x) - ((((x).toUInt64 >>> ((zI (1)).toInt64.toUInt64 &&& Int64.toUInt64 63)).toInt64) &&& (6148914691236517205))) &&& (3689348814741910323)) + (((((x) - ((((x).toUInt64 >>> ((zI (1)).toInt64.toUInt64 &&& Int64.toUInt64 63)).toInt64) &&& (6148914691236517205))).toUInt64 >>> ((zI (2)).toInt64.toUInt64 &&& Int64.toUInt64 63)).toInt64) &&& (3689348814741910323))).toUInt64 >>> ((zI (4)).toInt64.toUInt64 &&& Int64.toUInt64 63)).toInt64)) &&& (1085102592571150095)).toUInt64 >>> ((zI (8)).toInt64.toUInt64 &&& Int64.toUInt64 63)).toInt64)).toUInt64 >>> ((zI (16)).toInt64.toUInt64 &&& Int64.toUInt64 63)).toInt64)).toUInt64 >>> ((zI (32)).toInt64.toUInt64 &&& Int64.toUInt64 63)).toInt64)))]) S.1 S.2.1 dJ13_bitCount_95d88_54 rfl hl (by decide) rfl (fun ls hl => ?_)
  refine lv_lload_n S.1 S.2.1 dJ13_bitCount_95d88_55 rfl (lv_at hl 0 rfl) ?_
  refine lv_l2i S.1 S.2.1 dJ13_bitCount_95d88_56 rfl ?_
  refine z_bipush S dJ13_bitCount_95d88_57 rfl ?_
  refine lv_iand S.1 S.2.1 dJ13_bitCount_95d88_59 ?_
  exact ret _ _ _ dJ13_bitCount_95d88_60 (rfl)
theorem dX2_isEntry_0 : decode cX2_isEntry 0 = .ok (.iload_n 0, 1) := by decide +kernel
theorem dX2_isEntry_1 : decode cX2_isEntry 1 = .ok (.ifCond .lt 13, 3) := by decide +kernel
theorem dX2_isEntry_4 : decode cX2_isEntry 4 = .ok (.iload_n 0, 1) := by decide +kernel
theorem dX2_isEntry_5 : decode cX2_isEntry 5 = .ok (.bipush 16, 2) := by decide +kernel
theorem dX2_isEntry_7 : decode cX2_isEntry 7 = .ok (.if_icmp .ge 7, 3) := by decide +kernel
theorem dX2_isEntry_10 : decode cX2_isEntry 10 = .ok (.iconst 1, 1) := by decide +kernel
theorem dX2_isEntry_11 : decode cX2_isEntry 11 = .ok (.goto 4, 3) := by decide +kernel
theorem dX2_isEntry_14 : decode cX2_isEntry 14 = .ok (.iconst 0, 1) := by decide +kernel
theorem dX2_isEntry_15 : decode cX2_isEntry 15 = .ok (.ireturn, 1) := by decide +kernel
theorem q1_139 : (Jvm.Cond.code ({ cls := "Cyclepaint", name := "isEntry", desc := "(I)Z" } : Jvm.MethodName) prog_1_method_27_code (1 : Nat) (Option.some Jvm.ClassFile.FieldType.boolean)) ∈ lw_g := zg_of (zin1 (List.mem_of_getElem? (i := 139) rfl)) rfl
theorem q1_1 : (Jvm.Cond.initialized "Cyclepaint") ∈ lw_g := zg_of (zin1 (List.mem_of_getElem? (i := 1) rfl)) rfl
theorem q1_138 : (Jvm.Cond.static ({ cls := "Cyclepaint", name := "isEntry", desc := "(I)Z" } : Jvm.MethodName)) ∈ lw_g := zg_of (zin1 (List.mem_of_getElem? (i := 138) rfl)) rfl
theorem ok_X2_isEntry : zOS yX2_isEntry cX2_isEntry 1 ((Option.some Jvm.ClassFile.FieldType.boolean)) 1 := ⟨⟨q1_139, q1_1, by decide, by decide, by decide +kernel⟩, q1_138⟩
set_option maxHeartbeats 4000000 in
set_option maxRecDepth 100000 in
theorem c_X2_isEntry (l : Launch) (G : zG) (x : Int) (hr : rg x) : Met l yX2_isEntry (wq yX2_isEntry cX2_isEntry 1 ((Option.some Jvm.ClassFile.FieldType.boolean))) (rmR 0 0) (va_Pc [.int (zI (x))] (zK G (fun _ => True))) (zQ (some (.int (bI (decide (0 ≤ x) && decide (x < 16)))))) 0 0 zF := by
  refine z_enterB (by decide +kernel) (Nat.le_of_ble_eq_true rfl) ?_
  intro p env s m below meth cod Q S hG hP ret ls hl
  have hl : lv_has ls 1 [(0, .int (zI (x)))] := hl
  refine z_iload_n S dX2_isEntry_0 hl 0 rfl rfl ?_
  refine z_if_lt S 14 dX2_isEntry_1 (by decide) (by omega) (fun c_1 => ?_) (fun c_1 => ?_)
  · skip
    refine z_iconst S dX2_isEntry_14 ?_
    exact ret _ _ _ dX2_isEntry_15 (by rw [show (decide (0 ≤ x) && decide (x < 16)) = false from by simp; omega]; rfl)
  · skip
    refine z_iload_n S dX2_isEntry_4 hl 0 rfl rfl ?_
    refine z_bipush S dX2_isEntry_5 rfl ?_
    refine z_icmp_ge S 14 dX2_isEntry_7 (by decide) (by omega) (by omega) (fun c_7 => ?_) (fun c_7 => ?_)
    · skip
      refine z_iconst S dX2_isEntry_14 ?_
      exact ret _ _ _ dX2_isEntry_15 (by rw [show (decide (0 ≤ x) && decide (x < 16)) = false from by simp; omega]; rfl)
    · skip
      refine z_iconst S dX2_isEntry_10 ?_
      refine z_goto S 15 dX2_isEntry_11 (by decide) ?_
      exact ret _ _ _ dX2_isEntry_15 (by rw [show (decide (0 ≤ x) && decide (x < 16)) = true from by simp; omega]; rfl)
theorem dX2_isColour_0 : decode cX2_isColour 0 = .ok (.iload_n 0, 1) := by decide +kernel
theorem dX2_isColour_1 : decode cX2_isColour 1 = .ok (.ifCond .lt 13, 3) := by decide +kernel
theorem dX2_isColour_4 : decode cX2_isColour 4 = .ok (.iload_n 0, 1) := by decide +kernel
theorem dX2_isColour_5 : decode cX2_isColour 5 = .ok (.bipush 64, 2) := by decide +kernel
theorem dX2_isColour_7 : decode cX2_isColour 7 = .ok (.if_icmp .ge 7, 3) := by decide +kernel
theorem dX2_isColour_10 : decode cX2_isColour 10 = .ok (.iconst 1, 1) := by decide +kernel
theorem dX2_isColour_11 : decode cX2_isColour 11 = .ok (.goto 4, 3) := by decide +kernel
theorem dX2_isColour_14 : decode cX2_isColour 14 = .ok (.iconst 0, 1) := by decide +kernel
theorem dX2_isColour_15 : decode cX2_isColour 15 = .ok (.ireturn, 1) := by decide +kernel
theorem q2_165 : (Jvm.Cond.code ({ cls := "Cyclepaint", name := "isColour", desc := "(I)Z" } : Jvm.MethodName) prog_1_method_28_code (1 : Nat) (Option.some Jvm.ClassFile.FieldType.boolean)) ∈ lw_g := zg_of (zin2 (List.mem_of_getElem? (i := 165) rfl)) rfl
theorem q2_164 : (Jvm.Cond.static ({ cls := "Cyclepaint", name := "isColour", desc := "(I)Z" } : Jvm.MethodName)) ∈ lw_g := zg_of (zin2 (List.mem_of_getElem? (i := 164) rfl)) rfl
theorem ok_X2_isColour : zOS yX2_isColour cX2_isColour 1 ((Option.some Jvm.ClassFile.FieldType.boolean)) 1 := ⟨⟨q2_165, q1_1, by decide, by decide, by decide +kernel⟩, q2_164⟩
set_option maxHeartbeats 4000000 in
set_option maxRecDepth 100000 in
theorem c_X2_isColour (l : Launch) (G : zG) (x : Int) (hr : rg x) : Met l yX2_isColour (wq yX2_isColour cX2_isColour 1 ((Option.some Jvm.ClassFile.FieldType.boolean))) (rmR 0 0) (va_Pc [.int (zI (x))] (zK G (fun _ => True))) (zQ (some (.int (bI (decide (0 ≤ x) && decide (x < 64)))))) 0 0 zF := by
  refine z_enterB (by decide +kernel) (Nat.le_of_ble_eq_true rfl) ?_
  intro p env s m below meth cod Q S hG hP ret ls hl
  have hl : lv_has ls 1 [(0, .int (zI (x)))] := hl
  refine z_iload_n S dX2_isColour_0 hl 0 rfl rfl ?_
  refine z_if_lt S 14 dX2_isColour_1 (by decide) (by omega) (fun c_1 => ?_) (fun c_1 => ?_)
  · skip
    refine z_iconst S dX2_isColour_14 ?_
    exact ret _ _ _ dX2_isColour_15 (by rw [show (decide (0 ≤ x) && decide (x < 64)) = false from by simp; omega]; rfl)
  · skip
    refine z_iload_n S dX2_isColour_4 hl 0 rfl rfl ?_
    refine z_bipush S dX2_isColour_5 rfl ?_
    refine z_icmp_ge S 14 dX2_isColour_7 (by decide) (by omega) (by omega) (fun c_7 => ?_) (fun c_7 => ?_)
    · skip
      refine z_iconst S dX2_isColour_14 ?_
      exact ret _ _ _ dX2_isColour_15 (by rw [show (decide (0 ≤ x) && decide (x < 64)) = false from by simp; omega]; rfl)
    · skip
      refine z_iconst S dX2_isColour_10 ?_
      refine z_goto S 15 dX2_isColour_11 (by decide) ?_
      exact ret _ _ _ dX2_isColour_15 (by rw [show (decide (0 ≤ x) && decide (x < 64)) = true from by simp; omega]; rfl)
theorem dX2_isSpeed_0 : decode cX2_isSpeed 0 = .ok (.iload_n 0, 1) := by decide +kernel
theorem dX2_isSpeed_1 : decode cX2_isSpeed 1 = .ok (.iconst 1, 1) := by decide +kernel
theorem dX2_isSpeed_2 : decode cX2_isSpeed 2 = .ok (.if_icmp .lt 13, 3) := by decide +kernel
theorem dX2_isSpeed_5 : decode cX2_isSpeed 5 = .ok (.iload_n 0, 1) := by decide +kernel
theorem dX2_isSpeed_6 : decode cX2_isSpeed 6 = .ok (.bipush 9, 2) := by decide +kernel
theorem dX2_isSpeed_8 : decode cX2_isSpeed 8 = .ok (.if_icmp .gt 7, 3) := by decide +kernel
theorem dX2_isSpeed_11 : decode cX2_isSpeed 11 = .ok (.iconst 1, 1) := by decide +kernel
theorem dX2_isSpeed_12 : decode cX2_isSpeed 12 = .ok (.goto 4, 3) := by decide +kernel
theorem dX2_isSpeed_15 : decode cX2_isSpeed 15 = .ok (.iconst 0, 1) := by decide +kernel
theorem dX2_isSpeed_16 : decode cX2_isSpeed 16 = .ok (.ireturn, 1) := by decide +kernel
theorem q2_208 : (Jvm.Cond.code ({ cls := "Cyclepaint", name := "isSpeed", desc := "(I)Z" } : Jvm.MethodName) prog_1_method_30_code (1 : Nat) (Option.some Jvm.ClassFile.FieldType.boolean)) ∈ lw_g := zg_of (zin2 (List.mem_of_getElem? (i := 208) rfl)) rfl
theorem q2_207 : (Jvm.Cond.static ({ cls := "Cyclepaint", name := "isSpeed", desc := "(I)Z" } : Jvm.MethodName)) ∈ lw_g := zg_of (zin2 (List.mem_of_getElem? (i := 207) rfl)) rfl
theorem ok_X2_isSpeed : zOS yX2_isSpeed cX2_isSpeed 1 ((Option.some Jvm.ClassFile.FieldType.boolean)) 1 := ⟨⟨q2_208, q1_1, by decide, by decide, by decide +kernel⟩, q2_207⟩
set_option maxHeartbeats 4000000 in
set_option maxRecDepth 100000 in
theorem c_X2_isSpeed (l : Launch) (G : zG) (x : Int) (hr : rg x) : Met l yX2_isSpeed (wq yX2_isSpeed cX2_isSpeed 1 ((Option.some Jvm.ClassFile.FieldType.boolean))) (rmR 0 0) (va_Pc [.int (zI (x))] (zK G (fun _ => True))) (zQ (some (.int (bI (decide (1 ≤ x) && decide (x ≤ 9)))))) 0 0 zF := by
  refine z_enterB (by decide +kernel) (Nat.le_of_ble_eq_true rfl) ?_
  intro p env s m below meth cod Q S hG hP ret ls hl
  have hl : lv_has ls 1 [(0, .int (zI (x)))] := hl
  refine z_iload_n S dX2_isSpeed_0 hl 0 rfl rfl ?_
  refine z_iconst S dX2_isSpeed_1 ?_
  refine z_icmp_lt S 15 dX2_isSpeed_2 (by decide) (by omega) (by omega) (fun c_2 => ?_) (fun c_2 => ?_)
  · skip
    refine z_iconst S dX2_isSpeed_15 ?_
    exact ret _ _ _ dX2_isSpeed_16 (by rw [show (decide (1 ≤ x) && decide (x ≤ 9)) = false from by simp; omega]; rfl)
  · skip
    refine z_iload_n S dX2_isSpeed_5 hl 0 rfl rfl ?_
    refine z_bipush S dX2_isSpeed_6 rfl ?_
    refine z_icmp_gt S 15 dX2_isSpeed_8 (by decide) (by omega) (by omega) (fun c_8 => ?_) (fun c_8 => ?_)
    · skip
      refine z_iconst S dX2_isSpeed_15 ?_
      exact ret _ _ _ dX2_isSpeed_16 (by rw [show (decide (1 ≤ x) && decide (x ≤ 9)) = false from by simp; omega]; rfl)
    · skip
      refine z_iconst S dX2_isSpeed_11 ?_
      refine z_goto S 16 dX2_isSpeed_12 (by decide) ?_
      exact ret _ _ _ dX2_isSpeed_16 (by rw [show (decide (1 ≤ x) && decide (x ≤ 9)) = true from by simp; omega]; rfl)
theorem dX2_isKind_0 : decode cX2_isKind 0 = .ok (.iload_n 0, 1) := by decide +kernel
theorem dX2_isKind_1 : decode cX2_isKind 1 = .ok (.ifCond .lt 12, 3) := by decide +kernel
theorem dX2_isKind_4 : decode cX2_isKind 4 = .ok (.iload_n 0, 1) := by decide +kernel
theorem dX2_isKind_5 : decode cX2_isKind 5 = .ok (.iconst 2, 1) := by decide +kernel
theorem dX2_isKind_6 : decode cX2_isKind 6 = .ok (.if_icmp .gt 7, 3) := by decide +kernel
theorem dX2_isKind_9 : decode cX2_isKind 9 = .ok (.iconst 1, 1) := by decide +kernel
theorem dX2_isKind_10 : decode cX2_isKind 10 = .ok (.goto 4, 3) := by decide +kernel
theorem dX2_isKind_13 : decode cX2_isKind 13 = .ok (.iconst 0, 1) := by decide +kernel
theorem dX2_isKind_14 : decode cX2_isKind 14 = .ok (.ireturn, 1) := by decide +kernel
theorem q2_211 : (Jvm.Cond.code ({ cls := "Cyclepaint", name := "isKind", desc := "(I)Z" } : Jvm.MethodName) prog_1_method_31_code (1 : Nat) (Option.some Jvm.ClassFile.FieldType.boolean)) ∈ lw_g := zg_of (zin2 (List.mem_of_getElem? (i := 211) rfl)) rfl
theorem q2_210 : (Jvm.Cond.static ({ cls := "Cyclepaint", name := "isKind", desc := "(I)Z" } : Jvm.MethodName)) ∈ lw_g := zg_of (zin2 (List.mem_of_getElem? (i := 210) rfl)) rfl
theorem ok_X2_isKind : zOS yX2_isKind cX2_isKind 1 ((Option.some Jvm.ClassFile.FieldType.boolean)) 1 := ⟨⟨q2_211, q1_1, by decide, by decide, by decide +kernel⟩, q2_210⟩
set_option maxHeartbeats 4000000 in
set_option maxRecDepth 100000 in
theorem c_X2_isKind (l : Launch) (G : zG) (x : Int) (hr : rg x) : Met l yX2_isKind (wq yX2_isKind cX2_isKind 1 ((Option.some Jvm.ClassFile.FieldType.boolean))) (rmR 0 0) (va_Pc [.int (zI (x))] (zK G (fun _ => True))) (zQ (some (.int (bI (decide (0 ≤ x) && decide (x ≤ 2)))))) 0 0 zF := by
  refine z_enterB (by decide +kernel) (Nat.le_of_ble_eq_true rfl) ?_
  intro p env s m below meth cod Q S hG hP ret ls hl
  have hl : lv_has ls 1 [(0, .int (zI (x)))] := hl
  refine z_iload_n S dX2_isKind_0 hl 0 rfl rfl ?_
  refine z_if_lt S 13 dX2_isKind_1 (by decide) (by omega) (fun c_1 => ?_) (fun c_1 => ?_)
  · skip
    refine z_iconst S dX2_isKind_13 ?_
    exact ret _ _ _ dX2_isKind_14 (by rw [show (decide (0 ≤ x) && decide (x ≤ 2)) = false from by simp; omega]; rfl)
  · skip
    refine z_iload_n S dX2_isKind_4 hl 0 rfl rfl ?_
    refine z_iconst S dX2_isKind_5 ?_
    refine z_icmp_gt S 13 dX2_isKind_6 (by decide) (by omega) (by omega) (fun c_6 => ?_) (fun c_6 => ?_)
    · skip
      refine z_iconst S dX2_isKind_13 ?_
      exact ret _ _ _ dX2_isKind_14 (by rw [show (decide (0 ≤ x) && decide (x ≤ 2)) = false from by simp; omega]; rfl)
    · skip
      refine z_iconst S dX2_isKind_9 ?_
      refine z_goto S 14 dX2_isKind_10 (by decide) ?_
      exact ret _ _ _ dX2_isKind_14 (by rw [show (decide (0 ≤ x) && decide (x ≤ 2)) = true from by simp; omega]; rfl)
theorem dX2_isTick_0 : decode cX2_isTick 0 = .ok (.iload_n 0, 1) := by decide +kernel
theorem dX2_isTick_1 : decode cX2_isTick 1 = .ok (.ifCond .lt 13, 3) := by decide +kernel
theorem dX2_isTick_4 : decode cX2_isTick 4 = .ok (.iload_n 0, 1) := by decide +kernel
theorem dX2_isTick_5 : decode cX2_isTick 5 = .ok (.ldc 132, 2) := by decide +kernel
theorem dX2_isTick_7 : decode cX2_isTick 7 = .ok (.if_icmp .gt 7, 3) := by decide +kernel
theorem dX2_isTick_10 : decode cX2_isTick 10 = .ok (.iconst 1, 1) := by decide +kernel
theorem dX2_isTick_11 : decode cX2_isTick 11 = .ok (.goto 4, 3) := by decide +kernel
theorem dX2_isTick_14 : decode cX2_isTick 14 = .ok (.iconst 0, 1) := by decide +kernel
theorem dX2_isTick_15 : decode cX2_isTick 15 = .ok (.ireturn, 1) := by decide +kernel
theorem q3_60 : (Jvm.Cond.constant "Cyclepaint" (132 : Nat) (99999 : Int32)) ∈ lw_g := zg_of (zin3 (List.mem_of_getElem? (i := 60) rfl)) rfl
theorem q3_71 : (Jvm.Cond.code ({ cls := "Cyclepaint", name := "isTick", desc := "(I)Z" } : Jvm.MethodName) prog_1_method_32_code (1 : Nat) (Option.some Jvm.ClassFile.FieldType.boolean)) ∈ lw_g := zg_of (zin3 (List.mem_of_getElem? (i := 71) rfl)) rfl
theorem q3_70 : (Jvm.Cond.static ({ cls := "Cyclepaint", name := "isTick", desc := "(I)Z" } : Jvm.MethodName)) ∈ lw_g := zg_of (zin3 (List.mem_of_getElem? (i := 70) rfl)) rfl
theorem ok_X2_isTick : zOS yX2_isTick cX2_isTick 1 ((Option.some Jvm.ClassFile.FieldType.boolean)) 1 := ⟨⟨q3_71, q1_1, by decide, by decide, by decide +kernel⟩, q3_70⟩
set_option maxHeartbeats 4000000 in
set_option maxRecDepth 100000 in
theorem c_X2_isTick (l : Launch) (G : zG) (x : Int) (hr : rg x) : Met l yX2_isTick (wq yX2_isTick cX2_isTick 1 ((Option.some Jvm.ClassFile.FieldType.boolean))) (rmR 0 0) (va_Pc [.int (zI (x))] (zK G (fun _ => True))) (zQ (some (.int (bI (decide (0 ≤ x) && decide (x ≤ 99999)))))) 0 0 zF := by
  refine z_enterB (by decide +kernel) (Nat.le_of_ble_eq_true rfl) ?_
  intro p env s m below meth cod Q S hG hP ret ls hl
  have hl : lv_has ls 1 [(0, .int (zI (x)))] := hl
  refine z_iload_n S dX2_isTick_0 hl 0 rfl rfl ?_
  refine z_if_lt S 14 dX2_isTick_1 (by decide) (by omega) (fun c_1 => ?_) (fun c_1 => ?_)
  · skip
    refine z_iconst S dX2_isTick_14 ?_
    exact ret _ _ _ dX2_isTick_15 (by rw [show (decide (0 ≤ x) && decide (x ≤ 99999)) = false from by simp; omega]; rfl)
  · skip
    refine z_iload_n S dX2_isTick_4 hl 0 rfl rfl ?_
    refine z_ldc S (99999) q3_60 rfl dX2_isTick_5 ?_
    refine z_icmp_gt S 14 dX2_isTick_7 (by decide) (by omega) (by omega) (fun c_7 => ?_) (fun c_7 => ?_)
    · skip
      refine z_iconst S dX2_isTick_14 ?_
      exact ret _ _ _ dX2_isTick_15 (by rw [show (decide (0 ≤ x) && decide (x ≤ 99999)) = false from by simp; omega]; rfl)
    · skip
      refine z_iconst S dX2_isTick_10 ?_
      refine z_goto S 15 dX2_isTick_11 (by decide) ?_
      exact ret _ _ _ dX2_isTick_15 (by rw [show (decide (0 ≤ x) && decide (x ≤ 99999)) = true from by simp; omega]; rfl)
theorem dX2_isTickCount_0 : decode cX2_isTickCount 0 = .ok (.iload_n 0, 1) := by decide +kernel
theorem dX2_isTickCount_1 : decode cX2_isTickCount 1 = .ok (.iconst 1, 1) := by decide +kernel
theorem dX2_isTickCount_2 : decode cX2_isTickCount 2 = .ok (.if_icmp .lt 14, 3) := by decide +kernel
theorem dX2_isTickCount_5 : decode cX2_isTickCount 5 = .ok (.iload_n 0, 1) := by decide +kernel
theorem dX2_isTickCount_6 : decode cX2_isTickCount 6 = .ok (.sipush 200, 3) := by decide +kernel
theorem dX2_isTickCount_9 : decode cX2_isTickCount 9 = .ok (.if_icmp .gt 7, 3) := by decide +kernel
theorem dX2_isTickCount_12 : decode cX2_isTickCount 12 = .ok (.iconst 1, 1) := by decide +kernel
theorem dX2_isTickCount_13 : decode cX2_isTickCount 13 = .ok (.goto 4, 3) := by decide +kernel
theorem dX2_isTickCount_16 : decode cX2_isTickCount 16 = .ok (.iconst 0, 1) := by decide +kernel
theorem dX2_isTickCount_17 : decode cX2_isTickCount 17 = .ok (.ireturn, 1) := by decide +kernel
theorem q3_58 : (Jvm.Cond.code ({ cls := "Cyclepaint", name := "isTickCount", desc := "(I)Z" } : Jvm.MethodName) prog_1_method_33_code (1 : Nat) (Option.some Jvm.ClassFile.FieldType.boolean)) ∈ lw_g := zg_of (zin3 (List.mem_of_getElem? (i := 58) rfl)) rfl
theorem q3_57 : (Jvm.Cond.static ({ cls := "Cyclepaint", name := "isTickCount", desc := "(I)Z" } : Jvm.MethodName)) ∈ lw_g := zg_of (zin3 (List.mem_of_getElem? (i := 57) rfl)) rfl
theorem ok_X2_isTickCount : zOS yX2_isTickCount cX2_isTickCount 1 ((Option.some Jvm.ClassFile.FieldType.boolean)) 1 := ⟨⟨q3_58, q1_1, by decide, by decide, by decide +kernel⟩, q3_57⟩
set_option maxHeartbeats 4000000 in
set_option maxRecDepth 100000 in
theorem c_X2_isTickCount (l : Launch) (G : zG) (x : Int) (hr : rg x) : Met l yX2_isTickCount (wq yX2_isTickCount cX2_isTickCount 1 ((Option.some Jvm.ClassFile.FieldType.boolean))) (rmR 0 0) (va_Pc [.int (zI (x))] (zK G (fun _ => True))) (zQ (some (.int (bI (decide (1 ≤ x) && decide (x ≤ 200)))))) 0 0 zF := by
  refine z_enterB (by decide +kernel) (Nat.le_of_ble_eq_true rfl) ?_
  intro p env s m below meth cod Q S hG hP ret ls hl
  have hl : lv_has ls 1 [(0, .int (zI (x)))] := hl
  refine z_iload_n S dX2_isTickCount_0 hl 0 rfl rfl ?_
  refine z_iconst S dX2_isTickCount_1 ?_
  refine z_icmp_lt S 16 dX2_isTickCount_2 (by decide) (by omega) (by omega) (fun c_2 => ?_) (fun c_2 => ?_)
  · skip
    refine z_iconst S dX2_isTickCount_16 ?_
    exact ret _ _ _ dX2_isTickCount_17 (by rw [show (decide (1 ≤ x) && decide (x ≤ 200)) = false from by simp; omega]; rfl)
  · skip
    refine z_iload_n S dX2_isTickCount_5 hl 0 rfl rfl ?_
    refine z_sipush S dX2_isTickCount_6 rfl ?_
    refine z_icmp_gt S 16 dX2_isTickCount_9 (by decide) (by omega) (by omega) (fun c_9 => ?_) (fun c_9 => ?_)
    · skip
      refine z_iconst S dX2_isTickCount_16 ?_
      exact ret _ _ _ dX2_isTickCount_17 (by rw [show (decide (1 ≤ x) && decide (x ≤ 200)) = false from by simp; omega]; rfl)
    · skip
      refine z_iconst S dX2_isTickCount_12 ?_
      refine z_goto S 17 dX2_isTickCount_13 (by decide) ?_
      exact ret _ _ _ dX2_isTickCount_17 (by rw [show (decide (1 ≤ x) && decide (x ≤ 200)) = true from by simp; omega]; rfl)
theorem dX2_isDot_0 : decode cX2_isDot 0 = .ok (.iload_n 0, 1) := by decide +kernel
theorem dX2_isDot_1 : decode cX2_isDot 1 = .ok (.ifCond .lt 22, 3) := by decide +kernel
theorem dX2_isDot_4 : decode cX2_isDot 4 = .ok (.iload_n 0, 1) := by decide +kernel
theorem dX2_isDot_5 : decode cX2_isDot 5 = .ok (.iconst 4, 1) := by decide +kernel
theorem dX2_isDot_6 : decode cX2_isDot 6 = .ok (.if_icmp .ge 17, 3) := by decide +kernel
theorem dX2_isDot_9 : decode cX2_isDot 9 = .ok (.iload_n 1, 1) := by decide +kernel
theorem dX2_isDot_10 : decode cX2_isDot 10 = .ok (.ifCond .lt 13, 3) := by decide +kernel
theorem dX2_isDot_13 : decode cX2_isDot 13 = .ok (.iload_n 1, 1) := by decide +kernel
theorem dX2_isDot_14 : decode cX2_isDot 14 = .ok (.bipush 8, 2) := by decide +kernel
theorem dX2_isDot_16 : decode cX2_isDot 16 = .ok (.if_icmp .ge 7, 3) := by decide +kernel
theorem dX2_isDot_19 : decode cX2_isDot 19 = .ok (.iconst 1, 1) := by decide +kernel
theorem dX2_isDot_20 : decode cX2_isDot 20 = .ok (.goto 4, 3) := by decide +kernel
theorem dX2_isDot_23 : decode cX2_isDot 23 = .ok (.iconst 0, 1) := by decide +kernel
theorem dX2_isDot_24 : decode cX2_isDot 24 = .ok (.ireturn, 1) := by decide +kernel
theorem q2_195 : (Jvm.Cond.code ({ cls := "Cyclepaint", name := "isDot", desc := "(II)Z" } : Jvm.MethodName) prog_1_method_29_code (2 : Nat) (Option.some Jvm.ClassFile.FieldType.boolean)) ∈ lw_g := zg_of (zin2 (List.mem_of_getElem? (i := 195) rfl)) rfl
theorem q2_194 : (Jvm.Cond.static ({ cls := "Cyclepaint", name := "isDot", desc := "(II)Z" } : Jvm.MethodName)) ∈ lw_g := zg_of (zin2 (List.mem_of_getElem? (i := 194) rfl)) rfl
theorem ok_X2_isDot : zOS yX2_isDot cX2_isDot 2 ((Option.some Jvm.ClassFile.FieldType.boolean)) 2 := ⟨⟨q2_195, q1_1, by decide, by decide, by decide +kernel⟩, q2_194⟩
set_option maxHeartbeats 4000000 in
set_option maxRecDepth 100000 in
theorem c_X2_isDot (l : Launch) (G : zG) (x y : Int) (hr : rg x ∧ rg y) : Met l yX2_isDot (wq yX2_isDot cX2_isDot 2 ((Option.some Jvm.ClassFile.FieldType.boolean))) (rmR 0 0) (va_Pc [.int (zI (x)), .int (zI (y))] (zK G (fun _ => True))) (zQ (some (.int (bI (decide (0 ≤ x) && decide (x < 4) && (decide (0 ≤ y) && decide (y < 8))))))) 0 0 zF := by
  refine z_enterB (by decide +kernel) (Nat.le_of_ble_eq_true rfl) ?_
  intro p env s m below meth cod Q S hG hP ret ls hl
  have hl : lv_has ls 2 [(0, .int (zI (x))), (1, .int (zI (y)))] := hl
  refine z_iload_n S dX2_isDot_0 hl 0 rfl rfl ?_
  refine z_if_lt S 23 dX2_isDot_1 (by decide) (by omega) (fun c_1 => ?_) (fun c_1 => ?_)
  · skip
    refine z_iconst S dX2_isDot_23 ?_
    exact ret _ _ _ dX2_isDot_24 (by rw [show (decide (0 ≤ x) && decide (x < 4) && (decide (0 ≤ y) && decide (y < 8))) = false from by simp; omega]; rfl)
  · skip
    refine z_iload_n S dX2_isDot_4 hl 0 rfl rfl ?_
    refine z_iconst S dX2_isDot_5 ?_
    refine z_icmp_ge S 23 dX2_isDot_6 (by decide) (by omega) (by omega) (fun c_6 => ?_) (fun c_6 => ?_)
    · skip
      refine z_iconst S dX2_isDot_23 ?_
      exact ret _ _ _ dX2_isDot_24 (by rw [show (decide (0 ≤ x) && decide (x < 4) && (decide (0 ≤ y) && decide (y < 8))) = false from by simp; omega]; rfl)
    · skip
      refine z_iload_n S dX2_isDot_9 hl 1 rfl rfl ?_
      refine z_if_lt S 23 dX2_isDot_10 (by decide) (by omega) (fun c_10 => ?_) (fun c_10 => ?_)
      · skip
        refine z_iconst S dX2_isDot_23 ?_
        exact ret _ _ _ dX2_isDot_24 (by rw [show (decide (0 ≤ x) && decide (x < 4) && (decide (0 ≤ y) && decide (y < 8))) = false from by simp; omega]; rfl)
      · skip
        refine z_iload_n S dX2_isDot_13 hl 1 rfl rfl ?_
        refine z_bipush S dX2_isDot_14 rfl ?_
        refine z_icmp_ge S 23 dX2_isDot_16 (by decide) (by omega) (by omega) (fun c_16 => ?_) (fun c_16 => ?_)
        · skip
          refine z_iconst S dX2_isDot_23 ?_
          exact ret _ _ _ dX2_isDot_24 (by rw [show (decide (0 ≤ x) && decide (x < 4) && (decide (0 ≤ y) && decide (y < 8))) = false from by simp; omega]; rfl)
        · skip
          refine z_iconst S dX2_isDot_19 ?_
          refine z_goto S 24 dX2_isDot_20 (by decide) ?_
          exact ret _ _ _ dX2_isDot_24 (by rw [show (decide (0 ≤ x) && decide (x < 4) && (decide (0 ≤ y) && decide (y < 8))) = true from by simp; omega]; rfl)
theorem dX2_isFact_0 : decode cX2_isFact 0 = .ok (.iload_n 0, 1) := by decide +kernel
theorem dX2_isFact_1 : decode cX2_isFact 1 = .ok (.ifCond .lt 12, 3) := by decide +kernel
theorem dX2_isFact_4 : decode cX2_isFact 4 = .ok (.iload_n 0, 1) := by decide +kernel
theorem dX2_isFact_5 : decode cX2_isFact 5 = .ok (.iload_n 1, 1) := by decide +kernel
theorem dX2_isFact_6 : decode cX2_isFact 6 = .ok (.if_icmp .ge 7, 3) := by decide +kernel
theorem dX2_isFact_9 : decode cX2_isFact 9 = .ok (.iconst 1, 1) := by decide +kernel
theorem dX2_isFact_10 : decode cX2_isFact 10 = .ok (.goto 4, 3) := by decide +kernel
theorem dX2_isFact_13 : decode cX2_isFact 13 = .ok (.iconst 0, 1) := by decide +kernel
theorem dX2_isFact_14 : decode cX2_isFact 14 = .ok (.ireturn, 1) := by decide +kernel
theorem q3_98 : (Jvm.Cond.code ({ cls := "Cyclepaint", name := "isFact", desc := "(II)Z" } : Jvm.MethodName) prog_1_method_34_code (2 : Nat) (Option.some Jvm.ClassFile.FieldType.boolean)) ∈ lw_g := zg_of (zin3 (List.mem_of_getElem? (i := 98) rfl)) rfl
theorem q3_97 : (Jvm.Cond.static ({ cls := "Cyclepaint", name := "isFact", desc := "(II)Z" } : Jvm.MethodName)) ∈ lw_g := zg_of (zin3 (List.mem_of_getElem? (i := 97) rfl)) rfl
theorem ok_X2_isFact : zOS yX2_isFact cX2_isFact 2 ((Option.some Jvm.ClassFile.FieldType.boolean)) 2 := ⟨⟨q3_98, q1_1, by decide, by decide, by decide +kernel⟩, q3_97⟩
set_option maxHeartbeats 4000000 in
set_option maxRecDepth 100000 in
theorem c_X2_isFact (l : Launch) (G : zG) (x y : Int) (hr : rg x ∧ rg y) : Met l yX2_isFact (wq yX2_isFact cX2_isFact 2 ((Option.some Jvm.ClassFile.FieldType.boolean))) (rmR 0 0) (va_Pc [.int (zI (x)), .int (zI (y))] (zK G (fun _ => True))) (zQ (some (.int (bI (decide (0 ≤ x) && decide (x < y)))))) 0 0 zF := by
  refine z_enterB (by decide +kernel) (Nat.le_of_ble_eq_true rfl) ?_
  intro p env s m below meth cod Q S hG hP ret ls hl
  have hl : lv_has ls 2 [(0, .int (zI (x))), (1, .int (zI (y)))] := hl
  refine z_iload_n S dX2_isFact_0 hl 0 rfl rfl ?_
  refine z_if_lt S 13 dX2_isFact_1 (by decide) (by omega) (fun c_1 => ?_) (fun c_1 => ?_)
  · skip
    refine z_iconst S dX2_isFact_13 ?_
    exact ret _ _ _ dX2_isFact_14 (by rw [show (decide (0 ≤ x) && decide (x < y)) = false from by simp; omega]; rfl)
  · skip
    refine z_iload_n S dX2_isFact_4 hl 0 rfl rfl ?_
    refine z_iload_n S dX2_isFact_5 hl 1 rfl rfl ?_
    refine z_icmp_ge S 13 dX2_isFact_6 (by decide) (by omega) (by omega) (fun c_6 => ?_) (fun c_6 => ?_)
    · skip
      refine z_iconst S dX2_isFact_13 ?_
      exact ret _ _ _ dX2_isFact_14 (by rw [show (decide (0 ≤ x) && decide (x < y)) = false from by simp; omega]; rfl)
    · skip
      refine z_iconst S dX2_isFact_9 ?_
      refine z_goto S 14 dX2_isFact_10 (by decide) ?_
      exact ret _ _ _ dX2_isFact_14 (by rw [show (decide (0 ≤ x) && decide (x < y)) = true from by simp; omega]; rfl)
theorem dX2_lightOf_0 : decode cX2_lightOf 0 = .ok (.iconst 2, 1) := by decide +kernel
theorem dX2_lightOf_1 : decode cX2_lightOf 1 = .ok (.iload_n 0, 1) := by decide +kernel
theorem dX2_lightOf_2 : decode cX2_lightOf 2 = .ok (.bipush 16, 2) := by decide +kernel
theorem dX2_lightOf_4 : decode cX2_lightOf 4 = .ok (.idiv, 1) := by decide +kernel
theorem dX2_lightOf_5 : decode cX2_lightOf 5 = .ok (.imul, 1) := by decide +kernel
theorem dX2_lightOf_6 : decode cX2_lightOf 6 = .ok (.iconst 3, 1) := by decide +kernel
theorem dX2_lightOf_7 : decode cX2_lightOf 7 = .ok (.iload_n 0, 1) := by decide +kernel
theorem dX2_lightOf_8 : decode cX2_lightOf 8 = .ok (.iconst 4, 1) := by decide +kernel
theorem dX2_lightOf_9 : decode cX2_lightOf 9 = .ok (.idiv, 1) := by decide +kernel
theorem dX2_lightOf_10 : decode cX2_lightOf 10 = .ok (.iconst 4, 1) := by decide +kernel
theorem dX2_lightOf_11 : decode cX2_lightOf 11 = .ok (.irem, 1) := by decide +kernel
theorem dX2_lightOf_12 : decode cX2_lightOf 12 = .ok (.imul, 1) := by decide +kernel
theorem dX2_lightOf_13 : decode cX2_lightOf 13 = .ok (.iadd, 1) := by decide +kernel
theorem dX2_lightOf_14 : decode cX2_lightOf 14 = .ok (.iload_n 0, 1) := by decide +kernel
theorem dX2_lightOf_15 : decode cX2_lightOf 15 = .ok (.iconst 4, 1) := by decide +kernel
theorem dX2_lightOf_16 : decode cX2_lightOf 16 = .ok (.irem, 1) := by decide +kernel
theorem dX2_lightOf_17 : decode cX2_lightOf 17 = .ok (.iadd, 1) := by decide +kernel
theorem dX2_lightOf_18 : decode cX2_lightOf 18 = .ok (.ireturn, 1) := by decide +kernel
theorem q1_169 : (Jvm.Cond.code ({ cls := "Cyclepaint", name := "lightOf", desc := "(I)I" } : Jvm.MethodName) prog_1_method_36_code (1 : Nat) (Option.some Jvm.ClassFile.FieldType.int)) ∈ lw_g := zg_of (zin1 (List.mem_of_getElem? (i := 169) rfl)) rfl
theorem q1_168 : (Jvm.Cond.static ({ cls := "Cyclepaint", name := "lightOf", desc := "(I)I" } : Jvm.MethodName)) ∈ lw_g := zg_of (zin1 (List.mem_of_getElem? (i := 168) rfl)) rfl
theorem ok_X2_lightOf : zOS yX2_lightOf cX2_lightOf 1 ((Option.some Jvm.ClassFile.FieldType.int)) 1 := ⟨⟨q1_169, q1_1, by decide, by decide, by decide +kernel⟩, q1_168⟩
set_option maxHeartbeats 4000000 in
set_option maxRecDepth 100000 in
theorem c_X2_lightOf (l : Launch) (G : zG) (C : Int32) : Met l yX2_lightOf (wq yX2_lightOf cX2_lightOf 1 ((Option.some Jvm.ClassFile.FieldType.int))) (rmR 0 0) (va_Pc [.int (C)] (zK G (fun _ => True))) (zQ (some (.int ((lgt C))))) 0 0 zF := by
  refine z_enterI (by decide +kernel) (Nat.le_of_ble_eq_true rfl) ?_
  intro p env s m below meth cod Q S hG hP ret ls hl
  have hl : lv_has ls 1 [(0, .int (C))] := hl
  refine z_iconst S dX2_lightOf_0 ?_
  refine z_iload_n S dX2_lightOf_1 hl 0 rfl rfl ?_
  refine z_bipush S dX2_lightOf_2 rfl ?_
  refine lv_idiv S.1 S.2.1 dX2_lightOf_4 (by decide) ?_
  refine lv_imul S.1 S.2.1 dX2_lightOf_5 ?_
  refine z_iconst S dX2_lightOf_6 ?_
  refine z_iload_n S dX2_lightOf_7 hl 0 rfl rfl ?_
  refine z_iconst S dX2_lightOf_8 ?_
  refine lv_idiv S.1 S.2.1 dX2_lightOf_9 (by decide) ?_
  refine z_iconst S dX2_lightOf_10 ?_
  refine lv_irem S.1 S.2.1 dX2_lightOf_11 (by decide) ?_
  refine lv_imul S.1 S.2.1 dX2_lightOf_12 ?_
  refine lv_iadd S.1 S.2.1 dX2_lightOf_13 ?_
  refine z_iload_n S dX2_lightOf_14 hl 0 rfl rfl ?_
  refine z_iconst S dX2_lightOf_15 ?_
  refine lv_irem S.1 S.2.1 dX2_lightOf_16 (by decide) ?_
  refine lv_iadd S.1 S.2.1 dX2_lightOf_17 ?_
  exact ret _ _ _ dX2_lightOf_18 (rfl)
theorem dX2_mixed_0 : decode cX2_mixed 0 = .ok (.lload_n 0, 1) := by decide +kernel
theorem dX2_mixed_1 : decode cX2_mixed 1 = .ok (.ldc2_w 254, 3) := by decide +kernel
theorem dX2_mixed_4 : decode cX2_mixed 4 = .ok (.lmul, 1) := by decide +kernel
theorem dX2_mixed_5 : decode cX2_mixed 5 = .ok (.lload_n 2, 1) := by decide +kernel
theorem dX2_mixed_6 : decode cX2_mixed 6 = .ok (.ladd, 1) := by decide +kernel
theorem dX2_mixed_7 : decode cX2_mixed 7 = .ok (.lreturn, 1) := by decide +kernel
theorem q2_23 : (Jvm.Cond.constantLong "Cyclepaint" (254 : Nat) (31 : Int64)) ∈ lw_g := zg_of (zin2 (List.mem_of_getElem? (i := 23) rfl)) rfl
theorem q2_22 : (Jvm.Cond.code ({ cls := "Cyclepaint", name := "mixed", desc := "(JJ)J" } : Jvm.MethodName) prog_1_method_35_code (4 : Nat) (Option.some Jvm.ClassFile.FieldType.long)) ∈ lw_g := zg_of (zin2 (List.mem_of_getElem? (i := 22) rfl)) rfl
theorem q2_21 : (Jvm.Cond.static ({ cls := "Cyclepaint", name := "mixed", desc := "(JJ)J" } : Jvm.MethodName)) ∈ lw_g := zg_of (zin2 (List.mem_of_getElem? (i := 21) rfl)) rfl
theorem ok_X2_mixed : zOS yX2_mixed cX2_mixed 4 ((Option.some Jvm.ClassFile.FieldType.long)) 2 := ⟨⟨q2_22, q1_1, by decide, by decide, by decide +kernel⟩, q2_21⟩
set_option maxHeartbeats 4000000 in
set_option maxRecDepth 100000 in
theorem c_X2_mixed (l : Launch) (G : zG) (x y : Int64) : Met l yX2_mixed (wq yX2_mixed cX2_mixed 4 ((Option.some Jvm.ClassFile.FieldType.long))) (rmR 0 0) (va_Pc [.long (x), .long (y)] (zK G (fun _ => True))) (zQ (some (.long (x * 31 + y)))) 0 0 zF := by
  refine z_enterL (by decide +kernel) (Nat.le_of_ble_eq_true rfl) ?_
  intro p env s m below meth cod Q S hG hP ret ls hl
  have hl : lv_has ls 4 [(0, .long (x)), (2, .long (y))] := hl
  refine lv_lload_n S.1 S.2.1 dX2_mixed_0 rfl (lv_at hl 0 rfl) ?_
  refine lv_ldc2 S.1 S.2.1 S.2.2.2.1 (S.2.2.2.2 _ q2_23) dX2_mixed_1 ?_
  refine lv_lmul S.1 S.2.1 dX2_mixed_4 ?_
  refine lv_lload_n S.1 S.2.1 dX2_mixed_5 rfl (lv_at hl 1 rfl) ?_
  refine lv_ladd S.1 S.2.1 dX2_mixed_6 ?_
  exact ret _ _ _ dX2_mixed_7 (rfl)
theorem dX2_entryOf_0 : decode cX2_entryOf 0 = .ok (.iload_n 1, 1) := by decide +kernel
theorem dX2_entryOf_1 : decode cX2_entryOf 1 = .ok (.ifCond .lt 21, 3) := by decide +kernel
theorem dX2_entryOf_4 : decode cX2_entryOf 4 = .ok (.iload_n 1, 1) := by decide +kernel
theorem dX2_entryOf_5 : decode cX2_entryOf 5 = .ok (.aload_n 0, 1) := by decide +kernel
theorem dX2_entryOf_6 : decode cX2_entryOf 6 = .ok (.getfield 16, 3) := by decide +kernel
theorem dX2_entryOf_9 : decode cX2_entryOf 9 = .ok (.arraylength, 1) := by decide +kernel
theorem dX2_entryOf_10 : decode cX2_entryOf 10 = .ok (.if_icmp .ge 12, 3) := by decide +kernel
theorem dX2_entryOf_13 : decode cX2_entryOf 13 = .ok (.aload_n 0, 1) := by decide +kernel
theorem dX2_entryOf_14 : decode cX2_entryOf 14 = .ok (.getfield 16, 3) := by decide +kernel
theorem dX2_entryOf_17 : decode cX2_entryOf 17 = .ok (.iload_n 1, 1) := by decide +kernel
theorem dX2_entryOf_18 : decode cX2_entryOf 18 = .ok (.iaload, 1) := by decide +kernel
theorem dX2_entryOf_19 : decode cX2_entryOf 19 = .ok (.goto 4, 3) := by decide +kernel
theorem dX2_entryOf_22 : decode cX2_entryOf 22 = .ok (.iconst (-1), 1) := by decide +kernel
theorem dX2_entryOf_23 : decode cX2_entryOf 23 = .ok (.ireturn, 1) := by decide +kernel
theorem q1_61 : (Jvm.Cond.fieldLink "Cyclepaint" (16 : Nat) "Cyclepaint" "dots" "[I") ∈ lw_g := zg_of (zin1 (List.mem_of_getElem? (i := 61) rfl)) rfl
theorem q1_136 : (Jvm.Cond.code ({ cls := "Cyclepaint", name := "entryOf", desc := "(I)I" } : Jvm.MethodName) prog_1_method_38_code (2 : Nat) (Option.some Jvm.ClassFile.FieldType.int)) ∈ lw_g := zg_of (zin1 (List.mem_of_getElem? (i := 136) rfl)) rfl
theorem q1_135 : (Jvm.Cond.instanceMethod ({ cls := "Cyclepaint", name := "entryOf", desc := "(I)I" } : Jvm.MethodName)) ∈ lw_g := zg_of (zin1 (List.mem_of_getElem? (i := 135) rfl)) rfl
theorem qs_2 : Cond.selects "Cyclepaint" (⟨"Cyclepaint", "entryOf", "(I)I"⟩ : MethodName) (⟨"Cyclepaint", "entryOf", "(I)I"⟩ : MethodName) ∈ lw_g := zg_of (zinS (List.mem_of_getElem? (i := 2) rfl)) rfl
theorem ok_X2_entryOf : zOV yX2_entryOf cX2_entryOf 2 ((Option.some Jvm.ClassFile.FieldType.int)) 1 := ⟨⟨q1_136, q1_1, by decide, by decide, by decide +kernel⟩, q1_135, qs_2⟩
set_option maxHeartbeats 4000000 in
set_option maxRecDepth 100000 in
theorem c_X2_entryOf (l : Launch) (G : zG) (σ : St) (a : Nat → Nat) (d : Int) (hd : 0 ≤ d ∧ d < 32) : Met l yX2_entryOf (wq yX2_entryOf cX2_entryOf 2 ((Option.some Jvm.ClassFile.FieldType.int))) (rmR 0 0) (va_Pc [.ref (a 0), .int (zI (d))] (zK G (hCyc G σ a))) (zQ (some (.int ((zI (σ.Dt d)))))) 0 0 zF := by
  refine z_enterI (by decide +kernel) (Nat.le_of_ble_eq_true rfl) ?_
  intro p env s m below meth cod Q S hG hP ret ls hl
  have hl : lv_has ls 2 [(0, .ref (a 0)), (1, .int (zI (d)))] := hl
  refine z_iload_n S dX2_entryOf_0 hl 1 rfl rfl ?_
  refine z_if_lt_F S 22 dX2_entryOf_1 (by decide) (by omega) (by omega) ?_
  refine z_iload_n S dX2_entryOf_4 hl 1 rfl rfl ?_
  refine z_aload_n S dX2_entryOf_5 hl 0 rfl rfl ?_
  refine z_get S hG hP.1 zc_X2 1 (by decide) q1_61 rfl rfl dX2_entryOf_6 ?_
  refine z_alenI S hG hP.2.1 dX2_entryOf_9 ?_
  refine z_icmp_ge_F S 22 dX2_entryOf_10 (by decide) (by omega) (by omega) (by omega) ?_
  refine z_aload_n S dX2_entryOf_13 hl 0 rfl rfl ?_
  refine z_get S hG hP.1 zc_X2 1 (by decide) q1_61 rfl rfl dX2_entryOf_14 ?_
  refine z_iload_n S dX2_entryOf_17 hl 1 rfl rfl ?_
  refine z_ialdB S hG hP.2.1 (by omega) (by decide) dX2_entryOf_18 ?_
  refine z_goto S 23 dX2_entryOf_19 (by decide) ?_
  exact ret _ _ _ dX2_entryOf_23 (rfl)
theorem dX2_usesOf_0 : decode cX2_usesOf 0 = .ok (.iload_n 1, 1) := by decide +kernel
theorem dX2_usesOf_1 : decode cX2_usesOf 1 = .ok (.invokestatic 39, 3) := by decide +kernel
theorem dX2_usesOf_4 : decode cX2_usesOf 4 = .ok (.ifCond .eq 12, 3) := by decide +kernel
theorem dX2_usesOf_7 : decode cX2_usesOf 7 = .ok (.aload_n 0, 1) := by decide +kernel
theorem dX2_usesOf_8 : decode cX2_usesOf 8 = .ok (.getfield 20, 3) := by decide +kernel
theorem dX2_usesOf_11 : decode cX2_usesOf 11 = .ok (.iload_n 1, 1) := by decide +kernel
theorem dX2_usesOf_12 : decode cX2_usesOf 12 = .ok (.iaload, 1) := by decide +kernel
theorem dX2_usesOf_13 : decode cX2_usesOf 13 = .ok (.goto 4, 3) := by decide +kernel
theorem dX2_usesOf_16 : decode cX2_usesOf 16 = .ok (.iconst 0, 1) := by decide +kernel
theorem dX2_usesOf_17 : decode cX2_usesOf 17 = .ok (.ireturn, 1) := by decide +kernel
theorem q1_137 : (Jvm.Cond.methodLink "Cyclepaint" (39 : Nat) ({ cls := "Cyclepaint", name := "isEntry", desc := "(I)Z" } : Jvm.MethodName)) ∈ lw_g := zg_of (zin1 (List.mem_of_getElem? (i := 137) rfl)) rfl
theorem q1_62 : (Jvm.Cond.fieldLink "Cyclepaint" (20 : Nat) "Cyclepaint" "uses" "[I") ∈ lw_g := zg_of (zin1 (List.mem_of_getElem? (i := 62) rfl)) rfl
theorem q2_38 : (Jvm.Cond.code ({ cls := "Cyclepaint", name := "usesOf", desc := "(I)I" } : Jvm.MethodName) prog_1_method_39_code (2 : Nat) (Option.some Jvm.ClassFile.FieldType.int)) ∈ lw_g := zg_of (zin2 (List.mem_of_getElem? (i := 38) rfl)) rfl
theorem q2_37 : (Jvm.Cond.instanceMethod ({ cls := "Cyclepaint", name := "usesOf", desc := "(I)I" } : Jvm.MethodName)) ∈ lw_g := zg_of (zin2 (List.mem_of_getElem? (i := 37) rfl)) rfl
theorem qs_13 : Cond.selects "Cyclepaint" (⟨"Cyclepaint", "usesOf", "(I)I"⟩ : MethodName) (⟨"Cyclepaint", "usesOf", "(I)I"⟩ : MethodName) ∈ lw_g := zg_of (zinS (List.mem_of_getElem? (i := 13) rfl)) rfl
theorem ok_X2_usesOf : zOV yX2_usesOf cX2_usesOf 2 ((Option.some Jvm.ClassFile.FieldType.int)) 1 := ⟨⟨q2_38, q1_1, by decide, by decide, by decide +kernel⟩, q2_37, qs_13⟩
set_option maxHeartbeats 4000000 in
set_option maxRecDepth 100000 in
theorem c_X2_usesOf (l : Launch) (G : zG) (σ : St) (a : Nat → Nat) (e : Int) (he : 0 ≤ e ∧ e < 16) : Met l yX2_usesOf (wq yX2_usesOf cX2_usesOf 2 ((Option.some Jvm.ClassFile.FieldType.int))) (rmR 1 20) (va_Pc [.ref (a 0), .int (zI (e))] (zK G (hCyc G σ a))) (zQ (some (.int ((zI (usz σ e)))))) 0 0 zF := by
  refine z_enterI (by decide +kernel) (Nat.le_of_ble_eq_true rfl) ?_
  intro p env s m below meth cod Q S hG hP ret ls hl
  have hl : lv_has ls 2 [(0, .ref (a 0)), (1, .int (zI (e)))] := hl
  refine z_iload_n S dX2_usesOf_0 hl 1 rfl rfl ?_
  refine z_callSs S hG (c_X2_isEntry l G (e) (by omega)) ok_X2_isEntry q1_137 (trivial) ⟨rfl, rfl, by decide, by decide⟩ ⟨Nat.zero_le _, Nat.zero_le _⟩ rfl (Nat.le_of_ble_eq_true rfl) hl.1 rfl dX2_usesOf_1 ?_
  refine z_bif_eq S 16 dX2_usesOf_4 (by decide) (fun c_4 => ?_) (fun c_4 => ?_)
  · skip
    exact absurd c_4 (by simp; omega)
  · skip
    refine z_aload_n S dX2_usesOf_7 hl 0 rfl rfl ?_
    refine z_get S hG hP.1 zc_X2 2 (by decide) q1_62 rfl rfl dX2_usesOf_8 ?_
    refine z_iload_n S dX2_usesOf_11 hl 1 rfl rfl ?_
    refine z_ialdB S hG hP.2.2.1 (by omega) (by decide) dX2_usesOf_12 ?_
    refine z_goto S 17 dX2_usesOf_13 (by decide) ?_
    exact ret _ _ _ dX2_usesOf_17 (rfl)
theorem dX2_shownNow_0 : decode cX2_shownNow 0 = .ok (.aload_n 0, 1) := by decide +kernel
theorem dX2_shownNow_1 : decode cX2_shownNow 1 = .ok (.getfield 12, 3) := by decide +kernel
theorem dX2_shownNow_4 : decode cX2_shownNow 4 = .ok (.aload_n 0, 1) := by decide +kernel
theorem dX2_shownNow_5 : decode cX2_shownNow 5 = .ok (.iload_n 1, 1) := by decide +kernel
theorem dX2_shownNow_6 : decode cX2_shownNow 6 = .ok (.invokevirtual 256, 3) := by decide +kernel
theorem dX2_shownNow_9 : decode cX2_shownNow 9 = .ok (.aload_n 0, 1) := by decide +kernel
theorem dX2_shownNow_10 : decode cX2_shownNow 10 = .ok (.getfield 30, 3) := by decide +kernel
theorem dX2_shownNow_13 : decode cX2_shownNow 13 = .ok (.invokevirtual 146, 3) := by decide +kernel
theorem dX2_shownNow_16 : decode cX2_shownNow 16 = .ok (.ireturn, 1) := by decide +kernel
theorem q1_60 : (Jvm.Cond.fieldLink "Cyclepaint" (12 : Nat) "Cyclepaint" "palette" "LCyclepaint$Palette;") ∈ lw_g := zg_of (zin1 (List.mem_of_getElem? (i := 60) rfl)) rfl
theorem q1_133 : (Jvm.Cond.methodLink "Cyclepaint" (256 : Nat) ({ cls := "Cyclepaint", name := "entryOf", desc := "(I)I" } : Jvm.MethodName)) ∈ lw_g := zg_of (zin1 (List.mem_of_getElem? (i := 133) rfl)) rfl
theorem q1_65 : (Jvm.Cond.fieldLink "Cyclepaint" (30 : Nat) "Cyclepaint" "tick" "I") ∈ lw_g := zg_of (zin1 (List.mem_of_getElem? (i := 65) rfl)) rfl
theorem q1_166 : (Jvm.Cond.methodLink "Cyclepaint" (146 : Nat) ({ cls := "Cyclepaint$Palette", name := "shows", desc := "(II)I" } : Jvm.MethodName)) ∈ lw_g := zg_of (zin1 (List.mem_of_getElem? (i := 166) rfl)) rfl
theorem q1_234 : (Jvm.Cond.code ({ cls := "Cyclepaint", name := "shownNow", desc := "(I)I" } : Jvm.MethodName) prog_1_method_40_code (2 : Nat) (Option.some Jvm.ClassFile.FieldType.int)) ∈ lw_g := zg_of (zin1 (List.mem_of_getElem? (i := 234) rfl)) rfl
theorem q1_233 : (Jvm.Cond.instanceMethod ({ cls := "Cyclepaint", name := "shownNow", desc := "(I)I" } : Jvm.MethodName)) ∈ lw_g := zg_of (zin1 (List.mem_of_getElem? (i := 233) rfl)) rfl
theorem qs_8 : Cond.selects "Cyclepaint" (⟨"Cyclepaint", "shownNow", "(I)I"⟩ : MethodName) (⟨"Cyclepaint", "shownNow", "(I)I"⟩ : MethodName) ∈ lw_g := zg_of (zinS (List.mem_of_getElem? (i := 8) rfl)) rfl
theorem ok_X2_shownNow : zOV yX2_shownNow cX2_shownNow 2 ((Option.some Jvm.ClassFile.FieldType.int)) 1 := ⟨⟨q1_234, q1_1, by decide, by decide, by decide +kernel⟩, q1_233, qs_8⟩
set_option maxHeartbeats 4000000 in
set_option maxRecDepth 100000 in
theorem c_X2_shownNow (l : Launch) (G : zG) (σ : St) (a : Nat → Nat) (d : Int) (hd : 0 ≤ d ∧ d < 32) : Met l yX2_shownNow (wq yX2_shownNow cX2_shownNow 2 ((Option.some Jvm.ClassFile.FieldType.int))) (rmR 2 46) (va_Pc [.ref (a 0), .int (zI (d))] (zK G (hCyc G σ a))) (zQ (some (.int ((shw σ (σ.Dt d) σ.tk))))) 0 0 zF := by
  refine z_enterI (by decide +kernel) (Nat.le_of_ble_eq_true rfl) ?_
  intro p env s m below meth cod Q S hG hP ret ls hl
  have hl : lv_has ls 2 [(0, .ref (a 0)), (1, .int (zI (d)))] := hl
  have hC := hP.2.2.2.2.2
  have hT := hC.1
  have hdt := hC.2.1
  have hlm := hC.2.2.1
  have hkn := hC.2.2.2.1
  have hD := hC.2.2.2.2.1
  have hB := hC.2.2.2.2.2
  have hdt0 := hdt d hd.1 hd.2
  refine z_aload_n S dX2_shownNow_0 hl 0 rfl rfl ?_
  refine z_get S hG hP.1 zc_X2 0 (by decide) q1_60 rfl rfl dX2_shownNow_1 ?_
  refine z_aload_n S dX2_shownNow_4 hl 0 rfl rfl ?_
  refine z_iload_n S dX2_shownNow_5 hl 1 rfl rfl ?_
  refine z_callVs S hG (c_X2_entryOf l G σ a (d) (by omega)) ok_X2_entryOf hP.1 zc_X2 rfl q1_133 (hP) ⟨rfl, rfl, by decide, by decide⟩ ⟨Nat.zero_le _, Nat.zero_le _⟩ rfl (Nat.le_of_ble_eq_true rfl) hl.1 rfl dX2_shownNow_6 ?_
  refine z_aload_n S dX2_shownNow_9 hl 0 rfl rfl ?_
  refine z_get S hG hP.1 zc_X2 5 (by decide) q1_65 rfl rfl dX2_shownNow_10 ?_
  refine z_callVs S hG (c_X0_shows l G σ a (σ.Dt (d)) (σ.tk) (by omega) (by omega)) ok_X0_shows hP.2.2.2.2.1.1 zc_X0 rfl q1_166 (hP.2.2.2.2.1) ⟨rfl, rfl, by decide, by decide⟩ ⟨Nat.zero_le _, Nat.zero_le _⟩ rfl (Nat.le_of_ble_eq_true rfl) hl.1 rfl dX2_shownNow_13 ?_
  exact ret _ _ _ dX2_shownNow_16 (rfl)
theorem dX2_usedEntries_0 : decode cX2_usedEntries 0 = .ok (.iconst 0, 1) := by decide +kernel
theorem dX2_usedEntries_1 : decode cX2_usedEntries 1 = .ok (.istore_n 1, 1) := by decide +kernel
theorem dX2_usedEntries_2 : decode cX2_usedEntries 2 = .ok (.iconst 0, 1) := by decide +kernel
theorem dX2_usedEntries_3 : decode cX2_usedEntries 3 = .ok (.istore_n 2, 1) := by decide +kernel
theorem dX2_usedEntries_4 : decode cX2_usedEntries 4 = .ok (.iload_n 2, 1) := by decide +kernel
theorem dX2_usedEntries_5 : decode cX2_usedEntries 5 = .ok (.bipush 16, 2) := by decide +kernel
theorem dX2_usedEntries_7 : decode cX2_usedEntries 7 = .ok (.if_icmp .ge 21, 3) := by decide +kernel
theorem dX2_usedEntries_10 : decode cX2_usedEntries 10 = .ok (.aload_n 0, 1) := by decide +kernel
theorem dX2_usedEntries_11 : decode cX2_usedEntries 11 = .ok (.getfield 20, 3) := by decide +kernel
theorem dX2_usedEntries_14 : decode cX2_usedEntries 14 = .ok (.iload_n 2, 1) := by decide +kernel
theorem dX2_usedEntries_15 : decode cX2_usedEntries 15 = .ok (.iaload, 1) := by decide +kernel
theorem dX2_usedEntries_16 : decode cX2_usedEntries 16 = .ok (.ifCond .le 6, 3) := by decide +kernel
theorem dX2_usedEntries_19 : decode cX2_usedEntries 19 = .ok (.iinc 1 1, 3) := by decide +kernel
theorem dX2_usedEntries_22 : decode cX2_usedEntries 22 = .ok (.iinc 2 1, 3) := by decide +kernel
theorem dX2_usedEntries_25 : decode cX2_usedEntries 25 = .ok (.goto (-21), 3) := by decide +kernel
theorem dX2_usedEntries_28 : decode cX2_usedEntries 28 = .ok (.iload_n 1, 1) := by decide +kernel
theorem dX2_usedEntries_29 : decode cX2_usedEntries 29 = .ok (.ireturn, 1) := by decide +kernel
theorem q1_209 : (Jvm.Cond.code ({ cls := "Cyclepaint", name := "usedEntries", desc := "()I" } : Jvm.MethodName) prog_1_method_44_code (3 : Nat) (Option.some Jvm.ClassFile.FieldType.int)) ∈ lw_g := zg_of (zin1 (List.mem_of_getElem? (i := 209) rfl)) rfl
theorem q1_208 : (Jvm.Cond.instanceMethod ({ cls := "Cyclepaint", name := "usedEntries", desc := "()I" } : Jvm.MethodName)) ∈ lw_g := zg_of (zin1 (List.mem_of_getElem? (i := 208) rfl)) rfl
theorem qs_5 : Cond.selects "Cyclepaint" (⟨"Cyclepaint", "usedEntries", "()I"⟩ : MethodName) (⟨"Cyclepaint", "usedEntries", "()I"⟩ : MethodName) ∈ lw_g := zg_of (zinS (List.mem_of_getElem? (i := 5) rfl)) rfl
theorem ok_X2_usedEntries : zOV yX2_usedEntries cX2_usedEntries 3 ((Option.some Jvm.ClassFile.FieldType.int)) 0 := ⟨⟨q1_209, q1_1, by decide, by decide, by decide +kernel⟩, q1_208, qs_5⟩
set_option maxHeartbeats 4000000 in
set_option maxRecDepth 100000 in
theorem c_X2_usedEntries (l : Launch) (G : zG) (σ : St) (a : Nat → Nat) : Met l yX2_usedEntries (wq yX2_usedEntries cX2_usedEntries 3 ((Option.some Jvm.ClassFile.FieldType.int))) (rmR 0 0) (va_Pc [.ref (a 0)] (zK G (hCyc G σ a))) (zQ (some (.int ((zI (ueC σ)))))) 0 0 zF := by
  refine z_enterI (by decide +kernel) (Nat.le_of_ble_eq_true rfl) ?_
  intro p env s m below meth cod Q S hG hP ret ls hl
  have hl : lv_has ls 3 [(0, .ref (a 0))] := hl
  refine z_iconst S dX2_usedEntries_0 ?_
  refine z_istore_n (lv' := [(1, .int (zI (0))), (0, .ref (a 0))]) S dX2_usedEntries_1 hl rfl (by decide) rfl (fun ls hl => ?_)
  refine z_iconst S dX2_usedEntries_2 ?_
  refine z_istore_n (lv' := [(2, .int (zI (0))), (1, .int (zI (0))), (0, .ref (a 0))]) S dX2_usedEntries_3 hl rfl (by decide) rfl (fun ls hl => ?_)
  have loop_4 : ∀ (nn : Nat) (k : Int) (ch : Int), (0 ≤ k ∧ k ≤ 16) → (ch = cntI (usB σ) k) → ((16 - k).toNat) < nn → ∀ ls, lv_has ls 3 [(2, .int (zI (k))), (1, .int (zI (ch))), (0, .ref (a 0))] → W p l env (rmR 0 0) s m ([.ref (a 0)] : List Value).toArray below meth cod s.heap [] 0 0 Q (F0 m 4 ls []) := by
    intro nn
    induction nn with
    | zero => intro _ _ _ _ h; exact absurd h (Nat.not_lt_zero _)
    | succ nn ih_4 =>
      intro k ch hk hch hm_4 ls hl
      refine z_iload_n S dX2_usedEntries_4 hl 0 rfl rfl ?_
      refine z_bipush S dX2_usedEntries_5 rfl ?_
      refine z_icmp_ge S 28 dX2_usedEntries_7 (by decide) (by omega) (by omega) (fun c_7 => ?_) (fun c_7 => ?_)
      · skip
        refine z_iload_n S dX2_usedEntries_28 hl 1 rfl rfl ?_
        exact ret _ _ _ dX2_usedEntries_29 (by rw [hch, show k = 16 by omega]; rfl)
      · skip
        refine z_aload_n S dX2_usedEntries_10 hl 2 rfl rfl ?_
        refine z_get S hG hP.1 zc_X2 2 (by decide) q1_62 rfl rfl dX2_usedEntries_11 ?_
        refine z_iload_n S dX2_usedEntries_14 hl 0 rfl rfl ?_
        refine z_ialdB S hG hP.2.2.1 (by omega) (by decide) dX2_usedEntries_15 ?_
        have hub := usz_b σ k
        refine z_if_le S 22 dX2_usedEntries_16 (by decide) (by omega) (fun c_16 => ?_) (fun c_16 => ?_)
        · skip
          refine z_iinc (lv' := [(2, .int (zI (k + 1))), (1, .int (zI (ch))), (0, .ref (a 0))]) S dX2_usedEntries_22 hl 0 rfl (by decide) rfl (fun ls hl => ?_)
          refine z_goto S 4 dX2_usedEntries_25 (by decide) ?_
          exact ih_4 (k + 1) (ch) (by omega) (by rw [hch]; exact (cntI_f hk.1 (by unfold usB; simp; omega)).symm) (by omega) ls (lv_sub hl [0, 1, 2] rfl)
        · skip
          refine z_iinc (lv' := [(1, .int (zI (ch + 1))), (2, .int (zI (k))), (0, .ref (a 0))]) S dX2_usedEntries_19 hl 1 rfl (by decide) rfl (fun ls hl => ?_)
          refine z_iinc (lv' := [(2, .int (zI (k + 1))), (1, .int (zI (ch + 1))), (0, .ref (a 0))]) S dX2_usedEntries_22 hl 1 rfl (by decide) rfl (fun ls hl => ?_)
          refine z_goto S 4 dX2_usedEntries_25 (by decide) ?_
          exact ih_4 (k + 1) (ch + 1) (by omega) (by rw [hch]; exact (cntI_t hk.1 (by unfold usB; simp; omega)).symm) (by omega) ls (lv_sub hl [0, 1, 2] rfl)
  exact loop_4 _ (0) (0) (by omega) (rfl) (Nat.lt_succ_self _) ls (lv_sub hl [0, 1, 2] rfl)
theorem dX2_kinds_0 : decode cX2_kinds 0 = .ok (.iconst 0, 1) := by decide +kernel
theorem dX2_kinds_1 : decode cX2_kinds 1 = .ok (.istore_n 1, 1) := by decide +kernel
theorem dX2_kinds_2 : decode cX2_kinds 2 = .ok (.iconst 0, 1) := by decide +kernel
theorem dX2_kinds_3 : decode cX2_kinds 3 = .ok (.istore_n 2, 1) := by decide +kernel
theorem dX2_kinds_4 : decode cX2_kinds 4 = .ok (.iload_n 2, 1) := by decide +kernel
theorem dX2_kinds_5 : decode cX2_kinds 5 = .ok (.bipush 16, 2) := by decide +kernel
theorem dX2_kinds_7 : decode cX2_kinds 7 = .ok (.if_icmp .ge 31, 3) := by decide +kernel
theorem dX2_kinds_10 : decode cX2_kinds 10 = .ok (.aload_n 0, 1) := by decide +kernel
theorem dX2_kinds_11 : decode cX2_kinds 11 = .ok (.getfield 20, 3) := by decide +kernel
theorem dX2_kinds_14 : decode cX2_kinds 14 = .ok (.iload_n 2, 1) := by decide +kernel
theorem dX2_kinds_15 : decode cX2_kinds 15 = .ok (.iaload, 1) := by decide +kernel
theorem dX2_kinds_16 : decode cX2_kinds 16 = .ok (.ifCond .le 16, 3) := by decide +kernel
theorem dX2_kinds_19 : decode cX2_kinds 19 = .ok (.iload_n 1, 1) := by decide +kernel
theorem dX2_kinds_20 : decode cX2_kinds 20 = .ok (.iconst 1, 1) := by decide +kernel
theorem dX2_kinds_21 : decode cX2_kinds 21 = .ok (.aload_n 0, 1) := by decide +kernel
theorem dX2_kinds_22 : decode cX2_kinds 22 = .ok (.getfield 12, 3) := by decide +kernel
theorem dX2_kinds_25 : decode cX2_kinds 25 = .ok (.iload_n 2, 1) := by decide +kernel
theorem dX2_kinds_26 : decode cX2_kinds 26 = .ok (.invokevirtual 124, 3) := by decide +kernel
theorem dX2_kinds_29 : decode cX2_kinds 29 = .ok (.ishl, 1) := by decide +kernel
theorem dX2_kinds_30 : decode cX2_kinds 30 = .ok (.ior, 1) := by decide +kernel
theorem dX2_kinds_31 : decode cX2_kinds 31 = .ok (.istore_n 1, 1) := by decide +kernel
theorem dX2_kinds_32 : decode cX2_kinds 32 = .ok (.iinc 2 1, 3) := by decide +kernel
theorem dX2_kinds_35 : decode cX2_kinds 35 = .ok (.goto (-31), 3) := by decide +kernel
theorem dX2_kinds_38 : decode cX2_kinds 38 = .ok (.iload_n 1, 1) := by decide +kernel
theorem dX2_kinds_39 : decode cX2_kinds 39 = .ok (.invokestatic 283, 3) := by decide +kernel
theorem dX2_kinds_42 : decode cX2_kinds 42 = .ok (.ireturn, 1) := by decide +kernel
theorem q1_200 : (Jvm.Cond.methodLink "Cyclepaint" (283 : Nat) ({ cls := "java/lang/Integer", name := "bitCount", desc := "(I)I" } : Jvm.MethodName)) ∈ lw_g := zg_of (zin1 (List.mem_of_getElem? (i := 200) rfl)) rfl
theorem q1_89 : (Jvm.Cond.methodLink "Cyclepaint" (124 : Nat) ({ cls := "Cyclepaint$Palette", name := "smallestTwin", desc := "(I)I" } : Jvm.MethodName)) ∈ lw_g := zg_of (zin1 (List.mem_of_getElem? (i := 89) rfl)) rfl
theorem q1_199 : (Jvm.Cond.code ({ cls := "Cyclepaint", name := "kinds", desc := "()I" } : Jvm.MethodName) prog_1_method_45_code (3 : Nat) (Option.some Jvm.ClassFile.FieldType.int)) ∈ lw_g := zg_of (zin1 (List.mem_of_getElem? (i := 199) rfl)) rfl
theorem q1_198 : (Jvm.Cond.instanceMethod ({ cls := "Cyclepaint", name := "kinds", desc := "()I" } : Jvm.MethodName)) ∈ lw_g := zg_of (zin1 (List.mem_of_getElem? (i := 198) rfl)) rfl
theorem qs_4 : Cond.selects "Cyclepaint" (⟨"Cyclepaint", "kinds", "()I"⟩ : MethodName) (⟨"Cyclepaint", "kinds", "()I"⟩ : MethodName) ∈ lw_g := zg_of (zinS (List.mem_of_getElem? (i := 4) rfl)) rfl
theorem ok_X2_kinds : zOV yX2_kinds cX2_kinds 3 ((Option.some Jvm.ClassFile.FieldType.int)) 0 := ⟨⟨q1_199, q1_1, by decide, by decide, by decide +kernel⟩, q1_198, qs_4⟩
set_option maxHeartbeats 4000000 in
set_option maxRecDepth 100000 in
theorem c_X2_kinds (l : Launch) (G : zG) (σ : St) (a : Nat → Nat) : Met l yX2_kinds (wq yX2_kinds cX2_kinds 3 ((Option.some Jvm.ClassFile.FieldType.int))) (rmR 4 92) (va_Pc [.ref (a 0)] (zK G (hCyc G σ a))) (zQ (some (.int ((bcR (ksC σ)))))) 0 0 zF := by
  refine z_enterI (by decide +kernel) (Nat.le_of_ble_eq_true rfl) ?_
  intro p env s m below meth cod Q S hG hP ret ls hl
  have hl : lv_has ls 3 [(0, .ref (a 0))] := hl
  refine z_iconst S dX2_kinds_0 ?_
  refine z_istore_n (lv' := [(1, .int (zI (0))), (0, .ref (a 0))]) S dX2_kinds_1 hl rfl (by decide) rfl (fun ls hl => ?_)
  refine z_iconst S dX2_kinds_2 ?_
  refine z_istore_n (lv' := [(2, .int (zI (0))), (1, .int (zI (0))), (0, .ref (a 0))]) S dX2_kinds_3 hl rfl (by decide) rfl (fun ls hl => ?_)
  have loop_4 : ∀ (nn : Nat) (k : Int) (b : Int32), (0 ≤ k ∧ k ≤ 16) → (b = orI (usB σ) (fun e => bit1 (smlC σ e)) k) → ((16 - k).toNat) < nn → ∀ ls, lv_has ls 3 [(2, .int (zI (k))), (1, .int (b)), (0, .ref (a 0))] → W p l env (rmR 4 92) s m ([.ref (a 0)] : List Value).toArray below meth cod s.heap [] 0 0 Q (F0 m 4 ls []) := by
    intro nn
    induction nn with
    | zero => intro _ _ _ _ h; exact absurd h (Nat.not_lt_zero _)
    | succ nn ih_4 =>
      intro k b hk hb hm_4 ls hl
      refine z_iload_n S dX2_kinds_4 hl 0 rfl rfl ?_
      refine z_bipush S dX2_kinds_5 rfl ?_
      refine z_icmp_ge S 38 dX2_kinds_7 (by decide) (by omega) (by omega) (fun c_7 => ?_) (fun c_7 => ?_)
      · skip
        refine z_iload_n S dX2_kinds_38 hl 1 rfl rfl ?_
        refine z_callSs S hG (c_bitCount l G (b)) ok_J6_bitCount_0f7a4 q1_200 (trivial) ⟨rfl, rfl, by decide, by decide⟩ ⟨Nat.zero_le _, Nat.zero_le _⟩ rfl (Nat.le_of_ble_eq_true rfl) hl.1 rfl dX2_kinds_39 ?_
        exact ret _ _ _ dX2_kinds_42 (by rw [hb, show k = 16 by omega]; rfl)
      · skip
        refine z_aload_n S dX2_kinds_10 hl 2 rfl rfl ?_
        refine z_get S hG hP.1 zc_X2 2 (by decide) q1_62 rfl rfl dX2_kinds_11 ?_
        refine z_iload_n S dX2_kinds_14 hl 0 rfl rfl ?_
        refine z_ialdB S hG hP.2.2.1 (by omega) (by decide) dX2_kinds_15 ?_
        have hub := usz_b σ k
        refine z_if_le S 32 dX2_kinds_16 (by decide) (by omega) (fun c_16 => ?_) (fun c_16 => ?_)
        · skip
          refine z_iinc (lv' := [(2, .int (zI (k + 1))), (1, .int (b)), (0, .ref (a 0))]) S dX2_kinds_32 hl 0 rfl (by decide) rfl (fun ls hl => ?_)
          refine z_goto S 4 dX2_kinds_35 (by decide) ?_
          exact ih_4 (k + 1) (b) (by omega) (by rw [orI_s hk.1, if_neg (by unfold usB; simp; omega)]; exact hb) (by omega) ls (lv_sub hl [0, 1, 2] rfl)
        · skip
          refine z_iload_n S dX2_kinds_19 hl 1 rfl rfl ?_
          refine z_iconst S dX2_kinds_20 ?_
          refine z_aload_n S dX2_kinds_21 hl 2 rfl rfl ?_
          refine z_get S hG hP.1 zc_X2 0 (by decide) q1_60 rfl rfl dX2_kinds_22 ?_
          refine z_iload_n S dX2_kinds_25 hl 0 rfl rfl ?_
          refine z_callVs S hG (c_X0_smallestTwin l G σ a (k) (by omega)) ok_X0_smallestTwin hP.2.2.2.2.1.1 zc_X0 rfl q1_89 (hP.2.2.2.2.1) ⟨rfl, rfl, by decide, by decide⟩ ⟨Nat.zero_le _, Nat.zero_le _⟩ rfl (Nat.le_of_ble_eq_true rfl) hl.1 rfl dX2_kinds_26 ?_
          refine lv_ishl S.1 S.2.1 dX2_kinds_29 ?_
          refine lv_ior S.1 S.2.1 dX2_kinds_30 ?_
          refine z_istore_n (lv' := [(1, .int ((b) ||| ((zI (1)) <<< ((zI (smlC σ (k))) &&& 31)))), (2, .int (zI (k))), (0, .ref (a 0))]) S dX2_kinds_31 hl rfl (by decide) rfl (fun ls hl => ?_)
          refine z_iinc (lv' := [(2, .int (zI (k + 1))), (1, .int ((b) ||| ((zI (1)) <<< ((zI (smlC σ (k))) &&& 31)))), (0, .ref (a 0))]) S dX2_kinds_32 hl 1 rfl (by decide) rfl (fun ls hl => ?_)
          refine z_goto S 4 dX2_kinds_35 (by decide) ?_
          exact ih_4 (k + 1) ((b) ||| ((zI (1)) <<< ((zI (smlC σ (k))) &&& 31))) (by omega) (by rw [orI_s hk.1, if_pos (by unfold usB; simp; omega), hb]; rfl) (by omega) ls (lv_sub hl [0, 1, 2] rfl)
  exact loop_4 _ (0) ((zI (0))) (by omega) (rfl) (Nat.lt_succ_self _) ls (lv_sub hl [0, 1, 2] rfl)
theorem dX2_lightAt_0 : decode cX2_lightAt 0 = .ok (.iconst 0, 1) := by decide +kernel
theorem dX2_lightAt_1 : decode cX2_lightAt 1 = .ok (.istore_n 2, 1) := by decide +kernel
theorem dX2_lightAt_2 : decode cX2_lightAt 2 = .ok (.iconst 0, 1) := by decide +kernel
theorem dX2_lightAt_3 : decode cX2_lightAt 3 = .ok (.istore_n 3, 1) := by decide +kernel
theorem dX2_lightAt_4 : decode cX2_lightAt 4 = .ok (.iload_n 3, 1) := by decide +kernel
theorem dX2_lightAt_5 : decode cX2_lightAt 5 = .ok (.bipush 16, 2) := by decide +kernel
theorem dX2_lightAt_7 : decode cX2_lightAt 7 = .ok (.if_icmp .ge 40, 3) := by decide +kernel
theorem dX2_lightAt_10 : decode cX2_lightAt 10 = .ok (.aload_n 0, 1) := by decide +kernel
theorem dX2_lightAt_11 : decode cX2_lightAt 11 = .ok (.getfield 20, 3) := by decide +kernel
theorem dX2_lightAt_14 : decode cX2_lightAt 14 = .ok (.iload_n 3, 1) := by decide +kernel
theorem dX2_lightAt_15 : decode cX2_lightAt 15 = .ok (.iaload, 1) := by decide +kernel
theorem dX2_lightAt_16 : decode cX2_lightAt 16 = .ok (.ifCond .le 25, 3) := by decide +kernel
theorem dX2_lightAt_19 : decode cX2_lightAt 19 = .ok (.iload_n 2, 1) := by decide +kernel
theorem dX2_lightAt_20 : decode cX2_lightAt 20 = .ok (.aload_n 0, 1) := by decide +kernel
theorem dX2_lightAt_21 : decode cX2_lightAt 21 = .ok (.getfield 20, 3) := by decide +kernel
theorem dX2_lightAt_24 : decode cX2_lightAt 24 = .ok (.iload_n 3, 1) := by decide +kernel
theorem dX2_lightAt_25 : decode cX2_lightAt 25 = .ok (.iaload, 1) := by decide +kernel
theorem dX2_lightAt_26 : decode cX2_lightAt 26 = .ok (.aload_n 0, 1) := by decide +kernel
theorem dX2_lightAt_27 : decode cX2_lightAt 27 = .ok (.getfield 12, 3) := by decide +kernel
theorem dX2_lightAt_30 : decode cX2_lightAt 30 = .ok (.iload_n 3, 1) := by decide +kernel
theorem dX2_lightAt_31 : decode cX2_lightAt 31 = .ok (.iload_n 1, 1) := by decide +kernel
theorem dX2_lightAt_32 : decode cX2_lightAt 32 = .ok (.invokevirtual 146, 3) := by decide +kernel
theorem dX2_lightAt_35 : decode cX2_lightAt 35 = .ok (.invokestatic 259, 3) := by decide +kernel
theorem dX2_lightAt_38 : decode cX2_lightAt 38 = .ok (.imul, 1) := by decide +kernel
theorem dX2_lightAt_39 : decode cX2_lightAt 39 = .ok (.iadd, 1) := by decide +kernel
theorem dX2_lightAt_40 : decode cX2_lightAt 40 = .ok (.istore_n 2, 1) := by decide +kernel
theorem dX2_lightAt_41 : decode cX2_lightAt 41 = .ok (.iinc 3 1, 3) := by decide +kernel
theorem dX2_lightAt_44 : decode cX2_lightAt 44 = .ok (.goto (-40), 3) := by decide +kernel
theorem dX2_lightAt_47 : decode cX2_lightAt 47 = .ok (.iload_n 2, 1) := by decide +kernel
theorem dX2_lightAt_48 : decode cX2_lightAt 48 = .ok (.ireturn, 1) := by decide +kernel
theorem q1_167 : (Jvm.Cond.methodLink "Cyclepaint" (259 : Nat) ({ cls := "Cyclepaint", name := "lightOf", desc := "(I)I" } : Jvm.MethodName)) ∈ lw_g := zg_of (zin1 (List.mem_of_getElem? (i := 167) rfl)) rfl
theorem q1_165 : (Jvm.Cond.code ({ cls := "Cyclepaint", name := "lightAt", desc := "(I)I" } : Jvm.MethodName) prog_1_method_46_code (4 : Nat) (Option.some Jvm.ClassFile.FieldType.int)) ∈ lw_g := zg_of (zin1 (List.mem_of_getElem? (i := 165) rfl)) rfl
theorem q1_164 : (Jvm.Cond.instanceMethod ({ cls := "Cyclepaint", name := "lightAt", desc := "(I)I" } : Jvm.MethodName)) ∈ lw_g := zg_of (zin1 (List.mem_of_getElem? (i := 164) rfl)) rfl
theorem qs_3 : Cond.selects "Cyclepaint" (⟨"Cyclepaint", "lightAt", "(I)I"⟩ : MethodName) (⟨"Cyclepaint", "lightAt", "(I)I"⟩ : MethodName) ∈ lw_g := zg_of (zinS (List.mem_of_getElem? (i := 3) rfl)) rfl
theorem ok_X2_lightAt : zOV yX2_lightAt cX2_lightAt 4 ((Option.some Jvm.ClassFile.FieldType.int)) 1 := ⟨⟨q1_165, q1_1, by decide, by decide, by decide +kernel⟩, q1_164, qs_3⟩
set_option maxHeartbeats 4000000 in
set_option maxRecDepth 100000 in
theorem c_X2_lightAt (l : Launch) (G : zG) (σ : St) (a : Nat → Nat) (w : Int) (hw : 0 ≤ w ∧ w ≤ 1000000) : Met l yX2_lightAt (wq yX2_lightAt cX2_lightAt 4 ((Option.some Jvm.ClassFile.FieldType.int))) (rmR 2 46) (va_Pc [.ref (a 0), .int (zI (w))] (zK G (hCyc G σ a))) (zQ (some (.int ((liC σ w))))) 0 0 zF := by
  refine z_enterI (by decide +kernel) (Nat.le_of_ble_eq_true rfl) ?_
  intro p env s m below meth cod Q S hG hP ret ls hl
  have hl : lv_has ls 4 [(0, .ref (a 0)), (1, .int (zI (w)))] := hl
  refine z_iconst S dX2_lightAt_0 ?_
  refine z_istore_n (lv' := [(2, .int (zI (0))), (0, .ref (a 0)), (1, .int (zI (w)))]) S dX2_lightAt_1 hl rfl (by decide) rfl (fun ls hl => ?_)
  refine z_iconst S dX2_lightAt_2 ?_
  refine z_istore_n (lv' := [(3, .int (zI (0))), (2, .int (zI (0))), (0, .ref (a 0)), (1, .int (zI (w)))]) S dX2_lightAt_3 hl rfl (by decide) rfl (fun ls hl => ?_)
  have loop_4 : ∀ (nn : Nat) (k : Int) (b : Int32), (0 ≤ k ∧ k ≤ 16) → (b = smI (fun e => zI (usz σ e) * lgt (shw σ e w)) k) → ((16 - k).toNat) < nn → ∀ ls, lv_has ls 4 [(3, .int (zI (k))), (2, .int (b)), (0, .ref (a 0)), (1, .int (zI (w)))] → W p l env (rmR 2 46) s m ([.ref (a 0), .int (zI (w))] : List Value).toArray below meth cod s.heap [] 0 0 Q (F0 m 4 ls []) := by
    intro nn
    induction nn with
    | zero => intro _ _ _ _ h; exact absurd h (Nat.not_lt_zero _)
    | succ nn ih_4 =>
      intro k b hk hb hm_4 ls hl
      refine z_iload_n S dX2_lightAt_4 hl 0 rfl rfl ?_
      refine z_bipush S dX2_lightAt_5 rfl ?_
      refine z_icmp_ge S 47 dX2_lightAt_7 (by decide) (by omega) (by omega) (fun c_7 => ?_) (fun c_7 => ?_)
      · skip
        refine z_iload_n S dX2_lightAt_47 hl 1 rfl rfl ?_
        exact ret _ _ _ dX2_lightAt_48 (by rw [hb, show k = 16 by omega]; rfl)
      · skip
        refine z_aload_n S dX2_lightAt_10 hl 2 rfl rfl ?_
        refine z_get S hG hP.1 zc_X2 2 (by decide) q1_62 rfl rfl dX2_lightAt_11 ?_
        refine z_iload_n S dX2_lightAt_14 hl 0 rfl rfl ?_
        refine z_ialdB S hG hP.2.2.1 (by omega) (by decide) dX2_lightAt_15 ?_
        have hub := usz_b σ k
        refine z_if_le S 41 dX2_lightAt_16 (by decide) (by omega) (fun c_16 => ?_) (fun c_16 => ?_)
        · skip
          refine z_iinc (lv' := [(3, .int (zI (k + 1))), (2, .int (b)), (0, .ref (a 0)), (1, .int (zI (w)))]) S dX2_lightAt_41 hl 0 rfl (by decide) rfl (fun ls hl => ?_)
          refine z_goto S 4 dX2_lightAt_44 (by decide) ?_
          exact ih_4 (k + 1) (b) (by omega) (by rw [smI_s hk.1, show usz σ k = 0 by omega, show zI 0 = 0 from rfl, Int32.zero_mul, Int32.add_zero]; exact hb) (by omega) ls (lv_sub hl [0, 1, 2, 3] rfl)
        · skip
          refine z_iload_n S dX2_lightAt_19 hl 1 rfl rfl ?_
          refine z_aload_n S dX2_lightAt_20 hl 2 rfl rfl ?_
          refine z_get S hG hP.1 zc_X2 2 (by decide) q1_62 rfl rfl dX2_lightAt_21 ?_
          refine z_iload_n S dX2_lightAt_24 hl 0 rfl rfl ?_
          refine z_ialdB S hG hP.2.2.1 (by omega) (by decide) dX2_lightAt_25 ?_
          refine z_aload_n S dX2_lightAt_26 hl 2 rfl rfl ?_
          refine z_get S hG hP.1 zc_X2 0 (by decide) q1_60 rfl rfl dX2_lightAt_27 ?_
          refine z_iload_n S dX2_lightAt_30 hl 0 rfl rfl ?_
          refine z_iload_n S dX2_lightAt_31 hl 3 rfl rfl ?_
          refine z_callVs S hG (c_X0_shows l G σ a (k) (w) (by omega) (by omega)) ok_X0_shows hP.2.2.2.2.1.1 zc_X0 rfl q1_166 (hP.2.2.2.2.1) ⟨rfl, rfl, by decide, by decide⟩ ⟨Nat.zero_le _, Nat.zero_le _⟩ rfl (Nat.le_of_ble_eq_true rfl) hl.1 rfl dX2_lightAt_32 ?_
          refine z_callSs S hG (c_X2_lightOf l G (shw σ (k) (w))) ok_X2_lightOf q1_167 (trivial) ⟨rfl, rfl, by decide, by decide⟩ ⟨Nat.zero_le _, Nat.zero_le _⟩ rfl (Nat.le_of_ble_eq_true rfl) hl.1 rfl dX2_lightAt_35 ?_
          refine lv_imul S.1 S.2.1 dX2_lightAt_38 ?_
          refine lv_iadd S.1 S.2.1 dX2_lightAt_39 ?_
          refine z_istore_n (lv' := [(2, .int ((b) + ((zI (usz σ (k))) * (lgt (shw σ (k) (w)))))), (3, .int (zI (k))), (0, .ref (a 0)), (1, .int (zI (w)))]) S dX2_lightAt_40 hl rfl (by decide) rfl (fun ls hl => ?_)
          refine z_iinc (lv' := [(3, .int (zI (k + 1))), (2, .int ((b) + ((zI (usz σ (k))) * (lgt (shw σ (k) (w)))))), (0, .ref (a 0)), (1, .int (zI (w)))]) S dX2_lightAt_41 hl 1 rfl (by decide) rfl (fun ls hl => ?_)
          refine z_goto S 4 dX2_lightAt_44 (by decide) ?_
          exact ih_4 (k + 1) ((b) + ((zI (usz σ (k))) * (lgt (shw σ (k) (w))))) (by omega) (by rw [smI_s hk.1, hb]) (by omega) ls (lv_sub hl [0, 1, 2, 3] rfl)
  exact loop_4 _ (0) ((zI (0))) (by omega) (rfl) (Nat.lt_succ_self _) ls (lv_sub hl [0, 1, 2, 3] rfl)
theorem dX2_lightOfLightestRow_0 : decode cX2_lightOfLightestRow 0 = .ok (.iconst 0, 1) := by decide +kernel
theorem dX2_lightOfLightestRow_1 : decode cX2_lightOfLightestRow 1 = .ok (.istore_n 1, 1) := by decide +kernel
theorem dX2_lightOfLightestRow_2 : decode cX2_lightOfLightestRow 2 = .ok (.iconst 0, 1) := by decide +kernel
theorem dX2_lightOfLightestRow_3 : decode cX2_lightOfLightestRow 3 = .ok (.istore_n 2, 1) := by decide +kernel
theorem dX2_lightOfLightestRow_4 : decode cX2_lightOfLightestRow 4 = .ok (.iload_n 2, 1) := by decide +kernel
theorem dX2_lightOfLightestRow_5 : decode cX2_lightOfLightestRow 5 = .ok (.iconst 4, 1) := by decide +kernel
theorem dX2_lightOfLightestRow_6 : decode cX2_lightOfLightestRow 6 = .ok (.if_icmp .ge 50, 3) := by decide +kernel
theorem dX2_lightOfLightestRow_9 : decode cX2_lightOfLightestRow 9 = .ok (.iconst 0, 1) := by decide +kernel
theorem dX2_lightOfLightestRow_10 : decode cX2_lightOfLightestRow 10 = .ok (.istore_n 3, 1) := by decide +kernel
theorem dX2_lightOfLightestRow_11 : decode cX2_lightOfLightestRow 11 = .ok (.iconst 0, 1) := by decide +kernel
theorem dX2_lightOfLightestRow_12 : decode cX2_lightOfLightestRow 12 = .ok (.istore 4, 2) := by decide +kernel
theorem dX2_lightOfLightestRow_14 : decode cX2_lightOfLightestRow 14 = .ok (.iload 4, 2) := by decide +kernel
theorem dX2_lightOfLightestRow_16 : decode cX2_lightOfLightestRow 16 = .ok (.bipush 8, 2) := by decide +kernel
theorem dX2_lightOfLightestRow_18 : decode cX2_lightOfLightestRow 18 = .ok (.if_icmp .ge 26, 3) := by decide +kernel
theorem dX2_lightOfLightestRow_21 : decode cX2_lightOfLightestRow 21 = .ok (.iload_n 3, 1) := by decide +kernel
theorem dX2_lightOfLightestRow_22 : decode cX2_lightOfLightestRow 22 = .ok (.aload_n 0, 1) := by decide +kernel
theorem dX2_lightOfLightestRow_23 : decode cX2_lightOfLightestRow 23 = .ok (.iload_n 2, 1) := by decide +kernel
theorem dX2_lightOfLightestRow_24 : decode cX2_lightOfLightestRow 24 = .ok (.bipush 8, 2) := by decide +kernel
theorem dX2_lightOfLightestRow_26 : decode cX2_lightOfLightestRow 26 = .ok (.imul, 1) := by decide +kernel
theorem dX2_lightOfLightestRow_27 : decode cX2_lightOfLightestRow 27 = .ok (.iload 4, 2) := by decide +kernel
theorem dX2_lightOfLightestRow_29 : decode cX2_lightOfLightestRow 29 = .ok (.iadd, 1) := by decide +kernel
theorem dX2_lightOfLightestRow_30 : decode cX2_lightOfLightestRow 30 = .ok (.invokevirtual 189, 3) := by decide +kernel
theorem dX2_lightOfLightestRow_33 : decode cX2_lightOfLightestRow 33 = .ok (.invokestatic 259, 3) := by decide +kernel
theorem dX2_lightOfLightestRow_36 : decode cX2_lightOfLightestRow 36 = .ok (.iadd, 1) := by decide +kernel
theorem dX2_lightOfLightestRow_37 : decode cX2_lightOfLightestRow 37 = .ok (.istore_n 3, 1) := by decide +kernel
theorem dX2_lightOfLightestRow_38 : decode cX2_lightOfLightestRow 38 = .ok (.iinc 4 1, 3) := by decide +kernel
theorem dX2_lightOfLightestRow_41 : decode cX2_lightOfLightestRow 41 = .ok (.goto (-27), 3) := by decide +kernel
theorem dX2_lightOfLightestRow_44 : decode cX2_lightOfLightestRow 44 = .ok (.iload_n 1, 1) := by decide +kernel
theorem dX2_lightOfLightestRow_45 : decode cX2_lightOfLightestRow 45 = .ok (.iload_n 3, 1) := by decide +kernel
theorem dX2_lightOfLightestRow_46 : decode cX2_lightOfLightestRow 46 = .ok (.invokestatic 288, 3) := by decide +kernel
theorem dX2_lightOfLightestRow_49 : decode cX2_lightOfLightestRow 49 = .ok (.istore_n 1, 1) := by decide +kernel
theorem dX2_lightOfLightestRow_50 : decode cX2_lightOfLightestRow 50 = .ok (.iinc 2 1, 3) := by decide +kernel
theorem dX2_lightOfLightestRow_53 : decode cX2_lightOfLightestRow 53 = .ok (.goto (-49), 3) := by decide +kernel
theorem dX2_lightOfLightestRow_56 : decode cX2_lightOfLightestRow 56 = .ok (.iload_n 1, 1) := by decide +kernel
theorem dX2_lightOfLightestRow_57 : decode cX2_lightOfLightestRow 57 = .ok (.ireturn, 1) := by decide +kernel
theorem q1_235 : (Jvm.Cond.methodLink "Cyclepaint" (288 : Nat) ({ cls := "java/lang/Math", name := "max", desc := "(II)I" } : Jvm.MethodName)) ∈ lw_g := zg_of (zin1 (List.mem_of_getElem? (i := 235) rfl)) rfl
theorem q1_236 : (Jvm.Cond.static ({ cls := "java/lang/Math", name := "max", desc := "(II)I" } : Jvm.MethodName)) ∈ lw_g := zg_of (zin1 (List.mem_of_getElem? (i := 236) rfl)) rfl
theorem q1_18 : (Jvm.Cond.initialized "java/lang/Math") ∈ lw_g := zg_of (zin1 (List.mem_of_getElem? (i := 18) rfl)) rfl
theorem q1_237 : (Jvm.Cond.code ({ cls := "java/lang/Math", name := "max", desc := "(II)I" } : Jvm.MethodName) prog_20_method_65_code (2 : Nat) (Option.some Jvm.ClassFile.FieldType.int)) ∈ lw_g := zg_of (zin1 (List.mem_of_getElem? (i := 237) rfl)) rfl
theorem q1_231 : (Jvm.Cond.methodLink "Cyclepaint" (189 : Nat) ({ cls := "Cyclepaint", name := "shownNow", desc := "(I)I" } : Jvm.MethodName)) ∈ lw_g := zg_of (zin1 (List.mem_of_getElem? (i := 231) rfl)) rfl
theorem q1_230 : (Jvm.Cond.code ({ cls := "Cyclepaint", name := "lightOfLightestRow", desc := "()I" } : Jvm.MethodName) prog_1_method_47_code (5 : Nat) (Option.some Jvm.ClassFile.FieldType.int)) ∈ lw_g := zg_of (zin1 (List.mem_of_getElem? (i := 230) rfl)) rfl
theorem q1_229 : (Jvm.Cond.instanceMethod ({ cls := "Cyclepaint", name := "lightOfLightestRow", desc := "()I" } : Jvm.MethodName)) ∈ lw_g := zg_of (zin1 (List.mem_of_getElem? (i := 229) rfl)) rfl
theorem qs_7 : Cond.selects "Cyclepaint" (⟨"Cyclepaint", "lightOfLightestRow", "()I"⟩ : MethodName) (⟨"Cyclepaint", "lightOfLightestRow", "()I"⟩ : MethodName) ∈ lw_g := zg_of (zinS (List.mem_of_getElem? (i := 7) rfl)) rfl
theorem ok_X2_lightOfLightestRow : zOV yX2_lightOfLightestRow cX2_lightOfLightestRow 5 ((Option.some Jvm.ClassFile.FieldType.int)) 0 := ⟨⟨q1_230, q1_1, by decide, by decide, by decide +kernel⟩, q1_229, qs_7⟩
set_option maxHeartbeats 4000000 in
set_option maxRecDepth 100000 in
theorem c_X2_mostRow (l : Launch) (G : zG) (σ : St) (a : Nat → Nat) : Met l yX2_lightOfLightestRow (wq yX2_lightOfLightestRow cX2_lightOfLightestRow 5 ((Option.some Jvm.ClassFile.FieldType.int))) (rmR 3 67) (va_Pc [.ref (a 0)] (zK G (hCyc G σ a))) (zQ (some (.int ((mrL σ))))) 0 0 zF := by
  refine z_enterI (by decide +kernel) (Nat.le_of_ble_eq_true rfl) ?_
  intro p env s m below meth cod Q S hG hP ret ls hl
  have hl : lv_has ls 5 [(0, .ref (a 0))] := hl
  refine z_iconst S dX2_lightOfLightestRow_0 ?_
  refine z_istore_n (lv' := [(1, .int (zI (0))), (0, .ref (a 0))]) S dX2_lightOfLightestRow_1 hl rfl (by decide) rfl (fun ls hl => ?_)
  refine z_iconst S dX2_lightOfLightestRow_2 ?_
  refine z_istore_n (lv' := [(2, .int (zI (0))), (1, .int (zI (0))), (0, .ref (a 0))]) S dX2_lightOfLightestRow_3 hl rfl (by decide) rfl (fun ls hl => ?_)
  have loop_4 : ∀ (nn : Nat) (r : Int) (b : Int32), (0 ≤ r ∧ r ≤ 4) → (b = mxI (rwL σ) r) → ((4 - r).toNat) < nn → ∀ ls, lv_has ls 5 [(2, .int (zI (r))), (1, .int (b)), (0, .ref (a 0))] → W p l env (rmR 3 67) s m ([.ref (a 0)] : List Value).toArray below meth cod s.heap [] 0 0 Q (F0 m 4 ls []) := by
    intro nn
    induction nn with
    | zero => intro _ _ _ _ h; exact absurd h (Nat.not_lt_zero _)
    | succ nn ih_4 =>
      intro r b hr hb hm_4 ls hl
      refine z_iload_n S dX2_lightOfLightestRow_4 hl 0 rfl rfl ?_
      refine z_iconst S dX2_lightOfLightestRow_5 ?_
      refine z_icmp_ge S 56 dX2_lightOfLightestRow_6 (by decide) (by omega) (by omega) (fun c_6 => ?_) (fun c_6 => ?_)
      · skip
        refine z_iload_n S dX2_lightOfLightestRow_56 hl 1 rfl rfl ?_
        exact ret _ _ _ dX2_lightOfLightestRow_57 (by rw [hb, show r = 4 by omega]; rfl)
      · skip
        refine z_iconst S dX2_lightOfLightestRow_9 ?_
        refine z_istore_n (lv' := [(3, .int (zI (0))), (2, .int (zI (r))), (1, .int (b)), (0, .ref (a 0))]) S dX2_lightOfLightestRow_10 hl rfl (by decide) rfl (fun ls hl => ?_)
        refine z_iconst S dX2_lightOfLightestRow_11 ?_
        refine z_istore (lv' := [(4, .int (zI (0))), (3, .int (zI (0))), (2, .int (zI (r))), (1, .int (b)), (0, .ref (a 0))]) S dX2_lightOfLightestRow_12 hl (by decide) rfl (fun ls hl => ?_)
        have loop_14 : ∀ (nn : Nat) (q : Int) (g : Int32), (0 ≤ q ∧ q ≤ 8) → (g = smI (fun q => lgt (shw σ (σ.Dt (r * 8 + q)) σ.tk)) q) → ((8 - q).toNat) < nn → ∀ ls, lv_has ls 5 [(4, .int (zI (q))), (3, .int (g)), (2, .int (zI (r))), (1, .int (b)), (0, .ref (a 0))] → W p l env (rmR 3 67) s m ([.ref (a 0)] : List Value).toArray below meth cod s.heap [] 0 0 Q (F0 m 14 ls []) := by
          intro nn
          induction nn with
          | zero => intro _ _ _ _ h; exact absurd h (Nat.not_lt_zero _)
          | succ nn ih_14 =>
            intro q g hq hg hm_14 ls hl
            refine z_iload S dX2_lightOfLightestRow_14 hl 0 rfl ?_
            refine z_bipush S dX2_lightOfLightestRow_16 rfl ?_
            refine z_icmp_ge S 44 dX2_lightOfLightestRow_18 (by decide) (by omega) (by omega) (fun c_18 => ?_) (fun c_18 => ?_)
            · skip
              refine z_iload_n S dX2_lightOfLightestRow_44 hl 3 rfl rfl ?_
              refine z_iload_n S dX2_lightOfLightestRow_45 hl 1 rfl rfl ?_
              refine z_max S q1_235 q1_236 q1_18 (by exact q1_237) (by decide) (Nat.le_of_ble_eq_true rfl) ⟨Nat.zero_le _, Nat.zero_le _⟩ hl.1 dX2_lightOfLightestRow_46 ?_
              refine z_istore_n (lv' := [(1, .int (if (b) < (g) then (g) else (b))), (4, .int (zI (q))), (3, .int (g)), (2, .int (zI (r))), (0, .ref (a 0))]) S dX2_lightOfLightestRow_49 hl rfl (by decide) rfl (fun ls hl => ?_)
              refine z_iinc (lv' := [(2, .int (zI (r + 1))), (1, .int (if (b) < (g) then (g) else (b))), (4, .int (zI (q))), (3, .int (g)), (0, .ref (a 0))]) S dX2_lightOfLightestRow_50 hl 3 rfl (by decide) rfl (fun ls hl => ?_)
              refine z_goto S 4 dX2_lightOfLightestRow_53 (by decide) ?_
              exact ih_4 (r + 1) (if (b) < (g) then (g) else (b)) (by omega) (by rw [mxI_s hr.1, ← hb, show rwL σ r = g by rw [hg, show q = 8 by omega]; rfl]) (by omega) ls (lv_sub hl [0, 1, 4] rfl)
            · skip
              refine z_iload_n S dX2_lightOfLightestRow_21 hl 1 rfl rfl ?_
              refine z_aload_n S dX2_lightOfLightestRow_22 hl 4 rfl rfl ?_
              refine z_iload_n S dX2_lightOfLightestRow_23 hl 2 rfl rfl ?_
              refine z_bipush S dX2_lightOfLightestRow_24 rfl ?_
              refine z_imul S dX2_lightOfLightestRow_26 ?_
              refine z_iload S dX2_lightOfLightestRow_27 hl 0 rfl ?_
              refine z_iadd S dX2_lightOfLightestRow_29 ?_
              refine z_callVs S hG (c_X2_shownNow l G σ a (((r) * (8)) + (q)) (by omega)) ok_X2_shownNow hP.1 zc_X2 rfl q1_231 (hP) ⟨rfl, rfl, by decide, by decide⟩ ⟨Nat.zero_le _, Nat.zero_le _⟩ rfl (Nat.le_of_ble_eq_true rfl) hl.1 rfl dX2_lightOfLightestRow_30 ?_
              refine z_callSs S hG (c_X2_lightOf l G (shw σ (σ.Dt (((r) * (8)) + (q))) σ.tk)) ok_X2_lightOf q1_167 (trivial) ⟨rfl, rfl, by decide, by decide⟩ ⟨Nat.zero_le _, Nat.zero_le _⟩ rfl (Nat.le_of_ble_eq_true rfl) hl.1 rfl dX2_lightOfLightestRow_33 ?_
              refine lv_iadd S.1 S.2.1 dX2_lightOfLightestRow_36 ?_
              refine z_istore_n (lv' := [(3, .int ((g) + (lgt (shw σ (σ.Dt (((r) * (8)) + (q))) σ.tk)))), (4, .int (zI (q))), (2, .int (zI (r))), (1, .int (b)), (0, .ref (a 0))]) S dX2_lightOfLightestRow_37 hl rfl (by decide) rfl (fun ls hl => ?_)
              refine z_iinc (lv' := [(4, .int (zI (q + 1))), (3, .int ((g) + (lgt (shw σ (σ.Dt (((r) * (8)) + (q))) σ.tk)))), (2, .int (zI (r))), (1, .int (b)), (0, .ref (a 0))]) S dX2_lightOfLightestRow_38 hl 1 rfl (by decide) rfl (fun ls hl => ?_)
              refine z_goto S 14 dX2_lightOfLightestRow_41 (by decide) ?_
              exact ih_14 (q + 1) ((g) + (lgt (shw σ (σ.Dt (((r) * (8)) + (q))) σ.tk))) (by omega) (by rw [smI_s hq.1, hg]) (by omega) ls (lv_sub hl [0, 1, 2, 3, 4] rfl)
        exact loop_14 _ (0) ((zI (0))) (by omega) (rfl) (Nat.lt_succ_self _) ls (lv_sub hl [0, 1, 2, 3, 4] rfl)
  exact loop_4 _ (0) ((zI (0))) (by omega) (rfl) (Nat.lt_succ_self _) ls (lv_sub hl [0, 1, 2] rfl)
theorem dX2_flickeringDots_0 : decode cX2_flickeringDots 0 = .ok (.iconst 0, 1) := by decide +kernel
theorem dX2_flickeringDots_1 : decode cX2_flickeringDots 1 = .ok (.istore_n 1, 1) := by decide +kernel
theorem dX2_flickeringDots_2 : decode cX2_flickeringDots 2 = .ok (.iconst 0, 1) := by decide +kernel
theorem dX2_flickeringDots_3 : decode cX2_flickeringDots 3 = .ok (.istore_n 2, 1) := by decide +kernel
theorem dX2_flickeringDots_4 : decode cX2_flickeringDots 4 = .ok (.iload_n 2, 1) := by decide +kernel
theorem dX2_flickeringDots_5 : decode cX2_flickeringDots 5 = .ok (.bipush 16, 2) := by decide +kernel
theorem dX2_flickeringDots_7 : decode cX2_flickeringDots 7 = .ok (.if_icmp .ge 46, 3) := by decide +kernel
theorem dX2_flickeringDots_10 : decode cX2_flickeringDots 10 = .ok (.aload_n 0, 1) := by decide +kernel
theorem dX2_flickeringDots_11 : decode cX2_flickeringDots 11 = .ok (.getfield 20, 3) := by decide +kernel
theorem dX2_flickeringDots_14 : decode cX2_flickeringDots 14 = .ok (.iload_n 2, 1) := by decide +kernel
theorem dX2_flickeringDots_15 : decode cX2_flickeringDots 15 = .ok (.iaload, 1) := by decide +kernel
theorem dX2_flickeringDots_16 : decode cX2_flickeringDots 16 = .ok (.ifCond .le 31, 3) := by decide +kernel
theorem dX2_flickeringDots_19 : decode cX2_flickeringDots 19 = .ok (.aload_n 0, 1) := by decide +kernel
theorem dX2_flickeringDots_20 : decode cX2_flickeringDots 20 = .ok (.getfield 12, 3) := by decide +kernel
theorem dX2_flickeringDots_23 : decode cX2_flickeringDots 23 = .ok (.iload_n 2, 1) := by decide +kernel
theorem dX2_flickeringDots_24 : decode cX2_flickeringDots 24 = .ok (.aload_n 0, 1) := by decide +kernel
theorem dX2_flickeringDots_25 : decode cX2_flickeringDots 25 = .ok (.getfield 30, 3) := by decide +kernel
theorem dX2_flickeringDots_28 : decode cX2_flickeringDots 28 = .ok (.bipush 30, 2) := by decide +kernel
theorem dX2_flickeringDots_30 : decode cX2_flickeringDots 30 = .ok (.invokevirtual 135, 3) := by decide +kernel
theorem dX2_flickeringDots_33 : decode cX2_flickeringDots 33 = .ok (.bipush 10, 2) := by decide +kernel
theorem dX2_flickeringDots_35 : decode cX2_flickeringDots 35 = .ok (.if_icmp .le 12, 3) := by decide +kernel
theorem dX2_flickeringDots_38 : decode cX2_flickeringDots 38 = .ok (.iload_n 1, 1) := by decide +kernel
theorem dX2_flickeringDots_39 : decode cX2_flickeringDots 39 = .ok (.aload_n 0, 1) := by decide +kernel
theorem dX2_flickeringDots_40 : decode cX2_flickeringDots 40 = .ok (.getfield 20, 3) := by decide +kernel
theorem dX2_flickeringDots_43 : decode cX2_flickeringDots 43 = .ok (.iload_n 2, 1) := by decide +kernel
theorem dX2_flickeringDots_44 : decode cX2_flickeringDots 44 = .ok (.iaload, 1) := by decide +kernel
theorem dX2_flickeringDots_45 : decode cX2_flickeringDots 45 = .ok (.iadd, 1) := by decide +kernel
theorem dX2_flickeringDots_46 : decode cX2_flickeringDots 46 = .ok (.istore_n 1, 1) := by decide +kernel
theorem dX2_flickeringDots_47 : decode cX2_flickeringDots 47 = .ok (.iinc 2 1, 3) := by decide +kernel
theorem dX2_flickeringDots_50 : decode cX2_flickeringDots 50 = .ok (.goto (-46), 3) := by decide +kernel
theorem dX2_flickeringDots_53 : decode cX2_flickeringDots 53 = .ok (.iload_n 1, 1) := by decide +kernel
theorem dX2_flickeringDots_54 : decode cX2_flickeringDots 54 = .ok (.ireturn, 1) := by decide +kernel
theorem q2_2 : (Jvm.Cond.methodLink "Cyclepaint" (135 : Nat) ({ cls := "Cyclepaint$Palette", name := "changes", desc := "(III)I" } : Jvm.MethodName)) ∈ lw_g := zg_of (zin2 (List.mem_of_getElem? (i := 2) rfl)) rfl
theorem q2_1 : (Jvm.Cond.code ({ cls := "Cyclepaint", name := "flickeringDots", desc := "()I" } : Jvm.MethodName) prog_1_method_48_code (3 : Nat) (Option.some Jvm.ClassFile.FieldType.int)) ∈ lw_g := zg_of (zin2 (List.mem_of_getElem? (i := 1) rfl)) rfl
theorem q2_0 : (Jvm.Cond.instanceMethod ({ cls := "Cyclepaint", name := "flickeringDots", desc := "()I" } : Jvm.MethodName)) ∈ lw_g := zg_of (zin2 (List.mem_of_getElem? (i := 0) rfl)) rfl
theorem qs_9 : Cond.selects "Cyclepaint" (⟨"Cyclepaint", "flickeringDots", "()I"⟩ : MethodName) (⟨"Cyclepaint", "flickeringDots", "()I"⟩ : MethodName) ∈ lw_g := zg_of (zinS (List.mem_of_getElem? (i := 9) rfl)) rfl
theorem ok_X2_flickeringDots : zOV yX2_flickeringDots cX2_flickeringDots 3 ((Option.some Jvm.ClassFile.FieldType.int)) 0 := ⟨⟨q2_1, q1_1, by decide, by decide, by decide +kernel⟩, q2_0, qs_9⟩
set_option maxHeartbeats 4000000 in
set_option maxRecDepth 100000 in
theorem c_X2_flickering (l : Launch) (G : zG) (σ : St) (a : Nat → Nat) : Met l yX2_flickeringDots (wq yX2_flickeringDots cX2_flickeringDots 3 ((Option.some Jvm.ClassFile.FieldType.int))) (rmR 3 73) (va_Pc [.ref (a 0)] (zK G (hCyc G σ a))) (zQ (some (.int ((zI (flC σ)))))) 0 0 zF := by
  refine z_enterI (by decide +kernel) (Nat.le_of_ble_eq_true rfl) ?_
  intro p env s m below meth cod Q S hG hP ret ls hl
  have hl : lv_has ls 3 [(0, .ref (a 0))] := hl
  have hC := hP.2.2.2.2.2
  have hT := hC.1
  have hdt := hC.2.1
  have hlm := hC.2.2.1
  have hkn := hC.2.2.2.1
  have hD := hC.2.2.2.2.1
  have hB := hC.2.2.2.2.2
  refine z_iconst S dX2_flickeringDots_0 ?_
  refine z_istore_n (lv' := [(1, .int (zI (0))), (0, .ref (a 0))]) S dX2_flickeringDots_1 hl rfl (by decide) rfl (fun ls hl => ?_)
  refine z_iconst S dX2_flickeringDots_2 ?_
  refine z_istore_n (lv' := [(2, .int (zI (0))), (1, .int (zI (0))), (0, .ref (a 0))]) S dX2_flickeringDots_3 hl rfl (by decide) rfl (fun ls hl => ?_)
  have loop_4 : ∀ (nn : Nat) (k : Int) (ch : Int), (0 ≤ k ∧ k ≤ 16) → (ch = szI (flG σ) k) → ((16 - k).toNat) < nn → ∀ ls, lv_has ls 3 [(2, .int (zI (k))), (1, .int (zI (ch))), (0, .ref (a 0))] → W p l env (rmR 3 73) s m ([.ref (a 0)] : List Value).toArray below meth cod s.heap [] 0 0 Q (F0 m 4 ls []) := by
    intro nn
    induction nn with
    | zero => intro _ _ _ _ h; exact absurd h (Nat.not_lt_zero _)
    | succ nn ih_4 =>
      intro k ch hk hch hm_4 ls hl
      refine z_iload_n S dX2_flickeringDots_4 hl 0 rfl rfl ?_
      refine z_bipush S dX2_flickeringDots_5 rfl ?_
      refine z_icmp_ge S 53 dX2_flickeringDots_7 (by decide) (by omega) (by omega) (fun c_7 => ?_) (fun c_7 => ?_)
      · skip
        refine z_iload_n S dX2_flickeringDots_53 hl 1 rfl rfl ?_
        exact ret _ _ _ dX2_flickeringDots_54 (by rw [hch, show k = 16 by omega]; rfl)
      · skip
        refine z_aload_n S dX2_flickeringDots_10 hl 2 rfl rfl ?_
        refine z_get S hG hP.1 zc_X2 2 (by decide) q1_62 rfl rfl dX2_flickeringDots_11 ?_
        refine z_iload_n S dX2_flickeringDots_14 hl 0 rfl rfl ?_
        refine z_ialdB S hG hP.2.2.1 (by omega) (by decide) dX2_flickeringDots_15 ?_
        have hub := usz_b σ k
        refine z_if_le S 47 dX2_flickeringDots_16 (by decide) (by omega) (fun c_16 => ?_) (fun c_16 => ?_)
        · skip
          refine z_iinc (lv' := [(2, .int (zI (k + 1))), (1, .int (zI (ch))), (0, .ref (a 0))]) S dX2_flickeringDots_47 hl 0 rfl (by decide) rfl (fun ls hl => ?_)
          refine z_goto S 4 dX2_flickeringDots_50 (by decide) ?_
          exact ih_4 (k + 1) (ch) (by omega) (by rw [szI_s hk.1, show flG σ k = 0 by unfold flG; split <;> omega]; omega) (by omega) ls (lv_sub hl [0, 1, 2] rfl)
        · skip
          refine z_aload_n S dX2_flickeringDots_19 hl 2 rfl rfl ?_
          refine z_get S hG hP.1 zc_X2 0 (by decide) q1_60 rfl rfl dX2_flickeringDots_20 ?_
          refine z_iload_n S dX2_flickeringDots_23 hl 0 rfl rfl ?_
          refine z_aload_n S dX2_flickeringDots_24 hl 2 rfl rfl ?_
          refine z_get S hG hP.1 zc_X2 5 (by decide) q1_65 rfl rfl dX2_flickeringDots_25 ?_
          refine z_bipush S dX2_flickeringDots_28 rfl ?_
          refine z_callVs S hG (c_X0_changes l G σ a (k) (σ.tk) (30) (by omega) (by omega) (by omega)) ok_X0_changes hP.2.2.2.2.1.1 zc_X0 rfl q2_2 (hP.2.2.2.2.1) ⟨rfl, rfl, by decide, by decide⟩ ⟨Nat.zero_le _, Nat.zero_le _⟩ rfl (Nat.le_of_ble_eq_true rfl) hl.1 rfl dX2_flickeringDots_30 ?_
          refine z_bipush S dX2_flickeringDots_33 rfl ?_
          have hcb := cntI_b (chgB σ k σ.tk) (k := 30) (by omega)
          have hce : chg σ k σ.tk 30 = cntI (chgB σ k σ.tk) 30 := rfl
          refine z_icmp_le S 47 dX2_flickeringDots_35 (by decide) (by omega) (by omega) (fun c_35 => ?_) (fun c_35 => ?_)
          · skip
            refine z_iinc (lv' := [(2, .int (zI (k + 1))), (1, .int (zI (ch))), (0, .ref (a 0))]) S dX2_flickeringDots_47 hl 0 rfl (by decide) rfl (fun ls hl => ?_)
            refine z_goto S 4 dX2_flickeringDots_50 (by decide) ?_
            exact ih_4 (k + 1) (ch) (by omega) (by rw [szI_s hk.1, show flG σ k = 0 by unfold flG; split <;> omega]; omega) (by omega) ls (lv_sub hl [0, 1, 2] rfl)
          · skip
            refine z_iload_n S dX2_flickeringDots_38 hl 1 rfl rfl ?_
            refine z_aload_n S dX2_flickeringDots_39 hl 2 rfl rfl ?_
            refine z_get S hG hP.1 zc_X2 2 (by decide) q1_62 rfl rfl dX2_flickeringDots_40 ?_
            refine z_iload_n S dX2_flickeringDots_43 hl 0 rfl rfl ?_
            refine z_ialdB S hG hP.2.2.1 (by omega) (by decide) dX2_flickeringDots_44 ?_
            refine z_iadd S dX2_flickeringDots_45 ?_
            refine z_istore_n (lv' := [(1, .int (zI ((ch) + (usz σ (k))))), (2, .int (zI (k))), (0, .ref (a 0))]) S dX2_flickeringDots_46 hl rfl (by decide) rfl (fun ls hl => ?_)
            refine z_iinc (lv' := [(2, .int (zI (k + 1))), (1, .int (zI ((ch) + (usz σ (k))))), (0, .ref (a 0))]) S dX2_flickeringDots_47 hl 1 rfl (by decide) rfl (fun ls hl => ?_)
            refine z_goto S 4 dX2_flickeringDots_50 (by decide) ?_
            exact ih_4 (k + 1) ((ch) + (usz σ (k))) (by omega) (by rw [szI_s hk.1, show flG σ k = usz σ k by unfold flG; split <;> omega]; omega) (by omega) ls (lv_sub hl [0, 1, 2] rfl)
  exact loop_4 _ (0) (0) (by omega) (rfl) (Nat.lt_succ_self _) ls (lv_sub hl [0, 1, 2] rfl)
theorem dX2_isBarred_0 : decode cX2_isBarred 0 = .ok (.aload_n 0, 1) := by decide +kernel
theorem dX2_isBarred_1 : decode cX2_isBarred 1 = .ok (.invokevirtual 277, 3) := by decide +kernel
theorem dX2_isBarred_4 : decode cX2_isBarred 4 = .ok (.aload_n 0, 1) := by decide +kernel
theorem dX2_isBarred_5 : decode cX2_isBarred 5 = .ok (.getfield 33, 3) := by decide +kernel
theorem dX2_isBarred_8 : decode cX2_isBarred 8 = .ok (.if_icmp .le 7, 3) := by decide +kernel
theorem dX2_isBarred_11 : decode cX2_isBarred 11 = .ok (.iconst 1, 1) := by decide +kernel
theorem dX2_isBarred_12 : decode cX2_isBarred 12 = .ok (.goto 4, 3) := by decide +kernel
theorem dX2_isBarred_15 : decode cX2_isBarred 15 = .ok (.iconst 0, 1) := by decide +kernel
theorem dX2_isBarred_16 : decode cX2_isBarred 16 = .ok (.ireturn, 1) := by decide +kernel
theorem q1_238 : (Jvm.Cond.methodLink "Cyclepaint" (277 : Nat) ({ cls := "Cyclepaint", name := "flickeringDots", desc := "()I" } : Jvm.MethodName)) ∈ lw_g := zg_of (zin1 (List.mem_of_getElem? (i := 238) rfl)) rfl
theorem q1_66 : (Jvm.Cond.fieldLink "Cyclepaint" (33 : Nat) "Cyclepaint" "limit" "I") ∈ lw_g := zg_of (zin1 (List.mem_of_getElem? (i := 66) rfl)) rfl
theorem q2_9 : (Jvm.Cond.code ({ cls := "Cyclepaint", name := "isBarred", desc := "()Z" } : Jvm.MethodName) prog_1_method_49_code (1 : Nat) (Option.some Jvm.ClassFile.FieldType.boolean)) ∈ lw_g := zg_of (zin2 (List.mem_of_getElem? (i := 9) rfl)) rfl
theorem q2_8 : (Jvm.Cond.instanceMethod ({ cls := "Cyclepaint", name := "isBarred", desc := "()Z" } : Jvm.MethodName)) ∈ lw_g := zg_of (zin2 (List.mem_of_getElem? (i := 8) rfl)) rfl
theorem qs_10 : Cond.selects "Cyclepaint" (⟨"Cyclepaint", "isBarred", "()Z"⟩ : MethodName) (⟨"Cyclepaint", "isBarred", "()Z"⟩ : MethodName) ∈ lw_g := zg_of (zinS (List.mem_of_getElem? (i := 10) rfl)) rfl
theorem ok_X2_isBarred : zOV yX2_isBarred cX2_isBarred 1 ((Option.some Jvm.ClassFile.FieldType.boolean)) 0 := ⟨⟨q2_9, q1_1, by decide, by decide, by decide +kernel⟩, q2_8, qs_10⟩
set_option maxHeartbeats 4000000 in
set_option maxRecDepth 100000 in
theorem c_X2_isBarred (l : Launch) (G : zG) (σ : St) (a : Nat → Nat) : Met l yX2_isBarred (wq yX2_isBarred cX2_isBarred 1 ((Option.some Jvm.ClassFile.FieldType.boolean))) (rmR 4 95) (va_Pc [.ref (a 0)] (zK G (hCyc G σ a))) (zQ (some (.int (bI (decide (σ.lim < flC σ)))))) 0 0 zF := by
  refine z_enterB (by decide +kernel) (Nat.le_of_ble_eq_true rfl) ?_
  intro p env s m below meth cod Q S hG hP ret ls hl
  have hl : lv_has ls 1 [(0, .ref (a 0))] := hl
  have hC := hP.2.2.2.2.2
  have hT := hC.1
  have hdt := hC.2.1
  have hlm := hC.2.2.1
  have hkn := hC.2.2.2.1
  have hD := hC.2.2.2.2.1
  have hB := hC.2.2.2.2.2
  refine z_aload_n S dX2_isBarred_0 hl 0 rfl rfl ?_
  refine z_callVs S hG (c_X2_flickering l G σ a) ok_X2_flickeringDots hP.1 zc_X2 rfl q1_238 (hP) ⟨rfl, rfl, by decide, by decide⟩ ⟨Nat.zero_le _, Nat.zero_le _⟩ rfl (Nat.le_of_ble_eq_true rfl) hl.1 rfl dX2_isBarred_1 ?_
  refine z_aload_n S dX2_isBarred_4 hl 0 rfl rfl ?_
  refine z_get S hG hP.1 zc_X2 6 (by decide) q1_66 rfl rfl dX2_isBarred_5 ?_
  have hfb := flC_b σ
  refine z_icmp_le S 15 dX2_isBarred_8 (by decide) (by omega) (by omega) (fun c_8 => ?_) (fun c_8 => ?_)
  · skip
    refine z_iconst S dX2_isBarred_15 ?_
    exact ret _ _ _ dX2_isBarred_16 (by rw [show decide (σ.lim < flC σ) = false from by simp; omega]; rfl)
  · skip
    refine z_iconst S dX2_isBarred_11 ?_
    refine z_goto S 16 dX2_isBarred_12 (by decide) ?_
    exact ret _ _ _ dX2_isBarred_16 (by rw [show decide (σ.lim < flC σ) = true from by simp; omega]; rfl)
theorem dX2_coloursShown_0 : decode cX2_coloursShown 0 = .ok (.lconst 0, 1) := by decide +kernel
theorem dX2_coloursShown_1 : decode cX2_coloursShown 1 = .ok (.lstore_n 1, 1) := by decide +kernel
theorem dX2_coloursShown_2 : decode cX2_coloursShown 2 = .ok (.iconst 0, 1) := by decide +kernel
theorem dX2_coloursShown_3 : decode cX2_coloursShown 3 = .ok (.istore_n 3, 1) := by decide +kernel
theorem dX2_coloursShown_4 : decode cX2_coloursShown 4 = .ok (.iload_n 3, 1) := by decide +kernel
theorem dX2_coloursShown_5 : decode cX2_coloursShown 5 = .ok (.bipush 16, 2) := by decide +kernel
theorem dX2_coloursShown_7 : decode cX2_coloursShown 7 = .ok (.if_icmp .ge 35, 3) := by decide +kernel
theorem dX2_coloursShown_10 : decode cX2_coloursShown 10 = .ok (.aload_n 0, 1) := by decide +kernel
theorem dX2_coloursShown_11 : decode cX2_coloursShown 11 = .ok (.getfield 20, 3) := by decide +kernel
theorem dX2_coloursShown_14 : decode cX2_coloursShown 14 = .ok (.iload_n 3, 1) := by decide +kernel
theorem dX2_coloursShown_15 : decode cX2_coloursShown 15 = .ok (.iaload, 1) := by decide +kernel
theorem dX2_coloursShown_16 : decode cX2_coloursShown 16 = .ok (.ifCond .le 20, 3) := by decide +kernel
theorem dX2_coloursShown_19 : decode cX2_coloursShown 19 = .ok (.lload_n 1, 1) := by decide +kernel
theorem dX2_coloursShown_20 : decode cX2_coloursShown 20 = .ok (.lconst 1, 1) := by decide +kernel
theorem dX2_coloursShown_21 : decode cX2_coloursShown 21 = .ok (.aload_n 0, 1) := by decide +kernel
theorem dX2_coloursShown_22 : decode cX2_coloursShown 22 = .ok (.getfield 12, 3) := by decide +kernel
theorem dX2_coloursShown_25 : decode cX2_coloursShown 25 = .ok (.iload_n 3, 1) := by decide +kernel
theorem dX2_coloursShown_26 : decode cX2_coloursShown 26 = .ok (.aload_n 0, 1) := by decide +kernel
theorem dX2_coloursShown_27 : decode cX2_coloursShown 27 = .ok (.getfield 30, 3) := by decide +kernel
theorem dX2_coloursShown_30 : decode cX2_coloursShown 30 = .ok (.invokevirtual 146, 3) := by decide +kernel
theorem dX2_coloursShown_33 : decode cX2_coloursShown 33 = .ok (.lshl, 1) := by decide +kernel
theorem dX2_coloursShown_34 : decode cX2_coloursShown 34 = .ok (.lor, 1) := by decide +kernel
theorem dX2_coloursShown_35 : decode cX2_coloursShown 35 = .ok (.lstore_n 1, 1) := by decide +kernel
theorem dX2_coloursShown_36 : decode cX2_coloursShown 36 = .ok (.iinc 3 1, 3) := by decide +kernel
theorem dX2_coloursShown_39 : decode cX2_coloursShown 39 = .ok (.goto (-35), 3) := by decide +kernel
theorem dX2_coloursShown_42 : decode cX2_coloursShown 42 = .ok (.lload_n 1, 1) := by decide +kernel
theorem dX2_coloursShown_43 : decode cX2_coloursShown 43 = .ok (.invokestatic 293, 3) := by decide +kernel
theorem dX2_coloursShown_46 : decode cX2_coloursShown 46 = .ok (.ireturn, 1) := by decide +kernel
theorem q2_14 : (Jvm.Cond.methodLink "Cyclepaint" (293 : Nat) ({ cls := "java/lang/Long", name := "bitCount", desc := "(J)I" } : Jvm.MethodName)) ∈ lw_g := zg_of (zin2 (List.mem_of_getElem? (i := 14) rfl)) rfl
theorem q2_13 : (Jvm.Cond.code ({ cls := "Cyclepaint", name := "coloursShown", desc := "()I" } : Jvm.MethodName) prog_1_method_50_code (4 : Nat) (Option.some Jvm.ClassFile.FieldType.int)) ∈ lw_g := zg_of (zin2 (List.mem_of_getElem? (i := 13) rfl)) rfl
theorem q2_12 : (Jvm.Cond.instanceMethod ({ cls := "Cyclepaint", name := "coloursShown", desc := "()I" } : Jvm.MethodName)) ∈ lw_g := zg_of (zin2 (List.mem_of_getElem? (i := 12) rfl)) rfl
theorem qs_11 : Cond.selects "Cyclepaint" (⟨"Cyclepaint", "coloursShown", "()I"⟩ : MethodName) (⟨"Cyclepaint", "coloursShown", "()I"⟩ : MethodName) ∈ lw_g := zg_of (zinS (List.mem_of_getElem? (i := 11) rfl)) rfl
theorem ok_X2_coloursShown : zOV yX2_coloursShown cX2_coloursShown 4 ((Option.some Jvm.ClassFile.FieldType.int)) 0 := ⟨⟨q2_13, q1_1, by decide, by decide, by decide +kernel⟩, q2_12, qs_11⟩
set_option maxHeartbeats 4000000 in
set_option maxRecDepth 100000 in
theorem c_X2_coloursShown (l : Launch) (G : zG) (σ : St) (a : Nat → Nat) : Met l yX2_coloursShown (wq yX2_coloursShown cX2_coloursShown 4 ((Option.some Jvm.ClassFile.FieldType.int))) (rmR 2 46) (va_Pc [.ref (a 0)] (zK G (hCyc G σ a))) (zQ (some (.int ((bcL (csC σ)))))) 0 0 zF := by
  refine z_enterI (by decide +kernel) (Nat.le_of_ble_eq_true rfl) ?_
  intro p env s m below meth cod Q S hG hP ret ls hl
  have hl : lv_has ls 4 [(0, .ref (a 0))] := hl
  have hC := hP.2.2.2.2.2
  have hT := hC.1
  have hdt := hC.2.1
  have hlm := hC.2.2.1
  have hkn := hC.2.2.2.1
  have hD := hC.2.2.2.2.1
  have hB := hC.2.2.2.2.2
  refine lv_lconst S.1 S.2.1 dX2_coloursShown_0 rfl ?_
  refine lv_lstore_n (lv' := [(1, .long (0)), (0, .ref (a 0))]) S.1 S.2.1 dX2_coloursShown_1 rfl hl (by decide) rfl (fun ls hl => ?_)
  refine z_iconst S dX2_coloursShown_2 ?_
  refine z_istore_n (lv' := [(3, .int (zI (0))), (1, .long (0)), (0, .ref (a 0))]) S dX2_coloursShown_3 hl rfl (by decide) rfl (fun ls hl => ?_)
  have loop_4 : ∀ (nn : Nat) (k : Int) (b : Int64), (0 ≤ k ∧ k ≤ 16) → (b = orL (usB σ) (fun e => bitL (shw σ e σ.tk)) k) → ((16 - k).toNat) < nn → ∀ ls, lv_has ls 4 [(3, .int (zI (k))), (1, .long (b)), (0, .ref (a 0))] → W p l env (rmR 2 46) s m ([.ref (a 0)] : List Value).toArray below meth cod s.heap [] 0 0 Q (F0 m 4 ls []) := by
    intro nn
    induction nn with
    | zero => intro _ _ _ _ h; exact absurd h (Nat.not_lt_zero _)
    | succ nn ih_4 =>
      intro k b hk hb hm_4 ls hl
      refine z_iload_n S dX2_coloursShown_4 hl 0 rfl rfl ?_
      refine z_bipush S dX2_coloursShown_5 rfl ?_
      refine z_icmp_ge S 42 dX2_coloursShown_7 (by decide) (by omega) (by omega) (fun c_7 => ?_) (fun c_7 => ?_)
      · skip
        refine lv_lload_n S.1 S.2.1 dX2_coloursShown_42 rfl (lv_at hl 1 rfl) ?_
        refine z_callSs S hG (c_bitCountL l G (b)) ok_J13_bitCount_95d88 q2_14 (trivial) ⟨rfl, rfl, by decide, by decide⟩ ⟨Nat.zero_le _, Nat.zero_le _⟩ rfl (Nat.le_of_ble_eq_true rfl) hl.1 rfl dX2_coloursShown_43 ?_
        exact ret _ _ _ dX2_coloursShown_46 (by rw [hb, show k = 16 by omega]; rfl)
      · skip
        refine z_aload_n S dX2_coloursShown_10 hl 2 rfl rfl ?_
        refine z_get S hG hP.1 zc_X2 2 (by decide) q1_62 rfl rfl dX2_coloursShown_11 ?_
        refine z_iload_n S dX2_coloursShown_14 hl 0 rfl rfl ?_
        refine z_ialdB S hG hP.2.2.1 (by omega) (by decide) dX2_coloursShown_15 ?_
        have hub := usz_b σ k
        refine z_if_le S 36 dX2_coloursShown_16 (by decide) (by omega) (fun c_16 => ?_) (fun c_16 => ?_)
        · skip
          refine z_iinc (lv' := [(3, .int (zI (k + 1))), (1, .long (b)), (0, .ref (a 0))]) S dX2_coloursShown_36 hl 0 rfl (by decide) rfl (fun ls hl => ?_)
          refine z_goto S 4 dX2_coloursShown_39 (by decide) ?_
          exact ih_4 (k + 1) (b) (by omega) (by rw [orL_s hk.1, if_neg (by unfold usB; simp; omega)]; exact hb) (by omega) ls (lv_sub hl [0, 1, 2] rfl)
        · skip
          refine lv_lload_n S.1 S.2.1 dX2_coloursShown_19 rfl (lv_at hl 1 rfl) ?_
          refine lv_lconst S.1 S.2.1 dX2_coloursShown_20 rfl ?_
          refine z_aload_n S dX2_coloursShown_21 hl 2 rfl rfl ?_
          refine z_get S hG hP.1 zc_X2 0 (by decide) q1_60 rfl rfl dX2_coloursShown_22 ?_
          refine z_iload_n S dX2_coloursShown_25 hl 0 rfl rfl ?_
          refine z_aload_n S dX2_coloursShown_26 hl 2 rfl rfl ?_
          refine z_get S hG hP.1 zc_X2 5 (by decide) q1_65 rfl rfl dX2_coloursShown_27 ?_
          refine z_callVs S hG (c_X0_shows l G σ a (k) (σ.tk) (by omega) (by omega)) ok_X0_shows hP.2.2.2.2.1.1 zc_X0 rfl q1_166 (hP.2.2.2.2.1) ⟨rfl, rfl, by decide, by decide⟩ ⟨Nat.zero_le _, Nat.zero_le _⟩ rfl (Nat.le_of_ble_eq_true rfl) hl.1 rfl dX2_coloursShown_30 ?_
          refine lv_lshl S.1 S.2.1 dX2_coloursShown_33 rfl ?_
          refine lv_lor S.1 S.2.1 dX2_coloursShown_34 ?_
          refine lv_lstore_n (lv' := [(1, .long ((b) ||| ((1) <<< ((shw σ (k) (σ.tk)).toInt64 &&& 63)))), (3, .int (zI (k))), (0, .ref (a 0))]) S.1 S.2.1 dX2_coloursShown_35 rfl hl (by decide) rfl (fun ls hl => ?_)
          refine z_iinc (lv' := [(3, .int (zI (k + 1))), (1, .long ((b) ||| ((1) <<< ((shw σ (k) (σ.tk)).toInt64 &&& 63)))), (0, .ref (a 0))]) S dX2_coloursShown_36 hl 1 rfl (by decide) rfl (fun ls hl => ?_)
          refine z_goto S 4 dX2_coloursShown_39 (by decide) ?_
          exact ih_4 (k + 1) ((b) ||| ((1) <<< ((shw σ (k) (σ.tk)).toInt64 &&& 63))) (by omega) (by rw [orL_s hk.1, if_pos (by unfold usB; simp; omega), hb]; rfl) (by omega) ls (lv_sub hl [0, 1, 2] rfl)
  exact loop_4 _ (0) (0) (by omega) (rfl) (Nat.lt_succ_self _) ls (lv_sub hl [0, 1, 2] rfl)
theorem dX2_showsKept_0 : decode cX2_showsKept 0 = .ok (.iload_n 1, 1) := by decide +kernel
theorem dX2_showsKept_1 : decode cX2_showsKept 1 = .ok (.ifCond .lt 8, 3) := by decide +kernel
theorem dX2_showsKept_4 : decode cX2_showsKept 4 = .ok (.iload_n 1, 1) := by decide +kernel
theorem dX2_showsKept_5 : decode cX2_showsKept 5 = .ok (.iconst 5, 1) := by decide +kernel
theorem dX2_showsKept_6 : decode cX2_showsKept 6 = .ok (.if_icmp .lt 5, 3) := by decide +kernel
theorem dX2_showsKept_9 : decode cX2_showsKept 9 = .ok (.iconst 0, 1) := by decide +kernel
theorem dX2_showsKept_10 : decode cX2_showsKept 10 = .ok (.ireturn, 1) := by decide +kernel
theorem dX2_showsKept_11 : decode cX2_showsKept 11 = .ok (.iload_n 1, 1) := by decide +kernel
theorem dX2_showsKept_12 : decode cX2_showsKept 12 = .ok (.bipush 32, 2) := by decide +kernel
theorem dX2_showsKept_14 : decode cX2_showsKept 14 = .ok (.imul, 1) := by decide +kernel
theorem dX2_showsKept_15 : decode cX2_showsKept 15 = .ok (.istore_n 3, 1) := by decide +kernel
theorem dX2_showsKept_16 : decode cX2_showsKept 16 = .ok (.iconst 0, 1) := by decide +kernel
theorem dX2_showsKept_17 : decode cX2_showsKept 17 = .ok (.istore 4, 2) := by decide +kernel
theorem dX2_showsKept_19 : decode cX2_showsKept 19 = .ok (.iload 4, 2) := by decide +kernel
theorem dX2_showsKept_21 : decode cX2_showsKept 21 = .ok (.bipush 32, 2) := by decide +kernel
theorem dX2_showsKept_23 : decode cX2_showsKept 23 = .ok (.if_icmp .ge 38, 3) := by decide +kernel
theorem dX2_showsKept_26 : decode cX2_showsKept 26 = .ok (.aload_n 0, 1) := by decide +kernel
theorem dX2_showsKept_27 : decode cX2_showsKept 27 = .ok (.getfield 12, 3) := by decide +kernel
theorem dX2_showsKept_30 : decode cX2_showsKept 30 = .ok (.aload_n 0, 1) := by decide +kernel
theorem dX2_showsKept_31 : decode cX2_showsKept 31 = .ok (.getfield 16, 3) := by decide +kernel
theorem dX2_showsKept_34 : decode cX2_showsKept 34 = .ok (.iload 4, 2) := by decide +kernel
theorem dX2_showsKept_36 : decode cX2_showsKept 36 = .ok (.iaload, 1) := by decide +kernel
theorem dX2_showsKept_37 : decode cX2_showsKept 37 = .ok (.iload_n 2, 1) := by decide +kernel
theorem dX2_showsKept_38 : decode cX2_showsKept 38 = .ok (.invokevirtual 146, 3) := by decide +kernel
theorem dX2_showsKept_41 : decode cX2_showsKept 41 = .ok (.aload_n 0, 1) := by decide +kernel
theorem dX2_showsKept_42 : decode cX2_showsKept 42 = .ok (.getfield 23, 3) := by decide +kernel
theorem dX2_showsKept_45 : decode cX2_showsKept 45 = .ok (.iload_n 3, 1) := by decide +kernel
theorem dX2_showsKept_46 : decode cX2_showsKept 46 = .ok (.iload 4, 2) := by decide +kernel
theorem dX2_showsKept_48 : decode cX2_showsKept 48 = .ok (.iadd, 1) := by decide +kernel
theorem dX2_showsKept_49 : decode cX2_showsKept 49 = .ok (.iaload, 1) := by decide +kernel
theorem dX2_showsKept_50 : decode cX2_showsKept 50 = .ok (.if_icmp .eq 5, 3) := by decide +kernel
theorem dX2_showsKept_53 : decode cX2_showsKept 53 = .ok (.iconst 0, 1) := by decide +kernel
theorem dX2_showsKept_54 : decode cX2_showsKept 54 = .ok (.ireturn, 1) := by decide +kernel
theorem dX2_showsKept_55 : decode cX2_showsKept 55 = .ok (.iinc 4 1, 3) := by decide +kernel
theorem dX2_showsKept_58 : decode cX2_showsKept 58 = .ok (.goto (-39), 3) := by decide +kernel
theorem dX2_showsKept_61 : decode cX2_showsKept 61 = .ok (.iconst 1, 1) := by decide +kernel
theorem dX2_showsKept_62 : decode cX2_showsKept 62 = .ok (.ireturn, 1) := by decide +kernel
theorem q1_63 : (Jvm.Cond.fieldLink "Cyclepaint" (23 : Nat) "Cyclepaint" "kept" "[I") ∈ lw_g := zg_of (zin1 (List.mem_of_getElem? (i := 63) rfl)) rfl
theorem q2_65 : (Jvm.Cond.code ({ cls := "Cyclepaint", name := "showsKept", desc := "(II)Z" } : Jvm.MethodName) prog_1_method_52_code (5 : Nat) (Option.some Jvm.ClassFile.FieldType.boolean)) ∈ lw_g := zg_of (zin2 (List.mem_of_getElem? (i := 65) rfl)) rfl
theorem q2_64 : (Jvm.Cond.instanceMethod ({ cls := "Cyclepaint", name := "showsKept", desc := "(II)Z" } : Jvm.MethodName)) ∈ lw_g := zg_of (zin2 (List.mem_of_getElem? (i := 64) rfl)) rfl
theorem qs_16 : Cond.selects "Cyclepaint" (⟨"Cyclepaint", "showsKept", "(II)Z"⟩ : MethodName) (⟨"Cyclepaint", "showsKept", "(II)Z"⟩ : MethodName) ∈ lw_g := zg_of (zinS (List.mem_of_getElem? (i := 16) rfl)) rfl
theorem ok_X2_showsKept : zOV yX2_showsKept cX2_showsKept 5 ((Option.some Jvm.ClassFile.FieldType.boolean)) 2 := ⟨⟨q2_65, q1_1, by decide, by decide, by decide +kernel⟩, q2_64, qs_16⟩
set_option maxHeartbeats 4000000 in
set_option maxRecDepth 100000 in
theorem c_X2_showsKept (l : Launch) (G : zG) (σ : St) (a : Nat → Nat) (n w : Int) (hn : 0 ≤ n ∧ n < 5) (hw : 0 ≤ w ∧ w ≤ 1000000) : Met l yX2_showsKept (wq yX2_showsKept cX2_showsKept 5 ((Option.some Jvm.ClassFile.FieldType.boolean))) (rmR 2 46) (va_Pc [.ref (a 0), .int (zI (n)), .int (zI (w))] (zK G (hCyc G σ a))) (zQ (some (.int (bI (sk σ n w))))) 0 0 zF := by
  refine z_enterB (by decide +kernel) (Nat.le_of_ble_eq_true rfl) ?_
  intro p env s m below meth cod Q S hG hP ret ls hl
  have hl : lv_has ls 5 [(0, .ref (a 0)), (1, .int (zI (n))), (2, .int (zI (w)))] := hl
  have hC := hP.2.2.2.2.2
  have hT := hC.1
  have hdt := hC.2.1
  have hlm := hC.2.2.1
  have hkn := hC.2.2.2.1
  have hD := hC.2.2.2.2.1
  have hB := hC.2.2.2.2.2
  refine z_iload_n S dX2_showsKept_0 hl 1 rfl rfl ?_
  refine z_if_lt_F S 9 dX2_showsKept_1 (by decide) (by omega) (by omega) ?_
  refine z_iload_n S dX2_showsKept_4 hl 1 rfl rfl ?_
  refine z_iconst S dX2_showsKept_5 ?_
  refine z_icmp_lt_T S 11 dX2_showsKept_6 (by decide) (by omega) (by omega) (by omega) ?_
  refine z_iload_n S dX2_showsKept_11 hl 1 rfl rfl ?_
  refine z_bipush S dX2_showsKept_12 rfl ?_
  refine z_imul S dX2_showsKept_14 ?_
  refine z_istore_n (lv' := [(3, .int (zI ((n) * (32)))), (0, .ref (a 0)), (1, .int (zI (n))), (2, .int (zI (w)))]) S dX2_showsKept_15 hl rfl (by decide) rfl (fun ls hl => ?_)
  refine z_iconst S dX2_showsKept_16 ?_
  refine z_istore (lv' := [(4, .int (zI (0))), (3, .int (zI ((n) * (32)))), (0, .ref (a 0)), (1, .int (zI (n))), (2, .int (zI (w)))]) S dX2_showsKept_17 hl (by decide) rfl (fun ls hl => ?_)
  have loop_19 : ∀ (nn : Nat) (k : Int), (0 ≤ k ∧ k ≤ 32) → (∀ t : Int, 0 ≤ t → t < k → skB σ n w t = true) → ((32 - k).toNat) < nn → ∀ ls, lv_has ls 5 [(4, .int (zI (k))), (3, .int (zI ((n) * (32)))), (0, .ref (a 0)), (1, .int (zI (n))), (2, .int (zI (w)))] → W p l env (rmR 2 46) s m ([.ref (a 0), .int (zI (n)), .int (zI (w))] : List Value).toArray below meth cod s.heap [] 0 0 Q (F0 m 19 ls []) := by
    intro nn
    induction nn with
    | zero => intro _ _ _ h; exact absurd h (Nat.not_lt_zero _)
    | succ nn ih_19 =>
      intro k hk hI hm_19 ls hl
      refine z_iload S dX2_showsKept_19 hl 0 rfl ?_
      refine z_bipush S dX2_showsKept_21 rfl ?_
      refine z_icmp_ge S 61 dX2_showsKept_23 (by decide) (by omega) (by omega) (fun c_23 => ?_) (fun c_23 => ?_)
      · skip
        refine z_iconst S dX2_showsKept_61 ?_
        exact ret _ _ _ dX2_showsKept_62 (by rw [show sk σ n w = true from allI_iff.mpr (fun t h0 h1 => hI t h0 (by omega))]; rfl)
      · skip
        have hdt0 := hdt k hk.1 (by omega)
        refine z_aload_n S dX2_showsKept_26 hl 2 rfl rfl ?_
        refine z_get S hG hP.1 zc_X2 0 (by decide) q1_60 rfl rfl dX2_showsKept_27 ?_
        refine z_aload_n S dX2_showsKept_30 hl 2 rfl rfl ?_
        refine z_get S hG hP.1 zc_X2 1 (by decide) q1_61 rfl rfl dX2_showsKept_31 ?_
        refine z_iload S dX2_showsKept_34 hl 0 rfl ?_
        refine z_ialdB S hG hP.2.1 (by omega) (by decide) dX2_showsKept_36 ?_
        refine z_iload_n S dX2_showsKept_37 hl 4 rfl rfl ?_
        refine z_callVs S hG (c_X0_shows l G σ a (σ.Dt (k)) (w) (by omega) (by omega)) ok_X0_shows hP.2.2.2.2.1.1 zc_X0 rfl q1_166 (hP.2.2.2.2.1) ⟨rfl, rfl, by decide, by decide⟩ ⟨Nat.zero_le _, Nat.zero_le _⟩ rfl (Nat.le_of_ble_eq_true rfl) hl.1 rfl dX2_showsKept_38 ?_
        refine z_aload_n S dX2_showsKept_41 hl 2 rfl rfl ?_
        refine z_get S hG hP.1 zc_X2 3 (by decide) q1_63 rfl rfl dX2_showsKept_42 ?_
        refine z_iload_n S dX2_showsKept_45 hl 1 rfl rfl ?_
        refine z_iload S dX2_showsKept_46 hl 0 rfl ?_
        refine z_iadd S dX2_showsKept_48 ?_
        refine z_iald S hG hP.2.2.2.1 (by omega) (by decide) dX2_showsKept_49 ?_
        refine lv_icmp_eq (tgt := 55) S.1 S.2.1 dX2_showsKept_50 (by decide) (fun c_50 => ?_) (fun c_50 => ?_)
        · skip
          refine z_iinc (lv' := [(4, .int (zI (k + 1))), (3, .int (zI ((n) * (32)))), (0, .ref (a 0)), (1, .int (zI (n))), (2, .int (zI (w)))]) S dX2_showsKept_55 hl 0 rfl (by decide) rfl (fun ls hl => ?_)
          refine z_goto S 19 dX2_showsKept_58 (by decide) ?_
          exact ih_19 (k + 1) (by omega) (lt_stp hI (by unfold skB; rw [show kpz σ (n * 32 + k) = σ.KP n k from by unfold kpz; rw [show (n * 32 + k) / 32 = n by omega, show (n * 32 + k) % 32 = k by omega]] at c_50; simp [c_50])) (by omega) ls (lv_sub hl [0, 1, 2, 3, 4] rfl)
        · skip
          refine z_iconst S dX2_showsKept_53 ?_
          exact ret _ _ _ dX2_showsKept_54 (by rw [show kpz σ (n * 32 + k) = σ.KP n k from by unfold kpz; rw [show (n * 32 + k) / 32 = n by omega, show (n * 32 + k) % 32 = k by omega]] at c_50; rw [show sk σ n w = false from allI_no hk.1 (show k < 32 by omega) (by unfold skB; simp [c_50])]; rfl)
  exact loop_19 _ (0) (by omega) (lt_st0) (Nat.lt_succ_self _) ls (lv_sub hl [0, 1, 2, 3, 4] rfl)
theorem dX2_ticksUntil_0 : decode cX2_ticksUntil 0 = .ok (.iconst 0, 1) := by decide +kernel
theorem dX2_ticksUntil_1 : decode cX2_ticksUntil 1 = .ok (.istore_n 2, 1) := by decide +kernel
theorem dX2_ticksUntil_2 : decode cX2_ticksUntil 2 = .ok (.iload_n 2, 1) := by decide +kernel
theorem dX2_ticksUntil_3 : decode cX2_ticksUntil 3 = .ok (.sipush 400, 3) := by decide +kernel
theorem dX2_ticksUntil_6 : decode cX2_ticksUntil 6 = .ok (.if_icmp .gt 25, 3) := by decide +kernel
theorem dX2_ticksUntil_9 : decode cX2_ticksUntil 9 = .ok (.aload_n 0, 1) := by decide +kernel
theorem dX2_ticksUntil_10 : decode cX2_ticksUntil 10 = .ok (.iload_n 1, 1) := by decide +kernel
theorem dX2_ticksUntil_11 : decode cX2_ticksUntil 11 = .ok (.aload_n 0, 1) := by decide +kernel
theorem dX2_ticksUntil_12 : decode cX2_ticksUntil 12 = .ok (.getfield 30, 3) := by decide +kernel
theorem dX2_ticksUntil_15 : decode cX2_ticksUntil 15 = .ok (.iload_n 2, 1) := by decide +kernel
theorem dX2_ticksUntil_16 : decode cX2_ticksUntil 16 = .ok (.iadd, 1) := by decide +kernel
theorem dX2_ticksUntil_17 : decode cX2_ticksUntil 17 = .ok (.invokevirtual 298, 3) := by decide +kernel
theorem dX2_ticksUntil_20 : decode cX2_ticksUntil 20 = .ok (.ifCond .eq 5, 3) := by decide +kernel
theorem dX2_ticksUntil_23 : decode cX2_ticksUntil 23 = .ok (.iload_n 2, 1) := by decide +kernel
theorem dX2_ticksUntil_24 : decode cX2_ticksUntil 24 = .ok (.ireturn, 1) := by decide +kernel
theorem dX2_ticksUntil_25 : decode cX2_ticksUntil 25 = .ok (.iinc 2 1, 3) := by decide +kernel
theorem dX2_ticksUntil_28 : decode cX2_ticksUntil 28 = .ok (.goto (-26), 3) := by decide +kernel
theorem dX2_ticksUntil_31 : decode cX2_ticksUntil 31 = .ok (.iconst (-1), 1) := by decide +kernel
theorem dX2_ticksUntil_32 : decode cX2_ticksUntil 32 = .ok (.ireturn, 1) := by decide +kernel
theorem q2_62 : (Jvm.Cond.methodLink "Cyclepaint" (298 : Nat) ({ cls := "Cyclepaint", name := "showsKept", desc := "(II)Z" } : Jvm.MethodName)) ∈ lw_g := zg_of (zin2 (List.mem_of_getElem? (i := 62) rfl)) rfl
theorem q2_61 : (Jvm.Cond.code ({ cls := "Cyclepaint", name := "ticksUntil", desc := "(I)I" } : Jvm.MethodName) prog_1_method_51_code (3 : Nat) (Option.some Jvm.ClassFile.FieldType.int)) ∈ lw_g := zg_of (zin2 (List.mem_of_getElem? (i := 61) rfl)) rfl
theorem q2_60 : (Jvm.Cond.instanceMethod ({ cls := "Cyclepaint", name := "ticksUntil", desc := "(I)I" } : Jvm.MethodName)) ∈ lw_g := zg_of (zin2 (List.mem_of_getElem? (i := 60) rfl)) rfl
theorem qs_15 : Cond.selects "Cyclepaint" (⟨"Cyclepaint", "ticksUntil", "(I)I"⟩ : MethodName) (⟨"Cyclepaint", "ticksUntil", "(I)I"⟩ : MethodName) ∈ lw_g := zg_of (zinS (List.mem_of_getElem? (i := 15) rfl)) rfl
theorem ok_X2_ticksUntil : zOV yX2_ticksUntil cX2_ticksUntil 3 ((Option.some Jvm.ClassFile.FieldType.int)) 1 := ⟨⟨q2_61, q1_1, by decide, by decide, by decide +kernel⟩, q2_60, qs_15⟩
set_option maxHeartbeats 4000000 in
set_option maxRecDepth 100000 in
theorem c_X2_ticksUntil (l : Launch) (G : zG) (σ : St) (a : Nat → Nat) (n : Int) (hn : 0 ≤ n ∧ n < 5) : Met l yX2_ticksUntil (wq yX2_ticksUntil cX2_ticksUntil 3 ((Option.some Jvm.ClassFile.FieldType.int))) (rmR 3 70) (va_Pc [.ref (a 0), .int (zI (n))] (zK G (hCyc G σ a))) (zQ (some (.int ((zI (whn σ n)))))) 0 0 zF := by
  refine z_enterI (by decide +kernel) (Nat.le_of_ble_eq_true rfl) ?_
  intro p env s m below meth cod Q S hG hP ret ls hl
  have hl : lv_has ls 3 [(0, .ref (a 0)), (1, .int (zI (n)))] := hl
  have hC := hP.2.2.2.2.2
  have hT := hC.1
  have hdt := hC.2.1
  have hlm := hC.2.2.1
  have hkn := hC.2.2.2.1
  have hD := hC.2.2.2.2.1
  have hB := hC.2.2.2.2.2
  refine z_iconst S dX2_ticksUntil_0 ?_
  refine z_istore_n (lv' := [(2, .int (zI (0))), (0, .ref (a 0)), (1, .int (zI (n)))]) S dX2_ticksUntil_1 hl rfl (by decide) rfl (fun ls hl => ?_)
  have loop_2 : ∀ (nn : Nat) (k : Int), (0 ≤ k ∧ k ≤ 401) → (∀ t : Int, 0 ≤ t → t < k → (fun t => sk σ n (σ.tk + t)) t = false) → ((401 - k).toNat) < nn → ∀ ls, lv_has ls 3 [(2, .int (zI (k))), (0, .ref (a 0)), (1, .int (zI (n)))] → W p l env (rmR 3 70) s m ([.ref (a 0), .int (zI (n))] : List Value).toArray below meth cod s.heap [] 0 0 Q (F0 m 2 ls []) := by
    intro nn
    induction nn with
    | zero => intro _ _ _ h; exact absurd h (Nat.not_lt_zero _)
    | succ nn ih_2 =>
      intro k hk hI hm_2 ls hl
      refine z_iload_n S dX2_ticksUntil_2 hl 0 rfl rfl ?_
      refine z_sipush S dX2_ticksUntil_3 rfl ?_
      refine z_icmp_gt S 31 dX2_ticksUntil_6 (by decide) (by omega) (by omega) (fun c_6 => ?_) (fun c_6 => ?_)
      · skip
        refine z_iconst S dX2_ticksUntil_31 ?_
        exact ret _ _ _ dX2_ticksUntil_32 (by unfold whn; rw [fstI_none (f := fun t => sk σ n (σ.tk + t)) (fun t h0 h1 => hI t h0 (by omega))])
      · skip
        refine z_aload_n S dX2_ticksUntil_9 hl 1 rfl rfl ?_
        refine z_iload_n S dX2_ticksUntil_10 hl 2 rfl rfl ?_
        refine z_aload_n S dX2_ticksUntil_11 hl 1 rfl rfl ?_
        refine z_get S hG hP.1 zc_X2 5 (by decide) q1_65 rfl rfl dX2_ticksUntil_12 ?_
        refine z_iload_n S dX2_ticksUntil_15 hl 0 rfl rfl ?_
        refine z_iadd S dX2_ticksUntil_16 ?_
        refine z_callVs S hG (c_X2_showsKept l G σ a (n) ((σ.tk) + (k)) (by omega) (by omega)) ok_X2_showsKept hP.1 zc_X2 rfl q2_62 (hP) ⟨rfl, rfl, by decide, by decide⟩ ⟨Nat.zero_le _, Nat.zero_le _⟩ rfl (Nat.le_of_ble_eq_true rfl) hl.1 rfl dX2_ticksUntil_17 ?_
        refine z_bif_eq S 25 dX2_ticksUntil_20 (by decide) (fun c_20 => ?_) (fun c_20 => ?_)
        · skip
          refine z_iinc (lv' := [(2, .int (zI (k + 1))), (0, .ref (a 0)), (1, .int (zI (n)))]) S dX2_ticksUntil_25 hl 0 rfl (by decide) rfl (fun ls hl => ?_)
          refine z_goto S 2 dX2_ticksUntil_28 (by decide) ?_
          exact ih_2 (k + 1) (by omega) (lt_stp hI (c_20)) (by omega) ls (lv_sub hl [0, 1, 2] rfl)
        · skip
          refine z_iload_n S dX2_ticksUntil_23 hl 0 rfl rfl ?_
          exact ret _ _ _ dX2_ticksUntil_24 (by unfold whn; rw [fstI_some (f := fun t => sk σ n (σ.tk + t)) hk.1 (by omega) hI c_20])
  exact loop_2 _ (0) (by omega) (lt_st0) (Nat.lt_succ_self _) ls (lv_sub hl [0, 1, 2] rfl)
theorem dX2_lightestTick_0 : decode cX2_lightestTick 0 = .ok (.aload_n 0, 1) := by decide +kernel
theorem dX2_lightestTick_1 : decode cX2_lightestTick 1 = .ok (.getfield 30, 3) := by decide +kernel
theorem dX2_lightestTick_4 : decode cX2_lightestTick 4 = .ok (.istore_n 2, 1) := by decide +kernel
theorem dX2_lightestTick_5 : decode cX2_lightestTick 5 = .ok (.aload_n 0, 1) := by decide +kernel
theorem dX2_lightestTick_6 : decode cX2_lightestTick 6 = .ok (.aload_n 0, 1) := by decide +kernel
theorem dX2_lightestTick_7 : decode cX2_lightestTick 7 = .ok (.getfield 30, 3) := by decide +kernel
theorem dX2_lightestTick_10 : decode cX2_lightestTick 10 = .ok (.invokevirtual 199, 3) := by decide +kernel
theorem dX2_lightestTick_13 : decode cX2_lightestTick 13 = .ok (.istore_n 3, 1) := by decide +kernel
theorem dX2_lightestTick_14 : decode cX2_lightestTick 14 = .ok (.iconst 1, 1) := by decide +kernel
theorem dX2_lightestTick_15 : decode cX2_lightestTick 15 = .ok (.istore 4, 2) := by decide +kernel
theorem dX2_lightestTick_17 : decode cX2_lightestTick 17 = .ok (.iload 4, 2) := by decide +kernel
theorem dX2_lightestTick_19 : decode cX2_lightestTick 19 = .ok (.iload_n 1, 1) := by decide +kernel
theorem dX2_lightestTick_20 : decode cX2_lightestTick 20 = .ok (.if_icmp .ge 39, 3) := by decide +kernel
theorem dX2_lightestTick_23 : decode cX2_lightestTick 23 = .ok (.aload_n 0, 1) := by decide +kernel
theorem dX2_lightestTick_24 : decode cX2_lightestTick 24 = .ok (.aload_n 0, 1) := by decide +kernel
theorem dX2_lightestTick_25 : decode cX2_lightestTick 25 = .ok (.getfield 30, 3) := by decide +kernel
theorem dX2_lightestTick_28 : decode cX2_lightestTick 28 = .ok (.iload 4, 2) := by decide +kernel
theorem dX2_lightestTick_30 : decode cX2_lightestTick 30 = .ok (.iadd, 1) := by decide +kernel
theorem dX2_lightestTick_31 : decode cX2_lightestTick 31 = .ok (.invokevirtual 199, 3) := by decide +kernel
theorem dX2_lightestTick_34 : decode cX2_lightestTick 34 = .ok (.istore 5, 2) := by decide +kernel
theorem dX2_lightestTick_36 : decode cX2_lightestTick 36 = .ok (.iload 5, 2) := by decide +kernel
theorem dX2_lightestTick_38 : decode cX2_lightestTick 38 = .ok (.iload_n 3, 1) := by decide +kernel
theorem dX2_lightestTick_39 : decode cX2_lightestTick 39 = .ok (.if_icmp .le 14, 3) := by decide +kernel
theorem dX2_lightestTick_42 : decode cX2_lightestTick 42 = .ok (.iload 5, 2) := by decide +kernel
theorem dX2_lightestTick_44 : decode cX2_lightestTick 44 = .ok (.istore_n 3, 1) := by decide +kernel
theorem dX2_lightestTick_45 : decode cX2_lightestTick 45 = .ok (.aload_n 0, 1) := by decide +kernel
theorem dX2_lightestTick_46 : decode cX2_lightestTick 46 = .ok (.getfield 30, 3) := by decide +kernel
theorem dX2_lightestTick_49 : decode cX2_lightestTick 49 = .ok (.iload 4, 2) := by decide +kernel
theorem dX2_lightestTick_51 : decode cX2_lightestTick 51 = .ok (.iadd, 1) := by decide +kernel
theorem dX2_lightestTick_52 : decode cX2_lightestTick 52 = .ok (.istore_n 2, 1) := by decide +kernel
theorem dX2_lightestTick_53 : decode cX2_lightestTick 53 = .ok (.iinc 4 1, 3) := by decide +kernel
theorem dX2_lightestTick_56 : decode cX2_lightestTick 56 = .ok (.goto (-39), 3) := by decide +kernel
theorem dX2_lightestTick_59 : decode cX2_lightestTick 59 = .ok (.iload_n 2, 1) := by decide +kernel
theorem dX2_lightestTick_60 : decode cX2_lightestTick 60 = .ok (.ireturn, 1) := by decide +kernel
theorem q1_162 : (Jvm.Cond.methodLink "Cyclepaint" (199 : Nat) ({ cls := "Cyclepaint", name := "lightAt", desc := "(I)I" } : Jvm.MethodName)) ∈ lw_g := zg_of (zin1 (List.mem_of_getElem? (i := 162) rfl)) rfl
theorem q2_69 : (Jvm.Cond.code ({ cls := "Cyclepaint", name := "lightestTick", desc := "(I)I" } : Jvm.MethodName) prog_1_method_53_code (6 : Nat) (Option.some Jvm.ClassFile.FieldType.int)) ∈ lw_g := zg_of (zin2 (List.mem_of_getElem? (i := 69) rfl)) rfl
theorem q2_68 : (Jvm.Cond.instanceMethod ({ cls := "Cyclepaint", name := "lightestTick", desc := "(I)I" } : Jvm.MethodName)) ∈ lw_g := zg_of (zin2 (List.mem_of_getElem? (i := 68) rfl)) rfl
theorem qs_17 : Cond.selects "Cyclepaint" (⟨"Cyclepaint", "lightestTick", "(I)I"⟩ : MethodName) (⟨"Cyclepaint", "lightestTick", "(I)I"⟩ : MethodName) ∈ lw_g := zg_of (zinS (List.mem_of_getElem? (i := 17) rfl)) rfl
theorem ok_X2_lightestTick : zOV yX2_lightestTick cX2_lightestTick 6 ((Option.some Jvm.ClassFile.FieldType.int)) 1 := ⟨⟨q2_69, q1_1, by decide, by decide, by decide +kernel⟩, q2_68, qs_17⟩
set_option maxHeartbeats 4000000 in
set_option maxRecDepth 100000 in
theorem c_X2_lightestTick (l : Launch) (G : zG) (σ : St) (a : Nat → Nat) (n : Int) (hn : 1 ≤ n ∧ n ≤ 200) : Met l yX2_lightestTick (wq yX2_lightestTick cX2_lightestTick 6 ((Option.some Jvm.ClassFile.FieldType.int))) (rmR 3 69) (va_Pc [.ref (a 0), .int (zI (n))] (zK G (hCyc G σ a))) (zQ (some (.int ((zI (ltC σ n)))))) 0 0 zF := by
  refine z_enterI (by decide +kernel) (Nat.le_of_ble_eq_true rfl) ?_
  intro p env s m below meth cod Q S hG hP ret ls hl
  have hl : lv_has ls 6 [(0, .ref (a 0)), (1, .int (zI (n)))] := hl
  have hC := hP.2.2.2.2.2
  have hT := hC.1
  have hdt := hC.2.1
  have hlm := hC.2.2.1
  have hkn := hC.2.2.2.1
  have hD := hC.2.2.2.2.1
  have hB := hC.2.2.2.2.2
  refine z_aload_n S dX2_lightestTick_0 hl 0 rfl rfl ?_
  refine z_get S hG hP.1 zc_X2 5 (by decide) q1_65 rfl rfl dX2_lightestTick_1 ?_
  refine z_istore_n (lv' := [(2, .int (zI (σ.tk))), (0, .ref (a 0)), (1, .int (zI (n)))]) S dX2_lightestTick_4 hl rfl (by decide) rfl (fun ls hl => ?_)
  refine z_aload_n S dX2_lightestTick_5 hl 1 rfl rfl ?_
  refine z_aload_n S dX2_lightestTick_6 hl 1 rfl rfl ?_
  refine z_get S hG hP.1 zc_X2 5 (by decide) q1_65 rfl rfl dX2_lightestTick_7 ?_
  refine z_callVs S hG (c_X2_lightAt l G σ a (σ.tk) (by omega)) ok_X2_lightAt hP.1 zc_X2 rfl q1_162 (hP) ⟨rfl, rfl, by decide, by decide⟩ ⟨Nat.zero_le _, Nat.zero_le _⟩ rfl (Nat.le_of_ble_eq_true rfl) hl.1 rfl dX2_lightestTick_10 ?_
  refine z_istore_n (lv' := [(3, .int (liC σ (σ.tk))), (2, .int (zI (σ.tk))), (0, .ref (a 0)), (1, .int (zI (n)))]) S dX2_lightestTick_13 hl rfl (by decide) rfl (fun ls hl => ?_)
  refine z_iconst S dX2_lightestTick_14 ?_
  refine z_istore (lv' := [(4, .int (zI (1))), (3, .int (liC σ (σ.tk))), (2, .int (zI (σ.tk))), (0, .ref (a 0)), (1, .int (zI (n)))]) S dX2_lightestTick_15 hl (by decide) rfl (fun ls hl => ?_)
  have loop_17 : ∀ (nn : Nat) (k : Int) (b : Int) (mx : Int32), (1 ≤ k ∧ k ≤ n) → (b = (ltF σ (k - 1).toNat).1 ∧ mx = (ltF σ (k - 1).toNat).2) → ((n - k).toNat) < nn → ∀ ls, lv_has ls 6 [(4, .int (zI (k))), (3, .int (mx)), (2, .int (zI (b))), (0, .ref (a 0)), (1, .int (zI (n)))] → W p l env (rmR 3 69) s m ([.ref (a 0), .int (zI (n))] : List Value).toArray below meth cod s.heap [] 0 0 Q (F0 m 17 ls []) := by
    intro nn
    induction nn with
    | zero => intro _ _ _ _ _ h; exact absurd h (Nat.not_lt_zero _)
    | succ nn ih_17 =>
      intro k b mx hk hm hm_17 ls hl
      refine z_iload S dX2_lightestTick_17 hl 0 rfl ?_
      refine z_iload_n S dX2_lightestTick_19 hl 4 rfl rfl ?_
      refine z_icmp_ge S 59 dX2_lightestTick_20 (by decide) (by omega) (by omega) (fun c_20 => ?_) (fun c_20 => ?_)
      · skip
        refine z_iload_n S dX2_lightestTick_59 hl 2 rfl rfl ?_
        exact ret _ _ _ dX2_lightestTick_60 (by rw [hm.1, show k = n by omega]; rfl)
      · skip
        refine z_aload_n S dX2_lightestTick_23 hl 3 rfl rfl ?_
        refine z_aload_n S dX2_lightestTick_24 hl 3 rfl rfl ?_
        refine z_get S hG hP.1 zc_X2 5 (by decide) q1_65 rfl rfl dX2_lightestTick_25 ?_
        refine z_iload S dX2_lightestTick_28 hl 0 rfl ?_
        refine z_iadd S dX2_lightestTick_30 ?_
        refine z_callVs S hG (c_X2_lightAt l G σ a ((σ.tk) + (k)) (by omega)) ok_X2_lightAt hP.1 zc_X2 rfl q1_162 (hP) ⟨rfl, rfl, by decide, by decide⟩ ⟨Nat.zero_le _, Nat.zero_le _⟩ rfl (Nat.le_of_ble_eq_true rfl) hl.1 rfl dX2_lightestTick_31 ?_
        refine z_istore (lv' := [(5, .int (liC σ ((σ.tk) + (k)))), (4, .int (zI (k))), (3, .int (mx)), (2, .int (zI (b))), (0, .ref (a 0)), (1, .int (zI (n)))]) S dX2_lightestTick_34 hl (by decide) rfl (fun ls hl => ?_)
        refine z_iload S dX2_lightestTick_36 hl 0 rfl ?_
        refine z_iload_n S dX2_lightestTick_38 hl 2 rfl rfl ?_
        refine lv_icmp_le (tgt := 53) S.1 S.2.1 dX2_lightestTick_39 (by decide) (fun c_39 => ?_) (fun c_39 => ?_)
        · skip
          refine z_iinc (lv' := [(4, .int (zI (k + 1))), (5, .int (liC σ ((σ.tk) + (k)))), (3, .int (mx)), (2, .int (zI (b))), (0, .ref (a 0)), (1, .int (zI (n)))]) S dX2_lightestTick_53 hl 1 rfl (by decide) rfl (fun ls hl => ?_)
          refine z_goto S 17 dX2_lightestTick_56 (by decide) ?_
          exact ih_17 (k + 1) (b) (mx) (by omega) (by rw [show (k + 1 - 1).toNat = (k - 1).toNat + 1 by omega, ltF, show ((((k - 1).toNat : Nat) : Int) + 1) = k by omega, if_neg (by rw [← hm.2]; exact Int32.not_lt.mpr c_39)]; exact hm) (by omega) ls (lv_sub hl [0, 2, 3, 4, 5] rfl)
        · skip
          refine z_iload S dX2_lightestTick_42 hl 0 rfl ?_
          refine z_istore_n (lv' := [(3, .int (liC σ ((σ.tk) + (k)))), (5, .int (liC σ ((σ.tk) + (k)))), (4, .int (zI (k))), (2, .int (zI (b))), (0, .ref (a 0)), (1, .int (zI (n)))]) S dX2_lightestTick_44 hl rfl (by decide) rfl (fun ls hl => ?_)
          refine z_aload_n S dX2_lightestTick_45 hl 4 rfl rfl ?_
          refine z_get S hG hP.1 zc_X2 5 (by decide) q1_65 rfl rfl dX2_lightestTick_46 ?_
          refine z_iload S dX2_lightestTick_49 hl 2 rfl ?_
          refine z_iadd S dX2_lightestTick_51 ?_
          refine z_istore_n (lv' := [(2, .int (zI ((σ.tk) + (k)))), (3, .int (liC σ ((σ.tk) + (k)))), (5, .int (liC σ ((σ.tk) + (k)))), (4, .int (zI (k))), (0, .ref (a 0)), (1, .int (zI (n)))]) S dX2_lightestTick_52 hl rfl (by decide) rfl (fun ls hl => ?_)
          refine z_iinc (lv' := [(4, .int (zI (k + 1))), (2, .int (zI ((σ.tk) + (k)))), (3, .int (liC σ ((σ.tk) + (k)))), (5, .int (liC σ ((σ.tk) + (k)))), (0, .ref (a 0)), (1, .int (zI (n)))]) S dX2_lightestTick_53 hl 3 rfl (by decide) rfl (fun ls hl => ?_)
          refine z_goto S 17 dX2_lightestTick_56 (by decide) ?_
          exact ih_17 (k + 1) ((σ.tk) + (k)) (liC σ ((σ.tk) + (k))) (by omega) (by rw [show (k + 1 - 1).toNat = (k - 1).toNat + 1 by omega, ltF, show ((((k - 1).toNat : Nat) : Int) + 1) = k by omega, if_pos (by rw [← hm.2]; exact Int32.not_le.mp c_39)]; exact ⟨rfl, rfl⟩) (by omega) ls (lv_sub hl [0, 2, 1, 4, 5] rfl)
  exact loop_17 _ (1) (σ.tk) (liC σ (σ.tk)) (by omega) (⟨rfl, rfl⟩) (Nat.lt_succ_self _) ls (lv_sub hl [0, 1, 2, 3, 4] rfl)
theorem dX2_dotFact_0 : decode cX2_dotFact 0 = .ok (.iload_n 2, 1) := by decide +kernel
theorem dX2_dotFact_1 : decode cX2_dotFact 1 = .ok (.tableswitch 48 0 2 #[27, 33, 39], 27) := by decide +kernel
theorem dX2_dotFact_28 : decode cX2_dotFact 28 = .ok (.aload_n 0, 1) := by decide +kernel
theorem dX2_dotFact_29 : decode cX2_dotFact 29 = .ok (.iload_n 1, 1) := by decide +kernel
theorem dX2_dotFact_30 : decode cX2_dotFact 30 = .ok (.invokevirtual 256, 3) := by decide +kernel
theorem dX2_dotFact_33 : decode cX2_dotFact 33 = .ok (.ireturn, 1) := by decide +kernel
theorem dX2_dotFact_34 : decode cX2_dotFact 34 = .ok (.aload_n 0, 1) := by decide +kernel
theorem dX2_dotFact_35 : decode cX2_dotFact 35 = .ok (.iload_n 1, 1) := by decide +kernel
theorem dX2_dotFact_36 : decode cX2_dotFact 36 = .ok (.invokevirtual 189, 3) := by decide +kernel
theorem dX2_dotFact_39 : decode cX2_dotFact 39 = .ok (.ireturn, 1) := by decide +kernel
theorem dX2_dotFact_40 : decode cX2_dotFact 40 = .ok (.aload_n 0, 1) := by decide +kernel
theorem dX2_dotFact_41 : decode cX2_dotFact 41 = .ok (.iload_n 1, 1) := by decide +kernel
theorem dX2_dotFact_42 : decode cX2_dotFact 42 = .ok (.invokevirtual 189, 3) := by decide +kernel
theorem dX2_dotFact_45 : decode cX2_dotFact 45 = .ok (.invokestatic 259, 3) := by decide +kernel
theorem dX2_dotFact_48 : decode cX2_dotFact 48 = .ok (.ireturn, 1) := by decide +kernel
theorem dX2_dotFact_49 : decode cX2_dotFact 49 = .ok (.aload_n 0, 1) := by decide +kernel
theorem dX2_dotFact_50 : decode cX2_dotFact 50 = .ok (.getfield 12, 3) := by decide +kernel
theorem dX2_dotFact_53 : decode cX2_dotFact 53 = .ok (.aload_n 0, 1) := by decide +kernel
theorem dX2_dotFact_54 : decode cX2_dotFact 54 = .ok (.iload_n 1, 1) := by decide +kernel
theorem dX2_dotFact_55 : decode cX2_dotFact 55 = .ok (.invokevirtual 256, 3) := by decide +kernel
theorem dX2_dotFact_58 : decode cX2_dotFact 58 = .ok (.aload_n 0, 1) := by decide +kernel
theorem dX2_dotFact_59 : decode cX2_dotFact 59 = .ok (.getfield 30, 3) := by decide +kernel
theorem dX2_dotFact_62 : decode cX2_dotFact 62 = .ok (.bipush 30, 2) := by decide +kernel
theorem dX2_dotFact_64 : decode cX2_dotFact 64 = .ok (.invokevirtual 135, 3) := by decide +kernel
theorem dX2_dotFact_67 : decode cX2_dotFact 67 = .ok (.ireturn, 1) := by decide +kernel
theorem q2_49 : (Jvm.Cond.code ({ cls := "Cyclepaint", name := "dotFact", desc := "(II)I" } : Jvm.MethodName) prog_1_method_41_code (3 : Nat) (Option.some Jvm.ClassFile.FieldType.int)) ∈ lw_g := zg_of (zin2 (List.mem_of_getElem? (i := 49) rfl)) rfl
theorem q2_48 : (Jvm.Cond.instanceMethod ({ cls := "Cyclepaint", name := "dotFact", desc := "(II)I" } : Jvm.MethodName)) ∈ lw_g := zg_of (zin2 (List.mem_of_getElem? (i := 48) rfl)) rfl
theorem qs_14 : Cond.selects "Cyclepaint" (⟨"Cyclepaint", "dotFact", "(II)I"⟩ : MethodName) (⟨"Cyclepaint", "dotFact", "(II)I"⟩ : MethodName) ∈ lw_g := zg_of (zinS (List.mem_of_getElem? (i := 14) rfl)) rfl
theorem ok_X2_dotFact : zOV yX2_dotFact cX2_dotFact 3 ((Option.some Jvm.ClassFile.FieldType.int)) 2 := ⟨⟨q2_49, q1_1, by decide, by decide, by decide +kernel⟩, q2_48, qs_14⟩
set_option maxHeartbeats 4000000 in
set_option maxRecDepth 100000 in
theorem c_X2_dotFact (l : Launch) (G : zG) (σ : St) (a : Nat → Nat) (d wh : Int) (hd : 0 ≤ d ∧ d < 32) (hw : 0 ≤ wh ∧ wh ≤ 3) : Met l yX2_dotFact (wq yX2_dotFact cX2_dotFact 3 ((Option.some Jvm.ClassFile.FieldType.int))) (rmR 3 73) (va_Pc [.ref (a 0), .int (zI (d)), .int (zI (wh))] (zK G (hCyc G σ a))) (zQ (some (.int ((dF σ d wh))))) 0 0 zF := by
  refine z_enterI (by decide +kernel) (Nat.le_of_ble_eq_true rfl) ?_
  intro p env s m below meth cod Q S hG hP ret ls hl
  have hl : lv_has ls 3 [(0, .ref (a 0)), (1, .int (zI (d))), (2, .int (zI (wh)))] := hl
  have hC := hP.2.2.2.2.2
  have hT := hC.1
  have hdt := hC.2.1
  have hlm := hC.2.2.1
  have hkn := hC.2.2.2.1
  have hD := hC.2.2.2.2.1
  have hB := hC.2.2.2.2.2
  have hdt0 := hdt d hd.1 hd.2
  rcases (show wh = 0 ∨ wh = 1 ∨ wh = 2 ∨ wh = 3 by omega) with rfl | rfl | rfl | rfl
  · skip
    refine z_iload_n S dX2_dotFact_0 hl 2 rfl rfl ?_
    refine lv_tableIn (tgt := 28) S.1 S.2.1 dX2_dotFact_1 (by decide) (by decide) rfl (by decide) ?_
    refine z_aload_n S dX2_dotFact_28 hl 0 rfl rfl ?_
    refine z_iload_n S dX2_dotFact_29 hl 1 rfl rfl ?_
    refine z_callVs S hG (c_X2_entryOf l G σ a (d) (by omega)) ok_X2_entryOf hP.1 zc_X2 rfl q1_133 (hP) ⟨rfl, rfl, by decide, by decide⟩ ⟨Nat.zero_le _, Nat.zero_le _⟩ rfl (Nat.le_of_ble_eq_true rfl) hl.1 rfl dX2_dotFact_30 ?_
    exact ret _ _ _ dX2_dotFact_33 (by unfold dF; simp)
  · skip
    refine z_iload_n S dX2_dotFact_0 hl 2 rfl rfl ?_
    refine lv_tableIn (tgt := 34) S.1 S.2.1 dX2_dotFact_1 (by decide) (by decide) rfl (by decide) ?_
    refine z_aload_n S dX2_dotFact_34 hl 0 rfl rfl ?_
    refine z_iload_n S dX2_dotFact_35 hl 1 rfl rfl ?_
    refine z_callVs S hG (c_X2_shownNow l G σ a (d) (by omega)) ok_X2_shownNow hP.1 zc_X2 rfl q1_231 (hP) ⟨rfl, rfl, by decide, by decide⟩ ⟨Nat.zero_le _, Nat.zero_le _⟩ rfl (Nat.le_of_ble_eq_true rfl) hl.1 rfl dX2_dotFact_36 ?_
    exact ret _ _ _ dX2_dotFact_39 (by unfold dF; simp)
  · skip
    refine z_iload_n S dX2_dotFact_0 hl 2 rfl rfl ?_
    refine lv_tableIn (tgt := 40) S.1 S.2.1 dX2_dotFact_1 (by decide) (by decide) rfl (by decide) ?_
    refine z_aload_n S dX2_dotFact_40 hl 0 rfl rfl ?_
    refine z_iload_n S dX2_dotFact_41 hl 1 rfl rfl ?_
    refine z_callVs S hG (c_X2_shownNow l G σ a (d) (by omega)) ok_X2_shownNow hP.1 zc_X2 rfl q1_231 (hP) ⟨rfl, rfl, by decide, by decide⟩ ⟨Nat.zero_le _, Nat.zero_le _⟩ rfl (Nat.le_of_ble_eq_true rfl) hl.1 rfl dX2_dotFact_42 ?_
    refine z_callSs S hG (c_X2_lightOf l G (shw σ (σ.Dt (d)) σ.tk)) ok_X2_lightOf q1_167 (trivial) ⟨rfl, rfl, by decide, by decide⟩ ⟨Nat.zero_le _, Nat.zero_le _⟩ rfl (Nat.le_of_ble_eq_true rfl) hl.1 rfl dX2_dotFact_45 ?_
    exact ret _ _ _ dX2_dotFact_48 (by unfold dF; simp)
  · skip
    refine z_iload_n S dX2_dotFact_0 hl 2 rfl rfl ?_
    refine lv_tableOut (tgt := 49) S.1 S.2.1 dX2_dotFact_1 (by decide) (by decide) ?_
    refine z_aload_n S dX2_dotFact_49 hl 0 rfl rfl ?_
    refine z_get S hG hP.1 zc_X2 0 (by decide) q1_60 rfl rfl dX2_dotFact_50 ?_
    refine z_aload_n S dX2_dotFact_53 hl 0 rfl rfl ?_
    refine z_iload_n S dX2_dotFact_54 hl 1 rfl rfl ?_
    refine z_callVs S hG (c_X2_entryOf l G σ a (d) (by omega)) ok_X2_entryOf hP.1 zc_X2 rfl q1_133 (hP) ⟨rfl, rfl, by decide, by decide⟩ ⟨Nat.zero_le _, Nat.zero_le _⟩ rfl (Nat.le_of_ble_eq_true rfl) hl.1 rfl dX2_dotFact_55 ?_
    refine z_aload_n S dX2_dotFact_58 hl 0 rfl rfl ?_
    refine z_get S hG hP.1 zc_X2 5 (by decide) q1_65 rfl rfl dX2_dotFact_59 ?_
    refine z_bipush S dX2_dotFact_62 rfl ?_
    refine z_callVs S hG (c_X0_changes l G σ a (σ.Dt (d)) (σ.tk) (30) (by omega) (by omega) (by omega)) ok_X0_changes hP.2.2.2.2.1.1 zc_X0 rfl q2_2 (hP.2.2.2.2.1) ⟨rfl, rfl, by decide, by decide⟩ ⟨Nat.zero_le _, Nat.zero_le _⟩ rfl (Nat.le_of_ble_eq_true rfl) hl.1 rfl dX2_dotFact_64 ?_
    exact ret _ _ _ dX2_dotFact_67 (by unfold dF; simp)
theorem dX2_entryFact_0 : decode cX2_entryFact 0 = .ok (.iload_n 2, 1) := by decide +kernel
theorem dX2_entryFact_1 : decode cX2_entryFact 1 = .ok (.tableswitch 92 0 4 #[35, 44, 57, 66, 83], 35) := by decide +kernel
theorem dX2_entryFact_36 : decode cX2_entryFact 36 = .ok (.aload_n 0, 1) := by decide +kernel
theorem dX2_entryFact_37 : decode cX2_entryFact 37 = .ok (.getfield 12, 3) := by decide +kernel
theorem dX2_entryFact_40 : decode cX2_entryFact 40 = .ok (.iload_n 1, 1) := by decide +kernel
theorem dX2_entryFact_41 : decode cX2_entryFact 41 = .ok (.invokevirtual 58, 3) := by decide +kernel
theorem dX2_entryFact_44 : decode cX2_entryFact 44 = .ok (.ireturn, 1) := by decide +kernel
theorem dX2_entryFact_45 : decode cX2_entryFact 45 = .ok (.aload_n 0, 1) := by decide +kernel
theorem dX2_entryFact_46 : decode cX2_entryFact 46 = .ok (.getfield 12, 3) := by decide +kernel
theorem dX2_entryFact_49 : decode cX2_entryFact 49 = .ok (.iload_n 1, 1) := by decide +kernel
theorem dX2_entryFact_50 : decode cX2_entryFact 50 = .ok (.aload_n 0, 1) := by decide +kernel
theorem dX2_entryFact_51 : decode cX2_entryFact 51 = .ok (.getfield 30, 3) := by decide +kernel
theorem dX2_entryFact_54 : decode cX2_entryFact 54 = .ok (.invokevirtual 146, 3) := by decide +kernel
theorem dX2_entryFact_57 : decode cX2_entryFact 57 = .ok (.ireturn, 1) := by decide +kernel
theorem dX2_entryFact_58 : decode cX2_entryFact 58 = .ok (.aload_n 0, 1) := by decide +kernel
theorem dX2_entryFact_59 : decode cX2_entryFact 59 = .ok (.getfield 12, 3) := by decide +kernel
theorem dX2_entryFact_62 : decode cX2_entryFact 62 = .ok (.iload_n 1, 1) := by decide +kernel
theorem dX2_entryFact_63 : decode cX2_entryFact 63 = .ok (.invokevirtual 262, 3) := by decide +kernel
theorem dX2_entryFact_66 : decode cX2_entryFact 66 = .ok (.ireturn, 1) := by decide +kernel
theorem dX2_entryFact_67 : decode cX2_entryFact 67 = .ok (.aload_n 0, 1) := by decide +kernel
theorem dX2_entryFact_68 : decode cX2_entryFact 68 = .ok (.getfield 12, 3) := by decide +kernel
theorem dX2_entryFact_71 : decode cX2_entryFact 71 = .ok (.iload_n 1, 1) := by decide +kernel
theorem dX2_entryFact_72 : decode cX2_entryFact 72 = .ok (.invokevirtual 265, 3) := by decide +kernel
theorem dX2_entryFact_75 : decode cX2_entryFact 75 = .ok (.ifCond .eq 7, 3) := by decide +kernel
theorem dX2_entryFact_78 : decode cX2_entryFact 78 = .ok (.iconst 1, 1) := by decide +kernel
theorem dX2_entryFact_79 : decode cX2_entryFact 79 = .ok (.goto 4, 3) := by decide +kernel
theorem dX2_entryFact_82 : decode cX2_entryFact 82 = .ok (.iconst 0, 1) := by decide +kernel
theorem dX2_entryFact_83 : decode cX2_entryFact 83 = .ok (.ireturn, 1) := by decide +kernel
theorem dX2_entryFact_84 : decode cX2_entryFact 84 = .ok (.aload_n 0, 1) := by decide +kernel
theorem dX2_entryFact_85 : decode cX2_entryFact 85 = .ok (.getfield 12, 3) := by decide +kernel
theorem dX2_entryFact_88 : decode cX2_entryFact 88 = .ok (.iload_n 1, 1) := by decide +kernel
theorem dX2_entryFact_89 : decode cX2_entryFact 89 = .ok (.invokevirtual 268, 3) := by decide +kernel
theorem dX2_entryFact_92 : decode cX2_entryFact 92 = .ok (.ireturn, 1) := by decide +kernel
theorem dX2_entryFact_93 : decode cX2_entryFact 93 = .ok (.aload_n 0, 1) := by decide +kernel
theorem dX2_entryFact_94 : decode cX2_entryFact 94 = .ok (.iload_n 1, 1) := by decide +kernel
theorem dX2_entryFact_95 : decode cX2_entryFact 95 = .ok (.invokevirtual 271, 3) := by decide +kernel
theorem dX2_entryFact_98 : decode cX2_entryFact 98 = .ok (.ireturn, 1) := by decide +kernel
theorem q2_28 : (Jvm.Cond.methodLink "Cyclepaint" (58 : Nat) ({ cls := "Cyclepaint$Palette", name := "baseOf", desc := "(I)I" } : Jvm.MethodName)) ∈ lw_g := zg_of (zin2 (List.mem_of_getElem? (i := 28) rfl)) rfl
theorem q2_29 : (Jvm.Cond.methodLink "Cyclepaint" (262 : Nat) ({ cls := "Cyclepaint$Palette", name := "rangeNumber", desc := "(I)I" } : Jvm.MethodName)) ∈ lw_g := zg_of (zin2 (List.mem_of_getElem? (i := 29) rfl)) rfl
theorem q2_30 : (Jvm.Cond.methodLink "Cyclepaint" (265 : Nat) ({ cls := "Cyclepaint$Palette", name := "isStill", desc := "(I)Z" } : Jvm.MethodName)) ∈ lw_g := zg_of (zin2 (List.mem_of_getElem? (i := 30) rfl)) rfl
theorem q2_31 : (Jvm.Cond.methodLink "Cyclepaint" (268 : Nat) ({ cls := "Cyclepaint$Palette", name := "twins", desc := "(I)I" } : Jvm.MethodName)) ∈ lw_g := zg_of (zin2 (List.mem_of_getElem? (i := 31) rfl)) rfl
theorem q2_35 : (Jvm.Cond.methodLink "Cyclepaint" (271 : Nat) ({ cls := "Cyclepaint", name := "usesOf", desc := "(I)I" } : Jvm.MethodName)) ∈ lw_g := zg_of (zin2 (List.mem_of_getElem? (i := 35) rfl)) rfl
theorem q2_27 : (Jvm.Cond.code ({ cls := "Cyclepaint", name := "entryFact", desc := "(II)I" } : Jvm.MethodName) prog_1_method_42_code (3 : Nat) (Option.some Jvm.ClassFile.FieldType.int)) ∈ lw_g := zg_of (zin2 (List.mem_of_getElem? (i := 27) rfl)) rfl
theorem q2_26 : (Jvm.Cond.instanceMethod ({ cls := "Cyclepaint", name := "entryFact", desc := "(II)I" } : Jvm.MethodName)) ∈ lw_g := zg_of (zin2 (List.mem_of_getElem? (i := 26) rfl)) rfl
theorem qs_12 : Cond.selects "Cyclepaint" (⟨"Cyclepaint", "entryFact", "(II)I"⟩ : MethodName) (⟨"Cyclepaint", "entryFact", "(II)I"⟩ : MethodName) ∈ lw_g := zg_of (zinS (List.mem_of_getElem? (i := 12) rfl)) rfl
theorem ok_X2_entryFact : zOV yX2_entryFact cX2_entryFact 3 ((Option.some Jvm.ClassFile.FieldType.int)) 2 := ⟨⟨q2_27, q1_1, by decide, by decide, by decide +kernel⟩, q2_26, qs_12⟩
set_option maxHeartbeats 4000000 in
set_option maxRecDepth 100000 in
theorem c_X2_entryFact (l : Launch) (G : zG) (σ : St) (a : Nat → Nat) (e wh : Int) (he : 0 ≤ e ∧ e < 16) (hw : 0 ≤ wh ∧ wh ≤ 5) : Met l yX2_entryFact (wq yX2_entryFact cX2_entryFact 3 ((Option.some Jvm.ClassFile.FieldType.int))) (rmR 4 93) (va_Pc [.ref (a 0), .int (zI (e)), .int (zI (wh))] (zK G (hCyc G σ a))) (zQ (some (.int ((eF σ e wh))))) 0 0 zF := by
  refine z_enterI (by decide +kernel) (Nat.le_of_ble_eq_true rfl) ?_
  intro p env s m below meth cod Q S hG hP ret ls hl
  have hl : lv_has ls 3 [(0, .ref (a 0)), (1, .int (zI (e))), (2, .int (zI (wh)))] := hl
  have hC := hP.2.2.2.2.2
  have hT := hC.1
  have hdt := hC.2.1
  have hlm := hC.2.2.1
  have hkn := hC.2.2.2.1
  have hD := hC.2.2.2.2.1
  have hB := hC.2.2.2.2.2
  rcases (show wh = 0 ∨ wh = 1 ∨ wh = 2 ∨ wh = 3 ∨ wh = 4 ∨ wh = 5 by omega) with rfl | rfl | rfl | rfl | rfl | rfl
  · skip
    refine z_iload_n S dX2_entryFact_0 hl 2 rfl rfl ?_
    refine lv_tableIn (tgt := 36) S.1 S.2.1 dX2_entryFact_1 (by decide) (by decide) rfl (by decide) ?_
    refine z_aload_n S dX2_entryFact_36 hl 0 rfl rfl ?_
    refine z_get S hG hP.1 zc_X2 0 (by decide) q1_60 rfl rfl dX2_entryFact_37 ?_
    refine z_iload_n S dX2_entryFact_40 hl 1 rfl rfl ?_
    refine z_callVs S hG (c_X0_baseOf l G σ a (e) (by omega)) ok_X0_baseOf hP.2.2.2.2.1.1 zc_X0 rfl q2_28 (hP.2.2.2.2.1) ⟨rfl, rfl, by decide, by decide⟩ ⟨Nat.zero_le _, Nat.zero_le _⟩ rfl (Nat.le_of_ble_eq_true rfl) hl.1 rfl dX2_entryFact_41 ?_
    exact ret _ _ _ dX2_entryFact_44 (by unfold eF; simp)
  · skip
    refine z_iload_n S dX2_entryFact_0 hl 2 rfl rfl ?_
    refine lv_tableIn (tgt := 45) S.1 S.2.1 dX2_entryFact_1 (by decide) (by decide) rfl (by decide) ?_
    refine z_aload_n S dX2_entryFact_45 hl 0 rfl rfl ?_
    refine z_get S hG hP.1 zc_X2 0 (by decide) q1_60 rfl rfl dX2_entryFact_46 ?_
    refine z_iload_n S dX2_entryFact_49 hl 1 rfl rfl ?_
    refine z_aload_n S dX2_entryFact_50 hl 0 rfl rfl ?_
    refine z_get S hG hP.1 zc_X2 5 (by decide) q1_65 rfl rfl dX2_entryFact_51 ?_
    refine z_callVs S hG (c_X0_shows l G σ a (e) (σ.tk) (by omega) (by omega)) ok_X0_shows hP.2.2.2.2.1.1 zc_X0 rfl q1_166 (hP.2.2.2.2.1) ⟨rfl, rfl, by decide, by decide⟩ ⟨Nat.zero_le _, Nat.zero_le _⟩ rfl (Nat.le_of_ble_eq_true rfl) hl.1 rfl dX2_entryFact_54 ?_
    exact ret _ _ _ dX2_entryFact_57 (by unfold eF; simp)
  · skip
    refine z_iload_n S dX2_entryFact_0 hl 2 rfl rfl ?_
    refine lv_tableIn (tgt := 58) S.1 S.2.1 dX2_entryFact_1 (by decide) (by decide) rfl (by decide) ?_
    refine z_aload_n S dX2_entryFact_58 hl 0 rfl rfl ?_
    refine z_get S hG hP.1 zc_X2 0 (by decide) q1_60 rfl rfl dX2_entryFact_59 ?_
    refine z_iload_n S dX2_entryFact_62 hl 1 rfl rfl ?_
    refine z_callVs S hG (c_X0_rangeNumber l G σ a (e) (by omega)) ok_X0_rangeNumber hP.2.2.2.2.1.1 zc_X0 rfl q2_29 (hP.2.2.2.2.1) ⟨rfl, rfl, by decide, by decide⟩ ⟨Nat.zero_le _, Nat.zero_le _⟩ rfl (Nat.le_of_ble_eq_true rfl) hl.1 rfl dX2_entryFact_63 ?_
    exact ret _ _ _ dX2_entryFact_66 (by unfold eF; simp)
  · skip
    refine z_iload_n S dX2_entryFact_0 hl 2 rfl rfl ?_
    refine lv_tableIn (tgt := 67) S.1 S.2.1 dX2_entryFact_1 (by decide) (by decide) rfl (by decide) ?_
    refine z_aload_n S dX2_entryFact_67 hl 0 rfl rfl ?_
    refine z_get S hG hP.1 zc_X2 0 (by decide) q1_60 rfl rfl dX2_entryFact_68 ?_
    refine z_iload_n S dX2_entryFact_71 hl 1 rfl rfl ?_
    refine z_callVs S hG (c_X0_isStill l G σ a (e) (by omega)) ok_X0_isStill hP.2.2.2.2.1.1 zc_X0 rfl q2_30 (hP.2.2.2.2.1) ⟨rfl, rfl, by decide, by decide⟩ ⟨Nat.zero_le _, Nat.zero_le _⟩ rfl (Nat.le_of_ble_eq_true rfl) hl.1 rfl dX2_entryFact_72 ?_
    refine z_bif_eq S 82 dX2_entryFact_75 (by decide) (fun c_75 => ?_) (fun c_75 => ?_)
    · skip
      refine z_iconst S dX2_entryFact_82 ?_
      exact ret _ _ _ dX2_entryFact_83 (by unfold eF; simp [c_75]; rfl)
    · skip
      refine z_iconst S dX2_entryFact_78 ?_
      refine z_goto S 83 dX2_entryFact_79 (by decide) ?_
      exact ret _ _ _ dX2_entryFact_83 (by unfold eF; simp [c_75]; rfl)
  · skip
    refine z_iload_n S dX2_entryFact_0 hl 2 rfl rfl ?_
    refine lv_tableIn (tgt := 84) S.1 S.2.1 dX2_entryFact_1 (by decide) (by decide) rfl (by decide) ?_
    refine z_aload_n S dX2_entryFact_84 hl 0 rfl rfl ?_
    refine z_get S hG hP.1 zc_X2 0 (by decide) q1_60 rfl rfl dX2_entryFact_85 ?_
    refine z_iload_n S dX2_entryFact_88 hl 1 rfl rfl ?_
    refine z_callVs S hG (c_X0_twins l G σ a (e) (by omega)) ok_X0_twins hP.2.2.2.2.1.1 zc_X0 rfl q2_31 (hP.2.2.2.2.1) ⟨rfl, rfl, by decide, by decide⟩ ⟨Nat.zero_le _, Nat.zero_le _⟩ rfl (Nat.le_of_ble_eq_true rfl) hl.1 rfl dX2_entryFact_89 ?_
    exact ret _ _ _ dX2_entryFact_92 (by unfold eF; simp)
  · skip
    refine z_iload_n S dX2_entryFact_0 hl 2 rfl rfl ?_
    refine lv_tableOut (tgt := 93) S.1 S.2.1 dX2_entryFact_1 (by decide) (by decide) ?_
    refine z_aload_n S dX2_entryFact_93 hl 0 rfl rfl ?_
    refine z_iload_n S dX2_entryFact_94 hl 1 rfl rfl ?_
    refine z_callVs S hG (c_X2_usesOf l G σ a (e) (by omega)) ok_X2_usesOf hP.1 zc_X2 rfl q2_35 (hP) ⟨rfl, rfl, by decide, by decide⟩ ⟨Nat.zero_le _, Nat.zero_le _⟩ rfl (Nat.le_of_ble_eq_true rfl) hl.1 rfl dX2_entryFact_95 ?_
    exact ret _ _ _ dX2_entryFact_98 (by unfold eF; simp)
def pF (σ : St) (wh : Int) : Int32 := if wh = 0 then zI σ.tk else if wh = 1 then zI σ.rn else if wh = 2 then zI (ueC σ) else if wh = 3 then bcR (ksC σ) else if wh = 4 then liC σ σ.tk else if wh = 5 then mrL σ else if wh = 6 then zI (flC σ) else if wh = 7 then bI (decide (σ.lim < flC σ)) else if wh = 8 then zI σ.lim else if wh = 9 then zI σ.kn else if wh = 10 then bcL (csC σ) else σ.rf
theorem dX2_pictureFact_0 : decode cX2_pictureFact 0 = .ok (.iload_n 1, 1) := by decide +kernel
theorem dX2_pictureFact_1 : decode cX2_pictureFact 1 = .ok (.tableswitch 129 0 10 #[59, 64, 72, 77, 82, 91, 96, 101, 114, 119, 124], 59) := by decide +kernel
theorem dX2_pictureFact_60 : decode cX2_pictureFact 60 = .ok (.aload_n 0, 1) := by decide +kernel
theorem dX2_pictureFact_61 : decode cX2_pictureFact 61 = .ok (.getfield 30, 3) := by decide +kernel
theorem dX2_pictureFact_64 : decode cX2_pictureFact 64 = .ok (.ireturn, 1) := by decide +kernel
theorem dX2_pictureFact_65 : decode cX2_pictureFact 65 = .ok (.aload_n 0, 1) := by decide +kernel
theorem dX2_pictureFact_66 : decode cX2_pictureFact 66 = .ok (.getfield 12, 3) := by decide +kernel
theorem dX2_pictureFact_69 : decode cX2_pictureFact 69 = .ok (.invokevirtual 85, 3) := by decide +kernel
theorem dX2_pictureFact_72 : decode cX2_pictureFact 72 = .ok (.ireturn, 1) := by decide +kernel
theorem dX2_pictureFact_73 : decode cX2_pictureFact 73 = .ok (.aload_n 0, 1) := by decide +kernel
theorem dX2_pictureFact_74 : decode cX2_pictureFact 74 = .ok (.invokevirtual 233, 3) := by decide +kernel
theorem dX2_pictureFact_77 : decode cX2_pictureFact 77 = .ok (.ireturn, 1) := by decide +kernel
theorem dX2_pictureFact_78 : decode cX2_pictureFact 78 = .ok (.aload_n 0, 1) := by decide +kernel
theorem dX2_pictureFact_79 : decode cX2_pictureFact 79 = .ok (.invokevirtual 230, 3) := by decide +kernel
theorem dX2_pictureFact_82 : decode cX2_pictureFact 82 = .ok (.ireturn, 1) := by decide +kernel
theorem dX2_pictureFact_83 : decode cX2_pictureFact 83 = .ok (.aload_n 0, 1) := by decide +kernel
theorem dX2_pictureFact_84 : decode cX2_pictureFact 84 = .ok (.aload_n 0, 1) := by decide +kernel
theorem dX2_pictureFact_85 : decode cX2_pictureFact 85 = .ok (.getfield 30, 3) := by decide +kernel
theorem dX2_pictureFact_88 : decode cX2_pictureFact 88 = .ok (.invokevirtual 199, 3) := by decide +kernel
theorem dX2_pictureFact_91 : decode cX2_pictureFact 91 = .ok (.ireturn, 1) := by decide +kernel
theorem dX2_pictureFact_92 : decode cX2_pictureFact 92 = .ok (.aload_n 0, 1) := by decide +kernel
theorem dX2_pictureFact_93 : decode cX2_pictureFact 93 = .ok (.invokevirtual 274, 3) := by decide +kernel
theorem dX2_pictureFact_96 : decode cX2_pictureFact 96 = .ok (.ireturn, 1) := by decide +kernel
theorem dX2_pictureFact_97 : decode cX2_pictureFact 97 = .ok (.aload_n 0, 1) := by decide +kernel
theorem dX2_pictureFact_98 : decode cX2_pictureFact 98 = .ok (.invokevirtual 277, 3) := by decide +kernel
theorem dX2_pictureFact_101 : decode cX2_pictureFact 101 = .ok (.ireturn, 1) := by decide +kernel
theorem dX2_pictureFact_102 : decode cX2_pictureFact 102 = .ok (.aload_n 0, 1) := by decide +kernel
theorem dX2_pictureFact_103 : decode cX2_pictureFact 103 = .ok (.invokevirtual 152, 3) := by decide +kernel
theorem dX2_pictureFact_106 : decode cX2_pictureFact 106 = .ok (.ifCond .eq 7, 3) := by decide +kernel
theorem dX2_pictureFact_109 : decode cX2_pictureFact 109 = .ok (.iconst 1, 1) := by decide +kernel
theorem dX2_pictureFact_110 : decode cX2_pictureFact 110 = .ok (.goto 4, 3) := by decide +kernel
theorem dX2_pictureFact_113 : decode cX2_pictureFact 113 = .ok (.iconst 0, 1) := by decide +kernel
theorem dX2_pictureFact_114 : decode cX2_pictureFact 114 = .ok (.ireturn, 1) := by decide +kernel
theorem dX2_pictureFact_115 : decode cX2_pictureFact 115 = .ok (.aload_n 0, 1) := by decide +kernel
theorem dX2_pictureFact_116 : decode cX2_pictureFact 116 = .ok (.getfield 33, 3) := by decide +kernel
theorem dX2_pictureFact_119 : decode cX2_pictureFact 119 = .ok (.ireturn, 1) := by decide +kernel
theorem dX2_pictureFact_120 : decode cX2_pictureFact 120 = .ok (.aload_n 0, 1) := by decide +kernel
theorem dX2_pictureFact_121 : decode cX2_pictureFact 121 = .ok (.getfield 26, 3) := by decide +kernel
theorem dX2_pictureFact_124 : decode cX2_pictureFact 124 = .ok (.ireturn, 1) := by decide +kernel
theorem dX2_pictureFact_125 : decode cX2_pictureFact 125 = .ok (.aload_n 0, 1) := by decide +kernel
theorem dX2_pictureFact_126 : decode cX2_pictureFact 126 = .ok (.invokevirtual 280, 3) := by decide +kernel
theorem dX2_pictureFact_129 : decode cX2_pictureFact 129 = .ok (.ireturn, 1) := by decide +kernel
theorem dX2_pictureFact_130 : decode cX2_pictureFact 130 = .ok (.aload_n 0, 1) := by decide +kernel
theorem dX2_pictureFact_131 : decode cX2_pictureFact 131 = .ok (.getfield 36, 3) := by decide +kernel
theorem dX2_pictureFact_134 : decode cX2_pictureFact 134 = .ok (.ireturn, 1) := by decide +kernel
theorem q1_223 : (Jvm.Cond.methodLink "Cyclepaint" (85 : Nat) ({ cls := "Cyclepaint$Palette", name := "ranges", desc := "()I" } : Jvm.MethodName)) ∈ lw_g := zg_of (zin1 (List.mem_of_getElem? (i := 223) rfl)) rfl
theorem q1_206 : (Jvm.Cond.methodLink "Cyclepaint" (233 : Nat) ({ cls := "Cyclepaint", name := "usedEntries", desc := "()I" } : Jvm.MethodName)) ∈ lw_g := zg_of (zin1 (List.mem_of_getElem? (i := 206) rfl)) rfl
theorem q1_196 : (Jvm.Cond.methodLink "Cyclepaint" (230 : Nat) ({ cls := "Cyclepaint", name := "kinds", desc := "()I" } : Jvm.MethodName)) ∈ lw_g := zg_of (zin1 (List.mem_of_getElem? (i := 196) rfl)) rfl
theorem q1_227 : (Jvm.Cond.methodLink "Cyclepaint" (274 : Nat) ({ cls := "Cyclepaint", name := "lightOfLightestRow", desc := "()I" } : Jvm.MethodName)) ∈ lw_g := zg_of (zin1 (List.mem_of_getElem? (i := 227) rfl)) rfl
theorem q2_6 : (Jvm.Cond.methodLink "Cyclepaint" (152 : Nat) ({ cls := "Cyclepaint", name := "isBarred", desc := "()Z" } : Jvm.MethodName)) ∈ lw_g := zg_of (zin2 (List.mem_of_getElem? (i := 6) rfl)) rfl
theorem q1_64 : (Jvm.Cond.fieldLink "Cyclepaint" (26 : Nat) "Cyclepaint" "keptCount" "I") ∈ lw_g := zg_of (zin1 (List.mem_of_getElem? (i := 64) rfl)) rfl
theorem q2_10 : (Jvm.Cond.methodLink "Cyclepaint" (280 : Nat) ({ cls := "Cyclepaint", name := "coloursShown", desc := "()I" } : Jvm.MethodName)) ∈ lw_g := zg_of (zin2 (List.mem_of_getElem? (i := 10) rfl)) rfl
theorem q1_67 : (Jvm.Cond.fieldLink "Cyclepaint" (36 : Nat) "Cyclepaint" "refused" "I") ∈ lw_g := zg_of (zin1 (List.mem_of_getElem? (i := 67) rfl)) rfl
theorem q1_222 : (Jvm.Cond.code ({ cls := "Cyclepaint", name := "pictureFact", desc := "(I)I" } : Jvm.MethodName) prog_1_method_43_code (2 : Nat) (Option.some Jvm.ClassFile.FieldType.int)) ∈ lw_g := zg_of (zin1 (List.mem_of_getElem? (i := 222) rfl)) rfl
theorem q1_221 : (Jvm.Cond.instanceMethod ({ cls := "Cyclepaint", name := "pictureFact", desc := "(I)I" } : Jvm.MethodName)) ∈ lw_g := zg_of (zin1 (List.mem_of_getElem? (i := 221) rfl)) rfl
theorem qs_6 : Cond.selects "Cyclepaint" (⟨"Cyclepaint", "pictureFact", "(I)I"⟩ : MethodName) (⟨"Cyclepaint", "pictureFact", "(I)I"⟩ : MethodName) ∈ lw_g := zg_of (zinS (List.mem_of_getElem? (i := 6) rfl)) rfl
theorem ok_X2_pictureFact : zOV yX2_pictureFact cX2_pictureFact 2 ((Option.some Jvm.ClassFile.FieldType.int)) 1 := ⟨⟨q1_222, q1_1, by decide, by decide, by decide +kernel⟩, q1_221, qs_6⟩
set_option maxHeartbeats 4000000 in
set_option maxRecDepth 100000 in
theorem c_X2_pictureFact (l : Launch) (G : zG) (σ : St) (a : Nat → Nat) (wh : Int) (hw : 0 ≤ wh ∧ wh ≤ 11) : Met l yX2_pictureFact (wq yX2_pictureFact cX2_pictureFact 2 ((Option.some Jvm.ClassFile.FieldType.int))) (rmR 5 115) (va_Pc [.ref (a 0), .int (zI (wh))] (zK G (hCyc G σ a))) (zQ (some (.int ((pF σ wh))))) 0 0 zF := by
  refine z_enterI (by decide +kernel) (Nat.le_of_ble_eq_true rfl) ?_
  intro p env s m below meth cod Q S hG hP ret ls hl
  have hl : lv_has ls 2 [(0, .ref (a 0)), (1, .int (zI (wh)))] := hl
  have hC := hP.2.2.2.2.2
  have hT := hC.1
  have hdt := hC.2.1
  have hlm := hC.2.2.1
  have hkn := hC.2.2.2.1
  have hD := hC.2.2.2.2.1
  have hB := hC.2.2.2.2.2
  rcases (show wh = 0 ∨ wh = 1 ∨ wh = 2 ∨ wh = 3 ∨ wh = 4 ∨ wh = 5 ∨ wh = 6 ∨ wh = 7 ∨ wh = 8 ∨ wh = 9 ∨ wh = 10 ∨ wh = 11 by omega) with rfl | rfl | rfl | rfl | rfl | rfl | rfl | rfl | rfl | rfl | rfl | rfl
  · skip
    refine z_iload_n S dX2_pictureFact_0 hl 1 rfl rfl ?_
    refine lv_tableIn (tgt := 60) S.1 S.2.1 dX2_pictureFact_1 (by decide) (by decide) rfl (by decide) ?_
    refine z_aload_n S dX2_pictureFact_60 hl 0 rfl rfl ?_
    refine z_get S hG hP.1 zc_X2 5 (by decide) q1_65 rfl rfl dX2_pictureFact_61 ?_
    exact ret _ _ _ dX2_pictureFact_64 (by unfold pF; simp)
  · skip
    refine z_iload_n S dX2_pictureFact_0 hl 1 rfl rfl ?_
    refine lv_tableIn (tgt := 65) S.1 S.2.1 dX2_pictureFact_1 (by decide) (by decide) rfl (by decide) ?_
    refine z_aload_n S dX2_pictureFact_65 hl 0 rfl rfl ?_
    refine z_get S hG hP.1 zc_X2 0 (by decide) q1_60 rfl rfl dX2_pictureFact_66 ?_
    refine z_callVs S hG (c_X0_ranges l G σ a) ok_X0_ranges hP.2.2.2.2.1.1 zc_X0 rfl q1_223 (hP.2.2.2.2.1) ⟨rfl, rfl, by decide, by decide⟩ ⟨Nat.zero_le _, Nat.zero_le _⟩ rfl (Nat.le_of_ble_eq_true rfl) hl.1 rfl dX2_pictureFact_69 ?_
    exact ret _ _ _ dX2_pictureFact_72 (by unfold pF; simp)
  · skip
    refine z_iload_n S dX2_pictureFact_0 hl 1 rfl rfl ?_
    refine lv_tableIn (tgt := 73) S.1 S.2.1 dX2_pictureFact_1 (by decide) (by decide) rfl (by decide) ?_
    refine z_aload_n S dX2_pictureFact_73 hl 0 rfl rfl ?_
    refine z_callVs S hG (c_X2_usedEntries l G σ a) ok_X2_usedEntries hP.1 zc_X2 rfl q1_206 (hP) ⟨rfl, rfl, by decide, by decide⟩ ⟨Nat.zero_le _, Nat.zero_le _⟩ rfl (Nat.le_of_ble_eq_true rfl) hl.1 rfl dX2_pictureFact_74 ?_
    exact ret _ _ _ dX2_pictureFact_77 (by unfold pF; simp)
  · skip
    refine z_iload_n S dX2_pictureFact_0 hl 1 rfl rfl ?_
    refine lv_tableIn (tgt := 78) S.1 S.2.1 dX2_pictureFact_1 (by decide) (by decide) rfl (by decide) ?_
    refine z_aload_n S dX2_pictureFact_78 hl 0 rfl rfl ?_
    refine z_callVs S hG (c_X2_kinds l G σ a) ok_X2_kinds hP.1 zc_X2 rfl q1_196 (hP) ⟨rfl, rfl, by decide, by decide⟩ ⟨Nat.zero_le _, Nat.zero_le _⟩ rfl (Nat.le_of_ble_eq_true rfl) hl.1 rfl dX2_pictureFact_79 ?_
    exact ret _ _ _ dX2_pictureFact_82 (by unfold pF; simp)
  · skip
    refine z_iload_n S dX2_pictureFact_0 hl 1 rfl rfl ?_
    refine lv_tableIn (tgt := 83) S.1 S.2.1 dX2_pictureFact_1 (by decide) (by decide) rfl (by decide) ?_
    refine z_aload_n S dX2_pictureFact_83 hl 0 rfl rfl ?_
    refine z_aload_n S dX2_pictureFact_84 hl 0 rfl rfl ?_
    refine z_get S hG hP.1 zc_X2 5 (by decide) q1_65 rfl rfl dX2_pictureFact_85 ?_
    refine z_callVs S hG (c_X2_lightAt l G σ a (σ.tk) (by omega)) ok_X2_lightAt hP.1 zc_X2 rfl q1_162 (hP) ⟨rfl, rfl, by decide, by decide⟩ ⟨Nat.zero_le _, Nat.zero_le _⟩ rfl (Nat.le_of_ble_eq_true rfl) hl.1 rfl dX2_pictureFact_88 ?_
    exact ret _ _ _ dX2_pictureFact_91 (by unfold pF; simp)
  · skip
    refine z_iload_n S dX2_pictureFact_0 hl 1 rfl rfl ?_
    refine lv_tableIn (tgt := 92) S.1 S.2.1 dX2_pictureFact_1 (by decide) (by decide) rfl (by decide) ?_
    refine z_aload_n S dX2_pictureFact_92 hl 0 rfl rfl ?_
    refine z_callVs S hG (c_X2_mostRow l G σ a) ok_X2_lightOfLightestRow hP.1 zc_X2 rfl q1_227 (hP) ⟨rfl, rfl, by decide, by decide⟩ ⟨Nat.zero_le _, Nat.zero_le _⟩ rfl (Nat.le_of_ble_eq_true rfl) hl.1 rfl dX2_pictureFact_93 ?_
    exact ret _ _ _ dX2_pictureFact_96 (by unfold pF; simp)
  · skip
    refine z_iload_n S dX2_pictureFact_0 hl 1 rfl rfl ?_
    refine lv_tableIn (tgt := 97) S.1 S.2.1 dX2_pictureFact_1 (by decide) (by decide) rfl (by decide) ?_
    refine z_aload_n S dX2_pictureFact_97 hl 0 rfl rfl ?_
    refine z_callVs S hG (c_X2_flickering l G σ a) ok_X2_flickeringDots hP.1 zc_X2 rfl q1_238 (hP) ⟨rfl, rfl, by decide, by decide⟩ ⟨Nat.zero_le _, Nat.zero_le _⟩ rfl (Nat.le_of_ble_eq_true rfl) hl.1 rfl dX2_pictureFact_98 ?_
    exact ret _ _ _ dX2_pictureFact_101 (by unfold pF; simp)
  · skip
    refine z_iload_n S dX2_pictureFact_0 hl 1 rfl rfl ?_
    refine lv_tableIn (tgt := 102) S.1 S.2.1 dX2_pictureFact_1 (by decide) (by decide) rfl (by decide) ?_
    refine z_aload_n S dX2_pictureFact_102 hl 0 rfl rfl ?_
    refine z_callVs S hG (c_X2_isBarred l G σ a) ok_X2_isBarred hP.1 zc_X2 rfl q2_6 (hP) ⟨rfl, rfl, by decide, by decide⟩ ⟨Nat.zero_le _, Nat.zero_le _⟩ rfl (Nat.le_of_ble_eq_true rfl) hl.1 rfl dX2_pictureFact_103 ?_
    refine z_bif_eq S 113 dX2_pictureFact_106 (by decide) (fun c_106 => ?_) (fun c_106 => ?_)
    · skip
      refine z_iconst S dX2_pictureFact_113 ?_
      exact ret _ _ _ dX2_pictureFact_114 (by unfold pF; simp [c_106]; rfl)
    · skip
      refine z_iconst S dX2_pictureFact_109 ?_
      refine z_goto S 114 dX2_pictureFact_110 (by decide) ?_
      exact ret _ _ _ dX2_pictureFact_114 (by unfold pF; simp [c_106]; rfl)
  · skip
    refine z_iload_n S dX2_pictureFact_0 hl 1 rfl rfl ?_
    refine lv_tableIn (tgt := 115) S.1 S.2.1 dX2_pictureFact_1 (by decide) (by decide) rfl (by decide) ?_
    refine z_aload_n S dX2_pictureFact_115 hl 0 rfl rfl ?_
    refine z_get S hG hP.1 zc_X2 6 (by decide) q1_66 rfl rfl dX2_pictureFact_116 ?_
    exact ret _ _ _ dX2_pictureFact_119 (by unfold pF; simp)
  · skip
    refine z_iload_n S dX2_pictureFact_0 hl 1 rfl rfl ?_
    refine lv_tableIn (tgt := 120) S.1 S.2.1 dX2_pictureFact_1 (by decide) (by decide) rfl (by decide) ?_
    refine z_aload_n S dX2_pictureFact_120 hl 0 rfl rfl ?_
    refine z_get S hG hP.1 zc_X2 4 (by decide) q1_64 rfl rfl dX2_pictureFact_121 ?_
    exact ret _ _ _ dX2_pictureFact_124 (by unfold pF; simp)
  · skip
    refine z_iload_n S dX2_pictureFact_0 hl 1 rfl rfl ?_
    refine lv_tableIn (tgt := 125) S.1 S.2.1 dX2_pictureFact_1 (by decide) (by decide) rfl (by decide) ?_
    refine z_aload_n S dX2_pictureFact_125 hl 0 rfl rfl ?_
    refine z_callVs S hG (c_X2_coloursShown l G σ a) ok_X2_coloursShown hP.1 zc_X2 rfl q2_10 (hP) ⟨rfl, rfl, by decide, by decide⟩ ⟨Nat.zero_le _, Nat.zero_le _⟩ rfl (Nat.le_of_ble_eq_true rfl) hl.1 rfl dX2_pictureFact_126 ?_
    exact ret _ _ _ dX2_pictureFact_129 (by unfold pF; simp)
  · skip
    refine z_iload_n S dX2_pictureFact_0 hl 1 rfl rfl ?_
    refine lv_tableOut (tgt := 130) S.1 S.2.1 dX2_pictureFact_1 (by decide) (by decide) ?_
    refine z_aload_n S dX2_pictureFact_130 hl 0 rfl rfl ?_
    refine z_get S hG hP.1 zc_X2 7 (by decide) q1_67 rfl rfl dX2_pictureFact_131 ?_
    exact ret _ _ _ dX2_pictureFact_134 (by unfold pF; simp)
