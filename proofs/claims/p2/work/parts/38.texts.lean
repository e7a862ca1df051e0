theorem dJ5_isLatin1_aae02_0 : decode cJ5_isLatin1_aae02 0 = .ok (.getstatic 18, 3) := by decide +kernel
theorem dJ5_isLatin1_aae02_3 : decode cJ5_isLatin1_aae02 3 = .ok (.ifCond .eq 14, 3) := by decide +kernel
theorem dJ5_isLatin1_aae02_6 : decode cJ5_isLatin1_aae02 6 = .ok (.aload_n 0, 1) := by decide +kernel
theorem dJ5_isLatin1_aae02_7 : decode cJ5_isLatin1_aae02 7 = .ok (.getfield 22, 3) := by decide +kernel
theorem dJ5_isLatin1_aae02_10 : decode cJ5_isLatin1_aae02 10 = .ok (.ifCond .ne 7, 3) := by decide +kernel
theorem dJ5_isLatin1_aae02_13 : decode cJ5_isLatin1_aae02 13 = .ok (.iconst 1, 1) := by decide +kernel
theorem dJ5_isLatin1_aae02_14 : decode cJ5_isLatin1_aae02 14 = .ok (.goto 4, 3) := by decide +kernel
theorem dJ5_isLatin1_aae02_17 : decode cJ5_isLatin1_aae02 17 = .ok (.iconst 0, 1) := by decide +kernel
theorem dJ5_isLatin1_aae02_18 : decode cJ5_isLatin1_aae02 18 = .ok (.ireturn, 1) := by decide +kernel
theorem q3_140 : (Jvm.Cond.fieldLink "java/lang/AbstractStringBuilder" (18 : Nat) "java/lang/String" "COMPACT_STRINGS" "Z") ∈ lw_g := zg_of (zin3 (List.mem_of_getElem? (i := 140) rfl)) rfl
theorem q3_150 : (Jvm.Cond.fieldLink "java/lang/AbstractStringBuilder" (22 : Nat) "java/lang/AbstractStringBuilder" "coder" "B") ∈ lw_g := zg_of (zin3 (List.mem_of_getElem? (i := 150) rfl)) rfl
theorem q3_206 : (Jvm.Cond.code ({ cls := "java/lang/AbstractStringBuilder", name := "isLatin1", desc := "()Z" } : Jvm.MethodName) prog_8_method_68_code (1 : Nat) (Option.some Jvm.ClassFile.FieldType.boolean)) ∈ lw_g := zg_of (zin3 (List.mem_of_getElem? (i := 206) rfl)) rfl
theorem q1_25 : (Jvm.Cond.initialized "java/lang/AbstractStringBuilder") ∈ lw_g := zg_of (zin1 (List.mem_of_getElem? (i := 25) rfl)) rfl
theorem ok_J5_isLatin1_aae02 : zOK yJ5_isLatin1_aae02 cJ5_isLatin1_aae02 1 ((Option.some Jvm.ClassFile.FieldType.boolean)) 0 := ⟨q3_206, q1_25, by decide, by decide, by decide +kernel⟩
set_option maxHeartbeats 4000000 in
set_option maxRecDepth 100000 in
theorem c_sLat (l : Launch) (G : zG) (q v n cap : Nat) : Met l yJ5_isLatin1_aae02 (wq yJ5_isLatin1_aae02 cJ5_isLatin1_aae02 1 ((Option.some Jvm.ClassFile.FieldType.boolean))) (rmR 0 0) (va_Pc [.ref (q)] (zK G (fun H => hSB G q v n cap H ∧ zTx G H))) (zQ (some (.int (bI (true))))) 0 0 zF := by
  refine z_enterB (by decide +kernel) (Nat.le_of_ble_eq_true rfl) ?_
  intro p env s m below meth cod Q S hG hP ret ls hl
  have hl : lv_has ls 1 [(0, .ref (q))] := hl
  refine z_gets S hG 1 rfl hP.2.1 q3_140 dJ5_isLatin1_aae02_0 ?_
  refine lv_if_eq (tgt := 17) S.1 S.2.1 dJ5_isLatin1_aae02_3 (by decide) (fun c_3 => ?_) (fun c_3 => ?_)
  · exact absurd c_3 (by decide)
  refine z_aload_n S dJ5_isLatin1_aae02_6 hl 0 rfl rfl ?_
  refine z_getR S hG hP.1.1 zc_J4 1 (by decide) q3_150 rfl dJ5_isLatin1_aae02_7 ?_
  refine lv_if_ne (tgt := 17) S.1 S.2.1 dJ5_isLatin1_aae02_10 (by decide) (fun c_10 => ?_) (fun c_10 => ?_)
  · exact absurd c_10 (by decide)
  refine z_iconst S dJ5_isLatin1_aae02_13 ?_
  refine z_goto S 18 dJ5_isLatin1_aae02_14 (by decide) ?_
  exact ret _ _ _ dJ5_isLatin1_aae02_18 (rfl)
theorem dJ1_canEncode_fc78d_0 : decode cJ1_canEncode_fc78d 0 = .ok (.iload_n 0, 1) := by decide +kernel
theorem dJ1_canEncode_fc78d_1 : decode cJ1_canEncode_fc78d 1 = .ok (.sipush 255, 3) := by decide +kernel
theorem dJ1_canEncode_fc78d_4 : decode cJ1_canEncode_fc78d 4 = .ok (.if_icmp .gt 7, 3) := by decide +kernel
theorem dJ1_canEncode_fc78d_7 : decode cJ1_canEncode_fc78d 7 = .ok (.iconst 1, 1) := by decide +kernel
theorem dJ1_canEncode_fc78d_8 : decode cJ1_canEncode_fc78d 8 = .ok (.goto 4, 3) := by decide +kernel
theorem dJ1_canEncode_fc78d_11 : decode cJ1_canEncode_fc78d 11 = .ok (.iconst 0, 1) := by decide +kernel
theorem dJ1_canEncode_fc78d_12 : decode cJ1_canEncode_fc78d 12 = .ok (.ireturn, 1) := by decide +kernel
theorem q3_209 : (Jvm.Cond.code ({ cls := "java/lang/StringLatin1", name := "canEncode", desc := "(C)Z" } : Jvm.MethodName) prog_25_method_3_code (1 : Nat) (Option.some Jvm.ClassFile.FieldType.boolean)) ∈ lw_g := zg_of (zin3 (List.mem_of_getElem? (i := 209) rfl)) rfl
theorem q1_29 : (Jvm.Cond.initialized "java/lang/StringLatin1") ∈ lw_g := zg_of (zin1 (List.mem_of_getElem? (i := 29) rfl)) rfl
theorem q3_208 : (Jvm.Cond.static ({ cls := "java/lang/StringLatin1", name := "canEncode", desc := "(C)Z" } : Jvm.MethodName)) ∈ lw_g := zg_of (zin3 (List.mem_of_getElem? (i := 208) rfl)) rfl
theorem ok_J1_canEncode_fc78d : zOS yJ1_canEncode_fc78d cJ1_canEncode_fc78d 1 ((Option.some Jvm.ClassFile.FieldType.boolean)) 1 := ⟨⟨q3_209, q1_29, by decide, by decide, by decide +kernel⟩, q3_208⟩
set_option maxHeartbeats 4000000 in
set_option maxRecDepth 100000 in
theorem c_sEnc (l : Launch) (G : zG)  : Met l yJ1_canEncode_fc78d (wq yJ1_canEncode_fc78d cJ1_canEncode_fc78d 1 ((Option.some Jvm.ClassFile.FieldType.boolean))) (rmR 0 0) (va_Pc [.int (zI (32))] (zK G (fun _ => True))) (zQ (some (.int (bI (true))))) 0 0 zF := by
  refine z_enterB (by decide +kernel) (Nat.le_of_ble_eq_true rfl) ?_
  intro p env s m below meth cod Q S hG hP ret ls hl
  have hl : lv_has ls 1 [(0, .int (zI (32)))] := hl
  refine z_iload_n S dJ1_canEncode_fc78d_0 hl 0 rfl rfl ?_
  refine z_sipush S dJ1_canEncode_fc78d_1 rfl ?_
  refine z_icmp_gt_F S 11 dJ1_canEncode_fc78d_4 (by decide) (by omega) (by omega) (by omega) ?_
  refine z_iconst S dJ1_canEncode_fc78d_7 ?_
  refine z_goto S 12 dJ1_canEncode_fc78d_8 (by decide) ?_
  exact ret _ _ _ dJ1_canEncode_fc78d_12 (rfl)
theorem dJ8_newLength_cabcc_0 : decode cJ8_newLength_cabcc 0 = .ok (.iload_n 0, 1) := by decide +kernel
theorem dJ8_newLength_cabcc_1 : decode cJ8_newLength_cabcc 1 = .ok (.iload_n 1, 1) := by decide +kernel
theorem dJ8_newLength_cabcc_2 : decode cJ8_newLength_cabcc 2 = .ok (.iload_n 2, 1) := by decide +kernel
theorem dJ8_newLength_cabcc_3 : decode cJ8_newLength_cabcc 3 = .ok (.invokestatic 194, 3) := by decide +kernel
theorem dJ8_newLength_cabcc_6 : decode cJ8_newLength_cabcc 6 = .ok (.iadd, 1) := by decide +kernel
theorem dJ8_newLength_cabcc_7 : decode cJ8_newLength_cabcc 7 = .ok (.istore_n 3, 1) := by decide +kernel
theorem dJ8_newLength_cabcc_8 : decode cJ8_newLength_cabcc 8 = .ok (.iconst 0, 1) := by decide +kernel
theorem dJ8_newLength_cabcc_9 : decode cJ8_newLength_cabcc 9 = .ok (.iload_n 3, 1) := by decide +kernel
theorem dJ8_newLength_cabcc_10 : decode cJ8_newLength_cabcc 10 = .ok (.if_icmp .ge 11, 3) := by decide +kernel
theorem dJ8_newLength_cabcc_13 : decode cJ8_newLength_cabcc 13 = .ok (.iload_n 3, 1) := by decide +kernel
theorem dJ8_newLength_cabcc_14 : decode cJ8_newLength_cabcc 14 = .ok (.ldc 200, 2) := by decide +kernel
theorem dJ8_newLength_cabcc_16 : decode cJ8_newLength_cabcc 16 = .ok (.if_icmp .gt 5, 3) := by decide +kernel
theorem dJ8_newLength_cabcc_19 : decode cJ8_newLength_cabcc 19 = .ok (.iload_n 3, 1) := by decide +kernel
theorem dJ8_newLength_cabcc_20 : decode cJ8_newLength_cabcc 20 = .ok (.ireturn, 1) := by decide +kernel
theorem dJ8_newLength_cabcc_21 : decode cJ8_newLength_cabcc 21 = .ok (.iload_n 0, 1) := by decide +kernel
theorem dJ8_newLength_cabcc_22 : decode cJ8_newLength_cabcc 22 = .ok (.iload_n 1, 1) := by decide +kernel
theorem dJ8_newLength_cabcc_23 : decode cJ8_newLength_cabcc 23 = .ok (.invokestatic 201, 3) := by decide +kernel
theorem dJ8_newLength_cabcc_26 : decode cJ8_newLength_cabcc 26 = .ok (.ireturn, 1) := by decide +kernel
theorem q3_180 : (Jvm.Cond.methodLink "jdk/internal/util/ArraysSupport" (194 : Nat) ({ cls := "java/lang/Math", name := "max", desc := "(II)I" } : Jvm.MethodName)) ∈ lw_g := zg_of (zin3 (List.mem_of_getElem? (i := 180) rfl)) rfl
theorem q3_181 : (Jvm.Cond.constant "jdk/internal/util/ArraysSupport" (200 : Nat) (2147483639 : Int32)) ∈ lw_g := zg_of (zin3 (List.mem_of_getElem? (i := 181) rfl)) rfl
theorem q3_179 : (Jvm.Cond.code ({ cls := "jdk/internal/util/ArraysSupport", name := "newLength", desc := "(III)I" } : Jvm.MethodName) prog_42_method_27_code (4 : Nat) (Option.some Jvm.ClassFile.FieldType.int)) ∈ lw_g := zg_of (zin3 (List.mem_of_getElem? (i := 179) rfl)) rfl
theorem q1_17 : (Jvm.Cond.initialized "jdk/internal/util/ArraysSupport") ∈ lw_g := zg_of (zin1 (List.mem_of_getElem? (i := 17) rfl)) rfl
theorem q3_178 : (Jvm.Cond.static ({ cls := "jdk/internal/util/ArraysSupport", name := "newLength", desc := "(III)I" } : Jvm.MethodName)) ∈ lw_g := zg_of (zin3 (List.mem_of_getElem? (i := 178) rfl)) rfl
theorem ok_J8_newLength_cabcc : zOS yJ8_newLength_cabcc cJ8_newLength_cabcc 4 ((Option.some Jvm.ClassFile.FieldType.int)) 3 := ⟨⟨q3_179, q1_17, by decide, by decide, by decide +kernel⟩, q3_178⟩
set_option maxHeartbeats 4000000 in
set_option maxRecDepth 100000 in
theorem c_sNl (l : Launch) (G : zG) (d : Int) (hd : 0 ≤ d ∧ d ≤ 18) : Met l yJ8_newLength_cabcc (wq yJ8_newLength_cabcc cJ8_newLength_cabcc 4 ((Option.some Jvm.ClassFile.FieldType.int))) (rmR 1 21) (va_Pc [.int (zI (16)), .int (zI (d)), .int (zI (18))] (zK G (fun _ => True))) (zQ (some (.int ((zI (34)))))) 0 0 zF := by
  refine z_enterI (by decide +kernel) (Nat.le_of_ble_eq_true rfl) ?_
  intro p env s m below meth cod Q S hG hP ret ls hl
  have hl : lv_has ls 4 [(0, .int (zI (16))), (1, .int (zI (d))), (2, .int (zI (18)))] := hl
  refine z_iload_n S dJ8_newLength_cabcc_0 hl 0 rfl rfl ?_
  refine z_iload_n S dJ8_newLength_cabcc_1 hl 1 rfl rfl ?_
  refine z_iload_n S dJ8_newLength_cabcc_2 hl 2 rfl rfl ?_
  refine z_max S q3_180 q1_236 q1_18 (by exact q1_237) (by decide) (Nat.le_of_ble_eq_true rfl) ⟨Nat.zero_le _, Nat.zero_le _⟩ hl.1 dJ8_newLength_cabcc_3 ?_
  rw [show (if (zI (d)) < (zI (18)) then (zI (18)) else (zI (d))) = zI 18 from by rcases (show d < 18 ∨ d = 18 by omega) with q | q; rw [if_pos ((zI_lt (by omega) (by omega)).mpr q)]; rw [q]; rfl]
  refine z_iadd S dJ8_newLength_cabcc_6 ?_
  refine z_istore_n (lv' := [(3, .int (zI ((16) + (18)))), (0, .int (zI (16))), (1, .int (zI (d))), (2, .int (zI (18)))]) S dJ8_newLength_cabcc_7 hl rfl (by decide) rfl (fun ls hl => ?_)
  refine z_iconst S dJ8_newLength_cabcc_8 ?_
  refine z_iload_n S dJ8_newLength_cabcc_9 hl 0 rfl rfl ?_
  refine z_icmp_ge_F S 21 dJ8_newLength_cabcc_10 (by decide) (by omega) (by omega) (by omega) ?_
  refine z_iload_n S dJ8_newLength_cabcc_13 hl 0 rfl rfl ?_
  refine z_ldc S (2147483639) q3_181 rfl dJ8_newLength_cabcc_14 ?_
  refine z_icmp_gt_F S 21 dJ8_newLength_cabcc_16 (by decide) (by omega) (by omega) (by omega) ?_
  refine z_iload_n S dJ8_newLength_cabcc_19 hl 0 rfl rfl ?_
  exact ret _ _ _ dJ8_newLength_cabcc_20 (rfl)
theorem dJ5_newCapacity_0f7a4_0 : decode cJ5_newCapacity_0f7a4 0 = .ok (.aload_n 0, 1) := by decide +kernel
theorem dJ5_newCapacity_0f7a4_1 : decode cJ5_newCapacity_0f7a4 1 = .ok (.getfield 15, 3) := by decide +kernel
theorem dJ5_newCapacity_0f7a4_4 : decode cJ5_newCapacity_0f7a4 4 = .ok (.arraylength, 1) := by decide +kernel
theorem dJ5_newCapacity_0f7a4_5 : decode cJ5_newCapacity_0f7a4 5 = .ok (.istore_n 2, 1) := by decide +kernel
theorem dJ5_newCapacity_0f7a4_6 : decode cJ5_newCapacity_0f7a4 6 = .ok (.iload_n 1, 1) := by decide +kernel
theorem dJ5_newCapacity_0f7a4_7 : decode cJ5_newCapacity_0f7a4 7 = .ok (.aload_n 0, 1) := by decide +kernel
theorem dJ5_newCapacity_0f7a4_8 : decode cJ5_newCapacity_0f7a4 8 = .ok (.getfield 22, 3) := by decide +kernel
theorem dJ5_newCapacity_0f7a4_11 : decode cJ5_newCapacity_0f7a4 11 = .ok (.ishl, 1) := by decide +kernel
theorem dJ5_newCapacity_0f7a4_12 : decode cJ5_newCapacity_0f7a4 12 = .ok (.istore_n 3, 1) := by decide +kernel
theorem dJ5_newCapacity_0f7a4_13 : decode cJ5_newCapacity_0f7a4 13 = .ok (.iload_n 3, 1) := by decide +kernel
theorem dJ5_newCapacity_0f7a4_14 : decode cJ5_newCapacity_0f7a4 14 = .ok (.iload_n 2, 1) := by decide +kernel
theorem dJ5_newCapacity_0f7a4_15 : decode cJ5_newCapacity_0f7a4 15 = .ok (.isub, 1) := by decide +kernel
theorem dJ5_newCapacity_0f7a4_16 : decode cJ5_newCapacity_0f7a4 16 = .ok (.istore 4, 2) := by decide +kernel
theorem dJ5_newCapacity_0f7a4_18 : decode cJ5_newCapacity_0f7a4 18 = .ok (.iload_n 2, 1) := by decide +kernel
theorem dJ5_newCapacity_0f7a4_19 : decode cJ5_newCapacity_0f7a4 19 = .ok (.iload 4, 2) := by decide +kernel
theorem dJ5_newCapacity_0f7a4_21 : decode cJ5_newCapacity_0f7a4 21 = .ok (.iload_n 2, 1) := by decide +kernel
theorem dJ5_newCapacity_0f7a4_22 : decode cJ5_newCapacity_0f7a4 22 = .ok (.iconst 2, 1) := by decide +kernel
theorem dJ5_newCapacity_0f7a4_23 : decode cJ5_newCapacity_0f7a4 23 = .ok (.aload_n 0, 1) := by decide +kernel
theorem dJ5_newCapacity_0f7a4_24 : decode cJ5_newCapacity_0f7a4 24 = .ok (.getfield 22, 3) := by decide +kernel
theorem dJ5_newCapacity_0f7a4_27 : decode cJ5_newCapacity_0f7a4 27 = .ok (.ishl, 1) := by decide +kernel
theorem dJ5_newCapacity_0f7a4_28 : decode cJ5_newCapacity_0f7a4 28 = .ok (.iadd, 1) := by decide +kernel
theorem dJ5_newCapacity_0f7a4_29 : decode cJ5_newCapacity_0f7a4 29 = .ok (.invokestatic 114, 3) := by decide +kernel
theorem dJ5_newCapacity_0f7a4_32 : decode cJ5_newCapacity_0f7a4 32 = .ok (.istore 5, 2) := by decide +kernel
theorem dJ5_newCapacity_0f7a4_34 : decode cJ5_newCapacity_0f7a4 34 = .ok (.iload 5, 2) := by decide +kernel
theorem dJ5_newCapacity_0f7a4_36 : decode cJ5_newCapacity_0f7a4 36 = .ok (.ldc 39, 2) := by decide +kernel
theorem dJ5_newCapacity_0f7a4_38 : decode cJ5_newCapacity_0f7a4 38 = .ok (.if_icmp .ne 13, 3) := by decide +kernel
theorem dJ5_newCapacity_0f7a4_41 : decode cJ5_newCapacity_0f7a4 41 = .ok (.new 120, 3) := by decide +kernel
theorem dJ5_newCapacity_0f7a4_44 : decode cJ5_newCapacity_0f7a4 44 = .ok (.dup, 1) := by decide +kernel
theorem dJ5_newCapacity_0f7a4_45 : decode cJ5_newCapacity_0f7a4 45 = .ok (.ldc 122, 2) := by decide +kernel
theorem dJ5_newCapacity_0f7a4_47 : decode cJ5_newCapacity_0f7a4 47 = .ok (.invokespecial 124, 3) := by decide +kernel
theorem dJ5_newCapacity_0f7a4_50 : decode cJ5_newCapacity_0f7a4 50 = .ok (.athrow, 1) := by decide +kernel
theorem dJ5_newCapacity_0f7a4_51 : decode cJ5_newCapacity_0f7a4 51 = .ok (.iload 5, 2) := by decide +kernel
theorem dJ5_newCapacity_0f7a4_53 : decode cJ5_newCapacity_0f7a4 53 = .ok (.aload_n 0, 1) := by decide +kernel
theorem dJ5_newCapacity_0f7a4_54 : decode cJ5_newCapacity_0f7a4 54 = .ok (.getfield 22, 3) := by decide +kernel
theorem dJ5_newCapacity_0f7a4_57 : decode cJ5_newCapacity_0f7a4 57 = .ok (.ishr, 1) := by decide +kernel
theorem dJ5_newCapacity_0f7a4_58 : decode cJ5_newCapacity_0f7a4 58 = .ok (.ireturn, 1) := by decide +kernel
theorem q3_149 : (Jvm.Cond.fieldLink "java/lang/AbstractStringBuilder" (15 : Nat) "java/lang/AbstractStringBuilder" "value" "[B") ∈ lw_g := zg_of (zin3 (List.mem_of_getElem? (i := 149) rfl)) rfl
theorem q3_177 : (Jvm.Cond.methodLink "java/lang/AbstractStringBuilder" (114 : Nat) ({ cls := "jdk/internal/util/ArraysSupport", name := "newLength", desc := "(III)I" } : Jvm.MethodName)) ∈ lw_g := zg_of (zin3 (List.mem_of_getElem? (i := 177) rfl)) rfl
theorem q3_185 : (Jvm.Cond.constant "java/lang/AbstractStringBuilder" (39 : Nat) (2147483647 : Int32)) ∈ lw_g := zg_of (zin3 (List.mem_of_getElem? (i := 185) rfl)) rfl
theorem q3_176 : (Jvm.Cond.code ({ cls := "java/lang/AbstractStringBuilder", name := "newCapacity", desc := "(I)I" } : Jvm.MethodName) prog_8_method_10_code (6 : Nat) (Option.some Jvm.ClassFile.FieldType.int)) ∈ lw_g := zg_of (zin3 (List.mem_of_getElem? (i := 176) rfl)) rfl
theorem ok_J5_newCapacity_0f7a4 : zOK yJ5_newCapacity_0f7a4 cJ5_newCapacity_0f7a4 6 ((Option.some Jvm.ClassFile.FieldType.int)) 1 := ⟨q3_176, q1_25, by decide, by decide, by decide +kernel⟩
set_option maxHeartbeats 4000000 in
set_option maxRecDepth 100000 in
theorem c_sNc (l : Launch) (G : zG) (q v n : Nat) (mn : Int) (hm : 16 < mn ∧ mn ≤ 18) : Met l yJ5_newCapacity_0f7a4 (wq yJ5_newCapacity_0f7a4 cJ5_newCapacity_0f7a4 6 ((Option.some Jvm.ClassFile.FieldType.int))) (rmR 2 44) (va_Pc [.ref (q), .int (zI (mn))] (zK G (fun H => hSB G q v n 16 H))) (zQ (some (.int ((zI (34)))))) 0 0 zF := by
  refine z_enterI (by decide +kernel) (Nat.le_of_ble_eq_true rfl) ?_
  intro p env s m below meth cod Q S hG hP ret ls hl
  have hl : lv_has ls 6 [(0, .ref (q)), (1, .int (zI (mn)))] := hl
  refine z_aload_n S dJ5_newCapacity_0f7a4_0 hl 0 rfl rfl ?_
  refine z_getR S hG hP.1 zc_J4 0 (by decide) q3_149 rfl dJ5_newCapacity_0f7a4_1 ?_
  refine z_blen S (zG_by hG) hP.2.1 dJ5_newCapacity_0f7a4_4 ?_
  refine z_istore_n (lv' := [(2, .int (zI (((16 : Nat) : Int)))), (0, .ref (q)), (1, .int (zI (mn)))]) S dJ5_newCapacity_0f7a4_5 hl rfl (by decide) rfl (fun ls hl => ?_)
  refine z_iload_n S dJ5_newCapacity_0f7a4_6 hl 2 rfl rfl ?_
  refine z_aload_n S dJ5_newCapacity_0f7a4_7 hl 1 rfl rfl ?_
  refine z_getR S hG hP.1 zc_J4 1 (by decide) q3_150 rfl dJ5_newCapacity_0f7a4_8 ?_
  refine lv_ishl S.1 S.2.1 dJ5_newCapacity_0f7a4_11 ?_
  rw [z_shl0]
  refine z_istore_n (lv' := [(3, .int (zI (mn))), (2, .int (zI (((16 : Nat) : Int)))), (0, .ref (q)), (1, .int (zI (mn)))]) S dJ5_newCapacity_0f7a4_12 hl rfl (by decide) rfl (fun ls hl => ?_)
  refine z_iload_n S dJ5_newCapacity_0f7a4_13 hl 0 rfl rfl ?_
  refine z_iload_n S dJ5_newCapacity_0f7a4_14 hl 1 rfl rfl ?_
  refine z_isub S dJ5_newCapacity_0f7a4_15 ?_
  refine z_istore (lv' := [(4, .int (zI ((mn) - (((16 : Nat) : Int))))), (3, .int (zI (mn))), (2, .int (zI (((16 : Nat) : Int)))), (0, .ref (q)), (1, .int (zI (mn)))]) S dJ5_newCapacity_0f7a4_16 hl (by decide) rfl (fun ls hl => ?_)
  refine z_iload_n S dJ5_newCapacity_0f7a4_18 hl 2 rfl rfl ?_
  refine z_iload S dJ5_newCapacity_0f7a4_19 hl 0 rfl ?_
  refine z_iload_n S dJ5_newCapacity_0f7a4_21 hl 2 rfl rfl ?_
  refine z_iconst S dJ5_newCapacity_0f7a4_22 ?_
  refine z_aload_n S dJ5_newCapacity_0f7a4_23 hl 3 rfl rfl ?_
  refine z_getR S hG hP.1 zc_J4 1 (by decide) q3_150 rfl dJ5_newCapacity_0f7a4_24 ?_
  refine lv_ishl S.1 S.2.1 dJ5_newCapacity_0f7a4_27 ?_
  rw [z_shl0]
  refine z_iadd S dJ5_newCapacity_0f7a4_28 ?_
  refine z_callSs S hG (c_sNl l G (mn - 16) (by omega)) ok_J8_newLength_cabcc q3_177 (trivial) ⟨rfl, rfl, by decide, by decide⟩ ⟨Nat.zero_le _, Nat.zero_le _⟩ rfl (Nat.le_of_ble_eq_true rfl) hl.1 rfl dJ5_newCapacity_0f7a4_29 ?_
  refine z_istore (lv' := [(5, .int (zI (34))), (4, .int (zI ((mn) - (((16 : Nat) : Int))))), (3, .int (zI (mn))), (2, .int (zI (((16 : Nat) : Int)))), (0, .ref (q)), (1, .int (zI (mn)))]) S dJ5_newCapacity_0f7a4_32 hl (by decide) rfl (fun ls hl => ?_)
  refine z_iload S dJ5_newCapacity_0f7a4_34 hl 0 rfl ?_
  refine z_ldc S (2147483647) q3_185 rfl dJ5_newCapacity_0f7a4_36 ?_
  refine z_icmp_ne_T S 51 dJ5_newCapacity_0f7a4_38 (by decide) (by omega) (by omega) (by omega) ?_
  refine z_iload S dJ5_newCapacity_0f7a4_51 hl 0 rfl ?_
  refine z_aload_n S dJ5_newCapacity_0f7a4_53 hl 4 rfl rfl ?_
  refine z_getR S hG hP.1 zc_J4 1 (by decide) q3_150 rfl dJ5_newCapacity_0f7a4_54 ?_
  refine lv_ishr S.1 S.2.1 dJ5_newCapacity_0f7a4_57 ?_
  rw [z_shr0]
  exact ret _ _ _ dJ5_newCapacity_0f7a4_58 (rfl)
theorem dJ7_copyOf_9075b_0 : decode cJ7_copyOf_9075b 0 = .ok (.iload_n 1, 1) := by decide +kernel
theorem dJ7_copyOf_9075b_1 : decode cJ7_copyOf_9075b 1 = .ok (.aload_n 0, 1) := by decide +kernel
theorem dJ7_copyOf_9075b_2 : decode cJ7_copyOf_9075b 2 = .ok (.arraylength, 1) := by decide +kernel
theorem dJ7_copyOf_9075b_3 : decode cJ7_copyOf_9075b 3 = .ok (.if_icmp .ne 11, 3) := by decide +kernel
theorem dJ7_copyOf_9075b_6 : decode cJ7_copyOf_9075b 6 = .ok (.aload_n 0, 1) := by decide +kernel
theorem dJ7_copyOf_9075b_7 : decode cJ7_copyOf_9075b 7 = .ok (.invokevirtual 310, 3) := by decide +kernel
theorem dJ7_copyOf_9075b_10 : decode cJ7_copyOf_9075b 10 = .ok (.checkcast 311, 3) := by decide +kernel
theorem dJ7_copyOf_9075b_13 : decode cJ7_copyOf_9075b 13 = .ok (.areturn, 1) := by decide +kernel
theorem dJ7_copyOf_9075b_14 : decode cJ7_copyOf_9075b 14 = .ok (.iload_n 1, 1) := by decide +kernel
theorem dJ7_copyOf_9075b_15 : decode cJ7_copyOf_9075b 15 = .ok (.newarray .byte, 2) := by decide +kernel
theorem dJ7_copyOf_9075b_17 : decode cJ7_copyOf_9075b 17 = .ok (.astore_n 2, 1) := by decide +kernel
theorem dJ7_copyOf_9075b_18 : decode cJ7_copyOf_9075b 18 = .ok (.aload_n 0, 1) := by decide +kernel
theorem dJ7_copyOf_9075b_19 : decode cJ7_copyOf_9075b 19 = .ok (.iconst 0, 1) := by decide +kernel
theorem dJ7_copyOf_9075b_20 : decode cJ7_copyOf_9075b 20 = .ok (.aload_n 2, 1) := by decide +kernel
theorem dJ7_copyOf_9075b_21 : decode cJ7_copyOf_9075b 21 = .ok (.iconst 0, 1) := by decide +kernel
theorem dJ7_copyOf_9075b_22 : decode cJ7_copyOf_9075b 22 = .ok (.aload_n 0, 1) := by decide +kernel
theorem dJ7_copyOf_9075b_23 : decode cJ7_copyOf_9075b 23 = .ok (.arraylength, 1) := by decide +kernel
theorem dJ7_copyOf_9075b_24 : decode cJ7_copyOf_9075b 24 = .ok (.iload_n 1, 1) := by decide +kernel
theorem dJ7_copyOf_9075b_25 : decode cJ7_copyOf_9075b 25 = .ok (.invokestatic 304, 3) := by decide +kernel
theorem dJ7_copyOf_9075b_28 : decode cJ7_copyOf_9075b 28 = .ok (.invokestatic 150, 3) := by decide +kernel
theorem dJ7_copyOf_9075b_31 : decode cJ7_copyOf_9075b 31 = .ok (.aload_n 2, 1) := by decide +kernel
theorem dJ7_copyOf_9075b_32 : decode cJ7_copyOf_9075b 32 = .ok (.areturn, 1) := by decide +kernel
theorem q3_196 : (Jvm.Cond.methodLink "java/util/Arrays" (304 : Nat) ({ cls := "java/lang/Math", name := "min", desc := "(II)I" } : Jvm.MethodName)) ∈ lw_g := zg_of (zin3 (List.mem_of_getElem? (i := 196) rfl)) rfl
theorem q3_197 : (Jvm.Cond.static ({ cls := "java/lang/Math", name := "min", desc := "(II)I" } : Jvm.MethodName)) ∈ lw_g := zg_of (zin3 (List.mem_of_getElem? (i := 197) rfl)) rfl
theorem q3_198 : (Jvm.Cond.code ({ cls := "java/lang/Math", name := "min", desc := "(II)I" } : Jvm.MethodName) prog_20_method_69_code (2 : Nat) (Option.some Jvm.ClassFile.FieldType.int)) ∈ lw_g := zg_of (zin3 (List.mem_of_getElem? (i := 198) rfl)) rfl
theorem q3_199 : (Jvm.Cond.methodLink "java/util/Arrays" (150 : Nat) ({ cls := "java/lang/System", name := "arraycopy", desc := "(Ljava/lang/Object;ILjava/lang/Object;II)V" } : Jvm.MethodName)) ∈ lw_g := zg_of (zin3 (List.mem_of_getElem? (i := 199) rfl)) rfl
theorem q3_188 : (Jvm.Cond.code ({ cls := "java/util/Arrays", name := "copyOf", desc := "([BI)[B" } : Jvm.MethodName) prog_35_method_121_code (3 : Nat) (Option.some (Jvm.ClassFile.FieldType.array Jvm.ClassFile.FieldType.byte))) ∈ lw_g := zg_of (zin3 (List.mem_of_getElem? (i := 188) rfl)) rfl
theorem q1_19 : (Jvm.Cond.initialized "java/util/Arrays") ∈ lw_g := zg_of (zin1 (List.mem_of_getElem? (i := 19) rfl)) rfl
theorem q3_187 : (Jvm.Cond.static ({ cls := "java/util/Arrays", name := "copyOf", desc := "([BI)[B" } : Jvm.MethodName)) ∈ lw_g := zg_of (zin3 (List.mem_of_getElem? (i := 187) rfl)) rfl
theorem ok_J7_copyOf_9075b : zOS yJ7_copyOf_9075b cJ7_copyOf_9075b 3 ((Option.some (Jvm.ClassFile.FieldType.array Jvm.ClassFile.FieldType.byte))) 2 := ⟨⟨q3_188, q1_19, by decide, by decide, by decide +kernel⟩, q3_187⟩
set_option maxHeartbeats 4000000 in
set_option maxRecDepth 100000 in
theorem c_sCo (l : Launch) (G : zG) (v sz : Nat) : Met l yJ7_copyOf_9075b (wq yJ7_copyOf_9075b cJ7_copyOf_9075b 3 ((Option.some (Jvm.ClassFile.FieldType.array Jvm.ClassFile.FieldType.byte)))) (rmM 1 40 1 34) (va_Pc [.ref (v), .int (zI (34))] (zK G (fun H => zBy (G.2 3) v 16 H ∧ H.size = sz))) (zM (fun y => sz ≤ y) (some (.ref (sz))) (fun H => zBy (G.2 3) sz 34 H)) 1 34 (fun y => sz ≤ y) := by
  refine z_enterMR (by decide +kernel) (Nat.le_of_ble_eq_true rfl) ?_
  intro p env s m below meth cod Q S hG hP hS ret ls hl
  have hl : lv_has ls 3 [(0, .ref (v)), (1, .int (zI (34)))] := hl
  obtain ⟨hV, hz0⟩ := hP
  refine z_iload_n S dJ7_copyOf_9075b_0 hl 1 rfl rfl ?_
  refine z_aload_n S dJ7_copyOf_9075b_1 hl 0 rfl rfl ?_
  refine z_blen S (zG_by hG) hV dJ7_copyOf_9075b_2 ?_
  refine z_icmp_ne_T S 14 dJ7_copyOf_9075b_3 (by decide) (by omega) (by omega) (by omega) ?_
  refine z_iload_n S dJ7_copyOf_9075b_14 hl 1 rfl rfl ?_
  refine z_newB (N := 34) S hG (Nat.le_of_ble_eq_true rfl) q_arrB hS ⟨Nat.le_of_ble_eq_true rfl, Nat.le_of_ble_eq_true rfl⟩ dJ7_copyOf_9075b_15 (fun n1 H_1 hq_n1 hat hz oq hS => ?_)
  have lt_hV_n1 : n1 > v := by rw [hq_n1]; exact zBy.lt hV
  have hV := zBy.kept hV (fun _ => oq _ (zBy.lt hV))
  have h_n1 := hat
  refine z_astore_n (lv' := [(2, .ref (n1)), (0, .ref (v)), (1, .int (zI (34)))]) S dJ7_copyOf_9075b_17 hl rfl (by decide) rfl (fun ls hl => ?_)
  refine z_aload_n S dJ7_copyOf_9075b_18 hl 1 rfl rfl ?_
  refine z_iconst S dJ7_copyOf_9075b_19 ?_
  refine z_aload_n S dJ7_copyOf_9075b_20 hl 0 rfl rfl ?_
  refine z_iconst S dJ7_copyOf_9075b_21 ?_
  refine z_aload_n S dJ7_copyOf_9075b_22 hl 1 rfl rfl ?_
  refine z_blen S (zG_by hG) hV dJ7_copyOf_9075b_23 ?_
  refine z_iload_n S dJ7_copyOf_9075b_24 hl 2 rfl rfl ?_
  refine z_min S (by omega) (by omega) q3_196 q3_197 q1_18 (by exact q3_198) (by decide) (Nat.le_of_ble_eq_true rfl) ⟨Nat.le_of_ble_eq_true rfl, Nat.le_of_ble_eq_true rfl⟩ hl.1 dJ7_copyOf_9075b_25 ?_
  rw [show (if 34 < ((16 : Nat) : Int) then 34 else ((16 : Nat) : Int)) = 16 from by decide]
  refine z_copyBy S hG hV h_n1 hS (by show sz ≤ n1; omega) (dp := 0) (n := 16) (by omega) (by omega) q3_199 ⟨q3_201, q3_200, q1_20⟩ hl.1 (by decide) (Nat.le_of_ble_eq_true rfl) dJ7_copyOf_9075b_28 (fun H_2 L_2 hat hz oq hS => ?_)
  have hV := zBy.kept hV (fun _ => oq _ (show n1 ≠ v by omega).symm)
  have h_n1 := hat
  obtain rfl : n1 = sz := by omega
  refine z_aload_n S dJ7_copyOf_9075b_31 hl 0 rfl rfl ?_
  exact ret _ _ _ _ _ _ dJ7_copyOf_9075b_32 hS (h_n1) (Nat.le_of_ble_eq_true rfl) (Nat.le_of_ble_eq_true rfl)
theorem dJ5_ensureCapacityInternal_d00df_0 : decode cJ5_ensureCapacityInternal_d00df 0 = .ok (.aload_n 0, 1) := by decide +kernel
theorem dJ5_ensureCapacityInternal_d00df_1 : decode cJ5_ensureCapacityInternal_d00df 1 = .ok (.getfield 15, 3) := by decide +kernel
theorem dJ5_ensureCapacityInternal_d00df_4 : decode cJ5_ensureCapacityInternal_d00df 4 = .ok (.arraylength, 1) := by decide +kernel
theorem dJ5_ensureCapacityInternal_d00df_5 : decode cJ5_ensureCapacityInternal_d00df 5 = .ok (.aload_n 0, 1) := by decide +kernel
theorem dJ5_ensureCapacityInternal_d00df_6 : decode cJ5_ensureCapacityInternal_d00df 6 = .ok (.getfield 22, 3) := by decide +kernel
theorem dJ5_ensureCapacityInternal_d00df_9 : decode cJ5_ensureCapacityInternal_d00df 9 = .ok (.ishr, 1) := by decide +kernel
theorem dJ5_ensureCapacityInternal_d00df_10 : decode cJ5_ensureCapacityInternal_d00df 10 = .ok (.istore_n 2, 1) := by decide +kernel
theorem dJ5_ensureCapacityInternal_d00df_11 : decode cJ5_ensureCapacityInternal_d00df 11 = .ok (.iload_n 1, 1) := by decide +kernel
theorem dJ5_ensureCapacityInternal_d00df_12 : decode cJ5_ensureCapacityInternal_d00df 12 = .ok (.iload_n 2, 1) := by decide +kernel
theorem dJ5_ensureCapacityInternal_d00df_13 : decode cJ5_ensureCapacityInternal_d00df 13 = .ok (.isub, 1) := by decide +kernel
theorem dJ5_ensureCapacityInternal_d00df_14 : decode cJ5_ensureCapacityInternal_d00df 14 = .ok (.ifCond .le 24, 3) := by decide +kernel
theorem dJ5_ensureCapacityInternal_d00df_17 : decode cJ5_ensureCapacityInternal_d00df 17 = .ok (.aload_n 0, 1) := by decide +kernel
theorem dJ5_ensureCapacityInternal_d00df_18 : decode cJ5_ensureCapacityInternal_d00df 18 = .ok (.aload_n 0, 1) := by decide +kernel
theorem dJ5_ensureCapacityInternal_d00df_19 : decode cJ5_ensureCapacityInternal_d00df 19 = .ok (.getfield 15, 3) := by decide +kernel
theorem dJ5_ensureCapacityInternal_d00df_22 : decode cJ5_ensureCapacityInternal_d00df 22 = .ok (.aload_n 0, 1) := by decide +kernel
theorem dJ5_ensureCapacityInternal_d00df_23 : decode cJ5_ensureCapacityInternal_d00df 23 = .ok (.iload_n 1, 1) := by decide +kernel
theorem dJ5_ensureCapacityInternal_d00df_24 : decode cJ5_ensureCapacityInternal_d00df 24 = .ok (.invokevirtual 104, 3) := by decide +kernel
theorem dJ5_ensureCapacityInternal_d00df_27 : decode cJ5_ensureCapacityInternal_d00df 27 = .ok (.aload_n 0, 1) := by decide +kernel
theorem dJ5_ensureCapacityInternal_d00df_28 : decode cJ5_ensureCapacityInternal_d00df 28 = .ok (.getfield 22, 3) := by decide +kernel
theorem dJ5_ensureCapacityInternal_d00df_31 : decode cJ5_ensureCapacityInternal_d00df 31 = .ok (.ishl, 1) := by decide +kernel
theorem dJ5_ensureCapacityInternal_d00df_32 : decode cJ5_ensureCapacityInternal_d00df 32 = .ok (.invokestatic 108, 3) := by decide +kernel
theorem dJ5_ensureCapacityInternal_d00df_35 : decode cJ5_ensureCapacityInternal_d00df 35 = .ok (.putfield 15, 3) := by decide +kernel
theorem dJ5_ensureCapacityInternal_d00df_38 : decode cJ5_ensureCapacityInternal_d00df 38 = .ok (.return_, 1) := by decide +kernel
theorem q3_173 : (Jvm.Cond.methodLink "java/lang/AbstractStringBuilder" (104 : Nat) ({ cls := "java/lang/AbstractStringBuilder", name := "newCapacity", desc := "(I)I" } : Jvm.MethodName)) ∈ lw_g := zg_of (zin3 (List.mem_of_getElem? (i := 173) rfl)) rfl
theorem q3_175 : (Jvm.Cond.instanceMethod ({ cls := "java/lang/AbstractStringBuilder", name := "newCapacity", desc := "(I)I" } : Jvm.MethodName)) ∈ lw_g := zg_of (zin3 (List.mem_of_getElem? (i := 175) rfl)) rfl
theorem q3_186 : (Jvm.Cond.methodLink "java/lang/AbstractStringBuilder" (108 : Nat) ({ cls := "java/util/Arrays", name := "copyOf", desc := "([BI)[B" } : Jvm.MethodName)) ∈ lw_g := zg_of (zin3 (List.mem_of_getElem? (i := 186) rfl)) rfl
theorem q3_172 : (Jvm.Cond.code ({ cls := "java/lang/AbstractStringBuilder", name := "ensureCapacityInternal", desc := "(I)V" } : Jvm.MethodName) prog_8_method_9_code (3 : Nat) (Option.none : Option Jvm.ClassFile.FieldType)) ∈ lw_g := zg_of (zin3 (List.mem_of_getElem? (i := 172) rfl)) rfl
theorem ok_J5_ensureCapacityInternal_d00df : zOK yJ5_ensureCapacityInternal_d00df cJ5_ensureCapacityInternal_d00df 3 ((Option.none : Option Jvm.ClassFile.FieldType)) 1 := ⟨q3_172, q1_25, by decide, by decide, by decide +kernel⟩
set_option maxHeartbeats 4000000 in
set_option maxRecDepth 100000 in
theorem c_sEn (l : Launch) (G : zG) (q sz n : Nat) (mi : Int) (mn : Nat) (hk : mi = (mn : Int)) (hm : n ≤ mn ∧ mn ≤ n + 2 ∧ mn ≤ 34) : Met l yJ5_ensureCapacityInternal_d00df (wq yJ5_ensureCapacityInternal_d00df cJ5_ensureCapacityInternal_d00df 3 ((Option.none : Option Jvm.ClassFile.FieldType))) (rmM 3 69 1 34) (va_Pc [.ref (q), .int (zI (mi))] (zK G (fun H => hSX G q sz n n H))) (zM (fun y => sz ≤ y) none (fun H => hSX G q sz n mn H)) 1 34 (fun y => sz ≤ y) := by
  refine z_enterMV (by decide +kernel) (Nat.le_of_ble_eq_true rfl) ?_
  intro p env s m below meth cod Q S hnm hG hP hS ret ls hl
  have hl : lv_has ls 3 [(0, .ref (q)), (1, .int (zI (mi)))] := hl
  obtain ⟨v, cap, ⟨hQ, hV, hne⟩, hq, hv, hc, hnn⟩ := hP
  have hqs := va_lt hQ
  have hvs := hV.lt
  rcases (show (mn ≤ cap) ∨ (cap = 16 ∧ 16 < mn ∧ mn ≤ 18) by omega) with hg | ⟨rfl, hg⟩
  · skip
    refine z_aload_n S dJ5_ensureCapacityInternal_d00df_0 hl 0 rfl rfl ?_
    refine z_getR S hG hQ zc_J4 0 (by decide) q3_149 rfl dJ5_ensureCapacityInternal_d00df_1 ?_
    refine z_blen S (zG_by hG) hV dJ5_ensureCapacityInternal_d00df_4 ?_
    refine z_aload_n S dJ5_ensureCapacityInternal_d00df_5 hl 0 rfl rfl ?_
    refine z_getR S hG hQ zc_J4 1 (by decide) q3_150 rfl dJ5_ensureCapacityInternal_d00df_6 ?_
    refine lv_ishr S.1 S.2.1 dJ5_ensureCapacityInternal_d00df_9 ?_
    rw [z_shr0]
    refine z_istore_n (lv' := [(2, .int (zI ((cap : Int)))), (0, .ref (q)), (1, .int (zI (mi)))]) S dJ5_ensureCapacityInternal_d00df_10 hl rfl (by decide) rfl (fun ls hl => ?_)
    refine z_iload_n S dJ5_ensureCapacityInternal_d00df_11 hl 2 rfl rfl ?_
    refine z_iload_n S dJ5_ensureCapacityInternal_d00df_12 hl 0 rfl rfl ?_
    refine z_isub S dJ5_ensureCapacityInternal_d00df_13 ?_
    refine z_if_le_T S 38 dJ5_ensureCapacityInternal_d00df_14 (by decide) (by omega) (by omega) ?_
    exact ret _ _ _ _ _ _ dJ5_ensureCapacityInternal_d00df_38 hS (⟨v, cap, ⟨hQ, hV, hne⟩, hq, hv, by omega, by omega⟩) (Nat.le_of_ble_eq_true rfl) (Nat.le_of_ble_eq_true rfl)
  · skip
    refine z_aload_n S dJ5_ensureCapacityInternal_d00df_0 hl 0 rfl rfl ?_
    refine z_getR S hG hQ zc_J4 0 (by decide) q3_149 rfl dJ5_ensureCapacityInternal_d00df_1 ?_
    refine z_blen S (zG_by hG) hV dJ5_ensureCapacityInternal_d00df_4 ?_
    refine z_aload_n S dJ5_ensureCapacityInternal_d00df_5 hl 0 rfl rfl ?_
    refine z_getR S hG hQ zc_J4 1 (by decide) q3_150 rfl dJ5_ensureCapacityInternal_d00df_6 ?_
    refine lv_ishr S.1 S.2.1 dJ5_ensureCapacityInternal_d00df_9 ?_
    rw [z_shr0]
    refine z_istore_n (lv' := [(2, .int (zI (((16 : Nat) : Int)))), (0, .ref (q)), (1, .int (zI (mi)))]) S dJ5_ensureCapacityInternal_d00df_10 hl rfl (by decide) rfl (fun ls hl => ?_)
    refine z_iload_n S dJ5_ensureCapacityInternal_d00df_11 hl 2 rfl rfl ?_
    refine z_iload_n S dJ5_ensureCapacityInternal_d00df_12 hl 0 rfl rfl ?_
    refine z_isub S dJ5_ensureCapacityInternal_d00df_13 ?_
    refine z_if_le_F S 38 dJ5_ensureCapacityInternal_d00df_14 (by decide) (by omega) (by omega) ?_
    refine z_aload_n S dJ5_ensureCapacityInternal_d00df_17 hl 1 rfl rfl ?_
    refine z_aload_n S dJ5_ensureCapacityInternal_d00df_18 hl 1 rfl rfl ?_
    refine z_getR S hG hQ zc_J4 0 (by decide) q3_149 rfl dJ5_ensureCapacityInternal_d00df_19 ?_
    refine z_aload_n S dJ5_ensureCapacityInternal_d00df_22 hl 1 rfl rfl ?_
    refine z_iload_n S dJ5_ensureCapacityInternal_d00df_23 hl 2 rfl rfl ?_
    refine z_callQr S hG (c_sNc l G q v n mi (by omega)) ok_J5_newCapacity_0f7a4 q3_175 (va_Nw.use rfl (hG.2.2.2.2.2.2.2.2.2.2.2 _ (List.mem_of_getElem? (i := 1) rfl))) (z_rcv hG hQ zc_J4) q3_173 (⟨hQ, hV, hne⟩) ⟨rfl, rfl, by decide, by decide⟩ ⟨Nat.zero_le _, Nat.zero_le _⟩ rfl (Nat.le_of_ble_eq_true rfl) hl.1 rfl dJ5_ensureCapacityInternal_d00df_24 ?_
    refine z_aload_n S dJ5_ensureCapacityInternal_d00df_27 hl 1 rfl rfl ?_
    refine z_getR S hG hQ zc_J4 1 (by decide) q3_150 rfl dJ5_ensureCapacityInternal_d00df_28 ?_
    refine lv_ishl S.1 S.2.1 dJ5_ensureCapacityInternal_d00df_31 ?_
    rw [z_shl0]
    refine z_callSM S hG hS (c_sCo l G v s.heap.size) (fun y z => by have h2 : s.heap.size ≤ y := z; show sz ≤ y; omega) ok_J7_copyOf_9075b q3_186 (⟨hV, rfl⟩) ⟨rfl, rfl, by decide, by decide⟩ ⟨Nat.le_of_ble_eq_true rfl, Nat.le_of_ble_eq_true rfl⟩ rfl (Nat.le_of_ble_eq_true rfl) hl.1 rfl dJ5_ensureCapacityInternal_d00df_32 (fun H_1 L_1 hB hz oq hS => ?_)
    have hQ := va_at.kept hQ (oq _ (va_lt hQ) (by show ¬ (s.heap.size ≤ _); omega))
    have hV := zBy.kept hV (fun _ => oq _ (zBy.lt hV) (by show ¬ (s.heap.size ≤ _); omega))
    have h_nv := hB
    refine z_putR S hG hQ zc_J4 tyJ4 tyJ4_ok nmJ4 hS (by show sz ≤ q; omega) 0 (by decide) q3_149 rfl (tyJ4_ok 0 (by decide)) rfl rfl (Nat.le_of_ble_eq_true rfl) dJ5_ensureCapacityInternal_d00df_35 (fun H_2 L_2 hat hz oq hS => ?_)
    have hQ := hat
    have h_nv := h_nv.kept (fun hx => oq _ (by omega))
    exact ret _ _ _ _ _ _ dJ5_ensureCapacityInternal_d00df_38 hS (⟨s.heap.size, 34, ⟨hQ, h_nv, by omega⟩, hq, by omega, by omega, by omega⟩) (Nat.le_of_ble_eq_true rfl) (Nat.le_of_ble_eq_true rfl)
