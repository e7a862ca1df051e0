theorem dJ5_isLatin1_aae02_0 : decode cJ5_isLatin1_aae02 0 = .ok (.getstatic 18, 3) := by decide +kernel
theorem dJ5_isLatin1_aae02_3 : decode cJ5_isLatin1_aae02 3 = .ok (.ifCond .eq 14, 3) := by decide +kernel
theorem dJ5_isLatin1_aae02_6 : decode cJ5_isLatin1_aae02 6 = .ok (.aload_n 0, 1) := by decide +kernel
theorem dJ5_isLatin1_aae02_7 : decode cJ5_isLatin1_aae02 7 = .ok (.getfield 22, 3) := by decide +kernel
theorem dJ5_isLatin1_aae02_10 : decode cJ5_isLatin1_aae02 10 = .ok (.ifCond .ne 7, 3) := by decide +kernel
theorem dJ5_isLatin1_aae02_13 : decode cJ5_isLatin1_aae02 13 = .ok (.iconst 1, 1) := by decide +kernel
theorem dJ5_isLatin1_aae02_14 : decode cJ5_isLatin1_aae02 14 = .ok (.goto 4, 3) := by decide +kernel
theorem dJ5_isLatin1_aae02_17 : decode cJ5_isLatin1_aae02 17 = .ok (.iconst 0, 1) := by decide +kernel
theorem dJ5_isLatin1_aae02_18 : decode cJ5_isLatin1_aae02 18 = .ok (.ireturn, 1) := by decide +kernel
theorem q3_140 : (Jvm.Cond.fieldLink "java/lang/AbstractStringBuilder" (18 : Nat) "java/lang/String" "COMPACT_STRINGS" "Z") ∈ lw_g := zg_of (zin3 (List.mem_of_getElem? (i := 140) rfl)) rfl
theorem q3_150 : (Jvm.Cond.fieldLink "java/lang/AbstractStringBuilder" (22 : Nat) "java/lang/AbstractStringBuilder" "coder" "B") ∈ lw_g := zg_of (zin3 (List.mem_of_getElem? (i := 150) rfl)) rfl
theorem q3_206 : (Jvm.Cond.code ({ cls := "java/lang/AbstractStringBuilder", name := "isLatin1", desc := "()Z" } : Jvm.MethodName) prog_8_method_68_code (1 : Nat) (Option.some Jvm.ClassFile.FieldType.boolean)) ∈ lw_g := zg_of (zin3 (List.mem_of_getElem? (i := 206) rfl)) rfl
theorem q1_25 : (Jvm.Cond.initialized "java/lang/AbstractStringBuilder") ∈ lw_g := zg_of (zin1 (List.mem_of_getElem? (i := 25) rfl)) rfl
theorem ok_J5_isLatin1_aae02 : zOK yJ5_isLatin1_aae02 cJ5_isLatin1_aae02 1 ((Option.some Jvm.ClassFile.FieldType.boolean)) 0 := ⟨q3_206, q1_25, by decide, by decide, by decide +kernel⟩
set_option maxHeartbeats 4000000 in
set_option maxRecDepth 100000 in
theorem c_sLat (l : Launch) (G : zG) (q v n cap : Nat) : Met l yJ5_isLatin1_aae02 (wq yJ5_isLatin1_aae02 cJ5_isLatin1_aae02 1 ((Option.some Jvm.ClassFile.FieldType.boolean))) (rmR 0 0) (va_Pc [.ref (q)] (zK G (fun H => hSB G q v n cap H ∧ zTx G H))) (zQ (some (.int (bI (true))))) 0 0 zF := by
  refine z_enterB (by decide +kernel) (Nat.le_of_ble_eq_true rfl) ?_
  intro p env s m below meth cod Q S hG hP ret ls hl
  have hl : lv_has ls 1 [(0, .ref (q))] := hl
  refine z_gets S hG 1 rfl hP.2.1 q3_140 dJ5_isLatin1_aae02_0 ?_
  refine lv_if_eq (tgt := 17) S.1 S.2.1 dJ5_isLatin1_aae02_3 (by decide) (fun c_3 => ?_) (fun c_3 => ?_)
  · exact absurd c_3 (by decide)
  refine z_aload_n S dJ5_isLatin1_aae02_6 hl 0 rfl rfl ?_
  refine z_getR S hG hP.1.1 zc_J4 1 (by decide) q3_150 rfl dJ5_isLatin1_aae02_7 ?_
  refine lv_if_ne (tgt := 17) S.1 S.2.1 dJ5_isLatin1_aae02_10 (by decide) (fun c_10 => ?_) (fun c_10 => ?_)
  · exact absurd c_10 (by decide)
  refine z_iconst S dJ5_isLatin1_aae02_13 ?_
  refine z_goto S 18 dJ5_isLatin1_aae02_14 (by decide) ?_
  exact ret _ _ _ dJ5_isLatin1_aae02_18 (rfl)
theorem dJ1_canEncode_fc78d_0 : decode cJ1_canEncode_fc78d 0 = .ok (.iload_n 0, 1) := by decide +kernel
theorem dJ1_canEncode_fc78d_1 : decode cJ1_canEncode_fc78d 1 = .ok (.sipush 255, 3) := by decide +kernel
theorem dJ1_canEncode_fc78d_4 : decode cJ1_canEncode_fc78d 4 = .ok (.if_icmp .gt 7, 3) := by decide +kernel
theorem dJ1_canEncode_fc78d_7 : decode cJ1_canEncode_fc78d 7 = .ok (.iconst 1, 1) := by decide +kernel
theorem dJ1_canEncode_fc78d_8 : decode cJ1_canEncode_fc78d 8 = .ok (.goto 4, 3) := by decide +kernel
theorem dJ1_canEncode_fc78d_11 : decode cJ1_canEncode_fc78d 11 = .ok (.iconst 0, 1) := by decide +kernel
theorem dJ1_canEncode_fc78d_12 : decode cJ1_canEncode_fc78d 12 = .ok (.ireturn, 1) := by decide +kernel
theorem q3_209 : (Jvm.Cond.code ({ cls := "java/lang/StringLatin1", name := "canEncode", desc := "(C)Z" } : Jvm.MethodName) prog_25_method_3_code (1 : Nat) (Option.some Jvm.ClassFile.FieldType.boolean)) ∈ lw_g := zg_of (zin3 (List.mem_of_getElem? (i := 209) rfl)) rfl
theorem q1_29 : (Jvm.Cond.initialized "java/lang/StringLatin1") ∈ lw_g := zg_of (zin1 (List.mem_of_getElem? (i := 29) rfl)) rfl
theorem q3_208 : (Jvm.Cond.static ({ cls := "java/lang/StringLatin1", name := "canEncode", desc := "(C)Z" } : Jvm.MethodName)) ∈ lw_g := zg_of (zin3 (List.mem_of_getElem? (i := 208) rfl)) rfl
theorem ok_J1_canEncode_fc78d : zOS yJ1_canEncode_fc78d cJ1_canEncode_fc78d 1 ((Option.some Jvm.ClassFile.FieldType.boolean)) 1 := ⟨⟨q3_209, q1_29, by decide, by decide, by decide +kernel⟩, q3_208⟩
set_option maxHeartbeats 4000000 in
set_option maxRecDepth 100000 in
theorem c_sEnc (l : Launch) (G : zG)  : Met l yJ1_canEncode_fc78d (wq yJ1_canEncode_fc78d cJ1_canEncode_fc78d 1 ((Option.some Jvm.ClassFile.FieldType.boolean))) (rmR 0 0) (va_Pc [.int (zI (32))] (zK G (fun _ => True))) (zQ (some (.int (bI (true))))) 0 0 zF := by
  refine z_enterB (by decide +kernel) (Nat.le_of_ble_eq_true rfl) ?_
  intro p env s m below meth cod Q S hG hP ret ls hl
  have hl : lv_has ls 1 [(0, .int (zI (32)))] := hl
  refine z_iload_n S dJ1_canEncode_fc78d_0 hl 0 rfl rfl ?_
  refine z_sipush S dJ1_canEncode_fc78d_1 rfl ?_
  refine z_icmp_gt_F S 11 dJ1_canEncode_fc78d_4 (by decide) (by omega) (by omega) (by omega) ?_
  refine z_iconst S dJ1_canEncode_fc78d_7 ?_
  refine z_goto S 12 dJ1_canEncode_fc78d_8 (by decide) ?_
  exact ret _ _ _ dJ1_canEncode_fc78d_12 (rfl)
theorem dJ8_newLength_cabcc_0 : decode cJ8_newLength_cabcc 0 = .ok (.iload_n 0, 1) := by decide +kernel
theorem dJ8_newLength_cabcc_1 : decode cJ8_newLength_cabcc 1 = .ok (.iload_n 1, 1) := by decide +kernel
theorem dJ8_newLength_cabcc_2 : decode cJ8_newLength_cabcc 2 = .ok (.iload_n 2, 1) := by decide +kernel
theorem dJ8_newLength_cabcc_3 : decode cJ8_newLength_cabcc 3 = .ok (.invokestatic 194, 3) := by decide +kernel
theorem dJ8_newLength_cabcc_6 : decode cJ8_newLength_cabcc 6 = .ok (.iadd, 1) := by decide +kernel
theorem dJ8_newLength_cabcc_7 : decode cJ8_newLength_cabcc 7 = .ok (.istore_n 3, 1) := by decide +kernel
theorem dJ8_newLength_cabcc_8 : decode cJ8_newLength_cabcc 8 = .ok (.iconst 0, 1) := by decide +kernel
theorem dJ8_newLength_cabcc_9 : decode cJ8_newLength_cabcc 9 = .ok (.iload_n 3, 1) := by decide +kernel
theorem dJ8_newLength_cabcc_10 : decode cJ8_newLength_cabcc 10 = .ok (.if_icmp .ge 11, 3) := by decide +kernel
theorem dJ8_newLength_cabcc_13 : decode cJ8_newLength_cabcc 13 = .ok (.iload_n 3, 1) := by decide +kernel
theorem dJ8_newLength_cabcc_14 : decode cJ8_newLength_cabcc 14 = .ok (.ldc 200, 2) := by decide +kernel
theorem dJ8_newLength_cabcc_16 : decode cJ8_newLength_cabcc 16 = .ok (.if_icmp .gt 5, 3) := by decide +kernel
theorem dJ8_newLength_cabcc_19 : decode cJ8_newLength_cabcc 19 = .ok (.iload_n 3, 1) := by decide +kernel
theorem dJ8_newLength_cabcc_20 : decode cJ8_newLength_cabcc 20 = .ok (.ireturn, 1) := by decide +kernel
theorem dJ8_newLength_cabcc_21 : decode cJ8_newLength_cabcc 21 = .ok (.iload_n 0, 1) := by decide +kernel
theorem dJ8_newLength_cabcc_22 : decode cJ8_newLength_cabcc 22 = .ok (.iload_n 1, 1) := by decide +kernel
theorem dJ8_newLength_cabcc_23 : decode cJ8_newLength_cabcc 23 = .ok (.invokestatic 201, 3) := by decide +kernel
theorem dJ8_newLength_cabcc_26 : decode cJ8_newLength_cabcc 26 = .ok (.ireturn, 1) := by decide +kernel
theorem q3_180 : (Jvm.Cond.methodLink "jdk/internal/util/ArraysSupport" (194 : Nat) ({ cls := "java/lang/Math", name := "max", desc := "(II)I" } : Jvm.MethodName)) ∈ lw_g := zg_of (zin3 (List.mem_of_getElem? (i := 180) rfl)) rfl
theorem q3_181 : (Jvm.Cond.constant "jdk/internal/util/ArraysSupport" (200 : Nat) (2147483639 : Int32)) ∈ lw_g := zg_of (zin3 (List.mem_of_getElem? (i := 181) rfl)) rfl
theorem q3_179 : (Jvm.Cond.code ({ cls := "jdk/internal/util/ArraysSupport", name := "newLength", desc := "(III)I" } : Jvm.MethodName) prog_42_method_27_code (4 : Nat) (Option.some Jvm.ClassFile.FieldType.int)) ∈ lw_g := zg_of (zin3 (List.mem_of_getElem? (i := 179) rfl)) rfl
theorem q1_17 : (Jvm.Cond.initialized "jdk/internal/util/ArraysSupport") ∈ lw_g := zg_of (zin1 (List.mem_of_getElem? (i := 17) rfl)) rfl
theorem q3_178 : (Jvm.Cond.static ({ cls := "jdk/internal/util/ArraysSupport", name := "newLength", desc := "(III)I" } : Jvm.MethodName)) ∈ lw_g := zg_of (zin3 (List.mem_of_getElem? (i := 178) rfl)) rfl
theorem ok_J8_newLength_cabcc : zOS yJ8_newLength_cabcc cJ8_newLength_cabcc 4 ((Option.some Jvm.ClassFile.FieldType.int)) 3 := ⟨⟨q3_179, q1_17, by decide, by decide, by decide +kernel⟩, q3_178⟩
set_option maxHeartbeats 4000000 in
set_option maxRecDepth 100000 in
theorem c_sNl (l : Launch) (G : zG) (d : Int) (hd : 0 ≤ d ∧ d ≤ 18) : Met l yJ8_newLength_cabcc (wq yJ8_newLength_cabcc cJ8_newLength_cabcc 4 ((Option.some Jvm.ClassFile.FieldType.int))) (rmR 1 21) (va_Pc [.int (zI (16)), .int (zI (d)), .int (zI (18))] (zK G (fun _ => True))) (zQ (some (.int ((zI (34)))))) 0 0 zF := by
  refine z_enterI (by decide +kernel) (Nat.le_of_ble_eq_true rfl) ?_
  intro p env s m below meth cod Q S hG hP ret ls hl
  have hl : lv_has ls 4 [(0, .int (zI (16))), (1, .int (zI (d))), (2, .int (zI (18)))] := hl
  refine z_iload_n S dJ8_newLength_cabcc_0 hl 0 rfl rfl ?_
  refine z_iload_n S dJ8_newLength_cabcc_1 hl 1 rfl rfl ?_
  refine z_iload_n S dJ8_newLength_cabcc_2 hl 2 rfl rfl ?_
  refine z_max S q3_180 q1_236 q1_18 (by exact q1_237) (by decide) (Nat.le_of_ble_eq_true rfl) ⟨Nat.zero_le _, Nat.zero_le _⟩ hl.1 dJ8_newLength_cabcc_3 ?_
  rw [show (if (zI (d)) < (zI (18)) then (zI (18)) else (zI (d))) = zI 18 from by rcases (show d < 18 ∨ d = 18 by omega) with q | q; rw [if_pos ((zI_lt (by omega) (by omega)).mpr q)]; rw [q]; rfl]
  refine z_iadd S dJ8_newLength_cabcc_6 ?_
  refine z_istore_n (lv' := [(3, .int (zI ((16) + (18)))), (0, .int (zI (16))), (1, .int (zI (d))), (2, .int (zI (18)))]) S dJ8_newLength_cabcc_7 hl rfl (by decide) rfl (fun ls hl => ?_)
  refine z_iconst S dJ8_newLength_cabcc_8 ?_
  refine z_iload_n S dJ8_newLength_cabcc_9 hl 0 rfl rfl ?_
  refine z_icmp_ge_F S 21 dJ8_newLength_cabcc_10 (by decide) (by omega) (by omega) (by omega) ?_
  refine z_iload_n S dJ8_newLength_cabcc_13 hl 0 rfl rfl ?_
  refine z_ldc S (2147483639) q3_181 rfl dJ8_newLength_cabcc_14 ?_
  refine z_icmp_gt_F S 21 dJ8_newLength_cabcc_16 (by decide) (by omega) (by omega) (by omega) ?_
  refine z_iload_n S dJ8_newLength_cabcc_19 hl 0 rfl rfl ?_
  exact ret _ _ _ dJ8_newLength_cabcc_20 (rfl)
theorem dJ5_newCapacity_0f7a4_0 : decode cJ5_newCapacity_0f7a4 0 = .ok (.aload_n 0, 1) := by decide +kernel
theorem dJ5_newCapacity_0f7a4_1 : decode cJ5_newCapacity_0f7a4 1 = .ok (.getfield 15, 3) := by decide +kernel
theorem dJ5_newCapacity_0f7a4_4 : decode cJ5_newCapacity_0f7a4 4 = .ok (.arraylength, 1) := by decide +kernel
theorem dJ5_newCapacity_0f7a4_5 : decode cJ5_newCapacity_0f7a4 5 = .ok (.istore_n 2, 1) := by decide +kernel
theorem dJ5_newCapacity_0f7a4_6 : decode cJ5_newCapacity_0f7a4 6 = .ok (.iload_n 1, 1) := by decide +kernel
theorem dJ5_newCapacity_0f7a4_7 : decode cJ5_newCapacity_0f7a4 7 = .ok (.aload_n 0, 1) := by decide +kernel
theorem dJ5_newCapacity_0f7a4_8 : decode cJ5_newCapacity_0f7a4 8 = .ok (.getfield 22, 3) := by decide +kernel
theorem dJ5_newCapacity_0f7a4_11 : decode cJ5_newCapacity_0f7a4 11 = .ok (.ishl, 1) := by decide +kernel
theorem dJ5_newCapacity_0f7a4_12 : decode cJ5_newCapacity_0f7a4 12 = .ok (.istore_n 3, 1) := by decide +kernel
theorem dJ5_newCapacity_0f7a4_13 : decode cJ5_newCapacity_0f7a4 13 = .ok (.iload_n 3, 1) := by decide +kernel
theorem dJ5_newCapacity_0f7a4_14 : decode cJ5_newCapacity_0f7a4 14 = .ok (.iload_n 2, 1) := by decide +kernel
theorem dJ5_newCapacity_0f7a4_15 : decode cJ5_newCapacity_0f7a4 15 = .ok (.isub, 1) := by decide +kernel
theorem dJ5_newCapacity_0f7a4_16 : decode cJ5_newCapacity_0f7a4 16 = .ok (.istore 4, 2) := by decide +kernel
theorem dJ5_newCapacity_0f7a4_18 : decode cJ5_newCapacity_0f7a4 18 = .ok (.iload_n 2, 1) := by decide +kernel
theorem dJ5_newCapacity_0f7a4_19 : decode cJ5_newCapacity_0f7a4 19 = .ok (.iload 4, 2) := by decide +kernel
theorem dJ5_newCapacity_0f7a4_21 : decode cJ5_newCapacity_0f7a4 21 = .ok (.iload_n 2, 1) := by decide +kernel
theorem dJ5_newCapacity_0f7a4_22 : decode cJ5_newCapacity_0f7a4 22 = .ok (.iconst 2, 1) := by decide +kernel
theorem dJ5_newCapacity_0f7a4_23 : decode cJ5_newCapacity_0f7a4 23 = .ok (.aload_n 0, 1) := by decide +kernel
theorem dJ5_newCapacity_0f7a4_24 : decode cJ5_newCapacity_0f7a4 24 = .ok (.getfield 22, 3) := by decide +kernel
theorem dJ5_newCapacity_0f7a4_27 : decode cJ5_newCapacity_0f7a4 27 = .ok (.ishl, 1) := by decide +kernel
theorem dJ5_newCapacity_0f7a4_28 : decode cJ5_newCapacity_0f7a4 28 = .ok (.iadd, 1) := by decide +kernel
theorem dJ5_newCapacity_0f7a4_29 : decode cJ5_newCapacity_0f7a4 29 = .ok (.invokestatic 114, 3) := by decide +kernel
theorem dJ5_newCapacity_0f7a4_32 : decode cJ5_newCapacity_0f7a4 32 = .ok (.istore 5, 2) := by decide +kernel
theorem dJ5_newCapacity_0f7a4_34 : decode cJ5_newCapacity_0f7a4 34 = .ok (.iload 5, 2) := by decide +kernel
theorem dJ5_newCapacity_0f7a4_36 : decode cJ5_newCapacity_0f7a4 36 = .ok (.ldc 39, 2) := by decide +kernel
theorem dJ5_newCapacity_0f7a4_38 : decode cJ5_newCapacity_0f7a4 38 = .ok (.if_icmp .ne 13, 3) := by decide +kernel
theorem dJ5_newCapacity_0f7a4_41 : decode cJ5_newCapacity_0f7a4 41 = .ok (.new 120, 3) := by decide +kernel
theorem dJ5_newCapacity_0f7a4_44 : decode cJ5_newCapacity_0f7a4 44 = .ok (.dup, 1) := by decide +kernel
theorem dJ5_newCapacity_0f7a4_45 : decode cJ5_newCapacity_0f7a4 45 = .ok (.ldc 122, 2) := by decide +kernel
theorem dJ5_newCapacity_0f7a4_47 : decode cJ5_newCapacity_0f7a4 47 = .ok (.invokespecial 124, 3) := by decide +kernel
theorem dJ5_newCapacity_0f7a4_50 : decode cJ5_newCapacity_0f7a4 50 = .ok (.athrow, 1) := by decide +kernel
theorem dJ5_newCapacity_0f7a4_51 : decode cJ5_newCapacity_0f7a4 51 = .ok (.iload 5, 2) := by decide +kernel
theorem dJ5_newCapacity_0f7a4_53 : decode cJ5_newCapacity_0f7a4 53 = .ok (.aload_n 0, 1) := by decide +kernel
theorem dJ5_newCapacity_0f7a4_54 : decode cJ5_newCapacity_0f7a4 54 = .ok (.getfield 22, 3) := by decide +kernel
theorem dJ5_newCapacity_0f7a4_57 : decode cJ5_newCapacity_0f7a4 57 = .ok (.ishr, 1) := by decide +kernel
theorem dJ5_newCapacity_0f7a4_58 : decode cJ5_newCapacity_0f7a4 58 = .ok (.ireturn, 1) := by decide +kernel
theorem q3_149 : (Jvm.Cond.fieldLink "java/lang/AbstractStringBuilder" (15 : Nat) "java/lang/AbstractStringBuilder" "value" "[B") ∈ lw_g := zg_of (zin3 (List.mem_of_getElem? (i := 149) rfl)) rfl
theorem q3_177 : (Jvm.Cond.methodLink "java/lang/AbstractStringBuilder" (114 : Nat) ({ cls := "jdk/internal/util/ArraysSupport", name := "newLength", desc := "(III)I" } : Jvm.MethodName)) ∈ lw_g := zg_of (zin3 (List.mem_of_getElem? (i := 177) rfl)) rfl
theorem q3_185 : (Jvm.Cond.constant "java/lang/AbstractStringBuilder" (39 : Nat) (2147483647 : Int32)) ∈ lw_g := zg_of (zin3 (List.mem_of_getElem? (i := 185) rfl)) rfl
theorem q3_176 : (Jvm.Cond.code ({ cls := "java/lang/AbstractStringBuilder", name := "newCapacity", desc := "(I)I" } : Jvm.MethodName) prog_8_method_10_code (6 : Nat) (Option.some Jvm.ClassFile.FieldType.int)) ∈ lw_g := zg_of (zin3 (List.mem_of_getElem? (i := 176) rfl)) rfl
theorem ok_J5_newCapacity_0f7a4 : zOK yJ5_newCapacity_0f7a4 cJ5_newCapacity_0f7a4 6 ((Option.some Jvm.ClassFile.FieldType.int)) 1 := ⟨q3_176, q1_25, by decide, by decide, by decide +kernel⟩
set_option maxHeartbeats 4000000 in
set_option maxRecDepth 100000 in
theorem c_sNc (l : Launch) (G : zG) (q v n : Nat) (mn : Int) (hm : 16 < mn ∧ mn ≤ 18) : Met l yJ5_newCapacity_0f7a4 (wq yJ5_newCapacity_0f7a4 cJ5_newCapacity_0f7a4 6 ((Option.some Jvm.ClassFile.FieldType.int))) (rmR 2 44) (va_Pc [.ref (q), .int (zI (mn))] (zK G (fun H => hSB G q v n 16 H))) (zQ (some (.int ((zI (34)))))) 0 0 zF := by
  refine z_enterI (by decide +kernel) (Nat.le_of_ble_eq_true rfl) ?_
  intro p env s m below meth cod Q S hG hP ret ls hl
  have hl : lv_has ls 6 [(0, .ref (q)), (1, .int (zI (mn)))] := hl
  refine z_aload_n S dJ5_newCapacity_0f7a4_0 hl 0 rfl rfl ?_
  refine z_getR S hG hP.1 zc_J4 0 (by decide) q3_149 rfl dJ5_newCapacity_0f7a4_1 ?_
  refine z_blen S (zG_by hG) hP.2.1 dJ5_newCapacity_0f7a4_4 ?_
  refine z_istore_n (lv' := [(2, .int (zI (((16 : Nat) : Int)))), (0, .ref (q)), (1, .int (zI (mn)))]) S dJ5_newCapacity_0f7a4_5 hl rfl (by decide) rfl (fun ls hl => ?_)
  refine z_iload_n S dJ5_newCapacity_0f7a4_6 hl 2 rfl rfl ?_
  refine z_aload_n S dJ5_newCapacity_0f7a4_7 hl 1 rfl rfl ?_
  refine z_getR S hG hP.1 zc_J4 1 (by decide) q3_150 rfl dJ5_newCapacity_0f7a4_8 ?_
  refine lv_ishl S.1 S.2.1 dJ5_newCapacity_0f7a4_11 ?_
  rw [z_shl0]
  refine z_istore_n (lv' := [(3, .int (zI (mn))), (2, .int (zI (((16 : Nat) : Int)))), (0, .ref (q)), (1, .int (zI (mn)))]) S dJ5_newCapacity_0f7a4_12 hl rfl (by decide) rfl (fun ls hl => ?_)
  refine z_iload_n S dJ5_newCapacity_0f7a4_13 hl 0 rfl rfl ?_
  refine z_iload_n S dJ5_newCapacity_0f7a4_14 hl 1 rfl rfl ?_
  refine z_isub S dJ5_newCapacity_0f7a4_15 ?_
  refine z_istore (lv' := [(4, .int (zI ((mn) - (((16 : Nat) : Int))))), (3, .int (zI (mn))), (2, .int (zI (((16 : Nat) : Int)))), (0, .ref (q)), (1, .int (zI (mn)))]) S dJ5_newCapacity_0f7a4_16 hl (by decide) rfl (fun ls hl => ?_)
  refine z_iload_n S dJ5_newCapacity_0f7a4_18 hl 2 rfl rfl ?_
  refine z_iload S dJ5_newCapacity_0f7a4_19 hl 0 rfl ?_
  refine z_iload_n S dJ5_newCapacity_0f7a4_21 hl 2 rfl rfl ?_
  refine z_iconst S dJ5_newCapacity_0f7a4_22 ?_
  refine z_aload_n S dJ5_newCapacity_0f7a4_23 hl 3 rfl rfl ?_
  refine z_getR S hG hP.1 zc_J4 1 (by decide) q3_150 rfl dJ5_newCapacity_0f7a4_24 ?_
  refine lv_ishl S.1 S.2.1 dJ5_newCapacity_0f7a4_27 ?_
  rw [z_shl0]
  refine z_iadd S dJ5_newCapacity_0f7a4_28 ?_
  refine z_callSs S hG (c_sNl l G (mn - 16) (by omega)) ok_J8_newLength_cabcc q3_177 (trivial) ⟨rfl, rfl, by decide, by decide⟩ ⟨Nat.zero_le _, Nat.zero_le _⟩ rfl (Nat.le_of_ble_eq_true rfl) hl.1 rfl dJ5_newCapacity_0f7a4_29 ?_
  refine z_istore (lv' := [(5, .int (zI (34))), (4, .int (zI ((mn) - (((16 : Nat) : Int))))), (3, .int (zI (mn))), (2, .int (zI (((16 : Nat) : Int)))), (0, .ref (q)), (1, .int (zI (mn)))]) S dJ5_newCapacity_0f7a4_32 hl (by decide) rfl (fun ls hl => ?_)
  refine z_iload S dJ5_newCapacity_0f7a4_34 hl 0 rfl ?_
  refine z_ldc S (2147483647) q3_185 rfl dJ5_newCapacity_0f7a4_36 ?_
  refine z_icmp_ne_T S 51 dJ5_newCapacity_0f7a4_38 (by decide) (by omega) (by omega) (by omega) ?_
  refine z_iload S dJ5_newCapacity_0f7a4_51 hl 0 rfl ?_
  refine z_aload_n S dJ5_newCapacity_0f7a4_53 hl 4 rfl rfl ?_
  refine z_getR S hG hP.1 zc_J4 1 (by decide) q3_150 rfl dJ5_newCapacity_0f7a4_54 ?_
  refine lv_ishr S.1 S.2.1 dJ5_newCapacity_0f7a4_57 ?_
  rw [z_shr0]
  exact ret _ _ _ dJ5_newCapacity_0f7a4_58 (rfl)
theorem dJ7_copyOf_9075b_0 : decode cJ7_copyOf_9075b 0 = .ok (.iload_n 1, 1) := by decide +kernel
theorem dJ7_copyOf_9075b_1 : decode cJ7_copyOf_9075b 1 = .ok (.aload_n 0, 1) := by decide +kernel
theorem dJ7_copyOf_9075b_2 : decode cJ7_copyOf_9075b 2 = .ok (.arraylength, 1) := by decide +kernel
theorem dJ7_copyOf_9075b_3 : decode cJ7_copyOf_9075b 3 = .ok (.if_icmp .ne 11, 3) := by decide +kernel
theorem dJ7_copyOf_9075b_6 : decode cJ7_copyOf_9075b 6 = .ok (.aload_n 0, 1) := by decide +kernel
theorem dJ7_copyOf_9075b_7 : decode cJ7_copyOf_9075b 7 = .ok (.invokevirtual 310, 3) := by decide +kernel
theorem dJ7_copyOf_9075b_10 : decode cJ7_copyOf_9075b 10 = .ok (.checkcast 311, 3) := by decide +kernel
theorem dJ7_copyOf_9075b_13 : decode cJ7_copyOf_9075b 13 = .ok (.areturn, 1) := by decide +kernel
theorem dJ7_copyOf_9075b_14 : decode cJ7_copyOf_9075b 14 = .ok (.iload_n 1, 1) := by decide +kernel
theorem dJ7_copyOf_9075b_15 : decode cJ7_copyOf_9075b 15 = .ok (.newarray .byte, 2) := by decide +kernel
theorem dJ7_copyOf_9075b_17 : decode cJ7_copyOf_9075b 17 = .ok (.astore_n 2, 1) := by decide +kernel
theorem dJ7_copyOf_9075b_18 : decode cJ7_copyOf_9075b 18 = .ok (.aload_n 0, 1) := by decide +kernel
theorem dJ7_copyOf_9075b_19 : decode cJ7_copyOf_9075b 19 = .ok (.iconst 0, 1) := by decide +kernel
theorem dJ7_copyOf_9075b_20 : decode cJ7_copyOf_9075b 20 = .ok (.aload_n 2, 1) := by decide +kernel
theorem dJ7_copyOf_9075b_21 : decode cJ7_copyOf_9075b 21 = .ok (.iconst 0, 1) := by decide +kernel
theorem dJ7_copyOf_9075b_22 : decode cJ7_copyOf_9075b 22 = .ok (.aload_n 0, 1) := by decide +kernel
theorem dJ7_copyOf_9075b_23 : decode cJ7_copyOf_9075b 23 = .ok (.arraylength, 1) := by decide +kernel
theorem dJ7_copyOf_9075b_24 : decode cJ7_copyOf_9075b 24 = .ok (.iload_n 1, 1) := by decide +kernel
theorem dJ7_copyOf_9075b_25 : decode cJ7_copyOf_9075b 25 = .ok (.invokestatic 304, 3) := by decide +kernel
theorem dJ7_copyOf_9075b_28 : decode cJ7_copyOf_9075b 28 = .ok (.invokestatic 150, 3) := by decide +kernel
theorem dJ7_copyOf_9075b_31 : decode cJ7_copyOf_9075b 31 = .ok (.aload_n 2, 1) := by decide +kernel
theorem dJ7_copyOf_9075b_32 : decode cJ7_copyOf_9075b 32 = .ok (.areturn, 1) := by decide +kernel
theorem q3_196 : (Jvm.Cond.methodLink "java/util/Arrays" (304 : Nat) ({ cls := "java/lang/Math", name := "min", desc := "(II)I" } : Jvm.MethodName)) ∈ lw_g := zg_of (zin3 (List.mem_of_getElem? (i := 196) rfl)) rfl
theorem q3_197 : (Jvm.Cond.static ({ cls := "java/lang/Math", name := "min", desc := "(II)I" } : Jvm.MethodName)) ∈ lw_g := zg_of (zin3 (List.mem_of_getElem? (i := 197) rfl)) rfl
theorem q3_198 : (Jvm.Cond.code ({ cls := "java/lang/Math", name := "min", desc := "(II)I" } : Jvm.MethodName) prog_20_method_69_code (2 : Nat) (Option.some Jvm.ClassFile.FieldType.int)) ∈ lw_g := zg_of (zin3 (List.mem_of_getElem? (i := 198) rfl)) rfl
theorem q3_199 : (Jvm.Cond.methodLink "java/util/Arrays" (150 : Nat) ({ cls := "java/lang/System", name := "arraycopy", desc := "(Ljava/lang/Object;ILjava/lang/Object;II)V" } : Jvm.MethodName)) ∈ lw_g := zg_of (zin3 (List.mem_of_getElem? (i := 199) rfl)) rfl
theorem q3_188 : (Jvm.Cond.code ({ cls := "java/util/Arrays", name := "copyOf", desc := "([BI)[B" } : Jvm.MethodName) prog_35_method_121_code (3 : Nat) (Option.some (Jvm.ClassFile.FieldType.array Jvm.ClassFile.FieldType.byte))) ∈ lw_g := zg_of (zin3 (List.mem_of_getElem? (i := 188) rfl)) rfl
theorem q1_19 : (Jvm.Cond.initialized "java/util/Arrays") ∈ lw_g := zg_of (zin1 (List.mem_of_getElem? (i := 19) rfl)) rfl
theorem q3_187 : (Jvm.Cond.static ({ cls := "java/util/Arrays", name := "copyOf", desc := "([BI)[B" } : Jvm.MethodName)) ∈ lw_g := zg_of (zin3 (List.mem_of_getElem? (i := 187) rfl)) rfl
theorem ok_J7_copyOf_9075b : zOS yJ7_copyOf_9075b cJ7_copyOf_9075b 3 ((Option.some (Jvm.ClassFile.FieldType.array Jvm.ClassFile.FieldType.byte))) 2 := ⟨⟨q3_188, q1_19, by decide, by decide, by decide +kernel⟩, q3_187⟩
set_option maxHeartbeats 4000000 in
set_option maxRecDepth 100000 in
theorem c_sCo (l : Launch) (G : zG) (v sz : Nat) : Met l yJ7_copyOf_9075b (wq yJ7_copyOf_9075b cJ7_copyOf_9075b 3 ((Option.some (Jvm.ClassFile.FieldType.array Jvm.ClassFile.FieldType.byte)))) (rmM 1 40 1 34) (va_Pc [.ref (v), .int (zI (34))] (zK G (fun H => zBy (G.2 3) v 16 H ∧ H.size = sz))) (zM (fun y => sz ≤ y) (some (.ref (sz))) (fun H => zBy (G.2 3) sz 34 H)) 1 34 (fun y => sz ≤ y) := by
  refine z_enterMR (by decide +kernel) (Nat.le_of_ble_eq_true rfl) ?_
  intro p env s m below meth cod Q S hG hP hS ret ls hl
  have hl : lv_has ls 3 [(0, .ref (v)), (1, .int (zI (34)))] := hl
  obtain ⟨hV, hz0⟩ := hP
  refine z_iload_n S dJ7_copyOf_9075b_0 hl 1 rfl rfl ?_
  refine z_aload_n S dJ7_copyOf_9075b_1 hl 0 rfl rfl ?_
  refine z_blen S (zG_by hG) hV dJ7_copyOf_9075b_2 ?_
  refine z_icmp_ne_T S 14 dJ7_copyOf_9075b_3 (by decide) (by omega) (by omega) (by omega) ?_
  refine z_iload_n S dJ7_copyOf_9075b_14 hl 1 rfl rfl ?_
  refine z_newB (N := 34) S hG (Nat.le_of_ble_eq_true rfl) q_arrB hS ⟨Nat.le_of_ble_eq_true rfl, Nat.le_of_ble_eq_true rfl⟩ dJ7_copyOf_9075b_15 (fun n1 H_1 hq_n1 hat hz oq hS => ?_)
  have lt_hV_n1 : n1 > v := by rw [hq_n1]; exact zBy.lt hV
  have hV := zBy.kept hV (fun _ => oq _ (zBy.lt hV))
  have h_n1 := hat
  refine z_astore_n (lv' := [(2, .ref (n1)), (0, .ref (v)), (1, .int (zI (34)))]) S dJ7_copyOf_9075b_17 hl rfl (by decide) rfl (fun ls hl => ?_)
  refine z_aload_n S dJ7_copyOf_9075b_18 hl 1 rfl rfl ?_
  refine z_iconst S dJ7_copyOf_9075b_19 ?_
  refine z_aload_n S dJ7_copyOf_9075b_20 hl 0 rfl rfl ?_
  refine z_iconst S dJ7_copyOf_9075b_21 ?_
  refine z_aload_n S dJ7_copyOf_9075b_22 hl 1 rfl rfl ?_
  refine z_blen S (zG_by hG) hV dJ7_copyOf_9075b_23 ?_
  refine z_iload_n S dJ7_copyOf_9075b_24 hl 2 rfl rfl ?_
  refine z_min S (by omega) (by omega) q3_196 q3_197 q1_18 (by exact q3_198) (by decide) (Nat.le_of_ble_eq_true rfl) ⟨Nat.le_of_ble_eq_true rfl, Nat.le_of_ble_eq_true rfl⟩ hl.1 dJ7_copyOf_9075b_25 ?_
  rw [show (if 34 < ((16 : Nat) : Int) then 34 else ((16 : Nat) : Int)) = 16 from by decide]
  refine z_copyBy S hG (zBy.w hV) h_n1 hS (by show sz ≤ n1; omega) (dp := 0) (n := 16) (by omega) (by omega) q3_199 ⟨q3_201, q3_200, q1_20⟩ hl.1 (by decide) (Nat.le_of_ble_eq_true rfl) dJ7_copyOf_9075b_28 (fun H_2 L_2 hat hz oq hS => ?_)
  have hV := zBy.kept hV (fun _ => oq _ (show n1 ≠ v by omega).symm)
  have h_n1 := hat
  obtain rfl : n1 = sz := by omega
  refine z_aload_n S dJ7_copyOf_9075b_31 hl 0 rfl rfl ?_
  exact ret _ _ _ _ _ _ dJ7_copyOf_9075b_32 hS (h_n1) (Nat.le_of_ble_eq_true rfl) (Nat.le_of_ble_eq_true rfl)
theorem dJ5_ensureCapacityInternal_d00df_0 : decode cJ5_ensureCapacityInternal_d00df 0 = .ok (.aload_n 0, 1) := by decide +kernel
theorem dJ5_ensureCapacityInternal_d00df_1 : decode cJ5_ensureCapacityInternal_d00df 1 = .ok (.getfield 15, 3) := by decide +kernel
theorem dJ5_ensureCapacityInternal_d00df_4 : decode cJ5_ensureCapacityInternal_d00df 4 = .ok (.arraylength, 1) := by decide +kernel
theorem dJ5_ensureCapacityInternal_d00df_5 : decode cJ5_ensureCapacityInternal_d00df 5 = .ok (.aload_n 0, 1) := by decide +kernel
theorem dJ5_ensureCapacityInternal_d00df_6 : decode cJ5_ensureCapacityInternal_d00df 6 = .ok (.getfield 22, 3) := by decide +kernel
theorem dJ5_ensureCapacityInternal_d00df_9 : decode cJ5_ensureCapacityInternal_d00df 9 = .ok (.ishr, 1) := by decide +kernel
theorem dJ5_ensureCapacityInternal_d00df_10 : decode cJ5_ensureCapacityInternal_d00df 10 = .ok (.istore_n 2, 1) := by decide +kernel
theorem dJ5_ensureCapacityInternal_d00df_11 : decode cJ5_ensureCapacityInternal_d00df 11 = .ok (.iload_n 1, 1) := by decide +kernel
theorem dJ5_ensureCapacityInternal_d00df_12 : decode cJ5_ensureCapacityInternal_d00df 12 = .ok (.iload_n 2, 1) := by decide +kernel
theorem dJ5_ensureCapacityInternal_d00df_13 : decode cJ5_ensureCapacityInternal_d00df 13 = .ok (.isub, 1) := by decide +kernel
theorem dJ5_ensureCapacityInternal_d00df_14 : decode cJ5_ensureCapacityInternal_d00df 14 = .ok (.ifCond .le 24, 3) := by decide +kernel
theorem dJ5_ensureCapacityInternal_d00df_17 : decode cJ5_ensureCapacityInternal_d00df 17 = .ok (.aload_n 0, 1) := by decide +kernel
theorem dJ5_ensureCapacityInternal_d00df_18 : decode cJ5_ensureCapacityInternal_d00df 18 = .ok (.aload_n 0, 1) := by decide +kernel
theorem dJ5_ensureCapacityInternal_d00df_19 : decode cJ5_ensureCapacityInternal_d00df 19 = .ok (.getfield 15, 3) := by decide +kernel
theorem dJ5_ensureCapacityInternal_d00df_22 : decode cJ5_ensureCapacityInternal_d00df 22 = .ok (.aload_n 0, 1) := by decide +kernel
theorem dJ5_ensureCapacityInternal_d00df_23 : decode cJ5_ensureCapacityInternal_d00df 23 = .ok (.iload_n 1, 1) := by decide +kernel
theorem dJ5_ensureCapacityInternal_d00df_24 : decode cJ5_ensureCapacityInternal_d00df 24 = .ok (.invokevirtual 104, 3) := by decide +kernel
theorem dJ5_ensureCapacityInternal_d00df_27 : decode cJ5_ensureCapacityInternal_d00df 27 = .ok (.aload_n 0, 1) := by decide +kernel
theorem dJ5_ensureCapacityInternal_d00df_28 : decode cJ5_ensureCapacityInternal_d00df 28 = .ok (.getfield 22, 3) := by decide +kernel
theorem dJ5_ensureCapacityInternal_d00df_31 : decode cJ5_ensureCapacityInternal_d00df 31 = .ok (.ishl, 1) := by decide +kernel
theorem dJ5_ensureCapacityInternal_d00df_32 : decode cJ5_ensureCapacityInternal_d00df 32 = .ok (.invokestatic 108, 3) := by decide +kernel
theorem dJ5_ensureCapacityInternal_d00df_35 : decode cJ5_ensureCapacityInternal_d00df 35 = .ok (.putfield 15, 3) := by decide +kernel
theorem dJ5_ensureCapacityInternal_d00df_38 : decode cJ5_ensureCapacityInternal_d00df 38 = .ok (.return_, 1) := by decide +kernel
theorem q3_173 : (Jvm.Cond.methodLink "java/lang/AbstractStringBuilder" (104 : Nat) ({ cls := "java/lang/AbstractStringBuilder", name := "newCapacity", desc := "(I)I" } : Jvm.MethodName)) ∈ lw_g := zg_of (zin3 (List.mem_of_getElem? (i := 173) rfl)) rfl
theorem q3_175 : (Jvm.Cond.instanceMethod ({ cls := "java/lang/AbstractStringBuilder", name := "newCapacity", desc := "(I)I" } : Jvm.MethodName)) ∈ lw_g := zg_of (zin3 (List.mem_of_getElem? (i := 175) rfl)) rfl
theorem q3_186 : (Jvm.Cond.methodLink "java/lang/AbstractStringBuilder" (108 : Nat) ({ cls := "java/util/Arrays", name := "copyOf", desc := "([BI)[B" } : Jvm.MethodName)) ∈ lw_g := zg_of (zin3 (List.mem_of_getElem? (i := 186) rfl)) rfl
theorem q3_172 : (Jvm.Cond.code ({ cls := "java/lang/AbstractStringBuilder", name := "ensureCapacityInternal", desc := "(I)V" } : Jvm.MethodName) prog_8_method_9_code (3 : Nat) (Option.none : Option Jvm.ClassFile.FieldType)) ∈ lw_g := zg_of (zin3 (List.mem_of_getElem? (i := 172) rfl)) rfl
theorem ok_J5_ensureCapacityInternal_d00df : zOK yJ5_ensureCapacityInternal_d00df cJ5_ensureCapacityInternal_d00df 3 ((Option.none : Option Jvm.ClassFile.FieldType)) 1 := ⟨q3_172, q1_25, by decide, by decide, by decide +kernel⟩
set_option maxHeartbeats 4000000 in
set_option maxRecDepth 100000 in
theorem c_sEn (l : Launch) (G : zG) (q sz n : Nat) (mi : Int) (mn : Nat) (hk : mi = (mn : Int)) (hm : n ≤ mn ∧ mn ≤ n + 2 ∧ mn ≤ 34) : Met l yJ5_ensureCapacityInternal_d00df (wq yJ5_ensureCapacityInternal_d00df cJ5_ensureCapacityInternal_d00df 3 ((Option.none : Option Jvm.ClassFile.FieldType))) (rmM 3 69 1 34) (va_Pc [.ref (q), .int (zI (mi))] (zK G (fun H => hSX G q sz n n H))) (zM (fun y => sz ≤ y) none (fun H => hSX G q sz n mn H)) 1 34 (fun y => sz ≤ y) := by
  refine z_enterMV (by decide +kernel) (Nat.le_of_ble_eq_true rfl) ?_
  intro p env s m below meth cod Q S hnm hG hP hS ret ls hl
  have hl : lv_has ls 3 [(0, .ref (q)), (1, .int (zI (mi)))] := hl
  obtain ⟨v, cap, ⟨hQ, hV, hne⟩, hq, hv, hc, hnn⟩ := hP
  have hqs := va_lt hQ
  have hvs := hV.lt
  rcases (show (mn ≤ cap) ∨ (cap = 16 ∧ 16 < mn ∧ mn ≤ 18) by omega) with hg | ⟨rfl, hg⟩
  · skip
    refine z_aload_n S dJ5_ensureCapacityInternal_d00df_0 hl 0 rfl rfl ?_
    refine z_getR S hG hQ zc_J4 0 (by decide) q3_149 rfl dJ5_ensureCapacityInternal_d00df_1 ?_
    refine z_blen S (zG_by hG) hV dJ5_ensureCapacityInternal_d00df_4 ?_
    refine z_aload_n S dJ5_ensureCapacityInternal_d00df_5 hl 0 rfl rfl ?_
    refine z_getR S hG hQ zc_J4 1 (by decide) q3_150 rfl dJ5_ensureCapacityInternal_d00df_6 ?_
    refine lv_ishr S.1 S.2.1 dJ5_ensureCapacityInternal_d00df_9 ?_
    rw [z_shr0]
    refine z_istore_n (lv' := [(2, .int (zI ((cap : Int)))), (0, .ref (q)), (1, .int (zI (mi)))]) S dJ5_ensureCapacityInternal_d00df_10 hl rfl (by decide) rfl (fun ls hl => ?_)
    refine z_iload_n S dJ5_ensureCapacityInternal_d00df_11 hl 2 rfl rfl ?_
    refine z_iload_n S dJ5_ensureCapacityInternal_d00df_12 hl 0 rfl rfl ?_
    refine z_isub S dJ5_ensureCapacityInternal_d00df_13 ?_
    refine z_if_le_T S 38 dJ5_ensureCapacityInternal_d00df_14 (by decide) (by omega) (by omega) ?_
    exact ret _ _ _ _ _ _ dJ5_ensureCapacityInternal_d00df_38 hS (⟨v, cap, ⟨hQ, hV, hne⟩, hq, hv, by omega, by omega⟩) (Nat.le_of_ble_eq_true rfl) (Nat.le_of_ble_eq_true rfl)
  · skip
    refine z_aload_n S dJ5_ensureCapacityInternal_d00df_0 hl 0 rfl rfl ?_
    refine z_getR S hG hQ zc_J4 0 (by decide) q3_149 rfl dJ5_ensureCapacityInternal_d00df_1 ?_
    refine z_blen S (zG_by hG) hV dJ5_ensureCapacityInternal_d00df_4 ?_
    refine z_aload_n S dJ5_ensureCapacityInternal_d00df_5 hl 0 rfl rfl ?_
    refine z_getR S hG hQ zc_J4 1 (by decide) q3_150 rfl dJ5_ensureCapacityInternal_d00df_6 ?_
    refine lv_ishr S.1 S.2.1 dJ5_ensureCapacityInternal_d00df_9 ?_
    rw [z_shr0]
    refine z_istore_n (lv' := [(2, .int (zI (((16 : Nat) : Int)))), (0, .ref (q)), (1, .int (zI (mi)))]) S dJ5_ensureCapacityInternal_d00df_10 hl rfl (by decide) rfl (fun ls hl => ?_)
    refine z_iload_n S dJ5_ensureCapacityInternal_d00df_11 hl 2 rfl rfl ?_
    refine z_iload_n S dJ5_ensureCapacityInternal_d00df_12 hl 0 rfl rfl ?_
    refine z_isub S dJ5_ensureCapacityInternal_d00df_13 ?_
    refine z_if_le_F S 38 dJ5_ensureCapacityInternal_d00df_14 (by decide) (by omega) (by omega) ?_
    refine z_aload_n S dJ5_ensureCapacityInternal_d00df_17 hl 1 rfl rfl ?_
    refine z_aload_n S dJ5_ensureCapacityInternal_d00df_18 hl 1 rfl rfl ?_
    refine z_getR S hG hQ zc_J4 0 (by decide) q3_149 rfl dJ5_ensureCapacityInternal_d00df_19 ?_
    refine z_aload_n S dJ5_ensureCapacityInternal_d00df_22 hl 1 rfl rfl ?_
    refine z_iload_n S dJ5_ensureCapacityInternal_d00df_23 hl 2 rfl rfl ?_
    refine z_callQr S hG (c_sNc l G q v n mi (by omega)) ok_J5_newCapacity_0f7a4 q3_175 (va_Nw.use rfl (hG.2.2.2.2.2.2.2.2.2.2.2 _ (List.mem_of_getElem? (i := 1) rfl))) (z_rcv hG hQ zc_J4) q3_173 (⟨hQ, hV, hne⟩) ⟨rfl, rfl, by decide, by decide⟩ ⟨Nat.zero_le _, Nat.zero_le _⟩ rfl (Nat.le_of_ble_eq_true rfl) hl.1 rfl dJ5_ensureCapacityInternal_d00df_24 ?_
    refine z_aload_n S dJ5_ensureCapacityInternal_d00df_27 hl 1 rfl rfl ?_
    refine z_getR S hG hQ zc_J4 1 (by decide) q3_150 rfl dJ5_ensureCapacityInternal_d00df_28 ?_
    refine lv_ishl S.1 S.2.1 dJ5_ensureCapacityInternal_d00df_31 ?_
    rw [z_shl0]
    refine z_callSM S hG hS (c_sCo l G v s.heap.size) (fun y z => by have h2 : s.heap.size ≤ y := z; show sz ≤ y; omega) ok_J7_copyOf_9075b q3_186 (⟨hV, rfl⟩) ⟨rfl, rfl, by decide, by decide⟩ ⟨Nat.le_of_ble_eq_true rfl, Nat.le_of_ble_eq_true rfl⟩ rfl (Nat.le_of_ble_eq_true rfl) hl.1 rfl dJ5_ensureCapacityInternal_d00df_32 (fun H_1 L_1 hB hz oq hS => ?_)
    have hQ := va_at.kept hQ (oq _ (va_lt hQ) (by show ¬ (s.heap.size ≤ _); omega))
    have hV := zBy.kept hV (fun _ => oq _ (zBy.lt hV) (by show ¬ (s.heap.size ≤ _); omega))
    have h_nv := hB
    refine z_putR S hG hQ zc_J4 tyJ4 tyJ4_ok nmJ4 hS (by show sz ≤ q; omega) 0 (by decide) q3_149 rfl (tyJ4_ok 0 (by decide)) rfl rfl (Nat.le_of_ble_eq_true rfl) dJ5_ensureCapacityInternal_d00df_35 (fun H_2 L_2 hat hz oq hS => ?_)
    have hQ := hat
    have h_nv := h_nv.kept (fun hx => oq _ (by omega))
    exact ret _ _ _ _ _ _ dJ5_ensureCapacityInternal_d00df_38 hS (⟨s.heap.size, 34, ⟨hQ, h_nv, by omega⟩, hq, by omega, by omega, by omega⟩) (Nat.le_of_ble_eq_true rfl) (Nat.le_of_ble_eq_true rfl)
theorem dJ5_append_3fe6f_0 : decode cJ5_append_3fe6f 0 = .ok (.aload_n 0, 1) := by decide +kernel
theorem dJ5_append_3fe6f_1 : decode cJ5_append_3fe6f 1 = .ok (.aload_n 0, 1) := by decide +kernel
theorem dJ5_append_3fe6f_2 : decode cJ5_append_3fe6f 2 = .ok (.getfield 79, 3) := by decide +kernel
theorem dJ5_append_3fe6f_5 : decode cJ5_append_3fe6f 5 = .ok (.iconst 1, 1) := by decide +kernel
theorem dJ5_append_3fe6f_6 : decode cJ5_append_3fe6f 6 = .ok (.iadd, 1) := by decide +kernel
theorem dJ5_append_3fe6f_7 : decode cJ5_append_3fe6f 7 = .ok (.invokevirtual 100, 3) := by decide +kernel
theorem dJ5_append_3fe6f_10 : decode cJ5_append_3fe6f 10 = .ok (.aload_n 0, 1) := by decide +kernel
theorem dJ5_append_3fe6f_11 : decode cJ5_append_3fe6f 11 = .ok (.invokevirtual 83, 3) := by decide +kernel
theorem dJ5_append_3fe6f_14 : decode cJ5_append_3fe6f 14 = .ok (.ifCond .eq 31, 3) := by decide +kernel
theorem dJ5_append_3fe6f_17 : decode cJ5_append_3fe6f 17 = .ok (.iload_n 1, 1) := by decide +kernel
theorem dJ5_append_3fe6f_18 : decode cJ5_append_3fe6f 18 = .ok (.invokestatic 191, 3) := by decide +kernel
theorem dJ5_append_3fe6f_21 : decode cJ5_append_3fe6f 21 = .ok (.ifCond .eq 24, 3) := by decide +kernel
theorem dJ5_append_3fe6f_24 : decode cJ5_append_3fe6f 24 = .ok (.aload_n 0, 1) := by decide +kernel
theorem dJ5_append_3fe6f_25 : decode cJ5_append_3fe6f 25 = .ok (.getfield 15, 3) := by decide +kernel
theorem dJ5_append_3fe6f_28 : decode cJ5_append_3fe6f 28 = .ok (.aload_n 0, 1) := by decide +kernel
theorem dJ5_append_3fe6f_29 : decode cJ5_append_3fe6f 29 = .ok (.dup, 1) := by decide +kernel
theorem dJ5_append_3fe6f_30 : decode cJ5_append_3fe6f 30 = .ok (.getfield 79, 3) := by decide +kernel
theorem dJ5_append_3fe6f_33 : decode cJ5_append_3fe6f 33 = .ok (.dup_x1, 1) := by decide +kernel
theorem dJ5_append_3fe6f_34 : decode cJ5_append_3fe6f 34 = .ok (.iconst 1, 1) := by decide +kernel
theorem dJ5_append_3fe6f_35 : decode cJ5_append_3fe6f 35 = .ok (.iadd, 1) := by decide +kernel
theorem dJ5_append_3fe6f_36 : decode cJ5_append_3fe6f 36 = .ok (.putfield 79, 3) := by decide +kernel
theorem dJ5_append_3fe6f_39 : decode cJ5_append_3fe6f 39 = .ok (.iload_n 1, 1) := by decide +kernel
theorem dJ5_append_3fe6f_40 : decode cJ5_append_3fe6f 40 = .ok (.i2b, 1) := by decide +kernel
theorem dJ5_append_3fe6f_41 : decode cJ5_append_3fe6f 41 = .ok (.bastore, 1) := by decide +kernel
theorem dJ5_append_3fe6f_42 : decode cJ5_append_3fe6f 42 = .ok (.goto 33, 3) := by decide +kernel
theorem dJ5_append_3fe6f_45 : decode cJ5_append_3fe6f 45 = .ok (.aload_n 0, 1) := by decide +kernel
theorem dJ5_append_3fe6f_46 : decode cJ5_append_3fe6f 46 = .ok (.invokevirtual 83, 3) := by decide +kernel
theorem dJ5_append_3fe6f_49 : decode cJ5_append_3fe6f 49 = .ok (.ifCond .eq 7, 3) := by decide +kernel
theorem dJ5_append_3fe6f_52 : decode cJ5_append_3fe6f 52 = .ok (.aload_n 0, 1) := by decide +kernel
theorem dJ5_append_3fe6f_53 : decode cJ5_append_3fe6f 53 = .ok (.invokevirtual 195, 3) := by decide +kernel
theorem dJ5_append_3fe6f_56 : decode cJ5_append_3fe6f 56 = .ok (.aload_n 0, 1) := by decide +kernel
theorem dJ5_append_3fe6f_57 : decode cJ5_append_3fe6f 57 = .ok (.getfield 15, 3) := by decide +kernel
theorem dJ5_append_3fe6f_60 : decode cJ5_append_3fe6f 60 = .ok (.aload_n 0, 1) := by decide +kernel
theorem dJ5_append_3fe6f_61 : decode cJ5_append_3fe6f 61 = .ok (.dup, 1) := by decide +kernel
theorem dJ5_append_3fe6f_62 : decode cJ5_append_3fe6f 62 = .ok (.getfield 79, 3) := by decide +kernel
theorem dJ5_append_3fe6f_65 : decode cJ5_append_3fe6f 65 = .ok (.dup_x1, 1) := by decide +kernel
theorem dJ5_append_3fe6f_66 : decode cJ5_append_3fe6f 66 = .ok (.iconst 1, 1) := by decide +kernel
theorem dJ5_append_3fe6f_67 : decode cJ5_append_3fe6f 67 = .ok (.iadd, 1) := by decide +kernel
theorem dJ5_append_3fe6f_68 : decode cJ5_append_3fe6f 68 = .ok (.putfield 79, 3) := by decide +kernel
theorem dJ5_append_3fe6f_71 : decode cJ5_append_3fe6f 71 = .ok (.iload_n 1, 1) := by decide +kernel
theorem dJ5_append_3fe6f_72 : decode cJ5_append_3fe6f 72 = .ok (.invokestatic 197, 3) := by decide +kernel
theorem dJ5_append_3fe6f_75 : decode cJ5_append_3fe6f 75 = .ok (.aload_n 0, 1) := by decide +kernel
theorem dJ5_append_3fe6f_76 : decode cJ5_append_3fe6f 76 = .ok (.areturn, 1) := by decide +kernel
theorem q3_152 : (Jvm.Cond.fieldLink "java/lang/AbstractStringBuilder" (79 : Nat) "java/lang/AbstractStringBuilder" "count" "I") ∈ lw_g := zg_of (zin3 (List.mem_of_getElem? (i := 152) rfl)) rfl
theorem q3_169 : (Jvm.Cond.methodLink "java/lang/AbstractStringBuilder" (100 : Nat) ({ cls := "java/lang/AbstractStringBuilder", name := "ensureCapacityInternal", desc := "(I)V" } : Jvm.MethodName)) ∈ lw_g := zg_of (zin3 (List.mem_of_getElem? (i := 169) rfl)) rfl
theorem q3_171 : (Jvm.Cond.instanceMethod ({ cls := "java/lang/AbstractStringBuilder", name := "ensureCapacityInternal", desc := "(I)V" } : Jvm.MethodName)) ∈ lw_g := zg_of (zin3 (List.mem_of_getElem? (i := 171) rfl)) rfl
theorem q3_202 : (Jvm.Cond.methodLink "java/lang/AbstractStringBuilder" (83 : Nat) ({ cls := "java/lang/AbstractStringBuilder", name := "isLatin1", desc := "()Z" } : Jvm.MethodName)) ∈ lw_g := zg_of (zin3 (List.mem_of_getElem? (i := 202) rfl)) rfl
theorem q3_203 : (Jvm.Cond.instanceMethod ({ cls := "java/lang/AbstractStringBuilder", name := "isLatin1", desc := "()Z" } : Jvm.MethodName)) ∈ lw_g := zg_of (zin3 (List.mem_of_getElem? (i := 203) rfl)) rfl
theorem q3_205 : (Jvm.Cond.selects "java/lang/StringBuilder" ({ cls := "java/lang/AbstractStringBuilder", name := "isLatin1", desc := "()Z" } : Jvm.MethodName) ({ cls := "java/lang/AbstractStringBuilder", name := "isLatin1", desc := "()Z" } : Jvm.MethodName)) ∈ lw_g := zg_of (zin3 (List.mem_of_getElem? (i := 205) rfl)) rfl
theorem q3_207 : (Jvm.Cond.methodLink "java/lang/AbstractStringBuilder" (191 : Nat) ({ cls := "java/lang/StringLatin1", name := "canEncode", desc := "(C)Z" } : Jvm.MethodName)) ∈ lw_g := zg_of (zin3 (List.mem_of_getElem? (i := 207) rfl)) rfl
theorem q3_168 : (Jvm.Cond.code ({ cls := "java/lang/AbstractStringBuilder", name := "append", desc := "(C)Ljava/lang/AbstractStringBuilder;" } : Jvm.MethodName) prog_8_method_31_code (2 : Nat) (Option.some (Jvm.ClassFile.FieldType.object "java/lang/AbstractStringBuilder"))) ∈ lw_g := zg_of (zin3 (List.mem_of_getElem? (i := 168) rfl)) rfl
theorem ok_J5_append_3fe6f : zOK yJ5_append_3fe6f cJ5_append_3fe6f 2 ((Option.some (Jvm.ClassFile.FieldType.object "java/lang/AbstractStringBuilder"))) 1 := ⟨q3_168, q1_25, by decide, by decide, by decide +kernel⟩
set_option maxHeartbeats 4000000 in
set_option maxRecDepth 100000 in
theorem c_sApC (l : Launch) (G : zG) (q sz n : Nat) (h99 : sz ≥ G.2 99) (hn : n ≤ 33) : Met l yJ5_append_3fe6f (wq yJ5_append_3fe6f cJ5_append_3fe6f 2 ((Option.some (Jvm.ClassFile.FieldType.object "java/lang/AbstractStringBuilder")))) (rmM 4 91 1 34) (va_Pc [.ref (q), .int (zI (32))] (zK G (fun H => hSX G q sz n n H ∧ zTx G H))) (zM (fun y => sz ≤ y) (some (.ref (q))) (fun H => hSX G q sz (n + 1) (n + 1) H)) 1 34 (fun y => sz ≤ y) := by
  refine z_enterMA (by decide +kernel) (Nat.le_of_ble_eq_true rfl) ?_
  intro p env s m below meth cod Q S hG hP hS ret ls hl
  have hl : lv_has ls 2 [(0, .ref (q)), (1, .int (zI (32)))] := hl
  obtain ⟨v, cap, ⟨hQ, hV, hne⟩, hq, hv, hc, hnn⟩ := hP.1
  have hT := hP.2
  have hqs := va_lt hQ
  have hvs := hV.lt
  refine z_aload_n S dJ5_append_3fe6f_0 hl 0 rfl rfl ?_
  refine z_aload_n S dJ5_append_3fe6f_1 hl 0 rfl rfl ?_
  refine z_getR S hG hQ zc_J4 3 (by decide) q3_152 rfl dJ5_append_3fe6f_2 ?_
  refine z_iconst S dJ5_append_3fe6f_5 ?_
  refine z_iadd S dJ5_append_3fe6f_6 ?_
  refine z_callQ S hG hS (c_sEn l G q sz n ((n : Int) + 1) (n + 1) (by omega) (by omega)) (fun _ h => h) ok_J5_ensureCapacityInternal_d00df q3_171 (va_Nw.use rfl (hG.2.2.2.2.2.2.2.2.2.2.2 _ (List.mem_of_getElem? (i := 0) rfl))) (z_rcv hG hQ zc_J4) q3_169 (⟨v, cap, ⟨hQ, hV, hne⟩, hq, hv, hc, hnn⟩) ⟨rfl, rfl, by decide, by decide⟩ ⟨Nat.le_of_ble_eq_true rfl, Nat.le_of_ble_eq_true rfl⟩ rfl (Nat.le_of_ble_eq_true rfl) hl.1 rfl dJ5_append_3fe6f_7 (fun H_1 L_1 hB hz oq hS => ?_)
  have hT := zTx.kept hT (fun y hx h9 => oq y hx (by show ¬ (sz ≤ _); omega))
  obtain ⟨v, cap, ⟨hQ, hV, hne⟩, hq, hv, hc, hnn⟩ := hB
  have hqs := va_lt hQ
  have hvs := hV.lt
  refine z_aload_n S dJ5_append_3fe6f_10 hl 0 rfl rfl ?_
  refine z_callQr S hG (c_sLat l G q v n cap) ok_J5_isLatin1_aae02 q3_203 (S.2.2.2.2 _ q3_205) (z_rcv hG hQ zc_J4) q3_202 (⟨⟨hQ, hV, hne⟩, hT⟩) ⟨rfl, rfl, by decide, by decide⟩ ⟨Nat.le_of_ble_eq_true rfl, Nat.le_of_ble_eq_true rfl⟩ rfl (Nat.le_of_ble_eq_true rfl) hl.1 rfl dJ5_append_3fe6f_11 ?_
  refine z_bif_eq S 45 dJ5_append_3fe6f_14 (by decide) (fun qz => ?_) (fun qz => ?_)
  · exact absurd qz (by decide)
  refine z_iload_n S dJ5_append_3fe6f_17 hl 1 rfl rfl ?_
  refine z_callSs S hG (c_sEnc l G) ok_J1_canEncode_fc78d q3_207 (trivial) ⟨rfl, rfl, by decide, by decide⟩ ⟨Nat.le_of_ble_eq_true rfl, Nat.le_of_ble_eq_true rfl⟩ rfl (Nat.le_of_ble_eq_true rfl) hl.1 rfl dJ5_append_3fe6f_18 ?_
  refine z_bif_eq S 45 dJ5_append_3fe6f_21 (by decide) (fun qz => ?_) (fun qz => ?_)
  · exact absurd qz (by decide)
  refine z_aload_n S dJ5_append_3fe6f_24 hl 0 rfl rfl ?_
  refine z_getR S hG hQ zc_J4 0 (by decide) q3_149 rfl dJ5_append_3fe6f_25 ?_
  refine z_aload_n S dJ5_append_3fe6f_28 hl 0 rfl rfl ?_
  refine z_dup S dJ5_append_3fe6f_29 rfl ?_
  refine z_getR S hG hQ zc_J4 3 (by decide) q3_152 rfl dJ5_append_3fe6f_30 ?_
  refine lv_dup_x1 S.1 S.2.1 dJ5_append_3fe6f_33 rfl rfl ?_
  refine z_iconst S dJ5_append_3fe6f_34 ?_
  refine z_iadd S dJ5_append_3fe6f_35 ?_
  refine z_putR S hG hQ zc_J4 tyJ4 tyJ4_ok nmJ4 hS (by show sz ≤ q; omega) 3 (by decide) q3_152 rfl (tyJ4_ok 3 (by decide)) rfl rfl (Nat.le_of_ble_eq_true rfl) dJ5_append_3fe6f_36 (fun H_2 L_2 hat hz oq hS => ?_)
  have hQ := hat
  have hV := zBy.kept hV (fun _ => oq _ (show q ≠ v by omega).symm)
  have hT := zTx.kept hT (fun y hx h9 => oq y (by omega))
  refine z_iload_n S dJ5_append_3fe6f_39 hl 1 rfl rfl ?_
  refine lv_i2b S.1 S.2.1 dJ5_append_3fe6f_40 (v := zI 32) (by decide) ?_
  refine z_bast S hG hV hS (by show sz ≤ v; omega) (by omega) (by omega) dJ5_append_3fe6f_41 (fun H_3 L_3 hat hz oq hS => ?_)
  have hQ := va_at.kept hQ (oq _ (show v ≠ q by omega).symm)
  have hV := hat
  have hT := zTx.kept hT (fun y hx h9 => oq y (by omega))
  refine z_goto S 75 dJ5_append_3fe6f_42 (by decide) ?_
  refine z_aload_n S dJ5_append_3fe6f_75 hl 0 rfl rfl ?_
  exact ret _ _ _ _ _ _ dJ5_append_3fe6f_76 hS (⟨v, cap, ⟨hQ, hV, hne⟩, hq, hv, by omega, Nat.le_refl _⟩) (Nat.le_of_ble_eq_true rfl) (Nat.le_of_ble_eq_true rfl)
theorem dJ6_stringSize_0f7a4_0 : decode cJ6_stringSize_0f7a4 0 = .ok (.iconst 1, 1) := by decide +kernel
theorem dJ6_stringSize_0f7a4_1 : decode cJ6_stringSize_0f7a4 1 = .ok (.istore_n 1, 1) := by decide +kernel
theorem dJ6_stringSize_0f7a4_2 : decode cJ6_stringSize_0f7a4 2 = .ok (.iload_n 0, 1) := by decide +kernel
theorem dJ6_stringSize_0f7a4_3 : decode cJ6_stringSize_0f7a4 3 = .ok (.ifCond .lt 8, 3) := by decide +kernel
theorem dJ6_stringSize_0f7a4_6 : decode cJ6_stringSize_0f7a4 6 = .ok (.iconst 0, 1) := by decide +kernel
theorem dJ6_stringSize_0f7a4_7 : decode cJ6_stringSize_0f7a4 7 = .ok (.istore_n 1, 1) := by decide +kernel
theorem dJ6_stringSize_0f7a4_8 : decode cJ6_stringSize_0f7a4 8 = .ok (.iload_n 0, 1) := by decide +kernel
theorem dJ6_stringSize_0f7a4_9 : decode cJ6_stringSize_0f7a4 9 = .ok (.ineg, 1) := by decide +kernel
theorem dJ6_stringSize_0f7a4_10 : decode cJ6_stringSize_0f7a4 10 = .ok (.istore_n 0, 1) := by decide +kernel
theorem dJ6_stringSize_0f7a4_11 : decode cJ6_stringSize_0f7a4 11 = .ok (.bipush (-10), 2) := by decide +kernel
theorem dJ6_stringSize_0f7a4_13 : decode cJ6_stringSize_0f7a4 13 = .ok (.istore_n 2, 1) := by decide +kernel
theorem dJ6_stringSize_0f7a4_14 : decode cJ6_stringSize_0f7a4 14 = .ok (.iconst 1, 1) := by decide +kernel
theorem dJ6_stringSize_0f7a4_15 : decode cJ6_stringSize_0f7a4 15 = .ok (.istore_n 3, 1) := by decide +kernel
theorem dJ6_stringSize_0f7a4_16 : decode cJ6_stringSize_0f7a4 16 = .ok (.iload_n 3, 1) := by decide +kernel
theorem dJ6_stringSize_0f7a4_17 : decode cJ6_stringSize_0f7a4 17 = .ok (.bipush 10, 2) := by decide +kernel
theorem dJ6_stringSize_0f7a4_19 : decode cJ6_stringSize_0f7a4 19 = .ok (.if_icmp .ge 23, 3) := by decide +kernel
theorem dJ6_stringSize_0f7a4_22 : decode cJ6_stringSize_0f7a4 22 = .ok (.iload_n 0, 1) := by decide +kernel
theorem dJ6_stringSize_0f7a4_23 : decode cJ6_stringSize_0f7a4 23 = .ok (.iload_n 2, 1) := by decide +kernel
theorem dJ6_stringSize_0f7a4_24 : decode cJ6_stringSize_0f7a4 24 = .ok (.if_icmp .le 7, 3) := by decide +kernel
theorem dJ6_stringSize_0f7a4_27 : decode cJ6_stringSize_0f7a4 27 = .ok (.iload_n 3, 1) := by decide +kernel
theorem dJ6_stringSize_0f7a4_28 : decode cJ6_stringSize_0f7a4 28 = .ok (.iload_n 1, 1) := by decide +kernel
theorem dJ6_stringSize_0f7a4_29 : decode cJ6_stringSize_0f7a4 29 = .ok (.iadd, 1) := by decide +kernel
theorem dJ6_stringSize_0f7a4_30 : decode cJ6_stringSize_0f7a4 30 = .ok (.ireturn, 1) := by decide +kernel
theorem dJ6_stringSize_0f7a4_31 : decode cJ6_stringSize_0f7a4 31 = .ok (.bipush 10, 2) := by decide +kernel
theorem dJ6_stringSize_0f7a4_33 : decode cJ6_stringSize_0f7a4 33 = .ok (.iload_n 2, 1) := by decide +kernel
theorem dJ6_stringSize_0f7a4_34 : decode cJ6_stringSize_0f7a4 34 = .ok (.imul, 1) := by decide +kernel
theorem dJ6_stringSize_0f7a4_35 : decode cJ6_stringSize_0f7a4 35 = .ok (.istore_n 2, 1) := by decide +kernel
theorem dJ6_stringSize_0f7a4_36 : decode cJ6_stringSize_0f7a4 36 = .ok (.iinc 3 1, 3) := by decide +kernel
theorem dJ6_stringSize_0f7a4_39 : decode cJ6_stringSize_0f7a4 39 = .ok (.goto (-23), 3) := by decide +kernel
theorem dJ6_stringSize_0f7a4_42 : decode cJ6_stringSize_0f7a4 42 = .ok (.bipush 10, 2) := by decide +kernel
theorem dJ6_stringSize_0f7a4_44 : decode cJ6_stringSize_0f7a4 44 = .ok (.iload_n 1, 1) := by decide +kernel
theorem dJ6_stringSize_0f7a4_45 : decode cJ6_stringSize_0f7a4 45 = .ok (.iadd, 1) := by decide +kernel
theorem dJ6_stringSize_0f7a4_46 : decode cJ6_stringSize_0f7a4 46 = .ok (.ireturn, 1) := by decide +kernel
theorem q4_24 : (Jvm.Cond.code ({ cls := "java/lang/Integer", name := "stringSize", desc := "(I)I" } : Jvm.MethodName) prog_17_method_13_code (4 : Nat) (Option.some Jvm.ClassFile.FieldType.int)) ∈ lw_g := zg_of (zin4 (List.mem_of_getElem? (i := 24) rfl)) rfl
theorem q4_23 : (Jvm.Cond.static ({ cls := "java/lang/Integer", name := "stringSize", desc := "(I)I" } : Jvm.MethodName)) ∈ lw_g := zg_of (zin4 (List.mem_of_getElem? (i := 23) rfl)) rfl
theorem ok_J6_stringSize_0f7a4 : zOS yJ6_stringSize_0f7a4 cJ6_stringSize_0f7a4 4 ((Option.some Jvm.ClassFile.FieldType.int)) 1 := ⟨⟨q4_24, q1_22, by decide, by decide, by decide +kernel⟩, q4_23⟩
set_option maxHeartbeats 4000000 in
set_option maxRecDepth 100000 in
theorem c_sSs (l : Launch) (G : zG) (x : Int) (w : Nat) (hx : 0 ≤ x ∧ x < 100) (hw : (x < 10 ∧ w = 1) ∨ (10 ≤ x ∧ w = 2)) : Met l yJ6_stringSize_0f7a4 (wq yJ6_stringSize_0f7a4 cJ6_stringSize_0f7a4 4 ((Option.some Jvm.ClassFile.FieldType.int))) (rmR 0 0) (va_Pc [.int (zI (x))] (zK G (fun _ => True))) (zQ (some (.int ((zI ((w : Int))))))) 0 0 zF := by
  refine z_enterI (by decide +kernel) (Nat.le_of_ble_eq_true rfl) ?_
  intro p env s m below meth cod Q S hG hP ret ls hl
  have hl : lv_has ls 4 [(0, .int (zI (x)))] := hl
  rcases hw with hw | hw
  · skip
    refine z_iconst S dJ6_stringSize_0f7a4_0 ?_
    refine z_istore_n (lv' := [(1, .int (zI (1))), (0, .int (zI (x)))]) S dJ6_stringSize_0f7a4_1 hl rfl (by decide) rfl (fun ls hl => ?_)
    refine z_iload_n S dJ6_stringSize_0f7a4_2 hl 1 rfl rfl ?_
    refine z_if_lt_F S 11 dJ6_stringSize_0f7a4_3 (by decide) (by omega) (by omega) ?_
    refine z_iconst S dJ6_stringSize_0f7a4_6 ?_
    refine z_istore_n (lv' := [(1, .int (zI (0))), (0, .int (zI (x)))]) S dJ6_stringSize_0f7a4_7 hl rfl (by decide) rfl (fun ls hl => ?_)
    refine z_iload_n S dJ6_stringSize_0f7a4_8 hl 1 rfl rfl ?_
    refine lv_ineg S.1 S.2.1 dJ6_stringSize_0f7a4_9 ?_
    rw [z_neg]
    refine z_istore_n (lv' := [(0, .int (zI (-(x)))), (1, .int (zI (0)))]) S dJ6_stringSize_0f7a4_10 hl rfl (by decide) rfl (fun ls hl => ?_)
    refine z_bipush S dJ6_stringSize_0f7a4_11 rfl ?_
    refine z_istore_n (lv' := [(2, .int (zI ((-10)))), (0, .int (zI (-(x)))), (1, .int (zI (0)))]) S dJ6_stringSize_0f7a4_13 hl rfl (by decide) rfl (fun ls hl => ?_)
    refine z_iconst S dJ6_stringSize_0f7a4_14 ?_
    refine z_istore_n (lv' := [(3, .int (zI (1))), (2, .int (zI ((-10)))), (0, .int (zI (-(x)))), (1, .int (zI (0)))]) S dJ6_stringSize_0f7a4_15 hl rfl (by decide) rfl (fun ls hl => ?_)
    refine z_iload_n S dJ6_stringSize_0f7a4_16 hl 0 rfl rfl ?_
    refine z_bipush S dJ6_stringSize_0f7a4_17 rfl ?_
    refine z_icmp_ge_F S 42 dJ6_stringSize_0f7a4_19 (by decide) (by omega) (by omega) (by omega) ?_
    refine z_iload_n S dJ6_stringSize_0f7a4_22 hl 2 rfl rfl ?_
    refine z_iload_n S dJ6_stringSize_0f7a4_23 hl 1 rfl rfl ?_
    refine z_icmp_le_F S 31 dJ6_stringSize_0f7a4_24 (by decide) (by omega) (by omega) (by omega) ?_
    refine z_iload_n S dJ6_stringSize_0f7a4_27 hl 0 rfl rfl ?_
    refine z_iload_n S dJ6_stringSize_0f7a4_28 hl 3 rfl rfl ?_
    refine z_iadd S dJ6_stringSize_0f7a4_29 ?_
    exact ret _ _ _ dJ6_stringSize_0f7a4_30 (by rw [hw.2]; rfl)
  · skip
    refine z_iconst S dJ6_stringSize_0f7a4_0 ?_
    refine z_istore_n (lv' := [(1, .int (zI (1))), (0, .int (zI (x)))]) S dJ6_stringSize_0f7a4_1 hl rfl (by decide) rfl (fun ls hl => ?_)
    refine z_iload_n S dJ6_stringSize_0f7a4_2 hl 1 rfl rfl ?_
    refine z_if_lt_F S 11 dJ6_stringSize_0f7a4_3 (by decide) (by omega) (by omega) ?_
    refine z_iconst S dJ6_stringSize_0f7a4_6 ?_
    refine z_istore_n (lv' := [(1, .int (zI (0))), (0, .int (zI (x)))]) S dJ6_stringSize_0f7a4_7 hl rfl (by decide) rfl (fun ls hl => ?_)
    refine z_iload_n S dJ6_stringSize_0f7a4_8 hl 1 rfl rfl ?_
    refine lv_ineg S.1 S.2.1 dJ6_stringSize_0f7a4_9 ?_
    rw [z_neg]
    refine z_istore_n (lv' := [(0, .int (zI (-(x)))), (1, .int (zI (0)))]) S dJ6_stringSize_0f7a4_10 hl rfl (by decide) rfl (fun ls hl => ?_)
    refine z_bipush S dJ6_stringSize_0f7a4_11 rfl ?_
    refine z_istore_n (lv' := [(2, .int (zI ((-10)))), (0, .int (zI (-(x)))), (1, .int (zI (0)))]) S dJ6_stringSize_0f7a4_13 hl rfl (by decide) rfl (fun ls hl => ?_)
    refine z_iconst S dJ6_stringSize_0f7a4_14 ?_
    refine z_istore_n (lv' := [(3, .int (zI (1))), (2, .int (zI ((-10)))), (0, .int (zI (-(x)))), (1, .int (zI (0)))]) S dJ6_stringSize_0f7a4_15 hl rfl (by decide) rfl (fun ls hl => ?_)
    refine z_iload_n S dJ6_stringSize_0f7a4_16 hl 0 rfl rfl ?_
    refine z_bipush S dJ6_stringSize_0f7a4_17 rfl ?_
    refine z_icmp_ge_F S 42 dJ6_stringSize_0f7a4_19 (by decide) (by omega) (by omega) (by omega) ?_
    refine z_iload_n S dJ6_stringSize_0f7a4_22 hl 2 rfl rfl ?_
    refine z_iload_n S dJ6_stringSize_0f7a4_23 hl 1 rfl rfl ?_
    refine z_icmp_le_T S 31 dJ6_stringSize_0f7a4_24 (by decide) (by omega) (by omega) (by omega) ?_
    refine z_bipush S dJ6_stringSize_0f7a4_31 rfl ?_
    refine z_iload_n S dJ6_stringSize_0f7a4_33 hl 1 rfl rfl ?_
    refine z_imul S dJ6_stringSize_0f7a4_34 ?_
    refine z_istore_n (lv' := [(2, .int (zI ((10) * ((-10))))), (3, .int (zI (1))), (0, .int (zI (-(x)))), (1, .int (zI (0)))]) S dJ6_stringSize_0f7a4_35 hl rfl (by decide) rfl (fun ls hl => ?_)
    refine z_iinc (lv' := [(3, .int (zI (1 + 1))), (2, .int (zI ((10) * ((-10))))), (0, .int (zI (-(x)))), (1, .int (zI (0)))]) S dJ6_stringSize_0f7a4_36 hl 1 rfl (by decide) rfl (fun ls hl => ?_)
    refine z_goto S 16 dJ6_stringSize_0f7a4_39 (by decide) ?_
    refine z_iload_n S dJ6_stringSize_0f7a4_16 hl 0 rfl rfl ?_
    refine z_bipush S dJ6_stringSize_0f7a4_17 rfl ?_
    refine z_icmp_ge_F S 42 dJ6_stringSize_0f7a4_19 (by decide) (by omega) (by omega) (by omega) ?_
    refine z_iload_n S dJ6_stringSize_0f7a4_22 hl 2 rfl rfl ?_
    refine z_iload_n S dJ6_stringSize_0f7a4_23 hl 1 rfl rfl ?_
    refine z_icmp_le_F S 31 dJ6_stringSize_0f7a4_24 (by decide) (by omega) (by omega) (by omega) ?_
    refine z_iload_n S dJ6_stringSize_0f7a4_27 hl 0 rfl rfl ?_
    refine z_iload_n S dJ6_stringSize_0f7a4_28 hl 3 rfl rfl ?_
    refine z_iadd S dJ6_stringSize_0f7a4_29 ?_
    exact ret _ _ _ dJ6_stringSize_0f7a4_30 (by rw [hw.2]; rfl)
theorem dJ6_getChars_ba4f3_0 : decode cJ6_getChars_ba4f3 0 = .ok (.iload_n 1, 1) := by decide +kernel
theorem dJ6_getChars_ba4f3_1 : decode cJ6_getChars_ba4f3 1 = .ok (.istore 5, 2) := by decide +kernel
theorem dJ6_getChars_ba4f3_3 : decode cJ6_getChars_ba4f3 3 = .ok (.iload_n 0, 1) := by decide +kernel
theorem dJ6_getChars_ba4f3_4 : decode cJ6_getChars_ba4f3 4 = .ok (.ifCond .ge 7, 3) := by decide +kernel
theorem dJ6_getChars_ba4f3_7 : decode cJ6_getChars_ba4f3 7 = .ok (.iconst 1, 1) := by decide +kernel
theorem dJ6_getChars_ba4f3_8 : decode cJ6_getChars_ba4f3 8 = .ok (.goto 4, 3) := by decide +kernel
theorem dJ6_getChars_ba4f3_11 : decode cJ6_getChars_ba4f3 11 = .ok (.iconst 0, 1) := by decide +kernel
theorem dJ6_getChars_ba4f3_12 : decode cJ6_getChars_ba4f3 12 = .ok (.istore 6, 2) := by decide +kernel
theorem dJ6_getChars_ba4f3_14 : decode cJ6_getChars_ba4f3 14 = .ok (.iload 6, 2) := by decide +kernel
theorem dJ6_getChars_ba4f3_16 : decode cJ6_getChars_ba4f3 16 = .ok (.ifCond .ne 6, 3) := by decide +kernel
theorem dJ6_getChars_ba4f3_19 : decode cJ6_getChars_ba4f3 19 = .ok (.iload_n 0, 1) := by decide +kernel
theorem dJ6_getChars_ba4f3_20 : decode cJ6_getChars_ba4f3 20 = .ok (.ineg, 1) := by decide +kernel
theorem dJ6_getChars_ba4f3_21 : decode cJ6_getChars_ba4f3 21 = .ok (.istore_n 0, 1) := by decide +kernel
theorem dJ6_getChars_ba4f3_22 : decode cJ6_getChars_ba4f3 22 = .ok (.iload_n 0, 1) := by decide +kernel
theorem dJ6_getChars_ba4f3_23 : decode cJ6_getChars_ba4f3 23 = .ok (.bipush (-100), 2) := by decide +kernel
theorem dJ6_getChars_ba4f3_25 : decode cJ6_getChars_ba4f3 25 = .ok (.if_icmp .gt 47, 3) := by decide +kernel
theorem dJ6_getChars_ba4f3_28 : decode cJ6_getChars_ba4f3 28 = .ok (.iload_n 0, 1) := by decide +kernel
theorem dJ6_getChars_ba4f3_29 : decode cJ6_getChars_ba4f3 29 = .ok (.bipush 100, 2) := by decide +kernel
theorem dJ6_getChars_ba4f3_31 : decode cJ6_getChars_ba4f3 31 = .ok (.idiv, 1) := by decide +kernel
theorem dJ6_getChars_ba4f3_32 : decode cJ6_getChars_ba4f3 32 = .ok (.istore_n 3, 1) := by decide +kernel
theorem dJ6_getChars_ba4f3_33 : decode cJ6_getChars_ba4f3 33 = .ok (.iload_n 3, 1) := by decide +kernel
theorem dJ6_getChars_ba4f3_34 : decode cJ6_getChars_ba4f3 34 = .ok (.bipush 100, 2) := by decide +kernel
theorem dJ6_getChars_ba4f3_36 : decode cJ6_getChars_ba4f3 36 = .ok (.imul, 1) := by decide +kernel
theorem dJ6_getChars_ba4f3_37 : decode cJ6_getChars_ba4f3 37 = .ok (.iload_n 0, 1) := by decide +kernel
theorem dJ6_getChars_ba4f3_38 : decode cJ6_getChars_ba4f3 38 = .ok (.isub, 1) := by decide +kernel
theorem dJ6_getChars_ba4f3_39 : decode cJ6_getChars_ba4f3 39 = .ok (.istore 4, 2) := by decide +kernel
theorem dJ6_getChars_ba4f3_41 : decode cJ6_getChars_ba4f3 41 = .ok (.iload_n 3, 1) := by decide +kernel
theorem dJ6_getChars_ba4f3_42 : decode cJ6_getChars_ba4f3 42 = .ok (.istore_n 0, 1) := by decide +kernel
theorem dJ6_getChars_ba4f3_43 : decode cJ6_getChars_ba4f3 43 = .ok (.aload_n 2, 1) := by decide +kernel
theorem dJ6_getChars_ba4f3_44 : decode cJ6_getChars_ba4f3 44 = .ok (.iinc 5 (-1), 3) := by decide +kernel
theorem dJ6_getChars_ba4f3_47 : decode cJ6_getChars_ba4f3 47 = .ok (.iload 5, 2) := by decide +kernel
theorem dJ6_getChars_ba4f3_49 : decode cJ6_getChars_ba4f3 49 = .ok (.getstatic 83, 3) := by decide +kernel
theorem dJ6_getChars_ba4f3_52 : decode cJ6_getChars_ba4f3 52 = .ok (.iload 4, 2) := by decide +kernel
theorem dJ6_getChars_ba4f3_54 : decode cJ6_getChars_ba4f3 54 = .ok (.baload, 1) := by decide +kernel
theorem dJ6_getChars_ba4f3_55 : decode cJ6_getChars_ba4f3 55 = .ok (.bastore, 1) := by decide +kernel
theorem dJ6_getChars_ba4f3_56 : decode cJ6_getChars_ba4f3 56 = .ok (.aload_n 2, 1) := by decide +kernel
theorem dJ6_getChars_ba4f3_57 : decode cJ6_getChars_ba4f3 57 = .ok (.iinc 5 (-1), 3) := by decide +kernel
theorem dJ6_getChars_ba4f3_60 : decode cJ6_getChars_ba4f3 60 = .ok (.iload 5, 2) := by decide +kernel
theorem dJ6_getChars_ba4f3_62 : decode cJ6_getChars_ba4f3 62 = .ok (.getstatic 87, 3) := by decide +kernel
theorem dJ6_getChars_ba4f3_65 : decode cJ6_getChars_ba4f3 65 = .ok (.iload 4, 2) := by decide +kernel
theorem dJ6_getChars_ba4f3_67 : decode cJ6_getChars_ba4f3 67 = .ok (.baload, 1) := by decide +kernel
theorem dJ6_getChars_ba4f3_68 : decode cJ6_getChars_ba4f3 68 = .ok (.bastore, 1) := by decide +kernel
theorem dJ6_getChars_ba4f3_69 : decode cJ6_getChars_ba4f3 69 = .ok (.goto (-47), 3) := by decide +kernel
theorem dJ6_getChars_ba4f3_72 : decode cJ6_getChars_ba4f3 72 = .ok (.aload_n 2, 1) := by decide +kernel
theorem dJ6_getChars_ba4f3_73 : decode cJ6_getChars_ba4f3 73 = .ok (.iinc 5 (-1), 3) := by decide +kernel
theorem dJ6_getChars_ba4f3_76 : decode cJ6_getChars_ba4f3 76 = .ok (.iload 5, 2) := by decide +kernel
theorem dJ6_getChars_ba4f3_78 : decode cJ6_getChars_ba4f3 78 = .ok (.getstatic 83, 3) := by decide +kernel
theorem dJ6_getChars_ba4f3_81 : decode cJ6_getChars_ba4f3 81 = .ok (.iload_n 0, 1) := by decide +kernel
theorem dJ6_getChars_ba4f3_82 : decode cJ6_getChars_ba4f3 82 = .ok (.ineg, 1) := by decide +kernel
theorem dJ6_getChars_ba4f3_83 : decode cJ6_getChars_ba4f3 83 = .ok (.baload, 1) := by decide +kernel
theorem dJ6_getChars_ba4f3_84 : decode cJ6_getChars_ba4f3 84 = .ok (.bastore, 1) := by decide +kernel
theorem dJ6_getChars_ba4f3_85 : decode cJ6_getChars_ba4f3 85 = .ok (.iload_n 0, 1) := by decide +kernel
theorem dJ6_getChars_ba4f3_86 : decode cJ6_getChars_ba4f3 86 = .ok (.bipush (-9), 2) := by decide +kernel
theorem dJ6_getChars_ba4f3_88 : decode cJ6_getChars_ba4f3 88 = .ok (.if_icmp .ge 16, 3) := by decide +kernel
theorem dJ6_getChars_ba4f3_91 : decode cJ6_getChars_ba4f3 91 = .ok (.aload_n 2, 1) := by decide +kernel
theorem dJ6_getChars_ba4f3_92 : decode cJ6_getChars_ba4f3 92 = .ok (.iinc 5 (-1), 3) := by decide +kernel
theorem dJ6_getChars_ba4f3_95 : decode cJ6_getChars_ba4f3 95 = .ok (.iload 5, 2) := by decide +kernel
theorem dJ6_getChars_ba4f3_97 : decode cJ6_getChars_ba4f3 97 = .ok (.getstatic 87, 3) := by decide +kernel
theorem dJ6_getChars_ba4f3_100 : decode cJ6_getChars_ba4f3 100 = .ok (.iload_n 0, 1) := by decide +kernel
theorem dJ6_getChars_ba4f3_101 : decode cJ6_getChars_ba4f3 101 = .ok (.ineg, 1) := by decide +kernel
theorem dJ6_getChars_ba4f3_102 : decode cJ6_getChars_ba4f3 102 = .ok (.baload, 1) := by decide +kernel
theorem dJ6_getChars_ba4f3_103 : decode cJ6_getChars_ba4f3 103 = .ok (.bastore, 1) := by decide +kernel
theorem dJ6_getChars_ba4f3_104 : decode cJ6_getChars_ba4f3 104 = .ok (.iload 6, 2) := by decide +kernel
theorem dJ6_getChars_ba4f3_106 : decode cJ6_getChars_ba4f3 106 = .ok (.ifCond .eq 12, 3) := by decide +kernel
theorem dJ6_getChars_ba4f3_109 : decode cJ6_getChars_ba4f3 109 = .ok (.aload_n 2, 1) := by decide +kernel
theorem dJ6_getChars_ba4f3_110 : decode cJ6_getChars_ba4f3 110 = .ok (.iinc 5 (-1), 3) := by decide +kernel
theorem dJ6_getChars_ba4f3_113 : decode cJ6_getChars_ba4f3 113 = .ok (.iload 5, 2) := by decide +kernel
theorem dJ6_getChars_ba4f3_115 : decode cJ6_getChars_ba4f3 115 = .ok (.bipush 45, 2) := by decide +kernel
theorem dJ6_getChars_ba4f3_117 : decode cJ6_getChars_ba4f3 117 = .ok (.bastore, 1) := by decide +kernel
theorem dJ6_getChars_ba4f3_118 : decode cJ6_getChars_ba4f3 118 = .ok (.iload 5, 2) := by decide +kernel
theorem dJ6_getChars_ba4f3_120 : decode cJ6_getChars_ba4f3 120 = .ok (.ireturn, 1) := by decide +kernel
theorem q4_28 : (Jvm.Cond.fieldLink "java/lang/Integer" (83 : Nat) "java/lang/Integer" "DigitOnes" "[B") ∈ lw_g := zg_of (zin4 (List.mem_of_getElem? (i := 28) rfl)) rfl
theorem q4_30 : (Jvm.Cond.fieldLink "java/lang/Integer" (87 : Nat) "java/lang/Integer" "DigitTens" "[B") ∈ lw_g := zg_of (zin4 (List.mem_of_getElem? (i := 30) rfl)) rfl
theorem q4_27 : (Jvm.Cond.code ({ cls := "java/lang/Integer", name := "getChars", desc := "(II[B)I" } : Jvm.MethodName) prog_17_method_12_code (7 : Nat) (Option.some Jvm.ClassFile.FieldType.int)) ∈ lw_g := zg_of (zin4 (List.mem_of_getElem? (i := 27) rfl)) rfl
theorem q4_26 : (Jvm.Cond.static ({ cls := "java/lang/Integer", name := "getChars", desc := "(II[B)I" } : Jvm.MethodName)) ∈ lw_g := zg_of (zin4 (List.mem_of_getElem? (i := 26) rfl)) rfl
theorem ok_J6_getChars_ba4f3 : zOS yJ6_getChars_ba4f3 cJ6_getChars_ba4f3 7 ((Option.some Jvm.ClassFile.FieldType.int)) 3 := ⟨⟨q4_27, q1_22, by decide, by decide, by decide +kernel⟩, q4_26⟩
set_option maxHeartbeats 4000000 in
set_option maxRecDepth 100000 in
theorem c_sGc (l : Launch) (G : zG) (x idx : Int) (bv cap w : Nat) (hx : 0 ≤ x ∧ x < 100) (hw : (x < 10 ∧ w = 1) ∨ (10 ≤ x ∧ w = 2)) (hi : (w : Int) ≤ idx ∧ idx ≤ cap ∧ cap ≤ 34) (hb9 : bv ≥ G.2 99) : Met l yJ6_getChars_ba4f3 (wq yJ6_getChars_ba4f3 cJ6_getChars_ba4f3 7 ((Option.some Jvm.ClassFile.FieldType.int))) (rmM 0 0 0 0) (va_Pc [.int (zI (x)), .int (zI (idx)), .ref (bv)] (zK G (fun H => zBy (G.2 3) bv cap H ∧ zTx G H))) (zM (fun y => y = bv) (some (.int ((zI (idx - w))))) (fun H => zBy (G.2 3) bv cap H)) 0 0 (fun y => y = bv) := by
  refine z_enterMI (by decide +kernel) (Nat.le_of_ble_eq_true rfl) ?_
  intro p env s m below meth cod Q S hG hP hS ret ls hl
  have hl : lv_has ls 7 [(0, .int (zI (x))), (1, .int (zI (idx))), (2, .ref (bv))] := hl
  obtain ⟨hV, hT⟩ := hP
  rcases hw with hw | hw
  · skip
    refine z_iload_n S dJ6_getChars_ba4f3_0 hl 1 rfl rfl ?_
    refine z_istore (lv' := [(5, .int (zI (idx))), (0, .int (zI (x))), (1, .int (zI (idx))), (2, .ref (bv))]) S dJ6_getChars_ba4f3_1 hl (by decide) rfl (fun ls hl => ?_)
    refine z_iload_n S dJ6_getChars_ba4f3_3 hl 1 rfl rfl ?_
    refine z_if_ge_T S 11 dJ6_getChars_ba4f3_4 (by decide) (by omega) (by omega) ?_
    refine z_iconst S dJ6_getChars_ba4f3_11 ?_
    refine z_istore (lv' := [(6, .int (zI (0))), (5, .int (zI (idx))), (0, .int (zI (x))), (1, .int (zI (idx))), (2, .ref (bv))]) S dJ6_getChars_ba4f3_12 hl (by decide) rfl (fun ls hl => ?_)
    refine z_iload S dJ6_getChars_ba4f3_14 hl 0 rfl ?_
    refine z_if_ne_F S 22 dJ6_getChars_ba4f3_16 (by decide) (by omega) (by omega) ?_
    refine z_iload_n S dJ6_getChars_ba4f3_19 hl 2 rfl rfl ?_
    refine lv_ineg S.1 S.2.1 dJ6_getChars_ba4f3_20 ?_
    rw [z_neg]
    refine z_istore_n (lv' := [(0, .int (zI (-(x)))), (6, .int (zI (0))), (5, .int (zI (idx))), (1, .int (zI (idx))), (2, .ref (bv))]) S dJ6_getChars_ba4f3_21 hl rfl (by decide) rfl (fun ls hl => ?_)
    refine z_iload_n S dJ6_getChars_ba4f3_22 hl 0 rfl rfl ?_
    refine z_bipush S dJ6_getChars_ba4f3_23 rfl ?_
    refine z_icmp_gt_T S 72 dJ6_getChars_ba4f3_25 (by decide) (by omega) (by omega) (by omega) ?_
    refine z_aload_n S dJ6_getChars_ba4f3_72 hl 4 rfl rfl ?_
    refine z_iinc (lv' := [(5, .int (zI (idx + (-1)))), (0, .int (zI (-(x)))), (6, .int (zI (0))), (1, .int (zI (idx))), (2, .ref (bv))]) S dJ6_getChars_ba4f3_73 hl 2 rfl (by decide) rfl (fun ls hl => ?_)
    refine z_iload S dJ6_getChars_ba4f3_76 hl 0 rfl ?_
    obtain ⟨d1, h1s, h1b, h1l⟩ := hT.2.1
    skip
    refine z_gets S hG 2 rfl h1s q4_28 dJ6_getChars_ba4f3_78 ?_
    refine z_iload_n S dJ6_getChars_ba4f3_81 hl 1 rfl rfl ?_
    refine lv_ineg S.1 S.2.1 dJ6_getChars_ba4f3_82 ?_
    rw [z_neg]
    refine z_baldW S (zG_by hG) h1b (by omega) (by omega) dJ6_getChars_ba4f3_83 (fun bx_83 hbx_83 => ?_)
    refine z_bast S hG hV hS (rfl) (by omega) (by omega) dJ6_getChars_ba4f3_84 (fun H_1 L_1 hat hz oq hS => ?_)
    have hV := hat
    have hT := zTx.kept hT (fun y hx h9 => oq y (by omega))
    refine z_iload_n S dJ6_getChars_ba4f3_85 hl 1 rfl rfl ?_
    refine z_bipush S dJ6_getChars_ba4f3_86 rfl ?_
    refine z_icmp_ge_T S 104 dJ6_getChars_ba4f3_88 (by decide) (by omega) (by omega) (by omega) ?_
    refine z_iload S dJ6_getChars_ba4f3_104 hl 2 rfl ?_
    refine z_if_eq_T S 118 dJ6_getChars_ba4f3_106 (by decide) (by omega) (by omega) ?_
    refine z_iload S dJ6_getChars_ba4f3_118 hl 0 rfl ?_
    exact ret _ _ _ _ _ _ _ dJ6_getChars_ba4f3_120 (by congr 1; omega) hS (hV) (Nat.le_of_ble_eq_true rfl) (Nat.le_of_ble_eq_true rfl)
  · skip
    refine z_iload_n S dJ6_getChars_ba4f3_0 hl 1 rfl rfl ?_
    refine z_istore (lv' := [(5, .int (zI (idx))), (0, .int (zI (x))), (1, .int (zI (idx))), (2, .ref (bv))]) S dJ6_getChars_ba4f3_1 hl (by decide) rfl (fun ls hl => ?_)
    refine z_iload_n S dJ6_getChars_ba4f3_3 hl 1 rfl rfl ?_
    refine z_if_ge_T S 11 dJ6_getChars_ba4f3_4 (by decide) (by omega) (by omega) ?_
    refine z_iconst S dJ6_getChars_ba4f3_11 ?_
    refine z_istore (lv' := [(6, .int (zI (0))), (5, .int (zI (idx))), (0, .int (zI (x))), (1, .int (zI (idx))), (2, .ref (bv))]) S dJ6_getChars_ba4f3_12 hl (by decide) rfl (fun ls hl => ?_)
    refine z_iload S dJ6_getChars_ba4f3_14 hl 0 rfl ?_
    refine z_if_ne_F S 22 dJ6_getChars_ba4f3_16 (by decide) (by omega) (by omega) ?_
    refine z_iload_n S dJ6_getChars_ba4f3_19 hl 2 rfl rfl ?_
    refine lv_ineg S.1 S.2.1 dJ6_getChars_ba4f3_20 ?_
    rw [z_neg]
    refine z_istore_n (lv' := [(0, .int (zI (-(x)))), (6, .int (zI (0))), (5, .int (zI (idx))), (1, .int (zI (idx))), (2, .ref (bv))]) S dJ6_getChars_ba4f3_21 hl rfl (by decide) rfl (fun ls hl => ?_)
    refine z_iload_n S dJ6_getChars_ba4f3_22 hl 0 rfl rfl ?_
    refine z_bipush S dJ6_getChars_ba4f3_23 rfl ?_
    refine z_icmp_gt_T S 72 dJ6_getChars_ba4f3_25 (by decide) (by omega) (by omega) (by omega) ?_
    refine z_aload_n S dJ6_getChars_ba4f3_72 hl 4 rfl rfl ?_
    refine z_iinc (lv' := [(5, .int (zI (idx + (-1)))), (0, .int (zI (-(x)))), (6, .int (zI (0))), (1, .int (zI (idx))), (2, .ref (bv))]) S dJ6_getChars_ba4f3_73 hl 2 rfl (by decide) rfl (fun ls hl => ?_)
    refine z_iload S dJ6_getChars_ba4f3_76 hl 0 rfl ?_
    obtain ⟨d1, h1s, h1b, h1l⟩ := hT.2.1
    skip
    refine z_gets S hG 2 rfl h1s q4_28 dJ6_getChars_ba4f3_78 ?_
    refine z_iload_n S dJ6_getChars_ba4f3_81 hl 1 rfl rfl ?_
    refine lv_ineg S.1 S.2.1 dJ6_getChars_ba4f3_82 ?_
    rw [z_neg]
    refine z_baldW S (zG_by hG) h1b (by omega) (by omega) dJ6_getChars_ba4f3_83 (fun bx_83 hbx_83 => ?_)
    refine z_bast S hG hV hS (rfl) (by omega) (by omega) dJ6_getChars_ba4f3_84 (fun H_2 L_2 hat hz oq hS => ?_)
    have hV := hat
    have hT := zTx.kept hT (fun y hx h9 => oq y (by omega))
    refine z_iload_n S dJ6_getChars_ba4f3_85 hl 1 rfl rfl ?_
    refine z_bipush S dJ6_getChars_ba4f3_86 rfl ?_
    refine z_icmp_ge_F S 104 dJ6_getChars_ba4f3_88 (by decide) (by omega) (by omega) (by omega) ?_
    refine z_aload_n S dJ6_getChars_ba4f3_91 hl 4 rfl rfl ?_
    refine z_iinc (lv' := [(5, .int (zI (idx + (-1) + (-1)))), (0, .int (zI (-(x)))), (6, .int (zI (0))), (1, .int (zI (idx))), (2, .ref (bv))]) S dJ6_getChars_ba4f3_92 hl 0 rfl (by decide) rfl (fun ls hl => ?_)
    refine z_iload S dJ6_getChars_ba4f3_95 hl 0 rfl ?_
    obtain ⟨d2, h2s, h2b, h2l⟩ := hT.2.2.1
    skip
    refine z_gets S hG 3 rfl h2s q4_30 dJ6_getChars_ba4f3_97 ?_
    refine z_iload_n S dJ6_getChars_ba4f3_100 hl 1 rfl rfl ?_
    refine lv_ineg S.1 S.2.1 dJ6_getChars_ba4f3_101 ?_
    rw [z_neg]
    refine z_baldW S (zG_by hG) h2b (by omega) (by omega) dJ6_getChars_ba4f3_102 (fun bx_102 hbx_102 => ?_)
    refine z_bast S hG hV hS (rfl) (by omega) (by omega) dJ6_getChars_ba4f3_103 (fun H_3 L_3 hat hz oq hS => ?_)
    have hV := hat
    have hT := zTx.kept hT (fun y hx h9 => oq y (by omega))
    refine z_iload S dJ6_getChars_ba4f3_104 hl 2 rfl ?_
    refine z_if_eq_T S 118 dJ6_getChars_ba4f3_106 (by decide) (by omega) (by omega) ?_
    refine z_iload S dJ6_getChars_ba4f3_118 hl 0 rfl ?_
    exact ret _ _ _ _ _ _ _ dJ6_getChars_ba4f3_120 (by congr 1; omega) hS (hV) (Nat.le_of_ble_eq_true rfl) (Nat.le_of_ble_eq_true rfl)
theorem dJ5_append_c97b9_0 : decode cJ5_append_c97b9 0 = .ok (.aload_n 0, 1) := by decide +kernel
theorem dJ5_append_c97b9_1 : decode cJ5_append_c97b9 1 = .ok (.getfield 79, 3) := by decide +kernel
theorem dJ5_append_c97b9_4 : decode cJ5_append_c97b9 4 = .ok (.istore_n 2, 1) := by decide +kernel
theorem dJ5_append_c97b9_5 : decode cJ5_append_c97b9 5 = .ok (.iload_n 2, 1) := by decide +kernel
theorem dJ5_append_c97b9_6 : decode cJ5_append_c97b9 6 = .ok (.iload_n 1, 1) := by decide +kernel
theorem dJ5_append_c97b9_7 : decode cJ5_append_c97b9 7 = .ok (.invokestatic 245, 3) := by decide +kernel
theorem dJ5_append_c97b9_10 : decode cJ5_append_c97b9 10 = .ok (.iadd, 1) := by decide +kernel
theorem dJ5_append_c97b9_11 : decode cJ5_append_c97b9 11 = .ok (.istore_n 3, 1) := by decide +kernel
theorem dJ5_append_c97b9_12 : decode cJ5_append_c97b9 12 = .ok (.aload_n 0, 1) := by decide +kernel
theorem dJ5_append_c97b9_13 : decode cJ5_append_c97b9 13 = .ok (.iload_n 3, 1) := by decide +kernel
theorem dJ5_append_c97b9_14 : decode cJ5_append_c97b9 14 = .ok (.invokevirtual 100, 3) := by decide +kernel
theorem dJ5_append_c97b9_17 : decode cJ5_append_c97b9 17 = .ok (.aload_n 0, 1) := by decide +kernel
theorem dJ5_append_c97b9_18 : decode cJ5_append_c97b9 18 = .ok (.invokevirtual 83, 3) := by decide +kernel
theorem dJ5_append_c97b9_21 : decode cJ5_append_c97b9 21 = .ok (.ifCond .eq 16, 3) := by decide +kernel
theorem dJ5_append_c97b9_24 : decode cJ5_append_c97b9 24 = .ok (.iload_n 1, 1) := by decide +kernel
theorem dJ5_append_c97b9_25 : decode cJ5_append_c97b9 25 = .ok (.iload_n 3, 1) := by decide +kernel
theorem dJ5_append_c97b9_26 : decode cJ5_append_c97b9 26 = .ok (.aload_n 0, 1) := by decide +kernel
theorem dJ5_append_c97b9_27 : decode cJ5_append_c97b9 27 = .ok (.getfield 15, 3) := by decide +kernel
theorem dJ5_append_c97b9_30 : decode cJ5_append_c97b9 30 = .ok (.invokestatic 248, 3) := by decide +kernel
theorem dJ5_append_c97b9_33 : decode cJ5_append_c97b9 33 = .ok (.pop, 1) := by decide +kernel
theorem dJ5_append_c97b9_34 : decode cJ5_append_c97b9 34 = .ok (.goto 14, 3) := by decide +kernel
theorem dJ5_append_c97b9_37 : decode cJ5_append_c97b9 37 = .ok (.iload_n 1, 1) := by decide +kernel
theorem dJ5_append_c97b9_38 : decode cJ5_append_c97b9 38 = .ok (.iload_n 2, 1) := by decide +kernel
theorem dJ5_append_c97b9_39 : decode cJ5_append_c97b9 39 = .ok (.iload_n 3, 1) := by decide +kernel
theorem dJ5_append_c97b9_40 : decode cJ5_append_c97b9 40 = .ok (.aload_n 0, 1) := by decide +kernel
theorem dJ5_append_c97b9_41 : decode cJ5_append_c97b9 41 = .ok (.getfield 15, 3) := by decide +kernel
theorem dJ5_append_c97b9_44 : decode cJ5_append_c97b9 44 = .ok (.invokestatic 251, 3) := by decide +kernel
theorem dJ5_append_c97b9_47 : decode cJ5_append_c97b9 47 = .ok (.pop, 1) := by decide +kernel
theorem dJ5_append_c97b9_48 : decode cJ5_append_c97b9 48 = .ok (.aload_n 0, 1) := by decide +kernel
theorem dJ5_append_c97b9_49 : decode cJ5_append_c97b9 49 = .ok (.iload_n 3, 1) := by decide +kernel
theorem dJ5_append_c97b9_50 : decode cJ5_append_c97b9 50 = .ok (.putfield 79, 3) := by decide +kernel
theorem dJ5_append_c97b9_53 : decode cJ5_append_c97b9 53 = .ok (.aload_n 0, 1) := by decide +kernel
theorem dJ5_append_c97b9_54 : decode cJ5_append_c97b9 54 = .ok (.areturn, 1) := by decide +kernel
theorem q4_22 : (Jvm.Cond.methodLink "java/lang/AbstractStringBuilder" (245 : Nat) ({ cls := "java/lang/Integer", name := "stringSize", desc := "(I)I" } : Jvm.MethodName)) ∈ lw_g := zg_of (zin4 (List.mem_of_getElem? (i := 22) rfl)) rfl
theorem q4_25 : (Jvm.Cond.methodLink "java/lang/AbstractStringBuilder" (248 : Nat) ({ cls := "java/lang/Integer", name := "getChars", desc := "(II[B)I" } : Jvm.MethodName)) ∈ lw_g := zg_of (zin4 (List.mem_of_getElem? (i := 25) rfl)) rfl
theorem q4_21 : (Jvm.Cond.code ({ cls := "java/lang/AbstractStringBuilder", name := "append", desc := "(I)Ljava/lang/AbstractStringBuilder;" } : Jvm.MethodName) prog_8_method_32_code (4 : Nat) (Option.some (Jvm.ClassFile.FieldType.object "java/lang/AbstractStringBuilder"))) ∈ lw_g := zg_of (zin4 (List.mem_of_getElem? (i := 21) rfl)) rfl
theorem ok_J5_append_c97b9 : zOK yJ5_append_c97b9 cJ5_append_c97b9 4 ((Option.some (Jvm.ClassFile.FieldType.object "java/lang/AbstractStringBuilder"))) 1 := ⟨q4_21, q1_25, by decide, by decide, by decide +kernel⟩
set_option maxHeartbeats 4000000 in
set_option maxRecDepth 100000 in
theorem c_sApI (l : Launch) (G : zG) (q sz n w : Nat) (x : Int) (h99 : sz ≥ G.2 99) (hx : 0 ≤ x ∧ x < 100) (hw : (x < 10 ∧ w = 1) ∨ (10 ≤ x ∧ w = 2)) (hn : n + w ≤ 34) : Met l yJ5_append_c97b9 (wq yJ5_append_c97b9 cJ5_append_c97b9 4 ((Option.some (Jvm.ClassFile.FieldType.object "java/lang/AbstractStringBuilder")))) (rmM 4 91 1 34) (va_Pc [.ref (q), .int (zI (x))] (zK G (fun H => hSX G q sz n n H ∧ zTx G H))) (zM (fun y => sz ≤ y) (some (.ref (q))) (fun H => hSX G q sz (n + w) (n + w) H)) 1 34 (fun y => sz ≤ y) := by
  refine z_enterMA (by decide +kernel) (Nat.le_of_ble_eq_true rfl) ?_
  intro p env s m below meth cod Q S hG hP hS ret ls hl
  have hl : lv_has ls 4 [(0, .ref (q)), (1, .int (zI (x)))] := hl
  obtain ⟨v, cap, ⟨hQ, hV, hne⟩, hq, hv, hc, hnn⟩ := hP.1
  have hT := hP.2
  have hqs := va_lt hQ
  have hvs := hV.lt
  refine z_aload_n S dJ5_append_c97b9_0 hl 0 rfl rfl ?_
  refine z_getR S hG hQ zc_J4 3 (by decide) q3_152 rfl dJ5_append_c97b9_1 ?_
  refine z_istore_n (lv' := [(2, .int (zI ((n : Int)))), (0, .ref (q)), (1, .int (zI (x)))]) S dJ5_append_c97b9_4 hl rfl (by decide) rfl (fun ls hl => ?_)
  refine z_iload_n S dJ5_append_c97b9_5 hl 0 rfl rfl ?_
  refine z_iload_n S dJ5_append_c97b9_6 hl 2 rfl rfl ?_
  refine z_callSs S hG (c_sSs l G x w hx hw) ok_J6_stringSize_0f7a4 q4_22 (trivial) ⟨rfl, rfl, by decide, by decide⟩ ⟨Nat.zero_le _, Nat.zero_le _⟩ rfl (Nat.le_of_ble_eq_true rfl) hl.1 rfl dJ5_append_c97b9_7 ?_
  refine z_iadd S dJ5_append_c97b9_10 ?_
  refine z_istore_n (lv' := [(3, .int (zI (((n : Int)) + ((w : Int))))), (2, .int (zI ((n : Int)))), (0, .ref (q)), (1, .int (zI (x)))]) S dJ5_append_c97b9_11 hl rfl (by decide) rfl (fun ls hl => ?_)
  refine z_aload_n S dJ5_append_c97b9_12 hl 2 rfl rfl ?_
  refine z_iload_n S dJ5_append_c97b9_13 hl 0 rfl rfl ?_
  refine z_callQ S hG hS (c_sEn l G q sz n ((n : Int) + w) (n + w) (by omega) (by omega)) (fun _ h => h) ok_J5_ensureCapacityInternal_d00df q3_171 (va_Nw.use rfl (hG.2.2.2.2.2.2.2.2.2.2.2 _ (List.mem_of_getElem? (i := 0) rfl))) (z_rcv hG hQ zc_J4) q3_169 (⟨v, cap, ⟨hQ, hV, hne⟩, hq, hv, hc, hnn⟩) ⟨rfl, rfl, by decide, by decide⟩ ⟨Nat.le_of_ble_eq_true rfl, Nat.le_of_ble_eq_true rfl⟩ rfl (Nat.le_of_ble_eq_true rfl) hl.1 rfl dJ5_append_c97b9_14 (fun H_1 L_1 hB hz oq hS => ?_)
  have hT := zTx.kept hT (fun y hx h9 => oq y hx (by show ¬ (sz ≤ _); omega))
  obtain ⟨v, cap, ⟨hQ, hV, hne⟩, hq, hv, hc, hnn⟩ := hB
  have hqs := va_lt hQ
  have hvs := hV.lt
  refine z_aload_n S dJ5_append_c97b9_17 hl 2 rfl rfl ?_
  refine z_callQr S hG (c_sLat l G q v n cap) ok_J5_isLatin1_aae02 q3_203 (S.2.2.2.2 _ q3_205) (z_rcv hG hQ zc_J4) q3_202 (⟨⟨hQ, hV, hne⟩, hT⟩) ⟨rfl, rfl, by decide, by decide⟩ ⟨Nat.le_of_ble_eq_true rfl, Nat.le_of_ble_eq_true rfl⟩ rfl (Nat.le_of_ble_eq_true rfl) hl.1 rfl dJ5_append_c97b9_18 ?_
  refine z_bif_eq S 37 dJ5_append_c97b9_21 (by decide) (fun qz => ?_) (fun qz => ?_)
  · exact absurd qz (by decide)
  refine z_iload_n S dJ5_append_c97b9_24 hl 3 rfl rfl ?_
  refine z_iload_n S dJ5_append_c97b9_25 hl 0 rfl rfl ?_
  refine z_aload_n S dJ5_append_c97b9_26 hl 2 rfl rfl ?_
  refine z_getR S hG hQ zc_J4 0 (by decide) q3_149 rfl dJ5_append_c97b9_27 ?_
  refine z_callSM S hG hS (c_sGc l G x ((n : Int) + w) v cap w hx hw (by omega) (by omega)) (fun y z => by have h2 : y = v := z; show sz ≤ y; omega) ok_J6_getChars_ba4f3 q4_25 (⟨hV, hT⟩) ⟨rfl, rfl, by decide, by decide⟩ ⟨Nat.le_of_ble_eq_true rfl, Nat.le_of_ble_eq_true rfl⟩ rfl (Nat.le_of_ble_eq_true rfl) hl.1 rfl dJ5_append_c97b9_30 (fun H_2 L_2 hB hz oq hS => ?_)
  have hQ := va_at.kept hQ (oq _ (va_lt hQ) (by show ¬ (_ = v); omega))
  have hT := zTx.kept hT (fun y hx h9 => oq y hx (by show ¬ (_ = v); omega))
  have hV := hB
  refine lv_pop S.1 S.2.1 dJ5_append_c97b9_33 rfl ?_
  refine z_goto S 48 dJ5_append_c97b9_34 (by decide) ?_
  refine z_aload_n S dJ5_append_c97b9_48 hl 2 rfl rfl ?_
  refine z_iload_n S dJ5_append_c97b9_49 hl 0 rfl rfl ?_
  refine z_putR S hG hQ zc_J4 tyJ4 tyJ4_ok nmJ4 hS (by show sz ≤ q; omega) 3 (by decide) q3_152 rfl (tyJ4_ok 3 (by decide)) rfl rfl (Nat.le_of_ble_eq_true rfl) dJ5_append_c97b9_50 (fun H_3 L_3 hat hz oq hS => ?_)
  have hQ := hat
  have hV := zBy.kept hV (fun _ => oq _ (show q ≠ v by omega).symm)
  have hT := zTx.kept hT (fun y hx h9 => oq y (by omega))
  refine z_aload_n S dJ5_append_c97b9_53 hl 2 rfl rfl ?_
  exact ret _ _ _ _ _ _ dJ5_append_c97b9_54 hS (⟨v, cap, ⟨hQ, hV, hne⟩, hq, hv, by omega, Nat.le_refl _⟩) (Nat.le_of_ble_eq_true rfl) (Nat.le_of_ble_eq_true rfl)
theorem dJ0_coder_7d493_0 : decode cJ0_coder_7d493 0 = .ok (.getstatic 38, 3) := by decide +kernel
theorem dJ0_coder_7d493_3 : decode cJ0_coder_7d493 3 = .ok (.ifCond .eq 10, 3) := by decide +kernel
theorem dJ0_coder_7d493_6 : decode cJ0_coder_7d493 6 = .ok (.aload_n 0, 1) := by decide +kernel
theorem dJ0_coder_7d493_7 : decode cJ0_coder_7d493 7 = .ok (.getfield 15, 3) := by decide +kernel
theorem dJ0_coder_7d493_10 : decode cJ0_coder_7d493 10 = .ok (.goto 4, 3) := by decide +kernel
theorem dJ0_coder_7d493_13 : decode cJ0_coder_7d493 13 = .ok (.iconst 1, 1) := by decide +kernel
theorem dJ0_coder_7d493_14 : decode cJ0_coder_7d493 14 = .ok (.ireturn, 1) := by decide +kernel
theorem q4_112 : (Jvm.Cond.fieldLink "java/lang/String" (38 : Nat) "java/lang/String" "COMPACT_STRINGS" "Z") ∈ lw_g := zg_of (zin4 (List.mem_of_getElem? (i := 112) rfl)) rfl
theorem q4_144 : (Jvm.Cond.fieldLink "java/lang/String" (15 : Nat) "java/lang/String" "coder" "B") ∈ lw_g := zg_of (zin4 (List.mem_of_getElem? (i := 144) rfl)) rfl
theorem q4_111 : (Jvm.Cond.code ({ cls := "java/lang/String", name := "coder", desc := "()B" } : Jvm.MethodName) prog_23_method_152_code (1 : Nat) (Option.some Jvm.ClassFile.FieldType.byte)) ∈ lw_g := zg_of (zin4 (List.mem_of_getElem? (i := 111) rfl)) rfl
theorem q1_27 : (Jvm.Cond.initialized "java/lang/String") ∈ lw_g := zg_of (zin1 (List.mem_of_getElem? (i := 27) rfl)) rfl
theorem q4_109 : (Jvm.Cond.instanceMethod ({ cls := "java/lang/String", name := "coder", desc := "()B" } : Jvm.MethodName)) ∈ lw_g := zg_of (zin4 (List.mem_of_getElem? (i := 109) rfl)) rfl
theorem q4_110 : (Jvm.Cond.selects "java/lang/String" ({ cls := "java/lang/String", name := "coder", desc := "()B" } : Jvm.MethodName) ({ cls := "java/lang/String", name := "coder", desc := "()B" } : Jvm.MethodName)) ∈ lw_g := zg_of (zin4 (List.mem_of_getElem? (i := 110) rfl)) rfl
theorem ok_J0_coder_7d493 : zOV yJ0_coder_7d493 cJ0_coder_7d493 1 ((Option.some Jvm.ClassFile.FieldType.byte)) 0 := ⟨⟨q4_111, q1_27, by decide, by decide, by decide +kernel⟩, q4_109, q4_110⟩
set_option maxHeartbeats 4000000 in
set_option maxRecDepth 100000 in
theorem c_sCod (l : Launch) (G : zG) (lt lv : Nat) : Met l yJ0_coder_7d493 (wq yJ0_coder_7d493 cJ0_coder_7d493 1 ((Option.some Jvm.ClassFile.FieldType.byte))) (rmR 0 0) (va_Pc [.ref (lt)] (zK G (fun H => hLt G lt lv H ∧ zTx G H))) (zQ (some (.int 0))) 0 0 zF := by
  refine z_enterY (by decide +kernel) (Nat.le_of_ble_eq_true rfl) ?_
  intro p env s m below meth cod Q S hG hP ret ls hl
  have hl : lv_has ls 1 [(0, .ref (lt))] := hl
  refine z_gets S hG 1 rfl hP.2.1 q4_112 dJ0_coder_7d493_0 ?_
  refine lv_if_eq (tgt := 13) S.1 S.2.1 dJ0_coder_7d493_3 (by decide) (fun c_3 => ?_) (fun c_3 => ?_)
  · exact absurd c_3 (by decide)
  refine z_aload_n S dJ0_coder_7d493_6 hl 0 rfl rfl ?_
  refine z_getL S hG hP.1 1 (by right; exact ⟨rfl, rfl⟩) q4_144 dJ0_coder_7d493_7 ?_
  refine z_goto S 14 dJ0_coder_7d493_10 (by decide) ?_
  exact ret _ _ _ dJ0_coder_7d493_14 (rfl)
theorem dJ0_length_8abf5_0 : decode cJ0_length_8abf5 0 = .ok (.aload_n 0, 1) := by decide +kernel
theorem dJ0_length_8abf5_1 : decode cJ0_length_8abf5 1 = .ok (.getfield 9, 3) := by decide +kernel
theorem dJ0_length_8abf5_4 : decode cJ0_length_8abf5 4 = .ok (.arraylength, 1) := by decide +kernel
theorem dJ0_length_8abf5_5 : decode cJ0_length_8abf5 5 = .ok (.aload_n 0, 1) := by decide +kernel
theorem dJ0_length_8abf5_6 : decode cJ0_length_8abf5 6 = .ok (.invokevirtual 335, 3) := by decide +kernel
theorem dJ0_length_8abf5_9 : decode cJ0_length_8abf5 9 = .ok (.ishr, 1) := by decide +kernel
theorem dJ0_length_8abf5_10 : decode cJ0_length_8abf5 10 = .ok (.ireturn, 1) := by decide +kernel
theorem q4_143 : (Jvm.Cond.fieldLink "java/lang/String" (9 : Nat) "java/lang/String" "value" "[B") ∈ lw_g := zg_of (zin4 (List.mem_of_getElem? (i := 143) rfl)) rfl
theorem q4_108 : (Jvm.Cond.methodLink "java/lang/String" (335 : Nat) ({ cls := "java/lang/String", name := "coder", desc := "()B" } : Jvm.MethodName)) ∈ lw_g := zg_of (zin4 (List.mem_of_getElem? (i := 108) rfl)) rfl
theorem q4_107 : (Jvm.Cond.code ({ cls := "java/lang/String", name := "length", desc := "()I" } : Jvm.MethodName) prog_23_method_54_code (1 : Nat) (Option.some Jvm.ClassFile.FieldType.int)) ∈ lw_g := zg_of (zin4 (List.mem_of_getElem? (i := 107) rfl)) rfl
theorem q4_105 : (Jvm.Cond.instanceMethod ({ cls := "java/lang/String", name := "length", desc := "()I" } : Jvm.MethodName)) ∈ lw_g := zg_of (zin4 (List.mem_of_getElem? (i := 105) rfl)) rfl
theorem q4_106 : (Jvm.Cond.selects "java/lang/String" ({ cls := "java/lang/String", name := "length", desc := "()I" } : Jvm.MethodName) ({ cls := "java/lang/String", name := "length", desc := "()I" } : Jvm.MethodName)) ∈ lw_g := zg_of (zin4 (List.mem_of_getElem? (i := 106) rfl)) rfl
theorem ok_J0_length_8abf5 : zOV yJ0_length_8abf5 cJ0_length_8abf5 1 ((Option.some Jvm.ClassFile.FieldType.int)) 0 := ⟨⟨q4_107, q1_27, by decide, by decide, by decide +kernel⟩, q4_105, q4_106⟩
set_option maxHeartbeats 4000000 in
set_option maxRecDepth 100000 in
theorem c_sLen (l : Launch) (G : zG) (lt lv k : Nat) : Met l yJ0_length_8abf5 (wq yJ0_length_8abf5 cJ0_length_8abf5 1 ((Option.some Jvm.ClassFile.FieldType.int))) (rmR 1 20) (va_Pc [.ref (lt)] (zK G (fun H => hLt G lt lv H ∧ zTx G H ∧ zBw (G.2 3) lv k H))) (zQ (some (.int ((zI ((k : Int))))))) 0 0 zF := by
  refine z_enterI (by decide +kernel) (Nat.le_of_ble_eq_true rfl) ?_
  intro p env s m below meth cod Q S hG hP ret ls hl
  have hl : lv_has ls 1 [(0, .ref (lt))] := hl
  obtain ⟨hL, hT, hV⟩ := hP
  refine z_aload_n S dJ0_length_8abf5_0 hl 0 rfl rfl ?_
  refine z_getL S hG hL 0 (by left; exact ⟨rfl, rfl⟩) q4_143 dJ0_length_8abf5_1 ?_
  refine z_blenW S (zG_by hG) hV dJ0_length_8abf5_4 ?_
  refine z_aload_n S dJ0_length_8abf5_5 hl 0 rfl rfl ?_
  refine z_callQr S hG (c_sCod l G lt lv) ok_J0_coder_7d493.1 q4_109 (S.2.2.2.2 _ q4_110) (z_rcvL hG hL) q4_108 (⟨hL, hT⟩) ⟨rfl, rfl, by decide, by decide⟩ ⟨Nat.zero_le _, Nat.zero_le _⟩ rfl (Nat.le_of_ble_eq_true rfl) hl.1 rfl dJ0_length_8abf5_6 ?_
  refine lv_ishr S.1 S.2.1 dJ0_length_8abf5_9 ?_
  rw [z_shr0]
  exact ret _ _ _ dJ0_length_8abf5_10 (rfl)
theorem dJ0_getBytes_840e7_0 : decode cJ0_getBytes_840e7 0 = .ok (.aload_n 0, 1) := by decide +kernel
theorem dJ0_getBytes_840e7_1 : decode cJ0_getBytes_840e7 1 = .ok (.invokevirtual 335, 3) := by decide +kernel
theorem dJ0_getBytes_840e7_4 : decode cJ0_getBytes_840e7 4 = .ok (.iload_n 3, 1) := by decide +kernel
theorem dJ0_getBytes_840e7_5 : decode cJ0_getBytes_840e7 5 = .ok (.if_icmp .ne 23, 3) := by decide +kernel
theorem dJ0_getBytes_840e7_8 : decode cJ0_getBytes_840e7 8 = .ok (.aload_n 0, 1) := by decide +kernel
theorem dJ0_getBytes_840e7_9 : decode cJ0_getBytes_840e7 9 = .ok (.getfield 9, 3) := by decide +kernel
theorem dJ0_getBytes_840e7_12 : decode cJ0_getBytes_840e7 12 = .ok (.iconst 0, 1) := by decide +kernel
theorem dJ0_getBytes_840e7_13 : decode cJ0_getBytes_840e7 13 = .ok (.aload_n 1, 1) := by decide +kernel
theorem dJ0_getBytes_840e7_14 : decode cJ0_getBytes_840e7 14 = .ok (.iload_n 2, 1) := by decide +kernel
theorem dJ0_getBytes_840e7_15 : decode cJ0_getBytes_840e7 15 = .ok (.iload_n 3, 1) := by decide +kernel
theorem dJ0_getBytes_840e7_16 : decode cJ0_getBytes_840e7 16 = .ok (.ishl, 1) := by decide +kernel
theorem dJ0_getBytes_840e7_17 : decode cJ0_getBytes_840e7 17 = .ok (.aload_n 0, 1) := by decide +kernel
theorem dJ0_getBytes_840e7_18 : decode cJ0_getBytes_840e7 18 = .ok (.getfield 9, 3) := by decide +kernel
theorem dJ0_getBytes_840e7_21 : decode cJ0_getBytes_840e7 21 = .ok (.arraylength, 1) := by decide +kernel
theorem dJ0_getBytes_840e7_22 : decode cJ0_getBytes_840e7 22 = .ok (.invokestatic 212, 3) := by decide +kernel
theorem dJ0_getBytes_840e7_25 : decode cJ0_getBytes_840e7 25 = .ok (.goto 18, 3) := by decide +kernel
theorem dJ0_getBytes_840e7_28 : decode cJ0_getBytes_840e7 28 = .ok (.aload_n 0, 1) := by decide +kernel
theorem dJ0_getBytes_840e7_29 : decode cJ0_getBytes_840e7 29 = .ok (.getfield 9, 3) := by decide +kernel
theorem dJ0_getBytes_840e7_32 : decode cJ0_getBytes_840e7 32 = .ok (.iconst 0, 1) := by decide +kernel
theorem dJ0_getBytes_840e7_33 : decode cJ0_getBytes_840e7 33 = .ok (.aload_n 1, 1) := by decide +kernel
theorem dJ0_getBytes_840e7_34 : decode cJ0_getBytes_840e7 34 = .ok (.iload_n 2, 1) := by decide +kernel
theorem dJ0_getBytes_840e7_35 : decode cJ0_getBytes_840e7 35 = .ok (.aload_n 0, 1) := by decide +kernel
theorem dJ0_getBytes_840e7_36 : decode cJ0_getBytes_840e7 36 = .ok (.getfield 9, 3) := by decide +kernel
theorem dJ0_getBytes_840e7_39 : decode cJ0_getBytes_840e7 39 = .ok (.arraylength, 1) := by decide +kernel
theorem dJ0_getBytes_840e7_40 : decode cJ0_getBytes_840e7 40 = .ok (.invokestatic 106, 3) := by decide +kernel
theorem dJ0_getBytes_840e7_43 : decode cJ0_getBytes_840e7 43 = .ok (.return_, 1) := by decide +kernel
theorem q4_126 : (Jvm.Cond.methodLink "java/lang/String" (212 : Nat) ({ cls := "java/lang/System", name := "arraycopy", desc := "(Ljava/lang/Object;ILjava/lang/Object;II)V" } : Jvm.MethodName)) ∈ lw_g := zg_of (zin4 (List.mem_of_getElem? (i := 126) rfl)) rfl
theorem q4_125 : (Jvm.Cond.code ({ cls := "java/lang/String", name := "getBytes", desc := "([BIB)V" } : Jvm.MethodName) prog_23_method_147_code (4 : Nat) (Option.none : Option Jvm.ClassFile.FieldType)) ∈ lw_g := zg_of (zin4 (List.mem_of_getElem? (i := 125) rfl)) rfl
theorem q4_123 : (Jvm.Cond.instanceMethod ({ cls := "java/lang/String", name := "getBytes", desc := "([BIB)V" } : Jvm.MethodName)) ∈ lw_g := zg_of (zin4 (List.mem_of_getElem? (i := 123) rfl)) rfl
theorem q4_124 : (Jvm.Cond.selects "java/lang/String" ({ cls := "java/lang/String", name := "getBytes", desc := "([BIB)V" } : Jvm.MethodName) ({ cls := "java/lang/String", name := "getBytes", desc := "([BIB)V" } : Jvm.MethodName)) ∈ lw_g := zg_of (zin4 (List.mem_of_getElem? (i := 124) rfl)) rfl
theorem ok_J0_getBytes_840e7 : zOV yJ0_getBytes_840e7 cJ0_getBytes_840e7 4 ((Option.none : Option Jvm.ClassFile.FieldType)) 3 := ⟨⟨q4_125, q1_27, by decide, by decide, by decide +kernel⟩, q4_123, q4_124⟩
set_option maxHeartbeats 4000000 in
set_option maxRecDepth 100000 in
theorem c_sGb (l : Launch) (G : zG) (lt lv k dst cap : Nat) (idx : Int) (hi : 0 ≤ idx ∧ idx + k ≤ cap ∧ cap ≤ 34 ∧ k ≤ 34) (hd9 : dst ≥ G.2 99) : Met l yJ0_getBytes_840e7 (wq yJ0_getBytes_840e7 cJ0_getBytes_840e7 4 ((Option.none : Option Jvm.ClassFile.FieldType))) (rmM 1 40 0 0) (va_Pc [.ref (lt), .ref (dst), .int (zI (idx)), .int ((0 : Int32))] (zK G (fun H => hLt G lt lv H ∧ zTx G H ∧ zBw (G.2 3) lv k H ∧ zBy (G.2 3) dst cap H))) (zM (fun y => y = dst) none (fun H => zBy (G.2 3) dst cap H)) 0 0 (fun y => y = dst) := by
  refine z_enterMV (by decide +kernel) (Nat.le_of_ble_eq_true rfl) ?_
  intro p env s m below meth cod Q S hnm hG hP hS ret ls hl
  have hl : lv_has ls 4 [(0, .ref (lt)), (1, .ref (dst)), (2, .int (zI (idx))), (3, .int ((0 : Int32)))] := hl
  obtain ⟨hL, hT, hLv, hV⟩ := hP
  refine z_aload_n S dJ0_getBytes_840e7_0 hl 0 rfl rfl ?_
  refine z_callQr S hG (c_sCod l G lt lv) ok_J0_coder_7d493.1 q4_109 (S.2.2.2.2 _ q4_110) (z_rcvL hG hL) q4_108 (⟨hL, hT⟩) ⟨rfl, rfl, by decide, by decide⟩ ⟨Nat.zero_le _, Nat.zero_le _⟩ rfl (Nat.le_of_ble_eq_true rfl) hl.1 rfl dJ0_getBytes_840e7_1 ?_
  refine z_iload_n S dJ0_getBytes_840e7_4 hl 3 rfl rfl ?_
  refine lv_icmp_ne (tgt := 28) S.1 S.2.1 dJ0_getBytes_840e7_5 (by decide) (fun c_5 => ?_) (fun c_5 => ?_)
  · exact absurd c_5 (by decide)
  refine z_aload_n S dJ0_getBytes_840e7_8 hl 0 rfl rfl ?_
  refine z_getL S hG hL 0 (by left; exact ⟨rfl, rfl⟩) q4_143 dJ0_getBytes_840e7_9 ?_
  refine z_iconst S dJ0_getBytes_840e7_12 ?_
  refine z_aload_n S dJ0_getBytes_840e7_13 hl 1 rfl rfl ?_
  refine z_iload_n S dJ0_getBytes_840e7_14 hl 2 rfl rfl ?_
  refine z_iload_n S dJ0_getBytes_840e7_15 hl 3 rfl rfl ?_
  refine lv_ishl S.1 S.2.1 dJ0_getBytes_840e7_16 ?_
  rw [z_shl0]
  refine z_aload_n S dJ0_getBytes_840e7_17 hl 0 rfl rfl ?_
  refine z_getL S hG hL 0 (by left; exact ⟨rfl, rfl⟩) q4_143 dJ0_getBytes_840e7_18 ?_
  refine z_blenW S (zG_by hG) hLv dJ0_getBytes_840e7_21 ?_
  refine z_copyBy S hG hLv hV hS (rfl) (dp := idx) (n := (k : Int)) (by omega) (by omega) q4_126 ⟨q3_201, q3_200, q1_20⟩ hl.1 (by decide) (Nat.le_of_ble_eq_true rfl) dJ0_getBytes_840e7_22 (fun H_1 L_1 hat hz oq hS => ?_)
  have hV := hat
  have hT := zTx.kept hT (fun y hx h9 => oq y (by omega))
  refine z_goto S 43 dJ0_getBytes_840e7_25 (by decide) ?_
  exact ret _ _ _ _ _ _ dJ0_getBytes_840e7_43 hS (hV) (Nat.le_of_ble_eq_true rfl) (Nat.le_of_ble_eq_true rfl)
theorem dJ5_inflateIfNeededFor_a7421_0 : decode cJ5_inflateIfNeededFor_a7421 0 = .ok (.getstatic 18, 3) := by decide +kernel
theorem dJ5_inflateIfNeededFor_a7421_3 : decode cJ5_inflateIfNeededFor_a7421 3 = .ok (.ifCond .eq 18, 3) := by decide +kernel
theorem dJ5_inflateIfNeededFor_a7421_6 : decode cJ5_inflateIfNeededFor_a7421 6 = .ok (.aload_n 0, 1) := by decide +kernel
theorem dJ5_inflateIfNeededFor_a7421_7 : decode cJ5_inflateIfNeededFor_a7421 7 = .ok (.getfield 22, 3) := by decide +kernel
theorem dJ5_inflateIfNeededFor_a7421_10 : decode cJ5_inflateIfNeededFor_a7421 10 = .ok (.aload_n 1, 1) := by decide +kernel
theorem dJ5_inflateIfNeededFor_a7421_11 : decode cJ5_inflateIfNeededFor_a7421 11 = .ok (.invokevirtual 40, 3) := by decide +kernel
theorem dJ5_inflateIfNeededFor_a7421_14 : decode cJ5_inflateIfNeededFor_a7421 14 = .ok (.if_icmp .eq 7, 3) := by decide +kernel
theorem dJ5_inflateIfNeededFor_a7421_17 : decode cJ5_inflateIfNeededFor_a7421 17 = .ok (.aload_n 0, 1) := by decide +kernel
theorem dJ5_inflateIfNeededFor_a7421_18 : decode cJ5_inflateIfNeededFor_a7421 18 = .ok (.invokevirtual 195, 3) := by decide +kernel
theorem dJ5_inflateIfNeededFor_a7421_21 : decode cJ5_inflateIfNeededFor_a7421 21 = .ok (.return_, 1) := by decide +kernel
theorem q4_121 : (Jvm.Cond.methodLink "java/lang/AbstractStringBuilder" (40 : Nat) ({ cls := "java/lang/String", name := "coder", desc := "()B" } : Jvm.MethodName)) ∈ lw_g := zg_of (zin4 (List.mem_of_getElem? (i := 121) rfl)) rfl
theorem q4_120 : (Jvm.Cond.code ({ cls := "java/lang/AbstractStringBuilder", name := "inflateIfNeededFor", desc := "(Ljava/lang/String;)V" } : Jvm.MethodName) prog_8_method_71_code (2 : Nat) (Option.none : Option Jvm.ClassFile.FieldType)) ∈ lw_g := zg_of (zin4 (List.mem_of_getElem? (i := 120) rfl)) rfl
theorem ok_J5_inflateIfNeededFor_a7421 : zOK yJ5_inflateIfNeededFor_a7421 cJ5_inflateIfNeededFor_a7421 2 ((Option.none : Option Jvm.ClassFile.FieldType)) 1 := ⟨q4_120, q1_25, by decide, by decide, by decide +kernel⟩
set_option maxHeartbeats 4000000 in
set_option maxRecDepth 100000 in
theorem c_sInf (l : Launch) (G : zG) (q v n cap lt lv : Nat) : Met l yJ5_inflateIfNeededFor_a7421 (wq yJ5_inflateIfNeededFor_a7421 cJ5_inflateIfNeededFor_a7421 2 ((Option.none : Option Jvm.ClassFile.FieldType))) (rmM 1 20 0 0) (va_Pc [.ref (q), .ref (lt)] (zK G (fun H => hSB G q v n cap H ∧ hLt G lt lv H ∧ zTx G H))) (zM (fun _ => False) none (fun _ => True)) 0 0 (fun _ => False) := by
  refine z_enterMV (by decide +kernel) (Nat.le_of_ble_eq_true rfl) ?_
  intro p env s m below meth cod Q S hnm hG hP hS ret ls hl
  have hl : lv_has ls 2 [(0, .ref (q)), (1, .ref (lt))] := hl
  obtain ⟨-, hL, hT⟩ := id hP
  refine z_gets S hG 1 rfl hT.1 q3_140 dJ5_inflateIfNeededFor_a7421_0 ?_
  refine lv_if_eq (tgt := 21) S.1 S.2.1 dJ5_inflateIfNeededFor_a7421_3 (by decide) (fun c_3 => ?_) (fun c_3 => ?_)
  · exact absurd c_3 (by decide)
  refine z_aload_n S dJ5_inflateIfNeededFor_a7421_6 hl 0 rfl rfl ?_
  refine z_getR S hG hP.1.1 zc_J4 1 (by decide) q3_150 rfl dJ5_inflateIfNeededFor_a7421_7 ?_
  refine z_aload_n S dJ5_inflateIfNeededFor_a7421_10 hl 1 rfl rfl ?_
  refine z_callQr S hG (c_sCod l G lt lv) ok_J0_coder_7d493.1 q4_109 (S.2.2.2.2 _ q4_110) (z_rcvL hG hL) q4_121 (⟨hL, hT⟩) ⟨rfl, rfl, by decide, by decide⟩ ⟨Nat.zero_le _, Nat.zero_le _⟩ rfl (Nat.le_of_ble_eq_true rfl) hl.1 rfl dJ5_inflateIfNeededFor_a7421_11 ?_
  refine lv_icmp_eq (tgt := 21) S.1 S.2.1 dJ5_inflateIfNeededFor_a7421_14 (by decide) (fun c_14 => ?_) (fun c_14 => ?_)
  rotate_left
  · exact absurd (by decide) c_14
  exact ret _ _ _ _ _ _ dJ5_inflateIfNeededFor_a7421_21 hS (trivial) (Nat.le_of_ble_eq_true rfl) (Nat.le_of_ble_eq_true rfl)
theorem dJ5_putStringAt_47b60_0 : decode cJ5_putStringAt_47b60 0 = .ok (.aload_n 0, 1) := by decide +kernel
theorem dJ5_putStringAt_47b60_1 : decode cJ5_putStringAt_47b60 1 = .ok (.aload_n 2, 1) := by decide +kernel
theorem dJ5_putStringAt_47b60_2 : decode cJ5_putStringAt_47b60 2 = .ok (.invokevirtual 397, 3) := by decide +kernel
theorem dJ5_putStringAt_47b60_5 : decode cJ5_putStringAt_47b60 5 = .ok (.aload_n 2, 1) := by decide +kernel
theorem dJ5_putStringAt_47b60_6 : decode cJ5_putStringAt_47b60 6 = .ok (.aload_n 0, 1) := by decide +kernel
theorem dJ5_putStringAt_47b60_7 : decode cJ5_putStringAt_47b60 7 = .ok (.getfield 15, 3) := by decide +kernel
theorem dJ5_putStringAt_47b60_10 : decode cJ5_putStringAt_47b60 10 = .ok (.iload_n 1, 1) := by decide +kernel
theorem dJ5_putStringAt_47b60_11 : decode cJ5_putStringAt_47b60 11 = .ok (.aload_n 0, 1) := by decide +kernel
theorem dJ5_putStringAt_47b60_12 : decode cJ5_putStringAt_47b60 12 = .ok (.getfield 22, 3) := by decide +kernel
theorem dJ5_putStringAt_47b60_15 : decode cJ5_putStringAt_47b60 15 = .ok (.invokevirtual 399, 3) := by decide +kernel
theorem dJ5_putStringAt_47b60_18 : decode cJ5_putStringAt_47b60 18 = .ok (.return_, 1) := by decide +kernel
theorem q4_117 : (Jvm.Cond.methodLink "java/lang/AbstractStringBuilder" (397 : Nat) ({ cls := "java/lang/AbstractStringBuilder", name := "inflateIfNeededFor", desc := "(Ljava/lang/String;)V" } : Jvm.MethodName)) ∈ lw_g := zg_of (zin4 (List.mem_of_getElem? (i := 117) rfl)) rfl
theorem q4_119 : (Jvm.Cond.instanceMethod ({ cls := "java/lang/AbstractStringBuilder", name := "inflateIfNeededFor", desc := "(Ljava/lang/String;)V" } : Jvm.MethodName)) ∈ lw_g := zg_of (zin4 (List.mem_of_getElem? (i := 119) rfl)) rfl
theorem q4_122 : (Jvm.Cond.methodLink "java/lang/AbstractStringBuilder" (399 : Nat) ({ cls := "java/lang/String", name := "getBytes", desc := "([BIB)V" } : Jvm.MethodName)) ∈ lw_g := zg_of (zin4 (List.mem_of_getElem? (i := 122) rfl)) rfl
theorem q4_116 : (Jvm.Cond.code ({ cls := "java/lang/AbstractStringBuilder", name := "putStringAt", desc := "(ILjava/lang/String;)V" } : Jvm.MethodName) prog_8_method_73_code (3 : Nat) (Option.none : Option Jvm.ClassFile.FieldType)) ∈ lw_g := zg_of (zin4 (List.mem_of_getElem? (i := 116) rfl)) rfl
theorem ok_J5_putStringAt_47b60 : zOK yJ5_putStringAt_47b60 cJ5_putStringAt_47b60 3 ((Option.none : Option Jvm.ClassFile.FieldType)) 2 := ⟨q4_116, q1_25, by decide, by decide, by decide +kernel⟩
set_option maxHeartbeats 4000000 in
set_option maxRecDepth 100000 in
theorem c_sPsa (l : Launch) (G : zG) (q v n cap lt lv k : Nat) (hi : n + k ≤ cap ∧ cap ≤ 34) (hv9 : v ≥ G.2 99) : Met l yJ5_putStringAt_47b60 (wq yJ5_putStringAt_47b60 cJ5_putStringAt_47b60 3 ((Option.none : Option Jvm.ClassFile.FieldType))) (rmM 2 63 0 0) (va_Pc [.ref (q), .int (zI ((n : Int))), .ref (lt)] (zK G (fun H => hSB G q v n cap H ∧ hLt G lt lv H ∧ zBw (G.2 3) lv k H ∧ zTx G H))) (zM (fun y => y = v) none (fun H => zBy (G.2 3) v cap H)) 0 0 (fun y => y = v) := by
  refine z_enterMV (by decide +kernel) (Nat.le_of_ble_eq_true rfl) ?_
  intro p env s m below meth cod Q S hnm hG hP hS ret ls hl
  have hl : lv_has ls 3 [(0, .ref (q)), (1, .int (zI ((n : Int)))), (2, .ref (lt))] := hl
  obtain ⟨⟨hQ, hV, hne⟩, hL, hLv, hT⟩ := hP
  refine z_aload_n S dJ5_putStringAt_47b60_0 hl 0 rfl rfl ?_
  refine z_aload_n S dJ5_putStringAt_47b60_1 hl 2 rfl rfl ?_
  refine z_callQ S hG hS (c_sInf l G q v n cap lt lv) (fun _ h => h.elim) ok_J5_inflateIfNeededFor_a7421 q4_119 (va_Nw.use rfl (hG.2.2.2.2.2.2.2.2.2.2.2 _ (List.mem_of_getElem? (i := 3) rfl))) (z_rcv hG hQ zc_J4) q4_117 (⟨⟨hQ, hV, hne⟩, hL, hT⟩) ⟨rfl, rfl, by decide, by decide⟩ ⟨Nat.le_of_ble_eq_true rfl, Nat.le_of_ble_eq_true rfl⟩ rfl (Nat.le_of_ble_eq_true rfl) hl.1 rfl dJ5_putStringAt_47b60_2 (fun H_1 L_1 hB hz oq hS => ?_)
  have hQ := va_at.kept hQ (oq _ (va_lt hQ) (fun h => h))
  have hV := zBy.kept hV (fun _ => oq _ (zBy.lt hV) (fun h => h))
  have hT := zTx.kept hT (fun y hx h9 => oq y hx (fun h => h))
  have hL := hLt.kept hL (fun _ => oq _ (hLt.lt hL) (fun h => h))
  have hLv := zBw.kept hLv (fun _ => oq _ (zBw.lt hLv) (fun h => h))
  refine z_aload_n S dJ5_putStringAt_47b60_5 hl 2 rfl rfl ?_
  refine z_aload_n S dJ5_putStringAt_47b60_6 hl 0 rfl rfl ?_
  refine z_getR S hG hQ zc_J4 0 (by decide) q3_149 rfl dJ5_putStringAt_47b60_7 ?_
  refine z_iload_n S dJ5_putStringAt_47b60_10 hl 1 rfl rfl ?_
  refine z_aload_n S dJ5_putStringAt_47b60_11 hl 0 rfl rfl ?_
  refine z_getR S hG hQ zc_J4 1 (by decide) q3_150 rfl dJ5_putStringAt_47b60_12 ?_
  refine z_callQ S hG hS (c_sGb l G lt lv k v cap (n : Int) (by omega) (by omega)) (fun _ h => h) ok_J0_getBytes_840e7.1 q4_123 (S.2.2.2.2 _ q4_124) (z_rcvL hG hL) q4_122 (⟨hL, hT, hLv, hV⟩) ⟨rfl, rfl, by decide, by decide⟩ ⟨Nat.le_of_ble_eq_true rfl, Nat.le_of_ble_eq_true rfl⟩ rfl (Nat.le_of_ble_eq_true rfl) hl.1 rfl dJ5_putStringAt_47b60_15 (fun H_2 L_2 hB hz oq hS => ?_)
  have hV := hB
  exact ret _ _ _ _ _ _ dJ5_putStringAt_47b60_18 hS (hV) (Nat.le_of_ble_eq_true rfl) (Nat.le_of_ble_eq_true rfl)
theorem dJ5_append_cf1ce_0 : decode cJ5_append_cf1ce 0 = .ok (.aload_n 1, 1) := by decide +kernel
theorem dJ5_append_cf1ce_1 : decode cJ5_append_cf1ce 1 = .ok (.ifnonnull 8, 3) := by decide +kernel
theorem dJ5_append_cf1ce_4 : decode cJ5_append_cf1ce 4 = .ok (.aload_n 0, 1) := by decide +kernel
theorem dJ5_append_cf1ce_5 : decode cJ5_append_cf1ce 5 = .ok (.invokevirtual 204, 3) := by decide +kernel
theorem dJ5_append_cf1ce_8 : decode cJ5_append_cf1ce 8 = .ok (.areturn, 1) := by decide +kernel
theorem dJ5_append_cf1ce_9 : decode cJ5_append_cf1ce 9 = .ok (.aload_n 1, 1) := by decide +kernel
theorem dJ5_append_cf1ce_10 : decode cJ5_append_cf1ce 10 = .ok (.invokevirtual 32, 3) := by decide +kernel
theorem dJ5_append_cf1ce_13 : decode cJ5_append_cf1ce 13 = .ok (.istore_n 2, 1) := by decide +kernel
theorem dJ5_append_cf1ce_14 : decode cJ5_append_cf1ce 14 = .ok (.aload_n 0, 1) := by decide +kernel
theorem dJ5_append_cf1ce_15 : decode cJ5_append_cf1ce 15 = .ok (.aload_n 0, 1) := by decide +kernel
theorem dJ5_append_cf1ce_16 : decode cJ5_append_cf1ce 16 = .ok (.getfield 79, 3) := by decide +kernel
theorem dJ5_append_cf1ce_19 : decode cJ5_append_cf1ce 19 = .ok (.iload_n 2, 1) := by decide +kernel
theorem dJ5_append_cf1ce_20 : decode cJ5_append_cf1ce 20 = .ok (.iadd, 1) := by decide +kernel
theorem dJ5_append_cf1ce_21 : decode cJ5_append_cf1ce 21 = .ok (.invokevirtual 100, 3) := by decide +kernel
theorem dJ5_append_cf1ce_24 : decode cJ5_append_cf1ce 24 = .ok (.aload_n 0, 1) := by decide +kernel
theorem dJ5_append_cf1ce_25 : decode cJ5_append_cf1ce 25 = .ok (.aload_n 0, 1) := by decide +kernel
theorem dJ5_append_cf1ce_26 : decode cJ5_append_cf1ce 26 = .ok (.getfield 79, 3) := by decide +kernel
theorem dJ5_append_cf1ce_29 : decode cJ5_append_cf1ce 29 = .ok (.aload_n 1, 1) := by decide +kernel
theorem dJ5_append_cf1ce_30 : decode cJ5_append_cf1ce 30 = .ok (.invokevirtual 208, 3) := by decide +kernel
theorem dJ5_append_cf1ce_33 : decode cJ5_append_cf1ce 33 = .ok (.aload_n 0, 1) := by decide +kernel
theorem dJ5_append_cf1ce_34 : decode cJ5_append_cf1ce 34 = .ok (.dup, 1) := by decide +kernel
theorem dJ5_append_cf1ce_35 : decode cJ5_append_cf1ce 35 = .ok (.getfield 79, 3) := by decide +kernel
theorem dJ5_append_cf1ce_38 : decode cJ5_append_cf1ce 38 = .ok (.iload_n 2, 1) := by decide +kernel
theorem dJ5_append_cf1ce_39 : decode cJ5_append_cf1ce 39 = .ok (.iadd, 1) := by decide +kernel
theorem dJ5_append_cf1ce_40 : decode cJ5_append_cf1ce 40 = .ok (.putfield 79, 3) := by decide +kernel
theorem dJ5_append_cf1ce_43 : decode cJ5_append_cf1ce 43 = .ok (.aload_n 0, 1) := by decide +kernel
theorem dJ5_append_cf1ce_44 : decode cJ5_append_cf1ce 44 = .ok (.areturn, 1) := by decide +kernel
theorem q4_104 : (Jvm.Cond.methodLink "java/lang/AbstractStringBuilder" (32 : Nat) ({ cls := "java/lang/String", name := "length", desc := "()I" } : Jvm.MethodName)) ∈ lw_g := zg_of (zin4 (List.mem_of_getElem? (i := 104) rfl)) rfl
theorem q4_113 : (Jvm.Cond.methodLink "java/lang/AbstractStringBuilder" (208 : Nat) ({ cls := "java/lang/AbstractStringBuilder", name := "putStringAt", desc := "(ILjava/lang/String;)V" } : Jvm.MethodName)) ∈ lw_g := zg_of (zin4 (List.mem_of_getElem? (i := 113) rfl)) rfl
theorem q4_115 : (Jvm.Cond.instanceMethod ({ cls := "java/lang/AbstractStringBuilder", name := "putStringAt", desc := "(ILjava/lang/String;)V" } : Jvm.MethodName)) ∈ lw_g := zg_of (zin4 (List.mem_of_getElem? (i := 115) rfl)) rfl
theorem q4_96 : (Jvm.Cond.code ({ cls := "java/lang/AbstractStringBuilder", name := "append", desc := "(Ljava/lang/String;)Ljava/lang/AbstractStringBuilder;" } : Jvm.MethodName) prog_8_method_22_code (3 : Nat) (Option.some (Jvm.ClassFile.FieldType.object "java/lang/AbstractStringBuilder"))) ∈ lw_g := zg_of (zin4 (List.mem_of_getElem? (i := 96) rfl)) rfl
theorem ok_J5_append_cf1ce : zOK yJ5_append_cf1ce cJ5_append_cf1ce 3 ((Option.some (Jvm.ClassFile.FieldType.object "java/lang/AbstractStringBuilder"))) 1 := ⟨q4_96, q1_25, by decide, by decide, by decide +kernel⟩
set_option maxHeartbeats 4000000 in
set_option maxRecDepth 100000 in
theorem c_sApS (l : Launch) (G : zG) (q sz n lt lv k : Nat) (h99 : sz ≥ G.2 99) (hk : k ≤ 2 ∧ n + k ≤ 34) (hl9 : @LT.lt Nat _ lt (G.2 99) ∧ @LT.lt Nat _ lv (G.2 99)) : Met l yJ5_append_cf1ce (wq yJ5_append_cf1ce cJ5_append_cf1ce 3 ((Option.some (Jvm.ClassFile.FieldType.object "java/lang/AbstractStringBuilder")))) (rmM 4 91 1 34) (va_Pc [.ref (q), .ref (lt)] (zK G (fun H => hSX G q sz n n H ∧ zTx G H ∧ hLt G lt lv H ∧ zBw (G.2 3) lv k H))) (zM (fun y => sz ≤ y) (some (.ref (q))) (fun H => hSX G q sz (n + k) (n + k) H)) 1 34 (fun y => sz ≤ y) := by
  refine z_enterMA (by decide +kernel) (Nat.le_of_ble_eq_true rfl) ?_
  intro p env s m below meth cod Q S hG hP hS ret ls hl
  have hl : lv_has ls 3 [(0, .ref (q)), (1, .ref (lt))] := hl
  obtain ⟨v, cap, ⟨hQ, hV, hne⟩, hq, hv, hc, hnn⟩ := hP.1
  obtain ⟨-, hT, hL, hLv⟩ := hP
  have hqs := va_lt hQ
  have hvs := hV.lt
  refine z_aload_n S dJ5_append_cf1ce_0 hl 1 rfl rfl ?_
  refine z_ifnonnull_r S 9 dJ5_append_cf1ce_1 (by decide) ?_
  refine z_aload_n S dJ5_append_cf1ce_9 hl 1 rfl rfl ?_
  refine z_callQr S hG (c_sLen l G lt lv k) ok_J0_length_8abf5.1 q4_105 (S.2.2.2.2 _ q4_106) (z_rcvL hG hL) q4_104 (⟨hL, hT, hLv⟩) ⟨rfl, rfl, by decide, by decide⟩ ⟨Nat.zero_le _, Nat.zero_le _⟩ rfl (Nat.le_of_ble_eq_true rfl) hl.1 rfl dJ5_append_cf1ce_10 ?_
  refine z_istore_n (lv' := [(2, .int (zI ((k : Int)))), (0, .ref (q)), (1, .ref (lt))]) S dJ5_append_cf1ce_13 hl rfl (by decide) rfl (fun ls hl => ?_)
  refine z_aload_n S dJ5_append_cf1ce_14 hl 1 rfl rfl ?_
  refine z_aload_n S dJ5_append_cf1ce_15 hl 1 rfl rfl ?_
  refine z_getR S hG hQ zc_J4 3 (by decide) q3_152 rfl dJ5_append_cf1ce_16 ?_
  refine z_iload_n S dJ5_append_cf1ce_19 hl 0 rfl rfl ?_
  refine z_iadd S dJ5_append_cf1ce_20 ?_
  refine z_callQ S hG hS (c_sEn l G q sz n ((n : Int) + k) (n + k) (by omega) (by omega)) (fun _ h => h) ok_J5_ensureCapacityInternal_d00df q3_171 (va_Nw.use rfl (hG.2.2.2.2.2.2.2.2.2.2.2 _ (List.mem_of_getElem? (i := 0) rfl))) (z_rcv hG hQ zc_J4) q3_169 (⟨v, cap, ⟨hQ, hV, hne⟩, hq, hv, hc, hnn⟩) ⟨rfl, rfl, by decide, by decide⟩ ⟨Nat.le_of_ble_eq_true rfl, Nat.le_of_ble_eq_true rfl⟩ rfl (Nat.le_of_ble_eq_true rfl) hl.1 rfl dJ5_append_cf1ce_21 (fun H_1 L_1 hB hz oq hS => ?_)
  have hT := zTx.kept hT (fun y hx h9 => oq y hx (by show ¬ (sz ≤ _); omega))
  have hL := hLt.kept hL (fun _ => oq _ (hLt.lt hL) (by show ¬ (sz ≤ _); omega))
  have hLv := zBw.kept hLv (fun _ => oq _ (zBw.lt hLv) (by show ¬ (sz ≤ _); omega))
  obtain ⟨v, cap, ⟨hQ, hV, hne⟩, hq, hv, hc, hnn⟩ := hB
  have hqs := va_lt hQ
  have hvs := hV.lt
  refine z_aload_n S dJ5_append_cf1ce_24 hl 1 rfl rfl ?_
  refine z_aload_n S dJ5_append_cf1ce_25 hl 1 rfl rfl ?_
  refine z_getR S hG hQ zc_J4 3 (by decide) q3_152 rfl dJ5_append_cf1ce_26 ?_
  refine z_aload_n S dJ5_append_cf1ce_29 hl 2 rfl rfl ?_
  refine z_callQ S hG hS (c_sPsa l G q v n cap lt lv k (by omega) (by omega)) (fun y z => by have h2 : y = v := z; show sz ≤ y; omega) ok_J5_putStringAt_47b60 q4_115 (va_Nw.use rfl (hG.2.2.2.2.2.2.2.2.2.2.2 _ (List.mem_of_getElem? (i := 2) rfl))) (z_rcv hG hQ zc_J4) q4_113 (⟨⟨hQ, hV, hne⟩, hL, hLv, hT⟩) ⟨rfl, rfl, by decide, by decide⟩ ⟨Nat.le_of_ble_eq_true rfl, Nat.le_of_ble_eq_true rfl⟩ rfl (Nat.le_of_ble_eq_true rfl) hl.1 rfl dJ5_append_cf1ce_30 (fun H_2 L_2 hB hz oq hS => ?_)
  have hQ := va_at.kept hQ (oq _ (va_lt hQ) (by show ¬ (_ = v); omega))
  have hT := zTx.kept hT (fun y hx h9 => oq y hx (by show ¬ (_ = v); omega))
  have hL := hLt.kept hL (fun _ => oq _ (hLt.lt hL) (by show ¬ (_ = v); omega))
  have hLv := zBw.kept hLv (fun _ => oq _ (zBw.lt hLv) (by show ¬ (_ = v); omega))
  have hV := hB
  refine z_aload_n S dJ5_append_cf1ce_33 hl 1 rfl rfl ?_
  refine z_dup S dJ5_append_cf1ce_34 rfl ?_
  refine z_getR S hG hQ zc_J4 3 (by decide) q3_152 rfl dJ5_append_cf1ce_35 ?_
  refine z_iload_n S dJ5_append_cf1ce_38 hl 0 rfl rfl ?_
  refine z_iadd S dJ5_append_cf1ce_39 ?_
  refine z_putR S hG hQ zc_J4 tyJ4 tyJ4_ok nmJ4 hS (by show sz ≤ q; omega) 3 (by decide) q3_152 rfl (tyJ4_ok 3 (by decide)) rfl rfl (Nat.le_of_ble_eq_true rfl) dJ5_append_cf1ce_40 (fun H_3 L_3 hat hz oq hS => ?_)
  have hQ := hat
  have hV := zBy.kept hV (fun _ => oq _ (show q ≠ v by omega).symm)
  have hT := zTx.kept hT (fun y hx h9 => oq y (by omega))
  have hL := hLt.kept hL (fun _ => oq _ (show q ≠ lt by omega).symm)
  have hLv := zBw.kept hLv (fun _ => oq _ (show q ≠ lv by omega).symm)
  refine z_aload_n S dJ5_append_cf1ce_43 hl 1 rfl rfl ?_
  exact ret _ _ _ _ _ _ dJ5_append_cf1ce_44 hS (⟨v, cap, ⟨hQ, hV, hne⟩, hq, hv, by omega, Nat.le_refl _⟩) (Nat.le_of_ble_eq_true rfl) (Nat.le_of_ble_eq_true rfl)
theorem dJ4_append_cf468_0 : decode cJ4_append_cf468 0 = .ok (.aload_n 0, 1) := by decide +kernel
theorem dJ4_append_cf468_1 : decode cJ4_append_cf468 1 = .ok (.iload_n 1, 1) := by decide +kernel
theorem dJ4_append_cf468_2 : decode cJ4_append_cf468 2 = .ok (.invokespecial 50, 3) := by decide +kernel
theorem dJ4_append_cf468_5 : decode cJ4_append_cf468 5 = .ok (.pop, 1) := by decide +kernel
theorem dJ4_append_cf468_6 : decode cJ4_append_cf468 6 = .ok (.aload_n 0, 1) := by decide +kernel
theorem dJ4_append_cf468_7 : decode cJ4_append_cf468 7 = .ok (.areturn, 1) := by decide +kernel
theorem q3_166 : (Jvm.Cond.methodLink "java/lang/StringBuilder" (50 : Nat) ({ cls := "java/lang/AbstractStringBuilder", name := "append", desc := "(C)Ljava/lang/AbstractStringBuilder;" } : Jvm.MethodName)) ∈ lw_g := zg_of (zin3 (List.mem_of_getElem? (i := 166) rfl)) rfl
theorem q3_167 : (Jvm.Cond.instanceMethod ({ cls := "java/lang/AbstractStringBuilder", name := "append", desc := "(C)Ljava/lang/AbstractStringBuilder;" } : Jvm.MethodName)) ∈ lw_g := zg_of (zin3 (List.mem_of_getElem? (i := 167) rfl)) rfl
theorem q6_142 : (Jvm.Cond.sameMethod "java/lang/AbstractStringBuilder" "java/lang/AbstractStringBuilder" "append" "(C)Ljava/lang/AbstractStringBuilder;") ∈ lw_g := zg_of (zin6 (List.mem_of_getElem? (i := 142) rfl)) rfl
theorem q3_161 : (Jvm.Cond.superclass "java/lang/StringBuilder" "java/lang/AbstractStringBuilder") ∈ lw_g := zg_of (zin3 (List.mem_of_getElem? (i := 161) rfl)) rfl
theorem q3_165 : (Jvm.Cond.code ({ cls := "java/lang/StringBuilder", name := "append", desc := "(C)Ljava/lang/StringBuilder;" } : Jvm.MethodName) prog_24_method_14_code (2 : Nat) (Option.some (Jvm.ClassFile.FieldType.object "java/lang/StringBuilder"))) ∈ lw_g := zg_of (zin3 (List.mem_of_getElem? (i := 165) rfl)) rfl
theorem q1_26 : (Jvm.Cond.initialized "java/lang/StringBuilder") ∈ lw_g := zg_of (zin1 (List.mem_of_getElem? (i := 26) rfl)) rfl
theorem q3_163 : (Jvm.Cond.instanceMethod ({ cls := "java/lang/StringBuilder", name := "append", desc := "(C)Ljava/lang/StringBuilder;" } : Jvm.MethodName)) ∈ lw_g := zg_of (zin3 (List.mem_of_getElem? (i := 163) rfl)) rfl
theorem q3_164 : (Jvm.Cond.selects "java/lang/StringBuilder" ({ cls := "java/lang/StringBuilder", name := "append", desc := "(C)Ljava/lang/StringBuilder;" } : Jvm.MethodName) ({ cls := "java/lang/StringBuilder", name := "append", desc := "(C)Ljava/lang/StringBuilder;" } : Jvm.MethodName)) ∈ lw_g := zg_of (zin3 (List.mem_of_getElem? (i := 164) rfl)) rfl
theorem ok_J4_append_cf468 : zOV yJ4_append_cf468 cJ4_append_cf468 2 ((Option.some (Jvm.ClassFile.FieldType.object "java/lang/StringBuilder"))) 1 := ⟨⟨q3_165, q1_26, by decide, by decide, by decide +kernel⟩, q3_163, q3_164⟩
set_option maxHeartbeats 4000000 in
set_option maxRecDepth 100000 in
theorem c_bApC (l : Launch) (G : zG) (q sz n : Nat) (h99 : sz ≥ G.2 99) (hn : n ≤ 33) : Met l yJ4_append_cf468 (wq yJ4_append_cf468 cJ4_append_cf468 2 ((Option.some (Jvm.ClassFile.FieldType.object "java/lang/StringBuilder")))) (rmM 5 112 1 34) (va_Pc [.ref (q), .int (zI (32))] (zK G (fun H => hSX G q sz n n H ∧ zTx G H))) (zM (fun y => sz ≤ y) (some (.ref (q))) (fun H => hSX G q sz (n + 1) (n + 1) H)) 1 34 (fun y => sz ≤ y) := by
  refine z_enterMA (by decide +kernel) (Nat.le_of_ble_eq_true rfl) ?_
  intro p env s m below meth cod Q S hG hP hS ret ls hl
  have hl : lv_has ls 2 [(0, .ref (q)), (1, .int (zI (32)))] := hl
  obtain ⟨v, cap, ⟨hQ, hV, hne⟩, hq, hv, hc, hnn⟩ := hP.1
  refine z_aload_n S dJ4_append_cf468_0 hl 0 rfl rfl ?_
  refine z_iload_n S dJ4_append_cf468_1 hl 1 rfl rfl ?_
  refine z_callSU S hG hS (c_sApC l G q sz n h99 hn) (fun _ h => h) ok_J5_append_3fe6f q3_167 q6_142 q3_161 (by decide) hQ zc_J4 q3_166 (hP) ⟨rfl, rfl, by decide, by decide⟩ ⟨Nat.le_of_ble_eq_true rfl, Nat.le_of_ble_eq_true rfl⟩ rfl (Nat.le_of_ble_eq_true rfl) hl.1 rfl dJ4_append_cf468_2 (fun H_1 L_1 hB hz oq hS => ?_)
  refine lv_pop S.1 S.2.1 dJ4_append_cf468_5 rfl ?_
  refine z_aload_n S dJ4_append_cf468_6 hl 0 rfl rfl ?_
  exact ret _ _ _ _ _ _ dJ4_append_cf468_7 hS (hB) (Nat.le_of_ble_eq_true rfl) (Nat.le_of_ble_eq_true rfl)
theorem dJ4_append_bf812_0 : decode cJ4_append_bf812 0 = .ok (.aload_n 0, 1) := by decide +kernel
theorem dJ4_append_bf812_1 : decode cJ4_append_bf812 1 = .ok (.iload_n 1, 1) := by decide +kernel
theorem dJ4_append_bf812_2 : decode cJ4_append_bf812 2 = .ok (.invokespecial 53, 3) := by decide +kernel
theorem dJ4_append_bf812_5 : decode cJ4_append_bf812 5 = .ok (.pop, 1) := by decide +kernel
theorem dJ4_append_bf812_6 : decode cJ4_append_bf812 6 = .ok (.aload_n 0, 1) := by decide +kernel
theorem dJ4_append_bf812_7 : decode cJ4_append_bf812 7 = .ok (.areturn, 1) := by decide +kernel
theorem q4_19 : (Jvm.Cond.methodLink "java/lang/StringBuilder" (53 : Nat) ({ cls := "java/lang/AbstractStringBuilder", name := "append", desc := "(I)Ljava/lang/AbstractStringBuilder;" } : Jvm.MethodName)) ∈ lw_g := zg_of (zin4 (List.mem_of_getElem? (i := 19) rfl)) rfl
theorem q4_20 : (Jvm.Cond.instanceMethod ({ cls := "java/lang/AbstractStringBuilder", name := "append", desc := "(I)Ljava/lang/AbstractStringBuilder;" } : Jvm.MethodName)) ∈ lw_g := zg_of (zin4 (List.mem_of_getElem? (i := 20) rfl)) rfl
theorem q6_146 : (Jvm.Cond.sameMethod "java/lang/AbstractStringBuilder" "java/lang/AbstractStringBuilder" "append" "(I)Ljava/lang/AbstractStringBuilder;") ∈ lw_g := zg_of (zin6 (List.mem_of_getElem? (i := 146) rfl)) rfl
theorem q4_18 : (Jvm.Cond.code ({ cls := "java/lang/StringBuilder", name := "append", desc := "(I)Ljava/lang/StringBuilder;" } : Jvm.MethodName) prog_24_method_15_code (2 : Nat) (Option.some (Jvm.ClassFile.FieldType.object "java/lang/StringBuilder"))) ∈ lw_g := zg_of (zin4 (List.mem_of_getElem? (i := 18) rfl)) rfl
theorem q4_16 : (Jvm.Cond.instanceMethod ({ cls := "java/lang/StringBuilder", name := "append", desc := "(I)Ljava/lang/StringBuilder;" } : Jvm.MethodName)) ∈ lw_g := zg_of (zin4 (List.mem_of_getElem? (i := 16) rfl)) rfl
theorem q4_17 : (Jvm.Cond.selects "java/lang/StringBuilder" ({ cls := "java/lang/StringBuilder", name := "append", desc := "(I)Ljava/lang/StringBuilder;" } : Jvm.MethodName) ({ cls := "java/lang/StringBuilder", name := "append", desc := "(I)Ljava/lang/StringBuilder;" } : Jvm.MethodName)) ∈ lw_g := zg_of (zin4 (List.mem_of_getElem? (i := 17) rfl)) rfl
theorem ok_J4_append_bf812 : zOV yJ4_append_bf812 cJ4_append_bf812 2 ((Option.some (Jvm.ClassFile.FieldType.object "java/lang/StringBuilder"))) 1 := ⟨⟨q4_18, q1_26, by decide, by decide, by decide +kernel⟩, q4_16, q4_17⟩
set_option maxHeartbeats 4000000 in
set_option maxRecDepth 100000 in
theorem c_bApI (l : Launch) (G : zG) (q sz n w : Nat) (x : Int) (h99 : sz ≥ G.2 99) (hx : 0 ≤ x ∧ x < 100) (hw : (x < 10 ∧ w = 1) ∨ (10 ≤ x ∧ w = 2)) (hn : n + w ≤ 34) : Met l yJ4_append_bf812 (wq yJ4_append_bf812 cJ4_append_bf812 2 ((Option.some (Jvm.ClassFile.FieldType.object "java/lang/StringBuilder")))) (rmM 5 114 1 34) (va_Pc [.ref (q), .int (zI (x))] (zK G (fun H => hSX G q sz n n H ∧ zTx G H))) (zM (fun y => sz ≤ y) (some (.ref (q))) (fun H => hSX G q sz (n + w) (n + w) H)) 1 34 (fun y => sz ≤ y) := by
  refine z_enterMA (by decide +kernel) (Nat.le_of_ble_eq_true rfl) ?_
  intro p env s m below meth cod Q S hG hP hS ret ls hl
  have hl : lv_has ls 2 [(0, .ref (q)), (1, .int (zI (x)))] := hl
  obtain ⟨v, cap, ⟨hQ, hV, hne⟩, hq, hv, hc, hnn⟩ := hP.1
  refine z_aload_n S dJ4_append_bf812_0 hl 0 rfl rfl ?_
  refine z_iload_n S dJ4_append_bf812_1 hl 1 rfl rfl ?_
  refine z_callSU S hG hS (c_sApI l G q sz n w x h99 hx hw hn) (fun _ h => h) ok_J5_append_c97b9 q4_20 q6_146 q3_161 (by decide) hQ zc_J4 q4_19 (hP) ⟨rfl, rfl, by decide, by decide⟩ ⟨Nat.le_of_ble_eq_true rfl, Nat.le_of_ble_eq_true rfl⟩ rfl (Nat.le_of_ble_eq_true rfl) hl.1 rfl dJ4_append_bf812_2 (fun H_1 L_1 hB hz oq hS => ?_)
  refine lv_pop S.1 S.2.1 dJ4_append_bf812_5 rfl ?_
  refine z_aload_n S dJ4_append_bf812_6 hl 0 rfl rfl ?_
  exact ret _ _ _ _ _ _ dJ4_append_bf812_7 hS (hB) (Nat.le_of_ble_eq_true rfl) (Nat.le_of_ble_eq_true rfl)
theorem dJ4_append_15ec4_0 : decode cJ4_append_15ec4 0 = .ok (.aload_n 0, 1) := by decide +kernel
theorem dJ4_append_15ec4_1 : decode cJ4_append_15ec4 1 = .ok (.aload_n 1, 1) := by decide +kernel
theorem dJ4_append_15ec4_2 : decode cJ4_append_15ec4 2 = .ok (.invokespecial 29, 3) := by decide +kernel
theorem dJ4_append_15ec4_5 : decode cJ4_append_15ec4 5 = .ok (.pop, 1) := by decide +kernel
theorem dJ4_append_15ec4_6 : decode cJ4_append_15ec4 6 = .ok (.aload_n 0, 1) := by decide +kernel
theorem dJ4_append_15ec4_7 : decode cJ4_append_15ec4 7 = .ok (.areturn, 1) := by decide +kernel
theorem q4_94 : (Jvm.Cond.methodLink "java/lang/StringBuilder" (29 : Nat) ({ cls := "java/lang/AbstractStringBuilder", name := "append", desc := "(Ljava/lang/String;)Ljava/lang/AbstractStringBuilder;" } : Jvm.MethodName)) ∈ lw_g := zg_of (zin4 (List.mem_of_getElem? (i := 94) rfl)) rfl
theorem q4_95 : (Jvm.Cond.instanceMethod ({ cls := "java/lang/AbstractStringBuilder", name := "append", desc := "(Ljava/lang/String;)Ljava/lang/AbstractStringBuilder;" } : Jvm.MethodName)) ∈ lw_g := zg_of (zin4 (List.mem_of_getElem? (i := 95) rfl)) rfl
theorem q6_147 : (Jvm.Cond.sameMethod "java/lang/AbstractStringBuilder" "java/lang/AbstractStringBuilder" "append" "(Ljava/lang/String;)Ljava/lang/AbstractStringBuilder;") ∈ lw_g := zg_of (zin6 (List.mem_of_getElem? (i := 147) rfl)) rfl
theorem q4_93 : (Jvm.Cond.code ({ cls := "java/lang/StringBuilder", name := "append", desc := "(Ljava/lang/String;)Ljava/lang/StringBuilder;" } : Jvm.MethodName) prog_24_method_7_code (2 : Nat) (Option.some (Jvm.ClassFile.FieldType.object "java/lang/StringBuilder"))) ∈ lw_g := zg_of (zin4 (List.mem_of_getElem? (i := 93) rfl)) rfl
theorem q4_91 : (Jvm.Cond.instanceMethod ({ cls := "java/lang/StringBuilder", name := "append", desc := "(Ljava/lang/String;)Ljava/lang/StringBuilder;" } : Jvm.MethodName)) ∈ lw_g := zg_of (zin4 (List.mem_of_getElem? (i := 91) rfl)) rfl
theorem q4_92 : (Jvm.Cond.selects "java/lang/StringBuilder" ({ cls := "java/lang/StringBuilder", name := "append", desc := "(Ljava/lang/String;)Ljava/lang/StringBuilder;" } : Jvm.MethodName) ({ cls := "java/lang/StringBuilder", name := "append", desc := "(Ljava/lang/String;)Ljava/lang/StringBuilder;" } : Jvm.MethodName)) ∈ lw_g := zg_of (zin4 (List.mem_of_getElem? (i := 92) rfl)) rfl
theorem ok_J4_append_15ec4 : zOV yJ4_append_15ec4 cJ4_append_15ec4 2 ((Option.some (Jvm.ClassFile.FieldType.object "java/lang/StringBuilder"))) 1 := ⟨⟨q4_93, q1_26, by decide, by decide, by decide +kernel⟩, q4_91, q4_92⟩
set_option maxHeartbeats 4000000 in
set_option maxRecDepth 100000 in
theorem c_bApS (l : Launch) (G : zG) (q sz n lt lv k : Nat) (h99 : sz ≥ G.2 99) (hk : k ≤ 2 ∧ n + k ≤ 34) (hl9 : @LT.lt Nat _ lt (G.2 99) ∧ @LT.lt Nat _ lv (G.2 99)) : Met l yJ4_append_15ec4 (wq yJ4_append_15ec4 cJ4_append_15ec4 2 ((Option.some (Jvm.ClassFile.FieldType.object "java/lang/StringBuilder")))) (rmM 5 113 1 34) (va_Pc [.ref (q), .ref (lt)] (zK G (fun H => hSX G q sz n n H ∧ zTx G H ∧ hLt G lt lv H ∧ zBw (G.2 3) lv k H))) (zM (fun y => sz ≤ y) (some (.ref (q))) (fun H => hSX G q sz (n + k) (n + k) H)) 1 34 (fun y => sz ≤ y) := by
  refine z_enterMA (by decide +kernel) (Nat.le_of_ble_eq_true rfl) ?_
  intro p env s m below meth cod Q S hG hP hS ret ls hl
  have hl : lv_has ls 2 [(0, .ref (q)), (1, .ref (lt))] := hl
  obtain ⟨v, cap, ⟨hQ, hV, hne⟩, hq, hv, hc, hnn⟩ := hP.1
  refine z_aload_n S dJ4_append_15ec4_0 hl 0 rfl rfl ?_
  refine z_aload_n S dJ4_append_15ec4_1 hl 1 rfl rfl ?_
  refine z_callSU S hG hS (c_sApS l G q sz n lt lv k h99 hk hl9) (fun _ h => h) ok_J5_append_cf1ce q4_95 q6_147 q3_161 (by decide) hQ zc_J4 q4_94 (hP) ⟨rfl, rfl, by decide, by decide⟩ ⟨Nat.le_of_ble_eq_true rfl, Nat.le_of_ble_eq_true rfl⟩ rfl (Nat.le_of_ble_eq_true rfl) hl.1 rfl dJ4_append_15ec4_2 (fun H_1 L_1 hB hz oq hS => ?_)
  refine lv_pop S.1 S.2.1 dJ4_append_15ec4_5 rfl ?_
  refine z_aload_n S dJ4_append_15ec4_6 hl 0 rfl rfl ?_
  exact ret _ _ _ _ _ _ dJ4_append_15ec4_7 hS (hB) (Nat.le_of_ble_eq_true rfl) (Nat.le_of_ble_eq_true rfl)
theorem dJ5_init_d00df_0 : decode cJ5_init_d00df 0 = .ok (.aload_n 0, 1) := by decide +kernel
theorem dJ5_init_d00df_1 : decode cJ5_init_d00df 1 = .ok (.invokespecial 3, 3) := by decide +kernel
theorem dJ5_init_d00df_4 : decode cJ5_init_d00df 4 = .ok (.getstatic 18, 3) := by decide +kernel
theorem dJ5_init_d00df_7 : decode cJ5_init_d00df 7 = .ok (.ifCond .eq 18, 3) := by decide +kernel
theorem dJ5_init_d00df_10 : decode cJ5_init_d00df 10 = .ok (.aload_n 0, 1) := by decide +kernel
theorem dJ5_init_d00df_11 : decode cJ5_init_d00df 11 = .ok (.iload_n 1, 1) := by decide +kernel
theorem dJ5_init_d00df_12 : decode cJ5_init_d00df 12 = .ok (.newarray .byte, 2) := by decide +kernel
theorem dJ5_init_d00df_14 : decode cJ5_init_d00df 14 = .ok (.putfield 15, 3) := by decide +kernel
theorem dJ5_init_d00df_17 : decode cJ5_init_d00df 17 = .ok (.aload_n 0, 1) := by decide +kernel
theorem dJ5_init_d00df_18 : decode cJ5_init_d00df 18 = .ok (.iconst 0, 1) := by decide +kernel
theorem dJ5_init_d00df_19 : decode cJ5_init_d00df 19 = .ok (.putfield 22, 3) := by decide +kernel
theorem dJ5_init_d00df_22 : decode cJ5_init_d00df 22 = .ok (.goto 16, 3) := by decide +kernel
theorem dJ5_init_d00df_25 : decode cJ5_init_d00df 25 = .ok (.aload_n 0, 1) := by decide +kernel
theorem dJ5_init_d00df_26 : decode cJ5_init_d00df 26 = .ok (.iload_n 1, 1) := by decide +kernel
theorem dJ5_init_d00df_27 : decode cJ5_init_d00df 27 = .ok (.invokestatic 26, 3) := by decide +kernel
theorem dJ5_init_d00df_30 : decode cJ5_init_d00df 30 = .ok (.putfield 15, 3) := by decide +kernel
theorem dJ5_init_d00df_33 : decode cJ5_init_d00df 33 = .ok (.aload_n 0, 1) := by decide +kernel
theorem dJ5_init_d00df_34 : decode cJ5_init_d00df 34 = .ok (.iconst 1, 1) := by decide +kernel
theorem dJ5_init_d00df_35 : decode cJ5_init_d00df 35 = .ok (.putfield 22, 3) := by decide +kernel
theorem dJ5_init_d00df_38 : decode cJ5_init_d00df 38 = .ok (.return_, 1) := by decide +kernel
theorem q3_139 : (Jvm.Cond.methodLink "java/lang/AbstractStringBuilder" (3 : Nat) ({ cls := "java/lang/Object", name := "<init>", desc := "()V" } : Jvm.MethodName)) ∈ lw_g := zg_of (zin3 (List.mem_of_getElem? (i := 139) rfl)) rfl
theorem q3_138 : (Jvm.Cond.code ({ cls := "java/lang/AbstractStringBuilder", name := "<init>", desc := "(I)V" } : Jvm.MethodName) prog_8_method_2_code (2 : Nat) (Option.none : Option Jvm.ClassFile.FieldType)) ∈ lw_g := zg_of (zin3 (List.mem_of_getElem? (i := 138) rfl)) rfl
theorem ok_J5_init_d00df : zOK yJ5_init_d00df cJ5_init_d00df 2 ((Option.none : Option Jvm.ClassFile.FieldType)) 1 := ⟨q3_138, q1_25, by decide, by decide, by decide +kernel⟩
set_option maxHeartbeats 4000000 in
set_option maxRecDepth 100000 in
theorem c_aIni (l : Launch) (G : zG) (q sz : Nat) : Met l yJ5_init_d00df (wq yJ5_init_d00df cJ5_init_d00df 2 ((Option.none : Option Jvm.ClassFile.FieldType))) (rmM 1 20 1 16) (va_Pc [.ref (q), .int (zI (16))] (zK G (fun H => va_at G.1 vwCl (q, .inr (1, [.null, .int 0, .int 0, .int 0])) H ∧ zTx G H ∧ H.size = sz))) (zM (fun y => y = q ∨ sz ≤ y) none (fun H => hSB G q sz 0 16 H)) 1 16 (fun y => y = q ∨ sz ≤ y) := by
  refine z_enterMV (by decide +kernel) (Nat.le_of_ble_eq_true rfl) ?_
  intro p env s m below meth cod Q S hnm hG hP hS ret ls hl
  have hl : lv_has ls 2 [(0, .ref (q)), (1, .int (zI (16)))] := hl
  obtain ⟨hQ, hT, hz0⟩ := hP
  have hqs := va_lt hQ
  refine z_aload_n S dJ5_init_d00df_0 hl 0 rfl rfl ?_
  refine z_objInit S hl.1 q3_139 q1_36 (by exact q1_37) dJ5_init_d00df_1 (Nat.le_of_ble_eq_true rfl) (Nat.le_of_ble_eq_true rfl) ?_
  refine z_gets S hG 1 rfl hT.1 q3_140 dJ5_init_d00df_4 ?_
  refine lv_if_eq (tgt := 25) S.1 S.2.1 dJ5_init_d00df_7 (by decide) (fun c_7 => ?_) (fun c_7 => ?_)
  · exact absurd c_7 (by decide)
  refine z_aload_n S dJ5_init_d00df_10 hl 0 rfl rfl ?_
  refine z_iload_n S dJ5_init_d00df_11 hl 1 rfl rfl ?_
  refine z_newB (N := 16) S hG (Nat.le_of_ble_eq_true rfl) q_arrB hS ⟨Nat.le_of_ble_eq_true rfl, Nat.le_of_ble_eq_true rfl⟩ dJ5_init_d00df_12 (fun n1 H_1 hq_n1 hat hz oq hS => ?_)
  have lt_hQ_n1 : n1 > q := by rw [hq_n1]; exact va_lt hQ
  have hQ := va_at.kept hQ (oq _ (va_lt hQ))
  have h_n1 := hat
  refine z_putR S hG hQ zc_J4 tyJ4 tyJ4_ok nmJ4 hS (Or.inl rfl) 0 (by decide) q3_149 rfl (tyJ4_ok 0 (by decide)) rfl rfl (Nat.le_of_ble_eq_true rfl) dJ5_init_d00df_14 (fun H_2 L_2 hat hz oq hS => ?_)
  have hQ := hat
  have h_n1 := h_n1.kept (fun hx => oq _ (by omega))
  refine z_aload_n S dJ5_init_d00df_17 hl 0 rfl rfl ?_
  refine z_iconst S dJ5_init_d00df_18 ?_
  refine z_putR S hG hQ zc_J4 tyJ4 tyJ4_ok nmJ4 hS (Or.inl rfl) 1 (by decide) q3_150 rfl (tyJ4_ok 1 (by decide)) rfl rfl (Nat.le_of_ble_eq_true rfl) dJ5_init_d00df_19 (fun H_3 L_3 hat hz oq hS => ?_)
  have hQ := hat
  have h_n1 := h_n1.kept (fun hx => oq _ (by omega))
  refine z_goto S 38 dJ5_init_d00df_22 (by decide) ?_
  obtain rfl : n1 = sz := by omega
  exact ret _ _ _ _ _ _ dJ5_init_d00df_38 hS (⟨hQ, h_n1, by omega⟩) (Nat.le_of_ble_eq_true rfl) (Nat.le_of_ble_eq_true rfl)
theorem dJ4_init_da8c8_0 : decode cJ4_init_da8c8 0 = .ok (.aload_n 0, 1) := by decide +kernel
theorem dJ4_init_da8c8_1 : decode cJ4_init_da8c8 1 = .ok (.bipush 16, 2) := by decide +kernel
theorem dJ4_init_da8c8_3 : decode cJ4_init_da8c8 3 = .ok (.invokespecial 1, 3) := by decide +kernel
theorem dJ4_init_da8c8_6 : decode cJ4_init_da8c8 6 = .ok (.return_, 1) := by decide +kernel
theorem q3_137 : (Jvm.Cond.instanceMethod ({ cls := "java/lang/AbstractStringBuilder", name := "<init>", desc := "(I)V" } : Jvm.MethodName)) ∈ lw_g := zg_of (zin3 (List.mem_of_getElem? (i := 137) rfl)) rfl
theorem q3_136 : (Jvm.Cond.methodLink "java/lang/StringBuilder" (1 : Nat) ({ cls := "java/lang/AbstractStringBuilder", name := "<init>", desc := "(I)V" } : Jvm.MethodName)) ∈ lw_g := zg_of (zin3 (List.mem_of_getElem? (i := 136) rfl)) rfl
theorem q3_135 : (Jvm.Cond.code ({ cls := "java/lang/StringBuilder", name := "<init>", desc := "()V" } : Jvm.MethodName) prog_24_method_1_code (1 : Nat) (Option.none : Option Jvm.ClassFile.FieldType)) ∈ lw_g := zg_of (zin3 (List.mem_of_getElem? (i := 135) rfl)) rfl
theorem ok_J4_init_da8c8 : zOK yJ4_init_da8c8 cJ4_init_da8c8 1 ((Option.none : Option Jvm.ClassFile.FieldType)) 0 := ⟨q3_135, q1_26, by decide, by decide, by decide +kernel⟩
set_option maxHeartbeats 4000000 in
set_option maxRecDepth 100000 in
theorem c_bIni (l : Launch) (G : zG) (q sz : Nat) : Met l yJ4_init_da8c8 (wq yJ4_init_da8c8 cJ4_init_da8c8 1 ((Option.none : Option Jvm.ClassFile.FieldType))) (rmM 2 41 1 16) (va_Pc [.ref (q)] (zK G (fun H => va_at G.1 vwCl (q, .inr (1, [.null, .int 0, .int 0, .int 0])) H ∧ zTx G H ∧ H.size = sz))) (zM (fun y => y = q ∨ sz ≤ y) none (fun H => hSB G q sz 0 16 H)) 1 16 (fun y => y = q ∨ sz ≤ y) := by
  refine z_enterMV (by decide +kernel) (Nat.le_of_ble_eq_true rfl) ?_
  intro p env s m below meth cod Q S hnm hG hP hS ret ls hl
  have hl : lv_has ls 1 [(0, .ref (q))] := hl
  refine z_aload_n S dJ4_init_da8c8_0 hl 0 rfl rfl ?_
  refine z_bipush S dJ4_init_da8c8_1 rfl ?_
  refine z_callMI S hG hS (c_aIni l G q sz) (fun _ h => h) ok_J5_init_d00df q3_137 rfl q3_136 (hP) ⟨rfl, rfl, by decide, by decide⟩ ⟨Nat.le_of_ble_eq_true rfl, Nat.le_of_ble_eq_true rfl⟩ rfl (Nat.le_of_ble_eq_true rfl) hl.1 rfl dJ4_init_da8c8_3 (fun H_1 L_1 hB hz oq hS => ?_)
  exact ret _ _ _ _ _ _ dJ4_init_da8c8_6 hS (hB) (Nat.le_of_ble_eq_true rfl) (Nat.le_of_ble_eq_true rfl)
theorem dJ5_getValue_6d5f1_0 : decode cJ5_getValue_6d5f1 0 = .ok (.aload_n 0, 1) := by decide +kernel
theorem dJ5_getValue_6d5f1_1 : decode cJ5_getValue_6d5f1 1 = .ok (.getfield 15, 3) := by decide +kernel
theorem dJ5_getValue_6d5f1_4 : decode cJ5_getValue_6d5f1 4 = .ok (.areturn, 1) := by decide +kernel
theorem q4_66 : (Jvm.Cond.code ({ cls := "java/lang/AbstractStringBuilder", name := "getValue", desc := "()[B" } : Jvm.MethodName) prog_8_method_64_code (1 : Nat) (Option.some (Jvm.ClassFile.FieldType.array Jvm.ClassFile.FieldType.byte))) ∈ lw_g := zg_of (zin4 (List.mem_of_getElem? (i := 66) rfl)) rfl
theorem ok_J5_getValue_6d5f1 : zOK yJ5_getValue_6d5f1 cJ5_getValue_6d5f1 1 ((Option.some (Jvm.ClassFile.FieldType.array Jvm.ClassFile.FieldType.byte))) 0 := ⟨q4_66, q1_25, by decide, by decide, by decide +kernel⟩
set_option maxHeartbeats 4000000 in
set_option maxRecDepth 100000 in
theorem c_sGv (l : Launch) (G : zG) (q v n cap : Nat) : Met l yJ5_getValue_6d5f1 (wq yJ5_getValue_6d5f1 cJ5_getValue_6d5f1 1 ((Option.some (Jvm.ClassFile.FieldType.array Jvm.ClassFile.FieldType.byte)))) (rmM 0 0 0 0) (va_Pc [.ref (q)] (zK G (hSB G q v n cap))) (zM (fun _ => False) (some (.ref (v))) (fun _ => True)) 0 0 (fun _ => False) := by
  refine z_enterMR (by decide +kernel) (Nat.le_of_ble_eq_true rfl) ?_
  intro p env s m below meth cod Q S hG hP hS ret ls hl
  have hl : lv_has ls 1 [(0, .ref (q))] := hl
  refine z_aload_n S dJ5_getValue_6d5f1_0 hl 0 rfl rfl ?_
  refine z_getR S hG hP.1 zc_J4 0 (by decide) q3_149 rfl dJ5_getValue_6d5f1_1 ?_
  exact ret _ _ _ _ _ _ dJ5_getValue_6d5f1_4 hS (trivial) (Nat.le_of_ble_eq_true rfl) (Nat.le_of_ble_eq_true rfl)
theorem dJ5_length_8abf5_0 : decode cJ5_length_8abf5 0 = .ok (.aload_n 0, 1) := by decide +kernel
theorem dJ5_length_8abf5_1 : decode cJ5_length_8abf5 1 = .ok (.getfield 79, 3) := by decide +kernel
theorem dJ5_length_8abf5_4 : decode cJ5_length_8abf5 4 = .ok (.ireturn, 1) := by decide +kernel
theorem q4_74 : (Jvm.Cond.code ({ cls := "java/lang/AbstractStringBuilder", name := "length", desc := "()I" } : Jvm.MethodName) prog_8_method_6_code (1 : Nat) (Option.some Jvm.ClassFile.FieldType.int)) ∈ lw_g := zg_of (zin4 (List.mem_of_getElem? (i := 74) rfl)) rfl
theorem ok_J5_length_8abf5 : zOK yJ5_length_8abf5 cJ5_length_8abf5 1 ((Option.some Jvm.ClassFile.FieldType.int)) 0 := ⟨q4_74, q1_25, by decide, by decide, by decide +kernel⟩
set_option maxHeartbeats 4000000 in
set_option maxRecDepth 100000 in
theorem c_sLn (l : Launch) (G : zG) (q v n cap : Nat) : Met l yJ5_length_8abf5 (wq yJ5_length_8abf5 cJ5_length_8abf5 1 ((Option.some Jvm.ClassFile.FieldType.int))) (rmM 0 0 0 0) (va_Pc [.ref (q)] (zK G (hSB G q v n cap))) (zM (fun _ => False) (some (.int ((zI ((n : Int)))))) (fun _ => True)) 0 0 (fun _ => False) := by
  refine z_enterMI (by decide +kernel) (Nat.le_of_ble_eq_true rfl) ?_
  intro p env s m below meth cod Q S hG hP hS ret ls hl
  have hl : lv_has ls 1 [(0, .ref (q))] := hl
  refine z_aload_n S dJ5_length_8abf5_0 hl 0 rfl rfl ?_
  refine z_getR S hG hP.1 zc_J4 3 (by decide) q3_152 rfl dJ5_length_8abf5_1 ?_
  exact ret _ _ _ _ _ _ _ dJ5_length_8abf5_4 (rfl) hS (trivial) (Nat.le_of_ble_eq_true rfl) (Nat.le_of_ble_eq_true rfl)
theorem dJ4_length_8abf5_0 : decode cJ4_length_8abf5 0 = .ok (.aload_n 0, 1) := by decide +kernel
theorem dJ4_length_8abf5_1 : decode cJ4_length_8abf5 1 = .ok (.invokespecial 343, 3) := by decide +kernel
theorem dJ4_length_8abf5_4 : decode cJ4_length_8abf5 4 = .ok (.ireturn, 1) := by decide +kernel
theorem q4_73 : (Jvm.Cond.methodLink "java/lang/StringBuilder" (343 : Nat) ({ cls := "java/lang/AbstractStringBuilder", name := "length", desc := "()I" } : Jvm.MethodName)) ∈ lw_g := zg_of (zin4 (List.mem_of_getElem? (i := 73) rfl)) rfl
theorem q4_68 : (Jvm.Cond.instanceMethod ({ cls := "java/lang/AbstractStringBuilder", name := "length", desc := "()I" } : Jvm.MethodName)) ∈ lw_g := zg_of (zin4 (List.mem_of_getElem? (i := 68) rfl)) rfl
theorem q4_69 : (Jvm.Cond.sameMethod "java/lang/AbstractStringBuilder" "java/lang/AbstractStringBuilder" "length" "()I") ∈ lw_g := zg_of (zin4 (List.mem_of_getElem? (i := 69) rfl)) rfl
theorem q4_72 : (Jvm.Cond.code ({ cls := "java/lang/StringBuilder", name := "length", desc := "()I" } : Jvm.MethodName) prog_24_method_93_code (1 : Nat) (Option.some Jvm.ClassFile.FieldType.int)) ∈ lw_g := zg_of (zin4 (List.mem_of_getElem? (i := 72) rfl)) rfl
theorem ok_J4_length_8abf5 : zOK yJ4_length_8abf5 cJ4_length_8abf5 1 ((Option.some Jvm.ClassFile.FieldType.int)) 0 := ⟨q4_72, q1_26, by decide, by decide, by decide +kernel⟩
set_option maxHeartbeats 4000000 in
set_option maxRecDepth 100000 in
theorem c_bLn (l : Launch) (G : zG) (q v n cap : Nat) : Met l yJ4_length_8abf5 (wq yJ4_length_8abf5 cJ4_length_8abf5 1 ((Option.some Jvm.ClassFile.FieldType.int))) (rmM 1 20 0 0) (va_Pc [.ref (q)] (zK G (hSB G q v n cap))) (zM (fun _ => False) (some (.int ((zI ((n : Int)))))) (fun _ => True)) 0 0 (fun _ => False) := by
  refine z_enterMI (by decide +kernel) (Nat.le_of_ble_eq_true rfl) ?_
  intro p env s m below meth cod Q S hG hP hS ret ls hl
  have hl : lv_has ls 1 [(0, .ref (q))] := hl
  have hQ := hP.1
  refine z_aload_n S dJ4_length_8abf5_0 hl 0 rfl rfl ?_
  refine z_callSU S hG hS (c_sLn l G q v n cap) (fun _ h => h) ok_J5_length_8abf5 q4_68 q4_69 q3_161 (by decide) hQ zc_J4 q4_73 (hP) ⟨rfl, rfl, by decide, by decide⟩ ⟨Nat.le_of_ble_eq_true rfl, Nat.le_of_ble_eq_true rfl⟩ rfl (Nat.le_of_ble_eq_true rfl) hl.1 rfl dJ4_length_8abf5_1 (fun H_1 L_1 hB hz oq hS => ?_)
  exact ret _ _ _ _ _ _ _ dJ4_length_8abf5_4 (rfl) hS (trivial) (Nat.le_of_ble_eq_true rfl) (Nat.le_of_ble_eq_true rfl)
theorem dJ7_checkLength_df160_0 : decode cJ7_checkLength_df160 0 = .ok (.iload_n 1, 1) := by decide +kernel
theorem dJ7_checkLength_df160_1 : decode cJ7_checkLength_df160 1 = .ok (.iload_n 0, 1) := by decide +kernel
theorem dJ7_checkLength_df160_2 : decode cJ7_checkLength_df160 2 = .ok (.if_icmp .ge 35, 3) := by decide +kernel
theorem dJ7_checkLength_df160_5 : decode cJ7_checkLength_df160 5 = .ok (.new 43, 3) := by decide +kernel
theorem dJ7_checkLength_df160_8 : decode cJ7_checkLength_df160 8 = .ok (.dup, 1) := by decide +kernel
theorem dJ7_checkLength_df160_9 : decode cJ7_checkLength_df160 9 = .ok (.new 45, 3) := by decide +kernel
theorem dJ7_checkLength_df160_12 : decode cJ7_checkLength_df160 12 = .ok (.dup, 1) := by decide +kernel
theorem dJ7_checkLength_df160_13 : decode cJ7_checkLength_df160 13 = .ok (.invokespecial 47, 3) := by decide +kernel
theorem dJ7_checkLength_df160_16 : decode cJ7_checkLength_df160 16 = .ok (.iload_n 0, 1) := by decide +kernel
theorem dJ7_checkLength_df160_17 : decode cJ7_checkLength_df160 17 = .ok (.invokevirtual 54, 3) := by decide +kernel
theorem dJ7_checkLength_df160_20 : decode cJ7_checkLength_df160 20 = .ok (.ldc_w 337, 3) := by decide +kernel
theorem dJ7_checkLength_df160_23 : decode cJ7_checkLength_df160 23 = .ok (.invokevirtual 50, 3) := by decide +kernel
theorem dJ7_checkLength_df160_26 : decode cJ7_checkLength_df160 26 = .ok (.iload_n 1, 1) := by decide +kernel
theorem dJ7_checkLength_df160_27 : decode cJ7_checkLength_df160 27 = .ok (.invokevirtual 54, 3) := by decide +kernel
theorem dJ7_checkLength_df160_30 : decode cJ7_checkLength_df160 30 = .ok (.invokevirtual 61, 3) := by decide +kernel
theorem dJ7_checkLength_df160_33 : decode cJ7_checkLength_df160 33 = .ok (.invokespecial 65, 3) := by decide +kernel
theorem dJ7_checkLength_df160_36 : decode cJ7_checkLength_df160 36 = .ok (.athrow, 1) := by decide +kernel
theorem dJ7_checkLength_df160_37 : decode cJ7_checkLength_df160 37 = .ok (.return_, 1) := by decide +kernel
theorem q4_84 : (Jvm.Cond.code ({ cls := "java/util/Arrays", name := "checkLength", desc := "(II)V" } : Jvm.MethodName) prog_35_method_131_code (2 : Nat) (Option.none : Option Jvm.ClassFile.FieldType)) ∈ lw_g := zg_of (zin4 (List.mem_of_getElem? (i := 84) rfl)) rfl
theorem q4_83 : (Jvm.Cond.static ({ cls := "java/util/Arrays", name := "checkLength", desc := "(II)V" } : Jvm.MethodName)) ∈ lw_g := zg_of (zin4 (List.mem_of_getElem? (i := 83) rfl)) rfl
theorem ok_J7_checkLength_df160 : zOS yJ7_checkLength_df160 cJ7_checkLength_df160 2 ((Option.none : Option Jvm.ClassFile.FieldType)) 2 := ⟨⟨q4_84, q1_19, by decide, by decide, by decide +kernel⟩, q4_83⟩
set_option maxHeartbeats 4000000 in
set_option maxRecDepth 100000 in
theorem c_sCl (l : Launch) (G : zG) (n sz : Nat) (hn : n ≤ 34) : Met l yJ7_checkLength_df160 (wq yJ7_checkLength_df160 cJ7_checkLength_df160 2 ((Option.none : Option Jvm.ClassFile.FieldType))) (rmM 0 0 0 0) (va_Pc [.int (zI (0)), .int (zI ((n : Int)))] (zK G (fun H => H.size = sz))) (zM (fun _ => False) none (fun H => H.size = sz)) 0 0 (fun _ => False) := by
  refine z_enterMV (by decide +kernel) (Nat.le_of_ble_eq_true rfl) ?_
  intro p env s m below meth cod Q S hnm hG hP hS ret ls hl
  have hl : lv_has ls 2 [(0, .int (zI (0))), (1, .int (zI ((n : Int))))] := hl
  refine z_iload_n S dJ7_checkLength_df160_0 hl 1 rfl rfl ?_
  refine z_iload_n S dJ7_checkLength_df160_1 hl 0 rfl rfl ?_
  refine z_icmp_ge_T S 37 dJ7_checkLength_df160_2 (by decide) (by omega) (by omega) (by omega) ?_
  exact ret _ _ _ _ _ _ dJ7_checkLength_df160_37 hS (hP) (Nat.le_of_ble_eq_true rfl) (Nat.le_of_ble_eq_true rfl)
theorem dJ7_copyOfRangeByte_39247_0 : decode cJ7_copyOfRangeByte_39247 0 = .ok (.iload_n 1, 1) := by decide +kernel
theorem dJ7_copyOfRangeByte_39247_1 : decode cJ7_copyOfRangeByte_39247 1 = .ok (.iload_n 2, 1) := by decide +kernel
theorem dJ7_copyOfRangeByte_39247_2 : decode cJ7_copyOfRangeByte_39247 2 = .ok (.invokestatic 343, 3) := by decide +kernel
theorem dJ7_copyOfRangeByte_39247_5 : decode cJ7_copyOfRangeByte_39247 5 = .ok (.iload_n 2, 1) := by decide +kernel
theorem dJ7_copyOfRangeByte_39247_6 : decode cJ7_copyOfRangeByte_39247 6 = .ok (.iload_n 1, 1) := by decide +kernel
theorem dJ7_copyOfRangeByte_39247_7 : decode cJ7_copyOfRangeByte_39247 7 = .ok (.isub, 1) := by decide +kernel
theorem dJ7_copyOfRangeByte_39247_8 : decode cJ7_copyOfRangeByte_39247 8 = .ok (.istore_n 3, 1) := by decide +kernel
theorem dJ7_copyOfRangeByte_39247_9 : decode cJ7_copyOfRangeByte_39247 9 = .ok (.iload_n 3, 1) := by decide +kernel
theorem dJ7_copyOfRangeByte_39247_10 : decode cJ7_copyOfRangeByte_39247 10 = .ok (.newarray .byte, 2) := by decide +kernel
theorem dJ7_copyOfRangeByte_39247_12 : decode cJ7_copyOfRangeByte_39247 12 = .ok (.astore 4, 2) := by decide +kernel
theorem dJ7_copyOfRangeByte_39247_14 : decode cJ7_copyOfRangeByte_39247 14 = .ok (.aload_n 0, 1) := by decide +kernel
theorem dJ7_copyOfRangeByte_39247_15 : decode cJ7_copyOfRangeByte_39247 15 = .ok (.iload_n 1, 1) := by decide +kernel
theorem dJ7_copyOfRangeByte_39247_16 : decode cJ7_copyOfRangeByte_39247 16 = .ok (.aload 4, 2) := by decide +kernel
theorem dJ7_copyOfRangeByte_39247_18 : decode cJ7_copyOfRangeByte_39247 18 = .ok (.iconst 0, 1) := by decide +kernel
theorem dJ7_copyOfRangeByte_39247_19 : decode cJ7_copyOfRangeByte_39247 19 = .ok (.aload_n 0, 1) := by decide +kernel
theorem dJ7_copyOfRangeByte_39247_20 : decode cJ7_copyOfRangeByte_39247 20 = .ok (.arraylength, 1) := by decide +kernel
theorem dJ7_copyOfRangeByte_39247_21 : decode cJ7_copyOfRangeByte_39247 21 = .ok (.iload_n 1, 1) := by decide +kernel
theorem dJ7_copyOfRangeByte_39247_22 : decode cJ7_copyOfRangeByte_39247 22 = .ok (.isub, 1) := by decide +kernel
theorem dJ7_copyOfRangeByte_39247_23 : decode cJ7_copyOfRangeByte_39247 23 = .ok (.iload_n 3, 1) := by decide +kernel
theorem dJ7_copyOfRangeByte_39247_24 : decode cJ7_copyOfRangeByte_39247 24 = .ok (.invokestatic 304, 3) := by decide +kernel
theorem dJ7_copyOfRangeByte_39247_27 : decode cJ7_copyOfRangeByte_39247 27 = .ok (.invokestatic 150, 3) := by decide +kernel
theorem dJ7_copyOfRangeByte_39247_30 : decode cJ7_copyOfRangeByte_39247 30 = .ok (.aload 4, 2) := by decide +kernel
theorem dJ7_copyOfRangeByte_39247_32 : decode cJ7_copyOfRangeByte_39247 32 = .ok (.areturn, 1) := by decide +kernel
theorem q4_82 : (Jvm.Cond.methodLink "java/util/Arrays" (343 : Nat) ({ cls := "java/util/Arrays", name := "checkLength", desc := "(II)V" } : Jvm.MethodName)) ∈ lw_g := zg_of (zin4 (List.mem_of_getElem? (i := 82) rfl)) rfl
theorem q4_81 : (Jvm.Cond.code ({ cls := "java/util/Arrays", name := "copyOfRangeByte", desc := "([BII)[B" } : Jvm.MethodName) prog_35_method_133_code (5 : Nat) (Option.some (Jvm.ClassFile.FieldType.array Jvm.ClassFile.FieldType.byte))) ∈ lw_g := zg_of (zin4 (List.mem_of_getElem? (i := 81) rfl)) rfl
theorem q4_80 : (Jvm.Cond.static ({ cls := "java/util/Arrays", name := "copyOfRangeByte", desc := "([BII)[B" } : Jvm.MethodName)) ∈ lw_g := zg_of (zin4 (List.mem_of_getElem? (i := 80) rfl)) rfl
theorem ok_J7_copyOfRangeByte_39247 : zOS yJ7_copyOfRangeByte_39247 cJ7_copyOfRangeByte_39247 5 ((Option.some (Jvm.ClassFile.FieldType.array Jvm.ClassFile.FieldType.byte))) 3 := ⟨⟨q4_81, q1_19, by decide, by decide, by decide +kernel⟩, q4_80⟩
set_option maxHeartbeats 4000000 in
set_option maxRecDepth 100000 in
theorem c_sCrb (l : Launch) (G : zG) (v cap n sz : Nat) (hn : n ≤ cap ∧ cap ≤ 34) : Met l yJ7_copyOfRangeByte_39247 (wq yJ7_copyOfRangeByte_39247 cJ7_copyOfRangeByte_39247 5 ((Option.some (Jvm.ClassFile.FieldType.array Jvm.ClassFile.FieldType.byte)))) (rmM 1 40 1 34) (va_Pc [.ref (v), .int (zI (0)), .int (zI ((n : Int)))] (zK G (fun H => zBy (G.2 3) v cap H ∧ H.size = sz))) (zM (fun y => sz ≤ y) (some (.ref (sz))) (fun H => zBy (G.2 3) sz n H)) 1 34 (fun y => sz ≤ y) := by
  refine z_enterMR (by decide +kernel) (Nat.le_of_ble_eq_true rfl) ?_
  intro p env s m below meth cod Q S hG hP hS ret ls hl
  have hl : lv_has ls 5 [(0, .ref (v)), (1, .int (zI (0))), (2, .int (zI ((n : Int))))] := hl
  obtain ⟨hV, hz0⟩ := hP
  refine z_iload_n S dJ7_copyOfRangeByte_39247_0 hl 1 rfl rfl ?_
  refine z_iload_n S dJ7_copyOfRangeByte_39247_1 hl 2 rfl rfl ?_
  refine z_callSM S hG hS (c_sCl l G n sz (by omega)) (fun _ h => h.elim) ok_J7_checkLength_df160 q4_82 (hz0) ⟨rfl, rfl, by decide, by decide⟩ ⟨Nat.le_of_ble_eq_true rfl, Nat.le_of_ble_eq_true rfl⟩ rfl (Nat.le_of_ble_eq_true rfl) hl.1 rfl dJ7_copyOfRangeByte_39247_2 (fun H_1 L_1 hB hz oq hS => ?_)
  have hV := zBy.kept hV (fun _ => oq _ (zBy.lt hV) (fun h => h))
  have hz0 := hB
  refine z_iload_n S dJ7_copyOfRangeByte_39247_5 hl 2 rfl rfl ?_
  refine z_iload_n S dJ7_copyOfRangeByte_39247_6 hl 1 rfl rfl ?_
  refine z_isub S dJ7_copyOfRangeByte_39247_7 ?_
  rw [show ((n : Int)) - (0) = (n : Int) from by omega]
  refine z_istore_n (lv' := [(3, .int (zI ((n : Int)))), (0, .ref (v)), (1, .int (zI (0))), (2, .int (zI ((n : Int))))]) S dJ7_copyOfRangeByte_39247_8 hl rfl (by decide) rfl (fun ls hl => ?_)
  refine z_iload_n S dJ7_copyOfRangeByte_39247_9 hl 0 rfl rfl ?_
  refine z_newB (N := n) S hG (by omega) q_arrB hS ⟨by decide, by show 0 + n ≤ 34; omega⟩ dJ7_copyOfRangeByte_39247_10 (fun n1 H_2 hq_n1 hat hz oq hS => ?_)
  have lt_hV_n1 : n1 > v := by rw [hq_n1]; exact zBy.lt hV
  have hV := zBy.kept hV (fun _ => oq _ (zBy.lt hV))
  have h_n1 := hat
  refine z_astore (lv' := [(4, .ref (n1)), (3, .int (zI ((n : Int)))), (0, .ref (v)), (1, .int (zI (0))), (2, .int (zI ((n : Int))))]) S dJ7_copyOfRangeByte_39247_12 hl (by decide) rfl (fun ls hl => ?_)
  refine z_aload_n S dJ7_copyOfRangeByte_39247_14 hl 2 rfl rfl ?_
  refine z_iload_n S dJ7_copyOfRangeByte_39247_15 hl 3 rfl rfl ?_
  refine z_aload S dJ7_copyOfRangeByte_39247_16 hl 0 rfl ?_
  refine z_iconst S dJ7_copyOfRangeByte_39247_18 ?_
  refine z_aload_n S dJ7_copyOfRangeByte_39247_19 hl 2 rfl rfl ?_
  refine z_blen S (zG_by hG) hV dJ7_copyOfRangeByte_39247_20 ?_
  refine z_iload_n S dJ7_copyOfRangeByte_39247_21 hl 3 rfl rfl ?_
  refine z_isub S dJ7_copyOfRangeByte_39247_22 ?_
  refine z_iload_n S dJ7_copyOfRangeByte_39247_23 hl 1 rfl rfl ?_
  refine z_min S (by omega) (by omega) q3_196 q3_197 q1_18 (by exact q3_198) (by decide) (Nat.le_of_ble_eq_true rfl) ⟨(by show _ ≤ (1 : Nat); omega), (by show _ ≤ (34 : Nat); omega)⟩ hl.1 dJ7_copyOfRangeByte_39247_24 ?_
  rw [show (if (n : Int) < ((cap : Int)) - (0) then (n : Int) else ((cap : Int)) - (0)) = (n : Int) from by split <;> omega]
  refine z_copyBy S hG (zBy.w hV) h_n1 hS (by show sz ≤ n1; omega) (dp := 0) (n := (n : Int)) (by omega) (by omega) q3_199 ⟨q3_201, q3_200, q1_20⟩ hl.1 (by decide) (Nat.le_of_ble_eq_true rfl) dJ7_copyOfRangeByte_39247_27 (fun H_3 L_3 hat hz oq hS => ?_)
  have hV := zBy.kept hV (fun _ => oq _ (show n1 ≠ v by omega).symm)
  have h_n1 := hat
  refine z_aload S dJ7_copyOfRangeByte_39247_30 hl 0 rfl ?_
  obtain rfl : n1 = sz := by omega
  exact ret _ _ _ _ _ _ dJ7_copyOfRangeByte_39247_32 hS (h_n1) (Nat.le_of_ble_eq_true rfl) (by omega)
theorem dJ7_copyOfRange_39247_0 : decode cJ7_copyOfRange_39247 0 = .ok (.iload_n 1, 1) := by decide +kernel
theorem dJ7_copyOfRange_39247_1 : decode cJ7_copyOfRange_39247 1 = .ok (.ifCond .ne 9, 3) := by decide +kernel
theorem dJ7_copyOfRange_39247_4 : decode cJ7_copyOfRange_39247 4 = .ok (.iload_n 2, 1) := by decide +kernel
theorem dJ7_copyOfRange_39247_5 : decode cJ7_copyOfRange_39247 5 = .ok (.aload_n 0, 1) := by decide +kernel
theorem dJ7_copyOfRange_39247_6 : decode cJ7_copyOfRange_39247 6 = .ok (.arraylength, 1) := by decide +kernel
theorem dJ7_copyOfRange_39247_7 : decode cJ7_copyOfRange_39247 7 = .ok (.if_icmp .eq 10, 3) := by decide +kernel
theorem dJ7_copyOfRange_39247_10 : decode cJ7_copyOfRange_39247 10 = .ok (.aload_n 0, 1) := by decide +kernel
theorem dJ7_copyOfRange_39247_11 : decode cJ7_copyOfRange_39247 11 = .ok (.iload_n 1, 1) := by decide +kernel
theorem dJ7_copyOfRange_39247_12 : decode cJ7_copyOfRange_39247 12 = .ok (.iload_n 2, 1) := by decide +kernel
theorem dJ7_copyOfRange_39247_13 : decode cJ7_copyOfRange_39247 13 = .ok (.invokestatic 339, 3) := by decide +kernel
theorem dJ7_copyOfRange_39247_16 : decode cJ7_copyOfRange_39247 16 = .ok (.areturn, 1) := by decide +kernel
theorem dJ7_copyOfRange_39247_17 : decode cJ7_copyOfRange_39247 17 = .ok (.aload_n 0, 1) := by decide +kernel
theorem dJ7_copyOfRange_39247_18 : decode cJ7_copyOfRange_39247 18 = .ok (.invokevirtual 310, 3) := by decide +kernel
theorem dJ7_copyOfRange_39247_21 : decode cJ7_copyOfRange_39247 21 = .ok (.checkcast 311, 3) := by decide +kernel
theorem dJ7_copyOfRange_39247_24 : decode cJ7_copyOfRange_39247 24 = .ok (.areturn, 1) := by decide +kernel
theorem q3_189 : (Jvm.Cond.methodLink "java/util/Arrays" (310 : Nat) ({ cls := "[B", name := "clone", desc := "()Ljava/lang/Object;" } : Jvm.MethodName)) ∈ lw_g := zg_of (zin3 (List.mem_of_getElem? (i := 189) rfl)) rfl
theorem q3_190 : (Jvm.Cond.sameMethod "[B" "java/lang/Object" "clone" "()Ljava/lang/Object;") ∈ lw_g := zg_of (zin3 (List.mem_of_getElem? (i := 190) rfl)) rfl
theorem q3_191 : (Jvm.Cond.native ({ cls := "java/lang/Object", name := "clone", desc := "()Ljava/lang/Object;" } : Jvm.MethodName)) ∈ lw_g := zg_of (zin3 (List.mem_of_getElem? (i := 191) rfl)) rfl
theorem q3_192 : (Jvm.Cond.instanceMethod ({ cls := "java/lang/Object", name := "clone", desc := "()Ljava/lang/Object;" } : Jvm.MethodName)) ∈ lw_g := zg_of (zin3 (List.mem_of_getElem? (i := 192) rfl)) rfl
theorem q3_193 : (Jvm.Cond.selects "[B" ({ cls := "[B", name := "clone", desc := "()Ljava/lang/Object;" } : Jvm.MethodName) ({ cls := "java/lang/Object", name := "clone", desc := "()Ljava/lang/Object;" } : Jvm.MethodName)) ∈ lw_g := zg_of (zin3 (List.mem_of_getElem? (i := 193) rfl)) rfl
theorem qt3_194 : (Jvm.Cond.castable "[B" "java/lang/Cloneable") ∈ lw_tbl := zin3 (List.mem_of_getElem? (i := 194) rfl)
theorem q3_195 : (Jvm.Cond.classLink "java/util/Arrays" (311 : Nat) "[B") ∈ lw_g := zg_of (zin3 (List.mem_of_getElem? (i := 195) rfl)) rfl
theorem q4_79 : (Jvm.Cond.methodLink "java/util/Arrays" (339 : Nat) ({ cls := "java/util/Arrays", name := "copyOfRangeByte", desc := "([BII)[B" } : Jvm.MethodName)) ∈ lw_g := zg_of (zin4 (List.mem_of_getElem? (i := 79) rfl)) rfl
theorem q4_78 : (Jvm.Cond.code ({ cls := "java/util/Arrays", name := "copyOfRange", desc := "([BII)[B" } : Jvm.MethodName) prog_35_method_132_code (3 : Nat) (Option.some (Jvm.ClassFile.FieldType.array Jvm.ClassFile.FieldType.byte))) ∈ lw_g := zg_of (zin4 (List.mem_of_getElem? (i := 78) rfl)) rfl
theorem q4_77 : (Jvm.Cond.static ({ cls := "java/util/Arrays", name := "copyOfRange", desc := "([BII)[B" } : Jvm.MethodName)) ∈ lw_g := zg_of (zin4 (List.mem_of_getElem? (i := 77) rfl)) rfl
theorem ok_J7_copyOfRange_39247 : zOS yJ7_copyOfRange_39247 cJ7_copyOfRange_39247 3 ((Option.some (Jvm.ClassFile.FieldType.array Jvm.ClassFile.FieldType.byte))) 3 := ⟨⟨q4_78, q1_19, by decide, by decide, by decide +kernel⟩, q4_77⟩
set_option maxHeartbeats 4000000 in
set_option maxRecDepth 100000 in
theorem c_sCr (l : Launch) (G : zG) (v cap n sz : Nat) (hn : n ≤ cap ∧ cap ≤ 34) : Met l yJ7_copyOfRange_39247 (wq yJ7_copyOfRange_39247 cJ7_copyOfRange_39247 3 ((Option.some (Jvm.ClassFile.FieldType.array Jvm.ClassFile.FieldType.byte)))) (rmM 2 64 1 34) (va_Pc [.ref (v), .int (zI (0)), .int (zI ((n : Int)))] (zK G (fun H => zBy (G.2 3) v cap H ∧ H.size = sz))) (zM (fun y => sz ≤ y) (some (.ref (sz))) (fun H => zBy (G.2 3) sz n H)) 1 34 (fun y => sz ≤ y) := by
  refine z_enterMR (by decide +kernel) (Nat.le_of_ble_eq_true rfl) ?_
  intro p env s m below meth cod Q S hG hP hS ret ls hl
  have hl : lv_has ls 3 [(0, .ref (v)), (1, .int (zI (0))), (2, .int (zI ((n : Int))))] := hl
  obtain ⟨hV, hz0⟩ := hP
  by_cases he : n = cap
  · skip
    refine z_iload_n S dJ7_copyOfRange_39247_0 hl 1 rfl rfl ?_
    refine z_if_ne_F S 10 dJ7_copyOfRange_39247_1 (by decide) (by omega) (by omega) ?_
    refine z_iload_n S dJ7_copyOfRange_39247_4 hl 2 rfl rfl ?_
    refine z_aload_n S dJ7_copyOfRange_39247_5 hl 0 rfl rfl ?_
    refine z_blen S (zG_by hG) hV dJ7_copyOfRange_39247_6 ?_
    refine z_icmp_eq_T S 17 dJ7_copyOfRange_39247_7 (by decide) (by omega) (by omega) (by omega) ?_
    refine z_aload_n S dJ7_copyOfRange_39247_17 hl 0 rfl rfl ?_
    refine z_cloneBy S hG hV hS q3_189 q3_190 q3_191 q3_192 q3_193 qt3_194 hl.1 (by decide) (Nat.le_of_ble_eq_true rfl) ⟨by decide, by show 0 + cap ≤ 34; omega⟩ dJ7_copyOfRange_39247_18 (fun n1 H_1 hq_n1 hat hz oq hS => ?_)
    have h_n1 := hat
    refine z_castB S hG h_n1 q3_195 dJ7_copyOfRange_39247_21 ?_
    obtain rfl : n1 = sz := by omega
    exact ret _ _ _ _ _ _ dJ7_copyOfRange_39247_24 hS (by rw [he]; exact h_n1) (Nat.le_of_ble_eq_true rfl) (by omega)
  · skip
    refine z_iload_n S dJ7_copyOfRange_39247_0 hl 1 rfl rfl ?_
    refine z_if_ne_F S 10 dJ7_copyOfRange_39247_1 (by decide) (by omega) (by omega) ?_
    refine z_iload_n S dJ7_copyOfRange_39247_4 hl 2 rfl rfl ?_
    refine z_aload_n S dJ7_copyOfRange_39247_5 hl 0 rfl rfl ?_
    refine z_blen S (zG_by hG) hV dJ7_copyOfRange_39247_6 ?_
    refine z_icmp_eq_F S 17 dJ7_copyOfRange_39247_7 (by decide) (by omega) (by omega) (by omega) ?_
    refine z_aload_n S dJ7_copyOfRange_39247_10 hl 0 rfl rfl ?_
    refine z_iload_n S dJ7_copyOfRange_39247_11 hl 1 rfl rfl ?_
    refine z_iload_n S dJ7_copyOfRange_39247_12 hl 2 rfl rfl ?_
    refine z_callSM S hG hS (c_sCrb l G v cap n sz hn) (fun _ h => h) ok_J7_copyOfRangeByte_39247 q4_79 (⟨hV, hz0⟩) ⟨rfl, rfl, by decide, by decide⟩ ⟨Nat.le_of_ble_eq_true rfl, Nat.le_of_ble_eq_true rfl⟩ rfl (Nat.le_of_ble_eq_true rfl) hl.1 rfl dJ7_copyOfRange_39247_13 (fun H_2 L_2 hB hz oq hS => ?_)
    exact ret _ _ _ _ _ _ dJ7_copyOfRange_39247_16 hS (hB) (Nat.le_of_ble_eq_true rfl) (Nat.le_of_ble_eq_true rfl)
theorem dJ0_init_db425_0 : decode cJ0_init_db425 0 = .ok (.aload_n 0, 1) := by decide +kernel
theorem dJ0_init_db425_1 : decode cJ0_init_db425 1 = .ok (.invokespecial 1, 3) := by decide +kernel
theorem dJ0_init_db425_4 : decode cJ0_init_db425 4 = .ok (.aload_n 1, 1) := by decide +kernel
theorem dJ0_init_db425_5 : decode cJ0_init_db425 5 = .ok (.invokevirtual 552, 3) := by decide +kernel
theorem dJ0_init_db425_8 : decode cJ0_init_db425 8 = .ok (.astore_n 3, 1) := by decide +kernel
theorem dJ0_init_db425_9 : decode cJ0_init_db425 9 = .ok (.aload_n 1, 1) := by decide +kernel
theorem dJ0_init_db425_10 : decode cJ0_init_db425 10 = .ok (.invokevirtual 549, 3) := by decide +kernel
theorem dJ0_init_db425_13 : decode cJ0_init_db425 13 = .ok (.istore 4, 2) := by decide +kernel
theorem dJ0_init_db425_15 : decode cJ0_init_db425 15 = .ok (.aload_n 1, 1) := by decide +kernel
theorem dJ0_init_db425_16 : decode cJ0_init_db425 16 = .ok (.invokevirtual 1047, 3) := by decide +kernel
theorem dJ0_init_db425_19 : decode cJ0_init_db425 19 = .ok (.ifCond .eq 22, 3) := by decide +kernel
theorem dJ0_init_db425_22 : decode cJ0_init_db425 22 = .ok (.aload_n 0, 1) := by decide +kernel
theorem dJ0_init_db425_23 : decode cJ0_init_db425 23 = .ok (.iconst 0, 1) := by decide +kernel
theorem dJ0_init_db425_24 : decode cJ0_init_db425 24 = .ok (.putfield 15, 3) := by decide +kernel
theorem dJ0_init_db425_27 : decode cJ0_init_db425 27 = .ok (.aload_n 0, 1) := by decide +kernel
theorem dJ0_init_db425_28 : decode cJ0_init_db425 28 = .ok (.aload_n 3, 1) := by decide +kernel
theorem dJ0_init_db425_29 : decode cJ0_init_db425 29 = .ok (.iconst 0, 1) := by decide +kernel
theorem dJ0_init_db425_30 : decode cJ0_init_db425 30 = .ok (.iload 4, 2) := by decide +kernel
theorem dJ0_init_db425_32 : decode cJ0_init_db425 32 = .ok (.invokestatic 54, 3) := by decide +kernel
theorem dJ0_init_db425_35 : decode cJ0_init_db425 35 = .ok (.putfield 9, 3) := by decide +kernel
theorem dJ0_init_db425_38 : decode cJ0_init_db425 38 = .ok (.goto 59, 3) := by decide +kernel
theorem dJ0_init_db425_41 : decode cJ0_init_db425 41 = .ok (.getstatic 38, 3) := by decide +kernel
theorem dJ0_init_db425_44 : decode cJ0_init_db425 44 = .ok (.ifCond .eq 35, 3) := by decide +kernel
theorem dJ0_init_db425_47 : decode cJ0_init_db425 47 = .ok (.aload_n 1, 1) := by decide +kernel
theorem dJ0_init_db425_48 : decode cJ0_init_db425 48 = .ok (.getfield 1048, 3) := by decide +kernel
theorem dJ0_init_db425_51 : decode cJ0_init_db425 51 = .ok (.ifCond .eq 28, 3) := by decide +kernel
theorem dJ0_init_db425_54 : decode cJ0_init_db425 54 = .ok (.aload_n 0, 1) := by decide +kernel
theorem dJ0_init_db425_55 : decode cJ0_init_db425 55 = .ok (.aload_n 3, 1) := by decide +kernel
theorem dJ0_init_db425_56 : decode cJ0_init_db425 56 = .ok (.iconst 0, 1) := by decide +kernel
theorem dJ0_init_db425_57 : decode cJ0_init_db425 57 = .ok (.iload 4, 2) := by decide +kernel
theorem dJ0_init_db425_59 : decode cJ0_init_db425 59 = .ok (.invokestatic 1051, 3) := by decide +kernel
theorem dJ0_init_db425_62 : decode cJ0_init_db425 62 = .ok (.putfield 9, 3) := by decide +kernel
theorem dJ0_init_db425_65 : decode cJ0_init_db425 65 = .ok (.aload_n 0, 1) := by decide +kernel
theorem dJ0_init_db425_66 : decode cJ0_init_db425 66 = .ok (.aload_n 0, 1) := by decide +kernel
theorem dJ0_init_db425_67 : decode cJ0_init_db425 67 = .ok (.getfield 9, 3) := by decide +kernel
theorem dJ0_init_db425_70 : decode cJ0_init_db425 70 = .ok (.iload 4, 2) := by decide +kernel
theorem dJ0_init_db425_72 : decode cJ0_init_db425 72 = .ok (.invokestatic 47, 3) := by decide +kernel
theorem dJ0_init_db425_75 : decode cJ0_init_db425 75 = .ok (.putfield 15, 3) := by decide +kernel
theorem dJ0_init_db425_78 : decode cJ0_init_db425 78 = .ok (.return_, 1) := by decide +kernel
theorem dJ0_init_db425_79 : decode cJ0_init_db425 79 = .ok (.aload_n 0, 1) := by decide +kernel
theorem dJ0_init_db425_80 : decode cJ0_init_db425 80 = .ok (.iconst 1, 1) := by decide +kernel
theorem dJ0_init_db425_81 : decode cJ0_init_db425 81 = .ok (.putfield 15, 3) := by decide +kernel
theorem dJ0_init_db425_84 : decode cJ0_init_db425 84 = .ok (.aload_n 0, 1) := by decide +kernel
theorem dJ0_init_db425_85 : decode cJ0_init_db425 85 = .ok (.aload_n 3, 1) := by decide +kernel
theorem dJ0_init_db425_86 : decode cJ0_init_db425 86 = .ok (.iconst 0, 1) := by decide +kernel
theorem dJ0_init_db425_87 : decode cJ0_init_db425 87 = .ok (.iload 4, 2) := by decide +kernel
theorem dJ0_init_db425_89 : decode cJ0_init_db425 89 = .ok (.iconst 1, 1) := by decide +kernel
theorem dJ0_init_db425_90 : decode cJ0_init_db425 90 = .ok (.ishl, 1) := by decide +kernel
theorem dJ0_init_db425_91 : decode cJ0_init_db425 91 = .ok (.invokestatic 54, 3) := by decide +kernel
theorem dJ0_init_db425_94 : decode cJ0_init_db425 94 = .ok (.putfield 9, 3) := by decide +kernel
theorem dJ0_init_db425_97 : decode cJ0_init_db425 97 = .ok (.return_, 1) := by decide +kernel
theorem q4_61 : (Jvm.Cond.methodLink "java/lang/String" (1 : Nat) ({ cls := "java/lang/Object", name := "<init>", desc := "()V" } : Jvm.MethodName)) ∈ lw_g := zg_of (zin4 (List.mem_of_getElem? (i := 61) rfl)) rfl
theorem q4_62 : (Jvm.Cond.methodLink "java/lang/String" (552 : Nat) ({ cls := "java/lang/AbstractStringBuilder", name := "getValue", desc := "()[B" } : Jvm.MethodName)) ∈ lw_g := zg_of (zin4 (List.mem_of_getElem? (i := 62) rfl)) rfl
theorem q4_63 : (Jvm.Cond.instanceMethod ({ cls := "java/lang/AbstractStringBuilder", name := "getValue", desc := "()[B" } : Jvm.MethodName)) ∈ lw_g := zg_of (zin4 (List.mem_of_getElem? (i := 63) rfl)) rfl
theorem q4_65 : (Jvm.Cond.selects "java/lang/StringBuilder" ({ cls := "java/lang/AbstractStringBuilder", name := "getValue", desc := "()[B" } : Jvm.MethodName) ({ cls := "java/lang/AbstractStringBuilder", name := "getValue", desc := "()[B" } : Jvm.MethodName)) ∈ lw_g := zg_of (zin4 (List.mem_of_getElem? (i := 65) rfl)) rfl
theorem q4_67 : (Jvm.Cond.methodLink "java/lang/String" (549 : Nat) ({ cls := "java/lang/AbstractStringBuilder", name := "length", desc := "()I" } : Jvm.MethodName)) ∈ lw_g := zg_of (zin4 (List.mem_of_getElem? (i := 67) rfl)) rfl
theorem q4_71 : (Jvm.Cond.instanceMethod ({ cls := "java/lang/StringBuilder", name := "length", desc := "()I" } : Jvm.MethodName)) ∈ lw_g := zg_of (zin4 (List.mem_of_getElem? (i := 71) rfl)) rfl
theorem q4_70 : (Jvm.Cond.selects "java/lang/StringBuilder" ({ cls := "java/lang/AbstractStringBuilder", name := "length", desc := "()I" } : Jvm.MethodName) ({ cls := "java/lang/StringBuilder", name := "length", desc := "()I" } : Jvm.MethodName)) ∈ lw_g := zg_of (zin4 (List.mem_of_getElem? (i := 70) rfl)) rfl
theorem q4_75 : (Jvm.Cond.methodLink "java/lang/String" (1047 : Nat) ({ cls := "java/lang/AbstractStringBuilder", name := "isLatin1", desc := "()Z" } : Jvm.MethodName)) ∈ lw_g := zg_of (zin4 (List.mem_of_getElem? (i := 75) rfl)) rfl
theorem q4_76 : (Jvm.Cond.methodLink "java/lang/String" (54 : Nat) ({ cls := "java/util/Arrays", name := "copyOfRange", desc := "([BII)[B" } : Jvm.MethodName)) ∈ lw_g := zg_of (zin4 (List.mem_of_getElem? (i := 76) rfl)) rfl
theorem q4_60 : (Jvm.Cond.code ({ cls := "java/lang/String", name := "<init>", desc := "(Ljava/lang/AbstractStringBuilder;Ljava/lang/Void;)V" } : Jvm.MethodName) prog_23_method_150_code (5 : Nat) (Option.none : Option Jvm.ClassFile.FieldType)) ∈ lw_g := zg_of (zin4 (List.mem_of_getElem? (i := 60) rfl)) rfl
theorem ok_J0_init_db425 : zOK yJ0_init_db425 cJ0_init_db425 5 ((Option.none : Option Jvm.ClassFile.FieldType)) 2 := ⟨q4_60, q1_27, by decide, by decide, by decide +kernel⟩
set_option maxHeartbeats 4000000 in
set_option maxRecDepth 100000 in
theorem c_sIni2 (l : Launch) (G : zG) (t q v n cap sz : Nat) (ht9 : t ≥ G.2 99) (htq : t ≠ q ∧ t ≠ v) (hn : n ≤ cap ∧ cap ≤ 34) : Met l yJ0_init_db425 (wq yJ0_init_db425 cJ0_init_db425 5 ((Option.none : Option Jvm.ClassFile.FieldType))) (rmM 3 86 1 34) (va_Pc [.ref (t), .ref (q), .null] (zK G (fun H => va_at G.1 vwCl (t, .inr (0, [.null, .int 0, .int 0, .int 0])) H ∧ hSB G q v n cap H ∧ zTx G H ∧ H.size = sz))) (zM (fun y => y = t ∨ sz ≤ y) none (fun _ => True)) 1 34 (fun y => y = t ∨ sz ≤ y) := by
  refine z_enterMV (by decide +kernel) (Nat.le_of_ble_eq_true rfl) ?_
  intro p env s m below meth cod Q S hnm hG hP hS ret ls hl
  have hl : lv_has ls 5 [(0, .ref (t)), (1, .ref (q)), (2, .null)] := hl
  obtain ⟨hO, ⟨hQ, hV, hne⟩, hT, hz0⟩ := hP
  have hos := va_lt hO
  have hqs := va_lt hQ
  have hvs := hV.lt
  refine z_aload_n S dJ0_init_db425_0 hl 0 rfl rfl ?_
  refine z_objInit S hl.1 q4_61 q1_36 (by exact q1_37) dJ0_init_db425_1 (Nat.le_of_ble_eq_true rfl) (Nat.le_of_ble_eq_true rfl) ?_
  refine z_aload_n S dJ0_init_db425_4 hl 1 rfl rfl ?_
  refine z_callQ S hG hS (c_sGv l G q v n cap) (fun _ h => h.elim) ok_J5_getValue_6d5f1 q4_63 (S.2.2.2.2 _ q4_65) (z_rcv hG hQ zc_J4) q4_62 (⟨hQ, hV, hne⟩) ⟨rfl, rfl, by decide, by decide⟩ ⟨Nat.le_of_ble_eq_true rfl, Nat.le_of_ble_eq_true rfl⟩ rfl (Nat.le_of_ble_eq_true rfl) hl.1 rfl dJ0_init_db425_5 (fun H_1 L_1 hB hz oq hS => ?_)
  have hO := va_at.kept hO (oq _ (va_lt hO) (fun h => h))
  have hQ := va_at.kept hQ (oq _ (va_lt hQ) (fun h => h))
  have hV := zBy.kept hV (fun _ => oq _ (zBy.lt hV) (fun h => h))
  have hT := zTx.kept hT (fun y hx h9 => oq y hx (fun h => h))
  refine z_astore_n (lv' := [(3, .ref (v)), (0, .ref (t)), (1, .ref (q)), (2, .null)]) S dJ0_init_db425_8 hl rfl (by decide) rfl (fun ls hl => ?_)
  refine z_aload_n S dJ0_init_db425_9 hl 2 rfl rfl ?_
  refine z_callO S hG hS (x := ⟨"java/lang/AbstractStringBuilder", "length", "()I"⟩) (c_bLn l G q v n cap) (fun _ h => h.elim) ok_J4_length_8abf5 q4_71 q4_70 q4_69 q4_68 q4_74 ⟨by decide, by decide, by decide +kernel⟩ (z_rcv hG hQ zc_J4) q4_67 (⟨hQ, hV, hne⟩) ⟨rfl, rfl, by decide, by decide⟩ ⟨Nat.le_of_ble_eq_true rfl, Nat.le_of_ble_eq_true rfl⟩ rfl (Nat.le_of_ble_eq_true rfl) hl.1 rfl dJ0_init_db425_10 (fun H_2 L_2 hB hz oq hS => ?_)
  have hO := va_at.kept hO (oq _ (va_lt hO) (fun h => h))
  have hQ := va_at.kept hQ (oq _ (va_lt hQ) (fun h => h))
  have hV := zBy.kept hV (fun _ => oq _ (zBy.lt hV) (fun h => h))
  have hT := zTx.kept hT (fun y hx h9 => oq y hx (fun h => h))
  refine z_istore (lv' := [(4, .int (zI ((n : Int)))), (3, .ref (v)), (0, .ref (t)), (1, .ref (q)), (2, .null)]) S dJ0_init_db425_13 hl (by decide) rfl (fun ls hl => ?_)
  refine z_aload_n S dJ0_init_db425_15 hl 3 rfl rfl ?_
  refine z_callQr S hG (c_sLat l G q v n cap) ok_J5_isLatin1_aae02 q3_203 (S.2.2.2.2 _ q3_205) (z_rcv hG hQ zc_J4) q4_75 (⟨⟨hQ, hV, hne⟩, hT⟩) ⟨rfl, rfl, by decide, by decide⟩ ⟨Nat.zero_le _, Nat.zero_le _⟩ rfl (Nat.le_of_ble_eq_true rfl) hl.1 rfl dJ0_init_db425_16 ?_
  refine z_bif_eq S 41 dJ0_init_db425_19 (by decide) (fun qz => ?_) (fun qz => ?_)
  · exact absurd qz (by decide)
  refine z_aload_n S dJ0_init_db425_22 hl 2 rfl rfl ?_
  refine z_iconst S dJ0_init_db425_23 ?_
  refine z_putF S hG hO zc_J0 tyJ0 tyJ0_ok nmJ0 hS (Or.inl rfl) 1 (by decide) q4_144 rfl hnm rfl (tyJ0_ok 1 (by decide)) rfl rfl (Nat.le_of_ble_eq_true rfl) dJ0_init_db425_24 (fun H_3 L_3 hat hz oq hS => ?_)
  have hO := hat
  have hQ := va_at.kept hQ (oq _ (show t ≠ q by omega).symm)
  have hV := zBy.kept hV (fun _ => oq _ (show t ≠ v by omega).symm)
  have hT := zTx.kept hT (fun y hx h9 => oq y (by omega))
  refine z_aload_n S dJ0_init_db425_27 hl 2 rfl rfl ?_
  refine z_aload_n S dJ0_init_db425_28 hl 1 rfl rfl ?_
  refine z_iconst S dJ0_init_db425_29 ?_
  refine z_iload S dJ0_init_db425_30 hl 0 rfl ?_
  refine z_callSM S hG hS (c_sCr l G v cap n H_3.size (by omega)) (fun y z => Or.inr (by have h2 : _ ≤ y := z; omega)) ok_J7_copyOfRange_39247 q4_76 (⟨hV, rfl⟩) ⟨rfl, rfl, by decide, by decide⟩ ⟨Nat.le_of_ble_eq_true rfl, Nat.le_of_ble_eq_true rfl⟩ rfl (Nat.le_of_ble_eq_true rfl) hl.1 rfl dJ0_init_db425_32 (fun H_4 L_4 hB hz oq hS => ?_)
  have hO := va_at.kept hO (oq _ (va_lt hO) (by show ¬ (_ ≤ _); omega))
  have hQ := va_at.kept hQ (oq _ (va_lt hQ) (by show ¬ (_ ≤ _); omega))
  have hV := zBy.kept hV (fun _ => oq _ (zBy.lt hV) (by show ¬ (_ ≤ _); omega))
  have hT := zTx.kept hT (fun y hx h9 => oq y hx (by show ¬ (_ ≤ _); omega))
  refine z_putF S hG hO zc_J0 tyJ0 tyJ0_ok nmJ0 hS (Or.inl rfl) 0 (by decide) q4_143 rfl hnm rfl (tyJ0_ok 0 (by decide)) rfl rfl (Nat.le_of_ble_eq_true rfl) dJ0_init_db425_35 (fun H_5 L_5 hat hz oq hS => ?_)
  have hO := hat
  have hQ := va_at.kept hQ (oq _ (show t ≠ q by omega).symm)
  have hV := zBy.kept hV (fun _ => oq _ (show t ≠ v by omega).symm)
  have hT := zTx.kept hT (fun y hx h9 => oq y (by omega))
  refine z_goto S 97 dJ0_init_db425_38 (by decide) ?_
  exact ret _ _ _ _ _ _ dJ0_init_db425_97 hS (trivial) (Nat.le_of_ble_eq_true rfl) (Nat.le_of_ble_eq_true rfl)
theorem dJ0_init_81219_0 : decode cJ0_init_81219 0 = .ok (.aload_n 0, 1) := by decide +kernel
theorem dJ0_init_81219_1 : decode cJ0_init_81219 1 = .ok (.aload_n 1, 1) := by decide +kernel
theorem dJ0_init_81219_2 : decode cJ0_init_81219 2 = .ok (.aconst_null, 1) := by decide +kernel
theorem dJ0_init_81219_3 : decode cJ0_init_81219 3 = .ok (.invokespecial 489, 3) := by decide +kernel
theorem dJ0_init_81219_6 : decode cJ0_init_81219 6 = .ok (.return_, 1) := by decide +kernel
theorem q4_59 : (Jvm.Cond.instanceMethod ({ cls := "java/lang/String", name := "<init>", desc := "(Ljava/lang/AbstractStringBuilder;Ljava/lang/Void;)V" } : Jvm.MethodName)) ∈ lw_g := zg_of (zin4 (List.mem_of_getElem? (i := 59) rfl)) rfl
theorem q4_58 : (Jvm.Cond.methodLink "java/lang/String" (489 : Nat) ({ cls := "java/lang/String", name := "<init>", desc := "(Ljava/lang/AbstractStringBuilder;Ljava/lang/Void;)V" } : Jvm.MethodName)) ∈ lw_g := zg_of (zin4 (List.mem_of_getElem? (i := 58) rfl)) rfl
theorem q4_57 : (Jvm.Cond.code ({ cls := "java/lang/String", name := "<init>", desc := "(Ljava/lang/StringBuilder;)V" } : Jvm.MethodName) prog_23_method_53_code (2 : Nat) (Option.none : Option Jvm.ClassFile.FieldType)) ∈ lw_g := zg_of (zin4 (List.mem_of_getElem? (i := 57) rfl)) rfl
theorem ok_J0_init_81219 : zOK yJ0_init_81219 cJ0_init_81219 2 ((Option.none : Option Jvm.ClassFile.FieldType)) 1 := ⟨q4_57, q1_27, by decide, by decide, by decide +kernel⟩
set_option maxHeartbeats 4000000 in
set_option maxRecDepth 100000 in
theorem c_sIni1 (l : Launch) (G : zG) (t q v n cap sz : Nat) (ht9 : t ≥ G.2 99) (htq : t ≠ q ∧ t ≠ v) (hn : n ≤ cap ∧ cap ≤ 34) : Met l yJ0_init_81219 (wq yJ0_init_81219 cJ0_init_81219 2 ((Option.none : Option Jvm.ClassFile.FieldType))) (rmM 4 110 1 34) (va_Pc [.ref (t), .ref (q)] (zK G (fun H => va_at G.1 vwCl (t, .inr (0, [.null, .int 0, .int 0, .int 0])) H ∧ hSB G q v n cap H ∧ zTx G H ∧ H.size = sz))) (zM (fun y => y = t ∨ sz ≤ y) none (fun _ => True)) 1 34 (fun y => y = t ∨ sz ≤ y) := by
  refine z_enterMV (by decide +kernel) (Nat.le_of_ble_eq_true rfl) ?_
  intro p env s m below meth cod Q S hnm hG hP hS ret ls hl
  have hl : lv_has ls 2 [(0, .ref (t)), (1, .ref (q))] := hl
  refine z_aload_n S dJ0_init_81219_0 hl 0 rfl rfl ?_
  refine z_aload_n S dJ0_init_81219_1 hl 1 rfl rfl ?_
  refine lv_null S.1 S.2.1 dJ0_init_81219_2 ?_
  refine z_callMI S hG hS (c_sIni2 l G t q v n cap sz ht9 htq hn) (fun _ h => h) ok_J0_init_db425 q4_59 rfl q4_58 (hP) ⟨rfl, rfl, by decide, by decide⟩ ⟨Nat.le_of_ble_eq_true rfl, Nat.le_of_ble_eq_true rfl⟩ rfl (Nat.le_of_ble_eq_true rfl) hl.1 rfl dJ0_init_81219_3 (fun H_1 L_1 hB hz oq hS => ?_)
  exact ret _ _ _ _ _ _ dJ0_init_81219_6 hS (trivial) (Nat.le_of_ble_eq_true rfl) (Nat.le_of_ble_eq_true rfl)
theorem dJ4_toString_0e30d_0 : decode cJ4_toString_0e30d 0 = .ok (.new 18, 3) := by decide +kernel
theorem dJ4_toString_0e30d_3 : decode cJ4_toString_0e30d 3 = .ok (.dup, 1) := by decide +kernel
theorem dJ4_toString_0e30d_4 : decode cJ4_toString_0e30d 4 = .ok (.aload_n 0, 1) := by decide +kernel
theorem dJ4_toString_0e30d_5 : decode cJ4_toString_0e30d 5 = .ok (.invokespecial 137, 3) := by decide +kernel
theorem dJ4_toString_0e30d_8 : decode cJ4_toString_0e30d 8 = .ok (.areturn, 1) := by decide +kernel
theorem q4_53 : (Jvm.Cond.classLink "java/lang/StringBuilder" (18 : Nat) "java/lang/String") ∈ lw_g := zg_of (zin4 (List.mem_of_getElem? (i := 53) rfl)) rfl
theorem q4_54 : (Jvm.Cond.instantiable "java/lang/String" (4 : Nat)) ∈ lw_g := zg_of (zin4 (List.mem_of_getElem? (i := 54) rfl)) rfl
theorem q4_56 : (Jvm.Cond.instanceMethod ({ cls := "java/lang/String", name := "<init>", desc := "(Ljava/lang/StringBuilder;)V" } : Jvm.MethodName)) ∈ lw_g := zg_of (zin4 (List.mem_of_getElem? (i := 56) rfl)) rfl
theorem q4_55 : (Jvm.Cond.methodLink "java/lang/StringBuilder" (137 : Nat) ({ cls := "java/lang/String", name := "<init>", desc := "(Ljava/lang/StringBuilder;)V" } : Jvm.MethodName)) ∈ lw_g := zg_of (zin4 (List.mem_of_getElem? (i := 55) rfl)) rfl
theorem q4_52 : (Jvm.Cond.code ({ cls := "java/lang/StringBuilder", name := "toString", desc := "()Ljava/lang/String;" } : Jvm.MethodName) prog_24_method_42_code (1 : Nat) (Option.some (Jvm.ClassFile.FieldType.object "java/lang/String"))) ∈ lw_g := zg_of (zin4 (List.mem_of_getElem? (i := 52) rfl)) rfl
theorem q4_50 : (Jvm.Cond.instanceMethod ({ cls := "java/lang/StringBuilder", name := "toString", desc := "()Ljava/lang/String;" } : Jvm.MethodName)) ∈ lw_g := zg_of (zin4 (List.mem_of_getElem? (i := 50) rfl)) rfl
theorem q4_51 : (Jvm.Cond.selects "java/lang/StringBuilder" ({ cls := "java/lang/StringBuilder", name := "toString", desc := "()Ljava/lang/String;" } : Jvm.MethodName) ({ cls := "java/lang/StringBuilder", name := "toString", desc := "()Ljava/lang/String;" } : Jvm.MethodName)) ∈ lw_g := zg_of (zin4 (List.mem_of_getElem? (i := 51) rfl)) rfl
theorem ok_J4_toString_0e30d : zOV yJ4_toString_0e30d cJ4_toString_0e30d 1 ((Option.some (Jvm.ClassFile.FieldType.object "java/lang/String"))) 0 := ⟨⟨q4_52, q1_26, by decide, by decide, by decide +kernel⟩, q4_50, q4_51⟩
set_option maxHeartbeats 4000000 in
set_option maxRecDepth 100000 in
theorem c_bTs (l : Launch) (G : zG) (q sz n sz2 : Nat) (h99 : sz ≥ G.2 99) : Met l yJ4_toString_0e30d (wq yJ4_toString_0e30d cJ4_toString_0e30d 1 ((Option.some (Jvm.ClassFile.FieldType.object "java/lang/String")))) (rmM 5 131 2 38) (va_Pc [.ref (q)] (zK G (fun H => hSX G q sz n n H ∧ zTx G H ∧ H.size = sz2))) (zM (fun y => sz ≤ y) (some (.ref (sz2))) (fun _ => True)) 2 38 (fun y => sz ≤ y) := by
  refine z_enterMA (by decide +kernel) (Nat.le_of_ble_eq_true rfl) ?_
  intro p env s m below meth cod Q S hG hP hS ret ls hl
  have hl : lv_has ls 1 [(0, .ref (q))] := hl
  obtain ⟨⟨v, cap, ⟨hQ, hV, hne⟩, hq, hv, hc, hnn⟩, hT, hz0⟩ := hP
  have hqs := va_lt hQ
  have hvs := hV.lt
  refine z_newc S hG zc_J0 tyJ0 tyJ0_ok q4_53 q4_54 q1_27 hS (fs := [.null, .int 0, .int 0, .int 0]) (fun j hj => by rcases (show j = 0 ∨ j = 1 ∨ j = 2 ∨ j = 3 by omega) with rfl | rfl | rfl | rfl <;> rfl) ⟨Nat.le_of_ble_eq_true rfl, Nat.le_of_ble_eq_true rfl⟩ dJ4_toString_0e30d_0 (fun n1 H_1 hq_n1 hat hz oq hS => ?_)
  have lt_hQ_n1 : n1 > q := by rw [hq_n1]; exact va_lt hQ
  have hQ := va_at.kept hQ (oq _ (va_lt hQ))
  have lt_hV_n1 : n1 > v := by rw [hq_n1]; exact zBy.lt hV
  have hV := zBy.kept hV (fun _ => oq _ (zBy.lt hV))
  have hT := zTx.kept hT (fun y hx _ => oq y hx)
  have h_n1 := hat
  refine z_dup S dJ4_toString_0e30d_3 rfl ?_
  refine z_aload_n S dJ4_toString_0e30d_4 hl 0 rfl rfl ?_
  refine z_callMI S hG hS (c_sIni1 l G n1 q v n cap H_1.size (by omega) (by omega) (by omega)) (fun y z => by have z2 : y = n1 ∨ _ ≤ y := z; show sz ≤ y; omega) ok_J0_init_81219 q4_56 rfl q4_55 (⟨h_n1, ⟨hQ, hV, hne⟩, hT, rfl⟩) ⟨rfl, rfl, by decide, by decide⟩ ⟨Nat.le_of_ble_eq_true rfl, Nat.le_of_ble_eq_true rfl⟩ rfl (Nat.le_of_ble_eq_true rfl) hl.1 rfl dJ4_toString_0e30d_5 (fun H_2 L_2 hB hz oq hS => ?_)
  have e1 : n1 = sz2 := by omega
  subst e1
  exact ret _ _ _ _ _ _ dJ4_toString_0e30d_8 hS (trivial) (Nat.le_of_ble_eq_true rfl) (Nat.le_of_ble_eq_true rfl)
