theorem dJ5_append_3fe6f_0 : decode cJ5_append_3fe6f 0 = .ok (.aload_n 0, 1) := by decide +kernel
theorem dJ5_append_3fe6f_1 : decode cJ5_append_3fe6f 1 = .ok (.aload_n 0, 1) := by decide +kernel
theorem dJ5_append_3fe6f_2 : decode cJ5_append_3fe6f 2 = .ok (.getfield 79, 3) := by decide +kernel
theorem dJ5_append_3fe6f_5 : decode cJ5_append_3fe6f 5 = .ok (.iconst 1, 1) := by decide +kernel
theorem dJ5_append_3fe6f_6 : decode cJ5_append_3fe6f 6 = .ok (.iadd, 1) := by decide +kernel
theorem dJ5_append_3fe6f_7 : decode cJ5_append_3fe6f 7 = .ok (.invokevirtual 100, 3) := by decide +kernel
theorem dJ5_append_3fe6f_10 : decode cJ5_append_3fe6f 10 = .ok (.aload_n 0, 1) := by decide +kernel
theorem dJ5_append_3fe6f_11 : decode cJ5_append_3fe6f 11 = .ok (.invokevirtual 83, 3) := by decide +kernel
theorem dJ5_append_3fe6f_14 : decode cJ5_append_3fe6f 14 = .ok (.ifCond .eq 31, 3) := by decide +kernel
theorem dJ5_append_3fe6f_17 : decode cJ5_append_3fe6f 17 = .ok (.iload_n 1, 1) := by decide +kernel
theorem dJ5_append_3fe6f_18 : decode cJ5_append_3fe6f 18 = .ok (.invokestatic 191, 3) := by decide +kernel
theorem dJ5_append_3fe6f_21 : decode cJ5_append_3fe6f 21 = .ok (.ifCond .eq 24, 3) := by decide +kernel
theorem dJ5_append_3fe6f_24 : decode cJ5_append_3fe6f 24 = .ok (.aload_n 0, 1) := by decide +kernel
theorem dJ5_append_3fe6f_25 : decode cJ5_append_3fe6f 25 = .ok (.getfield 15, 3) := by decide +kernel
theorem dJ5_append_3fe6f_28 : decode cJ5_append_3fe6f 28 = .ok (.aload_n 0, 1) := by decide +kernel
theorem dJ5_append_3fe6f_29 : decode cJ5_append_3fe6f 29 = .ok (.dup, 1) := by decide +kernel
theorem dJ5_append_3fe6f_30 : decode cJ5_append_3fe6f 30 = .ok (.getfield 79, 3) := by decide +kernel
theorem dJ5_append_3fe6f_33 : decode cJ5_append_3fe6f 33 = .ok (.dup_x1, 1) := by decide +kernel
theorem dJ5_append_3fe6f_34 : decode cJ5_append_3fe6f 34 = .ok (.iconst 1, 1) := by decide +kernel
theorem dJ5_append_3fe6f_35 : decode cJ5_append_3fe6f 35 = .ok (.iadd, 1) := by decide +kernel
theorem dJ5_append_3fe6f_36 : decode cJ5_append_3fe6f 36 = .ok (.putfield 79, 3) := by decide +kernel
theorem dJ5_append_3fe6f_39 : decode cJ5_append_3fe6f 39 = .ok (.iload_n 1, 1) := by decide +kernel
theorem dJ5_append_3fe6f_40 : decode cJ5_append_3fe6f 40 = .ok (.i2b, 1) := by decide +kernel
theorem dJ5_append_3fe6f_41 : decode cJ5_append_3fe6f 41 = .ok (.bastore, 1) := by decide +kernel
theorem dJ5_append_3fe6f_42 : decode cJ5_append_3fe6f 42 = .ok (.goto 33, 3) := by decide +kernel
theorem dJ5_append_3fe6f_45 : decode cJ5_append_3fe6f 45 = .ok (.aload_n 0, 1) := by decide +kernel
theorem dJ5_append_3fe6f_46 : decode cJ5_append_3fe6f 46 = .ok (.invokevirtual 83, 3) := by decide +kernel
theorem dJ5_append_3fe6f_49 : decode cJ5_append_3fe6f 49 = .ok (.ifCond .eq 7, 3) := by decide +kernel
theorem dJ5_append_3fe6f_52 : decode cJ5_append_3fe6f 52 = .ok (.aload_n 0, 1) := by decide +kernel
theorem dJ5_append_3fe6f_53 : decode cJ5_append_3fe6f 53 = .ok (.invokevirtual 195, 3) := by decide +kernel
theorem dJ5_append_3fe6f_56 : decode cJ5_append_3fe6f 56 = .ok (.aload_n 0, 1) := by decide +kernel
theorem dJ5_append_3fe6f_57 : decode cJ5_append_3fe6f 57 = .ok (.getfield 15, 3) := by decide +kernel
theorem dJ5_append_3fe6f_60 : decode cJ5_append_3fe6f 60 = .ok (.aload_n 0, 1) := by decide +kernel
theorem dJ5_append_3fe6f_61 : decode cJ5_append_3fe6f 61 = .ok (.dup, 1) := by decide +kernel
theorem dJ5_append_3fe6f_62 : decode cJ5_append_3fe6f 62 = .ok (.getfield 79, 3) := by decide +kernel
theorem dJ5_append_3fe6f_65 : decode cJ5_append_3fe6f 65 = .ok (.dup_x1, 1) := by decide +kernel
theorem dJ5_append_3fe6f_66 : decode cJ5_append_3fe6f 66 = .ok (.iconst 1, 1) := by decide +kernel
theorem dJ5_append_3fe6f_67 : decode cJ5_append_3fe6f 67 = .ok (.iadd, 1) := by decide +kernel
theorem dJ5_append_3fe6f_68 : decode cJ5_append_3fe6f 68 = .ok (.putfield 79, 3) := by decide +kernel
theorem dJ5_append_3fe6f_71 : decode cJ5_append_3fe6f 71 = .ok (.iload_n 1, 1) := by decide +kernel
theorem dJ5_append_3fe6f_72 : decode cJ5_append_3fe6f 72 = .ok (.invokestatic 197, 3) := by decide +kernel
theorem dJ5_append_3fe6f_75 : decode cJ5_append_3fe6f 75 = .ok (.aload_n 0, 1) := by decide +kernel
theorem dJ5_append_3fe6f_76 : decode cJ5_append_3fe6f 76 = .ok (.areturn, 1) := by decide +kernel
theorem q3_152 : (Jvm.Cond.fieldLink "java/lang/AbstractStringBuilder" (79 : Nat) "java/lang/AbstractStringBuilder" "count" "I") ∈ lw_g := zg_of (zin3 (List.mem_of_getElem? (i := 152) rfl)) rfl
theorem q3_169 : (Jvm.Cond.methodLink "java/lang/AbstractStringBuilder" (100 : Nat) ({ cls := "java/lang/AbstractStringBuilder", name := "ensureCapacityInternal", desc := "(I)V" } : Jvm.MethodName)) ∈ lw_g := zg_of (zin3 (List.mem_of_getElem? (i := 169) rfl)) rfl
theorem q3_171 : (Jvm.Cond.instanceMethod ({ cls := "java/lang/AbstractStringBuilder", name := "ensureCapacityInternal", desc := "(I)V" } : Jvm.MethodName)) ∈ lw_g := zg_of (zin3 (List.mem_of_getElem? (i := 171) rfl)) rfl
theorem q3_202 : (Jvm.Cond.methodLink "java/lang/AbstractStringBuilder" (83 : Nat) ({ cls := "java/lang/AbstractStringBuilder", name := "isLatin1", desc := "()Z" } : Jvm.MethodName)) ∈ lw_g := zg_of (zin3 (List.mem_of_getElem? (i := 202) rfl)) rfl
theorem q3_203 : (Jvm.Cond.instanceMethod ({ cls := "java/lang/AbstractStringBuilder", name := "isLatin1", desc := "()Z" } : Jvm.MethodName)) ∈ lw_g := zg_of (zin3 (List.mem_of_getElem? (i := 203) rfl)) rfl
theorem q3_205 : (Jvm.Cond.selects "java/lang/StringBuilder" ({ cls := "java/lang/AbstractStringBuilder", name := "isLatin1", desc := "()Z" } : Jvm.MethodName) ({ cls := "java/lang/AbstractStringBuilder", name := "isLatin1", desc := "()Z" } : Jvm.MethodName)) ∈ lw_g := zg_of (zin3 (List.mem_of_getElem? (i := 205) rfl)) rfl
theorem q3_207 : (Jvm.Cond.methodLink "java/lang/AbstractStringBuilder" (191 : Nat) ({ cls := "java/lang/StringLatin1", name := "canEncode", desc := "(C)Z" } : Jvm.MethodName)) ∈ lw_g := zg_of (zin3 (List.mem_of_getElem? (i := 207) rfl)) rfl
theorem q3_168 : (Jvm.Cond.code ({ cls := "java/lang/AbstractStringBuilder", name := "append", desc := "(C)Ljava/lang/AbstractStringBuilder;" } : Jvm.MethodName) prog_8_method_31_code (2 : Nat) (Option.some (Jvm.ClassFile.FieldType.object "java/lang/AbstractStringBuilder"))) ∈ lw_g := zg_of (zin3 (List.mem_of_getElem? (i := 168) rfl)) rfl
theorem ok_J5_append_3fe6f : zOK yJ5_append_3fe6f cJ5_append_3fe6f 2 ((Option.some (Jvm.ClassFile.FieldType.object "java/lang/AbstractStringBuilder"))) 1 := ⟨q3_168, q1_25, by decide, by decide, by decide +kernel⟩
set_option maxHeartbeats 4000000 in
set_option maxRecDepth 100000 in
theorem c_sApC (l : Launch) (G : zG) (q sz n : Nat) (h99 : sz ≥ G.2 99) (hn : n ≤ 33) : Met l yJ5_append_3fe6f (wq yJ5_append_3fe6f cJ5_append_3fe6f 2 ((Option.some (Jvm.ClassFile.FieldType.object "java/lang/AbstractStringBuilder")))) (rmM 4 91 1 34) (va_Pc [.ref (q), .int (zI (32))] (zK G (fun H => hSX G q sz n n H ∧ zTx G H))) (zM (fun y => sz ≤ y) (some (.ref (q))) (fun H => hSX G q sz (n + 1) (n + 1) H)) 1 34 (fun y => sz ≤ y) := by
  refine z_enterMA (by decide +kernel) (Nat.le_of_ble_eq_true rfl) ?_
  intro p env s m below meth cod Q S hG hP hS ret ls hl
  have hl : lv_has ls 2 [(0, .ref (q)), (1, .int (zI (32)))] := hl
  obtain ⟨v, cap, ⟨hQ, hV, hne⟩, hq, hv, hc, hnn⟩ := hP.1
  have hT := hP.2
  have hqs := va_lt hQ
  have hvs := hV.lt
  refine z_aload_n S dJ5_append_3fe6f_0 hl 0 rfl rfl ?_
  refine z_aload_n S dJ5_append_3fe6f_1 hl 0 rfl rfl ?_
  refine z_getR S hG hQ zc_J4 3 (by decide) q3_152 rfl dJ5_append_3fe6f_2 ?_
  refine z_iconst S dJ5_append_3fe6f_5 ?_
  refine z_iadd S dJ5_append_3fe6f_6 ?_
  refine z_callQ S hG hS (c_sEn l G q sz n ((n : Int) + 1) (n + 1) (by omega) (by omega)) (fun _ h => h) ok_J5_ensureCapacityInternal_d00df q3_171 (va_Nw.use rfl (hG.2.2.2.2.2.2.2.2.2.2.2 _ (List.mem_of_getElem? (i := 0) rfl))) (z_rcv hG hQ zc_J4) q3_169 (⟨v, cap, ⟨hQ, hV, hne⟩, hq, hv, hc, hnn⟩) ⟨rfl, rfl, by decide, by decide⟩ ⟨Nat.le_of_ble_eq_true rfl, Nat.le_of_ble_eq_true rfl⟩ rfl (Nat.le_of_ble_eq_true rfl) hl.1 rfl dJ5_append_3fe6f_7 (fun H_1 L_1 hB hz oq hS => ?_)
  have hT := zTx.kept hT (fun y hx h9 => oq y hx (by show ¬ (sz ≤ _); omega))
  obtain ⟨v, cap, ⟨hQ, hV, hne⟩, hq, hv, hc, hnn⟩ := hB
  have hqs := va_lt hQ
  have hvs := hV.lt
  refine z_aload_n S dJ5_append_3fe6f_10 hl 0 rfl rfl ?_
  refine z_callQr S hG (c_sLat l G q v n cap) ok_J5_isLatin1_aae02 q3_203 (S.2.2.2.2 _ q3_205) (z_rcv hG hQ zc_J4) q3_202 (⟨⟨hQ, hV, hne⟩, hT⟩) ⟨rfl, rfl, by decide, by decide⟩ ⟨Nat.le_of_ble_eq_true rfl, Nat.le_of_ble_eq_true rfl⟩ rfl (Nat.le_of_ble_eq_true rfl) hl.1 rfl dJ5_append_3fe6f_11 ?_
  refine z_bif_eq S 45 dJ5_append_3fe6f_14 (by decide) (fun qz => ?_) (fun qz => ?_)
  · exact absurd qz (by decide)
  refine z_iload_n S dJ5_append_3fe6f_17 hl 1 rfl rfl ?_
  refine z_callSs S hG (c_sEnc l G) ok_J1_canEncode_fc78d q3_207 (trivial) ⟨rfl, rfl, by decide, by decide⟩ ⟨Nat.le_of_ble_eq_true rfl, Nat.le_of_ble_eq_true rfl⟩ rfl (Nat.le_of_ble_eq_true rfl) hl.1 rfl dJ5_append_3fe6f_18 ?_
  refine z_bif_eq S 45 dJ5_append_3fe6f_21 (by decide) (fun qz => ?_) (fun qz => ?_)
  · exact absurd qz (by decide)
  refine z_aload_n S dJ5_append_3fe6f_24 hl 0 rfl rfl ?_
  refine z_getR S hG hQ zc_J4 0 (by decide) q3_149 rfl dJ5_append_3fe6f_25 ?_
  refine z_aload_n S dJ5_append_3fe6f_28 hl 0 rfl rfl ?_
  refine z_dup S dJ5_append_3fe6f_29 rfl ?_
  refine z_getR S hG hQ zc_J4 3 (by decide) q3_152 rfl dJ5_append_3fe6f_30 ?_
  refine lv_dup_x1 S.1 S.2.1 dJ5_append_3fe6f_33 rfl rfl ?_
  refine z_iconst S dJ5_append_3fe6f_34 ?_
  refine z_iadd S dJ5_append_3fe6f_35 ?_
  refine z_putR S hG hQ zc_J4 tyJ4 tyJ4_ok nmJ4 hS (by show sz ≤ q; omega) 3 (by decide) q3_152 rfl (tyJ4_ok 3 (by decide)) rfl rfl (Nat.le_of_ble_eq_true rfl) dJ5_append_3fe6f_36 (fun H_2 L_2 hat hz oq hS => ?_)
  have hQ := hat
  have hV := zBy.kept hV (fun _ => oq _ (show q ≠ v by omega).symm)
  have hT := zTx.kept hT (fun y hx h9 => oq y (by omega))
  refine z_iload_n S dJ5_append_3fe6f_39 hl 1 rfl rfl ?_
  refine lv_i2b S.1 S.2.1 dJ5_append_3fe6f_40 (v := zI 32) (by decide) ?_
  refine z_bast S hG hV hS (by show sz ≤ v; omega) (by omega) (by omega) dJ5_append_3fe6f_41 (fun H_3 L_3 hat hz oq hS => ?_)
  have hQ := va_at.kept hQ (oq _ (show v ≠ q by omega).symm)
  have hV := hat
  have hT := zTx.kept hT (fun y hx h9 => oq y (by omega))
  refine z_goto S 75 dJ5_append_3fe6f_42 (by decide) ?_
  refine z_aload_n S dJ5_append_3fe6f_75 hl 0 rfl rfl ?_
  exact ret _ _ _ _ _ _ dJ5_append_3fe6f_76 hS (⟨v, cap, ⟨hQ, hV, hne⟩, hq, hv, by omega, Nat.le_refl _⟩) (Nat.le_of_ble_eq_true rfl) (Nat.le_of_ble_eq_true rfl)
theorem dJ6_stringSize_0f7a4_0 : decode cJ6_stringSize_0f7a4 0 = .ok (.iconst 1, 1) := by decide +kernel
theorem dJ6_stringSize_0f7a4_1 : decode cJ6_stringSize_0f7a4 1 = .ok (.istore_n 1, 1) := by decide +kernel
theorem dJ6_stringSize_0f7a4_2 : decode cJ6_stringSize_0f7a4 2 = .ok (.iload_n 0, 1) := by decide +kernel
theorem dJ6_stringSize_0f7a4_3 : decode cJ6_stringSize_0f7a4 3 = .ok (.ifCond .lt 8, 3) := by decide +kernel
theorem dJ6_stringSize_0f7a4_6 : decode cJ6_stringSize_0f7a4 6 = .ok (.iconst 0, 1) := by decide +kernel
theorem dJ6_stringSize_0f7a4_7 : decode cJ6_stringSize_0f7a4 7 = .ok (.istore_n 1, 1) := by decide +kernel
theorem dJ6_stringSize_0f7a4_8 : decode cJ6_stringSize_0f7a4 8 = .ok (.iload_n 0, 1) := by decide +kernel
theorem dJ6_stringSize_0f7a4_9 : decode cJ6_stringSize_0f7a4 9 = .ok (.ineg, 1) := by decide +kernel
theorem dJ6_stringSize_0f7a4_10 : decode cJ6_stringSize_0f7a4 10 = .ok (.istore_n 0, 1) := by decide +kernel
theorem dJ6_stringSize_0f7a4_11 : decode cJ6_stringSize_0f7a4 11 = .ok (.bipush (-10), 2) := by decide +kernel
theorem dJ6_stringSize_0f7a4_13 : decode cJ6_stringSize_0f7a4 13 = .ok (.istore_n 2, 1) := by decide +kernel
theorem dJ6_stringSize_0f7a4_14 : decode cJ6_stringSize_0f7a4 14 = .ok (.iconst 1, 1) := by decide +kernel
theorem dJ6_stringSize_0f7a4_15 : decode cJ6_stringSize_0f7a4 15 = .ok (.istore_n 3, 1) := by decide +kernel
theorem dJ6_stringSize_0f7a4_16 : decode cJ6_stringSize_0f7a4 16 = .ok (.iload_n 3, 1) := by decide +kernel
theorem dJ6_stringSize_0f7a4_17 : decode cJ6_stringSize_0f7a4 17 = .ok (.bipush 10, 2) := by decide +kernel
theorem dJ6_stringSize_0f7a4_19 : decode cJ6_stringSize_0f7a4 19 = .ok (.if_icmp .ge 23, 3) := by decide +kernel
theorem dJ6_stringSize_0f7a4_22 : decode cJ6_stringSize_0f7a4 22 = .ok (.iload_n 0, 1) := by decide +kernel
theorem dJ6_stringSize_0f7a4_23 : decode cJ6_stringSize_0f7a4 23 = .ok (.iload_n 2, 1) := by decide +kernel
theorem dJ6_stringSize_0f7a4_24 : decode cJ6_stringSize_0f7a4 24 = .ok (.if_icmp .le 7, 3) := by decide +kernel
theorem dJ6_stringSize_0f7a4_27 : decode cJ6_stringSize_0f7a4 27 = .ok (.iload_n 3, 1) := by decide +kernel
theorem dJ6_stringSize_0f7a4_28 : decode cJ6_stringSize_0f7a4 28 = .ok (.iload_n 1, 1) := by decide +kernel
theorem dJ6_stringSize_0f7a4_29 : decode cJ6_stringSize_0f7a4 29 = .ok (.iadd, 1) := by decide +kernel
theorem dJ6_stringSize_0f7a4_30 : decode cJ6_stringSize_0f7a4 30 = .ok (.ireturn, 1) := by decide +kernel
theorem dJ6_stringSize_0f7a4_31 : decode cJ6_stringSize_0f7a4 31 = .ok (.bipush 10, 2) := by decide +kernel
theorem dJ6_stringSize_0f7a4_33 : decode cJ6_stringSize_0f7a4 33 = .ok (.iload_n 2, 1) := by decide +kernel
theorem dJ6_stringSize_0f7a4_34 : decode cJ6_stringSize_0f7a4 34 = .ok (.imul, 1) := by decide +kernel
theorem dJ6_stringSize_0f7a4_35 : decode cJ6_stringSize_0f7a4 35 = .ok (.istore_n 2, 1) := by decide +kernel
theorem dJ6_stringSize_0f7a4_36 : decode cJ6_stringSize_0f7a4 36 = .ok (.iinc 3 1, 3) := by decide +kernel
theorem dJ6_stringSize_0f7a4_39 : decode cJ6_stringSize_0f7a4 39 = .ok (.goto (-23), 3) := by decide +kernel
theorem dJ6_stringSize_0f7a4_42 : decode cJ6_stringSize_0f7a4 42 = .ok (.bipush 10, 2) := by decide +kernel
theorem dJ6_stringSize_0f7a4_44 : decode cJ6_stringSize_0f7a4 44 = .ok (.iload_n 1, 1) := by decide +kernel
theorem dJ6_stringSize_0f7a4_45 : decode cJ6_stringSize_0f7a4 45 = .ok (.iadd, 1) := by decide +kernel
theorem dJ6_stringSize_0f7a4_46 : decode cJ6_stringSize_0f7a4 46 = .ok (.ireturn, 1) := by decide +kernel
theorem q4_24 : (Jvm.Cond.code ({ cls := "java/lang/Integer", name := "stringSize", desc := "(I)I" } : Jvm.MethodName) prog_17_method_13_code (4 : Nat) (Option.some Jvm.ClassFile.FieldType.int)) ∈ lw_g := zg_of (zin4 (List.mem_of_getElem? (i := 24) rfl)) rfl
theorem q4_23 : (Jvm.Cond.static ({ cls := "java/lang/Integer", name := "stringSize", desc := "(I)I" } : Jvm.MethodName)) ∈ lw_g := zg_of (zin4 (List.mem_of_getElem? (i := 23) rfl)) rfl
theorem ok_J6_stringSize_0f7a4 : zOS yJ6_stringSize_0f7a4 cJ6_stringSize_0f7a4 4 ((Option.some Jvm.ClassFile.FieldType.int)) 1 := ⟨⟨q4_24, q1_22, by decide, by decide, by decide +kernel⟩, q4_23⟩
set_option maxHeartbeats 4000000 in
set_option maxRecDepth 100000 in
theorem c_sSs (l : Launch) (G : zG) (x : Int) (w : Nat) (hx : 0 ≤ x ∧ x < 100) (hw : (x < 10 ∧ w = 1) ∨ (10 ≤ x ∧ w = 2)) : Met l yJ6_stringSize_0f7a4 (wq yJ6_stringSize_0f7a4 cJ6_stringSize_0f7a4 4 ((Option.some Jvm.ClassFile.FieldType.int))) (rmR 0 0) (va_Pc [.int (zI (x))] (zK G (fun _ => True))) (zQ (some (.int ((zI ((w : Int))))))) 0 0 zF := by
  refine z_enterI (by decide +kernel) (Nat.le_of_ble_eq_true rfl) ?_
  intro p env s m below meth cod Q S hG hP ret ls hl
  have hl : lv_has ls 4 [(0, .int (zI (x)))] := hl
  rcases hw with hw | hw
  · skip
    refine z_iconst S dJ6_stringSize_0f7a4_0 ?_
    refine z_istore_n (lv' := [(1, .int (zI (1))), (0, .int (zI (x)))]) S dJ6_stringSize_0f7a4_1 hl rfl (by decide) rfl (fun ls hl => ?_)
    refine z_iload_n S dJ6_stringSize_0f7a4_2 hl 1 rfl rfl ?_
    refine z_if_lt_F S 11 dJ6_stringSize_0f7a4_3 (by decide) (by omega) (by omega) ?_
    refine z_iconst S dJ6_stringSize_0f7a4_6 ?_
    refine z_istore_n (lv' := [(1, .int (zI (0))), (0, .int (zI (x)))]) S dJ6_stringSize_0f7a4_7 hl rfl (by decide) rfl (fun ls hl => ?_)
    refine z_iload_n S dJ6_stringSize_0f7a4_8 hl 1 rfl rfl ?_
    refine lv_ineg S.1 S.2.1 dJ6_stringSize_0f7a4_9 ?_
    rw [z_neg]
    refine z_istore_n (lv' := [(0, .int (zI (-(x)))), (1, .int (zI (0)))]) S dJ6_stringSize_0f7a4_10 hl rfl (by decide) rfl (fun ls hl => ?_)
    refine z_bipush S dJ6_stringSize_0f7a4_11 rfl ?_
    refine z_istore_n (lv' := [(2, .int (zI ((-10)))), (0, .int (zI (-(x)))), (1, .int (zI (0)))]) S dJ6_stringSize_0f7a4_13 hl rfl (by decide) rfl (fun ls hl => ?_)
    refine z_iconst S dJ6_stringSize_0f7a4_14 ?_
    refine z_istore_n (lv' := [(3, .int (zI (1))), (2, .int (zI ((-10)))), (0, .int (zI (-(x)))), (1, .int (zI (0)))]) S dJ6_stringSize_0f7a4_15 hl rfl (by decide) rfl (fun ls hl => ?_)
    refine z_iload_n S dJ6_stringSize_0f7a4_16 hl 0 rfl rfl ?_
    refine z_bipush S dJ6_stringSize_0f7a4_17 rfl ?_
    refine z_icmp_ge_F S 42 dJ6_stringSize_0f7a4_19 (by decide) (by omega) (by omega) (by omega) ?_
    refine z_iload_n S dJ6_stringSize_0f7a4_22 hl 2 rfl rfl ?_
    refine z_iload_n S dJ6_stringSize_0f7a4_23 hl 1 rfl rfl ?_
    refine z_icmp_le_F S 31 dJ6_stringSize_0f7a4_24 (by decide) (by omega) (by omega) (by omega) ?_
    refine z_iload_n S dJ6_stringSize_0f7a4_27 hl 0 rfl rfl ?_
    refine z_iload_n S dJ6_stringSize_0f7a4_28 hl 3 rfl rfl ?_
    refine z_iadd S dJ6_stringSize_0f7a4_29 ?_
    exact ret _ _ _ dJ6_stringSize_0f7a4_30 (by rw [hw.2]; rfl)
  · skip
    refine z_iconst S dJ6_stringSize_0f7a4_0 ?_
    refine z_istore_n (lv' := [(1, .int (zI (1))), (0, .int (zI (x)))]) S dJ6_stringSize_0f7a4_1 hl rfl (by decide) rfl (fun ls hl => ?_)
    refine z_iload_n S dJ6_stringSize_0f7a4_2 hl 1 rfl rfl ?_
    refine z_if_lt_F S 11 dJ6_stringSize_0f7a4_3 (by decide) (by omega) (by omega) ?_
    refine z_iconst S dJ6_stringSize_0f7a4_6 ?_
    refine z_istore_n (lv' := [(1, .int (zI (0))), (0, .int (zI (x)))]) S dJ6_stringSize_0f7a4_7 hl rfl (by decide) rfl (fun ls hl => ?_)
    refine z_iload_n S dJ6_stringSize_0f7a4_8 hl 1 rfl rfl ?_
    refine lv_ineg S.1 S.2.1 dJ6_stringSize_0f7a4_9 ?_
    rw [z_neg]
    refine z_istore_n (lv' := [(0, .int (zI (-(x)))), (1, .int (zI (0)))]) S dJ6_stringSize_0f7a4_10 hl rfl (by decide) rfl (fun ls hl => ?_)
    refine z_bipush S dJ6_stringSize_0f7a4_11 rfl ?_
    refine z_istore_n (lv' := [(2, .int (zI ((-10)))), (0, .int (zI (-(x)))), (1, .int (zI (0)))]) S dJ6_stringSize_0f7a4_13 hl rfl (by decide) rfl (fun ls hl => ?_)
    refine z_iconst S dJ6_stringSize_0f7a4_14 ?_
    refine z_istore_n (lv' := [(3, .int (zI (1))), (2, .int (zI ((-10)))), (0, .int (zI (-(x)))), (1, .int (zI (0)))]) S dJ6_stringSize_0f7a4_15 hl rfl (by decide) rfl (fun ls hl => ?_)
    refine z_iload_n S dJ6_stringSize_0f7a4_16 hl 0 rfl rfl ?_
    refine z_bipush S dJ6_stringSize_0f7a4_17 rfl ?_
    refine z_icmp_ge_F S 42 dJ6_stringSize_0f7a4_19 (by decide) (by omega) (by omega) (by omega) ?_
    refine z_iload_n S dJ6_stringSize_0f7a4_22 hl 2 rfl rfl ?_
    refine z_iload_n S dJ6_stringSize_0f7a4_23 hl 1 rfl rfl ?_
    refine z_icmp_le_T S 31 dJ6_stringSize_0f7a4_24 (by decide) (by omega) (by omega) (by omega) ?_
    refine z_bipush S dJ6_stringSize_0f7a4_31 rfl ?_
    refine z_iload_n S dJ6_stringSize_0f7a4_33 hl 1 rfl rfl ?_
    refine z_imul S dJ6_stringSize_0f7a4_34 ?_
    refine z_istore_n (lv' := [(2, .int (zI ((10) * ((-10))))), (3, .int (zI (1))), (0, .int (zI (-(x)))), (1, .int (zI (0)))]) S dJ6_stringSize_0f7a4_35 hl rfl (by decide) rfl (fun ls hl => ?_)
    refine z_iinc (lv' := [(3, .int (zI (1 + 1))), (2, .int (zI ((10) * ((-10))))), (0, .int (zI (-(x)))), (1, .int (zI (0)))]) S dJ6_stringSize_0f7a4_36 hl 1 rfl (by decide) rfl (fun ls hl => ?_)
    refine z_goto S 16 dJ6_stringSize_0f7a4_39 (by decide) ?_
    refine z_iload_n S dJ6_stringSize_0f7a4_16 hl 0 rfl rfl ?_
    refine z_bipush S dJ6_stringSize_0f7a4_17 rfl ?_
    refine z_icmp_ge_F S 42 dJ6_stringSize_0f7a4_19 (by decide) (by omega) (by omega) (by omega) ?_
    refine z_iload_n S dJ6_stringSize_0f7a4_22 hl 2 rfl rfl ?_
    refine z_iload_n S dJ6_stringSize_0f7a4_23 hl 1 rfl rfl ?_
    refine z_icmp_le_F S 31 dJ6_stringSize_0f7a4_24 (by decide) (by omega) (by omega) (by omega) ?_
    refine z_iload_n S dJ6_stringSize_0f7a4_27 hl 0 rfl rfl ?_
    refine z_iload_n S dJ6_stringSize_0f7a4_28 hl 3 rfl rfl ?_
    refine z_iadd S dJ6_stringSize_0f7a4_29 ?_
    exact ret _ _ _ dJ6_stringSize_0f7a4_30 (by rw [hw.2]; rfl)
theorem dJ6_getChars_ba4f3_0 : decode cJ6_getChars_ba4f3 0 = .ok (.iload_n 1, 1) := by decide +kernel
theorem dJ6_getChars_ba4f3_1 : decode cJ6_getChars_ba4f3 1 = .ok (.istore 5, 2) := by decide +kernel
theorem dJ6_getChars_ba4f3_3 : decode cJ6_getChars_ba4f3 3 = .ok (.iload_n 0, 1) := by decide +kernel
theorem dJ6_getChars_ba4f3_4 : decode cJ6_getChars_ba4f3 4 = .ok (.ifCond .ge 7, 3) := by decide +kernel
theorem dJ6_getChars_ba4f3_7 : decode cJ6_getChars_ba4f3 7 = .ok (.iconst 1, 1) := by decide +kernel
theorem dJ6_getChars_ba4f3_8 : decode cJ6_getChars_ba4f3 8 = .ok (.goto 4, 3) := by decide +kernel
theorem dJ6_getChars_ba4f3_11 : decode cJ6_getChars_ba4f3 11 = .ok (.iconst 0, 1) := by decide +kernel
theorem dJ6_getChars_ba4f3_12 : decode cJ6_getChars_ba4f3 12 = .ok (.istore 6, 2) := by decide +kernel
theorem dJ6_getChars_ba4f3_14 : decode cJ6_getChars_ba4f3 14 = .ok (.iload 6, 2) := by decide +kernel
theorem dJ6_getChars_ba4f3_16 : decode cJ6_getChars_ba4f3 16 = .ok (.ifCond .ne 6, 3) := by decide +kernel
theorem dJ6_getChars_ba4f3_19 : decode cJ6_getChars_ba4f3 19 = .ok (.iload_n 0, 1) := by decide +kernel
theorem dJ6_getChars_ba4f3_20 : decode cJ6_getChars_ba4f3 20 = .ok (.ineg, 1) := by decide +kernel
theorem dJ6_getChars_ba4f3_21 : decode cJ6_getChars_ba4f3 21 = .ok (.istore_n 0, 1) := by decide +kernel
theorem dJ6_getChars_ba4f3_22 : decode cJ6_getChars_ba4f3 22 = .ok (.iload_n 0, 1) := by decide +kernel
theorem dJ6_getChars_ba4f3_23 : decode cJ6_getChars_ba4f3 23 = .ok (.bipush (-100), 2) := by decide +kernel
theorem dJ6_getChars_ba4f3_25 : decode cJ6_getChars_ba4f3 25 = .ok (.if_icmp .gt 47, 3) := by decide +kernel
theorem dJ6_getChars_ba4f3_28 : decode cJ6_getChars_ba4f3 28 = .ok (.iload_n 0, 1) := by decide +kernel
theorem dJ6_getChars_ba4f3_29 : decode cJ6_getChars_ba4f3 29 = .ok (.bipush 100, 2) := by decide +kernel
theorem dJ6_getChars_ba4f3_31 : decode cJ6_getChars_ba4f3 31 = .ok (.idiv, 1) := by decide +kernel
theorem dJ6_getChars_ba4f3_32 : decode cJ6_getChars_ba4f3 32 = .ok (.istore_n 3, 1) := by decide +kernel
theorem dJ6_getChars_ba4f3_33 : decode cJ6_getChars_ba4f3 33 = .ok (.iload_n 3, 1) := by decide +kernel
theorem dJ6_getChars_ba4f3_34 : decode cJ6_getChars_ba4f3 34 = .ok (.bipush 100, 2) := by decide +kernel
theorem dJ6_getChars_ba4f3_36 : decode cJ6_getChars_ba4f3 36 = .ok (.imul, 1) := by decide +kernel
theorem dJ6_getChars_ba4f3_37 : decode cJ6_getChars_ba4f3 37 = .ok (.iload_n 0, 1) := by decide +kernel
theorem dJ6_getChars_ba4f3_38 : decode cJ6_getChars_ba4f3 38 = .ok (.isub, 1) := by decide +kernel
theorem dJ6_getChars_ba4f3_39 : decode cJ6_getChars_ba4f3 39 = .ok (.istore 4, 2) := by decide +kernel
theorem dJ6_getChars_ba4f3_41 : decode cJ6_getChars_ba4f3 41 = .ok (.iload_n 3, 1) := by decide +kernel
theorem dJ6_getChars_ba4f3_42 : decode cJ6_getChars_ba4f3 42 = .ok (.istore_n 0, 1) := by decide +kernel
theorem dJ6_getChars_ba4f3_43 : decode cJ6_getChars_ba4f3 43 = .ok (.aload_n 2, 1) := by decide +kernel
theorem dJ6_getChars_ba4f3_44 : decode cJ6_getChars_ba4f3 44 = .ok (.iinc 5 (-1), 3) := by decide +kernel
theorem dJ6_getChars_ba4f3_47 : decode cJ6_getChars_ba4f3 47 = .ok (.iload 5, 2) := by decide +kernel
theorem dJ6_getChars_ba4f3_49 : decode cJ6_getChars_ba4f3 49 = .ok (.getstatic 83, 3) := by decide +kernel
theorem dJ6_getChars_ba4f3_52 : decode cJ6_getChars_ba4f3 52 = .ok (.iload 4, 2) := by decide +kernel
theorem dJ6_getChars_ba4f3_54 : decode cJ6_getChars_ba4f3 54 = .ok (.baload, 1) := by decide +kernel
theorem dJ6_getChars_ba4f3_55 : decode cJ6_getChars_ba4f3 55 = .ok (.bastore, 1) := by decide +kernel
theorem dJ6_getChars_ba4f3_56 : decode cJ6_getChars_ba4f3 56 = .ok (.aload_n 2, 1) := by decide +kernel
theorem dJ6_getChars_ba4f3_57 : decode cJ6_getChars_ba4f3 57 = .ok (.iinc 5 (-1), 3) := by decide +kernel
theorem dJ6_getChars_ba4f3_60 : decode cJ6_getChars_ba4f3 60 = .ok (.iload 5, 2) := by decide +kernel
theorem dJ6_getChars_ba4f3_62 : decode cJ6_getChars_ba4f3 62 = .ok (.getstatic 87, 3) := by decide +kernel
theorem dJ6_getChars_ba4f3_65 : decode cJ6_getChars_ba4f3 65 = .ok (.iload 4, 2) := by decide +kernel
theorem dJ6_getChars_ba4f3_67 : decode cJ6_getChars_ba4f3 67 = .ok (.baload, 1) := by decide +kernel
theorem dJ6_getChars_ba4f3_68 : decode cJ6_getChars_ba4f3 68 = .ok (.bastore, 1) := by decide +kernel
theorem dJ6_getChars_ba4f3_69 : decode cJ6_getChars_ba4f3 69 = .ok (.goto (-47), 3) := by decide +kernel
theorem dJ6_getChars_ba4f3_72 : decode cJ6_getChars_ba4f3 72 = .ok (.aload_n 2, 1) := by decide +kernel
theorem dJ6_getChars_ba4f3_73 : decode cJ6_getChars_ba4f3 73 = .ok (.iinc 5 (-1), 3) := by decide +kernel
theorem dJ6_getChars_ba4f3_76 : decode cJ6_getChars_ba4f3 76 = .ok (.iload 5, 2) := by decide +kernel
theorem dJ6_getChars_ba4f3_78 : decode cJ6_getChars_ba4f3 78 = .ok (.getstatic 83, 3) := by decide +kernel
theorem dJ6_getChars_ba4f3_81 : decode cJ6_getChars_ba4f3 81 = .ok (.iload_n 0, 1) := by decide +kernel
theorem dJ6_getChars_ba4f3_82 : decode cJ6_getChars_ba4f3 82 = .ok (.ineg, 1) := by decide +kernel
theorem dJ6_getChars_ba4f3_83 : decode cJ6_getChars_ba4f3 83 = .ok (.baload, 1) := by decide +kernel
theorem dJ6_getChars_ba4f3_84 : decode cJ6_getChars_ba4f3 84 = .ok (.bastore, 1) := by decide +kernel
theorem dJ6_getChars_ba4f3_85 : decode cJ6_getChars_ba4f3 85 = .ok (.iload_n 0, 1) := by decide +kernel
theorem dJ6_getChars_ba4f3_86 : decode cJ6_getChars_ba4f3 86 = .ok (.bipush (-9), 2) := by decide +kernel
theorem dJ6_getChars_ba4f3_88 : decode cJ6_getChars_ba4f3 88 = .ok (.if_icmp .ge 16, 3) := by decide +kernel
theorem dJ6_getChars_ba4f3_91 : decode cJ6_getChars_ba4f3 91 = .ok (.aload_n 2, 1) := by decide +kernel
theorem dJ6_getChars_ba4f3_92 : decode cJ6_getChars_ba4f3 92 = .ok (.iinc 5 (-1), 3) := by decide +kernel
theorem dJ6_getChars_ba4f3_95 : decode cJ6_getChars_ba4f3 95 = .ok (.iload 5, 2) := by decide +kernel
theorem dJ6_getChars_ba4f3_97 : decode cJ6_getChars_ba4f3 97 = .ok (.getstatic 87, 3) := by decide +kernel
theorem dJ6_getChars_ba4f3_100 : decode cJ6_getChars_ba4f3 100 = .ok (.iload_n 0, 1) := by decide +kernel
theorem dJ6_getChars_ba4f3_101 : decode cJ6_getChars_ba4f3 101 = .ok (.ineg, 1) := by decide +kernel
theorem dJ6_getChars_ba4f3_102 : decode cJ6_getChars_ba4f3 102 = .ok (.baload, 1) := by decide +kernel
theorem dJ6_getChars_ba4f3_103 : decode cJ6_getChars_ba4f3 103 = .ok (.bastore, 1) := by decide +kernel
theorem dJ6_getChars_ba4f3_104 : decode cJ6_getChars_ba4f3 104 = .ok (.iload 6, 2) := by decide +kernel
theorem dJ6_getChars_ba4f3_106 : decode cJ6_getChars_ba4f3 106 = .ok (.ifCond .eq 12, 3) := by decide +kernel
theorem dJ6_getChars_ba4f3_109 : decode cJ6_getChars_ba4f3 109 = .ok (.aload_n 2, 1) := by decide +kernel
theorem dJ6_getChars_ba4f3_110 : decode cJ6_getChars_ba4f3 110 = .ok (.iinc 5 (-1), 3) := by decide +kernel
theorem dJ6_getChars_ba4f3_113 : decode cJ6_getChars_ba4f3 113 = .ok (.iload 5, 2) := by decide +kernel
theorem dJ6_getChars_ba4f3_115 : decode cJ6_getChars_ba4f3 115 = .ok (.bipush 45, 2) := by decide +kernel
theorem dJ6_getChars_ba4f3_117 : decode cJ6_getChars_ba4f3 117 = .ok (.bastore, 1) := by decide +kernel
theorem dJ6_getChars_ba4f3_118 : decode cJ6_getChars_ba4f3 118 = .ok (.iload 5, 2) := by decide +kernel
theorem dJ6_getChars_ba4f3_120 : decode cJ6_getChars_ba4f3 120 = .ok (.ireturn, 1) := by decide +kernel
theorem q4_28 : (Jvm.Cond.fieldLink "java/lang/Integer" (83 : Nat) "java/lang/Integer" "DigitOnes" "[B") ∈ lw_g := zg_of (zin4 (List.mem_of_getElem? (i := 28) rfl)) rfl
theorem q4_30 : (Jvm.Cond.fieldLink "java/lang/Integer" (87 : Nat) "java/lang/Integer" "DigitTens" "[B") ∈ lw_g := zg_of (zin4 (List.mem_of_getElem? (i := 30) rfl)) rfl
theorem q4_27 : (Jvm.Cond.code ({ cls := "java/lang/Integer", name := "getChars", desc := "(II[B)I" } : Jvm.MethodName) prog_17_method_12_code (7 : Nat) (Option.some Jvm.ClassFile.FieldType.int)) ∈ lw_g := zg_of (zin4 (List.mem_of_getElem? (i := 27) rfl)) rfl
theorem q4_26 : (Jvm.Cond.static ({ cls := "java/lang/Integer", name := "getChars", desc := "(II[B)I" } : Jvm.MethodName)) ∈ lw_g := zg_of (zin4 (List.mem_of_getElem? (i := 26) rfl)) rfl
theorem ok_J6_getChars_ba4f3 : zOS yJ6_getChars_ba4f3 cJ6_getChars_ba4f3 7 ((Option.some Jvm.ClassFile.FieldType.int)) 3 := ⟨⟨q4_27, q1_22, by decide, by decide, by decide +kernel⟩, q4_26⟩
set_option maxHeartbeats 4000000 in
set_option maxRecDepth 100000 in
theorem c_sGc (l : Launch) (G : zG) (x idx : Int) (bv cap w : Nat) (hx : 0 ≤ x ∧ x < 100) (hw : (x < 10 ∧ w = 1) ∨ (10 ≤ x ∧ w = 2)) (hi : (w : Int) ≤ idx ∧ idx ≤ cap ∧ cap ≤ 34) (hb9 : bv ≥ G.2 99) : Met l yJ6_getChars_ba4f3 (wq yJ6_getChars_ba4f3 cJ6_getChars_ba4f3 7 ((Option.some Jvm.ClassFile.FieldType.int))) (rmM 0 0 0 0) (va_Pc [.int (zI (x)), .int (zI (idx)), .ref (bv)] (zK G (fun H => zBy (G.2 3) bv cap H ∧ zTx G H))) (zM (fun y => y = bv) (some (.int ((zI (idx - w))))) (fun H => zBy (G.2 3) bv cap H)) 0 0 (fun y => y = bv) := by
  refine z_enterMI (by decide +kernel) (Nat.le_of_ble_eq_true rfl) ?_
  intro p env s m below meth cod Q S hG hP hS ret ls hl
  have hl : lv_has ls 7 [(0, .int (zI (x))), (1, .int (zI (idx))), (2, .ref (bv))] := hl
  obtain ⟨hV, hT⟩ := hP
  rcases hw with hw | hw
  · skip
    refine z_iload_n S dJ6_getChars_ba4f3_0 hl 1 rfl rfl ?_
    refine z_istore (lv' := [(5, .int (zI (idx))), (0, .int (zI (x))), (1, .int (zI (idx))), (2, .ref (bv))]) S dJ6_getChars_ba4f3_1 hl (by decide) rfl (fun ls hl => ?_)
    refine z_iload_n S dJ6_getChars_ba4f3_3 hl 1 rfl rfl ?_
    refine z_if_ge_T S 11 dJ6_getChars_ba4f3_4 (by decide) (by omega) (by omega) ?_
    refine z_iconst S dJ6_getChars_ba4f3_11 ?_
    refine z_istore (lv' := [(6, .int (zI (0))), (5, .int (zI (idx))), (0, .int (zI (x))), (1, .int (zI (idx))), (2, .ref (bv))]) S dJ6_getChars_ba4f3_12 hl (by decide) rfl (fun ls hl => ?_)
    refine z_iload S dJ6_getChars_ba4f3_14 hl 0 rfl ?_
    refine z_if_ne_F S 22 dJ6_getChars_ba4f3_16 (by decide) (by omega) (by omega) ?_
    refine z_iload_n S dJ6_getChars_ba4f3_19 hl 2 rfl rfl ?_
    refine lv_ineg S.1 S.2.1 dJ6_getChars_ba4f3_20 ?_
    rw [z_neg]
    refine z_istore_n (lv' := [(0, .int (zI (-(x)))), (6, .int (zI (0))), (5, .int (zI (idx))), (1, .int (zI (idx))), (2, .ref (bv))]) S dJ6_getChars_ba4f3_21 hl rfl (by decide) rfl (fun ls hl => ?_)
    refine z_iload_n S dJ6_getChars_ba4f3_22 hl 0 rfl rfl ?_
    refine z_bipush S dJ6_getChars_ba4f3_23 rfl ?_
    refine z_icmp_gt_T S 72 dJ6_getChars_ba4f3_25 (by decide) (by omega) (by omega) (by omega) ?_
    refine z_aload_n S dJ6_getChars_ba4f3_72 hl 4 rfl rfl ?_
    refine z_iinc (lv' := [(5, .int (zI (idx + (-1)))), (0, .int (zI (-(x)))), (6, .int (zI (0))), (1, .int (zI (idx))), (2, .ref (bv))]) S dJ6_getChars_ba4f3_73 hl 2 rfl (by decide) rfl (fun ls hl => ?_)
    refine z_iload S dJ6_getChars_ba4f3_76 hl 0 rfl ?_
    obtain ⟨d1, h1s, h1b, h1l⟩ := hT.2.1
    skip
    refine z_gets S hG 2 rfl h1s q4_28 dJ6_getChars_ba4f3_78 ?_
    refine z_iload_n S dJ6_getChars_ba4f3_81 hl 1 rfl rfl ?_
    refine lv_ineg S.1 S.2.1 dJ6_getChars_ba4f3_82 ?_
    rw [z_neg]
    refine z_bald S (zG_by hG) h1b (by omega) (by omega) dJ6_getChars_ba4f3_83 (fun bx_83 hbx_83 => ?_)
    refine z_bast S hG hV hS (rfl) (by omega) (by omega) dJ6_getChars_ba4f3_84 (fun H_1 L_1 hat hz oq hS => ?_)
    have hV := hat
    have hT := zTx.kept hT (fun y hx h9 => oq y (by omega))
    refine z_iload_n S dJ6_getChars_ba4f3_85 hl 1 rfl rfl ?_
    refine z_bipush S dJ6_getChars_ba4f3_86 rfl ?_
    refine z_icmp_ge_T S 104 dJ6_getChars_ba4f3_88 (by decide) (by omega) (by omega) (by omega) ?_
    refine z_iload S dJ6_getChars_ba4f3_104 hl 2 rfl ?_
    refine z_if_eq_T S 118 dJ6_getChars_ba4f3_106 (by decide) (by omega) (by omega) ?_
    refine z_iload S dJ6_getChars_ba4f3_118 hl 0 rfl ?_
    exact ret _ _ _ _ _ _ _ dJ6_getChars_ba4f3_120 (by congr 1; omega) hS (hV) (Nat.le_of_ble_eq_true rfl) (Nat.le_of_ble_eq_true rfl)
  · skip
    refine z_iload_n S dJ6_getChars_ba4f3_0 hl 1 rfl rfl ?_
    refine z_istore (lv' := [(5, .int (zI (idx))), (0, .int (zI (x))), (1, .int (zI (idx))), (2, .ref (bv))]) S dJ6_getChars_ba4f3_1 hl (by decide) rfl (fun ls hl => ?_)
    refine z_iload_n S dJ6_getChars_ba4f3_3 hl 1 rfl rfl ?_
    refine z_if_ge_T S 11 dJ6_getChars_ba4f3_4 (by decide) (by omega) (by omega) ?_
    refine z_iconst S dJ6_getChars_ba4f3_11 ?_
    refine z_istore (lv' := [(6, .int (zI (0))), (5, .int (zI (idx))), (0, .int (zI (x))), (1, .int (zI (idx))), (2, .ref (bv))]) S dJ6_getChars_ba4f3_12 hl (by decide) rfl (fun ls hl => ?_)
    refine z_iload S dJ6_getChars_ba4f3_14 hl 0 rfl ?_
    refine z_if_ne_F S 22 dJ6_getChars_ba4f3_16 (by decide) (by omega) (by omega) ?_
    refine z_iload_n S dJ6_getChars_ba4f3_19 hl 2 rfl rfl ?_
    refine lv_ineg S.1 S.2.1 dJ6_getChars_ba4f3_20 ?_
    rw [z_neg]
    refine z_istore_n (lv' := [(0, .int (zI (-(x)))), (6, .int (zI (0))), (5, .int (zI (idx))), (1, .int (zI (idx))), (2, .ref (bv))]) S dJ6_getChars_ba4f3_21 hl rfl (by decide) rfl (fun ls hl => ?_)
    refine z_iload_n S dJ6_getChars_ba4f3_22 hl 0 rfl rfl ?_
    refine z_bipush S dJ6_getChars_ba4f3_23 rfl ?_
    refine z_icmp_gt_T S 72 dJ6_getChars_ba4f3_25 (by decide) (by omega) (by omega) (by omega) ?_
    refine z_aload_n S dJ6_getChars_ba4f3_72 hl 4 rfl rfl ?_
    refine z_iinc (lv' := [(5, .int (zI (idx + (-1)))), (0, .int (zI (-(x)))), (6, .int (zI (0))), (1, .int (zI (idx))), (2, .ref (bv))]) S dJ6_getChars_ba4f3_73 hl 2 rfl (by decide) rfl (fun ls hl => ?_)
    refine z_iload S dJ6_getChars_ba4f3_76 hl 0 rfl ?_
    obtain ⟨d1, h1s, h1b, h1l⟩ := hT.2.1
    skip
    refine z_gets S hG 2 rfl h1s q4_28 dJ6_getChars_ba4f3_78 ?_
    refine z_iload_n S dJ6_getChars_ba4f3_81 hl 1 rfl rfl ?_
    refine lv_ineg S.1 S.2.1 dJ6_getChars_ba4f3_82 ?_
    rw [z_neg]
    refine z_bald S (zG_by hG) h1b (by omega) (by omega) dJ6_getChars_ba4f3_83 (fun bx_83 hbx_83 => ?_)
    refine z_bast S hG hV hS (rfl) (by omega) (by omega) dJ6_getChars_ba4f3_84 (fun H_2 L_2 hat hz oq hS => ?_)
    have hV := hat
    have hT := zTx.kept hT (fun y hx h9 => oq y (by omega))
    refine z_iload_n S dJ6_getChars_ba4f3_85 hl 1 rfl rfl ?_
    refine z_bipush S dJ6_getChars_ba4f3_86 rfl ?_
    refine z_icmp_ge_F S 104 dJ6_getChars_ba4f3_88 (by decide) (by omega) (by omega) (by omega) ?_
    refine z_aload_n S dJ6_getChars_ba4f3_91 hl 4 rfl rfl ?_
    refine z_iinc (lv' := [(5, .int (zI (idx + (-1) + (-1)))), (0, .int (zI (-(x)))), (6, .int (zI (0))), (1, .int (zI (idx))), (2, .ref (bv))]) S dJ6_getChars_ba4f3_92 hl 0 rfl (by decide) rfl (fun ls hl => ?_)
    refine z_iload S dJ6_getChars_ba4f3_95 hl 0 rfl ?_
    obtain ⟨d2, h2s, h2b, h2l⟩ := hT.2.2.1
    skip
    refine z_gets S hG 3 rfl h2s q4_30 dJ6_getChars_ba4f3_97 ?_
    refine z_iload_n S dJ6_getChars_ba4f3_100 hl 1 rfl rfl ?_
    refine lv_ineg S.1 S.2.1 dJ6_getChars_ba4f3_101 ?_
    rw [z_neg]
    refine z_bald S (zG_by hG) h2b (by omega) (by omega) dJ6_getChars_ba4f3_102 (fun bx_102 hbx_102 => ?_)
    refine z_bast S hG hV hS (rfl) (by omega) (by omega) dJ6_getChars_ba4f3_103 (fun H_3 L_3 hat hz oq hS => ?_)
    have hV := hat
    have hT := zTx.kept hT (fun y hx h9 => oq y (by omega))
    refine z_iload S dJ6_getChars_ba4f3_104 hl 2 rfl ?_
    refine z_if_eq_T S 118 dJ6_getChars_ba4f3_106 (by decide) (by omega) (by omega) ?_
    refine z_iload S dJ6_getChars_ba4f3_118 hl 0 rfl ?_
    exact ret _ _ _ _ _ _ _ dJ6_getChars_ba4f3_120 (by congr 1; omega) hS (hV) (Nat.le_of_ble_eq_true rfl) (Nat.le_of_ble_eq_true rfl)
theorem dJ5_append_c97b9_0 : decode cJ5_append_c97b9 0 = .ok (.aload_n 0, 1) := by decide +kernel
theorem dJ5_append_c97b9_1 : decode cJ5_append_c97b9 1 = .ok (.getfield 79, 3) := by decide +kernel
theorem dJ5_append_c97b9_4 : decode cJ5_append_c97b9 4 = .ok (.istore_n 2, 1) := by decide +kernel
theorem dJ5_append_c97b9_5 : decode cJ5_append_c97b9 5 = .ok (.iload_n 2, 1) := by decide +kernel
theorem dJ5_append_c97b9_6 : decode cJ5_append_c97b9 6 = .ok (.iload_n 1, 1) := by decide +kernel
theorem dJ5_append_c97b9_7 : decode cJ5_append_c97b9 7 = .ok (.invokestatic 245, 3) := by decide +kernel
theorem dJ5_append_c97b9_10 : decode cJ5_append_c97b9 10 = .ok (.iadd, 1) := by decide +kernel
theorem dJ5_append_c97b9_11 : decode cJ5_append_c97b9 11 = .ok (.istore_n 3, 1) := by decide +kernel
theorem dJ5_append_c97b9_12 : decode cJ5_append_c97b9 12 = .ok (.aload_n 0, 1) := by decide +kernel
theorem dJ5_append_c97b9_13 : decode cJ5_append_c97b9 13 = .ok (.iload_n 3, 1) := by decide +kernel
theorem dJ5_append_c97b9_14 : decode cJ5_append_c97b9 14 = .ok (.invokevirtual 100, 3) := by decide +kernel
theorem dJ5_append_c97b9_17 : decode cJ5_append_c97b9 17 = .ok (.aload_n 0, 1) := by decide +kernel
theorem dJ5_append_c97b9_18 : decode cJ5_append_c97b9 18 = .ok (.invokevirtual 83, 3) := by decide +kernel
theorem dJ5_append_c97b9_21 : decode cJ5_append_c97b9 21 = .ok (.ifCond .eq 16, 3) := by decide +kernel
theorem dJ5_append_c97b9_24 : decode cJ5_append_c97b9 24 = .ok (.iload_n 1, 1) := by decide +kernel
theorem dJ5_append_c97b9_25 : decode cJ5_append_c97b9 25 = .ok (.iload_n 3, 1) := by decide +kernel
theorem dJ5_append_c97b9_26 : decode cJ5_append_c97b9 26 = .ok (.aload_n 0, 1) := by decide +kernel
theorem dJ5_append_c97b9_27 : decode cJ5_append_c97b9 27 = .ok (.getfield 15, 3) := by decide +kernel
theorem dJ5_append_c97b9_30 : decode cJ5_append_c97b9 30 = .ok (.invokestatic 248, 3) := by decide +kernel
theorem dJ5_append_c97b9_33 : decode cJ5_append_c97b9 33 = .ok (.pop, 1) := by decide +kernel
theorem dJ5_append_c97b9_34 : decode cJ5_append_c97b9 34 = .ok (.goto 14, 3) := by decide +kernel
theorem dJ5_append_c97b9_37 : decode cJ5_append_c97b9 37 = .ok (.iload_n 1, 1) := by decide +kernel
theorem dJ5_append_c97b9_38 : decode cJ5_append_c97b9 38 = .ok (.iload_n 2, 1) := by decide +kernel
theorem dJ5_append_c97b9_39 : decode cJ5_append_c97b9 39 = .ok (.iload_n 3, 1) := by decide +kernel
theorem dJ5_append_c97b9_40 : decode cJ5_append_c97b9 40 = .ok (.aload_n 0, 1) := by decide +kernel
theorem dJ5_append_c97b9_41 : decode cJ5_append_c97b9 41 = .ok (.getfield 15, 3) := by decide +kernel
theorem dJ5_append_c97b9_44 : decode cJ5_append_c97b9 44 = .ok (.invokestatic 251, 3) := by decide +kernel
theorem dJ5_append_c97b9_47 : decode cJ5_append_c97b9 47 = .ok (.pop, 1) := by decide +kernel
theorem dJ5_append_c97b9_48 : decode cJ5_append_c97b9 48 = .ok (.aload_n 0, 1) := by decide +kernel
theorem dJ5_append_c97b9_49 : decode cJ5_append_c97b9 49 = .ok (.iload_n 3, 1) := by decide +kernel
theorem dJ5_append_c97b9_50 : decode cJ5_append_c97b9 50 = .ok (.putfield 79, 3) := by decide +kernel
theorem dJ5_append_c97b9_53 : decode cJ5_append_c97b9 53 = .ok (.aload_n 0, 1) := by decide +kernel
theorem dJ5_append_c97b9_54 : decode cJ5_append_c97b9 54 = .ok (.areturn, 1) := by decide +kernel
theorem q4_22 : (Jvm.Cond.methodLink "java/lang/AbstractStringBuilder" (245 : Nat) ({ cls := "java/lang/Integer", name := "stringSize", desc := "(I)I" } : Jvm.MethodName)) ∈ lw_g := zg_of (zin4 (List.mem_of_getElem? (i := 22) rfl)) rfl
theorem q4_25 : (Jvm.Cond.methodLink "java/lang/AbstractStringBuilder" (248 : Nat) ({ cls := "java/lang/Integer", name := "getChars", desc := "(II[B)I" } : Jvm.MethodName)) ∈ lw_g := zg_of (zin4 (List.mem_of_getElem? (i := 25) rfl)) rfl
theorem q4_21 : (Jvm.Cond.code ({ cls := "java/lang/AbstractStringBuilder", name := "append", desc := "(I)Ljava/lang/AbstractStringBuilder;" } : Jvm.MethodName) prog_8_method_32_code (4 : Nat) (Option.some (Jvm.ClassFile.FieldType.object "java/lang/AbstractStringBuilder"))) ∈ lw_g := zg_of (zin4 (List.mem_of_getElem? (i := 21) rfl)) rfl
theorem ok_J5_append_c97b9 : zOK yJ5_append_c97b9 cJ5_append_c97b9 4 ((Option.some (Jvm.ClassFile.FieldType.object "java/lang/AbstractStringBuilder"))) 1 := ⟨q4_21, q1_25, by decide, by decide, by decide +kernel⟩
set_option maxHeartbeats 4000000 in
set_option maxRecDepth 100000 in
theorem c_sApI (l : Launch) (G : zG) (q sz n w : Nat) (x : Int) (h99 : sz ≥ G.2 99) (hx : 0 ≤ x ∧ x < 100) (hw : (x < 10 ∧ w = 1) ∨ (10 ≤ x ∧ w = 2)) (hn : n + w ≤ 34) : Met l yJ5_append_c97b9 (wq yJ5_append_c97b9 cJ5_append_c97b9 4 ((Option.some (Jvm.ClassFile.FieldType.object "java/lang/AbstractStringBuilder")))) (rmM 4 91 1 34) (va_Pc [.ref (q), .int (zI (x))] (zK G (fun H => hSX G q sz n n H ∧ zTx G H))) (zM (fun y => sz ≤ y) (some (.ref (q))) (fun H => hSX G q sz (n + w) (n + w) H)) 1 34 (fun y => sz ≤ y) := by
  refine z_enterMA (by decide +kernel) (Nat.le_of_ble_eq_true rfl) ?_
  intro p env s m below meth cod Q S hG hP hS ret ls hl
  have hl : lv_has ls 4 [(0, .ref (q)), (1, .int (zI (x)))] := hl
  obtain ⟨v, cap, ⟨hQ, hV, hne⟩, hq, hv, hc, hnn⟩ := hP.1
  have hT := hP.2
  have hqs := va_lt hQ
  have hvs := hV.lt
  refine z_aload_n S dJ5_append_c97b9_0 hl 0 rfl rfl ?_
  refine z_getR S hG hQ zc_J4 3 (by decide) q3_152 rfl dJ5_append_c97b9_1 ?_
  refine z_istore_n (lv' := [(2, .int (zI ((n : Int)))), (0, .ref (q)), (1, .int (zI (x)))]) S dJ5_append_c97b9_4 hl rfl (by decide) rfl (fun ls hl => ?_)
  refine z_iload_n S dJ5_append_c97b9_5 hl 0 rfl rfl ?_
  refine z_iload_n S dJ5_append_c97b9_6 hl 2 rfl rfl ?_
  refine z_callSs S hG (c_sSs l G x w hx hw) ok_J6_stringSize_0f7a4 q4_22 (trivial) ⟨rfl, rfl, by decide, by decide⟩ ⟨Nat.zero_le _, Nat.zero_le _⟩ rfl (Nat.le_of_ble_eq_true rfl) hl.1 rfl dJ5_append_c97b9_7 ?_
  refine z_iadd S dJ5_append_c97b9_10 ?_
  refine z_istore_n (lv' := [(3, .int (zI (((n : Int)) + ((w : Int))))), (2, .int (zI ((n : Int)))), (0, .ref (q)), (1, .int (zI (x)))]) S dJ5_append_c97b9_11 hl rfl (by decide) rfl (fun ls hl => ?_)
  refine z_aload_n S dJ5_append_c97b9_12 hl 2 rfl rfl ?_
  refine z_iload_n S dJ5_append_c97b9_13 hl 0 rfl rfl ?_
  refine z_callQ S hG hS (c_sEn l G q sz n ((n : Int) + w) (n + w) (by omega) (by omega)) (fun _ h => h) ok_J5_ensureCapacityInternal_d00df q3_171 (va_Nw.use rfl (hG.2.2.2.2.2.2.2.2.2.2.2 _ (List.mem_of_getElem? (i := 0) rfl))) (z_rcv hG hQ zc_J4) q3_169 (⟨v, cap, ⟨hQ, hV, hne⟩, hq, hv, hc, hnn⟩) ⟨rfl, rfl, by decide, by decide⟩ ⟨Nat.le_of_ble_eq_true rfl, Nat.le_of_ble_eq_true rfl⟩ rfl (Nat.le_of_ble_eq_true rfl) hl.1 rfl dJ5_append_c97b9_14 (fun H_1 L_1 hB hz oq hS => ?_)
  have hT := zTx.kept hT (fun y hx h9 => oq y hx (by show ¬ (sz ≤ _); omega))
  obtain ⟨v, cap, ⟨hQ, hV, hne⟩, hq, hv, hc, hnn⟩ := hB
  have hqs := va_lt hQ
  have hvs := hV.lt
  refine z_aload_n S dJ5_append_c97b9_17 hl 2 rfl rfl ?_
  refine z_callQr S hG (c_sLat l G q v n cap) ok_J5_isLatin1_aae02 q3_203 (S.2.2.2.2 _ q3_205) (z_rcv hG hQ zc_J4) q3_202 (⟨⟨hQ, hV, hne⟩, hT⟩) ⟨rfl, rfl, by decide, by decide⟩ ⟨Nat.le_of_ble_eq_true rfl, Nat.le_of_ble_eq_true rfl⟩ rfl (Nat.le_of_ble_eq_true rfl) hl.1 rfl dJ5_append_c97b9_18 ?_
  refine z_bif_eq S 37 dJ5_append_c97b9_21 (by decide) (fun qz => ?_) (fun qz => ?_)
  · exact absurd qz (by decide)
  refine z_iload_n S dJ5_append_c97b9_24 hl 3 rfl rfl ?_
  refine z_iload_n S dJ5_append_c97b9_25 hl 0 rfl rfl ?_
  refine z_aload_n S dJ5_append_c97b9_26 hl 2 rfl rfl ?_
  refine z_getR S hG hQ zc_J4 0 (by decide) q3_149 rfl dJ5_append_c97b9_27 ?_
  refine z_callSM S hG hS (c_sGc l G x ((n : Int) + w) v cap w hx hw (by omega) (by omega)) (fun y z => by have h2 : y = v := z; show sz ≤ y; omega) ok_J6_getChars_ba4f3 q4_25 (⟨hV, hT⟩) ⟨rfl, rfl, by decide, by decide⟩ ⟨Nat.le_of_ble_eq_true rfl, Nat.le_of_ble_eq_true rfl⟩ rfl (Nat.le_of_ble_eq_true rfl) hl.1 rfl dJ5_append_c97b9_30 (fun H_2 L_2 hB hz oq hS => ?_)
  have hQ := va_at.kept hQ (oq _ (va_lt hQ) (by show ¬ (_ = v); omega))
  have hT := zTx.kept hT (fun y hx h9 => oq y hx (by show ¬ (_ = v); omega))
  have hV := hB
  refine lv_pop S.1 S.2.1 dJ5_append_c97b9_33 rfl ?_
  refine z_goto S 48 dJ5_append_c97b9_34 (by decide) ?_
  refine z_aload_n S dJ5_append_c97b9_48 hl 2 rfl rfl ?_
  refine z_iload_n S dJ5_append_c97b9_49 hl 0 rfl rfl ?_
  refine z_putR S hG hQ zc_J4 tyJ4 tyJ4_ok nmJ4 hS (by show sz ≤ q; omega) 3 (by decide) q3_152 rfl (tyJ4_ok 3 (by decide)) rfl rfl (Nat.le_of_ble_eq_true rfl) dJ5_append_c97b9_50 (fun H_3 L_3 hat hz oq hS => ?_)
  have hQ := hat
  have hV := zBy.kept hV (fun _ => oq _ (show q ≠ v by omega).symm)
  have hT := zTx.kept hT (fun y hx h9 => oq y (by omega))
  refine z_aload_n S dJ5_append_c97b9_53 hl 2 rfl rfl ?_
  exact ret _ _ _ _ _ _ dJ5_append_c97b9_54 hS (⟨v, cap, ⟨hQ, hV, hne⟩, hq, hv, by omega, Nat.le_refl _⟩) (Nat.le_of_ble_eq_true rfl) (Nat.le_of_ble_eq_true rfl)
theorem dJ0_coder_7d493_0 : decode cJ0_coder_7d493 0 = .ok (.getstatic 38, 3) := by decide +kernel
theorem dJ0_coder_7d493_3 : decode cJ0_coder_7d493 3 = .ok (.ifCond .eq 10, 3) := by decide +kernel
theorem dJ0_coder_7d493_6 : decode cJ0_coder_7d493 6 = .ok (.aload_n 0, 1) := by decide +kernel
theorem dJ0_coder_7d493_7 : decode cJ0_coder_7d493 7 = .ok (.getfield 15, 3) := by decide +kernel
theorem dJ0_coder_7d493_10 : decode cJ0_coder_7d493 10 = .ok (.goto 4, 3) := by decide +kernel
theorem dJ0_coder_7d493_13 : decode cJ0_coder_7d493 13 = .ok (.iconst 1, 1) := by decide +kernel
theorem dJ0_coder_7d493_14 : decode cJ0_coder_7d493 14 = .ok (.ireturn, 1) := by decide +kernel
theorem q4_112 : (Jvm.Cond.fieldLink "java/lang/String" (38 : Nat) "java/lang/String" "COMPACT_STRINGS" "Z") ∈ lw_g := zg_of (zin4 (List.mem_of_getElem? (i := 112) rfl)) rfl
theorem q4_144 : (Jvm.Cond.fieldLink "java/lang/String" (15 : Nat) "java/lang/String" "coder" "B") ∈ lw_g := zg_of (zin4 (List.mem_of_getElem? (i := 144) rfl)) rfl
theorem q4_111 : (Jvm.Cond.code ({ cls := "java/lang/String", name := "coder", desc := "()B" } : Jvm.MethodName) prog_23_method_152_code (1 : Nat) (Option.some Jvm.ClassFile.FieldType.byte)) ∈ lw_g := zg_of (zin4 (List.mem_of_getElem? (i := 111) rfl)) rfl
theorem q1_27 : (Jvm.Cond.initialized "java/lang/String") ∈ lw_g := zg_of (zin1 (List.mem_of_getElem? (i := 27) rfl)) rfl
theorem q4_109 : (Jvm.Cond.instanceMethod ({ cls := "java/lang/String", name := "coder", desc := "()B" } : Jvm.MethodName)) ∈ lw_g := zg_of (zin4 (List.mem_of_getElem? (i := 109) rfl)) rfl
theorem q4_110 : (Jvm.Cond.selects "java/lang/String" ({ cls := "java/lang/String", name := "coder", desc := "()B" } : Jvm.MethodName) ({ cls := "java/lang/String", name := "coder", desc := "()B" } : Jvm.MethodName)) ∈ lw_g := zg_of (zin4 (List.mem_of_getElem? (i := 110) rfl)) rfl
theorem ok_J0_coder_7d493 : zOV yJ0_coder_7d493 cJ0_coder_7d493 1 ((Option.some Jvm.ClassFile.FieldType.byte)) 0 := ⟨⟨q4_111, q1_27, by decide, by decide, by decide +kernel⟩, q4_109, q4_110⟩
set_option maxHeartbeats 4000000 in
set_option maxRecDepth 100000 in
theorem c_sCod (l : Launch) (G : zG) (lt lv : Nat) : Met l yJ0_coder_7d493 (wq yJ0_coder_7d493 cJ0_coder_7d493 1 ((Option.some Jvm.ClassFile.FieldType.byte))) (rmR 0 0) (va_Pc [.ref (lt)] (zK G (fun H => hLt G lt lv H ∧ zTx G H))) (zQ (some (.int 0))) 0 0 zF := by
  refine z_enterY (by decide +kernel) (Nat.le_of_ble_eq_true rfl) ?_
  intro p env s m below meth cod Q S hG hP ret ls hl
  have hl : lv_has ls 1 [(0, .ref (lt))] := hl
  refine z_gets S hG 1 rfl hP.2.1 q4_112 dJ0_coder_7d493_0 ?_
  refine lv_if_eq (tgt := 13) S.1 S.2.1 dJ0_coder_7d493_3 (by decide) (fun c_3 => ?_) (fun c_3 => ?_)
  · exact absurd c_3 (by decide)
  refine z_aload_n S dJ0_coder_7d493_6 hl 0 rfl rfl ?_
  refine z_getL S hG hP.1 1 (by right; exact ⟨rfl, rfl⟩) q4_144 dJ0_coder_7d493_7 ?_
  refine z_goto S 14 dJ0_coder_7d493_10 (by decide) ?_
  exact ret _ _ _ dJ0_coder_7d493_14 (rfl)
theorem dJ0_length_8abf5_0 : decode cJ0_length_8abf5 0 = .ok (.aload_n 0, 1) := by decide +kernel
theorem dJ0_length_8abf5_1 : decode cJ0_length_8abf5 1 = .ok (.getfield 9, 3) := by decide +kernel
theorem dJ0_length_8abf5_4 : decode cJ0_length_8abf5 4 = .ok (.arraylength, 1) := by decide +kernel
theorem dJ0_length_8abf5_5 : decode cJ0_length_8abf5 5 = .ok (.aload_n 0, 1) := by decide +kernel
theorem dJ0_length_8abf5_6 : decode cJ0_length_8abf5 6 = .ok (.invokevirtual 335, 3) := by decide +kernel
theorem dJ0_length_8abf5_9 : decode cJ0_length_8abf5 9 = .ok (.ishr, 1) := by decide +kernel
theorem dJ0_length_8abf5_10 : decode cJ0_length_8abf5 10 = .ok (.ireturn, 1) := by decide +kernel
theorem q4_143 : (Jvm.Cond.fieldLink "java/lang/String" (9 : Nat) "java/lang/String" "value" "[B") ∈ lw_g := zg_of (zin4 (List.mem_of_getElem? (i := 143) rfl)) rfl
theorem q4_108 : (Jvm.Cond.methodLink "java/lang/String" (335 : Nat) ({ cls := "java/lang/String", name := "coder", desc := "()B" } : Jvm.MethodName)) ∈ lw_g := zg_of (zin4 (List.mem_of_getElem? (i := 108) rfl)) rfl
theorem q4_107 : (Jvm.Cond.code ({ cls := "java/lang/String", name := "length", desc := "()I" } : Jvm.MethodName) prog_23_method_54_code (1 : Nat) (Option.some Jvm.ClassFile.FieldType.int)) ∈ lw_g := zg_of (zin4 (List.mem_of_getElem? (i := 107) rfl)) rfl
theorem q4_105 : (Jvm.Cond.instanceMethod ({ cls := "java/lang/String", name := "length", desc := "()I" } : Jvm.MethodName)) ∈ lw_g := zg_of (zin4 (List.mem_of_getElem? (i := 105) rfl)) rfl
theorem q4_106 : (Jvm.Cond.selects "java/lang/String" ({ cls := "java/lang/String", name := "length", desc := "()I" } : Jvm.MethodName) ({ cls := "java/lang/String", name := "length", desc := "()I" } : Jvm.MethodName)) ∈ lw_g := zg_of (zin4 (List.mem_of_getElem? (i := 106) rfl)) rfl
theorem ok_J0_length_8abf5 : zOV yJ0_length_8abf5 cJ0_length_8abf5 1 ((Option.some Jvm.ClassFile.FieldType.int)) 0 := ⟨⟨q4_107, q1_27, by decide, by decide, by decide +kernel⟩, q4_105, q4_106⟩
set_option maxHeartbeats 4000000 in
set_option maxRecDepth 100000 in
theorem c_sLen (l : Launch) (G : zG) (lt lv k : Nat) : Met l yJ0_length_8abf5 (wq yJ0_length_8abf5 cJ0_length_8abf5 1 ((Option.some Jvm.ClassFile.FieldType.int))) (rmR 1 20) (va_Pc [.ref (lt)] (zK G (fun H => hLt G lt lv H ∧ zTx G H ∧ zBy (G.2 3) lv k H))) (zQ (some (.int ((zI ((k : Int))))))) 0 0 zF := by
  refine z_enterI (by decide +kernel) (Nat.le_of_ble_eq_true rfl) ?_
  intro p env s m below meth cod Q S hG hP ret ls hl
  have hl : lv_has ls 1 [(0, .ref (lt))] := hl
  obtain ⟨hL, hT, hV⟩ := hP
  refine z_aload_n S dJ0_length_8abf5_0 hl 0 rfl rfl ?_
  refine z_getL S hG hL 0 (by left; exact ⟨rfl, rfl⟩) q4_143 dJ0_length_8abf5_1 ?_
  refine z_blen S (zG_by hG) hV dJ0_length_8abf5_4 ?_
  refine z_aload_n S dJ0_length_8abf5_5 hl 0 rfl rfl ?_
  refine z_callQr S hG (c_sCod l G lt lv) ok_J0_coder_7d493.1 q4_109 (S.2.2.2.2 _ q4_110) (z_rcvL hG hL) q4_108 (⟨hL, hT⟩) ⟨rfl, rfl, by decide, by decide⟩ ⟨Nat.zero_le _, Nat.zero_le _⟩ rfl (Nat.le_of_ble_eq_true rfl) hl.1 rfl dJ0_length_8abf5_6 ?_
  refine lv_ishr S.1 S.2.1 dJ0_length_8abf5_9 ?_
  rw [z_shr0]
  exact ret _ _ _ dJ0_length_8abf5_10 (rfl)
theorem dJ0_getBytes_840e7_0 : decode cJ0_getBytes_840e7 0 = .ok (.aload_n 0, 1) := by decide +kernel
theorem dJ0_getBytes_840e7_1 : decode cJ0_getBytes_840e7 1 = .ok (.invokevirtual 335, 3) := by decide +kernel
theorem dJ0_getBytes_840e7_4 : decode cJ0_getBytes_840e7 4 = .ok (.iload_n 3, 1) := by decide +kernel
theorem dJ0_getBytes_840e7_5 : decode cJ0_getBytes_840e7 5 = .ok (.if_icmp .ne 23, 3) := by decide +kernel
theorem dJ0_getBytes_840e7_8 : decode cJ0_getBytes_840e7 8 = .ok (.aload_n 0, 1) := by decide +kernel
theorem dJ0_getBytes_840e7_9 : decode cJ0_getBytes_840e7 9 = .ok (.getfield 9, 3) := by decide +kernel
theorem dJ0_getBytes_840e7_12 : decode cJ0_getBytes_840e7 12 = .ok (.iconst 0, 1) := by decide +kernel
theorem dJ0_getBytes_840e7_13 : decode cJ0_getBytes_840e7 13 = .ok (.aload_n 1, 1) := by decide +kernel
theorem dJ0_getBytes_840e7_14 : decode cJ0_getBytes_840e7 14 = .ok (.iload_n 2, 1) := by decide +kernel
theorem dJ0_getBytes_840e7_15 : decode cJ0_getBytes_840e7 15 = .ok (.iload_n 3, 1) := by decide +kernel
theorem dJ0_getBytes_840e7_16 : decode cJ0_getBytes_840e7 16 = .ok (.ishl, 1) := by decide +kernel
theorem dJ0_getBytes_840e7_17 : decode cJ0_getBytes_840e7 17 = .ok (.aload_n 0, 1) := by decide +kernel
theorem dJ0_getBytes_840e7_18 : decode cJ0_getBytes_840e7 18 = .ok (.getfield 9, 3) := by decide +kernel
theorem dJ0_getBytes_840e7_21 : decode cJ0_getBytes_840e7 21 = .ok (.arraylength, 1) := by decide +kernel
theorem dJ0_getBytes_840e7_22 : decode cJ0_getBytes_840e7 22 = .ok (.invokestatic 212, 3) := by decide +kernel
theorem dJ0_getBytes_840e7_25 : decode cJ0_getBytes_840e7 25 = .ok (.goto 18, 3) := by decide +kernel
theorem dJ0_getBytes_840e7_28 : decode cJ0_getBytes_840e7 28 = .ok (.aload_n 0, 1) := by decide +kernel
theorem dJ0_getBytes_840e7_29 : decode cJ0_getBytes_840e7 29 = .ok (.getfield 9, 3) := by decide +kernel
theorem dJ0_getBytes_840e7_32 : decode cJ0_getBytes_840e7 32 = .ok (.iconst 0, 1) := by decide +kernel
theorem dJ0_getBytes_840e7_33 : decode cJ0_getBytes_840e7 33 = .ok (.aload_n 1, 1) := by decide +kernel
theorem dJ0_getBytes_840e7_34 : decode cJ0_getBytes_840e7 34 = .ok (.iload_n 2, 1) := by decide +kernel
theorem dJ0_getBytes_840e7_35 : decode cJ0_getBytes_840e7 35 = .ok (.aload_n 0, 1) := by decide +kernel
theorem dJ0_getBytes_840e7_36 : decode cJ0_getBytes_840e7 36 = .ok (.getfield 9, 3) := by decide +kernel
theorem dJ0_getBytes_840e7_39 : decode cJ0_getBytes_840e7 39 = .ok (.arraylength, 1) := by decide +kernel
theorem dJ0_getBytes_840e7_40 : decode cJ0_getBytes_840e7 40 = .ok (.invokestatic 106, 3) := by decide +kernel
theorem dJ0_getBytes_840e7_43 : decode cJ0_getBytes_840e7 43 = .ok (.return_, 1) := by decide +kernel
theorem q4_126 : (Jvm.Cond.methodLink "java/lang/String" (212 : Nat) ({ cls := "java/lang/System", name := "arraycopy", desc := "(Ljava/lang/Object;ILjava/lang/Object;II)V" } : Jvm.MethodName)) ∈ lw_g := zg_of (zin4 (List.mem_of_getElem? (i := 126) rfl)) rfl
theorem q4_125 : (Jvm.Cond.code ({ cls := "java/lang/String", name := "getBytes", desc := "([BIB)V" } : Jvm.MethodName) prog_23_method_147_code (4 : Nat) (Option.none : Option Jvm.ClassFile.FieldType)) ∈ lw_g := zg_of (zin4 (List.mem_of_getElem? (i := 125) rfl)) rfl
theorem q4_123 : (Jvm.Cond.instanceMethod ({ cls := "java/lang/String", name := "getBytes", desc := "([BIB)V" } : Jvm.MethodName)) ∈ lw_g := zg_of (zin4 (List.mem_of_getElem? (i := 123) rfl)) rfl
theorem q4_124 : (Jvm.Cond.selects "java/lang/String" ({ cls := "java/lang/String", name := "getBytes", desc := "([BIB)V" } : Jvm.MethodName) ({ cls := "java/lang/String", name := "getBytes", desc := "([BIB)V" } : Jvm.MethodName)) ∈ lw_g := zg_of (zin4 (List.mem_of_getElem? (i := 124) rfl)) rfl
theorem ok_J0_getBytes_840e7 : zOV yJ0_getBytes_840e7 cJ0_getBytes_840e7 4 ((Option.none : Option Jvm.ClassFile.FieldType)) 3 := ⟨⟨q4_125, q1_27, by decide, by decide, by decide +kernel⟩, q4_123, q4_124⟩
set_option maxHeartbeats 4000000 in
set_option maxRecDepth 100000 in
theorem c_sGb (l : Launch) (G : zG) (lt lv k dst cap : Nat) (idx : Int) (hi : 0 ≤ idx ∧ idx + k ≤ cap ∧ cap ≤ 34 ∧ k ≤ 34) (hd9 : dst ≥ G.2 99) : Met l yJ0_getBytes_840e7 (wq yJ0_getBytes_840e7 cJ0_getBytes_840e7 4 ((Option.none : Option Jvm.ClassFile.FieldType))) (rmM 1 40 0 0) (va_Pc [.ref (lt), .ref (dst), .int (zI (idx)), .int ((0 : Int32))] (zK G (fun H => hLt G lt lv H ∧ zTx G H ∧ zBy (G.2 3) lv k H ∧ zBy (G.2 3) dst cap H))) (zM (fun y => y = dst) none (fun H => zBy (G.2 3) dst cap H)) 0 0 (fun y => y = dst) := by
  refine z_enterMV (by decide +kernel) (Nat.le_of_ble_eq_true rfl) ?_
  intro p env s m below meth cod Q S hnm hG hP hS ret ls hl
  have hl : lv_has ls 4 [(0, .ref (lt)), (1, .ref (dst)), (2, .int (zI (idx))), (3, .int ((0 : Int32)))] := hl
  obtain ⟨hL, hT, hLv, hV⟩ := hP
  refine z_aload_n S dJ0_getBytes_840e7_0 hl 0 rfl rfl ?_
  refine z_callQr S hG (c_sCod l G lt lv) ok_J0_coder_7d493.1 q4_109 (S.2.2.2.2 _ q4_110) (z_rcvL hG hL) q4_108 (⟨hL, hT⟩) ⟨rfl, rfl, by decide, by decide⟩ ⟨Nat.zero_le _, Nat.zero_le _⟩ rfl (Nat.le_of_ble_eq_true rfl) hl.1 rfl dJ0_getBytes_840e7_1 ?_
  refine z_iload_n S dJ0_getBytes_840e7_4 hl 3 rfl rfl ?_
  refine lv_icmp_ne (tgt := 28) S.1 S.2.1 dJ0_getBytes_840e7_5 (by decide) (fun c_5 => ?_) (fun c_5 => ?_)
  · exact absurd c_5 (by decide)
  refine z_aload_n S dJ0_getBytes_840e7_8 hl 0 rfl rfl ?_
  refine z_getL S hG hL 0 (by left; exact ⟨rfl, rfl⟩) q4_143 dJ0_getBytes_840e7_9 ?_
  refine z_iconst S dJ0_getBytes_840e7_12 ?_
  refine z_aload_n S dJ0_getBytes_840e7_13 hl 1 rfl rfl ?_
  refine z_iload_n S dJ0_getBytes_840e7_14 hl 2 rfl rfl ?_
  refine z_iload_n S dJ0_getBytes_840e7_15 hl 3 rfl rfl ?_
  refine lv_ishl S.1 S.2.1 dJ0_getBytes_840e7_16 ?_
  rw [z_shl0]
  refine z_aload_n S dJ0_getBytes_840e7_17 hl 0 rfl rfl ?_
  refine z_getL S hG hL 0 (by left; exact ⟨rfl, rfl⟩) q4_143 dJ0_getBytes_840e7_18 ?_
  refine z_blen S (zG_by hG) hLv dJ0_getBytes_840e7_21 ?_
  refine z_copyBy S hG hLv hV hS (rfl) (dp := idx) (n := (k : Int)) (by omega) (by omega) q4_126 ⟨q3_201, q3_200, q1_20⟩ hl.1 (by decide) (Nat.le_of_ble_eq_true rfl) dJ0_getBytes_840e7_22 (fun H_1 L_1 hat hz oq hS => ?_)
  have hV := hat
  have hT := zTx.kept hT (fun y hx h9 => oq y (by omega))
  refine z_goto S 43 dJ0_getBytes_840e7_25 (by decide) ?_
  exact ret _ _ _ _ _ _ dJ0_getBytes_840e7_43 hS (hV) (Nat.le_of_ble_eq_true rfl) (Nat.le_of_ble_eq_true rfl)
theorem dJ5_inflateIfNeededFor_a7421_0 : decode cJ5_inflateIfNeededFor_a7421 0 = .ok (.getstatic 18, 3) := by decide +kernel
theorem dJ5_inflateIfNeededFor_a7421_3 : decode cJ5_inflateIfNeededFor_a7421 3 = .ok (.ifCond .eq 18, 3) := by decide +kernel
theorem dJ5_inflateIfNeededFor_a7421_6 : decode cJ5_inflateIfNeededFor_a7421 6 = .ok (.aload_n 0, 1) := by decide +kernel
theorem dJ5_inflateIfNeededFor_a7421_7 : decode cJ5_inflateIfNeededFor_a7421 7 = .ok (.getfield 22, 3) := by decide +kernel
theorem dJ5_inflateIfNeededFor_a7421_10 : decode cJ5_inflateIfNeededFor_a7421 10 = .ok (.aload_n 1, 1) := by decide +kernel
theorem dJ5_inflateIfNeededFor_a7421_11 : decode cJ5_inflateIfNeededFor_a7421 11 = .ok (.invokevirtual 40, 3) := by decide +kernel
theorem dJ5_inflateIfNeededFor_a7421_14 : decode cJ5_inflateIfNeededFor_a7421 14 = .ok (.if_icmp .eq 7, 3) := by decide +kernel
theorem dJ5_inflateIfNeededFor_a7421_17 : decode cJ5_inflateIfNeededFor_a7421 17 = .ok (.aload_n 0, 1) := by decide +kernel
theorem dJ5_inflateIfNeededFor_a7421_18 : decode cJ5_inflateIfNeededFor_a7421 18 = .ok (.invokevirtual 195, 3) := by decide +kernel
theorem dJ5_inflateIfNeededFor_a7421_21 : decode cJ5_inflateIfNeededFor_a7421 21 = .ok (.return_, 1) := by decide +kernel
theorem q4_121 : (Jvm.Cond.methodLink "java/lang/AbstractStringBuilder" (40 : Nat) ({ cls := "java/lang/String", name := "coder", desc := "()B" } : Jvm.MethodName)) ∈ lw_g := zg_of (zin4 (List.mem_of_getElem? (i := 121) rfl)) rfl
theorem q4_120 : (Jvm.Cond.code ({ cls := "java/lang/AbstractStringBuilder", name := "inflateIfNeededFor", desc := "(Ljava/lang/String;)V" } : Jvm.MethodName) prog_8_method_71_code (2 : Nat) (Option.none : Option Jvm.ClassFile.FieldType)) ∈ lw_g := zg_of (zin4 (List.mem_of_getElem? (i := 120) rfl)) rfl
theorem ok_J5_inflateIfNeededFor_a7421 : zOK yJ5_inflateIfNeededFor_a7421 cJ5_inflateIfNeededFor_a7421 2 ((Option.none : Option Jvm.ClassFile.FieldType)) 1 := ⟨q4_120, q1_25, by decide, by decide, by decide +kernel⟩
set_option maxHeartbeats 4000000 in
set_option maxRecDepth 100000 in
theorem c_sInf (l : Launch) (G : zG) (q v n cap lt lv : Nat) : Met l yJ5_inflateIfNeededFor_a7421 (wq yJ5_inflateIfNeededFor_a7421 cJ5_inflateIfNeededFor_a7421 2 ((Option.none : Option Jvm.ClassFile.FieldType))) (rmM 1 20 0 0) (va_Pc [.ref (q), .ref (lt)] (zK G (fun H => hSB G q v n cap H ∧ hLt G lt lv H ∧ zTx G H))) (zM (fun _ => False) none (fun _ => True)) 0 0 (fun _ => False) := by
  refine z_enterMV (by decide +kernel) (Nat.le_of_ble_eq_true rfl) ?_
  intro p env s m below meth cod Q S hnm hG hP hS ret ls hl
  have hl : lv_has ls 2 [(0, .ref (q)), (1, .ref (lt))] := hl
  obtain ⟨-, hL, hT⟩ := id hP
  refine z_gets S hG 1 rfl hT.1 q3_140 dJ5_inflateIfNeededFor_a7421_0 ?_
  refine lv_if_eq (tgt := 21) S.1 S.2.1 dJ5_inflateIfNeededFor_a7421_3 (by decide) (fun c_3 => ?_) (fun c_3 => ?_)
  · exact absurd c_3 (by decide)
  refine z_aload_n S dJ5_inflateIfNeededFor_a7421_6 hl 0 rfl rfl ?_
  refine z_getR S hG hP.1.1 zc_J4 1 (by decide) q3_150 rfl dJ5_inflateIfNeededFor_a7421_7 ?_
  refine z_aload_n S dJ5_inflateIfNeededFor_a7421_10 hl 1 rfl rfl ?_
  refine z_callQr S hG (c_sCod l G lt lv) ok_J0_coder_7d493.1 q4_109 (S.2.2.2.2 _ q4_110) (z_rcvL hG hL) q4_121 (⟨hL, hT⟩) ⟨rfl, rfl, by decide, by decide⟩ ⟨Nat.zero_le _, Nat.zero_le _⟩ rfl (Nat.le_of_ble_eq_true rfl) hl.1 rfl dJ5_inflateIfNeededFor_a7421_11 ?_
  refine lv_icmp_eq (tgt := 21) S.1 S.2.1 dJ5_inflateIfNeededFor_a7421_14 (by decide) (fun c_14 => ?_) (fun c_14 => ?_)
  rotate_left
  · exact absurd (by decide) c_14
  exact ret _ _ _ _ _ _ dJ5_inflateIfNeededFor_a7421_21 hS (trivial) (Nat.le_of_ble_eq_true rfl) (Nat.le_of_ble_eq_true rfl)
theorem dJ5_putStringAt_47b60_0 : decode cJ5_putStringAt_47b60 0 = .ok (.aload_n 0, 1) := by decide +kernel
theorem dJ5_putStringAt_47b60_1 : decode cJ5_putStringAt_47b60 1 = .ok (.aload_n 2, 1) := by decide +kernel
theorem dJ5_putStringAt_47b60_2 : decode cJ5_putStringAt_47b60 2 = .ok (.invokevirtual 397, 3) := by decide +kernel
theorem dJ5_putStringAt_47b60_5 : decode cJ5_putStringAt_47b60 5 = .ok (.aload_n 2, 1) := by decide +kernel
theorem dJ5_putStringAt_47b60_6 : decode cJ5_putStringAt_47b60 6 = .ok (.aload_n 0, 1) := by decide +kernel
theorem dJ5_putStringAt_47b60_7 : decode cJ5_putStringAt_47b60 7 = .ok (.getfield 15, 3) := by decide +kernel
theorem dJ5_putStringAt_47b60_10 : decode cJ5_putStringAt_47b60 10 = .ok (.iload_n 1, 1) := by decide +kernel
theorem dJ5_putStringAt_47b60_11 : decode cJ5_putStringAt_47b60 11 = .ok (.aload_n 0, 1) := by decide +kernel
theorem dJ5_putStringAt_47b60_12 : decode cJ5_putStringAt_47b60 12 = .ok (.getfield 22, 3) := by decide +kernel
theorem dJ5_putStringAt_47b60_15 : decode cJ5_putStringAt_47b60 15 = .ok (.invokevirtual 399, 3) := by decide +kernel
theorem dJ5_putStringAt_47b60_18 : decode cJ5_putStringAt_47b60 18 = .ok (.return_, 1) := by decide +kernel
theorem q4_117 : (Jvm.Cond.methodLink "java/lang/AbstractStringBuilder" (397 : Nat) ({ cls := "java/lang/AbstractStringBuilder", name := "inflateIfNeededFor", desc := "(Ljava/lang/String;)V" } : Jvm.MethodName)) ∈ lw_g := zg_of (zin4 (List.mem_of_getElem? (i := 117) rfl)) rfl
theorem q4_119 : (Jvm.Cond.instanceMethod ({ cls := "java/lang/AbstractStringBuilder", name := "inflateIfNeededFor", desc := "(Ljava/lang/String;)V" } : Jvm.MethodName)) ∈ lw_g := zg_of (zin4 (List.mem_of_getElem? (i := 119) rfl)) rfl
theorem q4_122 : (Jvm.Cond.methodLink "java/lang/AbstractStringBuilder" (399 : Nat) ({ cls := "java/lang/String", name := "getBytes", desc := "([BIB)V" } : Jvm.MethodName)) ∈ lw_g := zg_of (zin4 (List.mem_of_getElem? (i := 122) rfl)) rfl
theorem q4_116 : (Jvm.Cond.code ({ cls := "java/lang/AbstractStringBuilder", name := "putStringAt", desc := "(ILjava/lang/String;)V" } : Jvm.MethodName) prog_8_method_73_code (3 : Nat) (Option.none : Option Jvm.ClassFile.FieldType)) ∈ lw_g := zg_of (zin4 (List.mem_of_getElem? (i := 116) rfl)) rfl
theorem ok_J5_putStringAt_47b60 : zOK yJ5_putStringAt_47b60 cJ5_putStringAt_47b60 3 ((Option.none : Option Jvm.ClassFile.FieldType)) 2 := ⟨q4_116, q1_25, by decide, by decide, by decide +kernel⟩
set_option maxHeartbeats 4000000 in
set_option maxRecDepth 100000 in
theorem c_sPsa (l : Launch) (G : zG) (q v n cap lt lv k : Nat) (hi : n + k ≤ cap ∧ cap ≤ 34) (hv9 : v ≥ G.2 99) : Met l yJ5_putStringAt_47b60 (wq yJ5_putStringAt_47b60 cJ5_putStringAt_47b60 3 ((Option.none : Option Jvm.ClassFile.FieldType))) (rmM 2 63 0 0) (va_Pc [.ref (q), .int (zI ((n : Int))), .ref (lt)] (zK G (fun H => hSB G q v n cap H ∧ hLt G lt lv H ∧ zBy (G.2 3) lv k H ∧ zTx G H))) (zM (fun y => y = v) none (fun H => zBy (G.2 3) v cap H)) 0 0 (fun y => y = v) := by
  refine z_enterMV (by decide +kernel) (Nat.le_of_ble_eq_true rfl) ?_
  intro p env s m below meth cod Q S hnm hG hP hS ret ls hl
  have hl : lv_has ls 3 [(0, .ref (q)), (1, .int (zI ((n : Int)))), (2, .ref (lt))] := hl
  obtain ⟨⟨hQ, hV, hne⟩, hL, hLv, hT⟩ := hP
  refine z_aload_n S dJ5_putStringAt_47b60_0 hl 0 rfl rfl ?_
  refine z_aload_n S dJ5_putStringAt_47b60_1 hl 2 rfl rfl ?_
  refine z_callQ S hG hS (c_sInf l G q v n cap lt lv) (fun _ h => h.elim) ok_J5_inflateIfNeededFor_a7421 q4_119 (va_Nw.use rfl (hG.2.2.2.2.2.2.2.2.2.2.2 _ (List.mem_of_getElem? (i := 3) rfl))) (z_rcv hG hQ zc_J4) q4_117 (⟨⟨hQ, hV, hne⟩, hL, hT⟩) ⟨rfl, rfl, by decide, by decide⟩ ⟨Nat.le_of_ble_eq_true rfl, Nat.le_of_ble_eq_true rfl⟩ rfl (Nat.le_of_ble_eq_true rfl) hl.1 rfl dJ5_putStringAt_47b60_2 (fun H_1 L_1 hB hz oq hS => ?_)
  have hQ := va_at.kept hQ (oq _ (va_lt hQ) (fun h => h))
  have hV := zBy.kept hV (fun _ => oq _ (zBy.lt hV) (fun h => h))
  have hT := zTx.kept hT (fun y hx h9 => oq y hx (fun h => h))
  have hL := hLt.kept hL (fun _ => oq _ (hLt.lt hL) (fun h => h))
  have hLv := zBy.kept hLv (fun _ => oq _ (zBy.lt hLv) (fun h => h))
  refine z_aload_n S dJ5_putStringAt_47b60_5 hl 2 rfl rfl ?_
  refine z_aload_n S dJ5_putStringAt_47b60_6 hl 0 rfl rfl ?_
  refine z_getR S hG hQ zc_J4 0 (by decide) q3_149 rfl dJ5_putStringAt_47b60_7 ?_
  refine z_iload_n S dJ5_putStringAt_47b60_10 hl 1 rfl rfl ?_
  refine z_aload_n S dJ5_putStringAt_47b60_11 hl 0 rfl rfl ?_
  refine z_getR S hG hQ zc_J4 1 (by decide) q3_150 rfl dJ5_putStringAt_47b60_12 ?_
  refine z_callQ S hG hS (c_sGb l G lt lv k v cap (n : Int) (by omega) (by omega)) (fun _ h => h) ok_J0_getBytes_840e7.1 q4_123 (S.2.2.2.2 _ q4_124) (z_rcvL hG hL) q4_122 (⟨hL, hT, hLv, hV⟩) ⟨rfl, rfl, by decide, by decide⟩ ⟨Nat.le_of_ble_eq_true rfl, Nat.le_of_ble_eq_true rfl⟩ rfl (Nat.le_of_ble_eq_true rfl) hl.1 rfl dJ5_putStringAt_47b60_15 (fun H_2 L_2 hB hz oq hS => ?_)
  have hV := hB
  exact ret _ _ _ _ _ _ dJ5_putStringAt_47b60_18 hS (hV) (Nat.le_of_ble_eq_true rfl) (Nat.le_of_ble_eq_true rfl)
theorem dJ5_append_cf1ce_0 : decode cJ5_append_cf1ce 0 = .ok (.aload_n 1, 1) := by decide +kernel
theorem dJ5_append_cf1ce_1 : decode cJ5_append_cf1ce 1 = .ok (.ifnonnull 8, 3) := by decide +kernel
theorem dJ5_append_cf1ce_4 : decode cJ5_append_cf1ce 4 = .ok (.aload_n 0, 1) := by decide +kernel
theorem dJ5_append_cf1ce_5 : decode cJ5_append_cf1ce 5 = .ok (.invokevirtual 204, 3) := by decide +kernel
theorem dJ5_append_cf1ce_8 : decode cJ5_append_cf1ce 8 = .ok (.areturn, 1) := by decide +kernel
theorem dJ5_append_cf1ce_9 : decode cJ5_append_cf1ce 9 = .ok (.aload_n 1, 1) := by decide +kernel
theorem dJ5_append_cf1ce_10 : decode cJ5_append_cf1ce 10 = .ok (.invokevirtual 32, 3) := by decide +kernel
theorem dJ5_append_cf1ce_13 : decode cJ5_append_cf1ce 13 = .ok (.istore_n 2, 1) := by decide +kernel
theorem dJ5_append_cf1ce_14 : decode cJ5_append_cf1ce 14 = .ok (.aload_n 0, 1) := by decide +kernel
theorem dJ5_append_cf1ce_15 : decode cJ5_append_cf1ce 15 = .ok (.aload_n 0, 1) := by decide +kernel
theorem dJ5_append_cf1ce_16 : decode cJ5_append_cf1ce 16 = .ok (.getfield 79, 3) := by decide +kernel
theorem dJ5_append_cf1ce_19 : decode cJ5_append_cf1ce 19 = .ok (.iload_n 2, 1) := by decide +kernel
theorem dJ5_append_cf1ce_20 : decode cJ5_append_cf1ce 20 = .ok (.iadd, 1) := by decide +kernel
theorem dJ5_append_cf1ce_21 : decode cJ5_append_cf1ce 21 = .ok (.invokevirtual 100, 3) := by decide +kernel
theorem dJ5_append_cf1ce_24 : decode cJ5_append_cf1ce 24 = .ok (.aload_n 0, 1) := by decide +kernel
theorem dJ5_append_cf1ce_25 : decode cJ5_append_cf1ce 25 = .ok (.aload_n 0, 1) := by decide +kernel
theorem dJ5_append_cf1ce_26 : decode cJ5_append_cf1ce 26 = .ok (.getfield 79, 3) := by decide +kernel
theorem dJ5_append_cf1ce_29 : decode cJ5_append_cf1ce 29 = .ok (.aload_n 1, 1) := by decide +kernel
theorem dJ5_append_cf1ce_30 : decode cJ5_append_cf1ce 30 = .ok (.invokevirtual 208, 3) := by decide +kernel
theorem dJ5_append_cf1ce_33 : decode cJ5_append_cf1ce 33 = .ok (.aload_n 0, 1) := by decide +kernel
theorem dJ5_append_cf1ce_34 : decode cJ5_append_cf1ce 34 = .ok (.dup, 1) := by decide +kernel
theorem dJ5_append_cf1ce_35 : decode cJ5_append_cf1ce 35 = .ok (.getfield 79, 3) := by decide +kernel
theorem dJ5_append_cf1ce_38 : decode cJ5_append_cf1ce 38 = .ok (.iload_n 2, 1) := by decide +kernel
theorem dJ5_append_cf1ce_39 : decode cJ5_append_cf1ce 39 = .ok (.iadd, 1) := by decide +kernel
theorem dJ5_append_cf1ce_40 : decode cJ5_append_cf1ce 40 = .ok (.putfield 79, 3) := by decide +kernel
theorem dJ5_append_cf1ce_43 : decode cJ5_append_cf1ce 43 = .ok (.aload_n 0, 1) := by decide +kernel
theorem dJ5_append_cf1ce_44 : decode cJ5_append_cf1ce 44 = .ok (.areturn, 1) := by decide +kernel
theorem q4_104 : (Jvm.Cond.methodLink "java/lang/AbstractStringBuilder" (32 : Nat) ({ cls := "java/lang/String", name := "length", desc := "()I" } : Jvm.MethodName)) ∈ lw_g := zg_of (zin4 (List.mem_of_getElem? (i := 104) rfl)) rfl
theorem q4_113 : (Jvm.Cond.methodLink "java/lang/AbstractStringBuilder" (208 : Nat) ({ cls := "java/lang/AbstractStringBuilder", name := "putStringAt", desc := "(ILjava/lang/String;)V" } : Jvm.MethodName)) ∈ lw_g := zg_of (zin4 (List.mem_of_getElem? (i := 113) rfl)) rfl
theorem q4_115 : (Jvm.Cond.instanceMethod ({ cls := "java/lang/AbstractStringBuilder", name := "putStringAt", desc := "(ILjava/lang/String;)V" } : Jvm.MethodName)) ∈ lw_g := zg_of (zin4 (List.mem_of_getElem? (i := 115) rfl)) rfl
theorem q4_96 : (Jvm.Cond.code ({ cls := "java/lang/AbstractStringBuilder", name := "append", desc := "(Ljava/lang/String;)Ljava/lang/AbstractStringBuilder;" } : Jvm.MethodName) prog_8_method_22_code (3 : Nat) (Option.some (Jvm.ClassFile.FieldType.object "java/lang/AbstractStringBuilder"))) ∈ lw_g := zg_of (zin4 (List.mem_of_getElem? (i := 96) rfl)) rfl
theorem ok_J5_append_cf1ce : zOK yJ5_append_cf1ce cJ5_append_cf1ce 3 ((Option.some (Jvm.ClassFile.FieldType.object "java/lang/AbstractStringBuilder"))) 1 := ⟨q4_96, q1_25, by decide, by decide, by decide +kernel⟩
set_option maxHeartbeats 4000000 in
set_option maxRecDepth 100000 in
theorem c_sApS (l : Launch) (G : zG) (q sz n lt lv k : Nat) (h99 : sz ≥ G.2 99) (hk : k ≤ 2 ∧ n + k ≤ 34) (hl9 : @LT.lt Nat _ lt (G.2 99) ∧ @LT.lt Nat _ lv (G.2 99)) : Met l yJ5_append_cf1ce (wq yJ5_append_cf1ce cJ5_append_cf1ce 3 ((Option.some (Jvm.ClassFile.FieldType.object "java/lang/AbstractStringBuilder")))) (rmM 4 91 1 34) (va_Pc [.ref (q), .ref (lt)] (zK G (fun H => hSX G q sz n n H ∧ zTx G H ∧ hLt G lt lv H ∧ zBy (G.2 3) lv k H))) (zM (fun y => sz ≤ y) (some (.ref (q))) (fun H => hSX G q sz (n + k) (n + k) H)) 1 34 (fun y => sz ≤ y) := by
  refine z_enterMA (by decide +kernel) (Nat.le_of_ble_eq_true rfl) ?_
  intro p env s m below meth cod Q S hG hP hS ret ls hl
  have hl : lv_has ls 3 [(0, .ref (q)), (1, .ref (lt))] := hl
  obtain ⟨v, cap, ⟨hQ, hV, hne⟩, hq, hv, hc, hnn⟩ := hP.1
  obtain ⟨-, hT, hL, hLv⟩ := hP
  have hqs := va_lt hQ
  have hvs := hV.lt
  refine z_aload_n S dJ5_append_cf1ce_0 hl 1 rfl rfl ?_
  refine z_ifnonnull_r S 9 dJ5_append_cf1ce_1 (by decide) ?_
  refine z_aload_n S dJ5_append_cf1ce_9 hl 1 rfl rfl ?_
  refine z_callQr S hG (c_sLen l G lt lv k) ok_J0_length_8abf5.1 q4_105 (S.2.2.2.2 _ q4_106) (z_rcvL hG hL) q4_104 (⟨hL, hT, hLv⟩) ⟨rfl, rfl, by decide, by decide⟩ ⟨Nat.zero_le _, Nat.zero_le _⟩ rfl (Nat.le_of_ble_eq_true rfl) hl.1 rfl dJ5_append_cf1ce_10 ?_
  refine z_istore_n (lv' := [(2, .int (zI ((k : Int)))), (0, .ref (q)), (1, .ref (lt))]) S dJ5_append_cf1ce_13 hl rfl (by decide) rfl (fun ls hl => ?_)
  refine z_aload_n S dJ5_append_cf1ce_14 hl 1 rfl rfl ?_
  refine z_aload_n S dJ5_append_cf1ce_15 hl 1 rfl rfl ?_
  refine z_getR S hG hQ zc_J4 3 (by decide) q3_152 rfl dJ5_append_cf1ce_16 ?_
  refine z_iload_n S dJ5_append_cf1ce_19 hl 0 rfl rfl ?_
  refine z_iadd S dJ5_append_cf1ce_20 ?_
  refine z_callQ S hG hS (c_sEn l G q sz n ((n : Int) + k) (n + k) (by omega) (by omega)) (fun _ h => h) ok_J5_ensureCapacityInternal_d00df q3_171 (va_Nw.use rfl (hG.2.2.2.2.2.2.2.2.2.2.2 _ (List.mem_of_getElem? (i := 0) rfl))) (z_rcv hG hQ zc_J4) q3_169 (⟨v, cap, ⟨hQ, hV, hne⟩, hq, hv, hc, hnn⟩) ⟨rfl, rfl, by decide, by decide⟩ ⟨Nat.le_of_ble_eq_true rfl, Nat.le_of_ble_eq_true rfl⟩ rfl (Nat.le_of_ble_eq_true rfl) hl.1 rfl dJ5_append_cf1ce_21 (fun H_1 L_1 hB hz oq hS => ?_)
  have hT := zTx.kept hT (fun y hx h9 => oq y hx (by show ¬ (sz ≤ _); omega))
  have hL := hLt.kept hL (fun _ => oq _ (hLt.lt hL) (by show ¬ (sz ≤ _); omega))
  have hLv := zBy.kept hLv (fun _ => oq _ (zBy.lt hLv) (by show ¬ (sz ≤ _); omega))
  obtain ⟨v, cap, ⟨hQ, hV, hne⟩, hq, hv, hc, hnn⟩ := hB
  have hqs := va_lt hQ
  have hvs := hV.lt
  refine z_aload_n S dJ5_append_cf1ce_24 hl 1 rfl rfl ?_
  refine z_aload_n S dJ5_append_cf1ce_25 hl 1 rfl rfl ?_
  refine z_getR S hG hQ zc_J4 3 (by decide) q3_152 rfl dJ5_append_cf1ce_26 ?_
  refine z_aload_n S dJ5_append_cf1ce_29 hl 2 rfl rfl ?_
  refine z_callQ S hG hS (c_sPsa l G q v n cap lt lv k (by omega) (by omega)) (fun y z => by have h2 : y = v := z; show sz ≤ y; omega) ok_J5_putStringAt_47b60 q4_115 (va_Nw.use rfl (hG.2.2.2.2.2.2.2.2.2.2.2 _ (List.mem_of_getElem? (i := 2) rfl))) (z_rcv hG hQ zc_J4) q4_113 (⟨⟨hQ, hV, hne⟩, hL, hLv, hT⟩) ⟨rfl, rfl, by decide, by decide⟩ ⟨Nat.le_of_ble_eq_true rfl, Nat.le_of_ble_eq_true rfl⟩ rfl (Nat.le_of_ble_eq_true rfl) hl.1 rfl dJ5_append_cf1ce_30 (fun H_2 L_2 hB hz oq hS => ?_)
  have hQ := va_at.kept hQ (oq _ (va_lt hQ) (by show ¬ (_ = v); omega))
  have hT := zTx.kept hT (fun y hx h9 => oq y hx (by show ¬ (_ = v); omega))
  have hL := hLt.kept hL (fun _ => oq _ (hLt.lt hL) (by show ¬ (_ = v); omega))
  have hLv := zBy.kept hLv (fun _ => oq _ (zBy.lt hLv) (by show ¬ (_ = v); omega))
  have hV := hB
  refine z_aload_n S dJ5_append_cf1ce_33 hl 1 rfl rfl ?_
  refine z_dup S dJ5_append_cf1ce_34 rfl ?_
  refine z_getR S hG hQ zc_J4 3 (by decide) q3_152 rfl dJ5_append_cf1ce_35 ?_
  refine z_iload_n S dJ5_append_cf1ce_38 hl 0 rfl rfl ?_
  refine z_iadd S dJ5_append_cf1ce_39 ?_
  refine z_putR S hG hQ zc_J4 tyJ4 tyJ4_ok nmJ4 hS (by show sz ≤ q; omega) 3 (by decide) q3_152 rfl (tyJ4_ok 3 (by decide)) rfl rfl (Nat.le_of_ble_eq_true rfl) dJ5_append_cf1ce_40 (fun H_3 L_3 hat hz oq hS => ?_)
  have hQ := hat
  have hV := zBy.kept hV (fun _ => oq _ (show q ≠ v by omega).symm)
  have hT := zTx.kept hT (fun y hx h9 => oq y (by omega))
  have hL := hLt.kept hL (fun _ => oq _ (show q ≠ lt by omega).symm)
  have hLv := zBy.kept hLv (fun _ => oq _ (show q ≠ lv by omega).symm)
  refine z_aload_n S dJ5_append_cf1ce_43 hl 1 rfl rfl ?_
  exact ret _ _ _ _ _ _ dJ5_append_cf1ce_44 hS (⟨v, cap, ⟨hQ, hV, hne⟩, hq, hv, by omega, Nat.le_refl _⟩) (Nat.le_of_ble_eq_true rfl) (Nat.le_of_ble_eq_true rfl)
