theorem dJ4_append_cf468_0 : decode cJ4_append_cf468 0 = .ok (.aload_n 0, 1) := by decide +kernel
theorem dJ4_append_cf468_1 : decode cJ4_append_cf468 1 = .ok (.iload_n 1, 1) := by decide +kernel
theorem dJ4_append_cf468_2 : decode cJ4_append_cf468 2 = .ok (.invokespecial 50, 3) := by decide +kernel
theorem dJ4_append_cf468_5 : decode cJ4_append_cf468 5 = .ok (.pop, 1) := by decide +kernel
theorem dJ4_append_cf468_6 : decode cJ4_append_cf468 6 = .ok (.aload_n 0, 1) := by decide +kernel
theorem dJ4_append_cf468_7 : decode cJ4_append_cf468 7 = .ok (.areturn, 1) := by decide +kernel
theorem q3_166 : (Jvm.Cond.methodLink "java/lang/StringBuilder" (50 : Nat) ({ cls := "java/lang/AbstractStringBuilder", name := "append", desc := "(C)Ljava/lang/AbstractStringBuilder;" } : Jvm.MethodName)) ∈ lw_g := zg_of (zin3 (List.mem_of_getElem? (i := 166) rfl)) rfl
theorem q3_167 : (Jvm.Cond.instanceMethod ({ cls := "java/lang/AbstractStringBuilder", name := "append", desc := "(C)Ljava/lang/AbstractStringBuilder;" } : Jvm.MethodName)) ∈ lw_g := zg_of (zin3 (List.mem_of_getElem? (i := 167) rfl)) rfl
theorem q6_146 : (Jvm.Cond.sameMethod "java/lang/AbstractStringBuilder" "java/lang/AbstractStringBuilder" "append" "(C)Ljava/lang/AbstractStringBuilder;") ∈ lw_g := zg_of (zin6 (List.mem_of_getElem? (i := 146) rfl)) rfl
theorem q3_161 : (Jvm.Cond.superclass "java/lang/StringBuilder" "java/lang/AbstractStringBuilder") ∈ lw_g := zg_of (zin3 (List.mem_of_getElem? (i := 161) rfl)) rfl
theorem q3_165 : (Jvm.Cond.code ({ cls := "java/lang/StringBuilder", name := "append", desc := "(C)Ljava/lang/StringBuilder;" } : Jvm.MethodName) prog_24_method_14_code (2 : Nat) (Option.some (Jvm.ClassFile.FieldType.object "java/lang/StringBuilder"))) ∈ lw_g := zg_of (zin3 (List.mem_of_getElem? (i := 165) rfl)) rfl
theorem q1_26 : (Jvm.Cond.initialized "java/lang/StringBuilder") ∈ lw_g := zg_of (zin1 (List.mem_of_getElem? (i := 26) rfl)) rfl
theorem q3_163 : (Jvm.Cond.instanceMethod ({ cls := "java/lang/StringBuilder", name := "append", desc := "(C)Ljava/lang/StringBuilder;" } : Jvm.MethodName)) ∈ lw_g := zg_of (zin3 (List.mem_of_getElem? (i := 163) rfl)) rfl
theorem q3_164 : (Jvm.Cond.selects "java/lang/StringBuilder" ({ cls := "java/lang/StringBuilder", name := "append", desc := "(C)Ljava/lang/StringBuilder;" } : Jvm.MethodName) ({ cls := "java/lang/StringBuilder", name := "append", desc := "(C)Ljava/lang/StringBuilder;" } : Jvm.MethodName)) ∈ lw_g := zg_of (zin3 (List.mem_of_getElem? (i := 164) rfl)) rfl
theorem ok_J4_append_cf468 : zOV yJ4_append_cf468 cJ4_append_cf468 2 ((Option.some (Jvm.ClassFile.FieldType.object "java/lang/StringBuilder"))) 1 := ⟨⟨q3_165, q1_26, by decide, by decide, by decide +kernel⟩, q3_163, q3_164⟩
set_option maxHeartbeats 4000000 in
set_option maxRecDepth 100000 in
theorem c_bApC (l : Launch) (G : zG) (q sz n : Nat) (h99 : sz ≥ G.2 99) (hn : n ≤ 33) : Met l yJ4_append_cf468 (wq yJ4_append_cf468 cJ4_append_cf468 2 ((Option.some (Jvm.ClassFile.FieldType.object "java/lang/StringBuilder")))) (rmM 5 112 1 34) (va_Pc [.ref (q), .int (zI (32))] (zK G (fun H => hSX G q sz n n H ∧ zTx G H))) (zM (fun y => sz ≤ y) (some (.ref (q))) (fun H => hSX G q sz (n + 1) (n + 1) H)) 1 34 (fun y => sz ≤ y) := by
  refine z_enterMA (by decide +kernel) (Nat.le_of_ble_eq_true rfl) ?_
  intro p env s m below meth cod Q S hG hP hS ret ls hl
  have hl : lv_has ls 2 [(0, .ref (q)), (1, .int (zI (32)))] := hl
  obtain ⟨v, cap, ⟨hQ, hV, hne⟩, hq, hv, hc, hnn⟩ := hP.1
  refine z_aload_n S dJ4_append_cf468_0 hl 0 rfl rfl ?_
  refine z_iload_n S dJ4_append_cf468_1 hl 1 rfl rfl ?_
  refine z_callSU S hG hS (c_sApC l G q sz n h99 hn) (fun _ h => h) ok_J5_append_3fe6f q3_167 q6_146 q3_161 (by decide) hQ zc_J4 q3_166 (hP) ⟨rfl, rfl, by decide, by decide⟩ ⟨Nat.le_of_ble_eq_true rfl, Nat.le_of_ble_eq_true rfl⟩ rfl (Nat.le_of_ble_eq_true rfl) hl.1 rfl dJ4_append_cf468_2 (fun H_1 L_1 hB hz oq hS => ?_)
  refine lv_pop S.1 S.2.1 dJ4_append_cf468_5 rfl ?_
  refine z_aload_n S dJ4_append_cf468_6 hl 0 rfl rfl ?_
  exact ret _ _ _ _ _ _ dJ4_append_cf468_7 hS (hB) (Nat.le_of_ble_eq_true rfl) (Nat.le_of_ble_eq_true rfl)
theorem dJ4_append_bf812_0 : decode cJ4_append_bf812 0 = .ok (.aload_n 0, 1) := by decide +kernel
theorem dJ4_append_bf812_1 : decode cJ4_append_bf812 1 = .ok (.iload_n 1, 1) := by decide +kernel
theorem dJ4_append_bf812_2 : decode cJ4_append_bf812 2 = .ok (.invokespecial 53, 3) := by decide +kernel
theorem dJ4_append_bf812_5 : decode cJ4_append_bf812 5 = .ok (.pop, 1) := by decide +kernel
theorem dJ4_append_bf812_6 : decode cJ4_append_bf812 6 = .ok (.aload_n 0, 1) := by decide +kernel
theorem dJ4_append_bf812_7 : decode cJ4_append_bf812 7 = .ok (.areturn, 1) := by decide +kernel
theorem q4_19 : (Jvm.Cond.methodLink "java/lang/StringBuilder" (53 : Nat) ({ cls := "java/lang/AbstractStringBuilder", name := "append", desc := "(I)Ljava/lang/AbstractStringBuilder;" } : Jvm.MethodName)) ∈ lw_g := zg_of (zin4 (List.mem_of_getElem? (i := 19) rfl)) rfl
theorem q4_20 : (Jvm.Cond.instanceMethod ({ cls := "java/lang/AbstractStringBuilder", name := "append", desc := "(I)Ljava/lang/AbstractStringBuilder;" } : Jvm.MethodName)) ∈ lw_g := zg_of (zin4 (List.mem_of_getElem? (i := 20) rfl)) rfl
theorem q6_150 : (Jvm.Cond.sameMethod "java/lang/AbstractStringBuilder" "java/lang/AbstractStringBuilder" "append" "(I)Ljava/lang/AbstractStringBuilder;") ∈ lw_g := zg_of (zin6 (List.mem_of_getElem? (i := 150) rfl)) rfl
theorem q4_18 : (Jvm.Cond.code ({ cls := "java/lang/StringBuilder", name := "append", desc := "(I)Ljava/lang/StringBuilder;" } : Jvm.MethodName) prog_24_method_15_code (2 : Nat) (Option.some (Jvm.ClassFile.FieldType.object "java/lang/StringBuilder"))) ∈ lw_g := zg_of (zin4 (List.mem_of_getElem? (i := 18) rfl)) rfl
theorem q4_16 : (Jvm.Cond.instanceMethod ({ cls := "java/lang/StringBuilder", name := "append", desc := "(I)Ljava/lang/StringBuilder;" } : Jvm.MethodName)) ∈ lw_g := zg_of (zin4 (List.mem_of_getElem? (i := 16) rfl)) rfl
theorem q4_17 : (Jvm.Cond.selects "java/lang/StringBuilder" ({ cls := "java/lang/StringBuilder", name := "append", desc := "(I)Ljava/lang/StringBuilder;" } : Jvm.MethodName) ({ cls := "java/lang/StringBuilder", name := "append", desc := "(I)Ljava/lang/StringBuilder;" } : Jvm.MethodName)) ∈ lw_g := zg_of (zin4 (List.mem_of_getElem? (i := 17) rfl)) rfl
theorem ok_J4_append_bf812 : zOV yJ4_append_bf812 cJ4_append_bf812 2 ((Option.some (Jvm.ClassFile.FieldType.object "java/lang/StringBuilder"))) 1 := ⟨⟨q4_18, q1_26, by decide, by decide, by decide +kernel⟩, q4_16, q4_17⟩
set_option maxHeartbeats 4000000 in
set_option maxRecDepth 100000 in
theorem c_bApI (l : Launch) (G : zG) (q sz n w : Nat) (x : Int) (h99 : sz ≥ G.2 99) (hx : 0 ≤ x ∧ x < 100) (hw : (x < 10 ∧ w = 1) ∨ (10 ≤ x ∧ w = 2)) (hn : n + w ≤ 34) : Met l yJ4_append_bf812 (wq yJ4_append_bf812 cJ4_append_bf812 2 ((Option.some (Jvm.ClassFile.FieldType.object "java/lang/StringBuilder")))) (rmM 5 114 1 34) (va_Pc [.ref (q), .int (zI (x))] (zK G (fun H => hSX G q sz n n H ∧ zTx G H))) (zM (fun y => sz ≤ y) (some (.ref (q))) (fun H => hSX G q sz (n + w) (n + w) H)) 1 34 (fun y => sz ≤ y) := by
  refine z_enterMA (by decide +kernel) (Nat.le_of_ble_eq_true rfl) ?_
  intro p env s m below meth cod Q S hG hP hS ret ls hl
  have hl : lv_has ls 2 [(0, .ref (q)), (1, .int (zI (x)))] := hl
  obtain ⟨v, cap, ⟨hQ, hV, hne⟩, hq, hv, hc, hnn⟩ := hP.1
  refine z_aload_n S dJ4_append_bf812_0 hl 0 rfl rfl ?_
  refine z_iload_n S dJ4_append_bf812_1 hl 1 rfl rfl ?_
  refine z_callSU S hG hS (c_sApI l G q sz n w x h99 hx hw hn) (fun _ h => h) ok_J5_append_c97b9 q4_20 q6_150 q3_161 (by decide) hQ zc_J4 q4_19 (hP) ⟨rfl, rfl, by decide, by decide⟩ ⟨Nat.le_of_ble_eq_true rfl, Nat.le_of_ble_eq_true rfl⟩ rfl (Nat.le_of_ble_eq_true rfl) hl.1 rfl dJ4_append_bf812_2 (fun H_1 L_1 hB hz oq hS => ?_)
  refine lv_pop S.1 S.2.1 dJ4_append_bf812_5 rfl ?_
  refine z_aload_n S dJ4_append_bf812_6 hl 0 rfl rfl ?_
  exact ret _ _ _ _ _ _ dJ4_append_bf812_7 hS (hB) (Nat.le_of_ble_eq_true rfl) (Nat.le_of_ble_eq_true rfl)
theorem dJ4_append_15ec4_0 : decode cJ4_append_15ec4 0 = .ok (.aload_n 0, 1) := by decide +kernel
theorem dJ4_append_15ec4_1 : decode cJ4_append_15ec4 1 = .ok (.aload_n 1, 1) := by decide +kernel
theorem dJ4_append_15ec4_2 : decode cJ4_append_15ec4 2 = .ok (.invokespecial 29, 3) := by decide +kernel
theorem dJ4_append_15ec4_5 : decode cJ4_append_15ec4 5 = .ok (.pop, 1) := by decide +kernel
theorem dJ4_append_15ec4_6 : decode cJ4_append_15ec4 6 = .ok (.aload_n 0, 1) := by decide +kernel
theorem dJ4_append_15ec4_7 : decode cJ4_append_15ec4 7 = .ok (.areturn, 1) := by decide +kernel
theorem q4_94 : (Jvm.Cond.methodLink "java/lang/StringBuilder" (29 : Nat) ({ cls := "java/lang/AbstractStringBuilder", name := "append", desc := "(Ljava/lang/String;)Ljava/lang/AbstractStringBuilder;" } : Jvm.MethodName)) ∈ lw_g := zg_of (zin4 (List.mem_of_getElem? (i := 94) rfl)) rfl
theorem q4_95 : (Jvm.Cond.instanceMethod ({ cls := "java/lang/AbstractStringBuilder", name := "append", desc := "(Ljava/lang/String;)Ljava/lang/AbstractStringBuilder;" } : Jvm.MethodName)) ∈ lw_g := zg_of (zin4 (List.mem_of_getElem? (i := 95) rfl)) rfl
theorem q6_151 : (Jvm.Cond.sameMethod "java/lang/AbstractStringBuilder" "java/lang/AbstractStringBuilder" "append" "(Ljava/lang/String;)Ljava/lang/AbstractStringBuilder;") ∈ lw_g := zg_of (zin6 (List.mem_of_getElem? (i := 151) rfl)) rfl
theorem q4_93 : (Jvm.Cond.code ({ cls := "java/lang/StringBuilder", name := "append", desc := "(Ljava/lang/String;)Ljava/lang/StringBuilder;" } : Jvm.MethodName) prog_24_method_7_code (2 : Nat) (Option.some (Jvm.ClassFile.FieldType.object "java/lang/StringBuilder"))) ∈ lw_g := zg_of (zin4 (List.mem_of_getElem? (i := 93) rfl)) rfl
theorem q4_91 : (Jvm.Cond.instanceMethod ({ cls := "java/lang/StringBuilder", name := "append", desc := "(Ljava/lang/String;)Ljava/lang/StringBuilder;" } : Jvm.MethodName)) ∈ lw_g := zg_of (zin4 (List.mem_of_getElem? (i := 91) rfl)) rfl
theorem q4_92 : (Jvm.Cond.selects "java/lang/StringBuilder" ({ cls := "java/lang/StringBuilder", name := "append", desc := "(Ljava/lang/String;)Ljava/lang/StringBuilder;" } : Jvm.MethodName) ({ cls := "java/lang/StringBuilder", name := "append", desc := "(Ljava/lang/String;)Ljava/lang/StringBuilder;" } : Jvm.MethodName)) ∈ lw_g := zg_of (zin4 (List.mem_of_getElem? (i := 92) rfl)) rfl
theorem ok_J4_append_15ec4 : zOV yJ4_append_15ec4 cJ4_append_15ec4 2 ((Option.some (Jvm.ClassFile.FieldType.object "java/lang/StringBuilder"))) 1 := ⟨⟨q4_93, q1_26, by decide, by decide, by decide +kernel⟩, q4_91, q4_92⟩
set_option maxHeartbeats 4000000 in
set_option maxRecDepth 100000 in
theorem c_bApS (l : Launch) (G : zG) (q sz n lt lv k : Nat) (h99 : sz ≥ G.2 99) (hk : k ≤ 2 ∧ n + k ≤ 34) (hl9 : @LT.lt Nat _ lt (G.2 99) ∧ @LT.lt Nat _ lv (G.2 99)) : Met l yJ4_append_15ec4 (wq yJ4_append_15ec4 cJ4_append_15ec4 2 ((Option.some (Jvm.ClassFile.FieldType.object "java/lang/StringBuilder")))) (rmM 5 113 1 34) (va_Pc [.ref (q), .ref (lt)] (zK G (fun H => hSX G q sz n n H ∧ zTx G H ∧ hLt G lt lv H ∧ zBy (G.2 3) lv k H))) (zM (fun y => sz ≤ y) (some (.ref (q))) (fun H => hSX G q sz (n + k) (n + k) H)) 1 34 (fun y => sz ≤ y) := by
  refine z_enterMA (by decide +kernel) (Nat.le_of_ble_eq_true rfl) ?_
  intro p env s m below meth cod Q S hG hP hS ret ls hl
  have hl : lv_has ls 2 [(0, .ref (q)), (1, .ref (lt))] := hl
  obtain ⟨v, cap, ⟨hQ, hV, hne⟩, hq, hv, hc, hnn⟩ := hP.1
  refine z_aload_n S dJ4_append_15ec4_0 hl 0 rfl rfl ?_
  refine z_aload_n S dJ4_append_15ec4_1 hl 1 rfl rfl ?_
  refine z_callSU S hG hS (c_sApS l G q sz n lt lv k h99 hk hl9) (fun _ h => h) ok_J5_append_cf1ce q4_95 q6_151 q3_161 (by decide) hQ zc_J4 q4_94 (hP) ⟨rfl, rfl, by decide, by decide⟩ ⟨Nat.le_of_ble_eq_true rfl, Nat.le_of_ble_eq_true rfl⟩ rfl (Nat.le_of_ble_eq_true rfl) hl.1 rfl dJ4_append_15ec4_2 (fun H_1 L_1 hB hz oq hS => ?_)
  refine lv_pop S.1 S.2.1 dJ4_append_15ec4_5 rfl ?_
  refine z_aload_n S dJ4_append_15ec4_6 hl 0 rfl rfl ?_
  exact ret _ _ _ _ _ _ dJ4_append_15ec4_7 hS (hB) (Nat.le_of_ble_eq_true rfl) (Nat.le_of_ble_eq_true rfl)
theorem dJ5_init_d00df_0 : decode cJ5_init_d00df 0 = .ok (.aload_n 0, 1) := by decide +kernel
theorem dJ5_init_d00df_1 : decode cJ5_init_d00df 1 = .ok (.invokespecial 3, 3) := by decide +kernel
theorem dJ5_init_d00df_4 : decode cJ5_init_d00df 4 = .ok (.getstatic 18, 3) := by decide +kernel
theorem dJ5_init_d00df_7 : decode cJ5_init_d00df 7 = .ok (.ifCond .eq 18, 3) := by decide +kernel
theorem dJ5_init_d00df_10 : decode cJ5_init_d00df 10 = .ok (.aload_n 0, 1) := by decide +kernel
theorem dJ5_init_d00df_11 : decode cJ5_init_d00df 11 = .ok (.iload_n 1, 1) := by decide +kernel
theorem dJ5_init_d00df_12 : decode cJ5_init_d00df 12 = .ok (.newarray .byte, 2) := by decide +kernel
theorem dJ5_init_d00df_14 : decode cJ5_init_d00df 14 = .ok (.putfield 15, 3) := by decide +kernel
theorem dJ5_init_d00df_17 : decode cJ5_init_d00df 17 = .ok (.aload_n 0, 1) := by decide +kernel
theorem dJ5_init_d00df_18 : decode cJ5_init_d00df 18 = .ok (.iconst 0, 1) := by decide +kernel
theorem dJ5_init_d00df_19 : decode cJ5_init_d00df 19 = .ok (.putfield 22, 3) := by decide +kernel
theorem dJ5_init_d00df_22 : decode cJ5_init_d00df 22 = .ok (.goto 16, 3) := by decide +kernel
theorem dJ5_init_d00df_25 : decode cJ5_init_d00df 25 = .ok (.aload_n 0, 1) := by decide +kernel
theorem dJ5_init_d00df_26 : decode cJ5_init_d00df 26 = .ok (.iload_n 1, 1) := by decide +kernel
theorem dJ5_init_d00df_27 : decode cJ5_init_d00df 27 = .ok (.invokestatic 26, 3) := by decide +kernel
theorem dJ5_init_d00df_30 : decode cJ5_init_d00df 30 = .ok (.putfield 15, 3) := by decide +kernel
theorem dJ5_init_d00df_33 : decode cJ5_init_d00df 33 = .ok (.aload_n 0, 1) := by decide +kernel
theorem dJ5_init_d00df_34 : decode cJ5_init_d00df 34 = .ok (.iconst 1, 1) := by decide +kernel
theorem dJ5_init_d00df_35 : decode cJ5_init_d00df 35 = .ok (.putfield 22, 3) := by decide +kernel
theorem dJ5_init_d00df_38 : decode cJ5_init_d00df 38 = .ok (.return_, 1) := by decide +kernel
theorem q3_139 : (Jvm.Cond.methodLink "java/lang/AbstractStringBuilder" (3 : Nat) ({ cls := "java/lang/Object", name := "<init>", desc := "()V" } : Jvm.MethodName)) ∈ lw_g := zg_of (zin3 (List.mem_of_getElem? (i := 139) rfl)) rfl
theorem q3_138 : (Jvm.Cond.code ({ cls := "java/lang/AbstractStringBuilder", name := "<init>", desc := "(I)V" } : Jvm.MethodName) prog_8_method_2_code (2 : Nat) (Option.none : Option Jvm.ClassFile.FieldType)) ∈ lw_g := zg_of (zin3 (List.mem_of_getElem? (i := 138) rfl)) rfl
theorem ok_J5_init_d00df : zOK yJ5_init_d00df cJ5_init_d00df 2 ((Option.none : Option Jvm.ClassFile.FieldType)) 1 := ⟨q3_138, q1_25, by decide, by decide, by decide +kernel⟩
set_option maxHeartbeats 4000000 in
set_option maxRecDepth 100000 in
theorem c_aIni (l : Launch) (G : zG) (q sz : Nat) : Met l yJ5_init_d00df (wq yJ5_init_d00df cJ5_init_d00df 2 ((Option.none : Option Jvm.ClassFile.FieldType))) (rmM 1 20 1 16) (va_Pc [.ref (q), .int (zI (16))] (zK G (fun H => va_at G.1 vwCl (q, .inr (1, [.null, .int 0, .int 0, .int 0])) H ∧ zTx G H ∧ H.size = sz))) (zM (fun y => y = q ∨ sz ≤ y) none (fun H => hSB G q sz 0 16 H)) 1 16 (fun y => y = q ∨ sz ≤ y) := by
  refine z_enterMV (by decide +kernel) (Nat.le_of_ble_eq_true rfl) ?_
  intro p env s m below meth cod Q S hnm hG hP hS ret ls hl
  have hl : lv_has ls 2 [(0, .ref (q)), (1, .int (zI (16)))] := hl
  obtain ⟨hQ, hT, hz0⟩ := hP
  have hqs := va_lt hQ
  refine z_aload_n S dJ5_init_d00df_0 hl 0 rfl rfl ?_
  refine z_objInit S hl.1 q3_139 q1_36 (by exact q1_37) dJ5_init_d00df_1 (Nat.le_of_ble_eq_true rfl) (Nat.le_of_ble_eq_true rfl) ?_
  refine z_gets S hG 1 rfl hT.1 q3_140 dJ5_init_d00df_4 ?_
  refine lv_if_eq (tgt := 25) S.1 S.2.1 dJ5_init_d00df_7 (by decide) (fun c_7 => ?_) (fun c_7 => ?_)
  · exact absurd c_7 (by decide)
  refine z_aload_n S dJ5_init_d00df_10 hl 0 rfl rfl ?_
  refine z_iload_n S dJ5_init_d00df_11 hl 1 rfl rfl ?_
  refine z_newB (N := 16) S hG (Nat.le_of_ble_eq_true rfl) q_arrB hS ⟨Nat.le_of_ble_eq_true rfl, Nat.le_of_ble_eq_true rfl⟩ dJ5_init_d00df_12 (fun n1 H_1 hq_n1 hat hz oq hS => ?_)
  have lt_hQ_n1 : n1 > q := by rw [hq_n1]; exact va_lt hQ
  have hQ := va_at.kept hQ (oq _ (va_lt hQ))
  have h_n1 := hat
  refine z_putR S hG hQ zc_J4 tyJ4 tyJ4_ok nmJ4 hS (Or.inl rfl) 0 (by decide) q3_149 rfl (tyJ4_ok 0 (by decide)) rfl rfl (Nat.le_of_ble_eq_true rfl) dJ5_init_d00df_14 (fun H_2 L_2 hat hz oq hS => ?_)
  have hQ := hat
  have h_n1 := h_n1.kept (fun hx => oq _ (by omega))
  refine z_aload_n S dJ5_init_d00df_17 hl 0 rfl rfl ?_
  refine z_iconst S dJ5_init_d00df_18 ?_
  refine z_putR S hG hQ zc_J4 tyJ4 tyJ4_ok nmJ4 hS (Or.inl rfl) 1 (by decide) q3_150 rfl (tyJ4_ok 1 (by decide)) rfl rfl (Nat.le_of_ble_eq_true rfl) dJ5_init_d00df_19 (fun H_3 L_3 hat hz oq hS => ?_)
  have hQ := hat
  have h_n1 := h_n1.kept (fun hx => oq _ (by omega))
  refine z_goto S 38 dJ5_init_d00df_22 (by decide) ?_
  obtain rfl : n1 = sz := by omega
  exact ret _ _ _ _ _ _ dJ5_init_d00df_38 hS (⟨hQ, h_n1, by omega⟩) (Nat.le_of_ble_eq_true rfl) (Nat.le_of_ble_eq_true rfl)
theorem dJ4_init_da8c8_0 : decode cJ4_init_da8c8 0 = .ok (.aload_n 0, 1) := by decide +kernel
theorem dJ4_init_da8c8_1 : decode cJ4_init_da8c8 1 = .ok (.bipush 16, 2) := by decide +kernel
theorem dJ4_init_da8c8_3 : decode cJ4_init_da8c8 3 = .ok (.invokespecial 1, 3) := by decide +kernel
theorem dJ4_init_da8c8_6 : decode cJ4_init_da8c8 6 = .ok (.return_, 1) := by decide +kernel
theorem q3_137 : (Jvm.Cond.instanceMethod ({ cls := "java/lang/AbstractStringBuilder", name := "<init>", desc := "(I)V" } : Jvm.MethodName)) ∈ lw_g := zg_of (zin3 (List.mem_of_getElem? (i := 137) rfl)) rfl
theorem q3_136 : (Jvm.Cond.methodLink "java/lang/StringBuilder" (1 : Nat) ({ cls := "java/lang/AbstractStringBuilder", name := "<init>", desc := "(I)V" } : Jvm.MethodName)) ∈ lw_g := zg_of (zin3 (List.mem_of_getElem? (i := 136) rfl)) rfl
theorem q3_135 : (Jvm.Cond.code ({ cls := "java/lang/StringBuilder", name := "<init>", desc := "()V" } : Jvm.MethodName) prog_24_method_1_code (1 : Nat) (Option.none : Option Jvm.ClassFile.FieldType)) ∈ lw_g := zg_of (zin3 (List.mem_of_getElem? (i := 135) rfl)) rfl
theorem ok_J4_init_da8c8 : zOK yJ4_init_da8c8 cJ4_init_da8c8 1 ((Option.none : Option Jvm.ClassFile.FieldType)) 0 := ⟨q3_135, q1_26, by decide, by decide, by decide +kernel⟩
set_option maxHeartbeats 4000000 in
set_option maxRecDepth 100000 in
theorem c_bIni (l : Launch) (G : zG) (q sz : Nat) : Met l yJ4_init_da8c8 (wq yJ4_init_da8c8 cJ4_init_da8c8 1 ((Option.none : Option Jvm.ClassFile.FieldType))) (rmM 2 41 1 16) (va_Pc [.ref (q)] (zK G (fun H => va_at G.1 vwCl (q, .inr (1, [.null, .int 0, .int 0, .int 0])) H ∧ zTx G H ∧ H.size = sz))) (zM (fun y => y = q ∨ sz ≤ y) none (fun H => hSB G q sz 0 16 H)) 1 16 (fun y => y = q ∨ sz ≤ y) := by
  refine z_enterMV (by decide +kernel) (Nat.le_of_ble_eq_true rfl) ?_
  intro p env s m below meth cod Q S hnm hG hP hS ret ls hl
  have hl : lv_has ls 1 [(0, .ref (q))] := hl
  refine z_aload_n S dJ4_init_da8c8_0 hl 0 rfl rfl ?_
  refine z_bipush S dJ4_init_da8c8_1 rfl ?_
  refine z_callMI S hG hS (c_aIni l G q sz) (fun _ h => h) ok_J5_init_d00df q3_137 rfl q3_136 (hP) ⟨rfl, rfl, by decide, by decide⟩ ⟨Nat.le_of_ble_eq_true rfl, Nat.le_of_ble_eq_true rfl⟩ rfl (Nat.le_of_ble_eq_true rfl) hl.1 rfl dJ4_init_da8c8_3 (fun H_1 L_1 hB hz oq hS => ?_)
  exact ret _ _ _ _ _ _ dJ4_init_da8c8_6 hS (hB) (Nat.le_of_ble_eq_true rfl) (Nat.le_of_ble_eq_true rfl)
theorem dJ5_getValue_6d5f1_0 : decode cJ5_getValue_6d5f1 0 = .ok (.aload_n 0, 1) := by decide +kernel
theorem dJ5_getValue_6d5f1_1 : decode cJ5_getValue_6d5f1 1 = .ok (.getfield 15, 3) := by decide +kernel
theorem dJ5_getValue_6d5f1_4 : decode cJ5_getValue_6d5f1 4 = .ok (.areturn, 1) := by decide +kernel
theorem q4_66 : (Jvm.Cond.code ({ cls := "java/lang/AbstractStringBuilder", name := "getValue", desc := "()[B" } : Jvm.MethodName) prog_8_method_64_code (1 : Nat) (Option.some (Jvm.ClassFile.FieldType.array Jvm.ClassFile.FieldType.byte))) ∈ lw_g := zg_of (zin4 (List.mem_of_getElem? (i := 66) rfl)) rfl
theorem ok_J5_getValue_6d5f1 : zOK yJ5_getValue_6d5f1 cJ5_getValue_6d5f1 1 ((Option.some (Jvm.ClassFile.FieldType.array Jvm.ClassFile.FieldType.byte))) 0 := ⟨q4_66, q1_25, by decide, by decide, by decide +kernel⟩
set_option maxHeartbeats 4000000 in
set_option maxRecDepth 100000 in
theorem c_sGv (l : Launch) (G : zG) (q v n cap : Nat) : Met l yJ5_getValue_6d5f1 (wq yJ5_getValue_6d5f1 cJ5_getValue_6d5f1 1 ((Option.some (Jvm.ClassFile.FieldType.array Jvm.ClassFile.FieldType.byte)))) (rmM 0 0 0 0) (va_Pc [.ref (q)] (zK G (hSB G q v n cap))) (zM (fun _ => False) (some (.ref (v))) (fun _ => True)) 0 0 (fun _ => False) := by
  refine z_enterMR (by decide +kernel) (Nat.le_of_ble_eq_true rfl) ?_
  intro p env s m below meth cod Q S hG hP hS ret ls hl
  have hl : lv_has ls 1 [(0, .ref (q))] := hl
  refine z_aload_n S dJ5_getValue_6d5f1_0 hl 0 rfl rfl ?_
  refine z_getR S hG hP.1 zc_J4 0 (by decide) q3_149 rfl dJ5_getValue_6d5f1_1 ?_
  exact ret _ _ _ _ _ _ dJ5_getValue_6d5f1_4 hS (trivial) (Nat.le_of_ble_eq_true rfl) (Nat.le_of_ble_eq_true rfl)
theorem dJ5_length_8abf5_0 : decode cJ5_length_8abf5 0 = .ok (.aload_n 0, 1) := by decide +kernel
theorem dJ5_length_8abf5_1 : decode cJ5_length_8abf5 1 = .ok (.getfield 79, 3) := by decide +kernel
theorem dJ5_length_8abf5_4 : decode cJ5_length_8abf5 4 = .ok (.ireturn, 1) := by decide +kernel
theorem q4_74 : (Jvm.Cond.code ({ cls := "java/lang/AbstractStringBuilder", name := "length", desc := "()I" } : Jvm.MethodName) prog_8_method_6_code (1 : Nat) (Option.some Jvm.ClassFile.FieldType.int)) ∈ lw_g := zg_of (zin4 (List.mem_of_getElem? (i := 74) rfl)) rfl
theorem ok_J5_length_8abf5 : zOK yJ5_length_8abf5 cJ5_length_8abf5 1 ((Option.some Jvm.ClassFile.FieldType.int)) 0 := ⟨q4_74, q1_25, by decide, by decide, by decide +kernel⟩
set_option maxHeartbeats 4000000 in
set_option maxRecDepth 100000 in
theorem c_sLn (l : Launch) (G : zG) (q v n cap : Nat) : Met l yJ5_length_8abf5 (wq yJ5_length_8abf5 cJ5_length_8abf5 1 ((Option.some Jvm.ClassFile.FieldType.int))) (rmM 0 0 0 0) (va_Pc [.ref (q)] (zK G (hSB G q v n cap))) (zM (fun _ => False) (some (.int ((zI ((n : Int)))))) (fun _ => True)) 0 0 (fun _ => False) := by
  refine z_enterMI (by decide +kernel) (Nat.le_of_ble_eq_true rfl) ?_
  intro p env s m below meth cod Q S hG hP hS ret ls hl
  have hl : lv_has ls 1 [(0, .ref (q))] := hl
  refine z_aload_n S dJ5_length_8abf5_0 hl 0 rfl rfl ?_
  refine z_getR S hG hP.1 zc_J4 3 (by decide) q3_152 rfl dJ5_length_8abf5_1 ?_
  exact ret _ _ _ _ _ _ _ dJ5_length_8abf5_4 (rfl) hS (trivial) (Nat.le_of_ble_eq_true rfl) (Nat.le_of_ble_eq_true rfl)
theorem dJ4_length_8abf5_0 : decode cJ4_length_8abf5 0 = .ok (.aload_n 0, 1) := by decide +kernel
theorem dJ4_length_8abf5_1 : decode cJ4_length_8abf5 1 = .ok (.invokespecial 343, 3) := by decide +kernel
theorem dJ4_length_8abf5_4 : decode cJ4_length_8abf5 4 = .ok (.ireturn, 1) := by decide +kernel
theorem q4_73 : (Jvm.Cond.methodLink "java/lang/StringBuilder" (343 : Nat) ({ cls := "java/lang/AbstractStringBuilder", name := "length", desc := "()I" } : Jvm.MethodName)) ∈ lw_g := zg_of (zin4 (List.mem_of_getElem? (i := 73) rfl)) rfl
theorem q4_68 : (Jvm.Cond.instanceMethod ({ cls := "java/lang/AbstractStringBuilder", name := "length", desc := "()I" } : Jvm.MethodName)) ∈ lw_g := zg_of (zin4 (List.mem_of_getElem? (i := 68) rfl)) rfl
theorem q4_69 : (Jvm.Cond.sameMethod "java/lang/AbstractStringBuilder" "java/lang/AbstractStringBuilder" "length" "()I") ∈ lw_g := zg_of (zin4 (List.mem_of_getElem? (i := 69) rfl)) rfl
theorem q4_72 : (Jvm.Cond.code ({ cls := "java/lang/StringBuilder", name := "length", desc := "()I" } : Jvm.MethodName) prog_24_method_93_code (1 : Nat) (Option.some Jvm.ClassFile.FieldType.int)) ∈ lw_g := zg_of (zin4 (List.mem_of_getElem? (i := 72) rfl)) rfl
theorem ok_J4_length_8abf5 : zOK yJ4_length_8abf5 cJ4_length_8abf5 1 ((Option.some Jvm.ClassFile.FieldType.int)) 0 := ⟨q4_72, q1_26, by decide, by decide, by decide +kernel⟩
set_option maxHeartbeats 4000000 in
set_option maxRecDepth 100000 in
theorem c_bLn (l : Launch) (G : zG) (q v n cap : Nat) : Met l yJ4_length_8abf5 (wq yJ4_length_8abf5 cJ4_length_8abf5 1 ((Option.some Jvm.ClassFile.FieldType.int))) (rmM 1 20 0 0) (va_Pc [.ref (q)] (zK G (hSB G q v n cap))) (zM (fun _ => False) (some (.int ((zI ((n : Int)))))) (fun _ => True)) 0 0 (fun _ => False) := by
  refine z_enterMI (by decide +kernel) (Nat.le_of_ble_eq_true rfl) ?_
  intro p env s m below meth cod Q S hG hP hS ret ls hl
  have hl : lv_has ls 1 [(0, .ref (q))] := hl
  have hQ := hP.1
  refine z_aload_n S dJ4_length_8abf5_0 hl 0 rfl rfl ?_
  refine z_callSU S hG hS (c_sLn l G q v n cap) (fun _ h => h) ok_J5_length_8abf5 q4_68 q4_69 q3_161 (by decide) hQ zc_J4 q4_73 (hP) ⟨rfl, rfl, by decide, by decide⟩ ⟨Nat.le_of_ble_eq_true rfl, Nat.le_of_ble_eq_true rfl⟩ rfl (Nat.le_of_ble_eq_true rfl) hl.1 rfl dJ4_length_8abf5_1 (fun H_1 L_1 hB hz oq hS => ?_)
  exact ret _ _ _ _ _ _ _ dJ4_length_8abf5_4 (rfl) hS (trivial) (Nat.le_of_ble_eq_true rfl) (Nat.le_of_ble_eq_true rfl)
theorem dJ7_checkLength_df160_0 : decode cJ7_checkLength_df160 0 = .ok (.iload_n 1, 1) := by decide +kernel
theorem dJ7_checkLength_df160_1 : decode cJ7_checkLength_df160 1 = .ok (.iload_n 0, 1) := by decide +kernel
theorem dJ7_checkLength_df160_2 : decode cJ7_checkLength_df160 2 = .ok (.if_icmp .ge 35, 3) := by decide +kernel
theorem dJ7_checkLength_df160_5 : decode cJ7_checkLength_df160 5 = .ok (.new 43, 3) := by decide +kernel
theorem dJ7_checkLength_df160_8 : decode cJ7_checkLength_df160 8 = .ok (.dup, 1) := by decide +kernel
theorem dJ7_checkLength_df160_9 : decode cJ7_checkLength_df160 9 = .ok (.new 45, 3) := by decide +kernel
theorem dJ7_checkLength_df160_12 : decode cJ7_checkLength_df160 12 = .ok (.dup, 1) := by decide +kernel
theorem dJ7_checkLength_df160_13 : decode cJ7_checkLength_df160 13 = .ok (.invokespecial 47, 3) := by decide +kernel
theorem dJ7_checkLength_df160_16 : decode cJ7_checkLength_df160 16 = .ok (.iload_n 0, 1) := by decide +kernel
theorem dJ7_checkLength_df160_17 : decode cJ7_checkLength_df160 17 = .ok (.invokevirtual 54, 3) := by decide +kernel
theorem dJ7_checkLength_df160_20 : decode cJ7_checkLength_df160 20 = .ok (.ldc_w 337, 3) := by decide +kernel
theorem dJ7_checkLength_df160_23 : decode cJ7_checkLength_df160 23 = .ok (.invokevirtual 50, 3) := by decide +kernel
theorem dJ7_checkLength_df160_26 : decode cJ7_checkLength_df160 26 = .ok (.iload_n 1, 1) := by decide +kernel
theorem dJ7_checkLength_df160_27 : decode cJ7_checkLength_df160 27 = .ok (.invokevirtual 54, 3) := by decide +kernel
theorem dJ7_checkLength_df160_30 : decode cJ7_checkLength_df160 30 = .ok (.invokevirtual 61, 3) := by decide +kernel
theorem dJ7_checkLength_df160_33 : decode cJ7_checkLength_df160 33 = .ok (.invokespecial 65, 3) := by decide +kernel
theorem dJ7_checkLength_df160_36 : decode cJ7_checkLength_df160 36 = .ok (.athrow, 1) := by decide +kernel
theorem dJ7_checkLength_df160_37 : decode cJ7_checkLength_df160 37 = .ok (.return_, 1) := by decide +kernel
theorem q4_84 : (Jvm.Cond.code ({ cls := "java/util/Arrays", name := "checkLength", desc := "(II)V" } : Jvm.MethodName) prog_35_method_131_code (2 : Nat) (Option.none : Option Jvm.ClassFile.FieldType)) ∈ lw_g := zg_of (zin4 (List.mem_of_getElem? (i := 84) rfl)) rfl
theorem q4_83 : (Jvm.Cond.static ({ cls := "java/util/Arrays", name := "checkLength", desc := "(II)V" } : Jvm.MethodName)) ∈ lw_g := zg_of (zin4 (List.mem_of_getElem? (i := 83) rfl)) rfl
theorem ok_J7_checkLength_df160 : zOS yJ7_checkLength_df160 cJ7_checkLength_df160 2 ((Option.none : Option Jvm.ClassFile.FieldType)) 2 := ⟨⟨q4_84, q1_19, by decide, by decide, by decide +kernel⟩, q4_83⟩
set_option maxHeartbeats 4000000 in
set_option maxRecDepth 100000 in
theorem c_sCl (l : Launch) (G : zG) (n sz : Nat) (hn : n ≤ 34) : Met l yJ7_checkLength_df160 (wq yJ7_checkLength_df160 cJ7_checkLength_df160 2 ((Option.none : Option Jvm.ClassFile.FieldType))) (rmM 0 0 0 0) (va_Pc [.int (zI (0)), .int (zI ((n : Int)))] (zK G (fun H => H.size = sz))) (zM (fun _ => False) none (fun H => H.size = sz)) 0 0 (fun _ => False) := by
  refine z_enterMV (by decide +kernel) (Nat.le_of_ble_eq_true rfl) ?_
  intro p env s m below meth cod Q S hnm hG hP hS ret ls hl
  have hl : lv_has ls 2 [(0, .int (zI (0))), (1, .int (zI ((n : Int))))] := hl
  refine z_iload_n S dJ7_checkLength_df160_0 hl 1 rfl rfl ?_
  refine z_iload_n S dJ7_checkLength_df160_1 hl 0 rfl rfl ?_
  refine z_icmp_ge_T S 37 dJ7_checkLength_df160_2 (by decide) (by omega) (by omega) (by omega) ?_
  exact ret _ _ _ _ _ _ dJ7_checkLength_df160_37 hS (hP) (Nat.le_of_ble_eq_true rfl) (Nat.le_of_ble_eq_true rfl)
theorem dJ7_copyOfRangeByte_39247_0 : decode cJ7_copyOfRangeByte_39247 0 = .ok (.iload_n 1, 1) := by decide +kernel
theorem dJ7_copyOfRangeByte_39247_1 : decode cJ7_copyOfRangeByte_39247 1 = .ok (.iload_n 2, 1) := by decide +kernel
theorem dJ7_copyOfRangeByte_39247_2 : decode cJ7_copyOfRangeByte_39247 2 = .ok (.invokestatic 343, 3) := by decide +kernel
theorem dJ7_copyOfRangeByte_39247_5 : decode cJ7_copyOfRangeByte_39247 5 = .ok (.iload_n 2, 1) := by decide +kernel
theorem dJ7_copyOfRangeByte_39247_6 : decode cJ7_copyOfRangeByte_39247 6 = .ok (.iload_n 1, 1) := by decide +kernel
theorem dJ7_copyOfRangeByte_39247_7 : decode cJ7_copyOfRangeByte_39247 7 = .ok (.isub, 1) := by decide +kernel
theorem dJ7_copyOfRangeByte_39247_8 : decode cJ7_copyOfRangeByte_39247 8 = .ok (.istore_n 3, 1) := by decide +kernel
theorem dJ7_copyOfRangeByte_39247_9 : decode cJ7_copyOfRangeByte_39247 9 = .ok (.iload_n 3, 1) := by decide +kernel
theorem dJ7_copyOfRangeByte_39247_10 : decode cJ7_copyOfRangeByte_39247 10 = .ok (.newarray .byte, 2) := by decide +kernel
theorem dJ7_copyOfRangeByte_39247_12 : decode cJ7_copyOfRangeByte_39247 12 = .ok (.astore 4, 2) := by decide +kernel
theorem dJ7_copyOfRangeByte_39247_14 : decode cJ7_copyOfRangeByte_39247 14 = .ok (.aload_n 0, 1) := by decide +kernel
theorem dJ7_copyOfRangeByte_39247_15 : decode cJ7_copyOfRangeByte_39247 15 = .ok (.iload_n 1, 1) := by decide +kernel
theorem dJ7_copyOfRangeByte_39247_16 : decode cJ7_copyOfRangeByte_39247 16 = .ok (.aload 4, 2) := by decide +kernel
theorem dJ7_copyOfRangeByte_39247_18 : decode cJ7_copyOfRangeByte_39247 18 = .ok (.iconst 0, 1) := by decide +kernel
theorem dJ7_copyOfRangeByte_39247_19 : decode cJ7_copyOfRangeByte_39247 19 = .ok (.aload_n 0, 1) := by decide +kernel
theorem dJ7_copyOfRangeByte_39247_20 : decode cJ7_copyOfRangeByte_39247 20 = .ok (.arraylength, 1) := by decide +kernel
theorem dJ7_copyOfRangeByte_39247_21 : decode cJ7_copyOfRangeByte_39247 21 = .ok (.iload_n 1, 1) := by decide +kernel
theorem dJ7_copyOfRangeByte_39247_22 : decode cJ7_copyOfRangeByte_39247 22 = .ok (.isub, 1) := by decide +kernel
theorem dJ7_copyOfRangeByte_39247_23 : decode cJ7_copyOfRangeByte_39247 23 = .ok (.iload_n 3, 1) := by decide +kernel
theorem dJ7_copyOfRangeByte_39247_24 : decode cJ7_copyOfRangeByte_39247 24 = .ok (.invokestatic 304, 3) := by decide +kernel
theorem dJ7_copyOfRangeByte_39247_27 : decode cJ7_copyOfRangeByte_39247 27 = .ok (.invokestatic 150, 3) := by decide +kernel
theorem dJ7_copyOfRangeByte_39247_30 : decode cJ7_copyOfRangeByte_39247 30 = .ok (.aload 4, 2) := by decide +kernel
theorem dJ7_copyOfRangeByte_39247_32 : decode cJ7_copyOfRangeByte_39247 32 = .ok (.areturn, 1) := by decide +kernel
theorem q4_82 : (Jvm.Cond.methodLink "java/util/Arrays" (343 : Nat) ({ cls := "java/util/Arrays", name := "checkLength", desc := "(II)V" } : Jvm.MethodName)) ∈ lw_g := zg_of (zin4 (List.mem_of_getElem? (i := 82) rfl)) rfl
theorem q4_81 : (Jvm.Cond.code ({ cls := "java/util/Arrays", name := "copyOfRangeByte", desc := "([BII)[B" } : Jvm.MethodName) prog_35_method_133_code (5 : Nat) (Option.some (Jvm.ClassFile.FieldType.array Jvm.ClassFile.FieldType.byte))) ∈ lw_g := zg_of (zin4 (List.mem_of_getElem? (i := 81) rfl)) rfl
theorem q4_80 : (Jvm.Cond.static ({ cls := "java/util/Arrays", name := "copyOfRangeByte", desc := "([BII)[B" } : Jvm.MethodName)) ∈ lw_g := zg_of (zin4 (List.mem_of_getElem? (i := 80) rfl)) rfl
theorem ok_J7_copyOfRangeByte_39247 : zOS yJ7_copyOfRangeByte_39247 cJ7_copyOfRangeByte_39247 5 ((Option.some (Jvm.ClassFile.FieldType.array Jvm.ClassFile.FieldType.byte))) 3 := ⟨⟨q4_81, q1_19, by decide, by decide, by decide +kernel⟩, q4_80⟩
set_option maxHeartbeats 4000000 in
set_option maxRecDepth 100000 in
theorem c_sCrb (l : Launch) (G : zG) (v cap n sz : Nat) (hn : n ≤ cap ∧ cap ≤ 34) : Met l yJ7_copyOfRangeByte_39247 (wq yJ7_copyOfRangeByte_39247 cJ7_copyOfRangeByte_39247 5 ((Option.some (Jvm.ClassFile.FieldType.array Jvm.ClassFile.FieldType.byte)))) (rmM 1 40 1 34) (va_Pc [.ref (v), .int (zI (0)), .int (zI ((n : Int)))] (zK G (fun H => zBy (G.2 3) v cap H ∧ H.size = sz))) (zM (fun y => sz ≤ y) (some (.ref (sz))) (fun H => zBy (G.2 3) sz n H)) 1 34 (fun y => sz ≤ y) := by
  refine z_enterMR (by decide +kernel) (Nat.le_of_ble_eq_true rfl) ?_
  intro p env s m below meth cod Q S hG hP hS ret ls hl
  have hl : lv_has ls 5 [(0, .ref (v)), (1, .int (zI (0))), (2, .int (zI ((n : Int))))] := hl
  obtain ⟨hV, hz0⟩ := hP
  refine z_iload_n S dJ7_copyOfRangeByte_39247_0 hl 1 rfl rfl ?_
  refine z_iload_n S dJ7_copyOfRangeByte_39247_1 hl 2 rfl rfl ?_
  refine z_callSM S hG hS (c_sCl l G n sz (by omega)) (fun _ h => h.elim) ok_J7_checkLength_df160 q4_82 (hz0) ⟨rfl, rfl, by decide, by decide⟩ ⟨Nat.le_of_ble_eq_true rfl, Nat.le_of_ble_eq_true rfl⟩ rfl (Nat.le_of_ble_eq_true rfl) hl.1 rfl dJ7_copyOfRangeByte_39247_2 (fun H_1 L_1 hB hz oq hS => ?_)
  have hV := zBy.kept hV (fun _ => oq _ (zBy.lt hV) (fun h => h))
  have hz0 := hB
  refine z_iload_n S dJ7_copyOfRangeByte_39247_5 hl 2 rfl rfl ?_
  refine z_iload_n S dJ7_copyOfRangeByte_39247_6 hl 1 rfl rfl ?_
  refine z_isub S dJ7_copyOfRangeByte_39247_7 ?_
  rw [show ((n : Int)) - (0) = (n : Int) from by omega]
  refine z_istore_n (lv' := [(3, .int (zI ((n : Int)))), (0, .ref (v)), (1, .int (zI (0))), (2, .int (zI ((n : Int))))]) S dJ7_copyOfRangeByte_39247_8 hl rfl (by decide) rfl (fun ls hl => ?_)
  refine z_iload_n S dJ7_copyOfRangeByte_39247_9 hl 0 rfl rfl ?_
  refine z_newB (N := n) S hG (by omega) q_arrB hS ⟨by decide, by show 0 + n ≤ 34; omega⟩ dJ7_copyOfRangeByte_39247_10 (fun n1 H_2 hq_n1 hat hz oq hS => ?_)
  have lt_hV_n1 : n1 > v := by rw [hq_n1]; exact zBy.lt hV
  have hV := zBy.kept hV (fun _ => oq _ (zBy.lt hV))
  have h_n1 := hat
  refine z_astore (lv' := [(4, .ref (n1)), (3, .int (zI ((n : Int)))), (0, .ref (v)), (1, .int (zI (0))), (2, .int (zI ((n : Int))))]) S dJ7_copyOfRangeByte_39247_12 hl (by decide) rfl (fun ls hl => ?_)
  refine z_aload_n S dJ7_copyOfRangeByte_39247_14 hl 2 rfl rfl ?_
  refine z_iload_n S dJ7_copyOfRangeByte_39247_15 hl 3 rfl rfl ?_
  refine z_aload S dJ7_copyOfRangeByte_39247_16 hl 0 rfl ?_
  refine z_iconst S dJ7_copyOfRangeByte_39247_18 ?_
  refine z_aload_n S dJ7_copyOfRangeByte_39247_19 hl 2 rfl rfl ?_
  refine z_blen S (zG_by hG) hV dJ7_copyOfRangeByte_39247_20 ?_
  refine z_iload_n S dJ7_copyOfRangeByte_39247_21 hl 3 rfl rfl ?_
  refine z_isub S dJ7_copyOfRangeByte_39247_22 ?_
  refine z_iload_n S dJ7_copyOfRangeByte_39247_23 hl 1 rfl rfl ?_
  refine z_min S (by omega) (by omega) q3_196 q3_197 q1_18 (by exact q3_198) (by decide) (Nat.le_of_ble_eq_true rfl) ⟨(by show _ ≤ (1 : Nat); omega), (by show _ ≤ (34 : Nat); omega)⟩ hl.1 dJ7_copyOfRangeByte_39247_24 ?_
  rw [show (if (n : Int) < ((cap : Int)) - (0) then (n : Int) else ((cap : Int)) - (0)) = (n : Int) from by split <;> omega]
  refine z_copyBy S hG hV h_n1 hS (by show sz ≤ n1; omega) (dp := 0) (n := (n : Int)) (by omega) (by omega) q3_199 ⟨q3_201, q3_200, q1_20⟩ hl.1 (by decide) (Nat.le_of_ble_eq_true rfl) dJ7_copyOfRangeByte_39247_27 (fun H_3 L_3 hat hz oq hS => ?_)
  have hV := zBy.kept hV (fun _ => oq _ (show n1 ≠ v by omega).symm)
  have h_n1 := hat
  refine z_aload S dJ7_copyOfRangeByte_39247_30 hl 0 rfl ?_
  obtain rfl : n1 = sz := by omega
  exact ret _ _ _ _ _ _ dJ7_copyOfRangeByte_39247_32 hS (h_n1) (Nat.le_of_ble_eq_true rfl) (by omega)
theorem dJ7_copyOfRange_39247_0 : decode cJ7_copyOfRange_39247 0 = .ok (.iload_n 1, 1) := by decide +kernel
theorem dJ7_copyOfRange_39247_1 : decode cJ7_copyOfRange_39247 1 = .ok (.ifCond .ne 9, 3) := by decide +kernel
theorem dJ7_copyOfRange_39247_4 : decode cJ7_copyOfRange_39247 4 = .ok (.iload_n 2, 1) := by decide +kernel
theorem dJ7_copyOfRange_39247_5 : decode cJ7_copyOfRange_39247 5 = .ok (.aload_n 0, 1) := by decide +kernel
theorem dJ7_copyOfRange_39247_6 : decode cJ7_copyOfRange_39247 6 = .ok (.arraylength, 1) := by decide +kernel
theorem dJ7_copyOfRange_39247_7 : decode cJ7_copyOfRange_39247 7 = .ok (.if_icmp .eq 10, 3) := by decide +kernel
theorem dJ7_copyOfRange_39247_10 : decode cJ7_copyOfRange_39247 10 = .ok (.aload_n 0, 1) := by decide +kernel
theorem dJ7_copyOfRange_39247_11 : decode cJ7_copyOfRange_39247 11 = .ok (.iload_n 1, 1) := by decide +kernel
theorem dJ7_copyOfRange_39247_12 : decode cJ7_copyOfRange_39247 12 = .ok (.iload_n 2, 1) := by decide +kernel
theorem dJ7_copyOfRange_39247_13 : decode cJ7_copyOfRange_39247 13 = .ok (.invokestatic 339, 3) := by decide +kernel
theorem dJ7_copyOfRange_39247_16 : decode cJ7_copyOfRange_39247 16 = .ok (.areturn, 1) := by decide +kernel
theorem dJ7_copyOfRange_39247_17 : decode cJ7_copyOfRange_39247 17 = .ok (.aload_n 0, 1) := by decide +kernel
theorem dJ7_copyOfRange_39247_18 : decode cJ7_copyOfRange_39247 18 = .ok (.invokevirtual 310, 3) := by decide +kernel
theorem dJ7_copyOfRange_39247_21 : decode cJ7_copyOfRange_39247 21 = .ok (.checkcast 311, 3) := by decide +kernel
theorem dJ7_copyOfRange_39247_24 : decode cJ7_copyOfRange_39247 24 = .ok (.areturn, 1) := by decide +kernel
theorem q3_189 : (Jvm.Cond.methodLink "java/util/Arrays" (310 : Nat) ({ cls := "[B", name := "clone", desc := "()Ljava/lang/Object;" } : Jvm.MethodName)) ∈ lw_g := zg_of (zin3 (List.mem_of_getElem? (i := 189) rfl)) rfl
theorem q3_190 : (Jvm.Cond.sameMethod "[B" "java/lang/Object" "clone" "()Ljava/lang/Object;") ∈ lw_g := zg_of (zin3 (List.mem_of_getElem? (i := 190) rfl)) rfl
theorem q3_191 : (Jvm.Cond.native ({ cls := "java/lang/Object", name := "clone", desc := "()Ljava/lang/Object;" } : Jvm.MethodName)) ∈ lw_g := zg_of (zin3 (List.mem_of_getElem? (i := 191) rfl)) rfl
theorem q3_192 : (Jvm.Cond.instanceMethod ({ cls := "java/lang/Object", name := "clone", desc := "()Ljava/lang/Object;" } : Jvm.MethodName)) ∈ lw_g := zg_of (zin3 (List.mem_of_getElem? (i := 192) rfl)) rfl
theorem q3_193 : (Jvm.Cond.selects "[B" ({ cls := "[B", name := "clone", desc := "()Ljava/lang/Object;" } : Jvm.MethodName) ({ cls := "java/lang/Object", name := "clone", desc := "()Ljava/lang/Object;" } : Jvm.MethodName)) ∈ lw_g := zg_of (zin3 (List.mem_of_getElem? (i := 193) rfl)) rfl
theorem qt3_194 : (Jvm.Cond.castable "[B" "java/lang/Cloneable") ∈ lw_tbl := zin3 (List.mem_of_getElem? (i := 194) rfl)
theorem q3_195 : (Jvm.Cond.classLink "java/util/Arrays" (311 : Nat) "[B") ∈ lw_g := zg_of (zin3 (List.mem_of_getElem? (i := 195) rfl)) rfl
theorem q4_79 : (Jvm.Cond.methodLink "java/util/Arrays" (339 : Nat) ({ cls := "java/util/Arrays", name := "copyOfRangeByte", desc := "([BII)[B" } : Jvm.MethodName)) ∈ lw_g := zg_of (zin4 (List.mem_of_getElem? (i := 79) rfl)) rfl
theorem q4_78 : (Jvm.Cond.code ({ cls := "java/util/Arrays", name := "copyOfRange", desc := "([BII)[B" } : Jvm.MethodName) prog_35_method_132_code (3 : Nat) (Option.some (Jvm.ClassFile.FieldType.array Jvm.ClassFile.FieldType.byte))) ∈ lw_g := zg_of (zin4 (List.mem_of_getElem? (i := 78) rfl)) rfl
theorem q4_77 : (Jvm.Cond.static ({ cls := "java/util/Arrays", name := "copyOfRange", desc := "([BII)[B" } : Jvm.MethodName)) ∈ lw_g := zg_of (zin4 (List.mem_of_getElem? (i := 77) rfl)) rfl
theorem ok_J7_copyOfRange_39247 : zOS yJ7_copyOfRange_39247 cJ7_copyOfRange_39247 3 ((Option.some (Jvm.ClassFile.FieldType.array Jvm.ClassFile.FieldType.byte))) 3 := ⟨⟨q4_78, q1_19, by decide, by decide, by decide +kernel⟩, q4_77⟩
set_option maxHeartbeats 4000000 in
set_option maxRecDepth 100000 in
theorem c_sCr (l : Launch) (G : zG) (v cap n sz : Nat) (hn : n ≤ cap ∧ cap ≤ 34) : Met l yJ7_copyOfRange_39247 (wq yJ7_copyOfRange_39247 cJ7_copyOfRange_39247 3 ((Option.some (Jvm.ClassFile.FieldType.array Jvm.ClassFile.FieldType.byte)))) (rmM 2 64 1 34) (va_Pc [.ref (v), .int (zI (0)), .int (zI ((n : Int)))] (zK G (fun H => zBy (G.2 3) v cap H ∧ H.size = sz))) (zM (fun y => sz ≤ y) (some (.ref (sz))) (fun H => zBy (G.2 3) sz n H)) 1 34 (fun y => sz ≤ y) := by
  refine z_enterMR (by decide +kernel) (Nat.le_of_ble_eq_true rfl) ?_
  intro p env s m below meth cod Q S hG hP hS ret ls hl
  have hl : lv_has ls 3 [(0, .ref (v)), (1, .int (zI (0))), (2, .int (zI ((n : Int))))] := hl
  obtain ⟨hV, hz0⟩ := hP
  by_cases he : n = cap
  · skip
    refine z_iload_n S dJ7_copyOfRange_39247_0 hl 1 rfl rfl ?_
    refine z_if_ne_F S 10 dJ7_copyOfRange_39247_1 (by decide) (by omega) (by omega) ?_
    refine z_iload_n S dJ7_copyOfRange_39247_4 hl 2 rfl rfl ?_
    refine z_aload_n S dJ7_copyOfRange_39247_5 hl 0 rfl rfl ?_
    refine z_blen S (zG_by hG) hV dJ7_copyOfRange_39247_6 ?_
    refine z_icmp_eq_T S 17 dJ7_copyOfRange_39247_7 (by decide) (by omega) (by omega) (by omega) ?_
    refine z_aload_n S dJ7_copyOfRange_39247_17 hl 0 rfl rfl ?_
    refine z_cloneBy S hG hV hS q3_189 q3_190 q3_191 q3_192 q3_193 qt3_194 hl.1 (by decide) (Nat.le_of_ble_eq_true rfl) ⟨by decide, by show 0 + cap ≤ 34; omega⟩ dJ7_copyOfRange_39247_18 (fun n1 H_1 hq_n1 hat hz oq hS => ?_)
    have h_n1 := hat
    refine z_castB S hG h_n1 q3_195 dJ7_copyOfRange_39247_21 ?_
    obtain rfl : n1 = sz := by omega
    exact ret _ _ _ _ _ _ dJ7_copyOfRange_39247_24 hS (by rw [he]; exact h_n1) (Nat.le_of_ble_eq_true rfl) (by omega)
  · skip
    refine z_iload_n S dJ7_copyOfRange_39247_0 hl 1 rfl rfl ?_
    refine z_if_ne_F S 10 dJ7_copyOfRange_39247_1 (by decide) (by omega) (by omega) ?_
    refine z_iload_n S dJ7_copyOfRange_39247_4 hl 2 rfl rfl ?_
    refine z_aload_n S dJ7_copyOfRange_39247_5 hl 0 rfl rfl ?_
    refine z_blen S (zG_by hG) hV dJ7_copyOfRange_39247_6 ?_
    refine z_icmp_eq_F S 17 dJ7_copyOfRange_39247_7 (by decide) (by omega) (by omega) (by omega) ?_
    refine z_aload_n S dJ7_copyOfRange_39247_10 hl 0 rfl rfl ?_
    refine z_iload_n S dJ7_copyOfRange_39247_11 hl 1 rfl rfl ?_
    refine z_iload_n S dJ7_copyOfRange_39247_12 hl 2 rfl rfl ?_
    refine z_callSM S hG hS (c_sCrb l G v cap n sz hn) (fun _ h => h) ok_J7_copyOfRangeByte_39247 q4_79 (⟨hV, hz0⟩) ⟨rfl, rfl, by decide, by decide⟩ ⟨Nat.le_of_ble_eq_true rfl, Nat.le_of_ble_eq_true rfl⟩ rfl (Nat.le_of_ble_eq_true rfl) hl.1 rfl dJ7_copyOfRange_39247_13 (fun H_2 L_2 hB hz oq hS => ?_)
    exact ret _ _ _ _ _ _ dJ7_copyOfRange_39247_16 hS (hB) (Nat.le_of_ble_eq_true rfl) (Nat.le_of_ble_eq_true rfl)
theorem dJ0_init_db425_0 : decode cJ0_init_db425 0 = .ok (.aload_n 0, 1) := by decide +kernel
theorem dJ0_init_db425_1 : decode cJ0_init_db425 1 = .ok (.invokespecial 1, 3) := by decide +kernel
theorem dJ0_init_db425_4 : decode cJ0_init_db425 4 = .ok (.aload_n 1, 1) := by decide +kernel
theorem dJ0_init_db425_5 : decode cJ0_init_db425 5 = .ok (.invokevirtual 552, 3) := by decide +kernel
theorem dJ0_init_db425_8 : decode cJ0_init_db425 8 = .ok (.astore_n 3, 1) := by decide +kernel
theorem dJ0_init_db425_9 : decode cJ0_init_db425 9 = .ok (.aload_n 1, 1) := by decide +kernel
theorem dJ0_init_db425_10 : decode cJ0_init_db425 10 = .ok (.invokevirtual 549, 3) := by decide +kernel
theorem dJ0_init_db425_13 : decode cJ0_init_db425 13 = .ok (.istore 4, 2) := by decide +kernel
theorem dJ0_init_db425_15 : decode cJ0_init_db425 15 = .ok (.aload_n 1, 1) := by decide +kernel
theorem dJ0_init_db425_16 : decode cJ0_init_db425 16 = .ok (.invokevirtual 1047, 3) := by decide +kernel
theorem dJ0_init_db425_19 : decode cJ0_init_db425 19 = .ok (.ifCond .eq 22, 3) := by decide +kernel
theorem dJ0_init_db425_22 : decode cJ0_init_db425 22 = .ok (.aload_n 0, 1) := by decide +kernel
theorem dJ0_init_db425_23 : decode cJ0_init_db425 23 = .ok (.iconst 0, 1) := by decide +kernel
theorem dJ0_init_db425_24 : decode cJ0_init_db425 24 = .ok (.putfield 15, 3) := by decide +kernel
theorem dJ0_init_db425_27 : decode cJ0_init_db425 27 = .ok (.aload_n 0, 1) := by decide +kernel
theorem dJ0_init_db425_28 : decode cJ0_init_db425 28 = .ok (.aload_n 3, 1) := by decide +kernel
theorem dJ0_init_db425_29 : decode cJ0_init_db425 29 = .ok (.iconst 0, 1) := by decide +kernel
theorem dJ0_init_db425_30 : decode cJ0_init_db425 30 = .ok (.iload 4, 2) := by decide +kernel
theorem dJ0_init_db425_32 : decode cJ0_init_db425 32 = .ok (.invokestatic 54, 3) := by decide +kernel
theorem dJ0_init_db425_35 : decode cJ0_init_db425 35 = .ok (.putfield 9, 3) := by decide +kernel
theorem dJ0_init_db425_38 : decode cJ0_init_db425 38 = .ok (.goto 59, 3) := by decide +kernel
theorem dJ0_init_db425_41 : decode cJ0_init_db425 41 = .ok (.getstatic 38, 3) := by decide +kernel
theorem dJ0_init_db425_44 : decode cJ0_init_db425 44 = .ok (.ifCond .eq 35, 3) := by decide +kernel
theorem dJ0_init_db425_47 : decode cJ0_init_db425 47 = .ok (.aload_n 1, 1) := by decide +kernel
theorem dJ0_init_db425_48 : decode cJ0_init_db425 48 = .ok (.getfield 1048, 3) := by decide +kernel
theorem dJ0_init_db425_51 : decode cJ0_init_db425 51 = .ok (.ifCond .eq 28, 3) := by decide +kernel
theorem dJ0_init_db425_54 : decode cJ0_init_db425 54 = .ok (.aload_n 0, 1) := by decide +kernel
theorem dJ0_init_db425_55 : decode cJ0_init_db425 55 = .ok (.aload_n 3, 1) := by decide +kernel
theorem dJ0_init_db425_56 : decode cJ0_init_db425 56 = .ok (.iconst 0, 1) := by decide +kernel
theorem dJ0_init_db425_57 : decode cJ0_init_db425 57 = .ok (.iload 4, 2) := by decide +kernel
theorem dJ0_init_db425_59 : decode cJ0_init_db425 59 = .ok (.invokestatic 1051, 3) := by decide +kernel
theorem dJ0_init_db425_62 : decode cJ0_init_db425 62 = .ok (.putfield 9, 3) := by decide +kernel
theorem dJ0_init_db425_65 : decode cJ0_init_db425 65 = .ok (.aload_n 0, 1) := by decide +kernel
theorem dJ0_init_db425_66 : decode cJ0_init_db425 66 = .ok (.aload_n 0, 1) := by decide +kernel
theorem dJ0_init_db425_67 : decode cJ0_init_db425 67 = .ok (.getfield 9, 3) := by decide +kernel
theorem dJ0_init_db425_70 : decode cJ0_init_db425 70 = .ok (.iload 4, 2) := by decide +kernel
theorem dJ0_init_db425_72 : decode cJ0_init_db425 72 = .ok (.invokestatic 47, 3) := by decide +kernel
theorem dJ0_init_db425_75 : decode cJ0_init_db425 75 = .ok (.putfield 15, 3) := by decide +kernel
theorem dJ0_init_db425_78 : decode cJ0_init_db425 78 = .ok (.return_, 1) := by decide +kernel
theorem dJ0_init_db425_79 : decode cJ0_init_db425 79 = .ok (.aload_n 0, 1) := by decide +kernel
theorem dJ0_init_db425_80 : decode cJ0_init_db425 80 = .ok (.iconst 1, 1) := by decide +kernel
theorem dJ0_init_db425_81 : decode cJ0_init_db425 81 = .ok (.putfield 15, 3) := by decide +kernel
theorem dJ0_init_db425_84 : decode cJ0_init_db425 84 = .ok (.aload_n 0, 1) := by decide +kernel
theorem dJ0_init_db425_85 : decode cJ0_init_db425 85 = .ok (.aload_n 3, 1) := by decide +kernel
theorem dJ0_init_db425_86 : decode cJ0_init_db425 86 = .ok (.iconst 0, 1) := by decide +kernel
theorem dJ0_init_db425_87 : decode cJ0_init_db425 87 = .ok (.iload 4, 2) := by decide +kernel
theorem dJ0_init_db425_89 : decode cJ0_init_db425 89 = .ok (.iconst 1, 1) := by decide +kernel
theorem dJ0_init_db425_90 : decode cJ0_init_db425 90 = .ok (.ishl, 1) := by decide +kernel
theorem dJ0_init_db425_91 : decode cJ0_init_db425 91 = .ok (.invokestatic 54, 3) := by decide +kernel
theorem dJ0_init_db425_94 : decode cJ0_init_db425 94 = .ok (.putfield 9, 3) := by decide +kernel
theorem dJ0_init_db425_97 : decode cJ0_init_db425 97 = .ok (.return_, 1) := by decide +kernel
theorem q4_61 : (Jvm.Cond.methodLink "java/lang/String" (1 : Nat) ({ cls := "java/lang/Object", name := "<init>", desc := "()V" } : Jvm.MethodName)) ∈ lw_g := zg_of (zin4 (List.mem_of_getElem? (i := 61) rfl)) rfl
theorem q4_62 : (Jvm.Cond.methodLink "java/lang/String" (552 : Nat) ({ cls := "java/lang/AbstractStringBuilder", name := "getValue", desc := "()[B" } : Jvm.MethodName)) ∈ lw_g := zg_of (zin4 (List.mem_of_getElem? (i := 62) rfl)) rfl
theorem q4_63 : (Jvm.Cond.instanceMethod ({ cls := "java/lang/AbstractStringBuilder", name := "getValue", desc := "()[B" } : Jvm.MethodName)) ∈ lw_g := zg_of (zin4 (List.mem_of_getElem? (i := 63) rfl)) rfl
theorem q4_65 : (Jvm.Cond.selects "java/lang/StringBuilder" ({ cls := "java/lang/AbstractStringBuilder", name := "getValue", desc := "()[B" } : Jvm.MethodName) ({ cls := "java/lang/AbstractStringBuilder", name := "getValue", desc := "()[B" } : Jvm.MethodName)) ∈ lw_g := zg_of (zin4 (List.mem_of_getElem? (i := 65) rfl)) rfl
theorem q4_67 : (Jvm.Cond.methodLink "java/lang/String" (549 : Nat) ({ cls := "java/lang/AbstractStringBuilder", name := "length", desc := "()I" } : Jvm.MethodName)) ∈ lw_g := zg_of (zin4 (List.mem_of_getElem? (i := 67) rfl)) rfl
theorem q4_71 : (Jvm.Cond.instanceMethod ({ cls := "java/lang/StringBuilder", name := "length", desc := "()I" } : Jvm.MethodName)) ∈ lw_g := zg_of (zin4 (List.mem_of_getElem? (i := 71) rfl)) rfl
theorem q4_70 : (Jvm.Cond.selects "java/lang/StringBuilder" ({ cls := "java/lang/AbstractStringBuilder", name := "length", desc := "()I" } : Jvm.MethodName) ({ cls := "java/lang/StringBuilder", name := "length", desc := "()I" } : Jvm.MethodName)) ∈ lw_g := zg_of (zin4 (List.mem_of_getElem? (i := 70) rfl)) rfl
theorem q4_75 : (Jvm.Cond.methodLink "java/lang/String" (1047 : Nat) ({ cls := "java/lang/AbstractStringBuilder", name := "isLatin1", desc := "()Z" } : Jvm.MethodName)) ∈ lw_g := zg_of (zin4 (List.mem_of_getElem? (i := 75) rfl)) rfl
theorem q4_76 : (Jvm.Cond.methodLink "java/lang/String" (54 : Nat) ({ cls := "java/util/Arrays", name := "copyOfRange", desc := "([BII)[B" } : Jvm.MethodName)) ∈ lw_g := zg_of (zin4 (List.mem_of_getElem? (i := 76) rfl)) rfl
theorem q4_60 : (Jvm.Cond.code ({ cls := "java/lang/String", name := "<init>", desc := "(Ljava/lang/AbstractStringBuilder;Ljava/lang/Void;)V" } : Jvm.MethodName) prog_23_method_150_code (5 : Nat) (Option.none : Option Jvm.ClassFile.FieldType)) ∈ lw_g := zg_of (zin4 (List.mem_of_getElem? (i := 60) rfl)) rfl
theorem ok_J0_init_db425 : zOK yJ0_init_db425 cJ0_init_db425 5 ((Option.none : Option Jvm.ClassFile.FieldType)) 2 := ⟨q4_60, q1_27, by decide, by decide, by decide +kernel⟩
set_option maxHeartbeats 4000000 in
set_option maxRecDepth 100000 in
theorem c_sIni2 (l : Launch) (G : zG) (t q v n cap sz : Nat) (ht9 : t ≥ G.2 99) (htq : t ≠ q ∧ t ≠ v) (hn : n ≤ cap ∧ cap ≤ 34) : Met l yJ0_init_db425 (wq yJ0_init_db425 cJ0_init_db425 5 ((Option.none : Option Jvm.ClassFile.FieldType))) (rmM 3 86 1 34) (va_Pc [.ref (t), .ref (q), .null] (zK G (fun H => va_at G.1 vwCl (t, .inr (0, [.null, .int 0, .int 0, .int 0])) H ∧ hSB G q v n cap H ∧ zTx G H ∧ H.size = sz))) (zM (fun y => y = t ∨ sz ≤ y) none (fun _ => True)) 1 34 (fun y => y = t ∨ sz ≤ y) := by
  refine z_enterMV (by decide +kernel) (Nat.le_of_ble_eq_true rfl) ?_
  intro p env s m below meth cod Q S hnm hG hP hS ret ls hl
  have hl : lv_has ls 5 [(0, .ref (t)), (1, .ref (q)), (2, .null)] := hl
  obtain ⟨hO, ⟨hQ, hV, hne⟩, hT, hz0⟩ := hP
  have hos := va_lt hO
  have hqs := va_lt hQ
  have hvs := hV.lt
  refine z_aload_n S dJ0_init_db425_0 hl 0 rfl rfl ?_
  refine z_objInit S hl.1 q4_61 q1_36 (by exact q1_37) dJ0_init_db425_1 (Nat.le_of_ble_eq_true rfl) (Nat.le_of_ble_eq_true rfl) ?_
  refine z_aload_n S dJ0_init_db425_4 hl 1 rfl rfl ?_
  refine z_callQ S hG hS (c_sGv l G q v n cap) (fun _ h => h.elim) ok_J5_getValue_6d5f1 q4_63 (S.2.2.2.2 _ q4_65) (z_rcv hG hQ zc_J4) q4_62 (⟨hQ, hV, hne⟩) ⟨rfl, rfl, by decide, by decide⟩ ⟨Nat.le_of_ble_eq_true rfl, Nat.le_of_ble_eq_true rfl⟩ rfl (Nat.le_of_ble_eq_true rfl) hl.1 rfl dJ0_init_db425_5 (fun H_1 L_1 hB hz oq hS => ?_)
  have hO := va_at.kept hO (oq _ (va_lt hO) (fun h => h))
  have hQ := va_at.kept hQ (oq _ (va_lt hQ) (fun h => h))
  have hV := zBy.kept hV (fun _ => oq _ (zBy.lt hV) (fun h => h))
  have hT := zTx.kept hT (fun y hx h9 => oq y hx (fun h => h))
  refine z_astore_n (lv' := [(3, .ref (v)), (0, .ref (t)), (1, .ref (q)), (2, .null)]) S dJ0_init_db425_8 hl rfl (by decide) rfl (fun ls hl => ?_)
  refine z_aload_n S dJ0_init_db425_9 hl 2 rfl rfl ?_
  refine z_callO S hG hS (x := ⟨"java/lang/AbstractStringBuilder", "length", "()I"⟩) (c_bLn l G q v n cap) (fun _ h => h.elim) ok_J4_length_8abf5 q4_71 q4_70 q4_69 q4_68 q4_74 ⟨by decide, by decide, by decide +kernel⟩ (z_rcv hG hQ zc_J4) q4_67 (⟨hQ, hV, hne⟩) ⟨rfl, rfl, by decide, by decide⟩ ⟨Nat.le_of_ble_eq_true rfl, Nat.le_of_ble_eq_true rfl⟩ rfl (Nat.le_of_ble_eq_true rfl) hl.1 rfl dJ0_init_db425_10 (fun H_2 L_2 hB hz oq hS => ?_)
  have hO := va_at.kept hO (oq _ (va_lt hO) (fun h => h))
  have hQ := va_at.kept hQ (oq _ (va_lt hQ) (fun h => h))
  have hV := zBy.kept hV (fun _ => oq _ (zBy.lt hV) (fun h => h))
  have hT := zTx.kept hT (fun y hx h9 => oq y hx (fun h => h))
  refine z_istore (lv' := [(4, .int (zI ((n : Int)))), (3, .ref (v)), (0, .ref (t)), (1, .ref (q)), (2, .null)]) S dJ0_init_db425_13 hl (by decide) rfl (fun ls hl => ?_)
  refine z_aload_n S dJ0_init_db425_15 hl 3 rfl rfl ?_
  refine z_callQr S hG (c_sLat l G q v n cap) ok_J5_isLatin1_aae02 q3_203 (S.2.2.2.2 _ q3_205) (z_rcv hG hQ zc_J4) q4_75 (⟨⟨hQ, hV, hne⟩, hT⟩) ⟨rfl, rfl, by decide, by decide⟩ ⟨Nat.zero_le _, Nat.zero_le _⟩ rfl (Nat.le_of_ble_eq_true rfl) hl.1 rfl dJ0_init_db425_16 ?_
  refine z_bif_eq S 41 dJ0_init_db425_19 (by decide) (fun qz => ?_) (fun qz => ?_)
  · exact absurd qz (by decide)
  refine z_aload_n S dJ0_init_db425_22 hl 2 rfl rfl ?_
  refine z_iconst S dJ0_init_db425_23 ?_
  refine z_putF S hG hO zc_J0 tyJ0 tyJ0_ok nmJ0 hS (Or.inl rfl) 1 (by decide) q4_144 rfl hnm rfl (tyJ0_ok 1 (by decide)) rfl rfl (Nat.le_of_ble_eq_true rfl) dJ0_init_db425_24 (fun H_3 L_3 hat hz oq hS => ?_)
  have hO := hat
  have hQ := va_at.kept hQ (oq _ (show t ≠ q by omega).symm)
  have hV := zBy.kept hV (fun _ => oq _ (show t ≠ v by omega).symm)
  have hT := zTx.kept hT (fun y hx h9 => oq y (by omega))
  refine z_aload_n S dJ0_init_db425_27 hl 2 rfl rfl ?_
  refine z_aload_n S dJ0_init_db425_28 hl 1 rfl rfl ?_
  refine z_iconst S dJ0_init_db425_29 ?_
  refine z_iload S dJ0_init_db425_30 hl 0 rfl ?_
  refine z_callSM S hG hS (c_sCr l G v cap n H_3.size (by omega)) (fun y z => Or.inr (by have h2 : _ ≤ y := z; omega)) ok_J7_copyOfRange_39247 q4_76 (⟨hV, rfl⟩) ⟨rfl, rfl, by decide, by decide⟩ ⟨Nat.le_of_ble_eq_true rfl, Nat.le_of_ble_eq_true rfl⟩ rfl (Nat.le_of_ble_eq_true rfl) hl.1 rfl dJ0_init_db425_32 (fun H_4 L_4 hB hz oq hS => ?_)
  have hO := va_at.kept hO (oq _ (va_lt hO) (by show ¬ (_ ≤ _); omega))
  have hQ := va_at.kept hQ (oq _ (va_lt hQ) (by show ¬ (_ ≤ _); omega))
  have hV := zBy.kept hV (fun _ => oq _ (zBy.lt hV) (by show ¬ (_ ≤ _); omega))
  have hT := zTx.kept hT (fun y hx h9 => oq y hx (by show ¬ (_ ≤ _); omega))
  refine z_putF S hG hO zc_J0 tyJ0 tyJ0_ok nmJ0 hS (Or.inl rfl) 0 (by decide) q4_143 rfl hnm rfl (tyJ0_ok 0 (by decide)) rfl rfl (Nat.le_of_ble_eq_true rfl) dJ0_init_db425_35 (fun H_5 L_5 hat hz oq hS => ?_)
  have hO := hat
  have hQ := va_at.kept hQ (oq _ (show t ≠ q by omega).symm)
  have hV := zBy.kept hV (fun _ => oq _ (show t ≠ v by omega).symm)
  have hT := zTx.kept hT (fun y hx h9 => oq y (by omega))
  refine z_goto S 97 dJ0_init_db425_38 (by decide) ?_
  exact ret _ _ _ _ _ _ dJ0_init_db425_97 hS (trivial) (Nat.le_of_ble_eq_true rfl) (Nat.le_of_ble_eq_true rfl)
theorem dJ0_init_81219_0 : decode cJ0_init_81219 0 = .ok (.aload_n 0, 1) := by decide +kernel
theorem dJ0_init_81219_1 : decode cJ0_init_81219 1 = .ok (.aload_n 1, 1) := by decide +kernel
theorem dJ0_init_81219_2 : decode cJ0_init_81219 2 = .ok (.aconst_null, 1) := by decide +kernel
theorem dJ0_init_81219_3 : decode cJ0_init_81219 3 = .ok (.invokespecial 489, 3) := by decide +kernel
theorem dJ0_init_81219_6 : decode cJ0_init_81219 6 = .ok (.return_, 1) := by decide +kernel
theorem q4_59 : (Jvm.Cond.instanceMethod ({ cls := "java/lang/String", name := "<init>", desc := "(Ljava/lang/AbstractStringBuilder;Ljava/lang/Void;)V" } : Jvm.MethodName)) ∈ lw_g := zg_of (zin4 (List.mem_of_getElem? (i := 59) rfl)) rfl
theorem q4_58 : (Jvm.Cond.methodLink "java/lang/String" (489 : Nat) ({ cls := "java/lang/String", name := "<init>", desc := "(Ljava/lang/AbstractStringBuilder;Ljava/lang/Void;)V" } : Jvm.MethodName)) ∈ lw_g := zg_of (zin4 (List.mem_of_getElem? (i := 58) rfl)) rfl
theorem q4_57 : (Jvm.Cond.code ({ cls := "java/lang/String", name := "<init>", desc := "(Ljava/lang/StringBuilder;)V" } : Jvm.MethodName) prog_23_method_53_code (2 : Nat) (Option.none : Option Jvm.ClassFile.FieldType)) ∈ lw_g := zg_of (zin4 (List.mem_of_getElem? (i := 57) rfl)) rfl
theorem ok_J0_init_81219 : zOK yJ0_init_81219 cJ0_init_81219 2 ((Option.none : Option Jvm.ClassFile.FieldType)) 1 := ⟨q4_57, q1_27, by decide, by decide, by decide +kernel⟩
set_option maxHeartbeats 4000000 in
set_option maxRecDepth 100000 in
theorem c_sIni1 (l : Launch) (G : zG) (t q v n cap sz : Nat) (ht9 : t ≥ G.2 99) (htq : t ≠ q ∧ t ≠ v) (hn : n ≤ cap ∧ cap ≤ 34) : Met l yJ0_init_81219 (wq yJ0_init_81219 cJ0_init_81219 2 ((Option.none : Option Jvm.ClassFile.FieldType))) (rmM 4 110 1 34) (va_Pc [.ref (t), .ref (q)] (zK G (fun H => va_at G.1 vwCl (t, .inr (0, [.null, .int 0, .int 0, .int 0])) H ∧ hSB G q v n cap H ∧ zTx G H ∧ H.size = sz))) (zM (fun y => y = t ∨ sz ≤ y) none (fun _ => True)) 1 34 (fun y => y = t ∨ sz ≤ y) := by
  refine z_enterMV (by decide +kernel) (Nat.le_of_ble_eq_true rfl) ?_
  intro p env s m below meth cod Q S hnm hG hP hS ret ls hl
  have hl : lv_has ls 2 [(0, .ref (t)), (1, .ref (q))] := hl
  refine z_aload_n S dJ0_init_81219_0 hl 0 rfl rfl ?_
  refine z_aload_n S dJ0_init_81219_1 hl 1 rfl rfl ?_
  refine lv_null S.1 S.2.1 dJ0_init_81219_2 ?_
  refine z_callMI S hG hS (c_sIni2 l G t q v n cap sz ht9 htq hn) (fun _ h => h) ok_J0_init_db425 q4_59 rfl q4_58 (hP) ⟨rfl, rfl, by decide, by decide⟩ ⟨Nat.le_of_ble_eq_true rfl, Nat.le_of_ble_eq_true rfl⟩ rfl (Nat.le_of_ble_eq_true rfl) hl.1 rfl dJ0_init_81219_3 (fun H_1 L_1 hB hz oq hS => ?_)
  exact ret _ _ _ _ _ _ dJ0_init_81219_6 hS (trivial) (Nat.le_of_ble_eq_true rfl) (Nat.le_of_ble_eq_true rfl)
theorem dJ4_toString_0e30d_0 : decode cJ4_toString_0e30d 0 = .ok (.new 18, 3) := by decide +kernel
theorem dJ4_toString_0e30d_3 : decode cJ4_toString_0e30d 3 = .ok (.dup, 1) := by decide +kernel
theorem dJ4_toString_0e30d_4 : decode cJ4_toString_0e30d 4 = .ok (.aload_n 0, 1) := by decide +kernel
theorem dJ4_toString_0e30d_5 : decode cJ4_toString_0e30d 5 = .ok (.invokespecial 137, 3) := by decide +kernel
theorem dJ4_toString_0e30d_8 : decode cJ4_toString_0e30d 8 = .ok (.areturn, 1) := by decide +kernel
theorem q4_53 : (Jvm.Cond.classLink "java/lang/StringBuilder" (18 : Nat) "java/lang/String") ∈ lw_g := zg_of (zin4 (List.mem_of_getElem? (i := 53) rfl)) rfl
theorem q4_54 : (Jvm.Cond.instantiable "java/lang/String" (4 : Nat)) ∈ lw_g := zg_of (zin4 (List.mem_of_getElem? (i := 54) rfl)) rfl
theorem q4_56 : (Jvm.Cond.instanceMethod ({ cls := "java/lang/String", name := "<init>", desc := "(Ljava/lang/StringBuilder;)V" } : Jvm.MethodName)) ∈ lw_g := zg_of (zin4 (List.mem_of_getElem? (i := 56) rfl)) rfl
theorem q4_55 : (Jvm.Cond.methodLink "java/lang/StringBuilder" (137 : Nat) ({ cls := "java/lang/String", name := "<init>", desc := "(Ljava/lang/StringBuilder;)V" } : Jvm.MethodName)) ∈ lw_g := zg_of (zin4 (List.mem_of_getElem? (i := 55) rfl)) rfl
theorem q4_52 : (Jvm.Cond.code ({ cls := "java/lang/StringBuilder", name := "toString", desc := "()Ljava/lang/String;" } : Jvm.MethodName) prog_24_method_42_code (1 : Nat) (Option.some (Jvm.ClassFile.FieldType.object "java/lang/String"))) ∈ lw_g := zg_of (zin4 (List.mem_of_getElem? (i := 52) rfl)) rfl
theorem q4_50 : (Jvm.Cond.instanceMethod ({ cls := "java/lang/StringBuilder", name := "toString", desc := "()Ljava/lang/String;" } : Jvm.MethodName)) ∈ lw_g := zg_of (zin4 (List.mem_of_getElem? (i := 50) rfl)) rfl
theorem q4_51 : (Jvm.Cond.selects "java/lang/StringBuilder" ({ cls := "java/lang/StringBuilder", name := "toString", desc := "()Ljava/lang/String;" } : Jvm.MethodName) ({ cls := "java/lang/StringBuilder", name := "toString", desc := "()Ljava/lang/String;" } : Jvm.MethodName)) ∈ lw_g := zg_of (zin4 (List.mem_of_getElem? (i := 51) rfl)) rfl
theorem ok_J4_toString_0e30d : zOV yJ4_toString_0e30d cJ4_toString_0e30d 1 ((Option.some (Jvm.ClassFile.FieldType.object "java/lang/String"))) 0 := ⟨⟨q4_52, q1_26, by decide, by decide, by decide +kernel⟩, q4_50, q4_51⟩
set_option maxHeartbeats 4000000 in
set_option maxRecDepth 100000 in
theorem c_bTs (l : Launch) (G : zG) (q sz n sz2 : Nat) (h99 : sz ≥ G.2 99) : Met l yJ4_toString_0e30d (wq yJ4_toString_0e30d cJ4_toString_0e30d 1 ((Option.some (Jvm.ClassFile.FieldType.object "java/lang/String")))) (rmM 5 131 2 38) (va_Pc [.ref (q)] (zK G (fun H => hSX G q sz n n H ∧ zTx G H ∧ H.size = sz2))) (zM (fun y => sz ≤ y) (some (.ref (sz2))) (fun _ => True)) 2 38 (fun y => sz ≤ y) := by
  refine z_enterMA (by decide +kernel) (Nat.le_of_ble_eq_true rfl) ?_
  intro p env s m below meth cod Q S hG hP hS ret ls hl
  have hl : lv_has ls 1 [(0, .ref (q))] := hl
  obtain ⟨⟨v, cap, ⟨hQ, hV, hne⟩, hq, hv, hc, hnn⟩, hT, hz0⟩ := hP
  have hqs := va_lt hQ
  have hvs := hV.lt
  refine z_newc S hG zc_J0 tyJ0 tyJ0_ok q4_53 q4_54 q1_27 hS (fs := [.null, .int 0, .int 0, .int 0]) (fun j hj => by rcases (show j = 0 ∨ j = 1 ∨ j = 2 ∨ j = 3 by omega) with rfl | rfl | rfl | rfl <;> rfl) ⟨Nat.le_of_ble_eq_true rfl, Nat.le_of_ble_eq_true rfl⟩ dJ4_toString_0e30d_0 (fun n1 H_1 hq_n1 hat hz oq hS => ?_)
  have lt_hQ_n1 : n1 > q := by rw [hq_n1]; exact va_lt hQ
  have hQ := va_at.kept hQ (oq _ (va_lt hQ))
  have lt_hV_n1 : n1 > v := by rw [hq_n1]; exact zBy.lt hV
  have hV := zBy.kept hV (fun _ => oq _ (zBy.lt hV))
  have hT := zTx.kept hT (fun y hx _ => oq y hx)
  have h_n1 := hat
  refine z_dup S dJ4_toString_0e30d_3 rfl ?_
  refine z_aload_n S dJ4_toString_0e30d_4 hl 0 rfl rfl ?_
  refine z_callMI S hG hS (c_sIni1 l G n1 q v n cap H_1.size (by omega) (by omega) (by omega)) (fun y z => by have z2 : y = n1 ∨ _ ≤ y := z; show sz ≤ y; omega) ok_J0_init_81219 q4_56 rfl q4_55 (⟨h_n1, ⟨hQ, hV, hne⟩, hT, rfl⟩) ⟨rfl, rfl, by decide, by decide⟩ ⟨Nat.le_of_ble_eq_true rfl, Nat.le_of_ble_eq_true rfl⟩ rfl (Nat.le_of_ble_eq_true rfl) hl.1 rfl dJ4_toString_0e30d_5 (fun H_2 L_2 hB hz oq hS => ?_)
  have e1 : n1 = sz2 := by omega
  subst e1
  exact ret _ _ _ _ _ _ dJ4_toString_0e30d_8 hS (trivial) (Nat.le_of_ble_eq_true rfl) (Nat.le_of_ble_eq_true rfl)
