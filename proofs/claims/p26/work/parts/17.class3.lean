theorem dX2_dot_0 : decode cX2_dot 0 = .ok (.iload_n 1, 1) := by decide +kernel
theorem dX2_dot_1 : decode cX2_dot 1 = .ok (.iload_n 2, 1) := by decide +kernel
theorem dX2_dot_2 : decode cX2_dot 2 = .ok (.invokestatic 66, 3) := by decide +kernel
theorem dX2_dot_5 : decode cX2_dot 5 = .ok (.ifCond .ne 13, 3) := by decide +kernel
theorem dX2_dot_8 : decode cX2_dot 8 = .ok (.new 43, 3) := by decide +kernel
theorem dX2_dot_11 : decode cX2_dot 11 = .ok (.dup, 1) := by decide +kernel
theorem dX2_dot_12 : decode cX2_dot 12 = .ok (.ldc 70, 2) := by decide +kernel
theorem dX2_dot_14 : decode cX2_dot 14 = .ok (.invokespecial 47, 3) := by decide +kernel
theorem dX2_dot_17 : decode cX2_dot 17 = .ok (.athrow, 1) := by decide +kernel
theorem dX2_dot_18 : decode cX2_dot 18 = .ok (.iload_n 3, 1) := by decide +kernel
theorem dX2_dot_19 : decode cX2_dot 19 = .ok (.iconst 4, 1) := by decide +kernel
theorem dX2_dot_20 : decode cX2_dot 20 = .ok (.invokestatic 156, 3) := by decide +kernel
theorem dX2_dot_23 : decode cX2_dot 23 = .ok (.ifCond .ne 13, 3) := by decide +kernel
theorem dX2_dot_26 : decode cX2_dot 26 = .ok (.new 53, 3) := by decide +kernel
theorem dX2_dot_29 : decode cX2_dot 29 = .ok (.dup, 1) := by decide +kernel
theorem dX2_dot_30 : decode cX2_dot 30 = .ok (.ldc 159, 2) := by decide +kernel
theorem dX2_dot_32 : decode cX2_dot 32 = .ok (.invokespecial 57, 3) := by decide +kernel
theorem dX2_dot_35 : decode cX2_dot 35 = .ok (.athrow, 1) := by decide +kernel
theorem dX2_dot_36 : decode cX2_dot 36 = .ok (.aload_n 0, 1) := by decide +kernel
theorem dX2_dot_37 : decode cX2_dot 37 = .ok (.iload_n 1, 1) := by decide +kernel
theorem dX2_dot_38 : decode cX2_dot 38 = .ok (.bipush 8, 2) := by decide +kernel
theorem dX2_dot_40 : decode cX2_dot 40 = .ok (.imul, 1) := by decide +kernel
theorem dX2_dot_41 : decode cX2_dot 41 = .ok (.iload_n 2, 1) := by decide +kernel
theorem dX2_dot_42 : decode cX2_dot 42 = .ok (.iadd, 1) := by decide +kernel
theorem dX2_dot_43 : decode cX2_dot 43 = .ok (.iload_n 3, 1) := by decide +kernel
theorem dX2_dot_44 : decode cX2_dot 44 = .ok (.invokevirtual 161, 3) := by decide +kernel
theorem dX2_dot_47 : decode cX2_dot 47 = .ok (.ireturn, 1) := by decide +kernel
theorem q2_193 : (Jvm.Cond.methodLink "Cyclepaint" (66 : Nat) ({ cls := "Cyclepaint", name := "isDot", desc := "(II)Z" } : Jvm.MethodName)) ∈ lw_g := zg_of (zin2 (List.mem_of_getElem? (i := 193) rfl)) rfl
theorem q3_96 : (Jvm.Cond.methodLink "Cyclepaint" (156 : Nat) ({ cls := "Cyclepaint", name := "isFact", desc := "(II)Z" } : Jvm.MethodName)) ∈ lw_g := zg_of (zin3 (List.mem_of_getElem? (i := 96) rfl)) rfl
theorem q3_95 : (Jvm.Cond.code ({ cls := "Cyclepaint", name := "dot", desc := "(III)I" } : Jvm.MethodName) prog_1_method_13_code (4 : Nat) (Option.some Jvm.ClassFile.FieldType.int)) ∈ lw_g := zg_of (zin3 (List.mem_of_getElem? (i := 95) rfl)) rfl
theorem q3_93 : (Jvm.Cond.instanceMethod ({ cls := "Cyclepaint", name := "dot", desc := "(III)I" } : Jvm.MethodName)) ∈ lw_g := zg_of (zin3 (List.mem_of_getElem? (i := 93) rfl)) rfl
theorem q3_94 : (Jvm.Cond.selects "Cyclepaint" ({ cls := "Cyclepaint", name := "dot", desc := "(III)I" } : Jvm.MethodName) ({ cls := "Cyclepaint", name := "dot", desc := "(III)I" } : Jvm.MethodName)) ∈ lw_g := zg_of (zin3 (List.mem_of_getElem? (i := 94) rfl)) rfl
theorem ok_X2_dot : zOV yX2_dot cX2_dot 4 ((Option.some Jvm.ClassFile.FieldType.int)) 3 := ⟨⟨q3_95, q1_1, by decide, by decide, by decide +kernel⟩, q3_93, q3_94⟩
set_option maxHeartbeats 4000000 in
set_option maxRecDepth 100000 in
theorem c_X2_dot (l : Launch) (G : zG) (σ : St) (a : Nat → Nat) (v i x : Int) (hv : 0 ≤ v ∧ v ≤ 3) (hi : 0 ≤ i ∧ i ≤ 7) (hx : 0 ≤ x ∧ x ≤ 3) : Met l yX2_dot (wq yX2_dot cX2_dot 4 ((Option.some Jvm.ClassFile.FieldType.int))) (rmR 4 95) (va_Pc [.ref (a 0), .int (zI (v)), .int (zI (i)), .int (zI (x))] (zK G (hCyc G σ a))) (zQ (some (.int ((dF σ (v * 8 + i) x))))) 0 0 zF := by
  refine z_enterI (by decide +kernel) (Nat.le_of_ble_eq_true rfl) ?_
  intro p env s m below meth cod Q S hG hP ret ls hl
  have hl : lv_has ls 4 [(0, .ref (a 0)), (1, .int (zI (v))), (2, .int (zI (i))), (3, .int (zI (x)))] := hl
  have hC := hP.2.2.2.2.2
  have hT := hC.1
  have hdt := hC.2.1
  have hlm := hC.2.2.1
  have hkn := hC.2.2.2.1
  have hD := hC.2.2.2.2.1
  have hB := hC.2.2.2.2.2
  refine z_iload_n S dX2_dot_0 hl 1 rfl rfl ?_
  refine z_iload_n S dX2_dot_1 hl 2 rfl rfl ?_
  refine z_callSs S hG (c_X2_isDot l G (v) (i) (by omega)) ok_X2_isDot q2_193 (trivial) ⟨rfl, rfl, by decide, by decide⟩ ⟨Nat.zero_le _, Nat.zero_le _⟩ rfl (Nat.le_of_ble_eq_true rfl) hl.1 rfl dX2_dot_2 ?_
  refine z_bif_ne S 18 dX2_dot_5 (by decide) (fun q => ?_) (fun q => ?_)
  rotate_left
  · exact absurd q (by rw [(show (decide (0 ≤ v) && decide (v < 4) && (decide (0 ≤ i) && decide (i < 8))) = true from by simp; omega)]; decide)
  refine z_iload_n S dX2_dot_18 hl 3 rfl rfl ?_
  refine z_iconst S dX2_dot_19 ?_
  refine z_callSs S hG (c_X2_isFact l G (x) (4) (by omega)) ok_X2_isFact q3_96 (trivial) ⟨rfl, rfl, by decide, by decide⟩ ⟨Nat.zero_le _, Nat.zero_le _⟩ rfl (Nat.le_of_ble_eq_true rfl) hl.1 rfl dX2_dot_20 ?_
  refine z_bif_ne S 36 dX2_dot_23 (by decide) (fun q => ?_) (fun q => ?_)
  rotate_left
  · exact absurd q (by rw [(show (decide (0 ≤ x) && decide (x < 4)) = true from by simp; omega)]; decide)
  refine z_aload_n S dX2_dot_36 hl 0 rfl rfl ?_
  refine z_iload_n S dX2_dot_37 hl 1 rfl rfl ?_
  refine z_bipush S dX2_dot_38 rfl ?_
  refine z_imul S dX2_dot_40 ?_
  refine z_iload_n S dX2_dot_41 hl 2 rfl rfl ?_
  refine z_iadd S dX2_dot_42 ?_
  refine z_iload_n S dX2_dot_43 hl 3 rfl rfl ?_
  refine z_callVs S hG (c_X2_dotFact l G σ a (v * 8 + i) x (by omega) (by omega)) ok_X2_dotFact hP.1 zc_X2 rfl q2_46 (hP) ⟨rfl, rfl, by decide, by decide⟩ ⟨Nat.zero_le _, Nat.zero_le _⟩ rfl (Nat.le_of_ble_eq_true rfl) hl.1 rfl dX2_dot_44 ?_
  exact ret _ _ _ dX2_dot_47 (rfl)
theorem dX2_ofEntry_0 : decode cX2_ofEntry 0 = .ok (.iload_n 1, 1) := by decide +kernel
theorem dX2_ofEntry_1 : decode cX2_ofEntry 1 = .ok (.invokestatic 39, 3) := by decide +kernel
theorem dX2_ofEntry_4 : decode cX2_ofEntry 4 = .ok (.ifCond .ne 13, 3) := by decide +kernel
theorem dX2_ofEntry_7 : decode cX2_ofEntry 7 = .ok (.new 43, 3) := by decide +kernel
theorem dX2_ofEntry_10 : decode cX2_ofEntry 10 = .ok (.dup, 1) := by decide +kernel
theorem dX2_ofEntry_11 : decode cX2_ofEntry 11 = .ok (.ldc 45, 2) := by decide +kernel
theorem dX2_ofEntry_13 : decode cX2_ofEntry 13 = .ok (.invokespecial 47, 3) := by decide +kernel
theorem dX2_ofEntry_16 : decode cX2_ofEntry 16 = .ok (.athrow, 1) := by decide +kernel
theorem dX2_ofEntry_17 : decode cX2_ofEntry 17 = .ok (.iload_n 2, 1) := by decide +kernel
theorem dX2_ofEntry_18 : decode cX2_ofEntry 18 = .ok (.bipush 6, 2) := by decide +kernel
theorem dX2_ofEntry_20 : decode cX2_ofEntry 20 = .ok (.invokestatic 156, 3) := by decide +kernel
theorem dX2_ofEntry_23 : decode cX2_ofEntry 23 = .ok (.ifCond .ne 13, 3) := by decide +kernel
theorem dX2_ofEntry_26 : decode cX2_ofEntry 26 = .ok (.new 53, 3) := by decide +kernel
theorem dX2_ofEntry_29 : decode cX2_ofEntry 29 = .ok (.dup, 1) := by decide +kernel
theorem dX2_ofEntry_30 : decode cX2_ofEntry 30 = .ok (.ldc 164, 2) := by decide +kernel
theorem dX2_ofEntry_32 : decode cX2_ofEntry 32 = .ok (.invokespecial 57, 3) := by decide +kernel
theorem dX2_ofEntry_35 : decode cX2_ofEntry 35 = .ok (.athrow, 1) := by decide +kernel
theorem dX2_ofEntry_36 : decode cX2_ofEntry 36 = .ok (.aload_n 0, 1) := by decide +kernel
theorem dX2_ofEntry_37 : decode cX2_ofEntry 37 = .ok (.iload_n 1, 1) := by decide +kernel
theorem dX2_ofEntry_38 : decode cX2_ofEntry 38 = .ok (.iload_n 2, 1) := by decide +kernel
theorem dX2_ofEntry_39 : decode cX2_ofEntry 39 = .ok (.invokevirtual 166, 3) := by decide +kernel
theorem dX2_ofEntry_42 : decode cX2_ofEntry 42 = .ok (.ireturn, 1) := by decide +kernel
theorem q3_106 : (Jvm.Cond.code ({ cls := "Cyclepaint", name := "ofEntry", desc := "(II)I" } : Jvm.MethodName) prog_1_method_14_code (3 : Nat) (Option.some Jvm.ClassFile.FieldType.int)) ∈ lw_g := zg_of (zin3 (List.mem_of_getElem? (i := 106) rfl)) rfl
theorem q3_104 : (Jvm.Cond.instanceMethod ({ cls := "Cyclepaint", name := "ofEntry", desc := "(II)I" } : Jvm.MethodName)) ∈ lw_g := zg_of (zin3 (List.mem_of_getElem? (i := 104) rfl)) rfl
theorem q3_105 : (Jvm.Cond.selects "Cyclepaint" ({ cls := "Cyclepaint", name := "ofEntry", desc := "(II)I" } : Jvm.MethodName) ({ cls := "Cyclepaint", name := "ofEntry", desc := "(II)I" } : Jvm.MethodName)) ∈ lw_g := zg_of (zin3 (List.mem_of_getElem? (i := 105) rfl)) rfl
theorem ok_X2_ofEntry : zOV yX2_ofEntry cX2_ofEntry 3 ((Option.some Jvm.ClassFile.FieldType.int)) 2 := ⟨⟨q3_106, q1_1, by decide, by decide, by decide +kernel⟩, q3_104, q3_105⟩
set_option maxHeartbeats 4000000 in
set_option maxRecDepth 100000 in
theorem c_X2_ofEntry (l : Launch) (G : zG) (σ : St) (a : Nat → Nat) (e x : Int) (he : 0 ≤ e ∧ e ≤ 15) (hx : 0 ≤ x ∧ x ≤ 5) : Met l yX2_ofEntry (wq yX2_ofEntry cX2_ofEntry 3 ((Option.some Jvm.ClassFile.FieldType.int))) (rmR 5 115) (va_Pc [.ref (a 0), .int (zI (e)), .int (zI (x))] (zK G (hCyc G σ a))) (zQ (some (.int ((eF σ e x))))) 0 0 zF := by
  refine z_enterI (by decide +kernel) (Nat.le_of_ble_eq_true rfl) ?_
  intro p env s m below meth cod Q S hG hP ret ls hl
  have hl : lv_has ls 3 [(0, .ref (a 0)), (1, .int (zI (e))), (2, .int (zI (x)))] := hl
  have hC := hP.2.2.2.2.2
  have hT := hC.1
  have hdt := hC.2.1
  have hlm := hC.2.2.1
  have hkn := hC.2.2.2.1
  have hD := hC.2.2.2.2.1
  have hB := hC.2.2.2.2.2
  refine z_iload_n S dX2_ofEntry_0 hl 1 rfl rfl ?_
  refine z_callSs S hG (c_X2_isEntry l G (e) (by omega)) ok_X2_isEntry q1_137 (trivial) ⟨rfl, rfl, by decide, by decide⟩ ⟨Nat.zero_le _, Nat.zero_le _⟩ rfl (Nat.le_of_ble_eq_true rfl) hl.1 rfl dX2_ofEntry_1 ?_
  refine z_bif_ne S 17 dX2_ofEntry_4 (by decide) (fun q => ?_) (fun q => ?_)
  rotate_left
  · exact absurd q (by rw [(show (decide (0 ≤ e) && decide (e < 16)) = true from by simp; omega)]; decide)
  refine z_iload_n S dX2_ofEntry_17 hl 2 rfl rfl ?_
  refine z_bipush S dX2_ofEntry_18 rfl ?_
  refine z_callSs S hG (c_X2_isFact l G (x) (6) (by omega)) ok_X2_isFact q3_96 (trivial) ⟨rfl, rfl, by decide, by decide⟩ ⟨Nat.zero_le _, Nat.zero_le _⟩ rfl (Nat.le_of_ble_eq_true rfl) hl.1 rfl dX2_ofEntry_20 ?_
  refine z_bif_ne S 36 dX2_ofEntry_23 (by decide) (fun q => ?_) (fun q => ?_)
  rotate_left
  · exact absurd q (by rw [(show (decide (0 ≤ x) && decide (x < 6)) = true from by simp; omega)]; decide)
  refine z_aload_n S dX2_ofEntry_36 hl 0 rfl rfl ?_
  refine z_iload_n S dX2_ofEntry_37 hl 1 rfl rfl ?_
  refine z_iload_n S dX2_ofEntry_38 hl 2 rfl rfl ?_
  refine z_callVs S hG (c_X2_entryFact l G σ a e x (by omega) (by omega)) ok_X2_entryFact hP.1 zc_X2 rfl q2_24 (hP) ⟨rfl, rfl, by decide, by decide⟩ ⟨Nat.zero_le _, Nat.zero_le _⟩ rfl (Nat.le_of_ble_eq_true rfl) hl.1 rfl dX2_ofEntry_39 ?_
  exact ret _ _ _ dX2_ofEntry_42 (rfl)
theorem dX2_picture_0 : decode cX2_picture 0 = .ok (.iload_n 1, 1) := by decide +kernel
theorem dX2_picture_1 : decode cX2_picture 1 = .ok (.bipush 12, 2) := by decide +kernel
theorem dX2_picture_3 : decode cX2_picture 3 = .ok (.invokestatic 156, 3) := by decide +kernel
theorem dX2_picture_6 : decode cX2_picture 6 = .ok (.ifCond .ne 13, 3) := by decide +kernel
theorem dX2_picture_9 : decode cX2_picture 9 = .ok (.new 53, 3) := by decide +kernel
theorem dX2_picture_12 : decode cX2_picture 12 = .ok (.dup, 1) := by decide +kernel
theorem dX2_picture_13 : decode cX2_picture 13 = .ok (.ldc 172, 2) := by decide +kernel
theorem dX2_picture_15 : decode cX2_picture 15 = .ok (.invokespecial 57, 3) := by decide +kernel
theorem dX2_picture_18 : decode cX2_picture 18 = .ok (.athrow, 1) := by decide +kernel
theorem dX2_picture_19 : decode cX2_picture 19 = .ok (.aload_n 0, 1) := by decide +kernel
theorem dX2_picture_20 : decode cX2_picture 20 = .ok (.iload_n 1, 1) := by decide +kernel
theorem dX2_picture_21 : decode cX2_picture 21 = .ok (.invokevirtual 174, 3) := by decide +kernel
theorem dX2_picture_24 : decode cX2_picture 24 = .ok (.ireturn, 1) := by decide +kernel
theorem q3_121 : (Jvm.Cond.code ({ cls := "Cyclepaint", name := "picture", desc := "(I)I" } : Jvm.MethodName) prog_1_method_16_code (2 : Nat) (Option.some Jvm.ClassFile.FieldType.int)) ∈ lw_g := zg_of (zin3 (List.mem_of_getElem? (i := 121) rfl)) rfl
theorem q3_119 : (Jvm.Cond.instanceMethod ({ cls := "Cyclepaint", name := "picture", desc := "(I)I" } : Jvm.MethodName)) ∈ lw_g := zg_of (zin3 (List.mem_of_getElem? (i := 119) rfl)) rfl
theorem q3_120 : (Jvm.Cond.selects "Cyclepaint" ({ cls := "Cyclepaint", name := "picture", desc := "(I)I" } : Jvm.MethodName) ({ cls := "Cyclepaint", name := "picture", desc := "(I)I" } : Jvm.MethodName)) ∈ lw_g := zg_of (zin3 (List.mem_of_getElem? (i := 120) rfl)) rfl
theorem ok_X2_picture : zOV yX2_picture cX2_picture 2 ((Option.some Jvm.ClassFile.FieldType.int)) 1 := ⟨⟨q3_121, q1_1, by decide, by decide, by decide +kernel⟩, q3_119, q3_120⟩
set_option maxHeartbeats 4000000 in
set_option maxRecDepth 100000 in
theorem c_X2_picture (l : Launch) (G : zG) (σ : St) (a : Nat → Nat) (x : Int) (hx : 0 ≤ x ∧ x ≤ 11) : Met l yX2_picture (wq yX2_picture cX2_picture 2 ((Option.some Jvm.ClassFile.FieldType.int))) (rmR 6 136) (va_Pc [.ref (a 0), .int (zI (x))] (zK G (hCyc G σ a))) (zQ (some (.int ((pF σ x))))) 0 0 zF := by
  refine z_enterI (by decide +kernel) (Nat.le_of_ble_eq_true rfl) ?_
  intro p env s m below meth cod Q S hG hP ret ls hl
  have hl : lv_has ls 2 [(0, .ref (a 0)), (1, .int (zI (x)))] := hl
  have hC := hP.2.2.2.2.2
  have hT := hC.1
  have hdt := hC.2.1
  have hlm := hC.2.2.1
  have hkn := hC.2.2.2.1
  have hD := hC.2.2.2.2.1
  have hB := hC.2.2.2.2.2
  refine z_iload_n S dX2_picture_0 hl 1 rfl rfl ?_
  refine z_bipush S dX2_picture_1 rfl ?_
  refine z_callSs S hG (c_X2_isFact l G (x) (12) (by omega)) ok_X2_isFact q3_96 (trivial) ⟨rfl, rfl, by decide, by decide⟩ ⟨Nat.zero_le _, Nat.zero_le _⟩ rfl (Nat.le_of_ble_eq_true rfl) hl.1 rfl dX2_picture_3 ?_
  refine z_bif_ne S 19 dX2_picture_6 (by decide) (fun q => ?_) (fun q => ?_)
  rotate_left
  · exact absurd q (by rw [(show (decide (0 ≤ x) && decide (x < 12)) = true from by simp; omega)]; decide)
  refine z_aload_n S dX2_picture_19 hl 0 rfl rfl ?_
  refine z_iload_n S dX2_picture_20 hl 1 rfl rfl ?_
  refine z_callVs S hG (c_X2_pictureFact l G σ a x (by omega)) ok_X2_pictureFact hP.1 zc_X2 rfl q1_219 (hP) ⟨rfl, rfl, by decide, by decide⟩ ⟨Nat.zero_le _, Nat.zero_le _⟩ rfl (Nat.le_of_ble_eq_true rfl) hl.1 rfl dX2_picture_21 ?_
  exact ret _ _ _ dX2_picture_24 (rfl)
theorem dX2_at_0 : decode cX2_at 0 = .ok (.iload_n 1, 1) := by decide +kernel
theorem dX2_at_1 : decode cX2_at 1 = .ok (.invokestatic 39, 3) := by decide +kernel
theorem dX2_at_4 : decode cX2_at 4 = .ok (.ifCond .ne 13, 3) := by decide +kernel
theorem dX2_at_7 : decode cX2_at 7 = .ok (.new 43, 3) := by decide +kernel
theorem dX2_at_10 : decode cX2_at 10 = .ok (.dup, 1) := by decide +kernel
theorem dX2_at_11 : decode cX2_at 11 = .ok (.ldc 45, 2) := by decide +kernel
theorem dX2_at_13 : decode cX2_at 13 = .ok (.invokespecial 47, 3) := by decide +kernel
theorem dX2_at_16 : decode cX2_at 16 = .ok (.athrow, 1) := by decide +kernel
theorem dX2_at_17 : decode cX2_at 17 = .ok (.iload_n 2, 1) := by decide +kernel
theorem dX2_at_18 : decode cX2_at 18 = .ok (.invokestatic 139, 3) := by decide +kernel
theorem dX2_at_21 : decode cX2_at 21 = .ok (.ifCond .ne 13, 3) := by decide +kernel
theorem dX2_at_24 : decode cX2_at 24 = .ok (.new 53, 3) := by decide +kernel
theorem dX2_at_27 : decode cX2_at 27 = .ok (.dup, 1) := by decide +kernel
theorem dX2_at_28 : decode cX2_at 28 = .ok (.ldc 142, 2) := by decide +kernel
theorem dX2_at_30 : decode cX2_at 30 = .ok (.invokespecial 57, 3) := by decide +kernel
theorem dX2_at_33 : decode cX2_at 33 = .ok (.athrow, 1) := by decide +kernel
theorem dX2_at_34 : decode cX2_at 34 = .ok (.aload_n 0, 1) := by decide +kernel
theorem dX2_at_35 : decode cX2_at 35 = .ok (.getfield 12, 3) := by decide +kernel
theorem dX2_at_38 : decode cX2_at 38 = .ok (.iload_n 1, 1) := by decide +kernel
theorem dX2_at_39 : decode cX2_at 39 = .ok (.iload_n 2, 1) := by decide +kernel
theorem dX2_at_40 : decode cX2_at 40 = .ok (.invokevirtual 146, 3) := by decide +kernel
theorem dX2_at_43 : decode cX2_at 43 = .ok (.ireturn, 1) := by decide +kernel
theorem q3_69 : (Jvm.Cond.methodLink "Cyclepaint" (139 : Nat) ({ cls := "Cyclepaint", name := "isTick", desc := "(I)Z" } : Jvm.MethodName)) ∈ lw_g := zg_of (zin3 (List.mem_of_getElem? (i := 69) rfl)) rfl
theorem q4_160 : (Jvm.Cond.code ({ cls := "Cyclepaint", name := "at", desc := "(II)I" } : Jvm.MethodName) prog_1_method_20_code (3 : Nat) (Option.some Jvm.ClassFile.FieldType.int)) ∈ lw_g := zg_of (zin4 (List.mem_of_getElem? (i := 160) rfl)) rfl
theorem q4_158 : (Jvm.Cond.instanceMethod ({ cls := "Cyclepaint", name := "at", desc := "(II)I" } : Jvm.MethodName)) ∈ lw_g := zg_of (zin4 (List.mem_of_getElem? (i := 158) rfl)) rfl
theorem q4_159 : (Jvm.Cond.selects "Cyclepaint" ({ cls := "Cyclepaint", name := "at", desc := "(II)I" } : Jvm.MethodName) ({ cls := "Cyclepaint", name := "at", desc := "(II)I" } : Jvm.MethodName)) ∈ lw_g := zg_of (zin4 (List.mem_of_getElem? (i := 159) rfl)) rfl
theorem ok_X2_at : zOV yX2_at cX2_at 3 ((Option.some Jvm.ClassFile.FieldType.int)) 2 := ⟨⟨q4_160, q1_1, by decide, by decide, by decide +kernel⟩, q4_158, q4_159⟩
set_option maxHeartbeats 4000000 in
set_option maxRecDepth 100000 in
theorem c_X2_at (l : Launch) (G : zG) (σ : St) (a : Nat → Nat) (e x : Int) (he : 0 ≤ e ∧ e ≤ 15) (hx : 0 ≤ x ∧ x ≤ 99999) : Met l yX2_at (wq yX2_at cX2_at 3 ((Option.some Jvm.ClassFile.FieldType.int))) (rmR 2 46) (va_Pc [.ref (a 0), .int (zI (e)), .int (zI (x))] (zK G (hCyc G σ a))) (zQ (some (.int ((shw σ e x))))) 0 0 zF := by
  refine z_enterI (by decide +kernel) (Nat.le_of_ble_eq_true rfl) ?_
  intro p env s m below meth cod Q S hG hP ret ls hl
  have hl : lv_has ls 3 [(0, .ref (a 0)), (1, .int (zI (e))), (2, .int (zI (x)))] := hl
  have hC := hP.2.2.2.2.2
  have hT := hC.1
  have hdt := hC.2.1
  have hlm := hC.2.2.1
  have hkn := hC.2.2.2.1
  have hD := hC.2.2.2.2.1
  have hB := hC.2.2.2.2.2
  refine z_iload_n S dX2_at_0 hl 1 rfl rfl ?_
  refine z_callSs S hG (c_X2_isEntry l G (e) (by omega)) ok_X2_isEntry q1_137 (trivial) ⟨rfl, rfl, by decide, by decide⟩ ⟨Nat.zero_le _, Nat.zero_le _⟩ rfl (Nat.le_of_ble_eq_true rfl) hl.1 rfl dX2_at_1 ?_
  refine z_bif_ne S 17 dX2_at_4 (by decide) (fun q => ?_) (fun q => ?_)
  rotate_left
  · exact absurd q (by rw [(show (decide (0 ≤ e) && decide (e < 16)) = true from by simp; omega)]; decide)
  refine z_iload_n S dX2_at_17 hl 2 rfl rfl ?_
  refine z_callSs S hG (c_X2_isTick l G (x) (by omega)) ok_X2_isTick q3_69 (trivial) ⟨rfl, rfl, by decide, by decide⟩ ⟨Nat.zero_le _, Nat.zero_le _⟩ rfl (Nat.le_of_ble_eq_true rfl) hl.1 rfl dX2_at_18 ?_
  refine z_bif_ne S 34 dX2_at_21 (by decide) (fun q => ?_) (fun q => ?_)
  rotate_left
  · exact absurd q (by rw [(show (decide (0 ≤ x) && decide (x ≤ 99999)) = true from by simp; omega)]; decide)
  refine z_aload_n S dX2_at_34 hl 0 rfl rfl ?_
  refine z_get S hG hP.1 zc_X2 0 (by decide) q1_60 rfl rfl dX2_at_35 ?_
  refine z_iload_n S dX2_at_38 hl 1 rfl rfl ?_
  refine z_iload_n S dX2_at_39 hl 2 rfl rfl ?_
  refine z_callVs S hG (c_X0_shows l G σ a (e) (x) (by omega) (by omega)) ok_X0_shows hP.2.2.2.2.1.1 zc_X0 rfl q1_166 (hP.2.2.2.2.1) ⟨rfl, rfl, by decide, by decide⟩ ⟨Nat.zero_le _, Nat.zero_le _⟩ rfl (Nat.le_of_ble_eq_true rfl) hl.1 rfl dX2_at_40 ?_
  exact ret _ _ _ dX2_at_43 (rfl)
theorem dX2_find_0 : decode cX2_find 0 = .ok (.iload_n 1, 1) := by decide +kernel
theorem dX2_find_1 : decode cX2_find 1 = .ok (.invokestatic 39, 3) := by decide +kernel
theorem dX2_find_4 : decode cX2_find 4 = .ok (.ifCond .ne 13, 3) := by decide +kernel
theorem dX2_find_7 : decode cX2_find 7 = .ok (.new 43, 3) := by decide +kernel
theorem dX2_find_10 : decode cX2_find 10 = .ok (.dup, 1) := by decide +kernel
theorem dX2_find_11 : decode cX2_find 11 = .ok (.ldc 45, 2) := by decide +kernel
theorem dX2_find_13 : decode cX2_find 13 = .ok (.invokespecial 47, 3) := by decide +kernel
theorem dX2_find_16 : decode cX2_find 16 = .ok (.athrow, 1) := by decide +kernel
theorem dX2_find_17 : decode cX2_find 17 = .ok (.iload_n 2, 1) := by decide +kernel
theorem dX2_find_18 : decode cX2_find 18 = .ok (.invokestatic 50, 3) := by decide +kernel
theorem dX2_find_21 : decode cX2_find 21 = .ok (.ifCond .eq 10, 3) := by decide +kernel
theorem dX2_find_24 : decode cX2_find 24 = .ok (.iload_n 3, 1) := by decide +kernel
theorem dX2_find_25 : decode cX2_find 25 = .ok (.invokestatic 139, 3) := by decide +kernel
theorem dX2_find_28 : decode cX2_find 28 = .ok (.ifCond .ne 13, 3) := by decide +kernel
theorem dX2_find_31 : decode cX2_find 31 = .ok (.new 53, 3) := by decide +kernel
theorem dX2_find_34 : decode cX2_find 34 = .ok (.dup, 1) := by decide +kernel
theorem dX2_find_35 : decode cX2_find 35 = .ok (.ldc 204, 2) := by decide +kernel
theorem dX2_find_37 : decode cX2_find 37 = .ok (.invokespecial 57, 3) := by decide +kernel
theorem dX2_find_40 : decode cX2_find 40 = .ok (.athrow, 1) := by decide +kernel
theorem dX2_find_41 : decode cX2_find 41 = .ok (.aload_n 0, 1) := by decide +kernel
theorem dX2_find_42 : decode cX2_find 42 = .ok (.getfield 12, 3) := by decide +kernel
theorem dX2_find_45 : decode cX2_find 45 = .ok (.iload_n 1, 1) := by decide +kernel
theorem dX2_find_46 : decode cX2_find 46 = .ok (.iload_n 2, 1) := by decide +kernel
theorem dX2_find_47 : decode cX2_find 47 = .ok (.iload_n 3, 1) := by decide +kernel
theorem dX2_find_48 : decode cX2_find 48 = .ok (.invokevirtual 206, 3) := by decide +kernel
theorem dX2_find_51 : decode cX2_find 51 = .ok (.ireturn, 1) := by decide +kernel
theorem q2_163 : (Jvm.Cond.methodLink "Cyclepaint" (50 : Nat) ({ cls := "Cyclepaint", name := "isColour", desc := "(I)Z" } : Jvm.MethodName)) ∈ lw_g := zg_of (zin2 (List.mem_of_getElem? (i := 163) rfl)) rfl
theorem q4_167 : (Jvm.Cond.code ({ cls := "Cyclepaint", name := "find", desc := "(III)I" } : Jvm.MethodName) prog_1_method_21_code (4 : Nat) (Option.some Jvm.ClassFile.FieldType.int)) ∈ lw_g := zg_of (zin4 (List.mem_of_getElem? (i := 167) rfl)) rfl
theorem q4_165 : (Jvm.Cond.instanceMethod ({ cls := "Cyclepaint", name := "find", desc := "(III)I" } : Jvm.MethodName)) ∈ lw_g := zg_of (zin4 (List.mem_of_getElem? (i := 165) rfl)) rfl
theorem q4_166 : (Jvm.Cond.selects "Cyclepaint" ({ cls := "Cyclepaint", name := "find", desc := "(III)I" } : Jvm.MethodName) ({ cls := "Cyclepaint", name := "find", desc := "(III)I" } : Jvm.MethodName)) ∈ lw_g := zg_of (zin4 (List.mem_of_getElem? (i := 166) rfl)) rfl
theorem ok_X2_find : zOV yX2_find cX2_find 4 ((Option.some Jvm.ClassFile.FieldType.int)) 3 := ⟨⟨q4_167, q1_1, by decide, by decide, by decide +kernel⟩, q4_165, q4_166⟩
set_option maxHeartbeats 4000000 in
set_option maxRecDepth 100000 in
theorem c_X2_find (l : Launch) (G : zG) (σ : St) (a : Nat → Nat) (e x f : Int) (he : 0 ≤ e ∧ e ≤ 15) (hx : 0 ≤ x ∧ x ≤ 63) (hf : 0 ≤ f ∧ f ≤ 99999) : Met l yX2_find (wq yX2_find cX2_find 4 ((Option.some Jvm.ClassFile.FieldType.int))) (rmR 3 71) (va_Pc [.ref (a 0), .int (zI (e)), .int (zI (x)), .int (zI (f))] (zK G (hCyc G σ a))) (zQ (some (.int ((zI (fnd σ e (zI x) f)))))) 0 0 zF := by
  refine z_enterI (by decide +kernel) (Nat.le_of_ble_eq_true rfl) ?_
  intro p env s m below meth cod Q S hG hP ret ls hl
  have hl : lv_has ls 4 [(0, .ref (a 0)), (1, .int (zI (e))), (2, .int (zI (x))), (3, .int (zI (f)))] := hl
  have hC := hP.2.2.2.2.2
  have hT := hC.1
  have hdt := hC.2.1
  have hlm := hC.2.2.1
  have hkn := hC.2.2.2.1
  have hD := hC.2.2.2.2.1
  have hB := hC.2.2.2.2.2
  refine z_iload_n S dX2_find_0 hl 1 rfl rfl ?_
  refine z_callSs S hG (c_X2_isEntry l G (e) (by omega)) ok_X2_isEntry q1_137 (trivial) ⟨rfl, rfl, by decide, by decide⟩ ⟨Nat.zero_le _, Nat.zero_le _⟩ rfl (Nat.le_of_ble_eq_true rfl) hl.1 rfl dX2_find_1 ?_
  refine z_bif_ne S 17 dX2_find_4 (by decide) (fun q => ?_) (fun q => ?_)
  rotate_left
  · exact absurd q (by rw [(show (decide (0 ≤ e) && decide (e < 16)) = true from by simp; omega)]; decide)
  refine z_iload_n S dX2_find_17 hl 2 rfl rfl ?_
  refine z_callSs S hG (c_X2_isColour l G (x) (by omega)) ok_X2_isColour q2_163 (trivial) ⟨rfl, rfl, by decide, by decide⟩ ⟨Nat.zero_le _, Nat.zero_le _⟩ rfl (Nat.le_of_ble_eq_true rfl) hl.1 rfl dX2_find_18 ?_
  refine z_bif_eq S 31 dX2_find_21 (by decide) (fun q => ?_) (fun q => ?_)
  · exact absurd q (by rw [(show (decide (0 ≤ x) && decide (x < 64)) = true from by simp; omega)]; decide)
  refine z_iload_n S dX2_find_24 hl 3 rfl rfl ?_
  refine z_callSs S hG (c_X2_isTick l G (f) (by omega)) ok_X2_isTick q3_69 (trivial) ⟨rfl, rfl, by decide, by decide⟩ ⟨Nat.zero_le _, Nat.zero_le _⟩ rfl (Nat.le_of_ble_eq_true rfl) hl.1 rfl dX2_find_25 ?_
  refine z_bif_ne S 41 dX2_find_28 (by decide) (fun q => ?_) (fun q => ?_)
  rotate_left
  · exact absurd q (by rw [(show (decide (0 ≤ f) && decide (f ≤ 99999)) = true from by simp; omega)]; decide)
  refine z_aload_n S dX2_find_41 hl 0 rfl rfl ?_
  refine z_get S hG hP.1 zc_X2 0 (by decide) q1_60 rfl rfl dX2_find_42 ?_
  refine z_iload_n S dX2_find_45 hl 1 rfl rfl ?_
  refine z_iload_n S dX2_find_46 hl 2 rfl rfl ?_
  refine z_iload_n S dX2_find_47 hl 3 rfl rfl ?_
  refine z_callVs S hG (c_X0_firstShown l G σ a e (zI x) f (by omega) (by omega)) ok_X0_firstShown hP.2.2.2.2.1.1 zc_X0 rfl q2_50 (hP.2.2.2.2.1) ⟨rfl, rfl, by decide, by decide⟩ ⟨Nat.zero_le _, Nat.zero_le _⟩ rfl (Nat.le_of_ble_eq_true rfl) hl.1 rfl dX2_find_48 ?_
  exact ret _ _ _ dX2_find_51 (rfl)
theorem dX2_meet_0 : decode cX2_meet 0 = .ok (.iload_n 1, 1) := by decide +kernel
theorem dX2_meet_1 : decode cX2_meet 1 = .ok (.invokestatic 39, 3) := by decide +kernel
theorem dX2_meet_4 : decode cX2_meet 4 = .ok (.ifCond .eq 10, 3) := by decide +kernel
theorem dX2_meet_7 : decode cX2_meet 7 = .ok (.iload_n 3, 1) := by decide +kernel
theorem dX2_meet_8 : decode cX2_meet 8 = .ok (.invokestatic 39, 3) := by decide +kernel
theorem dX2_meet_11 : decode cX2_meet 11 = .ok (.ifCond .ne 13, 3) := by decide +kernel
theorem dX2_meet_14 : decode cX2_meet 14 = .ok (.new 43, 3) := by decide +kernel
theorem dX2_meet_17 : decode cX2_meet 17 = .ok (.dup, 1) := by decide +kernel
theorem dX2_meet_18 : decode cX2_meet 18 = .ok (.ldc 45, 2) := by decide +kernel
theorem dX2_meet_20 : decode cX2_meet 20 = .ok (.invokespecial 47, 3) := by decide +kernel
theorem dX2_meet_23 : decode cX2_meet 23 = .ok (.athrow, 1) := by decide +kernel
theorem dX2_meet_24 : decode cX2_meet 24 = .ok (.iload_n 2, 1) := by decide +kernel
theorem dX2_meet_25 : decode cX2_meet 25 = .ok (.invokestatic 50, 3) := by decide +kernel
theorem dX2_meet_28 : decode cX2_meet 28 = .ok (.ifCond .eq 11, 3) := by decide +kernel
theorem dX2_meet_31 : decode cX2_meet 31 = .ok (.iload 4, 2) := by decide +kernel
theorem dX2_meet_33 : decode cX2_meet 33 = .ok (.invokestatic 50, 3) := by decide +kernel
theorem dX2_meet_36 : decode cX2_meet 36 = .ok (.ifCond .ne 13, 3) := by decide +kernel
theorem dX2_meet_39 : decode cX2_meet 39 = .ok (.new 53, 3) := by decide +kernel
theorem dX2_meet_42 : decode cX2_meet 42 = .ok (.dup, 1) := by decide +kernel
theorem dX2_meet_43 : decode cX2_meet 43 = .ok (.ldc 55, 2) := by decide +kernel
theorem dX2_meet_45 : decode cX2_meet 45 = .ok (.invokespecial 57, 3) := by decide +kernel
theorem dX2_meet_48 : decode cX2_meet 48 = .ok (.athrow, 1) := by decide +kernel
theorem dX2_meet_49 : decode cX2_meet 49 = .ok (.aload_n 0, 1) := by decide +kernel
theorem dX2_meet_50 : decode cX2_meet 50 = .ok (.getfield 12, 3) := by decide +kernel
theorem dX2_meet_53 : decode cX2_meet 53 = .ok (.iload_n 1, 1) := by decide +kernel
theorem dX2_meet_54 : decode cX2_meet 54 = .ok (.iload_n 2, 1) := by decide +kernel
theorem dX2_meet_55 : decode cX2_meet 55 = .ok (.iload_n 3, 1) := by decide +kernel
theorem dX2_meet_56 : decode cX2_meet 56 = .ok (.iload 4, 2) := by decide +kernel
theorem dX2_meet_58 : decode cX2_meet 58 = .ok (.aload_n 0, 1) := by decide +kernel
theorem dX2_meet_59 : decode cX2_meet 59 = .ok (.getfield 30, 3) := by decide +kernel
theorem dX2_meet_62 : decode cX2_meet 62 = .ok (.invokevirtual 209, 3) := by decide +kernel
theorem dX2_meet_65 : decode cX2_meet 65 = .ok (.ireturn, 1) := by decide +kernel
theorem q4_175 : (Jvm.Cond.code ({ cls := "Cyclepaint", name := "meet", desc := "(IIII)I" } : Jvm.MethodName) prog_1_method_22_code (5 : Nat) (Option.some Jvm.ClassFile.FieldType.int)) ∈ lw_g := zg_of (zin4 (List.mem_of_getElem? (i := 175) rfl)) rfl
theorem q4_173 : (Jvm.Cond.instanceMethod ({ cls := "Cyclepaint", name := "meet", desc := "(IIII)I" } : Jvm.MethodName)) ∈ lw_g := zg_of (zin4 (List.mem_of_getElem? (i := 173) rfl)) rfl
theorem q4_174 : (Jvm.Cond.selects "Cyclepaint" ({ cls := "Cyclepaint", name := "meet", desc := "(IIII)I" } : Jvm.MethodName) ({ cls := "Cyclepaint", name := "meet", desc := "(IIII)I" } : Jvm.MethodName)) ∈ lw_g := zg_of (zin4 (List.mem_of_getElem? (i := 174) rfl)) rfl
theorem ok_X2_meet : zOV yX2_meet cX2_meet 5 ((Option.some Jvm.ClassFile.FieldType.int)) 4 := ⟨⟨q4_175, q1_1, by decide, by decide, by decide +kernel⟩, q4_173, q4_174⟩
set_option maxHeartbeats 4000000 in
set_option maxRecDepth 100000 in
theorem c_X2_meet (l : Launch) (G : zG) (σ : St) (a : Nat → Nat) (e x f y : Int) (he : 0 ≤ e ∧ e ≤ 15) (hx : 0 ≤ x ∧ x ≤ 63) (hf : 0 ≤ f ∧ f ≤ 15) (hy : 0 ≤ y ∧ y ≤ 63) : Met l yX2_meet (wq yX2_meet cX2_meet 5 ((Option.some Jvm.ClassFile.FieldType.int))) (rmR 3 74) (va_Pc [.ref (a 0), .int (zI (e)), .int (zI (x)), .int (zI (f)), .int (zI (y))] (zK G (hCyc G σ a))) (zQ (some (.int ((zI (mt σ e (zI x) f (zI y) σ.tk)))))) 0 0 zF := by
  refine z_enterI (by decide +kernel) (Nat.le_of_ble_eq_true rfl) ?_
  intro p env s m below meth cod Q S hG hP ret ls hl
  have hl : lv_has ls 5 [(0, .ref (a 0)), (1, .int (zI (e))), (2, .int (zI (x))), (3, .int (zI (f))), (4, .int (zI (y)))] := hl
  have hC := hP.2.2.2.2.2
  have hT := hC.1
  have hdt := hC.2.1
  have hlm := hC.2.2.1
  have hkn := hC.2.2.2.1
  have hD := hC.2.2.2.2.1
  have hB := hC.2.2.2.2.2
  refine z_iload_n S dX2_meet_0 hl 1 rfl rfl ?_
  refine z_callSs S hG (c_X2_isEntry l G (e) (by omega)) ok_X2_isEntry q1_137 (trivial) ⟨rfl, rfl, by decide, by decide⟩ ⟨Nat.zero_le _, Nat.zero_le _⟩ rfl (Nat.le_of_ble_eq_true rfl) hl.1 rfl dX2_meet_1 ?_
  refine z_bif_eq S 14 dX2_meet_4 (by decide) (fun q => ?_) (fun q => ?_)
  · exact absurd q (by rw [(show (decide (0 ≤ e) && decide (e < 16)) = true from by simp; omega)]; decide)
  refine z_iload_n S dX2_meet_7 hl 3 rfl rfl ?_
  refine z_callSs S hG (c_X2_isEntry l G (f) (by omega)) ok_X2_isEntry q1_137 (trivial) ⟨rfl, rfl, by decide, by decide⟩ ⟨Nat.zero_le _, Nat.zero_le _⟩ rfl (Nat.le_of_ble_eq_true rfl) hl.1 rfl dX2_meet_8 ?_
  refine z_bif_ne S 24 dX2_meet_11 (by decide) (fun q => ?_) (fun q => ?_)
  rotate_left
  · exact absurd q (by rw [(show (decide (0 ≤ f) && decide (f < 16)) = true from by simp; omega)]; decide)
  refine z_iload_n S dX2_meet_24 hl 2 rfl rfl ?_
  refine z_callSs S hG (c_X2_isColour l G (x) (by omega)) ok_X2_isColour q2_163 (trivial) ⟨rfl, rfl, by decide, by decide⟩ ⟨Nat.zero_le _, Nat.zero_le _⟩ rfl (Nat.le_of_ble_eq_true rfl) hl.1 rfl dX2_meet_25 ?_
  refine z_bif_eq S 39 dX2_meet_28 (by decide) (fun q => ?_) (fun q => ?_)
  · exact absurd q (by rw [(show (decide (0 ≤ x) && decide (x < 64)) = true from by simp; omega)]; decide)
  refine z_iload S dX2_meet_31 hl 4 rfl ?_
  refine z_callSs S hG (c_X2_isColour l G (y) (by omega)) ok_X2_isColour q2_163 (trivial) ⟨rfl, rfl, by decide, by decide⟩ ⟨Nat.zero_le _, Nat.zero_le _⟩ rfl (Nat.le_of_ble_eq_true rfl) hl.1 rfl dX2_meet_33 ?_
  refine z_bif_ne S 49 dX2_meet_36 (by decide) (fun q => ?_) (fun q => ?_)
  rotate_left
  · exact absurd q (by rw [(show (decide (0 ≤ y) && decide (y < 64)) = true from by simp; omega)]; decide)
  refine z_aload_n S dX2_meet_49 hl 0 rfl rfl ?_
  refine z_get S hG hP.1 zc_X2 0 (by decide) q1_60 rfl rfl dX2_meet_50 ?_
  refine z_iload_n S dX2_meet_53 hl 1 rfl rfl ?_
  refine z_iload_n S dX2_meet_54 hl 2 rfl rfl ?_
  refine z_iload_n S dX2_meet_55 hl 3 rfl rfl ?_
  refine z_iload S dX2_meet_56 hl 4 rfl ?_
  refine z_aload_n S dX2_meet_58 hl 0 rfl rfl ?_
  refine z_get S hG hP.1 zc_X2 5 (by decide) q1_65 rfl rfl dX2_meet_59 ?_
  refine z_callVs S hG (c_X0_firstMeeting l G σ a e (zI x) f (zI y) σ.tk (by omega) (by omega) (by omega)) ok_X0_firstMeeting hP.2.2.2.2.1.1 zc_X0 rfl q2_54 (hP.2.2.2.2.1) ⟨rfl, rfl, by decide, by decide⟩ ⟨Nat.zero_le _, Nat.zero_le _⟩ rfl (Nat.le_of_ble_eq_true rfl) hl.1 rfl dX2_meet_62 ?_
  exact ret _ _ _ dX2_meet_65 (rfl)
theorem dX2_when_0 : decode cX2_when 0 = .ok (.iload_n 1, 1) := by decide +kernel
theorem dX2_when_1 : decode cX2_when 1 = .ok (.ifCond .lt 11, 3) := by decide +kernel
theorem dX2_when_4 : decode cX2_when 4 = .ok (.iload_n 1, 1) := by decide +kernel
theorem dX2_when_5 : decode cX2_when 5 = .ok (.aload_n 0, 1) := by decide +kernel
theorem dX2_when_6 : decode cX2_when 6 = .ok (.getfield 26, 3) := by decide +kernel
theorem dX2_when_9 : decode cX2_when 9 = .ok (.if_icmp .lt 13, 3) := by decide +kernel
theorem dX2_when_12 : decode cX2_when 12 = .ok (.new 43, 3) := by decide +kernel
theorem dX2_when_15 : decode cX2_when 15 = .ok (.dup, 1) := by decide +kernel
theorem dX2_when_16 : decode cX2_when 16 = .ok (.ldc 213, 2) := by decide +kernel
theorem dX2_when_18 : decode cX2_when 18 = .ok (.invokespecial 47, 3) := by decide +kernel
theorem dX2_when_21 : decode cX2_when 21 = .ok (.athrow, 1) := by decide +kernel
theorem dX2_when_22 : decode cX2_when 22 = .ok (.aload_n 0, 1) := by decide +kernel
theorem dX2_when_23 : decode cX2_when 23 = .ok (.iload_n 1, 1) := by decide +kernel
theorem dX2_when_24 : decode cX2_when 24 = .ok (.invokevirtual 215, 3) := by decide +kernel
theorem dX2_when_27 : decode cX2_when 27 = .ok (.ireturn, 1) := by decide +kernel
theorem q4_182 : (Jvm.Cond.code ({ cls := "Cyclepaint", name := "when", desc := "(I)I" } : Jvm.MethodName) prog_1_method_23_code (2 : Nat) (Option.some Jvm.ClassFile.FieldType.int)) ∈ lw_g := zg_of (zin4 (List.mem_of_getElem? (i := 182) rfl)) rfl
theorem q4_180 : (Jvm.Cond.instanceMethod ({ cls := "Cyclepaint", name := "when", desc := "(I)I" } : Jvm.MethodName)) ∈ lw_g := zg_of (zin4 (List.mem_of_getElem? (i := 180) rfl)) rfl
theorem q4_181 : (Jvm.Cond.selects "Cyclepaint" ({ cls := "Cyclepaint", name := "when", desc := "(I)I" } : Jvm.MethodName) ({ cls := "Cyclepaint", name := "when", desc := "(I)I" } : Jvm.MethodName)) ∈ lw_g := zg_of (zin4 (List.mem_of_getElem? (i := 181) rfl)) rfl
theorem ok_X2_when : zOV yX2_when cX2_when 2 ((Option.some Jvm.ClassFile.FieldType.int)) 1 := ⟨⟨q4_182, q1_1, by decide, by decide, by decide +kernel⟩, q4_180, q4_181⟩
set_option maxHeartbeats 4000000 in
set_option maxRecDepth 100000 in
theorem c_X2_when (l : Launch) (G : zG) (σ : St) (a : Nat → Nat) (n : Int) (hn : 0 ≤ n ∧ n < σ.kn) : Met l yX2_when (wq yX2_when cX2_when 2 ((Option.some Jvm.ClassFile.FieldType.int))) (rmR 4 92) (va_Pc [.ref (a 0), .int (zI (n))] (zK G (hCyc G σ a))) (zQ (some (.int ((zI (whn σ n)))))) 0 0 zF := by
  refine z_enterI (by decide +kernel) (Nat.le_of_ble_eq_true rfl) ?_
  intro p env s m below meth cod Q S hG hP ret ls hl
  have hl : lv_has ls 2 [(0, .ref (a 0)), (1, .int (zI (n)))] := hl
  have hC := hP.2.2.2.2.2
  have hT := hC.1
  have hdt := hC.2.1
  have hlm := hC.2.2.1
  have hkn := hC.2.2.2.1
  have hD := hC.2.2.2.2.1
  have hB := hC.2.2.2.2.2
  refine z_iload_n S dX2_when_0 hl 1 rfl rfl ?_
  refine z_if_lt_F S 12 dX2_when_1 (by decide) (by omega) (by omega) ?_
  refine z_iload_n S dX2_when_4 hl 1 rfl rfl ?_
  refine z_aload_n S dX2_when_5 hl 0 rfl rfl ?_
  refine z_get S hG hP.1 zc_X2 4 (by decide) q1_64 rfl rfl dX2_when_6 ?_
  refine z_icmp_lt_T S 22 dX2_when_9 (by decide) (by omega) (by omega) (by omega) ?_
  refine z_aload_n S dX2_when_22 hl 0 rfl rfl ?_
  refine z_iload_n S dX2_when_23 hl 1 rfl rfl ?_
  refine z_callVs S hG (c_X2_ticksUntil l G σ a n (by omega)) ok_X2_ticksUntil hP.1 zc_X2 rfl q2_58 (hP) ⟨rfl, rfl, by decide, by decide⟩ ⟨Nat.zero_le _, Nat.zero_le _⟩ rfl (Nat.le_of_ble_eq_true rfl) hl.1 rfl dX2_when_24 ?_
  exact ret _ _ _ dX2_when_27 (rfl)
theorem dX2_lightest_0 : decode cX2_lightest 0 = .ok (.iload_n 1, 1) := by decide +kernel
theorem dX2_lightest_1 : decode cX2_lightest 1 = .ok (.invokestatic 127, 3) := by decide +kernel
theorem dX2_lightest_4 : decode cX2_lightest 4 = .ok (.ifCond .ne 13, 3) := by decide +kernel
theorem dX2_lightest_7 : decode cX2_lightest 7 = .ok (.new 53, 3) := by decide +kernel
theorem dX2_lightest_10 : decode cX2_lightest 10 = .ok (.dup, 1) := by decide +kernel
theorem dX2_lightest_11 : decode cX2_lightest 11 = .ok (.ldc 130, 2) := by decide +kernel
theorem dX2_lightest_13 : decode cX2_lightest 13 = .ok (.invokespecial 57, 3) := by decide +kernel
theorem dX2_lightest_16 : decode cX2_lightest 16 = .ok (.athrow, 1) := by decide +kernel
theorem dX2_lightest_17 : decode cX2_lightest 17 = .ok (.aload_n 0, 1) := by decide +kernel
theorem dX2_lightest_18 : decode cX2_lightest 18 = .ok (.iload_n 1, 1) := by decide +kernel
theorem dX2_lightest_19 : decode cX2_lightest 19 = .ok (.invokevirtual 218, 3) := by decide +kernel
theorem dX2_lightest_22 : decode cX2_lightest 22 = .ok (.ireturn, 1) := by decide +kernel
theorem q3_56 : (Jvm.Cond.methodLink "Cyclepaint" (127 : Nat) ({ cls := "Cyclepaint", name := "isTickCount", desc := "(I)Z" } : Jvm.MethodName)) ∈ lw_g := zg_of (zin3 (List.mem_of_getElem? (i := 56) rfl)) rfl
theorem q4_190 : (Jvm.Cond.code ({ cls := "Cyclepaint", name := "lightest", desc := "(I)I" } : Jvm.MethodName) prog_1_method_24_code (2 : Nat) (Option.some Jvm.ClassFile.FieldType.int)) ∈ lw_g := zg_of (zin4 (List.mem_of_getElem? (i := 190) rfl)) rfl
theorem q4_188 : (Jvm.Cond.instanceMethod ({ cls := "Cyclepaint", name := "lightest", desc := "(I)I" } : Jvm.MethodName)) ∈ lw_g := zg_of (zin4 (List.mem_of_getElem? (i := 188) rfl)) rfl
theorem q4_189 : (Jvm.Cond.selects "Cyclepaint" ({ cls := "Cyclepaint", name := "lightest", desc := "(I)I" } : Jvm.MethodName) ({ cls := "Cyclepaint", name := "lightest", desc := "(I)I" } : Jvm.MethodName)) ∈ lw_g := zg_of (zin4 (List.mem_of_getElem? (i := 189) rfl)) rfl
theorem ok_X2_lightest : zOV yX2_lightest cX2_lightest 2 ((Option.some Jvm.ClassFile.FieldType.int)) 1 := ⟨⟨q4_190, q1_1, by decide, by decide, by decide +kernel⟩, q4_188, q4_189⟩
set_option maxHeartbeats 4000000 in
set_option maxRecDepth 100000 in
theorem c_X2_lightest (l : Launch) (G : zG) (σ : St) (a : Nat → Nat) (n : Int) (hn : 1 ≤ n ∧ n ≤ 200) : Met l yX2_lightest (wq yX2_lightest cX2_lightest 2 ((Option.some Jvm.ClassFile.FieldType.int))) (rmR 4 94) (va_Pc [.ref (a 0), .int (zI (n))] (zK G (hCyc G σ a))) (zQ (some (.int ((zI (ltC σ n)))))) 0 0 zF := by
  refine z_enterI (by decide +kernel) (Nat.le_of_ble_eq_true rfl) ?_
  intro p env s m below meth cod Q S hG hP ret ls hl
  have hl : lv_has ls 2 [(0, .ref (a 0)), (1, .int (zI (n)))] := hl
  have hC := hP.2.2.2.2.2
  have hT := hC.1
  have hdt := hC.2.1
  have hlm := hC.2.2.1
  have hkn := hC.2.2.2.1
  have hD := hC.2.2.2.2.1
  have hB := hC.2.2.2.2.2
  refine z_iload_n S dX2_lightest_0 hl 1 rfl rfl ?_
  refine z_callSs S hG (c_X2_isTickCount l G (n) (by omega)) ok_X2_isTickCount q3_56 (trivial) ⟨rfl, rfl, by decide, by decide⟩ ⟨Nat.zero_le _, Nat.zero_le _⟩ rfl (Nat.le_of_ble_eq_true rfl) hl.1 rfl dX2_lightest_1 ?_
  refine z_bif_ne S 17 dX2_lightest_4 (by decide) (fun q => ?_) (fun q => ?_)
  rotate_left
  · exact absurd q (by rw [(show (decide (1 ≤ n) && decide (n ≤ 200)) = true from by simp; omega)]; decide)
  refine z_aload_n S dX2_lightest_17 hl 0 rfl rfl ?_
  refine z_iload_n S dX2_lightest_18 hl 1 rfl rfl ?_
  refine z_callVs S hG (c_X2_lightestTick l G σ a n (by omega)) ok_X2_lightestTick hP.1 zc_X2 rfl q2_66 (hP) ⟨rfl, rfl, by decide, by decide⟩ ⟨Nat.zero_le _, Nat.zero_le _⟩ rfl (Nat.le_of_ble_eq_true rfl) hl.1 rfl dX2_lightest_19 ?_
  exact ret _ _ _ dX2_lightest_22 (rfl)
