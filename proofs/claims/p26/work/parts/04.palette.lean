theorem dX1_holds_0 : decode cX1_holds 0 = .ok (.iload_n 1, 1) := by decide +kernel
theorem dX1_holds_1 : decode cX1_holds 1 = .ok (.aload_n 0, 1) := by decide +kernel
theorem dX1_holds_2 : decode cX1_holds 2 = .ok (.getfield 9, 3) := by decide +kernel
theorem dX1_holds_5 : decode cX1_holds 5 = .ok (.if_icmp .lt 20, 3) := by decide +kernel
theorem dX1_holds_8 : decode cX1_holds 8 = .ok (.iload_n 1, 1) := by decide +kernel
theorem dX1_holds_9 : decode cX1_holds 9 = .ok (.aload_n 0, 1) := by decide +kernel
theorem dX1_holds_10 : decode cX1_holds 10 = .ok (.getfield 9, 3) := by decide +kernel
theorem dX1_holds_13 : decode cX1_holds 13 = .ok (.aload_n 0, 1) := by decide +kernel
theorem dX1_holds_14 : decode cX1_holds 14 = .ok (.getfield 15, 3) := by decide +kernel
theorem dX1_holds_17 : decode cX1_holds 17 = .ok (.iadd, 1) := by decide +kernel
theorem dX1_holds_18 : decode cX1_holds 18 = .ok (.if_icmp .ge 7, 3) := by decide +kernel
theorem dX1_holds_21 : decode cX1_holds 21 = .ok (.iconst 1, 1) := by decide +kernel
theorem dX1_holds_22 : decode cX1_holds 22 = .ok (.goto 4, 3) := by decide +kernel
theorem dX1_holds_25 : decode cX1_holds 25 = .ok (.iconst 0, 1) := by decide +kernel
theorem dX1_holds_26 : decode cX1_holds 26 = .ok (.ireturn, 1) := by decide +kernel
theorem q3_3 : (Jvm.Cond.fieldLink "Cyclepaint$Range" (9 : Nat) "Cyclepaint$Range" "first" "I") ∈ lw_g := zg_of (zin3 (List.mem_of_getElem? (i := 3) rfl)) rfl
theorem q3_4 : (Jvm.Cond.fieldLink "Cyclepaint$Range" (15 : Nat) "Cyclepaint$Range" "length" "I") ∈ lw_g := zg_of (zin3 (List.mem_of_getElem? (i := 4) rfl)) rfl
theorem q1_191 : (Jvm.Cond.code ({ cls := "Cyclepaint$Range", name := "holds", desc := "(I)Z" } : Jvm.MethodName) prog_3_method_3_code (2 : Nat) (Option.some Jvm.ClassFile.FieldType.boolean)) ∈ lw_g := zg_of (zin1 (List.mem_of_getElem? (i := 191) rfl)) rfl
theorem q1_14 : (Jvm.Cond.initialized "Cyclepaint$Range") ∈ lw_g := zg_of (zin1 (List.mem_of_getElem? (i := 14) rfl)) rfl
theorem q1_189 : (Jvm.Cond.instanceMethod ({ cls := "Cyclepaint$Range", name := "holds", desc := "(I)Z" } : Jvm.MethodName)) ∈ lw_g := zg_of (zin1 (List.mem_of_getElem? (i := 189) rfl)) rfl
theorem q1_190 : (Jvm.Cond.selects "Cyclepaint$Range" ({ cls := "Cyclepaint$Range", name := "holds", desc := "(I)Z" } : Jvm.MethodName) ({ cls := "Cyclepaint$Range", name := "holds", desc := "(I)Z" } : Jvm.MethodName)) ∈ lw_g := zg_of (zin1 (List.mem_of_getElem? (i := 190) rfl)) rfl
theorem ok_X1_holds : zOV yX1_holds cX1_holds 2 ((Option.some Jvm.ClassFile.FieldType.boolean)) 1 := ⟨⟨q1_191, q1_14, by decide, by decide, by decide +kernel⟩, q1_189, q1_190⟩
set_option maxHeartbeats 4000000 in
set_option maxRecDepth 100000 in
theorem c_X1_holds (l : Launch) (G : zG) (q : Nat) (f len sp k : Int) (e : Int) (hr : (0 ≤ f ∧ f ≤ 16 ∧ 0 ≤ len ∧ len ≤ 16) ∧ rg e) : Met l yX1_holds (wq yX1_holds cX1_holds 2 ((Option.some Jvm.ClassFile.FieldType.boolean))) (rmR 0 0) (va_Pc [.ref (q), .int (zI (e))] (zK G (hRng G q f len sp k))) (zQ (some (.int (bI (decide (f ≤ e) && decide (e < f + len)))))) 0 0 zF := by
  refine z_enterB (by decide +kernel) (Nat.le_of_ble_eq_true rfl) ?_
  intro p env s m below meth cod Q S hG hP ret ls hl
  have hl : lv_has ls 2 [(0, .ref (q)), (1, .int (zI (e)))] := hl
  refine z_iload_n S dX1_holds_0 hl 1 rfl rfl ?_
  refine z_aload_n S dX1_holds_1 hl 0 rfl rfl ?_
  refine z_get S hG hP zc_X1 0 (by decide) q3_3 rfl rfl dX1_holds_2 ?_
  refine z_icmp_lt S 25 dX1_holds_5 (by decide) (by omega) (by omega) (fun c_5 => ?_) (fun c_5 => ?_)
  · skip
    refine z_iconst S dX1_holds_25 ?_
    exact ret _ _ _ dX1_holds_26 (by rw [show (decide (f ≤ e) && decide (e < f + len)) = false from by simp; omega]; rfl)
  · skip
    refine z_iload_n S dX1_holds_8 hl 1 rfl rfl ?_
    refine z_aload_n S dX1_holds_9 hl 0 rfl rfl ?_
    refine z_get S hG hP zc_X1 0 (by decide) q3_3 rfl rfl dX1_holds_10 ?_
    refine z_aload_n S dX1_holds_13 hl 0 rfl rfl ?_
    refine z_get S hG hP zc_X1 1 (by decide) q3_4 rfl rfl dX1_holds_14 ?_
    refine z_iadd S dX1_holds_17 ?_
    refine z_icmp_ge S 25 dX1_holds_18 (by decide) (by omega) (by omega) (fun c_18 => ?_) (fun c_18 => ?_)
    · skip
      refine z_iconst S dX1_holds_25 ?_
      exact ret _ _ _ dX1_holds_26 (by rw [show (decide (f ≤ e) && decide (e < f + len)) = false from by simp; omega]; rfl)
    · skip
      refine z_iconst S dX1_holds_21 ?_
      refine z_goto S 26 dX1_holds_22 (by decide) ?_
      exact ret _ _ _ dX1_holds_26 (by rw [show (decide (f ≤ e) && decide (e < f + len)) = true from by simp; omega]; rfl)
theorem dX1_round_0 : decode cX1_round 0 = .ok (.aload_n 0, 1) := by decide +kernel
theorem dX1_round_1 : decode cX1_round 1 = .ok (.getfield 22, 3) := by decide +kernel
theorem dX1_round_4 : decode cX1_round 4 = .ok (.aload_n 0, 1) := by decide +kernel
theorem dX1_round_5 : decode cX1_round 5 = .ok (.getfield 28, 3) := by decide +kernel
theorem dX1_round_8 : decode cX1_round 8 = .ok (.imul, 1) := by decide +kernel
theorem dX1_round_9 : decode cX1_round 9 = .ok (.ireturn, 1) := by decide +kernel
theorem q3_5 : (Jvm.Cond.fieldLink "Cyclepaint$Range" (22 : Nat) "Cyclepaint$Range" "speed" "I") ∈ lw_g := zg_of (zin3 (List.mem_of_getElem? (i := 5) rfl)) rfl
theorem q3_7 : (Jvm.Cond.fieldLink "Cyclepaint$Range" (28 : Nat) "Cyclepaint$Range" "cycle" "I") ∈ lw_g := zg_of (zin3 (List.mem_of_getElem? (i := 7) rfl)) rfl
theorem q1_112 : (Jvm.Cond.code ({ cls := "Cyclepaint$Range", name := "round", desc := "()I" } : Jvm.MethodName) prog_3_method_4_code (1 : Nat) (Option.some Jvm.ClassFile.FieldType.int)) ∈ lw_g := zg_of (zin1 (List.mem_of_getElem? (i := 112) rfl)) rfl
theorem q1_110 : (Jvm.Cond.instanceMethod ({ cls := "Cyclepaint$Range", name := "round", desc := "()I" } : Jvm.MethodName)) ∈ lw_g := zg_of (zin1 (List.mem_of_getElem? (i := 110) rfl)) rfl
theorem q1_111 : (Jvm.Cond.selects "Cyclepaint$Range" ({ cls := "Cyclepaint$Range", name := "round", desc := "()I" } : Jvm.MethodName) ({ cls := "Cyclepaint$Range", name := "round", desc := "()I" } : Jvm.MethodName)) ∈ lw_g := zg_of (zin1 (List.mem_of_getElem? (i := 111) rfl)) rfl
theorem ok_X1_round : zOV yX1_round cX1_round 1 ((Option.some Jvm.ClassFile.FieldType.int)) 0 := ⟨⟨q1_112, q1_14, by decide, by decide, by decide +kernel⟩, q1_110, q1_111⟩
set_option maxHeartbeats 4000000 in
set_option maxRecDepth 100000 in
theorem c_X1_round (l : Launch) (G : zG) (q : Nat) (f len sp k : Int) : Met l yX1_round (wq yX1_round cX1_round 1 ((Option.some Jvm.ClassFile.FieldType.int))) (rmR 0 0) (va_Pc [.ref (q)] (zK G (hRng G q f len sp k))) (zQ (some (.int ((zI (sp * cyc k len)))))) 0 0 zF := by
  refine z_enterI (by decide +kernel) (Nat.le_of_ble_eq_true rfl) ?_
  intro p env s m below meth cod Q S hG hP ret ls hl
  have hl : lv_has ls 1 [(0, .ref (q))] := hl
  refine z_aload_n S dX1_round_0 hl 0 rfl rfl ?_
  refine z_get S hG hP zc_X1 2 (by decide) q3_5 rfl rfl dX1_round_1 ?_
  refine z_aload_n S dX1_round_4 hl 0 rfl rfl ?_
  refine z_get S hG hP zc_X1 4 (by decide) q3_7 rfl rfl dX1_round_5 ?_
  refine z_imul S dX1_round_8 ?_
  exact ret _ _ _ dX1_round_9 (rfl)
theorem dX1_shift_0 : decode cX1_shift 0 = .ok (.aload_n 0, 1) := by decide +kernel
theorem dX1_shift_1 : decode cX1_shift 1 = .ok (.getfield 22, 3) := by decide +kernel
theorem dX1_shift_4 : decode cX1_shift 4 = .ok (.iconst 1, 1) := by decide +kernel
theorem dX1_shift_5 : decode cX1_shift 5 = .ok (.if_icmp .lt 11, 3) := by decide +kernel
theorem dX1_shift_8 : decode cX1_shift 8 = .ok (.aload_n 0, 1) := by decide +kernel
theorem dX1_shift_9 : decode cX1_shift 9 = .ok (.getfield 28, 3) := by decide +kernel
theorem dX1_shift_12 : decode cX1_shift 12 = .ok (.iconst 1, 1) := by decide +kernel
theorem dX1_shift_13 : decode cX1_shift 13 = .ok (.if_icmp .ge 5, 3) := by decide +kernel
theorem dX1_shift_16 : decode cX1_shift 16 = .ok (.iconst 0, 1) := by decide +kernel
theorem dX1_shift_17 : decode cX1_shift 17 = .ok (.ireturn, 1) := by decide +kernel
theorem dX1_shift_18 : decode cX1_shift 18 = .ok (.iload_n 1, 1) := by decide +kernel
theorem dX1_shift_19 : decode cX1_shift 19 = .ok (.aload_n 0, 1) := by decide +kernel
theorem dX1_shift_20 : decode cX1_shift 20 = .ok (.getfield 22, 3) := by decide +kernel
theorem dX1_shift_23 : decode cX1_shift 23 = .ok (.idiv, 1) := by decide +kernel
theorem dX1_shift_24 : decode cX1_shift 24 = .ok (.aload_n 0, 1) := by decide +kernel
theorem dX1_shift_25 : decode cX1_shift 25 = .ok (.getfield 28, 3) := by decide +kernel
theorem dX1_shift_28 : decode cX1_shift 28 = .ok (.irem, 1) := by decide +kernel
theorem dX1_shift_29 : decode cX1_shift 29 = .ok (.istore_n 2, 1) := by decide +kernel
theorem dX1_shift_30 : decode cX1_shift 30 = .ok (.aload_n 0, 1) := by decide +kernel
theorem dX1_shift_31 : decode cX1_shift 31 = .ok (.getfield 25, 3) := by decide +kernel
theorem dX1_shift_34 : decode cX1_shift 34 = .ok (.iconst 1, 1) := by decide +kernel
theorem dX1_shift_35 : decode cX1_shift 35 = .ok (.if_icmp .ne 18, 3) := by decide +kernel
theorem dX1_shift_38 : decode cX1_shift 38 = .ok (.iload_n 2, 1) := by decide +kernel
theorem dX1_shift_39 : decode cX1_shift 39 = .ok (.ifCond .ne 7, 3) := by decide +kernel
theorem dX1_shift_42 : decode cX1_shift 42 = .ok (.iconst 0, 1) := by decide +kernel
theorem dX1_shift_43 : decode cX1_shift 43 = .ok (.goto 9, 3) := by decide +kernel
theorem dX1_shift_46 : decode cX1_shift 46 = .ok (.aload_n 0, 1) := by decide +kernel
theorem dX1_shift_47 : decode cX1_shift 47 = .ok (.getfield 15, 3) := by decide +kernel
theorem dX1_shift_50 : decode cX1_shift 50 = .ok (.iload_n 2, 1) := by decide +kernel
theorem dX1_shift_51 : decode cX1_shift 51 = .ok (.isub, 1) := by decide +kernel
theorem dX1_shift_52 : decode cX1_shift 52 = .ok (.ireturn, 1) := by decide +kernel
theorem dX1_shift_53 : decode cX1_shift 53 = .ok (.iload_n 2, 1) := by decide +kernel
theorem dX1_shift_54 : decode cX1_shift 54 = .ok (.aload_n 0, 1) := by decide +kernel
theorem dX1_shift_55 : decode cX1_shift 55 = .ok (.getfield 15, 3) := by decide +kernel
theorem dX1_shift_58 : decode cX1_shift 58 = .ok (.if_icmp .ge 7, 3) := by decide +kernel
theorem dX1_shift_61 : decode cX1_shift 61 = .ok (.iload_n 2, 1) := by decide +kernel
theorem dX1_shift_62 : decode cX1_shift 62 = .ok (.goto 9, 3) := by decide +kernel
theorem dX1_shift_65 : decode cX1_shift 65 = .ok (.aload_n 0, 1) := by decide +kernel
theorem dX1_shift_66 : decode cX1_shift 66 = .ok (.getfield 28, 3) := by decide +kernel
theorem dX1_shift_69 : decode cX1_shift 69 = .ok (.iload_n 2, 1) := by decide +kernel
theorem dX1_shift_70 : decode cX1_shift 70 = .ok (.isub, 1) := by decide +kernel
theorem dX1_shift_71 : decode cX1_shift 71 = .ok (.ireturn, 1) := by decide +kernel
theorem q3_6 : (Jvm.Cond.fieldLink "Cyclepaint$Range" (25 : Nat) "Cyclepaint$Range" "kind" "I") ∈ lw_g := zg_of (zin3 (List.mem_of_getElem? (i := 6) rfl)) rfl
theorem q1_120 : (Jvm.Cond.code ({ cls := "Cyclepaint$Range", name := "shift", desc := "(I)I" } : Jvm.MethodName) prog_3_method_5_code (3 : Nat) (Option.some Jvm.ClassFile.FieldType.int)) ∈ lw_g := zg_of (zin1 (List.mem_of_getElem? (i := 120) rfl)) rfl
theorem q1_118 : (Jvm.Cond.instanceMethod ({ cls := "Cyclepaint$Range", name := "shift", desc := "(I)I" } : Jvm.MethodName)) ∈ lw_g := zg_of (zin1 (List.mem_of_getElem? (i := 118) rfl)) rfl
theorem q1_119 : (Jvm.Cond.selects "Cyclepaint$Range" ({ cls := "Cyclepaint$Range", name := "shift", desc := "(I)I" } : Jvm.MethodName) ({ cls := "Cyclepaint$Range", name := "shift", desc := "(I)I" } : Jvm.MethodName)) ∈ lw_g := zg_of (zin1 (List.mem_of_getElem? (i := 119) rfl)) rfl
theorem ok_X1_shift : zOV yX1_shift cX1_shift 3 ((Option.some Jvm.ClassFile.FieldType.int)) 1 := ⟨⟨q1_120, q1_14, by decide, by decide, by decide +kernel⟩, q1_118, q1_119⟩
set_option maxHeartbeats 4000000 in
set_option maxRecDepth 100000 in
theorem c_X1_shift (l : Launch) (G : zG) (q : Nat) (f len sp k : Int) (w : Int) (hr : (0 ≤ w ∧ w < 2147483648) ∧ (1 ≤ sp ∧ sp ≤ 9) ∧ (2 ≤ len ∧ len ≤ 16) ∧ 0 ≤ k ∧ k ≤ 2) : Met l yX1_shift (wq yX1_shift cX1_shift 3 ((Option.some Jvm.ClassFile.FieldType.int))) (rmR 0 0) (va_Pc [.ref (q), .int (zI (w))] (zK G (hRng G q f len sp k))) (zQ (some (.int ((zI (shiftR k len sp w)))))) 0 0 zF := by
  refine z_enterI (by decide +kernel) (Nat.le_of_ble_eq_true rfl) ?_
  intro p env s m below meth cod Q S hG hP ret ls hl
  have hl : lv_has ls 3 [(0, .ref (q)), (1, .int (zI (w)))] := hl
  refine z_aload_n S dX1_shift_0 hl 0 rfl rfl ?_
  refine z_get S hG hP zc_X1 2 (by decide) q3_5 rfl rfl dX1_shift_1 ?_
  refine z_iconst S dX1_shift_4 ?_
  refine z_icmp_lt_F S 16 dX1_shift_5 (by decide) (by omega) (by omega) (by omega) ?_
  refine z_aload_n S dX1_shift_8 hl 0 rfl rfl ?_
  refine z_get S hG hP zc_X1 4 (by decide) q3_7 rfl rfl dX1_shift_9 ?_
  refine z_iconst S dX1_shift_12 ?_
  have hcy := cyc_b (k := k) (len := len) hr.2.2.1
  refine z_icmp_ge_T S 18 dX1_shift_13 (by decide) (by omega) (by omega) (by omega) ?_
  refine z_iload_n S dX1_shift_18 hl 1 rfl rfl ?_
  refine z_aload_n S dX1_shift_19 hl 0 rfl rfl ?_
  refine z_get S hG hP zc_X1 2 (by decide) q3_5 rfl rfl dX1_shift_20 ?_
  have hd0 : 0 ≤ w / sp := Int.ediv_nonneg hr.1.1 (by omega)
  have hd1 : w / sp ≤ w := Int.ediv_le_self sp hr.1.1
  have hm0 := Int.emod_nonneg (w / sp) (show cyc k len ≠ 0 by omega)
  have hm1 := Int.emod_lt_of_pos (w / sp) (show 0 < cyc k len by omega)
  refine z_idiv S dX1_shift_23 (by omega) (by omega) ?_
  refine z_aload_n S dX1_shift_24 hl 0 rfl rfl ?_
  refine z_get S hG hP zc_X1 4 (by decide) q3_7 rfl rfl dX1_shift_25 ?_
  refine z_irem S dX1_shift_28 (by omega) (by omega) ?_
  refine z_istore_n (lv' := [(2, .int (zI (((w) / (sp)) % (cyc (k) (len))))), (0, .ref (q)), (1, .int (zI (w)))]) S dX1_shift_29 hl rfl (by decide) rfl (fun ls hl => ?_)
  refine z_aload_n S dX1_shift_30 hl 1 rfl rfl ?_
  refine z_get S hG hP zc_X1 3 (by decide) q3_6 rfl rfl dX1_shift_31 ?_
  refine z_iconst S dX1_shift_34 ?_
  refine z_icmp_ne S 53 dX1_shift_35 (by decide) (by omega) (by omega) (fun c_35 => ?_) (fun c_35 => ?_)
  · skip
    refine z_iload_n S dX1_shift_53 hl 0 rfl rfl ?_
    refine z_aload_n S dX1_shift_54 hl 1 rfl rfl ?_
    refine z_get S hG hP zc_X1 1 (by decide) q3_4 rfl rfl dX1_shift_55 ?_
    refine z_icmp_ge S 65 dX1_shift_58 (by decide) (by omega) (by omega) (fun c_58 => ?_) (fun c_58 => ?_)
    · skip
      refine z_aload_n S dX1_shift_65 hl 1 rfl rfl ?_
      refine z_get S hG hP zc_X1 4 (by decide) q3_7 rfl rfl dX1_shift_66 ?_
      refine z_iload_n S dX1_shift_69 hl 0 rfl rfl ?_
      refine z_isub S dX1_shift_70 ?_
      exact ret _ _ _ dX1_shift_71 (by unfold shiftR; rw [if_neg (by omega), if_neg (by omega)])
    · skip
      refine z_iload_n S dX1_shift_61 hl 0 rfl rfl ?_
      refine z_goto S 71 dX1_shift_62 (by decide) ?_
      exact ret _ _ _ dX1_shift_71 (by unfold shiftR; rw [if_neg (by omega), if_pos (by omega)])
  · skip
    refine z_iload_n S dX1_shift_38 hl 0 rfl rfl ?_
    refine z_if_ne S 46 dX1_shift_39 (by decide) (by omega) (fun c_39 => ?_) (fun c_39 => ?_)
    · skip
      refine z_aload_n S dX1_shift_46 hl 1 rfl rfl ?_
      refine z_get S hG hP zc_X1 1 (by decide) q3_4 rfl rfl dX1_shift_47 ?_
      refine z_iload_n S dX1_shift_50 hl 0 rfl rfl ?_
      refine z_isub S dX1_shift_51 ?_
      exact ret _ _ _ dX1_shift_52 (by unfold shiftR; rw [if_pos (by omega), if_neg (by omega)])
    · skip
      refine z_iconst S dX1_shift_42 ?_
      refine z_goto S 52 dX1_shift_43 (by decide) ?_
      exact ret _ _ _ dX1_shift_52 (by unfold shiftR; rw [if_pos (by omega), if_pos (by omega)])
theorem dX1_source_0 : decode cX1_source 0 = .ok (.iload_n 1, 1) := by decide +kernel
theorem dX1_source_1 : decode cX1_source 1 = .ok (.aload_n 0, 1) := by decide +kernel
theorem dX1_source_2 : decode cX1_source 2 = .ok (.getfield 9, 3) := by decide +kernel
theorem dX1_source_5 : decode cX1_source 5 = .ok (.isub, 1) := by decide +kernel
theorem dX1_source_6 : decode cX1_source 6 = .ok (.iload_n 2, 1) := by decide +kernel
theorem dX1_source_7 : decode cX1_source 7 = .ok (.isub, 1) := by decide +kernel
theorem dX1_source_8 : decode cX1_source 8 = .ok (.istore_n 3, 1) := by decide +kernel
theorem dX1_source_9 : decode cX1_source 9 = .ok (.iload_n 3, 1) := by decide +kernel
theorem dX1_source_10 : decode cX1_source 10 = .ok (.ifCond .ge 17, 3) := by decide +kernel
theorem dX1_source_13 : decode cX1_source 13 = .ok (.aload_n 0, 1) := by decide +kernel
theorem dX1_source_14 : decode cX1_source 14 = .ok (.getfield 9, 3) := by decide +kernel
theorem dX1_source_17 : decode cX1_source 17 = .ok (.iload_n 3, 1) := by decide +kernel
theorem dX1_source_18 : decode cX1_source 18 = .ok (.iadd, 1) := by decide +kernel
theorem dX1_source_19 : decode cX1_source 19 = .ok (.aload_n 0, 1) := by decide +kernel
theorem dX1_source_20 : decode cX1_source 20 = .ok (.getfield 15, 3) := by decide +kernel
theorem dX1_source_23 : decode cX1_source 23 = .ok (.iadd, 1) := by decide +kernel
theorem dX1_source_24 : decode cX1_source 24 = .ok (.goto 9, 3) := by decide +kernel
theorem dX1_source_27 : decode cX1_source 27 = .ok (.aload_n 0, 1) := by decide +kernel
theorem dX1_source_28 : decode cX1_source 28 = .ok (.getfield 9, 3) := by decide +kernel
theorem dX1_source_31 : decode cX1_source 31 = .ok (.iload_n 3, 1) := by decide +kernel
theorem dX1_source_32 : decode cX1_source 32 = .ok (.iadd, 1) := by decide +kernel
theorem dX1_source_33 : decode cX1_source 33 = .ok (.ireturn, 1) := by decide +kernel
theorem q1_124 : (Jvm.Cond.code ({ cls := "Cyclepaint$Range", name := "source", desc := "(II)I" } : Jvm.MethodName) prog_3_method_6_code (4 : Nat) (Option.some Jvm.ClassFile.FieldType.int)) ∈ lw_g := zg_of (zin1 (List.mem_of_getElem? (i := 124) rfl)) rfl
theorem q1_122 : (Jvm.Cond.instanceMethod ({ cls := "Cyclepaint$Range", name := "source", desc := "(II)I" } : Jvm.MethodName)) ∈ lw_g := zg_of (zin1 (List.mem_of_getElem? (i := 122) rfl)) rfl
theorem q1_123 : (Jvm.Cond.selects "Cyclepaint$Range" ({ cls := "Cyclepaint$Range", name := "source", desc := "(II)I" } : Jvm.MethodName) ({ cls := "Cyclepaint$Range", name := "source", desc := "(II)I" } : Jvm.MethodName)) ∈ lw_g := zg_of (zin1 (List.mem_of_getElem? (i := 123) rfl)) rfl
theorem ok_X1_source : zOV yX1_source cX1_source 4 ((Option.some Jvm.ClassFile.FieldType.int)) 2 := ⟨⟨q1_124, q1_14, by decide, by decide, by decide +kernel⟩, q1_122, q1_123⟩
set_option maxHeartbeats 4000000 in
set_option maxRecDepth 100000 in
theorem c_X1_source (l : Launch) (G : zG) (q : Nat) (f len sp k : Int) (e sh : Int) (hr : (0 ≤ f ∧ f ≤ 16 ∧ 0 ≤ len ∧ len ≤ 16) ∧ (0 ≤ e ∧ e ≤ 16) ∧ 0 ≤ sh ∧ sh ≤ 16) : Met l yX1_source (wq yX1_source cX1_source 4 ((Option.some Jvm.ClassFile.FieldType.int))) (rmR 0 0) (va_Pc [.ref (q), .int (zI (e)), .int (zI (sh))] (zK G (hRng G q f len sp k))) (zQ (some (.int ((zI (srcR f len sh e)))))) 0 0 zF := by
  refine z_enterI (by decide +kernel) (Nat.le_of_ble_eq_true rfl) ?_
  intro p env s m below meth cod Q S hG hP ret ls hl
  have hl : lv_has ls 4 [(0, .ref (q)), (1, .int (zI (e))), (2, .int (zI (sh)))] := hl
  refine z_iload_n S dX1_source_0 hl 1 rfl rfl ?_
  refine z_aload_n S dX1_source_1 hl 0 rfl rfl ?_
  refine z_get S hG hP zc_X1 0 (by decide) q3_3 rfl rfl dX1_source_2 ?_
  refine z_isub S dX1_source_5 ?_
  refine z_iload_n S dX1_source_6 hl 2 rfl rfl ?_
  refine z_isub S dX1_source_7 ?_
  refine z_istore_n (lv' := [(3, .int (zI (((e) - (f)) - (sh)))), (0, .ref (q)), (1, .int (zI (e))), (2, .int (zI (sh)))]) S dX1_source_8 hl rfl (by decide) rfl (fun ls hl => ?_)
  refine z_iload_n S dX1_source_9 hl 0 rfl rfl ?_
  refine z_if_ge S 27 dX1_source_10 (by decide) (by omega) (fun c_10 => ?_) (fun c_10 => ?_)
  · skip
    refine z_aload_n S dX1_source_27 hl 1 rfl rfl ?_
    refine z_get S hG hP zc_X1 0 (by decide) q3_3 rfl rfl dX1_source_28 ?_
    refine z_iload_n S dX1_source_31 hl 0 rfl rfl ?_
    refine z_iadd S dX1_source_32 ?_
    exact ret _ _ _ dX1_source_33 (by unfold srcR; rw [if_neg (by omega)])
  · skip
    refine z_aload_n S dX1_source_13 hl 1 rfl rfl ?_
    refine z_get S hG hP zc_X1 0 (by decide) q3_3 rfl rfl dX1_source_14 ?_
    refine z_iload_n S dX1_source_17 hl 0 rfl rfl ?_
    refine z_iadd S dX1_source_18 ?_
    refine z_aload_n S dX1_source_19 hl 1 rfl rfl ?_
    refine z_get S hG hP zc_X1 1 (by decide) q3_4 rfl rfl dX1_source_20 ?_
    refine z_iadd S dX1_source_23 ?_
    refine z_goto S 33 dX1_source_24 (by decide) ?_
    exact ret _ _ _ dX1_source_33 (by unfold srcR; rw [if_pos (by omega)])
theorem dX0_ranges_0 : decode cX0_ranges 0 = .ok (.aload_n 0, 1) := by decide +kernel
theorem dX0_ranges_1 : decode cX0_ranges 1 = .ok (.getfield 24, 3) := by decide +kernel
theorem dX0_ranges_4 : decode cX0_ranges 4 = .ok (.ireturn, 1) := by decide +kernel
theorem q1_49 : (Jvm.Cond.fieldLink "Cyclepaint$Palette" (24 : Nat) "Cyclepaint$Palette" "count" "I") ∈ lw_g := zg_of (zin1 (List.mem_of_getElem? (i := 49) rfl)) rfl
theorem q1_226 : (Jvm.Cond.code ({ cls := "Cyclepaint$Palette", name := "ranges", desc := "()I" } : Jvm.MethodName) prog_2_method_2_code (1 : Nat) (Option.some Jvm.ClassFile.FieldType.int)) ∈ lw_g := zg_of (zin1 (List.mem_of_getElem? (i := 226) rfl)) rfl
theorem q1_2 : (Jvm.Cond.initialized "Cyclepaint$Palette") ∈ lw_g := zg_of (zin1 (List.mem_of_getElem? (i := 2) rfl)) rfl
theorem q1_224 : (Jvm.Cond.instanceMethod ({ cls := "Cyclepaint$Palette", name := "ranges", desc := "()I" } : Jvm.MethodName)) ∈ lw_g := zg_of (zin1 (List.mem_of_getElem? (i := 224) rfl)) rfl
theorem q1_225 : (Jvm.Cond.selects "Cyclepaint$Palette" ({ cls := "Cyclepaint$Palette", name := "ranges", desc := "()I" } : Jvm.MethodName) ({ cls := "Cyclepaint$Palette", name := "ranges", desc := "()I" } : Jvm.MethodName)) ∈ lw_g := zg_of (zin1 (List.mem_of_getElem? (i := 225) rfl)) rfl
theorem ok_X0_ranges : zOV yX0_ranges cX0_ranges 1 ((Option.some Jvm.ClassFile.FieldType.int)) 0 := ⟨⟨q1_226, q1_2, by decide, by decide, by decide +kernel⟩, q1_224, q1_225⟩
set_option maxHeartbeats 4000000 in
set_option maxRecDepth 100000 in
theorem c_X0_ranges (l : Launch) (G : zG) (σ : St) (a : Nat → Nat) : Met l yX0_ranges (wq yX0_ranges cX0_ranges 1 ((Option.some Jvm.ClassFile.FieldType.int))) (rmR 0 0) (va_Pc [.ref (a 1)] (zK G (hPal G σ a))) (zQ (some (.int ((zI (σ.rn)))))) 0 0 zF := by
  refine z_enterI (by decide +kernel) (Nat.le_of_ble_eq_true rfl) ?_
  intro p env s m below meth cod Q S hG hP ret ls hl
  have hl : lv_has ls 1 [(0, .ref (a 1))] := hl
  refine z_aload_n S dX0_ranges_0 hl 0 rfl rfl ?_
  refine z_get S hG hP.1 zc_X0 3 (by decide) q1_49 rfl rfl dX0_ranges_1 ?_
  exact ret _ _ _ dX0_ranges_4 (rfl)
theorem dX0_rangeAt_0 : decode cX0_rangeAt 0 = .ok (.iload_n 1, 1) := by decide +kernel
theorem dX0_rangeAt_1 : decode cX0_rangeAt 1 = .ok (.ifCond .lt 21, 3) := by decide +kernel
theorem dX0_rangeAt_4 : decode cX0_rangeAt 4 = .ok (.iload_n 1, 1) := by decide +kernel
theorem dX0_rangeAt_5 : decode cX0_rangeAt 5 = .ok (.aload_n 0, 1) := by decide +kernel
theorem dX0_rangeAt_6 : decode cX0_rangeAt 6 = .ok (.getfield 20, 3) := by decide +kernel
theorem dX0_rangeAt_9 : decode cX0_rangeAt 9 = .ok (.arraylength, 1) := by decide +kernel
theorem dX0_rangeAt_10 : decode cX0_rangeAt 10 = .ok (.if_icmp .ge 12, 3) := by decide +kernel
theorem dX0_rangeAt_13 : decode cX0_rangeAt 13 = .ok (.aload_n 0, 1) := by decide +kernel
theorem dX0_rangeAt_14 : decode cX0_rangeAt 14 = .ok (.getfield 20, 3) := by decide +kernel
theorem dX0_rangeAt_17 : decode cX0_rangeAt 17 = .ok (.iload_n 1, 1) := by decide +kernel
theorem dX0_rangeAt_18 : decode cX0_rangeAt 18 = .ok (.aaload, 1) := by decide +kernel
theorem dX0_rangeAt_19 : decode cX0_rangeAt 19 = .ok (.goto 4, 3) := by decide +kernel
theorem dX0_rangeAt_22 : decode cX0_rangeAt 22 = .ok (.aconst_null, 1) := by decide +kernel
theorem dX0_rangeAt_23 : decode cX0_rangeAt 23 = .ok (.areturn, 1) := by decide +kernel
theorem q1_48 : (Jvm.Cond.fieldLink "Cyclepaint$Palette" (20 : Nat) "Cyclepaint$Palette" "ranges" "[LCyclepaint$Range;") ∈ lw_g := zg_of (zin1 (List.mem_of_getElem? (i := 48) rfl)) rfl
theorem q1_108 : (Jvm.Cond.code ({ cls := "Cyclepaint$Palette", name := "rangeAt", desc := "(I)LCyclepaint$Range;" } : Jvm.MethodName) prog_2_method_3_code (2 : Nat) (Option.some (Jvm.ClassFile.FieldType.object "Cyclepaint$Range"))) ∈ lw_g := zg_of (zin1 (List.mem_of_getElem? (i := 108) rfl)) rfl
theorem q1_106 : (Jvm.Cond.instanceMethod ({ cls := "Cyclepaint$Palette", name := "rangeAt", desc := "(I)LCyclepaint$Range;" } : Jvm.MethodName)) ∈ lw_g := zg_of (zin1 (List.mem_of_getElem? (i := 106) rfl)) rfl
theorem q1_107 : (Jvm.Cond.selects "Cyclepaint$Palette" ({ cls := "Cyclepaint$Palette", name := "rangeAt", desc := "(I)LCyclepaint$Range;" } : Jvm.MethodName) ({ cls := "Cyclepaint$Palette", name := "rangeAt", desc := "(I)LCyclepaint$Range;" } : Jvm.MethodName)) ∈ lw_g := zg_of (zin1 (List.mem_of_getElem? (i := 107) rfl)) rfl
theorem ok_X0_rangeAt : zOV yX0_rangeAt cX0_rangeAt 2 ((Option.some (Jvm.ClassFile.FieldType.object "Cyclepaint$Range"))) 1 := ⟨⟨q1_108, q1_2, by decide, by decide, by decide +kernel⟩, q1_106, q1_107⟩
set_option maxHeartbeats 4000000 in
set_option maxRecDepth 100000 in
theorem c_X0_rangeAt1 (l : Launch) (G : zG) (σ : St) (a : Nat → Nat) (k : Int) (hr : (0 ≤ k ∧ k < σ.rn) ∧ σ.rn ≤ 4) : Met l yX0_rangeAt (wq yX0_rangeAt cX0_rangeAt 2 ((Option.some (Jvm.ClassFile.FieldType.object "Cyclepaint$Range")))) (rmR 0 0) (va_Pc [.ref (a 1), .int (zI (k))] (zK G (hPal G σ a))) (zQ (some (.ref (a (8 + Int.toNat (k)))))) 0 0 zF := by
  refine z_enterA (by decide +kernel) (Nat.le_of_ble_eq_true rfl) ?_
  intro p env s m below meth cod Q S hG hP ret ls hl
  have hl : lv_has ls 2 [(0, .ref (a 1)), (1, .int (zI (k)))] := hl
  refine z_iload_n S dX0_rangeAt_0 hl 1 rfl rfl ?_
  refine z_if_lt_F S 22 dX0_rangeAt_1 (by decide) (by omega) (by omega) ?_
  refine z_iload_n S dX0_rangeAt_4 hl 1 rfl rfl ?_
  refine z_aload_n S dX0_rangeAt_5 hl 0 rfl rfl ?_
  refine z_get S hG hP.1 zc_X0 2 (by decide) q1_48 rfl rfl dX0_rangeAt_6 ?_
  refine z_alenR S hG hP.2.2.2.1 dX0_rangeAt_9 ?_
  refine z_icmp_ge_F S 22 dX0_rangeAt_10 (by decide) (by omega) (by omega) (by omega) ?_
  refine z_aload_n S dX0_rangeAt_13 hl 0 rfl rfl ?_
  refine z_get S hG hP.1 zc_X0 2 (by decide) q1_48 rfl rfl dX0_rangeAt_14 ?_
  refine z_iload_n S dX0_rangeAt_17 hl 1 rfl rfl ?_
  refine z_aaldR S hG hP.2.2.2.1 (by omega) (by decide) dX0_rangeAt_18 ?_
  rw [show rgA σ a (k) = some (a (8 + Int.toNat (k))) from if_pos (by omega)]
  refine z_goto S 23 dX0_rangeAt_19 (by decide) ?_
  exact ret _ _ dX0_rangeAt_23 (Or.inr ⟨_, rfl⟩)
set_option maxHeartbeats 4000000 in
set_option maxRecDepth 100000 in
theorem c_X0_rangeAt0 (l : Launch) (G : zG) (σ : St) (a : Nat → Nat) (k : Int) (hr : (k < 0 ∨ σ.rn ≤ k) ∧ rg k) : Met l yX0_rangeAt (wq yX0_rangeAt cX0_rangeAt 2 ((Option.some (Jvm.ClassFile.FieldType.object "Cyclepaint$Range")))) (rmR 0 0) (va_Pc [.ref (a 1), .int (zI (k))] (zK G (hPal G σ a))) (zQ (some (.null))) 0 0 zF := by
  refine z_enterA (by decide +kernel) (Nat.le_of_ble_eq_true rfl) ?_
  intro p env s m below meth cod Q S hG hP ret ls hl
  have hl : lv_has ls 2 [(0, .ref (a 1)), (1, .int (zI (k)))] := hl
  refine z_iload_n S dX0_rangeAt_0 hl 1 rfl rfl ?_
  refine z_if_lt S 22 dX0_rangeAt_1 (by decide) (by omega) (fun c_1 => ?_) (fun c_1 => ?_)
  · skip
    refine lv_null S.1 S.2.1 dX0_rangeAt_22 ?_
    exact ret _ _ dX0_rangeAt_23 (Or.inl rfl)
  · skip
    refine z_iload_n S dX0_rangeAt_4 hl 1 rfl rfl ?_
    refine z_aload_n S dX0_rangeAt_5 hl 0 rfl rfl ?_
    refine z_get S hG hP.1 zc_X0 2 (by decide) q1_48 rfl rfl dX0_rangeAt_6 ?_
    refine z_alenR S hG hP.2.2.2.1 dX0_rangeAt_9 ?_
    refine z_icmp_ge S 22 dX0_rangeAt_10 (by decide) (by omega) (by omega) (fun c_10 => ?_) (fun c_10 => ?_)
    · skip
      refine lv_null S.1 S.2.1 dX0_rangeAt_22 ?_
      exact ret _ _ dX0_rangeAt_23 (Or.inl rfl)
    · skip
      refine z_aload_n S dX0_rangeAt_13 hl 0 rfl rfl ?_
      refine z_get S hG hP.1 zc_X0 2 (by decide) q1_48 rfl rfl dX0_rangeAt_14 ?_
      refine z_iload_n S dX0_rangeAt_17 hl 1 rfl rfl ?_
      refine z_aaldR S hG hP.2.2.2.1 (by omega) (by decide) dX0_rangeAt_18 ?_
      rw [show rgA σ a (k) = none from if_neg (by omega)]
      refine z_goto S 23 dX0_rangeAt_19 (by decide) ?_
      exact ret _ _ dX0_rangeAt_23 (Or.inl rfl)
theorem dX0_rangeNumber_0 : decode cX0_rangeNumber 0 = .ok (.iload_n 1, 1) := by decide +kernel
theorem dX0_rangeNumber_1 : decode cX0_rangeNumber 1 = .ok (.ifCond .lt 21, 3) := by decide +kernel
theorem dX0_rangeNumber_4 : decode cX0_rangeNumber 4 = .ok (.iload_n 1, 1) := by decide +kernel
theorem dX0_rangeNumber_5 : decode cX0_rangeNumber 5 = .ok (.aload_n 0, 1) := by decide +kernel
theorem dX0_rangeNumber_6 : decode cX0_rangeNumber 6 = .ok (.getfield 15, 3) := by decide +kernel
theorem dX0_rangeNumber_9 : decode cX0_rangeNumber 9 = .ok (.arraylength, 1) := by decide +kernel
theorem dX0_rangeNumber_10 : decode cX0_rangeNumber 10 = .ok (.if_icmp .ge 12, 3) := by decide +kernel
theorem dX0_rangeNumber_13 : decode cX0_rangeNumber 13 = .ok (.aload_n 0, 1) := by decide +kernel
theorem dX0_rangeNumber_14 : decode cX0_rangeNumber 14 = .ok (.getfield 15, 3) := by decide +kernel
theorem dX0_rangeNumber_17 : decode cX0_rangeNumber 17 = .ok (.iload_n 1, 1) := by decide +kernel
theorem dX0_rangeNumber_18 : decode cX0_rangeNumber 18 = .ok (.iaload, 1) := by decide +kernel
theorem dX0_rangeNumber_19 : decode cX0_rangeNumber 19 = .ok (.goto 4, 3) := by decide +kernel
theorem dX0_rangeNumber_22 : decode cX0_rangeNumber 22 = .ok (.iconst (-1), 1) := by decide +kernel
theorem dX0_rangeNumber_23 : decode cX0_rangeNumber 23 = .ok (.ireturn, 1) := by decide +kernel
theorem q1_47 : (Jvm.Cond.fieldLink "Cyclepaint$Palette" (15 : Nat) "Cyclepaint$Palette" "rangeOf" "[I") ∈ lw_g := zg_of (zin1 (List.mem_of_getElem? (i := 47) rfl)) rfl
theorem q1_104 : (Jvm.Cond.code ({ cls := "Cyclepaint$Palette", name := "rangeNumber", desc := "(I)I" } : Jvm.MethodName) prog_2_method_4_code (2 : Nat) (Option.some Jvm.ClassFile.FieldType.int)) ∈ lw_g := zg_of (zin1 (List.mem_of_getElem? (i := 104) rfl)) rfl
theorem q1_102 : (Jvm.Cond.instanceMethod ({ cls := "Cyclepaint$Palette", name := "rangeNumber", desc := "(I)I" } : Jvm.MethodName)) ∈ lw_g := zg_of (zin1 (List.mem_of_getElem? (i := 102) rfl)) rfl
theorem q1_103 : (Jvm.Cond.selects "Cyclepaint$Palette" ({ cls := "Cyclepaint$Palette", name := "rangeNumber", desc := "(I)I" } : Jvm.MethodName) ({ cls := "Cyclepaint$Palette", name := "rangeNumber", desc := "(I)I" } : Jvm.MethodName)) ∈ lw_g := zg_of (zin1 (List.mem_of_getElem? (i := 103) rfl)) rfl
theorem ok_X0_rangeNumber : zOV yX0_rangeNumber cX0_rangeNumber 2 ((Option.some Jvm.ClassFile.FieldType.int)) 1 := ⟨⟨q1_104, q1_2, by decide, by decide, by decide +kernel⟩, q1_102, q1_103⟩
set_option maxHeartbeats 4000000 in
set_option maxRecDepth 100000 in
theorem c_X0_rangeNumber (l : Launch) (G : zG) (σ : St) (a : Nat → Nat) (e : Int) (he : 0 ≤ e ∧ e < 16) : Met l yX0_rangeNumber (wq yX0_rangeNumber cX0_rangeNumber 2 ((Option.some Jvm.ClassFile.FieldType.int))) (rmR 0 0) (va_Pc [.ref (a 1), .int (zI (e))] (zK G (hPal G σ a))) (zQ (some (.int ((zI (rgOf σ e)))))) 0 0 zF := by
  refine z_enterI (by decide +kernel) (Nat.le_of_ble_eq_true rfl) ?_
  intro p env s m below meth cod Q S hG hP ret ls hl
  have hl : lv_has ls 2 [(0, .ref (a 1)), (1, .int (zI (e)))] := hl
  refine z_iload_n S dX0_rangeNumber_0 hl 1 rfl rfl ?_
  refine z_if_lt_F S 22 dX0_rangeNumber_1 (by decide) (by omega) (by omega) ?_
  refine z_iload_n S dX0_rangeNumber_4 hl 1 rfl rfl ?_
  refine z_aload_n S dX0_rangeNumber_5 hl 0 rfl rfl ?_
  refine z_get S hG hP.1 zc_X0 1 (by decide) q1_47 rfl rfl dX0_rangeNumber_6 ?_
  refine z_alenI S hG hP.2.2.1 dX0_rangeNumber_9 ?_
  refine z_icmp_ge_F S 22 dX0_rangeNumber_10 (by decide) (by omega) (by omega) (by omega) ?_
  refine z_aload_n S dX0_rangeNumber_13 hl 0 rfl rfl ?_
  refine z_get S hG hP.1 zc_X0 1 (by decide) q1_47 rfl rfl dX0_rangeNumber_14 ?_
  refine z_iload_n S dX0_rangeNumber_17 hl 1 rfl rfl ?_
  refine z_ialdB S hG hP.2.2.1 (by omega) (by decide) dX0_rangeNumber_18 ?_
  refine z_goto S 23 dX0_rangeNumber_19 (by decide) ?_
  exact ret _ _ _ dX0_rangeNumber_23 (rfl)
theorem dX0_baseOf_0 : decode cX0_baseOf 0 = .ok (.iload_n 1, 1) := by decide +kernel
theorem dX0_baseOf_1 : decode cX0_baseOf 1 = .ok (.ifCond .lt 21, 3) := by decide +kernel
theorem dX0_baseOf_4 : decode cX0_baseOf 4 = .ok (.iload_n 1, 1) := by decide +kernel
theorem dX0_baseOf_5 : decode cX0_baseOf 5 = .ok (.aload_n 0, 1) := by decide +kernel
theorem dX0_baseOf_6 : decode cX0_baseOf 6 = .ok (.getfield 9, 3) := by decide +kernel
theorem dX0_baseOf_9 : decode cX0_baseOf 9 = .ok (.arraylength, 1) := by decide +kernel
theorem dX0_baseOf_10 : decode cX0_baseOf 10 = .ok (.if_icmp .ge 12, 3) := by decide +kernel
theorem dX0_baseOf_13 : decode cX0_baseOf 13 = .ok (.aload_n 0, 1) := by decide +kernel
theorem dX0_baseOf_14 : decode cX0_baseOf 14 = .ok (.getfield 9, 3) := by decide +kernel
theorem dX0_baseOf_17 : decode cX0_baseOf 17 = .ok (.iload_n 1, 1) := by decide +kernel
theorem dX0_baseOf_18 : decode cX0_baseOf 18 = .ok (.iaload, 1) := by decide +kernel
theorem dX0_baseOf_19 : decode cX0_baseOf 19 = .ok (.goto 4, 3) := by decide +kernel
theorem dX0_baseOf_22 : decode cX0_baseOf 22 = .ok (.iconst 0, 1) := by decide +kernel
theorem dX0_baseOf_23 : decode cX0_baseOf 23 = .ok (.ireturn, 1) := by decide +kernel
theorem q1_46 : (Jvm.Cond.fieldLink "Cyclepaint$Palette" (9 : Nat) "Cyclepaint$Palette" "base" "[I") ∈ lw_g := zg_of (zin1 (List.mem_of_getElem? (i := 46) rfl)) rfl
theorem q1_128 : (Jvm.Cond.code ({ cls := "Cyclepaint$Palette", name := "baseOf", desc := "(I)I" } : Jvm.MethodName) prog_2_method_5_code (2 : Nat) (Option.some Jvm.ClassFile.FieldType.int)) ∈ lw_g := zg_of (zin1 (List.mem_of_getElem? (i := 128) rfl)) rfl
theorem q1_126 : (Jvm.Cond.instanceMethod ({ cls := "Cyclepaint$Palette", name := "baseOf", desc := "(I)I" } : Jvm.MethodName)) ∈ lw_g := zg_of (zin1 (List.mem_of_getElem? (i := 126) rfl)) rfl
theorem q1_127 : (Jvm.Cond.selects "Cyclepaint$Palette" ({ cls := "Cyclepaint$Palette", name := "baseOf", desc := "(I)I" } : Jvm.MethodName) ({ cls := "Cyclepaint$Palette", name := "baseOf", desc := "(I)I" } : Jvm.MethodName)) ∈ lw_g := zg_of (zin1 (List.mem_of_getElem? (i := 127) rfl)) rfl
theorem ok_X0_baseOf : zOV yX0_baseOf cX0_baseOf 2 ((Option.some Jvm.ClassFile.FieldType.int)) 1 := ⟨⟨q1_128, q1_2, by decide, by decide, by decide +kernel⟩, q1_126, q1_127⟩
set_option maxHeartbeats 4000000 in
set_option maxRecDepth 100000 in
theorem c_X0_baseOf (l : Launch) (G : zG) (σ : St) (a : Nat → Nat) (e : Int) (he : 0 ≤ e ∧ e < 16) : Met l yX0_baseOf (wq yX0_baseOf cX0_baseOf 2 ((Option.some Jvm.ClassFile.FieldType.int))) (rmR 0 0) (va_Pc [.ref (a 1), .int (zI (e))] (zK G (hPal G σ a))) (zQ (some (.int ((σ.B e))))) 0 0 zF := by
  refine z_enterI (by decide +kernel) (Nat.le_of_ble_eq_true rfl) ?_
  intro p env s m below meth cod Q S hG hP ret ls hl
  have hl : lv_has ls 2 [(0, .ref (a 1)), (1, .int (zI (e)))] := hl
  refine z_iload_n S dX0_baseOf_0 hl 1 rfl rfl ?_
  refine z_if_lt_F S 22 dX0_baseOf_1 (by decide) (by omega) (by omega) ?_
  refine z_iload_n S dX0_baseOf_4 hl 1 rfl rfl ?_
  refine z_aload_n S dX0_baseOf_5 hl 0 rfl rfl ?_
  refine z_get S hG hP.1 zc_X0 0 (by decide) q1_46 rfl rfl dX0_baseOf_6 ?_
  refine z_alenI S hG hP.2.1 dX0_baseOf_9 ?_
  refine z_icmp_ge_F S 22 dX0_baseOf_10 (by decide) (by omega) (by omega) (by omega) ?_
  refine z_aload_n S dX0_baseOf_13 hl 0 rfl rfl ?_
  refine z_get S hG hP.1 zc_X0 0 (by decide) q1_46 rfl rfl dX0_baseOf_14 ?_
  refine z_iload_n S dX0_baseOf_17 hl 1 rfl rfl ?_
  refine z_iald S hG hP.2.1 (by omega) (by decide) dX0_baseOf_18 ?_
  refine z_goto S 23 dX0_baseOf_19 (by decide) ?_
  exact ret _ _ _ dX0_baseOf_23 (rfl)
theorem dX0_shows_0 : decode cX0_shows 0 = .ok (.aload_n 0, 1) := by decide +kernel
theorem dX0_shows_1 : decode cX0_shows 1 = .ok (.aload_n 0, 1) := by decide +kernel
theorem dX0_shows_2 : decode cX0_shows 2 = .ok (.iload_n 1, 1) := by decide +kernel
theorem dX0_shows_3 : decode cX0_shows 3 = .ok (.invokevirtual 39, 3) := by decide +kernel
theorem dX0_shows_6 : decode cX0_shows 6 = .ok (.invokevirtual 31, 3) := by decide +kernel
theorem dX0_shows_9 : decode cX0_shows 9 = .ok (.astore_n 3, 1) := by decide +kernel
theorem dX0_shows_10 : decode cX0_shows 10 = .ok (.aload_n 0, 1) := by decide +kernel
theorem dX0_shows_11 : decode cX0_shows 11 = .ok (.aload_n 3, 1) := by decide +kernel
theorem dX0_shows_12 : decode cX0_shows 12 = .ok (.ifnonnull 7, 3) := by decide +kernel
theorem dX0_shows_15 : decode cX0_shows 15 = .ok (.iload_n 1, 1) := by decide +kernel
theorem dX0_shows_16 : decode cX0_shows 16 = .ok (.goto 13, 3) := by decide +kernel
theorem dX0_shows_19 : decode cX0_shows 19 = .ok (.aload_n 3, 1) := by decide +kernel
theorem dX0_shows_20 : decode cX0_shows 20 = .ok (.iload_n 1, 1) := by decide +kernel
theorem dX0_shows_21 : decode cX0_shows 21 = .ok (.aload_n 3, 1) := by decide +kernel
theorem dX0_shows_22 : decode cX0_shows 22 = .ok (.iload_n 2, 1) := by decide +kernel
theorem dX0_shows_23 : decode cX0_shows 23 = .ok (.invokevirtual 43, 3) := by decide +kernel
theorem dX0_shows_26 : decode cX0_shows 26 = .ok (.invokevirtual 46, 3) := by decide +kernel
theorem dX0_shows_29 : decode cX0_shows 29 = .ok (.invokevirtual 50, 3) := by decide +kernel
theorem dX0_shows_32 : decode cX0_shows 32 = .ok (.ireturn, 1) := by decide +kernel
theorem q1_101 : (Jvm.Cond.methodLink "Cyclepaint$Palette" (39 : Nat) ({ cls := "Cyclepaint$Palette", name := "rangeNumber", desc := "(I)I" } : Jvm.MethodName)) ∈ lw_g := zg_of (zin1 (List.mem_of_getElem? (i := 101) rfl)) rfl
theorem q1_105 : (Jvm.Cond.methodLink "Cyclepaint$Palette" (31 : Nat) ({ cls := "Cyclepaint$Palette", name := "rangeAt", desc := "(I)LCyclepaint$Range;" } : Jvm.MethodName)) ∈ lw_g := zg_of (zin1 (List.mem_of_getElem? (i := 105) rfl)) rfl
theorem q1_125 : (Jvm.Cond.methodLink "Cyclepaint$Palette" (50 : Nat) ({ cls := "Cyclepaint$Palette", name := "baseOf", desc := "(I)I" } : Jvm.MethodName)) ∈ lw_g := zg_of (zin1 (List.mem_of_getElem? (i := 125) rfl)) rfl
theorem q1_117 : (Jvm.Cond.methodLink "Cyclepaint$Palette" (43 : Nat) ({ cls := "Cyclepaint$Range", name := "shift", desc := "(I)I" } : Jvm.MethodName)) ∈ lw_g := zg_of (zin1 (List.mem_of_getElem? (i := 117) rfl)) rfl
theorem q1_121 : (Jvm.Cond.methodLink "Cyclepaint$Palette" (46 : Nat) ({ cls := "Cyclepaint$Range", name := "source", desc := "(II)I" } : Jvm.MethodName)) ∈ lw_g := zg_of (zin1 (List.mem_of_getElem? (i := 121) rfl)) rfl
theorem q1_116 : (Jvm.Cond.code ({ cls := "Cyclepaint$Palette", name := "shows", desc := "(II)I" } : Jvm.MethodName) prog_2_method_11_code (4 : Nat) (Option.some Jvm.ClassFile.FieldType.int)) ∈ lw_g := zg_of (zin1 (List.mem_of_getElem? (i := 116) rfl)) rfl
theorem q1_114 : (Jvm.Cond.instanceMethod ({ cls := "Cyclepaint$Palette", name := "shows", desc := "(II)I" } : Jvm.MethodName)) ∈ lw_g := zg_of (zin1 (List.mem_of_getElem? (i := 114) rfl)) rfl
theorem q1_115 : (Jvm.Cond.selects "Cyclepaint$Palette" ({ cls := "Cyclepaint$Palette", name := "shows", desc := "(II)I" } : Jvm.MethodName) ({ cls := "Cyclepaint$Palette", name := "shows", desc := "(II)I" } : Jvm.MethodName)) ∈ lw_g := zg_of (zin1 (List.mem_of_getElem? (i := 115) rfl)) rfl
theorem ok_X0_shows : zOV yX0_shows cX0_shows 4 ((Option.some Jvm.ClassFile.FieldType.int)) 2 := ⟨⟨q1_116, q1_2, by decide, by decide, by decide +kernel⟩, q1_114, q1_115⟩
set_option maxHeartbeats 4000000 in
set_option maxRecDepth 100000 in
theorem c_X0_shows (l : Launch) (G : zG) (σ : St) (a : Nat → Nat) (e w : Int) (he : 0 ≤ e ∧ e < 16) (hw : 0 ≤ w ∧ w < 2147483648) : Met l yX0_shows (wq yX0_shows cX0_shows 4 ((Option.some Jvm.ClassFile.FieldType.int))) (rmR 1 23) (va_Pc [.ref (a 1), .int (zI (e)), .int (zI (w))] (zK G (hPal G σ a))) (zQ (some (.int ((shw σ e w))))) 0 0 zF := by
  refine z_enterI (by decide +kernel) (Nat.le_of_ble_eq_true rfl) ?_
  intro p env s m below meth cod Q S hG hP ret ls hl
  have hl : lv_has ls 4 [(0, .ref (a 1)), (1, .int (zI (e))), (2, .int (zI (w)))] := hl
  by_cases hc : rgOf σ e = -1
  · skip
    have hrn := hP.2.2.2.2.2.1
    refine z_aload_n S dX0_shows_0 hl 0 rfl rfl ?_
    refine z_aload_n S dX0_shows_1 hl 0 rfl rfl ?_
    refine z_iload_n S dX0_shows_2 hl 1 rfl rfl ?_
    refine z_callVs S hG (c_X0_rangeNumber l G σ a (e) (by omega)) ok_X0_rangeNumber hP.1 zc_X0 rfl q1_101 (hP) ⟨rfl, rfl, by decide, by decide⟩ ⟨Nat.zero_le _, Nat.zero_le _⟩ rfl (Nat.le_of_ble_eq_true rfl) hl.1 rfl dX0_shows_3 ?_
    refine z_callVs S hG (c_X0_rangeAt0 l G σ a (rgOf σ (e)) (by omega)) ok_X0_rangeAt hP.1 zc_X0 rfl q1_105 (hP) ⟨rfl, rfl, by decide, by decide⟩ ⟨Nat.zero_le _, Nat.zero_le _⟩ rfl (Nat.le_of_ble_eq_true rfl) hl.1 rfl dX0_shows_6 ?_
    refine z_astore_nN (lv' := [(3, .null), (0, .ref (a 1)), (1, .int (zI (e))), (2, .int (zI (w)))]) S dX0_shows_9 hl rfl (by decide) rfl (fun ls hl => ?_)
    refine z_aload_n S dX0_shows_10 hl 1 rfl rfl ?_
    refine z_aload_nN S dX0_shows_11 hl 0 rfl rfl ?_
    refine z_ifnonnull_n S 19 dX0_shows_12 (by decide) ?_
    refine z_iload_n S dX0_shows_15 hl 2 rfl rfl ?_
    refine z_goto S 29 dX0_shows_16 (by decide) ?_
    refine z_callVs S hG (c_X0_baseOf l G σ a (e) (by omega)) ok_X0_baseOf hP.1 zc_X0 rfl q1_125 (hP) ⟨rfl, rfl, by decide, by decide⟩ ⟨Nat.zero_le _, Nat.zero_le _⟩ rfl (Nat.le_of_ble_eq_true rfl) hl.1 rfl dX0_shows_29 ?_
    exact ret _ _ _ dX0_shows_32 (by unfold shw src; first | rw [if_pos hc] | rw [if_neg hc])
  · skip
    have hin := rgOf_in hc
    have hok := hP.2.2.2.2.2.2 (rgOf σ e) hin.1 hin.2.2.1
    have hrn := hP.2.2.2.2.2.1
    have hsh := shiftR_b (w := w) hok.2.2 ⟨hok.1.2.1, by omega⟩ hok.2.1.1 hw.1
    have hsr := srcR_b (f := σ.F (rgOf σ e)) (len := σ.L (rgOf σ e)) (e := e) ⟨hin.2.2.2.1, hin.2.2.2.2⟩ hsh
    refine z_aload_n S dX0_shows_0 hl 0 rfl rfl ?_
    refine z_aload_n S dX0_shows_1 hl 0 rfl rfl ?_
    refine z_iload_n S dX0_shows_2 hl 1 rfl rfl ?_
    refine z_callVs S hG (c_X0_rangeNumber l G σ a (e) (by omega)) ok_X0_rangeNumber hP.1 zc_X0 rfl q1_101 (hP) ⟨rfl, rfl, by decide, by decide⟩ ⟨Nat.zero_le _, Nat.zero_le _⟩ rfl (Nat.le_of_ble_eq_true rfl) hl.1 rfl dX0_shows_3 ?_
    refine z_callVs S hG (c_X0_rangeAt1 l G σ a (rgOf σ (e)) (by omega)) ok_X0_rangeAt hP.1 zc_X0 rfl q1_105 (hP) ⟨rfl, rfl, by decide, by decide⟩ ⟨Nat.zero_le _, Nat.zero_le _⟩ rfl (Nat.le_of_ble_eq_true rfl) hl.1 rfl dX0_shows_6 ?_
    refine z_astore_n (lv' := [(3, .ref (a (8 + Int.toNat (rgOf σ e)))), (0, .ref (a 1)), (1, .int (zI (e))), (2, .int (zI (w)))]) S dX0_shows_9 hl rfl (by decide) rfl (fun ls hl => ?_)
    refine z_aload_n S dX0_shows_10 hl 1 rfl rfl ?_
    refine z_aload_n S dX0_shows_11 hl 0 rfl rfl ?_
    refine z_ifnonnull_r S 19 dX0_shows_12 (by decide) ?_
    refine z_aload_n S dX0_shows_19 hl 0 rfl rfl ?_
    refine z_iload_n S dX0_shows_20 hl 2 rfl rfl ?_
    refine z_aload_n S dX0_shows_21 hl 0 rfl rfl ?_
    refine z_iload_n S dX0_shows_22 hl 3 rfl rfl ?_
    refine z_callVs S hG (c_X1_shift l G (a (8 + Int.toNat (rgOf σ e))) (σ.F (rgOf σ e)) (σ.L (rgOf σ e)) (σ.S (rgOf σ e)) (σ.K (rgOf σ e)) (w) (by omega)) ok_X1_shift (hP.2.2.2.2.1 (rgOf σ e) (by omega) (by omega)) zc_X1 rfl q1_117 (hP.2.2.2.2.1 (rgOf σ e) (by omega) (by omega)) ⟨rfl, rfl, by decide, by decide⟩ ⟨Nat.zero_le _, Nat.zero_le _⟩ rfl (Nat.le_of_ble_eq_true rfl) hl.1 rfl dX0_shows_23 ?_
    refine z_callVs S hG (c_X1_source l G (a (8 + Int.toNat (rgOf σ e))) (σ.F (rgOf σ e)) (σ.L (rgOf σ e)) (σ.S (rgOf σ e)) (σ.K (rgOf σ e)) (e) (shiftR (σ.K (rgOf σ e)) (σ.L (rgOf σ e)) (σ.S (rgOf σ e)) (w)) (by omega)) ok_X1_source (hP.2.2.2.2.1 (rgOf σ e) (by omega) (by omega)) zc_X1 rfl q1_121 (hP.2.2.2.2.1 (rgOf σ e) (by omega) (by omega)) ⟨rfl, rfl, by decide, by decide⟩ ⟨Nat.zero_le _, Nat.zero_le _⟩ rfl (Nat.le_of_ble_eq_true rfl) hl.1 rfl dX0_shows_26 ?_
    refine z_callVs S hG (c_X0_baseOf l G σ a (srcR (σ.F (rgOf σ e)) (σ.L (rgOf σ e)) (shiftR (σ.K (rgOf σ e)) (σ.L (rgOf σ e)) (σ.S (rgOf σ e)) (w)) (e)) (by omega)) ok_X0_baseOf hP.1 zc_X0 rfl q1_125 (hP) ⟨rfl, rfl, by decide, by decide⟩ ⟨Nat.zero_le _, Nat.zero_le _⟩ rfl (Nat.le_of_ble_eq_true rfl) hl.1 rfl dX0_shows_29 ?_
    exact ret _ _ _ dX0_shows_32 (by unfold shw src; first | rw [if_pos hc] | rw [if_neg hc])
theorem dX0_roundOf_0 : decode cX0_roundOf 0 = .ok (.aload_n 0, 1) := by decide +kernel
theorem dX0_roundOf_1 : decode cX0_roundOf 1 = .ok (.aload_n 0, 1) := by decide +kernel
theorem dX0_roundOf_2 : decode cX0_roundOf 2 = .ok (.iload_n 1, 1) := by decide +kernel
theorem dX0_roundOf_3 : decode cX0_roundOf 3 = .ok (.invokevirtual 39, 3) := by decide +kernel
theorem dX0_roundOf_6 : decode cX0_roundOf 6 = .ok (.invokevirtual 31, 3) := by decide +kernel
theorem dX0_roundOf_9 : decode cX0_roundOf 9 = .ok (.astore_n 2, 1) := by decide +kernel
theorem dX0_roundOf_10 : decode cX0_roundOf 10 = .ok (.aload_n 2, 1) := by decide +kernel
theorem dX0_roundOf_11 : decode cX0_roundOf 11 = .ok (.ifnonnull 7, 3) := by decide +kernel
theorem dX0_roundOf_14 : decode cX0_roundOf 14 = .ok (.iconst 1, 1) := by decide +kernel
theorem dX0_roundOf_15 : decode cX0_roundOf 15 = .ok (.goto 7, 3) := by decide +kernel
theorem dX0_roundOf_18 : decode cX0_roundOf 18 = .ok (.aload_n 2, 1) := by decide +kernel
theorem dX0_roundOf_19 : decode cX0_roundOf 19 = .ok (.invokevirtual 63, 3) := by decide +kernel
theorem dX0_roundOf_22 : decode cX0_roundOf 22 = .ok (.ireturn, 1) := by decide +kernel
theorem q1_109 : (Jvm.Cond.methodLink "Cyclepaint$Palette" (63 : Nat) ({ cls := "Cyclepaint$Range", name := "round", desc := "()I" } : Jvm.MethodName)) ∈ lw_g := zg_of (zin1 (List.mem_of_getElem? (i := 109) rfl)) rfl
theorem q1_100 : (Jvm.Cond.code ({ cls := "Cyclepaint$Palette", name := "roundOf", desc := "(I)I" } : Jvm.MethodName) prog_2_method_17_code (3 : Nat) (Option.some Jvm.ClassFile.FieldType.int)) ∈ lw_g := zg_of (zin1 (List.mem_of_getElem? (i := 100) rfl)) rfl
theorem q1_99 : (Jvm.Cond.instanceMethod ({ cls := "Cyclepaint$Palette", name := "roundOf", desc := "(I)I" } : Jvm.MethodName)) ∈ lw_g := zg_of (zin1 (List.mem_of_getElem? (i := 99) rfl)) rfl
theorem qs_0 : Cond.selects "Cyclepaint$Palette" (⟨"Cyclepaint$Palette", "roundOf", "(I)I"⟩ : MethodName) (⟨"Cyclepaint$Palette", "roundOf", "(I)I"⟩ : MethodName) ∈ lw_g := zg_of (zinS (List.mem_of_getElem? (i := 0) rfl)) rfl
theorem ok_X0_roundOf : zOV yX0_roundOf cX0_roundOf 3 ((Option.some Jvm.ClassFile.FieldType.int)) 1 := ⟨⟨q1_100, q1_2, by decide, by decide, by decide +kernel⟩, q1_99, qs_0⟩
set_option maxHeartbeats 4000000 in
set_option maxRecDepth 100000 in
theorem c_X0_roundOf (l : Launch) (G : zG) (σ : St) (a : Nat → Nat) (e : Int) (he : 0 ≤ e ∧ e < 16) : Met l yX0_roundOf (wq yX0_roundOf cX0_roundOf 3 ((Option.some Jvm.ClassFile.FieldType.int))) (rmR 1 21) (va_Pc [.ref (a 1), .int (zI (e))] (zK G (hPal G σ a))) (zQ (some (.int ((zI (rndE σ e)))))) 0 0 zF := by
  refine z_enterI (by decide +kernel) (Nat.le_of_ble_eq_true rfl) ?_
  intro p env s m below meth cod Q S hG hP ret ls hl
  have hl : lv_has ls 3 [(0, .ref (a 1)), (1, .int (zI (e)))] := hl
  by_cases hc : rgOf σ e = -1
  · skip
    have hrn := hP.2.2.2.2.2.1
    refine z_aload_n S dX0_roundOf_0 hl 0 rfl rfl ?_
    refine z_aload_n S dX0_roundOf_1 hl 0 rfl rfl ?_
    refine z_iload_n S dX0_roundOf_2 hl 1 rfl rfl ?_
    refine z_callVs S hG (c_X0_rangeNumber l G σ a (e) (by omega)) ok_X0_rangeNumber hP.1 zc_X0 rfl q1_101 (hP) ⟨rfl, rfl, by decide, by decide⟩ ⟨Nat.zero_le _, Nat.zero_le _⟩ rfl (Nat.le_of_ble_eq_true rfl) hl.1 rfl dX0_roundOf_3 ?_
    refine z_callVs S hG (c_X0_rangeAt0 l G σ a (rgOf σ (e)) (by omega)) ok_X0_rangeAt hP.1 zc_X0 rfl q1_105 (hP) ⟨rfl, rfl, by decide, by decide⟩ ⟨Nat.zero_le _, Nat.zero_le _⟩ rfl (Nat.le_of_ble_eq_true rfl) hl.1 rfl dX0_roundOf_6 ?_
    refine z_astore_nN (lv' := [(2, .null), (0, .ref (a 1)), (1, .int (zI (e)))]) S dX0_roundOf_9 hl rfl (by decide) rfl (fun ls hl => ?_)
    refine z_aload_nN S dX0_roundOf_10 hl 0 rfl rfl ?_
    refine z_ifnonnull_n S 18 dX0_roundOf_11 (by decide) ?_
    refine z_iconst S dX0_roundOf_14 ?_
    refine z_goto S 22 dX0_roundOf_15 (by decide) ?_
    exact ret _ _ _ dX0_roundOf_22 (by unfold rndE; first | rw [if_pos hc] | (rw [if_neg hc]; rfl))
  · skip
    have hin := rgOf_in hc
    have hok := hP.2.2.2.2.2.2 (rgOf σ e) hin.1 hin.2.2.1
    have hrn := hP.2.2.2.2.2.1
    refine z_aload_n S dX0_roundOf_0 hl 0 rfl rfl ?_
    refine z_aload_n S dX0_roundOf_1 hl 0 rfl rfl ?_
    refine z_iload_n S dX0_roundOf_2 hl 1 rfl rfl ?_
    refine z_callVs S hG (c_X0_rangeNumber l G σ a (e) (by omega)) ok_X0_rangeNumber hP.1 zc_X0 rfl q1_101 (hP) ⟨rfl, rfl, by decide, by decide⟩ ⟨Nat.zero_le _, Nat.zero_le _⟩ rfl (Nat.le_of_ble_eq_true rfl) hl.1 rfl dX0_roundOf_3 ?_
    refine z_callVs S hG (c_X0_rangeAt1 l G σ a (rgOf σ (e)) (by omega)) ok_X0_rangeAt hP.1 zc_X0 rfl q1_105 (hP) ⟨rfl, rfl, by decide, by decide⟩ ⟨Nat.zero_le _, Nat.zero_le _⟩ rfl (Nat.le_of_ble_eq_true rfl) hl.1 rfl dX0_roundOf_6 ?_
    refine z_astore_n (lv' := [(2, .ref (a (8 + Int.toNat (rgOf σ e)))), (0, .ref (a 1)), (1, .int (zI (e)))]) S dX0_roundOf_9 hl rfl (by decide) rfl (fun ls hl => ?_)
    refine z_aload_n S dX0_roundOf_10 hl 0 rfl rfl ?_
    refine z_ifnonnull_r S 18 dX0_roundOf_11 (by decide) ?_
    refine z_aload_n S dX0_roundOf_18 hl 0 rfl rfl ?_
    refine z_callVs S hG (c_X1_round l G (a (8 + Int.toNat (rgOf σ e))) (σ.F (rgOf σ e)) (σ.L (rgOf σ e)) (σ.S (rgOf σ e)) (σ.K (rgOf σ e)) ) ok_X1_round (hP.2.2.2.2.1 (rgOf σ e) (by omega) (by omega)) zc_X1 rfl q1_109 (hP.2.2.2.2.1 (rgOf σ e) (by omega) (by omega)) ⟨rfl, rfl, by decide, by decide⟩ ⟨Nat.zero_le _, Nat.zero_le _⟩ rfl (Nat.le_of_ble_eq_true rfl) hl.1 rfl dX0_roundOf_19 ?_
    exact ret _ _ _ dX0_roundOf_22 (by unfold rndE; first | rw [if_pos hc] | (rw [if_neg hc]; rfl))
theorem dX0_changes_0 : decode cX0_changes 0 = .ok (.iconst 0, 1) := by decide +kernel
theorem dX0_changes_1 : decode cX0_changes 1 = .ok (.istore 4, 2) := by decide +kernel
theorem dX0_changes_3 : decode cX0_changes 3 = .ok (.aload_n 0, 1) := by decide +kernel
theorem dX0_changes_4 : decode cX0_changes 4 = .ok (.iload_n 1, 1) := by decide +kernel
theorem dX0_changes_5 : decode cX0_changes 5 = .ok (.iload_n 2, 1) := by decide +kernel
theorem dX0_changes_6 : decode cX0_changes 6 = .ok (.invokevirtual 53, 3) := by decide +kernel
theorem dX0_changes_9 : decode cX0_changes 9 = .ok (.istore 5, 2) := by decide +kernel
theorem dX0_changes_11 : decode cX0_changes 11 = .ok (.iconst 1, 1) := by decide +kernel
theorem dX0_changes_12 : decode cX0_changes 12 = .ok (.istore 6, 2) := by decide +kernel
theorem dX0_changes_14 : decode cX0_changes 14 = .ok (.iload 6, 2) := by decide +kernel
theorem dX0_changes_16 : decode cX0_changes 16 = .ok (.iload_n 3, 1) := by decide +kernel
theorem dX0_changes_17 : decode cX0_changes 17 = .ok (.if_icmp .gt 34, 3) := by decide +kernel
theorem dX0_changes_20 : decode cX0_changes 20 = .ok (.aload_n 0, 1) := by decide +kernel
theorem dX0_changes_21 : decode cX0_changes 21 = .ok (.iload_n 1, 1) := by decide +kernel
theorem dX0_changes_22 : decode cX0_changes 22 = .ok (.iload_n 2, 1) := by decide +kernel
theorem dX0_changes_23 : decode cX0_changes 23 = .ok (.iload 6, 2) := by decide +kernel
theorem dX0_changes_25 : decode cX0_changes 25 = .ok (.iadd, 1) := by decide +kernel
theorem dX0_changes_26 : decode cX0_changes 26 = .ok (.invokevirtual 53, 3) := by decide +kernel
theorem dX0_changes_29 : decode cX0_changes 29 = .ok (.istore 7, 2) := by decide +kernel
theorem dX0_changes_31 : decode cX0_changes 31 = .ok (.iload 7, 2) := by decide +kernel
theorem dX0_changes_33 : decode cX0_changes 33 = .ok (.iload 5, 2) := by decide +kernel
theorem dX0_changes_35 : decode cX0_changes 35 = .ok (.if_icmp .eq 6, 3) := by decide +kernel
theorem dX0_changes_38 : decode cX0_changes 38 = .ok (.iinc 4 1, 3) := by decide +kernel
theorem dX0_changes_41 : decode cX0_changes 41 = .ok (.iload 7, 2) := by decide +kernel
theorem dX0_changes_43 : decode cX0_changes 43 = .ok (.istore 5, 2) := by decide +kernel
theorem dX0_changes_45 : decode cX0_changes 45 = .ok (.iinc 6 1, 3) := by decide +kernel
theorem dX0_changes_48 : decode cX0_changes 48 = .ok (.goto (-34), 3) := by decide +kernel
theorem dX0_changes_51 : decode cX0_changes 51 = .ok (.iload 4, 2) := by decide +kernel
theorem dX0_changes_53 : decode cX0_changes 53 = .ok (.ireturn, 1) := by decide +kernel
theorem q1_113 : (Jvm.Cond.methodLink "Cyclepaint$Palette" (53 : Nat) ({ cls := "Cyclepaint$Palette", name := "shows", desc := "(II)I" } : Jvm.MethodName)) ∈ lw_g := zg_of (zin1 (List.mem_of_getElem? (i := 113) rfl)) rfl
theorem q2_5 : (Jvm.Cond.code ({ cls := "Cyclepaint$Palette", name := "changes", desc := "(III)I" } : Jvm.MethodName) prog_2_method_12_code (8 : Nat) (Option.some Jvm.ClassFile.FieldType.int)) ∈ lw_g := zg_of (zin2 (List.mem_of_getElem? (i := 5) rfl)) rfl
theorem q2_3 : (Jvm.Cond.instanceMethod ({ cls := "Cyclepaint$Palette", name := "changes", desc := "(III)I" } : Jvm.MethodName)) ∈ lw_g := zg_of (zin2 (List.mem_of_getElem? (i := 3) rfl)) rfl
theorem q2_4 : (Jvm.Cond.selects "Cyclepaint$Palette" ({ cls := "Cyclepaint$Palette", name := "changes", desc := "(III)I" } : Jvm.MethodName) ({ cls := "Cyclepaint$Palette", name := "changes", desc := "(III)I" } : Jvm.MethodName)) ∈ lw_g := zg_of (zin2 (List.mem_of_getElem? (i := 4) rfl)) rfl
theorem ok_X0_changes : zOV yX0_changes cX0_changes 8 ((Option.some Jvm.ClassFile.FieldType.int)) 3 := ⟨⟨q2_5, q1_2, by decide, by decide, by decide +kernel⟩, q2_3, q2_4⟩
set_option maxHeartbeats 4000000 in
set_option maxRecDepth 100000 in
theorem c_X0_changes (l : Launch) (G : zG) (σ : St) (a : Nat → Nat) (e f n : Int) (he : 0 ≤ e ∧ e < 16) (hf : 0 ≤ f ∧ f ≤ 1000000) (hn : 1 ≤ n ∧ n ≤ 200) : Met l yX0_changes (wq yX0_changes cX0_changes 8 ((Option.some Jvm.ClassFile.FieldType.int))) (rmR 2 46) (va_Pc [.ref (a 1), .int (zI (e)), .int (zI (f)), .int (zI (n))] (zK G (hPal G σ a))) (zQ (some (.int ((zI (chg σ e f n)))))) 0 0 zF := by
  refine z_enterI (by decide +kernel) (Nat.le_of_ble_eq_true rfl) ?_
  intro p env s m below meth cod Q S hG hP ret ls hl
  have hl : lv_has ls 8 [(0, .ref (a 1)), (1, .int (zI (e))), (2, .int (zI (f))), (3, .int (zI (n)))] := hl
  refine z_iconst S dX0_changes_0 ?_
  refine z_istore (lv' := [(4, .int (zI (0))), (0, .ref (a 1)), (1, .int (zI (e))), (2, .int (zI (f))), (3, .int (zI (n)))]) S dX0_changes_1 hl (by decide) rfl (fun ls hl => ?_)
  refine z_aload_n S dX0_changes_3 hl 1 rfl rfl ?_
  refine z_iload_n S dX0_changes_4 hl 2 rfl rfl ?_
  refine z_iload_n S dX0_changes_5 hl 3 rfl rfl ?_
  refine z_callVs S hG (c_X0_shows l G σ a (e) (f) (by omega) (by omega)) ok_X0_shows hP.1 zc_X0 rfl q1_113 (hP) ⟨rfl, rfl, by decide, by decide⟩ ⟨Nat.zero_le _, Nat.zero_le _⟩ rfl (Nat.le_of_ble_eq_true rfl) hl.1 rfl dX0_changes_6 ?_
  refine z_istore (lv' := [(5, .int (shw σ (e) (f))), (4, .int (zI (0))), (0, .ref (a 1)), (1, .int (zI (e))), (2, .int (zI (f))), (3, .int (zI (n)))]) S dX0_changes_9 hl (by decide) rfl (fun ls hl => ?_)
  refine z_iconst S dX0_changes_11 ?_
  refine z_istore (lv' := [(6, .int (zI (1))), (5, .int (shw σ (e) (f))), (4, .int (zI (0))), (0, .ref (a 1)), (1, .int (zI (e))), (2, .int (zI (f))), (3, .int (zI (n)))]) S dX0_changes_12 hl (by decide) rfl (fun ls hl => ?_)
  have loop_14 : ∀ (nn : Nat) (k : Int) (ch : Int) (b : Int32), (1 ≤ k ∧ k ≤ n + 1) → (ch = chg σ e f (k - 1)) → (b = shw σ e (f + (k - 1))) → ((n + 1 - k).toNat) < nn → ∀ ls, lv_has ls 8 [(6, .int (zI (k))), (5, .int (b)), (4, .int (zI (ch))), (0, .ref (a 1)), (1, .int (zI (e))), (2, .int (zI (f))), (3, .int (zI (n)))] → W p l env (rmR 2 46) s m ([.ref (a 1), .int (zI (e)), .int (zI (f)), .int (zI (n))] : List Value).toArray below meth cod s.heap [] 0 0 Q (F0 m 14 ls []) := by
    intro nn
    induction nn with
    | zero => intro _ _ _ _ _ _ h; exact absurd h (Nat.not_lt_zero _)
    | succ nn ih_14 =>
      intro k ch b hk hch hb hm_14 ls hl
      have hcb := cntI_b (chgB σ e f) (k := k - 1) (by omega)
      refine z_iload S dX0_changes_14 hl 0 rfl ?_
      refine z_iload_n S dX0_changes_16 hl 6 rfl rfl ?_
      refine z_icmp_gt S 51 dX0_changes_17 (by decide) (by omega) (by omega) (fun c_17 => ?_) (fun c_17 => ?_)
      · skip
        refine z_iload S dX0_changes_51 hl 2 rfl ?_
        exact ret _ _ _ dX0_changes_53 (by rw [hch, show k - 1 = n by omega])
      · skip
        refine z_aload_n S dX0_changes_20 hl 3 rfl rfl ?_
        refine z_iload_n S dX0_changes_21 hl 4 rfl rfl ?_
        refine z_iload_n S dX0_changes_22 hl 5 rfl rfl ?_
        refine z_iload S dX0_changes_23 hl 0 rfl ?_
        refine z_iadd S dX0_changes_25 ?_
        refine z_callVs S hG (c_X0_shows l G σ a (e) ((f) + (k)) (by omega) (by omega)) ok_X0_shows hP.1 zc_X0 rfl q1_113 (hP) ⟨rfl, rfl, by decide, by decide⟩ ⟨Nat.zero_le _, Nat.zero_le _⟩ rfl (Nat.le_of_ble_eq_true rfl) hl.1 rfl dX0_changes_26 ?_
        refine z_istore (lv' := [(7, .int (shw σ (e) ((f) + (k)))), (6, .int (zI (k))), (5, .int (b)), (4, .int (zI (ch))), (0, .ref (a 1)), (1, .int (zI (e))), (2, .int (zI (f))), (3, .int (zI (n)))]) S dX0_changes_29 hl (by decide) rfl (fun ls hl => ?_)
        refine z_iload S dX0_changes_31 hl 0 rfl ?_
        refine z_iload S dX0_changes_33 hl 2 rfl ?_
        refine lv_icmp_eq (tgt := 41) S.1 S.2.1 dX0_changes_35 (by decide) (fun c_35 => ?_) (fun c_35 => ?_)
        · skip
          refine z_iload S dX0_changes_41 hl 0 rfl ?_
          refine z_istore (lv' := [(5, .int (shw σ (e) ((f) + (k)))), (7, .int (shw σ (e) ((f) + (k)))), (6, .int (zI (k))), (4, .int (zI (ch))), (0, .ref (a 1)), (1, .int (zI (e))), (2, .int (zI (f))), (3, .int (zI (n)))]) S dX0_changes_43 hl (by decide) rfl (fun ls hl => ?_)
          refine z_iinc (lv' := [(6, .int (zI (k + 1))), (5, .int (shw σ (e) ((f) + (k)))), (7, .int (shw σ (e) ((f) + (k)))), (4, .int (zI (ch))), (0, .ref (a 1)), (1, .int (zI (e))), (2, .int (zI (f))), (3, .int (zI (n)))]) S dX0_changes_45 hl 2 rfl (by decide) rfl (fun ls hl => ?_)
          refine z_goto S 14 dX0_changes_48 (by decide) ?_
          exact ih_14 (k + 1) (ch) (shw σ (e) ((f) + (k))) (by omega) (by rw [show (k + 1 - 1) = (k - 1) + 1 by omega]; unfold chg; rw [cntI_f (by omega) (by unfold chgB; rw [show f + (k - 1) + 1 = f + k by omega, ← hb]; simp [c_35])]; exact hch) (by congr 1; omega) (by omega) ls (lv_sub hl [0, 1, 3, 4, 5, 6, 7] rfl)
        · skip
          refine z_iinc (lv' := [(4, .int (zI (ch + 1))), (7, .int (shw σ (e) ((f) + (k)))), (6, .int (zI (k))), (5, .int (b)), (0, .ref (a 1)), (1, .int (zI (e))), (2, .int (zI (f))), (3, .int (zI (n)))]) S dX0_changes_38 hl 3 rfl (by decide) rfl (fun ls hl => ?_)
          refine z_iload S dX0_changes_41 hl 1 rfl ?_
          refine z_istore (lv' := [(5, .int (shw σ (e) ((f) + (k)))), (4, .int (zI (ch + 1))), (7, .int (shw σ (e) ((f) + (k)))), (6, .int (zI (k))), (0, .ref (a 1)), (1, .int (zI (e))), (2, .int (zI (f))), (3, .int (zI (n)))]) S dX0_changes_43 hl (by decide) rfl (fun ls hl => ?_)
          refine z_iinc (lv' := [(6, .int (zI (k + 1))), (5, .int (shw σ (e) ((f) + (k)))), (4, .int (zI (ch + 1))), (7, .int (shw σ (e) ((f) + (k)))), (0, .ref (a 1)), (1, .int (zI (e))), (2, .int (zI (f))), (3, .int (zI (n)))]) S dX0_changes_45 hl 3 rfl (by decide) rfl (fun ls hl => ?_)
          refine z_goto S 14 dX0_changes_48 (by decide) ?_
          exact ih_14 (k + 1) (ch + 1) (shw σ (e) ((f) + (k))) (by omega) (by rw [show (k + 1 - 1) = (k - 1) + 1 by omega]; unfold chg; rw [cntI_t (by omega) (by unfold chgB; rw [show f + (k - 1) + 1 = f + k by omega, ← hb]; simp [c_35]), hch]; rfl) (by congr 1; omega) (by omega) ls (lv_sub hl [0, 1, 2, 4, 5, 6, 7] rfl)
  exact loop_14 _ (1) (0) (shw σ (e) (f)) (by omega) (rfl) (by congr 1; omega) (Nat.lt_succ_self _) ls (lv_sub hl [0, 1, 2, 3, 4, 5, 6] rfl)
theorem dX0_isStill_0 : decode cX0_isStill 0 = .ok (.aload_n 0, 1) := by decide +kernel
theorem dX0_isStill_1 : decode cX0_isStill 1 = .ok (.aload_n 0, 1) := by decide +kernel
theorem dX0_isStill_2 : decode cX0_isStill 2 = .ok (.iload_n 1, 1) := by decide +kernel
theorem dX0_isStill_3 : decode cX0_isStill 3 = .ok (.invokevirtual 39, 3) := by decide +kernel
theorem dX0_isStill_6 : decode cX0_isStill 6 = .ok (.invokevirtual 31, 3) := by decide +kernel
theorem dX0_isStill_9 : decode cX0_isStill 9 = .ok (.astore_n 2, 1) := by decide +kernel
theorem dX0_isStill_10 : decode cX0_isStill 10 = .ok (.iconst 0, 1) := by decide +kernel
theorem dX0_isStill_11 : decode cX0_isStill 11 = .ok (.istore_n 3, 1) := by decide +kernel
theorem dX0_isStill_12 : decode cX0_isStill 12 = .ok (.iload_n 3, 1) := by decide +kernel
theorem dX0_isStill_13 : decode cX0_isStill 13 = .ok (.bipush 16, 2) := by decide +kernel
theorem dX0_isStill_15 : decode cX0_isStill 15 = .ok (.if_icmp .ge 37, 3) := by decide +kernel
theorem dX0_isStill_18 : decode cX0_isStill 18 = .ok (.aload_n 2, 1) := by decide +kernel
theorem dX0_isStill_19 : decode cX0_isStill 19 = .ok (.ifnull 27, 3) := by decide +kernel
theorem dX0_isStill_22 : decode cX0_isStill 22 = .ok (.aload_n 2, 1) := by decide +kernel
theorem dX0_isStill_23 : decode cX0_isStill 23 = .ok (.iload_n 3, 1) := by decide +kernel
theorem dX0_isStill_24 : decode cX0_isStill 24 = .ok (.invokevirtual 35, 3) := by decide +kernel
theorem dX0_isStill_27 : decode cX0_isStill 27 = .ok (.ifCond .eq 19, 3) := by decide +kernel
theorem dX0_isStill_30 : decode cX0_isStill 30 = .ok (.aload_n 0, 1) := by decide +kernel
theorem dX0_isStill_31 : decode cX0_isStill 31 = .ok (.getfield 9, 3) := by decide +kernel
theorem dX0_isStill_34 : decode cX0_isStill 34 = .ok (.iload_n 3, 1) := by decide +kernel
theorem dX0_isStill_35 : decode cX0_isStill 35 = .ok (.iaload, 1) := by decide +kernel
theorem dX0_isStill_36 : decode cX0_isStill 36 = .ok (.aload_n 0, 1) := by decide +kernel
theorem dX0_isStill_37 : decode cX0_isStill 37 = .ok (.iload_n 1, 1) := by decide +kernel
theorem dX0_isStill_38 : decode cX0_isStill 38 = .ok (.invokevirtual 50, 3) := by decide +kernel
theorem dX0_isStill_41 : decode cX0_isStill 41 = .ok (.if_icmp .eq 5, 3) := by decide +kernel
theorem dX0_isStill_44 : decode cX0_isStill 44 = .ok (.iconst 0, 1) := by decide +kernel
theorem dX0_isStill_45 : decode cX0_isStill 45 = .ok (.ireturn, 1) := by decide +kernel
theorem dX0_isStill_46 : decode cX0_isStill 46 = .ok (.iinc 3 1, 3) := by decide +kernel
theorem dX0_isStill_49 : decode cX0_isStill 49 = .ok (.goto (-37), 3) := by decide +kernel
theorem dX0_isStill_52 : decode cX0_isStill 52 = .ok (.iconst 1, 1) := by decide +kernel
theorem dX0_isStill_53 : decode cX0_isStill 53 = .ok (.ireturn, 1) := by decide +kernel
theorem q1_188 : (Jvm.Cond.methodLink "Cyclepaint$Palette" (35 : Nat) ({ cls := "Cyclepaint$Range", name := "holds", desc := "(I)Z" } : Jvm.MethodName)) ∈ lw_g := zg_of (zin1 (List.mem_of_getElem? (i := 188) rfl)) rfl
theorem q1_187 : (Jvm.Cond.code ({ cls := "Cyclepaint$Palette", name := "isStill", desc := "(I)Z" } : Jvm.MethodName) prog_2_method_13_code (4 : Nat) (Option.some Jvm.ClassFile.FieldType.boolean)) ∈ lw_g := zg_of (zin1 (List.mem_of_getElem? (i := 187) rfl)) rfl
theorem q1_185 : (Jvm.Cond.instanceMethod ({ cls := "Cyclepaint$Palette", name := "isStill", desc := "(I)Z" } : Jvm.MethodName)) ∈ lw_g := zg_of (zin1 (List.mem_of_getElem? (i := 185) rfl)) rfl
theorem q1_186 : (Jvm.Cond.selects "Cyclepaint$Palette" ({ cls := "Cyclepaint$Palette", name := "isStill", desc := "(I)Z" } : Jvm.MethodName) ({ cls := "Cyclepaint$Palette", name := "isStill", desc := "(I)Z" } : Jvm.MethodName)) ∈ lw_g := zg_of (zin1 (List.mem_of_getElem? (i := 186) rfl)) rfl
theorem ok_X0_isStill : zOV yX0_isStill cX0_isStill 4 ((Option.some Jvm.ClassFile.FieldType.boolean)) 1 := ⟨⟨q1_187, q1_2, by decide, by decide, by decide +kernel⟩, q1_185, q1_186⟩
set_option maxHeartbeats 4000000 in
set_option maxRecDepth 100000 in
theorem c_X0_isStill (l : Launch) (G : zG) (σ : St) (a : Nat → Nat) (e : Int) (he : 0 ≤ e ∧ e < 16) : Met l yX0_isStill (wq yX0_isStill cX0_isStill 4 ((Option.some Jvm.ClassFile.FieldType.boolean))) (rmR 1 21) (va_Pc [.ref (a 1), .int (zI (e))] (zK G (hPal G σ a))) (zQ (some (.int (bI (stl σ e))))) 0 0 zF := by
  refine z_enterB (by decide +kernel) (Nat.le_of_ble_eq_true rfl) ?_
  intro p env s m below meth cod Q S hG hP ret ls hl
  have hl : lv_has ls 4 [(0, .ref (a 1)), (1, .int (zI (e)))] := hl
  by_cases hc : rgOf σ e = -1
  · skip
    have hrn := hP.2.2.2.2.2.1
    refine z_aload_n S dX0_isStill_0 hl 0 rfl rfl ?_
    refine z_aload_n S dX0_isStill_1 hl 0 rfl rfl ?_
    refine z_iload_n S dX0_isStill_2 hl 1 rfl rfl ?_
    refine z_callVs S hG (c_X0_rangeNumber l G σ a (e) (by omega)) ok_X0_rangeNumber hP.1 zc_X0 rfl q1_101 (hP) ⟨rfl, rfl, by decide, by decide⟩ ⟨Nat.zero_le _, Nat.zero_le _⟩ rfl (Nat.le_of_ble_eq_true rfl) hl.1 rfl dX0_isStill_3 ?_
    refine z_callVs S hG (c_X0_rangeAt0 l G σ a (rgOf σ (e)) (by omega)) ok_X0_rangeAt hP.1 zc_X0 rfl q1_105 (hP) ⟨rfl, rfl, by decide, by decide⟩ ⟨Nat.zero_le _, Nat.zero_le _⟩ rfl (Nat.le_of_ble_eq_true rfl) hl.1 rfl dX0_isStill_6 ?_
    refine z_astore_nN (lv' := [(2, .null), (0, .ref (a 1)), (1, .int (zI (e)))]) S dX0_isStill_9 hl rfl (by decide) rfl (fun ls hl => ?_)
    refine z_iconst S dX0_isStill_10 ?_
    refine z_istore_n (lv' := [(3, .int (zI (0))), (2, .null), (0, .ref (a 1)), (1, .int (zI (e)))]) S dX0_isStill_11 hl rfl (by decide) rfl (fun ls hl => ?_)
    have loop_12 : ∀ (nn : Nat) (k : Int), (0 ≤ k ∧ k ≤ 16) → (∀ t : Int, 0 ≤ t → t < k → stlB σ e t = true) → ((16 - k).toNat) < nn → ∀ ls, lv_has ls 4 [(3, .int (zI (k))), (2, .null), (0, .ref (a 1)), (1, .int (zI (e)))] → W p l env (rmR 1 21) s m ([.ref (a 1), .int (zI (e))] : List Value).toArray below meth cod s.heap [] 0 0 Q (F0 m 12 ls []) := by
      intro nn
      induction nn with
      | zero => intro _ _ _ h; exact absurd h (Nat.not_lt_zero _)
      | succ nn ih_12 =>
        intro k hk hI hm_12 ls hl
        refine z_iload_n S dX0_isStill_12 hl 0 rfl rfl ?_
        refine z_bipush S dX0_isStill_13 rfl ?_
        refine z_icmp_ge S 52 dX0_isStill_15 (by decide) (by omega) (by omega) (fun c_15 => ?_) (fun c_15 => ?_)
        · skip
          refine z_iconst S dX0_isStill_52 ?_
          exact ret _ _ _ dX0_isStill_53 (by rw [show stl σ e = true from allI_iff.mpr (fun t h0 h1 => hI t h0 (by omega))]; rfl)
        · skip
          refine z_aload_nN S dX0_isStill_18 hl 1 rfl rfl ?_
          refine z_ifnull_n S 46 dX0_isStill_19 (by decide) ?_
          refine z_iinc (lv' := [(3, .int (zI (k + 1))), (2, .null), (0, .ref (a 1)), (1, .int (zI (e)))]) S dX0_isStill_46 hl 0 rfl (by decide) rfl (fun ls hl => ?_)
          refine z_goto S 12 dX0_isStill_49 (by decide) ?_
          exact ih_12 (k + 1) (by omega) (lt_stp hI (by simp [stlB, hc])) (by omega) ls (lv_sub hl [0, 1, 2, 3] rfl)
    exact loop_12 _ (0) (by omega) (lt_st0) (Nat.lt_succ_self _) ls (lv_sub hl [0, 1, 2, 3] rfl)
  · skip
    have hin := rgOf_in hc
    have hok := hP.2.2.2.2.2.2 (rgOf σ e) hin.1 hin.2.2.1
    have hrn := hP.2.2.2.2.2.1
    refine z_aload_n S dX0_isStill_0 hl 0 rfl rfl ?_
    refine z_aload_n S dX0_isStill_1 hl 0 rfl rfl ?_
    refine z_iload_n S dX0_isStill_2 hl 1 rfl rfl ?_
    refine z_callVs S hG (c_X0_rangeNumber l G σ a (e) (by omega)) ok_X0_rangeNumber hP.1 zc_X0 rfl q1_101 (hP) ⟨rfl, rfl, by decide, by decide⟩ ⟨Nat.zero_le _, Nat.zero_le _⟩ rfl (Nat.le_of_ble_eq_true rfl) hl.1 rfl dX0_isStill_3 ?_
    refine z_callVs S hG (c_X0_rangeAt1 l G σ a (rgOf σ (e)) (by omega)) ok_X0_rangeAt hP.1 zc_X0 rfl q1_105 (hP) ⟨rfl, rfl, by decide, by decide⟩ ⟨Nat.zero_le _, Nat.zero_le _⟩ rfl (Nat.le_of_ble_eq_true rfl) hl.1 rfl dX0_isStill_6 ?_
    refine z_astore_n (lv' := [(2, .ref (a (8 + Int.toNat (rgOf σ e)))), (0, .ref (a 1)), (1, .int (zI (e)))]) S dX0_isStill_9 hl rfl (by decide) rfl (fun ls hl => ?_)
    refine z_iconst S dX0_isStill_10 ?_
    refine z_istore_n (lv' := [(3, .int (zI (0))), (2, .ref (a (8 + Int.toNat (rgOf σ e)))), (0, .ref (a 1)), (1, .int (zI (e)))]) S dX0_isStill_11 hl rfl (by decide) rfl (fun ls hl => ?_)
    have loop_12 : ∀ (nn : Nat) (k : Int), (0 ≤ k ∧ k ≤ 16) → (∀ t : Int, 0 ≤ t → t < k → stlB σ e t = true) → ((16 - k).toNat) < nn → ∀ ls, lv_has ls 4 [(3, .int (zI (k))), (2, .ref (a (8 + Int.toNat (rgOf σ e)))), (0, .ref (a 1)), (1, .int (zI (e)))] → W p l env (rmR 1 21) s m ([.ref (a 1), .int (zI (e))] : List Value).toArray below meth cod s.heap [] 0 0 Q (F0 m 12 ls []) := by
      intro nn
      induction nn with
      | zero => intro _ _ _ h; exact absurd h (Nat.not_lt_zero _)
      | succ nn ih_12 =>
        intro k hk hI hm_12 ls hl
        refine z_iload_n S dX0_isStill_12 hl 0 rfl rfl ?_
        refine z_bipush S dX0_isStill_13 rfl ?_
        refine z_icmp_ge S 52 dX0_isStill_15 (by decide) (by omega) (by omega) (fun c_15 => ?_) (fun c_15 => ?_)
        · skip
          refine z_iconst S dX0_isStill_52 ?_
          exact ret _ _ _ dX0_isStill_53 (by rw [show stl σ e = true from allI_iff.mpr (fun t h0 h1 => hI t h0 (by omega))]; rfl)
        · skip
          refine z_aload_n S dX0_isStill_18 hl 1 rfl rfl ?_
          refine z_ifnull_r S 46 dX0_isStill_19 (by decide) ?_
          refine z_aload_n S dX0_isStill_22 hl 1 rfl rfl ?_
          refine z_iload_n S dX0_isStill_23 hl 0 rfl rfl ?_
          refine z_callVs S hG (c_X1_holds l G (a (8 + Int.toNat (rgOf σ e))) (σ.F (rgOf σ e)) (σ.L (rgOf σ e)) (σ.S (rgOf σ e)) (σ.K (rgOf σ e)) (k) (by omega)) ok_X1_holds (hP.2.2.2.2.1 (rgOf σ e) (by omega) (by omega)) zc_X1 rfl q1_188 (hP.2.2.2.2.1 (rgOf σ e) (by omega) (by omega)) ⟨rfl, rfl, by decide, by decide⟩ ⟨Nat.zero_le _, Nat.zero_le _⟩ rfl (Nat.le_of_ble_eq_true rfl) hl.1 rfl dX0_isStill_24 ?_
          refine z_bif_eq S 46 dX0_isStill_27 (by decide) (fun c_27 => ?_) (fun c_27 => ?_)
          · skip
            refine z_iinc (lv' := [(3, .int (zI (k + 1))), (2, .ref (a (8 + Int.toNat (rgOf σ e)))), (0, .ref (a 1)), (1, .int (zI (e)))]) S dX0_isStill_46 hl 0 rfl (by decide) rfl (fun ls hl => ?_)
            refine z_goto S 12 dX0_isStill_49 (by decide) ?_
            exact ih_12 (k + 1) (by omega) (lt_stp hI (by unfold stlB; rw [c_27]; simp)) (by omega) ls (lv_sub hl [0, 1, 2, 3] rfl)
          · skip
            refine z_aload_n S dX0_isStill_30 hl 2 rfl rfl ?_
            refine z_get S hG hP.1 zc_X0 0 (by decide) q1_46 rfl rfl dX0_isStill_31 ?_
            refine z_iload_n S dX0_isStill_34 hl 0 rfl rfl ?_
            refine z_iald S hG hP.2.1 (by omega) (by decide) dX0_isStill_35 ?_
            refine z_aload_n S dX0_isStill_36 hl 2 rfl rfl ?_
            refine z_iload_n S dX0_isStill_37 hl 3 rfl rfl ?_
            refine z_callVs S hG (c_X0_baseOf l G σ a (e) (by omega)) ok_X0_baseOf hP.1 zc_X0 rfl q1_125 (hP) ⟨rfl, rfl, by decide, by decide⟩ ⟨Nat.zero_le _, Nat.zero_le _⟩ rfl (Nat.le_of_ble_eq_true rfl) hl.1 rfl dX0_isStill_38 ?_
            refine lv_icmp_eq (tgt := 46) S.1 S.2.1 dX0_isStill_41 (by decide) (fun c_41 => ?_) (fun c_41 => ?_)
            · skip
              refine z_iinc (lv' := [(3, .int (zI (k + 1))), (2, .ref (a (8 + Int.toNat (rgOf σ e)))), (0, .ref (a 1)), (1, .int (zI (e)))]) S dX0_isStill_46 hl 0 rfl (by decide) rfl (fun ls hl => ?_)
              refine z_goto S 12 dX0_isStill_49 (by decide) ?_
              exact ih_12 (k + 1) (by omega) (lt_stp hI (by unfold stlB; simp [c_41])) (by omega) ls (lv_sub hl [0, 1, 2, 3] rfl)
            · skip
              refine z_iconst S dX0_isStill_44 ?_
              exact ret _ _ _ dX0_isStill_45 (by rw [show stl σ e = false from allI_no hk.1 (show k < 16 by omega) (by unfold stlB; rw [c_27]; simp [hc, c_41])]; rfl)
    exact loop_12 _ (0) (by omega) (lt_st0) (Nat.lt_succ_self _) ls (lv_sub hl [0, 1, 2, 3] rfl)
theorem dX0_areTwins_0 : decode cX0_areTwins 0 = .ok (.aload_n 0, 1) := by decide +kernel
theorem dX0_areTwins_1 : decode cX0_areTwins 1 = .ok (.iload_n 1, 1) := by decide +kernel
theorem dX0_areTwins_2 : decode cX0_areTwins 2 = .ok (.invokevirtual 56, 3) := by decide +kernel
theorem dX0_areTwins_5 : decode cX0_areTwins 5 = .ok (.aload_n 0, 1) := by decide +kernel
theorem dX0_areTwins_6 : decode cX0_areTwins 6 = .ok (.iload_n 2, 1) := by decide +kernel
theorem dX0_areTwins_7 : decode cX0_areTwins 7 = .ok (.invokevirtual 56, 3) := by decide +kernel
theorem dX0_areTwins_10 : decode cX0_areTwins 10 = .ok (.iadd, 1) := by decide +kernel
theorem dX0_areTwins_11 : decode cX0_areTwins 11 = .ok (.istore_n 3, 1) := by decide +kernel
theorem dX0_areTwins_12 : decode cX0_areTwins 12 = .ok (.iconst 0, 1) := by decide +kernel
theorem dX0_areTwins_13 : decode cX0_areTwins 13 = .ok (.istore 4, 2) := by decide +kernel
theorem dX0_areTwins_15 : decode cX0_areTwins 15 = .ok (.iload 4, 2) := by decide +kernel
theorem dX0_areTwins_17 : decode cX0_areTwins 17 = .ok (.iload_n 3, 1) := by decide +kernel
theorem dX0_areTwins_18 : decode cX0_areTwins 18 = .ok (.if_icmp .ge 28, 3) := by decide +kernel
theorem dX0_areTwins_21 : decode cX0_areTwins 21 = .ok (.aload_n 0, 1) := by decide +kernel
theorem dX0_areTwins_22 : decode cX0_areTwins 22 = .ok (.iload_n 1, 1) := by decide +kernel
theorem dX0_areTwins_23 : decode cX0_areTwins 23 = .ok (.iload 4, 2) := by decide +kernel
theorem dX0_areTwins_25 : decode cX0_areTwins 25 = .ok (.invokevirtual 53, 3) := by decide +kernel
theorem dX0_areTwins_28 : decode cX0_areTwins 28 = .ok (.aload_n 0, 1) := by decide +kernel
theorem dX0_areTwins_29 : decode cX0_areTwins 29 = .ok (.iload_n 2, 1) := by decide +kernel
theorem dX0_areTwins_30 : decode cX0_areTwins 30 = .ok (.iload 4, 2) := by decide +kernel
theorem dX0_areTwins_32 : decode cX0_areTwins 32 = .ok (.invokevirtual 53, 3) := by decide +kernel
theorem dX0_areTwins_35 : decode cX0_areTwins 35 = .ok (.if_icmp .eq 5, 3) := by decide +kernel
theorem dX0_areTwins_38 : decode cX0_areTwins 38 = .ok (.iconst 0, 1) := by decide +kernel
theorem dX0_areTwins_39 : decode cX0_areTwins 39 = .ok (.ireturn, 1) := by decide +kernel
theorem dX0_areTwins_40 : decode cX0_areTwins 40 = .ok (.iinc 4 1, 3) := by decide +kernel
theorem dX0_areTwins_43 : decode cX0_areTwins 43 = .ok (.goto (-28), 3) := by decide +kernel
theorem dX0_areTwins_46 : decode cX0_areTwins 46 = .ok (.iconst 1, 1) := by decide +kernel
theorem dX0_areTwins_47 : decode cX0_areTwins 47 = .ok (.ireturn, 1) := by decide +kernel
theorem q1_97 : (Jvm.Cond.methodLink "Cyclepaint$Palette" (56 : Nat) ({ cls := "Cyclepaint$Palette", name := "roundOf", desc := "(I)I" } : Jvm.MethodName)) ∈ lw_g := zg_of (zin1 (List.mem_of_getElem? (i := 97) rfl)) rfl
theorem q1_96 : (Jvm.Cond.code ({ cls := "Cyclepaint$Palette", name := "areTwins", desc := "(II)Z" } : Jvm.MethodName) prog_2_method_14_code (5 : Nat) (Option.some Jvm.ClassFile.FieldType.boolean)) ∈ lw_g := zg_of (zin1 (List.mem_of_getElem? (i := 96) rfl)) rfl
theorem q1_94 : (Jvm.Cond.instanceMethod ({ cls := "Cyclepaint$Palette", name := "areTwins", desc := "(II)Z" } : Jvm.MethodName)) ∈ lw_g := zg_of (zin1 (List.mem_of_getElem? (i := 94) rfl)) rfl
theorem q1_95 : (Jvm.Cond.selects "Cyclepaint$Palette" ({ cls := "Cyclepaint$Palette", name := "areTwins", desc := "(II)Z" } : Jvm.MethodName) ({ cls := "Cyclepaint$Palette", name := "areTwins", desc := "(II)Z" } : Jvm.MethodName)) ∈ lw_g := zg_of (zin1 (List.mem_of_getElem? (i := 95) rfl)) rfl
theorem ok_X0_areTwins : zOV yX0_areTwins cX0_areTwins 5 ((Option.some Jvm.ClassFile.FieldType.boolean)) 2 := ⟨⟨q1_96, q1_2, by decide, by decide, by decide +kernel⟩, q1_94, q1_95⟩
set_option maxHeartbeats 4000000 in
set_option maxRecDepth 100000 in
theorem c_X0_areTwins (l : Launch) (G : zG) (σ : St) (a : Nat → Nat) (x y : Int) (hx : 0 ≤ x ∧ x < 16) (hy : 0 ≤ y ∧ y < 16) : Met l yX0_areTwins (wq yX0_areTwins cX0_areTwins 5 ((Option.some Jvm.ClassFile.FieldType.boolean))) (rmR 2 46) (va_Pc [.ref (a 1), .int (zI (x)), .int (zI (y))] (zK G (hPal G σ a))) (zQ (some (.int (bI (twnC σ x y))))) 0 0 zF := by
  refine z_enterB (by decide +kernel) (Nat.le_of_ble_eq_true rfl) ?_
  intro p env s m below meth cod Q S hG hP ret ls hl
  have hl : lv_has ls 5 [(0, .ref (a 1)), (1, .int (zI (x))), (2, .int (zI (y)))] := hl
  have hO := hP.2.2.2.2.2
  have hb1 := rndE_b hO x
  have hb2 := rndE_b hO y
  refine z_aload_n S dX0_areTwins_0 hl 0 rfl rfl ?_
  refine z_iload_n S dX0_areTwins_1 hl 1 rfl rfl ?_
  refine z_callVs S hG (c_X0_roundOf l G σ a (x) (by omega)) ok_X0_roundOf hP.1 zc_X0 rfl q1_97 (hP) ⟨rfl, rfl, by decide, by decide⟩ ⟨Nat.zero_le _, Nat.zero_le _⟩ rfl (Nat.le_of_ble_eq_true rfl) hl.1 rfl dX0_areTwins_2 ?_
  refine z_aload_n S dX0_areTwins_5 hl 0 rfl rfl ?_
  refine z_iload_n S dX0_areTwins_6 hl 2 rfl rfl ?_
  refine z_callVs S hG (c_X0_roundOf l G σ a (y) (by omega)) ok_X0_roundOf hP.1 zc_X0 rfl q1_97 (hP) ⟨rfl, rfl, by decide, by decide⟩ ⟨Nat.zero_le _, Nat.zero_le _⟩ rfl (Nat.le_of_ble_eq_true rfl) hl.1 rfl dX0_areTwins_7 ?_
  refine z_iadd S dX0_areTwins_10 ?_
  refine z_istore_n (lv' := [(3, .int (zI ((rndE σ (x)) + (rndE σ (y))))), (0, .ref (a 1)), (1, .int (zI (x))), (2, .int (zI (y)))]) S dX0_areTwins_11 hl rfl (by decide) rfl (fun ls hl => ?_)
  refine z_iconst S dX0_areTwins_12 ?_
  refine z_istore (lv' := [(4, .int (zI (0))), (3, .int (zI ((rndE σ (x)) + (rndE σ (y))))), (0, .ref (a 1)), (1, .int (zI (x))), (2, .int (zI (y)))]) S dX0_areTwins_13 hl (by decide) rfl (fun ls hl => ?_)
  have loop_15 : ∀ (nn : Nat) (k : Int), (0 ≤ k ∧ k ≤ (rndE σ x + rndE σ y)) → (∀ t : Int, 0 ≤ t → t < k → twnB σ x y t = true) → (((rndE σ x + rndE σ y) - k).toNat) < nn → ∀ ls, lv_has ls 5 [(4, .int (zI (k))), (3, .int (zI ((rndE σ (x)) + (rndE σ (y))))), (0, .ref (a 1)), (1, .int (zI (x))), (2, .int (zI (y)))] → W p l env (rmR 2 46) s m ([.ref (a 1), .int (zI (x)), .int (zI (y))] : List Value).toArray below meth cod s.heap [] 0 0 Q (F0 m 15 ls []) := by
    intro nn
    induction nn with
    | zero => intro _ _ _ h; exact absurd h (Nat.not_lt_zero _)
    | succ nn ih_15 =>
      intro k hk hI hm_15 ls hl
      refine z_iload S dX0_areTwins_15 hl 0 rfl ?_
      refine z_iload_n S dX0_areTwins_17 hl 1 rfl rfl ?_
      refine z_icmp_ge S 46 dX0_areTwins_18 (by decide) (by omega) (by omega) (fun c_18 => ?_) (fun c_18 => ?_)
      · skip
        refine z_iconst S dX0_areTwins_46 ?_
        exact ret _ _ _ dX0_areTwins_47 (by rw [show twnC σ x y = true from allI_iff.mpr (fun t h0 h1 => hI t h0 (by omega))]; rfl)
      · skip
        have c_18x : k < rndE σ x + rndE σ y := by omega
        refine z_aload_n S dX0_areTwins_21 hl 2 rfl rfl ?_
        refine z_iload_n S dX0_areTwins_22 hl 3 rfl rfl ?_
        refine z_iload S dX0_areTwins_23 hl 0 rfl ?_
        refine z_callVs S hG (c_X0_shows l G σ a (x) (k) (by omega) (by omega)) ok_X0_shows hP.1 zc_X0 rfl q1_113 (hP) ⟨rfl, rfl, by decide, by decide⟩ ⟨Nat.zero_le _, Nat.zero_le _⟩ rfl (Nat.le_of_ble_eq_true rfl) hl.1 rfl dX0_areTwins_25 ?_
        refine z_aload_n S dX0_areTwins_28 hl 2 rfl rfl ?_
        refine z_iload_n S dX0_areTwins_29 hl 4 rfl rfl ?_
        refine z_iload S dX0_areTwins_30 hl 0 rfl ?_
        refine z_callVs S hG (c_X0_shows l G σ a (y) (k) (by omega) (by omega)) ok_X0_shows hP.1 zc_X0 rfl q1_113 (hP) ⟨rfl, rfl, by decide, by decide⟩ ⟨Nat.zero_le _, Nat.zero_le _⟩ rfl (Nat.le_of_ble_eq_true rfl) hl.1 rfl dX0_areTwins_32 ?_
        refine lv_icmp_eq (tgt := 40) S.1 S.2.1 dX0_areTwins_35 (by decide) (fun c_35 => ?_) (fun c_35 => ?_)
        · skip
          refine z_iinc (lv' := [(4, .int (zI (k + 1))), (3, .int (zI ((rndE σ (x)) + (rndE σ (y))))), (0, .ref (a 1)), (1, .int (zI (x))), (2, .int (zI (y)))]) S dX0_areTwins_40 hl 0 rfl (by decide) rfl (fun ls hl => ?_)
          refine z_goto S 15 dX0_areTwins_43 (by decide) ?_
          exact ih_15 (k + 1) (by omega) (lt_stp hI (by unfold twnB; rw [c_35]; simp)) (by omega) ls (lv_sub hl [0, 1, 2, 3, 4] rfl)
        · skip
          refine z_iconst S dX0_areTwins_38 ?_
          exact ret _ _ _ dX0_areTwins_39 (by rw [show twnC σ x y = false from allI_no hk.1 c_18x (by unfold twnB; simp [c_35])]; rfl)
  exact loop_15 _ (0) (by omega) (lt_st0) (Nat.lt_succ_self _) ls (lv_sub hl [0, 1, 2, 3, 4] rfl)
theorem dX0_smallestTwin_0 : decode cX0_smallestTwin 0 = .ok (.iconst 0, 1) := by decide +kernel
theorem dX0_smallestTwin_1 : decode cX0_smallestTwin 1 = .ok (.istore_n 2, 1) := by decide +kernel
theorem dX0_smallestTwin_2 : decode cX0_smallestTwin 2 = .ok (.iload_n 2, 1) := by decide +kernel
theorem dX0_smallestTwin_3 : decode cX0_smallestTwin 3 = .ok (.iload_n 1, 1) := by decide +kernel
theorem dX0_smallestTwin_4 : decode cX0_smallestTwin 4 = .ok (.if_icmp .ge 20, 3) := by decide +kernel
theorem dX0_smallestTwin_7 : decode cX0_smallestTwin 7 = .ok (.aload_n 0, 1) := by decide +kernel
theorem dX0_smallestTwin_8 : decode cX0_smallestTwin 8 = .ok (.iload_n 2, 1) := by decide +kernel
theorem dX0_smallestTwin_9 : decode cX0_smallestTwin 9 = .ok (.iload_n 1, 1) := by decide +kernel
theorem dX0_smallestTwin_10 : decode cX0_smallestTwin 10 = .ok (.invokevirtual 59, 3) := by decide +kernel
theorem dX0_smallestTwin_13 : decode cX0_smallestTwin 13 = .ok (.ifCond .eq 5, 3) := by decide +kernel
theorem dX0_smallestTwin_16 : decode cX0_smallestTwin 16 = .ok (.iload_n 2, 1) := by decide +kernel
theorem dX0_smallestTwin_17 : decode cX0_smallestTwin 17 = .ok (.ireturn, 1) := by decide +kernel
theorem dX0_smallestTwin_18 : decode cX0_smallestTwin 18 = .ok (.iinc 2 1, 3) := by decide +kernel
theorem dX0_smallestTwin_21 : decode cX0_smallestTwin 21 = .ok (.goto (-19), 3) := by decide +kernel
theorem dX0_smallestTwin_24 : decode cX0_smallestTwin 24 = .ok (.iload_n 1, 1) := by decide +kernel
theorem dX0_smallestTwin_25 : decode cX0_smallestTwin 25 = .ok (.ireturn, 1) := by decide +kernel
theorem q1_93 : (Jvm.Cond.methodLink "Cyclepaint$Palette" (59 : Nat) ({ cls := "Cyclepaint$Palette", name := "areTwins", desc := "(II)Z" } : Jvm.MethodName)) ∈ lw_g := zg_of (zin1 (List.mem_of_getElem? (i := 93) rfl)) rfl
theorem q1_92 : (Jvm.Cond.code ({ cls := "Cyclepaint$Palette", name := "smallestTwin", desc := "(I)I" } : Jvm.MethodName) prog_2_method_15_code (3 : Nat) (Option.some Jvm.ClassFile.FieldType.int)) ∈ lw_g := zg_of (zin1 (List.mem_of_getElem? (i := 92) rfl)) rfl
theorem q1_90 : (Jvm.Cond.instanceMethod ({ cls := "Cyclepaint$Palette", name := "smallestTwin", desc := "(I)I" } : Jvm.MethodName)) ∈ lw_g := zg_of (zin1 (List.mem_of_getElem? (i := 90) rfl)) rfl
theorem q1_91 : (Jvm.Cond.selects "Cyclepaint$Palette" ({ cls := "Cyclepaint$Palette", name := "smallestTwin", desc := "(I)I" } : Jvm.MethodName) ({ cls := "Cyclepaint$Palette", name := "smallestTwin", desc := "(I)I" } : Jvm.MethodName)) ∈ lw_g := zg_of (zin1 (List.mem_of_getElem? (i := 91) rfl)) rfl
theorem ok_X0_smallestTwin : zOV yX0_smallestTwin cX0_smallestTwin 3 ((Option.some Jvm.ClassFile.FieldType.int)) 1 := ⟨⟨q1_92, q1_2, by decide, by decide, by decide +kernel⟩, q1_90, q1_91⟩
set_option maxHeartbeats 4000000 in
set_option maxRecDepth 100000 in
theorem c_X0_smallestTwin (l : Launch) (G : zG) (σ : St) (a : Nat → Nat) (e : Int) (he : 0 ≤ e ∧ e < 16) : Met l yX0_smallestTwin (wq yX0_smallestTwin cX0_smallestTwin 3 ((Option.some Jvm.ClassFile.FieldType.int))) (rmR 3 70) (va_Pc [.ref (a 1), .int (zI (e))] (zK G (hPal G σ a))) (zQ (some (.int ((zI (smlC σ e)))))) 0 0 zF := by
  refine z_enterI (by decide +kernel) (Nat.le_of_ble_eq_true rfl) ?_
  intro p env s m below meth cod Q S hG hP ret ls hl
  have hl : lv_has ls 3 [(0, .ref (a 1)), (1, .int (zI (e)))] := hl
  refine z_iconst S dX0_smallestTwin_0 ?_
  refine z_istore_n (lv' := [(2, .int (zI (0))), (0, .ref (a 1)), (1, .int (zI (e)))]) S dX0_smallestTwin_1 hl rfl (by decide) rfl (fun ls hl => ?_)
  have loop_2 : ∀ (nn : Nat) (k : Int), (0 ≤ k ∧ k ≤ e) → (∀ t : Int, 0 ≤ t → t < k → (fun o => twnC σ o e) t = false) → ((e - k).toNat) < nn → ∀ ls, lv_has ls 3 [(2, .int (zI (k))), (0, .ref (a 1)), (1, .int (zI (e)))] → W p l env (rmR 3 70) s m ([.ref (a 1), .int (zI (e))] : List Value).toArray below meth cod s.heap [] 0 0 Q (F0 m 2 ls []) := by
    intro nn
    induction nn with
    | zero => intro _ _ _ h; exact absurd h (Nat.not_lt_zero _)
    | succ nn ih_2 =>
      intro k hk hI hm_2 ls hl
      refine z_iload_n S dX0_smallestTwin_2 hl 0 rfl rfl ?_
      refine z_iload_n S dX0_smallestTwin_3 hl 2 rfl rfl ?_
      refine z_icmp_ge S 24 dX0_smallestTwin_4 (by decide) (by omega) (by omega) (fun c_4 => ?_) (fun c_4 => ?_)
      · skip
        refine z_iload_n S dX0_smallestTwin_24 hl 2 rfl rfl ?_
        exact ret _ _ _ dX0_smallestTwin_25 (by unfold smlC; rw [fstI_none (f := fun o => twnC σ o e) (fun t h0 h1 => hI t h0 (by omega)), if_pos rfl])
      · skip
        have c_4x : k < e := by omega
        refine z_aload_n S dX0_smallestTwin_7 hl 1 rfl rfl ?_
        refine z_iload_n S dX0_smallestTwin_8 hl 0 rfl rfl ?_
        refine z_iload_n S dX0_smallestTwin_9 hl 2 rfl rfl ?_
        refine z_callVs S hG (c_X0_areTwins l G σ a (k) (e) (by omega) (by omega)) ok_X0_areTwins hP.1 zc_X0 rfl q1_93 (hP) ⟨rfl, rfl, by decide, by decide⟩ ⟨Nat.zero_le _, Nat.zero_le _⟩ rfl (Nat.le_of_ble_eq_true rfl) hl.1 rfl dX0_smallestTwin_10 ?_
        refine z_bif_eq S 18 dX0_smallestTwin_13 (by decide) (fun c_13 => ?_) (fun c_13 => ?_)
        · skip
          refine z_iinc (lv' := [(2, .int (zI (k + 1))), (0, .ref (a 1)), (1, .int (zI (e)))]) S dX0_smallestTwin_18 hl 0 rfl (by decide) rfl (fun ls hl => ?_)
          refine z_goto S 2 dX0_smallestTwin_21 (by decide) ?_
          exact ih_2 (k + 1) (by omega) (lt_stp hI (c_13)) (by omega) ls (lv_sub hl [0, 1, 2] rfl)
        · skip
          refine z_iload_n S dX0_smallestTwin_16 hl 0 rfl rfl ?_
          exact ret _ _ _ dX0_smallestTwin_17 (by unfold smlC; rw [fstI_some (f := fun o => twnC σ o e) hk.1 c_4x hI c_13, if_neg (by omega)])
  exact loop_2 _ (0) (by omega) (lt_st0) (Nat.lt_succ_self _) ls (lv_sub hl [0, 1, 2] rfl)
theorem dX0_twins_0 : decode cX0_twins 0 = .ok (.iconst 0, 1) := by decide +kernel
theorem dX0_twins_1 : decode cX0_twins 1 = .ok (.istore_n 2, 1) := by decide +kernel
theorem dX0_twins_2 : decode cX0_twins 2 = .ok (.iconst 0, 1) := by decide +kernel
theorem dX0_twins_3 : decode cX0_twins 3 = .ok (.istore_n 3, 1) := by decide +kernel
theorem dX0_twins_4 : decode cX0_twins 4 = .ok (.iload_n 3, 1) := by decide +kernel
theorem dX0_twins_5 : decode cX0_twins 5 = .ok (.bipush 16, 2) := by decide +kernel
theorem dX0_twins_7 : decode cX0_twins 7 = .ok (.if_icmp .ge 24, 3) := by decide +kernel
theorem dX0_twins_10 : decode cX0_twins 10 = .ok (.aload_n 0, 1) := by decide +kernel
theorem dX0_twins_11 : decode cX0_twins 11 = .ok (.iload_n 3, 1) := by decide +kernel
theorem dX0_twins_12 : decode cX0_twins 12 = .ok (.iload_n 1, 1) := by decide +kernel
theorem dX0_twins_13 : decode cX0_twins 13 = .ok (.invokevirtual 59, 3) := by decide +kernel
theorem dX0_twins_16 : decode cX0_twins 16 = .ok (.ifCond .eq 9, 3) := by decide +kernel
theorem dX0_twins_19 : decode cX0_twins 19 = .ok (.iload_n 2, 1) := by decide +kernel
theorem dX0_twins_20 : decode cX0_twins 20 = .ok (.iconst 1, 1) := by decide +kernel
theorem dX0_twins_21 : decode cX0_twins 21 = .ok (.iload_n 3, 1) := by decide +kernel
theorem dX0_twins_22 : decode cX0_twins 22 = .ok (.ishl, 1) := by decide +kernel
theorem dX0_twins_23 : decode cX0_twins 23 = .ok (.ior, 1) := by decide +kernel
theorem dX0_twins_24 : decode cX0_twins 24 = .ok (.istore_n 2, 1) := by decide +kernel
theorem dX0_twins_25 : decode cX0_twins 25 = .ok (.iinc 3 1, 3) := by decide +kernel
theorem dX0_twins_28 : decode cX0_twins 28 = .ok (.goto (-24), 3) := by decide +kernel
theorem dX0_twins_31 : decode cX0_twins 31 = .ok (.iload_n 2, 1) := by decide +kernel
theorem dX0_twins_32 : decode cX0_twins 32 = .ok (.ireturn, 1) := by decide +kernel
theorem q2_34 : (Jvm.Cond.code ({ cls := "Cyclepaint$Palette", name := "twins", desc := "(I)I" } : Jvm.MethodName) prog_2_method_16_code (4 : Nat) (Option.some Jvm.ClassFile.FieldType.int)) ∈ lw_g := zg_of (zin2 (List.mem_of_getElem? (i := 34) rfl)) rfl
theorem q2_32 : (Jvm.Cond.instanceMethod ({ cls := "Cyclepaint$Palette", name := "twins", desc := "(I)I" } : Jvm.MethodName)) ∈ lw_g := zg_of (zin2 (List.mem_of_getElem? (i := 32) rfl)) rfl
theorem q2_33 : (Jvm.Cond.selects "Cyclepaint$Palette" ({ cls := "Cyclepaint$Palette", name := "twins", desc := "(I)I" } : Jvm.MethodName) ({ cls := "Cyclepaint$Palette", name := "twins", desc := "(I)I" } : Jvm.MethodName)) ∈ lw_g := zg_of (zin2 (List.mem_of_getElem? (i := 33) rfl)) rfl
theorem ok_X0_twins : zOV yX0_twins cX0_twins 4 ((Option.some Jvm.ClassFile.FieldType.int)) 1 := ⟨⟨q2_34, q1_2, by decide, by decide, by decide +kernel⟩, q2_32, q2_33⟩
set_option maxHeartbeats 4000000 in
set_option maxRecDepth 100000 in
theorem c_X0_twins (l : Launch) (G : zG) (σ : St) (a : Nat → Nat) (e : Int) (he : 0 ≤ e ∧ e < 16) : Met l yX0_twins (wq yX0_twins cX0_twins 4 ((Option.some Jvm.ClassFile.FieldType.int))) (rmR 3 70) (va_Pc [.ref (a 1), .int (zI (e))] (zK G (hPal G σ a))) (zQ (some (.int ((bstI (fun o => twnC σ o e) 16))))) 0 0 zF := by
  refine z_enterI (by decide +kernel) (Nat.le_of_ble_eq_true rfl) ?_
  intro p env s m below meth cod Q S hG hP ret ls hl
  have hl : lv_has ls 4 [(0, .ref (a 1)), (1, .int (zI (e)))] := hl
  refine z_iconst S dX0_twins_0 ?_
  refine z_istore_n (lv' := [(2, .int (zI (0))), (0, .ref (a 1)), (1, .int (zI (e)))]) S dX0_twins_1 hl rfl (by decide) rfl (fun ls hl => ?_)
  refine z_iconst S dX0_twins_2 ?_
  refine z_istore_n (lv' := [(3, .int (zI (0))), (2, .int (zI (0))), (0, .ref (a 1)), (1, .int (zI (e)))]) S dX0_twins_3 hl rfl (by decide) rfl (fun ls hl => ?_)
  have loop_4 : ∀ (nn : Nat) (k : Int) (b : Int32), (0 ≤ k ∧ k ≤ 16) → (b = bstI (fun o => twnC σ o e) k) → ((16 - k).toNat) < nn → ∀ ls, lv_has ls 4 [(3, .int (zI (k))), (2, .int (b)), (0, .ref (a 1)), (1, .int (zI (e)))] → W p l env (rmR 3 70) s m ([.ref (a 1), .int (zI (e))] : List Value).toArray below meth cod s.heap [] 0 0 Q (F0 m 4 ls []) := by
    intro nn
    induction nn with
    | zero => intro _ _ _ _ h; exact absurd h (Nat.not_lt_zero _)
    | succ nn ih_4 =>
      intro k b hk hb hm_4 ls hl
      refine z_iload_n S dX0_twins_4 hl 0 rfl rfl ?_
      refine z_bipush S dX0_twins_5 rfl ?_
      refine z_icmp_ge S 31 dX0_twins_7 (by decide) (by omega) (by omega) (fun c_7 => ?_) (fun c_7 => ?_)
      · skip
        refine z_iload_n S dX0_twins_31 hl 1 rfl rfl ?_
        exact ret _ _ _ dX0_twins_32 (by rw [hb, show k = 16 by omega])
      · skip
        refine z_aload_n S dX0_twins_10 hl 2 rfl rfl ?_
        refine z_iload_n S dX0_twins_11 hl 0 rfl rfl ?_
        refine z_iload_n S dX0_twins_12 hl 3 rfl rfl ?_
        refine z_callVs S hG (c_X0_areTwins l G σ a (k) (e) (by omega) (by omega)) ok_X0_areTwins hP.1 zc_X0 rfl q1_93 (hP) ⟨rfl, rfl, by decide, by decide⟩ ⟨Nat.zero_le _, Nat.zero_le _⟩ rfl (Nat.le_of_ble_eq_true rfl) hl.1 rfl dX0_twins_13 ?_
        refine z_bif_eq S 25 dX0_twins_16 (by decide) (fun c_16 => ?_) (fun c_16 => ?_)
        · skip
          refine z_iinc (lv' := [(3, .int (zI (k + 1))), (2, .int (b)), (0, .ref (a 1)), (1, .int (zI (e)))]) S dX0_twins_25 hl 0 rfl (by decide) rfl (fun ls hl => ?_)
          refine z_goto S 4 dX0_twins_28 (by decide) ?_
          exact ih_4 (k + 1) (b) (by omega) (by rw [bstI_s hk.1, if_neg (by rw [c_16]; decide)]; exact hb) (by omega) ls (lv_sub hl [0, 1, 2, 3] rfl)
        · skip
          refine z_iload_n S dX0_twins_19 hl 1 rfl rfl ?_
          refine z_iconst S dX0_twins_20 ?_
          refine z_iload_n S dX0_twins_21 hl 0 rfl rfl ?_
          refine lv_ishl S.1 S.2.1 dX0_twins_22 ?_
          refine lv_ior S.1 S.2.1 dX0_twins_23 ?_
          refine z_istore_n (lv' := [(2, .int ((b) ||| ((zI (1)) <<< ((zI (k)) &&& 31)))), (3, .int (zI (k))), (0, .ref (a 1)), (1, .int (zI (e)))]) S dX0_twins_24 hl rfl (by decide) rfl (fun ls hl => ?_)
          refine z_iinc (lv' := [(3, .int (zI (k + 1))), (2, .int ((b) ||| ((zI (1)) <<< ((zI (k)) &&& 31)))), (0, .ref (a 1)), (1, .int (zI (e)))]) S dX0_twins_25 hl 1 rfl (by decide) rfl (fun ls hl => ?_)
          refine z_goto S 4 dX0_twins_28 (by decide) ?_
          exact ih_4 (k + 1) ((b) ||| ((zI (1)) <<< ((zI (k)) &&& 31))) (by omega) (by rw [bstI_s hk.1, if_pos c_16, hb]; rfl) (by omega) ls (lv_sub hl [0, 1, 2, 3] rfl)
  exact loop_4 _ (0) ((zI (0))) (by omega) (rfl) (Nat.lt_succ_self _) ls (lv_sub hl [0, 1, 2, 3] rfl)
theorem dX0_greatestCommonDivisor_0 : decode cX0_greatestCommonDivisor 0 = .ok (.iload_n 0, 1) := by decide +kernel
theorem dX0_greatestCommonDivisor_1 : decode cX0_greatestCommonDivisor 1 = .ok (.istore_n 2, 1) := by decide +kernel
theorem dX0_greatestCommonDivisor_2 : decode cX0_greatestCommonDivisor 2 = .ok (.iload_n 1, 1) := by decide +kernel
theorem dX0_greatestCommonDivisor_3 : decode cX0_greatestCommonDivisor 3 = .ok (.istore_n 3, 1) := by decide +kernel
theorem dX0_greatestCommonDivisor_4 : decode cX0_greatestCommonDivisor 4 = .ok (.iconst 0, 1) := by decide +kernel
theorem dX0_greatestCommonDivisor_5 : decode cX0_greatestCommonDivisor 5 = .ok (.istore 4, 2) := by decide +kernel
theorem dX0_greatestCommonDivisor_7 : decode cX0_greatestCommonDivisor 7 = .ok (.iload 4, 2) := by decide +kernel
theorem dX0_greatestCommonDivisor_9 : decode cX0_greatestCommonDivisor 9 = .ok (.bipush 100, 2) := by decide +kernel
theorem dX0_greatestCommonDivisor_11 : decode cX0_greatestCommonDivisor 11 = .ok (.if_icmp .ge 23, 3) := by decide +kernel
theorem dX0_greatestCommonDivisor_14 : decode cX0_greatestCommonDivisor 14 = .ok (.iload_n 3, 1) := by decide +kernel
theorem dX0_greatestCommonDivisor_15 : decode cX0_greatestCommonDivisor 15 = .ok (.ifCond .le 19, 3) := by decide +kernel
theorem dX0_greatestCommonDivisor_18 : decode cX0_greatestCommonDivisor 18 = .ok (.iload_n 2, 1) := by decide +kernel
theorem dX0_greatestCommonDivisor_19 : decode cX0_greatestCommonDivisor 19 = .ok (.iload_n 3, 1) := by decide +kernel
theorem dX0_greatestCommonDivisor_20 : decode cX0_greatestCommonDivisor 20 = .ok (.irem, 1) := by decide +kernel
theorem dX0_greatestCommonDivisor_21 : decode cX0_greatestCommonDivisor 21 = .ok (.istore 5, 2) := by decide +kernel
theorem dX0_greatestCommonDivisor_23 : decode cX0_greatestCommonDivisor 23 = .ok (.iload_n 3, 1) := by decide +kernel
theorem dX0_greatestCommonDivisor_24 : decode cX0_greatestCommonDivisor 24 = .ok (.istore_n 2, 1) := by decide +kernel
theorem dX0_greatestCommonDivisor_25 : decode cX0_greatestCommonDivisor 25 = .ok (.iload 5, 2) := by decide +kernel
theorem dX0_greatestCommonDivisor_27 : decode cX0_greatestCommonDivisor 27 = .ok (.istore_n 3, 1) := by decide +kernel
theorem dX0_greatestCommonDivisor_28 : decode cX0_greatestCommonDivisor 28 = .ok (.iinc 4 1, 3) := by decide +kernel
theorem dX0_greatestCommonDivisor_31 : decode cX0_greatestCommonDivisor 31 = .ok (.goto (-24), 3) := by decide +kernel
theorem dX0_greatestCommonDivisor_34 : decode cX0_greatestCommonDivisor 34 = .ok (.iload_n 2, 1) := by decide +kernel
theorem dX0_greatestCommonDivisor_35 : decode cX0_greatestCommonDivisor 35 = .ok (.ireturn, 1) := by decide +kernel
theorem q1_157 : (Jvm.Cond.code ({ cls := "Cyclepaint$Palette", name := "greatestCommonDivisor", desc := "(II)I" } : Jvm.MethodName) prog_2_method_26_code (6 : Nat) (Option.some Jvm.ClassFile.FieldType.int)) ∈ lw_g := zg_of (zin1 (List.mem_of_getElem? (i := 157) rfl)) rfl
theorem q1_156 : (Jvm.Cond.static ({ cls := "Cyclepaint$Palette", name := "greatestCommonDivisor", desc := "(II)I" } : Jvm.MethodName)) ∈ lw_g := zg_of (zin1 (List.mem_of_getElem? (i := 156) rfl)) rfl
theorem ok_X0_greatestCommonDivisor : zOS yX0_greatestCommonDivisor cX0_greatestCommonDivisor 6 ((Option.some Jvm.ClassFile.FieldType.int)) 2 := ⟨⟨q1_157, q1_2, by decide, by decide, by decide +kernel⟩, q1_156⟩
set_option maxHeartbeats 4000000 in
set_option maxRecDepth 100000 in
theorem c_X0_gcd (l : Launch) (G : zG) (x y : Int) (hx : 1 ≤ x ∧ x ≤ 19683000) (hy : 1 ≤ y ∧ y ≤ 270) (hxy : x * y ≤ 4294967296) : Met l yX0_greatestCommonDivisor (wq yX0_greatestCommonDivisor cX0_greatestCommonDivisor 6 ((Option.some Jvm.ClassFile.FieldType.int))) (rmR 0 0) (va_Pc [.int (zI (x)), .int (zI (y))] (zK G (fun _ => True))) (zQ (some (.int ((zI (gI x y)))))) 0 0 zF := by
  refine z_enterI (by decide +kernel) (Nat.le_of_ble_eq_true rfl) ?_
  intro p env s m below meth cod Q S hG hP ret ls hl
  have hl : lv_has ls 6 [(0, .int (zI (x))), (1, .int (zI (y)))] := hl
  refine z_iload_n S dX0_greatestCommonDivisor_0 hl 0 rfl rfl ?_
  refine z_istore_n (lv' := [(2, .int (zI (x))), (0, .int (zI (x))), (1, .int (zI (y)))]) S dX0_greatestCommonDivisor_1 hl rfl (by decide) rfl (fun ls hl => ?_)
  refine z_iload_n S dX0_greatestCommonDivisor_2 hl 2 rfl rfl ?_
  refine z_istore_n (lv' := [(3, .int (zI (y))), (2, .int (zI (x))), (0, .int (zI (x))), (1, .int (zI (y)))]) S dX0_greatestCommonDivisor_3 hl rfl (by decide) rfl (fun ls hl => ?_)
  refine z_iconst S dX0_greatestCommonDivisor_4 ?_
  refine z_istore (lv' := [(4, .int (zI (0))), (3, .int (zI (y))), (2, .int (zI (x))), (0, .int (zI (x))), (1, .int (zI (y)))]) S dX0_greatestCommonDivisor_5 hl (by decide) rfl (fun ls hl => ?_)
  have loop_7 : ∀ (nn : Nat) (k : Int) (u : Int) (v : Int), (0 ≤ k ∧ k ≤ 100) → ((1 ≤ u ∧ u ≤ 2147483647) ∧ (0 ≤ v ∧ v ≤ 2147483647)) → (eucP x y k u v) → (gI u v = gI x y) → ((100 - k).toNat) < nn → ∀ ls, lv_has ls 6 [(4, .int (zI (k))), (3, .int (zI (v))), (2, .int (zI (u))), (0, .int (zI (x))), (1, .int (zI (y)))] → W p l env (rmR 0 0) s m ([.int (zI (x)), .int (zI (y))] : List Value).toArray below meth cod s.heap [] 0 0 Q (F0 m 7 ls []) := by
    intro nn
    induction nn with
    | zero => intro _ _ _ _ _ _ _ h; exact absurd h (Nat.not_lt_zero _)
    | succ nn ih_7 =>
      intro k u v hk hu hp hg hm_7 ls hl
      refine z_iload S dX0_greatestCommonDivisor_7 hl 0 rfl ?_
      refine z_bipush S dX0_greatestCommonDivisor_9 rfl ?_
      refine z_icmp_ge S 34 dX0_greatestCommonDivisor_11 (by decide) (by omega) (by omega) (fun c_11 => ?_) (fun c_11 => ?_)
      · skip
        refine z_iload_n S dX0_greatestCommonDivisor_34 hl 2 rfl rfl ?_
        exact ret _ _ _ dX0_greatestCommonDivisor_35 (by rw [← hg, euc_end (by omega) (by omega) (by omega) hp, gI_0 (by omega)])
      · skip
        refine z_iload_n S dX0_greatestCommonDivisor_14 hl 1 rfl rfl ?_
        refine z_if_le S 34 dX0_greatestCommonDivisor_15 (by decide) (by omega) (fun c_15 => ?_) (fun c_15 => ?_)
        · skip
          refine z_iload_n S dX0_greatestCommonDivisor_34 hl 2 rfl rfl ?_
          exact ret _ _ _ dX0_greatestCommonDivisor_35 (by rw [← hg, show v = 0 by omega, gI_0 (by omega)])
        · skip
          refine z_iload_n S dX0_greatestCommonDivisor_18 hl 2 rfl rfl ?_
          refine z_iload_n S dX0_greatestCommonDivisor_19 hl 1 rfl rfl ?_
          have hm0 := Int.emod_nonneg u (show v ≠ 0 by omega)
          have hm1 := Int.emod_lt_of_pos u (show 0 < v by omega)
          have hm2 := emod_le (b := v) (show 0 ≤ u by omega) (by omega)
          refine z_irem S dX0_greatestCommonDivisor_20 (by omega) (by omega) ?_
          refine z_istore (lv' := [(5, .int (zI ((u) % (v)))), (4, .int (zI (k))), (3, .int (zI (v))), (2, .int (zI (u))), (0, .int (zI (x))), (1, .int (zI (y)))]) S dX0_greatestCommonDivisor_21 hl (by decide) rfl (fun ls hl => ?_)
          refine z_iload_n S dX0_greatestCommonDivisor_23 hl 2 rfl rfl ?_
          refine z_istore_n (lv' := [(2, .int (zI (v))), (5, .int (zI ((u) % (v)))), (4, .int (zI (k))), (3, .int (zI (v))), (0, .int (zI (x))), (1, .int (zI (y)))]) S dX0_greatestCommonDivisor_24 hl rfl (by decide) rfl (fun ls hl => ?_)
          refine z_iload S dX0_greatestCommonDivisor_25 hl 1 rfl ?_
          refine z_istore_n (lv' := [(3, .int (zI ((u) % (v)))), (2, .int (zI (v))), (5, .int (zI ((u) % (v)))), (4, .int (zI (k))), (0, .int (zI (x))), (1, .int (zI (y)))]) S dX0_greatestCommonDivisor_27 hl rfl (by decide) rfl (fun ls hl => ?_)
          refine z_iinc (lv' := [(4, .int (zI (k + 1))), (3, .int (zI ((u) % (v)))), (2, .int (zI (v))), (5, .int (zI ((u) % (v)))), (0, .int (zI (x))), (1, .int (zI (y)))]) S dX0_greatestCommonDivisor_28 hl 3 rfl (by decide) rfl (fun ls hl => ?_)
          refine z_goto S 7 dX0_greatestCommonDivisor_31 (by decide) ?_
          exact ih_7 (k + 1) (v) ((u) % (v)) (by omega) (by omega) (euc_step (by omega) (by omega) hxy hp) (by rw [gI_s (by omega) (by omega)]; exact hg) (by omega) ls (lv_sub hl [0, 1, 2, 4, 5] rfl)
  exact loop_7 _ (0) (x) (y) (by omega) (by omega) (Or.inl ⟨rfl, rfl, rfl⟩) (rfl) (Nat.lt_succ_self _) ls (lv_sub hl [0, 1, 2, 3, 4] rfl)
theorem dX0_leastCommonMultiple_0 : decode cX0_leastCommonMultiple 0 = .ok (.iload_n 0, 1) := by decide +kernel
theorem dX0_leastCommonMultiple_1 : decode cX0_leastCommonMultiple 1 = .ok (.iload_n 1, 1) := by decide +kernel
theorem dX0_leastCommonMultiple_2 : decode cX0_leastCommonMultiple 2 = .ok (.invokestatic 76, 3) := by decide +kernel
theorem dX0_leastCommonMultiple_5 : decode cX0_leastCommonMultiple 5 = .ok (.istore_n 2, 1) := by decide +kernel
theorem dX0_leastCommonMultiple_6 : decode cX0_leastCommonMultiple 6 = .ok (.iload_n 2, 1) := by decide +kernel
theorem dX0_leastCommonMultiple_7 : decode cX0_leastCommonMultiple 7 = .ok (.iconst 1, 1) := by decide +kernel
theorem dX0_leastCommonMultiple_8 : decode cX0_leastCommonMultiple 8 = .ok (.if_icmp .ge 7, 3) := by decide +kernel
theorem dX0_leastCommonMultiple_11 : decode cX0_leastCommonMultiple 11 = .ok (.iconst 1, 1) := by decide +kernel
theorem dX0_leastCommonMultiple_12 : decode cX0_leastCommonMultiple 12 = .ok (.goto 8, 3) := by decide +kernel
theorem dX0_leastCommonMultiple_15 : decode cX0_leastCommonMultiple 15 = .ok (.iload_n 0, 1) := by decide +kernel
theorem dX0_leastCommonMultiple_16 : decode cX0_leastCommonMultiple 16 = .ok (.iload_n 2, 1) := by decide +kernel
theorem dX0_leastCommonMultiple_17 : decode cX0_leastCommonMultiple 17 = .ok (.idiv, 1) := by decide +kernel
theorem dX0_leastCommonMultiple_18 : decode cX0_leastCommonMultiple 18 = .ok (.iload_n 1, 1) := by decide +kernel
theorem dX0_leastCommonMultiple_19 : decode cX0_leastCommonMultiple 19 = .ok (.imul, 1) := by decide +kernel
theorem dX0_leastCommonMultiple_20 : decode cX0_leastCommonMultiple 20 = .ok (.ireturn, 1) := by decide +kernel
theorem q1_155 : (Jvm.Cond.methodLink "Cyclepaint$Palette" (76 : Nat) ({ cls := "Cyclepaint$Palette", name := "greatestCommonDivisor", desc := "(II)I" } : Jvm.MethodName)) ∈ lw_g := zg_of (zin1 (List.mem_of_getElem? (i := 155) rfl)) rfl
theorem q1_154 : (Jvm.Cond.code ({ cls := "Cyclepaint$Palette", name := "leastCommonMultiple", desc := "(II)I" } : Jvm.MethodName) prog_2_method_25_code (3 : Nat) (Option.some Jvm.ClassFile.FieldType.int)) ∈ lw_g := zg_of (zin1 (List.mem_of_getElem? (i := 154) rfl)) rfl
theorem q1_153 : (Jvm.Cond.static ({ cls := "Cyclepaint$Palette", name := "leastCommonMultiple", desc := "(II)I" } : Jvm.MethodName)) ∈ lw_g := zg_of (zin1 (List.mem_of_getElem? (i := 153) rfl)) rfl
theorem ok_X0_leastCommonMultiple : zOS yX0_leastCommonMultiple cX0_leastCommonMultiple 3 ((Option.some Jvm.ClassFile.FieldType.int)) 2 := ⟨⟨q1_154, q1_2, by decide, by decide, by decide +kernel⟩, q1_153⟩
set_option maxHeartbeats 4000000 in
set_option maxRecDepth 100000 in
theorem c_X0_lcm (l : Launch) (G : zG) (x y : Int) (hx : 1 ≤ x ∧ x ≤ 19683000) (hy : 1 ≤ y ∧ y ≤ 270) (hxy : x * y ≤ 4294967296) : Met l yX0_leastCommonMultiple (wq yX0_leastCommonMultiple cX0_leastCommonMultiple 3 ((Option.some Jvm.ClassFile.FieldType.int))) (rmR 1 25) (va_Pc [.int (zI (x)), .int (zI (y))] (zK G (fun _ => True))) (zQ (some (.int ((zI (lcI x y)))))) 0 0 zF := by
  refine z_enterI (by decide +kernel) (Nat.le_of_ble_eq_true rfl) ?_
  intro p env s m below meth cod Q S hG hP ret ls hl
  have hl : lv_has ls 3 [(0, .int (zI (x))), (1, .int (zI (y)))] := hl
  refine z_iload_n S dX0_leastCommonMultiple_0 hl 0 rfl rfl ?_
  refine z_iload_n S dX0_leastCommonMultiple_1 hl 1 rfl rfl ?_
  refine z_callSs S hG (c_X0_gcd l G (x) (y) (by omega) (by omega) hxy) ok_X0_greatestCommonDivisor q1_155 (trivial) ⟨rfl, rfl, by decide, by decide⟩ ⟨Nat.zero_le _, Nat.zero_le _⟩ rfl (Nat.le_of_ble_eq_true rfl) hl.1 rfl dX0_leastCommonMultiple_2 ?_
  have hg := gI_b (a := x) (b := y) (by omega) (by omega)
  refine z_istore_n (lv' := [(2, .int (zI (gI (x) (y)))), (0, .int (zI (x))), (1, .int (zI (y)))]) S dX0_leastCommonMultiple_5 hl rfl (by decide) rfl (fun ls hl => ?_)
  refine z_iload_n S dX0_leastCommonMultiple_6 hl 0 rfl rfl ?_
  refine z_iconst S dX0_leastCommonMultiple_7 ?_
  refine z_icmp_ge_T S 15 dX0_leastCommonMultiple_8 (by decide) (by omega) (by omega) (by omega) ?_
  refine z_iload_n S dX0_leastCommonMultiple_15 hl 1 rfl rfl ?_
  refine z_iload_n S dX0_leastCommonMultiple_16 hl 0 rfl rfl ?_
  refine z_idiv S dX0_leastCommonMultiple_17 (by omega) (by omega) ?_
  refine z_iload_n S dX0_leastCommonMultiple_18 hl 2 rfl rfl ?_
  refine z_imul S dX0_leastCommonMultiple_19 ?_
  exact ret _ _ _ dX0_leastCommonMultiple_20 (rfl)
theorem dX0_commonRound_0 : decode cX0_commonRound 0 = .ok (.iconst 1, 1) := by decide +kernel
theorem dX0_commonRound_1 : decode cX0_commonRound 1 = .ok (.istore_n 1, 1) := by decide +kernel
theorem dX0_commonRound_2 : decode cX0_commonRound 2 = .ok (.iconst 0, 1) := by decide +kernel
theorem dX0_commonRound_3 : decode cX0_commonRound 3 = .ok (.istore_n 2, 1) := by decide +kernel
theorem dX0_commonRound_4 : decode cX0_commonRound 4 = .ok (.iload_n 2, 1) := by decide +kernel
theorem dX0_commonRound_5 : decode cX0_commonRound 5 = .ok (.iconst 4, 1) := by decide +kernel
theorem dX0_commonRound_6 : decode cX0_commonRound 6 = .ok (.if_icmp .ge 32, 3) := by decide +kernel
theorem dX0_commonRound_9 : decode cX0_commonRound 9 = .ok (.aload_n 0, 1) := by decide +kernel
theorem dX0_commonRound_10 : decode cX0_commonRound 10 = .ok (.getfield 20, 3) := by decide +kernel
theorem dX0_commonRound_13 : decode cX0_commonRound 13 = .ok (.iload_n 2, 1) := by decide +kernel
theorem dX0_commonRound_14 : decode cX0_commonRound 14 = .ok (.aaload, 1) := by decide +kernel
theorem dX0_commonRound_15 : decode cX0_commonRound 15 = .ok (.ifnull 17, 3) := by decide +kernel
theorem dX0_commonRound_18 : decode cX0_commonRound 18 = .ok (.iload_n 1, 1) := by decide +kernel
theorem dX0_commonRound_19 : decode cX0_commonRound 19 = .ok (.aload_n 0, 1) := by decide +kernel
theorem dX0_commonRound_20 : decode cX0_commonRound 20 = .ok (.getfield 20, 3) := by decide +kernel
theorem dX0_commonRound_23 : decode cX0_commonRound 23 = .ok (.iload_n 2, 1) := by decide +kernel
theorem dX0_commonRound_24 : decode cX0_commonRound 24 = .ok (.aaload, 1) := by decide +kernel
theorem dX0_commonRound_25 : decode cX0_commonRound 25 = .ok (.invokevirtual 63, 3) := by decide +kernel
theorem dX0_commonRound_28 : decode cX0_commonRound 28 = .ok (.invokestatic 67, 3) := by decide +kernel
theorem dX0_commonRound_31 : decode cX0_commonRound 31 = .ok (.istore_n 1, 1) := by decide +kernel
theorem dX0_commonRound_32 : decode cX0_commonRound 32 = .ok (.iinc 2 1, 3) := by decide +kernel
theorem dX0_commonRound_35 : decode cX0_commonRound 35 = .ok (.goto (-31), 3) := by decide +kernel
theorem dX0_commonRound_38 : decode cX0_commonRound 38 = .ok (.iload_n 1, 1) := by decide +kernel
theorem dX0_commonRound_39 : decode cX0_commonRound 39 = .ok (.ireturn, 1) := by decide +kernel
theorem q1_152 : (Jvm.Cond.methodLink "Cyclepaint$Palette" (67 : Nat) ({ cls := "Cyclepaint$Palette", name := "leastCommonMultiple", desc := "(II)I" } : Jvm.MethodName)) ∈ lw_g := zg_of (zin1 (List.mem_of_getElem? (i := 152) rfl)) rfl
theorem q1_151 : (Jvm.Cond.code ({ cls := "Cyclepaint$Palette", name := "commonRound", desc := "()I" } : Jvm.MethodName) prog_2_method_18_code (3 : Nat) (Option.some Jvm.ClassFile.FieldType.int)) ∈ lw_g := zg_of (zin1 (List.mem_of_getElem? (i := 151) rfl)) rfl
theorem q1_149 : (Jvm.Cond.instanceMethod ({ cls := "Cyclepaint$Palette", name := "commonRound", desc := "()I" } : Jvm.MethodName)) ∈ lw_g := zg_of (zin1 (List.mem_of_getElem? (i := 149) rfl)) rfl
theorem q1_150 : (Jvm.Cond.selects "Cyclepaint$Palette" ({ cls := "Cyclepaint$Palette", name := "commonRound", desc := "()I" } : Jvm.MethodName) ({ cls := "Cyclepaint$Palette", name := "commonRound", desc := "()I" } : Jvm.MethodName)) ∈ lw_g := zg_of (zin1 (List.mem_of_getElem? (i := 150) rfl)) rfl
theorem ok_X0_commonRound : zOV yX0_commonRound cX0_commonRound 3 ((Option.some Jvm.ClassFile.FieldType.int)) 0 := ⟨⟨q1_151, q1_2, by decide, by decide, by decide +kernel⟩, q1_149, q1_150⟩
set_option maxHeartbeats 4000000 in
set_option maxRecDepth 100000 in
theorem c_X0_commonRound (l : Launch) (G : zG) (σ : St) (a : Nat → Nat) (hD : okD σ) : Met l yX0_commonRound (wq yX0_commonRound cX0_commonRound 3 ((Option.some Jvm.ClassFile.FieldType.int))) (rmR 2 47) (va_Pc [.ref (a 1)] (zK G (hPal G σ a))) (zQ (some (.int ((zI (per σ)))))) 0 0 zF := by
  refine z_enterI (by decide +kernel) (Nat.le_of_ble_eq_true rfl) ?_
  intro p env s m below meth cod Q S hG hP ret ls hl
  have hl : lv_has ls 3 [(0, .ref (a 1))] := hl
  have hO := hP.2.2.2.2.2
  have hrn := hP.2.2.2.2.2.1
  refine z_iconst S dX0_commonRound_0 ?_
  refine z_istore_n (lv' := [(1, .int (zI (1))), (0, .ref (a 1))]) S dX0_commonRound_1 hl rfl (by decide) rfl (fun ls hl => ?_)
  refine z_iconst S dX0_commonRound_2 ?_
  refine z_istore_n (lv' := [(2, .int (zI (0))), (1, .int (zI (1))), (0, .ref (a 1))]) S dX0_commonRound_3 hl rfl (by decide) rfl (fun ls hl => ?_)
  have loop_4 : ∀ (nn : Nat) (k : Int) (cm : Int), (0 ≤ k ∧ k ≤ 4) → (cm = prdI σ (if k < σ.rn then k else σ.rn)) → ((4 - k).toNat) < nn → ∀ ls, lv_has ls 3 [(2, .int (zI (k))), (1, .int (zI (cm))), (0, .ref (a 1))] → W p l env (rmR 2 47) s m ([.ref (a 1)] : List Value).toArray below meth cod s.heap [] 0 0 Q (F0 m 4 ls []) := by
    intro nn
    induction nn with
    | zero => intro _ _ _ _ h; exact absurd h (Nat.not_lt_zero _)
    | succ nn ih_4 =>
      intro k cm hk hcm hm_4 ls hl
      refine z_iload_n S dX0_commonRound_4 hl 0 rfl rfl ?_
      refine z_iconst S dX0_commonRound_5 ?_
      refine z_icmp_ge S 38 dX0_commonRound_6 (by decide) (by omega) (by omega) (fun c_6 => ?_) (fun c_6 => ?_)
      · skip
        refine z_iload_n S dX0_commonRound_38 hl 1 rfl rfl ?_
        exact ret _ _ _ dX0_commonRound_39 (by rw [hcm, if_neg (by omega)]; rfl)
      · skip
        by_cases hr : k < σ.rn
        · skip
          have hcm2 : cm = prdI σ k := by rw [hcm, if_pos hr]
          have hpb := per_b hO hD k (by omega) (by omega)
          rw [← hcm2] at hpb
          have hxy := per_xy hO hD hk.1 hr
          rw [← hcm2] at hxy
          have hrb := rnd_b hO hk.1 hr
          refine z_aload_n S dX0_commonRound_9 hl 2 rfl rfl ?_
          refine z_get S hG hP.1 zc_X0 2 (by decide) q1_48 rfl rfl dX0_commonRound_10 ?_
          refine z_iload_n S dX0_commonRound_13 hl 0 rfl rfl ?_
          refine z_aaldR S hG hP.2.2.2.1 (by omega) (by decide) dX0_commonRound_14 ?_
          rw [show rgA σ a (k) = some (a (8 + Int.toNat (k))) from if_pos (by omega)]
          refine z_ifnull_r S 32 dX0_commonRound_15 (by decide) ?_
          refine z_iload_n S dX0_commonRound_18 hl 1 rfl rfl ?_
          refine z_aload_n S dX0_commonRound_19 hl 2 rfl rfl ?_
          refine z_get S hG hP.1 zc_X0 2 (by decide) q1_48 rfl rfl dX0_commonRound_20 ?_
          refine z_iload_n S dX0_commonRound_23 hl 0 rfl rfl ?_
          refine z_aaldR S hG hP.2.2.2.1 (by omega) (by decide) dX0_commonRound_24 ?_
          rw [show rgA σ a (k) = some (a (8 + Int.toNat (k))) from if_pos (by omega)]
          refine z_callVs S hG (c_X1_round l G (a (8 + Int.toNat (k))) (σ.F (k)) (σ.L (k)) (σ.S (k)) (σ.K (k)) ) ok_X1_round (hP.2.2.2.2.1 (k) (by omega) (by omega)) zc_X1 rfl q1_109 (hP.2.2.2.2.1 (k) (by omega) (by omega)) ⟨rfl, rfl, by decide, by decide⟩ ⟨Nat.zero_le _, Nat.zero_le _⟩ rfl (Nat.le_of_ble_eq_true rfl) hl.1 rfl dX0_commonRound_25 ?_
          refine z_callSs S hG (c_X0_lcm l G (cm) (rnd σ (k)) (by omega) (by omega) (by omega)) ok_X0_leastCommonMultiple q1_152 (trivial) ⟨rfl, rfl, by decide, by decide⟩ ⟨Nat.zero_le _, Nat.zero_le _⟩ rfl (Nat.le_of_ble_eq_true rfl) hl.1 rfl dX0_commonRound_28 ?_
          refine z_istore_n (lv' := [(1, .int (zI (lcI (cm) (rnd σ (k))))), (2, .int (zI (k))), (0, .ref (a 1))]) S dX0_commonRound_31 hl rfl (by decide) rfl (fun ls hl => ?_)
          refine z_iinc (lv' := [(2, .int (zI (k + 1))), (1, .int (zI (lcI (cm) (rnd σ (k))))), (0, .ref (a 1))]) S dX0_commonRound_32 hl 1 rfl (by decide) rfl (fun ls hl => ?_)
          refine z_goto S 4 dX0_commonRound_35 (by decide) ?_
          exact ih_4 (k + 1) (lcI (cm) (rnd σ (k))) (by omega) (by rw [hcm2, ← prdI_s hk.1]; congr 1; split <;> omega) (by omega) ls (lv_sub hl [0, 1, 2] rfl)
        · skip
          refine z_aload_n S dX0_commonRound_9 hl 2 rfl rfl ?_
          refine z_get S hG hP.1 zc_X0 2 (by decide) q1_48 rfl rfl dX0_commonRound_10 ?_
          refine z_iload_n S dX0_commonRound_13 hl 0 rfl rfl ?_
          refine z_aaldR S hG hP.2.2.2.1 (by omega) (by decide) dX0_commonRound_14 ?_
          rw [show rgA σ a (k) = none from if_neg (by omega)]
          refine z_ifnull_n S 32 dX0_commonRound_15 (by decide) ?_
          refine z_iinc (lv' := [(2, .int (zI (k + 1))), (1, .int (zI (cm))), (0, .ref (a 1))]) S dX0_commonRound_32 hl 0 rfl (by decide) rfl (fun ls hl => ?_)
          refine z_goto S 4 dX0_commonRound_35 (by decide) ?_
          exact ih_4 (k + 1) (cm) (by omega) (by rw [hcm, if_neg hr, if_neg (by omega)]) (by omega) ls (lv_sub hl [0, 1, 2] rfl)
  exact loop_4 _ (0) (1) (by omega) (by rw [show (if (0 : Int) < σ.rn then (0 : Int) else σ.rn) = 0 by split <;> omega]; rfl) (Nat.lt_succ_self _) ls (lv_sub hl [0, 1, 2] rfl)
theorem dX0_firstShown_0 : decode cX0_firstShown 0 = .ok (.aload_n 0, 1) := by decide +kernel
theorem dX0_firstShown_1 : decode cX0_firstShown 1 = .ok (.iload_n 1, 1) := by decide +kernel
theorem dX0_firstShown_2 : decode cX0_firstShown 2 = .ok (.invokevirtual 56, 3) := by decide +kernel
theorem dX0_firstShown_5 : decode cX0_firstShown 5 = .ok (.istore 4, 2) := by decide +kernel
theorem dX0_firstShown_7 : decode cX0_firstShown 7 = .ok (.iconst 0, 1) := by decide +kernel
theorem dX0_firstShown_8 : decode cX0_firstShown 8 = .ok (.istore 5, 2) := by decide +kernel
theorem dX0_firstShown_10 : decode cX0_firstShown 10 = .ok (.iload 5, 2) := by decide +kernel
theorem dX0_firstShown_12 : decode cX0_firstShown 12 = .ok (.iload 4, 2) := by decide +kernel
theorem dX0_firstShown_14 : decode cX0_firstShown 14 = .ok (.if_icmp .ge 27, 3) := by decide +kernel
theorem dX0_firstShown_17 : decode cX0_firstShown 17 = .ok (.aload_n 0, 1) := by decide +kernel
theorem dX0_firstShown_18 : decode cX0_firstShown 18 = .ok (.iload_n 1, 1) := by decide +kernel
theorem dX0_firstShown_19 : decode cX0_firstShown 19 = .ok (.iload_n 3, 1) := by decide +kernel
theorem dX0_firstShown_20 : decode cX0_firstShown 20 = .ok (.iload 5, 2) := by decide +kernel
theorem dX0_firstShown_22 : decode cX0_firstShown 22 = .ok (.iadd, 1) := by decide +kernel
theorem dX0_firstShown_23 : decode cX0_firstShown 23 = .ok (.invokevirtual 53, 3) := by decide +kernel
theorem dX0_firstShown_26 : decode cX0_firstShown 26 = .ok (.iload_n 2, 1) := by decide +kernel
theorem dX0_firstShown_27 : decode cX0_firstShown 27 = .ok (.if_icmp .ne 8, 3) := by decide +kernel
theorem dX0_firstShown_30 : decode cX0_firstShown 30 = .ok (.iload_n 3, 1) := by decide +kernel
theorem dX0_firstShown_31 : decode cX0_firstShown 31 = .ok (.iload 5, 2) := by decide +kernel
theorem dX0_firstShown_33 : decode cX0_firstShown 33 = .ok (.iadd, 1) := by decide +kernel
theorem dX0_firstShown_34 : decode cX0_firstShown 34 = .ok (.ireturn, 1) := by decide +kernel
theorem dX0_firstShown_35 : decode cX0_firstShown 35 = .ok (.iinc 5 1, 3) := by decide +kernel
theorem dX0_firstShown_38 : decode cX0_firstShown 38 = .ok (.goto (-28), 3) := by decide +kernel
theorem dX0_firstShown_41 : decode cX0_firstShown 41 = .ok (.iconst (-1), 1) := by decide +kernel
theorem dX0_firstShown_42 : decode cX0_firstShown 42 = .ok (.ireturn, 1) := by decide +kernel
theorem q2_53 : (Jvm.Cond.code ({ cls := "Cyclepaint$Palette", name := "firstShown", desc := "(III)I" } : Jvm.MethodName) prog_2_method_19_code (6 : Nat) (Option.some Jvm.ClassFile.FieldType.int)) ∈ lw_g := zg_of (zin2 (List.mem_of_getElem? (i := 53) rfl)) rfl
theorem q2_51 : (Jvm.Cond.instanceMethod ({ cls := "Cyclepaint$Palette", name := "firstShown", desc := "(III)I" } : Jvm.MethodName)) ∈ lw_g := zg_of (zin2 (List.mem_of_getElem? (i := 51) rfl)) rfl
theorem q2_52 : (Jvm.Cond.selects "Cyclepaint$Palette" ({ cls := "Cyclepaint$Palette", name := "firstShown", desc := "(III)I" } : Jvm.MethodName) ({ cls := "Cyclepaint$Palette", name := "firstShown", desc := "(III)I" } : Jvm.MethodName)) ∈ lw_g := zg_of (zin2 (List.mem_of_getElem? (i := 52) rfl)) rfl
theorem ok_X0_firstShown : zOV yX0_firstShown cX0_firstShown 6 ((Option.some Jvm.ClassFile.FieldType.int)) 3 := ⟨⟨q2_53, q1_2, by decide, by decide, by decide +kernel⟩, q2_51, q2_52⟩
set_option maxHeartbeats 4000000 in
set_option maxRecDepth 100000 in
theorem c_X0_firstShown (l : Launch) (G : zG) (σ : St) (a : Nat → Nat) (e : Int) (C : Int32) (f : Int) (he : 0 ≤ e ∧ e < 16) (hf : 0 ≤ f ∧ f ≤ 1000000) : Met l yX0_firstShown (wq yX0_firstShown cX0_firstShown 6 ((Option.some Jvm.ClassFile.FieldType.int))) (rmR 2 46) (va_Pc [.ref (a 1), .int (zI (e)), .int (C), .int (zI (f))] (zK G (hPal G σ a))) (zQ (some (.int ((zI (fnd σ e C f)))))) 0 0 zF := by
  refine z_enterI (by decide +kernel) (Nat.le_of_ble_eq_true rfl) ?_
  intro p env s m below meth cod Q S hG hP ret ls hl
  have hl : lv_has ls 6 [(0, .ref (a 1)), (1, .int (zI (e))), (2, .int (C)), (3, .int (zI (f)))] := hl
  have hO := hP.2.2.2.2.2
  have hb1 := rndE_b hO e
  refine z_aload_n S dX0_firstShown_0 hl 0 rfl rfl ?_
  refine z_iload_n S dX0_firstShown_1 hl 1 rfl rfl ?_
  refine z_callVs S hG (c_X0_roundOf l G σ a (e) (by omega)) ok_X0_roundOf hP.1 zc_X0 rfl q1_97 (hP) ⟨rfl, rfl, by decide, by decide⟩ ⟨Nat.zero_le _, Nat.zero_le _⟩ rfl (Nat.le_of_ble_eq_true rfl) hl.1 rfl dX0_firstShown_2 ?_
  refine z_istore (lv' := [(4, .int (zI (rndE σ (e)))), (0, .ref (a 1)), (1, .int (zI (e))), (2, .int (C)), (3, .int (zI (f)))]) S dX0_firstShown_5 hl (by decide) rfl (fun ls hl => ?_)
  refine z_iconst S dX0_firstShown_7 ?_
  refine z_istore (lv' := [(5, .int (zI (0))), (4, .int (zI (rndE σ (e)))), (0, .ref (a 1)), (1, .int (zI (e))), (2, .int (C)), (3, .int (zI (f)))]) S dX0_firstShown_8 hl (by decide) rfl (fun ls hl => ?_)
  have loop_10 : ∀ (nn : Nat) (k : Int), (0 ≤ k ∧ k ≤ rndE σ e) → (∀ t : Int, 0 ≤ t → t < k → fndB σ e C f t = false) → ((rndE σ e - k).toNat) < nn → ∀ ls, lv_has ls 6 [(5, .int (zI (k))), (4, .int (zI (rndE σ (e)))), (0, .ref (a 1)), (1, .int (zI (e))), (2, .int (C)), (3, .int (zI (f)))] → W p l env (rmR 2 46) s m ([.ref (a 1), .int (zI (e)), .int (C), .int (zI (f))] : List Value).toArray below meth cod s.heap [] 0 0 Q (F0 m 10 ls []) := by
    intro nn
    induction nn with
    | zero => intro _ _ _ h; exact absurd h (Nat.not_lt_zero _)
    | succ nn ih_10 =>
      intro k hk hI hm_10 ls hl
      refine z_iload S dX0_firstShown_10 hl 0 rfl ?_
      refine z_iload S dX0_firstShown_12 hl 1 rfl ?_
      refine z_icmp_ge S 41 dX0_firstShown_14 (by decide) (by omega) (by omega) (fun c_14 => ?_) (fun c_14 => ?_)
      · skip
        refine z_iconst S dX0_firstShown_41 ?_
        exact ret _ _ _ dX0_firstShown_42 (by unfold fnd; rw [fstI_none (fun t h0 h1 => hI t h0 (by omega)), if_pos rfl])
      · skip
        have c_14x : k < rndE σ e := by omega
        refine z_aload_n S dX0_firstShown_17 hl 2 rfl rfl ?_
        refine z_iload_n S dX0_firstShown_18 hl 3 rfl rfl ?_
        refine z_iload_n S dX0_firstShown_19 hl 5 rfl rfl ?_
        refine z_iload S dX0_firstShown_20 hl 0 rfl ?_
        refine z_iadd S dX0_firstShown_22 ?_
        refine z_callVs S hG (c_X0_shows l G σ a (e) ((f) + (k)) (by omega) (by omega)) ok_X0_shows hP.1 zc_X0 rfl q1_113 (hP) ⟨rfl, rfl, by decide, by decide⟩ ⟨Nat.zero_le _, Nat.zero_le _⟩ rfl (Nat.le_of_ble_eq_true rfl) hl.1 rfl dX0_firstShown_23 ?_
        refine z_iload_n S dX0_firstShown_26 hl 4 rfl rfl ?_
        refine lv_icmp_ne (tgt := 35) S.1 S.2.1 dX0_firstShown_27 (by decide) (fun c_27 => ?_) (fun c_27 => ?_)
        · skip
          refine z_iinc (lv' := [(5, .int (zI (k + 1))), (4, .int (zI (rndE σ (e)))), (0, .ref (a 1)), (1, .int (zI (e))), (2, .int (C)), (3, .int (zI (f)))]) S dX0_firstShown_35 hl 0 rfl (by decide) rfl (fun ls hl => ?_)
          refine z_goto S 10 dX0_firstShown_38 (by decide) ?_
          exact ih_10 (k + 1) (by omega) (lt_stp hI (by unfold fndB; simp [c_27])) (by omega) ls (lv_sub hl [0, 1, 2, 3, 4, 5] rfl)
        · skip
          refine z_iload_n S dX0_firstShown_30 hl 5 rfl rfl ?_
          refine z_iload S dX0_firstShown_31 hl 0 rfl ?_
          refine z_iadd S dX0_firstShown_33 ?_
          exact ret _ _ _ dX0_firstShown_34 (by unfold fnd; rw [fstI_some hk.1 c_14x hI (by unfold fndB; simpa using c_27), if_neg (by omega)])
  exact loop_10 _ (0) (by omega) (lt_st0) (Nat.lt_succ_self _) ls (lv_sub hl [0, 1, 2, 3, 4, 5] rfl)
theorem dX0_firstMeeting_0 : decode cX0_firstMeeting 0 = .ok (.aload_n 0, 1) := by decide +kernel
theorem dX0_firstMeeting_1 : decode cX0_firstMeeting 1 = .ok (.iload_n 1, 1) := by decide +kernel
theorem dX0_firstMeeting_2 : decode cX0_firstMeeting 2 = .ok (.invokevirtual 56, 3) := by decide +kernel
theorem dX0_firstMeeting_5 : decode cX0_firstMeeting 5 = .ok (.aload_n 0, 1) := by decide +kernel
theorem dX0_firstMeeting_6 : decode cX0_firstMeeting 6 = .ok (.iload_n 3, 1) := by decide +kernel
theorem dX0_firstMeeting_7 : decode cX0_firstMeeting 7 = .ok (.invokevirtual 56, 3) := by decide +kernel
theorem dX0_firstMeeting_10 : decode cX0_firstMeeting 10 = .ok (.invokestatic 67, 3) := by decide +kernel
theorem dX0_firstMeeting_13 : decode cX0_firstMeeting 13 = .ok (.istore 6, 2) := by decide +kernel
theorem dX0_firstMeeting_15 : decode cX0_firstMeeting 15 = .ok (.iconst 0, 1) := by decide +kernel
theorem dX0_firstMeeting_16 : decode cX0_firstMeeting 16 = .ok (.istore 7, 2) := by decide +kernel
theorem dX0_firstMeeting_18 : decode cX0_firstMeeting 18 = .ok (.iload 7, 2) := by decide +kernel
theorem dX0_firstMeeting_20 : decode cX0_firstMeeting 20 = .ok (.iload 6, 2) := by decide +kernel
theorem dX0_firstMeeting_22 : decode cX0_firstMeeting 22 = .ok (.if_icmp .ge 41, 3) := by decide +kernel
theorem dX0_firstMeeting_25 : decode cX0_firstMeeting 25 = .ok (.aload_n 0, 1) := by decide +kernel
theorem dX0_firstMeeting_26 : decode cX0_firstMeeting 26 = .ok (.iload_n 1, 1) := by decide +kernel
theorem dX0_firstMeeting_27 : decode cX0_firstMeeting 27 = .ok (.iload 5, 2) := by decide +kernel
theorem dX0_firstMeeting_29 : decode cX0_firstMeeting 29 = .ok (.iload 7, 2) := by decide +kernel
theorem dX0_firstMeeting_31 : decode cX0_firstMeeting 31 = .ok (.iadd, 1) := by decide +kernel
theorem dX0_firstMeeting_32 : decode cX0_firstMeeting 32 = .ok (.invokevirtual 53, 3) := by decide +kernel
theorem dX0_firstMeeting_35 : decode cX0_firstMeeting 35 = .ok (.iload_n 2, 1) := by decide +kernel
theorem dX0_firstMeeting_36 : decode cX0_firstMeeting 36 = .ok (.if_icmp .ne 21, 3) := by decide +kernel
theorem dX0_firstMeeting_39 : decode cX0_firstMeeting 39 = .ok (.aload_n 0, 1) := by decide +kernel
theorem dX0_firstMeeting_40 : decode cX0_firstMeeting 40 = .ok (.iload_n 3, 1) := by decide +kernel
theorem dX0_firstMeeting_41 : decode cX0_firstMeeting 41 = .ok (.iload 5, 2) := by decide +kernel
theorem dX0_firstMeeting_43 : decode cX0_firstMeeting 43 = .ok (.iload 7, 2) := by decide +kernel
theorem dX0_firstMeeting_45 : decode cX0_firstMeeting 45 = .ok (.iadd, 1) := by decide +kernel
theorem dX0_firstMeeting_46 : decode cX0_firstMeeting 46 = .ok (.invokevirtual 53, 3) := by decide +kernel
theorem dX0_firstMeeting_49 : decode cX0_firstMeeting 49 = .ok (.iload 4, 2) := by decide +kernel
theorem dX0_firstMeeting_51 : decode cX0_firstMeeting 51 = .ok (.if_icmp .ne 6, 3) := by decide +kernel
theorem dX0_firstMeeting_54 : decode cX0_firstMeeting 54 = .ok (.iload 7, 2) := by decide +kernel
theorem dX0_firstMeeting_56 : decode cX0_firstMeeting 56 = .ok (.ireturn, 1) := by decide +kernel
theorem dX0_firstMeeting_57 : decode cX0_firstMeeting 57 = .ok (.iinc 7 1, 3) := by decide +kernel
theorem dX0_firstMeeting_60 : decode cX0_firstMeeting 60 = .ok (.goto (-42), 3) := by decide +kernel
theorem dX0_firstMeeting_63 : decode cX0_firstMeeting 63 = .ok (.iconst (-1), 1) := by decide +kernel
theorem dX0_firstMeeting_64 : decode cX0_firstMeeting 64 = .ok (.ireturn, 1) := by decide +kernel
theorem q2_57 : (Jvm.Cond.code ({ cls := "Cyclepaint$Palette", name := "firstMeeting", desc := "(IIIII)I" } : Jvm.MethodName) prog_2_method_20_code (8 : Nat) (Option.some Jvm.ClassFile.FieldType.int)) ∈ lw_g := zg_of (zin2 (List.mem_of_getElem? (i := 57) rfl)) rfl
theorem q2_55 : (Jvm.Cond.instanceMethod ({ cls := "Cyclepaint$Palette", name := "firstMeeting", desc := "(IIIII)I" } : Jvm.MethodName)) ∈ lw_g := zg_of (zin2 (List.mem_of_getElem? (i := 55) rfl)) rfl
theorem q2_56 : (Jvm.Cond.selects "Cyclepaint$Palette" ({ cls := "Cyclepaint$Palette", name := "firstMeeting", desc := "(IIIII)I" } : Jvm.MethodName) ({ cls := "Cyclepaint$Palette", name := "firstMeeting", desc := "(IIIII)I" } : Jvm.MethodName)) ∈ lw_g := zg_of (zin2 (List.mem_of_getElem? (i := 56) rfl)) rfl
theorem ok_X0_firstMeeting : zOV yX0_firstMeeting cX0_firstMeeting 8 ((Option.some Jvm.ClassFile.FieldType.int)) 5 := ⟨⟨q2_57, q1_2, by decide, by decide, by decide +kernel⟩, q2_55, q2_56⟩
set_option maxHeartbeats 4000000 in
set_option maxRecDepth 100000 in
theorem c_X0_firstMeeting (l : Launch) (G : zG) (σ : St) (a : Nat → Nat) (x : Int) (C : Int32) (y : Int) (D : Int32) (f : Int) (hx : 0 ≤ x ∧ x < 16) (hy : 0 ≤ y ∧ y < 16) (hf : 0 ≤ f ∧ f ≤ 1000000) : Met l yX0_firstMeeting (wq yX0_firstMeeting cX0_firstMeeting 8 ((Option.some Jvm.ClassFile.FieldType.int))) (rmR 2 47) (va_Pc [.ref (a 1), .int (zI (x)), .int (C), .int (zI (y)), .int (D), .int (zI (f))] (zK G (hPal G σ a))) (zQ (some (.int ((zI (mt σ x C y D f)))))) 0 0 zF := by
  refine z_enterI (by decide +kernel) (Nat.le_of_ble_eq_true rfl) ?_
  intro p env s m below meth cod Q S hG hP ret ls hl
  have hl : lv_has ls 8 [(0, .ref (a 1)), (1, .int (zI (x))), (2, .int (C)), (3, .int (zI (y))), (4, .int (D)), (5, .int (zI (f)))] := hl
  have hO := hP.2.2.2.2.2
  have hb1 := rndE_b hO x
  have hb2 := rndE_b hO y
  have hxy : rndE σ x * rndE σ y ≤ 72900 := Int.le_trans (Int.mul_le_mul hb1.2 hb2.2 (by omega) (by omega)) (by omega)
  have hlb := lcI_b (a := rndE σ x) (b := rndE σ y) hb1.1 hb2.1
  refine z_aload_n S dX0_firstMeeting_0 hl 0 rfl rfl ?_
  refine z_iload_n S dX0_firstMeeting_1 hl 1 rfl rfl ?_
  refine z_callVs S hG (c_X0_roundOf l G σ a (x) (by omega)) ok_X0_roundOf hP.1 zc_X0 rfl q1_97 (hP) ⟨rfl, rfl, by decide, by decide⟩ ⟨Nat.zero_le _, Nat.zero_le _⟩ rfl (Nat.le_of_ble_eq_true rfl) hl.1 rfl dX0_firstMeeting_2 ?_
  refine z_aload_n S dX0_firstMeeting_5 hl 0 rfl rfl ?_
  refine z_iload_n S dX0_firstMeeting_6 hl 3 rfl rfl ?_
  refine z_callVs S hG (c_X0_roundOf l G σ a (y) (by omega)) ok_X0_roundOf hP.1 zc_X0 rfl q1_97 (hP) ⟨rfl, rfl, by decide, by decide⟩ ⟨Nat.zero_le _, Nat.zero_le _⟩ rfl (Nat.le_of_ble_eq_true rfl) hl.1 rfl dX0_firstMeeting_7 ?_
  refine z_callSs S hG (c_X0_lcm l G (rndE σ (x)) (rndE σ (y)) (by omega) (by omega) (Int.le_trans hxy (by omega))) ok_X0_leastCommonMultiple q1_152 (trivial) ⟨rfl, rfl, by decide, by decide⟩ ⟨Nat.zero_le _, Nat.zero_le _⟩ rfl (Nat.le_of_ble_eq_true rfl) hl.1 rfl dX0_firstMeeting_10 ?_
  refine z_istore (lv' := [(6, .int (zI (lcI (rndE σ (x)) (rndE σ (y))))), (0, .ref (a 1)), (1, .int (zI (x))), (2, .int (C)), (3, .int (zI (y))), (4, .int (D)), (5, .int (zI (f)))]) S dX0_firstMeeting_13 hl (by decide) rfl (fun ls hl => ?_)
  refine z_iconst S dX0_firstMeeting_15 ?_
  refine z_istore (lv' := [(7, .int (zI (0))), (6, .int (zI (lcI (rndE σ (x)) (rndE σ (y))))), (0, .ref (a 1)), (1, .int (zI (x))), (2, .int (C)), (3, .int (zI (y))), (4, .int (D)), (5, .int (zI (f)))]) S dX0_firstMeeting_16 hl (by decide) rfl (fun ls hl => ?_)
  have loop_18 : ∀ (nn : Nat) (k : Int), (0 ≤ k ∧ k ≤ lcI (rndE σ x) (rndE σ y)) → (∀ t : Int, 0 ≤ t → t < k → metB σ x C y D f t = false) → ((lcI (rndE σ x) (rndE σ y) - k).toNat) < nn → ∀ ls, lv_has ls 8 [(7, .int (zI (k))), (6, .int (zI (lcI (rndE σ (x)) (rndE σ (y))))), (0, .ref (a 1)), (1, .int (zI (x))), (2, .int (C)), (3, .int (zI (y))), (4, .int (D)), (5, .int (zI (f)))] → W p l env (rmR 2 47) s m ([.ref (a 1), .int (zI (x)), .int (C), .int (zI (y)), .int (D), .int (zI (f))] : List Value).toArray below meth cod s.heap [] 0 0 Q (F0 m 18 ls []) := by
    intro nn
    induction nn with
    | zero => intro _ _ _ h; exact absurd h (Nat.not_lt_zero _)
    | succ nn ih_18 =>
      intro k hk hI hm_18 ls hl
      refine z_iload S dX0_firstMeeting_18 hl 0 rfl ?_
      refine z_iload S dX0_firstMeeting_20 hl 1 rfl ?_
      refine z_icmp_ge S 63 dX0_firstMeeting_22 (by decide) (by omega) (by omega) (fun c_22 => ?_) (fun c_22 => ?_)
      · skip
        refine z_iconst S dX0_firstMeeting_63 ?_
        exact ret _ _ _ dX0_firstMeeting_64 (by unfold mt; rw [fstI_none (fun t h0 h1 => hI t h0 (by omega))])
      · skip
        have c_22x : k < lcI (rndE σ x) (rndE σ y) := by omega
        refine z_aload_n S dX0_firstMeeting_25 hl 2 rfl rfl ?_
        refine z_iload_n S dX0_firstMeeting_26 hl 3 rfl rfl ?_
        refine z_iload S dX0_firstMeeting_27 hl 7 rfl ?_
        refine z_iload S dX0_firstMeeting_29 hl 0 rfl ?_
        refine z_iadd S dX0_firstMeeting_31 ?_
        refine z_callVs S hG (c_X0_shows l G σ a (x) ((f) + (k)) (by omega) (by omega)) ok_X0_shows hP.1 zc_X0 rfl q1_113 (hP) ⟨rfl, rfl, by decide, by decide⟩ ⟨Nat.zero_le _, Nat.zero_le _⟩ rfl (Nat.le_of_ble_eq_true rfl) hl.1 rfl dX0_firstMeeting_32 ?_
        refine z_iload_n S dX0_firstMeeting_35 hl 4 rfl rfl ?_
        refine lv_icmp_ne (tgt := 57) S.1 S.2.1 dX0_firstMeeting_36 (by decide) (fun c_36 => ?_) (fun c_36 => ?_)
        · skip
          refine z_iinc (lv' := [(7, .int (zI (k + 1))), (6, .int (zI (lcI (rndE σ (x)) (rndE σ (y))))), (0, .ref (a 1)), (1, .int (zI (x))), (2, .int (C)), (3, .int (zI (y))), (4, .int (D)), (5, .int (zI (f)))]) S dX0_firstMeeting_57 hl 0 rfl (by decide) rfl (fun ls hl => ?_)
          refine z_goto S 18 dX0_firstMeeting_60 (by decide) ?_
          exact ih_18 (k + 1) (by omega) (lt_stp hI (by unfold metB; simp [c_36])) (by omega) ls (lv_sub hl [0, 1, 2, 3, 4, 5, 6, 7] rfl)
        · skip
          refine z_aload_n S dX0_firstMeeting_39 hl 2 rfl rfl ?_
          refine z_iload_n S dX0_firstMeeting_40 hl 5 rfl rfl ?_
          refine z_iload S dX0_firstMeeting_41 hl 7 rfl ?_
          refine z_iload S dX0_firstMeeting_43 hl 0 rfl ?_
          refine z_iadd S dX0_firstMeeting_45 ?_
          refine z_callVs S hG (c_X0_shows l G σ a (y) ((f) + (k)) (by omega) (by omega)) ok_X0_shows hP.1 zc_X0 rfl q1_113 (hP) ⟨rfl, rfl, by decide, by decide⟩ ⟨Nat.zero_le _, Nat.zero_le _⟩ rfl (Nat.le_of_ble_eq_true rfl) hl.1 rfl dX0_firstMeeting_46 ?_
          refine z_iload S dX0_firstMeeting_49 hl 6 rfl ?_
          refine lv_icmp_ne (tgt := 57) S.1 S.2.1 dX0_firstMeeting_51 (by decide) (fun c_51 => ?_) (fun c_51 => ?_)
          · skip
            refine z_iinc (lv' := [(7, .int (zI (k + 1))), (6, .int (zI (lcI (rndE σ (x)) (rndE σ (y))))), (0, .ref (a 1)), (1, .int (zI (x))), (2, .int (C)), (3, .int (zI (y))), (4, .int (D)), (5, .int (zI (f)))]) S dX0_firstMeeting_57 hl 0 rfl (by decide) rfl (fun ls hl => ?_)
            refine z_goto S 18 dX0_firstMeeting_60 (by decide) ?_
            exact ih_18 (k + 1) (by omega) (lt_stp hI (by unfold metB; simp [c_51])) (by omega) ls (lv_sub hl [0, 1, 2, 3, 4, 5, 6, 7] rfl)
          · skip
            refine z_iload S dX0_firstMeeting_54 hl 0 rfl ?_
            exact ret _ _ _ dX0_firstMeeting_56 (by unfold mt; rw [fstI_some hk.1 c_22x hI (by unfold metB; simp [c_36, c_51])])
  exact loop_18 _ (0) (by omega) (lt_st0) (Nat.lt_succ_self _) ls (lv_sub hl [0, 1, 2, 3, 4, 5, 6, 7] rfl)
theorem dX0_comesRound_0 : decode cX0_comesRound 0 = .ok (.iload_n 1, 1) := by decide +kernel
theorem dX0_comesRound_1 : decode cX0_comesRound 1 = .ok (.aload_n 0, 1) := by decide +kernel
theorem dX0_comesRound_2 : decode cX0_comesRound 2 = .ok (.invokevirtual 70, 3) := by decide +kernel
theorem dX0_comesRound_5 : decode cX0_comesRound 5 = .ok (.iadd, 1) := by decide +kernel
theorem dX0_comesRound_6 : decode cX0_comesRound 6 = .ok (.istore_n 2, 1) := by decide +kernel
theorem dX0_comesRound_7 : decode cX0_comesRound 7 = .ok (.iconst 0, 1) := by decide +kernel
theorem dX0_comesRound_8 : decode cX0_comesRound 8 = .ok (.istore_n 3, 1) := by decide +kernel
theorem dX0_comesRound_9 : decode cX0_comesRound 9 = .ok (.iload_n 3, 1) := by decide +kernel
theorem dX0_comesRound_10 : decode cX0_comesRound 10 = .ok (.bipush 16, 2) := by decide +kernel
theorem dX0_comesRound_12 : decode cX0_comesRound 12 = .ok (.if_icmp .ge 26, 3) := by decide +kernel
theorem dX0_comesRound_15 : decode cX0_comesRound 15 = .ok (.aload_n 0, 1) := by decide +kernel
theorem dX0_comesRound_16 : decode cX0_comesRound 16 = .ok (.iload_n 3, 1) := by decide +kernel
theorem dX0_comesRound_17 : decode cX0_comesRound 17 = .ok (.iload_n 2, 1) := by decide +kernel
theorem dX0_comesRound_18 : decode cX0_comesRound 18 = .ok (.invokevirtual 53, 3) := by decide +kernel
theorem dX0_comesRound_21 : decode cX0_comesRound 21 = .ok (.aload_n 0, 1) := by decide +kernel
theorem dX0_comesRound_22 : decode cX0_comesRound 22 = .ok (.iload_n 3, 1) := by decide +kernel
theorem dX0_comesRound_23 : decode cX0_comesRound 23 = .ok (.iload_n 1, 1) := by decide +kernel
theorem dX0_comesRound_24 : decode cX0_comesRound 24 = .ok (.invokevirtual 53, 3) := by decide +kernel
theorem dX0_comesRound_27 : decode cX0_comesRound 27 = .ok (.if_icmp .eq 5, 3) := by decide +kernel
theorem dX0_comesRound_30 : decode cX0_comesRound 30 = .ok (.iconst 0, 1) := by decide +kernel
theorem dX0_comesRound_31 : decode cX0_comesRound 31 = .ok (.ireturn, 1) := by decide +kernel
theorem dX0_comesRound_32 : decode cX0_comesRound 32 = .ok (.iinc 3 1, 3) := by decide +kernel
theorem dX0_comesRound_35 : decode cX0_comesRound 35 = .ok (.goto (-26), 3) := by decide +kernel
theorem dX0_comesRound_38 : decode cX0_comesRound 38 = .ok (.iconst 1, 1) := by decide +kernel
theorem dX0_comesRound_39 : decode cX0_comesRound 39 = .ok (.ireturn, 1) := by decide +kernel
theorem q1_179 : (Jvm.Cond.methodLink "Cyclepaint$Palette" (70 : Nat) ({ cls := "Cyclepaint$Palette", name := "commonRound", desc := "()I" } : Jvm.MethodName)) ∈ lw_g := zg_of (zin1 (List.mem_of_getElem? (i := 179) rfl)) rfl
theorem q1_178 : (Jvm.Cond.code ({ cls := "Cyclepaint$Palette", name := "comesRound", desc := "(I)Z" } : Jvm.MethodName) prog_2_method_21_code (4 : Nat) (Option.some Jvm.ClassFile.FieldType.boolean)) ∈ lw_g := zg_of (zin1 (List.mem_of_getElem? (i := 178) rfl)) rfl
theorem q1_176 : (Jvm.Cond.instanceMethod ({ cls := "Cyclepaint$Palette", name := "comesRound", desc := "(I)Z" } : Jvm.MethodName)) ∈ lw_g := zg_of (zin1 (List.mem_of_getElem? (i := 176) rfl)) rfl
theorem q1_177 : (Jvm.Cond.selects "Cyclepaint$Palette" ({ cls := "Cyclepaint$Palette", name := "comesRound", desc := "(I)Z" } : Jvm.MethodName) ({ cls := "Cyclepaint$Palette", name := "comesRound", desc := "(I)Z" } : Jvm.MethodName)) ∈ lw_g := zg_of (zin1 (List.mem_of_getElem? (i := 177) rfl)) rfl
theorem ok_X0_comesRound : zOV yX0_comesRound cX0_comesRound 4 ((Option.some Jvm.ClassFile.FieldType.boolean)) 1 := ⟨⟨q1_178, q1_2, by decide, by decide, by decide +kernel⟩, q1_176, q1_177⟩
set_option maxHeartbeats 4000000 in
set_option maxRecDepth 100000 in
theorem c_X0_comesRound (l : Launch) (G : zG) (σ : St) (a : Nat → Nat) (w : Int) (hw : 0 ≤ w ∧ w ≤ 1000000) (hD : okD σ) : Met l yX0_comesRound (wq yX0_comesRound cX0_comesRound 4 ((Option.some Jvm.ClassFile.FieldType.boolean))) (rmR 3 69) (va_Pc [.ref (a 1), .int (zI (w))] (zK G (hPal G σ a))) (zQ (some (.int (bI (allI (crB σ w) 16))))) 0 0 zF := by
  refine z_enterB (by decide +kernel) (Nat.le_of_ble_eq_true rfl) ?_
  intro p env s m below meth cod Q S hG hP ret ls hl
  have hl : lv_has ls 4 [(0, .ref (a 1)), (1, .int (zI (w)))] := hl
  have hO := hP.2.2.2.2.2
  have hrn := hP.2.2.2.2.2.1
  have hpb := per_b hO hD σ.rn (by omega) (by omega)
  have hpe : prdI σ σ.rn = per σ := rfl
  rw [hpe] at hpb
  refine z_iload_n S dX0_comesRound_0 hl 1 rfl rfl ?_
  refine z_aload_n S dX0_comesRound_1 hl 0 rfl rfl ?_
  refine z_callVs S hG (c_X0_commonRound l G σ a hD) ok_X0_commonRound hP.1 zc_X0 rfl q1_179 (hP) ⟨rfl, rfl, by decide, by decide⟩ ⟨Nat.zero_le _, Nat.zero_le _⟩ rfl (Nat.le_of_ble_eq_true rfl) hl.1 rfl dX0_comesRound_2 ?_
  refine z_iadd S dX0_comesRound_5 ?_
  refine z_istore_n (lv' := [(2, .int (zI ((w) + (per σ)))), (0, .ref (a 1)), (1, .int (zI (w)))]) S dX0_comesRound_6 hl rfl (by decide) rfl (fun ls hl => ?_)
  refine z_iconst S dX0_comesRound_7 ?_
  refine z_istore_n (lv' := [(3, .int (zI (0))), (2, .int (zI ((w) + (per σ)))), (0, .ref (a 1)), (1, .int (zI (w)))]) S dX0_comesRound_8 hl rfl (by decide) rfl (fun ls hl => ?_)
  have loop_9 : ∀ (nn : Nat) (k : Int), (0 ≤ k ∧ k ≤ 16) → (∀ t : Int, 0 ≤ t → t < k → crB σ w t = true) → ((16 - k).toNat) < nn → ∀ ls, lv_has ls 4 [(3, .int (zI (k))), (2, .int (zI ((w) + (per σ)))), (0, .ref (a 1)), (1, .int (zI (w)))] → W p l env (rmR 3 69) s m ([.ref (a 1), .int (zI (w))] : List Value).toArray below meth cod s.heap [] 0 0 Q (F0 m 9 ls []) := by
    intro nn
    induction nn with
    | zero => intro _ _ _ h; exact absurd h (Nat.not_lt_zero _)
    | succ nn ih_9 =>
      intro k hk hI hm_9 ls hl
      refine z_iload_n S dX0_comesRound_9 hl 0 rfl rfl ?_
      refine z_bipush S dX0_comesRound_10 rfl ?_
      refine z_icmp_ge S 38 dX0_comesRound_12 (by decide) (by omega) (by omega) (fun c_12 => ?_) (fun c_12 => ?_)
      · skip
        refine z_iconst S dX0_comesRound_38 ?_
        exact ret _ _ _ dX0_comesRound_39 (by rw [show allI (crB σ w) 16 = true from allI_iff.mpr (fun t h0 h1 => hI t h0 (by omega))]; rfl)
      · skip
        refine z_aload_n S dX0_comesRound_15 hl 2 rfl rfl ?_
        refine z_iload_n S dX0_comesRound_16 hl 0 rfl rfl ?_
        refine z_iload_n S dX0_comesRound_17 hl 1 rfl rfl ?_
        refine z_callVs S hG (c_X0_shows l G σ a (k) ((w) + (per σ)) (by omega) (by omega)) ok_X0_shows hP.1 zc_X0 rfl q1_113 (hP) ⟨rfl, rfl, by decide, by decide⟩ ⟨Nat.zero_le _, Nat.zero_le _⟩ rfl (Nat.le_of_ble_eq_true rfl) hl.1 rfl dX0_comesRound_18 ?_
        refine z_aload_n S dX0_comesRound_21 hl 2 rfl rfl ?_
        refine z_iload_n S dX0_comesRound_22 hl 0 rfl rfl ?_
        refine z_iload_n S dX0_comesRound_23 hl 3 rfl rfl ?_
        refine z_callVs S hG (c_X0_shows l G σ a (k) (w) (by omega) (by omega)) ok_X0_shows hP.1 zc_X0 rfl q1_113 (hP) ⟨rfl, rfl, by decide, by decide⟩ ⟨Nat.zero_le _, Nat.zero_le _⟩ rfl (Nat.le_of_ble_eq_true rfl) hl.1 rfl dX0_comesRound_24 ?_
        refine lv_icmp_eq (tgt := 32) S.1 S.2.1 dX0_comesRound_27 (by decide) (fun c_27 => ?_) (fun c_27 => ?_)
        · skip
          refine z_iinc (lv' := [(3, .int (zI (k + 1))), (2, .int (zI ((w) + (per σ)))), (0, .ref (a 1)), (1, .int (zI (w)))]) S dX0_comesRound_32 hl 0 rfl (by decide) rfl (fun ls hl => ?_)
          refine z_goto S 9 dX0_comesRound_35 (by decide) ?_
          exact ih_9 (k + 1) (by omega) (lt_stp hI (by unfold crB; simp [c_27])) (by omega) ls (lv_sub hl [0, 1, 2, 3] rfl)
        · skip
          refine z_iconst S dX0_comesRound_30 ?_
          exact ret _ _ _ dX0_comesRound_31 (by rw [show allI (crB σ w) 16 = false from allI_no hk.1 (show k < 16 by omega) (by unfold crB; simp [c_27])]; rfl)
  exact loop_9 _ (0) (by omega) (lt_st0) (Nat.lt_succ_self _) ls (lv_sub hl [0, 1, 2, 3] rfl)
theorem dX0_areStillAtBase_0 : decode cX0_areStillAtBase 0 = .ok (.iconst 0, 1) := by decide +kernel
theorem dX0_areStillAtBase_1 : decode cX0_areStillAtBase 1 = .ok (.istore_n 2, 1) := by decide +kernel
theorem dX0_areStillAtBase_2 : decode cX0_areStillAtBase 2 = .ok (.iload_n 2, 1) := by decide +kernel
theorem dX0_areStillAtBase_3 : decode cX0_areStillAtBase 3 = .ok (.bipush 16, 2) := by decide +kernel
theorem dX0_areStillAtBase_5 : decode cX0_areStillAtBase 5 = .ok (.if_icmp .ge 34, 3) := by decide +kernel
theorem dX0_areStillAtBase_8 : decode cX0_areStillAtBase 8 = .ok (.aload_n 0, 1) := by decide +kernel
theorem dX0_areStillAtBase_9 : decode cX0_areStillAtBase 9 = .ok (.iload_n 2, 1) := by decide +kernel
theorem dX0_areStillAtBase_10 : decode cX0_areStillAtBase 10 = .ok (.invokevirtual 73, 3) := by decide +kernel
theorem dX0_areStillAtBase_13 : decode cX0_areStillAtBase 13 = .ok (.ifCond .eq 20, 3) := by decide +kernel
theorem dX0_areStillAtBase_16 : decode cX0_areStillAtBase 16 = .ok (.aload_n 0, 1) := by decide +kernel
theorem dX0_areStillAtBase_17 : decode cX0_areStillAtBase 17 = .ok (.iload_n 2, 1) := by decide +kernel
theorem dX0_areStillAtBase_18 : decode cX0_areStillAtBase 18 = .ok (.iload_n 1, 1) := by decide +kernel
theorem dX0_areStillAtBase_19 : decode cX0_areStillAtBase 19 = .ok (.invokevirtual 53, 3) := by decide +kernel
theorem dX0_areStillAtBase_22 : decode cX0_areStillAtBase 22 = .ok (.aload_n 0, 1) := by decide +kernel
theorem dX0_areStillAtBase_23 : decode cX0_areStillAtBase 23 = .ok (.getfield 9, 3) := by decide +kernel
theorem dX0_areStillAtBase_26 : decode cX0_areStillAtBase 26 = .ok (.iload_n 2, 1) := by decide +kernel
theorem dX0_areStillAtBase_27 : decode cX0_areStillAtBase 27 = .ok (.iaload, 1) := by decide +kernel
theorem dX0_areStillAtBase_28 : decode cX0_areStillAtBase 28 = .ok (.if_icmp .eq 5, 3) := by decide +kernel
theorem dX0_areStillAtBase_31 : decode cX0_areStillAtBase 31 = .ok (.iconst 0, 1) := by decide +kernel
theorem dX0_areStillAtBase_32 : decode cX0_areStillAtBase 32 = .ok (.ireturn, 1) := by decide +kernel
theorem dX0_areStillAtBase_33 : decode cX0_areStillAtBase 33 = .ok (.iinc 2 1, 3) := by decide +kernel
theorem dX0_areStillAtBase_36 : decode cX0_areStillAtBase 36 = .ok (.goto (-34), 3) := by decide +kernel
theorem dX0_areStillAtBase_39 : decode cX0_areStillAtBase 39 = .ok (.iconst 1, 1) := by decide +kernel
theorem dX0_areStillAtBase_40 : decode cX0_areStillAtBase 40 = .ok (.ireturn, 1) := by decide +kernel
theorem q1_184 : (Jvm.Cond.methodLink "Cyclepaint$Palette" (73 : Nat) ({ cls := "Cyclepaint$Palette", name := "isStill", desc := "(I)Z" } : Jvm.MethodName)) ∈ lw_g := zg_of (zin1 (List.mem_of_getElem? (i := 184) rfl)) rfl
theorem q1_183 : (Jvm.Cond.code ({ cls := "Cyclepaint$Palette", name := "areStillAtBase", desc := "(I)Z" } : Jvm.MethodName) prog_2_method_22_code (3 : Nat) (Option.some Jvm.ClassFile.FieldType.boolean)) ∈ lw_g := zg_of (zin1 (List.mem_of_getElem? (i := 183) rfl)) rfl
theorem q1_181 : (Jvm.Cond.instanceMethod ({ cls := "Cyclepaint$Palette", name := "areStillAtBase", desc := "(I)Z" } : Jvm.MethodName)) ∈ lw_g := zg_of (zin1 (List.mem_of_getElem? (i := 181) rfl)) rfl
theorem q1_182 : (Jvm.Cond.selects "Cyclepaint$Palette" ({ cls := "Cyclepaint$Palette", name := "areStillAtBase", desc := "(I)Z" } : Jvm.MethodName) ({ cls := "Cyclepaint$Palette", name := "areStillAtBase", desc := "(I)Z" } : Jvm.MethodName)) ∈ lw_g := zg_of (zin1 (List.mem_of_getElem? (i := 182) rfl)) rfl
theorem ok_X0_areStillAtBase : zOV yX0_areStillAtBase cX0_areStillAtBase 3 ((Option.some Jvm.ClassFile.FieldType.boolean)) 1 := ⟨⟨q1_183, q1_2, by decide, by decide, by decide +kernel⟩, q1_181, q1_182⟩
set_option maxHeartbeats 4000000 in
set_option maxRecDepth 100000 in
theorem c_X0_areStillAtBase (l : Launch) (G : zG) (σ : St) (a : Nat → Nat) (w : Int) (hw : 0 ≤ w ∧ w ≤ 1000000) : Met l yX0_areStillAtBase (wq yX0_areStillAtBase cX0_areStillAtBase 3 ((Option.some Jvm.ClassFile.FieldType.boolean))) (rmR 2 46) (va_Pc [.ref (a 1), .int (zI (w))] (zK G (hPal G σ a))) (zQ (some (.int (bI (allI (sbB σ w) 16))))) 0 0 zF := by
  refine z_enterB (by decide +kernel) (Nat.le_of_ble_eq_true rfl) ?_
  intro p env s m below meth cod Q S hG hP ret ls hl
  have hl : lv_has ls 3 [(0, .ref (a 1)), (1, .int (zI (w)))] := hl
  refine z_iconst S dX0_areStillAtBase_0 ?_
  refine z_istore_n (lv' := [(2, .int (zI (0))), (0, .ref (a 1)), (1, .int (zI (w)))]) S dX0_areStillAtBase_1 hl rfl (by decide) rfl (fun ls hl => ?_)
  have loop_2 : ∀ (nn : Nat) (k : Int), (0 ≤ k ∧ k ≤ 16) → (∀ t : Int, 0 ≤ t → t < k → sbB σ w t = true) → ((16 - k).toNat) < nn → ∀ ls, lv_has ls 3 [(2, .int (zI (k))), (0, .ref (a 1)), (1, .int (zI (w)))] → W p l env (rmR 2 46) s m ([.ref (a 1), .int (zI (w))] : List Value).toArray below meth cod s.heap [] 0 0 Q (F0 m 2 ls []) := by
    intro nn
    induction nn with
    | zero => intro _ _ _ h; exact absurd h (Nat.not_lt_zero _)
    | succ nn ih_2 =>
      intro k hk hI hm_2 ls hl
      refine z_iload_n S dX0_areStillAtBase_2 hl 0 rfl rfl ?_
      refine z_bipush S dX0_areStillAtBase_3 rfl ?_
      refine z_icmp_ge S 39 dX0_areStillAtBase_5 (by decide) (by omega) (by omega) (fun c_5 => ?_) (fun c_5 => ?_)
      · skip
        refine z_iconst S dX0_areStillAtBase_39 ?_
        exact ret _ _ _ dX0_areStillAtBase_40 (by rw [show allI (sbB σ w) 16 = true from allI_iff.mpr (fun t h0 h1 => hI t h0 (by omega))]; rfl)
      · skip
        refine z_aload_n S dX0_areStillAtBase_8 hl 1 rfl rfl ?_
        refine z_iload_n S dX0_areStillAtBase_9 hl 0 rfl rfl ?_
        refine z_callVs S hG (c_X0_isStill l G σ a (k) (by omega)) ok_X0_isStill hP.1 zc_X0 rfl q1_184 (hP) ⟨rfl, rfl, by decide, by decide⟩ ⟨Nat.zero_le _, Nat.zero_le _⟩ rfl (Nat.le_of_ble_eq_true rfl) hl.1 rfl dX0_areStillAtBase_10 ?_
        refine z_bif_eq S 33 dX0_areStillAtBase_13 (by decide) (fun c_13 => ?_) (fun c_13 => ?_)
        · skip
          refine z_iinc (lv' := [(2, .int (zI (k + 1))), (0, .ref (a 1)), (1, .int (zI (w)))]) S dX0_areStillAtBase_33 hl 0 rfl (by decide) rfl (fun ls hl => ?_)
          refine z_goto S 2 dX0_areStillAtBase_36 (by decide) ?_
          exact ih_2 (k + 1) (by omega) (lt_stp hI (by unfold sbB; rw [c_13]; rfl)) (by omega) ls (lv_sub hl [0, 1, 2] rfl)
        · skip
          refine z_aload_n S dX0_areStillAtBase_16 hl 1 rfl rfl ?_
          refine z_iload_n S dX0_areStillAtBase_17 hl 0 rfl rfl ?_
          refine z_iload_n S dX0_areStillAtBase_18 hl 2 rfl rfl ?_
          refine z_callVs S hG (c_X0_shows l G σ a (k) (w) (by omega) (by omega)) ok_X0_shows hP.1 zc_X0 rfl q1_113 (hP) ⟨rfl, rfl, by decide, by decide⟩ ⟨Nat.zero_le _, Nat.zero_le _⟩ rfl (Nat.le_of_ble_eq_true rfl) hl.1 rfl dX0_areStillAtBase_19 ?_
          refine z_aload_n S dX0_areStillAtBase_22 hl 1 rfl rfl ?_
          refine z_get S hG hP.1 zc_X0 0 (by decide) q1_46 rfl rfl dX0_areStillAtBase_23 ?_
          refine z_iload_n S dX0_areStillAtBase_26 hl 0 rfl rfl ?_
          refine z_iald S hG hP.2.1 (by omega) (by decide) dX0_areStillAtBase_27 ?_
          refine lv_icmp_eq (tgt := 33) S.1 S.2.1 dX0_areStillAtBase_28 (by decide) (fun c_28 => ?_) (fun c_28 => ?_)
          · skip
            refine z_iinc (lv' := [(2, .int (zI (k + 1))), (0, .ref (a 1)), (1, .int (zI (w)))]) S dX0_areStillAtBase_33 hl 0 rfl (by decide) rfl (fun ls hl => ?_)
            refine z_goto S 2 dX0_areStillAtBase_36 (by decide) ?_
            exact ih_2 (k + 1) (by omega) (lt_stp hI (by unfold sbB; simp [c_28])) (by omega) ls (lv_sub hl [0, 1, 2] rfl)
          · skip
            refine z_iconst S dX0_areStillAtBase_31 ?_
            exact ret _ _ _ dX0_areStillAtBase_32 (by rw [show allI (sbB σ w) 16 = false from allI_no hk.1 (show k < 16 by omega) (by unfold sbB; rw [c_13]; simp [c_28])]; rfl)
  exact loop_2 _ (0) (by omega) (lt_st0) (Nat.lt_succ_self _) ls (lv_sub hl [0, 1, 2] rfl)
theorem dX0_areTwinsAlike_0 : decode cX0_areTwinsAlike 0 = .ok (.iconst 0, 1) := by decide +kernel
theorem dX0_areTwinsAlike_1 : decode cX0_areTwinsAlike 1 = .ok (.istore_n 2, 1) := by decide +kernel
theorem dX0_areTwinsAlike_2 : decode cX0_areTwinsAlike 2 = .ok (.iload_n 2, 1) := by decide +kernel
theorem dX0_areTwinsAlike_3 : decode cX0_areTwinsAlike 3 = .ok (.bipush 16, 2) := by decide +kernel
theorem dX0_areTwinsAlike_5 : decode cX0_areTwinsAlike 5 = .ok (.if_icmp .ge 48, 3) := by decide +kernel
theorem dX0_areTwinsAlike_8 : decode cX0_areTwinsAlike 8 = .ok (.iconst 0, 1) := by decide +kernel
theorem dX0_areTwinsAlike_9 : decode cX0_areTwinsAlike 9 = .ok (.istore_n 3, 1) := by decide +kernel
theorem dX0_areTwinsAlike_10 : decode cX0_areTwinsAlike 10 = .ok (.iload_n 3, 1) := by decide +kernel
theorem dX0_areTwinsAlike_11 : decode cX0_areTwinsAlike 11 = .ok (.iload_n 2, 1) := by decide +kernel
theorem dX0_areTwinsAlike_12 : decode cX0_areTwinsAlike 12 = .ok (.if_icmp .ge 35, 3) := by decide +kernel
theorem dX0_areTwinsAlike_15 : decode cX0_areTwinsAlike 15 = .ok (.aload_n 0, 1) := by decide +kernel
theorem dX0_areTwinsAlike_16 : decode cX0_areTwinsAlike 16 = .ok (.iload_n 2, 1) := by decide +kernel
theorem dX0_areTwinsAlike_17 : decode cX0_areTwinsAlike 17 = .ok (.iload_n 3, 1) := by decide +kernel
theorem dX0_areTwinsAlike_18 : decode cX0_areTwinsAlike 18 = .ok (.invokevirtual 59, 3) := by decide +kernel
theorem dX0_areTwinsAlike_21 : decode cX0_areTwinsAlike 21 = .ok (.ifCond .eq 20, 3) := by decide +kernel
theorem dX0_areTwinsAlike_24 : decode cX0_areTwinsAlike 24 = .ok (.aload_n 0, 1) := by decide +kernel
theorem dX0_areTwinsAlike_25 : decode cX0_areTwinsAlike 25 = .ok (.iload_n 2, 1) := by decide +kernel
theorem dX0_areTwinsAlike_26 : decode cX0_areTwinsAlike 26 = .ok (.iload_n 1, 1) := by decide +kernel
theorem dX0_areTwinsAlike_27 : decode cX0_areTwinsAlike 27 = .ok (.invokevirtual 53, 3) := by decide +kernel
theorem dX0_areTwinsAlike_30 : decode cX0_areTwinsAlike 30 = .ok (.aload_n 0, 1) := by decide +kernel
theorem dX0_areTwinsAlike_31 : decode cX0_areTwinsAlike 31 = .ok (.iload_n 3, 1) := by decide +kernel
theorem dX0_areTwinsAlike_32 : decode cX0_areTwinsAlike 32 = .ok (.iload_n 1, 1) := by decide +kernel
theorem dX0_areTwinsAlike_33 : decode cX0_areTwinsAlike 33 = .ok (.invokevirtual 53, 3) := by decide +kernel
theorem dX0_areTwinsAlike_36 : decode cX0_areTwinsAlike 36 = .ok (.if_icmp .eq 5, 3) := by decide +kernel
theorem dX0_areTwinsAlike_39 : decode cX0_areTwinsAlike 39 = .ok (.iconst 0, 1) := by decide +kernel
theorem dX0_areTwinsAlike_40 : decode cX0_areTwinsAlike 40 = .ok (.ireturn, 1) := by decide +kernel
theorem dX0_areTwinsAlike_41 : decode cX0_areTwinsAlike 41 = .ok (.iinc 3 1, 3) := by decide +kernel
theorem dX0_areTwinsAlike_44 : decode cX0_areTwinsAlike 44 = .ok (.goto (-34), 3) := by decide +kernel
theorem dX0_areTwinsAlike_47 : decode cX0_areTwinsAlike 47 = .ok (.iinc 2 1, 3) := by decide +kernel
theorem dX0_areTwinsAlike_50 : decode cX0_areTwinsAlike 50 = .ok (.goto (-48), 3) := by decide +kernel
theorem dX0_areTwinsAlike_53 : decode cX0_areTwinsAlike 53 = .ok (.iconst 1, 1) := by decide +kernel
theorem dX0_areTwinsAlike_54 : decode cX0_areTwinsAlike 54 = .ok (.ireturn, 1) := by decide +kernel
theorem q1_195 : (Jvm.Cond.code ({ cls := "Cyclepaint$Palette", name := "areTwinsAlike", desc := "(I)Z" } : Jvm.MethodName) prog_2_method_23_code (4 : Nat) (Option.some Jvm.ClassFile.FieldType.boolean)) ∈ lw_g := zg_of (zin1 (List.mem_of_getElem? (i := 195) rfl)) rfl
theorem q1_193 : (Jvm.Cond.instanceMethod ({ cls := "Cyclepaint$Palette", name := "areTwinsAlike", desc := "(I)Z" } : Jvm.MethodName)) ∈ lw_g := zg_of (zin1 (List.mem_of_getElem? (i := 193) rfl)) rfl
theorem q1_194 : (Jvm.Cond.selects "Cyclepaint$Palette" ({ cls := "Cyclepaint$Palette", name := "areTwinsAlike", desc := "(I)Z" } : Jvm.MethodName) ({ cls := "Cyclepaint$Palette", name := "areTwinsAlike", desc := "(I)Z" } : Jvm.MethodName)) ∈ lw_g := zg_of (zin1 (List.mem_of_getElem? (i := 194) rfl)) rfl
theorem ok_X0_areTwinsAlike : zOV yX0_areTwinsAlike cX0_areTwinsAlike 4 ((Option.some Jvm.ClassFile.FieldType.boolean)) 1 := ⟨⟨q1_195, q1_2, by decide, by decide, by decide +kernel⟩, q1_193, q1_194⟩
set_option maxHeartbeats 4000000 in
set_option maxRecDepth 100000 in
theorem c_X0_areTwinsAlike (l : Launch) (G : zG) (σ : St) (a : Nat → Nat) (w : Int) (hw : 0 ≤ w ∧ w ≤ 1000000) : Met l yX0_areTwinsAlike (wq yX0_areTwinsAlike cX0_areTwinsAlike 4 ((Option.some Jvm.ClassFile.FieldType.boolean))) (rmR 3 70) (va_Pc [.ref (a 1), .int (zI (w))] (zK G (hPal G σ a))) (zQ (some (.int (bI (allI (fun e => allI (taB σ w e) e) 16))))) 0 0 zF := by
  refine z_enterB (by decide +kernel) (Nat.le_of_ble_eq_true rfl) ?_
  intro p env s m below meth cod Q S hG hP ret ls hl
  have hl : lv_has ls 4 [(0, .ref (a 1)), (1, .int (zI (w)))] := hl
  refine z_iconst S dX0_areTwinsAlike_0 ?_
  refine z_istore_n (lv' := [(2, .int (zI (0))), (0, .ref (a 1)), (1, .int (zI (w)))]) S dX0_areTwinsAlike_1 hl rfl (by decide) rfl (fun ls hl => ?_)
  have loop_2 : ∀ (nn : Nat) (k : Int), (0 ≤ k ∧ k ≤ 16) → (∀ t : Int, 0 ≤ t → t < k → (fun e => allI (taB σ w e) e) t = true) → ((16 - k).toNat) < nn → ∀ ls, lv_has ls 4 [(2, .int (zI (k))), (0, .ref (a 1)), (1, .int (zI (w)))] → W p l env (rmR 3 70) s m ([.ref (a 1), .int (zI (w))] : List Value).toArray below meth cod s.heap [] 0 0 Q (F0 m 2 ls []) := by
    intro nn
    induction nn with
    | zero => intro _ _ _ h; exact absurd h (Nat.not_lt_zero _)
    | succ nn ih_2 =>
      intro k hk hI hm_2 ls hl
      refine z_iload_n S dX0_areTwinsAlike_2 hl 0 rfl rfl ?_
      refine z_bipush S dX0_areTwinsAlike_3 rfl ?_
      refine z_icmp_ge S 53 dX0_areTwinsAlike_5 (by decide) (by omega) (by omega) (fun c_5 => ?_) (fun c_5 => ?_)
      · skip
        refine z_iconst S dX0_areTwinsAlike_53 ?_
        exact ret _ _ _ dX0_areTwinsAlike_54 (by rw [show allI (fun e => allI (taB σ w e) e) 16 = true from allI_iff.mpr (fun t h0 h1 => hI t h0 (by omega))]; rfl)
      · skip
        refine z_iconst S dX0_areTwinsAlike_8 ?_
        refine z_istore_n (lv' := [(3, .int (zI (0))), (2, .int (zI (k))), (0, .ref (a 1)), (1, .int (zI (w)))]) S dX0_areTwinsAlike_9 hl rfl (by decide) rfl (fun ls hl => ?_)
        have loop_10 : ∀ (nn : Nat) (o : Int), (0 ≤ o ∧ o ≤ k) → (∀ t : Int, 0 ≤ t → t < o → taB σ w k t = true) → ((k - o).toNat) < nn → ∀ ls, lv_has ls 4 [(3, .int (zI (o))), (2, .int (zI (k))), (0, .ref (a 1)), (1, .int (zI (w)))] → W p l env (rmR 3 70) s m ([.ref (a 1), .int (zI (w))] : List Value).toArray below meth cod s.heap [] 0 0 Q (F0 m 10 ls []) := by
          intro nn
          induction nn with
          | zero => intro _ _ _ h; exact absurd h (Nat.not_lt_zero _)
          | succ nn ih_10 =>
            intro o ho hJ hm_10 ls hl
            refine z_iload_n S dX0_areTwinsAlike_10 hl 0 rfl rfl ?_
            refine z_iload_n S dX0_areTwinsAlike_11 hl 1 rfl rfl ?_
            refine z_icmp_ge S 47 dX0_areTwinsAlike_12 (by decide) (by omega) (by omega) (fun c_12 => ?_) (fun c_12 => ?_)
            · skip
              refine z_iinc (lv' := [(2, .int (zI (k + 1))), (3, .int (zI (o))), (0, .ref (a 1)), (1, .int (zI (w)))]) S dX0_areTwinsAlike_47 hl 1 rfl (by decide) rfl (fun ls hl => ?_)
              refine z_goto S 2 dX0_areTwinsAlike_50 (by decide) ?_
              exact ih_2 (k + 1) (by omega) (lt_stp hI (allI_iff.mpr (fun t h0 h1 => hJ t h0 (by omega)))) (by omega) ls (lv_sub hl [0, 2, 3] rfl)
            · skip
              have c_12x : o < k := by omega
              refine z_aload_n S dX0_areTwinsAlike_15 hl 2 rfl rfl ?_
              refine z_iload_n S dX0_areTwinsAlike_16 hl 1 rfl rfl ?_
              refine z_iload_n S dX0_areTwinsAlike_17 hl 0 rfl rfl ?_
              refine z_callVs S hG (c_X0_areTwins l G σ a (k) (o) (by omega) (by omega)) ok_X0_areTwins hP.1 zc_X0 rfl q1_93 (hP) ⟨rfl, rfl, by decide, by decide⟩ ⟨Nat.zero_le _, Nat.zero_le _⟩ rfl (Nat.le_of_ble_eq_true rfl) hl.1 rfl dX0_areTwinsAlike_18 ?_
              refine z_bif_eq S 41 dX0_areTwinsAlike_21 (by decide) (fun c_21 => ?_) (fun c_21 => ?_)
              · skip
                refine z_iinc (lv' := [(3, .int (zI (o + 1))), (2, .int (zI (k))), (0, .ref (a 1)), (1, .int (zI (w)))]) S dX0_areTwinsAlike_41 hl 0 rfl (by decide) rfl (fun ls hl => ?_)
                refine z_goto S 10 dX0_areTwinsAlike_44 (by decide) ?_
                exact ih_10 (o + 1) (by omega) (lt_stp hJ (by unfold taB; rw [c_21]; rfl)) (by omega) ls (lv_sub hl [0, 1, 2, 3] rfl)
              · skip
                refine z_aload_n S dX0_areTwinsAlike_24 hl 2 rfl rfl ?_
                refine z_iload_n S dX0_areTwinsAlike_25 hl 1 rfl rfl ?_
                refine z_iload_n S dX0_areTwinsAlike_26 hl 3 rfl rfl ?_
                refine z_callVs S hG (c_X0_shows l G σ a (k) (w) (by omega) (by omega)) ok_X0_shows hP.1 zc_X0 rfl q1_113 (hP) ⟨rfl, rfl, by decide, by decide⟩ ⟨Nat.zero_le _, Nat.zero_le _⟩ rfl (Nat.le_of_ble_eq_true rfl) hl.1 rfl dX0_areTwinsAlike_27 ?_
                refine z_aload_n S dX0_areTwinsAlike_30 hl 2 rfl rfl ?_
                refine z_iload_n S dX0_areTwinsAlike_31 hl 0 rfl rfl ?_
                refine z_iload_n S dX0_areTwinsAlike_32 hl 3 rfl rfl ?_
                refine z_callVs S hG (c_X0_shows l G σ a (o) (w) (by omega) (by omega)) ok_X0_shows hP.1 zc_X0 rfl q1_113 (hP) ⟨rfl, rfl, by decide, by decide⟩ ⟨Nat.zero_le _, Nat.zero_le _⟩ rfl (Nat.le_of_ble_eq_true rfl) hl.1 rfl dX0_areTwinsAlike_33 ?_
                refine lv_icmp_eq (tgt := 41) S.1 S.2.1 dX0_areTwinsAlike_36 (by decide) (fun c_36 => ?_) (fun c_36 => ?_)
                · skip
                  refine z_iinc (lv' := [(3, .int (zI (o + 1))), (2, .int (zI (k))), (0, .ref (a 1)), (1, .int (zI (w)))]) S dX0_areTwinsAlike_41 hl 0 rfl (by decide) rfl (fun ls hl => ?_)
                  refine z_goto S 10 dX0_areTwinsAlike_44 (by decide) ?_
                  exact ih_10 (o + 1) (by omega) (lt_stp hJ (by unfold taB; simp [c_36])) (by omega) ls (lv_sub hl [0, 1, 2, 3] rfl)
                · skip
                  refine z_iconst S dX0_areTwinsAlike_39 ?_
                  exact ret _ _ _ dX0_areTwinsAlike_40 (by rw [show allI (fun e => allI (taB σ w e) e) 16 = false from allI_no hk.1 (show k < 16 by omega) (allI_no ho.1 c_12x (by unfold taB; rw [c_21]; simp [c_36]))]; rfl)
        exact loop_10 _ (0) (by omega) (lt_st0) (Nat.lt_succ_self _) ls (lv_sub hl [0, 1, 2, 3] rfl)
  exact loop_2 _ (0) (by omega) (lt_st0) (Nat.lt_succ_self _) ls (lv_sub hl [0, 1, 2] rfl)
theorem dX0_areRangesApart_0 : decode cX0_areRangesApart 0 = .ok (.iconst 0, 1) := by decide +kernel
theorem dX0_areRangesApart_1 : decode cX0_areRangesApart 1 = .ok (.istore_n 1, 1) := by decide +kernel
theorem dX0_areRangesApart_2 : decode cX0_areRangesApart 2 = .ok (.iload_n 1, 1) := by decide +kernel
theorem dX0_areRangesApart_3 : decode cX0_areRangesApart 3 = .ok (.bipush 16, 2) := by decide +kernel
theorem dX0_areRangesApart_5 : decode cX0_areRangesApart 5 = .ok (.if_icmp .ge 56, 3) := by decide +kernel
theorem dX0_areRangesApart_8 : decode cX0_areRangesApart 8 = .ok (.iconst 0, 1) := by decide +kernel
theorem dX0_areRangesApart_9 : decode cX0_areRangesApart 9 = .ok (.istore_n 2, 1) := by decide +kernel
theorem dX0_areRangesApart_10 : decode cX0_areRangesApart 10 = .ok (.iconst 0, 1) := by decide +kernel
theorem dX0_areRangesApart_11 : decode cX0_areRangesApart 11 = .ok (.istore_n 3, 1) := by decide +kernel
theorem dX0_areRangesApart_12 : decode cX0_areRangesApart 12 = .ok (.iload_n 3, 1) := by decide +kernel
theorem dX0_areRangesApart_13 : decode cX0_areRangesApart 13 = .ok (.iconst 4, 1) := by decide +kernel
theorem dX0_areRangesApart_14 : decode cX0_areRangesApart 14 = .ok (.if_icmp .ge 34, 3) := by decide +kernel
theorem dX0_areRangesApart_17 : decode cX0_areRangesApart 17 = .ok (.aload_n 0, 1) := by decide +kernel
theorem dX0_areRangesApart_18 : decode cX0_areRangesApart 18 = .ok (.getfield 20, 3) := by decide +kernel
theorem dX0_areRangesApart_21 : decode cX0_areRangesApart 21 = .ok (.iload_n 3, 1) := by decide +kernel
theorem dX0_areRangesApart_22 : decode cX0_areRangesApart 22 = .ok (.aaload, 1) := by decide +kernel
theorem dX0_areRangesApart_23 : decode cX0_areRangesApart 23 = .ok (.ifnull 19, 3) := by decide +kernel
theorem dX0_areRangesApart_26 : decode cX0_areRangesApart 26 = .ok (.aload_n 0, 1) := by decide +kernel
theorem dX0_areRangesApart_27 : decode cX0_areRangesApart 27 = .ok (.getfield 20, 3) := by decide +kernel
theorem dX0_areRangesApart_30 : decode cX0_areRangesApart 30 = .ok (.iload_n 3, 1) := by decide +kernel
theorem dX0_areRangesApart_31 : decode cX0_areRangesApart 31 = .ok (.aaload, 1) := by decide +kernel
theorem dX0_areRangesApart_32 : decode cX0_areRangesApart 32 = .ok (.iload_n 1, 1) := by decide +kernel
theorem dX0_areRangesApart_33 : decode cX0_areRangesApart 33 = .ok (.invokevirtual 35, 3) := by decide +kernel
theorem dX0_areRangesApart_36 : decode cX0_areRangesApart 36 = .ok (.ifCond .eq 6, 3) := by decide +kernel
theorem dX0_areRangesApart_39 : decode cX0_areRangesApart 39 = .ok (.iinc 2 1, 3) := by decide +kernel
theorem dX0_areRangesApart_42 : decode cX0_areRangesApart 42 = .ok (.iinc 3 1, 3) := by decide +kernel
theorem dX0_areRangesApart_45 : decode cX0_areRangesApart 45 = .ok (.goto (-33), 3) := by decide +kernel
theorem dX0_areRangesApart_48 : decode cX0_areRangesApart 48 = .ok (.iload_n 2, 1) := by decide +kernel
theorem dX0_areRangesApart_49 : decode cX0_areRangesApart 49 = .ok (.iconst 1, 1) := by decide +kernel
theorem dX0_areRangesApart_50 : decode cX0_areRangesApart 50 = .ok (.if_icmp .le 5, 3) := by decide +kernel
theorem dX0_areRangesApart_53 : decode cX0_areRangesApart 53 = .ok (.iconst 0, 1) := by decide +kernel
theorem dX0_areRangesApart_54 : decode cX0_areRangesApart 54 = .ok (.ireturn, 1) := by decide +kernel
theorem dX0_areRangesApart_55 : decode cX0_areRangesApart 55 = .ok (.iinc 1 1, 3) := by decide +kernel
theorem dX0_areRangesApart_58 : decode cX0_areRangesApart 58 = .ok (.goto (-56), 3) := by decide +kernel
theorem dX0_areRangesApart_61 : decode cX0_areRangesApart 61 = .ok (.iconst 1, 1) := by decide +kernel
theorem dX0_areRangesApart_62 : decode cX0_areRangesApart 62 = .ok (.ireturn, 1) := by decide +kernel
theorem q1_213 : (Jvm.Cond.code ({ cls := "Cyclepaint$Palette", name := "areRangesApart", desc := "()Z" } : Jvm.MethodName) prog_2_method_24_code (4 : Nat) (Option.some Jvm.ClassFile.FieldType.boolean)) ∈ lw_g := zg_of (zin1 (List.mem_of_getElem? (i := 213) rfl)) rfl
theorem q1_211 : (Jvm.Cond.instanceMethod ({ cls := "Cyclepaint$Palette", name := "areRangesApart", desc := "()Z" } : Jvm.MethodName)) ∈ lw_g := zg_of (zin1 (List.mem_of_getElem? (i := 211) rfl)) rfl
theorem q1_212 : (Jvm.Cond.selects "Cyclepaint$Palette" ({ cls := "Cyclepaint$Palette", name := "areRangesApart", desc := "()Z" } : Jvm.MethodName) ({ cls := "Cyclepaint$Palette", name := "areRangesApart", desc := "()Z" } : Jvm.MethodName)) ∈ lw_g := zg_of (zin1 (List.mem_of_getElem? (i := 212) rfl)) rfl
theorem ok_X0_areRangesApart : zOV yX0_areRangesApart cX0_areRangesApart 4 ((Option.some Jvm.ClassFile.FieldType.boolean)) 0 := ⟨⟨q1_213, q1_2, by decide, by decide, by decide +kernel⟩, q1_211, q1_212⟩
set_option maxHeartbeats 4000000 in
set_option maxRecDepth 100000 in
theorem c_X0_areRangesApart (l : Launch) (G : zG) (σ : St) (a : Nat → Nat) : Met l yX0_areRangesApart (wq yX0_areRangesApart cX0_areRangesApart 4 ((Option.some Jvm.ClassFile.FieldType.boolean))) (rmR 1 21) (va_Pc [.ref (a 1)] (zK G (hPal G σ a))) (zQ (some (.int (bI (allI (raB σ) 16))))) 0 0 zF := by
  refine z_enterB (by decide +kernel) (Nat.le_of_ble_eq_true rfl) ?_
  intro p env s m below meth cod Q S hG hP ret ls hl
  have hl : lv_has ls 4 [(0, .ref (a 1))] := hl
  have hO := hP.2.2.2.2.2
  have hrn := hP.2.2.2.2.2.1
  refine z_iconst S dX0_areRangesApart_0 ?_
  refine z_istore_n (lv' := [(1, .int (zI (0))), (0, .ref (a 1))]) S dX0_areRangesApart_1 hl rfl (by decide) rfl (fun ls hl => ?_)
  have loop_2 : ∀ (nn : Nat) (k : Int), (0 ≤ k ∧ k ≤ 16) → (∀ t : Int, 0 ≤ t → t < k → raB σ t = true) → ((16 - k).toNat) < nn → ∀ ls, lv_has ls 4 [(1, .int (zI (k))), (0, .ref (a 1))] → W p l env (rmR 1 21) s m ([.ref (a 1)] : List Value).toArray below meth cod s.heap [] 0 0 Q (F0 m 2 ls []) := by
    intro nn
    induction nn with
    | zero => intro _ _ _ h; exact absurd h (Nat.not_lt_zero _)
    | succ nn ih_2 =>
      intro k hk hI hm_2 ls hl
      refine z_iload_n S dX0_areRangesApart_2 hl 0 rfl rfl ?_
      refine z_bipush S dX0_areRangesApart_3 rfl ?_
      refine z_icmp_ge S 61 dX0_areRangesApart_5 (by decide) (by omega) (by omega) (fun c_5 => ?_) (fun c_5 => ?_)
      · skip
        refine z_iconst S dX0_areRangesApart_61 ?_
        exact ret _ _ _ dX0_areRangesApart_62 (by rw [show allI (raB σ) 16 = true from allI_iff.mpr (fun t h0 h1 => hI t h0 (by omega))]; rfl)
      · skip
        refine z_iconst S dX0_areRangesApart_8 ?_
        refine z_istore_n (lv' := [(2, .int (zI (0))), (1, .int (zI (k))), (0, .ref (a 1))]) S dX0_areRangesApart_9 hl rfl (by decide) rfl (fun ls hl => ?_)
        refine z_iconst S dX0_areRangesApart_10 ?_
        refine z_istore_n (lv' := [(3, .int (zI (0))), (2, .int (zI (0))), (1, .int (zI (k))), (0, .ref (a 1))]) S dX0_areRangesApart_11 hl rfl (by decide) rfl (fun ls hl => ?_)
        have loop_12 : ∀ (nn : Nat) (j : Int) (ch : Int), (0 ≤ j ∧ j ≤ 4) → (ch = cntI (fun j => rgIn σ j k) j) → ((4 - j).toNat) < nn → ∀ ls, lv_has ls 4 [(3, .int (zI (j))), (2, .int (zI (ch))), (1, .int (zI (k))), (0, .ref (a 1))] → W p l env (rmR 1 21) s m ([.ref (a 1)] : List Value).toArray below meth cod s.heap [] 0 0 Q (F0 m 12 ls []) := by
          intro nn
          induction nn with
          | zero => intro _ _ _ _ h; exact absurd h (Nat.not_lt_zero _)
          | succ nn ih_12 =>
            intro j ch hj hch hm_12 ls hl
            have hcb := cntI_b (fun j => rgIn σ j k) hj.1
            refine z_iload_n S dX0_areRangesApart_12 hl 0 rfl rfl ?_
            refine z_iconst S dX0_areRangesApart_13 ?_
            refine z_icmp_ge S 48 dX0_areRangesApart_14 (by decide) (by omega) (by omega) (fun c_14 => ?_) (fun c_14 => ?_)
            · skip
              refine z_iload_n S dX0_areRangesApart_48 hl 1 rfl rfl ?_
              refine z_iconst S dX0_areRangesApart_49 ?_
              refine z_icmp_le S 55 dX0_areRangesApart_50 (by decide) (by omega) (by omega) (fun c_50 => ?_) (fun c_50 => ?_)
              · skip
                refine z_iinc (lv' := [(1, .int (zI (k + 1))), (3, .int (zI (j))), (2, .int (zI (ch))), (0, .ref (a 1))]) S dX0_areRangesApart_55 hl 2 rfl (by decide) rfl (fun ls hl => ?_)
                refine z_goto S 2 dX0_areRangesApart_58 (by decide) ?_
                exact ih_2 (k + 1) (by omega) (lt_stp hI (by unfold raB; rw [← show ch = cntI (fun j => rgIn σ j k) 4 by rw [hch, show j = 4 by omega]]; simp; omega)) (by omega) ls (lv_sub hl [0, 3] rfl)
              · skip
                refine z_iconst S dX0_areRangesApart_53 ?_
                exact ret _ _ _ dX0_areRangesApart_54 (by rw [show allI (raB σ) 16 = false from allI_no hk.1 (show k < 16 by omega) (by unfold raB; rw [← show ch = cntI (fun j => rgIn σ j k) 4 by rw [hch, show j = 4 by omega]]; simp; omega)]; rfl)
            · skip
              by_cases hr : j < σ.rn
              · skip
                have hok := hO.2 j hj.1 hr
                refine z_aload_n S dX0_areRangesApart_17 hl 3 rfl rfl ?_
                refine z_get S hG hP.1 zc_X0 2 (by decide) q1_48 rfl rfl dX0_areRangesApart_18 ?_
                refine z_iload_n S dX0_areRangesApart_21 hl 0 rfl rfl ?_
                refine z_aaldR S hG hP.2.2.2.1 (by omega) (by decide) dX0_areRangesApart_22 ?_
                rw [show rgA σ a (j) = some (a (8 + Int.toNat (j))) from if_pos (by omega)]
                refine z_ifnull_r S 42 dX0_areRangesApart_23 (by decide) ?_
                refine z_aload_n S dX0_areRangesApart_26 hl 3 rfl rfl ?_
                refine z_get S hG hP.1 zc_X0 2 (by decide) q1_48 rfl rfl dX0_areRangesApart_27 ?_
                refine z_iload_n S dX0_areRangesApart_30 hl 0 rfl rfl ?_
                refine z_aaldR S hG hP.2.2.2.1 (by omega) (by decide) dX0_areRangesApart_31 ?_
                rw [show rgA σ a (j) = some (a (8 + Int.toNat (j))) from if_pos (by omega)]
                refine z_iload_n S dX0_areRangesApart_32 hl 2 rfl rfl ?_
                refine z_callVs S hG (c_X1_holds l G (a (8 + Int.toNat (j))) (σ.F (j)) (σ.L (j)) (σ.S (j)) (σ.K (j)) (k) (by omega)) ok_X1_holds (hP.2.2.2.2.1 (j) (by omega) (by omega)) zc_X1 rfl q1_188 (hP.2.2.2.2.1 (j) (by omega) (by omega)) ⟨rfl, rfl, by decide, by decide⟩ ⟨Nat.zero_le _, Nat.zero_le _⟩ rfl (Nat.le_of_ble_eq_true rfl) hl.1 rfl dX0_areRangesApart_33 ?_
                refine z_bif_eq S 42 dX0_areRangesApart_36 (by decide) (fun c_36 => ?_) (fun c_36 => ?_)
                · skip
                  refine z_iinc (lv' := [(3, .int (zI (j + 1))), (2, .int (zI (ch))), (1, .int (zI (k))), (0, .ref (a 1))]) S dX0_areRangesApart_42 hl 0 rfl (by decide) rfl (fun ls hl => ?_)
                  refine z_goto S 12 dX0_areRangesApart_45 (by decide) ?_
                  exact ih_12 (j + 1) (ch) (by omega) (by rw [hch]; exact (cntI_f hj.1 (by unfold rgIn; rw [c_36]; simp)).symm) (by omega) ls (lv_sub hl [0, 1, 2, 3] rfl)
                · skip
                  refine z_iinc (lv' := [(2, .int (zI (ch + 1))), (3, .int (zI (j))), (1, .int (zI (k))), (0, .ref (a 1))]) S dX0_areRangesApart_39 hl 1 rfl (by decide) rfl (fun ls hl => ?_)
                  refine z_iinc (lv' := [(3, .int (zI (j + 1))), (2, .int (zI (ch + 1))), (1, .int (zI (k))), (0, .ref (a 1))]) S dX0_areRangesApart_42 hl 1 rfl (by decide) rfl (fun ls hl => ?_)
                  refine z_goto S 12 dX0_areRangesApart_45 (by decide) ?_
                  exact ih_12 (j + 1) (ch + 1) (by omega) (by rw [hch]; exact (cntI_t hj.1 (by unfold rgIn; rw [c_36]; simp [hr])).symm) (by omega) ls (lv_sub hl [0, 1, 2, 3] rfl)
              · skip
                refine z_aload_n S dX0_areRangesApart_17 hl 3 rfl rfl ?_
                refine z_get S hG hP.1 zc_X0 2 (by decide) q1_48 rfl rfl dX0_areRangesApart_18 ?_
                refine z_iload_n S dX0_areRangesApart_21 hl 0 rfl rfl ?_
                refine z_aaldR S hG hP.2.2.2.1 (by omega) (by decide) dX0_areRangesApart_22 ?_
                rw [show rgA σ a (j) = none from if_neg (by omega)]
                refine z_ifnull_n S 42 dX0_areRangesApart_23 (by decide) ?_
                refine z_iinc (lv' := [(3, .int (zI (j + 1))), (2, .int (zI (ch))), (1, .int (zI (k))), (0, .ref (a 1))]) S dX0_areRangesApart_42 hl 0 rfl (by decide) rfl (fun ls hl => ?_)
                refine z_goto S 12 dX0_areRangesApart_45 (by decide) ?_
                exact ih_12 (j + 1) (ch) (by omega) (by rw [hch]; exact (cntI_f hj.1 (by simp [rgIn, hr])).symm) (by omega) ls (lv_sub hl [0, 1, 2, 3] rfl)
        exact loop_12 _ (0) (0) (by omega) (rfl) (Nat.lt_succ_self _) ls (lv_sub hl [0, 1, 2, 3] rfl)
  exact loop_2 _ (0) (by omega) (lt_st0) (Nat.lt_succ_self _) ls (lv_sub hl [0, 1] rfl)
theorem dX0_isFree_0 : decode cX0_isFree 0 = .ok (.iconst 0, 1) := by decide +kernel
theorem dX0_isFree_1 : decode cX0_isFree 1 = .ok (.istore_n 3, 1) := by decide +kernel
theorem dX0_isFree_2 : decode cX0_isFree 2 = .ok (.iload_n 3, 1) := by decide +kernel
theorem dX0_isFree_3 : decode cX0_isFree 3 = .ok (.bipush 16, 2) := by decide +kernel
theorem dX0_isFree_5 : decode cX0_isFree 5 = .ok (.if_icmp .ge 31, 3) := by decide +kernel
theorem dX0_isFree_8 : decode cX0_isFree 8 = .ok (.iload_n 3, 1) := by decide +kernel
theorem dX0_isFree_9 : decode cX0_isFree 9 = .ok (.iload_n 1, 1) := by decide +kernel
theorem dX0_isFree_10 : decode cX0_isFree 10 = .ok (.if_icmp .lt 20, 3) := by decide +kernel
theorem dX0_isFree_13 : decode cX0_isFree 13 = .ok (.iload_n 3, 1) := by decide +kernel
theorem dX0_isFree_14 : decode cX0_isFree 14 = .ok (.iload_n 2, 1) := by decide +kernel
theorem dX0_isFree_15 : decode cX0_isFree 15 = .ok (.if_icmp .gt 15, 3) := by decide +kernel
theorem dX0_isFree_18 : decode cX0_isFree 18 = .ok (.aload_n 0, 1) := by decide +kernel
theorem dX0_isFree_19 : decode cX0_isFree 19 = .ok (.getfield 15, 3) := by decide +kernel
theorem dX0_isFree_22 : decode cX0_isFree 22 = .ok (.iload_n 3, 1) := by decide +kernel
theorem dX0_isFree_23 : decode cX0_isFree 23 = .ok (.iaload, 1) := by decide +kernel
theorem dX0_isFree_24 : decode cX0_isFree 24 = .ok (.iconst (-1), 1) := by decide +kernel
theorem dX0_isFree_25 : decode cX0_isFree 25 = .ok (.if_icmp .eq 5, 3) := by decide +kernel
theorem dX0_isFree_28 : decode cX0_isFree 28 = .ok (.iconst 0, 1) := by decide +kernel
theorem dX0_isFree_29 : decode cX0_isFree 29 = .ok (.ireturn, 1) := by decide +kernel
theorem dX0_isFree_30 : decode cX0_isFree 30 = .ok (.iinc 3 1, 3) := by decide +kernel
theorem dX0_isFree_33 : decode cX0_isFree 33 = .ok (.goto (-31), 3) := by decide +kernel
theorem dX0_isFree_36 : decode cX0_isFree 36 = .ok (.iconst 1, 1) := by decide +kernel
theorem dX0_isFree_37 : decode cX0_isFree 37 = .ok (.ireturn, 1) := by decide +kernel
theorem q2_216 : (Jvm.Cond.code ({ cls := "Cyclepaint$Palette", name := "isFree", desc := "(II)Z" } : Jvm.MethodName) prog_2_method_7_code (4 : Nat) (Option.some Jvm.ClassFile.FieldType.boolean)) ∈ lw_g := zg_of (zin2 (List.mem_of_getElem? (i := 216) rfl)) rfl
theorem q2_214 : (Jvm.Cond.instanceMethod ({ cls := "Cyclepaint$Palette", name := "isFree", desc := "(II)Z" } : Jvm.MethodName)) ∈ lw_g := zg_of (zin2 (List.mem_of_getElem? (i := 214) rfl)) rfl
theorem q2_215 : (Jvm.Cond.selects "Cyclepaint$Palette" ({ cls := "Cyclepaint$Palette", name := "isFree", desc := "(II)Z" } : Jvm.MethodName) ({ cls := "Cyclepaint$Palette", name := "isFree", desc := "(II)Z" } : Jvm.MethodName)) ∈ lw_g := zg_of (zin2 (List.mem_of_getElem? (i := 215) rfl)) rfl
theorem ok_X0_isFree : zOV yX0_isFree cX0_isFree 4 ((Option.some Jvm.ClassFile.FieldType.boolean)) 2 := ⟨⟨q2_216, q1_2, by decide, by decide, by decide +kernel⟩, q2_214, q2_215⟩
set_option maxHeartbeats 4000000 in
set_option maxRecDepth 100000 in
theorem c_X0_isFree (l : Launch) (G : zG) (σ : St) (a : Nat → Nat) (f u : Int) (hf : 0 ≤ f ∧ f < 16) (hu : 0 ≤ u ∧ u < 16) : Met l yX0_isFree (wq yX0_isFree cX0_isFree 4 ((Option.some Jvm.ClassFile.FieldType.boolean))) (rmR 0 0) (va_Pc [.ref (a 1), .int (zI (f)), .int (zI (u))] (zK G (hPal G σ a))) (zQ (some (.int (bI (allI (frB σ f u) 16))))) 0 0 zF := by
  refine z_enterB (by decide +kernel) (Nat.le_of_ble_eq_true rfl) ?_
  intro p env s m below meth cod Q S hG hP ret ls hl
  have hl : lv_has ls 4 [(0, .ref (a 1)), (1, .int (zI (f))), (2, .int (zI (u)))] := hl
  refine z_iconst S dX0_isFree_0 ?_
  refine z_istore_n (lv' := [(3, .int (zI (0))), (0, .ref (a 1)), (1, .int (zI (f))), (2, .int (zI (u)))]) S dX0_isFree_1 hl rfl (by decide) rfl (fun ls hl => ?_)
  have loop_2 : ∀ (nn : Nat) (k : Int), (0 ≤ k ∧ k ≤ 16) → (∀ t : Int, 0 ≤ t → t < k → frB σ f u t = true) → ((16 - k).toNat) < nn → ∀ ls, lv_has ls 4 [(3, .int (zI (k))), (0, .ref (a 1)), (1, .int (zI (f))), (2, .int (zI (u)))] → W p l env (rmR 0 0) s m ([.ref (a 1), .int (zI (f)), .int (zI (u))] : List Value).toArray below meth cod s.heap [] 0 0 Q (F0 m 2 ls []) := by
    intro nn
    induction nn with
    | zero => intro _ _ _ h; exact absurd h (Nat.not_lt_zero _)
    | succ nn ih_2 =>
      intro k hk hI hm_2 ls hl
      refine z_iload_n S dX0_isFree_2 hl 0 rfl rfl ?_
      refine z_bipush S dX0_isFree_3 rfl ?_
      refine z_icmp_ge S 36 dX0_isFree_5 (by decide) (by omega) (by omega) (fun c_5 => ?_) (fun c_5 => ?_)
      · skip
        refine z_iconst S dX0_isFree_36 ?_
        exact ret _ _ _ dX0_isFree_37 (by rw [show allI (frB σ f u) 16 = true from allI_iff.mpr (fun t h0 h1 => hI t h0 (by omega))]; rfl)
      · skip
        refine z_iload_n S dX0_isFree_8 hl 0 rfl rfl ?_
        refine z_iload_n S dX0_isFree_9 hl 2 rfl rfl ?_
        refine z_icmp_lt S 30 dX0_isFree_10 (by decide) (by omega) (by omega) (fun c_10 => ?_) (fun c_10 => ?_)
        · skip
          refine z_iinc (lv' := [(3, .int (zI (k + 1))), (0, .ref (a 1)), (1, .int (zI (f))), (2, .int (zI (u)))]) S dX0_isFree_30 hl 0 rfl (by decide) rfl (fun ls hl => ?_)
          refine z_goto S 2 dX0_isFree_33 (by decide) ?_
          exact ih_2 (k + 1) (by omega) (lt_stp hI (by unfold frB; simp; omega)) (by omega) ls (lv_sub hl [0, 1, 2, 3] rfl)
        · skip
          refine z_iload_n S dX0_isFree_13 hl 0 rfl rfl ?_
          refine z_iload_n S dX0_isFree_14 hl 3 rfl rfl ?_
          refine z_icmp_gt S 30 dX0_isFree_15 (by decide) (by omega) (by omega) (fun c_15 => ?_) (fun c_15 => ?_)
          · skip
            refine z_iinc (lv' := [(3, .int (zI (k + 1))), (0, .ref (a 1)), (1, .int (zI (f))), (2, .int (zI (u)))]) S dX0_isFree_30 hl 0 rfl (by decide) rfl (fun ls hl => ?_)
            refine z_goto S 2 dX0_isFree_33 (by decide) ?_
            exact ih_2 (k + 1) (by omega) (lt_stp hI (by unfold frB; simp; omega)) (by omega) ls (lv_sub hl [0, 1, 2, 3] rfl)
          · skip
            refine z_aload_n S dX0_isFree_18 hl 1 rfl rfl ?_
            refine z_get S hG hP.1 zc_X0 1 (by decide) q1_47 rfl rfl dX0_isFree_19 ?_
            refine z_iload_n S dX0_isFree_22 hl 0 rfl rfl ?_
            refine z_ialdB S hG hP.2.2.1 (by omega) (by decide) dX0_isFree_23 ?_
            refine z_iconst S dX0_isFree_24 ?_
            have hro := rgOf_b σ k
            refine z_icmp_eq S 30 dX0_isFree_25 (by decide) (by omega) (by omega) (fun c_25 => ?_) (fun c_25 => ?_)
            · skip
              refine z_iinc (lv' := [(3, .int (zI (k + 1))), (0, .ref (a 1)), (1, .int (zI (f))), (2, .int (zI (u)))]) S dX0_isFree_30 hl 0 rfl (by decide) rfl (fun ls hl => ?_)
              refine z_goto S 2 dX0_isFree_33 (by decide) ?_
              exact ih_2 (k + 1) (by omega) (lt_stp hI (by unfold frB; simp; omega)) (by omega) ls (lv_sub hl [0, 1, 2, 3] rfl)
            · skip
              refine z_iconst S dX0_isFree_28 ?_
              exact ret _ _ _ dX0_isFree_29 (by rw [show allI (frB σ f u) 16 = false from allI_no hk.1 (show k < 16 by omega) (by unfold frB; simp; omega)]; rfl)
  exact loop_2 _ (0) (by omega) (lt_st0) (Nat.lt_succ_self _) ls (lv_sub hl [0, 1, 2, 3] rfl)
