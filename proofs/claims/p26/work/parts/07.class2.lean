theorem dX1_fact_0 : decode cX1_fact 0 = .ok (.iload_n 1, 1) := by decide +kernel
theorem dX1_fact_1 : decode cX1_fact 1 = .ok (.tableswitch 61 0 4 #[35, 40, 45, 50, 55], 35) := by decide +kernel
theorem dX1_fact_36 : decode cX1_fact 36 = .ok (.aload_n 0, 1) := by decide +kernel
theorem dX1_fact_37 : decode cX1_fact 37 = .ok (.getfield 9, 3) := by decide +kernel
theorem dX1_fact_40 : decode cX1_fact 40 = .ok (.ireturn, 1) := by decide +kernel
theorem dX1_fact_41 : decode cX1_fact 41 = .ok (.aload_n 0, 1) := by decide +kernel
theorem dX1_fact_42 : decode cX1_fact 42 = .ok (.getfield 15, 3) := by decide +kernel
theorem dX1_fact_45 : decode cX1_fact 45 = .ok (.ireturn, 1) := by decide +kernel
theorem dX1_fact_46 : decode cX1_fact 46 = .ok (.aload_n 0, 1) := by decide +kernel
theorem dX1_fact_47 : decode cX1_fact 47 = .ok (.getfield 22, 3) := by decide +kernel
theorem dX1_fact_50 : decode cX1_fact 50 = .ok (.ireturn, 1) := by decide +kernel
theorem dX1_fact_51 : decode cX1_fact 51 = .ok (.aload_n 0, 1) := by decide +kernel
theorem dX1_fact_52 : decode cX1_fact 52 = .ok (.getfield 25, 3) := by decide +kernel
theorem dX1_fact_55 : decode cX1_fact 55 = .ok (.ireturn, 1) := by decide +kernel
theorem dX1_fact_56 : decode cX1_fact 56 = .ok (.aload_n 0, 1) := by decide +kernel
theorem dX1_fact_57 : decode cX1_fact 57 = .ok (.iload_n 2, 1) := by decide +kernel
theorem dX1_fact_58 : decode cX1_fact 58 = .ok (.invokevirtual 31, 3) := by decide +kernel
theorem dX1_fact_61 : decode cX1_fact 61 = .ok (.ireturn, 1) := by decide +kernel
theorem dX1_fact_62 : decode cX1_fact 62 = .ok (.aload_n 0, 1) := by decide +kernel
theorem dX1_fact_63 : decode cX1_fact 63 = .ok (.invokevirtual 35, 3) := by decide +kernel
theorem dX1_fact_66 : decode cX1_fact 66 = .ok (.ireturn, 1) := by decide +kernel
theorem q2_44 : (Jvm.Cond.methodLink "Cyclepaint$Range" (31 : Nat) ({ cls := "Cyclepaint$Range", name := "shift", desc := "(I)I" } : Jvm.MethodName)) ∈ lw_g := zg_of (zin2 (List.mem_of_getElem? (i := 44) rfl)) rfl
theorem q2_45 : (Jvm.Cond.methodLink "Cyclepaint$Range" (35 : Nat) ({ cls := "Cyclepaint$Range", name := "round", desc := "()I" } : Jvm.MethodName)) ∈ lw_g := zg_of (zin2 (List.mem_of_getElem? (i := 45) rfl)) rfl
theorem q2_43 : (Jvm.Cond.code ({ cls := "Cyclepaint$Range", name := "fact", desc := "(II)I" } : Jvm.MethodName) prog_3_method_7_code (3 : Nat) (Option.some Jvm.ClassFile.FieldType.int)) ∈ lw_g := zg_of (zin2 (List.mem_of_getElem? (i := 43) rfl)) rfl
theorem q2_41 : (Jvm.Cond.instanceMethod ({ cls := "Cyclepaint$Range", name := "fact", desc := "(II)I" } : Jvm.MethodName)) ∈ lw_g := zg_of (zin2 (List.mem_of_getElem? (i := 41) rfl)) rfl
theorem q2_42 : (Jvm.Cond.selects "Cyclepaint$Range" ({ cls := "Cyclepaint$Range", name := "fact", desc := "(II)I" } : Jvm.MethodName) ({ cls := "Cyclepaint$Range", name := "fact", desc := "(II)I" } : Jvm.MethodName)) ∈ lw_g := zg_of (zin2 (List.mem_of_getElem? (i := 42) rfl)) rfl
theorem ok_X1_fact : zOV yX1_fact cX1_fact 3 ((Option.some Jvm.ClassFile.FieldType.int)) 2 := ⟨⟨q2_43, q1_14, by decide, by decide, by decide +kernel⟩, q2_41, q2_42⟩
set_option maxHeartbeats 4000000 in
set_option maxRecDepth 100000 in
theorem c_X1_fact (l : Launch) (G : zG) (q : Nat) (f len sp k : Int) (wh w : Int) (hw : 0 ≤ wh ∧ wh ≤ 5) (hr : (0 ≤ w ∧ w < 2147483648) ∧ (1 ≤ sp ∧ sp ≤ 9) ∧ (2 ≤ len ∧ len ≤ 16) ∧ 0 ≤ k ∧ k ≤ 2) : Met l yX1_fact (wq yX1_fact cX1_fact 3 ((Option.some Jvm.ClassFile.FieldType.int))) (rmR 1 22) (va_Pc [.ref (q), .int (zI (wh)), .int (zI (w))] (zK G (hRng G q f len sp k))) (zQ (some (.int ((factR f len sp k wh w))))) 0 0 zF := by
  refine z_enterI (by decide +kernel) (Nat.le_of_ble_eq_true rfl) ?_
  intro p env s m below meth cod Q S hG hP ret ls hl
  have hl : lv_has ls 3 [(0, .ref (q)), (1, .int (zI (wh))), (2, .int (zI (w)))] := hl
  rcases (show wh = 0 ∨ wh = 1 ∨ wh = 2 ∨ wh = 3 ∨ wh = 4 ∨ wh = 5 by omega) with rfl | rfl | rfl | rfl | rfl | rfl
  · skip
    refine z_iload_n S dX1_fact_0 hl 1 rfl rfl ?_
    refine lv_tableIn (tgt := 36) S.1 S.2.1 dX1_fact_1 (by decide) (by decide) rfl (by decide) ?_
    refine z_aload_n S dX1_fact_36 hl 0 rfl rfl ?_
    refine z_get S hG hP zc_X1 0 (by decide) q3_3 rfl rfl dX1_fact_37 ?_
    exact ret _ _ _ dX1_fact_40 (by unfold factR; simp)
  · skip
    refine z_iload_n S dX1_fact_0 hl 1 rfl rfl ?_
    refine lv_tableIn (tgt := 41) S.1 S.2.1 dX1_fact_1 (by decide) (by decide) rfl (by decide) ?_
    refine z_aload_n S dX1_fact_41 hl 0 rfl rfl ?_
    refine z_get S hG hP zc_X1 1 (by decide) q3_4 rfl rfl dX1_fact_42 ?_
    exact ret _ _ _ dX1_fact_45 (by unfold factR; simp)
  · skip
    refine z_iload_n S dX1_fact_0 hl 1 rfl rfl ?_
    refine lv_tableIn (tgt := 46) S.1 S.2.1 dX1_fact_1 (by decide) (by decide) rfl (by decide) ?_
    refine z_aload_n S dX1_fact_46 hl 0 rfl rfl ?_
    refine z_get S hG hP zc_X1 2 (by decide) q3_5 rfl rfl dX1_fact_47 ?_
    exact ret _ _ _ dX1_fact_50 (by unfold factR; simp)
  · skip
    refine z_iload_n S dX1_fact_0 hl 1 rfl rfl ?_
    refine lv_tableIn (tgt := 51) S.1 S.2.1 dX1_fact_1 (by decide) (by decide) rfl (by decide) ?_
    refine z_aload_n S dX1_fact_51 hl 0 rfl rfl ?_
    refine z_get S hG hP zc_X1 3 (by decide) q3_6 rfl rfl dX1_fact_52 ?_
    exact ret _ _ _ dX1_fact_55 (by unfold factR; simp)
  · skip
    refine z_iload_n S dX1_fact_0 hl 1 rfl rfl ?_
    refine lv_tableIn (tgt := 56) S.1 S.2.1 dX1_fact_1 (by decide) (by decide) rfl (by decide) ?_
    refine z_aload_n S dX1_fact_56 hl 0 rfl rfl ?_
    refine z_iload_n S dX1_fact_57 hl 2 rfl rfl ?_
    refine z_callVs S hG (c_X1_shift l G q f len sp k (w) (by omega)) ok_X1_shift hP zc_X1 rfl q2_44 (hP) ⟨rfl, rfl, by decide, by decide⟩ ⟨Nat.zero_le _, Nat.zero_le _⟩ rfl (Nat.le_of_ble_eq_true rfl) hl.1 rfl dX1_fact_58 ?_
    exact ret _ _ _ dX1_fact_61 (by unfold factR; simp)
  · skip
    refine z_iload_n S dX1_fact_0 hl 1 rfl rfl ?_
    refine lv_tableOut (tgt := 62) S.1 S.2.1 dX1_fact_1 (by decide) (by decide) ?_
    refine z_aload_n S dX1_fact_62 hl 0 rfl rfl ?_
    refine z_callVs S hG (c_X1_round l G q f len sp k) ok_X1_round hP zc_X1 rfl q2_45 (hP) ⟨rfl, rfl, by decide, by decide⟩ ⟨Nat.zero_le _, Nat.zero_le _⟩ rfl (Nat.le_of_ble_eq_true rfl) hl.1 rfl dX1_fact_63 ?_
    exact ret _ _ _ dX1_fact_66 (by unfold factR; simp)
theorem dX2_period_0 : decode cX2_period 0 = .ok (.aload_n 0, 1) := by decide +kernel
theorem dX2_period_1 : decode cX2_period 1 = .ok (.getfield 12, 3) := by decide +kernel
theorem dX2_period_4 : decode cX2_period 4 = .ok (.invokevirtual 177, 3) := by decide +kernel
theorem dX2_period_7 : decode cX2_period 7 = .ok (.ireturn, 1) := by decide +kernel
theorem q1_148 : (Jvm.Cond.methodLink "Cyclepaint" (177 : Nat) ({ cls := "Cyclepaint$Palette", name := "commonRound", desc := "()I" } : Jvm.MethodName)) ∈ lw_g := zg_of (zin1 (List.mem_of_getElem? (i := 148) rfl)) rfl
theorem q1_147 : (Jvm.Cond.code ({ cls := "Cyclepaint", name := "period", desc := "()I" } : Jvm.MethodName) prog_1_method_17_code (1 : Nat) (Option.some Jvm.ClassFile.FieldType.int)) ∈ lw_g := zg_of (zin1 (List.mem_of_getElem? (i := 147) rfl)) rfl
theorem q1_145 : (Jvm.Cond.instanceMethod ({ cls := "Cyclepaint", name := "period", desc := "()I" } : Jvm.MethodName)) ∈ lw_g := zg_of (zin1 (List.mem_of_getElem? (i := 145) rfl)) rfl
theorem q1_146 : (Jvm.Cond.selects "Cyclepaint" ({ cls := "Cyclepaint", name := "period", desc := "()I" } : Jvm.MethodName) ({ cls := "Cyclepaint", name := "period", desc := "()I" } : Jvm.MethodName)) ∈ lw_g := zg_of (zin1 (List.mem_of_getElem? (i := 146) rfl)) rfl
theorem ok_X2_period : zOV yX2_period cX2_period 1 ((Option.some Jvm.ClassFile.FieldType.int)) 0 := ⟨⟨q1_147, q1_1, by decide, by decide, by decide +kernel⟩, q1_145, q1_146⟩
set_option maxHeartbeats 4000000 in
set_option maxRecDepth 100000 in
theorem c_X2_period (l : Launch) (G : zG) (σ : St) (a : Nat → Nat) : Met l yX2_period (wq yX2_period cX2_period 1 ((Option.some Jvm.ClassFile.FieldType.int))) (rmR 3 69) (va_Pc [.ref (a 0)] (zK G (hCyc G σ a))) (zQ (some (.int ((zI (per σ)))))) 0 0 zF := by
  refine z_enterI (by decide +kernel) (Nat.le_of_ble_eq_true rfl) ?_
  intro p env s m below meth cod Q S hG hP ret ls hl
  have hl : lv_has ls 1 [(0, .ref (a 0))] := hl
  have hC := hP.2.2.2.2.2
  have hT := hC.1
  have hdt := hC.2.1
  have hlm := hC.2.2.1
  have hkn := hC.2.2.2.1
  have hD := hC.2.2.2.2.1
  have hB := hC.2.2.2.2.2
  refine z_aload_n S dX2_period_0 hl 0 rfl rfl ?_
  refine z_get S hG hP.1 zc_X2 0 (by decide) q1_60 rfl rfl dX2_period_1 ?_
  refine z_callVs S hG (c_X0_commonRound l G σ a hD) ok_X0_commonRound hP.2.2.2.2.1.1 zc_X0 rfl q1_148 (hP.2.2.2.2.1) ⟨rfl, rfl, by decide, by decide⟩ ⟨Nat.zero_le _, Nat.zero_le _⟩ rfl (Nat.le_of_ble_eq_true rfl) hl.1 rfl dX2_period_4 ?_
  exact ret _ _ _ dX2_period_7 (rfl)
def mnC (σ : St) : UInt64 := mnD (liC σ σ.tk)
theorem dX2_mean_0 : decode cX2_mean 0 = .ok (.aload_n 0, 1) := by decide +kernel
theorem dX2_mean_1 : decode cX2_mean 1 = .ok (.aload_n 0, 1) := by decide +kernel
theorem dX2_mean_2 : decode cX2_mean 2 = .ok (.getfield 30, 3) := by decide +kernel
theorem dX2_mean_5 : decode cX2_mean 5 = .ok (.invokevirtual 199, 3) := by decide +kernel
theorem dX2_mean_8 : decode cX2_mean 8 = .ok (.i2d, 1) := by decide +kernel
theorem dX2_mean_9 : decode cX2_mean 9 = .ok (.ldc2_w 202, 3) := by decide +kernel
theorem dX2_mean_12 : decode cX2_mean 12 = .ok (.ddiv, 1) := by decide +kernel
theorem dX2_mean_13 : decode cX2_mean 13 = .ok (.dreturn, 1) := by decide +kernel
theorem q1_170 : (Jvm.Cond.constantDouble "Cyclepaint" (202 : Nat) (4629700416936869888 : UInt64)) ∈ lw_g := zg_of (zin1 (List.mem_of_getElem? (i := 170) rfl)) rfl
theorem q1_161 : (Jvm.Cond.code ({ cls := "Cyclepaint", name := "mean", desc := "()D" } : Jvm.MethodName) prog_1_method_19_code (1 : Nat) (Option.some Jvm.ClassFile.FieldType.double)) ∈ lw_g := zg_of (zin1 (List.mem_of_getElem? (i := 161) rfl)) rfl
theorem q1_159 : (Jvm.Cond.instanceMethod ({ cls := "Cyclepaint", name := "mean", desc := "()D" } : Jvm.MethodName)) ∈ lw_g := zg_of (zin1 (List.mem_of_getElem? (i := 159) rfl)) rfl
theorem q1_160 : (Jvm.Cond.selects "Cyclepaint" ({ cls := "Cyclepaint", name := "mean", desc := "()D" } : Jvm.MethodName) ({ cls := "Cyclepaint", name := "mean", desc := "()D" } : Jvm.MethodName)) ∈ lw_g := zg_of (zin1 (List.mem_of_getElem? (i := 160) rfl)) rfl
theorem ok_X2_mean : zOV yX2_mean cX2_mean 1 ((Option.some Jvm.ClassFile.FieldType.double)) 0 := ⟨⟨q1_161, q1_1, by decide, by decide, by decide +kernel⟩, q1_159, q1_160⟩
set_option maxHeartbeats 4000000 in
set_option maxRecDepth 100000 in
theorem c_X2_mean (l : Launch) (G : zG) (σ : St) (a : Nat → Nat) : Met l yX2_mean (wq yX2_mean cX2_mean 1 ((Option.some Jvm.ClassFile.FieldType.double))) (rmR 3 69) (va_Pc [.ref (a 0)] (zK G (hCyc G σ a))) (zQ (some (.double (mnC σ)))) 0 0 zF := by
  refine z_enterD (by decide +kernel) (Nat.le_of_ble_eq_true rfl) ?_
  intro p env s m below meth cod Q S hG hP ret ls hl
  have hl : lv_has ls 1 [(0, .ref (a 0))] := hl
  have hC := hP.2.2.2.2.2
  have hT := hC.1
  have hdt := hC.2.1
  have hlm := hC.2.2.1
  have hkn := hC.2.2.2.1
  have hD := hC.2.2.2.2.1
  have hB := hC.2.2.2.2.2
  have hO := hP.2.2.2.2.1.2.2.2.2.2
  obtain ⟨L, hL, hLe⟩ := liM_b hO hB hdt hT.1
  rw [← li_CM hdt σ.tk] at hLe
  refine z_aload_n S dX2_mean_0 hl 0 rfl rfl ?_
  refine z_aload_n S dX2_mean_1 hl 0 rfl rfl ?_
  refine z_get S hG hP.1 zc_X2 5 (by decide) q1_65 rfl rfl dX2_mean_2 ?_
  refine z_callVs S hG (c_X2_lightAt l G σ a (σ.tk) (by omega)) ok_X2_lightAt hP.1 zc_X2 rfl q1_162 (hP) ⟨rfl, rfl, by decide, by decide⟩ ⟨Nat.zero_le _, Nat.zero_le _⟩ rfl (Nat.le_of_ble_eq_true rfl) hl.1 rfl dX2_mean_5 ?_
  refine lv_i2d S.1 S.2.1 dX2_mean_8 ?_
  refine lv_ldc2d S.1 S.2.1 S.2.2.2.1 (S.2.2.2.2 _ q1_170) dX2_mean_9 ?_
  refine lv_ddiv S.1 S.2.1 dX2_mean_12 (by have := (mn_b hL).1; rw [← hLe] at this; exact this) ?_
  exact ret _ _ _ dX2_mean_13 (rfl)
def soC (σ : St) : Bool := allI (crB σ σ.tk) 16 && (allI (sbB σ σ.tk) 16 && (allI (fun e => allI (taB σ σ.tk e) e) 16 && (decide (bcR (ksC σ) ≤ zI (ueC σ)) && allI (raB σ) 16)))
theorem dX2_isSound_0 : decode cX2_isSound 0 = .ok (.aload_n 0, 1) := by decide +kernel
theorem dX2_isSound_1 : decode cX2_isSound 1 = .ok (.getfield 12, 3) := by decide +kernel
theorem dX2_isSound_4 : decode cX2_isSound 4 = .ok (.aload_n 0, 1) := by decide +kernel
theorem dX2_isSound_5 : decode cX2_isSound 5 = .ok (.getfield 30, 3) := by decide +kernel
theorem dX2_isSound_8 : decode cX2_isSound 8 = .ok (.invokevirtual 221, 3) := by decide +kernel
theorem dX2_isSound_11 : decode cX2_isSound 11 = .ok (.ifCond .eq 56, 3) := by decide +kernel
theorem dX2_isSound_14 : decode cX2_isSound 14 = .ok (.aload_n 0, 1) := by decide +kernel
theorem dX2_isSound_15 : decode cX2_isSound 15 = .ok (.getfield 12, 3) := by decide +kernel
theorem dX2_isSound_18 : decode cX2_isSound 18 = .ok (.aload_n 0, 1) := by decide +kernel
theorem dX2_isSound_19 : decode cX2_isSound 19 = .ok (.getfield 30, 3) := by decide +kernel
theorem dX2_isSound_22 : decode cX2_isSound 22 = .ok (.invokevirtual 224, 3) := by decide +kernel
theorem dX2_isSound_25 : decode cX2_isSound 25 = .ok (.ifCond .eq 42, 3) := by decide +kernel
theorem dX2_isSound_28 : decode cX2_isSound 28 = .ok (.aload_n 0, 1) := by decide +kernel
theorem dX2_isSound_29 : decode cX2_isSound 29 = .ok (.getfield 12, 3) := by decide +kernel
theorem dX2_isSound_32 : decode cX2_isSound 32 = .ok (.aload_n 0, 1) := by decide +kernel
theorem dX2_isSound_33 : decode cX2_isSound 33 = .ok (.getfield 30, 3) := by decide +kernel
theorem dX2_isSound_36 : decode cX2_isSound 36 = .ok (.invokevirtual 227, 3) := by decide +kernel
theorem dX2_isSound_39 : decode cX2_isSound 39 = .ok (.ifCond .eq 28, 3) := by decide +kernel
theorem dX2_isSound_42 : decode cX2_isSound 42 = .ok (.aload_n 0, 1) := by decide +kernel
theorem dX2_isSound_43 : decode cX2_isSound 43 = .ok (.invokevirtual 230, 3) := by decide +kernel
theorem dX2_isSound_46 : decode cX2_isSound 46 = .ok (.aload_n 0, 1) := by decide +kernel
theorem dX2_isSound_47 : decode cX2_isSound 47 = .ok (.invokevirtual 233, 3) := by decide +kernel
theorem dX2_isSound_50 : decode cX2_isSound 50 = .ok (.if_icmp .gt 17, 3) := by decide +kernel
theorem dX2_isSound_53 : decode cX2_isSound 53 = .ok (.aload_n 0, 1) := by decide +kernel
theorem dX2_isSound_54 : decode cX2_isSound 54 = .ok (.getfield 12, 3) := by decide +kernel
theorem dX2_isSound_57 : decode cX2_isSound 57 = .ok (.invokevirtual 236, 3) := by decide +kernel
theorem dX2_isSound_60 : decode cX2_isSound 60 = .ok (.ifCond .eq 7, 3) := by decide +kernel
theorem dX2_isSound_63 : decode cX2_isSound 63 = .ok (.iconst 1, 1) := by decide +kernel
theorem dX2_isSound_64 : decode cX2_isSound 64 = .ok (.goto 4, 3) := by decide +kernel
theorem dX2_isSound_67 : decode cX2_isSound 67 = .ok (.iconst 0, 1) := by decide +kernel
theorem dX2_isSound_68 : decode cX2_isSound 68 = .ok (.ireturn, 1) := by decide +kernel
theorem q1_175 : (Jvm.Cond.methodLink "Cyclepaint" (221 : Nat) ({ cls := "Cyclepaint$Palette", name := "comesRound", desc := "(I)Z" } : Jvm.MethodName)) ∈ lw_g := zg_of (zin1 (List.mem_of_getElem? (i := 175) rfl)) rfl
theorem q1_180 : (Jvm.Cond.methodLink "Cyclepaint" (224 : Nat) ({ cls := "Cyclepaint$Palette", name := "areStillAtBase", desc := "(I)Z" } : Jvm.MethodName)) ∈ lw_g := zg_of (zin1 (List.mem_of_getElem? (i := 180) rfl)) rfl
theorem q1_192 : (Jvm.Cond.methodLink "Cyclepaint" (227 : Nat) ({ cls := "Cyclepaint$Palette", name := "areTwinsAlike", desc := "(I)Z" } : Jvm.MethodName)) ∈ lw_g := zg_of (zin1 (List.mem_of_getElem? (i := 192) rfl)) rfl
theorem q1_210 : (Jvm.Cond.methodLink "Cyclepaint" (236 : Nat) ({ cls := "Cyclepaint$Palette", name := "areRangesApart", desc := "()Z" } : Jvm.MethodName)) ∈ lw_g := zg_of (zin1 (List.mem_of_getElem? (i := 210) rfl)) rfl
theorem q1_174 : (Jvm.Cond.code ({ cls := "Cyclepaint", name := "isSound", desc := "()Z" } : Jvm.MethodName) prog_1_method_25_code (1 : Nat) (Option.some Jvm.ClassFile.FieldType.boolean)) ∈ lw_g := zg_of (zin1 (List.mem_of_getElem? (i := 174) rfl)) rfl
theorem q1_172 : (Jvm.Cond.instanceMethod ({ cls := "Cyclepaint", name := "isSound", desc := "()Z" } : Jvm.MethodName)) ∈ lw_g := zg_of (zin1 (List.mem_of_getElem? (i := 172) rfl)) rfl
theorem q1_173 : (Jvm.Cond.selects "Cyclepaint" ({ cls := "Cyclepaint", name := "isSound", desc := "()Z" } : Jvm.MethodName) ({ cls := "Cyclepaint", name := "isSound", desc := "()Z" } : Jvm.MethodName)) ∈ lw_g := zg_of (zin1 (List.mem_of_getElem? (i := 173) rfl)) rfl
theorem ok_X2_isSound : zOV yX2_isSound cX2_isSound 1 ((Option.some Jvm.ClassFile.FieldType.boolean)) 0 := ⟨⟨q1_174, q1_1, by decide, by decide, by decide +kernel⟩, q1_172, q1_173⟩
set_option maxHeartbeats 4000000 in
set_option maxRecDepth 100000 in
theorem c_X2_isSound (l : Launch) (G : zG) (σ : St) (a : Nat → Nat) : Met l yX2_isSound (wq yX2_isSound cX2_isSound 1 ((Option.some Jvm.ClassFile.FieldType.boolean))) (rmR 5 114) (va_Pc [.ref (a 0)] (zK G (hCyc G σ a))) (zQ (some (.int (bI (soC σ))))) 0 0 zF := by
  refine z_enterB (by decide +kernel) (Nat.le_of_ble_eq_true rfl) ?_
  intro p env s m below meth cod Q S hG hP ret ls hl
  have hl : lv_has ls 1 [(0, .ref (a 0))] := hl
  have hC := hP.2.2.2.2.2
  have hT := hC.1
  have hdt := hC.2.1
  have hlm := hC.2.2.1
  have hkn := hC.2.2.2.1
  have hD := hC.2.2.2.2.1
  have hB := hC.2.2.2.2.2
  refine z_aload_n S dX2_isSound_0 hl 0 rfl rfl ?_
  refine z_get S hG hP.1 zc_X2 0 (by decide) q1_60 rfl rfl dX2_isSound_1 ?_
  refine z_aload_n S dX2_isSound_4 hl 0 rfl rfl ?_
  refine z_get S hG hP.1 zc_X2 5 (by decide) q1_65 rfl rfl dX2_isSound_5 ?_
  refine z_callVs S hG (c_X0_comesRound l G σ a (σ.tk) (by omega) hD) ok_X0_comesRound hP.2.2.2.2.1.1 zc_X0 rfl q1_175 (hP.2.2.2.2.1) ⟨rfl, rfl, by decide, by decide⟩ ⟨Nat.zero_le _, Nat.zero_le _⟩ rfl (Nat.le_of_ble_eq_true rfl) hl.1 rfl dX2_isSound_8 ?_
  refine z_bif_eq S 67 dX2_isSound_11 (by decide) (fun c_11 => ?_) (fun c_11 => ?_)
  · skip
    refine z_iconst S dX2_isSound_67 ?_
    exact ret _ _ _ dX2_isSound_68 (by rw [show soC σ = false from by unfold soC; simp [c_11]]; rfl)
  · skip
    refine z_aload_n S dX2_isSound_14 hl 0 rfl rfl ?_
    refine z_get S hG hP.1 zc_X2 0 (by decide) q1_60 rfl rfl dX2_isSound_15 ?_
    refine z_aload_n S dX2_isSound_18 hl 0 rfl rfl ?_
    refine z_get S hG hP.1 zc_X2 5 (by decide) q1_65 rfl rfl dX2_isSound_19 ?_
    refine z_callVs S hG (c_X0_areStillAtBase l G σ a (σ.tk) (by omega)) ok_X0_areStillAtBase hP.2.2.2.2.1.1 zc_X0 rfl q1_180 (hP.2.2.2.2.1) ⟨rfl, rfl, by decide, by decide⟩ ⟨Nat.zero_le _, Nat.zero_le _⟩ rfl (Nat.le_of_ble_eq_true rfl) hl.1 rfl dX2_isSound_22 ?_
    refine z_bif_eq S 67 dX2_isSound_25 (by decide) (fun c_25 => ?_) (fun c_25 => ?_)
    · skip
      refine z_iconst S dX2_isSound_67 ?_
      exact ret _ _ _ dX2_isSound_68 (by rw [show soC σ = false from by unfold soC; simp [c_11, c_25]]; rfl)
    · skip
      refine z_aload_n S dX2_isSound_28 hl 0 rfl rfl ?_
      refine z_get S hG hP.1 zc_X2 0 (by decide) q1_60 rfl rfl dX2_isSound_29 ?_
      refine z_aload_n S dX2_isSound_32 hl 0 rfl rfl ?_
      refine z_get S hG hP.1 zc_X2 5 (by decide) q1_65 rfl rfl dX2_isSound_33 ?_
      refine z_callVs S hG (c_X0_areTwinsAlike l G σ a (σ.tk) (by omega)) ok_X0_areTwinsAlike hP.2.2.2.2.1.1 zc_X0 rfl q1_192 (hP.2.2.2.2.1) ⟨rfl, rfl, by decide, by decide⟩ ⟨Nat.zero_le _, Nat.zero_le _⟩ rfl (Nat.le_of_ble_eq_true rfl) hl.1 rfl dX2_isSound_36 ?_
      refine z_bif_eq S 67 dX2_isSound_39 (by decide) (fun c_39 => ?_) (fun c_39 => ?_)
      · skip
        refine z_iconst S dX2_isSound_67 ?_
        exact ret _ _ _ dX2_isSound_68 (by rw [show soC σ = false from by unfold soC; simp [c_11, c_25, c_39]]; rfl)
      · skip
        refine z_aload_n S dX2_isSound_42 hl 0 rfl rfl ?_
        refine z_callVs S hG (c_X2_kinds l G σ a) ok_X2_kinds hP.1 zc_X2 rfl q1_196 (hP) ⟨rfl, rfl, by decide, by decide⟩ ⟨Nat.zero_le _, Nat.zero_le _⟩ rfl (Nat.le_of_ble_eq_true rfl) hl.1 rfl dX2_isSound_43 ?_
        refine z_aload_n S dX2_isSound_46 hl 0 rfl rfl ?_
        refine z_callVs S hG (c_X2_usedEntries l G σ a) ok_X2_usedEntries hP.1 zc_X2 rfl q1_206 (hP) ⟨rfl, rfl, by decide, by decide⟩ ⟨Nat.zero_le _, Nat.zero_le _⟩ rfl (Nat.le_of_ble_eq_true rfl) hl.1 rfl dX2_isSound_47 ?_
        refine lv_icmp_gt (tgt := 67) S.1 S.2.1 dX2_isSound_50 (by decide) (fun c_50 => ?_) (fun c_50 => ?_)
        · skip
          have c_50b : decide (bcR (ksC σ) ≤ zI (ueC σ)) = false := decide_eq_false (Int32.not_le.mpr c_50)
          refine z_iconst S dX2_isSound_67 ?_
          exact ret _ _ _ dX2_isSound_68 (by rw [show soC σ = false from by unfold soC; simp [c_11, c_25, c_39, c_50b]]; rfl)
        · skip
          have c_50b : decide (bcR (ksC σ) ≤ zI (ueC σ)) = true := decide_eq_true (Int32.not_lt.mp c_50)
          refine z_aload_n S dX2_isSound_53 hl 0 rfl rfl ?_
          refine z_get S hG hP.1 zc_X2 0 (by decide) q1_60 rfl rfl dX2_isSound_54 ?_
          refine z_callVs S hG (c_X0_areRangesApart l G σ a) ok_X0_areRangesApart hP.2.2.2.2.1.1 zc_X0 rfl q1_210 (hP.2.2.2.2.1) ⟨rfl, rfl, by decide, by decide⟩ ⟨Nat.zero_le _, Nat.zero_le _⟩ rfl (Nat.le_of_ble_eq_true rfl) hl.1 rfl dX2_isSound_57 ?_
          refine z_bif_eq S 67 dX2_isSound_60 (by decide) (fun c_60 => ?_) (fun c_60 => ?_)
          · skip
            refine z_iconst S dX2_isSound_67 ?_
            exact ret _ _ _ dX2_isSound_68 (by rw [show soC σ = false from by unfold soC; simp [c_11, c_25, c_39, c_50b, c_60]]; rfl)
          · skip
            refine z_iconst S dX2_isSound_63 ?_
            refine z_goto S 68 dX2_isSound_64 (by decide) ?_
            exact ret _ _ _ dX2_isSound_68 (by rw [show soC σ = true from by unfold soC; simp [c_11, c_25, c_39, c_50b, c_60]]; rfl)
def dg1 (σ : St) : Int64 := mixI (mix1 (pF σ)) 7121 12
def dg2 (σ : St) : Int64 := dg1 σ * 31 + (zI (per σ)).toInt64
def dg3 (σ : St) (k : Int) : Int64 := mixI (fun e d => mixI (mix1 (eF σ e)) d 6) (dg2 σ) k
def dg4 (σ : St) (k : Int) : Int64 := mixI (fun j d => mixI (mix1 (rF σ j)) d 6) (dg3 σ 16) k
def dg5 (σ : St) (k : Int) : Int64 := mixI (fun q d => mixI (mix1 (dF σ q)) d 4) (dg4 σ σ.rn) k
def dg6 (σ : St) : Int64 := (dg5 σ 32 * 31 + (zI (fnd σ 1 (zI 2) σ.tk)).toInt64) * 31 + (zI (mt σ 1 (zI 3) 5 (zI 5) σ.tk)).toInt64
def dg7 (σ : St) (k : Int) : Int64 := mixI (mix1 (fun n => zI (whn σ n))) (dg6 σ) k
def dgC (σ : St) : Int64 := ((dg7 σ σ.kn * 31 + (zI (ltC σ 30)).toInt64) * 31 + FP.d2l (FP.dmul 4625196817309499392 (mnC σ))) * 31 + (if soC σ = true then 1 else 0)
theorem mixI_0 {g : Int → Int64 → Int64} {d : Int64} : mixI g d 0 = d := rfl
theorem mix1_s {g : Int → Int32} {d : Int64} {k : Int} (h : 0 ≤ k) : mixI (mix1 g) d (k + 1) = mixI (mix1 g) d k * 31 + (g k).toInt64 := mixI_s h
theorem dg3_0 {σ : St} : dg3 σ 0 = dg2 σ := mixI_0
theorem dg3_s {σ : St} {k : Int} (h : 0 ≤ k) : dg3 σ (k + 1) = mixI (mix1 (eF σ k)) (dg3 σ k) 6 := mixI_s h
theorem dg4_0 {σ : St} : dg4 σ 0 = dg3 σ 16 := mixI_0
theorem dg4_s {σ : St} {k : Int} (h : 0 ≤ k) : dg4 σ (k + 1) = mixI (mix1 (rF σ k)) (dg4 σ k) 6 := mixI_s h
theorem dg5_0 {σ : St} : dg5 σ 0 = dg4 σ σ.rn := mixI_0
theorem dg5_s {σ : St} {k : Int} (h : 0 ≤ k) : dg5 σ (k + 1) = mixI (mix1 (dF σ k)) (dg5 σ k) 4 := mixI_s h
theorem dg7_0 {σ : St} : dg7 σ 0 = dg6 σ := mixI_0
theorem dg7_s {σ : St} {k : Int} (h : 0 ≤ k) : dg7 σ (k + 1) = dg7 σ k * 31 + (zI (whn σ k)).toInt64 := mixI_s h
theorem hPal_r {G : zG} {σ : St} {a : Nat → Nat} {H : Heap} (h : hPal G σ a H) {j : Int} (h0 : 0 ≤ j) (h1 : j < σ.rn) : hRng G (a (8 + Int.toNat j)) (σ.F j) (σ.L j) (σ.S j) (σ.K j) H := h.2.2.2.2.1 j h0 h1
theorem dX2_digest_0 : decode cX2_digest 0 = .ok (.ldc2_w 239, 3) := by decide +kernel
theorem dX2_digest_3 : decode cX2_digest 3 = .ok (.lstore_n 1, 1) := by decide +kernel
theorem dX2_digest_4 : decode cX2_digest 4 = .ok (.iconst 0, 1) := by decide +kernel
theorem dX2_digest_5 : decode cX2_digest 5 = .ok (.istore_n 3, 1) := by decide +kernel
theorem dX2_digest_6 : decode cX2_digest 6 = .ok (.iload_n 3, 1) := by decide +kernel
theorem dX2_digest_7 : decode cX2_digest 7 = .ok (.bipush 12, 2) := by decide +kernel
theorem dX2_digest_9 : decode cX2_digest 9 = .ok (.if_icmp .ge 20, 3) := by decide +kernel
theorem dX2_digest_12 : decode cX2_digest 12 = .ok (.lload_n 1, 1) := by decide +kernel
theorem dX2_digest_13 : decode cX2_digest 13 = .ok (.aload_n 0, 1) := by decide +kernel
theorem dX2_digest_14 : decode cX2_digest 14 = .ok (.iload_n 3, 1) := by decide +kernel
theorem dX2_digest_15 : decode cX2_digest 15 = .ok (.invokevirtual 174, 3) := by decide +kernel
theorem dX2_digest_18 : decode cX2_digest 18 = .ok (.i2l, 1) := by decide +kernel
theorem dX2_digest_19 : decode cX2_digest 19 = .ok (.invokestatic 241, 3) := by decide +kernel
theorem dX2_digest_22 : decode cX2_digest 22 = .ok (.lstore_n 1, 1) := by decide +kernel
theorem dX2_digest_23 : decode cX2_digest 23 = .ok (.iinc 3 1, 3) := by decide +kernel
theorem dX2_digest_26 : decode cX2_digest 26 = .ok (.goto (-20), 3) := by decide +kernel
theorem dX2_digest_29 : decode cX2_digest 29 = .ok (.lload_n 1, 1) := by decide +kernel
theorem dX2_digest_30 : decode cX2_digest 30 = .ok (.aload_n 0, 1) := by decide +kernel
theorem dX2_digest_31 : decode cX2_digest 31 = .ok (.getfield 12, 3) := by decide +kernel
theorem dX2_digest_34 : decode cX2_digest 34 = .ok (.invokevirtual 177, 3) := by decide +kernel
theorem dX2_digest_37 : decode cX2_digest 37 = .ok (.i2l, 1) := by decide +kernel
theorem dX2_digest_38 : decode cX2_digest 38 = .ok (.invokestatic 241, 3) := by decide +kernel
theorem dX2_digest_41 : decode cX2_digest 41 = .ok (.lstore_n 1, 1) := by decide +kernel
theorem dX2_digest_42 : decode cX2_digest 42 = .ok (.iconst 0, 1) := by decide +kernel
theorem dX2_digest_43 : decode cX2_digest 43 = .ok (.istore_n 3, 1) := by decide +kernel
theorem dX2_digest_44 : decode cX2_digest 44 = .ok (.iload_n 3, 1) := by decide +kernel
theorem dX2_digest_45 : decode cX2_digest 45 = .ok (.bipush 16, 2) := by decide +kernel
theorem dX2_digest_47 : decode cX2_digest 47 = .ok (.if_icmp .ge 38, 3) := by decide +kernel
theorem dX2_digest_50 : decode cX2_digest 50 = .ok (.iconst 0, 1) := by decide +kernel
theorem dX2_digest_51 : decode cX2_digest 51 = .ok (.istore 4, 2) := by decide +kernel
theorem dX2_digest_53 : decode cX2_digest 53 = .ok (.iload 4, 2) := by decide +kernel
theorem dX2_digest_55 : decode cX2_digest 55 = .ok (.bipush 6, 2) := by decide +kernel
theorem dX2_digest_57 : decode cX2_digest 57 = .ok (.if_icmp .ge 22, 3) := by decide +kernel
theorem dX2_digest_60 : decode cX2_digest 60 = .ok (.lload_n 1, 1) := by decide +kernel
theorem dX2_digest_61 : decode cX2_digest 61 = .ok (.aload_n 0, 1) := by decide +kernel
theorem dX2_digest_62 : decode cX2_digest 62 = .ok (.iload_n 3, 1) := by decide +kernel
theorem dX2_digest_63 : decode cX2_digest 63 = .ok (.iload 4, 2) := by decide +kernel
theorem dX2_digest_65 : decode cX2_digest 65 = .ok (.invokevirtual 166, 3) := by decide +kernel
theorem dX2_digest_68 : decode cX2_digest 68 = .ok (.i2l, 1) := by decide +kernel
theorem dX2_digest_69 : decode cX2_digest 69 = .ok (.invokestatic 241, 3) := by decide +kernel
theorem dX2_digest_72 : decode cX2_digest 72 = .ok (.lstore_n 1, 1) := by decide +kernel
theorem dX2_digest_73 : decode cX2_digest 73 = .ok (.iinc 4 1, 3) := by decide +kernel
theorem dX2_digest_76 : decode cX2_digest 76 = .ok (.goto (-23), 3) := by decide +kernel
theorem dX2_digest_79 : decode cX2_digest 79 = .ok (.iinc 3 1, 3) := by decide +kernel
theorem dX2_digest_82 : decode cX2_digest 82 = .ok (.goto (-38), 3) := by decide +kernel
theorem dX2_digest_85 : decode cX2_digest 85 = .ok (.iconst 0, 1) := by decide +kernel
theorem dX2_digest_86 : decode cX2_digest 86 = .ok (.istore_n 3, 1) := by decide +kernel
theorem dX2_digest_87 : decode cX2_digest 87 = .ok (.iload_n 3, 1) := by decide +kernel
theorem dX2_digest_88 : decode cX2_digest 88 = .ok (.iconst 4, 1) := by decide +kernel
theorem dX2_digest_89 : decode cX2_digest 89 = .ok (.if_icmp .ge 57, 3) := by decide +kernel
theorem dX2_digest_92 : decode cX2_digest 92 = .ok (.aload_n 0, 1) := by decide +kernel
theorem dX2_digest_93 : decode cX2_digest 93 = .ok (.getfield 12, 3) := by decide +kernel
theorem dX2_digest_96 : decode cX2_digest 96 = .ok (.iload_n 3, 1) := by decide +kernel
theorem dX2_digest_97 : decode cX2_digest 97 = .ok (.invokevirtual 106, 3) := by decide +kernel
theorem dX2_digest_100 : decode cX2_digest 100 = .ok (.astore 4, 2) := by decide +kernel
theorem dX2_digest_102 : decode cX2_digest 102 = .ok (.iconst 0, 1) := by decide +kernel
theorem dX2_digest_103 : decode cX2_digest 103 = .ok (.istore 5, 2) := by decide +kernel
theorem dX2_digest_105 : decode cX2_digest 105 = .ok (.iload 5, 2) := by decide +kernel
theorem dX2_digest_107 : decode cX2_digest 107 = .ok (.bipush 6, 2) := by decide +kernel
theorem dX2_digest_109 : decode cX2_digest 109 = .ok (.if_icmp .ge 31, 3) := by decide +kernel
theorem dX2_digest_112 : decode cX2_digest 112 = .ok (.aload 4, 2) := by decide +kernel
theorem dX2_digest_114 : decode cX2_digest 114 = .ok (.ifnull 26, 3) := by decide +kernel
theorem dX2_digest_117 : decode cX2_digest 117 = .ok (.lload_n 1, 1) := by decide +kernel
theorem dX2_digest_118 : decode cX2_digest 118 = .ok (.aload 4, 2) := by decide +kernel
theorem dX2_digest_120 : decode cX2_digest 120 = .ok (.iload 5, 2) := by decide +kernel
theorem dX2_digest_122 : decode cX2_digest 122 = .ok (.aload_n 0, 1) := by decide +kernel
theorem dX2_digest_123 : decode cX2_digest 123 = .ok (.getfield 30, 3) := by decide +kernel
theorem dX2_digest_126 : decode cX2_digest 126 = .ok (.invokevirtual 169, 3) := by decide +kernel
theorem dX2_digest_129 : decode cX2_digest 129 = .ok (.i2l, 1) := by decide +kernel
theorem dX2_digest_130 : decode cX2_digest 130 = .ok (.invokestatic 241, 3) := by decide +kernel
theorem dX2_digest_133 : decode cX2_digest 133 = .ok (.lstore_n 1, 1) := by decide +kernel
theorem dX2_digest_134 : decode cX2_digest 134 = .ok (.iinc 5 1, 3) := by decide +kernel
theorem dX2_digest_137 : decode cX2_digest 137 = .ok (.goto (-32), 3) := by decide +kernel
theorem dX2_digest_140 : decode cX2_digest 140 = .ok (.iinc 3 1, 3) := by decide +kernel
theorem dX2_digest_143 : decode cX2_digest 143 = .ok (.goto (-56), 3) := by decide +kernel
theorem dX2_digest_146 : decode cX2_digest 146 = .ok (.iconst 0, 1) := by decide +kernel
theorem dX2_digest_147 : decode cX2_digest 147 = .ok (.istore_n 3, 1) := by decide +kernel
theorem dX2_digest_148 : decode cX2_digest 148 = .ok (.iload_n 3, 1) := by decide +kernel
theorem dX2_digest_149 : decode cX2_digest 149 = .ok (.bipush 32, 2) := by decide +kernel
theorem dX2_digest_151 : decode cX2_digest 151 = .ok (.if_icmp .ge 37, 3) := by decide +kernel
theorem dX2_digest_154 : decode cX2_digest 154 = .ok (.iconst 0, 1) := by decide +kernel
theorem dX2_digest_155 : decode cX2_digest 155 = .ok (.istore 4, 2) := by decide +kernel
theorem dX2_digest_157 : decode cX2_digest 157 = .ok (.iload 4, 2) := by decide +kernel
theorem dX2_digest_159 : decode cX2_digest 159 = .ok (.iconst 4, 1) := by decide +kernel
theorem dX2_digest_160 : decode cX2_digest 160 = .ok (.if_icmp .ge 22, 3) := by decide +kernel
theorem dX2_digest_163 : decode cX2_digest 163 = .ok (.lload_n 1, 1) := by decide +kernel
theorem dX2_digest_164 : decode cX2_digest 164 = .ok (.aload_n 0, 1) := by decide +kernel
theorem dX2_digest_165 : decode cX2_digest 165 = .ok (.iload_n 3, 1) := by decide +kernel
theorem dX2_digest_166 : decode cX2_digest 166 = .ok (.iload 4, 2) := by decide +kernel
theorem dX2_digest_168 : decode cX2_digest 168 = .ok (.invokevirtual 161, 3) := by decide +kernel
theorem dX2_digest_171 : decode cX2_digest 171 = .ok (.i2l, 1) := by decide +kernel
theorem dX2_digest_172 : decode cX2_digest 172 = .ok (.invokestatic 241, 3) := by decide +kernel
theorem dX2_digest_175 : decode cX2_digest 175 = .ok (.lstore_n 1, 1) := by decide +kernel
theorem dX2_digest_176 : decode cX2_digest 176 = .ok (.iinc 4 1, 3) := by decide +kernel
theorem dX2_digest_179 : decode cX2_digest 179 = .ok (.goto (-22), 3) := by decide +kernel
theorem dX2_digest_182 : decode cX2_digest 182 = .ok (.iinc 3 1, 3) := by decide +kernel
theorem dX2_digest_185 : decode cX2_digest 185 = .ok (.goto (-37), 3) := by decide +kernel
theorem dX2_digest_188 : decode cX2_digest 188 = .ok (.lload_n 1, 1) := by decide +kernel
theorem dX2_digest_189 : decode cX2_digest 189 = .ok (.aload_n 0, 1) := by decide +kernel
theorem dX2_digest_190 : decode cX2_digest 190 = .ok (.getfield 12, 3) := by decide +kernel
theorem dX2_digest_193 : decode cX2_digest 193 = .ok (.iconst 1, 1) := by decide +kernel
theorem dX2_digest_194 : decode cX2_digest 194 = .ok (.iconst 2, 1) := by decide +kernel
theorem dX2_digest_195 : decode cX2_digest 195 = .ok (.aload_n 0, 1) := by decide +kernel
theorem dX2_digest_196 : decode cX2_digest 196 = .ok (.getfield 30, 3) := by decide +kernel
theorem dX2_digest_199 : decode cX2_digest 199 = .ok (.invokevirtual 206, 3) := by decide +kernel
theorem dX2_digest_202 : decode cX2_digest 202 = .ok (.i2l, 1) := by decide +kernel
theorem dX2_digest_203 : decode cX2_digest 203 = .ok (.invokestatic 241, 3) := by decide +kernel
theorem dX2_digest_206 : decode cX2_digest 206 = .ok (.lstore_n 1, 1) := by decide +kernel
theorem dX2_digest_207 : decode cX2_digest 207 = .ok (.lload_n 1, 1) := by decide +kernel
theorem dX2_digest_208 : decode cX2_digest 208 = .ok (.aload_n 0, 1) := by decide +kernel
theorem dX2_digest_209 : decode cX2_digest 209 = .ok (.getfield 12, 3) := by decide +kernel
theorem dX2_digest_212 : decode cX2_digest 212 = .ok (.iconst 1, 1) := by decide +kernel
theorem dX2_digest_213 : decode cX2_digest 213 = .ok (.iconst 3, 1) := by decide +kernel
theorem dX2_digest_214 : decode cX2_digest 214 = .ok (.iconst 5, 1) := by decide +kernel
theorem dX2_digest_215 : decode cX2_digest 215 = .ok (.iconst 5, 1) := by decide +kernel
theorem dX2_digest_216 : decode cX2_digest 216 = .ok (.aload_n 0, 1) := by decide +kernel
theorem dX2_digest_217 : decode cX2_digest 217 = .ok (.getfield 30, 3) := by decide +kernel
theorem dX2_digest_220 : decode cX2_digest 220 = .ok (.invokevirtual 209, 3) := by decide +kernel
theorem dX2_digest_223 : decode cX2_digest 223 = .ok (.i2l, 1) := by decide +kernel
theorem dX2_digest_224 : decode cX2_digest 224 = .ok (.invokestatic 241, 3) := by decide +kernel
theorem dX2_digest_227 : decode cX2_digest 227 = .ok (.lstore_n 1, 1) := by decide +kernel
theorem dX2_digest_228 : decode cX2_digest 228 = .ok (.iconst 0, 1) := by decide +kernel
theorem dX2_digest_229 : decode cX2_digest 229 = .ok (.istore_n 3, 1) := by decide +kernel
theorem dX2_digest_230 : decode cX2_digest 230 = .ok (.iload_n 3, 1) := by decide +kernel
theorem dX2_digest_231 : decode cX2_digest 231 = .ok (.aload_n 0, 1) := by decide +kernel
theorem dX2_digest_232 : decode cX2_digest 232 = .ok (.getfield 26, 3) := by decide +kernel
theorem dX2_digest_235 : decode cX2_digest 235 = .ok (.if_icmp .ge 20, 3) := by decide +kernel
theorem dX2_digest_238 : decode cX2_digest 238 = .ok (.lload_n 1, 1) := by decide +kernel
theorem dX2_digest_239 : decode cX2_digest 239 = .ok (.aload_n 0, 1) := by decide +kernel
theorem dX2_digest_240 : decode cX2_digest 240 = .ok (.iload_n 3, 1) := by decide +kernel
theorem dX2_digest_241 : decode cX2_digest 241 = .ok (.invokevirtual 215, 3) := by decide +kernel
theorem dX2_digest_244 : decode cX2_digest 244 = .ok (.i2l, 1) := by decide +kernel
theorem dX2_digest_245 : decode cX2_digest 245 = .ok (.invokestatic 241, 3) := by decide +kernel
theorem dX2_digest_248 : decode cX2_digest 248 = .ok (.lstore_n 1, 1) := by decide +kernel
theorem dX2_digest_249 : decode cX2_digest 249 = .ok (.iinc 3 1, 3) := by decide +kernel
theorem dX2_digest_252 : decode cX2_digest 252 = .ok (.goto (-22), 3) := by decide +kernel
theorem dX2_digest_255 : decode cX2_digest 255 = .ok (.lload_n 1, 1) := by decide +kernel
theorem dX2_digest_256 : decode cX2_digest 256 = .ok (.aload_n 0, 1) := by decide +kernel
theorem dX2_digest_257 : decode cX2_digest 257 = .ok (.bipush 30, 2) := by decide +kernel
theorem dX2_digest_259 : decode cX2_digest 259 = .ok (.invokevirtual 218, 3) := by decide +kernel
theorem dX2_digest_262 : decode cX2_digest 262 = .ok (.i2l, 1) := by decide +kernel
theorem dX2_digest_263 : decode cX2_digest 263 = .ok (.invokestatic 241, 3) := by decide +kernel
theorem dX2_digest_266 : decode cX2_digest 266 = .ok (.lstore_n 1, 1) := by decide +kernel
theorem dX2_digest_267 : decode cX2_digest 267 = .ok (.lload_n 1, 1) := by decide +kernel
theorem dX2_digest_268 : decode cX2_digest 268 = .ok (.ldc2_w 245, 3) := by decide +kernel
theorem dX2_digest_271 : decode cX2_digest 271 = .ok (.aload_n 0, 1) := by decide +kernel
theorem dX2_digest_272 : decode cX2_digest 272 = .ok (.invokevirtual 247, 3) := by decide +kernel
theorem dX2_digest_275 : decode cX2_digest 275 = .ok (.dmul, 1) := by decide +kernel
theorem dX2_digest_276 : decode cX2_digest 276 = .ok (.d2l, 1) := by decide +kernel
theorem dX2_digest_277 : decode cX2_digest 277 = .ok (.invokestatic 241, 3) := by decide +kernel
theorem dX2_digest_280 : decode cX2_digest 280 = .ok (.lstore_n 1, 1) := by decide +kernel
theorem dX2_digest_281 : decode cX2_digest 281 = .ok (.lload_n 1, 1) := by decide +kernel
theorem dX2_digest_282 : decode cX2_digest 282 = .ok (.aload_n 0, 1) := by decide +kernel
theorem dX2_digest_283 : decode cX2_digest 283 = .ok (.invokevirtual 251, 3) := by decide +kernel
theorem dX2_digest_286 : decode cX2_digest 286 = .ok (.ifCond .eq 7, 3) := by decide +kernel
theorem dX2_digest_289 : decode cX2_digest 289 = .ok (.lconst 1, 1) := by decide +kernel
theorem dX2_digest_290 : decode cX2_digest 290 = .ok (.goto 4, 3) := by decide +kernel
theorem dX2_digest_293 : decode cX2_digest 293 = .ok (.lconst 0, 1) := by decide +kernel
theorem dX2_digest_294 : decode cX2_digest 294 = .ok (.invokestatic 241, 3) := by decide +kernel
theorem dX2_digest_297 : decode cX2_digest 297 = .ok (.lreturn, 1) := by decide +kernel
theorem q1_218 : (Jvm.Cond.constantLong "Cyclepaint" (239 : Nat) (7121 : Int64)) ∈ lw_g := zg_of (zin1 (List.mem_of_getElem? (i := 218) rfl)) rfl
theorem q2_20 : (Jvm.Cond.methodLink "Cyclepaint" (241 : Nat) ({ cls := "Cyclepaint", name := "mixed", desc := "(JJ)J" } : Jvm.MethodName)) ∈ lw_g := zg_of (zin2 (List.mem_of_getElem? (i := 20) rfl)) rfl
theorem q2_50 : (Jvm.Cond.methodLink "Cyclepaint" (206 : Nat) ({ cls := "Cyclepaint$Palette", name := "firstShown", desc := "(III)I" } : Jvm.MethodName)) ∈ lw_g := zg_of (zin2 (List.mem_of_getElem? (i := 50) rfl)) rfl
theorem q2_54 : (Jvm.Cond.methodLink "Cyclepaint" (209 : Nat) ({ cls := "Cyclepaint$Palette", name := "firstMeeting", desc := "(IIIII)I" } : Jvm.MethodName)) ∈ lw_g := zg_of (zin2 (List.mem_of_getElem? (i := 54) rfl)) rfl
theorem q2_66 : (Jvm.Cond.methodLink "Cyclepaint" (218 : Nat) ({ cls := "Cyclepaint", name := "lightestTick", desc := "(I)I" } : Jvm.MethodName)) ∈ lw_g := zg_of (zin2 (List.mem_of_getElem? (i := 66) rfl)) rfl
theorem q2_70 : (Jvm.Cond.constantDouble "Cyclepaint" (245 : Nat) (4625196817309499392 : UInt64)) ∈ lw_g := zg_of (zin2 (List.mem_of_getElem? (i := 70) rfl)) rfl
theorem q2_71 : (Jvm.Cond.methodLink "Cyclepaint" (247 : Nat) ({ cls := "Cyclepaint", name := "mean", desc := "()D" } : Jvm.MethodName)) ∈ lw_g := zg_of (zin2 (List.mem_of_getElem? (i := 71) rfl)) rfl
theorem q2_72 : (Jvm.Cond.methodLink "Cyclepaint" (251 : Nat) ({ cls := "Cyclepaint", name := "isSound", desc := "()Z" } : Jvm.MethodName)) ∈ lw_g := zg_of (zin2 (List.mem_of_getElem? (i := 72) rfl)) rfl
theorem q2_58 : (Jvm.Cond.methodLink "Cyclepaint" (215 : Nat) ({ cls := "Cyclepaint", name := "ticksUntil", desc := "(I)I" } : Jvm.MethodName)) ∈ lw_g := zg_of (zin2 (List.mem_of_getElem? (i := 58) rfl)) rfl
theorem q2_46 : (Jvm.Cond.methodLink "Cyclepaint" (161 : Nat) ({ cls := "Cyclepaint", name := "dotFact", desc := "(II)I" } : Jvm.MethodName)) ∈ lw_g := zg_of (zin2 (List.mem_of_getElem? (i := 46) rfl)) rfl
theorem q2_39 : (Jvm.Cond.methodLink "Cyclepaint" (106 : Nat) ({ cls := "Cyclepaint$Palette", name := "rangeAt", desc := "(I)LCyclepaint$Range;" } : Jvm.MethodName)) ∈ lw_g := zg_of (zin2 (List.mem_of_getElem? (i := 39) rfl)) rfl
theorem q2_40 : (Jvm.Cond.methodLink "Cyclepaint" (169 : Nat) ({ cls := "Cyclepaint$Range", name := "fact", desc := "(II)I" } : Jvm.MethodName)) ∈ lw_g := zg_of (zin2 (List.mem_of_getElem? (i := 40) rfl)) rfl
theorem q2_24 : (Jvm.Cond.methodLink "Cyclepaint" (166 : Nat) ({ cls := "Cyclepaint", name := "entryFact", desc := "(II)I" } : Jvm.MethodName)) ∈ lw_g := zg_of (zin2 (List.mem_of_getElem? (i := 24) rfl)) rfl
theorem q1_219 : (Jvm.Cond.methodLink "Cyclepaint" (174 : Nat) ({ cls := "Cyclepaint", name := "pictureFact", desc := "(I)I" } : Jvm.MethodName)) ∈ lw_g := zg_of (zin1 (List.mem_of_getElem? (i := 219) rfl)) rfl
theorem q1_217 : (Jvm.Cond.code ({ cls := "Cyclepaint", name := "digest", desc := "()J" } : Jvm.MethodName) prog_1_method_26_code (6 : Nat) (Option.some Jvm.ClassFile.FieldType.long)) ∈ lw_g := zg_of (zin1 (List.mem_of_getElem? (i := 217) rfl)) rfl
theorem q1_215 : (Jvm.Cond.instanceMethod ({ cls := "Cyclepaint", name := "digest", desc := "()J" } : Jvm.MethodName)) ∈ lw_g := zg_of (zin1 (List.mem_of_getElem? (i := 215) rfl)) rfl
theorem q1_216 : (Jvm.Cond.selects "Cyclepaint" ({ cls := "Cyclepaint", name := "digest", desc := "()J" } : Jvm.MethodName) ({ cls := "Cyclepaint", name := "digest", desc := "()J" } : Jvm.MethodName)) ∈ lw_g := zg_of (zin1 (List.mem_of_getElem? (i := 216) rfl)) rfl
theorem ok_X2_digest : zOV yX2_digest cX2_digest 6 ((Option.some Jvm.ClassFile.FieldType.long)) 0 := ⟨⟨q1_217, q1_1, by decide, by decide, by decide +kernel⟩, q1_215, q1_216⟩
set_option maxHeartbeats 4000000 in
set_option maxRecDepth 100000 in
theorem c_X2_digest (l : Launch) (G : zG) (σ : St) (a : Nat → Nat) : Met l yX2_digest (wq yX2_digest cX2_digest 6 ((Option.some Jvm.ClassFile.FieldType.long))) (rmR 6 136) (va_Pc [.ref (a 0)] (zK G (hCyc G σ a))) (zQ (some (.long (dgC σ)))) 0 0 zF := by
  refine z_enterL (by decide +kernel) (Nat.le_of_ble_eq_true rfl) ?_
  intro p env s m below meth cod Q S hG hP ret ls hl
  have hl : lv_has ls 6 [(0, .ref (a 0))] := hl
  have hC := hP.2.2.2.2.2
  have hT := hC.1
  have hdt := hC.2.1
  have hlm := hC.2.2.1
  have hkn := hC.2.2.2.1
  have hD := hC.2.2.2.2.1
  have hB := hC.2.2.2.2.2
  have hO := hP.2.2.2.2.1.2.2.2.2.2
  obtain ⟨L, hL, hLe⟩ := liM_b hO hB hdt hT.1
  rw [← li_CM hdt σ.tk] at hLe
  have hrn := hO.1
  refine lv_ldc2 S.1 S.2.1 S.2.2.2.1 (S.2.2.2.2 _ q1_218) dX2_digest_0 ?_
  refine lv_lstore_n (lv' := [(1, .long (7121)), (0, .ref (a 0))]) S.1 S.2.1 dX2_digest_3 rfl hl (by decide) rfl (fun ls hl => ?_)
  refine z_iconst S dX2_digest_4 ?_
  refine z_istore_n (lv' := [(3, .int (zI (0))), (1, .long (7121)), (0, .ref (a 0))]) S dX2_digest_5 hl rfl (by decide) rfl (fun ls hl => ?_)
  have loop_6 : ∀ (nn : Nat) (k : Int) (d : Int64), (0 ≤ k ∧ k ≤ 12) → (d = mixI (mix1 (pF σ)) 7121 k) → ((12 - k).toNat) < nn → ∀ ls, lv_has ls 6 [(3, .int (zI (k))), (1, .long (d)), (0, .ref (a 0))] → W p l env (rmR 6 136) s m ([.ref (a 0)] : List Value).toArray below meth cod s.heap [] 0 0 Q (F0 m 6 ls []) := by
    intro nn
    induction nn with
    | zero => intro _ _ _ _ h; exact absurd h (Nat.not_lt_zero _)
    | succ nn ih_6 =>
      intro k d hk hd hm_6 ls hl
      refine z_iload_n S dX2_digest_6 hl 0 rfl rfl ?_
      refine z_bipush S dX2_digest_7 rfl ?_
      refine z_icmp_ge S 29 dX2_digest_9 (by decide) (by omega) (by omega) (fun c_9 => ?_) (fun c_9 => ?_)
      · skip
        refine lv_lload_n S.1 S.2.1 dX2_digest_29 rfl (lv_at hl 1 rfl) ?_
        refine z_aload_n S dX2_digest_30 hl 2 rfl rfl ?_
        refine z_get S hG hP.1 zc_X2 0 (by decide) q1_60 rfl rfl dX2_digest_31 ?_
        refine z_callVs S hG (c_X0_commonRound l G σ a hD) ok_X0_commonRound hP.2.2.2.2.1.1 zc_X0 rfl q1_148 (hP.2.2.2.2.1) ⟨rfl, rfl, by decide, by decide⟩ ⟨Nat.zero_le _, Nat.zero_le _⟩ rfl (Nat.le_of_ble_eq_true rfl) hl.1 rfl dX2_digest_34 ?_
        refine lv_i2l S.1 S.2.1 dX2_digest_37 rfl ?_
        refine z_callSs S hG (c_X2_mixed l G (d) ((zI (per σ)).toInt64)) ok_X2_mixed q2_20 (trivial) ⟨rfl, rfl, by decide, by decide⟩ ⟨Nat.zero_le _, Nat.zero_le _⟩ rfl (Nat.le_of_ble_eq_true rfl) hl.1 rfl dX2_digest_38 ?_
        refine lv_lstore_n (lv' := [(1, .long ((d) * 31 + ((zI (per σ)).toInt64))), (3, .int (zI (k))), (0, .ref (a 0))]) S.1 S.2.1 dX2_digest_41 rfl hl (by decide) rfl (fun ls hl => ?_)
        refine z_iconst S dX2_digest_42 ?_
        refine z_istore_n (lv' := [(3, .int (zI (0))), (1, .long ((d) * 31 + ((zI (per σ)).toInt64))), (0, .ref (a 0))]) S dX2_digest_43 hl rfl (by decide) rfl (fun ls hl => ?_)
        have loop_44 : ∀ (nn : Nat) (e : Int) (d2 : Int64), (0 ≤ e ∧ e ≤ 16) → (d2 = dg3 σ e) → ((16 - e).toNat) < nn → ∀ ls, lv_has ls 6 [(3, .int (zI (e))), (1, .long (d2)), (0, .ref (a 0))] → W p l env (rmR 6 136) s m ([.ref (a 0)] : List Value).toArray below meth cod s.heap [] 0 0 Q (F0 m 44 ls []) := by
          intro nn
          induction nn with
          | zero => intro _ _ _ _ h; exact absurd h (Nat.not_lt_zero _)
          | succ nn ih_44 =>
            intro e d2 he hd2 hm_44 ls hl
            refine z_iload_n S dX2_digest_44 hl 0 rfl rfl ?_
            refine z_bipush S dX2_digest_45 rfl ?_
            refine z_icmp_ge S 85 dX2_digest_47 (by decide) (by omega) (by omega) (fun c_47 => ?_) (fun c_47 => ?_)
            · skip
              refine z_iconst S dX2_digest_85 ?_
              refine z_istore_n (lv' := [(3, .int (zI (0))), (1, .long (d2)), (0, .ref (a 0))]) S dX2_digest_86 hl rfl (by decide) rfl (fun ls hl => ?_)
              have loop_87 : ∀ (nn : Nat) (j : Int) (d4 : Int64), (0 ≤ j ∧ j ≤ 4) → (d4 = dg4 σ (if j < σ.rn then j else σ.rn)) → ((4 - j).toNat) < nn → ∀ ls, lv_has ls 6 [(3, .int (zI (j))), (1, .long (d4)), (0, .ref (a 0))] → W p l env (rmR 6 136) s m ([.ref (a 0)] : List Value).toArray below meth cod s.heap [] 0 0 Q (F0 m 87 ls []) := by
                intro nn
                induction nn with
                | zero => intro _ _ _ _ h; exact absurd h (Nat.not_lt_zero _)
                | succ nn ih_87 =>
                  intro j d4 hj hd4 hm_87 ls hl
                  refine z_iload_n S dX2_digest_87 hl 0 rfl rfl ?_
                  refine z_iconst S dX2_digest_88 ?_
                  refine z_icmp_ge S 146 dX2_digest_89 (by decide) (by omega) (by omega) (fun c_89 => ?_) (fun c_89 => ?_)
                  · skip
                    refine z_iconst S dX2_digest_146 ?_
                    refine z_istore_n (lv' := [(3, .int (zI (0))), (1, .long (d4)), (0, .ref (a 0))]) S dX2_digest_147 hl rfl (by decide) rfl (fun ls hl => ?_)
                    have loop_148 : ∀ (nn : Nat) (q : Int) (d6 : Int64), (0 ≤ q ∧ q ≤ 32) → (d6 = dg5 σ q) → ((32 - q).toNat) < nn → ∀ ls, lv_has ls 6 [(3, .int (zI (q))), (1, .long (d6)), (0, .ref (a 0))] → W p l env (rmR 6 136) s m ([.ref (a 0)] : List Value).toArray below meth cod s.heap [] 0 0 Q (F0 m 148 ls []) := by
                      intro nn
                      induction nn with
                      | zero => intro _ _ _ _ h; exact absurd h (Nat.not_lt_zero _)
                      | succ nn ih_148 =>
                        intro q d6 hq hd6 hm_148 ls hl
                        refine z_iload_n S dX2_digest_148 hl 0 rfl rfl ?_
                        refine z_bipush S dX2_digest_149 rfl ?_
                        refine z_icmp_ge S 188 dX2_digest_151 (by decide) (by omega) (by omega) (fun c_151 => ?_) (fun c_151 => ?_)
                        · skip
                          refine lv_lload_n S.1 S.2.1 dX2_digest_188 rfl (lv_at hl 1 rfl) ?_
                          refine z_aload_n S dX2_digest_189 hl 2 rfl rfl ?_
                          refine z_get S hG hP.1 zc_X2 0 (by decide) q1_60 rfl rfl dX2_digest_190 ?_
                          refine z_iconst S dX2_digest_193 ?_
                          refine z_iconst S dX2_digest_194 ?_
                          refine z_aload_n S dX2_digest_195 hl 2 rfl rfl ?_
                          refine z_get S hG hP.1 zc_X2 5 (by decide) q1_65 rfl rfl dX2_digest_196 ?_
                          refine z_callVs S hG (c_X0_firstShown l G σ a (1) (2) (σ.tk) (by omega) (by omega)) ok_X0_firstShown hP.2.2.2.2.1.1 zc_X0 rfl q2_50 (hP.2.2.2.2.1) ⟨rfl, rfl, by decide, by decide⟩ ⟨Nat.zero_le _, Nat.zero_le _⟩ rfl (Nat.le_of_ble_eq_true rfl) hl.1 rfl dX2_digest_199 ?_
                          refine lv_i2l S.1 S.2.1 dX2_digest_202 rfl ?_
                          refine z_callSs S hG (c_X2_mixed l G (d6) ((zI (fnd σ (1) (2) (σ.tk))).toInt64)) ok_X2_mixed q2_20 (trivial) ⟨rfl, rfl, by decide, by decide⟩ ⟨Nat.zero_le _, Nat.zero_le _⟩ rfl (Nat.le_of_ble_eq_true rfl) hl.1 rfl dX2_digest_203 ?_
                          refine lv_lstore_n (lv' := [(1, .long ((d6) * 31 + ((zI (fnd σ (1) (2) (σ.tk))).toInt64))), (3, .int (zI (q))), (0, .ref (a 0))]) S.1 S.2.1 dX2_digest_206 rfl hl (by decide) rfl (fun ls hl => ?_)
                          refine lv_lload_n S.1 S.2.1 dX2_digest_207 rfl (lv_at hl 0 rfl) ?_
                          refine z_aload_n S dX2_digest_208 hl 2 rfl rfl ?_
                          refine z_get S hG hP.1 zc_X2 0 (by decide) q1_60 rfl rfl dX2_digest_209 ?_
                          refine z_iconst S dX2_digest_212 ?_
                          refine z_iconst S dX2_digest_213 ?_
                          refine z_iconst S dX2_digest_214 ?_
                          refine z_iconst S dX2_digest_215 ?_
                          refine z_aload_n S dX2_digest_216 hl 2 rfl rfl ?_
                          refine z_get S hG hP.1 zc_X2 5 (by decide) q1_65 rfl rfl dX2_digest_217 ?_
                          refine z_callVs S hG (c_X0_firstMeeting l G σ a (1) (3) (5) (5) (σ.tk) (by omega) (by omega) (by omega)) ok_X0_firstMeeting hP.2.2.2.2.1.1 zc_X0 rfl q2_54 (hP.2.2.2.2.1) ⟨rfl, rfl, by decide, by decide⟩ ⟨Nat.zero_le _, Nat.zero_le _⟩ rfl (Nat.le_of_ble_eq_true rfl) hl.1 rfl dX2_digest_220 ?_
                          refine lv_i2l S.1 S.2.1 dX2_digest_223 rfl ?_
                          refine z_callSs S hG (c_X2_mixed l G ((d6) * 31 + ((zI (fnd σ (1) (2) (σ.tk))).toInt64)) ((zI (mt σ (1) (3) (5) (5) (σ.tk))).toInt64)) ok_X2_mixed q2_20 (trivial) ⟨rfl, rfl, by decide, by decide⟩ ⟨Nat.zero_le _, Nat.zero_le _⟩ rfl (Nat.le_of_ble_eq_true rfl) hl.1 rfl dX2_digest_224 ?_
                          refine lv_lstore_n (lv' := [(1, .long (((d6) * 31 + ((zI (fnd σ (1) (2) (σ.tk))).toInt64)) * 31 + ((zI (mt σ (1) (3) (5) (5) (σ.tk))).toInt64))), (3, .int (zI (q))), (0, .ref (a 0))]) S.1 S.2.1 dX2_digest_227 rfl hl (by decide) rfl (fun ls hl => ?_)
                          refine z_iconst S dX2_digest_228 ?_
                          refine z_istore_n (lv' := [(3, .int (zI (0))), (1, .long (((d6) * 31 + ((zI (fnd σ (1) (2) (σ.tk))).toInt64)) * 31 + ((zI (mt σ (1) (3) (5) (5) (σ.tk))).toInt64))), (0, .ref (a 0))]) S dX2_digest_229 hl rfl (by decide) rfl (fun ls hl => ?_)
                          have loop_230 : ∀ (nn : Nat) (n : Int) (d8 : Int64), (0 ≤ n ∧ n ≤ σ.kn) → (d8 = dg7 σ n) → ((σ.kn - n).toNat) < nn → ∀ ls, lv_has ls 6 [(3, .int (zI (n))), (1, .long (d8)), (0, .ref (a 0))] → W p l env (rmR 6 136) s m ([.ref (a 0)] : List Value).toArray below meth cod s.heap [] 0 0 Q (F0 m 230 ls []) := by
                            intro nn
                            induction nn with
                            | zero => intro _ _ _ _ h; exact absurd h (Nat.not_lt_zero _)
                            | succ nn ih_230 =>
                              intro n d8 hn hd8 hm_230 ls hl
                              refine z_iload_n S dX2_digest_230 hl 0 rfl rfl ?_
                              refine z_aload_n S dX2_digest_231 hl 2 rfl rfl ?_
                              refine z_get S hG hP.1 zc_X2 4 (by decide) q1_64 rfl rfl dX2_digest_232 ?_
                              refine z_icmp_ge S 255 dX2_digest_235 (by decide) (by omega) (by omega) (fun c_235 => ?_) (fun c_235 => ?_)
                              · skip
                                refine lv_lload_n S.1 S.2.1 dX2_digest_255 rfl (lv_at hl 1 rfl) ?_
                                refine z_aload_n S dX2_digest_256 hl 2 rfl rfl ?_
                                refine z_bipush S dX2_digest_257 rfl ?_
                                refine z_callVs S hG (c_X2_lightestTick l G σ a (30) (by omega)) ok_X2_lightestTick hP.1 zc_X2 rfl q2_66 (hP) ⟨rfl, rfl, by decide, by decide⟩ ⟨Nat.zero_le _, Nat.zero_le _⟩ rfl (Nat.le_of_ble_eq_true rfl) hl.1 rfl dX2_digest_259 ?_
                                refine lv_i2l S.1 S.2.1 dX2_digest_262 rfl ?_
                                refine z_callSs S hG (c_X2_mixed l G (d8) ((zI (ltC σ (30))).toInt64)) ok_X2_mixed q2_20 (trivial) ⟨rfl, rfl, by decide, by decide⟩ ⟨Nat.zero_le _, Nat.zero_le _⟩ rfl (Nat.le_of_ble_eq_true rfl) hl.1 rfl dX2_digest_263 ?_
                                refine lv_lstore_n (lv' := [(1, .long ((d8) * 31 + ((zI (ltC σ (30))).toInt64))), (3, .int (zI (n))), (0, .ref (a 0))]) S.1 S.2.1 dX2_digest_266 rfl hl (by decide) rfl (fun ls hl => ?_)
                                refine lv_lload_n S.1 S.2.1 dX2_digest_267 rfl (lv_at hl 0 rfl) ?_
                                refine lv_ldc2d S.1 S.2.1 S.2.2.2.1 (S.2.2.2.2 _ q2_70) dX2_digest_268 ?_
                                refine z_aload_n S dX2_digest_271 hl 2 rfl rfl ?_
                                refine z_callVs S hG (c_X2_mean l G σ a) ok_X2_mean hP.1 zc_X2 rfl q2_71 (hP) ⟨rfl, rfl, by decide, by decide⟩ ⟨Nat.zero_le _, Nat.zero_le _⟩ rfl (Nat.le_of_ble_eq_true rfl) hl.1 rfl dX2_digest_272 ?_
                                refine lv_dmul S.1 S.2.1 dX2_digest_275 (by have := (mn_b hL).2; rw [← hLe] at this; exact this) ?_
                                refine lv_d2l S.1 S.2.1 dX2_digest_276 ?_
                                refine z_callSs S hG (c_X2_mixed l G ((d8) * 31 + ((zI (ltC σ (30))).toInt64)) (FP.d2l (FP.dmul (4625196817309499392) (mnC σ)))) ok_X2_mixed q2_20 (trivial) ⟨rfl, rfl, by decide, by decide⟩ ⟨Nat.zero_le _, Nat.zero_le _⟩ rfl (Nat.le_of_ble_eq_true rfl) hl.1 rfl dX2_digest_277 ?_
                                refine lv_lstore_n (lv' := [(1, .long (((d8) * 31 + ((zI (ltC σ (30))).toInt64)) * 31 + (FP.d2l (FP.dmul (4625196817309499392) (mnC σ))))), (3, .int (zI (n))), (0, .ref (a 0))]) S.1 S.2.1 dX2_digest_280 rfl hl (by decide) rfl (fun ls hl => ?_)
                                refine lv_lload_n S.1 S.2.1 dX2_digest_281 rfl (lv_at hl 0 rfl) ?_
                                refine z_aload_n S dX2_digest_282 hl 2 rfl rfl ?_
                                refine z_callVs S hG (c_X2_isSound l G σ a) ok_X2_isSound hP.1 zc_X2 rfl q2_72 (hP) ⟨rfl, rfl, by decide, by decide⟩ ⟨Nat.zero_le _, Nat.zero_le _⟩ rfl (Nat.le_of_ble_eq_true rfl) hl.1 rfl dX2_digest_283 ?_
                                refine z_bif_eq S 293 dX2_digest_286 (by decide) (fun c_286 => ?_) (fun c_286 => ?_)
                                · skip
                                  refine lv_lconst S.1 S.2.1 dX2_digest_293 rfl ?_
                                  refine z_callSs S hG (c_X2_mixed l G (((d8) * 31 + ((zI (ltC σ (30))).toInt64)) * 31 + (FP.d2l (FP.dmul (4625196817309499392) (mnC σ)))) (0)) ok_X2_mixed q2_20 (trivial) ⟨rfl, rfl, by decide, by decide⟩ ⟨Nat.zero_le _, Nat.zero_le _⟩ rfl (Nat.le_of_ble_eq_true rfl) hl.1 rfl dX2_digest_294 ?_
                                  exact ret _ _ _ dX2_digest_297 (by rw [hd8, show n = σ.kn by omega]; unfold dgC; rw [c_286]; rfl)
                                · skip
                                  refine lv_lconst S.1 S.2.1 dX2_digest_289 rfl ?_
                                  refine z_goto S 294 dX2_digest_290 (by decide) ?_
                                  refine z_callSs S hG (c_X2_mixed l G (((d8) * 31 + ((zI (ltC σ (30))).toInt64)) * 31 + (FP.d2l (FP.dmul (4625196817309499392) (mnC σ)))) (1)) ok_X2_mixed q2_20 (trivial) ⟨rfl, rfl, by decide, by decide⟩ ⟨Nat.zero_le _, Nat.zero_le _⟩ rfl (Nat.le_of_ble_eq_true rfl) hl.1 rfl dX2_digest_294 ?_
                                  exact ret _ _ _ dX2_digest_297 (by rw [hd8, show n = σ.kn by omega]; unfold dgC; rw [c_286]; rfl)
                              · skip
                                refine lv_lload_n S.1 S.2.1 dX2_digest_238 rfl (lv_at hl 1 rfl) ?_
                                refine z_aload_n S dX2_digest_239 hl 2 rfl rfl ?_
                                refine z_iload_n S dX2_digest_240 hl 0 rfl rfl ?_
                                refine z_callVs S hG (c_X2_ticksUntil l G σ a (n) (by omega)) ok_X2_ticksUntil hP.1 zc_X2 rfl q2_58 (hP) ⟨rfl, rfl, by decide, by decide⟩ ⟨Nat.zero_le _, Nat.zero_le _⟩ rfl (Nat.le_of_ble_eq_true rfl) hl.1 rfl dX2_digest_241 ?_
                                refine lv_i2l S.1 S.2.1 dX2_digest_244 rfl ?_
                                refine z_callSs S hG (c_X2_mixed l G (d8) ((zI (whn σ (n))).toInt64)) ok_X2_mixed q2_20 (trivial) ⟨rfl, rfl, by decide, by decide⟩ ⟨Nat.zero_le _, Nat.zero_le _⟩ rfl (Nat.le_of_ble_eq_true rfl) hl.1 rfl dX2_digest_245 ?_
                                refine lv_lstore_n (lv' := [(1, .long ((d8) * 31 + ((zI (whn σ (n))).toInt64))), (3, .int (zI (n))), (0, .ref (a 0))]) S.1 S.2.1 dX2_digest_248 rfl hl (by decide) rfl (fun ls hl => ?_)
                                refine z_iinc (lv' := [(3, .int (zI (n + 1))), (1, .long ((d8) * 31 + ((zI (whn σ (n))).toInt64))), (0, .ref (a 0))]) S dX2_digest_249 hl 1 rfl (by decide) rfl (fun ls hl => ?_)
                                refine z_goto S 230 dX2_digest_252 (by decide) ?_
                                exact ih_230 (n + 1) ((d8) * 31 + ((zI (whn σ (n))).toInt64)) (by omega) (by rw [dg7_s hn.1, ← hd8]) (by omega) ls (lv_sub hl [0, 1, 2] rfl)
                          exact loop_230 _ (0) (((d6) * 31 + ((zI (fnd σ (1) (2) (σ.tk))).toInt64)) * 31 + ((zI (mt σ (1) (3) (5) (5) (σ.tk))).toInt64)) (by omega) (by rw [dg7_0, hd6, show q = 32 by omega]; unfold dg6; rfl) (Nat.lt_succ_self _) ls (lv_sub hl [0, 1, 2] rfl)
                        · skip
                          refine z_iconst S dX2_digest_154 ?_
                          refine z_istore (lv' := [(4, .int (zI (0))), (3, .int (zI (q))), (1, .long (d6)), (0, .ref (a 0))]) S dX2_digest_155 hl (by decide) rfl (fun ls hl => ?_)
                          have loop_157 : ∀ (nn : Nat) (u : Int) (d7 : Int64), (0 ≤ u ∧ u ≤ 4) → (d7 = mixI (mix1 (dF σ q)) (dg5 σ q) u) → ((4 - u).toNat) < nn → ∀ ls, lv_has ls 6 [(4, .int (zI (u))), (3, .int (zI (q))), (1, .long (d7)), (0, .ref (a 0))] → W p l env (rmR 6 136) s m ([.ref (a 0)] : List Value).toArray below meth cod s.heap [] 0 0 Q (F0 m 157 ls []) := by
                            intro nn
                            induction nn with
                            | zero => intro _ _ _ _ h; exact absurd h (Nat.not_lt_zero _)
                            | succ nn ih_157 =>
                              intro u d7 hu hd7 hm_157 ls hl
                              refine z_iload S dX2_digest_157 hl 0 rfl ?_
                              refine z_iconst S dX2_digest_159 ?_
                              refine z_icmp_ge S 182 dX2_digest_160 (by decide) (by omega) (by omega) (fun c_160 => ?_) (fun c_160 => ?_)
                              · skip
                                refine z_iinc (lv' := [(3, .int (zI (q + 1))), (4, .int (zI (u))), (1, .long (d7)), (0, .ref (a 0))]) S dX2_digest_182 hl 1 rfl (by decide) rfl (fun ls hl => ?_)
                                refine z_goto S 148 dX2_digest_185 (by decide) ?_
                                exact ih_148 (q + 1) (d7) (by omega) (by rw [dg5_s hq.1, hd7, show u = 4 by omega]) (by omega) ls (lv_sub hl [0, 2, 3] rfl)
                              · skip
                                refine lv_lload_n S.1 S.2.1 dX2_digest_163 rfl (lv_at hl 2 rfl) ?_
                                refine z_aload_n S dX2_digest_164 hl 3 rfl rfl ?_
                                refine z_iload_n S dX2_digest_165 hl 1 rfl rfl ?_
                                refine z_iload S dX2_digest_166 hl 0 rfl ?_
                                refine z_callVs S hG (c_X2_dotFact l G σ a (q) (u) (by omega) (by omega)) ok_X2_dotFact hP.1 zc_X2 rfl q2_46 (hP) ⟨rfl, rfl, by decide, by decide⟩ ⟨Nat.zero_le _, Nat.zero_le _⟩ rfl (Nat.le_of_ble_eq_true rfl) hl.1 rfl dX2_digest_168 ?_
                                refine lv_i2l S.1 S.2.1 dX2_digest_171 rfl ?_
                                refine z_callSs S hG (c_X2_mixed l G (d7) ((dF σ (q) (u)).toInt64)) ok_X2_mixed q2_20 (trivial) ⟨rfl, rfl, by decide, by decide⟩ ⟨Nat.zero_le _, Nat.zero_le _⟩ rfl (Nat.le_of_ble_eq_true rfl) hl.1 rfl dX2_digest_172 ?_
                                refine lv_lstore_n (lv' := [(1, .long ((d7) * 31 + ((dF σ (q) (u)).toInt64))), (4, .int (zI (u))), (3, .int (zI (q))), (0, .ref (a 0))]) S.1 S.2.1 dX2_digest_175 rfl hl (by decide) rfl (fun ls hl => ?_)
                                refine z_iinc (lv' := [(4, .int (zI (u + 1))), (1, .long ((d7) * 31 + ((dF σ (q) (u)).toInt64))), (3, .int (zI (q))), (0, .ref (a 0))]) S dX2_digest_176 hl 1 rfl (by decide) rfl (fun ls hl => ?_)
                                refine z_goto S 157 dX2_digest_179 (by decide) ?_
                                exact ih_157 (u + 1) ((d7) * 31 + ((dF σ (q) (u)).toInt64)) (by omega) (by rw [mix1_s hu.1, ← hd7]) (by omega) ls (lv_sub hl [0, 2, 1, 3] rfl)
                          exact loop_157 _ (0) (d6) (by omega) (by rw [mixI_0]; exact hd6) (Nat.lt_succ_self _) ls (lv_sub hl [0, 1, 2, 3] rfl)
                    exact loop_148 _ (0) (d4) (by omega) (by rw [dg5_0, hd4, if_neg (show ¬ j < σ.rn by omega)]) (Nat.lt_succ_self _) ls (lv_sub hl [0, 1, 2] rfl)
                  · skip
                    by_cases hr : j < σ.rn
                    · skip
                      have hok := hO.2 j hj.1 hr
                      refine z_aload_n S dX2_digest_92 hl 2 rfl rfl ?_
                      refine z_get S hG hP.1 zc_X2 0 (by decide) q1_60 rfl rfl dX2_digest_93 ?_
                      refine z_iload_n S dX2_digest_96 hl 0 rfl rfl ?_
                      refine z_callVs S hG (c_X0_rangeAt1 l G σ a (j) (by omega)) ok_X0_rangeAt hP.2.2.2.2.1.1 zc_X0 rfl q2_39 (hP.2.2.2.2.1) ⟨rfl, rfl, by decide, by decide⟩ ⟨Nat.zero_le _, Nat.zero_le _⟩ rfl (Nat.le_of_ble_eq_true rfl) hl.1 rfl dX2_digest_97 ?_
                      refine z_astore (lv' := [(4, .ref (a (8 + Int.toNat (j)))), (3, .int (zI (j))), (1, .long (d4)), (0, .ref (a 0))]) S dX2_digest_100 hl (by decide) rfl (fun ls hl => ?_)
                      refine z_iconst S dX2_digest_102 ?_
                      refine z_istore (lv' := [(5, .int (zI (0))), (4, .ref (a (8 + Int.toNat (j)))), (3, .int (zI (j))), (1, .long (d4)), (0, .ref (a 0))]) S dX2_digest_103 hl (by decide) rfl (fun ls hl => ?_)
                      have loop_105 : ∀ (nn : Nat) (v : Int) (d5 : Int64), (0 ≤ v ∧ v ≤ 6) → (d5 = mixI (mix1 (rF σ j)) (dg4 σ j) v) → ((6 - v).toNat) < nn → ∀ ls, lv_has ls 6 [(5, .int (zI (v))), (4, .ref (a (8 + Int.toNat (j)))), (3, .int (zI (j))), (1, .long (d5)), (0, .ref (a 0))] → W p l env (rmR 6 136) s m ([.ref (a 0)] : List Value).toArray below meth cod s.heap [] 0 0 Q (F0 m 105 ls []) := by
                        intro nn
                        induction nn with
                        | zero => intro _ _ _ _ h; exact absurd h (Nat.not_lt_zero _)
                        | succ nn ih_105 =>
                          intro v d5 hv hd5 hm_105 ls hl
                          refine z_iload S dX2_digest_105 hl 0 rfl ?_
                          refine z_bipush S dX2_digest_107 rfl ?_
                          refine z_icmp_ge S 140 dX2_digest_109 (by decide) (by omega) (by omega) (fun c_109 => ?_) (fun c_109 => ?_)
                          · skip
                            refine z_iinc (lv' := [(3, .int (zI (j + 1))), (5, .int (zI (v))), (4, .ref (a (8 + Int.toNat (j)))), (1, .long (d5)), (0, .ref (a 0))]) S dX2_digest_140 hl 2 rfl (by decide) rfl (fun ls hl => ?_)
                            refine z_goto S 87 dX2_digest_143 (by decide) ?_
                            exact ih_87 (j + 1) (d5) (by omega) (by rw [hd5, show v = 6 by omega, show (if j + 1 < σ.rn then j + 1 else σ.rn) = j + 1 by split <;> omega, dg4_s hj.1]) (by omega) ls (lv_sub hl [0, 3, 4] rfl)
                          · skip
                            refine z_aload S dX2_digest_112 hl 1 rfl ?_
                            refine z_ifnull_r S 140 dX2_digest_114 (by decide) ?_
                            refine lv_lload_n S.1 S.2.1 dX2_digest_117 rfl (lv_at hl 3 rfl) ?_
                            refine z_aload S dX2_digest_118 hl 1 rfl ?_
                            refine z_iload S dX2_digest_120 hl 0 rfl ?_
                            refine z_aload_n S dX2_digest_122 hl 4 rfl rfl ?_
                            refine z_get S hG hP.1 zc_X2 5 (by decide) q1_65 rfl rfl dX2_digest_123 ?_
                            refine z_callVs S hG (c_X1_fact l G (a (8 + Int.toNat (j))) (σ.F j) (σ.L j) (σ.S j) (σ.K j) (v) (σ.tk) (by omega) (by omega)) ok_X1_fact (hPal_r hP.2.2.2.2.1 hj.1 hr) zc_X1 rfl q2_40 (hPal_r hP.2.2.2.2.1 hj.1 hr) ⟨rfl, rfl, by decide, by decide⟩ ⟨Nat.zero_le _, Nat.zero_le _⟩ rfl (Nat.le_of_ble_eq_true rfl) hl.1 rfl dX2_digest_126 ?_
                            refine lv_i2l S.1 S.2.1 dX2_digest_129 rfl ?_
                            refine z_callSs S hG (c_X2_mixed l G (d5) ((factR (σ.F j) (σ.L j) (σ.S j) (σ.K j) (v) (σ.tk)).toInt64)) ok_X2_mixed q2_20 (trivial) ⟨rfl, rfl, by decide, by decide⟩ ⟨Nat.zero_le _, Nat.zero_le _⟩ rfl (Nat.le_of_ble_eq_true rfl) hl.1 rfl dX2_digest_130 ?_
                            refine lv_lstore_n (lv' := [(1, .long ((d5) * 31 + ((factR (σ.F j) (σ.L j) (σ.S j) (σ.K j) (v) (σ.tk)).toInt64))), (5, .int (zI (v))), (4, .ref (a (8 + Int.toNat (j)))), (3, .int (zI (j))), (0, .ref (a 0))]) S.1 S.2.1 dX2_digest_133 rfl hl (by decide) rfl (fun ls hl => ?_)
                            refine z_iinc (lv' := [(5, .int (zI (v + 1))), (1, .long ((d5) * 31 + ((factR (σ.F j) (σ.L j) (σ.S j) (σ.K j) (v) (σ.tk)).toInt64))), (4, .ref (a (8 + Int.toNat (j)))), (3, .int (zI (j))), (0, .ref (a 0))]) S dX2_digest_134 hl 1 rfl (by decide) rfl (fun ls hl => ?_)
                            refine z_goto S 105 dX2_digest_137 (by decide) ?_
                            exact ih_105 (v + 1) ((d5) * 31 + ((factR (σ.F j) (σ.L j) (σ.S j) (σ.K j) (v) (σ.tk)).toInt64)) (by omega) (by rw [mix1_s hv.1, ← hd5]; rfl) (by omega) ls (lv_sub hl [0, 2, 3, 1, 4] rfl)
                      exact loop_105 _ (0) (d4) (by omega) (by rw [mixI_0, hd4, if_pos hr]) (Nat.lt_succ_self _) ls (lv_sub hl [0, 1, 2, 3, 4] rfl)
                    · skip
                      refine z_aload_n S dX2_digest_92 hl 2 rfl rfl ?_
                      refine z_get S hG hP.1 zc_X2 0 (by decide) q1_60 rfl rfl dX2_digest_93 ?_
                      refine z_iload_n S dX2_digest_96 hl 0 rfl rfl ?_
                      refine z_callVs S hG (c_X0_rangeAt0 l G σ a (j) (by omega)) ok_X0_rangeAt hP.2.2.2.2.1.1 zc_X0 rfl q2_39 (hP.2.2.2.2.1) ⟨rfl, rfl, by decide, by decide⟩ ⟨Nat.zero_le _, Nat.zero_le _⟩ rfl (Nat.le_of_ble_eq_true rfl) hl.1 rfl dX2_digest_97 ?_
                      refine z_astoreN (lv' := [(4, .null), (3, .int (zI (j))), (1, .long (d4)), (0, .ref (a 0))]) S dX2_digest_100 hl (by decide) rfl (fun ls hl => ?_)
                      refine z_iconst S dX2_digest_102 ?_
                      refine z_istore (lv' := [(5, .int (zI (0))), (4, .null), (3, .int (zI (j))), (1, .long (d4)), (0, .ref (a 0))]) S dX2_digest_103 hl (by decide) rfl (fun ls hl => ?_)
                      have loop_105 : ∀ (nn : Nat) (v : Int) (d5 : Int64), (v = 0) → (d5 = dg4 σ σ.rn) → ((6 - v).toNat) < nn → ∀ ls, lv_has ls 6 [(5, .int (zI (v))), (4, .null), (3, .int (zI (j))), (1, .long (d5)), (0, .ref (a 0))] → W p l env (rmR 6 136) s m ([.ref (a 0)] : List Value).toArray below meth cod s.heap [] 0 0 Q (F0 m 105 ls []) := by
                        intro nn
                        induction nn with
                        | zero => intro _ _ _ _ h; exact absurd h (Nat.not_lt_zero _)
                        | succ nn ih_105 =>
                          intro v d5 hv hd5 hm_105 ls hl
                          refine z_iload S dX2_digest_105 hl 0 rfl ?_
                          refine z_bipush S dX2_digest_107 rfl ?_
                          refine z_icmp_ge S 140 dX2_digest_109 (by decide) (by omega) (by omega) (fun c_109 => ?_) (fun c_109 => ?_)
                          · skip
                            refine z_iinc (lv' := [(3, .int (zI (j + 1))), (5, .int (zI (v))), (4, .null), (1, .long (d5)), (0, .ref (a 0))]) S dX2_digest_140 hl 2 rfl (by decide) rfl (fun ls hl => ?_)
                            refine z_goto S 87 dX2_digest_143 (by decide) ?_
                            exact ih_87 (j + 1) (d5) (by omega) (by rw [hd5, if_neg (show ¬ j + 1 < σ.rn by omega)]) (by omega) ls (lv_sub hl [0, 3, 4] rfl)
                          · skip
                            refine z_aloadN S dX2_digest_112 hl 1 rfl ?_
                            refine z_ifnull_n S 140 dX2_digest_114 (by decide) ?_
                            refine z_iinc (lv' := [(3, .int (zI (j + 1))), (5, .int (zI (v))), (4, .null), (1, .long (d5)), (0, .ref (a 0))]) S dX2_digest_140 hl 2 rfl (by decide) rfl (fun ls hl => ?_)
                            refine z_goto S 87 dX2_digest_143 (by decide) ?_
                            exact ih_87 (j + 1) (d5) (by omega) (by rw [hd5, if_neg (show ¬ j + 1 < σ.rn by omega)]) (by omega) ls (lv_sub hl [0, 3, 4] rfl)
                      exact loop_105 _ (0) (d4) (rfl) (by rw [hd4, if_neg hr]) (Nat.lt_succ_self _) ls (lv_sub hl [0, 1, 2, 3, 4] rfl)
              exact loop_87 _ (0) (d2) (by omega) (by rw [show (if (0 : Int) < σ.rn then (0 : Int) else σ.rn) = 0 by split <;> omega, dg4_0, hd2, show e = 16 by omega]) (Nat.lt_succ_self _) ls (lv_sub hl [0, 1, 2] rfl)
            · skip
              refine z_iconst S dX2_digest_50 ?_
              refine z_istore (lv' := [(4, .int (zI (0))), (3, .int (zI (e))), (1, .long (d2)), (0, .ref (a 0))]) S dX2_digest_51 hl (by decide) rfl (fun ls hl => ?_)
              have loop_53 : ∀ (nn : Nat) (u : Int) (d3 : Int64), (0 ≤ u ∧ u ≤ 6) → (d3 = mixI (mix1 (eF σ e)) (dg3 σ e) u) → ((6 - u).toNat) < nn → ∀ ls, lv_has ls 6 [(4, .int (zI (u))), (3, .int (zI (e))), (1, .long (d3)), (0, .ref (a 0))] → W p l env (rmR 6 136) s m ([.ref (a 0)] : List Value).toArray below meth cod s.heap [] 0 0 Q (F0 m 53 ls []) := by
                intro nn
                induction nn with
                | zero => intro _ _ _ _ h; exact absurd h (Nat.not_lt_zero _)
                | succ nn ih_53 =>
                  intro u d3 hu hd3 hm_53 ls hl
                  refine z_iload S dX2_digest_53 hl 0 rfl ?_
                  refine z_bipush S dX2_digest_55 rfl ?_
                  refine z_icmp_ge S 79 dX2_digest_57 (by decide) (by omega) (by omega) (fun c_57 => ?_) (fun c_57 => ?_)
                  · skip
                    refine z_iinc (lv' := [(3, .int (zI (e + 1))), (4, .int (zI (u))), (1, .long (d3)), (0, .ref (a 0))]) S dX2_digest_79 hl 1 rfl (by decide) rfl (fun ls hl => ?_)
                    refine z_goto S 44 dX2_digest_82 (by decide) ?_
                    exact ih_44 (e + 1) (d3) (by omega) (by rw [dg3_s he.1, hd3, show u = 6 by omega]) (by omega) ls (lv_sub hl [0, 2, 3] rfl)
                  · skip
                    refine lv_lload_n S.1 S.2.1 dX2_digest_60 rfl (lv_at hl 2 rfl) ?_
                    refine z_aload_n S dX2_digest_61 hl 3 rfl rfl ?_
                    refine z_iload_n S dX2_digest_62 hl 1 rfl rfl ?_
                    refine z_iload S dX2_digest_63 hl 0 rfl ?_
                    refine z_callVs S hG (c_X2_entryFact l G σ a (e) (u) (by omega) (by omega)) ok_X2_entryFact hP.1 zc_X2 rfl q2_24 (hP) ⟨rfl, rfl, by decide, by decide⟩ ⟨Nat.zero_le _, Nat.zero_le _⟩ rfl (Nat.le_of_ble_eq_true rfl) hl.1 rfl dX2_digest_65 ?_
                    refine lv_i2l S.1 S.2.1 dX2_digest_68 rfl ?_
                    refine z_callSs S hG (c_X2_mixed l G (d3) ((eF σ (e) (u)).toInt64)) ok_X2_mixed q2_20 (trivial) ⟨rfl, rfl, by decide, by decide⟩ ⟨Nat.zero_le _, Nat.zero_le _⟩ rfl (Nat.le_of_ble_eq_true rfl) hl.1 rfl dX2_digest_69 ?_
                    refine lv_lstore_n (lv' := [(1, .long ((d3) * 31 + ((eF σ (e) (u)).toInt64))), (4, .int (zI (u))), (3, .int (zI (e))), (0, .ref (a 0))]) S.1 S.2.1 dX2_digest_72 rfl hl (by decide) rfl (fun ls hl => ?_)
                    refine z_iinc (lv' := [(4, .int (zI (u + 1))), (1, .long ((d3) * 31 + ((eF σ (e) (u)).toInt64))), (3, .int (zI (e))), (0, .ref (a 0))]) S dX2_digest_73 hl 1 rfl (by decide) rfl (fun ls hl => ?_)
                    refine z_goto S 53 dX2_digest_76 (by decide) ?_
                    exact ih_53 (u + 1) ((d3) * 31 + ((eF σ (e) (u)).toInt64)) (by omega) (by rw [mix1_s hu.1, ← hd3]) (by omega) ls (lv_sub hl [0, 2, 1, 3] rfl)
              exact loop_53 _ (0) (d2) (by omega) (by rw [mixI_0]; exact hd2) (Nat.lt_succ_self _) ls (lv_sub hl [0, 1, 2, 3] rfl)
        exact loop_44 _ (0) ((d) * 31 + ((zI (per σ)).toInt64)) (by omega) (by rw [dg3_0, hd, show k = 12 by omega]; unfold dg2 dg1; rfl) (Nat.lt_succ_self _) ls (lv_sub hl [0, 1, 2] rfl)
      · skip
        refine lv_lload_n S.1 S.2.1 dX2_digest_12 rfl (lv_at hl 1 rfl) ?_
        refine z_aload_n S dX2_digest_13 hl 2 rfl rfl ?_
        refine z_iload_n S dX2_digest_14 hl 0 rfl rfl ?_
        refine z_callVs S hG (c_X2_pictureFact l G σ a (k) (by omega)) ok_X2_pictureFact hP.1 zc_X2 rfl q1_219 (hP) ⟨rfl, rfl, by decide, by decide⟩ ⟨Nat.zero_le _, Nat.zero_le _⟩ rfl (Nat.le_of_ble_eq_true rfl) hl.1 rfl dX2_digest_15 ?_
        refine lv_i2l S.1 S.2.1 dX2_digest_18 rfl ?_
        refine z_callSs S hG (c_X2_mixed l G (d) ((pF σ (k)).toInt64)) ok_X2_mixed q2_20 (trivial) ⟨rfl, rfl, by decide, by decide⟩ ⟨Nat.zero_le _, Nat.zero_le _⟩ rfl (Nat.le_of_ble_eq_true rfl) hl.1 rfl dX2_digest_19 ?_
        refine lv_lstore_n (lv' := [(1, .long ((d) * 31 + ((pF σ (k)).toInt64))), (3, .int (zI (k))), (0, .ref (a 0))]) S.1 S.2.1 dX2_digest_22 rfl hl (by decide) rfl (fun ls hl => ?_)
        refine z_iinc (lv' := [(3, .int (zI (k + 1))), (1, .long ((d) * 31 + ((pF σ (k)).toInt64))), (0, .ref (a 0))]) S dX2_digest_23 hl 1 rfl (by decide) rfl (fun ls hl => ?_)
        refine z_goto S 6 dX2_digest_26 (by decide) ?_
        exact ih_6 (k + 1) ((d) * 31 + ((pF σ (k)).toInt64)) (by omega) (by rw [mix1_s hk.1, ← hd]) (by omega) ls (lv_sub hl [0, 1, 2] rfl)
  exact loop_6 _ (0) (7121) (by omega) (by rw [mixI_0]) (Nat.lt_succ_self _) ls (lv_sub hl [0, 1, 2] rfl)
