set_option maxHeartbeats 4000000 in
set_option maxRecDepth 100000 in
theorem c_X0_ranges1 (l : Launch) (G : zG) (q1 q2 q3 q4 : Nat) (n : Int) : Met l yX0_ranges (wq yX0_ranges cX0_ranges 1 ((Option.some Jvm.ClassFile.FieldType.int))) (rmR 0 0) (va_Pc [.ref (q1)] (zK G (fun H => va_at G.1 vwCl (q1, .inr (4, [.ref q2, .ref q3, .ref q4, .int (zI n)])) H))) (zQ (some (.int ((zI (n)))))) 0 0 zF := by
  refine z_enterI (by decide +kernel) (Nat.le_of_ble_eq_true rfl) ?_
  intro p env s m below meth cod Q S hG hP ret ls hl
  have hl : lv_has ls 1 [(0, .ref (q1))] := hl
  refine z_aload_n S dX0_ranges_0 hl 0 rfl rfl ?_
  refine z_get S hG hP zc_X0 3 (by decide) q1_49 rfl rfl dX0_ranges_1 ?_
  exact ret _ _ _ dX0_ranges_4 (rfl)
theorem dX2_stop_0 : decode cX2_stop 0 = .ok (.aload_n 0, 1) := by decide +kernel
theorem dX2_stop_1 : decode cX2_stop 1 = .ok (.getfield 12, 3) := by decide +kernel
theorem dX2_stop_4 : decode cX2_stop 4 = .ok (.iload_n 1, 1) := by decide +kernel
theorem dX2_stop_5 : decode cX2_stop 5 = .ok (.invokevirtual 106, 3) := by decide +kernel
theorem dX2_stop_8 : decode cX2_stop 8 = .ok (.ifnonnull 13, 3) := by decide +kernel
theorem dX2_stop_11 : decode cX2_stop 11 = .ok (.new 43, 3) := by decide +kernel
theorem dX2_stop_14 : decode cX2_stop 14 = .ok (.dup, 1) := by decide +kernel
theorem dX2_stop_15 : decode cX2_stop 15 = .ok (.ldc 110, 2) := by decide +kernel
theorem dX2_stop_17 : decode cX2_stop 17 = .ok (.invokespecial 47, 3) := by decide +kernel
theorem dX2_stop_20 : decode cX2_stop 20 = .ok (.athrow, 1) := by decide +kernel
theorem dX2_stop_21 : decode cX2_stop 21 = .ok (.aload_n 0, 1) := by decide +kernel
theorem dX2_stop_22 : decode cX2_stop 22 = .ok (.getfield 12, 3) := by decide +kernel
theorem dX2_stop_25 : decode cX2_stop 25 = .ok (.iload_n 1, 1) := by decide +kernel
theorem dX2_stop_26 : decode cX2_stop 26 = .ok (.invokevirtual 120, 3) := by decide +kernel
theorem dX2_stop_29 : decode cX2_stop 29 = .ok (.aload_n 0, 1) := by decide +kernel
theorem dX2_stop_30 : decode cX2_stop 30 = .ok (.getfield 12, 3) := by decide +kernel
theorem dX2_stop_33 : decode cX2_stop 33 = .ok (.invokevirtual 85, 3) := by decide +kernel
theorem dX2_stop_36 : decode cX2_stop 36 = .ok (.ireturn, 1) := by decide +kernel
theorem q3_45 : (Jvm.Cond.methodLink "Cyclepaint" (120 : Nat) ({ cls := "Cyclepaint$Palette", name := "removeRange", desc := "(I)V" } : Jvm.MethodName)) ∈ lw_g := zg_of (zin3 (List.mem_of_getElem? (i := 45) rfl)) rfl
theorem q3_44 : (Jvm.Cond.code ({ cls := "Cyclepaint", name := "stop", desc := "(I)I" } : Jvm.MethodName) prog_1_method_6_code (2 : Nat) (Option.some Jvm.ClassFile.FieldType.int)) ∈ lw_g := zg_of (zin3 (List.mem_of_getElem? (i := 44) rfl)) rfl
theorem q3_42 : (Jvm.Cond.instanceMethod ({ cls := "Cyclepaint", name := "stop", desc := "(I)I" } : Jvm.MethodName)) ∈ lw_g := zg_of (zin3 (List.mem_of_getElem? (i := 42) rfl)) rfl
theorem q3_43 : (Jvm.Cond.selects "Cyclepaint" ({ cls := "Cyclepaint", name := "stop", desc := "(I)I" } : Jvm.MethodName) ({ cls := "Cyclepaint", name := "stop", desc := "(I)I" } : Jvm.MethodName)) ∈ lw_g := zg_of (zin3 (List.mem_of_getElem? (i := 43) rfl)) rfl
theorem ok_X2_stop : zOV yX2_stop cX2_stop 2 ((Option.some Jvm.ClassFile.FieldType.int)) 1 := ⟨⟨q3_44, q1_1, by decide, by decide, by decide +kernel⟩, q3_42, q3_43⟩
set_option maxHeartbeats 4000000 in
set_option maxRecDepth 100000 in
theorem c_X2_stop (l : Launch) (G : zG) (σ : St) (a : Nat → Nat) (hd : inj a (cL σ)) (j : Int) (hj : 0 ≤ j ∧ j < σ.rn) : Met l yX2_stop (wq yX2_stop cX2_stop 2 ((Option.some Jvm.ClassFile.FieldType.int))) (rmM 3 65 0 0) (va_Pc [.ref (a 0), .int (zI (j))] (zK G (hCyc G σ a))) (zM (cA σ a) (some (.int ((zI (σ.rn - 1))))) (fun H => hCyc G (delS σ j) (delB a j) H)) 0 0 (cA σ a) := by
  refine z_enterMI (by decide +kernel) (Nat.le_of_ble_eq_true rfl) ?_
  intro p env s m below meth cod Q S hG hP hS ret ls hl
  have hl : lv_has ls 2 [(0, .ref (a 0)), (1, .int (zI (j)))] := hl
  have hC := hP.2.2.2.2.2
  have hT := hC.1
  have hdt := hC.2.1
  have hlm := hC.2.2.1
  have hkn := hC.2.2.2.1
  have hD := hC.2.2.2.2.1
  have hB := hC.2.2.2.2.2
  have hrn4 := hP.2.2.2.2.1.2.2.2.2.2.1
  refine z_aload_n S dX2_stop_0 hl 0 rfl rfl ?_
  refine z_get S hG hP.1 zc_X2 0 (by decide) q1_60 rfl rfl dX2_stop_1 ?_
  refine z_iload_n S dX2_stop_4 hl 1 rfl rfl ?_
  refine z_callVs S hG (c_X0_rangeAt1 l G σ a j (by omega)) ok_X0_rangeAt hP.2.2.2.2.1.1 zc_X0 rfl q2_39 (hP.2.2.2.2.1) ⟨rfl, rfl, by decide, by decide⟩ ⟨Nat.zero_le _, Nat.zero_le _⟩ rfl (Nat.le_of_ble_eq_true rfl) hl.1 rfl dX2_stop_5 ?_
  refine z_ifnonnull_r S 21 dX2_stop_8 (by decide) ?_
  refine z_aload_n S dX2_stop_21 hl 0 rfl rfl ?_
  refine z_get S hG hP.1 zc_X2 0 (by decide) q1_60 rfl rfl dX2_stop_22 ?_
  refine z_iload_n S dX2_stop_25 hl 1 rfl rfl ?_
  refine z_callM S hG hS (c_X0_remove l G σ a hd hD j hj.1 hj.2) (fun q h => h.elim (fun h => ⟨1, cL_s (by decide), h⟩) (fun h => h.elim (fun h => ⟨4, cL_s (by decide), h⟩) (fun h => ⟨3, cL_s (by decide), h⟩))) ok_X0_removeRange hP.2.2.2.2.1.1 zc_X0 rfl q3_45 (hP.2.2.2.2.1) ⟨rfl, rfl, by decide, by decide⟩ ⟨Nat.le_of_ble_eq_true rfl, Nat.le_of_ble_eq_true rfl⟩ rfl (Nat.le_of_ble_eq_true rfl) hl.1 rfl dX2_stop_26 (fun H_1 L_1 hB hz oq hS => ?_)
  have hP : hCyc G (delS σ j) (delB a j) H_1 := hCyc_del hP hj.1 hj.2 hB (fun i hi => oq _ (hCyc_lt hP (cL_s (by omega))) (fun z => z.elim (fun z => by have := hd i 1 (cL_s (by omega)) (cL_s (by decide)) z; omega) (fun z => z.elim (fun z => by have := hd i 4 (cL_s (by omega)) (cL_s (by decide)) z; omega) (fun z => by have := hd i 3 (cL_s (by omega)) (cL_s (by decide)) z; omega))))
  have h0 : va_at G.1 vwCl (a 0, .inr (6, [.ref (a 1), .ref (a 5), .ref (a 6), .ref (a 7), .int (zI σ.kn), .int (zI σ.tk), .int (zI σ.lim), .int σ.rf])) H_1 := by have q := hP.1; rw [delB_s a j (k := 0) (by decide), delB_s a j (k := 1) (by decide), delB_s a j (k := 5) (by decide), delB_s a j (k := 6) (by decide), delB_s a j (k := 7) (by decide)] at q; exact q
  have h1 : va_at G.1 vwCl (a 1, .inr (4, [.ref (a 2), .ref (a 3), .ref (a 4), .int (zI (σ.rn - 1))])) H_1 := by have q := hB.1; rw [delB_s a j (k := 1) (by decide), delB_s a j (k := 2) (by decide), delB_s a j (k := 3) (by decide), delB_s a j (k := 4) (by decide)] at q; exact q
  refine z_aload_n S dX2_stop_29 hl 0 rfl rfl ?_
  refine z_get S hG h0 zc_X2 0 (by decide) q1_60 rfl rfl dX2_stop_30 ?_
  refine z_callVs S hG (c_X0_ranges1 l G (a 1) (a 2) (a 3) (a 4) (σ.rn - 1)) ok_X0_ranges h1 zc_X0 rfl q1_223 (h1) ⟨rfl, rfl, by decide, by decide⟩ ⟨Nat.zero_le _, Nat.zero_le _⟩ rfl (Nat.le_of_ble_eq_true rfl) hl.1 rfl dX2_stop_33 ?_
  exact ret _ _ _ _ _ _ _ dX2_stop_36 (rfl) hS (hP) (Nat.le_of_ble_eq_true rfl) (Nat.le_of_ble_eq_true rfl)
theorem dX2_ofRange_0 : decode cX2_ofRange 0 = .ok (.aload_n 0, 1) := by decide +kernel
theorem dX2_ofRange_1 : decode cX2_ofRange 1 = .ok (.getfield 12, 3) := by decide +kernel
theorem dX2_ofRange_4 : decode cX2_ofRange 4 = .ok (.iload_n 1, 1) := by decide +kernel
theorem dX2_ofRange_5 : decode cX2_ofRange 5 = .ok (.invokevirtual 106, 3) := by decide +kernel
theorem dX2_ofRange_8 : decode cX2_ofRange 8 = .ok (.astore_n 3, 1) := by decide +kernel
theorem dX2_ofRange_9 : decode cX2_ofRange 9 = .ok (.aload_n 3, 1) := by decide +kernel
theorem dX2_ofRange_10 : decode cX2_ofRange 10 = .ok (.ifnonnull 13, 3) := by decide +kernel
theorem dX2_ofRange_13 : decode cX2_ofRange 13 = .ok (.new 43, 3) := by decide +kernel
theorem dX2_ofRange_16 : decode cX2_ofRange 16 = .ok (.dup, 1) := by decide +kernel
theorem dX2_ofRange_17 : decode cX2_ofRange 17 = .ok (.ldc 110, 2) := by decide +kernel
theorem dX2_ofRange_19 : decode cX2_ofRange 19 = .ok (.invokespecial 47, 3) := by decide +kernel
theorem dX2_ofRange_22 : decode cX2_ofRange 22 = .ok (.athrow, 1) := by decide +kernel
theorem dX2_ofRange_23 : decode cX2_ofRange 23 = .ok (.iload_n 2, 1) := by decide +kernel
theorem dX2_ofRange_24 : decode cX2_ofRange 24 = .ok (.bipush 6, 2) := by decide +kernel
theorem dX2_ofRange_26 : decode cX2_ofRange 26 = .ok (.invokestatic 156, 3) := by decide +kernel
theorem dX2_ofRange_29 : decode cX2_ofRange 29 = .ok (.ifCond .ne 13, 3) := by decide +kernel
theorem dX2_ofRange_32 : decode cX2_ofRange 32 = .ok (.new 53, 3) := by decide +kernel
theorem dX2_ofRange_35 : decode cX2_ofRange 35 = .ok (.dup, 1) := by decide +kernel
theorem dX2_ofRange_36 : decode cX2_ofRange 36 = .ok (.ldc 164, 2) := by decide +kernel
theorem dX2_ofRange_38 : decode cX2_ofRange 38 = .ok (.invokespecial 57, 3) := by decide +kernel
theorem dX2_ofRange_41 : decode cX2_ofRange 41 = .ok (.athrow, 1) := by decide +kernel
theorem dX2_ofRange_42 : decode cX2_ofRange 42 = .ok (.aload_n 3, 1) := by decide +kernel
theorem dX2_ofRange_43 : decode cX2_ofRange 43 = .ok (.iload_n 2, 1) := by decide +kernel
theorem dX2_ofRange_44 : decode cX2_ofRange 44 = .ok (.aload_n 0, 1) := by decide +kernel
theorem dX2_ofRange_45 : decode cX2_ofRange 45 = .ok (.getfield 30, 3) := by decide +kernel
theorem dX2_ofRange_48 : decode cX2_ofRange 48 = .ok (.invokevirtual 169, 3) := by decide +kernel
theorem dX2_ofRange_51 : decode cX2_ofRange 51 = .ok (.ireturn, 1) := by decide +kernel
theorem q3_114 : (Jvm.Cond.code ({ cls := "Cyclepaint", name := "ofRange", desc := "(II)I" } : Jvm.MethodName) prog_1_method_15_code (4 : Nat) (Option.some Jvm.ClassFile.FieldType.int)) ∈ lw_g := zg_of (zin3 (List.mem_of_getElem? (i := 114) rfl)) rfl
theorem q3_112 : (Jvm.Cond.instanceMethod ({ cls := "Cyclepaint", name := "ofRange", desc := "(II)I" } : Jvm.MethodName)) ∈ lw_g := zg_of (zin3 (List.mem_of_getElem? (i := 112) rfl)) rfl
theorem q3_113 : (Jvm.Cond.selects "Cyclepaint" ({ cls := "Cyclepaint", name := "ofRange", desc := "(II)I" } : Jvm.MethodName) ({ cls := "Cyclepaint", name := "ofRange", desc := "(II)I" } : Jvm.MethodName)) ∈ lw_g := zg_of (zin3 (List.mem_of_getElem? (i := 113) rfl)) rfl
theorem ok_X2_ofRange : zOV yX2_ofRange cX2_ofRange 4 ((Option.some Jvm.ClassFile.FieldType.int)) 2 := ⟨⟨q3_114, q1_1, by decide, by decide, by decide +kernel⟩, q3_112, q3_113⟩
set_option maxHeartbeats 4000000 in
set_option maxRecDepth 100000 in
theorem c_X2_ofRange (l : Launch) (G : zG) (σ : St) (a : Nat → Nat) (j x : Int) (hj : 0 ≤ j ∧ j < σ.rn) (hx : 0 ≤ x ∧ x ≤ 5) : Met l yX2_ofRange (wq yX2_ofRange cX2_ofRange 4 ((Option.some Jvm.ClassFile.FieldType.int))) (rmR 2 44) (va_Pc [.ref (a 0), .int (zI (j)), .int (zI (x))] (zK G (hCyc G σ a))) (zQ (some (.int ((rF σ j x))))) 0 0 zF := by
  refine z_enterI (by decide +kernel) (Nat.le_of_ble_eq_true rfl) ?_
  intro p env s m below meth cod Q S hG hP ret ls hl
  have hl : lv_has ls 4 [(0, .ref (a 0)), (1, .int (zI (j))), (2, .int (zI (x)))] := hl
  have hC := hP.2.2.2.2.2
  have hT := hC.1
  have hdt := hC.2.1
  have hlm := hC.2.2.1
  have hkn := hC.2.2.2.1
  have hD := hC.2.2.2.2.1
  have hB := hC.2.2.2.2.2
  have hrn4 := hP.2.2.2.2.1.2.2.2.2.2.1
  have hok := hP.2.2.2.2.1.2.2.2.2.2.2 j hj.1 hj.2
  have hrg := hP.2.2.2.2.1.2.2.2.2.1 j hj.1 hj.2
  refine z_aload_n S dX2_ofRange_0 hl 0 rfl rfl ?_
  refine z_get S hG hP.1 zc_X2 0 (by decide) q1_60 rfl rfl dX2_ofRange_1 ?_
  refine z_iload_n S dX2_ofRange_4 hl 1 rfl rfl ?_
  refine z_callVs S hG (c_X0_rangeAt1 l G σ a j (by omega)) ok_X0_rangeAt hP.2.2.2.2.1.1 zc_X0 rfl q2_39 (hP.2.2.2.2.1) ⟨rfl, rfl, by decide, by decide⟩ ⟨Nat.zero_le _, Nat.zero_le _⟩ rfl (Nat.le_of_ble_eq_true rfl) hl.1 rfl dX2_ofRange_5 ?_
  refine z_astore_n (lv' := [(3, .ref (a (8 + Int.toNat (j)))), (0, .ref (a 0)), (1, .int (zI (j))), (2, .int (zI (x)))]) S dX2_ofRange_8 hl rfl (by decide) rfl (fun ls hl => ?_)
  refine z_aload_n S dX2_ofRange_9 hl 0 rfl rfl ?_
  refine z_ifnonnull_r S 23 dX2_ofRange_10 (by decide) ?_
  refine z_iload_n S dX2_ofRange_23 hl 3 rfl rfl ?_
  refine z_bipush S dX2_ofRange_24 rfl ?_
  refine z_callSs S hG (c_X2_isFact l G (x) (6) (by omega)) ok_X2_isFact q3_96 (trivial) ⟨rfl, rfl, by decide, by decide⟩ ⟨Nat.zero_le _, Nat.zero_le _⟩ rfl (Nat.le_of_ble_eq_true rfl) hl.1 rfl dX2_ofRange_26 ?_
  refine z_bif_ne S 42 dX2_ofRange_29 (by decide) (fun q => ?_) (fun q => ?_)
  rotate_left
  · exact absurd q (by rw [(show (decide (0 ≤ x) && decide (x < 6)) = true from by simp; omega)]; decide)
  refine z_aload_n S dX2_ofRange_42 hl 0 rfl rfl ?_
  refine z_iload_n S dX2_ofRange_43 hl 3 rfl rfl ?_
  refine z_aload_n S dX2_ofRange_44 hl 1 rfl rfl ?_
  refine z_get S hG hP.1 zc_X2 5 (by decide) q1_65 rfl rfl dX2_ofRange_45 ?_
  refine z_callVs S hG (c_X1_fact l G (a (8 + Int.toNat (j))) (σ.F j) (σ.L j) (σ.S j) (σ.K j) x σ.tk (by omega) (by omega)) ok_X1_fact hrg zc_X1 rfl q2_40 (hrg) ⟨rfl, rfl, by decide, by decide⟩ ⟨Nat.zero_le _, Nat.zero_le _⟩ rfl (Nat.le_of_ble_eq_true rfl) hl.1 rfl dX2_ofRange_48 ?_
  exact ret _ _ _ dX2_ofRange_51 (rfl)
theorem dX2_keep_0 : decode cX2_keep 0 = .ok (.aload_n 0, 1) := by decide +kernel
theorem dX2_keep_1 : decode cX2_keep 1 = .ok (.getfield 26, 3) := by decide +kernel
theorem dX2_keep_4 : decode cX2_keep 4 = .ok (.iconst 5, 1) := by decide +kernel
theorem dX2_keep_5 : decode cX2_keep 5 = .ok (.if_icmp .lt 13, 3) := by decide +kernel
theorem dX2_keep_8 : decode cX2_keep 8 = .ok (.new 92, 3) := by decide +kernel
theorem dX2_keep_11 : decode cX2_keep 11 = .ok (.dup, 1) := by decide +kernel
theorem dX2_keep_12 : decode cX2_keep 12 = .ok (.ldc 144, 2) := by decide +kernel
theorem dX2_keep_14 : decode cX2_keep 14 = .ok (.invokespecial 96, 3) := by decide +kernel
theorem dX2_keep_17 : decode cX2_keep 17 = .ok (.athrow, 1) := by decide +kernel
theorem dX2_keep_18 : decode cX2_keep 18 = .ok (.aload_n 0, 1) := by decide +kernel
theorem dX2_keep_19 : decode cX2_keep 19 = .ok (.getfield 26, 3) := by decide +kernel
theorem dX2_keep_22 : decode cX2_keep 22 = .ok (.bipush 32, 2) := by decide +kernel
theorem dX2_keep_24 : decode cX2_keep 24 = .ok (.imul, 1) := by decide +kernel
theorem dX2_keep_25 : decode cX2_keep 25 = .ok (.istore_n 1, 1) := by decide +kernel
theorem dX2_keep_26 : decode cX2_keep 26 = .ok (.iconst 0, 1) := by decide +kernel
theorem dX2_keep_27 : decode cX2_keep 27 = .ok (.istore_n 2, 1) := by decide +kernel
theorem dX2_keep_28 : decode cX2_keep 28 = .ok (.iload_n 2, 1) := by decide +kernel
theorem dX2_keep_29 : decode cX2_keep 29 = .ok (.bipush 32, 2) := by decide +kernel
theorem dX2_keep_31 : decode cX2_keep 31 = .ok (.if_icmp .ge 34, 3) := by decide +kernel
theorem dX2_keep_34 : decode cX2_keep 34 = .ok (.aload_n 0, 1) := by decide +kernel
theorem dX2_keep_35 : decode cX2_keep 35 = .ok (.getfield 23, 3) := by decide +kernel
theorem dX2_keep_38 : decode cX2_keep 38 = .ok (.iload_n 1, 1) := by decide +kernel
theorem dX2_keep_39 : decode cX2_keep 39 = .ok (.iload_n 2, 1) := by decide +kernel
theorem dX2_keep_40 : decode cX2_keep 40 = .ok (.iadd, 1) := by decide +kernel
theorem dX2_keep_41 : decode cX2_keep 41 = .ok (.aload_n 0, 1) := by decide +kernel
theorem dX2_keep_42 : decode cX2_keep 42 = .ok (.getfield 12, 3) := by decide +kernel
theorem dX2_keep_45 : decode cX2_keep 45 = .ok (.aload_n 0, 1) := by decide +kernel
theorem dX2_keep_46 : decode cX2_keep 46 = .ok (.getfield 16, 3) := by decide +kernel
theorem dX2_keep_49 : decode cX2_keep 49 = .ok (.iload_n 2, 1) := by decide +kernel
theorem dX2_keep_50 : decode cX2_keep 50 = .ok (.iaload, 1) := by decide +kernel
theorem dX2_keep_51 : decode cX2_keep 51 = .ok (.aload_n 0, 1) := by decide +kernel
theorem dX2_keep_52 : decode cX2_keep 52 = .ok (.getfield 30, 3) := by decide +kernel
theorem dX2_keep_55 : decode cX2_keep 55 = .ok (.invokevirtual 146, 3) := by decide +kernel
theorem dX2_keep_58 : decode cX2_keep 58 = .ok (.iastore, 1) := by decide +kernel
theorem dX2_keep_59 : decode cX2_keep 59 = .ok (.iinc 2 1, 3) := by decide +kernel
theorem dX2_keep_62 : decode cX2_keep 62 = .ok (.goto (-34), 3) := by decide +kernel
theorem dX2_keep_65 : decode cX2_keep 65 = .ok (.aload_n 0, 1) := by decide +kernel
theorem dX2_keep_66 : decode cX2_keep 66 = .ok (.dup, 1) := by decide +kernel
theorem dX2_keep_67 : decode cX2_keep 67 = .ok (.getfield 26, 3) := by decide +kernel
theorem dX2_keep_70 : decode cX2_keep 70 = .ok (.iconst 1, 1) := by decide +kernel
theorem dX2_keep_71 : decode cX2_keep 71 = .ok (.iadd, 1) := by decide +kernel
theorem dX2_keep_72 : decode cX2_keep 72 = .ok (.putfield 26, 3) := by decide +kernel
theorem dX2_keep_75 : decode cX2_keep 75 = .ok (.aload_n 0, 1) := by decide +kernel
theorem dX2_keep_76 : decode cX2_keep 76 = .ok (.getfield 26, 3) := by decide +kernel
theorem dX2_keep_79 : decode cX2_keep 79 = .ok (.iconst 1, 1) := by decide +kernel
theorem dX2_keep_80 : decode cX2_keep 80 = .ok (.isub, 1) := by decide +kernel
theorem dX2_keep_81 : decode cX2_keep 81 = .ok (.ireturn, 1) := by decide +kernel
theorem q3_79 : (Jvm.Cond.code ({ cls := "Cyclepaint", name := "keep", desc := "()I" } : Jvm.MethodName) prog_1_method_10_code (3 : Nat) (Option.some Jvm.ClassFile.FieldType.int)) ∈ lw_g := zg_of (zin3 (List.mem_of_getElem? (i := 79) rfl)) rfl
theorem q3_77 : (Jvm.Cond.instanceMethod ({ cls := "Cyclepaint", name := "keep", desc := "()I" } : Jvm.MethodName)) ∈ lw_g := zg_of (zin3 (List.mem_of_getElem? (i := 77) rfl)) rfl
theorem q3_78 : (Jvm.Cond.selects "Cyclepaint" ({ cls := "Cyclepaint", name := "keep", desc := "()I" } : Jvm.MethodName) ({ cls := "Cyclepaint", name := "keep", desc := "()I" } : Jvm.MethodName)) ∈ lw_g := zg_of (zin3 (List.mem_of_getElem? (i := 78) rfl)) rfl
theorem ok_X2_keep : zOV yX2_keep cX2_keep 3 ((Option.some Jvm.ClassFile.FieldType.int)) 0 := ⟨⟨q3_79, q1_1, by decide, by decide, by decide +kernel⟩, q3_77, q3_78⟩
set_option maxHeartbeats 4000000 in
set_option maxRecDepth 100000 in
theorem c_X2_keep (l : Launch) (G : zG) (σ : St) (a : Nat → Nat) (hd : inj a (cL σ)) (hk5 : σ.kn < 5) : Met l yX2_keep (wq yX2_keep cX2_keep 3 ((Option.some Jvm.ClassFile.FieldType.int))) (rmM 2 46 0 0) (va_Pc [.ref (a 0)] (zK G (hCyc G σ a))) (zM (cA σ a) (some (.int ((zI (σ.kn))))) (fun H => hCyc G (addKS σ (kpG σ)) a H)) 0 0 (cA σ a) := by
  refine z_enterMI (by decide +kernel) (Nat.le_of_ble_eq_true rfl) ?_
  intro p env s m below meth cod Q S hG hP hS ret ls hl
  have hl : lv_has ls 3 [(0, .ref (a 0))] := hl
  have hC := hP.2.2.2.2.2
  have hT := hC.1
  have hdt := hC.2.1
  have hlm := hC.2.2.1
  have hkn := hC.2.2.2.1
  have hD := hC.2.2.2.2.1
  have hB := hC.2.2.2.2.2
  have h0 := hP.1
  have h5 := hP.2.1
  have h6 := hP.2.2.1
  have h7 := hP.2.2.2.1
  have hP := hP.2.2.2.2.1
  refine z_aload_n S dX2_keep_0 hl 0 rfl rfl ?_
  refine z_get S hG h0 zc_X2 4 (by decide) q1_64 rfl rfl dX2_keep_1 ?_
  refine z_iconst S dX2_keep_4 ?_
  refine z_icmp_lt_T S 18 dX2_keep_5 (by decide) (by omega) (by omega) (by omega) ?_
  refine z_aload_n S dX2_keep_18 hl 0 rfl rfl ?_
  refine z_get S hG h0 zc_X2 4 (by decide) q1_64 rfl rfl dX2_keep_19 ?_
  refine z_bipush S dX2_keep_22 rfl ?_
  refine z_imul S dX2_keep_24 ?_
  refine z_istore_n (lv' := [(1, .int (zI ((σ.kn) * (32)))), (0, .ref (a 0))]) S dX2_keep_25 hl rfl (by decide) rfl (fun ls hl => ?_)
  refine z_iconst S dX2_keep_26 ?_
  refine z_istore_n (lv' := [(2, .int (zI (0))), (1, .int (zI ((σ.kn) * (32)))), (0, .ref (a 0))]) S dX2_keep_27 hl rfl (by decide) rfl (fun ls hl => ?_)
  have loop_28 : ∀ (nn : Nat) (k : Int) (Hk28 : Heap) (Lk28 : List Loc), (0 ≤ k ∧ k ≤ 32) → (va_S (cA σ a) s.heap Hk28 Lk28) → (va_at G.1 vwCl (a 0, .inr (6, [.ref (a 1), .ref (a 5), .ref (a 6), .ref (a 7), .int (zI σ.kn), .int (zI σ.tk), .int (zI σ.lim), .int σ.rf])) Hk28) → (va_at G.1 vwCl (a 5, .inl (G.2 0, 32, .inl (zB σ.Dt))) Hk28) → (va_at G.1 vwCl (a 6, .inl (G.2 0, 16, .inl (zB (usz σ)))) Hk28) → (hPal G σ a Hk28) → (va_at G.1 vwCl (a 7, .inl (G.2 0, 160, .inl (zA (kcU σ k)))) Hk28) → ((32 - k).toNat) < nn → ∀ ls, lv_has ls 3 [(2, .int (zI (k))), (1, .int (zI ((σ.kn) * (32)))), (0, .ref (a 0))] → W p l env (rmM 2 46 0 0) s m ([.ref (a 0)] : List Value).toArray below meth cod Hk28 Lk28 0 0 Q (F0 m 28 ls []) := by
    intro nn
    induction nn with
    | zero => intro _ _ _ _ _ _ _ _ _ _ h; exact absurd h (Nat.not_lt_zero _)
    | succ nn ih_28 =>
      intro k Hk28 Lk28 hk hS h0 h5 h6 hP h7 hm_28 ls hl
      refine z_iload_n S dX2_keep_28 hl 0 rfl rfl ?_
      refine z_bipush S dX2_keep_29 rfl ?_
      refine z_icmp_ge S 65 dX2_keep_31 (by decide) (by omega) (by omega) (fun c_31 => ?_) (fun c_31 => ?_)
      · skip
        refine z_aload_n S dX2_keep_65 hl 2 rfl rfl ?_
        refine z_dup S dX2_keep_66 rfl ?_
        refine z_get S hG h0 zc_X2 4 (by decide) q1_64 rfl rfl dX2_keep_67 ?_
        refine z_iconst S dX2_keep_70 ?_
        refine z_iadd S dX2_keep_71 ?_
        refine z_put S hG h0 zc_X2 _ (zty_X2) (znm_X2) hS (⟨0, cL_s (by decide), rfl⟩) 4 (by decide) q1_64 rfl rfl rfl rfl rfl (Nat.le_of_ble_eq_true rfl) dX2_keep_72 (fun H_1 L_1 hat hz oq hS => ?_)
        have h0 := hat
        have hP := hPal_kept hP (fun i hi n0 n5 n6 n7 => oq _ (fun z => n0 (hd i 0 hi (cL_s (by decide)) z)))
        have h5 := va_at.kept h5 (oq _ (fun z => absurd (hd 5 0 (cL_s (by decide)) (cL_s (by decide)) z) (by decide)))
        have h6 := va_at.kept h6 (oq _ (fun z => absurd (hd 6 0 (cL_s (by decide)) (cL_s (by decide)) z) (by decide)))
        have h7 := va_at.kept h7 (oq _ (fun z => absurd (hd 7 0 (cL_s (by decide)) (cL_s (by decide)) z) (by decide)))
        refine z_aload_n S dX2_keep_75 hl 2 rfl rfl ?_
        refine z_get S hG h0 zc_X2 4 (by decide) q1_64 rfl rfl dX2_keep_76 ?_
        refine z_iconst S dX2_keep_79 ?_
        refine z_isub S dX2_keep_80 ?_
        exact ret _ _ _ _ _ _ _ dX2_keep_81 (congrArg zI (by omega)) hS (⟨h0, h5, h6, va_cgA (fun j j0 j1 => by rw [show k = 32 by omega]; exact kcU_e σ j) h7, hP, okC_K hC (by omega)⟩) (Nat.le_of_ble_eq_true rfl) (Nat.le_of_ble_eq_true rfl)
      · skip
        refine z_aload_n S dX2_keep_34 hl 2 rfl rfl ?_
        refine z_get S hG h0 zc_X2 3 (by decide) q1_63 rfl rfl dX2_keep_35 ?_
        refine z_iload_n S dX2_keep_38 hl 1 rfl rfl ?_
        refine z_iload_n S dX2_keep_39 hl 0 rfl rfl ?_
        refine z_iadd S dX2_keep_40 ?_
        refine z_aload_n S dX2_keep_41 hl 2 rfl rfl ?_
        refine z_get S hG h0 zc_X2 0 (by decide) q1_60 rfl rfl dX2_keep_42 ?_
        refine z_aload_n S dX2_keep_45 hl 2 rfl rfl ?_
        refine z_get S hG h0 zc_X2 1 (by decide) q1_61 rfl rfl dX2_keep_46 ?_
        have hdt0 := hdt k hk.1 (by omega)
        refine z_iload_n S dX2_keep_49 hl 0 rfl rfl ?_
        refine z_ialdB S hG h5 (by omega) (by decide) dX2_keep_50 ?_
        refine z_aload_n S dX2_keep_51 hl 2 rfl rfl ?_
        refine z_get S hG h0 zc_X2 5 (by decide) q1_65 rfl rfl dX2_keep_52 ?_
        refine z_callVs S hG (c_X0_shows l G σ a (σ.Dt (k)) (σ.tk) (by omega) (by omega)) ok_X0_shows hP.1 zc_X0 rfl q1_166 (hP) ⟨rfl, rfl, by decide, by decide⟩ ⟨Nat.zero_le _, Nat.zero_le _⟩ rfl (Nat.le_of_ble_eq_true rfl) hl.1 rfl dX2_keep_55 ?_
        refine z_iast S hG h7 hS (⟨7, cL_s (by decide), rfl⟩) (i := ((σ.kn) * (32)) + (k)) (x := (shw σ (σ.Dt (k)) (σ.tk))) (by omega) (by decide) dX2_keep_58 (fun H_2 L_2 hat hz oq hS => ?_)
        have hP := hPal_kept hP (fun i hi n0 n5 n6 n7 => oq _ (fun z => n7 (hd i 7 hi (cL_s (by decide)) z)))
        have h0 := va_at.kept h0 (oq _ (fun z => absurd (hd 0 7 (cL_s (by decide)) (cL_s (by decide)) z) (by decide)))
        have h5 := va_at.kept h5 (oq _ (fun z => absurd (hd 5 7 (cL_s (by decide)) (cL_s (by decide)) z) (by decide)))
        have h6 := va_at.kept h6 (oq _ (fun z => absurd (hd 6 7 (cL_s (by decide)) (cL_s (by decide)) z) (by decide)))
        have h7 := hat
        rw [show (σ.kn * 32 + k) = 32 * σ.kn + k by omega, show shw σ (σ.Dt k) σ.tk = kpG σ k from rfl, kcU_s σ hk.1] at h7
        refine z_iinc (lv' := [(2, .int (zI (k + 1))), (1, .int (zI ((σ.kn) * (32)))), (0, .ref (a 0))]) S dX2_keep_59 hl 0 rfl (by decide) rfl (fun ls hl => ?_)
        refine z_goto S 28 dX2_keep_62 (by decide) ?_
        exact ih_28 (k + 1) (H_2) (L_2) (by omega) (hS) (h0) (h5) (h6) (hP) (h7) (by omega) ls (lv_sub hl [0, 1, 2] rfl)
  exact loop_28 _ (0) (s.heap) ([]) (by omega) (hS) (h0) (h5) (h6) (hP) (by rw [kcU_0]; exact h7) (Nat.lt_succ_self _) ls (lv_sub hl [0, 1, 2] rfl)
theorem hCyc_keep {G : zG} {σ : St} {a : Nat → Nat} {H H1 : Heap} (h : hCyc G σ a H) (oq : ∀ i : Nat, cL σ i → H1[a i]? = H[a i]?) : hCyc G σ a H1 := by
  obtain ⟨h0, h5, h6, h7, h8, h9⟩ := h
  exact ⟨va_at.kept h0 (oq 0 (cL_s (by decide))), va_at.kept h5 (oq 5 (cL_s (by decide))), va_at.kept h6 (oq 6 (cL_s (by decide))), va_at.kept h7 (oq 7 (cL_s (by decide))), hPal_kept h8 (fun i hi _ _ _ _ => oq i hi), h9⟩
theorem dX2_range_0 : decode cX2_range 0 = .ok (.iload_n 1, 1) := by decide +kernel
theorem dX2_range_1 : decode cX2_range 1 = .ok (.invokestatic 39, 3) := by decide +kernel
theorem dX2_range_4 : decode cX2_range 4 = .ok (.ifCond .eq 10, 3) := by decide +kernel
theorem dX2_range_7 : decode cX2_range 7 = .ok (.iload_n 2, 1) := by decide +kernel
theorem dX2_range_8 : decode cX2_range 8 = .ok (.invokestatic 39, 3) := by decide +kernel
theorem dX2_range_11 : decode cX2_range 11 = .ok (.ifCond .ne 13, 3) := by decide +kernel
theorem dX2_range_14 : decode cX2_range 14 = .ok (.new 43, 3) := by decide +kernel
theorem dX2_range_17 : decode cX2_range 17 = .ok (.dup, 1) := by decide +kernel
theorem dX2_range_18 : decode cX2_range 18 = .ok (.ldc 45, 2) := by decide +kernel
theorem dX2_range_20 : decode cX2_range 20 = .ok (.invokespecial 47, 3) := by decide +kernel
theorem dX2_range_23 : decode cX2_range 23 = .ok (.athrow, 1) := by decide +kernel
theorem dX2_range_24 : decode cX2_range 24 = .ok (.iload_n 2, 1) := by decide +kernel
theorem dX2_range_25 : decode cX2_range 25 = .ok (.iload_n 1, 1) := by decide +kernel
theorem dX2_range_26 : decode cX2_range 26 = .ok (.if_icmp .le 18, 3) := by decide +kernel
theorem dX2_range_29 : decode cX2_range 29 = .ok (.iload_n 3, 1) := by decide +kernel
theorem dX2_range_30 : decode cX2_range 30 = .ok (.invokestatic 77, 3) := by decide +kernel
theorem dX2_range_33 : decode cX2_range 33 = .ok (.ifCond .eq 11, 3) := by decide +kernel
theorem dX2_range_36 : decode cX2_range 36 = .ok (.iload 4, 2) := by decide +kernel
theorem dX2_range_38 : decode cX2_range 38 = .ok (.invokestatic 80, 3) := by decide +kernel
theorem dX2_range_41 : decode cX2_range 41 = .ok (.ifCond .ne 13, 3) := by decide +kernel
theorem dX2_range_44 : decode cX2_range 44 = .ok (.new 53, 3) := by decide +kernel
theorem dX2_range_47 : decode cX2_range 47 = .ok (.dup, 1) := by decide +kernel
theorem dX2_range_48 : decode cX2_range 48 = .ok (.ldc 83, 2) := by decide +kernel
theorem dX2_range_50 : decode cX2_range 50 = .ok (.invokespecial 57, 3) := by decide +kernel
theorem dX2_range_53 : decode cX2_range 53 = .ok (.athrow, 1) := by decide +kernel
theorem dX2_range_54 : decode cX2_range 54 = .ok (.aload_n 0, 1) := by decide +kernel
theorem dX2_range_55 : decode cX2_range 55 = .ok (.getfield 12, 3) := by decide +kernel
theorem dX2_range_58 : decode cX2_range 58 = .ok (.invokevirtual 85, 3) := by decide +kernel
theorem dX2_range_61 : decode cX2_range 61 = .ok (.iconst 4, 1) := by decide +kernel
theorem dX2_range_62 : decode cX2_range 62 = .ok (.if_icmp .ge 15, 3) := by decide +kernel
theorem dX2_range_65 : decode cX2_range 65 = .ok (.aload_n 0, 1) := by decide +kernel
theorem dX2_range_66 : decode cX2_range 66 = .ok (.getfield 12, 3) := by decide +kernel
theorem dX2_range_69 : decode cX2_range 69 = .ok (.iload_n 1, 1) := by decide +kernel
theorem dX2_range_70 : decode cX2_range 70 = .ok (.iload_n 2, 1) := by decide +kernel
theorem dX2_range_71 : decode cX2_range 71 = .ok (.invokevirtual 89, 3) := by decide +kernel
theorem dX2_range_74 : decode cX2_range 74 = .ok (.ifCond .ne 13, 3) := by decide +kernel
theorem dX2_range_77 : decode cX2_range 77 = .ok (.new 92, 3) := by decide +kernel
theorem dX2_range_80 : decode cX2_range 80 = .ok (.dup, 1) := by decide +kernel
theorem dX2_range_81 : decode cX2_range 81 = .ok (.ldc 94, 2) := by decide +kernel
theorem dX2_range_83 : decode cX2_range 83 = .ok (.invokespecial 96, 3) := by decide +kernel
theorem dX2_range_86 : decode cX2_range 86 = .ok (.athrow, 1) := by decide +kernel
theorem dX2_range_87 : decode cX2_range 87 = .ok (.aload_n 0, 1) := by decide +kernel
theorem dX2_range_88 : decode cX2_range 88 = .ok (.getfield 12, 3) := by decide +kernel
theorem dX2_range_91 : decode cX2_range 91 = .ok (.new 97, 3) := by decide +kernel
theorem dX2_range_94 : decode cX2_range 94 = .ok (.dup, 1) := by decide +kernel
theorem dX2_range_95 : decode cX2_range 95 = .ok (.iload_n 1, 1) := by decide +kernel
theorem dX2_range_96 : decode cX2_range 96 = .ok (.iload_n 2, 1) := by decide +kernel
theorem dX2_range_97 : decode cX2_range 97 = .ok (.iload_n 3, 1) := by decide +kernel
theorem dX2_range_98 : decode cX2_range 98 = .ok (.iload 4, 2) := by decide +kernel
theorem dX2_range_100 : decode cX2_range 100 = .ok (.invokespecial 99, 3) := by decide +kernel
theorem dX2_range_103 : decode cX2_range 103 = .ok (.invokevirtual 102, 3) := by decide +kernel
theorem dX2_range_106 : decode cX2_range 106 = .ok (.ireturn, 1) := by decide +kernel
theorem q2_213 : (Jvm.Cond.methodLink "Cyclepaint" (89 : Nat) ({ cls := "Cyclepaint$Palette", name := "isFree", desc := "(II)Z" } : Jvm.MethodName)) ∈ lw_g := zg_of (zin2 (List.mem_of_getElem? (i := 213) rfl)) rfl
theorem q2_233 : (Jvm.Cond.classLink "Cyclepaint" (97 : Nat) "Cyclepaint$Range") ∈ lw_g := zg_of (zin2 (List.mem_of_getElem? (i := 233) rfl)) rfl
theorem q2_234 : (Jvm.Cond.instantiable "Cyclepaint$Range" (5 : Nat)) ∈ lw_g := zg_of (zin2 (List.mem_of_getElem? (i := 234) rfl)) rfl
theorem q2_236 : (Jvm.Cond.instanceMethod ({ cls := "Cyclepaint$Range", name := "<init>", desc := "(IIII)V" } : Jvm.MethodName)) ∈ lw_g := zg_of (zin2 (List.mem_of_getElem? (i := 236) rfl)) rfl
theorem q2_235 : (Jvm.Cond.methodLink "Cyclepaint" (99 : Nat) ({ cls := "Cyclepaint$Range", name := "<init>", desc := "(IIII)V" } : Jvm.MethodName)) ∈ lw_g := zg_of (zin2 (List.mem_of_getElem? (i := 235) rfl)) rfl
theorem q3_19 : (Jvm.Cond.methodLink "Cyclepaint" (102 : Nat) ({ cls := "Cyclepaint$Palette", name := "addRange", desc := "(LCyclepaint$Range;)I" } : Jvm.MethodName)) ∈ lw_g := zg_of (zin3 (List.mem_of_getElem? (i := 19) rfl)) rfl
theorem q2_205 : (Jvm.Cond.code ({ cls := "Cyclepaint", name := "range", desc := "(IIII)I" } : Jvm.MethodName) prog_1_method_4_code (5 : Nat) (Option.some Jvm.ClassFile.FieldType.int)) ∈ lw_g := zg_of (zin2 (List.mem_of_getElem? (i := 205) rfl)) rfl
theorem q2_203 : (Jvm.Cond.instanceMethod ({ cls := "Cyclepaint", name := "range", desc := "(IIII)I" } : Jvm.MethodName)) ∈ lw_g := zg_of (zin2 (List.mem_of_getElem? (i := 203) rfl)) rfl
theorem q2_204 : (Jvm.Cond.selects "Cyclepaint" ({ cls := "Cyclepaint", name := "range", desc := "(IIII)I" } : Jvm.MethodName) ({ cls := "Cyclepaint", name := "range", desc := "(IIII)I" } : Jvm.MethodName)) ∈ lw_g := zg_of (zin2 (List.mem_of_getElem? (i := 204) rfl)) rfl
theorem ok_X2_range : zOV yX2_range cX2_range 5 ((Option.some Jvm.ClassFile.FieldType.int)) 4 := ⟨⟨q2_205, q1_1, by decide, by decide, by decide +kernel⟩, q2_203, q2_204⟩
set_option maxHeartbeats 4000000 in
set_option maxRecDepth 100000 in
theorem c_X2_range (l : Launch) (G : zG) (σ : St) (a : Nat → Nat) (hd : inj a (cL σ)) (sz : Nat) (f tt sp kd : Int) (hf : 0 ≤ f ∧ f < tt ∧ tt ≤ 15) (hsp : 1 ≤ sp ∧ sp ≤ 9) (hkd : 0 ≤ kd ∧ kd ≤ 2) (hr4 : σ.rn < 4) (hfree : allI (frB σ f tt) 16 = true) : Met l yX2_range (wq yX2_range cX2_range 5 ((Option.some Jvm.ClassFile.FieldType.int))) (rmM 3 64 1 5) (va_Pc [.ref (a 0), .int (zI (f)), .int (zI (tt)), .int (zI (sp)), .int (zI (kd))] (zK G (fun H => hCyc G σ a H ∧ H.size = sz))) (zM (fun y => cA σ a y ∨ sz ≤ y) (some (.int ((zI (σ.rn))))) (fun H => ∃ q : Nat, hCyc G (addS σ f (tt - f + 1) sp kd) (addA σ a q) H ∧ sz ≤ q)) 1 5 (fun y => cA σ a y ∨ sz ≤ y) := by
  refine z_enterMI (by decide +kernel) (Nat.le_of_ble_eq_true rfl) ?_
  intro p env s m below meth cod Q S hG hP hS ret ls hl
  have hl : lv_has ls 5 [(0, .ref (a 0)), (1, .int (zI (f))), (2, .int (zI (tt))), (3, .int (zI (sp))), (4, .int (zI (kd)))] := hl
  have hz0 := hP.2
  have hP := hP.1
  have hC := hP.2.2.2.2.2
  have hT := hC.1
  have hdt := hC.2.1
  have hlm := hC.2.2.1
  have hkn := hC.2.2.2.1
  have hD := hC.2.2.2.2.1
  have hB := hC.2.2.2.2.2
  have hrn4 := hP.2.2.2.2.1.2.2.2.2.2.1
  refine z_iload_n S dX2_range_0 hl 1 rfl rfl ?_
  refine z_callSs S hG (c_X2_isEntry l G (f) (by omega)) ok_X2_isEntry q1_137 (trivial) ⟨rfl, rfl, by decide, by decide⟩ ⟨Nat.zero_le _, Nat.zero_le _⟩ rfl (Nat.le_of_ble_eq_true rfl) hl.1 rfl dX2_range_1 ?_
  refine z_bif_eq S 14 dX2_range_4 (by decide) (fun q => ?_) (fun q => ?_)
  · exact absurd q (by rw [(show (decide (0 ≤ f) && decide (f < 16)) = true from by simp; omega)]; decide)
  refine z_iload_n S dX2_range_7 hl 2 rfl rfl ?_
  refine z_callSs S hG (c_X2_isEntry l G (tt) (by omega)) ok_X2_isEntry q1_137 (trivial) ⟨rfl, rfl, by decide, by decide⟩ ⟨Nat.zero_le _, Nat.zero_le _⟩ rfl (Nat.le_of_ble_eq_true rfl) hl.1 rfl dX2_range_8 ?_
  refine z_bif_ne S 24 dX2_range_11 (by decide) (fun q => ?_) (fun q => ?_)
  rotate_left
  · exact absurd q (by rw [(show (decide (0 ≤ tt) && decide (tt < 16)) = true from by simp; omega)]; decide)
  refine z_iload_n S dX2_range_24 hl 2 rfl rfl ?_
  refine z_iload_n S dX2_range_25 hl 1 rfl rfl ?_
  refine z_icmp_le_F S 44 dX2_range_26 (by decide) (by omega) (by omega) (by omega) ?_
  refine z_iload_n S dX2_range_29 hl 3 rfl rfl ?_
  refine z_callSs S hG (c_X2_isSpeed l G (sp) (by omega)) ok_X2_isSpeed q2_206 (trivial) ⟨rfl, rfl, by decide, by decide⟩ ⟨Nat.zero_le _, Nat.zero_le _⟩ rfl (Nat.le_of_ble_eq_true rfl) hl.1 rfl dX2_range_30 ?_
  refine z_bif_eq S 44 dX2_range_33 (by decide) (fun q => ?_) (fun q => ?_)
  · exact absurd q (by rw [(show (decide (1 ≤ sp) && decide (sp ≤ 9)) = true from by simp; omega)]; decide)
  refine z_iload S dX2_range_36 hl 4 rfl ?_
  refine z_callSs S hG (c_X2_isKind l G (kd) (by omega)) ok_X2_isKind q2_209 (trivial) ⟨rfl, rfl, by decide, by decide⟩ ⟨Nat.zero_le _, Nat.zero_le _⟩ rfl (Nat.le_of_ble_eq_true rfl) hl.1 rfl dX2_range_38 ?_
  refine z_bif_ne S 54 dX2_range_41 (by decide) (fun q => ?_) (fun q => ?_)
  rotate_left
  · exact absurd q (by rw [(show (decide (0 ≤ kd) && decide (kd ≤ 2)) = true from by simp; omega)]; decide)
  refine z_aload_n S dX2_range_54 hl 0 rfl rfl ?_
  refine z_get S hG hP.1 zc_X2 0 (by decide) q1_60 rfl rfl dX2_range_55 ?_
  refine z_callVs S hG (c_X0_ranges l G σ a) ok_X0_ranges hP.2.2.2.2.1.1 zc_X0 rfl q1_223 (hP.2.2.2.2.1) ⟨rfl, rfl, by decide, by decide⟩ ⟨Nat.zero_le _, Nat.zero_le _⟩ rfl (Nat.le_of_ble_eq_true rfl) hl.1 rfl dX2_range_58 ?_
  refine z_iconst S dX2_range_61 ?_
  refine z_icmp_ge_F S 77 dX2_range_62 (by decide) (by omega) (by omega) (by omega) ?_
  refine z_aload_n S dX2_range_65 hl 0 rfl rfl ?_
  refine z_get S hG hP.1 zc_X2 0 (by decide) q1_60 rfl rfl dX2_range_66 ?_
  refine z_iload_n S dX2_range_69 hl 1 rfl rfl ?_
  refine z_iload_n S dX2_range_70 hl 2 rfl rfl ?_
  refine z_callVs S hG (c_X0_isFree l G σ a f tt (by omega) (by omega)) ok_X0_isFree hP.2.2.2.2.1.1 zc_X0 rfl q2_213 (hP.2.2.2.2.1) ⟨rfl, rfl, by decide, by decide⟩ ⟨Nat.zero_le _, Nat.zero_le _⟩ rfl (Nat.le_of_ble_eq_true rfl) hl.1 rfl dX2_range_71 ?_
  refine z_bif_ne S 87 dX2_range_74 (by decide) (fun q => ?_) (fun q => ?_)
  rotate_left
  · exact absurd q (by rw [hfree]; decide)
  refine z_aload_n S dX2_range_87 hl 0 rfl rfl ?_
  refine z_get S hG hP.1 zc_X2 0 (by decide) q1_60 rfl rfl dX2_range_88 ?_
  refine z_newc S hG zc_X1 tyX1 tyX1_ok q2_233 q2_234 q1_14 hS (fs := [.int 0, .int 0, .int 0, .int 0, .int 0]) (fun j hj => by rcases (show j = 0 ∨ j = 1 ∨ j = 2 ∨ j = 3 ∨ j = 4 by omega) with rfl | rfl | rfl | rfl | rfl <;> rfl) ⟨Nat.le_of_ble_eq_true rfl, Nat.le_of_ble_eq_true rfl⟩ dX2_range_91 (fun n1 H_1 hq_n1 hat hz oq hS => ?_)
  have ltc_n1 : ∀ i : Nat, cL σ i → a i < n1 := fun i hi => by rw [hq_n1]; exact hCyc_lt hP hi
  have hP := hCyc_keep hP (fun i hi => oq _ (hCyc_lt hP hi))
  have h_n1 := hat
  refine z_dup S dX2_range_94 rfl ?_
  refine z_iload_n S dX2_range_95 hl 1 rfl rfl ?_
  refine z_iload_n S dX2_range_96 hl 2 rfl rfl ?_
  refine z_iload_n S dX2_range_97 hl 3 rfl rfl ?_
  refine z_iload S dX2_range_98 hl 4 rfl ?_
  refine z_callMI S hG hS (c_X1_init l G n1 f tt sp kd (by omega)) (fun y h => Or.inr (by have h2 : y = n1 := h; show sz ≤ y; omega)) ok_X1_init q2_236 rfl q2_235 (h_n1) ⟨rfl, rfl, by decide, by decide⟩ ⟨Nat.le_of_ble_eq_true rfl, Nat.le_of_ble_eq_true rfl⟩ rfl (Nat.le_of_ble_eq_true rfl) hl.1 rfl dX2_range_100 (fun H_2 L_2 hB hz oq hS => ?_)
  have hP := hCyc_keep hP (fun i hi => oq _ (hCyc_lt hP hi) (by have := ltc_n1 i hi; show ¬ (_ = _); omega))
  have h_n1 := hB
  have hDa : okD (addS σ f (tt - f + 1) sp kd) := okD_add hD hP.2.2.2.2.1.2.2.2.2.2 (by omega) hfree
  refine z_callM S hG hS (c_X0_addRange l G σ a hd n1 f (tt - f + 1) sp kd (by omega) ⟨⟨by omega, by omega, by omega⟩, by omega, by omega⟩ hDa (fun i hi => by have := ltc_n1 i hi; omega)) (fun q h => Or.inl (h.elim (fun h => ⟨1, cL_s (by decide), h⟩) (fun h => h.elim (fun h => ⟨4, cL_s (by decide), h⟩) (fun h => ⟨3, cL_s (by decide), h⟩)))) ok_X0_addRange hP.2.2.2.2.1.1 zc_X0 rfl q3_19 (⟨hP.2.2.2.2.1, h_n1⟩) ⟨rfl, rfl, by decide, by decide⟩ ⟨Nat.le_of_ble_eq_true rfl, Nat.le_of_ble_eq_true rfl⟩ rfl (Nat.le_of_ble_eq_true rfl) hl.1 rfl dX2_range_103 (fun H_3 L_3 hB hz oq hS => ?_)
  have hP : hCyc G (addS σ f (tt - f + 1) sp kd) (addA σ a n1) H_3 := hCyc_add hP hDa hB (fun i hi => oq _ (hCyc_lt hP (cL_s (by omega))) (fun z => z.elim (fun z => by have := hd i 1 (cL_s (by omega)) (cL_s (by decide)) z; omega) (fun z => z.elim (fun z => by have := hd i 4 (cL_s (by omega)) (cL_s (by decide)) z; omega) (fun z => by have := hd i 3 (cL_s (by omega)) (cL_s (by decide)) z; omega))))
  exact ret _ _ _ _ _ _ _ dX2_range_106 (rfl) hS (⟨n1, hP, by omega⟩) (Nat.le_of_ble_eq_true rfl) (Nat.le_of_ble_eq_true rfl)
def nrU (k : Int) : Int → Int := fun i => if 0 ≤ i ∧ i < k then -1 else 0
theorem nrU_0 : nrU 0 = fun _ => 0 := by funext i; unfold nrU; rw [if_neg (by omega)]
theorem nrU_s {k : Int} (h : 0 ≤ k) : up (nrU k) k (-1) = nrU (k + 1) := by
  funext i; unfold up nrU
  by_cases q : i = k
  · rw [if_pos q, if_pos (by omega)]
  · rw [if_neg q]
    by_cases r : 0 ≤ i ∧ i < k
    · rw [if_pos r, if_pos (by omega)]
    · rw [if_neg r, if_neg (by omega)]
theorem rgOf_0 (e : Int) : rgOf St0 e = -1 := rgOf_none (fun t h0 h1 => absurd h1 (by show ¬ t < 0; omega))
theorem okC_0 : okC St0 := ⟨⟨Int.le_refl _, by decide⟩, fun d _ _ => ⟨Int.le_refl _, show (0 : Int) < 16 by decide⟩, ⟨by decide, by decide⟩, ⟨Int.le_refl _, by decide⟩, fun i j h0 h1 h2 => absurd h2 (by show ¬ j < 0; omega), fun e h0 h1 => ⟨e, by omega, rfl⟩⟩
theorem usz_0 (e : Int) : usz St0 e = if e = 0 then 32 else 0 := by
  have h : ∀ n : Nat, cntF (fun d => decide (St0.Dt d = e)) n = if e = 0 then (n : Int) else 0 := by
    intro n
    induction n with
    | zero => show (0 : Int) = _; split <;> rfl
    | succ n ih =>
      rw [cntF, ih]
      have z : St0.Dt n = 0 := rfl
      by_cases q : e = 0
      · rw [if_pos q, if_pos q, if_pos (by rw [z, q]; rfl)]; omega
      · rw [if_neg q, if_neg q, if_neg (by rw [z]; simpa using fun h => q h.symm)]; rfl
  exact h 32
theorem dX0_init_0 : decode cX0_init 0 = .ok (.aload_n 0, 1) := by decide +kernel
theorem dX0_init_1 : decode cX0_init 1 = .ok (.invokespecial 3, 3) := by decide +kernel
theorem dX0_init_4 : decode cX0_init 4 = .ok (.aload_n 0, 1) := by decide +kernel
theorem dX0_init_5 : decode cX0_init 5 = .ok (.bipush 16, 2) := by decide +kernel
theorem dX0_init_7 : decode cX0_init 7 = .ok (.newarray .int, 2) := by decide +kernel
theorem dX0_init_9 : decode cX0_init 9 = .ok (.putfield 9, 3) := by decide +kernel
theorem dX0_init_12 : decode cX0_init 12 = .ok (.aload_n 0, 1) := by decide +kernel
theorem dX0_init_13 : decode cX0_init 13 = .ok (.bipush 16, 2) := by decide +kernel
theorem dX0_init_15 : decode cX0_init 15 = .ok (.newarray .int, 2) := by decide +kernel
theorem dX0_init_17 : decode cX0_init 17 = .ok (.putfield 15, 3) := by decide +kernel
theorem dX0_init_20 : decode cX0_init 20 = .ok (.aload_n 0, 1) := by decide +kernel
theorem dX0_init_21 : decode cX0_init 21 = .ok (.iconst 4, 1) := by decide +kernel
theorem dX0_init_22 : decode cX0_init 22 = .ok (.anewarray 18, 3) := by decide +kernel
theorem dX0_init_25 : decode cX0_init 25 = .ok (.putfield 20, 3) := by decide +kernel
theorem dX0_init_28 : decode cX0_init 28 = .ok (.aload_n 0, 1) := by decide +kernel
theorem dX0_init_29 : decode cX0_init 29 = .ok (.iconst 0, 1) := by decide +kernel
theorem dX0_init_30 : decode cX0_init 30 = .ok (.putfield 24, 3) := by decide +kernel
theorem dX0_init_33 : decode cX0_init 33 = .ok (.iconst 0, 1) := by decide +kernel
theorem dX0_init_34 : decode cX0_init 34 = .ok (.istore_n 1, 1) := by decide +kernel
theorem dX0_init_35 : decode cX0_init 35 = .ok (.iload_n 1, 1) := by decide +kernel
theorem dX0_init_36 : decode cX0_init 36 = .ok (.bipush 16, 2) := by decide +kernel
theorem dX0_init_38 : decode cX0_init 38 = .ok (.if_icmp .ge 23, 3) := by decide +kernel
theorem dX0_init_41 : decode cX0_init 41 = .ok (.aload_n 0, 1) := by decide +kernel
theorem dX0_init_42 : decode cX0_init 42 = .ok (.getfield 9, 3) := by decide +kernel
theorem dX0_init_45 : decode cX0_init 45 = .ok (.iload_n 1, 1) := by decide +kernel
theorem dX0_init_46 : decode cX0_init 46 = .ok (.iload_n 1, 1) := by decide +kernel
theorem dX0_init_47 : decode cX0_init 47 = .ok (.iastore, 1) := by decide +kernel
theorem dX0_init_48 : decode cX0_init 48 = .ok (.aload_n 0, 1) := by decide +kernel
theorem dX0_init_49 : decode cX0_init 49 = .ok (.getfield 15, 3) := by decide +kernel
theorem dX0_init_52 : decode cX0_init 52 = .ok (.iload_n 1, 1) := by decide +kernel
theorem dX0_init_53 : decode cX0_init 53 = .ok (.iconst (-1), 1) := by decide +kernel
theorem dX0_init_54 : decode cX0_init 54 = .ok (.iastore, 1) := by decide +kernel
theorem dX0_init_55 : decode cX0_init 55 = .ok (.iinc 1 1, 3) := by decide +kernel
theorem dX0_init_58 : decode cX0_init 58 = .ok (.goto (-23), 3) := by decide +kernel
theorem dX0_init_61 : decode cX0_init 61 = .ok (.return_, 1) := by decide +kernel
theorem q1_43 : (Jvm.Cond.methodLink "Cyclepaint$Palette" (3 : Nat) ({ cls := "java/lang/Object", name := "<init>", desc := "()V" } : Jvm.MethodName)) ∈ lw_g := zg_of (zin1 (List.mem_of_getElem? (i := 43) rfl)) rfl
theorem q1_44 : (Jvm.Cond.classLink "Cyclepaint$Palette" (18 : Nat) "Cyclepaint$Range") ∈ lw_g := zg_of (zin1 (List.mem_of_getElem? (i := 44) rfl)) rfl
theorem q1_42 : (Jvm.Cond.code ({ cls := "Cyclepaint$Palette", name := "<init>", desc := "()V" } : Jvm.MethodName) prog_2_method_1_code (2 : Nat) (Option.none : Option Jvm.ClassFile.FieldType)) ∈ lw_g := zg_of (zin1 (List.mem_of_getElem? (i := 42) rfl)) rfl
theorem ok_X0_init : zOK yX0_init cX0_init 2 ((Option.none : Option Jvm.ClassFile.FieldType)) 0 := ⟨q1_42, q1_2, by decide, by decide, by decide +kernel⟩
set_option maxHeartbeats 4000000 in
set_option maxRecDepth 100000 in
theorem c_X0_init (l : Launch) (G : zG) (q sz : Nat) : Met l yX0_init (wq yX0_init cX0_init 2 ((Option.none : Option Jvm.ClassFile.FieldType))) (rmM 1 20 3 36) (va_Pc [.ref (q)] (zK G (fun H => va_at G.1 vwCl (q, .inr (4, [.null, .null, .null, .int 0])) H ∧ H.size = sz))) (zM (fun y => y = q ∨ sz ≤ y) none (fun H => ∃ n1 n2 n3 : Nat, va_at G.1 vwCl (q, .inr (4, [.ref n1, .ref n2, .ref n3, .int (zI 0)])) H ∧ va_at G.1 vwCl (n1, .inl (G.2 0, 16, .inl (zA (fun e => zI e)))) H ∧ va_at G.1 vwCl (n2, .inl (G.2 0, 16, .inl (zB (fun _ => -1)))) H ∧ va_at G.1 vwCl (n3, .inl (G.2 1, 4, .inr (.inr (.inr (.inr (zC (fun _ => none))))))) H ∧ sz ≤ n1 ∧ n1 < n2 ∧ n2 < n3)) 3 36 (fun y => y = q ∨ sz ≤ y) := by
  refine z_enterMV (by decide +kernel) (Nat.le_of_ble_eq_true rfl) ?_
  intro p env s m below meth cod Q S hnm hG hP hS ret ls hl
  have hl : lv_has ls 2 [(0, .ref (q))] := hl
  have hQ := hP.1
  have hz0 := hP.2
  have ltq : q < sz := by rw [← hz0]; exact va_lt hQ
  refine z_aload_n S dX0_init_0 hl 0 rfl rfl ?_
  refine z_objInit S hl.1 q1_43 q1_36 (by exact q1_37) dX0_init_1 (Nat.le_of_ble_eq_true rfl) (Nat.le_of_ble_eq_true rfl) ?_
  refine z_aload_n S dX0_init_4 hl 0 rfl rfl ?_
  refine z_bipush S dX0_init_5 rfl ?_
  refine z_newI (N := 16) S hG (Nat.le_of_ble_eq_true rfl) q_arrI hS ⟨Nat.le_of_ble_eq_true rfl, Nat.le_of_ble_eq_true rfl⟩ dX0_init_7 (fun n1 H_1 hq_n1 hat hz oq hS => ?_)
  have lt_hQ_n1 : n1 > q := by rw [hq_n1]; exact va_lt hQ
  have hQ := va_at.kept hQ (oq _ (va_lt hQ))
  have h_n1 := hat
  refine z_putF S hG hQ zc_X0 tyX0 tyX0_ok nmX0 hS (Or.inl rfl) 0 (by decide) q1_46 rfl hnm rfl (tyX0_ok 0 (by decide)) rfl rfl (Nat.le_of_ble_eq_true rfl) dX0_init_9 (fun H_2 L_2 hat hz oq hS => ?_)
  have h_n1 := va_at.kept h_n1 (oq _ (show q ≠ n1 by omega).symm)
  have hQ := hat
  refine z_aload_n S dX0_init_12 hl 0 rfl rfl ?_
  refine z_bipush S dX0_init_13 rfl ?_
  refine z_newI (N := 16) S hG (Nat.le_of_ble_eq_true rfl) q_arrI hS ⟨Nat.le_of_ble_eq_true rfl, Nat.le_of_ble_eq_true rfl⟩ dX0_init_15 (fun n2 H_3 hq_n2 hat hz oq hS => ?_)
  have lt_hQ_n2 : n2 > q := by rw [hq_n2]; exact va_lt hQ
  have hQ := va_at.kept hQ (oq _ (va_lt hQ))
  have lt_h_n1_n2 : n2 > n1 := by rw [hq_n2]; exact va_lt h_n1
  have h_n1 := va_at.kept h_n1 (oq _ (va_lt h_n1))
  have h_n2 := hat
  refine z_putF S hG hQ zc_X0 tyX0 tyX0_ok nmX0 hS (Or.inl rfl) 1 (by decide) q1_47 rfl hnm rfl (tyX0_ok 1 (by decide)) rfl rfl (Nat.le_of_ble_eq_true rfl) dX0_init_17 (fun H_4 L_4 hat hz oq hS => ?_)
  have h_n1 := va_at.kept h_n1 (oq _ (show q ≠ n1 by omega).symm)
  have h_n2 := va_at.kept h_n2 (oq _ (show q ≠ n2 by omega).symm)
  have hQ := hat
  refine z_aload_n S dX0_init_20 hl 0 rfl rfl ?_
  refine z_iconst S dX0_init_21 ?_
  refine z_newq (N := 4) S hG 1 rfl hG.2.2.2.2.2.2.2.2.2.2.1 (Nat.le_of_ble_eq_true rfl) q1_44 hS ⟨Nat.le_of_ble_eq_true rfl, Nat.le_of_ble_eq_true rfl⟩ dX0_init_22 (fun n3 H_5 hq_n3 hat hz oq hS => ?_)
  have lt_hQ_n3 : n3 > q := by rw [hq_n3]; exact va_lt hQ
  have hQ := va_at.kept hQ (oq _ (va_lt hQ))
  have lt_h_n1_n3 : n3 > n1 := by rw [hq_n3]; exact va_lt h_n1
  have h_n1 := va_at.kept h_n1 (oq _ (va_lt h_n1))
  have lt_h_n2_n3 : n3 > n2 := by rw [hq_n3]; exact va_lt h_n2
  have h_n2 := va_at.kept h_n2 (oq _ (va_lt h_n2))
  have h_n3 := hat
  refine z_putF S hG hQ zc_X0 tyX0 tyX0_ok nmX0 hS (Or.inl rfl) 2 (by decide) q1_48 rfl hnm rfl (tyX0_ok 2 (by decide)) rfl rfl (Nat.le_of_ble_eq_true rfl) dX0_init_25 (fun H_6 L_6 hat hz oq hS => ?_)
  have h_n1 := va_at.kept h_n1 (oq _ (show q ≠ n1 by omega).symm)
  have h_n2 := va_at.kept h_n2 (oq _ (show q ≠ n2 by omega).symm)
  have h_n3 := va_at.kept h_n3 (oq _ (show q ≠ n3 by omega).symm)
  have hQ := hat
  refine z_aload_n S dX0_init_28 hl 0 rfl rfl ?_
  refine z_iconst S dX0_init_29 ?_
  refine z_putR S hG hQ zc_X0 tyX0 tyX0_ok nmX0 hS (Or.inl rfl) 3 (by decide) q1_49 rfl (tyX0_ok 3 (by decide)) rfl rfl (Nat.le_of_ble_eq_true rfl) dX0_init_30 (fun H_7 L_7 hat hz oq hS => ?_)
  have h_n1 := va_at.kept h_n1 (oq _ (show q ≠ n1 by omega).symm)
  have h_n2 := va_at.kept h_n2 (oq _ (show q ≠ n2 by omega).symm)
  have h_n3 := va_at.kept h_n3 (oq _ (show q ≠ n3 by omega).symm)
  have hQ := hat
  have h_n1 : va_at G.1 vwCl (n1, .inl (G.2 0, 16, .inl (zA (bsU 0)))) H_7 := by rw [bsU_0]; exact h_n1
  have h_n2 : va_at G.1 vwCl (n2, .inl (G.2 0, 16, .inl (zB (nrU 0)))) H_7 := by rw [nrU_0]; exact h_n2
  refine z_iconst S dX0_init_33 ?_
  refine z_istore_n (lv' := [(1, .int (zI (0))), (0, .ref (q))]) S dX0_init_34 hl rfl (by decide) rfl (fun ls hl => ?_)
  have loop_35 : ∀ (nn : Nat) (k : Int) (Hk35 : Heap) (Lk35 : List Loc), (0 ≤ k ∧ k ≤ 16) → (va_S (fun y => y = q ∨ sz ≤ y) s.heap Hk35 Lk35) → (va_at G.1 vwCl (q, .inr (4, [.ref n1, .ref n2, .ref n3, .int (zI 0)])) Hk35) → (va_at G.1 vwCl (n1, .inl (G.2 0, 16, .inl (zA (bsU k)))) Hk35) → (va_at G.1 vwCl (n2, .inl (G.2 0, 16, .inl (zB (nrU k)))) Hk35) → (va_at G.1 vwCl (n3, .inl (G.2 1, 4, .inr (.inr (.inr (.inr (zC (fun _ => none))))))) Hk35) → ((16 - k).toNat) < nn → ∀ ls, lv_has ls 2 [(1, .int (zI (k))), (0, .ref (q))] → W p l env (rmM 1 20 3 36) s m ([.ref (q)] : List Value).toArray below meth cod Hk35 Lk35 3 36 Q (F0 m 35 ls []) := by
    intro nn
    induction nn with
    | zero => intro _ _ _ _ _ _ _ _ _ h; exact absurd h (Nat.not_lt_zero _)
    | succ nn ih_35 =>
      intro k Hk35 Lk35 hk hS hQ h_n1 h_n2 h_n3 hm_35 ls hl
      refine z_iload_n S dX0_init_35 hl 0 rfl rfl ?_
      refine z_bipush S dX0_init_36 rfl ?_
      refine z_icmp_ge S 61 dX0_init_38 (by decide) (by omega) (by omega) (fun c_38 => ?_) (fun c_38 => ?_)
      · skip
        exact ret _ _ _ _ _ _ dX0_init_61 hS (⟨n1, n2, n3, hQ, va_cgA (fun j j0 j1 => by show bsU k j = zI j; unfold bsU; rw [if_pos (by omega)]) h_n1, va_cgB (fun j j0 j1 => by show nrU k j = -1; unfold nrU; rw [if_pos (by omega)]) h_n2, h_n3, by omega, by omega, by omega⟩) (Nat.le_of_ble_eq_true rfl) (Nat.le_of_ble_eq_true rfl)
      · skip
        refine z_aload_n S dX0_init_41 hl 1 rfl rfl ?_
        refine z_get S hG hQ zc_X0 0 (by decide) q1_46 rfl rfl dX0_init_42 ?_
        refine z_iload_n S dX0_init_45 hl 0 rfl rfl ?_
        refine z_iload_n S dX0_init_46 hl 0 rfl rfl ?_
        refine z_iast S hG h_n1 hS (Or.inr (by omega)) (i := k) (x := (zI (k))) (by omega) (by decide) dX0_init_47 (fun H_8 L_8 hat hz oq hS => ?_)
        have hQ := va_at.kept hQ (oq _ (show n1 ≠ q by omega).symm)
        have h_n2 := va_at.kept h_n2 (oq _ (show n1 ≠ n2 by omega).symm)
        have h_n3 := va_at.kept h_n3 (oq _ (show n1 ≠ n3 by omega).symm)
        rw [bsU_s hk.1] at hat
        have h_n1 := hat
        refine z_aload_n S dX0_init_48 hl 1 rfl rfl ?_
        refine z_get S hG hQ zc_X0 1 (by decide) q1_47 rfl rfl dX0_init_49 ?_
        refine z_iload_n S dX0_init_52 hl 0 rfl rfl ?_
        refine z_iconst S dX0_init_53 ?_
        refine z_iastB S hG h_n2 hS (Or.inr (by omega)) (i := k) (x := (-1)) (by omega) (by decide) dX0_init_54 (fun H_9 L_9 hat hz oq hS => ?_)
        have hQ := va_at.kept hQ (oq _ (show n2 ≠ q by omega).symm)
        have h_n1 := va_at.kept h_n1 (oq _ (show n2 ≠ n1 by omega).symm)
        have h_n3 := va_at.kept h_n3 (oq _ (show n2 ≠ n3 by omega).symm)
        rw [nrU_s hk.1] at hat
        have h_n2 := hat
        refine z_iinc (lv' := [(1, .int (zI (k + 1))), (0, .ref (q))]) S dX0_init_55 hl 0 rfl (by decide) rfl (fun ls hl => ?_)
        refine z_goto S 35 dX0_init_58 (by decide) ?_
        exact ih_35 (k + 1) (H_9) (L_9) (by omega) (hS) (hQ) (h_n1) (h_n2) (h_n3) (by omega) ls (lv_sub hl [0, 1] rfl)
  exact loop_35 _ (0) (H_7) (L_7) (by omega) (hS) (hQ) (h_n1) (h_n2) (h_n3) (Nat.lt_succ_self _) ls (lv_sub hl [0, 1] rfl)
def newA (q n1 p1 p2 p3 n2 n3 n4 : Nat) : Nat → Nat := fun i => if i = 0 then q else if i = 1 then n1 else if i = 2 then p1 else if i = 3 then p2 else if i = 4 then p3 else if i = 5 then n2 else if i = 6 then n3 else n4
theorem cL_0 {i : Nat} (h : cL St0 i) : i < 8 := by
  rcases h with h | ⟨h1, h⟩
  · exact h
  · have h2 : (i : Int) < 8 + 0 := h; omega
theorem inj_newA {q n1 p1 p2 p3 n2 n3 n4 : Nat} (h1 : q < n1) (h2 : n1 < p1) (h3 : p1 < p2) (h4 : p2 < p3) (h5 : p3 < n2) (h6 : n2 < n3) (h7 : n3 < n4) : inj (newA q n1 p1 p2 p3 n2 n3 n4) (cL St0) := by
  intro i j hi hj z
  have a := cL_0 hi
  have c := cL_0 hj
  have mono : ∀ x y : Nat, x < y → y < 8 → newA q n1 p1 p2 p3 n2 n3 n4 x < newA q n1 p1 p2 p3 n2 n3 n4 y := by
    have st : ∀ x : Nat, x < 7 → newA q n1 p1 p2 p3 n2 n3 n4 x < newA q n1 p1 p2 p3 n2 n3 n4 (x + 1) := by
      intro x hx
      rcases (show x = 0 ∨ x = 1 ∨ x = 2 ∨ x = 3 ∨ x = 4 ∨ x = 5 ∨ x = 6 by omega) with rfl | rfl | rfl | rfl | rfl | rfl | rfl <;> simp [newA] <;> assumption
    intro x y hxy hy
    induction y with
    | zero => omega
    | succ y ih =>
      by_cases q : x = y
      · subst q; exact st x (by omega)
      · exact Nat.lt_trans (ih (by omega) (by omega)) (st y (by omega))
  rcases Nat.lt_trichotomy i j with g | g | g
  · have := mono i j g c; omega
  · exact g
  · have := mono j i g a; omega
theorem dX2_init_0 : decode cX2_init 0 = .ok (.aload_n 0, 1) := by decide +kernel
theorem dX2_init_1 : decode cX2_init 1 = .ok (.invokespecial 3, 3) := by decide +kernel
theorem dX2_init_4 : decode cX2_init 4 = .ok (.aload_n 0, 1) := by decide +kernel
theorem dX2_init_5 : decode cX2_init 5 = .ok (.new 9, 3) := by decide +kernel
theorem dX2_init_8 : decode cX2_init 8 = .ok (.dup, 1) := by decide +kernel
theorem dX2_init_9 : decode cX2_init 9 = .ok (.invokespecial 11, 3) := by decide +kernel
theorem dX2_init_12 : decode cX2_init 12 = .ok (.putfield 12, 3) := by decide +kernel
theorem dX2_init_15 : decode cX2_init 15 = .ok (.aload_n 0, 1) := by decide +kernel
theorem dX2_init_16 : decode cX2_init 16 = .ok (.bipush 32, 2) := by decide +kernel
theorem dX2_init_18 : decode cX2_init 18 = .ok (.newarray .int, 2) := by decide +kernel
theorem dX2_init_20 : decode cX2_init 20 = .ok (.putfield 16, 3) := by decide +kernel
theorem dX2_init_23 : decode cX2_init 23 = .ok (.aload_n 0, 1) := by decide +kernel
theorem dX2_init_24 : decode cX2_init 24 = .ok (.bipush 16, 2) := by decide +kernel
theorem dX2_init_26 : decode cX2_init 26 = .ok (.newarray .int, 2) := by decide +kernel
theorem dX2_init_28 : decode cX2_init 28 = .ok (.putfield 20, 3) := by decide +kernel
theorem dX2_init_31 : decode cX2_init 31 = .ok (.aload_n 0, 1) := by decide +kernel
theorem dX2_init_32 : decode cX2_init 32 = .ok (.sipush 160, 3) := by decide +kernel
theorem dX2_init_35 : decode cX2_init 35 = .ok (.newarray .int, 2) := by decide +kernel
theorem dX2_init_37 : decode cX2_init 37 = .ok (.putfield 23, 3) := by decide +kernel
theorem dX2_init_40 : decode cX2_init 40 = .ok (.aload_n 0, 1) := by decide +kernel
theorem dX2_init_41 : decode cX2_init 41 = .ok (.iconst 0, 1) := by decide +kernel
theorem dX2_init_42 : decode cX2_init 42 = .ok (.putfield 26, 3) := by decide +kernel
theorem dX2_init_45 : decode cX2_init 45 = .ok (.aload_n 0, 1) := by decide +kernel
theorem dX2_init_46 : decode cX2_init 46 = .ok (.iconst 0, 1) := by decide +kernel
theorem dX2_init_47 : decode cX2_init 47 = .ok (.putfield 30, 3) := by decide +kernel
theorem dX2_init_50 : decode cX2_init 50 = .ok (.aload_n 0, 1) := by decide +kernel
theorem dX2_init_51 : decode cX2_init 51 = .ok (.bipush 8, 2) := by decide +kernel
theorem dX2_init_53 : decode cX2_init 53 = .ok (.putfield 33, 3) := by decide +kernel
theorem dX2_init_56 : decode cX2_init 56 = .ok (.aload_n 0, 1) := by decide +kernel
theorem dX2_init_57 : decode cX2_init 57 = .ok (.iconst 0, 1) := by decide +kernel
theorem dX2_init_58 : decode cX2_init 58 = .ok (.putfield 36, 3) := by decide +kernel
theorem dX2_init_61 : decode cX2_init 61 = .ok (.aload_n 0, 1) := by decide +kernel
theorem dX2_init_62 : decode cX2_init 62 = .ok (.getfield 20, 3) := by decide +kernel
theorem dX2_init_65 : decode cX2_init 65 = .ok (.iconst 0, 1) := by decide +kernel
theorem dX2_init_66 : decode cX2_init 66 = .ok (.bipush 32, 2) := by decide +kernel
theorem dX2_init_68 : decode cX2_init 68 = .ok (.iastore, 1) := by decide +kernel
theorem dX2_init_69 : decode cX2_init 69 = .ok (.return_, 1) := by decide +kernel
theorem q1_35 : (Jvm.Cond.methodLink "Cyclepaint" (3 : Nat) ({ cls := "java/lang/Object", name := "<init>", desc := "()V" } : Jvm.MethodName)) ∈ lw_g := zg_of (zin1 (List.mem_of_getElem? (i := 35) rfl)) rfl
theorem q1_38 : (Jvm.Cond.classLink "Cyclepaint" (9 : Nat) "Cyclepaint$Palette") ∈ lw_g := zg_of (zin1 (List.mem_of_getElem? (i := 38) rfl)) rfl
theorem q1_39 : (Jvm.Cond.instantiable "Cyclepaint$Palette" (4 : Nat)) ∈ lw_g := zg_of (zin1 (List.mem_of_getElem? (i := 39) rfl)) rfl
theorem q1_41 : (Jvm.Cond.instanceMethod ({ cls := "Cyclepaint$Palette", name := "<init>", desc := "()V" } : Jvm.MethodName)) ∈ lw_g := zg_of (zin1 (List.mem_of_getElem? (i := 41) rfl)) rfl
theorem q1_40 : (Jvm.Cond.methodLink "Cyclepaint" (11 : Nat) ({ cls := "Cyclepaint$Palette", name := "<init>", desc := "()V" } : Jvm.MethodName)) ∈ lw_g := zg_of (zin1 (List.mem_of_getElem? (i := 40) rfl)) rfl
theorem q1_34 : (Jvm.Cond.code ({ cls := "Cyclepaint", name := "<init>", desc := "()V" } : Jvm.MethodName) prog_1_method_1_code (1 : Nat) (Option.none : Option Jvm.ClassFile.FieldType)) ∈ lw_g := zg_of (zin1 (List.mem_of_getElem? (i := 34) rfl)) rfl
theorem ok_X2_init : zOK yX2_init cX2_init 1 ((Option.none : Option Jvm.ClassFile.FieldType)) 0 := ⟨q1_34, q1_1, by decide, by decide, by decide +kernel⟩
set_option maxHeartbeats 4000000 in
set_option maxRecDepth 100000 in
theorem c_X2_init (l : Launch) (G : zG) (q sz : Nat) : Met l yX2_init (wq yX2_init cX2_init 1 ((Option.none : Option Jvm.ClassFile.FieldType))) (rmM 2 41 7 248) (va_Pc [.ref (q)] (zK G (fun H => va_at G.1 vwCl (q, .inr (6, [.null, .null, .null, .null, .int 0, .int 0, .int 0, .int 0])) H ∧ H.size = sz))) (zM (fun y => y = q ∨ sz ≤ y) none (fun H => ∃ a : Nat → Nat, a 0 = q ∧ hCyc G St0 a H ∧ inj a (cL St0) ∧ (∀ i : Nat, 1 ≤ i → i < 8 → sz ≤ a i))) 7 248 (fun y => y = q ∨ sz ≤ y) := by
  refine z_enterMV (by decide +kernel) (Nat.le_of_ble_eq_true rfl) ?_
  intro p env s m below meth cod Q S hnm hG hP hS ret ls hl
  have hl : lv_has ls 1 [(0, .ref (q))] := hl
  have hQ := hP.1
  have hz0 := hP.2
  have ltq : q < sz := by rw [← hz0]; exact va_lt hQ
  refine z_aload_n S dX2_init_0 hl 0 rfl rfl ?_
  refine z_objInit S hl.1 q1_35 q1_36 (by exact q1_37) dX2_init_1 (Nat.le_of_ble_eq_true rfl) (Nat.le_of_ble_eq_true rfl) ?_
  refine z_aload_n S dX2_init_4 hl 0 rfl rfl ?_
  refine z_newc S hG zc_X0 tyX0 tyX0_ok q1_38 q1_39 q1_2 hS (fs := [.null, .null, .null, .int 0]) (fun j hj => by rcases (show j = 0 ∨ j = 1 ∨ j = 2 ∨ j = 3 by omega) with rfl | rfl | rfl | rfl <;> rfl) ⟨Nat.le_of_ble_eq_true rfl, Nat.le_of_ble_eq_true rfl⟩ dX2_init_5 (fun n1 H_1 hq_n1 hat hz oq hS => ?_)
  have lt_hQ_n1 : n1 > q := by rw [hq_n1]; exact va_lt hQ
  have hQ := va_at.kept hQ (oq _ (va_lt hQ))
  have h_n1 := hat
  refine z_dup S dX2_init_8 rfl ?_
  obtain ⟨zz, hzz⟩ : ∃ x : Nat, x = H_1.size := ⟨_, rfl⟩
  have lzn : n1 < zz := by rw [hzz]; exact va_lt h_n1
  have lsz : sz ≤ zz := by omega
  refine z_callMI S hG hS (c_X0_init l G n1 zz) (fun y h => Or.inr (h.elim (fun e => by omega) (fun e => by have h2 : zz ≤ y := e; omega))) ok_X0_init q1_41 rfl q1_40 (⟨h_n1, hzz.symm⟩) ⟨rfl, rfl, by decide, by decide⟩ ⟨Nat.le_of_ble_eq_true rfl, Nat.le_of_ble_eq_true rfl⟩ rfl (Nat.le_of_ble_eq_true rfl) hl.1 rfl dX2_init_9 (fun H_2 L_2 hB hz oq hS => ?_)
  have hQ := va_at.kept hQ (oq _ (va_lt hQ) (by show ¬ (_ ∨ _); omega))
  obtain ⟨p1, p2, p3, h_n1, h_p1, h_p2, h_p3, g1, g2, g3⟩ := hB
  refine z_putF S hG hQ zc_X2 tyX2 tyX2_ok nmX2 hS (Or.inl rfl) 0 (by decide) q1_60 rfl hnm rfl (tyX2_ok 0 (by decide)) rfl rfl (Nat.le_of_ble_eq_true rfl) dX2_init_12 (fun H_3 L_3 hat hz oq hS => ?_)
  have h_n1 := va_at.kept h_n1 (oq _ (show q ≠ n1 by omega).symm)
  have h_p1 := va_at.kept h_p1 (oq _ (show q ≠ p1 by omega).symm)
  have h_p2 := va_at.kept h_p2 (oq _ (show q ≠ p2 by omega).symm)
  have h_p3 := va_at.kept h_p3 (oq _ (show q ≠ p3 by omega).symm)
  have hQ := hat
  refine z_aload_n S dX2_init_15 hl 0 rfl rfl ?_
  refine z_bipush S dX2_init_16 rfl ?_
  refine z_newI (N := 32) S hG (Nat.le_of_ble_eq_true rfl) q_arrI hS ⟨Nat.le_of_ble_eq_true rfl, Nat.le_of_ble_eq_true rfl⟩ dX2_init_18 (fun n2 H_4 hq_n2 hat hz oq hS => ?_)
  have lt_hQ_n2 : n2 > q := by rw [hq_n2]; exact va_lt hQ
  have hQ := va_at.kept hQ (oq _ (va_lt hQ))
  have lt_h_n1_n2 : n2 > n1 := by rw [hq_n2]; exact va_lt h_n1
  have h_n1 := va_at.kept h_n1 (oq _ (va_lt h_n1))
  have lt_h_p1_n2 : n2 > p1 := by rw [hq_n2]; exact va_lt h_p1
  have h_p1 := va_at.kept h_p1 (oq _ (va_lt h_p1))
  have lt_h_p2_n2 : n2 > p2 := by rw [hq_n2]; exact va_lt h_p2
  have h_p2 := va_at.kept h_p2 (oq _ (va_lt h_p2))
  have lt_h_p3_n2 : n2 > p3 := by rw [hq_n2]; exact va_lt h_p3
  have h_p3 := va_at.kept h_p3 (oq _ (va_lt h_p3))
  have h_n2 := hat
  refine z_putF S hG hQ zc_X2 tyX2 tyX2_ok nmX2 hS (Or.inl rfl) 1 (by decide) q1_61 rfl hnm rfl (tyX2_ok 1 (by decide)) rfl rfl (Nat.le_of_ble_eq_true rfl) dX2_init_20 (fun H_5 L_5 hat hz oq hS => ?_)
  have h_n1 := va_at.kept h_n1 (oq _ (show q ≠ n1 by omega).symm)
  have h_p1 := va_at.kept h_p1 (oq _ (show q ≠ p1 by omega).symm)
  have h_p2 := va_at.kept h_p2 (oq _ (show q ≠ p2 by omega).symm)
  have h_p3 := va_at.kept h_p3 (oq _ (show q ≠ p3 by omega).symm)
  have h_n2 := va_at.kept h_n2 (oq _ (show q ≠ n2 by omega).symm)
  have hQ := hat
  refine z_aload_n S dX2_init_23 hl 0 rfl rfl ?_
  refine z_bipush S dX2_init_24 rfl ?_
  refine z_newI (N := 16) S hG (Nat.le_of_ble_eq_true rfl) q_arrI hS ⟨Nat.le_of_ble_eq_true rfl, Nat.le_of_ble_eq_true rfl⟩ dX2_init_26 (fun n3 H_6 hq_n3 hat hz oq hS => ?_)
  have lt_hQ_n3 : n3 > q := by rw [hq_n3]; exact va_lt hQ
  have hQ := va_at.kept hQ (oq _ (va_lt hQ))
  have lt_h_n1_n3 : n3 > n1 := by rw [hq_n3]; exact va_lt h_n1
  have h_n1 := va_at.kept h_n1 (oq _ (va_lt h_n1))
  have lt_h_p1_n3 : n3 > p1 := by rw [hq_n3]; exact va_lt h_p1
  have h_p1 := va_at.kept h_p1 (oq _ (va_lt h_p1))
  have lt_h_p2_n3 : n3 > p2 := by rw [hq_n3]; exact va_lt h_p2
  have h_p2 := va_at.kept h_p2 (oq _ (va_lt h_p2))
  have lt_h_p3_n3 : n3 > p3 := by rw [hq_n3]; exact va_lt h_p3
  have h_p3 := va_at.kept h_p3 (oq _ (va_lt h_p3))
  have lt_h_n2_n3 : n3 > n2 := by rw [hq_n3]; exact va_lt h_n2
  have h_n2 := va_at.kept h_n2 (oq _ (va_lt h_n2))
  have h_n3 := hat
  refine z_putF S hG hQ zc_X2 tyX2 tyX2_ok nmX2 hS (Or.inl rfl) 2 (by decide) q1_62 rfl hnm rfl (tyX2_ok 2 (by decide)) rfl rfl (Nat.le_of_ble_eq_true rfl) dX2_init_28 (fun H_7 L_7 hat hz oq hS => ?_)
  have h_n1 := va_at.kept h_n1 (oq _ (show q ≠ n1 by omega).symm)
  have h_p1 := va_at.kept h_p1 (oq _ (show q ≠ p1 by omega).symm)
  have h_p2 := va_at.kept h_p2 (oq _ (show q ≠ p2 by omega).symm)
  have h_p3 := va_at.kept h_p3 (oq _ (show q ≠ p3 by omega).symm)
  have h_n2 := va_at.kept h_n2 (oq _ (show q ≠ n2 by omega).symm)
  have h_n3 := va_at.kept h_n3 (oq _ (show q ≠ n3 by omega).symm)
  have hQ := hat
  refine z_aload_n S dX2_init_31 hl 0 rfl rfl ?_
  refine z_sipush S dX2_init_32 rfl ?_
  refine z_newI (N := 160) S hG (Nat.le_of_ble_eq_true rfl) q_arrI hS ⟨Nat.le_of_ble_eq_true rfl, Nat.le_of_ble_eq_true rfl⟩ dX2_init_35 (fun n4 H_8 hq_n4 hat hz oq hS => ?_)
  have lt_hQ_n4 : n4 > q := by rw [hq_n4]; exact va_lt hQ
  have hQ := va_at.kept hQ (oq _ (va_lt hQ))
  have lt_h_n1_n4 : n4 > n1 := by rw [hq_n4]; exact va_lt h_n1
  have h_n1 := va_at.kept h_n1 (oq _ (va_lt h_n1))
  have lt_h_p1_n4 : n4 > p1 := by rw [hq_n4]; exact va_lt h_p1
  have h_p1 := va_at.kept h_p1 (oq _ (va_lt h_p1))
  have lt_h_p2_n4 : n4 > p2 := by rw [hq_n4]; exact va_lt h_p2
  have h_p2 := va_at.kept h_p2 (oq _ (va_lt h_p2))
  have lt_h_p3_n4 : n4 > p3 := by rw [hq_n4]; exact va_lt h_p3
  have h_p3 := va_at.kept h_p3 (oq _ (va_lt h_p3))
  have lt_h_n2_n4 : n4 > n2 := by rw [hq_n4]; exact va_lt h_n2
  have h_n2 := va_at.kept h_n2 (oq _ (va_lt h_n2))
  have lt_h_n3_n4 : n4 > n3 := by rw [hq_n4]; exact va_lt h_n3
  have h_n3 := va_at.kept h_n3 (oq _ (va_lt h_n3))
  have h_n4 := hat
  refine z_putF S hG hQ zc_X2 tyX2 tyX2_ok nmX2 hS (Or.inl rfl) 3 (by decide) q1_63 rfl hnm rfl (tyX2_ok 3 (by decide)) rfl rfl (Nat.le_of_ble_eq_true rfl) dX2_init_37 (fun H_9 L_9 hat hz oq hS => ?_)
  have h_n1 := va_at.kept h_n1 (oq _ (show q ≠ n1 by omega).symm)
  have h_p1 := va_at.kept h_p1 (oq _ (show q ≠ p1 by omega).symm)
  have h_p2 := va_at.kept h_p2 (oq _ (show q ≠ p2 by omega).symm)
  have h_p3 := va_at.kept h_p3 (oq _ (show q ≠ p3 by omega).symm)
  have h_n2 := va_at.kept h_n2 (oq _ (show q ≠ n2 by omega).symm)
  have h_n3 := va_at.kept h_n3 (oq _ (show q ≠ n3 by omega).symm)
  have h_n4 := va_at.kept h_n4 (oq _ (show q ≠ n4 by omega).symm)
  have hQ := hat
  refine z_aload_n S dX2_init_40 hl 0 rfl rfl ?_
  refine z_iconst S dX2_init_41 ?_
  refine z_putR S hG hQ zc_X2 tyX2 tyX2_ok nmX2 hS (Or.inl rfl) 4 (by decide) q1_64 rfl (tyX2_ok 4 (by decide)) rfl rfl (Nat.le_of_ble_eq_true rfl) dX2_init_42 (fun H_10 L_10 hat hz oq hS => ?_)
  have h_n1 := va_at.kept h_n1 (oq _ (show q ≠ n1 by omega).symm)
  have h_p1 := va_at.kept h_p1 (oq _ (show q ≠ p1 by omega).symm)
  have h_p2 := va_at.kept h_p2 (oq _ (show q ≠ p2 by omega).symm)
  have h_p3 := va_at.kept h_p3 (oq _ (show q ≠ p3 by omega).symm)
  have h_n2 := va_at.kept h_n2 (oq _ (show q ≠ n2 by omega).symm)
  have h_n3 := va_at.kept h_n3 (oq _ (show q ≠ n3 by omega).symm)
  have h_n4 := va_at.kept h_n4 (oq _ (show q ≠ n4 by omega).symm)
  have hQ := hat
  refine z_aload_n S dX2_init_45 hl 0 rfl rfl ?_
  refine z_iconst S dX2_init_46 ?_
  refine z_putR S hG hQ zc_X2 tyX2 tyX2_ok nmX2 hS (Or.inl rfl) 5 (by decide) q1_65 rfl (tyX2_ok 5 (by decide)) rfl rfl (Nat.le_of_ble_eq_true rfl) dX2_init_47 (fun H_11 L_11 hat hz oq hS => ?_)
  have h_n1 := va_at.kept h_n1 (oq _ (show q ≠ n1 by omega).symm)
  have h_p1 := va_at.kept h_p1 (oq _ (show q ≠ p1 by omega).symm)
  have h_p2 := va_at.kept h_p2 (oq _ (show q ≠ p2 by omega).symm)
  have h_p3 := va_at.kept h_p3 (oq _ (show q ≠ p3 by omega).symm)
  have h_n2 := va_at.kept h_n2 (oq _ (show q ≠ n2 by omega).symm)
  have h_n3 := va_at.kept h_n3 (oq _ (show q ≠ n3 by omega).symm)
  have h_n4 := va_at.kept h_n4 (oq _ (show q ≠ n4 by omega).symm)
  have hQ := hat
  refine z_aload_n S dX2_init_50 hl 0 rfl rfl ?_
  refine z_bipush S dX2_init_51 rfl ?_
  refine z_putR S hG hQ zc_X2 tyX2 tyX2_ok nmX2 hS (Or.inl rfl) 6 (by decide) q1_66 rfl (tyX2_ok 6 (by decide)) rfl rfl (Nat.le_of_ble_eq_true rfl) dX2_init_53 (fun H_12 L_12 hat hz oq hS => ?_)
  have h_n1 := va_at.kept h_n1 (oq _ (show q ≠ n1 by omega).symm)
  have h_p1 := va_at.kept h_p1 (oq _ (show q ≠ p1 by omega).symm)
  have h_p2 := va_at.kept h_p2 (oq _ (show q ≠ p2 by omega).symm)
  have h_p3 := va_at.kept h_p3 (oq _ (show q ≠ p3 by omega).symm)
  have h_n2 := va_at.kept h_n2 (oq _ (show q ≠ n2 by omega).symm)
  have h_n3 := va_at.kept h_n3 (oq _ (show q ≠ n3 by omega).symm)
  have h_n4 := va_at.kept h_n4 (oq _ (show q ≠ n4 by omega).symm)
  have hQ := hat
  refine z_aload_n S dX2_init_56 hl 0 rfl rfl ?_
  refine z_iconst S dX2_init_57 ?_
  refine z_putR S hG hQ zc_X2 tyX2 tyX2_ok nmX2 hS (Or.inl rfl) 7 (by decide) q1_67 rfl (tyX2_ok 7 (by decide)) rfl rfl (Nat.le_of_ble_eq_true rfl) dX2_init_58 (fun H_13 L_13 hat hz oq hS => ?_)
  have h_n1 := va_at.kept h_n1 (oq _ (show q ≠ n1 by omega).symm)
  have h_p1 := va_at.kept h_p1 (oq _ (show q ≠ p1 by omega).symm)
  have h_p2 := va_at.kept h_p2 (oq _ (show q ≠ p2 by omega).symm)
  have h_p3 := va_at.kept h_p3 (oq _ (show q ≠ p3 by omega).symm)
  have h_n2 := va_at.kept h_n2 (oq _ (show q ≠ n2 by omega).symm)
  have h_n3 := va_at.kept h_n3 (oq _ (show q ≠ n3 by omega).symm)
  have h_n4 := va_at.kept h_n4 (oq _ (show q ≠ n4 by omega).symm)
  have hQ := hat
  have h_n3 : va_at G.1 vwCl (n3, .inl (G.2 0, 16, .inl (zB (fun _ => 0)))) H_13 := h_n3
  refine z_aload_n S dX2_init_61 hl 0 rfl rfl ?_
  refine z_get S hG hQ zc_X2 2 (by decide) q1_62 rfl rfl dX2_init_62 ?_
  refine z_iconst S dX2_init_65 ?_
  refine z_bipush S dX2_init_66 rfl ?_
  refine z_iastB S hG h_n3 hS (Or.inr (by omega)) (i := 0) (x := 32) (by omega) (by decide) dX2_init_68 (fun H_14 L_14 hat hz oq hS => ?_)
  have hQ := va_at.kept hQ (oq _ (show n3 ≠ q by omega).symm)
  have h_n1 := va_at.kept h_n1 (oq _ (show n3 ≠ n1 by omega).symm)
  have h_p1 := va_at.kept h_p1 (oq _ (show n3 ≠ p1 by omega).symm)
  have h_p2 := va_at.kept h_p2 (oq _ (show n3 ≠ p2 by omega).symm)
  have h_p3 := va_at.kept h_p3 (oq _ (show n3 ≠ p3 by omega).symm)
  have h_n2 := va_at.kept h_n2 (oq _ (show n3 ≠ n2 by omega).symm)
  have h_n4 := va_at.kept h_n4 (oq _ (show n3 ≠ n4 by omega).symm)
  have h_n3 := hat
  exact ret _ _ _ _ _ _ dX2_init_69 hS (⟨newA q n1 p1 p2 p3 n2 n3 n4, rfl, ⟨hQ, h_n2, va_cgB (fun j j0 j1 => by rw [usz_0]; unfold up; split <;> rfl) h_n3, h_n4, ⟨h_n1, h_p1, va_cgB (fun j j0 j1 => (rgOf_0 j).symm) h_p2, va_cgC (fun j j0 j1 => (show rgA St0 _ j = none from if_neg (by show ¬ (0 ≤ j ∧ j < 0); omega)).symm) h_p3, fun j j0 j1 => absurd j1 (by show ¬ j < 0; omega), okR_0⟩, okC_0⟩, inj_newA (by omega) (by omega) (by omega) (by omega) (by omega) (by omega) (by omega), fun i h1 h2 => by rcases (show i = 1 ∨ i = 2 ∨ i = 3 ∨ i = 4 ∨ i = 5 ∨ i = 6 ∨ i = 7 by omega) with rfl | rfl | rfl | rfl | rfl | rfl | rfl <;> simp [newA] <;> omega⟩) (Nat.le_of_ble_eq_true rfl) (Nat.le_of_ble_eq_true rfl)
