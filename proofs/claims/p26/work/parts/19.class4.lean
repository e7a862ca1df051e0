theorem zty_X2 : ∀ k, k < 8 → parseFieldDescriptor (TX2 k).2.2.1 = some ((parseFieldDescriptor (TX2 k).2.2.1).getD .int) := zty_of (by decide +kernel)
theorem znm_X2 : ∀ a, a < 8 → ∀ b, b < 8 → a ≠ b → (TX2 a).2.1 ≠ (TX2 b).2.1 := by decide +kernel
theorem dX2_jump_0 : decode cX2_jump 0 = .ok (.iload_n 1, 1) := by decide +kernel
theorem dX2_jump_1 : decode cX2_jump 1 = .ok (.invokestatic 139, 3) := by decide +kernel
theorem dX2_jump_4 : decode cX2_jump 4 = .ok (.ifCond .ne 13, 3) := by decide +kernel
theorem dX2_jump_7 : decode cX2_jump 7 = .ok (.new 53, 3) := by decide +kernel
theorem dX2_jump_10 : decode cX2_jump 10 = .ok (.dup, 1) := by decide +kernel
theorem dX2_jump_11 : decode cX2_jump 11 = .ok (.ldc 142, 2) := by decide +kernel
theorem dX2_jump_13 : decode cX2_jump 13 = .ok (.invokespecial 57, 3) := by decide +kernel
theorem dX2_jump_16 : decode cX2_jump 16 = .ok (.athrow, 1) := by decide +kernel
theorem dX2_jump_17 : decode cX2_jump 17 = .ok (.aload_n 0, 1) := by decide +kernel
theorem dX2_jump_18 : decode cX2_jump 18 = .ok (.getfield 30, 3) := by decide +kernel
theorem dX2_jump_21 : decode cX2_jump 21 = .ok (.istore_n 2, 1) := by decide +kernel
theorem dX2_jump_22 : decode cX2_jump 22 = .ok (.aload_n 0, 1) := by decide +kernel
theorem dX2_jump_23 : decode cX2_jump 23 = .ok (.iload_n 1, 1) := by decide +kernel
theorem dX2_jump_24 : decode cX2_jump 24 = .ok (.putfield 30, 3) := by decide +kernel
theorem dX2_jump_27 : decode cX2_jump 27 = .ok (.iload_n 2, 1) := by decide +kernel
theorem dX2_jump_28 : decode cX2_jump 28 = .ok (.ireturn, 1) := by decide +kernel
theorem q3_68 : (Jvm.Cond.code ({ cls := "Cyclepaint", name := "jump", desc := "(I)I" } : Jvm.MethodName) prog_1_method_9_code (3 : Nat) (Option.some Jvm.ClassFile.FieldType.int)) ∈ lw_g := zg_of (zin3 (List.mem_of_getElem? (i := 68) rfl)) rfl
theorem q3_66 : (Jvm.Cond.instanceMethod ({ cls := "Cyclepaint", name := "jump", desc := "(I)I" } : Jvm.MethodName)) ∈ lw_g := zg_of (zin3 (List.mem_of_getElem? (i := 66) rfl)) rfl
theorem q3_67 : (Jvm.Cond.selects "Cyclepaint" ({ cls := "Cyclepaint", name := "jump", desc := "(I)I" } : Jvm.MethodName) ({ cls := "Cyclepaint", name := "jump", desc := "(I)I" } : Jvm.MethodName)) ∈ lw_g := zg_of (zin3 (List.mem_of_getElem? (i := 67) rfl)) rfl
theorem ok_X2_jump : zOV yX2_jump cX2_jump 3 ((Option.some Jvm.ClassFile.FieldType.int)) 1 := ⟨⟨q3_68, q1_1, by decide, by decide, by decide +kernel⟩, q3_66, q3_67⟩
set_option maxHeartbeats 4000000 in
set_option maxRecDepth 100000 in
theorem c_X2_jump (l : Launch) (G : zG) (σ : St) (a : Nat → Nat) (hd : inj a (cL σ)) (x : Int) (hx : 0 ≤ x ∧ x ≤ 99999) : Met l yX2_jump (wq yX2_jump cX2_jump 3 ((Option.some Jvm.ClassFile.FieldType.int))) (rmM 1 20 0 0) (va_Pc [.ref (a 0), .int (zI (x))] (zK G (hCyc G σ a))) (zM (cA σ a) (some (.int ((zI (σ.tk))))) (fun H => hCyc G (σ.wO x σ.lim σ.rf) a H)) 0 0 (cA σ a) := by
  refine z_enterMI (by decide +kernel) (Nat.le_of_ble_eq_true rfl) ?_
  intro p env s m below meth cod Q S hG hP hS ret ls hl
  have hl : lv_has ls 3 [(0, .ref (a 0)), (1, .int (zI (x)))] := hl
  have hC := hP.2.2.2.2.2
  have hT := hC.1
  have hdt := hC.2.1
  have hlm := hC.2.2.1
  have hkn := hC.2.2.2.1
  have hD := hC.2.2.2.2.1
  have hB := hC.2.2.2.2.2
  refine z_iload_n S dX2_jump_0 hl 1 rfl rfl ?_
  refine z_callSs S hG (c_X2_isTick l G (x) (by omega)) ok_X2_isTick q3_69 (trivial) ⟨rfl, rfl, by decide, by decide⟩ ⟨Nat.zero_le _, Nat.zero_le _⟩ rfl (Nat.le_of_ble_eq_true rfl) hl.1 rfl dX2_jump_1 ?_
  refine z_bif_ne S 17 dX2_jump_4 (by decide) (fun q => ?_) (fun q => ?_)
  rotate_left
  · exact absurd q (by rw [(show (decide (0 ≤ x) && decide (x ≤ 99999)) = true from by simp; omega)]; decide)
  refine z_aload_n S dX2_jump_17 hl 0 rfl rfl ?_
  refine z_get S hG hP.1 zc_X2 5 (by decide) q1_65 rfl rfl dX2_jump_18 ?_
  refine z_istore_n (lv' := [(2, .int (zI (σ.tk))), (0, .ref (a 0)), (1, .int (zI (x)))]) S dX2_jump_21 hl rfl (by decide) rfl (fun ls hl => ?_)
  refine z_aload_n S dX2_jump_22 hl 1 rfl rfl ?_
  refine z_iload_n S dX2_jump_23 hl 2 rfl rfl ?_
  refine z_put S hG hP.1 zc_X2 _ (zty_X2) (znm_X2) hS (⟨0, cL_s (by decide), rfl⟩) 5 (by decide) q1_65 rfl rfl rfl rfl rfl (Nat.le_of_ble_eq_true rfl) dX2_jump_24 (fun H_1 L_1 hat hz oq hS => ?_)
  have hP : hCyc G (σ.wO (x) (σ.lim) (σ.rf)) a H_1 := hCyc_o hP hd (x) (σ.lim) (σ.rf) hat oq (okC_o hC (by omega) (by omega))
  refine z_iload_n S dX2_jump_27 hl 0 rfl rfl ?_
  exact ret _ _ _ _ _ _ _ dX2_jump_28 (rfl) hS (by exact hP) (Nat.le_of_ble_eq_true rfl) (Nat.le_of_ble_eq_true rfl)
theorem dX2_call_0 : decode cX2_call 0 = .ok (.aload_n 0, 1) := by decide +kernel
theorem dX2_call_1 : decode cX2_call 1 = .ok (.dup, 1) := by decide +kernel
theorem dX2_call_2 : decode cX2_call 2 = .ok (.getfield 36, 3) := by decide +kernel
theorem dX2_call_5 : decode cX2_call 5 = .ok (.iconst 1, 1) := by decide +kernel
theorem dX2_call_6 : decode cX2_call 6 = .ok (.iadd, 1) := by decide +kernel
theorem dX2_call_7 : decode cX2_call 7 = .ok (.putfield 36, 3) := by decide +kernel
theorem dX2_call_10 : decode cX2_call 10 = .ok (.aload_n 0, 1) := by decide +kernel
theorem dX2_call_11 : decode cX2_call 11 = .ok (.getfield 36, 3) := by decide +kernel
theorem dX2_call_14 : decode cX2_call 14 = .ok (.ireturn, 1) := by decide +kernel
theorem q1_143 : (Jvm.Cond.code ({ cls := "Cyclepaint", name := "call", desc := "()I" } : Jvm.MethodName) prog_1_method_12_code (1 : Nat) (Option.some Jvm.ClassFile.FieldType.int)) ∈ lw_g := zg_of (zin1 (List.mem_of_getElem? (i := 143) rfl)) rfl
theorem q1_141 : (Jvm.Cond.instanceMethod ({ cls := "Cyclepaint", name := "call", desc := "()I" } : Jvm.MethodName)) ∈ lw_g := zg_of (zin1 (List.mem_of_getElem? (i := 141) rfl)) rfl
theorem q1_142 : (Jvm.Cond.selects "Cyclepaint" ({ cls := "Cyclepaint", name := "call", desc := "()I" } : Jvm.MethodName) ({ cls := "Cyclepaint", name := "call", desc := "()I" } : Jvm.MethodName)) ∈ lw_g := zg_of (zin1 (List.mem_of_getElem? (i := 142) rfl)) rfl
theorem ok_X2_call : zOV yX2_call cX2_call 1 ((Option.some Jvm.ClassFile.FieldType.int)) 0 := ⟨⟨q1_143, q1_1, by decide, by decide, by decide +kernel⟩, q1_141, q1_142⟩
set_option maxHeartbeats 4000000 in
set_option maxRecDepth 100000 in
theorem c_X2_call (l : Launch) (G : zG) (σ : St) (a : Nat → Nat) (hd : inj a (cL σ))  : Met l yX2_call (wq yX2_call cX2_call 1 ((Option.some Jvm.ClassFile.FieldType.int))) (rmM 0 0 0 0) (va_Pc [.ref (a 0)] (zK G (hCyc G σ a))) (zM (cA σ a) (some (.int ((σ.rf + zI 1)))) (fun H => hCyc G (σ.wO σ.tk σ.lim (σ.rf + zI 1)) a H)) 0 0 (cA σ a) := by
  refine z_enterMI (by decide +kernel) (Nat.le_of_ble_eq_true rfl) ?_
  intro p env s m below meth cod Q S hG hP hS ret ls hl
  have hl : lv_has ls 1 [(0, .ref (a 0))] := hl
  have hC := hP.2.2.2.2.2
  have hT := hC.1
  have hdt := hC.2.1
  have hlm := hC.2.2.1
  have hkn := hC.2.2.2.1
  have hD := hC.2.2.2.2.1
  have hB := hC.2.2.2.2.2
  refine z_aload_n S dX2_call_0 hl 0 rfl rfl ?_
  refine z_dup S dX2_call_1 rfl ?_
  refine z_get S hG hP.1 zc_X2 7 (by decide) q1_67 rfl rfl dX2_call_2 ?_
  refine z_iconst S dX2_call_5 ?_
  refine lv_iadd S.1 S.2.1 dX2_call_6 ?_
  refine z_put S hG hP.1 zc_X2 _ (zty_X2) (znm_X2) hS (⟨0, cL_s (by decide), rfl⟩) 7 (by decide) q1_67 rfl rfl rfl rfl rfl (Nat.le_of_ble_eq_true rfl) dX2_call_7 (fun H_1 L_1 hat hz oq hS => ?_)
  have hP : hCyc G (σ.wO (σ.tk) (σ.lim) (((σ.rf) + (zI (1))))) a H_1 := hCyc_o hP hd (σ.tk) (σ.lim) (((σ.rf) + (zI (1)))) hat oq (okC_o hC (by omega) (by omega))
  refine z_aload_n S dX2_call_10 hl 0 rfl rfl ?_
  refine z_get S hG hP.1 zc_X2 7 (by decide) q1_67 rfl rfl dX2_call_11 ?_
  exact ret _ _ _ _ _ _ _ dX2_call_14 (rfl) hS (by exact hP) (Nat.le_of_ble_eq_true rfl) (Nat.le_of_ble_eq_true rfl)
theorem dX2_run_0 : decode cX2_run 0 = .ok (.iload_n 1, 1) := by decide +kernel
theorem dX2_run_1 : decode cX2_run 1 = .ok (.invokestatic 127, 3) := by decide +kernel
theorem dX2_run_4 : decode cX2_run 4 = .ok (.ifCond .ne 13, 3) := by decide +kernel
theorem dX2_run_7 : decode cX2_run 7 = .ok (.new 53, 3) := by decide +kernel
theorem dX2_run_10 : decode cX2_run 10 = .ok (.dup, 1) := by decide +kernel
theorem dX2_run_11 : decode cX2_run 11 = .ok (.ldc 130, 2) := by decide +kernel
theorem dX2_run_13 : decode cX2_run 13 = .ok (.invokespecial 57, 3) := by decide +kernel
theorem dX2_run_16 : decode cX2_run 16 = .ok (.athrow, 1) := by decide +kernel
theorem dX2_run_17 : decode cX2_run 17 = .ok (.aload_n 0, 1) := by decide +kernel
theorem dX2_run_18 : decode cX2_run 18 = .ok (.getfield 30, 3) := by decide +kernel
theorem dX2_run_21 : decode cX2_run 21 = .ok (.iload_n 1, 1) := by decide +kernel
theorem dX2_run_22 : decode cX2_run 22 = .ok (.iadd, 1) := by decide +kernel
theorem dX2_run_23 : decode cX2_run 23 = .ok (.ldc 132, 2) := by decide +kernel
theorem dX2_run_25 : decode cX2_run 25 = .ok (.if_icmp .le 13, 3) := by decide +kernel
theorem dX2_run_28 : decode cX2_run 28 = .ok (.new 92, 3) := by decide +kernel
theorem dX2_run_31 : decode cX2_run 31 = .ok (.dup, 1) := by decide +kernel
theorem dX2_run_32 : decode cX2_run 32 = .ok (.ldc 133, 2) := by decide +kernel
theorem dX2_run_34 : decode cX2_run 34 = .ok (.invokespecial 96, 3) := by decide +kernel
theorem dX2_run_37 : decode cX2_run 37 = .ok (.athrow, 1) := by decide +kernel
theorem dX2_run_38 : decode cX2_run 38 = .ok (.iconst 0, 1) := by decide +kernel
theorem dX2_run_39 : decode cX2_run 39 = .ok (.istore_n 2, 1) := by decide +kernel
theorem dX2_run_40 : decode cX2_run 40 = .ok (.iconst 0, 1) := by decide +kernel
theorem dX2_run_41 : decode cX2_run 41 = .ok (.istore_n 3, 1) := by decide +kernel
theorem dX2_run_42 : decode cX2_run 42 = .ok (.iload_n 3, 1) := by decide +kernel
theorem dX2_run_43 : decode cX2_run 43 = .ok (.bipush 16, 2) := by decide +kernel
theorem dX2_run_45 : decode cX2_run 45 = .ok (.if_icmp .ge 41, 3) := by decide +kernel
theorem dX2_run_48 : decode cX2_run 48 = .ok (.aload_n 0, 1) := by decide +kernel
theorem dX2_run_49 : decode cX2_run 49 = .ok (.getfield 20, 3) := by decide +kernel
theorem dX2_run_52 : decode cX2_run 52 = .ok (.iload_n 3, 1) := by decide +kernel
theorem dX2_run_53 : decode cX2_run 53 = .ok (.iaload, 1) := by decide +kernel
theorem dX2_run_54 : decode cX2_run 54 = .ok (.ifCond .le 26, 3) := by decide +kernel
theorem dX2_run_57 : decode cX2_run 57 = .ok (.iload_n 2, 1) := by decide +kernel
theorem dX2_run_58 : decode cX2_run 58 = .ok (.aload_n 0, 1) := by decide +kernel
theorem dX2_run_59 : decode cX2_run 59 = .ok (.getfield 20, 3) := by decide +kernel
theorem dX2_run_62 : decode cX2_run 62 = .ok (.iload_n 3, 1) := by decide +kernel
theorem dX2_run_63 : decode cX2_run 63 = .ok (.iaload, 1) := by decide +kernel
theorem dX2_run_64 : decode cX2_run 64 = .ok (.aload_n 0, 1) := by decide +kernel
theorem dX2_run_65 : decode cX2_run 65 = .ok (.getfield 12, 3) := by decide +kernel
theorem dX2_run_68 : decode cX2_run 68 = .ok (.iload_n 3, 1) := by decide +kernel
theorem dX2_run_69 : decode cX2_run 69 = .ok (.aload_n 0, 1) := by decide +kernel
theorem dX2_run_70 : decode cX2_run 70 = .ok (.getfield 30, 3) := by decide +kernel
theorem dX2_run_73 : decode cX2_run 73 = .ok (.iload_n 1, 1) := by decide +kernel
theorem dX2_run_74 : decode cX2_run 74 = .ok (.invokevirtual 135, 3) := by decide +kernel
theorem dX2_run_77 : decode cX2_run 77 = .ok (.imul, 1) := by decide +kernel
theorem dX2_run_78 : decode cX2_run 78 = .ok (.iadd, 1) := by decide +kernel
theorem dX2_run_79 : decode cX2_run 79 = .ok (.istore_n 2, 1) := by decide +kernel
theorem dX2_run_80 : decode cX2_run 80 = .ok (.iinc 3 1, 3) := by decide +kernel
theorem dX2_run_83 : decode cX2_run 83 = .ok (.goto (-41), 3) := by decide +kernel
theorem dX2_run_86 : decode cX2_run 86 = .ok (.aload_n 0, 1) := by decide +kernel
theorem dX2_run_87 : decode cX2_run 87 = .ok (.dup, 1) := by decide +kernel
theorem dX2_run_88 : decode cX2_run 88 = .ok (.getfield 30, 3) := by decide +kernel
theorem dX2_run_91 : decode cX2_run 91 = .ok (.iload_n 1, 1) := by decide +kernel
theorem dX2_run_92 : decode cX2_run 92 = .ok (.iadd, 1) := by decide +kernel
theorem dX2_run_93 : decode cX2_run 93 = .ok (.putfield 30, 3) := by decide +kernel
theorem dX2_run_96 : decode cX2_run 96 = .ok (.iload_n 2, 1) := by decide +kernel
theorem dX2_run_97 : decode cX2_run 97 = .ok (.ireturn, 1) := by decide +kernel
theorem q3_55 : (Jvm.Cond.code ({ cls := "Cyclepaint", name := "run", desc := "(I)I" } : Jvm.MethodName) prog_1_method_8_code (4 : Nat) (Option.some Jvm.ClassFile.FieldType.int)) ∈ lw_g := zg_of (zin3 (List.mem_of_getElem? (i := 55) rfl)) rfl
theorem q3_53 : (Jvm.Cond.instanceMethod ({ cls := "Cyclepaint", name := "run", desc := "(I)I" } : Jvm.MethodName)) ∈ lw_g := zg_of (zin3 (List.mem_of_getElem? (i := 53) rfl)) rfl
theorem q3_54 : (Jvm.Cond.selects "Cyclepaint" ({ cls := "Cyclepaint", name := "run", desc := "(I)I" } : Jvm.MethodName) ({ cls := "Cyclepaint", name := "run", desc := "(I)I" } : Jvm.MethodName)) ∈ lw_g := zg_of (zin3 (List.mem_of_getElem? (i := 54) rfl)) rfl
theorem ok_X2_run : zOV yX2_run cX2_run 4 ((Option.some Jvm.ClassFile.FieldType.int)) 1 := ⟨⟨q3_55, q1_1, by decide, by decide, by decide +kernel⟩, q3_53, q3_54⟩
set_option maxHeartbeats 4000000 in
set_option maxRecDepth 100000 in
theorem c_X2_run (l : Launch) (G : zG) (σ : St) (a : Nat → Nat) (hd : inj a (cL σ)) (n : Int) (hn : 1 ≤ n ∧ n ≤ 200) (hg : σ.tk + n ≤ 99999) : Met l yX2_run (wq yX2_run cX2_run 4 ((Option.some Jvm.ClassFile.FieldType.int))) (rmM 3 73 0 0) (va_Pc [.ref (a 0), .int (zI (n))] (zK G (hCyc G σ a))) (zM (cA σ a) (some (.int ((zI (runC σ n))))) (fun H => hCyc G (σ.wO (σ.tk + n) σ.lim σ.rf) a H)) 0 0 (cA σ a) := by
  refine z_enterMI (by decide +kernel) (Nat.le_of_ble_eq_true rfl) ?_
  intro p env s m below meth cod Q S hG hP hS ret ls hl
  have hl : lv_has ls 4 [(0, .ref (a 0)), (1, .int (zI (n)))] := hl
  have hC := hP.2.2.2.2.2
  have hT := hC.1
  have hdt := hC.2.1
  have hlm := hC.2.2.1
  have hkn := hC.2.2.2.1
  have hD := hC.2.2.2.2.1
  have hB := hC.2.2.2.2.2
  refine z_iload_n S dX2_run_0 hl 1 rfl rfl ?_
  refine z_callSs S hG (c_X2_isTickCount l G (n) (by omega)) ok_X2_isTickCount q3_56 (trivial) ⟨rfl, rfl, by decide, by decide⟩ ⟨Nat.zero_le _, Nat.zero_le _⟩ rfl (Nat.le_of_ble_eq_true rfl) hl.1 rfl dX2_run_1 ?_
  refine z_bif_ne S 17 dX2_run_4 (by decide) (fun q => ?_) (fun q => ?_)
  rotate_left
  · exact absurd q (by rw [(show (decide (1 ≤ n) && decide (n ≤ 200)) = true from by simp; omega)]; decide)
  refine z_aload_n S dX2_run_17 hl 0 rfl rfl ?_
  refine z_get S hG hP.1 zc_X2 5 (by decide) q1_65 rfl rfl dX2_run_18 ?_
  refine z_iload_n S dX2_run_21 hl 1 rfl rfl ?_
  refine z_iadd S dX2_run_22 ?_
  refine z_ldc S (99999) q3_60 rfl dX2_run_23 ?_
  refine z_icmp_le_T S 38 dX2_run_25 (by decide) (by omega) (by omega) (by omega) ?_
  refine z_iconst S dX2_run_38 ?_
  refine z_istore_n (lv' := [(2, .int (zI (0))), (0, .ref (a 0)), (1, .int (zI (n)))]) S dX2_run_39 hl rfl (by decide) rfl (fun ls hl => ?_)
  refine z_iconst S dX2_run_40 ?_
  refine z_istore_n (lv' := [(3, .int (zI (0))), (2, .int (zI (0))), (0, .ref (a 0)), (1, .int (zI (n)))]) S dX2_run_41 hl rfl (by decide) rfl (fun ls hl => ?_)
  have loop_42 : ∀ (nn : Nat) (k : Int) (sm : Int), (0 ≤ k ∧ k ≤ 16) → (sm = sumI (runB σ n) k) → ((16 - k).toNat) < nn → ∀ ls, lv_has ls 4 [(3, .int (zI (k))), (2, .int (zI (sm))), (0, .ref (a 0)), (1, .int (zI (n)))] → W p l env (rmM 3 73 0 0) s m ([.ref (a 0), .int (zI (n))] : List Value).toArray below meth cod s.heap [] 0 0 Q (F0 m 42 ls []) := by
    intro nn
    induction nn with
    | zero => intro _ _ _ _ h; exact absurd h (Nat.not_lt_zero _)
    | succ nn ih_42 =>
      intro k sm hk hsm hm_42 ls hl
      refine z_iload_n S dX2_run_42 hl 0 rfl rfl ?_
      refine z_bipush S dX2_run_43 rfl ?_
      refine z_icmp_ge S 86 dX2_run_45 (by decide) (by omega) (by omega) (fun c_45 => ?_) (fun c_45 => ?_)
      · skip
        refine z_aload_n S dX2_run_86 hl 2 rfl rfl ?_
        refine z_dup S dX2_run_87 rfl ?_
        refine z_get S hG hP.1 zc_X2 5 (by decide) q1_65 rfl rfl dX2_run_88 ?_
        refine z_iload_n S dX2_run_91 hl 3 rfl rfl ?_
        refine z_iadd S dX2_run_92 ?_
        refine z_put S hG hP.1 zc_X2 _ (zty_X2) (znm_X2) hS (⟨0, cL_s (by decide), rfl⟩) 5 (by decide) q1_65 rfl rfl rfl rfl rfl (Nat.le_of_ble_eq_true rfl) dX2_run_93 (fun H_1 L_1 hat hz oq hS => ?_)
        have hP : hCyc G (σ.wO ((σ.tk) + (n)) (σ.lim) (σ.rf)) a H_1 := hCyc_o hP hd ((σ.tk) + (n)) (σ.lim) (σ.rf) hat oq (okC_o hC (by omega) (by omega))
        refine z_iload_n S dX2_run_96 hl 1 rfl rfl ?_
        exact ret _ _ _ _ _ _ _ dX2_run_97 (by rw [hsm, show k = 16 by omega]; rfl) hS (by exact hP) (Nat.le_of_ble_eq_true rfl) (Nat.le_of_ble_eq_true rfl)
      · skip
        have hub := usz_b σ k
        refine z_aload_n S dX2_run_48 hl 2 rfl rfl ?_
        refine z_get S hG hP.1 zc_X2 2 (by decide) q1_62 rfl rfl dX2_run_49 ?_
        refine z_iload_n S dX2_run_52 hl 0 rfl rfl ?_
        refine z_ialdB S hG hP.2.2.1 (by omega) (by decide) dX2_run_53 ?_
        refine z_if_le S 80 dX2_run_54 (by decide) (by omega) (fun c_54 => ?_) (fun c_54 => ?_)
        · skip
          refine z_iinc (lv' := [(3, .int (zI (k + 1))), (2, .int (zI (sm))), (0, .ref (a 0)), (1, .int (zI (n)))]) S dX2_run_80 hl 0 rfl (by decide) rfl (fun ls hl => ?_)
          refine z_goto S 42 dX2_run_83 (by decide) ?_
          exact ih_42 (k + 1) (sm) (by omega) (by rw [sumI_s hk.1, ← hsm]; unfold runB; rw [if_neg (by omega)]; omega) (by omega) ls (lv_sub hl [0, 1, 2, 3] rfl)
        · skip
          refine z_iload_n S dX2_run_57 hl 1 rfl rfl ?_
          refine z_aload_n S dX2_run_58 hl 2 rfl rfl ?_
          refine z_get S hG hP.1 zc_X2 2 (by decide) q1_62 rfl rfl dX2_run_59 ?_
          refine z_iload_n S dX2_run_62 hl 0 rfl rfl ?_
          refine z_ialdB S hG hP.2.2.1 (by omega) (by decide) dX2_run_63 ?_
          refine z_aload_n S dX2_run_64 hl 2 rfl rfl ?_
          refine z_get S hG hP.1 zc_X2 0 (by decide) q1_60 rfl rfl dX2_run_65 ?_
          refine z_iload_n S dX2_run_68 hl 0 rfl rfl ?_
          refine z_aload_n S dX2_run_69 hl 2 rfl rfl ?_
          refine z_get S hG hP.1 zc_X2 5 (by decide) q1_65 rfl rfl dX2_run_70 ?_
          refine z_iload_n S dX2_run_73 hl 3 rfl rfl ?_
          refine z_callVs S hG (c_X0_changes l G σ a (k) (σ.tk) (n) (by omega) (by omega) (by omega)) ok_X0_changes hP.2.2.2.2.1.1 zc_X0 rfl q2_2 (hP.2.2.2.2.1) ⟨rfl, rfl, by decide, by decide⟩ ⟨Nat.zero_le _, Nat.zero_le _⟩ rfl (Nat.le_of_ble_eq_true rfl) hl.1 rfl dX2_run_74 ?_
          refine z_imul S dX2_run_77 ?_
          refine z_iadd S dX2_run_78 ?_
          refine z_istore_n (lv' := [(2, .int (zI ((sm) + ((usz σ (k)) * (chg σ (k) (σ.tk) (n)))))), (3, .int (zI (k))), (0, .ref (a 0)), (1, .int (zI (n)))]) S dX2_run_79 hl rfl (by decide) rfl (fun ls hl => ?_)
          refine z_iinc (lv' := [(3, .int (zI (k + 1))), (2, .int (zI ((sm) + ((usz σ (k)) * (chg σ (k) (σ.tk) (n)))))), (0, .ref (a 0)), (1, .int (zI (n)))]) S dX2_run_80 hl 1 rfl (by decide) rfl (fun ls hl => ?_)
          refine z_goto S 42 dX2_run_83 (by decide) ?_
          exact ih_42 (k + 1) ((sm) + ((usz σ (k)) * (chg σ (k) (σ.tk) (n)))) (by omega) (by rw [sumI_s hk.1, ← hsm]; unfold runB; rw [if_pos (by omega)]) (by omega) ls (lv_sub hl [0, 1, 2, 3] rfl)
  exact loop_42 _ (0) (0) (by omega) (rfl) (Nat.lt_succ_self _) ls (lv_sub hl [0, 1, 2, 3] rfl)
theorem dX2_limit_0 : decode cX2_limit 0 = .ok (.iload_n 1, 1) := by decide +kernel
theorem dX2_limit_1 : decode cX2_limit 1 = .ok (.ifCond .lt 9, 3) := by decide +kernel
theorem dX2_limit_4 : decode cX2_limit 4 = .ok (.iload_n 1, 1) := by decide +kernel
theorem dX2_limit_5 : decode cX2_limit 5 = .ok (.bipush 32, 2) := by decide +kernel
theorem dX2_limit_7 : decode cX2_limit 7 = .ok (.if_icmp .le 13, 3) := by decide +kernel
theorem dX2_limit_10 : decode cX2_limit 10 = .ok (.new 53, 3) := by decide +kernel
theorem dX2_limit_13 : decode cX2_limit 13 = .ok (.dup, 1) := by decide +kernel
theorem dX2_limit_14 : decode cX2_limit 14 = .ok (.ldc 150, 2) := by decide +kernel
theorem dX2_limit_16 : decode cX2_limit 16 = .ok (.invokespecial 57, 3) := by decide +kernel
theorem dX2_limit_19 : decode cX2_limit 19 = .ok (.athrow, 1) := by decide +kernel
theorem dX2_limit_20 : decode cX2_limit 20 = .ok (.aload_n 0, 1) := by decide +kernel
theorem dX2_limit_21 : decode cX2_limit 21 = .ok (.iload_n 1, 1) := by decide +kernel
theorem dX2_limit_22 : decode cX2_limit 22 = .ok (.putfield 33, 3) := by decide +kernel
theorem dX2_limit_25 : decode cX2_limit 25 = .ok (.aload_n 0, 1) := by decide +kernel
theorem dX2_limit_26 : decode cX2_limit 26 = .ok (.invokevirtual 152, 3) := by decide +kernel
theorem dX2_limit_29 : decode cX2_limit 29 = .ok (.ireturn, 1) := by decide +kernel
theorem q3_87 : (Jvm.Cond.code ({ cls := "Cyclepaint", name := "limit", desc := "(I)Z" } : Jvm.MethodName) prog_1_method_11_code (2 : Nat) (Option.some Jvm.ClassFile.FieldType.boolean)) ∈ lw_g := zg_of (zin3 (List.mem_of_getElem? (i := 87) rfl)) rfl
theorem q3_85 : (Jvm.Cond.instanceMethod ({ cls := "Cyclepaint", name := "limit", desc := "(I)Z" } : Jvm.MethodName)) ∈ lw_g := zg_of (zin3 (List.mem_of_getElem? (i := 85) rfl)) rfl
theorem q3_86 : (Jvm.Cond.selects "Cyclepaint" ({ cls := "Cyclepaint", name := "limit", desc := "(I)Z" } : Jvm.MethodName) ({ cls := "Cyclepaint", name := "limit", desc := "(I)Z" } : Jvm.MethodName)) ∈ lw_g := zg_of (zin3 (List.mem_of_getElem? (i := 86) rfl)) rfl
theorem ok_X2_limit : zOV yX2_limit cX2_limit 2 ((Option.some Jvm.ClassFile.FieldType.boolean)) 1 := ⟨⟨q3_87, q1_1, by decide, by decide, by decide +kernel⟩, q3_85, q3_86⟩
set_option maxHeartbeats 4000000 in
set_option maxRecDepth 100000 in
theorem c_X2_limit (l : Launch) (G : zG) (σ : St) (a : Nat → Nat) (hd : inj a (cL σ)) (x : Int) (hx : 0 ≤ x ∧ x ≤ 32) : Met l yX2_limit (wq yX2_limit cX2_limit 2 ((Option.some Jvm.ClassFile.FieldType.boolean))) (rmM 5 115 0 0) (va_Pc [.ref (a 0), .int (zI (x))] (zK G (hCyc G σ a))) (zM (cA σ a) (some (.int (bI (decide (x < flC σ))))) (fun H => hCyc G (σ.wO σ.tk x σ.rf) a H)) 0 0 (cA σ a) := by
  refine z_enterMB (by decide +kernel) (Nat.le_of_ble_eq_true rfl) ?_
  intro p env s m below meth cod Q S hG hP hS ret ls hl
  have hl : lv_has ls 2 [(0, .ref (a 0)), (1, .int (zI (x)))] := hl
  have hC := hP.2.2.2.2.2
  have hT := hC.1
  have hdt := hC.2.1
  have hlm := hC.2.2.1
  have hkn := hC.2.2.2.1
  have hD := hC.2.2.2.2.1
  have hB := hC.2.2.2.2.2
  refine z_iload_n S dX2_limit_0 hl 1 rfl rfl ?_
  refine z_if_lt_F S 10 dX2_limit_1 (by decide) (by omega) (by omega) ?_
  refine z_iload_n S dX2_limit_4 hl 1 rfl rfl ?_
  refine z_bipush S dX2_limit_5 rfl ?_
  refine z_icmp_le_T S 20 dX2_limit_7 (by decide) (by omega) (by omega) (by omega) ?_
  refine z_aload_n S dX2_limit_20 hl 0 rfl rfl ?_
  refine z_iload_n S dX2_limit_21 hl 1 rfl rfl ?_
  refine z_put S hG hP.1 zc_X2 _ (zty_X2) (znm_X2) hS (⟨0, cL_s (by decide), rfl⟩) 6 (by decide) q1_66 rfl rfl rfl rfl rfl (Nat.le_of_ble_eq_true rfl) dX2_limit_22 (fun H_1 L_1 hat hz oq hS => ?_)
  have hP : hCyc G (σ.wO (σ.tk) (x) (σ.rf)) a H_1 := hCyc_o hP hd (σ.tk) (x) (σ.rf) hat oq (okC_o hC (by omega) (by omega))
  refine z_aload_n S dX2_limit_25 hl 0 rfl rfl ?_
  refine z_callVs S hG (c_X2_isBarred l G (σ.wO (σ.tk) (x) (σ.rf)) a) ok_X2_isBarred hP.1 zc_X2 rfl q2_6 (hP) ⟨rfl, rfl, by decide, by decide⟩ ⟨Nat.zero_le _, Nat.zero_le _⟩ rfl (Nat.le_of_ble_eq_true rfl) hl.1 rfl dX2_limit_26 ?_
  exact ret _ _ _ _ _ _ _ dX2_limit_29 (rfl) hS (by exact hP) (Nat.le_of_ble_eq_true rfl) (Nat.le_of_ble_eq_true rfl)
theorem dX0_tellBase_0 : decode cX0_tellBase 0 = .ok (.iload_n 1, 1) := by decide +kernel
theorem dX0_tellBase_1 : decode cX0_tellBase 1 = .ok (.ifCond .lt 19, 3) := by decide +kernel
theorem dX0_tellBase_4 : decode cX0_tellBase 4 = .ok (.iload_n 1, 1) := by decide +kernel
theorem dX0_tellBase_5 : decode cX0_tellBase 5 = .ok (.aload_n 0, 1) := by decide +kernel
theorem dX0_tellBase_6 : decode cX0_tellBase 6 = .ok (.getfield 9, 3) := by decide +kernel
theorem dX0_tellBase_9 : decode cX0_tellBase 9 = .ok (.arraylength, 1) := by decide +kernel
theorem dX0_tellBase_10 : decode cX0_tellBase 10 = .ok (.if_icmp .ge 10, 3) := by decide +kernel
theorem dX0_tellBase_13 : decode cX0_tellBase 13 = .ok (.aload_n 0, 1) := by decide +kernel
theorem dX0_tellBase_14 : decode cX0_tellBase 14 = .ok (.getfield 9, 3) := by decide +kernel
theorem dX0_tellBase_17 : decode cX0_tellBase 17 = .ok (.iload_n 1, 1) := by decide +kernel
theorem dX0_tellBase_18 : decode cX0_tellBase 18 = .ok (.iload_n 2, 1) := by decide +kernel
theorem dX0_tellBase_19 : decode cX0_tellBase 19 = .ok (.iastore, 1) := by decide +kernel
theorem dX0_tellBase_20 : decode cX0_tellBase 20 = .ok (.return_, 1) := by decide +kernel
theorem q2_185 : (Jvm.Cond.code ({ cls := "Cyclepaint$Palette", name := "tellBase", desc := "(II)V" } : Jvm.MethodName) prog_2_method_6_code (3 : Nat) (Option.none : Option Jvm.ClassFile.FieldType)) ∈ lw_g := zg_of (zin2 (List.mem_of_getElem? (i := 185) rfl)) rfl
theorem q2_183 : (Jvm.Cond.instanceMethod ({ cls := "Cyclepaint$Palette", name := "tellBase", desc := "(II)V" } : Jvm.MethodName)) ∈ lw_g := zg_of (zin2 (List.mem_of_getElem? (i := 183) rfl)) rfl
theorem q2_184 : (Jvm.Cond.selects "Cyclepaint$Palette" ({ cls := "Cyclepaint$Palette", name := "tellBase", desc := "(II)V" } : Jvm.MethodName) ({ cls := "Cyclepaint$Palette", name := "tellBase", desc := "(II)V" } : Jvm.MethodName)) ∈ lw_g := zg_of (zin2 (List.mem_of_getElem? (i := 184) rfl)) rfl
theorem ok_X0_tellBase : zOV yX0_tellBase cX0_tellBase 3 ((Option.none : Option Jvm.ClassFile.FieldType)) 2 := ⟨⟨q2_185, q1_2, by decide, by decide, by decide +kernel⟩, q2_183, q2_184⟩
set_option maxHeartbeats 4000000 in
set_option maxRecDepth 100000 in
theorem c_X0_tellBase (l : Launch) (G : zG) (σ : St) (a : Nat → Nat) (hd : inj a (cL σ)) (e x : Int) (he : 0 ≤ e ∧ e < 16) : Met l yX0_tellBase (wq yX0_tellBase cX0_tellBase 3 ((Option.none : Option Jvm.ClassFile.FieldType))) (rmM 0 0 0 0) (va_Pc [.ref (a 1), .int (zI (e)), .int (zI (x))] (zK G (hPal G σ a))) (zM (fun q => q = a 2) none (fun H => hPal G (σ.wB (up σ.B e (zI x))) a H)) 0 0 (fun q => q = a 2) := by
  refine z_enterMV (by decide +kernel) (Nat.le_of_ble_eq_true rfl) ?_
  intro p env s m below meth cod Q S hnm hG hP hS ret ls hl
  have hl : lv_has ls 3 [(0, .ref (a 1)), (1, .int (zI (e))), (2, .int (zI (x)))] := hl
  refine z_iload_n S dX0_tellBase_0 hl 1 rfl rfl ?_
  refine z_if_lt_F S 20 dX0_tellBase_1 (by decide) (by omega) (by omega) ?_
  refine z_iload_n S dX0_tellBase_4 hl 1 rfl rfl ?_
  refine z_aload_n S dX0_tellBase_5 hl 0 rfl rfl ?_
  refine z_get S hG hP.1 zc_X0 0 (by decide) q1_46 rfl rfl dX0_tellBase_6 ?_
  refine z_alenI S hG hP.2.1 dX0_tellBase_9 ?_
  refine z_icmp_ge_F S 20 dX0_tellBase_10 (by decide) (by omega) (by omega) (by omega) ?_
  refine z_aload_n S dX0_tellBase_13 hl 0 rfl rfl ?_
  refine z_get S hG hP.1 zc_X0 0 (by decide) q1_46 rfl rfl dX0_tellBase_14 ?_
  refine z_iload_n S dX0_tellBase_17 hl 1 rfl rfl ?_
  refine z_iload_n S dX0_tellBase_18 hl 2 rfl rfl ?_
  refine z_iast S hG hP.2.1 hS (rfl) (i := e) (x := (zI (x))) (by omega) (by decide) dX0_tellBase_19 (fun H_1 L_1 hat hz oq hS => ?_)
  have hP : hPal G (σ.wB (up σ.B e (zI x))) a H_1 := hPal_B hP hd _ hat oq
  exact ret _ _ _ _ _ _ dX0_tellBase_20 hS (hP) (Nat.le_of_ble_eq_true rfl) (Nat.le_of_ble_eq_true rfl)
theorem dX2_colour_0 : decode cX2_colour 0 = .ok (.iload_n 1, 1) := by decide +kernel
theorem dX2_colour_1 : decode cX2_colour 1 = .ok (.invokestatic 39, 3) := by decide +kernel
theorem dX2_colour_4 : decode cX2_colour 4 = .ok (.ifCond .ne 13, 3) := by decide +kernel
theorem dX2_colour_7 : decode cX2_colour 7 = .ok (.new 43, 3) := by decide +kernel
theorem dX2_colour_10 : decode cX2_colour 10 = .ok (.dup, 1) := by decide +kernel
theorem dX2_colour_11 : decode cX2_colour 11 = .ok (.ldc 45, 2) := by decide +kernel
theorem dX2_colour_13 : decode cX2_colour 13 = .ok (.invokespecial 47, 3) := by decide +kernel
theorem dX2_colour_16 : decode cX2_colour 16 = .ok (.athrow, 1) := by decide +kernel
theorem dX2_colour_17 : decode cX2_colour 17 = .ok (.iload_n 2, 1) := by decide +kernel
theorem dX2_colour_18 : decode cX2_colour 18 = .ok (.invokestatic 50, 3) := by decide +kernel
theorem dX2_colour_21 : decode cX2_colour 21 = .ok (.ifCond .ne 13, 3) := by decide +kernel
theorem dX2_colour_24 : decode cX2_colour 24 = .ok (.new 53, 3) := by decide +kernel
theorem dX2_colour_27 : decode cX2_colour 27 = .ok (.dup, 1) := by decide +kernel
theorem dX2_colour_28 : decode cX2_colour 28 = .ok (.ldc 55, 2) := by decide +kernel
theorem dX2_colour_30 : decode cX2_colour 30 = .ok (.invokespecial 57, 3) := by decide +kernel
theorem dX2_colour_33 : decode cX2_colour 33 = .ok (.athrow, 1) := by decide +kernel
theorem dX2_colour_34 : decode cX2_colour 34 = .ok (.aload_n 0, 1) := by decide +kernel
theorem dX2_colour_35 : decode cX2_colour 35 = .ok (.getfield 12, 3) := by decide +kernel
theorem dX2_colour_38 : decode cX2_colour 38 = .ok (.iload_n 1, 1) := by decide +kernel
theorem dX2_colour_39 : decode cX2_colour 39 = .ok (.invokevirtual 58, 3) := by decide +kernel
theorem dX2_colour_42 : decode cX2_colour 42 = .ok (.istore_n 3, 1) := by decide +kernel
theorem dX2_colour_43 : decode cX2_colour 43 = .ok (.aload_n 0, 1) := by decide +kernel
theorem dX2_colour_44 : decode cX2_colour 44 = .ok (.getfield 12, 3) := by decide +kernel
theorem dX2_colour_47 : decode cX2_colour 47 = .ok (.iload_n 1, 1) := by decide +kernel
theorem dX2_colour_48 : decode cX2_colour 48 = .ok (.iload_n 2, 1) := by decide +kernel
theorem dX2_colour_49 : decode cX2_colour 49 = .ok (.invokevirtual 62, 3) := by decide +kernel
theorem dX2_colour_52 : decode cX2_colour 52 = .ok (.iload_n 3, 1) := by decide +kernel
theorem dX2_colour_53 : decode cX2_colour 53 = .ok (.ireturn, 1) := by decide +kernel
theorem q2_182 : (Jvm.Cond.methodLink "Cyclepaint" (62 : Nat) ({ cls := "Cyclepaint$Palette", name := "tellBase", desc := "(II)V" } : Jvm.MethodName)) ∈ lw_g := zg_of (zin2 (List.mem_of_getElem? (i := 182) rfl)) rfl
theorem q2_94 : (Jvm.Cond.code ({ cls := "Cyclepaint", name := "colour", desc := "(II)I" } : Jvm.MethodName) prog_1_method_2_code (4 : Nat) (Option.some Jvm.ClassFile.FieldType.int)) ∈ lw_g := zg_of (zin2 (List.mem_of_getElem? (i := 94) rfl)) rfl
theorem q2_92 : (Jvm.Cond.instanceMethod ({ cls := "Cyclepaint", name := "colour", desc := "(II)I" } : Jvm.MethodName)) ∈ lw_g := zg_of (zin2 (List.mem_of_getElem? (i := 92) rfl)) rfl
theorem q2_93 : (Jvm.Cond.selects "Cyclepaint" ({ cls := "Cyclepaint", name := "colour", desc := "(II)I" } : Jvm.MethodName) ({ cls := "Cyclepaint", name := "colour", desc := "(II)I" } : Jvm.MethodName)) ∈ lw_g := zg_of (zin2 (List.mem_of_getElem? (i := 93) rfl)) rfl
theorem ok_X2_colour : zOV yX2_colour cX2_colour 4 ((Option.some Jvm.ClassFile.FieldType.int)) 2 := ⟨⟨q2_94, q1_1, by decide, by decide, by decide +kernel⟩, q2_92, q2_93⟩
set_option maxHeartbeats 4000000 in
set_option maxRecDepth 100000 in
theorem c_X2_colour (l : Launch) (G : zG) (σ : St) (a : Nat → Nat) (hd : inj a (cL σ)) (e x : Int) (he : 0 ≤ e ∧ e ≤ 15) (hx : 0 ≤ x ∧ x ≤ 63) : Met l yX2_colour (wq yX2_colour cX2_colour 4 ((Option.some Jvm.ClassFile.FieldType.int))) (rmM 1 22 0 0) (va_Pc [.ref (a 0), .int (zI (e)), .int (zI (x))] (zK G (hCyc G σ a))) (zM (cA σ a) (some (.int ((σ.B e)))) (fun H => hCyc G (σ.wB (up σ.B e (zI x))) a H)) 0 0 (cA σ a) := by
  refine z_enterMI (by decide +kernel) (Nat.le_of_ble_eq_true rfl) ?_
  intro p env s m below meth cod Q S hG hP hS ret ls hl
  have hl : lv_has ls 4 [(0, .ref (a 0)), (1, .int (zI (e))), (2, .int (zI (x)))] := hl
  have hC := hP.2.2.2.2.2
  have hT := hC.1
  have hdt := hC.2.1
  have hlm := hC.2.2.1
  have hkn := hC.2.2.2.1
  have hD := hC.2.2.2.2.1
  have hB := hC.2.2.2.2.2
  refine z_iload_n S dX2_colour_0 hl 1 rfl rfl ?_
  refine z_callSs S hG (c_X2_isEntry l G (e) (by omega)) ok_X2_isEntry q1_137 (trivial) ⟨rfl, rfl, by decide, by decide⟩ ⟨Nat.zero_le _, Nat.zero_le _⟩ rfl (Nat.le_of_ble_eq_true rfl) hl.1 rfl dX2_colour_1 ?_
  refine z_bif_ne S 17 dX2_colour_4 (by decide) (fun q => ?_) (fun q => ?_)
  rotate_left
  · exact absurd q (by rw [(show (decide (0 ≤ e) && decide (e < 16)) = true from by simp; omega)]; decide)
  refine z_iload_n S dX2_colour_17 hl 2 rfl rfl ?_
  refine z_callSs S hG (c_X2_isColour l G (x) (by omega)) ok_X2_isColour q2_163 (trivial) ⟨rfl, rfl, by decide, by decide⟩ ⟨Nat.zero_le _, Nat.zero_le _⟩ rfl (Nat.le_of_ble_eq_true rfl) hl.1 rfl dX2_colour_18 ?_
  refine z_bif_ne S 34 dX2_colour_21 (by decide) (fun q => ?_) (fun q => ?_)
  rotate_left
  · exact absurd q (by rw [(show (decide (0 ≤ x) && decide (x < 64)) = true from by simp; omega)]; decide)
  refine z_aload_n S dX2_colour_34 hl 0 rfl rfl ?_
  refine z_get S hG hP.1 zc_X2 0 (by decide) q1_60 rfl rfl dX2_colour_35 ?_
  refine z_iload_n S dX2_colour_38 hl 1 rfl rfl ?_
  refine z_callVs S hG (c_X0_baseOf l G σ a (e) (by omega)) ok_X0_baseOf hP.2.2.2.2.1.1 zc_X0 rfl q2_28 (hP.2.2.2.2.1) ⟨rfl, rfl, by decide, by decide⟩ ⟨Nat.zero_le _, Nat.zero_le _⟩ rfl (Nat.le_of_ble_eq_true rfl) hl.1 rfl dX2_colour_39 ?_
  refine z_istore_n (lv' := [(3, .int (σ.B (e))), (0, .ref (a 0)), (1, .int (zI (e))), (2, .int (zI (x)))]) S dX2_colour_42 hl rfl (by decide) rfl (fun ls hl => ?_)
  refine z_aload_n S dX2_colour_43 hl 1 rfl rfl ?_
  refine z_get S hG hP.1 zc_X2 0 (by decide) q1_60 rfl rfl dX2_colour_44 ?_
  refine z_iload_n S dX2_colour_47 hl 2 rfl rfl ?_
  refine z_iload_n S dX2_colour_48 hl 3 rfl rfl ?_
  refine z_callM S hG hS (c_X0_tellBase l G σ a hd e x (by omega)) (fun q h => ⟨2, cL_s (by decide), h⟩) ok_X0_tellBase hP.2.2.2.2.1.1 zc_X0 rfl q2_182 (hP.2.2.2.2.1) ⟨rfl, rfl, by decide, by decide⟩ ⟨Nat.le_of_ble_eq_true rfl, Nat.le_of_ble_eq_true rfl⟩ rfl (Nat.le_of_ble_eq_true rfl) hl.1 rfl dX2_colour_49 (fun H_1 L_1 hB hz oq hS => ?_)
  have hP : hCyc G (σ.wB (up σ.B e (zI x))) a H_1 := hCyc_P hP hB (fun i hi => oq _ (hCyc_lt hP (cL_s (by omega))) (fun z => by have := hd i 2 (cL_s (by omega)) (cL_s (by decide)) z; omega)) ⟨rfl, rfl, rfl, rfl, rfl, rfl⟩ rfl (okC_B hC (by omega))
  refine z_iload_n S dX2_colour_52 hl 0 rfl rfl ?_
  exact ret _ _ _ _ _ _ _ dX2_colour_53 (rfl) hS (by exact hP) (Nat.le_of_ble_eq_true rfl) (Nat.le_of_ble_eq_true rfl)
theorem dX2_giveEntry_0 : decode cX2_giveEntry 0 = .ok (.aload_n 0, 1) := by decide +kernel
theorem dX2_giveEntry_1 : decode cX2_giveEntry 1 = .ok (.iload_n 1, 1) := by decide +kernel
theorem dX2_giveEntry_2 : decode cX2_giveEntry 2 = .ok (.invokevirtual 256, 3) := by decide +kernel
theorem dX2_giveEntry_5 : decode cX2_giveEntry 5 = .ok (.istore_n 3, 1) := by decide +kernel
theorem dX2_giveEntry_6 : decode cX2_giveEntry 6 = .ok (.iload_n 3, 1) := by decide +kernel
theorem dX2_giveEntry_7 : decode cX2_giveEntry 7 = .ok (.invokestatic 39, 3) := by decide +kernel
theorem dX2_giveEntry_10 : decode cX2_giveEntry 10 = .ok (.ifCond .eq 15, 3) := by decide +kernel
theorem dX2_giveEntry_13 : decode cX2_giveEntry 13 = .ok (.iload_n 2, 1) := by decide +kernel
theorem dX2_giveEntry_14 : decode cX2_giveEntry 14 = .ok (.invokestatic 39, 3) := by decide +kernel
theorem dX2_giveEntry_17 : decode cX2_giveEntry 17 = .ok (.ifCond .eq 8, 3) := by decide +kernel
theorem dX2_giveEntry_20 : decode cX2_giveEntry 20 = .ok (.iload_n 3, 1) := by decide +kernel
theorem dX2_giveEntry_21 : decode cX2_giveEntry 21 = .ok (.iload_n 2, 1) := by decide +kernel
theorem dX2_giveEntry_22 : decode cX2_giveEntry 22 = .ok (.if_icmp .ne 5, 3) := by decide +kernel
theorem dX2_giveEntry_25 : decode cX2_giveEntry 25 = .ok (.iconst 0, 1) := by decide +kernel
theorem dX2_giveEntry_26 : decode cX2_giveEntry 26 = .ok (.ireturn, 1) := by decide +kernel
theorem dX2_giveEntry_27 : decode cX2_giveEntry 27 = .ok (.aload_n 0, 1) := by decide +kernel
theorem dX2_giveEntry_28 : decode cX2_giveEntry 28 = .ok (.getfield 16, 3) := by decide +kernel
theorem dX2_giveEntry_31 : decode cX2_giveEntry 31 = .ok (.iload_n 1, 1) := by decide +kernel
theorem dX2_giveEntry_32 : decode cX2_giveEntry 32 = .ok (.iload_n 2, 1) := by decide +kernel
theorem dX2_giveEntry_33 : decode cX2_giveEntry 33 = .ok (.iastore, 1) := by decide +kernel
theorem dX2_giveEntry_34 : decode cX2_giveEntry 34 = .ok (.aload_n 0, 1) := by decide +kernel
theorem dX2_giveEntry_35 : decode cX2_giveEntry 35 = .ok (.getfield 20, 3) := by decide +kernel
theorem dX2_giveEntry_38 : decode cX2_giveEntry 38 = .ok (.iload_n 3, 1) := by decide +kernel
theorem dX2_giveEntry_39 : decode cX2_giveEntry 39 = .ok (.dup2, 1) := by decide +kernel
theorem dX2_giveEntry_40 : decode cX2_giveEntry 40 = .ok (.iaload, 1) := by decide +kernel
theorem dX2_giveEntry_41 : decode cX2_giveEntry 41 = .ok (.iconst 1, 1) := by decide +kernel
theorem dX2_giveEntry_42 : decode cX2_giveEntry 42 = .ok (.isub, 1) := by decide +kernel
theorem dX2_giveEntry_43 : decode cX2_giveEntry 43 = .ok (.iastore, 1) := by decide +kernel
theorem dX2_giveEntry_44 : decode cX2_giveEntry 44 = .ok (.aload_n 0, 1) := by decide +kernel
theorem dX2_giveEntry_45 : decode cX2_giveEntry 45 = .ok (.getfield 20, 3) := by decide +kernel
theorem dX2_giveEntry_48 : decode cX2_giveEntry 48 = .ok (.iload_n 2, 1) := by decide +kernel
theorem dX2_giveEntry_49 : decode cX2_giveEntry 49 = .ok (.dup2, 1) := by decide +kernel
theorem dX2_giveEntry_50 : decode cX2_giveEntry 50 = .ok (.iaload, 1) := by decide +kernel
theorem dX2_giveEntry_51 : decode cX2_giveEntry 51 = .ok (.iconst 1, 1) := by decide +kernel
theorem dX2_giveEntry_52 : decode cX2_giveEntry 52 = .ok (.iadd, 1) := by decide +kernel
theorem dX2_giveEntry_53 : decode cX2_giveEntry 53 = .ok (.iastore, 1) := by decide +kernel
theorem dX2_giveEntry_54 : decode cX2_giveEntry 54 = .ok (.iconst 1, 1) := by decide +kernel
theorem dX2_giveEntry_55 : decode cX2_giveEntry 55 = .ok (.ireturn, 1) := by decide +kernel
theorem q1_132 : (Jvm.Cond.code ({ cls := "Cyclepaint", name := "giveEntry", desc := "(II)Z" } : Jvm.MethodName) prog_1_method_37_code (4 : Nat) (Option.some Jvm.ClassFile.FieldType.boolean)) ∈ lw_g := zg_of (zin1 (List.mem_of_getElem? (i := 132) rfl)) rfl
theorem q1_131 : (Jvm.Cond.instanceMethod ({ cls := "Cyclepaint", name := "giveEntry", desc := "(II)Z" } : Jvm.MethodName)) ∈ lw_g := zg_of (zin1 (List.mem_of_getElem? (i := 131) rfl)) rfl
theorem qs_1 : Cond.selects "Cyclepaint" (⟨"Cyclepaint", "giveEntry", "(II)Z"⟩ : MethodName) (⟨"Cyclepaint", "giveEntry", "(II)Z"⟩ : MethodName) ∈ lw_g := zg_of (zinS (List.mem_of_getElem? (i := 1) rfl)) rfl
theorem ok_X2_giveEntry : zOV yX2_giveEntry cX2_giveEntry 4 ((Option.some Jvm.ClassFile.FieldType.boolean)) 2 := ⟨⟨q1_132, q1_1, by decide, by decide, by decide +kernel⟩, q1_131, qs_1⟩
set_option maxHeartbeats 4000000 in
set_option maxRecDepth 100000 in
theorem c_X2_giveEntry (l : Launch) (G : zG) (σ : St) (a : Nat → Nat) (hd : inj a (cL σ)) (d e : Int) (hd2 : 0 ≤ d ∧ d < 32) (he : 0 ≤ e ∧ e < 16) : Met l yX2_giveEntry (wq yX2_giveEntry cX2_giveEntry 4 ((Option.some Jvm.ClassFile.FieldType.boolean))) (rmM 1 21 0 0) (va_Pc [.ref (a 0), .int (zI (d)), .int (zI (e))] (zK G (hCyc G σ a))) (zM (cA σ a) (some (.int (bI (decide (¬ σ.Dt d = e))))) (fun H => hCyc G (σ.wD (up σ.Dt d e)) a H)) 0 0 (cA σ a) := by
  refine z_enterMB (by decide +kernel) (Nat.le_of_ble_eq_true rfl) ?_
  intro p env s m below meth cod Q S hG hP hS ret ls hl
  have hl : lv_has ls 4 [(0, .ref (a 0)), (1, .int (zI (d))), (2, .int (zI (e)))] := hl
  have hC := hP.2.2.2.2.2
  have hT := hC.1
  have hdt := hC.2.1
  have hlm := hC.2.2.1
  have hkn := hC.2.2.2.1
  have hD := hC.2.2.2.2.1
  have hB := hC.2.2.2.2.2
  have hdt0 := hdt d hd2.1 hd2.2
  have h0 := hP.1
  have hD0 := hP.2.1
  have hU := hP.2.2.1
  have n05 : a 0 ≠ a 5 := (fun z => absurd (hd 0 5 (cL_s (by decide)) (cL_s (by decide)) z) (by decide))
  have n06 : a 0 ≠ a 6 := (fun z => absurd (hd 0 6 (cL_s (by decide)) (cL_s (by decide)) z) (by decide))
  have n56 : a 5 ≠ a 6 := (fun z => absurd (hd 5 6 (cL_s (by decide)) (cL_s (by decide)) z) (by decide))
  refine z_aload_n S dX2_giveEntry_0 hl 0 rfl rfl ?_
  refine z_iload_n S dX2_giveEntry_1 hl 1 rfl rfl ?_
  refine z_callVs S hG (c_X2_entryOf l G σ a (d) (by omega)) ok_X2_entryOf h0 zc_X2 rfl q1_133 (hP) ⟨rfl, rfl, by decide, by decide⟩ ⟨Nat.zero_le _, Nat.zero_le _⟩ rfl (Nat.le_of_ble_eq_true rfl) hl.1 rfl dX2_giveEntry_2 ?_
  refine z_istore_n (lv' := [(3, .int (zI (σ.Dt (d)))), (0, .ref (a 0)), (1, .int (zI (d))), (2, .int (zI (e)))]) S dX2_giveEntry_5 hl rfl (by decide) rfl (fun ls hl => ?_)
  refine z_iload_n S dX2_giveEntry_6 hl 0 rfl rfl ?_
  refine z_callSs S hG (c_X2_isEntry l G (σ.Dt (d)) (by omega)) ok_X2_isEntry q1_137 (trivial) ⟨rfl, rfl, by decide, by decide⟩ ⟨Nat.zero_le _, Nat.zero_le _⟩ rfl (Nat.le_of_ble_eq_true rfl) hl.1 rfl dX2_giveEntry_7 ?_
  refine z_bif_eq S 25 dX2_giveEntry_10 (by decide) (fun q => ?_) (fun q => ?_)
  · exact absurd q (by rw [(show (decide (0 ≤ σ.Dt (d)) && decide (σ.Dt (d) < 16)) = true from by simp; omega)]; decide)
  refine z_iload_n S dX2_giveEntry_13 hl 3 rfl rfl ?_
  refine z_callSs S hG (c_X2_isEntry l G (e) (by omega)) ok_X2_isEntry q1_137 (trivial) ⟨rfl, rfl, by decide, by decide⟩ ⟨Nat.zero_le _, Nat.zero_le _⟩ rfl (Nat.le_of_ble_eq_true rfl) hl.1 rfl dX2_giveEntry_14 ?_
  refine z_bif_eq S 25 dX2_giveEntry_17 (by decide) (fun q => ?_) (fun q => ?_)
  · exact absurd q (by rw [(show (decide (0 ≤ e) && decide (e < 16)) = true from by simp; omega)]; decide)
  refine z_iload_n S dX2_giveEntry_20 hl 0 rfl rfl ?_
  refine z_iload_n S dX2_giveEntry_21 hl 3 rfl rfl ?_
  refine z_icmp_ne S 27 dX2_giveEntry_22 (by decide) (by omega) (by omega) (fun c_22 => ?_) (fun c_22 => ?_)
  · skip
    have hub := usz_b σ (σ.Dt d)
    refine z_aload_n S dX2_giveEntry_27 hl 1 rfl rfl ?_
    refine z_get S hG h0 zc_X2 1 (by decide) q1_61 rfl rfl dX2_giveEntry_28 ?_
    refine z_iload_n S dX2_giveEntry_31 hl 2 rfl rfl ?_
    refine z_iload_n S dX2_giveEntry_32 hl 3 rfl rfl ?_
    refine z_iastB S hG hD0 hS (⟨5, cL_s (by decide), rfl⟩) (i := d) (x := e) (by omega) (by decide) dX2_giveEntry_33 (fun H_1 L_1 hat hz oq hS => ?_)
    have hD0 := hat
    have hU := va_at.kept hU (oq _ (fun z => n56 z.symm))
    have h0 := va_at.kept h0 (oq _ n05)
    have o1 := oq
    refine z_aload_n S dX2_giveEntry_34 hl 1 rfl rfl ?_
    refine z_get S hG h0 zc_X2 2 (by decide) q1_62 rfl rfl dX2_giveEntry_35 ?_
    refine z_iload_n S dX2_giveEntry_38 hl 0 rfl rfl ?_
    refine lv_dup2_11 S.1 S.2.1 dX2_giveEntry_39 rfl rfl ?_
    refine z_ialdB S hG hU (by omega) (by decide) dX2_giveEntry_40 ?_
    refine z_iconst S dX2_giveEntry_41 ?_
    refine z_isub S dX2_giveEntry_42 ?_
    refine z_iastB S hG hU hS (⟨6, cL_s (by decide), rfl⟩) (i := σ.Dt (d)) (x := (usz σ (σ.Dt (d))) - (1)) (by omega) (by decide) dX2_giveEntry_43 (fun H_2 L_2 hat hz oq hS => ?_)
    have hU := hat
    have hD0 := va_at.kept hD0 (oq _ n56)
    have h0 := va_at.kept h0 (oq _ n06)
    have o2 := oq
    refine z_aload_n S dX2_giveEntry_44 hl 1 rfl rfl ?_
    refine z_get S hG h0 zc_X2 2 (by decide) q1_62 rfl rfl dX2_giveEntry_45 ?_
    refine z_iload_n S dX2_giveEntry_48 hl 3 rfl rfl ?_
    refine lv_dup2_11 S.1 S.2.1 dX2_giveEntry_49 rfl rfl ?_
    refine z_ialdB S hG hU (by omega) (by decide) dX2_giveEntry_50 ?_
    refine z_iconst S dX2_giveEntry_51 ?_
    refine z_iadd S dX2_giveEntry_52 ?_
    refine z_iastB S hG hU hS (⟨6, cL_s (by decide), rfl⟩) (i := e) (x := (up (usz σ) (σ.Dt d) (usz σ (σ.Dt d) - 1) (e)) + (1)) (by omega) (by decide) dX2_giveEntry_53 (fun H_3 L_3 hat hz oq hS => ?_)
    have hU := hat
    have hD0 := va_at.kept hD0 (oq _ n56)
    have h0 := va_at.kept h0 (oq _ n06)
    have o3 := oq
    refine z_iconst S dX2_giveEntry_54 ?_
    exact ret _ _ _ _ _ _ _ dX2_giveEntry_55 (by rw [show decide (¬ σ.Dt d = e) = true from by simpa using c_22]; rfl) hS (hCyc_D hP hd hd2 he (by simpa using c_22) hD0 hU (fun q q5 q6 => (o3 q q6).trans ((o2 q q6).trans (o1 q q5)))) (Nat.le_of_ble_eq_true rfl) (Nat.le_of_ble_eq_true rfl)
  · skip
    refine z_iconst S dX2_giveEntry_25 ?_
    exact ret _ _ _ _ _ _ _ dX2_giveEntry_26 (by rw [show decide (¬ σ.Dt d = e) = false from by simpa using c_22]; rfl) hS (by rw [up_self (by simpa using c_22)]; exact hP) (Nat.le_of_ble_eq_true rfl) (Nat.le_of_ble_eq_true rfl)
theorem dX2_merge_0 : decode cX2_merge 0 = .ok (.iconst 0, 1) := by decide +kernel
theorem dX2_merge_1 : decode cX2_merge 1 = .ok (.istore_n 1, 1) := by decide +kernel
theorem dX2_merge_2 : decode cX2_merge 2 = .ok (.iconst 0, 1) := by decide +kernel
theorem dX2_merge_3 : decode cX2_merge 3 = .ok (.istore_n 2, 1) := by decide +kernel
theorem dX2_merge_4 : decode cX2_merge 4 = .ok (.iload_n 2, 1) := by decide +kernel
theorem dX2_merge_5 : decode cX2_merge 5 = .ok (.bipush 32, 2) := by decide +kernel
theorem dX2_merge_7 : decode cX2_merge 7 = .ok (.if_icmp .ge 33, 3) := by decide +kernel
theorem dX2_merge_10 : decode cX2_merge 10 = .ok (.aload_n 0, 1) := by decide +kernel
theorem dX2_merge_11 : decode cX2_merge 11 = .ok (.iload_n 2, 1) := by decide +kernel
theorem dX2_merge_12 : decode cX2_merge 12 = .ok (.aload_n 0, 1) := by decide +kernel
theorem dX2_merge_13 : decode cX2_merge 13 = .ok (.getfield 12, 3) := by decide +kernel
theorem dX2_merge_16 : decode cX2_merge 16 = .ok (.aload_n 0, 1) := by decide +kernel
theorem dX2_merge_17 : decode cX2_merge 17 = .ok (.getfield 16, 3) := by decide +kernel
theorem dX2_merge_20 : decode cX2_merge 20 = .ok (.iload_n 2, 1) := by decide +kernel
theorem dX2_merge_21 : decode cX2_merge 21 = .ok (.iaload, 1) := by decide +kernel
theorem dX2_merge_22 : decode cX2_merge 22 = .ok (.invokevirtual 124, 3) := by decide +kernel
theorem dX2_merge_25 : decode cX2_merge 25 = .ok (.invokevirtual 74, 3) := by decide +kernel
theorem dX2_merge_28 : decode cX2_merge 28 = .ok (.ifCond .eq 6, 3) := by decide +kernel
theorem dX2_merge_31 : decode cX2_merge 31 = .ok (.iinc 1 1, 3) := by decide +kernel
theorem dX2_merge_34 : decode cX2_merge 34 = .ok (.iinc 2 1, 3) := by decide +kernel
theorem dX2_merge_37 : decode cX2_merge 37 = .ok (.goto (-33), 3) := by decide +kernel
theorem dX2_merge_40 : decode cX2_merge 40 = .ok (.iload_n 1, 1) := by decide +kernel
theorem dX2_merge_41 : decode cX2_merge 41 = .ok (.ireturn, 1) := by decide +kernel
theorem q1_129 : (Jvm.Cond.methodLink "Cyclepaint" (74 : Nat) ({ cls := "Cyclepaint", name := "giveEntry", desc := "(II)Z" } : Jvm.MethodName)) ∈ lw_g := zg_of (zin1 (List.mem_of_getElem? (i := 129) rfl)) rfl
theorem q1_88 : (Jvm.Cond.code ({ cls := "Cyclepaint", name := "merge", desc := "()I" } : Jvm.MethodName) prog_1_method_7_code (3 : Nat) (Option.some Jvm.ClassFile.FieldType.int)) ∈ lw_g := zg_of (zin1 (List.mem_of_getElem? (i := 88) rfl)) rfl
theorem q1_86 : (Jvm.Cond.instanceMethod ({ cls := "Cyclepaint", name := "merge", desc := "()I" } : Jvm.MethodName)) ∈ lw_g := zg_of (zin1 (List.mem_of_getElem? (i := 86) rfl)) rfl
theorem q1_87 : (Jvm.Cond.selects "Cyclepaint" ({ cls := "Cyclepaint", name := "merge", desc := "()I" } : Jvm.MethodName) ({ cls := "Cyclepaint", name := "merge", desc := "()I" } : Jvm.MethodName)) ∈ lw_g := zg_of (zin1 (List.mem_of_getElem? (i := 87) rfl)) rfl
theorem ok_X2_merge : zOV yX2_merge cX2_merge 3 ((Option.some Jvm.ClassFile.FieldType.int)) 0 := ⟨⟨q1_88, q1_1, by decide, by decide, by decide +kernel⟩, q1_86, q1_87⟩
set_option maxHeartbeats 4000000 in
set_option maxRecDepth 100000 in
theorem c_X2_merge (l : Launch) (G : zG) (σ : St) (a : Nat → Nat) (hd : inj a (cL σ))  : Met l yX2_merge (wq yX2_merge cX2_merge 3 ((Option.some Jvm.ClassFile.FieldType.int))) (rmM 4 92 0 0) (va_Pc [.ref (a 0)] (zK G (hCyc G σ a))) (zM (cA σ a) (some (.int ((zI (mgc σ 32))))) (fun H => hCyc G (σ.wD (mrg (smlC σ) σ.Dt 32)) a H)) 0 0 (cA σ a) := by
  refine z_enterMI (by decide +kernel) (Nat.le_of_ble_eq_true rfl) ?_
  intro p env s m below meth cod Q S hG hP hS ret ls hl
  have hl : lv_has ls 3 [(0, .ref (a 0))] := hl
  have hC := hP.2.2.2.2.2
  have hT := hC.1
  have hdt := hC.2.1
  have hlm := hC.2.2.1
  have hkn := hC.2.2.2.1
  have hD := hC.2.2.2.2.1
  have hB := hC.2.2.2.2.2
  refine z_iconst S dX2_merge_0 ?_
  refine z_istore_n (lv' := [(1, .int (zI (0))), (0, .ref (a 0))]) S dX2_merge_1 hl rfl (by decide) rfl (fun ls hl => ?_)
  refine z_iconst S dX2_merge_2 ?_
  refine z_istore_n (lv' := [(2, .int (zI (0))), (1, .int (zI (0))), (0, .ref (a 0))]) S dX2_merge_3 hl rfl (by decide) rfl (fun ls hl => ?_)
  have loop_4 : ∀ (nn : Nat) (k : Int) (ch : Int) (Hk4 : Heap) (Lk4 : List Loc), (va_S (cA σ a) s.heap Hk4 Lk4) → (hCyc G (σ.wD (mrg (smlC σ) σ.Dt k)) a Hk4) → (0 ≤ k ∧ k ≤ 32) → (ch = mgc σ k) → ((32 - k).toNat) < nn → ∀ ls, lv_has ls 3 [(2, .int (zI (k))), (1, .int (zI (ch))), (0, .ref (a 0))] → W p l env (rmM 4 92 0 0) s m ([.ref (a 0)] : List Value).toArray below meth cod Hk4 Lk4 0 0 Q (F0 m 4 ls []) := by
    intro nn
    induction nn with
    | zero => intro _ _ _ _ _ _ _ _ h; exact absurd h (Nat.not_lt_zero _)
    | succ nn ih_4 =>
      intro k ch Hk4 Lk4 hS hP hk hch hm_4 ls hl
      refine z_iload_n S dX2_merge_4 hl 0 rfl rfl ?_
      refine z_bipush S dX2_merge_5 rfl ?_
      refine z_icmp_ge S 40 dX2_merge_7 (by decide) (by omega) (by omega) (fun c_7 => ?_) (fun c_7 => ?_)
      · skip
        refine z_iload_n S dX2_merge_40 hl 1 rfl rfl ?_
        exact ret _ _ _ _ _ _ _ dX2_merge_41 (by rw [hch, show k = 32 by omega]) hS (by rw [show k = 32 by omega] at hP; exact hP) (Nat.le_of_ble_eq_true rfl) (Nat.le_of_ble_eq_true rfl)
      · skip
        have hdt0 := hdt k hk.1 (by omega)
        have hsmb := smlC_b σ hdt0
        skip
        refine z_aload_n S dX2_merge_10 hl 2 rfl rfl ?_
        refine z_iload_n S dX2_merge_11 hl 0 rfl rfl ?_
        refine z_aload_n S dX2_merge_12 hl 2 rfl rfl ?_
        refine z_get S hG hP.1 zc_X2 0 (by decide) q1_60 rfl rfl dX2_merge_13 ?_
        refine z_aload_n S dX2_merge_16 hl 2 rfl rfl ?_
        refine z_get S hG hP.1 zc_X2 1 (by decide) q1_61 rfl rfl dX2_merge_17 ?_
        refine z_iload_n S dX2_merge_20 hl 0 rfl rfl ?_
        refine z_ialdB S hG (show va_at G.1 vwCl (a 5, .inl (G.2 0, 32, .inl (zB (mrg (smlC σ) σ.Dt k)))) Hk4 from hP.2.1) (by omega) (by decide) dX2_merge_21 ?_
        rw [mrg_at (smlC σ) σ.Dt k]
        refine z_callVs S hG (c_X0_smallestTwin l G σ a (σ.Dt k) (by omega)) ok_X0_smallestTwin hP.2.2.2.2.1.1 zc_X0 rfl q1_89 (hP.2.2.2.2.1) ⟨rfl, rfl, by decide, by decide⟩ ⟨Nat.zero_le _, Nat.zero_le _⟩ rfl (Nat.le_of_ble_eq_true rfl) hl.1 rfl dX2_merge_22 ?_
        refine z_callM S hG hS (c_X2_giveEntry l G (σ.wD (mrg (smlC σ) σ.Dt k)) a hd (k) (smlC σ (σ.Dt k)) (by omega) (by omega)) (fun _ h => h) ok_X2_giveEntry hP.1 zc_X2 rfl q1_129 (hP) ⟨rfl, rfl, by decide, by decide⟩ ⟨Nat.le_of_ble_eq_true rfl, Nat.le_of_ble_eq_true rfl⟩ rfl (Nat.le_of_ble_eq_true rfl) hl.1 rfl dX2_merge_25 (fun H_1 L_1 hB hz oq hS => ?_)
        have hP : hCyc G (σ.wD (mrg (smlC σ) σ.Dt (k + 1))) a H_1 := by
          have q : hCyc G (σ.wD (up (mrg (smlC σ) σ.Dt k) (k) (smlC σ (σ.Dt k)))) a H_1 := hB
          rw [mrg_s (smlC σ) σ.Dt hk.1] at q
          exact q
        rw [show (σ.wD (mrg (smlC σ) σ.Dt k)).Dt (k) = σ.Dt k from mrg_at (smlC σ) σ.Dt k]
        refine z_bif_eq S 34 dX2_merge_28 (by decide) (fun c_28 => ?_) (fun c_28 => ?_)
        · skip
          refine z_iinc (lv' := [(2, .int (zI (k + 1))), (1, .int (zI (ch))), (0, .ref (a 0))]) S dX2_merge_34 hl 0 rfl (by decide) rfl (fun ls hl => ?_)
          refine z_goto S 4 dX2_merge_37 (by decide) ?_
          exact ih_4 (k + 1) (ch) (H_1) (L_1) (hS) (hP) (by omega) (by unfold mgc; rw [cntI_f hk.1 c_28]; exact hch) (by omega) ls (lv_sub hl [0, 1, 2] rfl)
        · skip
          refine z_iinc (lv' := [(1, .int (zI (ch + 1))), (2, .int (zI (k))), (0, .ref (a 0))]) S dX2_merge_31 hl 1 rfl (by decide) rfl (fun ls hl => ?_)
          refine z_iinc (lv' := [(2, .int (zI (k + 1))), (1, .int (zI (ch + 1))), (0, .ref (a 0))]) S dX2_merge_34 hl 1 rfl (by decide) rfl (fun ls hl => ?_)
          refine z_goto S 4 dX2_merge_37 (by decide) ?_
          exact ih_4 (k + 1) (ch + 1) (H_1) (L_1) (hS) (hP) (by omega) (by unfold mgc; rw [cntI_t hk.1 c_28, hch]; rfl) (by omega) ls (lv_sub hl [0, 1, 2] rfl)
  exact loop_4 _ (0) (0) (s.heap) ([]) (hS) (by rw [mrg_0]; exact hP) (by omega) (rfl) (Nat.lt_succ_self _) ls (lv_sub hl [0, 1, 2] rfl)
theorem dX2_paint_0 : decode cX2_paint 0 = .ok (.iload_n 1, 1) := by decide +kernel
theorem dX2_paint_1 : decode cX2_paint 1 = .ok (.iload_n 2, 1) := by decide +kernel
theorem dX2_paint_2 : decode cX2_paint 2 = .ok (.invokestatic 66, 3) := by decide +kernel
theorem dX2_paint_5 : decode cX2_paint 5 = .ok (.ifCond .eq 11, 3) := by decide +kernel
theorem dX2_paint_8 : decode cX2_paint 8 = .ok (.iload_n 1, 1) := by decide +kernel
theorem dX2_paint_9 : decode cX2_paint 9 = .ok (.iload_n 3, 1) := by decide +kernel
theorem dX2_paint_10 : decode cX2_paint 10 = .ok (.invokestatic 66, 3) := by decide +kernel
theorem dX2_paint_13 : decode cX2_paint 13 = .ok (.ifCond .ne 13, 3) := by decide +kernel
theorem dX2_paint_16 : decode cX2_paint 16 = .ok (.new 43, 3) := by decide +kernel
theorem dX2_paint_19 : decode cX2_paint 19 = .ok (.dup, 1) := by decide +kernel
theorem dX2_paint_20 : decode cX2_paint 20 = .ok (.ldc 70, 2) := by decide +kernel
theorem dX2_paint_22 : decode cX2_paint 22 = .ok (.invokespecial 47, 3) := by decide +kernel
theorem dX2_paint_25 : decode cX2_paint 25 = .ok (.athrow, 1) := by decide +kernel
theorem dX2_paint_26 : decode cX2_paint 26 = .ok (.iload_n 3, 1) := by decide +kernel
theorem dX2_paint_27 : decode cX2_paint 27 = .ok (.iload_n 2, 1) := by decide +kernel
theorem dX2_paint_28 : decode cX2_paint 28 = .ok (.if_icmp .lt 11, 3) := by decide +kernel
theorem dX2_paint_31 : decode cX2_paint 31 = .ok (.iload 4, 2) := by decide +kernel
theorem dX2_paint_33 : decode cX2_paint 33 = .ok (.invokestatic 39, 3) := by decide +kernel
theorem dX2_paint_36 : decode cX2_paint 36 = .ok (.ifCond .ne 13, 3) := by decide +kernel
theorem dX2_paint_39 : decode cX2_paint 39 = .ok (.new 53, 3) := by decide +kernel
theorem dX2_paint_42 : decode cX2_paint 42 = .ok (.dup, 1) := by decide +kernel
theorem dX2_paint_43 : decode cX2_paint 43 = .ok (.ldc 72, 2) := by decide +kernel
theorem dX2_paint_45 : decode cX2_paint 45 = .ok (.invokespecial 57, 3) := by decide +kernel
theorem dX2_paint_48 : decode cX2_paint 48 = .ok (.athrow, 1) := by decide +kernel
theorem dX2_paint_49 : decode cX2_paint 49 = .ok (.iconst 0, 1) := by decide +kernel
theorem dX2_paint_50 : decode cX2_paint 50 = .ok (.istore 5, 2) := by decide +kernel
theorem dX2_paint_52 : decode cX2_paint 52 = .ok (.iload_n 2, 1) := by decide +kernel
theorem dX2_paint_53 : decode cX2_paint 53 = .ok (.istore 6, 2) := by decide +kernel
theorem dX2_paint_55 : decode cX2_paint 55 = .ok (.iload 6, 2) := by decide +kernel
theorem dX2_paint_57 : decode cX2_paint 57 = .ok (.iload_n 3, 1) := by decide +kernel
theorem dX2_paint_58 : decode cX2_paint 58 = .ok (.if_icmp .gt 28, 3) := by decide +kernel
theorem dX2_paint_61 : decode cX2_paint 61 = .ok (.aload_n 0, 1) := by decide +kernel
theorem dX2_paint_62 : decode cX2_paint 62 = .ok (.iload_n 1, 1) := by decide +kernel
theorem dX2_paint_63 : decode cX2_paint 63 = .ok (.bipush 8, 2) := by decide +kernel
theorem dX2_paint_65 : decode cX2_paint 65 = .ok (.imul, 1) := by decide +kernel
theorem dX2_paint_66 : decode cX2_paint 66 = .ok (.iload 6, 2) := by decide +kernel
theorem dX2_paint_68 : decode cX2_paint 68 = .ok (.iadd, 1) := by decide +kernel
theorem dX2_paint_69 : decode cX2_paint 69 = .ok (.iload 4, 2) := by decide +kernel
theorem dX2_paint_71 : decode cX2_paint 71 = .ok (.invokevirtual 74, 3) := by decide +kernel
theorem dX2_paint_74 : decode cX2_paint 74 = .ok (.ifCond .eq 6, 3) := by decide +kernel
theorem dX2_paint_77 : decode cX2_paint 77 = .ok (.iinc 5 1, 3) := by decide +kernel
theorem dX2_paint_80 : decode cX2_paint 80 = .ok (.iinc 6 1, 3) := by decide +kernel
theorem dX2_paint_83 : decode cX2_paint 83 = .ok (.goto (-28), 3) := by decide +kernel
theorem dX2_paint_86 : decode cX2_paint 86 = .ok (.iload 5, 2) := by decide +kernel
theorem dX2_paint_88 : decode cX2_paint 88 = .ok (.ireturn, 1) := by decide +kernel
theorem q2_192 : (Jvm.Cond.code ({ cls := "Cyclepaint", name := "paint", desc := "(IIII)I" } : Jvm.MethodName) prog_1_method_3_code (7 : Nat) (Option.some Jvm.ClassFile.FieldType.int)) ∈ lw_g := zg_of (zin2 (List.mem_of_getElem? (i := 192) rfl)) rfl
theorem q2_190 : (Jvm.Cond.instanceMethod ({ cls := "Cyclepaint", name := "paint", desc := "(IIII)I" } : Jvm.MethodName)) ∈ lw_g := zg_of (zin2 (List.mem_of_getElem? (i := 190) rfl)) rfl
theorem q2_191 : (Jvm.Cond.selects "Cyclepaint" ({ cls := "Cyclepaint", name := "paint", desc := "(IIII)I" } : Jvm.MethodName) ({ cls := "Cyclepaint", name := "paint", desc := "(IIII)I" } : Jvm.MethodName)) ∈ lw_g := zg_of (zin2 (List.mem_of_getElem? (i := 191) rfl)) rfl
theorem ok_X2_paint : zOV yX2_paint cX2_paint 7 ((Option.some Jvm.ClassFile.FieldType.int)) 4 := ⟨⟨q2_192, q1_1, by decide, by decide, by decide +kernel⟩, q2_190, q2_191⟩
set_option maxHeartbeats 4000000 in
set_option maxRecDepth 100000 in
theorem c_X2_paint (l : Launch) (G : zG) (σ : St) (a : Nat → Nat) (hd : inj a (cL σ)) (v f tt x : Int) (hv : 0 ≤ v ∧ v ≤ 3) (hf : 0 ≤ f ∧ f ≤ tt) (ht : tt ≤ 7) (hx : 0 ≤ x ∧ x ≤ 15) : Met l yX2_paint (wq yX2_paint cX2_paint 7 ((Option.some Jvm.ClassFile.FieldType.int))) (rmM 2 44 0 0) (va_Pc [.ref (a 0), .int (zI (v)), .int (zI (f)), .int (zI (tt)), .int (zI (x))] (zK G (hCyc G σ a))) (zM (cA σ a) (some (.int ((zI (pntN σ.Dt v x f (tt + 1)))))) (fun H => hCyc G (σ.wD (pnt σ.Dt v x f (tt + 1))) a H)) 0 0 (cA σ a) := by
  refine z_enterMI (by decide +kernel) (Nat.le_of_ble_eq_true rfl) ?_
  intro p env s m below meth cod Q S hG hP hS ret ls hl
  have hl : lv_has ls 7 [(0, .ref (a 0)), (1, .int (zI (v))), (2, .int (zI (f))), (3, .int (zI (tt))), (4, .int (zI (x)))] := hl
  have hC := hP.2.2.2.2.2
  have hT := hC.1
  have hdt := hC.2.1
  have hlm := hC.2.2.1
  have hkn := hC.2.2.2.1
  have hD := hC.2.2.2.2.1
  have hB := hC.2.2.2.2.2
  refine z_iload_n S dX2_paint_0 hl 1 rfl rfl ?_
  refine z_iload_n S dX2_paint_1 hl 2 rfl rfl ?_
  refine z_callSs S hG (c_X2_isDot l G (v) (f) (by omega)) ok_X2_isDot q2_193 (trivial) ⟨rfl, rfl, by decide, by decide⟩ ⟨Nat.zero_le _, Nat.zero_le _⟩ rfl (Nat.le_of_ble_eq_true rfl) hl.1 rfl dX2_paint_2 ?_
  refine z_bif_eq S 16 dX2_paint_5 (by decide) (fun q => ?_) (fun q => ?_)
  · exact absurd q (by rw [(show (decide (0 ≤ v) && decide (v < 4) && (decide (0 ≤ f) && decide (f < 8))) = true from by simp; omega)]; decide)
  refine z_iload_n S dX2_paint_8 hl 1 rfl rfl ?_
  refine z_iload_n S dX2_paint_9 hl 3 rfl rfl ?_
  refine z_callSs S hG (c_X2_isDot l G (v) (tt) (by omega)) ok_X2_isDot q2_193 (trivial) ⟨rfl, rfl, by decide, by decide⟩ ⟨Nat.zero_le _, Nat.zero_le _⟩ rfl (Nat.le_of_ble_eq_true rfl) hl.1 rfl dX2_paint_10 ?_
  refine z_bif_ne S 26 dX2_paint_13 (by decide) (fun q => ?_) (fun q => ?_)
  rotate_left
  · exact absurd q (by rw [(show (decide (0 ≤ v) && decide (v < 4) && (decide (0 ≤ tt) && decide (tt < 8))) = true from by simp; omega)]; decide)
  refine z_iload_n S dX2_paint_26 hl 3 rfl rfl ?_
  refine z_iload_n S dX2_paint_27 hl 2 rfl rfl ?_
  refine z_icmp_lt_F S 39 dX2_paint_28 (by decide) (by omega) (by omega) (by omega) ?_
  refine z_iload S dX2_paint_31 hl 4 rfl ?_
  refine z_callSs S hG (c_X2_isEntry l G (x) (by omega)) ok_X2_isEntry q1_137 (trivial) ⟨rfl, rfl, by decide, by decide⟩ ⟨Nat.zero_le _, Nat.zero_le _⟩ rfl (Nat.le_of_ble_eq_true rfl) hl.1 rfl dX2_paint_33 ?_
  refine z_bif_ne S 49 dX2_paint_36 (by decide) (fun q => ?_) (fun q => ?_)
  rotate_left
  · exact absurd q (by rw [(show (decide (0 ≤ x) && decide (x < 16)) = true from by simp; omega)]; decide)
  refine z_iconst S dX2_paint_49 ?_
  refine z_istore (lv' := [(5, .int (zI (0))), (0, .ref (a 0)), (1, .int (zI (v))), (2, .int (zI (f))), (3, .int (zI (tt))), (4, .int (zI (x)))]) S dX2_paint_50 hl (by decide) rfl (fun ls hl => ?_)
  refine z_iload_n S dX2_paint_52 hl 3 rfl rfl ?_
  refine z_istore (lv' := [(6, .int (zI (f))), (5, .int (zI (0))), (0, .ref (a 0)), (1, .int (zI (v))), (2, .int (zI (f))), (3, .int (zI (tt))), (4, .int (zI (x)))]) S dX2_paint_53 hl (by decide) rfl (fun ls hl => ?_)
  have loop_55 : ∀ (nn : Nat) (k : Int) (ch : Int) (Hk55 : Heap) (Lk55 : List Loc), (va_S (cA σ a) s.heap Hk55 Lk55) → (hCyc G (σ.wD (pnt σ.Dt v x f k)) a Hk55) → (f ≤ k ∧ k ≤ tt + 1) → (ch = pntN σ.Dt v x f k) → ((tt + 1 - k).toNat) < nn → ∀ ls, lv_has ls 7 [(6, .int (zI (k))), (5, .int (zI (ch))), (0, .ref (a 0)), (1, .int (zI (v))), (2, .int (zI (f))), (3, .int (zI (tt))), (4, .int (zI (x)))] → W p l env (rmM 2 44 0 0) s m ([.ref (a 0), .int (zI (v)), .int (zI (f)), .int (zI (tt)), .int (zI (x))] : List Value).toArray below meth cod Hk55 Lk55 0 0 Q (F0 m 55 ls []) := by
    intro nn
    induction nn with
    | zero => intro _ _ _ _ _ _ _ _ h; exact absurd h (Nat.not_lt_zero _)
    | succ nn ih_55 =>
      intro k ch Hk55 Lk55 hS hP hk hch hm_55 ls hl
      refine z_iload S dX2_paint_55 hl 0 rfl ?_
      refine z_iload_n S dX2_paint_57 hl 5 rfl rfl ?_
      refine z_icmp_gt S 86 dX2_paint_58 (by decide) (by omega) (by omega) (fun c_58 => ?_) (fun c_58 => ?_)
      · skip
        refine z_iload S dX2_paint_86 hl 1 rfl ?_
        exact ret _ _ _ _ _ _ _ dX2_paint_88 (by rw [hch, show k = tt + 1 by omega]) hS (by rw [show k = tt + 1 by omega] at hP; exact hP) (Nat.le_of_ble_eq_true rfl) (Nat.le_of_ble_eq_true rfl)
      · skip
        refine z_aload_n S dX2_paint_61 hl 2 rfl rfl ?_
        refine z_iload_n S dX2_paint_62 hl 3 rfl rfl ?_
        refine z_bipush S dX2_paint_63 rfl ?_
        refine z_imul S dX2_paint_65 ?_
        refine z_iload S dX2_paint_66 hl 0 rfl ?_
        refine z_iadd S dX2_paint_68 ?_
        refine z_iload S dX2_paint_69 hl 6 rfl ?_
        refine z_callM S hG hS (c_X2_giveEntry l G (σ.wD (pnt σ.Dt v x f k)) a hd (v * 8 + k) (x) (by omega) (by omega)) (fun _ h => h) ok_X2_giveEntry hP.1 zc_X2 rfl q1_129 (hP) ⟨rfl, rfl, by decide, by decide⟩ ⟨Nat.le_of_ble_eq_true rfl, Nat.le_of_ble_eq_true rfl⟩ rfl (Nat.le_of_ble_eq_true rfl) hl.1 rfl dX2_paint_71 (fun H_1 L_1 hB hz oq hS => ?_)
        have hP : hCyc G (σ.wD (pnt σ.Dt v x f (k + 1))) a H_1 := by
          have q : hCyc G (σ.wD (up (pnt σ.Dt v x f k) (v * 8 + k) (x))) a H_1 := hB
          rw [Int.mul_comm v 8, pnt_s σ.Dt hk.1] at q
          exact q
        rw [show (σ.wD (pnt σ.Dt v x f k)).Dt (v * 8 + k) = σ.Dt (8 * v + k) from by rw [Int.mul_comm v 8]; exact pnt_at σ.Dt v x f k]
        refine z_bif_eq S 80 dX2_paint_74 (by decide) (fun c_74 => ?_) (fun c_74 => ?_)
        · skip
          refine z_iinc (lv' := [(6, .int (zI (k + 1))), (5, .int (zI (ch))), (0, .ref (a 0)), (1, .int (zI (v))), (2, .int (zI (f))), (3, .int (zI (tt))), (4, .int (zI (x)))]) S dX2_paint_80 hl 0 rfl (by decide) rfl (fun ls hl => ?_)
          refine z_goto S 55 dX2_paint_83 (by decide) ?_
          exact ih_55 (k + 1) (ch) (H_1) (L_1) (hS) (hP) (by omega) (by rw [pntN_F hk.1 c_74]; exact hch) (by omega) ls (lv_sub hl [0, 1, 2, 3, 4, 5, 6] rfl)
        · skip
          refine z_iinc (lv' := [(5, .int (zI (ch + 1))), (6, .int (zI (k))), (0, .ref (a 0)), (1, .int (zI (v))), (2, .int (zI (f))), (3, .int (zI (tt))), (4, .int (zI (x)))]) S dX2_paint_77 hl 1 rfl (by decide) rfl (fun ls hl => ?_)
          refine z_iinc (lv' := [(6, .int (zI (k + 1))), (5, .int (zI (ch + 1))), (0, .ref (a 0)), (1, .int (zI (v))), (2, .int (zI (f))), (3, .int (zI (tt))), (4, .int (zI (x)))]) S dX2_paint_80 hl 1 rfl (by decide) rfl (fun ls hl => ?_)
          refine z_goto S 55 dX2_paint_83 (by decide) ?_
          exact ih_55 (k + 1) (ch + 1) (H_1) (L_1) (hS) (hP) (by omega) (by rw [pntN_T hk.1 c_74, hch]) (by omega) ls (lv_sub hl [0, 1, 2, 3, 4, 5, 6] rfl)
  exact loop_55 _ (f) (0) (s.heap) ([]) (hS) (by rw [pnt_0]; exact hP) (by omega) (by unfold pntN; rw [Int.sub_self]; rfl) (Nat.lt_succ_self _) ls (lv_sub hl [0, 1, 2, 3, 4, 5, 6] rfl)
theorem zty_X1 : ∀ k, k < 5 → parseFieldDescriptor (TX1 k).2.2.1 = some ((parseFieldDescriptor (TX1 k).2.2.1).getD .int) := zty_of (by decide +kernel)
theorem znm_X1 : ∀ a, a < 5 → ∀ b, b < 5 → a ≠ b → (TX1 a).2.1 ≠ (TX1 b).2.1 := by decide +kernel
theorem dX1_tell_0 : decode cX1_tell 0 = .ok (.aload_n 0, 1) := by decide +kernel
theorem dX1_tell_1 : decode cX1_tell 1 = .ok (.iload_n 1, 1) := by decide +kernel
theorem dX1_tell_2 : decode cX1_tell 2 = .ok (.putfield 22, 3) := by decide +kernel
theorem dX1_tell_5 : decode cX1_tell 5 = .ok (.aload_n 0, 1) := by decide +kernel
theorem dX1_tell_6 : decode cX1_tell 6 = .ok (.iload_n 2, 1) := by decide +kernel
theorem dX1_tell_7 : decode cX1_tell 7 = .ok (.putfield 25, 3) := by decide +kernel
theorem dX1_tell_10 : decode cX1_tell 10 = .ok (.aload_n 0, 1) := by decide +kernel
theorem dX1_tell_11 : decode cX1_tell 11 = .ok (.iload_n 2, 1) := by decide +kernel
theorem dX1_tell_12 : decode cX1_tell 12 = .ok (.iconst 2, 1) := by decide +kernel
theorem dX1_tell_13 : decode cX1_tell 13 = .ok (.if_icmp .ne 14, 3) := by decide +kernel
theorem dX1_tell_16 : decode cX1_tell 16 = .ok (.iconst 2, 1) := by decide +kernel
theorem dX1_tell_17 : decode cX1_tell 17 = .ok (.aload_n 0, 1) := by decide +kernel
theorem dX1_tell_18 : decode cX1_tell 18 = .ok (.getfield 15, 3) := by decide +kernel
theorem dX1_tell_21 : decode cX1_tell 21 = .ok (.imul, 1) := by decide +kernel
theorem dX1_tell_22 : decode cX1_tell 22 = .ok (.iconst 2, 1) := by decide +kernel
theorem dX1_tell_23 : decode cX1_tell 23 = .ok (.isub, 1) := by decide +kernel
theorem dX1_tell_24 : decode cX1_tell 24 = .ok (.goto 7, 3) := by decide +kernel
theorem dX1_tell_27 : decode cX1_tell 27 = .ok (.aload_n 0, 1) := by decide +kernel
theorem dX1_tell_28 : decode cX1_tell 28 = .ok (.getfield 15, 3) := by decide +kernel
theorem dX1_tell_31 : decode cX1_tell 31 = .ok (.putfield 28, 3) := by decide +kernel
theorem dX1_tell_34 : decode cX1_tell 34 = .ok (.return_, 1) := by decide +kernel
theorem q3_2 : (Jvm.Cond.code ({ cls := "Cyclepaint$Range", name := "tell", desc := "(II)V" } : Jvm.MethodName) prog_3_method_2_code (3 : Nat) (Option.none : Option Jvm.ClassFile.FieldType)) ∈ lw_g := zg_of (zin3 (List.mem_of_getElem? (i := 2) rfl)) rfl
theorem q3_0 : (Jvm.Cond.instanceMethod ({ cls := "Cyclepaint$Range", name := "tell", desc := "(II)V" } : Jvm.MethodName)) ∈ lw_g := zg_of (zin3 (List.mem_of_getElem? (i := 0) rfl)) rfl
theorem q3_1 : (Jvm.Cond.selects "Cyclepaint$Range" ({ cls := "Cyclepaint$Range", name := "tell", desc := "(II)V" } : Jvm.MethodName) ({ cls := "Cyclepaint$Range", name := "tell", desc := "(II)V" } : Jvm.MethodName)) ∈ lw_g := zg_of (zin3 (List.mem_of_getElem? (i := 1) rfl)) rfl
theorem ok_X1_tell : zOV yX1_tell cX1_tell 3 ((Option.none : Option Jvm.ClassFile.FieldType)) 2 := ⟨⟨q3_2, q1_14, by decide, by decide, by decide +kernel⟩, q3_0, q3_1⟩
set_option maxHeartbeats 4000000 in
set_option maxRecDepth 100000 in
theorem c_X1_tell (l : Launch) (G : zG) (r : Nat) (f len sp k s2 k2 : Int) (hk2 : 0 ≤ k2 ∧ k2 ≤ 2) : Met l yX1_tell (wq yX1_tell cX1_tell 3 ((Option.none : Option Jvm.ClassFile.FieldType))) (rmM 0 0 0 0) (va_Pc [.ref (r), .int (zI (s2)), .int (zI (k2))] (zK G (hRng G r f len sp k))) (zM (fun q => q = r) none (fun H => hRng G r f len s2 k2 H)) 0 0 (fun q => q = r) := by
  refine z_enterMV (by decide +kernel) (Nat.le_of_ble_eq_true rfl) ?_
  intro p env s m below meth cod Q S hnm hG hP hS ret ls hl
  have hl : lv_has ls 3 [(0, .ref (r)), (1, .int (zI (s2))), (2, .int (zI (k2)))] := hl
  refine z_aload_n S dX1_tell_0 hl 0 rfl rfl ?_
  refine z_iload_n S dX1_tell_1 hl 1 rfl rfl ?_
  refine z_put S hG hP zc_X1 _ (zty_X1) (znm_X1) hS (rfl) 2 (by decide) q3_5 rfl rfl rfl rfl rfl (Nat.le_of_ble_eq_true rfl) dX1_tell_2 (fun H_1 L_1 hat hz oq hS => ?_)
  have hP := hat
  refine z_aload_n S dX1_tell_5 hl 0 rfl rfl ?_
  refine z_iload_n S dX1_tell_6 hl 2 rfl rfl ?_
  refine z_put S hG hP zc_X1 _ (zty_X1) (znm_X1) hS (rfl) 3 (by decide) q3_6 rfl rfl rfl rfl rfl (Nat.le_of_ble_eq_true rfl) dX1_tell_7 (fun H_2 L_2 hat hz oq hS => ?_)
  have hP := hat
  refine z_aload_n S dX1_tell_10 hl 0 rfl rfl ?_
  refine z_iload_n S dX1_tell_11 hl 2 rfl rfl ?_
  refine z_iconst S dX1_tell_12 ?_
  refine z_icmp_ne S 27 dX1_tell_13 (by decide) (by omega) (by omega) (fun c_13 => ?_) (fun c_13 => ?_)
  · skip
    refine z_aload_n S dX1_tell_27 hl 0 rfl rfl ?_
    refine z_get S hG hP zc_X1 1 (by decide) q3_4 rfl rfl dX1_tell_28 ?_
    refine z_put S hG hP zc_X1 _ (zty_X1) (znm_X1) hS (rfl) 4 (by decide) q3_7 rfl rfl rfl rfl rfl (Nat.le_of_ble_eq_true rfl) dX1_tell_31 (fun H_3 L_3 hat hz oq hS => ?_)
    have hP := hat
    exact ret _ _ _ _ _ _ dX1_tell_34 hS (by unfold hRng cRng; rw [show cyc k2 len = len from by unfold cyc; first | rw [if_pos c_13] | rw [if_neg c_13] | (rw [if_neg (by simpa using c_13)]) | (rw [if_pos (by simpa using c_13)])]; exact hP) (Nat.le_of_ble_eq_true rfl) (Nat.le_of_ble_eq_true rfl)
  · skip
    refine z_iconst S dX1_tell_16 ?_
    refine z_aload_n S dX1_tell_17 hl 0 rfl rfl ?_
    refine z_get S hG hP zc_X1 1 (by decide) q3_4 rfl rfl dX1_tell_18 ?_
    refine z_imul S dX1_tell_21 ?_
    refine z_iconst S dX1_tell_22 ?_
    refine z_isub S dX1_tell_23 ?_
    refine z_goto S 31 dX1_tell_24 (by decide) ?_
    refine z_put S hG hP zc_X1 _ (zty_X1) (znm_X1) hS (rfl) 4 (by decide) q3_7 rfl rfl rfl rfl rfl (Nat.le_of_ble_eq_true rfl) dX1_tell_31 (fun H_4 L_4 hat hz oq hS => ?_)
    have hP := hat
    exact ret _ _ _ _ _ _ dX1_tell_34 hS (by unfold hRng cRng; rw [show cyc k2 len = ((2) * (len)) - (2) from by unfold cyc; first | rw [if_pos c_13] | rw [if_neg c_13] | (rw [if_neg (by simpa using c_13)]) | (rw [if_pos (by simpa using c_13)])]; exact hP) (Nat.le_of_ble_eq_true rfl) (Nat.le_of_ble_eq_true rfl)
theorem dX2_turn_0 : decode cX2_turn 0 = .ok (.aload_n 0, 1) := by decide +kernel
theorem dX2_turn_1 : decode cX2_turn 1 = .ok (.getfield 12, 3) := by decide +kernel
theorem dX2_turn_4 : decode cX2_turn 4 = .ok (.iload_n 1, 1) := by decide +kernel
theorem dX2_turn_5 : decode cX2_turn 5 = .ok (.invokevirtual 106, 3) := by decide +kernel
theorem dX2_turn_8 : decode cX2_turn 8 = .ok (.astore 4, 2) := by decide +kernel
theorem dX2_turn_10 : decode cX2_turn 10 = .ok (.aload 4, 2) := by decide +kernel
theorem dX2_turn_12 : decode cX2_turn 12 = .ok (.ifnonnull 13, 3) := by decide +kernel
theorem dX2_turn_15 : decode cX2_turn 15 = .ok (.new 43, 3) := by decide +kernel
theorem dX2_turn_18 : decode cX2_turn 18 = .ok (.dup, 1) := by decide +kernel
theorem dX2_turn_19 : decode cX2_turn 19 = .ok (.ldc 110, 2) := by decide +kernel
theorem dX2_turn_21 : decode cX2_turn 21 = .ok (.invokespecial 47, 3) := by decide +kernel
theorem dX2_turn_24 : decode cX2_turn 24 = .ok (.athrow, 1) := by decide +kernel
theorem dX2_turn_25 : decode cX2_turn 25 = .ok (.iload_n 2, 1) := by decide +kernel
theorem dX2_turn_26 : decode cX2_turn 26 = .ok (.invokestatic 77, 3) := by decide +kernel
theorem dX2_turn_29 : decode cX2_turn 29 = .ok (.ifCond .eq 10, 3) := by decide +kernel
theorem dX2_turn_32 : decode cX2_turn 32 = .ok (.iload_n 3, 1) := by decide +kernel
theorem dX2_turn_33 : decode cX2_turn 33 = .ok (.invokestatic 80, 3) := by decide +kernel
theorem dX2_turn_36 : decode cX2_turn 36 = .ok (.ifCond .ne 13, 3) := by decide +kernel
theorem dX2_turn_39 : decode cX2_turn 39 = .ok (.new 53, 3) := by decide +kernel
theorem dX2_turn_42 : decode cX2_turn 42 = .ok (.dup, 1) := by decide +kernel
theorem dX2_turn_43 : decode cX2_turn 43 = .ok (.ldc 112, 2) := by decide +kernel
theorem dX2_turn_45 : decode cX2_turn 45 = .ok (.invokespecial 57, 3) := by decide +kernel
theorem dX2_turn_48 : decode cX2_turn 48 = .ok (.athrow, 1) := by decide +kernel
theorem dX2_turn_49 : decode cX2_turn 49 = .ok (.aload 4, 2) := by decide +kernel
theorem dX2_turn_51 : decode cX2_turn 51 = .ok (.iload_n 2, 1) := by decide +kernel
theorem dX2_turn_52 : decode cX2_turn 52 = .ok (.iload_n 3, 1) := by decide +kernel
theorem dX2_turn_53 : decode cX2_turn 53 = .ok (.invokevirtual 114, 3) := by decide +kernel
theorem dX2_turn_56 : decode cX2_turn 56 = .ok (.aload 4, 2) := by decide +kernel
theorem dX2_turn_58 : decode cX2_turn 58 = .ok (.aload_n 0, 1) := by decide +kernel
theorem dX2_turn_59 : decode cX2_turn 59 = .ok (.getfield 30, 3) := by decide +kernel
theorem dX2_turn_62 : decode cX2_turn 62 = .ok (.invokevirtual 117, 3) := by decide +kernel
theorem dX2_turn_65 : decode cX2_turn 65 = .ok (.ireturn, 1) := by decide +kernel
theorem q2_206 : (Jvm.Cond.methodLink "Cyclepaint" (77 : Nat) ({ cls := "Cyclepaint", name := "isSpeed", desc := "(I)Z" } : Jvm.MethodName)) ∈ lw_g := zg_of (zin2 (List.mem_of_getElem? (i := 206) rfl)) rfl
theorem q2_209 : (Jvm.Cond.methodLink "Cyclepaint" (80 : Nat) ({ cls := "Cyclepaint", name := "isKind", desc := "(I)Z" } : Jvm.MethodName)) ∈ lw_g := zg_of (zin2 (List.mem_of_getElem? (i := 209) rfl)) rfl
theorem q3_36 : (Jvm.Cond.methodLink "Cyclepaint" (114 : Nat) ({ cls := "Cyclepaint$Range", name := "tell", desc := "(II)V" } : Jvm.MethodName)) ∈ lw_g := zg_of (zin3 (List.mem_of_getElem? (i := 36) rfl)) rfl
theorem q3_37 : (Jvm.Cond.methodLink "Cyclepaint" (117 : Nat) ({ cls := "Cyclepaint$Range", name := "shift", desc := "(I)I" } : Jvm.MethodName)) ∈ lw_g := zg_of (zin3 (List.mem_of_getElem? (i := 37) rfl)) rfl
theorem q3_33 : (Jvm.Cond.code ({ cls := "Cyclepaint", name := "turn", desc := "(III)I" } : Jvm.MethodName) prog_1_method_5_code (5 : Nat) (Option.some Jvm.ClassFile.FieldType.int)) ∈ lw_g := zg_of (zin3 (List.mem_of_getElem? (i := 33) rfl)) rfl
theorem q3_31 : (Jvm.Cond.instanceMethod ({ cls := "Cyclepaint", name := "turn", desc := "(III)I" } : Jvm.MethodName)) ∈ lw_g := zg_of (zin3 (List.mem_of_getElem? (i := 31) rfl)) rfl
theorem q3_32 : (Jvm.Cond.selects "Cyclepaint" ({ cls := "Cyclepaint", name := "turn", desc := "(III)I" } : Jvm.MethodName) ({ cls := "Cyclepaint", name := "turn", desc := "(III)I" } : Jvm.MethodName)) ∈ lw_g := zg_of (zin3 (List.mem_of_getElem? (i := 32) rfl)) rfl
theorem ok_X2_turn : zOV yX2_turn cX2_turn 5 ((Option.some Jvm.ClassFile.FieldType.int)) 3 := ⟨⟨q3_33, q1_1, by decide, by decide, by decide +kernel⟩, q3_31, q3_32⟩
set_option maxHeartbeats 4000000 in
set_option maxRecDepth 100000 in
theorem c_X2_turn (l : Launch) (G : zG) (σ : St) (a : Nat → Nat) (hd : inj a (cL σ)) (j sp kd : Int) (hj : 0 ≤ j ∧ j < σ.rn) (hsp : 1 ≤ sp ∧ sp ≤ 9) (hkd : 0 ≤ kd ∧ kd ≤ 2) : Met l yX2_turn (wq yX2_turn cX2_turn 5 ((Option.some Jvm.ClassFile.FieldType.int))) (rmM 1 22 0 0) (va_Pc [.ref (a 0), .int (zI (j)), .int (zI (sp)), .int (zI (kd))] (zK G (hCyc G σ a))) (zM (cA σ a) (some (.int ((zI (shiftR kd (σ.L j) sp σ.tk))))) (fun H => hCyc G (σ.wR σ.rn σ.F σ.L (up σ.S j sp) (up σ.K j kd)) a H)) 0 0 (cA σ a) := by
  refine z_enterMI (by decide +kernel) (Nat.le_of_ble_eq_true rfl) ?_
  intro p env s m below meth cod Q S hG hP hS ret ls hl
  have hl : lv_has ls 5 [(0, .ref (a 0)), (1, .int (zI (j))), (2, .int (zI (sp))), (3, .int (zI (kd)))] := hl
  have hC := hP.2.2.2.2.2
  have hT := hC.1
  have hdt := hC.2.1
  have hlm := hC.2.2.1
  have hkn := hC.2.2.2.1
  have hD := hC.2.2.2.2.1
  have hB := hC.2.2.2.2.2
  have hrn4 := hP.2.2.2.2.1.2.2.2.2.2.1
  have hok := hP.2.2.2.2.1.2.2.2.2.2.2 j hj.1 hj.2
  have hrg := hP.2.2.2.2.1.2.2.2.2.1 j hj.1 hj.2
  refine z_aload_n S dX2_turn_0 hl 0 rfl rfl ?_
  refine z_get S hG hP.1 zc_X2 0 (by decide) q1_60 rfl rfl dX2_turn_1 ?_
  refine z_iload_n S dX2_turn_4 hl 1 rfl rfl ?_
  refine z_callVs S hG (c_X0_rangeAt1 l G σ a j (by omega)) ok_X0_rangeAt hP.2.2.2.2.1.1 zc_X0 rfl q2_39 (hP.2.2.2.2.1) ⟨rfl, rfl, by decide, by decide⟩ ⟨Nat.zero_le _, Nat.zero_le _⟩ rfl (Nat.le_of_ble_eq_true rfl) hl.1 rfl dX2_turn_5 ?_
  refine z_astore (lv' := [(4, .ref (a (8 + Int.toNat (j)))), (0, .ref (a 0)), (1, .int (zI (j))), (2, .int (zI (sp))), (3, .int (zI (kd)))]) S dX2_turn_8 hl (by decide) rfl (fun ls hl => ?_)
  refine z_aload S dX2_turn_10 hl 0 rfl ?_
  refine z_ifnonnull_r S 25 dX2_turn_12 (by decide) ?_
  refine z_iload_n S dX2_turn_25 hl 3 rfl rfl ?_
  refine z_callSs S hG (c_X2_isSpeed l G (sp) (by omega)) ok_X2_isSpeed q2_206 (trivial) ⟨rfl, rfl, by decide, by decide⟩ ⟨Nat.zero_le _, Nat.zero_le _⟩ rfl (Nat.le_of_ble_eq_true rfl) hl.1 rfl dX2_turn_26 ?_
  refine z_bif_eq S 39 dX2_turn_29 (by decide) (fun q => ?_) (fun q => ?_)
  · exact absurd q (by rw [(show (decide (1 ≤ sp) && decide (sp ≤ 9)) = true from by simp; omega)]; decide)
  refine z_iload_n S dX2_turn_32 hl 4 rfl rfl ?_
  refine z_callSs S hG (c_X2_isKind l G (kd) (by omega)) ok_X2_isKind q2_209 (trivial) ⟨rfl, rfl, by decide, by decide⟩ ⟨Nat.zero_le _, Nat.zero_le _⟩ rfl (Nat.le_of_ble_eq_true rfl) hl.1 rfl dX2_turn_33 ?_
  refine z_bif_ne S 49 dX2_turn_36 (by decide) (fun q => ?_) (fun q => ?_)
  rotate_left
  · exact absurd q (by rw [(show (decide (0 ≤ kd) && decide (kd ≤ 2)) = true from by simp; omega)]; decide)
  refine z_aload S dX2_turn_49 hl 0 rfl ?_
  refine z_iload_n S dX2_turn_51 hl 3 rfl rfl ?_
  refine z_iload_n S dX2_turn_52 hl 4 rfl rfl ?_
  refine z_callM S hG hS (c_X1_tell l G (a (8 + Int.toNat (j))) (σ.F j) (σ.L j) (σ.S j) (σ.K j) sp kd hkd) (fun q h => ⟨_, cL_r hj.1 hj.2, h⟩) ok_X1_tell hrg zc_X1 rfl q3_36 (hrg) ⟨rfl, rfl, by decide, by decide⟩ ⟨Nat.le_of_ble_eq_true rfl, Nat.le_of_ble_eq_true rfl⟩ rfl (Nat.le_of_ble_eq_true rfl) hl.1 rfl dX2_turn_53 (fun H_1 L_1 hB hz oq hS => ?_)
  have hrg : hRng G (a (8 + Int.toNat (j))) (σ.F j) (σ.L j) sp kd H_1 := hB
  have hP : hCyc G (σ.wR σ.rn σ.F σ.L (up σ.S j sp) (up σ.K j kd)) a H_1 := hCyc_SK hP hd hj.1 hj.2 hsp hkd hB (fun i hi n => oq _ (hCyc_lt hP hi) (fun z => n (hd _ _ hi (cL_r hj.1 hj.2) z)))
  refine z_aload S dX2_turn_56 hl 0 rfl ?_
  refine z_aload_n S dX2_turn_58 hl 1 rfl rfl ?_
  refine z_get S hG hP.1 zc_X2 5 (by decide) q1_65 rfl rfl dX2_turn_59 ?_
  refine z_callVs S hG (c_X1_shift l G (a (8 + Int.toNat (j))) (σ.F j) (σ.L j) sp kd σ.tk (by omega)) ok_X1_shift hrg zc_X1 rfl q3_37 (hrg) ⟨rfl, rfl, by decide, by decide⟩ ⟨Nat.zero_le _, Nat.zero_le _⟩ rfl (Nat.le_of_ble_eq_true rfl) hl.1 rfl dX2_turn_62 ?_
  exact ret _ _ _ _ _ _ _ dX2_turn_65 (rfl) hS (by exact hP) (Nat.le_of_ble_eq_true rfl) (Nat.le_of_ble_eq_true rfl)
