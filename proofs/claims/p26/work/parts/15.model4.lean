theorem zty_X4 : ∀ k, k < 8 → parseFieldDescriptor (TX4 k).2.2.1 = some ((parseFieldDescriptor (TX4 k).2.2.1).getD .int) := zty_of (by decide +kernel)
theorem znm_X4 : ∀ a, a < 8 → ∀ b, b < 8 → a ≠ b → (TX4 a).2.1 ≠ (TX4 b).2.1 := by decide +kernel
theorem dX4_refuse_0 : decode cX4_refuse 0 = .ok (.iload_n 1, 1) := by decide +kernel
theorem dX4_refuse_1 : decode cX4_refuse 1 = .ok (.ifCond .eq 15, 3) := by decide +kernel
theorem dX4_refuse_4 : decode cX4_refuse 4 = .ok (.aload_n 0, 1) := by decide +kernel
theorem dX4_refuse_5 : decode cX4_refuse 5 = .ok (.getfield 30, 3) := by decide +kernel
theorem dX4_refuse_8 : decode cX4_refuse 8 = .ok (.ifCond .ne 8, 3) := by decide +kernel
theorem dX4_refuse_11 : decode cX4_refuse 11 = .ok (.aload_n 0, 1) := by decide +kernel
theorem dX4_refuse_12 : decode cX4_refuse 12 = .ok (.iload_n 2, 1) := by decide +kernel
theorem dX4_refuse_13 : decode cX4_refuse 13 = .ok (.putfield 30, 3) := by decide +kernel
theorem dX4_refuse_16 : decode cX4_refuse 16 = .ok (.aload_n 0, 1) := by decide +kernel
theorem dX4_refuse_17 : decode cX4_refuse 17 = .ok (.getfield 30, 3) := by decide +kernel
theorem dX4_refuse_20 : decode cX4_refuse 20 = .ok (.ifCond .le 7, 3) := by decide +kernel
theorem dX4_refuse_23 : decode cX4_refuse 23 = .ok (.iconst 1, 1) := by decide +kernel
theorem dX4_refuse_24 : decode cX4_refuse 24 = .ok (.goto 4, 3) := by decide +kernel
theorem dX4_refuse_27 : decode cX4_refuse 27 = .ok (.iconst 0, 1) := by decide +kernel
theorem dX4_refuse_28 : decode cX4_refuse 28 = .ok (.ireturn, 1) := by decide +kernel
theorem q4_226 : (Jvm.Cond.fieldLink "CyclepaintModel" (30 : Nat) "CyclepaintModel" "thrown" "I") ∈ lw_g := zg_of (zin4 (List.mem_of_getElem? (i := 226) rfl)) rfl
theorem q5_28 : (Jvm.Cond.code ({ cls := "CyclepaintModel", name := "refuse", desc := "(ZI)Z" } : Jvm.MethodName) prog_6_method_4_code (3 : Nat) (Option.some Jvm.ClassFile.FieldType.boolean)) ∈ lw_g := zg_of (zin5 (List.mem_of_getElem? (i := 28) rfl)) rfl
theorem q5_27 : (Jvm.Cond.instanceMethod ({ cls := "CyclepaintModel", name := "refuse", desc := "(ZI)Z" } : Jvm.MethodName)) ∈ lw_g := zg_of (zin5 (List.mem_of_getElem? (i := 27) rfl)) rfl
theorem qs_21 : Cond.selects "CyclepaintModel" (⟨"CyclepaintModel", "refuse", "(ZI)Z"⟩ : MethodName) (⟨"CyclepaintModel", "refuse", "(ZI)Z"⟩ : MethodName) ∈ lw_g := zg_of (zinS (List.mem_of_getElem? (i := 21) rfl)) rfl
theorem ok_X4_refuse : zOV yX4_refuse cX4_refuse 3 ((Option.some Jvm.ClassFile.FieldType.boolean)) 2 := ⟨⟨q5_28, q1_3, by decide, by decide, by decide +kernel⟩, q5_27, qs_21⟩
set_option maxHeartbeats 4000000 in
set_option maxRecDepth 100000 in
theorem c_X4_refuse (l : Launch) (G : zG) (σ : St) (b : Nat → Nat) (m1 m2 : Int32) (bad : Bool) (c : Int) (hc : 1 ≤ c ∧ c ≤ 9) (hd : inj b (mL σ)) (hrn : 0 ≤ σ.rn ∧ σ.rn ≤ 4) : Met l yX4_refuse (wq yX4_refuse cX4_refuse 3 ((Option.some Jvm.ClassFile.FieldType.boolean))) (rmM 0 0 0 0) (va_Pc [.ref (b 0), .int (bI (bad)), .int (zI (c))] (zK G (hMod G σ b (zI 0) m1 m2))) (zM (mA σ b) (some (.int (bI (bad)))) (fun H => hMod G σ b (zI (tI bad c)) m1 m2 H)) 0 0 (mA σ b) := by
  refine z_enterMB (by decide +kernel) (Nat.le_of_ble_eq_true rfl) ?_
  intro p env s m below meth cod Q S hG hP hS ret ls hl
  have hl : lv_has ls 3 [(0, .ref (b 0)), (1, .int (bI (bad))), (2, .int (zI (c)))] := hl
  refine z_iload_n S dX4_refuse_0 hl 1 rfl rfl ?_
  refine z_bif_eq S 16 dX4_refuse_1 (by decide) (fun c_1 => ?_) (fun c_1 => ?_)
  · skip
    refine z_aload_n S dX4_refuse_16 hl 0 rfl rfl ?_
    refine z_get S hG hP.1 zc_X4 0 (by decide) q4_226 rfl rfl dX4_refuse_17 ?_
    refine z_if_le_T S 27 dX4_refuse_20 (by decide) (by omega) (by omega) ?_
    refine z_iconst S dX4_refuse_27 ?_
    exact ret _ _ _ _ _ _ _ dX4_refuse_28 (by rw [c_1]; rfl) hS (by rw [c_1]; exact hP) (Nat.le_of_ble_eq_true rfl) (Nat.le_of_ble_eq_true rfl)
  · skip
    refine z_aload_n S dX4_refuse_4 hl 0 rfl rfl ?_
    refine z_get S hG hP.1 zc_X4 0 (by decide) q4_226 rfl rfl dX4_refuse_5 ?_
    refine z_if_ne_F S 16 dX4_refuse_8 (by decide) (by omega) (by omega) ?_
    refine z_aload_n S dX4_refuse_11 hl 0 rfl rfl ?_
    refine z_iload_n S dX4_refuse_12 hl 2 rfl rfl ?_
    refine z_put S hG hP.1 zc_X4 _ (zty_X4) (znm_X4) hS (⟨0, mL_s (by decide), rfl⟩) 0 (by decide) q4_226 rfl rfl rfl rfl rfl (Nat.le_of_ble_eq_true rfl) dX4_refuse_13 (fun H_1 L_1 hat hz oq hS => ?_)
    have hP : hMod G (σ) b (zI (c)) m1 m2 H_1 := hMod_o hP hd (by exact hrn.2) (zI (c)) (σ.tk) (σ.lim) (σ.rf) hat oq
    refine z_aload_n S dX4_refuse_16 hl 0 rfl rfl ?_
    refine z_get S hG hP.1 zc_X4 0 (by decide) q4_226 rfl rfl dX4_refuse_17 ?_
    refine z_if_le_F S 27 dX4_refuse_20 (by decide) (by omega) (by omega) ?_
    refine z_iconst S dX4_refuse_23 ?_
    refine z_goto S 28 dX4_refuse_24 (by decide) ?_
    exact ret _ _ _ _ _ _ _ dX4_refuse_28 (by rw [c_1]; rfl) hS (by rw [c_1]; exact hP) (Nat.le_of_ble_eq_true rfl) (Nat.le_of_ble_eq_true rfl)
theorem dX4_start_0 : decode cX4_start 0 = .ok (.aload_n 0, 1) := by decide +kernel
theorem dX4_start_1 : decode cX4_start 1 = .ok (.iconst 0, 1) := by decide +kernel
theorem dX4_start_2 : decode cX4_start 2 = .ok (.putfield 30, 3) := by decide +kernel
theorem dX4_start_5 : decode cX4_start 5 = .ok (.aload_n 0, 1) := by decide +kernel
theorem dX4_start_6 : decode cX4_start 6 = .ok (.iload_n 1, 1) := by decide +kernel
theorem dX4_start_7 : decode cX4_start 7 = .ok (.iload_n 2, 1) := by decide +kernel
theorem dX4_start_8 : decode cX4_start 8 = .ok (.invokevirtual 33, 3) := by decide +kernel
theorem dX4_start_11 : decode cX4_start 11 = .ok (.ireturn, 1) := by decide +kernel
theorem q5_25 : (Jvm.Cond.methodLink "CyclepaintModel" (33 : Nat) ({ cls := "CyclepaintModel", name := "refuse", desc := "(ZI)Z" } : Jvm.MethodName)) ∈ lw_g := zg_of (zin5 (List.mem_of_getElem? (i := 25) rfl)) rfl
theorem q5_24 : (Jvm.Cond.code ({ cls := "CyclepaintModel", name := "start", desc := "(ZI)Z" } : Jvm.MethodName) prog_6_method_5_code (3 : Nat) (Option.some Jvm.ClassFile.FieldType.boolean)) ∈ lw_g := zg_of (zin5 (List.mem_of_getElem? (i := 24) rfl)) rfl
theorem q5_23 : (Jvm.Cond.instanceMethod ({ cls := "CyclepaintModel", name := "start", desc := "(ZI)Z" } : Jvm.MethodName)) ∈ lw_g := zg_of (zin5 (List.mem_of_getElem? (i := 23) rfl)) rfl
theorem qs_20 : Cond.selects "CyclepaintModel" (⟨"CyclepaintModel", "start", "(ZI)Z"⟩ : MethodName) (⟨"CyclepaintModel", "start", "(ZI)Z"⟩ : MethodName) ∈ lw_g := zg_of (zinS (List.mem_of_getElem? (i := 20) rfl)) rfl
theorem ok_X4_start : zOV yX4_start cX4_start 3 ((Option.some Jvm.ClassFile.FieldType.boolean)) 2 := ⟨⟨q5_24, q1_3, by decide, by decide, by decide +kernel⟩, q5_23, qs_20⟩
set_option maxHeartbeats 4000000 in
set_option maxRecDepth 100000 in
theorem c_X4_start (l : Launch) (G : zG) (σ : St) (b : Nat → Nat) (th : Int32) (m1 m2 : Int32) (bad : Bool) (c : Int) (hc : 1 ≤ c ∧ c ≤ 9) (hd : inj b (mL σ)) (hrn : 0 ≤ σ.rn ∧ σ.rn ≤ 4) : Met l yX4_start (wq yX4_start cX4_start 3 ((Option.some Jvm.ClassFile.FieldType.boolean))) (rmM 1 22 0 0) (va_Pc [.ref (b 0), .int (bI (bad)), .int (zI (c))] (zK G (hMod G σ b th m1 m2))) (zM (mA σ b) (some (.int (bI (bad)))) (fun H => hMod G σ b (zI (tI bad c)) m1 m2 H)) 0 0 (mA σ b) := by
  refine z_enterMB (by decide +kernel) (Nat.le_of_ble_eq_true rfl) ?_
  intro p env s m below meth cod Q S hG hP hS ret ls hl
  have hl : lv_has ls 3 [(0, .ref (b 0)), (1, .int (bI (bad))), (2, .int (zI (c)))] := hl
  refine z_aload_n S dX4_start_0 hl 0 rfl rfl ?_
  refine z_iconst S dX4_start_1 ?_
  refine z_put S hG hP.1 zc_X4 _ (zty_X4) (znm_X4) hS (⟨0, mL_s (by decide), rfl⟩) 0 (by decide) q4_226 rfl rfl rfl rfl rfl (Nat.le_of_ble_eq_true rfl) dX4_start_2 (fun H_1 L_1 hat hz oq hS => ?_)
  have hP : hMod G (σ) b (zI (0)) m1 m2 H_1 := hMod_o hP hd (by exact hrn.2) (zI (0)) (σ.tk) (σ.lim) (σ.rf) hat oq
  refine z_aload_n S dX4_start_5 hl 0 rfl rfl ?_
  refine z_iload_n S dX4_start_6 hl 1 rfl rfl ?_
  refine z_iload_n S dX4_start_7 hl 2 rfl rfl ?_
  refine z_callM S hG hS (c_X4_refuse l G (σ) b m1 m2 bad c hc hd hrn) (fun _ h => h) ok_X4_refuse hP.1 zc_X4 rfl q5_25 (hP) ⟨rfl, rfl, by decide, by decide⟩ ⟨Nat.le_of_ble_eq_true rfl, Nat.le_of_ble_eq_true rfl⟩ rfl (Nat.le_of_ble_eq_true rfl) hl.1 rfl dX4_start_8 (fun H_2 L_2 hB hz oq hS => ?_)
  have hP : hMod G σ b (zI (tI bad c)) m1 m2 H_2 := hB
  exact ret _ _ _ _ _ _ _ dX4_start_11 (rfl) hS (hP) (Nat.le_of_ble_eq_true rfl) (Nat.le_of_ble_eq_true rfl)
theorem in_T {x lo hi : Int} (h : (decide (lo ≤ x) && decide (x ≤ hi)) = true) : lo ≤ x ∧ x ≤ hi := by simpa using h
theorem no_F {x lo hi : Int} (h : (!(decide (lo ≤ x) && decide (x ≤ hi))) = false) : lo ≤ x ∧ x ≤ hi := by simpa using h
theorem dX4_colour_0 : decode cX4_colour 0 = .ok (.aload_n 0, 1) := by decide +kernel
theorem dX4_colour_1 : decode cX4_colour 1 = .ok (.iload_n 1, 1) := by decide +kernel
theorem dX4_colour_2 : decode cX4_colour 2 = .ok (.invokestatic 117, 3) := by decide +kernel
theorem dX4_colour_5 : decode cX4_colour 5 = .ok (.iconst 1, 1) := by decide +kernel
theorem dX4_colour_6 : decode cX4_colour 6 = .ok (.invokevirtual 121, 3) := by decide +kernel
theorem dX4_colour_9 : decode cX4_colour 9 = .ok (.ifCond .ne 15, 3) := by decide +kernel
theorem dX4_colour_12 : decode cX4_colour 12 = .ok (.aload_n 0, 1) := by decide +kernel
theorem dX4_colour_13 : decode cX4_colour 13 = .ok (.iload_n 2, 1) := by decide +kernel
theorem dX4_colour_14 : decode cX4_colour 14 = .ok (.invokestatic 124, 3) := by decide +kernel
theorem dX4_colour_17 : decode cX4_colour 17 = .ok (.iconst 2, 1) := by decide +kernel
theorem dX4_colour_18 : decode cX4_colour 18 = .ok (.invokevirtual 33, 3) := by decide +kernel
theorem dX4_colour_21 : decode cX4_colour 21 = .ok (.ifCond .eq 5, 3) := by decide +kernel
theorem dX4_colour_24 : decode cX4_colour 24 = .ok (.iconst 0, 1) := by decide +kernel
theorem dX4_colour_25 : decode cX4_colour 25 = .ok (.ireturn, 1) := by decide +kernel
theorem dX4_colour_26 : decode cX4_colour 26 = .ok (.aload_n 0, 1) := by decide +kernel
theorem dX4_colour_27 : decode cX4_colour 27 = .ok (.getfield 13, 3) := by decide +kernel
theorem dX4_colour_30 : decode cX4_colour 30 = .ok (.iload_n 1, 1) := by decide +kernel
theorem dX4_colour_31 : decode cX4_colour 31 = .ok (.iaload, 1) := by decide +kernel
theorem dX4_colour_32 : decode cX4_colour 32 = .ok (.istore_n 3, 1) := by decide +kernel
theorem dX4_colour_33 : decode cX4_colour 33 = .ok (.aload_n 0, 1) := by decide +kernel
theorem dX4_colour_34 : decode cX4_colour 34 = .ok (.getfield 13, 3) := by decide +kernel
theorem dX4_colour_37 : decode cX4_colour 37 = .ok (.iload_n 1, 1) := by decide +kernel
theorem dX4_colour_38 : decode cX4_colour 38 = .ok (.iload_n 2, 1) := by decide +kernel
theorem dX4_colour_39 : decode cX4_colour 39 = .ok (.iastore, 1) := by decide +kernel
theorem dX4_colour_40 : decode cX4_colour 40 = .ok (.iload_n 3, 1) := by decide +kernel
theorem dX4_colour_41 : decode cX4_colour 41 = .ok (.ireturn, 1) := by decide +kernel
theorem q5_15 : (Jvm.Cond.methodLink "CyclepaintModel" (117 : Nat) ({ cls := "CyclepaintModel", name := "isNoEntry", desc := "(I)Z" } : Jvm.MethodName)) ∈ lw_g := zg_of (zin5 (List.mem_of_getElem? (i := 15) rfl)) rfl
theorem q5_21 : (Jvm.Cond.methodLink "CyclepaintModel" (121 : Nat) ({ cls := "CyclepaintModel", name := "start", desc := "(ZI)Z" } : Jvm.MethodName)) ∈ lw_g := zg_of (zin5 (List.mem_of_getElem? (i := 21) rfl)) rfl
theorem q5_29 : (Jvm.Cond.methodLink "CyclepaintModel" (124 : Nat) ({ cls := "CyclepaintModel", name := "isNoColour", desc := "(I)Z" } : Jvm.MethodName)) ∈ lw_g := zg_of (zin5 (List.mem_of_getElem? (i := 29) rfl)) rfl
theorem q5_14 : (Jvm.Cond.code ({ cls := "CyclepaintModel", name := "colour", desc := "(II)I" } : Jvm.MethodName) prog_6_method_27_code (4 : Nat) (Option.some Jvm.ClassFile.FieldType.int)) ∈ lw_g := zg_of (zin5 (List.mem_of_getElem? (i := 14) rfl)) rfl
theorem q5_12 : (Jvm.Cond.instanceMethod ({ cls := "CyclepaintModel", name := "colour", desc := "(II)I" } : Jvm.MethodName)) ∈ lw_g := zg_of (zin5 (List.mem_of_getElem? (i := 12) rfl)) rfl
theorem q5_13 : (Jvm.Cond.selects "CyclepaintModel" ({ cls := "CyclepaintModel", name := "colour", desc := "(II)I" } : Jvm.MethodName) ({ cls := "CyclepaintModel", name := "colour", desc := "(II)I" } : Jvm.MethodName)) ∈ lw_g := zg_of (zin5 (List.mem_of_getElem? (i := 13) rfl)) rfl
theorem ok_X4_colour : zOV yX4_colour cX4_colour 4 ((Option.some Jvm.ClassFile.FieldType.int)) 2 := ⟨⟨q5_14, q1_3, by decide, by decide, by decide +kernel⟩, q5_12, q5_13⟩
set_option maxHeartbeats 4000000 in
set_option maxRecDepth 100000 in
theorem c_X4_colour (l : Launch) (G : zG) (σ : St) (b : Nat → Nat) (th m1 m2 : Int32) (hd : inj b (mL σ)) (hO : okR σ) (e x : Int) (he : rg e) (hx : rg x) (t : Int) (ht : t = ec (!(decide (0 ≤ e) && decide (e ≤ 15))) (!(decide (0 ≤ x) && decide (x ≤ 63)))) : Met l yX4_colour (wq yX4_colour cX4_colour 4 ((Option.some Jvm.ClassFile.FieldType.int))) (rmM 2 44 0 0) (va_Pc [.ref (b 0), .int (zI (e)), .int (zI (x))] (zK G (hMod G σ b th m1 m2))) (zM (mA σ b) (some (.int ((if t = 0 then σ.B e else zI 0)))) (fun H => hMod G (if t = 0 then (σ.wB (up σ.B e (zI x))) else σ) b (zI t) m1 m2 H)) 0 0 (mA σ b) := by
  refine z_enterMI (by decide +kernel) (Nat.le_of_ble_eq_true rfl) ?_
  intro p env s m below meth cod Q S hG hP hS ret ls hl
  have hl : lv_has ls 4 [(0, .ref (b 0)), (1, .int (zI (e))), (2, .int (zI (x)))] := hl
  have hrn := hO.1
  refine z_aload_n S dX4_colour_0 hl 0 rfl rfl ?_
  refine z_iload_n S dX4_colour_1 hl 1 rfl rfl ?_
  refine z_callSs S hG (c_X4_isNoEntry l G (e) (by omega)) ok_X4_isNoEntry q5_15 (trivial) ⟨rfl, rfl, by decide, by decide⟩ ⟨Nat.zero_le _, Nat.zero_le _⟩ rfl (Nat.le_of_ble_eq_true rfl) hl.1 rfl dX4_colour_2 ?_
  refine z_iconst S dX4_colour_5 ?_
  cases hb_6 : (!(decide (0 ≤ e) && decide (e ≤ 15)))
  · skip
    refine z_callM S hG hS (c_X4_start l G (σ) b th m1 m2 false (1) (by omega) hd (by exact hrn)) (fun _ h => h) ok_X4_start hP.1 zc_X4 rfl q5_21 (hP) ⟨rfl, rfl, by decide, by decide⟩ ⟨Nat.le_of_ble_eq_true rfl, Nat.le_of_ble_eq_true rfl⟩ rfl (Nat.le_of_ble_eq_true rfl) hl.1 rfl dX4_colour_6 (fun H_1 L_1 hB hz oq hS => ?_)
    have hP : hMod G (σ) b (zI 0) m1 m2 H_1 := hB
    refine z_bif_ne S 24 dX4_colour_9 (by decide) (fun qz => ?_) (fun qz => ?_)
    · exact absurd qz (by decide)
    refine z_aload_n S dX4_colour_12 hl 0 rfl rfl ?_
    refine z_iload_n S dX4_colour_13 hl 2 rfl rfl ?_
    refine z_callSs S hG (c_X4_isNoColour l G (x) (by omega)) ok_X4_isNoColour q5_29 (trivial) ⟨rfl, rfl, by decide, by decide⟩ ⟨Nat.zero_le _, Nat.zero_le _⟩ rfl (Nat.le_of_ble_eq_true rfl) hl.1 rfl dX4_colour_14 ?_
    refine z_iconst S dX4_colour_17 ?_
    cases hb_18 : (!(decide (0 ≤ x) && decide (x ≤ 63)))
    · skip
      refine z_callM S hG hS (c_X4_refuse l G (σ) b m1 m2 false (2) (by omega) hd (by exact hrn)) (fun _ h => h) ok_X4_refuse hP.1 zc_X4 rfl q5_25 (hP) ⟨rfl, rfl, by decide, by decide⟩ ⟨Nat.le_of_ble_eq_true rfl, Nat.le_of_ble_eq_true rfl⟩ rfl (Nat.le_of_ble_eq_true rfl) hl.1 rfl dX4_colour_18 (fun H_2 L_2 hB hz oq hS => ?_)
      have hP : hMod G (σ) b (zI 0) m1 m2 H_2 := hB
      refine z_bif_eq S 26 dX4_colour_21 (by decide) (fun qz => ?_) (fun qz => ?_)
      rotate_left
      · exact absurd qz (by decide)
      have he2 := no_F hb_6
      refine z_aload_n S dX4_colour_26 hl 0 rfl rfl ?_
      refine z_get S hG hP.1 zc_X4 4 (by decide) q4_230 rfl rfl dX4_colour_27 ?_
      refine z_iload_n S dX4_colour_30 hl 1 rfl rfl ?_
      refine z_iald S hG hP.2.1 (by omega) (by decide) dX4_colour_31 ?_
      refine z_istore_n (lv' := [(3, .int (σ.B (e))), (0, .ref (b 0)), (1, .int (zI (e))), (2, .int (zI (x)))]) S dX4_colour_32 hl rfl (by decide) rfl (fun ls hl => ?_)
      refine z_aload_n S dX4_colour_33 hl 1 rfl rfl ?_
      refine z_get S hG hP.1 zc_X4 4 (by decide) q4_230 rfl rfl dX4_colour_34 ?_
      refine z_iload_n S dX4_colour_37 hl 2 rfl rfl ?_
      refine z_iload_n S dX4_colour_38 hl 3 rfl rfl ?_
      refine z_iast S hG hP.2.1 hS (⟨1, mL_s (by decide), rfl⟩) (i := e) (x := (zI (x))) (by omega) (by decide) dX4_colour_39 (fun H_3 L_3 hat hz oq hS => ?_)
      have hP : hMod G (σ.wB (up (σ.B) (e) ((zI (x))))) b (zI 0) m1 m2 H_3 := hMod_B hP hd _ hat oq
      refine z_iload_n S dX4_colour_40 hl 0 rfl rfl ?_
      exact ret _ _ _ _ _ _ _ dX4_colour_41 (by rw [ht, ec_0 hb_6 hb_18]; exact rfl) hS (by rw [ht, ec_0 hb_6 hb_18]; exact hP) (Nat.le_of_ble_eq_true rfl) (Nat.le_of_ble_eq_true rfl)
    · skip
      refine z_callM S hG hS (c_X4_refuse l G (σ) b m1 m2 true (2) (by omega) hd (by exact hrn)) (fun _ h => h) ok_X4_refuse hP.1 zc_X4 rfl q5_25 (hP) ⟨rfl, rfl, by decide, by decide⟩ ⟨Nat.le_of_ble_eq_true rfl, Nat.le_of_ble_eq_true rfl⟩ rfl (Nat.le_of_ble_eq_true rfl) hl.1 rfl dX4_colour_18 (fun H_4 L_4 hB hz oq hS => ?_)
      have hP : hMod G (σ) b (zI 2) m1 m2 H_4 := hB
      refine z_bif_eq S 26 dX4_colour_21 (by decide) (fun qz => ?_) (fun qz => ?_)
      · exact absurd qz (by decide)
      refine z_iconst S dX4_colour_24 ?_
      exact ret _ _ _ _ _ _ _ dX4_colour_25 (by rw [ht, ec_2 hb_6 hb_18] <;> rfl) hS (by rw [ht, ec_2 hb_6 hb_18]; exact hP) (Nat.le_of_ble_eq_true rfl) (Nat.le_of_ble_eq_true rfl)
  · skip
    refine z_callM S hG hS (c_X4_start l G (σ) b th m1 m2 true (1) (by omega) hd (by exact hrn)) (fun _ h => h) ok_X4_start hP.1 zc_X4 rfl q5_21 (hP) ⟨rfl, rfl, by decide, by decide⟩ ⟨Nat.le_of_ble_eq_true rfl, Nat.le_of_ble_eq_true rfl⟩ rfl (Nat.le_of_ble_eq_true rfl) hl.1 rfl dX4_colour_6 (fun H_5 L_5 hB hz oq hS => ?_)
    have hP : hMod G (σ) b (zI 1) m1 m2 H_5 := hB
    refine z_bif_ne S 24 dX4_colour_9 (by decide) (fun qz => ?_) (fun qz => ?_)
    rotate_left
    · exact absurd qz (by decide)
    refine z_iconst S dX4_colour_24 ?_
    exact ret _ _ _ _ _ _ _ dX4_colour_25 (by rw [ht, ec_1 hb_6] <;> rfl) hS (by rw [ht, ec_1 hb_6]; exact hP) (Nat.le_of_ble_eq_true rfl) (Nat.le_of_ble_eq_true rfl)
theorem dX4_jump_0 : decode cX4_jump 0 = .ok (.aload_n 0, 1) := by decide +kernel
theorem dX4_jump_1 : decode cX4_jump 1 = .ok (.iload_n 1, 1) := by decide +kernel
theorem dX4_jump_2 : decode cX4_jump 2 = .ok (.invokestatic 140, 3) := by decide +kernel
theorem dX4_jump_5 : decode cX4_jump 5 = .ok (.iconst 1, 1) := by decide +kernel
theorem dX4_jump_6 : decode cX4_jump 6 = .ok (.invokevirtual 121, 3) := by decide +kernel
theorem dX4_jump_9 : decode cX4_jump 9 = .ok (.ifCond .eq 5, 3) := by decide +kernel
theorem dX4_jump_12 : decode cX4_jump 12 = .ok (.iconst 0, 1) := by decide +kernel
theorem dX4_jump_13 : decode cX4_jump 13 = .ok (.ireturn, 1) := by decide +kernel
theorem dX4_jump_14 : decode cX4_jump 14 = .ok (.aload_n 0, 1) := by decide +kernel
theorem dX4_jump_15 : decode cX4_jump 15 = .ok (.getfield 108, 3) := by decide +kernel
theorem dX4_jump_18 : decode cX4_jump 18 = .ok (.istore_n 2, 1) := by decide +kernel
theorem dX4_jump_19 : decode cX4_jump 19 = .ok (.aload_n 0, 1) := by decide +kernel
theorem dX4_jump_20 : decode cX4_jump 20 = .ok (.iload_n 1, 1) := by decide +kernel
theorem dX4_jump_21 : decode cX4_jump 21 = .ok (.putfield 108, 3) := by decide +kernel
theorem dX4_jump_24 : decode cX4_jump 24 = .ok (.iload_n 2, 1) := by decide +kernel
theorem dX4_jump_25 : decode cX4_jump 25 = .ok (.ireturn, 1) := by decide +kernel
theorem q5_176 : (Jvm.Cond.methodLink "CyclepaintModel" (140 : Nat) ({ cls := "CyclepaintModel", name := "isNoTick", desc := "(I)Z" } : Jvm.MethodName)) ∈ lw_g := zg_of (zin5 (List.mem_of_getElem? (i := 176) rfl)) rfl
theorem q5_175 : (Jvm.Cond.code ({ cls := "CyclepaintModel", name := "jump", desc := "(I)I" } : Jvm.MethodName) prog_6_method_35_code (3 : Nat) (Option.some Jvm.ClassFile.FieldType.int)) ∈ lw_g := zg_of (zin5 (List.mem_of_getElem? (i := 175) rfl)) rfl
theorem q5_173 : (Jvm.Cond.instanceMethod ({ cls := "CyclepaintModel", name := "jump", desc := "(I)I" } : Jvm.MethodName)) ∈ lw_g := zg_of (zin5 (List.mem_of_getElem? (i := 173) rfl)) rfl
theorem q5_174 : (Jvm.Cond.selects "CyclepaintModel" ({ cls := "CyclepaintModel", name := "jump", desc := "(I)I" } : Jvm.MethodName) ({ cls := "CyclepaintModel", name := "jump", desc := "(I)I" } : Jvm.MethodName)) ∈ lw_g := zg_of (zin5 (List.mem_of_getElem? (i := 174) rfl)) rfl
theorem ok_X4_jump : zOV yX4_jump cX4_jump 3 ((Option.some Jvm.ClassFile.FieldType.int)) 1 := ⟨⟨q5_175, q1_3, by decide, by decide, by decide +kernel⟩, q5_173, q5_174⟩
set_option maxHeartbeats 4000000 in
set_option maxRecDepth 100000 in
theorem c_X4_jump (l : Launch) (G : zG) (σ : St) (b : Nat → Nat) (th m1 m2 : Int32) (hd : inj b (mL σ)) (hO : okR σ) (x : Int) (hx : rg x) (t : Int) (ht : t = ec (!(decide (0 ≤ x) && decide (x ≤ 99999))) (false)) : Met l yX4_jump (wq yX4_jump cX4_jump 3 ((Option.some Jvm.ClassFile.FieldType.int))) (rmM 2 44 0 0) (va_Pc [.ref (b 0), .int (zI (x))] (zK G (hMod G σ b th m1 m2))) (zM (mA σ b) (some (.int ((if t = 0 then zI σ.tk else zI 0)))) (fun H => hMod G (if t = 0 then (σ.wO x σ.lim σ.rf) else σ) b (zI t) m1 m2 H)) 0 0 (mA σ b) := by
  refine z_enterMI (by decide +kernel) (Nat.le_of_ble_eq_true rfl) ?_
  intro p env s m below meth cod Q S hG hP hS ret ls hl
  have hl : lv_has ls 3 [(0, .ref (b 0)), (1, .int (zI (x)))] := hl
  have hrn := hO.1
  refine z_aload_n S dX4_jump_0 hl 0 rfl rfl ?_
  refine z_iload_n S dX4_jump_1 hl 1 rfl rfl ?_
  refine z_callSs S hG (c_X4_isNoTick l G (x) (by omega)) ok_X4_isNoTick q5_176 (trivial) ⟨rfl, rfl, by decide, by decide⟩ ⟨Nat.zero_le _, Nat.zero_le _⟩ rfl (Nat.le_of_ble_eq_true rfl) hl.1 rfl dX4_jump_2 ?_
  refine z_iconst S dX4_jump_5 ?_
  cases hb_6 : (!(decide (0 ≤ x) && decide (x ≤ 99999)))
  · skip
    refine z_callM S hG hS (c_X4_start l G (σ) b th m1 m2 false (1) (by omega) hd (by exact hrn)) (fun _ h => h) ok_X4_start hP.1 zc_X4 rfl q5_21 (hP) ⟨rfl, rfl, by decide, by decide⟩ ⟨Nat.le_of_ble_eq_true rfl, Nat.le_of_ble_eq_true rfl⟩ rfl (Nat.le_of_ble_eq_true rfl) hl.1 rfl dX4_jump_6 (fun H_1 L_1 hB hz oq hS => ?_)
    have hP : hMod G (σ) b (zI 0) m1 m2 H_1 := hB
    refine z_bif_eq S 14 dX4_jump_9 (by decide) (fun qz => ?_) (fun qz => ?_)
    rotate_left
    · exact absurd qz (by decide)
    refine z_aload_n S dX4_jump_14 hl 0 rfl rfl ?_
    refine z_get S hG hP.1 zc_X4 1 (by decide) q4_227 rfl rfl dX4_jump_15 ?_
    refine z_istore_n (lv' := [(2, .int (zI (σ.tk))), (0, .ref (b 0)), (1, .int (zI (x)))]) S dX4_jump_18 hl rfl (by decide) rfl (fun ls hl => ?_)
    refine z_aload_n S dX4_jump_19 hl 1 rfl rfl ?_
    refine z_iload_n S dX4_jump_20 hl 2 rfl rfl ?_
    refine z_put S hG hP.1 zc_X4 _ (zty_X4) (znm_X4) hS (⟨0, mL_s (by decide), rfl⟩) 1 (by decide) q4_227 rfl rfl rfl rfl rfl (Nat.le_of_ble_eq_true rfl) dX4_jump_21 (fun H_2 L_2 hat hz oq hS => ?_)
    have hP : hMod G (σ.wO (x) (σ.lim) (σ.rf)) b (zI 0) m1 m2 H_2 := hMod_o hP hd (by exact hrn.2) (zI 0) (x) (σ.lim) (σ.rf) hat oq
    refine z_iload_n S dX4_jump_24 hl 0 rfl rfl ?_
    exact ret _ _ _ _ _ _ _ dX4_jump_25 (by rw [ht, ec_0 hb_6 rfl]; exact rfl) hS (by rw [ht, ec_0 hb_6 rfl]; exact hP) (Nat.le_of_ble_eq_true rfl) (Nat.le_of_ble_eq_true rfl)
  · skip
    refine z_callM S hG hS (c_X4_start l G (σ) b th m1 m2 true (1) (by omega) hd (by exact hrn)) (fun _ h => h) ok_X4_start hP.1 zc_X4 rfl q5_21 (hP) ⟨rfl, rfl, by decide, by decide⟩ ⟨Nat.le_of_ble_eq_true rfl, Nat.le_of_ble_eq_true rfl⟩ rfl (Nat.le_of_ble_eq_true rfl) hl.1 rfl dX4_jump_6 (fun H_3 L_3 hB hz oq hS => ?_)
    have hP : hMod G (σ) b (zI 1) m1 m2 H_3 := hB
    refine z_bif_eq S 14 dX4_jump_9 (by decide) (fun qz => ?_) (fun qz => ?_)
    · exact absurd qz (by decide)
    refine z_iconst S dX4_jump_12 ?_
    exact ret _ _ _ _ _ _ _ dX4_jump_13 (by rw [ht, ec_1 hb_6] <;> rfl) hS (by rw [ht, ec_1 hb_6]; exact hP) (Nat.le_of_ble_eq_true rfl) (Nat.le_of_ble_eq_true rfl)
theorem dX4_limit_0 : decode cX4_limit 0 = .ok (.aload_n 0, 1) := by decide +kernel
theorem dX4_limit_1 : decode cX4_limit 1 = .ok (.iload_n 1, 1) := by decide +kernel
theorem dX4_limit_2 : decode cX4_limit 2 = .ok (.iconst 0, 1) := by decide +kernel
theorem dX4_limit_3 : decode cX4_limit 3 = .ok (.bipush 32, 2) := by decide +kernel
theorem dX4_limit_5 : decode cX4_limit 5 = .ok (.invokestatic 37, 3) := by decide +kernel
theorem dX4_limit_8 : decode cX4_limit 8 = .ok (.ifCond .ne 7, 3) := by decide +kernel
theorem dX4_limit_11 : decode cX4_limit 11 = .ok (.iconst 1, 1) := by decide +kernel
theorem dX4_limit_12 : decode cX4_limit 12 = .ok (.goto 4, 3) := by decide +kernel
theorem dX4_limit_15 : decode cX4_limit 15 = .ok (.iconst 0, 1) := by decide +kernel
theorem dX4_limit_16 : decode cX4_limit 16 = .ok (.iconst 1, 1) := by decide +kernel
theorem dX4_limit_17 : decode cX4_limit 17 = .ok (.invokevirtual 121, 3) := by decide +kernel
theorem dX4_limit_20 : decode cX4_limit 20 = .ok (.ifCond .eq 5, 3) := by decide +kernel
theorem dX4_limit_23 : decode cX4_limit 23 = .ok (.iconst 0, 1) := by decide +kernel
theorem dX4_limit_24 : decode cX4_limit 24 = .ok (.ireturn, 1) := by decide +kernel
theorem dX4_limit_25 : decode cX4_limit 25 = .ok (.aload_n 0, 1) := by decide +kernel
theorem dX4_limit_26 : decode cX4_limit 26 = .ok (.iload_n 1, 1) := by decide +kernel
theorem dX4_limit_27 : decode cX4_limit 27 = .ok (.putfield 7, 3) := by decide +kernel
theorem dX4_limit_30 : decode cX4_limit 30 = .ok (.aload_n 0, 1) := by decide +kernel
theorem dX4_limit_31 : decode cX4_limit 31 = .ok (.invokevirtual 143, 3) := by decide +kernel
theorem dX4_limit_34 : decode cX4_limit 34 = .ok (.iload_n 1, 1) := by decide +kernel
theorem dX4_limit_35 : decode cX4_limit 35 = .ok (.if_icmp .le 7, 3) := by decide +kernel
theorem dX4_limit_38 : decode cX4_limit 38 = .ok (.iconst 1, 1) := by decide +kernel
theorem dX4_limit_39 : decode cX4_limit 39 = .ok (.goto 4, 3) := by decide +kernel
theorem dX4_limit_42 : decode cX4_limit 42 = .ok (.iconst 0, 1) := by decide +kernel
theorem dX4_limit_43 : decode cX4_limit 43 = .ok (.ireturn, 1) := by decide +kernel
theorem q5_186 : (Jvm.Cond.code ({ cls := "CyclepaintModel", name := "limit", desc := "(I)Z" } : Jvm.MethodName) prog_6_method_37_code (2 : Nat) (Option.some Jvm.ClassFile.FieldType.boolean)) ∈ lw_g := zg_of (zin5 (List.mem_of_getElem? (i := 186) rfl)) rfl
theorem q5_184 : (Jvm.Cond.instanceMethod ({ cls := "CyclepaintModel", name := "limit", desc := "(I)Z" } : Jvm.MethodName)) ∈ lw_g := zg_of (zin5 (List.mem_of_getElem? (i := 184) rfl)) rfl
theorem q5_185 : (Jvm.Cond.selects "CyclepaintModel" ({ cls := "CyclepaintModel", name := "limit", desc := "(I)Z" } : Jvm.MethodName) ({ cls := "CyclepaintModel", name := "limit", desc := "(I)Z" } : Jvm.MethodName)) ∈ lw_g := zg_of (zin5 (List.mem_of_getElem? (i := 185) rfl)) rfl
theorem ok_X4_limit : zOV yX4_limit cX4_limit 2 ((Option.some Jvm.ClassFile.FieldType.boolean)) 1 := ⟨⟨q5_186, q1_3, by decide, by decide, by decide +kernel⟩, q5_184, q5_185⟩
set_option maxHeartbeats 4000000 in
set_option maxRecDepth 100000 in
theorem c_X4_limit (l : Launch) (G : zG) (σ : St) (b : Nat → Nat) (th m1 m2 : Int32) (hd : inj b (mL σ)) (hO : okR σ) (x : Int) (hx : rg x) (hdt : ∀ d : Int, 0 ≤ d → d < 32 → 0 ≤ σ.Dt d ∧ σ.Dt d < 16) (hT : 0 ≤ σ.tk ∧ σ.tk ≤ 99999) (t : Int) (ht : t = ec (!(decide (0 ≤ x) && decide (x ≤ 32))) (false)) : Met l yX4_limit (wq yX4_limit cX4_limit 2 ((Option.some Jvm.ClassFile.FieldType.boolean))) (rmM 7 155 0 0) (va_Pc [.ref (b 0), .int (zI (x))] (zK G (hMod G σ b th m1 m2))) (zM (mA σ b) (some (.int (bI (if t = 0 then decide (x < flM σ) else false)))) (fun H => hMod G (if t = 0 then (σ.wO σ.tk x σ.rf) else σ) b (zI t) m1 m2 H)) 0 0 (mA σ b) := by
  refine z_enterMB (by decide +kernel) (Nat.le_of_ble_eq_true rfl) ?_
  intro p env s m below meth cod Q S hG hP hS ret ls hl
  have hl : lv_has ls 2 [(0, .ref (b 0)), (1, .int (zI (x)))] := hl
  have hrn := hO.1
  refine z_aload_n S dX4_limit_0 hl 0 rfl rfl ?_
  refine z_iload_n S dX4_limit_1 hl 1 rfl rfl ?_
  refine z_iconst S dX4_limit_2 ?_
  refine z_bipush S dX4_limit_3 rfl ?_
  refine z_callSs S hG (c_X4_isIn l G (x) (0) (32) (by omega)) ok_X4_isIn q5_18 (trivial) ⟨rfl, rfl, by decide, by decide⟩ ⟨Nat.zero_le _, Nat.zero_le _⟩ rfl (Nat.le_of_ble_eq_true rfl) hl.1 rfl dX4_limit_5 ?_
  refine z_bif_ne S 15 dX4_limit_8 (by decide) (fun c_8 => ?_) (fun c_8 => ?_)
  · skip
    refine z_iconst S dX4_limit_15 ?_
    refine z_iconst S dX4_limit_16 ?_
    refine z_callM S hG hS (c_X4_start l G (σ) b th m1 m2 false (1) (by omega) hd (by exact hrn)) (fun _ h => h) ok_X4_start hP.1 zc_X4 rfl q5_21 (hP) ⟨rfl, rfl, by decide, by decide⟩ ⟨Nat.le_of_ble_eq_true rfl, Nat.le_of_ble_eq_true rfl⟩ rfl (Nat.le_of_ble_eq_true rfl) hl.1 rfl dX4_limit_17 (fun H_1 L_1 hB hz oq hS => ?_)
    have hP : hMod G (σ) b (zI 0) m1 m2 H_1 := hB
    refine z_bif_eq S 25 dX4_limit_20 (by decide) (fun qz => ?_) (fun qz => ?_)
    rotate_left
    · exact absurd qz (by decide)
    refine z_aload_n S dX4_limit_25 hl 0 rfl rfl ?_
    refine z_iload_n S dX4_limit_26 hl 1 rfl rfl ?_
    refine z_put S hG hP.1 zc_X4 _ (zty_X4) (znm_X4) hS (⟨0, mL_s (by decide), rfl⟩) 3 (by decide) q4_229 rfl rfl rfl rfl rfl (Nat.le_of_ble_eq_true rfl) dX4_limit_27 (fun H_2 L_2 hat hz oq hS => ?_)
    have hP : hMod G (σ.wO (σ.tk) (x) (σ.rf)) b (zI 0) m1 m2 H_2 := hMod_o hP hd (by exact hrn.2) (zI 0) (σ.tk) (x) (σ.rf) hat oq
    have hx2 := in_T c_8
    have hfb := flM_b σ
    refine z_aload_n S dX4_limit_30 hl 0 rfl rfl ?_
    refine z_callVs S hG (c_X4_flickering l G (σ.wO (σ.tk) (x) (σ.rf)) b (zI 0) m1 m2 hdt hT) ok_X4_flickering hP.1 zc_X4 rfl q5_187 (hP) ⟨rfl, rfl, by decide, by decide⟩ ⟨Nat.zero_le _, Nat.zero_le _⟩ rfl (Nat.le_of_ble_eq_true rfl) hl.1 rfl dX4_limit_31 ?_
    rw [flM_wO]
    refine z_iload_n S dX4_limit_34 hl 1 rfl rfl ?_
    refine z_icmp_le S 42 dX4_limit_35 (by decide) (by omega) (by omega) (fun c_35 => ?_) (fun c_35 => ?_)
    · skip
      refine z_iconst S dX4_limit_42 ?_
      exact ret _ _ _ _ _ _ _ dX4_limit_43 (by rw [ht, ec_0 (by rw [c_8] <;> rfl) rfl]; show (zI (0)) = bI (decide (x < flM σ)); rw [decide_eq_false (by omega)]; rfl) hS (by rw [ht, ec_0 (by rw [c_8] <;> rfl) rfl]; exact hP) (Nat.le_of_ble_eq_true rfl) (Nat.le_of_ble_eq_true rfl)
    · skip
      refine z_iconst S dX4_limit_38 ?_
      refine z_goto S 43 dX4_limit_39 (by decide) ?_
      exact ret _ _ _ _ _ _ _ dX4_limit_43 (by rw [ht, ec_0 (by rw [c_8] <;> rfl) rfl]; show (zI (1)) = bI (decide (x < flM σ)); rw [decide_eq_true (by omega)]; rfl) hS (by rw [ht, ec_0 (by rw [c_8] <;> rfl) rfl]; exact hP) (Nat.le_of_ble_eq_true rfl) (Nat.le_of_ble_eq_true rfl)
  · skip
    refine z_iconst S dX4_limit_11 ?_
    refine z_goto S 16 dX4_limit_12 (by decide) ?_
    refine z_iconst S dX4_limit_16 ?_
    refine z_callM S hG hS (c_X4_start l G (σ) b th m1 m2 true (1) (by omega) hd (by exact hrn)) (fun _ h => h) ok_X4_start hP.1 zc_X4 rfl q5_21 (hP) ⟨rfl, rfl, by decide, by decide⟩ ⟨Nat.le_of_ble_eq_true rfl, Nat.le_of_ble_eq_true rfl⟩ rfl (Nat.le_of_ble_eq_true rfl) hl.1 rfl dX4_limit_17 (fun H_3 L_3 hB hz oq hS => ?_)
    have hP : hMod G (σ) b (zI 1) m1 m2 H_3 := hB
    refine z_bif_eq S 25 dX4_limit_20 (by decide) (fun qz => ?_) (fun qz => ?_)
    · exact absurd qz (by decide)
    refine z_iconst S dX4_limit_23 ?_
    exact ret _ _ _ _ _ _ _ dX4_limit_24 (by rw [ht, ec_1 (by rw [c_8] <;> rfl)] <;> rfl) hS (by rw [ht, ec_1 (by rw [c_8] <;> rfl)]; exact hP) (Nat.le_of_ble_eq_true rfl) (Nat.le_of_ble_eq_true rfl)
theorem dX4_at_0 : decode cX4_at 0 = .ok (.aload_n 0, 1) := by decide +kernel
theorem dX4_at_1 : decode cX4_at 1 = .ok (.iload_n 1, 1) := by decide +kernel
theorem dX4_at_2 : decode cX4_at 2 = .ok (.invokestatic 117, 3) := by decide +kernel
theorem dX4_at_5 : decode cX4_at 5 = .ok (.iconst 1, 1) := by decide +kernel
theorem dX4_at_6 : decode cX4_at 6 = .ok (.invokevirtual 121, 3) := by decide +kernel
theorem dX4_at_9 : decode cX4_at 9 = .ok (.ifCond .ne 15, 3) := by decide +kernel
theorem dX4_at_12 : decode cX4_at 12 = .ok (.aload_n 0, 1) := by decide +kernel
theorem dX4_at_13 : decode cX4_at 13 = .ok (.iload_n 2, 1) := by decide +kernel
theorem dX4_at_14 : decode cX4_at 14 = .ok (.invokestatic 140, 3) := by decide +kernel
theorem dX4_at_17 : decode cX4_at 17 = .ok (.iconst 2, 1) := by decide +kernel
theorem dX4_at_18 : decode cX4_at 18 = .ok (.invokevirtual 33, 3) := by decide +kernel
theorem dX4_at_21 : decode cX4_at 21 = .ok (.ifCond .eq 7, 3) := by decide +kernel
theorem dX4_at_24 : decode cX4_at 24 = .ok (.iconst 0, 1) := by decide +kernel
theorem dX4_at_25 : decode cX4_at 25 = .ok (.goto 9, 3) := by decide +kernel
theorem dX4_at_28 : decode cX4_at 28 = .ok (.aload_n 0, 1) := by decide +kernel
theorem dX4_at_29 : decode cX4_at 29 = .ok (.iload_n 1, 1) := by decide +kernel
theorem dX4_at_30 : decode cX4_at 30 = .ok (.iload_n 2, 1) := by decide +kernel
theorem dX4_at_31 : decode cX4_at 31 = .ok (.invokevirtual 84, 3) := by decide +kernel
theorem dX4_at_34 : decode cX4_at 34 = .ok (.ireturn, 1) := by decide +kernel
theorem q6_93 : (Jvm.Cond.code ({ cls := "CyclepaintModel", name := "at", desc := "(II)I" } : Jvm.MethodName) prog_6_method_52_code (3 : Nat) (Option.some Jvm.ClassFile.FieldType.int)) ∈ lw_g := zg_of (zin6 (List.mem_of_getElem? (i := 93) rfl)) rfl
theorem q6_91 : (Jvm.Cond.instanceMethod ({ cls := "CyclepaintModel", name := "at", desc := "(II)I" } : Jvm.MethodName)) ∈ lw_g := zg_of (zin6 (List.mem_of_getElem? (i := 91) rfl)) rfl
theorem q6_92 : (Jvm.Cond.selects "CyclepaintModel" ({ cls := "CyclepaintModel", name := "at", desc := "(II)I" } : Jvm.MethodName) ({ cls := "CyclepaintModel", name := "at", desc := "(II)I" } : Jvm.MethodName)) ∈ lw_g := zg_of (zin6 (List.mem_of_getElem? (i := 92) rfl)) rfl
theorem ok_X4_at : zOV yX4_at cX4_at 3 ((Option.some Jvm.ClassFile.FieldType.int)) 2 := ⟨⟨q6_93, q1_3, by decide, by decide, by decide +kernel⟩, q6_91, q6_92⟩
set_option maxHeartbeats 4000000 in
set_option maxRecDepth 100000 in
theorem c_X4_at (l : Launch) (G : zG) (σ : St) (b : Nat → Nat) (th m1 m2 : Int32) (hd : inj b (mL σ)) (hO : okR σ) (e x : Int) (he : rg e) (hx : rg x) (t : Int) (ht : t = ec (!(decide (0 ≤ e) && decide (e ≤ 15))) (!(decide (0 ≤ x) && decide (x ≤ 99999)))) : Met l yX4_at (wq yX4_at cX4_at 3 ((Option.some Jvm.ClassFile.FieldType.int))) (rmM 5 110 0 0) (va_Pc [.ref (b 0), .int (zI (e)), .int (zI (x))] (zK G (hMod G σ b th m1 m2))) (zM (mA σ b) (some (.int ((if t = 0 then shw σ e x else zI 0)))) (fun H => hMod G σ b (zI t) m1 m2 H)) 0 0 (mA σ b) := by
  refine z_enterMI (by decide +kernel) (Nat.le_of_ble_eq_true rfl) ?_
  intro p env s m below meth cod Q S hG hP hS ret ls hl
  have hl : lv_has ls 3 [(0, .ref (b 0)), (1, .int (zI (e))), (2, .int (zI (x)))] := hl
  have hrn := hO.1
  refine z_aload_n S dX4_at_0 hl 0 rfl rfl ?_
  refine z_iload_n S dX4_at_1 hl 1 rfl rfl ?_
  refine z_callSs S hG (c_X4_isNoEntry l G (e) (by omega)) ok_X4_isNoEntry q5_15 (trivial) ⟨rfl, rfl, by decide, by decide⟩ ⟨Nat.zero_le _, Nat.zero_le _⟩ rfl (Nat.le_of_ble_eq_true rfl) hl.1 rfl dX4_at_2 ?_
  refine z_iconst S dX4_at_5 ?_
  cases hb_6 : (!(decide (0 ≤ e) && decide (e ≤ 15)))
  · skip
    refine z_callM S hG hS (c_X4_start l G (σ) b th m1 m2 false (1) (by omega) hd (by exact hrn)) (fun _ h => h) ok_X4_start hP.1 zc_X4 rfl q5_21 (hP) ⟨rfl, rfl, by decide, by decide⟩ ⟨Nat.le_of_ble_eq_true rfl, Nat.le_of_ble_eq_true rfl⟩ rfl (Nat.le_of_ble_eq_true rfl) hl.1 rfl dX4_at_6 (fun H_1 L_1 hB hz oq hS => ?_)
    have hP : hMod G (σ) b (zI 0) m1 m2 H_1 := hB
    refine z_bif_ne S 24 dX4_at_9 (by decide) (fun qz => ?_) (fun qz => ?_)
    · exact absurd qz (by decide)
    refine z_aload_n S dX4_at_12 hl 0 rfl rfl ?_
    refine z_iload_n S dX4_at_13 hl 2 rfl rfl ?_
    refine z_callSs S hG (c_X4_isNoTick l G (x) (by omega)) ok_X4_isNoTick q5_176 (trivial) ⟨rfl, rfl, by decide, by decide⟩ ⟨Nat.zero_le _, Nat.zero_le _⟩ rfl (Nat.le_of_ble_eq_true rfl) hl.1 rfl dX4_at_14 ?_
    refine z_iconst S dX4_at_17 ?_
    cases hb_18 : (!(decide (0 ≤ x) && decide (x ≤ 99999)))
    · skip
      refine z_callM S hG hS (c_X4_refuse l G (σ) b m1 m2 false (2) (by omega) hd (by exact hrn)) (fun _ h => h) ok_X4_refuse hP.1 zc_X4 rfl q5_25 (hP) ⟨rfl, rfl, by decide, by decide⟩ ⟨Nat.le_of_ble_eq_true rfl, Nat.le_of_ble_eq_true rfl⟩ rfl (Nat.le_of_ble_eq_true rfl) hl.1 rfl dX4_at_18 (fun H_2 L_2 hB hz oq hS => ?_)
      have hP : hMod G (σ) b (zI 0) m1 m2 H_2 := hB
      refine z_bif_eq S 28 dX4_at_21 (by decide) (fun qz => ?_) (fun qz => ?_)
      rotate_left
      · exact absurd qz (by decide)
      have he2 := no_F hb_6
      have hx2 := no_F hb_18
      refine z_aload_n S dX4_at_28 hl 0 rfl rfl ?_
      refine z_iload_n S dX4_at_29 hl 1 rfl rfl ?_
      refine z_iload_n S dX4_at_30 hl 2 rfl rfl ?_
      refine z_callVs S hG (c_X4_show l G σ b (zI 0) m1 m2 (e) (x) (by omega) (by omega)) ok_X4_show hP.1 zc_X4 rfl q5_159 (hP) ⟨rfl, rfl, by decide, by decide⟩ ⟨Nat.zero_le _, Nat.zero_le _⟩ rfl (Nat.le_of_ble_eq_true rfl) hl.1 rfl dX4_at_31 ?_
      exact ret _ _ _ _ _ _ _ dX4_at_34 (by rw [ht, ec_0 hb_6 hb_18]; exact rfl) hS (by rw [ht, ec_0 hb_6 hb_18]; exact hP) (Nat.le_of_ble_eq_true rfl) (Nat.le_of_ble_eq_true rfl)
    · skip
      refine z_callM S hG hS (c_X4_refuse l G (σ) b m1 m2 true (2) (by omega) hd (by exact hrn)) (fun _ h => h) ok_X4_refuse hP.1 zc_X4 rfl q5_25 (hP) ⟨rfl, rfl, by decide, by decide⟩ ⟨Nat.le_of_ble_eq_true rfl, Nat.le_of_ble_eq_true rfl⟩ rfl (Nat.le_of_ble_eq_true rfl) hl.1 rfl dX4_at_18 (fun H_3 L_3 hB hz oq hS => ?_)
      have hP : hMod G (σ) b (zI 2) m1 m2 H_3 := hB
      refine z_bif_eq S 28 dX4_at_21 (by decide) (fun qz => ?_) (fun qz => ?_)
      · exact absurd qz (by decide)
      refine z_iconst S dX4_at_24 ?_
      refine z_goto S 34 dX4_at_25 (by decide) ?_
      exact ret _ _ _ _ _ _ _ dX4_at_34 (by rw [ht, ec_2 hb_6 hb_18] <;> rfl) hS (by rw [ht, ec_2 hb_6 hb_18]; exact hP) (Nat.le_of_ble_eq_true rfl) (Nat.le_of_ble_eq_true rfl)
  · skip
    refine z_callM S hG hS (c_X4_start l G (σ) b th m1 m2 true (1) (by omega) hd (by exact hrn)) (fun _ h => h) ok_X4_start hP.1 zc_X4 rfl q5_21 (hP) ⟨rfl, rfl, by decide, by decide⟩ ⟨Nat.le_of_ble_eq_true rfl, Nat.le_of_ble_eq_true rfl⟩ rfl (Nat.le_of_ble_eq_true rfl) hl.1 rfl dX4_at_6 (fun H_4 L_4 hB hz oq hS => ?_)
    have hP : hMod G (σ) b (zI 1) m1 m2 H_4 := hB
    refine z_bif_ne S 24 dX4_at_9 (by decide) (fun qz => ?_) (fun qz => ?_)
    rotate_left
    · exact absurd qz (by decide)
    refine z_iconst S dX4_at_24 ?_
    refine z_goto S 34 dX4_at_25 (by decide) ?_
    exact ret _ _ _ _ _ _ _ dX4_at_34 (by rw [ht, ec_1 hb_6] <;> rfl) hS (by rw [ht, ec_1 hb_6]; exact hP) (Nat.le_of_ble_eq_true rfl) (Nat.le_of_ble_eq_true rfl)
theorem dX4_ofEntry_0 : decode cX4_ofEntry 0 = .ok (.aload_n 0, 1) := by decide +kernel
theorem dX4_ofEntry_1 : decode cX4_ofEntry 1 = .ok (.iload_n 1, 1) := by decide +kernel
theorem dX4_ofEntry_2 : decode cX4_ofEntry 2 = .ok (.invokestatic 117, 3) := by decide +kernel
theorem dX4_ofEntry_5 : decode cX4_ofEntry 5 = .ok (.iconst 1, 1) := by decide +kernel
theorem dX4_ofEntry_6 : decode cX4_ofEntry 6 = .ok (.invokevirtual 121, 3) := by decide +kernel
theorem dX4_ofEntry_9 : decode cX4_ofEntry 9 = .ok (.ifCond .ne 25, 3) := by decide +kernel
theorem dX4_ofEntry_12 : decode cX4_ofEntry 12 = .ok (.aload_n 0, 1) := by decide +kernel
theorem dX4_ofEntry_13 : decode cX4_ofEntry 13 = .ok (.iload_n 2, 1) := by decide +kernel
theorem dX4_ofEntry_14 : decode cX4_ofEntry 14 = .ok (.iconst 0, 1) := by decide +kernel
theorem dX4_ofEntry_15 : decode cX4_ofEntry 15 = .ok (.iconst 5, 1) := by decide +kernel
theorem dX4_ofEntry_16 : decode cX4_ofEntry 16 = .ok (.invokestatic 37, 3) := by decide +kernel
theorem dX4_ofEntry_19 : decode cX4_ofEntry 19 = .ok (.ifCond .ne 7, 3) := by decide +kernel
theorem dX4_ofEntry_22 : decode cX4_ofEntry 22 = .ok (.iconst 1, 1) := by decide +kernel
theorem dX4_ofEntry_23 : decode cX4_ofEntry 23 = .ok (.goto 4, 3) := by decide +kernel
theorem dX4_ofEntry_26 : decode cX4_ofEntry 26 = .ok (.iconst 0, 1) := by decide +kernel
theorem dX4_ofEntry_27 : decode cX4_ofEntry 27 = .ok (.iconst 2, 1) := by decide +kernel
theorem dX4_ofEntry_28 : decode cX4_ofEntry 28 = .ok (.invokevirtual 33, 3) := by decide +kernel
theorem dX4_ofEntry_31 : decode cX4_ofEntry 31 = .ok (.ifCond .eq 7, 3) := by decide +kernel
theorem dX4_ofEntry_34 : decode cX4_ofEntry 34 = .ok (.iconst 0, 1) := by decide +kernel
theorem dX4_ofEntry_35 : decode cX4_ofEntry 35 = .ok (.goto 9, 3) := by decide +kernel
theorem dX4_ofEntry_38 : decode cX4_ofEntry 38 = .ok (.aload_n 0, 1) := by decide +kernel
theorem dX4_ofEntry_39 : decode cX4_ofEntry 39 = .ok (.iload_n 1, 1) := by decide +kernel
theorem dX4_ofEntry_40 : decode cX4_ofEntry 40 = .ok (.iload_n 2, 1) := by decide +kernel
theorem dX4_ofEntry_41 : decode cX4_ofEntry 41 = .ok (.invokevirtual 155, 3) := by decide +kernel
theorem dX4_ofEntry_44 : decode cX4_ofEntry 44 = .ok (.ireturn, 1) := by decide +kernel
theorem q5_214 : (Jvm.Cond.methodLink "CyclepaintModel" (155 : Nat) ({ cls := "CyclepaintModel", name := "ofEntryNow", desc := "(II)I" } : Jvm.MethodName)) ∈ lw_g := zg_of (zin5 (List.mem_of_getElem? (i := 214) rfl)) rfl
theorem q5_213 : (Jvm.Cond.code ({ cls := "CyclepaintModel", name := "ofEntry", desc := "(II)I" } : Jvm.MethodName) prog_6_method_42_code (3 : Nat) (Option.some Jvm.ClassFile.FieldType.int)) ∈ lw_g := zg_of (zin5 (List.mem_of_getElem? (i := 213) rfl)) rfl
theorem q5_211 : (Jvm.Cond.instanceMethod ({ cls := "CyclepaintModel", name := "ofEntry", desc := "(II)I" } : Jvm.MethodName)) ∈ lw_g := zg_of (zin5 (List.mem_of_getElem? (i := 211) rfl)) rfl
theorem q5_212 : (Jvm.Cond.selects "CyclepaintModel" ({ cls := "CyclepaintModel", name := "ofEntry", desc := "(II)I" } : Jvm.MethodName) ({ cls := "CyclepaintModel", name := "ofEntry", desc := "(II)I" } : Jvm.MethodName)) ∈ lw_g := zg_of (zin5 (List.mem_of_getElem? (i := 212) rfl)) rfl
theorem ok_X4_ofEntry : zOV yX4_ofEntry cX4_ofEntry 3 ((Option.some Jvm.ClassFile.FieldType.int)) 2 := ⟨⟨q5_213, q1_3, by decide, by decide, by decide +kernel⟩, q5_211, q5_212⟩
set_option maxHeartbeats 4000000 in
set_option maxRecDepth 100000 in
theorem c_X4_ofEntry (l : Launch) (G : zG) (σ : St) (b : Nat → Nat) (th m1 m2 : Int32) (hd : inj b (mL σ)) (hO : okR σ) (e x : Int) (he : rg e) (hx : rg x) (hdt : ∀ d : Int, 0 ≤ d → d < 32 → 0 ≤ σ.Dt d ∧ σ.Dt d < 16) (hT : 0 ≤ σ.tk ∧ σ.tk ≤ 99999) (t : Int) (ht : t = ec (!(decide (0 ≤ e) && decide (e ≤ 15))) (!(decide (0 ≤ x) && decide (x ≤ 5)))) : Met l yX4_ofEntry (wq yX4_ofEntry cX4_ofEntry 3 ((Option.some Jvm.ClassFile.FieldType.int))) (rmM 8 184 0 0) (va_Pc [.ref (b 0), .int (zI (e)), .int (zI (x))] (zK G (hMod G σ b th m1 m2))) (zM (mA σ b) (some (.int ((if t = 0 then eM σ e x else zI 0)))) (fun H => hMod G σ b (zI t) m1 m2 H)) 0 0 (mA σ b) := by
  refine z_enterMI (by decide +kernel) (Nat.le_of_ble_eq_true rfl) ?_
  intro p env s m below meth cod Q S hG hP hS ret ls hl
  have hl : lv_has ls 3 [(0, .ref (b 0)), (1, .int (zI (e))), (2, .int (zI (x)))] := hl
  have hrn := hO.1
  refine z_aload_n S dX4_ofEntry_0 hl 0 rfl rfl ?_
  refine z_iload_n S dX4_ofEntry_1 hl 1 rfl rfl ?_
  refine z_callSs S hG (c_X4_isNoEntry l G (e) (by omega)) ok_X4_isNoEntry q5_15 (trivial) ⟨rfl, rfl, by decide, by decide⟩ ⟨Nat.zero_le _, Nat.zero_le _⟩ rfl (Nat.le_of_ble_eq_true rfl) hl.1 rfl dX4_ofEntry_2 ?_
  refine z_iconst S dX4_ofEntry_5 ?_
  cases hb_6 : (!(decide (0 ≤ e) && decide (e ≤ 15)))
  · skip
    refine z_callM S hG hS (c_X4_start l G (σ) b th m1 m2 false (1) (by omega) hd (by exact hrn)) (fun _ h => h) ok_X4_start hP.1 zc_X4 rfl q5_21 (hP) ⟨rfl, rfl, by decide, by decide⟩ ⟨Nat.le_of_ble_eq_true rfl, Nat.le_of_ble_eq_true rfl⟩ rfl (Nat.le_of_ble_eq_true rfl) hl.1 rfl dX4_ofEntry_6 (fun H_1 L_1 hB hz oq hS => ?_)
    have hP : hMod G (σ) b (zI 0) m1 m2 H_1 := hB
    refine z_bif_ne S 34 dX4_ofEntry_9 (by decide) (fun qz => ?_) (fun qz => ?_)
    · exact absurd qz (by decide)
    refine z_aload_n S dX4_ofEntry_12 hl 0 rfl rfl ?_
    refine z_iload_n S dX4_ofEntry_13 hl 2 rfl rfl ?_
    refine z_iconst S dX4_ofEntry_14 ?_
    refine z_iconst S dX4_ofEntry_15 ?_
    refine z_callSs S hG (c_X4_isIn l G (x) (0) (5) (by omega)) ok_X4_isIn q5_18 (trivial) ⟨rfl, rfl, by decide, by decide⟩ ⟨Nat.zero_le _, Nat.zero_le _⟩ rfl (Nat.le_of_ble_eq_true rfl) hl.1 rfl dX4_ofEntry_16 ?_
    refine z_bif_ne S 26 dX4_ofEntry_19 (by decide) (fun c_19 => ?_) (fun c_19 => ?_)
    · skip
      refine z_iconst S dX4_ofEntry_26 ?_
      refine z_iconst S dX4_ofEntry_27 ?_
      refine z_callM S hG hS (c_X4_refuse l G (σ) b m1 m2 false (2) (by omega) hd (by exact hrn)) (fun _ h => h) ok_X4_refuse hP.1 zc_X4 rfl q5_25 (hP) ⟨rfl, rfl, by decide, by decide⟩ ⟨Nat.le_of_ble_eq_true rfl, Nat.le_of_ble_eq_true rfl⟩ rfl (Nat.le_of_ble_eq_true rfl) hl.1 rfl dX4_ofEntry_28 (fun H_2 L_2 hB hz oq hS => ?_)
      have hP : hMod G (σ) b (zI 0) m1 m2 H_2 := hB
      refine z_bif_eq S 38 dX4_ofEntry_31 (by decide) (fun qz => ?_) (fun qz => ?_)
      rotate_left
      · exact absurd qz (by decide)
      have he2 := no_F hb_6
      have hx2 := in_T c_19
      refine z_aload_n S dX4_ofEntry_38 hl 0 rfl rfl ?_
      refine z_iload_n S dX4_ofEntry_39 hl 1 rfl rfl ?_
      refine z_iload_n S dX4_ofEntry_40 hl 2 rfl rfl ?_
      refine z_callVs S hG (c_X4_ofEntryNow l G σ b (zI 0) m1 m2 (e) (x) (by omega) (by omega) hdt hT) ok_X4_ofEntryNow hP.1 zc_X4 rfl q5_214 (hP) ⟨rfl, rfl, by decide, by decide⟩ ⟨Nat.zero_le _, Nat.zero_le _⟩ rfl (Nat.le_of_ble_eq_true rfl) hl.1 rfl dX4_ofEntry_41 ?_
      exact ret _ _ _ _ _ _ _ dX4_ofEntry_44 (by rw [ht, ec_0 hb_6 (by rw [c_19] <;> rfl)]; exact rfl) hS (by rw [ht, ec_0 hb_6 (by rw [c_19] <;> rfl)]; exact hP) (Nat.le_of_ble_eq_true rfl) (Nat.le_of_ble_eq_true rfl)
    · skip
      refine z_iconst S dX4_ofEntry_22 ?_
      refine z_goto S 27 dX4_ofEntry_23 (by decide) ?_
      refine z_iconst S dX4_ofEntry_27 ?_
      refine z_callM S hG hS (c_X4_refuse l G (σ) b m1 m2 true (2) (by omega) hd (by exact hrn)) (fun _ h => h) ok_X4_refuse hP.1 zc_X4 rfl q5_25 (hP) ⟨rfl, rfl, by decide, by decide⟩ ⟨Nat.le_of_ble_eq_true rfl, Nat.le_of_ble_eq_true rfl⟩ rfl (Nat.le_of_ble_eq_true rfl) hl.1 rfl dX4_ofEntry_28 (fun H_3 L_3 hB hz oq hS => ?_)
      have hP : hMod G (σ) b (zI 2) m1 m2 H_3 := hB
      refine z_bif_eq S 38 dX4_ofEntry_31 (by decide) (fun qz => ?_) (fun qz => ?_)
      · exact absurd qz (by decide)
      refine z_iconst S dX4_ofEntry_34 ?_
      refine z_goto S 44 dX4_ofEntry_35 (by decide) ?_
      exact ret _ _ _ _ _ _ _ dX4_ofEntry_44 (by rw [ht, ec_2 hb_6 (by rw [c_19] <;> rfl)] <;> rfl) hS (by rw [ht, ec_2 hb_6 (by rw [c_19] <;> rfl)]; exact hP) (Nat.le_of_ble_eq_true rfl) (Nat.le_of_ble_eq_true rfl)
  · skip
    refine z_callM S hG hS (c_X4_start l G (σ) b th m1 m2 true (1) (by omega) hd (by exact hrn)) (fun _ h => h) ok_X4_start hP.1 zc_X4 rfl q5_21 (hP) ⟨rfl, rfl, by decide, by decide⟩ ⟨Nat.le_of_ble_eq_true rfl, Nat.le_of_ble_eq_true rfl⟩ rfl (Nat.le_of_ble_eq_true rfl) hl.1 rfl dX4_ofEntry_6 (fun H_4 L_4 hB hz oq hS => ?_)
    have hP : hMod G (σ) b (zI 1) m1 m2 H_4 := hB
    refine z_bif_ne S 34 dX4_ofEntry_9 (by decide) (fun qz => ?_) (fun qz => ?_)
    rotate_left
    · exact absurd qz (by decide)
    refine z_iconst S dX4_ofEntry_34 ?_
    refine z_goto S 44 dX4_ofEntry_35 (by decide) ?_
    exact ret _ _ _ _ _ _ _ dX4_ofEntry_44 (by rw [ht, ec_1 hb_6] <;> rfl) hS (by rw [ht, ec_1 hb_6]; exact hP) (Nat.le_of_ble_eq_true rfl) (Nat.le_of_ble_eq_true rfl)
theorem dX4_picture_0 : decode cX4_picture 0 = .ok (.aload_n 0, 1) := by decide +kernel
theorem dX4_picture_1 : decode cX4_picture 1 = .ok (.iload_n 1, 1) := by decide +kernel
theorem dX4_picture_2 : decode cX4_picture 2 = .ok (.iconst 0, 1) := by decide +kernel
theorem dX4_picture_3 : decode cX4_picture 3 = .ok (.bipush 11, 2) := by decide +kernel
theorem dX4_picture_5 : decode cX4_picture 5 = .ok (.invokestatic 37, 3) := by decide +kernel
theorem dX4_picture_8 : decode cX4_picture 8 = .ok (.ifCond .ne 7, 3) := by decide +kernel
theorem dX4_picture_11 : decode cX4_picture 11 = .ok (.iconst 1, 1) := by decide +kernel
theorem dX4_picture_12 : decode cX4_picture 12 = .ok (.goto 4, 3) := by decide +kernel
theorem dX4_picture_15 : decode cX4_picture 15 = .ok (.iconst 0, 1) := by decide +kernel
theorem dX4_picture_16 : decode cX4_picture 16 = .ok (.iconst 1, 1) := by decide +kernel
theorem dX4_picture_17 : decode cX4_picture 17 = .ok (.invokevirtual 121, 3) := by decide +kernel
theorem dX4_picture_20 : decode cX4_picture 20 = .ok (.ifCond .eq 7, 3) := by decide +kernel
theorem dX4_picture_23 : decode cX4_picture 23 = .ok (.iconst 0, 1) := by decide +kernel
theorem dX4_picture_24 : decode cX4_picture 24 = .ok (.goto 8, 3) := by decide +kernel
theorem dX4_picture_27 : decode cX4_picture 27 = .ok (.aload_n 0, 1) := by decide +kernel
theorem dX4_picture_28 : decode cX4_picture 28 = .ok (.iload_n 1, 1) := by decide +kernel
theorem dX4_picture_29 : decode cX4_picture 29 = .ok (.invokevirtual 183, 3) := by decide +kernel
theorem dX4_picture_32 : decode cX4_picture 32 = .ok (.ireturn, 1) := by decide +kernel
theorem q5_234 : (Jvm.Cond.methodLink "CyclepaintModel" (183 : Nat) ({ cls := "CyclepaintModel", name := "pictureNow", desc := "(I)I" } : Jvm.MethodName)) ∈ lw_g := zg_of (zin5 (List.mem_of_getElem? (i := 234) rfl)) rfl
theorem q5_233 : (Jvm.Cond.code ({ cls := "CyclepaintModel", name := "picture", desc := "(I)I" } : Jvm.MethodName) prog_6_method_48_code (2 : Nat) (Option.some Jvm.ClassFile.FieldType.int)) ∈ lw_g := zg_of (zin5 (List.mem_of_getElem? (i := 233) rfl)) rfl
theorem q5_231 : (Jvm.Cond.instanceMethod ({ cls := "CyclepaintModel", name := "picture", desc := "(I)I" } : Jvm.MethodName)) ∈ lw_g := zg_of (zin5 (List.mem_of_getElem? (i := 231) rfl)) rfl
theorem q5_232 : (Jvm.Cond.selects "CyclepaintModel" ({ cls := "CyclepaintModel", name := "picture", desc := "(I)I" } : Jvm.MethodName) ({ cls := "CyclepaintModel", name := "picture", desc := "(I)I" } : Jvm.MethodName)) ∈ lw_g := zg_of (zin5 (List.mem_of_getElem? (i := 232) rfl)) rfl
theorem ok_X4_picture : zOV yX4_picture cX4_picture 2 ((Option.some Jvm.ClassFile.FieldType.int)) 1 := ⟨⟨q5_233, q1_3, by decide, by decide, by decide +kernel⟩, q5_231, q5_232⟩
set_option maxHeartbeats 4000000 in
set_option maxRecDepth 100000 in
theorem c_X4_picture (l : Launch) (G : zG) (σ : St) (b : Nat → Nat) (th m1 m2 : Int32) (hd : inj b (mL σ)) (hO : okR σ) (x : Int) (hx : rg x) (hdt : ∀ d : Int, 0 ≤ d → d < 32 → 0 ≤ σ.Dt d ∧ σ.Dt d < 16) (hT : 0 ≤ σ.tk ∧ σ.tk ≤ 99999) (hlm : 0 ≤ σ.lim ∧ σ.lim ≤ 32) (t : Int) (ht : t = ec (!(decide (0 ≤ x) && decide (x ≤ 11))) (false)) : Met l yX4_picture (wq yX4_picture cX4_picture 2 ((Option.some Jvm.ClassFile.FieldType.int))) (rmM 10 221 0 0) (va_Pc [.ref (b 0), .int (zI (x))] (zK G (hMod G σ b th m1 m2))) (zM (mA σ b) (some (.int ((if t = 0 then pM σ x else zI 0)))) (fun H => hMod G σ b (zI t) m1 m2 H)) 0 0 (mA σ b) := by
  refine z_enterMI (by decide +kernel) (Nat.le_of_ble_eq_true rfl) ?_
  intro p env s m below meth cod Q S hG hP hS ret ls hl
  have hl : lv_has ls 2 [(0, .ref (b 0)), (1, .int (zI (x)))] := hl
  have hrn := hO.1
  refine z_aload_n S dX4_picture_0 hl 0 rfl rfl ?_
  refine z_iload_n S dX4_picture_1 hl 1 rfl rfl ?_
  refine z_iconst S dX4_picture_2 ?_
  refine z_bipush S dX4_picture_3 rfl ?_
  refine z_callSs S hG (c_X4_isIn l G (x) (0) (11) (by omega)) ok_X4_isIn q5_18 (trivial) ⟨rfl, rfl, by decide, by decide⟩ ⟨Nat.zero_le _, Nat.zero_le _⟩ rfl (Nat.le_of_ble_eq_true rfl) hl.1 rfl dX4_picture_5 ?_
  refine z_bif_ne S 15 dX4_picture_8 (by decide) (fun c_8 => ?_) (fun c_8 => ?_)
  · skip
    refine z_iconst S dX4_picture_15 ?_
    refine z_iconst S dX4_picture_16 ?_
    refine z_callM S hG hS (c_X4_start l G (σ) b th m1 m2 false (1) (by omega) hd (by exact hrn)) (fun _ h => h) ok_X4_start hP.1 zc_X4 rfl q5_21 (hP) ⟨rfl, rfl, by decide, by decide⟩ ⟨Nat.le_of_ble_eq_true rfl, Nat.le_of_ble_eq_true rfl⟩ rfl (Nat.le_of_ble_eq_true rfl) hl.1 rfl dX4_picture_17 (fun H_1 L_1 hB hz oq hS => ?_)
    have hP : hMod G (σ) b (zI 0) m1 m2 H_1 := hB
    refine z_bif_eq S 27 dX4_picture_20 (by decide) (fun qz => ?_) (fun qz => ?_)
    rotate_left
    · exact absurd qz (by decide)
    have hx2 := in_T c_8
    refine z_aload_n S dX4_picture_27 hl 0 rfl rfl ?_
    refine z_iload_n S dX4_picture_28 hl 1 rfl rfl ?_
    refine z_callVs S hG (c_X4_pictureNow l G σ b (zI 0) m1 m2 (x) (by omega) hdt hT hlm) ok_X4_pictureNow hP.1 zc_X4 rfl q5_234 (hP) ⟨rfl, rfl, by decide, by decide⟩ ⟨Nat.zero_le _, Nat.zero_le _⟩ rfl (Nat.le_of_ble_eq_true rfl) hl.1 rfl dX4_picture_29 ?_
    exact ret _ _ _ _ _ _ _ dX4_picture_32 (by rw [ht, ec_0 (by rw [c_8] <;> rfl) rfl]; exact rfl) hS (by rw [ht, ec_0 (by rw [c_8] <;> rfl) rfl]; exact hP) (Nat.le_of_ble_eq_true rfl) (Nat.le_of_ble_eq_true rfl)
  · skip
    refine z_iconst S dX4_picture_11 ?_
    refine z_goto S 16 dX4_picture_12 (by decide) ?_
    refine z_iconst S dX4_picture_16 ?_
    refine z_callM S hG hS (c_X4_start l G (σ) b th m1 m2 true (1) (by omega) hd (by exact hrn)) (fun _ h => h) ok_X4_start hP.1 zc_X4 rfl q5_21 (hP) ⟨rfl, rfl, by decide, by decide⟩ ⟨Nat.le_of_ble_eq_true rfl, Nat.le_of_ble_eq_true rfl⟩ rfl (Nat.le_of_ble_eq_true rfl) hl.1 rfl dX4_picture_17 (fun H_2 L_2 hB hz oq hS => ?_)
    have hP : hMod G (σ) b (zI 1) m1 m2 H_2 := hB
    refine z_bif_eq S 27 dX4_picture_20 (by decide) (fun qz => ?_) (fun qz => ?_)
    · exact absurd qz (by decide)
    refine z_iconst S dX4_picture_23 ?_
    refine z_goto S 32 dX4_picture_24 (by decide) ?_
    exact ret _ _ _ _ _ _ _ dX4_picture_32 (by rw [ht, ec_1 (by rw [c_8] <;> rfl)] <;> rfl) hS (by rw [ht, ec_1 (by rw [c_8] <;> rfl)]; exact hP) (Nat.le_of_ble_eq_true rfl) (Nat.le_of_ble_eq_true rfl)
theorem dX4_dot_0 : decode cX4_dot 0 = .ok (.aload_n 0, 1) := by decide +kernel
theorem dX4_dot_1 : decode cX4_dot 1 = .ok (.iload_n 1, 1) := by decide +kernel
theorem dX4_dot_2 : decode cX4_dot 2 = .ok (.iconst 0, 1) := by decide +kernel
theorem dX4_dot_3 : decode cX4_dot 3 = .ok (.iconst 3, 1) := by decide +kernel
theorem dX4_dot_4 : decode cX4_dot 4 = .ok (.invokestatic 37, 3) := by decide +kernel
theorem dX4_dot_7 : decode cX4_dot 7 = .ok (.ifCond .eq 13, 3) := by decide +kernel
theorem dX4_dot_10 : decode cX4_dot 10 = .ok (.iload_n 2, 1) := by decide +kernel
theorem dX4_dot_11 : decode cX4_dot 11 = .ok (.iconst 0, 1) := by decide +kernel
theorem dX4_dot_12 : decode cX4_dot 12 = .ok (.bipush 7, 2) := by decide +kernel
theorem dX4_dot_14 : decode cX4_dot 14 = .ok (.invokestatic 37, 3) := by decide +kernel
theorem dX4_dot_17 : decode cX4_dot 17 = .ok (.ifCond .ne 7, 3) := by decide +kernel
theorem dX4_dot_20 : decode cX4_dot 20 = .ok (.iconst 1, 1) := by decide +kernel
theorem dX4_dot_21 : decode cX4_dot 21 = .ok (.goto 4, 3) := by decide +kernel
theorem dX4_dot_24 : decode cX4_dot 24 = .ok (.iconst 0, 1) := by decide +kernel
theorem dX4_dot_25 : decode cX4_dot 25 = .ok (.iconst 1, 1) := by decide +kernel
theorem dX4_dot_26 : decode cX4_dot 26 = .ok (.invokevirtual 121, 3) := by decide +kernel
theorem dX4_dot_29 : decode cX4_dot 29 = .ok (.ifCond .ne 25, 3) := by decide +kernel
theorem dX4_dot_32 : decode cX4_dot 32 = .ok (.aload_n 0, 1) := by decide +kernel
theorem dX4_dot_33 : decode cX4_dot 33 = .ok (.iload_n 3, 1) := by decide +kernel
theorem dX4_dot_34 : decode cX4_dot 34 = .ok (.iconst 0, 1) := by decide +kernel
theorem dX4_dot_35 : decode cX4_dot 35 = .ok (.iconst 3, 1) := by decide +kernel
theorem dX4_dot_36 : decode cX4_dot 36 = .ok (.invokestatic 37, 3) := by decide +kernel
theorem dX4_dot_39 : decode cX4_dot 39 = .ok (.ifCond .ne 7, 3) := by decide +kernel
theorem dX4_dot_42 : decode cX4_dot 42 = .ok (.iconst 1, 1) := by decide +kernel
theorem dX4_dot_43 : decode cX4_dot 43 = .ok (.goto 4, 3) := by decide +kernel
theorem dX4_dot_46 : decode cX4_dot 46 = .ok (.iconst 0, 1) := by decide +kernel
theorem dX4_dot_47 : decode cX4_dot 47 = .ok (.iconst 2, 1) := by decide +kernel
theorem dX4_dot_48 : decode cX4_dot 48 = .ok (.invokevirtual 33, 3) := by decide +kernel
theorem dX4_dot_51 : decode cX4_dot 51 = .ok (.ifCond .eq 7, 3) := by decide +kernel
theorem dX4_dot_54 : decode cX4_dot 54 = .ok (.iconst 0, 1) := by decide +kernel
theorem dX4_dot_55 : decode cX4_dot 55 = .ok (.goto 14, 3) := by decide +kernel
theorem dX4_dot_58 : decode cX4_dot 58 = .ok (.aload_n 0, 1) := by decide +kernel
theorem dX4_dot_59 : decode cX4_dot 59 = .ok (.bipush 8, 2) := by decide +kernel
theorem dX4_dot_61 : decode cX4_dot 61 = .ok (.iload_n 1, 1) := by decide +kernel
theorem dX4_dot_62 : decode cX4_dot 62 = .ok (.imul, 1) := by decide +kernel
theorem dX4_dot_63 : decode cX4_dot 63 = .ok (.iload_n 2, 1) := by decide +kernel
theorem dX4_dot_64 : decode cX4_dot 64 = .ok (.iadd, 1) := by decide +kernel
theorem dX4_dot_65 : decode cX4_dot 65 = .ok (.iload_n 3, 1) := by decide +kernel
theorem dX4_dot_66 : decode cX4_dot 66 = .ok (.invokevirtual 149, 3) := by decide +kernel
theorem dX4_dot_69 : decode cX4_dot 69 = .ok (.ireturn, 1) := by decide +kernel
theorem q5_203 : (Jvm.Cond.methodLink "CyclepaintModel" (149 : Nat) ({ cls := "CyclepaintModel", name := "dotNow", desc := "(II)I" } : Jvm.MethodName)) ∈ lw_g := zg_of (zin5 (List.mem_of_getElem? (i := 203) rfl)) rfl
theorem q5_202 : (Jvm.Cond.code ({ cls := "CyclepaintModel", name := "dot", desc := "(III)I" } : Jvm.MethodName) prog_6_method_40_code (4 : Nat) (Option.some Jvm.ClassFile.FieldType.int)) ∈ lw_g := zg_of (zin5 (List.mem_of_getElem? (i := 202) rfl)) rfl
theorem q5_200 : (Jvm.Cond.instanceMethod ({ cls := "CyclepaintModel", name := "dot", desc := "(III)I" } : Jvm.MethodName)) ∈ lw_g := zg_of (zin5 (List.mem_of_getElem? (i := 200) rfl)) rfl
theorem q5_201 : (Jvm.Cond.selects "CyclepaintModel" ({ cls := "CyclepaintModel", name := "dot", desc := "(III)I" } : Jvm.MethodName) ({ cls := "CyclepaintModel", name := "dot", desc := "(III)I" } : Jvm.MethodName)) ∈ lw_g := zg_of (zin5 (List.mem_of_getElem? (i := 201) rfl)) rfl
theorem ok_X4_dot : zOV yX4_dot cX4_dot 4 ((Option.some Jvm.ClassFile.FieldType.int)) 3 := ⟨⟨q5_202, q1_3, by decide, by decide, by decide +kernel⟩, q5_200, q5_201⟩
set_option maxHeartbeats 4000000 in
set_option maxRecDepth 100000 in
theorem c_X4_dot (l : Launch) (G : zG) (σ : St) (b : Nat → Nat) (th m1 m2 : Int32) (hd : inj b (mL σ)) (hO : okR σ) (q i x : Int) (hp : rg q) (hi : rg i) (hx : rg x) (hdt : ∀ d : Int, 0 ≤ d → d < 32 → 0 ≤ σ.Dt d ∧ σ.Dt d < 16) (hT : 0 ≤ σ.tk ∧ σ.tk ≤ 99999) (t : Int) (ht : t = ec (!((decide (0 ≤ q) && decide (q ≤ 3)) && (decide (0 ≤ i) && decide (i ≤ 7)))) (!(decide (0 ≤ x) && decide (x ≤ 3)))) : Met l yX4_dot (wq yX4_dot cX4_dot 4 ((Option.some Jvm.ClassFile.FieldType.int))) (rmM 7 156 0 0) (va_Pc [.ref (b 0), .int (zI (q)), .int (zI (i)), .int (zI (x))] (zK G (hMod G σ b th m1 m2))) (zM (mA σ b) (some (.int ((if t = 0 then dF σ (8 * q + i) x else zI 0)))) (fun H => hMod G σ b (zI t) m1 m2 H)) 0 0 (mA σ b) := by
  refine z_enterMI (by decide +kernel) (Nat.le_of_ble_eq_true rfl) ?_
  intro p env s m below meth cod Q S hG hP hS ret ls hl
  have hl : lv_has ls 4 [(0, .ref (b 0)), (1, .int (zI (q))), (2, .int (zI (i))), (3, .int (zI (x)))] := hl
  have hrn := hO.1
  refine z_aload_n S dX4_dot_0 hl 0 rfl rfl ?_
  refine z_iload_n S dX4_dot_1 hl 1 rfl rfl ?_
  refine z_iconst S dX4_dot_2 ?_
  refine z_iconst S dX4_dot_3 ?_
  refine z_callSs S hG (c_X4_isIn l G (q) (0) (3) (by omega)) ok_X4_isIn q5_18 (trivial) ⟨rfl, rfl, by decide, by decide⟩ ⟨Nat.zero_le _, Nat.zero_le _⟩ rfl (Nat.le_of_ble_eq_true rfl) hl.1 rfl dX4_dot_4 ?_
  refine z_bif_eq S 20 dX4_dot_7 (by decide) (fun c_7 => ?_) (fun c_7 => ?_)
  · skip
    refine z_iconst S dX4_dot_20 ?_
    refine z_goto S 25 dX4_dot_21 (by decide) ?_
    refine z_iconst S dX4_dot_25 ?_
    refine z_callM S hG hS (c_X4_start l G (σ) b th m1 m2 true (1) (by omega) hd (by exact hrn)) (fun _ h => h) ok_X4_start hP.1 zc_X4 rfl q5_21 (hP) ⟨rfl, rfl, by decide, by decide⟩ ⟨Nat.le_of_ble_eq_true rfl, Nat.le_of_ble_eq_true rfl⟩ rfl (Nat.le_of_ble_eq_true rfl) hl.1 rfl dX4_dot_26 (fun H_1 L_1 hB hz oq hS => ?_)
    have hP : hMod G (σ) b (zI 1) m1 m2 H_1 := hB
    refine z_bif_ne S 54 dX4_dot_29 (by decide) (fun qz => ?_) (fun qz => ?_)
    rotate_left
    · exact absurd qz (by decide)
    refine z_iconst S dX4_dot_54 ?_
    refine z_goto S 69 dX4_dot_55 (by decide) ?_
    exact ret _ _ _ _ _ _ _ dX4_dot_69 (by rw [ht, ec_1 (by rw [c_7] <;> rfl)] <;> rfl) hS (by rw [ht, ec_1 (by rw [c_7] <;> rfl)]; exact hP) (Nat.le_of_ble_eq_true rfl) (Nat.le_of_ble_eq_true rfl)
  · skip
    refine z_iload_n S dX4_dot_10 hl 2 rfl rfl ?_
    refine z_iconst S dX4_dot_11 ?_
    refine z_bipush S dX4_dot_12 rfl ?_
    refine z_callSs S hG (c_X4_isIn l G (i) (0) (7) (by omega)) ok_X4_isIn q5_18 (trivial) ⟨rfl, rfl, by decide, by decide⟩ ⟨Nat.zero_le _, Nat.zero_le _⟩ rfl (Nat.le_of_ble_eq_true rfl) hl.1 rfl dX4_dot_14 ?_
    refine z_bif_ne S 24 dX4_dot_17 (by decide) (fun c_17 => ?_) (fun c_17 => ?_)
    · skip
      refine z_iconst S dX4_dot_24 ?_
      refine z_iconst S dX4_dot_25 ?_
      refine z_callM S hG hS (c_X4_start l G (σ) b th m1 m2 false (1) (by omega) hd (by exact hrn)) (fun _ h => h) ok_X4_start hP.1 zc_X4 rfl q5_21 (hP) ⟨rfl, rfl, by decide, by decide⟩ ⟨Nat.le_of_ble_eq_true rfl, Nat.le_of_ble_eq_true rfl⟩ rfl (Nat.le_of_ble_eq_true rfl) hl.1 rfl dX4_dot_26 (fun H_2 L_2 hB hz oq hS => ?_)
      have hP : hMod G (σ) b (zI 0) m1 m2 H_2 := hB
      refine z_bif_ne S 54 dX4_dot_29 (by decide) (fun qz => ?_) (fun qz => ?_)
      · exact absurd qz (by decide)
      refine z_aload_n S dX4_dot_32 hl 0 rfl rfl ?_
      refine z_iload_n S dX4_dot_33 hl 3 rfl rfl ?_
      refine z_iconst S dX4_dot_34 ?_
      refine z_iconst S dX4_dot_35 ?_
      refine z_callSs S hG (c_X4_isIn l G (x) (0) (3) (by omega)) ok_X4_isIn q5_18 (trivial) ⟨rfl, rfl, by decide, by decide⟩ ⟨Nat.zero_le _, Nat.zero_le _⟩ rfl (Nat.le_of_ble_eq_true rfl) hl.1 rfl dX4_dot_36 ?_
      refine z_bif_ne S 46 dX4_dot_39 (by decide) (fun c_39 => ?_) (fun c_39 => ?_)
      · skip
        refine z_iconst S dX4_dot_46 ?_
        refine z_iconst S dX4_dot_47 ?_
        refine z_callM S hG hS (c_X4_refuse l G (σ) b m1 m2 false (2) (by omega) hd (by exact hrn)) (fun _ h => h) ok_X4_refuse hP.1 zc_X4 rfl q5_25 (hP) ⟨rfl, rfl, by decide, by decide⟩ ⟨Nat.le_of_ble_eq_true rfl, Nat.le_of_ble_eq_true rfl⟩ rfl (Nat.le_of_ble_eq_true rfl) hl.1 rfl dX4_dot_48 (fun H_3 L_3 hB hz oq hS => ?_)
        have hP : hMod G (σ) b (zI 0) m1 m2 H_3 := hB
        refine z_bif_eq S 58 dX4_dot_51 (by decide) (fun qz => ?_) (fun qz => ?_)
        rotate_left
        · exact absurd qz (by decide)
        have hp2 := in_T c_7
        have hi2 := in_T c_17
        have hx2 := in_T c_39
        refine z_aload_n S dX4_dot_58 hl 0 rfl rfl ?_
        refine z_bipush S dX4_dot_59 rfl ?_
        refine z_iload_n S dX4_dot_61 hl 1 rfl rfl ?_
        refine z_imul S dX4_dot_62 ?_
        refine z_iload_n S dX4_dot_63 hl 2 rfl rfl ?_
        refine z_iadd S dX4_dot_64 ?_
        refine z_iload_n S dX4_dot_65 hl 3 rfl rfl ?_
        refine z_callVs S hG (c_X4_dotNow l G σ b (zI 0) m1 m2 (((8) * (q)) + (i)) (x) (by omega) (by omega) hdt hT) ok_X4_dotNow hP.1 zc_X4 rfl q5_203 (hP) ⟨rfl, rfl, by decide, by decide⟩ ⟨Nat.zero_le _, Nat.zero_le _⟩ rfl (Nat.le_of_ble_eq_true rfl) hl.1 rfl dX4_dot_66 ?_
        exact ret _ _ _ _ _ _ _ dX4_dot_69 (by rw [ht, ec_0 (by rw [c_7, c_17] <;> rfl) (by rw [c_39] <;> rfl)]; exact rfl) hS (by rw [ht, ec_0 (by rw [c_7, c_17] <;> rfl) (by rw [c_39] <;> rfl)]; exact hP) (Nat.le_of_ble_eq_true rfl) (Nat.le_of_ble_eq_true rfl)
      · skip
        refine z_iconst S dX4_dot_42 ?_
        refine z_goto S 47 dX4_dot_43 (by decide) ?_
        refine z_iconst S dX4_dot_47 ?_
        refine z_callM S hG hS (c_X4_refuse l G (σ) b m1 m2 true (2) (by omega) hd (by exact hrn)) (fun _ h => h) ok_X4_refuse hP.1 zc_X4 rfl q5_25 (hP) ⟨rfl, rfl, by decide, by decide⟩ ⟨Nat.le_of_ble_eq_true rfl, Nat.le_of_ble_eq_true rfl⟩ rfl (Nat.le_of_ble_eq_true rfl) hl.1 rfl dX4_dot_48 (fun H_4 L_4 hB hz oq hS => ?_)
        have hP : hMod G (σ) b (zI 2) m1 m2 H_4 := hB
        refine z_bif_eq S 58 dX4_dot_51 (by decide) (fun qz => ?_) (fun qz => ?_)
        · exact absurd qz (by decide)
        refine z_iconst S dX4_dot_54 ?_
        refine z_goto S 69 dX4_dot_55 (by decide) ?_
        exact ret _ _ _ _ _ _ _ dX4_dot_69 (by rw [ht, ec_2 (by rw [c_7, c_17] <;> rfl) (by rw [c_39] <;> rfl)] <;> rfl) hS (by rw [ht, ec_2 (by rw [c_7, c_17] <;> rfl) (by rw [c_39] <;> rfl)]; exact hP) (Nat.le_of_ble_eq_true rfl) (Nat.le_of_ble_eq_true rfl)
    · skip
      refine z_iconst S dX4_dot_20 ?_
      refine z_goto S 25 dX4_dot_21 (by decide) ?_
      refine z_iconst S dX4_dot_25 ?_
      refine z_callM S hG hS (c_X4_start l G (σ) b th m1 m2 true (1) (by omega) hd (by exact hrn)) (fun _ h => h) ok_X4_start hP.1 zc_X4 rfl q5_21 (hP) ⟨rfl, rfl, by decide, by decide⟩ ⟨Nat.le_of_ble_eq_true rfl, Nat.le_of_ble_eq_true rfl⟩ rfl (Nat.le_of_ble_eq_true rfl) hl.1 rfl dX4_dot_26 (fun H_5 L_5 hB hz oq hS => ?_)
      have hP : hMod G (σ) b (zI 1) m1 m2 H_5 := hB
      refine z_bif_ne S 54 dX4_dot_29 (by decide) (fun qz => ?_) (fun qz => ?_)
      rotate_left
      · exact absurd qz (by decide)
      refine z_iconst S dX4_dot_54 ?_
      refine z_goto S 69 dX4_dot_55 (by decide) ?_
      exact ret _ _ _ _ _ _ _ dX4_dot_69 (by rw [ht, ec_1 (by rw [c_7, c_17] <;> rfl)] <;> rfl) hS (by rw [ht, ec_1 (by rw [c_7, c_17] <;> rfl)]; exact hP) (Nat.le_of_ble_eq_true rfl) (Nat.le_of_ble_eq_true rfl)
theorem dX4_find_0 : decode cX4_find 0 = .ok (.aload_n 0, 1) := by decide +kernel
theorem dX4_find_1 : decode cX4_find 1 = .ok (.iload_n 1, 1) := by decide +kernel
theorem dX4_find_2 : decode cX4_find 2 = .ok (.invokestatic 117, 3) := by decide +kernel
theorem dX4_find_5 : decode cX4_find 5 = .ok (.iconst 1, 1) := by decide +kernel
theorem dX4_find_6 : decode cX4_find 6 = .ok (.invokevirtual 121, 3) := by decide +kernel
theorem dX4_find_9 : decode cX4_find 9 = .ok (.ifCond .ne 30, 3) := by decide +kernel
theorem dX4_find_12 : decode cX4_find 12 = .ok (.aload_n 0, 1) := by decide +kernel
theorem dX4_find_13 : decode cX4_find 13 = .ok (.iload_n 2, 1) := by decide +kernel
theorem dX4_find_14 : decode cX4_find 14 = .ok (.invokestatic 124, 3) := by decide +kernel
theorem dX4_find_17 : decode cX4_find 17 = .ok (.ifCond .ne 10, 3) := by decide +kernel
theorem dX4_find_20 : decode cX4_find 20 = .ok (.iload_n 3, 1) := by decide +kernel
theorem dX4_find_21 : decode cX4_find 21 = .ok (.invokestatic 140, 3) := by decide +kernel
theorem dX4_find_24 : decode cX4_find 24 = .ok (.ifCond .eq 7, 3) := by decide +kernel
theorem dX4_find_27 : decode cX4_find 27 = .ok (.iconst 1, 1) := by decide +kernel
theorem dX4_find_28 : decode cX4_find 28 = .ok (.goto 4, 3) := by decide +kernel
theorem dX4_find_31 : decode cX4_find 31 = .ok (.iconst 0, 1) := by decide +kernel
theorem dX4_find_32 : decode cX4_find 32 = .ok (.iconst 2, 1) := by decide +kernel
theorem dX4_find_33 : decode cX4_find 33 = .ok (.invokevirtual 33, 3) := by decide +kernel
theorem dX4_find_36 : decode cX4_find 36 = .ok (.ifCond .eq 7, 3) := by decide +kernel
theorem dX4_find_39 : decode cX4_find 39 = .ok (.iconst 0, 1) := by decide +kernel
theorem dX4_find_40 : decode cX4_find 40 = .ok (.goto 10, 3) := by decide +kernel
theorem dX4_find_43 : decode cX4_find 43 = .ok (.aload_n 0, 1) := by decide +kernel
theorem dX4_find_44 : decode cX4_find 44 = .ok (.iload_n 1, 1) := by decide +kernel
theorem dX4_find_45 : decode cX4_find 45 = .ok (.iload_n 2, 1) := by decide +kernel
theorem dX4_find_46 : decode cX4_find 46 = .ok (.iload_n 3, 1) := by decide +kernel
theorem dX4_find_47 : decode cX4_find 47 = .ok (.invokevirtual 207, 3) := by decide +kernel
theorem dX4_find_50 : decode cX4_find 50 = .ok (.ireturn, 1) := by decide +kernel
theorem q6_98 : (Jvm.Cond.methodLink "CyclepaintModel" (207 : Nat) ({ cls := "CyclepaintModel", name := "findNow", desc := "(III)I" } : Jvm.MethodName)) ∈ lw_g := zg_of (zin6 (List.mem_of_getElem? (i := 98) rfl)) rfl
theorem q6_97 : (Jvm.Cond.code ({ cls := "CyclepaintModel", name := "find", desc := "(III)I" } : Jvm.MethodName) prog_6_method_54_code (4 : Nat) (Option.some Jvm.ClassFile.FieldType.int)) ∈ lw_g := zg_of (zin6 (List.mem_of_getElem? (i := 97) rfl)) rfl
theorem q6_95 : (Jvm.Cond.instanceMethod ({ cls := "CyclepaintModel", name := "find", desc := "(III)I" } : Jvm.MethodName)) ∈ lw_g := zg_of (zin6 (List.mem_of_getElem? (i := 95) rfl)) rfl
theorem q6_96 : (Jvm.Cond.selects "CyclepaintModel" ({ cls := "CyclepaintModel", name := "find", desc := "(III)I" } : Jvm.MethodName) ({ cls := "CyclepaintModel", name := "find", desc := "(III)I" } : Jvm.MethodName)) ∈ lw_g := zg_of (zin6 (List.mem_of_getElem? (i := 96) rfl)) rfl
theorem ok_X4_find : zOV yX4_find cX4_find 4 ((Option.some Jvm.ClassFile.FieldType.int)) 3 := ⟨⟨q6_97, q1_3, by decide, by decide, by decide +kernel⟩, q6_95, q6_96⟩
set_option maxHeartbeats 4000000 in
set_option maxRecDepth 100000 in
theorem c_X4_find (l : Launch) (G : zG) (σ : St) (b : Nat → Nat) (th m1 m2 : Int32) (hd : inj b (mL σ)) (hO : okR σ) (e x f : Int) (he : rg e) (hx : rg x) (hf : rg f) (t : Int) (ht : t = ec (!(decide (0 ≤ e) && decide (e ≤ 15))) (!(decide (0 ≤ x) && decide (x ≤ 63)) || !(decide (0 ≤ f) && decide (f ≤ 99999)))) : Met l yX4_find (wq yX4_find cX4_find 4 ((Option.some Jvm.ClassFile.FieldType.int))) (rmM 6 134 0 0) (va_Pc [.ref (b 0), .int (zI (e)), .int (zI (x)), .int (zI (f))] (zK G (hMod G σ b th m1 m2))) (zM (mA σ b) (some (.int ((if t = 0 then zI (fnd σ e (zI x) f) else zI 0)))) (fun H => hMod G σ b (zI t) m1 m2 H)) 0 0 (mA σ b) := by
  refine z_enterMI (by decide +kernel) (Nat.le_of_ble_eq_true rfl) ?_
  intro p env s m below meth cod Q S hG hP hS ret ls hl
  have hl : lv_has ls 4 [(0, .ref (b 0)), (1, .int (zI (e))), (2, .int (zI (x))), (3, .int (zI (f)))] := hl
  have hrn := hO.1
  refine z_aload_n S dX4_find_0 hl 0 rfl rfl ?_
  refine z_iload_n S dX4_find_1 hl 1 rfl rfl ?_
  refine z_callSs S hG (c_X4_isNoEntry l G (e) (by omega)) ok_X4_isNoEntry q5_15 (trivial) ⟨rfl, rfl, by decide, by decide⟩ ⟨Nat.zero_le _, Nat.zero_le _⟩ rfl (Nat.le_of_ble_eq_true rfl) hl.1 rfl dX4_find_2 ?_
  refine z_iconst S dX4_find_5 ?_
  cases hb_6 : (!(decide (0 ≤ e) && decide (e ≤ 15)))
  · skip
    refine z_callM S hG hS (c_X4_start l G (σ) b th m1 m2 false (1) (by omega) hd (by exact hrn)) (fun _ h => h) ok_X4_start hP.1 zc_X4 rfl q5_21 (hP) ⟨rfl, rfl, by decide, by decide⟩ ⟨Nat.le_of_ble_eq_true rfl, Nat.le_of_ble_eq_true rfl⟩ rfl (Nat.le_of_ble_eq_true rfl) hl.1 rfl dX4_find_6 (fun H_1 L_1 hB hz oq hS => ?_)
    have hP : hMod G (σ) b (zI 0) m1 m2 H_1 := hB
    refine z_bif_ne S 39 dX4_find_9 (by decide) (fun qz => ?_) (fun qz => ?_)
    · exact absurd qz (by decide)
    refine z_aload_n S dX4_find_12 hl 0 rfl rfl ?_
    refine z_iload_n S dX4_find_13 hl 2 rfl rfl ?_
    refine z_callSs S hG (c_X4_isNoColour l G (x) (by omega)) ok_X4_isNoColour q5_29 (trivial) ⟨rfl, rfl, by decide, by decide⟩ ⟨Nat.zero_le _, Nat.zero_le _⟩ rfl (Nat.le_of_ble_eq_true rfl) hl.1 rfl dX4_find_14 ?_
    refine z_bif_ne S 27 dX4_find_17 (by decide) (fun c_17 => ?_) (fun c_17 => ?_)
    · skip
      refine z_iconst S dX4_find_27 ?_
      refine z_goto S 32 dX4_find_28 (by decide) ?_
      refine z_iconst S dX4_find_32 ?_
      refine z_callM S hG hS (c_X4_refuse l G (σ) b m1 m2 true (2) (by omega) hd (by exact hrn)) (fun _ h => h) ok_X4_refuse hP.1 zc_X4 rfl q5_25 (hP) ⟨rfl, rfl, by decide, by decide⟩ ⟨Nat.le_of_ble_eq_true rfl, Nat.le_of_ble_eq_true rfl⟩ rfl (Nat.le_of_ble_eq_true rfl) hl.1 rfl dX4_find_33 (fun H_2 L_2 hB hz oq hS => ?_)
      have hP : hMod G (σ) b (zI 2) m1 m2 H_2 := hB
      refine z_bif_eq S 43 dX4_find_36 (by decide) (fun qz => ?_) (fun qz => ?_)
      · exact absurd qz (by decide)
      refine z_iconst S dX4_find_39 ?_
      refine z_goto S 50 dX4_find_40 (by decide) ?_
      exact ret _ _ _ _ _ _ _ dX4_find_50 (by rw [ht, ec_2 hb_6 (by rw [c_17] <;> rfl)] <;> rfl) hS (by rw [ht, ec_2 hb_6 (by rw [c_17] <;> rfl)]; exact hP) (Nat.le_of_ble_eq_true rfl) (Nat.le_of_ble_eq_true rfl)
    · skip
      refine z_iload_n S dX4_find_20 hl 3 rfl rfl ?_
      refine z_callSs S hG (c_X4_isNoTick l G (f) (by omega)) ok_X4_isNoTick q5_176 (trivial) ⟨rfl, rfl, by decide, by decide⟩ ⟨Nat.zero_le _, Nat.zero_le _⟩ rfl (Nat.le_of_ble_eq_true rfl) hl.1 rfl dX4_find_21 ?_
      refine z_bif_eq S 31 dX4_find_24 (by decide) (fun c_24 => ?_) (fun c_24 => ?_)
      · skip
        refine z_iconst S dX4_find_31 ?_
        refine z_iconst S dX4_find_32 ?_
        refine z_callM S hG hS (c_X4_refuse l G (σ) b m1 m2 false (2) (by omega) hd (by exact hrn)) (fun _ h => h) ok_X4_refuse hP.1 zc_X4 rfl q5_25 (hP) ⟨rfl, rfl, by decide, by decide⟩ ⟨Nat.le_of_ble_eq_true rfl, Nat.le_of_ble_eq_true rfl⟩ rfl (Nat.le_of_ble_eq_true rfl) hl.1 rfl dX4_find_33 (fun H_3 L_3 hB hz oq hS => ?_)
        have hP : hMod G (σ) b (zI 0) m1 m2 H_3 := hB
        refine z_bif_eq S 43 dX4_find_36 (by decide) (fun qz => ?_) (fun qz => ?_)
        rotate_left
        · exact absurd qz (by decide)
        have he2 := no_F hb_6
        have hx2 := no_F c_17
        have hf2 := no_F c_24
        refine z_aload_n S dX4_find_43 hl 0 rfl rfl ?_
        refine z_iload_n S dX4_find_44 hl 1 rfl rfl ?_
        refine z_iload_n S dX4_find_45 hl 2 rfl rfl ?_
        refine z_iload_n S dX4_find_46 hl 3 rfl rfl ?_
        refine z_callVs S hG (c_X4_findNow l G σ b (zI 0) m1 m2 (e) (zI (x)) (f) (by omega) (by omega)) ok_X4_findNow hP.1 zc_X4 rfl q6_98 (hP) ⟨rfl, rfl, by decide, by decide⟩ ⟨Nat.zero_le _, Nat.zero_le _⟩ rfl (Nat.le_of_ble_eq_true rfl) hl.1 rfl dX4_find_47 ?_
        exact ret _ _ _ _ _ _ _ dX4_find_50 (by rw [ht, ec_0 hb_6 (by rw [c_17, c_24] <;> rfl)]; exact rfl) hS (by rw [ht, ec_0 hb_6 (by rw [c_17, c_24] <;> rfl)]; exact hP) (Nat.le_of_ble_eq_true rfl) (Nat.le_of_ble_eq_true rfl)
      · skip
        refine z_iconst S dX4_find_27 ?_
        refine z_goto S 32 dX4_find_28 (by decide) ?_
        refine z_iconst S dX4_find_32 ?_
        refine z_callM S hG hS (c_X4_refuse l G (σ) b m1 m2 true (2) (by omega) hd (by exact hrn)) (fun _ h => h) ok_X4_refuse hP.1 zc_X4 rfl q5_25 (hP) ⟨rfl, rfl, by decide, by decide⟩ ⟨Nat.le_of_ble_eq_true rfl, Nat.le_of_ble_eq_true rfl⟩ rfl (Nat.le_of_ble_eq_true rfl) hl.1 rfl dX4_find_33 (fun H_4 L_4 hB hz oq hS => ?_)
        have hP : hMod G (σ) b (zI 2) m1 m2 H_4 := hB
        refine z_bif_eq S 43 dX4_find_36 (by decide) (fun qz => ?_) (fun qz => ?_)
        · exact absurd qz (by decide)
        refine z_iconst S dX4_find_39 ?_
        refine z_goto S 50 dX4_find_40 (by decide) ?_
        exact ret _ _ _ _ _ _ _ dX4_find_50 (by rw [ht, ec_2 hb_6 (by rw [c_17, c_24] <;> rfl)] <;> rfl) hS (by rw [ht, ec_2 hb_6 (by rw [c_17, c_24] <;> rfl)]; exact hP) (Nat.le_of_ble_eq_true rfl) (Nat.le_of_ble_eq_true rfl)
  · skip
    refine z_callM S hG hS (c_X4_start l G (σ) b th m1 m2 true (1) (by omega) hd (by exact hrn)) (fun _ h => h) ok_X4_start hP.1 zc_X4 rfl q5_21 (hP) ⟨rfl, rfl, by decide, by decide⟩ ⟨Nat.le_of_ble_eq_true rfl, Nat.le_of_ble_eq_true rfl⟩ rfl (Nat.le_of_ble_eq_true rfl) hl.1 rfl dX4_find_6 (fun H_5 L_5 hB hz oq hS => ?_)
    have hP : hMod G (σ) b (zI 1) m1 m2 H_5 := hB
    refine z_bif_ne S 39 dX4_find_9 (by decide) (fun qz => ?_) (fun qz => ?_)
    rotate_left
    · exact absurd qz (by decide)
    refine z_iconst S dX4_find_39 ?_
    refine z_goto S 50 dX4_find_40 (by decide) ?_
    exact ret _ _ _ _ _ _ _ dX4_find_50 (by rw [ht, ec_1 hb_6] <;> rfl) hS (by rw [ht, ec_1 hb_6]; exact hP) (Nat.le_of_ble_eq_true rfl) (Nat.le_of_ble_eq_true rfl)
theorem dX4_meet_0 : decode cX4_meet 0 = .ok (.aload_n 0, 1) := by decide +kernel
theorem dX4_meet_1 : decode cX4_meet 1 = .ok (.iload_n 1, 1) := by decide +kernel
theorem dX4_meet_2 : decode cX4_meet 2 = .ok (.invokestatic 117, 3) := by decide +kernel
theorem dX4_meet_5 : decode cX4_meet 5 = .ok (.ifCond .ne 10, 3) := by decide +kernel
theorem dX4_meet_8 : decode cX4_meet 8 = .ok (.iload_n 3, 1) := by decide +kernel
theorem dX4_meet_9 : decode cX4_meet 9 = .ok (.invokestatic 117, 3) := by decide +kernel
theorem dX4_meet_12 : decode cX4_meet 12 = .ok (.ifCond .eq 7, 3) := by decide +kernel
theorem dX4_meet_15 : decode cX4_meet 15 = .ok (.iconst 1, 1) := by decide +kernel
theorem dX4_meet_16 : decode cX4_meet 16 = .ok (.goto 4, 3) := by decide +kernel
theorem dX4_meet_19 : decode cX4_meet 19 = .ok (.iconst 0, 1) := by decide +kernel
theorem dX4_meet_20 : decode cX4_meet 20 = .ok (.iconst 1, 1) := by decide +kernel
theorem dX4_meet_21 : decode cX4_meet 21 = .ok (.invokevirtual 121, 3) := by decide +kernel
theorem dX4_meet_24 : decode cX4_meet 24 = .ok (.ifCond .ne 31, 3) := by decide +kernel
theorem dX4_meet_27 : decode cX4_meet 27 = .ok (.aload_n 0, 1) := by decide +kernel
theorem dX4_meet_28 : decode cX4_meet 28 = .ok (.iload_n 2, 1) := by decide +kernel
theorem dX4_meet_29 : decode cX4_meet 29 = .ok (.invokestatic 124, 3) := by decide +kernel
theorem dX4_meet_32 : decode cX4_meet 32 = .ok (.ifCond .ne 11, 3) := by decide +kernel
theorem dX4_meet_35 : decode cX4_meet 35 = .ok (.iload 4, 2) := by decide +kernel
theorem dX4_meet_37 : decode cX4_meet 37 = .ok (.invokestatic 124, 3) := by decide +kernel
theorem dX4_meet_40 : decode cX4_meet 40 = .ok (.ifCond .eq 7, 3) := by decide +kernel
theorem dX4_meet_43 : decode cX4_meet 43 = .ok (.iconst 1, 1) := by decide +kernel
theorem dX4_meet_44 : decode cX4_meet 44 = .ok (.goto 4, 3) := by decide +kernel
theorem dX4_meet_47 : decode cX4_meet 47 = .ok (.iconst 0, 1) := by decide +kernel
theorem dX4_meet_48 : decode cX4_meet 48 = .ok (.iconst 2, 1) := by decide +kernel
theorem dX4_meet_49 : decode cX4_meet 49 = .ok (.invokevirtual 33, 3) := by decide +kernel
theorem dX4_meet_52 : decode cX4_meet 52 = .ok (.ifCond .eq 7, 3) := by decide +kernel
theorem dX4_meet_55 : decode cX4_meet 55 = .ok (.iconst 0, 1) := by decide +kernel
theorem dX4_meet_56 : decode cX4_meet 56 = .ok (.goto 12, 3) := by decide +kernel
theorem dX4_meet_59 : decode cX4_meet 59 = .ok (.aload_n 0, 1) := by decide +kernel
theorem dX4_meet_60 : decode cX4_meet 60 = .ok (.iload_n 1, 1) := by decide +kernel
theorem dX4_meet_61 : decode cX4_meet 61 = .ok (.iload_n 2, 1) := by decide +kernel
theorem dX4_meet_62 : decode cX4_meet 62 = .ok (.iload_n 3, 1) := by decide +kernel
theorem dX4_meet_63 : decode cX4_meet 63 = .ok (.iload 4, 2) := by decide +kernel
theorem dX4_meet_65 : decode cX4_meet 65 = .ok (.invokevirtual 211, 3) := by decide +kernel
theorem dX4_meet_68 : decode cX4_meet 68 = .ok (.ireturn, 1) := by decide +kernel
theorem q6_106 : (Jvm.Cond.methodLink "CyclepaintModel" (211 : Nat) ({ cls := "CyclepaintModel", name := "meetNow", desc := "(IIII)I" } : Jvm.MethodName)) ∈ lw_g := zg_of (zin6 (List.mem_of_getElem? (i := 106) rfl)) rfl
theorem q6_105 : (Jvm.Cond.code ({ cls := "CyclepaintModel", name := "meet", desc := "(IIII)I" } : Jvm.MethodName) prog_6_method_56_code (5 : Nat) (Option.some Jvm.ClassFile.FieldType.int)) ∈ lw_g := zg_of (zin6 (List.mem_of_getElem? (i := 105) rfl)) rfl
theorem q6_103 : (Jvm.Cond.instanceMethod ({ cls := "CyclepaintModel", name := "meet", desc := "(IIII)I" } : Jvm.MethodName)) ∈ lw_g := zg_of (zin6 (List.mem_of_getElem? (i := 103) rfl)) rfl
theorem q6_104 : (Jvm.Cond.selects "CyclepaintModel" ({ cls := "CyclepaintModel", name := "meet", desc := "(IIII)I" } : Jvm.MethodName) ({ cls := "CyclepaintModel", name := "meet", desc := "(IIII)I" } : Jvm.MethodName)) ∈ lw_g := zg_of (zin6 (List.mem_of_getElem? (i := 104) rfl)) rfl
theorem ok_X4_meet : zOV yX4_meet cX4_meet 5 ((Option.some Jvm.ClassFile.FieldType.int)) 4 := ⟨⟨q6_105, q1_3, by decide, by decide, by decide +kernel⟩, q6_103, q6_104⟩
set_option maxHeartbeats 4000000 in
set_option maxRecDepth 100000 in
theorem c_X4_meet (l : Launch) (G : zG) (σ : St) (b : Nat → Nat) (th m1 m2 : Int32) (hd : inj b (mL σ)) (hO : okR σ) (e x f y : Int) (he : rg e) (hx : rg x) (hf : rg f) (hy : rg y) (hT : 0 ≤ σ.tk ∧ σ.tk ≤ 99999) (t : Int) (ht : t = ec (!(decide (0 ≤ e) && decide (e ≤ 15)) || !(decide (0 ≤ f) && decide (f ≤ 15))) (!(decide (0 ≤ x) && decide (x ≤ 63)) || !(decide (0 ≤ y) && decide (y ≤ 63)))) : Met l yX4_meet (wq yX4_meet cX4_meet 5 ((Option.some Jvm.ClassFile.FieldType.int))) (rmM 6 136 0 0) (va_Pc [.ref (b 0), .int (zI (e)), .int (zI (x)), .int (zI (f)), .int (zI (y))] (zK G (hMod G σ b th m1 m2))) (zM (mA σ b) (some (.int ((if t = 0 then zI (mt σ e (zI x) f (zI y) σ.tk) else zI 0)))) (fun H => hMod G σ b (zI t) m1 m2 H)) 0 0 (mA σ b) := by
  refine z_enterMI (by decide +kernel) (Nat.le_of_ble_eq_true rfl) ?_
  intro p env s m below meth cod Q S hG hP hS ret ls hl
  have hl : lv_has ls 5 [(0, .ref (b 0)), (1, .int (zI (e))), (2, .int (zI (x))), (3, .int (zI (f))), (4, .int (zI (y)))] := hl
  have hrn := hO.1
  refine z_aload_n S dX4_meet_0 hl 0 rfl rfl ?_
  refine z_iload_n S dX4_meet_1 hl 1 rfl rfl ?_
  refine z_callSs S hG (c_X4_isNoEntry l G (e) (by omega)) ok_X4_isNoEntry q5_15 (trivial) ⟨rfl, rfl, by decide, by decide⟩ ⟨Nat.zero_le _, Nat.zero_le _⟩ rfl (Nat.le_of_ble_eq_true rfl) hl.1 rfl dX4_meet_2 ?_
  refine z_bif_ne S 15 dX4_meet_5 (by decide) (fun c_5 => ?_) (fun c_5 => ?_)
  · skip
    refine z_iconst S dX4_meet_15 ?_
    refine z_goto S 20 dX4_meet_16 (by decide) ?_
    refine z_iconst S dX4_meet_20 ?_
    refine z_callM S hG hS (c_X4_start l G (σ) b th m1 m2 true (1) (by omega) hd (by exact hrn)) (fun _ h => h) ok_X4_start hP.1 zc_X4 rfl q5_21 (hP) ⟨rfl, rfl, by decide, by decide⟩ ⟨Nat.le_of_ble_eq_true rfl, Nat.le_of_ble_eq_true rfl⟩ rfl (Nat.le_of_ble_eq_true rfl) hl.1 rfl dX4_meet_21 (fun H_1 L_1 hB hz oq hS => ?_)
    have hP : hMod G (σ) b (zI 1) m1 m2 H_1 := hB
    refine z_bif_ne S 55 dX4_meet_24 (by decide) (fun qz => ?_) (fun qz => ?_)
    rotate_left
    · exact absurd qz (by decide)
    refine z_iconst S dX4_meet_55 ?_
    refine z_goto S 68 dX4_meet_56 (by decide) ?_
    exact ret _ _ _ _ _ _ _ dX4_meet_68 (by rw [ht, ec_1 (by rw [c_5] <;> rfl)] <;> rfl) hS (by rw [ht, ec_1 (by rw [c_5] <;> rfl)]; exact hP) (Nat.le_of_ble_eq_true rfl) (Nat.le_of_ble_eq_true rfl)
  · skip
    refine z_iload_n S dX4_meet_8 hl 3 rfl rfl ?_
    refine z_callSs S hG (c_X4_isNoEntry l G (f) (by omega)) ok_X4_isNoEntry q5_15 (trivial) ⟨rfl, rfl, by decide, by decide⟩ ⟨Nat.zero_le _, Nat.zero_le _⟩ rfl (Nat.le_of_ble_eq_true rfl) hl.1 rfl dX4_meet_9 ?_
    refine z_bif_eq S 19 dX4_meet_12 (by decide) (fun c_12 => ?_) (fun c_12 => ?_)
    · skip
      refine z_iconst S dX4_meet_19 ?_
      refine z_iconst S dX4_meet_20 ?_
      refine z_callM S hG hS (c_X4_start l G (σ) b th m1 m2 false (1) (by omega) hd (by exact hrn)) (fun _ h => h) ok_X4_start hP.1 zc_X4 rfl q5_21 (hP) ⟨rfl, rfl, by decide, by decide⟩ ⟨Nat.le_of_ble_eq_true rfl, Nat.le_of_ble_eq_true rfl⟩ rfl (Nat.le_of_ble_eq_true rfl) hl.1 rfl dX4_meet_21 (fun H_2 L_2 hB hz oq hS => ?_)
      have hP : hMod G (σ) b (zI 0) m1 m2 H_2 := hB
      refine z_bif_ne S 55 dX4_meet_24 (by decide) (fun qz => ?_) (fun qz => ?_)
      · exact absurd qz (by decide)
      refine z_aload_n S dX4_meet_27 hl 0 rfl rfl ?_
      refine z_iload_n S dX4_meet_28 hl 2 rfl rfl ?_
      refine z_callSs S hG (c_X4_isNoColour l G (x) (by omega)) ok_X4_isNoColour q5_29 (trivial) ⟨rfl, rfl, by decide, by decide⟩ ⟨Nat.zero_le _, Nat.zero_le _⟩ rfl (Nat.le_of_ble_eq_true rfl) hl.1 rfl dX4_meet_29 ?_
      refine z_bif_ne S 43 dX4_meet_32 (by decide) (fun c_32 => ?_) (fun c_32 => ?_)
      · skip
        refine z_iconst S dX4_meet_43 ?_
        refine z_goto S 48 dX4_meet_44 (by decide) ?_
        refine z_iconst S dX4_meet_48 ?_
        refine z_callM S hG hS (c_X4_refuse l G (σ) b m1 m2 true (2) (by omega) hd (by exact hrn)) (fun _ h => h) ok_X4_refuse hP.1 zc_X4 rfl q5_25 (hP) ⟨rfl, rfl, by decide, by decide⟩ ⟨Nat.le_of_ble_eq_true rfl, Nat.le_of_ble_eq_true rfl⟩ rfl (Nat.le_of_ble_eq_true rfl) hl.1 rfl dX4_meet_49 (fun H_3 L_3 hB hz oq hS => ?_)
        have hP : hMod G (σ) b (zI 2) m1 m2 H_3 := hB
        refine z_bif_eq S 59 dX4_meet_52 (by decide) (fun qz => ?_) (fun qz => ?_)
        · exact absurd qz (by decide)
        refine z_iconst S dX4_meet_55 ?_
        refine z_goto S 68 dX4_meet_56 (by decide) ?_
        exact ret _ _ _ _ _ _ _ dX4_meet_68 (by rw [ht, ec_2 (by rw [c_5, c_12] <;> rfl) (by rw [c_32] <;> rfl)] <;> rfl) hS (by rw [ht, ec_2 (by rw [c_5, c_12] <;> rfl) (by rw [c_32] <;> rfl)]; exact hP) (Nat.le_of_ble_eq_true rfl) (Nat.le_of_ble_eq_true rfl)
      · skip
        refine z_iload S dX4_meet_35 hl 4 rfl ?_
        refine z_callSs S hG (c_X4_isNoColour l G (y) (by omega)) ok_X4_isNoColour q5_29 (trivial) ⟨rfl, rfl, by decide, by decide⟩ ⟨Nat.zero_le _, Nat.zero_le _⟩ rfl (Nat.le_of_ble_eq_true rfl) hl.1 rfl dX4_meet_37 ?_
        refine z_bif_eq S 47 dX4_meet_40 (by decide) (fun c_40 => ?_) (fun c_40 => ?_)
        · skip
          refine z_iconst S dX4_meet_47 ?_
          refine z_iconst S dX4_meet_48 ?_
          refine z_callM S hG hS (c_X4_refuse l G (σ) b m1 m2 false (2) (by omega) hd (by exact hrn)) (fun _ h => h) ok_X4_refuse hP.1 zc_X4 rfl q5_25 (hP) ⟨rfl, rfl, by decide, by decide⟩ ⟨Nat.le_of_ble_eq_true rfl, Nat.le_of_ble_eq_true rfl⟩ rfl (Nat.le_of_ble_eq_true rfl) hl.1 rfl dX4_meet_49 (fun H_4 L_4 hB hz oq hS => ?_)
          have hP : hMod G (σ) b (zI 0) m1 m2 H_4 := hB
          refine z_bif_eq S 59 dX4_meet_52 (by decide) (fun qz => ?_) (fun qz => ?_)
          rotate_left
          · exact absurd qz (by decide)
          have he2 := no_F c_5
          have hf2 := no_F c_12
          have hx2 := no_F c_32
          have hy2 := no_F c_40
          refine z_aload_n S dX4_meet_59 hl 0 rfl rfl ?_
          refine z_iload_n S dX4_meet_60 hl 1 rfl rfl ?_
          refine z_iload_n S dX4_meet_61 hl 2 rfl rfl ?_
          refine z_iload_n S dX4_meet_62 hl 3 rfl rfl ?_
          refine z_iload S dX4_meet_63 hl 4 rfl ?_
          refine z_callVs S hG (c_X4_meetNow l G σ b (zI 0) m1 m2 (e) (zI (x)) (f) (zI (y)) (by omega) (by omega) hT) ok_X4_meetNow hP.1 zc_X4 rfl q6_106 (hP) ⟨rfl, rfl, by decide, by decide⟩ ⟨Nat.zero_le _, Nat.zero_le _⟩ rfl (Nat.le_of_ble_eq_true rfl) hl.1 rfl dX4_meet_65 ?_
          exact ret _ _ _ _ _ _ _ dX4_meet_68 (by rw [ht, ec_0 (by rw [c_5, c_12] <;> rfl) (by rw [c_32, c_40] <;> rfl)]; exact rfl) hS (by rw [ht, ec_0 (by rw [c_5, c_12] <;> rfl) (by rw [c_32, c_40] <;> rfl)]; exact hP) (Nat.le_of_ble_eq_true rfl) (Nat.le_of_ble_eq_true rfl)
        · skip
          refine z_iconst S dX4_meet_43 ?_
          refine z_goto S 48 dX4_meet_44 (by decide) ?_
          refine z_iconst S dX4_meet_48 ?_
          refine z_callM S hG hS (c_X4_refuse l G (σ) b m1 m2 true (2) (by omega) hd (by exact hrn)) (fun _ h => h) ok_X4_refuse hP.1 zc_X4 rfl q5_25 (hP) ⟨rfl, rfl, by decide, by decide⟩ ⟨Nat.le_of_ble_eq_true rfl, Nat.le_of_ble_eq_true rfl⟩ rfl (Nat.le_of_ble_eq_true rfl) hl.1 rfl dX4_meet_49 (fun H_5 L_5 hB hz oq hS => ?_)
          have hP : hMod G (σ) b (zI 2) m1 m2 H_5 := hB
          refine z_bif_eq S 59 dX4_meet_52 (by decide) (fun qz => ?_) (fun qz => ?_)
          · exact absurd qz (by decide)
          refine z_iconst S dX4_meet_55 ?_
          refine z_goto S 68 dX4_meet_56 (by decide) ?_
          exact ret _ _ _ _ _ _ _ dX4_meet_68 (by rw [ht, ec_2 (by rw [c_5, c_12] <;> rfl) (by rw [c_32, c_40] <;> rfl)] <;> rfl) hS (by rw [ht, ec_2 (by rw [c_5, c_12] <;> rfl) (by rw [c_32, c_40] <;> rfl)]; exact hP) (Nat.le_of_ble_eq_true rfl) (Nat.le_of_ble_eq_true rfl)
    · skip
      refine z_iconst S dX4_meet_15 ?_
      refine z_goto S 20 dX4_meet_16 (by decide) ?_
      refine z_iconst S dX4_meet_20 ?_
      refine z_callM S hG hS (c_X4_start l G (σ) b th m1 m2 true (1) (by omega) hd (by exact hrn)) (fun _ h => h) ok_X4_start hP.1 zc_X4 rfl q5_21 (hP) ⟨rfl, rfl, by decide, by decide⟩ ⟨Nat.le_of_ble_eq_true rfl, Nat.le_of_ble_eq_true rfl⟩ rfl (Nat.le_of_ble_eq_true rfl) hl.1 rfl dX4_meet_21 (fun H_6 L_6 hB hz oq hS => ?_)
      have hP : hMod G (σ) b (zI 1) m1 m2 H_6 := hB
      refine z_bif_ne S 55 dX4_meet_24 (by decide) (fun qz => ?_) (fun qz => ?_)
      rotate_left
      · exact absurd qz (by decide)
      refine z_iconst S dX4_meet_55 ?_
      refine z_goto S 68 dX4_meet_56 (by decide) ?_
      exact ret _ _ _ _ _ _ _ dX4_meet_68 (by rw [ht, ec_1 (by rw [c_5, c_12] <;> rfl)] <;> rfl) hS (by rw [ht, ec_1 (by rw [c_5, c_12] <;> rfl)]; exact hP) (Nat.le_of_ble_eq_true rfl) (Nat.le_of_ble_eq_true rfl)
theorem dX4_when_0 : decode cX4_when 0 = .ok (.aload_n 0, 1) := by decide +kernel
theorem dX4_when_1 : decode cX4_when 1 = .ok (.iload_n 1, 1) := by decide +kernel
theorem dX4_when_2 : decode cX4_when 2 = .ok (.iconst 0, 1) := by decide +kernel
theorem dX4_when_3 : decode cX4_when 3 = .ok (.aload_n 0, 1) := by decide +kernel
theorem dX4_when_4 : decode cX4_when 4 = .ok (.getfield 27, 3) := by decide +kernel
theorem dX4_when_7 : decode cX4_when 7 = .ok (.invokevirtual 41, 3) := by decide +kernel
theorem dX4_when_10 : decode cX4_when 10 = .ok (.iconst 1, 1) := by decide +kernel
theorem dX4_when_11 : decode cX4_when 11 = .ok (.isub, 1) := by decide +kernel
theorem dX4_when_12 : decode cX4_when 12 = .ok (.invokestatic 37, 3) := by decide +kernel
theorem dX4_when_15 : decode cX4_when 15 = .ok (.ifCond .ne 7, 3) := by decide +kernel
theorem dX4_when_18 : decode cX4_when 18 = .ok (.iconst 1, 1) := by decide +kernel
theorem dX4_when_19 : decode cX4_when 19 = .ok (.goto 4, 3) := by decide +kernel
theorem dX4_when_22 : decode cX4_when 22 = .ok (.iconst 0, 1) := by decide +kernel
theorem dX4_when_23 : decode cX4_when 23 = .ok (.iconst 1, 1) := by decide +kernel
theorem dX4_when_24 : decode cX4_when 24 = .ok (.invokevirtual 121, 3) := by decide +kernel
theorem dX4_when_27 : decode cX4_when 27 = .ok (.ifCond .eq 7, 3) := by decide +kernel
theorem dX4_when_30 : decode cX4_when 30 = .ok (.iconst 0, 1) := by decide +kernel
theorem dX4_when_31 : decode cX4_when 31 = .ok (.goto 8, 3) := by decide +kernel
theorem dX4_when_34 : decode cX4_when 34 = .ok (.aload_n 0, 1) := by decide +kernel
theorem dX4_when_35 : decode cX4_when 35 = .ok (.iload_n 1, 1) := by decide +kernel
theorem dX4_when_36 : decode cX4_when 36 = .ok (.invokevirtual 215, 3) := by decide +kernel
theorem dX4_when_39 : decode cX4_when 39 = .ok (.ireturn, 1) := by decide +kernel
theorem q6_114 : (Jvm.Cond.methodLink "CyclepaintModel" (215 : Nat) ({ cls := "CyclepaintModel", name := "whenNow", desc := "(I)I" } : Jvm.MethodName)) ∈ lw_g := zg_of (zin6 (List.mem_of_getElem? (i := 114) rfl)) rfl
theorem q6_113 : (Jvm.Cond.code ({ cls := "CyclepaintModel", name := "when", desc := "(I)I" } : Jvm.MethodName) prog_6_method_58_code (2 : Nat) (Option.some Jvm.ClassFile.FieldType.int)) ∈ lw_g := zg_of (zin6 (List.mem_of_getElem? (i := 113) rfl)) rfl
theorem q6_111 : (Jvm.Cond.instanceMethod ({ cls := "CyclepaintModel", name := "when", desc := "(I)I" } : Jvm.MethodName)) ∈ lw_g := zg_of (zin6 (List.mem_of_getElem? (i := 111) rfl)) rfl
theorem q6_112 : (Jvm.Cond.selects "CyclepaintModel" ({ cls := "CyclepaintModel", name := "when", desc := "(I)I" } : Jvm.MethodName) ({ cls := "CyclepaintModel", name := "when", desc := "(I)I" } : Jvm.MethodName)) ∈ lw_g := zg_of (zin6 (List.mem_of_getElem? (i := 112) rfl)) rfl
theorem ok_X4_when : zOV yX4_when cX4_when 2 ((Option.some Jvm.ClassFile.FieldType.int)) 1 := ⟨⟨q6_113, q1_3, by decide, by decide, by decide +kernel⟩, q6_111, q6_112⟩
set_option maxHeartbeats 4000000 in
set_option maxRecDepth 100000 in
theorem c_X4_when (l : Launch) (G : zG) (σ : St) (b : Nat → Nat) (th m1 m2 : Int32) (hd : inj b (mL σ)) (hO : okR σ) (n : Int) (hn : rg n) (hdt : ∀ d : Int, 0 ≤ d → d < 32 → 0 ≤ σ.Dt d ∧ σ.Dt d < 16) (hT : 0 ≤ σ.tk ∧ σ.tk ≤ 99999) (hkn0 : 0 ≤ σ.kn) (hkn : σ.kn ≤ 5) (t : Int) (ht : t = ec (!(decide (0 ≤ n) && decide (n ≤ σ.kn - 1))) (false)) : Met l yX4_when (wq yX4_when cX4_when 2 ((Option.some Jvm.ClassFile.FieldType.int))) (rmM 6 135 0 0) (va_Pc [.ref (b 0), .int (zI (n))] (zK G (hMod G σ b th m1 m2))) (zM (mA σ b) (some (.int ((if t = 0 then zI (whn σ n) else zI 0)))) (fun H => hMod G σ b (zI t) m1 m2 H)) 0 0 (mA σ b) := by
  refine z_enterMI (by decide +kernel) (Nat.le_of_ble_eq_true rfl) ?_
  intro p env s m below meth cod Q S hG hP hS ret ls hl
  have hl : lv_has ls 2 [(0, .ref (b 0)), (1, .int (zI (n)))] := hl
  have hrn := hO.1
  refine z_aload_n S dX4_when_0 hl 0 rfl rfl ?_
  refine z_iload_n S dX4_when_1 hl 1 rfl rfl ?_
  refine z_iconst S dX4_when_2 ?_
  refine z_aload_n S dX4_when_3 hl 0 rfl rfl ?_
  refine z_get S hG hP.1 zc_X4 7 (by decide) q4_233 rfl rfl dX4_when_4 ?_
  refine z_callVs S hG (c_alSize l G (b 4) (b 6) m2 σ.kn) ok_Jx4a65c_size_8abf5 hP.2.2.2.2.1 zc_Jx4a65c rfl q5_40 (hP.2.2.2.2.1) ⟨rfl, rfl, by decide, by decide⟩ ⟨Nat.zero_le _, Nat.zero_le _⟩ rfl (Nat.le_of_ble_eq_true rfl) hl.1 rfl dX4_when_7 ?_
  refine z_iconst S dX4_when_10 ?_
  refine z_isub S dX4_when_11 ?_
  refine z_callSs S hG (c_X4_isIn l G (n) (0) ((σ.kn) - (1)) (by omega)) ok_X4_isIn q5_18 (trivial) ⟨rfl, rfl, by decide, by decide⟩ ⟨Nat.zero_le _, Nat.zero_le _⟩ rfl (Nat.le_of_ble_eq_true rfl) hl.1 rfl dX4_when_12 ?_
  refine z_bif_ne S 22 dX4_when_15 (by decide) (fun c_15 => ?_) (fun c_15 => ?_)
  · skip
    refine z_iconst S dX4_when_22 ?_
    refine z_iconst S dX4_when_23 ?_
    refine z_callM S hG hS (c_X4_start l G (σ) b th m1 m2 false (1) (by omega) hd (by exact hrn)) (fun _ h => h) ok_X4_start hP.1 zc_X4 rfl q5_21 (hP) ⟨rfl, rfl, by decide, by decide⟩ ⟨Nat.le_of_ble_eq_true rfl, Nat.le_of_ble_eq_true rfl⟩ rfl (Nat.le_of_ble_eq_true rfl) hl.1 rfl dX4_when_24 (fun H_1 L_1 hB hz oq hS => ?_)
    have hP : hMod G (σ) b (zI 0) m1 m2 H_1 := hB
    refine z_bif_eq S 34 dX4_when_27 (by decide) (fun qz => ?_) (fun qz => ?_)
    rotate_left
    · exact absurd qz (by decide)
    have hn2 := in_T c_15
    refine z_aload_n S dX4_when_34 hl 0 rfl rfl ?_
    refine z_iload_n S dX4_when_35 hl 1 rfl rfl ?_
    refine z_callVs S hG (c_X4_whenNow l G σ b (zI 0) m1 m2 (n) (by omega) hkn hdt hT) ok_X4_whenNow hP.1 zc_X4 rfl q6_114 (hP) ⟨rfl, rfl, by decide, by decide⟩ ⟨Nat.zero_le _, Nat.zero_le _⟩ rfl (Nat.le_of_ble_eq_true rfl) hl.1 rfl dX4_when_36 ?_
    exact ret _ _ _ _ _ _ _ dX4_when_39 (by rw [ht, ec_0 (by rw [c_15] <;> rfl) rfl]; exact rfl) hS (by rw [ht, ec_0 (by rw [c_15] <;> rfl) rfl]; exact hP) (Nat.le_of_ble_eq_true rfl) (Nat.le_of_ble_eq_true rfl)
  · skip
    refine z_iconst S dX4_when_18 ?_
    refine z_goto S 23 dX4_when_19 (by decide) ?_
    refine z_iconst S dX4_when_23 ?_
    refine z_callM S hG hS (c_X4_start l G (σ) b th m1 m2 true (1) (by omega) hd (by exact hrn)) (fun _ h => h) ok_X4_start hP.1 zc_X4 rfl q5_21 (hP) ⟨rfl, rfl, by decide, by decide⟩ ⟨Nat.le_of_ble_eq_true rfl, Nat.le_of_ble_eq_true rfl⟩ rfl (Nat.le_of_ble_eq_true rfl) hl.1 rfl dX4_when_24 (fun H_2 L_2 hB hz oq hS => ?_)
    have hP : hMod G (σ) b (zI 1) m1 m2 H_2 := hB
    refine z_bif_eq S 34 dX4_when_27 (by decide) (fun qz => ?_) (fun qz => ?_)
    · exact absurd qz (by decide)
    refine z_iconst S dX4_when_30 ?_
    refine z_goto S 39 dX4_when_31 (by decide) ?_
    exact ret _ _ _ _ _ _ _ dX4_when_39 (by rw [ht, ec_1 (by rw [c_15] <;> rfl)] <;> rfl) hS (by rw [ht, ec_1 (by rw [c_15] <;> rfl)]; exact hP) (Nat.le_of_ble_eq_true rfl) (Nat.le_of_ble_eq_true rfl)
theorem dX4_lightest_0 : decode cX4_lightest 0 = .ok (.aload_n 0, 1) := by decide +kernel
theorem dX4_lightest_1 : decode cX4_lightest 1 = .ok (.iload_n 1, 1) := by decide +kernel
theorem dX4_lightest_2 : decode cX4_lightest 2 = .ok (.iconst 1, 1) := by decide +kernel
theorem dX4_lightest_3 : decode cX4_lightest 3 = .ok (.sipush 200, 3) := by decide +kernel
theorem dX4_lightest_6 : decode cX4_lightest 6 = .ok (.invokestatic 37, 3) := by decide +kernel
theorem dX4_lightest_9 : decode cX4_lightest 9 = .ok (.ifCond .ne 7, 3) := by decide +kernel
theorem dX4_lightest_12 : decode cX4_lightest 12 = .ok (.iconst 1, 1) := by decide +kernel
theorem dX4_lightest_13 : decode cX4_lightest 13 = .ok (.goto 4, 3) := by decide +kernel
theorem dX4_lightest_16 : decode cX4_lightest 16 = .ok (.iconst 0, 1) := by decide +kernel
theorem dX4_lightest_17 : decode cX4_lightest 17 = .ok (.iconst 1, 1) := by decide +kernel
theorem dX4_lightest_18 : decode cX4_lightest 18 = .ok (.invokevirtual 121, 3) := by decide +kernel
theorem dX4_lightest_21 : decode cX4_lightest 21 = .ok (.ifCond .eq 7, 3) := by decide +kernel
theorem dX4_lightest_24 : decode cX4_lightest 24 = .ok (.iconst 0, 1) := by decide +kernel
theorem dX4_lightest_25 : decode cX4_lightest 25 = .ok (.goto 8, 3) := by decide +kernel
theorem dX4_lightest_28 : decode cX4_lightest 28 = .ok (.aload_n 0, 1) := by decide +kernel
theorem dX4_lightest_29 : decode cX4_lightest 29 = .ok (.iload_n 1, 1) := by decide +kernel
theorem dX4_lightest_30 : decode cX4_lightest 30 = .ok (.invokevirtual 218, 3) := by decide +kernel
theorem dX4_lightest_33 : decode cX4_lightest 33 = .ok (.ireturn, 1) := by decide +kernel
theorem q6_122 : (Jvm.Cond.methodLink "CyclepaintModel" (218 : Nat) ({ cls := "CyclepaintModel", name := "lightestNow", desc := "(I)I" } : Jvm.MethodName)) ∈ lw_g := zg_of (zin6 (List.mem_of_getElem? (i := 122) rfl)) rfl
theorem q6_121 : (Jvm.Cond.code ({ cls := "CyclepaintModel", name := "lightest", desc := "(I)I" } : Jvm.MethodName) prog_6_method_60_code (2 : Nat) (Option.some Jvm.ClassFile.FieldType.int)) ∈ lw_g := zg_of (zin6 (List.mem_of_getElem? (i := 121) rfl)) rfl
theorem q6_119 : (Jvm.Cond.instanceMethod ({ cls := "CyclepaintModel", name := "lightest", desc := "(I)I" } : Jvm.MethodName)) ∈ lw_g := zg_of (zin6 (List.mem_of_getElem? (i := 119) rfl)) rfl
theorem q6_120 : (Jvm.Cond.selects "CyclepaintModel" ({ cls := "CyclepaintModel", name := "lightest", desc := "(I)I" } : Jvm.MethodName) ({ cls := "CyclepaintModel", name := "lightest", desc := "(I)I" } : Jvm.MethodName)) ∈ lw_g := zg_of (zin6 (List.mem_of_getElem? (i := 120) rfl)) rfl
theorem ok_X4_lightest : zOV yX4_lightest cX4_lightest 2 ((Option.some Jvm.ClassFile.FieldType.int)) 1 := ⟨⟨q6_121, q1_3, by decide, by decide, by decide +kernel⟩, q6_119, q6_120⟩
set_option maxHeartbeats 4000000 in
set_option maxRecDepth 100000 in
theorem c_X4_lightest (l : Launch) (G : zG) (σ : St) (b : Nat → Nat) (th m1 m2 : Int32) (hd : inj b (mL σ)) (hO : okR σ) (n : Int) (hn : rg n) (hdt : ∀ d : Int, 0 ≤ d → d < 32 → 0 ≤ σ.Dt d ∧ σ.Dt d < 16) (hT : 0 ≤ σ.tk ∧ σ.tk ≤ 99999) (t : Int) (ht : t = ec (!(decide (1 ≤ n) && decide (n ≤ 200))) (false)) : Met l yX4_lightest (wq yX4_lightest cX4_lightest 2 ((Option.some Jvm.ClassFile.FieldType.int))) (rmM 7 161 0 0) (va_Pc [.ref (b 0), .int (zI (n))] (zK G (hMod G σ b th m1 m2))) (zM (mA σ b) (some (.int ((if t = 0 then zI (ltM σ n) else zI 0)))) (fun H => hMod G σ b (zI t) m1 m2 H)) 0 0 (mA σ b) := by
  refine z_enterMI (by decide +kernel) (Nat.le_of_ble_eq_true rfl) ?_
  intro p env s m below meth cod Q S hG hP hS ret ls hl
  have hl : lv_has ls 2 [(0, .ref (b 0)), (1, .int (zI (n)))] := hl
  have hrn := hO.1
  refine z_aload_n S dX4_lightest_0 hl 0 rfl rfl ?_
  refine z_iload_n S dX4_lightest_1 hl 1 rfl rfl ?_
  refine z_iconst S dX4_lightest_2 ?_
  refine z_sipush S dX4_lightest_3 rfl ?_
  refine z_callSs S hG (c_X4_isIn l G (n) (1) (200) (by omega)) ok_X4_isIn q5_18 (trivial) ⟨rfl, rfl, by decide, by decide⟩ ⟨Nat.zero_le _, Nat.zero_le _⟩ rfl (Nat.le_of_ble_eq_true rfl) hl.1 rfl dX4_lightest_6 ?_
  refine z_bif_ne S 16 dX4_lightest_9 (by decide) (fun c_9 => ?_) (fun c_9 => ?_)
  · skip
    refine z_iconst S dX4_lightest_16 ?_
    refine z_iconst S dX4_lightest_17 ?_
    refine z_callM S hG hS (c_X4_start l G (σ) b th m1 m2 false (1) (by omega) hd (by exact hrn)) (fun _ h => h) ok_X4_start hP.1 zc_X4 rfl q5_21 (hP) ⟨rfl, rfl, by decide, by decide⟩ ⟨Nat.le_of_ble_eq_true rfl, Nat.le_of_ble_eq_true rfl⟩ rfl (Nat.le_of_ble_eq_true rfl) hl.1 rfl dX4_lightest_18 (fun H_1 L_1 hB hz oq hS => ?_)
    have hP : hMod G (σ) b (zI 0) m1 m2 H_1 := hB
    refine z_bif_eq S 28 dX4_lightest_21 (by decide) (fun qz => ?_) (fun qz => ?_)
    rotate_left
    · exact absurd qz (by decide)
    have hn2 := in_T c_9
    refine z_aload_n S dX4_lightest_28 hl 0 rfl rfl ?_
    refine z_iload_n S dX4_lightest_29 hl 1 rfl rfl ?_
    refine z_callVs S hG (c_X4_lightestNow l G σ b (zI 0) m1 m2 (n) (by omega) hdt hT) ok_X4_lightestNow hP.1 zc_X4 rfl q6_122 (hP) ⟨rfl, rfl, by decide, by decide⟩ ⟨Nat.zero_le _, Nat.zero_le _⟩ rfl (Nat.le_of_ble_eq_true rfl) hl.1 rfl dX4_lightest_30 ?_
    exact ret _ _ _ _ _ _ _ dX4_lightest_33 (by rw [ht, ec_0 (by rw [c_9] <;> rfl) rfl]; exact rfl) hS (by rw [ht, ec_0 (by rw [c_9] <;> rfl) rfl]; exact hP) (Nat.le_of_ble_eq_true rfl) (Nat.le_of_ble_eq_true rfl)
  · skip
    refine z_iconst S dX4_lightest_12 ?_
    refine z_goto S 17 dX4_lightest_13 (by decide) ?_
    refine z_iconst S dX4_lightest_17 ?_
    refine z_callM S hG hS (c_X4_start l G (σ) b th m1 m2 true (1) (by omega) hd (by exact hrn)) (fun _ h => h) ok_X4_start hP.1 zc_X4 rfl q5_21 (hP) ⟨rfl, rfl, by decide, by decide⟩ ⟨Nat.le_of_ble_eq_true rfl, Nat.le_of_ble_eq_true rfl⟩ rfl (Nat.le_of_ble_eq_true rfl) hl.1 rfl dX4_lightest_18 (fun H_2 L_2 hB hz oq hS => ?_)
    have hP : hMod G (σ) b (zI 1) m1 m2 H_2 := hB
    refine z_bif_eq S 28 dX4_lightest_21 (by decide) (fun qz => ?_) (fun qz => ?_)
    · exact absurd qz (by decide)
    refine z_iconst S dX4_lightest_24 ?_
    refine z_goto S 33 dX4_lightest_25 (by decide) ?_
    exact ret _ _ _ _ _ _ _ dX4_lightest_33 (by rw [ht, ec_1 (by rw [c_9] <;> rfl)] <;> rfl) hS (by rw [ht, ec_1 (by rw [c_9] <;> rfl)]; exact hP) (Nat.le_of_ble_eq_true rfl) (Nat.le_of_ble_eq_true rfl)
theorem dX4_paint_0 : decode cX4_paint 0 = .ok (.aload_n 0, 1) := by decide +kernel
theorem dX4_paint_1 : decode cX4_paint 1 = .ok (.iload_n 1, 1) := by decide +kernel
theorem dX4_paint_2 : decode cX4_paint 2 = .ok (.iconst 0, 1) := by decide +kernel
theorem dX4_paint_3 : decode cX4_paint 3 = .ok (.iconst 3, 1) := by decide +kernel
theorem dX4_paint_4 : decode cX4_paint 4 = .ok (.invokestatic 37, 3) := by decide +kernel
theorem dX4_paint_7 : decode cX4_paint 7 = .ok (.ifCond .eq 23, 3) := by decide +kernel
theorem dX4_paint_10 : decode cX4_paint 10 = .ok (.iload_n 2, 1) := by decide +kernel
theorem dX4_paint_11 : decode cX4_paint 11 = .ok (.iconst 0, 1) := by decide +kernel
theorem dX4_paint_12 : decode cX4_paint 12 = .ok (.bipush 7, 2) := by decide +kernel
theorem dX4_paint_14 : decode cX4_paint 14 = .ok (.invokestatic 37, 3) := by decide +kernel
theorem dX4_paint_17 : decode cX4_paint 17 = .ok (.ifCond .eq 13, 3) := by decide +kernel
theorem dX4_paint_20 : decode cX4_paint 20 = .ok (.iload_n 3, 1) := by decide +kernel
theorem dX4_paint_21 : decode cX4_paint 21 = .ok (.iconst 0, 1) := by decide +kernel
theorem dX4_paint_22 : decode cX4_paint 22 = .ok (.bipush 7, 2) := by decide +kernel
theorem dX4_paint_24 : decode cX4_paint 24 = .ok (.invokestatic 37, 3) := by decide +kernel
theorem dX4_paint_27 : decode cX4_paint 27 = .ok (.ifCond .ne 7, 3) := by decide +kernel
theorem dX4_paint_30 : decode cX4_paint 30 = .ok (.iconst 1, 1) := by decide +kernel
theorem dX4_paint_31 : decode cX4_paint 31 = .ok (.goto 4, 3) := by decide +kernel
theorem dX4_paint_34 : decode cX4_paint 34 = .ok (.iconst 0, 1) := by decide +kernel
theorem dX4_paint_35 : decode cX4_paint 35 = .ok (.iconst 1, 1) := by decide +kernel
theorem dX4_paint_36 : decode cX4_paint 36 = .ok (.invokevirtual 121, 3) := by decide +kernel
theorem dX4_paint_39 : decode cX4_paint 39 = .ok (.ifCond .ne 29, 3) := by decide +kernel
theorem dX4_paint_42 : decode cX4_paint 42 = .ok (.aload_n 0, 1) := by decide +kernel
theorem dX4_paint_43 : decode cX4_paint 43 = .ok (.iload_n 3, 1) := by decide +kernel
theorem dX4_paint_44 : decode cX4_paint 44 = .ok (.iload_n 2, 1) := by decide +kernel
theorem dX4_paint_45 : decode cX4_paint 45 = .ok (.if_icmp .lt 11, 3) := by decide +kernel
theorem dX4_paint_48 : decode cX4_paint 48 = .ok (.iload 4, 2) := by decide +kernel
theorem dX4_paint_50 : decode cX4_paint 50 = .ok (.invokestatic 117, 3) := by decide +kernel
theorem dX4_paint_53 : decode cX4_paint 53 = .ok (.ifCond .eq 7, 3) := by decide +kernel
theorem dX4_paint_56 : decode cX4_paint 56 = .ok (.iconst 1, 1) := by decide +kernel
theorem dX4_paint_57 : decode cX4_paint 57 = .ok (.goto 4, 3) := by decide +kernel
theorem dX4_paint_60 : decode cX4_paint 60 = .ok (.iconst 0, 1) := by decide +kernel
theorem dX4_paint_61 : decode cX4_paint 61 = .ok (.iconst 2, 1) := by decide +kernel
theorem dX4_paint_62 : decode cX4_paint 62 = .ok (.invokevirtual 33, 3) := by decide +kernel
theorem dX4_paint_65 : decode cX4_paint 65 = .ok (.ifCond .eq 5, 3) := by decide +kernel
theorem dX4_paint_68 : decode cX4_paint 68 = .ok (.iconst 0, 1) := by decide +kernel
theorem dX4_paint_69 : decode cX4_paint 69 = .ok (.ireturn, 1) := by decide +kernel
theorem dX4_paint_70 : decode cX4_paint 70 = .ok (.iconst 0, 1) := by decide +kernel
theorem dX4_paint_71 : decode cX4_paint 71 = .ok (.istore 5, 2) := by decide +kernel
theorem dX4_paint_73 : decode cX4_paint 73 = .ok (.iload_n 2, 1) := by decide +kernel
theorem dX4_paint_74 : decode cX4_paint 74 = .ok (.istore 6, 2) := by decide +kernel
theorem dX4_paint_76 : decode cX4_paint 76 = .ok (.iload 6, 2) := by decide +kernel
theorem dX4_paint_78 : decode cX4_paint 78 = .ok (.iload_n 3, 1) := by decide +kernel
theorem dX4_paint_79 : decode cX4_paint 79 = .ok (.if_icmp .gt 50, 3) := by decide +kernel
theorem dX4_paint_82 : decode cX4_paint 82 = .ok (.iload 5, 2) := by decide +kernel
theorem dX4_paint_84 : decode cX4_paint 84 = .ok (.aload_n 0, 1) := by decide +kernel
theorem dX4_paint_85 : decode cX4_paint 85 = .ok (.getfield 17, 3) := by decide +kernel
theorem dX4_paint_88 : decode cX4_paint 88 = .ok (.bipush 8, 2) := by decide +kernel
theorem dX4_paint_90 : decode cX4_paint 90 = .ok (.iload_n 1, 1) := by decide +kernel
theorem dX4_paint_91 : decode cX4_paint 91 = .ok (.imul, 1) := by decide +kernel
theorem dX4_paint_92 : decode cX4_paint 92 = .ok (.iload 6, 2) := by decide +kernel
theorem dX4_paint_94 : decode cX4_paint 94 = .ok (.iadd, 1) := by decide +kernel
theorem dX4_paint_95 : decode cX4_paint 95 = .ok (.iaload, 1) := by decide +kernel
theorem dX4_paint_96 : decode cX4_paint 96 = .ok (.iload 4, 2) := by decide +kernel
theorem dX4_paint_98 : decode cX4_paint 98 = .ok (.if_icmp .ne 7, 3) := by decide +kernel
theorem dX4_paint_101 : decode cX4_paint 101 = .ok (.iconst 0, 1) := by decide +kernel
theorem dX4_paint_102 : decode cX4_paint 102 = .ok (.goto 4, 3) := by decide +kernel
theorem dX4_paint_105 : decode cX4_paint 105 = .ok (.iconst 1, 1) := by decide +kernel
theorem dX4_paint_106 : decode cX4_paint 106 = .ok (.iadd, 1) := by decide +kernel
theorem dX4_paint_107 : decode cX4_paint 107 = .ok (.istore 5, 2) := by decide +kernel
theorem dX4_paint_109 : decode cX4_paint 109 = .ok (.aload_n 0, 1) := by decide +kernel
theorem dX4_paint_110 : decode cX4_paint 110 = .ok (.getfield 17, 3) := by decide +kernel
theorem dX4_paint_113 : decode cX4_paint 113 = .ok (.bipush 8, 2) := by decide +kernel
theorem dX4_paint_115 : decode cX4_paint 115 = .ok (.iload_n 1, 1) := by decide +kernel
theorem dX4_paint_116 : decode cX4_paint 116 = .ok (.imul, 1) := by decide +kernel
theorem dX4_paint_117 : decode cX4_paint 117 = .ok (.iload 6, 2) := by decide +kernel
theorem dX4_paint_119 : decode cX4_paint 119 = .ok (.iadd, 1) := by decide +kernel
theorem dX4_paint_120 : decode cX4_paint 120 = .ok (.iload 4, 2) := by decide +kernel
theorem dX4_paint_122 : decode cX4_paint 122 = .ok (.iastore, 1) := by decide +kernel
theorem dX4_paint_123 : decode cX4_paint 123 = .ok (.iinc 6 1, 3) := by decide +kernel
theorem dX4_paint_126 : decode cX4_paint 126 = .ok (.goto (-50), 3) := by decide +kernel
theorem dX4_paint_129 : decode cX4_paint 129 = .ok (.iload 5, 2) := by decide +kernel
theorem dX4_paint_131 : decode cX4_paint 131 = .ok (.ireturn, 1) := by decide +kernel
theorem q5_35 : (Jvm.Cond.code ({ cls := "CyclepaintModel", name := "paint", desc := "(IIII)I" } : Jvm.MethodName) prog_6_method_28_code (7 : Nat) (Option.some Jvm.ClassFile.FieldType.int)) ∈ lw_g := zg_of (zin5 (List.mem_of_getElem? (i := 35) rfl)) rfl
theorem q5_33 : (Jvm.Cond.instanceMethod ({ cls := "CyclepaintModel", name := "paint", desc := "(IIII)I" } : Jvm.MethodName)) ∈ lw_g := zg_of (zin5 (List.mem_of_getElem? (i := 33) rfl)) rfl
theorem q5_34 : (Jvm.Cond.selects "CyclepaintModel" ({ cls := "CyclepaintModel", name := "paint", desc := "(IIII)I" } : Jvm.MethodName) ({ cls := "CyclepaintModel", name := "paint", desc := "(IIII)I" } : Jvm.MethodName)) ∈ lw_g := zg_of (zin5 (List.mem_of_getElem? (i := 34) rfl)) rfl
theorem ok_X4_paint : zOV yX4_paint cX4_paint 7 ((Option.some Jvm.ClassFile.FieldType.int)) 4 := ⟨⟨q5_35, q1_3, by decide, by decide, by decide +kernel⟩, q5_33, q5_34⟩
set_option maxHeartbeats 4000000 in
set_option maxRecDepth 100000 in
theorem c_X4_paint (l : Launch) (G : zG) (σ : St) (b : Nat → Nat) (th m1 m2 : Int32) (hd : inj b (mL σ)) (hO : okR σ) (q f tt x : Int) (hq : rg q) (hf : rg f) (htt : rg tt) (hx : rg x) (hdt : ∀ d : Int, 0 ≤ d → d < 32 → 0 ≤ σ.Dt d ∧ σ.Dt d < 16) (t : Int) (ht : t = ec (!((decide (0 ≤ q) && decide (q ≤ 3)) && (decide (0 ≤ f) && decide (f ≤ 7)) && (decide (0 ≤ tt) && decide (tt ≤ 7)))) (decide (tt < f) || !(decide (0 ≤ x) && decide (x ≤ 15)))) : Met l yX4_paint (wq yX4_paint cX4_paint 7 ((Option.some Jvm.ClassFile.FieldType.int))) (rmM 2 44 0 0) (va_Pc [.ref (b 0), .int (zI (q)), .int (zI (f)), .int (zI (tt)), .int (zI (x))] (zK G (hMod G σ b th m1 m2))) (zM (mA σ b) (some (.int ((if t = 0 then zI (pntN σ.Dt q x f (tt + 1)) else zI 0)))) (fun H => hMod G (if t = 0 then (σ.wD (pnt σ.Dt q x f (tt + 1))) else σ) b (zI t) m1 m2 H)) 0 0 (mA σ b) := by
  refine z_enterMI (by decide +kernel) (Nat.le_of_ble_eq_true rfl) ?_
  intro p env s m below meth cod Q S hG hP hS ret ls hl
  have hl : lv_has ls 7 [(0, .ref (b 0)), (1, .int (zI (q))), (2, .int (zI (f))), (3, .int (zI (tt))), (4, .int (zI (x)))] := hl
  have hrn := hO.1
  refine z_aload_n S dX4_paint_0 hl 0 rfl rfl ?_
  refine z_iload_n S dX4_paint_1 hl 1 rfl rfl ?_
  refine z_iconst S dX4_paint_2 ?_
  refine z_iconst S dX4_paint_3 ?_
  refine z_callSs S hG (c_X4_isIn l G (q) (0) (3) (by omega)) ok_X4_isIn q5_18 (trivial) ⟨rfl, rfl, by decide, by decide⟩ ⟨Nat.zero_le _, Nat.zero_le _⟩ rfl (Nat.le_of_ble_eq_true rfl) hl.1 rfl dX4_paint_4 ?_
  refine z_bif_eq S 30 dX4_paint_7 (by decide) (fun c_7 => ?_) (fun c_7 => ?_)
  · skip
    refine z_iconst S dX4_paint_30 ?_
    refine z_goto S 35 dX4_paint_31 (by decide) ?_
    refine z_iconst S dX4_paint_35 ?_
    refine z_callM S hG hS (c_X4_start l G (σ) b th m1 m2 true (1) (by omega) hd (by exact hrn)) (fun _ h => h) ok_X4_start hP.1 zc_X4 rfl q5_21 (hP) ⟨rfl, rfl, by decide, by decide⟩ ⟨Nat.le_of_ble_eq_true rfl, Nat.le_of_ble_eq_true rfl⟩ rfl (Nat.le_of_ble_eq_true rfl) hl.1 rfl dX4_paint_36 (fun H_1 L_1 hB hz oq hS => ?_)
    have hP : hMod G (σ) b (zI 1) m1 m2 H_1 := hB
    refine z_bif_ne S 68 dX4_paint_39 (by decide) (fun qz => ?_) (fun qz => ?_)
    rotate_left
    · exact absurd qz (by decide)
    refine z_iconst S dX4_paint_68 ?_
    exact ret _ _ _ _ _ _ _ dX4_paint_69 (by rw [ht, ec_1 (by rw [c_7] <;> rfl)] <;> rfl) hS (by rw [ht, ec_1 (by rw [c_7] <;> rfl)]; exact hP) (Nat.le_of_ble_eq_true rfl) (Nat.le_of_ble_eq_true rfl)
  · skip
    refine z_iload_n S dX4_paint_10 hl 2 rfl rfl ?_
    refine z_iconst S dX4_paint_11 ?_
    refine z_bipush S dX4_paint_12 rfl ?_
    refine z_callSs S hG (c_X4_isIn l G (f) (0) (7) (by omega)) ok_X4_isIn q5_18 (trivial) ⟨rfl, rfl, by decide, by decide⟩ ⟨Nat.zero_le _, Nat.zero_le _⟩ rfl (Nat.le_of_ble_eq_true rfl) hl.1 rfl dX4_paint_14 ?_
    refine z_bif_eq S 30 dX4_paint_17 (by decide) (fun c_17 => ?_) (fun c_17 => ?_)
    · skip
      refine z_iconst S dX4_paint_30 ?_
      refine z_goto S 35 dX4_paint_31 (by decide) ?_
      refine z_iconst S dX4_paint_35 ?_
      refine z_callM S hG hS (c_X4_start l G (σ) b th m1 m2 true (1) (by omega) hd (by exact hrn)) (fun _ h => h) ok_X4_start hP.1 zc_X4 rfl q5_21 (hP) ⟨rfl, rfl, by decide, by decide⟩ ⟨Nat.le_of_ble_eq_true rfl, Nat.le_of_ble_eq_true rfl⟩ rfl (Nat.le_of_ble_eq_true rfl) hl.1 rfl dX4_paint_36 (fun H_2 L_2 hB hz oq hS => ?_)
      have hP : hMod G (σ) b (zI 1) m1 m2 H_2 := hB
      refine z_bif_ne S 68 dX4_paint_39 (by decide) (fun qz => ?_) (fun qz => ?_)
      rotate_left
      · exact absurd qz (by decide)
      refine z_iconst S dX4_paint_68 ?_
      exact ret _ _ _ _ _ _ _ dX4_paint_69 (by rw [ht, ec_1 (by rw [c_7, c_17] <;> rfl)] <;> rfl) hS (by rw [ht, ec_1 (by rw [c_7, c_17] <;> rfl)]; exact hP) (Nat.le_of_ble_eq_true rfl) (Nat.le_of_ble_eq_true rfl)
    · skip
      refine z_iload_n S dX4_paint_20 hl 3 rfl rfl ?_
      refine z_iconst S dX4_paint_21 ?_
      refine z_bipush S dX4_paint_22 rfl ?_
      refine z_callSs S hG (c_X4_isIn l G (tt) (0) (7) (by omega)) ok_X4_isIn q5_18 (trivial) ⟨rfl, rfl, by decide, by decide⟩ ⟨Nat.zero_le _, Nat.zero_le _⟩ rfl (Nat.le_of_ble_eq_true rfl) hl.1 rfl dX4_paint_24 ?_
      refine z_bif_ne S 34 dX4_paint_27 (by decide) (fun c_27 => ?_) (fun c_27 => ?_)
      · skip
        refine z_iconst S dX4_paint_34 ?_
        refine z_iconst S dX4_paint_35 ?_
        refine z_callM S hG hS (c_X4_start l G (σ) b th m1 m2 false (1) (by omega) hd (by exact hrn)) (fun _ h => h) ok_X4_start hP.1 zc_X4 rfl q5_21 (hP) ⟨rfl, rfl, by decide, by decide⟩ ⟨Nat.le_of_ble_eq_true rfl, Nat.le_of_ble_eq_true rfl⟩ rfl (Nat.le_of_ble_eq_true rfl) hl.1 rfl dX4_paint_36 (fun H_3 L_3 hB hz oq hS => ?_)
        have hP : hMod G (σ) b (zI 0) m1 m2 H_3 := hB
        refine z_bif_ne S 68 dX4_paint_39 (by decide) (fun qz => ?_) (fun qz => ?_)
        · exact absurd qz (by decide)
        refine z_aload_n S dX4_paint_42 hl 0 rfl rfl ?_
        refine z_iload_n S dX4_paint_43 hl 3 rfl rfl ?_
        refine z_iload_n S dX4_paint_44 hl 2 rfl rfl ?_
        refine z_icmp_lt S 56 dX4_paint_45 (by decide) (by omega) (by omega) (fun c_45 => ?_) (fun c_45 => ?_)
        · skip
          refine z_iconst S dX4_paint_56 ?_
          refine z_goto S 61 dX4_paint_57 (by decide) ?_
          refine z_iconst S dX4_paint_61 ?_
          refine z_callM S hG hS (c_X4_refuse l G (σ) b m1 m2 true (2) (by omega) hd (by exact hrn)) (fun _ h => h) ok_X4_refuse hP.1 zc_X4 rfl q5_25 (hP) ⟨rfl, rfl, by decide, by decide⟩ ⟨Nat.le_of_ble_eq_true rfl, Nat.le_of_ble_eq_true rfl⟩ rfl (Nat.le_of_ble_eq_true rfl) hl.1 rfl dX4_paint_62 (fun H_4 L_4 hB hz oq hS => ?_)
          have hP : hMod G (σ) b (zI 2) m1 m2 H_4 := hB
          refine z_bif_eq S 70 dX4_paint_65 (by decide) (fun qz => ?_) (fun qz => ?_)
          · exact absurd qz (by decide)
          refine z_iconst S dX4_paint_68 ?_
          exact ret _ _ _ _ _ _ _ dX4_paint_69 (by rw [ht, ec_2 (by rw [c_7, c_17, c_27] <;> rfl) (by rw [decide_eq_true c_45] <;> rfl)] <;> rfl) hS (by rw [ht, ec_2 (by rw [c_7, c_17, c_27] <;> rfl) (by rw [decide_eq_true c_45] <;> rfl)]; exact hP) (Nat.le_of_ble_eq_true rfl) (Nat.le_of_ble_eq_true rfl)
        · skip
          refine z_iload S dX4_paint_48 hl 4 rfl ?_
          refine z_callSs S hG (c_X4_isNoEntry l G (x) (by omega)) ok_X4_isNoEntry q5_15 (trivial) ⟨rfl, rfl, by decide, by decide⟩ ⟨Nat.zero_le _, Nat.zero_le _⟩ rfl (Nat.le_of_ble_eq_true rfl) hl.1 rfl dX4_paint_50 ?_
          refine z_bif_eq S 60 dX4_paint_53 (by decide) (fun c_53 => ?_) (fun c_53 => ?_)
          · skip
            refine z_iconst S dX4_paint_60 ?_
            refine z_iconst S dX4_paint_61 ?_
            refine z_callM S hG hS (c_X4_refuse l G (σ) b m1 m2 false (2) (by omega) hd (by exact hrn)) (fun _ h => h) ok_X4_refuse hP.1 zc_X4 rfl q5_25 (hP) ⟨rfl, rfl, by decide, by decide⟩ ⟨Nat.le_of_ble_eq_true rfl, Nat.le_of_ble_eq_true rfl⟩ rfl (Nat.le_of_ble_eq_true rfl) hl.1 rfl dX4_paint_62 (fun H_5 L_5 hB hz oq hS => ?_)
            have hP : hMod G (σ) b (zI 0) m1 m2 H_5 := hB
            refine z_bif_eq S 70 dX4_paint_65 (by decide) (fun qz => ?_) (fun qz => ?_)
            rotate_left
            · exact absurd qz (by decide)
            have hq2 := in_T c_7
            have hf2 := in_T c_17
            have ht2 := in_T c_27
            have hx2 := no_F c_53
            refine z_iconst S dX4_paint_70 ?_
            refine z_istore (lv' := [(5, .int (zI (0))), (0, .ref (b 0)), (1, .int (zI (q))), (2, .int (zI (f))), (3, .int (zI (tt))), (4, .int (zI (x)))]) S dX4_paint_71 hl (by decide) rfl (fun ls hl => ?_)
            refine z_iload_n S dX4_paint_73 hl 3 rfl rfl ?_
            refine z_istore (lv' := [(6, .int (zI (f))), (5, .int (zI (0))), (0, .ref (b 0)), (1, .int (zI (q))), (2, .int (zI (f))), (3, .int (zI (tt))), (4, .int (zI (x)))]) S dX4_paint_74 hl (by decide) rfl (fun ls hl => ?_)
            have loop_76 : ∀ (nn : Nat) (k : Int) (ch : Int) (Hk76 : Heap) (Lk76 : List Loc), (va_S (mA σ b) s.heap Hk76 Lk76) → (hMod G (σ.wD (pnt σ.Dt q x f k)) b (zI 0) m1 m2 Hk76) → (f ≤ k ∧ k ≤ tt + 1) → (ch = pntN σ.Dt q x f k) → ((tt + 1 - k).toNat) < nn → ∀ ls, lv_has ls 7 [(6, .int (zI (k))), (5, .int (zI (ch))), (0, .ref (b 0)), (1, .int (zI (q))), (2, .int (zI (f))), (3, .int (zI (tt))), (4, .int (zI (x)))] → W p l env (rmM 2 44 0 0) s m ([.ref (b 0), .int (zI (q)), .int (zI (f)), .int (zI (tt)), .int (zI (x))] : List Value).toArray below meth cod Hk76 Lk76 0 0 Q (F0 m 76 ls []) := by
              intro nn
              induction nn with
              | zero => intro _ _ _ _ _ _ _ _ h; exact absurd h (Nat.not_lt_zero _)
              | succ nn ih_76 =>
                intro k ch Hk76 Lk76 hS hP hk hch hm_76 ls hl
                refine z_iload S dX4_paint_76 hl 0 rfl ?_
                refine z_iload_n S dX4_paint_78 hl 5 rfl rfl ?_
                refine z_icmp_gt S 129 dX4_paint_79 (by decide) (by omega) (by omega) (fun c_79 => ?_) (fun c_79 => ?_)
                · skip
                  refine z_iload S dX4_paint_129 hl 1 rfl ?_
                  exact ret _ _ _ _ _ _ _ dX4_paint_131 (by rw [ht, ec_0 (by rw [c_7, c_17, c_27] <;> rfl) (by rw [decide_eq_false c_45, c_53] <;> rfl)]; rw [hch, show k = tt + 1 by omega]; rfl) hS (by rw [ht, ec_0 (by rw [c_7, c_17, c_27] <;> rfl) (by rw [decide_eq_false c_45, c_53] <;> rfl)]; rw [show k = tt + 1 by omega] at hP; exact hP) (Nat.le_of_ble_eq_true rfl) (Nat.le_of_ble_eq_true rfl)
                · skip
                  have hdt0 := hdt (8 * q + k) (by omega) (by omega)
                  have hpa := pnt_at σ.Dt q x f k
                  refine z_iload S dX4_paint_82 hl 1 rfl ?_
                  refine z_aload_n S dX4_paint_84 hl 2 rfl rfl ?_
                  refine z_get S hG hP.1 zc_X4 5 (by decide) q4_231 rfl rfl dX4_paint_85 ?_
                  refine z_bipush S dX4_paint_88 rfl ?_
                  refine z_iload_n S dX4_paint_90 hl 3 rfl rfl ?_
                  refine z_imul S dX4_paint_91 ?_
                  refine z_iload S dX4_paint_92 hl 0 rfl ?_
                  refine z_iadd S dX4_paint_94 ?_
                  refine z_ialdB S hG (show va_at G.1 vwCl (b 2, .inl (G.2 0, 32, .inl (zB (pnt σ.Dt q x f k)))) Hk76 from hP.2.2.1) (by omega) (by decide) dX4_paint_95 ?_
                  refine z_iload S dX4_paint_96 hl 6 rfl ?_
                  refine z_icmp_ne S 105 dX4_paint_98 (by decide) (by omega) (by omega) (fun c_98 => ?_) (fun c_98 => ?_)
                  · skip
                    refine z_iconst S dX4_paint_105 ?_
                    refine z_iadd S dX4_paint_106 ?_
                    refine z_istore (lv' := [(5, .int (zI ((ch) + (1)))), (6, .int (zI (k))), (0, .ref (b 0)), (1, .int (zI (q))), (2, .int (zI (f))), (3, .int (zI (tt))), (4, .int (zI (x)))]) S dX4_paint_107 hl (by decide) rfl (fun ls hl => ?_)
                    refine z_aload_n S dX4_paint_109 hl 2 rfl rfl ?_
                    refine z_get S hG hP.1 zc_X4 5 (by decide) q4_231 rfl rfl dX4_paint_110 ?_
                    refine z_bipush S dX4_paint_113 rfl ?_
                    refine z_iload_n S dX4_paint_115 hl 3 rfl rfl ?_
                    refine z_imul S dX4_paint_116 ?_
                    refine z_iload S dX4_paint_117 hl 1 rfl ?_
                    refine z_iadd S dX4_paint_119 ?_
                    refine z_iload S dX4_paint_120 hl 6 rfl ?_
                    refine z_iastB S hG (show va_at G.1 vwCl (b 2, .inl (G.2 0, 32, .inl (zB (pnt σ.Dt q x f k)))) Hk76 from hP.2.2.1) hS (⟨2, mL_s (by decide), rfl⟩) (i := ((8) * (q)) + (k)) (x := x) (by omega) (by decide) dX4_paint_122 (fun H_6 L_6 hat hz oq hS => ?_)
                    rw [pnt_s σ.Dt hk.1] at hat
                    have hP : hMod G (σ.wD (pnt σ.Dt q x f (k + 1))) b (zI 0) m1 m2 H_6 := hMod_D hP hd _ hat oq
                    refine z_iinc (lv' := [(6, .int (zI (k + 1))), (5, .int (zI ((ch) + (1)))), (0, .ref (b 0)), (1, .int (zI (q))), (2, .int (zI (f))), (3, .int (zI (tt))), (4, .int (zI (x)))]) S dX4_paint_123 hl 1 rfl (by decide) rfl (fun ls hl => ?_)
                    refine z_goto S 76 dX4_paint_126 (by decide) ?_
                    exact ih_76 (k + 1) ((ch) + (1)) (H_6) (L_6) (hS) (hP) (by omega) (by rw [pntN_t hk.1 c_98, ← hch]) (by omega) ls (lv_sub hl [0, 1, 2, 3, 4, 5, 6] rfl)
                  · skip
                    refine z_iconst S dX4_paint_101 ?_
                    refine z_goto S 106 dX4_paint_102 (by decide) ?_
                    refine z_iadd S dX4_paint_106 ?_
                    refine z_istore (lv' := [(5, .int (zI ((ch) + (0)))), (6, .int (zI (k))), (0, .ref (b 0)), (1, .int (zI (q))), (2, .int (zI (f))), (3, .int (zI (tt))), (4, .int (zI (x)))]) S dX4_paint_107 hl (by decide) rfl (fun ls hl => ?_)
                    refine z_aload_n S dX4_paint_109 hl 2 rfl rfl ?_
                    refine z_get S hG hP.1 zc_X4 5 (by decide) q4_231 rfl rfl dX4_paint_110 ?_
                    refine z_bipush S dX4_paint_113 rfl ?_
                    refine z_iload_n S dX4_paint_115 hl 3 rfl rfl ?_
                    refine z_imul S dX4_paint_116 ?_
                    refine z_iload S dX4_paint_117 hl 1 rfl ?_
                    refine z_iadd S dX4_paint_119 ?_
                    refine z_iload S dX4_paint_120 hl 6 rfl ?_
                    refine z_iastB S hG (show va_at G.1 vwCl (b 2, .inl (G.2 0, 32, .inl (zB (pnt σ.Dt q x f k)))) Hk76 from hP.2.2.1) hS (⟨2, mL_s (by decide), rfl⟩) (i := ((8) * (q)) + (k)) (x := x) (by omega) (by decide) dX4_paint_122 (fun H_7 L_7 hat hz oq hS => ?_)
                    rw [pnt_s σ.Dt hk.1] at hat
                    have hP : hMod G (σ.wD (pnt σ.Dt q x f (k + 1))) b (zI 0) m1 m2 H_7 := hMod_D hP hd _ hat oq
                    refine z_iinc (lv' := [(6, .int (zI (k + 1))), (5, .int (zI ((ch) + (0)))), (0, .ref (b 0)), (1, .int (zI (q))), (2, .int (zI (f))), (3, .int (zI (tt))), (4, .int (zI (x)))]) S dX4_paint_123 hl 1 rfl (by decide) rfl (fun ls hl => ?_)
                    refine z_goto S 76 dX4_paint_126 (by decide) ?_
                    exact ih_76 (k + 1) ((ch) + (0)) (H_7) (L_7) (hS) (hP) (by omega) (by rw [pntN_f hk.1 (by simpa using c_98), ← hch]; omega) (by omega) ls (lv_sub hl [0, 1, 2, 3, 4, 5, 6] rfl)
            exact loop_76 _ (f) (0) (H_5) (L_5) (hS) (by rw [pnt_0]; exact hP) (by omega) (by unfold pntN; rw [Int.sub_self]; rfl) (Nat.lt_succ_self _) ls (lv_sub hl [0, 1, 2, 3, 4, 5, 6] rfl)
          · skip
            refine z_iconst S dX4_paint_56 ?_
            refine z_goto S 61 dX4_paint_57 (by decide) ?_
            refine z_iconst S dX4_paint_61 ?_
            refine z_callM S hG hS (c_X4_refuse l G (σ) b m1 m2 true (2) (by omega) hd (by exact hrn)) (fun _ h => h) ok_X4_refuse hP.1 zc_X4 rfl q5_25 (hP) ⟨rfl, rfl, by decide, by decide⟩ ⟨Nat.le_of_ble_eq_true rfl, Nat.le_of_ble_eq_true rfl⟩ rfl (Nat.le_of_ble_eq_true rfl) hl.1 rfl dX4_paint_62 (fun H_8 L_8 hB hz oq hS => ?_)
            have hP : hMod G (σ) b (zI 2) m1 m2 H_8 := hB
            refine z_bif_eq S 70 dX4_paint_65 (by decide) (fun qz => ?_) (fun qz => ?_)
            · exact absurd qz (by decide)
            refine z_iconst S dX4_paint_68 ?_
            exact ret _ _ _ _ _ _ _ dX4_paint_69 (by rw [ht, ec_2 (by rw [c_7, c_17, c_27] <;> rfl) (by rw [decide_eq_false c_45, c_53] <;> rfl)] <;> rfl) hS (by rw [ht, ec_2 (by rw [c_7, c_17, c_27] <;> rfl) (by rw [decide_eq_false c_45, c_53] <;> rfl)]; exact hP) (Nat.le_of_ble_eq_true rfl) (Nat.le_of_ble_eq_true rfl)
      · skip
        refine z_iconst S dX4_paint_30 ?_
        refine z_goto S 35 dX4_paint_31 (by decide) ?_
        refine z_iconst S dX4_paint_35 ?_
        refine z_callM S hG hS (c_X4_start l G (σ) b th m1 m2 true (1) (by omega) hd (by exact hrn)) (fun _ h => h) ok_X4_start hP.1 zc_X4 rfl q5_21 (hP) ⟨rfl, rfl, by decide, by decide⟩ ⟨Nat.le_of_ble_eq_true rfl, Nat.le_of_ble_eq_true rfl⟩ rfl (Nat.le_of_ble_eq_true rfl) hl.1 rfl dX4_paint_36 (fun H_9 L_9 hB hz oq hS => ?_)
        have hP : hMod G (σ) b (zI 1) m1 m2 H_9 := hB
        refine z_bif_ne S 68 dX4_paint_39 (by decide) (fun qz => ?_) (fun qz => ?_)
        rotate_left
        · exact absurd qz (by decide)
        refine z_iconst S dX4_paint_68 ?_
        exact ret _ _ _ _ _ _ _ dX4_paint_69 (by rw [ht, ec_1 (by rw [c_7, c_17, c_27] <;> rfl)] <;> rfl) hS (by rw [ht, ec_1 (by rw [c_7, c_17, c_27] <;> rfl)]; exact hP) (Nat.le_of_ble_eq_true rfl) (Nat.le_of_ble_eq_true rfl)
theorem dX4_run_0 : decode cX4_run 0 = .ok (.aload_n 0, 1) := by decide +kernel
theorem dX4_run_1 : decode cX4_run 1 = .ok (.iload_n 1, 1) := by decide +kernel
theorem dX4_run_2 : decode cX4_run 2 = .ok (.iconst 1, 1) := by decide +kernel
theorem dX4_run_3 : decode cX4_run 3 = .ok (.sipush 200, 3) := by decide +kernel
theorem dX4_run_6 : decode cX4_run 6 = .ok (.invokestatic 37, 3) := by decide +kernel
theorem dX4_run_9 : decode cX4_run 9 = .ok (.ifCond .ne 7, 3) := by decide +kernel
theorem dX4_run_12 : decode cX4_run 12 = .ok (.iconst 1, 1) := by decide +kernel
theorem dX4_run_13 : decode cX4_run 13 = .ok (.goto 4, 3) := by decide +kernel
theorem dX4_run_16 : decode cX4_run 16 = .ok (.iconst 0, 1) := by decide +kernel
theorem dX4_run_17 : decode cX4_run 17 = .ok (.iconst 1, 1) := by decide +kernel
theorem dX4_run_18 : decode cX4_run 18 = .ok (.invokevirtual 121, 3) := by decide +kernel
theorem dX4_run_21 : decode cX4_run 21 = .ok (.ifCond .ne 27, 3) := by decide +kernel
theorem dX4_run_24 : decode cX4_run 24 = .ok (.aload_n 0, 1) := by decide +kernel
theorem dX4_run_25 : decode cX4_run 25 = .ok (.aload_n 0, 1) := by decide +kernel
theorem dX4_run_26 : decode cX4_run 26 = .ok (.getfield 108, 3) := by decide +kernel
theorem dX4_run_29 : decode cX4_run 29 = .ok (.iload_n 1, 1) := by decide +kernel
theorem dX4_run_30 : decode cX4_run 30 = .ok (.iadd, 1) := by decide +kernel
theorem dX4_run_31 : decode cX4_run 31 = .ok (.ldc 45, 2) := by decide +kernel
theorem dX4_run_33 : decode cX4_run 33 = .ok (.if_icmp .le 7, 3) := by decide +kernel
theorem dX4_run_36 : decode cX4_run 36 = .ok (.iconst 1, 1) := by decide +kernel
theorem dX4_run_37 : decode cX4_run 37 = .ok (.goto 4, 3) := by decide +kernel
theorem dX4_run_40 : decode cX4_run 40 = .ok (.iconst 0, 1) := by decide +kernel
theorem dX4_run_41 : decode cX4_run 41 = .ok (.iconst 2, 1) := by decide +kernel
theorem dX4_run_42 : decode cX4_run 42 = .ok (.invokevirtual 33, 3) := by decide +kernel
theorem dX4_run_45 : decode cX4_run 45 = .ok (.ifCond .eq 5, 3) := by decide +kernel
theorem dX4_run_48 : decode cX4_run 48 = .ok (.iconst 0, 1) := by decide +kernel
theorem dX4_run_49 : decode cX4_run 49 = .ok (.ireturn, 1) := by decide +kernel
theorem dX4_run_50 : decode cX4_run 50 = .ok (.iconst 0, 1) := by decide +kernel
theorem dX4_run_51 : decode cX4_run 51 = .ok (.istore_n 2, 1) := by decide +kernel
theorem dX4_run_52 : decode cX4_run 52 = .ok (.iconst 0, 1) := by decide +kernel
theorem dX4_run_53 : decode cX4_run 53 = .ok (.istore_n 3, 1) := by decide +kernel
theorem dX4_run_54 : decode cX4_run 54 = .ok (.iload_n 3, 1) := by decide +kernel
theorem dX4_run_55 : decode cX4_run 55 = .ok (.iload_n 1, 1) := by decide +kernel
theorem dX4_run_56 : decode cX4_run 56 = .ok (.if_icmp .ge 86, 3) := by decide +kernel
theorem dX4_run_59 : decode cX4_run 59 = .ok (.aload_n 0, 1) := by decide +kernel
theorem dX4_run_60 : decode cX4_run 60 = .ok (.getfield 17, 3) := by decide +kernel
theorem dX4_run_63 : decode cX4_run 63 = .ok (.astore 4, 2) := by decide +kernel
theorem dX4_run_65 : decode cX4_run 65 = .ok (.aload 4, 2) := by decide +kernel
theorem dX4_run_67 : decode cX4_run 67 = .ok (.arraylength, 1) := by decide +kernel
theorem dX4_run_68 : decode cX4_run 68 = .ok (.istore 5, 2) := by decide +kernel
theorem dX4_run_70 : decode cX4_run 70 = .ok (.iconst 0, 1) := by decide +kernel
theorem dX4_run_71 : decode cX4_run 71 = .ok (.istore 6, 2) := by decide +kernel
theorem dX4_run_73 : decode cX4_run 73 = .ok (.iload 6, 2) := by decide +kernel
theorem dX4_run_75 : decode cX4_run 75 = .ok (.iload 5, 2) := by decide +kernel
theorem dX4_run_77 : decode cX4_run 77 = .ok (.if_icmp .ge 49, 3) := by decide +kernel
theorem dX4_run_80 : decode cX4_run 80 = .ok (.aload 4, 2) := by decide +kernel
theorem dX4_run_82 : decode cX4_run 82 = .ok (.iload 6, 2) := by decide +kernel
theorem dX4_run_84 : decode cX4_run 84 = .ok (.iaload, 1) := by decide +kernel
theorem dX4_run_85 : decode cX4_run 85 = .ok (.istore 7, 2) := by decide +kernel
theorem dX4_run_87 : decode cX4_run 87 = .ok (.iload_n 2, 1) := by decide +kernel
theorem dX4_run_88 : decode cX4_run 88 = .ok (.aload_n 0, 1) := by decide +kernel
theorem dX4_run_89 : decode cX4_run 89 = .ok (.iload 7, 2) := by decide +kernel
theorem dX4_run_91 : decode cX4_run 91 = .ok (.aload_n 0, 1) := by decide +kernel
theorem dX4_run_92 : decode cX4_run 92 = .ok (.getfield 108, 3) := by decide +kernel
theorem dX4_run_95 : decode cX4_run 95 = .ok (.invokevirtual 84, 3) := by decide +kernel
theorem dX4_run_98 : decode cX4_run 98 = .ok (.aload_n 0, 1) := by decide +kernel
theorem dX4_run_99 : decode cX4_run 99 = .ok (.iload 7, 2) := by decide +kernel
theorem dX4_run_101 : decode cX4_run 101 = .ok (.aload_n 0, 1) := by decide +kernel
theorem dX4_run_102 : decode cX4_run 102 = .ok (.getfield 108, 3) := by decide +kernel
theorem dX4_run_105 : decode cX4_run 105 = .ok (.iconst 1, 1) := by decide +kernel
theorem dX4_run_106 : decode cX4_run 106 = .ok (.iadd, 1) := by decide +kernel
theorem dX4_run_107 : decode cX4_run 107 = .ok (.invokevirtual 84, 3) := by decide +kernel
theorem dX4_run_110 : decode cX4_run 110 = .ok (.if_icmp .eq 7, 3) := by decide +kernel
theorem dX4_run_113 : decode cX4_run 113 = .ok (.iconst 1, 1) := by decide +kernel
theorem dX4_run_114 : decode cX4_run 114 = .ok (.goto 4, 3) := by decide +kernel
theorem dX4_run_117 : decode cX4_run 117 = .ok (.iconst 0, 1) := by decide +kernel
theorem dX4_run_118 : decode cX4_run 118 = .ok (.iadd, 1) := by decide +kernel
theorem dX4_run_119 : decode cX4_run 119 = .ok (.istore_n 2, 1) := by decide +kernel
theorem dX4_run_120 : decode cX4_run 120 = .ok (.iinc 6 1, 3) := by decide +kernel
theorem dX4_run_123 : decode cX4_run 123 = .ok (.goto (-50), 3) := by decide +kernel
theorem dX4_run_126 : decode cX4_run 126 = .ok (.aload_n 0, 1) := by decide +kernel
theorem dX4_run_127 : decode cX4_run 127 = .ok (.dup, 1) := by decide +kernel
theorem dX4_run_128 : decode cX4_run 128 = .ok (.getfield 108, 3) := by decide +kernel
theorem dX4_run_131 : decode cX4_run 131 = .ok (.iconst 1, 1) := by decide +kernel
theorem dX4_run_132 : decode cX4_run 132 = .ok (.iadd, 1) := by decide +kernel
theorem dX4_run_133 : decode cX4_run 133 = .ok (.putfield 108, 3) := by decide +kernel
theorem dX4_run_136 : decode cX4_run 136 = .ok (.iinc 3 1, 3) := by decide +kernel
theorem dX4_run_139 : decode cX4_run 139 = .ok (.goto (-85), 3) := by decide +kernel
theorem dX4_run_142 : decode cX4_run 142 = .ok (.iload_n 2, 1) := by decide +kernel
theorem dX4_run_143 : decode cX4_run 143 = .ok (.ireturn, 1) := by decide +kernel
theorem q5_170 : (Jvm.Cond.code ({ cls := "CyclepaintModel", name := "run", desc := "(I)I" } : Jvm.MethodName) prog_6_method_34_code (8 : Nat) (Option.some Jvm.ClassFile.FieldType.int)) ∈ lw_g := zg_of (zin5 (List.mem_of_getElem? (i := 170) rfl)) rfl
theorem q5_168 : (Jvm.Cond.instanceMethod ({ cls := "CyclepaintModel", name := "run", desc := "(I)I" } : Jvm.MethodName)) ∈ lw_g := zg_of (zin5 (List.mem_of_getElem? (i := 168) rfl)) rfl
theorem q5_169 : (Jvm.Cond.selects "CyclepaintModel" ({ cls := "CyclepaintModel", name := "run", desc := "(I)I" } : Jvm.MethodName) ({ cls := "CyclepaintModel", name := "run", desc := "(I)I" } : Jvm.MethodName)) ∈ lw_g := zg_of (zin5 (List.mem_of_getElem? (i := 169) rfl)) rfl
theorem ok_X4_run : zOV yX4_run cX4_run 8 ((Option.some Jvm.ClassFile.FieldType.int)) 1 := ⟨⟨q5_170, q1_3, by decide, by decide, by decide +kernel⟩, q5_168, q5_169⟩
set_option maxHeartbeats 4000000 in
set_option maxRecDepth 100000 in
theorem c_X4_run (l : Launch) (G : zG) (σ : St) (b : Nat → Nat) (th m1 m2 : Int32) (hd : inj b (mL σ)) (hO : okR σ) (n : Int) (hn : rg n) (hdt : ∀ d : Int, 0 ≤ d → d < 32 → 0 ≤ σ.Dt d ∧ σ.Dt d < 16) (hT : 0 ≤ σ.tk ∧ σ.tk ≤ 99999) (t : Int) (ht : t = ec (!(decide (1 ≤ n) && decide (n ≤ 200))) (decide (99999 < σ.tk + n))) : Met l yX4_run (wq yX4_run cX4_run 8 ((Option.some Jvm.ClassFile.FieldType.int))) (rmM 5 110 0 0) (va_Pc [.ref (b 0), .int (zI (n))] (zK G (hMod G σ b th m1 m2))) (zM (mA σ b) (some (.int ((if t = 0 then zI (runM σ n) else zI 0)))) (fun H => hMod G (if t = 0 then (σ.wO (σ.tk + n) σ.lim σ.rf) else σ) b (zI t) m1 m2 H)) 0 0 (mA σ b) := by
  refine z_enterMI (by decide +kernel) (Nat.le_of_ble_eq_true rfl) ?_
  intro p env s m below meth cod Q S hG hP hS ret ls hl
  have hl : lv_has ls 8 [(0, .ref (b 0)), (1, .int (zI (n)))] := hl
  have hrn := hO.1
  refine z_aload_n S dX4_run_0 hl 0 rfl rfl ?_
  refine z_iload_n S dX4_run_1 hl 1 rfl rfl ?_
  refine z_iconst S dX4_run_2 ?_
  refine z_sipush S dX4_run_3 rfl ?_
  refine z_callSs S hG (c_X4_isIn l G (n) (1) (200) (by omega)) ok_X4_isIn q5_18 (trivial) ⟨rfl, rfl, by decide, by decide⟩ ⟨Nat.zero_le _, Nat.zero_le _⟩ rfl (Nat.le_of_ble_eq_true rfl) hl.1 rfl dX4_run_6 ?_
  refine z_bif_ne S 16 dX4_run_9 (by decide) (fun c_9 => ?_) (fun c_9 => ?_)
  · skip
    refine z_iconst S dX4_run_16 ?_
    refine z_iconst S dX4_run_17 ?_
    refine z_callM S hG hS (c_X4_start l G (σ) b th m1 m2 false (1) (by omega) hd (by exact hrn)) (fun _ h => h) ok_X4_start hP.1 zc_X4 rfl q5_21 (hP) ⟨rfl, rfl, by decide, by decide⟩ ⟨Nat.le_of_ble_eq_true rfl, Nat.le_of_ble_eq_true rfl⟩ rfl (Nat.le_of_ble_eq_true rfl) hl.1 rfl dX4_run_18 (fun H_1 L_1 hB hz oq hS => ?_)
    have hP : hMod G (σ) b (zI 0) m1 m2 H_1 := hB
    refine z_bif_ne S 48 dX4_run_21 (by decide) (fun qz => ?_) (fun qz => ?_)
    · exact absurd qz (by decide)
    have hn2 := in_T c_9
    refine z_aload_n S dX4_run_24 hl 0 rfl rfl ?_
    refine z_aload_n S dX4_run_25 hl 0 rfl rfl ?_
    refine z_get S hG hP.1 zc_X4 1 (by decide) q4_227 rfl rfl dX4_run_26 ?_
    refine z_iload_n S dX4_run_29 hl 1 rfl rfl ?_
    refine z_iadd S dX4_run_30 ?_
    refine z_ldc S (99999) q5_171 rfl dX4_run_31 ?_
    refine z_icmp_le S 40 dX4_run_33 (by decide) (by omega) (by omega) (fun c_33 => ?_) (fun c_33 => ?_)
    · skip
      refine z_iconst S dX4_run_40 ?_
      refine z_iconst S dX4_run_41 ?_
      refine z_callM S hG hS (c_X4_refuse l G (σ) b m1 m2 false (2) (by omega) hd (by exact hrn)) (fun _ h => h) ok_X4_refuse hP.1 zc_X4 rfl q5_25 (hP) ⟨rfl, rfl, by decide, by decide⟩ ⟨Nat.le_of_ble_eq_true rfl, Nat.le_of_ble_eq_true rfl⟩ rfl (Nat.le_of_ble_eq_true rfl) hl.1 rfl dX4_run_42 (fun H_2 L_2 hB hz oq hS => ?_)
      have hP : hMod G (σ) b (zI 0) m1 m2 H_2 := hB
      refine z_bif_eq S 50 dX4_run_45 (by decide) (fun qz => ?_) (fun qz => ?_)
      rotate_left
      · exact absurd qz (by decide)
      refine z_iconst S dX4_run_50 ?_
      refine z_istore_n (lv' := [(2, .int (zI (0))), (0, .ref (b 0)), (1, .int (zI (n)))]) S dX4_run_51 hl rfl (by decide) rfl (fun ls hl => ?_)
      refine z_iconst S dX4_run_52 ?_
      refine z_istore_n (lv' := [(3, .int (zI (0))), (2, .int (zI (0))), (0, .ref (b 0)), (1, .int (zI (n)))]) S dX4_run_53 hl rfl (by decide) rfl (fun ls hl => ?_)
      have loop_54 : ∀ (nn : Nat) (j : Int) (sm : Int) (Hk54 : Heap) (Lk54 : List Loc), (va_S (mA σ b) s.heap Hk54 Lk54) → (hMod G (σ.wO (σ.tk + j) σ.lim σ.rf) b (zI 0) m1 m2 Hk54) → (0 ≤ j ∧ j ≤ n) → (sm = sumI (fun j => dch σ (σ.tk + j)) j) → ((n - j).toNat) < nn → ∀ ls, lv_has ls 8 [(3, .int (zI (j))), (2, .int (zI (sm))), (0, .ref (b 0)), (1, .int (zI (n)))] → W p l env (rmM 5 110 0 0) s m ([.ref (b 0), .int (zI (n))] : List Value).toArray below meth cod Hk54 Lk54 0 0 Q (F0 m 54 ls []) := by
        intro nn
        induction nn with
        | zero => intro _ _ _ _ _ _ _ _ h; exact absurd h (Nat.not_lt_zero _)
        | succ nn ih_54 =>
          intro j sm Hk54 Lk54 hS hP hj hsm hm_54 ls hl
          refine z_iload_n S dX4_run_54 hl 0 rfl rfl ?_
          refine z_iload_n S dX4_run_55 hl 3 rfl rfl ?_
          refine z_icmp_ge S 142 dX4_run_56 (by decide) (by omega) (by omega) (fun c_56 => ?_) (fun c_56 => ?_)
          · skip
            refine z_iload_n S dX4_run_142 hl 1 rfl rfl ?_
            exact ret _ _ _ _ _ _ _ dX4_run_143 (by rw [ht, ec_0 (by rw [c_9] <;> rfl) (by rw [decide_eq_false (show ¬ (99999 < σ.tk + n) by omega)] <;> rfl)]; rw [hsm, show j = n by omega]; rfl) hS (by rw [ht, ec_0 (by rw [c_9] <;> rfl) (by rw [decide_eq_false (show ¬ (99999 < σ.tk + n) by omega)] <;> rfl)]; rw [show j = n by omega] at hP; exact hP) (Nat.le_of_ble_eq_true rfl) (Nat.le_of_ble_eq_true rfl)
          · skip
            refine z_aload_n S dX4_run_59 hl 2 rfl rfl ?_
            refine z_get S hG hP.1 zc_X4 5 (by decide) q4_231 rfl rfl dX4_run_60 ?_
            refine z_astore (lv' := [(4, .ref (b 2)), (3, .int (zI (j))), (2, .int (zI (sm))), (0, .ref (b 0)), (1, .int (zI (n)))]) S dX4_run_63 hl (by decide) rfl (fun ls hl => ?_)
            refine z_aload S dX4_run_65 hl 0 rfl ?_
            refine z_alenI S hG hP.2.2.1 dX4_run_67 ?_
            refine z_istore (lv' := [(5, .int (zI (32))), (4, .ref (b 2)), (3, .int (zI (j))), (2, .int (zI (sm))), (0, .ref (b 0)), (1, .int (zI (n)))]) S dX4_run_68 hl (by decide) rfl (fun ls hl => ?_)
            refine z_iconst S dX4_run_70 ?_
            refine z_istore (lv' := [(6, .int (zI (0))), (5, .int (zI (32))), (4, .ref (b 2)), (3, .int (zI (j))), (2, .int (zI (sm))), (0, .ref (b 0)), (1, .int (zI (n)))]) S dX4_run_71 hl (by decide) rfl (fun ls hl => ?_)
            have loop_73 : ∀ (nn : Nat) (d : Int) (s2 : Int), (0 ≤ d ∧ d ≤ 32) → (s2 = sumI (fun j => dch σ (σ.tk + j)) j + cntI (dchB σ (σ.tk + j)) d) → ((32 - d).toNat) < nn → ∀ ls, lv_has ls 8 [(6, .int (zI (d))), (5, .int (zI (32))), (4, .ref (b 2)), (3, .int (zI (j))), (2, .int (zI (s2))), (0, .ref (b 0)), (1, .int (zI (n)))] → W p l env (rmM 5 110 0 0) s m ([.ref (b 0), .int (zI (n))] : List Value).toArray below meth cod Hk54 Lk54 0 0 Q (F0 m 73 ls []) := by
              intro nn
              induction nn with
              | zero => intro _ _ _ _ h; exact absurd h (Nat.not_lt_zero _)
              | succ nn ih_73 =>
                intro d s2 hd2 hs2 hm_73 ls hl
                refine z_iload S dX4_run_73 hl 0 rfl ?_
                refine z_iload S dX4_run_75 hl 1 rfl ?_
                refine z_icmp_ge S 126 dX4_run_77 (by decide) (by omega) (by omega) (fun c_77 => ?_) (fun c_77 => ?_)
                · skip
                  refine z_aload_n S dX4_run_126 hl 5 rfl rfl ?_
                  refine z_dup S dX4_run_127 rfl ?_
                  refine z_get S hG hP.1 zc_X4 1 (by decide) q4_227 rfl rfl dX4_run_128 ?_
                  refine z_iconst S dX4_run_131 ?_
                  refine z_iadd S dX4_run_132 ?_
                  refine z_put S hG hP.1 zc_X4 _ (zty_X4) (znm_X4) hS (⟨0, mL_s (by decide), rfl⟩) 1 (by decide) q4_227 rfl rfl rfl rfl rfl (Nat.le_of_ble_eq_true rfl) dX4_run_133 (fun H_3 L_3 hat hz oq hS => ?_)
                  have hP : hMod G (σ.wO ((σ.tk + j) + (1)) (σ.lim) (σ.rf)) b (zI 0) m1 m2 H_3 := hMod_o hP hd (by exact hrn.2) (zI 0) ((σ.tk + j) + (1)) (σ.lim) (σ.rf) hat oq
                  refine z_iinc (lv' := [(3, .int (zI (j + 1))), (6, .int (zI (d))), (5, .int (zI (32))), (4, .ref (b 2)), (2, .int (zI (s2))), (0, .ref (b 0)), (1, .int (zI (n)))]) S dX4_run_136 hl 3 rfl (by decide) rfl (fun ls hl => ?_)
                  refine z_goto S 54 dX4_run_139 (by decide) ?_
                  exact ih_54 (j + 1) (s2) (H_3) (L_3) (hS) (by rw [← Int.add_assoc]; exact hP) (by omega) (by rw [sumI_s hj.1, hs2, show d = 32 by omega]; rfl) (by omega) ls (lv_sub hl [0, 4, 5, 6] rfl)
                · skip
                  refine z_aload S dX4_run_80 hl 2 rfl ?_
                  refine z_iload S dX4_run_82 hl 0 rfl ?_
                  have hdt0 := hdt d hd2.1 (by omega)
                  refine z_ialdB S hG hP.2.2.1 (by omega) (by decide) dX4_run_84 ?_
                  refine z_istore (lv' := [(7, .int (zI (σ.Dt (d)))), (6, .int (zI (d))), (5, .int (zI (32))), (4, .ref (b 2)), (3, .int (zI (j))), (2, .int (zI (s2))), (0, .ref (b 0)), (1, .int (zI (n)))]) S dX4_run_85 hl (by decide) rfl (fun ls hl => ?_)
                  refine z_iload_n S dX4_run_87 hl 5 rfl rfl ?_
                  refine z_aload_n S dX4_run_88 hl 6 rfl rfl ?_
                  refine z_iload S dX4_run_89 hl 0 rfl ?_
                  refine z_aload_n S dX4_run_91 hl 6 rfl rfl ?_
                  refine z_get S hG hP.1 zc_X4 1 (by decide) q4_227 rfl rfl dX4_run_92 ?_
                  refine z_callVs S hG (c_X4_show l G (σ.wO (σ.tk + j) σ.lim σ.rf) b (zI 0) m1 m2 (σ.Dt (d)) (σ.tk + j) (by omega) (by omega)) ok_X4_show hP.1 zc_X4 rfl q5_159 (hP) ⟨rfl, rfl, by decide, by decide⟩ ⟨Nat.zero_le _, Nat.zero_le _⟩ rfl (Nat.le_of_ble_eq_true rfl) hl.1 rfl dX4_run_95 ?_
                  rw [shw_wO]
                  refine z_aload_n S dX4_run_98 hl 6 rfl rfl ?_
                  refine z_iload S dX4_run_99 hl 0 rfl ?_
                  refine z_aload_n S dX4_run_101 hl 6 rfl rfl ?_
                  refine z_get S hG hP.1 zc_X4 1 (by decide) q4_227 rfl rfl dX4_run_102 ?_
                  refine z_iconst S dX4_run_105 ?_
                  refine z_iadd S dX4_run_106 ?_
                  refine z_callVs S hG (c_X4_show l G (σ.wO (σ.tk + j) σ.lim σ.rf) b (zI 0) m1 m2 (σ.Dt (d)) ((σ.tk + j) + (1)) (by omega) (by omega)) ok_X4_show hP.1 zc_X4 rfl q5_159 (hP) ⟨rfl, rfl, by decide, by decide⟩ ⟨Nat.zero_le _, Nat.zero_le _⟩ rfl (Nat.le_of_ble_eq_true rfl) hl.1 rfl dX4_run_107 ?_
                  rw [shw_wO]
                  refine lv_icmp_eq (tgt := 117) S.1 S.2.1 dX4_run_110 (by decide) (fun c_110 => ?_) (fun c_110 => ?_)
                  · skip
                    refine z_iconst S dX4_run_117 ?_
                    refine z_iadd S dX4_run_118 ?_
                    refine z_istore_n (lv' := [(2, .int (zI ((s2) + (0)))), (7, .int (zI (σ.Dt (d)))), (6, .int (zI (d))), (5, .int (zI (32))), (4, .ref (b 2)), (3, .int (zI (j))), (0, .ref (b 0)), (1, .int (zI (n)))]) S dX4_run_119 hl rfl (by decide) rfl (fun ls hl => ?_)
                    refine z_iinc (lv' := [(6, .int (zI (d + 1))), (2, .int (zI ((s2) + (0)))), (7, .int (zI (σ.Dt (d)))), (5, .int (zI (32))), (4, .ref (b 2)), (3, .int (zI (j))), (0, .ref (b 0)), (1, .int (zI (n)))]) S dX4_run_120 hl 2 rfl (by decide) rfl (fun ls hl => ?_)
                    refine z_goto S 73 dX4_run_123 (by decide) ?_
                    exact ih_73 (d + 1) ((s2) + (0)) (by omega) (by rw [cntI_f hd2.1 (by unfold dchB; simpa using c_110), hs2]; omega) (by omega) ls (lv_sub hl [0, 3, 4, 5, 1, 6, 7] rfl)
                  · skip
                    refine z_iconst S dX4_run_113 ?_
                    refine z_goto S 118 dX4_run_114 (by decide) ?_
                    refine z_iadd S dX4_run_118 ?_
                    refine z_istore_n (lv' := [(2, .int (zI ((s2) + (1)))), (7, .int (zI (σ.Dt (d)))), (6, .int (zI (d))), (5, .int (zI (32))), (4, .ref (b 2)), (3, .int (zI (j))), (0, .ref (b 0)), (1, .int (zI (n)))]) S dX4_run_119 hl rfl (by decide) rfl (fun ls hl => ?_)
                    refine z_iinc (lv' := [(6, .int (zI (d + 1))), (2, .int (zI ((s2) + (1)))), (7, .int (zI (σ.Dt (d)))), (5, .int (zI (32))), (4, .ref (b 2)), (3, .int (zI (j))), (0, .ref (b 0)), (1, .int (zI (n)))]) S dX4_run_120 hl 2 rfl (by decide) rfl (fun ls hl => ?_)
                    refine z_goto S 73 dX4_run_123 (by decide) ?_
                    exact ih_73 (d + 1) ((s2) + (1)) (by omega) (by rw [cntI_t hd2.1 (by unfold dchB; simpa using c_110), hs2]; omega) (by omega) ls (lv_sub hl [0, 3, 4, 5, 1, 6, 7] rfl)
            exact loop_73 _ (0) (sm) (by omega) (by rw [cntI_0, Int.add_zero]; exact hsm) (Nat.lt_succ_self _) ls (lv_sub hl [0, 1, 2, 3, 4, 5, 6] rfl)
      exact loop_54 _ (0) (0) (H_2) (L_2) (hS) (by rw [Int.add_zero]; exact hP) (by omega) (rfl) (Nat.lt_succ_self _) ls (lv_sub hl [0, 1, 2, 3] rfl)
    · skip
      refine z_iconst S dX4_run_36 ?_
      refine z_goto S 41 dX4_run_37 (by decide) ?_
      refine z_iconst S dX4_run_41 ?_
      refine z_callM S hG hS (c_X4_refuse l G (σ) b m1 m2 true (2) (by omega) hd (by exact hrn)) (fun _ h => h) ok_X4_refuse hP.1 zc_X4 rfl q5_25 (hP) ⟨rfl, rfl, by decide, by decide⟩ ⟨Nat.le_of_ble_eq_true rfl, Nat.le_of_ble_eq_true rfl⟩ rfl (Nat.le_of_ble_eq_true rfl) hl.1 rfl dX4_run_42 (fun H_4 L_4 hB hz oq hS => ?_)
      have hP : hMod G (σ) b (zI 2) m1 m2 H_4 := hB
      refine z_bif_eq S 50 dX4_run_45 (by decide) (fun qz => ?_) (fun qz => ?_)
      · exact absurd qz (by decide)
      refine z_iconst S dX4_run_48 ?_
      exact ret _ _ _ _ _ _ _ dX4_run_49 (by rw [ht, ec_2 (by rw [c_9] <;> rfl) (by rw [decide_eq_true (show 99999 < σ.tk + n by omega)] <;> rfl)] <;> rfl) hS (by rw [ht, ec_2 (by rw [c_9] <;> rfl) (by rw [decide_eq_true (show 99999 < σ.tk + n by omega)] <;> rfl)]; exact hP) (Nat.le_of_ble_eq_true rfl) (Nat.le_of_ble_eq_true rfl)
  · skip
    refine z_iconst S dX4_run_12 ?_
    refine z_goto S 17 dX4_run_13 (by decide) ?_
    refine z_iconst S dX4_run_17 ?_
    refine z_callM S hG hS (c_X4_start l G (σ) b th m1 m2 true (1) (by omega) hd (by exact hrn)) (fun _ h => h) ok_X4_start hP.1 zc_X4 rfl q5_21 (hP) ⟨rfl, rfl, by decide, by decide⟩ ⟨Nat.le_of_ble_eq_true rfl, Nat.le_of_ble_eq_true rfl⟩ rfl (Nat.le_of_ble_eq_true rfl) hl.1 rfl dX4_run_18 (fun H_5 L_5 hB hz oq hS => ?_)
    have hP : hMod G (σ) b (zI 1) m1 m2 H_5 := hB
    refine z_bif_ne S 48 dX4_run_21 (by decide) (fun qz => ?_) (fun qz => ?_)
    rotate_left
    · exact absurd qz (by decide)
    refine z_iconst S dX4_run_48 ?_
    exact ret _ _ _ _ _ _ _ dX4_run_49 (by rw [ht, ec_1 (by rw [c_9] <;> rfl)] <;> rfl) hS (by rw [ht, ec_1 (by rw [c_9] <;> rfl)]; exact hP) (Nat.le_of_ble_eq_true rfl) (Nat.le_of_ble_eq_true rfl)
theorem dX4_call_0 : decode cX4_call 0 = .ok (.aload_n 0, 1) := by decide +kernel
theorem dX4_call_1 : decode cX4_call 1 = .ok (.iconst 0, 1) := by decide +kernel
theorem dX4_call_2 : decode cX4_call 2 = .ok (.putfield 30, 3) := by decide +kernel
theorem dX4_call_5 : decode cX4_call 5 = .ok (.aload_n 0, 1) := by decide +kernel
theorem dX4_call_6 : decode cX4_call 6 = .ok (.dup, 1) := by decide +kernel
theorem dX4_call_7 : decode cX4_call 7 = .ok (.getfield 146, 3) := by decide +kernel
theorem dX4_call_10 : decode cX4_call 10 = .ok (.iconst 1, 1) := by decide +kernel
theorem dX4_call_11 : decode cX4_call 11 = .ok (.iadd, 1) := by decide +kernel
theorem dX4_call_12 : decode cX4_call 12 = .ok (.dup_x1, 1) := by decide +kernel
theorem dX4_call_13 : decode cX4_call 13 = .ok (.putfield 146, 3) := by decide +kernel
theorem dX4_call_16 : decode cX4_call 16 = .ok (.ireturn, 1) := by decide +kernel
theorem q5_198 : (Jvm.Cond.code ({ cls := "CyclepaintModel", name := "call", desc := "()I" } : Jvm.MethodName) prog_6_method_38_code (1 : Nat) (Option.some Jvm.ClassFile.FieldType.int)) ∈ lw_g := zg_of (zin5 (List.mem_of_getElem? (i := 198) rfl)) rfl
theorem q5_196 : (Jvm.Cond.instanceMethod ({ cls := "CyclepaintModel", name := "call", desc := "()I" } : Jvm.MethodName)) ∈ lw_g := zg_of (zin5 (List.mem_of_getElem? (i := 196) rfl)) rfl
theorem q5_197 : (Jvm.Cond.selects "CyclepaintModel" ({ cls := "CyclepaintModel", name := "call", desc := "()I" } : Jvm.MethodName) ({ cls := "CyclepaintModel", name := "call", desc := "()I" } : Jvm.MethodName)) ∈ lw_g := zg_of (zin5 (List.mem_of_getElem? (i := 197) rfl)) rfl
theorem ok_X4_call : zOV yX4_call cX4_call 1 ((Option.some Jvm.ClassFile.FieldType.int)) 0 := ⟨⟨q5_198, q1_3, by decide, by decide, by decide +kernel⟩, q5_196, q5_197⟩
set_option maxHeartbeats 4000000 in
set_option maxRecDepth 100000 in
theorem c_X4_call (l : Launch) (G : zG) (σ : St) (b : Nat → Nat) (th m1 m2 : Int32) (hd : inj b (mL σ)) (hO : okR σ)  : Met l yX4_call (wq yX4_call cX4_call 1 ((Option.some Jvm.ClassFile.FieldType.int))) (rmM 0 0 0 0) (va_Pc [.ref (b 0)] (zK G (hMod G σ b th m1 m2))) (zM (mA σ b) (some (.int ((σ.rf + zI 1)))) (fun H => hMod G (σ.wO σ.tk σ.lim (σ.rf + zI 1)) b (zI 0) m1 m2 H)) 0 0 (mA σ b) := by
  refine z_enterMI (by decide +kernel) (Nat.le_of_ble_eq_true rfl) ?_
  intro p env s m below meth cod Q S hG hP hS ret ls hl
  have hl : lv_has ls 1 [(0, .ref (b 0))] := hl
  have hrn := hO.1
  refine z_aload_n S dX4_call_0 hl 0 rfl rfl ?_
  refine z_iconst S dX4_call_1 ?_
  refine z_put S hG hP.1 zc_X4 _ (zty_X4) (znm_X4) hS (⟨0, mL_s (by decide), rfl⟩) 0 (by decide) q4_226 rfl rfl rfl rfl rfl (Nat.le_of_ble_eq_true rfl) dX4_call_2 (fun H_1 L_1 hat hz oq hS => ?_)
  have hP : hMod G (σ) b (zI (0)) m1 m2 H_1 := hMod_o hP hd (by exact hrn.2) (zI (0)) (σ.tk) (σ.lim) (σ.rf) hat oq
  refine z_aload_n S dX4_call_5 hl 0 rfl rfl ?_
  refine z_dup S dX4_call_6 rfl ?_
  refine z_get S hG hP.1 zc_X4 2 (by decide) q4_228 rfl rfl dX4_call_7 ?_
  refine z_iconst S dX4_call_10 ?_
  refine lv_iadd S.1 S.2.1 dX4_call_11 ?_
  refine lv_dup_x1 S.1 S.2.1 dX4_call_12 rfl rfl ?_
  refine z_put S hG hP.1 zc_X4 _ (zty_X4) (znm_X4) hS (⟨0, mL_s (by decide), rfl⟩) 2 (by decide) q4_228 rfl rfl rfl rfl rfl (Nat.le_of_ble_eq_true rfl) dX4_call_13 (fun H_2 L_2 hat hz oq hS => ?_)
  have hP : hMod G (σ.wO (σ.tk) (σ.lim) (((σ.rf) + (zI (1))))) b (zI (0)) m1 m2 H_2 := hMod_o hP hd (by exact hrn.2) (zI (0)) (σ.tk) (σ.lim) (((σ.rf) + (zI (1)))) hat oq
  exact ret _ _ _ _ _ _ _ dX4_call_16 (rfl) hS (by exact hP) (Nat.le_of_ble_eq_true rfl) (Nat.le_of_ble_eq_true rfl)
theorem dX4_merge_0 : decode cX4_merge 0 = .ok (.aload_n 0, 1) := by decide +kernel
theorem dX4_merge_1 : decode cX4_merge 1 = .ok (.iconst 0, 1) := by decide +kernel
theorem dX4_merge_2 : decode cX4_merge 2 = .ok (.putfield 30, 3) := by decide +kernel
theorem dX4_merge_5 : decode cX4_merge 5 = .ok (.iconst 0, 1) := by decide +kernel
theorem dX4_merge_6 : decode cX4_merge 6 = .ok (.istore_n 1, 1) := by decide +kernel
theorem dX4_merge_7 : decode cX4_merge 7 = .ok (.iconst 0, 1) := by decide +kernel
theorem dX4_merge_8 : decode cX4_merge 8 = .ok (.istore_n 2, 1) := by decide +kernel
theorem dX4_merge_9 : decode cX4_merge 9 = .ok (.iload_n 2, 1) := by decide +kernel
theorem dX4_merge_10 : decode cX4_merge 10 = .ok (.aload_n 0, 1) := by decide +kernel
theorem dX4_merge_11 : decode cX4_merge 11 = .ok (.getfield 17, 3) := by decide +kernel
theorem dX4_merge_14 : decode cX4_merge 14 = .ok (.arraylength, 1) := by decide +kernel
theorem dX4_merge_15 : decode cX4_merge 15 = .ok (.if_icmp .ge 45, 3) := by decide +kernel
theorem dX4_merge_18 : decode cX4_merge 18 = .ok (.aload_n 0, 1) := by decide +kernel
theorem dX4_merge_19 : decode cX4_merge 19 = .ok (.aload_n 0, 1) := by decide +kernel
theorem dX4_merge_20 : decode cX4_merge 20 = .ok (.getfield 17, 3) := by decide +kernel
theorem dX4_merge_23 : decode cX4_merge 23 = .ok (.iload_n 2, 1) := by decide +kernel
theorem dX4_merge_24 : decode cX4_merge 24 = .ok (.iaload, 1) := by decide +kernel
theorem dX4_merge_25 : decode cX4_merge 25 = .ok (.invokevirtual 102, 3) := by decide +kernel
theorem dX4_merge_28 : decode cX4_merge 28 = .ok (.istore_n 3, 1) := by decide +kernel
theorem dX4_merge_29 : decode cX4_merge 29 = .ok (.iload_n 1, 1) := by decide +kernel
theorem dX4_merge_30 : decode cX4_merge 30 = .ok (.iload_n 3, 1) := by decide +kernel
theorem dX4_merge_31 : decode cX4_merge 31 = .ok (.aload_n 0, 1) := by decide +kernel
theorem dX4_merge_32 : decode cX4_merge 32 = .ok (.getfield 17, 3) := by decide +kernel
theorem dX4_merge_35 : decode cX4_merge 35 = .ok (.iload_n 2, 1) := by decide +kernel
theorem dX4_merge_36 : decode cX4_merge 36 = .ok (.iaload, 1) := by decide +kernel
theorem dX4_merge_37 : decode cX4_merge 37 = .ok (.if_icmp .ne 7, 3) := by decide +kernel
theorem dX4_merge_40 : decode cX4_merge 40 = .ok (.iconst 0, 1) := by decide +kernel
theorem dX4_merge_41 : decode cX4_merge 41 = .ok (.goto 4, 3) := by decide +kernel
theorem dX4_merge_44 : decode cX4_merge 44 = .ok (.iconst 1, 1) := by decide +kernel
theorem dX4_merge_45 : decode cX4_merge 45 = .ok (.iadd, 1) := by decide +kernel
theorem dX4_merge_46 : decode cX4_merge 46 = .ok (.istore_n 1, 1) := by decide +kernel
theorem dX4_merge_47 : decode cX4_merge 47 = .ok (.aload_n 0, 1) := by decide +kernel
theorem dX4_merge_48 : decode cX4_merge 48 = .ok (.getfield 17, 3) := by decide +kernel
theorem dX4_merge_51 : decode cX4_merge 51 = .ok (.iload_n 2, 1) := by decide +kernel
theorem dX4_merge_52 : decode cX4_merge 52 = .ok (.iload_n 3, 1) := by decide +kernel
theorem dX4_merge_53 : decode cX4_merge 53 = .ok (.iastore, 1) := by decide +kernel
theorem dX4_merge_54 : decode cX4_merge 54 = .ok (.iinc 2 1, 3) := by decide +kernel
theorem dX4_merge_57 : decode cX4_merge 57 = .ok (.goto (-48), 3) := by decide +kernel
theorem dX4_merge_60 : decode cX4_merge 60 = .ok (.iload_n 1, 1) := by decide +kernel
theorem dX4_merge_61 : decode cX4_merge 61 = .ok (.ireturn, 1) := by decide +kernel
theorem q5_136 : (Jvm.Cond.code ({ cls := "CyclepaintModel", name := "merge", desc := "()I" } : Jvm.MethodName) prog_6_method_33_code (4 : Nat) (Option.some Jvm.ClassFile.FieldType.int)) ∈ lw_g := zg_of (zin5 (List.mem_of_getElem? (i := 136) rfl)) rfl
theorem q5_134 : (Jvm.Cond.instanceMethod ({ cls := "CyclepaintModel", name := "merge", desc := "()I" } : Jvm.MethodName)) ∈ lw_g := zg_of (zin5 (List.mem_of_getElem? (i := 134) rfl)) rfl
theorem q5_135 : (Jvm.Cond.selects "CyclepaintModel" ({ cls := "CyclepaintModel", name := "merge", desc := "()I" } : Jvm.MethodName) ({ cls := "CyclepaintModel", name := "merge", desc := "()I" } : Jvm.MethodName)) ∈ lw_g := zg_of (zin5 (List.mem_of_getElem? (i := 135) rfl)) rfl
theorem ok_X4_merge : zOV yX4_merge cX4_merge 4 ((Option.some Jvm.ClassFile.FieldType.int)) 0 := ⟨⟨q5_136, q1_3, by decide, by decide, by decide +kernel⟩, q5_134, q5_135⟩
set_option maxHeartbeats 4000000 in
set_option maxRecDepth 100000 in
theorem c_X4_merge (l : Launch) (G : zG) (σ : St) (b : Nat → Nat) (th m1 m2 : Int32) (hd : inj b (mL σ)) (hO : okR σ) (hdt : ∀ d : Int, 0 ≤ d → d < 32 → 0 ≤ σ.Dt d ∧ σ.Dt d < 16) : Met l yX4_merge (wq yX4_merge cX4_merge 4 ((Option.some Jvm.ClassFile.FieldType.int))) (rmM 8 178 0 0) (va_Pc [.ref (b 0)] (zK G (hMod G σ b th m1 m2))) (zM (mA σ b) (some (.int ((zI (mrgN σ 32))))) (fun H => hMod G (σ.wD (mrg (smM σ) σ.Dt 32)) b (zI 0) m1 m2 H)) 0 0 (mA σ b) := by
  refine z_enterMI (by decide +kernel) (Nat.le_of_ble_eq_true rfl) ?_
  intro p env s m below meth cod Q S hG hP hS ret ls hl
  have hl : lv_has ls 4 [(0, .ref (b 0))] := hl
  have hrn := hO.1
  refine z_aload_n S dX4_merge_0 hl 0 rfl rfl ?_
  refine z_iconst S dX4_merge_1 ?_
  refine z_put S hG hP.1 zc_X4 _ (zty_X4) (znm_X4) hS (⟨0, mL_s (by decide), rfl⟩) 0 (by decide) q4_226 rfl rfl rfl rfl rfl (Nat.le_of_ble_eq_true rfl) dX4_merge_2 (fun H_1 L_1 hat hz oq hS => ?_)
  have hP : hMod G (σ) b (zI (0)) m1 m2 H_1 := hMod_o hP hd (by exact hrn.2) (zI (0)) (σ.tk) (σ.lim) (σ.rf) hat oq
  refine z_iconst S dX4_merge_5 ?_
  refine z_istore_n (lv' := [(1, .int (zI (0))), (0, .ref (b 0))]) S dX4_merge_6 hl rfl (by decide) rfl (fun ls hl => ?_)
  refine z_iconst S dX4_merge_7 ?_
  refine z_istore_n (lv' := [(2, .int (zI (0))), (1, .int (zI (0))), (0, .ref (b 0))]) S dX4_merge_8 hl rfl (by decide) rfl (fun ls hl => ?_)
  have loop_9 : ∀ (nn : Nat) (k : Int) (ch : Int) (Hk9 : Heap) (Lk9 : List Loc), (va_S (mA σ b) s.heap Hk9 Lk9) → (hMod G (σ.wD (mrg (smM σ) σ.Dt k)) b (zI 0) m1 m2 Hk9) → (0 ≤ k ∧ k ≤ 32) → (ch = mrgN σ k) → ((32 - k).toNat) < nn → ∀ ls, lv_has ls 4 [(2, .int (zI (k))), (1, .int (zI (ch))), (0, .ref (b 0))] → W p l env (rmM 8 178 0 0) s m ([.ref (b 0)] : List Value).toArray below meth cod Hk9 Lk9 0 0 Q (F0 m 9 ls []) := by
    intro nn
    induction nn with
    | zero => intro _ _ _ _ _ _ _ _ h; exact absurd h (Nat.not_lt_zero _)
    | succ nn ih_9 =>
      intro k ch Hk9 Lk9 hS hP hk hch hm_9 ls hl
      refine z_iload_n S dX4_merge_9 hl 0 rfl rfl ?_
      refine z_aload_n S dX4_merge_10 hl 2 rfl rfl ?_
      refine z_get S hG hP.1 zc_X4 5 (by decide) q4_231 rfl rfl dX4_merge_11 ?_
      refine z_alenI S hG (show va_at G.1 vwCl (b 2, .inl (G.2 0, 32, .inl (zB (mrg (smM σ) σ.Dt k)))) Hk9 from hP.2.2.1) dX4_merge_14 ?_
      refine z_icmp_ge S 60 dX4_merge_15 (by decide) (by omega) (by omega) (fun c_15 => ?_) (fun c_15 => ?_)
      · skip
        refine z_iload_n S dX4_merge_60 hl 1 rfl rfl ?_
        exact ret _ _ _ _ _ _ _ dX4_merge_61 (by rw [hch, show k = 32 by omega]) hS (by rw [show k = 32 by omega] at hP; exact hP) (Nat.le_of_ble_eq_true rfl) (Nat.le_of_ble_eq_true rfl)
      · skip
        have hdt0 := hdt k hk.1 (by omega)
        have hsmb := smM_ok σ hdt0
        skip
        refine z_aload_n S dX4_merge_18 hl 2 rfl rfl ?_
        refine z_aload_n S dX4_merge_19 hl 2 rfl rfl ?_
        refine z_get S hG hP.1 zc_X4 5 (by decide) q4_231 rfl rfl dX4_merge_20 ?_
        refine z_iload_n S dX4_merge_23 hl 0 rfl rfl ?_
        refine z_ialdB S hG (show va_at G.1 vwCl (b 2, .inl (G.2 0, 32, .inl (zB (mrg (smM σ) σ.Dt k)))) Hk9 from hP.2.2.1) (by omega) (by decide) dX4_merge_24 ?_
        rw [mrg_at (smM σ) σ.Dt k]
        refine z_callVs S hG (c_X4_smallest l G (σ.wD (mrg (smM σ) σ.Dt k)) b (zI 0) m1 m2 (σ.Dt k) (by omega)) ok_X4_smallest hP.1 zc_X4 rfl q5_137 (hP) ⟨rfl, rfl, by decide, by decide⟩ ⟨Nat.zero_le _, Nat.zero_le _⟩ rfl (Nat.le_of_ble_eq_true rfl) hl.1 rfl dX4_merge_25 ?_
        rw [smM_wD]
        refine z_istore_n (lv' := [(3, .int (zI (smM σ (σ.Dt k)))), (2, .int (zI (k))), (1, .int (zI (ch))), (0, .ref (b 0))]) S dX4_merge_28 hl rfl (by decide) rfl (fun ls hl => ?_)
        refine z_iload_n S dX4_merge_29 hl 2 rfl rfl ?_
        refine z_iload_n S dX4_merge_30 hl 0 rfl rfl ?_
        refine z_aload_n S dX4_merge_31 hl 3 rfl rfl ?_
        refine z_get S hG hP.1 zc_X4 5 (by decide) q4_231 rfl rfl dX4_merge_32 ?_
        refine z_iload_n S dX4_merge_35 hl 1 rfl rfl ?_
        refine z_ialdB S hG (show va_at G.1 vwCl (b 2, .inl (G.2 0, 32, .inl (zB (mrg (smM σ) σ.Dt k)))) Hk9 from hP.2.2.1) (by omega) (by decide) dX4_merge_36 ?_
        rw [mrg_at (smM σ) σ.Dt k]
        refine z_icmp_ne S 44 dX4_merge_37 (by decide) (by omega) (by omega) (fun c_37 => ?_) (fun c_37 => ?_)
        · skip
          refine z_iconst S dX4_merge_44 ?_
          refine z_iadd S dX4_merge_45 ?_
          refine z_istore_n (lv' := [(1, .int (zI ((ch) + (1)))), (3, .int (zI (smM σ (σ.Dt k)))), (2, .int (zI (k))), (0, .ref (b 0))]) S dX4_merge_46 hl rfl (by decide) rfl (fun ls hl => ?_)
          refine z_aload_n S dX4_merge_47 hl 3 rfl rfl ?_
          refine z_get S hG hP.1 zc_X4 5 (by decide) q4_231 rfl rfl dX4_merge_48 ?_
          refine z_iload_n S dX4_merge_51 hl 2 rfl rfl ?_
          refine z_iload_n S dX4_merge_52 hl 1 rfl rfl ?_
          refine z_iastB S hG (show va_at G.1 vwCl (b 2, .inl (G.2 0, 32, .inl (zB (mrg (smM σ) σ.Dt k)))) Hk9 from hP.2.2.1) hS (⟨2, mL_s (by decide), rfl⟩) (i := k) (x := smM σ (σ.Dt k)) (by omega) (by decide) dX4_merge_53 (fun H_2 L_2 hat hz oq hS => ?_)
          rw [mrg_s (smM σ) σ.Dt hk.1] at hat
          have hP : hMod G (σ.wD (mrg (smM σ) σ.Dt (k + 1))) b (zI 0) m1 m2 H_2 := hMod_D hP hd _ hat oq
          refine z_iinc (lv' := [(2, .int (zI (k + 1))), (1, .int (zI ((ch) + (1)))), (3, .int (zI (smM σ (σ.Dt k)))), (0, .ref (b 0))]) S dX4_merge_54 hl 2 rfl (by decide) rfl (fun ls hl => ?_)
          refine z_goto S 9 dX4_merge_57 (by decide) ?_
          exact ih_9 (k + 1) ((ch) + (1)) (H_2) (L_2) (hS) (hP) (by omega) (by rw [mrgN_t hk.1 c_37, ← hch]) (by omega) ls (lv_sub hl [0, 1, 3] rfl)
        · skip
          refine z_iconst S dX4_merge_40 ?_
          refine z_goto S 45 dX4_merge_41 (by decide) ?_
          refine z_iadd S dX4_merge_45 ?_
          refine z_istore_n (lv' := [(1, .int (zI ((ch) + (0)))), (3, .int (zI (smM σ (σ.Dt k)))), (2, .int (zI (k))), (0, .ref (b 0))]) S dX4_merge_46 hl rfl (by decide) rfl (fun ls hl => ?_)
          refine z_aload_n S dX4_merge_47 hl 3 rfl rfl ?_
          refine z_get S hG hP.1 zc_X4 5 (by decide) q4_231 rfl rfl dX4_merge_48 ?_
          refine z_iload_n S dX4_merge_51 hl 2 rfl rfl ?_
          refine z_iload_n S dX4_merge_52 hl 1 rfl rfl ?_
          refine z_iastB S hG (show va_at G.1 vwCl (b 2, .inl (G.2 0, 32, .inl (zB (mrg (smM σ) σ.Dt k)))) Hk9 from hP.2.2.1) hS (⟨2, mL_s (by decide), rfl⟩) (i := k) (x := smM σ (σ.Dt k)) (by omega) (by decide) dX4_merge_53 (fun H_3 L_3 hat hz oq hS => ?_)
          rw [mrg_s (smM σ) σ.Dt hk.1] at hat
          have hP : hMod G (σ.wD (mrg (smM σ) σ.Dt (k + 1))) b (zI 0) m1 m2 H_3 := hMod_D hP hd _ hat oq
          refine z_iinc (lv' := [(2, .int (zI (k + 1))), (1, .int (zI ((ch) + (0)))), (3, .int (zI (smM σ (σ.Dt k)))), (0, .ref (b 0))]) S dX4_merge_54 hl 2 rfl (by decide) rfl (fun ls hl => ?_)
          refine z_goto S 9 dX4_merge_57 (by decide) ?_
          exact ih_9 (k + 1) ((ch) + (0)) (H_3) (L_3) (hS) (hP) (by omega) (by rw [mrgN_f hk.1 (by simpa using c_37), ← hch]; omega) (by omega) ls (lv_sub hl [0, 1, 3] rfl)
  exact loop_9 _ (0) (0) (H_1) (L_1) (hS) (by rw [mrg_0]; exact hP) (by omega) (rfl) (Nat.lt_succ_self _) ls (lv_sub hl [0, 1, 2] rfl)
theorem dX4_turn_0 : decode cX4_turn 0 = .ok (.aload_n 0, 1) := by decide +kernel
theorem dX4_turn_1 : decode cX4_turn 1 = .ok (.aload_n 0, 1) := by decide +kernel
theorem dX4_turn_2 : decode cX4_turn 2 = .ok (.iload_n 1, 1) := by decide +kernel
theorem dX4_turn_3 : decode cX4_turn 3 = .ok (.invokevirtual 134, 3) := by decide +kernel
theorem dX4_turn_6 : decode cX4_turn 6 = .ok (.iconst 1, 1) := by decide +kernel
theorem dX4_turn_7 : decode cX4_turn 7 = .ok (.invokevirtual 121, 3) := by decide +kernel
theorem dX4_turn_10 : decode cX4_turn 10 = .ok (.ifCond .ne 35, 3) := by decide +kernel
theorem dX4_turn_13 : decode cX4_turn 13 = .ok (.aload_n 0, 1) := by decide +kernel
theorem dX4_turn_14 : decode cX4_turn 14 = .ok (.iload_n 2, 1) := by decide +kernel
theorem dX4_turn_15 : decode cX4_turn 15 = .ok (.iconst 1, 1) := by decide +kernel
theorem dX4_turn_16 : decode cX4_turn 16 = .ok (.bipush 9, 2) := by decide +kernel
theorem dX4_turn_18 : decode cX4_turn 18 = .ok (.invokestatic 37, 3) := by decide +kernel
theorem dX4_turn_21 : decode cX4_turn 21 = .ok (.ifCond .eq 12, 3) := by decide +kernel
theorem dX4_turn_24 : decode cX4_turn 24 = .ok (.iload_n 3, 1) := by decide +kernel
theorem dX4_turn_25 : decode cX4_turn 25 = .ok (.iconst 0, 1) := by decide +kernel
theorem dX4_turn_26 : decode cX4_turn 26 = .ok (.iconst 2, 1) := by decide +kernel
theorem dX4_turn_27 : decode cX4_turn 27 = .ok (.invokestatic 37, 3) := by decide +kernel
theorem dX4_turn_30 : decode cX4_turn 30 = .ok (.ifCond .ne 7, 3) := by decide +kernel
theorem dX4_turn_33 : decode cX4_turn 33 = .ok (.iconst 1, 1) := by decide +kernel
theorem dX4_turn_34 : decode cX4_turn 34 = .ok (.goto 4, 3) := by decide +kernel
theorem dX4_turn_37 : decode cX4_turn 37 = .ok (.iconst 0, 1) := by decide +kernel
theorem dX4_turn_38 : decode cX4_turn 38 = .ok (.iconst 2, 1) := by decide +kernel
theorem dX4_turn_39 : decode cX4_turn 39 = .ok (.invokevirtual 33, 3) := by decide +kernel
theorem dX4_turn_42 : decode cX4_turn 42 = .ok (.ifCond .eq 5, 3) := by decide +kernel
theorem dX4_turn_45 : decode cX4_turn 45 = .ok (.iconst 0, 1) := by decide +kernel
theorem dX4_turn_46 : decode cX4_turn 46 = .ok (.ireturn, 1) := by decide +kernel
theorem dX4_turn_47 : decode cX4_turn 47 = .ok (.aload_n 0, 1) := by decide +kernel
theorem dX4_turn_48 : decode cX4_turn 48 = .ok (.getfield 23, 3) := by decide +kernel
theorem dX4_turn_51 : decode cX4_turn 51 = .ok (.iload_n 1, 1) := by decide +kernel
theorem dX4_turn_52 : decode cX4_turn 52 = .ok (.invokevirtual 46, 3) := by decide +kernel
theorem dX4_turn_55 : decode cX4_turn 55 = .ok (.checkcast 50, 3) := by decide +kernel
theorem dX4_turn_58 : decode cX4_turn 58 = .ok (.iconst 2, 1) := by decide +kernel
theorem dX4_turn_59 : decode cX4_turn 59 = .ok (.iload_n 2, 1) := by decide +kernel
theorem dX4_turn_60 : decode cX4_turn 60 = .ok (.iastore, 1) := by decide +kernel
theorem dX4_turn_61 : decode cX4_turn 61 = .ok (.aload_n 0, 1) := by decide +kernel
theorem dX4_turn_62 : decode cX4_turn 62 = .ok (.getfield 23, 3) := by decide +kernel
theorem dX4_turn_65 : decode cX4_turn 65 = .ok (.iload_n 1, 1) := by decide +kernel
theorem dX4_turn_66 : decode cX4_turn 66 = .ok (.invokevirtual 46, 3) := by decide +kernel
theorem dX4_turn_69 : decode cX4_turn 69 = .ok (.checkcast 50, 3) := by decide +kernel
theorem dX4_turn_72 : decode cX4_turn 72 = .ok (.iconst 3, 1) := by decide +kernel
theorem dX4_turn_73 : decode cX4_turn 73 = .ok (.iload_n 3, 1) := by decide +kernel
theorem dX4_turn_74 : decode cX4_turn 74 = .ok (.iastore, 1) := by decide +kernel
theorem dX4_turn_75 : decode cX4_turn 75 = .ok (.aload_n 0, 1) := by decide +kernel
theorem dX4_turn_76 : decode cX4_turn 76 = .ok (.getfield 23, 3) := by decide +kernel
theorem dX4_turn_79 : decode cX4_turn 79 = .ok (.iload_n 1, 1) := by decide +kernel
theorem dX4_turn_80 : decode cX4_turn 80 = .ok (.invokevirtual 46, 3) := by decide +kernel
theorem dX4_turn_83 : decode cX4_turn 83 = .ok (.checkcast 50, 3) := by decide +kernel
theorem dX4_turn_86 : decode cX4_turn 86 = .ok (.aload_n 0, 1) := by decide +kernel
theorem dX4_turn_87 : decode cX4_turn 87 = .ok (.getfield 108, 3) := by decide +kernel
theorem dX4_turn_90 : decode cX4_turn 90 = .ok (.invokestatic 55, 3) := by decide +kernel
theorem dX4_turn_93 : decode cX4_turn 93 = .ok (.ireturn, 1) := by decide +kernel
theorem q5_113 : (Jvm.Cond.methodLink "CyclepaintModel" (134 : Nat) ({ cls := "CyclepaintModel", name := "isNoRange", desc := "(I)Z" } : Jvm.MethodName)) ∈ lw_g := zg_of (zin5 (List.mem_of_getElem? (i := 113) rfl)) rfl
theorem q5_112 : (Jvm.Cond.code ({ cls := "CyclepaintModel", name := "turn", desc := "(III)I" } : Jvm.MethodName) prog_6_method_31_code (4 : Nat) (Option.some Jvm.ClassFile.FieldType.int)) ∈ lw_g := zg_of (zin5 (List.mem_of_getElem? (i := 112) rfl)) rfl
theorem q5_110 : (Jvm.Cond.instanceMethod ({ cls := "CyclepaintModel", name := "turn", desc := "(III)I" } : Jvm.MethodName)) ∈ lw_g := zg_of (zin5 (List.mem_of_getElem? (i := 110) rfl)) rfl
theorem q5_111 : (Jvm.Cond.selects "CyclepaintModel" ({ cls := "CyclepaintModel", name := "turn", desc := "(III)I" } : Jvm.MethodName) ({ cls := "CyclepaintModel", name := "turn", desc := "(III)I" } : Jvm.MethodName)) ∈ lw_g := zg_of (zin5 (List.mem_of_getElem? (i := 111) rfl)) rfl
theorem ok_X4_turn : zOV yX4_turn cX4_turn 4 ((Option.some Jvm.ClassFile.FieldType.int)) 3 := ⟨⟨q5_112, q1_3, by decide, by decide, by decide +kernel⟩, q5_110, q5_111⟩
set_option maxHeartbeats 4000000 in
set_option maxRecDepth 100000 in
theorem c_X4_turn (l : Launch) (G : zG) (σ : St) (b : Nat → Nat) (th m1 m2 : Int32) (hd : inj b (mL σ)) (hO : okR σ) (j sp kd : Int) (hj : rg j) (hsp : rg sp) (hkd : rg kd) (hT : 0 ≤ σ.tk ∧ σ.tk ≤ 99999) (t : Int) (ht : t = ec (!(decide (0 ≤ j) && decide (j ≤ σ.rn - 1))) (!((decide (1 ≤ sp) && decide (sp ≤ 9)) && (decide (0 ≤ kd) && decide (kd ≤ 2))))) : Met l yX4_turn (wq yX4_turn cX4_turn 4 ((Option.some Jvm.ClassFile.FieldType.int))) (rmM 3 64 0 0) (va_Pc [.ref (b 0), .int (zI (j)), .int (zI (sp)), .int (zI (kd))] (zK G (hMod G σ b th m1 m2))) (zM (mA σ b) (some (.int ((if t = 0 then zI (shiftR kd (σ.L j) sp σ.tk) else zI 0)))) (fun H => hMod G (if t = 0 then (σ.wR σ.rn σ.F σ.L (up σ.S j sp) (up σ.K j kd)) else σ) b (zI t) m1 m2 H)) 0 0 (mA σ b) := by
  refine z_enterMI (by decide +kernel) (Nat.le_of_ble_eq_true rfl) ?_
  intro p env s m below meth cod Q S hG hP hS ret ls hl
  have hl : lv_has ls 4 [(0, .ref (b 0)), (1, .int (zI (j))), (2, .int (zI (sp))), (3, .int (zI (kd)))] := hl
  have hrn := hO.1
  refine z_aload_n S dX4_turn_0 hl 0 rfl rfl ?_
  refine z_aload_n S dX4_turn_1 hl 0 rfl rfl ?_
  refine z_iload_n S dX4_turn_2 hl 1 rfl rfl ?_
  refine z_callVs S hG (c_X4_isNoRange l G σ b th m1 m2 (j) (by omega)) ok_X4_isNoRange hP.1 zc_X4 rfl q5_113 (hP) ⟨rfl, rfl, by decide, by decide⟩ ⟨Nat.zero_le _, Nat.zero_le _⟩ rfl (Nat.le_of_ble_eq_true rfl) hl.1 rfl dX4_turn_3 ?_
  refine z_iconst S dX4_turn_6 ?_
  cases hb_7 : (!(decide (0 ≤ j) && decide (j ≤ σ.rn - 1)))
  · skip
    refine z_callM S hG hS (c_X4_start l G (σ) b th m1 m2 false (1) (by omega) hd (by exact hrn)) (fun _ h => h) ok_X4_start hP.1 zc_X4 rfl q5_21 (hP) ⟨rfl, rfl, by decide, by decide⟩ ⟨Nat.le_of_ble_eq_true rfl, Nat.le_of_ble_eq_true rfl⟩ rfl (Nat.le_of_ble_eq_true rfl) hl.1 rfl dX4_turn_7 (fun H_1 L_1 hB hz oq hS => ?_)
    have hP : hMod G (σ) b (zI 0) m1 m2 H_1 := hB
    refine z_bif_ne S 45 dX4_turn_10 (by decide) (fun qz => ?_) (fun qz => ?_)
    · exact absurd qz (by decide)
    refine z_aload_n S dX4_turn_13 hl 0 rfl rfl ?_
    refine z_iload_n S dX4_turn_14 hl 2 rfl rfl ?_
    refine z_iconst S dX4_turn_15 ?_
    refine z_bipush S dX4_turn_16 rfl ?_
    refine z_callSs S hG (c_X4_isIn l G (sp) (1) (9) (by omega)) ok_X4_isIn q5_18 (trivial) ⟨rfl, rfl, by decide, by decide⟩ ⟨Nat.zero_le _, Nat.zero_le _⟩ rfl (Nat.le_of_ble_eq_true rfl) hl.1 rfl dX4_turn_18 ?_
    refine z_bif_eq S 33 dX4_turn_21 (by decide) (fun c_21 => ?_) (fun c_21 => ?_)
    · skip
      refine z_iconst S dX4_turn_33 ?_
      refine z_goto S 38 dX4_turn_34 (by decide) ?_
      refine z_iconst S dX4_turn_38 ?_
      refine z_callM S hG hS (c_X4_refuse l G (σ) b m1 m2 true (2) (by omega) hd (by exact hrn)) (fun _ h => h) ok_X4_refuse hP.1 zc_X4 rfl q5_25 (hP) ⟨rfl, rfl, by decide, by decide⟩ ⟨Nat.le_of_ble_eq_true rfl, Nat.le_of_ble_eq_true rfl⟩ rfl (Nat.le_of_ble_eq_true rfl) hl.1 rfl dX4_turn_39 (fun H_2 L_2 hB hz oq hS => ?_)
      have hP : hMod G (σ) b (zI 2) m1 m2 H_2 := hB
      refine z_bif_eq S 47 dX4_turn_42 (by decide) (fun qz => ?_) (fun qz => ?_)
      · exact absurd qz (by decide)
      refine z_iconst S dX4_turn_45 ?_
      exact ret _ _ _ _ _ _ _ dX4_turn_46 (by rw [ht, ec_2 hb_7 (by rw [c_21] <;> rfl)] <;> rfl) hS (by rw [ht, ec_2 hb_7 (by rw [c_21] <;> rfl)]; exact hP) (Nat.le_of_ble_eq_true rfl) (Nat.le_of_ble_eq_true rfl)
    · skip
      refine z_iload_n S dX4_turn_24 hl 3 rfl rfl ?_
      refine z_iconst S dX4_turn_25 ?_
      refine z_iconst S dX4_turn_26 ?_
      refine z_callSs S hG (c_X4_isIn l G (kd) (0) (2) (by omega)) ok_X4_isIn q5_18 (trivial) ⟨rfl, rfl, by decide, by decide⟩ ⟨Nat.zero_le _, Nat.zero_le _⟩ rfl (Nat.le_of_ble_eq_true rfl) hl.1 rfl dX4_turn_27 ?_
      refine z_bif_ne S 37 dX4_turn_30 (by decide) (fun c_30 => ?_) (fun c_30 => ?_)
      · skip
        refine z_iconst S dX4_turn_37 ?_
        refine z_iconst S dX4_turn_38 ?_
        refine z_callM S hG hS (c_X4_refuse l G (σ) b m1 m2 false (2) (by omega) hd (by exact hrn)) (fun _ h => h) ok_X4_refuse hP.1 zc_X4 rfl q5_25 (hP) ⟨rfl, rfl, by decide, by decide⟩ ⟨Nat.le_of_ble_eq_true rfl, Nat.le_of_ble_eq_true rfl⟩ rfl (Nat.le_of_ble_eq_true rfl) hl.1 rfl dX4_turn_39 (fun H_3 L_3 hB hz oq hS => ?_)
        have hP : hMod G (σ) b (zI 0) m1 m2 H_3 := hB
        refine z_bif_eq S 47 dX4_turn_42 (by decide) (fun qz => ?_) (fun qz => ?_)
        rotate_left
        · exact absurd qz (by decide)
        have hj := no_F hb_7
        have hsp := in_T c_21
        have hkd := in_T c_30
        have hok := hO.2 j hj.1 (by omega)
        have hr4 := hP.2.2.2.2.2.2.2.1 j hj.1 (by exact (show j < σ.rn by omega))
        refine z_aload_n S dX4_turn_47 hl 0 rfl rfl ?_
        refine z_get S hG hP.1 zc_X4 6 (by decide) q4_232 rfl rfl dX4_turn_48 ?_
        refine z_iload_n S dX4_turn_51 hl 1 rfl rfl ?_
        refine z_callVs S hG (c_alGet l G (b 3) (b 5) m1 σ.rn (elR σ b) j (b (8 + Int.toNat j)) (if_pos (by omega)) (by omega) (by omega)) ok_Jx4a65c_get_915e3 hP.2.2.2.1 zc_Jx4a65c rfl q5_52 (⟨hP.2.2.2.1, hP.2.2.2.2.2.1 (show 0 < σ.rn by omega)⟩) ⟨rfl, rfl, by decide, by decide⟩ ⟨Nat.zero_le _, Nat.zero_le _⟩ rfl (Nat.le_of_ble_eq_true rfl) hl.1 rfl dX4_turn_52 ?_
        refine z_castI S hG hr4 q5_64 dX4_turn_55 ?_
        refine z_iconst S dX4_turn_58 ?_
        refine z_iload_n S dX4_turn_59 hl 2 rfl rfl ?_
        refine z_iastB S hG hr4 hS (⟨_, mL_r hj.1 (by omega), rfl⟩) (i := 2) (x := sp) (by omega) (by decide) dX4_turn_60 (fun H_4 L_4 hat hz oq hS => ?_)
        rw [r4_2] at hat
        have hr4 : hR4 G (b (8 + Int.toNat j)) (σ.F j) (σ.L j) (sp) (σ.K j) H_4 := hat
        have hP : hMod G (σ.wR σ.rn σ.F σ.L (up σ.S j sp) (σ.K)) b (zI 0) m1 m2 H_4 := hMod_SK hP hd hj.1 (by exact (show j < σ.rn by omega)) (up σ.S j sp) (σ.K) (fun i h => up_n h) (fun i h => rfl) (by show hR4 G _ (σ.F j) (σ.L j) (up σ.S j sp j) (σ.K j) _; rw [up_s]; exact hr4) oq (by have q := okR_SK (j := j) hO hsp hok.2.2; rw [up_id] at q; exact q)
        refine z_aload_n S dX4_turn_61 hl 0 rfl rfl ?_
        refine z_get S hG hP.1 zc_X4 6 (by decide) q4_232 rfl rfl dX4_turn_62 ?_
        refine z_iload_n S dX4_turn_65 hl 1 rfl rfl ?_
        refine z_callVs S hG (c_alGet l G (b 3) (b 5) m1 σ.rn (elR σ b) j (b (8 + Int.toNat j)) (if_pos (by omega)) (by omega) (by omega)) ok_Jx4a65c_get_915e3 hP.2.2.2.1 zc_Jx4a65c rfl q5_52 (⟨hP.2.2.2.1, hP.2.2.2.2.2.1 (show 0 < σ.rn by omega)⟩) ⟨rfl, rfl, by decide, by decide⟩ ⟨Nat.zero_le _, Nat.zero_le _⟩ rfl (Nat.le_of_ble_eq_true rfl) hl.1 rfl dX4_turn_66 ?_
        refine z_castI S hG hr4 q5_64 dX4_turn_69 ?_
        refine z_iconst S dX4_turn_72 ?_
        refine z_iload_n S dX4_turn_73 hl 3 rfl rfl ?_
        refine z_iastB S hG hr4 hS (⟨_, mL_r hj.1 (by omega), rfl⟩) (i := 3) (x := kd) (by omega) (by decide) dX4_turn_74 (fun H_5 L_5 hat hz oq hS => ?_)
        have hat := va_cgB (r4_3 _ _ _ _ _) hat
        have hr4 : hR4 G (b (8 + Int.toNat j)) (σ.F j) (σ.L j) (sp) (kd) H_5 := hat
        have hP : hMod G (σ.wR σ.rn σ.F σ.L (up σ.S j sp) (up σ.K j kd)) b (zI 0) m1 m2 H_5 := hMod_SK hP hd hj.1 (by exact (show j < σ.rn by omega)) (up σ.S j sp) (up σ.K j kd) (fun i h => rfl) (fun i h => up_n h) (by show hR4 G _ (σ.F j) (σ.L j) (up σ.S j sp j) (up σ.K j kd j) _; rw [up_s, up_s]; exact hr4) oq (okR_SK hO hsp hkd)
        refine z_aload_n S dX4_turn_75 hl 0 rfl rfl ?_
        refine z_get S hG hP.1 zc_X4 6 (by decide) q4_232 rfl rfl dX4_turn_76 ?_
        refine z_iload_n S dX4_turn_79 hl 1 rfl rfl ?_
        refine z_callVs S hG (c_alGet l G (b 3) (b 5) m1 σ.rn (elR σ b) j (b (8 + Int.toNat j)) (if_pos (by omega)) (by omega) (by omega)) ok_Jx4a65c_get_915e3 hP.2.2.2.1 zc_Jx4a65c rfl q5_52 (⟨hP.2.2.2.1, hP.2.2.2.2.2.1 (show 0 < σ.rn by omega)⟩) ⟨rfl, rfl, by decide, by decide⟩ ⟨Nat.zero_le _, Nat.zero_le _⟩ rfl (Nat.le_of_ble_eq_true rfl) hl.1 rfl dX4_turn_80 ?_
        refine z_castI S hG hr4 q5_64 dX4_turn_83 ?_
        refine z_aload_n S dX4_turn_86 hl 0 rfl rfl ?_
        refine z_get S hG hP.1 zc_X4 1 (by decide) q4_227 rfl rfl dX4_turn_87 ?_
        refine z_callSs S hG (c_X4_shift l G (b (8 + Int.toNat j)) (σ.F j) (σ.L j) (sp) (kd) (σ.tk) (by omega) (by omega)) ok_X4_shift q5_117 (hr4) ⟨rfl, rfl, by decide, by decide⟩ ⟨Nat.zero_le _, Nat.zero_le _⟩ rfl (Nat.le_of_ble_eq_true rfl) hl.1 rfl dX4_turn_90 ?_
        exact ret _ _ _ _ _ _ _ dX4_turn_93 (by rw [ht, ec_0 hb_7 (by rw [c_21, c_30] <;> rfl)]; exact rfl) hS (by rw [ht, ec_0 hb_7 (by rw [c_21, c_30] <;> rfl)]; exact hP) (Nat.le_of_ble_eq_true rfl) (Nat.le_of_ble_eq_true rfl)
      · skip
        refine z_iconst S dX4_turn_33 ?_
        refine z_goto S 38 dX4_turn_34 (by decide) ?_
        refine z_iconst S dX4_turn_38 ?_
        refine z_callM S hG hS (c_X4_refuse l G (σ) b m1 m2 true (2) (by omega) hd (by exact hrn)) (fun _ h => h) ok_X4_refuse hP.1 zc_X4 rfl q5_25 (hP) ⟨rfl, rfl, by decide, by decide⟩ ⟨Nat.le_of_ble_eq_true rfl, Nat.le_of_ble_eq_true rfl⟩ rfl (Nat.le_of_ble_eq_true rfl) hl.1 rfl dX4_turn_39 (fun H_6 L_6 hB hz oq hS => ?_)
        have hP : hMod G (σ) b (zI 2) m1 m2 H_6 := hB
        refine z_bif_eq S 47 dX4_turn_42 (by decide) (fun qz => ?_) (fun qz => ?_)
        · exact absurd qz (by decide)
        refine z_iconst S dX4_turn_45 ?_
        exact ret _ _ _ _ _ _ _ dX4_turn_46 (by rw [ht, ec_2 hb_7 (by rw [c_21, c_30] <;> rfl)] <;> rfl) hS (by rw [ht, ec_2 hb_7 (by rw [c_21, c_30] <;> rfl)]; exact hP) (Nat.le_of_ble_eq_true rfl) (Nat.le_of_ble_eq_true rfl)
  · skip
    refine z_callM S hG hS (c_X4_start l G (σ) b th m1 m2 true (1) (by omega) hd (by exact hrn)) (fun _ h => h) ok_X4_start hP.1 zc_X4 rfl q5_21 (hP) ⟨rfl, rfl, by decide, by decide⟩ ⟨Nat.le_of_ble_eq_true rfl, Nat.le_of_ble_eq_true rfl⟩ rfl (Nat.le_of_ble_eq_true rfl) hl.1 rfl dX4_turn_7 (fun H_7 L_7 hB hz oq hS => ?_)
    have hP : hMod G (σ) b (zI 1) m1 m2 H_7 := hB
    refine z_bif_ne S 45 dX4_turn_10 (by decide) (fun qz => ?_) (fun qz => ?_)
    rotate_left
    · exact absurd qz (by decide)
    refine z_iconst S dX4_turn_45 ?_
    exact ret _ _ _ _ _ _ _ dX4_turn_46 (by rw [ht, ec_1 hb_7] <;> rfl) hS (by rw [ht, ec_1 hb_7]; exact hP) (Nat.le_of_ble_eq_true rfl) (Nat.le_of_ble_eq_true rfl)
