theorem zty_Jx4a65c : ∀ k, k < 3 → parseFieldDescriptor (TJx4a65c k).2.2.1 = some ((parseFieldDescriptor (TJx4a65c k).2.2.1).getD .int) := zty_of (by decide +kernel)
theorem znm_Jx4a65c : ∀ a, a < 3 → ∀ b, b < 3 → a ≠ b → (TJx4a65c a).2.1 ≠ (TJx4a65c b).2.1 := by decide +kernel
theorem dJx4a65c_fastRemove_b59b0_0 : decode cJx4a65c_fastRemove_b59b0 0 = .ok (.aload_n 0, 1) := by decide +kernel
theorem dJx4a65c_fastRemove_b59b0_1 : decode cJx4a65c_fastRemove_b59b0 1 = .ok (.dup, 1) := by decide +kernel
theorem dJx4a65c_fastRemove_b59b0_2 : decode cJx4a65c_fastRemove_b59b0 2 = .ok (.getfield 63, 3) := by decide +kernel
theorem dJx4a65c_fastRemove_b59b0_5 : decode cJx4a65c_fastRemove_b59b0 5 = .ok (.iconst 1, 1) := by decide +kernel
theorem dJx4a65c_fastRemove_b59b0_6 : decode cJx4a65c_fastRemove_b59b0 6 = .ok (.iadd, 1) := by decide +kernel
theorem dJx4a65c_fastRemove_b59b0_7 : decode cJx4a65c_fastRemove_b59b0 7 = .ok (.putfield 63, 3) := by decide +kernel
theorem dJx4a65c_fastRemove_b59b0_10 : decode cJx4a65c_fastRemove_b59b0 10 = .ok (.aload_n 0, 1) := by decide +kernel
theorem dJx4a65c_fastRemove_b59b0_11 : decode cJx4a65c_fastRemove_b59b0 11 = .ok (.getfield 48, 3) := by decide +kernel
theorem dJx4a65c_fastRemove_b59b0_14 : decode cJx4a65c_fastRemove_b59b0 14 = .ok (.iconst 1, 1) := by decide +kernel
theorem dJx4a65c_fastRemove_b59b0_15 : decode cJx4a65c_fastRemove_b59b0 15 = .ok (.isub, 1) := by decide +kernel
theorem dJx4a65c_fastRemove_b59b0_16 : decode cJx4a65c_fastRemove_b59b0 16 = .ok (.dup, 1) := by decide +kernel
theorem dJx4a65c_fastRemove_b59b0_17 : decode cJx4a65c_fastRemove_b59b0 17 = .ok (.istore_n 3, 1) := by decide +kernel
theorem dJx4a65c_fastRemove_b59b0_18 : decode cJx4a65c_fastRemove_b59b0 18 = .ok (.iload_n 2, 1) := by decide +kernel
theorem dJx4a65c_fastRemove_b59b0_19 : decode cJx4a65c_fastRemove_b59b0 19 = .ok (.if_icmp .le 15, 3) := by decide +kernel
theorem dJx4a65c_fastRemove_b59b0_22 : decode cJx4a65c_fastRemove_b59b0 22 = .ok (.aload_n 1, 1) := by decide +kernel
theorem dJx4a65c_fastRemove_b59b0_23 : decode cJx4a65c_fastRemove_b59b0 23 = .ok (.iload_n 2, 1) := by decide +kernel
theorem dJx4a65c_fastRemove_b59b0_24 : decode cJx4a65c_fastRemove_b59b0 24 = .ok (.iconst 1, 1) := by decide +kernel
theorem dJx4a65c_fastRemove_b59b0_25 : decode cJx4a65c_fastRemove_b59b0 25 = .ok (.iadd, 1) := by decide +kernel
theorem dJx4a65c_fastRemove_b59b0_26 : decode cJx4a65c_fastRemove_b59b0 26 = .ok (.aload_n 1, 1) := by decide +kernel
theorem dJx4a65c_fastRemove_b59b0_27 : decode cJx4a65c_fastRemove_b59b0 27 = .ok (.iload_n 2, 1) := by decide +kernel
theorem dJx4a65c_fastRemove_b59b0_28 : decode cJx4a65c_fastRemove_b59b0 28 = .ok (.iload_n 3, 1) := by decide +kernel
theorem dJx4a65c_fastRemove_b59b0_29 : decode cJx4a65c_fastRemove_b59b0 29 = .ok (.iload_n 2, 1) := by decide +kernel
theorem dJx4a65c_fastRemove_b59b0_30 : decode cJx4a65c_fastRemove_b59b0 30 = .ok (.isub, 1) := by decide +kernel
theorem dJx4a65c_fastRemove_b59b0_31 : decode cJx4a65c_fastRemove_b59b0 31 = .ok (.invokestatic 112, 3) := by decide +kernel
theorem dJx4a65c_fastRemove_b59b0_34 : decode cJx4a65c_fastRemove_b59b0 34 = .ok (.aload_n 1, 1) := by decide +kernel
theorem dJx4a65c_fastRemove_b59b0_35 : decode cJx4a65c_fastRemove_b59b0 35 = .ok (.aload_n 0, 1) := by decide +kernel
theorem dJx4a65c_fastRemove_b59b0_36 : decode cJx4a65c_fastRemove_b59b0 36 = .ok (.iload_n 3, 1) := by decide +kernel
theorem dJx4a65c_fastRemove_b59b0_37 : decode cJx4a65c_fastRemove_b59b0 37 = .ok (.dup_x1, 1) := by decide +kernel
theorem dJx4a65c_fastRemove_b59b0_38 : decode cJx4a65c_fastRemove_b59b0 38 = .ok (.putfield 48, 3) := by decide +kernel
theorem dJx4a65c_fastRemove_b59b0_41 : decode cJx4a65c_fastRemove_b59b0 41 = .ok (.aconst_null, 1) := by decide +kernel
theorem dJx4a65c_fastRemove_b59b0_42 : decode cJx4a65c_fastRemove_b59b0 42 = .ok (.aastore, 1) := by decide +kernel
theorem dJx4a65c_fastRemove_b59b0_43 : decode cJx4a65c_fastRemove_b59b0 43 = .ok (.return_, 1) := by decide +kernel
theorem q4_218 : (Jvm.Cond.fieldLink "java/util/ArrayList" (63 : Nat) "java/util/ArrayList" "modCount" "I") ∈ lw_g := zg_of (zin4 (List.mem_of_getElem? (i := 218) rfl)) rfl
theorem q4_217 : (Jvm.Cond.sameField "java/util/ArrayList" "java/util/AbstractList" "modCount" "I") ∈ lw_g := zg_of (zin4 (List.mem_of_getElem? (i := 217) rfl)) rfl
theorem qt6_168 : (Jvm.Cond.castable "[I" "java/lang/Object") ∈ lw_tbl := zin6 (List.mem_of_getElem? (i := 168) rfl)
theorem q5_132 : (Jvm.Cond.methodLink "java/util/ArrayList" (112 : Nat) ({ cls := "java/lang/System", name := "arraycopy", desc := "(Ljava/lang/Object;ILjava/lang/Object;II)V" } : Jvm.MethodName)) ∈ lw_g := zg_of (zin5 (List.mem_of_getElem? (i := 132) rfl)) rfl
theorem q3_201 : (Jvm.Cond.native ({ cls := "java/lang/System", name := "arraycopy", desc := "(Ljava/lang/Object;ILjava/lang/Object;II)V" } : Jvm.MethodName)) ∈ lw_g := zg_of (zin3 (List.mem_of_getElem? (i := 201) rfl)) rfl
theorem q3_200 : (Jvm.Cond.static ({ cls := "java/lang/System", name := "arraycopy", desc := "(Ljava/lang/Object;ILjava/lang/Object;II)V" } : Jvm.MethodName)) ∈ lw_g := zg_of (zin3 (List.mem_of_getElem? (i := 200) rfl)) rfl
theorem q1_20 : (Jvm.Cond.initialized "java/lang/System") ∈ lw_g := zg_of (zin1 (List.mem_of_getElem? (i := 20) rfl)) rfl
theorem q5_131 : (Jvm.Cond.code ({ cls := "java/util/ArrayList", name := "fastRemove", desc := "([Ljava/lang/Object;I)V" } : Jvm.MethodName) prog_33_method_39_code (4 : Nat) (Option.none : Option Jvm.ClassFile.FieldType)) ∈ lw_g := zg_of (zin5 (List.mem_of_getElem? (i := 131) rfl)) rfl
theorem q5_130 : (Jvm.Cond.instanceMethod ({ cls := "java/util/ArrayList", name := "fastRemove", desc := "([Ljava/lang/Object;I)V" } : Jvm.MethodName)) ∈ lw_g := zg_of (zin5 (List.mem_of_getElem? (i := 130) rfl)) rfl
theorem qs_28 : Cond.selects "java/util/ArrayList" (⟨"java/util/ArrayList", "fastRemove", "([Ljava/lang/Object;I)V"⟩ : MethodName) (⟨"java/util/ArrayList", "fastRemove", "([Ljava/lang/Object;I)V"⟩ : MethodName) ∈ lw_g := zg_of (zinS (List.mem_of_getElem? (i := 28) rfl)) rfl
theorem ok_Jx4a65c_fastRemove_b59b0 : zOV yJx4a65c_fastRemove_b59b0 cJx4a65c_fastRemove_b59b0 4 ((Option.none : Option Jvm.ClassFile.FieldType)) 2 := ⟨⟨q5_131, q1_6, by decide, by decide, by decide +kernel⟩, q5_130, qs_28⟩
set_option maxHeartbeats 4000000 in
set_option maxRecDepth 100000 in
theorem c_alFast (l : Launch) (G : zG) (q ed : Nat) (mc : Int32) (n : Int) (els : Int → Option Nat) (i : Int) (hi : 0 ≤ i ∧ i < n) (hn : n ≤ 10) (hqe : q ≠ ed) : Met l yJx4a65c_fastRemove_b59b0 (wq yJx4a65c_fastRemove_b59b0 cJx4a65c_fastRemove_b59b0 4 ((Option.none : Option Jvm.ClassFile.FieldType))) (rmM 1 60 0 0) (va_Pc [.ref (q), .ref (ed), .int (zI (i))] (zK G (fun H => hAL G q ed mc n H ∧ hEd G ed els H ∧ hEl G els n q ed H))) (zM (fun x => x = q ∨ x = ed) none (fun H => hAL G q ed (mc + zI 1) (n - 1) H ∧ hEd G ed (delO els i n) H)) 0 0 (fun x => x = q ∨ x = ed) := by
  refine z_enterMV (by decide +kernel) (Nat.le_of_ble_eq_true rfl) ?_
  intro p env s m below meth cod Q S hnm hG hP hS ret ls hl
  have hl : lv_has ls 4 [(0, .ref (q)), (1, .ref (ed)), (2, .int (zI (i)))] := hl
  obtain ⟨hQ, hE, hL⟩ := hP
  refine z_aload_n S dJx4a65c_fastRemove_b59b0_0 hl 0 rfl rfl ?_
  refine z_dup S dJx4a65c_fastRemove_b59b0_1 rfl ?_
  refine z_getI S hG hQ zc_Jx4a65c 0 (by decide) q4_218 q4_217 rfl dJx4a65c_fastRemove_b59b0_2 ?_
  refine z_iconst S dJx4a65c_fastRemove_b59b0_5 ?_
  refine lv_iadd S.1 S.2.1 dJx4a65c_fastRemove_b59b0_6 ?_
  refine z_putI S hG hQ zc_Jx4a65c _ (zty_Jx4a65c) (znm_Jx4a65c) hS (Or.inl rfl) 0 (by decide) q4_218 q4_217 rfl rfl rfl rfl (Nat.le_of_ble_eq_true rfl) dJx4a65c_fastRemove_b59b0_7 (fun H_1 L_1 hat hz oq hS => ?_)
  have hQ : hAL G q ed (((mc) + (zI (1)))) (n) H_1 := hat
  have hE : hEd G ed (els) H_1 := va_at.kept hE (oq _ (fun z => hqe z.symm))
  have hL := hL.kept (fun y _ h => oq y (fun z => h (Or.inl z)))
  refine z_aload_n S dJx4a65c_fastRemove_b59b0_10 hl 0 rfl rfl ?_
  refine z_get S hG hQ zc_Jx4a65c 2 (by decide) q4_214 rfl rfl dJx4a65c_fastRemove_b59b0_11 ?_
  refine z_iconst S dJx4a65c_fastRemove_b59b0_14 ?_
  refine z_isub S dJx4a65c_fastRemove_b59b0_15 ?_
  refine z_dup S dJx4a65c_fastRemove_b59b0_16 rfl ?_
  refine z_istore_n (lv' := [(3, .int (zI ((n) - (1)))), (0, .ref (q)), (1, .ref (ed)), (2, .int (zI (i)))]) S dJx4a65c_fastRemove_b59b0_17 hl rfl (by decide) rfl (fun ls hl => ?_)
  refine z_iload_n S dJx4a65c_fastRemove_b59b0_18 hl 3 rfl rfl ?_
  refine z_icmp_le S 34 dJx4a65c_fastRemove_b59b0_19 (by decide) (by omega) (by omega) (fun c_19 => ?_) (fun c_19 => ?_)
  · skip
    refine z_aload_n S dJx4a65c_fastRemove_b59b0_34 hl 2 rfl rfl ?_
    refine z_aload_n S dJx4a65c_fastRemove_b59b0_35 hl 1 rfl rfl ?_
    refine z_iload_n S dJx4a65c_fastRemove_b59b0_36 hl 0 rfl rfl ?_
    refine lv_dup_x1 S.1 S.2.1 dJx4a65c_fastRemove_b59b0_37 rfl rfl ?_
    refine z_put S hG hQ zc_Jx4a65c _ (zty_Jx4a65c) (znm_Jx4a65c) hS (Or.inl rfl) 2 (by decide) q4_214 rfl rfl rfl rfl rfl (Nat.le_of_ble_eq_true rfl) dJx4a65c_fastRemove_b59b0_38 (fun H_2 L_2 hat hz oq hS => ?_)
    have hQ : hAL G q ed (((mc) + (zI (1)))) ((n) - (1)) H_2 := hat
    have hE : hEd G ed (els) H_2 := va_at.kept hE (oq _ (fun z => hqe z.symm))
    have hL := hL.kept (fun y _ h => oq y (fun z => h (Or.inl z)))
    refine lv_null S.1 S.2.1 dJx4a65c_fastRemove_b59b0_41 ?_
    refine z_aastN S hG hE hQ (fun z => hqe z.symm) hS (Or.inr rfl) (Or.inl rfl) (i := (n) - (1)) (by omega) (by decide) dJx4a65c_fastRemove_b59b0_42 (fun H_3 L_3 hE hQ hz oq hS => ?_)
    rw [delO_2 els (i := i) (n := n) (by omega)] at hE
    exact ret _ _ _ _ _ _ dJx4a65c_fastRemove_b59b0_43 hS (⟨hQ, hE⟩) (Nat.le_of_ble_eq_true rfl) (Nat.le_of_ble_eq_true rfl)
  · skip
    refine z_aload_n S dJx4a65c_fastRemove_b59b0_22 hl 2 rfl rfl ?_
    refine z_iload_n S dJx4a65c_fastRemove_b59b0_23 hl 3 rfl rfl ?_
    refine z_iconst S dJx4a65c_fastRemove_b59b0_24 ?_
    refine z_iadd S dJx4a65c_fastRemove_b59b0_25 ?_
    refine z_aload_n S dJx4a65c_fastRemove_b59b0_26 hl 2 rfl rfl ?_
    refine z_iload_n S dJx4a65c_fastRemove_b59b0_27 hl 3 rfl rfl ?_
    refine z_iload_n S dJx4a65c_fastRemove_b59b0_28 hl 0 rfl rfl ?_
    refine z_iload_n S dJx4a65c_fastRemove_b59b0_29 hl 3 rfl rfl ?_
    refine z_isub S dJx4a65c_fastRemove_b59b0_30 ?_
    refine z_copyO S hG hE hQ (fun z => hqe z.symm) hS (Or.inr rfl) (Or.inl rfl) (sp := (i) + (1)) (dp := i) (n := ((n) - (1)) - (i)) (by omega) (by decide) (fun t t0 t1 y hy => ?_) qt6_168 q5_132 ⟨q3_201, q3_200, q1_20⟩ hl.1 (Nat.le_of_ble_eq_true rfl) (by decide) dJx4a65c_fastRemove_b59b0_31 (fun H_4 L_4 hE hQ hz oq hS => ?_)
    · obtain ⟨h1, k, f, h2⟩ := hL ((i) + (1) + t) (by omega) (by omega) y hy
      exact ⟨_, h2, rfl, rfl⟩
    have hL := hL.kept oq
    refine z_aload_n S dJx4a65c_fastRemove_b59b0_34 hl 2 rfl rfl ?_
    refine z_aload_n S dJx4a65c_fastRemove_b59b0_35 hl 1 rfl rfl ?_
    refine z_iload_n S dJx4a65c_fastRemove_b59b0_36 hl 0 rfl rfl ?_
    refine lv_dup_x1 S.1 S.2.1 dJx4a65c_fastRemove_b59b0_37 rfl rfl ?_
    refine z_put S hG hQ zc_Jx4a65c _ (zty_Jx4a65c) (znm_Jx4a65c) hS (Or.inl rfl) 2 (by decide) q4_214 rfl rfl rfl rfl rfl (Nat.le_of_ble_eq_true rfl) dJx4a65c_fastRemove_b59b0_38 (fun H_5 L_5 hat hz oq hS => ?_)
    have hQ : hAL G q ed (((mc) + (zI (1)))) ((n) - (1)) H_5 := hat
    have hE : hEd G ed (cpy els ((i) + (1)) (i) (((n) - (1)) - (i))) H_5 := va_at.kept hE (oq _ (fun z => hqe z.symm))
    have hL := hL.kept (fun y _ h => oq y (fun z => h (Or.inl z)))
    refine lv_null S.1 S.2.1 dJx4a65c_fastRemove_b59b0_41 ?_
    refine z_aastN S hG hE hQ (fun z => hqe z.symm) hS (Or.inr rfl) (Or.inl rfl) (i := (n) - (1)) (by omega) (by decide) dJx4a65c_fastRemove_b59b0_42 (fun H_6 L_6 hE hQ hz oq hS => ?_)
    rw [delO_1 els (i := i) (n := n) (by omega)] at hE
    exact ret _ _ _ _ _ _ dJx4a65c_fastRemove_b59b0_43 hS (⟨hQ, hE⟩) (Nat.le_of_ble_eq_true rfl) (Nat.le_of_ble_eq_true rfl)
theorem hEl_at {G : zG} {els : Int → Option Nat} {n : Int} {q ed : Nat} {H : Heap} (h : hEl G els n q ed H) {j : Int} (j0 : 0 ≤ j) (j1 : j < n) {y : Nat} (hy : els j = some y) : ∃ (k : Nat) (f : Nat → Int32), va_at G.1 vwCl (y, .inl (G.2 0, k, .inl f)) H := (h j j0 j1 y hy).2
theorem dJx4a65c_remove_915e3_0 : decode cJx4a65c_remove_915e3 0 = .ok (.iload_n 1, 1) := by decide +kernel
theorem dJx4a65c_remove_915e3_1 : decode cJx4a65c_remove_915e3 1 = .ok (.aload_n 0, 1) := by decide +kernel
theorem dJx4a65c_remove_915e3_2 : decode cJx4a65c_remove_915e3 2 = .ok (.getfield 48, 3) := by decide +kernel
theorem dJx4a65c_remove_915e3_5 : decode cJx4a65c_remove_915e3 5 = .ok (.invokestatic 118, 3) := by decide +kernel
theorem dJx4a65c_remove_915e3_8 : decode cJx4a65c_remove_915e3 8 = .ok (.pop, 1) := by decide +kernel
theorem dJx4a65c_remove_915e3_9 : decode cJx4a65c_remove_915e3 9 = .ok (.aload_n 0, 1) := by decide +kernel
theorem dJx4a65c_remove_915e3_10 : decode cJx4a65c_remove_915e3 10 = .ok (.getfield 9, 3) := by decide +kernel
theorem dJx4a65c_remove_915e3_13 : decode cJx4a65c_remove_915e3 13 = .ok (.astore_n 2, 1) := by decide +kernel
theorem dJx4a65c_remove_915e3_14 : decode cJx4a65c_remove_915e3 14 = .ok (.aload_n 2, 1) := by decide +kernel
theorem dJx4a65c_remove_915e3_15 : decode cJx4a65c_remove_915e3 15 = .ok (.iload_n 1, 1) := by decide +kernel
theorem dJx4a65c_remove_915e3_16 : decode cJx4a65c_remove_915e3 16 = .ok (.aaload, 1) := by decide +kernel
theorem dJx4a65c_remove_915e3_17 : decode cJx4a65c_remove_915e3 17 = .ok (.astore_n 3, 1) := by decide +kernel
theorem dJx4a65c_remove_915e3_18 : decode cJx4a65c_remove_915e3 18 = .ok (.aload_n 0, 1) := by decide +kernel
theorem dJx4a65c_remove_915e3_19 : decode cJx4a65c_remove_915e3 19 = .ok (.aload_n 2, 1) := by decide +kernel
theorem dJx4a65c_remove_915e3_20 : decode cJx4a65c_remove_915e3 20 = .ok (.iload_n 1, 1) := by decide +kernel
theorem dJx4a65c_remove_915e3_21 : decode cJx4a65c_remove_915e3 21 = .ok (.invokevirtual 144, 3) := by decide +kernel
theorem dJx4a65c_remove_915e3_24 : decode cJx4a65c_remove_915e3 24 = .ok (.aload_n 3, 1) := by decide +kernel
theorem dJx4a65c_remove_915e3_25 : decode cJx4a65c_remove_915e3 25 = .ok (.areturn, 1) := by decide +kernel
theorem q5_128 : (Jvm.Cond.methodLink "java/util/ArrayList" (144 : Nat) ({ cls := "java/util/ArrayList", name := "fastRemove", desc := "([Ljava/lang/Object;I)V" } : Jvm.MethodName)) ∈ lw_g := zg_of (zin5 (List.mem_of_getElem? (i := 128) rfl)) rfl
theorem q5_127 : (Jvm.Cond.code ({ cls := "java/util/ArrayList", name := "remove", desc := "(I)Ljava/lang/Object;" } : Jvm.MethodName) prog_33_method_29_code (4 : Nat) (Option.some (Jvm.ClassFile.FieldType.object "java/lang/Object"))) ∈ lw_g := zg_of (zin5 (List.mem_of_getElem? (i := 127) rfl)) rfl
theorem q5_125 : (Jvm.Cond.instanceMethod ({ cls := "java/util/ArrayList", name := "remove", desc := "(I)Ljava/lang/Object;" } : Jvm.MethodName)) ∈ lw_g := zg_of (zin5 (List.mem_of_getElem? (i := 125) rfl)) rfl
theorem q5_126 : (Jvm.Cond.selects "java/util/ArrayList" ({ cls := "java/util/ArrayList", name := "remove", desc := "(I)Ljava/lang/Object;" } : Jvm.MethodName) ({ cls := "java/util/ArrayList", name := "remove", desc := "(I)Ljava/lang/Object;" } : Jvm.MethodName)) ∈ lw_g := zg_of (zin5 (List.mem_of_getElem? (i := 126) rfl)) rfl
theorem ok_Jx4a65c_remove_915e3 : zOV yJx4a65c_remove_915e3 cJx4a65c_remove_915e3 4 ((Option.some (Jvm.ClassFile.FieldType.object "java/lang/Object"))) 1 := ⟨⟨q5_127, q1_6, by decide, by decide, by decide +kernel⟩, q5_125, q5_126⟩
set_option maxHeartbeats 4000000 in
set_option maxRecDepth 100000 in
theorem c_alRemove (l : Launch) (G : zG) (q ed : Nat) (mc : Int32) (n : Int) (els : Int → Option Nat) (i : Int) (hi : 0 ≤ i ∧ i < n) (hn : n ≤ 10) (hqe : q ≠ ed) (x : Nat) (hx : els i = some x) : Met l yJx4a65c_remove_915e3 (wq yJx4a65c_remove_915e3 cJx4a65c_remove_915e3 4 ((Option.some (Jvm.ClassFile.FieldType.object "java/lang/Object")))) (rmM 2 83 0 0) (va_Pc [.ref (q), .int (zI (i))] (zK G (fun H => hAL G q ed mc n H ∧ hEd G ed els H ∧ hEl G els n q ed H))) (zM (fun x => x = q ∨ x = ed) (some (.ref (x))) (fun H => hAL G q ed (mc + zI 1) (n - 1) H ∧ hEd G ed (delO els i n) H)) 0 0 (fun x => x = q ∨ x = ed) := by
  refine z_enterMA (by decide +kernel) (Nat.le_of_ble_eq_true rfl) ?_
  intro p env s m below meth cod Q S hG hP hS ret ls hl
  have hl : lv_has ls 4 [(0, .ref (q)), (1, .int (zI (i)))] := hl
  refine z_iload_n S dJx4a65c_remove_915e3_0 hl 1 rfl rfl ?_
  refine z_aload_n S dJx4a65c_remove_915e3_1 hl 0 rfl rfl ?_
  refine z_get S hG hP.1 zc_Jx4a65c 2 (by decide) q4_214 rfl rfl dJx4a65c_remove_915e3_2 ?_
  refine z_callSs S hG (c_chk l G (i) (n) (by omega) (by omega)) ok_J15_checkIndex_7cf53 q5_56 (trivial) ⟨rfl, rfl, by decide, by decide⟩ ⟨Nat.zero_le _, Nat.zero_le _⟩ rfl (Nat.le_of_ble_eq_true rfl) hl.1 rfl dJx4a65c_remove_915e3_5 ?_
  refine lv_pop S.1 S.2.1 dJx4a65c_remove_915e3_8 rfl ?_
  refine z_aload_n S dJx4a65c_remove_915e3_9 hl 0 rfl rfl ?_
  refine z_get S hG hP.1 zc_Jx4a65c 1 (by decide) q4_211 rfl rfl dJx4a65c_remove_915e3_10 ?_
  refine z_astore_n (lv' := [(2, .ref (ed)), (0, .ref (q)), (1, .int (zI (i)))]) S dJx4a65c_remove_915e3_13 hl rfl (by decide) rfl (fun ls hl => ?_)
  refine z_aload_n S dJx4a65c_remove_915e3_14 hl 0 rfl rfl ?_
  refine z_iload_n S dJx4a65c_remove_915e3_15 hl 2 rfl rfl ?_
  refine z_aaldO S hG hP.2.1 (by omega) (by decide) dJx4a65c_remove_915e3_16 ?_
  rw [hx]
  refine z_astore_n (lv' := [(3, .ref (x)), (2, .ref (ed)), (0, .ref (q)), (1, .int (zI (i)))]) S dJx4a65c_remove_915e3_17 hl rfl (by decide) rfl (fun ls hl => ?_)
  refine z_aload_n S dJx4a65c_remove_915e3_18 hl 2 rfl rfl ?_
  refine z_aload_n S dJx4a65c_remove_915e3_19 hl 1 rfl rfl ?_
  refine z_iload_n S dJx4a65c_remove_915e3_20 hl 3 rfl rfl ?_
  refine z_callM S hG hS (c_alFast l G q ed mc n els i hi hn hqe) (fun _ h => h) ok_Jx4a65c_fastRemove_b59b0 hP.1 zc_Jx4a65c rfl q5_128 (hP) ⟨rfl, rfl, by decide, by decide⟩ ⟨Nat.le_of_ble_eq_true rfl, Nat.le_of_ble_eq_true rfl⟩ rfl (Nat.le_of_ble_eq_true rfl) hl.1 rfl dJx4a65c_remove_915e3_21 (fun H_1 L_1 hB hz oq hS => ?_)
  refine z_aload_n S dJx4a65c_remove_915e3_24 hl 0 rfl rfl ?_
  exact ret _ _ _ _ _ _ dJx4a65c_remove_915e3_25 hS (hB) (Nat.le_of_ble_eq_true rfl) (Nat.le_of_ble_eq_true rfl)
theorem dX4_stop_0 : decode cX4_stop 0 = .ok (.aload_n 0, 1) := by decide +kernel
theorem dX4_stop_1 : decode cX4_stop 1 = .ok (.aload_n 0, 1) := by decide +kernel
theorem dX4_stop_2 : decode cX4_stop 2 = .ok (.iload_n 1, 1) := by decide +kernel
theorem dX4_stop_3 : decode cX4_stop 3 = .ok (.invokevirtual 134, 3) := by decide +kernel
theorem dX4_stop_6 : decode cX4_stop 6 = .ok (.iconst 1, 1) := by decide +kernel
theorem dX4_stop_7 : decode cX4_stop 7 = .ok (.invokevirtual 121, 3) := by decide +kernel
theorem dX4_stop_10 : decode cX4_stop 10 = .ok (.ifCond .eq 5, 3) := by decide +kernel
theorem dX4_stop_13 : decode cX4_stop 13 = .ok (.iconst 0, 1) := by decide +kernel
theorem dX4_stop_14 : decode cX4_stop 14 = .ok (.ireturn, 1) := by decide +kernel
theorem dX4_stop_15 : decode cX4_stop 15 = .ok (.aload_n 0, 1) := by decide +kernel
theorem dX4_stop_16 : decode cX4_stop 16 = .ok (.getfield 23, 3) := by decide +kernel
theorem dX4_stop_19 : decode cX4_stop 19 = .ok (.iload_n 1, 1) := by decide +kernel
theorem dX4_stop_20 : decode cX4_stop 20 = .ok (.invokevirtual 137, 3) := by decide +kernel
theorem dX4_stop_23 : decode cX4_stop 23 = .ok (.pop, 1) := by decide +kernel
theorem dX4_stop_24 : decode cX4_stop 24 = .ok (.aload_n 0, 1) := by decide +kernel
theorem dX4_stop_25 : decode cX4_stop 25 = .ok (.getfield 23, 3) := by decide +kernel
theorem dX4_stop_28 : decode cX4_stop 28 = .ok (.invokevirtual 41, 3) := by decide +kernel
theorem dX4_stop_31 : decode cX4_stop 31 = .ok (.ireturn, 1) := by decide +kernel
theorem q5_124 : (Jvm.Cond.methodLink "CyclepaintModel" (137 : Nat) ({ cls := "java/util/ArrayList", name := "remove", desc := "(I)Ljava/lang/Object;" } : Jvm.MethodName)) ∈ lw_g := zg_of (zin5 (List.mem_of_getElem? (i := 124) rfl)) rfl
theorem q5_123 : (Jvm.Cond.code ({ cls := "CyclepaintModel", name := "stop", desc := "(I)I" } : Jvm.MethodName) prog_6_method_32_code (2 : Nat) (Option.some Jvm.ClassFile.FieldType.int)) ∈ lw_g := zg_of (zin5 (List.mem_of_getElem? (i := 123) rfl)) rfl
theorem q5_121 : (Jvm.Cond.instanceMethod ({ cls := "CyclepaintModel", name := "stop", desc := "(I)I" } : Jvm.MethodName)) ∈ lw_g := zg_of (zin5 (List.mem_of_getElem? (i := 121) rfl)) rfl
theorem q5_122 : (Jvm.Cond.selects "CyclepaintModel" ({ cls := "CyclepaintModel", name := "stop", desc := "(I)I" } : Jvm.MethodName) ({ cls := "CyclepaintModel", name := "stop", desc := "(I)I" } : Jvm.MethodName)) ∈ lw_g := zg_of (zin5 (List.mem_of_getElem? (i := 122) rfl)) rfl
theorem ok_X4_stop : zOV yX4_stop cX4_stop 2 ((Option.some Jvm.ClassFile.FieldType.int)) 1 := ⟨⟨q5_123, q1_3, by decide, by decide, by decide +kernel⟩, q5_121, q5_122⟩
set_option maxHeartbeats 4000000 in
set_option maxRecDepth 100000 in
theorem c_X4_stop (l : Launch) (G : zG) (σ : St) (b : Nat → Nat) (th m1 m2 : Int32) (hd : inj b (mL σ)) (hO : okR σ) (j : Int) (hj : rg j) (t : Int) (ht : t = ec (!(decide (0 ≤ j) && decide (j ≤ σ.rn - 1))) (false)) : Met l yX4_stop (wq yX4_stop cX4_stop 2 ((Option.some Jvm.ClassFile.FieldType.int))) (rmM 3 106 0 0) (va_Pc [.ref (b 0), .int (zI (j))] (zK G (hMod G σ b th m1 m2))) (zM (mA σ b) (some (.int ((if t = 0 then zI (σ.rn - 1) else zI 0)))) (fun H => hMod G (if t = 0 then delS σ j else σ) (if t = 0 then delB b j else b) (zI t) (if t = 0 then m1 + zI 1 else m1) m2 H ∧ (t = 0 → hEd G (b 5) (delO (elR σ b) j σ.rn) H))) 0 0 (mA σ b) := by
  refine z_enterMI (by decide +kernel) (Nat.le_of_ble_eq_true rfl) ?_
  intro p env s m below meth cod Q S hG hP hS ret ls hl
  have hl : lv_has ls 2 [(0, .ref (b 0)), (1, .int (zI (j)))] := hl
  have hrn := hO.1
  refine z_aload_n S dX4_stop_0 hl 0 rfl rfl ?_
  refine z_aload_n S dX4_stop_1 hl 0 rfl rfl ?_
  refine z_iload_n S dX4_stop_2 hl 1 rfl rfl ?_
  refine z_callVs S hG (c_X4_isNoRange l G σ b th m1 m2 (j) (by omega)) ok_X4_isNoRange hP.1 zc_X4 rfl q5_113 (hP) ⟨rfl, rfl, by decide, by decide⟩ ⟨Nat.zero_le _, Nat.zero_le _⟩ rfl (Nat.le_of_ble_eq_true rfl) hl.1 rfl dX4_stop_3 ?_
  refine z_iconst S dX4_stop_6 ?_
  cases hb_7 : (!(decide (0 ≤ j) && decide (j ≤ σ.rn - 1)))
  · skip
    refine z_callM S hG hS (c_X4_start l G (σ) b th m1 m2 false (1) (by omega) hd (by exact hrn)) (fun _ h => h) ok_X4_start hP.1 zc_X4 rfl q5_21 (hP) ⟨rfl, rfl, by decide, by decide⟩ ⟨Nat.le_of_ble_eq_true rfl, Nat.le_of_ble_eq_true rfl⟩ rfl (Nat.le_of_ble_eq_true rfl) hl.1 rfl dX4_stop_7 (fun H_1 L_1 hB hz oq hS => ?_)
    have hP : hMod G (σ) b (zI 0) m1 m2 H_1 := hB
    refine z_bif_eq S 15 dX4_stop_10 (by decide) (fun qz => ?_) (fun qz => ?_)
    rotate_left
    · exact absurd qz (by decide)
    have hj := no_F hb_7
    have hrp : 0 < σ.rn := by omega
    have hqe : b 3 ≠ b 5 := fun z => absurd (hd 3 5 (mL_s (by decide)) (mL_5 hrp) z) (by decide)
    refine z_aload_n S dX4_stop_15 hl 0 rfl rfl ?_
    refine z_get S hG hP.1 zc_X4 6 (by decide) q4_232 rfl rfl dX4_stop_16 ?_
    refine z_iload_n S dX4_stop_19 hl 1 rfl rfl ?_
    refine z_callM S hG hS (c_alRemove l G (b 3) (b 5) m1 σ.rn (elR σ b) j (by omega) (by omega) hqe (b (8 + j.toNat)) (if_pos (by omega))) (fun x h => h.elim (fun e => ⟨3, mL_s (by decide), e⟩) (fun e => ⟨5, mL_5 hrp, e⟩)) ok_Jx4a65c_remove_915e3 hP.2.2.2.1 zc_Jx4a65c rfl q5_124 (⟨hP.2.2.2.1, hP.2.2.2.2.2.1 hrp, hMod_El hP hd hrp⟩) ⟨rfl, rfl, by decide, by decide⟩ ⟨Nat.le_of_ble_eq_true rfl, Nat.le_of_ble_eq_true rfl⟩ rfl (Nat.le_of_ble_eq_true rfl) hl.1 rfl dX4_stop_20 (fun H_2 L_2 hB hz oq hS => ?_)
    have hP : hMod G (delS σ j) (delB b j) (zI 0) (m1 + zI 1) m2 H_2 := hMod_del hP hd hj.1 (by omega) hB.1 hB.2 (fun i hi n3 n5 => oq _ (hMod_lt hP hi) (fun z => z.elim (fun e => n3 (hd i 3 hi (mL_s (by decide)) e)) (fun e => n5 (hd i 5 hi (mL_5 hrp) e))))
    refine lv_pop S.1 S.2.1 dX4_stop_23 rfl ?_
    refine z_aload_n S dX4_stop_24 hl 0 rfl rfl ?_
    refine z_get S hG (show va_at G.1 vwCl (b 0, .inr (8, [.int (zI 0), .int (zI σ.tk), .int σ.rf, .int (zI σ.lim), .ref (b 1), .ref (b 2), .ref (b 3), .ref (b 4)])) H_2 from (delB_s b j (k := 0) (by decide) ▸ delB_s b j (k := 1) (by decide) ▸ delB_s b j (k := 2) (by decide) ▸ delB_s b j (k := 3) (by decide) ▸ delB_s b j (k := 4) (by decide) ▸ hP.1)) zc_X4 6 (by decide) q4_232 rfl rfl dX4_stop_25 ?_
    refine z_callVs S hG (c_alSize l G (b 3) (b 5) (m1 + zI 1) (σ.rn - 1)) ok_Jx4a65c_size_8abf5 hB.1 zc_Jx4a65c rfl q5_40 (hB.1) ⟨rfl, rfl, by decide, by decide⟩ ⟨Nat.zero_le _, Nat.zero_le _⟩ rfl (Nat.le_of_ble_eq_true rfl) hl.1 rfl dX4_stop_28 ?_
    exact ret _ _ _ _ _ _ _ dX4_stop_31 (by rw [ht, ec_0 hb_7 rfl] <;> rfl) hS (⟨by rw [ht, ec_0 hb_7 rfl]; exact hP, fun _ => hB.2⟩) (Nat.le_of_ble_eq_true rfl) (Nat.le_of_ble_eq_true rfl)
  · skip
    refine z_callM S hG hS (c_X4_start l G (σ) b th m1 m2 true (1) (by omega) hd (by exact hrn)) (fun _ h => h) ok_X4_start hP.1 zc_X4 rfl q5_21 (hP) ⟨rfl, rfl, by decide, by decide⟩ ⟨Nat.le_of_ble_eq_true rfl, Nat.le_of_ble_eq_true rfl⟩ rfl (Nat.le_of_ble_eq_true rfl) hl.1 rfl dX4_stop_7 (fun H_3 L_3 hB hz oq hS => ?_)
    have hP : hMod G (σ) b (zI 1) m1 m2 H_3 := hB
    refine z_bif_eq S 15 dX4_stop_10 (by decide) (fun qz => ?_) (fun qz => ?_)
    · exact absurd qz (by decide)
    refine z_iconst S dX4_stop_13 ?_
    exact ret _ _ _ _ _ _ _ dX4_stop_14 (by rw [ht, ec_1 hb_7] <;> rfl) hS (⟨by rw [ht, ec_1 hb_7]; exact hP, fun z => absurd z (by rw [ht, ec_1 hb_7]; decide)⟩) (Nat.le_of_ble_eq_true rfl) (Nat.le_of_ble_eq_true rfl)
