theorem dX4_smallest_0 : decode cX4_smallest 0 = .ok (.aload_n 0, 1) := by decide +kernel
theorem dX4_smallest_1 : decode cX4_smallest 1 = .ok (.iload_n 1, 1) := by decide +kernel
theorem dX4_smallest_2 : decode cX4_smallest 2 = .ok (.invokevirtual 91, 3) := by decide +kernel
theorem dX4_smallest_5 : decode cX4_smallest 5 = .ok (.invokestatic 94, 3) := by decide +kernel
theorem dX4_smallest_8 : decode cX4_smallest 8 = .ok (.ireturn, 1) := by decide +kernel
theorem q5_141 : (Jvm.Cond.methodLink "CyclepaintModel" (91 : Nat) ({ cls := "CyclepaintModel", name := "twins", desc := "(I)I" } : Jvm.MethodName)) ∈ lw_g := zg_of (zin5 (List.mem_of_getElem? (i := 141) rfl)) rfl
theorem q5_163 : (Jvm.Cond.methodLink "CyclepaintModel" (94 : Nat) ({ cls := "java/lang/Integer", name := "numberOfTrailingZeros", desc := "(I)I" } : Jvm.MethodName)) ∈ lw_g := zg_of (zin5 (List.mem_of_getElem? (i := 163) rfl)) rfl
theorem q5_140 : (Jvm.Cond.code ({ cls := "CyclepaintModel", name := "smallest", desc := "(I)I" } : Jvm.MethodName) prog_6_method_21_code (2 : Nat) (Option.some Jvm.ClassFile.FieldType.int)) ∈ lw_g := zg_of (zin5 (List.mem_of_getElem? (i := 140) rfl)) rfl
theorem q5_139 : (Jvm.Cond.instanceMethod ({ cls := "CyclepaintModel", name := "smallest", desc := "(I)I" } : Jvm.MethodName)) ∈ lw_g := zg_of (zin5 (List.mem_of_getElem? (i := 139) rfl)) rfl
theorem qs_29 : Cond.selects "CyclepaintModel" (⟨"CyclepaintModel", "smallest", "(I)I"⟩ : MethodName) (⟨"CyclepaintModel", "smallest", "(I)I"⟩ : MethodName) ∈ lw_g := zg_of (zinS (List.mem_of_getElem? (i := 29) rfl)) rfl
theorem ok_X4_smallest : zOV yX4_smallest cX4_smallest 2 ((Option.some Jvm.ClassFile.FieldType.int)) 1 := ⟨⟨q5_140, q1_3, by decide, by decide, by decide +kernel⟩, q5_139, qs_29⟩
set_option maxHeartbeats 4000000 in
set_option maxRecDepth 100000 in
theorem c_X4_smallest (l : Launch) (G : zG) (σ : St) (b : Nat → Nat) (th m1 m2 : Int32) (e : Int) (he : 0 ≤ e ∧ e < 16) : Met l yX4_smallest (wq yX4_smallest cX4_smallest 2 ((Option.some Jvm.ClassFile.FieldType.int))) (rmR 7 157) (va_Pc [.ref (b 0), .int (zI (e))] (zK G (hMod G σ b th m1 m2))) (zQ (some (.int ((zI (smM σ e)))))) 0 0 zF := by
  refine z_enterI (by decide +kernel) (Nat.le_of_ble_eq_true rfl) ?_
  intro p env s m below meth cod Q S hG hP ret ls hl
  have hl : lv_has ls 2 [(0, .ref (b 0)), (1, .int (zI (e)))] := hl
  obtain ⟨hk, hx⟩ := smM_ok σ he
  refine z_aload_n S dX4_smallest_0 hl 0 rfl rfl ?_
  refine z_iload_n S dX4_smallest_1 hl 1 rfl rfl ?_
  refine z_callVs S hG (c_X4_twins l G σ b th m1 m2 (e) (by omega)) ok_X4_twins hP.1 zc_X4 rfl q5_141 (hP) ⟨rfl, rfl, by decide, by decide⟩ ⟨Nat.zero_le _, Nat.zero_le _⟩ rfl (Nat.le_of_ble_eq_true rfl) hl.1 rfl dX4_smallest_2 ?_
  refine z_callSs S hG (c_ntz l G (bstI (fun o => twnM σ (e) o) 16) (smM σ e) hk hx) ok_J6_numberOfTrailingZeros_0f7a4 q5_163 (trivial) ⟨rfl, rfl, by decide, by decide⟩ ⟨Nat.zero_le _, Nat.zero_le _⟩ rfl (Nat.le_of_ble_eq_true rfl) hl.1 rfl dX4_smallest_5 ?_
  exact ret _ _ _ dX4_smallest_8 (rfl)
theorem dX4_kinds_0 : decode cX4_kinds 0 = .ok (.iconst 0, 1) := by decide +kernel
theorem dX4_kinds_1 : decode cX4_kinds 1 = .ok (.istore_n 1, 1) := by decide +kernel
theorem dX4_kinds_2 : decode cX4_kinds 2 = .ok (.iconst 0, 1) := by decide +kernel
theorem dX4_kinds_3 : decode cX4_kinds 3 = .ok (.istore_n 2, 1) := by decide +kernel
theorem dX4_kinds_4 : decode cX4_kinds 4 = .ok (.iload_n 2, 1) := by decide +kernel
theorem dX4_kinds_5 : decode cX4_kinds 5 = .ok (.bipush 16, 2) := by decide +kernel
theorem dX4_kinds_7 : decode cX4_kinds 7 = .ok (.if_icmp .ge 31, 3) := by decide +kernel
theorem dX4_kinds_10 : decode cX4_kinds 10 = .ok (.aload_n 0, 1) := by decide +kernel
theorem dX4_kinds_11 : decode cX4_kinds 11 = .ok (.invokevirtual 99, 3) := by decide +kernel
theorem dX4_kinds_14 : decode cX4_kinds 14 = .ok (.iload_n 2, 1) := by decide +kernel
theorem dX4_kinds_15 : decode cX4_kinds 15 = .ok (.ishr, 1) := by decide +kernel
theorem dX4_kinds_16 : decode cX4_kinds 16 = .ok (.iconst 1, 1) := by decide +kernel
theorem dX4_kinds_17 : decode cX4_kinds 17 = .ok (.iand, 1) := by decide +kernel
theorem dX4_kinds_18 : decode cX4_kinds 18 = .ok (.iconst 1, 1) := by decide +kernel
theorem dX4_kinds_19 : decode cX4_kinds 19 = .ok (.if_icmp .ne 13, 3) := by decide +kernel
theorem dX4_kinds_22 : decode cX4_kinds 22 = .ok (.iload_n 1, 1) := by decide +kernel
theorem dX4_kinds_23 : decode cX4_kinds 23 = .ok (.iconst 1, 1) := by decide +kernel
theorem dX4_kinds_24 : decode cX4_kinds 24 = .ok (.aload_n 0, 1) := by decide +kernel
theorem dX4_kinds_25 : decode cX4_kinds 25 = .ok (.iload_n 2, 1) := by decide +kernel
theorem dX4_kinds_26 : decode cX4_kinds 26 = .ok (.invokevirtual 102, 3) := by decide +kernel
theorem dX4_kinds_29 : decode cX4_kinds 29 = .ok (.ishl, 1) := by decide +kernel
theorem dX4_kinds_30 : decode cX4_kinds 30 = .ok (.ior, 1) := by decide +kernel
theorem dX4_kinds_31 : decode cX4_kinds 31 = .ok (.istore_n 1, 1) := by decide +kernel
theorem dX4_kinds_32 : decode cX4_kinds 32 = .ok (.iinc 2 1, 3) := by decide +kernel
theorem dX4_kinds_35 : decode cX4_kinds 35 = .ok (.goto (-31), 3) := by decide +kernel
theorem dX4_kinds_38 : decode cX4_kinds 38 = .ok (.iload_n 1, 1) := by decide +kernel
theorem dX4_kinds_39 : decode cX4_kinds 39 = .ok (.invokestatic 105, 3) := by decide +kernel
theorem dX4_kinds_42 : decode cX4_kinds 42 = .ok (.ireturn, 1) := by decide +kernel
theorem q6_2 : (Jvm.Cond.methodLink "CyclepaintModel" (105 : Nat) ({ cls := "java/lang/Integer", name := "bitCount", desc := "(I)I" } : Jvm.MethodName)) ∈ lw_g := zg_of (zin6 (List.mem_of_getElem? (i := 2) rfl)) rfl
theorem q5_238 : (Jvm.Cond.methodLink "CyclepaintModel" (99 : Nat) ({ cls := "CyclepaintModel", name := "entries", desc := "()I" } : Jvm.MethodName)) ∈ lw_g := zg_of (zin5 (List.mem_of_getElem? (i := 238) rfl)) rfl
theorem q5_137 : (Jvm.Cond.methodLink "CyclepaintModel" (102 : Nat) ({ cls := "CyclepaintModel", name := "smallest", desc := "(I)I" } : Jvm.MethodName)) ∈ lw_g := zg_of (zin5 (List.mem_of_getElem? (i := 137) rfl)) rfl
theorem q6_6 : (Jvm.Cond.code ({ cls := "CyclepaintModel", name := "kinds", desc := "()I" } : Jvm.MethodName) prog_6_method_23_code (3 : Nat) (Option.some Jvm.ClassFile.FieldType.int)) ∈ lw_g := zg_of (zin6 (List.mem_of_getElem? (i := 6) rfl)) rfl
theorem q6_5 : (Jvm.Cond.instanceMethod ({ cls := "CyclepaintModel", name := "kinds", desc := "()I" } : Jvm.MethodName)) ∈ lw_g := zg_of (zin6 (List.mem_of_getElem? (i := 5) rfl)) rfl
theorem qs_42 : Cond.selects "CyclepaintModel" (⟨"CyclepaintModel", "kinds", "()I"⟩ : MethodName) (⟨"CyclepaintModel", "kinds", "()I"⟩ : MethodName) ∈ lw_g := zg_of (zinS (List.mem_of_getElem? (i := 42) rfl)) rfl
theorem ok_X4_kinds : zOV yX4_kinds cX4_kinds 3 ((Option.some Jvm.ClassFile.FieldType.int)) 0 := ⟨⟨q6_6, q1_3, by decide, by decide, by decide +kernel⟩, q6_5, qs_42⟩
set_option maxHeartbeats 4000000 in
set_option maxRecDepth 100000 in
theorem c_X4_kinds (l : Launch) (G : zG) (σ : St) (b : Nat → Nat) (th m1 m2 : Int32) : Met l yX4_kinds (wq yX4_kinds cX4_kinds 3 ((Option.some Jvm.ClassFile.FieldType.int))) (rmR 8 178) (va_Pc [.ref (b 0)] (zK G (hMod G σ b th m1 m2))) (zQ (some (.int ((bcR (ksM σ)))))) 0 0 zF := by
  refine z_enterI (by decide +kernel) (Nat.le_of_ble_eq_true rfl) ?_
  intro p env s m below meth cod Q S hG hP ret ls hl
  have hl : lv_has ls 3 [(0, .ref (b 0))] := hl
  refine z_iconst S dX4_kinds_0 ?_
  refine z_istore_n (lv' := [(1, .int (zI (0))), (0, .ref (b 0))]) S dX4_kinds_1 hl rfl (by decide) rfl (fun ls hl => ?_)
  refine z_iconst S dX4_kinds_2 ?_
  refine z_istore_n (lv' := [(2, .int (zI (0))), (1, .int (zI (0))), (0, .ref (b 0))]) S dX4_kinds_3 hl rfl (by decide) rfl (fun ls hl => ?_)
  have loop_4 : ∀ (nn : Nat) (k : Int) (g : Int32), (0 ≤ k ∧ k ≤ 16) → (g = orI (inB σ) (fun e => bit1 (smM σ e)) k) → ((16 - k).toNat) < nn → ∀ ls, lv_has ls 3 [(2, .int (zI (k))), (1, .int (g)), (0, .ref (b 0))] → W p l env (rmR 8 178) s m ([.ref (b 0)] : List Value).toArray below meth cod s.heap [] 0 0 Q (F0 m 4 ls []) := by
    intro nn
    induction nn with
    | zero => intro _ _ _ _ h; exact absurd h (Nat.not_lt_zero _)
    | succ nn ih_4 =>
      intro k g hk hg hm_4 ls hl
      refine z_iload_n S dX4_kinds_4 hl 0 rfl rfl ?_
      refine z_bipush S dX4_kinds_5 rfl ?_
      refine z_icmp_ge S 38 dX4_kinds_7 (by decide) (by omega) (by omega) (fun c_7 => ?_) (fun c_7 => ?_)
      · skip
        refine z_iload_n S dX4_kinds_38 hl 1 rfl rfl ?_
        refine z_callSs S hG (c_bitCount l G (g)) ok_J6_bitCount_0f7a4 q6_2 (trivial) ⟨rfl, rfl, by decide, by decide⟩ ⟨Nat.zero_le _, Nat.zero_le _⟩ rfl (Nat.le_of_ble_eq_true rfl) hl.1 rfl dX4_kinds_39 ?_
        exact ret _ _ _ dX4_kinds_42 (by rw [hg, show k = 16 by omega]; rfl)
      · skip
        refine z_aload_n S dX4_kinds_10 hl 2 rfl rfl ?_
        refine z_callVs S hG (c_X4_entries l G σ b th m1 m2) ok_X4_entries hP.1 zc_X4 rfl q5_238 (hP) ⟨rfl, rfl, by decide, by decide⟩ ⟨Nat.zero_le _, Nat.zero_le _⟩ rfl (Nat.le_of_ble_eq_true rfl) hl.1 rfl dX4_kinds_11 ?_
        refine z_iload_n S dX4_kinds_14 hl 0 rfl rfl ?_
        refine lv_ishr S.1 S.2.1 dX4_kinds_15 ?_
        refine z_iconst S dX4_kinds_16 ?_
        refine lv_iand S.1 S.2.1 dX4_kinds_17 ?_
        refine z_iconst S dX4_kinds_18 ?_
        refine lv_icmp_ne (tgt := 32) S.1 S.2.1 dX4_kinds_19 (by decide) (fun c_19 => ?_) (fun c_19 => ?_)
        · skip
          refine z_iinc (lv' := [(2, .int (zI (k + 1))), (1, .int (g)), (0, .ref (b 0))]) S dX4_kinds_32 hl 0 rfl (by decide) rfl (fun ls hl => ?_)
          refine z_goto S 4 dX4_kinds_35 (by decide) ?_
          exact ih_4 (k + 1) (g) (by omega) (by rw [orI_s hk.1, if_neg (by unfold inB; simpa using c_19)]; exact hg) (by omega) ls (lv_sub hl [0, 1, 2] rfl)
        · skip
          refine z_iload_n S dX4_kinds_22 hl 1 rfl rfl ?_
          refine z_iconst S dX4_kinds_23 ?_
          refine z_aload_n S dX4_kinds_24 hl 2 rfl rfl ?_
          refine z_iload_n S dX4_kinds_25 hl 0 rfl rfl ?_
          refine z_callVs S hG (c_X4_smallest l G σ b th m1 m2 (k) (by omega)) ok_X4_smallest hP.1 zc_X4 rfl q5_137 (hP) ⟨rfl, rfl, by decide, by decide⟩ ⟨Nat.zero_le _, Nat.zero_le _⟩ rfl (Nat.le_of_ble_eq_true rfl) hl.1 rfl dX4_kinds_26 ?_
          refine lv_ishl S.1 S.2.1 dX4_kinds_29 ?_
          refine lv_ior S.1 S.2.1 dX4_kinds_30 ?_
          refine z_istore_n (lv' := [(1, .int ((g) ||| ((zI (1)) <<< ((zI (smM σ (k))) &&& 31)))), (2, .int (zI (k))), (0, .ref (b 0))]) S dX4_kinds_31 hl rfl (by decide) rfl (fun ls hl => ?_)
          refine z_iinc (lv' := [(2, .int (zI (k + 1))), (1, .int ((g) ||| ((zI (1)) <<< ((zI (smM σ (k))) &&& 31)))), (0, .ref (b 0))]) S dX4_kinds_32 hl 1 rfl (by decide) rfl (fun ls hl => ?_)
          refine z_goto S 4 dX4_kinds_35 (by decide) ?_
          exact ih_4 (k + 1) ((g) ||| ((zI (1)) <<< ((zI (smM σ (k))) &&& 31))) (by omega) (by rw [orI_s hk.1, if_pos (by unfold inB; simpa using c_19), ← hg]; rfl) (by omega) ls (lv_sub hl [0, 1, 2] rfl)
  exact loop_4 _ (0) ((zI (0))) (by omega) (rfl) (Nat.lt_succ_self _) ls (lv_sub hl [0, 1, 2] rfl)
theorem dX4_dotNow_0 : decode cX4_dotNow 0 = .ok (.aload_n 0, 1) := by decide +kernel
theorem dX4_dotNow_1 : decode cX4_dotNow 1 = .ok (.aload_n 0, 1) := by decide +kernel
theorem dX4_dotNow_2 : decode cX4_dotNow 2 = .ok (.getfield 17, 3) := by decide +kernel
theorem dX4_dotNow_5 : decode cX4_dotNow 5 = .ok (.iload_n 1, 1) := by decide +kernel
theorem dX4_dotNow_6 : decode cX4_dotNow 6 = .ok (.iaload, 1) := by decide +kernel
theorem dX4_dotNow_7 : decode cX4_dotNow 7 = .ok (.aload_n 0, 1) := by decide +kernel
theorem dX4_dotNow_8 : decode cX4_dotNow 8 = .ok (.getfield 108, 3) := by decide +kernel
theorem dX4_dotNow_11 : decode cX4_dotNow 11 = .ok (.invokevirtual 84, 3) := by decide +kernel
theorem dX4_dotNow_14 : decode cX4_dotNow 14 = .ok (.istore_n 3, 1) := by decide +kernel
theorem dX4_dotNow_15 : decode cX4_dotNow 15 = .ok (.iload_n 2, 1) := by decide +kernel
theorem dX4_dotNow_16 : decode cX4_dotNow 16 = .ok (.ifCond .ne 12, 3) := by decide +kernel
theorem dX4_dotNow_19 : decode cX4_dotNow 19 = .ok (.aload_n 0, 1) := by decide +kernel
theorem dX4_dotNow_20 : decode cX4_dotNow 20 = .ok (.getfield 17, 3) := by decide +kernel
theorem dX4_dotNow_23 : decode cX4_dotNow 23 = .ok (.iload_n 1, 1) := by decide +kernel
theorem dX4_dotNow_24 : decode cX4_dotNow 24 = .ok (.iaload, 1) := by decide +kernel
theorem dX4_dotNow_25 : decode cX4_dotNow 25 = .ok (.goto 29, 3) := by decide +kernel
theorem dX4_dotNow_28 : decode cX4_dotNow 28 = .ok (.iload_n 2, 1) := by decide +kernel
theorem dX4_dotNow_29 : decode cX4_dotNow 29 = .ok (.iconst 1, 1) := by decide +kernel
theorem dX4_dotNow_30 : decode cX4_dotNow 30 = .ok (.if_icmp .ne 7, 3) := by decide +kernel
theorem dX4_dotNow_33 : decode cX4_dotNow 33 = .ok (.iload_n 3, 1) := by decide +kernel
theorem dX4_dotNow_34 : decode cX4_dotNow 34 = .ok (.goto 20, 3) := by decide +kernel
theorem dX4_dotNow_37 : decode cX4_dotNow 37 = .ok (.iload_n 2, 1) := by decide +kernel
theorem dX4_dotNow_38 : decode cX4_dotNow 38 = .ok (.iconst 2, 1) := by decide +kernel
theorem dX4_dotNow_39 : decode cX4_dotNow 39 = .ok (.if_icmp .ne 10, 3) := by decide +kernel
theorem dX4_dotNow_42 : decode cX4_dotNow 42 = .ok (.iload_n 3, 1) := by decide +kernel
theorem dX4_dotNow_43 : decode cX4_dotNow 43 = .ok (.invokestatic 114, 3) := by decide +kernel
theorem dX4_dotNow_46 : decode cX4_dotNow 46 = .ok (.goto 8, 3) := by decide +kernel
theorem dX4_dotNow_49 : decode cX4_dotNow 49 = .ok (.aload_n 0, 1) := by decide +kernel
theorem dX4_dotNow_50 : decode cX4_dotNow 50 = .ok (.iload_n 1, 1) := by decide +kernel
theorem dX4_dotNow_51 : decode cX4_dotNow 51 = .ok (.invokevirtual 111, 3) := by decide +kernel
theorem dX4_dotNow_54 : decode cX4_dotNow 54 = .ok (.ireturn, 1) := by decide +kernel
theorem q5_206 : (Jvm.Cond.code ({ cls := "CyclepaintModel", name := "dotNow", desc := "(II)I" } : Jvm.MethodName) prog_6_method_39_code (4 : Nat) (Option.some Jvm.ClassFile.FieldType.int)) ∈ lw_g := zg_of (zin5 (List.mem_of_getElem? (i := 206) rfl)) rfl
theorem q5_205 : (Jvm.Cond.instanceMethod ({ cls := "CyclepaintModel", name := "dotNow", desc := "(II)I" } : Jvm.MethodName)) ∈ lw_g := zg_of (zin5 (List.mem_of_getElem? (i := 205) rfl)) rfl
theorem qs_36 : Cond.selects "CyclepaintModel" (⟨"CyclepaintModel", "dotNow", "(II)I"⟩ : MethodName) (⟨"CyclepaintModel", "dotNow", "(II)I"⟩ : MethodName) ∈ lw_g := zg_of (zinS (List.mem_of_getElem? (i := 36) rfl)) rfl
theorem ok_X4_dotNow : zOV yX4_dotNow cX4_dotNow 4 ((Option.some Jvm.ClassFile.FieldType.int)) 2 := ⟨⟨q5_206, q1_3, by decide, by decide, by decide +kernel⟩, q5_205, qs_36⟩
set_option maxHeartbeats 4000000 in
set_option maxRecDepth 100000 in
theorem c_X4_dotNow (l : Launch) (G : zG) (σ : St) (b : Nat → Nat) (th m1 m2 : Int32) (d wh : Int) (hd : 0 ≤ d ∧ d < 32) (hw : 0 ≤ wh ∧ wh ≤ 3) (hdt : ∀ d : Int, 0 ≤ d → d < 32 → 0 ≤ σ.Dt d ∧ σ.Dt d < 16) (hT : 0 ≤ σ.tk ∧ σ.tk ≤ 99999) : Met l yX4_dotNow (wq yX4_dotNow cX4_dotNow 4 ((Option.some Jvm.ClassFile.FieldType.int))) (rmR 6 133) (va_Pc [.ref (b 0), .int (zI (d)), .int (zI (wh))] (zK G (hMod G σ b th m1 m2))) (zQ (some (.int ((dF σ d wh))))) 0 0 zF := by
  refine z_enterI (by decide +kernel) (Nat.le_of_ble_eq_true rfl) ?_
  intro p env s m below meth cod Q S hG hP ret ls hl
  have hl : lv_has ls 4 [(0, .ref (b 0)), (1, .int (zI (d))), (2, .int (zI (wh)))] := hl
  have hdt0 := hdt d hd.1 hd.2
  rcases (show wh = 0 ∨ wh = 1 ∨ wh = 2 ∨ wh = 3 by omega) with rfl | rfl | rfl | rfl
  · skip
    refine z_aload_n S dX4_dotNow_0 hl 0 rfl rfl ?_
    refine z_aload_n S dX4_dotNow_1 hl 0 rfl rfl ?_
    refine z_get S hG hP.1 zc_X4 5 (by decide) q4_231 rfl rfl dX4_dotNow_2 ?_
    refine z_iload_n S dX4_dotNow_5 hl 1 rfl rfl ?_
    refine z_ialdB S hG hP.2.2.1 (by omega) (by decide) dX4_dotNow_6 ?_
    refine z_aload_n S dX4_dotNow_7 hl 0 rfl rfl ?_
    refine z_get S hG hP.1 zc_X4 1 (by decide) q4_227 rfl rfl dX4_dotNow_8 ?_
    refine z_callVs S hG (c_X4_show l G σ b th m1 m2 (σ.Dt (d)) (σ.tk) (by omega) (by omega)) ok_X4_show hP.1 zc_X4 rfl q5_159 (hP) ⟨rfl, rfl, by decide, by decide⟩ ⟨Nat.zero_le _, Nat.zero_le _⟩ rfl (Nat.le_of_ble_eq_true rfl) hl.1 rfl dX4_dotNow_11 ?_
    refine z_istore_n (lv' := [(3, .int (shw σ (σ.Dt (d)) (σ.tk))), (0, .ref (b 0)), (1, .int (zI (d))), (2, .int (zI (0)))]) S dX4_dotNow_14 hl rfl (by decide) rfl (fun ls hl => ?_)
    refine z_iload_n S dX4_dotNow_15 hl 3 rfl rfl ?_
    refine z_if_ne_F S 28 dX4_dotNow_16 (by decide) (by omega) (by omega) ?_
    refine z_aload_n S dX4_dotNow_19 hl 1 rfl rfl ?_
    refine z_get S hG hP.1 zc_X4 5 (by decide) q4_231 rfl rfl dX4_dotNow_20 ?_
    refine z_iload_n S dX4_dotNow_23 hl 2 rfl rfl ?_
    refine z_ialdB S hG hP.2.2.1 (by omega) (by decide) dX4_dotNow_24 ?_
    refine z_goto S 54 dX4_dotNow_25 (by decide) ?_
    exact ret _ _ _ dX4_dotNow_54 (by unfold dF; simp)
  · skip
    refine z_aload_n S dX4_dotNow_0 hl 0 rfl rfl ?_
    refine z_aload_n S dX4_dotNow_1 hl 0 rfl rfl ?_
    refine z_get S hG hP.1 zc_X4 5 (by decide) q4_231 rfl rfl dX4_dotNow_2 ?_
    refine z_iload_n S dX4_dotNow_5 hl 1 rfl rfl ?_
    refine z_ialdB S hG hP.2.2.1 (by omega) (by decide) dX4_dotNow_6 ?_
    refine z_aload_n S dX4_dotNow_7 hl 0 rfl rfl ?_
    refine z_get S hG hP.1 zc_X4 1 (by decide) q4_227 rfl rfl dX4_dotNow_8 ?_
    refine z_callVs S hG (c_X4_show l G σ b th m1 m2 (σ.Dt (d)) (σ.tk) (by omega) (by omega)) ok_X4_show hP.1 zc_X4 rfl q5_159 (hP) ⟨rfl, rfl, by decide, by decide⟩ ⟨Nat.zero_le _, Nat.zero_le _⟩ rfl (Nat.le_of_ble_eq_true rfl) hl.1 rfl dX4_dotNow_11 ?_
    refine z_istore_n (lv' := [(3, .int (shw σ (σ.Dt (d)) (σ.tk))), (0, .ref (b 0)), (1, .int (zI (d))), (2, .int (zI (1)))]) S dX4_dotNow_14 hl rfl (by decide) rfl (fun ls hl => ?_)
    refine z_iload_n S dX4_dotNow_15 hl 3 rfl rfl ?_
    refine z_if_ne_T S 28 dX4_dotNow_16 (by decide) (by omega) (by omega) ?_
    refine z_iload_n S dX4_dotNow_28 hl 3 rfl rfl ?_
    refine z_iconst S dX4_dotNow_29 ?_
    refine z_icmp_ne_F S 37 dX4_dotNow_30 (by decide) (by omega) (by omega) (by omega) ?_
    refine z_iload_n S dX4_dotNow_33 hl 0 rfl rfl ?_
    refine z_goto S 54 dX4_dotNow_34 (by decide) ?_
    exact ret _ _ _ dX4_dotNow_54 (by unfold dF; simp)
  · skip
    refine z_aload_n S dX4_dotNow_0 hl 0 rfl rfl ?_
    refine z_aload_n S dX4_dotNow_1 hl 0 rfl rfl ?_
    refine z_get S hG hP.1 zc_X4 5 (by decide) q4_231 rfl rfl dX4_dotNow_2 ?_
    refine z_iload_n S dX4_dotNow_5 hl 1 rfl rfl ?_
    refine z_ialdB S hG hP.2.2.1 (by omega) (by decide) dX4_dotNow_6 ?_
    refine z_aload_n S dX4_dotNow_7 hl 0 rfl rfl ?_
    refine z_get S hG hP.1 zc_X4 1 (by decide) q4_227 rfl rfl dX4_dotNow_8 ?_
    refine z_callVs S hG (c_X4_show l G σ b th m1 m2 (σ.Dt (d)) (σ.tk) (by omega) (by omega)) ok_X4_show hP.1 zc_X4 rfl q5_159 (hP) ⟨rfl, rfl, by decide, by decide⟩ ⟨Nat.zero_le _, Nat.zero_le _⟩ rfl (Nat.le_of_ble_eq_true rfl) hl.1 rfl dX4_dotNow_11 ?_
    refine z_istore_n (lv' := [(3, .int (shw σ (σ.Dt (d)) (σ.tk))), (0, .ref (b 0)), (1, .int (zI (d))), (2, .int (zI (2)))]) S dX4_dotNow_14 hl rfl (by decide) rfl (fun ls hl => ?_)
    refine z_iload_n S dX4_dotNow_15 hl 3 rfl rfl ?_
    refine z_if_ne_T S 28 dX4_dotNow_16 (by decide) (by omega) (by omega) ?_
    refine z_iload_n S dX4_dotNow_28 hl 3 rfl rfl ?_
    refine z_iconst S dX4_dotNow_29 ?_
    refine z_icmp_ne_T S 37 dX4_dotNow_30 (by decide) (by omega) (by omega) (by omega) ?_
    refine z_iload_n S dX4_dotNow_37 hl 3 rfl rfl ?_
    refine z_iconst S dX4_dotNow_38 ?_
    refine z_icmp_ne_F S 49 dX4_dotNow_39 (by decide) (by omega) (by omega) (by omega) ?_
    refine z_iload_n S dX4_dotNow_42 hl 0 rfl rfl ?_
    refine z_callSs S hG (c_X4_light l G (shw σ (σ.Dt (d)) (σ.tk))) ok_X4_light q5_207 (trivial) ⟨rfl, rfl, by decide, by decide⟩ ⟨Nat.zero_le _, Nat.zero_le _⟩ rfl (Nat.le_of_ble_eq_true rfl) hl.1 rfl dX4_dotNow_43 ?_
    refine z_goto S 54 dX4_dotNow_46 (by decide) ?_
    exact ret _ _ _ dX4_dotNow_54 (by unfold dF; simp)
  · skip
    refine z_aload_n S dX4_dotNow_0 hl 0 rfl rfl ?_
    refine z_aload_n S dX4_dotNow_1 hl 0 rfl rfl ?_
    refine z_get S hG hP.1 zc_X4 5 (by decide) q4_231 rfl rfl dX4_dotNow_2 ?_
    refine z_iload_n S dX4_dotNow_5 hl 1 rfl rfl ?_
    refine z_ialdB S hG hP.2.2.1 (by omega) (by decide) dX4_dotNow_6 ?_
    refine z_aload_n S dX4_dotNow_7 hl 0 rfl rfl ?_
    refine z_get S hG hP.1 zc_X4 1 (by decide) q4_227 rfl rfl dX4_dotNow_8 ?_
    refine z_callVs S hG (c_X4_show l G σ b th m1 m2 (σ.Dt (d)) (σ.tk) (by omega) (by omega)) ok_X4_show hP.1 zc_X4 rfl q5_159 (hP) ⟨rfl, rfl, by decide, by decide⟩ ⟨Nat.zero_le _, Nat.zero_le _⟩ rfl (Nat.le_of_ble_eq_true rfl) hl.1 rfl dX4_dotNow_11 ?_
    refine z_istore_n (lv' := [(3, .int (shw σ (σ.Dt (d)) (σ.tk))), (0, .ref (b 0)), (1, .int (zI (d))), (2, .int (zI (3)))]) S dX4_dotNow_14 hl rfl (by decide) rfl (fun ls hl => ?_)
    refine z_iload_n S dX4_dotNow_15 hl 3 rfl rfl ?_
    refine z_if_ne_T S 28 dX4_dotNow_16 (by decide) (by omega) (by omega) ?_
    refine z_iload_n S dX4_dotNow_28 hl 3 rfl rfl ?_
    refine z_iconst S dX4_dotNow_29 ?_
    refine z_icmp_ne_T S 37 dX4_dotNow_30 (by decide) (by omega) (by omega) (by omega) ?_
    refine z_iload_n S dX4_dotNow_37 hl 3 rfl rfl ?_
    refine z_iconst S dX4_dotNow_38 ?_
    refine z_icmp_ne_T S 49 dX4_dotNow_39 (by decide) (by omega) (by omega) (by omega) ?_
    refine z_aload_n S dX4_dotNow_49 hl 1 rfl rfl ?_
    refine z_iload_n S dX4_dotNow_50 hl 2 rfl rfl ?_
    refine z_callVs S hG (c_X4_flicker l G σ b th m1 m2 (d) (by omega) hdt hT) ok_X4_flicker hP.1 zc_X4 rfl q5_191 (hP) ⟨rfl, rfl, by decide, by decide⟩ ⟨Nat.zero_le _, Nat.zero_le _⟩ rfl (Nat.le_of_ble_eq_true rfl) hl.1 rfl dX4_dotNow_51 ?_
    exact ret _ _ _ dX4_dotNow_54 (by unfold dF; simp)
theorem dX4_ofEntryNow_0 : decode cX4_ofEntryNow 0 = .ok (.iload_n 2, 1) := by decide +kernel
theorem dX4_ofEntryNow_1 : decode cX4_ofEntryNow 1 = .ok (.ifCond .ne 10, 3) := by decide +kernel
theorem dX4_ofEntryNow_4 : decode cX4_ofEntryNow 4 = .ok (.aload_n 0, 1) := by decide +kernel
theorem dX4_ofEntryNow_5 : decode cX4_ofEntryNow 5 = .ok (.getfield 13, 3) := by decide +kernel
theorem dX4_ofEntryNow_8 : decode cX4_ofEntryNow 8 = .ok (.iload_n 1, 1) := by decide +kernel
theorem dX4_ofEntryNow_9 : decode cX4_ofEntryNow 9 = .ok (.iaload, 1) := by decide +kernel
theorem dX4_ofEntryNow_10 : decode cX4_ofEntryNow 10 = .ok (.ireturn, 1) := by decide +kernel
theorem dX4_ofEntryNow_11 : decode cX4_ofEntryNow 11 = .ok (.iload_n 2, 1) := by decide +kernel
theorem dX4_ofEntryNow_12 : decode cX4_ofEntryNow 12 = .ok (.iconst 1, 1) := by decide +kernel
theorem dX4_ofEntryNow_13 : decode cX4_ofEntryNow 13 = .ok (.if_icmp .ne 13, 3) := by decide +kernel
theorem dX4_ofEntryNow_16 : decode cX4_ofEntryNow 16 = .ok (.aload_n 0, 1) := by decide +kernel
theorem dX4_ofEntryNow_17 : decode cX4_ofEntryNow 17 = .ok (.iload_n 1, 1) := by decide +kernel
theorem dX4_ofEntryNow_18 : decode cX4_ofEntryNow 18 = .ok (.aload_n 0, 1) := by decide +kernel
theorem dX4_ofEntryNow_19 : decode cX4_ofEntryNow 19 = .ok (.getfield 108, 3) := by decide +kernel
theorem dX4_ofEntryNow_22 : decode cX4_ofEntryNow 22 = .ok (.invokevirtual 84, 3) := by decide +kernel
theorem dX4_ofEntryNow_25 : decode cX4_ofEntryNow 25 = .ok (.ireturn, 1) := by decide +kernel
theorem dX4_ofEntryNow_26 : decode cX4_ofEntryNow 26 = .ok (.iload_n 2, 1) := by decide +kernel
theorem dX4_ofEntryNow_27 : decode cX4_ofEntryNow 27 = .ok (.iconst 2, 1) := by decide +kernel
theorem dX4_ofEntryNow_28 : decode cX4_ofEntryNow 28 = .ok (.if_icmp .ne 9, 3) := by decide +kernel
theorem dX4_ofEntryNow_31 : decode cX4_ofEntryNow 31 = .ok (.aload_n 0, 1) := by decide +kernel
theorem dX4_ofEntryNow_32 : decode cX4_ofEntryNow 32 = .ok (.iload_n 1, 1) := by decide +kernel
theorem dX4_ofEntryNow_33 : decode cX4_ofEntryNow 33 = .ok (.invokevirtual 51, 3) := by decide +kernel
theorem dX4_ofEntryNow_36 : decode cX4_ofEntryNow 36 = .ok (.ireturn, 1) := by decide +kernel
theorem dX4_ofEntryNow_37 : decode cX4_ofEntryNow 37 = .ok (.iload_n 2, 1) := by decide +kernel
theorem dX4_ofEntryNow_38 : decode cX4_ofEntryNow 38 = .ok (.iconst 3, 1) := by decide +kernel
theorem dX4_ofEntryNow_39 : decode cX4_ofEntryNow 39 = .ok (.if_icmp .ne 17, 3) := by decide +kernel
theorem dX4_ofEntryNow_42 : decode cX4_ofEntryNow 42 = .ok (.aload_n 0, 1) := by decide +kernel
theorem dX4_ofEntryNow_43 : decode cX4_ofEntryNow 43 = .ok (.iload_n 1, 1) := by decide +kernel
theorem dX4_ofEntryNow_44 : decode cX4_ofEntryNow 44 = .ok (.invokevirtual 152, 3) := by decide +kernel
theorem dX4_ofEntryNow_47 : decode cX4_ofEntryNow 47 = .ok (.ifCond .eq 7, 3) := by decide +kernel
theorem dX4_ofEntryNow_50 : decode cX4_ofEntryNow 50 = .ok (.iconst 1, 1) := by decide +kernel
theorem dX4_ofEntryNow_51 : decode cX4_ofEntryNow 51 = .ok (.goto 4, 3) := by decide +kernel
theorem dX4_ofEntryNow_54 : decode cX4_ofEntryNow 54 = .ok (.iconst 0, 1) := by decide +kernel
theorem dX4_ofEntryNow_55 : decode cX4_ofEntryNow 55 = .ok (.ireturn, 1) := by decide +kernel
theorem dX4_ofEntryNow_56 : decode cX4_ofEntryNow 56 = .ok (.iload_n 2, 1) := by decide +kernel
theorem dX4_ofEntryNow_57 : decode cX4_ofEntryNow 57 = .ok (.iconst 4, 1) := by decide +kernel
theorem dX4_ofEntryNow_58 : decode cX4_ofEntryNow 58 = .ok (.if_icmp .ne 9, 3) := by decide +kernel
theorem dX4_ofEntryNow_61 : decode cX4_ofEntryNow 61 = .ok (.aload_n 0, 1) := by decide +kernel
theorem dX4_ofEntryNow_62 : decode cX4_ofEntryNow 62 = .ok (.iload_n 1, 1) := by decide +kernel
theorem dX4_ofEntryNow_63 : decode cX4_ofEntryNow 63 = .ok (.invokevirtual 91, 3) := by decide +kernel
theorem dX4_ofEntryNow_66 : decode cX4_ofEntryNow 66 = .ok (.ireturn, 1) := by decide +kernel
theorem dX4_ofEntryNow_67 : decode cX4_ofEntryNow 67 = .ok (.iconst 0, 1) := by decide +kernel
theorem dX4_ofEntryNow_68 : decode cX4_ofEntryNow 68 = .ok (.istore_n 3, 1) := by decide +kernel
theorem dX4_ofEntryNow_69 : decode cX4_ofEntryNow 69 = .ok (.aload_n 0, 1) := by decide +kernel
theorem dX4_ofEntryNow_70 : decode cX4_ofEntryNow 70 = .ok (.getfield 17, 3) := by decide +kernel
theorem dX4_ofEntryNow_73 : decode cX4_ofEntryNow 73 = .ok (.astore 4, 2) := by decide +kernel
theorem dX4_ofEntryNow_75 : decode cX4_ofEntryNow 75 = .ok (.aload 4, 2) := by decide +kernel
theorem dX4_ofEntryNow_77 : decode cX4_ofEntryNow 77 = .ok (.arraylength, 1) := by decide +kernel
theorem dX4_ofEntryNow_78 : decode cX4_ofEntryNow 78 = .ok (.istore 5, 2) := by decide +kernel
theorem dX4_ofEntryNow_80 : decode cX4_ofEntryNow 80 = .ok (.iconst 0, 1) := by decide +kernel
theorem dX4_ofEntryNow_81 : decode cX4_ofEntryNow 81 = .ok (.istore 6, 2) := by decide +kernel
theorem dX4_ofEntryNow_83 : decode cX4_ofEntryNow 83 = .ok (.iload 6, 2) := by decide +kernel
theorem dX4_ofEntryNow_85 : decode cX4_ofEntryNow 85 = .ok (.iload 5, 2) := by decide +kernel
theorem dX4_ofEntryNow_87 : decode cX4_ofEntryNow 87 = .ok (.if_icmp .ge 30, 3) := by decide +kernel
theorem dX4_ofEntryNow_90 : decode cX4_ofEntryNow 90 = .ok (.aload 4, 2) := by decide +kernel
theorem dX4_ofEntryNow_92 : decode cX4_ofEntryNow 92 = .ok (.iload 6, 2) := by decide +kernel
theorem dX4_ofEntryNow_94 : decode cX4_ofEntryNow 94 = .ok (.iaload, 1) := by decide +kernel
theorem dX4_ofEntryNow_95 : decode cX4_ofEntryNow 95 = .ok (.istore 7, 2) := by decide +kernel
theorem dX4_ofEntryNow_97 : decode cX4_ofEntryNow 97 = .ok (.iload_n 3, 1) := by decide +kernel
theorem dX4_ofEntryNow_98 : decode cX4_ofEntryNow 98 = .ok (.iload 7, 2) := by decide +kernel
theorem dX4_ofEntryNow_100 : decode cX4_ofEntryNow 100 = .ok (.iload_n 1, 1) := by decide +kernel
theorem dX4_ofEntryNow_101 : decode cX4_ofEntryNow 101 = .ok (.if_icmp .ne 7, 3) := by decide +kernel
theorem dX4_ofEntryNow_104 : decode cX4_ofEntryNow 104 = .ok (.iconst 1, 1) := by decide +kernel
theorem dX4_ofEntryNow_105 : decode cX4_ofEntryNow 105 = .ok (.goto 4, 3) := by decide +kernel
theorem dX4_ofEntryNow_108 : decode cX4_ofEntryNow 108 = .ok (.iconst 0, 1) := by decide +kernel
theorem dX4_ofEntryNow_109 : decode cX4_ofEntryNow 109 = .ok (.iadd, 1) := by decide +kernel
theorem dX4_ofEntryNow_110 : decode cX4_ofEntryNow 110 = .ok (.istore_n 3, 1) := by decide +kernel
theorem dX4_ofEntryNow_111 : decode cX4_ofEntryNow 111 = .ok (.iinc 6 1, 3) := by decide +kernel
theorem dX4_ofEntryNow_114 : decode cX4_ofEntryNow 114 = .ok (.goto (-31), 3) := by decide +kernel
theorem dX4_ofEntryNow_117 : decode cX4_ofEntryNow 117 = .ok (.iload_n 3, 1) := by decide +kernel
theorem dX4_ofEntryNow_118 : decode cX4_ofEntryNow 118 = .ok (.ireturn, 1) := by decide +kernel
theorem q5_218 : (Jvm.Cond.methodLink "CyclepaintModel" (152 : Nat) ({ cls := "CyclepaintModel", name := "isStill", desc := "(I)Z" } : Jvm.MethodName)) ∈ lw_g := zg_of (zin5 (List.mem_of_getElem? (i := 218) rfl)) rfl
theorem q5_217 : (Jvm.Cond.code ({ cls := "CyclepaintModel", name := "ofEntryNow", desc := "(II)I" } : Jvm.MethodName) prog_6_method_41_code (8 : Nat) (Option.some Jvm.ClassFile.FieldType.int)) ∈ lw_g := zg_of (zin5 (List.mem_of_getElem? (i := 217) rfl)) rfl
theorem q5_216 : (Jvm.Cond.instanceMethod ({ cls := "CyclepaintModel", name := "ofEntryNow", desc := "(II)I" } : Jvm.MethodName)) ∈ lw_g := zg_of (zin5 (List.mem_of_getElem? (i := 216) rfl)) rfl
theorem qs_37 : Cond.selects "CyclepaintModel" (⟨"CyclepaintModel", "ofEntryNow", "(II)I"⟩ : MethodName) (⟨"CyclepaintModel", "ofEntryNow", "(II)I"⟩ : MethodName) ∈ lw_g := zg_of (zinS (List.mem_of_getElem? (i := 37) rfl)) rfl
theorem ok_X4_ofEntryNow : zOV yX4_ofEntryNow cX4_ofEntryNow 8 ((Option.some Jvm.ClassFile.FieldType.int)) 2 := ⟨⟨q5_217, q1_3, by decide, by decide, by decide +kernel⟩, q5_216, qs_37⟩
set_option maxHeartbeats 4000000 in
set_option maxRecDepth 100000 in
theorem c_X4_ofEntryNow (l : Launch) (G : zG) (σ : St) (b : Nat → Nat) (th m1 m2 : Int32) (e wh : Int) (he : 0 ≤ e ∧ e < 16) (hw : 0 ≤ wh ∧ wh ≤ 5) (hdt : ∀ d : Int, 0 ≤ d → d < 32 → 0 ≤ σ.Dt d ∧ σ.Dt d < 16) (hT : 0 ≤ σ.tk ∧ σ.tk ≤ 99999) : Met l yX4_ofEntryNow (wq yX4_ofEntryNow cX4_ofEntryNow 8 ((Option.some Jvm.ClassFile.FieldType.int))) (rmR 7 157) (va_Pc [.ref (b 0), .int (zI (e)), .int (zI (wh))] (zK G (hMod G σ b th m1 m2))) (zQ (some (.int ((eM σ e wh))))) 0 0 zF := by
  refine z_enterI (by decide +kernel) (Nat.le_of_ble_eq_true rfl) ?_
  intro p env s m below meth cod Q S hG hP ret ls hl
  have hl : lv_has ls 8 [(0, .ref (b 0)), (1, .int (zI (e))), (2, .int (zI (wh)))] := hl
  have hO := hP.2.2.2.2.2.2.2.2.2
  have hrn := hO.1
  rcases (show wh = 0 ∨ wh = 1 ∨ wh = 2 ∨ wh = 3 ∨ wh = 4 ∨ wh = 5 by omega) with rfl | rfl | rfl | rfl | rfl | rfl
  · skip
    refine z_iload_n S dX4_ofEntryNow_0 hl 2 rfl rfl ?_
    refine z_if_ne_F S 11 dX4_ofEntryNow_1 (by decide) (by omega) (by omega) ?_
    refine z_aload_n S dX4_ofEntryNow_4 hl 0 rfl rfl ?_
    refine z_get S hG hP.1 zc_X4 4 (by decide) q4_230 rfl rfl dX4_ofEntryNow_5 ?_
    refine z_iload_n S dX4_ofEntryNow_8 hl 1 rfl rfl ?_
    refine z_iald S hG hP.2.1 (by omega) (by decide) dX4_ofEntryNow_9 ?_
    exact ret _ _ _ dX4_ofEntryNow_10 (by unfold eM; simp)
  · skip
    refine z_iload_n S dX4_ofEntryNow_0 hl 2 rfl rfl ?_
    refine z_if_ne_T S 11 dX4_ofEntryNow_1 (by decide) (by omega) (by omega) ?_
    refine z_iload_n S dX4_ofEntryNow_11 hl 2 rfl rfl ?_
    refine z_iconst S dX4_ofEntryNow_12 ?_
    refine z_icmp_ne_F S 26 dX4_ofEntryNow_13 (by decide) (by omega) (by omega) (by omega) ?_
    refine z_aload_n S dX4_ofEntryNow_16 hl 0 rfl rfl ?_
    refine z_iload_n S dX4_ofEntryNow_17 hl 1 rfl rfl ?_
    refine z_aload_n S dX4_ofEntryNow_18 hl 0 rfl rfl ?_
    refine z_get S hG hP.1 zc_X4 1 (by decide) q4_227 rfl rfl dX4_ofEntryNow_19 ?_
    refine z_callVs S hG (c_X4_show l G σ b th m1 m2 (e) (σ.tk) (by omega) (by omega)) ok_X4_show hP.1 zc_X4 rfl q5_159 (hP) ⟨rfl, rfl, by decide, by decide⟩ ⟨Nat.zero_le _, Nat.zero_le _⟩ rfl (Nat.le_of_ble_eq_true rfl) hl.1 rfl dX4_ofEntryNow_22 ?_
    exact ret _ _ _ dX4_ofEntryNow_25 (by unfold eM; simp)
  · skip
    refine z_iload_n S dX4_ofEntryNow_0 hl 2 rfl rfl ?_
    refine z_if_ne_T S 11 dX4_ofEntryNow_1 (by decide) (by omega) (by omega) ?_
    refine z_iload_n S dX4_ofEntryNow_11 hl 2 rfl rfl ?_
    refine z_iconst S dX4_ofEntryNow_12 ?_
    refine z_icmp_ne_T S 26 dX4_ofEntryNow_13 (by decide) (by omega) (by omega) (by omega) ?_
    refine z_iload_n S dX4_ofEntryNow_26 hl 2 rfl rfl ?_
    refine z_iconst S dX4_ofEntryNow_27 ?_
    refine z_icmp_ne_F S 37 dX4_ofEntryNow_28 (by decide) (by omega) (by omega) (by omega) ?_
    refine z_aload_n S dX4_ofEntryNow_31 hl 0 rfl rfl ?_
    refine z_iload_n S dX4_ofEntryNow_32 hl 1 rfl rfl ?_
    refine z_callVs S hG (c_X4_rangeOf l G σ b th m1 m2 (e) (by omega)) ok_X4_rangeOf hP.1 zc_X4 rfl q5_48 (hP) ⟨rfl, rfl, by decide, by decide⟩ ⟨Nat.zero_le _, Nat.zero_le _⟩ rfl (Nat.le_of_ble_eq_true rfl) hl.1 rfl dX4_ofEntryNow_33 ?_
    exact ret _ _ _ dX4_ofEntryNow_36 (by unfold eM; simp)
  · skip
    refine z_iload_n S dX4_ofEntryNow_0 hl 2 rfl rfl ?_
    refine z_if_ne_T S 11 dX4_ofEntryNow_1 (by decide) (by omega) (by omega) ?_
    refine z_iload_n S dX4_ofEntryNow_11 hl 2 rfl rfl ?_
    refine z_iconst S dX4_ofEntryNow_12 ?_
    refine z_icmp_ne_T S 26 dX4_ofEntryNow_13 (by decide) (by omega) (by omega) (by omega) ?_
    refine z_iload_n S dX4_ofEntryNow_26 hl 2 rfl rfl ?_
    refine z_iconst S dX4_ofEntryNow_27 ?_
    refine z_icmp_ne_T S 37 dX4_ofEntryNow_28 (by decide) (by omega) (by omega) (by omega) ?_
    refine z_iload_n S dX4_ofEntryNow_37 hl 2 rfl rfl ?_
    refine z_iconst S dX4_ofEntryNow_38 ?_
    refine z_icmp_ne_F S 56 dX4_ofEntryNow_39 (by decide) (by omega) (by omega) (by omega) ?_
    refine z_aload_n S dX4_ofEntryNow_42 hl 0 rfl rfl ?_
    refine z_iload_n S dX4_ofEntryNow_43 hl 1 rfl rfl ?_
    refine z_callVs S hG (c_X4_isStill l G σ b th m1 m2 (e) (by omega)) ok_X4_isStill hP.1 zc_X4 rfl q5_218 (hP) ⟨rfl, rfl, by decide, by decide⟩ ⟨Nat.zero_le _, Nat.zero_le _⟩ rfl (Nat.le_of_ble_eq_true rfl) hl.1 rfl dX4_ofEntryNow_44 ?_
    refine z_bif_eq S 54 dX4_ofEntryNow_47 (by decide) (fun c_47 => ?_) (fun c_47 => ?_)
    · skip
      refine z_iconst S dX4_ofEntryNow_54 ?_
      exact ret _ _ _ dX4_ofEntryNow_55 (by unfold eM; simp [c_47]; rfl)
    · skip
      refine z_iconst S dX4_ofEntryNow_50 ?_
      refine z_goto S 55 dX4_ofEntryNow_51 (by decide) ?_
      exact ret _ _ _ dX4_ofEntryNow_55 (by unfold eM; simp [c_47]; rfl)
  · skip
    refine z_iload_n S dX4_ofEntryNow_0 hl 2 rfl rfl ?_
    refine z_if_ne_T S 11 dX4_ofEntryNow_1 (by decide) (by omega) (by omega) ?_
    refine z_iload_n S dX4_ofEntryNow_11 hl 2 rfl rfl ?_
    refine z_iconst S dX4_ofEntryNow_12 ?_
    refine z_icmp_ne_T S 26 dX4_ofEntryNow_13 (by decide) (by omega) (by omega) (by omega) ?_
    refine z_iload_n S dX4_ofEntryNow_26 hl 2 rfl rfl ?_
    refine z_iconst S dX4_ofEntryNow_27 ?_
    refine z_icmp_ne_T S 37 dX4_ofEntryNow_28 (by decide) (by omega) (by omega) (by omega) ?_
    refine z_iload_n S dX4_ofEntryNow_37 hl 2 rfl rfl ?_
    refine z_iconst S dX4_ofEntryNow_38 ?_
    refine z_icmp_ne_T S 56 dX4_ofEntryNow_39 (by decide) (by omega) (by omega) (by omega) ?_
    refine z_iload_n S dX4_ofEntryNow_56 hl 2 rfl rfl ?_
    refine z_iconst S dX4_ofEntryNow_57 ?_
    refine z_icmp_ne_F S 67 dX4_ofEntryNow_58 (by decide) (by omega) (by omega) (by omega) ?_
    refine z_aload_n S dX4_ofEntryNow_61 hl 0 rfl rfl ?_
    refine z_iload_n S dX4_ofEntryNow_62 hl 1 rfl rfl ?_
    refine z_callVs S hG (c_X4_twins l G σ b th m1 m2 (e) (by omega)) ok_X4_twins hP.1 zc_X4 rfl q5_141 (hP) ⟨rfl, rfl, by decide, by decide⟩ ⟨Nat.zero_le _, Nat.zero_le _⟩ rfl (Nat.le_of_ble_eq_true rfl) hl.1 rfl dX4_ofEntryNow_63 ?_
    exact ret _ _ _ dX4_ofEntryNow_66 (by unfold eM; simp)
  · skip
    refine z_iload_n S dX4_ofEntryNow_0 hl 2 rfl rfl ?_
    refine z_if_ne_T S 11 dX4_ofEntryNow_1 (by decide) (by omega) (by omega) ?_
    refine z_iload_n S dX4_ofEntryNow_11 hl 2 rfl rfl ?_
    refine z_iconst S dX4_ofEntryNow_12 ?_
    refine z_icmp_ne_T S 26 dX4_ofEntryNow_13 (by decide) (by omega) (by omega) (by omega) ?_
    refine z_iload_n S dX4_ofEntryNow_26 hl 2 rfl rfl ?_
    refine z_iconst S dX4_ofEntryNow_27 ?_
    refine z_icmp_ne_T S 37 dX4_ofEntryNow_28 (by decide) (by omega) (by omega) (by omega) ?_
    refine z_iload_n S dX4_ofEntryNow_37 hl 2 rfl rfl ?_
    refine z_iconst S dX4_ofEntryNow_38 ?_
    refine z_icmp_ne_T S 56 dX4_ofEntryNow_39 (by decide) (by omega) (by omega) (by omega) ?_
    refine z_iload_n S dX4_ofEntryNow_56 hl 2 rfl rfl ?_
    refine z_iconst S dX4_ofEntryNow_57 ?_
    refine z_icmp_ne_T S 67 dX4_ofEntryNow_58 (by decide) (by omega) (by omega) (by omega) ?_
    refine z_iconst S dX4_ofEntryNow_67 ?_
    refine z_istore_n (lv' := [(3, .int (zI (0))), (0, .ref (b 0)), (1, .int (zI (e))), (2, .int (zI (5)))]) S dX4_ofEntryNow_68 hl rfl (by decide) rfl (fun ls hl => ?_)
    refine z_aload_n S dX4_ofEntryNow_69 hl 1 rfl rfl ?_
    refine z_get S hG hP.1 zc_X4 5 (by decide) q4_231 rfl rfl dX4_ofEntryNow_70 ?_
    refine z_astore (lv' := [(4, .ref (b 2)), (3, .int (zI (0))), (0, .ref (b 0)), (1, .int (zI (e))), (2, .int (zI (5)))]) S dX4_ofEntryNow_73 hl (by decide) rfl (fun ls hl => ?_)
    refine z_aload S dX4_ofEntryNow_75 hl 0 rfl ?_
    refine z_alenI S hG hP.2.2.1 dX4_ofEntryNow_77 ?_
    refine z_istore (lv' := [(5, .int (zI (32))), (4, .ref (b 2)), (3, .int (zI (0))), (0, .ref (b 0)), (1, .int (zI (e))), (2, .int (zI (5)))]) S dX4_ofEntryNow_78 hl (by decide) rfl (fun ls hl => ?_)
    refine z_iconst S dX4_ofEntryNow_80 ?_
    refine z_istore (lv' := [(6, .int (zI (0))), (5, .int (zI (32))), (4, .ref (b 2)), (3, .int (zI (0))), (0, .ref (b 0)), (1, .int (zI (e))), (2, .int (zI (5)))]) S dX4_ofEntryNow_81 hl (by decide) rfl (fun ls hl => ?_)
    have loop_83 : ∀ (nn : Nat) (k : Int) (ch : Int), (0 ≤ k ∧ k ≤ 32) → (ch = cntI (fun d => decide (σ.Dt d = e)) k) → ((32 - k).toNat) < nn → ∀ ls, lv_has ls 8 [(6, .int (zI (k))), (5, .int (zI (32))), (4, .ref (b 2)), (3, .int (zI (ch))), (0, .ref (b 0)), (1, .int (zI (e))), (2, .int (zI (5)))] → W p l env (rmR 7 157) s m ([.ref (b 0), .int (zI (e)), .int (zI (5))] : List Value).toArray below meth cod s.heap [] 0 0 Q (F0 m 83 ls []) := by
      intro nn
      induction nn with
      | zero => intro _ _ _ _ h; exact absurd h (Nat.not_lt_zero _)
      | succ nn ih_83 =>
        intro k ch hk hch hm_83 ls hl
        refine z_iload S dX4_ofEntryNow_83 hl 0 rfl ?_
        refine z_iload S dX4_ofEntryNow_85 hl 1 rfl ?_
        refine z_icmp_ge S 117 dX4_ofEntryNow_87 (by decide) (by omega) (by omega) (fun c_87 => ?_) (fun c_87 => ?_)
        · skip
          refine z_iload_n S dX4_ofEntryNow_117 hl 3 rfl rfl ?_
          exact ret _ _ _ dX4_ofEntryNow_118 (by rw [hch, show k = 32 by omega]; unfold eM; simp; rfl)
        · skip
          refine z_aload S dX4_ofEntryNow_90 hl 2 rfl ?_
          refine z_iload S dX4_ofEntryNow_92 hl 0 rfl ?_
          refine z_ialdB S hG hP.2.2.1 (by omega) (by decide) dX4_ofEntryNow_94 ?_
          refine z_istore (lv' := [(7, .int (zI (σ.Dt (k)))), (6, .int (zI (k))), (5, .int (zI (32))), (4, .ref (b 2)), (3, .int (zI (ch))), (0, .ref (b 0)), (1, .int (zI (e))), (2, .int (zI (5)))]) S dX4_ofEntryNow_95 hl (by decide) rfl (fun ls hl => ?_)
          refine z_iload_n S dX4_ofEntryNow_97 hl 4 rfl rfl ?_
          refine z_iload S dX4_ofEntryNow_98 hl 0 rfl ?_
          refine z_iload_n S dX4_ofEntryNow_100 hl 6 rfl rfl ?_
          have hdt0 := hdt k hk.1 (by omega)
          refine z_icmp_ne S 108 dX4_ofEntryNow_101 (by decide) (by omega) (by omega) (fun c_101 => ?_) (fun c_101 => ?_)
          · skip
            refine z_iconst S dX4_ofEntryNow_108 ?_
            refine z_iadd S dX4_ofEntryNow_109 ?_
            refine z_istore_n (lv' := [(3, .int (zI ((ch) + (0)))), (7, .int (zI (σ.Dt (k)))), (6, .int (zI (k))), (5, .int (zI (32))), (4, .ref (b 2)), (0, .ref (b 0)), (1, .int (zI (e))), (2, .int (zI (5)))]) S dX4_ofEntryNow_110 hl rfl (by decide) rfl (fun ls hl => ?_)
            refine z_iinc (lv' := [(6, .int (zI (k + 1))), (3, .int (zI ((ch) + (0)))), (7, .int (zI (σ.Dt (k)))), (5, .int (zI (32))), (4, .ref (b 2)), (0, .ref (b 0)), (1, .int (zI (e))), (2, .int (zI (5)))]) S dX4_ofEntryNow_111 hl 2 rfl (by decide) rfl (fun ls hl => ?_)
            refine z_goto S 83 dX4_ofEntryNow_114 (by decide) ?_
            exact ih_83 (k + 1) ((ch) + (0)) (by omega) (by rw [cntI_f hk.1 (by simpa using c_101), ← hch]; omega) (by omega) ls (lv_sub hl [0, 3, 4, 1, 5, 6, 7] rfl)
          · skip
            refine z_iconst S dX4_ofEntryNow_104 ?_
            refine z_goto S 109 dX4_ofEntryNow_105 (by decide) ?_
            refine z_iadd S dX4_ofEntryNow_109 ?_
            refine z_istore_n (lv' := [(3, .int (zI ((ch) + (1)))), (7, .int (zI (σ.Dt (k)))), (6, .int (zI (k))), (5, .int (zI (32))), (4, .ref (b 2)), (0, .ref (b 0)), (1, .int (zI (e))), (2, .int (zI (5)))]) S dX4_ofEntryNow_110 hl rfl (by decide) rfl (fun ls hl => ?_)
            refine z_iinc (lv' := [(6, .int (zI (k + 1))), (3, .int (zI ((ch) + (1)))), (7, .int (zI (σ.Dt (k)))), (5, .int (zI (32))), (4, .ref (b 2)), (0, .ref (b 0)), (1, .int (zI (e))), (2, .int (zI (5)))]) S dX4_ofEntryNow_111 hl 2 rfl (by decide) rfl (fun ls hl => ?_)
            refine z_goto S 83 dX4_ofEntryNow_114 (by decide) ?_
            exact ih_83 (k + 1) ((ch) + (1)) (by omega) (by rw [cntI_t hk.1 (by simp; omega), ← hch]) (by omega) ls (lv_sub hl [0, 3, 4, 1, 5, 6, 7] rfl)
    exact loop_83 _ (0) (0) (by omega) (rfl) (Nat.lt_succ_self _) ls (lv_sub hl [0, 1, 2, 3, 4, 5, 6] rfl)
theorem allI_s {f : Int → Bool} {k : Int} (h : 0 ≤ k) : allI f (k + 1) = (allI f k && f k) := by
  unfold allI
  rw [show (k + 1).toNat = k.toNat + 1 by omega, allF, Int.toNat_of_nonneg h]
theorem sk_no {σ : St} {n w q : Int} {v : Bool} (hv : v = allI (skB σ n w) q) (h : v = false) (h0 : 0 ≤ q) (h1 : q ≤ 32) : v = sk σ n w := by
  rw [h]
  cases r : sk σ n w
  · rfl
  · exfalso
    have := (allI_iff (f := skB σ n w) (k := q)).mpr (fun t t0 t1 => allI_iff.mp r t t0 (by omega))
    rw [← hv, h] at this
    exact absurd this (by decide)
theorem dX4_whenNow_0 : decode cX4_whenNow 0 = .ok (.aload_n 0, 1) := by decide +kernel
theorem dX4_whenNow_1 : decode cX4_whenNow 1 = .ok (.getfield 27, 3) := by decide +kernel
theorem dX4_whenNow_4 : decode cX4_whenNow 4 = .ok (.iload_n 1, 1) := by decide +kernel
theorem dX4_whenNow_5 : decode cX4_whenNow 5 = .ok (.invokevirtual 46, 3) := by decide +kernel
theorem dX4_whenNow_8 : decode cX4_whenNow 8 = .ok (.checkcast 50, 3) := by decide +kernel
theorem dX4_whenNow_11 : decode cX4_whenNow 11 = .ok (.astore_n 2, 1) := by decide +kernel
theorem dX4_whenNow_12 : decode cX4_whenNow 12 = .ok (.iconst 0, 1) := by decide +kernel
theorem dX4_whenNow_13 : decode cX4_whenNow 13 = .ok (.istore_n 3, 1) := by decide +kernel
theorem dX4_whenNow_14 : decode cX4_whenNow 14 = .ok (.iload_n 3, 1) := by decide +kernel
theorem dX4_whenNow_15 : decode cX4_whenNow 15 = .ok (.sipush 400, 3) := by decide +kernel
theorem dX4_whenNow_18 : decode cX4_whenNow 18 = .ok (.if_icmp .gt 71, 3) := by decide +kernel
theorem dX4_whenNow_21 : decode cX4_whenNow 21 = .ok (.iconst 1, 1) := by decide +kernel
theorem dX4_whenNow_22 : decode cX4_whenNow 22 = .ok (.istore 4, 2) := by decide +kernel
theorem dX4_whenNow_24 : decode cX4_whenNow 24 = .ok (.iconst 0, 1) := by decide +kernel
theorem dX4_whenNow_25 : decode cX4_whenNow 25 = .ok (.istore 5, 2) := by decide +kernel
theorem dX4_whenNow_27 : decode cX4_whenNow 27 = .ok (.iload 5, 2) := by decide +kernel
theorem dX4_whenNow_29 : decode cX4_whenNow 29 = .ok (.aload_n 2, 1) := by decide +kernel
theorem dX4_whenNow_30 : decode cX4_whenNow 30 = .ok (.arraylength, 1) := by decide +kernel
theorem dX4_whenNow_31 : decode cX4_whenNow 31 = .ok (.if_icmp .ge 45, 3) := by decide +kernel
theorem dX4_whenNow_34 : decode cX4_whenNow 34 = .ok (.iload 4, 2) := by decide +kernel
theorem dX4_whenNow_36 : decode cX4_whenNow 36 = .ok (.ifCond .eq 40, 3) := by decide +kernel
theorem dX4_whenNow_39 : decode cX4_whenNow 39 = .ok (.aload_n 0, 1) := by decide +kernel
theorem dX4_whenNow_40 : decode cX4_whenNow 40 = .ok (.aload_n 0, 1) := by decide +kernel
theorem dX4_whenNow_41 : decode cX4_whenNow 41 = .ok (.getfield 17, 3) := by decide +kernel
theorem dX4_whenNow_44 : decode cX4_whenNow 44 = .ok (.iload 5, 2) := by decide +kernel
theorem dX4_whenNow_46 : decode cX4_whenNow 46 = .ok (.iaload, 1) := by decide +kernel
theorem dX4_whenNow_47 : decode cX4_whenNow 47 = .ok (.aload_n 0, 1) := by decide +kernel
theorem dX4_whenNow_48 : decode cX4_whenNow 48 = .ok (.getfield 108, 3) := by decide +kernel
theorem dX4_whenNow_51 : decode cX4_whenNow 51 = .ok (.iload_n 3, 1) := by decide +kernel
theorem dX4_whenNow_52 : decode cX4_whenNow 52 = .ok (.iadd, 1) := by decide +kernel
theorem dX4_whenNow_53 : decode cX4_whenNow 53 = .ok (.invokevirtual 84, 3) := by decide +kernel
theorem dX4_whenNow_56 : decode cX4_whenNow 56 = .ok (.aload_n 2, 1) := by decide +kernel
theorem dX4_whenNow_57 : decode cX4_whenNow 57 = .ok (.iload 5, 2) := by decide +kernel
theorem dX4_whenNow_59 : decode cX4_whenNow 59 = .ok (.iaload, 1) := by decide +kernel
theorem dX4_whenNow_60 : decode cX4_whenNow 60 = .ok (.if_icmp .ne 7, 3) := by decide +kernel
theorem dX4_whenNow_63 : decode cX4_whenNow 63 = .ok (.iconst 1, 1) := by decide +kernel
theorem dX4_whenNow_64 : decode cX4_whenNow 64 = .ok (.goto 4, 3) := by decide +kernel
theorem dX4_whenNow_67 : decode cX4_whenNow 67 = .ok (.iconst 0, 1) := by decide +kernel
theorem dX4_whenNow_68 : decode cX4_whenNow 68 = .ok (.istore 4, 2) := by decide +kernel
theorem dX4_whenNow_70 : decode cX4_whenNow 70 = .ok (.iinc 5 1, 3) := by decide +kernel
theorem dX4_whenNow_73 : decode cX4_whenNow 73 = .ok (.goto (-46), 3) := by decide +kernel
theorem dX4_whenNow_76 : decode cX4_whenNow 76 = .ok (.iload 4, 2) := by decide +kernel
theorem dX4_whenNow_78 : decode cX4_whenNow 78 = .ok (.ifCond .eq 5, 3) := by decide +kernel
theorem dX4_whenNow_81 : decode cX4_whenNow 81 = .ok (.iload_n 3, 1) := by decide +kernel
theorem dX4_whenNow_82 : decode cX4_whenNow 82 = .ok (.ireturn, 1) := by decide +kernel
theorem dX4_whenNow_83 : decode cX4_whenNow 83 = .ok (.iinc 3 1, 3) := by decide +kernel
theorem dX4_whenNow_86 : decode cX4_whenNow 86 = .ok (.goto (-72), 3) := by decide +kernel
theorem dX4_whenNow_89 : decode cX4_whenNow 89 = .ok (.iconst (-1), 1) := by decide +kernel
theorem dX4_whenNow_90 : decode cX4_whenNow 90 = .ok (.ireturn, 1) := by decide +kernel
theorem q4_233 : (Jvm.Cond.fieldLink "CyclepaintModel" (27 : Nat) "CyclepaintModel" "kept" "Ljava/util/ArrayList;") ∈ lw_g := zg_of (zin4 (List.mem_of_getElem? (i := 233) rfl)) rfl
theorem q6_117 : (Jvm.Cond.code ({ cls := "CyclepaintModel", name := "whenNow", desc := "(I)I" } : Jvm.MethodName) prog_6_method_57_code (6 : Nat) (Option.some Jvm.ClassFile.FieldType.int)) ∈ lw_g := zg_of (zin6 (List.mem_of_getElem? (i := 117) rfl)) rfl
theorem q6_116 : (Jvm.Cond.instanceMethod ({ cls := "CyclepaintModel", name := "whenNow", desc := "(I)I" } : Jvm.MethodName)) ∈ lw_g := zg_of (zin6 (List.mem_of_getElem? (i := 116) rfl)) rfl
theorem qs_49 : Cond.selects "CyclepaintModel" (⟨"CyclepaintModel", "whenNow", "(I)I"⟩ : MethodName) (⟨"CyclepaintModel", "whenNow", "(I)I"⟩ : MethodName) ∈ lw_g := zg_of (zinS (List.mem_of_getElem? (i := 49) rfl)) rfl
theorem ok_X4_whenNow : zOV yX4_whenNow cX4_whenNow 6 ((Option.some Jvm.ClassFile.FieldType.int)) 1 := ⟨⟨q6_117, q1_3, by decide, by decide, by decide +kernel⟩, q6_116, qs_49⟩
set_option maxHeartbeats 4000000 in
set_option maxRecDepth 100000 in
theorem c_X4_whenNow (l : Launch) (G : zG) (σ : St) (b : Nat → Nat) (th m1 m2 : Int32) (n : Int) (hn : 0 ≤ n ∧ n < σ.kn) (hkn : σ.kn ≤ 5) (hdt : ∀ d : Int, 0 ≤ d → d < 32 → 0 ≤ σ.Dt d ∧ σ.Dt d < 16) (hT : 0 ≤ σ.tk ∧ σ.tk ≤ 99999) : Met l yX4_whenNow (wq yX4_whenNow cX4_whenNow 6 ((Option.some Jvm.ClassFile.FieldType.int))) (rmR 5 110) (va_Pc [.ref (b 0), .int (zI (n))] (zK G (hMod G σ b th m1 m2))) (zQ (some (.int ((zI (whn σ n)))))) 0 0 zF := by
  refine z_enterI (by decide +kernel) (Nat.le_of_ble_eq_true rfl) ?_
  intro p env s m below meth cod Q S hG hP ret ls hl
  have hl : lv_has ls 6 [(0, .ref (b 0)), (1, .int (zI (n)))] := hl
  refine z_aload_n S dX4_whenNow_0 hl 0 rfl rfl ?_
  refine z_get S hG hP.1 zc_X4 7 (by decide) q4_233 rfl rfl dX4_whenNow_1 ?_
  refine z_iload_n S dX4_whenNow_4 hl 1 rfl rfl ?_
  refine z_callVs S hG (c_alGet l G (b 4) (b 6) m2 σ.kn (elK σ b) (n) (b (16 + Int.toNat (n))) (if_pos (by omega)) (by omega) (by omega)) ok_Jx4a65c_get_915e3 hP.2.2.2.2.1 zc_Jx4a65c rfl q5_52 (⟨hP.2.2.2.2.1, hP.2.2.2.2.2.2.1 (by omega)⟩) ⟨rfl, rfl, by decide, by decide⟩ ⟨Nat.zero_le _, Nat.zero_le _⟩ rfl (Nat.le_of_ble_eq_true rfl) hl.1 rfl dX4_whenNow_5 ?_
  refine z_castI S hG (hP.2.2.2.2.2.2.2.2.1 (n) (by omega) (by omega)) q5_64 dX4_whenNow_8 ?_
  refine z_astore_n (lv' := [(2, .ref (b (16 + Int.toNat (n)))), (0, .ref (b 0)), (1, .int (zI (n)))]) S dX4_whenNow_11 hl rfl (by decide) rfl (fun ls hl => ?_)
  refine z_iconst S dX4_whenNow_12 ?_
  refine z_istore_n (lv' := [(3, .int (zI (0))), (2, .ref (b (16 + Int.toNat (n)))), (0, .ref (b 0)), (1, .int (zI (n)))]) S dX4_whenNow_13 hl rfl (by decide) rfl (fun ls hl => ?_)
  have loop_14 : ∀ (nn : Nat) (k : Int), (0 ≤ k ∧ k ≤ 401) → (∀ t : Int, 0 ≤ t → t < k → (fun t => sk σ n (σ.tk + t)) t = false) → ((401 - k).toNat) < nn → ∀ ls, lv_has ls 6 [(3, .int (zI (k))), (2, .ref (b (16 + Int.toNat (n)))), (0, .ref (b 0)), (1, .int (zI (n)))] → W p l env (rmR 5 110) s m ([.ref (b 0), .int (zI (n))] : List Value).toArray below meth cod s.heap [] 0 0 Q (F0 m 14 ls []) := by
    intro nn
    induction nn with
    | zero => intro _ _ _ h; exact absurd h (Nat.not_lt_zero _)
    | succ nn ih_14 =>
      intro k hk hI hm_14 ls hl
      refine z_iload_n S dX4_whenNow_14 hl 0 rfl rfl ?_
      refine z_sipush S dX4_whenNow_15 rfl ?_
      refine z_icmp_gt S 89 dX4_whenNow_18 (by decide) (by omega) (by omega) (fun c_18 => ?_) (fun c_18 => ?_)
      · skip
        refine z_iconst S dX4_whenNow_89 ?_
        exact ret _ _ _ dX4_whenNow_90 (by unfold whn; rw [fstI_none (f := fun t => sk σ n (σ.tk + t)) (fun t h0 h1 => hI t h0 (by omega))])
      · skip
        refine z_iconst S dX4_whenNow_21 ?_
        refine z_istore (lv' := [(4, .int (zI (1))), (3, .int (zI (k))), (2, .ref (b (16 + Int.toNat (n)))), (0, .ref (b 0)), (1, .int (zI (n)))]) S dX4_whenNow_22 hl (by decide) rfl (fun ls hl => ?_)
        refine z_iconst S dX4_whenNow_24 ?_
        refine z_istore (lv' := [(5, .int (zI (0))), (4, .int (zI (1))), (3, .int (zI (k))), (2, .ref (b (16 + Int.toNat (n)))), (0, .ref (b 0)), (1, .int (zI (n)))]) S dX4_whenNow_25 hl (by decide) rfl (fun ls hl => ?_)
        have loop_27 : ∀ (nn : Nat) (q : Int) (v : Bool), (0 ≤ q ∧ q ≤ 32) → (v = allI (skB σ n (σ.tk + k)) q) → ((32 - q).toNat) < nn → ∀ ls, lv_has ls 6 [(5, .int (zI (q))), (4, .int (bI (v))), (3, .int (zI (k))), (2, .ref (b (16 + Int.toNat (n)))), (0, .ref (b 0)), (1, .int (zI (n)))] → W p l env (rmR 5 110) s m ([.ref (b 0), .int (zI (n))] : List Value).toArray below meth cod s.heap [] 0 0 Q (F0 m 27 ls []) := by
          intro nn
          induction nn with
          | zero => intro _ _ _ _ h; exact absurd h (Nat.not_lt_zero _)
          | succ nn ih_27 =>
            intro q v hq hv hm_27 ls hl
            refine z_iload S dX4_whenNow_27 hl 0 rfl ?_
            refine z_aload_n S dX4_whenNow_29 hl 3 rfl rfl ?_
            refine z_alenI S hG (hP.2.2.2.2.2.2.2.2.1 (n) (by omega) (by omega)) dX4_whenNow_30 ?_
            refine z_icmp_ge S 76 dX4_whenNow_31 (by decide) (by omega) (by omega) (fun c_31 => ?_) (fun c_31 => ?_)
            · skip
              have hsk : v = sk σ n (σ.tk + k) := by first | (rw [hv, show q = 32 by omega]; rfl) | exact sk_no hv c_36 (by omega) (by omega)
              refine z_iload S dX4_whenNow_76 hl 1 rfl ?_
              refine z_bif_eq S 83 dX4_whenNow_78 (by decide) (fun c_78 => ?_) (fun c_78 => ?_)
              · skip
                refine z_iinc (lv' := [(3, .int (zI (k + 1))), (5, .int (zI (q))), (4, .int (bI (v))), (2, .ref (b (16 + Int.toNat (n)))), (0, .ref (b 0)), (1, .int (zI (n)))]) S dX4_whenNow_83 hl 2 rfl (by decide) rfl (fun ls hl => ?_)
                refine z_goto S 14 dX4_whenNow_86 (by decide) ?_
                exact ih_14 (k + 1) (by omega) (lt_stp hI (hsk.symm.trans c_78)) (by omega) ls (lv_sub hl [0, 3, 4, 5] rfl)
              · skip
                refine z_iload_n S dX4_whenNow_81 hl 2 rfl rfl ?_
                exact ret _ _ _ dX4_whenNow_82 (by unfold whn; rw [fstI_some (f := fun t => sk σ n (σ.tk + t)) hk.1 (by omega) hI (hsk.symm.trans c_78)])
            · skip
              refine z_iload S dX4_whenNow_34 hl 1 rfl ?_
              refine z_bif_eq S 76 dX4_whenNow_36 (by decide) (fun c_36 => ?_) (fun c_36 => ?_)
              · skip
                have hsk : v = sk σ n (σ.tk + k) := by first | (rw [hv, show q = 32 by omega]; rfl) | exact sk_no hv c_36 (by omega) (by omega)
                refine z_iload S dX4_whenNow_76 hl 1 rfl ?_
                refine z_bif_eq S 83 dX4_whenNow_78 (by decide) (fun c_78 => ?_) (fun c_78 => ?_)
                · skip
                  refine z_iinc (lv' := [(3, .int (zI (k + 1))), (5, .int (zI (q))), (4, .int (bI (v))), (2, .ref (b (16 + Int.toNat (n)))), (0, .ref (b 0)), (1, .int (zI (n)))]) S dX4_whenNow_83 hl 2 rfl (by decide) rfl (fun ls hl => ?_)
                  refine z_goto S 14 dX4_whenNow_86 (by decide) ?_
                  exact ih_14 (k + 1) (by omega) (lt_stp hI (hsk.symm.trans c_78)) (by omega) ls (lv_sub hl [0, 3, 4, 5] rfl)
                · skip
                  refine z_iload_n S dX4_whenNow_81 hl 2 rfl rfl ?_
                  exact ret _ _ _ dX4_whenNow_82 (by unfold whn; rw [fstI_some (f := fun t => sk σ n (σ.tk + t)) hk.1 (by omega) hI (hsk.symm.trans c_78)])
              · skip
                have hdt0 := hdt q hq.1 (by omega)
                refine z_aload_n S dX4_whenNow_39 hl 4 rfl rfl ?_
                refine z_aload_n S dX4_whenNow_40 hl 4 rfl rfl ?_
                refine z_get S hG hP.1 zc_X4 5 (by decide) q4_231 rfl rfl dX4_whenNow_41 ?_
                refine z_iload S dX4_whenNow_44 hl 0 rfl ?_
                refine z_ialdB S hG hP.2.2.1 (by omega) (by decide) dX4_whenNow_46 ?_
                refine z_aload_n S dX4_whenNow_47 hl 4 rfl rfl ?_
                refine z_get S hG hP.1 zc_X4 1 (by decide) q4_227 rfl rfl dX4_whenNow_48 ?_
                refine z_iload_n S dX4_whenNow_51 hl 2 rfl rfl ?_
                refine z_iadd S dX4_whenNow_52 ?_
                refine z_callVs S hG (c_X4_show l G σ b th m1 m2 (σ.Dt (q)) ((σ.tk) + (k)) (by omega) (by omega)) ok_X4_show hP.1 zc_X4 rfl q5_159 (hP) ⟨rfl, rfl, by decide, by decide⟩ ⟨Nat.zero_le _, Nat.zero_le _⟩ rfl (Nat.le_of_ble_eq_true rfl) hl.1 rfl dX4_whenNow_53 ?_
                refine z_aload_n S dX4_whenNow_56 hl 3 rfl rfl ?_
                refine z_iload S dX4_whenNow_57 hl 0 rfl ?_
                refine z_iald S hG (hP.2.2.2.2.2.2.2.2.1 (n) (by omega) (by omega)) (by omega) (by decide) dX4_whenNow_59 ?_
                refine lv_icmp_ne (tgt := 67) S.1 S.2.1 dX4_whenNow_60 (by decide) (fun c_60 => ?_) (fun c_60 => ?_)
                · skip
                  refine z_iconst S dX4_whenNow_67 ?_
                  refine z_istore (lv' := [(4, .int (zI (0))), (5, .int (zI (q))), (3, .int (zI (k))), (2, .ref (b (16 + Int.toNat (n)))), (0, .ref (b 0)), (1, .int (zI (n)))]) S dX4_whenNow_68 hl (by decide) rfl (fun ls hl => ?_)
                  refine z_iinc (lv' := [(5, .int (zI (q + 1))), (4, .int (zI (0))), (3, .int (zI (k))), (2, .ref (b (16 + Int.toNat (n)))), (0, .ref (b 0)), (1, .int (zI (n)))]) S dX4_whenNow_70 hl 1 rfl (by decide) rfl (fun ls hl => ?_)
                  refine z_goto S 27 dX4_whenNow_73 (by decide) ?_
                  exact ih_27 (q + 1) (false) (by omega) (by rw [allI_s hq.1, ← hv, c_36]; unfold skB; simp [c_60]) (by omega) ls (lv_sub hl [0, 1, 2, 3, 4, 5] rfl)
                · skip
                  refine z_iconst S dX4_whenNow_63 ?_
                  refine z_goto S 68 dX4_whenNow_64 (by decide) ?_
                  refine z_istore (lv' := [(4, .int (zI (1))), (5, .int (zI (q))), (3, .int (zI (k))), (2, .ref (b (16 + Int.toNat (n)))), (0, .ref (b 0)), (1, .int (zI (n)))]) S dX4_whenNow_68 hl (by decide) rfl (fun ls hl => ?_)
                  refine z_iinc (lv' := [(5, .int (zI (q + 1))), (4, .int (zI (1))), (3, .int (zI (k))), (2, .ref (b (16 + Int.toNat (n)))), (0, .ref (b 0)), (1, .int (zI (n)))]) S dX4_whenNow_70 hl 1 rfl (by decide) rfl (fun ls hl => ?_)
                  refine z_goto S 27 dX4_whenNow_73 (by decide) ?_
                  exact ih_27 (q + 1) (true) (by omega) (by rw [allI_s hq.1, ← hv, c_36]; unfold skB; simp [c_60]) (by omega) ls (lv_sub hl [0, 1, 2, 3, 4, 5] rfl)
        exact loop_27 _ (0) (true) (by omega) (rfl) (Nat.lt_succ_self _) ls (lv_sub hl [0, 1, 2, 3, 4, 5] rfl)
  exact loop_14 _ (0) (by omega) (lt_st0) (Nat.lt_succ_self _) ls (lv_sub hl [0, 1, 2, 3] rfl)
def pM (σ : St) (wh : Int) : Int32 := if wh = 0 then zI σ.tk else if wh = 1 then zI σ.rn else if wh = 2 then bcR (enM σ) else if wh = 3 then bcR (ksM σ) else if wh = 4 then liM σ σ.tk else if wh = 5 then mrM σ else if wh = 6 then zI (flM σ) else if wh = 7 then bI (decide (σ.lim < flM σ)) else if wh = 8 then zI σ.lim else if wh = 9 then zI σ.kn else if wh = 10 then bcL (csM σ) else σ.rf
theorem flM_b (σ : St) : 0 ≤ flM σ ∧ flM σ ≤ 32 := cntI_b _ (by omega)
theorem dX4_pictureNow_0 : decode cX4_pictureNow 0 = .ok (.iload_n 1, 1) := by decide +kernel
theorem dX4_pictureNow_1 : decode cX4_pictureNow 1 = .ok (.tableswitch 139 0 10 #[59, 64, 72, 80, 85, 94, 99, 104, 121, 126, 134], 59) := by decide +kernel
theorem dX4_pictureNow_60 : decode cX4_pictureNow 60 = .ok (.aload_n 0, 1) := by decide +kernel
theorem dX4_pictureNow_61 : decode cX4_pictureNow 61 = .ok (.getfield 108, 3) := by decide +kernel
theorem dX4_pictureNow_64 : decode cX4_pictureNow 64 = .ok (.ireturn, 1) := by decide +kernel
theorem dX4_pictureNow_65 : decode cX4_pictureNow 65 = .ok (.aload_n 0, 1) := by decide +kernel
theorem dX4_pictureNow_66 : decode cX4_pictureNow 66 = .ok (.getfield 23, 3) := by decide +kernel
theorem dX4_pictureNow_69 : decode cX4_pictureNow 69 = .ok (.invokevirtual 41, 3) := by decide +kernel
theorem dX4_pictureNow_72 : decode cX4_pictureNow 72 = .ok (.ireturn, 1) := by decide +kernel
theorem dX4_pictureNow_73 : decode cX4_pictureNow 73 = .ok (.aload_n 0, 1) := by decide +kernel
theorem dX4_pictureNow_74 : decode cX4_pictureNow 74 = .ok (.invokevirtual 99, 3) := by decide +kernel
theorem dX4_pictureNow_77 : decode cX4_pictureNow 77 = .ok (.invokestatic 105, 3) := by decide +kernel
theorem dX4_pictureNow_80 : decode cX4_pictureNow 80 = .ok (.ireturn, 1) := by decide +kernel
theorem dX4_pictureNow_81 : decode cX4_pictureNow 81 = .ok (.aload_n 0, 1) := by decide +kernel
theorem dX4_pictureNow_82 : decode cX4_pictureNow 82 = .ok (.invokevirtual 171, 3) := by decide +kernel
theorem dX4_pictureNow_85 : decode cX4_pictureNow 85 = .ok (.ireturn, 1) := by decide +kernel
theorem dX4_pictureNow_86 : decode cX4_pictureNow 86 = .ok (.aload_n 0, 1) := by decide +kernel
theorem dX4_pictureNow_87 : decode cX4_pictureNow 87 = .ok (.aload_n 0, 1) := by decide +kernel
theorem dX4_pictureNow_88 : decode cX4_pictureNow 88 = .ok (.getfield 108, 3) := by decide +kernel
theorem dX4_pictureNow_91 : decode cX4_pictureNow 91 = .ok (.invokevirtual 174, 3) := by decide +kernel
theorem dX4_pictureNow_94 : decode cX4_pictureNow 94 = .ok (.ireturn, 1) := by decide +kernel
theorem dX4_pictureNow_95 : decode cX4_pictureNow 95 = .ok (.aload_n 0, 1) := by decide +kernel
theorem dX4_pictureNow_96 : decode cX4_pictureNow 96 = .ok (.invokevirtual 177, 3) := by decide +kernel
theorem dX4_pictureNow_99 : decode cX4_pictureNow 99 = .ok (.ireturn, 1) := by decide +kernel
theorem dX4_pictureNow_100 : decode cX4_pictureNow 100 = .ok (.aload_n 0, 1) := by decide +kernel
theorem dX4_pictureNow_101 : decode cX4_pictureNow 101 = .ok (.invokevirtual 143, 3) := by decide +kernel
theorem dX4_pictureNow_104 : decode cX4_pictureNow 104 = .ok (.ireturn, 1) := by decide +kernel
theorem dX4_pictureNow_105 : decode cX4_pictureNow 105 = .ok (.aload_n 0, 1) := by decide +kernel
theorem dX4_pictureNow_106 : decode cX4_pictureNow 106 = .ok (.invokevirtual 143, 3) := by decide +kernel
theorem dX4_pictureNow_109 : decode cX4_pictureNow 109 = .ok (.aload_n 0, 1) := by decide +kernel
theorem dX4_pictureNow_110 : decode cX4_pictureNow 110 = .ok (.getfield 7, 3) := by decide +kernel
theorem dX4_pictureNow_113 : decode cX4_pictureNow 113 = .ok (.if_icmp .le 7, 3) := by decide +kernel
theorem dX4_pictureNow_116 : decode cX4_pictureNow 116 = .ok (.iconst 1, 1) := by decide +kernel
theorem dX4_pictureNow_117 : decode cX4_pictureNow 117 = .ok (.goto 4, 3) := by decide +kernel
theorem dX4_pictureNow_120 : decode cX4_pictureNow 120 = .ok (.iconst 0, 1) := by decide +kernel
theorem dX4_pictureNow_121 : decode cX4_pictureNow 121 = .ok (.ireturn, 1) := by decide +kernel
theorem dX4_pictureNow_122 : decode cX4_pictureNow 122 = .ok (.aload_n 0, 1) := by decide +kernel
theorem dX4_pictureNow_123 : decode cX4_pictureNow 123 = .ok (.getfield 7, 3) := by decide +kernel
theorem dX4_pictureNow_126 : decode cX4_pictureNow 126 = .ok (.ireturn, 1) := by decide +kernel
theorem dX4_pictureNow_127 : decode cX4_pictureNow 127 = .ok (.aload_n 0, 1) := by decide +kernel
theorem dX4_pictureNow_128 : decode cX4_pictureNow 128 = .ok (.getfield 27, 3) := by decide +kernel
theorem dX4_pictureNow_131 : decode cX4_pictureNow 131 = .ok (.invokevirtual 41, 3) := by decide +kernel
theorem dX4_pictureNow_134 : decode cX4_pictureNow 134 = .ok (.ireturn, 1) := by decide +kernel
theorem dX4_pictureNow_135 : decode cX4_pictureNow 135 = .ok (.aload_n 0, 1) := by decide +kernel
theorem dX4_pictureNow_136 : decode cX4_pictureNow 136 = .ok (.invokevirtual 180, 3) := by decide +kernel
theorem dX4_pictureNow_139 : decode cX4_pictureNow 139 = .ok (.ireturn, 1) := by decide +kernel
theorem dX4_pictureNow_140 : decode cX4_pictureNow 140 = .ok (.aload_n 0, 1) := by decide +kernel
theorem dX4_pictureNow_141 : decode cX4_pictureNow 141 = .ok (.getfield 146, 3) := by decide +kernel
theorem dX4_pictureNow_144 : decode cX4_pictureNow 144 = .ok (.ireturn, 1) := by decide +kernel
theorem q6_3 : (Jvm.Cond.methodLink "CyclepaintModel" (171 : Nat) ({ cls := "CyclepaintModel", name := "kinds", desc := "()I" } : Jvm.MethodName)) ∈ lw_g := zg_of (zin6 (List.mem_of_getElem? (i := 3) rfl)) rfl
theorem q6_11 : (Jvm.Cond.methodLink "CyclepaintModel" (177 : Nat) ({ cls := "CyclepaintModel", name := "mostOfRows", desc := "()I" } : Jvm.MethodName)) ∈ lw_g := zg_of (zin6 (List.mem_of_getElem? (i := 11) rfl)) rfl
theorem q5_187 : (Jvm.Cond.methodLink "CyclepaintModel" (143 : Nat) ({ cls := "CyclepaintModel", name := "flickering", desc := "()I" } : Jvm.MethodName)) ∈ lw_g := zg_of (zin5 (List.mem_of_getElem? (i := 187) rfl)) rfl
theorem q4_229 : (Jvm.Cond.fieldLink "CyclepaintModel" (7 : Nat) "CyclepaintModel" "limit" "I") ∈ lw_g := zg_of (zin4 (List.mem_of_getElem? (i := 229) rfl)) rfl
theorem q6_16 : (Jvm.Cond.methodLink "CyclepaintModel" (180 : Nat) ({ cls := "CyclepaintModel", name := "unlike", desc := "()I" } : Jvm.MethodName)) ∈ lw_g := zg_of (zin6 (List.mem_of_getElem? (i := 16) rfl)) rfl
theorem q4_228 : (Jvm.Cond.fieldLink "CyclepaintModel" (146 : Nat) "CyclepaintModel" "refused" "I") ∈ lw_g := zg_of (zin4 (List.mem_of_getElem? (i := 228) rfl)) rfl
theorem q5_237 : (Jvm.Cond.code ({ cls := "CyclepaintModel", name := "pictureNow", desc := "(I)I" } : Jvm.MethodName) prog_6_method_47_code (2 : Nat) (Option.some Jvm.ClassFile.FieldType.int)) ∈ lw_g := zg_of (zin5 (List.mem_of_getElem? (i := 237) rfl)) rfl
theorem q5_236 : (Jvm.Cond.instanceMethod ({ cls := "CyclepaintModel", name := "pictureNow", desc := "(I)I" } : Jvm.MethodName)) ∈ lw_g := zg_of (zin5 (List.mem_of_getElem? (i := 236) rfl)) rfl
theorem qs_40 : Cond.selects "CyclepaintModel" (⟨"CyclepaintModel", "pictureNow", "(I)I"⟩ : MethodName) (⟨"CyclepaintModel", "pictureNow", "(I)I"⟩ : MethodName) ∈ lw_g := zg_of (zinS (List.mem_of_getElem? (i := 40) rfl)) rfl
theorem ok_X4_pictureNow : zOV yX4_pictureNow cX4_pictureNow 2 ((Option.some Jvm.ClassFile.FieldType.int)) 1 := ⟨⟨q5_237, q1_3, by decide, by decide, by decide +kernel⟩, q5_236, qs_40⟩
set_option maxHeartbeats 4000000 in
set_option maxRecDepth 100000 in
theorem c_X4_pictureNow (l : Launch) (G : zG) (σ : St) (b : Nat → Nat) (th m1 m2 : Int32) (wh : Int) (hw : 0 ≤ wh ∧ wh ≤ 11) (hdt : ∀ d : Int, 0 ≤ d → d < 32 → 0 ≤ σ.Dt d ∧ σ.Dt d < 16) (hT : 0 ≤ σ.tk ∧ σ.tk ≤ 99999) (hlm : 0 ≤ σ.lim ∧ σ.lim ≤ 32) : Met l yX4_pictureNow (wq yX4_pictureNow cX4_pictureNow 2 ((Option.some Jvm.ClassFile.FieldType.int))) (rmR 9 200) (va_Pc [.ref (b 0), .int (zI (wh))] (zK G (hMod G σ b th m1 m2))) (zQ (some (.int ((pM σ wh))))) 0 0 zF := by
  refine z_enterI (by decide +kernel) (Nat.le_of_ble_eq_true rfl) ?_
  intro p env s m below meth cod Q S hG hP ret ls hl
  have hl : lv_has ls 2 [(0, .ref (b 0)), (1, .int (zI (wh)))] := hl
  rcases (show wh = 0 ∨ wh = 1 ∨ wh = 2 ∨ wh = 3 ∨ wh = 4 ∨ wh = 5 ∨ wh = 6 ∨ wh = 7 ∨ wh = 8 ∨ wh = 9 ∨ wh = 10 ∨ wh = 11 by omega) with rfl | rfl | rfl | rfl | rfl | rfl | rfl | rfl | rfl | rfl | rfl | rfl
  · skip
    refine z_iload_n S dX4_pictureNow_0 hl 1 rfl rfl ?_
    refine lv_tableIn (tgt := 60) S.1 S.2.1 dX4_pictureNow_1 (by decide) (by decide) rfl (by decide) ?_
    refine z_aload_n S dX4_pictureNow_60 hl 0 rfl rfl ?_
    refine z_get S hG hP.1 zc_X4 1 (by decide) q4_227 rfl rfl dX4_pictureNow_61 ?_
    exact ret _ _ _ dX4_pictureNow_64 (by unfold pM; simp)
  · skip
    refine z_iload_n S dX4_pictureNow_0 hl 1 rfl rfl ?_
    refine lv_tableIn (tgt := 65) S.1 S.2.1 dX4_pictureNow_1 (by decide) (by decide) rfl (by decide) ?_
    refine z_aload_n S dX4_pictureNow_65 hl 0 rfl rfl ?_
    refine z_get S hG hP.1 zc_X4 6 (by decide) q4_232 rfl rfl dX4_pictureNow_66 ?_
    refine z_callVs S hG (c_alSize l G (b 3) (b 5) m1 σ.rn) ok_Jx4a65c_size_8abf5 hP.2.2.2.1 zc_Jx4a65c rfl q5_40 (hP.2.2.2.1) ⟨rfl, rfl, by decide, by decide⟩ ⟨Nat.zero_le _, Nat.zero_le _⟩ rfl (Nat.le_of_ble_eq_true rfl) hl.1 rfl dX4_pictureNow_69 ?_
    exact ret _ _ _ dX4_pictureNow_72 (by unfold pM; simp)
  · skip
    refine z_iload_n S dX4_pictureNow_0 hl 1 rfl rfl ?_
    refine lv_tableIn (tgt := 73) S.1 S.2.1 dX4_pictureNow_1 (by decide) (by decide) rfl (by decide) ?_
    refine z_aload_n S dX4_pictureNow_73 hl 0 rfl rfl ?_
    refine z_callVs S hG (c_X4_entries l G σ b th m1 m2) ok_X4_entries hP.1 zc_X4 rfl q5_238 (hP) ⟨rfl, rfl, by decide, by decide⟩ ⟨Nat.zero_le _, Nat.zero_le _⟩ rfl (Nat.le_of_ble_eq_true rfl) hl.1 rfl dX4_pictureNow_74 ?_
    refine z_callSs S hG (c_bitCount l G (enM σ)) ok_J6_bitCount_0f7a4 q6_2 (trivial) ⟨rfl, rfl, by decide, by decide⟩ ⟨Nat.zero_le _, Nat.zero_le _⟩ rfl (Nat.le_of_ble_eq_true rfl) hl.1 rfl dX4_pictureNow_77 ?_
    exact ret _ _ _ dX4_pictureNow_80 (by unfold pM; simp)
  · skip
    refine z_iload_n S dX4_pictureNow_0 hl 1 rfl rfl ?_
    refine lv_tableIn (tgt := 81) S.1 S.2.1 dX4_pictureNow_1 (by decide) (by decide) rfl (by decide) ?_
    refine z_aload_n S dX4_pictureNow_81 hl 0 rfl rfl ?_
    refine z_callVs S hG (c_X4_kinds l G σ b th m1 m2) ok_X4_kinds hP.1 zc_X4 rfl q6_3 (hP) ⟨rfl, rfl, by decide, by decide⟩ ⟨Nat.zero_le _, Nat.zero_le _⟩ rfl (Nat.le_of_ble_eq_true rfl) hl.1 rfl dX4_pictureNow_82 ?_
    exact ret _ _ _ dX4_pictureNow_85 (by unfold pM; simp)
  · skip
    refine z_iload_n S dX4_pictureNow_0 hl 1 rfl rfl ?_
    refine lv_tableIn (tgt := 86) S.1 S.2.1 dX4_pictureNow_1 (by decide) (by decide) rfl (by decide) ?_
    refine z_aload_n S dX4_pictureNow_86 hl 0 rfl rfl ?_
    refine z_aload_n S dX4_pictureNow_87 hl 0 rfl rfl ?_
    refine z_get S hG hP.1 zc_X4 1 (by decide) q4_227 rfl rfl dX4_pictureNow_88 ?_
    refine z_callVs S hG (c_X4_lightAt l G σ b th m1 m2 (σ.tk) (by omega) hdt) ok_X4_lightAt hP.1 zc_X4 rfl q6_7 (hP) ⟨rfl, rfl, by decide, by decide⟩ ⟨Nat.zero_le _, Nat.zero_le _⟩ rfl (Nat.le_of_ble_eq_true rfl) hl.1 rfl dX4_pictureNow_91 ?_
    exact ret _ _ _ dX4_pictureNow_94 (by unfold pM; simp)
  · skip
    refine z_iload_n S dX4_pictureNow_0 hl 1 rfl rfl ?_
    refine lv_tableIn (tgt := 95) S.1 S.2.1 dX4_pictureNow_1 (by decide) (by decide) rfl (by decide) ?_
    refine z_aload_n S dX4_pictureNow_95 hl 0 rfl rfl ?_
    refine z_callVs S hG (c_X4_mostOfRows l G σ b th m1 m2 hdt hT) ok_X4_mostOfRows hP.1 zc_X4 rfl q6_11 (hP) ⟨rfl, rfl, by decide, by decide⟩ ⟨Nat.zero_le _, Nat.zero_le _⟩ rfl (Nat.le_of_ble_eq_true rfl) hl.1 rfl dX4_pictureNow_96 ?_
    exact ret _ _ _ dX4_pictureNow_99 (by unfold pM; simp)
  · skip
    refine z_iload_n S dX4_pictureNow_0 hl 1 rfl rfl ?_
    refine lv_tableIn (tgt := 100) S.1 S.2.1 dX4_pictureNow_1 (by decide) (by decide) rfl (by decide) ?_
    refine z_aload_n S dX4_pictureNow_100 hl 0 rfl rfl ?_
    refine z_callVs S hG (c_X4_flickering l G σ b th m1 m2 hdt hT) ok_X4_flickering hP.1 zc_X4 rfl q5_187 (hP) ⟨rfl, rfl, by decide, by decide⟩ ⟨Nat.zero_le _, Nat.zero_le _⟩ rfl (Nat.le_of_ble_eq_true rfl) hl.1 rfl dX4_pictureNow_101 ?_
    exact ret _ _ _ dX4_pictureNow_104 (by unfold pM; simp)
  · skip
    refine z_iload_n S dX4_pictureNow_0 hl 1 rfl rfl ?_
    refine lv_tableIn (tgt := 105) S.1 S.2.1 dX4_pictureNow_1 (by decide) (by decide) rfl (by decide) ?_
    refine z_aload_n S dX4_pictureNow_105 hl 0 rfl rfl ?_
    refine z_callVs S hG (c_X4_flickering l G σ b th m1 m2 hdt hT) ok_X4_flickering hP.1 zc_X4 rfl q5_187 (hP) ⟨rfl, rfl, by decide, by decide⟩ ⟨Nat.zero_le _, Nat.zero_le _⟩ rfl (Nat.le_of_ble_eq_true rfl) hl.1 rfl dX4_pictureNow_106 ?_
    refine z_aload_n S dX4_pictureNow_109 hl 0 rfl rfl ?_
    refine z_get S hG hP.1 zc_X4 3 (by decide) q4_229 rfl rfl dX4_pictureNow_110 ?_
    have hfb := flM_b σ
    refine z_icmp_le S 120 dX4_pictureNow_113 (by decide) (by omega) (by omega) (fun c_113 => ?_) (fun c_113 => ?_)
    · skip
      refine z_iconst S dX4_pictureNow_120 ?_
      exact ret _ _ _ dX4_pictureNow_121 (by unfold pM; simp [show decide (σ.lim < flM σ) = false from by simp; omega]; rfl)
    · skip
      refine z_iconst S dX4_pictureNow_116 ?_
      refine z_goto S 121 dX4_pictureNow_117 (by decide) ?_
      exact ret _ _ _ dX4_pictureNow_121 (by unfold pM; simp [show decide (σ.lim < flM σ) = true from by simp; omega]; rfl)
  · skip
    refine z_iload_n S dX4_pictureNow_0 hl 1 rfl rfl ?_
    refine lv_tableIn (tgt := 122) S.1 S.2.1 dX4_pictureNow_1 (by decide) (by decide) rfl (by decide) ?_
    refine z_aload_n S dX4_pictureNow_122 hl 0 rfl rfl ?_
    refine z_get S hG hP.1 zc_X4 3 (by decide) q4_229 rfl rfl dX4_pictureNow_123 ?_
    exact ret _ _ _ dX4_pictureNow_126 (by unfold pM; simp)
  · skip
    refine z_iload_n S dX4_pictureNow_0 hl 1 rfl rfl ?_
    refine lv_tableIn (tgt := 127) S.1 S.2.1 dX4_pictureNow_1 (by decide) (by decide) rfl (by decide) ?_
    refine z_aload_n S dX4_pictureNow_127 hl 0 rfl rfl ?_
    refine z_get S hG hP.1 zc_X4 7 (by decide) q4_233 rfl rfl dX4_pictureNow_128 ?_
    refine z_callVs S hG (c_alSize l G (b 4) (b 6) m2 σ.kn) ok_Jx4a65c_size_8abf5 hP.2.2.2.2.1 zc_Jx4a65c rfl q5_40 (hP.2.2.2.2.1) ⟨rfl, rfl, by decide, by decide⟩ ⟨Nat.zero_le _, Nat.zero_le _⟩ rfl (Nat.le_of_ble_eq_true rfl) hl.1 rfl dX4_pictureNow_131 ?_
    exact ret _ _ _ dX4_pictureNow_134 (by unfold pM; simp)
  · skip
    refine z_iload_n S dX4_pictureNow_0 hl 1 rfl rfl ?_
    refine lv_tableIn (tgt := 135) S.1 S.2.1 dX4_pictureNow_1 (by decide) (by decide) rfl (by decide) ?_
    refine z_aload_n S dX4_pictureNow_135 hl 0 rfl rfl ?_
    refine z_callVs S hG (c_X4_unlike l G σ b th m1 m2 hdt hT) ok_X4_unlike hP.1 zc_X4 rfl q6_16 (hP) ⟨rfl, rfl, by decide, by decide⟩ ⟨Nat.zero_le _, Nat.zero_le _⟩ rfl (Nat.le_of_ble_eq_true rfl) hl.1 rfl dX4_pictureNow_136 ?_
    exact ret _ _ _ dX4_pictureNow_139 (by unfold pM; simp)
  · skip
    refine z_iload_n S dX4_pictureNow_0 hl 1 rfl rfl ?_
    refine lv_tableOut (tgt := 140) S.1 S.2.1 dX4_pictureNow_1 (by decide) (by decide) ?_
    refine z_aload_n S dX4_pictureNow_140 hl 0 rfl rfl ?_
    refine z_get S hG hP.1 zc_X4 2 (by decide) q4_228 rfl rfl dX4_pictureNow_141 ?_
    exact ret _ _ _ dX4_pictureNow_144 (by unfold pM; simp)
theorem dX4_isNoEntry_0 : decode cX4_isNoEntry 0 = .ok (.iload_n 0, 1) := by decide +kernel
theorem dX4_isNoEntry_1 : decode cX4_isNoEntry 1 = .ok (.iconst 0, 1) := by decide +kernel
theorem dX4_isNoEntry_2 : decode cX4_isNoEntry 2 = .ok (.bipush 15, 2) := by decide +kernel
theorem dX4_isNoEntry_4 : decode cX4_isNoEntry 4 = .ok (.invokestatic 37, 3) := by decide +kernel
theorem dX4_isNoEntry_7 : decode cX4_isNoEntry 7 = .ok (.ifCond .ne 7, 3) := by decide +kernel
theorem dX4_isNoEntry_10 : decode cX4_isNoEntry 10 = .ok (.iconst 1, 1) := by decide +kernel
theorem dX4_isNoEntry_11 : decode cX4_isNoEntry 11 = .ok (.goto 4, 3) := by decide +kernel
theorem dX4_isNoEntry_14 : decode cX4_isNoEntry 14 = .ok (.iconst 0, 1) := by decide +kernel
theorem dX4_isNoEntry_15 : decode cX4_isNoEntry 15 = .ok (.ireturn, 1) := by decide +kernel
theorem q5_18 : (Jvm.Cond.methodLink "CyclepaintModel" (37 : Nat) ({ cls := "CyclepaintModel", name := "isIn", desc := "(III)Z" } : Jvm.MethodName)) ∈ lw_g := zg_of (zin5 (List.mem_of_getElem? (i := 18) rfl)) rfl
theorem q5_17 : (Jvm.Cond.code ({ cls := "CyclepaintModel", name := "isNoEntry", desc := "(I)Z" } : Jvm.MethodName) prog_6_method_6_code (1 : Nat) (Option.some Jvm.ClassFile.FieldType.boolean)) ∈ lw_g := zg_of (zin5 (List.mem_of_getElem? (i := 17) rfl)) rfl
theorem q5_16 : (Jvm.Cond.static ({ cls := "CyclepaintModel", name := "isNoEntry", desc := "(I)Z" } : Jvm.MethodName)) ∈ lw_g := zg_of (zin5 (List.mem_of_getElem? (i := 16) rfl)) rfl
theorem ok_X4_isNoEntry : zOS yX4_isNoEntry cX4_isNoEntry 1 ((Option.some Jvm.ClassFile.FieldType.boolean)) 1 := ⟨⟨q5_17, q1_3, by decide, by decide, by decide +kernel⟩, q5_16⟩
set_option maxHeartbeats 4000000 in
set_option maxRecDepth 100000 in
theorem c_X4_isNoEntry (l : Launch) (G : zG) (x : Int) (hr : rg x) : Met l yX4_isNoEntry (wq yX4_isNoEntry cX4_isNoEntry 1 ((Option.some Jvm.ClassFile.FieldType.boolean))) (rmR 1 22) (va_Pc [.int (zI (x))] (zK G (fun _ => True))) (zQ (some (.int (bI (!(decide (0 ≤ x) && decide (x ≤ 15))))))) 0 0 zF := by
  refine z_enterB (by decide +kernel) (Nat.le_of_ble_eq_true rfl) ?_
  intro p env s m below meth cod Q S hG hP ret ls hl
  have hl : lv_has ls 1 [(0, .int (zI (x)))] := hl
  refine z_iload_n S dX4_isNoEntry_0 hl 0 rfl rfl ?_
  refine z_iconst S dX4_isNoEntry_1 ?_
  refine z_bipush S dX4_isNoEntry_2 rfl ?_
  refine z_callSs S hG (c_X4_isIn l G (x) (0) (15) (by omega)) ok_X4_isIn q5_18 (trivial) ⟨rfl, rfl, by decide, by decide⟩ ⟨Nat.zero_le _, Nat.zero_le _⟩ rfl (Nat.le_of_ble_eq_true rfl) hl.1 rfl dX4_isNoEntry_4 ?_
  refine z_bif_ne S 14 dX4_isNoEntry_7 (by decide) (fun c_7 => ?_) (fun c_7 => ?_)
  · skip
    refine z_iconst S dX4_isNoEntry_14 ?_
    exact ret _ _ _ dX4_isNoEntry_15 (by rw [c_7]; rfl)
  · skip
    refine z_iconst S dX4_isNoEntry_10 ?_
    refine z_goto S 15 dX4_isNoEntry_11 (by decide) ?_
    exact ret _ _ _ dX4_isNoEntry_15 (by rw [c_7]; rfl)
theorem dX4_isNoColour_0 : decode cX4_isNoColour 0 = .ok (.iload_n 0, 1) := by decide +kernel
theorem dX4_isNoColour_1 : decode cX4_isNoColour 1 = .ok (.iconst 0, 1) := by decide +kernel
theorem dX4_isNoColour_2 : decode cX4_isNoColour 2 = .ok (.bipush 63, 2) := by decide +kernel
theorem dX4_isNoColour_4 : decode cX4_isNoColour 4 = .ok (.invokestatic 37, 3) := by decide +kernel
theorem dX4_isNoColour_7 : decode cX4_isNoColour 7 = .ok (.ifCond .ne 7, 3) := by decide +kernel
theorem dX4_isNoColour_10 : decode cX4_isNoColour 10 = .ok (.iconst 1, 1) := by decide +kernel
theorem dX4_isNoColour_11 : decode cX4_isNoColour 11 = .ok (.goto 4, 3) := by decide +kernel
theorem dX4_isNoColour_14 : decode cX4_isNoColour 14 = .ok (.iconst 0, 1) := by decide +kernel
theorem dX4_isNoColour_15 : decode cX4_isNoColour 15 = .ok (.ireturn, 1) := by decide +kernel
theorem q5_31 : (Jvm.Cond.code ({ cls := "CyclepaintModel", name := "isNoColour", desc := "(I)Z" } : Jvm.MethodName) prog_6_method_8_code (1 : Nat) (Option.some Jvm.ClassFile.FieldType.boolean)) ∈ lw_g := zg_of (zin5 (List.mem_of_getElem? (i := 31) rfl)) rfl
theorem q5_30 : (Jvm.Cond.static ({ cls := "CyclepaintModel", name := "isNoColour", desc := "(I)Z" } : Jvm.MethodName)) ∈ lw_g := zg_of (zin5 (List.mem_of_getElem? (i := 30) rfl)) rfl
theorem ok_X4_isNoColour : zOS yX4_isNoColour cX4_isNoColour 1 ((Option.some Jvm.ClassFile.FieldType.boolean)) 1 := ⟨⟨q5_31, q1_3, by decide, by decide, by decide +kernel⟩, q5_30⟩
set_option maxHeartbeats 4000000 in
set_option maxRecDepth 100000 in
theorem c_X4_isNoColour (l : Launch) (G : zG) (x : Int) (hr : rg x) : Met l yX4_isNoColour (wq yX4_isNoColour cX4_isNoColour 1 ((Option.some Jvm.ClassFile.FieldType.boolean))) (rmR 1 22) (va_Pc [.int (zI (x))] (zK G (fun _ => True))) (zQ (some (.int (bI (!(decide (0 ≤ x) && decide (x ≤ 63))))))) 0 0 zF := by
  refine z_enterB (by decide +kernel) (Nat.le_of_ble_eq_true rfl) ?_
  intro p env s m below meth cod Q S hG hP ret ls hl
  have hl : lv_has ls 1 [(0, .int (zI (x)))] := hl
  refine z_iload_n S dX4_isNoColour_0 hl 0 rfl rfl ?_
  refine z_iconst S dX4_isNoColour_1 ?_
  refine z_bipush S dX4_isNoColour_2 rfl ?_
  refine z_callSs S hG (c_X4_isIn l G (x) (0) (63) (by omega)) ok_X4_isIn q5_18 (trivial) ⟨rfl, rfl, by decide, by decide⟩ ⟨Nat.zero_le _, Nat.zero_le _⟩ rfl (Nat.le_of_ble_eq_true rfl) hl.1 rfl dX4_isNoColour_4 ?_
  refine z_bif_ne S 14 dX4_isNoColour_7 (by decide) (fun c_7 => ?_) (fun c_7 => ?_)
  · skip
    refine z_iconst S dX4_isNoColour_14 ?_
    exact ret _ _ _ dX4_isNoColour_15 (by rw [c_7]; rfl)
  · skip
    refine z_iconst S dX4_isNoColour_10 ?_
    refine z_goto S 15 dX4_isNoColour_11 (by decide) ?_
    exact ret _ _ _ dX4_isNoColour_15 (by rw [c_7]; rfl)
theorem dX4_isNoTick_0 : decode cX4_isNoTick 0 = .ok (.iload_n 0, 1) := by decide +kernel
theorem dX4_isNoTick_1 : decode cX4_isNoTick 1 = .ok (.iconst 0, 1) := by decide +kernel
theorem dX4_isNoTick_2 : decode cX4_isNoTick 2 = .ok (.ldc 45, 2) := by decide +kernel
theorem dX4_isNoTick_4 : decode cX4_isNoTick 4 = .ok (.invokestatic 37, 3) := by decide +kernel
theorem dX4_isNoTick_7 : decode cX4_isNoTick 7 = .ok (.ifCond .ne 7, 3) := by decide +kernel
theorem dX4_isNoTick_10 : decode cX4_isNoTick 10 = .ok (.iconst 1, 1) := by decide +kernel
theorem dX4_isNoTick_11 : decode cX4_isNoTick 11 = .ok (.goto 4, 3) := by decide +kernel
theorem dX4_isNoTick_14 : decode cX4_isNoTick 14 = .ok (.iconst 0, 1) := by decide +kernel
theorem dX4_isNoTick_15 : decode cX4_isNoTick 15 = .ok (.ireturn, 1) := by decide +kernel
theorem q5_171 : (Jvm.Cond.constant "CyclepaintModel" (45 : Nat) (99999 : Int32)) ∈ lw_g := zg_of (zin5 (List.mem_of_getElem? (i := 171) rfl)) rfl
theorem q5_178 : (Jvm.Cond.code ({ cls := "CyclepaintModel", name := "isNoTick", desc := "(I)Z" } : Jvm.MethodName) prog_6_method_9_code (1 : Nat) (Option.some Jvm.ClassFile.FieldType.boolean)) ∈ lw_g := zg_of (zin5 (List.mem_of_getElem? (i := 178) rfl)) rfl
theorem q5_177 : (Jvm.Cond.static ({ cls := "CyclepaintModel", name := "isNoTick", desc := "(I)Z" } : Jvm.MethodName)) ∈ lw_g := zg_of (zin5 (List.mem_of_getElem? (i := 177) rfl)) rfl
theorem ok_X4_isNoTick : zOS yX4_isNoTick cX4_isNoTick 1 ((Option.some Jvm.ClassFile.FieldType.boolean)) 1 := ⟨⟨q5_178, q1_3, by decide, by decide, by decide +kernel⟩, q5_177⟩
set_option maxHeartbeats 4000000 in
set_option maxRecDepth 100000 in
theorem c_X4_isNoTick (l : Launch) (G : zG) (x : Int) (hr : rg x) : Met l yX4_isNoTick (wq yX4_isNoTick cX4_isNoTick 1 ((Option.some Jvm.ClassFile.FieldType.boolean))) (rmR 1 22) (va_Pc [.int (zI (x))] (zK G (fun _ => True))) (zQ (some (.int (bI (!(decide (0 ≤ x) && decide (x ≤ 99999))))))) 0 0 zF := by
  refine z_enterB (by decide +kernel) (Nat.le_of_ble_eq_true rfl) ?_
  intro p env s m below meth cod Q S hG hP ret ls hl
  have hl : lv_has ls 1 [(0, .int (zI (x)))] := hl
  refine z_iload_n S dX4_isNoTick_0 hl 0 rfl rfl ?_
  refine z_iconst S dX4_isNoTick_1 ?_
  refine z_ldc S (99999) q5_171 rfl dX4_isNoTick_2 ?_
  refine z_callSs S hG (c_X4_isIn l G (x) (0) (99999) (by omega)) ok_X4_isIn q5_18 (trivial) ⟨rfl, rfl, by decide, by decide⟩ ⟨Nat.zero_le _, Nat.zero_le _⟩ rfl (Nat.le_of_ble_eq_true rfl) hl.1 rfl dX4_isNoTick_4 ?_
  refine z_bif_ne S 14 dX4_isNoTick_7 (by decide) (fun c_7 => ?_) (fun c_7 => ?_)
  · skip
    refine z_iconst S dX4_isNoTick_14 ?_
    exact ret _ _ _ dX4_isNoTick_15 (by rw [c_7]; rfl)
  · skip
    refine z_iconst S dX4_isNoTick_10 ?_
    refine z_goto S 15 dX4_isNoTick_11 (by decide) ?_
    exact ret _ _ _ dX4_isNoTick_15 (by rw [c_7]; rfl)
theorem dX4_isNoRange_0 : decode cX4_isNoRange 0 = .ok (.iload_n 1, 1) := by decide +kernel
theorem dX4_isNoRange_1 : decode cX4_isNoRange 1 = .ok (.iconst 0, 1) := by decide +kernel
theorem dX4_isNoRange_2 : decode cX4_isNoRange 2 = .ok (.aload_n 0, 1) := by decide +kernel
theorem dX4_isNoRange_3 : decode cX4_isNoRange 3 = .ok (.getfield 23, 3) := by decide +kernel
theorem dX4_isNoRange_6 : decode cX4_isNoRange 6 = .ok (.invokevirtual 41, 3) := by decide +kernel
theorem dX4_isNoRange_9 : decode cX4_isNoRange 9 = .ok (.iconst 1, 1) := by decide +kernel
theorem dX4_isNoRange_10 : decode cX4_isNoRange 10 = .ok (.isub, 1) := by decide +kernel
theorem dX4_isNoRange_11 : decode cX4_isNoRange 11 = .ok (.invokestatic 37, 3) := by decide +kernel
theorem dX4_isNoRange_14 : decode cX4_isNoRange 14 = .ok (.ifCond .ne 7, 3) := by decide +kernel
theorem dX4_isNoRange_17 : decode cX4_isNoRange 17 = .ok (.iconst 1, 1) := by decide +kernel
theorem dX4_isNoRange_18 : decode cX4_isNoRange 18 = .ok (.goto 4, 3) := by decide +kernel
theorem dX4_isNoRange_21 : decode cX4_isNoRange 21 = .ok (.iconst 0, 1) := by decide +kernel
theorem dX4_isNoRange_22 : decode cX4_isNoRange 22 = .ok (.ireturn, 1) := by decide +kernel
theorem q5_116 : (Jvm.Cond.code ({ cls := "CyclepaintModel", name := "isNoRange", desc := "(I)Z" } : Jvm.MethodName) prog_6_method_7_code (2 : Nat) (Option.some Jvm.ClassFile.FieldType.boolean)) ∈ lw_g := zg_of (zin5 (List.mem_of_getElem? (i := 116) rfl)) rfl
theorem q5_115 : (Jvm.Cond.instanceMethod ({ cls := "CyclepaintModel", name := "isNoRange", desc := "(I)Z" } : Jvm.MethodName)) ∈ lw_g := zg_of (zin5 (List.mem_of_getElem? (i := 115) rfl)) rfl
theorem qs_27 : Cond.selects "CyclepaintModel" (⟨"CyclepaintModel", "isNoRange", "(I)Z"⟩ : MethodName) (⟨"CyclepaintModel", "isNoRange", "(I)Z"⟩ : MethodName) ∈ lw_g := zg_of (zinS (List.mem_of_getElem? (i := 27) rfl)) rfl
theorem ok_X4_isNoRange : zOV yX4_isNoRange cX4_isNoRange 2 ((Option.some Jvm.ClassFile.FieldType.boolean)) 1 := ⟨⟨q5_116, q1_3, by decide, by decide, by decide +kernel⟩, q5_115, qs_27⟩
set_option maxHeartbeats 4000000 in
set_option maxRecDepth 100000 in
theorem c_X4_isNoRange (l : Launch) (G : zG) (σ : St) (b : Nat → Nat) (th m1 m2 : Int32) (x : Int) (hr : rg x) : Met l yX4_isNoRange (wq yX4_isNoRange cX4_isNoRange 2 ((Option.some Jvm.ClassFile.FieldType.boolean))) (rmR 1 22) (va_Pc [.ref (b 0), .int (zI (x))] (zK G (hMod G σ b th m1 m2))) (zQ (some (.int (bI (!(decide (0 ≤ x) && decide (x ≤ σ.rn - 1))))))) 0 0 zF := by
  refine z_enterB (by decide +kernel) (Nat.le_of_ble_eq_true rfl) ?_
  intro p env s m below meth cod Q S hG hP ret ls hl
  have hl : lv_has ls 2 [(0, .ref (b 0)), (1, .int (zI (x)))] := hl
  have hO := hP.2.2.2.2.2.2.2.2.2
  have hrn := hO.1
  refine z_iload_n S dX4_isNoRange_0 hl 1 rfl rfl ?_
  refine z_iconst S dX4_isNoRange_1 ?_
  refine z_aload_n S dX4_isNoRange_2 hl 0 rfl rfl ?_
  refine z_get S hG hP.1 zc_X4 6 (by decide) q4_232 rfl rfl dX4_isNoRange_3 ?_
  refine z_callVs S hG (c_alSize l G (b 3) (b 5) m1 σ.rn) ok_Jx4a65c_size_8abf5 hP.2.2.2.1 zc_Jx4a65c rfl q5_40 (hP.2.2.2.1) ⟨rfl, rfl, by decide, by decide⟩ ⟨Nat.zero_le _, Nat.zero_le _⟩ rfl (Nat.le_of_ble_eq_true rfl) hl.1 rfl dX4_isNoRange_6 ?_
  refine z_iconst S dX4_isNoRange_9 ?_
  refine z_isub S dX4_isNoRange_10 ?_
  refine z_callSs S hG (c_X4_isIn l G (x) (0) ((σ.rn) - (1)) (by omega)) ok_X4_isIn q5_18 (trivial) ⟨rfl, rfl, by decide, by decide⟩ ⟨Nat.zero_le _, Nat.zero_le _⟩ rfl (Nat.le_of_ble_eq_true rfl) hl.1 rfl dX4_isNoRange_11 ?_
  refine z_bif_ne S 21 dX4_isNoRange_14 (by decide) (fun c_14 => ?_) (fun c_14 => ?_)
  · skip
    refine z_iconst S dX4_isNoRange_21 ?_
    exact ret _ _ _ dX4_isNoRange_22 (by rw [c_14]; rfl)
  · skip
    refine z_iconst S dX4_isNoRange_17 ?_
    refine z_goto S 22 dX4_isNoRange_18 (by decide) ?_
    exact ret _ _ _ dX4_isNoRange_22 (by rw [c_14]; rfl)
