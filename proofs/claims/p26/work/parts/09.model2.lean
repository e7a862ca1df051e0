theorem dX4_isStill_0 : decode cX4_isStill 0 = .ok (.iconst 0, 1) := by decide +kernel
theorem dX4_isStill_1 : decode cX4_isStill 1 = .ok (.istore_n 2, 1) := by decide +kernel
theorem dX4_isStill_2 : decode cX4_isStill 2 = .ok (.iload_n 2, 1) := by decide +kernel
theorem dX4_isStill_3 : decode cX4_isStill 3 = .ok (.aload_n 0, 1) := by decide +kernel
theorem dX4_isStill_4 : decode cX4_isStill 4 = .ok (.iload_n 1, 1) := by decide +kernel
theorem dX4_isStill_5 : decode cX4_isStill 5 = .ok (.invokevirtual 81, 3) := by decide +kernel
theorem dX4_isStill_8 : decode cX4_isStill 8 = .ok (.if_icmp .ge 26, 3) := by decide +kernel
theorem dX4_isStill_11 : decode cX4_isStill 11 = .ok (.aload_n 0, 1) := by decide +kernel
theorem dX4_isStill_12 : decode cX4_isStill 12 = .ok (.iload_n 1, 1) := by decide +kernel
theorem dX4_isStill_13 : decode cX4_isStill 13 = .ok (.iload_n 2, 1) := by decide +kernel
theorem dX4_isStill_14 : decode cX4_isStill 14 = .ok (.invokevirtual 84, 3) := by decide +kernel
theorem dX4_isStill_17 : decode cX4_isStill 17 = .ok (.aload_n 0, 1) := by decide +kernel
theorem dX4_isStill_18 : decode cX4_isStill 18 = .ok (.iload_n 1, 1) := by decide +kernel
theorem dX4_isStill_19 : decode cX4_isStill 19 = .ok (.iconst 0, 1) := by decide +kernel
theorem dX4_isStill_20 : decode cX4_isStill 20 = .ok (.invokevirtual 84, 3) := by decide +kernel
theorem dX4_isStill_23 : decode cX4_isStill 23 = .ok (.if_icmp .eq 5, 3) := by decide +kernel
theorem dX4_isStill_26 : decode cX4_isStill 26 = .ok (.iconst 0, 1) := by decide +kernel
theorem dX4_isStill_27 : decode cX4_isStill 27 = .ok (.ireturn, 1) := by decide +kernel
theorem dX4_isStill_28 : decode cX4_isStill 28 = .ok (.iinc 2 1, 3) := by decide +kernel
theorem dX4_isStill_31 : decode cX4_isStill 31 = .ok (.goto (-29), 3) := by decide +kernel
theorem dX4_isStill_34 : decode cX4_isStill 34 = .ok (.iconst 1, 1) := by decide +kernel
theorem dX4_isStill_35 : decode cX4_isStill 35 = .ok (.ireturn, 1) := by decide +kernel
theorem q5_149 : (Jvm.Cond.methodLink "CyclepaintModel" (81 : Nat) ({ cls := "CyclepaintModel", name := "roundOf", desc := "(I)I" } : Jvm.MethodName)) ∈ lw_g := zg_of (zin5 (List.mem_of_getElem? (i := 149) rfl)) rfl
theorem q5_159 : (Jvm.Cond.methodLink "CyclepaintModel" (84 : Nat) ({ cls := "CyclepaintModel", name := "show", desc := "(II)I" } : Jvm.MethodName)) ∈ lw_g := zg_of (zin5 (List.mem_of_getElem? (i := 159) rfl)) rfl
theorem q5_221 : (Jvm.Cond.code ({ cls := "CyclepaintModel", name := "isStill", desc := "(I)Z" } : Jvm.MethodName) prog_6_method_18_code (3 : Nat) (Option.some Jvm.ClassFile.FieldType.boolean)) ∈ lw_g := zg_of (zin5 (List.mem_of_getElem? (i := 221) rfl)) rfl
theorem q5_220 : (Jvm.Cond.instanceMethod ({ cls := "CyclepaintModel", name := "isStill", desc := "(I)Z" } : Jvm.MethodName)) ∈ lw_g := zg_of (zin5 (List.mem_of_getElem? (i := 220) rfl)) rfl
theorem qs_38 : Cond.selects "CyclepaintModel" (⟨"CyclepaintModel", "isStill", "(I)Z"⟩ : MethodName) (⟨"CyclepaintModel", "isStill", "(I)Z"⟩ : MethodName) ∈ lw_g := zg_of (zinS (List.mem_of_getElem? (i := 38) rfl)) rfl
theorem ok_X4_isStill : zOV yX4_isStill cX4_isStill 3 ((Option.some Jvm.ClassFile.FieldType.boolean)) 1 := ⟨⟨q5_221, q1_3, by decide, by decide, by decide +kernel⟩, q5_220, qs_38⟩
set_option maxHeartbeats 4000000 in
set_option maxRecDepth 100000 in
theorem c_X4_isStill (l : Launch) (G : zG) (σ : St) (b : Nat → Nat) (th m1 m2 : Int32) (e : Int) (he : 0 ≤ e ∧ e < 16) : Met l yX4_isStill (wq yX4_isStill cX4_isStill 3 ((Option.some Jvm.ClassFile.FieldType.boolean))) (rmR 5 110) (va_Pc [.ref (b 0), .int (zI (e))] (zK G (hMod G σ b th m1 m2))) (zQ (some (.int (bI (stlM σ e))))) 0 0 zF := by
  refine z_enterB (by decide +kernel) (Nat.le_of_ble_eq_true rfl) ?_
  intro p env s m below meth cod Q S hG hP ret ls hl
  have hl : lv_has ls 3 [(0, .ref (b 0)), (1, .int (zI (e)))] := hl
  have hO := hP.2.2.2.2.2.2.2.2.2
  have hrn := hO.1
  have hb1 := rndE_b hO e
  refine z_iconst S dX4_isStill_0 ?_
  refine z_istore_n (lv' := [(2, .int (zI (0))), (0, .ref (b 0)), (1, .int (zI (e)))]) S dX4_isStill_1 hl rfl (by decide) rfl (fun ls hl => ?_)
  have loop_2 : ∀ (nn : Nat) (k : Int), (0 ≤ k ∧ k ≤ rndE σ e) → (∀ t : Int, 0 ≤ t → t < k → (fun t => decide (shw σ e t = shw σ e 0)) t = true) → ((rndE σ e - k).toNat) < nn → ∀ ls, lv_has ls 3 [(2, .int (zI (k))), (0, .ref (b 0)), (1, .int (zI (e)))] → W p l env (rmR 5 110) s m ([.ref (b 0), .int (zI (e))] : List Value).toArray below meth cod s.heap [] 0 0 Q (F0 m 2 ls []) := by
    intro nn
    induction nn with
    | zero => intro _ _ _ h; exact absurd h (Nat.not_lt_zero _)
    | succ nn ih_2 =>
      intro k hk hI hm_2 ls hl
      refine z_iload_n S dX4_isStill_2 hl 0 rfl rfl ?_
      refine z_aload_n S dX4_isStill_3 hl 1 rfl rfl ?_
      refine z_iload_n S dX4_isStill_4 hl 2 rfl rfl ?_
      refine z_callVs S hG (c_X4_roundOf l G σ b th m1 m2 (e) (by omega)) ok_X4_roundOf hP.1 zc_X4 rfl q5_149 (hP) ⟨rfl, rfl, by decide, by decide⟩ ⟨Nat.zero_le _, Nat.zero_le _⟩ rfl (Nat.le_of_ble_eq_true rfl) hl.1 rfl dX4_isStill_5 ?_
      refine z_icmp_ge S 34 dX4_isStill_8 (by decide) (by omega) (by omega) (fun c_8 => ?_) (fun c_8 => ?_)
      · skip
        refine z_iconst S dX4_isStill_34 ?_
        exact ret _ _ _ dX4_isStill_35 (by rw [show stlM σ e = true from allI_iff.mpr (fun t h0 h1 => hI t h0 (by omega))]; rfl)
      · skip
        have c_8x : k < rndE σ e := by omega
        refine z_aload_n S dX4_isStill_11 hl 1 rfl rfl ?_
        refine z_iload_n S dX4_isStill_12 hl 2 rfl rfl ?_
        refine z_iload_n S dX4_isStill_13 hl 0 rfl rfl ?_
        refine z_callVs S hG (c_X4_show l G σ b th m1 m2 (e) (k) (by omega) (by omega)) ok_X4_show hP.1 zc_X4 rfl q5_159 (hP) ⟨rfl, rfl, by decide, by decide⟩ ⟨Nat.zero_le _, Nat.zero_le _⟩ rfl (Nat.le_of_ble_eq_true rfl) hl.1 rfl dX4_isStill_14 ?_
        refine z_aload_n S dX4_isStill_17 hl 1 rfl rfl ?_
        refine z_iload_n S dX4_isStill_18 hl 2 rfl rfl ?_
        refine z_iconst S dX4_isStill_19 ?_
        refine z_callVs S hG (c_X4_show l G σ b th m1 m2 (e) (0) (by omega) (by omega)) ok_X4_show hP.1 zc_X4 rfl q5_159 (hP) ⟨rfl, rfl, by decide, by decide⟩ ⟨Nat.zero_le _, Nat.zero_le _⟩ rfl (Nat.le_of_ble_eq_true rfl) hl.1 rfl dX4_isStill_20 ?_
        refine lv_icmp_eq (tgt := 28) S.1 S.2.1 dX4_isStill_23 (by decide) (fun c_23 => ?_) (fun c_23 => ?_)
        · skip
          refine z_iinc (lv' := [(2, .int (zI (k + 1))), (0, .ref (b 0)), (1, .int (zI (e)))]) S dX4_isStill_28 hl 0 rfl (by decide) rfl (fun ls hl => ?_)
          refine z_goto S 2 dX4_isStill_31 (by decide) ?_
          exact ih_2 (k + 1) (by omega) (lt_stp hI (by simp [c_23])) (by omega) ls (lv_sub hl [0, 1, 2] rfl)
        · skip
          refine z_iconst S dX4_isStill_26 ?_
          exact ret _ _ _ dX4_isStill_27 (by rw [show stlM σ e = false from allI_no hk.1 c_8x (by simp [c_23])]; rfl)
  exact loop_2 _ (0) (by omega) (lt_st0) (Nat.lt_succ_self _) ls (lv_sub hl [0, 1, 2] rfl)
theorem dX4_areTwins_0 : decode cX4_areTwins 0 = .ok (.aload_n 0, 1) := by decide +kernel
theorem dX4_areTwins_1 : decode cX4_areTwins 1 = .ok (.iload_n 1, 1) := by decide +kernel
theorem dX4_areTwins_2 : decode cX4_areTwins 2 = .ok (.invokevirtual 81, 3) := by decide +kernel
theorem dX4_areTwins_5 : decode cX4_areTwins 5 = .ok (.aload_n 0, 1) := by decide +kernel
theorem dX4_areTwins_6 : decode cX4_areTwins 6 = .ok (.iload_n 2, 1) := by decide +kernel
theorem dX4_areTwins_7 : decode cX4_areTwins 7 = .ok (.invokevirtual 81, 3) := by decide +kernel
theorem dX4_areTwins_10 : decode cX4_areTwins 10 = .ok (.invokestatic 77, 3) := by decide +kernel
theorem dX4_areTwins_13 : decode cX4_areTwins 13 = .ok (.istore_n 3, 1) := by decide +kernel
theorem dX4_areTwins_14 : decode cX4_areTwins 14 = .ok (.iconst 0, 1) := by decide +kernel
theorem dX4_areTwins_15 : decode cX4_areTwins 15 = .ok (.istore 4, 2) := by decide +kernel
theorem dX4_areTwins_17 : decode cX4_areTwins 17 = .ok (.iload 4, 2) := by decide +kernel
theorem dX4_areTwins_19 : decode cX4_areTwins 19 = .ok (.iload_n 3, 1) := by decide +kernel
theorem dX4_areTwins_20 : decode cX4_areTwins 20 = .ok (.if_icmp .ge 28, 3) := by decide +kernel
theorem dX4_areTwins_23 : decode cX4_areTwins 23 = .ok (.aload_n 0, 1) := by decide +kernel
theorem dX4_areTwins_24 : decode cX4_areTwins 24 = .ok (.iload_n 1, 1) := by decide +kernel
theorem dX4_areTwins_25 : decode cX4_areTwins 25 = .ok (.iload 4, 2) := by decide +kernel
theorem dX4_areTwins_27 : decode cX4_areTwins 27 = .ok (.invokevirtual 84, 3) := by decide +kernel
theorem dX4_areTwins_30 : decode cX4_areTwins 30 = .ok (.aload_n 0, 1) := by decide +kernel
theorem dX4_areTwins_31 : decode cX4_areTwins 31 = .ok (.iload_n 2, 1) := by decide +kernel
theorem dX4_areTwins_32 : decode cX4_areTwins 32 = .ok (.iload 4, 2) := by decide +kernel
theorem dX4_areTwins_34 : decode cX4_areTwins 34 = .ok (.invokevirtual 84, 3) := by decide +kernel
theorem dX4_areTwins_37 : decode cX4_areTwins 37 = .ok (.if_icmp .eq 5, 3) := by decide +kernel
theorem dX4_areTwins_40 : decode cX4_areTwins 40 = .ok (.iconst 0, 1) := by decide +kernel
theorem dX4_areTwins_41 : decode cX4_areTwins 41 = .ok (.ireturn, 1) := by decide +kernel
theorem dX4_areTwins_42 : decode cX4_areTwins 42 = .ok (.iinc 4 1, 3) := by decide +kernel
theorem dX4_areTwins_45 : decode cX4_areTwins 45 = .ok (.goto (-28), 3) := by decide +kernel
theorem dX4_areTwins_48 : decode cX4_areTwins 48 = .ok (.iconst 1, 1) := by decide +kernel
theorem dX4_areTwins_49 : decode cX4_areTwins 49 = .ok (.ireturn, 1) := by decide +kernel
theorem q5_156 : (Jvm.Cond.methodLink "CyclepaintModel" (77 : Nat) ({ cls := "CyclepaintModel", name := "common", desc := "(II)I" } : Jvm.MethodName)) ∈ lw_g := zg_of (zin5 (List.mem_of_getElem? (i := 156) rfl)) rfl
theorem q5_148 : (Jvm.Cond.code ({ cls := "CyclepaintModel", name := "areTwins", desc := "(II)Z" } : Jvm.MethodName) prog_6_method_19_code (5 : Nat) (Option.some Jvm.ClassFile.FieldType.boolean)) ∈ lw_g := zg_of (zin5 (List.mem_of_getElem? (i := 148) rfl)) rfl
theorem q5_147 : (Jvm.Cond.instanceMethod ({ cls := "CyclepaintModel", name := "areTwins", desc := "(II)Z" } : Jvm.MethodName)) ∈ lw_g := zg_of (zin5 (List.mem_of_getElem? (i := 147) rfl)) rfl
theorem qs_31 : Cond.selects "CyclepaintModel" (⟨"CyclepaintModel", "areTwins", "(II)Z"⟩ : MethodName) (⟨"CyclepaintModel", "areTwins", "(II)Z"⟩ : MethodName) ∈ lw_g := zg_of (zinS (List.mem_of_getElem? (i := 31) rfl)) rfl
theorem ok_X4_areTwins : zOV yX4_areTwins cX4_areTwins 5 ((Option.some Jvm.ClassFile.FieldType.boolean)) 2 := ⟨⟨q5_148, q1_3, by decide, by decide, by decide +kernel⟩, q5_147, qs_31⟩
set_option maxHeartbeats 4000000 in
set_option maxRecDepth 100000 in
theorem c_X4_areTwins (l : Launch) (G : zG) (σ : St) (b : Nat → Nat) (th m1 m2 : Int32) (x y : Int) (hx : 0 ≤ x ∧ x < 16) (hy : 0 ≤ y ∧ y < 16) : Met l yX4_areTwins (wq yX4_areTwins cX4_areTwins 5 ((Option.some Jvm.ClassFile.FieldType.boolean))) (rmR 5 110) (va_Pc [.ref (b 0), .int (zI (x)), .int (zI (y))] (zK G (hMod G σ b th m1 m2))) (zQ (some (.int (bI (twnM σ x y))))) 0 0 zF := by
  refine z_enterB (by decide +kernel) (Nat.le_of_ble_eq_true rfl) ?_
  intro p env s m below meth cod Q S hG hP ret ls hl
  have hl : lv_has ls 5 [(0, .ref (b 0)), (1, .int (zI (x))), (2, .int (zI (y)))] := hl
  have hO := hP.2.2.2.2.2.2.2.2.2
  have hrn := hO.1
  have hb1 := rndE_b hO x
  have hb2 := rndE_b hO y
  have hxy : rndE σ x * rndE σ y ≤ 72900 := Int.le_trans (Int.mul_le_mul hb1.2 hb2.2 (by omega) (by omega)) (by omega)
  have hlb := lcI_b (a := rndE σ x) (b := rndE σ y) hb1.1 hb2.1
  refine z_aload_n S dX4_areTwins_0 hl 0 rfl rfl ?_
  refine z_iload_n S dX4_areTwins_1 hl 1 rfl rfl ?_
  refine z_callVs S hG (c_X4_roundOf l G σ b th m1 m2 (x) (by omega)) ok_X4_roundOf hP.1 zc_X4 rfl q5_149 (hP) ⟨rfl, rfl, by decide, by decide⟩ ⟨Nat.zero_le _, Nat.zero_le _⟩ rfl (Nat.le_of_ble_eq_true rfl) hl.1 rfl dX4_areTwins_2 ?_
  refine z_aload_n S dX4_areTwins_5 hl 0 rfl rfl ?_
  refine z_iload_n S dX4_areTwins_6 hl 2 rfl rfl ?_
  refine z_callVs S hG (c_X4_roundOf l G σ b th m1 m2 (y) (by omega)) ok_X4_roundOf hP.1 zc_X4 rfl q5_149 (hP) ⟨rfl, rfl, by decide, by decide⟩ ⟨Nat.zero_le _, Nat.zero_le _⟩ rfl (Nat.le_of_ble_eq_true rfl) hl.1 rfl dX4_areTwins_7 ?_
  refine z_callSs S hG (c_X4_common l G (rndE σ (x)) (rndE σ (y)) (by omega) (by omega)) ok_X4_common q5_156 (trivial) ⟨rfl, rfl, by decide, by decide⟩ ⟨Nat.zero_le _, Nat.zero_le _⟩ rfl (Nat.le_of_ble_eq_true rfl) hl.1 rfl dX4_areTwins_10 ?_
  refine z_istore_n (lv' := [(3, .int (zI (lcI (rndE σ (x)) (rndE σ (y))))), (0, .ref (b 0)), (1, .int (zI (x))), (2, .int (zI (y)))]) S dX4_areTwins_13 hl rfl (by decide) rfl (fun ls hl => ?_)
  refine z_iconst S dX4_areTwins_14 ?_
  refine z_istore (lv' := [(4, .int (zI (0))), (3, .int (zI (lcI (rndE σ (x)) (rndE σ (y))))), (0, .ref (b 0)), (1, .int (zI (x))), (2, .int (zI (y)))]) S dX4_areTwins_15 hl (by decide) rfl (fun ls hl => ?_)
  have loop_17 : ∀ (nn : Nat) (k : Int), (0 ≤ k ∧ k ≤ lcI (rndE σ x) (rndE σ y)) → (∀ t : Int, 0 ≤ t → t < k → twnB σ x y t = true) → ((lcI (rndE σ x) (rndE σ y) - k).toNat) < nn → ∀ ls, lv_has ls 5 [(4, .int (zI (k))), (3, .int (zI (lcI (rndE σ (x)) (rndE σ (y))))), (0, .ref (b 0)), (1, .int (zI (x))), (2, .int (zI (y)))] → W p l env (rmR 5 110) s m ([.ref (b 0), .int (zI (x)), .int (zI (y))] : List Value).toArray below meth cod s.heap [] 0 0 Q (F0 m 17 ls []) := by
    intro nn
    induction nn with
    | zero => intro _ _ _ h; exact absurd h (Nat.not_lt_zero _)
    | succ nn ih_17 =>
      intro k hk hI hm_17 ls hl
      refine z_iload S dX4_areTwins_17 hl 0 rfl ?_
      refine z_iload_n S dX4_areTwins_19 hl 1 rfl rfl ?_
      refine z_icmp_ge S 48 dX4_areTwins_20 (by decide) (by omega) (by omega) (fun c_20 => ?_) (fun c_20 => ?_)
      · skip
        refine z_iconst S dX4_areTwins_48 ?_
        exact ret _ _ _ dX4_areTwins_49 (by rw [show twnM σ x y = true from allI_iff.mpr (fun t h0 h1 => hI t h0 (by omega))]; rfl)
      · skip
        have c_20x : k < lcI (rndE σ x) (rndE σ y) := by omega
        refine z_aload_n S dX4_areTwins_23 hl 2 rfl rfl ?_
        refine z_iload_n S dX4_areTwins_24 hl 3 rfl rfl ?_
        refine z_iload S dX4_areTwins_25 hl 0 rfl ?_
        refine z_callVs S hG (c_X4_show l G σ b th m1 m2 (x) (k) (by omega) (by omega)) ok_X4_show hP.1 zc_X4 rfl q5_159 (hP) ⟨rfl, rfl, by decide, by decide⟩ ⟨Nat.zero_le _, Nat.zero_le _⟩ rfl (Nat.le_of_ble_eq_true rfl) hl.1 rfl dX4_areTwins_27 ?_
        refine z_aload_n S dX4_areTwins_30 hl 2 rfl rfl ?_
        refine z_iload_n S dX4_areTwins_31 hl 4 rfl rfl ?_
        refine z_iload S dX4_areTwins_32 hl 0 rfl ?_
        refine z_callVs S hG (c_X4_show l G σ b th m1 m2 (y) (k) (by omega) (by omega)) ok_X4_show hP.1 zc_X4 rfl q5_159 (hP) ⟨rfl, rfl, by decide, by decide⟩ ⟨Nat.zero_le _, Nat.zero_le _⟩ rfl (Nat.le_of_ble_eq_true rfl) hl.1 rfl dX4_areTwins_34 ?_
        refine lv_icmp_eq (tgt := 42) S.1 S.2.1 dX4_areTwins_37 (by decide) (fun c_37 => ?_) (fun c_37 => ?_)
        · skip
          refine z_iinc (lv' := [(4, .int (zI (k + 1))), (3, .int (zI (lcI (rndE σ (x)) (rndE σ (y))))), (0, .ref (b 0)), (1, .int (zI (x))), (2, .int (zI (y)))]) S dX4_areTwins_42 hl 0 rfl (by decide) rfl (fun ls hl => ?_)
          refine z_goto S 17 dX4_areTwins_45 (by decide) ?_
          exact ih_17 (k + 1) (by omega) (lt_stp hI (by unfold twnB; simp [c_37])) (by omega) ls (lv_sub hl [0, 1, 2, 3, 4] rfl)
        · skip
          refine z_iconst S dX4_areTwins_40 ?_
          exact ret _ _ _ dX4_areTwins_41 (by rw [show twnM σ x y = false from allI_no hk.1 c_20x (by unfold twnB; simp [c_37])]; rfl)
  exact loop_17 _ (0) (by omega) (lt_st0) (Nat.lt_succ_self _) ls (lv_sub hl [0, 1, 2, 3, 4] rfl)
theorem dX4_twins_0 : decode cX4_twins 0 = .ok (.iconst 0, 1) := by decide +kernel
theorem dX4_twins_1 : decode cX4_twins 1 = .ok (.istore_n 2, 1) := by decide +kernel
theorem dX4_twins_2 : decode cX4_twins 2 = .ok (.iconst 0, 1) := by decide +kernel
theorem dX4_twins_3 : decode cX4_twins 3 = .ok (.istore_n 3, 1) := by decide +kernel
theorem dX4_twins_4 : decode cX4_twins 4 = .ok (.iload_n 3, 1) := by decide +kernel
theorem dX4_twins_5 : decode cX4_twins 5 = .ok (.bipush 16, 2) := by decide +kernel
theorem dX4_twins_7 : decode cX4_twins 7 = .ok (.if_icmp .ge 28, 3) := by decide +kernel
theorem dX4_twins_10 : decode cX4_twins 10 = .ok (.iload_n 2, 1) := by decide +kernel
theorem dX4_twins_11 : decode cX4_twins 11 = .ok (.aload_n 0, 1) := by decide +kernel
theorem dX4_twins_12 : decode cX4_twins 12 = .ok (.iload_n 1, 1) := by decide +kernel
theorem dX4_twins_13 : decode cX4_twins 13 = .ok (.iload_n 3, 1) := by decide +kernel
theorem dX4_twins_14 : decode cX4_twins 14 = .ok (.invokevirtual 87, 3) := by decide +kernel
theorem dX4_twins_17 : decode cX4_twins 17 = .ok (.ifCond .eq 9, 3) := by decide +kernel
theorem dX4_twins_20 : decode cX4_twins 20 = .ok (.iconst 1, 1) := by decide +kernel
theorem dX4_twins_21 : decode cX4_twins 21 = .ok (.iload_n 3, 1) := by decide +kernel
theorem dX4_twins_22 : decode cX4_twins 22 = .ok (.ishl, 1) := by decide +kernel
theorem dX4_twins_23 : decode cX4_twins 23 = .ok (.goto 4, 3) := by decide +kernel
theorem dX4_twins_26 : decode cX4_twins 26 = .ok (.iconst 0, 1) := by decide +kernel
theorem dX4_twins_27 : decode cX4_twins 27 = .ok (.ior, 1) := by decide +kernel
theorem dX4_twins_28 : decode cX4_twins 28 = .ok (.istore_n 2, 1) := by decide +kernel
theorem dX4_twins_29 : decode cX4_twins 29 = .ok (.iinc 3 1, 3) := by decide +kernel
theorem dX4_twins_32 : decode cX4_twins 32 = .ok (.goto (-28), 3) := by decide +kernel
theorem dX4_twins_35 : decode cX4_twins 35 = .ok (.iload_n 2, 1) := by decide +kernel
theorem dX4_twins_36 : decode cX4_twins 36 = .ok (.ireturn, 1) := by decide +kernel
theorem q5_145 : (Jvm.Cond.methodLink "CyclepaintModel" (87 : Nat) ({ cls := "CyclepaintModel", name := "areTwins", desc := "(II)Z" } : Jvm.MethodName)) ∈ lw_g := zg_of (zin5 (List.mem_of_getElem? (i := 145) rfl)) rfl
theorem q5_144 : (Jvm.Cond.code ({ cls := "CyclepaintModel", name := "twins", desc := "(I)I" } : Jvm.MethodName) prog_6_method_20_code (4 : Nat) (Option.some Jvm.ClassFile.FieldType.int)) ∈ lw_g := zg_of (zin5 (List.mem_of_getElem? (i := 144) rfl)) rfl
theorem q5_143 : (Jvm.Cond.instanceMethod ({ cls := "CyclepaintModel", name := "twins", desc := "(I)I" } : Jvm.MethodName)) ∈ lw_g := zg_of (zin5 (List.mem_of_getElem? (i := 143) rfl)) rfl
theorem qs_30 : Cond.selects "CyclepaintModel" (⟨"CyclepaintModel", "twins", "(I)I"⟩ : MethodName) (⟨"CyclepaintModel", "twins", "(I)I"⟩ : MethodName) ∈ lw_g := zg_of (zinS (List.mem_of_getElem? (i := 30) rfl)) rfl
theorem ok_X4_twins : zOV yX4_twins cX4_twins 4 ((Option.some Jvm.ClassFile.FieldType.int)) 1 := ⟨⟨q5_144, q1_3, by decide, by decide, by decide +kernel⟩, q5_143, qs_30⟩
set_option maxHeartbeats 4000000 in
set_option maxRecDepth 100000 in
theorem c_X4_twins (l : Launch) (G : zG) (σ : St) (b : Nat → Nat) (th m1 m2 : Int32) (e : Int) (he : 0 ≤ e ∧ e < 16) : Met l yX4_twins (wq yX4_twins cX4_twins 4 ((Option.some Jvm.ClassFile.FieldType.int))) (rmR 6 134) (va_Pc [.ref (b 0), .int (zI (e))] (zK G (hMod G σ b th m1 m2))) (zQ (some (.int ((bstI (fun o => twnM σ e o) 16))))) 0 0 zF := by
  refine z_enterI (by decide +kernel) (Nat.le_of_ble_eq_true rfl) ?_
  intro p env s m below meth cod Q S hG hP ret ls hl
  have hl : lv_has ls 4 [(0, .ref (b 0)), (1, .int (zI (e)))] := hl
  have hO := hP.2.2.2.2.2.2.2.2.2
  have hrn := hO.1
  refine z_iconst S dX4_twins_0 ?_
  refine z_istore_n (lv' := [(2, .int (zI (0))), (0, .ref (b 0)), (1, .int (zI (e)))]) S dX4_twins_1 hl rfl (by decide) rfl (fun ls hl => ?_)
  refine z_iconst S dX4_twins_2 ?_
  refine z_istore_n (lv' := [(3, .int (zI (0))), (2, .int (zI (0))), (0, .ref (b 0)), (1, .int (zI (e)))]) S dX4_twins_3 hl rfl (by decide) rfl (fun ls hl => ?_)
  have loop_4 : ∀ (nn : Nat) (k : Int) (g : Int32), (0 ≤ k ∧ k ≤ 16) → (g = bstI (fun o => twnM σ e o) k) → ((16 - k).toNat) < nn → ∀ ls, lv_has ls 4 [(3, .int (zI (k))), (2, .int (g)), (0, .ref (b 0)), (1, .int (zI (e)))] → W p l env (rmR 6 134) s m ([.ref (b 0), .int (zI (e))] : List Value).toArray below meth cod s.heap [] 0 0 Q (F0 m 4 ls []) := by
    intro nn
    induction nn with
    | zero => intro _ _ _ _ h; exact absurd h (Nat.not_lt_zero _)
    | succ nn ih_4 =>
      intro k g hk hg hm_4 ls hl
      refine z_iload_n S dX4_twins_4 hl 0 rfl rfl ?_
      refine z_bipush S dX4_twins_5 rfl ?_
      refine z_icmp_ge S 35 dX4_twins_7 (by decide) (by omega) (by omega) (fun c_7 => ?_) (fun c_7 => ?_)
      · skip
        refine z_iload_n S dX4_twins_35 hl 1 rfl rfl ?_
        exact ret _ _ _ dX4_twins_36 (by rw [hg, show k = 16 by omega])
      · skip
        refine z_iload_n S dX4_twins_10 hl 1 rfl rfl ?_
        refine z_aload_n S dX4_twins_11 hl 2 rfl rfl ?_
        refine z_iload_n S dX4_twins_12 hl 3 rfl rfl ?_
        refine z_iload_n S dX4_twins_13 hl 0 rfl rfl ?_
        refine z_callVs S hG (c_X4_areTwins l G σ b th m1 m2 (e) (k) (by omega) (by omega)) ok_X4_areTwins hP.1 zc_X4 rfl q5_145 (hP) ⟨rfl, rfl, by decide, by decide⟩ ⟨Nat.zero_le _, Nat.zero_le _⟩ rfl (Nat.le_of_ble_eq_true rfl) hl.1 rfl dX4_twins_14 ?_
        refine z_bif_eq S 26 dX4_twins_17 (by decide) (fun c_17 => ?_) (fun c_17 => ?_)
        · skip
          refine z_iconst S dX4_twins_26 ?_
          refine lv_ior S.1 S.2.1 dX4_twins_27 ?_
          refine z_istore_n (lv' := [(2, .int ((g) ||| (zI (0)))), (3, .int (zI (k))), (0, .ref (b 0)), (1, .int (zI (e)))]) S dX4_twins_28 hl rfl (by decide) rfl (fun ls hl => ?_)
          refine z_iinc (lv' := [(3, .int (zI (k + 1))), (2, .int ((g) ||| (zI (0)))), (0, .ref (b 0)), (1, .int (zI (e)))]) S dX4_twins_29 hl 1 rfl (by decide) rfl (fun ls hl => ?_)
          refine z_goto S 4 dX4_twins_32 (by decide) ?_
          exact ih_4 (k + 1) ((g) ||| (zI (0))) (by omega) (by rw [bst_zero hk.1 c_17, ← hg]) (by omega) ls (lv_sub hl [0, 1, 2, 3] rfl)
        · skip
          refine z_iconst S dX4_twins_20 ?_
          refine z_iload_n S dX4_twins_21 hl 0 rfl rfl ?_
          refine lv_ishl S.1 S.2.1 dX4_twins_22 ?_
          refine z_goto S 27 dX4_twins_23 (by decide) ?_
          refine lv_ior S.1 S.2.1 dX4_twins_27 ?_
          refine z_istore_n (lv' := [(2, .int ((g) ||| ((zI (1)) <<< ((zI (k)) &&& 31)))), (3, .int (zI (k))), (0, .ref (b 0)), (1, .int (zI (e)))]) S dX4_twins_28 hl rfl (by decide) rfl (fun ls hl => ?_)
          refine z_iinc (lv' := [(3, .int (zI (k + 1))), (2, .int ((g) ||| ((zI (1)) <<< ((zI (k)) &&& 31)))), (0, .ref (b 0)), (1, .int (zI (e)))]) S dX4_twins_29 hl 1 rfl (by decide) rfl (fun ls hl => ?_)
          refine z_goto S 4 dX4_twins_32 (by decide) ?_
          exact ih_4 (k + 1) ((g) ||| ((zI (1)) <<< ((zI (k)) &&& 31))) (by omega) (by rw [bstI_s hk.1, if_pos c_17, ← hg]; rfl) (by omega) ls (lv_sub hl [0, 1, 2, 3] rfl)
  exact loop_4 _ (0) ((zI (0))) (by omega) (rfl) (Nat.lt_succ_self _) ls (lv_sub hl [0, 1, 2, 3] rfl)
theorem dJ6_numberOfTrailingZeros_0f7a4_0 : decode cJ6_numberOfTrailingZeros_0f7a4 0 = .ok (.iload_n 0, 1) := by decide +kernel
theorem dJ6_numberOfTrailingZeros_0f7a4_1 : decode cJ6_numberOfTrailingZeros_0f7a4 1 = .ok (.iconst (-1), 1) := by decide +kernel
theorem dJ6_numberOfTrailingZeros_0f7a4_2 : decode cJ6_numberOfTrailingZeros_0f7a4 2 = .ok (.ixor, 1) := by decide +kernel
theorem dJ6_numberOfTrailingZeros_0f7a4_3 : decode cJ6_numberOfTrailingZeros_0f7a4 3 = .ok (.iload_n 0, 1) := by decide +kernel
theorem dJ6_numberOfTrailingZeros_0f7a4_4 : decode cJ6_numberOfTrailingZeros_0f7a4 4 = .ok (.iconst 1, 1) := by decide +kernel
theorem dJ6_numberOfTrailingZeros_0f7a4_5 : decode cJ6_numberOfTrailingZeros_0f7a4 5 = .ok (.isub, 1) := by decide +kernel
theorem dJ6_numberOfTrailingZeros_0f7a4_6 : decode cJ6_numberOfTrailingZeros_0f7a4 6 = .ok (.iand, 1) := by decide +kernel
theorem dJ6_numberOfTrailingZeros_0f7a4_7 : decode cJ6_numberOfTrailingZeros_0f7a4 7 = .ok (.istore_n 0, 1) := by decide +kernel
theorem dJ6_numberOfTrailingZeros_0f7a4_8 : decode cJ6_numberOfTrailingZeros_0f7a4 8 = .ok (.iload_n 0, 1) := by decide +kernel
theorem dJ6_numberOfTrailingZeros_0f7a4_9 : decode cJ6_numberOfTrailingZeros_0f7a4 9 = .ok (.ifCond .gt 8, 3) := by decide +kernel
theorem dJ6_numberOfTrailingZeros_0f7a4_12 : decode cJ6_numberOfTrailingZeros_0f7a4 12 = .ok (.iload_n 0, 1) := by decide +kernel
theorem dJ6_numberOfTrailingZeros_0f7a4_13 : decode cJ6_numberOfTrailingZeros_0f7a4 13 = .ok (.bipush 32, 2) := by decide +kernel
theorem dJ6_numberOfTrailingZeros_0f7a4_15 : decode cJ6_numberOfTrailingZeros_0f7a4 15 = .ok (.iand, 1) := by decide +kernel
theorem dJ6_numberOfTrailingZeros_0f7a4_16 : decode cJ6_numberOfTrailingZeros_0f7a4 16 = .ok (.ireturn, 1) := by decide +kernel
theorem dJ6_numberOfTrailingZeros_0f7a4_17 : decode cJ6_numberOfTrailingZeros_0f7a4 17 = .ok (.iconst 1, 1) := by decide +kernel
theorem dJ6_numberOfTrailingZeros_0f7a4_18 : decode cJ6_numberOfTrailingZeros_0f7a4 18 = .ok (.istore_n 1, 1) := by decide +kernel
theorem dJ6_numberOfTrailingZeros_0f7a4_19 : decode cJ6_numberOfTrailingZeros_0f7a4 19 = .ok (.iload_n 0, 1) := by decide +kernel
theorem dJ6_numberOfTrailingZeros_0f7a4_20 : decode cJ6_numberOfTrailingZeros_0f7a4 20 = .ok (.ldc_w 264, 3) := by decide +kernel
theorem dJ6_numberOfTrailingZeros_0f7a4_23 : decode cJ6_numberOfTrailingZeros_0f7a4 23 = .ok (.if_icmp .le 11, 3) := by decide +kernel
theorem dJ6_numberOfTrailingZeros_0f7a4_26 : decode cJ6_numberOfTrailingZeros_0f7a4 26 = .ok (.iinc 1 16, 3) := by decide +kernel
theorem dJ6_numberOfTrailingZeros_0f7a4_29 : decode cJ6_numberOfTrailingZeros_0f7a4 29 = .ok (.iload_n 0, 1) := by decide +kernel
theorem dJ6_numberOfTrailingZeros_0f7a4_30 : decode cJ6_numberOfTrailingZeros_0f7a4 30 = .ok (.bipush 16, 2) := by decide +kernel
theorem dJ6_numberOfTrailingZeros_0f7a4_32 : decode cJ6_numberOfTrailingZeros_0f7a4 32 = .ok (.iushr, 1) := by decide +kernel
theorem dJ6_numberOfTrailingZeros_0f7a4_33 : decode cJ6_numberOfTrailingZeros_0f7a4 33 = .ok (.istore_n 0, 1) := by decide +kernel
theorem dJ6_numberOfTrailingZeros_0f7a4_34 : decode cJ6_numberOfTrailingZeros_0f7a4 34 = .ok (.iload_n 0, 1) := by decide +kernel
theorem dJ6_numberOfTrailingZeros_0f7a4_35 : decode cJ6_numberOfTrailingZeros_0f7a4 35 = .ok (.sipush 256, 3) := by decide +kernel
theorem dJ6_numberOfTrailingZeros_0f7a4_38 : decode cJ6_numberOfTrailingZeros_0f7a4 38 = .ok (.if_icmp .le 11, 3) := by decide +kernel
theorem dJ6_numberOfTrailingZeros_0f7a4_41 : decode cJ6_numberOfTrailingZeros_0f7a4 41 = .ok (.iinc 1 8, 3) := by decide +kernel
theorem dJ6_numberOfTrailingZeros_0f7a4_44 : decode cJ6_numberOfTrailingZeros_0f7a4 44 = .ok (.iload_n 0, 1) := by decide +kernel
theorem dJ6_numberOfTrailingZeros_0f7a4_45 : decode cJ6_numberOfTrailingZeros_0f7a4 45 = .ok (.bipush 8, 2) := by decide +kernel
theorem dJ6_numberOfTrailingZeros_0f7a4_47 : decode cJ6_numberOfTrailingZeros_0f7a4 47 = .ok (.iushr, 1) := by decide +kernel
theorem dJ6_numberOfTrailingZeros_0f7a4_48 : decode cJ6_numberOfTrailingZeros_0f7a4 48 = .ok (.istore_n 0, 1) := by decide +kernel
theorem dJ6_numberOfTrailingZeros_0f7a4_49 : decode cJ6_numberOfTrailingZeros_0f7a4 49 = .ok (.iload_n 0, 1) := by decide +kernel
theorem dJ6_numberOfTrailingZeros_0f7a4_50 : decode cJ6_numberOfTrailingZeros_0f7a4 50 = .ok (.bipush 16, 2) := by decide +kernel
theorem dJ6_numberOfTrailingZeros_0f7a4_52 : decode cJ6_numberOfTrailingZeros_0f7a4 52 = .ok (.if_icmp .le 10, 3) := by decide +kernel
theorem dJ6_numberOfTrailingZeros_0f7a4_55 : decode cJ6_numberOfTrailingZeros_0f7a4 55 = .ok (.iinc 1 4, 3) := by decide +kernel
theorem dJ6_numberOfTrailingZeros_0f7a4_58 : decode cJ6_numberOfTrailingZeros_0f7a4 58 = .ok (.iload_n 0, 1) := by decide +kernel
theorem dJ6_numberOfTrailingZeros_0f7a4_59 : decode cJ6_numberOfTrailingZeros_0f7a4 59 = .ok (.iconst 4, 1) := by decide +kernel
theorem dJ6_numberOfTrailingZeros_0f7a4_60 : decode cJ6_numberOfTrailingZeros_0f7a4 60 = .ok (.iushr, 1) := by decide +kernel
theorem dJ6_numberOfTrailingZeros_0f7a4_61 : decode cJ6_numberOfTrailingZeros_0f7a4 61 = .ok (.istore_n 0, 1) := by decide +kernel
theorem dJ6_numberOfTrailingZeros_0f7a4_62 : decode cJ6_numberOfTrailingZeros_0f7a4 62 = .ok (.iload_n 0, 1) := by decide +kernel
theorem dJ6_numberOfTrailingZeros_0f7a4_63 : decode cJ6_numberOfTrailingZeros_0f7a4 63 = .ok (.iconst 4, 1) := by decide +kernel
theorem dJ6_numberOfTrailingZeros_0f7a4_64 : decode cJ6_numberOfTrailingZeros_0f7a4 64 = .ok (.if_icmp .le 10, 3) := by decide +kernel
theorem dJ6_numberOfTrailingZeros_0f7a4_67 : decode cJ6_numberOfTrailingZeros_0f7a4 67 = .ok (.iinc 1 2, 3) := by decide +kernel
theorem dJ6_numberOfTrailingZeros_0f7a4_70 : decode cJ6_numberOfTrailingZeros_0f7a4 70 = .ok (.iload_n 0, 1) := by decide +kernel
theorem dJ6_numberOfTrailingZeros_0f7a4_71 : decode cJ6_numberOfTrailingZeros_0f7a4 71 = .ok (.iconst 2, 1) := by decide +kernel
theorem dJ6_numberOfTrailingZeros_0f7a4_72 : decode cJ6_numberOfTrailingZeros_0f7a4 72 = .ok (.iushr, 1) := by decide +kernel
theorem dJ6_numberOfTrailingZeros_0f7a4_73 : decode cJ6_numberOfTrailingZeros_0f7a4 73 = .ok (.istore_n 0, 1) := by decide +kernel
theorem dJ6_numberOfTrailingZeros_0f7a4_74 : decode cJ6_numberOfTrailingZeros_0f7a4 74 = .ok (.iload_n 1, 1) := by decide +kernel
theorem dJ6_numberOfTrailingZeros_0f7a4_75 : decode cJ6_numberOfTrailingZeros_0f7a4 75 = .ok (.iload_n 0, 1) := by decide +kernel
theorem dJ6_numberOfTrailingZeros_0f7a4_76 : decode cJ6_numberOfTrailingZeros_0f7a4 76 = .ok (.iconst 1, 1) := by decide +kernel
theorem dJ6_numberOfTrailingZeros_0f7a4_77 : decode cJ6_numberOfTrailingZeros_0f7a4 77 = .ok (.iushr, 1) := by decide +kernel
theorem dJ6_numberOfTrailingZeros_0f7a4_78 : decode cJ6_numberOfTrailingZeros_0f7a4 78 = .ok (.iadd, 1) := by decide +kernel
theorem dJ6_numberOfTrailingZeros_0f7a4_79 : decode cJ6_numberOfTrailingZeros_0f7a4 79 = .ok (.ireturn, 1) := by decide +kernel
theorem q5_166 : (Jvm.Cond.constant "java/lang/Integer" (264 : Nat) (65536 : Int32)) ∈ lw_g := zg_of (zin5 (List.mem_of_getElem? (i := 166) rfl)) rfl
theorem q5_165 : (Jvm.Cond.code ({ cls := "java/lang/Integer", name := "numberOfTrailingZeros", desc := "(I)I" } : Jvm.MethodName) prog_17_method_48_code (2 : Nat) (Option.some Jvm.ClassFile.FieldType.int)) ∈ lw_g := zg_of (zin5 (List.mem_of_getElem? (i := 165) rfl)) rfl
theorem q5_164 : (Jvm.Cond.static ({ cls := "java/lang/Integer", name := "numberOfTrailingZeros", desc := "(I)I" } : Jvm.MethodName)) ∈ lw_g := zg_of (zin5 (List.mem_of_getElem? (i := 164) rfl)) rfl
theorem ok_J6_numberOfTrailingZeros_0f7a4 : zOS yJ6_numberOfTrailingZeros_0f7a4 cJ6_numberOfTrailingZeros_0f7a4 2 ((Option.some Jvm.ClassFile.FieldType.int)) 1 := ⟨⟨q5_165, q1_22, by decide, by decide, by decide +kernel⟩, q5_164⟩
set_option maxHeartbeats 4000000 in
set_option maxRecDepth 100000 in
theorem c_ntz (l : Launch) (G : zG) (x : Int32) (k : Int) (hk : 0 ≤ k ∧ k ≤ 15) (hx : (x ^^^ zI (-1)) &&& (x - zI 1) = zI (2 ^ k.toNat - 1)) : Met l yJ6_numberOfTrailingZeros_0f7a4 (wq yJ6_numberOfTrailingZeros_0f7a4 cJ6_numberOfTrailingZeros_0f7a4 2 ((Option.some Jvm.ClassFile.FieldType.int))) (rmR 0 0) (va_Pc [.int (x)] (zK G (fun _ => True))) (zQ (some (.int ((zI (k)))))) 0 0 zF := by
  refine z_enterI (by decide +kernel) (Nat.le_of_ble_eq_true rfl) ?_
  intro p env s m below meth cod Q S hG hP ret ls hl
  have hl : lv_has ls 2 [(0, .int (x))] := hl
  rcases (show k = 0 ∨ k = 1 ∨ k = 2 ∨ k = 3 ∨ k = 4 ∨ k = 5 ∨ k = 6 ∨ k = 7 ∨ k = 8 ∨ k = 9 ∨ k = 10 ∨ k = 11 ∨ k = 12 ∨ k = 13 ∨ k = 14 ∨ k = 15 by omega) with rfl | rfl | rfl | rfl | rfl | rfl | rfl | rfl | rfl | rfl | rfl | rfl | rfl | rfl | rfl | rfl
  · skip
    refine z_iload_n S dJ6_numberOfTrailingZeros_0f7a4_0 hl 0 rfl rfl ?_
    refine z_iconst S dJ6_numberOfTrailingZeros_0f7a4_1 ?_
    refine lv_ixor S.1 S.2.1 dJ6_numberOfTrailingZeros_0f7a4_2 ?_
    refine z_iload_n S dJ6_numberOfTrailingZeros_0f7a4_3 hl 0 rfl rfl ?_
    refine z_iconst S dJ6_numberOfTrailingZeros_0f7a4_4 ?_
    refine lv_isub S.1 S.2.1 dJ6_numberOfTrailingZeros_0f7a4_5 ?_
    refine lv_iand S.1 S.2.1 dJ6_numberOfTrailingZeros_0f7a4_6 ?_
    rw [hx]
    rw [show zI (2 ^ Int.toNat 0 - 1) = zI 0 from rfl]
    refine z_istore_n (lv' := [(0, .int (zI (0)))]) S dJ6_numberOfTrailingZeros_0f7a4_7 hl rfl (by decide) rfl (fun ls hl => ?_)
    refine z_iload_n S dJ6_numberOfTrailingZeros_0f7a4_8 hl 0 rfl rfl ?_
    refine z_if_gt_F S 17 dJ6_numberOfTrailingZeros_0f7a4_9 (by decide) (by omega) (by omega) ?_
    refine z_iload_n S dJ6_numberOfTrailingZeros_0f7a4_12 hl 0 rfl rfl ?_
    refine z_bipush S dJ6_numberOfTrailingZeros_0f7a4_13 rfl ?_
    refine lv_iand S.1 S.2.1 dJ6_numberOfTrailingZeros_0f7a4_15 ?_
    rw [show zI 0 &&& zI 32 = zI 0 from by decide]
    exact ret _ _ _ dJ6_numberOfTrailingZeros_0f7a4_16 (by decide)
  · skip
    refine z_iload_n S dJ6_numberOfTrailingZeros_0f7a4_0 hl 0 rfl rfl ?_
    refine z_iconst S dJ6_numberOfTrailingZeros_0f7a4_1 ?_
    refine lv_ixor S.1 S.2.1 dJ6_numberOfTrailingZeros_0f7a4_2 ?_
    refine z_iload_n S dJ6_numberOfTrailingZeros_0f7a4_3 hl 0 rfl rfl ?_
    refine z_iconst S dJ6_numberOfTrailingZeros_0f7a4_4 ?_
    refine lv_isub S.1 S.2.1 dJ6_numberOfTrailingZeros_0f7a4_5 ?_
    refine lv_iand S.1 S.2.1 dJ6_numberOfTrailingZeros_0f7a4_6 ?_
    rw [hx]
    rw [show zI (2 ^ Int.toNat 1 - 1) = zI 1 from rfl]
    refine z_istore_n (lv' := [(0, .int (zI (1)))]) S dJ6_numberOfTrailingZeros_0f7a4_7 hl rfl (by decide) rfl (fun ls hl => ?_)
    refine z_iload_n S dJ6_numberOfTrailingZeros_0f7a4_8 hl 0 rfl rfl ?_
    refine z_if_gt_T S 17 dJ6_numberOfTrailingZeros_0f7a4_9 (by decide) (by omega) (by omega) ?_
    refine z_iconst S dJ6_numberOfTrailingZeros_0f7a4_17 ?_
    refine z_istore_n (lv' := [(1, .int (zI (1))), (0, .int (zI (1)))]) S dJ6_numberOfTrailingZeros_0f7a4_18 hl rfl (by decide) rfl (fun ls hl => ?_)
    refine z_iload_n S dJ6_numberOfTrailingZeros_0f7a4_19 hl 1 rfl rfl ?_
    refine lv_ldcw S.1 S.2.1 S.2.2.2.1 (S.2.2.2.2 _ q5_166) dJ6_numberOfTrailingZeros_0f7a4_20 ?_
    refine lv_icmp_le (tgt := 34) S.1 S.2.1 dJ6_numberOfTrailingZeros_0f7a4_23 (by decide) (fun c_23 => ?_) (fun c_23 => ?_)
    rotate_left
    · exact absurd (by decide) c_23
    refine z_iload_n S dJ6_numberOfTrailingZeros_0f7a4_34 hl 1 rfl rfl ?_
    refine z_sipush S dJ6_numberOfTrailingZeros_0f7a4_35 rfl ?_
    refine z_icmp_le_T S 49 dJ6_numberOfTrailingZeros_0f7a4_38 (by decide) (by omega) (by omega) (by omega) ?_
    refine z_iload_n S dJ6_numberOfTrailingZeros_0f7a4_49 hl 1 rfl rfl ?_
    refine z_bipush S dJ6_numberOfTrailingZeros_0f7a4_50 rfl ?_
    refine z_icmp_le_T S 62 dJ6_numberOfTrailingZeros_0f7a4_52 (by decide) (by omega) (by omega) (by omega) ?_
    refine z_iload_n S dJ6_numberOfTrailingZeros_0f7a4_62 hl 1 rfl rfl ?_
    refine z_iconst S dJ6_numberOfTrailingZeros_0f7a4_63 ?_
    refine z_icmp_le_T S 74 dJ6_numberOfTrailingZeros_0f7a4_64 (by decide) (by omega) (by omega) (by omega) ?_
    refine z_iload_n S dJ6_numberOfTrailingZeros_0f7a4_74 hl 0 rfl rfl ?_
    refine z_iload_n S dJ6_numberOfTrailingZeros_0f7a4_75 hl 1 rfl rfl ?_
    refine z_iconst S dJ6_numberOfTrailingZeros_0f7a4_76 ?_
    refine lv_iushr S.1 S.2.1 dJ6_numberOfTrailingZeros_0f7a4_77 (v := zI 0) (by decide) ?_
    refine z_iadd S dJ6_numberOfTrailingZeros_0f7a4_78 ?_
    exact ret _ _ _ dJ6_numberOfTrailingZeros_0f7a4_79 (by decide)
  · skip
    refine z_iload_n S dJ6_numberOfTrailingZeros_0f7a4_0 hl 0 rfl rfl ?_
    refine z_iconst S dJ6_numberOfTrailingZeros_0f7a4_1 ?_
    refine lv_ixor S.1 S.2.1 dJ6_numberOfTrailingZeros_0f7a4_2 ?_
    refine z_iload_n S dJ6_numberOfTrailingZeros_0f7a4_3 hl 0 rfl rfl ?_
    refine z_iconst S dJ6_numberOfTrailingZeros_0f7a4_4 ?_
    refine lv_isub S.1 S.2.1 dJ6_numberOfTrailingZeros_0f7a4_5 ?_
    refine lv_iand S.1 S.2.1 dJ6_numberOfTrailingZeros_0f7a4_6 ?_
    rw [hx]
    rw [show zI (2 ^ Int.toNat 2 - 1) = zI 3 from rfl]
    refine z_istore_n (lv' := [(0, .int (zI (3)))]) S dJ6_numberOfTrailingZeros_0f7a4_7 hl rfl (by decide) rfl (fun ls hl => ?_)
    refine z_iload_n S dJ6_numberOfTrailingZeros_0f7a4_8 hl 0 rfl rfl ?_
    refine z_if_gt_T S 17 dJ6_numberOfTrailingZeros_0f7a4_9 (by decide) (by omega) (by omega) ?_
    refine z_iconst S dJ6_numberOfTrailingZeros_0f7a4_17 ?_
    refine z_istore_n (lv' := [(1, .int (zI (1))), (0, .int (zI (3)))]) S dJ6_numberOfTrailingZeros_0f7a4_18 hl rfl (by decide) rfl (fun ls hl => ?_)
    refine z_iload_n S dJ6_numberOfTrailingZeros_0f7a4_19 hl 1 rfl rfl ?_
    refine lv_ldcw S.1 S.2.1 S.2.2.2.1 (S.2.2.2.2 _ q5_166) dJ6_numberOfTrailingZeros_0f7a4_20 ?_
    refine lv_icmp_le (tgt := 34) S.1 S.2.1 dJ6_numberOfTrailingZeros_0f7a4_23 (by decide) (fun c_23 => ?_) (fun c_23 => ?_)
    rotate_left
    · exact absurd (by decide) c_23
    refine z_iload_n S dJ6_numberOfTrailingZeros_0f7a4_34 hl 1 rfl rfl ?_
    refine z_sipush S dJ6_numberOfTrailingZeros_0f7a4_35 rfl ?_
    refine z_icmp_le_T S 49 dJ6_numberOfTrailingZeros_0f7a4_38 (by decide) (by omega) (by omega) (by omega) ?_
    refine z_iload_n S dJ6_numberOfTrailingZeros_0f7a4_49 hl 1 rfl rfl ?_
    refine z_bipush S dJ6_numberOfTrailingZeros_0f7a4_50 rfl ?_
    refine z_icmp_le_T S 62 dJ6_numberOfTrailingZeros_0f7a4_52 (by decide) (by omega) (by omega) (by omega) ?_
    refine z_iload_n S dJ6_numberOfTrailingZeros_0f7a4_62 hl 1 rfl rfl ?_
    refine z_iconst S dJ6_numberOfTrailingZeros_0f7a4_63 ?_
    refine z_icmp_le_T S 74 dJ6_numberOfTrailingZeros_0f7a4_64 (by decide) (by omega) (by omega) (by omega) ?_
    refine z_iload_n S dJ6_numberOfTrailingZeros_0f7a4_74 hl 0 rfl rfl ?_
    refine z_iload_n S dJ6_numberOfTrailingZeros_0f7a4_75 hl 1 rfl rfl ?_
    refine z_iconst S dJ6_numberOfTrailingZeros_0f7a4_76 ?_
    refine lv_iushr S.1 S.2.1 dJ6_numberOfTrailingZeros_0f7a4_77 (v := zI 1) (by decide) ?_
    refine z_iadd S dJ6_numberOfTrailingZeros_0f7a4_78 ?_
    exact ret _ _ _ dJ6_numberOfTrailingZeros_0f7a4_79 (by decide)
  · skip
    refine z_iload_n S dJ6_numberOfTrailingZeros_0f7a4_0 hl 0 rfl rfl ?_
    refine z_iconst S dJ6_numberOfTrailingZeros_0f7a4_1 ?_
    refine lv_ixor S.1 S.2.1 dJ6_numberOfTrailingZeros_0f7a4_2 ?_
    refine z_iload_n S dJ6_numberOfTrailingZeros_0f7a4_3 hl 0 rfl rfl ?_
    refine z_iconst S dJ6_numberOfTrailingZeros_0f7a4_4 ?_
    refine lv_isub S.1 S.2.1 dJ6_numberOfTrailingZeros_0f7a4_5 ?_
    refine lv_iand S.1 S.2.1 dJ6_numberOfTrailingZeros_0f7a4_6 ?_
    rw [hx]
    rw [show zI (2 ^ Int.toNat 3 - 1) = zI 7 from rfl]
    refine z_istore_n (lv' := [(0, .int (zI (7)))]) S dJ6_numberOfTrailingZeros_0f7a4_7 hl rfl (by decide) rfl (fun ls hl => ?_)
    refine z_iload_n S dJ6_numberOfTrailingZeros_0f7a4_8 hl 0 rfl rfl ?_
    refine z_if_gt_T S 17 dJ6_numberOfTrailingZeros_0f7a4_9 (by decide) (by omega) (by omega) ?_
    refine z_iconst S dJ6_numberOfTrailingZeros_0f7a4_17 ?_
    refine z_istore_n (lv' := [(1, .int (zI (1))), (0, .int (zI (7)))]) S dJ6_numberOfTrailingZeros_0f7a4_18 hl rfl (by decide) rfl (fun ls hl => ?_)
    refine z_iload_n S dJ6_numberOfTrailingZeros_0f7a4_19 hl 1 rfl rfl ?_
    refine lv_ldcw S.1 S.2.1 S.2.2.2.1 (S.2.2.2.2 _ q5_166) dJ6_numberOfTrailingZeros_0f7a4_20 ?_
    refine lv_icmp_le (tgt := 34) S.1 S.2.1 dJ6_numberOfTrailingZeros_0f7a4_23 (by decide) (fun c_23 => ?_) (fun c_23 => ?_)
    rotate_left
    · exact absurd (by decide) c_23
    refine z_iload_n S dJ6_numberOfTrailingZeros_0f7a4_34 hl 1 rfl rfl ?_
    refine z_sipush S dJ6_numberOfTrailingZeros_0f7a4_35 rfl ?_
    refine z_icmp_le_T S 49 dJ6_numberOfTrailingZeros_0f7a4_38 (by decide) (by omega) (by omega) (by omega) ?_
    refine z_iload_n S dJ6_numberOfTrailingZeros_0f7a4_49 hl 1 rfl rfl ?_
    refine z_bipush S dJ6_numberOfTrailingZeros_0f7a4_50 rfl ?_
    refine z_icmp_le_T S 62 dJ6_numberOfTrailingZeros_0f7a4_52 (by decide) (by omega) (by omega) (by omega) ?_
    refine z_iload_n S dJ6_numberOfTrailingZeros_0f7a4_62 hl 1 rfl rfl ?_
    refine z_iconst S dJ6_numberOfTrailingZeros_0f7a4_63 ?_
    refine z_icmp_le_F S 74 dJ6_numberOfTrailingZeros_0f7a4_64 (by decide) (by omega) (by omega) (by omega) ?_
    refine z_iinc (lv' := [(1, .int (zI (1 + 2))), (0, .int (zI (7)))]) S dJ6_numberOfTrailingZeros_0f7a4_67 hl 0 rfl (by decide) rfl (fun ls hl => ?_)
    refine z_iload_n S dJ6_numberOfTrailingZeros_0f7a4_70 hl 1 rfl rfl ?_
    refine z_iconst S dJ6_numberOfTrailingZeros_0f7a4_71 ?_
    refine lv_iushr S.1 S.2.1 dJ6_numberOfTrailingZeros_0f7a4_72 (v := zI 1) (by decide) ?_
    refine z_istore_n (lv' := [(0, .int (zI (1))), (1, .int (zI (1 + 2)))]) S dJ6_numberOfTrailingZeros_0f7a4_73 hl rfl (by decide) rfl (fun ls hl => ?_)
    refine z_iload_n S dJ6_numberOfTrailingZeros_0f7a4_74 hl 1 rfl rfl ?_
    refine z_iload_n S dJ6_numberOfTrailingZeros_0f7a4_75 hl 0 rfl rfl ?_
    refine z_iconst S dJ6_numberOfTrailingZeros_0f7a4_76 ?_
    refine lv_iushr S.1 S.2.1 dJ6_numberOfTrailingZeros_0f7a4_77 (v := zI 0) (by decide) ?_
    refine z_iadd S dJ6_numberOfTrailingZeros_0f7a4_78 ?_
    exact ret _ _ _ dJ6_numberOfTrailingZeros_0f7a4_79 (by decide)
  · skip
    refine z_iload_n S dJ6_numberOfTrailingZeros_0f7a4_0 hl 0 rfl rfl ?_
    refine z_iconst S dJ6_numberOfTrailingZeros_0f7a4_1 ?_
    refine lv_ixor S.1 S.2.1 dJ6_numberOfTrailingZeros_0f7a4_2 ?_
    refine z_iload_n S dJ6_numberOfTrailingZeros_0f7a4_3 hl 0 rfl rfl ?_
    refine z_iconst S dJ6_numberOfTrailingZeros_0f7a4_4 ?_
    refine lv_isub S.1 S.2.1 dJ6_numberOfTrailingZeros_0f7a4_5 ?_
    refine lv_iand S.1 S.2.1 dJ6_numberOfTrailingZeros_0f7a4_6 ?_
    rw [hx]
    rw [show zI (2 ^ Int.toNat 4 - 1) = zI 15 from rfl]
    refine z_istore_n (lv' := [(0, .int (zI (15)))]) S dJ6_numberOfTrailingZeros_0f7a4_7 hl rfl (by decide) rfl (fun ls hl => ?_)
    refine z_iload_n S dJ6_numberOfTrailingZeros_0f7a4_8 hl 0 rfl rfl ?_
    refine z_if_gt_T S 17 dJ6_numberOfTrailingZeros_0f7a4_9 (by decide) (by omega) (by omega) ?_
    refine z_iconst S dJ6_numberOfTrailingZeros_0f7a4_17 ?_
    refine z_istore_n (lv' := [(1, .int (zI (1))), (0, .int (zI (15)))]) S dJ6_numberOfTrailingZeros_0f7a4_18 hl rfl (by decide) rfl (fun ls hl => ?_)
    refine z_iload_n S dJ6_numberOfTrailingZeros_0f7a4_19 hl 1 rfl rfl ?_
    refine lv_ldcw S.1 S.2.1 S.2.2.2.1 (S.2.2.2.2 _ q5_166) dJ6_numberOfTrailingZeros_0f7a4_20 ?_
    refine lv_icmp_le (tgt := 34) S.1 S.2.1 dJ6_numberOfTrailingZeros_0f7a4_23 (by decide) (fun c_23 => ?_) (fun c_23 => ?_)
    rotate_left
    · exact absurd (by decide) c_23
    refine z_iload_n S dJ6_numberOfTrailingZeros_0f7a4_34 hl 1 rfl rfl ?_
    refine z_sipush S dJ6_numberOfTrailingZeros_0f7a4_35 rfl ?_
    refine z_icmp_le_T S 49 dJ6_numberOfTrailingZeros_0f7a4_38 (by decide) (by omega) (by omega) (by omega) ?_
    refine z_iload_n S dJ6_numberOfTrailingZeros_0f7a4_49 hl 1 rfl rfl ?_
    refine z_bipush S dJ6_numberOfTrailingZeros_0f7a4_50 rfl ?_
    refine z_icmp_le_T S 62 dJ6_numberOfTrailingZeros_0f7a4_52 (by decide) (by omega) (by omega) (by omega) ?_
    refine z_iload_n S dJ6_numberOfTrailingZeros_0f7a4_62 hl 1 rfl rfl ?_
    refine z_iconst S dJ6_numberOfTrailingZeros_0f7a4_63 ?_
    refine z_icmp_le_F S 74 dJ6_numberOfTrailingZeros_0f7a4_64 (by decide) (by omega) (by omega) (by omega) ?_
    refine z_iinc (lv' := [(1, .int (zI (1 + 2))), (0, .int (zI (15)))]) S dJ6_numberOfTrailingZeros_0f7a4_67 hl 0 rfl (by decide) rfl (fun ls hl => ?_)
    refine z_iload_n S dJ6_numberOfTrailingZeros_0f7a4_70 hl 1 rfl rfl ?_
    refine z_iconst S dJ6_numberOfTrailingZeros_0f7a4_71 ?_
    refine lv_iushr S.1 S.2.1 dJ6_numberOfTrailingZeros_0f7a4_72 (v := zI 3) (by decide) ?_
    refine z_istore_n (lv' := [(0, .int (zI (3))), (1, .int (zI (1 + 2)))]) S dJ6_numberOfTrailingZeros_0f7a4_73 hl rfl (by decide) rfl (fun ls hl => ?_)
    refine z_iload_n S dJ6_numberOfTrailingZeros_0f7a4_74 hl 1 rfl rfl ?_
    refine z_iload_n S dJ6_numberOfTrailingZeros_0f7a4_75 hl 0 rfl rfl ?_
    refine z_iconst S dJ6_numberOfTrailingZeros_0f7a4_76 ?_
    refine lv_iushr S.1 S.2.1 dJ6_numberOfTrailingZeros_0f7a4_77 (v := zI 1) (by decide) ?_
    refine z_iadd S dJ6_numberOfTrailingZeros_0f7a4_78 ?_
    exact ret _ _ _ dJ6_numberOfTrailingZeros_0f7a4_79 (by decide)
  · skip
    refine z_iload_n S dJ6_numberOfTrailingZeros_0f7a4_0 hl 0 rfl rfl ?_
    refine z_iconst S dJ6_numberOfTrailingZeros_0f7a4_1 ?_
    refine lv_ixor S.1 S.2.1 dJ6_numberOfTrailingZeros_0f7a4_2 ?_
    refine z_iload_n S dJ6_numberOfTrailingZeros_0f7a4_3 hl 0 rfl rfl ?_
    refine z_iconst S dJ6_numberOfTrailingZeros_0f7a4_4 ?_
    refine lv_isub S.1 S.2.1 dJ6_numberOfTrailingZeros_0f7a4_5 ?_
    refine lv_iand S.1 S.2.1 dJ6_numberOfTrailingZeros_0f7a4_6 ?_
    rw [hx]
    rw [show zI (2 ^ Int.toNat 5 - 1) = zI 31 from rfl]
    refine z_istore_n (lv' := [(0, .int (zI (31)))]) S dJ6_numberOfTrailingZeros_0f7a4_7 hl rfl (by decide) rfl (fun ls hl => ?_)
    refine z_iload_n S dJ6_numberOfTrailingZeros_0f7a4_8 hl 0 rfl rfl ?_
    refine z_if_gt_T S 17 dJ6_numberOfTrailingZeros_0f7a4_9 (by decide) (by omega) (by omega) ?_
    refine z_iconst S dJ6_numberOfTrailingZeros_0f7a4_17 ?_
    refine z_istore_n (lv' := [(1, .int (zI (1))), (0, .int (zI (31)))]) S dJ6_numberOfTrailingZeros_0f7a4_18 hl rfl (by decide) rfl (fun ls hl => ?_)
    refine z_iload_n S dJ6_numberOfTrailingZeros_0f7a4_19 hl 1 rfl rfl ?_
    refine lv_ldcw S.1 S.2.1 S.2.2.2.1 (S.2.2.2.2 _ q5_166) dJ6_numberOfTrailingZeros_0f7a4_20 ?_
    refine lv_icmp_le (tgt := 34) S.1 S.2.1 dJ6_numberOfTrailingZeros_0f7a4_23 (by decide) (fun c_23 => ?_) (fun c_23 => ?_)
    rotate_left
    · exact absurd (by decide) c_23
    refine z_iload_n S dJ6_numberOfTrailingZeros_0f7a4_34 hl 1 rfl rfl ?_
    refine z_sipush S dJ6_numberOfTrailingZeros_0f7a4_35 rfl ?_
    refine z_icmp_le_T S 49 dJ6_numberOfTrailingZeros_0f7a4_38 (by decide) (by omega) (by omega) (by omega) ?_
    refine z_iload_n S dJ6_numberOfTrailingZeros_0f7a4_49 hl 1 rfl rfl ?_
    refine z_bipush S dJ6_numberOfTrailingZeros_0f7a4_50 rfl ?_
    refine z_icmp_le_F S 62 dJ6_numberOfTrailingZeros_0f7a4_52 (by decide) (by omega) (by omega) (by omega) ?_
    refine z_iinc (lv' := [(1, .int (zI (1 + 4))), (0, .int (zI (31)))]) S dJ6_numberOfTrailingZeros_0f7a4_55 hl 0 rfl (by decide) rfl (fun ls hl => ?_)
    refine z_iload_n S dJ6_numberOfTrailingZeros_0f7a4_58 hl 1 rfl rfl ?_
    refine z_iconst S dJ6_numberOfTrailingZeros_0f7a4_59 ?_
    refine lv_iushr S.1 S.2.1 dJ6_numberOfTrailingZeros_0f7a4_60 (v := zI 1) (by decide) ?_
    refine z_istore_n (lv' := [(0, .int (zI (1))), (1, .int (zI (1 + 4)))]) S dJ6_numberOfTrailingZeros_0f7a4_61 hl rfl (by decide) rfl (fun ls hl => ?_)
    refine z_iload_n S dJ6_numberOfTrailingZeros_0f7a4_62 hl 0 rfl rfl ?_
    refine z_iconst S dJ6_numberOfTrailingZeros_0f7a4_63 ?_
    refine z_icmp_le_T S 74 dJ6_numberOfTrailingZeros_0f7a4_64 (by decide) (by omega) (by omega) (by omega) ?_
    refine z_iload_n S dJ6_numberOfTrailingZeros_0f7a4_74 hl 1 rfl rfl ?_
    refine z_iload_n S dJ6_numberOfTrailingZeros_0f7a4_75 hl 0 rfl rfl ?_
    refine z_iconst S dJ6_numberOfTrailingZeros_0f7a4_76 ?_
    refine lv_iushr S.1 S.2.1 dJ6_numberOfTrailingZeros_0f7a4_77 (v := zI 0) (by decide) ?_
    refine z_iadd S dJ6_numberOfTrailingZeros_0f7a4_78 ?_
    exact ret _ _ _ dJ6_numberOfTrailingZeros_0f7a4_79 (by decide)
  · skip
    refine z_iload_n S dJ6_numberOfTrailingZeros_0f7a4_0 hl 0 rfl rfl ?_
    refine z_iconst S dJ6_numberOfTrailingZeros_0f7a4_1 ?_
    refine lv_ixor S.1 S.2.1 dJ6_numberOfTrailingZeros_0f7a4_2 ?_
    refine z_iload_n S dJ6_numberOfTrailingZeros_0f7a4_3 hl 0 rfl rfl ?_
    refine z_iconst S dJ6_numberOfTrailingZeros_0f7a4_4 ?_
    refine lv_isub S.1 S.2.1 dJ6_numberOfTrailingZeros_0f7a4_5 ?_
    refine lv_iand S.1 S.2.1 dJ6_numberOfTrailingZeros_0f7a4_6 ?_
    rw [hx]
    rw [show zI (2 ^ Int.toNat 6 - 1) = zI 63 from rfl]
    refine z_istore_n (lv' := [(0, .int (zI (63)))]) S dJ6_numberOfTrailingZeros_0f7a4_7 hl rfl (by decide) rfl (fun ls hl => ?_)
    refine z_iload_n S dJ6_numberOfTrailingZeros_0f7a4_8 hl 0 rfl rfl ?_
    refine z_if_gt_T S 17 dJ6_numberOfTrailingZeros_0f7a4_9 (by decide) (by omega) (by omega) ?_
    refine z_iconst S dJ6_numberOfTrailingZeros_0f7a4_17 ?_
    refine z_istore_n (lv' := [(1, .int (zI (1))), (0, .int (zI (63)))]) S dJ6_numberOfTrailingZeros_0f7a4_18 hl rfl (by decide) rfl (fun ls hl => ?_)
    refine z_iload_n S dJ6_numberOfTrailingZeros_0f7a4_19 hl 1 rfl rfl ?_
    refine lv_ldcw S.1 S.2.1 S.2.2.2.1 (S.2.2.2.2 _ q5_166) dJ6_numberOfTrailingZeros_0f7a4_20 ?_
    refine lv_icmp_le (tgt := 34) S.1 S.2.1 dJ6_numberOfTrailingZeros_0f7a4_23 (by decide) (fun c_23 => ?_) (fun c_23 => ?_)
    rotate_left
    · exact absurd (by decide) c_23
    refine z_iload_n S dJ6_numberOfTrailingZeros_0f7a4_34 hl 1 rfl rfl ?_
    refine z_sipush S dJ6_numberOfTrailingZeros_0f7a4_35 rfl ?_
    refine z_icmp_le_T S 49 dJ6_numberOfTrailingZeros_0f7a4_38 (by decide) (by omega) (by omega) (by omega) ?_
    refine z_iload_n S dJ6_numberOfTrailingZeros_0f7a4_49 hl 1 rfl rfl ?_
    refine z_bipush S dJ6_numberOfTrailingZeros_0f7a4_50 rfl ?_
    refine z_icmp_le_F S 62 dJ6_numberOfTrailingZeros_0f7a4_52 (by decide) (by omega) (by omega) (by omega) ?_
    refine z_iinc (lv' := [(1, .int (zI (1 + 4))), (0, .int (zI (63)))]) S dJ6_numberOfTrailingZeros_0f7a4_55 hl 0 rfl (by decide) rfl (fun ls hl => ?_)
    refine z_iload_n S dJ6_numberOfTrailingZeros_0f7a4_58 hl 1 rfl rfl ?_
    refine z_iconst S dJ6_numberOfTrailingZeros_0f7a4_59 ?_
    refine lv_iushr S.1 S.2.1 dJ6_numberOfTrailingZeros_0f7a4_60 (v := zI 3) (by decide) ?_
    refine z_istore_n (lv' := [(0, .int (zI (3))), (1, .int (zI (1 + 4)))]) S dJ6_numberOfTrailingZeros_0f7a4_61 hl rfl (by decide) rfl (fun ls hl => ?_)
    refine z_iload_n S dJ6_numberOfTrailingZeros_0f7a4_62 hl 0 rfl rfl ?_
    refine z_iconst S dJ6_numberOfTrailingZeros_0f7a4_63 ?_
    refine z_icmp_le_T S 74 dJ6_numberOfTrailingZeros_0f7a4_64 (by decide) (by omega) (by omega) (by omega) ?_
    refine z_iload_n S dJ6_numberOfTrailingZeros_0f7a4_74 hl 1 rfl rfl ?_
    refine z_iload_n S dJ6_numberOfTrailingZeros_0f7a4_75 hl 0 rfl rfl ?_
    refine z_iconst S dJ6_numberOfTrailingZeros_0f7a4_76 ?_
    refine lv_iushr S.1 S.2.1 dJ6_numberOfTrailingZeros_0f7a4_77 (v := zI 1) (by decide) ?_
    refine z_iadd S dJ6_numberOfTrailingZeros_0f7a4_78 ?_
    exact ret _ _ _ dJ6_numberOfTrailingZeros_0f7a4_79 (by decide)
  · skip
    refine z_iload_n S dJ6_numberOfTrailingZeros_0f7a4_0 hl 0 rfl rfl ?_
    refine z_iconst S dJ6_numberOfTrailingZeros_0f7a4_1 ?_
    refine lv_ixor S.1 S.2.1 dJ6_numberOfTrailingZeros_0f7a4_2 ?_
    refine z_iload_n S dJ6_numberOfTrailingZeros_0f7a4_3 hl 0 rfl rfl ?_
    refine z_iconst S dJ6_numberOfTrailingZeros_0f7a4_4 ?_
    refine lv_isub S.1 S.2.1 dJ6_numberOfTrailingZeros_0f7a4_5 ?_
    refine lv_iand S.1 S.2.1 dJ6_numberOfTrailingZeros_0f7a4_6 ?_
    rw [hx]
    rw [show zI (2 ^ Int.toNat 7 - 1) = zI 127 from rfl]
    refine z_istore_n (lv' := [(0, .int (zI (127)))]) S dJ6_numberOfTrailingZeros_0f7a4_7 hl rfl (by decide) rfl (fun ls hl => ?_)
    refine z_iload_n S dJ6_numberOfTrailingZeros_0f7a4_8 hl 0 rfl rfl ?_
    refine z_if_gt_T S 17 dJ6_numberOfTrailingZeros_0f7a4_9 (by decide) (by omega) (by omega) ?_
    refine z_iconst S dJ6_numberOfTrailingZeros_0f7a4_17 ?_
    refine z_istore_n (lv' := [(1, .int (zI (1))), (0, .int (zI (127)))]) S dJ6_numberOfTrailingZeros_0f7a4_18 hl rfl (by decide) rfl (fun ls hl => ?_)
    refine z_iload_n S dJ6_numberOfTrailingZeros_0f7a4_19 hl 1 rfl rfl ?_
    refine lv_ldcw S.1 S.2.1 S.2.2.2.1 (S.2.2.2.2 _ q5_166) dJ6_numberOfTrailingZeros_0f7a4_20 ?_
    refine lv_icmp_le (tgt := 34) S.1 S.2.1 dJ6_numberOfTrailingZeros_0f7a4_23 (by decide) (fun c_23 => ?_) (fun c_23 => ?_)
    rotate_left
    · exact absurd (by decide) c_23
    refine z_iload_n S dJ6_numberOfTrailingZeros_0f7a4_34 hl 1 rfl rfl ?_
    refine z_sipush S dJ6_numberOfTrailingZeros_0f7a4_35 rfl ?_
    refine z_icmp_le_T S 49 dJ6_numberOfTrailingZeros_0f7a4_38 (by decide) (by omega) (by omega) (by omega) ?_
    refine z_iload_n S dJ6_numberOfTrailingZeros_0f7a4_49 hl 1 rfl rfl ?_
    refine z_bipush S dJ6_numberOfTrailingZeros_0f7a4_50 rfl ?_
    refine z_icmp_le_F S 62 dJ6_numberOfTrailingZeros_0f7a4_52 (by decide) (by omega) (by omega) (by omega) ?_
    refine z_iinc (lv' := [(1, .int (zI (1 + 4))), (0, .int (zI (127)))]) S dJ6_numberOfTrailingZeros_0f7a4_55 hl 0 rfl (by decide) rfl (fun ls hl => ?_)
    refine z_iload_n S dJ6_numberOfTrailingZeros_0f7a4_58 hl 1 rfl rfl ?_
    refine z_iconst S dJ6_numberOfTrailingZeros_0f7a4_59 ?_
    refine lv_iushr S.1 S.2.1 dJ6_numberOfTrailingZeros_0f7a4_60 (v := zI 7) (by decide) ?_
    refine z_istore_n (lv' := [(0, .int (zI (7))), (1, .int (zI (1 + 4)))]) S dJ6_numberOfTrailingZeros_0f7a4_61 hl rfl (by decide) rfl (fun ls hl => ?_)
    refine z_iload_n S dJ6_numberOfTrailingZeros_0f7a4_62 hl 0 rfl rfl ?_
    refine z_iconst S dJ6_numberOfTrailingZeros_0f7a4_63 ?_
    refine z_icmp_le_F S 74 dJ6_numberOfTrailingZeros_0f7a4_64 (by decide) (by omega) (by omega) (by omega) ?_
    refine z_iinc (lv' := [(1, .int (zI (1 + 4 + 2))), (0, .int (zI (7)))]) S dJ6_numberOfTrailingZeros_0f7a4_67 hl 1 rfl (by decide) rfl (fun ls hl => ?_)
    refine z_iload_n S dJ6_numberOfTrailingZeros_0f7a4_70 hl 1 rfl rfl ?_
    refine z_iconst S dJ6_numberOfTrailingZeros_0f7a4_71 ?_
    refine lv_iushr S.1 S.2.1 dJ6_numberOfTrailingZeros_0f7a4_72 (v := zI 1) (by decide) ?_
    refine z_istore_n (lv' := [(0, .int (zI (1))), (1, .int (zI (1 + 4 + 2)))]) S dJ6_numberOfTrailingZeros_0f7a4_73 hl rfl (by decide) rfl (fun ls hl => ?_)
    refine z_iload_n S dJ6_numberOfTrailingZeros_0f7a4_74 hl 1 rfl rfl ?_
    refine z_iload_n S dJ6_numberOfTrailingZeros_0f7a4_75 hl 0 rfl rfl ?_
    refine z_iconst S dJ6_numberOfTrailingZeros_0f7a4_76 ?_
    refine lv_iushr S.1 S.2.1 dJ6_numberOfTrailingZeros_0f7a4_77 (v := zI 0) (by decide) ?_
    refine z_iadd S dJ6_numberOfTrailingZeros_0f7a4_78 ?_
    exact ret _ _ _ dJ6_numberOfTrailingZeros_0f7a4_79 (by decide)
  · skip
    refine z_iload_n S dJ6_numberOfTrailingZeros_0f7a4_0 hl 0 rfl rfl ?_
    refine z_iconst S dJ6_numberOfTrailingZeros_0f7a4_1 ?_
    refine lv_ixor S.1 S.2.1 dJ6_numberOfTrailingZeros_0f7a4_2 ?_
    refine z_iload_n S dJ6_numberOfTrailingZeros_0f7a4_3 hl 0 rfl rfl ?_
    refine z_iconst S dJ6_numberOfTrailingZeros_0f7a4_4 ?_
    refine lv_isub S.1 S.2.1 dJ6_numberOfTrailingZeros_0f7a4_5 ?_
    refine lv_iand S.1 S.2.1 dJ6_numberOfTrailingZeros_0f7a4_6 ?_
    rw [hx]
    rw [show zI (2 ^ Int.toNat 8 - 1) = zI 255 from rfl]
    refine z_istore_n (lv' := [(0, .int (zI (255)))]) S dJ6_numberOfTrailingZeros_0f7a4_7 hl rfl (by decide) rfl (fun ls hl => ?_)
    refine z_iload_n S dJ6_numberOfTrailingZeros_0f7a4_8 hl 0 rfl rfl ?_
    refine z_if_gt_T S 17 dJ6_numberOfTrailingZeros_0f7a4_9 (by decide) (by omega) (by omega) ?_
    refine z_iconst S dJ6_numberOfTrailingZeros_0f7a4_17 ?_
    refine z_istore_n (lv' := [(1, .int (zI (1))), (0, .int (zI (255)))]) S dJ6_numberOfTrailingZeros_0f7a4_18 hl rfl (by decide) rfl (fun ls hl => ?_)
    refine z_iload_n S dJ6_numberOfTrailingZeros_0f7a4_19 hl 1 rfl rfl ?_
    refine lv_ldcw S.1 S.2.1 S.2.2.2.1 (S.2.2.2.2 _ q5_166) dJ6_numberOfTrailingZeros_0f7a4_20 ?_
    refine lv_icmp_le (tgt := 34) S.1 S.2.1 dJ6_numberOfTrailingZeros_0f7a4_23 (by decide) (fun c_23 => ?_) (fun c_23 => ?_)
    rotate_left
    · exact absurd (by decide) c_23
    refine z_iload_n S dJ6_numberOfTrailingZeros_0f7a4_34 hl 1 rfl rfl ?_
    refine z_sipush S dJ6_numberOfTrailingZeros_0f7a4_35 rfl ?_
    refine z_icmp_le_T S 49 dJ6_numberOfTrailingZeros_0f7a4_38 (by decide) (by omega) (by omega) (by omega) ?_
    refine z_iload_n S dJ6_numberOfTrailingZeros_0f7a4_49 hl 1 rfl rfl ?_
    refine z_bipush S dJ6_numberOfTrailingZeros_0f7a4_50 rfl ?_
    refine z_icmp_le_F S 62 dJ6_numberOfTrailingZeros_0f7a4_52 (by decide) (by omega) (by omega) (by omega) ?_
    refine z_iinc (lv' := [(1, .int (zI (1 + 4))), (0, .int (zI (255)))]) S dJ6_numberOfTrailingZeros_0f7a4_55 hl 0 rfl (by decide) rfl (fun ls hl => ?_)
    refine z_iload_n S dJ6_numberOfTrailingZeros_0f7a4_58 hl 1 rfl rfl ?_
    refine z_iconst S dJ6_numberOfTrailingZeros_0f7a4_59 ?_
    refine lv_iushr S.1 S.2.1 dJ6_numberOfTrailingZeros_0f7a4_60 (v := zI 15) (by decide) ?_
    refine z_istore_n (lv' := [(0, .int (zI (15))), (1, .int (zI (1 + 4)))]) S dJ6_numberOfTrailingZeros_0f7a4_61 hl rfl (by decide) rfl (fun ls hl => ?_)
    refine z_iload_n S dJ6_numberOfTrailingZeros_0f7a4_62 hl 0 rfl rfl ?_
    refine z_iconst S dJ6_numberOfTrailingZeros_0f7a4_63 ?_
    refine z_icmp_le_F S 74 dJ6_numberOfTrailingZeros_0f7a4_64 (by decide) (by omega) (by omega) (by omega) ?_
    refine z_iinc (lv' := [(1, .int (zI (1 + 4 + 2))), (0, .int (zI (15)))]) S dJ6_numberOfTrailingZeros_0f7a4_67 hl 1 rfl (by decide) rfl (fun ls hl => ?_)
    refine z_iload_n S dJ6_numberOfTrailingZeros_0f7a4_70 hl 1 rfl rfl ?_
    refine z_iconst S dJ6_numberOfTrailingZeros_0f7a4_71 ?_
    refine lv_iushr S.1 S.2.1 dJ6_numberOfTrailingZeros_0f7a4_72 (v := zI 3) (by decide) ?_
    refine z_istore_n (lv' := [(0, .int (zI (3))), (1, .int (zI (1 + 4 + 2)))]) S dJ6_numberOfTrailingZeros_0f7a4_73 hl rfl (by decide) rfl (fun ls hl => ?_)
    refine z_iload_n S dJ6_numberOfTrailingZeros_0f7a4_74 hl 1 rfl rfl ?_
    refine z_iload_n S dJ6_numberOfTrailingZeros_0f7a4_75 hl 0 rfl rfl ?_
    refine z_iconst S dJ6_numberOfTrailingZeros_0f7a4_76 ?_
    refine lv_iushr S.1 S.2.1 dJ6_numberOfTrailingZeros_0f7a4_77 (v := zI 1) (by decide) ?_
    refine z_iadd S dJ6_numberOfTrailingZeros_0f7a4_78 ?_
    exact ret _ _ _ dJ6_numberOfTrailingZeros_0f7a4_79 (by decide)
  · skip
    refine z_iload_n S dJ6_numberOfTrailingZeros_0f7a4_0 hl 0 rfl rfl ?_
    refine z_iconst S dJ6_numberOfTrailingZeros_0f7a4_1 ?_
    refine lv_ixor S.1 S.2.1 dJ6_numberOfTrailingZeros_0f7a4_2 ?_
    refine z_iload_n S dJ6_numberOfTrailingZeros_0f7a4_3 hl 0 rfl rfl ?_
    refine z_iconst S dJ6_numberOfTrailingZeros_0f7a4_4 ?_
    refine lv_isub S.1 S.2.1 dJ6_numberOfTrailingZeros_0f7a4_5 ?_
    refine lv_iand S.1 S.2.1 dJ6_numberOfTrailingZeros_0f7a4_6 ?_
    rw [hx]
    rw [show zI (2 ^ Int.toNat 9 - 1) = zI 511 from rfl]
    refine z_istore_n (lv' := [(0, .int (zI (511)))]) S dJ6_numberOfTrailingZeros_0f7a4_7 hl rfl (by decide) rfl (fun ls hl => ?_)
    refine z_iload_n S dJ6_numberOfTrailingZeros_0f7a4_8 hl 0 rfl rfl ?_
    refine z_if_gt_T S 17 dJ6_numberOfTrailingZeros_0f7a4_9 (by decide) (by omega) (by omega) ?_
    refine z_iconst S dJ6_numberOfTrailingZeros_0f7a4_17 ?_
    refine z_istore_n (lv' := [(1, .int (zI (1))), (0, .int (zI (511)))]) S dJ6_numberOfTrailingZeros_0f7a4_18 hl rfl (by decide) rfl (fun ls hl => ?_)
    refine z_iload_n S dJ6_numberOfTrailingZeros_0f7a4_19 hl 1 rfl rfl ?_
    refine lv_ldcw S.1 S.2.1 S.2.2.2.1 (S.2.2.2.2 _ q5_166) dJ6_numberOfTrailingZeros_0f7a4_20 ?_
    refine lv_icmp_le (tgt := 34) S.1 S.2.1 dJ6_numberOfTrailingZeros_0f7a4_23 (by decide) (fun c_23 => ?_) (fun c_23 => ?_)
    rotate_left
    · exact absurd (by decide) c_23
    refine z_iload_n S dJ6_numberOfTrailingZeros_0f7a4_34 hl 1 rfl rfl ?_
    refine z_sipush S dJ6_numberOfTrailingZeros_0f7a4_35 rfl ?_
    refine z_icmp_le_F S 49 dJ6_numberOfTrailingZeros_0f7a4_38 (by decide) (by omega) (by omega) (by omega) ?_
    refine z_iinc (lv' := [(1, .int (zI (1 + 8))), (0, .int (zI (511)))]) S dJ6_numberOfTrailingZeros_0f7a4_41 hl 0 rfl (by decide) rfl (fun ls hl => ?_)
    refine z_iload_n S dJ6_numberOfTrailingZeros_0f7a4_44 hl 1 rfl rfl ?_
    refine z_bipush S dJ6_numberOfTrailingZeros_0f7a4_45 rfl ?_
    refine lv_iushr S.1 S.2.1 dJ6_numberOfTrailingZeros_0f7a4_47 (v := zI 1) (by decide) ?_
    refine z_istore_n (lv' := [(0, .int (zI (1))), (1, .int (zI (1 + 8)))]) S dJ6_numberOfTrailingZeros_0f7a4_48 hl rfl (by decide) rfl (fun ls hl => ?_)
    refine z_iload_n S dJ6_numberOfTrailingZeros_0f7a4_49 hl 0 rfl rfl ?_
    refine z_bipush S dJ6_numberOfTrailingZeros_0f7a4_50 rfl ?_
    refine z_icmp_le_T S 62 dJ6_numberOfTrailingZeros_0f7a4_52 (by decide) (by omega) (by omega) (by omega) ?_
    refine z_iload_n S dJ6_numberOfTrailingZeros_0f7a4_62 hl 0 rfl rfl ?_
    refine z_iconst S dJ6_numberOfTrailingZeros_0f7a4_63 ?_
    refine z_icmp_le_T S 74 dJ6_numberOfTrailingZeros_0f7a4_64 (by decide) (by omega) (by omega) (by omega) ?_
    refine z_iload_n S dJ6_numberOfTrailingZeros_0f7a4_74 hl 1 rfl rfl ?_
    refine z_iload_n S dJ6_numberOfTrailingZeros_0f7a4_75 hl 0 rfl rfl ?_
    refine z_iconst S dJ6_numberOfTrailingZeros_0f7a4_76 ?_
    refine lv_iushr S.1 S.2.1 dJ6_numberOfTrailingZeros_0f7a4_77 (v := zI 0) (by decide) ?_
    refine z_iadd S dJ6_numberOfTrailingZeros_0f7a4_78 ?_
    exact ret _ _ _ dJ6_numberOfTrailingZeros_0f7a4_79 (by decide)
  · skip
    refine z_iload_n S dJ6_numberOfTrailingZeros_0f7a4_0 hl 0 rfl rfl ?_
    refine z_iconst S dJ6_numberOfTrailingZeros_0f7a4_1 ?_
    refine lv_ixor S.1 S.2.1 dJ6_numberOfTrailingZeros_0f7a4_2 ?_
    refine z_iload_n S dJ6_numberOfTrailingZeros_0f7a4_3 hl 0 rfl rfl ?_
    refine z_iconst S dJ6_numberOfTrailingZeros_0f7a4_4 ?_
    refine lv_isub S.1 S.2.1 dJ6_numberOfTrailingZeros_0f7a4_5 ?_
    refine lv_iand S.1 S.2.1 dJ6_numberOfTrailingZeros_0f7a4_6 ?_
    rw [hx]
    rw [show zI (2 ^ Int.toNat 10 - 1) = zI 1023 from rfl]
    refine z_istore_n (lv' := [(0, .int (zI (1023)))]) S dJ6_numberOfTrailingZeros_0f7a4_7 hl rfl (by decide) rfl (fun ls hl => ?_)
    refine z_iload_n S dJ6_numberOfTrailingZeros_0f7a4_8 hl 0 rfl rfl ?_
    refine z_if_gt_T S 17 dJ6_numberOfTrailingZeros_0f7a4_9 (by decide) (by omega) (by omega) ?_
    refine z_iconst S dJ6_numberOfTrailingZeros_0f7a4_17 ?_
    refine z_istore_n (lv' := [(1, .int (zI (1))), (0, .int (zI (1023)))]) S dJ6_numberOfTrailingZeros_0f7a4_18 hl rfl (by decide) rfl (fun ls hl => ?_)
    refine z_iload_n S dJ6_numberOfTrailingZeros_0f7a4_19 hl 1 rfl rfl ?_
    refine lv_ldcw S.1 S.2.1 S.2.2.2.1 (S.2.2.2.2 _ q5_166) dJ6_numberOfTrailingZeros_0f7a4_20 ?_
    refine lv_icmp_le (tgt := 34) S.1 S.2.1 dJ6_numberOfTrailingZeros_0f7a4_23 (by decide) (fun c_23 => ?_) (fun c_23 => ?_)
    rotate_left
    · exact absurd (by decide) c_23
    refine z_iload_n S dJ6_numberOfTrailingZeros_0f7a4_34 hl 1 rfl rfl ?_
    refine z_sipush S dJ6_numberOfTrailingZeros_0f7a4_35 rfl ?_
    refine z_icmp_le_F S 49 dJ6_numberOfTrailingZeros_0f7a4_38 (by decide) (by omega) (by omega) (by omega) ?_
    refine z_iinc (lv' := [(1, .int (zI (1 + 8))), (0, .int (zI (1023)))]) S dJ6_numberOfTrailingZeros_0f7a4_41 hl 0 rfl (by decide) rfl (fun ls hl => ?_)
    refine z_iload_n S dJ6_numberOfTrailingZeros_0f7a4_44 hl 1 rfl rfl ?_
    refine z_bipush S dJ6_numberOfTrailingZeros_0f7a4_45 rfl ?_
    refine lv_iushr S.1 S.2.1 dJ6_numberOfTrailingZeros_0f7a4_47 (v := zI 3) (by decide) ?_
    refine z_istore_n (lv' := [(0, .int (zI (3))), (1, .int (zI (1 + 8)))]) S dJ6_numberOfTrailingZeros_0f7a4_48 hl rfl (by decide) rfl (fun ls hl => ?_)
    refine z_iload_n S dJ6_numberOfTrailingZeros_0f7a4_49 hl 0 rfl rfl ?_
    refine z_bipush S dJ6_numberOfTrailingZeros_0f7a4_50 rfl ?_
    refine z_icmp_le_T S 62 dJ6_numberOfTrailingZeros_0f7a4_52 (by decide) (by omega) (by omega) (by omega) ?_
    refine z_iload_n S dJ6_numberOfTrailingZeros_0f7a4_62 hl 0 rfl rfl ?_
    refine z_iconst S dJ6_numberOfTrailingZeros_0f7a4_63 ?_
    refine z_icmp_le_T S 74 dJ6_numberOfTrailingZeros_0f7a4_64 (by decide) (by omega) (by omega) (by omega) ?_
    refine z_iload_n S dJ6_numberOfTrailingZeros_0f7a4_74 hl 1 rfl rfl ?_
    refine z_iload_n S dJ6_numberOfTrailingZeros_0f7a4_75 hl 0 rfl rfl ?_
    refine z_iconst S dJ6_numberOfTrailingZeros_0f7a4_76 ?_
    refine lv_iushr S.1 S.2.1 dJ6_numberOfTrailingZeros_0f7a4_77 (v := zI 1) (by decide) ?_
    refine z_iadd S dJ6_numberOfTrailingZeros_0f7a4_78 ?_
    exact ret _ _ _ dJ6_numberOfTrailingZeros_0f7a4_79 (by decide)
  · skip
    refine z_iload_n S dJ6_numberOfTrailingZeros_0f7a4_0 hl 0 rfl rfl ?_
    refine z_iconst S dJ6_numberOfTrailingZeros_0f7a4_1 ?_
    refine lv_ixor S.1 S.2.1 dJ6_numberOfTrailingZeros_0f7a4_2 ?_
    refine z_iload_n S dJ6_numberOfTrailingZeros_0f7a4_3 hl 0 rfl rfl ?_
    refine z_iconst S dJ6_numberOfTrailingZeros_0f7a4_4 ?_
    refine lv_isub S.1 S.2.1 dJ6_numberOfTrailingZeros_0f7a4_5 ?_
    refine lv_iand S.1 S.2.1 dJ6_numberOfTrailingZeros_0f7a4_6 ?_
    rw [hx]
    rw [show zI (2 ^ Int.toNat 11 - 1) = zI 2047 from rfl]
    refine z_istore_n (lv' := [(0, .int (zI (2047)))]) S dJ6_numberOfTrailingZeros_0f7a4_7 hl rfl (by decide) rfl (fun ls hl => ?_)
    refine z_iload_n S dJ6_numberOfTrailingZeros_0f7a4_8 hl 0 rfl rfl ?_
    refine z_if_gt_T S 17 dJ6_numberOfTrailingZeros_0f7a4_9 (by decide) (by omega) (by omega) ?_
    refine z_iconst S dJ6_numberOfTrailingZeros_0f7a4_17 ?_
    refine z_istore_n (lv' := [(1, .int (zI (1))), (0, .int (zI (2047)))]) S dJ6_numberOfTrailingZeros_0f7a4_18 hl rfl (by decide) rfl (fun ls hl => ?_)
    refine z_iload_n S dJ6_numberOfTrailingZeros_0f7a4_19 hl 1 rfl rfl ?_
    refine lv_ldcw S.1 S.2.1 S.2.2.2.1 (S.2.2.2.2 _ q5_166) dJ6_numberOfTrailingZeros_0f7a4_20 ?_
    refine lv_icmp_le (tgt := 34) S.1 S.2.1 dJ6_numberOfTrailingZeros_0f7a4_23 (by decide) (fun c_23 => ?_) (fun c_23 => ?_)
    rotate_left
    · exact absurd (by decide) c_23
    refine z_iload_n S dJ6_numberOfTrailingZeros_0f7a4_34 hl 1 rfl rfl ?_
    refine z_sipush S dJ6_numberOfTrailingZeros_0f7a4_35 rfl ?_
    refine z_icmp_le_F S 49 dJ6_numberOfTrailingZeros_0f7a4_38 (by decide) (by omega) (by omega) (by omega) ?_
    refine z_iinc (lv' := [(1, .int (zI (1 + 8))), (0, .int (zI (2047)))]) S dJ6_numberOfTrailingZeros_0f7a4_41 hl 0 rfl (by decide) rfl (fun ls hl => ?_)
    refine z_iload_n S dJ6_numberOfTrailingZeros_0f7a4_44 hl 1 rfl rfl ?_
    refine z_bipush S dJ6_numberOfTrailingZeros_0f7a4_45 rfl ?_
    refine lv_iushr S.1 S.2.1 dJ6_numberOfTrailingZeros_0f7a4_47 (v := zI 7) (by decide) ?_
    refine z_istore_n (lv' := [(0, .int (zI (7))), (1, .int (zI (1 + 8)))]) S dJ6_numberOfTrailingZeros_0f7a4_48 hl rfl (by decide) rfl (fun ls hl => ?_)
    refine z_iload_n S dJ6_numberOfTrailingZeros_0f7a4_49 hl 0 rfl rfl ?_
    refine z_bipush S dJ6_numberOfTrailingZeros_0f7a4_50 rfl ?_
    refine z_icmp_le_T S 62 dJ6_numberOfTrailingZeros_0f7a4_52 (by decide) (by omega) (by omega) (by omega) ?_
    refine z_iload_n S dJ6_numberOfTrailingZeros_0f7a4_62 hl 0 rfl rfl ?_
    refine z_iconst S dJ6_numberOfTrailingZeros_0f7a4_63 ?_
    refine z_icmp_le_F S 74 dJ6_numberOfTrailingZeros_0f7a4_64 (by decide) (by omega) (by omega) (by omega) ?_
    refine z_iinc (lv' := [(1, .int (zI (1 + 8 + 2))), (0, .int (zI (7)))]) S dJ6_numberOfTrailingZeros_0f7a4_67 hl 1 rfl (by decide) rfl (fun ls hl => ?_)
    refine z_iload_n S dJ6_numberOfTrailingZeros_0f7a4_70 hl 1 rfl rfl ?_
    refine z_iconst S dJ6_numberOfTrailingZeros_0f7a4_71 ?_
    refine lv_iushr S.1 S.2.1 dJ6_numberOfTrailingZeros_0f7a4_72 (v := zI 1) (by decide) ?_
    refine z_istore_n (lv' := [(0, .int (zI (1))), (1, .int (zI (1 + 8 + 2)))]) S dJ6_numberOfTrailingZeros_0f7a4_73 hl rfl (by decide) rfl (fun ls hl => ?_)
    refine z_iload_n S dJ6_numberOfTrailingZeros_0f7a4_74 hl 1 rfl rfl ?_
    refine z_iload_n S dJ6_numberOfTrailingZeros_0f7a4_75 hl 0 rfl rfl ?_
    refine z_iconst S dJ6_numberOfTrailingZeros_0f7a4_76 ?_
    refine lv_iushr S.1 S.2.1 dJ6_numberOfTrailingZeros_0f7a4_77 (v := zI 0) (by decide) ?_
    refine z_iadd S dJ6_numberOfTrailingZeros_0f7a4_78 ?_
    exact ret _ _ _ dJ6_numberOfTrailingZeros_0f7a4_79 (by decide)
  · skip
    refine z_iload_n S dJ6_numberOfTrailingZeros_0f7a4_0 hl 0 rfl rfl ?_
    refine z_iconst S dJ6_numberOfTrailingZeros_0f7a4_1 ?_
    refine lv_ixor S.1 S.2.1 dJ6_numberOfTrailingZeros_0f7a4_2 ?_
    refine z_iload_n S dJ6_numberOfTrailingZeros_0f7a4_3 hl 0 rfl rfl ?_
    refine z_iconst S dJ6_numberOfTrailingZeros_0f7a4_4 ?_
    refine lv_isub S.1 S.2.1 dJ6_numberOfTrailingZeros_0f7a4_5 ?_
    refine lv_iand S.1 S.2.1 dJ6_numberOfTrailingZeros_0f7a4_6 ?_
    rw [hx]
    rw [show zI (2 ^ Int.toNat 12 - 1) = zI 4095 from rfl]
    refine z_istore_n (lv' := [(0, .int (zI (4095)))]) S dJ6_numberOfTrailingZeros_0f7a4_7 hl rfl (by decide) rfl (fun ls hl => ?_)
    refine z_iload_n S dJ6_numberOfTrailingZeros_0f7a4_8 hl 0 rfl rfl ?_
    refine z_if_gt_T S 17 dJ6_numberOfTrailingZeros_0f7a4_9 (by decide) (by omega) (by omega) ?_
    refine z_iconst S dJ6_numberOfTrailingZeros_0f7a4_17 ?_
    refine z_istore_n (lv' := [(1, .int (zI (1))), (0, .int (zI (4095)))]) S dJ6_numberOfTrailingZeros_0f7a4_18 hl rfl (by decide) rfl (fun ls hl => ?_)
    refine z_iload_n S dJ6_numberOfTrailingZeros_0f7a4_19 hl 1 rfl rfl ?_
    refine lv_ldcw S.1 S.2.1 S.2.2.2.1 (S.2.2.2.2 _ q5_166) dJ6_numberOfTrailingZeros_0f7a4_20 ?_
    refine lv_icmp_le (tgt := 34) S.1 S.2.1 dJ6_numberOfTrailingZeros_0f7a4_23 (by decide) (fun c_23 => ?_) (fun c_23 => ?_)
    rotate_left
    · exact absurd (by decide) c_23
    refine z_iload_n S dJ6_numberOfTrailingZeros_0f7a4_34 hl 1 rfl rfl ?_
    refine z_sipush S dJ6_numberOfTrailingZeros_0f7a4_35 rfl ?_
    refine z_icmp_le_F S 49 dJ6_numberOfTrailingZeros_0f7a4_38 (by decide) (by omega) (by omega) (by omega) ?_
    refine z_iinc (lv' := [(1, .int (zI (1 + 8))), (0, .int (zI (4095)))]) S dJ6_numberOfTrailingZeros_0f7a4_41 hl 0 rfl (by decide) rfl (fun ls hl => ?_)
    refine z_iload_n S dJ6_numberOfTrailingZeros_0f7a4_44 hl 1 rfl rfl ?_
    refine z_bipush S dJ6_numberOfTrailingZeros_0f7a4_45 rfl ?_
    refine lv_iushr S.1 S.2.1 dJ6_numberOfTrailingZeros_0f7a4_47 (v := zI 15) (by decide) ?_
    refine z_istore_n (lv' := [(0, .int (zI (15))), (1, .int (zI (1 + 8)))]) S dJ6_numberOfTrailingZeros_0f7a4_48 hl rfl (by decide) rfl (fun ls hl => ?_)
    refine z_iload_n S dJ6_numberOfTrailingZeros_0f7a4_49 hl 0 rfl rfl ?_
    refine z_bipush S dJ6_numberOfTrailingZeros_0f7a4_50 rfl ?_
    refine z_icmp_le_T S 62 dJ6_numberOfTrailingZeros_0f7a4_52 (by decide) (by omega) (by omega) (by omega) ?_
    refine z_iload_n S dJ6_numberOfTrailingZeros_0f7a4_62 hl 0 rfl rfl ?_
    refine z_iconst S dJ6_numberOfTrailingZeros_0f7a4_63 ?_
    refine z_icmp_le_F S 74 dJ6_numberOfTrailingZeros_0f7a4_64 (by decide) (by omega) (by omega) (by omega) ?_
    refine z_iinc (lv' := [(1, .int (zI (1 + 8 + 2))), (0, .int (zI (15)))]) S dJ6_numberOfTrailingZeros_0f7a4_67 hl 1 rfl (by decide) rfl (fun ls hl => ?_)
    refine z_iload_n S dJ6_numberOfTrailingZeros_0f7a4_70 hl 1 rfl rfl ?_
    refine z_iconst S dJ6_numberOfTrailingZeros_0f7a4_71 ?_
    refine lv_iushr S.1 S.2.1 dJ6_numberOfTrailingZeros_0f7a4_72 (v := zI 3) (by decide) ?_
    refine z_istore_n (lv' := [(0, .int (zI (3))), (1, .int (zI (1 + 8 + 2)))]) S dJ6_numberOfTrailingZeros_0f7a4_73 hl rfl (by decide) rfl (fun ls hl => ?_)
    refine z_iload_n S dJ6_numberOfTrailingZeros_0f7a4_74 hl 1 rfl rfl ?_
    refine z_iload_n S dJ6_numberOfTrailingZeros_0f7a4_75 hl 0 rfl rfl ?_
    refine z_iconst S dJ6_numberOfTrailingZeros_0f7a4_76 ?_
    refine lv_iushr S.1 S.2.1 dJ6_numberOfTrailingZeros_0f7a4_77 (v := zI 1) (by decide) ?_
    refine z_iadd S dJ6_numberOfTrailingZeros_0f7a4_78 ?_
    exact ret _ _ _ dJ6_numberOfTrailingZeros_0f7a4_79 (by decide)
  · skip
    refine z_iload_n S dJ6_numberOfTrailingZeros_0f7a4_0 hl 0 rfl rfl ?_
    refine z_iconst S dJ6_numberOfTrailingZeros_0f7a4_1 ?_
    refine lv_ixor S.1 S.2.1 dJ6_numberOfTrailingZeros_0f7a4_2 ?_
    refine z_iload_n S dJ6_numberOfTrailingZeros_0f7a4_3 hl 0 rfl rfl ?_
    refine z_iconst S dJ6_numberOfTrailingZeros_0f7a4_4 ?_
    refine lv_isub S.1 S.2.1 dJ6_numberOfTrailingZeros_0f7a4_5 ?_
    refine lv_iand S.1 S.2.1 dJ6_numberOfTrailingZeros_0f7a4_6 ?_
    rw [hx]
    rw [show zI (2 ^ Int.toNat 13 - 1) = zI 8191 from rfl]
    refine z_istore_n (lv' := [(0, .int (zI (8191)))]) S dJ6_numberOfTrailingZeros_0f7a4_7 hl rfl (by decide) rfl (fun ls hl => ?_)
    refine z_iload_n S dJ6_numberOfTrailingZeros_0f7a4_8 hl 0 rfl rfl ?_
    refine z_if_gt_T S 17 dJ6_numberOfTrailingZeros_0f7a4_9 (by decide) (by omega) (by omega) ?_
    refine z_iconst S dJ6_numberOfTrailingZeros_0f7a4_17 ?_
    refine z_istore_n (lv' := [(1, .int (zI (1))), (0, .int (zI (8191)))]) S dJ6_numberOfTrailingZeros_0f7a4_18 hl rfl (by decide) rfl (fun ls hl => ?_)
    refine z_iload_n S dJ6_numberOfTrailingZeros_0f7a4_19 hl 1 rfl rfl ?_
    refine lv_ldcw S.1 S.2.1 S.2.2.2.1 (S.2.2.2.2 _ q5_166) dJ6_numberOfTrailingZeros_0f7a4_20 ?_
    refine lv_icmp_le (tgt := 34) S.1 S.2.1 dJ6_numberOfTrailingZeros_0f7a4_23 (by decide) (fun c_23 => ?_) (fun c_23 => ?_)
    rotate_left
    · exact absurd (by decide) c_23
    refine z_iload_n S dJ6_numberOfTrailingZeros_0f7a4_34 hl 1 rfl rfl ?_
    refine z_sipush S dJ6_numberOfTrailingZeros_0f7a4_35 rfl ?_
    refine z_icmp_le_F S 49 dJ6_numberOfTrailingZeros_0f7a4_38 (by decide) (by omega) (by omega) (by omega) ?_
    refine z_iinc (lv' := [(1, .int (zI (1 + 8))), (0, .int (zI (8191)))]) S dJ6_numberOfTrailingZeros_0f7a4_41 hl 0 rfl (by decide) rfl (fun ls hl => ?_)
    refine z_iload_n S dJ6_numberOfTrailingZeros_0f7a4_44 hl 1 rfl rfl ?_
    refine z_bipush S dJ6_numberOfTrailingZeros_0f7a4_45 rfl ?_
    refine lv_iushr S.1 S.2.1 dJ6_numberOfTrailingZeros_0f7a4_47 (v := zI 31) (by decide) ?_
    refine z_istore_n (lv' := [(0, .int (zI (31))), (1, .int (zI (1 + 8)))]) S dJ6_numberOfTrailingZeros_0f7a4_48 hl rfl (by decide) rfl (fun ls hl => ?_)
    refine z_iload_n S dJ6_numberOfTrailingZeros_0f7a4_49 hl 0 rfl rfl ?_
    refine z_bipush S dJ6_numberOfTrailingZeros_0f7a4_50 rfl ?_
    refine z_icmp_le_F S 62 dJ6_numberOfTrailingZeros_0f7a4_52 (by decide) (by omega) (by omega) (by omega) ?_
    refine z_iinc (lv' := [(1, .int (zI (1 + 8 + 4))), (0, .int (zI (31)))]) S dJ6_numberOfTrailingZeros_0f7a4_55 hl 1 rfl (by decide) rfl (fun ls hl => ?_)
    refine z_iload_n S dJ6_numberOfTrailingZeros_0f7a4_58 hl 1 rfl rfl ?_
    refine z_iconst S dJ6_numberOfTrailingZeros_0f7a4_59 ?_
    refine lv_iushr S.1 S.2.1 dJ6_numberOfTrailingZeros_0f7a4_60 (v := zI 1) (by decide) ?_
    refine z_istore_n (lv' := [(0, .int (zI (1))), (1, .int (zI (1 + 8 + 4)))]) S dJ6_numberOfTrailingZeros_0f7a4_61 hl rfl (by decide) rfl (fun ls hl => ?_)
    refine z_iload_n S dJ6_numberOfTrailingZeros_0f7a4_62 hl 0 rfl rfl ?_
    refine z_iconst S dJ6_numberOfTrailingZeros_0f7a4_63 ?_
    refine z_icmp_le_T S 74 dJ6_numberOfTrailingZeros_0f7a4_64 (by decide) (by omega) (by omega) (by omega) ?_
    refine z_iload_n S dJ6_numberOfTrailingZeros_0f7a4_74 hl 1 rfl rfl ?_
    refine z_iload_n S dJ6_numberOfTrailingZeros_0f7a4_75 hl 0 rfl rfl ?_
    refine z_iconst S dJ6_numberOfTrailingZeros_0f7a4_76 ?_
    refine lv_iushr S.1 S.2.1 dJ6_numberOfTrailingZeros_0f7a4_77 (v := zI 0) (by decide) ?_
    refine z_iadd S dJ6_numberOfTrailingZeros_0f7a4_78 ?_
    exact ret _ _ _ dJ6_numberOfTrailingZeros_0f7a4_79 (by decide)
  · skip
    refine z_iload_n S dJ6_numberOfTrailingZeros_0f7a4_0 hl 0 rfl rfl ?_
    refine z_iconst S dJ6_numberOfTrailingZeros_0f7a4_1 ?_
    refine lv_ixor S.1 S.2.1 dJ6_numberOfTrailingZeros_0f7a4_2 ?_
    refine z_iload_n S dJ6_numberOfTrailingZeros_0f7a4_3 hl 0 rfl rfl ?_
    refine z_iconst S dJ6_numberOfTrailingZeros_0f7a4_4 ?_
    refine lv_isub S.1 S.2.1 dJ6_numberOfTrailingZeros_0f7a4_5 ?_
    refine lv_iand S.1 S.2.1 dJ6_numberOfTrailingZeros_0f7a4_6 ?_
    rw [hx]
    rw [show zI (2 ^ Int.toNat 14 - 1) = zI 16383 from rfl]
    refine z_istore_n (lv' := [(0, .int (zI (16383)))]) S dJ6_numberOfTrailingZeros_0f7a4_7 hl rfl (by decide) rfl (fun ls hl => ?_)
    refine z_iload_n S dJ6_numberOfTrailingZeros_0f7a4_8 hl 0 rfl rfl ?_
    refine z_if_gt_T S 17 dJ6_numberOfTrailingZeros_0f7a4_9 (by decide) (by omega) (by omega) ?_
    refine z_iconst S dJ6_numberOfTrailingZeros_0f7a4_17 ?_
    refine z_istore_n (lv' := [(1, .int (zI (1))), (0, .int (zI (16383)))]) S dJ6_numberOfTrailingZeros_0f7a4_18 hl rfl (by decide) rfl (fun ls hl => ?_)
    refine z_iload_n S dJ6_numberOfTrailingZeros_0f7a4_19 hl 1 rfl rfl ?_
    refine lv_ldcw S.1 S.2.1 S.2.2.2.1 (S.2.2.2.2 _ q5_166) dJ6_numberOfTrailingZeros_0f7a4_20 ?_
    refine lv_icmp_le (tgt := 34) S.1 S.2.1 dJ6_numberOfTrailingZeros_0f7a4_23 (by decide) (fun c_23 => ?_) (fun c_23 => ?_)
    rotate_left
    · exact absurd (by decide) c_23
    refine z_iload_n S dJ6_numberOfTrailingZeros_0f7a4_34 hl 1 rfl rfl ?_
    refine z_sipush S dJ6_numberOfTrailingZeros_0f7a4_35 rfl ?_
    refine z_icmp_le_F S 49 dJ6_numberOfTrailingZeros_0f7a4_38 (by decide) (by omega) (by omega) (by omega) ?_
    refine z_iinc (lv' := [(1, .int (zI (1 + 8))), (0, .int (zI (16383)))]) S dJ6_numberOfTrailingZeros_0f7a4_41 hl 0 rfl (by decide) rfl (fun ls hl => ?_)
    refine z_iload_n S dJ6_numberOfTrailingZeros_0f7a4_44 hl 1 rfl rfl ?_
    refine z_bipush S dJ6_numberOfTrailingZeros_0f7a4_45 rfl ?_
    refine lv_iushr S.1 S.2.1 dJ6_numberOfTrailingZeros_0f7a4_47 (v := zI 63) (by decide) ?_
    refine z_istore_n (lv' := [(0, .int (zI (63))), (1, .int (zI (1 + 8)))]) S dJ6_numberOfTrailingZeros_0f7a4_48 hl rfl (by decide) rfl (fun ls hl => ?_)
    refine z_iload_n S dJ6_numberOfTrailingZeros_0f7a4_49 hl 0 rfl rfl ?_
    refine z_bipush S dJ6_numberOfTrailingZeros_0f7a4_50 rfl ?_
    refine z_icmp_le_F S 62 dJ6_numberOfTrailingZeros_0f7a4_52 (by decide) (by omega) (by omega) (by omega) ?_
    refine z_iinc (lv' := [(1, .int (zI (1 + 8 + 4))), (0, .int (zI (63)))]) S dJ6_numberOfTrailingZeros_0f7a4_55 hl 1 rfl (by decide) rfl (fun ls hl => ?_)
    refine z_iload_n S dJ6_numberOfTrailingZeros_0f7a4_58 hl 1 rfl rfl ?_
    refine z_iconst S dJ6_numberOfTrailingZeros_0f7a4_59 ?_
    refine lv_iushr S.1 S.2.1 dJ6_numberOfTrailingZeros_0f7a4_60 (v := zI 3) (by decide) ?_
    refine z_istore_n (lv' := [(0, .int (zI (3))), (1, .int (zI (1 + 8 + 4)))]) S dJ6_numberOfTrailingZeros_0f7a4_61 hl rfl (by decide) rfl (fun ls hl => ?_)
    refine z_iload_n S dJ6_numberOfTrailingZeros_0f7a4_62 hl 0 rfl rfl ?_
    refine z_iconst S dJ6_numberOfTrailingZeros_0f7a4_63 ?_
    refine z_icmp_le_T S 74 dJ6_numberOfTrailingZeros_0f7a4_64 (by decide) (by omega) (by omega) (by omega) ?_
    refine z_iload_n S dJ6_numberOfTrailingZeros_0f7a4_74 hl 1 rfl rfl ?_
    refine z_iload_n S dJ6_numberOfTrailingZeros_0f7a4_75 hl 0 rfl rfl ?_
    refine z_iconst S dJ6_numberOfTrailingZeros_0f7a4_76 ?_
    refine lv_iushr S.1 S.2.1 dJ6_numberOfTrailingZeros_0f7a4_77 (v := zI 1) (by decide) ?_
    refine z_iadd S dJ6_numberOfTrailingZeros_0f7a4_78 ?_
    exact ret _ _ _ dJ6_numberOfTrailingZeros_0f7a4_79 (by decide)
  · skip
    refine z_iload_n S dJ6_numberOfTrailingZeros_0f7a4_0 hl 0 rfl rfl ?_
    refine z_iconst S dJ6_numberOfTrailingZeros_0f7a4_1 ?_
    refine lv_ixor S.1 S.2.1 dJ6_numberOfTrailingZeros_0f7a4_2 ?_
    refine z_iload_n S dJ6_numberOfTrailingZeros_0f7a4_3 hl 0 rfl rfl ?_
    refine z_iconst S dJ6_numberOfTrailingZeros_0f7a4_4 ?_
    refine lv_isub S.1 S.2.1 dJ6_numberOfTrailingZeros_0f7a4_5 ?_
    refine lv_iand S.1 S.2.1 dJ6_numberOfTrailingZeros_0f7a4_6 ?_
    rw [hx]
    rw [show zI (2 ^ Int.toNat 15 - 1) = zI 32767 from rfl]
    refine z_istore_n (lv' := [(0, .int (zI (32767)))]) S dJ6_numberOfTrailingZeros_0f7a4_7 hl rfl (by decide) rfl (fun ls hl => ?_)
    refine z_iload_n S dJ6_numberOfTrailingZeros_0f7a4_8 hl 0 rfl rfl ?_
    refine z_if_gt_T S 17 dJ6_numberOfTrailingZeros_0f7a4_9 (by decide) (by omega) (by omega) ?_
    refine z_iconst S dJ6_numberOfTrailingZeros_0f7a4_17 ?_
    refine z_istore_n (lv' := [(1, .int (zI (1))), (0, .int (zI (32767)))]) S dJ6_numberOfTrailingZeros_0f7a4_18 hl rfl (by decide) rfl (fun ls hl => ?_)
    refine z_iload_n S dJ6_numberOfTrailingZeros_0f7a4_19 hl 1 rfl rfl ?_
    refine lv_ldcw S.1 S.2.1 S.2.2.2.1 (S.2.2.2.2 _ q5_166) dJ6_numberOfTrailingZeros_0f7a4_20 ?_
    refine lv_icmp_le (tgt := 34) S.1 S.2.1 dJ6_numberOfTrailingZeros_0f7a4_23 (by decide) (fun c_23 => ?_) (fun c_23 => ?_)
    rotate_left
    · exact absurd (by decide) c_23
    refine z_iload_n S dJ6_numberOfTrailingZeros_0f7a4_34 hl 1 rfl rfl ?_
    refine z_sipush S dJ6_numberOfTrailingZeros_0f7a4_35 rfl ?_
    refine z_icmp_le_F S 49 dJ6_numberOfTrailingZeros_0f7a4_38 (by decide) (by omega) (by omega) (by omega) ?_
    refine z_iinc (lv' := [(1, .int (zI (1 + 8))), (0, .int (zI (32767)))]) S dJ6_numberOfTrailingZeros_0f7a4_41 hl 0 rfl (by decide) rfl (fun ls hl => ?_)
    refine z_iload_n S dJ6_numberOfTrailingZeros_0f7a4_44 hl 1 rfl rfl ?_
    refine z_bipush S dJ6_numberOfTrailingZeros_0f7a4_45 rfl ?_
    refine lv_iushr S.1 S.2.1 dJ6_numberOfTrailingZeros_0f7a4_47 (v := zI 127) (by decide) ?_
    refine z_istore_n (lv' := [(0, .int (zI (127))), (1, .int (zI (1 + 8)))]) S dJ6_numberOfTrailingZeros_0f7a4_48 hl rfl (by decide) rfl (fun ls hl => ?_)
    refine z_iload_n S dJ6_numberOfTrailingZeros_0f7a4_49 hl 0 rfl rfl ?_
    refine z_bipush S dJ6_numberOfTrailingZeros_0f7a4_50 rfl ?_
    refine z_icmp_le_F S 62 dJ6_numberOfTrailingZeros_0f7a4_52 (by decide) (by omega) (by omega) (by omega) ?_
    refine z_iinc (lv' := [(1, .int (zI (1 + 8 + 4))), (0, .int (zI (127)))]) S dJ6_numberOfTrailingZeros_0f7a4_55 hl 1 rfl (by decide) rfl (fun ls hl => ?_)
    refine z_iload_n S dJ6_numberOfTrailingZeros_0f7a4_58 hl 1 rfl rfl ?_
    refine z_iconst S dJ6_numberOfTrailingZeros_0f7a4_59 ?_
    refine lv_iushr S.1 S.2.1 dJ6_numberOfTrailingZeros_0f7a4_60 (v := zI 7) (by decide) ?_
    refine z_istore_n (lv' := [(0, .int (zI (7))), (1, .int (zI (1 + 8 + 4)))]) S dJ6_numberOfTrailingZeros_0f7a4_61 hl rfl (by decide) rfl (fun ls hl => ?_)
    refine z_iload_n S dJ6_numberOfTrailingZeros_0f7a4_62 hl 0 rfl rfl ?_
    refine z_iconst S dJ6_numberOfTrailingZeros_0f7a4_63 ?_
    refine z_icmp_le_F S 74 dJ6_numberOfTrailingZeros_0f7a4_64 (by decide) (by omega) (by omega) (by omega) ?_
    refine z_iinc (lv' := [(1, .int (zI (1 + 8 + 4 + 2))), (0, .int (zI (7)))]) S dJ6_numberOfTrailingZeros_0f7a4_67 hl 1 rfl (by decide) rfl (fun ls hl => ?_)
    refine z_iload_n S dJ6_numberOfTrailingZeros_0f7a4_70 hl 1 rfl rfl ?_
    refine z_iconst S dJ6_numberOfTrailingZeros_0f7a4_71 ?_
    refine lv_iushr S.1 S.2.1 dJ6_numberOfTrailingZeros_0f7a4_72 (v := zI 1) (by decide) ?_
    refine z_istore_n (lv' := [(0, .int (zI (1))), (1, .int (zI (1 + 8 + 4 + 2)))]) S dJ6_numberOfTrailingZeros_0f7a4_73 hl rfl (by decide) rfl (fun ls hl => ?_)
    refine z_iload_n S dJ6_numberOfTrailingZeros_0f7a4_74 hl 1 rfl rfl ?_
    refine z_iload_n S dJ6_numberOfTrailingZeros_0f7a4_75 hl 0 rfl rfl ?_
    refine z_iconst S dJ6_numberOfTrailingZeros_0f7a4_76 ?_
    refine lv_iushr S.1 S.2.1 dJ6_numberOfTrailingZeros_0f7a4_77 (v := zI 0) (by decide) ?_
    refine z_iadd S dJ6_numberOfTrailingZeros_0f7a4_78 ?_
    exact ret _ _ _ dJ6_numberOfTrailingZeros_0f7a4_79 (by decide)
theorem dX4_entries_0 : decode cX4_entries 0 = .ok (.iconst 0, 1) := by decide +kernel
theorem dX4_entries_1 : decode cX4_entries 1 = .ok (.istore_n 1, 1) := by decide +kernel
theorem dX4_entries_2 : decode cX4_entries 2 = .ok (.aload_n 0, 1) := by decide +kernel
theorem dX4_entries_3 : decode cX4_entries 3 = .ok (.getfield 17, 3) := by decide +kernel
theorem dX4_entries_6 : decode cX4_entries 6 = .ok (.astore_n 2, 1) := by decide +kernel
theorem dX4_entries_7 : decode cX4_entries 7 = .ok (.aload_n 2, 1) := by decide +kernel
theorem dX4_entries_8 : decode cX4_entries 8 = .ok (.arraylength, 1) := by decide +kernel
theorem dX4_entries_9 : decode cX4_entries 9 = .ok (.istore_n 3, 1) := by decide +kernel
theorem dX4_entries_10 : decode cX4_entries 10 = .ok (.iconst 0, 1) := by decide +kernel
theorem dX4_entries_11 : decode cX4_entries 11 = .ok (.istore 4, 2) := by decide +kernel
theorem dX4_entries_13 : decode cX4_entries 13 = .ok (.iload 4, 2) := by decide +kernel
theorem dX4_entries_15 : decode cX4_entries 15 = .ok (.iload_n 3, 1) := by decide +kernel
theorem dX4_entries_16 : decode cX4_entries 16 = .ok (.if_icmp .ge 22, 3) := by decide +kernel
theorem dX4_entries_19 : decode cX4_entries 19 = .ok (.aload_n 2, 1) := by decide +kernel
theorem dX4_entries_20 : decode cX4_entries 20 = .ok (.iload 4, 2) := by decide +kernel
theorem dX4_entries_22 : decode cX4_entries 22 = .ok (.iaload, 1) := by decide +kernel
theorem dX4_entries_23 : decode cX4_entries 23 = .ok (.istore 5, 2) := by decide +kernel
theorem dX4_entries_25 : decode cX4_entries 25 = .ok (.iload_n 1, 1) := by decide +kernel
theorem dX4_entries_26 : decode cX4_entries 26 = .ok (.iconst 1, 1) := by decide +kernel
theorem dX4_entries_27 : decode cX4_entries 27 = .ok (.iload 5, 2) := by decide +kernel
theorem dX4_entries_29 : decode cX4_entries 29 = .ok (.ishl, 1) := by decide +kernel
theorem dX4_entries_30 : decode cX4_entries 30 = .ok (.ior, 1) := by decide +kernel
theorem dX4_entries_31 : decode cX4_entries 31 = .ok (.istore_n 1, 1) := by decide +kernel
theorem dX4_entries_32 : decode cX4_entries 32 = .ok (.iinc 4 1, 3) := by decide +kernel
theorem dX4_entries_35 : decode cX4_entries 35 = .ok (.goto (-22), 3) := by decide +kernel
theorem dX4_entries_38 : decode cX4_entries 38 = .ok (.iload_n 1, 1) := by decide +kernel
theorem dX4_entries_39 : decode cX4_entries 39 = .ok (.ireturn, 1) := by decide +kernel
theorem q4_231 : (Jvm.Cond.fieldLink "CyclepaintModel" (17 : Nat) "CyclepaintModel" "dots" "[I") ∈ lw_g := zg_of (zin4 (List.mem_of_getElem? (i := 231) rfl)) rfl
theorem q6_1 : (Jvm.Cond.code ({ cls := "CyclepaintModel", name := "entries", desc := "()I" } : Jvm.MethodName) prog_6_method_22_code (6 : Nat) (Option.some Jvm.ClassFile.FieldType.int)) ∈ lw_g := zg_of (zin6 (List.mem_of_getElem? (i := 1) rfl)) rfl
theorem q6_0 : (Jvm.Cond.instanceMethod ({ cls := "CyclepaintModel", name := "entries", desc := "()I" } : Jvm.MethodName)) ∈ lw_g := zg_of (zin6 (List.mem_of_getElem? (i := 0) rfl)) rfl
theorem qs_41 : Cond.selects "CyclepaintModel" (⟨"CyclepaintModel", "entries", "()I"⟩ : MethodName) (⟨"CyclepaintModel", "entries", "()I"⟩ : MethodName) ∈ lw_g := zg_of (zinS (List.mem_of_getElem? (i := 41) rfl)) rfl
theorem ok_X4_entries : zOV yX4_entries cX4_entries 6 ((Option.some Jvm.ClassFile.FieldType.int)) 0 := ⟨⟨q6_1, q1_3, by decide, by decide, by decide +kernel⟩, q6_0, qs_41⟩
set_option maxHeartbeats 4000000 in
set_option maxRecDepth 100000 in
theorem c_X4_entries (l : Launch) (G : zG) (σ : St) (b : Nat → Nat) (th m1 m2 : Int32) : Met l yX4_entries (wq yX4_entries cX4_entries 6 ((Option.some Jvm.ClassFile.FieldType.int))) (rmR 0 0) (va_Pc [.ref (b 0)] (zK G (hMod G σ b th m1 m2))) (zQ (some (.int ((enM σ))))) 0 0 zF := by
  refine z_enterI (by decide +kernel) (Nat.le_of_ble_eq_true rfl) ?_
  intro p env s m below meth cod Q S hG hP ret ls hl
  have hl : lv_has ls 6 [(0, .ref (b 0))] := hl
  refine z_iconst S dX4_entries_0 ?_
  refine z_istore_n (lv' := [(1, .int (zI (0))), (0, .ref (b 0))]) S dX4_entries_1 hl rfl (by decide) rfl (fun ls hl => ?_)
  refine z_aload_n S dX4_entries_2 hl 1 rfl rfl ?_
  refine z_get S hG hP.1 zc_X4 5 (by decide) q4_231 rfl rfl dX4_entries_3 ?_
  refine z_astore_n (lv' := [(2, .ref (b 2)), (1, .int (zI (0))), (0, .ref (b 0))]) S dX4_entries_6 hl rfl (by decide) rfl (fun ls hl => ?_)
  refine z_aload_n S dX4_entries_7 hl 0 rfl rfl ?_
  refine z_alenI S hG hP.2.2.1 dX4_entries_8 ?_
  refine z_istore_n (lv' := [(3, .int (zI (32))), (2, .ref (b 2)), (1, .int (zI (0))), (0, .ref (b 0))]) S dX4_entries_9 hl rfl (by decide) rfl (fun ls hl => ?_)
  refine z_iconst S dX4_entries_10 ?_
  refine z_istore (lv' := [(4, .int (zI (0))), (3, .int (zI (32))), (2, .ref (b 2)), (1, .int (zI (0))), (0, .ref (b 0))]) S dX4_entries_11 hl (by decide) rfl (fun ls hl => ?_)
  have loop_13 : ∀ (nn : Nat) (k : Int) (g : Int32), (0 ≤ k ∧ k ≤ 32) → (g = orI (fun _ => true) (fun d => bit1 (σ.Dt d)) k) → ((32 - k).toNat) < nn → ∀ ls, lv_has ls 6 [(4, .int (zI (k))), (3, .int (zI (32))), (2, .ref (b 2)), (1, .int (g)), (0, .ref (b 0))] → W p l env (rmR 0 0) s m ([.ref (b 0)] : List Value).toArray below meth cod s.heap [] 0 0 Q (F0 m 13 ls []) := by
    intro nn
    induction nn with
    | zero => intro _ _ _ _ h; exact absurd h (Nat.not_lt_zero _)
    | succ nn ih_13 =>
      intro k g hk hg hm_13 ls hl
      refine z_iload S dX4_entries_13 hl 0 rfl ?_
      refine z_iload_n S dX4_entries_15 hl 1 rfl rfl ?_
      refine z_icmp_ge S 38 dX4_entries_16 (by decide) (by omega) (by omega) (fun c_16 => ?_) (fun c_16 => ?_)
      · skip
        refine z_iload_n S dX4_entries_38 hl 3 rfl rfl ?_
        exact ret _ _ _ dX4_entries_39 (by rw [hg, show k = 32 by omega]; rfl)
      · skip
        refine z_aload_n S dX4_entries_19 hl 2 rfl rfl ?_
        refine z_iload S dX4_entries_20 hl 0 rfl ?_
        refine z_ialdB S hG hP.2.2.1 (by omega) (by decide) dX4_entries_22 ?_
        refine z_istore (lv' := [(5, .int (zI (σ.Dt (k)))), (4, .int (zI (k))), (3, .int (zI (32))), (2, .ref (b 2)), (1, .int (g)), (0, .ref (b 0))]) S dX4_entries_23 hl (by decide) rfl (fun ls hl => ?_)
        refine z_iload_n S dX4_entries_25 hl 4 rfl rfl ?_
        refine z_iconst S dX4_entries_26 ?_
        refine z_iload S dX4_entries_27 hl 0 rfl ?_
        refine lv_ishl S.1 S.2.1 dX4_entries_29 ?_
        refine lv_ior S.1 S.2.1 dX4_entries_30 ?_
        refine z_istore_n (lv' := [(1, .int ((g) ||| ((zI (1)) <<< ((zI (σ.Dt (k))) &&& 31)))), (5, .int (zI (σ.Dt (k)))), (4, .int (zI (k))), (3, .int (zI (32))), (2, .ref (b 2)), (0, .ref (b 0))]) S dX4_entries_31 hl rfl (by decide) rfl (fun ls hl => ?_)
        refine z_iinc (lv' := [(4, .int (zI (k + 1))), (1, .int ((g) ||| ((zI (1)) <<< ((zI (σ.Dt (k))) &&& 31)))), (5, .int (zI (σ.Dt (k)))), (3, .int (zI (32))), (2, .ref (b 2)), (0, .ref (b 0))]) S dX4_entries_32 hl 2 rfl (by decide) rfl (fun ls hl => ?_)
        refine z_goto S 13 dX4_entries_35 (by decide) ?_
        exact ih_13 (k + 1) ((g) ||| ((zI (1)) <<< ((zI (σ.Dt (k))) &&& 31))) (by omega) (by rw [orI_s hk.1, if_pos rfl, ← hg]; rfl) (by omega) ls (lv_sub hl [0, 3, 4, 1, 5] rfl)
  exact loop_13 _ (0) ((zI (0))) (by omega) (rfl) (Nat.lt_succ_self _) ls (lv_sub hl [0, 1, 2, 3, 4] rfl)
theorem dX4_flicker_0 : decode cX4_flicker 0 = .ok (.iconst 0, 1) := by decide +kernel
theorem dX4_flicker_1 : decode cX4_flicker 1 = .ok (.istore_n 2, 1) := by decide +kernel
theorem dX4_flicker_2 : decode cX4_flicker 2 = .ok (.aload_n 0, 1) := by decide +kernel
theorem dX4_flicker_3 : decode cX4_flicker 3 = .ok (.getfield 108, 3) := by decide +kernel
theorem dX4_flicker_6 : decode cX4_flicker 6 = .ok (.iconst 1, 1) := by decide +kernel
theorem dX4_flicker_7 : decode cX4_flicker 7 = .ok (.iadd, 1) := by decide +kernel
theorem dX4_flicker_8 : decode cX4_flicker 8 = .ok (.istore_n 3, 1) := by decide +kernel
theorem dX4_flicker_9 : decode cX4_flicker 9 = .ok (.iload_n 3, 1) := by decide +kernel
theorem dX4_flicker_10 : decode cX4_flicker 10 = .ok (.aload_n 0, 1) := by decide +kernel
theorem dX4_flicker_11 : decode cX4_flicker 11 = .ok (.getfield 108, 3) := by decide +kernel
theorem dX4_flicker_14 : decode cX4_flicker 14 = .ok (.bipush 30, 2) := by decide +kernel
theorem dX4_flicker_16 : decode cX4_flicker 16 = .ok (.iadd, 1) := by decide +kernel
theorem dX4_flicker_17 : decode cX4_flicker 17 = .ok (.if_icmp .gt 44, 3) := by decide +kernel
theorem dX4_flicker_20 : decode cX4_flicker 20 = .ok (.iload_n 2, 1) := by decide +kernel
theorem dX4_flicker_21 : decode cX4_flicker 21 = .ok (.aload_n 0, 1) := by decide +kernel
theorem dX4_flicker_22 : decode cX4_flicker 22 = .ok (.aload_n 0, 1) := by decide +kernel
theorem dX4_flicker_23 : decode cX4_flicker 23 = .ok (.getfield 17, 3) := by decide +kernel
theorem dX4_flicker_26 : decode cX4_flicker 26 = .ok (.iload_n 1, 1) := by decide +kernel
theorem dX4_flicker_27 : decode cX4_flicker 27 = .ok (.iaload, 1) := by decide +kernel
theorem dX4_flicker_28 : decode cX4_flicker 28 = .ok (.iload_n 3, 1) := by decide +kernel
theorem dX4_flicker_29 : decode cX4_flicker 29 = .ok (.invokevirtual 84, 3) := by decide +kernel
theorem dX4_flicker_32 : decode cX4_flicker 32 = .ok (.aload_n 0, 1) := by decide +kernel
theorem dX4_flicker_33 : decode cX4_flicker 33 = .ok (.aload_n 0, 1) := by decide +kernel
theorem dX4_flicker_34 : decode cX4_flicker 34 = .ok (.getfield 17, 3) := by decide +kernel
theorem dX4_flicker_37 : decode cX4_flicker 37 = .ok (.iload_n 1, 1) := by decide +kernel
theorem dX4_flicker_38 : decode cX4_flicker 38 = .ok (.iaload, 1) := by decide +kernel
theorem dX4_flicker_39 : decode cX4_flicker 39 = .ok (.iload_n 3, 1) := by decide +kernel
theorem dX4_flicker_40 : decode cX4_flicker 40 = .ok (.iconst 1, 1) := by decide +kernel
theorem dX4_flicker_41 : decode cX4_flicker 41 = .ok (.isub, 1) := by decide +kernel
theorem dX4_flicker_42 : decode cX4_flicker 42 = .ok (.invokevirtual 84, 3) := by decide +kernel
theorem dX4_flicker_45 : decode cX4_flicker 45 = .ok (.if_icmp .eq 7, 3) := by decide +kernel
theorem dX4_flicker_48 : decode cX4_flicker 48 = .ok (.iconst 1, 1) := by decide +kernel
theorem dX4_flicker_49 : decode cX4_flicker 49 = .ok (.goto 4, 3) := by decide +kernel
theorem dX4_flicker_52 : decode cX4_flicker 52 = .ok (.iconst 0, 1) := by decide +kernel
theorem dX4_flicker_53 : decode cX4_flicker 53 = .ok (.iadd, 1) := by decide +kernel
theorem dX4_flicker_54 : decode cX4_flicker 54 = .ok (.istore_n 2, 1) := by decide +kernel
theorem dX4_flicker_55 : decode cX4_flicker 55 = .ok (.iinc 3 1, 3) := by decide +kernel
theorem dX4_flicker_58 : decode cX4_flicker 58 = .ok (.goto (-49), 3) := by decide +kernel
theorem dX4_flicker_61 : decode cX4_flicker 61 = .ok (.iload_n 2, 1) := by decide +kernel
theorem dX4_flicker_62 : decode cX4_flicker 62 = .ok (.ireturn, 1) := by decide +kernel
theorem q4_227 : (Jvm.Cond.fieldLink "CyclepaintModel" (108 : Nat) "CyclepaintModel" "tick" "I") ∈ lw_g := zg_of (zin4 (List.mem_of_getElem? (i := 227) rfl)) rfl
theorem q5_194 : (Jvm.Cond.code ({ cls := "CyclepaintModel", name := "flicker", desc := "(I)I" } : Jvm.MethodName) prog_6_method_24_code (4 : Nat) (Option.some Jvm.ClassFile.FieldType.int)) ∈ lw_g := zg_of (zin5 (List.mem_of_getElem? (i := 194) rfl)) rfl
theorem q5_193 : (Jvm.Cond.instanceMethod ({ cls := "CyclepaintModel", name := "flicker", desc := "(I)I" } : Jvm.MethodName)) ∈ lw_g := zg_of (zin5 (List.mem_of_getElem? (i := 193) rfl)) rfl
theorem qs_35 : Cond.selects "CyclepaintModel" (⟨"CyclepaintModel", "flicker", "(I)I"⟩ : MethodName) (⟨"CyclepaintModel", "flicker", "(I)I"⟩ : MethodName) ∈ lw_g := zg_of (zinS (List.mem_of_getElem? (i := 35) rfl)) rfl
theorem ok_X4_flicker : zOV yX4_flicker cX4_flicker 4 ((Option.some Jvm.ClassFile.FieldType.int)) 1 := ⟨⟨q5_194, q1_3, by decide, by decide, by decide +kernel⟩, q5_193, qs_35⟩
set_option maxHeartbeats 4000000 in
set_option maxRecDepth 100000 in
theorem c_X4_flicker (l : Launch) (G : zG) (σ : St) (b : Nat → Nat) (th m1 m2 : Int32) (d : Int) (hd : 0 ≤ d ∧ d < 32) (hdt : ∀ d : Int, 0 ≤ d → d < 32 → 0 ≤ σ.Dt d ∧ σ.Dt d < 16) (hT : 0 ≤ σ.tk ∧ σ.tk ≤ 99999) : Met l yX4_flicker (wq yX4_flicker cX4_flicker 4 ((Option.some Jvm.ClassFile.FieldType.int))) (rmR 5 110) (va_Pc [.ref (b 0), .int (zI (d))] (zK G (hMod G σ b th m1 m2))) (zQ (some (.int ((zI (chg σ (σ.Dt d) σ.tk 30)))))) 0 0 zF := by
  refine z_enterI (by decide +kernel) (Nat.le_of_ble_eq_true rfl) ?_
  intro p env s m below meth cod Q S hG hP ret ls hl
  have hl : lv_has ls 4 [(0, .ref (b 0)), (1, .int (zI (d)))] := hl
  have hdt0 := hdt d hd.1 hd.2
  refine z_iconst S dX4_flicker_0 ?_
  refine z_istore_n (lv' := [(2, .int (zI (0))), (0, .ref (b 0)), (1, .int (zI (d)))]) S dX4_flicker_1 hl rfl (by decide) rfl (fun ls hl => ?_)
  refine z_aload_n S dX4_flicker_2 hl 1 rfl rfl ?_
  refine z_get S hG hP.1 zc_X4 1 (by decide) q4_227 rfl rfl dX4_flicker_3 ?_
  refine z_iconst S dX4_flicker_6 ?_
  refine z_iadd S dX4_flicker_7 ?_
  refine z_istore_n (lv' := [(3, .int (zI ((σ.tk) + (1)))), (2, .int (zI (0))), (0, .ref (b 0)), (1, .int (zI (d)))]) S dX4_flicker_8 hl rfl (by decide) rfl (fun ls hl => ?_)
  have loop_9 : ∀ (nn : Nat) (k : Int) (ch : Int), (σ.tk + 1 ≤ k ∧ k ≤ σ.tk + 31) → (ch = cntI (chgB σ (σ.Dt d) σ.tk) (k - σ.tk - 1)) → ((σ.tk + 31 - k).toNat) < nn → ∀ ls, lv_has ls 4 [(3, .int (zI (k))), (2, .int (zI (ch))), (0, .ref (b 0)), (1, .int (zI (d)))] → W p l env (rmR 5 110) s m ([.ref (b 0), .int (zI (d))] : List Value).toArray below meth cod s.heap [] 0 0 Q (F0 m 9 ls []) := by
    intro nn
    induction nn with
    | zero => intro _ _ _ _ h; exact absurd h (Nat.not_lt_zero _)
    | succ nn ih_9 =>
      intro k ch hk hch hm_9 ls hl
      refine z_iload_n S dX4_flicker_9 hl 0 rfl rfl ?_
      refine z_aload_n S dX4_flicker_10 hl 2 rfl rfl ?_
      refine z_get S hG hP.1 zc_X4 1 (by decide) q4_227 rfl rfl dX4_flicker_11 ?_
      refine z_bipush S dX4_flicker_14 rfl ?_
      refine z_iadd S dX4_flicker_16 ?_
      refine z_icmp_gt S 61 dX4_flicker_17 (by decide) (by omega) (by omega) (fun c_17 => ?_) (fun c_17 => ?_)
      · skip
        refine z_iload_n S dX4_flicker_61 hl 1 rfl rfl ?_
        exact ret _ _ _ dX4_flicker_62 (by rw [hch, show k - σ.tk - 1 = 30 by omega]; rfl)
      · skip
        refine z_iload_n S dX4_flicker_20 hl 1 rfl rfl ?_
        refine z_aload_n S dX4_flicker_21 hl 2 rfl rfl ?_
        refine z_aload_n S dX4_flicker_22 hl 2 rfl rfl ?_
        refine z_get S hG hP.1 zc_X4 5 (by decide) q4_231 rfl rfl dX4_flicker_23 ?_
        refine z_iload_n S dX4_flicker_26 hl 3 rfl rfl ?_
        refine z_ialdB S hG hP.2.2.1 (by omega) (by decide) dX4_flicker_27 ?_
        refine z_iload_n S dX4_flicker_28 hl 0 rfl rfl ?_
        refine z_callVs S hG (c_X4_show l G σ b th m1 m2 (σ.Dt (d)) (k) (by omega) (by omega)) ok_X4_show hP.1 zc_X4 rfl q5_159 (hP) ⟨rfl, rfl, by decide, by decide⟩ ⟨Nat.zero_le _, Nat.zero_le _⟩ rfl (Nat.le_of_ble_eq_true rfl) hl.1 rfl dX4_flicker_29 ?_
        refine z_aload_n S dX4_flicker_32 hl 2 rfl rfl ?_
        refine z_aload_n S dX4_flicker_33 hl 2 rfl rfl ?_
        refine z_get S hG hP.1 zc_X4 5 (by decide) q4_231 rfl rfl dX4_flicker_34 ?_
        refine z_iload_n S dX4_flicker_37 hl 3 rfl rfl ?_
        refine z_ialdB S hG hP.2.2.1 (by omega) (by decide) dX4_flicker_38 ?_
        refine z_iload_n S dX4_flicker_39 hl 0 rfl rfl ?_
        refine z_iconst S dX4_flicker_40 ?_
        refine z_isub S dX4_flicker_41 ?_
        refine z_callVs S hG (c_X4_show l G σ b th m1 m2 (σ.Dt (d)) ((k) - (1)) (by omega) (by omega)) ok_X4_show hP.1 zc_X4 rfl q5_159 (hP) ⟨rfl, rfl, by decide, by decide⟩ ⟨Nat.zero_le _, Nat.zero_le _⟩ rfl (Nat.le_of_ble_eq_true rfl) hl.1 rfl dX4_flicker_42 ?_
        refine lv_icmp_eq (tgt := 52) S.1 S.2.1 dX4_flicker_45 (by decide) (fun c_45 => ?_) (fun c_45 => ?_)
        · skip
          refine z_iconst S dX4_flicker_52 ?_
          refine z_iadd S dX4_flicker_53 ?_
          refine z_istore_n (lv' := [(2, .int (zI ((ch) + (0)))), (3, .int (zI (k))), (0, .ref (b 0)), (1, .int (zI (d)))]) S dX4_flicker_54 hl rfl (by decide) rfl (fun ls hl => ?_)
          refine z_iinc (lv' := [(3, .int (zI (k + 1))), (2, .int (zI ((ch) + (0)))), (0, .ref (b 0)), (1, .int (zI (d)))]) S dX4_flicker_55 hl 1 rfl (by decide) rfl (fun ls hl => ?_)
          refine z_goto S 9 dX4_flicker_58 (by decide) ?_
          exact ih_9 (k + 1) ((ch) + (0)) (by omega) (by rw [show k + 1 - σ.tk - 1 = (k - σ.tk - 1) + 1 by omega, cntI_f (by omega) (by unfold chgB; rw [show σ.tk + (k - σ.tk - 1) + 1 = k by omega, show σ.tk + (k - σ.tk - 1) = k - 1 by omega]; simp [c_45]), ← hch]; omega) (by omega) ls (lv_sub hl [0, 1, 2, 3] rfl)
        · skip
          refine z_iconst S dX4_flicker_48 ?_
          refine z_goto S 53 dX4_flicker_49 (by decide) ?_
          refine z_iadd S dX4_flicker_53 ?_
          refine z_istore_n (lv' := [(2, .int (zI ((ch) + (1)))), (3, .int (zI (k))), (0, .ref (b 0)), (1, .int (zI (d)))]) S dX4_flicker_54 hl rfl (by decide) rfl (fun ls hl => ?_)
          refine z_iinc (lv' := [(3, .int (zI (k + 1))), (2, .int (zI ((ch) + (1)))), (0, .ref (b 0)), (1, .int (zI (d)))]) S dX4_flicker_55 hl 1 rfl (by decide) rfl (fun ls hl => ?_)
          refine z_goto S 9 dX4_flicker_58 (by decide) ?_
          exact ih_9 (k + 1) ((ch) + (1)) (by omega) (by rw [show k + 1 - σ.tk - 1 = (k - σ.tk - 1) + 1 by omega, cntI_t (by omega) (by unfold chgB; rw [show σ.tk + (k - σ.tk - 1) + 1 = k by omega, show σ.tk + (k - σ.tk - 1) = k - 1 by omega]; simp [c_45]), ← hch]) (by omega) ls (lv_sub hl [0, 1, 2, 3] rfl)
  exact loop_9 _ ((σ.tk) + (1)) (0) (by omega) (by rw [show σ.tk + 1 - σ.tk - 1 = 0 by omega]; rfl) (Nat.lt_succ_self _) ls (lv_sub hl [0, 1, 2, 3] rfl)
theorem dX4_flickering_0 : decode cX4_flickering 0 = .ok (.iconst 0, 1) := by decide +kernel
theorem dX4_flickering_1 : decode cX4_flickering 1 = .ok (.istore_n 1, 1) := by decide +kernel
theorem dX4_flickering_2 : decode cX4_flickering 2 = .ok (.iconst 0, 1) := by decide +kernel
theorem dX4_flickering_3 : decode cX4_flickering 3 = .ok (.istore_n 2, 1) := by decide +kernel
theorem dX4_flickering_4 : decode cX4_flickering 4 = .ok (.iload_n 2, 1) := by decide +kernel
theorem dX4_flickering_5 : decode cX4_flickering 5 = .ok (.aload_n 0, 1) := by decide +kernel
theorem dX4_flickering_6 : decode cX4_flickering 6 = .ok (.getfield 17, 3) := by decide +kernel
theorem dX4_flickering_9 : decode cX4_flickering 9 = .ok (.arraylength, 1) := by decide +kernel
theorem dX4_flickering_10 : decode cX4_flickering 10 = .ok (.if_icmp .ge 27, 3) := by decide +kernel
theorem dX4_flickering_13 : decode cX4_flickering 13 = .ok (.iload_n 1, 1) := by decide +kernel
theorem dX4_flickering_14 : decode cX4_flickering 14 = .ok (.aload_n 0, 1) := by decide +kernel
theorem dX4_flickering_15 : decode cX4_flickering 15 = .ok (.iload_n 2, 1) := by decide +kernel
theorem dX4_flickering_16 : decode cX4_flickering 16 = .ok (.invokevirtual 111, 3) := by decide +kernel
theorem dX4_flickering_19 : decode cX4_flickering 19 = .ok (.bipush 10, 2) := by decide +kernel
theorem dX4_flickering_21 : decode cX4_flickering 21 = .ok (.if_icmp .le 7, 3) := by decide +kernel
theorem dX4_flickering_24 : decode cX4_flickering 24 = .ok (.iconst 1, 1) := by decide +kernel
theorem dX4_flickering_25 : decode cX4_flickering 25 = .ok (.goto 4, 3) := by decide +kernel
theorem dX4_flickering_28 : decode cX4_flickering 28 = .ok (.iconst 0, 1) := by decide +kernel
theorem dX4_flickering_29 : decode cX4_flickering 29 = .ok (.iadd, 1) := by decide +kernel
theorem dX4_flickering_30 : decode cX4_flickering 30 = .ok (.istore_n 1, 1) := by decide +kernel
theorem dX4_flickering_31 : decode cX4_flickering 31 = .ok (.iinc 2 1, 3) := by decide +kernel
theorem dX4_flickering_34 : decode cX4_flickering 34 = .ok (.goto (-30), 3) := by decide +kernel
theorem dX4_flickering_37 : decode cX4_flickering 37 = .ok (.iload_n 1, 1) := by decide +kernel
theorem dX4_flickering_38 : decode cX4_flickering 38 = .ok (.ireturn, 1) := by decide +kernel
theorem q5_191 : (Jvm.Cond.methodLink "CyclepaintModel" (111 : Nat) ({ cls := "CyclepaintModel", name := "flicker", desc := "(I)I" } : Jvm.MethodName)) ∈ lw_g := zg_of (zin5 (List.mem_of_getElem? (i := 191) rfl)) rfl
theorem q5_190 : (Jvm.Cond.code ({ cls := "CyclepaintModel", name := "flickering", desc := "()I" } : Jvm.MethodName) prog_6_method_25_code (3 : Nat) (Option.some Jvm.ClassFile.FieldType.int)) ∈ lw_g := zg_of (zin5 (List.mem_of_getElem? (i := 190) rfl)) rfl
theorem q5_189 : (Jvm.Cond.instanceMethod ({ cls := "CyclepaintModel", name := "flickering", desc := "()I" } : Jvm.MethodName)) ∈ lw_g := zg_of (zin5 (List.mem_of_getElem? (i := 189) rfl)) rfl
theorem qs_34 : Cond.selects "CyclepaintModel" (⟨"CyclepaintModel", "flickering", "()I"⟩ : MethodName) (⟨"CyclepaintModel", "flickering", "()I"⟩ : MethodName) ∈ lw_g := zg_of (zinS (List.mem_of_getElem? (i := 34) rfl)) rfl
theorem ok_X4_flickering : zOV yX4_flickering cX4_flickering 3 ((Option.some Jvm.ClassFile.FieldType.int)) 0 := ⟨⟨q5_190, q1_3, by decide, by decide, by decide +kernel⟩, q5_189, qs_34⟩
set_option maxHeartbeats 4000000 in
set_option maxRecDepth 100000 in
theorem c_X4_flickering (l : Launch) (G : zG) (σ : St) (b : Nat → Nat) (th m1 m2 : Int32) (hdt : ∀ d : Int, 0 ≤ d → d < 32 → 0 ≤ σ.Dt d ∧ σ.Dt d < 16) (hT : 0 ≤ σ.tk ∧ σ.tk ≤ 99999) : Met l yX4_flickering (wq yX4_flickering cX4_flickering 3 ((Option.some Jvm.ClassFile.FieldType.int))) (rmR 6 133) (va_Pc [.ref (b 0)] (zK G (hMod G σ b th m1 m2))) (zQ (some (.int ((zI (flM σ)))))) 0 0 zF := by
  refine z_enterI (by decide +kernel) (Nat.le_of_ble_eq_true rfl) ?_
  intro p env s m below meth cod Q S hG hP ret ls hl
  have hl : lv_has ls 3 [(0, .ref (b 0))] := hl
  refine z_iconst S dX4_flickering_0 ?_
  refine z_istore_n (lv' := [(1, .int (zI (0))), (0, .ref (b 0))]) S dX4_flickering_1 hl rfl (by decide) rfl (fun ls hl => ?_)
  refine z_iconst S dX4_flickering_2 ?_
  refine z_istore_n (lv' := [(2, .int (zI (0))), (1, .int (zI (0))), (0, .ref (b 0))]) S dX4_flickering_3 hl rfl (by decide) rfl (fun ls hl => ?_)
  have loop_4 : ∀ (nn : Nat) (k : Int) (ch : Int), (0 ≤ k ∧ k ≤ 32) → (ch = cntI (fkB σ) k) → ((32 - k).toNat) < nn → ∀ ls, lv_has ls 3 [(2, .int (zI (k))), (1, .int (zI (ch))), (0, .ref (b 0))] → W p l env (rmR 6 133) s m ([.ref (b 0)] : List Value).toArray below meth cod s.heap [] 0 0 Q (F0 m 4 ls []) := by
    intro nn
    induction nn with
    | zero => intro _ _ _ _ h; exact absurd h (Nat.not_lt_zero _)
    | succ nn ih_4 =>
      intro k ch hk hch hm_4 ls hl
      refine z_iload_n S dX4_flickering_4 hl 0 rfl rfl ?_
      refine z_aload_n S dX4_flickering_5 hl 2 rfl rfl ?_
      refine z_get S hG hP.1 zc_X4 5 (by decide) q4_231 rfl rfl dX4_flickering_6 ?_
      refine z_alenI S hG hP.2.2.1 dX4_flickering_9 ?_
      refine z_icmp_ge S 37 dX4_flickering_10 (by decide) (by omega) (by omega) (fun c_10 => ?_) (fun c_10 => ?_)
      · skip
        refine z_iload_n S dX4_flickering_37 hl 1 rfl rfl ?_
        exact ret _ _ _ dX4_flickering_38 (by rw [hch, show k = 32 by omega]; rfl)
      · skip
        refine z_iload_n S dX4_flickering_13 hl 1 rfl rfl ?_
        refine z_aload_n S dX4_flickering_14 hl 2 rfl rfl ?_
        refine z_iload_n S dX4_flickering_15 hl 0 rfl rfl ?_
        refine z_callVs S hG (c_X4_flicker l G σ b th m1 m2 (k) (by omega) hdt hT) ok_X4_flicker hP.1 zc_X4 rfl q5_191 (hP) ⟨rfl, rfl, by decide, by decide⟩ ⟨Nat.zero_le _, Nat.zero_le _⟩ rfl (Nat.le_of_ble_eq_true rfl) hl.1 rfl dX4_flickering_16 ?_
        refine z_bipush S dX4_flickering_19 rfl ?_
        have hcb := cntI_b (chgB σ (σ.Dt k) σ.tk) (k := 30) (by omega)
        have hce : chg σ (σ.Dt k) σ.tk 30 = cntI (chgB σ (σ.Dt k) σ.tk) 30 := rfl
        refine z_icmp_le S 28 dX4_flickering_21 (by decide) (by omega) (by omega) (fun c_21 => ?_) (fun c_21 => ?_)
        · skip
          refine z_iconst S dX4_flickering_28 ?_
          refine z_iadd S dX4_flickering_29 ?_
          refine z_istore_n (lv' := [(1, .int (zI ((ch) + (0)))), (2, .int (zI (k))), (0, .ref (b 0))]) S dX4_flickering_30 hl rfl (by decide) rfl (fun ls hl => ?_)
          refine z_iinc (lv' := [(2, .int (zI (k + 1))), (1, .int (zI ((ch) + (0)))), (0, .ref (b 0))]) S dX4_flickering_31 hl 1 rfl (by decide) rfl (fun ls hl => ?_)
          refine z_goto S 4 dX4_flickering_34 (by decide) ?_
          exact ih_4 (k + 1) ((ch) + (0)) (by omega) (by rw [cntI_f hk.1 (by unfold fkB; simp; omega), ← hch]; omega) (by omega) ls (lv_sub hl [0, 1, 2] rfl)
        · skip
          refine z_iconst S dX4_flickering_24 ?_
          refine z_goto S 29 dX4_flickering_25 (by decide) ?_
          refine z_iadd S dX4_flickering_29 ?_
          refine z_istore_n (lv' := [(1, .int (zI ((ch) + (1)))), (2, .int (zI (k))), (0, .ref (b 0))]) S dX4_flickering_30 hl rfl (by decide) rfl (fun ls hl => ?_)
          refine z_iinc (lv' := [(2, .int (zI (k + 1))), (1, .int (zI ((ch) + (1)))), (0, .ref (b 0))]) S dX4_flickering_31 hl 1 rfl (by decide) rfl (fun ls hl => ?_)
          refine z_goto S 4 dX4_flickering_34 (by decide) ?_
          exact ih_4 (k + 1) ((ch) + (1)) (by omega) (by rw [cntI_t hk.1 (by unfold fkB; simp; omega), ← hch]) (by omega) ls (lv_sub hl [0, 1, 2] rfl)
  exact loop_4 _ (0) (0) (by omega) (rfl) (Nat.lt_succ_self _) ls (lv_sub hl [0, 1, 2] rfl)
theorem dX4_lightAt_0 : decode cX4_lightAt 0 = .ok (.iconst 0, 1) := by decide +kernel
theorem dX4_lightAt_1 : decode cX4_lightAt 1 = .ok (.istore_n 2, 1) := by decide +kernel
theorem dX4_lightAt_2 : decode cX4_lightAt 2 = .ok (.aload_n 0, 1) := by decide +kernel
theorem dX4_lightAt_3 : decode cX4_lightAt 3 = .ok (.getfield 17, 3) := by decide +kernel
theorem dX4_lightAt_6 : decode cX4_lightAt 6 = .ok (.astore_n 3, 1) := by decide +kernel
theorem dX4_lightAt_7 : decode cX4_lightAt 7 = .ok (.aload_n 3, 1) := by decide +kernel
theorem dX4_lightAt_8 : decode cX4_lightAt 8 = .ok (.arraylength, 1) := by decide +kernel
theorem dX4_lightAt_9 : decode cX4_lightAt 9 = .ok (.istore 4, 2) := by decide +kernel
theorem dX4_lightAt_11 : decode cX4_lightAt 11 = .ok (.iconst 0, 1) := by decide +kernel
theorem dX4_lightAt_12 : decode cX4_lightAt 12 = .ok (.istore 5, 2) := by decide +kernel
theorem dX4_lightAt_14 : decode cX4_lightAt 14 = .ok (.iload 5, 2) := by decide +kernel
theorem dX4_lightAt_16 : decode cX4_lightAt 16 = .ok (.iload 4, 2) := by decide +kernel
theorem dX4_lightAt_18 : decode cX4_lightAt 18 = .ok (.if_icmp .ge 28, 3) := by decide +kernel
theorem dX4_lightAt_21 : decode cX4_lightAt 21 = .ok (.aload_n 3, 1) := by decide +kernel
theorem dX4_lightAt_22 : decode cX4_lightAt 22 = .ok (.iload 5, 2) := by decide +kernel
theorem dX4_lightAt_24 : decode cX4_lightAt 24 = .ok (.iaload, 1) := by decide +kernel
theorem dX4_lightAt_25 : decode cX4_lightAt 25 = .ok (.istore 6, 2) := by decide +kernel
theorem dX4_lightAt_27 : decode cX4_lightAt 27 = .ok (.iload_n 2, 1) := by decide +kernel
theorem dX4_lightAt_28 : decode cX4_lightAt 28 = .ok (.aload_n 0, 1) := by decide +kernel
theorem dX4_lightAt_29 : decode cX4_lightAt 29 = .ok (.iload 6, 2) := by decide +kernel
theorem dX4_lightAt_31 : decode cX4_lightAt 31 = .ok (.iload_n 1, 1) := by decide +kernel
theorem dX4_lightAt_32 : decode cX4_lightAt 32 = .ok (.invokevirtual 84, 3) := by decide +kernel
theorem dX4_lightAt_35 : decode cX4_lightAt 35 = .ok (.invokestatic 114, 3) := by decide +kernel
theorem dX4_lightAt_38 : decode cX4_lightAt 38 = .ok (.iadd, 1) := by decide +kernel
theorem dX4_lightAt_39 : decode cX4_lightAt 39 = .ok (.istore_n 2, 1) := by decide +kernel
theorem dX4_lightAt_40 : decode cX4_lightAt 40 = .ok (.iinc 5 1, 3) := by decide +kernel
theorem dX4_lightAt_43 : decode cX4_lightAt 43 = .ok (.goto (-29), 3) := by decide +kernel
theorem dX4_lightAt_46 : decode cX4_lightAt 46 = .ok (.iload_n 2, 1) := by decide +kernel
theorem dX4_lightAt_47 : decode cX4_lightAt 47 = .ok (.ireturn, 1) := by decide +kernel
theorem q5_207 : (Jvm.Cond.methodLink "CyclepaintModel" (114 : Nat) ({ cls := "CyclepaintModel", name := "light", desc := "(I)I" } : Jvm.MethodName)) ∈ lw_g := zg_of (zin5 (List.mem_of_getElem? (i := 207) rfl)) rfl
theorem q6_10 : (Jvm.Cond.code ({ cls := "CyclepaintModel", name := "lightAt", desc := "(I)I" } : Jvm.MethodName) prog_6_method_26_code (7 : Nat) (Option.some Jvm.ClassFile.FieldType.int)) ∈ lw_g := zg_of (zin6 (List.mem_of_getElem? (i := 10) rfl)) rfl
theorem q6_9 : (Jvm.Cond.instanceMethod ({ cls := "CyclepaintModel", name := "lightAt", desc := "(I)I" } : Jvm.MethodName)) ∈ lw_g := zg_of (zin6 (List.mem_of_getElem? (i := 9) rfl)) rfl
theorem qs_43 : Cond.selects "CyclepaintModel" (⟨"CyclepaintModel", "lightAt", "(I)I"⟩ : MethodName) (⟨"CyclepaintModel", "lightAt", "(I)I"⟩ : MethodName) ∈ lw_g := zg_of (zinS (List.mem_of_getElem? (i := 43) rfl)) rfl
theorem ok_X4_lightAt : zOV yX4_lightAt cX4_lightAt 7 ((Option.some Jvm.ClassFile.FieldType.int)) 1 := ⟨⟨q6_10, q1_3, by decide, by decide, by decide +kernel⟩, q6_9, qs_43⟩
set_option maxHeartbeats 4000000 in
set_option maxRecDepth 100000 in
theorem c_X4_lightAt (l : Launch) (G : zG) (σ : St) (b : Nat → Nat) (th m1 m2 : Int32) (w : Int) (hw : 0 ≤ w ∧ w ≤ 1000000) (hdt : ∀ d : Int, 0 ≤ d → d < 32 → 0 ≤ σ.Dt d ∧ σ.Dt d < 16) : Met l yX4_lightAt (wq yX4_lightAt cX4_lightAt 7 ((Option.some Jvm.ClassFile.FieldType.int))) (rmR 5 110) (va_Pc [.ref (b 0), .int (zI (w))] (zK G (hMod G σ b th m1 m2))) (zQ (some (.int ((liM σ w))))) 0 0 zF := by
  refine z_enterI (by decide +kernel) (Nat.le_of_ble_eq_true rfl) ?_
  intro p env s m below meth cod Q S hG hP ret ls hl
  have hl : lv_has ls 7 [(0, .ref (b 0)), (1, .int (zI (w)))] := hl
  refine z_iconst S dX4_lightAt_0 ?_
  refine z_istore_n (lv' := [(2, .int (zI (0))), (0, .ref (b 0)), (1, .int (zI (w)))]) S dX4_lightAt_1 hl rfl (by decide) rfl (fun ls hl => ?_)
  refine z_aload_n S dX4_lightAt_2 hl 1 rfl rfl ?_
  refine z_get S hG hP.1 zc_X4 5 (by decide) q4_231 rfl rfl dX4_lightAt_3 ?_
  refine z_astore_n (lv' := [(3, .ref (b 2)), (2, .int (zI (0))), (0, .ref (b 0)), (1, .int (zI (w)))]) S dX4_lightAt_6 hl rfl (by decide) rfl (fun ls hl => ?_)
  refine z_aload_n S dX4_lightAt_7 hl 0 rfl rfl ?_
  refine z_alenI S hG hP.2.2.1 dX4_lightAt_8 ?_
  refine z_istore (lv' := [(4, .int (zI (32))), (3, .ref (b 2)), (2, .int (zI (0))), (0, .ref (b 0)), (1, .int (zI (w)))]) S dX4_lightAt_9 hl (by decide) rfl (fun ls hl => ?_)
  refine z_iconst S dX4_lightAt_11 ?_
  refine z_istore (lv' := [(5, .int (zI (0))), (4, .int (zI (32))), (3, .ref (b 2)), (2, .int (zI (0))), (0, .ref (b 0)), (1, .int (zI (w)))]) S dX4_lightAt_12 hl (by decide) rfl (fun ls hl => ?_)
  have loop_14 : ∀ (nn : Nat) (k : Int) (g : Int32), (0 ≤ k ∧ k ≤ 32) → (g = smI (fun d => lgt (shw σ (σ.Dt d) w)) k) → ((32 - k).toNat) < nn → ∀ ls, lv_has ls 7 [(5, .int (zI (k))), (4, .int (zI (32))), (3, .ref (b 2)), (2, .int (g)), (0, .ref (b 0)), (1, .int (zI (w)))] → W p l env (rmR 5 110) s m ([.ref (b 0), .int (zI (w))] : List Value).toArray below meth cod s.heap [] 0 0 Q (F0 m 14 ls []) := by
    intro nn
    induction nn with
    | zero => intro _ _ _ _ h; exact absurd h (Nat.not_lt_zero _)
    | succ nn ih_14 =>
      intro k g hk hg hm_14 ls hl
      refine z_iload S dX4_lightAt_14 hl 0 rfl ?_
      refine z_iload S dX4_lightAt_16 hl 1 rfl ?_
      refine z_icmp_ge S 46 dX4_lightAt_18 (by decide) (by omega) (by omega) (fun c_18 => ?_) (fun c_18 => ?_)
      · skip
        refine z_iload_n S dX4_lightAt_46 hl 3 rfl rfl ?_
        exact ret _ _ _ dX4_lightAt_47 (by rw [hg, show k = 32 by omega]; rfl)
      · skip
        refine z_aload_n S dX4_lightAt_21 hl 2 rfl rfl ?_
        refine z_iload S dX4_lightAt_22 hl 0 rfl ?_
        refine z_ialdB S hG hP.2.2.1 (by omega) (by decide) dX4_lightAt_24 ?_
        refine z_istore (lv' := [(6, .int (zI (σ.Dt (k)))), (5, .int (zI (k))), (4, .int (zI (32))), (3, .ref (b 2)), (2, .int (g)), (0, .ref (b 0)), (1, .int (zI (w)))]) S dX4_lightAt_25 hl (by decide) rfl (fun ls hl => ?_)
        have hdt0 := hdt k hk.1 (by omega)
        refine z_iload_n S dX4_lightAt_27 hl 4 rfl rfl ?_
        refine z_aload_n S dX4_lightAt_28 hl 5 rfl rfl ?_
        refine z_iload S dX4_lightAt_29 hl 0 rfl ?_
        refine z_iload_n S dX4_lightAt_31 hl 6 rfl rfl ?_
        refine z_callVs S hG (c_X4_show l G σ b th m1 m2 (σ.Dt (k)) (w) (by omega) (by omega)) ok_X4_show hP.1 zc_X4 rfl q5_159 (hP) ⟨rfl, rfl, by decide, by decide⟩ ⟨Nat.zero_le _, Nat.zero_le _⟩ rfl (Nat.le_of_ble_eq_true rfl) hl.1 rfl dX4_lightAt_32 ?_
        refine z_callSs S hG (c_X4_light l G (shw σ (σ.Dt (k)) (w))) ok_X4_light q5_207 (trivial) ⟨rfl, rfl, by decide, by decide⟩ ⟨Nat.zero_le _, Nat.zero_le _⟩ rfl (Nat.le_of_ble_eq_true rfl) hl.1 rfl dX4_lightAt_35 ?_
        refine lv_iadd S.1 S.2.1 dX4_lightAt_38 ?_
        refine z_istore_n (lv' := [(2, .int ((g) + (lgt (shw σ (σ.Dt (k)) (w))))), (6, .int (zI (σ.Dt (k)))), (5, .int (zI (k))), (4, .int (zI (32))), (3, .ref (b 2)), (0, .ref (b 0)), (1, .int (zI (w)))]) S dX4_lightAt_39 hl rfl (by decide) rfl (fun ls hl => ?_)
        refine z_iinc (lv' := [(5, .int (zI (k + 1))), (2, .int ((g) + (lgt (shw σ (σ.Dt (k)) (w))))), (6, .int (zI (σ.Dt (k)))), (4, .int (zI (32))), (3, .ref (b 2)), (0, .ref (b 0)), (1, .int (zI (w)))]) S dX4_lightAt_40 hl 2 rfl (by decide) rfl (fun ls hl => ?_)
        refine z_goto S 14 dX4_lightAt_43 (by decide) ?_
        exact ih_14 (k + 1) ((g) + (lgt (shw σ (σ.Dt (k)) (w)))) (by omega) (by rw [smI_s hk.1, ← hg]) (by omega) ls (lv_sub hl [0, 3, 4, 1, 5, 6] rfl)
  exact loop_14 _ (0) ((zI (0))) (by omega) (rfl) (Nat.lt_succ_self _) ls (lv_sub hl [0, 1, 2, 3, 4, 5] rfl)
theorem dX4_mostOfRows_0 : decode cX4_mostOfRows 0 = .ok (.iconst 0, 1) := by decide +kernel
theorem dX4_mostOfRows_1 : decode cX4_mostOfRows 1 = .ok (.istore_n 1, 1) := by decide +kernel
theorem dX4_mostOfRows_2 : decode cX4_mostOfRows 2 = .ok (.iconst 0, 1) := by decide +kernel
theorem dX4_mostOfRows_3 : decode cX4_mostOfRows 3 = .ok (.istore_n 2, 1) := by decide +kernel
theorem dX4_mostOfRows_4 : decode cX4_mostOfRows 4 = .ok (.iload_n 2, 1) := by decide +kernel
theorem dX4_mostOfRows_5 : decode cX4_mostOfRows 5 = .ok (.iconst 4, 1) := by decide +kernel
theorem dX4_mostOfRows_6 : decode cX4_mostOfRows 6 = .ok (.if_icmp .ge 59, 3) := by decide +kernel
theorem dX4_mostOfRows_9 : decode cX4_mostOfRows 9 = .ok (.iconst 0, 1) := by decide +kernel
theorem dX4_mostOfRows_10 : decode cX4_mostOfRows 10 = .ok (.istore_n 3, 1) := by decide +kernel
theorem dX4_mostOfRows_11 : decode cX4_mostOfRows 11 = .ok (.iconst 0, 1) := by decide +kernel
theorem dX4_mostOfRows_12 : decode cX4_mostOfRows 12 = .ok (.istore 4, 2) := by decide +kernel
theorem dX4_mostOfRows_14 : decode cX4_mostOfRows 14 = .ok (.iload 4, 2) := by decide +kernel
theorem dX4_mostOfRows_16 : decode cX4_mostOfRows 16 = .ok (.bipush 8, 2) := by decide +kernel
theorem dX4_mostOfRows_18 : decode cX4_mostOfRows 18 = .ok (.if_icmp .ge 35, 3) := by decide +kernel
theorem dX4_mostOfRows_21 : decode cX4_mostOfRows 21 = .ok (.iload_n 3, 1) := by decide +kernel
theorem dX4_mostOfRows_22 : decode cX4_mostOfRows 22 = .ok (.aload_n 0, 1) := by decide +kernel
theorem dX4_mostOfRows_23 : decode cX4_mostOfRows 23 = .ok (.aload_n 0, 1) := by decide +kernel
theorem dX4_mostOfRows_24 : decode cX4_mostOfRows 24 = .ok (.getfield 17, 3) := by decide +kernel
theorem dX4_mostOfRows_27 : decode cX4_mostOfRows 27 = .ok (.bipush 8, 2) := by decide +kernel
theorem dX4_mostOfRows_29 : decode cX4_mostOfRows 29 = .ok (.iload_n 2, 1) := by decide +kernel
theorem dX4_mostOfRows_30 : decode cX4_mostOfRows 30 = .ok (.imul, 1) := by decide +kernel
theorem dX4_mostOfRows_31 : decode cX4_mostOfRows 31 = .ok (.iload 4, 2) := by decide +kernel
theorem dX4_mostOfRows_33 : decode cX4_mostOfRows 33 = .ok (.iadd, 1) := by decide +kernel
theorem dX4_mostOfRows_34 : decode cX4_mostOfRows 34 = .ok (.iaload, 1) := by decide +kernel
theorem dX4_mostOfRows_35 : decode cX4_mostOfRows 35 = .ok (.aload_n 0, 1) := by decide +kernel
theorem dX4_mostOfRows_36 : decode cX4_mostOfRows 36 = .ok (.getfield 108, 3) := by decide +kernel
theorem dX4_mostOfRows_39 : decode cX4_mostOfRows 39 = .ok (.invokevirtual 84, 3) := by decide +kernel
theorem dX4_mostOfRows_42 : decode cX4_mostOfRows 42 = .ok (.invokestatic 114, 3) := by decide +kernel
theorem dX4_mostOfRows_45 : decode cX4_mostOfRows 45 = .ok (.iadd, 1) := by decide +kernel
theorem dX4_mostOfRows_46 : decode cX4_mostOfRows 46 = .ok (.istore_n 3, 1) := by decide +kernel
theorem dX4_mostOfRows_47 : decode cX4_mostOfRows 47 = .ok (.iinc 4 1, 3) := by decide +kernel
theorem dX4_mostOfRows_50 : decode cX4_mostOfRows 50 = .ok (.goto (-36), 3) := by decide +kernel
theorem dX4_mostOfRows_53 : decode cX4_mostOfRows 53 = .ok (.iload_n 1, 1) := by decide +kernel
theorem dX4_mostOfRows_54 : decode cX4_mostOfRows 54 = .ok (.iload_n 3, 1) := by decide +kernel
theorem dX4_mostOfRows_55 : decode cX4_mostOfRows 55 = .ok (.invokestatic 161, 3) := by decide +kernel
theorem dX4_mostOfRows_58 : decode cX4_mostOfRows 58 = .ok (.istore_n 1, 1) := by decide +kernel
theorem dX4_mostOfRows_59 : decode cX4_mostOfRows 59 = .ok (.iinc 2 1, 3) := by decide +kernel
theorem dX4_mostOfRows_62 : decode cX4_mostOfRows 62 = .ok (.goto (-58), 3) := by decide +kernel
theorem dX4_mostOfRows_65 : decode cX4_mostOfRows 65 = .ok (.iload_n 1, 1) := by decide +kernel
theorem dX4_mostOfRows_66 : decode cX4_mostOfRows 66 = .ok (.ireturn, 1) := by decide +kernel
theorem q6_15 : (Jvm.Cond.methodLink "CyclepaintModel" (161 : Nat) ({ cls := "java/lang/Math", name := "max", desc := "(II)I" } : Jvm.MethodName)) ∈ lw_g := zg_of (zin6 (List.mem_of_getElem? (i := 15) rfl)) rfl
theorem q6_14 : (Jvm.Cond.code ({ cls := "CyclepaintModel", name := "mostOfRows", desc := "()I" } : Jvm.MethodName) prog_6_method_45_code (5 : Nat) (Option.some Jvm.ClassFile.FieldType.int)) ∈ lw_g := zg_of (zin6 (List.mem_of_getElem? (i := 14) rfl)) rfl
theorem q6_13 : (Jvm.Cond.instanceMethod ({ cls := "CyclepaintModel", name := "mostOfRows", desc := "()I" } : Jvm.MethodName)) ∈ lw_g := zg_of (zin6 (List.mem_of_getElem? (i := 13) rfl)) rfl
theorem qs_44 : Cond.selects "CyclepaintModel" (⟨"CyclepaintModel", "mostOfRows", "()I"⟩ : MethodName) (⟨"CyclepaintModel", "mostOfRows", "()I"⟩ : MethodName) ∈ lw_g := zg_of (zinS (List.mem_of_getElem? (i := 44) rfl)) rfl
theorem ok_X4_mostOfRows : zOV yX4_mostOfRows cX4_mostOfRows 5 ((Option.some Jvm.ClassFile.FieldType.int)) 0 := ⟨⟨q6_14, q1_3, by decide, by decide, by decide +kernel⟩, q6_13, qs_44⟩
set_option maxHeartbeats 4000000 in
set_option maxRecDepth 100000 in
theorem c_X4_mostOfRows (l : Launch) (G : zG) (σ : St) (b : Nat → Nat) (th m1 m2 : Int32) (hdt : ∀ d : Int, 0 ≤ d → d < 32 → 0 ≤ σ.Dt d ∧ σ.Dt d < 16) (hT : 0 ≤ σ.tk ∧ σ.tk ≤ 99999) : Met l yX4_mostOfRows (wq yX4_mostOfRows cX4_mostOfRows 5 ((Option.some Jvm.ClassFile.FieldType.int))) (rmR 5 110) (va_Pc [.ref (b 0)] (zK G (hMod G σ b th m1 m2))) (zQ (some (.int ((mrM σ))))) 0 0 zF := by
  refine z_enterI (by decide +kernel) (Nat.le_of_ble_eq_true rfl) ?_
  intro p env s m below meth cod Q S hG hP ret ls hl
  have hl : lv_has ls 5 [(0, .ref (b 0))] := hl
  refine z_iconst S dX4_mostOfRows_0 ?_
  refine z_istore_n (lv' := [(1, .int (zI (0))), (0, .ref (b 0))]) S dX4_mostOfRows_1 hl rfl (by decide) rfl (fun ls hl => ?_)
  refine z_iconst S dX4_mostOfRows_2 ?_
  refine z_istore_n (lv' := [(2, .int (zI (0))), (1, .int (zI (0))), (0, .ref (b 0))]) S dX4_mostOfRows_3 hl rfl (by decide) rfl (fun ls hl => ?_)
  have loop_4 : ∀ (nn : Nat) (r : Int) (g : Int32), (0 ≤ r ∧ r ≤ 4) → (g = mxI (rwM σ) r) → ((4 - r).toNat) < nn → ∀ ls, lv_has ls 5 [(2, .int (zI (r))), (1, .int (g)), (0, .ref (b 0))] → W p l env (rmR 5 110) s m ([.ref (b 0)] : List Value).toArray below meth cod s.heap [] 0 0 Q (F0 m 4 ls []) := by
    intro nn
    induction nn with
    | zero => intro _ _ _ _ h; exact absurd h (Nat.not_lt_zero _)
    | succ nn ih_4 =>
      intro r g hr hg hm_4 ls hl
      refine z_iload_n S dX4_mostOfRows_4 hl 0 rfl rfl ?_
      refine z_iconst S dX4_mostOfRows_5 ?_
      refine z_icmp_ge S 65 dX4_mostOfRows_6 (by decide) (by omega) (by omega) (fun c_6 => ?_) (fun c_6 => ?_)
      · skip
        refine z_iload_n S dX4_mostOfRows_65 hl 1 rfl rfl ?_
        exact ret _ _ _ dX4_mostOfRows_66 (by rw [hg, show r = 4 by omega]; rfl)
      · skip
        refine z_iconst S dX4_mostOfRows_9 ?_
        refine z_istore_n (lv' := [(3, .int (zI (0))), (2, .int (zI (r))), (1, .int (g)), (0, .ref (b 0))]) S dX4_mostOfRows_10 hl rfl (by decide) rfl (fun ls hl => ?_)
        refine z_iconst S dX4_mostOfRows_11 ?_
        refine z_istore (lv' := [(4, .int (zI (0))), (3, .int (zI (0))), (2, .int (zI (r))), (1, .int (g)), (0, .ref (b 0))]) S dX4_mostOfRows_12 hl (by decide) rfl (fun ls hl => ?_)
        have loop_14 : ∀ (nn : Nat) (q : Int) (v : Int32), (0 ≤ q ∧ q ≤ 8) → (v = smI (fun q => lgt (shw σ (σ.Dt (8 * r + q)) σ.tk)) q) → ((8 - q).toNat) < nn → ∀ ls, lv_has ls 5 [(4, .int (zI (q))), (3, .int (v)), (2, .int (zI (r))), (1, .int (g)), (0, .ref (b 0))] → W p l env (rmR 5 110) s m ([.ref (b 0)] : List Value).toArray below meth cod s.heap [] 0 0 Q (F0 m 14 ls []) := by
          intro nn
          induction nn with
          | zero => intro _ _ _ _ h; exact absurd h (Nat.not_lt_zero _)
          | succ nn ih_14 =>
            intro q v hq hv hm_14 ls hl
            refine z_iload S dX4_mostOfRows_14 hl 0 rfl ?_
            refine z_bipush S dX4_mostOfRows_16 rfl ?_
            refine z_icmp_ge S 53 dX4_mostOfRows_18 (by decide) (by omega) (by omega) (fun c_18 => ?_) (fun c_18 => ?_)
            · skip
              refine z_iload_n S dX4_mostOfRows_53 hl 3 rfl rfl ?_
              refine z_iload_n S dX4_mostOfRows_54 hl 1 rfl rfl ?_
              refine z_max S q6_15 q1_236 q1_18 (by exact q1_237) (by decide) (Nat.le_of_ble_eq_true rfl) ⟨Nat.zero_le _, Nat.zero_le _⟩ hl.1 dX4_mostOfRows_55 ?_
              refine z_istore_n (lv' := [(1, .int (if (g) < (v) then (v) else (g))), (4, .int (zI (q))), (3, .int (v)), (2, .int (zI (r))), (0, .ref (b 0))]) S dX4_mostOfRows_58 hl rfl (by decide) rfl (fun ls hl => ?_)
              refine z_iinc (lv' := [(2, .int (zI (r + 1))), (1, .int (if (g) < (v) then (v) else (g))), (4, .int (zI (q))), (3, .int (v)), (0, .ref (b 0))]) S dX4_mostOfRows_59 hl 3 rfl (by decide) rfl (fun ls hl => ?_)
              refine z_goto S 4 dX4_mostOfRows_62 (by decide) ?_
              exact ih_4 (r + 1) (if (g) < (v) then (v) else (g)) (by omega) (by rw [mxI_s hr.1, ← hg, show rwM σ r = v by rw [hv, show q = 8 by omega]; rfl]) (by omega) ls (lv_sub hl [0, 1, 4] rfl)
            · skip
              refine z_iload_n S dX4_mostOfRows_21 hl 1 rfl rfl ?_
              refine z_aload_n S dX4_mostOfRows_22 hl 4 rfl rfl ?_
              refine z_aload_n S dX4_mostOfRows_23 hl 4 rfl rfl ?_
              refine z_get S hG hP.1 zc_X4 5 (by decide) q4_231 rfl rfl dX4_mostOfRows_24 ?_
              refine z_bipush S dX4_mostOfRows_27 rfl ?_
              refine z_iload_n S dX4_mostOfRows_29 hl 2 rfl rfl ?_
              refine z_imul S dX4_mostOfRows_30 ?_
              refine z_iload S dX4_mostOfRows_31 hl 0 rfl ?_
              refine z_iadd S dX4_mostOfRows_33 ?_
              refine z_ialdB S hG hP.2.2.1 (by omega) (by decide) dX4_mostOfRows_34 ?_
              have hdt0 := hdt (8 * r + q) (by omega) (by omega)
              refine z_aload_n S dX4_mostOfRows_35 hl 4 rfl rfl ?_
              refine z_get S hG hP.1 zc_X4 1 (by decide) q4_227 rfl rfl dX4_mostOfRows_36 ?_
              refine z_callVs S hG (c_X4_show l G σ b th m1 m2 (σ.Dt (((8) * (r)) + (q))) (σ.tk) (by omega) (by omega)) ok_X4_show hP.1 zc_X4 rfl q5_159 (hP) ⟨rfl, rfl, by decide, by decide⟩ ⟨Nat.zero_le _, Nat.zero_le _⟩ rfl (Nat.le_of_ble_eq_true rfl) hl.1 rfl dX4_mostOfRows_39 ?_
              refine z_callSs S hG (c_X4_light l G (shw σ (σ.Dt (((8) * (r)) + (q))) (σ.tk))) ok_X4_light q5_207 (trivial) ⟨rfl, rfl, by decide, by decide⟩ ⟨Nat.zero_le _, Nat.zero_le _⟩ rfl (Nat.le_of_ble_eq_true rfl) hl.1 rfl dX4_mostOfRows_42 ?_
              refine lv_iadd S.1 S.2.1 dX4_mostOfRows_45 ?_
              refine z_istore_n (lv' := [(3, .int ((v) + (lgt (shw σ (σ.Dt (((8) * (r)) + (q))) (σ.tk))))), (4, .int (zI (q))), (2, .int (zI (r))), (1, .int (g)), (0, .ref (b 0))]) S dX4_mostOfRows_46 hl rfl (by decide) rfl (fun ls hl => ?_)
              refine z_iinc (lv' := [(4, .int (zI (q + 1))), (3, .int ((v) + (lgt (shw σ (σ.Dt (((8) * (r)) + (q))) (σ.tk))))), (2, .int (zI (r))), (1, .int (g)), (0, .ref (b 0))]) S dX4_mostOfRows_47 hl 1 rfl (by decide) rfl (fun ls hl => ?_)
              refine z_goto S 14 dX4_mostOfRows_50 (by decide) ?_
              exact ih_14 (q + 1) ((v) + (lgt (shw σ (σ.Dt (((8) * (r)) + (q))) (σ.tk)))) (by omega) (by rw [smI_s hq.1, ← hv]) (by omega) ls (lv_sub hl [0, 1, 2, 3, 4] rfl)
        exact loop_14 _ (0) ((zI (0))) (by omega) (rfl) (Nat.lt_succ_self _) ls (lv_sub hl [0, 1, 2, 3, 4] rfl)
  exact loop_4 _ (0) ((zI (0))) (by omega) (rfl) (Nat.lt_succ_self _) ls (lv_sub hl [0, 1, 2] rfl)
theorem dX4_unlike_0 : decode cX4_unlike 0 = .ok (.lconst 0, 1) := by decide +kernel
theorem dX4_unlike_1 : decode cX4_unlike 1 = .ok (.lstore_n 1, 1) := by decide +kernel
theorem dX4_unlike_2 : decode cX4_unlike 2 = .ok (.aload_n 0, 1) := by decide +kernel
theorem dX4_unlike_3 : decode cX4_unlike 3 = .ok (.getfield 17, 3) := by decide +kernel
theorem dX4_unlike_6 : decode cX4_unlike 6 = .ok (.astore_n 3, 1) := by decide +kernel
theorem dX4_unlike_7 : decode cX4_unlike 7 = .ok (.aload_n 3, 1) := by decide +kernel
theorem dX4_unlike_8 : decode cX4_unlike 8 = .ok (.arraylength, 1) := by decide +kernel
theorem dX4_unlike_9 : decode cX4_unlike 9 = .ok (.istore 4, 2) := by decide +kernel
theorem dX4_unlike_11 : decode cX4_unlike 11 = .ok (.iconst 0, 1) := by decide +kernel
theorem dX4_unlike_12 : decode cX4_unlike 12 = .ok (.istore 5, 2) := by decide +kernel
theorem dX4_unlike_14 : decode cX4_unlike 14 = .ok (.iload 5, 2) := by decide +kernel
theorem dX4_unlike_16 : decode cX4_unlike 16 = .ok (.iload 4, 2) := by decide +kernel
theorem dX4_unlike_18 : decode cX4_unlike 18 = .ok (.if_icmp .ge 30, 3) := by decide +kernel
theorem dX4_unlike_21 : decode cX4_unlike 21 = .ok (.aload_n 3, 1) := by decide +kernel
theorem dX4_unlike_22 : decode cX4_unlike 22 = .ok (.iload 5, 2) := by decide +kernel
theorem dX4_unlike_24 : decode cX4_unlike 24 = .ok (.iaload, 1) := by decide +kernel
theorem dX4_unlike_25 : decode cX4_unlike 25 = .ok (.istore 6, 2) := by decide +kernel
theorem dX4_unlike_27 : decode cX4_unlike 27 = .ok (.lload_n 1, 1) := by decide +kernel
theorem dX4_unlike_28 : decode cX4_unlike 28 = .ok (.lconst 1, 1) := by decide +kernel
theorem dX4_unlike_29 : decode cX4_unlike 29 = .ok (.aload_n 0, 1) := by decide +kernel
theorem dX4_unlike_30 : decode cX4_unlike 30 = .ok (.iload 6, 2) := by decide +kernel
theorem dX4_unlike_32 : decode cX4_unlike 32 = .ok (.aload_n 0, 1) := by decide +kernel
theorem dX4_unlike_33 : decode cX4_unlike 33 = .ok (.getfield 108, 3) := by decide +kernel
theorem dX4_unlike_36 : decode cX4_unlike 36 = .ok (.invokevirtual 84, 3) := by decide +kernel
theorem dX4_unlike_39 : decode cX4_unlike 39 = .ok (.lshl, 1) := by decide +kernel
theorem dX4_unlike_40 : decode cX4_unlike 40 = .ok (.lor, 1) := by decide +kernel
theorem dX4_unlike_41 : decode cX4_unlike 41 = .ok (.lstore_n 1, 1) := by decide +kernel
theorem dX4_unlike_42 : decode cX4_unlike 42 = .ok (.iinc 5 1, 3) := by decide +kernel
theorem dX4_unlike_45 : decode cX4_unlike 45 = .ok (.goto (-31), 3) := by decide +kernel
theorem dX4_unlike_48 : decode cX4_unlike 48 = .ok (.lload_n 1, 1) := by decide +kernel
theorem dX4_unlike_49 : decode cX4_unlike 49 = .ok (.invokestatic 166, 3) := by decide +kernel
theorem dX4_unlike_52 : decode cX4_unlike 52 = .ok (.ireturn, 1) := by decide +kernel
theorem q6_20 : (Jvm.Cond.methodLink "CyclepaintModel" (166 : Nat) ({ cls := "java/lang/Long", name := "bitCount", desc := "(J)I" } : Jvm.MethodName)) ∈ lw_g := zg_of (zin6 (List.mem_of_getElem? (i := 20) rfl)) rfl
theorem q6_19 : (Jvm.Cond.code ({ cls := "CyclepaintModel", name := "unlike", desc := "()I" } : Jvm.MethodName) prog_6_method_46_code (7 : Nat) (Option.some Jvm.ClassFile.FieldType.int)) ∈ lw_g := zg_of (zin6 (List.mem_of_getElem? (i := 19) rfl)) rfl
theorem q6_18 : (Jvm.Cond.instanceMethod ({ cls := "CyclepaintModel", name := "unlike", desc := "()I" } : Jvm.MethodName)) ∈ lw_g := zg_of (zin6 (List.mem_of_getElem? (i := 18) rfl)) rfl
theorem qs_45 : Cond.selects "CyclepaintModel" (⟨"CyclepaintModel", "unlike", "()I"⟩ : MethodName) (⟨"CyclepaintModel", "unlike", "()I"⟩ : MethodName) ∈ lw_g := zg_of (zinS (List.mem_of_getElem? (i := 45) rfl)) rfl
theorem ok_X4_unlike : zOV yX4_unlike cX4_unlike 7 ((Option.some Jvm.ClassFile.FieldType.int)) 0 := ⟨⟨q6_19, q1_3, by decide, by decide, by decide +kernel⟩, q6_18, qs_45⟩
set_option maxHeartbeats 4000000 in
set_option maxRecDepth 100000 in
theorem c_X4_unlike (l : Launch) (G : zG) (σ : St) (b : Nat → Nat) (th m1 m2 : Int32) (hdt : ∀ d : Int, 0 ≤ d → d < 32 → 0 ≤ σ.Dt d ∧ σ.Dt d < 16) (hT : 0 ≤ σ.tk ∧ σ.tk ≤ 99999) : Met l yX4_unlike (wq yX4_unlike cX4_unlike 7 ((Option.some Jvm.ClassFile.FieldType.int))) (rmR 5 110) (va_Pc [.ref (b 0)] (zK G (hMod G σ b th m1 m2))) (zQ (some (.int ((bcL (csM σ)))))) 0 0 zF := by
  refine z_enterI (by decide +kernel) (Nat.le_of_ble_eq_true rfl) ?_
  intro p env s m below meth cod Q S hG hP ret ls hl
  have hl : lv_has ls 7 [(0, .ref (b 0))] := hl
  refine lv_lconst S.1 S.2.1 dX4_unlike_0 rfl ?_
  refine lv_lstore_n (lv' := [(1, .long (0)), (0, .ref (b 0))]) S.1 S.2.1 dX4_unlike_1 rfl hl (by decide) rfl (fun ls hl => ?_)
  refine z_aload_n S dX4_unlike_2 hl 1 rfl rfl ?_
  refine z_get S hG hP.1 zc_X4 5 (by decide) q4_231 rfl rfl dX4_unlike_3 ?_
  refine z_astore_n (lv' := [(3, .ref (b 2)), (1, .long (0)), (0, .ref (b 0))]) S dX4_unlike_6 hl rfl (by decide) rfl (fun ls hl => ?_)
  refine z_aload_n S dX4_unlike_7 hl 0 rfl rfl ?_
  refine z_alenI S hG hP.2.2.1 dX4_unlike_8 ?_
  refine z_istore (lv' := [(4, .int (zI (32))), (3, .ref (b 2)), (1, .long (0)), (0, .ref (b 0))]) S dX4_unlike_9 hl (by decide) rfl (fun ls hl => ?_)
  refine z_iconst S dX4_unlike_11 ?_
  refine z_istore (lv' := [(5, .int (zI (0))), (4, .int (zI (32))), (3, .ref (b 2)), (1, .long (0)), (0, .ref (b 0))]) S dX4_unlike_12 hl (by decide) rfl (fun ls hl => ?_)
  have loop_14 : ∀ (nn : Nat) (k : Int) (g : Int64), (0 ≤ k ∧ k ≤ 32) → (g = orL (fun _ => true) (fun d => bitL (shw σ (σ.Dt d) σ.tk)) k) → ((32 - k).toNat) < nn → ∀ ls, lv_has ls 7 [(5, .int (zI (k))), (4, .int (zI (32))), (3, .ref (b 2)), (1, .long (g)), (0, .ref (b 0))] → W p l env (rmR 5 110) s m ([.ref (b 0)] : List Value).toArray below meth cod s.heap [] 0 0 Q (F0 m 14 ls []) := by
    intro nn
    induction nn with
    | zero => intro _ _ _ _ h; exact absurd h (Nat.not_lt_zero _)
    | succ nn ih_14 =>
      intro k g hk hg hm_14 ls hl
      refine z_iload S dX4_unlike_14 hl 0 rfl ?_
      refine z_iload S dX4_unlike_16 hl 1 rfl ?_
      refine z_icmp_ge S 48 dX4_unlike_18 (by decide) (by omega) (by omega) (fun c_18 => ?_) (fun c_18 => ?_)
      · skip
        refine lv_lload_n S.1 S.2.1 dX4_unlike_48 rfl (lv_at hl 3 rfl) ?_
        refine z_callSs S hG (c_bitCountL l G (g)) ok_J13_bitCount_95d88 q6_20 (trivial) ⟨rfl, rfl, by decide, by decide⟩ ⟨Nat.zero_le _, Nat.zero_le _⟩ rfl (Nat.le_of_ble_eq_true rfl) hl.1 rfl dX4_unlike_49 ?_
        exact ret _ _ _ dX4_unlike_52 (by rw [hg, show k = 32 by omega]; rfl)
      · skip
        refine z_aload_n S dX4_unlike_21 hl 2 rfl rfl ?_
        refine z_iload S dX4_unlike_22 hl 0 rfl ?_
        refine z_ialdB S hG hP.2.2.1 (by omega) (by decide) dX4_unlike_24 ?_
        refine z_istore (lv' := [(6, .int (zI (σ.Dt (k)))), (5, .int (zI (k))), (4, .int (zI (32))), (3, .ref (b 2)), (1, .long (g)), (0, .ref (b 0))]) S dX4_unlike_25 hl (by decide) rfl (fun ls hl => ?_)
        have hdt0 := hdt k hk.1 (by omega)
        refine lv_lload_n S.1 S.2.1 dX4_unlike_27 rfl (lv_at hl 4 rfl) ?_
        refine lv_lconst S.1 S.2.1 dX4_unlike_28 rfl ?_
        refine z_aload_n S dX4_unlike_29 hl 5 rfl rfl ?_
        refine z_iload S dX4_unlike_30 hl 0 rfl ?_
        refine z_aload_n S dX4_unlike_32 hl 5 rfl rfl ?_
        refine z_get S hG hP.1 zc_X4 1 (by decide) q4_227 rfl rfl dX4_unlike_33 ?_
        refine z_callVs S hG (c_X4_show l G σ b th m1 m2 (σ.Dt (k)) (σ.tk) (by omega) (by omega)) ok_X4_show hP.1 zc_X4 rfl q5_159 (hP) ⟨rfl, rfl, by decide, by decide⟩ ⟨Nat.zero_le _, Nat.zero_le _⟩ rfl (Nat.le_of_ble_eq_true rfl) hl.1 rfl dX4_unlike_36 ?_
        refine lv_lshl S.1 S.2.1 dX4_unlike_39 rfl ?_
        refine lv_lor S.1 S.2.1 dX4_unlike_40 ?_
        refine lv_lstore_n (lv' := [(1, .long ((g) ||| ((1) <<< ((shw σ (σ.Dt (k)) (σ.tk)).toInt64 &&& 63)))), (6, .int (zI (σ.Dt (k)))), (5, .int (zI (k))), (4, .int (zI (32))), (3, .ref (b 2)), (0, .ref (b 0))]) S.1 S.2.1 dX4_unlike_41 rfl hl (by decide) rfl (fun ls hl => ?_)
        refine z_iinc (lv' := [(5, .int (zI (k + 1))), (1, .long ((g) ||| ((1) <<< ((shw σ (σ.Dt (k)) (σ.tk)).toInt64 &&& 63)))), (6, .int (zI (σ.Dt (k)))), (4, .int (zI (32))), (3, .ref (b 2)), (0, .ref (b 0))]) S dX4_unlike_42 hl 2 rfl (by decide) rfl (fun ls hl => ?_)
        refine z_goto S 14 dX4_unlike_45 (by decide) ?_
        exact ih_14 (k + 1) ((g) ||| ((1) <<< ((shw σ (σ.Dt (k)) (σ.tk)).toInt64 &&& 63))) (by omega) (by rw [orL_s hk.1, if_pos rfl, ← hg]; rfl) (by omega) ls (lv_sub hl [0, 3, 4, 1, 5] rfl)
  exact loop_14 _ (0) (0) (by omega) (rfl) (Nat.lt_succ_self _) ls (lv_sub hl [0, 1, 2, 3, 4] rfl)
theorem dX4_findNow_0 : decode cX4_findNow 0 = .ok (.iload_n 3, 1) := by decide +kernel
theorem dX4_findNow_1 : decode cX4_findNow 1 = .ok (.istore 4, 2) := by decide +kernel
theorem dX4_findNow_3 : decode cX4_findNow 3 = .ok (.iload 4, 2) := by decide +kernel
theorem dX4_findNow_5 : decode cX4_findNow 5 = .ok (.iload_n 3, 1) := by decide +kernel
theorem dX4_findNow_6 : decode cX4_findNow 6 = .ok (.aload_n 0, 1) := by decide +kernel
theorem dX4_findNow_7 : decode cX4_findNow 7 = .ok (.iload_n 1, 1) := by decide +kernel
theorem dX4_findNow_8 : decode cX4_findNow 8 = .ok (.invokevirtual 81, 3) := by decide +kernel
theorem dX4_findNow_11 : decode cX4_findNow 11 = .ok (.iadd, 1) := by decide +kernel
theorem dX4_findNow_12 : decode cX4_findNow 12 = .ok (.if_icmp .ge 23, 3) := by decide +kernel
theorem dX4_findNow_15 : decode cX4_findNow 15 = .ok (.aload_n 0, 1) := by decide +kernel
theorem dX4_findNow_16 : decode cX4_findNow 16 = .ok (.iload_n 1, 1) := by decide +kernel
theorem dX4_findNow_17 : decode cX4_findNow 17 = .ok (.iload 4, 2) := by decide +kernel
theorem dX4_findNow_19 : decode cX4_findNow 19 = .ok (.invokevirtual 84, 3) := by decide +kernel
theorem dX4_findNow_22 : decode cX4_findNow 22 = .ok (.iload_n 2, 1) := by decide +kernel
theorem dX4_findNow_23 : decode cX4_findNow 23 = .ok (.if_icmp .ne 6, 3) := by decide +kernel
theorem dX4_findNow_26 : decode cX4_findNow 26 = .ok (.iload 4, 2) := by decide +kernel
theorem dX4_findNow_28 : decode cX4_findNow 28 = .ok (.ireturn, 1) := by decide +kernel
theorem dX4_findNow_29 : decode cX4_findNow 29 = .ok (.iinc 4 1, 3) := by decide +kernel
theorem dX4_findNow_32 : decode cX4_findNow 32 = .ok (.goto (-29), 3) := by decide +kernel
theorem dX4_findNow_35 : decode cX4_findNow 35 = .ok (.iconst (-1), 1) := by decide +kernel
theorem dX4_findNow_36 : decode cX4_findNow 36 = .ok (.ireturn, 1) := by decide +kernel
theorem q6_101 : (Jvm.Cond.code ({ cls := "CyclepaintModel", name := "findNow", desc := "(III)I" } : Jvm.MethodName) prog_6_method_53_code (5 : Nat) (Option.some Jvm.ClassFile.FieldType.int)) ∈ lw_g := zg_of (zin6 (List.mem_of_getElem? (i := 101) rfl)) rfl
theorem q6_100 : (Jvm.Cond.instanceMethod ({ cls := "CyclepaintModel", name := "findNow", desc := "(III)I" } : Jvm.MethodName)) ∈ lw_g := zg_of (zin6 (List.mem_of_getElem? (i := 100) rfl)) rfl
theorem qs_47 : Cond.selects "CyclepaintModel" (⟨"CyclepaintModel", "findNow", "(III)I"⟩ : MethodName) (⟨"CyclepaintModel", "findNow", "(III)I"⟩ : MethodName) ∈ lw_g := zg_of (zinS (List.mem_of_getElem? (i := 47) rfl)) rfl
theorem ok_X4_findNow : zOV yX4_findNow cX4_findNow 5 ((Option.some Jvm.ClassFile.FieldType.int)) 3 := ⟨⟨q6_101, q1_3, by decide, by decide, by decide +kernel⟩, q6_100, qs_47⟩
set_option maxHeartbeats 4000000 in
set_option maxRecDepth 100000 in
theorem c_X4_findNow (l : Launch) (G : zG) (σ : St) (b : Nat → Nat) (th m1 m2 : Int32) (e : Int) (C : Int32) (f : Int) (he : 0 ≤ e ∧ e < 16) (hf : 0 ≤ f ∧ f ≤ 1000000) : Met l yX4_findNow (wq yX4_findNow cX4_findNow 5 ((Option.some Jvm.ClassFile.FieldType.int))) (rmR 5 110) (va_Pc [.ref (b 0), .int (zI (e)), .int (C), .int (zI (f))] (zK G (hMod G σ b th m1 m2))) (zQ (some (.int ((zI (fnd σ e C f)))))) 0 0 zF := by
  refine z_enterI (by decide +kernel) (Nat.le_of_ble_eq_true rfl) ?_
  intro p env s m below meth cod Q S hG hP ret ls hl
  have hl : lv_has ls 5 [(0, .ref (b 0)), (1, .int (zI (e))), (2, .int (C)), (3, .int (zI (f)))] := hl
  have hO := hP.2.2.2.2.2.2.2.2.2
  have hrn := hO.1
  have hb1 := rndE_b hO e
  refine z_iload_n S dX4_findNow_0 hl 3 rfl rfl ?_
  refine z_istore (lv' := [(4, .int (zI (f))), (0, .ref (b 0)), (1, .int (zI (e))), (2, .int (C)), (3, .int (zI (f)))]) S dX4_findNow_1 hl (by decide) rfl (fun ls hl => ?_)
  have loop_3 : ∀ (nn : Nat) (k : Int), (f ≤ k ∧ k ≤ f + rndE σ e) → (∀ t : Int, 0 ≤ t → t < k - f → fndB σ e C f t = false) → ((f + rndE σ e - k).toNat) < nn → ∀ ls, lv_has ls 5 [(4, .int (zI (k))), (0, .ref (b 0)), (1, .int (zI (e))), (2, .int (C)), (3, .int (zI (f)))] → W p l env (rmR 5 110) s m ([.ref (b 0), .int (zI (e)), .int (C), .int (zI (f))] : List Value).toArray below meth cod s.heap [] 0 0 Q (F0 m 3 ls []) := by
    intro nn
    induction nn with
    | zero => intro _ _ _ h; exact absurd h (Nat.not_lt_zero _)
    | succ nn ih_3 =>
      intro k hk hI hm_3 ls hl
      refine z_iload S dX4_findNow_3 hl 0 rfl ?_
      refine z_iload_n S dX4_findNow_5 hl 4 rfl rfl ?_
      refine z_aload_n S dX4_findNow_6 hl 1 rfl rfl ?_
      refine z_iload_n S dX4_findNow_7 hl 2 rfl rfl ?_
      refine z_callVs S hG (c_X4_roundOf l G σ b th m1 m2 (e) (by omega)) ok_X4_roundOf hP.1 zc_X4 rfl q5_149 (hP) ⟨rfl, rfl, by decide, by decide⟩ ⟨Nat.zero_le _, Nat.zero_le _⟩ rfl (Nat.le_of_ble_eq_true rfl) hl.1 rfl dX4_findNow_8 ?_
      refine z_iadd S dX4_findNow_11 ?_
      refine z_icmp_ge S 35 dX4_findNow_12 (by decide) (by omega) (by omega) (fun c_12 => ?_) (fun c_12 => ?_)
      · skip
        refine z_iconst S dX4_findNow_35 ?_
        exact ret _ _ _ dX4_findNow_36 (by unfold fnd; rw [fstI_none (fun t h0 h1 => hI t h0 (by omega)), if_pos rfl])
      · skip
        have c_12x : k - f < rndE σ e := by omega
        refine z_aload_n S dX4_findNow_15 hl 1 rfl rfl ?_
        refine z_iload_n S dX4_findNow_16 hl 2 rfl rfl ?_
        refine z_iload S dX4_findNow_17 hl 0 rfl ?_
        refine z_callVs S hG (c_X4_show l G σ b th m1 m2 (e) (k) (by omega) (by omega)) ok_X4_show hP.1 zc_X4 rfl q5_159 (hP) ⟨rfl, rfl, by decide, by decide⟩ ⟨Nat.zero_le _, Nat.zero_le _⟩ rfl (Nat.le_of_ble_eq_true rfl) hl.1 rfl dX4_findNow_19 ?_
        refine z_iload_n S dX4_findNow_22 hl 3 rfl rfl ?_
        refine lv_icmp_ne (tgt := 29) S.1 S.2.1 dX4_findNow_23 (by decide) (fun c_23 => ?_) (fun c_23 => ?_)
        · skip
          refine z_iinc (lv' := [(4, .int (zI (k + 1))), (0, .ref (b 0)), (1, .int (zI (e))), (2, .int (C)), (3, .int (zI (f)))]) S dX4_findNow_29 hl 0 rfl (by decide) rfl (fun ls hl => ?_)
          refine z_goto S 3 dX4_findNow_32 (by decide) ?_
          exact ih_3 (k + 1) (by omega) (by rw [show k + 1 - f = (k - f) + 1 by omega]; exact lt_stp hI (by unfold fndB; rw [show f + (k - f) = k by omega]; simp [c_23])) (by omega) ls (lv_sub hl [0, 1, 2, 3, 4] rfl)
        · skip
          refine z_iload S dX4_findNow_26 hl 0 rfl ?_
          exact ret _ _ _ dX4_findNow_28 (by unfold fnd; rw [fstI_some (by omega) c_12x hI (by unfold fndB; rw [show f + (k - f) = k by omega]; simpa using c_23), if_neg (by omega)]; congr 1; omega)
  exact loop_3 _ (f) (by omega) (by rw [Int.sub_self]; exact lt_st0) (Nat.lt_succ_self _) ls (lv_sub hl [0, 1, 2, 3, 4] rfl)
theorem dX4_meetNow_0 : decode cX4_meetNow 0 = .ok (.aload_n 0, 1) := by decide +kernel
theorem dX4_meetNow_1 : decode cX4_meetNow 1 = .ok (.iload_n 1, 1) := by decide +kernel
theorem dX4_meetNow_2 : decode cX4_meetNow 2 = .ok (.invokevirtual 81, 3) := by decide +kernel
theorem dX4_meetNow_5 : decode cX4_meetNow 5 = .ok (.aload_n 0, 1) := by decide +kernel
theorem dX4_meetNow_6 : decode cX4_meetNow 6 = .ok (.iload_n 3, 1) := by decide +kernel
theorem dX4_meetNow_7 : decode cX4_meetNow 7 = .ok (.invokevirtual 81, 3) := by decide +kernel
theorem dX4_meetNow_10 : decode cX4_meetNow 10 = .ok (.invokestatic 77, 3) := by decide +kernel
theorem dX4_meetNow_13 : decode cX4_meetNow 13 = .ok (.istore 5, 2) := by decide +kernel
theorem dX4_meetNow_15 : decode cX4_meetNow 15 = .ok (.iconst 0, 1) := by decide +kernel
theorem dX4_meetNow_16 : decode cX4_meetNow 16 = .ok (.istore 6, 2) := by decide +kernel
theorem dX4_meetNow_18 : decode cX4_meetNow 18 = .ok (.iload 6, 2) := by decide +kernel
theorem dX4_meetNow_20 : decode cX4_meetNow 20 = .ok (.iload 5, 2) := by decide +kernel
theorem dX4_meetNow_22 : decode cX4_meetNow 22 = .ok (.if_icmp .ge 45, 3) := by decide +kernel
theorem dX4_meetNow_25 : decode cX4_meetNow 25 = .ok (.aload_n 0, 1) := by decide +kernel
theorem dX4_meetNow_26 : decode cX4_meetNow 26 = .ok (.iload_n 1, 1) := by decide +kernel
theorem dX4_meetNow_27 : decode cX4_meetNow 27 = .ok (.aload_n 0, 1) := by decide +kernel
theorem dX4_meetNow_28 : decode cX4_meetNow 28 = .ok (.getfield 108, 3) := by decide +kernel
theorem dX4_meetNow_31 : decode cX4_meetNow 31 = .ok (.iload 6, 2) := by decide +kernel
theorem dX4_meetNow_33 : decode cX4_meetNow 33 = .ok (.iadd, 1) := by decide +kernel
theorem dX4_meetNow_34 : decode cX4_meetNow 34 = .ok (.invokevirtual 84, 3) := by decide +kernel
theorem dX4_meetNow_37 : decode cX4_meetNow 37 = .ok (.iload_n 2, 1) := by decide +kernel
theorem dX4_meetNow_38 : decode cX4_meetNow 38 = .ok (.if_icmp .ne 23, 3) := by decide +kernel
theorem dX4_meetNow_41 : decode cX4_meetNow 41 = .ok (.aload_n 0, 1) := by decide +kernel
theorem dX4_meetNow_42 : decode cX4_meetNow 42 = .ok (.iload_n 3, 1) := by decide +kernel
theorem dX4_meetNow_43 : decode cX4_meetNow 43 = .ok (.aload_n 0, 1) := by decide +kernel
theorem dX4_meetNow_44 : decode cX4_meetNow 44 = .ok (.getfield 108, 3) := by decide +kernel
theorem dX4_meetNow_47 : decode cX4_meetNow 47 = .ok (.iload 6, 2) := by decide +kernel
theorem dX4_meetNow_49 : decode cX4_meetNow 49 = .ok (.iadd, 1) := by decide +kernel
theorem dX4_meetNow_50 : decode cX4_meetNow 50 = .ok (.invokevirtual 84, 3) := by decide +kernel
theorem dX4_meetNow_53 : decode cX4_meetNow 53 = .ok (.iload 4, 2) := by decide +kernel
theorem dX4_meetNow_55 : decode cX4_meetNow 55 = .ok (.if_icmp .ne 6, 3) := by decide +kernel
theorem dX4_meetNow_58 : decode cX4_meetNow 58 = .ok (.iload 6, 2) := by decide +kernel
theorem dX4_meetNow_60 : decode cX4_meetNow 60 = .ok (.ireturn, 1) := by decide +kernel
theorem dX4_meetNow_61 : decode cX4_meetNow 61 = .ok (.iinc 6 1, 3) := by decide +kernel
theorem dX4_meetNow_64 : decode cX4_meetNow 64 = .ok (.goto (-46), 3) := by decide +kernel
theorem dX4_meetNow_67 : decode cX4_meetNow 67 = .ok (.iconst (-1), 1) := by decide +kernel
theorem dX4_meetNow_68 : decode cX4_meetNow 68 = .ok (.ireturn, 1) := by decide +kernel
theorem q6_109 : (Jvm.Cond.code ({ cls := "CyclepaintModel", name := "meetNow", desc := "(IIII)I" } : Jvm.MethodName) prog_6_method_55_code (7 : Nat) (Option.some Jvm.ClassFile.FieldType.int)) ∈ lw_g := zg_of (zin6 (List.mem_of_getElem? (i := 109) rfl)) rfl
theorem q6_108 : (Jvm.Cond.instanceMethod ({ cls := "CyclepaintModel", name := "meetNow", desc := "(IIII)I" } : Jvm.MethodName)) ∈ lw_g := zg_of (zin6 (List.mem_of_getElem? (i := 108) rfl)) rfl
theorem qs_48 : Cond.selects "CyclepaintModel" (⟨"CyclepaintModel", "meetNow", "(IIII)I"⟩ : MethodName) (⟨"CyclepaintModel", "meetNow", "(IIII)I"⟩ : MethodName) ∈ lw_g := zg_of (zinS (List.mem_of_getElem? (i := 48) rfl)) rfl
theorem ok_X4_meetNow : zOV yX4_meetNow cX4_meetNow 7 ((Option.some Jvm.ClassFile.FieldType.int)) 4 := ⟨⟨q6_109, q1_3, by decide, by decide, by decide +kernel⟩, q6_108, qs_48⟩
set_option maxHeartbeats 4000000 in
set_option maxRecDepth 100000 in
theorem c_X4_meetNow (l : Launch) (G : zG) (σ : St) (b : Nat → Nat) (th m1 m2 : Int32) (x : Int) (C : Int32) (y : Int) (D : Int32) (hx : 0 ≤ x ∧ x < 16) (hy : 0 ≤ y ∧ y < 16) (hT : 0 ≤ σ.tk ∧ σ.tk ≤ 99999) : Met l yX4_meetNow (wq yX4_meetNow cX4_meetNow 7 ((Option.some Jvm.ClassFile.FieldType.int))) (rmR 5 110) (va_Pc [.ref (b 0), .int (zI (x)), .int (C), .int (zI (y)), .int (D)] (zK G (hMod G σ b th m1 m2))) (zQ (some (.int ((zI (mt σ x C y D σ.tk)))))) 0 0 zF := by
  refine z_enterI (by decide +kernel) (Nat.le_of_ble_eq_true rfl) ?_
  intro p env s m below meth cod Q S hG hP ret ls hl
  have hl : lv_has ls 7 [(0, .ref (b 0)), (1, .int (zI (x))), (2, .int (C)), (3, .int (zI (y))), (4, .int (D))] := hl
  have hO := hP.2.2.2.2.2.2.2.2.2
  have hrn := hO.1
  have hb1 := rndE_b hO x
  have hb2 := rndE_b hO y
  have hxy : rndE σ x * rndE σ y ≤ 72900 := Int.le_trans (Int.mul_le_mul hb1.2 hb2.2 (by omega) (by omega)) (by omega)
  have hlb := lcI_b (a := rndE σ x) (b := rndE σ y) hb1.1 hb2.1
  refine z_aload_n S dX4_meetNow_0 hl 0 rfl rfl ?_
  refine z_iload_n S dX4_meetNow_1 hl 1 rfl rfl ?_
  refine z_callVs S hG (c_X4_roundOf l G σ b th m1 m2 (x) (by omega)) ok_X4_roundOf hP.1 zc_X4 rfl q5_149 (hP) ⟨rfl, rfl, by decide, by decide⟩ ⟨Nat.zero_le _, Nat.zero_le _⟩ rfl (Nat.le_of_ble_eq_true rfl) hl.1 rfl dX4_meetNow_2 ?_
  refine z_aload_n S dX4_meetNow_5 hl 0 rfl rfl ?_
  refine z_iload_n S dX4_meetNow_6 hl 3 rfl rfl ?_
  refine z_callVs S hG (c_X4_roundOf l G σ b th m1 m2 (y) (by omega)) ok_X4_roundOf hP.1 zc_X4 rfl q5_149 (hP) ⟨rfl, rfl, by decide, by decide⟩ ⟨Nat.zero_le _, Nat.zero_le _⟩ rfl (Nat.le_of_ble_eq_true rfl) hl.1 rfl dX4_meetNow_7 ?_
  refine z_callSs S hG (c_X4_common l G (rndE σ (x)) (rndE σ (y)) (by omega) (by omega)) ok_X4_common q5_156 (trivial) ⟨rfl, rfl, by decide, by decide⟩ ⟨Nat.zero_le _, Nat.zero_le _⟩ rfl (Nat.le_of_ble_eq_true rfl) hl.1 rfl dX4_meetNow_10 ?_
  refine z_istore (lv' := [(5, .int (zI (lcI (rndE σ (x)) (rndE σ (y))))), (0, .ref (b 0)), (1, .int (zI (x))), (2, .int (C)), (3, .int (zI (y))), (4, .int (D))]) S dX4_meetNow_13 hl (by decide) rfl (fun ls hl => ?_)
  refine z_iconst S dX4_meetNow_15 ?_
  refine z_istore (lv' := [(6, .int (zI (0))), (5, .int (zI (lcI (rndE σ (x)) (rndE σ (y))))), (0, .ref (b 0)), (1, .int (zI (x))), (2, .int (C)), (3, .int (zI (y))), (4, .int (D))]) S dX4_meetNow_16 hl (by decide) rfl (fun ls hl => ?_)
  have loop_18 : ∀ (nn : Nat) (k : Int), (0 ≤ k ∧ k ≤ lcI (rndE σ x) (rndE σ y)) → (∀ t : Int, 0 ≤ t → t < k → metB σ x C y D σ.tk t = false) → ((lcI (rndE σ x) (rndE σ y) - k).toNat) < nn → ∀ ls, lv_has ls 7 [(6, .int (zI (k))), (5, .int (zI (lcI (rndE σ (x)) (rndE σ (y))))), (0, .ref (b 0)), (1, .int (zI (x))), (2, .int (C)), (3, .int (zI (y))), (4, .int (D))] → W p l env (rmR 5 110) s m ([.ref (b 0), .int (zI (x)), .int (C), .int (zI (y)), .int (D)] : List Value).toArray below meth cod s.heap [] 0 0 Q (F0 m 18 ls []) := by
    intro nn
    induction nn with
    | zero => intro _ _ _ h; exact absurd h (Nat.not_lt_zero _)
    | succ nn ih_18 =>
      intro k hk hI hm_18 ls hl
      refine z_iload S dX4_meetNow_18 hl 0 rfl ?_
      refine z_iload S dX4_meetNow_20 hl 1 rfl ?_
      refine z_icmp_ge S 67 dX4_meetNow_22 (by decide) (by omega) (by omega) (fun c_22 => ?_) (fun c_22 => ?_)
      · skip
        refine z_iconst S dX4_meetNow_67 ?_
        exact ret _ _ _ dX4_meetNow_68 (by unfold mt; rw [fstI_none (fun t h0 h1 => hI t h0 (by omega))])
      · skip
        have c_22x : k < lcI (rndE σ x) (rndE σ y) := by omega
        refine z_aload_n S dX4_meetNow_25 hl 2 rfl rfl ?_
        refine z_iload_n S dX4_meetNow_26 hl 3 rfl rfl ?_
        refine z_aload_n S dX4_meetNow_27 hl 2 rfl rfl ?_
        refine z_get S hG hP.1 zc_X4 1 (by decide) q4_227 rfl rfl dX4_meetNow_28 ?_
        refine z_iload S dX4_meetNow_31 hl 0 rfl ?_
        refine z_iadd S dX4_meetNow_33 ?_
        refine z_callVs S hG (c_X4_show l G σ b th m1 m2 (x) ((σ.tk) + (k)) (by omega) (by omega)) ok_X4_show hP.1 zc_X4 rfl q5_159 (hP) ⟨rfl, rfl, by decide, by decide⟩ ⟨Nat.zero_le _, Nat.zero_le _⟩ rfl (Nat.le_of_ble_eq_true rfl) hl.1 rfl dX4_meetNow_34 ?_
        refine z_iload_n S dX4_meetNow_37 hl 4 rfl rfl ?_
        refine lv_icmp_ne (tgt := 61) S.1 S.2.1 dX4_meetNow_38 (by decide) (fun c_38 => ?_) (fun c_38 => ?_)
        · skip
          refine z_iinc (lv' := [(6, .int (zI (k + 1))), (5, .int (zI (lcI (rndE σ (x)) (rndE σ (y))))), (0, .ref (b 0)), (1, .int (zI (x))), (2, .int (C)), (3, .int (zI (y))), (4, .int (D))]) S dX4_meetNow_61 hl 0 rfl (by decide) rfl (fun ls hl => ?_)
          refine z_goto S 18 dX4_meetNow_64 (by decide) ?_
          exact ih_18 (k + 1) (by omega) (lt_stp hI (by unfold metB; simp [c_38])) (by omega) ls (lv_sub hl [0, 1, 2, 3, 4, 5, 6] rfl)
        · skip
          refine z_aload_n S dX4_meetNow_41 hl 2 rfl rfl ?_
          refine z_iload_n S dX4_meetNow_42 hl 5 rfl rfl ?_
          refine z_aload_n S dX4_meetNow_43 hl 2 rfl rfl ?_
          refine z_get S hG hP.1 zc_X4 1 (by decide) q4_227 rfl rfl dX4_meetNow_44 ?_
          refine z_iload S dX4_meetNow_47 hl 0 rfl ?_
          refine z_iadd S dX4_meetNow_49 ?_
          refine z_callVs S hG (c_X4_show l G σ b th m1 m2 (y) ((σ.tk) + (k)) (by omega) (by omega)) ok_X4_show hP.1 zc_X4 rfl q5_159 (hP) ⟨rfl, rfl, by decide, by decide⟩ ⟨Nat.zero_le _, Nat.zero_le _⟩ rfl (Nat.le_of_ble_eq_true rfl) hl.1 rfl dX4_meetNow_50 ?_
          refine z_iload S dX4_meetNow_53 hl 6 rfl ?_
          refine lv_icmp_ne (tgt := 61) S.1 S.2.1 dX4_meetNow_55 (by decide) (fun c_55 => ?_) (fun c_55 => ?_)
          · skip
            refine z_iinc (lv' := [(6, .int (zI (k + 1))), (5, .int (zI (lcI (rndE σ (x)) (rndE σ (y))))), (0, .ref (b 0)), (1, .int (zI (x))), (2, .int (C)), (3, .int (zI (y))), (4, .int (D))]) S dX4_meetNow_61 hl 0 rfl (by decide) rfl (fun ls hl => ?_)
            refine z_goto S 18 dX4_meetNow_64 (by decide) ?_
            exact ih_18 (k + 1) (by omega) (lt_stp hI (by unfold metB; simp [c_55])) (by omega) ls (lv_sub hl [0, 1, 2, 3, 4, 5, 6] rfl)
          · skip
            refine z_iload S dX4_meetNow_58 hl 0 rfl ?_
            exact ret _ _ _ dX4_meetNow_60 (by unfold mt; rw [fstI_some hk.1 c_22x hI (by unfold metB; simp [c_38, c_55])])
  exact loop_18 _ (0) (by omega) (lt_st0) (Nat.lt_succ_self _) ls (lv_sub hl [0, 1, 2, 3, 4, 5, 6] rfl)
def ltFM (σ : St) : Nat → Int × Int32
  | 0 => (σ.tk, liM σ σ.tk)
  | n + 1 => if (ltFM σ n).2 < liM σ (σ.tk + (n + 1)) then (σ.tk + (n + 1), liM σ (σ.tk + (n + 1))) else ltFM σ n
def ltM (σ : St) (n : Int) : Int := (ltFM σ (n - 1).toNat).1
theorem dX4_lightestNow_0 : decode cX4_lightestNow 0 = .ok (.aload_n 0, 1) := by decide +kernel
theorem dX4_lightestNow_1 : decode cX4_lightestNow 1 = .ok (.getfield 108, 3) := by decide +kernel
theorem dX4_lightestNow_4 : decode cX4_lightestNow 4 = .ok (.istore_n 2, 1) := by decide +kernel
theorem dX4_lightestNow_5 : decode cX4_lightestNow 5 = .ok (.aload_n 0, 1) := by decide +kernel
theorem dX4_lightestNow_6 : decode cX4_lightestNow 6 = .ok (.aload_n 0, 1) := by decide +kernel
theorem dX4_lightestNow_7 : decode cX4_lightestNow 7 = .ok (.getfield 108, 3) := by decide +kernel
theorem dX4_lightestNow_10 : decode cX4_lightestNow 10 = .ok (.invokevirtual 174, 3) := by decide +kernel
theorem dX4_lightestNow_13 : decode cX4_lightestNow 13 = .ok (.istore_n 3, 1) := by decide +kernel
theorem dX4_lightestNow_14 : decode cX4_lightestNow 14 = .ok (.aload_n 0, 1) := by decide +kernel
theorem dX4_lightestNow_15 : decode cX4_lightestNow 15 = .ok (.getfield 108, 3) := by decide +kernel
theorem dX4_lightestNow_18 : decode cX4_lightestNow 18 = .ok (.iconst 1, 1) := by decide +kernel
theorem dX4_lightestNow_19 : decode cX4_lightestNow 19 = .ok (.iadd, 1) := by decide +kernel
theorem dX4_lightestNow_20 : decode cX4_lightestNow 20 = .ok (.istore 4, 2) := by decide +kernel
theorem dX4_lightestNow_22 : decode cX4_lightestNow 22 = .ok (.iload 4, 2) := by decide +kernel
theorem dX4_lightestNow_24 : decode cX4_lightestNow 24 = .ok (.aload_n 0, 1) := by decide +kernel
theorem dX4_lightestNow_25 : decode cX4_lightestNow 25 = .ok (.getfield 108, 3) := by decide +kernel
theorem dX4_lightestNow_28 : decode cX4_lightestNow 28 = .ok (.iload_n 1, 1) := by decide +kernel
theorem dX4_lightestNow_29 : decode cX4_lightestNow 29 = .ok (.iadd, 1) := by decide +kernel
theorem dX4_lightestNow_30 : decode cX4_lightestNow 30 = .ok (.if_icmp .ge 32, 3) := by decide +kernel
theorem dX4_lightestNow_33 : decode cX4_lightestNow 33 = .ok (.aload_n 0, 1) := by decide +kernel
theorem dX4_lightestNow_34 : decode cX4_lightestNow 34 = .ok (.iload 4, 2) := by decide +kernel
theorem dX4_lightestNow_36 : decode cX4_lightestNow 36 = .ok (.invokevirtual 174, 3) := by decide +kernel
theorem dX4_lightestNow_39 : decode cX4_lightestNow 39 = .ok (.istore 5, 2) := by decide +kernel
theorem dX4_lightestNow_41 : decode cX4_lightestNow 41 = .ok (.iload 5, 2) := by decide +kernel
theorem dX4_lightestNow_43 : decode cX4_lightestNow 43 = .ok (.iload_n 3, 1) := by decide +kernel
theorem dX4_lightestNow_44 : decode cX4_lightestNow 44 = .ok (.if_icmp .gt 6, 3) := by decide +kernel
theorem dX4_lightestNow_47 : decode cX4_lightestNow 47 = .ok (.goto 9, 3) := by decide +kernel
theorem dX4_lightestNow_50 : decode cX4_lightestNow 50 = .ok (.iload 5, 2) := by decide +kernel
theorem dX4_lightestNow_52 : decode cX4_lightestNow 52 = .ok (.istore_n 3, 1) := by decide +kernel
theorem dX4_lightestNow_53 : decode cX4_lightestNow 53 = .ok (.iload 4, 2) := by decide +kernel
theorem dX4_lightestNow_55 : decode cX4_lightestNow 55 = .ok (.istore_n 2, 1) := by decide +kernel
theorem dX4_lightestNow_56 : decode cX4_lightestNow 56 = .ok (.iinc 4 1, 3) := by decide +kernel
theorem dX4_lightestNow_59 : decode cX4_lightestNow 59 = .ok (.goto (-37), 3) := by decide +kernel
theorem dX4_lightestNow_62 : decode cX4_lightestNow 62 = .ok (.iload_n 2, 1) := by decide +kernel
theorem dX4_lightestNow_63 : decode cX4_lightestNow 63 = .ok (.ireturn, 1) := by decide +kernel
theorem q6_7 : (Jvm.Cond.methodLink "CyclepaintModel" (174 : Nat) ({ cls := "CyclepaintModel", name := "lightAt", desc := "(I)I" } : Jvm.MethodName)) ∈ lw_g := zg_of (zin6 (List.mem_of_getElem? (i := 7) rfl)) rfl
theorem q6_125 : (Jvm.Cond.code ({ cls := "CyclepaintModel", name := "lightestNow", desc := "(I)I" } : Jvm.MethodName) prog_6_method_59_code (6 : Nat) (Option.some Jvm.ClassFile.FieldType.int)) ∈ lw_g := zg_of (zin6 (List.mem_of_getElem? (i := 125) rfl)) rfl
theorem q6_124 : (Jvm.Cond.instanceMethod ({ cls := "CyclepaintModel", name := "lightestNow", desc := "(I)I" } : Jvm.MethodName)) ∈ lw_g := zg_of (zin6 (List.mem_of_getElem? (i := 124) rfl)) rfl
theorem qs_50 : Cond.selects "CyclepaintModel" (⟨"CyclepaintModel", "lightestNow", "(I)I"⟩ : MethodName) (⟨"CyclepaintModel", "lightestNow", "(I)I"⟩ : MethodName) ∈ lw_g := zg_of (zinS (List.mem_of_getElem? (i := 50) rfl)) rfl
theorem ok_X4_lightestNow : zOV yX4_lightestNow cX4_lightestNow 6 ((Option.some Jvm.ClassFile.FieldType.int)) 1 := ⟨⟨q6_125, q1_3, by decide, by decide, by decide +kernel⟩, q6_124, qs_50⟩
set_option maxHeartbeats 4000000 in
set_option maxRecDepth 100000 in
theorem c_X4_lightestNow (l : Launch) (G : zG) (σ : St) (b : Nat → Nat) (th m1 m2 : Int32) (n : Int) (hn : 1 ≤ n ∧ n ≤ 200) (hdt : ∀ d : Int, 0 ≤ d → d < 32 → 0 ≤ σ.Dt d ∧ σ.Dt d < 16) (hT : 0 ≤ σ.tk ∧ σ.tk ≤ 99999) : Met l yX4_lightestNow (wq yX4_lightestNow cX4_lightestNow 6 ((Option.some Jvm.ClassFile.FieldType.int))) (rmR 6 136) (va_Pc [.ref (b 0), .int (zI (n))] (zK G (hMod G σ b th m1 m2))) (zQ (some (.int ((zI (ltM σ n)))))) 0 0 zF := by
  refine z_enterI (by decide +kernel) (Nat.le_of_ble_eq_true rfl) ?_
  intro p env s m below meth cod Q S hG hP ret ls hl
  have hl : lv_has ls 6 [(0, .ref (b 0)), (1, .int (zI (n)))] := hl
  refine z_aload_n S dX4_lightestNow_0 hl 0 rfl rfl ?_
  refine z_get S hG hP.1 zc_X4 1 (by decide) q4_227 rfl rfl dX4_lightestNow_1 ?_
  refine z_istore_n (lv' := [(2, .int (zI (σ.tk))), (0, .ref (b 0)), (1, .int (zI (n)))]) S dX4_lightestNow_4 hl rfl (by decide) rfl (fun ls hl => ?_)
  refine z_aload_n S dX4_lightestNow_5 hl 1 rfl rfl ?_
  refine z_aload_n S dX4_lightestNow_6 hl 1 rfl rfl ?_
  refine z_get S hG hP.1 zc_X4 1 (by decide) q4_227 rfl rfl dX4_lightestNow_7 ?_
  refine z_callVs S hG (c_X4_lightAt l G σ b th m1 m2 (σ.tk) (by omega) hdt) ok_X4_lightAt hP.1 zc_X4 rfl q6_7 (hP) ⟨rfl, rfl, by decide, by decide⟩ ⟨Nat.zero_le _, Nat.zero_le _⟩ rfl (Nat.le_of_ble_eq_true rfl) hl.1 rfl dX4_lightestNow_10 ?_
  refine z_istore_n (lv' := [(3, .int (liM σ (σ.tk))), (2, .int (zI (σ.tk))), (0, .ref (b 0)), (1, .int (zI (n)))]) S dX4_lightestNow_13 hl rfl (by decide) rfl (fun ls hl => ?_)
  refine z_aload_n S dX4_lightestNow_14 hl 2 rfl rfl ?_
  refine z_get S hG hP.1 zc_X4 1 (by decide) q4_227 rfl rfl dX4_lightestNow_15 ?_
  refine z_iconst S dX4_lightestNow_18 ?_
  refine z_iadd S dX4_lightestNow_19 ?_
  refine z_istore (lv' := [(4, .int (zI ((σ.tk) + (1)))), (3, .int (liM σ (σ.tk))), (2, .int (zI (σ.tk))), (0, .ref (b 0)), (1, .int (zI (n)))]) S dX4_lightestNow_20 hl (by decide) rfl (fun ls hl => ?_)
  have loop_22 : ∀ (nn : Nat) (k : Int) (g : Int) (mx : Int32), (σ.tk + 1 ≤ k ∧ k ≤ σ.tk + n) → (g = (ltFM σ (k - σ.tk - 1).toNat).1 ∧ mx = (ltFM σ (k - σ.tk - 1).toNat).2) → ((σ.tk + n - k).toNat) < nn → ∀ ls, lv_has ls 6 [(4, .int (zI (k))), (3, .int (mx)), (2, .int (zI (g))), (0, .ref (b 0)), (1, .int (zI (n)))] → W p l env (rmR 6 136) s m ([.ref (b 0), .int (zI (n))] : List Value).toArray below meth cod s.heap [] 0 0 Q (F0 m 22 ls []) := by
    intro nn
    induction nn with
    | zero => intro _ _ _ _ _ h; exact absurd h (Nat.not_lt_zero _)
    | succ nn ih_22 =>
      intro k g mx hk hm hm_22 ls hl
      refine z_iload S dX4_lightestNow_22 hl 0 rfl ?_
      refine z_aload_n S dX4_lightestNow_24 hl 3 rfl rfl ?_
      refine z_get S hG hP.1 zc_X4 1 (by decide) q4_227 rfl rfl dX4_lightestNow_25 ?_
      refine z_iload_n S dX4_lightestNow_28 hl 4 rfl rfl ?_
      refine z_iadd S dX4_lightestNow_29 ?_
      refine z_icmp_ge S 62 dX4_lightestNow_30 (by decide) (by omega) (by omega) (fun c_30 => ?_) (fun c_30 => ?_)
      · skip
        refine z_iload_n S dX4_lightestNow_62 hl 2 rfl rfl ?_
        exact ret _ _ _ dX4_lightestNow_63 (by rw [hm.1, show k - σ.tk - 1 = n - 1 by omega]; rfl)
      · skip
        refine z_aload_n S dX4_lightestNow_33 hl 3 rfl rfl ?_
        refine z_iload S dX4_lightestNow_34 hl 0 rfl ?_
        refine z_callVs S hG (c_X4_lightAt l G σ b th m1 m2 (k) (by omega) hdt) ok_X4_lightAt hP.1 zc_X4 rfl q6_7 (hP) ⟨rfl, rfl, by decide, by decide⟩ ⟨Nat.zero_le _, Nat.zero_le _⟩ rfl (Nat.le_of_ble_eq_true rfl) hl.1 rfl dX4_lightestNow_36 ?_
        refine z_istore (lv' := [(5, .int (liM σ (k))), (4, .int (zI (k))), (3, .int (mx)), (2, .int (zI (g))), (0, .ref (b 0)), (1, .int (zI (n)))]) S dX4_lightestNow_39 hl (by decide) rfl (fun ls hl => ?_)
        refine z_iload S dX4_lightestNow_41 hl 0 rfl ?_
        refine z_iload_n S dX4_lightestNow_43 hl 2 rfl rfl ?_
        refine lv_icmp_gt (tgt := 50) S.1 S.2.1 dX4_lightestNow_44 (by decide) (fun c_44 => ?_) (fun c_44 => ?_)
        · skip
          refine z_iload S dX4_lightestNow_50 hl 0 rfl ?_
          refine z_istore_n (lv' := [(3, .int (liM σ (k))), (5, .int (liM σ (k))), (4, .int (zI (k))), (2, .int (zI (g))), (0, .ref (b 0)), (1, .int (zI (n)))]) S dX4_lightestNow_52 hl rfl (by decide) rfl (fun ls hl => ?_)
          refine z_iload S dX4_lightestNow_53 hl 2 rfl ?_
          refine z_istore_n (lv' := [(2, .int (zI (k))), (3, .int (liM σ (k))), (5, .int (liM σ (k))), (4, .int (zI (k))), (0, .ref (b 0)), (1, .int (zI (n)))]) S dX4_lightestNow_55 hl rfl (by decide) rfl (fun ls hl => ?_)
          refine z_iinc (lv' := [(4, .int (zI (k + 1))), (2, .int (zI (k))), (3, .int (liM σ (k))), (5, .int (liM σ (k))), (0, .ref (b 0)), (1, .int (zI (n)))]) S dX4_lightestNow_56 hl 3 rfl (by decide) rfl (fun ls hl => ?_)
          refine z_goto S 22 dX4_lightestNow_59 (by decide) ?_
          exact ih_22 (k + 1) (k) (liM σ (k)) (by omega) (by rw [show (k + 1 - σ.tk - 1).toNat = (k - σ.tk - 1).toNat + 1 by omega, ltFM, show σ.tk + ((((k - σ.tk - 1).toNat : Nat) : Int) + 1) = k by omega, if_pos (by rw [← hm.2]; exact c_44)]; exact ⟨rfl, rfl⟩) (by omega) ls (lv_sub hl [0, 2, 1, 4, 5] rfl)
        · skip
          refine z_goto S 56 dX4_lightestNow_47 (by decide) ?_
          refine z_iinc (lv' := [(4, .int (zI (k + 1))), (5, .int (liM σ (k))), (3, .int (mx)), (2, .int (zI (g))), (0, .ref (b 0)), (1, .int (zI (n)))]) S dX4_lightestNow_56 hl 1 rfl (by decide) rfl (fun ls hl => ?_)
          refine z_goto S 22 dX4_lightestNow_59 (by decide) ?_
          exact ih_22 (k + 1) (g) (mx) (by omega) (by rw [show (k + 1 - σ.tk - 1).toNat = (k - σ.tk - 1).toNat + 1 by omega, ltFM, show σ.tk + ((((k - σ.tk - 1).toNat : Nat) : Int) + 1) = k by omega, if_neg (by rw [← hm.2]; exact c_44)]; exact hm) (by omega) ls (lv_sub hl [0, 2, 3, 4, 5] rfl)
  exact loop_22 _ ((σ.tk) + (1)) (σ.tk) (liM σ (σ.tk)) (by omega) (by rw [show (σ.tk + 1 - σ.tk - 1).toNat = 0 by omega]; exact ⟨rfl, rfl⟩) (Nat.lt_succ_self _) ls (lv_sub hl [0, 1, 2, 3, 4] rfl)
theorem dX4_isTaken_0 : decode cX4_isTaken 0 = .ok (.iload_n 1, 1) := by decide +kernel
theorem dX4_isTaken_1 : decode cX4_isTaken 1 = .ok (.istore_n 3, 1) := by decide +kernel
theorem dX4_isTaken_2 : decode cX4_isTaken 2 = .ok (.iload_n 3, 1) := by decide +kernel
theorem dX4_isTaken_3 : decode cX4_isTaken 3 = .ok (.iload_n 2, 1) := by decide +kernel
theorem dX4_isTaken_4 : decode cX4_isTaken 4 = .ok (.if_icmp .gt 20, 3) := by decide +kernel
theorem dX4_isTaken_7 : decode cX4_isTaken 7 = .ok (.aload_n 0, 1) := by decide +kernel
theorem dX4_isTaken_8 : decode cX4_isTaken 8 = .ok (.iload_n 3, 1) := by decide +kernel
theorem dX4_isTaken_9 : decode cX4_isTaken 9 = .ok (.invokevirtual 51, 3) := by decide +kernel
theorem dX4_isTaken_12 : decode cX4_isTaken 12 = .ok (.iconst (-1), 1) := by decide +kernel
theorem dX4_isTaken_13 : decode cX4_isTaken 13 = .ok (.if_icmp .eq 5, 3) := by decide +kernel
theorem dX4_isTaken_16 : decode cX4_isTaken 16 = .ok (.iconst 1, 1) := by decide +kernel
theorem dX4_isTaken_17 : decode cX4_isTaken 17 = .ok (.ireturn, 1) := by decide +kernel
theorem dX4_isTaken_18 : decode cX4_isTaken 18 = .ok (.iinc 3 1, 3) := by decide +kernel
theorem dX4_isTaken_21 : decode cX4_isTaken 21 = .ok (.goto (-19), 3) := by decide +kernel
theorem dX4_isTaken_24 : decode cX4_isTaken 24 = .ok (.iconst 0, 1) := by decide +kernel
theorem dX4_isTaken_25 : decode cX4_isTaken 25 = .ok (.ireturn, 1) := by decide +kernel
theorem q5_47 : (Jvm.Cond.code ({ cls := "CyclepaintModel", name := "isTaken", desc := "(II)Z" } : Jvm.MethodName) prog_6_method_29_code (4 : Nat) (Option.some Jvm.ClassFile.FieldType.boolean)) ∈ lw_g := zg_of (zin5 (List.mem_of_getElem? (i := 47) rfl)) rfl
theorem q5_46 : (Jvm.Cond.instanceMethod ({ cls := "CyclepaintModel", name := "isTaken", desc := "(II)Z" } : Jvm.MethodName)) ∈ lw_g := zg_of (zin5 (List.mem_of_getElem? (i := 46) rfl)) rfl
theorem qs_22 : Cond.selects "CyclepaintModel" (⟨"CyclepaintModel", "isTaken", "(II)Z"⟩ : MethodName) (⟨"CyclepaintModel", "isTaken", "(II)Z"⟩ : MethodName) ∈ lw_g := zg_of (zinS (List.mem_of_getElem? (i := 22) rfl)) rfl
theorem ok_X4_isTaken : zOV yX4_isTaken cX4_isTaken 4 ((Option.some Jvm.ClassFile.FieldType.boolean)) 2 := ⟨⟨q5_47, q1_3, by decide, by decide, by decide +kernel⟩, q5_46, qs_22⟩
set_option maxHeartbeats 4000000 in
set_option maxRecDepth 100000 in
theorem c_X4_isTaken (l : Launch) (G : zG) (σ : St) (b : Nat → Nat) (th m1 m2 : Int32) (f u : Int) (hf : 0 ≤ f ∧ f < 16) (hu : 0 ≤ u ∧ u < 16 ∧ f ≤ u) : Met l yX4_isTaken (wq yX4_isTaken cX4_isTaken 4 ((Option.some Jvm.ClassFile.FieldType.boolean))) (rmR 4 86) (va_Pc [.ref (b 0), .int (zI (f)), .int (zI (u))] (zK G (hMod G σ b th m1 m2))) (zQ (some (.int (bI (tkM σ f u))))) 0 0 zF := by
  refine z_enterB (by decide +kernel) (Nat.le_of_ble_eq_true rfl) ?_
  intro p env s m below meth cod Q S hG hP ret ls hl
  have hl : lv_has ls 4 [(0, .ref (b 0)), (1, .int (zI (f))), (2, .int (zI (u)))] := hl
  refine z_iload_n S dX4_isTaken_0 hl 1 rfl rfl ?_
  refine z_istore_n (lv' := [(3, .int (zI (f))), (0, .ref (b 0)), (1, .int (zI (f))), (2, .int (zI (u)))]) S dX4_isTaken_1 hl rfl (by decide) rfl (fun ls hl => ?_)
  have loop_2 : ∀ (nn : Nat) (k : Int), (f ≤ k ∧ k ≤ u + 1) → (∀ t : Int, 0 ≤ t → t < k - f → (fun i => decide (rgOf σ (f + i) = -1)) t = true) → ((u + 1 - k).toNat) < nn → ∀ ls, lv_has ls 4 [(3, .int (zI (k))), (0, .ref (b 0)), (1, .int (zI (f))), (2, .int (zI (u)))] → W p l env (rmR 4 86) s m ([.ref (b 0), .int (zI (f)), .int (zI (u))] : List Value).toArray below meth cod s.heap [] 0 0 Q (F0 m 2 ls []) := by
    intro nn
    induction nn with
    | zero => intro _ _ _ h; exact absurd h (Nat.not_lt_zero _)
    | succ nn ih_2 =>
      intro k hk hI hm_2 ls hl
      refine z_iload_n S dX4_isTaken_2 hl 0 rfl rfl ?_
      refine z_iload_n S dX4_isTaken_3 hl 3 rfl rfl ?_
      refine z_icmp_gt S 24 dX4_isTaken_4 (by decide) (by omega) (by omega) (fun c_4 => ?_) (fun c_4 => ?_)
      · skip
        refine z_iconst S dX4_isTaken_24 ?_
        exact ret _ _ _ dX4_isTaken_25 (by rw [show tkM σ f u = false from by unfold tkM; rw [allI_iff.mpr (fun t h0 h1 => hI t h0 (by omega))]; rfl]; rfl)
      · skip
        refine z_aload_n S dX4_isTaken_7 hl 1 rfl rfl ?_
        refine z_iload_n S dX4_isTaken_8 hl 0 rfl rfl ?_
        refine z_callVs S hG (c_X4_rangeOf l G σ b th m1 m2 (k) (by omega)) ok_X4_rangeOf hP.1 zc_X4 rfl q5_48 (hP) ⟨rfl, rfl, by decide, by decide⟩ ⟨Nat.zero_le _, Nat.zero_le _⟩ rfl (Nat.le_of_ble_eq_true rfl) hl.1 rfl dX4_isTaken_9 ?_
        refine z_iconst S dX4_isTaken_12 ?_
        have hro := rgOf_b σ k
        refine z_icmp_eq S 18 dX4_isTaken_13 (by decide) (by omega) (by omega) (fun c_13 => ?_) (fun c_13 => ?_)
        · skip
          refine z_iinc (lv' := [(3, .int (zI (k + 1))), (0, .ref (b 0)), (1, .int (zI (f))), (2, .int (zI (u)))]) S dX4_isTaken_18 hl 0 rfl (by decide) rfl (fun ls hl => ?_)
          refine z_goto S 2 dX4_isTaken_21 (by decide) ?_
          exact ih_2 (k + 1) (by omega) (by rw [show k + 1 - f = (k - f) + 1 by omega]; exact lt_stp hI (by show decide (rgOf σ (f + (k - f)) = -1) = true; rw [show f + (k - f) = k by omega]; simp; omega)) (by omega) ls (lv_sub hl [0, 1, 2, 3] rfl)
        · skip
          refine z_iconst S dX4_isTaken_16 ?_
          exact ret _ _ _ dX4_isTaken_17 (by rw [show tkM σ f u = true from by unfold tkM; rw [allI_no (t := k - f) (by omega) (by omega) (by show decide (rgOf σ (f + (k - f)) = -1) = false; rw [show f + (k - f) = k by omega]; simp; omega)]; rfl]; rfl)
  exact loop_2 _ (f) (by omega) (by rw [Int.sub_self]; exact lt_st0) (Nat.lt_succ_self _) ls (lv_sub hl [0, 1, 2, 3] rfl)
