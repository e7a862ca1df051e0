theorem so_no {σ : St} {k : Int} (h0 : 0 ≤ k) (h1 : k < 16) (h : snB σ k = false) : soM σ = false := by
  unfold soM; rw [allI_no h0 h1 h]; rfl
theorem dX4_isSoundNow_0 : decode cX4_isSoundNow 0 = .ok (.aload_n 0, 1) := by decide +kernel
theorem dX4_isSoundNow_1 : decode cX4_isSoundNow 1 = .ok (.invokevirtual 186, 3) := by decide +kernel
theorem dX4_isSoundNow_4 : decode cX4_isSoundNow 4 = .ok (.istore_n 1, 1) := by decide +kernel
theorem dX4_isSoundNow_5 : decode cX4_isSoundNow 5 = .ok (.iconst 0, 1) := by decide +kernel
theorem dX4_isSoundNow_6 : decode cX4_isSoundNow 6 = .ok (.istore_n 2, 1) := by decide +kernel
theorem dX4_isSoundNow_7 : decode cX4_isSoundNow 7 = .ok (.iload_n 2, 1) := by decide +kernel
theorem dX4_isSoundNow_8 : decode cX4_isSoundNow 8 = .ok (.bipush 16, 2) := by decide +kernel
theorem dX4_isSoundNow_10 : decode cX4_isSoundNow 10 = .ok (.if_icmp .ge 188, 3) := by decide +kernel
theorem dX4_isSoundNow_13 : decode cX4_isSoundNow 13 = .ok (.iconst 0, 1) := by decide +kernel
theorem dX4_isSoundNow_14 : decode cX4_isSoundNow 14 = .ok (.istore_n 3, 1) := by decide +kernel
theorem dX4_isSoundNow_15 : decode cX4_isSoundNow 15 = .ok (.aload_n 0, 1) := by decide +kernel
theorem dX4_isSoundNow_16 : decode cX4_isSoundNow 16 = .ok (.getfield 23, 3) := by decide +kernel
theorem dX4_isSoundNow_19 : decode cX4_isSoundNow 19 = .ok (.invokevirtual 63, 3) := by decide +kernel
theorem dX4_isSoundNow_22 : decode cX4_isSoundNow 22 = .ok (.astore 4, 2) := by decide +kernel
theorem dX4_isSoundNow_24 : decode cX4_isSoundNow 24 = .ok (.aload 4, 2) := by decide +kernel
theorem dX4_isSoundNow_26 : decode cX4_isSoundNow 26 = .ok (.invokeinterface 67 1, 5) := by decide +kernel
theorem dX4_isSoundNow_31 : decode cX4_isSoundNow 31 = .ok (.ifCond .eq 47, 3) := by decide +kernel
theorem dX4_isSoundNow_34 : decode cX4_isSoundNow 34 = .ok (.aload 4, 2) := by decide +kernel
theorem dX4_isSoundNow_36 : decode cX4_isSoundNow 36 = .ok (.invokeinterface 73 1, 5) := by decide +kernel
theorem dX4_isSoundNow_41 : decode cX4_isSoundNow 41 = .ok (.checkcast 50, 3) := by decide +kernel
theorem dX4_isSoundNow_44 : decode cX4_isSoundNow 44 = .ok (.astore 5, 2) := by decide +kernel
theorem dX4_isSoundNow_46 : decode cX4_isSoundNow 46 = .ok (.iload_n 3, 1) := by decide +kernel
theorem dX4_isSoundNow_47 : decode cX4_isSoundNow 47 = .ok (.iload_n 2, 1) := by decide +kernel
theorem dX4_isSoundNow_48 : decode cX4_isSoundNow 48 = .ok (.aload 5, 2) := by decide +kernel
theorem dX4_isSoundNow_50 : decode cX4_isSoundNow 50 = .ok (.iconst 0, 1) := by decide +kernel
theorem dX4_isSoundNow_51 : decode cX4_isSoundNow 51 = .ok (.iaload, 1) := by decide +kernel
theorem dX4_isSoundNow_52 : decode cX4_isSoundNow 52 = .ok (.if_icmp .lt 20, 3) := by decide +kernel
theorem dX4_isSoundNow_55 : decode cX4_isSoundNow 55 = .ok (.iload_n 2, 1) := by decide +kernel
theorem dX4_isSoundNow_56 : decode cX4_isSoundNow 56 = .ok (.aload 5, 2) := by decide +kernel
theorem dX4_isSoundNow_58 : decode cX4_isSoundNow 58 = .ok (.iconst 0, 1) := by decide +kernel
theorem dX4_isSoundNow_59 : decode cX4_isSoundNow 59 = .ok (.iaload, 1) := by decide +kernel
theorem dX4_isSoundNow_60 : decode cX4_isSoundNow 60 = .ok (.aload 5, 2) := by decide +kernel
theorem dX4_isSoundNow_62 : decode cX4_isSoundNow 62 = .ok (.iconst 1, 1) := by decide +kernel
theorem dX4_isSoundNow_63 : decode cX4_isSoundNow 63 = .ok (.iaload, 1) := by decide +kernel
theorem dX4_isSoundNow_64 : decode cX4_isSoundNow 64 = .ok (.iadd, 1) := by decide +kernel
theorem dX4_isSoundNow_65 : decode cX4_isSoundNow 65 = .ok (.if_icmp .ge 7, 3) := by decide +kernel
theorem dX4_isSoundNow_68 : decode cX4_isSoundNow 68 = .ok (.iconst 1, 1) := by decide +kernel
theorem dX4_isSoundNow_69 : decode cX4_isSoundNow 69 = .ok (.goto 4, 3) := by decide +kernel
theorem dX4_isSoundNow_72 : decode cX4_isSoundNow 72 = .ok (.iconst 0, 1) := by decide +kernel
theorem dX4_isSoundNow_73 : decode cX4_isSoundNow 73 = .ok (.iadd, 1) := by decide +kernel
theorem dX4_isSoundNow_74 : decode cX4_isSoundNow 74 = .ok (.istore_n 3, 1) := by decide +kernel
theorem dX4_isSoundNow_75 : decode cX4_isSoundNow 75 = .ok (.goto (-51), 3) := by decide +kernel
theorem dX4_isSoundNow_78 : decode cX4_isSoundNow 78 = .ok (.iload_n 3, 1) := by decide +kernel
theorem dX4_isSoundNow_79 : decode cX4_isSoundNow 79 = .ok (.iconst 1, 1) := by decide +kernel
theorem dX4_isSoundNow_80 : decode cX4_isSoundNow 80 = .ok (.if_icmp .gt 52, 3) := by decide +kernel
theorem dX4_isSoundNow_83 : decode cX4_isSoundNow 83 = .ok (.aload_n 0, 1) := by decide +kernel
theorem dX4_isSoundNow_84 : decode cX4_isSoundNow 84 = .ok (.iload_n 2, 1) := by decide +kernel
theorem dX4_isSoundNow_85 : decode cX4_isSoundNow 85 = .ok (.aload_n 0, 1) := by decide +kernel
theorem dX4_isSoundNow_86 : decode cX4_isSoundNow 86 = .ok (.getfield 108, 3) := by decide +kernel
theorem dX4_isSoundNow_89 : decode cX4_isSoundNow 89 = .ok (.iload_n 1, 1) := by decide +kernel
theorem dX4_isSoundNow_90 : decode cX4_isSoundNow 90 = .ok (.iadd, 1) := by decide +kernel
theorem dX4_isSoundNow_91 : decode cX4_isSoundNow 91 = .ok (.invokevirtual 84, 3) := by decide +kernel
theorem dX4_isSoundNow_94 : decode cX4_isSoundNow 94 = .ok (.aload_n 0, 1) := by decide +kernel
theorem dX4_isSoundNow_95 : decode cX4_isSoundNow 95 = .ok (.iload_n 2, 1) := by decide +kernel
theorem dX4_isSoundNow_96 : decode cX4_isSoundNow 96 = .ok (.aload_n 0, 1) := by decide +kernel
theorem dX4_isSoundNow_97 : decode cX4_isSoundNow 97 = .ok (.getfield 108, 3) := by decide +kernel
theorem dX4_isSoundNow_100 : decode cX4_isSoundNow 100 = .ok (.invokevirtual 84, 3) := by decide +kernel
theorem dX4_isSoundNow_103 : decode cX4_isSoundNow 103 = .ok (.if_icmp .ne 29, 3) := by decide +kernel
theorem dX4_isSoundNow_106 : decode cX4_isSoundNow 106 = .ok (.aload_n 0, 1) := by decide +kernel
theorem dX4_isSoundNow_107 : decode cX4_isSoundNow 107 = .ok (.iload_n 2, 1) := by decide +kernel
theorem dX4_isSoundNow_108 : decode cX4_isSoundNow 108 = .ok (.invokevirtual 152, 3) := by decide +kernel
theorem dX4_isSoundNow_111 : decode cX4_isSoundNow 111 = .ok (.ifCond .eq 23, 3) := by decide +kernel
theorem dX4_isSoundNow_114 : decode cX4_isSoundNow 114 = .ok (.aload_n 0, 1) := by decide +kernel
theorem dX4_isSoundNow_115 : decode cX4_isSoundNow 115 = .ok (.iload_n 2, 1) := by decide +kernel
theorem dX4_isSoundNow_116 : decode cX4_isSoundNow 116 = .ok (.aload_n 0, 1) := by decide +kernel
theorem dX4_isSoundNow_117 : decode cX4_isSoundNow 117 = .ok (.getfield 108, 3) := by decide +kernel
theorem dX4_isSoundNow_120 : decode cX4_isSoundNow 120 = .ok (.invokevirtual 84, 3) := by decide +kernel
theorem dX4_isSoundNow_123 : decode cX4_isSoundNow 123 = .ok (.aload_n 0, 1) := by decide +kernel
theorem dX4_isSoundNow_124 : decode cX4_isSoundNow 124 = .ok (.getfield 13, 3) := by decide +kernel
theorem dX4_isSoundNow_127 : decode cX4_isSoundNow 127 = .ok (.iload_n 2, 1) := by decide +kernel
theorem dX4_isSoundNow_128 : decode cX4_isSoundNow 128 = .ok (.iaload, 1) := by decide +kernel
theorem dX4_isSoundNow_129 : decode cX4_isSoundNow 129 = .ok (.if_icmp .eq 5, 3) := by decide +kernel
theorem dX4_isSoundNow_132 : decode cX4_isSoundNow 132 = .ok (.iconst 0, 1) := by decide +kernel
theorem dX4_isSoundNow_133 : decode cX4_isSoundNow 133 = .ok (.ireturn, 1) := by decide +kernel
theorem dX4_isSoundNow_134 : decode cX4_isSoundNow 134 = .ok (.aload_n 0, 1) := by decide +kernel
theorem dX4_isSoundNow_135 : decode cX4_isSoundNow 135 = .ok (.iload_n 2, 1) := by decide +kernel
theorem dX4_isSoundNow_136 : decode cX4_isSoundNow 136 = .ok (.invokevirtual 91, 3) := by decide +kernel
theorem dX4_isSoundNow_139 : decode cX4_isSoundNow 139 = .ok (.istore 4, 2) := by decide +kernel
theorem dX4_isSoundNow_141 : decode cX4_isSoundNow 141 = .ok (.iconst 0, 1) := by decide +kernel
theorem dX4_isSoundNow_142 : decode cX4_isSoundNow 142 = .ok (.istore 5, 2) := by decide +kernel
theorem dX4_isSoundNow_144 : decode cX4_isSoundNow 144 = .ok (.iload 5, 2) := by decide +kernel
theorem dX4_isSoundNow_146 : decode cX4_isSoundNow 146 = .ok (.bipush 16, 2) := by decide +kernel
theorem dX4_isSoundNow_148 : decode cX4_isSoundNow 148 = .ok (.if_icmp .ge 44, 3) := by decide +kernel
theorem dX4_isSoundNow_151 : decode cX4_isSoundNow 151 = .ok (.iload 4, 2) := by decide +kernel
theorem dX4_isSoundNow_153 : decode cX4_isSoundNow 153 = .ok (.iload 5, 2) := by decide +kernel
theorem dX4_isSoundNow_155 : decode cX4_isSoundNow 155 = .ok (.ishr, 1) := by decide +kernel
theorem dX4_isSoundNow_156 : decode cX4_isSoundNow 156 = .ok (.iconst 1, 1) := by decide +kernel
theorem dX4_isSoundNow_157 : decode cX4_isSoundNow 157 = .ok (.iand, 1) := by decide +kernel
theorem dX4_isSoundNow_158 : decode cX4_isSoundNow 158 = .ok (.iconst 1, 1) := by decide +kernel
theorem dX4_isSoundNow_159 : decode cX4_isSoundNow 159 = .ok (.if_icmp .ne 27, 3) := by decide +kernel
theorem dX4_isSoundNow_162 : decode cX4_isSoundNow 162 = .ok (.aload_n 0, 1) := by decide +kernel
theorem dX4_isSoundNow_163 : decode cX4_isSoundNow 163 = .ok (.iload 5, 2) := by decide +kernel
theorem dX4_isSoundNow_165 : decode cX4_isSoundNow 165 = .ok (.aload_n 0, 1) := by decide +kernel
theorem dX4_isSoundNow_166 : decode cX4_isSoundNow 166 = .ok (.getfield 108, 3) := by decide +kernel
theorem dX4_isSoundNow_169 : decode cX4_isSoundNow 169 = .ok (.invokevirtual 84, 3) := by decide +kernel
theorem dX4_isSoundNow_172 : decode cX4_isSoundNow 172 = .ok (.aload_n 0, 1) := by decide +kernel
theorem dX4_isSoundNow_173 : decode cX4_isSoundNow 173 = .ok (.iload_n 2, 1) := by decide +kernel
theorem dX4_isSoundNow_174 : decode cX4_isSoundNow 174 = .ok (.aload_n 0, 1) := by decide +kernel
theorem dX4_isSoundNow_175 : decode cX4_isSoundNow 175 = .ok (.getfield 108, 3) := by decide +kernel
theorem dX4_isSoundNow_178 : decode cX4_isSoundNow 178 = .ok (.invokevirtual 84, 3) := by decide +kernel
theorem dX4_isSoundNow_181 : decode cX4_isSoundNow 181 = .ok (.if_icmp .eq 5, 3) := by decide +kernel
theorem dX4_isSoundNow_184 : decode cX4_isSoundNow 184 = .ok (.iconst 0, 1) := by decide +kernel
theorem dX4_isSoundNow_185 : decode cX4_isSoundNow 185 = .ok (.ireturn, 1) := by decide +kernel
theorem dX4_isSoundNow_186 : decode cX4_isSoundNow 186 = .ok (.iinc 5 1, 3) := by decide +kernel
theorem dX4_isSoundNow_189 : decode cX4_isSoundNow 189 = .ok (.goto (-45), 3) := by decide +kernel
theorem dX4_isSoundNow_192 : decode cX4_isSoundNow 192 = .ok (.iinc 2 1, 3) := by decide +kernel
theorem dX4_isSoundNow_195 : decode cX4_isSoundNow 195 = .ok (.goto (-188), 3) := by decide +kernel
theorem dX4_isSoundNow_198 : decode cX4_isSoundNow 198 = .ok (.aload_n 0, 1) := by decide +kernel
theorem dX4_isSoundNow_199 : decode cX4_isSoundNow 199 = .ok (.invokevirtual 171, 3) := by decide +kernel
theorem dX4_isSoundNow_202 : decode cX4_isSoundNow 202 = .ok (.aload_n 0, 1) := by decide +kernel
theorem dX4_isSoundNow_203 : decode cX4_isSoundNow 203 = .ok (.invokevirtual 99, 3) := by decide +kernel
theorem dX4_isSoundNow_206 : decode cX4_isSoundNow 206 = .ok (.invokestatic 105, 3) := by decide +kernel
theorem dX4_isSoundNow_209 : decode cX4_isSoundNow 209 = .ok (.if_icmp .gt 7, 3) := by decide +kernel
theorem dX4_isSoundNow_212 : decode cX4_isSoundNow 212 = .ok (.iconst 1, 1) := by decide +kernel
theorem dX4_isSoundNow_213 : decode cX4_isSoundNow 213 = .ok (.goto 4, 3) := by decide +kernel
theorem dX4_isSoundNow_216 : decode cX4_isSoundNow 216 = .ok (.iconst 0, 1) := by decide +kernel
theorem dX4_isSoundNow_217 : decode cX4_isSoundNow 217 = .ok (.ireturn, 1) := by decide +kernel
theorem q6_25 : (Jvm.Cond.methodLink "CyclepaintModel" (186 : Nat) ({ cls := "CyclepaintModel", name := "periodNow", desc := "()I" } : Jvm.MethodName)) ∈ lw_g := zg_of (zin6 (List.mem_of_getElem? (i := 25) rfl)) rfl
theorem q6_133 : (Jvm.Cond.code ({ cls := "CyclepaintModel", name := "isSoundNow", desc := "()Z" } : Jvm.MethodName) prog_6_method_61_code (6 : Nat) (Option.some Jvm.ClassFile.FieldType.boolean)) ∈ lw_g := zg_of (zin6 (List.mem_of_getElem? (i := 133) rfl)) rfl
theorem q6_132 : (Jvm.Cond.instanceMethod ({ cls := "CyclepaintModel", name := "isSoundNow", desc := "()Z" } : Jvm.MethodName)) ∈ lw_g := zg_of (zin6 (List.mem_of_getElem? (i := 132) rfl)) rfl
theorem qs_51 : Cond.selects "CyclepaintModel" (⟨"CyclepaintModel", "isSoundNow", "()Z"⟩ : MethodName) (⟨"CyclepaintModel", "isSoundNow", "()Z"⟩ : MethodName) ∈ lw_g := zg_of (zinS (List.mem_of_getElem? (i := 51) rfl)) rfl
theorem ok_X4_isSoundNow : zOV yX4_isSoundNow cX4_isSoundNow 6 ((Option.some Jvm.ClassFile.FieldType.boolean)) 0 := ⟨⟨q6_133, q1_3, by decide, by decide, by decide +kernel⟩, q6_132, qs_51⟩
set_option maxHeartbeats 4000000 in
set_option maxRecDepth 100000 in
theorem c_X4_isSoundNow (l : Launch) (G : zG) (σ : St) (b : Nat → Nat) (th m1 m2 : Int32) (sz : Nat) (hD : okD σ) (hT : 0 ≤ σ.tk ∧ σ.tk ≤ 99999) : Met l yX4_isSoundNow (wq yX4_isSoundNow cX4_isSoundNow 6 ((Option.some Jvm.ClassFile.FieldType.boolean))) (rmM 9 200 17 68) (va_Pc [.ref (b 0)] (zK G (fun H => hMod G σ b th m1 m2 H ∧ H.size = sz))) (zM (fun y => sz ≤ y) (some (.int (bI (soM σ)))) (fun _ => True)) 17 68 (fun y => sz ≤ y) := by
  refine z_enterMB (by decide +kernel) (Nat.le_of_ble_eq_true rfl) ?_
  intro p env s m below meth cod Q S hG hP hS ret ls hl
  have hl : lv_has ls 6 [(0, .ref (b 0))] := hl
  have hz0 := hP.2
  have hP := hP.1
  have ltb : ∀ i : Nat, mL σ i → b i < sz := fun i hi => by rw [← hz0]; exact hMod_lt hP hi
  have hO := hP.2.2.2.2.2.2.2.2.2
  have hrn := hO.1
  have hpb := per_b hO hD σ.rn hrn.1 (Int.le_refl _)
  have hpe : prdI σ σ.rn = per σ := rfl
  rw [hpe] at hpb
  refine z_aload_n S dX4_isSoundNow_0 hl 0 rfl rfl ?_
  obtain ⟨z1, hz1⟩ : ∃ x : Nat, x = s.heap.size := ⟨_, rfl⟩
  refine z_callM S hG hS (c_X4_periodNow l G σ b th m1 m2 z1 hD) (fun y h => by have h2 : z1 ≤ y := h; show sz ≤ y; omega) ok_X4_periodNow hP.1 zc_X4 rfl q6_25 (⟨hP, hz1.symm⟩) ⟨rfl, rfl, by decide, by decide⟩ ⟨Nat.le_of_ble_eq_true rfl, Nat.le_of_ble_eq_true rfl⟩ rfl (Nat.le_of_ble_eq_true rfl) hl.1 rfl dX4_isSoundNow_1 (fun H_1 L_1 hB hz oq hS => ?_)
  have hP := hMod_keep hP (fun i hi => oq _ (hMod_lt hP hi) (by have := hMod_lt hP hi; show ¬ (z1 ≤ _); omega))
  refine z_istore_n (lv' := [(1, .int (zI (per σ))), (0, .ref (b 0))]) S dX4_isSoundNow_4 hl rfl (by decide) rfl (fun ls hl => ?_)
  refine z_iconst S dX4_isSoundNow_5 ?_
  refine z_istore_n (lv' := [(2, .int (zI (0))), (1, .int (zI (per σ))), (0, .ref (b 0))]) S dX4_isSoundNow_6 hl rfl (by decide) rfl (fun ls hl => ?_)
  have loop_7 : ∀ (nn : Nat) (k : Int) (Hk7 : Heap) (Lk7 : List Loc), (va_S (fun y => sz ≤ y) s.heap Hk7 Lk7) → (hMod G σ b th m1 m2 Hk7) → (sz ≤ Hk7.size) → (0 ≤ k ∧ k ≤ 16) → (∀ t : Int, 0 ≤ t → t < k → snB σ t = true) → ((16 - k).toNat) < nn → ∀ ls, lv_has ls 6 [(2, .int (zI (k))), (1, .int (zI (per σ))), (0, .ref (b 0))] → W p l env (rmM 9 200 17 68) s m ([.ref (b 0)] : List Value).toArray below meth cod Hk7 Lk7 (1 + k.toNat) (4 + 4 * k.toNat) Q (F0 m 7 ls []) := by
    intro nn
    induction nn with
    | zero => intro _ _ _ _ _ _ _ _ h; exact absurd h (Nat.not_lt_zero _)
    | succ nn ih_7 =>
      intro k Hk7 Lk7 hS hP hzk hk hI0 hm_7 ls hl
      refine z_iload_n S dX4_isSoundNow_7 hl 0 rfl rfl ?_
      refine z_bipush S dX4_isSoundNow_8 rfl ?_
      refine z_icmp_ge S 198 dX4_isSoundNow_10 (by decide) (by omega) (by omega) (fun c_10 => ?_) (fun c_10 => ?_)
      · skip
        refine z_aload_n S dX4_isSoundNow_198 hl 2 rfl rfl ?_
        refine z_callVs S hG (c_X4_kinds l G σ b th m1 m2) ok_X4_kinds hP.1 zc_X4 rfl q6_3 (hP) ⟨rfl, rfl, by decide, by decide⟩ ⟨(by show _ ≤ (17 : Nat); omega), (by show _ ≤ (68 : Nat); omega)⟩ rfl (Nat.le_of_ble_eq_true rfl) hl.1 rfl dX4_isSoundNow_199 ?_
        refine z_aload_n S dX4_isSoundNow_202 hl 2 rfl rfl ?_
        refine z_callVs S hG (c_X4_entries l G σ b th m1 m2) ok_X4_entries hP.1 zc_X4 rfl q5_238 (hP) ⟨rfl, rfl, by decide, by decide⟩ ⟨(by show _ ≤ (17 : Nat); omega), (by show _ ≤ (68 : Nat); omega)⟩ rfl (Nat.le_of_ble_eq_true rfl) hl.1 rfl dX4_isSoundNow_203 ?_
        refine z_callSs S hG (c_bitCount l G (enM σ)) ok_J6_bitCount_0f7a4 q6_2 (trivial) ⟨rfl, rfl, by decide, by decide⟩ ⟨(by show _ ≤ (17 : Nat); omega), (by show _ ≤ (68 : Nat); omega)⟩ rfl (Nat.le_of_ble_eq_true rfl) hl.1 rfl dX4_isSoundNow_206 ?_
        refine lv_icmp_gt (tgt := 216) S.1 S.2.1 dX4_isSoundNow_209 (by decide) (fun c_209 => ?_) (fun c_209 => ?_)
        · skip
          refine z_iconst S dX4_isSoundNow_216 ?_
          exact ret _ _ _ _ _ _ _ dX4_isSoundNow_217 (by unfold soM; rw [decide_eq_false (Int32.not_le.mpr c_209), Bool.and_false]; rfl) hS (trivial) (by omega) (by omega)
        · skip
          refine z_iconst S dX4_isSoundNow_212 ?_
          refine z_goto S 217 dX4_isSoundNow_213 (by decide) ?_
          exact ret _ _ _ _ _ _ _ dX4_isSoundNow_217 (by unfold soM; rw [allI_iff.mpr (fun t h0 h1 => hI0 t h0 (by omega)), decide_eq_true (Int32.not_lt.mp c_209)]; rfl) hS (trivial) (by omega) (by omega)
      · skip
        refine z_iconst S dX4_isSoundNow_13 ?_
        refine z_istore_n (lv' := [(3, .int (zI (0))), (2, .int (zI (k))), (1, .int (zI (per σ))), (0, .ref (b 0))]) S dX4_isSoundNow_14 hl rfl (by decide) rfl (fun ls hl => ?_)
        refine z_aload_n S dX4_isSoundNow_15 hl 3 rfl rfl ?_
        refine z_get S hG hP.1 zc_X4 6 (by decide) q4_232 rfl rfl dX4_isSoundNow_16 ?_
        obtain ⟨n1, hq_n1⟩ : ∃ x : Nat, x = Hk7.size := ⟨_, rfl⟩
        refine z_callM S hG hS (c_alIter l G (b 3) (b 5) n1 m1 σ.rn) (fun y h => by have h2 : n1 ≤ y := h; show sz ≤ y; omega) ok_Jx4a65c_iterator_32c93 hP.2.2.2.1 zc_Jx4a65c rfl q6_29 (⟨hP.2.2.2.1, hq_n1.symm⟩) ⟨rfl, rfl, by decide, by decide⟩ ⟨(by show _ ≤ (17 : Nat); omega), (by show _ ≤ (68 : Nat); omega)⟩ rfl (Nat.le_of_ble_eq_true rfl) hl.1 rfl dX4_isSoundNow_19 (fun H_2 L_2 hB hz oq hS => ?_)
        have hP := hMod_keep hP (fun i hi => oq _ (hMod_lt hP hi) (by have := ltb i hi; show ¬ (n1 ≤ _); omega))
        have hI := hB
        refine z_astore (lv' := [(4, .ref (n1)), (3, .int (zI (0))), (2, .int (zI (k))), (1, .int (zI (per σ))), (0, .ref (b 0))]) S dX4_isSoundNow_22 hl (by decide) rfl (fun ls hl => ?_)
        have loop_24 : ∀ (nn : Nat) (cur : Int) (lr : Int) (ch : Int) (Hk24 : Heap) (Lk24 : List Loc), (va_S (fun y => sz ≤ y) s.heap Hk24 Lk24) → (hMod G σ b th m1 m2 Hk24) → (sz ≤ Hk24.size) → (hIt G n1 (b 3) (cur) (lr) m1 Hk24) → (0 ≤ cur ∧ cur ≤ σ.rn) → (ch = cntI (fun j => rgIn σ j k) cur) → ((σ.rn - cur).toNat) < nn → ∀ ls, lv_has ls 6 [(4, .ref (n1)), (3, .int (zI (ch))), (2, .int (zI (k))), (1, .int (zI (per σ))), (0, .ref (b 0))] → W p l env (rmM 9 200 17 68) s m ([.ref (b 0)] : List Value).toArray below meth cod Hk24 Lk24 ((1 + k.toNat) + 1) ((4 + 4 * k.toNat) + 4) Q (F0 m 24 ls []) := by
          intro nn
          induction nn with
          | zero => intro _ _ _ _ _ _ _ _ _ _ _ h; exact absurd h (Nat.not_lt_zero _)
          | succ nn ih_24 =>
            intro cur lr ch Hk24 Lk24 hS hP hzk hI hc hch hm_24 ls hl
            have hcb := cntI_b (fun j => rgIn σ j k) hc.1
            refine z_aload S dX4_isSoundNow_24 hl 0 rfl ?_
            refine z_callF S hG hS (c_itHas l G n1 (b 3) (b 5) m1 σ.rn (cur) (lr) (by omega)) (fun _ h => h.elim) hG.2.2.1 ok_Jx35411_hasNext_aae02 q6_59 q6_57 ⟨by decide, by decide, by decide +kernel⟩ hI zc_Jx35411 q6_53 (⟨hI, hP.2.2.2.1⟩) ⟨rfl, rfl, by decide, by decide⟩ ⟨(by show _ ≤ (17 : Nat); omega), (by show _ ≤ (68 : Nat); omega)⟩ rfl (Nat.le_of_ble_eq_true rfl) hl.1 rfl dX4_isSoundNow_26 (fun H_3 L_3 hB hz oq hS => ?_)
            have hP := hMod_keep hP (fun i hi => oq _ (hMod_lt hP hi) (fun z => z))
            have hI := va_at.kept hI (oq _ (va_lt hI) (fun z => z))
            refine z_bif_eq S 78 dX4_isSoundNow_31 (by decide) (fun c_31 => ?_) (fun c_31 => ?_)
            · skip
              have hce : cur = σ.rn := by have := of_decide_eq_false c_31; omega
              have hcc : ch = cntI (fun j => rgIn σ j k) σ.rn := by rw [hch, hce]
              refine z_iload_n S dX4_isSoundNow_78 hl 1 rfl rfl ?_
              refine z_iconst S dX4_isSoundNow_79 ?_
              refine z_icmp_gt S 132 dX4_isSoundNow_80 (by decide) (by omega) (by omega) (fun c_80 => ?_) (fun c_80 => ?_)
              · skip
                have hs9 : snB σ k = false := by unfold snB; rw [decide_eq_false (show ¬ cntI (fun j => rgIn σ j k) σ.rn ≤ 1 by omega)]; rfl
                refine z_iconst S dX4_isSoundNow_132 ?_
                exact ret _ _ _ _ _ _ _ dX4_isSoundNow_133 (by rw [so_no hk.1 (by omega) hs9]; rfl) hS (trivial) (by omega) (by omega)
              · skip
                have hs1 : decide (cntI (fun j => rgIn σ j k) σ.rn ≤ 1) = true := decide_eq_true (by omega)
                refine z_aload_n S dX4_isSoundNow_83 hl 4 rfl rfl ?_
                refine z_iload_n S dX4_isSoundNow_84 hl 2 rfl rfl ?_
                refine z_aload_n S dX4_isSoundNow_85 hl 4 rfl rfl ?_
                refine z_get S hG hP.1 zc_X4 1 (by decide) q4_227 rfl rfl dX4_isSoundNow_86 ?_
                refine z_iload_n S dX4_isSoundNow_89 hl 3 rfl rfl ?_
                refine z_iadd S dX4_isSoundNow_90 ?_
                refine z_callVs S hG (c_X4_show l G σ b th m1 m2 (k) ((σ.tk) + (per σ)) (by omega) (by omega)) ok_X4_show hP.1 zc_X4 rfl q5_159 (hP) ⟨rfl, rfl, by decide, by decide⟩ ⟨(by show _ ≤ (17 : Nat); omega), (by show _ ≤ (68 : Nat); omega)⟩ rfl (Nat.le_of_ble_eq_true rfl) hl.1 rfl dX4_isSoundNow_91 ?_
                refine z_aload_n S dX4_isSoundNow_94 hl 4 rfl rfl ?_
                refine z_iload_n S dX4_isSoundNow_95 hl 2 rfl rfl ?_
                refine z_aload_n S dX4_isSoundNow_96 hl 4 rfl rfl ?_
                refine z_get S hG hP.1 zc_X4 1 (by decide) q4_227 rfl rfl dX4_isSoundNow_97 ?_
                refine z_callVs S hG (c_X4_show l G σ b th m1 m2 (k) (σ.tk) (by omega) (by omega)) ok_X4_show hP.1 zc_X4 rfl q5_159 (hP) ⟨rfl, rfl, by decide, by decide⟩ ⟨(by show _ ≤ (17 : Nat); omega), (by show _ ≤ (68 : Nat); omega)⟩ rfl (Nat.le_of_ble_eq_true rfl) hl.1 rfl dX4_isSoundNow_100 ?_
                refine lv_icmp_ne (tgt := 132) S.1 S.2.1 dX4_isSoundNow_103 (by decide) (fun c_103 => ?_) (fun c_103 => ?_)
                · skip
                  have hs9 : snB σ k = false := by unfold snB crB; rw [decide_eq_false c_103]; simp
                  refine z_iconst S dX4_isSoundNow_132 ?_
                  exact ret _ _ _ _ _ _ _ dX4_isSoundNow_133 (by rw [so_no hk.1 (by omega) hs9]; rfl) hS (trivial) (by omega) (by omega)
                · skip
                  have hs2 : crB σ σ.tk k = true := decide_eq_true (by simpa using c_103)
                  refine z_aload_n S dX4_isSoundNow_106 hl 4 rfl rfl ?_
                  refine z_iload_n S dX4_isSoundNow_107 hl 2 rfl rfl ?_
                  refine z_callVs S hG (c_X4_isStill l G σ b th m1 m2 (k) (by omega)) ok_X4_isStill hP.1 zc_X4 rfl q5_218 (hP) ⟨rfl, rfl, by decide, by decide⟩ ⟨(by show _ ≤ (17 : Nat); omega), (by show _ ≤ (68 : Nat); omega)⟩ rfl (Nat.le_of_ble_eq_true rfl) hl.1 rfl dX4_isSoundNow_108 ?_
                  refine z_bif_eq S 134 dX4_isSoundNow_111 (by decide) (fun c_111 => ?_) (fun c_111 => ?_)
                  · skip
                    have hs3 : (decide (cntI (fun j => rgIn σ j k) σ.rn ≤ 1) && (crB σ σ.tk k && (!(stlM σ k) || decide (shw σ k σ.tk = σ.B k)))) = true := by rw [hs1, hs2, c_111]; rfl
                    refine z_aload_n S dX4_isSoundNow_134 hl 4 rfl rfl ?_
                    refine z_iload_n S dX4_isSoundNow_135 hl 2 rfl rfl ?_
                    refine z_callVs S hG (c_X4_twins l G σ b th m1 m2 (k) (by omega)) ok_X4_twins hP.1 zc_X4 rfl q5_141 (hP) ⟨rfl, rfl, by decide, by decide⟩ ⟨(by show _ ≤ (17 : Nat); omega), (by show _ ≤ (68 : Nat); omega)⟩ rfl (Nat.le_of_ble_eq_true rfl) hl.1 rfl dX4_isSoundNow_136 ?_
                    refine z_istore (lv' := [(4, .int (bstI (fun o => twnM σ (k) o) 16)), (3, .int (zI (ch))), (2, .int (zI (k))), (1, .int (zI (per σ))), (0, .ref (b 0))]) S dX4_isSoundNow_139 hl (by decide) rfl (fun ls hl => ?_)
                    refine z_iconst S dX4_isSoundNow_141 ?_
                    refine z_istore (lv' := [(5, .int (zI (0))), (4, .int (bstI (fun o => twnM σ (k) o) 16)), (3, .int (zI (ch))), (2, .int (zI (k))), (1, .int (zI (per σ))), (0, .ref (b 0))]) S dX4_isSoundNow_142 hl (by decide) rfl (fun ls hl => ?_)
                    have loop_144 : ∀ (nn : Nat) (n : Int), (0 ≤ n ∧ n ≤ 16) → (∀ t : Int, 0 ≤ t → t < n → snT σ k t = true) → ((16 - n).toNat) < nn → ∀ ls, lv_has ls 6 [(5, .int (zI (n))), (4, .int (bstI (fun o => twnM σ (k) o) 16)), (3, .int (zI (ch))), (2, .int (zI (k))), (1, .int (zI (per σ))), (0, .ref (b 0))] → W p l env (rmM 9 200 17 68) s m ([.ref (b 0)] : List Value).toArray below meth cod H_3 L_3 ((1 + k.toNat) + 1) ((4 + 4 * k.toNat) + 4) Q (F0 m 144 ls []) := by
                      intro nn
                      induction nn with
                      | zero => intro _ _ _ h; exact absurd h (Nat.not_lt_zero _)
                      | succ nn ih_144 =>
                        intro n hn hJ hm_144 ls hl
                        refine z_iload S dX4_isSoundNow_144 hl 0 rfl ?_
                        refine z_bipush S dX4_isSoundNow_146 rfl ?_
                        refine z_icmp_ge S 192 dX4_isSoundNow_148 (by decide) (by omega) (by omega) (fun c_148 => ?_) (fun c_148 => ?_)
                        · skip
                          refine z_iinc (lv' := [(2, .int (zI (k + 1))), (5, .int (zI (n))), (4, .int (bstI (fun o => twnM σ (k) o) 16)), (3, .int (zI (ch))), (1, .int (zI (per σ))), (0, .ref (b 0))]) S dX4_isSoundNow_192 hl 3 rfl (by decide) rfl (fun ls hl => ?_)
                          refine z_goto S 7 dX4_isSoundNow_195 (by decide) ?_
                          exact W.widen (by omega) (by omega) (ih_7 (k + 1) (H_3) (L_3) (hS) (hP) (by omega) (by omega) (lt_stp hI0 (by unfold snB; rw [hs3, allI_iff.mpr (fun t h0 h1 => hJ t h0 (by omega))]; rfl)) (by omega) ls (lv_sub hl [0, 4, 5] rfl))
                        · skip
                          refine z_iload S dX4_isSoundNow_151 hl 1 rfl ?_
                          refine z_iload S dX4_isSoundNow_153 hl 0 rfl ?_
                          refine lv_ishr S.1 S.2.1 dX4_isSoundNow_155 ?_
                          refine z_iconst S dX4_isSoundNow_156 ?_
                          refine lv_iand S.1 S.2.1 dX4_isSoundNow_157 ?_
                          refine z_iconst S dX4_isSoundNow_158 ?_
                          refine lv_icmp_ne (tgt := 186) S.1 S.2.1 dX4_isSoundNow_159 (by decide) (fun c_159 => ?_) (fun c_159 => ?_)
                          · skip
                            refine z_iinc (lv' := [(5, .int (zI (n + 1))), (4, .int (bstI (fun o => twnM σ (k) o) 16)), (3, .int (zI (ch))), (2, .int (zI (k))), (1, .int (zI (per σ))), (0, .ref (b 0))]) S dX4_isSoundNow_186 hl 0 rfl (by decide) rfl (fun ls hl => ?_)
                            refine z_goto S 144 dX4_isSoundNow_189 (by decide) ?_
                            exact ih_144 (n + 1) (by omega) (lt_stp hJ (by unfold snT; rw [decide_eq_false c_159]; rfl)) (by omega) ls (lv_sub hl [0, 1, 2, 3, 4, 5] rfl)
                          · skip
                            refine z_aload_n S dX4_isSoundNow_162 hl 5 rfl rfl ?_
                            refine z_iload S dX4_isSoundNow_163 hl 0 rfl ?_
                            refine z_aload_n S dX4_isSoundNow_165 hl 5 rfl rfl ?_
                            refine z_get S hG hP.1 zc_X4 1 (by decide) q4_227 rfl rfl dX4_isSoundNow_166 ?_
                            refine z_callVs S hG (c_X4_show l G σ b th m1 m2 (n) (σ.tk) (by omega) (by omega)) ok_X4_show hP.1 zc_X4 rfl q5_159 (hP) ⟨rfl, rfl, by decide, by decide⟩ ⟨(by show _ ≤ (17 : Nat); omega), (by show _ ≤ (68 : Nat); omega)⟩ rfl (Nat.le_of_ble_eq_true rfl) hl.1 rfl dX4_isSoundNow_169 ?_
                            refine z_aload_n S dX4_isSoundNow_172 hl 5 rfl rfl ?_
                            refine z_iload_n S dX4_isSoundNow_173 hl 3 rfl rfl ?_
                            refine z_aload_n S dX4_isSoundNow_174 hl 5 rfl rfl ?_
                            refine z_get S hG hP.1 zc_X4 1 (by decide) q4_227 rfl rfl dX4_isSoundNow_175 ?_
                            refine z_callVs S hG (c_X4_show l G σ b th m1 m2 (k) (σ.tk) (by omega) (by omega)) ok_X4_show hP.1 zc_X4 rfl q5_159 (hP) ⟨rfl, rfl, by decide, by decide⟩ ⟨(by show _ ≤ (17 : Nat); omega), (by show _ ≤ (68 : Nat); omega)⟩ rfl (Nat.le_of_ble_eq_true rfl) hl.1 rfl dX4_isSoundNow_178 ?_
                            refine lv_icmp_eq (tgt := 186) S.1 S.2.1 dX4_isSoundNow_181 (by decide) (fun c_181 => ?_) (fun c_181 => ?_)
                            · skip
                              refine z_iinc (lv' := [(5, .int (zI (n + 1))), (4, .int (bstI (fun o => twnM σ (k) o) 16)), (3, .int (zI (ch))), (2, .int (zI (k))), (1, .int (zI (per σ))), (0, .ref (b 0))]) S dX4_isSoundNow_186 hl 0 rfl (by decide) rfl (fun ls hl => ?_)
                              refine z_goto S 144 dX4_isSoundNow_189 (by decide) ?_
                              exact ih_144 (n + 1) (by omega) (lt_stp hJ (by unfold snT; rw [decide_eq_true c_181]; simp)) (by omega) ls (lv_sub hl [0, 1, 2, 3, 4, 5] rfl)
                            · skip
                              refine z_iconst S dX4_isSoundNow_184 ?_
                              exact ret _ _ _ _ _ _ _ dX4_isSoundNow_185 (by rw [so_no hk.1 (by omega) (by unfold snB; rw [hs3, allI_no hn.1 (show n < 16 by omega) (by unfold snT; rw [decide_eq_true (by simpa using c_159), decide_eq_false c_181]; rfl)]; rfl)]; rfl) hS (trivial) (by omega) (by omega)
                    exact loop_144 _ (0) (by omega) (lt_st0) (Nat.lt_succ_self _) ls (lv_sub hl [0, 1, 2, 3, 4, 5] rfl)
                  · skip
                    refine z_aload_n S dX4_isSoundNow_114 hl 4 rfl rfl ?_
                    refine z_iload_n S dX4_isSoundNow_115 hl 2 rfl rfl ?_
                    refine z_aload_n S dX4_isSoundNow_116 hl 4 rfl rfl ?_
                    refine z_get S hG hP.1 zc_X4 1 (by decide) q4_227 rfl rfl dX4_isSoundNow_117 ?_
                    refine z_callVs S hG (c_X4_show l G σ b th m1 m2 (k) (σ.tk) (by omega) (by omega)) ok_X4_show hP.1 zc_X4 rfl q5_159 (hP) ⟨rfl, rfl, by decide, by decide⟩ ⟨(by show _ ≤ (17 : Nat); omega), (by show _ ≤ (68 : Nat); omega)⟩ rfl (Nat.le_of_ble_eq_true rfl) hl.1 rfl dX4_isSoundNow_120 ?_
                    refine z_aload_n S dX4_isSoundNow_123 hl 4 rfl rfl ?_
                    refine z_get S hG hP.1 zc_X4 4 (by decide) q4_230 rfl rfl dX4_isSoundNow_124 ?_
                    refine z_iload_n S dX4_isSoundNow_127 hl 2 rfl rfl ?_
                    refine z_iald S hG hP.2.1 (by omega) (by decide) dX4_isSoundNow_128 ?_
                    refine lv_icmp_eq (tgt := 134) S.1 S.2.1 dX4_isSoundNow_129 (by decide) (fun c_129 => ?_) (fun c_129 => ?_)
                    · skip
                      have hs3 : (decide (cntI (fun j => rgIn σ j k) σ.rn ≤ 1) && (crB σ σ.tk k && (!(stlM σ k) || decide (shw σ k σ.tk = σ.B k)))) = true := by rw [hs1, hs2, decide_eq_true c_129]; simp
                      refine z_aload_n S dX4_isSoundNow_134 hl 4 rfl rfl ?_
                      refine z_iload_n S dX4_isSoundNow_135 hl 2 rfl rfl ?_
                      refine z_callVs S hG (c_X4_twins l G σ b th m1 m2 (k) (by omega)) ok_X4_twins hP.1 zc_X4 rfl q5_141 (hP) ⟨rfl, rfl, by decide, by decide⟩ ⟨(by show _ ≤ (17 : Nat); omega), (by show _ ≤ (68 : Nat); omega)⟩ rfl (Nat.le_of_ble_eq_true rfl) hl.1 rfl dX4_isSoundNow_136 ?_
                      refine z_istore (lv' := [(4, .int (bstI (fun o => twnM σ (k) o) 16)), (3, .int (zI (ch))), (2, .int (zI (k))), (1, .int (zI (per σ))), (0, .ref (b 0))]) S dX4_isSoundNow_139 hl (by decide) rfl (fun ls hl => ?_)
                      refine z_iconst S dX4_isSoundNow_141 ?_
                      refine z_istore (lv' := [(5, .int (zI (0))), (4, .int (bstI (fun o => twnM σ (k) o) 16)), (3, .int (zI (ch))), (2, .int (zI (k))), (1, .int (zI (per σ))), (0, .ref (b 0))]) S dX4_isSoundNow_142 hl (by decide) rfl (fun ls hl => ?_)
                      have loop_144 : ∀ (nn : Nat) (n : Int), (0 ≤ n ∧ n ≤ 16) → (∀ t : Int, 0 ≤ t → t < n → snT σ k t = true) → ((16 - n).toNat) < nn → ∀ ls, lv_has ls 6 [(5, .int (zI (n))), (4, .int (bstI (fun o => twnM σ (k) o) 16)), (3, .int (zI (ch))), (2, .int (zI (k))), (1, .int (zI (per σ))), (0, .ref (b 0))] → W p l env (rmM 9 200 17 68) s m ([.ref (b 0)] : List Value).toArray below meth cod H_3 L_3 ((1 + k.toNat) + 1) ((4 + 4 * k.toNat) + 4) Q (F0 m 144 ls []) := by
                        intro nn
                        induction nn with
                        | zero => intro _ _ _ h; exact absurd h (Nat.not_lt_zero _)
                        | succ nn ih_144 =>
                          intro n hn hJ hm_144 ls hl
                          refine z_iload S dX4_isSoundNow_144 hl 0 rfl ?_
                          refine z_bipush S dX4_isSoundNow_146 rfl ?_
                          refine z_icmp_ge S 192 dX4_isSoundNow_148 (by decide) (by omega) (by omega) (fun c_148 => ?_) (fun c_148 => ?_)
                          · skip
                            refine z_iinc (lv' := [(2, .int (zI (k + 1))), (5, .int (zI (n))), (4, .int (bstI (fun o => twnM σ (k) o) 16)), (3, .int (zI (ch))), (1, .int (zI (per σ))), (0, .ref (b 0))]) S dX4_isSoundNow_192 hl 3 rfl (by decide) rfl (fun ls hl => ?_)
                            refine z_goto S 7 dX4_isSoundNow_195 (by decide) ?_
                            exact W.widen (by omega) (by omega) (ih_7 (k + 1) (H_3) (L_3) (hS) (hP) (by omega) (by omega) (lt_stp hI0 (by unfold snB; rw [hs3, allI_iff.mpr (fun t h0 h1 => hJ t h0 (by omega))]; rfl)) (by omega) ls (lv_sub hl [0, 4, 5] rfl))
                          · skip
                            refine z_iload S dX4_isSoundNow_151 hl 1 rfl ?_
                            refine z_iload S dX4_isSoundNow_153 hl 0 rfl ?_
                            refine lv_ishr S.1 S.2.1 dX4_isSoundNow_155 ?_
                            refine z_iconst S dX4_isSoundNow_156 ?_
                            refine lv_iand S.1 S.2.1 dX4_isSoundNow_157 ?_
                            refine z_iconst S dX4_isSoundNow_158 ?_
                            refine lv_icmp_ne (tgt := 186) S.1 S.2.1 dX4_isSoundNow_159 (by decide) (fun c_159 => ?_) (fun c_159 => ?_)
                            · skip
                              refine z_iinc (lv' := [(5, .int (zI (n + 1))), (4, .int (bstI (fun o => twnM σ (k) o) 16)), (3, .int (zI (ch))), (2, .int (zI (k))), (1, .int (zI (per σ))), (0, .ref (b 0))]) S dX4_isSoundNow_186 hl 0 rfl (by decide) rfl (fun ls hl => ?_)
                              refine z_goto S 144 dX4_isSoundNow_189 (by decide) ?_
                              exact ih_144 (n + 1) (by omega) (lt_stp hJ (by unfold snT; rw [decide_eq_false c_159]; rfl)) (by omega) ls (lv_sub hl [0, 1, 2, 3, 4, 5] rfl)
                            · skip
                              refine z_aload_n S dX4_isSoundNow_162 hl 5 rfl rfl ?_
                              refine z_iload S dX4_isSoundNow_163 hl 0 rfl ?_
                              refine z_aload_n S dX4_isSoundNow_165 hl 5 rfl rfl ?_
                              refine z_get S hG hP.1 zc_X4 1 (by decide) q4_227 rfl rfl dX4_isSoundNow_166 ?_
                              refine z_callVs S hG (c_X4_show l G σ b th m1 m2 (n) (σ.tk) (by omega) (by omega)) ok_X4_show hP.1 zc_X4 rfl q5_159 (hP) ⟨rfl, rfl, by decide, by decide⟩ ⟨(by show _ ≤ (17 : Nat); omega), (by show _ ≤ (68 : Nat); omega)⟩ rfl (Nat.le_of_ble_eq_true rfl) hl.1 rfl dX4_isSoundNow_169 ?_
                              refine z_aload_n S dX4_isSoundNow_172 hl 5 rfl rfl ?_
                              refine z_iload_n S dX4_isSoundNow_173 hl 3 rfl rfl ?_
                              refine z_aload_n S dX4_isSoundNow_174 hl 5 rfl rfl ?_
                              refine z_get S hG hP.1 zc_X4 1 (by decide) q4_227 rfl rfl dX4_isSoundNow_175 ?_
                              refine z_callVs S hG (c_X4_show l G σ b th m1 m2 (k) (σ.tk) (by omega) (by omega)) ok_X4_show hP.1 zc_X4 rfl q5_159 (hP) ⟨rfl, rfl, by decide, by decide⟩ ⟨(by show _ ≤ (17 : Nat); omega), (by show _ ≤ (68 : Nat); omega)⟩ rfl (Nat.le_of_ble_eq_true rfl) hl.1 rfl dX4_isSoundNow_178 ?_
                              refine lv_icmp_eq (tgt := 186) S.1 S.2.1 dX4_isSoundNow_181 (by decide) (fun c_181 => ?_) (fun c_181 => ?_)
                              · skip
                                refine z_iinc (lv' := [(5, .int (zI (n + 1))), (4, .int (bstI (fun o => twnM σ (k) o) 16)), (3, .int (zI (ch))), (2, .int (zI (k))), (1, .int (zI (per σ))), (0, .ref (b 0))]) S dX4_isSoundNow_186 hl 0 rfl (by decide) rfl (fun ls hl => ?_)
                                refine z_goto S 144 dX4_isSoundNow_189 (by decide) ?_
                                exact ih_144 (n + 1) (by omega) (lt_stp hJ (by unfold snT; rw [decide_eq_true c_181]; simp)) (by omega) ls (lv_sub hl [0, 1, 2, 3, 4, 5] rfl)
                              · skip
                                refine z_iconst S dX4_isSoundNow_184 ?_
                                exact ret _ _ _ _ _ _ _ dX4_isSoundNow_185 (by rw [so_no hk.1 (by omega) (by unfold snB; rw [hs3, allI_no hn.1 (show n < 16 by omega) (by unfold snT; rw [decide_eq_true (by simpa using c_159), decide_eq_false c_181]; rfl)]; rfl)]; rfl) hS (trivial) (by omega) (by omega)
                      exact loop_144 _ (0) (by omega) (lt_st0) (Nat.lt_succ_self _) ls (lv_sub hl [0, 1, 2, 3, 4, 5] rfl)
                    · skip
                      have hs9 : snB σ k = false := by unfold snB; rw [c_111, decide_eq_false c_129]; simp
                      refine z_iconst S dX4_isSoundNow_132 ?_
                      exact ret _ _ _ _ _ _ _ dX4_isSoundNow_133 (by rw [so_no hk.1 (by omega) hs9]; rfl) hS (trivial) (by omega) (by omega)
            · skip
              have hcr : cur < σ.rn := by have : ¬ cur = σ.rn := of_decide_eq_true c_31; omega
              have hok := hO.2 cur hc.1 hcr
              refine z_aload S dX4_isSoundNow_34 hl 0 rfl ?_
              refine z_callF S hG hS (c_itNext l G n1 (b 3) (b 5) m1 σ.rn (cur) (lr) (elR σ b) (b (8 + Int.toNat (cur))) (if_pos (by omega)) (by omega) (by have := ltb 3 (mL_s (by decide)); omega) (by have := ltb 5 (mL_5 (by omega)); omega)) (fun y h => by have h2 : y = n1 := h; show sz ≤ y; omega) hG.2.2.2.1 ok_Jx35411_next_0502b q6_68 q6_66 ⟨by decide, by decide, by decide +kernel⟩ hI zc_Jx35411 q6_63 (⟨hI, hP.2.2.2.1, hP.2.2.2.2.2.1 (by omega)⟩) ⟨rfl, rfl, by decide, by decide⟩ ⟨(by show _ ≤ (17 : Nat); omega), (by show _ ≤ (68 : Nat); omega)⟩ rfl (Nat.le_of_ble_eq_true rfl) hl.1 rfl dX4_isSoundNow_36 (fun H_4 L_4 hB hz oq hS => ?_)
              have hP := hMod_keep hP (fun i hi => oq _ (hMod_lt hP hi) (by have := ltb i hi; show ¬ (_ = n1); omega))
              have hI := hB
              refine z_castI S hG (hP.2.2.2.2.2.2.2.1 (cur) (by omega) (by omega)) q5_64 dX4_isSoundNow_41 ?_
              refine z_astore (lv' := [(5, .ref (b (8 + Int.toNat (cur)))), (4, .ref (n1)), (3, .int (zI (ch))), (2, .int (zI (k))), (1, .int (zI (per σ))), (0, .ref (b 0))]) S dX4_isSoundNow_44 hl (by decide) rfl (fun ls hl => ?_)
              refine z_iload_n S dX4_isSoundNow_46 hl 2 rfl rfl ?_
              refine z_iload_n S dX4_isSoundNow_47 hl 3 rfl rfl ?_
              refine z_aload S dX4_isSoundNow_48 hl 0 rfl ?_
              refine z_iconst S dX4_isSoundNow_50 ?_
              refine z_ialdB S hG (hP.2.2.2.2.2.2.2.1 (cur) (by omega) (by omega)) (by omega) (by decide) dX4_isSoundNow_51 ?_
              rw [show r4 (σ.F (cur)) (σ.L (cur)) (σ.S (cur)) (σ.K (cur)) (0) = (σ.F (cur)) from rfl]
              refine z_icmp_lt S 72 dX4_isSoundNow_52 (by decide) (by omega) (by omega) (fun c_52 => ?_) (fun c_52 => ?_)
              · skip
                refine z_iconst S dX4_isSoundNow_72 ?_
                refine z_iadd S dX4_isSoundNow_73 ?_
                refine z_istore_n (lv' := [(3, .int (zI ((ch) + (0)))), (5, .ref (b (8 + Int.toNat (cur)))), (4, .ref (n1)), (2, .int (zI (k))), (1, .int (zI (per σ))), (0, .ref (b 0))]) S dX4_isSoundNow_74 hl rfl (by decide) rfl (fun ls hl => ?_)
                refine z_goto S 24 dX4_isSoundNow_75 (by decide) ?_
                exact ih_24 (cur + 1) (cur) ((ch) + (0)) (H_4) (L_4) (hS) (hP) (by omega) (hI) (by omega) (by rw [cntI_f (f := fun j => rgIn σ j k) hc.1 (by cases hg : rgIn σ cur k; rfl; have := rgIn_iff.mp hg; omega), ← hch]; omega) (by omega) ls (lv_sub hl [2, 0, 3, 4, 5] rfl)
              · skip
                refine z_iload_n S dX4_isSoundNow_55 hl 3 rfl rfl ?_
                refine z_aload S dX4_isSoundNow_56 hl 0 rfl ?_
                refine z_iconst S dX4_isSoundNow_58 ?_
                refine z_ialdB S hG (hP.2.2.2.2.2.2.2.1 (cur) (by omega) (by omega)) (by omega) (by decide) dX4_isSoundNow_59 ?_
                rw [show r4 (σ.F (cur)) (σ.L (cur)) (σ.S (cur)) (σ.K (cur)) (0) = (σ.F (cur)) from rfl]
                refine z_aload S dX4_isSoundNow_60 hl 0 rfl ?_
                refine z_iconst S dX4_isSoundNow_62 ?_
                refine z_ialdB S hG (hP.2.2.2.2.2.2.2.1 (cur) (by omega) (by omega)) (by omega) (by decide) dX4_isSoundNow_63 ?_
                rw [show r4 (σ.F (cur)) (σ.L (cur)) (σ.S (cur)) (σ.K (cur)) (1) = (σ.L (cur)) from rfl]
                refine z_iadd S dX4_isSoundNow_64 ?_
                refine z_icmp_ge S 72 dX4_isSoundNow_65 (by decide) (by omega) (by omega) (fun c_65 => ?_) (fun c_65 => ?_)
                · skip
                  refine z_iconst S dX4_isSoundNow_72 ?_
                  refine z_iadd S dX4_isSoundNow_73 ?_
                  refine z_istore_n (lv' := [(3, .int (zI ((ch) + (0)))), (5, .ref (b (8 + Int.toNat (cur)))), (4, .ref (n1)), (2, .int (zI (k))), (1, .int (zI (per σ))), (0, .ref (b 0))]) S dX4_isSoundNow_74 hl rfl (by decide) rfl (fun ls hl => ?_)
                  refine z_goto S 24 dX4_isSoundNow_75 (by decide) ?_
                  exact ih_24 (cur + 1) (cur) ((ch) + (0)) (H_4) (L_4) (hS) (hP) (by omega) (hI) (by omega) (by rw [cntI_f (f := fun j => rgIn σ j k) hc.1 (by cases hg : rgIn σ cur k; rfl; have := rgIn_iff.mp hg; omega), ← hch]; omega) (by omega) ls (lv_sub hl [2, 0, 3, 4, 5] rfl)
                · skip
                  refine z_iconst S dX4_isSoundNow_68 ?_
                  refine z_goto S 73 dX4_isSoundNow_69 (by decide) ?_
                  refine z_iadd S dX4_isSoundNow_73 ?_
                  refine z_istore_n (lv' := [(3, .int (zI ((ch) + (1)))), (5, .ref (b (8 + Int.toNat (cur)))), (4, .ref (n1)), (2, .int (zI (k))), (1, .int (zI (per σ))), (0, .ref (b 0))]) S dX4_isSoundNow_74 hl rfl (by decide) rfl (fun ls hl => ?_)
                  refine z_goto S 24 dX4_isSoundNow_75 (by decide) ?_
                  exact ih_24 (cur + 1) (cur) ((ch) + (1)) (H_4) (L_4) (hS) (hP) (by omega) (hI) (by omega) (by rw [cntI_t (f := fun j => rgIn σ j k) hc.1 (rgIn_iff.mpr ⟨hcr, by omega, by omega⟩), ← hch]) (by omega) ls (lv_sub hl [2, 0, 3, 4, 5] rfl)
        exact loop_24 _ (0) ((-1)) (0) (H_2) (L_2) (hS) (hP) (by omega) (hI) (by omega) (rfl) (Nat.lt_succ_self _) ls (lv_sub hl [0, 1, 2, 3, 4] rfl)
  exact W.widen (by omega) (by omega) (loop_7 _ (0) (H_1) (L_1) (hS) (hP) (by omega) (by omega) (lt_st0) (Nat.lt_succ_self _) ls (lv_sub hl [0, 1, 2] rfl))
theorem dX4_period_0 : decode cX4_period 0 = .ok (.aload_n 0, 1) := by decide +kernel
theorem dX4_period_1 : decode cX4_period 1 = .ok (.iconst 0, 1) := by decide +kernel
theorem dX4_period_2 : decode cX4_period 2 = .ok (.putfield 30, 3) := by decide +kernel
theorem dX4_period_5 : decode cX4_period 5 = .ok (.aload_n 0, 1) := by decide +kernel
theorem dX4_period_6 : decode cX4_period 6 = .ok (.invokevirtual 186, 3) := by decide +kernel
theorem dX4_period_9 : decode cX4_period 9 = .ok (.ireturn, 1) := by decide +kernel
theorem q6_24 : (Jvm.Cond.code ({ cls := "CyclepaintModel", name := "period", desc := "()I" } : Jvm.MethodName) prog_6_method_49_code (1 : Nat) (Option.some Jvm.ClassFile.FieldType.int)) ∈ lw_g := zg_of (zin6 (List.mem_of_getElem? (i := 24) rfl)) rfl
theorem q6_22 : (Jvm.Cond.instanceMethod ({ cls := "CyclepaintModel", name := "period", desc := "()I" } : Jvm.MethodName)) ∈ lw_g := zg_of (zin6 (List.mem_of_getElem? (i := 22) rfl)) rfl
theorem q6_23 : (Jvm.Cond.selects "CyclepaintModel" ({ cls := "CyclepaintModel", name := "period", desc := "()I" } : Jvm.MethodName) ({ cls := "CyclepaintModel", name := "period", desc := "()I" } : Jvm.MethodName)) ∈ lw_g := zg_of (zin6 (List.mem_of_getElem? (i := 23) rfl)) rfl
theorem ok_X4_period : zOV yX4_period cX4_period 1 ((Option.some Jvm.ClassFile.FieldType.int)) 0 := ⟨⟨q6_24, q1_3, by decide, by decide, by decide +kernel⟩, q6_22, q6_23⟩
set_option maxHeartbeats 4000000 in
set_option maxRecDepth 100000 in
theorem c_X4_period (l : Launch) (G : zG) (σ : St) (b : Nat → Nat) (th m1 m2 : Int32) (sz : Nat) (hd : inj b (mL σ)) (hD : okD σ) : Met l yX4_period (wq yX4_period cX4_period 1 ((Option.some Jvm.ClassFile.FieldType.int))) (rmM 4 84 1 4) (va_Pc [.ref (b 0)] (zK G (fun H => hMod G σ b th m1 m2 H ∧ H.size = sz))) (zM (fun y => mA σ b y ∨ sz ≤ y) (some (.int ((zI (per σ))))) (fun H => hMod G σ b (zI 0) m1 m2 H)) 1 4 (fun y => mA σ b y ∨ sz ≤ y) := by
  refine z_enterMI (by decide +kernel) (Nat.le_of_ble_eq_true rfl) ?_
  intro p env s m below meth cod Q S hG hP hS ret ls hl
  have hl : lv_has ls 1 [(0, .ref (b 0))] := hl
  have hz0 := hP.2
  have hP := hP.1
  have hO := hP.2.2.2.2.2.2.2.2.2
  have hrn := hO.1
  refine z_aload_n S dX4_period_0 hl 0 rfl rfl ?_
  refine z_iconst S dX4_period_1 ?_
  refine z_put S hG hP.1 zc_X4 _ (zty_X4) (znm_X4) hS (Or.inl ⟨0, mL_s (by decide), rfl⟩) 0 (by decide) q4_226 rfl rfl rfl rfl rfl (Nat.le_of_ble_eq_true rfl) dX4_period_2 (fun H_1 L_1 hat hz oq hS => ?_)
  have hP : hMod G (σ) b (zI (0)) m1 m2 H_1 := hMod_o hP hd (by exact hrn.2) (zI (0)) (σ.tk) (σ.lim) (σ.rf) hat oq
  refine z_aload_n S dX4_period_5 hl 0 rfl rfl ?_
  obtain ⟨z1, hz1⟩ : ∃ x : Nat, x = H_1.size := ⟨_, rfl⟩
  refine z_callM S hG hS (c_X4_periodNow l G σ b (zI 0) m1 m2 z1 hD) (fun y h => Or.inr (by have h2 : z1 ≤ y := h; omega)) ok_X4_periodNow hP.1 zc_X4 rfl q6_25 (⟨hP, hz1.symm⟩) ⟨rfl, rfl, by decide, by decide⟩ ⟨Nat.le_of_ble_eq_true rfl, Nat.le_of_ble_eq_true rfl⟩ rfl (Nat.le_of_ble_eq_true rfl) hl.1 rfl dX4_period_6 (fun H_2 L_2 hB hz oq hS => ?_)
  have hP := hMod_keep hP (fun i hi => oq _ (hMod_lt hP hi) (by have := hMod_lt hP hi; show ¬ (z1 ≤ _); omega))
  exact ret _ _ _ _ _ _ _ dX4_period_9 (rfl) hS (hP) (Nat.le_of_ble_eq_true rfl) (Nat.le_of_ble_eq_true rfl)
theorem dX4_isSound_0 : decode cX4_isSound 0 = .ok (.aload_n 0, 1) := by decide +kernel
theorem dX4_isSound_1 : decode cX4_isSound 1 = .ok (.iconst 0, 1) := by decide +kernel
theorem dX4_isSound_2 : decode cX4_isSound 2 = .ok (.putfield 30, 3) := by decide +kernel
theorem dX4_isSound_5 : decode cX4_isSound 5 = .ok (.aload_n 0, 1) := by decide +kernel
theorem dX4_isSound_6 : decode cX4_isSound 6 = .ok (.invokevirtual 221, 3) := by decide +kernel
theorem dX4_isSound_9 : decode cX4_isSound 9 = .ok (.ireturn, 1) := by decide +kernel
theorem q6_130 : (Jvm.Cond.methodLink "CyclepaintModel" (221 : Nat) ({ cls := "CyclepaintModel", name := "isSoundNow", desc := "()Z" } : Jvm.MethodName)) ∈ lw_g := zg_of (zin6 (List.mem_of_getElem? (i := 130) rfl)) rfl
theorem q6_129 : (Jvm.Cond.code ({ cls := "CyclepaintModel", name := "isSound", desc := "()Z" } : Jvm.MethodName) prog_6_method_62_code (1 : Nat) (Option.some Jvm.ClassFile.FieldType.boolean)) ∈ lw_g := zg_of (zin6 (List.mem_of_getElem? (i := 129) rfl)) rfl
theorem q6_127 : (Jvm.Cond.instanceMethod ({ cls := "CyclepaintModel", name := "isSound", desc := "()Z" } : Jvm.MethodName)) ∈ lw_g := zg_of (zin6 (List.mem_of_getElem? (i := 127) rfl)) rfl
theorem q6_128 : (Jvm.Cond.selects "CyclepaintModel" ({ cls := "CyclepaintModel", name := "isSound", desc := "()Z" } : Jvm.MethodName) ({ cls := "CyclepaintModel", name := "isSound", desc := "()Z" } : Jvm.MethodName)) ∈ lw_g := zg_of (zin6 (List.mem_of_getElem? (i := 128) rfl)) rfl
theorem ok_X4_isSound : zOV yX4_isSound cX4_isSound 1 ((Option.some Jvm.ClassFile.FieldType.boolean)) 0 := ⟨⟨q6_129, q1_3, by decide, by decide, by decide +kernel⟩, q6_127, q6_128⟩
set_option maxHeartbeats 4000000 in
set_option maxRecDepth 100000 in
theorem c_X4_isSound (l : Launch) (G : zG) (σ : St) (b : Nat → Nat) (th m1 m2 : Int32) (sz : Nat) (hd : inj b (mL σ)) (hD : okD σ) (hT : 0 ≤ σ.tk ∧ σ.tk ≤ 99999) : Met l yX4_isSound (wq yX4_isSound cX4_isSound 1 ((Option.some Jvm.ClassFile.FieldType.boolean))) (rmM 10 225 17 68) (va_Pc [.ref (b 0)] (zK G (fun H => hMod G σ b th m1 m2 H ∧ H.size = sz))) (zM (fun y => mA σ b y ∨ sz ≤ y) (some (.int (bI (soM σ)))) (fun H => hMod G σ b (zI 0) m1 m2 H)) 17 68 (fun y => mA σ b y ∨ sz ≤ y) := by
  refine z_enterMB (by decide +kernel) (Nat.le_of_ble_eq_true rfl) ?_
  intro p env s m below meth cod Q S hG hP hS ret ls hl
  have hl : lv_has ls 1 [(0, .ref (b 0))] := hl
  have hz0 := hP.2
  have hP := hP.1
  have hO := hP.2.2.2.2.2.2.2.2.2
  have hrn := hO.1
  refine z_aload_n S dX4_isSound_0 hl 0 rfl rfl ?_
  refine z_iconst S dX4_isSound_1 ?_
  refine z_put S hG hP.1 zc_X4 _ (zty_X4) (znm_X4) hS (Or.inl ⟨0, mL_s (by decide), rfl⟩) 0 (by decide) q4_226 rfl rfl rfl rfl rfl (Nat.le_of_ble_eq_true rfl) dX4_isSound_2 (fun H_1 L_1 hat hz oq hS => ?_)
  have hP : hMod G (σ) b (zI (0)) m1 m2 H_1 := hMod_o hP hd (by exact hrn.2) (zI (0)) (σ.tk) (σ.lim) (σ.rf) hat oq
  refine z_aload_n S dX4_isSound_5 hl 0 rfl rfl ?_
  obtain ⟨z1, hz1⟩ : ∃ x : Nat, x = H_1.size := ⟨_, rfl⟩
  refine z_callM S hG hS (c_X4_isSoundNow l G σ b (zI 0) m1 m2 z1 hD hT) (fun y h => Or.inr (by have h2 : z1 ≤ y := h; omega)) ok_X4_isSoundNow hP.1 zc_X4 rfl q6_130 (⟨hP, hz1.symm⟩) ⟨rfl, rfl, by decide, by decide⟩ ⟨Nat.le_of_ble_eq_true rfl, Nat.le_of_ble_eq_true rfl⟩ rfl (Nat.le_of_ble_eq_true rfl) hl.1 rfl dX4_isSound_6 (fun H_2 L_2 hB hz oq hS => ?_)
  have hP := hMod_keep hP (fun i hi => oq _ (hMod_lt hP hi) (by have := hMod_lt hP hi; show ¬ (z1 ≤ _); omega))
  exact ret _ _ _ _ _ _ _ dX4_isSound_9 (rfl) hS (hP) (Nat.le_of_ble_eq_true rfl) (Nat.le_of_ble_eq_true rfl)
theorem dX4_ofRange_0 : decode cX4_ofRange 0 = .ok (.aload_n 0, 1) := by decide +kernel
theorem dX4_ofRange_1 : decode cX4_ofRange 1 = .ok (.aload_n 0, 1) := by decide +kernel
theorem dX4_ofRange_2 : decode cX4_ofRange 2 = .ok (.iload_n 1, 1) := by decide +kernel
theorem dX4_ofRange_3 : decode cX4_ofRange 3 = .ok (.invokevirtual 134, 3) := by decide +kernel
theorem dX4_ofRange_6 : decode cX4_ofRange 6 = .ok (.iconst 1, 1) := by decide +kernel
theorem dX4_ofRange_7 : decode cX4_ofRange 7 = .ok (.invokevirtual 121, 3) := by decide +kernel
theorem dX4_ofRange_10 : decode cX4_ofRange 10 = .ok (.ifCond .ne 25, 3) := by decide +kernel
theorem dX4_ofRange_13 : decode cX4_ofRange 13 = .ok (.aload_n 0, 1) := by decide +kernel
theorem dX4_ofRange_14 : decode cX4_ofRange 14 = .ok (.iload_n 2, 1) := by decide +kernel
theorem dX4_ofRange_15 : decode cX4_ofRange 15 = .ok (.iconst 0, 1) := by decide +kernel
theorem dX4_ofRange_16 : decode cX4_ofRange 16 = .ok (.iconst 5, 1) := by decide +kernel
theorem dX4_ofRange_17 : decode cX4_ofRange 17 = .ok (.invokestatic 37, 3) := by decide +kernel
theorem dX4_ofRange_20 : decode cX4_ofRange 20 = .ok (.ifCond .ne 7, 3) := by decide +kernel
theorem dX4_ofRange_23 : decode cX4_ofRange 23 = .ok (.iconst 1, 1) := by decide +kernel
theorem dX4_ofRange_24 : decode cX4_ofRange 24 = .ok (.goto 4, 3) := by decide +kernel
theorem dX4_ofRange_27 : decode cX4_ofRange 27 = .ok (.iconst 0, 1) := by decide +kernel
theorem dX4_ofRange_28 : decode cX4_ofRange 28 = .ok (.iconst 2, 1) := by decide +kernel
theorem dX4_ofRange_29 : decode cX4_ofRange 29 = .ok (.invokevirtual 33, 3) := by decide +kernel
theorem dX4_ofRange_32 : decode cX4_ofRange 32 = .ok (.ifCond .eq 7, 3) := by decide +kernel
theorem dX4_ofRange_35 : decode cX4_ofRange 35 = .ok (.iconst 0, 1) := by decide +kernel
theorem dX4_ofRange_36 : decode cX4_ofRange 36 = .ok (.goto 9, 3) := by decide +kernel
theorem dX4_ofRange_39 : decode cX4_ofRange 39 = .ok (.aload_n 0, 1) := by decide +kernel
theorem dX4_ofRange_40 : decode cX4_ofRange 40 = .ok (.iload_n 1, 1) := by decide +kernel
theorem dX4_ofRange_41 : decode cX4_ofRange 41 = .ok (.iload_n 2, 1) := by decide +kernel
theorem dX4_ofRange_42 : decode cX4_ofRange 42 = .ok (.invokevirtual 158, 3) := by decide +kernel
theorem dX4_ofRange_45 : decode cX4_ofRange 45 = .ok (.ireturn, 1) := by decide +kernel
theorem q5_226 : (Jvm.Cond.methodLink "CyclepaintModel" (158 : Nat) ({ cls := "CyclepaintModel", name := "ofRangeNow", desc := "(II)I" } : Jvm.MethodName)) ∈ lw_g := zg_of (zin5 (List.mem_of_getElem? (i := 226) rfl)) rfl
theorem q5_225 : (Jvm.Cond.code ({ cls := "CyclepaintModel", name := "ofRange", desc := "(II)I" } : Jvm.MethodName) prog_6_method_44_code (3 : Nat) (Option.some Jvm.ClassFile.FieldType.int)) ∈ lw_g := zg_of (zin5 (List.mem_of_getElem? (i := 225) rfl)) rfl
theorem q5_223 : (Jvm.Cond.instanceMethod ({ cls := "CyclepaintModel", name := "ofRange", desc := "(II)I" } : Jvm.MethodName)) ∈ lw_g := zg_of (zin5 (List.mem_of_getElem? (i := 223) rfl)) rfl
theorem q5_224 : (Jvm.Cond.selects "CyclepaintModel" ({ cls := "CyclepaintModel", name := "ofRange", desc := "(II)I" } : Jvm.MethodName) ({ cls := "CyclepaintModel", name := "ofRange", desc := "(II)I" } : Jvm.MethodName)) ∈ lw_g := zg_of (zin5 (List.mem_of_getElem? (i := 224) rfl)) rfl
theorem ok_X4_ofRange : zOV yX4_ofRange cX4_ofRange 3 ((Option.some Jvm.ClassFile.FieldType.int)) 2 := ⟨⟨q5_225, q1_3, by decide, by decide, by decide +kernel⟩, q5_223, q5_224⟩
set_option maxHeartbeats 4000000 in
set_option maxRecDepth 100000 in
theorem c_X4_ofRange (l : Launch) (G : zG) (σ : St) (b : Nat → Nat) (th m1 m2 : Int32) (sz : Nat) (hd : inj b (mL σ)) (j x : Int) (hj : rg j) (hx : rg x) (hT : 0 ≤ σ.tk ∧ σ.tk ≤ 99999) (t : Int) (ht : t = ec (!(decide (0 ≤ j) && decide (j ≤ σ.rn - 1))) (!(decide (0 ≤ x) && decide (x ≤ 5)))) : Met l yX4_ofRange (wq yX4_ofRange cX4_ofRange 3 ((Option.some Jvm.ClassFile.FieldType.int))) (rmM 4 88 1 6) (va_Pc [.ref (b 0), .int (zI (j)), .int (zI (x))] (zK G (fun H => hMod G σ b th m1 m2 H ∧ H.size = sz))) (zM (fun y => mA σ b y ∨ sz ≤ y) (some (.int ((if t = 0 then rF σ j x else zI 0)))) (fun H => hMod G σ b (zI t) m1 m2 H)) 1 6 (fun y => mA σ b y ∨ sz ≤ y) := by
  refine z_enterMI (by decide +kernel) (Nat.le_of_ble_eq_true rfl) ?_
  intro p env s m below meth cod Q S hG hP hS ret ls hl
  have hl : lv_has ls 3 [(0, .ref (b 0)), (1, .int (zI (j))), (2, .int (zI (x)))] := hl
  have hz0 := hP.2
  have hP := hP.1
  have hO := hP.2.2.2.2.2.2.2.2.2
  have hrn := hO.1
  refine z_aload_n S dX4_ofRange_0 hl 0 rfl rfl ?_
  refine z_aload_n S dX4_ofRange_1 hl 0 rfl rfl ?_
  refine z_iload_n S dX4_ofRange_2 hl 1 rfl rfl ?_
  refine z_callVs S hG (c_X4_isNoRange l G σ b th m1 m2 (j) (by omega)) ok_X4_isNoRange hP.1 zc_X4 rfl q5_113 (hP) ⟨rfl, rfl, by decide, by decide⟩ ⟨Nat.zero_le _, Nat.zero_le _⟩ rfl (Nat.le_of_ble_eq_true rfl) hl.1 rfl dX4_ofRange_3 ?_
  refine z_iconst S dX4_ofRange_6 ?_
  cases hb_7 : (!(decide (0 ≤ j) && decide (j ≤ σ.rn - 1)))
  · skip
    refine z_callM S hG hS (c_X4_start l G (σ) b th m1 m2 false (1) (by omega) hd (by exact hrn)) (fun _ h => Or.inl h) ok_X4_start hP.1 zc_X4 rfl q5_21 (hP) ⟨rfl, rfl, by decide, by decide⟩ ⟨Nat.le_of_ble_eq_true rfl, Nat.le_of_ble_eq_true rfl⟩ rfl (Nat.le_of_ble_eq_true rfl) hl.1 rfl dX4_ofRange_7 (fun H_1 L_1 hB hz oq hS => ?_)
    have hP : hMod G (σ) b (zI 0) m1 m2 H_1 := hB
    refine z_bif_ne S 35 dX4_ofRange_10 (by decide) (fun qz => ?_) (fun qz => ?_)
    · exact absurd qz (by decide)
    refine z_aload_n S dX4_ofRange_13 hl 0 rfl rfl ?_
    refine z_iload_n S dX4_ofRange_14 hl 2 rfl rfl ?_
    refine z_iconst S dX4_ofRange_15 ?_
    refine z_iconst S dX4_ofRange_16 ?_
    refine z_callSs S hG (c_X4_isIn l G (x) (0) (5) (by omega)) ok_X4_isIn q5_18 (trivial) ⟨rfl, rfl, by decide, by decide⟩ ⟨Nat.zero_le _, Nat.zero_le _⟩ rfl (Nat.le_of_ble_eq_true rfl) hl.1 rfl dX4_ofRange_17 ?_
    refine z_bif_ne S 27 dX4_ofRange_20 (by decide) (fun c_20 => ?_) (fun c_20 => ?_)
    · skip
      refine z_iconst S dX4_ofRange_27 ?_
      refine z_iconst S dX4_ofRange_28 ?_
      refine z_callM S hG hS (c_X4_refuse l G (σ) b m1 m2 false (2) (by omega) hd (by exact hrn)) (fun _ h => Or.inl h) ok_X4_refuse hP.1 zc_X4 rfl q5_25 (hP) ⟨rfl, rfl, by decide, by decide⟩ ⟨Nat.le_of_ble_eq_true rfl, Nat.le_of_ble_eq_true rfl⟩ rfl (Nat.le_of_ble_eq_true rfl) hl.1 rfl dX4_ofRange_29 (fun H_2 L_2 hB hz oq hS => ?_)
      have hP : hMod G (σ) b (zI 0) m1 m2 H_2 := hB
      refine z_bif_eq S 39 dX4_ofRange_32 (by decide) (fun qz => ?_) (fun qz => ?_)
      rotate_left
      · exact absurd qz (by decide)
      have hj2 := no_F hb_7
      have hw2 := in_T c_20
      refine z_aload_n S dX4_ofRange_39 hl 0 rfl rfl ?_
      refine z_iload_n S dX4_ofRange_40 hl 1 rfl rfl ?_
      refine z_iload_n S dX4_ofRange_41 hl 2 rfl rfl ?_
      obtain ⟨z1, hz1⟩ : ∃ x : Nat, x = H_2.size := ⟨_, rfl⟩
      refine z_callM S hG hS (c_X4_ofRangeNow l G σ b (zI 0) m1 m2 z1 (j) (x) (by omega) (by omega) hT) (fun y h => Or.inr (by have h2 : z1 ≤ y := h; omega)) ok_X4_ofRangeNow hP.1 zc_X4 rfl q5_226 (⟨hP, hz1.symm⟩) ⟨rfl, rfl, by decide, by decide⟩ ⟨Nat.le_of_ble_eq_true rfl, Nat.le_of_ble_eq_true rfl⟩ rfl (Nat.le_of_ble_eq_true rfl) hl.1 rfl dX4_ofRange_42 (fun H_3 L_3 hB hz oq hS => ?_)
      have hP := hMod_keep hP (fun i hi => oq _ (hMod_lt hP hi) (by have := hMod_lt hP hi; show ¬ (z1 ≤ _); omega))
      exact ret _ _ _ _ _ _ _ dX4_ofRange_45 (by rw [ht, ec_0 hb_7 (by rw [c_20] <;> rfl)] <;> rfl) hS (by rw [ht, ec_0 hb_7 (by rw [c_20] <;> rfl)]; exact hP) (Nat.le_of_ble_eq_true rfl) (Nat.le_of_ble_eq_true rfl)
    · skip
      refine z_iconst S dX4_ofRange_23 ?_
      refine z_goto S 28 dX4_ofRange_24 (by decide) ?_
      refine z_iconst S dX4_ofRange_28 ?_
      refine z_callM S hG hS (c_X4_refuse l G (σ) b m1 m2 true (2) (by omega) hd (by exact hrn)) (fun _ h => Or.inl h) ok_X4_refuse hP.1 zc_X4 rfl q5_25 (hP) ⟨rfl, rfl, by decide, by decide⟩ ⟨Nat.le_of_ble_eq_true rfl, Nat.le_of_ble_eq_true rfl⟩ rfl (Nat.le_of_ble_eq_true rfl) hl.1 rfl dX4_ofRange_29 (fun H_4 L_4 hB hz oq hS => ?_)
      have hP : hMod G (σ) b (zI 2) m1 m2 H_4 := hB
      refine z_bif_eq S 39 dX4_ofRange_32 (by decide) (fun qz => ?_) (fun qz => ?_)
      · exact absurd qz (by decide)
      refine z_iconst S dX4_ofRange_35 ?_
      refine z_goto S 45 dX4_ofRange_36 (by decide) ?_
      exact ret _ _ _ _ _ _ _ dX4_ofRange_45 (by rw [ht, ec_2 hb_7 (by rw [c_20] <;> rfl)] <;> rfl) hS (by rw [ht, ec_2 hb_7 (by rw [c_20] <;> rfl)]; exact hP) (Nat.le_of_ble_eq_true rfl) (Nat.le_of_ble_eq_true rfl)
  · skip
    refine z_callM S hG hS (c_X4_start l G (σ) b th m1 m2 true (1) (by omega) hd (by exact hrn)) (fun _ h => Or.inl h) ok_X4_start hP.1 zc_X4 rfl q5_21 (hP) ⟨rfl, rfl, by decide, by decide⟩ ⟨Nat.le_of_ble_eq_true rfl, Nat.le_of_ble_eq_true rfl⟩ rfl (Nat.le_of_ble_eq_true rfl) hl.1 rfl dX4_ofRange_7 (fun H_5 L_5 hB hz oq hS => ?_)
    have hP : hMod G (σ) b (zI 1) m1 m2 H_5 := hB
    refine z_bif_ne S 35 dX4_ofRange_10 (by decide) (fun qz => ?_) (fun qz => ?_)
    rotate_left
    · exact absurd qz (by decide)
    refine z_iconst S dX4_ofRange_35 ?_
    refine z_goto S 45 dX4_ofRange_36 (by decide) ?_
    exact ret _ _ _ _ _ _ _ dX4_ofRange_45 (by rw [ht, ec_1 hb_7] <;> rfl) hS (by rw [ht, ec_1 hb_7]; exact hP) (Nat.le_of_ble_eq_true rfl) (Nat.le_of_ble_eq_true rfl)
theorem z_enterMD {l : Launch} {y : MethodName} {cc : ByteArray} {maxL mc ms : Nat} {rm : Room} {G : zG} {P B : Heap → Prop} {A : Nat → Prop} {E : UInt64} {av : List Value} (hy : plainName y.cls = true) (hav : (lg_sl av).length ≤ maxL)
    (body : ∀ (p : Program) (e : Env) (s : State) (m : MethodId) (below : List Frame) (meth : Method) (c : Code) (Q : State → Prop), CallFix p m c cc maxL s av.toArray lw_g y.cls → zKn G s → P s.heap → va_S A s.heap s.heap [] →
      (∀ (pc : Nat) (ls : Array Slot) (x : UInt64) (H : Heap) (locs : List Loc) (k n : Nat), decode cc pc = .ok (.dreturn, 1) → x = E → va_S A s.heap H locs → B H → k ≤ mc → n ≤ ms → W p l e rm s m av.toArray below meth c H locs k n Q (F0 m pc ls [.double x])) → ∀ ls, lv_has ls maxL (lv_args 0 av) →
      W p l e rm s m av.toArray below meth c s.heap [] 0 0 Q (F0 m 0 ls [])) : Met l y (wq y cc maxL (some .double)) rm (va_Pc av (zK G P)) (zM A (some (.double E)) B) mc ms A :=
  z_enterM hy hav fun p e s m below meth c S hr hlk _ hG hP ls hl => body p e s m below meth c _ S hG hP va_S.rf (fun pc ls x H locs k n d hx hS hB hk hn => by
    subst hx
    exact W.widen hk hn (W.dret S.1 S.2.1 hr (fun t ht _ => ⟨rfl, by rw [ht]; exact hB, (hS.F ht).1, (hS.F ht).2⟩) hS.2.2 d hlk)) ls hl
theorem z_enterML {l : Launch} {y : MethodName} {cc : ByteArray} {maxL mc ms : Nat} {rm : Room} {G : zG} {P B : Heap → Prop} {A : Nat → Prop} {E : Int64} {av : List Value} (hy : plainName y.cls = true) (hav : (lg_sl av).length ≤ maxL)
    (body : ∀ (p : Program) (e : Env) (s : State) (m : MethodId) (below : List Frame) (meth : Method) (c : Code) (Q : State → Prop), CallFix p m c cc maxL s av.toArray lw_g y.cls → zKn G s → P s.heap → va_S A s.heap s.heap [] →
      (∀ (pc : Nat) (ls : Array Slot) (x : Int64) (H : Heap) (locs : List Loc) (k n : Nat), decode cc pc = .ok (.lreturn, 1) → x = E → va_S A s.heap H locs → B H → k ≤ mc → n ≤ ms → W p l e rm s m av.toArray below meth c H locs k n Q (F0 m pc ls [.long x])) → ∀ ls, lv_has ls maxL (lv_args 0 av) →
      W p l e rm s m av.toArray below meth c s.heap [] 0 0 Q (F0 m 0 ls [])) : Met l y (wq y cc maxL (some .long)) rm (va_Pc av (zK G P)) (zM A (some (.long E)) B) mc ms A :=
  z_enterM hy hav fun p e s m below meth c S hr hlk _ hG hP ls hl => body p e s m below meth c _ S hG hP va_S.rf (fun pc ls x H locs k n d hx hS hB hk hn => by
    subst hx
    exact W.widen hk hn (W.lret S.1 S.2.1 hr (fun t ht _ => ⟨rfl, by rw [ht]; exact hB, (hS.F ht).1, (hS.F ht).2⟩) hS.2.2 d hlk)) ls hl
def mnM (σ : St) : UInt64 := mnD (liM σ σ.tk)
theorem i2d_32 : FP.i2d (zI ((32 : Nat) : Int)) = 4629700416936869888 := by decide +kernel
theorem dX4_mean_0 : decode cX4_mean 0 = .ok (.aload_n 0, 1) := by decide +kernel
theorem dX4_mean_1 : decode cX4_mean 1 = .ok (.iconst 0, 1) := by decide +kernel
theorem dX4_mean_2 : decode cX4_mean 2 = .ok (.putfield 30, 3) := by decide +kernel
theorem dX4_mean_5 : decode cX4_mean 5 = .ok (.aload_n 0, 1) := by decide +kernel
theorem dX4_mean_6 : decode cX4_mean 6 = .ok (.aload_n 0, 1) := by decide +kernel
theorem dX4_mean_7 : decode cX4_mean 7 = .ok (.getfield 108, 3) := by decide +kernel
theorem dX4_mean_10 : decode cX4_mean 10 = .ok (.invokevirtual 174, 3) := by decide +kernel
theorem dX4_mean_13 : decode cX4_mean 13 = .ok (.i2d, 1) := by decide +kernel
theorem dX4_mean_14 : decode cX4_mean 14 = .ok (.aload_n 0, 1) := by decide +kernel
theorem dX4_mean_15 : decode cX4_mean 15 = .ok (.getfield 17, 3) := by decide +kernel
theorem dX4_mean_18 : decode cX4_mean 18 = .ok (.arraylength, 1) := by decide +kernel
theorem dX4_mean_19 : decode cX4_mean 19 = .ok (.i2d, 1) := by decide +kernel
theorem dX4_mean_20 : decode cX4_mean 20 = .ok (.ddiv, 1) := by decide +kernel
theorem dX4_mean_21 : decode cX4_mean 21 = .ok (.dreturn, 1) := by decide +kernel
theorem q6_89 : (Jvm.Cond.code ({ cls := "CyclepaintModel", name := "mean", desc := "()D" } : Jvm.MethodName) prog_6_method_51_code (1 : Nat) (Option.some Jvm.ClassFile.FieldType.double)) ∈ lw_g := zg_of (zin6 (List.mem_of_getElem? (i := 89) rfl)) rfl
theorem q6_87 : (Jvm.Cond.instanceMethod ({ cls := "CyclepaintModel", name := "mean", desc := "()D" } : Jvm.MethodName)) ∈ lw_g := zg_of (zin6 (List.mem_of_getElem? (i := 87) rfl)) rfl
theorem q6_88 : (Jvm.Cond.selects "CyclepaintModel" ({ cls := "CyclepaintModel", name := "mean", desc := "()D" } : Jvm.MethodName) ({ cls := "CyclepaintModel", name := "mean", desc := "()D" } : Jvm.MethodName)) ∈ lw_g := zg_of (zin6 (List.mem_of_getElem? (i := 88) rfl)) rfl
theorem ok_X4_mean : zOV yX4_mean cX4_mean 1 ((Option.some Jvm.ClassFile.FieldType.double)) 0 := ⟨⟨q6_89, q1_3, by decide, by decide, by decide +kernel⟩, q6_87, q6_88⟩
set_option maxHeartbeats 4000000 in
set_option maxRecDepth 100000 in
theorem c_X4_mean (l : Launch) (G : zG) (σ : St) (b : Nat → Nat) (th m1 m2 : Int32) (sz : Nat) (hd : inj b (mL σ)) (hB : okB σ) (hdt : ∀ d : Int, 0 ≤ d → d < 32 → 0 ≤ σ.Dt d ∧ σ.Dt d < 16) (hT : 0 ≤ σ.tk ∧ σ.tk ≤ 99999) : Met l yX4_mean (wq yX4_mean cX4_mean 1 ((Option.some Jvm.ClassFile.FieldType.double))) (rmM 6 136 0 0) (va_Pc [.ref (b 0)] (zK G (fun H => hMod G σ b th m1 m2 H ∧ H.size = sz))) (zM (fun y => mA σ b y ∨ sz ≤ y) (some (.double (mnM σ))) (fun H => hMod G σ b (zI 0) m1 m2 H)) 0 0 (fun y => mA σ b y ∨ sz ≤ y) := by
  refine z_enterMD (by decide +kernel) (Nat.le_of_ble_eq_true rfl) ?_
  intro p env s m below meth cod Q S hG hP hS ret ls hl
  have hl : lv_has ls 1 [(0, .ref (b 0))] := hl
  have hz0 := hP.2
  have hP := hP.1
  have hO := hP.2.2.2.2.2.2.2.2.2
  have hrn := hO.1
  obtain ⟨L, hL, hLe⟩ := liM_b hO hB hdt hT.1
  refine z_aload_n S dX4_mean_0 hl 0 rfl rfl ?_
  refine z_iconst S dX4_mean_1 ?_
  refine z_put S hG hP.1 zc_X4 _ (zty_X4) (znm_X4) hS (Or.inl ⟨0, mL_s (by decide), rfl⟩) 0 (by decide) q4_226 rfl rfl rfl rfl rfl (Nat.le_of_ble_eq_true rfl) dX4_mean_2 (fun H_1 L_1 hat hz oq hS => ?_)
  have hP : hMod G (σ) b (zI (0)) m1 m2 H_1 := hMod_o hP hd (by exact hrn.2) (zI (0)) (σ.tk) (σ.lim) (σ.rf) hat oq
  refine z_aload_n S dX4_mean_5 hl 0 rfl rfl ?_
  refine z_aload_n S dX4_mean_6 hl 0 rfl rfl ?_
  refine z_get S hG hP.1 zc_X4 1 (by decide) q4_227 rfl rfl dX4_mean_7 ?_
  refine z_callVs S hG (c_X4_lightAt l G σ b (zI (0)) m1 m2 (σ.tk) (by omega) hdt) ok_X4_lightAt hP.1 zc_X4 rfl q6_7 (hP) ⟨rfl, rfl, by decide, by decide⟩ ⟨Nat.zero_le _, Nat.zero_le _⟩ rfl (Nat.le_of_ble_eq_true rfl) hl.1 rfl dX4_mean_10 ?_
  refine lv_i2d S.1 S.2.1 dX4_mean_13 ?_
  refine z_aload_n S dX4_mean_14 hl 0 rfl rfl ?_
  refine z_get S hG hP.1 zc_X4 5 (by decide) q4_231 rfl rfl dX4_mean_15 ?_
  refine z_alenI S hG hP.2.2.1 dX4_mean_18 ?_
  refine lv_i2d S.1 S.2.1 dX4_mean_19 ?_
  rw [i2d_32]
  refine lv_ddiv S.1 S.2.1 dX4_mean_20 (by have := (mn_b hL).1; rw [← hLe] at this; exact this) ?_
  exact ret _ _ _ _ _ _ _ dX4_mean_21 (rfl) hS (hP) (Nat.le_of_ble_eq_true rfl) (Nat.le_of_ble_eq_true rfl)
def dn1 (σ : St) : Int64 := mixI (mix1 (pM σ)) 7121 12
def dn2 (σ : St) : Int64 := dn1 σ * 31 + (zI (per σ)).toInt64
def dn3 (σ : St) (k : Int) : Int64 := mixI (fun e d => mixI (mix1 (eM σ e)) d 6) (dn2 σ) k
def dn4 (σ : St) (k : Int) : Int64 := mixI (fun j d => mixI (mix1 (rF σ j)) d 6) (dn3 σ 16) k
def dn5 (σ : St) (k : Int) : Int64 := mixI (fun q d => mixI (mix1 (dF σ q)) d 4) (dn4 σ σ.rn) k
def dn6 (σ : St) : Int64 := (dn5 σ 32 * 31 + (zI (fnd σ 1 (zI 2) σ.tk)).toInt64) * 31 + (zI (mt σ 1 (zI 3) 5 (zI 5) σ.tk)).toInt64
def dn7 (σ : St) (k : Int) : Int64 := mixI (mix1 (fun n => zI (whn σ n))) (dn6 σ) k
def dgM (σ : St) : Int64 := ((dn7 σ σ.kn * 31 + (zI (ltM σ 30)).toInt64) * 31 + FP.d2l (FP.dmul 4625196817309499392 (mnM σ))) * 31 + (bI (soM σ)).toInt64
theorem dn3_0 {σ : St} : dn3 σ 0 = dn2 σ := mixI_0
theorem dn3_s {σ : St} {k : Int} (h : 0 ≤ k) : dn3 σ (k + 1) = mixI (mix1 (eM σ k)) (dn3 σ k) 6 := mixI_s h
theorem dn4_0 {σ : St} : dn4 σ 0 = dn3 σ 16 := mixI_0
theorem dn4_s {σ : St} {k : Int} (h : 0 ≤ k) : dn4 σ (k + 1) = mixI (mix1 (rF σ k)) (dn4 σ k) 6 := mixI_s h
theorem dn5_0 {σ : St} : dn5 σ 0 = dn4 σ σ.rn := mixI_0
theorem dn5_s {σ : St} {k : Int} (h : 0 ≤ k) : dn5 σ (k + 1) = mixI (mix1 (dF σ k)) (dn5 σ k) 4 := mixI_s h
theorem dn7_0 {σ : St} : dn7 σ 0 = dn6 σ := mixI_0
theorem dn7_s {σ : St} {k : Int} (h : 0 ≤ k) : dn7 σ (k + 1) = dn7 σ k * 31 + (zI (whn σ k)).toInt64 := mixI_s h
theorem dX4_digest_0 : decode cX4_digest 0 = .ok (.aload_n 0, 1) := by decide +kernel
theorem dX4_digest_1 : decode cX4_digest 1 = .ok (.iconst 0, 1) := by decide +kernel
theorem dX4_digest_2 : decode cX4_digest 2 = .ok (.putfield 30, 3) := by decide +kernel
theorem dX4_digest_5 : decode cX4_digest 5 = .ok (.ldc2_w 224, 3) := by decide +kernel
theorem dX4_digest_8 : decode cX4_digest 8 = .ok (.lstore_n 1, 1) := by decide +kernel
theorem dX4_digest_9 : decode cX4_digest 9 = .ok (.iconst 0, 1) := by decide +kernel
theorem dX4_digest_10 : decode cX4_digest 10 = .ok (.istore_n 3, 1) := by decide +kernel
theorem dX4_digest_11 : decode cX4_digest 11 = .ok (.iload_n 3, 1) := by decide +kernel
theorem dX4_digest_12 : decode cX4_digest 12 = .ok (.bipush 11, 2) := by decide +kernel
theorem dX4_digest_14 : decode cX4_digest 14 = .ok (.if_icmp .gt 22, 3) := by decide +kernel
theorem dX4_digest_17 : decode cX4_digest 17 = .ok (.lload_n 1, 1) := by decide +kernel
theorem dX4_digest_18 : decode cX4_digest 18 = .ok (.ldc2_w 226, 3) := by decide +kernel
theorem dX4_digest_21 : decode cX4_digest 21 = .ok (.lmul, 1) := by decide +kernel
theorem dX4_digest_22 : decode cX4_digest 22 = .ok (.aload_n 0, 1) := by decide +kernel
theorem dX4_digest_23 : decode cX4_digest 23 = .ok (.iload_n 3, 1) := by decide +kernel
theorem dX4_digest_24 : decode cX4_digest 24 = .ok (.invokevirtual 183, 3) := by decide +kernel
theorem dX4_digest_27 : decode cX4_digest 27 = .ok (.i2l, 1) := by decide +kernel
theorem dX4_digest_28 : decode cX4_digest 28 = .ok (.ladd, 1) := by decide +kernel
theorem dX4_digest_29 : decode cX4_digest 29 = .ok (.lstore_n 1, 1) := by decide +kernel
theorem dX4_digest_30 : decode cX4_digest 30 = .ok (.iinc 3 1, 3) := by decide +kernel
theorem dX4_digest_33 : decode cX4_digest 33 = .ok (.goto (-22), 3) := by decide +kernel
theorem dX4_digest_36 : decode cX4_digest 36 = .ok (.lload_n 1, 1) := by decide +kernel
theorem dX4_digest_37 : decode cX4_digest 37 = .ok (.ldc2_w 226, 3) := by decide +kernel
theorem dX4_digest_40 : decode cX4_digest 40 = .ok (.lmul, 1) := by decide +kernel
theorem dX4_digest_41 : decode cX4_digest 41 = .ok (.aload_n 0, 1) := by decide +kernel
theorem dX4_digest_42 : decode cX4_digest 42 = .ok (.invokevirtual 186, 3) := by decide +kernel
theorem dX4_digest_45 : decode cX4_digest 45 = .ok (.i2l, 1) := by decide +kernel
theorem dX4_digest_46 : decode cX4_digest 46 = .ok (.ladd, 1) := by decide +kernel
theorem dX4_digest_47 : decode cX4_digest 47 = .ok (.lstore_n 1, 1) := by decide +kernel
theorem dX4_digest_48 : decode cX4_digest 48 = .ok (.iconst 0, 1) := by decide +kernel
theorem dX4_digest_49 : decode cX4_digest 49 = .ok (.istore_n 3, 1) := by decide +kernel
theorem dX4_digest_50 : decode cX4_digest 50 = .ok (.iload_n 3, 1) := by decide +kernel
theorem dX4_digest_51 : decode cX4_digest 51 = .ok (.bipush 16, 2) := by decide +kernel
theorem dX4_digest_53 : decode cX4_digest 53 = .ok (.if_icmp .ge 39, 3) := by decide +kernel
theorem dX4_digest_56 : decode cX4_digest 56 = .ok (.iconst 0, 1) := by decide +kernel
theorem dX4_digest_57 : decode cX4_digest 57 = .ok (.istore 4, 2) := by decide +kernel
theorem dX4_digest_59 : decode cX4_digest 59 = .ok (.iload 4, 2) := by decide +kernel
theorem dX4_digest_61 : decode cX4_digest 61 = .ok (.iconst 5, 1) := by decide +kernel
theorem dX4_digest_62 : decode cX4_digest 62 = .ok (.if_icmp .gt 24, 3) := by decide +kernel
theorem dX4_digest_65 : decode cX4_digest 65 = .ok (.lload_n 1, 1) := by decide +kernel
theorem dX4_digest_66 : decode cX4_digest 66 = .ok (.ldc2_w 226, 3) := by decide +kernel
theorem dX4_digest_69 : decode cX4_digest 69 = .ok (.lmul, 1) := by decide +kernel
theorem dX4_digest_70 : decode cX4_digest 70 = .ok (.aload_n 0, 1) := by decide +kernel
theorem dX4_digest_71 : decode cX4_digest 71 = .ok (.iload_n 3, 1) := by decide +kernel
theorem dX4_digest_72 : decode cX4_digest 72 = .ok (.iload 4, 2) := by decide +kernel
theorem dX4_digest_74 : decode cX4_digest 74 = .ok (.invokevirtual 155, 3) := by decide +kernel
theorem dX4_digest_77 : decode cX4_digest 77 = .ok (.i2l, 1) := by decide +kernel
theorem dX4_digest_78 : decode cX4_digest 78 = .ok (.ladd, 1) := by decide +kernel
theorem dX4_digest_79 : decode cX4_digest 79 = .ok (.lstore_n 1, 1) := by decide +kernel
theorem dX4_digest_80 : decode cX4_digest 80 = .ok (.iinc 4 1, 3) := by decide +kernel
theorem dX4_digest_83 : decode cX4_digest 83 = .ok (.goto (-24), 3) := by decide +kernel
theorem dX4_digest_86 : decode cX4_digest 86 = .ok (.iinc 3 1, 3) := by decide +kernel
theorem dX4_digest_89 : decode cX4_digest 89 = .ok (.goto (-39), 3) := by decide +kernel
theorem dX4_digest_92 : decode cX4_digest 92 = .ok (.iconst 0, 1) := by decide +kernel
theorem dX4_digest_93 : decode cX4_digest 93 = .ok (.istore_n 3, 1) := by decide +kernel
theorem dX4_digest_94 : decode cX4_digest 94 = .ok (.iload_n 3, 1) := by decide +kernel
theorem dX4_digest_95 : decode cX4_digest 95 = .ok (.aload_n 0, 1) := by decide +kernel
theorem dX4_digest_96 : decode cX4_digest 96 = .ok (.getfield 23, 3) := by decide +kernel
theorem dX4_digest_99 : decode cX4_digest 99 = .ok (.invokevirtual 41, 3) := by decide +kernel
theorem dX4_digest_102 : decode cX4_digest 102 = .ok (.if_icmp .ge 39, 3) := by decide +kernel
theorem dX4_digest_105 : decode cX4_digest 105 = .ok (.iconst 0, 1) := by decide +kernel
theorem dX4_digest_106 : decode cX4_digest 106 = .ok (.istore 4, 2) := by decide +kernel
theorem dX4_digest_108 : decode cX4_digest 108 = .ok (.iload 4, 2) := by decide +kernel
theorem dX4_digest_110 : decode cX4_digest 110 = .ok (.iconst 5, 1) := by decide +kernel
theorem dX4_digest_111 : decode cX4_digest 111 = .ok (.if_icmp .gt 24, 3) := by decide +kernel
theorem dX4_digest_114 : decode cX4_digest 114 = .ok (.lload_n 1, 1) := by decide +kernel
theorem dX4_digest_115 : decode cX4_digest 115 = .ok (.ldc2_w 226, 3) := by decide +kernel
theorem dX4_digest_118 : decode cX4_digest 118 = .ok (.lmul, 1) := by decide +kernel
theorem dX4_digest_119 : decode cX4_digest 119 = .ok (.aload_n 0, 1) := by decide +kernel
theorem dX4_digest_120 : decode cX4_digest 120 = .ok (.iload_n 3, 1) := by decide +kernel
theorem dX4_digest_121 : decode cX4_digest 121 = .ok (.iload 4, 2) := by decide +kernel
theorem dX4_digest_123 : decode cX4_digest 123 = .ok (.invokevirtual 158, 3) := by decide +kernel
theorem dX4_digest_126 : decode cX4_digest 126 = .ok (.i2l, 1) := by decide +kernel
theorem dX4_digest_127 : decode cX4_digest 127 = .ok (.ladd, 1) := by decide +kernel
theorem dX4_digest_128 : decode cX4_digest 128 = .ok (.lstore_n 1, 1) := by decide +kernel
theorem dX4_digest_129 : decode cX4_digest 129 = .ok (.iinc 4 1, 3) := by decide +kernel
theorem dX4_digest_132 : decode cX4_digest 132 = .ok (.goto (-24), 3) := by decide +kernel
theorem dX4_digest_135 : decode cX4_digest 135 = .ok (.iinc 3 1, 3) := by decide +kernel
theorem dX4_digest_138 : decode cX4_digest 138 = .ok (.goto (-44), 3) := by decide +kernel
theorem dX4_digest_141 : decode cX4_digest 141 = .ok (.iconst 0, 1) := by decide +kernel
theorem dX4_digest_142 : decode cX4_digest 142 = .ok (.istore_n 3, 1) := by decide +kernel
theorem dX4_digest_143 : decode cX4_digest 143 = .ok (.iload_n 3, 1) := by decide +kernel
theorem dX4_digest_144 : decode cX4_digest 144 = .ok (.aload_n 0, 1) := by decide +kernel
theorem dX4_digest_145 : decode cX4_digest 145 = .ok (.getfield 17, 3) := by decide +kernel
theorem dX4_digest_148 : decode cX4_digest 148 = .ok (.arraylength, 1) := by decide +kernel
theorem dX4_digest_149 : decode cX4_digest 149 = .ok (.if_icmp .ge 39, 3) := by decide +kernel
theorem dX4_digest_152 : decode cX4_digest 152 = .ok (.iconst 0, 1) := by decide +kernel
theorem dX4_digest_153 : decode cX4_digest 153 = .ok (.istore 4, 2) := by decide +kernel
theorem dX4_digest_155 : decode cX4_digest 155 = .ok (.iload 4, 2) := by decide +kernel
theorem dX4_digest_157 : decode cX4_digest 157 = .ok (.iconst 3, 1) := by decide +kernel
theorem dX4_digest_158 : decode cX4_digest 158 = .ok (.if_icmp .gt 24, 3) := by decide +kernel
theorem dX4_digest_161 : decode cX4_digest 161 = .ok (.lload_n 1, 1) := by decide +kernel
theorem dX4_digest_162 : decode cX4_digest 162 = .ok (.ldc2_w 226, 3) := by decide +kernel
theorem dX4_digest_165 : decode cX4_digest 165 = .ok (.lmul, 1) := by decide +kernel
theorem dX4_digest_166 : decode cX4_digest 166 = .ok (.aload_n 0, 1) := by decide +kernel
theorem dX4_digest_167 : decode cX4_digest 167 = .ok (.iload_n 3, 1) := by decide +kernel
theorem dX4_digest_168 : decode cX4_digest 168 = .ok (.iload 4, 2) := by decide +kernel
theorem dX4_digest_170 : decode cX4_digest 170 = .ok (.invokevirtual 149, 3) := by decide +kernel
theorem dX4_digest_173 : decode cX4_digest 173 = .ok (.i2l, 1) := by decide +kernel
theorem dX4_digest_174 : decode cX4_digest 174 = .ok (.ladd, 1) := by decide +kernel
theorem dX4_digest_175 : decode cX4_digest 175 = .ok (.lstore_n 1, 1) := by decide +kernel
theorem dX4_digest_176 : decode cX4_digest 176 = .ok (.iinc 4 1, 3) := by decide +kernel
theorem dX4_digest_179 : decode cX4_digest 179 = .ok (.goto (-24), 3) := by decide +kernel
theorem dX4_digest_182 : decode cX4_digest 182 = .ok (.iinc 3 1, 3) := by decide +kernel
theorem dX4_digest_185 : decode cX4_digest 185 = .ok (.goto (-42), 3) := by decide +kernel
theorem dX4_digest_188 : decode cX4_digest 188 = .ok (.lload_n 1, 1) := by decide +kernel
theorem dX4_digest_189 : decode cX4_digest 189 = .ok (.ldc2_w 226, 3) := by decide +kernel
theorem dX4_digest_192 : decode cX4_digest 192 = .ok (.lmul, 1) := by decide +kernel
theorem dX4_digest_193 : decode cX4_digest 193 = .ok (.aload_n 0, 1) := by decide +kernel
theorem dX4_digest_194 : decode cX4_digest 194 = .ok (.iconst 1, 1) := by decide +kernel
theorem dX4_digest_195 : decode cX4_digest 195 = .ok (.iconst 2, 1) := by decide +kernel
theorem dX4_digest_196 : decode cX4_digest 196 = .ok (.aload_n 0, 1) := by decide +kernel
theorem dX4_digest_197 : decode cX4_digest 197 = .ok (.getfield 108, 3) := by decide +kernel
theorem dX4_digest_200 : decode cX4_digest 200 = .ok (.invokevirtual 207, 3) := by decide +kernel
theorem dX4_digest_203 : decode cX4_digest 203 = .ok (.i2l, 1) := by decide +kernel
theorem dX4_digest_204 : decode cX4_digest 204 = .ok (.ladd, 1) := by decide +kernel
theorem dX4_digest_205 : decode cX4_digest 205 = .ok (.lstore_n 1, 1) := by decide +kernel
theorem dX4_digest_206 : decode cX4_digest 206 = .ok (.lload_n 1, 1) := by decide +kernel
theorem dX4_digest_207 : decode cX4_digest 207 = .ok (.ldc2_w 226, 3) := by decide +kernel
theorem dX4_digest_210 : decode cX4_digest 210 = .ok (.lmul, 1) := by decide +kernel
theorem dX4_digest_211 : decode cX4_digest 211 = .ok (.aload_n 0, 1) := by decide +kernel
theorem dX4_digest_212 : decode cX4_digest 212 = .ok (.iconst 1, 1) := by decide +kernel
theorem dX4_digest_213 : decode cX4_digest 213 = .ok (.iconst 3, 1) := by decide +kernel
theorem dX4_digest_214 : decode cX4_digest 214 = .ok (.iconst 5, 1) := by decide +kernel
theorem dX4_digest_215 : decode cX4_digest 215 = .ok (.iconst 5, 1) := by decide +kernel
theorem dX4_digest_216 : decode cX4_digest 216 = .ok (.invokevirtual 211, 3) := by decide +kernel
theorem dX4_digest_219 : decode cX4_digest 219 = .ok (.i2l, 1) := by decide +kernel
theorem dX4_digest_220 : decode cX4_digest 220 = .ok (.ladd, 1) := by decide +kernel
theorem dX4_digest_221 : decode cX4_digest 221 = .ok (.lstore_n 1, 1) := by decide +kernel
theorem dX4_digest_222 : decode cX4_digest 222 = .ok (.iconst 0, 1) := by decide +kernel
theorem dX4_digest_223 : decode cX4_digest 223 = .ok (.istore_n 3, 1) := by decide +kernel
theorem dX4_digest_224 : decode cX4_digest 224 = .ok (.iload_n 3, 1) := by decide +kernel
theorem dX4_digest_225 : decode cX4_digest 225 = .ok (.aload_n 0, 1) := by decide +kernel
theorem dX4_digest_226 : decode cX4_digest 226 = .ok (.getfield 27, 3) := by decide +kernel
theorem dX4_digest_229 : decode cX4_digest 229 = .ok (.invokevirtual 41, 3) := by decide +kernel
theorem dX4_digest_232 : decode cX4_digest 232 = .ok (.if_icmp .ge 22, 3) := by decide +kernel
theorem dX4_digest_235 : decode cX4_digest 235 = .ok (.lload_n 1, 1) := by decide +kernel
theorem dX4_digest_236 : decode cX4_digest 236 = .ok (.ldc2_w 226, 3) := by decide +kernel
theorem dX4_digest_239 : decode cX4_digest 239 = .ok (.lmul, 1) := by decide +kernel
theorem dX4_digest_240 : decode cX4_digest 240 = .ok (.aload_n 0, 1) := by decide +kernel
theorem dX4_digest_241 : decode cX4_digest 241 = .ok (.iload_n 3, 1) := by decide +kernel
theorem dX4_digest_242 : decode cX4_digest 242 = .ok (.invokevirtual 215, 3) := by decide +kernel
theorem dX4_digest_245 : decode cX4_digest 245 = .ok (.i2l, 1) := by decide +kernel
theorem dX4_digest_246 : decode cX4_digest 246 = .ok (.ladd, 1) := by decide +kernel
theorem dX4_digest_247 : decode cX4_digest 247 = .ok (.lstore_n 1, 1) := by decide +kernel
theorem dX4_digest_248 : decode cX4_digest 248 = .ok (.iinc 3 1, 3) := by decide +kernel
theorem dX4_digest_251 : decode cX4_digest 251 = .ok (.goto (-27), 3) := by decide +kernel
theorem dX4_digest_254 : decode cX4_digest 254 = .ok (.lload_n 1, 1) := by decide +kernel
theorem dX4_digest_255 : decode cX4_digest 255 = .ok (.ldc2_w 226, 3) := by decide +kernel
theorem dX4_digest_258 : decode cX4_digest 258 = .ok (.lmul, 1) := by decide +kernel
theorem dX4_digest_259 : decode cX4_digest 259 = .ok (.aload_n 0, 1) := by decide +kernel
theorem dX4_digest_260 : decode cX4_digest 260 = .ok (.bipush 30, 2) := by decide +kernel
theorem dX4_digest_262 : decode cX4_digest 262 = .ok (.invokevirtual 218, 3) := by decide +kernel
theorem dX4_digest_265 : decode cX4_digest 265 = .ok (.i2l, 1) := by decide +kernel
theorem dX4_digest_266 : decode cX4_digest 266 = .ok (.ladd, 1) := by decide +kernel
theorem dX4_digest_267 : decode cX4_digest 267 = .ok (.lstore_n 1, 1) := by decide +kernel
theorem dX4_digest_268 : decode cX4_digest 268 = .ok (.lload_n 1, 1) := by decide +kernel
theorem dX4_digest_269 : decode cX4_digest 269 = .ok (.ldc2_w 226, 3) := by decide +kernel
theorem dX4_digest_272 : decode cX4_digest 272 = .ok (.lmul, 1) := by decide +kernel
theorem dX4_digest_273 : decode cX4_digest 273 = .ok (.ldc2_w 228, 3) := by decide +kernel
theorem dX4_digest_276 : decode cX4_digest 276 = .ok (.aload_n 0, 1) := by decide +kernel
theorem dX4_digest_277 : decode cX4_digest 277 = .ok (.aload_n 0, 1) := by decide +kernel
theorem dX4_digest_278 : decode cX4_digest 278 = .ok (.getfield 108, 3) := by decide +kernel
theorem dX4_digest_281 : decode cX4_digest 281 = .ok (.invokevirtual 174, 3) := by decide +kernel
theorem dX4_digest_284 : decode cX4_digest 284 = .ok (.i2d, 1) := by decide +kernel
theorem dX4_digest_285 : decode cX4_digest 285 = .ok (.aload_n 0, 1) := by decide +kernel
theorem dX4_digest_286 : decode cX4_digest 286 = .ok (.getfield 17, 3) := by decide +kernel
theorem dX4_digest_289 : decode cX4_digest 289 = .ok (.arraylength, 1) := by decide +kernel
theorem dX4_digest_290 : decode cX4_digest 290 = .ok (.i2d, 1) := by decide +kernel
theorem dX4_digest_291 : decode cX4_digest 291 = .ok (.ddiv, 1) := by decide +kernel
theorem dX4_digest_292 : decode cX4_digest 292 = .ok (.dmul, 1) := by decide +kernel
theorem dX4_digest_293 : decode cX4_digest 293 = .ok (.d2l, 1) := by decide +kernel
theorem dX4_digest_294 : decode cX4_digest 294 = .ok (.ladd, 1) := by decide +kernel
theorem dX4_digest_295 : decode cX4_digest 295 = .ok (.lstore_n 1, 1) := by decide +kernel
theorem dX4_digest_296 : decode cX4_digest 296 = .ok (.lload_n 1, 1) := by decide +kernel
theorem dX4_digest_297 : decode cX4_digest 297 = .ok (.ldc2_w 226, 3) := by decide +kernel
theorem dX4_digest_300 : decode cX4_digest 300 = .ok (.lmul, 1) := by decide +kernel
theorem dX4_digest_301 : decode cX4_digest 301 = .ok (.aload_n 0, 1) := by decide +kernel
theorem dX4_digest_302 : decode cX4_digest 302 = .ok (.invokevirtual 221, 3) := by decide +kernel
theorem dX4_digest_305 : decode cX4_digest 305 = .ok (.ifCond .eq 7, 3) := by decide +kernel
theorem dX4_digest_308 : decode cX4_digest 308 = .ok (.iconst 1, 1) := by decide +kernel
theorem dX4_digest_309 : decode cX4_digest 309 = .ok (.goto 4, 3) := by decide +kernel
theorem dX4_digest_312 : decode cX4_digest 312 = .ok (.iconst 0, 1) := by decide +kernel
theorem dX4_digest_313 : decode cX4_digest 313 = .ok (.i2l, 1) := by decide +kernel
theorem dX4_digest_314 : decode cX4_digest 314 = .ok (.ladd, 1) := by decide +kernel
theorem dX4_digest_315 : decode cX4_digest 315 = .ok (.lreturn, 1) := by decide +kernel
theorem q6_138 : (Jvm.Cond.constantLong "CyclepaintModel" (224 : Nat) (7121 : Int64)) ∈ lw_g := zg_of (zin6 (List.mem_of_getElem? (i := 138) rfl)) rfl
theorem q6_139 : (Jvm.Cond.constantLong "CyclepaintModel" (226 : Nat) (31 : Int64)) ∈ lw_g := zg_of (zin6 (List.mem_of_getElem? (i := 139) rfl)) rfl
theorem q6_140 : (Jvm.Cond.constantDouble "CyclepaintModel" (228 : Nat) (4625196817309499392 : UInt64)) ∈ lw_g := zg_of (zin6 (List.mem_of_getElem? (i := 140) rfl)) rfl
theorem q6_137 : (Jvm.Cond.code ({ cls := "CyclepaintModel", name := "digest", desc := "()J" } : Jvm.MethodName) prog_6_method_63_code (5 : Nat) (Option.some Jvm.ClassFile.FieldType.long)) ∈ lw_g := zg_of (zin6 (List.mem_of_getElem? (i := 137) rfl)) rfl
theorem q6_135 : (Jvm.Cond.instanceMethod ({ cls := "CyclepaintModel", name := "digest", desc := "()J" } : Jvm.MethodName)) ∈ lw_g := zg_of (zin6 (List.mem_of_getElem? (i := 135) rfl)) rfl
theorem q6_136 : (Jvm.Cond.selects "CyclepaintModel" ({ cls := "CyclepaintModel", name := "digest", desc := "()J" } : Jvm.MethodName) ({ cls := "CyclepaintModel", name := "digest", desc := "()J" } : Jvm.MethodName)) ∈ lw_g := zg_of (zin6 (List.mem_of_getElem? (i := 136) rfl)) rfl
theorem ok_X4_digest : zOV yX4_digest cX4_digest 5 ((Option.some Jvm.ClassFile.FieldType.long)) 0 := ⟨⟨q6_137, q1_3, by decide, by decide, by decide +kernel⟩, q6_135, q6_136⟩
set_option maxHeartbeats 4000000 in
set_option maxRecDepth 100000 in
theorem c_X4_digest (l : Launch) (G : zG) (σ : St) (b : Nat → Nat) (th m1 m2 : Int32) (sz : Nat) (hd : inj b (mL σ)) (hD : okD σ) (hB : okB σ) (hdt : ∀ d : Int, 0 ≤ d → d < 32 → 0 ≤ σ.Dt d ∧ σ.Dt d < 16) (hT : 0 ≤ σ.tk ∧ σ.tk ≤ 99999) (hkn0 : 0 ≤ σ.kn) (hkn : σ.kn ≤ 5) (hlm : 0 ≤ σ.lim ∧ σ.lim ≤ 32) : Met l yX4_digest (wq yX4_digest cX4_digest 5 ((Option.some Jvm.ClassFile.FieldType.long))) (rmM 10 225 42 216) (va_Pc [.ref (b 0)] (zK G (fun H => hMod G σ b th m1 m2 H ∧ H.size = sz))) (zM (fun y => mA σ b y ∨ sz ≤ y) (some (.long (dgM σ))) (fun H => hMod G σ b (zI 0) m1 m2 H)) 42 216 (fun y => mA σ b y ∨ sz ≤ y) := by
  refine z_enterML (by decide +kernel) (Nat.le_of_ble_eq_true rfl) ?_
  intro p env s m below meth cod Q S hG hP hS ret ls hl
  have hl : lv_has ls 5 [(0, .ref (b 0))] := hl
  have hz0 := hP.2
  have hP := hP.1
  have hO := hP.2.2.2.2.2.2.2.2.2
  have hrn := hO.1
  obtain ⟨L, hL, hLe⟩ := liM_b hO hB hdt hT.1
  refine z_aload_n S dX4_digest_0 hl 0 rfl rfl ?_
  refine z_iconst S dX4_digest_1 ?_
  refine z_put S hG hP.1 zc_X4 _ (zty_X4) (znm_X4) hS (Or.inl ⟨0, mL_s (by decide), rfl⟩) 0 (by decide) q4_226 rfl rfl rfl rfl rfl (Nat.le_of_ble_eq_true rfl) dX4_digest_2 (fun H_1 L_1 hat hz oq hS => ?_)
  have hP : hMod G (σ) b (zI (0)) m1 m2 H_1 := hMod_o hP hd (by exact hrn.2) (zI (0)) (σ.tk) (σ.lim) (σ.rf) hat oq
  refine lv_ldc2 S.1 S.2.1 S.2.2.2.1 (S.2.2.2.2 _ q6_138) dX4_digest_5 ?_
  refine lv_lstore_n (lv' := [(1, .long (7121)), (0, .ref (b 0))]) S.1 S.2.1 dX4_digest_8 rfl hl (by decide) rfl (fun ls hl => ?_)
  refine z_iconst S dX4_digest_9 ?_
  refine z_istore_n (lv' := [(3, .int (zI (0))), (1, .long (7121)), (0, .ref (b 0))]) S dX4_digest_10 hl rfl (by decide) rfl (fun ls hl => ?_)
  have loop_11 : ∀ (nn : Nat) (k : Int) (d0 : Int64), (0 ≤ k ∧ k ≤ 12) → (d0 = mixI (mix1 (pM σ)) 7121 k) → ((12 - k).toNat) < nn → ∀ ls, lv_has ls 5 [(3, .int (zI (k))), (1, .long (d0)), (0, .ref (b 0))] → W p l env (rmM 10 225 42 216) s m ([.ref (b 0)] : List Value).toArray below meth cod H_1 L_1 0 0 Q (F0 m 11 ls []) := by
    intro nn
    induction nn with
    | zero => intro _ _ _ _ h; exact absurd h (Nat.not_lt_zero _)
    | succ nn ih_11 =>
      intro k d0 hk hd0 hm_11 ls hl
      refine z_iload_n S dX4_digest_11 hl 0 rfl rfl ?_
      refine z_bipush S dX4_digest_12 rfl ?_
      refine z_icmp_gt S 36 dX4_digest_14 (by decide) (by omega) (by omega) (fun c_14 => ?_) (fun c_14 => ?_)
      · skip
        refine lv_lload_n S.1 S.2.1 dX4_digest_36 rfl (lv_at hl 1 rfl) ?_
        refine lv_ldc2 S.1 S.2.1 S.2.2.2.1 (S.2.2.2.2 _ q6_139) dX4_digest_37 ?_
        refine lv_lmul S.1 S.2.1 dX4_digest_40 ?_
        refine z_aload_n S dX4_digest_41 hl 2 rfl rfl ?_
        obtain ⟨z1, hz1⟩ : ∃ x : Nat, x = H_1.size := ⟨_, rfl⟩
        refine z_callM S hG hS (c_X4_periodNow l G σ b (zI 0) m1 m2 z1 hD) (fun y h => Or.inr (by have h2 : z1 ≤ y := h; omega)) ok_X4_periodNow hP.1 zc_X4 rfl q6_25 (⟨hP, hz1.symm⟩) ⟨rfl, rfl, by decide, by decide⟩ ⟨Nat.le_of_ble_eq_true rfl, Nat.le_of_ble_eq_true rfl⟩ rfl (Nat.le_of_ble_eq_true rfl) hl.1 rfl dX4_digest_42 (fun H_2 L_2 hB hz oq hS => ?_)
        have hP := hMod_keep hP (fun i hi => oq _ (hMod_lt hP hi) (by have := hMod_lt hP hi; show ¬ (z1 ≤ _); omega))
        refine lv_i2l S.1 S.2.1 dX4_digest_45 rfl ?_
        refine lv_ladd S.1 S.2.1 dX4_digest_46 ?_
        refine lv_lstore_n (lv' := [(1, .long (((d0) * (31)) + ((zI (per σ)).toInt64))), (3, .int (zI (k))), (0, .ref (b 0))]) S.1 S.2.1 dX4_digest_47 rfl hl (by decide) rfl (fun ls hl => ?_)
        refine z_iconst S dX4_digest_48 ?_
        refine z_istore_n (lv' := [(3, .int (zI (0))), (1, .long (((d0) * (31)) + ((zI (per σ)).toInt64))), (0, .ref (b 0))]) S dX4_digest_49 hl rfl (by decide) rfl (fun ls hl => ?_)
        have loop_50 : ∀ (nn : Nat) (e : Int) (d2 : Int64), (0 ≤ e ∧ e ≤ 16) → (d2 = dn3 σ e) → ((16 - e).toNat) < nn → ∀ ls, lv_has ls 5 [(3, .int (zI (e))), (1, .long (d2)), (0, .ref (b 0))] → W p l env (rmM 10 225 42 216) s m ([.ref (b 0)] : List Value).toArray below meth cod H_2 L_2 1 4 Q (F0 m 50 ls []) := by
          intro nn
          induction nn with
          | zero => intro _ _ _ _ h; exact absurd h (Nat.not_lt_zero _)
          | succ nn ih_50 =>
            intro e d2 he hd2 hm_50 ls hl
            refine z_iload_n S dX4_digest_50 hl 0 rfl rfl ?_
            refine z_bipush S dX4_digest_51 rfl ?_
            refine z_icmp_ge S 92 dX4_digest_53 (by decide) (by omega) (by omega) (fun c_53 => ?_) (fun c_53 => ?_)
            · skip
              refine z_iconst S dX4_digest_92 ?_
              refine z_istore_n (lv' := [(3, .int (zI (0))), (1, .long (d2)), (0, .ref (b 0))]) S dX4_digest_93 hl rfl (by decide) rfl (fun ls hl => ?_)
              have loop_94 : ∀ (nn : Nat) (j : Int) (d4 : Int64) (Hk94 : Heap) (Lk94 : List Loc), (va_S (fun y => mA σ b y ∨ sz ≤ y) s.heap Hk94 Lk94) → (hMod G σ b (zI 0) m1 m2 Hk94) → (sz ≤ Hk94.size) → (0 ≤ j ∧ j ≤ σ.rn) → (d4 = dn4 σ j) → ((σ.rn - j).toNat) < nn → ∀ ls, lv_has ls 5 [(3, .int (zI (j))), (1, .long (d4)), (0, .ref (b 0))] → W p l env (rmM 10 225 42 216) s m ([.ref (b 0)] : List Value).toArray below meth cod Hk94 Lk94 (1 + 6 * j.toNat) (4 + 36 * j.toNat) Q (F0 m 94 ls []) := by
                intro nn
                induction nn with
                | zero => intro _ _ _ _ _ _ _ _ _ h; exact absurd h (Nat.not_lt_zero _)
                | succ nn ih_94 =>
                  intro j d4 Hk94 Lk94 hS hP hzk hj hd4 hm_94 ls hl
                  refine z_iload_n S dX4_digest_94 hl 0 rfl rfl ?_
                  refine z_aload_n S dX4_digest_95 hl 2 rfl rfl ?_
                  refine z_get S hG hP.1 zc_X4 6 (by decide) q4_232 rfl rfl dX4_digest_96 ?_
                  refine z_callVs S hG (c_alSize l G (b 3) (b 5) m1 σ.rn) ok_Jx4a65c_size_8abf5 hP.2.2.2.1 zc_Jx4a65c rfl q5_40 (hP.2.2.2.1) ⟨rfl, rfl, by decide, by decide⟩ ⟨(by show _ ≤ (42 : Nat); omega), (by show _ ≤ (216 : Nat); omega)⟩ rfl (Nat.le_of_ble_eq_true rfl) hl.1 rfl dX4_digest_99 ?_
                  refine z_icmp_ge S 141 dX4_digest_102 (by decide) (by omega) (by omega) (fun c_102 => ?_) (fun c_102 => ?_)
                  · skip
                    refine z_iconst S dX4_digest_141 ?_
                    refine z_istore_n (lv' := [(3, .int (zI (0))), (1, .long (d4)), (0, .ref (b 0))]) S dX4_digest_142 hl rfl (by decide) rfl (fun ls hl => ?_)
                    have loop_143 : ∀ (nn : Nat) (q : Int) (d6 : Int64), (0 ≤ q ∧ q ≤ 32) → (d6 = dn5 σ q) → ((32 - q).toNat) < nn → ∀ ls, lv_has ls 5 [(3, .int (zI (q))), (1, .long (d6)), (0, .ref (b 0))] → W p l env (rmM 10 225 42 216) s m ([.ref (b 0)] : List Value).toArray below meth cod Hk94 Lk94 (1 + 6 * j.toNat) (4 + 36 * j.toNat) Q (F0 m 143 ls []) := by
                      intro nn
                      induction nn with
                      | zero => intro _ _ _ _ h; exact absurd h (Nat.not_lt_zero _)
                      | succ nn ih_143 =>
                        intro q d6 hq hd6 hm_143 ls hl
                        refine z_iload_n S dX4_digest_143 hl 0 rfl rfl ?_
                        refine z_aload_n S dX4_digest_144 hl 2 rfl rfl ?_
                        refine z_get S hG hP.1 zc_X4 5 (by decide) q4_231 rfl rfl dX4_digest_145 ?_
                        refine z_alenI S hG hP.2.2.1 dX4_digest_148 ?_
                        refine z_icmp_ge S 188 dX4_digest_149 (by decide) (by omega) (by omega) (fun c_149 => ?_) (fun c_149 => ?_)
                        · skip
                          refine lv_lload_n S.1 S.2.1 dX4_digest_188 rfl (lv_at hl 1 rfl) ?_
                          refine lv_ldc2 S.1 S.2.1 S.2.2.2.1 (S.2.2.2.2 _ q6_139) dX4_digest_189 ?_
                          refine lv_lmul S.1 S.2.1 dX4_digest_192 ?_
                          refine z_aload_n S dX4_digest_193 hl 2 rfl rfl ?_
                          refine z_iconst S dX4_digest_194 ?_
                          refine z_iconst S dX4_digest_195 ?_
                          refine z_aload_n S dX4_digest_196 hl 2 rfl rfl ?_
                          refine z_get S hG hP.1 zc_X4 1 (by decide) q4_227 rfl rfl dX4_digest_197 ?_
                          refine z_callVs S hG (c_X4_findNow l G σ b (zI 0) m1 m2 (1) (zI (2)) (σ.tk) (by omega) (by omega)) ok_X4_findNow hP.1 zc_X4 rfl q6_98 (hP) ⟨rfl, rfl, by decide, by decide⟩ ⟨(by show _ ≤ (42 : Nat); omega), (by show _ ≤ (216 : Nat); omega)⟩ rfl (Nat.le_of_ble_eq_true rfl) hl.1 rfl dX4_digest_200 ?_
                          refine lv_i2l S.1 S.2.1 dX4_digest_203 rfl ?_
                          refine lv_ladd S.1 S.2.1 dX4_digest_204 ?_
                          refine lv_lstore_n (lv' := [(1, .long (((d6) * (31)) + ((zI (fnd σ (1) (zI (2)) (σ.tk))).toInt64))), (3, .int (zI (q))), (0, .ref (b 0))]) S.1 S.2.1 dX4_digest_205 rfl hl (by decide) rfl (fun ls hl => ?_)
                          refine lv_lload_n S.1 S.2.1 dX4_digest_206 rfl (lv_at hl 0 rfl) ?_
                          refine lv_ldc2 S.1 S.2.1 S.2.2.2.1 (S.2.2.2.2 _ q6_139) dX4_digest_207 ?_
                          refine lv_lmul S.1 S.2.1 dX4_digest_210 ?_
                          refine z_aload_n S dX4_digest_211 hl 2 rfl rfl ?_
                          refine z_iconst S dX4_digest_212 ?_
                          refine z_iconst S dX4_digest_213 ?_
                          refine z_iconst S dX4_digest_214 ?_
                          refine z_iconst S dX4_digest_215 ?_
                          refine z_callVs S hG (c_X4_meetNow l G σ b (zI 0) m1 m2 (1) (zI (3)) (5) (zI (5)) (by omega) (by omega) hT) ok_X4_meetNow hP.1 zc_X4 rfl q6_106 (hP) ⟨rfl, rfl, by decide, by decide⟩ ⟨(by show _ ≤ (42 : Nat); omega), (by show _ ≤ (216 : Nat); omega)⟩ rfl (Nat.le_of_ble_eq_true rfl) hl.1 rfl dX4_digest_216 ?_
                          refine lv_i2l S.1 S.2.1 dX4_digest_219 rfl ?_
                          refine lv_ladd S.1 S.2.1 dX4_digest_220 ?_
                          refine lv_lstore_n (lv' := [(1, .long (((((d6) * (31)) + ((zI (fnd σ (1) (zI (2)) (σ.tk))).toInt64)) * (31)) + ((zI (mt σ (1) (zI (3)) (5) (zI (5)) σ.tk)).toInt64))), (3, .int (zI (q))), (0, .ref (b 0))]) S.1 S.2.1 dX4_digest_221 rfl hl (by decide) rfl (fun ls hl => ?_)
                          refine z_iconst S dX4_digest_222 ?_
                          refine z_istore_n (lv' := [(3, .int (zI (0))), (1, .long (((((d6) * (31)) + ((zI (fnd σ (1) (zI (2)) (σ.tk))).toInt64)) * (31)) + ((zI (mt σ (1) (zI (3)) (5) (zI (5)) σ.tk)).toInt64))), (0, .ref (b 0))]) S dX4_digest_223 hl rfl (by decide) rfl (fun ls hl => ?_)
                          have loop_224 : ∀ (nn : Nat) (n : Int) (d8 : Int64), (0 ≤ n ∧ n ≤ σ.kn) → (d8 = dn7 σ n) → ((σ.kn - n).toNat) < nn → ∀ ls, lv_has ls 5 [(3, .int (zI (n))), (1, .long (d8)), (0, .ref (b 0))] → W p l env (rmM 10 225 42 216) s m ([.ref (b 0)] : List Value).toArray below meth cod Hk94 Lk94 (1 + 6 * j.toNat) (4 + 36 * j.toNat) Q (F0 m 224 ls []) := by
                            intro nn
                            induction nn with
                            | zero => intro _ _ _ _ h; exact absurd h (Nat.not_lt_zero _)
                            | succ nn ih_224 =>
                              intro n d8 hn hd8 hm_224 ls hl
                              refine z_iload_n S dX4_digest_224 hl 0 rfl rfl ?_
                              refine z_aload_n S dX4_digest_225 hl 2 rfl rfl ?_
                              refine z_get S hG hP.1 zc_X4 7 (by decide) q4_233 rfl rfl dX4_digest_226 ?_
                              refine z_callVs S hG (c_alSize l G (b 4) (b 6) m2 σ.kn) ok_Jx4a65c_size_8abf5 hP.2.2.2.2.1 zc_Jx4a65c rfl q5_40 (hP.2.2.2.2.1) ⟨rfl, rfl, by decide, by decide⟩ ⟨(by show _ ≤ (42 : Nat); omega), (by show _ ≤ (216 : Nat); omega)⟩ rfl (Nat.le_of_ble_eq_true rfl) hl.1 rfl dX4_digest_229 ?_
                              refine z_icmp_ge S 254 dX4_digest_232 (by decide) (by omega) (by omega) (fun c_232 => ?_) (fun c_232 => ?_)
                              · skip
                                refine lv_lload_n S.1 S.2.1 dX4_digest_254 rfl (lv_at hl 1 rfl) ?_
                                refine lv_ldc2 S.1 S.2.1 S.2.2.2.1 (S.2.2.2.2 _ q6_139) dX4_digest_255 ?_
                                refine lv_lmul S.1 S.2.1 dX4_digest_258 ?_
                                refine z_aload_n S dX4_digest_259 hl 2 rfl rfl ?_
                                refine z_bipush S dX4_digest_260 rfl ?_
                                refine z_callVs S hG (c_X4_lightestNow l G σ b (zI 0) m1 m2 (30) (by omega) hdt hT) ok_X4_lightestNow hP.1 zc_X4 rfl q6_122 (hP) ⟨rfl, rfl, by decide, by decide⟩ ⟨(by show _ ≤ (42 : Nat); omega), (by show _ ≤ (216 : Nat); omega)⟩ rfl (Nat.le_of_ble_eq_true rfl) hl.1 rfl dX4_digest_262 ?_
                                refine lv_i2l S.1 S.2.1 dX4_digest_265 rfl ?_
                                refine lv_ladd S.1 S.2.1 dX4_digest_266 ?_
                                refine lv_lstore_n (lv' := [(1, .long (((d8) * (31)) + ((zI (ltM σ (30))).toInt64))), (3, .int (zI (n))), (0, .ref (b 0))]) S.1 S.2.1 dX4_digest_267 rfl hl (by decide) rfl (fun ls hl => ?_)
                                refine lv_lload_n S.1 S.2.1 dX4_digest_268 rfl (lv_at hl 0 rfl) ?_
                                refine lv_ldc2 S.1 S.2.1 S.2.2.2.1 (S.2.2.2.2 _ q6_139) dX4_digest_269 ?_
                                refine lv_lmul S.1 S.2.1 dX4_digest_272 ?_
                                refine lv_ldc2d S.1 S.2.1 S.2.2.2.1 (S.2.2.2.2 _ q6_140) dX4_digest_273 ?_
                                refine z_aload_n S dX4_digest_276 hl 2 rfl rfl ?_
                                refine z_aload_n S dX4_digest_277 hl 2 rfl rfl ?_
                                refine z_get S hG hP.1 zc_X4 1 (by decide) q4_227 rfl rfl dX4_digest_278 ?_
                                refine z_callVs S hG (c_X4_lightAt l G σ b (zI 0) m1 m2 (σ.tk) (by omega) hdt) ok_X4_lightAt hP.1 zc_X4 rfl q6_7 (hP) ⟨rfl, rfl, by decide, by decide⟩ ⟨(by show _ ≤ (42 : Nat); omega), (by show _ ≤ (216 : Nat); omega)⟩ rfl (Nat.le_of_ble_eq_true rfl) hl.1 rfl dX4_digest_281 ?_
                                refine lv_i2d S.1 S.2.1 dX4_digest_284 ?_
                                refine z_aload_n S dX4_digest_285 hl 2 rfl rfl ?_
                                refine z_get S hG hP.1 zc_X4 5 (by decide) q4_231 rfl rfl dX4_digest_286 ?_
                                refine z_alenI S hG hP.2.2.1 dX4_digest_289 ?_
                                refine lv_i2d S.1 S.2.1 dX4_digest_290 ?_
                                rw [i2d_32]
                                refine lv_ddiv S.1 S.2.1 dX4_digest_291 (by have := (mn_b hL).1; rw [← hLe] at this; exact this) ?_
                                refine lv_dmul S.1 S.2.1 dX4_digest_292 (by have := (mn_b hL).2; rw [← hLe] at this; exact this) ?_
                                refine lv_d2l S.1 S.2.1 dX4_digest_293 ?_
                                refine lv_ladd S.1 S.2.1 dX4_digest_294 ?_
                                refine lv_lstore_n (lv' := [(1, .long (((((d8) * (31)) + ((zI (ltM σ (30))).toInt64)) * (31)) + (FP.d2l (FP.dmul (4625196817309499392) (mnM σ))))), (3, .int (zI (n))), (0, .ref (b 0))]) S.1 S.2.1 dX4_digest_295 rfl hl (by decide) rfl (fun ls hl => ?_)
                                refine lv_lload_n S.1 S.2.1 dX4_digest_296 rfl (lv_at hl 0 rfl) ?_
                                refine lv_ldc2 S.1 S.2.1 S.2.2.2.1 (S.2.2.2.2 _ q6_139) dX4_digest_297 ?_
                                refine lv_lmul S.1 S.2.1 dX4_digest_300 ?_
                                refine z_aload_n S dX4_digest_301 hl 2 rfl rfl ?_
                                obtain ⟨z2, hz2⟩ : ∃ x : Nat, x = Hk94.size := ⟨_, rfl⟩
                                refine z_callM S hG hS (c_X4_isSoundNow l G σ b (zI 0) m1 m2 z2 hD hT) (fun y h => Or.inr (by have h2 : z2 ≤ y := h; omega)) ok_X4_isSoundNow hP.1 zc_X4 rfl q6_130 (⟨hP, hz2.symm⟩) ⟨rfl, rfl, by decide, by decide⟩ ⟨(by show _ ≤ (42 : Nat); omega), (by show _ ≤ (216 : Nat); omega)⟩ rfl (Nat.le_of_ble_eq_true rfl) hl.1 rfl dX4_digest_302 (fun H_3 L_3 hB hz oq hS => ?_)
                                have hP := hMod_keep hP (fun i hi => oq _ (hMod_lt hP hi) (by have := hMod_lt hP hi; show ¬ (z2 ≤ _); omega))
                                refine z_bif_eq S 312 dX4_digest_305 (by decide) (fun c_305 => ?_) (fun c_305 => ?_)
                                · skip
                                  refine z_iconst S dX4_digest_312 ?_
                                  refine lv_i2l S.1 S.2.1 dX4_digest_313 rfl ?_
                                  refine lv_ladd S.1 S.2.1 dX4_digest_314 ?_
                                  exact ret _ _ _ _ _ _ _ dX4_digest_315 (by rw [hd8, show n = σ.kn by omega]; unfold dgM; rw [c_305]; rfl) hS (hP) (by omega) (by omega)
                                · skip
                                  refine z_iconst S dX4_digest_308 ?_
                                  refine z_goto S 313 dX4_digest_309 (by decide) ?_
                                  refine lv_i2l S.1 S.2.1 dX4_digest_313 rfl ?_
                                  refine lv_ladd S.1 S.2.1 dX4_digest_314 ?_
                                  exact ret _ _ _ _ _ _ _ dX4_digest_315 (by rw [hd8, show n = σ.kn by omega]; unfold dgM; rw [c_305]; rfl) hS (hP) (by omega) (by omega)
                              · skip
                                refine lv_lload_n S.1 S.2.1 dX4_digest_235 rfl (lv_at hl 1 rfl) ?_
                                refine lv_ldc2 S.1 S.2.1 S.2.2.2.1 (S.2.2.2.2 _ q6_139) dX4_digest_236 ?_
                                refine lv_lmul S.1 S.2.1 dX4_digest_239 ?_
                                refine z_aload_n S dX4_digest_240 hl 2 rfl rfl ?_
                                refine z_iload_n S dX4_digest_241 hl 0 rfl rfl ?_
                                refine z_callVs S hG (c_X4_whenNow l G σ b (zI 0) m1 m2 (n) (by omega) hkn hdt hT) ok_X4_whenNow hP.1 zc_X4 rfl q6_114 (hP) ⟨rfl, rfl, by decide, by decide⟩ ⟨(by show _ ≤ (42 : Nat); omega), (by show _ ≤ (216 : Nat); omega)⟩ rfl (Nat.le_of_ble_eq_true rfl) hl.1 rfl dX4_digest_242 ?_
                                refine lv_i2l S.1 S.2.1 dX4_digest_245 rfl ?_
                                refine lv_ladd S.1 S.2.1 dX4_digest_246 ?_
                                refine lv_lstore_n (lv' := [(1, .long (((d8) * (31)) + ((zI (whn σ (n))).toInt64))), (3, .int (zI (n))), (0, .ref (b 0))]) S.1 S.2.1 dX4_digest_247 rfl hl (by decide) rfl (fun ls hl => ?_)
                                refine z_iinc (lv' := [(3, .int (zI (n + 1))), (1, .long (((d8) * (31)) + ((zI (whn σ (n))).toInt64))), (0, .ref (b 0))]) S dX4_digest_248 hl 1 rfl (by decide) rfl (fun ls hl => ?_)
                                refine z_goto S 224 dX4_digest_251 (by decide) ?_
                                exact ih_224 (n + 1) (((d8) * (31)) + ((zI (whn σ (n))).toInt64)) (by omega) (by rw [dn7_s hn.1, ← hd8]) (by omega) ls (lv_sub hl [0, 1, 2] rfl)
                          exact loop_224 _ (0) (((((d6) * (31)) + ((zI (fnd σ (1) (zI (2)) (σ.tk))).toInt64)) * (31)) + ((zI (mt σ (1) (zI (3)) (5) (zI (5)) σ.tk)).toInt64)) (by omega) (by rw [dn7_0, hd6, show q = 32 by omega]; unfold dn6; rfl) (Nat.lt_succ_self _) ls (lv_sub hl [0, 1, 2] rfl)
                        · skip
                          refine z_iconst S dX4_digest_152 ?_
                          refine z_istore (lv' := [(4, .int (zI (0))), (3, .int (zI (q))), (1, .long (d6)), (0, .ref (b 0))]) S dX4_digest_153 hl (by decide) rfl (fun ls hl => ?_)
                          have loop_155 : ∀ (nn : Nat) (u : Int) (d7 : Int64), (0 ≤ u ∧ u ≤ 4) → (d7 = mixI (mix1 (dF σ q)) (dn5 σ q) u) → ((4 - u).toNat) < nn → ∀ ls, lv_has ls 5 [(4, .int (zI (u))), (3, .int (zI (q))), (1, .long (d7)), (0, .ref (b 0))] → W p l env (rmM 10 225 42 216) s m ([.ref (b 0)] : List Value).toArray below meth cod Hk94 Lk94 (1 + 6 * j.toNat) (4 + 36 * j.toNat) Q (F0 m 155 ls []) := by
                            intro nn
                            induction nn with
                            | zero => intro _ _ _ _ h; exact absurd h (Nat.not_lt_zero _)
                            | succ nn ih_155 =>
                              intro u d7 hu hd7 hm_155 ls hl
                              refine z_iload S dX4_digest_155 hl 0 rfl ?_
                              refine z_iconst S dX4_digest_157 ?_
                              refine z_icmp_gt S 182 dX4_digest_158 (by decide) (by omega) (by omega) (fun c_158 => ?_) (fun c_158 => ?_)
                              · skip
                                refine z_iinc (lv' := [(3, .int (zI (q + 1))), (4, .int (zI (u))), (1, .long (d7)), (0, .ref (b 0))]) S dX4_digest_182 hl 1 rfl (by decide) rfl (fun ls hl => ?_)
                                refine z_goto S 143 dX4_digest_185 (by decide) ?_
                                exact ih_143 (q + 1) (d7) (by omega) (by rw [dn5_s hq.1, hd7, show u = 4 by omega]) (by omega) ls (lv_sub hl [0, 2, 3] rfl)
                              · skip
                                refine lv_lload_n S.1 S.2.1 dX4_digest_161 rfl (lv_at hl 2 rfl) ?_
                                refine lv_ldc2 S.1 S.2.1 S.2.2.2.1 (S.2.2.2.2 _ q6_139) dX4_digest_162 ?_
                                refine lv_lmul S.1 S.2.1 dX4_digest_165 ?_
                                refine z_aload_n S dX4_digest_166 hl 3 rfl rfl ?_
                                refine z_iload_n S dX4_digest_167 hl 1 rfl rfl ?_
                                refine z_iload S dX4_digest_168 hl 0 rfl ?_
                                refine z_callVs S hG (c_X4_dotNow l G σ b (zI 0) m1 m2 (q) (u) (by omega) (by omega) hdt hT) ok_X4_dotNow hP.1 zc_X4 rfl q5_203 (hP) ⟨rfl, rfl, by decide, by decide⟩ ⟨(by show _ ≤ (42 : Nat); omega), (by show _ ≤ (216 : Nat); omega)⟩ rfl (Nat.le_of_ble_eq_true rfl) hl.1 rfl dX4_digest_170 ?_
                                refine lv_i2l S.1 S.2.1 dX4_digest_173 rfl ?_
                                refine lv_ladd S.1 S.2.1 dX4_digest_174 ?_
                                refine lv_lstore_n (lv' := [(1, .long (((d7) * (31)) + ((dF σ (q) (u)).toInt64))), (4, .int (zI (u))), (3, .int (zI (q))), (0, .ref (b 0))]) S.1 S.2.1 dX4_digest_175 rfl hl (by decide) rfl (fun ls hl => ?_)
                                refine z_iinc (lv' := [(4, .int (zI (u + 1))), (1, .long (((d7) * (31)) + ((dF σ (q) (u)).toInt64))), (3, .int (zI (q))), (0, .ref (b 0))]) S dX4_digest_176 hl 1 rfl (by decide) rfl (fun ls hl => ?_)
                                refine z_goto S 155 dX4_digest_179 (by decide) ?_
                                exact ih_155 (u + 1) (((d7) * (31)) + ((dF σ (q) (u)).toInt64)) (by omega) (by rw [mix1_s hu.1, ← hd7]) (by omega) ls (lv_sub hl [0, 2, 1, 3] rfl)
                          exact loop_155 _ (0) (d6) (by omega) (by rw [mixI_0]; exact hd6) (Nat.lt_succ_self _) ls (lv_sub hl [0, 1, 2, 3] rfl)
                    exact loop_143 _ (0) (d4) (by omega) (by rw [dn5_0, hd4, show j = σ.rn by omega]) (Nat.lt_succ_self _) ls (lv_sub hl [0, 1, 2] rfl)
                  · skip
                    refine z_iconst S dX4_digest_105 ?_
                    refine z_istore (lv' := [(4, .int (zI (0))), (3, .int (zI (j))), (1, .long (d4)), (0, .ref (b 0))]) S dX4_digest_106 hl (by decide) rfl (fun ls hl => ?_)
                    have loop_108 : ∀ (nn : Nat) (v : Int) (d5 : Int64) (Hk108 : Heap) (Lk108 : List Loc), (va_S (fun y => mA σ b y ∨ sz ≤ y) s.heap Hk108 Lk108) → (hMod G σ b (zI 0) m1 m2 Hk108) → (sz ≤ Hk108.size) → (0 ≤ v ∧ v ≤ 6) → (d5 = mixI (mix1 (rF σ j)) (dn4 σ j) v) → ((6 - v).toNat) < nn → ∀ ls, lv_has ls 5 [(4, .int (zI (v))), (3, .int (zI (j))), (1, .long (d5)), (0, .ref (b 0))] → W p l env (rmM 10 225 42 216) s m ([.ref (b 0)] : List Value).toArray below meth cod Hk108 Lk108 (1 + 6 * j.toNat + v.toNat) (4 + 36 * j.toNat + 6 * v.toNat) Q (F0 m 108 ls []) := by
                      intro nn
                      induction nn with
                      | zero => intro _ _ _ _ _ _ _ _ _ h; exact absurd h (Nat.not_lt_zero _)
                      | succ nn ih_108 =>
                        intro v d5 Hk108 Lk108 hS hP hzk hv hd5 hm_108 ls hl
                        refine z_iload S dX4_digest_108 hl 0 rfl ?_
                        refine z_iconst S dX4_digest_110 ?_
                        refine z_icmp_gt S 135 dX4_digest_111 (by decide) (by omega) (by omega) (fun c_111 => ?_) (fun c_111 => ?_)
                        · skip
                          refine z_iinc (lv' := [(3, .int (zI (j + 1))), (4, .int (zI (v))), (1, .long (d5)), (0, .ref (b 0))]) S dX4_digest_135 hl 1 rfl (by decide) rfl (fun ls hl => ?_)
                          refine z_goto S 94 dX4_digest_138 (by decide) ?_
                          exact W.widen (by omega) (by omega) (ih_94 (j + 1) (d5) (Hk108) (Lk108) (hS) (hP) (by omega) (by omega) (by rw [dn4_s hj.1, hd5, show v = 6 by omega]) (by omega) ls (lv_sub hl [0, 2, 3] rfl))
                        · skip
                          refine lv_lload_n S.1 S.2.1 dX4_digest_114 rfl (lv_at hl 2 rfl) ?_
                          refine lv_ldc2 S.1 S.2.1 S.2.2.2.1 (S.2.2.2.2 _ q6_139) dX4_digest_115 ?_
                          refine lv_lmul S.1 S.2.1 dX4_digest_118 ?_
                          refine z_aload_n S dX4_digest_119 hl 3 rfl rfl ?_
                          refine z_iload_n S dX4_digest_120 hl 1 rfl rfl ?_
                          refine z_iload S dX4_digest_121 hl 0 rfl ?_
                          obtain ⟨z3, hz3⟩ : ∃ x : Nat, x = Hk108.size := ⟨_, rfl⟩
                          refine z_callM S hG hS (c_X4_ofRangeNow l G σ b (zI 0) m1 m2 z3 (j) (v) (by omega) (by omega) hT) (fun y h => Or.inr (by have h2 : z3 ≤ y := h; omega)) ok_X4_ofRangeNow hP.1 zc_X4 rfl q5_226 (⟨hP, hz3.symm⟩) ⟨rfl, rfl, by decide, by decide⟩ ⟨(by show _ ≤ (42 : Nat); omega), (by show _ ≤ (216 : Nat); omega)⟩ rfl (Nat.le_of_ble_eq_true rfl) hl.1 rfl dX4_digest_123 (fun H_4 L_4 hB hz oq hS => ?_)
                          have hP := hMod_keep hP (fun i hi => oq _ (hMod_lt hP hi) (by have := hMod_lt hP hi; show ¬ (z3 ≤ _); omega))
                          refine lv_i2l S.1 S.2.1 dX4_digest_126 rfl ?_
                          refine lv_ladd S.1 S.2.1 dX4_digest_127 ?_
                          refine lv_lstore_n (lv' := [(1, .long (((d5) * (31)) + ((rF σ (j) (v)).toInt64))), (4, .int (zI (v))), (3, .int (zI (j))), (0, .ref (b 0))]) S.1 S.2.1 dX4_digest_128 rfl hl (by decide) rfl (fun ls hl => ?_)
                          refine z_iinc (lv' := [(4, .int (zI (v + 1))), (1, .long (((d5) * (31)) + ((rF σ (j) (v)).toInt64))), (3, .int (zI (j))), (0, .ref (b 0))]) S dX4_digest_129 hl 1 rfl (by decide) rfl (fun ls hl => ?_)
                          refine z_goto S 108 dX4_digest_132 (by decide) ?_
                          exact W.widen (by omega) (by omega) (ih_108 (v + 1) (((d5) * (31)) + ((rF σ (j) (v)).toInt64)) (H_4) (L_4) (hS) (hP) (by omega) (by omega) (by rw [mix1_s hv.1, ← hd5]) (by omega) ls (lv_sub hl [0, 2, 1, 3] rfl))
                    exact W.widen (by omega) (by omega) (loop_108 _ (0) (d4) (Hk94) (Lk94) (hS) (hP) (by omega) (by omega) (by rw [mixI_0]; exact hd4) (Nat.lt_succ_self _) ls (lv_sub hl [0, 1, 2, 3] rfl))
              exact W.widen (by omega) (by omega) (loop_94 _ (0) (d2) (H_2) (L_2) (hS) (hP) (by omega) (by omega) (by rw [dn4_0, hd2, show e = 16 by omega]) (Nat.lt_succ_self _) ls (lv_sub hl [0, 1, 2] rfl))
            · skip
              refine z_iconst S dX4_digest_56 ?_
              refine z_istore (lv' := [(4, .int (zI (0))), (3, .int (zI (e))), (1, .long (d2)), (0, .ref (b 0))]) S dX4_digest_57 hl (by decide) rfl (fun ls hl => ?_)
              have loop_59 : ∀ (nn : Nat) (u : Int) (d3 : Int64), (0 ≤ u ∧ u ≤ 6) → (d3 = mixI (mix1 (eM σ e)) (dn3 σ e) u) → ((6 - u).toNat) < nn → ∀ ls, lv_has ls 5 [(4, .int (zI (u))), (3, .int (zI (e))), (1, .long (d3)), (0, .ref (b 0))] → W p l env (rmM 10 225 42 216) s m ([.ref (b 0)] : List Value).toArray below meth cod H_2 L_2 1 4 Q (F0 m 59 ls []) := by
                intro nn
                induction nn with
                | zero => intro _ _ _ _ h; exact absurd h (Nat.not_lt_zero _)
                | succ nn ih_59 =>
                  intro u d3 hu hd3 hm_59 ls hl
                  refine z_iload S dX4_digest_59 hl 0 rfl ?_
                  refine z_iconst S dX4_digest_61 ?_
                  refine z_icmp_gt S 86 dX4_digest_62 (by decide) (by omega) (by omega) (fun c_62 => ?_) (fun c_62 => ?_)
                  · skip
                    refine z_iinc (lv' := [(3, .int (zI (e + 1))), (4, .int (zI (u))), (1, .long (d3)), (0, .ref (b 0))]) S dX4_digest_86 hl 1 rfl (by decide) rfl (fun ls hl => ?_)
                    refine z_goto S 50 dX4_digest_89 (by decide) ?_
                    exact ih_50 (e + 1) (d3) (by omega) (by rw [dn3_s he.1, hd3, show u = 6 by omega]) (by omega) ls (lv_sub hl [0, 2, 3] rfl)
                  · skip
                    refine lv_lload_n S.1 S.2.1 dX4_digest_65 rfl (lv_at hl 2 rfl) ?_
                    refine lv_ldc2 S.1 S.2.1 S.2.2.2.1 (S.2.2.2.2 _ q6_139) dX4_digest_66 ?_
                    refine lv_lmul S.1 S.2.1 dX4_digest_69 ?_
                    refine z_aload_n S dX4_digest_70 hl 3 rfl rfl ?_
                    refine z_iload_n S dX4_digest_71 hl 1 rfl rfl ?_
                    refine z_iload S dX4_digest_72 hl 0 rfl ?_
                    refine z_callVs S hG (c_X4_ofEntryNow l G σ b (zI (0)) m1 m2 (e) (u) (by omega) (by omega) hdt hT) ok_X4_ofEntryNow hP.1 zc_X4 rfl q5_214 (hP) ⟨rfl, rfl, by decide, by decide⟩ ⟨Nat.le_of_ble_eq_true rfl, Nat.le_of_ble_eq_true rfl⟩ rfl (Nat.le_of_ble_eq_true rfl) hl.1 rfl dX4_digest_74 ?_
                    refine lv_i2l S.1 S.2.1 dX4_digest_77 rfl ?_
                    refine lv_ladd S.1 S.2.1 dX4_digest_78 ?_
                    refine lv_lstore_n (lv' := [(1, .long (((d3) * (31)) + ((eM σ (e) (u)).toInt64))), (4, .int (zI (u))), (3, .int (zI (e))), (0, .ref (b 0))]) S.1 S.2.1 dX4_digest_79 rfl hl (by decide) rfl (fun ls hl => ?_)
                    refine z_iinc (lv' := [(4, .int (zI (u + 1))), (1, .long (((d3) * (31)) + ((eM σ (e) (u)).toInt64))), (3, .int (zI (e))), (0, .ref (b 0))]) S dX4_digest_80 hl 1 rfl (by decide) rfl (fun ls hl => ?_)
                    refine z_goto S 59 dX4_digest_83 (by decide) ?_
                    exact ih_59 (u + 1) (((d3) * (31)) + ((eM σ (e) (u)).toInt64)) (by omega) (by rw [mix1_s hu.1, ← hd3]) (by omega) ls (lv_sub hl [0, 2, 1, 3] rfl)
              exact loop_59 _ (0) (d2) (by omega) (by rw [mixI_0]; exact hd2) (Nat.lt_succ_self _) ls (lv_sub hl [0, 1, 2, 3] rfl)
        exact loop_50 _ (0) (((d0) * (31)) + ((zI (per σ)).toInt64)) (by omega) (by rw [dn3_0, hd0, show k = 12 by omega]; unfold dn2 dn1; rfl) (Nat.lt_succ_self _) ls (lv_sub hl [0, 1, 2] rfl)
      · skip
        refine lv_lload_n S.1 S.2.1 dX4_digest_17 rfl (lv_at hl 1 rfl) ?_
        refine lv_ldc2 S.1 S.2.1 S.2.2.2.1 (S.2.2.2.2 _ q6_139) dX4_digest_18 ?_
        refine lv_lmul S.1 S.2.1 dX4_digest_21 ?_
        refine z_aload_n S dX4_digest_22 hl 2 rfl rfl ?_
        refine z_iload_n S dX4_digest_23 hl 0 rfl rfl ?_
        refine z_callVs S hG (c_X4_pictureNow l G σ b (zI (0)) m1 m2 (k) (by omega) hdt hT hlm) ok_X4_pictureNow hP.1 zc_X4 rfl q5_234 (hP) ⟨rfl, rfl, by decide, by decide⟩ ⟨Nat.zero_le _, Nat.zero_le _⟩ rfl (Nat.le_of_ble_eq_true rfl) hl.1 rfl dX4_digest_24 ?_
        refine lv_i2l S.1 S.2.1 dX4_digest_27 rfl ?_
        refine lv_ladd S.1 S.2.1 dX4_digest_28 ?_
        refine lv_lstore_n (lv' := [(1, .long (((d0) * (31)) + ((pM σ (k)).toInt64))), (3, .int (zI (k))), (0, .ref (b 0))]) S.1 S.2.1 dX4_digest_29 rfl hl (by decide) rfl (fun ls hl => ?_)
        refine z_iinc (lv' := [(3, .int (zI (k + 1))), (1, .long (((d0) * (31)) + ((pM σ (k)).toInt64))), (0, .ref (b 0))]) S dX4_digest_30 hl 1 rfl (by decide) rfl (fun ls hl => ?_)
        refine z_goto S 11 dX4_digest_33 (by decide) ?_
        exact ih_11 (k + 1) (((d0) * (31)) + ((pM σ (k)).toInt64)) (by omega) (by rw [mix1_s hk.1, ← hd0]) (by omega) ls (lv_sub hl [0, 1, 2] rfl)
  exact loop_11 _ (0) (7121) (by omega) (by rw [mixI_0]) (Nat.lt_succ_self _) ls (lv_sub hl [0, 1, 2] rfl)
