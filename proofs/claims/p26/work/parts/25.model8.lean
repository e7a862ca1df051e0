theorem dX4_range_0 : decode cX4_range 0 = .ok (.aload_n 0, 1) := by decide +kernel
theorem dX4_range_1 : decode cX4_range 1 = .ok (.iload_n 1, 1) := by decide +kernel
theorem dX4_range_2 : decode cX4_range 2 = .ok (.invokestatic 117, 3) := by decide +kernel
theorem dX4_range_5 : decode cX4_range 5 = .ok (.ifCond .ne 10, 3) := by decide +kernel
theorem dX4_range_8 : decode cX4_range 8 = .ok (.iload_n 2, 1) := by decide +kernel
theorem dX4_range_9 : decode cX4_range 9 = .ok (.invokestatic 117, 3) := by decide +kernel
theorem dX4_range_12 : decode cX4_range 12 = .ok (.ifCond .eq 7, 3) := by decide +kernel
theorem dX4_range_15 : decode cX4_range 15 = .ok (.iconst 1, 1) := by decide +kernel
theorem dX4_range_16 : decode cX4_range 16 = .ok (.goto 4, 3) := by decide +kernel
theorem dX4_range_19 : decode cX4_range 19 = .ok (.iconst 0, 1) := by decide +kernel
theorem dX4_range_20 : decode cX4_range 20 = .ok (.iconst 1, 1) := by decide +kernel
theorem dX4_range_21 : decode cX4_range 21 = .ok (.invokevirtual 121, 3) := by decide +kernel
theorem dX4_range_24 : decode cX4_range 24 = .ok (.ifCond .ne 74, 3) := by decide +kernel
theorem dX4_range_27 : decode cX4_range 27 = .ok (.aload_n 0, 1) := by decide +kernel
theorem dX4_range_28 : decode cX4_range 28 = .ok (.iload_n 2, 1) := by decide +kernel
theorem dX4_range_29 : decode cX4_range 29 = .ok (.iload_n 1, 1) := by decide +kernel
theorem dX4_range_30 : decode cX4_range 30 = .ok (.if_icmp .le 23, 3) := by decide +kernel
theorem dX4_range_33 : decode cX4_range 33 = .ok (.iload_n 3, 1) := by decide +kernel
theorem dX4_range_34 : decode cX4_range 34 = .ok (.iconst 1, 1) := by decide +kernel
theorem dX4_range_35 : decode cX4_range 35 = .ok (.bipush 9, 2) := by decide +kernel
theorem dX4_range_37 : decode cX4_range 37 = .ok (.invokestatic 37, 3) := by decide +kernel
theorem dX4_range_40 : decode cX4_range 40 = .ok (.ifCond .eq 13, 3) := by decide +kernel
theorem dX4_range_43 : decode cX4_range 43 = .ok (.iload 4, 2) := by decide +kernel
theorem dX4_range_45 : decode cX4_range 45 = .ok (.iconst 0, 1) := by decide +kernel
theorem dX4_range_46 : decode cX4_range 46 = .ok (.iconst 2, 1) := by decide +kernel
theorem dX4_range_47 : decode cX4_range 47 = .ok (.invokestatic 37, 3) := by decide +kernel
theorem dX4_range_50 : decode cX4_range 50 = .ok (.ifCond .ne 7, 3) := by decide +kernel
theorem dX4_range_53 : decode cX4_range 53 = .ok (.iconst 1, 1) := by decide +kernel
theorem dX4_range_54 : decode cX4_range 54 = .ok (.goto 4, 3) := by decide +kernel
theorem dX4_range_57 : decode cX4_range 57 = .ok (.iconst 0, 1) := by decide +kernel
theorem dX4_range_58 : decode cX4_range 58 = .ok (.iconst 2, 1) := by decide +kernel
theorem dX4_range_59 : decode cX4_range 59 = .ok (.invokevirtual 33, 3) := by decide +kernel
theorem dX4_range_62 : decode cX4_range 62 = .ok (.ifCond .ne 36, 3) := by decide +kernel
theorem dX4_range_65 : decode cX4_range 65 = .ok (.aload_n 0, 1) := by decide +kernel
theorem dX4_range_66 : decode cX4_range 66 = .ok (.aload_n 0, 1) := by decide +kernel
theorem dX4_range_67 : decode cX4_range 67 = .ok (.getfield 23, 3) := by decide +kernel
theorem dX4_range_70 : decode cX4_range 70 = .ok (.invokevirtual 41, 3) := by decide +kernel
theorem dX4_range_73 : decode cX4_range 73 = .ok (.iconst 4, 1) := by decide +kernel
theorem dX4_range_74 : decode cX4_range 74 = .ok (.if_icmp .eq 12, 3) := by decide +kernel
theorem dX4_range_77 : decode cX4_range 77 = .ok (.aload_n 0, 1) := by decide +kernel
theorem dX4_range_78 : decode cX4_range 78 = .ok (.iload_n 1, 1) := by decide +kernel
theorem dX4_range_79 : decode cX4_range 79 = .ok (.iload_n 2, 1) := by decide +kernel
theorem dX4_range_80 : decode cX4_range 80 = .ok (.invokevirtual 127, 3) := by decide +kernel
theorem dX4_range_83 : decode cX4_range 83 = .ok (.ifCond .eq 7, 3) := by decide +kernel
theorem dX4_range_86 : decode cX4_range 86 = .ok (.iconst 1, 1) := by decide +kernel
theorem dX4_range_87 : decode cX4_range 87 = .ok (.goto 4, 3) := by decide +kernel
theorem dX4_range_90 : decode cX4_range 90 = .ok (.iconst 0, 1) := by decide +kernel
theorem dX4_range_91 : decode cX4_range 91 = .ok (.iconst 3, 1) := by decide +kernel
theorem dX4_range_92 : decode cX4_range 92 = .ok (.invokevirtual 33, 3) := by decide +kernel
theorem dX4_range_95 : decode cX4_range 95 = .ok (.ifCond .eq 5, 3) := by decide +kernel
theorem dX4_range_98 : decode cX4_range 98 = .ok (.iconst 0, 1) := by decide +kernel
theorem dX4_range_99 : decode cX4_range 99 = .ok (.ireturn, 1) := by decide +kernel
theorem dX4_range_100 : decode cX4_range 100 = .ok (.aload_n 0, 1) := by decide +kernel
theorem dX4_range_101 : decode cX4_range 101 = .ok (.getfield 23, 3) := by decide +kernel
theorem dX4_range_104 : decode cX4_range 104 = .ok (.iconst 4, 1) := by decide +kernel
theorem dX4_range_105 : decode cX4_range 105 = .ok (.newarray .int, 2) := by decide +kernel
theorem dX4_range_107 : decode cX4_range 107 = .ok (.dup, 1) := by decide +kernel
theorem dX4_range_108 : decode cX4_range 108 = .ok (.iconst 0, 1) := by decide +kernel
theorem dX4_range_109 : decode cX4_range 109 = .ok (.iload_n 1, 1) := by decide +kernel
theorem dX4_range_110 : decode cX4_range 110 = .ok (.iastore, 1) := by decide +kernel
theorem dX4_range_111 : decode cX4_range 111 = .ok (.dup, 1) := by decide +kernel
theorem dX4_range_112 : decode cX4_range 112 = .ok (.iconst 1, 1) := by decide +kernel
theorem dX4_range_113 : decode cX4_range 113 = .ok (.iload_n 2, 1) := by decide +kernel
theorem dX4_range_114 : decode cX4_range 114 = .ok (.iload_n 1, 1) := by decide +kernel
theorem dX4_range_115 : decode cX4_range 115 = .ok (.isub, 1) := by decide +kernel
theorem dX4_range_116 : decode cX4_range 116 = .ok (.iconst 1, 1) := by decide +kernel
theorem dX4_range_117 : decode cX4_range 117 = .ok (.iadd, 1) := by decide +kernel
theorem dX4_range_118 : decode cX4_range 118 = .ok (.iastore, 1) := by decide +kernel
theorem dX4_range_119 : decode cX4_range 119 = .ok (.dup, 1) := by decide +kernel
theorem dX4_range_120 : decode cX4_range 120 = .ok (.iconst 2, 1) := by decide +kernel
theorem dX4_range_121 : decode cX4_range 121 = .ok (.iload_n 3, 1) := by decide +kernel
theorem dX4_range_122 : decode cX4_range 122 = .ok (.iastore, 1) := by decide +kernel
theorem dX4_range_123 : decode cX4_range 123 = .ok (.dup, 1) := by decide +kernel
theorem dX4_range_124 : decode cX4_range 124 = .ok (.iconst 3, 1) := by decide +kernel
theorem dX4_range_125 : decode cX4_range 125 = .ok (.iload 4, 2) := by decide +kernel
theorem dX4_range_127 : decode cX4_range 127 = .ok (.iastore, 1) := by decide +kernel
theorem dX4_range_128 : decode cX4_range 128 = .ok (.invokevirtual 130, 3) := by decide +kernel
theorem dX4_range_131 : decode cX4_range 131 = .ok (.pop, 1) := by decide +kernel
theorem dX4_range_132 : decode cX4_range 132 = .ok (.aload_n 0, 1) := by decide +kernel
theorem dX4_range_133 : decode cX4_range 133 = .ok (.getfield 23, 3) := by decide +kernel
theorem dX4_range_136 : decode cX4_range 136 = .ok (.invokevirtual 41, 3) := by decide +kernel
theorem dX4_range_139 : decode cX4_range 139 = .ok (.iconst 1, 1) := by decide +kernel
theorem dX4_range_140 : decode cX4_range 140 = .ok (.isub, 1) := by decide +kernel
theorem dX4_range_141 : decode cX4_range 141 = .ok (.ireturn, 1) := by decide +kernel
theorem q5_44 : (Jvm.Cond.methodLink "CyclepaintModel" (127 : Nat) ({ cls := "CyclepaintModel", name := "isTaken", desc := "(II)Z" } : Jvm.MethodName)) ∈ lw_g := zg_of (zin5 (List.mem_of_getElem? (i := 44) rfl)) rfl
theorem q5_65 : (Jvm.Cond.methodLink "CyclepaintModel" (130 : Nat) ({ cls := "java/util/ArrayList", name := "add", desc := "(Ljava/lang/Object;)Z" } : Jvm.MethodName)) ∈ lw_g := zg_of (zin5 (List.mem_of_getElem? (i := 65) rfl)) rfl
theorem q5_39 : (Jvm.Cond.code ({ cls := "CyclepaintModel", name := "range", desc := "(IIII)I" } : Jvm.MethodName) prog_6_method_30_code (5 : Nat) (Option.some Jvm.ClassFile.FieldType.int)) ∈ lw_g := zg_of (zin5 (List.mem_of_getElem? (i := 39) rfl)) rfl
theorem q5_37 : (Jvm.Cond.instanceMethod ({ cls := "CyclepaintModel", name := "range", desc := "(IIII)I" } : Jvm.MethodName)) ∈ lw_g := zg_of (zin5 (List.mem_of_getElem? (i := 37) rfl)) rfl
theorem q5_38 : (Jvm.Cond.selects "CyclepaintModel" ({ cls := "CyclepaintModel", name := "range", desc := "(IIII)I" } : Jvm.MethodName) ({ cls := "CyclepaintModel", name := "range", desc := "(IIII)I" } : Jvm.MethodName)) ∈ lw_g := zg_of (zin5 (List.mem_of_getElem? (i := 38) rfl)) rfl
theorem ok_X4_range : zOV yX4_range cX4_range 5 ((Option.some Jvm.ClassFile.FieldType.int)) 4 := ⟨⟨q5_39, q1_3, by decide, by decide, by decide +kernel⟩, q5_37, q5_38⟩
set_option maxHeartbeats 4000000 in
set_option maxRecDepth 100000 in
theorem c_X4_range (l : Launch) (G : zG) (σ : St) (b : Nat → Nat) (th m1 m2 : Int32) (sz : Nat) (hd : inj b (mL σ)) (hst : ∀ y : Nat, mA σ b y → y ≥ G.2 99) (f tt sp kd : Int) (hf : rg f) (htt : rg tt) (hsp : rg sp) (hkd : rg kd) (t : Int) (ht : t = ec3 ((!(decide (0 ≤ f) && decide (f ≤ 15))) || (!(decide (0 ≤ tt) && decide (tt ≤ 15)))) ((decide (tt ≤ f) || !(decide (1 ≤ sp) && decide (sp ≤ 9))) || !(decide (0 ≤ kd) && decide (kd ≤ 2))) (decide (σ.rn = 4) || tkM σ f tt)) : Met l yX4_range (wq yX4_range cX4_range 5 ((Option.some Jvm.ClassFile.FieldType.int))) (rmM 5 109 2 14) (va_Pc [.ref (b 0), .int (zI (f)), .int (zI (tt)), .int (zI (sp)), .int (zI (kd))] (zK G (fun H => hMod G σ b th m1 m2 H ∧ H.size = sz ∧ zHp G H ∧ zGr G σ b 5 σ.rn (elR σ b) H))) (zM (fun y => mA σ b y ∨ sz ≤ y ∨ (y = b 5 ∧ y ≥ G.2 99)) (some (.int ((if t = 0 then zI σ.rn else zI 0)))) (fun H => (t = 0 → ∃ e q : Nat, hMod G (addS σ f (tt - f + 1) sp kd) (addB σ b e q) (zI t) (m1 + zI 1) m2 H ∧ sz ≤ q ∧ q ≠ e ∧ (sz ≤ e ∨ (e = b 5 ∧ e ≥ G.2 99 ∧ ∀ j : Nat, mL σ j → j ≠ 5 → b j ≠ e))) ∧ (¬ t = 0 → hMod G σ b (zI t) m1 m2 H ∧ zGr G σ b 5 σ.rn (elR σ b) H))) 2 14 (fun y => mA σ b y ∨ sz ≤ y ∨ (y = b 5 ∧ y ≥ G.2 99)) := by
  refine z_enterMI (by decide +kernel) (Nat.le_of_ble_eq_true rfl) ?_
  intro p env s m below meth cod Q S hG hP hS ret ls hl
  have hl : lv_has ls 5 [(0, .ref (b 0)), (1, .int (zI (f))), (2, .int (zI (tt))), (3, .int (zI (sp))), (4, .int (zI (kd)))] := hl
  have hz0 := hP.2.1
  have hh := hP.2.2.1
  have hgr := hP.2.2.2
  have hP := hP.1
  have hO := hP.2.2.2.2.2.2.2.2.2
  have hrn := hO.1
  refine z_aload_n S dX4_range_0 hl 0 rfl rfl ?_
  refine z_iload_n S dX4_range_1 hl 1 rfl rfl ?_
  refine z_callSs S hG (c_X4_isNoEntry l G (f) (by omega)) ok_X4_isNoEntry q5_15 (trivial) ⟨rfl, rfl, by decide, by decide⟩ ⟨Nat.zero_le _, Nat.zero_le _⟩ rfl (Nat.le_of_ble_eq_true rfl) hl.1 rfl dX4_range_2 ?_
  refine z_bif_ne S 15 dX4_range_5 (by decide) (fun c_5 => ?_) (fun c_5 => ?_)
  · skip
    refine z_iconst S dX4_range_15 ?_
    refine z_goto S 20 dX4_range_16 (by decide) ?_
    refine z_iconst S dX4_range_20 ?_
    refine z_callM S hG hS (c_X4_start l G (σ) b th m1 m2 true (1) (by omega) hd (by exact hrn)) (fun _ h => Or.inl h) ok_X4_start hP.1 zc_X4 rfl q5_21 (hP) ⟨rfl, rfl, by decide, by decide⟩ ⟨Nat.le_of_ble_eq_true rfl, Nat.le_of_ble_eq_true rfl⟩ rfl (Nat.le_of_ble_eq_true rfl) hl.1 rfl dX4_range_21 (fun H_1 L_1 hB hz oq hS => ?_)
    have hP : hMod G (σ) b (zI 1) m1 m2 H_1 := hB
    have hh := zHp.kept hh (fun q h1 h2 => oq q h1 (fun z => by have := hst _ z; omega))
    have hgr := zGr_keepR hgr hP rfl oq (fun q _ z => z)
    refine z_bif_ne S 98 dX4_range_24 (by decide) (fun qz => ?_) (fun qz => ?_)
    rotate_left
    · exact absurd qz (by decide)
    refine z_iconst S dX4_range_98 ?_
    exact ret _ _ _ _ _ _ _ dX4_range_99 (by rw [ht, ec3_1 (by rw [c_5] <;> rfl)] <;> rfl) hS (⟨fun z => absurd z (by rw [ht, ec3_1 (by rw [c_5] <;> rfl)]; decide), fun _ => ⟨by rw [ht, ec3_1 (by rw [c_5] <;> rfl)]; exact hP, hgr⟩⟩) (Nat.le_of_ble_eq_true rfl) (Nat.le_of_ble_eq_true rfl)
  · skip
    refine z_iload_n S dX4_range_8 hl 2 rfl rfl ?_
    refine z_callSs S hG (c_X4_isNoEntry l G (tt) (by omega)) ok_X4_isNoEntry q5_15 (trivial) ⟨rfl, rfl, by decide, by decide⟩ ⟨Nat.zero_le _, Nat.zero_le _⟩ rfl (Nat.le_of_ble_eq_true rfl) hl.1 rfl dX4_range_9 ?_
    refine z_bif_eq S 19 dX4_range_12 (by decide) (fun c_12 => ?_) (fun c_12 => ?_)
    · skip
      refine z_iconst S dX4_range_19 ?_
      refine z_iconst S dX4_range_20 ?_
      refine z_callM S hG hS (c_X4_start l G (σ) b th m1 m2 false (1) (by omega) hd (by exact hrn)) (fun _ h => Or.inl h) ok_X4_start hP.1 zc_X4 rfl q5_21 (hP) ⟨rfl, rfl, by decide, by decide⟩ ⟨Nat.le_of_ble_eq_true rfl, Nat.le_of_ble_eq_true rfl⟩ rfl (Nat.le_of_ble_eq_true rfl) hl.1 rfl dX4_range_21 (fun H_2 L_2 hB hz oq hS => ?_)
      have hP : hMod G (σ) b (zI 0) m1 m2 H_2 := hB
      have hh := zHp.kept hh (fun q h1 h2 => oq q h1 (fun z => by have := hst _ z; omega))
      have hgr := zGr_keepR hgr hP rfl oq (fun q _ z => z)
      refine z_bif_ne S 98 dX4_range_24 (by decide) (fun qz => ?_) (fun qz => ?_)
      · exact absurd qz (by decide)
      refine z_aload_n S dX4_range_27 hl 0 rfl rfl ?_
      refine z_iload_n S dX4_range_28 hl 2 rfl rfl ?_
      refine z_iload_n S dX4_range_29 hl 1 rfl rfl ?_
      refine z_icmp_le S 53 dX4_range_30 (by decide) (by omega) (by omega) (fun c_30 => ?_) (fun c_30 => ?_)
      · skip
        refine z_iconst S dX4_range_53 ?_
        refine z_goto S 58 dX4_range_54 (by decide) ?_
        refine z_iconst S dX4_range_58 ?_
        refine z_callM S hG hS (c_X4_refuse l G (σ) b m1 m2 true (2) (by omega) hd (by exact hrn)) (fun _ h => Or.inl h) ok_X4_refuse hP.1 zc_X4 rfl q5_25 (hP) ⟨rfl, rfl, by decide, by decide⟩ ⟨Nat.le_of_ble_eq_true rfl, Nat.le_of_ble_eq_true rfl⟩ rfl (Nat.le_of_ble_eq_true rfl) hl.1 rfl dX4_range_59 (fun H_3 L_3 hB hz oq hS => ?_)
        have hP : hMod G (σ) b (zI 2) m1 m2 H_3 := hB
        have hh := zHp.kept hh (fun q h1 h2 => oq q h1 (fun z => by have := hst _ z; omega))
        have hgr := zGr_keepR hgr hP rfl oq (fun q _ z => z)
        refine z_bif_ne S 98 dX4_range_62 (by decide) (fun qz => ?_) (fun qz => ?_)
        rotate_left
        · exact absurd qz (by decide)
        refine z_iconst S dX4_range_98 ?_
        exact ret _ _ _ _ _ _ _ dX4_range_99 (by rw [ht, ec3_2 (by rw [c_5, c_12] <;> rfl) (by rw [decide_eq_true c_30] <;> rfl)] <;> rfl) hS (⟨fun z => absurd z (by rw [ht, ec3_2 (by rw [c_5, c_12] <;> rfl) (by rw [decide_eq_true c_30] <;> rfl)]; decide), fun _ => ⟨by rw [ht, ec3_2 (by rw [c_5, c_12] <;> rfl) (by rw [decide_eq_true c_30] <;> rfl)]; exact hP, hgr⟩⟩) (Nat.le_of_ble_eq_true rfl) (Nat.le_of_ble_eq_true rfl)
      · skip
        refine z_iload_n S dX4_range_33 hl 3 rfl rfl ?_
        refine z_iconst S dX4_range_34 ?_
        refine z_bipush S dX4_range_35 rfl ?_
        refine z_callSs S hG (c_X4_isIn l G (sp) (1) (9) (by omega)) ok_X4_isIn q5_18 (trivial) ⟨rfl, rfl, by decide, by decide⟩ ⟨Nat.zero_le _, Nat.zero_le _⟩ rfl (Nat.le_of_ble_eq_true rfl) hl.1 rfl dX4_range_37 ?_
        refine z_bif_eq S 53 dX4_range_40 (by decide) (fun c_40 => ?_) (fun c_40 => ?_)
        · skip
          refine z_iconst S dX4_range_53 ?_
          refine z_goto S 58 dX4_range_54 (by decide) ?_
          refine z_iconst S dX4_range_58 ?_
          refine z_callM S hG hS (c_X4_refuse l G (σ) b m1 m2 true (2) (by omega) hd (by exact hrn)) (fun _ h => Or.inl h) ok_X4_refuse hP.1 zc_X4 rfl q5_25 (hP) ⟨rfl, rfl, by decide, by decide⟩ ⟨Nat.le_of_ble_eq_true rfl, Nat.le_of_ble_eq_true rfl⟩ rfl (Nat.le_of_ble_eq_true rfl) hl.1 rfl dX4_range_59 (fun H_4 L_4 hB hz oq hS => ?_)
          have hP : hMod G (σ) b (zI 2) m1 m2 H_4 := hB
          have hh := zHp.kept hh (fun q h1 h2 => oq q h1 (fun z => by have := hst _ z; omega))
          have hgr := zGr_keepR hgr hP rfl oq (fun q _ z => z)
          refine z_bif_ne S 98 dX4_range_62 (by decide) (fun qz => ?_) (fun qz => ?_)
          rotate_left
          · exact absurd qz (by decide)
          refine z_iconst S dX4_range_98 ?_
          exact ret _ _ _ _ _ _ _ dX4_range_99 (by rw [ht, ec3_2 (by rw [c_5, c_12] <;> rfl) (by rw [decide_eq_false c_30, c_40] <;> rfl)] <;> rfl) hS (⟨fun z => absurd z (by rw [ht, ec3_2 (by rw [c_5, c_12] <;> rfl) (by rw [decide_eq_false c_30, c_40] <;> rfl)]; decide), fun _ => ⟨by rw [ht, ec3_2 (by rw [c_5, c_12] <;> rfl) (by rw [decide_eq_false c_30, c_40] <;> rfl)]; exact hP, hgr⟩⟩) (Nat.le_of_ble_eq_true rfl) (Nat.le_of_ble_eq_true rfl)
        · skip
          refine z_iload S dX4_range_43 hl 4 rfl ?_
          refine z_iconst S dX4_range_45 ?_
          refine z_iconst S dX4_range_46 ?_
          refine z_callSs S hG (c_X4_isIn l G (kd) (0) (2) (by omega)) ok_X4_isIn q5_18 (trivial) ⟨rfl, rfl, by decide, by decide⟩ ⟨Nat.zero_le _, Nat.zero_le _⟩ rfl (Nat.le_of_ble_eq_true rfl) hl.1 rfl dX4_range_47 ?_
          refine z_bif_ne S 57 dX4_range_50 (by decide) (fun c_50 => ?_) (fun c_50 => ?_)
          · skip
            refine z_iconst S dX4_range_57 ?_
            refine z_iconst S dX4_range_58 ?_
            refine z_callM S hG hS (c_X4_refuse l G (σ) b m1 m2 false (2) (by omega) hd (by exact hrn)) (fun _ h => Or.inl h) ok_X4_refuse hP.1 zc_X4 rfl q5_25 (hP) ⟨rfl, rfl, by decide, by decide⟩ ⟨Nat.le_of_ble_eq_true rfl, Nat.le_of_ble_eq_true rfl⟩ rfl (Nat.le_of_ble_eq_true rfl) hl.1 rfl dX4_range_59 (fun H_5 L_5 hB hz oq hS => ?_)
            have hP : hMod G (σ) b (zI 0) m1 m2 H_5 := hB
            have hh := zHp.kept hh (fun q h1 h2 => oq q h1 (fun z => by have := hst _ z; omega))
            have hgr := zGr_keepR hgr hP rfl oq (fun q _ z => z)
            refine z_bif_ne S 98 dX4_range_62 (by decide) (fun qz => ?_) (fun qz => ?_)
            · exact absurd qz (by decide)
            refine z_aload_n S dX4_range_65 hl 0 rfl rfl ?_
            refine z_aload_n S dX4_range_66 hl 0 rfl rfl ?_
            refine z_get S hG hP.1 zc_X4 6 (by decide) q4_232 rfl rfl dX4_range_67 ?_
            refine z_callVs S hG (c_alSize l G (b 3) (b 5) m1 σ.rn) ok_Jx4a65c_size_8abf5 hP.2.2.2.1 zc_Jx4a65c rfl q5_40 (hP.2.2.2.1) ⟨rfl, rfl, by decide, by decide⟩ ⟨Nat.zero_le _, Nat.zero_le _⟩ rfl (Nat.le_of_ble_eq_true rfl) hl.1 rfl dX4_range_70 ?_
            refine z_iconst S dX4_range_73 ?_
            refine z_icmp_eq S 86 dX4_range_74 (by decide) (by omega) (by omega) (fun c_74 => ?_) (fun c_74 => ?_)
            · skip
              refine z_iconst S dX4_range_86 ?_
              refine z_goto S 91 dX4_range_87 (by decide) ?_
              refine z_iconst S dX4_range_91 ?_
              refine z_callM S hG hS (c_X4_refuse l G (σ) b m1 m2 true (3) (by omega) hd (by exact hrn)) (fun _ h => Or.inl h) ok_X4_refuse hP.1 zc_X4 rfl q5_25 (hP) ⟨rfl, rfl, by decide, by decide⟩ ⟨Nat.le_of_ble_eq_true rfl, Nat.le_of_ble_eq_true rfl⟩ rfl (Nat.le_of_ble_eq_true rfl) hl.1 rfl dX4_range_92 (fun H_6 L_6 hB hz oq hS => ?_)
              have hP : hMod G (σ) b (zI 3) m1 m2 H_6 := hB
              have hh := zHp.kept hh (fun q h1 h2 => oq q h1 (fun z => by have := hst _ z; omega))
              have hgr := zGr_keepR hgr hP rfl oq (fun q _ z => z)
              refine z_bif_eq S 100 dX4_range_95 (by decide) (fun qz => ?_) (fun qz => ?_)
              · exact absurd qz (by decide)
              refine z_iconst S dX4_range_98 ?_
              exact ret _ _ _ _ _ _ _ dX4_range_99 (by rw [ht, ec3_3 (by rw [c_5, c_12] <;> rfl) (by rw [decide_eq_false c_30, c_40, c_50] <;> rfl) (by rw [decide_eq_true c_74] <;> rfl)] <;> rfl) hS (⟨fun z => absurd z (by rw [ht, ec3_3 (by rw [c_5, c_12] <;> rfl) (by rw [decide_eq_false c_30, c_40, c_50] <;> rfl) (by rw [decide_eq_true c_74] <;> rfl)]; decide), fun _ => ⟨by rw [ht, ec3_3 (by rw [c_5, c_12] <;> rfl) (by rw [decide_eq_false c_30, c_40, c_50] <;> rfl) (by rw [decide_eq_true c_74] <;> rfl)]; exact hP, hgr⟩⟩) (Nat.le_of_ble_eq_true rfl) (Nat.le_of_ble_eq_true rfl)
            · skip
              have hf2 := no_F c_5
              have ht2 := no_F c_12
              refine z_aload_n S dX4_range_77 hl 0 rfl rfl ?_
              refine z_iload_n S dX4_range_78 hl 1 rfl rfl ?_
              refine z_iload_n S dX4_range_79 hl 2 rfl rfl ?_
              refine z_callVs S hG (c_X4_isTaken l G σ b (zI 0) m1 m2 (f) (tt) (by omega) (by omega)) ok_X4_isTaken hP.1 zc_X4 rfl q5_44 (hP) ⟨rfl, rfl, by decide, by decide⟩ ⟨Nat.zero_le _, Nat.zero_le _⟩ rfl (Nat.le_of_ble_eq_true rfl) hl.1 rfl dX4_range_80 ?_
              refine z_bif_eq S 90 dX4_range_83 (by decide) (fun c_83 => ?_) (fun c_83 => ?_)
              · skip
                refine z_iconst S dX4_range_90 ?_
                refine z_iconst S dX4_range_91 ?_
                refine z_callM S hG hS (c_X4_refuse l G (σ) b m1 m2 false (3) (by omega) hd (by exact hrn)) (fun _ h => Or.inl h) ok_X4_refuse hP.1 zc_X4 rfl q5_25 (hP) ⟨rfl, rfl, by decide, by decide⟩ ⟨Nat.le_of_ble_eq_true rfl, Nat.le_of_ble_eq_true rfl⟩ rfl (Nat.le_of_ble_eq_true rfl) hl.1 rfl dX4_range_92 (fun H_7 L_7 hB hz oq hS => ?_)
                have hP : hMod G (σ) b (zI 0) m1 m2 H_7 := hB
                have hh := zHp.kept hh (fun q h1 h2 => oq q h1 (fun z => by have := hst _ z; omega))
                have hgr := zGr_keepR hgr hP rfl oq (fun q _ z => z)
                refine z_bif_eq S 100 dX4_range_95 (by decide) (fun qz => ?_) (fun qz => ?_)
                rotate_left
                · exact absurd qz (by decide)
                rcases hgr with hg | hg
                · skip
                  have hf2 := no_F c_5
                  have ht2 := no_F c_12
                  have hsp2 := in_T c_40
                  have hkd2 := in_T c_50
                  have hg0 := hg.1
                  have hg1 := hg.2
                  refine z_aload_n S dX4_range_100 hl 0 rfl rfl ?_
                  refine z_get S hG hP.1 zc_X4 6 (by decide) q4_232 rfl rfl dX4_range_101 ?_
                  refine z_iconst S dX4_range_104 ?_
                  refine z_newI (N := 4) S hG (Nat.le_of_ble_eq_true rfl) q_arrI hS ⟨Nat.le_of_ble_eq_true rfl, Nat.le_of_ble_eq_true rfl⟩ dX4_range_105 (fun n1 H_8 hq_n1 hat hz oq hS => ?_)
                  have ltb_n1 : ∀ i : Nat, mL σ i → b i < n1 := fun i hi => by rw [hq_n1]; exact hMod_lt hP hi
                  have hP := hMod_up hP (fun q h => oq q h)
                  have g99_n1 : n1 ≥ G.2 99 := by have h1 := hst _ ⟨0, mL_s (by decide), rfl⟩; have h2 := ltb_n1 0 (mL_s (by decide)); omega
                  have hh := zHp.kept hh (fun q h1 _ => oq q h1)
                  have h_n1 := hat
                  have h_n1 : va_at G.1 vwCl (n1, .inl (G.2 0, 4, .inl (zB (fun _ => 0)))) H_8 := h_n1
                  refine z_dup S dX4_range_107 rfl ?_
                  refine z_iconst S dX4_range_108 ?_
                  refine z_iload_n S dX4_range_109 hl 1 rfl rfl ?_
                  refine z_iastB S hG h_n1 hS (Or.inr (Or.inl (by omega))) (i := 0) (x := f) (by omega) (by decide) dX4_range_110 (fun H_9 L_9 hat hz oq hS => ?_)
                  have hP := hMod_keep hP (fun i hi => oq _ (by have := ltb_n1 i hi; omega))
                  have hh := zHp.kept hh (fun q _ h2 => oq q (by omega))
                  have h_n1 := hat
                  refine z_dup S dX4_range_111 rfl ?_
                  refine z_iconst S dX4_range_112 ?_
                  refine z_iload_n S dX4_range_113 hl 2 rfl rfl ?_
                  refine z_iload_n S dX4_range_114 hl 1 rfl rfl ?_
                  refine z_isub S dX4_range_115 ?_
                  refine z_iconst S dX4_range_116 ?_
                  refine z_iadd S dX4_range_117 ?_
                  refine z_iastB S hG h_n1 hS (Or.inr (Or.inl (by omega))) (i := 1) (x := ((tt) - (f)) + (1)) (by omega) (by decide) dX4_range_118 (fun H_10 L_10 hat hz oq hS => ?_)
                  have hP := hMod_keep hP (fun i hi => oq _ (by have := ltb_n1 i hi; omega))
                  have hh := zHp.kept hh (fun q _ h2 => oq q (by omega))
                  have h_n1 := hat
                  refine z_dup S dX4_range_119 rfl ?_
                  refine z_iconst S dX4_range_120 ?_
                  refine z_iload_n S dX4_range_121 hl 3 rfl rfl ?_
                  refine z_iastB S hG h_n1 hS (Or.inr (Or.inl (by omega))) (i := 2) (x := sp) (by omega) (by decide) dX4_range_122 (fun H_11 L_11 hat hz oq hS => ?_)
                  have hP := hMod_keep hP (fun i hi => oq _ (by have := ltb_n1 i hi; omega))
                  have hh := zHp.kept hh (fun q _ h2 => oq q (by omega))
                  have h_n1 := hat
                  refine z_dup S dX4_range_123 rfl ?_
                  refine z_iconst S dX4_range_124 ?_
                  refine z_iload S dX4_range_125 hl 4 rfl ?_
                  refine z_iastB S hG h_n1 hS (Or.inr (Or.inl (by omega))) (i := 3) (x := kd) (by omega) (by decide) dX4_range_127 (fun H_12 L_12 hat hz oq hS => ?_)
                  have hP := hMod_keep hP (fun i hi => oq _ (by have := ltb_n1 i hi; omega))
                  have hh := zHp.kept hh (fun q _ h2 => oq q (by omega))
                  have h_n1 := hat
                  have h_n1 : hR4 G n1 f (tt - f + 1) sp kd H_12 := va_cgB (r4_mk f (tt - f + 1) sp kd) h_n1
                  have n3 : ∀ i : Nat, mL σ i → i ≠ 3 → b i ≠ b 3 := fun i hi h3 z => h3 (hd i 3 hi (mL_s (by decide)) z)
                  have g3 := hst _ ⟨3, mL_s (by decide), rfl⟩
                  have l3 := ltb_n1 3 (mL_s (by decide))
                  have hh1 := hh.2.1
                  have hh2 := hh.2.2
                  have hQ9 : hAL G (b 3) (G.2 400) m1 0 H_12 := by have q9 := hP.2.2.2.1; rw [hg0, hg1] at q9; exact q9
                  obtain ⟨zz, hzz⟩ : ∃ x : Nat, x = H_12.size := ⟨_, rfl⟩
                  have lzn : n1 < zz := by rw [hzz]; exact va_lt h_n1
                  have lsz : sz ≤ zz := by omega
                  refine z_callM S hG hS (c_alAdd1 l G (b 3) zz n1 m1 (by omega) (by omega) (by omega)) (fun y h => h.elim (fun e => Or.inl ⟨3, mL_s (by decide), e⟩) (fun e => Or.inr (Or.inl (by have h2 : zz ≤ y := e; omega)))) ok_Jx4a65c_add_9ea2d hP.2.2.2.1 zc_Jx4a65c rfl q5_65 (⟨⟨hQ9, hh.1.1, hh.1.2, hzz.symm⟩, _, _, h_n1⟩) ⟨rfl, rfl, by decide, by decide⟩ ⟨Nat.le_of_ble_eq_true rfl, Nat.le_of_ble_eq_true rfl⟩ rfl (Nat.le_of_ble_eq_true rfl) hl.1 rfl dX4_range_128 (fun H_13 L_13 hB hz oq hS => ?_)
                  have h0 := va_at.kept hP.1 (oq _ (va_lt hP.1) (by have := ltb_n1 0 (mL_s (by decide)); have := n3 0 (mL_s (by decide)) (by decide); show ¬ (_ ∨ _); omega))
                  have h_n1 := va_at.kept h_n1 (oq _ (va_lt h_n1) (by show ¬ (_ ∨ _); omega))
                  have hP9 : hMod G (addS σ f (tt - f + 1) sp kd) (addB σ b zz n1) (zI 0) (m1 + zI 1) m2 H_13 := hMod_addR hP (by omega) ⟨⟨by omega, by omega, by omega⟩, by omega, by omega⟩ (by rw [hg1]; exact hB.1) (by rw [elR_0 hg1, hg1]; exact hB.2) h_n1 (fun i hi n3i _ => oq _ (hMod_lt hP hi) (by have := ltb_n1 i hi; have := n3 i hi n3i; show ¬ (_ ∨ _); omega))
                  have hB9 : ∃ e q : Nat, hMod G (addS σ f (tt - f + 1) sp kd) (addB σ b e q) (zI 0) (m1 + zI 1) m2 H_13 ∧ sz ≤ q ∧ q ≠ e ∧ (sz ≤ e ∨ (e = b 5 ∧ e ≥ G.2 99 ∧ ∀ j : Nat, mL σ j → j ≠ 5 → b j ≠ e)) := ⟨zz, n1, hP9, by omega, by omega, Or.inl (by omega)⟩
                  refine lv_pop S.1 S.2.1 dX4_range_131 rfl ?_
                  refine z_aload_n S dX4_range_132 hl 0 rfl rfl ?_
                  refine z_get S hG h0 zc_X4 6 (by decide) q4_232 rfl rfl dX4_range_133 ?_
                  refine z_callVs S hG (c_alSize l G (b 3) zz (m1 + zI 1) 1) ok_Jx4a65c_size_8abf5 hB.1 zc_Jx4a65c rfl q5_40 (hB.1) ⟨rfl, rfl, by decide, by decide⟩ ⟨Nat.le_of_ble_eq_true rfl, Nat.le_of_ble_eq_true rfl⟩ rfl (Nat.le_of_ble_eq_true rfl) hl.1 rfl dX4_range_136 ?_
                  refine z_iconst S dX4_range_139 ?_
                  refine z_isub S dX4_range_140 ?_
                  exact ret _ _ _ _ _ _ _ dX4_range_141 (by rw [ht, ec3_0 (by rw [c_5, c_12] <;> rfl) (by rw [decide_eq_false c_30, c_40, c_50] <;> rfl) (by rw [decide_eq_false c_74, c_83] <;> rfl)]; exact congrArg zI (by omega)) hS (⟨fun _ => by rw [ht, ec3_0 (by rw [c_5, c_12] <;> rfl) (by rw [decide_eq_false c_30, c_40, c_50] <;> rfl) (by rw [decide_eq_false c_74, c_83] <;> rfl)]; exact hB9, fun z => absurd (by rw [ht, ec3_0 (by rw [c_5, c_12] <;> rfl) (by rw [decide_eq_false c_30, c_40, c_50] <;> rfl) (by rw [decide_eq_false c_74, c_83] <;> rfl)]) z⟩) (Nat.le_of_ble_eq_true rfl) (Nat.le_of_ble_eq_true rfl)
                · skip
                  have hf2 := no_F c_5
                  have ht2 := no_F c_12
                  have hsp2 := in_T c_40
                  have hkd2 := in_T c_50
                  obtain ⟨hE5, hap, h99⟩ := hg
                  refine z_aload_n S dX4_range_100 hl 0 rfl rfl ?_
                  refine z_get S hG hP.1 zc_X4 6 (by decide) q4_232 rfl rfl dX4_range_101 ?_
                  refine z_iconst S dX4_range_104 ?_
                  refine z_newI (N := 4) S hG (Nat.le_of_ble_eq_true rfl) q_arrI hS ⟨Nat.le_of_ble_eq_true rfl, Nat.le_of_ble_eq_true rfl⟩ dX4_range_105 (fun n1 H_14 hq_n1 hat hz oq hS => ?_)
                  have ltb_n1 : ∀ i : Nat, mL σ i → b i < n1 := fun i hi => by rw [hq_n1]; exact hMod_lt hP hi
                  have hP := hMod_up hP (fun q h => oq q h)
                  have g99_n1 : n1 ≥ G.2 99 := by have h1 := hst _ ⟨0, mL_s (by decide), rfl⟩; have h2 := ltb_n1 0 (mL_s (by decide)); omega
                  have hh := zHp.kept hh (fun q h1 _ => oq q h1)
                  have lt_hE5_n1 : n1 > b 5 := by rw [hq_n1]; exact va_lt hE5
                  have hE5 := va_at.kept hE5 (oq _ (va_lt hE5))
                  have h_n1 := hat
                  have h_n1 : va_at G.1 vwCl (n1, .inl (G.2 0, 4, .inl (zB (fun _ => 0)))) H_14 := h_n1
                  refine z_dup S dX4_range_107 rfl ?_
                  refine z_iconst S dX4_range_108 ?_
                  refine z_iload_n S dX4_range_109 hl 1 rfl rfl ?_
                  refine z_iastB S hG h_n1 hS (Or.inr (Or.inl (by omega))) (i := 0) (x := f) (by omega) (by decide) dX4_range_110 (fun H_15 L_15 hat hz oq hS => ?_)
                  have hP := hMod_keep hP (fun i hi => oq _ (by have := ltb_n1 i hi; omega))
                  have hh := zHp.kept hh (fun q _ h2 => oq q (by omega))
                  have hE5 := va_at.kept hE5 (oq _ (show n1 ≠ b 5 by omega).symm)
                  have h_n1 := hat
                  refine z_dup S dX4_range_111 rfl ?_
                  refine z_iconst S dX4_range_112 ?_
                  refine z_iload_n S dX4_range_113 hl 2 rfl rfl ?_
                  refine z_iload_n S dX4_range_114 hl 1 rfl rfl ?_
                  refine z_isub S dX4_range_115 ?_
                  refine z_iconst S dX4_range_116 ?_
                  refine z_iadd S dX4_range_117 ?_
                  refine z_iastB S hG h_n1 hS (Or.inr (Or.inl (by omega))) (i := 1) (x := ((tt) - (f)) + (1)) (by omega) (by decide) dX4_range_118 (fun H_16 L_16 hat hz oq hS => ?_)
                  have hP := hMod_keep hP (fun i hi => oq _ (by have := ltb_n1 i hi; omega))
                  have hh := zHp.kept hh (fun q _ h2 => oq q (by omega))
                  have hE5 := va_at.kept hE5 (oq _ (show n1 ≠ b 5 by omega).symm)
                  have h_n1 := hat
                  refine z_dup S dX4_range_119 rfl ?_
                  refine z_iconst S dX4_range_120 ?_
                  refine z_iload_n S dX4_range_121 hl 3 rfl rfl ?_
                  refine z_iastB S hG h_n1 hS (Or.inr (Or.inl (by omega))) (i := 2) (x := sp) (by omega) (by decide) dX4_range_122 (fun H_17 L_17 hat hz oq hS => ?_)
                  have hP := hMod_keep hP (fun i hi => oq _ (by have := ltb_n1 i hi; omega))
                  have hh := zHp.kept hh (fun q _ h2 => oq q (by omega))
                  have hE5 := va_at.kept hE5 (oq _ (show n1 ≠ b 5 by omega).symm)
                  have h_n1 := hat
                  refine z_dup S dX4_range_123 rfl ?_
                  refine z_iconst S dX4_range_124 ?_
                  refine z_iload S dX4_range_125 hl 4 rfl ?_
                  refine z_iastB S hG h_n1 hS (Or.inr (Or.inl (by omega))) (i := 3) (x := kd) (by omega) (by decide) dX4_range_127 (fun H_18 L_18 hat hz oq hS => ?_)
                  have hP := hMod_keep hP (fun i hi => oq _ (by have := ltb_n1 i hi; omega))
                  have hh := zHp.kept hh (fun q _ h2 => oq q (by omega))
                  have hE5 := va_at.kept hE5 (oq _ (show n1 ≠ b 5 by omega).symm)
                  have h_n1 := hat
                  have h_n1 : hR4 G n1 f (tt - f + 1) sp kd H_18 := va_cgB (r4_mk f (tt - f + 1) sp kd) h_n1
                  have n3 : ∀ i : Nat, mL σ i → i ≠ 3 → b i ≠ b 3 := fun i hi h3 z => h3 (hd i 3 hi (mL_s (by decide)) z)
                  have g3 := hst _ ⟨3, mL_s (by decide), rfl⟩
                  have l3 := ltb_n1 3 (mL_s (by decide))
                  have l5 := lt_hE5_n1
                  have ap3 : b 3 ≠ b 5 := hap 3 (mL_s (by decide)) (by decide)
                  refine z_callM S hG hS (c_alAdd2 l G (b 3) (b 5) n1 m1 σ.rn (elR σ b) (by omega) ap3 (by omega) (by omega)) (fun y h => h.elim (fun e => Or.inl ⟨3, mL_s (by decide), e⟩) (fun e => Or.inr (Or.inr ⟨e, by rw [e]; exact h99⟩))) ok_Jx4a65c_add_9ea2d hP.2.2.2.1 zc_Jx4a65c rfl q5_65 (⟨hP.2.2.2.1, hE5, _, _, h_n1⟩) ⟨rfl, rfl, by decide, by decide⟩ ⟨Nat.le_of_ble_eq_true rfl, Nat.le_of_ble_eq_true rfl⟩ rfl (Nat.le_of_ble_eq_true rfl) hl.1 rfl dX4_range_128 (fun H_19 L_19 hB hz oq hS => ?_)
                  have h0 := va_at.kept hP.1 (oq _ (va_lt hP.1) (by have := hap 0 (mL_s (by decide)) (by decide); have := n3 0 (mL_s (by decide)) (by decide); show ¬ (_ ∨ _); omega))
                  have h_n1 := va_at.kept h_n1 (oq _ (va_lt h_n1) (by show ¬ (_ ∨ _); omega))
                  have hP9 : hMod G (addS σ f (tt - f + 1) sp kd) (addB σ b (b 5) n1) (zI 0) (m1 + zI 1) m2 H_19 := hMod_addR hP (by omega) ⟨⟨by omega, by omega, by omega⟩, by omega, by omega⟩ hB.1 hB.2 h_n1 (fun i hi n3i n5i => oq _ (hMod_lt hP hi) (by have := hap i hi n5i; have := n3 i hi n3i; show ¬ (_ ∨ _); omega))
                  have hB9 : ∃ e q : Nat, hMod G (addS σ f (tt - f + 1) sp kd) (addB σ b e q) (zI 0) (m1 + zI 1) m2 H_19 ∧ sz ≤ q ∧ q ≠ e ∧ (sz ≤ e ∨ (e = b 5 ∧ e ≥ G.2 99 ∧ ∀ j : Nat, mL σ j → j ≠ 5 → b j ≠ e)) := ⟨b 5, n1, hP9, by omega, by omega, Or.inr ⟨rfl, h99, hap⟩⟩
                  refine lv_pop S.1 S.2.1 dX4_range_131 rfl ?_
                  refine z_aload_n S dX4_range_132 hl 0 rfl rfl ?_
                  refine z_get S hG h0 zc_X4 6 (by decide) q4_232 rfl rfl dX4_range_133 ?_
                  refine z_callVs S hG (c_alSize l G (b 3) (b 5) (m1 + zI 1) (σ.rn + 1)) ok_Jx4a65c_size_8abf5 hB.1 zc_Jx4a65c rfl q5_40 (hB.1) ⟨rfl, rfl, by decide, by decide⟩ ⟨Nat.le_of_ble_eq_true rfl, Nat.le_of_ble_eq_true rfl⟩ rfl (Nat.le_of_ble_eq_true rfl) hl.1 rfl dX4_range_136 ?_
                  refine z_iconst S dX4_range_139 ?_
                  refine z_isub S dX4_range_140 ?_
                  exact ret _ _ _ _ _ _ _ dX4_range_141 (by rw [ht, ec3_0 (by rw [c_5, c_12] <;> rfl) (by rw [decide_eq_false c_30, c_40, c_50] <;> rfl) (by rw [decide_eq_false c_74, c_83] <;> rfl)]; exact congrArg zI (by omega)) hS (⟨fun _ => by rw [ht, ec3_0 (by rw [c_5, c_12] <;> rfl) (by rw [decide_eq_false c_30, c_40, c_50] <;> rfl) (by rw [decide_eq_false c_74, c_83] <;> rfl)]; exact hB9, fun z => absurd (by rw [ht, ec3_0 (by rw [c_5, c_12] <;> rfl) (by rw [decide_eq_false c_30, c_40, c_50] <;> rfl) (by rw [decide_eq_false c_74, c_83] <;> rfl)]) z⟩) (Nat.le_of_ble_eq_true rfl) (Nat.le_of_ble_eq_true rfl)
              · skip
                refine z_iconst S dX4_range_86 ?_
                refine z_goto S 91 dX4_range_87 (by decide) ?_
                refine z_iconst S dX4_range_91 ?_
                refine z_callM S hG hS (c_X4_refuse l G (σ) b m1 m2 true (3) (by omega) hd (by exact hrn)) (fun _ h => Or.inl h) ok_X4_refuse hP.1 zc_X4 rfl q5_25 (hP) ⟨rfl, rfl, by decide, by decide⟩ ⟨Nat.le_of_ble_eq_true rfl, Nat.le_of_ble_eq_true rfl⟩ rfl (Nat.le_of_ble_eq_true rfl) hl.1 rfl dX4_range_92 (fun H_20 L_20 hB hz oq hS => ?_)
                have hP : hMod G (σ) b (zI 3) m1 m2 H_20 := hB
                have hh := zHp.kept hh (fun q h1 h2 => oq q h1 (fun z => by have := hst _ z; omega))
                have hgr := zGr_keepR hgr hP rfl oq (fun q _ z => z)
                refine z_bif_eq S 100 dX4_range_95 (by decide) (fun qz => ?_) (fun qz => ?_)
                · exact absurd qz (by decide)
                refine z_iconst S dX4_range_98 ?_
                exact ret _ _ _ _ _ _ _ dX4_range_99 (by rw [ht, ec3_3 (by rw [c_5, c_12] <;> rfl) (by rw [decide_eq_false c_30, c_40, c_50] <;> rfl) (by rw [decide_eq_false c_74, c_83] <;> rfl)] <;> rfl) hS (⟨fun z => absurd z (by rw [ht, ec3_3 (by rw [c_5, c_12] <;> rfl) (by rw [decide_eq_false c_30, c_40, c_50] <;> rfl) (by rw [decide_eq_false c_74, c_83] <;> rfl)]; decide), fun _ => ⟨by rw [ht, ec3_3 (by rw [c_5, c_12] <;> rfl) (by rw [decide_eq_false c_30, c_40, c_50] <;> rfl) (by rw [decide_eq_false c_74, c_83] <;> rfl)]; exact hP, hgr⟩⟩) (Nat.le_of_ble_eq_true rfl) (Nat.le_of_ble_eq_true rfl)
          · skip
            refine z_iconst S dX4_range_53 ?_
            refine z_goto S 58 dX4_range_54 (by decide) ?_
            refine z_iconst S dX4_range_58 ?_
            refine z_callM S hG hS (c_X4_refuse l G (σ) b m1 m2 true (2) (by omega) hd (by exact hrn)) (fun _ h => Or.inl h) ok_X4_refuse hP.1 zc_X4 rfl q5_25 (hP) ⟨rfl, rfl, by decide, by decide⟩ ⟨Nat.le_of_ble_eq_true rfl, Nat.le_of_ble_eq_true rfl⟩ rfl (Nat.le_of_ble_eq_true rfl) hl.1 rfl dX4_range_59 (fun H_21 L_21 hB hz oq hS => ?_)
            have hP : hMod G (σ) b (zI 2) m1 m2 H_21 := hB
            have hh := zHp.kept hh (fun q h1 h2 => oq q h1 (fun z => by have := hst _ z; omega))
            have hgr := zGr_keepR hgr hP rfl oq (fun q _ z => z)
            refine z_bif_ne S 98 dX4_range_62 (by decide) (fun qz => ?_) (fun qz => ?_)
            rotate_left
            · exact absurd qz (by decide)
            refine z_iconst S dX4_range_98 ?_
            exact ret _ _ _ _ _ _ _ dX4_range_99 (by rw [ht, ec3_2 (by rw [c_5, c_12] <;> rfl) (by rw [decide_eq_false c_30, c_40, c_50] <;> rfl)] <;> rfl) hS (⟨fun z => absurd z (by rw [ht, ec3_2 (by rw [c_5, c_12] <;> rfl) (by rw [decide_eq_false c_30, c_40, c_50] <;> rfl)]; decide), fun _ => ⟨by rw [ht, ec3_2 (by rw [c_5, c_12] <;> rfl) (by rw [decide_eq_false c_30, c_40, c_50] <;> rfl)]; exact hP, hgr⟩⟩) (Nat.le_of_ble_eq_true rfl) (Nat.le_of_ble_eq_true rfl)
    · skip
      refine z_iconst S dX4_range_15 ?_
      refine z_goto S 20 dX4_range_16 (by decide) ?_
      refine z_iconst S dX4_range_20 ?_
      refine z_callM S hG hS (c_X4_start l G (σ) b th m1 m2 true (1) (by omega) hd (by exact hrn)) (fun _ h => Or.inl h) ok_X4_start hP.1 zc_X4 rfl q5_21 (hP) ⟨rfl, rfl, by decide, by decide⟩ ⟨Nat.le_of_ble_eq_true rfl, Nat.le_of_ble_eq_true rfl⟩ rfl (Nat.le_of_ble_eq_true rfl) hl.1 rfl dX4_range_21 (fun H_22 L_22 hB hz oq hS => ?_)
      have hP : hMod G (σ) b (zI 1) m1 m2 H_22 := hB
      have hh := zHp.kept hh (fun q h1 h2 => oq q h1 (fun z => by have := hst _ z; omega))
      have hgr := zGr_keepR hgr hP rfl oq (fun q _ z => z)
      refine z_bif_ne S 98 dX4_range_24 (by decide) (fun qz => ?_) (fun qz => ?_)
      rotate_left
      · exact absurd qz (by decide)
      refine z_iconst S dX4_range_98 ?_
      exact ret _ _ _ _ _ _ _ dX4_range_99 (by rw [ht, ec3_1 (by rw [c_5, c_12] <;> rfl)] <;> rfl) hS (⟨fun z => absurd z (by rw [ht, ec3_1 (by rw [c_5, c_12] <;> rfl)]; decide), fun _ => ⟨by rw [ht, ec3_1 (by rw [c_5, c_12] <;> rfl)]; exact hP, hgr⟩⟩) (Nat.le_of_ble_eq_true rfl) (Nat.le_of_ble_eq_true rfl)
def kpG (σ : St) : Int → Int32 := fun i => shw σ (σ.Dt i) σ.tk
def kpU (σ : St) (k : Int) : Int → Int32 := fun i => if 0 ≤ i ∧ i < k then kpG σ i else 0
theorem kpU_0 (σ : St) : kpU σ 0 = fun _ => 0 := by funext i; unfold kpU; rw [if_neg (by omega)]
theorem kpU_s (σ : St) {k : Int} (h : 0 ≤ k) : up (kpU σ k) k (kpG σ k) = kpU σ (k + 1) := by
  funext i; unfold up kpU
  by_cases q : i = k
  · rw [if_pos q, if_pos (by omega), q]
  · rw [if_neg q]
    by_cases r : 0 ≤ i ∧ i < k
    · rw [if_pos r, if_pos (by omega)]
    · rw [if_neg r, if_neg (by omega)]
theorem dX4_keep_0 : decode cX4_keep 0 = .ok (.aload_n 0, 1) := by decide +kernel
theorem dX4_keep_1 : decode cX4_keep 1 = .ok (.aload_n 0, 1) := by decide +kernel
theorem dX4_keep_2 : decode cX4_keep 2 = .ok (.getfield 27, 3) := by decide +kernel
theorem dX4_keep_5 : decode cX4_keep 5 = .ok (.invokevirtual 41, 3) := by decide +kernel
theorem dX4_keep_8 : decode cX4_keep 8 = .ok (.iconst 5, 1) := by decide +kernel
theorem dX4_keep_9 : decode cX4_keep 9 = .ok (.if_icmp .ne 7, 3) := by decide +kernel
theorem dX4_keep_12 : decode cX4_keep 12 = .ok (.iconst 1, 1) := by decide +kernel
theorem dX4_keep_13 : decode cX4_keep 13 = .ok (.goto 4, 3) := by decide +kernel
theorem dX4_keep_16 : decode cX4_keep 16 = .ok (.iconst 0, 1) := by decide +kernel
theorem dX4_keep_17 : decode cX4_keep 17 = .ok (.iconst 1, 1) := by decide +kernel
theorem dX4_keep_18 : decode cX4_keep 18 = .ok (.invokevirtual 121, 3) := by decide +kernel
theorem dX4_keep_21 : decode cX4_keep 21 = .ok (.ifCond .eq 5, 3) := by decide +kernel
theorem dX4_keep_24 : decode cX4_keep 24 = .ok (.iconst 0, 1) := by decide +kernel
theorem dX4_keep_25 : decode cX4_keep 25 = .ok (.ireturn, 1) := by decide +kernel
theorem dX4_keep_26 : decode cX4_keep 26 = .ok (.aload_n 0, 1) := by decide +kernel
theorem dX4_keep_27 : decode cX4_keep 27 = .ok (.getfield 17, 3) := by decide +kernel
theorem dX4_keep_30 : decode cX4_keep 30 = .ok (.arraylength, 1) := by decide +kernel
theorem dX4_keep_31 : decode cX4_keep 31 = .ok (.newarray .int, 2) := by decide +kernel
theorem dX4_keep_33 : decode cX4_keep 33 = .ok (.astore_n 1, 1) := by decide +kernel
theorem dX4_keep_34 : decode cX4_keep 34 = .ok (.iconst 0, 1) := by decide +kernel
theorem dX4_keep_35 : decode cX4_keep 35 = .ok (.istore_n 2, 1) := by decide +kernel
theorem dX4_keep_36 : decode cX4_keep 36 = .ok (.iload_n 2, 1) := by decide +kernel
theorem dX4_keep_37 : decode cX4_keep 37 = .ok (.aload_n 1, 1) := by decide +kernel
theorem dX4_keep_38 : decode cX4_keep 38 = .ok (.arraylength, 1) := by decide +kernel
theorem dX4_keep_39 : decode cX4_keep 39 = .ok (.if_icmp .ge 26, 3) := by decide +kernel
theorem dX4_keep_42 : decode cX4_keep 42 = .ok (.aload_n 1, 1) := by decide +kernel
theorem dX4_keep_43 : decode cX4_keep 43 = .ok (.iload_n 2, 1) := by decide +kernel
theorem dX4_keep_44 : decode cX4_keep 44 = .ok (.aload_n 0, 1) := by decide +kernel
theorem dX4_keep_45 : decode cX4_keep 45 = .ok (.aload_n 0, 1) := by decide +kernel
theorem dX4_keep_46 : decode cX4_keep 46 = .ok (.getfield 17, 3) := by decide +kernel
theorem dX4_keep_49 : decode cX4_keep 49 = .ok (.iload_n 2, 1) := by decide +kernel
theorem dX4_keep_50 : decode cX4_keep 50 = .ok (.iaload, 1) := by decide +kernel
theorem dX4_keep_51 : decode cX4_keep 51 = .ok (.aload_n 0, 1) := by decide +kernel
theorem dX4_keep_52 : decode cX4_keep 52 = .ok (.getfield 108, 3) := by decide +kernel
theorem dX4_keep_55 : decode cX4_keep 55 = .ok (.invokevirtual 84, 3) := by decide +kernel
theorem dX4_keep_58 : decode cX4_keep 58 = .ok (.iastore, 1) := by decide +kernel
theorem dX4_keep_59 : decode cX4_keep 59 = .ok (.iinc 2 1, 3) := by decide +kernel
theorem dX4_keep_62 : decode cX4_keep 62 = .ok (.goto (-26), 3) := by decide +kernel
theorem dX4_keep_65 : decode cX4_keep 65 = .ok (.aload_n 0, 1) := by decide +kernel
theorem dX4_keep_66 : decode cX4_keep 66 = .ok (.getfield 27, 3) := by decide +kernel
theorem dX4_keep_69 : decode cX4_keep 69 = .ok (.aload_n 1, 1) := by decide +kernel
theorem dX4_keep_70 : decode cX4_keep 70 = .ok (.invokevirtual 130, 3) := by decide +kernel
theorem dX4_keep_73 : decode cX4_keep 73 = .ok (.pop, 1) := by decide +kernel
theorem dX4_keep_74 : decode cX4_keep 74 = .ok (.aload_n 0, 1) := by decide +kernel
theorem dX4_keep_75 : decode cX4_keep 75 = .ok (.getfield 27, 3) := by decide +kernel
theorem dX4_keep_78 : decode cX4_keep 78 = .ok (.invokevirtual 41, 3) := by decide +kernel
theorem dX4_keep_81 : decode cX4_keep 81 = .ok (.iconst 1, 1) := by decide +kernel
theorem dX4_keep_82 : decode cX4_keep 82 = .ok (.isub, 1) := by decide +kernel
theorem dX4_keep_83 : decode cX4_keep 83 = .ok (.ireturn, 1) := by decide +kernel
theorem q5_182 : (Jvm.Cond.code ({ cls := "CyclepaintModel", name := "keep", desc := "()I" } : Jvm.MethodName) prog_6_method_36_code (3 : Nat) (Option.some Jvm.ClassFile.FieldType.int)) ∈ lw_g := zg_of (zin5 (List.mem_of_getElem? (i := 182) rfl)) rfl
theorem q5_180 : (Jvm.Cond.instanceMethod ({ cls := "CyclepaintModel", name := "keep", desc := "()I" } : Jvm.MethodName)) ∈ lw_g := zg_of (zin5 (List.mem_of_getElem? (i := 180) rfl)) rfl
theorem q5_181 : (Jvm.Cond.selects "CyclepaintModel" ({ cls := "CyclepaintModel", name := "keep", desc := "()I" } : Jvm.MethodName) ({ cls := "CyclepaintModel", name := "keep", desc := "()I" } : Jvm.MethodName)) ∈ lw_g := zg_of (zin5 (List.mem_of_getElem? (i := 181) rfl)) rfl
theorem ok_X4_keep : zOV yX4_keep cX4_keep 3 ((Option.some Jvm.ClassFile.FieldType.int)) 0 := ⟨⟨q5_182, q1_3, by decide, by decide, by decide +kernel⟩, q5_180, q5_181⟩
set_option maxHeartbeats 4000000 in
set_option maxRecDepth 100000 in
theorem c_X4_keep (l : Launch) (G : zG) (σ : St) (b : Nat → Nat) (th m1 m2 : Int32) (sz : Nat) (hd : inj b (mL σ)) (hst : ∀ y : Nat, mA σ b y → y ≥ G.2 99) (hkn0 : 0 ≤ σ.kn) (hkn : σ.kn ≤ 5) (hdt : ∀ d : Int, 0 ≤ d → d < 32 → 0 ≤ σ.Dt d ∧ σ.Dt d < 16) (hT : 0 ≤ σ.tk ∧ σ.tk ≤ 99999) (t : Int) (ht : t = ec (decide (σ.kn = 5)) false) : Met l yX4_keep (wq yX4_keep cX4_keep 3 ((Option.some Jvm.ClassFile.FieldType.int))) (rmM 5 110 2 42) (va_Pc [.ref (b 0)] (zK G (fun H => hMod G σ b th m1 m2 H ∧ H.size = sz ∧ zHp G H ∧ zGr G σ b 6 σ.kn (elK σ b) H))) (zM (fun y => mA σ b y ∨ sz ≤ y ∨ (y = b 6 ∧ y ≥ G.2 99)) (some (.int ((if t = 0 then zI σ.kn else zI 0)))) (fun H => (t = 0 → ∃ e q : Nat, hMod G (addKS σ (kpG σ)) (addKB σ b e q) (zI t) m1 (m2 + zI 1) H ∧ sz ≤ q ∧ q ≠ e ∧ (sz ≤ e ∨ (e = b 6 ∧ e ≥ G.2 99 ∧ ∀ j : Nat, mL σ j → j ≠ 6 → b j ≠ e))) ∧ (¬ t = 0 → hMod G σ b (zI t) m1 m2 H ∧ zGr G σ b 6 σ.kn (elK σ b) H))) 2 42 (fun y => mA σ b y ∨ sz ≤ y ∨ (y = b 6 ∧ y ≥ G.2 99)) := by
  refine z_enterMI (by decide +kernel) (Nat.le_of_ble_eq_true rfl) ?_
  intro p env s m below meth cod Q S hG hP hS ret ls hl
  have hl : lv_has ls 3 [(0, .ref (b 0))] := hl
  have hz0 := hP.2.1
  have hh := hP.2.2.1
  have hgr := hP.2.2.2
  have hP := hP.1
  have hO := hP.2.2.2.2.2.2.2.2.2
  have hrn := hO.1
  refine z_aload_n S dX4_keep_0 hl 0 rfl rfl ?_
  refine z_aload_n S dX4_keep_1 hl 0 rfl rfl ?_
  refine z_get S hG hP.1 zc_X4 7 (by decide) q4_233 rfl rfl dX4_keep_2 ?_
  refine z_callVs S hG (c_alSize l G (b 4) (b 6) m2 σ.kn) ok_Jx4a65c_size_8abf5 hP.2.2.2.2.1 zc_Jx4a65c rfl q5_40 (hP.2.2.2.2.1) ⟨rfl, rfl, by decide, by decide⟩ ⟨Nat.zero_le _, Nat.zero_le _⟩ rfl (Nat.le_of_ble_eq_true rfl) hl.1 rfl dX4_keep_5 ?_
  refine z_iconst S dX4_keep_8 ?_
  refine z_icmp_ne S 16 dX4_keep_9 (by decide) (by omega) (by omega) (fun c_9 => ?_) (fun c_9 => ?_)
  · skip
    refine z_iconst S dX4_keep_16 ?_
    refine z_iconst S dX4_keep_17 ?_
    refine z_callM S hG hS (c_X4_start l G (σ) b th m1 m2 false (1) (by omega) hd (by exact hrn)) (fun _ h => Or.inl h) ok_X4_start hP.1 zc_X4 rfl q5_21 (hP) ⟨rfl, rfl, by decide, by decide⟩ ⟨Nat.le_of_ble_eq_true rfl, Nat.le_of_ble_eq_true rfl⟩ rfl (Nat.le_of_ble_eq_true rfl) hl.1 rfl dX4_keep_18 (fun H_1 L_1 hB hz oq hS => ?_)
    have hP : hMod G (σ) b (zI 0) m1 m2 H_1 := hB
    have hh := zHp.kept hh (fun q h1 h2 => oq q h1 (fun z => by have := hst _ z; omega))
    have hgr := zGr_keepK hgr hP rfl hkn0 oq (fun q _ z => z)
    refine z_bif_eq S 26 dX4_keep_21 (by decide) (fun qz => ?_) (fun qz => ?_)
    rotate_left
    · exact absurd qz (by decide)
    rcases hgr with hg | hg
    · skip
      have hg0 := hg.1
      have hg1 := hg.2
      refine z_aload_n S dX4_keep_26 hl 0 rfl rfl ?_
      refine z_get S hG hP.1 zc_X4 5 (by decide) q4_231 rfl rfl dX4_keep_27 ?_
      refine z_alenI S hG hP.2.2.1 dX4_keep_30 ?_
      refine z_newI (N := 32) S hG (Nat.le_of_ble_eq_true rfl) q_arrI hS ⟨Nat.le_of_ble_eq_true rfl, Nat.le_of_ble_eq_true rfl⟩ dX4_keep_31 (fun n1 H_2 hq_n1 hat hz oq hS => ?_)
      have ltb_n1 : ∀ i : Nat, mL σ i → b i < n1 := fun i hi => by rw [hq_n1]; exact hMod_lt hP hi
      have hP := hMod_up hP (fun q h => oq q h)
      have g99_n1 : n1 ≥ G.2 99 := by have h1 := hst _ ⟨0, mL_s (by decide), rfl⟩; have h2 := ltb_n1 0 (mL_s (by decide)); omega
      have hh := zHp.kept hh (fun q h1 _ => oq q h1)
      have h_n1 := hat
      have h_n1 : va_at G.1 vwCl (n1, .inl (G.2 0, 32, .inl (zA (kpU σ 0)))) H_2 := by rw [kpU_0]; exact h_n1
      refine z_astore_n (lv' := [(1, .ref (n1)), (0, .ref (b 0))]) S dX4_keep_33 hl rfl (by decide) rfl (fun ls hl => ?_)
      refine z_iconst S dX4_keep_34 ?_
      refine z_istore_n (lv' := [(2, .int (zI (0))), (1, .ref (n1)), (0, .ref (b 0))]) S dX4_keep_35 hl rfl (by decide) rfl (fun ls hl => ?_)
      have loop_36 : ∀ (nn : Nat) (k : Int) (Hk36 : Heap) (Lk36 : List Loc), (0 ≤ k ∧ k ≤ 32) → (va_S (fun y => mA σ b y ∨ sz ≤ y ∨ (y = b 6 ∧ y ≥ G.2 99)) s.heap Hk36 Lk36) → (hMod G σ b (zI 0) m1 m2 Hk36) → (zHp G Hk36) → (va_at G.1 vwCl (n1, .inl (G.2 0, 32, .inl (zA (kpU σ k)))) Hk36) → ((32 - k).toNat) < nn → ∀ ls, lv_has ls 3 [(2, .int (zI (k))), (1, .ref (n1)), (0, .ref (b 0))] → W p l env (rmM 5 110 2 42) s m ([.ref (b 0)] : List Value).toArray below meth cod Hk36 Lk36 1 32 Q (F0 m 36 ls []) := by
        intro nn
        induction nn with
        | zero => intro _ _ _ _ _ _ _ _ h; exact absurd h (Nat.not_lt_zero _)
        | succ nn ih_36 =>
          intro k Hk36 Lk36 hk hS hP hh h_n1 hm_36 ls hl
          refine z_iload_n S dX4_keep_36 hl 0 rfl rfl ?_
          refine z_aload_n S dX4_keep_37 hl 1 rfl rfl ?_
          refine z_alenI S hG h_n1 dX4_keep_38 ?_
          refine z_icmp_ge S 65 dX4_keep_39 (by decide) (by omega) (by omega) (fun c_39 => ?_) (fun c_39 => ?_)
          · skip
            refine z_aload_n S dX4_keep_65 hl 2 rfl rfl ?_
            refine z_get S hG hP.1 zc_X4 7 (by decide) q4_233 rfl rfl dX4_keep_66 ?_
            refine z_aload_n S dX4_keep_69 hl 1 rfl rfl ?_
            have h_n1 : va_at G.1 vwCl (n1, .inl (G.2 0, 32, .inl (zA (kpG σ)))) Hk36 := va_cgA (fun j j0 j1 => by unfold kpU; rw [if_pos (by omega)]) h_n1
            have n4 : ∀ i : Nat, mL σ i → i ≠ 4 → b i ≠ b 4 := fun i hi h3 z => h3 (hd i 4 hi (mL_s (by decide)) z)
            have g4 := hst _ ⟨4, mL_s (by decide), rfl⟩
            have l4 := ltb_n1 4 (mL_s (by decide))
            have hh1 := hh.2.1
            have hh2 := hh.2.2
            have hQ9 : hAL G (b 4) (G.2 400) m2 0 Hk36 := by have q9 := hP.2.2.2.2.1; rw [hg0, hg1] at q9; exact q9
            obtain ⟨zz, hzz⟩ : ∃ x : Nat, x = Hk36.size := ⟨_, rfl⟩
            have lzn : n1 < zz := by rw [hzz]; exact va_lt h_n1
            have lsz : sz ≤ zz := by omega
            refine z_callM S hG hS (c_alAdd1 l G (b 4) zz n1 m2 (by omega) (by omega) (by omega)) (fun y h => h.elim (fun e => Or.inl ⟨4, mL_s (by decide), e⟩) (fun e => Or.inr (Or.inl (by have h2 : zz ≤ y := e; omega)))) ok_Jx4a65c_add_9ea2d hP.2.2.2.2.1 zc_Jx4a65c rfl q5_65 (⟨⟨hQ9, hh.1.1, hh.1.2, hzz.symm⟩, _, _, h_n1⟩) ⟨rfl, rfl, by decide, by decide⟩ ⟨Nat.le_of_ble_eq_true rfl, Nat.le_of_ble_eq_true rfl⟩ rfl (Nat.le_of_ble_eq_true rfl) hl.1 rfl dX4_keep_70 (fun H_3 L_3 hB hz oq hS => ?_)
            have h0 := va_at.kept hP.1 (oq _ (va_lt hP.1) (by have := ltb_n1 0 (mL_s (by decide)); have := n4 0 (mL_s (by decide)) (by decide); show ¬ (_ ∨ _); omega))
            have h_n1 := va_at.kept h_n1 (oq _ (va_lt h_n1) (by show ¬ (_ ∨ _); omega))
            have hP9 : hMod G (addKS σ (kpG σ)) (addKB σ b zz n1) (zI 0) m1 (m2 + zI 1) H_3 := hMod_addK hP hkn0 (by rw [hg1]; exact hB.1) (by rw [elK_0 hg1, hg1]; exact hB.2) h_n1 (fun i hi n3i n5i => oq _ (hMod_lt hP hi) (by have := ltb_n1 i hi; have := n4 i hi n3i; show ¬ (_ ∨ _); omega))
            have hB9 : ∃ e q : Nat, hMod G (addKS σ (kpG σ)) (addKB σ b e q) (zI 0) m1 (m2 + zI 1) H_3 ∧ sz ≤ q ∧ q ≠ e ∧ (sz ≤ e ∨ (e = b 6 ∧ e ≥ G.2 99 ∧ ∀ j : Nat, mL σ j → j ≠ 6 → b j ≠ e)) := ⟨zz, n1, hP9, by omega, by omega, Or.inl (by omega)⟩
            refine lv_pop S.1 S.2.1 dX4_keep_73 rfl ?_
            refine z_aload_n S dX4_keep_74 hl 2 rfl rfl ?_
            refine z_get S hG h0 zc_X4 7 (by decide) q4_233 rfl rfl dX4_keep_75 ?_
            refine z_callVs S hG (c_alSize l G (b 4) (zz) (m2 + zI 1) (1)) ok_Jx4a65c_size_8abf5 hB.1 zc_Jx4a65c rfl q5_40 (hB.1) ⟨rfl, rfl, by decide, by decide⟩ ⟨Nat.le_of_ble_eq_true rfl, Nat.le_of_ble_eq_true rfl⟩ rfl (Nat.le_of_ble_eq_true rfl) hl.1 rfl dX4_keep_78 ?_
            refine z_iconst S dX4_keep_81 ?_
            refine z_isub S dX4_keep_82 ?_
            exact ret _ _ _ _ _ _ _ dX4_keep_83 (by rw [ht, ec_0 (by rw [decide_eq_false (show ¬ σ.kn = 5 by omega)] <;> rfl) rfl]; exact congrArg zI (by omega)) hS (⟨fun _ => by rw [ht, ec_0 (by rw [decide_eq_false (show ¬ σ.kn = 5 by omega)] <;> rfl) rfl]; exact hB9, fun z => absurd (by rw [ht, ec_0 (by rw [decide_eq_false (show ¬ σ.kn = 5 by omega)] <;> rfl) rfl]) z⟩) (Nat.le_of_ble_eq_true rfl) (Nat.le_of_ble_eq_true rfl)
          · skip
            refine z_aload_n S dX4_keep_42 hl 1 rfl rfl ?_
            refine z_iload_n S dX4_keep_43 hl 0 rfl rfl ?_
            refine z_aload_n S dX4_keep_44 hl 2 rfl rfl ?_
            refine z_aload_n S dX4_keep_45 hl 2 rfl rfl ?_
            refine z_get S hG hP.1 zc_X4 5 (by decide) q4_231 rfl rfl dX4_keep_46 ?_
            have hdt0 := hdt k hk.1 (by omega)
            refine z_iload_n S dX4_keep_49 hl 0 rfl rfl ?_
            refine z_ialdB S hG hP.2.2.1 (by omega) (by decide) dX4_keep_50 ?_
            refine z_aload_n S dX4_keep_51 hl 2 rfl rfl ?_
            refine z_get S hG hP.1 zc_X4 1 (by decide) q4_227 rfl rfl dX4_keep_52 ?_
            refine z_callVs S hG (c_X4_show l G σ b (zI 0) m1 m2 (σ.Dt (k)) (σ.tk) (by omega) (by omega)) ok_X4_show hP.1 zc_X4 rfl q5_159 (hP) ⟨rfl, rfl, by decide, by decide⟩ ⟨Nat.le_of_ble_eq_true rfl, Nat.le_of_ble_eq_true rfl⟩ rfl (Nat.le_of_ble_eq_true rfl) hl.1 rfl dX4_keep_55 ?_
            refine z_iast S hG h_n1 hS (Or.inr (Or.inl (by omega))) (i := k) (x := (shw σ (σ.Dt (k)) (σ.tk))) (by omega) (by decide) dX4_keep_58 (fun H_4 L_4 hat hz oq hS => ?_)
            have hP := hMod_keep hP (fun i hi => oq _ (by have := ltb_n1 i hi; omega))
            have hh := zHp.kept hh (fun q _ h2 => oq q (by omega))
            rw [show shw σ (σ.Dt k) σ.tk = kpG σ k from rfl, kpU_s σ hk.1] at hat
            have h_n1 := hat
            refine z_iinc (lv' := [(2, .int (zI (k + 1))), (1, .ref (n1)), (0, .ref (b 0))]) S dX4_keep_59 hl 0 rfl (by decide) rfl (fun ls hl => ?_)
            refine z_goto S 36 dX4_keep_62 (by decide) ?_
            exact ih_36 (k + 1) (H_4) (L_4) (by omega) (hS) (hP) (hh) (h_n1) (by omega) ls (lv_sub hl [0, 1, 2] rfl)
      exact loop_36 _ (0) (H_2) (L_1) (by omega) (hS) (hP) (hh) (h_n1) (Nat.lt_succ_self _) ls (lv_sub hl [0, 1, 2] rfl)
    · skip
      obtain ⟨hE6, hap, h99⟩ := hg
      refine z_aload_n S dX4_keep_26 hl 0 rfl rfl ?_
      refine z_get S hG hP.1 zc_X4 5 (by decide) q4_231 rfl rfl dX4_keep_27 ?_
      refine z_alenI S hG hP.2.2.1 dX4_keep_30 ?_
      refine z_newI (N := 32) S hG (Nat.le_of_ble_eq_true rfl) q_arrI hS ⟨Nat.le_of_ble_eq_true rfl, Nat.le_of_ble_eq_true rfl⟩ dX4_keep_31 (fun n1 H_5 hq_n1 hat hz oq hS => ?_)
      have ltb_n1 : ∀ i : Nat, mL σ i → b i < n1 := fun i hi => by rw [hq_n1]; exact hMod_lt hP hi
      have hP := hMod_up hP (fun q h => oq q h)
      have g99_n1 : n1 ≥ G.2 99 := by have h1 := hst _ ⟨0, mL_s (by decide), rfl⟩; have h2 := ltb_n1 0 (mL_s (by decide)); omega
      have hh := zHp.kept hh (fun q h1 _ => oq q h1)
      have lt_hE6_n1 : n1 > b 6 := by rw [hq_n1]; exact va_lt hE6
      have hE6 := va_at.kept hE6 (oq _ (va_lt hE6))
      have h_n1 := hat
      have h_n1 : va_at G.1 vwCl (n1, .inl (G.2 0, 32, .inl (zA (kpU σ 0)))) H_5 := by rw [kpU_0]; exact h_n1
      refine z_astore_n (lv' := [(1, .ref (n1)), (0, .ref (b 0))]) S dX4_keep_33 hl rfl (by decide) rfl (fun ls hl => ?_)
      refine z_iconst S dX4_keep_34 ?_
      refine z_istore_n (lv' := [(2, .int (zI (0))), (1, .ref (n1)), (0, .ref (b 0))]) S dX4_keep_35 hl rfl (by decide) rfl (fun ls hl => ?_)
      have loop_36 : ∀ (nn : Nat) (k : Int) (Hk36 : Heap) (Lk36 : List Loc), (0 ≤ k ∧ k ≤ 32) → (va_S (fun y => mA σ b y ∨ sz ≤ y ∨ (y = b 6 ∧ y ≥ G.2 99)) s.heap Hk36 Lk36) → (hMod G σ b (zI 0) m1 m2 Hk36) → (zHp G Hk36) → (va_at G.1 vwCl (n1, .inl (G.2 0, 32, .inl (zA (kpU σ k)))) Hk36) → (hEd G (b 6) (elK σ b) Hk36) → ((32 - k).toNat) < nn → ∀ ls, lv_has ls 3 [(2, .int (zI (k))), (1, .ref (n1)), (0, .ref (b 0))] → W p l env (rmM 5 110 2 42) s m ([.ref (b 0)] : List Value).toArray below meth cod Hk36 Lk36 1 32 Q (F0 m 36 ls []) := by
        intro nn
        induction nn with
        | zero => intro _ _ _ _ _ _ _ _ _ h; exact absurd h (Nat.not_lt_zero _)
        | succ nn ih_36 =>
          intro k Hk36 Lk36 hk hS hP hh h_n1 hE6 hm_36 ls hl
          refine z_iload_n S dX4_keep_36 hl 0 rfl rfl ?_
          refine z_aload_n S dX4_keep_37 hl 1 rfl rfl ?_
          refine z_alenI S hG h_n1 dX4_keep_38 ?_
          refine z_icmp_ge S 65 dX4_keep_39 (by decide) (by omega) (by omega) (fun c_39 => ?_) (fun c_39 => ?_)
          · skip
            refine z_aload_n S dX4_keep_65 hl 2 rfl rfl ?_
            refine z_get S hG hP.1 zc_X4 7 (by decide) q4_233 rfl rfl dX4_keep_66 ?_
            refine z_aload_n S dX4_keep_69 hl 1 rfl rfl ?_
            have h_n1 : va_at G.1 vwCl (n1, .inl (G.2 0, 32, .inl (zA (kpG σ)))) Hk36 := va_cgA (fun j j0 j1 => by unfold kpU; rw [if_pos (by omega)]) h_n1
            have n4 : ∀ i : Nat, mL σ i → i ≠ 4 → b i ≠ b 4 := fun i hi h3 z => h3 (hd i 4 hi (mL_s (by decide)) z)
            have g4 := hst _ ⟨4, mL_s (by decide), rfl⟩
            have l4 := ltb_n1 4 (mL_s (by decide))
            have l6 := lt_hE6_n1
            have ap4 : b 4 ≠ b 6 := hap 4 (mL_s (by decide)) (by decide)
            refine z_callM S hG hS (c_alAdd2 l G (b 4) (b 6) n1 m2 σ.kn (elK σ b) (by omega) ap4 (by omega) (by omega)) (fun y h => h.elim (fun e => Or.inl ⟨4, mL_s (by decide), e⟩) (fun e => Or.inr (Or.inr ⟨e, by rw [e]; exact h99⟩))) ok_Jx4a65c_add_9ea2d hP.2.2.2.2.1 zc_Jx4a65c rfl q5_65 (⟨hP.2.2.2.2.1, hE6, _, _, h_n1⟩) ⟨rfl, rfl, by decide, by decide⟩ ⟨Nat.le_of_ble_eq_true rfl, Nat.le_of_ble_eq_true rfl⟩ rfl (Nat.le_of_ble_eq_true rfl) hl.1 rfl dX4_keep_70 (fun H_6 L_6 hB hz oq hS => ?_)
            have h0 := va_at.kept hP.1 (oq _ (va_lt hP.1) (by have := ltb_n1 0 (mL_s (by decide)); have := n4 0 (mL_s (by decide)) (by decide); have := hap 0 (mL_s (by decide)) (by decide); show ¬ (_ ∨ _); omega))
            have h_n1 := va_at.kept h_n1 (oq _ (va_lt h_n1) (by show ¬ (_ ∨ _); omega))
            have hP9 : hMod G (addKS σ (kpG σ)) (addKB σ b (b 6) n1) (zI 0) m1 (m2 + zI 1) H_6 := hMod_addK hP hkn0 (hB.1) (hB.2) h_n1 (fun i hi n3i n5i => oq _ (hMod_lt hP hi) (by have := ltb_n1 i hi; have := n4 i hi n3i; have := hap i hi n5i; show ¬ (_ ∨ _); omega))
            have hB9 : ∃ e q : Nat, hMod G (addKS σ (kpG σ)) (addKB σ b e q) (zI 0) m1 (m2 + zI 1) H_6 ∧ sz ≤ q ∧ q ≠ e ∧ (sz ≤ e ∨ (e = b 6 ∧ e ≥ G.2 99 ∧ ∀ j : Nat, mL σ j → j ≠ 6 → b j ≠ e)) := ⟨(b 6), n1, hP9, by omega, by omega, Or.inr ⟨rfl, h99, hap⟩⟩
            refine lv_pop S.1 S.2.1 dX4_keep_73 rfl ?_
            refine z_aload_n S dX4_keep_74 hl 2 rfl rfl ?_
            refine z_get S hG h0 zc_X4 7 (by decide) q4_233 rfl rfl dX4_keep_75 ?_
            refine z_callVs S hG (c_alSize l G (b 4) ((b 6)) (m2 + zI 1) (σ.kn + 1)) ok_Jx4a65c_size_8abf5 hB.1 zc_Jx4a65c rfl q5_40 (hB.1) ⟨rfl, rfl, by decide, by decide⟩ ⟨Nat.le_of_ble_eq_true rfl, Nat.le_of_ble_eq_true rfl⟩ rfl (Nat.le_of_ble_eq_true rfl) hl.1 rfl dX4_keep_78 ?_
            refine z_iconst S dX4_keep_81 ?_
            refine z_isub S dX4_keep_82 ?_
            exact ret _ _ _ _ _ _ _ dX4_keep_83 (by rw [ht, ec_0 (by rw [decide_eq_false (show ¬ σ.kn = 5 by omega)] <;> rfl) rfl]; exact congrArg zI (by omega)) hS (⟨fun _ => by rw [ht, ec_0 (by rw [decide_eq_false (show ¬ σ.kn = 5 by omega)] <;> rfl) rfl]; exact hB9, fun z => absurd (by rw [ht, ec_0 (by rw [decide_eq_false (show ¬ σ.kn = 5 by omega)] <;> rfl) rfl]) z⟩) (Nat.le_of_ble_eq_true rfl) (Nat.le_of_ble_eq_true rfl)
          · skip
            refine z_aload_n S dX4_keep_42 hl 1 rfl rfl ?_
            refine z_iload_n S dX4_keep_43 hl 0 rfl rfl ?_
            refine z_aload_n S dX4_keep_44 hl 2 rfl rfl ?_
            refine z_aload_n S dX4_keep_45 hl 2 rfl rfl ?_
            refine z_get S hG hP.1 zc_X4 5 (by decide) q4_231 rfl rfl dX4_keep_46 ?_
            have hdt0 := hdt k hk.1 (by omega)
            refine z_iload_n S dX4_keep_49 hl 0 rfl rfl ?_
            refine z_ialdB S hG hP.2.2.1 (by omega) (by decide) dX4_keep_50 ?_
            refine z_aload_n S dX4_keep_51 hl 2 rfl rfl ?_
            refine z_get S hG hP.1 zc_X4 1 (by decide) q4_227 rfl rfl dX4_keep_52 ?_
            refine z_callVs S hG (c_X4_show l G σ b (zI 0) m1 m2 (σ.Dt (k)) (σ.tk) (by omega) (by omega)) ok_X4_show hP.1 zc_X4 rfl q5_159 (hP) ⟨rfl, rfl, by decide, by decide⟩ ⟨Nat.le_of_ble_eq_true rfl, Nat.le_of_ble_eq_true rfl⟩ rfl (Nat.le_of_ble_eq_true rfl) hl.1 rfl dX4_keep_55 ?_
            refine z_iast S hG h_n1 hS (Or.inr (Or.inl (by omega))) (i := k) (x := (shw σ (σ.Dt (k)) (σ.tk))) (by omega) (by decide) dX4_keep_58 (fun H_7 L_7 hat hz oq hS => ?_)
            have hP := hMod_keep hP (fun i hi => oq _ (by have := ltb_n1 i hi; omega))
            have hh := zHp.kept hh (fun q _ h2 => oq q (by omega))
            have hE6 := va_at.kept hE6 (oq _ (show n1 ≠ b 6 by omega).symm)
            rw [show shw σ (σ.Dt k) σ.tk = kpG σ k from rfl, kpU_s σ hk.1] at hat
            have h_n1 := hat
            refine z_iinc (lv' := [(2, .int (zI (k + 1))), (1, .ref (n1)), (0, .ref (b 0))]) S dX4_keep_59 hl 0 rfl (by decide) rfl (fun ls hl => ?_)
            refine z_goto S 36 dX4_keep_62 (by decide) ?_
            exact ih_36 (k + 1) (H_7) (L_7) (by omega) (hS) (hP) (hh) (h_n1) (hE6) (by omega) ls (lv_sub hl [0, 1, 2] rfl)
      exact loop_36 _ (0) (H_5) (L_1) (by omega) (hS) (hP) (hh) (h_n1) (hE6) (Nat.lt_succ_self _) ls (lv_sub hl [0, 1, 2] rfl)
  · skip
    refine z_iconst S dX4_keep_12 ?_
    refine z_goto S 17 dX4_keep_13 (by decide) ?_
    refine z_iconst S dX4_keep_17 ?_
    refine z_callM S hG hS (c_X4_start l G (σ) b th m1 m2 true (1) (by omega) hd (by exact hrn)) (fun _ h => Or.inl h) ok_X4_start hP.1 zc_X4 rfl q5_21 (hP) ⟨rfl, rfl, by decide, by decide⟩ ⟨Nat.le_of_ble_eq_true rfl, Nat.le_of_ble_eq_true rfl⟩ rfl (Nat.le_of_ble_eq_true rfl) hl.1 rfl dX4_keep_18 (fun H_8 L_8 hB hz oq hS => ?_)
    have hP : hMod G (σ) b (zI 1) m1 m2 H_8 := hB
    have hh := zHp.kept hh (fun q h1 h2 => oq q h1 (fun z => by have := hst _ z; omega))
    have hgr := zGr_keepK hgr hP rfl hkn0 oq (fun q _ z => z)
    refine z_bif_eq S 26 dX4_keep_21 (by decide) (fun qz => ?_) (fun qz => ?_)
    · exact absurd qz (by decide)
    refine z_iconst S dX4_keep_24 ?_
    exact ret _ _ _ _ _ _ _ dX4_keep_25 (by rw [ht, ec_1 (by rw [decide_eq_true (show σ.kn = 5 by omega)] <;> rfl)] <;> rfl) hS (⟨fun z => absurd z (by rw [ht, ec_1 (by rw [decide_eq_true (show σ.kn = 5 by omega)] <;> rfl)]; decide), fun _ => ⟨by rw [ht, ec_1 (by rw [decide_eq_true (show σ.kn = 5 by omega)] <;> rfl)]; exact hP, hgr⟩⟩) (Nat.le_of_ble_eq_true rfl) (Nat.le_of_ble_eq_true rfl)
