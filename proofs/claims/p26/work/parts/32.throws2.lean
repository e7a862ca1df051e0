theorem q2_95 : (Jvm.Cond.classLink "Cyclepaint" (43 : Nat) "java/lang/IndexOutOfBoundsException") ∈ lw_g := zg_of (zin2 (List.mem_of_getElem? (i := 95) rfl)) rfl
theorem qt2_136 : (Jvm.Cond.stringRef "Cyclepaint" (45 : Nat) "no such entry") ∈ lw_tbl := zin2 (List.mem_of_getElem? (i := 136) rfl)
set_option maxHeartbeats 4000000 in
set_option maxRecDepth 100000 in
theorem x_colour_I (l : Launch) (hl0 : l.stackTraces = false) (G : zG) (σ : St) (a : Nat → Nat) (e x : Int) (re : rg e) (rx : rg x) (h1 : ¬ (0 ≤ e ∧ e ≤ 15)) : zThr l yX2_colour (wq yX2_colour cX2_colour 4 ((Option.some Jvm.ClassFile.FieldType.int))) (rmM 6 90 1 6) (va_Pc [.ref (a 0), .int (zI (e)), .int (zI (x))] (zK G (fun H => hCyc G σ a H ∧ zXp G H))) "java/lang/IndexOutOfBoundsException" := by
  refine z_enterX (by decide +kernel) (Nat.le_of_ble_eq_true rfl) hl0 ⟨by decide, by decide, by decide, by decide⟩ (fun H h => h.2) ?_
  intro p env s m below meth cod Q S hG hP thr ls hl
  have hl : lv_has ls 4 [(0, .ref (a 0)), (1, .int (zI (e))), (2, .int (zI (x)))] := hl
  have hX := hP.2
  have hP := hP.1
  have hC := hP.2.2.2.2.2
  have hT := hC.1
  have hdt := hC.2.1
  have hlm := hC.2.2.1
  have hkn := hC.2.2.2.1
  have hD := hC.2.2.2.2.1
  have hB := hC.2.2.2.2.2
  have hrn4 := hP.2.2.2.2.1.2.2.2.2.2.1
  refine z_iload_n S dX2_colour_0 hl 1 rfl rfl ?_
  refine z_callSs S hG (c_X2_isEntry l G (e) (by omega)) ok_X2_isEntry q1_137 (trivial) ⟨rfl, rfl, by decide, by decide⟩ ⟨Nat.zero_le _, Nat.zero_le _⟩ rfl (Nat.le_of_ble_eq_true rfl) hl.1 rfl dX2_colour_1 ?_
  refine z_bif_ne S 17 dX2_colour_4 (by decide) (fun c_4 => ?_) (fun c_4 => ?_)
  · skip
    have d_4 := c_4
    simp at d_4
    exfalso; omega
  · skip
    have d_4 := c_4
    simp at d_4
    exact thr 7 _ 43 45 47 "no such entry" zxw_I q2_95 qt2_136 dX2_colour_7 dX2_colour_10 dX2_colour_11 dX2_colour_13 dX2_colour_16 hl.1
theorem q2_166 : (Jvm.Cond.classLink "Cyclepaint" (53 : Nat) "java/lang/IllegalArgumentException") ∈ lw_g := zg_of (zin2 (List.mem_of_getElem? (i := 166) rfl)) rfl
theorem qt2_175 : (Jvm.Cond.stringRef "Cyclepaint" (55 : Nat) "no such colour") ∈ lw_tbl := zin2 (List.mem_of_getElem? (i := 175) rfl)
set_option maxHeartbeats 4000000 in
set_option maxRecDepth 100000 in
theorem x_colour_A (l : Launch) (hl0 : l.stackTraces = false) (G : zG) (σ : St) (a : Nat → Nat) (e x : Int) (re : rg e) (rx : rg x) (h1 : (0 ≤ e ∧ e ≤ 15)) (h2 : ¬ (0 ≤ x ∧ x ≤ 63)) : zThr l yX2_colour (wq yX2_colour cX2_colour 4 ((Option.some Jvm.ClassFile.FieldType.int))) (rmM 6 90 1 6) (va_Pc [.ref (a 0), .int (zI (e)), .int (zI (x))] (zK G (fun H => hCyc G σ a H ∧ zXp G H))) "java/lang/IllegalArgumentException" := by
  refine z_enterX (by decide +kernel) (Nat.le_of_ble_eq_true rfl) hl0 ⟨by decide, by decide, by decide, by decide⟩ (fun H h => h.2) ?_
  intro p env s m below meth cod Q S hG hP thr ls hl
  have hl : lv_has ls 4 [(0, .ref (a 0)), (1, .int (zI (e))), (2, .int (zI (x)))] := hl
  have hX := hP.2
  have hP := hP.1
  have hC := hP.2.2.2.2.2
  have hT := hC.1
  have hdt := hC.2.1
  have hlm := hC.2.2.1
  have hkn := hC.2.2.2.1
  have hD := hC.2.2.2.2.1
  have hB := hC.2.2.2.2.2
  have hrn4 := hP.2.2.2.2.1.2.2.2.2.2.1
  refine z_iload_n S dX2_colour_0 hl 1 rfl rfl ?_
  refine z_callSs S hG (c_X2_isEntry l G (e) (by omega)) ok_X2_isEntry q1_137 (trivial) ⟨rfl, rfl, by decide, by decide⟩ ⟨Nat.zero_le _, Nat.zero_le _⟩ rfl (Nat.le_of_ble_eq_true rfl) hl.1 rfl dX2_colour_1 ?_
  refine z_bif_ne S 17 dX2_colour_4 (by decide) (fun c_4 => ?_) (fun c_4 => ?_)
  · skip
    have d_4 := c_4
    simp at d_4
    refine z_iload_n S dX2_colour_17 hl 2 rfl rfl ?_
    refine z_callSs S hG (c_X2_isColour l G (x) (by omega)) ok_X2_isColour q2_163 (trivial) ⟨rfl, rfl, by decide, by decide⟩ ⟨Nat.zero_le _, Nat.zero_le _⟩ rfl (Nat.le_of_ble_eq_true rfl) hl.1 rfl dX2_colour_18 ?_
    refine z_bif_ne S 34 dX2_colour_21 (by decide) (fun c_21 => ?_) (fun c_21 => ?_)
    · skip
      have d_21 := c_21
      simp at d_21
      exfalso; omega
    · skip
      have d_21 := c_21
      simp at d_21
      exact thr 24 _ 53 55 57 "no such colour" zxw_A q2_166 qt2_175 dX2_colour_24 dX2_colour_27 dX2_colour_28 dX2_colour_30 dX2_colour_33 hl.1
  · skip
    have d_4 := c_4
    simp at d_4
    exfalso; omega
theorem qt2_196 : (Jvm.Cond.stringRef "Cyclepaint" (70 : Nat) "no such dot") ∈ lw_tbl := zin2 (List.mem_of_getElem? (i := 196) rfl)
set_option maxHeartbeats 4000000 in
set_option maxRecDepth 100000 in
theorem x_paint_I (l : Launch) (hl0 : l.stackTraces = false) (G : zG) (σ : St) (a : Nat → Nat) (v f tt x : Int) (rv : rg v) (rf : rg f) (rtt : rg tt) (rx : rg x) (h1 : ¬ ((0 ≤ v ∧ v ≤ 3) ∧ (0 ≤ f ∧ f ≤ 7) ∧ (0 ≤ tt ∧ tt ≤ 7))) : zThr l yX2_paint (wq yX2_paint cX2_paint 7 ((Option.some Jvm.ClassFile.FieldType.int))) (rmM 6 90 1 6) (va_Pc [.ref (a 0), .int (zI (v)), .int (zI (f)), .int (zI (tt)), .int (zI (x))] (zK G (fun H => hCyc G σ a H ∧ zXp G H))) "java/lang/IndexOutOfBoundsException" := by
  refine z_enterX (by decide +kernel) (Nat.le_of_ble_eq_true rfl) hl0 ⟨by decide, by decide, by decide, by decide⟩ (fun H h => h.2) ?_
  intro p env s m below meth cod Q S hG hP thr ls hl
  have hl : lv_has ls 7 [(0, .ref (a 0)), (1, .int (zI (v))), (2, .int (zI (f))), (3, .int (zI (tt))), (4, .int (zI (x)))] := hl
  have hX := hP.2
  have hP := hP.1
  have hC := hP.2.2.2.2.2
  have hT := hC.1
  have hdt := hC.2.1
  have hlm := hC.2.2.1
  have hkn := hC.2.2.2.1
  have hD := hC.2.2.2.2.1
  have hB := hC.2.2.2.2.2
  have hrn4 := hP.2.2.2.2.1.2.2.2.2.2.1
  refine z_iload_n S dX2_paint_0 hl 1 rfl rfl ?_
  refine z_iload_n S dX2_paint_1 hl 2 rfl rfl ?_
  refine z_callSs S hG (c_X2_isDot l G (v) (f) (by omega)) ok_X2_isDot q2_193 (trivial) ⟨rfl, rfl, by decide, by decide⟩ ⟨Nat.zero_le _, Nat.zero_le _⟩ rfl (Nat.le_of_ble_eq_true rfl) hl.1 rfl dX2_paint_2 ?_
  refine z_bif_eq S 16 dX2_paint_5 (by decide) (fun c_5 => ?_) (fun c_5 => ?_)
  · skip
    have d_5 := c_5
    simp at d_5
    exact thr 16 _ 43 70 47 "no such dot" zxw_I q2_95 qt2_196 dX2_paint_16 dX2_paint_19 dX2_paint_20 dX2_paint_22 dX2_paint_25 hl.1
  · skip
    have d_5 := c_5
    simp at d_5
    refine z_iload_n S dX2_paint_8 hl 1 rfl rfl ?_
    refine z_iload_n S dX2_paint_9 hl 3 rfl rfl ?_
    refine z_callSs S hG (c_X2_isDot l G (v) (tt) (by omega)) ok_X2_isDot q2_193 (trivial) ⟨rfl, rfl, by decide, by decide⟩ ⟨Nat.zero_le _, Nat.zero_le _⟩ rfl (Nat.le_of_ble_eq_true rfl) hl.1 rfl dX2_paint_10 ?_
    refine z_bif_ne S 26 dX2_paint_13 (by decide) (fun c_13 => ?_) (fun c_13 => ?_)
    · skip
      have d_13 := c_13
      simp at d_13
      exfalso; omega
    · skip
      have d_13 := c_13
      simp at d_13
      exact thr 16 _ 43 70 47 "no such dot" zxw_I q2_95 qt2_196 dX2_paint_16 dX2_paint_19 dX2_paint_20 dX2_paint_22 dX2_paint_25 hl.1
theorem qt2_197 : (Jvm.Cond.stringRef "Cyclepaint" (72 : Nat) "no dots, or no such entry") ∈ lw_tbl := zin2 (List.mem_of_getElem? (i := 197) rfl)
set_option maxHeartbeats 4000000 in
set_option maxRecDepth 100000 in
theorem x_paint_A (l : Launch) (hl0 : l.stackTraces = false) (G : zG) (σ : St) (a : Nat → Nat) (v f tt x : Int) (rv : rg v) (rf : rg f) (rtt : rg tt) (rx : rg x) (h1 : (0 ≤ v ∧ v ≤ 3) ∧ (0 ≤ f ∧ f ≤ 7) ∧ (0 ≤ tt ∧ tt ≤ 7)) (h2 : tt < f ∨ ¬ (0 ≤ x ∧ x ≤ 15)) : zThr l yX2_paint (wq yX2_paint cX2_paint 7 ((Option.some Jvm.ClassFile.FieldType.int))) (rmM 6 90 1 6) (va_Pc [.ref (a 0), .int (zI (v)), .int (zI (f)), .int (zI (tt)), .int (zI (x))] (zK G (fun H => hCyc G σ a H ∧ zXp G H))) "java/lang/IllegalArgumentException" := by
  refine z_enterX (by decide +kernel) (Nat.le_of_ble_eq_true rfl) hl0 ⟨by decide, by decide, by decide, by decide⟩ (fun H h => h.2) ?_
  intro p env s m below meth cod Q S hG hP thr ls hl
  have hl : lv_has ls 7 [(0, .ref (a 0)), (1, .int (zI (v))), (2, .int (zI (f))), (3, .int (zI (tt))), (4, .int (zI (x)))] := hl
  have hX := hP.2
  have hP := hP.1
  have hC := hP.2.2.2.2.2
  have hT := hC.1
  have hdt := hC.2.1
  have hlm := hC.2.2.1
  have hkn := hC.2.2.2.1
  have hD := hC.2.2.2.2.1
  have hB := hC.2.2.2.2.2
  have hrn4 := hP.2.2.2.2.1.2.2.2.2.2.1
  refine z_iload_n S dX2_paint_0 hl 1 rfl rfl ?_
  refine z_iload_n S dX2_paint_1 hl 2 rfl rfl ?_
  refine z_callSs S hG (c_X2_isDot l G (v) (f) (by omega)) ok_X2_isDot q2_193 (trivial) ⟨rfl, rfl, by decide, by decide⟩ ⟨Nat.zero_le _, Nat.zero_le _⟩ rfl (Nat.le_of_ble_eq_true rfl) hl.1 rfl dX2_paint_2 ?_
  refine z_bif_eq S 16 dX2_paint_5 (by decide) (fun c_5 => ?_) (fun c_5 => ?_)
  · skip
    have d_5 := c_5
    simp at d_5
    exfalso; omega
  · skip
    have d_5 := c_5
    simp at d_5
    refine z_iload_n S dX2_paint_8 hl 1 rfl rfl ?_
    refine z_iload_n S dX2_paint_9 hl 3 rfl rfl ?_
    refine z_callSs S hG (c_X2_isDot l G (v) (tt) (by omega)) ok_X2_isDot q2_193 (trivial) ⟨rfl, rfl, by decide, by decide⟩ ⟨Nat.zero_le _, Nat.zero_le _⟩ rfl (Nat.le_of_ble_eq_true rfl) hl.1 rfl dX2_paint_10 ?_
    refine z_bif_ne S 26 dX2_paint_13 (by decide) (fun c_13 => ?_) (fun c_13 => ?_)
    · skip
      have d_13 := c_13
      simp at d_13
      refine z_iload_n S dX2_paint_26 hl 3 rfl rfl ?_
      refine z_iload_n S dX2_paint_27 hl 2 rfl rfl ?_
      refine z_icmp_lt S 39 dX2_paint_28 (by decide) (by omega) (by omega) (fun c_28 => ?_) (fun c_28 => ?_)
      · skip
        exact thr 39 _ 53 72 57 "no dots, or no such entry" zxw_A q2_166 qt2_197 dX2_paint_39 dX2_paint_42 dX2_paint_43 dX2_paint_45 dX2_paint_48 hl.1
      · skip
        refine z_iload S dX2_paint_31 hl 4 rfl ?_
        refine z_callSs S hG (c_X2_isEntry l G (x) (by omega)) ok_X2_isEntry q1_137 (trivial) ⟨rfl, rfl, by decide, by decide⟩ ⟨Nat.zero_le _, Nat.zero_le _⟩ rfl (Nat.le_of_ble_eq_true rfl) hl.1 rfl dX2_paint_33 ?_
        refine z_bif_ne S 49 dX2_paint_36 (by decide) (fun c_36 => ?_) (fun c_36 => ?_)
        · skip
          have d_36 := c_36
          simp at d_36
          exfalso; omega
        · skip
          have d_36 := c_36
          simp at d_36
          exact thr 39 _ 53 72 57 "no dots, or no such entry" zxw_A q2_166 qt2_197 dX2_paint_39 dX2_paint_42 dX2_paint_43 dX2_paint_45 dX2_paint_48 hl.1
    · skip
      have d_13 := c_13
      simp at d_13
      exfalso; omega
set_option maxHeartbeats 4000000 in
set_option maxRecDepth 100000 in
theorem x_range_I (l : Launch) (hl0 : l.stackTraces = false) (G : zG) (σ : St) (a : Nat → Nat) (f tt sp kd : Int) (rf : rg f) (rtt : rg tt) (rsp : rg sp) (rkd : rg kd) (h1 : ¬ ((0 ≤ f ∧ f ≤ 15) ∧ (0 ≤ tt ∧ tt ≤ 15))) : zThr l yX2_range (wq yX2_range cX2_range 5 ((Option.some Jvm.ClassFile.FieldType.int))) (rmM 6 90 1 6) (va_Pc [.ref (a 0), .int (zI (f)), .int (zI (tt)), .int (zI (sp)), .int (zI (kd))] (zK G (fun H => hCyc G σ a H ∧ zXp G H))) "java/lang/IndexOutOfBoundsException" := by
  refine z_enterX (by decide +kernel) (Nat.le_of_ble_eq_true rfl) hl0 ⟨by decide, by decide, by decide, by decide⟩ (fun H h => h.2) ?_
  intro p env s m below meth cod Q S hG hP thr ls hl
  have hl : lv_has ls 5 [(0, .ref (a 0)), (1, .int (zI (f))), (2, .int (zI (tt))), (3, .int (zI (sp))), (4, .int (zI (kd)))] := hl
  have hX := hP.2
  have hP := hP.1
  have hC := hP.2.2.2.2.2
  have hT := hC.1
  have hdt := hC.2.1
  have hlm := hC.2.2.1
  have hkn := hC.2.2.2.1
  have hD := hC.2.2.2.2.1
  have hB := hC.2.2.2.2.2
  have hrn4 := hP.2.2.2.2.1.2.2.2.2.2.1
  refine z_iload_n S dX2_range_0 hl 1 rfl rfl ?_
  refine z_callSs S hG (c_X2_isEntry l G (f) (by omega)) ok_X2_isEntry q1_137 (trivial) ⟨rfl, rfl, by decide, by decide⟩ ⟨Nat.zero_le _, Nat.zero_le _⟩ rfl (Nat.le_of_ble_eq_true rfl) hl.1 rfl dX2_range_1 ?_
  refine z_bif_eq S 14 dX2_range_4 (by decide) (fun c_4 => ?_) (fun c_4 => ?_)
  · skip
    have d_4 := c_4
    simp at d_4
    exact thr 14 _ 43 45 47 "no such entry" zxw_I q2_95 qt2_136 dX2_range_14 dX2_range_17 dX2_range_18 dX2_range_20 dX2_range_23 hl.1
  · skip
    have d_4 := c_4
    simp at d_4
    refine z_iload_n S dX2_range_7 hl 2 rfl rfl ?_
    refine z_callSs S hG (c_X2_isEntry l G (tt) (by omega)) ok_X2_isEntry q1_137 (trivial) ⟨rfl, rfl, by decide, by decide⟩ ⟨Nat.zero_le _, Nat.zero_le _⟩ rfl (Nat.le_of_ble_eq_true rfl) hl.1 rfl dX2_range_8 ?_
    refine z_bif_ne S 24 dX2_range_11 (by decide) (fun c_11 => ?_) (fun c_11 => ?_)
    · skip
      have d_11 := c_11
      simp at d_11
      exfalso; omega
    · skip
      have d_11 := c_11
      simp at d_11
      exact thr 14 _ 43 45 47 "no such entry" zxw_I q2_95 qt2_136 dX2_range_14 dX2_range_17 dX2_range_18 dX2_range_20 dX2_range_23 hl.1
theorem qt2_212 : (Jvm.Cond.stringRef "Cyclepaint" (83 : Nat) "not a range, a speed or a kind") ∈ lw_tbl := zin2 (List.mem_of_getElem? (i := 212) rfl)
set_option maxHeartbeats 4000000 in
set_option maxRecDepth 100000 in
theorem x_range_A (l : Launch) (hl0 : l.stackTraces = false) (G : zG) (σ : St) (a : Nat → Nat) (f tt sp kd : Int) (rf : rg f) (rtt : rg tt) (rsp : rg sp) (rkd : rg kd) (h1 : (0 ≤ f ∧ f ≤ 15) ∧ (0 ≤ tt ∧ tt ≤ 15)) (h2 : tt ≤ f ∨ ¬ (1 ≤ sp ∧ sp ≤ 9) ∨ ¬ (0 ≤ kd ∧ kd ≤ 2)) : zThr l yX2_range (wq yX2_range cX2_range 5 ((Option.some Jvm.ClassFile.FieldType.int))) (rmM 6 90 1 6) (va_Pc [.ref (a 0), .int (zI (f)), .int (zI (tt)), .int (zI (sp)), .int (zI (kd))] (zK G (fun H => hCyc G σ a H ∧ zXp G H))) "java/lang/IllegalArgumentException" := by
  refine z_enterX (by decide +kernel) (Nat.le_of_ble_eq_true rfl) hl0 ⟨by decide, by decide, by decide, by decide⟩ (fun H h => h.2) ?_
  intro p env s m below meth cod Q S hG hP thr ls hl
  have hl : lv_has ls 5 [(0, .ref (a 0)), (1, .int (zI (f))), (2, .int (zI (tt))), (3, .int (zI (sp))), (4, .int (zI (kd)))] := hl
  have hX := hP.2
  have hP := hP.1
  have hC := hP.2.2.2.2.2
  have hT := hC.1
  have hdt := hC.2.1
  have hlm := hC.2.2.1
  have hkn := hC.2.2.2.1
  have hD := hC.2.2.2.2.1
  have hB := hC.2.2.2.2.2
  have hrn4 := hP.2.2.2.2.1.2.2.2.2.2.1
  refine z_iload_n S dX2_range_0 hl 1 rfl rfl ?_
  refine z_callSs S hG (c_X2_isEntry l G (f) (by omega)) ok_X2_isEntry q1_137 (trivial) ⟨rfl, rfl, by decide, by decide⟩ ⟨Nat.zero_le _, Nat.zero_le _⟩ rfl (Nat.le_of_ble_eq_true rfl) hl.1 rfl dX2_range_1 ?_
  refine z_bif_eq S 14 dX2_range_4 (by decide) (fun c_4 => ?_) (fun c_4 => ?_)
  · skip
    have d_4 := c_4
    simp at d_4
    exfalso; omega
  · skip
    have d_4 := c_4
    simp at d_4
    refine z_iload_n S dX2_range_7 hl 2 rfl rfl ?_
    refine z_callSs S hG (c_X2_isEntry l G (tt) (by omega)) ok_X2_isEntry q1_137 (trivial) ⟨rfl, rfl, by decide, by decide⟩ ⟨Nat.zero_le _, Nat.zero_le _⟩ rfl (Nat.le_of_ble_eq_true rfl) hl.1 rfl dX2_range_8 ?_
    refine z_bif_ne S 24 dX2_range_11 (by decide) (fun c_11 => ?_) (fun c_11 => ?_)
    · skip
      have d_11 := c_11
      simp at d_11
      refine z_iload_n S dX2_range_24 hl 2 rfl rfl ?_
      refine z_iload_n S dX2_range_25 hl 1 rfl rfl ?_
      refine z_icmp_le S 44 dX2_range_26 (by decide) (by omega) (by omega) (fun c_26 => ?_) (fun c_26 => ?_)
      · skip
        exact thr 44 _ 53 83 57 "not a range, a speed or a kind" zxw_A q2_166 qt2_212 dX2_range_44 dX2_range_47 dX2_range_48 dX2_range_50 dX2_range_53 hl.1
      · skip
        refine z_iload_n S dX2_range_29 hl 3 rfl rfl ?_
        refine z_callSs S hG (c_X2_isSpeed l G (sp) (by omega)) ok_X2_isSpeed q2_206 (trivial) ⟨rfl, rfl, by decide, by decide⟩ ⟨Nat.zero_le _, Nat.zero_le _⟩ rfl (Nat.le_of_ble_eq_true rfl) hl.1 rfl dX2_range_30 ?_
        refine z_bif_eq S 44 dX2_range_33 (by decide) (fun c_33 => ?_) (fun c_33 => ?_)
        · skip
          have d_33 := c_33
          simp at d_33
          exact thr 44 _ 53 83 57 "not a range, a speed or a kind" zxw_A q2_166 qt2_212 dX2_range_44 dX2_range_47 dX2_range_48 dX2_range_50 dX2_range_53 hl.1
        · skip
          have d_33 := c_33
          simp at d_33
          refine z_iload S dX2_range_36 hl 4 rfl ?_
          refine z_callSs S hG (c_X2_isKind l G (kd) (by omega)) ok_X2_isKind q2_209 (trivial) ⟨rfl, rfl, by decide, by decide⟩ ⟨Nat.zero_le _, Nat.zero_le _⟩ rfl (Nat.le_of_ble_eq_true rfl) hl.1 rfl dX2_range_38 ?_
          refine z_bif_ne S 54 dX2_range_41 (by decide) (fun c_41 => ?_) (fun c_41 => ?_)
          · skip
            have d_41 := c_41
            simp at d_41
            exfalso; omega
          · skip
            have d_41 := c_41
            simp at d_41
            exact thr 44 _ 53 83 57 "not a range, a speed or a kind" zxw_A q2_166 qt2_212 dX2_range_44 dX2_range_47 dX2_range_48 dX2_range_50 dX2_range_53 hl.1
    · skip
      have d_11 := c_11
      simp at d_11
      exfalso; omega
theorem q2_217 : (Jvm.Cond.classLink "Cyclepaint" (92 : Nat) "java/lang/IllegalStateException") ∈ lw_g := zg_of (zin2 (List.mem_of_getElem? (i := 217) rfl)) rfl
theorem qt2_226 : (Jvm.Cond.stringRef "Cyclepaint" (94 : Nat) "no place for another range") ∈ lw_tbl := zin2 (List.mem_of_getElem? (i := 226) rfl)
set_option maxHeartbeats 4000000 in
set_option maxRecDepth 100000 in
theorem x_range_S (l : Launch) (hl0 : l.stackTraces = false) (G : zG) (σ : St) (a : Nat → Nat) (f tt sp kd : Int) (rf : rg f) (rtt : rg tt) (rsp : rg sp) (rkd : rg kd) (h1 : (0 ≤ f ∧ f ≤ 15) ∧ (0 ≤ tt ∧ tt ≤ 15)) (h2 : f < tt ∧ (1 ≤ sp ∧ sp ≤ 9) ∧ (0 ≤ kd ∧ kd ≤ 2)) (h4 : allI (frB σ f tt) 16 = false) : zThr l yX2_range (wq yX2_range cX2_range 5 ((Option.some Jvm.ClassFile.FieldType.int))) (rmM 6 90 1 6) (va_Pc [.ref (a 0), .int (zI (f)), .int (zI (tt)), .int (zI (sp)), .int (zI (kd))] (zK G (fun H => hCyc G σ a H ∧ zXp G H))) "java/lang/IllegalStateException" := by
  refine z_enterX (by decide +kernel) (Nat.le_of_ble_eq_true rfl) hl0 ⟨by decide, by decide, by decide, by decide⟩ (fun H h => h.2) ?_
  intro p env s m below meth cod Q S hG hP thr ls hl
  have hl : lv_has ls 5 [(0, .ref (a 0)), (1, .int (zI (f))), (2, .int (zI (tt))), (3, .int (zI (sp))), (4, .int (zI (kd)))] := hl
  have hX := hP.2
  have hP := hP.1
  have hC := hP.2.2.2.2.2
  have hT := hC.1
  have hdt := hC.2.1
  have hlm := hC.2.2.1
  have hkn := hC.2.2.2.1
  have hD := hC.2.2.2.2.1
  have hB := hC.2.2.2.2.2
  have hrn4 := hP.2.2.2.2.1.2.2.2.2.2.1
  refine z_iload_n S dX2_range_0 hl 1 rfl rfl ?_
  refine z_callSs S hG (c_X2_isEntry l G (f) (by omega)) ok_X2_isEntry q1_137 (trivial) ⟨rfl, rfl, by decide, by decide⟩ ⟨Nat.zero_le _, Nat.zero_le _⟩ rfl (Nat.le_of_ble_eq_true rfl) hl.1 rfl dX2_range_1 ?_
  refine z_bif_eq S 14 dX2_range_4 (by decide) (fun c_4 => ?_) (fun c_4 => ?_)
  · skip
    have d_4 := c_4
    simp at d_4
    exfalso; omega
  · skip
    have d_4 := c_4
    simp at d_4
    refine z_iload_n S dX2_range_7 hl 2 rfl rfl ?_
    refine z_callSs S hG (c_X2_isEntry l G (tt) (by omega)) ok_X2_isEntry q1_137 (trivial) ⟨rfl, rfl, by decide, by decide⟩ ⟨Nat.zero_le _, Nat.zero_le _⟩ rfl (Nat.le_of_ble_eq_true rfl) hl.1 rfl dX2_range_8 ?_
    refine z_bif_ne S 24 dX2_range_11 (by decide) (fun c_11 => ?_) (fun c_11 => ?_)
    · skip
      have d_11 := c_11
      simp at d_11
      refine z_iload_n S dX2_range_24 hl 2 rfl rfl ?_
      refine z_iload_n S dX2_range_25 hl 1 rfl rfl ?_
      refine z_icmp_le S 44 dX2_range_26 (by decide) (by omega) (by omega) (fun c_26 => ?_) (fun c_26 => ?_)
      · skip
        exfalso; omega
      · skip
        refine z_iload_n S dX2_range_29 hl 3 rfl rfl ?_
        refine z_callSs S hG (c_X2_isSpeed l G (sp) (by omega)) ok_X2_isSpeed q2_206 (trivial) ⟨rfl, rfl, by decide, by decide⟩ ⟨Nat.zero_le _, Nat.zero_le _⟩ rfl (Nat.le_of_ble_eq_true rfl) hl.1 rfl dX2_range_30 ?_
        refine z_bif_eq S 44 dX2_range_33 (by decide) (fun c_33 => ?_) (fun c_33 => ?_)
        · skip
          have d_33 := c_33
          simp at d_33
          exfalso; omega
        · skip
          have d_33 := c_33
          simp at d_33
          refine z_iload S dX2_range_36 hl 4 rfl ?_
          refine z_callSs S hG (c_X2_isKind l G (kd) (by omega)) ok_X2_isKind q2_209 (trivial) ⟨rfl, rfl, by decide, by decide⟩ ⟨Nat.zero_le _, Nat.zero_le _⟩ rfl (Nat.le_of_ble_eq_true rfl) hl.1 rfl dX2_range_38 ?_
          refine z_bif_ne S 54 dX2_range_41 (by decide) (fun c_41 => ?_) (fun c_41 => ?_)
          · skip
            have d_41 := c_41
            simp at d_41
            refine z_aload_n S dX2_range_54 hl 0 rfl rfl ?_
            refine z_get S hG hP.1 zc_X2 0 (by decide) q1_60 rfl rfl dX2_range_55 ?_
            refine z_callVs S hG (c_X0_ranges l G σ a) ok_X0_ranges hP.2.2.2.2.1.1 zc_X0 rfl q1_223 (hP.2.2.2.2.1) ⟨rfl, rfl, by decide, by decide⟩ ⟨Nat.zero_le _, Nat.zero_le _⟩ rfl (Nat.le_of_ble_eq_true rfl) hl.1 rfl dX2_range_58 ?_
            refine z_iconst S dX2_range_61 ?_
            refine z_icmp_ge S 77 dX2_range_62 (by decide) (by omega) (by omega) (fun c_62 => ?_) (fun c_62 => ?_)
            · skip
              exact thr 77 _ 92 94 96 "no place for another range" zxw_S q2_217 qt2_226 dX2_range_77 dX2_range_80 dX2_range_81 dX2_range_83 dX2_range_86 hl.1
            · skip
              refine z_aload_n S dX2_range_65 hl 0 rfl rfl ?_
              refine z_get S hG hP.1 zc_X2 0 (by decide) q1_60 rfl rfl dX2_range_66 ?_
              refine z_iload_n S dX2_range_69 hl 1 rfl rfl ?_
              refine z_iload_n S dX2_range_70 hl 2 rfl rfl ?_
              refine z_callVs S hG (c_X0_isFree l G σ a f tt (by omega) (by omega)) ok_X0_isFree hP.2.2.2.2.1.1 zc_X0 rfl q2_213 (hP.2.2.2.2.1) ⟨rfl, rfl, by decide, by decide⟩ ⟨Nat.zero_le _, Nat.zero_le _⟩ rfl (Nat.le_of_ble_eq_true rfl) hl.1 rfl dX2_range_71 ?_
              refine z_bif_ne S 87 dX2_range_74 (by decide) (fun q => ?_) (fun q => ?_)
              · exact absurd q (by rw [h4]; decide)
              exact thr 77 _ 92 94 96 "no place for another range" zxw_S q2_217 qt2_226 dX2_range_77 dX2_range_80 dX2_range_81 dX2_range_83 dX2_range_86 hl.1
          · skip
            have d_41 := c_41
            simp at d_41
            exfalso; omega
    · skip
      have d_11 := c_11
      simp at d_11
      exfalso; omega
set_option maxHeartbeats 4000000 in
set_option maxRecDepth 100000 in
theorem x_range_S4 (l : Launch) (hl0 : l.stackTraces = false) (G : zG) (σ : St) (a : Nat → Nat) (f tt sp kd : Int) (rf : rg f) (rtt : rg tt) (rsp : rg sp) (rkd : rg kd) (h1 : (0 ≤ f ∧ f ≤ 15) ∧ (0 ≤ tt ∧ tt ≤ 15)) (h2 : f < tt ∧ (1 ≤ sp ∧ sp ≤ 9) ∧ (0 ≤ kd ∧ kd ≤ 2)) (h4 : σ.rn = 4) : zThr l yX2_range (wq yX2_range cX2_range 5 ((Option.some Jvm.ClassFile.FieldType.int))) (rmM 6 90 1 6) (va_Pc [.ref (a 0), .int (zI (f)), .int (zI (tt)), .int (zI (sp)), .int (zI (kd))] (zK G (fun H => hCyc G σ a H ∧ zXp G H))) "java/lang/IllegalStateException" := by
  refine z_enterX (by decide +kernel) (Nat.le_of_ble_eq_true rfl) hl0 ⟨by decide, by decide, by decide, by decide⟩ (fun H h => h.2) ?_
  intro p env s m below meth cod Q S hG hP thr ls hl
  have hl : lv_has ls 5 [(0, .ref (a 0)), (1, .int (zI (f))), (2, .int (zI (tt))), (3, .int (zI (sp))), (4, .int (zI (kd)))] := hl
  have hX := hP.2
  have hP := hP.1
  have hC := hP.2.2.2.2.2
  have hT := hC.1
  have hdt := hC.2.1
  have hlm := hC.2.2.1
  have hkn := hC.2.2.2.1
  have hD := hC.2.2.2.2.1
  have hB := hC.2.2.2.2.2
  have hrn4 := hP.2.2.2.2.1.2.2.2.2.2.1
  refine z_iload_n S dX2_range_0 hl 1 rfl rfl ?_
  refine z_callSs S hG (c_X2_isEntry l G (f) (by omega)) ok_X2_isEntry q1_137 (trivial) ⟨rfl, rfl, by decide, by decide⟩ ⟨Nat.zero_le _, Nat.zero_le _⟩ rfl (Nat.le_of_ble_eq_true rfl) hl.1 rfl dX2_range_1 ?_
  refine z_bif_eq S 14 dX2_range_4 (by decide) (fun c_4 => ?_) (fun c_4 => ?_)
  · skip
    have d_4 := c_4
    simp at d_4
    exfalso; omega
  · skip
    have d_4 := c_4
    simp at d_4
    refine z_iload_n S dX2_range_7 hl 2 rfl rfl ?_
    refine z_callSs S hG (c_X2_isEntry l G (tt) (by omega)) ok_X2_isEntry q1_137 (trivial) ⟨rfl, rfl, by decide, by decide⟩ ⟨Nat.zero_le _, Nat.zero_le _⟩ rfl (Nat.le_of_ble_eq_true rfl) hl.1 rfl dX2_range_8 ?_
    refine z_bif_ne S 24 dX2_range_11 (by decide) (fun c_11 => ?_) (fun c_11 => ?_)
    · skip
      have d_11 := c_11
      simp at d_11
      refine z_iload_n S dX2_range_24 hl 2 rfl rfl ?_
      refine z_iload_n S dX2_range_25 hl 1 rfl rfl ?_
      refine z_icmp_le S 44 dX2_range_26 (by decide) (by omega) (by omega) (fun c_26 => ?_) (fun c_26 => ?_)
      · skip
        exfalso; omega
      · skip
        refine z_iload_n S dX2_range_29 hl 3 rfl rfl ?_
        refine z_callSs S hG (c_X2_isSpeed l G (sp) (by omega)) ok_X2_isSpeed q2_206 (trivial) ⟨rfl, rfl, by decide, by decide⟩ ⟨Nat.zero_le _, Nat.zero_le _⟩ rfl (Nat.le_of_ble_eq_true rfl) hl.1 rfl dX2_range_30 ?_
        refine z_bif_eq S 44 dX2_range_33 (by decide) (fun c_33 => ?_) (fun c_33 => ?_)
        · skip
          have d_33 := c_33
          simp at d_33
          exfalso; omega
        · skip
          have d_33 := c_33
          simp at d_33
          refine z_iload S dX2_range_36 hl 4 rfl ?_
          refine z_callSs S hG (c_X2_isKind l G (kd) (by omega)) ok_X2_isKind q2_209 (trivial) ⟨rfl, rfl, by decide, by decide⟩ ⟨Nat.zero_le _, Nat.zero_le _⟩ rfl (Nat.le_of_ble_eq_true rfl) hl.1 rfl dX2_range_38 ?_
          refine z_bif_ne S 54 dX2_range_41 (by decide) (fun c_41 => ?_) (fun c_41 => ?_)
          · skip
            have d_41 := c_41
            simp at d_41
            refine z_aload_n S dX2_range_54 hl 0 rfl rfl ?_
            refine z_get S hG hP.1 zc_X2 0 (by decide) q1_60 rfl rfl dX2_range_55 ?_
            refine z_callVs S hG (c_X0_ranges l G σ a) ok_X0_ranges hP.2.2.2.2.1.1 zc_X0 rfl q1_223 (hP.2.2.2.2.1) ⟨rfl, rfl, by decide, by decide⟩ ⟨Nat.zero_le _, Nat.zero_le _⟩ rfl (Nat.le_of_ble_eq_true rfl) hl.1 rfl dX2_range_58 ?_
            refine z_iconst S dX2_range_61 ?_
            refine z_icmp_ge_T S 77 dX2_range_62 (by decide) (by omega) (by omega) (by omega) ?_
            exact thr 77 _ 92 94 96 "no place for another range" zxw_S q2_217 qt2_226 dX2_range_77 dX2_range_80 dX2_range_81 dX2_range_83 dX2_range_86 hl.1
          · skip
            have d_41 := c_41
            simp at d_41
            exfalso; omega
    · skip
      have d_11 := c_11
      simp at d_11
      exfalso; omega
theorem qt3_34 : (Jvm.Cond.stringRef "Cyclepaint" (110 : Nat) "no such range") ∈ lw_tbl := zin3 (List.mem_of_getElem? (i := 34) rfl)
set_option maxHeartbeats 4000000 in
set_option maxRecDepth 100000 in
theorem x_turn_I (l : Launch) (hl0 : l.stackTraces = false) (G : zG) (σ : St) (a : Nat → Nat) (j sp kd : Int) (rj : rg j) (rsp : rg sp) (rkd : rg kd) (h1 : ¬ (0 ≤ j ∧ j < σ.rn)) : zThr l yX2_turn (wq yX2_turn cX2_turn 5 ((Option.some Jvm.ClassFile.FieldType.int))) (rmM 6 90 1 6) (va_Pc [.ref (a 0), .int (zI (j)), .int (zI (sp)), .int (zI (kd))] (zK G (fun H => hCyc G σ a H ∧ zXp G H))) "java/lang/IndexOutOfBoundsException" := by
  refine z_enterX (by decide +kernel) (Nat.le_of_ble_eq_true rfl) hl0 ⟨by decide, by decide, by decide, by decide⟩ (fun H h => h.2) ?_
  intro p env s m below meth cod Q S hG hP thr ls hl
  have hl : lv_has ls 5 [(0, .ref (a 0)), (1, .int (zI (j))), (2, .int (zI (sp))), (3, .int (zI (kd)))] := hl
  have hX := hP.2
  have hP := hP.1
  have hC := hP.2.2.2.2.2
  have hT := hC.1
  have hdt := hC.2.1
  have hlm := hC.2.2.1
  have hkn := hC.2.2.2.1
  have hD := hC.2.2.2.2.1
  have hB := hC.2.2.2.2.2
  have hrn4 := hP.2.2.2.2.1.2.2.2.2.2.1
  refine z_aload_n S dX2_turn_0 hl 0 rfl rfl ?_
  refine z_get S hG hP.1 zc_X2 0 (by decide) q1_60 rfl rfl dX2_turn_1 ?_
  refine z_iload_n S dX2_turn_4 hl 1 rfl rfl ?_
  refine z_callVs S hG (c_X0_rangeAt0 l G σ a j (by omega)) ok_X0_rangeAt hP.2.2.2.2.1.1 zc_X0 rfl q2_39 (hP.2.2.2.2.1) ⟨rfl, rfl, by decide, by decide⟩ ⟨Nat.zero_le _, Nat.zero_le _⟩ rfl (Nat.le_of_ble_eq_true rfl) hl.1 rfl dX2_turn_5 ?_
  refine z_astoreN (lv' := [(4, .null), (0, .ref (a 0)), (1, .int (zI (j))), (2, .int (zI (sp))), (3, .int (zI (kd)))]) S dX2_turn_8 hl (by decide) rfl (fun ls hl => ?_)
  refine z_aloadN S dX2_turn_10 hl 0 rfl ?_
  refine z_ifnonnull_n S 25 dX2_turn_12 (by decide) ?_
  exact thr 15 _ 43 110 47 "no such range" zxw_I q2_95 qt3_34 dX2_turn_15 dX2_turn_18 dX2_turn_19 dX2_turn_21 dX2_turn_24 hl.1
theorem qt3_35 : (Jvm.Cond.stringRef "Cyclepaint" (112 : Nat) "not a speed or a kind") ∈ lw_tbl := zin3 (List.mem_of_getElem? (i := 35) rfl)
set_option maxHeartbeats 4000000 in
set_option maxRecDepth 100000 in
theorem x_turn_A (l : Launch) (hl0 : l.stackTraces = false) (G : zG) (σ : St) (a : Nat → Nat) (j sp kd : Int) (rj : rg j) (rsp : rg sp) (rkd : rg kd) (h1 : 0 ≤ j ∧ j < σ.rn) (h2 : ¬ ((1 ≤ sp ∧ sp ≤ 9) ∧ (0 ≤ kd ∧ kd ≤ 2))) : zThr l yX2_turn (wq yX2_turn cX2_turn 5 ((Option.some Jvm.ClassFile.FieldType.int))) (rmM 6 90 1 6) (va_Pc [.ref (a 0), .int (zI (j)), .int (zI (sp)), .int (zI (kd))] (zK G (fun H => hCyc G σ a H ∧ zXp G H))) "java/lang/IllegalArgumentException" := by
  refine z_enterX (by decide +kernel) (Nat.le_of_ble_eq_true rfl) hl0 ⟨by decide, by decide, by decide, by decide⟩ (fun H h => h.2) ?_
  intro p env s m below meth cod Q S hG hP thr ls hl
  have hl : lv_has ls 5 [(0, .ref (a 0)), (1, .int (zI (j))), (2, .int (zI (sp))), (3, .int (zI (kd)))] := hl
  have hX := hP.2
  have hP := hP.1
  have hC := hP.2.2.2.2.2
  have hT := hC.1
  have hdt := hC.2.1
  have hlm := hC.2.2.1
  have hkn := hC.2.2.2.1
  have hD := hC.2.2.2.2.1
  have hB := hC.2.2.2.2.2
  have hrn4 := hP.2.2.2.2.1.2.2.2.2.2.1
  refine z_aload_n S dX2_turn_0 hl 0 rfl rfl ?_
  refine z_get S hG hP.1 zc_X2 0 (by decide) q1_60 rfl rfl dX2_turn_1 ?_
  refine z_iload_n S dX2_turn_4 hl 1 rfl rfl ?_
  refine z_callVs S hG (c_X0_rangeAt1 l G σ a j (by omega)) ok_X0_rangeAt hP.2.2.2.2.1.1 zc_X0 rfl q2_39 (hP.2.2.2.2.1) ⟨rfl, rfl, by decide, by decide⟩ ⟨Nat.zero_le _, Nat.zero_le _⟩ rfl (Nat.le_of_ble_eq_true rfl) hl.1 rfl dX2_turn_5 ?_
  refine z_astore (lv' := [(4, .ref (a (8 + Int.toNat (j)))), (0, .ref (a 0)), (1, .int (zI (j))), (2, .int (zI (sp))), (3, .int (zI (kd)))]) S dX2_turn_8 hl (by decide) rfl (fun ls hl => ?_)
  refine z_aload S dX2_turn_10 hl 0 rfl ?_
  refine z_ifnonnull_r S 25 dX2_turn_12 (by decide) ?_
  refine z_iload_n S dX2_turn_25 hl 3 rfl rfl ?_
  refine z_callSs S hG (c_X2_isSpeed l G (sp) (by omega)) ok_X2_isSpeed q2_206 (trivial) ⟨rfl, rfl, by decide, by decide⟩ ⟨Nat.zero_le _, Nat.zero_le _⟩ rfl (Nat.le_of_ble_eq_true rfl) hl.1 rfl dX2_turn_26 ?_
  refine z_bif_eq S 39 dX2_turn_29 (by decide) (fun c_29 => ?_) (fun c_29 => ?_)
  · skip
    have d_29 := c_29
    simp at d_29
    exact thr 39 _ 53 112 57 "not a speed or a kind" zxw_A q2_166 qt3_35 dX2_turn_39 dX2_turn_42 dX2_turn_43 dX2_turn_45 dX2_turn_48 hl.1
  · skip
    have d_29 := c_29
    simp at d_29
    refine z_iload_n S dX2_turn_32 hl 4 rfl rfl ?_
    refine z_callSs S hG (c_X2_isKind l G (kd) (by omega)) ok_X2_isKind q2_209 (trivial) ⟨rfl, rfl, by decide, by decide⟩ ⟨Nat.zero_le _, Nat.zero_le _⟩ rfl (Nat.le_of_ble_eq_true rfl) hl.1 rfl dX2_turn_33 ?_
    refine z_bif_ne S 49 dX2_turn_36 (by decide) (fun c_36 => ?_) (fun c_36 => ?_)
    · skip
      have d_36 := c_36
      simp at d_36
      exfalso; omega
    · skip
      have d_36 := c_36
      simp at d_36
      exact thr 39 _ 53 112 57 "not a speed or a kind" zxw_A q2_166 qt3_35 dX2_turn_39 dX2_turn_42 dX2_turn_43 dX2_turn_45 dX2_turn_48 hl.1
set_option maxHeartbeats 4000000 in
set_option maxRecDepth 100000 in
theorem x_stop_I (l : Launch) (hl0 : l.stackTraces = false) (G : zG) (σ : St) (a : Nat → Nat) (j : Int) (rj : rg j) (h1 : ¬ (0 ≤ j ∧ j < σ.rn)) : zThr l yX2_stop (wq yX2_stop cX2_stop 2 ((Option.some Jvm.ClassFile.FieldType.int))) (rmM 6 90 1 6) (va_Pc [.ref (a 0), .int (zI (j))] (zK G (fun H => hCyc G σ a H ∧ zXp G H))) "java/lang/IndexOutOfBoundsException" := by
  refine z_enterX (by decide +kernel) (Nat.le_of_ble_eq_true rfl) hl0 ⟨by decide, by decide, by decide, by decide⟩ (fun H h => h.2) ?_
  intro p env s m below meth cod Q S hG hP thr ls hl
  have hl : lv_has ls 2 [(0, .ref (a 0)), (1, .int (zI (j)))] := hl
  have hX := hP.2
  have hP := hP.1
  have hC := hP.2.2.2.2.2
  have hT := hC.1
  have hdt := hC.2.1
  have hlm := hC.2.2.1
  have hkn := hC.2.2.2.1
  have hD := hC.2.2.2.2.1
  have hB := hC.2.2.2.2.2
  have hrn4 := hP.2.2.2.2.1.2.2.2.2.2.1
  refine z_aload_n S dX2_stop_0 hl 0 rfl rfl ?_
  refine z_get S hG hP.1 zc_X2 0 (by decide) q1_60 rfl rfl dX2_stop_1 ?_
  refine z_iload_n S dX2_stop_4 hl 1 rfl rfl ?_
  refine z_callVs S hG (c_X0_rangeAt0 l G σ a j (by omega)) ok_X0_rangeAt hP.2.2.2.2.1.1 zc_X0 rfl q2_39 (hP.2.2.2.2.1) ⟨rfl, rfl, by decide, by decide⟩ ⟨Nat.zero_le _, Nat.zero_le _⟩ rfl (Nat.le_of_ble_eq_true rfl) hl.1 rfl dX2_stop_5 ?_
  refine z_ifnonnull_n S 21 dX2_stop_8 (by decide) ?_
  exact thr 11 _ 43 110 47 "no such range" zxw_I q2_95 qt3_34 dX2_stop_11 dX2_stop_14 dX2_stop_15 dX2_stop_17 dX2_stop_20 hl.1
theorem qt3_59 : (Jvm.Cond.stringRef "Cyclepaint" (130 : Nat) "not 1 to 200 ticks") ∈ lw_tbl := zin3 (List.mem_of_getElem? (i := 59) rfl)
set_option maxHeartbeats 4000000 in
set_option maxRecDepth 100000 in
theorem x_run_A (l : Launch) (hl0 : l.stackTraces = false) (G : zG) (σ : St) (a : Nat → Nat) (n : Int) (rn : rg n) (h1 : ¬ (1 ≤ n ∧ n ≤ 200)) : zThr l yX2_run (wq yX2_run cX2_run 4 ((Option.some Jvm.ClassFile.FieldType.int))) (rmM 6 90 1 6) (va_Pc [.ref (a 0), .int (zI (n))] (zK G (fun H => hCyc G σ a H ∧ zXp G H))) "java/lang/IllegalArgumentException" := by
  refine z_enterX (by decide +kernel) (Nat.le_of_ble_eq_true rfl) hl0 ⟨by decide, by decide, by decide, by decide⟩ (fun H h => h.2) ?_
  intro p env s m below meth cod Q S hG hP thr ls hl
  have hl : lv_has ls 4 [(0, .ref (a 0)), (1, .int (zI (n)))] := hl
  have hX := hP.2
  have hP := hP.1
  have hC := hP.2.2.2.2.2
  have hT := hC.1
  have hdt := hC.2.1
  have hlm := hC.2.2.1
  have hkn := hC.2.2.2.1
  have hD := hC.2.2.2.2.1
  have hB := hC.2.2.2.2.2
  have hrn4 := hP.2.2.2.2.1.2.2.2.2.2.1
  refine z_iload_n S dX2_run_0 hl 1 rfl rfl ?_
  refine z_callSs S hG (c_X2_isTickCount l G (n) (by omega)) ok_X2_isTickCount q3_56 (trivial) ⟨rfl, rfl, by decide, by decide⟩ ⟨Nat.zero_le _, Nat.zero_le _⟩ rfl (Nat.le_of_ble_eq_true rfl) hl.1 rfl dX2_run_1 ?_
  refine z_bif_ne S 17 dX2_run_4 (by decide) (fun c_4 => ?_) (fun c_4 => ?_)
  · skip
    have d_4 := c_4
    simp at d_4
    exfalso; omega
  · skip
    have d_4 := c_4
    simp at d_4
    exact thr 7 _ 53 130 57 "not 1 to 200 ticks" zxw_A q2_166 qt3_59 dX2_run_7 dX2_run_10 dX2_run_11 dX2_run_13 dX2_run_16 hl.1
theorem qt3_61 : (Jvm.Cond.stringRef "Cyclepaint" (133 : Nat) "too late a tick") ∈ lw_tbl := zin3 (List.mem_of_getElem? (i := 61) rfl)
set_option maxHeartbeats 4000000 in
set_option maxRecDepth 100000 in
theorem x_run_S (l : Launch) (hl0 : l.stackTraces = false) (G : zG) (σ : St) (a : Nat → Nat) (n : Int) (rn : rg n) (h1 : (1 ≤ n ∧ n ≤ 200)) (h2 : 99999 < σ.tk + n) : zThr l yX2_run (wq yX2_run cX2_run 4 ((Option.some Jvm.ClassFile.FieldType.int))) (rmM 6 90 1 6) (va_Pc [.ref (a 0), .int (zI (n))] (zK G (fun H => hCyc G σ a H ∧ zXp G H))) "java/lang/IllegalStateException" := by
  refine z_enterX (by decide +kernel) (Nat.le_of_ble_eq_true rfl) hl0 ⟨by decide, by decide, by decide, by decide⟩ (fun H h => h.2) ?_
  intro p env s m below meth cod Q S hG hP thr ls hl
  have hl : lv_has ls 4 [(0, .ref (a 0)), (1, .int (zI (n)))] := hl
  have hX := hP.2
  have hP := hP.1
  have hC := hP.2.2.2.2.2
  have hT := hC.1
  have hdt := hC.2.1
  have hlm := hC.2.2.1
  have hkn := hC.2.2.2.1
  have hD := hC.2.2.2.2.1
  have hB := hC.2.2.2.2.2
  have hrn4 := hP.2.2.2.2.1.2.2.2.2.2.1
  refine z_iload_n S dX2_run_0 hl 1 rfl rfl ?_
  refine z_callSs S hG (c_X2_isTickCount l G (n) (by omega)) ok_X2_isTickCount q3_56 (trivial) ⟨rfl, rfl, by decide, by decide⟩ ⟨Nat.zero_le _, Nat.zero_le _⟩ rfl (Nat.le_of_ble_eq_true rfl) hl.1 rfl dX2_run_1 ?_
  refine z_bif_ne S 17 dX2_run_4 (by decide) (fun c_4 => ?_) (fun c_4 => ?_)
  · skip
    have d_4 := c_4
    simp at d_4
    refine z_aload_n S dX2_run_17 hl 0 rfl rfl ?_
    refine z_get S hG hP.1 zc_X2 5 (by decide) q1_65 rfl rfl dX2_run_18 ?_
    refine z_iload_n S dX2_run_21 hl 1 rfl rfl ?_
    refine z_iadd S dX2_run_22 ?_
    refine z_ldc S (99999) q3_60 rfl dX2_run_23 ?_
    refine z_icmp_le S 38 dX2_run_25 (by decide) (by omega) (by omega) (fun c_25 => ?_) (fun c_25 => ?_)
    · skip
      exfalso; omega
    · skip
      exact thr 28 _ 92 133 96 "too late a tick" zxw_S q2_217 qt3_61 dX2_run_28 dX2_run_31 dX2_run_32 dX2_run_34 dX2_run_37 hl.1
  · skip
    have d_4 := c_4
    simp at d_4
    exfalso; omega
theorem qt3_72 : (Jvm.Cond.stringRef "Cyclepaint" (142 : Nat) "no such tick") ∈ lw_tbl := zin3 (List.mem_of_getElem? (i := 72) rfl)
set_option maxHeartbeats 4000000 in
set_option maxRecDepth 100000 in
theorem x_jump_A (l : Launch) (hl0 : l.stackTraces = false) (G : zG) (σ : St) (a : Nat → Nat) (x : Int) (rx : rg x) (h1 : ¬ (0 ≤ x ∧ x ≤ 99999)) : zThr l yX2_jump (wq yX2_jump cX2_jump 3 ((Option.some Jvm.ClassFile.FieldType.int))) (rmM 6 90 1 6) (va_Pc [.ref (a 0), .int (zI (x))] (zK G (fun H => hCyc G σ a H ∧ zXp G H))) "java/lang/IllegalArgumentException" := by
  refine z_enterX (by decide +kernel) (Nat.le_of_ble_eq_true rfl) hl0 ⟨by decide, by decide, by decide, by decide⟩ (fun H h => h.2) ?_
  intro p env s m below meth cod Q S hG hP thr ls hl
  have hl : lv_has ls 3 [(0, .ref (a 0)), (1, .int (zI (x)))] := hl
  have hX := hP.2
  have hP := hP.1
  have hC := hP.2.2.2.2.2
  have hT := hC.1
  have hdt := hC.2.1
  have hlm := hC.2.2.1
  have hkn := hC.2.2.2.1
  have hD := hC.2.2.2.2.1
  have hB := hC.2.2.2.2.2
  have hrn4 := hP.2.2.2.2.1.2.2.2.2.2.1
  refine z_iload_n S dX2_jump_0 hl 1 rfl rfl ?_
  refine z_callSs S hG (c_X2_isTick l G (x) (by omega)) ok_X2_isTick q3_69 (trivial) ⟨rfl, rfl, by decide, by decide⟩ ⟨Nat.zero_le _, Nat.zero_le _⟩ rfl (Nat.le_of_ble_eq_true rfl) hl.1 rfl dX2_jump_1 ?_
  refine z_bif_ne S 17 dX2_jump_4 (by decide) (fun c_4 => ?_) (fun c_4 => ?_)
  · skip
    have d_4 := c_4
    simp at d_4
    exfalso; omega
  · skip
    have d_4 := c_4
    simp at d_4
    exact thr 7 _ 53 142 57 "no such tick" zxw_A q2_166 qt3_72 dX2_jump_7 dX2_jump_10 dX2_jump_11 dX2_jump_13 dX2_jump_16 hl.1
theorem qt3_80 : (Jvm.Cond.stringRef "Cyclepaint" (144 : Nat) "5 are kept") ∈ lw_tbl := zin3 (List.mem_of_getElem? (i := 80) rfl)
set_option maxHeartbeats 4000000 in
set_option maxRecDepth 100000 in
theorem x_keep_S (l : Launch) (hl0 : l.stackTraces = false) (G : zG) (σ : St) (a : Nat → Nat)  (h1 : σ.kn = 5) : zThr l yX2_keep (wq yX2_keep cX2_keep 3 ((Option.some Jvm.ClassFile.FieldType.int))) (rmM 6 90 1 6) (va_Pc [.ref (a 0)] (zK G (fun H => hCyc G σ a H ∧ zXp G H))) "java/lang/IllegalStateException" := by
  refine z_enterX (by decide +kernel) (Nat.le_of_ble_eq_true rfl) hl0 ⟨by decide, by decide, by decide, by decide⟩ (fun H h => h.2) ?_
  intro p env s m below meth cod Q S hG hP thr ls hl
  have hl : lv_has ls 3 [(0, .ref (a 0))] := hl
  have hX := hP.2
  have hP := hP.1
  have hC := hP.2.2.2.2.2
  have hT := hC.1
  have hdt := hC.2.1
  have hlm := hC.2.2.1
  have hkn := hC.2.2.2.1
  have hD := hC.2.2.2.2.1
  have hB := hC.2.2.2.2.2
  have hrn4 := hP.2.2.2.2.1.2.2.2.2.2.1
  refine z_aload_n S dX2_keep_0 hl 0 rfl rfl ?_
  refine z_get S hG hP.1 zc_X2 4 (by decide) q1_64 rfl rfl dX2_keep_1 ?_
  refine z_iconst S dX2_keep_4 ?_
  refine z_icmp_lt S 18 dX2_keep_5 (by decide) (by omega) (by omega) (fun c_5 => ?_) (fun c_5 => ?_)
  · skip
    exfalso; omega
  · skip
    exact thr 8 _ 92 144 96 "5 are kept" zxw_S q2_217 qt3_80 dX2_keep_8 dX2_keep_11 dX2_keep_12 dX2_keep_14 dX2_keep_17 hl.1
theorem qt3_88 : (Jvm.Cond.stringRef "Cyclepaint" (150 : Nat) "not 0 to 32") ∈ lw_tbl := zin3 (List.mem_of_getElem? (i := 88) rfl)
set_option maxHeartbeats 4000000 in
set_option maxRecDepth 100000 in
theorem x_limit_A (l : Launch) (hl0 : l.stackTraces = false) (G : zG) (σ : St) (a : Nat → Nat) (x : Int) (rx : rg x) (h1 : ¬ (0 ≤ x ∧ x ≤ 32)) : zThr l yX2_limit (wq yX2_limit cX2_limit 2 ((Option.some Jvm.ClassFile.FieldType.boolean))) (rmM 6 90 1 6) (va_Pc [.ref (a 0), .int (zI (x))] (zK G (fun H => hCyc G σ a H ∧ zXp G H))) "java/lang/IllegalArgumentException" := by
  refine z_enterX (by decide +kernel) (Nat.le_of_ble_eq_true rfl) hl0 ⟨by decide, by decide, by decide, by decide⟩ (fun H h => h.2) ?_
  intro p env s m below meth cod Q S hG hP thr ls hl
  have hl : lv_has ls 2 [(0, .ref (a 0)), (1, .int (zI (x)))] := hl
  have hX := hP.2
  have hP := hP.1
  have hC := hP.2.2.2.2.2
  have hT := hC.1
  have hdt := hC.2.1
  have hlm := hC.2.2.1
  have hkn := hC.2.2.2.1
  have hD := hC.2.2.2.2.1
  have hB := hC.2.2.2.2.2
  have hrn4 := hP.2.2.2.2.1.2.2.2.2.2.1
  refine z_iload_n S dX2_limit_0 hl 1 rfl rfl ?_
  refine z_if_lt S 10 dX2_limit_1 (by decide) (by omega) (fun c_1 => ?_) (fun c_1 => ?_)
  · skip
    exact thr 10 _ 53 150 57 "not 0 to 32" zxw_A q2_166 qt3_88 dX2_limit_10 dX2_limit_13 dX2_limit_14 dX2_limit_16 dX2_limit_19 hl.1
  · skip
    refine z_iload_n S dX2_limit_4 hl 1 rfl rfl ?_
    refine z_bipush S dX2_limit_5 rfl ?_
    refine z_icmp_le S 20 dX2_limit_7 (by decide) (by omega) (by omega) (fun c_7 => ?_) (fun c_7 => ?_)
    · skip
      exfalso; omega
    · skip
      exact thr 10 _ 53 150 57 "not 0 to 32" zxw_A q2_166 qt3_88 dX2_limit_10 dX2_limit_13 dX2_limit_14 dX2_limit_16 dX2_limit_19 hl.1
set_option maxHeartbeats 4000000 in
set_option maxRecDepth 100000 in
theorem x_dot_I (l : Launch) (hl0 : l.stackTraces = false) (G : zG) (σ : St) (a : Nat → Nat) (v i x : Int) (rv : rg v) (ri : rg i) (rx : rg x) (h1 : ¬ ((0 ≤ v ∧ v ≤ 3) ∧ (0 ≤ i ∧ i ≤ 7))) : zThr l yX2_dot (wq yX2_dot cX2_dot 4 ((Option.some Jvm.ClassFile.FieldType.int))) (rmM 6 90 1 6) (va_Pc [.ref (a 0), .int (zI (v)), .int (zI (i)), .int (zI (x))] (zK G (fun H => hCyc G σ a H ∧ zXp G H))) "java/lang/IndexOutOfBoundsException" := by
  refine z_enterX (by decide +kernel) (Nat.le_of_ble_eq_true rfl) hl0 ⟨by decide, by decide, by decide, by decide⟩ (fun H h => h.2) ?_
  intro p env s m below meth cod Q S hG hP thr ls hl
  have hl : lv_has ls 4 [(0, .ref (a 0)), (1, .int (zI (v))), (2, .int (zI (i))), (3, .int (zI (x)))] := hl
  have hX := hP.2
  have hP := hP.1
  have hC := hP.2.2.2.2.2
  have hT := hC.1
  have hdt := hC.2.1
  have hlm := hC.2.2.1
  have hkn := hC.2.2.2.1
  have hD := hC.2.2.2.2.1
  have hB := hC.2.2.2.2.2
  have hrn4 := hP.2.2.2.2.1.2.2.2.2.2.1
  refine z_iload_n S dX2_dot_0 hl 1 rfl rfl ?_
  refine z_iload_n S dX2_dot_1 hl 2 rfl rfl ?_
  refine z_callSs S hG (c_X2_isDot l G (v) (i) (by omega)) ok_X2_isDot q2_193 (trivial) ⟨rfl, rfl, by decide, by decide⟩ ⟨Nat.zero_le _, Nat.zero_le _⟩ rfl (Nat.le_of_ble_eq_true rfl) hl.1 rfl dX2_dot_2 ?_
  refine z_bif_ne S 18 dX2_dot_5 (by decide) (fun c_5 => ?_) (fun c_5 => ?_)
  · skip
    have d_5 := c_5
    simp at d_5
    exfalso; omega
  · skip
    have d_5 := c_5
    simp at d_5
    exact thr 8 _ 43 70 47 "no such dot" zxw_I q2_95 qt2_196 dX2_dot_8 dX2_dot_11 dX2_dot_12 dX2_dot_14 dX2_dot_17 hl.1
theorem qt3_99 : (Jvm.Cond.stringRef "Cyclepaint" (159 : Nat) "not 0 to 3") ∈ lw_tbl := zin3 (List.mem_of_getElem? (i := 99) rfl)
set_option maxHeartbeats 4000000 in
set_option maxRecDepth 100000 in
theorem x_dot_A (l : Launch) (hl0 : l.stackTraces = false) (G : zG) (σ : St) (a : Nat → Nat) (v i x : Int) (rv : rg v) (ri : rg i) (rx : rg x) (h1 : (0 ≤ v ∧ v ≤ 3) ∧ (0 ≤ i ∧ i ≤ 7)) (h2 : ¬ (0 ≤ x ∧ x ≤ 3)) : zThr l yX2_dot (wq yX2_dot cX2_dot 4 ((Option.some Jvm.ClassFile.FieldType.int))) (rmM 6 90 1 6) (va_Pc [.ref (a 0), .int (zI (v)), .int (zI (i)), .int (zI (x))] (zK G (fun H => hCyc G σ a H ∧ zXp G H))) "java/lang/IllegalArgumentException" := by
  refine z_enterX (by decide +kernel) (Nat.le_of_ble_eq_true rfl) hl0 ⟨by decide, by decide, by decide, by decide⟩ (fun H h => h.2) ?_
  intro p env s m below meth cod Q S hG hP thr ls hl
  have hl : lv_has ls 4 [(0, .ref (a 0)), (1, .int (zI (v))), (2, .int (zI (i))), (3, .int (zI (x)))] := hl
  have hX := hP.2
  have hP := hP.1
  have hC := hP.2.2.2.2.2
  have hT := hC.1
  have hdt := hC.2.1
  have hlm := hC.2.2.1
  have hkn := hC.2.2.2.1
  have hD := hC.2.2.2.2.1
  have hB := hC.2.2.2.2.2
  have hrn4 := hP.2.2.2.2.1.2.2.2.2.2.1
  refine z_iload_n S dX2_dot_0 hl 1 rfl rfl ?_
  refine z_iload_n S dX2_dot_1 hl 2 rfl rfl ?_
  refine z_callSs S hG (c_X2_isDot l G (v) (i) (by omega)) ok_X2_isDot q2_193 (trivial) ⟨rfl, rfl, by decide, by decide⟩ ⟨Nat.zero_le _, Nat.zero_le _⟩ rfl (Nat.le_of_ble_eq_true rfl) hl.1 rfl dX2_dot_2 ?_
  refine z_bif_ne S 18 dX2_dot_5 (by decide) (fun c_5 => ?_) (fun c_5 => ?_)
  · skip
    have d_5 := c_5
    simp at d_5
    refine z_iload_n S dX2_dot_18 hl 3 rfl rfl ?_
    refine z_iconst S dX2_dot_19 ?_
    refine z_callSs S hG (c_X2_isFact l G (x) (4) (by omega)) ok_X2_isFact q3_96 (trivial) ⟨rfl, rfl, by decide, by decide⟩ ⟨Nat.zero_le _, Nat.zero_le _⟩ rfl (Nat.le_of_ble_eq_true rfl) hl.1 rfl dX2_dot_20 ?_
    refine z_bif_ne S 36 dX2_dot_23 (by decide) (fun c_23 => ?_) (fun c_23 => ?_)
    · skip
      have d_23 := c_23
      simp at d_23
      exfalso; omega
    · skip
      have d_23 := c_23
      simp at d_23
      exact thr 26 _ 53 159 57 "not 0 to 3" zxw_A q2_166 qt3_99 dX2_dot_26 dX2_dot_29 dX2_dot_30 dX2_dot_32 dX2_dot_35 hl.1
  · skip
    have d_5 := c_5
    simp at d_5
    exfalso; omega
set_option maxHeartbeats 4000000 in
set_option maxRecDepth 100000 in
theorem x_ofEntry_I (l : Launch) (hl0 : l.stackTraces = false) (G : zG) (σ : St) (a : Nat → Nat) (e x : Int) (re : rg e) (rx : rg x) (h1 : ¬ (0 ≤ e ∧ e ≤ 15)) : zThr l yX2_ofEntry (wq yX2_ofEntry cX2_ofEntry 3 ((Option.some Jvm.ClassFile.FieldType.int))) (rmM 6 90 1 6) (va_Pc [.ref (a 0), .int (zI (e)), .int (zI (x))] (zK G (fun H => hCyc G σ a H ∧ zXp G H))) "java/lang/IndexOutOfBoundsException" := by
  refine z_enterX (by decide +kernel) (Nat.le_of_ble_eq_true rfl) hl0 ⟨by decide, by decide, by decide, by decide⟩ (fun H h => h.2) ?_
  intro p env s m below meth cod Q S hG hP thr ls hl
  have hl : lv_has ls 3 [(0, .ref (a 0)), (1, .int (zI (e))), (2, .int (zI (x)))] := hl
  have hX := hP.2
  have hP := hP.1
  have hC := hP.2.2.2.2.2
  have hT := hC.1
  have hdt := hC.2.1
  have hlm := hC.2.2.1
  have hkn := hC.2.2.2.1
  have hD := hC.2.2.2.2.1
  have hB := hC.2.2.2.2.2
  have hrn4 := hP.2.2.2.2.1.2.2.2.2.2.1
  refine z_iload_n S dX2_ofEntry_0 hl 1 rfl rfl ?_
  refine z_callSs S hG (c_X2_isEntry l G (e) (by omega)) ok_X2_isEntry q1_137 (trivial) ⟨rfl, rfl, by decide, by decide⟩ ⟨Nat.zero_le _, Nat.zero_le _⟩ rfl (Nat.le_of_ble_eq_true rfl) hl.1 rfl dX2_ofEntry_1 ?_
  refine z_bif_ne S 17 dX2_ofEntry_4 (by decide) (fun c_4 => ?_) (fun c_4 => ?_)
  · skip
    have d_4 := c_4
    simp at d_4
    exfalso; omega
  · skip
    have d_4 := c_4
    simp at d_4
    exact thr 7 _ 43 45 47 "no such entry" zxw_I q2_95 qt2_136 dX2_ofEntry_7 dX2_ofEntry_10 dX2_ofEntry_11 dX2_ofEntry_13 dX2_ofEntry_16 hl.1
theorem qt3_107 : (Jvm.Cond.stringRef "Cyclepaint" (164 : Nat) "not 0 to 5") ∈ lw_tbl := zin3 (List.mem_of_getElem? (i := 107) rfl)
set_option maxHeartbeats 4000000 in
set_option maxRecDepth 100000 in
theorem x_ofEntry_A (l : Launch) (hl0 : l.stackTraces = false) (G : zG) (σ : St) (a : Nat → Nat) (e x : Int) (re : rg e) (rx : rg x) (h1 : (0 ≤ e ∧ e ≤ 15)) (h2 : ¬ (0 ≤ x ∧ x ≤ 5)) : zThr l yX2_ofEntry (wq yX2_ofEntry cX2_ofEntry 3 ((Option.some Jvm.ClassFile.FieldType.int))) (rmM 6 90 1 6) (va_Pc [.ref (a 0), .int (zI (e)), .int (zI (x))] (zK G (fun H => hCyc G σ a H ∧ zXp G H))) "java/lang/IllegalArgumentException" := by
  refine z_enterX (by decide +kernel) (Nat.le_of_ble_eq_true rfl) hl0 ⟨by decide, by decide, by decide, by decide⟩ (fun H h => h.2) ?_
  intro p env s m below meth cod Q S hG hP thr ls hl
  have hl : lv_has ls 3 [(0, .ref (a 0)), (1, .int (zI (e))), (2, .int (zI (x)))] := hl
  have hX := hP.2
  have hP := hP.1
  have hC := hP.2.2.2.2.2
  have hT := hC.1
  have hdt := hC.2.1
  have hlm := hC.2.2.1
  have hkn := hC.2.2.2.1
  have hD := hC.2.2.2.2.1
  have hB := hC.2.2.2.2.2
  have hrn4 := hP.2.2.2.2.1.2.2.2.2.2.1
  refine z_iload_n S dX2_ofEntry_0 hl 1 rfl rfl ?_
  refine z_callSs S hG (c_X2_isEntry l G (e) (by omega)) ok_X2_isEntry q1_137 (trivial) ⟨rfl, rfl, by decide, by decide⟩ ⟨Nat.zero_le _, Nat.zero_le _⟩ rfl (Nat.le_of_ble_eq_true rfl) hl.1 rfl dX2_ofEntry_1 ?_
  refine z_bif_ne S 17 dX2_ofEntry_4 (by decide) (fun c_4 => ?_) (fun c_4 => ?_)
  · skip
    have d_4 := c_4
    simp at d_4
    refine z_iload_n S dX2_ofEntry_17 hl 2 rfl rfl ?_
    refine z_bipush S dX2_ofEntry_18 rfl ?_
    refine z_callSs S hG (c_X2_isFact l G (x) (6) (by omega)) ok_X2_isFact q3_96 (trivial) ⟨rfl, rfl, by decide, by decide⟩ ⟨Nat.zero_le _, Nat.zero_le _⟩ rfl (Nat.le_of_ble_eq_true rfl) hl.1 rfl dX2_ofEntry_20 ?_
    refine z_bif_ne S 36 dX2_ofEntry_23 (by decide) (fun c_23 => ?_) (fun c_23 => ?_)
    · skip
      have d_23 := c_23
      simp at d_23
      exfalso; omega
    · skip
      have d_23 := c_23
      simp at d_23
      exact thr 26 _ 53 164 57 "not 0 to 5" zxw_A q2_166 qt3_107 dX2_ofEntry_26 dX2_ofEntry_29 dX2_ofEntry_30 dX2_ofEntry_32 dX2_ofEntry_35 hl.1
  · skip
    have d_4 := c_4
    simp at d_4
    exfalso; omega
set_option maxHeartbeats 4000000 in
set_option maxRecDepth 100000 in
theorem x_ofRange_I (l : Launch) (hl0 : l.stackTraces = false) (G : zG) (σ : St) (a : Nat → Nat) (j x : Int) (rj : rg j) (rx : rg x) (h1 : ¬ (0 ≤ j ∧ j < σ.rn)) : zThr l yX2_ofRange (wq yX2_ofRange cX2_ofRange 4 ((Option.some Jvm.ClassFile.FieldType.int))) (rmM 6 90 1 6) (va_Pc [.ref (a 0), .int (zI (j)), .int (zI (x))] (zK G (fun H => hCyc G σ a H ∧ zXp G H))) "java/lang/IndexOutOfBoundsException" := by
  refine z_enterX (by decide +kernel) (Nat.le_of_ble_eq_true rfl) hl0 ⟨by decide, by decide, by decide, by decide⟩ (fun H h => h.2) ?_
  intro p env s m below meth cod Q S hG hP thr ls hl
  have hl : lv_has ls 4 [(0, .ref (a 0)), (1, .int (zI (j))), (2, .int (zI (x)))] := hl
  have hX := hP.2
  have hP := hP.1
  have hC := hP.2.2.2.2.2
  have hT := hC.1
  have hdt := hC.2.1
  have hlm := hC.2.2.1
  have hkn := hC.2.2.2.1
  have hD := hC.2.2.2.2.1
  have hB := hC.2.2.2.2.2
  have hrn4 := hP.2.2.2.2.1.2.2.2.2.2.1
  refine z_aload_n S dX2_ofRange_0 hl 0 rfl rfl ?_
  refine z_get S hG hP.1 zc_X2 0 (by decide) q1_60 rfl rfl dX2_ofRange_1 ?_
  refine z_iload_n S dX2_ofRange_4 hl 1 rfl rfl ?_
  refine z_callVs S hG (c_X0_rangeAt0 l G σ a j (by omega)) ok_X0_rangeAt hP.2.2.2.2.1.1 zc_X0 rfl q2_39 (hP.2.2.2.2.1) ⟨rfl, rfl, by decide, by decide⟩ ⟨Nat.zero_le _, Nat.zero_le _⟩ rfl (Nat.le_of_ble_eq_true rfl) hl.1 rfl dX2_ofRange_5 ?_
  refine z_astore_nN (lv' := [(3, .null), (0, .ref (a 0)), (1, .int (zI (j))), (2, .int (zI (x)))]) S dX2_ofRange_8 hl rfl (by decide) rfl (fun ls hl => ?_)
  refine z_aload_nN S dX2_ofRange_9 hl 0 rfl rfl ?_
  refine z_ifnonnull_n S 23 dX2_ofRange_10 (by decide) ?_
  exact thr 13 _ 43 110 47 "no such range" zxw_I q2_95 qt3_34 dX2_ofRange_13 dX2_ofRange_16 dX2_ofRange_17 dX2_ofRange_19 dX2_ofRange_22 hl.1
set_option maxHeartbeats 4000000 in
set_option maxRecDepth 100000 in
theorem x_ofRange_A (l : Launch) (hl0 : l.stackTraces = false) (G : zG) (σ : St) (a : Nat → Nat) (j x : Int) (rj : rg j) (rx : rg x) (h1 : 0 ≤ j ∧ j < σ.rn) (h2 : ¬ (0 ≤ x ∧ x ≤ 5)) : zThr l yX2_ofRange (wq yX2_ofRange cX2_ofRange 4 ((Option.some Jvm.ClassFile.FieldType.int))) (rmM 6 90 1 6) (va_Pc [.ref (a 0), .int (zI (j)), .int (zI (x))] (zK G (fun H => hCyc G σ a H ∧ zXp G H))) "java/lang/IllegalArgumentException" := by
  refine z_enterX (by decide +kernel) (Nat.le_of_ble_eq_true rfl) hl0 ⟨by decide, by decide, by decide, by decide⟩ (fun H h => h.2) ?_
  intro p env s m below meth cod Q S hG hP thr ls hl
  have hl : lv_has ls 4 [(0, .ref (a 0)), (1, .int (zI (j))), (2, .int (zI (x)))] := hl
  have hX := hP.2
  have hP := hP.1
  have hC := hP.2.2.2.2.2
  have hT := hC.1
  have hdt := hC.2.1
  have hlm := hC.2.2.1
  have hkn := hC.2.2.2.1
  have hD := hC.2.2.2.2.1
  have hB := hC.2.2.2.2.2
  have hrn4 := hP.2.2.2.2.1.2.2.2.2.2.1
  refine z_aload_n S dX2_ofRange_0 hl 0 rfl rfl ?_
  refine z_get S hG hP.1 zc_X2 0 (by decide) q1_60 rfl rfl dX2_ofRange_1 ?_
  refine z_iload_n S dX2_ofRange_4 hl 1 rfl rfl ?_
  refine z_callVs S hG (c_X0_rangeAt1 l G σ a j (by omega)) ok_X0_rangeAt hP.2.2.2.2.1.1 zc_X0 rfl q2_39 (hP.2.2.2.2.1) ⟨rfl, rfl, by decide, by decide⟩ ⟨Nat.zero_le _, Nat.zero_le _⟩ rfl (Nat.le_of_ble_eq_true rfl) hl.1 rfl dX2_ofRange_5 ?_
  refine z_astore_n (lv' := [(3, .ref (a (8 + Int.toNat (j)))), (0, .ref (a 0)), (1, .int (zI (j))), (2, .int (zI (x)))]) S dX2_ofRange_8 hl rfl (by decide) rfl (fun ls hl => ?_)
  refine z_aload_n S dX2_ofRange_9 hl 0 rfl rfl ?_
  refine z_ifnonnull_r S 23 dX2_ofRange_10 (by decide) ?_
  refine z_iload_n S dX2_ofRange_23 hl 3 rfl rfl ?_
  refine z_bipush S dX2_ofRange_24 rfl ?_
  refine z_callSs S hG (c_X2_isFact l G (x) (6) (by omega)) ok_X2_isFact q3_96 (trivial) ⟨rfl, rfl, by decide, by decide⟩ ⟨Nat.zero_le _, Nat.zero_le _⟩ rfl (Nat.le_of_ble_eq_true rfl) hl.1 rfl dX2_ofRange_26 ?_
  refine z_bif_ne S 42 dX2_ofRange_29 (by decide) (fun c_29 => ?_) (fun c_29 => ?_)
  · skip
    have d_29 := c_29
    simp at d_29
    exfalso; omega
  · skip
    have d_29 := c_29
    simp at d_29
    exact thr 32 _ 53 164 57 "not 0 to 5" zxw_A q2_166 qt3_107 dX2_ofRange_32 dX2_ofRange_35 dX2_ofRange_36 dX2_ofRange_38 dX2_ofRange_41 hl.1
theorem qt3_122 : (Jvm.Cond.stringRef "Cyclepaint" (172 : Nat) "not 0 to 11") ∈ lw_tbl := zin3 (List.mem_of_getElem? (i := 122) rfl)
set_option maxHeartbeats 4000000 in
set_option maxRecDepth 100000 in
theorem x_picture_A (l : Launch) (hl0 : l.stackTraces = false) (G : zG) (σ : St) (a : Nat → Nat) (x : Int) (rx : rg x) (h1 : ¬ (0 ≤ x ∧ x ≤ 11)) : zThr l yX2_picture (wq yX2_picture cX2_picture 2 ((Option.some Jvm.ClassFile.FieldType.int))) (rmM 6 90 1 6) (va_Pc [.ref (a 0), .int (zI (x))] (zK G (fun H => hCyc G σ a H ∧ zXp G H))) "java/lang/IllegalArgumentException" := by
  refine z_enterX (by decide +kernel) (Nat.le_of_ble_eq_true rfl) hl0 ⟨by decide, by decide, by decide, by decide⟩ (fun H h => h.2) ?_
  intro p env s m below meth cod Q S hG hP thr ls hl
  have hl : lv_has ls 2 [(0, .ref (a 0)), (1, .int (zI (x)))] := hl
  have hX := hP.2
  have hP := hP.1
  have hC := hP.2.2.2.2.2
  have hT := hC.1
  have hdt := hC.2.1
  have hlm := hC.2.2.1
  have hkn := hC.2.2.2.1
  have hD := hC.2.2.2.2.1
  have hB := hC.2.2.2.2.2
  have hrn4 := hP.2.2.2.2.1.2.2.2.2.2.1
  refine z_iload_n S dX2_picture_0 hl 1 rfl rfl ?_
  refine z_bipush S dX2_picture_1 rfl ?_
  refine z_callSs S hG (c_X2_isFact l G (x) (12) (by omega)) ok_X2_isFact q3_96 (trivial) ⟨rfl, rfl, by decide, by decide⟩ ⟨Nat.zero_le _, Nat.zero_le _⟩ rfl (Nat.le_of_ble_eq_true rfl) hl.1 rfl dX2_picture_3 ?_
  refine z_bif_ne S 19 dX2_picture_6 (by decide) (fun c_6 => ?_) (fun c_6 => ?_)
  · skip
    have d_6 := c_6
    simp at d_6
    exfalso; omega
  · skip
    have d_6 := c_6
    simp at d_6
    exact thr 9 _ 53 172 57 "not 0 to 11" zxw_A q2_166 qt3_122 dX2_picture_9 dX2_picture_12 dX2_picture_13 dX2_picture_15 dX2_picture_18 hl.1
theorem dX2_row_0 : decode cX2_row 0 = .ok (.iload_n 1, 1) := by decide +kernel
theorem dX2_row_1 : decode cX2_row 1 = .ok (.iconst 0, 1) := by decide +kernel
theorem dX2_row_2 : decode cX2_row 2 = .ok (.invokestatic 66, 3) := by decide +kernel
theorem dX2_row_5 : decode cX2_row 5 = .ok (.ifCond .ne 13, 3) := by decide +kernel
theorem dX2_row_8 : decode cX2_row 8 = .ok (.new 43, 3) := by decide +kernel
theorem dX2_row_11 : decode cX2_row 11 = .ok (.dup, 1) := by decide +kernel
theorem dX2_row_12 : decode cX2_row 12 = .ok (.ldc 180, 2) := by decide +kernel
theorem dX2_row_14 : decode cX2_row 14 = .ok (.invokespecial 47, 3) := by decide +kernel
theorem dX2_row_17 : decode cX2_row 17 = .ok (.athrow, 1) := by decide +kernel
theorem dX2_row_18 : decode cX2_row 18 = .ok (.new 182, 3) := by decide +kernel
theorem dX2_row_21 : decode cX2_row 21 = .ok (.dup, 1) := by decide +kernel
theorem dX2_row_22 : decode cX2_row 22 = .ok (.invokespecial 184, 3) := by decide +kernel
theorem dX2_row_25 : decode cX2_row 25 = .ok (.astore_n 2, 1) := by decide +kernel
theorem dX2_row_26 : decode cX2_row 26 = .ok (.iconst 0, 1) := by decide +kernel
theorem dX2_row_27 : decode cX2_row 27 = .ok (.istore_n 3, 1) := by decide +kernel
theorem dX2_row_28 : decode cX2_row 28 = .ok (.iload_n 3, 1) := by decide +kernel
theorem dX2_row_29 : decode cX2_row 29 = .ok (.bipush 8, 2) := by decide +kernel
theorem dX2_row_31 : decode cX2_row 31 = .ok (.if_icmp .ge 35, 3) := by decide +kernel
theorem dX2_row_34 : decode cX2_row 34 = .ok (.iload_n 3, 1) := by decide +kernel
theorem dX2_row_35 : decode cX2_row 35 = .ok (.ifCond .le 10, 3) := by decide +kernel
theorem dX2_row_38 : decode cX2_row 38 = .ok (.aload_n 2, 1) := by decide +kernel
theorem dX2_row_39 : decode cX2_row 39 = .ok (.bipush 32, 2) := by decide +kernel
theorem dX2_row_41 : decode cX2_row 41 = .ok (.invokevirtual 185, 3) := by decide +kernel
theorem dX2_row_44 : decode cX2_row 44 = .ok (.pop, 1) := by decide +kernel
theorem dX2_row_45 : decode cX2_row 45 = .ok (.aload_n 2, 1) := by decide +kernel
theorem dX2_row_46 : decode cX2_row 46 = .ok (.aload_n 0, 1) := by decide +kernel
theorem dX2_row_47 : decode cX2_row 47 = .ok (.iload_n 1, 1) := by decide +kernel
theorem dX2_row_48 : decode cX2_row 48 = .ok (.bipush 8, 2) := by decide +kernel
theorem dX2_row_50 : decode cX2_row 50 = .ok (.imul, 1) := by decide +kernel
theorem dX2_row_51 : decode cX2_row 51 = .ok (.iload_n 3, 1) := by decide +kernel
theorem dX2_row_52 : decode cX2_row 52 = .ok (.iadd, 1) := by decide +kernel
theorem dX2_row_53 : decode cX2_row 53 = .ok (.invokevirtual 189, 3) := by decide +kernel
theorem dX2_row_56 : decode cX2_row 56 = .ok (.invokevirtual 192, 3) := by decide +kernel
theorem dX2_row_59 : decode cX2_row 59 = .ok (.pop, 1) := by decide +kernel
theorem dX2_row_60 : decode cX2_row 60 = .ok (.iinc 3 1, 3) := by decide +kernel
theorem dX2_row_63 : decode cX2_row 63 = .ok (.goto (-35), 3) := by decide +kernel
theorem dX2_row_66 : decode cX2_row 66 = .ok (.aload_n 2, 1) := by decide +kernel
theorem dX2_row_67 : decode cX2_row 67 = .ok (.invokevirtual 195, 3) := by decide +kernel
theorem dX2_row_70 : decode cX2_row 70 = .ok (.areturn, 1) := by decide +kernel
theorem qt3_130 : (Jvm.Cond.stringRef "Cyclepaint" (180 : Nat) "no such row") ∈ lw_tbl := zin3 (List.mem_of_getElem? (i := 130) rfl)
theorem q3_129 : (Jvm.Cond.code ({ cls := "Cyclepaint", name := "row", desc := "(I)Ljava/lang/String;" } : Jvm.MethodName) prog_1_method_18_code (4 : Nat) (Option.some (Jvm.ClassFile.FieldType.object "java/lang/String"))) ∈ lw_g := zg_of (zin3 (List.mem_of_getElem? (i := 129) rfl)) rfl
theorem q3_127 : (Jvm.Cond.instanceMethod ({ cls := "Cyclepaint", name := "row", desc := "(I)Ljava/lang/String;" } : Jvm.MethodName)) ∈ lw_g := zg_of (zin3 (List.mem_of_getElem? (i := 127) rfl)) rfl
theorem q3_128 : (Jvm.Cond.selects "Cyclepaint" ({ cls := "Cyclepaint", name := "row", desc := "(I)Ljava/lang/String;" } : Jvm.MethodName) ({ cls := "Cyclepaint", name := "row", desc := "(I)Ljava/lang/String;" } : Jvm.MethodName)) ∈ lw_g := zg_of (zin3 (List.mem_of_getElem? (i := 128) rfl)) rfl
theorem ok_X2_row : zOV yX2_row cX2_row 4 ((Option.some (Jvm.ClassFile.FieldType.object "java/lang/String"))) 1 := ⟨⟨q3_129, q1_1, by decide, by decide, by decide +kernel⟩, q3_127, q3_128⟩
set_option maxHeartbeats 4000000 in
set_option maxRecDepth 100000 in
theorem x_row_I (l : Launch) (hl0 : l.stackTraces = false) (G : zG) (σ : St) (a : Nat → Nat) (x : Int) (rx : rg x) (h1 : ¬ (0 ≤ x ∧ x ≤ 3)) : zThr l yX2_row (wq yX2_row cX2_row 4 ((Option.some (Jvm.ClassFile.FieldType.object "java/lang/String")))) (rmM 6 90 1 6) (va_Pc [.ref (a 0), .int (zI (x))] (zK G (fun H => hCyc G σ a H ∧ zXp G H))) "java/lang/IndexOutOfBoundsException" := by
  refine z_enterX (by decide +kernel) (Nat.le_of_ble_eq_true rfl) hl0 ⟨by decide, by decide, by decide, by decide⟩ (fun H h => h.2) ?_
  intro p env s m below meth cod Q S hG hP thr ls hl
  have hl : lv_has ls 4 [(0, .ref (a 0)), (1, .int (zI (x)))] := hl
  have hX := hP.2
  have hP := hP.1
  have hC := hP.2.2.2.2.2
  have hT := hC.1
  have hdt := hC.2.1
  have hlm := hC.2.2.1
  have hkn := hC.2.2.2.1
  have hD := hC.2.2.2.2.1
  have hB := hC.2.2.2.2.2
  have hrn4 := hP.2.2.2.2.1.2.2.2.2.2.1
  refine z_iload_n S dX2_row_0 hl 1 rfl rfl ?_
  refine z_iconst S dX2_row_1 ?_
  refine z_callSs S hG (c_X2_isDot l G (x) (0) (by omega)) ok_X2_isDot q2_193 (trivial) ⟨rfl, rfl, by decide, by decide⟩ ⟨Nat.zero_le _, Nat.zero_le _⟩ rfl (Nat.le_of_ble_eq_true rfl) hl.1 rfl dX2_row_2 ?_
  refine z_bif_ne S 18 dX2_row_5 (by decide) (fun c_5 => ?_) (fun c_5 => ?_)
  · skip
    have d_5 := c_5
    simp at d_5
    exfalso; omega
  · skip
    have d_5 := c_5
    simp at d_5
    exact thr 8 _ 43 180 47 "no such row" zxw_I q2_95 qt3_130 dX2_row_8 dX2_row_11 dX2_row_12 dX2_row_14 dX2_row_17 hl.1
set_option maxHeartbeats 4000000 in
set_option maxRecDepth 100000 in
theorem x_at_I (l : Launch) (hl0 : l.stackTraces = false) (G : zG) (σ : St) (a : Nat → Nat) (e x : Int) (re : rg e) (rx : rg x) (h1 : ¬ (0 ≤ e ∧ e ≤ 15)) : zThr l yX2_at (wq yX2_at cX2_at 3 ((Option.some Jvm.ClassFile.FieldType.int))) (rmM 6 90 1 6) (va_Pc [.ref (a 0), .int (zI (e)), .int (zI (x))] (zK G (fun H => hCyc G σ a H ∧ zXp G H))) "java/lang/IndexOutOfBoundsException" := by
  refine z_enterX (by decide +kernel) (Nat.le_of_ble_eq_true rfl) hl0 ⟨by decide, by decide, by decide, by decide⟩ (fun H h => h.2) ?_
  intro p env s m below meth cod Q S hG hP thr ls hl
  have hl : lv_has ls 3 [(0, .ref (a 0)), (1, .int (zI (e))), (2, .int (zI (x)))] := hl
  have hX := hP.2
  have hP := hP.1
  have hC := hP.2.2.2.2.2
  have hT := hC.1
  have hdt := hC.2.1
  have hlm := hC.2.2.1
  have hkn := hC.2.2.2.1
  have hD := hC.2.2.2.2.1
  have hB := hC.2.2.2.2.2
  have hrn4 := hP.2.2.2.2.1.2.2.2.2.2.1
  refine z_iload_n S dX2_at_0 hl 1 rfl rfl ?_
  refine z_callSs S hG (c_X2_isEntry l G (e) (by omega)) ok_X2_isEntry q1_137 (trivial) ⟨rfl, rfl, by decide, by decide⟩ ⟨Nat.zero_le _, Nat.zero_le _⟩ rfl (Nat.le_of_ble_eq_true rfl) hl.1 rfl dX2_at_1 ?_
  refine z_bif_ne S 17 dX2_at_4 (by decide) (fun c_4 => ?_) (fun c_4 => ?_)
  · skip
    have d_4 := c_4
    simp at d_4
    exfalso; omega
  · skip
    have d_4 := c_4
    simp at d_4
    exact thr 7 _ 43 45 47 "no such entry" zxw_I q2_95 qt2_136 dX2_at_7 dX2_at_10 dX2_at_11 dX2_at_13 dX2_at_16 hl.1
set_option maxHeartbeats 4000000 in
set_option maxRecDepth 100000 in
theorem x_at_A (l : Launch) (hl0 : l.stackTraces = false) (G : zG) (σ : St) (a : Nat → Nat) (e x : Int) (re : rg e) (rx : rg x) (h1 : (0 ≤ e ∧ e ≤ 15)) (h2 : ¬ (0 ≤ x ∧ x ≤ 99999)) : zThr l yX2_at (wq yX2_at cX2_at 3 ((Option.some Jvm.ClassFile.FieldType.int))) (rmM 6 90 1 6) (va_Pc [.ref (a 0), .int (zI (e)), .int (zI (x))] (zK G (fun H => hCyc G σ a H ∧ zXp G H))) "java/lang/IllegalArgumentException" := by
  refine z_enterX (by decide +kernel) (Nat.le_of_ble_eq_true rfl) hl0 ⟨by decide, by decide, by decide, by decide⟩ (fun H h => h.2) ?_
  intro p env s m below meth cod Q S hG hP thr ls hl
  have hl : lv_has ls 3 [(0, .ref (a 0)), (1, .int (zI (e))), (2, .int (zI (x)))] := hl
  have hX := hP.2
  have hP := hP.1
  have hC := hP.2.2.2.2.2
  have hT := hC.1
  have hdt := hC.2.1
  have hlm := hC.2.2.1
  have hkn := hC.2.2.2.1
  have hD := hC.2.2.2.2.1
  have hB := hC.2.2.2.2.2
  have hrn4 := hP.2.2.2.2.1.2.2.2.2.2.1
  refine z_iload_n S dX2_at_0 hl 1 rfl rfl ?_
  refine z_callSs S hG (c_X2_isEntry l G (e) (by omega)) ok_X2_isEntry q1_137 (trivial) ⟨rfl, rfl, by decide, by decide⟩ ⟨Nat.zero_le _, Nat.zero_le _⟩ rfl (Nat.le_of_ble_eq_true rfl) hl.1 rfl dX2_at_1 ?_
  refine z_bif_ne S 17 dX2_at_4 (by decide) (fun c_4 => ?_) (fun c_4 => ?_)
  · skip
    have d_4 := c_4
    simp at d_4
    refine z_iload_n S dX2_at_17 hl 2 rfl rfl ?_
    refine z_callSs S hG (c_X2_isTick l G (x) (by omega)) ok_X2_isTick q3_69 (trivial) ⟨rfl, rfl, by decide, by decide⟩ ⟨Nat.zero_le _, Nat.zero_le _⟩ rfl (Nat.le_of_ble_eq_true rfl) hl.1 rfl dX2_at_18 ?_
    refine z_bif_ne S 34 dX2_at_21 (by decide) (fun c_21 => ?_) (fun c_21 => ?_)
    · skip
      have d_21 := c_21
      simp at d_21
      exfalso; omega
    · skip
      have d_21 := c_21
      simp at d_21
      exact thr 24 _ 53 142 57 "no such tick" zxw_A q2_166 qt3_72 dX2_at_24 dX2_at_27 dX2_at_28 dX2_at_30 dX2_at_33 hl.1
  · skip
    have d_4 := c_4
    simp at d_4
    exfalso; omega
set_option maxHeartbeats 4000000 in
set_option maxRecDepth 100000 in
theorem x_find_I (l : Launch) (hl0 : l.stackTraces = false) (G : zG) (σ : St) (a : Nat → Nat) (e x f : Int) (re : rg e) (rx : rg x) (rf : rg f) (h1 : ¬ (0 ≤ e ∧ e ≤ 15)) : zThr l yX2_find (wq yX2_find cX2_find 4 ((Option.some Jvm.ClassFile.FieldType.int))) (rmM 6 90 1 6) (va_Pc [.ref (a 0), .int (zI (e)), .int (zI (x)), .int (zI (f))] (zK G (fun H => hCyc G σ a H ∧ zXp G H))) "java/lang/IndexOutOfBoundsException" := by
  refine z_enterX (by decide +kernel) (Nat.le_of_ble_eq_true rfl) hl0 ⟨by decide, by decide, by decide, by decide⟩ (fun H h => h.2) ?_
  intro p env s m below meth cod Q S hG hP thr ls hl
  have hl : lv_has ls 4 [(0, .ref (a 0)), (1, .int (zI (e))), (2, .int (zI (x))), (3, .int (zI (f)))] := hl
  have hX := hP.2
  have hP := hP.1
  have hC := hP.2.2.2.2.2
  have hT := hC.1
  have hdt := hC.2.1
  have hlm := hC.2.2.1
  have hkn := hC.2.2.2.1
  have hD := hC.2.2.2.2.1
  have hB := hC.2.2.2.2.2
  have hrn4 := hP.2.2.2.2.1.2.2.2.2.2.1
  refine z_iload_n S dX2_find_0 hl 1 rfl rfl ?_
  refine z_callSs S hG (c_X2_isEntry l G (e) (by omega)) ok_X2_isEntry q1_137 (trivial) ⟨rfl, rfl, by decide, by decide⟩ ⟨Nat.zero_le _, Nat.zero_le _⟩ rfl (Nat.le_of_ble_eq_true rfl) hl.1 rfl dX2_find_1 ?_
  refine z_bif_ne S 17 dX2_find_4 (by decide) (fun c_4 => ?_) (fun c_4 => ?_)
  · skip
    have d_4 := c_4
    simp at d_4
    exfalso; omega
  · skip
    have d_4 := c_4
    simp at d_4
    exact thr 7 _ 43 45 47 "no such entry" zxw_I q2_95 qt2_136 dX2_find_7 dX2_find_10 dX2_find_11 dX2_find_13 dX2_find_16 hl.1
theorem qt4_168 : (Jvm.Cond.stringRef "Cyclepaint" (204 : Nat) "no such colour or tick") ∈ lw_tbl := zin4 (List.mem_of_getElem? (i := 168) rfl)
set_option maxHeartbeats 4000000 in
set_option maxRecDepth 100000 in
theorem x_find_A (l : Launch) (hl0 : l.stackTraces = false) (G : zG) (σ : St) (a : Nat → Nat) (e x f : Int) (re : rg e) (rx : rg x) (rf : rg f) (h1 : (0 ≤ e ∧ e ≤ 15)) (h2 : ¬ ((0 ≤ x ∧ x ≤ 63) ∧ (0 ≤ f ∧ f ≤ 99999))) : zThr l yX2_find (wq yX2_find cX2_find 4 ((Option.some Jvm.ClassFile.FieldType.int))) (rmM 6 90 1 6) (va_Pc [.ref (a 0), .int (zI (e)), .int (zI (x)), .int (zI (f))] (zK G (fun H => hCyc G σ a H ∧ zXp G H))) "java/lang/IllegalArgumentException" := by
  refine z_enterX (by decide +kernel) (Nat.le_of_ble_eq_true rfl) hl0 ⟨by decide, by decide, by decide, by decide⟩ (fun H h => h.2) ?_
  intro p env s m below meth cod Q S hG hP thr ls hl
  have hl : lv_has ls 4 [(0, .ref (a 0)), (1, .int (zI (e))), (2, .int (zI (x))), (3, .int (zI (f)))] := hl
  have hX := hP.2
  have hP := hP.1
  have hC := hP.2.2.2.2.2
  have hT := hC.1
  have hdt := hC.2.1
  have hlm := hC.2.2.1
  have hkn := hC.2.2.2.1
  have hD := hC.2.2.2.2.1
  have hB := hC.2.2.2.2.2
  have hrn4 := hP.2.2.2.2.1.2.2.2.2.2.1
  refine z_iload_n S dX2_find_0 hl 1 rfl rfl ?_
  refine z_callSs S hG (c_X2_isEntry l G (e) (by omega)) ok_X2_isEntry q1_137 (trivial) ⟨rfl, rfl, by decide, by decide⟩ ⟨Nat.zero_le _, Nat.zero_le _⟩ rfl (Nat.le_of_ble_eq_true rfl) hl.1 rfl dX2_find_1 ?_
  refine z_bif_ne S 17 dX2_find_4 (by decide) (fun c_4 => ?_) (fun c_4 => ?_)
  · skip
    have d_4 := c_4
    simp at d_4
    refine z_iload_n S dX2_find_17 hl 2 rfl rfl ?_
    refine z_callSs S hG (c_X2_isColour l G (x) (by omega)) ok_X2_isColour q2_163 (trivial) ⟨rfl, rfl, by decide, by decide⟩ ⟨Nat.zero_le _, Nat.zero_le _⟩ rfl (Nat.le_of_ble_eq_true rfl) hl.1 rfl dX2_find_18 ?_
    refine z_bif_eq S 31 dX2_find_21 (by decide) (fun c_21 => ?_) (fun c_21 => ?_)
    · skip
      have d_21 := c_21
      simp at d_21
      exact thr 31 _ 53 204 57 "no such colour or tick" zxw_A q2_166 qt4_168 dX2_find_31 dX2_find_34 dX2_find_35 dX2_find_37 dX2_find_40 hl.1
    · skip
      have d_21 := c_21
      simp at d_21
      refine z_iload_n S dX2_find_24 hl 3 rfl rfl ?_
      refine z_callSs S hG (c_X2_isTick l G (f) (by omega)) ok_X2_isTick q3_69 (trivial) ⟨rfl, rfl, by decide, by decide⟩ ⟨Nat.zero_le _, Nat.zero_le _⟩ rfl (Nat.le_of_ble_eq_true rfl) hl.1 rfl dX2_find_25 ?_
      refine z_bif_ne S 41 dX2_find_28 (by decide) (fun c_28 => ?_) (fun c_28 => ?_)
      · skip
        have d_28 := c_28
        simp at d_28
        exfalso; omega
      · skip
        have d_28 := c_28
        simp at d_28
        exact thr 31 _ 53 204 57 "no such colour or tick" zxw_A q2_166 qt4_168 dX2_find_31 dX2_find_34 dX2_find_35 dX2_find_37 dX2_find_40 hl.1
  · skip
    have d_4 := c_4
    simp at d_4
    exfalso; omega
set_option maxHeartbeats 4000000 in
set_option maxRecDepth 100000 in
theorem x_meet_I (l : Launch) (hl0 : l.stackTraces = false) (G : zG) (σ : St) (a : Nat → Nat) (e x f y : Int) (re : rg e) (rx : rg x) (rf : rg f) (ry : rg y) (h1 : ¬ ((0 ≤ e ∧ e ≤ 15) ∧ (0 ≤ f ∧ f ≤ 15))) : zThr l yX2_meet (wq yX2_meet cX2_meet 5 ((Option.some Jvm.ClassFile.FieldType.int))) (rmM 6 90 1 6) (va_Pc [.ref (a 0), .int (zI (e)), .int (zI (x)), .int (zI (f)), .int (zI (y))] (zK G (fun H => hCyc G σ a H ∧ zXp G H))) "java/lang/IndexOutOfBoundsException" := by
  refine z_enterX (by decide +kernel) (Nat.le_of_ble_eq_true rfl) hl0 ⟨by decide, by decide, by decide, by decide⟩ (fun H h => h.2) ?_
  intro p env s m below meth cod Q S hG hP thr ls hl
  have hl : lv_has ls 5 [(0, .ref (a 0)), (1, .int (zI (e))), (2, .int (zI (x))), (3, .int (zI (f))), (4, .int (zI (y)))] := hl
  have hX := hP.2
  have hP := hP.1
  have hC := hP.2.2.2.2.2
  have hT := hC.1
  have hdt := hC.2.1
  have hlm := hC.2.2.1
  have hkn := hC.2.2.2.1
  have hD := hC.2.2.2.2.1
  have hB := hC.2.2.2.2.2
  have hrn4 := hP.2.2.2.2.1.2.2.2.2.2.1
  refine z_iload_n S dX2_meet_0 hl 1 rfl rfl ?_
  refine z_callSs S hG (c_X2_isEntry l G (e) (by omega)) ok_X2_isEntry q1_137 (trivial) ⟨rfl, rfl, by decide, by decide⟩ ⟨Nat.zero_le _, Nat.zero_le _⟩ rfl (Nat.le_of_ble_eq_true rfl) hl.1 rfl dX2_meet_1 ?_
  refine z_bif_eq S 14 dX2_meet_4 (by decide) (fun c_4 => ?_) (fun c_4 => ?_)
  · skip
    have d_4 := c_4
    simp at d_4
    exact thr 14 _ 43 45 47 "no such entry" zxw_I q2_95 qt2_136 dX2_meet_14 dX2_meet_17 dX2_meet_18 dX2_meet_20 dX2_meet_23 hl.1
  · skip
    have d_4 := c_4
    simp at d_4
    refine z_iload_n S dX2_meet_7 hl 3 rfl rfl ?_
    refine z_callSs S hG (c_X2_isEntry l G (f) (by omega)) ok_X2_isEntry q1_137 (trivial) ⟨rfl, rfl, by decide, by decide⟩ ⟨Nat.zero_le _, Nat.zero_le _⟩ rfl (Nat.le_of_ble_eq_true rfl) hl.1 rfl dX2_meet_8 ?_
    refine z_bif_ne S 24 dX2_meet_11 (by decide) (fun c_11 => ?_) (fun c_11 => ?_)
    · skip
      have d_11 := c_11
      simp at d_11
      exfalso; omega
    · skip
      have d_11 := c_11
      simp at d_11
      exact thr 14 _ 43 45 47 "no such entry" zxw_I q2_95 qt2_136 dX2_meet_14 dX2_meet_17 dX2_meet_18 dX2_meet_20 dX2_meet_23 hl.1
set_option maxHeartbeats 4000000 in
set_option maxRecDepth 100000 in
theorem x_meet_A (l : Launch) (hl0 : l.stackTraces = false) (G : zG) (σ : St) (a : Nat → Nat) (e x f y : Int) (re : rg e) (rx : rg x) (rf : rg f) (ry : rg y) (h1 : (0 ≤ e ∧ e ≤ 15) ∧ (0 ≤ f ∧ f ≤ 15)) (h2 : ¬ ((0 ≤ x ∧ x ≤ 63) ∧ (0 ≤ y ∧ y ≤ 63))) : zThr l yX2_meet (wq yX2_meet cX2_meet 5 ((Option.some Jvm.ClassFile.FieldType.int))) (rmM 6 90 1 6) (va_Pc [.ref (a 0), .int (zI (e)), .int (zI (x)), .int (zI (f)), .int (zI (y))] (zK G (fun H => hCyc G σ a H ∧ zXp G H))) "java/lang/IllegalArgumentException" := by
  refine z_enterX (by decide +kernel) (Nat.le_of_ble_eq_true rfl) hl0 ⟨by decide, by decide, by decide, by decide⟩ (fun H h => h.2) ?_
  intro p env s m below meth cod Q S hG hP thr ls hl
  have hl : lv_has ls 5 [(0, .ref (a 0)), (1, .int (zI (e))), (2, .int (zI (x))), (3, .int (zI (f))), (4, .int (zI (y)))] := hl
  have hX := hP.2
  have hP := hP.1
  have hC := hP.2.2.2.2.2
  have hT := hC.1
  have hdt := hC.2.1
  have hlm := hC.2.2.1
  have hkn := hC.2.2.2.1
  have hD := hC.2.2.2.2.1
  have hB := hC.2.2.2.2.2
  have hrn4 := hP.2.2.2.2.1.2.2.2.2.2.1
  refine z_iload_n S dX2_meet_0 hl 1 rfl rfl ?_
  refine z_callSs S hG (c_X2_isEntry l G (e) (by omega)) ok_X2_isEntry q1_137 (trivial) ⟨rfl, rfl, by decide, by decide⟩ ⟨Nat.zero_le _, Nat.zero_le _⟩ rfl (Nat.le_of_ble_eq_true rfl) hl.1 rfl dX2_meet_1 ?_
  refine z_bif_eq S 14 dX2_meet_4 (by decide) (fun c_4 => ?_) (fun c_4 => ?_)
  · skip
    have d_4 := c_4
    simp at d_4
    exfalso; omega
  · skip
    have d_4 := c_4
    simp at d_4
    refine z_iload_n S dX2_meet_7 hl 3 rfl rfl ?_
    refine z_callSs S hG (c_X2_isEntry l G (f) (by omega)) ok_X2_isEntry q1_137 (trivial) ⟨rfl, rfl, by decide, by decide⟩ ⟨Nat.zero_le _, Nat.zero_le _⟩ rfl (Nat.le_of_ble_eq_true rfl) hl.1 rfl dX2_meet_8 ?_
    refine z_bif_ne S 24 dX2_meet_11 (by decide) (fun c_11 => ?_) (fun c_11 => ?_)
    · skip
      have d_11 := c_11
      simp at d_11
      refine z_iload_n S dX2_meet_24 hl 2 rfl rfl ?_
      refine z_callSs S hG (c_X2_isColour l G (x) (by omega)) ok_X2_isColour q2_163 (trivial) ⟨rfl, rfl, by decide, by decide⟩ ⟨Nat.zero_le _, Nat.zero_le _⟩ rfl (Nat.le_of_ble_eq_true rfl) hl.1 rfl dX2_meet_25 ?_
      refine z_bif_eq S 39 dX2_meet_28 (by decide) (fun c_28 => ?_) (fun c_28 => ?_)
      · skip
        have d_28 := c_28
        simp at d_28
        exact thr 39 _ 53 55 57 "no such colour" zxw_A q2_166 qt2_175 dX2_meet_39 dX2_meet_42 dX2_meet_43 dX2_meet_45 dX2_meet_48 hl.1
      · skip
        have d_28 := c_28
        simp at d_28
        refine z_iload S dX2_meet_31 hl 4 rfl ?_
        refine z_callSs S hG (c_X2_isColour l G (y) (by omega)) ok_X2_isColour q2_163 (trivial) ⟨rfl, rfl, by decide, by decide⟩ ⟨Nat.zero_le _, Nat.zero_le _⟩ rfl (Nat.le_of_ble_eq_true rfl) hl.1 rfl dX2_meet_33 ?_
        refine z_bif_ne S 49 dX2_meet_36 (by decide) (fun c_36 => ?_) (fun c_36 => ?_)
        · skip
          have d_36 := c_36
          simp at d_36
          exfalso; omega
        · skip
          have d_36 := c_36
          simp at d_36
          exact thr 39 _ 53 55 57 "no such colour" zxw_A q2_166 qt2_175 dX2_meet_39 dX2_meet_42 dX2_meet_43 dX2_meet_45 dX2_meet_48 hl.1
    · skip
      have d_11 := c_11
      simp at d_11
      exfalso; omega
theorem qt4_183 : (Jvm.Cond.stringRef "Cyclepaint" (213 : Nat) "no such kept picture") ∈ lw_tbl := zin4 (List.mem_of_getElem? (i := 183) rfl)
set_option maxHeartbeats 4000000 in
set_option maxRecDepth 100000 in
theorem x_when_I (l : Launch) (hl0 : l.stackTraces = false) (G : zG) (σ : St) (a : Nat → Nat) (n : Int) (rn : rg n) (h1 : ¬ (0 ≤ n ∧ n < σ.kn)) : zThr l yX2_when (wq yX2_when cX2_when 2 ((Option.some Jvm.ClassFile.FieldType.int))) (rmM 6 90 1 6) (va_Pc [.ref (a 0), .int (zI (n))] (zK G (fun H => hCyc G σ a H ∧ zXp G H))) "java/lang/IndexOutOfBoundsException" := by
  refine z_enterX (by decide +kernel) (Nat.le_of_ble_eq_true rfl) hl0 ⟨by decide, by decide, by decide, by decide⟩ (fun H h => h.2) ?_
  intro p env s m below meth cod Q S hG hP thr ls hl
  have hl : lv_has ls 2 [(0, .ref (a 0)), (1, .int (zI (n)))] := hl
  have hX := hP.2
  have hP := hP.1
  have hC := hP.2.2.2.2.2
  have hT := hC.1
  have hdt := hC.2.1
  have hlm := hC.2.2.1
  have hkn := hC.2.2.2.1
  have hD := hC.2.2.2.2.1
  have hB := hC.2.2.2.2.2
  have hrn4 := hP.2.2.2.2.1.2.2.2.2.2.1
  refine z_iload_n S dX2_when_0 hl 1 rfl rfl ?_
  refine z_if_lt S 12 dX2_when_1 (by decide) (by omega) (fun c_1 => ?_) (fun c_1 => ?_)
  · skip
    exact thr 12 _ 43 213 47 "no such kept picture" zxw_I q2_95 qt4_183 dX2_when_12 dX2_when_15 dX2_when_16 dX2_when_18 dX2_when_21 hl.1
  · skip
    refine z_iload_n S dX2_when_4 hl 1 rfl rfl ?_
    refine z_aload_n S dX2_when_5 hl 0 rfl rfl ?_
    refine z_get S hG hP.1 zc_X2 4 (by decide) q1_64 rfl rfl dX2_when_6 ?_
    refine z_icmp_lt S 22 dX2_when_9 (by decide) (by omega) (by omega) (fun c_9 => ?_) (fun c_9 => ?_)
    · skip
      exfalso; omega
    · skip
      exact thr 12 _ 43 213 47 "no such kept picture" zxw_I q2_95 qt4_183 dX2_when_12 dX2_when_15 dX2_when_16 dX2_when_18 dX2_when_21 hl.1
set_option maxHeartbeats 4000000 in
set_option maxRecDepth 100000 in
theorem x_lightest_A (l : Launch) (hl0 : l.stackTraces = false) (G : zG) (σ : St) (a : Nat → Nat) (n : Int) (rn : rg n) (h1 : ¬ (1 ≤ n ∧ n ≤ 200)) : zThr l yX2_lightest (wq yX2_lightest cX2_lightest 2 ((Option.some Jvm.ClassFile.FieldType.int))) (rmM 6 90 1 6) (va_Pc [.ref (a 0), .int (zI (n))] (zK G (fun H => hCyc G σ a H ∧ zXp G H))) "java/lang/IllegalArgumentException" := by
  refine z_enterX (by decide +kernel) (Nat.le_of_ble_eq_true rfl) hl0 ⟨by decide, by decide, by decide, by decide⟩ (fun H h => h.2) ?_
  intro p env s m below meth cod Q S hG hP thr ls hl
  have hl : lv_has ls 2 [(0, .ref (a 0)), (1, .int (zI (n)))] := hl
  have hX := hP.2
  have hP := hP.1
  have hC := hP.2.2.2.2.2
  have hT := hC.1
  have hdt := hC.2.1
  have hlm := hC.2.2.1
  have hkn := hC.2.2.2.1
  have hD := hC.2.2.2.2.1
  have hB := hC.2.2.2.2.2
  have hrn4 := hP.2.2.2.2.1.2.2.2.2.2.1
  refine z_iload_n S dX2_lightest_0 hl 1 rfl rfl ?_
  refine z_callSs S hG (c_X2_isTickCount l G (n) (by omega)) ok_X2_isTickCount q3_56 (trivial) ⟨rfl, rfl, by decide, by decide⟩ ⟨Nat.zero_le _, Nat.zero_le _⟩ rfl (Nat.le_of_ble_eq_true rfl) hl.1 rfl dX2_lightest_1 ?_
  refine z_bif_ne S 17 dX2_lightest_4 (by decide) (fun c_4 => ?_) (fun c_4 => ?_)
  · skip
    have d_4 := c_4
    simp at d_4
    exfalso; omega
  · skip
    have d_4 := c_4
    simp at d_4
    exact thr 7 _ 53 130 57 "not 1 to 200 ticks" zxw_A q2_166 qt3_59 dX2_lightest_7 dX2_lightest_10 dX2_lightest_11 dX2_lightest_13 dX2_lightest_16 hl.1
