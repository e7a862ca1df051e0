section ZSTART
variable {args : Array Value} {s : State} {G : zG}
theorem z_static {C n d : String} {v : Value} (hl : (Cond.laysStatic C n d).before args s = true) (hini : (Cond.initialized C).before args s = true) (hv : (Term.static C n d).eval args s none [] s = some v) : ∃ (ad sl cc : Nat), (∃ (kf : Class) (fi : Nat) (f : Field), s.vm.findClass C = some cc ∧ s.fieldFound? C n d = some (cc, kf, fi, f) ∧ f.isStatic = true ∧ kf.init = .initialized ∧ kf.statics = some ad ∧ f.slot = sl ∧ kf.staticTypes[f.slot]? = some f.type) ∧ (∃ cell : Cell, s.heap[ad]? = some cell ∧ cell.vm.isStatics = true ∧ cell.cls = cc ∧ sl < cell.slots.size ∧ cell.slots[sl]? = some v) := by
  obtain ⟨c, k, i, f, a, cell, hc, hi, hst, ha, hcell, hs, hcls, hlt, hty⟩ := Cond.laysStatic_spec hl
  obtain ⟨-, a', cell', ha', hcell', -, hslot⟩ := Term.static_spec hi hv
  cases ha.symm.trans ha'
  cases hcell.symm.trans hcell'
  exact ⟨a, f.slot, c, ⟨k, i, f, hc, hi, hst, Cond.initialized_spec hc (State.fieldFound?_spec hi).1 hini, ha, rfl, hty⟩, cell, hcell, hs, hcls, hlt, hslot⟩
theorem zStV.mk {i ad sl cc : Nat} {C n d : String} (e1 : G.2 (100 + i) = ad) (e2 : G.2 (200 + i) = sl) (e3 : G.2 (300 + i) = cc) (h : ∃ (kf : Class) (fi : Nat) (f : Field), s.vm.findClass C = some cc ∧ s.fieldFound? C n d = some (cc, kf, fi, f) ∧ f.isStatic = true ∧ kf.init = .initialized ∧ kf.statics = some ad ∧ f.slot = sl ∧ kf.staticTypes[f.slot]? = some f.type) : zStV G i C n d s := by
  subst e1; subst e2; subst e3
  exact h
theorem zStH.mk {i ad sl cc : Nat} {v : Value} {H : Heap} (e1 : G.2 (100 + i) = ad) (e2 : G.2 (200 + i) = sl) (e3 : G.2 (300 + i) = cc) (h : ∃ cell : Cell, H[ad]? = some cell ∧ cell.vm.isStatics = true ∧ cell.cls = cc ∧ sl < cell.slots.size ∧ cell.slots[sl]? = some v) : zStH G i v H := by
  subst e1; subst e2; subst e3
  exact h
theorem z_eqt {t : Term} {z : Int32} (h : (Cond.eq t (.int z)).before args s = true) : t.eval args s none [] s = some (.int z) := by
  cases hv : t.eval args s none [] s with
  | none => simp [Cond.before, Cond.holds, Cond.value, hv] at h
  | some w =>
    have hz : (Term.int z).eval args s none [] s = some (.int z) := rfl
    simp only [Cond.before, Cond.holds, Cond.value, hv, hz] at h
    cases w <;> simp_all
/-- a row of bytes that the premises tell -/
theorem z_byrow {t : Term} {N : Nat} {cb : ClassId} {f : Nat → Int32} (hN : N < 1000) (hcb : s.vm.findClass "[B" = some cb) (hex : (Cond.exactly t "[B").before args s = true) (harr : (Cond.arrayOf t .byte).before args s = true) (hlen : (Cond.eq (.length t) (.int (Int32.ofNat N))).before args s = true) (hel : ∀ j : Nat, j < N → (Cond.eq (.elem t (.int (Int32.ofNat j))) (.int (f j))).before args s = true) (hf : ∀ j : Nat, j < N → fits .byte (.int (f j)) = true) : ∃ a : Nat, t.eval args s none [] s = some (.ref a) ∧ a < s.heap.size ∧ zBw cb a N s.heap := by
  obtain ⟨a, ht, cell, h1, h2, h3, h4, h5, h6, -⟩ := va_Tof (A := fun _ => False) (f := fun j => .int (f j)) (by omega) harr (z_eqt hlen) (fun j hj => z_eqt (hel j hj)) (fun _ _ z => z)
  obtain ⟨a2, c2, cell2, k2, g1, g2, g3, -, g5, g6, -⟩ := Cond.exactly_spec hex
  cases ht.symm.trans g1
  cases h1.symm.trans g3
  cases hcb.symm.trans g2
  exact ⟨a, ht, (Array.getElem?_eq_some_iff.mp h1).1, cell, h1, h2.1, h3, g6, ⟨h4, by rw [h5]; exact zI_nI N⟩, fun j hj => ⟨f j, h6 j hj, hf j hj⟩⟩
theorem z_selT {C : String} {x y : MethodName} (hts : ∀ w ∈ lw_tbl, w.before args s = true) (hx : Cond.selects C x x ∈ lw_tbl) (hc : x.cls = y.cls) (hy : y.cls ≠ "java/lang/invoke/MethodHandle" ∧ y.cls ≠ "java/lang/invoke/VarHandle") (hp : Cond.privateMethod y ∈ lw_tbl) (hi : Cond.instanceMethod y ∈ lw_tbl) : va_Nw (.selects C y y) s := by
  refine va_Nw.of (A := args) rfl ?_
  have hq := hts _ hp
  obtain ⟨k1, k2, k3, g1, -, g3, -, kc, g5, g6⟩ := Cond.selects_spec (hts _ hx)
  obtain ⟨i1, i2, j1, j2, -, -⟩ := Cond.instanceMethod_spec (hts _ hi)
  have e1 : i1.cls = k3.cls := Option.some.inj ((findClass_of_methodNamed j1).symm.trans (hc ▸ findClass_of_methodNamed g3))
  have e2 := State.methodFound?_of_named j1 hy
  have e3 : selectMethod {} s.vm k1 i1 = .method i1 := selectMethod_private j2 (Cond.privateMethod_at hq i1 i2 j1 j2)
  simp only [Cond.before, Cond.holds, Cond.value, g1, e2, j1, e3, e1, g5]
  simp; exact g6
theorem z_arrS {ty : FieldType} (h : (Cond.arrayClass ty).before args s = true) : ∃ cA : Nat, s.vm.findClass ("[" ++ ty.toString) = some cA ∧ ArrOfT s cA ty := by
  obtain ⟨c, k, comp, h1, h2, h3⟩ := Cond.arrayClass_spec h
  exact ⟨c, h1, fun n f => ⟨fun k h => (by cases h), k, h2, comp, h3⟩⟩
theorem z_arrO {C : String} (h : (Cond.arrayOver (.object C)).before args s = true) : ∃ cA : Nat, s.vm.findClass ("[" ++ (FieldType.object C).toString) = some cA ∧ ArrOfT s cA (.object C) ∧ va_RA s cA (.object C) := by
  obtain ⟨comp, c, k, h1, -, h2, h3, h4⟩ := Cond.arrayOver_spec h
  exact ⟨c, h4, fun n f => ⟨fun k h => (by cases h), k, h2, comp, h3⟩, k, comp, h2, h3, h1, h4⟩
def zOnes (j : Nat) : Int32 := Int32.ofNat (48 + j % 10)
def zTens (j : Nat) : Int32 := Int32.ofNat (48 + j / 10)
end ZSTART
set_option maxRecDepth 100000 in
theorem nar_ones : ∀ j : Nat, j < 100 → (flatC (Jvm.Cond.and given_1 narrow_1))[14 + j]? = some (Cond.eq (.elem (.static "java/lang/Integer" "DigitOnes" "[B") (.int (Int32.ofNat j))) (.int (zOnes j))) := by decide +kernel
set_option maxRecDepth 100000 in
theorem nar_tens : ∀ j : Nat, j < 100 → (flatC (Jvm.Cond.and given_1 narrow_1))[117 + j]? = some (Cond.eq (.elem (.static "java/lang/Integer" "DigitTens" "[B") (.int (Int32.ofNat j))) (.int (zTens j))) := by decide +kernel
theorem fit_ones : ∀ j : Nat, j < 100 → fits .byte (.int (zOnes j)) = true := by decide +kernel
theorem fit_tens : ∀ j : Nat, j < 100 → fits .byte (.int (zTens j)) = true := by decide +kernel
def zSi (k : Nat) : Nat := if k = 194 then 867 else if k = 189 then 843 else if k = 213 then 800 else if k = 204 then 756 else if k = 337 then 732 else if k = 180 then 701 else if k = 172 then 671 else if k = 164 then 643 else if k = 159 then 616 else if k = 150 then 589 else if k = 144 then 564 else if k = 142 then 538 else if k = 133 then 510 else if k = 130 then 480 else if k = 112 then 448 else if k = 110 then 425 else if k = 94 then 390 else if k = 83 then 352 else if k = 72 then 320 else if k = 70 then 303 else if k = 55 then 284 else if k = 45 then 267 else 0
def zStr : Cond → Bool
  | .stringRef own k _ => decide ((flatC (Jvm.Cond.and given_1 narrow_1))[zSi k]? = some (Cond.exactly (.string own k) "java/lang/String"))
  | _ => true
theorem nar_str : lw_tbl.all zStr = true := by decide +kernel
theorem qt1_45 : (Jvm.Cond.arrayOver (Jvm.ClassFile.FieldType.object "Cyclepaint$Range")) ∈ lw_tbl := zin1 (List.mem_of_getElem? (i := 45) rfl)
theorem qt5_105 : (Jvm.Cond.arrayOver (Jvm.ClassFile.FieldType.object "java/lang/Object")) ∈ lw_tbl := zin5 (List.mem_of_getElem? (i := 105) rfl)
theorem qt4_54 : (Jvm.Cond.instantiable "java/lang/String" (4 : Nat)) ∈ lw_tbl := zin4 (List.mem_of_getElem? (i := 54) rfl)
theorem qt3_132 : (Jvm.Cond.instantiable "java/lang/StringBuilder" (4 : Nat)) ∈ lw_tbl := zin3 (List.mem_of_getElem? (i := 132) rfl)
theorem qt6_34 : (Jvm.Cond.instantiable "java/util/ArrayList$Itr" (4 : Nat)) ∈ lw_tbl := zin6 (List.mem_of_getElem? (i := 34) rfl)
theorem qt4_198 : (Jvm.Cond.instantiable "java/util/ArrayList" (3 : Nat)) ∈ lw_tbl := zin4 (List.mem_of_getElem? (i := 198) rfl)
theorem qt1_39 : (Jvm.Cond.instantiable "Cyclepaint$Palette" (4 : Nat)) ∈ lw_tbl := zin1 (List.mem_of_getElem? (i := 39) rfl)
theorem qt2_234 : (Jvm.Cond.instantiable "Cyclepaint$Range" (5 : Nat)) ∈ lw_tbl := zin2 (List.mem_of_getElem? (i := 234) rfl)
theorem qt1_31 : (Jvm.Cond.instantiable "Cyclepaint" (8 : Nat)) ∈ lw_tbl := zin1 (List.mem_of_getElem? (i := 31) rfl)
theorem qt2_74 : (Jvm.Cond.instantiable "CyclepaintLaw$Out" (2 : Nat)) ∈ lw_tbl := zin2 (List.mem_of_getElem? (i := 74) rfl)
theorem qt4_192 : (Jvm.Cond.instantiable "CyclepaintModel" (8 : Nat)) ∈ lw_tbl := zin4 (List.mem_of_getElem? (i := 192) rfl)
theorem qt4_210 : (Jvm.Cond.laysStatic "java/util/ArrayList" "DEFAULTCAPACITY_EMPTY_ELEMENTDATA" "[Ljava/lang/Object;") ∈ lw_tbl := zin4 (List.mem_of_getElem? (i := 210) rfl)
theorem qt1_6 : (Jvm.Cond.initialized "java/util/ArrayList") ∈ lw_tbl := zin1 (List.mem_of_getElem? (i := 6) rfl)
theorem qt3_141 : (Jvm.Cond.laysStatic "java/lang/String" "COMPACT_STRINGS" "Z") ∈ lw_tbl := zin3 (List.mem_of_getElem? (i := 141) rfl)
theorem qt1_27 : (Jvm.Cond.initialized "java/lang/String") ∈ lw_tbl := zin1 (List.mem_of_getElem? (i := 27) rfl)
theorem qt4_29 : (Jvm.Cond.laysStatic "java/lang/Integer" "DigitOnes" "[B") ∈ lw_tbl := zin4 (List.mem_of_getElem? (i := 29) rfl)
theorem qt1_22 : (Jvm.Cond.initialized "java/lang/Integer") ∈ lw_tbl := zin1 (List.mem_of_getElem? (i := 22) rfl)
theorem qt4_31 : (Jvm.Cond.laysStatic "java/lang/Integer" "DigitTens" "[B") ∈ lw_tbl := zin4 (List.mem_of_getElem? (i := 31) rfl)
theorem qt2_122 : (Jvm.Cond.laysStatic "java/lang/Throwable" "UNASSIGNED_STACK" "[Ljava/lang/StackTraceElement;") ∈ lw_tbl := zin2 (List.mem_of_getElem? (i := 122) rfl)
theorem qt1_8 : (Jvm.Cond.initialized "java/lang/Throwable") ∈ lw_tbl := zin1 (List.mem_of_getElem? (i := 8) rfl)
theorem qt2_124 : (Jvm.Cond.laysStatic "java/lang/Throwable" "SUPPRESSED_SENTINEL" "Ljava/util/List;") ∈ lw_tbl := zin2 (List.mem_of_getElem? (i := 124) rfl)
theorem qt6_55 : (Jvm.Cond.declares ({ cls := "java/util/Iterator", name := "hasNext", desc := "()Z" } : Jvm.MethodName)) ∈ lw_tbl := zin6 (List.mem_of_getElem? (i := 55) rfl)
theorem qt6_54 : (Jvm.Cond.interfaceMethod "java/util/Iterator" "java/util/Iterator" "hasNext" "()Z") ∈ lw_tbl := zin6 (List.mem_of_getElem? (i := 54) rfl)
theorem qt6_60 : (Jvm.Cond.publicMethod ({ cls := "java/util/ArrayList$Itr", name := "hasNext", desc := "()Z" } : Jvm.MethodName)) ∈ lw_tbl := zin6 (List.mem_of_getElem? (i := 60) rfl)
theorem qt6_58 : (Jvm.Cond.unhidden "java/util/ArrayList$Itr" "hasNext" "()Z") ∈ lw_tbl := zin6 (List.mem_of_getElem? (i := 58) rfl)
theorem qt6_56 : (Jvm.Cond.castable "java/util/ArrayList$Itr" "java/util/Iterator") ∈ lw_tbl := zin6 (List.mem_of_getElem? (i := 56) rfl)
theorem qt6_65 : (Jvm.Cond.declares ({ cls := "java/util/Iterator", name := "next", desc := "()Ljava/lang/Object;" } : Jvm.MethodName)) ∈ lw_tbl := zin6 (List.mem_of_getElem? (i := 65) rfl)
theorem qt6_64 : (Jvm.Cond.interfaceMethod "java/util/Iterator" "java/util/Iterator" "next" "()Ljava/lang/Object;") ∈ lw_tbl := zin6 (List.mem_of_getElem? (i := 64) rfl)
theorem qt6_69 : (Jvm.Cond.publicMethod ({ cls := "java/util/ArrayList$Itr", name := "next", desc := "()Ljava/lang/Object;" } : Jvm.MethodName)) ∈ lw_tbl := zin6 (List.mem_of_getElem? (i := 69) rfl)
theorem qt6_67 : (Jvm.Cond.unhidden "java/util/ArrayList$Itr" "next" "()Ljava/lang/Object;") ∈ lw_tbl := zin6 (List.mem_of_getElem? (i := 67) rfl)
theorem qt6_79 : (Jvm.Cond.stringRef "CyclepaintModel" (189 : Nat) "") ∈ lw_tbl := zin6 (List.mem_of_getElem? (i := 79) rfl)
theorem qt6_82 : (Jvm.Cond.stringRef "CyclepaintModel" (194 : Nat) " ") ∈ lw_tbl := zin6 (List.mem_of_getElem? (i := 82) rfl)
theorem qt3_205 : (Jvm.Cond.selects "java/lang/StringBuilder" ({ cls := "java/lang/AbstractStringBuilder", name := "isLatin1", desc := "()Z" } : Jvm.MethodName) ({ cls := "java/lang/AbstractStringBuilder", name := "isLatin1", desc := "()Z" } : Jvm.MethodName)) ∈ lw_tbl := zin3 (List.mem_of_getElem? (i := 205) rfl)
theorem qt3_170 : (Jvm.Cond.privateMethod ({ cls := "java/lang/AbstractStringBuilder", name := "ensureCapacityInternal", desc := "(I)V" } : Jvm.MethodName)) ∈ lw_tbl := zin3 (List.mem_of_getElem? (i := 170) rfl)
theorem qt3_171 : (Jvm.Cond.instanceMethod ({ cls := "java/lang/AbstractStringBuilder", name := "ensureCapacityInternal", desc := "(I)V" } : Jvm.MethodName)) ∈ lw_tbl := zin3 (List.mem_of_getElem? (i := 171) rfl)
theorem qt3_174 : (Jvm.Cond.privateMethod ({ cls := "java/lang/AbstractStringBuilder", name := "newCapacity", desc := "(I)I" } : Jvm.MethodName)) ∈ lw_tbl := zin3 (List.mem_of_getElem? (i := 174) rfl)
theorem qt3_175 : (Jvm.Cond.instanceMethod ({ cls := "java/lang/AbstractStringBuilder", name := "newCapacity", desc := "(I)I" } : Jvm.MethodName)) ∈ lw_tbl := zin3 (List.mem_of_getElem? (i := 175) rfl)
theorem qt4_114 : (Jvm.Cond.privateMethod ({ cls := "java/lang/AbstractStringBuilder", name := "putStringAt", desc := "(ILjava/lang/String;)V" } : Jvm.MethodName)) ∈ lw_tbl := zin4 (List.mem_of_getElem? (i := 114) rfl)
theorem qt4_115 : (Jvm.Cond.instanceMethod ({ cls := "java/lang/AbstractStringBuilder", name := "putStringAt", desc := "(ILjava/lang/String;)V" } : Jvm.MethodName)) ∈ lw_tbl := zin4 (List.mem_of_getElem? (i := 115) rfl)
theorem qt4_118 : (Jvm.Cond.privateMethod ({ cls := "java/lang/AbstractStringBuilder", name := "inflateIfNeededFor", desc := "(Ljava/lang/String;)V" } : Jvm.MethodName)) ∈ lw_tbl := zin4 (List.mem_of_getElem? (i := 118) rfl)
theorem qt4_119 : (Jvm.Cond.instanceMethod ({ cls := "java/lang/AbstractStringBuilder", name := "inflateIfNeededFor", desc := "(Ljava/lang/String;)V" } : Jvm.MethodName)) ∈ lw_tbl := zin4 (List.mem_of_getElem? (i := 119) rfl)
set_option maxHeartbeats 4000000 in
theorem z_start {args : Array Value} {s : State} (hts : ∀ w ∈ lw_tbl, w.before args s = true) (hgv : (Jvm.Cond.and given_1 narrow_1).before args s = true) : ∃ G : zG, zKn G s ∧ G.2 99 = s.heap.size ∧ zHp G s.heap ∧ zXp G s.heap ∧ zTx G s.heap ∧ @LT.lt Nat _ (G.2 (100 + 4)) (G.2 99) ∧ @LT.lt Nat _ (G.2 (100 + 5)) (G.2 99) := by
  have hs := flat_of_before _ hgv
  obtain ⟨k0, f0, hk0⟩ := u_known (C := RJ0) (T := TJ0) (N := 4) (n := 4) hts (fun w hw => (List.mem_filter.mp (zc_J0.2 w hw)).1) (hts (.instantiable RJ0 4) qt4_54)
  obtain ⟨k1, f1, hk1⟩ := u_known (C := RJ4) (T := TJ4) (N := 4) (n := 4) hts (fun w hw => (List.mem_filter.mp (zc_J4.2 w hw)).1) (hts (.instantiable RJ4 4) qt3_132)
  obtain ⟨k2, f2, hk2⟩ := u_known (C := RJx35411) (T := TJx35411) (N := 4) (n := 4) hts (fun w hw => (List.mem_filter.mp (zc_Jx35411.2 w hw)).1) (hts (.instantiable RJx35411 4) qt6_34)
  obtain ⟨k3, f3, hk3⟩ := u_known (C := RJx4a65c) (T := TJx4a65c) (N := 3) (n := 3) hts (fun w hw => (List.mem_filter.mp (zc_Jx4a65c.2 w hw)).1) (hts (.instantiable RJx4a65c 3) qt4_198)
  obtain ⟨k4, f4, hk4⟩ := u_known (C := RX0) (T := TX0) (N := 4) (n := 4) hts (fun w hw => (List.mem_filter.mp (zc_X0.2 w hw)).1) (hts (.instantiable RX0 4) qt1_39)
  obtain ⟨k5, f5, hk5⟩ := u_known (C := RX1) (T := TX1) (N := 5) (n := 5) hts (fun w hw => (List.mem_filter.mp (zc_X1.2 w hw)).1) (hts (.instantiable RX1 5) qt2_234)
  obtain ⟨k6, f6, hk6⟩ := u_known (C := RX2) (T := TX2) (N := 8) (n := 8) hts (fun w hw => (List.mem_filter.mp (zc_X2.2 w hw)).1) (hts (.instantiable RX2 8) qt1_31)
  obtain ⟨k7, f7, hk7⟩ := u_known (C := RX3) (T := TX3) (N := 2) (n := 2) hts (fun w hw => (List.mem_filter.mp (zc_X3.2 w hw)).1) (hts (.instantiable RX3 2) qt2_74)
  obtain ⟨k8, f8, hk8⟩ := u_known (C := RX4) (T := TX4) (N := 8) (n := 8) hts (fun w hw => (List.mem_filter.mp (zc_X4.2 w hw)).1) (hts (.instantiable RX4 8) qt4_192)
  obtain ⟨cI, aI, rI⟩ := z_arrS (hts (.arrayClass .int) (List.mem_filter.mp q_arrI).1)
  obtain ⟨cB, aB, rB⟩ := z_arrS (hts (.arrayClass .byte) (List.mem_filter.mp q_arrB).1)
  obtain ⟨cR, aR, rR, wR⟩ := z_arrO (hts (.arrayOver (.object "Cyclepaint$Range")) qt1_45)
  obtain ⟨cO, aO, rO, wO⟩ := z_arrO (hts (.arrayOver (.object "java/lang/Object")) qt5_105)
  have hcb : s.vm.findClass "[B" = some cB := by rw [show "[B" = "[" ++ FieldType.byte.toString from by decide +kernel]; exact aB
  obtain ⟨a400, o400, e400, p400, x1, x2, x3, -, x5, x6, -⟩ := Cond.exactly_spec (hs (.exactly (.static "java/util/ArrayList" "DEFAULTCAPACITY_EMPTY_ELEMENTDATA" "[Ljava/lang/Object;") "[Ljava/lang/Object;") (List.mem_of_getElem? (i := 219) (by decide +kernel)))
  obtain ⟨dv2, dh2, dl2, db2⟩ := z_byrow (t := .static "java/lang/Integer" "DigitOnes" "[B") (N := 100) (f := zOnes) (by decide) hcb (hs _ (List.mem_of_getElem? (i := 893) (by decide +kernel))) (hs _ (List.mem_of_getElem? (i := 12) (by decide +kernel))) (hs (.eq (.length (.static "java/lang/Integer" "DigitOnes" "[B")) (.int 100)) (List.mem_of_getElem? (i := 13) (by decide +kernel))) (fun j hj => hs _ (List.mem_of_getElem? (nar_ones j hj))) fit_ones
  obtain ⟨dv3, dh3, dl3, db3⟩ := z_byrow (t := .static "java/lang/Integer" "DigitTens" "[B") (N := 100) (f := zTens) (by decide) hcb (hs _ (List.mem_of_getElem? (i := 894) (by decide +kernel))) (hs _ (List.mem_of_getElem? (i := 115) (by decide +kernel))) (hs (.eq (.length (.static "java/lang/Integer" "DigitTens" "[B")) (.int 100)) (List.mem_of_getElem? (i := 116) (by decide +kernel))) (fun j hj => hs _ (List.mem_of_getElem? (nar_tens j hj))) fit_tens
  obtain ⟨v4, w4, u4⟩ := Cond.isRef_spec (hs (.isRef (.static "java/lang/Throwable" "UNASSIGNED_STACK" "[Ljava/lang/StackTraceElement;")) (List.mem_of_getElem? (i := 4) (by decide +kernel)))
  obtain ⟨v5, w5, u5⟩ := Cond.isRef_spec (hs (.isRef (.static "java/lang/Throwable" "SUPPRESSED_SENTINEL" "Ljava/util/List;")) (List.mem_of_getElem? (i := 5) (by decide +kernel)))
  obtain ⟨ad0, sl0, cc0, zv0, zh0⟩ := z_static (hts (.laysStatic "java/util/ArrayList" "DEFAULTCAPACITY_EMPTY_ELEMENTDATA" "[Ljava/lang/Object;") qt4_210) (hts (.initialized "java/util/ArrayList") qt1_6) x1
  obtain ⟨ad1, sl1, cc1, zv1, zh1⟩ := z_static (hts (.laysStatic "java/lang/String" "COMPACT_STRINGS" "Z") qt3_141) (hts (.initialized "java/lang/String") qt1_27) (z_eqt (hs (.eq (.static "java/lang/String" "COMPACT_STRINGS" "Z") (.int 1)) (List.mem_of_getElem? (i := 6) (by decide +kernel))))
  obtain ⟨ad2, sl2, cc2, zv2, zh2⟩ := z_static (hts (.laysStatic "java/lang/Integer" "DigitOnes" "[B") qt4_29) (hts (.initialized "java/lang/Integer") qt1_22) dh2
  obtain ⟨ad3, sl3, cc3, zv3, zh3⟩ := z_static (hts (.laysStatic "java/lang/Integer" "DigitTens" "[B") qt4_31) (hts (.initialized "java/lang/Integer") qt1_22) dh3
  obtain ⟨ad4, sl4, cc4, zv4, zh4⟩ := z_static (hts (.laysStatic "java/lang/Throwable" "UNASSIGNED_STACK" "[Ljava/lang/StackTraceElement;") qt2_122) (hts (.initialized "java/lang/Throwable") qt1_8) w4
  obtain ⟨ad5, sl5, cc5, zv5, zh5⟩ := z_static (hts (.laysStatic "java/lang/Throwable" "SUPPRESSED_SENTINEL" "Ljava/util/List;") qt2_124) (hts (.initialized "java/lang/Throwable") qt1_8) w5
  obtain ⟨lt0, lc0, lcell0, lk0, y01, y02, y03, -, y05, y06, -⟩ := Cond.exactly_spec (hs (.exactly (.string "CyclepaintModel" 189) "java/lang/String") (List.mem_of_getElem? (i := 843) (by decide +kernel)))
  obtain ⟨lv0, lh0, ll0, lb0⟩ := z_byrow (t := (.field (.string "CyclepaintModel" 189) "java/lang/String" "value" "[B")) (N := 0) (f := fun _ => 32) (by decide) hcb (hs _ (List.mem_of_getElem? (i := 915) (by decide +kernel))) (hs _ (List.mem_of_getElem? (i := 845) (by decide +kernel))) (hs (.eq (.length (.field (.string "CyclepaintModel" 189) "java/lang/String" "value" "[B")) (.int 0)) (List.mem_of_getElem? (i := 846) (by decide +kernel))) (fun j hj => by omega) (fun _ _ => by decide)
  obtain ⟨lt1, lc1, lcell1, lk1, y11, y12, y13, -, y15, y16, -⟩ := Cond.exactly_spec (hs (.exactly (.string "CyclepaintModel" 194) "java/lang/String") (List.mem_of_getElem? (i := 867) (by decide +kernel)))
  obtain ⟨lv1, lh1, ll1, lb1⟩ := z_byrow (t := (.field (.string "CyclepaintModel" 194) "java/lang/String" "value" "[B")) (N := 1) (f := fun _ => 32) (by decide) hcb (hs _ (List.mem_of_getElem? (i := 916) (by decide +kernel))) (hs _ (List.mem_of_getElem? (i := 869) (by decide +kernel))) (hs (.eq (.length (.field (.string "CyclepaintModel" 194) "java/lang/String" "value" "[B")) (.int 1)) (List.mem_of_getElem? (i := 870) (by decide +kernel))) (fun j hj => by have e : j = 0 := (by omega); rw [e]; exact hs (.eq (.elem (.field (.string "CyclepaintModel" 194) "java/lang/String" "value" "[B") (.int 0)) (.int 32)) (List.mem_of_getElem? (i := 871) (by decide +kernel))) (fun _ _ => by decide)
  obtain ⟨G, eG, g0, g1, g2, g3, g99, g100, g101, g102, g103, g104, g105, g200, g201, g202, g203, g204, g205, g300, g301, g302, g303, g304, g305, g400, g500, g501, g602, g603⟩ : ∃ G : zG, G.1 = (fun n => if n = 0 then k0 else if n = 1 then k1 else if n = 2 then k2 else if n = 3 then k3 else if n = 4 then k4 else if n = 5 then k5 else if n = 6 then k6 else if n = 7 then k7 else k8, fun n => if n = 0 then f0 else if n = 1 then f1 else if n = 2 then f2 else if n = 3 then f3 else if n = 4 then f4 else if n = 5 then f5 else if n = 6 then f6 else if n = 7 then f7 else f8) ∧ G.2 0 = cI ∧ G.2 1 = cR ∧ G.2 2 = cO ∧ G.2 3 = cB ∧ G.2 99 = s.heap.size ∧ G.2 100 = ad0 ∧ G.2 101 = ad1 ∧ G.2 102 = ad2 ∧ G.2 103 = ad3 ∧ G.2 104 = ad4 ∧ G.2 105 = ad5 ∧ G.2 200 = sl0 ∧ G.2 201 = sl1 ∧ G.2 202 = sl2 ∧ G.2 203 = sl3 ∧ G.2 204 = sl4 ∧ G.2 205 = sl5 ∧ G.2 300 = cc0 ∧ G.2 301 = cc1 ∧ G.2 302 = cc2 ∧ G.2 303 = cc3 ∧ G.2 304 = cc4 ∧ G.2 305 = cc5 ∧ G.2 400 = a400 ∧ G.2 500 = lt0 ∧ G.2 501 = lt1 ∧ G.2 602 = cB ∧ G.2 603 = cB := ⟨(_, fun n => if n = 0 then cI else if n = 1 then cR else if n = 2 then cO else if n = 3 then cB else if n = 99 then s.heap.size else if n = 100 then ad0 else if n = 101 then ad1 else if n = 102 then ad2 else if n = 103 then ad3 else if n = 104 then ad4 else if n = 105 then ad5 else if n = 200 then sl0 else if n = 201 then sl1 else if n = 202 then sl2 else if n = 203 then sl3 else if n = 204 then sl4 else if n = 205 then sl5 else if n = 300 then cc0 else if n = 301 then cc1 else if n = 302 then cc2 else if n = 303 then cc3 else if n = 304 then cc4 else if n = 305 then cc5 else if n = 400 then a400 else if n = 500 then lt0 else if n = 501 then lt1 else if n = 602 then cB else if n = 603 then cB else 0), rfl, rfl, rfl, rfl, rfl, rfl, rfl, rfl, rfl, rfl, rfl, rfl, rfl, rfl, rfl, rfl, rfl, rfl, rfl, rfl, rfl, rfl, rfl, rfl, rfl, rfl, rfl, rfl, rfl⟩
  have K0 : va_K G.1 vwCl (zT G) s := by
    refine ⟨fun k q hq => ?_, fun k q hq => ?_⟩
    · rw [eG]
      match k, hq with
      | 0, hq => cases hq; exact hk0
      | 1, hq => cases hq; exact hk1
      | 2, hq => cases hq; exact hk2
      | 3, hq => cases hq; exact hk3
      | 4, hq => cases hq; exact hk4
      | 5, hq => cases hq; exact hk5
      | 6, hq => cases hq; exact hk6
      | 7, hq => cases hq; exact hk7
      | 8, hq => cases hq; exact hk8
      | k + 9, hq => cases hq
    · match k, hq with
      | 0, hq => cases hq; dsimp only; rw [g0]; exact ⟨rI, aI⟩
      | 1, hq => cases hq; dsimp only; rw [g1]; exact ⟨rR, wR⟩
      | 2, hq => cases hq; dsimp only; rw [g2]; exact ⟨rO, wO⟩
      | 3, hq => cases hq; dsimp only; rw [g3]; exact ⟨rB, aB⟩
      | k + 4, hq => cases hq
  have I1 : zIt "hasNext" "()Z" s := va_Fw.of (hts (.declares ⟨"java/util/Iterator", "hasNext", "()Z"⟩) qt6_55) (hts (.interfaceMethod "java/util/Iterator" "java/util/Iterator" "hasNext" "()Z") qt6_54) (hts (.publicMethod ⟨"java/util/ArrayList$Itr", "hasNext", "()Z"⟩) qt6_60) (hts (.unhidden "java/util/ArrayList$Itr" "hasNext" "()Z") qt6_58) (hts (.castable "java/util/ArrayList$Itr" "java/util/Iterator") qt6_56)
  have I2 : zIt "next" "()Ljava/lang/Object;" s := va_Fw.of (hts (.declares ⟨"java/util/Iterator", "next", "()Ljava/lang/Object;"⟩) qt6_65) (hts (.interfaceMethod "java/util/Iterator" "java/util/Iterator" "next" "()Ljava/lang/Object;") qt6_64) (hts (.publicMethod ⟨"java/util/ArrayList$Itr", "next", "()Ljava/lang/Object;"⟩) qt6_69) (hts (.unhidden "java/util/ArrayList$Itr" "next" "()Ljava/lang/Object;") qt6_67) (hts (.castable "java/util/ArrayList$Itr" "java/util/Iterator") qt6_56)
  have Z1 : ∀ (i : Nat) (x : String × String × String), zStN[i]? = some x → zStV G i x.1 x.2.1 x.2.2 s := fun i x q => by
    match i, q with
    | 0, q => cases q; exact zStV.mk g100 g200 g300 zv0
    | 1, q => cases q; exact zStV.mk g101 g201 g301 zv1
    | 2, q => cases q; exact zStV.mk g102 g202 g302 zv2
    | 3, q => cases q; exact zStV.mk g103 g203 g303 zv3
    | 4, q => cases q; exact zStV.mk g104 g204 g304 zv4
    | 5, q => cases q; exact zStV.mk g105 g205 g305 zv5
    | i + 6, q => cases q
  have Z2 : ∀ (own tx : String) (k : Nat), Cond.stringRef own k tx ∈ lw_tbl → ∃ a, vk_R own k tx a s := fun own tx k hm => by
    have h1 : zStr (Cond.stringRef own k tx) = true := List.all_eq_true.mp nar_str _ hm
    obtain ⟨a, -, -, -, h2, -⟩ := Cond.exactly_spec (hs _ (List.mem_of_getElem? (of_decide_eq_true h1)))
    exact ⟨a, vk_R.of (hts _ hm) h2⟩
  have T0 : vk_R "CyclepaintModel" 189 "" (G.2 500) s := by rw [g500]; exact vk_R.of (hts _ qt6_79) y01
  have T1 : vk_R "CyclepaintModel" 194 " " (G.2 501) s := by rw [g501]; exact vk_R.of (hts _ qt6_82) y11
  have B6 : s.isArrayOf (arrV (G.2 602) 0 (fun _ => .null)) .byte ∧ s.isArrayOf (arrV (G.2 603) 0 (fun _ => .null)) .byte := by rw [g602, g603]; exact ⟨rB 0 _, rB 0 _⟩
  have N0 := (⟨va_Nc.of (hs (.not (.castable "java/lang/IllegalArgumentException" "java/lang/IndexOutOfBoundsException")) (List.mem_of_getElem? (i := 226) (by decide +kernel))), va_Nc.of (hs (.not (.castable "java/lang/IllegalStateException" "java/lang/IndexOutOfBoundsException")) (List.mem_of_getElem? (i := 227) (by decide +kernel))), va_Nc.of (hs (.not (.castable "java/lang/IllegalStateException" "java/lang/IllegalArgumentException")) (List.mem_of_getElem? (i := 238) (by decide +kernel)))⟩ : va_Nc "java/lang/IllegalArgumentException" "java/lang/IndexOutOfBoundsException" s ∧ va_Nc "java/lang/IllegalStateException" "java/lang/IndexOutOfBoundsException" s ∧ va_Nc "java/lang/IllegalStateException" "java/lang/IllegalArgumentException" s)
  have P0 : zPv s := fun y hy => by
    rcases List.mem_cons.mp hy with rfl | hy
    · exact z_selT hts (x := ⟨"java/lang/AbstractStringBuilder", "isLatin1", "()Z"⟩) qt3_205 rfl ⟨by decide, by decide⟩ qt3_170 qt3_171
    rcases List.mem_cons.mp hy with rfl | hy
    · exact z_selT hts (x := ⟨"java/lang/AbstractStringBuilder", "isLatin1", "()Z"⟩) qt3_205 rfl ⟨by decide, by decide⟩ qt3_174 qt3_175
    rcases List.mem_cons.mp hy with rfl | hy
    · exact z_selT hts (x := ⟨"java/lang/AbstractStringBuilder", "isLatin1", "()Z"⟩) qt3_205 rfl ⟨by decide, by decide⟩ qt4_114 qt4_115
    rcases List.mem_cons.mp hy with rfl | hy
    · exact z_selT hts (x := ⟨"java/lang/AbstractStringBuilder", "isLatin1", "()Z"⟩) qt3_205 rfl ⟨by decide, by decide⟩ qt4_118 qt4_119
    cases hy
  have hG : zKn G s := ⟨K0, fun C T h => va_Nw.of rfl (hts _ h), I1, I2, Z1, Z2, ⟨T0, T1⟩, ⟨B6.1, B6.2, fun x h => va_Nw.of rfl (hts _ h), N0⟩, fun a b n d h i hm => va_Nw.of rfl (hts _ hm), va_AO.of (hts _ qt5_105), va_AO.of (hts _ qt1_45), P0⟩
  have HP : zHp G s.heap := ⟨⟨zStH.mk g100 g200 g300 (by rw [g400]; exact zh0), by
    refine ⟨e400, (by rw [g400]; exact x3), (fun k h => by rw [h] at x5; cases x5), by rw [x6, g2]; rw [show "[Ljava/lang/Object;" = "[" ++ (FieldType.object "java/lang/Object").toString from by decide +kernel] at x2; exact Option.some.inj (x2.symm.trans aO), ?_⟩
    obtain ⟨a, cl, h1, h2, h3⟩ := Term.length_spec (z_eqt (hs (.eq (.length (.static "java/util/ArrayList" "DEFAULTCAPACITY_EMPTY_ELEMENTDATA" "[Ljava/lang/Object;")) (.int 0)) (List.mem_of_getElem? (i := 220) (by decide +kernel))))
    cases x1.symm.trans h1
    obtain ⟨h4, -⟩ := State.arrayAt?_spec h2
    cases x3.symm.trans h4
    exact (Value.int.inj h3).symm⟩, (show (G.2 100 : Nat) < G.2 99 from by rw [g100, g99]; exact (by obtain ⟨_, z, _⟩ := zh0; exact (Array.getElem?_eq_some_iff.mp z).1)), (show (G.2 400 : Nat) < G.2 99 from by rw [g400, g99]; exact (Array.getElem?_eq_some_iff.mp x3).1)⟩
  have XP : zXp G s.heap := ⟨(by
    rcases (show v4 = .null ∨ ∃ t : Nat, v4 = .ref t from by cases v4 <;> first | exact Or.inl rfl | exact Or.inr ⟨_, rfl⟩ | cases u4) with rfl | ⟨t, rfl⟩
    · exact Or.inl (zStH.mk g104 g204 g304 zh4)
    · exact Or.inr ⟨t, zStH.mk g104 g204 g304 zh4⟩), (by
    rcases (show v5 = .null ∨ ∃ t : Nat, v5 = .ref t from by cases v5 <;> first | exact Or.inl rfl | exact Or.inr ⟨_, rfl⟩ | cases u5) with rfl | ⟨t, rfl⟩
    · exact Or.inl (zStH.mk g105 g205 g305 zh5)
    · exact Or.inr ⟨t, zStH.mk g105 g205 g305 zh5⟩)⟩
  have L0 : hLt G (G.2 500) lv0 s.heap := by
    obtain ⟨hSl, hfc, -⟩ := K0.1 0 _ rfl
    obtain ⟨cf0, kf0, fi0, fd0, i0, j0⟩ := hSl 0 (by decide)
    obtain ⟨cf1, kf1, fi1, fd1, i1, j1⟩ := hSl 1 (by decide)
    obtain ⟨-, ca, r1, r2, r3, -, r5⟩ := Term.field_spec i0 y01 lh0
    obtain ⟨-, cb, q1, q2, q3, -, q5⟩ := Term.field_spec i1 y01 (z_eqt (hs (.eq (.field (.string "CyclepaintModel" 189) "java/lang/String" "coder" "B") (.int 0)) (List.mem_of_getElem? (i := 844) (by decide +kernel))))
    cases r1.symm.trans q1
    cases r1.symm.trans y03
    exact ⟨_, by rw [g500]; exact r1, r3, r2, by rw [y06]; exact Option.some.inj (y02.symm.trans hfc), by rw [← j0]; exact r5, by rw [← j1]; exact q5⟩
  have L1 : hLt G (G.2 501) lv1 s.heap := by
    obtain ⟨hSl, hfc, -⟩ := K0.1 0 _ rfl
    obtain ⟨cf0, kf0, fi0, fd0, i0, j0⟩ := hSl 0 (by decide)
    obtain ⟨cf1, kf1, fi1, fd1, i1, j1⟩ := hSl 1 (by decide)
    obtain ⟨-, ca, r1, r2, r3, -, r5⟩ := Term.field_spec i0 y11 lh1
    obtain ⟨-, cb, q1, q2, q3, -, q5⟩ := Term.field_spec i1 y11 (z_eqt (hs (.eq (.field (.string "CyclepaintModel" 194) "java/lang/String" "coder" "B") (.int 0)) (List.mem_of_getElem? (i := 868) (by decide +kernel))))
    cases r1.symm.trans q1
    cases r1.symm.trans y13
    exact ⟨_, by rw [g501]; exact r1, r3, r2, by rw [y16]; exact Option.some.inj (y12.symm.trans hfc), by rw [← j0]; exact r5, by rw [← j1]; exact q5⟩
  have TX : zTx G s.heap := ⟨zStH.mk g101 g201 g301 zh1, ⟨dv2, zStH.mk g102 g202 g302 zh2, by rw [g3]; exact db2, by rw [g99]; exact dl2⟩, ⟨dv3, zStH.mk g103 g203 g303 zh3, by rw [g3]; exact db3, by rw [g99]; exact dl3⟩, ⟨lv0, L0, by rw [g3]; exact lb0, by rw [g99]; exact ll0⟩, ⟨lv1, L1, by rw [g3]; exact lb1, by rw [g99]; exact ll1⟩, (show (G.2 101 : Nat) < G.2 99 from by rw [g101, g99]; exact (by obtain ⟨_, z, _⟩ := zh1; exact (Array.getElem?_eq_some_iff.mp z).1)), (show (G.2 102 : Nat) < G.2 99 from by rw [g102, g99]; exact (by obtain ⟨_, z, _⟩ := zh2; exact (Array.getElem?_eq_some_iff.mp z).1)), (show (G.2 103 : Nat) < G.2 99 from by rw [g103, g99]; exact (by obtain ⟨_, z, _⟩ := zh3; exact (Array.getElem?_eq_some_iff.mp z).1)), (show (G.2 500 : Nat) < G.2 99 from by rw [g500, g99]; exact (Array.getElem?_eq_some_iff.mp y03).1), (show (G.2 501 : Nat) < G.2 99 from by rw [g501, g99]; exact (Array.getElem?_eq_some_iff.mp y13).1)⟩
  exact ⟨G, hG, g99, HP, XP, TX, (show (G.2 104 : Nat) < G.2 99 from by rw [g104, g99]; exact (by obtain ⟨_, z, _⟩ := zh4; exact (Array.getElem?_eq_some_iff.mp z).1)), (show (G.2 105 : Nat) < G.2 99 from by rw [g105, g99]; exact (by obtain ⟨_, z, _⟩ := zh5; exact (Array.getElem?_eq_some_iff.mp z).1))⟩
