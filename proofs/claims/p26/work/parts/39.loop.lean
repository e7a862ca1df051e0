theorem qt2_80 : (Jvm.Cond.fieldLinkNest "CyclepaintLaw" (70 : Nat) "CyclepaintLaw$Out" "s" "Ljava/lang/String;" "CyclepaintLaw") ∈ lw_tbl := zin2 (List.mem_of_getElem? (i := 80) rfl)
set_option maxHeartbeats 4000000 in
set_option maxRecDepth 100000 in
theorem w_row_0 (l : Launch) (hl0 : l.stackTraces = false) (G : zG) (σ : St) (a : Nat → Nat) (o : Nat) (n0 : Int64) (sv : Value) (sz : Nat) (x : Int) (hx : 0 ≤ x ∧ x ≤ 3) (h99 : sz ≥ G.2 99) (hoa : ∀ i : Nat, cL σ i → a i ≠ o) (kR : okR σ) (kC : okC σ) : Met l yL_row (wqH yL_row cL_row 4 ((Option.some Jvm.ClassFile.FieldType.int)) [((0 : Nat), (9 : Nat), (12 : Nat), (19 : Nat))]) (rmM 7 174 20 620) (va_Pc [.ref (a 0), .int (zI (x)), .ref (o)] (zK G (fun H => hCyc G σ a H ∧ hOut G o n0 sv H ∧ zTx G H ∧ H.size = sz))) (zM (fun y => y = o ∨ sz ≤ y) (some (.int (zI 0))) (fun H => hCyc G σ a H ∧ ∃ sv1 : Value, hOut G o n0 sv1 H)) 20 620 (fun y => y = o ∨ sz ≤ y) := by
  refine z_enterH (by decide +kernel) (Nat.le_of_ble_eq_true rfl) ?_
  intro p env s m below meth cod Q S htab hG hP hS ret ls hl
  have hl : lv_has ls 4 [(0, .ref (a 0)), (1, .int (zI (x))), (2, .ref (o))] := hl
  obtain ⟨hC, hO, hT, hz0⟩ := hP
  refine z_aload_n S dL_row_0 hl 2 rfl rfl ?_
  refine z_aload_n S dL_row_1 hl 0 rfl rfl ?_
  refine z_iload_n S dL_row_2 hl 1 rfl rfl ?_
  refine z_callMx S hG hS (c_X2_row l G σ a sz x hx h99 kR kC (fun i hi => by rw [← hz0]; exact hCyc_ltL hC hi)) (fun _ h => Or.inr h) ok_X2_row hC.1 zc_X2 rfl q3_126 ⟨hC, hT, hz0⟩ ⟨rfl, rfl, by decide, by decide⟩ ⟨Nat.le_of_ble_eq_true rfl, Nat.le_of_ble_eq_true rfl⟩ rfl (Nat.le_of_ble_eq_true rfl) hl.1 rfl dL_row_3 (fun E1 H_1 L_1 hB hz oq hS => ?_)
  have hC := hB
  have hO := va_at.kept hO (oq _ (va_lt hO) (by have := va_lt hO; show ¬ (sz ≤ o); omega))
  refine z_putN S hG hO zc_X3 tyX3 tyX3_ok nmX3 hS (Or.inl rfl) 1 (by decide) qt2_80 rfl rfl (tyX3_ok 1 (by decide)) rfl rfl (Nat.le_of_ble_eq_true rfl) dL_row_6 (fun H_2 L_2 hat hz oq hS => ?_)
  have hO := hat
  have hC := hCyc_keep hC (fun i hi => oq _ (hoa i hi))
  refine z_goto S 15 dL_row_9 (by decide) ?_
  refine z_iconst S dL_row_15 ?_
  exact ret _ _ _ _ _ _ _ dL_row_16 (rfl) hS (⟨hC, _, hO⟩) (Nat.le_of_ble_eq_true rfl) (Nat.le_of_ble_eq_true rfl)
section ZC
variable {p9 : Program} {l : Launch} {e9 : Env} {s : State} {m9 : MethodId} {ar : Array Value} {bw : List Frame} {me : Method} {cd : Code} {H : Heap} {cells slots : Nat} {Q : State → Prop} {ls : Array Slot} {G : zG} {σ : St} {a b : Nat → Nat} {th m1 m2 : Int32} {o : Nat} {n0 : Int64} {sv : Value} {b0 L : Nat} {xs : Nat → Int32} {ix : Int}
theorem q3_123 : (Jvm.Cond.methodLink "CyclepaintLaw" (152 : Nat) ({ cls := "CyclepaintLaw", name := "row", desc := "(LCyclepaint;ILCyclepaintLaw$Out;)I" } : Jvm.MethodName)) ∈ lw_g := zg_of (zin3 (List.mem_of_getElem? (i := 123) rfl)) rfl
theorem q6_75 : (Jvm.Cond.methodLink "CyclepaintLaw" (154 : Nat) ({ cls := "CyclepaintModel", name := "row", desc := "(I)Ljava/lang/String;" } : Jvm.MethodName)) ∈ lw_g := zg_of (zin6 (List.mem_of_getElem? (i := 75) rfl)) rfl
set_option maxHeartbeats 4000000 in
set_option maxRecDepth 100000 in
theorem lw_row_0 (Z : zLaw p9 l s m9 cd ar G b0 L xs) (hS : va_S (fun q => s.heap.size ≤ q) s.heap H []) (I : zInv G σ a σ b th m1 m2 o n0 sv H) (hl : lv_has ls 9 [(0, .ref (b0)), (1, .ref (a 0)), (2, .ref (b 0)), (3, .ref (o)), (4, .int (zI (ix)))]) (hix : 0 ≤ ix ∧ ix + 4 < L) (hcs : cells + 1000 ≤ room_1.cells ∧ slots + 10000 ≤ room_1.slots) (kk : zKK p9 l e9 s m9 ar bw me cd Q G b0 o ix (a 0) (b 0) cells slots) (x : Int) (rx : rg x) (x1 : xs (ix + 1).toNat = zI x) (hx : 0 ≤ x ∧ x ≤ 3) : W p9 l e9 room_1 s m9 ar bw me cd H [] cells slots Q (F0 m9 703 ls []) := by
  obtain ⟨S, hl0, hG, hX, hb, hL, h9⟩ := Z
  have kC : okC σ := I.C.2.2.2.2.2
  have kR : okR σ := I.M.2.2.2.2.2.2.2.2.2
  refine z_aload_n S dL_law_703 hl 1 rfl rfl ?_
  refine z_aload_n S dL_law_704 hl 0 rfl rfl ?_
  refine z_iload S dL_law_705 hl 4 rfl ?_
  refine z_iconst S dL_law_707 ?_
  refine z_iadd S dL_law_708 ?_
  refine z_sld S hX hb hS (i := ix + 1) (by omega) hL x1 dL_law_709 ?_
  refine z_aload_n S dL_law_710 hl 3 rfl rfl ?_
  have hs9 : H.size ≥ G.2 99 := by have h1 := I.lo; have h2 := I.so; omega
  refine z_callH S hG hS (w_row_0 l hl0 G σ a o n0 sv H.size x hx hs9 I.ao kR kC) (fun y z => z.elim (fun z => h9 y (by rw [z]; exact I.so)) (fun z => Nat.le_trans hS.1 z)) okL_row q3_123 ⟨I.C, I.O, I.tx, rfl⟩ ⟨rfl, rfl, by decide, by decide⟩ ⟨(by have := hcs.1; omega), (by have := hcs.2; omega)⟩ rfl (Nat.le_of_ble_eq_true rfl) hl.1 rfl dL_law_711 (fun H_1 L_1 hB hz oq hS => ?_)
  refine z_fresh hS (fun hS => ?_)
  obtain ⟨hB1, sv2, hB2⟩ := hB
  have I := I.stepC oq (fun y hy z => z.elim Or.inr (fun z => absurd hy (by omega))) hB1 I.iC hB2 (fun i hi => Or.inl ⟨i, hi, rfl⟩)
  refine z_istore (lv' := [(5, .int (zI (0))), (0, .ref (b0)), (1, .ref (a 0)), (2, .ref (b 0)), (3, .ref (o)), (4, .int (zI (ix)))]) S dL_law_714 hl (by decide) rfl (fun ls hl => ?_)
  refine z_aload_n S dL_law_716 hl 3 rfl rfl ?_
  refine z_aload_n S dL_law_717 hl 1 rfl rfl ?_
  refine z_iload S dL_law_718 hl 5 rfl ?_
  refine z_iconst S dL_law_720 ?_
  refine z_iadd S dL_law_721 ?_
  refine z_sld S hX hb hS (i := ix + 1) (by omega) hL x1 dL_law_722 ?_
  refine z_callMx S hG hS (c_X4_row l G σ b th m1 m2 H_1.size x hx (by have h1 := I.lo; have h2 := I.so; omega) kR kC I.iM I.sb (fun i hi => hMod_lt I.M hi)) (zA_n h9 I hS) ok_X4_row I.M.1 zc_X4 rfl q6_75 (⟨I.M, I.tx, rfl⟩) ⟨rfl, rfl, by decide, by decide⟩ ⟨(by have := hcs.1; omega), (by have := hcs.2; omega)⟩ rfl (Nat.le_of_ble_eq_true rfl) hl.1 rfl dL_law_723 (fun E1 H_2 L_2 hB hz oq hS => ?_)
  refine z_fresh hS (fun hS => ?_)
  have I := I.stepN (τ' := σ) oq (fun q hq z => z.elim id (fun z => absurd hq (by omega))) hB rfl rfl
  refine z_astore (lv' := [(6, .ref (E1)), (5, .int (zI (0))), (0, .ref (b0)), (1, .ref (a 0)), (2, .ref (b 0)), (3, .ref (o)), (4, .int (zI (ix)))]) S dL_law_726 hl (by decide) rfl (fun ls hl => ?_)
  refine z_goto S 985 dL_law_728 (by decide) ?_
  refine W.widen (k := cells + 1000) (n := slots + 10000) (by omega) (by omega) ?_
  exact kk _ _ _ _ _ _ _ _ _ _ hS I (rfl) (rfl) (lv_sub hl [2, 3, 4, 5, 6] rfl)
set_option maxHeartbeats 4000000 in
set_option maxRecDepth 100000 in
theorem lw_row_1 (Z : zLaw p9 l s m9 cd ar G b0 L xs) (hS : va_S (fun q => s.heap.size ≤ q) s.heap H []) (I : zInv G σ a σ b th m1 m2 o n0 sv H) (hl : lv_has ls 9 [(0, .ref (b0)), (1, .ref (a 0)), (2, .ref (b 0)), (3, .ref (o)), (4, .int (zI (ix)))]) (hix : 0 ≤ ix ∧ ix + 4 < L) (hcs : cells + 1000 ≤ room_1.cells ∧ slots + 10000 ≤ room_1.slots) (kk : zKK p9 l e9 s m9 ar bw me cd Q G b0 o ix (a 0) (b 0) cells slots) (x : Int) (rx : rg x) (x1 : xs (ix + 1).toNat = zI x) (h1 : ¬ (0 ≤ x ∧ x ≤ 3)) : W p9 l e9 room_1 s m9 ar bw me cd H [] cells slots Q (F0 m9 703 ls []) := by
  obtain ⟨S, hl0, hG, hX, hb, hL, h9⟩ := Z
  have kC : okC σ := I.C.2.2.2.2.2
  have kR : okR σ := I.M.2.2.2.2.2.2.2.2.2
  refine z_aload_n S dL_law_703 hl 1 rfl rfl ?_
  refine z_aload_n S dL_law_704 hl 0 rfl rfl ?_
  refine z_iload S dL_law_705 hl 4 rfl ?_
  refine z_iconst S dL_law_707 ?_
  refine z_iadd S dL_law_708 ?_
  refine z_sld S hX hb hS (i := ix + 1) (by omega) hL x1 dL_law_709 ?_
  refine z_aload_n S dL_law_710 hl 3 rfl rfl ?_
  refine z_callH S hG hS (w_row_1 l hl0 G σ a o n0 sv x rx h1) (fun _ z => z.elim) okL_row q3_123 (⟨I.C, I.xp⟩) ⟨rfl, rfl, by decide, by decide⟩ ⟨(by have := hcs.1; omega), (by have := hcs.2; omega)⟩ rfl (Nat.le_of_ble_eq_true rfl) hl.1 rfl dL_law_711 (fun H_1 L_1 hB hz oq hS => ?_)
  refine z_fresh hS (fun hS => ?_)
  have I := I.step0 oq
  refine z_istore (lv' := [(5, .int (zI (1))), (0, .ref (b0)), (1, .ref (a 0)), (2, .ref (b 0)), (3, .ref (o)), (4, .int (zI (ix)))]) S dL_law_714 hl (by decide) rfl (fun ls hl => ?_)
  refine z_aload_n S dL_law_716 hl 3 rfl rfl ?_
  refine z_aload_n S dL_law_717 hl 1 rfl rfl ?_
  refine z_iload S dL_law_718 hl 5 rfl ?_
  refine z_iconst S dL_law_720 ?_
  refine z_iadd S dL_law_721 ?_
  refine z_sld S hX hb hS (i := ix + 1) (by omega) hL x1 dL_law_722 ?_
  refine z_callMx S hG hS (c_X4_rowR l G σ b th m1 m2 x rx h1 kR I.iM) (zA_m h9 I) ok_X4_row I.M.1 zc_X4 rfl q6_75 (I.M) ⟨rfl, rfl, by decide, by decide⟩ ⟨(by have := hcs.1; omega), (by have := hcs.2; omega)⟩ rfl (Nat.le_of_ble_eq_true rfl) hl.1 rfl dL_law_723 (fun E1 H_2 L_2 hB hz oq hS => ?_)
  refine z_fresh hS (fun hS => ?_)
  have I := I.stepN (τ' := σ) oq (fun q hq z => z) hB rfl rfl
  refine z_astore (lv' := [(6, .ref (E1)), (5, .int (zI (1))), (0, .ref (b0)), (1, .ref (a 0)), (2, .ref (b 0)), (3, .ref (o)), (4, .int (zI (ix)))]) S dL_law_726 hl (by decide) rfl (fun ls hl => ?_)
  refine z_goto S 985 dL_law_728 (by decide) ?_
  refine W.widen (k := cells + 1000) (n := slots + 10000) (by omega) (by omega) ?_
  exact kk _ _ _ _ _ _ _ _ _ _ hS I (rfl) (rfl) (lv_sub hl [2, 3, 4, 5, 6] rfl)
end ZC
section ZC
variable {p9 : Program} {l : Launch} {e9 : Env} {s : State} {m9 : MethodId} {ar : Array Value} {bw : List Frame} {me : Method} {cd : Code} {H : Heap} {cells slots : Nat} {Q : State → Prop} {ls : Array Slot} {G : zG} {σ : St} {a b : Nat → Nat} {th m1 m2 : Int32} {o : Nat} {n0 : Int64} {sv : Value} {b0 L : Nat} {xs : Nat → Int32} {ix : Int}
theorem lw_colour (Z : zLaw p9 l s m9 cd ar G b0 L xs) (hS : va_S (fun q => s.heap.size ≤ q) s.heap H []) (I : zInv G σ a σ b th m1 m2 o n0 sv H) (hl : lv_has ls 9 [(0, .ref (b0)), (1, .ref (a 0)), (2, .ref (b 0)), (3, .ref (o)), (4, .int (zI (ix)))]) (hix : 0 ≤ ix ∧ ix + 4 < L) (hcs : cells + 1000 ≤ room_1.cells ∧ slots + 10000 ≤ room_1.slots) (kk : zKK p9 l e9 s m9 ar bw me cd Q G b0 o ix (a 0) (b 0) cells slots) : W p9 l e9 room_1 s m9 ar bw me cd H [] cells slots Q (F0 m9 156 ls []) := by
  obtain ⟨e, re, x1⟩ := zI_ex (xs (ix + 1).toNat)
  obtain ⟨x, rx, x2⟩ := zI_ex (xs (ix + 2).toNat)
  have kC : okC σ := I.C.2.2.2.2.2
  have kR : okR σ := I.M.2.2.2.2.2.2.2.2.2
  have kn5 := kC.2.2.2.1
  have rn4 := kR.1
  by_cases h1 : (0 ≤ e ∧ e ≤ 15)
  · by_cases h2 : ¬ (0 ≤ x ∧ x ≤ 63)
    · exact lw_colour_2 Z hS I hl hix hcs kk e x re rx x1 x2 h1 h2
    · exact lw_colour_0 Z hS I hl hix hcs kk e x re rx x1 x2 (by omega) (by omega)
  · exact lw_colour_1 Z hS I hl hix hcs kk e x re rx x1 x2 h1
theorem lw_paint (Z : zLaw p9 l s m9 cd ar G b0 L xs) (hS : va_S (fun q => s.heap.size ≤ q) s.heap H []) (I : zInv G σ a σ b th m1 m2 o n0 sv H) (hl : lv_has ls 9 [(0, .ref (b0)), (1, .ref (a 0)), (2, .ref (b 0)), (3, .ref (o)), (4, .int (zI (ix)))]) (hix : 0 ≤ ix ∧ ix + 4 < L) (hcs : cells + 1000 ≤ room_1.cells ∧ slots + 10000 ≤ room_1.slots) (kk : zKK p9 l e9 s m9 ar bw me cd Q G b0 o ix (a 0) (b 0) cells slots) : W p9 l e9 room_1 s m9 ar bw me cd H [] cells slots Q (F0 m9 196 ls []) := by
  obtain ⟨v, rv, x1⟩ := zI_ex (xs (ix + 1).toNat)
  obtain ⟨f, rf, x2⟩ := zI_ex (xs (ix + 2).toNat)
  obtain ⟨tt, rtt, x3⟩ := zI_ex (xs (ix + 3).toNat)
  obtain ⟨x, rx, x4⟩ := zI_ex (xs (ix + 4).toNat)
  have kC : okC σ := I.C.2.2.2.2.2
  have kR : okR σ := I.M.2.2.2.2.2.2.2.2.2
  have kn5 := kC.2.2.2.1
  have rn4 := kR.1
  by_cases h1 : ((0 ≤ v ∧ v ≤ 3) ∧ (0 ≤ f ∧ f ≤ 7) ∧ (0 ≤ tt ∧ tt ≤ 7))
  · by_cases h2 : tt < f ∨ ¬ (0 ≤ x ∧ x ≤ 15)
    · exact lw_paint_2 Z hS I hl hix hcs kk v f tt x rv rf rtt rx x1 x2 x3 x4 h1 h2
    · exact lw_paint_0 Z hS I hl hix hcs kk v f tt x rv rf rtt rx x1 x2 x3 x4 (by omega) (by omega) (by omega) (by omega)
  · exact lw_paint_1 Z hS I hl hix hcs kk v f tt x rv rf rtt rx x1 x2 x3 x4 h1
theorem lw_range (Z : zLaw p9 l s m9 cd ar G b0 L xs) (hS : va_S (fun q => s.heap.size ≤ q) s.heap H []) (I : zInv G σ a σ b th m1 m2 o n0 sv H) (hl : lv_has ls 9 [(0, .ref (b0)), (1, .ref (a 0)), (2, .ref (b 0)), (3, .ref (o)), (4, .int (zI (ix)))]) (hix : 0 ≤ ix ∧ ix + 4 < L) (hcs : cells + 1000 ≤ room_1.cells ∧ slots + 10000 ≤ room_1.slots) (kk : zKK p9 l e9 s m9 ar bw me cd Q G b0 o ix (a 0) (b 0) cells slots) : W p9 l e9 room_1 s m9 ar bw me cd H [] cells slots Q (F0 m9 260 ls []) := by
  obtain ⟨f, rf, x1⟩ := zI_ex (xs (ix + 1).toNat)
  obtain ⟨tt, rtt, x2⟩ := zI_ex (xs (ix + 2).toNat)
  obtain ⟨sp, rsp, x3⟩ := zI_ex (xs (ix + 3).toNat)
  obtain ⟨kd, rkd, x4⟩ := zI_ex (xs (ix + 4).toNat)
  have kC : okC σ := I.C.2.2.2.2.2
  have kR : okR σ := I.M.2.2.2.2.2.2.2.2.2
  have kn5 := kC.2.2.2.1
  have rn4 := kR.1
  by_cases h1 : (0 ≤ f ∧ f ≤ 15) ∧ (0 ≤ tt ∧ tt ≤ 15)
  · by_cases h2 : tt ≤ f ∨ ¬ (1 ≤ sp ∧ sp ≤ 9) ∨ ¬ (0 ≤ kd ∧ kd ≤ 2)
    · exact lw_range_2 Z hS I hl hix hcs kk f tt sp kd rf rtt rsp rkd x1 x2 x3 x4 h1 h2
    · by_cases h4 : σ.rn = 4
      · exact lw_range_4 Z hS I hl hix hcs kk f tt sp kd rf rtt rsp rkd x1 x2 x3 x4 h1 (by omega) h4
      · cases h5 : allI (frB σ f tt) 16 with
        | false => exact lw_range_3 Z hS I hl hix hcs kk f tt sp kd rf rtt rsp rkd x1 x2 x3 x4 h1 (by omega) h5
        | true => exact lw_range_0 Z hS I hl hix hcs kk f tt sp kd rf rtt rsp rkd x1 x2 x3 x4 (by omega) (by omega) (by omega) (by omega) h5
  · exact lw_range_1 Z hS I hl hix hcs kk f tt sp kd rf rtt rsp rkd x1 x2 x3 x4 h1
theorem lw_turn (Z : zLaw p9 l s m9 cd ar G b0 L xs) (hS : va_S (fun q => s.heap.size ≤ q) s.heap H []) (I : zInv G σ a σ b th m1 m2 o n0 sv H) (hl : lv_has ls 9 [(0, .ref (b0)), (1, .ref (a 0)), (2, .ref (b 0)), (3, .ref (o)), (4, .int (zI (ix)))]) (hix : 0 ≤ ix ∧ ix + 4 < L) (hcs : cells + 1000 ≤ room_1.cells ∧ slots + 10000 ≤ room_1.slots) (kk : zKK p9 l e9 s m9 ar bw me cd Q G b0 o ix (a 0) (b 0) cells slots) : W p9 l e9 room_1 s m9 ar bw me cd H [] cells slots Q (F0 m9 324 ls []) := by
  obtain ⟨j, rj, x1⟩ := zI_ex (xs (ix + 1).toNat)
  obtain ⟨sp, rsp, x2⟩ := zI_ex (xs (ix + 2).toNat)
  obtain ⟨kd, rkd, x3⟩ := zI_ex (xs (ix + 3).toNat)
  have kC : okC σ := I.C.2.2.2.2.2
  have kR : okR σ := I.M.2.2.2.2.2.2.2.2.2
  have kn5 := kC.2.2.2.1
  have rn4 := kR.1
  by_cases h1 : (0 ≤ j ∧ j < σ.rn)
  · by_cases h2 : ¬ ((1 ≤ sp ∧ sp ≤ 9) ∧ (0 ≤ kd ∧ kd ≤ 2))
    · exact lw_turn_2 Z hS I hl hix hcs kk j sp kd rj rsp rkd x1 x2 x3 h1 h2
    · exact lw_turn_0 Z hS I hl hix hcs kk j sp kd rj rsp rkd x1 x2 x3 (by omega) (by omega) (by omega)
  · exact lw_turn_1 Z hS I hl hix hcs kk j sp kd rj rsp rkd x1 x2 x3 h1
theorem lw_stop (Z : zLaw p9 l s m9 cd ar G b0 L xs) (hS : va_S (fun q => s.heap.size ≤ q) s.heap H []) (I : zInv G σ a σ b th m1 m2 o n0 sv H) (hl : lv_has ls 9 [(0, .ref (b0)), (1, .ref (a 0)), (2, .ref (b 0)), (3, .ref (o)), (4, .int (zI (ix)))]) (hix : 0 ≤ ix ∧ ix + 4 < L) (hcs : cells + 1000 ≤ room_1.cells ∧ slots + 10000 ≤ room_1.slots) (kk : zKK p9 l e9 s m9 ar bw me cd Q G b0 o ix (a 0) (b 0) cells slots) : W p9 l e9 room_1 s m9 ar bw me cd H [] cells slots Q (F0 m9 376 ls []) := by
  obtain ⟨j, rj, x1⟩ := zI_ex (xs (ix + 1).toNat)
  have kC : okC σ := I.C.2.2.2.2.2
  have kR : okR σ := I.M.2.2.2.2.2.2.2.2.2
  have kn5 := kC.2.2.2.1
  have rn4 := kR.1
  by_cases h1 : (0 ≤ j ∧ j < σ.rn)
  · exact lw_stop_0 Z hS I hl hix hcs kk j rj x1 (by omega)
  · exact lw_stop_1 Z hS I hl hix hcs kk j rj x1 h1
theorem lw_merge (Z : zLaw p9 l s m9 cd ar G b0 L xs) (hS : va_S (fun q => s.heap.size ≤ q) s.heap H []) (I : zInv G σ a σ b th m1 m2 o n0 sv H) (hl : lv_has ls 9 [(0, .ref (b0)), (1, .ref (a 0)), (2, .ref (b 0)), (3, .ref (o)), (4, .int (zI (ix)))]) (hix : 0 ≤ ix ∧ ix + 4 < L) (hcs : cells + 1000 ≤ room_1.cells ∧ slots + 10000 ≤ room_1.slots) (kk : zKK p9 l e9 s m9 ar bw me cd Q G b0 o ix (a 0) (b 0) cells slots) : W p9 l e9 room_1 s m9 ar bw me cd H [] cells slots Q (F0 m9 404 ls []) := by
  exact lw_merge_0 Z hS I hl hix hcs kk
theorem lw_run (Z : zLaw p9 l s m9 cd ar G b0 L xs) (hS : va_S (fun q => s.heap.size ≤ q) s.heap H []) (I : zInv G σ a σ b th m1 m2 o n0 sv H) (hl : lv_has ls 9 [(0, .ref (b0)), (1, .ref (a 0)), (2, .ref (b 0)), (3, .ref (o)), (4, .int (zI (ix)))]) (hix : 0 ≤ ix ∧ ix + 4 < L) (hcs : cells + 1000 ≤ room_1.cells ∧ slots + 10000 ≤ room_1.slots) (kk : zKK p9 l e9 s m9 ar bw me cd Q G b0 o ix (a 0) (b 0) cells slots) : W p9 l e9 room_1 s m9 ar bw me cd H [] cells slots Q (F0 m9 417 ls []) := by
  obtain ⟨n, rn, x1⟩ := zI_ex (xs (ix + 1).toNat)
  have kC : okC σ := I.C.2.2.2.2.2
  have kR : okR σ := I.M.2.2.2.2.2.2.2.2.2
  have kn5 := kC.2.2.2.1
  have rn4 := kR.1
  by_cases h1 : (1 ≤ n ∧ n ≤ 200)
  · by_cases h2 : 99999 < σ.tk + n
    · exact lw_run_2 Z hS I hl hix hcs kk n rn x1 h1 h2
    · exact lw_run_0 Z hS I hl hix hcs kk n rn x1 (by omega) (by omega)
  · exact lw_run_1 Z hS I hl hix hcs kk n rn x1 h1
theorem lw_jump (Z : zLaw p9 l s m9 cd ar G b0 L xs) (hS : va_S (fun q => s.heap.size ≤ q) s.heap H []) (I : zInv G σ a σ b th m1 m2 o n0 sv H) (hl : lv_has ls 9 [(0, .ref (b0)), (1, .ref (a 0)), (2, .ref (b 0)), (3, .ref (o)), (4, .int (zI (ix)))]) (hix : 0 ≤ ix ∧ ix + 4 < L) (hcs : cells + 1000 ≤ room_1.cells ∧ slots + 10000 ≤ room_1.slots) (kk : zKK p9 l e9 s m9 ar bw me cd Q G b0 o ix (a 0) (b 0) cells slots) : W p9 l e9 room_1 s m9 ar bw me cd H [] cells slots Q (F0 m9 445 ls []) := by
  obtain ⟨x, rx, x1⟩ := zI_ex (xs (ix + 1).toNat)
  have kC : okC σ := I.C.2.2.2.2.2
  have kR : okR σ := I.M.2.2.2.2.2.2.2.2.2
  have kn5 := kC.2.2.2.1
  have rn4 := kR.1
  by_cases h1 : (0 ≤ x ∧ x ≤ 99999)
  · exact lw_jump_0 Z hS I hl hix hcs kk x rx x1 (by omega)
  · exact lw_jump_1 Z hS I hl hix hcs kk x rx x1 h1
theorem lw_keep (Z : zLaw p9 l s m9 cd ar G b0 L xs) (hS : va_S (fun q => s.heap.size ≤ q) s.heap H []) (I : zInv G σ a σ b th m1 m2 o n0 sv H) (hl : lv_has ls 9 [(0, .ref (b0)), (1, .ref (a 0)), (2, .ref (b 0)), (3, .ref (o)), (4, .int (zI (ix)))]) (hix : 0 ≤ ix ∧ ix + 4 < L) (hcs : cells + 1000 ≤ room_1.cells ∧ slots + 10000 ≤ room_1.slots) (kk : zKK p9 l e9 s m9 ar bw me cd Q G b0 o ix (a 0) (b 0) cells slots) : W p9 l e9 room_1 s m9 ar bw me cd H [] cells slots Q (F0 m9 473 ls []) := by
  have kC : okC σ := I.C.2.2.2.2.2
  have kR : okR σ := I.M.2.2.2.2.2.2.2.2.2
  have kn5 := kC.2.2.2.1
  have rn4 := kR.1
  by_cases h1 : σ.kn = 5
  · exact lw_keep_1 Z hS I hl hix hcs kk    h1
  · exact lw_keep_0 Z hS I hl hix hcs kk    (by omega)
theorem lw_limit (Z : zLaw p9 l s m9 cd ar G b0 L xs) (hS : va_S (fun q => s.heap.size ≤ q) s.heap H []) (I : zInv G σ a σ b th m1 m2 o n0 sv H) (hl : lv_has ls 9 [(0, .ref (b0)), (1, .ref (a 0)), (2, .ref (b 0)), (3, .ref (o)), (4, .int (zI (ix)))]) (hix : 0 ≤ ix ∧ ix + 4 < L) (hcs : cells + 1000 ≤ room_1.cells ∧ slots + 10000 ≤ room_1.slots) (kk : zKK p9 l e9 s m9 ar bw me cd Q G b0 o ix (a 0) (b 0) cells slots) : W p9 l e9 room_1 s m9 ar bw me cd H [] cells slots Q (F0 m9 489 ls []) := by
  obtain ⟨x, rx, x1⟩ := zI_ex (xs (ix + 1).toNat)
  have kC : okC σ := I.C.2.2.2.2.2
  have kR : okR σ := I.M.2.2.2.2.2.2.2.2.2
  have kn5 := kC.2.2.2.1
  have rn4 := kR.1
  by_cases h1 : (0 ≤ x ∧ x ≤ 32)
  · exact lw_limit_0 Z hS I hl hix hcs kk x rx x1 (by omega)
  · exact lw_limit_1 Z hS I hl hix hcs kk x rx x1 h1
theorem lw_call (Z : zLaw p9 l s m9 cd ar G b0 L xs) (hS : va_S (fun q => s.heap.size ≤ q) s.heap H []) (I : zInv G σ a σ b th m1 m2 o n0 sv H) (hl : lv_has ls 9 [(0, .ref (b0)), (1, .ref (a 0)), (2, .ref (b 0)), (3, .ref (o)), (4, .int (zI (ix)))]) (hix : 0 ≤ ix ∧ ix + 4 < L) (hcs : cells + 1000 ≤ room_1.cells ∧ slots + 10000 ≤ room_1.slots) (kk : zKK p9 l e9 s m9 ar bw me cd Q G b0 o ix (a 0) (b 0) cells slots) : W p9 l e9 room_1 s m9 ar bw me cd H [] cells slots Q (F0 m9 517 ls []) := by
  exact lw_call_0 Z hS I hl hix hcs kk
theorem lw_dot (Z : zLaw p9 l s m9 cd ar G b0 L xs) (hS : va_S (fun q => s.heap.size ≤ q) s.heap H []) (I : zInv G σ a σ b th m1 m2 o n0 sv H) (hl : lv_has ls 9 [(0, .ref (b0)), (1, .ref (a 0)), (2, .ref (b 0)), (3, .ref (o)), (4, .int (zI (ix)))]) (hix : 0 ≤ ix ∧ ix + 4 < L) (hcs : cells + 1000 ≤ room_1.cells ∧ slots + 10000 ≤ room_1.slots) (kk : zKK p9 l e9 s m9 ar bw me cd Q G b0 o ix (a 0) (b 0) cells slots) : W p9 l e9 room_1 s m9 ar bw me cd H [] cells slots Q (F0 m9 530 ls []) := by
  obtain ⟨v, rv, x1⟩ := zI_ex (xs (ix + 1).toNat)
  obtain ⟨i, ri, x2⟩ := zI_ex (xs (ix + 2).toNat)
  obtain ⟨x, rx, x3⟩ := zI_ex (xs (ix + 3).toNat)
  have kC : okC σ := I.C.2.2.2.2.2
  have kR : okR σ := I.M.2.2.2.2.2.2.2.2.2
  have kn5 := kC.2.2.2.1
  have rn4 := kR.1
  by_cases h1 : ((0 ≤ v ∧ v ≤ 3) ∧ (0 ≤ i ∧ i ≤ 7))
  · by_cases h2 : ¬ (0 ≤ x ∧ x ≤ 3)
    · exact lw_dot_2 Z hS I hl hix hcs kk v i x rv ri rx x1 x2 x3 h1 h2
    · exact lw_dot_0 Z hS I hl hix hcs kk v i x rv ri rx x1 x2 x3 (by omega) (by omega) (by omega)
  · exact lw_dot_1 Z hS I hl hix hcs kk v i x rv ri rx x1 x2 x3 h1
theorem lw_ofEntry (Z : zLaw p9 l s m9 cd ar G b0 L xs) (hS : va_S (fun q => s.heap.size ≤ q) s.heap H []) (I : zInv G σ a σ b th m1 m2 o n0 sv H) (hl : lv_has ls 9 [(0, .ref (b0)), (1, .ref (a 0)), (2, .ref (b 0)), (3, .ref (o)), (4, .int (zI (ix)))]) (hix : 0 ≤ ix ∧ ix + 4 < L) (hcs : cells + 1000 ≤ room_1.cells ∧ slots + 10000 ≤ room_1.slots) (kk : zKK p9 l e9 s m9 ar bw me cd Q G b0 o ix (a 0) (b 0) cells slots) : W p9 l e9 room_1 s m9 ar bw me cd H [] cells slots Q (F0 m9 582 ls []) := by
  obtain ⟨e, re, x1⟩ := zI_ex (xs (ix + 1).toNat)
  obtain ⟨x, rx, x2⟩ := zI_ex (xs (ix + 2).toNat)
  have kC : okC σ := I.C.2.2.2.2.2
  have kR : okR σ := I.M.2.2.2.2.2.2.2.2.2
  have kn5 := kC.2.2.2.1
  have rn4 := kR.1
  by_cases h1 : (0 ≤ e ∧ e ≤ 15)
  · by_cases h2 : ¬ (0 ≤ x ∧ x ≤ 5)
    · exact lw_ofEntry_2 Z hS I hl hix hcs kk e x re rx x1 x2 h1 h2
    · exact lw_ofEntry_0 Z hS I hl hix hcs kk e x re rx x1 x2 (by omega) (by omega)
  · exact lw_ofEntry_1 Z hS I hl hix hcs kk e x re rx x1 x2 h1
theorem lw_ofRange (Z : zLaw p9 l s m9 cd ar G b0 L xs) (hS : va_S (fun q => s.heap.size ≤ q) s.heap H []) (I : zInv G σ a σ b th m1 m2 o n0 sv H) (hl : lv_has ls 9 [(0, .ref (b0)), (1, .ref (a 0)), (2, .ref (b 0)), (3, .ref (o)), (4, .int (zI (ix)))]) (hix : 0 ≤ ix ∧ ix + 4 < L) (hcs : cells + 1000 ≤ room_1.cells ∧ slots + 10000 ≤ room_1.slots) (kk : zKK p9 l e9 s m9 ar bw me cd Q G b0 o ix (a 0) (b 0) cells slots) : W p9 l e9 room_1 s m9 ar bw me cd H [] cells slots Q (F0 m9 622 ls []) := by
  obtain ⟨j, rj, x1⟩ := zI_ex (xs (ix + 1).toNat)
  obtain ⟨x, rx, x2⟩ := zI_ex (xs (ix + 2).toNat)
  have kC : okC σ := I.C.2.2.2.2.2
  have kR : okR σ := I.M.2.2.2.2.2.2.2.2.2
  have kn5 := kC.2.2.2.1
  have rn4 := kR.1
  by_cases h1 : (0 ≤ j ∧ j < σ.rn)
  · by_cases h2 : ¬ (0 ≤ x ∧ x ≤ 5)
    · exact lw_ofRange_2 Z hS I hl hix hcs kk j x rj rx x1 x2 h1 h2
    · exact lw_ofRange_0 Z hS I hl hix hcs kk j x rj rx x1 x2 (by omega) (by omega)
  · exact lw_ofRange_1 Z hS I hl hix hcs kk j x rj rx x1 x2 h1
theorem lw_picture (Z : zLaw p9 l s m9 cd ar G b0 L xs) (hS : va_S (fun q => s.heap.size ≤ q) s.heap H []) (I : zInv G σ a σ b th m1 m2 o n0 sv H) (hl : lv_has ls 9 [(0, .ref (b0)), (1, .ref (a 0)), (2, .ref (b 0)), (3, .ref (o)), (4, .int (zI (ix)))]) (hix : 0 ≤ ix ∧ ix + 4 < L) (hcs : cells + 1000 ≤ room_1.cells ∧ slots + 10000 ≤ room_1.slots) (kk : zKK p9 l e9 s m9 ar bw me cd Q G b0 o ix (a 0) (b 0) cells slots) : W p9 l e9 room_1 s m9 ar bw me cd H [] cells slots Q (F0 m9 662 ls []) := by
  obtain ⟨x, rx, x1⟩ := zI_ex (xs (ix + 1).toNat)
  have kC : okC σ := I.C.2.2.2.2.2
  have kR : okR σ := I.M.2.2.2.2.2.2.2.2.2
  have kn5 := kC.2.2.2.1
  have rn4 := kR.1
  by_cases h1 : (0 ≤ x ∧ x ≤ 11)
  · exact lw_picture_0 Z hS I hl hix hcs kk x rx x1 (by omega)
  · exact lw_picture_1 Z hS I hl hix hcs kk x rx x1 h1
theorem lw_period (Z : zLaw p9 l s m9 cd ar G b0 L xs) (hS : va_S (fun q => s.heap.size ≤ q) s.heap H []) (I : zInv G σ a σ b th m1 m2 o n0 sv H) (hl : lv_has ls 9 [(0, .ref (b0)), (1, .ref (a 0)), (2, .ref (b 0)), (3, .ref (o)), (4, .int (zI (ix)))]) (hix : 0 ≤ ix ∧ ix + 4 < L) (hcs : cells + 1000 ≤ room_1.cells ∧ slots + 10000 ≤ room_1.slots) (kk : zKK p9 l e9 s m9 ar bw me cd Q G b0 o ix (a 0) (b 0) cells slots) : W p9 l e9 room_1 s m9 ar bw me cd H [] cells slots Q (F0 m9 690 ls []) := by
  exact lw_period_0 Z hS I hl hix hcs kk
theorem lw_row (Z : zLaw p9 l s m9 cd ar G b0 L xs) (hS : va_S (fun q => s.heap.size ≤ q) s.heap H []) (I : zInv G σ a σ b th m1 m2 o n0 sv H) (hl : lv_has ls 9 [(0, .ref (b0)), (1, .ref (a 0)), (2, .ref (b 0)), (3, .ref (o)), (4, .int (zI (ix)))]) (hix : 0 ≤ ix ∧ ix + 4 < L) (hcs : cells + 1000 ≤ room_1.cells ∧ slots + 10000 ≤ room_1.slots) (kk : zKK p9 l e9 s m9 ar bw me cd Q G b0 o ix (a 0) (b 0) cells slots) : W p9 l e9 room_1 s m9 ar bw me cd H [] cells slots Q (F0 m9 703 ls []) := by
  obtain ⟨x, rx, x1⟩ := zI_ex (xs (ix + 1).toNat)
  have kC : okC σ := I.C.2.2.2.2.2
  have kR : okR σ := I.M.2.2.2.2.2.2.2.2.2
  have kn5 := kC.2.2.2.1
  have rn4 := kR.1
  by_cases h1 : (0 ≤ x ∧ x ≤ 3)
  · exact lw_row_0 Z hS I hl hix hcs kk x rx x1 (by omega)
  · exact lw_row_1 Z hS I hl hix hcs kk x rx x1 h1
theorem lw_mean (Z : zLaw p9 l s m9 cd ar G b0 L xs) (hS : va_S (fun q => s.heap.size ≤ q) s.heap H []) (I : zInv G σ a σ b th m1 m2 o n0 sv H) (hl : lv_has ls 9 [(0, .ref (b0)), (1, .ref (a 0)), (2, .ref (b 0)), (3, .ref (o)), (4, .int (zI (ix)))]) (hix : 0 ≤ ix ∧ ix + 4 < L) (hcs : cells + 1000 ≤ room_1.cells ∧ slots + 10000 ≤ room_1.slots) (kk : zKK p9 l e9 s m9 ar bw me cd Q G b0 o ix (a 0) (b 0) cells slots) : W p9 l e9 room_1 s m9 ar bw me cd H [] cells slots Q (F0 m9 731 ls []) := by
  exact lw_mean_0 Z hS I hl hix hcs kk
theorem lw_at (Z : zLaw p9 l s m9 cd ar G b0 L xs) (hS : va_S (fun q => s.heap.size ≤ q) s.heap H []) (I : zInv G σ a σ b th m1 m2 o n0 sv H) (hl : lv_has ls 9 [(0, .ref (b0)), (1, .ref (a 0)), (2, .ref (b 0)), (3, .ref (o)), (4, .int (zI (ix)))]) (hix : 0 ≤ ix ∧ ix + 4 < L) (hcs : cells + 1000 ≤ room_1.cells ∧ slots + 10000 ≤ room_1.slots) (kk : zKK p9 l e9 s m9 ar bw me cd Q G b0 o ix (a 0) (b 0) cells slots) : W p9 l e9 room_1 s m9 ar bw me cd H [] cells slots Q (F0 m9 746 ls []) := by
  obtain ⟨e, re, x1⟩ := zI_ex (xs (ix + 1).toNat)
  obtain ⟨x, rx, x2⟩ := zI_ex (xs (ix + 2).toNat)
  have kC : okC σ := I.C.2.2.2.2.2
  have kR : okR σ := I.M.2.2.2.2.2.2.2.2.2
  have kn5 := kC.2.2.2.1
  have rn4 := kR.1
  by_cases h1 : (0 ≤ e ∧ e ≤ 15)
  · by_cases h2 : ¬ (0 ≤ x ∧ x ≤ 99999)
    · exact lw_at_2 Z hS I hl hix hcs kk e x re rx x1 x2 h1 h2
    · exact lw_at_0 Z hS I hl hix hcs kk e x re rx x1 x2 (by omega) (by omega)
  · exact lw_at_1 Z hS I hl hix hcs kk e x re rx x1 x2 h1
theorem lw_find (Z : zLaw p9 l s m9 cd ar G b0 L xs) (hS : va_S (fun q => s.heap.size ≤ q) s.heap H []) (I : zInv G σ a σ b th m1 m2 o n0 sv H) (hl : lv_has ls 9 [(0, .ref (b0)), (1, .ref (a 0)), (2, .ref (b 0)), (3, .ref (o)), (4, .int (zI (ix)))]) (hix : 0 ≤ ix ∧ ix + 4 < L) (hcs : cells + 1000 ≤ room_1.cells ∧ slots + 10000 ≤ room_1.slots) (kk : zKK p9 l e9 s m9 ar bw me cd Q G b0 o ix (a 0) (b 0) cells slots) : W p9 l e9 room_1 s m9 ar bw me cd H [] cells slots Q (F0 m9 786 ls []) := by
  obtain ⟨e, re, x1⟩ := zI_ex (xs (ix + 1).toNat)
  obtain ⟨x, rx, x2⟩ := zI_ex (xs (ix + 2).toNat)
  obtain ⟨f, rf, x3⟩ := zI_ex (xs (ix + 3).toNat)
  have kC : okC σ := I.C.2.2.2.2.2
  have kR : okR σ := I.M.2.2.2.2.2.2.2.2.2
  have kn5 := kC.2.2.2.1
  have rn4 := kR.1
  by_cases h1 : (0 ≤ e ∧ e ≤ 15)
  · by_cases h2 : ¬ ((0 ≤ x ∧ x ≤ 63) ∧ (0 ≤ f ∧ f ≤ 99999))
    · exact lw_find_2 Z hS I hl hix hcs kk e x f re rx rf x1 x2 x3 h1 h2
    · exact lw_find_0 Z hS I hl hix hcs kk e x f re rx rf x1 x2 x3 (by omega) (by omega) (by omega)
  · exact lw_find_1 Z hS I hl hix hcs kk e x f re rx rf x1 x2 x3 h1
theorem lw_meet (Z : zLaw p9 l s m9 cd ar G b0 L xs) (hS : va_S (fun q => s.heap.size ≤ q) s.heap H []) (I : zInv G σ a σ b th m1 m2 o n0 sv H) (hl : lv_has ls 9 [(0, .ref (b0)), (1, .ref (a 0)), (2, .ref (b 0)), (3, .ref (o)), (4, .int (zI (ix)))]) (hix : 0 ≤ ix ∧ ix + 4 < L) (hcs : cells + 1000 ≤ room_1.cells ∧ slots + 10000 ≤ room_1.slots) (kk : zKK p9 l e9 s m9 ar bw me cd Q G b0 o ix (a 0) (b 0) cells slots) : W p9 l e9 room_1 s m9 ar bw me cd H [] cells slots Q (F0 m9 838 ls []) := by
  obtain ⟨e, re, x1⟩ := zI_ex (xs (ix + 1).toNat)
  obtain ⟨x, rx, x2⟩ := zI_ex (xs (ix + 2).toNat)
  obtain ⟨f, rf, x3⟩ := zI_ex (xs (ix + 3).toNat)
  obtain ⟨y, ry, x4⟩ := zI_ex (xs (ix + 4).toNat)
  have kC : okC σ := I.C.2.2.2.2.2
  have kR : okR σ := I.M.2.2.2.2.2.2.2.2.2
  have kn5 := kC.2.2.2.1
  have rn4 := kR.1
  by_cases h1 : ((0 ≤ e ∧ e ≤ 15) ∧ (0 ≤ f ∧ f ≤ 15))
  · by_cases h2 : ¬ ((0 ≤ x ∧ x ≤ 63) ∧ (0 ≤ y ∧ y ≤ 63))
    · exact lw_meet_2 Z hS I hl hix hcs kk e x f y re rx rf ry x1 x2 x3 x4 h1 h2
    · exact lw_meet_0 Z hS I hl hix hcs kk e x f y re rx rf ry x1 x2 x3 x4 (by omega) (by omega) (by omega) (by omega)
  · exact lw_meet_1 Z hS I hl hix hcs kk e x f y re rx rf ry x1 x2 x3 x4 h1
theorem lw_when (Z : zLaw p9 l s m9 cd ar G b0 L xs) (hS : va_S (fun q => s.heap.size ≤ q) s.heap H []) (I : zInv G σ a σ b th m1 m2 o n0 sv H) (hl : lv_has ls 9 [(0, .ref (b0)), (1, .ref (a 0)), (2, .ref (b 0)), (3, .ref (o)), (4, .int (zI (ix)))]) (hix : 0 ≤ ix ∧ ix + 4 < L) (hcs : cells + 1000 ≤ room_1.cells ∧ slots + 10000 ≤ room_1.slots) (kk : zKK p9 l e9 s m9 ar bw me cd Q G b0 o ix (a 0) (b 0) cells slots) : W p9 l e9 room_1 s m9 ar bw me cd H [] cells slots Q (F0 m9 902 ls []) := by
  obtain ⟨n, rn, x1⟩ := zI_ex (xs (ix + 1).toNat)
  have kC : okC σ := I.C.2.2.2.2.2
  have kR : okR σ := I.M.2.2.2.2.2.2.2.2.2
  have kn5 := kC.2.2.2.1
  have rn4 := kR.1
  by_cases h1 : (0 ≤ n ∧ n < σ.kn)
  · exact lw_when_0 Z hS I hl hix hcs kk n rn x1 (by omega)
  · exact lw_when_1 Z hS I hl hix hcs kk n rn x1 h1
theorem lw_lightest (Z : zLaw p9 l s m9 cd ar G b0 L xs) (hS : va_S (fun q => s.heap.size ≤ q) s.heap H []) (I : zInv G σ a σ b th m1 m2 o n0 sv H) (hl : lv_has ls 9 [(0, .ref (b0)), (1, .ref (a 0)), (2, .ref (b 0)), (3, .ref (o)), (4, .int (zI (ix)))]) (hix : 0 ≤ ix ∧ ix + 4 < L) (hcs : cells + 1000 ≤ room_1.cells ∧ slots + 10000 ≤ room_1.slots) (kk : zKK p9 l e9 s m9 ar bw me cd Q G b0 o ix (a 0) (b 0) cells slots) : W p9 l e9 room_1 s m9 ar bw me cd H [] cells slots Q (F0 m9 930 ls []) := by
  obtain ⟨n, rn, x1⟩ := zI_ex (xs (ix + 1).toNat)
  have kC : okC σ := I.C.2.2.2.2.2
  have kR : okR σ := I.M.2.2.2.2.2.2.2.2.2
  have kn5 := kC.2.2.2.1
  have rn4 := kR.1
  by_cases h1 : (1 ≤ n ∧ n ≤ 200)
  · exact lw_lightest_0 Z hS I hl hix hcs kk n rn x1 (by omega)
  · exact lw_lightest_1 Z hS I hl hix hcs kk n rn x1 h1
theorem lw_isSound (Z : zLaw p9 l s m9 cd ar G b0 L xs) (hS : va_S (fun q => s.heap.size ≤ q) s.heap H []) (I : zInv G σ a σ b th m1 m2 o n0 sv H) (hl : lv_has ls 9 [(0, .ref (b0)), (1, .ref (a 0)), (2, .ref (b 0)), (3, .ref (o)), (4, .int (zI (ix)))]) (hix : 0 ≤ ix ∧ ix + 4 < L) (hcs : cells + 1000 ≤ room_1.cells ∧ slots + 10000 ≤ room_1.slots) (kk : zKK p9 l e9 s m9 ar bw me cd Q G b0 o ix (a 0) (b 0) cells slots) : W p9 l e9 room_1 s m9 ar bw me cd H [] cells slots Q (F0 m9 958 ls []) := by
  exact lw_isSound_0 Z hS I hl hix hcs kk
theorem lw_digest (Z : zLaw p9 l s m9 cd ar G b0 L xs) (hS : va_S (fun q => s.heap.size ≤ q) s.heap H []) (I : zInv G σ a σ b th m1 m2 o n0 sv H) (hl : lv_has ls 9 [(0, .ref (b0)), (1, .ref (a 0)), (2, .ref (b 0)), (3, .ref (o)), (4, .int (zI (ix)))]) (hix : 0 ≤ ix ∧ ix + 4 < L) (hcs : cells + 1000 ≤ room_1.cells ∧ slots + 10000 ≤ room_1.slots) (kk : zKK p9 l e9 s m9 ar bw me cd Q G b0 o ix (a 0) (b 0) cells slots) : W p9 l e9 room_1 s m9 ar bw me cd H [] cells slots Q (F0 m9 971 ls []) := by
  exact lw_digest_0 Z hS I hl hix hcs kk
theorem z_and31 (x : Int) (hx : rg x) : ∃ t : Int, (0 ≤ t ∧ t < 32) ∧ zI x &&& zI 31 = zI t := by
  refine ⟨(zI x &&& zI 31).toInt, ?_, (zI_of _).symm⟩
  have h : (zI x &&& zI 31).toInt = ((zI x).toBitVec &&& (31 : BitVec 32)).toInt := rfl
  have h2 : ((zI x).toBitVec &&& (31 : BitVec 32)).toNat ≤ 31 := by rw [BitVec.toNat_and]; exact Nat.and_le_right
  rw [h, BitVec.toInt_eq_toNat_cond, if_pos (by omega)]
  omega
set_option maxHeartbeats 4000000 in
theorem lw_step (Z : zLaw p9 l s m9 cd ar G b0 L xs) (hS : va_S (fun q => s.heap.size ≤ q) s.heap H []) {ca cm : Nat} (I : zInv G σ a σ b th m1 m2 o n0 sv H) (ea : a 0 = ca) (eb : b 0 = cm) (hl : lv_has ls 9 [(0, .ref b0), (1, .ref ca), (2, .ref cm), (3, .ref o), (4, .int (zI (ix)))]) (hix : 0 ≤ ix ∧ ix + 4 < L) (hcs : cells + 1000 ≤ room_1.cells ∧ slots + 10000 ≤ room_1.slots) (kk : zKK p9 l e9 s m9 ar bw me cd Q G b0 o ix ca cm cells slots) : W p9 l e9 room_1 s m9 ar bw me cd H [] cells slots Q (F0 m9 36 ls []) := by
  subst ea; subst eb
  obtain ⟨S, hl0, hG, hX, hb, hL, h9⟩ := id Z
  obtain ⟨x, rx, x0⟩ := zI_ex (xs ix.toNat)
  refine z_aload_n S dL_law_36 hl 0 rfl rfl ?_
  refine z_iload S dL_law_37 hl 4 rfl ?_
  refine z_sld S hX hb hS (i := ix) (by omega) hL x0 dL_law_39 ?_
  refine z_bipush S dL_law_40 rfl ?_
  refine lv_iand S.1 S.2.1 dL_law_42 ?_
  obtain ⟨t, ht, e⟩ := z_and31 x rx
  rw [e]
  rcases (show t = 0 ∨ t = 1 ∨ t = 2 ∨ t = 3 ∨ t = 4 ∨ t = 5 ∨ t = 6 ∨ t = 7 ∨ t = 8 ∨ t = 9 ∨ t = 10 ∨ t = 11 ∨ t = 12 ∨ t = 13 ∨ t = 14 ∨ t = 15 ∨ t = 16 ∨ t = 17 ∨ t = 18 ∨ t = 19 ∨ t = 20 ∨ t = 21 ∨ t = 22 ∨ t = 23 ∨ t = 24 ∨ t = 25 ∨ t = 26 ∨ t = 27 ∨ t = 28 ∨ t = 29 ∨ t = 30 ∨ t = 31 by omega) with rfl | rfl | rfl | rfl | rfl | rfl | rfl | rfl | rfl | rfl | rfl | rfl | rfl | rfl | rfl | rfl | rfl | rfl | rfl | rfl | rfl | rfl | rfl | rfl | rfl | rfl | rfl | rfl | rfl | rfl | rfl | rfl
  · refine lv_tableIn (tgt := 156) S.1 S.2.1 dL_law_43 (by decide) (by decide) rfl (by decide) ?_
    exact lw_colour Z hS I hl hix hcs kk
  · refine lv_tableIn (tgt := 196) S.1 S.2.1 dL_law_43 (by decide) (by decide) rfl (by decide) ?_
    exact lw_paint Z hS I hl hix hcs kk
  · refine lv_tableIn (tgt := 260) S.1 S.2.1 dL_law_43 (by decide) (by decide) rfl (by decide) ?_
    exact lw_range Z hS I hl hix hcs kk
  · refine lv_tableIn (tgt := 324) S.1 S.2.1 dL_law_43 (by decide) (by decide) rfl (by decide) ?_
    exact lw_turn Z hS I hl hix hcs kk
  · refine lv_tableIn (tgt := 376) S.1 S.2.1 dL_law_43 (by decide) (by decide) rfl (by decide) ?_
    exact lw_stop Z hS I hl hix hcs kk
  · refine lv_tableIn (tgt := 404) S.1 S.2.1 dL_law_43 (by decide) (by decide) rfl (by decide) ?_
    exact lw_merge Z hS I hl hix hcs kk
  · refine lv_tableIn (tgt := 417) S.1 S.2.1 dL_law_43 (by decide) (by decide) rfl (by decide) ?_
    exact lw_run Z hS I hl hix hcs kk
  · refine lv_tableIn (tgt := 445) S.1 S.2.1 dL_law_43 (by decide) (by decide) rfl (by decide) ?_
    exact lw_jump Z hS I hl hix hcs kk
  · refine lv_tableIn (tgt := 473) S.1 S.2.1 dL_law_43 (by decide) (by decide) rfl (by decide) ?_
    exact lw_keep Z hS I hl hix hcs kk
  · refine lv_tableIn (tgt := 489) S.1 S.2.1 dL_law_43 (by decide) (by decide) rfl (by decide) ?_
    exact lw_limit Z hS I hl hix hcs kk
  · refine lv_tableIn (tgt := 517) S.1 S.2.1 dL_law_43 (by decide) (by decide) rfl (by decide) ?_
    exact lw_call Z hS I hl hix hcs kk
  · refine lv_tableIn (tgt := 530) S.1 S.2.1 dL_law_43 (by decide) (by decide) rfl (by decide) ?_
    exact lw_dot Z hS I hl hix hcs kk
  · refine lv_tableIn (tgt := 582) S.1 S.2.1 dL_law_43 (by decide) (by decide) rfl (by decide) ?_
    exact lw_ofEntry Z hS I hl hix hcs kk
  · refine lv_tableIn (tgt := 622) S.1 S.2.1 dL_law_43 (by decide) (by decide) rfl (by decide) ?_
    exact lw_ofRange Z hS I hl hix hcs kk
  · refine lv_tableIn (tgt := 662) S.1 S.2.1 dL_law_43 (by decide) (by decide) rfl (by decide) ?_
    exact lw_picture Z hS I hl hix hcs kk
  · refine lv_tableIn (tgt := 690) S.1 S.2.1 dL_law_43 (by decide) (by decide) rfl (by decide) ?_
    exact lw_period Z hS I hl hix hcs kk
  · refine lv_tableIn (tgt := 703) S.1 S.2.1 dL_law_43 (by decide) (by decide) rfl (by decide) ?_
    exact lw_row Z hS I hl hix hcs kk
  · refine lv_tableIn (tgt := 731) S.1 S.2.1 dL_law_43 (by decide) (by decide) rfl (by decide) ?_
    exact lw_mean Z hS I hl hix hcs kk
  · refine lv_tableIn (tgt := 746) S.1 S.2.1 dL_law_43 (by decide) (by decide) rfl (by decide) ?_
    exact lw_at Z hS I hl hix hcs kk
  · refine lv_tableIn (tgt := 786) S.1 S.2.1 dL_law_43 (by decide) (by decide) rfl (by decide) ?_
    exact lw_find Z hS I hl hix hcs kk
  · refine lv_tableIn (tgt := 838) S.1 S.2.1 dL_law_43 (by decide) (by decide) rfl (by decide) ?_
    exact lw_meet Z hS I hl hix hcs kk
  · refine lv_tableIn (tgt := 902) S.1 S.2.1 dL_law_43 (by decide) (by decide) rfl (by decide) ?_
    exact lw_when Z hS I hl hix hcs kk
  · refine lv_tableIn (tgt := 930) S.1 S.2.1 dL_law_43 (by decide) (by decide) rfl (by decide) ?_
    exact lw_lightest Z hS I hl hix hcs kk
  · refine lv_tableIn (tgt := 958) S.1 S.2.1 dL_law_43 (by decide) (by decide) rfl (by decide) ?_
    exact lw_isSound Z hS I hl hix hcs kk
  · refine lv_tableIn (tgt := 971) S.1 S.2.1 dL_law_43 (by decide) (by decide) rfl (by decide) ?_
    exact lw_digest Z hS I hl hix hcs kk
  · refine lv_tableOut (tgt := 985) S.1 S.2.1 dL_law_43 (by decide) (by decide) ?_
    exact W.widen (k := cells + 1000) (n := slots + 10000) (by omega) (by omega) (kk _ _ _ _ _ _ _ _ _ _ hS I rfl rfl hl)
  · refine lv_tableOut (tgt := 985) S.1 S.2.1 dL_law_43 (by decide) (by decide) ?_
    exact W.widen (k := cells + 1000) (n := slots + 10000) (by omega) (by omega) (kk _ _ _ _ _ _ _ _ _ _ hS I rfl rfl hl)
  · refine lv_tableOut (tgt := 985) S.1 S.2.1 dL_law_43 (by decide) (by decide) ?_
    exact W.widen (k := cells + 1000) (n := slots + 10000) (by omega) (by omega) (kk _ _ _ _ _ _ _ _ _ _ hS I rfl rfl hl)
  · refine lv_tableOut (tgt := 985) S.1 S.2.1 dL_law_43 (by decide) (by decide) ?_
    exact W.widen (k := cells + 1000) (n := slots + 10000) (by omega) (by omega) (kk _ _ _ _ _ _ _ _ _ _ hS I rfl rfl hl)
  · refine lv_tableOut (tgt := 985) S.1 S.2.1 dL_law_43 (by decide) (by decide) ?_
    exact W.widen (k := cells + 1000) (n := slots + 10000) (by omega) (by omega) (kk _ _ _ _ _ _ _ _ _ _ hS I rfl rfl hl)
  · refine lv_tableOut (tgt := 985) S.1 S.2.1 dL_law_43 (by decide) (by decide) ?_
    exact W.widen (k := cells + 1000) (n := slots + 10000) (by omega) (by omega) (kk _ _ _ _ _ _ _ _ _ _ hS I rfl rfl hl)
  · refine lv_tableOut (tgt := 985) S.1 S.2.1 dL_law_43 (by decide) (by decide) ?_
    exact W.widen (k := cells + 1000) (n := slots + 10000) (by omega) (by omega) (kk _ _ _ _ _ _ _ _ _ _ hS I rfl rfl hl)
theorem lw_loop (Z : zLaw p9 l s m9 cd ar G b0 L xs) {o ca cm : Nat} (fin : ∀ (pc : Nat) (H : Heap) (ls : Array Slot), decode code pc = .ok (.ireturn, 1) → W p9 l e9 room_1 s m9 ar bw me cd H [] 796102 6707797 Q (F0 m9 pc ls [.int 1])) : ∀ (nn k : Nat) (σ : St) (a b : Nat → Nat) (th m1 m2 : Int32) (n0 : Int64) (sv : Value) (H : Heap) (ls : Array Slot), nn + k = 513 → va_S (fun q => s.heap.size ≤ q) s.heap H [] → zInv G σ a σ b th m1 m2 o n0 sv H → a 0 = ca → b 0 = cm → lv_has ls 9 [(0, .ref b0), (1, .ref ca), (2, .ref cm), (3, .ref o), (4, .int (zI (5 * (k : Int))))] → W p9 l e9 room_1 s m9 ar bw me cd H [] (100 + 1000 * k) (1000 + 10000 * k) Q (F0 m9 27 ls []) := by
  intro nn
  induction nn with
  | zero =>
    intro k σ a b th m1 m2 n0 sv H ls hk hS I ea eb hl
    obtain ⟨S, hl0, hG, hX, hb, hL, h9⟩ := id Z
    refine z_iload S dL_law_27 hl 4 rfl ?_
    refine z_aload_n S dL_law_29 hl 0 rfl rfl ?_
    refine va_slen S.1 S.2.1 hX hb (Nat.not_le.mpr hb) hS dL_law_30 ?_
    rw [show Int32.ofNat L = zI (L : Int) from zI_nI L]
    refine z_iconst S dL_law_31 ?_
    refine z_isub S dL_law_32 ?_
    refine z_icmp_gt S 991 dL_law_33 (by decide) (by omega) (by omega) (fun _ => ?_) (fun h => by omega)
    refine z_iconst S dL_law_991 ?_
    exact W.widen (by omega) (by omega) (fin _ _ _ dL_law_992)
  | succ nn ih =>
    intro k σ a b th m1 m2 n0 sv H ls hk hS I ea eb hl
    obtain ⟨S, hl0, hG, hX, hb, hL, h9⟩ := id Z
    refine z_iload S dL_law_27 hl 4 rfl ?_
    refine z_aload_n S dL_law_29 hl 0 rfl rfl ?_
    refine va_slen S.1 S.2.1 hX hb (Nat.not_le.mpr hb) hS dL_law_30 ?_
    rw [show Int32.ofNat L = zI (L : Int) from zI_nI L]
    refine z_iconst S dL_law_31 ?_
    refine z_isub S dL_law_32 ?_
    refine z_icmp_gt S 991 dL_law_33 (by decide) (by omega) (by omega) (fun _ => ?_) (fun h => ?_)
    · refine z_iconst S dL_law_991 ?_
      exact W.widen (by omega) (by omega) (fin _ _ _ dL_law_992)
    · have c1 : room_1.cells = 796102 := rfl
      have c2 : room_1.slots = 6707797 := rfl
      refine lw_step Z hS I ea eb hl (by omega) (by omega) ?_
      intro σ' a' b' th' m1' m2' n' sv' H' ls' hS' I' ea' eb' hl'
      refine z_iinc (lv' := [(4, .int (zI (5 * (k : Int) + 5))), (0, .ref b0), (1, .ref ca), (2, .ref cm), (3, .ref o)]) S dL_law_985 hl' 4 rfl (by decide) rfl (fun ls hl => ?_)
      refine z_goto S 27 dL_law_988 (by decide) ?_
      have e1 : 5 * (k : Int) + 5 = 5 * ((k + 1 : Nat) : Int) := by omega
      rw [e1] at hl
      exact W.widen (by omega) (by omega) (ih (k + 1) σ' a' b' th' m1' m2' n' sv' H' ls (by omega) hS' I' ea' eb' (lv_sub hl [1, 2, 3, 4, 0] rfl))
end ZC
