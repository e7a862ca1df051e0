/-! ===== the law's own callers: a call is answered, or refused ===== -/
abbrev wqH (y : MethodName) (b : ByteArray) (n : Nat) (r : Option FieldType) (hh : List (Nat × Nat × Nat × Nat)) : List Cond := Cond.codeWith y b n r hh :: lw_g
theorem zgood_wqH {y : MethodName} {b : ByteArray} {n : Nat} {r : Option FieldType} {hh : List (Nat × Nat × Nat × Nat)} (h : Cond.codeWith y b n r hh ∈ lw_g) : GoodIn lw_g (wqH y b n r hh) := fun w hw => by
  rcases List.mem_cons.mp hw with rfl | hw
  · exact zgood_tbl _ h
  · exact zgood_tbl _ hw
theorem z_met_of_vx {l : Launch} {y : MethodName} {ws : List Cond} {rm : Room} {Pc : Array Value → State → Prop} {Qc : Array Value → State → Outcome → State → Prop} {mc ms : Nat} {free : Addr → Prop} (h : vx_Met l y ws rm Pc Qc (fun _ _ _ => False) mc ms free) : Met l y ws rm Pc Qc mc ms free := by
  intro p e ha hc hk s m args below hf hap hP hK
  obtain ⟨k, o, h1, h2, h3, hQ⟩ := h p e ha hc hk s m args below hf hap hP hK
  refine ⟨k, o, h1, h2, h3, ?_⟩
  rcases hQ with hQ | ⟨q, -, E, ce, L, hx, -⟩
  · exact hQ
  · exact hx.elim
theorem z_enterH {l : Launch} {y : MethodName} {cc : ByteArray} {maxL mc ms : Nat} {hh : List (Nat × Nat × Nat × Nat)} {rm : Room} {G : zG} {P B : Heap → Prop} {A : Nat → Prop} {E : Int32} {av : List Value} (hy : plainName y.cls = true) (hav : (lg_sl av).length ≤ maxL)
    (body : ∀ (p : Program) (e : Env) (s : State) (m : MethodId) (below : List Frame) (meth : Method) (c : Code) (Q : State → Prop), CallFix p m c cc maxL s av.toArray lw_g y.cls → c.exceptionTable.toList = tableOf hh → zKn G s → P s.heap → va_S A s.heap s.heap [] →
      (∀ (pc : Nat) (ls : Array Slot) (x : Int32) (H : Heap) (locs : List Loc) (k n : Nat), decode cc pc = .ok (.ireturn, 1) → x = E → va_S A s.heap H locs → B H → k ≤ mc → n ≤ ms → W p l e rm s m av.toArray below meth c H locs k n Q (F0 m pc ls [.int x])) → ∀ ls, lv_has ls maxL (lv_args 0 av) →
      W p l e rm s m av.toArray below meth c s.heap [] 0 0 Q (F0 m 0 ls [])) : Met l y (wqH y cc maxL (some .int) hh) rm (va_Pc av (zK G P)) (zM A (some (.int E)) B) mc ms A := by
  refine z_met_of_vx (vx_ofWH (cc := cc) (maxL := maxL) (ret := some .int) (hh := hh) hy rfl ?_)
  intro p e s m args below meth c s₁ B0 hml hv
  obtain ⟨rfl, hP, hG⟩ := hv
  have hl := lv_entry av (n := maxL) hav
  rw [lg_entry_eq]
  have S : CallFix p m c cc maxL s av.toArray lw_g y.cls := ⟨B0.exec, B0.bytes, hml, findClass_of_methodNamed B0.named, fun w hw => atoms_spec B0.pre w (List.mem_cons_of_mem _ hw)⟩
  refine body p e s m below meth c _ S (vx_table (x := y) B0 (atoms_spec B0.pre _ List.mem_cons_self)) hG hP va_S.rf (fun pc ls x H locs k n d hx hS hB hk hn => ?_) _ hl
  subst hx
  exact vx_ret (W.widen hk hn (W.iret S.1 S.2.1 B0.returns (fun t ht _ => ⟨rfl, by rw [ht]; exact hB, (hS.F ht).1, (hS.F ht).2⟩) hS.2.2 d B0.notSynchronized))
def hOut (G : zG) (o : Nat) (n : Int64) (sv : Value) (H : Heap) : Prop := va_at G.1 vwCl (o, .inr (7, [.long n, sv])) H
section ZX
variable {p : Program} {l : Launch} {e : Env} {R : Room} {s : State} {m : MethodId} {args : Array Value} {below : List Frame} {meth : Method} {c : Code} {H : Heap} {locs : List Loc} {cells slots : Nat} {Q : State → Prop}
variable {cc : ByteArray} {nL : Nat} {own : String} {pc : Nat} {ls : Array Slot} {rest : List Value} {G : zG} {A : Nat → Prop} {H0 : Heap}
theorem z_callX (S : CallFix p m c cc nL s args lw_g own) (hG : zKn G s) (hS : va_S A H0 H locs) {y : MethodName} {bytes : ByteArray} {maxL na index : Nat} {ret : Option FieldType} {rm : Room} {P : Heap → Prop} {E : String} {As st : List Value} {b ci N : Nat} {fs : List Value} {C : String} {T : u_T} (hM : zThr l y (wq y bytes maxL ret) rm (va_Pc (.ref b :: As) (zK G P)) E) (hY : zOV y bytes maxL ret na) (hat : va_at G.1 vwCl (b, .inr (ci, fs)) H) (hC : zCl ci C T N) (hc : y.cls = C) (hl : Cond.methodLink own index y ∈ lw_g) (hP : P H) (hR : zRM R rm maxL 1 6) (hcs : cells + 1 ≤ R.cells ∧ slots + 6 ≤ R.slots) (hn : As.length = na) (hrest : (rest.map fun v => v.category).sum ≤ 8) (hlz : ls.size = nL) (hst : st = As.reverse ++ .ref b :: rest) (d : decode cc pc = .ok (.invokevirtual index, 3))
    (kx : ∀ (q9 : Addr) (ce : Cell) (H1 : Heap), H.size ≤ H1.size → (∀ q : Nat, q < H.size → H1[q]? = H[q]?) → va_S A H0 H1 locs → H1[q9]? = some ce → ce.vm = .none → s.vm.findClass E = some ce.cls → vx_W p l e R s m args below meth c H1 locs (cells + 1) (slots + 6) Q (F0 m pc ls rest) q9) : W p l e R s m args below meth c H locs cells slots Q (F0 m pc ls st) := by
  subst hc
  have hr := vx_runV (e := e) (below := below) (meth := meth) (locs := locs) (R := R) (cells := cells) (slots := slots) S hM (C := y.cls) ⟨z_cbM S hY.1 hl hR, S.2.2.2.2 _ hY.2.1, S.2.2.2.2 _ hY.2.2⟩ ⟨z_blind, va_recv hG.1 (va_one hat) hC.1 (q0 := 0) rfl, fun U hU hW => ⟨rfl, by rw [hU]; exact hP, zKn.moved hW hG⟩⟩ (g := F0 m pc ls st) rfl hn hlz hst (lv_room hrest) d hcs
  intro T hT X
  rcases hr T hT X with ⟨v, st₀, t, T', L, h0, X', hL, e1, e2, hq, st⟩ | ⟨q, st₀, t, T', L, E1, ce, h0, X', hL, e1, e2, hx, hce, hcv, hcl, st⟩
  · exact hq.elim
  · obtain ⟨rfl, hz, hk⟩ := hx
    rw [h0] at hz hk
    have hL0 : L = [] := by
      cases L with
      | nil => rfl
      | cons z r => exact (hL z List.mem_cons_self).elim
    subst hL0
    rw [List.append_nil] at X'
    obtain ⟨t2, a1, b1⟩ := kx q ce T'.heap (by rw [e1]; exact hz) (fun q h => by rw [e1]; exact hk q h) ⟨Nat.le_trans hS.1 (by rw [e1]; exact hz), fun x h1 h2 => by rw [e1, hk x (Nat.lt_of_lt_of_le h1 hS.1)]; exact hS.2.1 x h1 h2, hS.2.2⟩ (by rw [e1]; exact hce) hcv hcl T' rfl X'
    exact ⟨t2, st.trans a1, b1⟩
theorem z_catch (S : CallFix p m c cc nL s args lw_g own) (hG : zKn G s) {E : String} {ce : Cell} {q : Addr} {hh : List (Nat × Nat × Nat × Nat)} (htab : c.exceptionTable.toList = tableOf hh) (pre : List ExceptionTableEntry) (x : ExceptionTableEntry) (suf : List ExceptionTableEntry) (hsplit : tableOf hh = pre ++ x :: suf)
    (hpass : ∀ z ∈ pre, z.catchType ≠ 0 ∧ ∃ nm : String, Cond.classLink own z.catchType nm ∈ lw_g ∧ va_Nc E nm s) (hx : covers x pc = true) (h0 : x.catchType ≠ 0)
    (hlink : Cond.classLink own x.catchType E ∈ lw_g) (hcast : Cond.castable E E ∈ lw_tbl) (hcell : H[q]? = some ce) (hv : ce.vm = .none) (hcl : s.vm.findClass E = some ce.cls)
    (kk : W p l e R s m args below meth c H locs cells slots Q (F0 m x.handlerPc ls [.ref q])) : vx_W p l e R s m args below meth c H locs cells slots Q (F0 m pc ls rest) q :=
  vx_catch S.2.2.2.1 pre x suf (htab.trans hsplit) (fun z hz => by obtain ⟨g1, nm, g2, g3⟩ := hpass z hz; exact Or.inr ⟨g1, nm, S.2.2.2.2 _ g2, g3⟩) hx h0 (S.2.2.2.2 _ hlink) (va_Nw.use rfl (hG.2.1 _ _ hcast)) hcell hv hcl kk
end ZX
theorem cL_delx {σ : St} {a : Nat → Nat} {j : Int} {k : Nat} (j0 : 0 ≤ j) (j1 : j < σ.rn) (hk : cL (delS σ j) k) : ∃ k' : Nat, cL σ k' ∧ delB a j k = a k' := by
  unfold delB
  have hk2 : k < 8 ∨ (8 ≤ k ∧ (k : Int) < 8 + (σ.rn - 1)) := hk
  by_cases q : 8 + j.toNat ≤ k ∧ k < 16
  · refine ⟨k + 1, ?_, by rw [if_pos q]⟩
    unfold cL; omega
  · refine ⟨k, ?_, by rw [if_neg q]⟩
    unfold cL; omega
def zOH (y : MethodName) (b : ByteArray) (n : Nat) (r : Option FieldType) (hh : List (Nat × Nat × Nat × Nat)) (na : Nat) : Prop := Cond.codeWith y b n r hh ∈ lw_g ∧ Cond.initialized y.cls ∈ lw_g ∧ Cond.static y ∈ lw_g ∧ (y.cls ≠ "java/lang/invoke/MethodHandle" ∧ y.cls ≠ "java/lang/invoke/VarHandle" ∧ (parseMethodDescriptor y.desc).map (fun d => d.parameters.length) = some na)
theorem q2_88 : (Jvm.Cond.codeWith ({ cls := "CyclepaintLaw", name := "colour", desc := "(LCyclepaint;IILCyclepaintLaw$Out;)I" } : Jvm.MethodName) method_2_code (5 : Nat) (Option.some Jvm.ClassFile.FieldType.int) [((0 : Nat), (11 : Nat), (14 : Nat), (19 : Nat)), ((0 : Nat), (11 : Nat), (18 : Nat), (21 : Nat))]) ∈ lw_g := zg_of (zin2 (List.mem_of_getElem? (i := 88) rfl)) rfl
theorem q1_0 : (Jvm.Cond.initialized "CyclepaintLaw") ∈ lw_g := zg_of (zin1 (List.mem_of_getElem? (i := 0) rfl)) rfl
theorem q2_87 : (Jvm.Cond.static ({ cls := "CyclepaintLaw", name := "colour", desc := "(LCyclepaint;IILCyclepaintLaw$Out;)I" } : Jvm.MethodName)) ∈ lw_g := zg_of (zin2 (List.mem_of_getElem? (i := 87) rfl)) rfl
theorem okL_colour : zOH yL_colour cL_colour 5 ((Option.some Jvm.ClassFile.FieldType.int)) [((0 : Nat), (11 : Nat), (14 : Nat), (19 : Nat)), ((0 : Nat), (11 : Nat), (18 : Nat), (21 : Nat))] 4 := ⟨q2_88, q1_0, q2_87, by decide, by decide, by decide +kernel⟩
theorem dL_colour_0 : decode cL_colour 0 = .ok (.aload_n 3, 1) := by decide +kernel
theorem dL_colour_1 : decode cL_colour 1 = .ok (.aload_n 0, 1) := by decide +kernel
theorem dL_colour_2 : decode cL_colour 2 = .ok (.iload_n 1, 1) := by decide +kernel
theorem dL_colour_3 : decode cL_colour 3 = .ok (.iload_n 2, 1) := by decide +kernel
theorem dL_colour_4 : decode cL_colour 4 = .ok (.invokevirtual 7, 3) := by decide +kernel
theorem dL_colour_7 : decode cL_colour 7 = .ok (.i2l, 1) := by decide +kernel
theorem dL_colour_8 : decode cL_colour 8 = .ok (.putfield 13, 3) := by decide +kernel
theorem dL_colour_11 : decode cL_colour 11 = .ok (.goto 11, 3) := by decide +kernel
theorem dL_colour_14 : decode cL_colour 14 = .ok (.astore 4, 2) := by decide +kernel
theorem dL_colour_16 : decode cL_colour 16 = .ok (.iconst 1, 1) := by decide +kernel
theorem dL_colour_17 : decode cL_colour 17 = .ok (.ireturn, 1) := by decide +kernel
theorem dL_colour_18 : decode cL_colour 18 = .ok (.astore 4, 2) := by decide +kernel
theorem dL_colour_20 : decode cL_colour 20 = .ok (.iconst 2, 1) := by decide +kernel
theorem dL_colour_21 : decode cL_colour 21 = .ok (.ireturn, 1) := by decide +kernel
theorem dL_colour_22 : decode cL_colour 22 = .ok (.iconst 0, 1) := by decide +kernel
theorem dL_colour_23 : decode cL_colour 23 = .ok (.ireturn, 1) := by decide +kernel
theorem q2_91 : (Jvm.Cond.methodLink "CyclepaintLaw" (7 : Nat) ({ cls := "Cyclepaint", name := "colour", desc := "(II)I" } : Jvm.MethodName)) ∈ lw_g := zg_of (zin2 (List.mem_of_getElem? (i := 91) rfl)) rfl
theorem qt2_79 : (Jvm.Cond.fieldLinkNest "CyclepaintLaw" (13 : Nat) "CyclepaintLaw$Out" "n" "J" "CyclepaintLaw") ∈ lw_tbl := zin2 (List.mem_of_getElem? (i := 79) rfl)
set_option maxHeartbeats 4000000 in
set_option maxRecDepth 100000 in
theorem w_colour_0 (l : Launch) (hl0 : l.stackTraces = false) (G : zG) (σ : St) (a : Nat → Nat) (o : Nat) (n0 : Int64) (sv : Value) (hd : inj a (cL σ)) (hoa : ∀ i : Nat, cL σ i → a i ≠ o) (e x : Int) (he : 0 ≤ e ∧ e ≤ 15) (hx : 0 ≤ x ∧ x ≤ 63) : Met l yL_colour (wqH yL_colour cL_colour 5 ((Option.some Jvm.ClassFile.FieldType.int)) [((0 : Nat), (11 : Nat), (14 : Nat), (19 : Nat)), ((0 : Nat), (11 : Nat), (18 : Nat), (21 : Nat))]) (rmM 2 45 0 0) (va_Pc [.ref (a 0), .int (zI (e)), .int (zI (x)), .ref (o)] (zK G (fun H => hCyc G σ a H ∧ hOut G o n0 sv H))) (zM (fun y => cA σ a y ∨ y = o) (some (.int (zI 0))) (fun H => hCyc G (σ.wB (up σ.B e (zI x))) (a) H ∧ hOut G o (σ.B e).toInt64 sv H)) 0 0 (fun y => cA σ a y ∨ y = o) := by
  refine z_enterH (by decide +kernel) (Nat.le_of_ble_eq_true rfl) ?_
  intro p env s m below meth cod Q S htab hG hP hS ret ls hl
  have hl : lv_has ls 5 [(0, .ref (a 0)), (1, .int (zI (e))), (2, .int (zI (x))), (3, .ref (o))] := hl
  have hO := hP.2
  have hP := hP.1
  refine z_aload_n S dL_colour_0 hl 3 rfl rfl ?_
  refine z_aload_n S dL_colour_1 hl 0 rfl rfl ?_
  refine z_iload_n S dL_colour_2 hl 1 rfl rfl ?_
  refine z_iload_n S dL_colour_3 hl 2 rfl rfl ?_
  refine z_callM S hG hS (c_X2_colour l G σ a hd e x he hx) (fun _ h => Or.inl h) ok_X2_colour hP.1 zc_X2 rfl q2_91 (hP) ⟨rfl, rfl, by decide, by decide⟩ ⟨Nat.le_of_ble_eq_true rfl, Nat.le_of_ble_eq_true rfl⟩ rfl (Nat.le_of_ble_eq_true rfl) hl.1 rfl dL_colour_4 (fun H_1 L_1 hB hz oq hS => ?_)
  have hO := va_at.kept hO (oq _ (va_lt hO) (fun z => by obtain ⟨i, hi, e⟩ := z; exact hoa i hi e.symm))
  have hP := hB
  refine lv_i2l S.1 S.2.1 dL_colour_7 rfl ?_
  refine z_putN S hG hO zc_X3 tyX3 tyX3_ok nmX3 hS (Or.inr rfl) 0 (by decide) qt2_79 rfl rfl (tyX3_ok 0 (by decide)) rfl rfl (Nat.le_of_ble_eq_true rfl) dL_colour_8 (fun H_2 L_2 hat hz oq hS => ?_)
  have hP := hCyc_keep hP (fun i hi => oq _ (hoa i hi))
  have hO := hat
  refine z_goto S 22 dL_colour_11 (by decide) ?_
  refine z_iconst S dL_colour_22 ?_
  exact ret _ _ _ _ _ _ _ dL_colour_23 (rfl) hS (⟨hP, hO⟩) (Nat.le_of_ble_eq_true rfl) (Nat.le_of_ble_eq_true rfl)
theorem q2_188 : (Jvm.Cond.codeWith ({ cls := "CyclepaintLaw", name := "paint", desc := "(LCyclepaint;IIIILCyclepaintLaw$Out;)I" } : Jvm.MethodName) method_3_code (7 : Nat) (Option.some Jvm.ClassFile.FieldType.int) [((0 : Nat), (15 : Nat), (18 : Nat), (19 : Nat)), ((0 : Nat), (15 : Nat), (22 : Nat), (21 : Nat))]) ∈ lw_g := zg_of (zin2 (List.mem_of_getElem? (i := 188) rfl)) rfl
theorem q2_187 : (Jvm.Cond.static ({ cls := "CyclepaintLaw", name := "paint", desc := "(LCyclepaint;IIIILCyclepaintLaw$Out;)I" } : Jvm.MethodName)) ∈ lw_g := zg_of (zin2 (List.mem_of_getElem? (i := 187) rfl)) rfl
theorem okL_paint : zOH yL_paint cL_paint 7 ((Option.some Jvm.ClassFile.FieldType.int)) [((0 : Nat), (15 : Nat), (18 : Nat), (19 : Nat)), ((0 : Nat), (15 : Nat), (22 : Nat), (21 : Nat))] 6 := ⟨q2_188, q1_0, q2_187, by decide, by decide, by decide +kernel⟩
theorem dL_paint_0 : decode cL_paint 0 = .ok (.aload 5, 2) := by decide +kernel
theorem dL_paint_2 : decode cL_paint 2 = .ok (.aload_n 0, 1) := by decide +kernel
theorem dL_paint_3 : decode cL_paint 3 = .ok (.iload_n 1, 1) := by decide +kernel
theorem dL_paint_4 : decode cL_paint 4 = .ok (.iload_n 2, 1) := by decide +kernel
theorem dL_paint_5 : decode cL_paint 5 = .ok (.iload_n 3, 1) := by decide +kernel
theorem dL_paint_6 : decode cL_paint 6 = .ok (.iload 4, 2) := by decide +kernel
theorem dL_paint_8 : decode cL_paint 8 = .ok (.invokevirtual 23, 3) := by decide +kernel
theorem dL_paint_11 : decode cL_paint 11 = .ok (.i2l, 1) := by decide +kernel
theorem dL_paint_12 : decode cL_paint 12 = .ok (.putfield 13, 3) := by decide +kernel
theorem dL_paint_15 : decode cL_paint 15 = .ok (.goto 11, 3) := by decide +kernel
theorem dL_paint_18 : decode cL_paint 18 = .ok (.astore 6, 2) := by decide +kernel
theorem dL_paint_20 : decode cL_paint 20 = .ok (.iconst 1, 1) := by decide +kernel
theorem dL_paint_21 : decode cL_paint 21 = .ok (.ireturn, 1) := by decide +kernel
theorem dL_paint_22 : decode cL_paint 22 = .ok (.astore 6, 2) := by decide +kernel
theorem dL_paint_24 : decode cL_paint 24 = .ok (.iconst 2, 1) := by decide +kernel
theorem dL_paint_25 : decode cL_paint 25 = .ok (.ireturn, 1) := by decide +kernel
theorem dL_paint_26 : decode cL_paint 26 = .ok (.iconst 0, 1) := by decide +kernel
theorem dL_paint_27 : decode cL_paint 27 = .ok (.ireturn, 1) := by decide +kernel
theorem q2_189 : (Jvm.Cond.methodLink "CyclepaintLaw" (23 : Nat) ({ cls := "Cyclepaint", name := "paint", desc := "(IIII)I" } : Jvm.MethodName)) ∈ lw_g := zg_of (zin2 (List.mem_of_getElem? (i := 189) rfl)) rfl
set_option maxHeartbeats 4000000 in
set_option maxRecDepth 100000 in
theorem w_paint_0 (l : Launch) (hl0 : l.stackTraces = false) (G : zG) (σ : St) (a : Nat → Nat) (o : Nat) (n0 : Int64) (sv : Value) (hd : inj a (cL σ)) (hoa : ∀ i : Nat, cL σ i → a i ≠ o) (v f tt x : Int) (hv : 0 ≤ v ∧ v ≤ 3) (hf : 0 ≤ f ∧ f ≤ tt) (ht : tt ≤ 7) (hx : 0 ≤ x ∧ x ≤ 15) : Met l yL_paint (wqH yL_paint cL_paint 7 ((Option.some Jvm.ClassFile.FieldType.int)) [((0 : Nat), (15 : Nat), (18 : Nat), (19 : Nat)), ((0 : Nat), (15 : Nat), (22 : Nat), (21 : Nat))]) (rmM 3 70 0 0) (va_Pc [.ref (a 0), .int (zI (v)), .int (zI (f)), .int (zI (tt)), .int (zI (x)), .ref (o)] (zK G (fun H => hCyc G σ a H ∧ hOut G o n0 sv H))) (zM (fun y => cA σ a y ∨ y = o) (some (.int (zI 0))) (fun H => hCyc G (σ.wD (pnt σ.Dt v x f (tt + 1))) (a) H ∧ hOut G o (zI (pntN σ.Dt v x f (tt + 1))).toInt64 sv H)) 0 0 (fun y => cA σ a y ∨ y = o) := by
  refine z_enterH (by decide +kernel) (Nat.le_of_ble_eq_true rfl) ?_
  intro p env s m below meth cod Q S htab hG hP hS ret ls hl
  have hl : lv_has ls 7 [(0, .ref (a 0)), (1, .int (zI (v))), (2, .int (zI (f))), (3, .int (zI (tt))), (4, .int (zI (x))), (5, .ref (o))] := hl
  have hO := hP.2
  have hP := hP.1
  refine z_aload S dL_paint_0 hl 5 rfl ?_
  refine z_aload_n S dL_paint_2 hl 0 rfl rfl ?_
  refine z_iload_n S dL_paint_3 hl 1 rfl rfl ?_
  refine z_iload_n S dL_paint_4 hl 2 rfl rfl ?_
  refine z_iload_n S dL_paint_5 hl 3 rfl rfl ?_
  refine z_iload S dL_paint_6 hl 4 rfl ?_
  refine z_callM S hG hS (c_X2_paint l G σ a hd v f tt x hv hf ht hx) (fun _ h => Or.inl h) ok_X2_paint hP.1 zc_X2 rfl q2_189 (hP) ⟨rfl, rfl, by decide, by decide⟩ ⟨Nat.le_of_ble_eq_true rfl, Nat.le_of_ble_eq_true rfl⟩ rfl (Nat.le_of_ble_eq_true rfl) hl.1 rfl dL_paint_8 (fun H_1 L_1 hB hz oq hS => ?_)
  have hO := va_at.kept hO (oq _ (va_lt hO) (fun z => by obtain ⟨i, hi, e⟩ := z; exact hoa i hi e.symm))
  have hP := hB
  refine lv_i2l S.1 S.2.1 dL_paint_11 rfl ?_
  refine z_putN S hG hO zc_X3 tyX3 tyX3_ok nmX3 hS (Or.inr rfl) 0 (by decide) qt2_79 rfl rfl (tyX3_ok 0 (by decide)) rfl rfl (Nat.le_of_ble_eq_true rfl) dL_paint_12 (fun H_2 L_2 hat hz oq hS => ?_)
  have hP := hCyc_keep hP (fun i hi => oq _ (hoa i hi))
  have hO := hat
  refine z_goto S 26 dL_paint_15 (by decide) ?_
  refine z_iconst S dL_paint_26 ?_
  exact ret _ _ _ _ _ _ _ dL_paint_27 (rfl) hS (⟨hP, hO⟩) (Nat.le_of_ble_eq_true rfl) (Nat.le_of_ble_eq_true rfl)
theorem q2_200 : (Jvm.Cond.codeWith ({ cls := "CyclepaintLaw", name := "range", desc := "(LCyclepaint;IIIILCyclepaintLaw$Out;)I" } : Jvm.MethodName) method_4_code (7 : Nat) (Option.some Jvm.ClassFile.FieldType.int) [((0 : Nat), (15 : Nat), (18 : Nat), (19 : Nat)), ((0 : Nat), (15 : Nat), (22 : Nat), (21 : Nat)), ((0 : Nat), (15 : Nat), (26 : Nat), (30 : Nat))]) ∈ lw_g := zg_of (zin2 (List.mem_of_getElem? (i := 200) rfl)) rfl
theorem q2_199 : (Jvm.Cond.static ({ cls := "CyclepaintLaw", name := "range", desc := "(LCyclepaint;IIIILCyclepaintLaw$Out;)I" } : Jvm.MethodName)) ∈ lw_g := zg_of (zin2 (List.mem_of_getElem? (i := 199) rfl)) rfl
theorem okL_range : zOH yL_range cL_range 7 ((Option.some Jvm.ClassFile.FieldType.int)) [((0 : Nat), (15 : Nat), (18 : Nat), (19 : Nat)), ((0 : Nat), (15 : Nat), (22 : Nat), (21 : Nat)), ((0 : Nat), (15 : Nat), (26 : Nat), (30 : Nat))] 6 := ⟨q2_200, q1_0, q2_199, by decide, by decide, by decide +kernel⟩
theorem dL_range_0 : decode cL_range 0 = .ok (.aload 5, 2) := by decide +kernel
theorem dL_range_2 : decode cL_range 2 = .ok (.aload_n 0, 1) := by decide +kernel
theorem dL_range_3 : decode cL_range 3 = .ok (.iload_n 1, 1) := by decide +kernel
theorem dL_range_4 : decode cL_range 4 = .ok (.iload_n 2, 1) := by decide +kernel
theorem dL_range_5 : decode cL_range 5 = .ok (.iload_n 3, 1) := by decide +kernel
theorem dL_range_6 : decode cL_range 6 = .ok (.iload 4, 2) := by decide +kernel
theorem dL_range_8 : decode cL_range 8 = .ok (.invokevirtual 27, 3) := by decide +kernel
theorem dL_range_11 : decode cL_range 11 = .ok (.i2l, 1) := by decide +kernel
theorem dL_range_12 : decode cL_range 12 = .ok (.putfield 13, 3) := by decide +kernel
theorem dL_range_15 : decode cL_range 15 = .ok (.goto 15, 3) := by decide +kernel
theorem dL_range_18 : decode cL_range 18 = .ok (.astore 6, 2) := by decide +kernel
theorem dL_range_20 : decode cL_range 20 = .ok (.iconst 1, 1) := by decide +kernel
theorem dL_range_21 : decode cL_range 21 = .ok (.ireturn, 1) := by decide +kernel
theorem dL_range_22 : decode cL_range 22 = .ok (.astore 6, 2) := by decide +kernel
theorem dL_range_24 : decode cL_range 24 = .ok (.iconst 2, 1) := by decide +kernel
theorem dL_range_25 : decode cL_range 25 = .ok (.ireturn, 1) := by decide +kernel
theorem dL_range_26 : decode cL_range 26 = .ok (.astore 6, 2) := by decide +kernel
theorem dL_range_28 : decode cL_range 28 = .ok (.iconst 3, 1) := by decide +kernel
theorem dL_range_29 : decode cL_range 29 = .ok (.ireturn, 1) := by decide +kernel
theorem dL_range_30 : decode cL_range 30 = .ok (.iconst 0, 1) := by decide +kernel
theorem dL_range_31 : decode cL_range 31 = .ok (.ireturn, 1) := by decide +kernel
theorem q2_202 : (Jvm.Cond.methodLink "CyclepaintLaw" (27 : Nat) ({ cls := "Cyclepaint", name := "range", desc := "(IIII)I" } : Jvm.MethodName)) ∈ lw_g := zg_of (zin2 (List.mem_of_getElem? (i := 202) rfl)) rfl
set_option maxHeartbeats 4000000 in
set_option maxRecDepth 100000 in
theorem w_range_0 (l : Launch) (hl0 : l.stackTraces = false) (G : zG) (σ : St) (a : Nat → Nat) (o : Nat) (n0 : Int64) (sv : Value) (hd : inj a (cL σ)) (hoa : ∀ i : Nat, cL σ i → a i ≠ o) (sz : Nat) (f tt sp kd : Int) (hf : 0 ≤ f ∧ f < tt ∧ tt ≤ 15) (hsp : 1 ≤ sp ∧ sp ≤ 9) (hkd : 0 ≤ kd ∧ kd ≤ 2) (hr4 : σ.rn < 4) (hfree : allI (frB σ f tt) 16 = true) : Met l yL_range (wqH yL_range cL_range 7 ((Option.some Jvm.ClassFile.FieldType.int)) [((0 : Nat), (15 : Nat), (18 : Nat), (19 : Nat)), ((0 : Nat), (15 : Nat), (22 : Nat), (21 : Nat)), ((0 : Nat), (15 : Nat), (26 : Nat), (30 : Nat))]) (rmM 4 88 1 5) (va_Pc [.ref (a 0), .int (zI (f)), .int (zI (tt)), .int (zI (sp)), .int (zI (kd)), .ref (o)] (zK G (fun H => hCyc G σ a H ∧ hOut G o n0 sv H ∧ H.size = sz))) (zM (fun y => cA σ a y ∨ y = o ∨ sz ≤ y) (some (.int (zI 0))) (fun H => ∃ q : Nat, hCyc G (addS σ f (tt - f + 1) sp kd) (addA σ a q) H ∧ sz ≤ q ∧ hOut G o (zI (σ.rn)).toInt64 sv H)) 1 5 (fun y => cA σ a y ∨ y = o ∨ sz ≤ y) := by
  refine z_enterH (by decide +kernel) (Nat.le_of_ble_eq_true rfl) ?_
  intro p env s m below meth cod Q S htab hG hP hS ret ls hl
  have hl : lv_has ls 7 [(0, .ref (a 0)), (1, .int (zI (f))), (2, .int (zI (tt))), (3, .int (zI (sp))), (4, .int (zI (kd))), (5, .ref (o))] := hl
  have hO := hP.2.1
  have hz0 := hP.2.2
  have hos : o < sz := by rw [← hz0]; exact va_lt hO
  have hP := hP.1
  refine z_aload S dL_range_0 hl 5 rfl ?_
  refine z_aload_n S dL_range_2 hl 0 rfl rfl ?_
  refine z_iload_n S dL_range_3 hl 1 rfl rfl ?_
  refine z_iload_n S dL_range_4 hl 2 rfl rfl ?_
  refine z_iload_n S dL_range_5 hl 3 rfl rfl ?_
  refine z_iload S dL_range_6 hl 4 rfl ?_
  refine z_callM S hG hS (c_X2_range l G σ a hd sz f tt sp kd hf hsp hkd hr4 hfree) (fun _ h => h.elim Or.inl (fun h => Or.inr (Or.inr h))) ok_X2_range hP.1 zc_X2 rfl q2_202 (⟨hP, hz0⟩) ⟨rfl, rfl, by decide, by decide⟩ ⟨Nat.le_of_ble_eq_true rfl, Nat.le_of_ble_eq_true rfl⟩ rfl (Nat.le_of_ble_eq_true rfl) hl.1 rfl dL_range_8 (fun H_1 L_1 hB hz oq hS => ?_)
  have hO := va_at.kept hO (oq _ (va_lt hO) (fun z => z.elim (fun z => by obtain ⟨i, hi, e⟩ := z; exact hoa i hi e.symm) (fun z => by have h2 : sz ≤ o := z; omega)))
  obtain ⟨nq, hP, hnq⟩ := hB
  refine lv_i2l S.1 S.2.1 dL_range_11 rfl ?_
  refine z_putN S hG hO zc_X3 tyX3 tyX3_ok nmX3 hS (Or.inr (Or.inl rfl)) 0 (by decide) qt2_79 rfl rfl (tyX3_ok 0 (by decide)) rfl rfl (Nat.le_of_ble_eq_true rfl) dL_range_12 (fun H_2 L_2 hat hz oq hS => ?_)
  have hP := hCyc_keep hP (fun i hi => oq _ (by by_cases q9 : i = 8 + σ.rn.toNat; rw [q9, addA_q]; omega; rw [addA_o q9]; exact hoa i (by have h9 : i < 8 ∨ (8 ≤ i ∧ (i : Int) < 8 + (σ.rn + 1)) := hi; unfold cL; omega)))
  have hO := hat
  refine z_goto S 30 dL_range_15 (by decide) ?_
  refine z_iconst S dL_range_30 ?_
  exact ret _ _ _ _ _ _ _ dL_range_31 (rfl) hS (⟨nq, hP, hnq, hO⟩) (Nat.le_of_ble_eq_true rfl) (Nat.le_of_ble_eq_true rfl)
theorem q3_29 : (Jvm.Cond.codeWith ({ cls := "CyclepaintLaw", name := "turn", desc := "(LCyclepaint;IIILCyclepaintLaw$Out;)I" } : Jvm.MethodName) method_5_code (6 : Nat) (Option.some Jvm.ClassFile.FieldType.int) [((0 : Nat), (13 : Nat), (16 : Nat), (19 : Nat)), ((0 : Nat), (13 : Nat), (20 : Nat), (21 : Nat))]) ∈ lw_g := zg_of (zin3 (List.mem_of_getElem? (i := 29) rfl)) rfl
theorem q3_28 : (Jvm.Cond.static ({ cls := "CyclepaintLaw", name := "turn", desc := "(LCyclepaint;IIILCyclepaintLaw$Out;)I" } : Jvm.MethodName)) ∈ lw_g := zg_of (zin3 (List.mem_of_getElem? (i := 28) rfl)) rfl
theorem okL_turn : zOH yL_turn cL_turn 6 ((Option.some Jvm.ClassFile.FieldType.int)) [((0 : Nat), (13 : Nat), (16 : Nat), (19 : Nat)), ((0 : Nat), (13 : Nat), (20 : Nat), (21 : Nat))] 5 := ⟨q3_29, q1_0, q3_28, by decide, by decide, by decide +kernel⟩
theorem dL_turn_0 : decode cL_turn 0 = .ok (.aload 4, 2) := by decide +kernel
theorem dL_turn_2 : decode cL_turn 2 = .ok (.aload_n 0, 1) := by decide +kernel
theorem dL_turn_3 : decode cL_turn 3 = .ok (.iload_n 1, 1) := by decide +kernel
theorem dL_turn_4 : decode cL_turn 4 = .ok (.iload_n 2, 1) := by decide +kernel
theorem dL_turn_5 : decode cL_turn 5 = .ok (.iload_n 3, 1) := by decide +kernel
theorem dL_turn_6 : decode cL_turn 6 = .ok (.invokevirtual 32, 3) := by decide +kernel
theorem dL_turn_9 : decode cL_turn 9 = .ok (.i2l, 1) := by decide +kernel
theorem dL_turn_10 : decode cL_turn 10 = .ok (.putfield 13, 3) := by decide +kernel
theorem dL_turn_13 : decode cL_turn 13 = .ok (.goto 11, 3) := by decide +kernel
theorem dL_turn_16 : decode cL_turn 16 = .ok (.astore 5, 2) := by decide +kernel
theorem dL_turn_18 : decode cL_turn 18 = .ok (.iconst 1, 1) := by decide +kernel
theorem dL_turn_19 : decode cL_turn 19 = .ok (.ireturn, 1) := by decide +kernel
theorem dL_turn_20 : decode cL_turn 20 = .ok (.astore 5, 2) := by decide +kernel
theorem dL_turn_22 : decode cL_turn 22 = .ok (.iconst 2, 1) := by decide +kernel
theorem dL_turn_23 : decode cL_turn 23 = .ok (.ireturn, 1) := by decide +kernel
theorem dL_turn_24 : decode cL_turn 24 = .ok (.iconst 0, 1) := by decide +kernel
theorem dL_turn_25 : decode cL_turn 25 = .ok (.ireturn, 1) := by decide +kernel
theorem q3_30 : (Jvm.Cond.methodLink "CyclepaintLaw" (32 : Nat) ({ cls := "Cyclepaint", name := "turn", desc := "(III)I" } : Jvm.MethodName)) ∈ lw_g := zg_of (zin3 (List.mem_of_getElem? (i := 30) rfl)) rfl
set_option maxHeartbeats 4000000 in
set_option maxRecDepth 100000 in
theorem w_turn_0 (l : Launch) (hl0 : l.stackTraces = false) (G : zG) (σ : St) (a : Nat → Nat) (o : Nat) (n0 : Int64) (sv : Value) (hd : inj a (cL σ)) (hoa : ∀ i : Nat, cL σ i → a i ≠ o) (j sp kd : Int) (hj : 0 ≤ j ∧ j < σ.rn) (hsp : 1 ≤ sp ∧ sp ≤ 9) (hkd : 0 ≤ kd ∧ kd ≤ 2) : Met l yL_turn (wqH yL_turn cL_turn 6 ((Option.some Jvm.ClassFile.FieldType.int)) [((0 : Nat), (13 : Nat), (16 : Nat), (19 : Nat)), ((0 : Nat), (13 : Nat), (20 : Nat), (21 : Nat))]) (rmM 2 46 0 0) (va_Pc [.ref (a 0), .int (zI (j)), .int (zI (sp)), .int (zI (kd)), .ref (o)] (zK G (fun H => hCyc G σ a H ∧ hOut G o n0 sv H))) (zM (fun y => cA σ a y ∨ y = o) (some (.int (zI 0))) (fun H => hCyc G (σ.wR σ.rn σ.F σ.L (up σ.S j sp) (up σ.K j kd)) (a) H ∧ hOut G o (zI (shiftR kd (σ.L j) sp σ.tk)).toInt64 sv H)) 0 0 (fun y => cA σ a y ∨ y = o) := by
  refine z_enterH (by decide +kernel) (Nat.le_of_ble_eq_true rfl) ?_
  intro p env s m below meth cod Q S htab hG hP hS ret ls hl
  have hl : lv_has ls 6 [(0, .ref (a 0)), (1, .int (zI (j))), (2, .int (zI (sp))), (3, .int (zI (kd))), (4, .ref (o))] := hl
  have hO := hP.2
  have hP := hP.1
  refine z_aload S dL_turn_0 hl 4 rfl ?_
  refine z_aload_n S dL_turn_2 hl 0 rfl rfl ?_
  refine z_iload_n S dL_turn_3 hl 1 rfl rfl ?_
  refine z_iload_n S dL_turn_4 hl 2 rfl rfl ?_
  refine z_iload_n S dL_turn_5 hl 3 rfl rfl ?_
  refine z_callM S hG hS (c_X2_turn l G σ a hd j sp kd hj hsp hkd) (fun _ h => Or.inl h) ok_X2_turn hP.1 zc_X2 rfl q3_30 (hP) ⟨rfl, rfl, by decide, by decide⟩ ⟨Nat.le_of_ble_eq_true rfl, Nat.le_of_ble_eq_true rfl⟩ rfl (Nat.le_of_ble_eq_true rfl) hl.1 rfl dL_turn_6 (fun H_1 L_1 hB hz oq hS => ?_)
  have hO := va_at.kept hO (oq _ (va_lt hO) (fun z => by obtain ⟨i, hi, e⟩ := z; exact hoa i hi e.symm))
  have hP := hB
  refine lv_i2l S.1 S.2.1 dL_turn_9 rfl ?_
  refine z_putN S hG hO zc_X3 tyX3 tyX3_ok nmX3 hS (Or.inr rfl) 0 (by decide) qt2_79 rfl rfl (tyX3_ok 0 (by decide)) rfl rfl (Nat.le_of_ble_eq_true rfl) dL_turn_10 (fun H_2 L_2 hat hz oq hS => ?_)
  have hP := hCyc_keep hP (fun i hi => oq _ (hoa i hi))
  have hO := hat
  refine z_goto S 24 dL_turn_13 (by decide) ?_
  refine z_iconst S dL_turn_24 ?_
  exact ret _ _ _ _ _ _ _ dL_turn_25 (rfl) hS (⟨hP, hO⟩) (Nat.le_of_ble_eq_true rfl) (Nat.le_of_ble_eq_true rfl)
theorem q3_40 : (Jvm.Cond.codeWith ({ cls := "CyclepaintLaw", name := "stop", desc := "(LCyclepaint;ILCyclepaintLaw$Out;)I" } : Jvm.MethodName) method_6_code (4 : Nat) (Option.some Jvm.ClassFile.FieldType.int) [((0 : Nat), (10 : Nat), (13 : Nat), (19 : Nat))]) ∈ lw_g := zg_of (zin3 (List.mem_of_getElem? (i := 40) rfl)) rfl
theorem q3_39 : (Jvm.Cond.static ({ cls := "CyclepaintLaw", name := "stop", desc := "(LCyclepaint;ILCyclepaintLaw$Out;)I" } : Jvm.MethodName)) ∈ lw_g := zg_of (zin3 (List.mem_of_getElem? (i := 39) rfl)) rfl
theorem okL_stop : zOH yL_stop cL_stop 4 ((Option.some Jvm.ClassFile.FieldType.int)) [((0 : Nat), (10 : Nat), (13 : Nat), (19 : Nat))] 3 := ⟨q3_40, q1_0, q3_39, by decide, by decide, by decide +kernel⟩
theorem dL_stop_0 : decode cL_stop 0 = .ok (.aload_n 2, 1) := by decide +kernel
theorem dL_stop_1 : decode cL_stop 1 = .ok (.aload_n 0, 1) := by decide +kernel
theorem dL_stop_2 : decode cL_stop 2 = .ok (.iload_n 1, 1) := by decide +kernel
theorem dL_stop_3 : decode cL_stop 3 = .ok (.invokevirtual 36, 3) := by decide +kernel
theorem dL_stop_6 : decode cL_stop 6 = .ok (.i2l, 1) := by decide +kernel
theorem dL_stop_7 : decode cL_stop 7 = .ok (.putfield 13, 3) := by decide +kernel
theorem dL_stop_10 : decode cL_stop 10 = .ok (.goto 6, 3) := by decide +kernel
theorem dL_stop_13 : decode cL_stop 13 = .ok (.astore_n 3, 1) := by decide +kernel
theorem dL_stop_14 : decode cL_stop 14 = .ok (.iconst 1, 1) := by decide +kernel
theorem dL_stop_15 : decode cL_stop 15 = .ok (.ireturn, 1) := by decide +kernel
theorem dL_stop_16 : decode cL_stop 16 = .ok (.iconst 0, 1) := by decide +kernel
theorem dL_stop_17 : decode cL_stop 17 = .ok (.ireturn, 1) := by decide +kernel
theorem q3_41 : (Jvm.Cond.methodLink "CyclepaintLaw" (36 : Nat) ({ cls := "Cyclepaint", name := "stop", desc := "(I)I" } : Jvm.MethodName)) ∈ lw_g := zg_of (zin3 (List.mem_of_getElem? (i := 41) rfl)) rfl
set_option maxHeartbeats 4000000 in
set_option maxRecDepth 100000 in
theorem w_stop_0 (l : Launch) (hl0 : l.stackTraces = false) (G : zG) (σ : St) (a : Nat → Nat) (o : Nat) (n0 : Int64) (sv : Value) (hd : inj a (cL σ)) (hoa : ∀ i : Nat, cL σ i → a i ≠ o) (j : Int) (hj : 0 ≤ j ∧ j < σ.rn) : Met l yL_stop (wqH yL_stop cL_stop 4 ((Option.some Jvm.ClassFile.FieldType.int)) [((0 : Nat), (10 : Nat), (13 : Nat), (19 : Nat))]) (rmM 4 86 0 0) (va_Pc [.ref (a 0), .int (zI (j)), .ref (o)] (zK G (fun H => hCyc G σ a H ∧ hOut G o n0 sv H))) (zM (fun y => cA σ a y ∨ y = o) (some (.int (zI 0))) (fun H => hCyc G (delS σ j) (delB a j) H ∧ hOut G o (zI (σ.rn - 1)).toInt64 sv H)) 0 0 (fun y => cA σ a y ∨ y = o) := by
  refine z_enterH (by decide +kernel) (Nat.le_of_ble_eq_true rfl) ?_
  intro p env s m below meth cod Q S htab hG hP hS ret ls hl
  have hl : lv_has ls 4 [(0, .ref (a 0)), (1, .int (zI (j))), (2, .ref (o))] := hl
  have hO := hP.2
  have hP := hP.1
  refine z_aload_n S dL_stop_0 hl 2 rfl rfl ?_
  refine z_aload_n S dL_stop_1 hl 0 rfl rfl ?_
  refine z_iload_n S dL_stop_2 hl 1 rfl rfl ?_
  refine z_callM S hG hS (c_X2_stop l G σ a hd j hj) (fun _ h => Or.inl h) ok_X2_stop hP.1 zc_X2 rfl q3_41 (hP) ⟨rfl, rfl, by decide, by decide⟩ ⟨Nat.le_of_ble_eq_true rfl, Nat.le_of_ble_eq_true rfl⟩ rfl (Nat.le_of_ble_eq_true rfl) hl.1 rfl dL_stop_3 (fun H_1 L_1 hB hz oq hS => ?_)
  have hO := va_at.kept hO (oq _ (va_lt hO) (fun z => by obtain ⟨i, hi, e⟩ := z; exact hoa i hi e.symm))
  have hP := hB
  refine lv_i2l S.1 S.2.1 dL_stop_6 rfl ?_
  refine z_putN S hG hO zc_X3 tyX3 tyX3_ok nmX3 hS (Or.inr rfl) 0 (by decide) qt2_79 rfl rfl (tyX3_ok 0 (by decide)) rfl rfl (Nat.le_of_ble_eq_true rfl) dL_stop_7 (fun H_2 L_2 hat hz oq hS => ?_)
  have hP := hCyc_keep hP (fun i hi => oq _ (by obtain ⟨k, hk, e⟩ := cL_delx (a := a) hj.1 hj.2 hi; rw [e]; exact hoa k hk))
  have hO := hat
  refine z_goto S 16 dL_stop_10 (by decide) ?_
  refine z_iconst S dL_stop_16 ?_
  exact ret _ _ _ _ _ _ _ dL_stop_17 (rfl) hS (⟨hP, hO⟩) (Nat.le_of_ble_eq_true rfl) (Nat.le_of_ble_eq_true rfl)
theorem q3_51 : (Jvm.Cond.codeWith ({ cls := "CyclepaintLaw", name := "run", desc := "(LCyclepaint;ILCyclepaintLaw$Out;)I" } : Jvm.MethodName) method_7_code (4 : Nat) (Option.some Jvm.ClassFile.FieldType.int) [((0 : Nat), (10 : Nat), (13 : Nat), (21 : Nat)), ((0 : Nat), (10 : Nat), (16 : Nat), (30 : Nat))]) ∈ lw_g := zg_of (zin3 (List.mem_of_getElem? (i := 51) rfl)) rfl
theorem q3_50 : (Jvm.Cond.static ({ cls := "CyclepaintLaw", name := "run", desc := "(LCyclepaint;ILCyclepaintLaw$Out;)I" } : Jvm.MethodName)) ∈ lw_g := zg_of (zin3 (List.mem_of_getElem? (i := 50) rfl)) rfl
theorem okL_run : zOH yL_run cL_run 4 ((Option.some Jvm.ClassFile.FieldType.int)) [((0 : Nat), (10 : Nat), (13 : Nat), (21 : Nat)), ((0 : Nat), (10 : Nat), (16 : Nat), (30 : Nat))] 3 := ⟨q3_51, q1_0, q3_50, by decide, by decide, by decide +kernel⟩
theorem dL_run_0 : decode cL_run 0 = .ok (.aload_n 2, 1) := by decide +kernel
theorem dL_run_1 : decode cL_run 1 = .ok (.aload_n 0, 1) := by decide +kernel
theorem dL_run_2 : decode cL_run 2 = .ok (.iload_n 1, 1) := by decide +kernel
theorem dL_run_3 : decode cL_run 3 = .ok (.invokevirtual 40, 3) := by decide +kernel
theorem dL_run_6 : decode cL_run 6 = .ok (.i2l, 1) := by decide +kernel
theorem dL_run_7 : decode cL_run 7 = .ok (.putfield 13, 3) := by decide +kernel
theorem dL_run_10 : decode cL_run 10 = .ok (.goto 9, 3) := by decide +kernel
theorem dL_run_13 : decode cL_run 13 = .ok (.astore_n 3, 1) := by decide +kernel
theorem dL_run_14 : decode cL_run 14 = .ok (.iconst 1, 1) := by decide +kernel
theorem dL_run_15 : decode cL_run 15 = .ok (.ireturn, 1) := by decide +kernel
theorem dL_run_16 : decode cL_run 16 = .ok (.astore_n 3, 1) := by decide +kernel
theorem dL_run_17 : decode cL_run 17 = .ok (.iconst 2, 1) := by decide +kernel
theorem dL_run_18 : decode cL_run 18 = .ok (.ireturn, 1) := by decide +kernel
theorem dL_run_19 : decode cL_run 19 = .ok (.iconst 0, 1) := by decide +kernel
theorem dL_run_20 : decode cL_run 20 = .ok (.ireturn, 1) := by decide +kernel
theorem q3_52 : (Jvm.Cond.methodLink "CyclepaintLaw" (40 : Nat) ({ cls := "Cyclepaint", name := "run", desc := "(I)I" } : Jvm.MethodName)) ∈ lw_g := zg_of (zin3 (List.mem_of_getElem? (i := 52) rfl)) rfl
set_option maxHeartbeats 4000000 in
set_option maxRecDepth 100000 in
theorem w_run_0 (l : Launch) (hl0 : l.stackTraces = false) (G : zG) (σ : St) (a : Nat → Nat) (o : Nat) (n0 : Int64) (sv : Value) (hd : inj a (cL σ)) (hoa : ∀ i : Nat, cL σ i → a i ≠ o) (n : Int) (hn : 1 ≤ n ∧ n ≤ 200) (hg : σ.tk + n ≤ 99999) : Met l yL_run (wqH yL_run cL_run 4 ((Option.some Jvm.ClassFile.FieldType.int)) [((0 : Nat), (10 : Nat), (13 : Nat), (21 : Nat)), ((0 : Nat), (10 : Nat), (16 : Nat), (30 : Nat))]) (rmM 4 96 0 0) (va_Pc [.ref (a 0), .int (zI (n)), .ref (o)] (zK G (fun H => hCyc G σ a H ∧ hOut G o n0 sv H))) (zM (fun y => cA σ a y ∨ y = o) (some (.int (zI 0))) (fun H => hCyc G (σ.wO (σ.tk + n) σ.lim σ.rf) (a) H ∧ hOut G o (zI (runC σ n)).toInt64 sv H)) 0 0 (fun y => cA σ a y ∨ y = o) := by
  refine z_enterH (by decide +kernel) (Nat.le_of_ble_eq_true rfl) ?_
  intro p env s m below meth cod Q S htab hG hP hS ret ls hl
  have hl : lv_has ls 4 [(0, .ref (a 0)), (1, .int (zI (n))), (2, .ref (o))] := hl
  have hO := hP.2
  have hP := hP.1
  refine z_aload_n S dL_run_0 hl 2 rfl rfl ?_
  refine z_aload_n S dL_run_1 hl 0 rfl rfl ?_
  refine z_iload_n S dL_run_2 hl 1 rfl rfl ?_
  refine z_callM S hG hS (c_X2_run l G σ a hd n hn hg) (fun _ h => Or.inl h) ok_X2_run hP.1 zc_X2 rfl q3_52 (hP) ⟨rfl, rfl, by decide, by decide⟩ ⟨Nat.le_of_ble_eq_true rfl, Nat.le_of_ble_eq_true rfl⟩ rfl (Nat.le_of_ble_eq_true rfl) hl.1 rfl dL_run_3 (fun H_1 L_1 hB hz oq hS => ?_)
  have hO := va_at.kept hO (oq _ (va_lt hO) (fun z => by obtain ⟨i, hi, e⟩ := z; exact hoa i hi e.symm))
  have hP := hB
  refine lv_i2l S.1 S.2.1 dL_run_6 rfl ?_
  refine z_putN S hG hO zc_X3 tyX3 tyX3_ok nmX3 hS (Or.inr rfl) 0 (by decide) qt2_79 rfl rfl (tyX3_ok 0 (by decide)) rfl rfl (Nat.le_of_ble_eq_true rfl) dL_run_7 (fun H_2 L_2 hat hz oq hS => ?_)
  have hP := hCyc_keep hP (fun i hi => oq _ (hoa i hi))
  have hO := hat
  refine z_goto S 19 dL_run_10 (by decide) ?_
  refine z_iconst S dL_run_19 ?_
  exact ret _ _ _ _ _ _ _ dL_run_20 (rfl) hS (⟨hP, hO⟩) (Nat.le_of_ble_eq_true rfl) (Nat.le_of_ble_eq_true rfl)
theorem q3_64 : (Jvm.Cond.codeWith ({ cls := "CyclepaintLaw", name := "jump", desc := "(LCyclepaint;ILCyclepaintLaw$Out;)I" } : Jvm.MethodName) method_8_code (4 : Nat) (Option.some Jvm.ClassFile.FieldType.int) [((0 : Nat), (10 : Nat), (13 : Nat), (21 : Nat))]) ∈ lw_g := zg_of (zin3 (List.mem_of_getElem? (i := 64) rfl)) rfl
theorem q3_63 : (Jvm.Cond.static ({ cls := "CyclepaintLaw", name := "jump", desc := "(LCyclepaint;ILCyclepaintLaw$Out;)I" } : Jvm.MethodName)) ∈ lw_g := zg_of (zin3 (List.mem_of_getElem? (i := 63) rfl)) rfl
theorem okL_jump : zOH yL_jump cL_jump 4 ((Option.some Jvm.ClassFile.FieldType.int)) [((0 : Nat), (10 : Nat), (13 : Nat), (21 : Nat))] 3 := ⟨q3_64, q1_0, q3_63, by decide, by decide, by decide +kernel⟩
theorem dL_jump_0 : decode cL_jump 0 = .ok (.aload_n 2, 1) := by decide +kernel
theorem dL_jump_1 : decode cL_jump 1 = .ok (.aload_n 0, 1) := by decide +kernel
theorem dL_jump_2 : decode cL_jump 2 = .ok (.iload_n 1, 1) := by decide +kernel
theorem dL_jump_3 : decode cL_jump 3 = .ok (.invokevirtual 43, 3) := by decide +kernel
theorem dL_jump_6 : decode cL_jump 6 = .ok (.i2l, 1) := by decide +kernel
theorem dL_jump_7 : decode cL_jump 7 = .ok (.putfield 13, 3) := by decide +kernel
theorem dL_jump_10 : decode cL_jump 10 = .ok (.goto 6, 3) := by decide +kernel
theorem dL_jump_13 : decode cL_jump 13 = .ok (.astore_n 3, 1) := by decide +kernel
theorem dL_jump_14 : decode cL_jump 14 = .ok (.iconst 1, 1) := by decide +kernel
theorem dL_jump_15 : decode cL_jump 15 = .ok (.ireturn, 1) := by decide +kernel
theorem dL_jump_16 : decode cL_jump 16 = .ok (.iconst 0, 1) := by decide +kernel
theorem dL_jump_17 : decode cL_jump 17 = .ok (.ireturn, 1) := by decide +kernel
theorem q3_65 : (Jvm.Cond.methodLink "CyclepaintLaw" (43 : Nat) ({ cls := "Cyclepaint", name := "jump", desc := "(I)I" } : Jvm.MethodName)) ∈ lw_g := zg_of (zin3 (List.mem_of_getElem? (i := 65) rfl)) rfl
set_option maxHeartbeats 4000000 in
set_option maxRecDepth 100000 in
theorem w_jump_0 (l : Launch) (hl0 : l.stackTraces = false) (G : zG) (σ : St) (a : Nat → Nat) (o : Nat) (n0 : Int64) (sv : Value) (hd : inj a (cL σ)) (hoa : ∀ i : Nat, cL σ i → a i ≠ o) (x : Int) (hx : 0 ≤ x ∧ x ≤ 99999) : Met l yL_jump (wqH yL_jump cL_jump 4 ((Option.some Jvm.ClassFile.FieldType.int)) [((0 : Nat), (10 : Nat), (13 : Nat), (21 : Nat))]) (rmM 2 42 0 0) (va_Pc [.ref (a 0), .int (zI (x)), .ref (o)] (zK G (fun H => hCyc G σ a H ∧ hOut G o n0 sv H))) (zM (fun y => cA σ a y ∨ y = o) (some (.int (zI 0))) (fun H => hCyc G (σ.wO x σ.lim σ.rf) (a) H ∧ hOut G o (zI (σ.tk)).toInt64 sv H)) 0 0 (fun y => cA σ a y ∨ y = o) := by
  refine z_enterH (by decide +kernel) (Nat.le_of_ble_eq_true rfl) ?_
  intro p env s m below meth cod Q S htab hG hP hS ret ls hl
  have hl : lv_has ls 4 [(0, .ref (a 0)), (1, .int (zI (x))), (2, .ref (o))] := hl
  have hO := hP.2
  have hP := hP.1
  refine z_aload_n S dL_jump_0 hl 2 rfl rfl ?_
  refine z_aload_n S dL_jump_1 hl 0 rfl rfl ?_
  refine z_iload_n S dL_jump_2 hl 1 rfl rfl ?_
  refine z_callM S hG hS (c_X2_jump l G σ a hd x hx) (fun _ h => Or.inl h) ok_X2_jump hP.1 zc_X2 rfl q3_65 (hP) ⟨rfl, rfl, by decide, by decide⟩ ⟨Nat.le_of_ble_eq_true rfl, Nat.le_of_ble_eq_true rfl⟩ rfl (Nat.le_of_ble_eq_true rfl) hl.1 rfl dL_jump_3 (fun H_1 L_1 hB hz oq hS => ?_)
  have hO := va_at.kept hO (oq _ (va_lt hO) (fun z => by obtain ⟨i, hi, e⟩ := z; exact hoa i hi e.symm))
  have hP := hB
  refine lv_i2l S.1 S.2.1 dL_jump_6 rfl ?_
  refine z_putN S hG hO zc_X3 tyX3 tyX3_ok nmX3 hS (Or.inr rfl) 0 (by decide) qt2_79 rfl rfl (tyX3_ok 0 (by decide)) rfl rfl (Nat.le_of_ble_eq_true rfl) dL_jump_7 (fun H_2 L_2 hat hz oq hS => ?_)
  have hP := hCyc_keep hP (fun i hi => oq _ (hoa i hi))
  have hO := hat
  refine z_goto S 16 dL_jump_10 (by decide) ?_
  refine z_iconst S dL_jump_16 ?_
  exact ret _ _ _ _ _ _ _ dL_jump_17 (rfl) hS (⟨hP, hO⟩) (Nat.le_of_ble_eq_true rfl) (Nat.le_of_ble_eq_true rfl)
theorem q3_75 : (Jvm.Cond.codeWith ({ cls := "CyclepaintLaw", name := "keep", desc := "(LCyclepaint;LCyclepaintLaw$Out;)I" } : Jvm.MethodName) method_9_code (3 : Nat) (Option.some Jvm.ClassFile.FieldType.int) [((0 : Nat), (9 : Nat), (12 : Nat), (30 : Nat))]) ∈ lw_g := zg_of (zin3 (List.mem_of_getElem? (i := 75) rfl)) rfl
theorem q3_74 : (Jvm.Cond.static ({ cls := "CyclepaintLaw", name := "keep", desc := "(LCyclepaint;LCyclepaintLaw$Out;)I" } : Jvm.MethodName)) ∈ lw_g := zg_of (zin3 (List.mem_of_getElem? (i := 74) rfl)) rfl
theorem okL_keep : zOH yL_keep cL_keep 3 ((Option.some Jvm.ClassFile.FieldType.int)) [((0 : Nat), (9 : Nat), (12 : Nat), (30 : Nat))] 2 := ⟨q3_75, q1_0, q3_74, by decide, by decide, by decide +kernel⟩
theorem dL_keep_0 : decode cL_keep 0 = .ok (.aload_n 1, 1) := by decide +kernel
theorem dL_keep_1 : decode cL_keep 1 = .ok (.aload_n 0, 1) := by decide +kernel
theorem dL_keep_2 : decode cL_keep 2 = .ok (.invokevirtual 46, 3) := by decide +kernel
theorem dL_keep_5 : decode cL_keep 5 = .ok (.i2l, 1) := by decide +kernel
theorem dL_keep_6 : decode cL_keep 6 = .ok (.putfield 13, 3) := by decide +kernel
theorem dL_keep_9 : decode cL_keep 9 = .ok (.goto 6, 3) := by decide +kernel
theorem dL_keep_12 : decode cL_keep 12 = .ok (.astore_n 2, 1) := by decide +kernel
theorem dL_keep_13 : decode cL_keep 13 = .ok (.iconst 1, 1) := by decide +kernel
theorem dL_keep_14 : decode cL_keep 14 = .ok (.ireturn, 1) := by decide +kernel
theorem dL_keep_15 : decode cL_keep 15 = .ok (.iconst 0, 1) := by decide +kernel
theorem dL_keep_16 : decode cL_keep 16 = .ok (.ireturn, 1) := by decide +kernel
theorem q3_76 : (Jvm.Cond.methodLink "CyclepaintLaw" (46 : Nat) ({ cls := "Cyclepaint", name := "keep", desc := "()I" } : Jvm.MethodName)) ∈ lw_g := zg_of (zin3 (List.mem_of_getElem? (i := 76) rfl)) rfl
set_option maxHeartbeats 4000000 in
set_option maxRecDepth 100000 in
theorem w_keep_0 (l : Launch) (hl0 : l.stackTraces = false) (G : zG) (σ : St) (a : Nat → Nat) (o : Nat) (n0 : Int64) (sv : Value) (hd : inj a (cL σ)) (hoa : ∀ i : Nat, cL σ i → a i ≠ o)  (hk5 : σ.kn < 5) : Met l yL_keep (wqH yL_keep cL_keep 3 ((Option.some Jvm.ClassFile.FieldType.int)) [((0 : Nat), (9 : Nat), (12 : Nat), (30 : Nat))]) (rmM 3 68 0 0) (va_Pc [.ref (a 0), .ref (o)] (zK G (fun H => hCyc G σ a H ∧ hOut G o n0 sv H))) (zM (fun y => cA σ a y ∨ y = o) (some (.int (zI 0))) (fun H => hCyc G (addKS σ (kpG σ)) (a) H ∧ hOut G o (zI (σ.kn)).toInt64 sv H)) 0 0 (fun y => cA σ a y ∨ y = o) := by
  refine z_enterH (by decide +kernel) (Nat.le_of_ble_eq_true rfl) ?_
  intro p env s m below meth cod Q S htab hG hP hS ret ls hl
  have hl : lv_has ls 3 [(0, .ref (a 0)), (1, .ref (o))] := hl
  have hO := hP.2
  have hP := hP.1
  refine z_aload_n S dL_keep_0 hl 1 rfl rfl ?_
  refine z_aload_n S dL_keep_1 hl 0 rfl rfl ?_
  refine z_callM S hG hS (c_X2_keep l G σ a hd hk5) (fun _ h => Or.inl h) ok_X2_keep hP.1 zc_X2 rfl q3_76 (hP) ⟨rfl, rfl, by decide, by decide⟩ ⟨Nat.le_of_ble_eq_true rfl, Nat.le_of_ble_eq_true rfl⟩ rfl (Nat.le_of_ble_eq_true rfl) hl.1 rfl dL_keep_2 (fun H_1 L_1 hB hz oq hS => ?_)
  have hO := va_at.kept hO (oq _ (va_lt hO) (fun z => by obtain ⟨i, hi, e⟩ := z; exact hoa i hi e.symm))
  have hP := hB
  refine lv_i2l S.1 S.2.1 dL_keep_5 rfl ?_
  refine z_putN S hG hO zc_X3 tyX3 tyX3_ok nmX3 hS (Or.inr rfl) 0 (by decide) qt2_79 rfl rfl (tyX3_ok 0 (by decide)) rfl rfl (Nat.le_of_ble_eq_true rfl) dL_keep_6 (fun H_2 L_2 hat hz oq hS => ?_)
  have hP := hCyc_keep hP (fun i hi => oq _ (hoa i hi))
  have hO := hat
  refine z_goto S 15 dL_keep_9 (by decide) ?_
  refine z_iconst S dL_keep_15 ?_
  exact ret _ _ _ _ _ _ _ dL_keep_16 (rfl) hS (⟨hP, hO⟩) (Nat.le_of_ble_eq_true rfl) (Nat.le_of_ble_eq_true rfl)
theorem q3_83 : (Jvm.Cond.codeWith ({ cls := "CyclepaintLaw", name := "limit", desc := "(LCyclepaint;ILCyclepaintLaw$Out;)I" } : Jvm.MethodName) method_10_code (4 : Nat) (Option.some Jvm.ClassFile.FieldType.int) [((0 : Nat), (17 : Nat), (20 : Nat), (21 : Nat))]) ∈ lw_g := zg_of (zin3 (List.mem_of_getElem? (i := 83) rfl)) rfl
theorem q3_82 : (Jvm.Cond.static ({ cls := "CyclepaintLaw", name := "limit", desc := "(LCyclepaint;ILCyclepaintLaw$Out;)I" } : Jvm.MethodName)) ∈ lw_g := zg_of (zin3 (List.mem_of_getElem? (i := 82) rfl)) rfl
theorem okL_limit : zOH yL_limit cL_limit 4 ((Option.some Jvm.ClassFile.FieldType.int)) [((0 : Nat), (17 : Nat), (20 : Nat), (21 : Nat))] 3 := ⟨q3_83, q1_0, q3_82, by decide, by decide, by decide +kernel⟩
theorem dL_limit_0 : decode cL_limit 0 = .ok (.aload_n 2, 1) := by decide +kernel
theorem dL_limit_1 : decode cL_limit 1 = .ok (.aload_n 0, 1) := by decide +kernel
theorem dL_limit_2 : decode cL_limit 2 = .ok (.iload_n 1, 1) := by decide +kernel
theorem dL_limit_3 : decode cL_limit 3 = .ok (.invokevirtual 50, 3) := by decide +kernel
theorem dL_limit_6 : decode cL_limit 6 = .ok (.ifCond .eq 7, 3) := by decide +kernel
theorem dL_limit_9 : decode cL_limit 9 = .ok (.lconst 1, 1) := by decide +kernel
theorem dL_limit_10 : decode cL_limit 10 = .ok (.goto 4, 3) := by decide +kernel
theorem dL_limit_13 : decode cL_limit 13 = .ok (.lconst 0, 1) := by decide +kernel
theorem dL_limit_14 : decode cL_limit 14 = .ok (.putfield 13, 3) := by decide +kernel
theorem dL_limit_17 : decode cL_limit 17 = .ok (.goto 6, 3) := by decide +kernel
theorem dL_limit_20 : decode cL_limit 20 = .ok (.astore_n 3, 1) := by decide +kernel
theorem dL_limit_21 : decode cL_limit 21 = .ok (.iconst 1, 1) := by decide +kernel
theorem dL_limit_22 : decode cL_limit 22 = .ok (.ireturn, 1) := by decide +kernel
theorem dL_limit_23 : decode cL_limit 23 = .ok (.iconst 0, 1) := by decide +kernel
theorem dL_limit_24 : decode cL_limit 24 = .ok (.ireturn, 1) := by decide +kernel
theorem q3_84 : (Jvm.Cond.methodLink "CyclepaintLaw" (50 : Nat) ({ cls := "Cyclepaint", name := "limit", desc := "(I)Z" } : Jvm.MethodName)) ∈ lw_g := zg_of (zin3 (List.mem_of_getElem? (i := 84) rfl)) rfl
set_option maxHeartbeats 4000000 in
set_option maxRecDepth 100000 in
theorem w_limit_0 (l : Launch) (hl0 : l.stackTraces = false) (G : zG) (σ : St) (a : Nat → Nat) (o : Nat) (n0 : Int64) (sv : Value) (hd : inj a (cL σ)) (hoa : ∀ i : Nat, cL σ i → a i ≠ o) (x : Int) (hx : 0 ≤ x ∧ x ≤ 32) : Met l yL_limit (wqH yL_limit cL_limit 4 ((Option.some Jvm.ClassFile.FieldType.int)) [((0 : Nat), (17 : Nat), (20 : Nat), (21 : Nat))]) (rmM 6 136 0 0) (va_Pc [.ref (a 0), .int (zI (x)), .ref (o)] (zK G (fun H => hCyc G σ a H ∧ hOut G o n0 sv H))) (zM (fun y => cA σ a y ∨ y = o) (some (.int (zI 0))) (fun H => hCyc G (σ.wO σ.tk x σ.rf) (a) H ∧ hOut G o (if decide (x < flC σ) = true then 1 else 0) sv H)) 0 0 (fun y => cA σ a y ∨ y = o) := by
  refine z_enterH (by decide +kernel) (Nat.le_of_ble_eq_true rfl) ?_
  intro p env s m below meth cod Q S htab hG hP hS ret ls hl
  have hl : lv_has ls 4 [(0, .ref (a 0)), (1, .int (zI (x))), (2, .ref (o))] := hl
  have hO := hP.2
  have hP := hP.1
  refine z_aload_n S dL_limit_0 hl 2 rfl rfl ?_
  refine z_aload_n S dL_limit_1 hl 0 rfl rfl ?_
  refine z_iload_n S dL_limit_2 hl 1 rfl rfl ?_
  refine z_callM S hG hS (c_X2_limit l G σ a hd x hx) (fun _ h => Or.inl h) ok_X2_limit hP.1 zc_X2 rfl q3_84 (hP) ⟨rfl, rfl, by decide, by decide⟩ ⟨Nat.le_of_ble_eq_true rfl, Nat.le_of_ble_eq_true rfl⟩ rfl (Nat.le_of_ble_eq_true rfl) hl.1 rfl dL_limit_3 (fun H_1 L_1 hB hz oq hS => ?_)
  have hO := va_at.kept hO (oq _ (va_lt hO) (fun z => by obtain ⟨i, hi, e⟩ := z; exact hoa i hi e.symm))
  have hP := hB
  refine z_bif_eq S 13 dL_limit_6 (by decide) (fun c_6 => ?_) (fun c_6 => ?_)
  · skip
    refine lv_lconst S.1 S.2.1 dL_limit_13 rfl ?_
    refine z_putN S hG hO zc_X3 tyX3 tyX3_ok nmX3 hS (Or.inr rfl) 0 (by decide) qt2_79 rfl rfl (tyX3_ok 0 (by decide)) rfl rfl (Nat.le_of_ble_eq_true rfl) dL_limit_14 (fun H_2 L_2 hat hz oq hS => ?_)
    have hP := hCyc_keep hP (fun i hi => oq _ (hoa i hi))
    have hO := hat
    refine z_goto S 23 dL_limit_17 (by decide) ?_
    refine z_iconst S dL_limit_23 ?_
    exact ret _ _ _ _ _ _ _ dL_limit_24 (rfl) hS (⟨hP, by rw [if_neg (by rw [c_6]; decide)]; exact hO⟩) (Nat.le_of_ble_eq_true rfl) (Nat.le_of_ble_eq_true rfl)
  · skip
    refine lv_lconst S.1 S.2.1 dL_limit_9 rfl ?_
    refine z_goto S 14 dL_limit_10 (by decide) ?_
    refine z_putN S hG hO zc_X3 tyX3 tyX3_ok nmX3 hS (Or.inr rfl) 0 (by decide) qt2_79 rfl rfl (tyX3_ok 0 (by decide)) rfl rfl (Nat.le_of_ble_eq_true rfl) dL_limit_14 (fun H_3 L_3 hat hz oq hS => ?_)
    have hP := hCyc_keep hP (fun i hi => oq _ (hoa i hi))
    have hO := hat
    refine z_goto S 23 dL_limit_17 (by decide) ?_
    refine z_iconst S dL_limit_23 ?_
    exact ret _ _ _ _ _ _ _ dL_limit_24 (rfl) hS (⟨hP, by rw [if_pos (c_6)]; exact hO⟩) (Nat.le_of_ble_eq_true rfl) (Nat.le_of_ble_eq_true rfl)
theorem q3_91 : (Jvm.Cond.codeWith ({ cls := "CyclepaintLaw", name := "dot", desc := "(LCyclepaint;IIILCyclepaintLaw$Out;)I" } : Jvm.MethodName) method_11_code (6 : Nat) (Option.some Jvm.ClassFile.FieldType.int) [((0 : Nat), (13 : Nat), (16 : Nat), (19 : Nat)), ((0 : Nat), (13 : Nat), (20 : Nat), (21 : Nat))]) ∈ lw_g := zg_of (zin3 (List.mem_of_getElem? (i := 91) rfl)) rfl
theorem q3_90 : (Jvm.Cond.static ({ cls := "CyclepaintLaw", name := "dot", desc := "(LCyclepaint;IIILCyclepaintLaw$Out;)I" } : Jvm.MethodName)) ∈ lw_g := zg_of (zin3 (List.mem_of_getElem? (i := 90) rfl)) rfl
theorem okL_dot : zOH yL_dot cL_dot 6 ((Option.some Jvm.ClassFile.FieldType.int)) [((0 : Nat), (13 : Nat), (16 : Nat), (19 : Nat)), ((0 : Nat), (13 : Nat), (20 : Nat), (21 : Nat))] 5 := ⟨q3_91, q1_0, q3_90, by decide, by decide, by decide +kernel⟩
theorem dL_dot_0 : decode cL_dot 0 = .ok (.aload 4, 2) := by decide +kernel
theorem dL_dot_2 : decode cL_dot 2 = .ok (.aload_n 0, 1) := by decide +kernel
theorem dL_dot_3 : decode cL_dot 3 = .ok (.iload_n 1, 1) := by decide +kernel
theorem dL_dot_4 : decode cL_dot 4 = .ok (.iload_n 2, 1) := by decide +kernel
theorem dL_dot_5 : decode cL_dot 5 = .ok (.iload_n 3, 1) := by decide +kernel
theorem dL_dot_6 : decode cL_dot 6 = .ok (.invokevirtual 54, 3) := by decide +kernel
theorem dL_dot_9 : decode cL_dot 9 = .ok (.i2l, 1) := by decide +kernel
theorem dL_dot_10 : decode cL_dot 10 = .ok (.putfield 13, 3) := by decide +kernel
theorem dL_dot_13 : decode cL_dot 13 = .ok (.goto 11, 3) := by decide +kernel
theorem dL_dot_16 : decode cL_dot 16 = .ok (.astore 5, 2) := by decide +kernel
theorem dL_dot_18 : decode cL_dot 18 = .ok (.iconst 1, 1) := by decide +kernel
theorem dL_dot_19 : decode cL_dot 19 = .ok (.ireturn, 1) := by decide +kernel
theorem dL_dot_20 : decode cL_dot 20 = .ok (.astore 5, 2) := by decide +kernel
theorem dL_dot_22 : decode cL_dot 22 = .ok (.iconst 2, 1) := by decide +kernel
theorem dL_dot_23 : decode cL_dot 23 = .ok (.ireturn, 1) := by decide +kernel
theorem dL_dot_24 : decode cL_dot 24 = .ok (.iconst 0, 1) := by decide +kernel
theorem dL_dot_25 : decode cL_dot 25 = .ok (.ireturn, 1) := by decide +kernel
theorem q3_92 : (Jvm.Cond.methodLink "CyclepaintLaw" (54 : Nat) ({ cls := "Cyclepaint", name := "dot", desc := "(III)I" } : Jvm.MethodName)) ∈ lw_g := zg_of (zin3 (List.mem_of_getElem? (i := 92) rfl)) rfl
set_option maxHeartbeats 4000000 in
set_option maxRecDepth 100000 in
theorem w_dot_0 (l : Launch) (hl0 : l.stackTraces = false) (G : zG) (σ : St) (a : Nat → Nat) (o : Nat) (n0 : Int64) (sv : Value) (hd : inj a (cL σ)) (hoa : ∀ i : Nat, cL σ i → a i ≠ o) (v i x : Int) (hv : 0 ≤ v ∧ v ≤ 3) (hi : 0 ≤ i ∧ i ≤ 7) (hx : 0 ≤ x ∧ x ≤ 3) : Met l yL_dot (wqH yL_dot cL_dot 6 ((Option.some Jvm.ClassFile.FieldType.int)) [((0 : Nat), (13 : Nat), (16 : Nat), (19 : Nat)), ((0 : Nat), (13 : Nat), (20 : Nat), (21 : Nat))]) (rmM 5 118 0 0) (va_Pc [.ref (a 0), .int (zI (v)), .int (zI (i)), .int (zI (x)), .ref (o)] (zK G (fun H => hCyc G σ a H ∧ hOut G o n0 sv H))) (zM (fun y => cA σ a y ∨ y = o) (some (.int (zI 0))) (fun H => hCyc G σ (a) H ∧ hOut G o (dF σ (v * 8 + i) x).toInt64 sv H)) 0 0 (fun y => cA σ a y ∨ y = o) := by
  refine z_enterH (by decide +kernel) (Nat.le_of_ble_eq_true rfl) ?_
  intro p env s m below meth cod Q S htab hG hP hS ret ls hl
  have hl : lv_has ls 6 [(0, .ref (a 0)), (1, .int (zI (v))), (2, .int (zI (i))), (3, .int (zI (x))), (4, .ref (o))] := hl
  have hO := hP.2
  have hP := hP.1
  refine z_aload S dL_dot_0 hl 4 rfl ?_
  refine z_aload_n S dL_dot_2 hl 0 rfl rfl ?_
  refine z_iload_n S dL_dot_3 hl 1 rfl rfl ?_
  refine z_iload_n S dL_dot_4 hl 2 rfl rfl ?_
  refine z_iload_n S dL_dot_5 hl 3 rfl rfl ?_
  refine z_callVs S hG (c_X2_dot l G σ a v i x hv hi hx) ok_X2_dot hP.1 zc_X2 rfl q3_92 (hP) ⟨rfl, rfl, by decide, by decide⟩ ⟨Nat.zero_le _, Nat.zero_le _⟩ rfl (Nat.le_of_ble_eq_true rfl) hl.1 rfl dL_dot_6 ?_
  refine lv_i2l S.1 S.2.1 dL_dot_9 rfl ?_
  refine z_putN S hG hO zc_X3 tyX3 tyX3_ok nmX3 hS (Or.inr rfl) 0 (by decide) qt2_79 rfl rfl (tyX3_ok 0 (by decide)) rfl rfl (Nat.le_of_ble_eq_true rfl) dL_dot_10 (fun H_1 L_1 hat hz oq hS => ?_)
  have hP := hCyc_keep hP (fun i hi => oq _ (hoa i hi))
  have hO := hat
  refine z_goto S 24 dL_dot_13 (by decide) ?_
  refine z_iconst S dL_dot_24 ?_
  exact ret _ _ _ _ _ _ _ dL_dot_25 (rfl) hS (⟨hP, hO⟩) (Nat.le_of_ble_eq_true rfl) (Nat.le_of_ble_eq_true rfl)
theorem q3_102 : (Jvm.Cond.codeWith ({ cls := "CyclepaintLaw", name := "ofEntry", desc := "(LCyclepaint;IILCyclepaintLaw$Out;)I" } : Jvm.MethodName) method_12_code (5 : Nat) (Option.some Jvm.ClassFile.FieldType.int) [((0 : Nat), (11 : Nat), (14 : Nat), (19 : Nat)), ((0 : Nat), (11 : Nat), (18 : Nat), (21 : Nat))]) ∈ lw_g := zg_of (zin3 (List.mem_of_getElem? (i := 102) rfl)) rfl
theorem q3_101 : (Jvm.Cond.static ({ cls := "CyclepaintLaw", name := "ofEntry", desc := "(LCyclepaint;IILCyclepaintLaw$Out;)I" } : Jvm.MethodName)) ∈ lw_g := zg_of (zin3 (List.mem_of_getElem? (i := 101) rfl)) rfl
theorem okL_ofEntry : zOH yL_ofEntry cL_ofEntry 5 ((Option.some Jvm.ClassFile.FieldType.int)) [((0 : Nat), (11 : Nat), (14 : Nat), (19 : Nat)), ((0 : Nat), (11 : Nat), (18 : Nat), (21 : Nat))] 4 := ⟨q3_102, q1_0, q3_101, by decide, by decide, by decide +kernel⟩
theorem dL_ofEntry_0 : decode cL_ofEntry 0 = .ok (.aload_n 3, 1) := by decide +kernel
theorem dL_ofEntry_1 : decode cL_ofEntry 1 = .ok (.aload_n 0, 1) := by decide +kernel
theorem dL_ofEntry_2 : decode cL_ofEntry 2 = .ok (.iload_n 1, 1) := by decide +kernel
theorem dL_ofEntry_3 : decode cL_ofEntry 3 = .ok (.iload_n 2, 1) := by decide +kernel
theorem dL_ofEntry_4 : decode cL_ofEntry 4 = .ok (.invokevirtual 57, 3) := by decide +kernel
theorem dL_ofEntry_7 : decode cL_ofEntry 7 = .ok (.i2l, 1) := by decide +kernel
theorem dL_ofEntry_8 : decode cL_ofEntry 8 = .ok (.putfield 13, 3) := by decide +kernel
theorem dL_ofEntry_11 : decode cL_ofEntry 11 = .ok (.goto 11, 3) := by decide +kernel
theorem dL_ofEntry_14 : decode cL_ofEntry 14 = .ok (.astore 4, 2) := by decide +kernel
theorem dL_ofEntry_16 : decode cL_ofEntry 16 = .ok (.iconst 1, 1) := by decide +kernel
theorem dL_ofEntry_17 : decode cL_ofEntry 17 = .ok (.ireturn, 1) := by decide +kernel
theorem dL_ofEntry_18 : decode cL_ofEntry 18 = .ok (.astore 4, 2) := by decide +kernel
theorem dL_ofEntry_20 : decode cL_ofEntry 20 = .ok (.iconst 2, 1) := by decide +kernel
theorem dL_ofEntry_21 : decode cL_ofEntry 21 = .ok (.ireturn, 1) := by decide +kernel
theorem dL_ofEntry_22 : decode cL_ofEntry 22 = .ok (.iconst 0, 1) := by decide +kernel
theorem dL_ofEntry_23 : decode cL_ofEntry 23 = .ok (.ireturn, 1) := by decide +kernel
theorem q3_103 : (Jvm.Cond.methodLink "CyclepaintLaw" (57 : Nat) ({ cls := "Cyclepaint", name := "ofEntry", desc := "(II)I" } : Jvm.MethodName)) ∈ lw_g := zg_of (zin3 (List.mem_of_getElem? (i := 103) rfl)) rfl
set_option maxHeartbeats 4000000 in
set_option maxRecDepth 100000 in
theorem w_ofEntry_0 (l : Launch) (hl0 : l.stackTraces = false) (G : zG) (σ : St) (a : Nat → Nat) (o : Nat) (n0 : Int64) (sv : Value) (hd : inj a (cL σ)) (hoa : ∀ i : Nat, cL σ i → a i ≠ o) (e x : Int) (he : 0 ≤ e ∧ e ≤ 15) (hx : 0 ≤ x ∧ x ≤ 5) : Met l yL_ofEntry (wqH yL_ofEntry cL_ofEntry 5 ((Option.some Jvm.ClassFile.FieldType.int)) [((0 : Nat), (11 : Nat), (14 : Nat), (19 : Nat)), ((0 : Nat), (11 : Nat), (18 : Nat), (21 : Nat))]) (rmM 6 137 0 0) (va_Pc [.ref (a 0), .int (zI (e)), .int (zI (x)), .ref (o)] (zK G (fun H => hCyc G σ a H ∧ hOut G o n0 sv H))) (zM (fun y => cA σ a y ∨ y = o) (some (.int (zI 0))) (fun H => hCyc G σ (a) H ∧ hOut G o (eF σ e x).toInt64 sv H)) 0 0 (fun y => cA σ a y ∨ y = o) := by
  refine z_enterH (by decide +kernel) (Nat.le_of_ble_eq_true rfl) ?_
  intro p env s m below meth cod Q S htab hG hP hS ret ls hl
  have hl : lv_has ls 5 [(0, .ref (a 0)), (1, .int (zI (e))), (2, .int (zI (x))), (3, .ref (o))] := hl
  have hO := hP.2
  have hP := hP.1
  refine z_aload_n S dL_ofEntry_0 hl 3 rfl rfl ?_
  refine z_aload_n S dL_ofEntry_1 hl 0 rfl rfl ?_
  refine z_iload_n S dL_ofEntry_2 hl 1 rfl rfl ?_
  refine z_iload_n S dL_ofEntry_3 hl 2 rfl rfl ?_
  refine z_callVs S hG (c_X2_ofEntry l G σ a e x he hx) ok_X2_ofEntry hP.1 zc_X2 rfl q3_103 (hP) ⟨rfl, rfl, by decide, by decide⟩ ⟨Nat.zero_le _, Nat.zero_le _⟩ rfl (Nat.le_of_ble_eq_true rfl) hl.1 rfl dL_ofEntry_4 ?_
  refine lv_i2l S.1 S.2.1 dL_ofEntry_7 rfl ?_
  refine z_putN S hG hO zc_X3 tyX3 tyX3_ok nmX3 hS (Or.inr rfl) 0 (by decide) qt2_79 rfl rfl (tyX3_ok 0 (by decide)) rfl rfl (Nat.le_of_ble_eq_true rfl) dL_ofEntry_8 (fun H_1 L_1 hat hz oq hS => ?_)
  have hP := hCyc_keep hP (fun i hi => oq _ (hoa i hi))
  have hO := hat
  refine z_goto S 22 dL_ofEntry_11 (by decide) ?_
  refine z_iconst S dL_ofEntry_22 ?_
  exact ret _ _ _ _ _ _ _ dL_ofEntry_23 (rfl) hS (⟨hP, hO⟩) (Nat.le_of_ble_eq_true rfl) (Nat.le_of_ble_eq_true rfl)
theorem q3_110 : (Jvm.Cond.codeWith ({ cls := "CyclepaintLaw", name := "ofRange", desc := "(LCyclepaint;IILCyclepaintLaw$Out;)I" } : Jvm.MethodName) method_13_code (5 : Nat) (Option.some Jvm.ClassFile.FieldType.int) [((0 : Nat), (11 : Nat), (14 : Nat), (19 : Nat)), ((0 : Nat), (11 : Nat), (18 : Nat), (21 : Nat))]) ∈ lw_g := zg_of (zin3 (List.mem_of_getElem? (i := 110) rfl)) rfl
theorem q3_109 : (Jvm.Cond.static ({ cls := "CyclepaintLaw", name := "ofRange", desc := "(LCyclepaint;IILCyclepaintLaw$Out;)I" } : Jvm.MethodName)) ∈ lw_g := zg_of (zin3 (List.mem_of_getElem? (i := 109) rfl)) rfl
theorem okL_ofRange : zOH yL_ofRange cL_ofRange 5 ((Option.some Jvm.ClassFile.FieldType.int)) [((0 : Nat), (11 : Nat), (14 : Nat), (19 : Nat)), ((0 : Nat), (11 : Nat), (18 : Nat), (21 : Nat))] 4 := ⟨q3_110, q1_0, q3_109, by decide, by decide, by decide +kernel⟩
theorem dL_ofRange_0 : decode cL_ofRange 0 = .ok (.aload_n 3, 1) := by decide +kernel
theorem dL_ofRange_1 : decode cL_ofRange 1 = .ok (.aload_n 0, 1) := by decide +kernel
theorem dL_ofRange_2 : decode cL_ofRange 2 = .ok (.iload_n 1, 1) := by decide +kernel
theorem dL_ofRange_3 : decode cL_ofRange 3 = .ok (.iload_n 2, 1) := by decide +kernel
theorem dL_ofRange_4 : decode cL_ofRange 4 = .ok (.invokevirtual 60, 3) := by decide +kernel
theorem dL_ofRange_7 : decode cL_ofRange 7 = .ok (.i2l, 1) := by decide +kernel
theorem dL_ofRange_8 : decode cL_ofRange 8 = .ok (.putfield 13, 3) := by decide +kernel
theorem dL_ofRange_11 : decode cL_ofRange 11 = .ok (.goto 11, 3) := by decide +kernel
theorem dL_ofRange_14 : decode cL_ofRange 14 = .ok (.astore 4, 2) := by decide +kernel
theorem dL_ofRange_16 : decode cL_ofRange 16 = .ok (.iconst 1, 1) := by decide +kernel
theorem dL_ofRange_17 : decode cL_ofRange 17 = .ok (.ireturn, 1) := by decide +kernel
theorem dL_ofRange_18 : decode cL_ofRange 18 = .ok (.astore 4, 2) := by decide +kernel
theorem dL_ofRange_20 : decode cL_ofRange 20 = .ok (.iconst 2, 1) := by decide +kernel
theorem dL_ofRange_21 : decode cL_ofRange 21 = .ok (.ireturn, 1) := by decide +kernel
theorem dL_ofRange_22 : decode cL_ofRange 22 = .ok (.iconst 0, 1) := by decide +kernel
theorem dL_ofRange_23 : decode cL_ofRange 23 = .ok (.ireturn, 1) := by decide +kernel
theorem q3_111 : (Jvm.Cond.methodLink "CyclepaintLaw" (60 : Nat) ({ cls := "Cyclepaint", name := "ofRange", desc := "(II)I" } : Jvm.MethodName)) ∈ lw_g := zg_of (zin3 (List.mem_of_getElem? (i := 111) rfl)) rfl
set_option maxHeartbeats 4000000 in
set_option maxRecDepth 100000 in
theorem w_ofRange_0 (l : Launch) (hl0 : l.stackTraces = false) (G : zG) (σ : St) (a : Nat → Nat) (o : Nat) (n0 : Int64) (sv : Value) (hd : inj a (cL σ)) (hoa : ∀ i : Nat, cL σ i → a i ≠ o) (j x : Int) (hj : 0 ≤ j ∧ j < σ.rn) (hx : 0 ≤ x ∧ x ≤ 5) : Met l yL_ofRange (wqH yL_ofRange cL_ofRange 5 ((Option.some Jvm.ClassFile.FieldType.int)) [((0 : Nat), (11 : Nat), (14 : Nat), (19 : Nat)), ((0 : Nat), (11 : Nat), (18 : Nat), (21 : Nat))]) (rmM 3 67 0 0) (va_Pc [.ref (a 0), .int (zI (j)), .int (zI (x)), .ref (o)] (zK G (fun H => hCyc G σ a H ∧ hOut G o n0 sv H))) (zM (fun y => cA σ a y ∨ y = o) (some (.int (zI 0))) (fun H => hCyc G σ (a) H ∧ hOut G o (rF σ j x).toInt64 sv H)) 0 0 (fun y => cA σ a y ∨ y = o) := by
  refine z_enterH (by decide +kernel) (Nat.le_of_ble_eq_true rfl) ?_
  intro p env s m below meth cod Q S htab hG hP hS ret ls hl
  have hl : lv_has ls 5 [(0, .ref (a 0)), (1, .int (zI (j))), (2, .int (zI (x))), (3, .ref (o))] := hl
  have hO := hP.2
  have hP := hP.1
  refine z_aload_n S dL_ofRange_0 hl 3 rfl rfl ?_
  refine z_aload_n S dL_ofRange_1 hl 0 rfl rfl ?_
  refine z_iload_n S dL_ofRange_2 hl 1 rfl rfl ?_
  refine z_iload_n S dL_ofRange_3 hl 2 rfl rfl ?_
  refine z_callVs S hG (c_X2_ofRange l G σ a j x hj hx) ok_X2_ofRange hP.1 zc_X2 rfl q3_111 (hP) ⟨rfl, rfl, by decide, by decide⟩ ⟨Nat.zero_le _, Nat.zero_le _⟩ rfl (Nat.le_of_ble_eq_true rfl) hl.1 rfl dL_ofRange_4 ?_
  refine lv_i2l S.1 S.2.1 dL_ofRange_7 rfl ?_
  refine z_putN S hG hO zc_X3 tyX3 tyX3_ok nmX3 hS (Or.inr rfl) 0 (by decide) qt2_79 rfl rfl (tyX3_ok 0 (by decide)) rfl rfl (Nat.le_of_ble_eq_true rfl) dL_ofRange_8 (fun H_1 L_1 hat hz oq hS => ?_)
  have hP := hCyc_keep hP (fun i hi => oq _ (hoa i hi))
  have hO := hat
  refine z_goto S 22 dL_ofRange_11 (by decide) ?_
  refine z_iconst S dL_ofRange_22 ?_
  exact ret _ _ _ _ _ _ _ dL_ofRange_23 (rfl) hS (⟨hP, hO⟩) (Nat.le_of_ble_eq_true rfl) (Nat.le_of_ble_eq_true rfl)
theorem q3_117 : (Jvm.Cond.codeWith ({ cls := "CyclepaintLaw", name := "picture", desc := "(LCyclepaint;ILCyclepaintLaw$Out;)I" } : Jvm.MethodName) method_14_code (4 : Nat) (Option.some Jvm.ClassFile.FieldType.int) [((0 : Nat), (10 : Nat), (13 : Nat), (21 : Nat))]) ∈ lw_g := zg_of (zin3 (List.mem_of_getElem? (i := 117) rfl)) rfl
theorem q3_116 : (Jvm.Cond.static ({ cls := "CyclepaintLaw", name := "picture", desc := "(LCyclepaint;ILCyclepaintLaw$Out;)I" } : Jvm.MethodName)) ∈ lw_g := zg_of (zin3 (List.mem_of_getElem? (i := 116) rfl)) rfl
theorem okL_picture : zOH yL_picture cL_picture 4 ((Option.some Jvm.ClassFile.FieldType.int)) [((0 : Nat), (10 : Nat), (13 : Nat), (21 : Nat))] 3 := ⟨q3_117, q1_0, q3_116, by decide, by decide, by decide +kernel⟩
theorem dL_picture_0 : decode cL_picture 0 = .ok (.aload_n 2, 1) := by decide +kernel
theorem dL_picture_1 : decode cL_picture 1 = .ok (.aload_n 0, 1) := by decide +kernel
theorem dL_picture_2 : decode cL_picture 2 = .ok (.iload_n 1, 1) := by decide +kernel
theorem dL_picture_3 : decode cL_picture 3 = .ok (.invokevirtual 63, 3) := by decide +kernel
theorem dL_picture_6 : decode cL_picture 6 = .ok (.i2l, 1) := by decide +kernel
theorem dL_picture_7 : decode cL_picture 7 = .ok (.putfield 13, 3) := by decide +kernel
theorem dL_picture_10 : decode cL_picture 10 = .ok (.goto 6, 3) := by decide +kernel
theorem dL_picture_13 : decode cL_picture 13 = .ok (.astore_n 3, 1) := by decide +kernel
theorem dL_picture_14 : decode cL_picture 14 = .ok (.iconst 1, 1) := by decide +kernel
theorem dL_picture_15 : decode cL_picture 15 = .ok (.ireturn, 1) := by decide +kernel
theorem dL_picture_16 : decode cL_picture 16 = .ok (.iconst 0, 1) := by decide +kernel
theorem dL_picture_17 : decode cL_picture 17 = .ok (.ireturn, 1) := by decide +kernel
theorem q3_118 : (Jvm.Cond.methodLink "CyclepaintLaw" (63 : Nat) ({ cls := "Cyclepaint", name := "picture", desc := "(I)I" } : Jvm.MethodName)) ∈ lw_g := zg_of (zin3 (List.mem_of_getElem? (i := 118) rfl)) rfl
set_option maxHeartbeats 4000000 in
set_option maxRecDepth 100000 in
theorem w_picture_0 (l : Launch) (hl0 : l.stackTraces = false) (G : zG) (σ : St) (a : Nat → Nat) (o : Nat) (n0 : Int64) (sv : Value) (hd : inj a (cL σ)) (hoa : ∀ i : Nat, cL σ i → a i ≠ o) (x : Int) (hx : 0 ≤ x ∧ x ≤ 11) : Met l yL_picture (wqH yL_picture cL_picture 4 ((Option.some Jvm.ClassFile.FieldType.int)) [((0 : Nat), (10 : Nat), (13 : Nat), (21 : Nat))]) (rmM 7 157 0 0) (va_Pc [.ref (a 0), .int (zI (x)), .ref (o)] (zK G (fun H => hCyc G σ a H ∧ hOut G o n0 sv H))) (zM (fun y => cA σ a y ∨ y = o) (some (.int (zI 0))) (fun H => hCyc G σ (a) H ∧ hOut G o (pF σ x).toInt64 sv H)) 0 0 (fun y => cA σ a y ∨ y = o) := by
  refine z_enterH (by decide +kernel) (Nat.le_of_ble_eq_true rfl) ?_
  intro p env s m below meth cod Q S htab hG hP hS ret ls hl
  have hl : lv_has ls 4 [(0, .ref (a 0)), (1, .int (zI (x))), (2, .ref (o))] := hl
  have hO := hP.2
  have hP := hP.1
  refine z_aload_n S dL_picture_0 hl 2 rfl rfl ?_
  refine z_aload_n S dL_picture_1 hl 0 rfl rfl ?_
  refine z_iload_n S dL_picture_2 hl 1 rfl rfl ?_
  refine z_callVs S hG (c_X2_picture l G σ a x hx) ok_X2_picture hP.1 zc_X2 rfl q3_118 (hP) ⟨rfl, rfl, by decide, by decide⟩ ⟨Nat.zero_le _, Nat.zero_le _⟩ rfl (Nat.le_of_ble_eq_true rfl) hl.1 rfl dL_picture_3 ?_
  refine lv_i2l S.1 S.2.1 dL_picture_6 rfl ?_
  refine z_putN S hG hO zc_X3 tyX3 tyX3_ok nmX3 hS (Or.inr rfl) 0 (by decide) qt2_79 rfl rfl (tyX3_ok 0 (by decide)) rfl rfl (Nat.le_of_ble_eq_true rfl) dL_picture_7 (fun H_1 L_1 hat hz oq hS => ?_)
  have hP := hCyc_keep hP (fun i hi => oq _ (hoa i hi))
  have hO := hat
  refine z_goto S 16 dL_picture_10 (by decide) ?_
  refine z_iconst S dL_picture_16 ?_
  exact ret _ _ _ _ _ _ _ dL_picture_17 (rfl) hS (⟨hP, hO⟩) (Nat.le_of_ble_eq_true rfl) (Nat.le_of_ble_eq_true rfl)
theorem q4_156 : (Jvm.Cond.codeWith ({ cls := "CyclepaintLaw", name := "at", desc := "(LCyclepaint;IILCyclepaintLaw$Out;)I" } : Jvm.MethodName) method_16_code (5 : Nat) (Option.some Jvm.ClassFile.FieldType.int) [((0 : Nat), (11 : Nat), (14 : Nat), (19 : Nat)), ((0 : Nat), (11 : Nat), (18 : Nat), (21 : Nat))]) ∈ lw_g := zg_of (zin4 (List.mem_of_getElem? (i := 156) rfl)) rfl
theorem q4_155 : (Jvm.Cond.static ({ cls := "CyclepaintLaw", name := "at", desc := "(LCyclepaint;IILCyclepaintLaw$Out;)I" } : Jvm.MethodName)) ∈ lw_g := zg_of (zin4 (List.mem_of_getElem? (i := 155) rfl)) rfl
theorem okL_at : zOH yL_at cL_at 5 ((Option.some Jvm.ClassFile.FieldType.int)) [((0 : Nat), (11 : Nat), (14 : Nat), (19 : Nat)), ((0 : Nat), (11 : Nat), (18 : Nat), (21 : Nat))] 4 := ⟨q4_156, q1_0, q4_155, by decide, by decide, by decide +kernel⟩
theorem dL_at_0 : decode cL_at 0 = .ok (.aload_n 3, 1) := by decide +kernel
theorem dL_at_1 : decode cL_at 1 = .ok (.aload_n 0, 1) := by decide +kernel
theorem dL_at_2 : decode cL_at 2 = .ok (.iload_n 1, 1) := by decide +kernel
theorem dL_at_3 : decode cL_at 3 = .ok (.iload_n 2, 1) := by decide +kernel
theorem dL_at_4 : decode cL_at 4 = .ok (.invokevirtual 74, 3) := by decide +kernel
theorem dL_at_7 : decode cL_at 7 = .ok (.i2l, 1) := by decide +kernel
theorem dL_at_8 : decode cL_at 8 = .ok (.putfield 13, 3) := by decide +kernel
theorem dL_at_11 : decode cL_at 11 = .ok (.goto 11, 3) := by decide +kernel
theorem dL_at_14 : decode cL_at 14 = .ok (.astore 4, 2) := by decide +kernel
theorem dL_at_16 : decode cL_at 16 = .ok (.iconst 1, 1) := by decide +kernel
theorem dL_at_17 : decode cL_at 17 = .ok (.ireturn, 1) := by decide +kernel
theorem dL_at_18 : decode cL_at 18 = .ok (.astore 4, 2) := by decide +kernel
theorem dL_at_20 : decode cL_at 20 = .ok (.iconst 2, 1) := by decide +kernel
theorem dL_at_21 : decode cL_at 21 = .ok (.ireturn, 1) := by decide +kernel
theorem dL_at_22 : decode cL_at 22 = .ok (.iconst 0, 1) := by decide +kernel
theorem dL_at_23 : decode cL_at 23 = .ok (.ireturn, 1) := by decide +kernel
theorem q4_157 : (Jvm.Cond.methodLink "CyclepaintLaw" (74 : Nat) ({ cls := "Cyclepaint", name := "at", desc := "(II)I" } : Jvm.MethodName)) ∈ lw_g := zg_of (zin4 (List.mem_of_getElem? (i := 157) rfl)) rfl
set_option maxHeartbeats 4000000 in
set_option maxRecDepth 100000 in
theorem w_at_0 (l : Launch) (hl0 : l.stackTraces = false) (G : zG) (σ : St) (a : Nat → Nat) (o : Nat) (n0 : Int64) (sv : Value) (hd : inj a (cL σ)) (hoa : ∀ i : Nat, cL σ i → a i ≠ o) (e x : Int) (he : 0 ≤ e ∧ e ≤ 15) (hx : 0 ≤ x ∧ x ≤ 99999) : Met l yL_at (wqH yL_at cL_at 5 ((Option.some Jvm.ClassFile.FieldType.int)) [((0 : Nat), (11 : Nat), (14 : Nat), (19 : Nat)), ((0 : Nat), (11 : Nat), (18 : Nat), (21 : Nat))]) (rmM 3 68 0 0) (va_Pc [.ref (a 0), .int (zI (e)), .int (zI (x)), .ref (o)] (zK G (fun H => hCyc G σ a H ∧ hOut G o n0 sv H))) (zM (fun y => cA σ a y ∨ y = o) (some (.int (zI 0))) (fun H => hCyc G σ (a) H ∧ hOut G o (shw σ e x).toInt64 sv H)) 0 0 (fun y => cA σ a y ∨ y = o) := by
  refine z_enterH (by decide +kernel) (Nat.le_of_ble_eq_true rfl) ?_
  intro p env s m below meth cod Q S htab hG hP hS ret ls hl
  have hl : lv_has ls 5 [(0, .ref (a 0)), (1, .int (zI (e))), (2, .int (zI (x))), (3, .ref (o))] := hl
  have hO := hP.2
  have hP := hP.1
  refine z_aload_n S dL_at_0 hl 3 rfl rfl ?_
  refine z_aload_n S dL_at_1 hl 0 rfl rfl ?_
  refine z_iload_n S dL_at_2 hl 1 rfl rfl ?_
  refine z_iload_n S dL_at_3 hl 2 rfl rfl ?_
  refine z_callVs S hG (c_X2_at l G σ a e x he hx) ok_X2_at hP.1 zc_X2 rfl q4_157 (hP) ⟨rfl, rfl, by decide, by decide⟩ ⟨Nat.zero_le _, Nat.zero_le _⟩ rfl (Nat.le_of_ble_eq_true rfl) hl.1 rfl dL_at_4 ?_
  refine lv_i2l S.1 S.2.1 dL_at_7 rfl ?_
  refine z_putN S hG hO zc_X3 tyX3 tyX3_ok nmX3 hS (Or.inr rfl) 0 (by decide) qt2_79 rfl rfl (tyX3_ok 0 (by decide)) rfl rfl (Nat.le_of_ble_eq_true rfl) dL_at_8 (fun H_1 L_1 hat hz oq hS => ?_)
  have hP := hCyc_keep hP (fun i hi => oq _ (hoa i hi))
  have hO := hat
  refine z_goto S 22 dL_at_11 (by decide) ?_
  refine z_iconst S dL_at_22 ?_
  exact ret _ _ _ _ _ _ _ dL_at_23 (rfl) hS (⟨hP, hO⟩) (Nat.le_of_ble_eq_true rfl) (Nat.le_of_ble_eq_true rfl)
theorem q4_163 : (Jvm.Cond.codeWith ({ cls := "CyclepaintLaw", name := "find", desc := "(LCyclepaint;IIILCyclepaintLaw$Out;)I" } : Jvm.MethodName) method_17_code (6 : Nat) (Option.some Jvm.ClassFile.FieldType.int) [((0 : Nat), (13 : Nat), (16 : Nat), (19 : Nat)), ((0 : Nat), (13 : Nat), (20 : Nat), (21 : Nat))]) ∈ lw_g := zg_of (zin4 (List.mem_of_getElem? (i := 163) rfl)) rfl
theorem q4_162 : (Jvm.Cond.static ({ cls := "CyclepaintLaw", name := "find", desc := "(LCyclepaint;IIILCyclepaintLaw$Out;)I" } : Jvm.MethodName)) ∈ lw_g := zg_of (zin4 (List.mem_of_getElem? (i := 162) rfl)) rfl
theorem okL_find : zOH yL_find cL_find 6 ((Option.some Jvm.ClassFile.FieldType.int)) [((0 : Nat), (13 : Nat), (16 : Nat), (19 : Nat)), ((0 : Nat), (13 : Nat), (20 : Nat), (21 : Nat))] 5 := ⟨q4_163, q1_0, q4_162, by decide, by decide, by decide +kernel⟩
theorem dL_find_0 : decode cL_find 0 = .ok (.aload 4, 2) := by decide +kernel
theorem dL_find_2 : decode cL_find 2 = .ok (.aload_n 0, 1) := by decide +kernel
theorem dL_find_3 : decode cL_find 3 = .ok (.iload_n 1, 1) := by decide +kernel
theorem dL_find_4 : decode cL_find 4 = .ok (.iload_n 2, 1) := by decide +kernel
theorem dL_find_5 : decode cL_find 5 = .ok (.iload_n 3, 1) := by decide +kernel
theorem dL_find_6 : decode cL_find 6 = .ok (.invokevirtual 77, 3) := by decide +kernel
theorem dL_find_9 : decode cL_find 9 = .ok (.i2l, 1) := by decide +kernel
theorem dL_find_10 : decode cL_find 10 = .ok (.putfield 13, 3) := by decide +kernel
theorem dL_find_13 : decode cL_find 13 = .ok (.goto 11, 3) := by decide +kernel
theorem dL_find_16 : decode cL_find 16 = .ok (.astore 5, 2) := by decide +kernel
theorem dL_find_18 : decode cL_find 18 = .ok (.iconst 1, 1) := by decide +kernel
theorem dL_find_19 : decode cL_find 19 = .ok (.ireturn, 1) := by decide +kernel
theorem dL_find_20 : decode cL_find 20 = .ok (.astore 5, 2) := by decide +kernel
theorem dL_find_22 : decode cL_find 22 = .ok (.iconst 2, 1) := by decide +kernel
theorem dL_find_23 : decode cL_find 23 = .ok (.ireturn, 1) := by decide +kernel
theorem dL_find_24 : decode cL_find 24 = .ok (.iconst 0, 1) := by decide +kernel
theorem dL_find_25 : decode cL_find 25 = .ok (.ireturn, 1) := by decide +kernel
theorem q4_164 : (Jvm.Cond.methodLink "CyclepaintLaw" (77 : Nat) ({ cls := "Cyclepaint", name := "find", desc := "(III)I" } : Jvm.MethodName)) ∈ lw_g := zg_of (zin4 (List.mem_of_getElem? (i := 164) rfl)) rfl
set_option maxHeartbeats 4000000 in
set_option maxRecDepth 100000 in
theorem w_find_0 (l : Launch) (hl0 : l.stackTraces = false) (G : zG) (σ : St) (a : Nat → Nat) (o : Nat) (n0 : Int64) (sv : Value) (hd : inj a (cL σ)) (hoa : ∀ i : Nat, cL σ i → a i ≠ o) (e x f : Int) (he : 0 ≤ e ∧ e ≤ 15) (hx : 0 ≤ x ∧ x ≤ 63) (hf : 0 ≤ f ∧ f ≤ 99999) : Met l yL_find (wqH yL_find cL_find 6 ((Option.some Jvm.ClassFile.FieldType.int)) [((0 : Nat), (13 : Nat), (16 : Nat), (19 : Nat)), ((0 : Nat), (13 : Nat), (20 : Nat), (21 : Nat))]) (rmM 4 94 0 0) (va_Pc [.ref (a 0), .int (zI (e)), .int (zI (x)), .int (zI (f)), .ref (o)] (zK G (fun H => hCyc G σ a H ∧ hOut G o n0 sv H))) (zM (fun y => cA σ a y ∨ y = o) (some (.int (zI 0))) (fun H => hCyc G σ (a) H ∧ hOut G o (zI (fnd σ e (zI x) f)).toInt64 sv H)) 0 0 (fun y => cA σ a y ∨ y = o) := by
  refine z_enterH (by decide +kernel) (Nat.le_of_ble_eq_true rfl) ?_
  intro p env s m below meth cod Q S htab hG hP hS ret ls hl
  have hl : lv_has ls 6 [(0, .ref (a 0)), (1, .int (zI (e))), (2, .int (zI (x))), (3, .int (zI (f))), (4, .ref (o))] := hl
  have hO := hP.2
  have hP := hP.1
  refine z_aload S dL_find_0 hl 4 rfl ?_
  refine z_aload_n S dL_find_2 hl 0 rfl rfl ?_
  refine z_iload_n S dL_find_3 hl 1 rfl rfl ?_
  refine z_iload_n S dL_find_4 hl 2 rfl rfl ?_
  refine z_iload_n S dL_find_5 hl 3 rfl rfl ?_
  refine z_callVs S hG (c_X2_find l G σ a e x f he hx hf) ok_X2_find hP.1 zc_X2 rfl q4_164 (hP) ⟨rfl, rfl, by decide, by decide⟩ ⟨Nat.zero_le _, Nat.zero_le _⟩ rfl (Nat.le_of_ble_eq_true rfl) hl.1 rfl dL_find_6 ?_
  refine lv_i2l S.1 S.2.1 dL_find_9 rfl ?_
  refine z_putN S hG hO zc_X3 tyX3 tyX3_ok nmX3 hS (Or.inr rfl) 0 (by decide) qt2_79 rfl rfl (tyX3_ok 0 (by decide)) rfl rfl (Nat.le_of_ble_eq_true rfl) dL_find_10 (fun H_1 L_1 hat hz oq hS => ?_)
  have hP := hCyc_keep hP (fun i hi => oq _ (hoa i hi))
  have hO := hat
  refine z_goto S 24 dL_find_13 (by decide) ?_
  refine z_iconst S dL_find_24 ?_
  exact ret _ _ _ _ _ _ _ dL_find_25 (rfl) hS (⟨hP, hO⟩) (Nat.le_of_ble_eq_true rfl) (Nat.le_of_ble_eq_true rfl)
theorem q4_171 : (Jvm.Cond.codeWith ({ cls := "CyclepaintLaw", name := "meet", desc := "(LCyclepaint;IIIILCyclepaintLaw$Out;)I" } : Jvm.MethodName) method_18_code (7 : Nat) (Option.some Jvm.ClassFile.FieldType.int) [((0 : Nat), (15 : Nat), (18 : Nat), (19 : Nat)), ((0 : Nat), (15 : Nat), (22 : Nat), (21 : Nat))]) ∈ lw_g := zg_of (zin4 (List.mem_of_getElem? (i := 171) rfl)) rfl
theorem q4_170 : (Jvm.Cond.static ({ cls := "CyclepaintLaw", name := "meet", desc := "(LCyclepaint;IIIILCyclepaintLaw$Out;)I" } : Jvm.MethodName)) ∈ lw_g := zg_of (zin4 (List.mem_of_getElem? (i := 170) rfl)) rfl
theorem okL_meet : zOH yL_meet cL_meet 7 ((Option.some Jvm.ClassFile.FieldType.int)) [((0 : Nat), (15 : Nat), (18 : Nat), (19 : Nat)), ((0 : Nat), (15 : Nat), (22 : Nat), (21 : Nat))] 6 := ⟨q4_171, q1_0, q4_170, by decide, by decide, by decide +kernel⟩
theorem dL_meet_0 : decode cL_meet 0 = .ok (.aload 5, 2) := by decide +kernel
theorem dL_meet_2 : decode cL_meet 2 = .ok (.aload_n 0, 1) := by decide +kernel
theorem dL_meet_3 : decode cL_meet 3 = .ok (.iload_n 1, 1) := by decide +kernel
theorem dL_meet_4 : decode cL_meet 4 = .ok (.iload_n 2, 1) := by decide +kernel
theorem dL_meet_5 : decode cL_meet 5 = .ok (.iload_n 3, 1) := by decide +kernel
theorem dL_meet_6 : decode cL_meet 6 = .ok (.iload 4, 2) := by decide +kernel
theorem dL_meet_8 : decode cL_meet 8 = .ok (.invokevirtual 80, 3) := by decide +kernel
theorem dL_meet_11 : decode cL_meet 11 = .ok (.i2l, 1) := by decide +kernel
theorem dL_meet_12 : decode cL_meet 12 = .ok (.putfield 13, 3) := by decide +kernel
theorem dL_meet_15 : decode cL_meet 15 = .ok (.goto 11, 3) := by decide +kernel
theorem dL_meet_18 : decode cL_meet 18 = .ok (.astore 6, 2) := by decide +kernel
theorem dL_meet_20 : decode cL_meet 20 = .ok (.iconst 1, 1) := by decide +kernel
theorem dL_meet_21 : decode cL_meet 21 = .ok (.ireturn, 1) := by decide +kernel
theorem dL_meet_22 : decode cL_meet 22 = .ok (.astore 6, 2) := by decide +kernel
theorem dL_meet_24 : decode cL_meet 24 = .ok (.iconst 2, 1) := by decide +kernel
theorem dL_meet_25 : decode cL_meet 25 = .ok (.ireturn, 1) := by decide +kernel
theorem dL_meet_26 : decode cL_meet 26 = .ok (.iconst 0, 1) := by decide +kernel
theorem dL_meet_27 : decode cL_meet 27 = .ok (.ireturn, 1) := by decide +kernel
theorem q4_172 : (Jvm.Cond.methodLink "CyclepaintLaw" (80 : Nat) ({ cls := "Cyclepaint", name := "meet", desc := "(IIII)I" } : Jvm.MethodName)) ∈ lw_g := zg_of (zin4 (List.mem_of_getElem? (i := 172) rfl)) rfl
set_option maxHeartbeats 4000000 in
set_option maxRecDepth 100000 in
theorem w_meet_0 (l : Launch) (hl0 : l.stackTraces = false) (G : zG) (σ : St) (a : Nat → Nat) (o : Nat) (n0 : Int64) (sv : Value) (hd : inj a (cL σ)) (hoa : ∀ i : Nat, cL σ i → a i ≠ o) (e x f y : Int) (he : 0 ≤ e ∧ e ≤ 15) (hx : 0 ≤ x ∧ x ≤ 63) (hf : 0 ≤ f ∧ f ≤ 15) (hy : 0 ≤ y ∧ y ≤ 63) : Met l yL_meet (wqH yL_meet cL_meet 7 ((Option.some Jvm.ClassFile.FieldType.int)) [((0 : Nat), (15 : Nat), (18 : Nat), (19 : Nat)), ((0 : Nat), (15 : Nat), (22 : Nat), (21 : Nat))]) (rmM 4 98 0 0) (va_Pc [.ref (a 0), .int (zI (e)), .int (zI (x)), .int (zI (f)), .int (zI (y)), .ref (o)] (zK G (fun H => hCyc G σ a H ∧ hOut G o n0 sv H))) (zM (fun y => cA σ a y ∨ y = o) (some (.int (zI 0))) (fun H => hCyc G σ (a) H ∧ hOut G o (zI (mt σ e (zI x) f (zI y) σ.tk)).toInt64 sv H)) 0 0 (fun y => cA σ a y ∨ y = o) := by
  refine z_enterH (by decide +kernel) (Nat.le_of_ble_eq_true rfl) ?_
  intro p env s m below meth cod Q S htab hG hP hS ret ls hl
  have hl : lv_has ls 7 [(0, .ref (a 0)), (1, .int (zI (e))), (2, .int (zI (x))), (3, .int (zI (f))), (4, .int (zI (y))), (5, .ref (o))] := hl
  have hO := hP.2
  have hP := hP.1
  refine z_aload S dL_meet_0 hl 5 rfl ?_
  refine z_aload_n S dL_meet_2 hl 0 rfl rfl ?_
  refine z_iload_n S dL_meet_3 hl 1 rfl rfl ?_
  refine z_iload_n S dL_meet_4 hl 2 rfl rfl ?_
  refine z_iload_n S dL_meet_5 hl 3 rfl rfl ?_
  refine z_iload S dL_meet_6 hl 4 rfl ?_
  refine z_callVs S hG (c_X2_meet l G σ a e x f y he hx hf hy) ok_X2_meet hP.1 zc_X2 rfl q4_172 (hP) ⟨rfl, rfl, by decide, by decide⟩ ⟨Nat.zero_le _, Nat.zero_le _⟩ rfl (Nat.le_of_ble_eq_true rfl) hl.1 rfl dL_meet_8 ?_
  refine lv_i2l S.1 S.2.1 dL_meet_11 rfl ?_
  refine z_putN S hG hO zc_X3 tyX3 tyX3_ok nmX3 hS (Or.inr rfl) 0 (by decide) qt2_79 rfl rfl (tyX3_ok 0 (by decide)) rfl rfl (Nat.le_of_ble_eq_true rfl) dL_meet_12 (fun H_1 L_1 hat hz oq hS => ?_)
  have hP := hCyc_keep hP (fun i hi => oq _ (hoa i hi))
  have hO := hat
  refine z_goto S 26 dL_meet_15 (by decide) ?_
  refine z_iconst S dL_meet_26 ?_
  exact ret _ _ _ _ _ _ _ dL_meet_27 (rfl) hS (⟨hP, hO⟩) (Nat.le_of_ble_eq_true rfl) (Nat.le_of_ble_eq_true rfl)
theorem q4_178 : (Jvm.Cond.codeWith ({ cls := "CyclepaintLaw", name := "when", desc := "(LCyclepaint;ILCyclepaintLaw$Out;)I" } : Jvm.MethodName) method_19_code (4 : Nat) (Option.some Jvm.ClassFile.FieldType.int) [((0 : Nat), (10 : Nat), (13 : Nat), (19 : Nat))]) ∈ lw_g := zg_of (zin4 (List.mem_of_getElem? (i := 178) rfl)) rfl
theorem q4_177 : (Jvm.Cond.static ({ cls := "CyclepaintLaw", name := "when", desc := "(LCyclepaint;ILCyclepaintLaw$Out;)I" } : Jvm.MethodName)) ∈ lw_g := zg_of (zin4 (List.mem_of_getElem? (i := 177) rfl)) rfl
theorem okL_when : zOH yL_when cL_when 4 ((Option.some Jvm.ClassFile.FieldType.int)) [((0 : Nat), (10 : Nat), (13 : Nat), (19 : Nat))] 3 := ⟨q4_178, q1_0, q4_177, by decide, by decide, by decide +kernel⟩
theorem dL_when_0 : decode cL_when 0 = .ok (.aload_n 2, 1) := by decide +kernel
theorem dL_when_1 : decode cL_when 1 = .ok (.aload_n 0, 1) := by decide +kernel
theorem dL_when_2 : decode cL_when 2 = .ok (.iload_n 1, 1) := by decide +kernel
theorem dL_when_3 : decode cL_when 3 = .ok (.invokevirtual 83, 3) := by decide +kernel
theorem dL_when_6 : decode cL_when 6 = .ok (.i2l, 1) := by decide +kernel
theorem dL_when_7 : decode cL_when 7 = .ok (.putfield 13, 3) := by decide +kernel
theorem dL_when_10 : decode cL_when 10 = .ok (.goto 6, 3) := by decide +kernel
theorem dL_when_13 : decode cL_when 13 = .ok (.astore_n 3, 1) := by decide +kernel
theorem dL_when_14 : decode cL_when 14 = .ok (.iconst 1, 1) := by decide +kernel
theorem dL_when_15 : decode cL_when 15 = .ok (.ireturn, 1) := by decide +kernel
theorem dL_when_16 : decode cL_when 16 = .ok (.iconst 0, 1) := by decide +kernel
theorem dL_when_17 : decode cL_when 17 = .ok (.ireturn, 1) := by decide +kernel
theorem q4_179 : (Jvm.Cond.methodLink "CyclepaintLaw" (83 : Nat) ({ cls := "Cyclepaint", name := "when", desc := "(I)I" } : Jvm.MethodName)) ∈ lw_g := zg_of (zin4 (List.mem_of_getElem? (i := 179) rfl)) rfl
set_option maxHeartbeats 4000000 in
set_option maxRecDepth 100000 in
theorem w_when_0 (l : Launch) (hl0 : l.stackTraces = false) (G : zG) (σ : St) (a : Nat → Nat) (o : Nat) (n0 : Int64) (sv : Value) (hd : inj a (cL σ)) (hoa : ∀ i : Nat, cL σ i → a i ≠ o) (n : Int) (hn : 0 ≤ n ∧ n < σ.kn) : Met l yL_when (wqH yL_when cL_when 4 ((Option.some Jvm.ClassFile.FieldType.int)) [((0 : Nat), (10 : Nat), (13 : Nat), (19 : Nat))]) (rmM 5 113 0 0) (va_Pc [.ref (a 0), .int (zI (n)), .ref (o)] (zK G (fun H => hCyc G σ a H ∧ hOut G o n0 sv H))) (zM (fun y => cA σ a y ∨ y = o) (some (.int (zI 0))) (fun H => hCyc G σ (a) H ∧ hOut G o (zI (whn σ n)).toInt64 sv H)) 0 0 (fun y => cA σ a y ∨ y = o) := by
  refine z_enterH (by decide +kernel) (Nat.le_of_ble_eq_true rfl) ?_
  intro p env s m below meth cod Q S htab hG hP hS ret ls hl
  have hl : lv_has ls 4 [(0, .ref (a 0)), (1, .int (zI (n))), (2, .ref (o))] := hl
  have hO := hP.2
  have hP := hP.1
  refine z_aload_n S dL_when_0 hl 2 rfl rfl ?_
  refine z_aload_n S dL_when_1 hl 0 rfl rfl ?_
  refine z_iload_n S dL_when_2 hl 1 rfl rfl ?_
  refine z_callVs S hG (c_X2_when l G σ a n hn) ok_X2_when hP.1 zc_X2 rfl q4_179 (hP) ⟨rfl, rfl, by decide, by decide⟩ ⟨Nat.zero_le _, Nat.zero_le _⟩ rfl (Nat.le_of_ble_eq_true rfl) hl.1 rfl dL_when_3 ?_
  refine lv_i2l S.1 S.2.1 dL_when_6 rfl ?_
  refine z_putN S hG hO zc_X3 tyX3 tyX3_ok nmX3 hS (Or.inr rfl) 0 (by decide) qt2_79 rfl rfl (tyX3_ok 0 (by decide)) rfl rfl (Nat.le_of_ble_eq_true rfl) dL_when_7 (fun H_1 L_1 hat hz oq hS => ?_)
  have hP := hCyc_keep hP (fun i hi => oq _ (hoa i hi))
  have hO := hat
  refine z_goto S 16 dL_when_10 (by decide) ?_
  refine z_iconst S dL_when_16 ?_
  exact ret _ _ _ _ _ _ _ dL_when_17 (rfl) hS (⟨hP, hO⟩) (Nat.le_of_ble_eq_true rfl) (Nat.le_of_ble_eq_true rfl)
theorem q4_186 : (Jvm.Cond.codeWith ({ cls := "CyclepaintLaw", name := "lightest", desc := "(LCyclepaint;ILCyclepaintLaw$Out;)I" } : Jvm.MethodName) method_20_code (4 : Nat) (Option.some Jvm.ClassFile.FieldType.int) [((0 : Nat), (10 : Nat), (13 : Nat), (21 : Nat))]) ∈ lw_g := zg_of (zin4 (List.mem_of_getElem? (i := 186) rfl)) rfl
theorem q4_185 : (Jvm.Cond.static ({ cls := "CyclepaintLaw", name := "lightest", desc := "(LCyclepaint;ILCyclepaintLaw$Out;)I" } : Jvm.MethodName)) ∈ lw_g := zg_of (zin4 (List.mem_of_getElem? (i := 185) rfl)) rfl
theorem okL_lightest : zOH yL_lightest cL_lightest 4 ((Option.some Jvm.ClassFile.FieldType.int)) [((0 : Nat), (10 : Nat), (13 : Nat), (21 : Nat))] 3 := ⟨q4_186, q1_0, q4_185, by decide, by decide, by decide +kernel⟩
theorem dL_lightest_0 : decode cL_lightest 0 = .ok (.aload_n 2, 1) := by decide +kernel
theorem dL_lightest_1 : decode cL_lightest 1 = .ok (.aload_n 0, 1) := by decide +kernel
theorem dL_lightest_2 : decode cL_lightest 2 = .ok (.iload_n 1, 1) := by decide +kernel
theorem dL_lightest_3 : decode cL_lightest 3 = .ok (.invokevirtual 86, 3) := by decide +kernel
theorem dL_lightest_6 : decode cL_lightest 6 = .ok (.i2l, 1) := by decide +kernel
theorem dL_lightest_7 : decode cL_lightest 7 = .ok (.putfield 13, 3) := by decide +kernel
theorem dL_lightest_10 : decode cL_lightest 10 = .ok (.goto 6, 3) := by decide +kernel
theorem dL_lightest_13 : decode cL_lightest 13 = .ok (.astore_n 3, 1) := by decide +kernel
theorem dL_lightest_14 : decode cL_lightest 14 = .ok (.iconst 1, 1) := by decide +kernel
theorem dL_lightest_15 : decode cL_lightest 15 = .ok (.ireturn, 1) := by decide +kernel
theorem dL_lightest_16 : decode cL_lightest 16 = .ok (.iconst 0, 1) := by decide +kernel
theorem dL_lightest_17 : decode cL_lightest 17 = .ok (.ireturn, 1) := by decide +kernel
theorem q4_187 : (Jvm.Cond.methodLink "CyclepaintLaw" (86 : Nat) ({ cls := "Cyclepaint", name := "lightest", desc := "(I)I" } : Jvm.MethodName)) ∈ lw_g := zg_of (zin4 (List.mem_of_getElem? (i := 187) rfl)) rfl
set_option maxHeartbeats 4000000 in
set_option maxRecDepth 100000 in
theorem w_lightest_0 (l : Launch) (hl0 : l.stackTraces = false) (G : zG) (σ : St) (a : Nat → Nat) (o : Nat) (n0 : Int64) (sv : Value) (hd : inj a (cL σ)) (hoa : ∀ i : Nat, cL σ i → a i ≠ o) (n : Int) (hn : 1 ≤ n ∧ n ≤ 200) : Met l yL_lightest (wqH yL_lightest cL_lightest 4 ((Option.some Jvm.ClassFile.FieldType.int)) [((0 : Nat), (10 : Nat), (13 : Nat), (21 : Nat))]) (rmM 5 115 0 0) (va_Pc [.ref (a 0), .int (zI (n)), .ref (o)] (zK G (fun H => hCyc G σ a H ∧ hOut G o n0 sv H))) (zM (fun y => cA σ a y ∨ y = o) (some (.int (zI 0))) (fun H => hCyc G σ (a) H ∧ hOut G o (zI (ltC σ n)).toInt64 sv H)) 0 0 (fun y => cA σ a y ∨ y = o) := by
  refine z_enterH (by decide +kernel) (Nat.le_of_ble_eq_true rfl) ?_
  intro p env s m below meth cod Q S htab hG hP hS ret ls hl
  have hl : lv_has ls 4 [(0, .ref (a 0)), (1, .int (zI (n))), (2, .ref (o))] := hl
  have hO := hP.2
  have hP := hP.1
  refine z_aload_n S dL_lightest_0 hl 2 rfl rfl ?_
  refine z_aload_n S dL_lightest_1 hl 0 rfl rfl ?_
  refine z_iload_n S dL_lightest_2 hl 1 rfl rfl ?_
  refine z_callVs S hG (c_X2_lightest l G σ a n hn) ok_X2_lightest hP.1 zc_X2 rfl q4_187 (hP) ⟨rfl, rfl, by decide, by decide⟩ ⟨Nat.zero_le _, Nat.zero_le _⟩ rfl (Nat.le_of_ble_eq_true rfl) hl.1 rfl dL_lightest_3 ?_
  refine lv_i2l S.1 S.2.1 dL_lightest_6 rfl ?_
  refine z_putN S hG hO zc_X3 tyX3 tyX3_ok nmX3 hS (Or.inr rfl) 0 (by decide) qt2_79 rfl rfl (tyX3_ok 0 (by decide)) rfl rfl (Nat.le_of_ble_eq_true rfl) dL_lightest_7 (fun H_1 L_1 hat hz oq hS => ?_)
  have hP := hCyc_keep hP (fun i hi => oq _ (hoa i hi))
  have hO := hat
  refine z_goto S 16 dL_lightest_10 (by decide) ?_
  refine z_iconst S dL_lightest_16 ?_
  exact ret _ _ _ _ _ _ _ dL_lightest_17 (rfl) hS (⟨hP, hO⟩) (Nat.le_of_ble_eq_true rfl) (Nat.le_of_ble_eq_true rfl)
theorem q2_89 : (Jvm.Cond.classLink "CyclepaintLaw" (19 : Nat) "java/lang/IndexOutOfBoundsException") ∈ lw_g := zg_of (zin2 (List.mem_of_getElem? (i := 89) rfl)) rfl
theorem qt2_97 : (Jvm.Cond.castable "java/lang/IndexOutOfBoundsException" "java/lang/IndexOutOfBoundsException") ∈ lw_tbl := zin2 (List.mem_of_getElem? (i := 97) rfl)
set_option maxHeartbeats 4000000 in
set_option maxRecDepth 100000 in
theorem w_colour_1 (l : Launch) (hl0 : l.stackTraces = false) (G : zG) (σ : St) (a : Nat → Nat) (o : Nat) (n0 : Int64) (sv : Value) (e x : Int) (re : rg e) (rx : rg x) (h1 : ¬ (0 ≤ e ∧ e ≤ 15)) : Met l yL_colour (wqH yL_colour cL_colour 5 ((Option.some Jvm.ClassFile.FieldType.int)) [((0 : Nat), (11 : Nat), (14 : Nat), (19 : Nat)), ((0 : Nat), (11 : Nat), (18 : Nat), (21 : Nat))]) (rmM 7 113 1 6) (va_Pc [.ref (a 0), .int (zI (e)), .int (zI (x)), .ref (o)] (zK G (fun H => hCyc G σ a H ∧ zXp G H))) (zM (fun _ => False) (some (.int (zI 1))) (fun _ => True)) 1 6 (fun _ => False) := by
  refine z_enterH (by decide +kernel) (Nat.le_of_ble_eq_true rfl) ?_
  intro p env s m below meth cod Q S htab hG hP hS ret ls hl
  have hl : lv_has ls 5 [(0, .ref (a 0)), (1, .int (zI (e))), (2, .int (zI (x))), (3, .ref (o))] := hl
  refine z_aload_n S dL_colour_0 hl 3 rfl rfl ?_
  refine z_aload_n S dL_colour_1 hl 0 rfl rfl ?_
  refine z_iload_n S dL_colour_2 hl 1 rfl rfl ?_
  refine z_iload_n S dL_colour_3 hl 2 rfl rfl ?_
  refine z_callX S hG hS (x_colour_I l hl0 G σ a e x re rx h1) ok_X2_colour hP.1.1 zc_X2 rfl q2_91 hP ⟨rfl, rfl, by decide, by decide⟩ ⟨Nat.le_of_ble_eq_true rfl, Nat.le_of_ble_eq_true rfl⟩ rfl (Nat.le_of_ble_eq_true rfl) hl.1 rfl dL_colour_4 (fun q9 ce H_1 hz oq hS hce hcv hcl => ?_)
  refine z_catch S hG htab [] (⟨0, 11, 14, 19⟩ : ExceptionTableEntry) [(⟨0, 11, 18, 21⟩ : ExceptionTableEntry)] rfl (fun z hz => nomatch hz) (by decide) (by decide) q2_89 qt2_97 hce hcv hcl ?_
  refine z_astore (lv' := [(4, .ref (q9)), (0, .ref (a 0)), (1, .int (zI (e))), (2, .int (zI (x))), (3, .ref (o))]) S dL_colour_14 hl (by decide) rfl (fun ls hl => ?_)
  refine z_iconst S dL_colour_16 ?_
  exact ret _ _ _ _ _ _ _ dL_colour_17 (rfl) hS (trivial) (Nat.le_of_ble_eq_true rfl) (Nat.le_of_ble_eq_true rfl)
theorem q2_90 : (Jvm.Cond.classLink "CyclepaintLaw" (21 : Nat) "java/lang/IllegalArgumentException") ∈ lw_g := zg_of (zin2 (List.mem_of_getElem? (i := 90) rfl)) rfl
theorem qt2_168 : (Jvm.Cond.castable "java/lang/IllegalArgumentException" "java/lang/IllegalArgumentException") ∈ lw_tbl := zin2 (List.mem_of_getElem? (i := 168) rfl)
set_option maxHeartbeats 4000000 in
set_option maxRecDepth 100000 in
theorem w_colour_2 (l : Launch) (hl0 : l.stackTraces = false) (G : zG) (σ : St) (a : Nat → Nat) (o : Nat) (n0 : Int64) (sv : Value) (e x : Int) (re : rg e) (rx : rg x) (h1 : (0 ≤ e ∧ e ≤ 15)) (h2 : ¬ (0 ≤ x ∧ x ≤ 63)) : Met l yL_colour (wqH yL_colour cL_colour 5 ((Option.some Jvm.ClassFile.FieldType.int)) [((0 : Nat), (11 : Nat), (14 : Nat), (19 : Nat)), ((0 : Nat), (11 : Nat), (18 : Nat), (21 : Nat))]) (rmM 7 113 1 6) (va_Pc [.ref (a 0), .int (zI (e)), .int (zI (x)), .ref (o)] (zK G (fun H => hCyc G σ a H ∧ zXp G H))) (zM (fun _ => False) (some (.int (zI 2))) (fun _ => True)) 1 6 (fun _ => False) := by
  refine z_enterH (by decide +kernel) (Nat.le_of_ble_eq_true rfl) ?_
  intro p env s m below meth cod Q S htab hG hP hS ret ls hl
  have hl : lv_has ls 5 [(0, .ref (a 0)), (1, .int (zI (e))), (2, .int (zI (x))), (3, .ref (o))] := hl
  refine z_aload_n S dL_colour_0 hl 3 rfl rfl ?_
  refine z_aload_n S dL_colour_1 hl 0 rfl rfl ?_
  refine z_iload_n S dL_colour_2 hl 1 rfl rfl ?_
  refine z_iload_n S dL_colour_3 hl 2 rfl rfl ?_
  refine z_callX S hG hS (x_colour_A l hl0 G σ a e x re rx h1 h2) ok_X2_colour hP.1.1 zc_X2 rfl q2_91 hP ⟨rfl, rfl, by decide, by decide⟩ ⟨Nat.le_of_ble_eq_true rfl, Nat.le_of_ble_eq_true rfl⟩ rfl (Nat.le_of_ble_eq_true rfl) hl.1 rfl dL_colour_4 (fun q9 ce H_1 hz oq hS hce hcv hcl => ?_)
  refine z_catch S hG htab [(⟨0, 11, 14, 19⟩ : ExceptionTableEntry)] (⟨0, 11, 18, 21⟩ : ExceptionTableEntry) [] rfl (fun z hz => by rcases List.mem_cons.mp hz with rfl | hz; exact ⟨by decide, _, q2_89, hG.2.2.2.2.2.2.2.1.2.2.2.1⟩; cases hz) (by decide) (by decide) q2_90 qt2_168 hce hcv hcl ?_
  refine z_astore (lv' := [(4, .ref (q9)), (0, .ref (a 0)), (1, .int (zI (e))), (2, .int (zI (x))), (3, .ref (o))]) S dL_colour_18 hl (by decide) rfl (fun ls hl => ?_)
  refine z_iconst S dL_colour_20 ?_
  exact ret _ _ _ _ _ _ _ dL_colour_21 (rfl) hS (trivial) (Nat.le_of_ble_eq_true rfl) (Nat.le_of_ble_eq_true rfl)
set_option maxHeartbeats 4000000 in
set_option maxRecDepth 100000 in
theorem w_paint_1 (l : Launch) (hl0 : l.stackTraces = false) (G : zG) (σ : St) (a : Nat → Nat) (o : Nat) (n0 : Int64) (sv : Value) (v f tt x : Int) (rv : rg v) (rf : rg f) (rtt : rg tt) (rx : rg x) (h1 : ¬ ((0 ≤ v ∧ v ≤ 3) ∧ (0 ≤ f ∧ f ≤ 7) ∧ (0 ≤ tt ∧ tt ≤ 7))) : Met l yL_paint (wqH yL_paint cL_paint 7 ((Option.some Jvm.ClassFile.FieldType.int)) [((0 : Nat), (15 : Nat), (18 : Nat), (19 : Nat)), ((0 : Nat), (15 : Nat), (22 : Nat), (21 : Nat))]) (rmM 7 116 1 6) (va_Pc [.ref (a 0), .int (zI (v)), .int (zI (f)), .int (zI (tt)), .int (zI (x)), .ref (o)] (zK G (fun H => hCyc G σ a H ∧ zXp G H))) (zM (fun _ => False) (some (.int (zI 1))) (fun _ => True)) 1 6 (fun _ => False) := by
  refine z_enterH (by decide +kernel) (Nat.le_of_ble_eq_true rfl) ?_
  intro p env s m below meth cod Q S htab hG hP hS ret ls hl
  have hl : lv_has ls 7 [(0, .ref (a 0)), (1, .int (zI (v))), (2, .int (zI (f))), (3, .int (zI (tt))), (4, .int (zI (x))), (5, .ref (o))] := hl
  refine z_aload S dL_paint_0 hl 5 rfl ?_
  refine z_aload_n S dL_paint_2 hl 0 rfl rfl ?_
  refine z_iload_n S dL_paint_3 hl 1 rfl rfl ?_
  refine z_iload_n S dL_paint_4 hl 2 rfl rfl ?_
  refine z_iload_n S dL_paint_5 hl 3 rfl rfl ?_
  refine z_iload S dL_paint_6 hl 4 rfl ?_
  refine z_callX S hG hS (x_paint_I l hl0 G σ a v f tt x rv rf rtt rx h1) ok_X2_paint hP.1.1 zc_X2 rfl q2_189 hP ⟨rfl, rfl, by decide, by decide⟩ ⟨Nat.le_of_ble_eq_true rfl, Nat.le_of_ble_eq_true rfl⟩ rfl (Nat.le_of_ble_eq_true rfl) hl.1 rfl dL_paint_8 (fun q9 ce H_1 hz oq hS hce hcv hcl => ?_)
  refine z_catch S hG htab [] (⟨0, 15, 18, 19⟩ : ExceptionTableEntry) [(⟨0, 15, 22, 21⟩ : ExceptionTableEntry)] rfl (fun z hz => nomatch hz) (by decide) (by decide) q2_89 qt2_97 hce hcv hcl ?_
  refine z_astore (lv' := [(6, .ref (q9)), (0, .ref (a 0)), (1, .int (zI (v))), (2, .int (zI (f))), (3, .int (zI (tt))), (4, .int (zI (x))), (5, .ref (o))]) S dL_paint_18 hl (by decide) rfl (fun ls hl => ?_)
  refine z_iconst S dL_paint_20 ?_
  exact ret _ _ _ _ _ _ _ dL_paint_21 (rfl) hS (trivial) (Nat.le_of_ble_eq_true rfl) (Nat.le_of_ble_eq_true rfl)
set_option maxHeartbeats 4000000 in
set_option maxRecDepth 100000 in
theorem w_paint_2 (l : Launch) (hl0 : l.stackTraces = false) (G : zG) (σ : St) (a : Nat → Nat) (o : Nat) (n0 : Int64) (sv : Value) (v f tt x : Int) (rv : rg v) (rf : rg f) (rtt : rg tt) (rx : rg x) (h1 : (0 ≤ v ∧ v ≤ 3) ∧ (0 ≤ f ∧ f ≤ 7) ∧ (0 ≤ tt ∧ tt ≤ 7)) (h2 : tt < f ∨ ¬ (0 ≤ x ∧ x ≤ 15)) : Met l yL_paint (wqH yL_paint cL_paint 7 ((Option.some Jvm.ClassFile.FieldType.int)) [((0 : Nat), (15 : Nat), (18 : Nat), (19 : Nat)), ((0 : Nat), (15 : Nat), (22 : Nat), (21 : Nat))]) (rmM 7 116 1 6) (va_Pc [.ref (a 0), .int (zI (v)), .int (zI (f)), .int (zI (tt)), .int (zI (x)), .ref (o)] (zK G (fun H => hCyc G σ a H ∧ zXp G H))) (zM (fun _ => False) (some (.int (zI 2))) (fun _ => True)) 1 6 (fun _ => False) := by
  refine z_enterH (by decide +kernel) (Nat.le_of_ble_eq_true rfl) ?_
  intro p env s m below meth cod Q S htab hG hP hS ret ls hl
  have hl : lv_has ls 7 [(0, .ref (a 0)), (1, .int (zI (v))), (2, .int (zI (f))), (3, .int (zI (tt))), (4, .int (zI (x))), (5, .ref (o))] := hl
  refine z_aload S dL_paint_0 hl 5 rfl ?_
  refine z_aload_n S dL_paint_2 hl 0 rfl rfl ?_
  refine z_iload_n S dL_paint_3 hl 1 rfl rfl ?_
  refine z_iload_n S dL_paint_4 hl 2 rfl rfl ?_
  refine z_iload_n S dL_paint_5 hl 3 rfl rfl ?_
  refine z_iload S dL_paint_6 hl 4 rfl ?_
  refine z_callX S hG hS (x_paint_A l hl0 G σ a v f tt x rv rf rtt rx h1 h2) ok_X2_paint hP.1.1 zc_X2 rfl q2_189 hP ⟨rfl, rfl, by decide, by decide⟩ ⟨Nat.le_of_ble_eq_true rfl, Nat.le_of_ble_eq_true rfl⟩ rfl (Nat.le_of_ble_eq_true rfl) hl.1 rfl dL_paint_8 (fun q9 ce H_1 hz oq hS hce hcv hcl => ?_)
  refine z_catch S hG htab [(⟨0, 15, 18, 19⟩ : ExceptionTableEntry)] (⟨0, 15, 22, 21⟩ : ExceptionTableEntry) [] rfl (fun z hz => by rcases List.mem_cons.mp hz with rfl | hz; exact ⟨by decide, _, q2_89, hG.2.2.2.2.2.2.2.1.2.2.2.1⟩; cases hz) (by decide) (by decide) q2_90 qt2_168 hce hcv hcl ?_
  refine z_astore (lv' := [(6, .ref (q9)), (0, .ref (a 0)), (1, .int (zI (v))), (2, .int (zI (f))), (3, .int (zI (tt))), (4, .int (zI (x))), (5, .ref (o))]) S dL_paint_22 hl (by decide) rfl (fun ls hl => ?_)
  refine z_iconst S dL_paint_24 ?_
  exact ret _ _ _ _ _ _ _ dL_paint_25 (rfl) hS (trivial) (Nat.le_of_ble_eq_true rfl) (Nat.le_of_ble_eq_true rfl)
set_option maxHeartbeats 4000000 in
set_option maxRecDepth 100000 in
theorem w_range_1 (l : Launch) (hl0 : l.stackTraces = false) (G : zG) (σ : St) (a : Nat → Nat) (o : Nat) (n0 : Int64) (sv : Value) (f tt sp kd : Int) (rf : rg f) (rtt : rg tt) (rsp : rg sp) (rkd : rg kd) (h1 : ¬ ((0 ≤ f ∧ f ≤ 15) ∧ (0 ≤ tt ∧ tt ≤ 15))) : Met l yL_range (wqH yL_range cL_range 7 ((Option.some Jvm.ClassFile.FieldType.int)) [((0 : Nat), (15 : Nat), (18 : Nat), (19 : Nat)), ((0 : Nat), (15 : Nat), (22 : Nat), (21 : Nat)), ((0 : Nat), (15 : Nat), (26 : Nat), (30 : Nat))]) (rmM 7 114 1 6) (va_Pc [.ref (a 0), .int (zI (f)), .int (zI (tt)), .int (zI (sp)), .int (zI (kd)), .ref (o)] (zK G (fun H => hCyc G σ a H ∧ zXp G H))) (zM (fun _ => False) (some (.int (zI 1))) (fun _ => True)) 1 6 (fun _ => False) := by
  refine z_enterH (by decide +kernel) (Nat.le_of_ble_eq_true rfl) ?_
  intro p env s m below meth cod Q S htab hG hP hS ret ls hl
  have hl : lv_has ls 7 [(0, .ref (a 0)), (1, .int (zI (f))), (2, .int (zI (tt))), (3, .int (zI (sp))), (4, .int (zI (kd))), (5, .ref (o))] := hl
  refine z_aload S dL_range_0 hl 5 rfl ?_
  refine z_aload_n S dL_range_2 hl 0 rfl rfl ?_
  refine z_iload_n S dL_range_3 hl 1 rfl rfl ?_
  refine z_iload_n S dL_range_4 hl 2 rfl rfl ?_
  refine z_iload_n S dL_range_5 hl 3 rfl rfl ?_
  refine z_iload S dL_range_6 hl 4 rfl ?_
  refine z_callX S hG hS (x_range_I l hl0 G σ a f tt sp kd rf rtt rsp rkd h1) ok_X2_range hP.1.1 zc_X2 rfl q2_202 hP ⟨rfl, rfl, by decide, by decide⟩ ⟨Nat.le_of_ble_eq_true rfl, Nat.le_of_ble_eq_true rfl⟩ rfl (Nat.le_of_ble_eq_true rfl) hl.1 rfl dL_range_8 (fun q9 ce H_1 hz oq hS hce hcv hcl => ?_)
  refine z_catch S hG htab [] (⟨0, 15, 18, 19⟩ : ExceptionTableEntry) [(⟨0, 15, 22, 21⟩ : ExceptionTableEntry), (⟨0, 15, 26, 30⟩ : ExceptionTableEntry)] rfl (fun z hz => nomatch hz) (by decide) (by decide) q2_89 qt2_97 hce hcv hcl ?_
  refine z_astore (lv' := [(6, .ref (q9)), (0, .ref (a 0)), (1, .int (zI (f))), (2, .int (zI (tt))), (3, .int (zI (sp))), (4, .int (zI (kd))), (5, .ref (o))]) S dL_range_18 hl (by decide) rfl (fun ls hl => ?_)
  refine z_iconst S dL_range_20 ?_
  exact ret _ _ _ _ _ _ _ dL_range_21 (rfl) hS (trivial) (Nat.le_of_ble_eq_true rfl) (Nat.le_of_ble_eq_true rfl)
set_option maxHeartbeats 4000000 in
set_option maxRecDepth 100000 in
theorem w_range_2 (l : Launch) (hl0 : l.stackTraces = false) (G : zG) (σ : St) (a : Nat → Nat) (o : Nat) (n0 : Int64) (sv : Value) (f tt sp kd : Int) (rf : rg f) (rtt : rg tt) (rsp : rg sp) (rkd : rg kd) (h1 : (0 ≤ f ∧ f ≤ 15) ∧ (0 ≤ tt ∧ tt ≤ 15)) (h2 : tt ≤ f ∨ ¬ (1 ≤ sp ∧ sp ≤ 9) ∨ ¬ (0 ≤ kd ∧ kd ≤ 2)) : Met l yL_range (wqH yL_range cL_range 7 ((Option.some Jvm.ClassFile.FieldType.int)) [((0 : Nat), (15 : Nat), (18 : Nat), (19 : Nat)), ((0 : Nat), (15 : Nat), (22 : Nat), (21 : Nat)), ((0 : Nat), (15 : Nat), (26 : Nat), (30 : Nat))]) (rmM 7 114 1 6) (va_Pc [.ref (a 0), .int (zI (f)), .int (zI (tt)), .int (zI (sp)), .int (zI (kd)), .ref (o)] (zK G (fun H => hCyc G σ a H ∧ zXp G H))) (zM (fun _ => False) (some (.int (zI 2))) (fun _ => True)) 1 6 (fun _ => False) := by
  refine z_enterH (by decide +kernel) (Nat.le_of_ble_eq_true rfl) ?_
  intro p env s m below meth cod Q S htab hG hP hS ret ls hl
  have hl : lv_has ls 7 [(0, .ref (a 0)), (1, .int (zI (f))), (2, .int (zI (tt))), (3, .int (zI (sp))), (4, .int (zI (kd))), (5, .ref (o))] := hl
  refine z_aload S dL_range_0 hl 5 rfl ?_
  refine z_aload_n S dL_range_2 hl 0 rfl rfl ?_
  refine z_iload_n S dL_range_3 hl 1 rfl rfl ?_
  refine z_iload_n S dL_range_4 hl 2 rfl rfl ?_
  refine z_iload_n S dL_range_5 hl 3 rfl rfl ?_
  refine z_iload S dL_range_6 hl 4 rfl ?_
  refine z_callX S hG hS (x_range_A l hl0 G σ a f tt sp kd rf rtt rsp rkd h1 h2) ok_X2_range hP.1.1 zc_X2 rfl q2_202 hP ⟨rfl, rfl, by decide, by decide⟩ ⟨Nat.le_of_ble_eq_true rfl, Nat.le_of_ble_eq_true rfl⟩ rfl (Nat.le_of_ble_eq_true rfl) hl.1 rfl dL_range_8 (fun q9 ce H_1 hz oq hS hce hcv hcl => ?_)
  refine z_catch S hG htab [(⟨0, 15, 18, 19⟩ : ExceptionTableEntry)] (⟨0, 15, 22, 21⟩ : ExceptionTableEntry) [(⟨0, 15, 26, 30⟩ : ExceptionTableEntry)] rfl (fun z hz => by rcases List.mem_cons.mp hz with rfl | hz; exact ⟨by decide, _, q2_89, hG.2.2.2.2.2.2.2.1.2.2.2.1⟩; cases hz) (by decide) (by decide) q2_90 qt2_168 hce hcv hcl ?_
  refine z_astore (lv' := [(6, .ref (q9)), (0, .ref (a 0)), (1, .int (zI (f))), (2, .int (zI (tt))), (3, .int (zI (sp))), (4, .int (zI (kd))), (5, .ref (o))]) S dL_range_22 hl (by decide) rfl (fun ls hl => ?_)
  refine z_iconst S dL_range_24 ?_
  exact ret _ _ _ _ _ _ _ dL_range_25 (rfl) hS (trivial) (Nat.le_of_ble_eq_true rfl) (Nat.le_of_ble_eq_true rfl)
theorem q2_201 : (Jvm.Cond.classLink "CyclepaintLaw" (30 : Nat) "java/lang/IllegalStateException") ∈ lw_g := zg_of (zin2 (List.mem_of_getElem? (i := 201) rfl)) rfl
theorem qt2_219 : (Jvm.Cond.castable "java/lang/IllegalStateException" "java/lang/IllegalStateException") ∈ lw_tbl := zin2 (List.mem_of_getElem? (i := 219) rfl)
set_option maxHeartbeats 4000000 in
set_option maxRecDepth 100000 in
theorem w_range_3 (l : Launch) (hl0 : l.stackTraces = false) (G : zG) (σ : St) (a : Nat → Nat) (o : Nat) (n0 : Int64) (sv : Value) (f tt sp kd : Int) (rf : rg f) (rtt : rg tt) (rsp : rg sp) (rkd : rg kd) (h1 : (0 ≤ f ∧ f ≤ 15) ∧ (0 ≤ tt ∧ tt ≤ 15)) (h2 : f < tt ∧ (1 ≤ sp ∧ sp ≤ 9) ∧ (0 ≤ kd ∧ kd ≤ 2)) (h4 : allI (frB σ f tt) 16 = false) : Met l yL_range (wqH yL_range cL_range 7 ((Option.some Jvm.ClassFile.FieldType.int)) [((0 : Nat), (15 : Nat), (18 : Nat), (19 : Nat)), ((0 : Nat), (15 : Nat), (22 : Nat), (21 : Nat)), ((0 : Nat), (15 : Nat), (26 : Nat), (30 : Nat))]) (rmM 7 114 1 6) (va_Pc [.ref (a 0), .int (zI (f)), .int (zI (tt)), .int (zI (sp)), .int (zI (kd)), .ref (o)] (zK G (fun H => hCyc G σ a H ∧ zXp G H))) (zM (fun _ => False) (some (.int (zI 3))) (fun _ => True)) 1 6 (fun _ => False) := by
  refine z_enterH (by decide +kernel) (Nat.le_of_ble_eq_true rfl) ?_
  intro p env s m below meth cod Q S htab hG hP hS ret ls hl
  have hl : lv_has ls 7 [(0, .ref (a 0)), (1, .int (zI (f))), (2, .int (zI (tt))), (3, .int (zI (sp))), (4, .int (zI (kd))), (5, .ref (o))] := hl
  refine z_aload S dL_range_0 hl 5 rfl ?_
  refine z_aload_n S dL_range_2 hl 0 rfl rfl ?_
  refine z_iload_n S dL_range_3 hl 1 rfl rfl ?_
  refine z_iload_n S dL_range_4 hl 2 rfl rfl ?_
  refine z_iload_n S dL_range_5 hl 3 rfl rfl ?_
  refine z_iload S dL_range_6 hl 4 rfl ?_
  refine z_callX S hG hS (x_range_S l hl0 G σ a f tt sp kd rf rtt rsp rkd h1 h2 h4) ok_X2_range hP.1.1 zc_X2 rfl q2_202 hP ⟨rfl, rfl, by decide, by decide⟩ ⟨Nat.le_of_ble_eq_true rfl, Nat.le_of_ble_eq_true rfl⟩ rfl (Nat.le_of_ble_eq_true rfl) hl.1 rfl dL_range_8 (fun q9 ce H_1 hz oq hS hce hcv hcl => ?_)
  refine z_catch S hG htab [(⟨0, 15, 18, 19⟩ : ExceptionTableEntry), (⟨0, 15, 22, 21⟩ : ExceptionTableEntry)] (⟨0, 15, 26, 30⟩ : ExceptionTableEntry) [] rfl (fun z hz => by rcases List.mem_cons.mp hz with rfl | hz; exact ⟨by decide, _, q2_89, hG.2.2.2.2.2.2.2.1.2.2.2.2.1⟩; rcases List.mem_cons.mp hz with rfl | hz; exact ⟨by decide, _, q2_90, hG.2.2.2.2.2.2.2.1.2.2.2.2.2⟩; cases hz) (by decide) (by decide) q2_201 qt2_219 hce hcv hcl ?_
  refine z_astore (lv' := [(6, .ref (q9)), (0, .ref (a 0)), (1, .int (zI (f))), (2, .int (zI (tt))), (3, .int (zI (sp))), (4, .int (zI (kd))), (5, .ref (o))]) S dL_range_26 hl (by decide) rfl (fun ls hl => ?_)
  refine z_iconst S dL_range_28 ?_
  exact ret _ _ _ _ _ _ _ dL_range_29 (rfl) hS (trivial) (Nat.le_of_ble_eq_true rfl) (Nat.le_of_ble_eq_true rfl)
set_option maxHeartbeats 4000000 in
set_option maxRecDepth 100000 in
theorem w_range_4 (l : Launch) (hl0 : l.stackTraces = false) (G : zG) (σ : St) (a : Nat → Nat) (o : Nat) (n0 : Int64) (sv : Value) (f tt sp kd : Int) (rf : rg f) (rtt : rg tt) (rsp : rg sp) (rkd : rg kd) (h1 : (0 ≤ f ∧ f ≤ 15) ∧ (0 ≤ tt ∧ tt ≤ 15)) (h2 : f < tt ∧ (1 ≤ sp ∧ sp ≤ 9) ∧ (0 ≤ kd ∧ kd ≤ 2)) (h4 : σ.rn = 4) : Met l yL_range (wqH yL_range cL_range 7 ((Option.some Jvm.ClassFile.FieldType.int)) [((0 : Nat), (15 : Nat), (18 : Nat), (19 : Nat)), ((0 : Nat), (15 : Nat), (22 : Nat), (21 : Nat)), ((0 : Nat), (15 : Nat), (26 : Nat), (30 : Nat))]) (rmM 7 114 1 6) (va_Pc [.ref (a 0), .int (zI (f)), .int (zI (tt)), .int (zI (sp)), .int (zI (kd)), .ref (o)] (zK G (fun H => hCyc G σ a H ∧ zXp G H))) (zM (fun _ => False) (some (.int (zI 3))) (fun _ => True)) 1 6 (fun _ => False) := by
  refine z_enterH (by decide +kernel) (Nat.le_of_ble_eq_true rfl) ?_
  intro p env s m below meth cod Q S htab hG hP hS ret ls hl
  have hl : lv_has ls 7 [(0, .ref (a 0)), (1, .int (zI (f))), (2, .int (zI (tt))), (3, .int (zI (sp))), (4, .int (zI (kd))), (5, .ref (o))] := hl
  refine z_aload S dL_range_0 hl 5 rfl ?_
  refine z_aload_n S dL_range_2 hl 0 rfl rfl ?_
  refine z_iload_n S dL_range_3 hl 1 rfl rfl ?_
  refine z_iload_n S dL_range_4 hl 2 rfl rfl ?_
  refine z_iload_n S dL_range_5 hl 3 rfl rfl ?_
  refine z_iload S dL_range_6 hl 4 rfl ?_
  refine z_callX S hG hS (x_range_S4 l hl0 G σ a f tt sp kd rf rtt rsp rkd h1 h2 h4) ok_X2_range hP.1.1 zc_X2 rfl q2_202 hP ⟨rfl, rfl, by decide, by decide⟩ ⟨Nat.le_of_ble_eq_true rfl, Nat.le_of_ble_eq_true rfl⟩ rfl (Nat.le_of_ble_eq_true rfl) hl.1 rfl dL_range_8 (fun q9 ce H_1 hz oq hS hce hcv hcl => ?_)
  refine z_catch S hG htab [(⟨0, 15, 18, 19⟩ : ExceptionTableEntry), (⟨0, 15, 22, 21⟩ : ExceptionTableEntry)] (⟨0, 15, 26, 30⟩ : ExceptionTableEntry) [] rfl (fun z hz => by rcases List.mem_cons.mp hz with rfl | hz; exact ⟨by decide, _, q2_89, hG.2.2.2.2.2.2.2.1.2.2.2.2.1⟩; rcases List.mem_cons.mp hz with rfl | hz; exact ⟨by decide, _, q2_90, hG.2.2.2.2.2.2.2.1.2.2.2.2.2⟩; cases hz) (by decide) (by decide) q2_201 qt2_219 hce hcv hcl ?_
  refine z_astore (lv' := [(6, .ref (q9)), (0, .ref (a 0)), (1, .int (zI (f))), (2, .int (zI (tt))), (3, .int (zI (sp))), (4, .int (zI (kd))), (5, .ref (o))]) S dL_range_26 hl (by decide) rfl (fun ls hl => ?_)
  refine z_iconst S dL_range_28 ?_
  exact ret _ _ _ _ _ _ _ dL_range_29 (rfl) hS (trivial) (Nat.le_of_ble_eq_true rfl) (Nat.le_of_ble_eq_true rfl)
set_option maxHeartbeats 4000000 in
set_option maxRecDepth 100000 in
theorem w_turn_1 (l : Launch) (hl0 : l.stackTraces = false) (G : zG) (σ : St) (a : Nat → Nat) (o : Nat) (n0 : Int64) (sv : Value) (j sp kd : Int) (rj : rg j) (rsp : rg sp) (rkd : rg kd) (h1 : ¬ (0 ≤ j ∧ j < σ.rn)) : Met l yL_turn (wqH yL_turn cL_turn 6 ((Option.some Jvm.ClassFile.FieldType.int)) [((0 : Nat), (13 : Nat), (16 : Nat), (19 : Nat)), ((0 : Nat), (13 : Nat), (20 : Nat), (21 : Nat))]) (rmM 7 114 1 6) (va_Pc [.ref (a 0), .int (zI (j)), .int (zI (sp)), .int (zI (kd)), .ref (o)] (zK G (fun H => hCyc G σ a H ∧ zXp G H))) (zM (fun _ => False) (some (.int (zI 1))) (fun _ => True)) 1 6 (fun _ => False) := by
  refine z_enterH (by decide +kernel) (Nat.le_of_ble_eq_true rfl) ?_
  intro p env s m below meth cod Q S htab hG hP hS ret ls hl
  have hl : lv_has ls 6 [(0, .ref (a 0)), (1, .int (zI (j))), (2, .int (zI (sp))), (3, .int (zI (kd))), (4, .ref (o))] := hl
  refine z_aload S dL_turn_0 hl 4 rfl ?_
  refine z_aload_n S dL_turn_2 hl 0 rfl rfl ?_
  refine z_iload_n S dL_turn_3 hl 1 rfl rfl ?_
  refine z_iload_n S dL_turn_4 hl 2 rfl rfl ?_
  refine z_iload_n S dL_turn_5 hl 3 rfl rfl ?_
  refine z_callX S hG hS (x_turn_I l hl0 G σ a j sp kd rj rsp rkd h1) ok_X2_turn hP.1.1 zc_X2 rfl q3_30 hP ⟨rfl, rfl, by decide, by decide⟩ ⟨Nat.le_of_ble_eq_true rfl, Nat.le_of_ble_eq_true rfl⟩ rfl (Nat.le_of_ble_eq_true rfl) hl.1 rfl dL_turn_6 (fun q9 ce H_1 hz oq hS hce hcv hcl => ?_)
  refine z_catch S hG htab [] (⟨0, 13, 16, 19⟩ : ExceptionTableEntry) [(⟨0, 13, 20, 21⟩ : ExceptionTableEntry)] rfl (fun z hz => nomatch hz) (by decide) (by decide) q2_89 qt2_97 hce hcv hcl ?_
  refine z_astore (lv' := [(5, .ref (q9)), (0, .ref (a 0)), (1, .int (zI (j))), (2, .int (zI (sp))), (3, .int (zI (kd))), (4, .ref (o))]) S dL_turn_16 hl (by decide) rfl (fun ls hl => ?_)
  refine z_iconst S dL_turn_18 ?_
  exact ret _ _ _ _ _ _ _ dL_turn_19 (rfl) hS (trivial) (Nat.le_of_ble_eq_true rfl) (Nat.le_of_ble_eq_true rfl)
set_option maxHeartbeats 4000000 in
set_option maxRecDepth 100000 in
theorem w_turn_2 (l : Launch) (hl0 : l.stackTraces = false) (G : zG) (σ : St) (a : Nat → Nat) (o : Nat) (n0 : Int64) (sv : Value) (j sp kd : Int) (rj : rg j) (rsp : rg sp) (rkd : rg kd) (h1 : 0 ≤ j ∧ j < σ.rn) (h2 : ¬ ((1 ≤ sp ∧ sp ≤ 9) ∧ (0 ≤ kd ∧ kd ≤ 2))) : Met l yL_turn (wqH yL_turn cL_turn 6 ((Option.some Jvm.ClassFile.FieldType.int)) [((0 : Nat), (13 : Nat), (16 : Nat), (19 : Nat)), ((0 : Nat), (13 : Nat), (20 : Nat), (21 : Nat))]) (rmM 7 114 1 6) (va_Pc [.ref (a 0), .int (zI (j)), .int (zI (sp)), .int (zI (kd)), .ref (o)] (zK G (fun H => hCyc G σ a H ∧ zXp G H))) (zM (fun _ => False) (some (.int (zI 2))) (fun _ => True)) 1 6 (fun _ => False) := by
  refine z_enterH (by decide +kernel) (Nat.le_of_ble_eq_true rfl) ?_
  intro p env s m below meth cod Q S htab hG hP hS ret ls hl
  have hl : lv_has ls 6 [(0, .ref (a 0)), (1, .int (zI (j))), (2, .int (zI (sp))), (3, .int (zI (kd))), (4, .ref (o))] := hl
  refine z_aload S dL_turn_0 hl 4 rfl ?_
  refine z_aload_n S dL_turn_2 hl 0 rfl rfl ?_
  refine z_iload_n S dL_turn_3 hl 1 rfl rfl ?_
  refine z_iload_n S dL_turn_4 hl 2 rfl rfl ?_
  refine z_iload_n S dL_turn_5 hl 3 rfl rfl ?_
  refine z_callX S hG hS (x_turn_A l hl0 G σ a j sp kd rj rsp rkd h1 h2) ok_X2_turn hP.1.1 zc_X2 rfl q3_30 hP ⟨rfl, rfl, by decide, by decide⟩ ⟨Nat.le_of_ble_eq_true rfl, Nat.le_of_ble_eq_true rfl⟩ rfl (Nat.le_of_ble_eq_true rfl) hl.1 rfl dL_turn_6 (fun q9 ce H_1 hz oq hS hce hcv hcl => ?_)
  refine z_catch S hG htab [(⟨0, 13, 16, 19⟩ : ExceptionTableEntry)] (⟨0, 13, 20, 21⟩ : ExceptionTableEntry) [] rfl (fun z hz => by rcases List.mem_cons.mp hz with rfl | hz; exact ⟨by decide, _, q2_89, hG.2.2.2.2.2.2.2.1.2.2.2.1⟩; cases hz) (by decide) (by decide) q2_90 qt2_168 hce hcv hcl ?_
  refine z_astore (lv' := [(5, .ref (q9)), (0, .ref (a 0)), (1, .int (zI (j))), (2, .int (zI (sp))), (3, .int (zI (kd))), (4, .ref (o))]) S dL_turn_20 hl (by decide) rfl (fun ls hl => ?_)
  refine z_iconst S dL_turn_22 ?_
  exact ret _ _ _ _ _ _ _ dL_turn_23 (rfl) hS (trivial) (Nat.le_of_ble_eq_true rfl) (Nat.le_of_ble_eq_true rfl)
set_option maxHeartbeats 4000000 in
set_option maxRecDepth 100000 in
theorem w_stop_1 (l : Launch) (hl0 : l.stackTraces = false) (G : zG) (σ : St) (a : Nat → Nat) (o : Nat) (n0 : Int64) (sv : Value) (j : Int) (rj : rg j) (h1 : ¬ (0 ≤ j ∧ j < σ.rn)) : Met l yL_stop (wqH yL_stop cL_stop 4 ((Option.some Jvm.ClassFile.FieldType.int)) [((0 : Nat), (10 : Nat), (13 : Nat), (19 : Nat))]) (rmM 7 111 1 6) (va_Pc [.ref (a 0), .int (zI (j)), .ref (o)] (zK G (fun H => hCyc G σ a H ∧ zXp G H))) (zM (fun _ => False) (some (.int (zI 1))) (fun _ => True)) 1 6 (fun _ => False) := by
  refine z_enterH (by decide +kernel) (Nat.le_of_ble_eq_true rfl) ?_
  intro p env s m below meth cod Q S htab hG hP hS ret ls hl
  have hl : lv_has ls 4 [(0, .ref (a 0)), (1, .int (zI (j))), (2, .ref (o))] := hl
  refine z_aload_n S dL_stop_0 hl 2 rfl rfl ?_
  refine z_aload_n S dL_stop_1 hl 0 rfl rfl ?_
  refine z_iload_n S dL_stop_2 hl 1 rfl rfl ?_
  refine z_callX S hG hS (x_stop_I l hl0 G σ a j rj h1) ok_X2_stop hP.1.1 zc_X2 rfl q3_41 hP ⟨rfl, rfl, by decide, by decide⟩ ⟨Nat.le_of_ble_eq_true rfl, Nat.le_of_ble_eq_true rfl⟩ rfl (Nat.le_of_ble_eq_true rfl) hl.1 rfl dL_stop_3 (fun q9 ce H_1 hz oq hS hce hcv hcl => ?_)
  refine z_catch S hG htab [] (⟨0, 10, 13, 19⟩ : ExceptionTableEntry) [] rfl (fun z hz => nomatch hz) (by decide) (by decide) q2_89 qt2_97 hce hcv hcl ?_
  refine z_astore_n (lv' := [(3, .ref (q9)), (0, .ref (a 0)), (1, .int (zI (j))), (2, .ref (o))]) S dL_stop_13 hl rfl (by decide) rfl (fun ls hl => ?_)
  refine z_iconst S dL_stop_14 ?_
  exact ret _ _ _ _ _ _ _ dL_stop_15 (rfl) hS (trivial) (Nat.le_of_ble_eq_true rfl) (Nat.le_of_ble_eq_true rfl)
set_option maxHeartbeats 4000000 in
set_option maxRecDepth 100000 in
theorem w_run_1 (l : Launch) (hl0 : l.stackTraces = false) (G : zG) (σ : St) (a : Nat → Nat) (o : Nat) (n0 : Int64) (sv : Value) (n : Int) (rn : rg n) (h1 : ¬ (1 ≤ n ∧ n ≤ 200)) : Met l yL_run (wqH yL_run cL_run 4 ((Option.some Jvm.ClassFile.FieldType.int)) [((0 : Nat), (10 : Nat), (13 : Nat), (21 : Nat)), ((0 : Nat), (10 : Nat), (16 : Nat), (30 : Nat))]) (rmM 7 113 1 6) (va_Pc [.ref (a 0), .int (zI (n)), .ref (o)] (zK G (fun H => hCyc G σ a H ∧ zXp G H))) (zM (fun _ => False) (some (.int (zI 1))) (fun _ => True)) 1 6 (fun _ => False) := by
  refine z_enterH (by decide +kernel) (Nat.le_of_ble_eq_true rfl) ?_
  intro p env s m below meth cod Q S htab hG hP hS ret ls hl
  have hl : lv_has ls 4 [(0, .ref (a 0)), (1, .int (zI (n))), (2, .ref (o))] := hl
  refine z_aload_n S dL_run_0 hl 2 rfl rfl ?_
  refine z_aload_n S dL_run_1 hl 0 rfl rfl ?_
  refine z_iload_n S dL_run_2 hl 1 rfl rfl ?_
  refine z_callX S hG hS (x_run_A l hl0 G σ a n rn h1) ok_X2_run hP.1.1 zc_X2 rfl q3_52 hP ⟨rfl, rfl, by decide, by decide⟩ ⟨Nat.le_of_ble_eq_true rfl, Nat.le_of_ble_eq_true rfl⟩ rfl (Nat.le_of_ble_eq_true rfl) hl.1 rfl dL_run_3 (fun q9 ce H_1 hz oq hS hce hcv hcl => ?_)
  refine z_catch S hG htab [] (⟨0, 10, 13, 21⟩ : ExceptionTableEntry) [(⟨0, 10, 16, 30⟩ : ExceptionTableEntry)] rfl (fun z hz => nomatch hz) (by decide) (by decide) q2_90 qt2_168 hce hcv hcl ?_
  refine z_astore_n (lv' := [(3, .ref (q9)), (0, .ref (a 0)), (1, .int (zI (n))), (2, .ref (o))]) S dL_run_13 hl rfl (by decide) rfl (fun ls hl => ?_)
  refine z_iconst S dL_run_14 ?_
  exact ret _ _ _ _ _ _ _ dL_run_15 (rfl) hS (trivial) (Nat.le_of_ble_eq_true rfl) (Nat.le_of_ble_eq_true rfl)
set_option maxHeartbeats 4000000 in
set_option maxRecDepth 100000 in
theorem w_run_2 (l : Launch) (hl0 : l.stackTraces = false) (G : zG) (σ : St) (a : Nat → Nat) (o : Nat) (n0 : Int64) (sv : Value) (n : Int) (rn : rg n) (h1 : (1 ≤ n ∧ n ≤ 200)) (h2 : 99999 < σ.tk + n) : Met l yL_run (wqH yL_run cL_run 4 ((Option.some Jvm.ClassFile.FieldType.int)) [((0 : Nat), (10 : Nat), (13 : Nat), (21 : Nat)), ((0 : Nat), (10 : Nat), (16 : Nat), (30 : Nat))]) (rmM 7 113 1 6) (va_Pc [.ref (a 0), .int (zI (n)), .ref (o)] (zK G (fun H => hCyc G σ a H ∧ zXp G H))) (zM (fun _ => False) (some (.int (zI 2))) (fun _ => True)) 1 6 (fun _ => False) := by
  refine z_enterH (by decide +kernel) (Nat.le_of_ble_eq_true rfl) ?_
  intro p env s m below meth cod Q S htab hG hP hS ret ls hl
  have hl : lv_has ls 4 [(0, .ref (a 0)), (1, .int (zI (n))), (2, .ref (o))] := hl
  refine z_aload_n S dL_run_0 hl 2 rfl rfl ?_
  refine z_aload_n S dL_run_1 hl 0 rfl rfl ?_
  refine z_iload_n S dL_run_2 hl 1 rfl rfl ?_
  refine z_callX S hG hS (x_run_S l hl0 G σ a n rn h1 h2) ok_X2_run hP.1.1 zc_X2 rfl q3_52 hP ⟨rfl, rfl, by decide, by decide⟩ ⟨Nat.le_of_ble_eq_true rfl, Nat.le_of_ble_eq_true rfl⟩ rfl (Nat.le_of_ble_eq_true rfl) hl.1 rfl dL_run_3 (fun q9 ce H_1 hz oq hS hce hcv hcl => ?_)
  refine z_catch S hG htab [(⟨0, 10, 13, 21⟩ : ExceptionTableEntry)] (⟨0, 10, 16, 30⟩ : ExceptionTableEntry) [] rfl (fun z hz => by rcases List.mem_cons.mp hz with rfl | hz; exact ⟨by decide, _, q2_90, hG.2.2.2.2.2.2.2.1.2.2.2.2.2⟩; cases hz) (by decide) (by decide) q2_201 qt2_219 hce hcv hcl ?_
  refine z_astore_n (lv' := [(3, .ref (q9)), (0, .ref (a 0)), (1, .int (zI (n))), (2, .ref (o))]) S dL_run_16 hl rfl (by decide) rfl (fun ls hl => ?_)
  refine z_iconst S dL_run_17 ?_
  exact ret _ _ _ _ _ _ _ dL_run_18 (rfl) hS (trivial) (Nat.le_of_ble_eq_true rfl) (Nat.le_of_ble_eq_true rfl)
set_option maxHeartbeats 4000000 in
set_option maxRecDepth 100000 in
theorem w_jump_1 (l : Launch) (hl0 : l.stackTraces = false) (G : zG) (σ : St) (a : Nat → Nat) (o : Nat) (n0 : Int64) (sv : Value) (x : Int) (rx : rg x) (h1 : ¬ (0 ≤ x ∧ x ≤ 99999)) : Met l yL_jump (wqH yL_jump cL_jump 4 ((Option.some Jvm.ClassFile.FieldType.int)) [((0 : Nat), (10 : Nat), (13 : Nat), (21 : Nat))]) (rmM 7 112 1 6) (va_Pc [.ref (a 0), .int (zI (x)), .ref (o)] (zK G (fun H => hCyc G σ a H ∧ zXp G H))) (zM (fun _ => False) (some (.int (zI 1))) (fun _ => True)) 1 6 (fun _ => False) := by
  refine z_enterH (by decide +kernel) (Nat.le_of_ble_eq_true rfl) ?_
  intro p env s m below meth cod Q S htab hG hP hS ret ls hl
  have hl : lv_has ls 4 [(0, .ref (a 0)), (1, .int (zI (x))), (2, .ref (o))] := hl
  refine z_aload_n S dL_jump_0 hl 2 rfl rfl ?_
  refine z_aload_n S dL_jump_1 hl 0 rfl rfl ?_
  refine z_iload_n S dL_jump_2 hl 1 rfl rfl ?_
  refine z_callX S hG hS (x_jump_A l hl0 G σ a x rx h1) ok_X2_jump hP.1.1 zc_X2 rfl q3_65 hP ⟨rfl, rfl, by decide, by decide⟩ ⟨Nat.le_of_ble_eq_true rfl, Nat.le_of_ble_eq_true rfl⟩ rfl (Nat.le_of_ble_eq_true rfl) hl.1 rfl dL_jump_3 (fun q9 ce H_1 hz oq hS hce hcv hcl => ?_)
  refine z_catch S hG htab [] (⟨0, 10, 13, 21⟩ : ExceptionTableEntry) [] rfl (fun z hz => nomatch hz) (by decide) (by decide) q2_90 qt2_168 hce hcv hcl ?_
  refine z_astore_n (lv' := [(3, .ref (q9)), (0, .ref (a 0)), (1, .int (zI (x))), (2, .ref (o))]) S dL_jump_13 hl rfl (by decide) rfl (fun ls hl => ?_)
  refine z_iconst S dL_jump_14 ?_
  exact ret _ _ _ _ _ _ _ dL_jump_15 (rfl) hS (trivial) (Nat.le_of_ble_eq_true rfl) (Nat.le_of_ble_eq_true rfl)
set_option maxHeartbeats 4000000 in
set_option maxRecDepth 100000 in
theorem w_keep_1 (l : Launch) (hl0 : l.stackTraces = false) (G : zG) (σ : St) (a : Nat → Nat) (o : Nat) (n0 : Int64) (sv : Value)   (h1 : σ.kn = 5) : Met l yL_keep (wqH yL_keep cL_keep 3 ((Option.some Jvm.ClassFile.FieldType.int)) [((0 : Nat), (9 : Nat), (12 : Nat), (30 : Nat))]) (rmM 7 112 1 6) (va_Pc [.ref (a 0), .ref (o)] (zK G (fun H => hCyc G σ a H ∧ zXp G H))) (zM (fun _ => False) (some (.int (zI 1))) (fun _ => True)) 1 6 (fun _ => False) := by
  refine z_enterH (by decide +kernel) (Nat.le_of_ble_eq_true rfl) ?_
  intro p env s m below meth cod Q S htab hG hP hS ret ls hl
  have hl : lv_has ls 3 [(0, .ref (a 0)), (1, .ref (o))] := hl
  refine z_aload_n S dL_keep_0 hl 1 rfl rfl ?_
  refine z_aload_n S dL_keep_1 hl 0 rfl rfl ?_
  refine z_callX S hG hS (x_keep_S l hl0 G σ a   h1) ok_X2_keep hP.1.1 zc_X2 rfl q3_76 hP ⟨rfl, rfl, by decide, by decide⟩ ⟨Nat.le_of_ble_eq_true rfl, Nat.le_of_ble_eq_true rfl⟩ rfl (Nat.le_of_ble_eq_true rfl) hl.1 rfl dL_keep_2 (fun q9 ce H_1 hz oq hS hce hcv hcl => ?_)
  refine z_catch S hG htab [] (⟨0, 9, 12, 30⟩ : ExceptionTableEntry) [] rfl (fun z hz => nomatch hz) (by decide) (by decide) q2_201 qt2_219 hce hcv hcl ?_
  refine z_astore_n (lv' := [(2, .ref (q9)), (0, .ref (a 0)), (1, .ref (o))]) S dL_keep_12 hl rfl (by decide) rfl (fun ls hl => ?_)
  refine z_iconst S dL_keep_13 ?_
  exact ret _ _ _ _ _ _ _ dL_keep_14 (rfl) hS (trivial) (Nat.le_of_ble_eq_true rfl) (Nat.le_of_ble_eq_true rfl)
set_option maxHeartbeats 4000000 in
set_option maxRecDepth 100000 in
theorem w_limit_1 (l : Launch) (hl0 : l.stackTraces = false) (G : zG) (σ : St) (a : Nat → Nat) (o : Nat) (n0 : Int64) (sv : Value) (x : Int) (rx : rg x) (h1 : ¬ (0 ≤ x ∧ x ≤ 32)) : Met l yL_limit (wqH yL_limit cL_limit 4 ((Option.some Jvm.ClassFile.FieldType.int)) [((0 : Nat), (17 : Nat), (20 : Nat), (21 : Nat))]) (rmM 7 111 1 6) (va_Pc [.ref (a 0), .int (zI (x)), .ref (o)] (zK G (fun H => hCyc G σ a H ∧ zXp G H))) (zM (fun _ => False) (some (.int (zI 1))) (fun _ => True)) 1 6 (fun _ => False) := by
  refine z_enterH (by decide +kernel) (Nat.le_of_ble_eq_true rfl) ?_
  intro p env s m below meth cod Q S htab hG hP hS ret ls hl
  have hl : lv_has ls 4 [(0, .ref (a 0)), (1, .int (zI (x))), (2, .ref (o))] := hl
  refine z_aload_n S dL_limit_0 hl 2 rfl rfl ?_
  refine z_aload_n S dL_limit_1 hl 0 rfl rfl ?_
  refine z_iload_n S dL_limit_2 hl 1 rfl rfl ?_
  refine z_callX S hG hS (x_limit_A l hl0 G σ a x rx h1) ok_X2_limit hP.1.1 zc_X2 rfl q3_84 hP ⟨rfl, rfl, by decide, by decide⟩ ⟨Nat.le_of_ble_eq_true rfl, Nat.le_of_ble_eq_true rfl⟩ rfl (Nat.le_of_ble_eq_true rfl) hl.1 rfl dL_limit_3 (fun q9 ce H_1 hz oq hS hce hcv hcl => ?_)
  refine z_catch S hG htab [] (⟨0, 17, 20, 21⟩ : ExceptionTableEntry) [] rfl (fun z hz => nomatch hz) (by decide) (by decide) q2_90 qt2_168 hce hcv hcl ?_
  refine z_astore_n (lv' := [(3, .ref (q9)), (0, .ref (a 0)), (1, .int (zI (x))), (2, .ref (o))]) S dL_limit_20 hl rfl (by decide) rfl (fun ls hl => ?_)
  refine z_iconst S dL_limit_21 ?_
  exact ret _ _ _ _ _ _ _ dL_limit_22 (rfl) hS (trivial) (Nat.le_of_ble_eq_true rfl) (Nat.le_of_ble_eq_true rfl)
set_option maxHeartbeats 4000000 in
set_option maxRecDepth 100000 in
theorem w_dot_1 (l : Launch) (hl0 : l.stackTraces = false) (G : zG) (σ : St) (a : Nat → Nat) (o : Nat) (n0 : Int64) (sv : Value) (v i x : Int) (rv : rg v) (ri : rg i) (rx : rg x) (h1 : ¬ ((0 ≤ v ∧ v ≤ 3) ∧ (0 ≤ i ∧ i ≤ 7))) : Met l yL_dot (wqH yL_dot cL_dot 6 ((Option.some Jvm.ClassFile.FieldType.int)) [((0 : Nat), (13 : Nat), (16 : Nat), (19 : Nat)), ((0 : Nat), (13 : Nat), (20 : Nat), (21 : Nat))]) (rmM 7 113 1 6) (va_Pc [.ref (a 0), .int (zI (v)), .int (zI (i)), .int (zI (x)), .ref (o)] (zK G (fun H => hCyc G σ a H ∧ zXp G H))) (zM (fun _ => False) (some (.int (zI 1))) (fun _ => True)) 1 6 (fun _ => False) := by
  refine z_enterH (by decide +kernel) (Nat.le_of_ble_eq_true rfl) ?_
  intro p env s m below meth cod Q S htab hG hP hS ret ls hl
  have hl : lv_has ls 6 [(0, .ref (a 0)), (1, .int (zI (v))), (2, .int (zI (i))), (3, .int (zI (x))), (4, .ref (o))] := hl
  refine z_aload S dL_dot_0 hl 4 rfl ?_
  refine z_aload_n S dL_dot_2 hl 0 rfl rfl ?_
  refine z_iload_n S dL_dot_3 hl 1 rfl rfl ?_
  refine z_iload_n S dL_dot_4 hl 2 rfl rfl ?_
  refine z_iload_n S dL_dot_5 hl 3 rfl rfl ?_
  refine z_callX S hG hS (x_dot_I l hl0 G σ a v i x rv ri rx h1) ok_X2_dot hP.1.1 zc_X2 rfl q3_92 hP ⟨rfl, rfl, by decide, by decide⟩ ⟨Nat.le_of_ble_eq_true rfl, Nat.le_of_ble_eq_true rfl⟩ rfl (Nat.le_of_ble_eq_true rfl) hl.1 rfl dL_dot_6 (fun q9 ce H_1 hz oq hS hce hcv hcl => ?_)
  refine z_catch S hG htab [] (⟨0, 13, 16, 19⟩ : ExceptionTableEntry) [(⟨0, 13, 20, 21⟩ : ExceptionTableEntry)] rfl (fun z hz => nomatch hz) (by decide) (by decide) q2_89 qt2_97 hce hcv hcl ?_
  refine z_astore (lv' := [(5, .ref (q9)), (0, .ref (a 0)), (1, .int (zI (v))), (2, .int (zI (i))), (3, .int (zI (x))), (4, .ref (o))]) S dL_dot_16 hl (by decide) rfl (fun ls hl => ?_)
  refine z_iconst S dL_dot_18 ?_
  exact ret _ _ _ _ _ _ _ dL_dot_19 (rfl) hS (trivial) (Nat.le_of_ble_eq_true rfl) (Nat.le_of_ble_eq_true rfl)
set_option maxHeartbeats 4000000 in
set_option maxRecDepth 100000 in
theorem w_dot_2 (l : Launch) (hl0 : l.stackTraces = false) (G : zG) (σ : St) (a : Nat → Nat) (o : Nat) (n0 : Int64) (sv : Value) (v i x : Int) (rv : rg v) (ri : rg i) (rx : rg x) (h1 : (0 ≤ v ∧ v ≤ 3) ∧ (0 ≤ i ∧ i ≤ 7)) (h2 : ¬ (0 ≤ x ∧ x ≤ 3)) : Met l yL_dot (wqH yL_dot cL_dot 6 ((Option.some Jvm.ClassFile.FieldType.int)) [((0 : Nat), (13 : Nat), (16 : Nat), (19 : Nat)), ((0 : Nat), (13 : Nat), (20 : Nat), (21 : Nat))]) (rmM 7 113 1 6) (va_Pc [.ref (a 0), .int (zI (v)), .int (zI (i)), .int (zI (x)), .ref (o)] (zK G (fun H => hCyc G σ a H ∧ zXp G H))) (zM (fun _ => False) (some (.int (zI 2))) (fun _ => True)) 1 6 (fun _ => False) := by
  refine z_enterH (by decide +kernel) (Nat.le_of_ble_eq_true rfl) ?_
  intro p env s m below meth cod Q S htab hG hP hS ret ls hl
  have hl : lv_has ls 6 [(0, .ref (a 0)), (1, .int (zI (v))), (2, .int (zI (i))), (3, .int (zI (x))), (4, .ref (o))] := hl
  refine z_aload S dL_dot_0 hl 4 rfl ?_
  refine z_aload_n S dL_dot_2 hl 0 rfl rfl ?_
  refine z_iload_n S dL_dot_3 hl 1 rfl rfl ?_
  refine z_iload_n S dL_dot_4 hl 2 rfl rfl ?_
  refine z_iload_n S dL_dot_5 hl 3 rfl rfl ?_
  refine z_callX S hG hS (x_dot_A l hl0 G σ a v i x rv ri rx h1 h2) ok_X2_dot hP.1.1 zc_X2 rfl q3_92 hP ⟨rfl, rfl, by decide, by decide⟩ ⟨Nat.le_of_ble_eq_true rfl, Nat.le_of_ble_eq_true rfl⟩ rfl (Nat.le_of_ble_eq_true rfl) hl.1 rfl dL_dot_6 (fun q9 ce H_1 hz oq hS hce hcv hcl => ?_)
  refine z_catch S hG htab [(⟨0, 13, 16, 19⟩ : ExceptionTableEntry)] (⟨0, 13, 20, 21⟩ : ExceptionTableEntry) [] rfl (fun z hz => by rcases List.mem_cons.mp hz with rfl | hz; exact ⟨by decide, _, q2_89, hG.2.2.2.2.2.2.2.1.2.2.2.1⟩; cases hz) (by decide) (by decide) q2_90 qt2_168 hce hcv hcl ?_
  refine z_astore (lv' := [(5, .ref (q9)), (0, .ref (a 0)), (1, .int (zI (v))), (2, .int (zI (i))), (3, .int (zI (x))), (4, .ref (o))]) S dL_dot_20 hl (by decide) rfl (fun ls hl => ?_)
  refine z_iconst S dL_dot_22 ?_
  exact ret _ _ _ _ _ _ _ dL_dot_23 (rfl) hS (trivial) (Nat.le_of_ble_eq_true rfl) (Nat.le_of_ble_eq_true rfl)
set_option maxHeartbeats 4000000 in
set_option maxRecDepth 100000 in
theorem w_ofEntry_1 (l : Launch) (hl0 : l.stackTraces = false) (G : zG) (σ : St) (a : Nat → Nat) (o : Nat) (n0 : Int64) (sv : Value) (e x : Int) (re : rg e) (rx : rg x) (h1 : ¬ (0 ≤ e ∧ e ≤ 15)) : Met l yL_ofEntry (wqH yL_ofEntry cL_ofEntry 5 ((Option.some Jvm.ClassFile.FieldType.int)) [((0 : Nat), (11 : Nat), (14 : Nat), (19 : Nat)), ((0 : Nat), (11 : Nat), (18 : Nat), (21 : Nat))]) (rmM 7 112 1 6) (va_Pc [.ref (a 0), .int (zI (e)), .int (zI (x)), .ref (o)] (zK G (fun H => hCyc G σ a H ∧ zXp G H))) (zM (fun _ => False) (some (.int (zI 1))) (fun _ => True)) 1 6 (fun _ => False) := by
  refine z_enterH (by decide +kernel) (Nat.le_of_ble_eq_true rfl) ?_
  intro p env s m below meth cod Q S htab hG hP hS ret ls hl
  have hl : lv_has ls 5 [(0, .ref (a 0)), (1, .int (zI (e))), (2, .int (zI (x))), (3, .ref (o))] := hl
  refine z_aload_n S dL_ofEntry_0 hl 3 rfl rfl ?_
  refine z_aload_n S dL_ofEntry_1 hl 0 rfl rfl ?_
  refine z_iload_n S dL_ofEntry_2 hl 1 rfl rfl ?_
  refine z_iload_n S dL_ofEntry_3 hl 2 rfl rfl ?_
  refine z_callX S hG hS (x_ofEntry_I l hl0 G σ a e x re rx h1) ok_X2_ofEntry hP.1.1 zc_X2 rfl q3_103 hP ⟨rfl, rfl, by decide, by decide⟩ ⟨Nat.le_of_ble_eq_true rfl, Nat.le_of_ble_eq_true rfl⟩ rfl (Nat.le_of_ble_eq_true rfl) hl.1 rfl dL_ofEntry_4 (fun q9 ce H_1 hz oq hS hce hcv hcl => ?_)
  refine z_catch S hG htab [] (⟨0, 11, 14, 19⟩ : ExceptionTableEntry) [(⟨0, 11, 18, 21⟩ : ExceptionTableEntry)] rfl (fun z hz => nomatch hz) (by decide) (by decide) q2_89 qt2_97 hce hcv hcl ?_
  refine z_astore (lv' := [(4, .ref (q9)), (0, .ref (a 0)), (1, .int (zI (e))), (2, .int (zI (x))), (3, .ref (o))]) S dL_ofEntry_14 hl (by decide) rfl (fun ls hl => ?_)
  refine z_iconst S dL_ofEntry_16 ?_
  exact ret _ _ _ _ _ _ _ dL_ofEntry_17 (rfl) hS (trivial) (Nat.le_of_ble_eq_true rfl) (Nat.le_of_ble_eq_true rfl)
set_option maxHeartbeats 4000000 in
set_option maxRecDepth 100000 in
theorem w_ofEntry_2 (l : Launch) (hl0 : l.stackTraces = false) (G : zG) (σ : St) (a : Nat → Nat) (o : Nat) (n0 : Int64) (sv : Value) (e x : Int) (re : rg e) (rx : rg x) (h1 : (0 ≤ e ∧ e ≤ 15)) (h2 : ¬ (0 ≤ x ∧ x ≤ 5)) : Met l yL_ofEntry (wqH yL_ofEntry cL_ofEntry 5 ((Option.some Jvm.ClassFile.FieldType.int)) [((0 : Nat), (11 : Nat), (14 : Nat), (19 : Nat)), ((0 : Nat), (11 : Nat), (18 : Nat), (21 : Nat))]) (rmM 7 112 1 6) (va_Pc [.ref (a 0), .int (zI (e)), .int (zI (x)), .ref (o)] (zK G (fun H => hCyc G σ a H ∧ zXp G H))) (zM (fun _ => False) (some (.int (zI 2))) (fun _ => True)) 1 6 (fun _ => False) := by
  refine z_enterH (by decide +kernel) (Nat.le_of_ble_eq_true rfl) ?_
  intro p env s m below meth cod Q S htab hG hP hS ret ls hl
  have hl : lv_has ls 5 [(0, .ref (a 0)), (1, .int (zI (e))), (2, .int (zI (x))), (3, .ref (o))] := hl
  refine z_aload_n S dL_ofEntry_0 hl 3 rfl rfl ?_
  refine z_aload_n S dL_ofEntry_1 hl 0 rfl rfl ?_
  refine z_iload_n S dL_ofEntry_2 hl 1 rfl rfl ?_
  refine z_iload_n S dL_ofEntry_3 hl 2 rfl rfl ?_
  refine z_callX S hG hS (x_ofEntry_A l hl0 G σ a e x re rx h1 h2) ok_X2_ofEntry hP.1.1 zc_X2 rfl q3_103 hP ⟨rfl, rfl, by decide, by decide⟩ ⟨Nat.le_of_ble_eq_true rfl, Nat.le_of_ble_eq_true rfl⟩ rfl (Nat.le_of_ble_eq_true rfl) hl.1 rfl dL_ofEntry_4 (fun q9 ce H_1 hz oq hS hce hcv hcl => ?_)
  refine z_catch S hG htab [(⟨0, 11, 14, 19⟩ : ExceptionTableEntry)] (⟨0, 11, 18, 21⟩ : ExceptionTableEntry) [] rfl (fun z hz => by rcases List.mem_cons.mp hz with rfl | hz; exact ⟨by decide, _, q2_89, hG.2.2.2.2.2.2.2.1.2.2.2.1⟩; cases hz) (by decide) (by decide) q2_90 qt2_168 hce hcv hcl ?_
  refine z_astore (lv' := [(4, .ref (q9)), (0, .ref (a 0)), (1, .int (zI (e))), (2, .int (zI (x))), (3, .ref (o))]) S dL_ofEntry_18 hl (by decide) rfl (fun ls hl => ?_)
  refine z_iconst S dL_ofEntry_20 ?_
  exact ret _ _ _ _ _ _ _ dL_ofEntry_21 (rfl) hS (trivial) (Nat.le_of_ble_eq_true rfl) (Nat.le_of_ble_eq_true rfl)
set_option maxHeartbeats 4000000 in
set_option maxRecDepth 100000 in
theorem w_ofRange_1 (l : Launch) (hl0 : l.stackTraces = false) (G : zG) (σ : St) (a : Nat → Nat) (o : Nat) (n0 : Int64) (sv : Value) (j x : Int) (rj : rg j) (rx : rg x) (h1 : ¬ (0 ≤ j ∧ j < σ.rn)) : Met l yL_ofRange (wqH yL_ofRange cL_ofRange 5 ((Option.some Jvm.ClassFile.FieldType.int)) [((0 : Nat), (11 : Nat), (14 : Nat), (19 : Nat)), ((0 : Nat), (11 : Nat), (18 : Nat), (21 : Nat))]) (rmM 7 113 1 6) (va_Pc [.ref (a 0), .int (zI (j)), .int (zI (x)), .ref (o)] (zK G (fun H => hCyc G σ a H ∧ zXp G H))) (zM (fun _ => False) (some (.int (zI 1))) (fun _ => True)) 1 6 (fun _ => False) := by
  refine z_enterH (by decide +kernel) (Nat.le_of_ble_eq_true rfl) ?_
  intro p env s m below meth cod Q S htab hG hP hS ret ls hl
  have hl : lv_has ls 5 [(0, .ref (a 0)), (1, .int (zI (j))), (2, .int (zI (x))), (3, .ref (o))] := hl
  refine z_aload_n S dL_ofRange_0 hl 3 rfl rfl ?_
  refine z_aload_n S dL_ofRange_1 hl 0 rfl rfl ?_
  refine z_iload_n S dL_ofRange_2 hl 1 rfl rfl ?_
  refine z_iload_n S dL_ofRange_3 hl 2 rfl rfl ?_
  refine z_callX S hG hS (x_ofRange_I l hl0 G σ a j x rj rx h1) ok_X2_ofRange hP.1.1 zc_X2 rfl q3_111 hP ⟨rfl, rfl, by decide, by decide⟩ ⟨Nat.le_of_ble_eq_true rfl, Nat.le_of_ble_eq_true rfl⟩ rfl (Nat.le_of_ble_eq_true rfl) hl.1 rfl dL_ofRange_4 (fun q9 ce H_1 hz oq hS hce hcv hcl => ?_)
  refine z_catch S hG htab [] (⟨0, 11, 14, 19⟩ : ExceptionTableEntry) [(⟨0, 11, 18, 21⟩ : ExceptionTableEntry)] rfl (fun z hz => nomatch hz) (by decide) (by decide) q2_89 qt2_97 hce hcv hcl ?_
  refine z_astore (lv' := [(4, .ref (q9)), (0, .ref (a 0)), (1, .int (zI (j))), (2, .int (zI (x))), (3, .ref (o))]) S dL_ofRange_14 hl (by decide) rfl (fun ls hl => ?_)
  refine z_iconst S dL_ofRange_16 ?_
  exact ret _ _ _ _ _ _ _ dL_ofRange_17 (rfl) hS (trivial) (Nat.le_of_ble_eq_true rfl) (Nat.le_of_ble_eq_true rfl)
set_option maxHeartbeats 4000000 in
set_option maxRecDepth 100000 in
theorem w_ofRange_2 (l : Launch) (hl0 : l.stackTraces = false) (G : zG) (σ : St) (a : Nat → Nat) (o : Nat) (n0 : Int64) (sv : Value) (j x : Int) (rj : rg j) (rx : rg x) (h1 : 0 ≤ j ∧ j < σ.rn) (h2 : ¬ (0 ≤ x ∧ x ≤ 5)) : Met l yL_ofRange (wqH yL_ofRange cL_ofRange 5 ((Option.some Jvm.ClassFile.FieldType.int)) [((0 : Nat), (11 : Nat), (14 : Nat), (19 : Nat)), ((0 : Nat), (11 : Nat), (18 : Nat), (21 : Nat))]) (rmM 7 113 1 6) (va_Pc [.ref (a 0), .int (zI (j)), .int (zI (x)), .ref (o)] (zK G (fun H => hCyc G σ a H ∧ zXp G H))) (zM (fun _ => False) (some (.int (zI 2))) (fun _ => True)) 1 6 (fun _ => False) := by
  refine z_enterH (by decide +kernel) (Nat.le_of_ble_eq_true rfl) ?_
  intro p env s m below meth cod Q S htab hG hP hS ret ls hl
  have hl : lv_has ls 5 [(0, .ref (a 0)), (1, .int (zI (j))), (2, .int (zI (x))), (3, .ref (o))] := hl
  refine z_aload_n S dL_ofRange_0 hl 3 rfl rfl ?_
  refine z_aload_n S dL_ofRange_1 hl 0 rfl rfl ?_
  refine z_iload_n S dL_ofRange_2 hl 1 rfl rfl ?_
  refine z_iload_n S dL_ofRange_3 hl 2 rfl rfl ?_
  refine z_callX S hG hS (x_ofRange_A l hl0 G σ a j x rj rx h1 h2) ok_X2_ofRange hP.1.1 zc_X2 rfl q3_111 hP ⟨rfl, rfl, by decide, by decide⟩ ⟨Nat.le_of_ble_eq_true rfl, Nat.le_of_ble_eq_true rfl⟩ rfl (Nat.le_of_ble_eq_true rfl) hl.1 rfl dL_ofRange_4 (fun q9 ce H_1 hz oq hS hce hcv hcl => ?_)
  refine z_catch S hG htab [(⟨0, 11, 14, 19⟩ : ExceptionTableEntry)] (⟨0, 11, 18, 21⟩ : ExceptionTableEntry) [] rfl (fun z hz => by rcases List.mem_cons.mp hz with rfl | hz; exact ⟨by decide, _, q2_89, hG.2.2.2.2.2.2.2.1.2.2.2.1⟩; cases hz) (by decide) (by decide) q2_90 qt2_168 hce hcv hcl ?_
  refine z_astore (lv' := [(4, .ref (q9)), (0, .ref (a 0)), (1, .int (zI (j))), (2, .int (zI (x))), (3, .ref (o))]) S dL_ofRange_18 hl (by decide) rfl (fun ls hl => ?_)
  refine z_iconst S dL_ofRange_20 ?_
  exact ret _ _ _ _ _ _ _ dL_ofRange_21 (rfl) hS (trivial) (Nat.le_of_ble_eq_true rfl) (Nat.le_of_ble_eq_true rfl)
set_option maxHeartbeats 4000000 in
set_option maxRecDepth 100000 in
theorem w_picture_1 (l : Launch) (hl0 : l.stackTraces = false) (G : zG) (σ : St) (a : Nat → Nat) (o : Nat) (n0 : Int64) (sv : Value) (x : Int) (rx : rg x) (h1 : ¬ (0 ≤ x ∧ x ≤ 11)) : Met l yL_picture (wqH yL_picture cL_picture 4 ((Option.some Jvm.ClassFile.FieldType.int)) [((0 : Nat), (10 : Nat), (13 : Nat), (21 : Nat))]) (rmM 7 111 1 6) (va_Pc [.ref (a 0), .int (zI (x)), .ref (o)] (zK G (fun H => hCyc G σ a H ∧ zXp G H))) (zM (fun _ => False) (some (.int (zI 1))) (fun _ => True)) 1 6 (fun _ => False) := by
  refine z_enterH (by decide +kernel) (Nat.le_of_ble_eq_true rfl) ?_
  intro p env s m below meth cod Q S htab hG hP hS ret ls hl
  have hl : lv_has ls 4 [(0, .ref (a 0)), (1, .int (zI (x))), (2, .ref (o))] := hl
  refine z_aload_n S dL_picture_0 hl 2 rfl rfl ?_
  refine z_aload_n S dL_picture_1 hl 0 rfl rfl ?_
  refine z_iload_n S dL_picture_2 hl 1 rfl rfl ?_
  refine z_callX S hG hS (x_picture_A l hl0 G σ a x rx h1) ok_X2_picture hP.1.1 zc_X2 rfl q3_118 hP ⟨rfl, rfl, by decide, by decide⟩ ⟨Nat.le_of_ble_eq_true rfl, Nat.le_of_ble_eq_true rfl⟩ rfl (Nat.le_of_ble_eq_true rfl) hl.1 rfl dL_picture_3 (fun q9 ce H_1 hz oq hS hce hcv hcl => ?_)
  refine z_catch S hG htab [] (⟨0, 10, 13, 21⟩ : ExceptionTableEntry) [] rfl (fun z hz => nomatch hz) (by decide) (by decide) q2_90 qt2_168 hce hcv hcl ?_
  refine z_astore_n (lv' := [(3, .ref (q9)), (0, .ref (a 0)), (1, .int (zI (x))), (2, .ref (o))]) S dL_picture_13 hl rfl (by decide) rfl (fun ls hl => ?_)
  refine z_iconst S dL_picture_14 ?_
  exact ret _ _ _ _ _ _ _ dL_picture_15 (rfl) hS (trivial) (Nat.le_of_ble_eq_true rfl) (Nat.le_of_ble_eq_true rfl)
theorem q3_125 : (Jvm.Cond.codeWith ({ cls := "CyclepaintLaw", name := "row", desc := "(LCyclepaint;ILCyclepaintLaw$Out;)I" } : Jvm.MethodName) method_15_code (4 : Nat) (Option.some Jvm.ClassFile.FieldType.int) [((0 : Nat), (9 : Nat), (12 : Nat), (19 : Nat))]) ∈ lw_g := zg_of (zin3 (List.mem_of_getElem? (i := 125) rfl)) rfl
theorem q3_124 : (Jvm.Cond.static ({ cls := "CyclepaintLaw", name := "row", desc := "(LCyclepaint;ILCyclepaintLaw$Out;)I" } : Jvm.MethodName)) ∈ lw_g := zg_of (zin3 (List.mem_of_getElem? (i := 124) rfl)) rfl
theorem okL_row : zOH yL_row cL_row 4 ((Option.some Jvm.ClassFile.FieldType.int)) [((0 : Nat), (9 : Nat), (12 : Nat), (19 : Nat))] 3 := ⟨q3_125, q1_0, q3_124, by decide, by decide, by decide +kernel⟩
theorem dL_row_0 : decode cL_row 0 = .ok (.aload_n 2, 1) := by decide +kernel
theorem dL_row_1 : decode cL_row 1 = .ok (.aload_n 0, 1) := by decide +kernel
theorem dL_row_2 : decode cL_row 2 = .ok (.iload_n 1, 1) := by decide +kernel
theorem dL_row_3 : decode cL_row 3 = .ok (.invokevirtual 66, 3) := by decide +kernel
theorem dL_row_6 : decode cL_row 6 = .ok (.putfield 70, 3) := by decide +kernel
theorem dL_row_9 : decode cL_row 9 = .ok (.goto 6, 3) := by decide +kernel
theorem dL_row_12 : decode cL_row 12 = .ok (.astore_n 3, 1) := by decide +kernel
theorem dL_row_13 : decode cL_row 13 = .ok (.iconst 1, 1) := by decide +kernel
theorem dL_row_14 : decode cL_row 14 = .ok (.ireturn, 1) := by decide +kernel
theorem dL_row_15 : decode cL_row 15 = .ok (.iconst 0, 1) := by decide +kernel
theorem dL_row_16 : decode cL_row 16 = .ok (.ireturn, 1) := by decide +kernel
theorem q3_126 : (Jvm.Cond.methodLink "CyclepaintLaw" (66 : Nat) ({ cls := "Cyclepaint", name := "row", desc := "(I)Ljava/lang/String;" } : Jvm.MethodName)) ∈ lw_g := zg_of (zin3 (List.mem_of_getElem? (i := 126) rfl)) rfl
set_option maxHeartbeats 4000000 in
set_option maxRecDepth 100000 in
theorem w_row_1 (l : Launch) (hl0 : l.stackTraces = false) (G : zG) (σ : St) (a : Nat → Nat) (o : Nat) (n0 : Int64) (sv : Value) (x : Int) (rx : rg x) (h1 : ¬ (0 ≤ x ∧ x ≤ 3)) : Met l yL_row (wqH yL_row cL_row 4 ((Option.some Jvm.ClassFile.FieldType.int)) [((0 : Nat), (9 : Nat), (12 : Nat), (19 : Nat))]) (rmM 7 113 1 6) (va_Pc [.ref (a 0), .int (zI (x)), .ref (o)] (zK G (fun H => hCyc G σ a H ∧ zXp G H))) (zM (fun _ => False) (some (.int (zI 1))) (fun _ => True)) 1 6 (fun _ => False) := by
  refine z_enterH (by decide +kernel) (Nat.le_of_ble_eq_true rfl) ?_
  intro p env s m below meth cod Q S htab hG hP hS ret ls hl
  have hl : lv_has ls 4 [(0, .ref (a 0)), (1, .int (zI (x))), (2, .ref (o))] := hl
  refine z_aload_n S dL_row_0 hl 2 rfl rfl ?_
  refine z_aload_n S dL_row_1 hl 0 rfl rfl ?_
  refine z_iload_n S dL_row_2 hl 1 rfl rfl ?_
  refine z_callX S hG hS (x_row_I l hl0 G σ a x rx h1) ok_X2_row hP.1.1 zc_X2 rfl q3_126 hP ⟨rfl, rfl, by decide, by decide⟩ ⟨Nat.le_of_ble_eq_true rfl, Nat.le_of_ble_eq_true rfl⟩ rfl (Nat.le_of_ble_eq_true rfl) hl.1 rfl dL_row_3 (fun q9 ce H_1 hz oq hS hce hcv hcl => ?_)
  refine z_catch S hG htab [] (⟨0, 9, 12, 19⟩ : ExceptionTableEntry) [] rfl (fun z hz => nomatch hz) (by decide) (by decide) q2_89 qt2_97 hce hcv hcl ?_
  refine z_astore_n (lv' := [(3, .ref (q9)), (0, .ref (a 0)), (1, .int (zI (x))), (2, .ref (o))]) S dL_row_12 hl rfl (by decide) rfl (fun ls hl => ?_)
  refine z_iconst S dL_row_13 ?_
  exact ret _ _ _ _ _ _ _ dL_row_14 (rfl) hS (trivial) (Nat.le_of_ble_eq_true rfl) (Nat.le_of_ble_eq_true rfl)
set_option maxHeartbeats 4000000 in
set_option maxRecDepth 100000 in
theorem w_at_1 (l : Launch) (hl0 : l.stackTraces = false) (G : zG) (σ : St) (a : Nat → Nat) (o : Nat) (n0 : Int64) (sv : Value) (e x : Int) (re : rg e) (rx : rg x) (h1 : ¬ (0 ≤ e ∧ e ≤ 15)) : Met l yL_at (wqH yL_at cL_at 5 ((Option.some Jvm.ClassFile.FieldType.int)) [((0 : Nat), (11 : Nat), (14 : Nat), (19 : Nat)), ((0 : Nat), (11 : Nat), (18 : Nat), (21 : Nat))]) (rmM 7 112 1 6) (va_Pc [.ref (a 0), .int (zI (e)), .int (zI (x)), .ref (o)] (zK G (fun H => hCyc G σ a H ∧ zXp G H))) (zM (fun _ => False) (some (.int (zI 1))) (fun _ => True)) 1 6 (fun _ => False) := by
  refine z_enterH (by decide +kernel) (Nat.le_of_ble_eq_true rfl) ?_
  intro p env s m below meth cod Q S htab hG hP hS ret ls hl
  have hl : lv_has ls 5 [(0, .ref (a 0)), (1, .int (zI (e))), (2, .int (zI (x))), (3, .ref (o))] := hl
  refine z_aload_n S dL_at_0 hl 3 rfl rfl ?_
  refine z_aload_n S dL_at_1 hl 0 rfl rfl ?_
  refine z_iload_n S dL_at_2 hl 1 rfl rfl ?_
  refine z_iload_n S dL_at_3 hl 2 rfl rfl ?_
  refine z_callX S hG hS (x_at_I l hl0 G σ a e x re rx h1) ok_X2_at hP.1.1 zc_X2 rfl q4_157 hP ⟨rfl, rfl, by decide, by decide⟩ ⟨Nat.le_of_ble_eq_true rfl, Nat.le_of_ble_eq_true rfl⟩ rfl (Nat.le_of_ble_eq_true rfl) hl.1 rfl dL_at_4 (fun q9 ce H_1 hz oq hS hce hcv hcl => ?_)
  refine z_catch S hG htab [] (⟨0, 11, 14, 19⟩ : ExceptionTableEntry) [(⟨0, 11, 18, 21⟩ : ExceptionTableEntry)] rfl (fun z hz => nomatch hz) (by decide) (by decide) q2_89 qt2_97 hce hcv hcl ?_
  refine z_astore (lv' := [(4, .ref (q9)), (0, .ref (a 0)), (1, .int (zI (e))), (2, .int (zI (x))), (3, .ref (o))]) S dL_at_14 hl (by decide) rfl (fun ls hl => ?_)
  refine z_iconst S dL_at_16 ?_
  exact ret _ _ _ _ _ _ _ dL_at_17 (rfl) hS (trivial) (Nat.le_of_ble_eq_true rfl) (Nat.le_of_ble_eq_true rfl)
set_option maxHeartbeats 4000000 in
set_option maxRecDepth 100000 in
theorem w_at_2 (l : Launch) (hl0 : l.stackTraces = false) (G : zG) (σ : St) (a : Nat → Nat) (o : Nat) (n0 : Int64) (sv : Value) (e x : Int) (re : rg e) (rx : rg x) (h1 : (0 ≤ e ∧ e ≤ 15)) (h2 : ¬ (0 ≤ x ∧ x ≤ 99999)) : Met l yL_at (wqH yL_at cL_at 5 ((Option.some Jvm.ClassFile.FieldType.int)) [((0 : Nat), (11 : Nat), (14 : Nat), (19 : Nat)), ((0 : Nat), (11 : Nat), (18 : Nat), (21 : Nat))]) (rmM 7 112 1 6) (va_Pc [.ref (a 0), .int (zI (e)), .int (zI (x)), .ref (o)] (zK G (fun H => hCyc G σ a H ∧ zXp G H))) (zM (fun _ => False) (some (.int (zI 2))) (fun _ => True)) 1 6 (fun _ => False) := by
  refine z_enterH (by decide +kernel) (Nat.le_of_ble_eq_true rfl) ?_
  intro p env s m below meth cod Q S htab hG hP hS ret ls hl
  have hl : lv_has ls 5 [(0, .ref (a 0)), (1, .int (zI (e))), (2, .int (zI (x))), (3, .ref (o))] := hl
  refine z_aload_n S dL_at_0 hl 3 rfl rfl ?_
  refine z_aload_n S dL_at_1 hl 0 rfl rfl ?_
  refine z_iload_n S dL_at_2 hl 1 rfl rfl ?_
  refine z_iload_n S dL_at_3 hl 2 rfl rfl ?_
  refine z_callX S hG hS (x_at_A l hl0 G σ a e x re rx h1 h2) ok_X2_at hP.1.1 zc_X2 rfl q4_157 hP ⟨rfl, rfl, by decide, by decide⟩ ⟨Nat.le_of_ble_eq_true rfl, Nat.le_of_ble_eq_true rfl⟩ rfl (Nat.le_of_ble_eq_true rfl) hl.1 rfl dL_at_4 (fun q9 ce H_1 hz oq hS hce hcv hcl => ?_)
  refine z_catch S hG htab [(⟨0, 11, 14, 19⟩ : ExceptionTableEntry)] (⟨0, 11, 18, 21⟩ : ExceptionTableEntry) [] rfl (fun z hz => by rcases List.mem_cons.mp hz with rfl | hz; exact ⟨by decide, _, q2_89, hG.2.2.2.2.2.2.2.1.2.2.2.1⟩; cases hz) (by decide) (by decide) q2_90 qt2_168 hce hcv hcl ?_
  refine z_astore (lv' := [(4, .ref (q9)), (0, .ref (a 0)), (1, .int (zI (e))), (2, .int (zI (x))), (3, .ref (o))]) S dL_at_18 hl (by decide) rfl (fun ls hl => ?_)
  refine z_iconst S dL_at_20 ?_
  exact ret _ _ _ _ _ _ _ dL_at_21 (rfl) hS (trivial) (Nat.le_of_ble_eq_true rfl) (Nat.le_of_ble_eq_true rfl)
set_option maxHeartbeats 4000000 in
set_option maxRecDepth 100000 in
theorem w_find_1 (l : Launch) (hl0 : l.stackTraces = false) (G : zG) (σ : St) (a : Nat → Nat) (o : Nat) (n0 : Int64) (sv : Value) (e x f : Int) (re : rg e) (rx : rg x) (rf : rg f) (h1 : ¬ (0 ≤ e ∧ e ≤ 15)) : Met l yL_find (wqH yL_find cL_find 6 ((Option.some Jvm.ClassFile.FieldType.int)) [((0 : Nat), (13 : Nat), (16 : Nat), (19 : Nat)), ((0 : Nat), (13 : Nat), (20 : Nat), (21 : Nat))]) (rmM 7 113 1 6) (va_Pc [.ref (a 0), .int (zI (e)), .int (zI (x)), .int (zI (f)), .ref (o)] (zK G (fun H => hCyc G σ a H ∧ zXp G H))) (zM (fun _ => False) (some (.int (zI 1))) (fun _ => True)) 1 6 (fun _ => False) := by
  refine z_enterH (by decide +kernel) (Nat.le_of_ble_eq_true rfl) ?_
  intro p env s m below meth cod Q S htab hG hP hS ret ls hl
  have hl : lv_has ls 6 [(0, .ref (a 0)), (1, .int (zI (e))), (2, .int (zI (x))), (3, .int (zI (f))), (4, .ref (o))] := hl
  refine z_aload S dL_find_0 hl 4 rfl ?_
  refine z_aload_n S dL_find_2 hl 0 rfl rfl ?_
  refine z_iload_n S dL_find_3 hl 1 rfl rfl ?_
  refine z_iload_n S dL_find_4 hl 2 rfl rfl ?_
  refine z_iload_n S dL_find_5 hl 3 rfl rfl ?_
  refine z_callX S hG hS (x_find_I l hl0 G σ a e x f re rx rf h1) ok_X2_find hP.1.1 zc_X2 rfl q4_164 hP ⟨rfl, rfl, by decide, by decide⟩ ⟨Nat.le_of_ble_eq_true rfl, Nat.le_of_ble_eq_true rfl⟩ rfl (Nat.le_of_ble_eq_true rfl) hl.1 rfl dL_find_6 (fun q9 ce H_1 hz oq hS hce hcv hcl => ?_)
  refine z_catch S hG htab [] (⟨0, 13, 16, 19⟩ : ExceptionTableEntry) [(⟨0, 13, 20, 21⟩ : ExceptionTableEntry)] rfl (fun z hz => nomatch hz) (by decide) (by decide) q2_89 qt2_97 hce hcv hcl ?_
  refine z_astore (lv' := [(5, .ref (q9)), (0, .ref (a 0)), (1, .int (zI (e))), (2, .int (zI (x))), (3, .int (zI (f))), (4, .ref (o))]) S dL_find_16 hl (by decide) rfl (fun ls hl => ?_)
  refine z_iconst S dL_find_18 ?_
  exact ret _ _ _ _ _ _ _ dL_find_19 (rfl) hS (trivial) (Nat.le_of_ble_eq_true rfl) (Nat.le_of_ble_eq_true rfl)
set_option maxHeartbeats 4000000 in
set_option maxRecDepth 100000 in
theorem w_find_2 (l : Launch) (hl0 : l.stackTraces = false) (G : zG) (σ : St) (a : Nat → Nat) (o : Nat) (n0 : Int64) (sv : Value) (e x f : Int) (re : rg e) (rx : rg x) (rf : rg f) (h1 : (0 ≤ e ∧ e ≤ 15)) (h2 : ¬ ((0 ≤ x ∧ x ≤ 63) ∧ (0 ≤ f ∧ f ≤ 99999))) : Met l yL_find (wqH yL_find cL_find 6 ((Option.some Jvm.ClassFile.FieldType.int)) [((0 : Nat), (13 : Nat), (16 : Nat), (19 : Nat)), ((0 : Nat), (13 : Nat), (20 : Nat), (21 : Nat))]) (rmM 7 113 1 6) (va_Pc [.ref (a 0), .int (zI (e)), .int (zI (x)), .int (zI (f)), .ref (o)] (zK G (fun H => hCyc G σ a H ∧ zXp G H))) (zM (fun _ => False) (some (.int (zI 2))) (fun _ => True)) 1 6 (fun _ => False) := by
  refine z_enterH (by decide +kernel) (Nat.le_of_ble_eq_true rfl) ?_
  intro p env s m below meth cod Q S htab hG hP hS ret ls hl
  have hl : lv_has ls 6 [(0, .ref (a 0)), (1, .int (zI (e))), (2, .int (zI (x))), (3, .int (zI (f))), (4, .ref (o))] := hl
  refine z_aload S dL_find_0 hl 4 rfl ?_
  refine z_aload_n S dL_find_2 hl 0 rfl rfl ?_
  refine z_iload_n S dL_find_3 hl 1 rfl rfl ?_
  refine z_iload_n S dL_find_4 hl 2 rfl rfl ?_
  refine z_iload_n S dL_find_5 hl 3 rfl rfl ?_
  refine z_callX S hG hS (x_find_A l hl0 G σ a e x f re rx rf h1 h2) ok_X2_find hP.1.1 zc_X2 rfl q4_164 hP ⟨rfl, rfl, by decide, by decide⟩ ⟨Nat.le_of_ble_eq_true rfl, Nat.le_of_ble_eq_true rfl⟩ rfl (Nat.le_of_ble_eq_true rfl) hl.1 rfl dL_find_6 (fun q9 ce H_1 hz oq hS hce hcv hcl => ?_)
  refine z_catch S hG htab [(⟨0, 13, 16, 19⟩ : ExceptionTableEntry)] (⟨0, 13, 20, 21⟩ : ExceptionTableEntry) [] rfl (fun z hz => by rcases List.mem_cons.mp hz with rfl | hz; exact ⟨by decide, _, q2_89, hG.2.2.2.2.2.2.2.1.2.2.2.1⟩; cases hz) (by decide) (by decide) q2_90 qt2_168 hce hcv hcl ?_
  refine z_astore (lv' := [(5, .ref (q9)), (0, .ref (a 0)), (1, .int (zI (e))), (2, .int (zI (x))), (3, .int (zI (f))), (4, .ref (o))]) S dL_find_20 hl (by decide) rfl (fun ls hl => ?_)
  refine z_iconst S dL_find_22 ?_
  exact ret _ _ _ _ _ _ _ dL_find_23 (rfl) hS (trivial) (Nat.le_of_ble_eq_true rfl) (Nat.le_of_ble_eq_true rfl)
set_option maxHeartbeats 4000000 in
set_option maxRecDepth 100000 in
theorem w_meet_1 (l : Launch) (hl0 : l.stackTraces = false) (G : zG) (σ : St) (a : Nat → Nat) (o : Nat) (n0 : Int64) (sv : Value) (e x f y : Int) (re : rg e) (rx : rg x) (rf : rg f) (ry : rg y) (h1 : ¬ ((0 ≤ e ∧ e ≤ 15) ∧ (0 ≤ f ∧ f ≤ 15))) : Met l yL_meet (wqH yL_meet cL_meet 7 ((Option.some Jvm.ClassFile.FieldType.int)) [((0 : Nat), (15 : Nat), (18 : Nat), (19 : Nat)), ((0 : Nat), (15 : Nat), (22 : Nat), (21 : Nat))]) (rmM 7 114 1 6) (va_Pc [.ref (a 0), .int (zI (e)), .int (zI (x)), .int (zI (f)), .int (zI (y)), .ref (o)] (zK G (fun H => hCyc G σ a H ∧ zXp G H))) (zM (fun _ => False) (some (.int (zI 1))) (fun _ => True)) 1 6 (fun _ => False) := by
  refine z_enterH (by decide +kernel) (Nat.le_of_ble_eq_true rfl) ?_
  intro p env s m below meth cod Q S htab hG hP hS ret ls hl
  have hl : lv_has ls 7 [(0, .ref (a 0)), (1, .int (zI (e))), (2, .int (zI (x))), (3, .int (zI (f))), (4, .int (zI (y))), (5, .ref (o))] := hl
  refine z_aload S dL_meet_0 hl 5 rfl ?_
  refine z_aload_n S dL_meet_2 hl 0 rfl rfl ?_
  refine z_iload_n S dL_meet_3 hl 1 rfl rfl ?_
  refine z_iload_n S dL_meet_4 hl 2 rfl rfl ?_
  refine z_iload_n S dL_meet_5 hl 3 rfl rfl ?_
  refine z_iload S dL_meet_6 hl 4 rfl ?_
  refine z_callX S hG hS (x_meet_I l hl0 G σ a e x f y re rx rf ry h1) ok_X2_meet hP.1.1 zc_X2 rfl q4_172 hP ⟨rfl, rfl, by decide, by decide⟩ ⟨Nat.le_of_ble_eq_true rfl, Nat.le_of_ble_eq_true rfl⟩ rfl (Nat.le_of_ble_eq_true rfl) hl.1 rfl dL_meet_8 (fun q9 ce H_1 hz oq hS hce hcv hcl => ?_)
  refine z_catch S hG htab [] (⟨0, 15, 18, 19⟩ : ExceptionTableEntry) [(⟨0, 15, 22, 21⟩ : ExceptionTableEntry)] rfl (fun z hz => nomatch hz) (by decide) (by decide) q2_89 qt2_97 hce hcv hcl ?_
  refine z_astore (lv' := [(6, .ref (q9)), (0, .ref (a 0)), (1, .int (zI (e))), (2, .int (zI (x))), (3, .int (zI (f))), (4, .int (zI (y))), (5, .ref (o))]) S dL_meet_18 hl (by decide) rfl (fun ls hl => ?_)
  refine z_iconst S dL_meet_20 ?_
  exact ret _ _ _ _ _ _ _ dL_meet_21 (rfl) hS (trivial) (Nat.le_of_ble_eq_true rfl) (Nat.le_of_ble_eq_true rfl)
set_option maxHeartbeats 4000000 in
set_option maxRecDepth 100000 in
theorem w_meet_2 (l : Launch) (hl0 : l.stackTraces = false) (G : zG) (σ : St) (a : Nat → Nat) (o : Nat) (n0 : Int64) (sv : Value) (e x f y : Int) (re : rg e) (rx : rg x) (rf : rg f) (ry : rg y) (h1 : (0 ≤ e ∧ e ≤ 15) ∧ (0 ≤ f ∧ f ≤ 15)) (h2 : ¬ ((0 ≤ x ∧ x ≤ 63) ∧ (0 ≤ y ∧ y ≤ 63))) : Met l yL_meet (wqH yL_meet cL_meet 7 ((Option.some Jvm.ClassFile.FieldType.int)) [((0 : Nat), (15 : Nat), (18 : Nat), (19 : Nat)), ((0 : Nat), (15 : Nat), (22 : Nat), (21 : Nat))]) (rmM 7 114 1 6) (va_Pc [.ref (a 0), .int (zI (e)), .int (zI (x)), .int (zI (f)), .int (zI (y)), .ref (o)] (zK G (fun H => hCyc G σ a H ∧ zXp G H))) (zM (fun _ => False) (some (.int (zI 2))) (fun _ => True)) 1 6 (fun _ => False) := by
  refine z_enterH (by decide +kernel) (Nat.le_of_ble_eq_true rfl) ?_
  intro p env s m below meth cod Q S htab hG hP hS ret ls hl
  have hl : lv_has ls 7 [(0, .ref (a 0)), (1, .int (zI (e))), (2, .int (zI (x))), (3, .int (zI (f))), (4, .int (zI (y))), (5, .ref (o))] := hl
  refine z_aload S dL_meet_0 hl 5 rfl ?_
  refine z_aload_n S dL_meet_2 hl 0 rfl rfl ?_
  refine z_iload_n S dL_meet_3 hl 1 rfl rfl ?_
  refine z_iload_n S dL_meet_4 hl 2 rfl rfl ?_
  refine z_iload_n S dL_meet_5 hl 3 rfl rfl ?_
  refine z_iload S dL_meet_6 hl 4 rfl ?_
  refine z_callX S hG hS (x_meet_A l hl0 G σ a e x f y re rx rf ry h1 h2) ok_X2_meet hP.1.1 zc_X2 rfl q4_172 hP ⟨rfl, rfl, by decide, by decide⟩ ⟨Nat.le_of_ble_eq_true rfl, Nat.le_of_ble_eq_true rfl⟩ rfl (Nat.le_of_ble_eq_true rfl) hl.1 rfl dL_meet_8 (fun q9 ce H_1 hz oq hS hce hcv hcl => ?_)
  refine z_catch S hG htab [(⟨0, 15, 18, 19⟩ : ExceptionTableEntry)] (⟨0, 15, 22, 21⟩ : ExceptionTableEntry) [] rfl (fun z hz => by rcases List.mem_cons.mp hz with rfl | hz; exact ⟨by decide, _, q2_89, hG.2.2.2.2.2.2.2.1.2.2.2.1⟩; cases hz) (by decide) (by decide) q2_90 qt2_168 hce hcv hcl ?_
  refine z_astore (lv' := [(6, .ref (q9)), (0, .ref (a 0)), (1, .int (zI (e))), (2, .int (zI (x))), (3, .int (zI (f))), (4, .int (zI (y))), (5, .ref (o))]) S dL_meet_22 hl (by decide) rfl (fun ls hl => ?_)
  refine z_iconst S dL_meet_24 ?_
  exact ret _ _ _ _ _ _ _ dL_meet_25 (rfl) hS (trivial) (Nat.le_of_ble_eq_true rfl) (Nat.le_of_ble_eq_true rfl)
set_option maxHeartbeats 4000000 in
set_option maxRecDepth 100000 in
theorem w_when_1 (l : Launch) (hl0 : l.stackTraces = false) (G : zG) (σ : St) (a : Nat → Nat) (o : Nat) (n0 : Int64) (sv : Value) (n : Int) (rn : rg n) (h1 : ¬ (0 ≤ n ∧ n < σ.kn)) : Met l yL_when (wqH yL_when cL_when 4 ((Option.some Jvm.ClassFile.FieldType.int)) [((0 : Nat), (10 : Nat), (13 : Nat), (19 : Nat))]) (rmM 7 111 1 6) (va_Pc [.ref (a 0), .int (zI (n)), .ref (o)] (zK G (fun H => hCyc G σ a H ∧ zXp G H))) (zM (fun _ => False) (some (.int (zI 1))) (fun _ => True)) 1 6 (fun _ => False) := by
  refine z_enterH (by decide +kernel) (Nat.le_of_ble_eq_true rfl) ?_
  intro p env s m below meth cod Q S htab hG hP hS ret ls hl
  have hl : lv_has ls 4 [(0, .ref (a 0)), (1, .int (zI (n))), (2, .ref (o))] := hl
  refine z_aload_n S dL_when_0 hl 2 rfl rfl ?_
  refine z_aload_n S dL_when_1 hl 0 rfl rfl ?_
  refine z_iload_n S dL_when_2 hl 1 rfl rfl ?_
  refine z_callX S hG hS (x_when_I l hl0 G σ a n rn h1) ok_X2_when hP.1.1 zc_X2 rfl q4_179 hP ⟨rfl, rfl, by decide, by decide⟩ ⟨Nat.le_of_ble_eq_true rfl, Nat.le_of_ble_eq_true rfl⟩ rfl (Nat.le_of_ble_eq_true rfl) hl.1 rfl dL_when_3 (fun q9 ce H_1 hz oq hS hce hcv hcl => ?_)
  refine z_catch S hG htab [] (⟨0, 10, 13, 19⟩ : ExceptionTableEntry) [] rfl (fun z hz => nomatch hz) (by decide) (by decide) q2_89 qt2_97 hce hcv hcl ?_
  refine z_astore_n (lv' := [(3, .ref (q9)), (0, .ref (a 0)), (1, .int (zI (n))), (2, .ref (o))]) S dL_when_13 hl rfl (by decide) rfl (fun ls hl => ?_)
  refine z_iconst S dL_when_14 ?_
  exact ret _ _ _ _ _ _ _ dL_when_15 (rfl) hS (trivial) (Nat.le_of_ble_eq_true rfl) (Nat.le_of_ble_eq_true rfl)
set_option maxHeartbeats 4000000 in
set_option maxRecDepth 100000 in
theorem w_lightest_1 (l : Launch) (hl0 : l.stackTraces = false) (G : zG) (σ : St) (a : Nat → Nat) (o : Nat) (n0 : Int64) (sv : Value) (n : Int) (rn : rg n) (h1 : ¬ (1 ≤ n ∧ n ≤ 200)) : Met l yL_lightest (wqH yL_lightest cL_lightest 4 ((Option.some Jvm.ClassFile.FieldType.int)) [((0 : Nat), (10 : Nat), (13 : Nat), (21 : Nat))]) (rmM 7 111 1 6) (va_Pc [.ref (a 0), .int (zI (n)), .ref (o)] (zK G (fun H => hCyc G σ a H ∧ zXp G H))) (zM (fun _ => False) (some (.int (zI 1))) (fun _ => True)) 1 6 (fun _ => False) := by
  refine z_enterH (by decide +kernel) (Nat.le_of_ble_eq_true rfl) ?_
  intro p env s m below meth cod Q S htab hG hP hS ret ls hl
  have hl : lv_has ls 4 [(0, .ref (a 0)), (1, .int (zI (n))), (2, .ref (o))] := hl
  refine z_aload_n S dL_lightest_0 hl 2 rfl rfl ?_
  refine z_aload_n S dL_lightest_1 hl 0 rfl rfl ?_
  refine z_iload_n S dL_lightest_2 hl 1 rfl rfl ?_
  refine z_callX S hG hS (x_lightest_A l hl0 G σ a n rn h1) ok_X2_lightest hP.1.1 zc_X2 rfl q4_187 hP ⟨rfl, rfl, by decide, by decide⟩ ⟨Nat.le_of_ble_eq_true rfl, Nat.le_of_ble_eq_true rfl⟩ rfl (Nat.le_of_ble_eq_true rfl) hl.1 rfl dL_lightest_3 (fun q9 ce H_1 hz oq hS hce hcv hcl => ?_)
  refine z_catch S hG htab [] (⟨0, 10, 13, 21⟩ : ExceptionTableEntry) [] rfl (fun z hz => nomatch hz) (by decide) (by decide) q2_90 qt2_168 hce hcv hcl ?_
  refine z_astore_n (lv' := [(3, .ref (q9)), (0, .ref (a 0)), (1, .int (zI (n))), (2, .ref (o))]) S dL_lightest_13 hl rfl (by decide) rfl (fun ls hl => ?_)
  refine z_iconst S dL_lightest_14 ?_
  exact ret _ _ _ _ _ _ _ dL_lightest_15 (rfl) hS (trivial) (Nat.le_of_ble_eq_true rfl) (Nat.le_of_ble_eq_true rfl)
