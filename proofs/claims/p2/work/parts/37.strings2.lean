/-! ===== calls on a text being built, on a literal ===== -/
section ZS2
variable {p : Program} {l : Launch} {e : Env} {R : Room} {s : State} {m : MethodId} {args : Array Value} {below : List Frame} {meth : Method} {c : Code} {H : Heap} {locs : List Loc} {cells slots : Nat} {Q : State → Prop}
variable {cc : ByteArray} {nL : Nat} {own : String} {pc : Nat} {ls : Array Slot} {rest : List Value} {G : zG} {A : Nat → Prop} {H0 : Heap}
/-- a private method, asked of an object of a class below its own -/
theorem z_selP (S : CallFix p m c cc nL s args lw_g own) {C : String} {x y : MethodName} (hx : Cond.selects C x x ∈ lw_g) (hc : x.cls = y.cls) (hy : y.cls ≠ "java/lang/invoke/MethodHandle" ∧ y.cls ≠ "java/lang/invoke/VarHandle") (hp : Cond.privateMethod y ∈ lw_tbl ∧ goodWord (Cond.privateMethod y) = true) (hi : Cond.instanceMethod y ∈ lw_g) : (Cond.selects C y y).before args s = true := by
  have hq := S.2.2.2.2 _ (zg_of hp.1 hp.2)
  obtain ⟨k1, k2, k3, g1, -, g3, -, kc, g5, g6⟩ := Cond.selects_spec (S.2.2.2.2 _ hx)
  obtain ⟨i1, i2, j1, j2, -, -⟩ := Cond.instanceMethod_spec (S.2.2.2.2 _ hi)
  have e1 : i1.cls = k3.cls := Option.some.inj ((findClass_of_methodNamed j1).symm.trans (hc ▸ findClass_of_methodNamed g3))
  have e2 := State.methodFound?_of_named j1 hy
  have e3 : selectMethod {} s.vm k1 i1 = .method i1 := selectMethod_private j2 (Cond.privateMethod_at hq i1 i2 j1 j2)
  simp only [Cond.before, Cond.holds, Cond.value, g1, e2, j1, e3, e1, g5]
  simp; exact g6
theorem z_callQ (S : CallFix p m c cc nL s args lw_g own) (hG : zKn G s) (hS : va_S A H0 H locs) {y : MethodName} {bytes : ByteArray} {maxL na index mc ms : Nat} {ret : Option FieldType} {rm : Room} {P B : Heap → Prop} {A1 : Nat → Prop} {v : Option Value} {As st : List Value} {b : Nat} {C : String} (hM : Met l y (wq y bytes maxL ret) rm (va_Pc (.ref b :: As) (zK G P)) (zM A1 v B) mc ms A1) (hA : ∀ q, A1 q → A q) (hY : zOK y bytes maxL ret na) (hin : Cond.instanceMethod y ∈ lw_g) (hsel : (Cond.selects C y y).before args s = true) (hrc : ∃ cell : Cell, H[b]? = some cell ∧ cell.vm.isStatics = false ∧ s.vm.findClass C = some cell.cls) (hl : Cond.methodLink own index y ∈ lw_g) (hP : P H) (hR : zRM R rm maxL mc ms) (hcs : cells + mc ≤ R.cells ∧ slots + ms ≤ R.slots) (hn : As.length = na) (hrest : (rest.map fun v => v.category).sum ≤ 8) (hlz : ls.size = nL) (hst : st = As.reverse ++ .ref b :: rest) (d : decode cc pc = .ok (.invokevirtual index, 3))
    (kk : ∀ (H1 : Heap) (locs1 : List Loc), B H1 → H.size ≤ H1.size → (∀ q : Nat, q < H.size → ¬ A1 q → H1[q]? = H[q]?) → va_S A H0 H1 locs1 → W p l e R s m args below meth c H1 locs1 (cells + mc) (slots + ms) Q (F0 m (pc + 3) ls (v.toList ++ rest))) : W p l e R s m args below meth c H locs cells slots Q (F0 m pc ls st) :=
  z_mend (va_runV S hM (C := C) ⟨z_cbM S hY hl hR, S.2.2.2.2 _ hin, hsel⟩ ⟨z_blind, hrc, fun U hU hW => ⟨rfl, by rw [hU]; exact hP, zKn.moved hW hG⟩⟩ rfl hn hlz hst (lv_room hrest) d hcs) hS hA kk
theorem z_callQr (S : CallFix p m c cc nL s args lw_g own) (hG : zKn G s) {y : MethodName} {bytes : ByteArray} {maxL na index : Nat} {ret : Option FieldType} {rm : Room} {P : Heap → Prop} {x : Value} {As st : List Value} {b : Nat} {C : String} (hM : Met l y (wq y bytes maxL ret) rm (va_Pc (.ref b :: As) (zK G P)) (zQ (some x)) 0 0 zF) (hY : zOK y bytes maxL ret na) (hin : Cond.instanceMethod y ∈ lw_g) (hsel : (Cond.selects C y y).before args s = true) (hrc : ∃ cell : Cell, H[b]? = some cell ∧ cell.vm.isStatics = false ∧ s.vm.findClass C = some cell.cls) (hl : Cond.methodLink own index y ∈ lw_g) (hP : P H) (hR : zR R rm maxL) (hcs : cells ≤ R.cells ∧ slots ≤ R.slots) (hn : As.length = na) (hrest : (rest.map fun v => v.category).sum ≤ 8) (hlz : ls.size = nL) (hst : st = As.reverse ++ .ref b :: rest) (d : decode cc pc = .ok (.invokevirtual index, 3)) (kk : W p l e R s m args below meth c H locs cells slots Q (F0 m (pc + 3) ls (x :: rest))) : W p l e R s m args below meth c H locs cells slots Q (F0 m pc ls st) :=
  z_cend (W.runV S hM (C := C) ⟨z_cb S hY hl hR, S.2.2.2.2 _ hin, hsel⟩ ⟨z_blind, hrc, fun U hU hW => ⟨rfl, by rw [hU]; exact hP, zKn.moved hW hG⟩⟩ rfl hn hlz hst (lv_room hrest) d hcs) kk
/-- what the reference names is overridden -/
theorem z_callO (S : CallFix p m c cc nL s args lw_g own) (hG : zKn G s) (hS : va_S A H0 H locs) {x y : MethodName} {bytes b0 : ByteArray} {maxL m0 na index mc ms : Nat} {ret r0 : Option FieldType} {rm : Room} {P B : Heap → Prop} {A1 : Nat → Prop} {v : Option Value} {As st : List Value} {b : Nat} {C : String} (hM : Met l y (wq y bytes maxL ret) rm (va_Pc (.ref b :: As) (zK G P)) (zM A1 v B) mc ms A1) (hA : ∀ q, A1 q → A q) (hY : zOK y bytes maxL ret na) (hin : Cond.instanceMethod y ∈ lw_g) (hsel : Cond.selects C x y ∈ lw_g) (hsm : Cond.sameMethod x.cls x.cls x.name x.desc ∈ lw_g) (hix : Cond.instanceMethod x ∈ lw_g) (hcx : Cond.code x b0 m0 r0 ∈ lw_g) (hdx : x.cls ≠ "java/lang/invoke/MethodHandle" ∧ x.cls ≠ "java/lang/invoke/VarHandle" ∧ (parseMethodDescriptor x.desc).map (fun d => d.parameters.length) = some na) (hrc : ∃ cell : Cell, H[b]? = some cell ∧ cell.vm.isStatics = false ∧ s.vm.findClass C = some cell.cls) (hl : Cond.methodLink own index x ∈ lw_g) (hP : P H) (hR : zRM R rm maxL mc ms) (hcs : cells + mc ≤ R.cells ∧ slots + ms ≤ R.slots) (hn : As.length = na) (hrest : (rest.map fun v => v.category).sum ≤ 8) (hlz : ls.size = nL) (hst : st = As.reverse ++ .ref b :: rest) (d : decode cc pc = .ok (.invokevirtual index, 3))
    (kk : ∀ (H1 : Heap) (locs1 : List Loc), B H1 → H.size ≤ H1.size → (∀ q : Nat, q < H.size → ¬ A1 q → H1[q]? = H[q]?) → va_S A H0 H1 locs1 → W p l e R s m args below meth c H1 locs1 (cells + mc) (slots + ms) Q (F0 m (pc + 3) ls (v.toList ++ rest))) : W p l e R s m args below meth c H locs cells slots Q (F0 m pc ls st) :=
  z_mend (va_runU (owner := x.cls) (C := C) (x := x) (n := na) S hM ⟨⟨hR.1, hR.2.1, hR.2.2.1, hR.2.2.2, pay_in S.2.2.2.2 (zgood_wq hY.1), List.mem_cons_self⟩, S.2.2.2.2 _ hY.1, S.2.2.2.2 _ hY.2.1, ⟨hdx.1, hdx.2.1⟩, fun sig h => by
      have h2 := hdx.2.2
      rw [h] at h2
      exact (Option.some.inj h2).symm, S.2.2.2.2 _ hl, S.2.2.2.2 _ hsm, va_Decl.of (S.2.2.2.2 _ hix) (S.2.2.2.2 _ hcx), S.2.2.2.2 _ hsel, S.2.2.2.2 _ hin⟩ ⟨z_blind, hrc, fun U hU hW => ⟨rfl, by rw [hU]; exact hP, zKn.moved hW hG⟩⟩ rfl hn hlz hst (lv_room hrest) d hcs) hS hA kk
theorem z_callSM (S : CallFix p m c cc nL s args lw_g own) (hG : zKn G s) (hS : va_S A H0 H locs) {y : MethodName} {bytes : ByteArray} {maxL na index mc ms : Nat} {ret : Option FieldType} {rm : Room} {P B : Heap → Prop} {A1 : Nat → Prop} {v : Option Value} {As st : List Value} (hM : Met l y (wq y bytes maxL ret) rm (va_Pc As (zK G P)) (zM A1 v B) mc ms A1) (hA : ∀ q, A1 q → A q) (hY : zOS y bytes maxL ret na) (hl : Cond.methodLink own index y ∈ lw_g) (hP : P H) (hR : zRM R rm maxL mc ms) (hcs : cells + mc ≤ R.cells ∧ slots + ms ≤ R.slots) (hn : As.length = na) (hrest : (rest.map fun v => v.category).sum ≤ 8) (hlz : ls.size = nL) (hst : st = As.reverse ++ rest) (d : decode cc pc = .ok (.invokestatic index, 3))
    (kk : ∀ (H1 : Heap) (locs1 : List Loc), B H1 → H.size ≤ H1.size → (∀ q : Nat, q < H.size → ¬ A1 q → H1[q]? = H[q]?) → va_S A H0 H1 locs1 → W p l e R s m args below meth c H1 locs1 (cells + mc) (slots + ms) Q (F0 m (pc + 3) ls (v.toList ++ rest))) : W p l e R s m args below meth c H locs cells slots Q (F0 m pc ls st) :=
  z_mend (va_runS S hM ⟨z_cbM S hY.1 hl hR, S.2.2.2.2 _ hY.2⟩ ⟨z_blind, fun U hU hW => ⟨rfl, by rw [hU]; exact hP, zKn.moved hW hG⟩⟩ rfl hn hlz hst (lv_room hrest) d hcs) hS hA kk
/-- super.m(..) -/
theorem z_callSU (S : CallFix p m c cc nL s args lw_g own) (hG : zKn G s) (hS : va_S A H0 H locs) {y : MethodName} {bytes : ByteArray} {maxL na index mc ms ci N : Nat} {ret : Option FieldType} {rm : Room} {P B : Heap → Prop} {A1 : Nat → Prop} {v : Option Value} {As st fs : List Value} {b : Nat} {C : String} {T : u_T} (hM : Met l y (wq y bytes maxL ret) rm (va_Pc (.ref b :: As) (zK G P)) (zM A1 v B) mc ms A1) (hA : ∀ q, A1 q → A q) (hY : zOK y bytes maxL ret na) (hin : Cond.instanceMethod y ∈ lw_g) (hsm : Cond.sameMethod y.cls y.cls y.name y.desc ∈ lw_g) (hsu : Cond.superclass own y.cls ∈ lw_g) (hni : y.name ≠ "<init>") (hat : va_at G.1 vwCl (b, .inr (ci, fs)) H) (hC : zCl ci C T N) (hl : Cond.methodLink own index y ∈ lw_g) (hP : P H) (hR : zRM R rm maxL mc ms) (hcs : cells + mc ≤ R.cells ∧ slots + ms ≤ R.slots) (hn : As.length = na) (hrest : (rest.map fun v => v.category).sum ≤ 8) (hlz : ls.size = nL) (hst : st = As.reverse ++ .ref b :: rest) (d : decode cc pc = .ok (.invokespecial index, 3))
    (kk : ∀ (H1 : Heap) (locs1 : List Loc), B H1 → H.size ≤ H1.size → (∀ q : Nat, q < H.size → ¬ A1 q → H1[q]? = H[q]?) → va_S A H0 H1 locs1 → W p l e R s m args below meth c H1 locs1 (cells + mc) (slots + ms) Q (F0 m (pc + 3) ls (v.toList ++ rest))) : W p l e R s m args below meth c H locs cells slots Q (F0 m pc ls st) :=
  z_mend (va_runSU (n := na) (hG.1.1 ci _ hC.1).2 S hM ⟨⟨hR.1, hR.2.1, hR.2.2.1, hR.2.2.2, pay_in S.2.2.2.2 (zgood_wq hY.1), List.mem_cons_self⟩, S.2.2.2.2 _ hl, S.2.2.2.2 _ hsm, S.2.2.2.2 _ hsu, S.2.2.2.2 _ hin, S.2.2.2.2 _ hY.2.1, S.2.2.2.2 _ hY.1, hni, fun sig h => by
      have h2 := hY.2.2.2.2
      rw [h] at h2
      exact (Option.some.inj h2).symm⟩ ⟨z_blind, va_recv hG.1 (va_one hat) hC.1 (q0 := 0) rfl, fun U hU hW => ⟨rfl, by rw [hU]; exact hP, zKn.moved hW hG⟩⟩ rfl hn hlz hst (lv_room hrest) d hcs) hS hA kk
theorem z_rcv (hG : zKn G s) {b ci N : Nat} {fs : List Value} {C : String} {T : u_T} (hat : va_at G.1 vwCl (b, .inr (ci, fs)) H) (hC : zCl ci C T N) : ∃ cell : Cell, H[b]? = some cell ∧ cell.vm.isStatics = false ∧ s.vm.findClass C = some cell.cls := va_recv hG.1 (va_one hat) hC.1 (q0 := 0) rfl
theorem z_rcvL (hG : zKn G s) {b v : Nat} (h : hLt G b v H) : ∃ cell : Cell, H[b]? = some cell ∧ cell.vm.isStatics = false ∧ s.vm.findClass "java/lang/String" = some cell.cls := by
  obtain ⟨cell, h1, h2, -, h4, -⟩ := h
  exact ⟨cell, h1, h2, by rw [h4]; exact (hG.1.1 0 _ rfl).2.1⟩
/-- a literal's value, its coder -/
theorem z_getL (S : CallFix p m c cc nL s args lw_g own) (hG : zKn G s) {b w : Nat} (h : hLt G b w H) (k : Nat) {v : Value} (hk : (k = 0 ∧ v = .ref w) ∨ (k = 1 ∧ v = .int 0)) {index : Nat} (hl : Cond.fieldLink own index (TJ0 k).1 (TJ0 k).2.1 (TJ0 k).2.2.1 ∈ lw_g) (d : decode cc pc = .ok (.getfield index, 3)) (kk : W p l e R s m args below meth c H locs cells slots Q (F0 m (pc + 3) ls (v :: rest))) : W p l e R s m args below meth c H locs cells slots Q (F0 m pc ls (.ref b :: rest)) := by
  obtain ⟨cell, h1, h2, h3, h4, h5, h6⟩ := h
  have hsl : cell.slots[G.1.2 0 k]? = some v := by
    rcases hk with ⟨rfl, rfl⟩ | ⟨rfl, rfl⟩
    · exact h5
    · exact h6
  obtain ⟨hSl, hfc, kC, hkC, hkind⟩ := hG.1.1 0 _ rfl
  have hk4 : k < 4 := by omega
  obtain ⟨cf, kf, fi, f, g1, g3⟩ := hSl k hk4
  exact W.getf S.1 S.2.1 S.2.2.2.1 (S.2.2.2.2 _ hl) g1 (u_facts hfc hkC (u_lays S.2.2.2.2 zc_J0.2 hk4) g1).1 h1 h3 (v := v) (by rw [g3]; exact hsl) rfl rfl d kk
theorem z_min (S : CallFix p m c cc nL s args lw_g own) {index : Nat} {x y : Int} (hx : rg x) (hy : rg y) (hl : Cond.methodLink own index Lib.Math.min.name ∈ lw_g) (h1 : Cond.static Lib.Math.min.name ∈ lw_g) (h2 : Cond.initialized "java/lang/Math" ∈ lw_g) (h3 : Cond.code Lib.Math.min.name Lib.Math.min.code 2 (some .int) ∈ lw_g) (hf : 1 ≤ R.frames) (hlo : (rest.map fun v => v.category).sum + 13 ≤ R.locals) (hcs : cells ≤ R.cells ∧ slots ≤ R.slots) (hlz : ls.size = nL) (d : decode cc pc = .ok (.invokestatic index, 3)) (kk : W p l e R s m args below meth c H locs cells slots Q (F0 m (pc + 3) ls (.int (zI (if y < x then y else x)) :: rest))) : W p l e R s m args below meth c H locs cells slots Q (F0 m pc ls (.int (zI y) :: .int (zI x) :: rest)) := by
  refine va_mmin S.1 S.2.1 (S.2.2.1.trans hlz.symm) S.2.2.2.1 (S.2.2.2.2 _ hl) (S.2.2.2.2 _ h1) (S.2.2.2.2 _ h2) (S.2.2.2.2 _ h3) hf hlo hcs.1 hcs.2 d ?_
  have e : (if zI y < zI x then zI y else zI x) = zI (if y < x then y else x) := by
    by_cases q : y < x
    · rw [if_pos q, if_pos ((zI_lt hy hx).mpr q)]
    · rw [if_neg q, if_neg (fun z => q ((zI_lt hy hx).mp z))]
  rw [e]
  exact kk
theorem z_castB (S : CallFix p m c cc nL s args lw_g own) (hG : zKn G s) {a n index : Nat} (h : zBy (G.2 3) a n H) (hl : Cond.classLink own index "[B" ∈ lw_g) (d : decode cc pc = .ok (.checkcast index, 3)) (kk : W p l e R s m args below meth c H locs cells slots Q (F0 m (pc + 3) ls (.ref a :: rest))) : W p l e R s m args below meth c H locs cells slots Q (F0 m pc ls (.ref a :: rest)) := by
  obtain ⟨cell, h1, h2, h3, h4, -⟩ := h
  intro T hT X
  obtain ⟨vm', X', st⟩ := X.checkcastYes S.1 S.2.2.2.1 (S.2.2.2.2 _ hl) (by rw [hT]; exact h1) (by cases hv : cell.vm with | statics k => exact absurd hv (h2 k) | _ => rfl) (zG_B hG) (by rw [h4]; exact va_asg _ _) (g := F0 m pc ls (.ref a :: rest)) rfl rfl (by rw [S.2.1]; exact d)
  obtain ⟨t, a1, b1⟩ := kk (T.setVm vm') hT X'
  exact ⟨t, st t a1, b1⟩
end ZS2
theorem z_neg (a : Int) : -zI a = zI (-a) := (Int32.ofInt_neg a).symm
/-- a text being built: n letters in a row of cap -/
def hSB (G : zG) (q v n cap : Nat) (H : Heap) : Prop := va_at G.1 vwCl (q, .inr (1, [.ref v, .int 0, .int 0, .int (zI n)])) H ∧ zBy (G.2 3) v cap H ∧ q ≠ v
theorem hSB.kept {G : zG} {q v n cap : Nat} {H H1 : Heap} (h : hSB G q v n cap H) (oq : ∀ y : Nat, y < H.size → H1[y]? = H[y]?) : hSB G q v n cap H1 := ⟨va_at.kept h.1 (oq _ (va_lt h.1)), zBy.kept h.2.1 (fun hx => oq _ hx), h.2.2⟩
theorem z_shl0 (x : Int32) : x <<< ((0 : Int32) &&& 31) = x := by
  have h : ((0 : Int32) &&& 31) = 0 := rfl
  rw [h]; exact Int32.shiftLeft_zero
theorem z_shr0 (x : Int32) : x >>> ((0 : Int32) &&& 31) = x := by
  have h : ((0 : Int32) &&& 31) = 0 := rfl
  rw [h]; exact Int32.shiftRight_zero
/-- with room for k letters; it and its row lie from sz on -/
def hSX (G : zG) (q sz n k : Nat) (H : Heap) : Prop := ∃ v cap : Nat, hSB G q v n cap H ∧ sz ≤ q ∧ sz ≤ v ∧ ((cap = 16 ∧ k ≤ 16) ∨ (cap = 34 ∧ k ≤ 34)) ∧ n ≤ k
theorem hSX.kept {G : zG} {q sz n k : Nat} {H H1 : Heap} (h : hSX G q sz n k H) (oq : ∀ y : Nat, y < H.size → H1[y]? = H[y]?) : hSX G q sz n k H1 := by
  obtain ⟨v, cap, h1, h2⟩ := h
  exact ⟨v, cap, h1.kept oq, h2⟩
theorem hLt.lt {G : zG} {q vq : Nat} {H : Heap} (h : hLt G q vq H) : q < H.size := by
  obtain ⟨cell, h1, -⟩ := h
  exact (Array.getElem?_eq_some_iff.mp h1).1
theorem z_enterY {l : Launch} {y : MethodName} {cc : ByteArray} {maxL : Nat} {rm : Room} {G : zG} {P : Heap → Prop} {av : List Value} (hy : plainName y.cls = true) (hav : (lg_sl av).length ≤ maxL)
    (body : ∀ (p : Program) (e : Env) (s : State) (m : MethodId) (below : List Frame) (meth : Method) (c : Code) (Q : State → Prop), CallFix p m c cc maxL s av.toArray lw_g y.cls → zKn G s → P s.heap →
      (∀ (pc : Nat) (ls : Array Slot) (x : Int32), decode cc pc = .ok (.ireturn, 1) → x = 0 → W p l e rm s m av.toArray below meth c s.heap [] 0 0 Q (F0 m pc ls [.int x])) → ∀ ls, lv_has ls maxL (lv_args 0 av) →
      W p l e rm s m av.toArray below meth c s.heap [] 0 0 Q (F0 m 0 ls [])) : Met l y (wq y cc maxL (some .byte)) rm (va_Pc av (zK G P)) (zQ (some (.int 0))) 0 0 zF :=
  z_enter hy hav fun p e s m below meth c S hr hlk hG hP ls hl => body p e s m below meth c _ S hG hP (fun pc ls x d hx => by subst hx; exact W.zret S.1 S.2.1 hr rfl (fun t ht _ => ⟨rfl, ht⟩) z_nil d hlk) ls hl
