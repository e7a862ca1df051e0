/-! ===== texts being built: what the rows of bytes hold is nobody's business here ===== -/
section ZS
variable {p : Program} {l : Launch} {e : Env} {R : Room} {s : State} {m : MethodId} {args : Array Value} {below : List Frame} {meth : Method} {c : Code} {H : Heap} {locs : List Loc} {cells slots : Nat} {Q : State → Prop}
variable {cc : ByteArray} {nL : Nat} {own : String} {pc : Nat} {ls : Array Slot} {rest : List Value} {G : zG} {A : Nat → Prop} {H0 : Heap}
theorem zI_neg {z : Int} (h0 : 0 ≤ z) (h1 : z < 2147483648) : ¬ zI z < 0 := fun q => by
  have := (zI_lt (a := z) (b := 0) (by constructor <;> omega) z0).mp q
  omega
theorem z_baldW (S : CallFix p m c cc nL s args lw_g own) {k : ClassId} (hk : s.isArrayOf (arrV k 0 (fun _ => .null)) .byte) {a n : Nat} (hb : zBw k a n H) {i : Int} (hi : 0 ≤ i ∧ i < n) (hn : n < 2147483648) (d : decode cc pc = .ok (.baload, 1))
    (kk : ∀ x : Int32, fits .byte (.int x) = true → W p l e R s m args below meth c H locs cells slots Q (F0 m (pc + 1) ls (.int x :: rest))) : W p l e R s m args below meth c H locs cells slots Q (F0 m pc ls (.int (zI i) :: .ref a :: rest)) := by
  obtain ⟨cell, h1, h2, h3, h4, h5, h6⟩ := hb
  obtain ⟨x, g1, g2⟩ := h6 (zI i).toNatClampNeg (by rw [zI_clamp (by omega)]; omega)
  have hb2 := zI_in hi hn
  exact W.bald S.1 S.2.1 h1 (zBy_arr hk h2 h4) h3 (by
    rintro (z | z)
    · exact hb2 (Or.inl z)
    · exact hb2 (Or.inr (Nat.le_trans h5.1 z))) g1 rfl rfl d (kk x g2)
theorem z_blenW (S : CallFix p m c cc nL s args lw_g own) {k : ClassId} (hk : s.isArrayOf (arrV k 0 (fun _ => .null)) .byte) {a n : Nat} (hb : zBw k a n H) (d : decode cc pc = .ok (.arraylength, 1))
    (kk : W p l e R s m args below meth c H locs cells slots Q (F0 m (pc + 1) ls (.int (zI n) :: rest))) : W p l e R s m args below meth c H locs cells slots Q (F0 m pc ls (.ref a :: rest)) := by
  obtain ⟨cell, h1, h2, h3, h4, h5, h6⟩ := hb
  exact W.alen S.1 S.2.1 h1 (zBy_arr hk h2 h4) (n := zI n) h5.2 rfl rfl d kk
theorem z_copyBy (S : CallFix p m c cc nL s args lw_g own) (hG : zKn G s) {a b n0 n1 index : Nat} (h0 : zBw (G.2 3) b n0 H) (h1 : zBy (G.2 3) a n1 H) (hS : va_S A H0 H locs) (ha : A a) {dp n : Int} (hi : 0 ≤ dp ∧ 0 ≤ n ∧ n ≤ n0 ∧ dp + n ≤ n1) (hn : n0 < 100000 ∧ n1 < 100000) (hl : Cond.methodLink own index arraycopyName ∈ lw_g) (hw : Cond.native arraycopyName ∈ lw_g ∧ Cond.static arraycopyName ∈ lw_g ∧ Cond.initialized "java/lang/System" ∈ lw_g) (hlz : ls.size = nL) (hf : 1 ≤ R.frames) (hlo : (rest.map fun v => v.category).sum + (nativeFrameWords "java/lang/System" "arraycopy" 5 + 11) ≤ R.locals) (d : decode cc pc = .ok (.invokestatic index, 3))
    (kk : ∀ (H1 : Heap) (locs1 : List Loc), zBy (G.2 3) a n1 H1 → H1.size = H.size → (∀ q : Nat, q ≠ a → H1[q]? = H[q]?) → va_S A H0 H1 locs1 → W p l e R s m args below meth c H1 locs1 cells slots Q (F0 m (pc + 3) ls rest)) : W p l e R s m args below meth c H locs cells slots Q (F0 m pc ls (.int (zI n) :: .int (zI dp) :: .ref a :: .int (zI 0) :: .ref b :: rest)) := by
  intro T hT X
  obtain ⟨cs, s1, s2, s3, s4, s5, s6⟩ := h0
  obtain ⟨cd, d1, d2, d3, d4, d5, d6⟩ := h1
  obtain ⟨hs6, k0, hk0, cm0, hkk0⟩ := zBy_arr (zG_by hG) s2 s4
  obtain ⟨-, k1, hk1, cm1, hkk1⟩ := zBy_arr (zG_by hG) d2 d4
  have c1 := zI_cl (i := dp) (by omega)
  have c2 := zI_cl (i := n) (by omega)
  have c0 : (zI 0).toNatClampNeg = 0 := rfl
  have e0 : (zI 0).toInt = 0 := rfl
  have e1 : (zI dp).toInt = dp := zI_toInt (by omega)
  have e2 : (zI n).toInt = n := zI_toInt (by omega)
  obtain ⟨vm', X', step⟩ := X.arraycopy S.1 S.2.2.2.1 (S.2.2.2.2 _ hl) (S.2.2.2.2 _ hw.1) (S.2.2.2.2 _ hw.2.1) (S.2.2.2.2 _ hw.2.2) (src := b) (dst := a) (cs := cs) (cd := cd) (srcPos := zI 0) (destPos := zI dp) (n := zI n) (by rw [hT]; exact s1) (by rw [hT]; exact d1)
    hs6 d2 s3 d3 hk0 hk1 hkk0 hkk1 (by simp [refKind]) (zI_neg (by omega) (by omega)) (zI_neg (by omega) (by omega)) (zI_neg (by omega) (by omega)) (by rw [e0, e2]; omega) (by rw [e1, e2]; omega)
    (fun vm₁ _ i hi => by
      rw [c0]
      obtain ⟨x, g1, g2⟩ := s6 (0 + i) (by rw [c2] at hi; omega)
      have g3 : cs.slots.getD (0 + i) .null = .int x := by rw [Array.getD_eq_getD_getElem?, g1]; rfl
      rw [g3]
      exact ⟨g2, trivial⟩)
    (g := F0 m pc ls (.int (zI n) :: .int (zI dp) :: .ref a :: .int (zI 0) :: .ref b :: rest)) rfl (by rw [hlz]; exact S.2.2.1.symm) (rest := rest) rfl (by rw [S.2.1]; exact d) hf (by show 2 * 0 + _ + _ ≤ _; omega)
  have hcp : copied cs cd (zI 0) (zI dp) (zI n) = cd.storeRun dp.toNat (cs.stretch 0 n.toNat) := by show cd.storeRun (zI dp).toNatClampNeg (cs.stretch (zI 0).toNatClampNeg (zI n).toNatClampNeg) = _; rw [c0, c1, c2]
  rw [hcp] at X' step
  have hla : a < H.size := (Array.getElem?_eq_some_iff.mp d1).1
  have hheap : ((T.setVm vm').setCell a (cd.storeRun dp.toNat (cs.stretch 0 n.toNat))).heap = H.setIfInBounds a (cd.storeRun dp.toNat (cs.stretch 0 n.toNat)) := by rw [← hT]; rfl
  have oq : ∀ q : Nat, q ≠ a → (H.setIfInBounds a (cd.storeRun dp.toNat (cs.stretch 0 n.toNat)))[q]? = H[q]? := fun q hq => by simp [Array.getElem?_setIfInBounds, Ne.symm hq]
  obtain ⟨f1, f2, f3, -, -⟩ := Cell.storeRun_facts cd dp.toNat (cs.stretch 0 n.toNat)
  have hz : (H.setIfInBounds a (cd.storeRun dp.toNat (cs.stretch 0 n.toNat))).size = H.size := by simp
  obtain ⟨t, a1, b1⟩ := kk _ _ ⟨cd.storeRun dp.toNat (cs.stretch 0 n.toNat), by simp [Array.getElem?_setIfInBounds, hla], by rw [f2]; exact d2, by rw [f2]; exact d3, by rw [f1]; exact d4, by rw [f3]; exact d5, fun j hj => by
      rw [Cell.storeRun_get _ _ _ _ (by rw [Cell.stretch_length, d5]; omega)]
      by_cases q : dp.toNat ≤ j ∧ j < dp.toNat + (cs.stretch 0 n.toNat).length
      · rw [if_pos q]
        rw [Cell.stretch_length] at q
        have hin : j - dp.toNat < (cs.stretch 0 n.toNat).length := by rw [Cell.stretch_length]; omega
        have g0 := Cell.stretch_get (c := cs) (at_ := 0) (n := n.toNat) (i := j - dp.toNat) (List.getElem?_eq_getElem hin)
        obtain ⟨x, g1, g2⟩ := s6 (0 + (j - dp.toNat)) (by omega)
        refine ⟨x, ?_, g2⟩
        rw [List.getElem?_eq_getElem hin, g0.2, Array.getD_eq_getD_getElem?, g1]
        rfl
      · rw [if_neg q]; exact d6 j hj⟩ hz oq ⟨by rw [hz]; exact hS.1, fun q g1 g2 => by rw [oq q (fun e => g2 (by rw [e]; exact ha))]; exact hS.2.1 q g1 g2, fun q hq => by
      rcases List.mem_append.mp hq with h | h
      · exact hS.2.2 q h
      · obtain ⟨z, -, hz⟩ := List.mem_map.mp h
        rw [← hz]
        exact ha⟩ _ hheap X'
  exact ⟨t, step t a1, b1⟩
/-- a whole row of bytes again -/
theorem z_cloneBy (S : CallFix p m c cc nL s args lw_g own) (hG : zKn G s) {a n0 index : Nat} (h0 : zBy (G.2 3) a n0 H) (hS : va_S A H0 H locs) (hlink : Cond.methodLink own index ⟨"[B", "clone", "()Ljava/lang/Object;"⟩ ∈ lw_g) (hsame : Cond.sameMethod "[B" "java/lang/Object" "clone" "()Ljava/lang/Object;" ∈ lw_g) (hnat : Cond.native ⟨"java/lang/Object", "clone", "()Ljava/lang/Object;"⟩ ∈ lw_g) (hinst : Cond.instanceMethod ⟨"java/lang/Object", "clone", "()Ljava/lang/Object;"⟩ ∈ lw_g)
    (hsel : Cond.selects "[B" ⟨"[B", "clone", "()Ljava/lang/Object;"⟩ ⟨"java/lang/Object", "clone", "()Ljava/lang/Object;"⟩ ∈ lw_g) (hct : Cond.castable "[B" "java/lang/Cloneable" ∈ lw_tbl) (hlz : ls.size = nL) (hf : 1 ≤ R.frames) (hlo : (rest.map fun v => v.category).sum + 14 ≤ R.locals) (hcs : cells + 1 ≤ R.cells ∧ slots + n0 ≤ R.slots) (d : decode cc pc = .ok (.invokevirtual index, 3))
    (kk : ∀ (q : Nat) (H1 : Heap), q = H.size → zBy (G.2 3) q n0 H1 → H1.size = H.size + 1 → (∀ q : Nat, q < H.size → H1[q]? = H[q]?) → va_S A H0 H1 locs → W p l e R s m args below meth c H1 locs (cells + 1) (slots + n0) Q (F0 m (pc + 3) ls (.ref q :: rest))) : W p l e R s m args below meth c H locs cells slots Q (F0 m pc ls (.ref a :: rest)) := by
  intro T hT X
  obtain ⟨cs, s1, s2, s3, s4, s5, s6⟩ := h0
  obtain ⟨c0, t0', f1, f2, f3⟩ := Cond.castable_spec (va_Nw.use (A := args) rfl (hG.2.1 _ _ hct))
  have hnm : s.vm.findClass "[B" = some (G.2 3) := zG_B hG
  cases hnm.symm.trans f1
  obtain ⟨-, kA, hkA, comp, hkind⟩ := State.isArrayOf_alike X.warmed.alike (zBy_arr (zG_by hG) s2 s4)
  obtain ⟨-, kS, hkS, compS, hkindS⟩ := zBy_arr (zG_by hG) s2 s4
  obtain ⟨vm', X', st⟩ := X.cloneArray S.1 S.2.2.2.1 (S.2.2.2.2 _ hlink) (S.2.2.2.2 _ hsame) (S.2.2.2.2 _ hnat) (S.2.2.2.2 _ hinst) (S.2.2.2.2 _ hsel) (a := a) (cell := cs) (by rw [hT]; exact s1) s2 s3 (by rw [s4]; exact hnm) f2 (by rw [s4]; exact f3)
    (fun i v hv => by
      have hi : i < n0 := by rw [← s5]; exact (Array.getElem?_eq_some_iff.mp hv).1
      obtain ⟨x, g1, g2⟩ := s6 i hi
      have hk' : T.vm.classes[cs.cls]? = some kA := hkA
      have e : v = .int x := Option.some.inj (hv.symm.trans g1)
      rw [e]
      simpa [State.fitsSlot, State.slotType?, hk', hkind] using g2)
    (g := F0 m pc ls (.ref a :: rest)) rfl (by rw [hlz]; exact S.2.2.1.symm) rfl (by rw [S.2.1]; exact d) hf (by show 2 * 0 + _ + 14 ≤ _; omega) hcs.1 (by rw [s5]; exact hcs.2) (hloader := Vm.clonesLoader_of_array hkS hkindS)
  rw [s5] at X'
  generalize hH1 : H.push ({ cls := cs.cls, slots := cs.slots } : Cell) = H1
  have z1 : H1.size = H.size + 1 := by rw [← hH1, Array.size_push]
  have e1 : H1[H.size]? = some ({ cls := cs.cls, slots := cs.slots } : Cell) := by rw [← hH1, Array.getElem?_push_size]
  have o1 : ∀ q : Nat, q < H.size → H1[q]? = H[q]? := fun q hq => by rw [← hH1, Array.getElem?_push, if_neg (Nat.ne_of_lt hq)]
  obtain ⟨t, b1, b2⟩ := kk H.size H1 rfl ⟨_, e1, (fun k h => by cases h), (fun h => by cases h), s4, s5, s6⟩ z1 o1 (z_grown hS z1 o1) _ (by rw [← hH1, ← hT]; rfl) X'
  exact ⟨t, by rw [← hT] at *; exact st t b1, b2⟩
end ZS
/-! ===== calls on a text being built, on a literal ===== -/
section ZS2
variable {p : Program} {l : Launch} {e : Env} {R : Room} {s : State} {m : MethodId} {args : Array Value} {below : List Frame} {meth : Method} {c : Code} {H : Heap} {locs : List Loc} {cells slots : Nat} {Q : State → Prop}
variable {cc : ByteArray} {nL : Nat} {own : String} {pc : Nat} {ls : Array Slot} {rest : List Value} {G : zG} {A : Nat → Prop} {H0 : Heap}
/-- a private method, asked of an object of a class below its own -/
theorem z_selP (S : CallFix p m c cc nL s args lw_g own) {C : String} {x y : MethodName} (hx : Cond.selects C x x ∈ lw_g) (hc : x.cls = y.cls) (hy : y.cls ≠ "java/lang/invoke/MethodHandle" ∧ y.cls ≠ "java/lang/invoke/VarHandle") (hp : Cond.privateMethod y ∈ lw_tbl ∧ goodWord (Cond.privateMethod y) = true) (hi : Cond.instanceMethod y ∈ lw_g) : (Cond.selects C y y).before args s = true := by
  have hq := S.2.2.2.2 _ (zg_of hp.1 hp.2)
  obtain ⟨k1, k2, k3, g1, -, g3, -, kc, g5, g6⟩ := Cond.selects_spec (S.2.2.2.2 _ hx)
  obtain ⟨i1, i2, j1, j2, -, -⟩ := Cond.instanceMethod_spec (S.2.2.2.2 _ hi)
  have e1 : i1.cls = k3.cls := Option.some.inj ((findClass_of_methodNamed j1).symm.trans (hc ▸ findClass_of_methodNamed g3))
  have e2 := State.methodFound?_of_named j1 hy
  have e3 : selectMethod {} s.vm k1 i1 = .method i1 := selectMethod_private j2 (Cond.privateMethod_at hq i1 i2 j1 j2)
  simp only [Cond.before, Cond.holds, Cond.value, g1, e2, j1, e3, e1, g5]
  simp; exact g6
theorem z_callQ (S : CallFix p m c cc nL s args lw_g own) (hG : zKn G s) (hS : va_S A H0 H locs) {y : MethodName} {bytes : ByteArray} {maxL na index mc ms : Nat} {ret : Option FieldType} {rm : Room} {P B : Heap → Prop} {A1 : Nat → Prop} {v : Option Value} {As st : List Value} {b : Nat} {C : String} (hM : Met l y (wq y bytes maxL ret) rm (va_Pc (.ref b :: As) (zK G P)) (zM A1 v B) mc ms A1) (hA : ∀ q, A1 q → A q) (hY : zOK y bytes maxL ret na) (hin : Cond.instanceMethod y ∈ lw_g) (hsel : (Cond.selects C y y).before args s = true) (hrc : ∃ cell : Cell, H[b]? = some cell ∧ cell.vm.isStatics = false ∧ s.vm.findClass C = some cell.cls) (hl : Cond.methodLink own index y ∈ lw_g) (hP : P H) (hR : zRM R rm maxL mc ms) (hcs : cells + mc ≤ R.cells ∧ slots + ms ≤ R.slots) (hn : As.length = na) (hrest : (rest.map fun v => v.category).sum ≤ 8) (hlz : ls.size = nL) (hst : st = As.reverse ++ .ref b :: rest) (d : decode cc pc = .ok (.invokevirtual index, 3))
    (kk : ∀ (H1 : Heap) (locs1 : List Loc), B H1 → H.size ≤ H1.size → (∀ q : Nat, q < H.size → ¬ A1 q → H1[q]? = H[q]?) → va_S A H0 H1 locs1 → W p l e R s m args below meth c H1 locs1 (cells + mc) (slots + ms) Q (F0 m (pc + 3) ls (v.toList ++ rest))) : W p l e R s m args below meth c H locs cells slots Q (F0 m pc ls st) :=
  z_mend (va_runV S hM (C := C) ⟨z_cbM S hY hl hR, S.2.2.2.2 _ hin, hsel⟩ ⟨z_blind, hrc, fun U hU hW => ⟨rfl, by rw [hU]; exact hP, zKn.moved hW hG⟩⟩ rfl hn hlz hst (lv_room hrest) d hcs) hS hA kk
theorem z_callQr (S : CallFix p m c cc nL s args lw_g own) (hG : zKn G s) {y : MethodName} {bytes : ByteArray} {maxL na index : Nat} {ret : Option FieldType} {rm : Room} {P : Heap → Prop} {x : Value} {As st : List Value} {b : Nat} {C : String} (hM : Met l y (wq y bytes maxL ret) rm (va_Pc (.ref b :: As) (zK G P)) (zQ (some x)) 0 0 zF) (hY : zOK y bytes maxL ret na) (hin : Cond.instanceMethod y ∈ lw_g) (hsel : (Cond.selects C y y).before args s = true) (hrc : ∃ cell : Cell, H[b]? = some cell ∧ cell.vm.isStatics = false ∧ s.vm.findClass C = some cell.cls) (hl : Cond.methodLink own index y ∈ lw_g) (hP : P H) (hR : zR R rm maxL) (hcs : cells ≤ R.cells ∧ slots ≤ R.slots) (hn : As.length = na) (hrest : (rest.map fun v => v.category).sum ≤ 8) (hlz : ls.size = nL) (hst : st = As.reverse ++ .ref b :: rest) (d : decode cc pc = .ok (.invokevirtual index, 3)) (kk : W p l e R s m args below meth c H locs cells slots Q (F0 m (pc + 3) ls (x :: rest))) : W p l e R s m args below meth c H locs cells slots Q (F0 m pc ls st) :=
  z_cend (W.runV S hM (C := C) ⟨z_cb S hY hl hR, S.2.2.2.2 _ hin, hsel⟩ ⟨z_blind, hrc, fun U hU hW => ⟨rfl, by rw [hU]; exact hP, zKn.moved hW hG⟩⟩ rfl hn hlz hst (lv_room hrest) d hcs) kk
/-- what the reference names is overridden -/
theorem z_callO (S : CallFix p m c cc nL s args lw_g own) (hG : zKn G s) (hS : va_S A H0 H locs) {x y : MethodName} {bytes b0 : ByteArray} {maxL m0 na index mc ms : Nat} {ret r0 : Option FieldType} {rm : Room} {P B : Heap → Prop} {A1 : Nat → Prop} {v : Option Value} {As st : List Value} {b : Nat} {C : String} (hM : Met l y (wq y bytes maxL ret) rm (va_Pc (.ref b :: As) (zK G P)) (zM A1 v B) mc ms A1) (hA : ∀ q, A1 q → A q) (hY : zOK y bytes maxL ret na) (hin : Cond.instanceMethod y ∈ lw_g) (hsel : Cond.selects C x y ∈ lw_g) (hsm : Cond.sameMethod x.cls x.cls x.name x.desc ∈ lw_g) (hix : Cond.instanceMethod x ∈ lw_g) (hcx : Cond.code x b0 m0 r0 ∈ lw_g) (hdx : x.cls ≠ "java/lang/invoke/MethodHandle" ∧ x.cls ≠ "java/lang/invoke/VarHandle" ∧ (parseMethodDescriptor x.desc).map (fun d => d.parameters.length) = some na) (hrc : ∃ cell : Cell, H[b]? = some cell ∧ cell.vm.isStatics = false ∧ s.vm.findClass C = some cell.cls) (hl : Cond.methodLink own index x ∈ lw_g) (hP : P H) (hR : zRM R rm maxL mc ms) (hcs : cells + mc ≤ R.cells ∧ slots + ms ≤ R.slots) (hn : As.length = na) (hrest : (rest.map fun v => v.category).sum ≤ 8) (hlz : ls.size = nL) (hst : st = As.reverse ++ .ref b :: rest) (d : decode cc pc = .ok (.invokevirtual index, 3))
    (kk : ∀ (H1 : Heap) (locs1 : List Loc), B H1 → H.size ≤ H1.size → (∀ q : Nat, q < H.size → ¬ A1 q → H1[q]? = H[q]?) → va_S A H0 H1 locs1 → W p l e R s m args below meth c H1 locs1 (cells + mc) (slots + ms) Q (F0 m (pc + 3) ls (v.toList ++ rest))) : W p l e R s m args below meth c H locs cells slots Q (F0 m pc ls st) :=
  z_mend (va_runU (owner := x.cls) (C := C) (x := x) (n := na) S hM ⟨⟨hR.1, hR.2.1, hR.2.2.1, hR.2.2.2, pay_in S.2.2.2.2 (zgood_wq hY.1), List.mem_cons_self⟩, S.2.2.2.2 _ hY.1, S.2.2.2.2 _ hY.2.1, ⟨hdx.1, hdx.2.1⟩, fun sig h => by
      have h2 := hdx.2.2
      rw [h] at h2
      exact (Option.some.inj h2).symm, S.2.2.2.2 _ hl, S.2.2.2.2 _ hsm, va_Decl.of (S.2.2.2.2 _ hix) (S.2.2.2.2 _ hcx), S.2.2.2.2 _ hsel, S.2.2.2.2 _ hin⟩ ⟨z_blind, hrc, fun U hU hW => ⟨rfl, by rw [hU]; exact hP, zKn.moved hW hG⟩⟩ rfl hn hlz hst (lv_room hrest) d hcs) hS hA kk
theorem z_callSM (S : CallFix p m c cc nL s args lw_g own) (hG : zKn G s) (hS : va_S A H0 H locs) {y : MethodName} {bytes : ByteArray} {maxL na index mc ms : Nat} {ret : Option FieldType} {rm : Room} {P B : Heap → Prop} {A1 : Nat → Prop} {v : Option Value} {As st : List Value} (hM : Met l y (wq y bytes maxL ret) rm (va_Pc As (zK G P)) (zM A1 v B) mc ms A1) (hA : ∀ q, A1 q → A q) (hY : zOS y bytes maxL ret na) (hl : Cond.methodLink own index y ∈ lw_g) (hP : P H) (hR : zRM R rm maxL mc ms) (hcs : cells + mc ≤ R.cells ∧ slots + ms ≤ R.slots) (hn : As.length = na) (hrest : (rest.map fun v => v.category).sum ≤ 8) (hlz : ls.size = nL) (hst : st = As.reverse ++ rest) (d : decode cc pc = .ok (.invokestatic index, 3))
    (kk : ∀ (H1 : Heap) (locs1 : List Loc), B H1 → H.size ≤ H1.size → (∀ q : Nat, q < H.size → ¬ A1 q → H1[q]? = H[q]?) → va_S A H0 H1 locs1 → W p l e R s m args below meth c H1 locs1 (cells + mc) (slots + ms) Q (F0 m (pc + 3) ls (v.toList ++ rest))) : W p l e R s m args below meth c H locs cells slots Q (F0 m pc ls st) :=
  z_mend (va_runS S hM ⟨z_cbM S hY.1 hl hR, S.2.2.2.2 _ hY.2⟩ ⟨z_blind, fun U hU hW => ⟨rfl, by rw [hU]; exact hP, zKn.moved hW hG⟩⟩ rfl hn hlz hst (lv_room hrest) d hcs) hS hA kk
/-- super.m(..) -/
theorem z_callSU (S : CallFix p m c cc nL s args lw_g own) (hG : zKn G s) (hS : va_S A H0 H locs) {y : MethodName} {bytes : ByteArray} {maxL na index mc ms ci N : Nat} {ret : Option FieldType} {rm : Room} {P B : Heap → Prop} {A1 : Nat → Prop} {v : Option Value} {As st fs : List Value} {b : Nat} {C : String} {T : u_T} (hM : Met l y (wq y bytes maxL ret) rm (va_Pc (.ref b :: As) (zK G P)) (zM A1 v B) mc ms A1) (hA : ∀ q, A1 q → A q) (hY : zOK y bytes maxL ret na) (hin : Cond.instanceMethod y ∈ lw_g) (hsm : Cond.sameMethod y.cls y.cls y.name y.desc ∈ lw_g) (hsu : Cond.superclass own y.cls ∈ lw_g) (hni : y.name ≠ "<init>") (hat : va_at G.1 vwCl (b, .inr (ci, fs)) H) (hC : zCl ci C T N) (hl : Cond.methodLink own index y ∈ lw_g) (hP : P H) (hR : zRM R rm maxL mc ms) (hcs : cells + mc ≤ R.cells ∧ slots + ms ≤ R.slots) (hn : As.length = na) (hrest : (rest.map fun v => v.category).sum ≤ 8) (hlz : ls.size = nL) (hst : st = As.reverse ++ .ref b :: rest) (d : decode cc pc = .ok (.invokespecial index, 3))
    (kk : ∀ (H1 : Heap) (locs1 : List Loc), B H1 → H.size ≤ H1.size → (∀ q : Nat, q < H.size → ¬ A1 q → H1[q]? = H[q]?) → va_S A H0 H1 locs1 → W p l e R s m args below meth c H1 locs1 (cells + mc) (slots + ms) Q (F0 m (pc + 3) ls (v.toList ++ rest))) : W p l e R s m args below meth c H locs cells slots Q (F0 m pc ls st) :=
  z_mend (va_runSU (n := na) (hG.1.1 ci _ hC.1).2 S hM ⟨⟨hR.1, hR.2.1, hR.2.2.1, hR.2.2.2, pay_in S.2.2.2.2 (zgood_wq hY.1), List.mem_cons_self⟩, S.2.2.2.2 _ hl, S.2.2.2.2 _ hsm, S.2.2.2.2 _ hsu, S.2.2.2.2 _ hin, S.2.2.2.2 _ hY.2.1, S.2.2.2.2 _ hY.1, hni, fun sig h => by
      have h2 := hY.2.2.2.2
      rw [h] at h2
      exact (Option.some.inj h2).symm⟩ ⟨z_blind, va_recv hG.1 (va_one hat) hC.1 (q0 := 0) rfl, fun U hU hW => ⟨rfl, by rw [hU]; exact hP, zKn.moved hW hG⟩⟩ rfl hn hlz hst (lv_room hrest) d hcs) hS hA kk
theorem z_rcv (hG : zKn G s) {b ci N : Nat} {fs : List Value} {C : String} {T : u_T} (hat : va_at G.1 vwCl (b, .inr (ci, fs)) H) (hC : zCl ci C T N) : ∃ cell : Cell, H[b]? = some cell ∧ cell.vm.isStatics = false ∧ s.vm.findClass C = some cell.cls := va_recv hG.1 (va_one hat) hC.1 (q0 := 0) rfl
theorem z_rcvL (hG : zKn G s) {b v : Nat} (h : hLt G b v H) : ∃ cell : Cell, H[b]? = some cell ∧ cell.vm.isStatics = false ∧ s.vm.findClass "java/lang/String" = some cell.cls := by
  obtain ⟨cell, h1, h2, -, h4, -⟩ := h
  exact ⟨cell, h1, h2, by rw [h4]; exact (hG.1.1 0 _ rfl).2.1⟩
/-- a literal's value, its coder -/
theorem z_getL (S : CallFix p m c cc nL s args lw_g own) (hG : zKn G s) {b w : Nat} (h : hLt G b w H) (k : Nat) {v : Value} (hk : (k = 0 ∧ v = .ref w) ∨ (k = 1 ∧ v = .int 0)) {index : Nat} (hl : Cond.fieldLink own index (TJ0 k).1 (TJ0 k).2.1 (TJ0 k).2.2.1 ∈ lw_g) (d : decode cc pc = .ok (.getfield index, 3)) (kk : W p l e R s m args below meth c H locs cells slots Q (F0 m (pc + 3) ls (v :: rest))) : W p l e R s m args below meth c H locs cells slots Q (F0 m pc ls (.ref b :: rest)) := by
  obtain ⟨cell, h1, h2, h3, h4, h5, h6⟩ := h
  have hsl : cell.slots[G.1.2 0 k]? = some v := by
    rcases hk with ⟨rfl, rfl⟩ | ⟨rfl, rfl⟩
    · exact h5
    · exact h6
  obtain ⟨hSl, hfc, kC, hkC, hkind⟩ := hG.1.1 0 _ rfl
  have hk4 : k < 4 := by omega
  obtain ⟨cf, kf, fi, f, g1, g3⟩ := hSl k hk4
  exact W.getf S.1 S.2.1 S.2.2.2.1 (S.2.2.2.2 _ hl) g1 (u_facts hfc hkC (u_lays S.2.2.2.2 zc_J0.2 hk4) g1).1 h1 h3 (v := v) (by rw [g3]; exact hsl) rfl rfl d kk
theorem z_min (S : CallFix p m c cc nL s args lw_g own) {index : Nat} {x y : Int} (hx : rg x) (hy : rg y) (hl : Cond.methodLink own index Lib.Math.min.name ∈ lw_g) (h1 : Cond.static Lib.Math.min.name ∈ lw_g) (h2 : Cond.initialized "java/lang/Math" ∈ lw_g) (h3 : Cond.code Lib.Math.min.name Lib.Math.min.code 2 (some .int) ∈ lw_g) (hf : 1 ≤ R.frames) (hlo : (rest.map fun v => v.category).sum + 13 ≤ R.locals) (hcs : cells ≤ R.cells ∧ slots ≤ R.slots) (hlz : ls.size = nL) (d : decode cc pc = .ok (.invokestatic index, 3)) (kk : W p l e R s m args below meth c H locs cells slots Q (F0 m (pc + 3) ls (.int (zI (if y < x then y else x)) :: rest))) : W p l e R s m args below meth c H locs cells slots Q (F0 m pc ls (.int (zI y) :: .int (zI x) :: rest)) := by
  refine va_mmin S.1 S.2.1 (S.2.2.1.trans hlz.symm) S.2.2.2.1 (S.2.2.2.2 _ hl) (S.2.2.2.2 _ h1) (S.2.2.2.2 _ h2) (S.2.2.2.2 _ h3) hf hlo hcs.1 hcs.2 d ?_
  have e : (if zI y < zI x then zI y else zI x) = zI (if y < x then y else x) := by
    by_cases q : y < x
    · rw [if_pos q, if_pos ((zI_lt hy hx).mpr q)]
    · rw [if_neg q, if_neg (fun z => q ((zI_lt hy hx).mp z))]
  rw [e]
  exact kk
theorem z_castB (S : CallFix p m c cc nL s args lw_g own) (hG : zKn G s) {a n index : Nat} (h : zBy (G.2 3) a n H) (hl : Cond.classLink own index "[B" ∈ lw_g) (d : decode cc pc = .ok (.checkcast index, 3)) (kk : W p l e R s m args below meth c H locs cells slots Q (F0 m (pc + 3) ls (.ref a :: rest))) : W p l e R s m args below meth c H locs cells slots Q (F0 m pc ls (.ref a :: rest)) := by
  obtain ⟨cell, h1, h2, h3, h4, -⟩ := h
  intro T hT X
  obtain ⟨vm', X', st⟩ := X.checkcastYes S.1 S.2.2.2.1 (S.2.2.2.2 _ hl) (by rw [hT]; exact h1) (by cases hv : cell.vm with | statics k => exact absurd hv (h2 k) | _ => rfl) (zG_B hG) (by rw [h4]; exact va_asg _ _) (g := F0 m pc ls (.ref a :: rest)) rfl rfl (by rw [S.2.1]; exact d)
  obtain ⟨t, a1, b1⟩ := kk (T.setVm vm') hT X'
  exact ⟨t, st t a1, b1⟩
end ZS2
theorem z_neg (a : Int) : -zI a = zI (-a) := (Int32.ofInt_neg a).symm
/-- a text being built: n letters in a row of cap -/
def hSB (G : zG) (q v n cap : Nat) (H : Heap) : Prop := va_at G.1 vwCl (q, .inr (1, [.ref v, .int 0, .int 0, .int (zI n)])) H ∧ zBy (G.2 3) v cap H ∧ q ≠ v
theorem hSB.kept {G : zG} {q v n cap : Nat} {H H1 : Heap} (h : hSB G q v n cap H) (oq : ∀ y : Nat, y < H.size → H1[y]? = H[y]?) : hSB G q v n cap H1 := ⟨va_at.kept h.1 (oq _ (va_lt h.1)), zBy.kept h.2.1 (fun hx => oq _ hx), h.2.2⟩
theorem z_shl0 (x : Int32) : x <<< ((0 : Int32) &&& 31) = x := by
  have h : ((0 : Int32) &&& 31) = 0 := rfl
  rw [h]; exact Int32.shiftLeft_zero
theorem z_shr0 (x : Int32) : x >>> ((0 : Int32) &&& 31) = x := by
  have h : ((0 : Int32) &&& 31) = 0 := rfl
  rw [h]; exact Int32.shiftRight_zero
/-- with room for k letters; it and its row lie from sz on -/
def hSX (G : zG) (q sz n k : Nat) (H : Heap) : Prop := ∃ v cap : Nat, hSB G q v n cap H ∧ sz ≤ q ∧ sz ≤ v ∧ ((cap = 16 ∧ k ≤ 16) ∨ (cap = 34 ∧ k ≤ 34)) ∧ n ≤ k
theorem hSX.kept {G : zG} {q sz n k : Nat} {H H1 : Heap} (h : hSX G q sz n k H) (oq : ∀ y : Nat, y < H.size → H1[y]? = H[y]?) : hSX G q sz n k H1 := by
  obtain ⟨v, cap, h1, h2⟩ := h
  exact ⟨v, cap, h1.kept oq, h2⟩
theorem hLt.lt {G : zG} {q vq : Nat} {H : Heap} (h : hLt G q vq H) : q < H.size := by
  obtain ⟨cell, h1, -⟩ := h
  exact (Array.getElem?_eq_some_iff.mp h1).1
theorem z_enterY {l : Launch} {y : MethodName} {cc : ByteArray} {maxL : Nat} {rm : Room} {G : zG} {P : Heap → Prop} {av : List Value} (hy : plainName y.cls = true) (hav : (lg_sl av).length ≤ maxL)
    (body : ∀ (p : Program) (e : Env) (s : State) (m : MethodId) (below : List Frame) (meth : Method) (c : Code) (Q : State → Prop), CallFix p m c cc maxL s av.toArray lw_g y.cls → zKn G s → P s.heap →
      (∀ (pc : Nat) (ls : Array Slot) (x : Int32), decode cc pc = .ok (.ireturn, 1) → x = 0 → W p l e rm s m av.toArray below meth c s.heap [] 0 0 Q (F0 m pc ls [.int x])) → ∀ ls, lv_has ls maxL (lv_args 0 av) →
      W p l e rm s m av.toArray below meth c s.heap [] 0 0 Q (F0 m 0 ls [])) : Met l y (wq y cc maxL (some .byte)) rm (va_Pc av (zK G P)) (zQ (some (.int 0))) 0 0 zF :=
  z_enter hy hav fun p e s m below meth c S hr hlk hG hP ls hl => body p e s m below meth c _ S hG hP (fun pc ls x d hx => by subst hx; exact W.zret S.1 S.2.1 hr rfl (fun t ht _ => ⟨rfl, ht⟩) z_nil d hlk) ls hl
