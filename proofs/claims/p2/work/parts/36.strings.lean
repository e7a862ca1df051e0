/-! ===== texts being built: what the rows of bytes hold is nobody's business here ===== -/
section ZS
variable {p : Program} {l : Launch} {e : Env} {R : Room} {s : State} {m : MethodId} {args : Array Value} {below : List Frame} {meth : Method} {c : Code} {H : Heap} {locs : List Loc} {cells slots : Nat} {Q : State → Prop}
variable {cc : ByteArray} {nL : Nat} {own : String} {pc : Nat} {ls : Array Slot} {rest : List Value} {G : zG} {A : Nat → Prop} {H0 : Heap}
theorem zI_neg {z : Int} (h0 : 0 ≤ z) (h1 : z < 2147483648) : ¬ zI z < 0 := fun q => by
  have := (zI_lt (a := z) (b := 0) (by constructor <;> omega) z0).mp q
  omega
theorem z_copyBy (S : CallFix p m c cc nL s args lw_g own) (hG : zKn G s) {a b n0 n1 index : Nat} (h0 : zBy (G.2 3) b n0 H) (h1 : zBy (G.2 3) a n1 H) (hS : va_S A H0 H locs) (ha : A a) {dp n : Int} (hi : 0 ≤ dp ∧ 0 ≤ n ∧ n ≤ n0 ∧ dp + n ≤ n1) (hn : n0 < 100000 ∧ n1 < 100000) (hl : Cond.methodLink own index arraycopyName ∈ lw_g) (hw : Cond.native arraycopyName ∈ lw_g ∧ Cond.static arraycopyName ∈ lw_g ∧ Cond.initialized "java/lang/System" ∈ lw_g) (hlz : ls.size = nL) (hf : 1 ≤ R.frames) (hlo : (rest.map fun v => v.category).sum + (nativeFrameWords "java/lang/System" "arraycopy" 5 + 11) ≤ R.locals) (d : decode cc pc = .ok (.invokestatic index, 3))
    (kk : ∀ (H1 : Heap) (locs1 : List Loc), zBy (G.2 3) a n1 H1 → H1.size = H.size → (∀ q : Nat, q ≠ a → H1[q]? = H[q]?) → va_S A H0 H1 locs1 → W p l e R s m args below meth c H1 locs1 cells slots Q (F0 m (pc + 3) ls rest)) : W p l e R s m args below meth c H locs cells slots Q (F0 m pc ls (.int (zI n) :: .int (zI dp) :: .ref a :: .int (zI 0) :: .ref b :: rest)) := by
  intro T hT X
  obtain ⟨cs, s1, s2, s3, s4, s5, s6⟩ := h0
  obtain ⟨cd, d1, d2, d3, d4, d5, d6⟩ := h1
  obtain ⟨hs6, k0, hk0, cm0, hkk0⟩ := zBy_arr (zG_by hG) s2 s4
  obtain ⟨-, k1, hk1, cm1, hkk1⟩ := zBy_arr (zG_by hG) d2 d4
  have c1 := zI_cl (i := dp) (by omega)
  have c2 := zI_cl (i := n) (by omega)
  have c0 : (zI 0).toNatClampNeg = 0 := rfl
  have e0 : (zI 0).toInt = 0 := rfl
  have e1 : (zI dp).toInt = dp := zI_toInt (by omega)
  have e2 : (zI n).toInt = n := zI_toInt (by omega)
  obtain ⟨vm', X', step⟩ := X.arraycopy S.1 S.2.2.2.1 (S.2.2.2.2 _ hl) (S.2.2.2.2 _ hw.1) (S.2.2.2.2 _ hw.2.1) (S.2.2.2.2 _ hw.2.2) (src := b) (dst := a) (cs := cs) (cd := cd) (srcPos := zI 0) (destPos := zI dp) (n := zI n) (by rw [hT]; exact s1) (by rw [hT]; exact d1)
    hs6 d2 s3 d3 hk0 hk1 hkk0 hkk1 (by simp [refKind]) (zI_neg (by omega) (by omega)) (zI_neg (by omega) (by omega)) (zI_neg (by omega) (by omega)) (by rw [e0, e2]; omega) (by rw [e1, e2]; omega)
    (fun vm₁ _ i hi => by
      rw [c0]
      obtain ⟨x, g1, g2⟩ := s6 (0 + i) (by rw [c2] at hi; omega)
      have g3 : cs.slots.getD (0 + i) .null = .int x := by rw [Array.getD_eq_getD_getElem?, g1]; rfl
      rw [g3]
      exact ⟨g2, trivial⟩)
    (g := F0 m pc ls (.int (zI n) :: .int (zI dp) :: .ref a :: .int (zI 0) :: .ref b :: rest)) rfl (by rw [hlz]; exact S.2.2.1.symm) (rest := rest) rfl (by rw [S.2.1]; exact d) hf (by show 2 * 0 + _ + _ ≤ _; omega)
  have hcp : copied cs cd (zI 0) (zI dp) (zI n) = cd.storeRun dp.toNat (cs.stretch 0 n.toNat) := by show cd.storeRun (zI dp).toNatClampNeg (cs.stretch (zI 0).toNatClampNeg (zI n).toNatClampNeg) = _; rw [c0, c1, c2]
  rw [hcp] at X' step
  have hla : a < H.size := (Array.getElem?_eq_some_iff.mp d1).1
  have hheap : ((T.setVm vm').setCell a (cd.storeRun dp.toNat (cs.stretch 0 n.toNat))).heap = H.setIfInBounds a (cd.storeRun dp.toNat (cs.stretch 0 n.toNat)) := by rw [← hT]; rfl
  have oq : ∀ q : Nat, q ≠ a → (H.setIfInBounds a (cd.storeRun dp.toNat (cs.stretch 0 n.toNat)))[q]? = H[q]? := fun q hq => by simp [Array.getElem?_setIfInBounds, Ne.symm hq]
  obtain ⟨f1, f2, f3, -, -⟩ := Cell.storeRun_facts cd dp.toNat (cs.stretch 0 n.toNat)
  have hz : (H.setIfInBounds a (cd.storeRun dp.toNat (cs.stretch 0 n.toNat))).size = H.size := by simp
  obtain ⟨t, a1, b1⟩ := kk _ _ ⟨cd.storeRun dp.toNat (cs.stretch 0 n.toNat), by simp [Array.getElem?_setIfInBounds, hla], by rw [f2]; exact d2, by rw [f2]; exact d3, by rw [f1]; exact d4, by rw [f3]; exact d5, fun j hj => by
      rw [Cell.storeRun_get _ _ _ _ (by rw [Cell.stretch_length, d5]; omega)]
      by_cases q : dp.toNat ≤ j ∧ j < dp.toNat + (cs.stretch 0 n.toNat).length
      · rw [if_pos q]
        rw [Cell.stretch_length] at q
        have hin : j - dp.toNat < (cs.stretch 0 n.toNat).length := by rw [Cell.stretch_length]; omega
        have g0 := Cell.stretch_get (c := cs) (at_ := 0) (n := n.toNat) (i := j - dp.toNat) (List.getElem?_eq_getElem hin)
        obtain ⟨x, g1, g2⟩ := s6 (0 + (j - dp.toNat)) (by omega)
        refine ⟨x, ?_, g2⟩
        rw [List.getElem?_eq_getElem hin, g0.2, Array.getD_eq_getD_getElem?, g1]
        rfl
      · rw [if_neg q]; exact d6 j hj⟩ hz oq ⟨by rw [hz]; exact hS.1, fun q g1 g2 => by rw [oq q (fun e => g2 (by rw [e]; exact ha))]; exact hS.2.1 q g1 g2, fun q hq => by
      rcases List.mem_append.mp hq with h | h
      · exact hS.2.2 q h
      · obtain ⟨z, -, hz⟩ := List.mem_map.mp h
        rw [← hz]
        exact ha⟩ _ hheap X'
  exact ⟨t, step t a1, b1⟩
/-- a whole row of bytes again -/
theorem z_cloneBy (S : CallFix p m c cc nL s args lw_g own) (hG : zKn G s) {a n0 index : Nat} (h0 : zBy (G.2 3) a n0 H) (hS : va_S A H0 H locs) (hlink : Cond.methodLink own index ⟨"[B", "clone", "()Ljava/lang/Object;"⟩ ∈ lw_g) (hsame : Cond.sameMethod "[B" "java/lang/Object" "clone" "()Ljava/lang/Object;" ∈ lw_g) (hnat : Cond.native ⟨"java/lang/Object", "clone", "()Ljava/lang/Object;"⟩ ∈ lw_g) (hinst : Cond.instanceMethod ⟨"java/lang/Object", "clone", "()Ljava/lang/Object;"⟩ ∈ lw_g)
    (hsel : Cond.selects "[B" ⟨"[B", "clone", "()Ljava/lang/Object;"⟩ ⟨"java/lang/Object", "clone", "()Ljava/lang/Object;"⟩ ∈ lw_g) (hct : Cond.castable "[B" "java/lang/Cloneable" ∈ lw_tbl) (hlz : ls.size = nL) (hf : 1 ≤ R.frames) (hlo : (rest.map fun v => v.category).sum + 14 ≤ R.locals) (hcs : cells + 1 ≤ R.cells ∧ slots + n0 ≤ R.slots) (d : decode cc pc = .ok (.invokevirtual index, 3))
    (kk : ∀ (q : Nat) (H1 : Heap), q = H.size → zBy (G.2 3) q n0 H1 → H1.size = H.size + 1 → (∀ q : Nat, q < H.size → H1[q]? = H[q]?) → va_S A H0 H1 locs → W p l e R s m args below meth c H1 locs (cells + 1) (slots + n0) Q (F0 m (pc + 3) ls (.ref q :: rest))) : W p l e R s m args below meth c H locs cells slots Q (F0 m pc ls (.ref a :: rest)) := by
  intro T hT X
  obtain ⟨cs, s1, s2, s3, s4, s5, s6⟩ := h0
  obtain ⟨c0, t0', f1, f2, f3⟩ := Cond.castable_spec (va_Nw.use (A := args) rfl (hG.2.1 _ _ hct))
  have hnm : s.vm.findClass "[B" = some (G.2 3) := zG_B hG
  cases hnm.symm.trans f1
  obtain ⟨-, kA, hkA, comp, hkind⟩ := State.isArrayOf_alike X.warmed.alike (zBy_arr (zG_by hG) s2 s4)
  obtain ⟨-, kS, hkS, compS, hkindS⟩ := zBy_arr (zG_by hG) s2 s4
  obtain ⟨vm', X', st⟩ := X.cloneArray S.1 S.2.2.2.1 (S.2.2.2.2 _ hlink) (S.2.2.2.2 _ hsame) (S.2.2.2.2 _ hnat) (S.2.2.2.2 _ hinst) (S.2.2.2.2 _ hsel) (a := a) (cell := cs) (by rw [hT]; exact s1) s2 s3 (by rw [s4]; exact hnm) f2 (by rw [s4]; exact f3)
    (fun i v hv => by
      have hi : i < n0 := by rw [← s5]; exact (Array.getElem?_eq_some_iff.mp hv).1
      obtain ⟨x, g1, g2⟩ := s6 i hi
      have hk' : T.vm.classes[cs.cls]? = some kA := hkA
      have e : v = .int x := Option.some.inj (hv.symm.trans g1)
      rw [e]
      simpa [State.fitsSlot, State.slotType?, hk', hkind] using g2)
    (g := F0 m pc ls (.ref a :: rest)) rfl (by rw [hlz]; exact S.2.2.1.symm) rfl (by rw [S.2.1]; exact d) hf (by show 2 * 0 + _ + 14 ≤ _; omega) hcs.1 (by rw [s5]; exact hcs.2) (hloader := Vm.clonesLoader_of_array hkS hkindS)
  rw [s5] at X'
  generalize hH1 : H.push ({ cls := cs.cls, slots := cs.slots } : Cell) = H1
  have z1 : H1.size = H.size + 1 := by rw [← hH1, Array.size_push]
  have e1 : H1[H.size]? = some ({ cls := cs.cls, slots := cs.slots } : Cell) := by rw [← hH1, Array.getElem?_push_size]
  have o1 : ∀ q : Nat, q < H.size → H1[q]? = H[q]? := fun q hq => by rw [← hH1, Array.getElem?_push, if_neg (Nat.ne_of_lt hq)]
  obtain ⟨t, b1, b2⟩ := kk H.size H1 rfl ⟨_, e1, (fun k h => by cases h), (fun h => by cases h), s4, s5, s6⟩ z1 o1 (z_grown hS z1 o1) _ (by rw [← hH1, ← hT]; rfl) X'
  exact ⟨t, by rw [← hT] at *; exact st t b1, b2⟩
end ZS
