/-! ===== methods that throw: without traces, the heap as it was ===== -/
/-- the two statics that a new exception is given -/
def zXp (G : zG) (H : Heap) : Prop := (zStH G 4 .null H ∨ ∃ t : Nat, zStH G 4 (.ref t) H) ∧ (zStH G 5 .null H ∨ ∃ t : Nat, zStH G 5 (.ref t) H)
theorem zXp.kept {G : zG} {H H1 : Heap} (h : zXp G H) (hq : ∀ q : Nat, q < H.size → (q = G.2 (100 + 4) ∨ q = G.2 (100 + 5)) → H1[q]? = H[q]?) : zXp G H1 :=
  ⟨h.1.elim (fun z => Or.inl (z.kept (fun q hx e => hq q hx (Or.inl e)))) (fun ⟨t, z⟩ => Or.inr ⟨t, z.kept (fun q hx e => hq q hx (Or.inl e))⟩), h.2.elim (fun z => Or.inl (z.kept (fun q hx e => hq q hx (Or.inr e)))) (fun ⟨t, z⟩ => Or.inr ⟨t, z.kept (fun q hx e => hq q hx (Or.inr e))⟩)⟩
theorem zX_Z {G : zG} {U : State} {i : Nat} {C n d : String} {v : Value} {H : Heap} (hV : zStV G i C n d U) (hH : zStH G i v H) : va_Z C n d v (fun _ => False) U H ∧ vx_L C n d (fun _ => False) U H := by
  obtain ⟨kf, fi, f, h1, h2, h3, h4, h5, h6, h7⟩ := hV
  obtain ⟨cell, c1, c2, c3, c4, c5⟩ := hH
  exact ⟨⟨_, kf, fi, f, _, cell, h2, h3, h4, h5, c1, c2, by rw [h6]; exact c5, fun z => z⟩, ⟨_, kf, fi, f, _, cell, h1, h2, h3, h5, c1, c2, c3, by rw [h6]; exact c4, h7, fun z => z⟩⟩
theorem zX_q {G : zG} {U : State} {i : Nat} {C n d : String} {H : Heap} (hV : zStV G i C n d U) (hH : zStH G i .null H ∨ ∃ t : Nat, zStH G i (.ref t) H) : vx_Zq C n d (fun _ => False) U H := by
  rcases hH with h | ⟨t, h⟩
  · exact ⟨Or.inl (zX_Z hV h).1, (zX_Z hV h).2⟩
  · exact ⟨Or.inr ⟨t, (zX_Z hV h).1⟩, (zX_Z hV h).2⟩
def zXc (E : String) : String → State → State → Prop := fun E' st t => E' = E ∧ st.heap.size ≤ t.heap.size ∧ ∀ q : Nat, q < st.heap.size → t.heap[q]? = st.heap[q]?
abbrev zNo : Array Value → State → Outcome → State → Prop := fun _ _ _ _ => False
abbrev zThr (l : Launch) (y : MethodName) (ws : List Cond) (rm : Room) (Pc : Array Value → State → Prop) (E : String) : Prop := vx_Met l y ws rm Pc zNo (zXc E) 1 6 (fun _ => False)
abbrev zChn : List String := ["java/lang/RuntimeException", "java/lang/Exception"]
def zIsC : Cond → Bool
  | .castable _ _ => true
  | .declares _ => true
  | _ => false
/-- the words that a throw of E by 'own' asks: all stand in the tables -/
def zXw (own E : String) (ic : Nat) : Prop := (∀ w ∈ vx_atS own ic E zChn, w ∈ lw_tbl) ∧ (∀ w ∈ vx_atS own ic E zChn, (goodWord w || zIsC w) = true) ∧ (∀ w ∈ vx_atS own ic E zChn, vx_ot w = true) ∧ Cond.initialized E ∈ lw_g ∧ Bundle.fit E = true
theorem z_enterX {l : Launch} {y : MethodName} {cc : ByteArray} {maxL : Nat} {rt : Option FieldType} {rm : Room} {G : zG} {P : Heap → Prop} {E : String} {av : List Value} (hy : plainName y.cls = true) (hav : (lg_sl av).length ≤ maxL) (hl0 : l.stackTraces = false) (hrm : 5 < rm.frames ∧ 90 ≤ rm.locals ∧ 1 ≤ rm.cells ∧ 6 ≤ rm.slots) (hPX : ∀ H, P H → zXp G H)
    (body : ∀ (p : Program) (e : Env) (s : State) (m : MethodId) (below : List Frame) (meth : Method) (c : Code) (Q : State → Prop), CallFix p m c cc maxL s av.toArray lw_g y.cls → zKn G s → P s.heap →
      (∀ (pc : Nat) (ls : Array Slot) (ik is ic : Nat) (tx : String), zXw y.cls E ic → Cond.classLink y.cls ik E ∈ lw_g → Cond.stringRef y.cls is tx ∈ lw_tbl → decode cc pc = .ok (.new ik, 3) → decode cc (pc + 3) = .ok (.dup, 1) → decode cc (pc + 4) = .ok (.ldc is, 2) → decode cc (pc + 6) = .ok (.invokespecial ic, 3) → decode cc (pc + 9) = .ok (.athrow, 1) → ls.size = maxL → W p l e rm s m av.toArray below meth c s.heap [] 0 0 Q (F0 m pc ls [])) → ∀ ls, lv_has ls maxL (lv_args 0 av) →
      W p l e rm s m av.toArray below meth c s.heap [] 0 0 Q (F0 m 0 ls [])) : zThr l y (wq y cc maxL rt) rm (va_Pc av (zK G P)) E := by
  refine vx_ofW (cc := cc) (maxL := maxL) (ret := rt) hy rfl ?_
  intro p e s m args below meth c s₁ B hml htab hv
  obtain ⟨rfl, hP, hG⟩ := hv
  have hl := lv_entry av (n := maxL) hav
  rw [lg_entry_eq]
  have S : CallFix p m c cc maxL s av.toArray lw_g y.cls := ⟨B.exec, B.bytes, hml, findClass_of_methodNamed B.named, fun w hw => atoms_spec B.pre w (List.mem_cons_of_mem _ hw)⟩
  refine body p e s m below meth c _ S hG hP (fun pc ls ik is ic tx hw hk hs d0 d3 d4 d6 d9 hsz => ?_) _ hl
  obtain ⟨sa, hsa⟩ := hG.2.2.2.2.2.1 _ _ _ hs
  have hXp := hPX _ hP
  have hat : ∀ w ∈ vx_atS y.cls ic E zChn, w.before av.toArray s = true := fun w hm => by
    rcases Bool.or_eq_true_iff.mp (hw.2.1 w hm) with g | g
    · exact S.2.2.2.2 w (zg_of (hw.1 w hm) g)
    · have hmem := hw.1 w hm
      cases w <;> first | (exact va_Nw.use rfl (hG.2.1 _ _ hmem)) | (exact va_Nw.use rfl (hG.2.2.2.2.2.2.2.1.2.2.1 _ hmem)) | (exact absurd g Bool.false_ne_true)
  exact vx_throwS (A := fun _ => False) (mc := 1) (ms := 6) (text := tx) S.1 S.2.1 hl0 S.2.2.2.1 hw.2.2.2.2 (by decide +kernel) (S.2.2.2.2 _ hk) (S.2.2.2.2 _ hw.2.2.2.1) hsa hat
    (fun w hm => by
      rcases List.mem_cons.mp hm with rfl | hm
      · exact Bool.or_eq_true_iff.mpr (Or.inr (List.mem_filter.mp hk).2)
      · rcases List.mem_cons.mp hm with rfl | hm
        · exact Bool.or_eq_true_iff.mpr (Or.inr (List.mem_filter.mp hw.2.2.2.1).2)
        · exact hw.2.2.1 w hm)
    (zX_q (hG.2.2.2.2.1 4 _ rfl) hXp.1) (zX_q (hG.2.2.2.2.1 5 _ rfl) hXp.2) va_S.rf (by rw [hsz]; exact hml.symm) d0 d3 d4 d6 d9 (fun x hx => (htab x hx).elim) (by show 2 + 3 < _; exact hrm.1) (by show (List.map _ ([] : List Value)).sum + (13 * (2 + 1) + 43) ≤ _; show 0 + 82 ≤ rm.locals; exact Nat.le_trans (by decide) hrm.2.1) (by show 0 + 1 ≤ rm.cells; exact hrm.2.2.1) (by show 0 + 6 ≤ rm.slots; exact hrm.2.2.2) B.notSynchronized
    (fun t _ h1 h2 => ⟨rfl, h1, h2⟩) (fun z h => by cases h) (Nat.le_refl _) (Nat.le_refl _)
theorem q1_11 : (Jvm.Cond.initialized "java/lang/IndexOutOfBoundsException") ∈ lw_g := zg_of (zin1 (List.mem_of_getElem? (i := 11) rfl)) rfl
set_option maxRecDepth 100000 in
theorem zxw_I : zXw RX2 "java/lang/IndexOutOfBoundsException" 47 := ⟨by decide +kernel, by decide +kernel, by decide +kernel, q1_11, by decide +kernel⟩
theorem q1_12 : (Jvm.Cond.initialized "java/lang/IllegalArgumentException") ∈ lw_g := zg_of (zin1 (List.mem_of_getElem? (i := 12) rfl)) rfl
set_option maxRecDepth 100000 in
theorem zxw_A : zXw RX2 "java/lang/IllegalArgumentException" 57 := ⟨by decide +kernel, by decide +kernel, by decide +kernel, q1_12, by decide +kernel⟩
theorem q1_13 : (Jvm.Cond.initialized "java/lang/IllegalStateException") ∈ lw_g := zg_of (zin1 (List.mem_of_getElem? (i := 13) rfl)) rfl
set_option maxRecDepth 100000 in
theorem zxw_S : zXw RX2 "java/lang/IllegalStateException" 96 := ⟨by decide +kernel, by decide +kernel, by decide +kernel, q1_13, by decide +kernel⟩
