/-! ===== answers that are some text ===== -/
def zMx (A : Nat → Prop) (B : Heap → Prop) : Array Value → State → Outcome → State → Prop := fun _ st o t => ∃ E : Nat, o = .returned (some (.ref E)) ∧ B t.heap ∧ st.heap.size ≤ t.heap.size ∧ ∀ q : Nat, q < st.heap.size → ¬ A q → t.heap[q]? = st.heap[q]?
theorem z_enterMx {l : Launch} {y : MethodName} {cc : ByteArray} {maxL mc ms : Nat} {rm : Room} {G : zG} {P B : Heap → Prop} {A : Nat → Prop} {C : String} {av : List Value} (hy : plainName y.cls = true) (hav : (lg_sl av).length ≤ maxL)
    (body : ∀ (p : Program) (e : Env) (s : State) (m : MethodId) (below : List Frame) (meth : Method) (c : Code) (Q : State → Prop), CallFix p m c cc maxL s av.toArray lw_g y.cls → zKn G s → P s.heap → va_S A s.heap s.heap [] →
      (∀ (pc : Nat) (ls : Array Slot) (H : Heap) (locs : List Loc) (k n E : Nat), decode cc pc = .ok (.areturn, 1) → va_S A s.heap H locs → B H → k ≤ mc → n ≤ ms → W p l e rm s m av.toArray below meth c H locs k n Q (F0 m pc ls [.ref E])) → ∀ ls, lv_has ls maxL (lv_args 0 av) →
      W p l e rm s m av.toArray below meth c s.heap [] 0 0 Q (F0 m 0 ls [])) : Met l y (wq y cc maxL (some (.object C))) rm (va_Pc av (zK G P)) (zMx A B) mc ms A := by
  refine Met.ofW (cc := cc) (maxL := maxL) (ret := some (.object C)) hy rfl ?_
  intro p e s m args below meth c s₁ B0 hml hv
  obtain ⟨rfl, hP, hG⟩ := hv
  have hl := lv_entry av (n := maxL) hav
  rw [lg_entry_eq]
  exact body p e s m below meth c _ ⟨B0.exec, B0.bytes, hml, findClass_of_methodNamed B0.named, fun w hw => atoms_spec B0.pre w (List.mem_cons_of_mem _ hw)⟩ hG hP va_S.rf (fun pc ls H locs k n E d hS hB hk hn => by
    exact W.widen hk hn (W.aret B0.exec B0.bytes B0.returns (Or.inl ⟨_, rfl⟩) (Or.inr ⟨_, rfl⟩) (fun t ht _ => ⟨E, rfl, by rw [ht]; exact hB, (hS.F ht).1, (hS.F ht).2⟩) hS.2.2 d B0.notSynchronized)) _ hl
section ZMX
variable {p : Program} {l : Launch} {e : Env} {R : Room} {s : State} {m : MethodId} {args : Array Value} {below : List Frame} {meth : Method} {c : Code} {H : Heap} {locs : List Loc} {cells slots : Nat} {Q : State → Prop}
variable {cc : ByteArray} {nL : Nat} {own : String} {pc : Nat} {ls : Array Slot} {rest : List Value} {G : zG} {A : Nat → Prop} {H0 : Heap}
theorem z_mendx {B : Heap → Prop} {A1 : Nat → Prop} {mc ms : Nat} {a : Array Value} {st0 : List Value} (hr : va_Run p l e R s m args below meth c H locs cells slots mc ms (F0 m pc ls st0) rest (zMx A1 B a) A1) (hS : va_S A H0 H locs) (hA : ∀ q, A1 q → A q)
    (kk : ∀ (E : Nat) (H1 : Heap) (locs1 : List Loc), B H1 → H.size ≤ H1.size → (∀ q : Nat, q < H.size → ¬ A1 q → H1[q]? = H[q]?) → va_S A H0 H1 locs1 → W p l e R s m args below meth c H1 locs1 (cells + mc) (slots + ms) Q (F0 m (pc + 3) ls (.ref E :: rest))) : W p l e R s m args below meth c H locs cells slots Q (F0 m pc ls st0) := by
  intro T hT X
  obtain ⟨v', st₀, t, T', L, h0, X', hL, e1, e2, ⟨E, hv, hb, hz, hk⟩, st⟩ := hr T hT X
  cases hv
  rw [h0] at hz hk
  obtain ⟨t2, a1, b1⟩ := kk E T'.heap (locs ++ L) (by rw [e1]; exact hb) (by rw [e1]; exact hz) (fun q h1 h2 => by rw [e1]; exact hk q h1 h2)
    ⟨Nat.le_trans hS.1 (by rw [e1]; exact hz), fun q h1 h2 => by rw [e1, hk q (Nat.lt_of_lt_of_le h1 hS.1) (fun z => h2 (hA q z))]; exact hS.2.1 q h1 h2, fun q hq => by
      rcases List.mem_append.mp hq with h | h
      · exact hS.2.2 q h
      · exact hA _ (hL q h)⟩ T' rfl X'
  exact ⟨t2, st t2 a1, b1⟩
theorem z_callMx (S : CallFix p m c cc nL s args lw_g own) (hG : zKn G s) (hS : va_S A H0 H locs) {y : MethodName} {bytes : ByteArray} {maxL na index mc ms : Nat} {ret : Option FieldType} {rm : Room} {P B : Heap → Prop} {A1 : Nat → Prop} {As st : List Value} {b ci N : Nat} {fs : List Value} {C : String} {T : u_T} (hM : Met l y (wq y bytes maxL ret) rm (va_Pc (.ref b :: As) (zK G P)) (zMx A1 B) mc ms A1) (hA : ∀ q, A1 q → A q) (hY : zOV y bytes maxL ret na) (hat : va_at G.1 vwCl (b, .inr (ci, fs)) H) (hC : zCl ci C T N) (hc : y.cls = C) (hl : Cond.methodLink own index y ∈ lw_g) (hP : P H) (hR : zRM R rm maxL mc ms) (hcs : cells + mc ≤ R.cells ∧ slots + ms ≤ R.slots) (hn : As.length = na) (hrest : (rest.map fun v => v.category).sum ≤ 8) (hlz : ls.size = nL) (hst : st = As.reverse ++ .ref b :: rest) (d : decode cc pc = .ok (.invokevirtual index, 3))
    (kk : ∀ (E : Nat) (H1 : Heap) (locs1 : List Loc), B H1 → H.size ≤ H1.size → (∀ q : Nat, q < H.size → ¬ A1 q → H1[q]? = H[q]?) → va_S A H0 H1 locs1 → W p l e R s m args below meth c H1 locs1 (cells + mc) (slots + ms) Q (F0 m (pc + 3) ls (.ref E :: rest))) : W p l e R s m args below meth c H locs cells slots Q (F0 m pc ls st) := by
  subst hc
  exact z_mendx (va_runV S hM (C := y.cls) ⟨z_cbM S hY.1 hl hR, S.2.2.2.2 _ hY.2.1, S.2.2.2.2 _ hY.2.2⟩ ⟨z_blind, va_recv hG.1 (va_one hat) hC.1 (q0 := 0) rfl, fun U hU hW => ⟨rfl, by rw [hU]; exact hP, zKn.moved hW hG⟩⟩ rfl hn hlz hst (lv_room hrest) d hcs) hS hA kk
end ZMX
theorem shw_z {σ : St} (hO : okR σ) (hB : okB σ) {e w : Int} (he : 0 ≤ e ∧ e < 16) (hw : 0 ≤ w) : ∃ b : Int, (0 ≤ b ∧ b < 64) ∧ shw σ e w = zI b := by
  have h := src_b hO he hw
  exact hB _ h.1 h.2
theorem dg_ex {b : Int} : ∃ w : Nat, (b < 10 ∧ w = 1) ∨ (10 ≤ b ∧ w = 2) := by
  by_cases z : b < 10
  · exact ⟨1, Or.inl ⟨z, rfl⟩⟩
  · exact ⟨2, Or.inr ⟨by omega, rfl⟩⟩
theorem q4_49 : (Jvm.Cond.methodLink "Cyclepaint" (195 : Nat) ({ cls := "java/lang/StringBuilder", name := "toString", desc := "()Ljava/lang/String;" } : Jvm.MethodName)) ∈ lw_g := zg_of (zin4 (List.mem_of_getElem? (i := 49) rfl)) rfl
theorem q4_15 : (Jvm.Cond.methodLink "Cyclepaint" (192 : Nat) ({ cls := "java/lang/StringBuilder", name := "append", desc := "(I)Ljava/lang/StringBuilder;" } : Jvm.MethodName)) ∈ lw_g := zg_of (zin4 (List.mem_of_getElem? (i := 15) rfl)) rfl
theorem q3_162 : (Jvm.Cond.methodLink "Cyclepaint" (185 : Nat) ({ cls := "java/lang/StringBuilder", name := "append", desc := "(C)Ljava/lang/StringBuilder;" } : Jvm.MethodName)) ∈ lw_g := zg_of (zin3 (List.mem_of_getElem? (i := 162) rfl)) rfl
theorem q3_131 : (Jvm.Cond.classLink "Cyclepaint" (182 : Nat) "java/lang/StringBuilder") ∈ lw_g := zg_of (zin3 (List.mem_of_getElem? (i := 131) rfl)) rfl
theorem q3_132 : (Jvm.Cond.instantiable "java/lang/StringBuilder" (4 : Nat)) ∈ lw_g := zg_of (zin3 (List.mem_of_getElem? (i := 132) rfl)) rfl
theorem q3_134 : (Jvm.Cond.instanceMethod ({ cls := "java/lang/StringBuilder", name := "<init>", desc := "()V" } : Jvm.MethodName)) ∈ lw_g := zg_of (zin3 (List.mem_of_getElem? (i := 134) rfl)) rfl
theorem q3_133 : (Jvm.Cond.methodLink "Cyclepaint" (184 : Nat) ({ cls := "java/lang/StringBuilder", name := "<init>", desc := "()V" } : Jvm.MethodName)) ∈ lw_g := zg_of (zin3 (List.mem_of_getElem? (i := 133) rfl)) rfl
set_option maxHeartbeats 4000000 in
set_option maxRecDepth 100000 in
theorem row_X2 {p : Program} (l : Launch) {env : Env} {s : State} {m : MethodId} {av : Array Value} {below : List Frame} {meth : Method} {cod : Code} {Q : State → Prop} (G : zG) (σ : St) (a : Nat → Nat) (sz : Nat) (x : Int) (hx : 0 ≤ x ∧ x ≤ 3) (h99 : sz ≥ G.2 99) (kR : okR σ) (kC : okC σ) (hlt : ∀ i : Nat, cL σ i → a i < sz) (S : CallFix p m cod cX2_row 4 s av lw_g RX2) (hG : zKn G s) (ret : ∀ (pc : Nat) (ls : Array Slot) (H : Heap) (locs : List Loc) (k n E : Nat), decode cX2_row pc = .ok (.areturn, 1) → va_S (fun y => sz ≤ y) s.heap H locs → (hCyc G σ a) H → k ≤ 20 → n ≤ 620 → W p l env (rmM 6 151 20 620) s m av below meth cod H locs k n Q (F0 m pc ls [.ref E])) :
    ∀ (nn k q n : Nat) (H : Heap) (locs : List Loc) (ls : Array Slot), nn + k = 8 → n ≤ 3 * k → hSX G q sz n n H → hCyc G σ a H → zTx G H → va_S (fun y => sz ≤ y) s.heap H locs → lv_has ls 4 [(0, .ref (a 0)), (1, .int (zI (x))), (2, .ref (q)), (3, .int (zI ((k : Int))))] → W p l env (rmM 6 151 20 620) s m av below meth cod H locs (2 + 2 * k) (20 + 68 * k) Q (F0 m 28 ls []) := by
  intro nn
  induction nn with
  | zero =>
    intro k q n H locs ls hk hn3 hX hC hT hS hl
    refine z_iload_n S dX2_row_28 hl 3 rfl rfl ?_
    refine z_bipush S dX2_row_29 rfl ?_
    refine z_icmp_ge_T S 66 dX2_row_31 (by decide) (by omega) (by omega) (by omega) ?_
    refine z_aload_n S dX2_row_66 hl 2 rfl rfl ?_
    obtain ⟨_, _, ⟨hQ, _, _⟩, _⟩ := id hX
    refine z_callQ S hG hS (c_bTs l G q sz n H.size h99) (fun _ h => h) ok_J4_toString_0e30d.1 q4_50 (S.2.2.2.2 _ q4_51) (z_rcv hG hQ zc_J4) q4_49 (⟨hX, hT, rfl⟩) ⟨rfl, rfl, by decide, by decide⟩ ⟨(by show _ ≤ (20 : Nat); omega), (by show _ ≤ (620 : Nat); omega)⟩ rfl (Nat.le_of_ble_eq_true rfl) hl.1 rfl dX2_row_67 (fun H_1 L_1 hB hz oq hS => ?_)
    have hC := hCyc_keep hC (fun i hi => oq _ (hCyc_ltL hC hi) (by have := hlt i hi; show ¬ (sz ≤ _); omega))
    exact ret _ _ _ _ _ _ _ dX2_row_70 hS (hC) (by omega) (by omega)
  | succ nn ih =>
    intro k q n H locs ls hk hn3 hX hC hT hS hl
    refine z_iload_n S dX2_row_28 hl 3 rfl rfl ?_
    refine z_bipush S dX2_row_29 rfl ?_
    refine z_icmp_ge S 66 dX2_row_31 (by decide) (by omega) (by omega) (fun c_31 => ?_) (fun c_31 => ?_)
    · skip
      refine z_aload_n S dX2_row_66 hl 2 rfl rfl ?_
      obtain ⟨_, _, ⟨hQ, _, _⟩, _⟩ := id hX
      refine z_callQ S hG hS (c_bTs l G q sz n H.size h99) (fun _ h => h) ok_J4_toString_0e30d.1 q4_50 (S.2.2.2.2 _ q4_51) (z_rcv hG hQ zc_J4) q4_49 (⟨hX, hT, rfl⟩) ⟨rfl, rfl, by decide, by decide⟩ ⟨(by show _ ≤ (20 : Nat); omega), (by show _ ≤ (620 : Nat); omega)⟩ rfl (Nat.le_of_ble_eq_true rfl) hl.1 rfl dX2_row_67 (fun H_1 L_1 hB hz oq hS => ?_)
      have hC := hCyc_keep hC (fun i hi => oq _ (hCyc_ltL hC hi) (by have := hlt i hi; show ¬ (sz ≤ _); omega))
      exact ret _ _ _ _ _ _ _ dX2_row_70 hS (hC) (by omega) (by omega)
    · skip
      refine z_iload_n S dX2_row_34 hl 3 rfl rfl ?_
      refine z_if_le S 45 dX2_row_35 (by decide) (by omega) (fun c_35 => ?_) (fun c_35 => ?_)
      · skip
        refine z_aload_n S dX2_row_45 hl 2 rfl rfl ?_
        refine z_aload_n S dX2_row_46 hl 0 rfl rfl ?_
        refine z_iload_n S dX2_row_47 hl 1 rfl rfl ?_
        refine z_bipush S dX2_row_48 rfl ?_
        refine z_imul S dX2_row_50 ?_
        refine z_iload_n S dX2_row_51 hl 3 rfl rfl ?_
        refine z_iadd S dX2_row_52 ?_
        refine z_callVs S hG (c_X2_shownNow l G σ a (x * 8 + k) (by omega)) ok_X2_shownNow hC.1 zc_X2 rfl q1_231 (hC) ⟨rfl, rfl, by decide, by decide⟩ ⟨(by show _ ≤ (20 : Nat); omega), (by show _ ≤ (620 : Nat); omega)⟩ rfl (Nat.le_of_ble_eq_true rfl) hl.1 rfl dX2_row_53 ?_
        obtain ⟨bz, hbz, ebz⟩ := shw_z kR kC.2.2.2.2.2 (kC.2.1 (x * 8 + k) (by omega) (by omega)) kC.1.1
        rw [ebz]
        obtain ⟨w1, hw1⟩ := dg_ex (b := bz)
        obtain ⟨_, _, ⟨hQ, _, _⟩, _⟩ := id hX
        refine z_callQ S hG hS (c_bApI l G q sz (n) w1 bz h99 (by omega) hw1 (by omega)) (fun _ h => h) ok_J4_append_bf812.1 q4_16 (S.2.2.2.2 _ q4_17) (z_rcv hG hQ zc_J4) q4_15 (⟨hX, hT⟩) ⟨rfl, rfl, by decide, by decide⟩ ⟨(by show _ ≤ (20 : Nat); omega), (by show _ ≤ (620 : Nat); omega)⟩ rfl (Nat.le_of_ble_eq_true rfl) hl.1 rfl dX2_row_56 (fun H_2 L_2 hB hz oq hS => ?_)
        have hX := hB
        have hC := hCyc_keep hC (fun i hi => oq _ (hCyc_ltL hC hi) (by have := hlt i hi; show ¬ (sz ≤ _); omega))
        have hT := zTx.kept hT (fun y hx h9 => oq y hx (by show ¬ (sz ≤ y); omega))
        refine lv_pop S.1 S.2.1 dX2_row_59 rfl ?_
        refine z_iinc (lv' := [(3, .int (zI ((k : Int) + 1))), (0, .ref (a 0)), (1, .int (zI (x))), (2, .ref (q))]) S dX2_row_60 hl 3 rfl (by decide) rfl (fun ls hl => ?_)
        refine z_goto S 28 dX2_row_63 (by decide) ?_
        have e1 : (k : Int) + 1 = ((k + 1 : Nat) : Int) := by omega
        rw [e1] at hl
        exact W.widen (k := 2 + 2 * (k + 1)) (n := 20 + 68 * (k + 1)) (by omega) (by omega) (ih (k + 1) q (n + w1) _ _ _ (by omega) (by omega) hX hC hT hS (lv_sub hl [1, 2, 3, 0] rfl))
      · skip
        refine z_aload_n S dX2_row_38 hl 2 rfl rfl ?_
        refine z_bipush S dX2_row_39 rfl ?_
        obtain ⟨_, _, ⟨hQ, _, _⟩, _⟩ := id hX
        refine z_callQ S hG hS (c_bApC l G q sz (n) h99 (by omega)) (fun _ h => h) ok_J4_append_cf468.1 q3_163 (S.2.2.2.2 _ q3_164) (z_rcv hG hQ zc_J4) q3_162 (⟨hX, hT⟩) ⟨rfl, rfl, by decide, by decide⟩ ⟨(by show _ ≤ (20 : Nat); omega), (by show _ ≤ (620 : Nat); omega)⟩ rfl (Nat.le_of_ble_eq_true rfl) hl.1 rfl dX2_row_41 (fun H_3 L_3 hB hz oq hS => ?_)
        have hX := hB
        have hC := hCyc_keep hC (fun i hi => oq _ (hCyc_ltL hC hi) (by have := hlt i hi; show ¬ (sz ≤ _); omega))
        have hT := zTx.kept hT (fun y hx h9 => oq y hx (by show ¬ (sz ≤ y); omega))
        refine lv_pop S.1 S.2.1 dX2_row_44 rfl ?_
        refine z_aload_n S dX2_row_45 hl 2 rfl rfl ?_
        refine z_aload_n S dX2_row_46 hl 0 rfl rfl ?_
        refine z_iload_n S dX2_row_47 hl 1 rfl rfl ?_
        refine z_bipush S dX2_row_48 rfl ?_
        refine z_imul S dX2_row_50 ?_
        refine z_iload_n S dX2_row_51 hl 3 rfl rfl ?_
        refine z_iadd S dX2_row_52 ?_
        refine z_callVs S hG (c_X2_shownNow l G σ a (x * 8 + k) (by omega)) ok_X2_shownNow hC.1 zc_X2 rfl q1_231 (hC) ⟨rfl, rfl, by decide, by decide⟩ ⟨(by show _ ≤ (20 : Nat); omega), (by show _ ≤ (620 : Nat); omega)⟩ rfl (Nat.le_of_ble_eq_true rfl) hl.1 rfl dX2_row_53 ?_
        obtain ⟨bz, hbz, ebz⟩ := shw_z kR kC.2.2.2.2.2 (kC.2.1 (x * 8 + k) (by omega) (by omega)) kC.1.1
        rw [ebz]
        obtain ⟨w1, hw1⟩ := dg_ex (b := bz)
        obtain ⟨_, _, ⟨hQ, _, _⟩, _⟩ := id hX
        refine z_callQ S hG hS (c_bApI l G q sz (n + 1) w1 bz h99 (by omega) hw1 (by omega)) (fun _ h => h) ok_J4_append_bf812.1 q4_16 (S.2.2.2.2 _ q4_17) (z_rcv hG hQ zc_J4) q4_15 (⟨hX, hT⟩) ⟨rfl, rfl, by decide, by decide⟩ ⟨(by show _ ≤ (20 : Nat); omega), (by show _ ≤ (620 : Nat); omega)⟩ rfl (Nat.le_of_ble_eq_true rfl) hl.1 rfl dX2_row_56 (fun H_4 L_4 hB hz oq hS => ?_)
        have hX := hB
        have hC := hCyc_keep hC (fun i hi => oq _ (hCyc_ltL hC hi) (by have := hlt i hi; show ¬ (sz ≤ _); omega))
        have hT := zTx.kept hT (fun y hx h9 => oq y hx (by show ¬ (sz ≤ y); omega))
        refine lv_pop S.1 S.2.1 dX2_row_59 rfl ?_
        refine z_iinc (lv' := [(3, .int (zI ((k : Int) + 1))), (0, .ref (a 0)), (1, .int (zI (x))), (2, .ref (q))]) S dX2_row_60 hl 3 rfl (by decide) rfl (fun ls hl => ?_)
        refine z_goto S 28 dX2_row_63 (by decide) ?_
        have e1 : (k : Int) + 1 = ((k + 1 : Nat) : Int) := by omega
        rw [e1] at hl
        exact W.widen (k := 2 + 2 * (k + 1)) (n := 20 + 68 * (k + 1)) (by omega) (by omega) (ih (k + 1) q (n + 1 + w1) _ _ _ (by omega) (by omega) hX hC hT hS (lv_sub hl [1, 2, 3, 0] rfl))
set_option maxHeartbeats 4000000 in
set_option maxRecDepth 100000 in
theorem c_X2_row (l : Launch) (G : zG) (σ : St) (a : Nat → Nat) (sz : Nat) (x : Int) (hx : 0 ≤ x ∧ x ≤ 3) (h99 : sz ≥ G.2 99) (kR : okR σ) (kC : okC σ) (hlt : ∀ i : Nat, cL σ i → a i < sz) : Met l yX2_row (wq yX2_row cX2_row 4 ((Option.some (Jvm.ClassFile.FieldType.object "java/lang/String")))) (rmM 6 151 20 620) (va_Pc [.ref (a 0), .int (zI x)] (zK G (fun H => hCyc G σ a H ∧ zTx G H ∧ H.size = sz))) (zMx (fun y => sz ≤ y) (hCyc G σ a)) 20 620 (fun y => sz ≤ y) := by
  refine z_enterMx (by decide +kernel) (Nat.le_of_ble_eq_true rfl) ?_
  intro p env s m below meth cod Q S hG hP hS ret ls hl
  have hl : lv_has ls 4 [(0, .ref (a 0)), (1, .int (zI x))] := hl
  obtain ⟨hC, hT, hz0⟩ := hP
  refine z_iload_n S dX2_row_0 hl 1 rfl rfl ?_
  refine z_iconst S dX2_row_1 ?_
  refine z_callSs S hG (c_X2_isDot l G x 0 (by omega)) ok_X2_isDot q2_193 (trivial) ⟨rfl, rfl, by decide, by decide⟩ ⟨Nat.zero_le _, Nat.zero_le _⟩ rfl (Nat.le_of_ble_eq_true rfl) hl.1 rfl dX2_row_2 ?_
  refine z_bif_ne S 18 dX2_row_5 (by decide) (fun q => ?_) (fun q => ?_)
  rotate_left
  · exact absurd q (by rw [show (decide (0 ≤ x) && decide (x < 4) && (decide (0 ≤ (0 : Int)) && decide ((0 : Int) < 8))) = true from by rw [decide_eq_true hx.1, decide_eq_true (show x < 4 by omega)]; rfl]; decide)
  refine z_newc S hG zc_J4 tyJ4 tyJ4_ok q3_131 q3_132 q1_26 hS (fs := [.null, .int 0, .int 0, .int 0]) (fun j hj => by rcases (show j = 0 ∨ j = 1 ∨ j = 2 ∨ j = 3 by omega) with rfl | rfl | rfl | rfl <;> rfl) ⟨(by show _ ≤ (20 : Nat); omega), (by show _ ≤ (620 : Nat); omega)⟩ dX2_row_18 (fun n1 H_1 hq_n1 hat hz oq hS => ?_)
  have hC := hCyc_keep hC (fun i hi => oq _ (hCyc_ltL hC hi))
  have hT := zTx.kept hT (fun y hx _ => oq y hx)
  have h_n1 := hat
  refine z_dup S dX2_row_21 rfl ?_
  refine z_callMI S hG hS (c_bIni l G n1 H_1.size) (fun y z => by have z2 : y = n1 ∨ _ ≤ y := z; show sz ≤ y; omega) ok_J4_init_da8c8 q3_134 rfl q3_133 (⟨h_n1, hT, rfl⟩) ⟨rfl, rfl, by decide, by decide⟩ ⟨(by show _ ≤ (20 : Nat); omega), (by show _ ≤ (620 : Nat); omega)⟩ rfl (Nat.le_of_ble_eq_true rfl) hl.1 rfl dX2_row_22 (fun H_2 L_2 hB hz oq hS => ?_)
  have hC := hCyc_keep hC (fun i hi => oq _ (hCyc_ltL hC hi) (by have := hlt i hi; show ¬ (_ = n1 ∨ _ ≤ _); omega))
  have hT := zTx.kept hT (fun y hx h9 => oq y hx (by show ¬ (y = n1 ∨ _ ≤ y); omega))
  have hX : hSX G n1 sz 0 0 _ := ⟨_, 16, hB, by omega, by omega, Or.inl ⟨rfl, by decide⟩, Nat.le_refl _⟩
  refine z_astore_n (lv' := [(2, .ref (n1)), (0, .ref (a 0)), (1, .int (zI (x)))]) S dX2_row_25 hl rfl (by decide) rfl (fun ls hl => ?_)
  refine z_iconst S dX2_row_26 ?_
  refine z_istore_n (lv' := [(3, .int (zI (0))), (2, .ref (n1)), (0, .ref (a 0)), (1, .int (zI (x)))]) S dX2_row_27 hl rfl (by decide) rfl (fun ls hl => ?_)
  exact W.widen (k := 2 + 2 * 0) (n := 20 + 68 * 0) (by omega) (by omega) (row_X2 l G σ a sz x hx h99 kR kC hlt S hG ret 8 0 n1 0 _ _ _ rfl (by omega) hX hC hT hS (lv_sub hl [2, 3, 1, 0] rfl))
