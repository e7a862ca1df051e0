/-! ===== answers that are some text ===== -/
def zMx (A : Nat → Prop) (B : Heap → Prop) : Array Value → State → Outcome → State → Prop := fun _ st o t => ∃ E : Nat, o = .returned (some (.ref E)) ∧ B t.heap ∧ st.heap.size ≤ t.heap.size ∧ ∀ q : Nat, q < st.heap.size → ¬ A q → t.heap[q]? = st.heap[q]?
theorem z_enterMx {l : Launch} {y : MethodName} {cc : ByteArray} {maxL mc ms : Nat} {rm : Room} {G : zG} {P B : Heap → Prop} {A : Nat → Prop} {C : String} {av : List Value} (hy : plainName y.cls = true) (hav : (lg_sl av).length ≤ maxL)
    (body : ∀ (p : Program) (e : Env) (s : State) (m : MethodId) (below : List Frame) (meth : Method) (c : Code) (Q : State → Prop), CallFix p m c cc maxL s av.toArray lw_g y.cls → zKn G s → P s.heap → va_S A s.heap s.heap [] →
      (∀ (pc : Nat) (ls : Array Slot) (H : Heap) (locs : List Loc) (k n E : Nat), decode cc pc = .ok (.areturn, 1) → va_S A s.heap H locs → B H → k ≤ mc → n ≤ ms → W p l e rm s m av.toArray below meth c H locs k n Q (F0 m pc ls [.ref E])) → ∀ ls, lv_has ls maxL (lv_args 0 av) →
      W p l e rm s m av.toArray below meth c s.heap [] 0 0 Q (F0 m 0 ls [])) : Met l y (wq y cc maxL (some (.object C))) rm (va_Pc av (zK G P)) (zMx A B) mc ms A := by
  refine Met.ofW (cc := cc) (maxL := maxL) (ret := some (.object C)) hy rfl ?_
  intro p e s m args below meth c s₁ B0 hml hv
  obtain ⟨rfl, hP, hG⟩ := hv
  have hl := lv_entry av (n := maxL) hav
  rw [lg_entry_eq]
  exact body p e s m below meth c _ ⟨B0.exec, B0.bytes, hml, findClass_of_methodNamed B0.named, fun w hw => atoms_spec B0.pre w (List.mem_cons_of_mem _ hw)⟩ hG hP va_S.rf (fun pc ls H locs k n E d hS hB hk hn => by
    exact W.widen hk hn (W.aret B0.exec B0.bytes B0.returns (Or.inl ⟨_, rfl⟩) (Or.inr ⟨_, rfl⟩) (fun t ht _ => ⟨E, rfl, by rw [ht]; exact hB, (hS.F ht).1, (hS.F ht).2⟩) hS.2.2 d B0.notSynchronized)) _ hl
section ZMX
variable {p : Program} {l : Launch} {e : Env} {R : Room} {s : State} {m : MethodId} {args : Array Value} {below : List Frame} {meth : Method} {c : Code} {H : Heap} {locs : List Loc} {cells slots : Nat} {Q : State → Prop}
variable {cc : ByteArray} {nL : Nat} {own : String} {pc : Nat} {ls : Array Slot} {rest : List Value} {G : zG} {A : Nat → Prop} {H0 : Heap}
theorem z_mendx {B : Heap → Prop} {A1 : Nat → Prop} {mc ms : Nat} {a : Array Value} {st0 : List Value} (hr : va_Run p l e R s m args below meth c H locs cells slots mc ms (F0 m pc ls st0) rest (zMx A1 B a) A1) (hS : va_S A H0 H locs) (hA : ∀ q, A1 q → A q)
    (kk : ∀ (E : Nat) (H1 : Heap) (locs1 : List Loc), B H1 → H.size ≤ H1.size → (∀ q : Nat, q < H.size → ¬ A1 q → H1[q]? = H[q]?) → va_S A H0 H1 locs1 → W p l e R s m args below meth c H1 locs1 (cells + mc) (slots + ms) Q (F0 m (pc + 3) ls (.ref E :: rest))) : W p l e R s m args below meth c H locs cells slots Q (F0 m pc ls st0) := by
  intro T hT X
  obtain ⟨v', st₀, t, T', L, h0, X', hL, e1, e2, ⟨E, hv, hb, hz, hk⟩, st⟩ := hr T hT X
  cases hv
  rw [h0] at hz hk
  obtain ⟨t2, a1, b1⟩ := kk E T'.heap (locs ++ L) (by rw [e1]; exact hb) (by rw [e1]; exact hz) (fun q h1 h2 => by rw [e1]; exact hk q h1 h2)
    ⟨Nat.le_trans hS.1 (by rw [e1]; exact hz), fun q h1 h2 => by rw [e1, hk q (Nat.lt_of_lt_of_le h1 hS.1) (fun z => h2 (hA q z))]; exact hS.2.1 q h1 h2, fun q hq => by
      rcases List.mem_append.mp hq with h | h
      · exact hS.2.2 q h
      · exact hA _ (hL q h)⟩ T' rfl X'
  exact ⟨t2, st t2 a1, b1⟩
theorem z_callMx (S : CallFix p m c cc nL s args lw_g own) (hG : zKn G s) (hS : va_S A H0 H locs) {y : MethodName} {bytes : ByteArray} {maxL na index mc ms : Nat} {ret : Option FieldType} {rm : Room} {P B : Heap → Prop} {A1 : Nat → Prop} {As st : List Value} {b ci N : Nat} {fs : List Value} {C : String} {T : u_T} (hM : Met l y (wq y bytes maxL ret) rm (va_Pc (.ref b :: As) (zK G P)) (zMx A1 B) mc ms A1) (hA : ∀ q, A1 q → A q) (hY : zOV y bytes maxL ret na) (hat : va_at G.1 vwCl (b, .inr (ci, fs)) H) (hC : zCl ci C T N) (hc : y.cls = C) (hl : Cond.methodLink own index y ∈ lw_g) (hP : P H) (hR : zRM R rm maxL mc ms) (hcs : cells + mc ≤ R.cells ∧ slots + ms ≤ R.slots) (hn : As.length = na) (hrest : (rest.map fun v => v.category).sum ≤ 8) (hlz : ls.size = nL) (hst : st = As.reverse ++ .ref b :: rest) (d : decode cc pc = .ok (.invokevirtual index, 3))
    (kk : ∀ (E : Nat) (H1 : Heap) (locs1 : List Loc), B H1 → H.size ≤ H1.size → (∀ q : Nat, q < H.size → ¬ A1 q → H1[q]? = H[q]?) → va_S A H0 H1 locs1 → W p l e R s m args below meth c H1 locs1 (cells + mc) (slots + ms) Q (F0 m (pc + 3) ls (.ref E :: rest))) : W p l e R s m args below meth c H locs cells slots Q (F0 m pc ls st) := by
  subst hc
  exact z_mendx (va_runV S hM (C := y.cls) ⟨z_cbM S hY.1 hl hR, S.2.2.2.2 _ hY.2.1, S.2.2.2.2 _ hY.2.2⟩ ⟨z_blind, va_recv hG.1 (va_one hat) hC.1 (q0 := 0) rfl, fun U hU hW => ⟨rfl, by rw [hU]; exact hP, zKn.moved hW hG⟩⟩ rfl hn hlz hst (lv_room hrest) d hcs) hS hA kk
end ZMX
theorem shw_z {σ : St} (hO : okR σ) (hB : okB σ) {e w : Int} (he : 0 ≤ e ∧ e < 16) (hw : 0 ≤ w) : ∃ b : Int, (0 ≤ b ∧ b < 64) ∧ shw σ e w = zI b := by
  have h := src_b hO he hw
  exact hB _ h.1 h.2
theorem dg_ex {b : Int} : ∃ w : Nat, (b < 10 ∧ w = 1) ∨ (10 ≤ b ∧ w = 2) := by
  by_cases z : b < 10
  · exact ⟨1, Or.inl ⟨z, rfl⟩⟩
  · exact ⟨2, Or.inr ⟨by omega, rfl⟩⟩
theorem q4_49 : (Jvm.Cond.methodLink "Cyclepaint" (195 : Nat) ({ cls := "java/lang/StringBuilder", name := "toString", desc := "()Ljava/lang/String;" } : Jvm.MethodName)) ∈ lw_g := zg_of (zin4 (List.mem_of_getElem? (i := 49) rfl)) rfl
theorem q4_15 : (Jvm.Cond.methodLink "Cyclepaint" (192 : Nat) ({ cls := "java/lang/StringBuilder", name := "append", desc := "(I)Ljava/lang/StringBuilder;" } : Jvm.MethodName)) ∈ lw_g := zg_of (zin4 (List.mem_of_getElem? (i := 15) rfl)) rfl
theorem q3_162 : (Jvm.Cond.methodLink "Cyclepaint" (185 : Nat) ({ cls := "java/lang/StringBuilder", name := "append", desc := "(C)Ljava/lang/StringBuilder;" } : Jvm.MethodName)) ∈ lw_g := zg_of (zin3 (List.mem_of_getElem? (i := 162) rfl)) rfl
theorem q3_131 : (Jvm.Cond.classLink "Cyclepaint" (182 : Nat) "java/lang/StringBuilder") ∈ lw_g := zg_of (zin3 (List.mem_of_getElem? (i := 131) rfl)) rfl
theorem q3_132 : (Jvm.Cond.instantiable "java/lang/StringBuilder" (4 : Nat)) ∈ lw_g := zg_of (zin3 (List.mem_of_getElem? (i := 132) rfl)) rfl
theorem q3_134 : (Jvm.Cond.instanceMethod ({ cls := "java/lang/StringBuilder", name := "<init>", desc := "()V" } : Jvm.MethodName)) ∈ lw_g := zg_of (zin3 (List.mem_of_getElem? (i := 134) rfl)) rfl
theorem q3_133 : (Jvm.Cond.methodLink "Cyclepaint" (184 : Nat) ({ cls := "java/lang/StringBuilder", name := "<init>", desc := "()V" } : Jvm.MethodName)) ∈ lw_g := zg_of (zin3 (List.mem_of_getElem? (i := 133) rfl)) rfl
set_option maxHeartbeats 4000000 in
set_option maxRecDepth 100000 in
theorem row_X2 {p : Program} (l : Launch) {env : Env} {s : State} {m : MethodId} {av : Array Value} {below : List Frame} {meth : Method} {cod : Code} {Q : State → Prop} (G : zG) (σ : St) (a : Nat → Nat) (sz : Nat) (x : Int) (hx : 0 ≤ x ∧ x ≤ 3) (h99 : sz ≥ G.2 99) (kR : okR σ) (kC : okC σ) (hlt : ∀ i : Nat, cL σ i → a i < sz) (S : CallFix p m cod cX2_row 4 s av lw_g RX2) (hG : zKn G s) (ret : ∀ (pc : Nat) (ls : Array Slot) (H : Heap) (locs : List Loc) (k n E : Nat), decode cX2_row pc = .ok (.areturn, 1) → va_S (fun y => sz ≤ y) s.heap H locs → (hCyc G σ a) H → k ≤ 20 → n ≤ 620 → W p l env (rmM 6 151 20 620) s m av below meth cod H locs k n Q (F0 m pc ls [.ref E])) :
    ∀ (nn k q n : Nat) (H : Heap) (locs : List Loc) (ls : Array Slot), nn + k = 8 → n ≤ 3 * k → hSX G q sz n n H → hCyc G σ a H → zTx G H → va_S (fun y => sz ≤ y) s.heap H locs → lv_has ls 4 [(0, .ref (a 0)), (1, .int (zI (x))), (2, .ref (q)), (3, .int (zI ((k : Int))))] → W p l env (rmM 6 151 20 620) s m av below meth cod H locs (2 + 2 * k) (20 + 68 * k) Q (F0 m 28 ls []) := by
  intro nn
  induction nn with
  | zero =>
    intro k q n H locs ls hk hn3 hX hC hT hS hl
    refine z_iload_n S dX2_row_28 hl 3 rfl rfl ?_
    refine z_bipush S dX2_row_29 rfl ?_
    refine z_icmp_ge_T S 66 dX2_row_31 (by decide) (by omega) (by omega) (by omega) ?_
    refine z_aload_n S dX2_row_66 hl 2 rfl rfl ?_
    obtain ⟨_, _, ⟨hQ, _, _⟩, _⟩ := id hX
    refine z_callQ S hG hS (c_bTs l G q sz n H.size h99) (fun _ h => h) ok_J4_toString_0e30d.1 q4_50 (S.2.2.2.2 _ q4_51) (z_rcv hG hQ zc_J4) q4_49 (⟨hX, hT, rfl⟩) ⟨rfl, rfl, by decide, by decide⟩ ⟨(by show _ ≤ (20 : Nat); omega), (by show _ ≤ (620 : Nat); omega)⟩ rfl (Nat.le_of_ble_eq_true rfl) hl.1 rfl dX2_row_67 (fun H_1 L_1 hB hz oq hS => ?_)
    have hC := hCyc_keep hC (fun i hi => oq _ (hCyc_ltL hC hi) (by have := hlt i hi; show ¬ (sz ≤ _); omega))
    exact ret _ _ _ _ _ _ _ dX2_row_70 hS (hC) (by omega) (by omega)
  | succ nn ih =>
    intro k q n H locs ls hk hn3 hX hC hT hS hl
    refine z_iload_n S dX2_row_28 hl 3 rfl rfl ?_
    refine z_bipush S dX2_row_29 rfl ?_
    refine z_icmp_ge S 66 dX2_row_31 (by decide) (by omega) (by omega) (fun c_31 => ?_) (fun c_31 => ?_)
    · skip
      refine z_aload_n S dX2_row_66 hl 2 rfl rfl ?_
      obtain ⟨_, _, ⟨hQ, _, _⟩, _⟩ := id hX
      refine z_callQ S hG hS (c_bTs l G q sz n H.size h99) (fun _ h => h) ok_J4_toString_0e30d.1 q4_50 (S.2.2.2.2 _ q4_51) (z_rcv hG hQ zc_J4) q4_49 (⟨hX, hT, rfl⟩) ⟨rfl, rfl, by decide, by decide⟩ ⟨(by show _ ≤ (20 : Nat); omega), (by show _ ≤ (620 : Nat); omega)⟩ rfl (Nat.le_of_ble_eq_true rfl) hl.1 rfl dX2_row_67 (fun H_1 L_1 hB hz oq hS => ?_)
      have hC := hCyc_keep hC (fun i hi => oq _ (hCyc_ltL hC hi) (by have := hlt i hi; show ¬ (sz ≤ _); omega))
      exact ret _ _ _ _ _ _ _ dX2_row_70 hS (hC) (by omega) (by omega)
    · skip
      refine z_iload_n S dX2_row_34 hl 3 rfl rfl ?_
      refine z_if_le S 45 dX2_row_35 (by decide) (by omega) (fun c_35 => ?_) (fun c_35 => ?_)
      · skip
        refine z_aload_n S dX2_row_45 hl 2 rfl rfl ?_
        refine z_aload_n S dX2_row_46 hl 0 rfl rfl ?_
        refine z_iload_n S dX2_row_47 hl 1 rfl rfl ?_
        refine z_bipush S dX2_row_48 rfl ?_
        refine z_imul S dX2_row_50 ?_
        refine z_iload_n S dX2_row_51 hl 3 rfl rfl ?_
        refine z_iadd S dX2_row_52 ?_
        refine z_callVs S hG (c_X2_shownNow l G σ a (x * 8 + k) (by omega)) ok_X2_shownNow hC.1 zc_X2 rfl q1_231 (hC) ⟨rfl, rfl, by decide, by decide⟩ ⟨(by show _ ≤ (20 : Nat); omega), (by show _ ≤ (620 : Nat); omega)⟩ rfl (Nat.le_of_ble_eq_true rfl) hl.1 rfl dX2_row_53 ?_
        obtain ⟨bz, hbz, ebz⟩ := shw_z kR kC.2.2.2.2.2 (kC.2.1 (x * 8 + k) (by omega) (by omega)) kC.1.1
        rw [ebz]
        obtain ⟨w1, hw1⟩ := dg_ex (b := bz)
        obtain ⟨_, _, ⟨hQ, _, _⟩, _⟩ := id hX
        refine z_callQ S hG hS (c_bApI l G q sz (n) w1 bz h99 (by omega) hw1 (by omega)) (fun _ h => h) ok_J4_append_bf812.1 q4_16 (S.2.2.2.2 _ q4_17) (z_rcv hG hQ zc_J4) q4_15 (⟨hX, hT⟩) ⟨rfl, rfl, by decide, by decide⟩ ⟨(by show _ ≤ (20 : Nat); omega), (by show _ ≤ (620 : Nat); omega)⟩ rfl (Nat.le_of_ble_eq_true rfl) hl.1 rfl dX2_row_56 (fun H_2 L_2 hB hz oq hS => ?_)
        have hX := hB
        have hC := hCyc_keep hC (fun i hi => oq _ (hCyc_ltL hC hi) (by have := hlt i hi; show ¬ (sz ≤ _); omega))
        have hT := zTx.kept hT (fun y hx h9 => oq y hx (by show ¬ (sz ≤ y); omega))
        refine lv_pop S.1 S.2.1 dX2_row_59 rfl ?_
        refine z_iinc (lv' := [(3, .int (zI ((k : Int) + 1))), (0, .ref (a 0)), (1, .int (zI (x))), (2, .ref (q))]) S dX2_row_60 hl 3 rfl (by decide) rfl (fun ls hl => ?_)
        refine z_goto S 28 dX2_row_63 (by decide) ?_
        have e1 : (k : Int) + 1 = ((k + 1 : Nat) : Int) := by omega
        rw [e1] at hl
        exact W.widen (k := 2 + 2 * (k + 1)) (n := 20 + 68 * (k + 1)) (by omega) (by omega) (ih (k + 1) q (n + w1) _ _ _ (by omega) (by omega) hX hC hT hS (lv_sub hl [1, 2, 3, 0] rfl))
      · skip
        refine z_aload_n S dX2_row_38 hl 2 rfl rfl ?_
        refine z_bipush S dX2_row_39 rfl ?_
        obtain ⟨_, _, ⟨hQ, _, _⟩, _⟩ := id hX
        refine z_callQ S hG hS (c_bApC l G q sz (n) h99 (by omega)) (fun _ h => h) ok_J4_append_cf468.1 q3_163 (S.2.2.2.2 _ q3_164) (z_rcv hG hQ zc_J4) q3_162 (⟨hX, hT⟩) ⟨rfl, rfl, by decide, by decide⟩ ⟨(by show _ ≤ (20 : Nat); omega), (by show _ ≤ (620 : Nat); omega)⟩ rfl (Nat.le_of_ble_eq_true rfl) hl.1 rfl dX2_row_41 (fun H_3 L_3 hB hz oq hS => ?_)
        have hX := hB
        have hC := hCyc_keep hC (fun i hi => oq _ (hCyc_ltL hC hi) (by have := hlt i hi; show ¬ (sz ≤ _); omega))
        have hT := zTx.kept hT (fun y hx h9 => oq y hx (by show ¬ (sz ≤ y); omega))
        refine lv_pop S.1 S.2.1 dX2_row_44 rfl ?_
        refine z_aload_n S dX2_row_45 hl 2 rfl rfl ?_
        refine z_aload_n S dX2_row_46 hl 0 rfl rfl ?_
        refine z_iload_n S dX2_row_47 hl 1 rfl rfl ?_
        refine z_bipush S dX2_row_48 rfl ?_
        refine z_imul S dX2_row_50 ?_
        refine z_iload_n S dX2_row_51 hl 3 rfl rfl ?_
        refine z_iadd S dX2_row_52 ?_
        refine z_callVs S hG (c_X2_shownNow l G σ a (x * 8 + k) (by omega)) ok_X2_shownNow hC.1 zc_X2 rfl q1_231 (hC) ⟨rfl, rfl, by decide, by decide⟩ ⟨(by show _ ≤ (20 : Nat); omega), (by show _ ≤ (620 : Nat); omega)⟩ rfl (Nat.le_of_ble_eq_true rfl) hl.1 rfl dX2_row_53 ?_
        obtain ⟨bz, hbz, ebz⟩ := shw_z kR kC.2.2.2.2.2 (kC.2.1 (x * 8 + k) (by omega) (by omega)) kC.1.1
        rw [ebz]
        obtain ⟨w1, hw1⟩ := dg_ex (b := bz)
        obtain ⟨_, _, ⟨hQ, _, _⟩, _⟩ := id hX
        refine z_callQ S hG hS (c_bApI l G q sz (n + 1) w1 bz h99 (by omega) hw1 (by omega)) (fun _ h => h) ok_J4_append_bf812.1 q4_16 (S.2.2.2.2 _ q4_17) (z_rcv hG hQ zc_J4) q4_15 (⟨hX, hT⟩) ⟨rfl, rfl, by decide, by decide⟩ ⟨(by show _ ≤ (20 : Nat); omega), (by show _ ≤ (620 : Nat); omega)⟩ rfl (Nat.le_of_ble_eq_true rfl) hl.1 rfl dX2_row_56 (fun H_4 L_4 hB hz oq hS => ?_)
        have hX := hB
        have hC := hCyc_keep hC (fun i hi => oq _ (hCyc_ltL hC hi) (by have := hlt i hi; show ¬ (sz ≤ _); omega))
        have hT := zTx.kept hT (fun y hx h9 => oq y hx (by show ¬ (sz ≤ y); omega))
        refine lv_pop S.1 S.2.1 dX2_row_59 rfl ?_
        refine z_iinc (lv' := [(3, .int (zI ((k : Int) + 1))), (0, .ref (a 0)), (1, .int (zI (x))), (2, .ref (q))]) S dX2_row_60 hl 3 rfl (by decide) rfl (fun ls hl => ?_)
        refine z_goto S 28 dX2_row_63 (by decide) ?_
        have e1 : (k : Int) + 1 = ((k + 1 : Nat) : Int) := by omega
        rw [e1] at hl
        exact W.widen (k := 2 + 2 * (k + 1)) (n := 20 + 68 * (k + 1)) (by omega) (by omega) (ih (k + 1) q (n + 1 + w1) _ _ _ (by omega) (by omega) hX hC hT hS (lv_sub hl [1, 2, 3, 0] rfl))
set_option maxHeartbeats 4000000 in
set_option maxRecDepth 100000 in
theorem c_X2_row (l : Launch) (G : zG) (σ : St) (a : Nat → Nat) (sz : Nat) (x : Int) (hx : 0 ≤ x ∧ x ≤ 3) (h99 : sz ≥ G.2 99) (kR : okR σ) (kC : okC σ) (hlt : ∀ i : Nat, cL σ i → a i < sz) : Met l yX2_row (wq yX2_row cX2_row 4 ((Option.some (Jvm.ClassFile.FieldType.object "java/lang/String")))) (rmM 6 151 20 620) (va_Pc [.ref (a 0), .int (zI x)] (zK G (fun H => hCyc G σ a H ∧ zTx G H ∧ H.size = sz))) (zMx (fun y => sz ≤ y) (hCyc G σ a)) 20 620 (fun y => sz ≤ y) := by
  refine z_enterMx (by decide +kernel) (Nat.le_of_ble_eq_true rfl) ?_
  intro p env s m below meth cod Q S hG hP hS ret ls hl
  have hl : lv_has ls 4 [(0, .ref (a 0)), (1, .int (zI x))] := hl
  obtain ⟨hC, hT, hz0⟩ := hP
  refine z_iload_n S dX2_row_0 hl 1 rfl rfl ?_
  refine z_iconst S dX2_row_1 ?_
  refine z_callSs S hG (c_X2_isDot l G x 0 (by omega)) ok_X2_isDot q2_193 (trivial) ⟨rfl, rfl, by decide, by decide⟩ ⟨Nat.zero_le _, Nat.zero_le _⟩ rfl (Nat.le_of_ble_eq_true rfl) hl.1 rfl dX2_row_2 ?_
  refine z_bif_ne S 18 dX2_row_5 (by decide) (fun q => ?_) (fun q => ?_)
  rotate_left
  · exact absurd q (by rw [show (decide (0 ≤ x) && decide (x < 4) && (decide (0 ≤ (0 : Int)) && decide ((0 : Int) < 8))) = true from by rw [decide_eq_true hx.1, decide_eq_true (show x < 4 by omega)]; rfl]; decide)
  refine z_newc S hG zc_J4 tyJ4 tyJ4_ok q3_131 q3_132 q1_26 hS (fs := [.null, .int 0, .int 0, .int 0]) (fun j hj => by rcases (show j = 0 ∨ j = 1 ∨ j = 2 ∨ j = 3 by omega) with rfl | rfl | rfl | rfl <;> rfl) ⟨(by show _ ≤ (20 : Nat); omega), (by show _ ≤ (620 : Nat); omega)⟩ dX2_row_18 (fun n1 H_1 hq_n1 hat hz oq hS => ?_)
  have hC := hCyc_keep hC (fun i hi => oq _ (hCyc_ltL hC hi))
  have hT := zTx.kept hT (fun y hx _ => oq y hx)
  have h_n1 := hat
  refine z_dup S dX2_row_21 rfl ?_
  refine z_callMI S hG hS (c_bIni l G n1 H_1.size) (fun y z => by have z2 : y = n1 ∨ _ ≤ y := z; show sz ≤ y; omega) ok_J4_init_da8c8 q3_134 rfl q3_133 (⟨h_n1, hT, rfl⟩) ⟨rfl, rfl, by decide, by decide⟩ ⟨(by show _ ≤ (20 : Nat); omega), (by show _ ≤ (620 : Nat); omega)⟩ rfl (Nat.le_of_ble_eq_true rfl) hl.1 rfl dX2_row_22 (fun H_2 L_2 hB hz oq hS => ?_)
  have hC := hCyc_keep hC (fun i hi => oq _ (hCyc_ltL hC hi) (by have := hlt i hi; show ¬ (_ = n1 ∨ _ ≤ _); omega))
  have hT := zTx.kept hT (fun y hx h9 => oq y hx (by show ¬ (y = n1 ∨ _ ≤ y); omega))
  have hX : hSX G n1 sz 0 0 _ := ⟨_, 16, hB, by omega, by omega, Or.inl ⟨rfl, by decide⟩, Nat.le_refl _⟩
  refine z_astore_n (lv' := [(2, .ref (n1)), (0, .ref (a 0)), (1, .int (zI (x)))]) S dX2_row_25 hl rfl (by decide) rfl (fun ls hl => ?_)
  refine z_iconst S dX2_row_26 ?_
  refine z_istore_n (lv' := [(3, .int (zI (0))), (2, .ref (n1)), (0, .ref (a 0)), (1, .int (zI (x)))]) S dX2_row_27 hl rfl (by decide) rfl (fun ls hl => ?_)
  exact W.widen (k := 2 + 2 * 0) (n := 20 + 68 * 0) (by omega) (by omega) (row_X2 l G σ a sz x hx h99 kR kC hlt S hG ret 8 0 n1 0 _ _ _ rfl (by omega) hX hC hT hS (lv_sub hl [2, 3, 1, 0] rfl))
theorem dX4_row_0 : decode cX4_row 0 = .ok (.aload_n 0, 1) := by decide +kernel
theorem dX4_row_1 : decode cX4_row 1 = .ok (.iload_n 1, 1) := by decide +kernel
theorem dX4_row_2 : decode cX4_row 2 = .ok (.iconst 0, 1) := by decide +kernel
theorem dX4_row_3 : decode cX4_row 3 = .ok (.iconst 3, 1) := by decide +kernel
theorem dX4_row_4 : decode cX4_row 4 = .ok (.invokestatic 37, 3) := by decide +kernel
theorem dX4_row_7 : decode cX4_row 7 = .ok (.ifCond .ne 7, 3) := by decide +kernel
theorem dX4_row_10 : decode cX4_row 10 = .ok (.iconst 1, 1) := by decide +kernel
theorem dX4_row_11 : decode cX4_row 11 = .ok (.goto 4, 3) := by decide +kernel
theorem dX4_row_14 : decode cX4_row 14 = .ok (.iconst 0, 1) := by decide +kernel
theorem dX4_row_15 : decode cX4_row 15 = .ok (.iconst 1, 1) := by decide +kernel
theorem dX4_row_16 : decode cX4_row 16 = .ok (.invokevirtual 121, 3) := by decide +kernel
theorem dX4_row_19 : decode cX4_row 19 = .ok (.ifCond .eq 6, 3) := by decide +kernel
theorem dX4_row_22 : decode cX4_row 22 = .ok (.ldc 189, 2) := by decide +kernel
theorem dX4_row_24 : decode cX4_row 24 = .ok (.areturn, 1) := by decide +kernel
theorem dX4_row_25 : decode cX4_row 25 = .ok (.new 191, 3) := by decide +kernel
theorem dX4_row_28 : decode cX4_row 28 = .ok (.dup, 1) := by decide +kernel
theorem dX4_row_29 : decode cX4_row 29 = .ok (.invokespecial 193, 3) := by decide +kernel
theorem dX4_row_32 : decode cX4_row 32 = .ok (.astore_n 2, 1) := by decide +kernel
theorem dX4_row_33 : decode cX4_row 33 = .ok (.iconst 0, 1) := by decide +kernel
theorem dX4_row_34 : decode cX4_row 34 = .ok (.istore_n 3, 1) := by decide +kernel
theorem dX4_row_35 : decode cX4_row 35 = .ok (.iload_n 3, 1) := by decide +kernel
theorem dX4_row_36 : decode cX4_row 36 = .ok (.bipush 8, 2) := by decide +kernel
theorem dX4_row_38 : decode cX4_row 38 = .ok (.if_icmp .ge 47, 3) := by decide +kernel
theorem dX4_row_41 : decode cX4_row 41 = .ok (.aload_n 2, 1) := by decide +kernel
theorem dX4_row_42 : decode cX4_row 42 = .ok (.iload_n 3, 1) := by decide +kernel
theorem dX4_row_43 : decode cX4_row 43 = .ok (.ifCond .ne 8, 3) := by decide +kernel
theorem dX4_row_46 : decode cX4_row 46 = .ok (.ldc 189, 2) := by decide +kernel
theorem dX4_row_48 : decode cX4_row 48 = .ok (.goto 5, 3) := by decide +kernel
theorem dX4_row_51 : decode cX4_row 51 = .ok (.ldc 194, 2) := by decide +kernel
theorem dX4_row_53 : decode cX4_row 53 = .ok (.invokevirtual 196, 3) := by decide +kernel
theorem dX4_row_56 : decode cX4_row 56 = .ok (.aload_n 0, 1) := by decide +kernel
theorem dX4_row_57 : decode cX4_row 57 = .ok (.aload_n 0, 1) := by decide +kernel
theorem dX4_row_58 : decode cX4_row 58 = .ok (.getfield 17, 3) := by decide +kernel
theorem dX4_row_61 : decode cX4_row 61 = .ok (.bipush 8, 2) := by decide +kernel
theorem dX4_row_63 : decode cX4_row 63 = .ok (.iload_n 1, 1) := by decide +kernel
theorem dX4_row_64 : decode cX4_row 64 = .ok (.imul, 1) := by decide +kernel
theorem dX4_row_65 : decode cX4_row 65 = .ok (.iload_n 3, 1) := by decide +kernel
theorem dX4_row_66 : decode cX4_row 66 = .ok (.iadd, 1) := by decide +kernel
theorem dX4_row_67 : decode cX4_row 67 = .ok (.iaload, 1) := by decide +kernel
theorem dX4_row_68 : decode cX4_row 68 = .ok (.aload_n 0, 1) := by decide +kernel
theorem dX4_row_69 : decode cX4_row 69 = .ok (.getfield 108, 3) := by decide +kernel
theorem dX4_row_72 : decode cX4_row 72 = .ok (.invokevirtual 84, 3) := by decide +kernel
theorem dX4_row_75 : decode cX4_row 75 = .ok (.invokevirtual 200, 3) := by decide +kernel
theorem dX4_row_78 : decode cX4_row 78 = .ok (.pop, 1) := by decide +kernel
theorem dX4_row_79 : decode cX4_row 79 = .ok (.iinc 3 1, 3) := by decide +kernel
theorem dX4_row_82 : decode cX4_row 82 = .ok (.goto (-47), 3) := by decide +kernel
theorem dX4_row_85 : decode cX4_row 85 = .ok (.aload_n 2, 1) := by decide +kernel
theorem dX4_row_86 : decode cX4_row 86 = .ok (.invokevirtual 203, 3) := by decide +kernel
theorem dX4_row_89 : decode cX4_row 89 = .ok (.areturn, 1) := by decide +kernel
theorem q6_85 : (Jvm.Cond.methodLink "CyclepaintModel" (203 : Nat) ({ cls := "java/lang/StringBuilder", name := "toString", desc := "()Ljava/lang/String;" } : Jvm.MethodName)) ∈ lw_g := zg_of (zin6 (List.mem_of_getElem? (i := 85) rfl)) rfl
theorem q6_83 : (Jvm.Cond.methodLink "CyclepaintModel" (196 : Nat) ({ cls := "java/lang/StringBuilder", name := "append", desc := "(Ljava/lang/String;)Ljava/lang/StringBuilder;" } : Jvm.MethodName)) ∈ lw_g := zg_of (zin6 (List.mem_of_getElem? (i := 83) rfl)) rfl
theorem q6_84 : (Jvm.Cond.methodLink "CyclepaintModel" (200 : Nat) ({ cls := "java/lang/StringBuilder", name := "append", desc := "(I)Ljava/lang/StringBuilder;" } : Jvm.MethodName)) ∈ lw_g := zg_of (zin6 (List.mem_of_getElem? (i := 84) rfl)) rfl
theorem q6_80 : (Jvm.Cond.classLink "CyclepaintModel" (191 : Nat) "java/lang/StringBuilder") ∈ lw_g := zg_of (zin6 (List.mem_of_getElem? (i := 80) rfl)) rfl
theorem q6_81 : (Jvm.Cond.methodLink "CyclepaintModel" (193 : Nat) ({ cls := "java/lang/StringBuilder", name := "<init>", desc := "()V" } : Jvm.MethodName)) ∈ lw_g := zg_of (zin6 (List.mem_of_getElem? (i := 81) rfl)) rfl
theorem q6_78 : (Jvm.Cond.code ({ cls := "CyclepaintModel", name := "row", desc := "(I)Ljava/lang/String;" } : Jvm.MethodName) prog_6_method_50_code (4 : Nat) (Option.some (Jvm.ClassFile.FieldType.object "java/lang/String"))) ∈ lw_g := zg_of (zin6 (List.mem_of_getElem? (i := 78) rfl)) rfl
theorem q6_76 : (Jvm.Cond.instanceMethod ({ cls := "CyclepaintModel", name := "row", desc := "(I)Ljava/lang/String;" } : Jvm.MethodName)) ∈ lw_g := zg_of (zin6 (List.mem_of_getElem? (i := 76) rfl)) rfl
theorem q6_77 : (Jvm.Cond.selects "CyclepaintModel" ({ cls := "CyclepaintModel", name := "row", desc := "(I)Ljava/lang/String;" } : Jvm.MethodName) ({ cls := "CyclepaintModel", name := "row", desc := "(I)Ljava/lang/String;" } : Jvm.MethodName)) ∈ lw_g := zg_of (zin6 (List.mem_of_getElem? (i := 77) rfl)) rfl
theorem ok_X4_row : zOV yX4_row cX4_row 4 ((Option.some (Jvm.ClassFile.FieldType.object "java/lang/String"))) 1 := ⟨⟨q6_78, q1_3, by decide, by decide, by decide +kernel⟩, q6_76, q6_77⟩
set_option maxHeartbeats 4000000 in
set_option maxRecDepth 100000 in
theorem row_X4 {p : Program} (l : Launch) {env : Env} {s : State} {m : MethodId} {av : Array Value} {below : List Frame} {meth : Method} {cod : Code} {Q : State → Prop} (G : zG) (σ : St) (b : Nat → Nat) (th m1 m2 : Int32) (sz : Nat) (x : Int) (hx : 0 ≤ x ∧ x ≤ 3) (h99 : sz ≥ G.2 99) (kR : okR σ) (kC : okC σ) (hd : inj b (mL σ)) (hge : ∀ i : Nat, mL σ i → b i ≥ G.2 99) (hlt : ∀ i : Nat, mL σ i → b i < sz) (S : CallFix p m cod cX4_row 4 s av lw_g RX4) (hG : zKn G s) (ret : ∀ (pc : Nat) (ls : Array Slot) (H : Heap) (locs : List Loc) (k n E : Nat), decode cX4_row pc = .ok (.areturn, 1) → va_S (fun y => mA σ b y ∨ sz ≤ y) s.heap H locs → (hMod G σ b (zI 0) m1 m2) H → k ≤ 20 → n ≤ 620 → W p l env (rmM 6 151 20 620) s m av below meth cod H locs k n Q (F0 m pc ls [.ref E])) :
    ∀ (nn k q n : Nat) (H : Heap) (locs : List Loc) (ls : Array Slot), nn + k = 8 → n ≤ 3 * k → hSX G q sz n n H → hMod G σ b (zI 0) m1 m2 H → zTx G H → va_S (fun y => mA σ b y ∨ sz ≤ y) s.heap H locs → lv_has ls 4 [(0, .ref (b 0)), (1, .int (zI (x))), (2, .ref (q)), (3, .int (zI ((k : Int))))] → W p l env (rmM 6 151 20 620) s m av below meth cod H locs (2 + 2 * k) (20 + 68 * k) Q (F0 m 35 ls []) := by
  intro nn
  induction nn with
  | zero =>
    intro k q n H locs ls hk hn3 hX hM hT hS hl
    refine z_iload_n S dX4_row_35 hl 3 rfl rfl ?_
    refine z_bipush S dX4_row_36 rfl ?_
    refine z_icmp_ge_T S 85 dX4_row_38 (by decide) (by omega) (by omega) (by omega) ?_
    refine z_aload_n S dX4_row_85 hl 2 rfl rfl ?_
    obtain ⟨_, _, ⟨hQ, _, _⟩, _⟩ := id hX
    refine z_callQ S hG hS (c_bTs l G q sz n H.size h99) (fun _ h => Or.inr h) ok_J4_toString_0e30d.1 q4_50 (S.2.2.2.2 _ q4_51) (z_rcv hG hQ zc_J4) q6_85 (⟨hX, hT, rfl⟩) ⟨rfl, rfl, by decide, by decide⟩ ⟨(by show _ ≤ (20 : Nat); omega), (by show _ ≤ (620 : Nat); omega)⟩ rfl (Nat.le_of_ble_eq_true rfl) hl.1 rfl dX4_row_86 (fun H_1 L_1 hB hz oq hS => ?_)
    have hM := hMod_keep hM (fun i hi => oq _ (hMod_lt hM hi) (by have := hlt i hi; show ¬ (sz ≤ _); omega))
    exact ret _ _ _ _ _ _ _ dX4_row_89 hS (hM) (by omega) (by omega)
  | succ nn ih =>
    intro k q n H locs ls hk hn3 hX hM hT hS hl
    refine z_iload_n S dX4_row_35 hl 3 rfl rfl ?_
    refine z_bipush S dX4_row_36 rfl ?_
    refine z_icmp_ge S 85 dX4_row_38 (by decide) (by omega) (by omega) (fun c_38 => ?_) (fun c_38 => ?_)
    · skip
      refine z_aload_n S dX4_row_85 hl 2 rfl rfl ?_
      obtain ⟨_, _, ⟨hQ, _, _⟩, _⟩ := id hX
      refine z_callQ S hG hS (c_bTs l G q sz n H.size h99) (fun _ h => Or.inr h) ok_J4_toString_0e30d.1 q4_50 (S.2.2.2.2 _ q4_51) (z_rcv hG hQ zc_J4) q6_85 (⟨hX, hT, rfl⟩) ⟨rfl, rfl, by decide, by decide⟩ ⟨(by show _ ≤ (20 : Nat); omega), (by show _ ≤ (620 : Nat); omega)⟩ rfl (Nat.le_of_ble_eq_true rfl) hl.1 rfl dX4_row_86 (fun H_1 L_1 hB hz oq hS => ?_)
      have hM := hMod_keep hM (fun i hi => oq _ (hMod_lt hM hi) (by have := hlt i hi; show ¬ (sz ≤ _); omega))
      exact ret _ _ _ _ _ _ _ dX4_row_89 hS (hM) (by omega) (by omega)
    · skip
      refine z_aload_n S dX4_row_41 hl 2 rfl rfl ?_
      refine z_iload_n S dX4_row_42 hl 3 rfl rfl ?_
      refine z_if_ne S 51 dX4_row_43 (by decide) (by omega) (fun c_43 => ?_) (fun c_43 => ?_)
      · skip
        refine va_ldcS S.1 S.2.1 S.2.2.2.1 hG.2.2.2.2.2.2.1.2 dX4_row_51 ?_
        obtain ⟨_, _, ⟨hQ, _, _⟩, _⟩ := id hX
        obtain ⟨lv1, hL, hLv, hl9⟩ := hT.2.2.2.2.1
        refine z_callQ S hG hS (c_bApS l G q sz (n) (G.2 501) lv1 1 h99 (by omega) ⟨hT.2.2.2.2.2.2.2.2.2, hl9⟩) (fun _ h => Or.inr h) ok_J4_append_15ec4.1 q4_91 (S.2.2.2.2 _ q4_92) (z_rcv hG hQ zc_J4) q6_83 (⟨hX, hT, hL, hLv⟩) ⟨rfl, rfl, by decide, by decide⟩ ⟨(by show _ ≤ (20 : Nat); omega), (by show _ ≤ (620 : Nat); omega)⟩ rfl (Nat.le_of_ble_eq_true rfl) hl.1 rfl dX4_row_53 (fun H_2 L_2 hB hz oq hS => ?_)
        have hX := hB
        have hM := hMod_keep hM (fun i hi => oq _ (hMod_lt hM hi) (by have := hlt i hi; show ¬ (sz ≤ _); omega))
        have hT := zTx.kept hT (fun y hx h9 => oq y hx (by show ¬ (sz ≤ y); omega))
        refine z_aload_n S dX4_row_56 hl 0 rfl rfl ?_
        refine z_aload_n S dX4_row_57 hl 0 rfl rfl ?_
        refine z_get S hG hM.1 zc_X4 5 (by decide) q4_231 rfl rfl dX4_row_58 ?_
        refine z_bipush S dX4_row_61 rfl ?_
        refine z_iload_n S dX4_row_63 hl 1 rfl rfl ?_
        refine z_imul S dX4_row_64 ?_
        refine z_iload_n S dX4_row_65 hl 3 rfl rfl ?_
        refine z_iadd S dX4_row_66 ?_
        refine z_ialdB S hG hM.2.2.1 (by omega) (by decide) dX4_row_67 ?_
        refine z_aload_n S dX4_row_68 hl 0 rfl rfl ?_
        refine z_get S hG hM.1 zc_X4 1 (by decide) q4_227 rfl rfl dX4_row_69 ?_
        refine z_callVs S hG (c_X4_show l G σ b (zI 0) m1 m2 (σ.Dt (8 * x + k)) σ.tk (kC.2.1 (8 * x + k) (by omega) (by omega)) (by have := kC.1; omega)) ok_X4_show hM.1 zc_X4 rfl q5_159 (hM) ⟨rfl, rfl, by decide, by decide⟩ ⟨(by show _ ≤ (20 : Nat); omega), (by show _ ≤ (620 : Nat); omega)⟩ rfl (Nat.le_of_ble_eq_true rfl) hl.1 rfl dX4_row_72 ?_
        obtain ⟨bz, hbz, ebz⟩ := shw_z kR kC.2.2.2.2.2 (kC.2.1 (8 * x + k) (by omega) (by omega)) kC.1.1
        rw [ebz]
        obtain ⟨w1, hw1⟩ := dg_ex (b := bz)
        obtain ⟨_, _, ⟨hQ, _, _⟩, _⟩ := id hX
        refine z_callQ S hG hS (c_bApI l G q sz (n + 1) w1 bz h99 (by omega) hw1 (by omega)) (fun _ h => Or.inr h) ok_J4_append_bf812.1 q4_16 (S.2.2.2.2 _ q4_17) (z_rcv hG hQ zc_J4) q6_84 (⟨hX, hT⟩) ⟨rfl, rfl, by decide, by decide⟩ ⟨(by show _ ≤ (20 : Nat); omega), (by show _ ≤ (620 : Nat); omega)⟩ rfl (Nat.le_of_ble_eq_true rfl) hl.1 rfl dX4_row_75 (fun H_3 L_3 hB hz oq hS => ?_)
        have hX := hB
        have hM := hMod_keep hM (fun i hi => oq _ (hMod_lt hM hi) (by have := hlt i hi; show ¬ (sz ≤ _); omega))
        have hT := zTx.kept hT (fun y hx h9 => oq y hx (by show ¬ (sz ≤ y); omega))
        refine lv_pop S.1 S.2.1 dX4_row_78 rfl ?_
        refine z_iinc (lv' := [(3, .int (zI ((k : Int) + 1))), (0, .ref (b 0)), (1, .int (zI (x))), (2, .ref (q))]) S dX4_row_79 hl 3 rfl (by decide) rfl (fun ls hl => ?_)
        refine z_goto S 35 dX4_row_82 (by decide) ?_
        have e1 : (k : Int) + 1 = ((k + 1 : Nat) : Int) := by omega
        rw [e1] at hl
        exact W.widen (k := 2 + 2 * (k + 1)) (n := 20 + 68 * (k + 1)) (by omega) (by omega) (ih (k + 1) q (n + 1 + w1) _ _ _ (by omega) (by omega) hX hM hT hS (lv_sub hl [1, 2, 3, 0] rfl))
      · skip
        refine va_ldcS S.1 S.2.1 S.2.2.2.1 hG.2.2.2.2.2.2.1.1 dX4_row_46 ?_
        refine z_goto S 53 dX4_row_48 (by decide) ?_
        obtain ⟨_, _, ⟨hQ, _, _⟩, _⟩ := id hX
        obtain ⟨lv1, hL, hLv, hl9⟩ := hT.2.2.2.1
        refine z_callQ S hG hS (c_bApS l G q sz (n) (G.2 500) lv1 0 h99 (by omega) ⟨hT.2.2.2.2.2.2.2.2.1, hl9⟩) (fun _ h => Or.inr h) ok_J4_append_15ec4.1 q4_91 (S.2.2.2.2 _ q4_92) (z_rcv hG hQ zc_J4) q6_83 (⟨hX, hT, hL, hLv⟩) ⟨rfl, rfl, by decide, by decide⟩ ⟨(by show _ ≤ (20 : Nat); omega), (by show _ ≤ (620 : Nat); omega)⟩ rfl (Nat.le_of_ble_eq_true rfl) hl.1 rfl dX4_row_53 (fun H_4 L_4 hB hz oq hS => ?_)
        have hX := hB
        have hM := hMod_keep hM (fun i hi => oq _ (hMod_lt hM hi) (by have := hlt i hi; show ¬ (sz ≤ _); omega))
        have hT := zTx.kept hT (fun y hx h9 => oq y hx (by show ¬ (sz ≤ y); omega))
        refine z_aload_n S dX4_row_56 hl 0 rfl rfl ?_
        refine z_aload_n S dX4_row_57 hl 0 rfl rfl ?_
        refine z_get S hG hM.1 zc_X4 5 (by decide) q4_231 rfl rfl dX4_row_58 ?_
        refine z_bipush S dX4_row_61 rfl ?_
        refine z_iload_n S dX4_row_63 hl 1 rfl rfl ?_
        refine z_imul S dX4_row_64 ?_
        refine z_iload_n S dX4_row_65 hl 3 rfl rfl ?_
        refine z_iadd S dX4_row_66 ?_
        refine z_ialdB S hG hM.2.2.1 (by omega) (by decide) dX4_row_67 ?_
        refine z_aload_n S dX4_row_68 hl 0 rfl rfl ?_
        refine z_get S hG hM.1 zc_X4 1 (by decide) q4_227 rfl rfl dX4_row_69 ?_
        refine z_callVs S hG (c_X4_show l G σ b (zI 0) m1 m2 (σ.Dt (8 * x + k)) σ.tk (kC.2.1 (8 * x + k) (by omega) (by omega)) (by have := kC.1; omega)) ok_X4_show hM.1 zc_X4 rfl q5_159 (hM) ⟨rfl, rfl, by decide, by decide⟩ ⟨(by show _ ≤ (20 : Nat); omega), (by show _ ≤ (620 : Nat); omega)⟩ rfl (Nat.le_of_ble_eq_true rfl) hl.1 rfl dX4_row_72 ?_
        obtain ⟨bz, hbz, ebz⟩ := shw_z kR kC.2.2.2.2.2 (kC.2.1 (8 * x + k) (by omega) (by omega)) kC.1.1
        rw [ebz]
        obtain ⟨w1, hw1⟩ := dg_ex (b := bz)
        obtain ⟨_, _, ⟨hQ, _, _⟩, _⟩ := id hX
        refine z_callQ S hG hS (c_bApI l G q sz (n + 0) w1 bz h99 (by omega) hw1 (by omega)) (fun _ h => Or.inr h) ok_J4_append_bf812.1 q4_16 (S.2.2.2.2 _ q4_17) (z_rcv hG hQ zc_J4) q6_84 (⟨hX, hT⟩) ⟨rfl, rfl, by decide, by decide⟩ ⟨(by show _ ≤ (20 : Nat); omega), (by show _ ≤ (620 : Nat); omega)⟩ rfl (Nat.le_of_ble_eq_true rfl) hl.1 rfl dX4_row_75 (fun H_5 L_5 hB hz oq hS => ?_)
        have hX := hB
        have hM := hMod_keep hM (fun i hi => oq _ (hMod_lt hM hi) (by have := hlt i hi; show ¬ (sz ≤ _); omega))
        have hT := zTx.kept hT (fun y hx h9 => oq y hx (by show ¬ (sz ≤ y); omega))
        refine lv_pop S.1 S.2.1 dX4_row_78 rfl ?_
        refine z_iinc (lv' := [(3, .int (zI ((k : Int) + 1))), (0, .ref (b 0)), (1, .int (zI (x))), (2, .ref (q))]) S dX4_row_79 hl 3 rfl (by decide) rfl (fun ls hl => ?_)
        refine z_goto S 35 dX4_row_82 (by decide) ?_
        have e1 : (k : Int) + 1 = ((k + 1 : Nat) : Int) := by omega
        rw [e1] at hl
        exact W.widen (k := 2 + 2 * (k + 1)) (n := 20 + 68 * (k + 1)) (by omega) (by omega) (ih (k + 1) q (n + 0 + w1) _ _ _ (by omega) (by omega) hX hM hT hS (lv_sub hl [1, 2, 3, 0] rfl))
set_option maxHeartbeats 4000000 in
set_option maxRecDepth 100000 in
theorem c_X4_row (l : Launch) (G : zG) (σ : St) (b : Nat → Nat) (th m1 m2 : Int32) (sz : Nat) (x : Int) (hx : 0 ≤ x ∧ x ≤ 3) (h99 : sz ≥ G.2 99) (kR : okR σ) (kC : okC σ) (hd : inj b (mL σ)) (hge : ∀ i : Nat, mL σ i → b i ≥ G.2 99) (hlt : ∀ i : Nat, mL σ i → b i < sz) : Met l yX4_row (wq yX4_row cX4_row 4 ((Option.some (Jvm.ClassFile.FieldType.object "java/lang/String")))) (rmM 6 151 20 620) (va_Pc [.ref (b 0), .int (zI x)] (zK G (fun H => hMod G σ b th m1 m2 H ∧ zTx G H ∧ H.size = sz))) (zMx (fun y => mA σ b y ∨ sz ≤ y) (hMod G σ b (zI 0) m1 m2)) 20 620 (fun y => mA σ b y ∨ sz ≤ y) := by
  refine z_enterMx (by decide +kernel) (Nat.le_of_ble_eq_true rfl) ?_
  intro p env s m below meth cod Q S hG hP hS ret ls hl
  have hl : lv_has ls 4 [(0, .ref (b 0)), (1, .int (zI x))] := hl
  obtain ⟨hM, hT, hz0⟩ := hP
  refine z_aload_n S dX4_row_0 hl 0 rfl rfl ?_
  refine z_iload_n S dX4_row_1 hl 1 rfl rfl ?_
  refine z_iconst S dX4_row_2 ?_
  refine z_iconst S dX4_row_3 ?_
  refine z_callSs S hG (c_X4_isIn l G x 0 3 (by omega)) ok_X4_isIn q5_18 (trivial) ⟨rfl, rfl, by decide, by decide⟩ ⟨Nat.zero_le _, Nat.zero_le _⟩ rfl (Nat.le_of_ble_eq_true rfl) hl.1 rfl dX4_row_4 ?_
  refine z_bif_ne S 14 dX4_row_7 (by decide) (fun q => ?_) (fun q => ?_)
  rotate_left
  · exact absurd q (by rw [show (decide (0 ≤ x) && decide (x ≤ 3)) = true from by rw [decide_eq_true hx.1, decide_eq_true hx.2]; rfl]; decide)
  refine z_iconst S dX4_row_14 ?_
  refine z_iconst S dX4_row_15 ?_
  refine z_callM S hG hS (c_X4_start l G σ b th m1 m2 false 1 (by omega) hd kR.1) (fun _ h => Or.inl h) ok_X4_start hM.1 zc_X4 rfl q5_21 (hM) ⟨rfl, rfl, by decide, by decide⟩ ⟨(by show _ ≤ (20 : Nat); omega), (by show _ ≤ (620 : Nat); omega)⟩ rfl (Nat.le_of_ble_eq_true rfl) hl.1 rfl dX4_row_16 (fun H_1 L_1 hB hz oq hS => ?_)
  have hT := zTx.kept hT (fun y hx h9 => oq y hx (by intro z; obtain ⟨i, hi, e⟩ := z; have := hge i hi; omega))
  have hM : hMod G σ b (zI 0) m1 m2 H_1 := hB
  refine z_bif_eq S 25 dX4_row_19 (by decide) (fun qz => ?_) (fun qz => ?_)
  rotate_left
  · exact absurd qz (by decide)
  refine z_newc S hG zc_J4 tyJ4 tyJ4_ok q6_80 q3_132 q1_26 hS (fs := [.null, .int 0, .int 0, .int 0]) (fun j hj => by rcases (show j = 0 ∨ j = 1 ∨ j = 2 ∨ j = 3 by omega) with rfl | rfl | rfl | rfl <;> rfl) ⟨(by show _ ≤ (20 : Nat); omega), (by show _ ≤ (620 : Nat); omega)⟩ dX4_row_25 (fun n1 H_2 hq_n1 hat hz oq hS => ?_)
  have hM := hMod_keep hM (fun i hi => oq _ (hMod_lt hM hi))
  have hT := zTx.kept hT (fun y hx _ => oq y hx)
  have h_n1 := hat
  refine z_dup S dX4_row_28 rfl ?_
  refine z_callMI S hG hS (c_bIni l G n1 H_2.size) (fun y z => by have z2 : y = n1 ∨ _ ≤ y := z; exact Or.inr (show sz ≤ y by omega)) ok_J4_init_da8c8 q3_134 rfl q6_81 (⟨h_n1, hT, rfl⟩) ⟨rfl, rfl, by decide, by decide⟩ ⟨(by show _ ≤ (20 : Nat); omega), (by show _ ≤ (620 : Nat); omega)⟩ rfl (Nat.le_of_ble_eq_true rfl) hl.1 rfl dX4_row_29 (fun H_3 L_3 hB hz oq hS => ?_)
  have hM := hMod_keep hM (fun i hi => oq _ (hMod_lt hM hi) (by have := hlt i hi; show ¬ (_ = n1 ∨ _ ≤ _); omega))
  have hT := zTx.kept hT (fun y hx h9 => oq y hx (by show ¬ (y = n1 ∨ _ ≤ y); omega))
  have hX : hSX G n1 sz 0 0 _ := ⟨_, 16, hB, by omega, by omega, Or.inl ⟨rfl, by decide⟩, Nat.le_refl _⟩
  refine z_astore_n (lv' := [(2, .ref (n1)), (0, .ref (b 0)), (1, .int (zI (x)))]) S dX4_row_32 hl rfl (by decide) rfl (fun ls hl => ?_)
  refine z_iconst S dX4_row_33 ?_
  refine z_istore_n (lv' := [(3, .int (zI (0))), (2, .ref (n1)), (0, .ref (b 0)), (1, .int (zI (x)))]) S dX4_row_34 hl rfl (by decide) rfl (fun ls hl => ?_)
  exact W.widen (k := 2 + 2 * 0) (n := 20 + 68 * 0) (by omega) (by omega) (row_X4 l G σ b th m1 m2 sz x hx h99 kR kC hd hge hlt S hG ret 8 0 n1 0 _ _ _ rfl (by omega) hX hM hT hS (lv_sub hl [2, 3, 1, 0] rfl))
set_option maxHeartbeats 4000000 in
theorem c_X4_rowR (l : Launch) (G : zG) (σ : St) (b : Nat → Nat) (th m1 m2 : Int32) (x : Int) (rx : rg x) (h1 : ¬ (0 ≤ x ∧ x ≤ 3)) (kR : okR σ) (hd : inj b (mL σ)) : Met l yX4_row (wq yX4_row cX4_row 4 ((Option.some (Jvm.ClassFile.FieldType.object "java/lang/String")))) (rmM 2 44 0 0) (va_Pc [.ref (b 0), .int (zI x)] (zK G (hMod G σ b th m1 m2))) (zMx (mA σ b) (hMod G σ b (zI 1) m1 m2)) 0 0 (mA σ b) := by
  refine z_enterMx (by decide +kernel) (Nat.le_of_ble_eq_true rfl) ?_
  intro p env s m below meth cod Q S hG hM hS ret ls hl
  have hl : lv_has ls 4 [(0, .ref (b 0)), (1, .int (zI x))] := hl
  have hxb : (decide (0 ≤ x) && decide (x ≤ 3)) = false := by
    cases hh : (decide (0 ≤ x) && decide (x ≤ 3)) with
    | false => rfl
    | true => (simp only [Bool.and_eq_true, decide_eq_true_eq] at hh; exact absurd hh h1)
  refine z_aload_n S dX4_row_0 hl 0 rfl rfl ?_
  refine z_iload_n S dX4_row_1 hl 1 rfl rfl ?_
  refine z_iconst S dX4_row_2 ?_
  refine z_iconst S dX4_row_3 ?_
  refine z_callSs S hG (c_X4_isIn l G x 0 3 (by omega)) ok_X4_isIn q5_18 (trivial) ⟨rfl, rfl, by decide, by decide⟩ ⟨Nat.zero_le _, Nat.zero_le _⟩ rfl (Nat.le_of_ble_eq_true rfl) hl.1 rfl dX4_row_4 ?_
  refine z_bif_ne S 14 dX4_row_7 (by decide) (fun q => ?_) (fun q => ?_)
  · exact absurd q (by rw [show (decide (0 ≤ x) && decide (x ≤ 3)) = false from hxb]; decide)
  refine z_iconst S dX4_row_10 ?_
  refine z_goto S 15 dX4_row_11 (by decide) ?_
  refine z_iconst S dX4_row_15 ?_
  refine z_callM S hG hS (c_X4_start l G σ b th m1 m2 true 1 (by omega) hd kR.1) (fun _ h => h) ok_X4_start hM.1 zc_X4 rfl q5_21 (hM) ⟨rfl, rfl, by decide, by decide⟩ ⟨Nat.le_of_ble_eq_true rfl, Nat.le_of_ble_eq_true rfl⟩ rfl (Nat.le_of_ble_eq_true rfl) hl.1 rfl dX4_row_16 (fun H_1 L_1 hB hz oq hS => ?_)
  have hM : hMod G σ b (zI 1) m1 m2 H_1 := hB
  refine z_bif_eq S 25 dX4_row_19 (by decide) (fun qz => ?_) (fun qz => ?_)
  · exact absurd qz (by decide)
  refine va_ldcS S.1 S.2.1 S.2.2.2.1 hG.2.2.2.2.2.2.1.1 dX4_row_22 ?_
  exact ret _ _ _ _ _ _ _ dX4_row_24 hS hM (Nat.le_of_ble_eq_true rfl) (Nat.le_of_ble_eq_true rfl)
