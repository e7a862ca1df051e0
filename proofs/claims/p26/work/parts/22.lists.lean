/-! ===== lists that grow, and their iterators ===== -/
/-- the empty row that new lists share -/
def zEp (G : zG) (H : Heap) : Prop := ∃ cell : Cell, H[G.2 400]? = some cell ∧ (∀ k, cell.vm ≠ .statics k) ∧ cell.cls = G.2 2 ∧ cell.slots.size.toInt32 = 0
theorem zEp.kept {G : zG} {H H1 : Heap} (h : zEp G H) (hq : G.2 400 < H.size → H1[G.2 400]? = H[G.2 400]?) : zEp G H1 := by
  obtain ⟨cell, h1, h2⟩ := h
  exact ⟨cell, by rw [hq (Array.getElem?_eq_some_iff.mp h1).1]; exact h1, h2⟩
theorem zEp.lt {G : zG} {H : Heap} (h : zEp G H) : G.2 400 < H.size := by
  obtain ⟨cell, h1, -⟩ := h
  exact (Array.getElem?_eq_some_iff.mp h1).1
theorem zStH.lt {G : zG} {i : Nat} {v : Value} {H : Heap} (h : zStH G i v H) : G.2 (100 + i) < H.size := by
  obtain ⟨cell, h1, -⟩ := h
  exact (Array.getElem?_eq_some_iff.mp h1).1
def hIt (G : zG) (it q : Nat) (cur lr : Int) (mc : Int32) (H : Heap) : Prop := va_at G.1 vwCl (it, .inr (2, [.int (zI cur), .int (zI lr), .int mc, .ref q])) H
/-- a row of whole numbers, whatever they are -/
def hIA (G : zG) (x : Nat) (H : Heap) : Prop := ∃ (N : Nat) (g : Nat → Int32), va_at G.1 vwCl (x, .inl (G.2 0, N, .inl g)) H
theorem hIA.kept {G : zG} {x : Nat} {H H1 : Heap} (h : hIA G x H) (hq : x < H.size → H1[x]? = H[x]?) : hIA G x H1 := by
  obtain ⟨N, g, h⟩ := h
  exact ⟨N, g, h.kept (hq (va_lt h))⟩
theorem hIA.lt {G : zG} {x : Nat} {H : Heap} (h : hIA G x H) : x < H.size := by
  obtain ⟨N, g, h⟩ := h
  exact va_lt h
section ZL
variable {p : Program} {l : Launch} {e : Env} {R : Room} {s : State} {m : MethodId} {args : Array Value} {below : List Frame} {meth : Method} {c : Code} {H : Heap} {locs : List Loc} {cells slots : Nat} {Q : State → Prop}
variable {cc : ByteArray} {nL : Nat} {own : String} {pc : Nat} {ls : Array Slot} {rest : List Value} {G : zG} {A : Nat → Prop} {H0 : Heap}
theorem z_elen (S : CallFix p m c cc nL s args lw_g own) (hG : zKn G s) (hb : zEp G H) (d : decode cc pc = .ok (.arraylength, 1))
    (kk : W p l e R s m args below meth c H locs cells slots Q (F0 m (pc + 1) ls (.int (zI 0) :: rest))) : W p l e R s m args below meth c H locs cells slots Q (F0 m pc ls (.ref (G.2 400) :: rest)) := by
  obtain ⟨cell, h1, h2, h4, h5⟩ := hb
  obtain ⟨-, x, hx, hy⟩ := (hG.1.2 2 (G.2 2, .object "java/lang/Object") rfl).1 0 (fun _ => .null)
  exact W.alen S.1 S.2.1 h1 (ty := .object "java/lang/Object") ⟨h2, x, by rw [h4]; exact hx, hy⟩ (n := zI 0) h5 rfl rfl d kk
theorem z_mend5 {v : Option Value} {B : Heap → Prop} {A1 : Nat → Prop} {mc ms : Nat} {a : Array Value} {st0 : List Value} (hr : va_Run5 p l e R s m args below meth c H locs cells slots mc ms (F0 m pc ls st0) rest (zM A1 v B a) A1) (hS : va_S A H0 H locs) (hA : ∀ q, A1 q → A q)
    (kk : ∀ (H1 : Heap) (locs1 : List Loc), B H1 → H.size ≤ H1.size → (∀ q : Nat, q < H.size → ¬ A1 q → H1[q]? = H[q]?) → va_S A H0 H1 locs1 → W p l e R s m args below meth c H1 locs1 (cells + mc) (slots + ms) Q (F0 m (pc + 5) ls (v.toList ++ rest))) : W p l e R s m args below meth c H locs cells slots Q (F0 m pc ls st0) := by
  intro T hT X
  obtain ⟨v', st₀, t, T', L, h0, X', hL, e1, e2, ⟨hv, hb, hz, hk⟩, st⟩ := hr T hT X
  cases hv
  rw [h0] at hz hk
  obtain ⟨t2, a1, b1⟩ := kk T'.heap (locs ++ L) (by rw [e1]; exact hb) (by rw [e1]; exact hz) (fun q h1 h2 => by rw [e1]; exact hk q h1 h2)
    ⟨Nat.le_trans hS.1 (by rw [e1]; exact hz), fun q h1 h2 => by rw [e1, hk q (Nat.lt_of_lt_of_le h1 hS.1) (fun z => h2 (hA q z))]; exact hS.2.1 q h1 h2, fun q hq => by
      rcases List.mem_append.mp hq with h | h
      · exact hS.2.2 q h
      · exact hA _ (hL q h)⟩ T' rfl X'
  exact ⟨t2, st t2 a1, b1⟩
/-- a call by an interface -/
theorem z_callF (S : CallFix p m c cc nL s args lw_g own) (hG : zKn G s) (hS : va_S A H0 H locs) {x y : MethodName} {bytes : ByteArray} {maxL na index count mc ms : Nat} {ret : Option FieldType} {rm : Room} {P B : Heap → Prop} {A1 : Nat → Prop} {v : Option Value} {As st : List Value} {b ci N : Nat} {fs : List Value} {C : String} {T : u_T} (hM : Met l y (wq y bytes maxL ret) rm (va_Pc (.ref b :: As) (zK G P)) (zM A1 v B) mc ms A1) (hA : ∀ q, A1 q → A q) (hF : va_Fw C x y s) (hY : zOK y bytes maxL ret na) (hin : Cond.instanceMethod y ∈ lw_g) (hsel : Cond.selects C x y ∈ lw_g) (hx : x.cls ≠ "java/lang/invoke/MethodHandle" ∧ x.cls ≠ "java/lang/invoke/VarHandle" ∧ (parseMethodDescriptor x.desc).map (fun d => d.parameters.length) = some na) (hat : va_at G.1 vwCl (b, .inr (ci, fs)) H) (hC : zCl ci C T N) (hl : Cond.methodLink own index x ∈ lw_g) (hP : P H) (hR : zRM R rm maxL mc ms) (hcs : cells + mc ≤ R.cells ∧ slots + ms ≤ R.slots) (hn : As.length = na) (hrest : (rest.map fun v => v.category).sum ≤ 8) (hlz : ls.size = nL) (hst : st = As.reverse ++ .ref b :: rest) (d : decode cc pc = .ok (.invokeinterface index count, 5))
    (kk : ∀ (H1 : Heap) (locs1 : List Loc), B H1 → H.size ≤ H1.size → (∀ q : Nat, q < H.size → ¬ A1 q → H1[q]? = H[q]?) → va_S A H0 H1 locs1 → W p l e R s m args below meth c H1 locs1 (cells + mc) (slots + ms) Q (F0 m (pc + 5) ls (v.toList ++ rest))) : W p l e R s m args below meth c H locs cells slots Q (F0 m pc ls st) := by
  have hT : GoodIn lw_g (va_wsF own index C x y (wq y bytes maxL ret)) := fun w hw => by
    unfold va_wsF at hw
    rcases List.mem_append.mp hw with h | h
    · simp only [List.mem_cons, List.not_mem_nil, or_false] at h
      rcases h with rfl | rfl | rfl | rfl
      · exact zgood_tbl _ hl
      · exact zgood_tbl _ hsel
      · exact zgood_tbl _ hin
      · exact zgood_tbl _ hY.2.1
    · exact zgood_wq hY.1 w h
  exact z_mend5 (va_runF (hG.1.1 ci _ hC.1).2 S hM (va_cwF na S.2.2.2.2 hT rfl hR.1 hR.2.1 hF hx ⟨hR.2.2.1, hR.2.2.2⟩) ⟨z_blind, va_recv hG.1 (va_one hat) hC.1 (q0 := 0) rfl, fun U hU hW => ⟨rfl, by rw [hU]; exact hP, zKn.moved hW hG⟩⟩ rfl hn hlz hst (lv_room hrest) d hcs) hS hA kk
end ZL
theorem z_enterMR {l : Launch} {y : MethodName} {cc : ByteArray} {maxL mc ms : Nat} {rm : Room} {G : zG} {P B : Heap → Prop} {A : Nat → Prop} {C : FieldType} {E : Nat} {av : List Value} (hy : plainName y.cls = true) (hav : (lg_sl av).length ≤ maxL)
    (body : ∀ (p : Program) (e : Env) (s : State) (m : MethodId) (below : List Frame) (meth : Method) (c : Code) (Q : State → Prop), CallFix p m c cc maxL s av.toArray lw_g y.cls → zKn G s → P s.heap → va_S A s.heap s.heap [] →
      (∀ (pc : Nat) (ls : Array Slot) (H : Heap) (locs : List Loc) (k n : Nat), decode cc pc = .ok (.areturn, 1) → va_S A s.heap H locs → B H → k ≤ mc → n ≤ ms → W p l e rm s m av.toArray below meth c H locs k n Q (F0 m pc ls [.ref E])) → ∀ ls, lv_has ls maxL (lv_args 0 av) →
      W p l e rm s m av.toArray below meth c s.heap [] 0 0 Q (F0 m 0 ls [])) : Met l y (wq y cc maxL (some (.array C))) rm (va_Pc av (zK G P)) (zM A (some (.ref E)) B) mc ms A :=
  z_enterM hy hav fun p e s m below meth c S hr hlk _ hG hP ls hl => body p e s m below meth c _ S hG hP va_S.rf (fun pc ls H locs k n d hS hB hk hn => by
    exact W.widen hk hn (W.aret S.1 S.2.1 hr (Or.inr ⟨_, rfl⟩) (Or.inr ⟨_, rfl⟩) (fun t ht _ => ⟨rfl, by rw [ht]; exact hB, (hS.F ht).1, (hS.F ht).2⟩) hS.2.2 d hlk)) ls hl
theorem q_arrI : Cond.arrayClass .int ∈ lw_g := zg_of (zin1 (List.mem_of_getElem? (i := 59) rfl)) rfl
theorem q_arrB : Cond.arrayClass .byte ∈ lw_g := zg_of (zin2 (List.mem_of_getElem? (i := 162) rfl)) rfl
theorem dJxa1e45_init_da8c8_0 : decode cJxa1e45_init_da8c8 0 = .ok (.aload_n 0, 1) := by decide +kernel
theorem dJxa1e45_init_da8c8_1 : decode cJxa1e45_init_da8c8 1 = .ok (.invokespecial 1, 3) := by decide +kernel
theorem dJxa1e45_init_da8c8_4 : decode cJxa1e45_init_da8c8 4 = .ok (.return_, 1) := by decide +kernel
theorem q4_208 : (Jvm.Cond.methodLink "java/util/AbstractCollection" (1 : Nat) ({ cls := "java/lang/Object", name := "<init>", desc := "()V" } : Jvm.MethodName)) ∈ lw_g := zg_of (zin4 (List.mem_of_getElem? (i := 208) rfl)) rfl
theorem q1_36 : (Jvm.Cond.instanceMethod ({ cls := "java/lang/Object", name := "<init>", desc := "()V" } : Jvm.MethodName)) ∈ lw_g := zg_of (zin1 (List.mem_of_getElem? (i := 36) rfl)) rfl
theorem q1_37 : (Jvm.Cond.code ({ cls := "java/lang/Object", name := "<init>", desc := "()V" } : Jvm.MethodName) object_method_1_code (1 : Nat) (Option.none : Option Jvm.ClassFile.FieldType)) ∈ lw_g := zg_of (zin1 (List.mem_of_getElem? (i := 37) rfl)) rfl
theorem q4_207 : (Jvm.Cond.code ({ cls := "java/util/AbstractCollection", name := "<init>", desc := "()V" } : Jvm.MethodName) prog_31_method_1_code (1 : Nat) (Option.none : Option Jvm.ClassFile.FieldType)) ∈ lw_g := zg_of (zin4 (List.mem_of_getElem? (i := 207) rfl)) rfl
theorem q1_4 : (Jvm.Cond.initialized "java/util/AbstractCollection") ∈ lw_g := zg_of (zin1 (List.mem_of_getElem? (i := 4) rfl)) rfl
theorem ok_Jxa1e45_init_da8c8 : zOK yJxa1e45_init_da8c8 cJxa1e45_init_da8c8 1 ((Option.none : Option Jvm.ClassFile.FieldType)) 0 := ⟨q4_207, q1_4, by decide, by decide, by decide +kernel⟩
set_option maxHeartbeats 4000000 in
set_option maxRecDepth 100000 in
theorem c_acInit (l : Launch) (G : zG) (q : Nat) : Met l yJxa1e45_init_da8c8 (wq yJxa1e45_init_da8c8 cJxa1e45_init_da8c8 1 ((Option.none : Option Jvm.ClassFile.FieldType))) (rmM 1 20 0 0) (va_Pc [.ref (q)] (zK G (fun _ => True))) (zM (fun _ => False) none (fun _ => True)) 0 0 (fun _ => False) := by
  refine z_enterMV (by decide +kernel) (Nat.le_of_ble_eq_true rfl) ?_
  intro p env s m below meth cod Q S hnm hG hP hS ret ls hl
  have hl : lv_has ls 1 [(0, .ref (q))] := hl
  refine z_aload_n S dJxa1e45_init_da8c8_0 hl 0 rfl rfl ?_
  refine z_objInit S hl.1 q4_208 q1_36 (by exact q1_37) dJxa1e45_init_da8c8_1 (Nat.le_of_ble_eq_true rfl) (Nat.le_of_ble_eq_true rfl) ?_
  exact ret _ _ _ _ _ _ dJxa1e45_init_da8c8_4 hS (trivial) (Nat.le_of_ble_eq_true rfl) (Nat.le_of_ble_eq_true rfl)
theorem dJxc12de_init_da8c8_0 : decode cJxc12de_init_da8c8 0 = .ok (.aload_n 0, 1) := by decide +kernel
theorem dJxc12de_init_da8c8_1 : decode cJxc12de_init_da8c8 1 = .ok (.invokespecial 1, 3) := by decide +kernel
theorem dJxc12de_init_da8c8_4 : decode cJxc12de_init_da8c8 4 = .ok (.aload_n 0, 1) := by decide +kernel
theorem dJxc12de_init_da8c8_5 : decode cJxc12de_init_da8c8 5 = .ok (.iconst 0, 1) := by decide +kernel
theorem dJxc12de_init_da8c8_6 : decode cJxc12de_init_da8c8 6 = .ok (.putfield 7, 3) := by decide +kernel
theorem dJxc12de_init_da8c8_9 : decode cJxc12de_init_da8c8 9 = .ok (.return_, 1) := by decide +kernel
theorem q4_206 : (Jvm.Cond.instanceMethod ({ cls := "java/util/AbstractCollection", name := "<init>", desc := "()V" } : Jvm.MethodName)) ∈ lw_g := zg_of (zin4 (List.mem_of_getElem? (i := 206) rfl)) rfl
theorem q4_205 : (Jvm.Cond.methodLink "java/util/AbstractList" (1 : Nat) ({ cls := "java/util/AbstractCollection", name := "<init>", desc := "()V" } : Jvm.MethodName)) ∈ lw_g := zg_of (zin4 (List.mem_of_getElem? (i := 205) rfl)) rfl
theorem q4_215 : (Jvm.Cond.fieldLink "java/util/AbstractList" (7 : Nat) "java/util/AbstractList" "modCount" "I") ∈ lw_g := zg_of (zin4 (List.mem_of_getElem? (i := 215) rfl)) rfl
theorem q4_204 : (Jvm.Cond.code ({ cls := "java/util/AbstractList", name := "<init>", desc := "()V" } : Jvm.MethodName) prog_32_method_1_code (1 : Nat) (Option.none : Option Jvm.ClassFile.FieldType)) ∈ lw_g := zg_of (zin4 (List.mem_of_getElem? (i := 204) rfl)) rfl
theorem q1_5 : (Jvm.Cond.initialized "java/util/AbstractList") ∈ lw_g := zg_of (zin1 (List.mem_of_getElem? (i := 5) rfl)) rfl
theorem ok_Jxc12de_init_da8c8 : zOK yJxc12de_init_da8c8 cJxc12de_init_da8c8 1 ((Option.none : Option Jvm.ClassFile.FieldType)) 0 := ⟨q4_204, q1_5, by decide, by decide, by decide +kernel⟩
set_option maxHeartbeats 4000000 in
set_option maxRecDepth 100000 in
theorem c_ablInit (l : Launch) (G : zG) (q : Nat) (x : Int32) : Met l yJxc12de_init_da8c8 (wq yJxc12de_init_da8c8 cJxc12de_init_da8c8 1 ((Option.none : Option Jvm.ClassFile.FieldType))) (rmM 2 40 0 0) (va_Pc [.ref (q)] (zK G (fun H => va_at G.1 vwCl (q, .inr (3, [.int (x), .null, .int ((0 : Int32))])) H))) (zM (fun y => y = q) none (fun H => va_at G.1 vwCl (q, .inr (3, [.int (zI 0), .null, .int ((0 : Int32))])) H)) 0 0 (fun y => y = q) := by
  refine z_enterMV (by decide +kernel) (Nat.le_of_ble_eq_true rfl) ?_
  intro p env s m below meth cod Q S hnm hG hP hS ret ls hl
  have hl : lv_has ls 1 [(0, .ref (q))] := hl
  have hQ := hP
  refine z_aload_n S dJxc12de_init_da8c8_0 hl 0 rfl rfl ?_
  refine z_callMI S hG hS (c_acInit l G q) (fun _ h => h.elim) ok_Jxa1e45_init_da8c8 q4_206 rfl q4_205 (trivial) ⟨rfl, rfl, by decide, by decide⟩ ⟨Nat.le_of_ble_eq_true rfl, Nat.le_of_ble_eq_true rfl⟩ rfl (Nat.le_of_ble_eq_true rfl) hl.1 rfl dJxc12de_init_da8c8_1 (fun H_1 L_1 hB hz oq hS => ?_)
  have hQ := va_at.kept hQ (oq _ (va_lt hQ) (fun z => z))
  refine z_aload_n S dJxc12de_init_da8c8_4 hl 0 rfl rfl ?_
  refine z_iconst S dJxc12de_init_da8c8_5 ?_
  refine z_putR S hG hQ zc_Jx4a65c tyJx4a65c tyJx4a65c_ok nmJx4a65c hS (rfl) 0 (by decide) q4_215 rfl (tyJx4a65c_ok 0 (by decide)) rfl rfl (Nat.le_of_ble_eq_true rfl) dJxc12de_init_da8c8_6 (fun H_2 L_2 hat hz oq hS => ?_)
  have hQ := hat
  exact ret _ _ _ _ _ _ dJxc12de_init_da8c8_9 hS (hQ) (Nat.le_of_ble_eq_true rfl) (Nat.le_of_ble_eq_true rfl)
theorem dJx4a65c_init_da8c8_0 : decode cJx4a65c_init_da8c8 0 = .ok (.aload_n 0, 1) := by decide +kernel
theorem dJx4a65c_init_da8c8_1 : decode cJx4a65c_init_da8c8 1 = .ok (.invokespecial 1, 3) := by decide +kernel
theorem dJx4a65c_init_da8c8_4 : decode cJx4a65c_init_da8c8 4 = .ok (.aload_n 0, 1) := by decide +kernel
theorem dJx4a65c_init_da8c8_5 : decode cJx4a65c_init_da8c8 5 = .ok (.getstatic 39, 3) := by decide +kernel
theorem dJx4a65c_init_da8c8_8 : decode cJx4a65c_init_da8c8 8 = .ok (.putfield 9, 3) := by decide +kernel
theorem dJx4a65c_init_da8c8_11 : decode cJx4a65c_init_da8c8 11 = .ok (.return_, 1) := by decide +kernel
theorem q4_203 : (Jvm.Cond.instanceMethod ({ cls := "java/util/AbstractList", name := "<init>", desc := "()V" } : Jvm.MethodName)) ∈ lw_g := zg_of (zin4 (List.mem_of_getElem? (i := 203) rfl)) rfl
theorem q4_202 : (Jvm.Cond.methodLink "java/util/ArrayList" (1 : Nat) ({ cls := "java/util/AbstractList", name := "<init>", desc := "()V" } : Jvm.MethodName)) ∈ lw_g := zg_of (zin4 (List.mem_of_getElem? (i := 202) rfl)) rfl
theorem q4_209 : (Jvm.Cond.fieldLink "java/util/ArrayList" (39 : Nat) "java/util/ArrayList" "DEFAULTCAPACITY_EMPTY_ELEMENTDATA" "[Ljava/lang/Object;") ∈ lw_g := zg_of (zin4 (List.mem_of_getElem? (i := 209) rfl)) rfl
theorem q4_201 : (Jvm.Cond.code ({ cls := "java/util/ArrayList", name := "<init>", desc := "()V" } : Jvm.MethodName) prog_33_method_2_code (1 : Nat) (Option.none : Option Jvm.ClassFile.FieldType)) ∈ lw_g := zg_of (zin4 (List.mem_of_getElem? (i := 201) rfl)) rfl
theorem ok_Jx4a65c_init_da8c8 : zOK yJx4a65c_init_da8c8 cJx4a65c_init_da8c8 1 ((Option.none : Option Jvm.ClassFile.FieldType)) 0 := ⟨q4_201, q1_6, by decide, by decide, by decide +kernel⟩
set_option maxHeartbeats 4000000 in
set_option maxRecDepth 100000 in
theorem c_alInit (l : Launch) (G : zG) (q : Nat) (hqs : q ≠ G.2 (100 + 0)) : Met l yJx4a65c_init_da8c8 (wq yJx4a65c_init_da8c8 cJx4a65c_init_da8c8 1 ((Option.none : Option Jvm.ClassFile.FieldType))) (rmM 3 60 0 0) (va_Pc [.ref (q)] (zK G (fun H => va_at G.1 vwCl (q, .inr (3, [.int (0), .null, .int (0)])) H ∧ zStH G 0 (.ref (G.2 400)) H))) (zM (fun y => y = q) none (fun H => hAL G q (G.2 400) (zI 0) 0 H)) 0 0 (fun y => y = q) := by
  refine z_enterMV (by decide +kernel) (Nat.le_of_ble_eq_true rfl) ?_
  intro p env s m below meth cod Q S hnm hG hP hS ret ls hl
  have hl : lv_has ls 1 [(0, .ref (q))] := hl
  have hQ := hP.1
  have hE := hP.2
  refine z_aload_n S dJx4a65c_init_da8c8_0 hl 0 rfl rfl ?_
  refine z_callMI S hG hS (c_ablInit l G q 0) (fun _ h => h) ok_Jxc12de_init_da8c8 q4_203 rfl q4_202 (hQ) ⟨rfl, rfl, by decide, by decide⟩ ⟨Nat.le_of_ble_eq_true rfl, Nat.le_of_ble_eq_true rfl⟩ rfl (Nat.le_of_ble_eq_true rfl) hl.1 rfl dJx4a65c_init_da8c8_1 (fun H_1 L_1 hB hz oq hS => ?_)
  have hE := zStH.kept hE (fun x hx e => oq x hx (by rw [e]; exact fun z => hqs z.symm))
  have hQ := hB
  refine z_aload_n S dJx4a65c_init_da8c8_4 hl 0 rfl rfl ?_
  refine z_gets S hG 0 rfl hE q4_209 dJx4a65c_init_da8c8_5 ?_
  refine z_putR S hG hQ zc_Jx4a65c tyJx4a65c tyJx4a65c_ok nmJx4a65c hS (rfl) 1 (by decide) q4_211 rfl (tyJx4a65c_ok 1 (by decide)) rfl rfl (Nat.le_of_ble_eq_true rfl) dJx4a65c_init_da8c8_8 (fun H_2 L_2 hat hz oq hS => ?_)
  have hE := zStH.kept hE (fun x _ e => oq x (by omega))
  have hQ := hat
  exact ret _ _ _ _ _ _ dJx4a65c_init_da8c8_11 hS (hQ) (Nat.le_of_ble_eq_true rfl) (Nat.le_of_ble_eq_true rfl)
theorem dJx4a65c_grow_92f84_0 : decode cJx4a65c_grow_92f84 0 = .ok (.aload_n 0, 1) := by decide +kernel
theorem dJx4a65c_grow_92f84_1 : decode cJx4a65c_grow_92f84 1 = .ok (.getfield 9, 3) := by decide +kernel
theorem dJx4a65c_grow_92f84_4 : decode cJx4a65c_grow_92f84 4 = .ok (.arraylength, 1) := by decide +kernel
theorem dJx4a65c_grow_92f84_5 : decode cJx4a65c_grow_92f84 5 = .ok (.istore_n 2, 1) := by decide +kernel
theorem dJx4a65c_grow_92f84_6 : decode cJx4a65c_grow_92f84 6 = .ok (.iload_n 2, 1) := by decide +kernel
theorem dJx4a65c_grow_92f84_7 : decode cJx4a65c_grow_92f84 7 = .ok (.ifCond .gt 13, 3) := by decide +kernel
theorem dJx4a65c_grow_92f84_10 : decode cJx4a65c_grow_92f84 10 = .ok (.aload_n 0, 1) := by decide +kernel
theorem dJx4a65c_grow_92f84_11 : decode cJx4a65c_grow_92f84 11 = .ok (.getfield 9, 3) := by decide +kernel
theorem dJx4a65c_grow_92f84_14 : decode cJx4a65c_grow_92f84 14 = .ok (.getstatic 39, 3) := by decide +kernel
theorem dJx4a65c_grow_92f84_17 : decode cJx4a65c_grow_92f84 17 = .ok (.if_acmp .eq 28, 3) := by decide +kernel
theorem dJx4a65c_grow_92f84_20 : decode cJx4a65c_grow_92f84 20 = .ok (.iload_n 2, 1) := by decide +kernel
theorem dJx4a65c_grow_92f84_21 : decode cJx4a65c_grow_92f84 21 = .ok (.iload_n 1, 1) := by decide +kernel
theorem dJx4a65c_grow_92f84_22 : decode cJx4a65c_grow_92f84 22 = .ok (.iload_n 2, 1) := by decide +kernel
theorem dJx4a65c_grow_92f84_23 : decode cJx4a65c_grow_92f84 23 = .ok (.isub, 1) := by decide +kernel
theorem dJx4a65c_grow_92f84_24 : decode cJx4a65c_grow_92f84 24 = .ok (.iload_n 2, 1) := by decide +kernel
theorem dJx4a65c_grow_92f84_25 : decode cJx4a65c_grow_92f84 25 = .ok (.iconst 1, 1) := by decide +kernel
theorem dJx4a65c_grow_92f84_26 : decode cJx4a65c_grow_92f84 26 = .ok (.ishr, 1) := by decide +kernel
theorem dJx4a65c_grow_92f84_27 : decode cJx4a65c_grow_92f84 27 = .ok (.invokestatic 73, 3) := by decide +kernel
theorem dJx4a65c_grow_92f84_30 : decode cJx4a65c_grow_92f84 30 = .ok (.istore_n 3, 1) := by decide +kernel
theorem dJx4a65c_grow_92f84_31 : decode cJx4a65c_grow_92f84 31 = .ok (.aload_n 0, 1) := by decide +kernel
theorem dJx4a65c_grow_92f84_32 : decode cJx4a65c_grow_92f84 32 = .ok (.aload_n 0, 1) := by decide +kernel
theorem dJx4a65c_grow_92f84_33 : decode cJx4a65c_grow_92f84 33 = .ok (.getfield 9, 3) := by decide +kernel
theorem dJx4a65c_grow_92f84_36 : decode cJx4a65c_grow_92f84 36 = .ok (.iload_n 3, 1) := by decide +kernel
theorem dJx4a65c_grow_92f84_37 : decode cJx4a65c_grow_92f84 37 = .ok (.invokestatic 66, 3) := by decide +kernel
theorem dJx4a65c_grow_92f84_40 : decode cJx4a65c_grow_92f84 40 = .ok (.dup_x1, 1) := by decide +kernel
theorem dJx4a65c_grow_92f84_41 : decode cJx4a65c_grow_92f84 41 = .ok (.putfield 9, 3) := by decide +kernel
theorem dJx4a65c_grow_92f84_44 : decode cJx4a65c_grow_92f84 44 = .ok (.areturn, 1) := by decide +kernel
theorem dJx4a65c_grow_92f84_45 : decode cJx4a65c_grow_92f84 45 = .ok (.aload_n 0, 1) := by decide +kernel
theorem dJx4a65c_grow_92f84_46 : decode cJx4a65c_grow_92f84 46 = .ok (.bipush 10, 2) := by decide +kernel
theorem dJx4a65c_grow_92f84_48 : decode cJx4a65c_grow_92f84 48 = .ok (.iload_n 1, 1) := by decide +kernel
theorem dJx4a65c_grow_92f84_49 : decode cJx4a65c_grow_92f84 49 = .ok (.invokestatic 79, 3) := by decide +kernel
theorem dJx4a65c_grow_92f84_52 : decode cJx4a65c_grow_92f84 52 = .ok (.anewarray 7, 3) := by decide +kernel
theorem dJx4a65c_grow_92f84_55 : decode cJx4a65c_grow_92f84 55 = .ok (.dup_x1, 1) := by decide +kernel
theorem dJx4a65c_grow_92f84_56 : decode cJx4a65c_grow_92f84 56 = .ok (.putfield 9, 3) := by decide +kernel
theorem dJx4a65c_grow_92f84_59 : decode cJx4a65c_grow_92f84 59 = .ok (.areturn, 1) := by decide +kernel
theorem q5_107 : (Jvm.Cond.methodLink "java/util/ArrayList" (79 : Nat) ({ cls := "java/lang/Math", name := "max", desc := "(II)I" } : Jvm.MethodName)) ∈ lw_g := zg_of (zin5 (List.mem_of_getElem? (i := 107) rfl)) rfl
theorem q5_108 : (Jvm.Cond.classLink "java/util/ArrayList" (7 : Nat) "java/lang/Object") ∈ lw_g := zg_of (zin5 (List.mem_of_getElem? (i := 108) rfl)) rfl
theorem q5_80 : (Jvm.Cond.code ({ cls := "java/util/ArrayList", name := "grow", desc := "(I)[Ljava/lang/Object;" } : Jvm.MethodName) prog_33_method_6_code (4 : Nat) (Option.some (Jvm.ClassFile.FieldType.array (Jvm.ClassFile.FieldType.object "java/lang/Object")))) ∈ lw_g := zg_of (zin5 (List.mem_of_getElem? (i := 80) rfl)) rfl
theorem q5_79 : (Jvm.Cond.instanceMethod ({ cls := "java/util/ArrayList", name := "grow", desc := "(I)[Ljava/lang/Object;" } : Jvm.MethodName)) ∈ lw_g := zg_of (zin5 (List.mem_of_getElem? (i := 79) rfl)) rfl
theorem qs_26 : Cond.selects "java/util/ArrayList" (⟨"java/util/ArrayList", "grow", "(I)[Ljava/lang/Object;"⟩ : MethodName) (⟨"java/util/ArrayList", "grow", "(I)[Ljava/lang/Object;"⟩ : MethodName) ∈ lw_g := zg_of (zinS (List.mem_of_getElem? (i := 26) rfl)) rfl
theorem ok_Jx4a65c_grow_92f84 : zOV yJx4a65c_grow_92f84 cJx4a65c_grow_92f84 4 ((Option.some (Jvm.ClassFile.FieldType.array (Jvm.ClassFile.FieldType.object "java/lang/Object")))) 1 := ⟨⟨q5_80, q1_6, by decide, by decide, by decide +kernel⟩, q5_79, qs_26⟩
set_option maxHeartbeats 4000000 in
set_option maxRecDepth 100000 in
theorem c_alGrow1 (l : Launch) (G : zG) (q sz : Nat) (mc : Int32) (hqs : q ≠ G.2 (100 + 0)) : Met l yJx4a65c_grow_92f84 (wq yJx4a65c_grow_92f84 cJx4a65c_grow_92f84 4 ((Option.some (Jvm.ClassFile.FieldType.array (Jvm.ClassFile.FieldType.object "java/lang/Object"))))) (rmM 1 21 1 10) (va_Pc [.ref (q), .int (zI (1))] (zK G (fun H => hAL G q (G.2 400) mc 0 H ∧ zStH G 0 (.ref (G.2 400)) H ∧ zEp G H ∧ H.size = sz))) (zM (fun y => y = q ∨ sz ≤ y) (some (.ref (sz))) (fun H => hAL G q sz mc 0 H ∧ hEd G sz (fun _ => none) H)) 1 10 (fun y => y = q ∨ sz ≤ y) := by
  refine z_enterMR (by decide +kernel) (Nat.le_of_ble_eq_true rfl) ?_
  intro p env s m below meth cod Q S hG hP hS ret ls hl
  have hl : lv_has ls 4 [(0, .ref (q)), (1, .int (zI (1)))] := hl
  have hQ := hP.1
  have hE := hP.2.1
  have hp := hP.2.2.1
  have hz0 := hP.2.2.2
  have ltq : q < sz := by rw [← hz0]; exact va_lt hQ
  refine z_aload_n S dJx4a65c_grow_92f84_0 hl 0 rfl rfl ?_
  refine z_get S hG hQ zc_Jx4a65c 1 (by decide) q4_211 rfl rfl dJx4a65c_grow_92f84_1 ?_
  refine z_elen S hG hp dJx4a65c_grow_92f84_4 ?_
  refine z_istore_n (lv' := [(2, .int (zI (0))), (0, .ref (q)), (1, .int (zI (1)))]) S dJx4a65c_grow_92f84_5 hl rfl (by decide) rfl (fun ls hl => ?_)
  refine z_iload_n S dJx4a65c_grow_92f84_6 hl 0 rfl rfl ?_
  refine z_if_gt_F S 20 dJx4a65c_grow_92f84_7 (by decide) (by omega) (by omega) ?_
  refine z_aload_n S dJx4a65c_grow_92f84_10 hl 1 rfl rfl ?_
  refine z_get S hG hQ zc_Jx4a65c 1 (by decide) q4_211 rfl rfl dJx4a65c_grow_92f84_11 ?_
  refine z_gets S hG 0 rfl hE q4_209 dJx4a65c_grow_92f84_14 ?_
  refine lv_acmp_eq (rx := (some ((G.2 400)))) (ry := (some ((G.2 400)))) (tgt := 45) S.1 S.2.1 dJx4a65c_grow_92f84_17 (by decide) (fun qz => ?_) (fun qz => absurd rfl qz)
  refine z_aload_n S dJx4a65c_grow_92f84_45 hl 1 rfl rfl ?_
  refine z_bipush S dJx4a65c_grow_92f84_46 rfl ?_
  refine z_iload_n S dJx4a65c_grow_92f84_48 hl 2 rfl rfl ?_
  refine z_max S q5_107 q1_236 q1_18 (by exact q1_237) (by decide) (Nat.le_of_ble_eq_true rfl) ⟨Nat.zero_le _, Nat.zero_le _⟩ hl.1 dJx4a65c_grow_92f84_49 ?_
  rw [show (if (zI (10)) < (zI (1)) then (zI (1)) else (zI (10))) = zI 10 from by decide]
  refine z_newq (N := 10) S hG 2 rfl hG.2.2.2.2.2.2.2.2.2.1 (Nat.le_of_ble_eq_true rfl) q5_108 hS ⟨Nat.le_of_ble_eq_true rfl, Nat.le_of_ble_eq_true rfl⟩ dJx4a65c_grow_92f84_52 (fun n1 H_1 hq_n1 hat hz oq hS => ?_)
  have lt_hQ_n1 : n1 > q := by rw [hq_n1]; exact va_lt hQ
  have hQ := va_at.kept hQ (oq _ (va_lt hQ))
  have lt_hE_n1 : n1 > G.2 (100 + 0) := by rw [hq_n1]; exact zStH.lt hE
  have hE := zStH.kept hE (fun x hx _ => oq x hx)
  have h_n1 := hat
  have en1 : n1 = sz := hq_n1.trans hz0
  have h_n1 : hEd G n1 (fun _ => none) H_1 := h_n1
  refine lv_dup_x1 S.1 S.2.1 dJx4a65c_grow_92f84_55 rfl rfl ?_
  refine z_putR S hG hQ zc_Jx4a65c tyJx4a65c tyJx4a65c_ok nmJx4a65c hS (Or.inl rfl) 1 (by decide) q4_211 rfl (tyJx4a65c_ok 1 (by decide)) rfl rfl (Nat.le_of_ble_eq_true rfl) dJx4a65c_grow_92f84_56 (fun H_2 L_2 hat hz oq hS => ?_)
  have hE := zStH.kept hE (fun x _ e => oq x (by omega))
  have h_n1 := va_at.kept h_n1 (oq _ (show q ≠ n1 by omega).symm)
  have hQ := hat
  subst en1
  exact ret _ _ _ _ _ _ dJx4a65c_grow_92f84_59 hS (⟨hQ, h_n1⟩) (Nat.le_of_ble_eq_true rfl) (Nat.le_of_ble_eq_true rfl)
theorem dJx4a65c_grow_d5877_0 : decode cJx4a65c_grow_d5877 0 = .ok (.aload_n 0, 1) := by decide +kernel
theorem dJx4a65c_grow_d5877_1 : decode cJx4a65c_grow_d5877 1 = .ok (.aload_n 0, 1) := by decide +kernel
theorem dJx4a65c_grow_d5877_2 : decode cJx4a65c_grow_d5877 2 = .ok (.getfield 48, 3) := by decide +kernel
theorem dJx4a65c_grow_d5877_5 : decode cJx4a65c_grow_d5877 5 = .ok (.iconst 1, 1) := by decide +kernel
theorem dJx4a65c_grow_d5877_6 : decode cJx4a65c_grow_d5877 6 = .ok (.iadd, 1) := by decide +kernel
theorem dJx4a65c_grow_d5877_7 : decode cJx4a65c_grow_d5877 7 = .ok (.invokevirtual 69, 3) := by decide +kernel
theorem dJx4a65c_grow_d5877_10 : decode cJx4a65c_grow_d5877 10 = .ok (.areturn, 1) := by decide +kernel
theorem q5_77 : (Jvm.Cond.methodLink "java/util/ArrayList" (69 : Nat) ({ cls := "java/util/ArrayList", name := "grow", desc := "(I)[Ljava/lang/Object;" } : Jvm.MethodName)) ∈ lw_g := zg_of (zin5 (List.mem_of_getElem? (i := 77) rfl)) rfl
theorem q5_76 : (Jvm.Cond.code ({ cls := "java/util/ArrayList", name := "grow", desc := "()[Ljava/lang/Object;" } : Jvm.MethodName) prog_33_method_7_code (1 : Nat) (Option.some (Jvm.ClassFile.FieldType.array (Jvm.ClassFile.FieldType.object "java/lang/Object")))) ∈ lw_g := zg_of (zin5 (List.mem_of_getElem? (i := 76) rfl)) rfl
theorem q5_75 : (Jvm.Cond.instanceMethod ({ cls := "java/util/ArrayList", name := "grow", desc := "()[Ljava/lang/Object;" } : Jvm.MethodName)) ∈ lw_g := zg_of (zin5 (List.mem_of_getElem? (i := 75) rfl)) rfl
theorem qs_25 : Cond.selects "java/util/ArrayList" (⟨"java/util/ArrayList", "grow", "()[Ljava/lang/Object;"⟩ : MethodName) (⟨"java/util/ArrayList", "grow", "()[Ljava/lang/Object;"⟩ : MethodName) ∈ lw_g := zg_of (zinS (List.mem_of_getElem? (i := 25) rfl)) rfl
theorem ok_Jx4a65c_grow_d5877 : zOV yJx4a65c_grow_d5877 cJx4a65c_grow_d5877 1 ((Option.some (Jvm.ClassFile.FieldType.array (Jvm.ClassFile.FieldType.object "java/lang/Object")))) 0 := ⟨⟨q5_76, q1_6, by decide, by decide, by decide +kernel⟩, q5_75, qs_25⟩
set_option maxHeartbeats 4000000 in
set_option maxRecDepth 100000 in
theorem c_alGrow0 (l : Launch) (G : zG) (q sz : Nat) (mc : Int32) (hqs : q ≠ G.2 (100 + 0)) : Met l yJx4a65c_grow_d5877 (wq yJx4a65c_grow_d5877 cJx4a65c_grow_d5877 1 ((Option.some (Jvm.ClassFile.FieldType.array (Jvm.ClassFile.FieldType.object "java/lang/Object"))))) (rmM 2 44 1 10) (va_Pc [.ref (q)] (zK G (fun H => hAL G q (G.2 400) mc 0 H ∧ zStH G 0 (.ref (G.2 400)) H ∧ zEp G H ∧ H.size = sz))) (zM (fun y => y = q ∨ sz ≤ y) (some (.ref (sz))) (fun H => hAL G q sz mc 0 H ∧ hEd G sz (fun _ => none) H)) 1 10 (fun y => y = q ∨ sz ≤ y) := by
  refine z_enterMR (by decide +kernel) (Nat.le_of_ble_eq_true rfl) ?_
  intro p env s m below meth cod Q S hG hP hS ret ls hl
  have hl : lv_has ls 1 [(0, .ref (q))] := hl
  have hQ := hP.1
  have hE := hP.2.1
  have hp := hP.2.2.1
  have hz0 := hP.2.2.2
  have ltq : q < sz := by rw [← hz0]; exact va_lt hQ
  refine z_aload_n S dJx4a65c_grow_d5877_0 hl 0 rfl rfl ?_
  refine z_aload_n S dJx4a65c_grow_d5877_1 hl 0 rfl rfl ?_
  refine z_get S hG hQ zc_Jx4a65c 2 (by decide) q4_214 rfl rfl dJx4a65c_grow_d5877_2 ?_
  refine z_iconst S dJx4a65c_grow_d5877_5 ?_
  refine z_iadd S dJx4a65c_grow_d5877_6 ?_
  refine z_callM S hG hS (c_alGrow1 l G q sz mc hqs) (fun _ h => h) ok_Jx4a65c_grow_92f84 hQ zc_Jx4a65c rfl q5_77 (hP) ⟨rfl, rfl, by decide, by decide⟩ ⟨Nat.le_of_ble_eq_true rfl, Nat.le_of_ble_eq_true rfl⟩ rfl (Nat.le_of_ble_eq_true rfl) hl.1 rfl dJx4a65c_grow_d5877_7 (fun H_1 L_1 hB hz oq hS => ?_)
  exact ret _ _ _ _ _ _ dJx4a65c_grow_d5877_10 hS (hB) (Nat.le_of_ble_eq_true rfl) (Nat.le_of_ble_eq_true rfl)
theorem dJx4a65c_add_72be8_0 : decode cJx4a65c_add_72be8 0 = .ok (.iload_n 3, 1) := by decide +kernel
theorem dJx4a65c_add_72be8_1 : decode cJx4a65c_add_72be8 1 = .ok (.aload_n 2, 1) := by decide +kernel
theorem dJx4a65c_add_72be8_2 : decode cJx4a65c_add_72be8 2 = .ok (.arraylength, 1) := by decide +kernel
theorem dJx4a65c_add_72be8_3 : decode cJx4a65c_add_72be8 3 = .ok (.if_icmp .ne 8, 3) := by decide +kernel
theorem dJx4a65c_add_72be8_6 : decode cJx4a65c_add_72be8 6 = .ok (.aload_n 0, 1) := by decide +kernel
theorem dJx4a65c_add_72be8_7 : decode cJx4a65c_add_72be8 7 = .ok (.invokevirtual 129, 3) := by decide +kernel
theorem dJx4a65c_add_72be8_10 : decode cJx4a65c_add_72be8 10 = .ok (.astore_n 2, 1) := by decide +kernel
theorem dJx4a65c_add_72be8_11 : decode cJx4a65c_add_72be8 11 = .ok (.aload_n 2, 1) := by decide +kernel
theorem dJx4a65c_add_72be8_12 : decode cJx4a65c_add_72be8 12 = .ok (.iload_n 3, 1) := by decide +kernel
theorem dJx4a65c_add_72be8_13 : decode cJx4a65c_add_72be8 13 = .ok (.aload_n 1, 1) := by decide +kernel
theorem dJx4a65c_add_72be8_14 : decode cJx4a65c_add_72be8 14 = .ok (.aastore, 1) := by decide +kernel
theorem dJx4a65c_add_72be8_15 : decode cJx4a65c_add_72be8 15 = .ok (.aload_n 0, 1) := by decide +kernel
theorem dJx4a65c_add_72be8_16 : decode cJx4a65c_add_72be8 16 = .ok (.iload_n 3, 1) := by decide +kernel
theorem dJx4a65c_add_72be8_17 : decode cJx4a65c_add_72be8 17 = .ok (.iconst 1, 1) := by decide +kernel
theorem dJx4a65c_add_72be8_18 : decode cJx4a65c_add_72be8 18 = .ok (.iadd, 1) := by decide +kernel
theorem dJx4a65c_add_72be8_19 : decode cJx4a65c_add_72be8 19 = .ok (.putfield 48, 3) := by decide +kernel
theorem dJx4a65c_add_72be8_22 : decode cJx4a65c_add_72be8 22 = .ok (.return_, 1) := by decide +kernel
theorem q5_73 : (Jvm.Cond.methodLink "java/util/ArrayList" (129 : Nat) ({ cls := "java/util/ArrayList", name := "grow", desc := "()[Ljava/lang/Object;" } : Jvm.MethodName)) ∈ lw_g := zg_of (zin5 (List.mem_of_getElem? (i := 73) rfl)) rfl
theorem q5_72 : (Jvm.Cond.code ({ cls := "java/util/ArrayList", name := "add", desc := "(Ljava/lang/Object;[Ljava/lang/Object;I)V" } : Jvm.MethodName) prog_33_method_24_code (4 : Nat) (Option.none : Option Jvm.ClassFile.FieldType)) ∈ lw_g := zg_of (zin5 (List.mem_of_getElem? (i := 72) rfl)) rfl
theorem q5_71 : (Jvm.Cond.instanceMethod ({ cls := "java/util/ArrayList", name := "add", desc := "(Ljava/lang/Object;[Ljava/lang/Object;I)V" } : Jvm.MethodName)) ∈ lw_g := zg_of (zin5 (List.mem_of_getElem? (i := 71) rfl)) rfl
theorem qs_24 : Cond.selects "java/util/ArrayList" (⟨"java/util/ArrayList", "add", "(Ljava/lang/Object;[Ljava/lang/Object;I)V"⟩ : MethodName) (⟨"java/util/ArrayList", "add", "(Ljava/lang/Object;[Ljava/lang/Object;I)V"⟩ : MethodName) ∈ lw_g := zg_of (zinS (List.mem_of_getElem? (i := 24) rfl)) rfl
theorem ok_Jx4a65c_add_72be8 : zOV yJx4a65c_add_72be8 cJx4a65c_add_72be8 4 ((Option.none : Option Jvm.ClassFile.FieldType)) 3 := ⟨⟨q5_72, q1_6, by decide, by decide, by decide +kernel⟩, q5_71, qs_24⟩
set_option maxHeartbeats 4000000 in
set_option maxRecDepth 100000 in
theorem c_alAddA1 (l : Launch) (G : zG) (q sz x : Nat) (mc : Int32) (hqs : q ≠ G.2 (100 + 0)) (hxq : x ≠ q) : Met l yJx4a65c_add_72be8 (wq yJx4a65c_add_72be8 cJx4a65c_add_72be8 4 ((Option.none : Option Jvm.ClassFile.FieldType))) (rmM 3 64 1 10) (va_Pc [.ref (q), .ref (x), .ref ((G.2 400)), .int (zI (0))] (zK G (fun H => (hAL G q (G.2 400) mc 0 H ∧ zStH G 0 (.ref (G.2 400)) H ∧ zEp G H ∧ H.size = sz) ∧ hIA G x H))) (zM (fun y => y = q ∨ sz ≤ y) none (fun H => hAL G q sz mc 1 H ∧ hEd G sz (up (fun _ => none) 0 (some x)) H)) 1 10 (fun y => y = q ∨ sz ≤ y) := by
  refine z_enterMV (by decide +kernel) (Nat.le_of_ble_eq_true rfl) ?_
  intro p env s m below meth cod Q S hnm hG hP hS ret ls hl
  have hl : lv_has ls 4 [(0, .ref (q)), (1, .ref (x)), (2, .ref ((G.2 400))), (3, .int (zI (0)))] := hl
  have hX := hP.2
  have hQ := hP.1.1
  have hE := hP.1.2.1
  have hp := hP.1.2.2.1
  have hz0 := hP.1.2.2.2
  have ltq : q < sz := by rw [← hz0]; exact va_lt hQ
  have ltx : x < sz := by rw [← hz0]; exact hIA.lt hX
  refine z_iload_n S dJx4a65c_add_72be8_0 hl 3 rfl rfl ?_
  refine z_aload_n S dJx4a65c_add_72be8_1 hl 2 rfl rfl ?_
  refine z_elen S hG hp dJx4a65c_add_72be8_2 ?_
  refine z_icmp_ne_F S 11 dJx4a65c_add_72be8_3 (by decide) (by omega) (by omega) (by omega) ?_
  refine z_aload_n S dJx4a65c_add_72be8_6 hl 0 rfl rfl ?_
  refine z_callM S hG hS (c_alGrow0 l G q sz mc hqs) (fun _ h => h) ok_Jx4a65c_grow_d5877 hQ zc_Jx4a65c rfl q5_73 (hP.1) ⟨rfl, rfl, by decide, by decide⟩ ⟨Nat.le_of_ble_eq_true rfl, Nat.le_of_ble_eq_true rfl⟩ rfl (Nat.le_of_ble_eq_true rfl) hl.1 rfl dJx4a65c_add_72be8_7 (fun H_1 L_1 hB hz oq hS => ?_)
  have hX := hIA.kept hX (fun _ => oq _ (hIA.lt hX) (by show ¬ (_ ∨ _); omega))
  have hQ := hB.1
  have hEd1 := hB.2
  obtain ⟨xN, xg, hx1⟩ := hX
  obtain ⟨xk, hx2⟩ := z_arrCls hG
  have hx1 : H_1[x]? = some (vp_cell (G.2 0) (xN, .inl xg)) := hx1
  refine z_astore_n (lv' := [(2, .ref (sz)), (0, .ref (q)), (1, .ref (x)), (3, .int (zI (0)))]) S dJx4a65c_add_72be8_10 hl rfl (by decide) rfl (fun ls hl => ?_)
  refine z_aload_n S dJx4a65c_add_72be8_11 hl 0 rfl rfl ?_
  refine z_iload_n S dJx4a65c_add_72be8_12 hl 3 rfl rfl ?_
  refine z_aload_n S dJx4a65c_add_72be8_13 hl 2 rfl rfl ?_
  refine z_aast S hG 2 rfl hEd1 hS (Or.inr (Nat.le_refl _)) (C := "[I") hx1 (fun z h => by cases h) hx2 (zG_I hG) (vb_asgC (hG.2.1 _ _ qt6_168)) (i := 0) (by omega) (by decide) dJx4a65c_add_72be8_14 (fun H_2 L_2 hat hz oq hS => ?_)
  have hEd1 := hat
  have hQ := va_at.kept hQ (oq _ (by omega))
  refine z_aload_n S dJx4a65c_add_72be8_15 hl 1 rfl rfl ?_
  refine z_iload_n S dJx4a65c_add_72be8_16 hl 3 rfl rfl ?_
  refine z_iconst S dJx4a65c_add_72be8_17 ?_
  refine z_iadd S dJx4a65c_add_72be8_18 ?_
  refine z_putR S hG hQ zc_Jx4a65c tyJx4a65c tyJx4a65c_ok nmJx4a65c hS (Or.inl rfl) 2 (by decide) q4_214 rfl (tyJx4a65c_ok 2 (by decide)) rfl rfl (Nat.le_of_ble_eq_true rfl) dJx4a65c_add_72be8_19 (fun H_3 L_3 hat hz oq hS => ?_)
  have hEd1 := va_at.kept hEd1 (oq _ (show q ≠ sz by omega).symm)
  have hQ := hat
  exact ret _ _ _ _ _ _ dJx4a65c_add_72be8_22 hS (⟨hQ, hEd1⟩) (Nat.le_of_ble_eq_true rfl) (Nat.le_of_ble_eq_true rfl)
theorem dJx4a65c_add_9ea2d_0 : decode cJx4a65c_add_9ea2d 0 = .ok (.aload_n 0, 1) := by decide +kernel
theorem dJx4a65c_add_9ea2d_1 : decode cJx4a65c_add_9ea2d 1 = .ok (.dup, 1) := by decide +kernel
theorem dJx4a65c_add_9ea2d_2 : decode cJx4a65c_add_9ea2d 2 = .ok (.getfield 63, 3) := by decide +kernel
theorem dJx4a65c_add_9ea2d_5 : decode cJx4a65c_add_9ea2d 5 = .ok (.iconst 1, 1) := by decide +kernel
theorem dJx4a65c_add_9ea2d_6 : decode cJx4a65c_add_9ea2d 6 = .ok (.iadd, 1) := by decide +kernel
theorem dJx4a65c_add_9ea2d_7 : decode cJx4a65c_add_9ea2d 7 = .ok (.putfield 63, 3) := by decide +kernel
theorem dJx4a65c_add_9ea2d_10 : decode cJx4a65c_add_9ea2d 10 = .ok (.aload_n 0, 1) := by decide +kernel
theorem dJx4a65c_add_9ea2d_11 : decode cJx4a65c_add_9ea2d 11 = .ok (.aload_n 1, 1) := by decide +kernel
theorem dJx4a65c_add_9ea2d_12 : decode cJx4a65c_add_9ea2d 12 = .ok (.aload_n 0, 1) := by decide +kernel
theorem dJx4a65c_add_9ea2d_13 : decode cJx4a65c_add_9ea2d 13 = .ok (.getfield 9, 3) := by decide +kernel
theorem dJx4a65c_add_9ea2d_16 : decode cJx4a65c_add_9ea2d 16 = .ok (.aload_n 0, 1) := by decide +kernel
theorem dJx4a65c_add_9ea2d_17 : decode cJx4a65c_add_9ea2d 17 = .ok (.getfield 48, 3) := by decide +kernel
theorem dJx4a65c_add_9ea2d_20 : decode cJx4a65c_add_9ea2d 20 = .ok (.invokevirtual 131, 3) := by decide +kernel
theorem dJx4a65c_add_9ea2d_23 : decode cJx4a65c_add_9ea2d 23 = .ok (.iconst 1, 1) := by decide +kernel
theorem dJx4a65c_add_9ea2d_24 : decode cJx4a65c_add_9ea2d 24 = .ok (.ireturn, 1) := by decide +kernel
theorem q5_69 : (Jvm.Cond.methodLink "java/util/ArrayList" (131 : Nat) ({ cls := "java/util/ArrayList", name := "add", desc := "(Ljava/lang/Object;[Ljava/lang/Object;I)V" } : Jvm.MethodName)) ∈ lw_g := zg_of (zin5 (List.mem_of_getElem? (i := 69) rfl)) rfl
theorem q5_68 : (Jvm.Cond.code ({ cls := "java/util/ArrayList", name := "add", desc := "(Ljava/lang/Object;)Z" } : Jvm.MethodName) prog_33_method_25_code (2 : Nat) (Option.some Jvm.ClassFile.FieldType.boolean)) ∈ lw_g := zg_of (zin5 (List.mem_of_getElem? (i := 68) rfl)) rfl
theorem q5_66 : (Jvm.Cond.instanceMethod ({ cls := "java/util/ArrayList", name := "add", desc := "(Ljava/lang/Object;)Z" } : Jvm.MethodName)) ∈ lw_g := zg_of (zin5 (List.mem_of_getElem? (i := 66) rfl)) rfl
theorem q5_67 : (Jvm.Cond.selects "java/util/ArrayList" ({ cls := "java/util/ArrayList", name := "add", desc := "(Ljava/lang/Object;)Z" } : Jvm.MethodName) ({ cls := "java/util/ArrayList", name := "add", desc := "(Ljava/lang/Object;)Z" } : Jvm.MethodName)) ∈ lw_g := zg_of (zin5 (List.mem_of_getElem? (i := 67) rfl)) rfl
theorem ok_Jx4a65c_add_9ea2d : zOV yJx4a65c_add_9ea2d cJx4a65c_add_9ea2d 2 ((Option.some Jvm.ClassFile.FieldType.boolean)) 1 := ⟨⟨q5_68, q1_6, by decide, by decide, by decide +kernel⟩, q5_66, q5_67⟩
set_option maxHeartbeats 4000000 in
set_option maxRecDepth 100000 in
theorem c_alAdd1 (l : Launch) (G : zG) (q sz x : Nat) (mc : Int32) (hqs : q ≠ G.2 (100 + 0)) (hxq : x ≠ q) (hqe : q ≠ G.2 400) : Met l yJx4a65c_add_9ea2d (wq yJx4a65c_add_9ea2d cJx4a65c_add_9ea2d 2 ((Option.some Jvm.ClassFile.FieldType.boolean))) (rmM 4 87 1 10) (va_Pc [.ref (q), .ref (x)] (zK G (fun H => (hAL G q (G.2 400) mc 0 H ∧ zStH G 0 (.ref (G.2 400)) H ∧ zEp G H ∧ H.size = sz) ∧ hIA G x H))) (zM (fun y => y = q ∨ sz ≤ y) (some (.int (bI (true)))) (fun H => hAL G q sz (mc + zI 1) 1 H ∧ hEd G sz (up (fun _ => none) 0 (some x)) H)) 1 10 (fun y => y = q ∨ sz ≤ y) := by
  refine z_enterMB (by decide +kernel) (Nat.le_of_ble_eq_true rfl) ?_
  intro p env s m below meth cod Q S hG hP hS ret ls hl
  have hl : lv_has ls 2 [(0, .ref (q)), (1, .ref (x))] := hl
  have hX := hP.2
  have hQ := hP.1.1
  have hE := hP.1.2.1
  have hp := hP.1.2.2.1
  have hz0 := hP.1.2.2.2
  have ltq : q < sz := by rw [← hz0]; exact va_lt hQ
  have ltx : x < sz := by rw [← hz0]; exact hIA.lt hX
  refine z_aload_n S dJx4a65c_add_9ea2d_0 hl 0 rfl rfl ?_
  refine z_dup S dJx4a65c_add_9ea2d_1 rfl ?_
  refine z_getI S hG hQ zc_Jx4a65c 0 (by decide) q4_218 q4_217 rfl dJx4a65c_add_9ea2d_2 ?_
  refine z_iconst S dJx4a65c_add_9ea2d_5 ?_
  refine lv_iadd S.1 S.2.1 dJx4a65c_add_9ea2d_6 ?_
  refine z_putI S hG hQ zc_Jx4a65c _ (zty_Jx4a65c) (znm_Jx4a65c) hS (Or.inl rfl) 0 (by decide) q4_218 q4_217 rfl rfl rfl rfl (Nat.le_of_ble_eq_true rfl) dJx4a65c_add_9ea2d_7 (fun H_1 L_1 hat hz oq hS => ?_)
  have hX := hIA.kept hX (fun _ => oq _ (show q ≠ x by omega).symm)
  have hE := zStH.kept hE (fun x _ e => oq x (by omega))
  have hp := zEp.kept hp (fun _ => oq _ (show q ≠ (G.2 400) by omega).symm)
  have hQ := hat
  have hz0 := hz.trans hz0
  refine z_aload_n S dJx4a65c_add_9ea2d_10 hl 0 rfl rfl ?_
  refine z_aload_n S dJx4a65c_add_9ea2d_11 hl 1 rfl rfl ?_
  refine z_aload_n S dJx4a65c_add_9ea2d_12 hl 0 rfl rfl ?_
  refine z_get S hG hQ zc_Jx4a65c 1 (by decide) q4_211 rfl rfl dJx4a65c_add_9ea2d_13 ?_
  refine z_aload_n S dJx4a65c_add_9ea2d_16 hl 0 rfl rfl ?_
  refine z_get S hG hQ zc_Jx4a65c 2 (by decide) q4_214 rfl rfl dJx4a65c_add_9ea2d_17 ?_
  refine z_callM S hG hS (c_alAddA1 l G q sz x (mc + zI 1) hqs hxq) (fun _ h => h) ok_Jx4a65c_add_72be8 hQ zc_Jx4a65c rfl q5_69 (⟨⟨hQ, hE, hp, hz0⟩, hX⟩) ⟨rfl, rfl, by decide, by decide⟩ ⟨Nat.le_of_ble_eq_true rfl, Nat.le_of_ble_eq_true rfl⟩ rfl (Nat.le_of_ble_eq_true rfl) hl.1 rfl dJx4a65c_add_9ea2d_20 (fun H_2 L_2 hB hz oq hS => ?_)
  refine z_iconst S dJx4a65c_add_9ea2d_23 ?_
  exact ret _ _ _ _ _ _ _ dJx4a65c_add_9ea2d_24 (rfl) hS (hB) (Nat.le_of_ble_eq_true rfl) (Nat.le_of_ble_eq_true rfl)
set_option maxHeartbeats 4000000 in
set_option maxRecDepth 100000 in
theorem c_alAddA2 (l : Launch) (G : zG) (q ed x : Nat) (mc : Int32) (n : Int) (els : Int → Option Nat) (hn : 0 ≤ n ∧ n < 10) (hqe : q ≠ ed) (hxq : x ≠ q) (hxe : x ≠ ed) : Met l yJx4a65c_add_72be8 (wq yJx4a65c_add_72be8 cJx4a65c_add_72be8 4 ((Option.none : Option Jvm.ClassFile.FieldType))) (rmM 0 0 0 0) (va_Pc [.ref (q), .ref (x), .ref (ed), .int (zI (n))] (zK G (fun H => hAL G q ed mc n H ∧ hEd G ed els H ∧ hIA G x H))) (zM (fun y => y = q ∨ y = ed) none (fun H => hAL G q ed mc (n + 1) H ∧ hEd G ed (up els n (some x)) H)) 0 0 (fun y => y = q ∨ y = ed) := by
  refine z_enterMV (by decide +kernel) (Nat.le_of_ble_eq_true rfl) ?_
  intro p env s m below meth cod Q S hnm hG hP hS ret ls hl
  have hl : lv_has ls 4 [(0, .ref (q)), (1, .ref (x)), (2, .ref (ed)), (3, .int (zI (n)))] := hl
  have hX := hP.2.2
  have hQ := hP.1
  have hD1 := hP.2.1
  refine z_iload_n S dJx4a65c_add_72be8_0 hl 3 rfl rfl ?_
  refine z_aload_n S dJx4a65c_add_72be8_1 hl 2 rfl rfl ?_
  refine z_alenO S hG hD1 dJx4a65c_add_72be8_2 ?_
  refine z_icmp_ne_T S 11 dJx4a65c_add_72be8_3 (by decide) (by omega) (by omega) (by omega) ?_
  obtain ⟨xN, xg, hx1⟩ := hX
  obtain ⟨xk, hx2⟩ := z_arrCls hG
  have hx1 : s.heap[x]? = some (vp_cell (G.2 0) (xN, .inl xg)) := hx1
  refine z_aload_n S dJx4a65c_add_72be8_11 hl 2 rfl rfl ?_
  refine z_iload_n S dJx4a65c_add_72be8_12 hl 3 rfl rfl ?_
  refine z_aload_n S dJx4a65c_add_72be8_13 hl 1 rfl rfl ?_
  refine z_aast S hG 2 rfl hD1 hS (Or.inr rfl) (C := "[I") hx1 (fun z h => by cases h) hx2 (zG_I hG) (vb_asgC (hG.2.1 _ _ qt6_168)) (i := n) (by omega) (by decide) dJx4a65c_add_72be8_14 (fun H_1 L_1 hat hz oq hS => ?_)
  have hD1 := hat
  have hQ := va_at.kept hQ (oq _ (by omega))
  refine z_aload_n S dJx4a65c_add_72be8_15 hl 0 rfl rfl ?_
  refine z_iload_n S dJx4a65c_add_72be8_16 hl 3 rfl rfl ?_
  refine z_iconst S dJx4a65c_add_72be8_17 ?_
  refine z_iadd S dJx4a65c_add_72be8_18 ?_
  refine z_putR S hG hQ zc_Jx4a65c tyJx4a65c tyJx4a65c_ok nmJx4a65c hS (Or.inl rfl) 2 (by decide) q4_214 rfl (tyJx4a65c_ok 2 (by decide)) rfl rfl (Nat.le_of_ble_eq_true rfl) dJx4a65c_add_72be8_19 (fun H_2 L_2 hat hz oq hS => ?_)
  have hD1 := va_at.kept hD1 (oq _ (show q ≠ ed by omega).symm)
  have hQ := hat
  exact ret _ _ _ _ _ _ dJx4a65c_add_72be8_22 hS (⟨hQ, hD1⟩) (Nat.le_of_ble_eq_true rfl) (Nat.le_of_ble_eq_true rfl)
set_option maxHeartbeats 4000000 in
set_option maxRecDepth 100000 in
theorem c_alAdd2 (l : Launch) (G : zG) (q ed x : Nat) (mc : Int32) (n : Int) (els : Int → Option Nat) (hn : 0 ≤ n ∧ n < 10) (hqe : q ≠ ed) (hxq : x ≠ q) (hxe : x ≠ ed) : Met l yJx4a65c_add_9ea2d (wq yJx4a65c_add_9ea2d cJx4a65c_add_9ea2d 2 ((Option.some Jvm.ClassFile.FieldType.boolean))) (rmM 1 23 0 0) (va_Pc [.ref (q), .ref (x)] (zK G (fun H => hAL G q ed mc n H ∧ hEd G ed els H ∧ hIA G x H))) (zM (fun y => y = q ∨ y = ed) (some (.int (bI (true)))) (fun H => hAL G q ed (mc + zI 1) (n + 1) H ∧ hEd G ed (up els n (some x)) H)) 0 0 (fun y => y = q ∨ y = ed) := by
  refine z_enterMB (by decide +kernel) (Nat.le_of_ble_eq_true rfl) ?_
  intro p env s m below meth cod Q S hG hP hS ret ls hl
  have hl : lv_has ls 2 [(0, .ref (q)), (1, .ref (x))] := hl
  have hX := hP.2.2
  have hQ := hP.1
  have hD1 := hP.2.1
  refine z_aload_n S dJx4a65c_add_9ea2d_0 hl 0 rfl rfl ?_
  refine z_dup S dJx4a65c_add_9ea2d_1 rfl ?_
  refine z_getI S hG hQ zc_Jx4a65c 0 (by decide) q4_218 q4_217 rfl dJx4a65c_add_9ea2d_2 ?_
  refine z_iconst S dJx4a65c_add_9ea2d_5 ?_
  refine lv_iadd S.1 S.2.1 dJx4a65c_add_9ea2d_6 ?_
  refine z_putI S hG hQ zc_Jx4a65c _ (zty_Jx4a65c) (znm_Jx4a65c) hS (Or.inl rfl) 0 (by decide) q4_218 q4_217 rfl rfl rfl rfl (Nat.le_of_ble_eq_true rfl) dJx4a65c_add_9ea2d_7 (fun H_1 L_1 hat hz oq hS => ?_)
  have hX := hIA.kept hX (fun _ => oq _ (show q ≠ x by omega).symm)
  have hD1 := va_at.kept hD1 (oq _ (show q ≠ ed by omega).symm)
  have hQ := hat
  refine z_aload_n S dJx4a65c_add_9ea2d_10 hl 0 rfl rfl ?_
  refine z_aload_n S dJx4a65c_add_9ea2d_11 hl 1 rfl rfl ?_
  refine z_aload_n S dJx4a65c_add_9ea2d_12 hl 0 rfl rfl ?_
  refine z_get S hG hQ zc_Jx4a65c 1 (by decide) q4_211 rfl rfl dJx4a65c_add_9ea2d_13 ?_
  refine z_aload_n S dJx4a65c_add_9ea2d_16 hl 0 rfl rfl ?_
  refine z_get S hG hQ zc_Jx4a65c 2 (by decide) q4_214 rfl rfl dJx4a65c_add_9ea2d_17 ?_
  refine z_callM S hG hS (c_alAddA2 l G q ed x (mc + zI 1) n els hn hqe hxq hxe) (fun _ h => h) ok_Jx4a65c_add_72be8 hQ zc_Jx4a65c rfl q5_69 (⟨hQ, hD1, hX⟩) ⟨rfl, rfl, by decide, by decide⟩ ⟨Nat.le_of_ble_eq_true rfl, Nat.le_of_ble_eq_true rfl⟩ rfl (Nat.le_of_ble_eq_true rfl) hl.1 rfl dJx4a65c_add_9ea2d_20 (fun H_2 L_2 hB hz oq hS => ?_)
  refine z_iconst S dJx4a65c_add_9ea2d_23 ?_
  exact ret _ _ _ _ _ _ _ dJx4a65c_add_9ea2d_24 (rfl) hS (hB) (Nat.le_of_ble_eq_true rfl) (Nat.le_of_ble_eq_true rfl)
theorem dJx35411_init_45d68_0 : decode cJx35411_init_45d68 0 = .ok (.aload_n 0, 1) := by decide +kernel
theorem dJx35411_init_45d68_1 : decode cJx35411_init_45d68 1 = .ok (.aload_n 1, 1) := by decide +kernel
theorem dJx35411_init_45d68_2 : decode cJx35411_init_45d68 2 = .ok (.putfield 1, 3) := by decide +kernel
theorem dJx35411_init_45d68_5 : decode cJx35411_init_45d68 5 = .ok (.aload_n 0, 1) := by decide +kernel
theorem dJx35411_init_45d68_6 : decode cJx35411_init_45d68 6 = .ok (.invokespecial 7, 3) := by decide +kernel
theorem dJx35411_init_45d68_9 : decode cJx35411_init_45d68 9 = .ok (.aload_n 0, 1) := by decide +kernel
theorem dJx35411_init_45d68_10 : decode cJx35411_init_45d68 10 = .ok (.iconst (-1), 1) := by decide +kernel
theorem dJx35411_init_45d68_11 : decode cJx35411_init_45d68 11 = .ok (.putfield 13, 3) := by decide +kernel
theorem dJx35411_init_45d68_14 : decode cJx35411_init_45d68 14 = .ok (.aload_n 0, 1) := by decide +kernel
theorem dJx35411_init_45d68_15 : decode cJx35411_init_45d68 15 = .ok (.aload_n 0, 1) := by decide +kernel
theorem dJx35411_init_45d68_16 : decode cJx35411_init_45d68 16 = .ok (.getfield 1, 3) := by decide +kernel
theorem dJx35411_init_45d68_19 : decode cJx35411_init_45d68 19 = .ok (.getfield 17, 3) := by decide +kernel
theorem dJx35411_init_45d68_22 : decode cJx35411_init_45d68 22 = .ok (.putfield 22, 3) := by decide +kernel
theorem dJx35411_init_45d68_25 : decode cJx35411_init_45d68 25 = .ok (.return_, 1) := by decide +kernel
theorem q6_42 : (Jvm.Cond.fieldLink "java/util/ArrayList$Itr" (1 : Nat) "java/util/ArrayList$Itr" "this$0" "Ljava/util/ArrayList;") ∈ lw_g := zg_of (zin6 (List.mem_of_getElem? (i := 42) rfl)) rfl
theorem q6_38 : (Jvm.Cond.methodLink "java/util/ArrayList$Itr" (7 : Nat) ({ cls := "java/lang/Object", name := "<init>", desc := "()V" } : Jvm.MethodName)) ∈ lw_g := zg_of (zin6 (List.mem_of_getElem? (i := 38) rfl)) rfl
theorem q6_40 : (Jvm.Cond.fieldLink "java/util/ArrayList$Itr" (13 : Nat) "java/util/ArrayList$Itr" "lastRet" "I") ∈ lw_g := zg_of (zin6 (List.mem_of_getElem? (i := 40) rfl)) rfl
theorem q4_216 : (Jvm.Cond.fieldLink "java/util/ArrayList$Itr" (17 : Nat) "java/util/ArrayList" "modCount" "I") ∈ lw_g := zg_of (zin4 (List.mem_of_getElem? (i := 216) rfl)) rfl
theorem q6_41 : (Jvm.Cond.fieldLink "java/util/ArrayList$Itr" (22 : Nat) "java/util/ArrayList$Itr" "expectedModCount" "I") ∈ lw_g := zg_of (zin6 (List.mem_of_getElem? (i := 41) rfl)) rfl
theorem q6_37 : (Jvm.Cond.code ({ cls := "java/util/ArrayList$Itr", name := "<init>", desc := "(Ljava/util/ArrayList;)V" } : Jvm.MethodName) prog_34_method_1_code (2 : Nat) (Option.none : Option Jvm.ClassFile.FieldType)) ∈ lw_g := zg_of (zin6 (List.mem_of_getElem? (i := 37) rfl)) rfl
theorem q1_24 : (Jvm.Cond.initialized "java/util/ArrayList$Itr") ∈ lw_g := zg_of (zin1 (List.mem_of_getElem? (i := 24) rfl)) rfl
theorem ok_Jx35411_init_45d68 : zOK yJx35411_init_45d68 cJx35411_init_45d68 2 ((Option.none : Option Jvm.ClassFile.FieldType)) 1 := ⟨q6_37, q1_24, by decide, by decide, by decide +kernel⟩
set_option maxHeartbeats 4000000 in
set_option maxRecDepth 100000 in
theorem c_itInit (l : Launch) (G : zG) (it q ed : Nat) (mc : Int32) (n : Int) (hiq : it ≠ q) : Met l yJx35411_init_45d68 (wq yJx35411_init_45d68 cJx35411_init_45d68 2 ((Option.none : Option Jvm.ClassFile.FieldType))) (rmM 1 20 0 0) (va_Pc [.ref (it), .ref (q)] (zK G (fun H => va_at G.1 vwCl (it, .inr (2, [.int 0, .int 0, .int 0, .null])) H ∧ hAL G q ed mc n H))) (zM (fun y => y = it) none (fun H => hIt G it q 0 (-1) mc H)) 0 0 (fun y => y = it) := by
  refine z_enterMV (by decide +kernel) (Nat.le_of_ble_eq_true rfl) ?_
  intro p env s m below meth cod Q S hnm hG hP hS ret ls hl
  have hl : lv_has ls 2 [(0, .ref (it)), (1, .ref (q))] := hl
  have hI := hP.1
  have hQ := hP.2
  refine z_aload_n S dJx35411_init_45d68_0 hl 0 rfl rfl ?_
  refine z_aload_n S dJx35411_init_45d68_1 hl 1 rfl rfl ?_
  refine z_putF S hG hI zc_Jx35411 tyJx35411 tyJx35411_ok nmJx35411 hS (rfl) 3 (by decide) q6_42 rfl hnm rfl (tyJx35411_ok 3 (by decide)) rfl rfl (Nat.le_of_ble_eq_true rfl) dJx35411_init_45d68_2 (fun H_1 L_1 hat hz oq hS => ?_)
  have hQ := va_at.kept hQ (oq _ (show it ≠ q by omega).symm)
  have hI := hat
  refine z_aload_n S dJx35411_init_45d68_5 hl 0 rfl rfl ?_
  refine z_objInit S hl.1 q6_38 q1_36 (by exact q1_37) dJx35411_init_45d68_6 (Nat.le_of_ble_eq_true rfl) (Nat.le_of_ble_eq_true rfl) ?_
  refine z_aload_n S dJx35411_init_45d68_9 hl 0 rfl rfl ?_
  refine z_iconst S dJx35411_init_45d68_10 ?_
  refine z_putR S hG hI zc_Jx35411 tyJx35411 tyJx35411_ok nmJx35411 hS (rfl) 1 (by decide) q6_40 rfl (tyJx35411_ok 1 (by decide)) rfl rfl (Nat.le_of_ble_eq_true rfl) dJx35411_init_45d68_11 (fun H_2 L_2 hat hz oq hS => ?_)
  have hQ := va_at.kept hQ (oq _ (show it ≠ q by omega).symm)
  have hI := hat
  refine z_aload_n S dJx35411_init_45d68_14 hl 0 rfl rfl ?_
  refine z_aload_n S dJx35411_init_45d68_15 hl 0 rfl rfl ?_
  refine z_get S hG hI zc_Jx35411 3 (by decide) q6_42 rfl rfl dJx35411_init_45d68_16 ?_
  refine z_getI S hG hQ zc_Jx4a65c 0 (by decide) q4_216 q4_217 rfl dJx35411_init_45d68_19 ?_
  refine z_putR S hG hI zc_Jx35411 tyJx35411 tyJx35411_ok nmJx35411 hS (rfl) 2 (by decide) q6_41 rfl (tyJx35411_ok 2 (by decide)) rfl rfl (Nat.le_of_ble_eq_true rfl) dJx35411_init_45d68_22 (fun H_3 L_3 hat hz oq hS => ?_)
  have hQ := va_at.kept hQ (oq _ (show it ≠ q by omega).symm)
  have hI := hat
  exact ret _ _ _ _ _ _ dJx35411_init_45d68_25 hS (hI) (Nat.le_of_ble_eq_true rfl) (Nat.le_of_ble_eq_true rfl)
theorem dJx4a65c_iterator_32c93_0 : decode cJx4a65c_iterator_32c93 0 = .ok (.new 267, 3) := by decide +kernel
theorem dJx4a65c_iterator_32c93_3 : decode cJx4a65c_iterator_32c93 3 = .ok (.dup, 1) := by decide +kernel
theorem dJx4a65c_iterator_32c93_4 : decode cJx4a65c_iterator_32c93 4 = .ok (.aload_n 0, 1) := by decide +kernel
theorem dJx4a65c_iterator_32c93_5 : decode cJx4a65c_iterator_32c93 5 = .ok (.invokespecial 269, 3) := by decide +kernel
theorem dJx4a65c_iterator_32c93_8 : decode cJx4a65c_iterator_32c93 8 = .ok (.areturn, 1) := by decide +kernel
theorem q6_33 : (Jvm.Cond.classLink "java/util/ArrayList" (267 : Nat) "java/util/ArrayList$Itr") ∈ lw_g := zg_of (zin6 (List.mem_of_getElem? (i := 33) rfl)) rfl
theorem q6_34 : (Jvm.Cond.instantiable "java/util/ArrayList$Itr" (4 : Nat)) ∈ lw_g := zg_of (zin6 (List.mem_of_getElem? (i := 34) rfl)) rfl
theorem q6_36 : (Jvm.Cond.instanceMethod ({ cls := "java/util/ArrayList$Itr", name := "<init>", desc := "(Ljava/util/ArrayList;)V" } : Jvm.MethodName)) ∈ lw_g := zg_of (zin6 (List.mem_of_getElem? (i := 36) rfl)) rfl
theorem q6_35 : (Jvm.Cond.methodLink "java/util/ArrayList" (269 : Nat) ({ cls := "java/util/ArrayList$Itr", name := "<init>", desc := "(Ljava/util/ArrayList;)V" } : Jvm.MethodName)) ∈ lw_g := zg_of (zin6 (List.mem_of_getElem? (i := 35) rfl)) rfl
theorem q6_32 : (Jvm.Cond.code ({ cls := "java/util/ArrayList", name := "iterator", desc := "()Ljava/util/Iterator;" } : Jvm.MethodName) prog_33_method_55_code (1 : Nat) (Option.some (Jvm.ClassFile.FieldType.object "java/util/Iterator"))) ∈ lw_g := zg_of (zin6 (List.mem_of_getElem? (i := 32) rfl)) rfl
theorem q6_30 : (Jvm.Cond.instanceMethod ({ cls := "java/util/ArrayList", name := "iterator", desc := "()Ljava/util/Iterator;" } : Jvm.MethodName)) ∈ lw_g := zg_of (zin6 (List.mem_of_getElem? (i := 30) rfl)) rfl
theorem q6_31 : (Jvm.Cond.selects "java/util/ArrayList" ({ cls := "java/util/ArrayList", name := "iterator", desc := "()Ljava/util/Iterator;" } : Jvm.MethodName) ({ cls := "java/util/ArrayList", name := "iterator", desc := "()Ljava/util/Iterator;" } : Jvm.MethodName)) ∈ lw_g := zg_of (zin6 (List.mem_of_getElem? (i := 31) rfl)) rfl
theorem ok_Jx4a65c_iterator_32c93 : zOV yJx4a65c_iterator_32c93 cJx4a65c_iterator_32c93 1 ((Option.some (Jvm.ClassFile.FieldType.object "java/util/Iterator"))) 0 := ⟨⟨q6_32, q1_6, by decide, by decide, by decide +kernel⟩, q6_30, q6_31⟩
set_option maxHeartbeats 4000000 in
set_option maxRecDepth 100000 in
theorem c_alIter (l : Launch) (G : zG) (q ed sz : Nat) (mc : Int32) (n : Int) : Met l yJx4a65c_iterator_32c93 (wq yJx4a65c_iterator_32c93 cJx4a65c_iterator_32c93 1 ((Option.some (Jvm.ClassFile.FieldType.object "java/util/Iterator")))) (rmM 2 41 1 4) (va_Pc [.ref (q)] (zK G (fun H => hAL G q ed mc n H ∧ H.size = sz))) (zM (fun y => sz ≤ y) (some (.ref (sz))) (fun H => hIt G sz q 0 (-1) mc H)) 1 4 (fun y => sz ≤ y) := by
  refine z_enterMA (by decide +kernel) (Nat.le_of_ble_eq_true rfl) ?_
  intro p env s m below meth cod Q S hG hP hS ret ls hl
  have hl : lv_has ls 1 [(0, .ref (q))] := hl
  have hQ := hP.1
  refine z_newc S hG zc_Jx35411 tyJx35411 tyJx35411_ok q6_33 q6_34 q1_24 hS (fs := [.int 0, .int 0, .int 0, .null]) (fun j hj => by rcases (show j = 0 ∨ j = 1 ∨ j = 2 ∨ j = 3 by omega) with rfl | rfl | rfl | rfl <;> rfl) ⟨Nat.le_of_ble_eq_true rfl, Nat.le_of_ble_eq_true rfl⟩ dJx4a65c_iterator_32c93_0 (fun n1 H_1 hq_n1 hat hz oq hS => ?_)
  have lt_hQ_n1 : n1 > q := by rw [hq_n1]; exact va_lt hQ
  have hQ := va_at.kept hQ (oq _ (va_lt hQ))
  have h_n1 := hat
  refine z_dup S dJx4a65c_iterator_32c93_3 rfl ?_
  refine z_aload_n S dJx4a65c_iterator_32c93_4 hl 0 rfl rfl ?_
  have en1 : n1 = sz := hq_n1.trans hP.2
  refine z_callMI S hG hS (c_itInit l G n1 q ed mc n (by omega)) (fun y h => by show sz ≤ y; have h2 : y = n1 := h; omega) ok_Jx35411_init_45d68 q6_36 rfl q6_35 (⟨h_n1, hQ⟩) ⟨rfl, rfl, by decide, by decide⟩ ⟨Nat.le_of_ble_eq_true rfl, Nat.le_of_ble_eq_true rfl⟩ rfl (Nat.le_of_ble_eq_true rfl) hl.1 rfl dJx4a65c_iterator_32c93_5 (fun H_2 L_2 hB hz oq hS => ?_)
  subst en1
  exact ret _ _ _ _ _ _ dJx4a65c_iterator_32c93_8 hS (hB) (Nat.le_of_ble_eq_true rfl) (Nat.le_of_ble_eq_true rfl)
theorem dJx35411_hasNext_aae02_0 : decode cJx35411_hasNext_aae02 0 = .ok (.aload_n 0, 1) := by decide +kernel
theorem dJx35411_hasNext_aae02_1 : decode cJx35411_hasNext_aae02 1 = .ok (.getfield 25, 3) := by decide +kernel
theorem dJx35411_hasNext_aae02_4 : decode cJx35411_hasNext_aae02 4 = .ok (.aload_n 0, 1) := by decide +kernel
theorem dJx35411_hasNext_aae02_5 : decode cJx35411_hasNext_aae02 5 = .ok (.getfield 1, 3) := by decide +kernel
theorem dJx35411_hasNext_aae02_8 : decode cJx35411_hasNext_aae02 8 = .ok (.getfield 28, 3) := by decide +kernel
theorem dJx35411_hasNext_aae02_11 : decode cJx35411_hasNext_aae02 11 = .ok (.if_icmp .eq 7, 3) := by decide +kernel
theorem dJx35411_hasNext_aae02_14 : decode cJx35411_hasNext_aae02 14 = .ok (.iconst 1, 1) := by decide +kernel
theorem dJx35411_hasNext_aae02_15 : decode cJx35411_hasNext_aae02 15 = .ok (.goto 4, 3) := by decide +kernel
theorem dJx35411_hasNext_aae02_18 : decode cJx35411_hasNext_aae02 18 = .ok (.iconst 0, 1) := by decide +kernel
theorem dJx35411_hasNext_aae02_19 : decode cJx35411_hasNext_aae02 19 = .ok (.ireturn, 1) := by decide +kernel
theorem q6_39 : (Jvm.Cond.fieldLink "java/util/ArrayList$Itr" (25 : Nat) "java/util/ArrayList$Itr" "cursor" "I") ∈ lw_g := zg_of (zin6 (List.mem_of_getElem? (i := 39) rfl)) rfl
theorem qt4_213 : (Jvm.Cond.fieldLinkNest "java/util/ArrayList$Itr" (28 : Nat) "java/util/ArrayList" "size" "I" "java/util/ArrayList") ∈ lw_tbl := zin4 (List.mem_of_getElem? (i := 213) rfl)
theorem q6_61 : (Jvm.Cond.code ({ cls := "java/util/ArrayList$Itr", name := "hasNext", desc := "()Z" } : Jvm.MethodName) prog_34_method_2_code (1 : Nat) (Option.some Jvm.ClassFile.FieldType.boolean)) ∈ lw_g := zg_of (zin6 (List.mem_of_getElem? (i := 61) rfl)) rfl
theorem ok_Jx35411_hasNext_aae02 : zOK yJx35411_hasNext_aae02 cJx35411_hasNext_aae02 1 ((Option.some Jvm.ClassFile.FieldType.boolean)) 0 := ⟨q6_61, q1_24, by decide, by decide, by decide +kernel⟩
set_option maxHeartbeats 4000000 in
set_option maxRecDepth 100000 in
theorem c_itHas (l : Launch) (G : zG) (it q ed : Nat) (mc : Int32) (n cur lr : Int) (hc : 0 ≤ cur ∧ cur ≤ n ∧ n ≤ 10) : Met l yJx35411_hasNext_aae02 (wq yJx35411_hasNext_aae02 cJx35411_hasNext_aae02 1 ((Option.some Jvm.ClassFile.FieldType.boolean))) (rmM 0 0 0 0) (va_Pc [.ref (it)] (zK G (fun H => hIt G it q cur lr mc H ∧ hAL G q ed mc n H))) (zM (fun _ => False) (some (.int (bI (decide (¬ cur = n))))) (fun _ => True)) 0 0 (fun _ => False) := by
  refine z_enterMB (by decide +kernel) (Nat.le_of_ble_eq_true rfl) ?_
  intro p env s m below meth cod Q S hG hP hS ret ls hl
  have hl : lv_has ls 1 [(0, .ref (it))] := hl
  refine z_aload_n S dJx35411_hasNext_aae02_0 hl 0 rfl rfl ?_
  refine z_get S hG hP.1 zc_Jx35411 0 (by decide) q6_39 rfl rfl dJx35411_hasNext_aae02_1 ?_
  refine z_aload_n S dJx35411_hasNext_aae02_4 hl 0 rfl rfl ?_
  refine z_get S hG hP.1 zc_Jx35411 3 (by decide) q6_42 rfl rfl dJx35411_hasNext_aae02_5 ?_
  refine z_getN S hG hP.2 zc_Jx4a65c 2 (by decide) qt4_213 rfl rfl dJx35411_hasNext_aae02_8 ?_
  refine z_icmp_eq S 18 dJx35411_hasNext_aae02_11 (by decide) (by omega) (by omega) (fun c_11 => ?_) (fun c_11 => ?_)
  · skip
    refine z_iconst S dJx35411_hasNext_aae02_18 ?_
    exact ret _ _ _ _ _ _ _ dJx35411_hasNext_aae02_19 (by rw [decide_eq_false (fun z => z c_11)]; rfl) hS (trivial) (Nat.le_of_ble_eq_true rfl) (Nat.le_of_ble_eq_true rfl)
  · skip
    refine z_iconst S dJx35411_hasNext_aae02_14 ?_
    refine z_goto S 19 dJx35411_hasNext_aae02_15 (by decide) ?_
    exact ret _ _ _ _ _ _ _ dJx35411_hasNext_aae02_19 (by rw [decide_eq_true c_11]; rfl) hS (trivial) (Nat.le_of_ble_eq_true rfl) (Nat.le_of_ble_eq_true rfl)
theorem dJx35411_checkForComodification_da8c8_0 : decode cJx35411_checkForComodification_da8c8 0 = .ok (.aload_n 0, 1) := by decide +kernel
theorem dJx35411_checkForComodification_da8c8_1 : decode cJx35411_checkForComodification_da8c8 1 = .ok (.getfield 1, 3) := by decide +kernel
theorem dJx35411_checkForComodification_da8c8_4 : decode cJx35411_checkForComodification_da8c8 4 = .ok (.getfield 17, 3) := by decide +kernel
theorem dJx35411_checkForComodification_da8c8_7 : decode cJx35411_checkForComodification_da8c8 7 = .ok (.aload_n 0, 1) := by decide +kernel
theorem dJx35411_checkForComodification_da8c8_8 : decode cJx35411_checkForComodification_da8c8 8 = .ok (.getfield 22, 3) := by decide +kernel
theorem dJx35411_checkForComodification_da8c8_11 : decode cJx35411_checkForComodification_da8c8 11 = .ok (.if_icmp .eq 11, 3) := by decide +kernel
theorem dJx35411_checkForComodification_da8c8_14 : decode cJx35411_checkForComodification_da8c8 14 = .ok (.new 41, 3) := by decide +kernel
theorem dJx35411_checkForComodification_da8c8_17 : decode cJx35411_checkForComodification_da8c8 17 = .ok (.dup, 1) := by decide +kernel
theorem dJx35411_checkForComodification_da8c8_18 : decode cJx35411_checkForComodification_da8c8 18 = .ok (.invokespecial 43, 3) := by decide +kernel
theorem dJx35411_checkForComodification_da8c8_21 : decode cJx35411_checkForComodification_da8c8 21 = .ok (.athrow, 1) := by decide +kernel
theorem dJx35411_checkForComodification_da8c8_22 : decode cJx35411_checkForComodification_da8c8 22 = .ok (.return_, 1) := by decide +kernel
theorem q6_74 : (Jvm.Cond.code ({ cls := "java/util/ArrayList$Itr", name := "checkForComodification", desc := "()V" } : Jvm.MethodName) prog_34_method_6_code (1 : Nat) (Option.none : Option Jvm.ClassFile.FieldType)) ∈ lw_g := zg_of (zin6 (List.mem_of_getElem? (i := 74) rfl)) rfl
theorem q6_72 : (Jvm.Cond.instanceMethod ({ cls := "java/util/ArrayList$Itr", name := "checkForComodification", desc := "()V" } : Jvm.MethodName)) ∈ lw_g := zg_of (zin6 (List.mem_of_getElem? (i := 72) rfl)) rfl
theorem q6_73 : (Jvm.Cond.selects "java/util/ArrayList$Itr" ({ cls := "java/util/ArrayList$Itr", name := "checkForComodification", desc := "()V" } : Jvm.MethodName) ({ cls := "java/util/ArrayList$Itr", name := "checkForComodification", desc := "()V" } : Jvm.MethodName)) ∈ lw_g := zg_of (zin6 (List.mem_of_getElem? (i := 73) rfl)) rfl
theorem ok_Jx35411_checkForComodification_da8c8 : zOV yJx35411_checkForComodification_da8c8 cJx35411_checkForComodification_da8c8 1 ((Option.none : Option Jvm.ClassFile.FieldType)) 0 := ⟨⟨q6_74, q1_24, by decide, by decide, by decide +kernel⟩, q6_72, q6_73⟩
set_option maxHeartbeats 4000000 in
set_option maxRecDepth 100000 in
theorem c_itChk (l : Launch) (G : zG) (it q ed : Nat) (mc : Int32) (n cur lr : Int) : Met l yJx35411_checkForComodification_da8c8 (wq yJx35411_checkForComodification_da8c8 cJx35411_checkForComodification_da8c8 1 ((Option.none : Option Jvm.ClassFile.FieldType))) (rmM 0 0 0 0) (va_Pc [.ref (it)] (zK G (fun H => hIt G it q cur lr mc H ∧ hAL G q ed mc n H))) (zM (fun _ => False) none (fun _ => True)) 0 0 (fun _ => False) := by
  refine z_enterMV (by decide +kernel) (Nat.le_of_ble_eq_true rfl) ?_
  intro p env s m below meth cod Q S hnm hG hP hS ret ls hl
  have hl : lv_has ls 1 [(0, .ref (it))] := hl
  refine z_aload_n S dJx35411_checkForComodification_da8c8_0 hl 0 rfl rfl ?_
  refine z_get S hG hP.1 zc_Jx35411 3 (by decide) q6_42 rfl rfl dJx35411_checkForComodification_da8c8_1 ?_
  refine z_getI S hG hP.2 zc_Jx4a65c 0 (by decide) q4_216 q4_217 rfl dJx35411_checkForComodification_da8c8_4 ?_
  refine z_aload_n S dJx35411_checkForComodification_da8c8_7 hl 0 rfl rfl ?_
  refine z_get S hG hP.1 zc_Jx35411 2 (by decide) q6_41 rfl rfl dJx35411_checkForComodification_da8c8_8 ?_
  refine lv_icmp_eq (tgt := 22) S.1 S.2.1 dJx35411_checkForComodification_da8c8_11 (by decide) (fun c_11 => ?_) (fun c_11 => ?_)
  · skip
    exact ret _ _ _ _ _ _ dJx35411_checkForComodification_da8c8_22 hS (trivial) (Nat.le_of_ble_eq_true rfl) (Nat.le_of_ble_eq_true rfl)
  · skip
    exact absurd rfl c_11
theorem dJx35411_next_0502b_0 : decode cJx35411_next_0502b 0 = .ok (.aload_n 0, 1) := by decide +kernel
theorem dJx35411_next_0502b_1 : decode cJx35411_next_0502b 1 = .ok (.invokevirtual 31, 3) := by decide +kernel
theorem dJx35411_next_0502b_4 : decode cJx35411_next_0502b 4 = .ok (.aload_n 0, 1) := by decide +kernel
theorem dJx35411_next_0502b_5 : decode cJx35411_next_0502b 5 = .ok (.getfield 25, 3) := by decide +kernel
theorem dJx35411_next_0502b_8 : decode cJx35411_next_0502b 8 = .ok (.istore_n 1, 1) := by decide +kernel
theorem dJx35411_next_0502b_9 : decode cJx35411_next_0502b 9 = .ok (.iload_n 1, 1) := by decide +kernel
theorem dJx35411_next_0502b_10 : decode cJx35411_next_0502b 10 = .ok (.aload_n 0, 1) := by decide +kernel
theorem dJx35411_next_0502b_11 : decode cJx35411_next_0502b 11 = .ok (.getfield 1, 3) := by decide +kernel
theorem dJx35411_next_0502b_14 : decode cJx35411_next_0502b 14 = .ok (.getfield 28, 3) := by decide +kernel
theorem dJx35411_next_0502b_17 : decode cJx35411_next_0502b 17 = .ok (.if_icmp .lt 11, 3) := by decide +kernel
theorem dJx35411_next_0502b_20 : decode cJx35411_next_0502b 20 = .ok (.new 34, 3) := by decide +kernel
theorem dJx35411_next_0502b_23 : decode cJx35411_next_0502b 23 = .ok (.dup, 1) := by decide +kernel
theorem dJx35411_next_0502b_24 : decode cJx35411_next_0502b 24 = .ok (.invokespecial 36, 3) := by decide +kernel
theorem dJx35411_next_0502b_27 : decode cJx35411_next_0502b 27 = .ok (.athrow, 1) := by decide +kernel
theorem dJx35411_next_0502b_28 : decode cJx35411_next_0502b 28 = .ok (.aload_n 0, 1) := by decide +kernel
theorem dJx35411_next_0502b_29 : decode cJx35411_next_0502b 29 = .ok (.getfield 1, 3) := by decide +kernel
theorem dJx35411_next_0502b_32 : decode cJx35411_next_0502b 32 = .ok (.getfield 37, 3) := by decide +kernel
theorem dJx35411_next_0502b_35 : decode cJx35411_next_0502b 35 = .ok (.astore_n 2, 1) := by decide +kernel
theorem dJx35411_next_0502b_36 : decode cJx35411_next_0502b 36 = .ok (.iload_n 1, 1) := by decide +kernel
theorem dJx35411_next_0502b_37 : decode cJx35411_next_0502b 37 = .ok (.aload_n 2, 1) := by decide +kernel
theorem dJx35411_next_0502b_38 : decode cJx35411_next_0502b 38 = .ok (.arraylength, 1) := by decide +kernel
theorem dJx35411_next_0502b_39 : decode cJx35411_next_0502b 39 = .ok (.if_icmp .lt 11, 3) := by decide +kernel
theorem dJx35411_next_0502b_42 : decode cJx35411_next_0502b 42 = .ok (.new 41, 3) := by decide +kernel
theorem dJx35411_next_0502b_45 : decode cJx35411_next_0502b 45 = .ok (.dup, 1) := by decide +kernel
theorem dJx35411_next_0502b_46 : decode cJx35411_next_0502b 46 = .ok (.invokespecial 43, 3) := by decide +kernel
theorem dJx35411_next_0502b_49 : decode cJx35411_next_0502b 49 = .ok (.athrow, 1) := by decide +kernel
theorem dJx35411_next_0502b_50 : decode cJx35411_next_0502b 50 = .ok (.aload_n 0, 1) := by decide +kernel
theorem dJx35411_next_0502b_51 : decode cJx35411_next_0502b 51 = .ok (.iload_n 1, 1) := by decide +kernel
theorem dJx35411_next_0502b_52 : decode cJx35411_next_0502b 52 = .ok (.iconst 1, 1) := by decide +kernel
theorem dJx35411_next_0502b_53 : decode cJx35411_next_0502b 53 = .ok (.iadd, 1) := by decide +kernel
theorem dJx35411_next_0502b_54 : decode cJx35411_next_0502b 54 = .ok (.putfield 25, 3) := by decide +kernel
theorem dJx35411_next_0502b_57 : decode cJx35411_next_0502b 57 = .ok (.aload_n 2, 1) := by decide +kernel
theorem dJx35411_next_0502b_58 : decode cJx35411_next_0502b 58 = .ok (.aload_n 0, 1) := by decide +kernel
theorem dJx35411_next_0502b_59 : decode cJx35411_next_0502b 59 = .ok (.iload_n 1, 1) := by decide +kernel
theorem dJx35411_next_0502b_60 : decode cJx35411_next_0502b 60 = .ok (.dup_x1, 1) := by decide +kernel
theorem dJx35411_next_0502b_61 : decode cJx35411_next_0502b 61 = .ok (.putfield 13, 3) := by decide +kernel
theorem dJx35411_next_0502b_64 : decode cJx35411_next_0502b 64 = .ok (.aaload, 1) := by decide +kernel
theorem dJx35411_next_0502b_65 : decode cJx35411_next_0502b 65 = .ok (.areturn, 1) := by decide +kernel
theorem q6_71 : (Jvm.Cond.methodLink "java/util/ArrayList$Itr" (31 : Nat) ({ cls := "java/util/ArrayList$Itr", name := "checkForComodification", desc := "()V" } : Jvm.MethodName)) ∈ lw_g := zg_of (zin6 (List.mem_of_getElem? (i := 71) rfl)) rfl
theorem q4_212 : (Jvm.Cond.fieldLink "java/util/ArrayList$Itr" (37 : Nat) "java/util/ArrayList" "elementData" "[Ljava/lang/Object;") ∈ lw_g := zg_of (zin4 (List.mem_of_getElem? (i := 212) rfl)) rfl
theorem q6_70 : (Jvm.Cond.code ({ cls := "java/util/ArrayList$Itr", name := "next", desc := "()Ljava/lang/Object;" } : Jvm.MethodName) prog_34_method_3_code (3 : Nat) (Option.some (Jvm.ClassFile.FieldType.object "java/lang/Object"))) ∈ lw_g := zg_of (zin6 (List.mem_of_getElem? (i := 70) rfl)) rfl
theorem ok_Jx35411_next_0502b : zOK yJx35411_next_0502b cJx35411_next_0502b 3 ((Option.some (Jvm.ClassFile.FieldType.object "java/lang/Object"))) 0 := ⟨q6_70, q1_24, by decide, by decide, by decide +kernel⟩
set_option maxHeartbeats 4000000 in
set_option maxRecDepth 100000 in
theorem c_itNext (l : Launch) (G : zG) (it q ed : Nat) (mc : Int32) (n cur lr : Int) (els : Int → Option Nat) (x : Nat) (hx : els cur = some x) (hc : 0 ≤ cur ∧ cur < n ∧ n ≤ 10) (hiq : it ≠ q) (hie : it ≠ ed) : Met l yJx35411_next_0502b (wq yJx35411_next_0502b cJx35411_next_0502b 3 ((Option.some (Jvm.ClassFile.FieldType.object "java/lang/Object")))) (rmM 1 20 0 0) (va_Pc [.ref (it)] (zK G (fun H => hIt G it q cur lr mc H ∧ hAL G q ed mc n H ∧ hEd G ed els H))) (zM (fun y => y = it) (some (.ref (x))) (fun H => hIt G it q (cur + 1) cur mc H)) 0 0 (fun y => y = it) := by
  refine z_enterMA (by decide +kernel) (Nat.le_of_ble_eq_true rfl) ?_
  intro p env s m below meth cod Q S hG hP hS ret ls hl
  have hl : lv_has ls 3 [(0, .ref (it))] := hl
  have hI := hP.1
  have hQ := hP.2.1
  have hD1 := hP.2.2
  refine z_aload_n S dJx35411_next_0502b_0 hl 0 rfl rfl ?_
  refine z_callM S hG hS (c_itChk l G it q ed mc n cur lr) (fun _ h => h.elim) ok_Jx35411_checkForComodification_da8c8 hI zc_Jx35411 rfl q6_71 (⟨hI, hQ⟩) ⟨rfl, rfl, by decide, by decide⟩ ⟨Nat.le_of_ble_eq_true rfl, Nat.le_of_ble_eq_true rfl⟩ rfl (Nat.le_of_ble_eq_true rfl) hl.1 rfl dJx35411_next_0502b_1 (fun H_1 L_1 hB hz oq hS => ?_)
  have hI := va_at.kept hI (oq _ (va_lt hI) (fun z => z))
  have hQ := va_at.kept hQ (oq _ (va_lt hQ) (fun z => z))
  have hD1 := va_at.kept hD1 (oq _ (va_lt hD1) (fun z => z))
  refine z_aload_n S dJx35411_next_0502b_4 hl 0 rfl rfl ?_
  refine z_get S hG hI zc_Jx35411 0 (by decide) q6_39 rfl rfl dJx35411_next_0502b_5 ?_
  refine z_istore_n (lv' := [(1, .int (zI (cur))), (0, .ref (it))]) S dJx35411_next_0502b_8 hl rfl (by decide) rfl (fun ls hl => ?_)
  refine z_iload_n S dJx35411_next_0502b_9 hl 0 rfl rfl ?_
  refine z_aload_n S dJx35411_next_0502b_10 hl 1 rfl rfl ?_
  refine z_get S hG hI zc_Jx35411 3 (by decide) q6_42 rfl rfl dJx35411_next_0502b_11 ?_
  refine z_getN S hG hQ zc_Jx4a65c 2 (by decide) qt4_213 rfl rfl dJx35411_next_0502b_14 ?_
  refine z_icmp_lt_T S 28 dJx35411_next_0502b_17 (by decide) (by omega) (by omega) (by omega) ?_
  refine z_aload_n S dJx35411_next_0502b_28 hl 1 rfl rfl ?_
  refine z_get S hG hI zc_Jx35411 3 (by decide) q6_42 rfl rfl dJx35411_next_0502b_29 ?_
  refine z_get S hG hQ zc_Jx4a65c 1 (by decide) q4_212 rfl rfl dJx35411_next_0502b_32 ?_
  refine z_astore_n (lv' := [(2, .ref (ed)), (1, .int (zI (cur))), (0, .ref (it))]) S dJx35411_next_0502b_35 hl rfl (by decide) rfl (fun ls hl => ?_)
  refine z_iload_n S dJx35411_next_0502b_36 hl 1 rfl rfl ?_
  refine z_aload_n S dJx35411_next_0502b_37 hl 0 rfl rfl ?_
  refine z_alenO S hG hD1 dJx35411_next_0502b_38 ?_
  refine z_icmp_lt_T S 50 dJx35411_next_0502b_39 (by decide) (by omega) (by omega) (by omega) ?_
  refine z_aload_n S dJx35411_next_0502b_50 hl 2 rfl rfl ?_
  refine z_iload_n S dJx35411_next_0502b_51 hl 1 rfl rfl ?_
  refine z_iconst S dJx35411_next_0502b_52 ?_
  refine z_iadd S dJx35411_next_0502b_53 ?_
  refine z_putR S hG hI zc_Jx35411 tyJx35411 tyJx35411_ok nmJx35411 hS (rfl) 0 (by decide) q6_39 rfl (tyJx35411_ok 0 (by decide)) rfl rfl (Nat.le_of_ble_eq_true rfl) dJx35411_next_0502b_54 (fun H_2 L_2 hat hz oq hS => ?_)
  have hQ := va_at.kept hQ (oq _ (show it ≠ q by omega).symm)
  have hD1 := va_at.kept hD1 (oq _ (show it ≠ ed by omega).symm)
  have hI := hat
  refine z_aload_n S dJx35411_next_0502b_57 hl 0 rfl rfl ?_
  refine z_aload_n S dJx35411_next_0502b_58 hl 2 rfl rfl ?_
  refine z_iload_n S dJx35411_next_0502b_59 hl 1 rfl rfl ?_
  refine lv_dup_x1 S.1 S.2.1 dJx35411_next_0502b_60 rfl rfl ?_
  refine z_putR S hG hI zc_Jx35411 tyJx35411 tyJx35411_ok nmJx35411 hS (rfl) 1 (by decide) q6_40 rfl (tyJx35411_ok 1 (by decide)) rfl rfl (Nat.le_of_ble_eq_true rfl) dJx35411_next_0502b_61 (fun H_3 L_3 hat hz oq hS => ?_)
  have hQ := va_at.kept hQ (oq _ (show it ≠ q by omega).symm)
  have hD1 := va_at.kept hD1 (oq _ (show it ≠ ed by omega).symm)
  have hI := hat
  refine z_aaldO S hG hD1 (by omega) (by decide) dJx35411_next_0502b_64 ?_
  rw [hx]
  exact ret _ _ _ _ _ _ dJx35411_next_0502b_65 hS (hI) (Nat.le_of_ble_eq_true rfl) (Nat.le_of_ble_eq_true rfl)
