/-! ===== methods that write, or make cells ===== -/
/-- it answers v, B holds of the heap behind it, nothing old but what A names has changed -/
def zM (A : Nat → Prop) (v : Option Value) (B : Heap → Prop) : Array Value → State → Outcome → State → Prop := fun _ st o t => o = .returned v ∧ B t.heap ∧ st.heap.size ≤ t.heap.size ∧ ∀ q : Nat, q < st.heap.size → ¬ A q → t.heap[q]? = st.heap[q]?
abbrev rmM (f lo mc ms : Nat) : Room := { frames := f, cells := mc, slots := ms, locals := lo }
def zRM (R rm : Room) (maxL mc ms : Nat) : Prop := rm.cells = mc ∧ rm.slots = ms ∧ rm.frames + 1 ≤ R.frames ∧ 8 + (maxL + 11) + rm.locals ≤ R.locals
section ZW
variable {p : Program} {l : Launch} {e : Env} {R : Room} {s : State} {m : MethodId} {args : Array Value} {below : List Frame} {meth : Method} {c : Code} {H : Heap} {locs : List Loc} {cells slots : Nat} {Q : State → Prop}
variable {cc : ByteArray} {nL : Nat} {own : String} {pc : Nat} {ls : Array Slot} {rest : List Value} {G : zG} {A : Nat → Prop} {H0 : Heap}
theorem z_putG (S : CallFix p m c cc nL s args lw_g own) (hG : zKn G s) {a ci : Nat} {fs : List Value} (hat : va_at G.1 vwCl (a, .inr (ci, fs)) H) {C : String} {T : u_T} {N index : Nat} (hC : zCl ci C T N) (ty0 : Nat → FieldType) (hty : ∀ k, k < N → parseFieldDescriptor (T k).2.2.1 = some (ty0 k)) (hnm : ∀ a, a < N → ∀ b, b < N → a ≠ b → (T a).2.1 ≠ (T b).2.1) (hS0 : va_S A H0 H locs) (ha : A a) (k : Nat) (hk : k < N) (hl : Cond.fieldLink own index C (T k).2.1 (T k).2.2.1 ∈ lw_g) (hsm : ∀ x, s.fieldFound? (T k).1 (T k).2.1 (T k).2.2.1 = some x → s.fieldFound? C (T k).2.1 (T k).2.2.1 = some x) (hfin : (T k).2.2.2 = false) {ty : FieldType} {v : Value} (hd : parseFieldDescriptor (T k).2.2.1 = some ty) (hn : narrow ty v = v) (hfit : fits ty v = true) (hlen : k < fs.length)
    (d : decode cc pc = .ok (.putfield index, 3)) (kk : ∀ (H1 : Heap) (locs1 : List Loc), va_at G.1 vwCl (a, .inr (ci, fs.set k v)) H1 → H1.size = H.size → (∀ q : Nat, q ≠ a → H1[q]? = H[q]?) → va_S A H0 H1 locs1 → W p l e R s m args below meth c H1 locs1 cells slots Q (F0 m (pc + 3) ls rest)) : W p l e R s m args below meth c H locs cells slots Q (F0 m pc ls (v :: .ref a :: rest)) := by
  have hts := S.2.2.2.2
  have hap := va_apart (own := own) hts hC.2 ty0 hty hnm hG.1 hC.1
  obtain ⟨r, h1, cell, q1, q2, q3, q4⟩ := hat
  have hr : r = (C, T, N) := Option.some.inj (h1.symm.trans hC.1)
  subst hr
  obtain ⟨hS, hfc, kC, hkC, hkind⟩ := hG.1.1 ci _ hC.1
  obtain ⟨cf, kf, fi, f, hi, hsl⟩ := hS k hk
  have hlay := hts _ (hC.2 _ (u_in_lay hk))
  unfold u_lay at hlay
  rw [if_neg (by rw [hfin]; decide)] at hlay
  have hst := (u_facts hfc hkC (u_lays hts hC.2 hk) hi).1
  have h6 := u_store hfc hkC hkind hlay hi hd hn hfit
  have hi2 : s.fieldFound? C (T k).2.1 (T k).2.2.1 = some (cf, kf, fi, f) := hsm _ hi
  refine W.putK S.1 S.2.1 (f := f) ⟨S.2.2.2.1, hts _ hl, ⟨_, _, _, hi2⟩, hst⟩ (by rw [q2]; exact h6) q1 q3 (by rw [hsl]; exact k2_hasslot (q4 k hk)) rfl rfl d fun H' e1 e2 e3 => ?_
  rw [hsl] at e1 ⊢
  exact kk H' _ ⟨_, hC.1, t_OB.to (V := updV (vp_V fs) k v) ⟨_, e1, q2, q3, t_set q4 hap hk v⟩ (fun j _ => vp_updV_set hlen v j)⟩ e2 e3 (hS0.put e2 e3 ha)
theorem z_put (S : CallFix p m c cc nL s args lw_g own) (hG : zKn G s) {a ci : Nat} {fs : List Value} (hat : va_at G.1 vwCl (a, .inr (ci, fs)) H) {C : String} {T : u_T} {N index : Nat} (hC : zCl ci C T N) (ty0 : Nat → FieldType) (hty : ∀ k, k < N → parseFieldDescriptor (T k).2.2.1 = some (ty0 k)) (hnm : ∀ a, a < N → ∀ b, b < N → a ≠ b → (T a).2.1 ≠ (T b).2.1) (hS0 : va_S A H0 H locs) (ha : A a) (k : Nat) (hk : k < N) (hl : Cond.fieldLink own index C (T k).2.1 (T k).2.2.1 ∈ lw_g) (hsm : (T k).1 = C) (hfin : (T k).2.2.2 = false) {ty : FieldType} {v : Value} (hd : parseFieldDescriptor (T k).2.2.1 = some ty) (hn : narrow ty v = v) (hfit : fits ty v = true) (hlen : k < fs.length)
    (d : decode cc pc = .ok (.putfield index, 3)) (kk : ∀ (H1 : Heap) (locs1 : List Loc), va_at G.1 vwCl (a, .inr (ci, fs.set k v)) H1 → H1.size = H.size → (∀ q : Nat, q ≠ a → H1[q]? = H[q]?) → va_S A H0 H1 locs1 → W p l e R s m args below meth c H1 locs1 cells slots Q (F0 m (pc + 3) ls rest)) : W p l e R s m args below meth c H locs cells slots Q (F0 m pc ls (v :: .ref a :: rest)) :=
  z_putG S hG hat hC ty0 hty hnm hS0 ha k hk hl (fun x h => by rw [← hsm]; exact h) hfin hd hn hfit hlen d kk
theorem z_putI (S : CallFix p m c cc nL s args lw_g own) (hG : zKn G s) {a ci : Nat} {fs : List Value} (hat : va_at G.1 vwCl (a, .inr (ci, fs)) H) {C : String} {T : u_T} {N index : Nat} (hC : zCl ci C T N) (ty0 : Nat → FieldType) (hty : ∀ k, k < N → parseFieldDescriptor (T k).2.2.1 = some (ty0 k)) (hnm : ∀ a, a < N → ∀ b, b < N → a ≠ b → (T a).2.1 ≠ (T b).2.1) (hS0 : va_S A H0 H locs) (ha : A a) (k : Nat) (hk : k < N) (hl : Cond.fieldLink own index C (T k).2.1 (T k).2.2.1 ∈ lw_g) (hsm : Cond.sameField C (T k).1 (T k).2.1 (T k).2.2.1 ∈ lw_g) (hfin : (T k).2.2.2 = false) {ty : FieldType} {v : Value} (hd : parseFieldDescriptor (T k).2.2.1 = some ty) (hn : narrow ty v = v) (hfit : fits ty v = true) (hlen : k < fs.length)
    (d : decode cc pc = .ok (.putfield index, 3)) (kk : ∀ (H1 : Heap) (locs1 : List Loc), va_at G.1 vwCl (a, .inr (ci, fs.set k v)) H1 → H1.size = H.size → (∀ q : Nat, q ≠ a → H1[q]? = H[q]?) → va_S A H0 H1 locs1 → W p l e R s m args below meth c H1 locs1 cells slots Q (F0 m (pc + 3) ls rest)) : W p l e R s m args below meth c H locs cells slots Q (F0 m pc ls (v :: .ref a :: rest)) :=
  z_putG S hG hat hC ty0 hty hnm hS0 ha k hk hl (fun x h => u_same (S.2.2.2.2 _ hsm) x h) hfin hd hn hfit hlen d kk
theorem z_getI (S : CallFix p m c cc nL s args lw_g own) (hG : zKn G s) {a ci : Nat} {fs : List Value} (hat : va_at G.1 vwCl (a, .inr (ci, fs)) H) {C : String} {T : u_T} {N index : Nat} (hC : zCl ci C T N) (k : Nat) (hk : k < N) (hl : Cond.fieldLink own index C (T k).2.1 (T k).2.2.1 ∈ lw_g) (hs : Cond.sameField C (T k).1 (T k).2.1 (T k).2.2.1 ∈ lw_g) {v : Value} (hv : fs[k]? = some v) (d : decode cc pc = .ok (.getfield index, 3)) (kk : W p l e R s m args below meth c H locs cells slots Q (F0 m (pc + 3) ls (v :: rest))) : W p l e R s m args below meth c H locs cells slots Q (F0 m pc ls (.ref a :: rest)) :=
  va_get (ws := [(a, .inr (ci, fs))]) S.1 S.2.1 S.2.2.2.2 hC.2 S.2.2.2.1 hG.1 (va_one hat) 0 rfl hC.1 k hk (S.2.2.2.2 _ hl) (fun x h => u_same (S.2.2.2.2 _ hs) x h) hv d kk
theorem z_iastK (S : CallFix p m c cc nL s args lw_g own) (hG : zKn G s) {a n : Nat} {f : Nat → Int32} (hat : va_at G.1 vwCl (a, .inl (G.2 0, n, .inl f)) H) (hS : va_S A H0 H locs) (ha : A a) {i x : Int32} (hin : vp_in i n) (d : decode cc pc = .ok (.iastore, 1))
    (kk : ∀ (H1 : Heap) (locs1 : List Loc), va_at G.1 vwCl (a, .inl (G.2 0, n, .inl (upd f i.toNatClampNeg x))) H1 → H1.size = H.size → (∀ q : Nat, q ≠ a → H1[q]? = H[q]?) → va_S A H0 H1 locs1 → W p l e R s m args below meth c H1 locs1 cells slots Q (F0 m (pc + 1) ls rest)) : W p l e R s m args below meth c H locs cells slots Q (F0 m pc ls (.int x :: .int i :: .ref a :: rest)) := by
  refine W.iast S.1 S.2.1 hat ((hG.1.2 0 (G.2 0, .int) rfl).1 n (fun j => .int (f j))) (fun q => by cases q) (by show ¬ (i < 0 ∨ (arrV _ _ _).slots.size ≤ _); rw [arrV_size]; exact hin) rfl rfl d fun H1 e z oq => ?_
  refine kk H1 _ ?_ z oq (hS.put z oq ha)
  show H1[a]? = some (vp_cell _ _)
  rw [e]
  rw [show vp_cell (G.2 0, n, Sum.inl f).1 (G.2 0, n, Sum.inl f).2 = arrV (G.2 0) n (fun j => .int (f j)) from rfl, vp_cell_i, arrV_store]
  congr 2
  funext q
  by_cases hq : q = i.toNatClampNeg
  · subst hq
    simp [updV, upd]
  · simp [updV, upd, hq]
theorem z_iast (S : CallFix p m c cc nL s args lw_g own) (hG : zKn G s) {a n : Nat} {g : Int → Int32} (hat : va_at G.1 vwCl (a, .inl (G.2 0, n, .inl (zA g))) H) (hS : va_S A H0 H locs) (ha : A a) {i : Int} {x : Int32} (hi : 0 ≤ i ∧ i < n) (hn : n < 2147483648) (d : decode cc pc = .ok (.iastore, 1))
    (kk : ∀ (H1 : Heap) (locs1 : List Loc), va_at G.1 vwCl (a, .inl (G.2 0, n, .inl (zA (up g i x)))) H1 → H1.size = H.size → (∀ q : Nat, q ≠ a → H1[q]? = H[q]?) → va_S A H0 H1 locs1 → W p l e R s m args below meth c H1 locs1 cells slots Q (F0 m (pc + 1) ls rest)) : W p l e R s m args below meth c H locs cells slots Q (F0 m pc ls (.int x :: .int (zI i) :: .ref a :: rest)) :=
  z_iastK S hG hat hS ha (zI_in hi hn) d (fun H1 locs1 h1 h2 h3 h4 => kk H1 locs1 (by rw [← zA_up (by omega)]; exact h1) h2 h3 h4)
theorem z_iastB (S : CallFix p m c cc nL s args lw_g own) (hG : zKn G s) {a n : Nat} {g : Int → Int} (hat : va_at G.1 vwCl (a, .inl (G.2 0, n, .inl (zB g))) H) (hS : va_S A H0 H locs) (ha : A a) {i x : Int} (hi : 0 ≤ i ∧ i < n) (hn : n < 2147483648) (d : decode cc pc = .ok (.iastore, 1))
    (kk : ∀ (H1 : Heap) (locs1 : List Loc), va_at G.1 vwCl (a, .inl (G.2 0, n, .inl (zB (up g i x)))) H1 → H1.size = H.size → (∀ q : Nat, q ≠ a → H1[q]? = H[q]?) → va_S A H0 H1 locs1 → W p l e R s m args below meth c H1 locs1 cells slots Q (F0 m (pc + 1) ls rest)) : W p l e R s m args below meth c H locs cells slots Q (F0 m pc ls (.int (zI x) :: .int (zI i) :: .ref a :: rest)) :=
  z_iastK S hG hat hS ha (zI_in hi hn) d (fun H1 locs1 h1 h2 h3 h4 => kk H1 locs1 (by rw [← zB_up (by omega)]; exact h1) h2 h3 h4)
/-- the end of a call of a method that writes -/
theorem z_mend {v : Option Value} {B : Heap → Prop} {A1 : Nat → Prop} {mc ms : Nat} {a : Array Value} {st0 : List Value} (hr : va_Run p l e R s m args below meth c H locs cells slots mc ms (F0 m pc ls st0) rest (zM A1 v B a) A1) (hS : va_S A H0 H locs) (hA : ∀ q, A1 q → A q)
    (kk : ∀ (H1 : Heap) (locs1 : List Loc), B H1 → H.size ≤ H1.size → (∀ q : Nat, q < H.size → ¬ A1 q → H1[q]? = H[q]?) → va_S A H0 H1 locs1 → W p l e R s m args below meth c H1 locs1 (cells + mc) (slots + ms) Q (F0 m (pc + 3) ls (v.toList ++ rest))) : W p l e R s m args below meth c H locs cells slots Q (F0 m pc ls st0) := by
  intro T hT X
  obtain ⟨v', st₀, t, T', L, h0, X', hL, e1, e2, ⟨hv, hb, hz, hk⟩, st⟩ := hr T hT X
  cases hv
  rw [h0] at hz hk
  obtain ⟨t2, a1, b1⟩ := kk T'.heap (locs ++ L) (by rw [e1]; exact hb) (by rw [e1]; exact hz) (fun q h1 h2 => by rw [e1]; exact hk q h1 h2)
    ⟨Nat.le_trans hS.1 (by rw [e1]; exact hz), fun q h1 h2 => by rw [e1, hk q (Nat.lt_of_lt_of_le h1 hS.1) (fun z => h2 (hA q z))]; exact hS.2.1 q h1 h2, fun q hq => by
      rcases List.mem_append.mp hq with h | h
      · exact hS.2.2 q h
      · exact hA _ (hL q h)⟩ T' rfl X'
  exact ⟨t2, st t2 a1, b1⟩
theorem z_cbM (S : CallFix p m c cc nL s args lw_g own) {y : MethodName} {bytes : ByteArray} {maxL na index mc ms : Nat} {ret : Option FieldType} {rm : Room} (hY : zOK y bytes maxL ret na) (hl : Cond.methodLink own index y ∈ lw_g) (hR : zRM R rm maxL mc ms) : CallB R s args own index y bytes maxL ret (wq y bytes maxL ret) rm mc ms na :=
  callB_of na S.2.2.2.2 (zgood_wq hY.1) rfl hR.1 hR.2.1 (S.2.2.2.2 _ hY.2.1) (S.2.2.2.2 _ hl) hY.2.2 ⟨hR.2.2.1, hR.2.2.2⟩
theorem z_callM (S : CallFix p m c cc nL s args lw_g own) (hG : zKn G s) (hS : va_S A H0 H locs) {y : MethodName} {bytes : ByteArray} {maxL na index mc ms : Nat} {ret : Option FieldType} {rm : Room} {P B : Heap → Prop} {A1 : Nat → Prop} {v : Option Value} {As st : List Value} {b ci N : Nat} {fs : List Value} {C : String} {T : u_T} (hM : Met l y (wq y bytes maxL ret) rm (va_Pc (.ref b :: As) (zK G P)) (zM A1 v B) mc ms A1) (hA : ∀ q, A1 q → A q) (hY : zOV y bytes maxL ret na) (hat : va_at G.1 vwCl (b, .inr (ci, fs)) H) (hC : zCl ci C T N) (hc : y.cls = C) (hl : Cond.methodLink own index y ∈ lw_g) (hP : P H) (hR : zRM R rm maxL mc ms) (hcs : cells + mc ≤ R.cells ∧ slots + ms ≤ R.slots) (hn : As.length = na) (hrest : (rest.map fun v => v.category).sum ≤ 8) (hlz : ls.size = nL) (hst : st = As.reverse ++ .ref b :: rest) (d : decode cc pc = .ok (.invokevirtual index, 3))
    (kk : ∀ (H1 : Heap) (locs1 : List Loc), B H1 → H.size ≤ H1.size → (∀ q : Nat, q < H.size → ¬ A1 q → H1[q]? = H[q]?) → va_S A H0 H1 locs1 → W p l e R s m args below meth c H1 locs1 (cells + mc) (slots + ms) Q (F0 m (pc + 3) ls (v.toList ++ rest))) : W p l e R s m args below meth c H locs cells slots Q (F0 m pc ls st) := by
  subst hc
  exact z_mend (va_runV S hM (C := y.cls) ⟨z_cbM S hY.1 hl hR, S.2.2.2.2 _ hY.2.1, S.2.2.2.2 _ hY.2.2⟩ ⟨z_blind, va_recv hG.1 (va_one hat) hC.1 (q0 := 0) rfl, fun U hU hW => ⟨rfl, by rw [hU]; exact hP, zKn.moved hW hG⟩⟩ rfl hn hlz hst (lv_room hrest) d hcs) hS hA kk
theorem z_callMI (S : CallFix p m c cc nL s args lw_g own) (hG : zKn G s) (hS : va_S A H0 H locs) {y : MethodName} {bytes : ByteArray} {maxL na index mc ms : Nat} {rm : Room} {P B : Heap → Prop} {A1 : Nat → Prop} {v : Option Value} {As st : List Value} {b : Nat} (hM : Met l y (wq y bytes maxL none) rm (va_Pc (.ref b :: As) (zK G P)) (zM A1 v B) mc ms A1) (hA : ∀ q, A1 q → A q) (hY : zOK y bytes maxL none na) (hin : Cond.instanceMethod y ∈ lw_g) (hy1 : y.name = "<init>") (hl : Cond.methodLink own index y ∈ lw_g) (hP : P H) (hR : zRM R rm maxL mc ms) (hcs : cells + mc ≤ R.cells ∧ slots + ms ≤ R.slots) (hn : As.length = na) (hrest : (rest.map fun v => v.category).sum ≤ 8) (hlz : ls.size = nL) (hst : st = As.reverse ++ .ref b :: rest) (d : decode cc pc = .ok (.invokespecial index, 3))
    (kk : ∀ (H1 : Heap) (locs1 : List Loc), B H1 → H.size ≤ H1.size → (∀ q : Nat, q < H.size → ¬ A1 q → H1[q]? = H[q]?) → va_S A H0 H1 locs1 → W p l e R s m args below meth c H1 locs1 (cells + mc) (slots + ms) Q (F0 m (pc + 3) ls (v.toList ++ rest))) : W p l e R s m args below meth c H locs cells slots Q (F0 m pc ls st) :=
  z_mend (va_runI S hM ⟨z_cbM S hY hl hR, hy1, S.2.2.2.2 _ hin⟩ ⟨z_blind, fun U hU hW => ⟨rfl, by rw [hU]; exact hP, zKn.moved hW hG⟩⟩ rfl hn hlz hst (lv_room hrest) d hcs) hS hA kk
end ZW
/-- entry of a method that writes: 'ret' is its end -/
theorem z_enterM {l : Launch} {y : MethodName} {cc : ByteArray} {maxL mc ms : Nat} {rt : Option FieldType} {rm : Room} {G : zG} {P B : Heap → Prop} {A : Nat → Prop} {v : Option Value} {av : List Value} (hy : plainName y.cls = true) (hav : (lg_sl av).length ≤ maxL)
    (body : ∀ (p : Program) (e : Env) (s : State) (m : MethodId) (below : List Frame) (meth : Method) (c : Code), CallFix p m c cc maxL s av.toArray lw_g y.cls → meth.sig.returnType = rt → meth.locks = false → meth.name = y.name → zKn G s → P s.heap → ∀ ls, lv_has ls maxL (lv_args 0 av) →
      W p l e rm s m av.toArray below meth c s.heap [] 0 0 (MQ below (zM A v B) av.toArray s mc ms A) (F0 m 0 ls [])) : Met l y (wq y cc maxL rt) rm (va_Pc av (zK G P)) (zM A v B) mc ms A := by
  refine Met.ofW (cc := cc) (maxL := maxL) (ret := rt) hy rfl ?_
  intro p e s m args below meth c s₁ B0 hml hv
  obtain ⟨rfl, hP, hG⟩ := hv
  have hl := lv_entry av (n := maxL) hav
  rw [lg_entry_eq]
  exact body p e s m below meth c ⟨B0.exec, B0.bytes, hml, findClass_of_methodNamed B0.named, fun w hw => atoms_spec B0.pre w (List.mem_cons_of_mem _ hw)⟩ B0.returns B0.notSynchronized (name_of_methodNamed B0.named B0.method).1 hG hP _ hl
theorem z_enterMI {l : Launch} {y : MethodName} {cc : ByteArray} {maxL mc ms : Nat} {rm : Room} {G : zG} {P B : Heap → Prop} {A : Nat → Prop} {E : Int32} {av : List Value} (hy : plainName y.cls = true) (hav : (lg_sl av).length ≤ maxL)
    (body : ∀ (p : Program) (e : Env) (s : State) (m : MethodId) (below : List Frame) (meth : Method) (c : Code) (Q : State → Prop), CallFix p m c cc maxL s av.toArray lw_g y.cls → zKn G s → P s.heap → va_S A s.heap s.heap [] →
      (∀ (pc : Nat) (ls : Array Slot) (x : Int32) (H : Heap) (locs : List Loc) (k n : Nat), decode cc pc = .ok (.ireturn, 1) → x = E → va_S A s.heap H locs → B H → k ≤ mc → n ≤ ms → W p l e rm s m av.toArray below meth c H locs k n Q (F0 m pc ls [.int x])) → ∀ ls, lv_has ls maxL (lv_args 0 av) →
      W p l e rm s m av.toArray below meth c s.heap [] 0 0 Q (F0 m 0 ls [])) : Met l y (wq y cc maxL (some .int)) rm (va_Pc av (zK G P)) (zM A (some (.int E)) B) mc ms A :=
  z_enterM hy hav fun p e s m below meth c S hr hlk _ hG hP ls hl => body p e s m below meth c _ S hG hP va_S.rf (fun pc ls x H locs k n d hx hS hB hk hn => by
    subst hx
    exact W.widen hk hn (W.iret S.1 S.2.1 hr (fun t ht _ => ⟨rfl, by rw [ht]; exact hB, (hS.F ht).1, (hS.F ht).2⟩) hS.2.2 d hlk)) ls hl
theorem z_enterMB {l : Launch} {y : MethodName} {cc : ByteArray} {maxL mc ms : Nat} {rm : Room} {G : zG} {P B : Heap → Prop} {A : Nat → Prop} {E : Bool} {av : List Value} (hy : plainName y.cls = true) (hav : (lg_sl av).length ≤ maxL)
    (body : ∀ (p : Program) (e : Env) (s : State) (m : MethodId) (below : List Frame) (meth : Method) (c : Code) (Q : State → Prop), CallFix p m c cc maxL s av.toArray lw_g y.cls → zKn G s → P s.heap → va_S A s.heap s.heap [] →
      (∀ (pc : Nat) (ls : Array Slot) (x : Int32) (H : Heap) (locs : List Loc) (k n : Nat), decode cc pc = .ok (.ireturn, 1) → x = bI E → va_S A s.heap H locs → B H → k ≤ mc → n ≤ ms → W p l e rm s m av.toArray below meth c H locs k n Q (F0 m pc ls [.int x])) → ∀ ls, lv_has ls maxL (lv_args 0 av) →
      W p l e rm s m av.toArray below meth c s.heap [] 0 0 Q (F0 m 0 ls [])) : Met l y (wq y cc maxL (some .boolean)) rm (va_Pc av (zK G P)) (zM A (some (.int (bI E))) B) mc ms A :=
  z_enterM hy hav fun p e s m below meth c S hr hlk _ hG hP ls hl => body p e s m below meth c _ S hG hP va_S.rf (fun pc ls x H locs k n d hx hS hB hk hn => by
    subst hx
    exact W.widen hk hn (W.zret S.1 S.2.1 hr (bI_nar E) (fun t ht _ => ⟨rfl, by rw [ht]; exact hB, (hS.F ht).1, (hS.F ht).2⟩) hS.2.2 d hlk)) ls hl
theorem z_enterMA {l : Launch} {y : MethodName} {cc : ByteArray} {maxL mc ms : Nat} {rm : Room} {G : zG} {P B : Heap → Prop} {A : Nat → Prop} {C : String} {E : Nat} {av : List Value} (hy : plainName y.cls = true) (hav : (lg_sl av).length ≤ maxL)
    (body : ∀ (p : Program) (e : Env) (s : State) (m : MethodId) (below : List Frame) (meth : Method) (c : Code) (Q : State → Prop), CallFix p m c cc maxL s av.toArray lw_g y.cls → zKn G s → P s.heap → va_S A s.heap s.heap [] →
      (∀ (pc : Nat) (ls : Array Slot) (H : Heap) (locs : List Loc) (k n : Nat), decode cc pc = .ok (.areturn, 1) → va_S A s.heap H locs → B H → k ≤ mc → n ≤ ms → W p l e rm s m av.toArray below meth c H locs k n Q (F0 m pc ls [.ref E])) → ∀ ls, lv_has ls maxL (lv_args 0 av) →
      W p l e rm s m av.toArray below meth c s.heap [] 0 0 Q (F0 m 0 ls [])) : Met l y (wq y cc maxL (some (.object C))) rm (va_Pc av (zK G P)) (zM A (some (.ref E)) B) mc ms A :=
  z_enterM hy hav fun p e s m below meth c S hr hlk _ hG hP ls hl => body p e s m below meth c _ S hG hP va_S.rf (fun pc ls H locs k n d hS hB hk hn => by
    exact W.widen hk hn (W.aret S.1 S.2.1 hr (Or.inl ⟨_, rfl⟩) (Or.inr ⟨_, rfl⟩) (fun t ht _ => ⟨rfl, by rw [ht]; exact hB, (hS.F ht).1, (hS.F ht).2⟩) hS.2.2 d hlk)) ls hl
theorem z_enterMV {l : Launch} {y : MethodName} {cc : ByteArray} {maxL mc ms : Nat} {rm : Room} {G : zG} {P B : Heap → Prop} {A : Nat → Prop} {av : List Value} (hy : plainName y.cls = true) (hav : (lg_sl av).length ≤ maxL)
    (body : ∀ (p : Program) (e : Env) (s : State) (m : MethodId) (below : List Frame) (meth : Method) (c : Code) (Q : State → Prop), CallFix p m c cc maxL s av.toArray lw_g y.cls → meth.name = y.name → zKn G s → P s.heap → va_S A s.heap s.heap [] →
      (∀ (pc : Nat) (ls : Array Slot) (H : Heap) (locs : List Loc) (k n : Nat), decode cc pc = .ok (.return_, 1) → va_S A s.heap H locs → B H → k ≤ mc → n ≤ ms → W p l e rm s m av.toArray below meth c H locs k n Q (F0 m pc ls [])) → ∀ ls, lv_has ls maxL (lv_args 0 av) →
      W p l e rm s m av.toArray below meth c s.heap [] 0 0 Q (F0 m 0 ls [])) : Met l y (wq y cc maxL none) rm (va_Pc av (zK G P)) (zM A none B) mc ms A :=
  z_enterM hy hav fun p e s m below meth c S hr hlk hnm hG hP ls hl => body p e s m below meth c _ S hnm hG hP va_S.rf (fun pc ls H locs k n d hS hB hk hn => by
    exact W.widen hk hn (W.vret S.1 S.2.1 hr (fun t ht _ => ⟨rfl, by rw [ht]; exact hB, (hS.F ht).1, (hS.F ht).2⟩) hS.2.2 d hlk)) ls hl
/-! cells by number -/
def cellsAt (G : zG) (a : Nat → Nat) (L : Nat → Prop) (E : Nat → va_E) (H : Heap) : Prop := ∀ i : Nat, L i → va_at G.1 vwCl (a i, E i) H
def upE (E : Nat → va_E) (i0 : Nat) (x : va_E) : Nat → va_E := fun i => if i = i0 then x else E i
def inj (a : Nat → Nat) (L : Nat → Prop) : Prop := ∀ i j : Nat, L i → L j → a i = a j → i = j
theorem cells_put {G : zG} {a : Nat → Nat} {L : Nat → Prop} {E : Nat → va_E} {H H1 : Heap} {i0 : Nat} {x : va_E} (h : cellsAt G a L E H) (hd : inj a L) (h0 : L i0) (hn : va_at G.1 vwCl (a i0, x) H1) (oq : ∀ q : Nat, q ≠ a i0 → H1[q]? = H[q]?) : cellsAt G a L (upE E i0 x) H1 := by
  intro i hi
  unfold upE
  by_cases q : i = i0
  · rw [if_pos q, q]; exact hn
  · rw [if_neg q]; exact (h i hi).kept (oq _ (fun z => q (hd i i0 hi h0 z)))
theorem cells_kept {G : zG} {a : Nat → Nat} {L : Nat → Prop} {E : Nat → va_E} {H H1 : Heap} (h : cellsAt G a L E H) (oq : ∀ i : Nat, L i → H1[a i]? = H[a i]?) : cellsAt G a L E H1 := fun i hi => (h i hi).kept (oq i hi)
theorem cells_to {G : zG} {a : Nat → Nat} {L L' : Nat → Prop} {E E' : Nat → va_E} {H : Heap} (h : cellsAt G a L E H) (hL : ∀ i, L' i → L i) (hE : ∀ i, L' i → E' i = E i) : cellsAt G a L' E' H := fun i hi => by rw [hE i hi]; exact h i (hL i hi)

theorem vS_comp {A : Nat → Prop} {H0 H H1 : Heap} {locs locs1 : List Loc} (h : va_S A H0 H locs) (g : va_S A H H1 locs1) : va_S A H0 H1 locs1 :=
  ⟨Nat.le_trans h.1 g.1, fun q h1 h2 => (g.2.1 q (Nat.lt_of_lt_of_le h1 h.1) h2).trans (h.2.1 q h1 h2), g.2.2⟩
theorem vS_self {A : Nat → Prop} {H0 H : Heap} {locs : List Loc} (h : va_S A H0 H locs) : va_S A H H locs := ⟨Nat.le_refl _, fun _ _ _ => rfl, h.2.2⟩
theorem va_two {D : va_G} {cl : List vw_C} {q r : Nat × va_E} {H : Heap} (h : va_at D cl q H) (g : va_at D cl r H) : va_P D cl [q, r] H := fun k x hk => by
  cases k with
  | zero => cases hk; exact h
  | succ k =>
    cases k with
    | zero => cases hk; exact g
    | succ k => simp at hk
theorem va_D2 {A : Nat → Prop} {a b : Nat} {x y : va_E} (h : a ≠ b) (ha : A a) (hb : A b) : va_D A [(a, x), (b, y)] := by
  refine ⟨fun i j p q hi hj e => ?_, fun k q hk => ?_⟩
  · cases i with
    | zero => cases j with
      | zero => rfl
      | succ j => cases j with
        | zero => cases hi; cases hj; exact absurd e h
        | succ j => simp at hj
    | succ i => cases i with
      | zero => cases j with
        | zero => cases hi; cases hj; exact absurd e.symm h
        | succ j => cases j with
          | zero => rfl
          | succ j => simp at hj
      | succ i => simp at hi
  · cases k with
    | zero => cases hk; exact ha
    | succ k => cases k with
      | zero => cases hk; exact hb
      | succ k => simp at hk
theorem arrV_cg (c : ClassId) {N : Nat} {f g : Nat → Value} (h : ∀ j : Nat, j < N → f j = g j) : arrV c N f = arrV c N g := by
  unfold arrV
  congr 1
  apply Array.ext
  · simp
  · intro i h1 h2
    simp at h1
    simpa using h i h1
theorem va_cgI {G : zG} {a : Nat} {n : Nat} {f g : Nat → Int32} {H : Heap} (h : ∀ j : Nat, j < n → f j = g j) (ha : va_at G.1 vwCl (a, .inl (G.2 0, n, .inl f)) H) : va_at G.1 vwCl (a, .inl (G.2 0, n, .inl g)) H := by
  have h1 : H[a]? = some (vp_cell (G.2 0) (n, .inl f)) := ha
  rw [vp_cell_i, arrV_cg (G.2 0) (f := fun j => .int (f j)) (g := fun j => .int (g j)) (fun j hj => by rw [h j hj])] at h1
  exact h1
theorem va_cgB {G : zG} {a : Nat} {n : Nat} {f g : Int → Int} {H : Heap} (h : ∀ j : Int, 0 ≤ j → j < n → f j = g j) (ha : va_at G.1 vwCl (a, .inl (G.2 0, n, .inl (zB f))) H) : va_at G.1 vwCl (a, .inl (G.2 0, n, .inl (zB g))) H :=
  va_cgI (fun j hj => by show zI (f j) = zI (g j); rw [h j (by omega) (by omega)]) ha
theorem va_cgA {G : zG} {a : Nat} {n : Nat} {f g : Int → Int32} {H : Heap} (h : ∀ j : Int, 0 ≤ j → j < n → f j = g j) (ha : va_at G.1 vwCl (a, .inl (G.2 0, n, .inl (zA f))) H) : va_at G.1 vwCl (a, .inl (G.2 0, n, .inl (zA g))) H :=
  va_cgI (fun j hj => by show f j = g j; rw [h j (by omega) (by omega)]) ha
theorem va_cgC {G : zG} {a n : Nat} {cl : ClassId} {f g : Int → Option Nat} {H : Heap} (h : ∀ j : Int, 0 ≤ j → j < n → f j = g j) (ha : va_at G.1 vwCl (a, .inl (cl, n, .inr (.inr (.inr (.inr (zC f)))))) H) : va_at G.1 vwCl (a, .inl (cl, n, .inr (.inr (.inr (.inr (zC g)))))) H := by
  have h1 : H[a]? = some (vp_cell cl (n, .inr (.inr (.inr (.inr (zC f)))))) := ha
  rw [vp_cell_q, arrV_cg cl (f := fun j => va_rf (zC f j)) (g := fun j => va_rf (zC g j)) (fun j hj => by show va_rf (f j) = va_rf (g j); rw [h j (by omega) (by omega)])] at h1
  exact h1
/-- part of an array of objects, one place down -/
def cpy {α : Type} (f : Int → α) (sp dp n : Int) : Int → α := fun j => if dp ≤ j ∧ j < dp + n then f (sp + (j - dp)) else f j
theorem zI_cl {i : Int} (h : 0 ≤ i ∧ i < 2147483648) : (zI i).toNatClampNeg = i.toNat := by
  show (zI i).toInt.toNat = _
  rw [zI_toInt (by omega)]
section ZC
variable {p : Program} {l : Launch} {e : Env} {R : Room} {s : State} {m : MethodId} {args : Array Value} {below : List Frame} {meth : Method} {c : Code} {H : Heap} {locs : List Loc} {cells slots : Nat} {Q : State → Prop}
variable {cc : ByteArray} {nL : Nat} {own : String} {pc : Nat} {ls : Array Slot} {rest : List Value} {G : zG} {A : Nat → Prop} {H0 : Heap}
theorem z_copyO (S : CallFix p m c cc nL s args lw_g own) (hG : zKn G s) {a b n0 index : Nat} {g : va_E} {f : Int → Option Nat} (hat : va_at G.1 vwCl (a, .inl (G.2 2, n0, .inr (.inr (.inr (.inr (zC f)))))) H) (hbt : va_at G.1 vwCl (b, g) H) (hab : a ≠ b) (hS : va_S A H0 H locs) (ha : A a) (hb : A b) {sp dp n : Int} (hi : 0 ≤ sp ∧ 0 ≤ dp ∧ 0 ≤ n ∧ sp + n ≤ n0 ∧ dp + n ≤ n0) (hn : n0 < 2147483648)
    (hel : ∀ i : Int, 0 ≤ i → i < n → ∀ y : Nat, f (sp + i) = some y → ∃ cell : Cell, H[y]? = some cell ∧ cell.vm.isStatics = false ∧ cell.cls = G.2 0) (hct : Cond.castable "[I" "java/lang/Object" ∈ lw_tbl) (hl : Cond.methodLink own index arraycopyName ∈ lw_g) (hw : Cond.native arraycopyName ∈ lw_g ∧ Cond.static arraycopyName ∈ lw_g ∧ Cond.initialized "java/lang/System" ∈ lw_g) (hlz : ls.size = nL) (hf : 1 ≤ R.frames) (hlo : (rest.map fun v => v.category).sum + (nativeFrameWords "java/lang/System" "arraycopy" 5 + 11) ≤ R.locals) (d : decode cc pc = .ok (.invokestatic index, 3))
    (kk : ∀ (H1 : Heap) (locs1 : List Loc), va_at G.1 vwCl (a, .inl (G.2 2, n0, .inr (.inr (.inr (.inr (zC (cpy f sp dp n))))))) H1 → va_at G.1 vwCl (b, g) H1 → H.size ≤ H1.size → (∀ q : Nat, q < H.size → ¬ A q → H1[q]? = H[q]?) → va_S A H0 H1 locs1 → W p l e R s m args below meth c H1 locs1 cells slots Q (F0 m (pc + 3) ls rest)) : W p l e R s m args below meth c H locs cells slots Q (F0 m pc ls (.int (zI n) :: .int (zI dp) :: .ref a :: .int (zI sp) :: .ref a :: rest)) := by
  have c1 := zI_cl (i := sp) (by omega)
  have c2 := zI_cl (i := dp) (by omega)
  have c3 := zI_cl (i := n) (by omega)
  have nl : ∀ z : Int, 0 ≤ z → z < 2147483648 → ¬ zI z < 0 := fun z h0 h1 q => by
    have := (zI_lt (a := z) (b := 0) (by constructor <;> omega) z0).mp q
    omega
  refine va_copyq (D := G.1) (cl := vwCl) (tys := zT G) (ws := [(a, .inl (G.2 2, n0, .inr (.inr (.inr (.inr (zC f)))))), (b, g)]) (A := A) (H0 := H) (E0 := "java/lang/Object") (E1 := "java/lang/Object") (C := "[I") S.1 S.2.1 (by rw [hlz]; exact S.2.2.1) S.2.2.2.1 (S.2.2.2.2 _ hl) (S.2.2.2.2 _ hw.1) (S.2.2.2.2 _ hw.2.1) (S.2.2.2.2 _ hw.2.2) hG.1 (va_two hat hbt) (va_D2 hab ha hb) (vS_self hS) 0 0 2 2 rfl rfl rfl rfl (nl sp hi.1 (by omega)) (nl dp hi.2.1 (by omega)) (nl n hi.2.2.1 (by omega)) (by rw [c1, c3]; omega) (by rw [c2, c3]; omega) ?_ (fun comp c0 h1 h2 => vb_asgC (hG.2.1 _ _ hct) comp c0 h1 h2) hf hlo d ?_
  · intro i h1 y hy
    rw [c3] at h1
    rw [c1] at hy
    obtain ⟨cell, g1, g2, g3⟩ := hel i (by omega) (by omega) y (by rw [← hy]; show f _ = f _; congr 1; omega)
    exact ⟨cell, g1, g2, by rw [g3]; exact zG_I hG⟩
  · intro H1 locs1 hP hD hS1
    refine kk H1 locs1 ?_ (hP 1 _ rfl) hS1.1 hS1.2.1 (vS_comp hS hS1)
    have h1 := hP 0 _ rfl
    refine va_cgC (f := fun j => va_cpy (zC f) (zC f) (zI sp).toNatClampNeg (zI dp).toNatClampNeg (zI n).toNatClampNeg j.toNat) (fun j j0 j1 => ?_) ?_
    · rw [c1, c2, c3]
      unfold va_cpy cpy zC
      by_cases q : dp ≤ j ∧ j < dp + n
      · rw [if_pos q, if_pos (by omega)]; congr 1; omega
      · rw [if_neg q, if_neg (by omega)]; congr 1; omega
    · have e : zC (fun j => va_cpy (zC f) (zC f) (zI sp).toNatClampNeg (zI dp).toNatClampNeg (zI n).toNatClampNeg j.toNat) = va_cpy (zC f) (zC f) (zI sp).toNatClampNeg (zI dp).toNatClampNeg (zI n).toNatClampNeg := rfl
      rw [e]; exact h1
theorem z_aastN (S : CallFix p m c cc nL s args lw_g own) (hG : zKn G s) {a b n0 : Nat} {g : va_E} {f : Int → Option Nat} (hat : va_at G.1 vwCl (a, .inl (G.2 2, n0, .inr (.inr (.inr (.inr (zC f)))))) H) (hbt : va_at G.1 vwCl (b, g) H) (hab : a ≠ b) (hS : va_S A H0 H locs) (ha : A a) (hb : A b) {i : Int} (hi : 0 ≤ i ∧ i < n0) (hn : n0 < 2147483648) (d : decode cc pc = .ok (.aastore, 1))
    (kk : ∀ (H1 : Heap) (locs1 : List Loc), va_at G.1 vwCl (a, .inl (G.2 2, n0, .inr (.inr (.inr (.inr (zC (up f i none))))))) H1 → va_at G.1 vwCl (b, g) H1 → H.size ≤ H1.size → (∀ q : Nat, q < H.size → ¬ A q → H1[q]? = H[q]?) → va_S A H0 H1 locs1 → W p l e R s m args below meth c H1 locs1 cells slots Q (F0 m (pc + 1) ls rest)) : W p l e R s m args below meth c H locs cells slots Q (F0 m pc ls (.null :: .int (zI i) :: .ref a :: rest)) := by
  refine va_astqN (D := G.1) (cl := vwCl) (tys := zT G) (ws := [(a, .inl (G.2 2, n0, .inr (.inr (.inr (.inr (zC f)))))), (b, g)]) (A := A) (H0 := H) S.1 S.2.1 hG.1 (va_two hat hbt) (va_D2 hab ha hb) (vS_self hS) 0 2 rfl rfl (zI_in hi hn) d ?_
  intro H1 locs1 hP hD hS1
  refine kk H1 locs1 ?_ (hP 1 _ rfl) hS1.1 hS1.2.1 (vS_comp hS hS1)
  have h1 := hP 0 _ rfl
  refine va_cgC (f := fun j => va_up (zC f) (zI i).toNatClampNeg none j.toNat) (fun j j0 j1 => ?_) h1
  rw [zI_cl (by omega)]
  unfold va_up up zC
  by_cases q : j = i
  · rw [if_pos q, if_pos (by omega)]
  · rw [if_neg q, if_neg (by omega)]; congr 1; omega
end ZC
