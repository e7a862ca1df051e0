/-! ===== cells that are made, statics, fields of other classes ===== -/
def zStH (G : zG) (i : Nat) (v : Value) (H : Heap) : Prop := ∃ cell : Cell, H[G.2 (100 + i)]? = some cell ∧ cell.vm.isStatics = true ∧ cell.cls = G.2 (300 + i) ∧ G.2 (200 + i) < cell.slots.size ∧ cell.slots[G.2 (200 + i)]? = some v
theorem zStH.kept {G : zG} {i : Nat} {v : Value} {H H1 : Heap} (h : zStH G i v H) (hq : ∀ q : Nat, q < H.size → q = G.2 (100 + i) → H1[q]? = H[q]?) : zStH G i v H1 := by
  obtain ⟨cell, h1, h2⟩ := h
  exact ⟨cell, by rw [hq _ (Array.getElem?_eq_some_iff.mp h1).1 rfl]; exact h1, h2⟩
/-- a row of bytes, whatever they are -/
def zBy (c : ClassId) (v n : Nat) (H : Heap) : Prop := ∃ cell : Cell, H[v]? = some cell ∧ (∀ k, cell.vm ≠ .statics k) ∧ cell.vm ≠ .unknown ∧ cell.cls = c ∧ cell.slots.size = n ∧ ∀ j : Nat, j < n → ∃ x : Int32, cell.slots[j]? = some (.int x) ∧ fits .byte (.int x) = true
theorem zBy.kept {c : ClassId} {v n : Nat} {H H1 : Heap} (h : zBy c v n H) (hq : v < H.size → H1[v]? = H[v]?) : zBy c v n H1 := by
  obtain ⟨cell, h1, h2⟩ := h
  exact ⟨cell, by rw [hq (Array.getElem?_eq_some_iff.mp h1).1]; exact h1, h2⟩
theorem zBy.lt {c : ClassId} {v n : Nat} {H : Heap} (h : zBy c v n H) : v < H.size := by
  obtain ⟨cell, h1, -⟩ := h
  exact (Array.getElem?_eq_some_iff.mp h1).1
section ZN
variable {p : Program} {l : Launch} {e : Env} {R : Room} {s : State} {m : MethodId} {args : Array Value} {below : List Frame} {meth : Method} {c : Code} {H : Heap} {locs : List Loc} {cells slots : Nat} {Q : State → Prop}
variable {cc : ByteArray} {nL : Nat} {own : String} {pc : Nat} {ls : Array Slot} {rest : List Value} {G : zG} {A : Nat → Prop} {H0 : Heap}
theorem z_grown {H1 : Heap} (hS : va_S A H0 H locs) (z1 : H1.size = H.size + 1) (o1 : ∀ q : Nat, q < H.size → H1[q]? = H[q]?) : va_S A H0 H1 locs :=
  ⟨Nat.le_trans hS.1 (by omega), fun x h1 h2 => (o1 x (Nat.lt_of_lt_of_le h1 hS.1)).trans (hS.2.1 x h1 h2), hS.2.2⟩
theorem z_newc (S : CallFix p m c cc nL s args lw_g own) (hG : zKn G s) {C : String} {T : u_T} {N ci index : Nat} (hC : zCl ci C T N) (ty : Nat → FieldType) (hty : ∀ k, k < N → parseFieldDescriptor (T k).2.2.1 = some (ty k)) (hcl : Cond.classLink own index C ∈ lw_g) (hinst : Cond.instantiable C N ∈ lw_g) (hini : Cond.initialized C ∈ lw_g) (hS : va_S A H0 H locs) {fs : List Value} (hfs : ∀ j, j < N → defaultValue (ty j) = vp_V fs j) (hcs : cells + 1 ≤ R.cells ∧ slots + N ≤ R.slots) (d : decode cc pc = .ok (.new index, 3))
    (kk : ∀ (q9 : Nat) (H1 : Heap), q9 = H.size → va_at G.1 vwCl (q9, .inr (ci, fs)) H1 → H1.size = H.size + 1 → (∀ q : Nat, q < H.size → H1[q]? = H[q]?) → va_S A H0 H1 locs → W p l e R s m args below meth c H1 locs (cells + 1) (slots + N) Q (F0 m (pc + 3) ls (.ref q9 :: rest))) : W p l e R s m args below meth c H locs cells slots Q (F0 m pc ls rest) := by
  have hKn := hG.1.1 ci _ hC.1
  refine W.newcK S.1 S.2.1 S.2.2.2.1 (S.2.2.2.2 _ hcl) (S.2.2.2.2 _ hinst) (S.2.2.2.2 _ hini) rfl d hcs.1 hcs.2 hKn.2.1 rfl fun H1 kC hkC e1 z1 o1 => ?_
  exact kk H.size H1 rfl ⟨_, hC.1, (u_born ty S.2.2.2.2 hC.2 hKn hkC e1 hty).to hfs⟩ z1 o1 (z_grown hS z1 o1)
theorem z_newI (S : CallFix p m c cc nL s args lw_g own) (hG : zKn G s) {N : Nat} (hN : N < 1000000) (harr : Cond.arrayClass .int ∈ lw_g) (hS : va_S A H0 H locs) (hcs : cells + 1 ≤ R.cells ∧ slots + N ≤ R.slots) (d : decode cc pc = .ok (.newarray .int, 2))
    (kk : ∀ (q9 : Nat) (H1 : Heap), q9 = H.size → va_at G.1 vwCl (q9, .inl (G.2 0, N, .inl (fun _ => 0))) H1 → H1.size = H.size + 1 → (∀ q : Nat, q < H.size → H1[q]? = H[q]?) → va_S A H0 H1 locs → W p l e R s m args below meth c H1 locs (cells + 1) (slots + N) Q (F0 m (pc + 2) ls (.ref q9 :: rest))) : W p l e R s m args below meth c H locs cells slots Q (F0 m pc ls (.int (zI N) :: rest)) := by
  refine va_newaK (atype := .int) S.1 S.2.1 (S.2.2.2.2 _ harr) rfl d rfl (fun q => by have := (zI_lt (a := (N : Int)) (b := 0) (by omega) z0).mp q; omega) (N := N) (by rw [zI_clamp (by omega)]; rfl) (by show N * 4 ≤ _; omega) hcs.1 hcs.2 rfl fun H1 cA e1 z1 o1 hAr hNm => ?_
  have hc0 : cA = G.2 0 := by
    have h2 : s.vm.findClass ("[" ++ FieldType.int.toString) = some cA := hNm
    rw [show ("[" ++ FieldType.int.toString) = "[I" from by decide +kernel] at h2
    exact Option.some.inj (h2.symm.trans (zG_I hG))
  subst hc0
  exact kk H.size H1 rfl (by show H1[H.size]? = some (vp_cell _ _); rw [vp_cell_i]; exact e1) z1 o1 (z_grown hS z1 o1)
theorem zG_B {U : State} (h : zKn G U) : U.vm.findClass "[B" = some (G.2 3) := by
  have h1 := (h.1.2 3 (G.2 3, .byte) rfl).2
  have h2 : U.vm.findClass ("[" ++ FieldType.byte.toString) = some (G.2 3) := h1
  rw [show ("[" ++ FieldType.byte.toString) = "[B" from by decide +kernel] at h2
  exact h2
theorem z_newB (S : CallFix p m c cc nL s args lw_g own) (hG : zKn G s) {N : Nat} (hN : N < 1000000) (harr : Cond.arrayClass .byte ∈ lw_g) (hS : va_S A H0 H locs) (hcs : cells + 1 ≤ R.cells ∧ slots + N ≤ R.slots) (d : decode cc pc = .ok (.newarray .byte, 2))
    (kk : ∀ (q9 : Nat) (H1 : Heap), q9 = H.size → zBy (G.2 3) q9 N H1 → H1.size = H.size + 1 → (∀ q : Nat, q < H.size → H1[q]? = H[q]?) → va_S A H0 H1 locs → W p l e R s m args below meth c H1 locs (cells + 1) (slots + N) Q (F0 m (pc + 2) ls (.ref q9 :: rest))) : W p l e R s m args below meth c H locs cells slots Q (F0 m pc ls (.int (zI N) :: rest)) := by
  refine va_newaK (atype := .byte) S.1 S.2.1 (S.2.2.2.2 _ harr) rfl d rfl (fun q => by have := (zI_lt (a := (N : Int)) (b := 0) (by omega) z0).mp q; omega) (N := N) (by rw [zI_clamp (by omega)]; rfl) (by show N * 1 ≤ _; omega) hcs.1 hcs.2 rfl fun H1 cA e1 z1 o1 hAr hNm => ?_
  have hc0 : cA = G.2 3 := by
    have h2 : s.vm.findClass ("[" ++ FieldType.byte.toString) = some cA := hNm
    rw [show ("[" ++ FieldType.byte.toString) = "[B" from by decide +kernel] at h2
    exact Option.some.inj (h2.symm.trans (zG_B hG))
  subst hc0
  refine kk H.size H1 rfl ⟨_, e1, (fun k h => by cases h), (fun h => by cases h), rfl, arrV_size _ _ _, fun j hj => ⟨0, arrV_read _ _ hj, rfl⟩⟩ z1 o1 (z_grown hS z1 o1)
theorem z_newq (S : CallFix p m c cc nL s args lw_g own) (hG : zKn G s) (t0 : Nat) {C : String} (ht : (zT G)[t0]? = some (G.2 t0, .object C)) (hover : va_AO C s) {N index : Nat} (hN : N < 1000000) (hcl : Cond.classLink own index C ∈ lw_g) (hS : va_S A H0 H locs) (hcs : cells + 1 ≤ R.cells ∧ slots + N ≤ R.slots) (d : decode cc pc = .ok (.anewarray index, 3))
    (kk : ∀ (q9 : Nat) (H1 : Heap), q9 = H.size → va_at G.1 vwCl (q9, .inl (G.2 t0, N, .inr (.inr (.inr (.inr (zC (fun _ => none))))))) H1 → H1.size = H.size + 1 → (∀ q : Nat, q < H.size → H1[q]? = H[q]?) → va_S A H0 H1 locs → W p l e R s m args below meth c H1 locs (cells + 1) (slots + N) Q (F0 m (pc + 3) ls (.ref q9 :: rest))) : W p l e R s m args below meth c H locs cells slots Q (F0 m pc ls (.int (zI N) :: rest)) := by
  have hcN : (zI (N : Int)).toNatClampNeg = N := by rw [zI_clamp (by omega)]; rfl
  refine W.anew S.1 S.2.1 S.2.2.2.1 (S.2.2.2.2 _ hcl) (va_AO.use hover) rfl d rfl (fun q => by have := (zI_lt (a := (N : Int)) (b := 0) (by omega) z0).mp q; omega) (by rw [hcN]; omega) hcs.1 (by rw [hcN]; exact hcs.2) fun cA kA comp f1 f2 f3 f4 => ?_
  have hc0 : cA = G.2 t0 := by
    obtain ⟨k2, c2, g1, g2, g3, g4⟩ := (hG.1.2 t0 _ ht).2
    exact Option.some.inj (f1.symm.trans g4)
  subst hc0
  generalize hH1 : H.push ({ cls := G.2 t0, slots := Array.replicate (zI (N : Int)).toNatClampNeg .null, vm := .none } : Cell) = H1
  have z1 : H1.size = H.size + 1 := by rw [← hH1, Array.size_push]
  have e1 : H1[H.size]? = some (arrV (G.2 t0) N (fun _ => .null)) := by rw [← hH1, Array.getElem?_push_size, hcN, ← arrV_new]
  have o1 : ∀ q : Nat, q < H.size → H1[q]? = H[q]? := fun q hq => by rw [← hH1, Array.getElem?_push, if_neg (Nat.ne_of_lt hq)]
  rw [hcN]
  exact kk H.size H1 rfl (by show H1[H.size]? = some (vp_cell _ _); rw [vp_cell_q]; exact e1) z1 o1 (z_grown hS z1 o1)
theorem z_gets (S : CallFix p m c cc nL s args lw_g own) (hG : zKn G s) (i : Nat) {C n d : String} {index : Nat} (hi : zStN[i]? = some (C, n, d)) {v : Value} (hH : zStH G i v H) (hl : Cond.fieldLink own index C n d ∈ lw_g) (dd : decode cc pc = .ok (.getstatic index, 3))
    (kk : W p l e R s m args below meth c H locs cells slots Q (F0 m (pc + 3) ls (v :: rest))) : W p l e R s m args below meth c H locs cells slots Q (F0 m pc ls rest) := by
  obtain ⟨kf, fi, f, h1, h2, h3, h4, h5, h6, h7⟩ := hG.2.2.2.2.1 i _ hi
  obtain ⟨cell, c1, c2, c3, c4, c5⟩ := hH
  exact W.gets S.1 S.2.1 S.2.2.2.1 (S.2.2.2.2 _ hl) h2 h3 h4 h5 c1 (fun q => by rw [q] at c2; cases c2) (by rw [h6]; exact c5) rfl dd kk
/-- a field by the name of another class of the object's -/
theorem z_putR (S : CallFix p m c cc nL s args lw_g own) (hG : zKn G s) {a ci : Nat} {fs : List Value} (hat : va_at G.1 vwCl (a, .inr (ci, fs)) H) {C : String} {T : u_T} {N index : Nat} (hC : zCl ci C T N) (ty0 : Nat → FieldType) (hty : ∀ k, k < N → parseFieldDescriptor (T k).2.2.1 = some (ty0 k)) (hnm : ∀ a, a < N → ∀ b, b < N → a ≠ b → (T a).2.1 ≠ (T b).2.1) (hS0 : va_S A H0 H locs) (ha : A a) (k : Nat) (hk : k < N) (hl : Cond.fieldLink own index (T k).1 (T k).2.1 (T k).2.2.1 ∈ lw_g) (hfin : (T k).2.2.2 = false) {ty : FieldType} {v : Value} (hd : parseFieldDescriptor (T k).2.2.1 = some ty) (hn : narrow ty v = v) (hfit : fits ty v = true) (hlen : k < fs.length)
    (d : decode cc pc = .ok (.putfield index, 3)) (kk : ∀ (H1 : Heap) (locs1 : List Loc), va_at G.1 vwCl (a, .inr (ci, fs.set k v)) H1 → H1.size = H.size → (∀ q : Nat, q ≠ a → H1[q]? = H[q]?) → va_S A H0 H1 locs1 → W p l e R s m args below meth c H1 locs1 cells slots Q (F0 m (pc + 3) ls rest)) : W p l e R s m args below meth c H locs cells slots Q (F0 m pc ls (v :: .ref a :: rest)) := by
  have hts := S.2.2.2.2
  have hap := va_apart (own := own) hts hC.2 ty0 hty hnm hG.1 hC.1
  obtain ⟨r, h1, cell, q1, q2, q3, q4⟩ := hat
  have hr : r = (C, T, N) := Option.some.inj (h1.symm.trans hC.1)
  subst hr
  obtain ⟨hS, hfc, kC, hkC, hkind⟩ := hG.1.1 ci _ hC.1
  obtain ⟨cf, kf, fi, f, hi, hsl⟩ := hS k hk
  have hlay := hts _ (hC.2 _ (u_in_lay hk))
  unfold u_lay at hlay
  rw [if_neg (by rw [hfin]; decide)] at hlay
  have hst := (u_facts hfc hkC (u_lays hts hC.2 hk) hi).1
  have h6 := u_store hfc hkC hkind hlay hi hd hn hfit
  refine W.putK S.1 S.2.1 (f := f) ⟨S.2.2.2.1, hts _ hl, ⟨_, _, _, hi⟩, hst⟩ (by rw [q2]; exact h6) q1 q3 (by rw [hsl]; exact k2_hasslot (q4 k hk)) rfl rfl d fun H' e1 e2 e3 => ?_
  rw [hsl] at e1 ⊢
  exact kk H' _ ⟨_, hC.1, t_OB.to (V := updV (vp_V fs) k v) ⟨_, e1, q2, q3, t_set q4 hap hk v⟩ (fun j _ => vp_updV_set hlen v j)⟩ e2 e3 (hS0.put e2 e3 ha)
theorem z_getR (S : CallFix p m c cc nL s args lw_g own) (hG : zKn G s) {a ci : Nat} {fs : List Value} (hat : va_at G.1 vwCl (a, .inr (ci, fs)) H) {C : String} {T : u_T} {N index : Nat} (hC : zCl ci C T N) (k : Nat) (hk : k < N) (hl : Cond.fieldLink own index (T k).1 (T k).2.1 (T k).2.2.1 ∈ lw_g) {v : Value} (hv : fs[k]? = some v) (d : decode cc pc = .ok (.getfield index, 3)) (kk : W p l e R s m args below meth c H locs cells slots Q (F0 m (pc + 3) ls (v :: rest))) : W p l e R s m args below meth c H locs cells slots Q (F0 m pc ls (.ref a :: rest)) :=
  va_get (ws := [(a, .inr (ci, fs))]) S.1 S.2.1 S.2.2.2.2 hC.2 S.2.2.2.1 hG.1 (va_one hat) 0 rfl hC.1 k hk (S.2.2.2.2 _ hl) (fun x h => h) hv d kk
/-- a final field, in its class's constructor -/
theorem z_putF (S : CallFix p m c cc nL s args lw_g own) (hG : zKn G s) {a ci : Nat} {fs : List Value} (hat : va_at G.1 vwCl (a, .inr (ci, fs)) H) {C : String} {T : u_T} {N index : Nat} (hC : zCl ci C T N) (ty0 : Nat → FieldType) (hty : ∀ k, k < N → parseFieldDescriptor (T k).2.2.1 = some (ty0 k)) (hnm : ∀ a, a < N → ∀ b, b < N → a ≠ b → (T a).2.1 ≠ (T b).2.1) (hS0 : va_S A H0 H locs) (ha : A a) (k : Nat) (hk : k < N) (hl : Cond.fieldLink own index (T k).1 (T k).2.1 (T k).2.2.1 ∈ lw_g) (hfin : (T k).2.2.2 = true) (hin2 : meth.name = "<init>") (hdecl : (T k).1 = own) {ty : FieldType} {v : Value} (hd : parseFieldDescriptor (T k).2.2.1 = some ty) (hn : narrow ty v = v) (hfit : fits ty v = true) (hlen : k < fs.length)
    (d : decode cc pc = .ok (.putfield index, 3)) (kk : ∀ (H1 : Heap) (locs1 : List Loc), va_at G.1 vwCl (a, .inr (ci, fs.set k v)) H1 → H1.size = H.size → (∀ q : Nat, q ≠ a → H1[q]? = H[q]?) → va_S A H0 H1 locs1 → W p l e R s m args below meth c H1 locs1 cells slots Q (F0 m (pc + 3) ls rest)) : W p l e R s m args below meth c H locs cells slots Q (F0 m pc ls (v :: .ref a :: rest)) := by
  have hts := S.2.2.2.2
  have hap := va_apart (own := own) hts hC.2 ty0 hty hnm hG.1 hC.1
  obtain ⟨r, h1, cell, q1, q2, q3, q4⟩ := hat
  have hr : r = (C, T, N) := Option.some.inj (h1.symm.trans hC.1)
  subst hr
  obtain ⟨hS, hfc, kC, hkC, hkind⟩ := hG.1.1 ci _ hC.1
  obtain ⟨cf, kf, fi, f, hi, hsl⟩ := hS k hk
  have hlay := hts _ (hC.2 _ (u_in_lay hk))
  unfold u_lay at hlay
  rw [if_pos hfin] at hlay
  have hst := (u_facts hfc hkC (u_lays hts hC.2 hk) hi).1
  have hcf : m.cls = cf := by
    obtain ⟨_, _, c', _, _, _, -, -, hf', -, -, -, hown2, -⟩ := Cond.laysFinal_spec hlay
    have e1 : c' = cf := by have := hi.symm.trans hf'; simp at this; exact this.1.symm
    rw [hdecl] at hown2
    rw [← e1]; exact Option.some.inj (S.2.2.2.1.symm.trans hown2)
  have h6 := u_fits hfc hkC hkind (Or.inr hlay) hi hd hn hfit
  refine W.putFinK S.1 S.2.1 S.2.2.2.1 (hts _ hl) hi hst hcf hin2 (by rw [q2]; exact h6) q1 q3 (by rw [hsl]; exact k2_hasslot (q4 k hk)) rfl rfl d fun H' e1 e2 e3 => ?_
  rw [hsl] at e1 ⊢
  exact kk H' _ ⟨_, hC.1, t_OB.to (V := updV (vp_V fs) k v) ⟨_, e1, q2, q3, t_set q4 hap hk v⟩ (fun j _ => vp_updV_set hlen v j)⟩ e2 e3 (hS0.put e2 e3 ha)
/-- a nest mate's field -/
theorem z_getN (S : CallFix p m c cc nL s args lw_g own) (hG : zKn G s) {a ci : Nat} {fs : List Value} (hat : va_at G.1 vwCl (a, .inr (ci, fs)) H) {C host : String} {T : u_T} {N index : Nat} (hC : zCl ci C T N) (k : Nat) (hk : k < N) (hl : Cond.fieldLinkNest own index C (T k).2.1 (T k).2.2.1 host ∈ lw_tbl) (hs : (T k).1 = C) {v : Value} (hv : fs[k]? = some v) (d : decode cc pc = .ok (.getfield index, 3)) (kk : W p l e R s m args below meth c H locs cells slots Q (F0 m (pc + 3) ls (v :: rest))) : W p l e R s m args below meth c H locs cells slots Q (F0 m pc ls (.ref a :: rest)) :=
  va_getN (ws := [(a, .inr (ci, fs))]) S.1 S.2.1 S.2.2.2.2 hC.2 S.2.2.2.1 hG.1 (va_one hat) 0 rfl hC.1 k hk (va_Nw.use rfl (hG.2.2.2.2.2.2.2.2.1 _ _ _ _ _ _ hl)) (fun x h => by rw [hs] at h; exact h) hv d kk
theorem z_putN (S : CallFix p m c cc nL s args lw_g own) (hG : zKn G s) {a ci : Nat} {fs : List Value} (hat : va_at G.1 vwCl (a, .inr (ci, fs)) H) {C host : String} {T : u_T} {N index : Nat} (hC : zCl ci C T N) (ty0 : Nat → FieldType) (hty : ∀ k, k < N → parseFieldDescriptor (T k).2.2.1 = some (ty0 k)) (hnm : ∀ a, a < N → ∀ b, b < N → a ≠ b → (T a).2.1 ≠ (T b).2.1) (hS0 : va_S A H0 H locs) (ha : A a) (k : Nat) (hk : k < N) (hl : Cond.fieldLinkNest own index C (T k).2.1 (T k).2.2.1 host ∈ lw_tbl) (hs : (T k).1 = C) (hfin : (T k).2.2.2 = false) {ty : FieldType} {v : Value} (hd : parseFieldDescriptor (T k).2.2.1 = some ty) (hn : narrow ty v = v) (hfit : fits ty v = true) (hlen : k < fs.length)
    (d : decode cc pc = .ok (.putfield index, 3)) (kk : ∀ (H1 : Heap) (locs1 : List Loc), va_at G.1 vwCl (a, .inr (ci, fs.set k v)) H1 → H1.size = H.size → (∀ q : Nat, q ≠ a → H1[q]? = H[q]?) → va_S A H0 H1 locs1 → W p l e R s m args below meth c H1 locs1 cells slots Q (F0 m (pc + 3) ls rest)) : W p l e R s m args below meth c H locs cells slots Q (F0 m pc ls (v :: .ref a :: rest)) := by
  have hts := S.2.2.2.2
  have hap := va_apart (own := own) hts hC.2 ty0 hty hnm hG.1 hC.1
  obtain ⟨r, h1, cell, q1, q2, q3, q4⟩ := hat
  have hr : r = (C, T, N) := Option.some.inj (h1.symm.trans hC.1)
  subst hr
  obtain ⟨hS, hfc, kC, hkC, hkind⟩ := hG.1.1 ci _ hC.1
  obtain ⟨cf, kf, fi, f, hi, hsl⟩ := hS k hk
  have hlay := hts _ (hC.2 _ (u_in_lay hk))
  unfold u_lay at hlay
  rw [if_neg (by rw [hfin]; decide)] at hlay
  have hst := (u_facts hfc hkC (u_lays hts hC.2 hk) hi).1
  have h6 := u_store hfc hkC hkind hlay hi hd hn hfit
  refine va_WputK S.1 S.2.1 (f := f) S.2.2.2.1 (va_Nw.use rfl (hG.2.2.2.2.2.2.2.2.1 _ _ _ _ _ _ hl)) (by rw [hs] at hi; exact hi) hst (by rw [q2]; exact h6) q1 q3 (by rw [hsl]; exact k2_hasslot (q4 k hk)) rfl rfl d fun H' e1 e2 e3 => ?_
  rw [hsl] at e1 ⊢
  exact kk H' _ ⟨_, hC.1, t_OB.to (V := updV (vp_V fs) k v) ⟨_, e1, q2, q3, t_set q4 hap hk v⟩ (fun j _ => vp_updV_set hlen v j)⟩ e2 e3 (hS0.put e2 e3 ha)
theorem z_objInit (S : CallFix p m c cc nL s args lw_g own) (hlz : ls.size = nL) {idx a : Nat} (hl : Cond.methodLink own idx Lib.objectInit ∈ lw_g) (hin : Cond.instanceMethod Lib.objectInit ∈ lw_g) (hc : Cond.code Lib.objectInit ⟨#[0xb1]⟩ 1 none ∈ lw_g) (d : decode cc pc = .ok (.invokespecial idx, 3)) (hf : 1 ≤ R.frames) (hlo : (rest.map fun v => v.category).sum + 12 ≤ R.locals)
    (kk : W p l e R s m args below meth c H locs cells slots Q (F0 m (pc + 3) ls rest)) : W p l e R s m args below meth c H locs cells slots Q (F0 m pc ls (.ref a :: rest)) :=
  W.objInit S.1 S.2.1 S.2.2.2.1 (S.2.2.2.2 _ hl) (S.2.2.2.2 _ hin) (S.2.2.2.2 _ hc) rfl (by show ls.size = _; rw [hlz]; exact S.2.2.1.symm) rfl d hf (by show 2 * 0 + _ + _ ≤ _; omega) kk
theorem z_aast (S : CallFix p m c cc nL s args lw_g own) (hG : zKn G s) (t0 : Nat) {E C : String} (ht : (zT G)[t0]? = some (G.2 t0, .object E)) {a n0 : Nat} {f : Int → Option Nat} (hat : va_at G.1 vwCl (a, .inl (G.2 t0, n0, .inr (.inr (.inr (.inr (zC f)))))) H) (hS : va_S A H0 H locs) (ha : A a) {v : Nat} {cv : Cell} {kv : Class} (hv : H[v]? = some cv) (hvo : ∀ q, cv.vm ≠ .statics q) (hkv : s.vm.classes[cv.cls]? = some kv) (hcv : s.vm.findClass C = some cv.cls) (hasg : ∀ comp c0 : ClassId, s.vm.findClass E = some comp → s.vm.findClass C = some c0 → s.vm.assignable c0 comp = true) {i : Int} (hi : 0 ≤ i ∧ i < n0) (hn : n0 < 2147483648) (d : decode cc pc = .ok (.aastore, 1))
    (kk : ∀ (H1 : Heap) (locs1 : List Loc), va_at G.1 vwCl (a, .inl (G.2 t0, n0, .inr (.inr (.inr (.inr (zC (up f i (some v)))))))) H1 → H1.size = H.size → (∀ q : Nat, q ≠ a → H1[q]? = H[q]?) → va_S A H0 H1 locs1 → W p l e R s m args below meth c H1 locs1 cells slots Q (F0 m (pc + 1) ls rest)) : W p l e R s m args below meth c H locs cells slots Q (F0 m pc ls (.ref v :: .int (zI i) :: .ref a :: rest)) := by
  have hin := zI_in hi hn
  have hlt : (zI i).toNatClampNeg < n0 := Nat.not_le.mp fun q => hin (Or.inr q)
  obtain ⟨kA, comp, k1, k2, k3, -⟩ := (hG.1.2 t0 _ ht).2
  obtain ⟨kC, hkC, -⟩ := Vm.findClass_spec k3
  refine W.aast S.1 S.2.1 hat (fun q h => by cases h) (fun h => by cases h) k1 k2 rfl hkC ⟨fun q => hin (Or.inl q), by show _ < (arrV _ _ _).slots.size; rw [arrV_size]; exact hlt⟩ hv hvo hkv (hasg _ _ k3 hcv) rfl rfl d fun H1 e z oq => ?_
  refine kk H1 _ ?_ z oq (hS.put z oq ha)
  refine va_cgC (f := fun j => va_up (zC f) (zI i).toNatClampNeg (some v) j.toNat) (fun j j0 j1 => ?_) ?_
  · rw [zI_cl (by omega)]
    unfold va_up up zC
    by_cases q : j = i
    · rw [if_pos q, if_pos (by omega)]
    · rw [if_neg q, if_neg (by omega)]; congr 1; omega
  · show H1[a]? = some (vp_cell _ _)
    rw [e]
    rw [vp_cell_q, vp_cell_q, arrV_store]
    congr 2
    funext q
    by_cases hq : q = (zI i).toNatClampNeg
    · subst hq
      simp [updV, va_up, va_rf, zC]
    · simp [updV, va_up, zC, hq]
theorem z_arrCls {U : State} (hG : zKn G U) : ∃ k, U.vm.classes[G.2 0]? = some k := by
  obtain ⟨-, k, hk, -⟩ := (hG.1.2 0 (G.2 0, .int) rfl).1 0 (fun _ => .null)
  exact ⟨k, hk⟩
/-! rows of bytes -/
theorem zBy_arr {k : ClassId} {cell : Cell} (h : s.isArrayOf (arrV k 0 (fun _ => .null)) .byte) (h1 : ∀ k, cell.vm ≠ .statics k) (h2 : cell.cls = k) : s.isArrayOf cell .byte := by
  obtain ⟨-, x, hx, hy⟩ := h
  exact ⟨h1, x, by rw [h2]; exact hx, hy⟩
theorem zG_by (hG : zKn G s) : s.isArrayOf (arrV (G.2 3) 0 (fun _ => .null)) .byte := (hG.1.2 3 (G.2 3, .byte) rfl).1 0 (fun _ => .null)
theorem z_bald (S : CallFix p m c cc nL s args lw_g own) {k : ClassId} (hk : s.isArrayOf (arrV k 0 (fun _ => .null)) .byte) {a n : Nat} (hb : zBy k a n H) {i : Int} (hi : 0 ≤ i ∧ i < n) (hn : n < 2147483648) (d : decode cc pc = .ok (.baload, 1))
    (kk : ∀ x : Int32, fits .byte (.int x) = true → W p l e R s m args below meth c H locs cells slots Q (F0 m (pc + 1) ls (.int x :: rest))) : W p l e R s m args below meth c H locs cells slots Q (F0 m pc ls (.int (zI i) :: .ref a :: rest)) := by
  obtain ⟨cell, h1, h2, h3, h4, h5, h6⟩ := hb
  obtain ⟨x, g1, g2⟩ := h6 (zI i).toNatClampNeg (by rw [zI_clamp (by omega)]; omega)
  exact W.bald S.1 S.2.1 h1 (zBy_arr hk h2 h4) h3 (by rw [h5]; exact zI_in hi hn) g1 rfl rfl d (kk x g2)
theorem z_bast (S : CallFix p m c cc nL s args lw_g own) (hG : zKn G s) {a n : Nat} (hb : zBy (G.2 3) a n H) (hS : va_S A H0 H locs) (ha : A a) {i : Int} {x : Int32} (hi : 0 ≤ i ∧ i < n) (hn : n < 2147483648) (d : decode cc pc = .ok (.bastore, 1))
    (kk : ∀ (H1 : Heap) (locs1 : List Loc), zBy (G.2 3) a n H1 → H1.size = H.size → (∀ q : Nat, q ≠ a → H1[q]? = H[q]?) → va_S A H0 H1 locs1 → W p l e R s m args below meth c H1 locs1 cells slots Q (F0 m (pc + 1) ls rest)) : W p l e R s m args below meth c H locs cells slots Q (F0 m pc ls (.int x :: .int (zI i) :: .ref a :: rest)) := by
  obtain ⟨cell, h1, h2, h3, h4, h5, h6⟩ := hb
  refine W.bast S.1 S.2.1 h1 (zBy_arr (zG_by hG) h2 h4) h3 (by rw [h5]; exact zI_in hi hn) rfl rfl d fun H1 e z oq => ?_
  refine kk H1 _ ⟨_, e, h2, h3, h4, by rw [← h5]; simp [Cell.setSlot], fun j hj => ?_⟩ z oq (hS.put z oq ha)
  by_cases q : j = (zI i).toNatClampNeg
  · subst q
    refine ⟨x.toInt8.toInt32, ?_, ?_⟩
    · simp [Cell.setSlot, Array.getElem?_setIfInBounds, h5, hj]; rfl
    · have e1 : (x.toInt8.toInt32).toInt = x.toInt8.toInt := Int8.toInt_toInt32 _
      have e2 := Int8.le_toInt x.toInt8
      have e3 := Int8.toInt_lt x.toInt8
      have e4 : (-128 : Int32) ≤ x.toInt8.toInt32 ∧ x.toInt8.toInt32 ≤ 127 := ⟨Int32.le_iff_toInt_le.mpr (by rw [e1]; show (-128 : Int) ≤ _; omega), Int32.le_iff_toInt_le.mpr (by rw [e1]; show _ ≤ (127 : Int); omega)⟩
      simp [fits, e4.1, e4.2]
  · obtain ⟨y, g1, g2⟩ := h6 j hj
    exact ⟨y, by simp [Cell.setSlot, Array.getElem?_setIfInBounds, Ne.symm q, g1], g2⟩
theorem z_blen (S : CallFix p m c cc nL s args lw_g own) {k : ClassId} (hk : s.isArrayOf (arrV k 0 (fun _ => .null)) .byte) {a n : Nat} (hb : zBy k a n H) (d : decode cc pc = .ok (.arraylength, 1))
    (kk : W p l e R s m args below meth c H locs cells slots Q (F0 m (pc + 1) ls (.int (zI n) :: rest))) : W p l e R s m args below meth c H locs cells slots Q (F0 m pc ls (.ref a :: rest)) := by
  obtain ⟨cell, h1, h2, h3, h4, h5, h6⟩ := hb
  exact W.alen S.1 S.2.1 h1 (zBy_arr hk h2 h4) (n := zI n) (by rw [h5]; exact zI_nI n) rfl rfl d kk
end ZN
