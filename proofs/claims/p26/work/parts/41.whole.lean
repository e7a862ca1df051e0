section ZN9
variable {p : Program} {l : Launch} {e : Env} {R : Room} {s : State} {m : MethodId} {args : Array Value} {below : List Frame} {meth : Method} {c : Code} {H : Heap} {locs : List Loc} {cells slots : Nat} {Q : State → Prop}
variable {cc : ByteArray} {nL : Nat} {own : String} {pc : Nat} {ls : Array Slot} {rest : List Value} {G : zG} {A : Nat → Prop} {H0 : Heap}
theorem z_callNI (S : CallFix p m c cc nL s args lw_g own) (hG : zKn G s) (hS : va_S A H0 H locs) {y : MethodName} {host : String} {bytes : ByteArray} {maxL na index mc ms : Nat} {rm : Room} {P B : Heap → Prop} {A1 : Nat → Prop} {v : Option Value} {As st : List Value} {b : Nat} (hM : Met l y (wq y bytes maxL none) rm (va_Pc (.ref b :: As) (zK G P)) (zM A1 v B) mc ms A1) (hA : ∀ q, A1 q → A q) (hY : zOK y bytes maxL none na) (hin : Cond.instanceMethod y ∈ lw_g) (hy1 : y.name = "<init>") (hl : va_Nw (.methodLinkNest own index y host) s) (hP : P H) (hR : zRM R rm maxL mc ms) (hcs : cells + mc ≤ R.cells ∧ slots + ms ≤ R.slots) (hn : As.length = na) (hrest : (rest.map fun v => v.category).sum ≤ 8) (hlz : ls.size = nL) (hst : st = As.reverse ++ .ref b :: rest) (d : decode cc pc = .ok (.invokespecial index, 3))
    (kk : ∀ (H1 : Heap) (locs1 : List Loc), B H1 → H.size ≤ H1.size → (∀ q : Nat, q < H.size → ¬ A1 q → H1[q]? = H[q]?) → va_S A H0 H1 locs1 → W p l e R s m args below meth c H1 locs1 (cells + mc) (slots + ms) Q (F0 m (pc + 3) ls (v.toList ++ rest))) : W p l e R s m args below meth c H locs cells slots Q (F0 m pc ls st) :=
  z_mend (va_runIN (host := host) S hM ⟨va_cnB na S.2.2.2.2 (zgood_wq hY.1) rfl hR.1 hR.2.1 hl (S.2.2.2.2 _ hY.2.1) hY.2.2 ⟨hR.2.2.1, hR.2.2.2⟩, hy1, S.2.2.2.2 _ hin⟩ ⟨z_blind, fun U hU hW => ⟨rfl, by rw [hU]; exact hP, zKn.moved hW hG⟩⟩ rfl hn hlz hst (lv_room hrest) d hcs) hS hA kk
end ZN9
theorem dX3_init_0 : decode cX3_init 0 = .ok (.aload_n 0, 1) := by decide +kernel
theorem dX3_init_1 : decode cX3_init 1 = .ok (.invokespecial 1, 3) := by decide +kernel
theorem dX3_init_4 : decode cX3_init 4 = .ok (.return_, 1) := by decide +kernel
theorem q2_78 : (Jvm.Cond.methodLink "CyclepaintLaw$Out" (1 : Nat) ({ cls := "java/lang/Object", name := "<init>", desc := "()V" } : Jvm.MethodName)) ∈ lw_g := zg_of (zin2 (List.mem_of_getElem? (i := 78) rfl)) rfl
theorem q2_77 : (Jvm.Cond.code ({ cls := "CyclepaintLaw$Out", name := "<init>", desc := "()V" } : Jvm.MethodName) prog_5_method_1_code (1 : Nat) (Option.none : Option Jvm.ClassFile.FieldType)) ∈ lw_g := zg_of (zin2 (List.mem_of_getElem? (i := 77) rfl)) rfl
theorem q1_7 : (Jvm.Cond.initialized "CyclepaintLaw$Out") ∈ lw_g := zg_of (zin1 (List.mem_of_getElem? (i := 7) rfl)) rfl
theorem ok_X3_init : zOK yX3_init cX3_init 1 ((Option.none : Option Jvm.ClassFile.FieldType)) 0 := ⟨q2_77, q1_7, by decide, by decide, by decide +kernel⟩
set_option maxHeartbeats 4000000 in
set_option maxRecDepth 100000 in
theorem c_X3_init (l : Launch) (G : zG) (q : Nat) (B : Heap → Prop) : Met l yX3_init (wq yX3_init cX3_init 1 ((Option.none : Option Jvm.ClassFile.FieldType))) (rmM 1 20 0 0) (va_Pc [.ref (q)] (zK G (B))) (zM (fun _ => False) none (B)) 0 0 (fun _ => False) := by
  refine z_enterMV (by decide +kernel) (Nat.le_of_ble_eq_true rfl) ?_
  intro p env s m below meth cod Q S hnm hG hP hS ret ls hl
  have hl : lv_has ls 1 [(0, .ref (q))] := hl
  refine z_aload_n S dX3_init_0 hl 0 rfl rfl ?_
  refine z_objInit S hl.1 q2_78 q1_36 (by exact q1_37) dX3_init_1 (Nat.le_of_ble_eq_true rfl) (Nat.le_of_ble_eq_true rfl) ?_
  exact ret _ _ _ _ _ _ dX3_init_4 hS (hP) (Nat.le_of_ble_eq_true rfl) (Nat.le_of_ble_eq_true rfl)
/-! THE CLAIM OUT OF ONE WALK OF THE LAW'S BODY. Your part is whole_start (and what it stands on); all else here is the same for every law, but numbers. -/
def R_law : String := "CyclepaintLaw"
def lw_P (b : Addr) (xs : List Int32) (args : Array Value) (s : State) : Prop := args = #[.ref b] ∧ s.IntsAt b xs ∧ xs.length ≤ 2560 ∧ (Jvm.Cond.and given_1 narrow_1).before args s = true
/-- what a walk over the start with the record d0 says of its end, said of the start itself -/
theorem lw_closed {s t : State} {o : Outcome} {d0 : Drawn} {L : List Loc} {k n : Nat} (hd0 : s.drawn.sameBut d0 lw_cs) (hv : ∃ v, o = .returned v) (hW : (s.setDrawn d0).WarmedH t.vm) (hs : (s.setDrawn d0).sameButNew ({ t with vm := s.vm } : State) L k n) : State.butDraws s t lw_cs (fun t1 => Framed s o t1 L k n) := by
  have h2 : t.drawn = d0 := congrArg State.drawn hs.1
  refine ⟨⟨hv, hW, State.sameButNew.setDrawn hs s.drawn⟩, ?_, by decide⟩
  rw [h2]
  exact hd0
def lw_Q (_ : Array Value) (s : State) (o : Outcome) (t : State) : Prop := o = .returned (some (.int 1)) ∧ State.butDraws s t lw_cs (fun t1 => Framed s o t1 [] 796102 6707797)
def lw_Z (below : List Frame) (a : Array Value) (s : State) : State → Prop := fun t => ∃ o, t.status = .running ∧ Ended t below o ∧ lw_Q a s o t
/-- the law's own end, with 1 on the stack, nothing written that was there before, its room as the claim has it; d0: the record of draws at this point (at the entry s.drawn: begin with 'refine W.base ?_' and 'have hd0 := Drawn.sameBut.refl s.drawn lw_cs') -/
theorem lw_ret {p : Program} {l : Launch} {e : Env} {s : State} {m : MethodId} {below : List Frame} {meth : Method} {c : Code} {b : Nat} {d0 : Drawn} (hd0 : s.drawn.sameBut d0 lw_cs) (hx : p.tables.exec = Jvm.exec) (hb : c.code = code) (hr : meth.sig.returnType = ret) (hlocks : meth.locks = false) {pc : Nat} {H : Heap} {ls : Array Slot} (hdg : decode code pc = .ok (.ireturn, 1)) : W p l e room_1 (s.setDrawn d0) m #[Value.ref b] below meth c H [] 796102 6707797 (lw_Z below #[Value.ref b] s) (F0 m pc ls [.int 1]) := by
  intro T hT X
  obtain ⟨fs, hret, hrun, hended, hW, hframe⟩ := X.leave (v := some (.int 1)) (hlocks := hlocks) (fun h => by rw [hr] at h; cases h)
  have hmeth' : T.vm.method? m = some meth := X.method'
  refine ⟨T.setFrames fs, ?_, .returned (some (.int 1)), hrun, hended, rfl, lw_closed hd0 ⟨_, rfl⟩ hW hframe⟩
  jvm_step X.here [X.here.top, hx, hb, hdg, hmeth', hr, ret, narrow_b1]
  (try refine ⟨rfl, ?_⟩); (try refine ⟨rfl, ?_⟩)
  first | (intro acts; rw [hret _ acts rfl rfl rfl]) | rw [hret _ _ rfl rfl rfl]
  exact Steps.refl _
/-- what holds at the law's entry: the machine, the code, the tables' words (any of lw_tbl by 'hts w (by decide +kernel)'), the script of L ints xs at the cell b, what the Statement gives of the start (any of its parts by flat_of_before) -/
def lw_At (p : Program) (s : State) (m : MethodId) (meth : Method) (c : Code) (b L : Nat) (xs : Nat → Int32) : Prop :=
  p.tables.exec = Jvm.exec ∧ c.code = code ∧ meth.sig.returnType = ret ∧ c.maxLocals = 9 ∧ s.vm.findClass R_law = some m.cls ∧ (∀ w ∈ lw_tbl, w.before #[Value.ref b] s = true) ∧ va_X b L xs s s.heap ∧ b < s.heap.size ∧ meth.locks = false ∧ (Jvm.Cond.and given_1 narrow_1).before #[Value.ref b] s = true
theorem q1_30 : (Jvm.Cond.classLink "CyclepaintLaw" (8 : Nat) "Cyclepaint") ∈ lw_g := zg_of (zin1 (List.mem_of_getElem? (i := 30) rfl)) rfl
theorem q1_31 : (Jvm.Cond.instantiable "Cyclepaint" (8 : Nat)) ∈ lw_g := zg_of (zin1 (List.mem_of_getElem? (i := 31) rfl)) rfl
theorem q1_33 : (Jvm.Cond.instanceMethod ({ cls := "Cyclepaint", name := "<init>", desc := "()V" } : Jvm.MethodName)) ∈ lw_g := zg_of (zin1 (List.mem_of_getElem? (i := 33) rfl)) rfl
theorem q1_32 : (Jvm.Cond.methodLink "CyclepaintLaw" (89 : Nat) ({ cls := "Cyclepaint", name := "<init>", desc := "()V" } : Jvm.MethodName)) ∈ lw_g := zg_of (zin1 (List.mem_of_getElem? (i := 32) rfl)) rfl
theorem q4_191 : (Jvm.Cond.classLink "CyclepaintLaw" (90 : Nat) "CyclepaintModel") ∈ lw_g := zg_of (zin4 (List.mem_of_getElem? (i := 191) rfl)) rfl
theorem q4_192 : (Jvm.Cond.instantiable "CyclepaintModel" (8 : Nat)) ∈ lw_g := zg_of (zin4 (List.mem_of_getElem? (i := 192) rfl)) rfl
theorem q4_194 : (Jvm.Cond.instanceMethod ({ cls := "CyclepaintModel", name := "<init>", desc := "()V" } : Jvm.MethodName)) ∈ lw_g := zg_of (zin4 (List.mem_of_getElem? (i := 194) rfl)) rfl
theorem q4_193 : (Jvm.Cond.methodLink "CyclepaintLaw" (92 : Nat) ({ cls := "CyclepaintModel", name := "<init>", desc := "()V" } : Jvm.MethodName)) ∈ lw_g := zg_of (zin4 (List.mem_of_getElem? (i := 193) rfl)) rfl
theorem q2_73 : (Jvm.Cond.classLink "CyclepaintLaw" (14 : Nat) "CyclepaintLaw$Out") ∈ lw_g := zg_of (zin2 (List.mem_of_getElem? (i := 73) rfl)) rfl
theorem q2_74 : (Jvm.Cond.instantiable "CyclepaintLaw$Out" (2 : Nat)) ∈ lw_g := zg_of (zin2 (List.mem_of_getElem? (i := 74) rfl)) rfl
theorem q2_76 : (Jvm.Cond.instanceMethod ({ cls := "CyclepaintLaw$Out", name := "<init>", desc := "()V" } : Jvm.MethodName)) ∈ lw_g := zg_of (zin2 (List.mem_of_getElem? (i := 76) rfl)) rfl
theorem qt2_75 : (Jvm.Cond.methodLinkNest "CyclepaintLaw" (93 : Nat) ({ cls := "CyclepaintLaw$Out", name := "<init>", desc := "()V" } : Jvm.MethodName) "CyclepaintLaw") ∈ lw_tbl := zin2 (List.mem_of_getElem? (i := 75) rfl)
set_option maxHeartbeats 4000000 in
set_option maxRecDepth 100000 in
theorem whole_start {p : Program} {e : Env} {s : State} {m : MethodId} {below : List Frame} {meth : Method} {c : Code} (l : Launch) (hflags : l.flags = flags0) {b9 L : Nat} {xs : Nat → Int32} (hL : L ≤ 2560) (C0 : lw_At p s m meth c b9 L xs) : W p l e room_1 s m #[Value.ref b9] below meth c s.heap [] 0 0 (lw_Z below #[Value.ref b9] s) (entryFrame m ([Value.ref b9] : List Value).toArray 9) := by
  obtain ⟨hx, hb, hr, hml, hown, hts, hX, hbl, hlocks, hgv⟩ := id C0
  obtain ⟨G, hG, g99, HP, XP, TX, x4, x5⟩ := z_start hts hgv
  have g99 : @Eq Nat (G.2 99) s.heap.size := g99
  have S : CallFix p m c cL_law 9 s #[Value.ref b9] lw_g "CyclepaintLaw" := ⟨hx, hb, hml, hown, fun w hw => hts w (List.mem_filter.mp hw).1⟩
  have hS : va_S (fun q : Nat => s.heap.size ≤ q) s.heap s.heap [] := va_S.rf
  refine W.base ?_
  have hl := lv_entry ([.ref b9]) (n := 9) (Nat.le_of_ble_eq_true rfl)
  rw [lg_entry_eq]
  generalize (lg_sl ([.ref b9]) ++ List.replicate (9 - (lg_sl ([.ref b9])).length) Slot.unset).toArray = ls at hl ⊢
  have hl : lv_has ls 9 [(0, .ref (b9))] := hl
  show W p l e room_1 s m #[Value.ref b9] below meth c s.heap [] 0 0 (lw_Z below #[Value.ref b9] s) (F0 m 0 ls [])
  refine z_newc S hG zc_X2 tyX2 tyX2_ok q1_30 q1_31 q1_1 hS (fs := [.null, .null, .null, .null, .int 0, .int 0, .int 0, .int 0]) (fun j hj => by rcases (show j = 0 ∨ j = 1 ∨ j = 2 ∨ j = 3 ∨ j = 4 ∨ j = 5 ∨ j = 6 ∨ j = 7 by omega) with rfl | rfl | rfl | rfl | rfl | rfl | rfl | rfl <;> rfl) ⟨Nat.le_of_ble_eq_true rfl, Nat.le_of_ble_eq_true rfl⟩ dL_law_0 (fun n1 H_1 hq_n1 hat hz oq hS => ?_)
  have HP := zHp.kept HP (fun y hx _ => oq y hx)
  have XP := zXp.kept XP (fun y hx _ => oq y hx)
  have TX := zTx.kept TX (fun y hx _ => oq y hx)
  have h_n1 := hat
  refine z_dup S dL_law_3 rfl ?_
  refine z_callMI S hG hS (c_X2_init l G n1 H_1.size) (fun y z => by have z2 : y = n1 ∨ _ ≤ y := z; show s.heap.size ≤ y; omega) ok_X2_init q1_33 rfl q1_32 (⟨h_n1, rfl⟩) ⟨rfl, rfl, by decide, by decide⟩ ⟨Nat.le_of_ble_eq_true rfl, Nat.le_of_ble_eq_true rfl⟩ rfl (Nat.le_of_ble_eq_true rfl) hl.1 rfl dL_law_4 (fun H_2 L_2 hB hz oq hS => ?_)
  have HP := zHp.kept HP (fun y hx h9 => oq y hx (by show ¬ (_ = n1 ∨ _ ≤ _); omega))
  have XP := zXp.kept XP (fun y hx z => oq y hx (by have h9 : y < G.2 99 := (by rcases z with z | z <;> (rw [z]; assumption)); exact (by show ¬ (_ = n1 ∨ _ ≤ _); omega)))
  have TX := zTx.kept TX (fun y hx h9 => oq y hx (by show ¬ (_ = n1 ∨ _ ≤ _); omega))
  obtain ⟨a, ea, hC, hCi, hCs⟩ := hB
  have hCl : ∀ i : Nat, cL St0 i → a i < _ := fun i hi => hCyc_ltL hC hi
  refine z_astore_n (lv' := [(1, .ref (n1)), (0, .ref (b9))]) S dL_law_7 hl rfl (by decide) rfl (fun ls hl => ?_)
  refine z_newc S hG zc_X4 tyX4 tyX4_ok q4_191 q4_192 q1_3 hS (fs := [.int 0, .int 0, .int 0, .int 0, .null, .null, .null, .null]) (fun j hj => by rcases (show j = 0 ∨ j = 1 ∨ j = 2 ∨ j = 3 ∨ j = 4 ∨ j = 5 ∨ j = 6 ∨ j = 7 by omega) with rfl | rfl | rfl | rfl | rfl | rfl | rfl | rfl <;> rfl) ⟨Nat.le_of_ble_eq_true rfl, Nat.le_of_ble_eq_true rfl⟩ dL_law_8 (fun n2 H_3 hq_n2 hat hz oq hS => ?_)
  have HP := zHp.kept HP (fun y hx _ => oq y hx)
  have XP := zXp.kept XP (fun y hx _ => oq y hx)
  have TX := zTx.kept TX (fun y hx _ => oq y hx)
  have hC := hCyc_keep hC (fun i hi => oq _ (hCyc_ltL hC hi))
  have h_n2 := hat
  refine z_dup S dL_law_11 rfl ?_
  refine z_callMI S hG hS (c_X4_init l G n2 H_3.size (by omega)) (fun y z => by have z2 : y = n2 ∨ _ ≤ y := z; show s.heap.size ≤ y; omega) ok_X4_init q4_194 rfl q4_193 (⟨h_n2, rfl, HP⟩) ⟨rfl, rfl, by decide, by decide⟩ ⟨Nat.le_of_ble_eq_true rfl, Nat.le_of_ble_eq_true rfl⟩ rfl (Nat.le_of_ble_eq_true rfl) hl.1 rfl dL_law_12 (fun H_4 L_4 hB hz oq hS => ?_)
  have hC := hCyc_keep hC (fun i hi => oq _ (hCyc_ltL hC hi) (by have := hCyc_ltL hC hi; have := hCl i hi; show ¬ (_ = n2 ∨ _ ≤ _); omega))
  obtain ⟨b, eb, hM, hMi, b5, b6, hMs, HP⟩ := hB
  have XP := zXp.kept XP (fun y hx z => oq y hx (by have h9 : y < G.2 99 := (by rcases z with z | z <;> (rw [z]; assumption)); show ¬ (y = n2 ∨ _ ≤ y); omega))
  have TX := zTx.kept TX (fun y hx h9 => oq y hx (by show ¬ (y = n2 ∨ _ ≤ y); omega))
  have hMl : ∀ i : Nat, mL St0 i → b i < _ := fun i hi => hMod_lt hM hi
  refine z_astore_n (lv' := [(2, .ref (n2)), (1, .ref (n1)), (0, .ref (b9))]) S dL_law_15 hl rfl (by decide) rfl (fun ls hl => ?_)
  refine z_newc S hG zc_X3 tyX3 tyX3_ok q2_73 q2_74 q1_7 hS (fs := [.long 0, .null]) (fun j hj => by rcases (show j = 0 ∨ j = 1 by omega) with rfl | rfl <;> rfl) ⟨Nat.le_of_ble_eq_true rfl, Nat.le_of_ble_eq_true rfl⟩ dL_law_16 (fun n3 H_5 hq_n3 hat hz oq hS => ?_)
  have HP := zHp.kept HP (fun y hx _ => oq y hx)
  have XP := zXp.kept XP (fun y hx _ => oq y hx)
  have TX := zTx.kept TX (fun y hx _ => oq y hx)
  have hC := hCyc_keep hC (fun i hi => oq _ (hCyc_ltL hC hi))
  have hM := hMod_keep hM (fun i hi => oq _ (hMod_lt hM hi))
  have h_n3 := hat
  refine z_dup S dL_law_19 rfl ?_
  have hAll := (⟨hC, hM, h_n3, HP, XP, TX⟩ : _ ∧ _ ∧ _ ∧ _ ∧ _ ∧ _)
  refine z_callNI (host := "CyclepaintLaw") S hG hS (c_X3_init l G n3 (fun H => hCyc G St0 a H ∧ hMod G St0 b (0 : Int32) (zI 0) (zI 0) H ∧ va_at G.1 vwCl (n3, .inr (7, [.long 0, .null])) H ∧ zHp G H ∧ zXp G H ∧ zTx G H)) (fun _ h => h.elim) ok_X3_init q2_76 rfl (va_Nw.of rfl (hts _ qt2_75)) hAll ⟨rfl, rfl, by decide, by decide⟩ ⟨Nat.le_of_ble_eq_true rfl, Nat.le_of_ble_eq_true rfl⟩ rfl (Nat.le_of_ble_eq_true rfl) hl.1 rfl dL_law_20 (fun H_6 L_6 hB hz oq hS => ?_)
  obtain ⟨hC, hM, hO, HP, XP, TX⟩ := hB
  refine z_astore_n (lv' := [(3, .ref (n3)), (2, .ref (n2)), (1, .ref (n1)), (0, .ref (b9))]) S dL_law_23 hl rfl (by decide) rfl (fun ls hl => ?_)
  refine z_iconst S dL_law_24 ?_
  refine z_istore (lv' := [(4, .int (zI (0))), (3, .ref (n3)), (2, .ref (n2)), (1, .ref (n1)), (0, .ref (b9))]) S dL_law_25 hl (by decide) rfl (fun ls hl => ?_)
  refine z_fresh hS (fun hS => ?_)
  have I : zInv G St0 a St0 b (0 : Int32) (zI 0) (zI 0) n3 0 .null H_6 := by
    have lC : ∀ i : Nat, cL St0 i → i < 8 := fun i hi => by
      have h2 : i < 8 ∨ (8 ≤ i ∧ (i : Int) < 8 + 0) := hi
      omega
    have lM : ∀ i : Nat, mL St0 i → i < 5 := fun i hi => by
      have h2 : i < 5 ∨ (i = 5 ∧ (0 : Int) < 0) ∨ (i = 6 ∧ (0 : Int) < 0) ∨ (8 ≤ i ∧ (i : Int) < 8 + 0) ∨ (16 ≤ i ∧ (i : Int) < 16 + 0) := hi
      omega
    have hp4 : @LT.lt Nat _ (G.2 400) (G.2 99) := HP.2.2
    have b5n : @Eq Nat (b 5) (G.2 400) := b5
    have b6n : @Eq Nat (b 6) (G.2 400) := b6
    have hC9 : ∀ i : Nat, cL St0 i → a i = n1 ∨ (n1 < a i ∧ a i < n2) := fun i hi => by
      have h8 := lC i hi
      have hlt := hCl i hi
      by_cases z : i = 0
      · rw [z]; exact Or.inl ea
      · have := hCs i (by omega) h8
        right; omega
    have hM9 : ∀ i : Nat, mL St0 i → b i = n2 ∨ (n2 < b i ∧ b i < n3) := fun i hi => by
      have h8 := lM i hi
      have hlt := hMl i hi
      by_cases z : i = 0
      · rw [z]; exact Or.inl eb
      · have := hMs i (by omega) h8
        right; omega
    refine ⟨hC, hCi, hM, hMi, Or.inl ⟨b5, rfl⟩, Or.inl ⟨b6, rfl⟩, hO, HP, XP, TX, ⟨x4, x5⟩, fun i hi => ?_, fun i hi => ?_, by omega, fun i j hi hj => ?_, fun i hi => ?_, fun j hj => ?_, fun z => by omega, Int.le_refl _⟩
    · have := hC9 i hi; omega
    · have := hM9 i hi; omega
    · have := hC9 i hi
      rcases hj with hj | rfl | rfl
      · have := hM9 j hj; omega
      · omega
      · omega
    · have := hC9 i hi; omega
    · rcases hj with hj | rfl | rfl
      · have := hM9 j hj; omega
      · omega
      · omega
  refine W.widen (k := 100 + 1000 * 0) (n := 1000 + 10000 * 0) (Nat.le_of_ble_eq_true rfl) (Nat.le_of_ble_eq_true rfl) ?_
  exact lw_loop (o := n3) (ca := n1) (cm := n2) ⟨S, by unfold Launch.stackTraces; rw [hflags]; decide +kernel, hG, hX, hbl, hL, fun q hq => by omega⟩ (fun pc H ls d => lw_ret (Drawn.sameBut.refl s.drawn lw_cs) hx hb hr hlocks d) 513 0 St0 a b _ _ _ _ _ _ _ rfl hS I ea eb (lv_sub hl [4, 3, 2, 1, 0] rfl)
set_option maxHeartbeats 4000000 in
theorem lw_walk (l : Launch) (hflags : l.flags = flags0) (b : Addr) (xs : List Int32) : MetFree l x (headSpec (Jvm.Cond.code x code maxLocals ret :: tables_1) room_1) (lw_P b xs) (fun _ _ _ _ _ => True) lw_Q := by
  refine MetFree.of_bodyS (code := code) (maxLocals := maxLocals) (ret := ret) (by decide) ?_ ?_
  · intro args s m h hn
    obtain ⟨meth, c, h1, h2, h3, h4, h5, h6, -, -⟩ := Cond.code_spec hn (atoms_spec (ws := Jvm.Cond.code x code maxLocals ret :: tables_1) h _ List.mem_cons_self)
    exact ⟨meth, c, h1, h2, h3, h4, h5, h6⟩
  · intro p e s m args below meth c s₁ B hml0 hP _
    obtain ⟨rfl, hx, hbd, hgv⟩ := hP
    obtain ⟨scr, harrAt, hlist, hof, hsmall⟩ := hx
    obtain ⟨hcb, hkn, -, -⟩ := State.arrayAt?_spec harrAt
    have hown : s.vm.findClass R_law = some m.cls := findClass_of_methodNamed B.named
    have hts0 : ∀ c ∈ (Jvm.Cond.code x code maxLocals ret :: tables_1), c.before #[Value.ref b] s = true := atoms_spec (ws := Jvm.Cond.code x code maxLocals ret :: tables_1) B.pre
    have hts : ∀ w ∈ lw_tbl, w.before #[Value.ref b] s = true := k2_hts_sels lw_privs (fun w hw => hts0 w (List.mem_cons_of_mem _ hw)) lw_privs_ok
    have hml : c.maxLocals = 9 := B.maxLocals_eq (hts0 _ List.mem_cons_self)
    have X₀ : Stand p l e room_1 s m #[Value.ref b] below meth c s₁ [] 0 0 := Stand.of_body B
    have hh0 : s₁.heap = s.heap := by rw [B.state]; rfl
    have hsz : scr.slots.size = xs.length := by rw [← Array.length_toList, hlist, List.length_map]
    have hval : ∀ j : Nat, j < xs.length → scr.slots[j]? = some (.int (xs.getD j 0)) := fun j hj => by
      rw [← Array.getElem?_toList, hlist]
      simp [hj]
    have hbl : b < s.heap.size := (Array.getElem?_eq_some_iff.mp hcb).1
    have hX : va_X b xs.length (fun j => xs.getD j 0) s s.heap := ⟨scr, hcb, hof, hkn, hsz, hval⟩
    have K : W p l e room_1 s m #[Value.ref b] below meth c s₁.heap [] 0 0 (lw_Z below #[Value.ref b] s) (entryFrame m ([Value.ref b] : List Value).toArray 9) := by
      rw [hh0]
      exact whole_start l hflags hbd ⟨B.exec, B.bytes, B.returns, hml, hown, hts, hX, hbl, B.notSynchronized, hgv⟩
    obtain ⟨t, a1, o, b1, b2, b3⟩ := K s₁ rfl X₀
    exact ⟨t, o, a1, b1, b2, b3⟩
theorem lw_pre_spec {args : Array Value} {s : State} (h : (Jvm.Cond.and given_1 narrow_1).before args s = true) (hr : rest_1_c.before args s = true) : ∃ (b : Addr) (xs : List Int32), lw_P b xs args s := by
  have hs := flat_of_before _ h
  have hq := flat_of_before _ hr
  have hc : (Cond.count 1).before args s = true := hs _ (by decide +kernel)
  have harr : (Cond.arrayOf (.arg 0) .int).before args s = true := hs _ (by decide +kernel)
  have hle : (Cond.le (.length (.arg 0)) (.int 2560)).before args s = true := hs _ (by decide +kernel)
  have hlen : (Cond.isInt (.length (.arg 0))).before args s = true := hq _ (by decide +kernel)
  have hall : (Cond.all (.arg 0) (.isInt (.elem (.arg 0) (.index 0)))).before args s = true := hq _ (by decide +kernel)
  obtain ⟨b, xs, hb, hx⟩ := State.ints_of_pre rfl harr hlen hall
  have hsm : xs.length < 2 ^ 31 := hx.choose_spec.2.2.2
  have hev : (Term.length (.arg 0)).eval args s none [] s = some (.int xs.length.toInt32) := hx.length_eval hb
  have hv := Cond.le_ints hev (show (Term.int 2560).eval args s none [] s = some (.int 2560) from rfl)
  have hd : xs.length.toInt32 ≤ 2560 := by
    simpa [Cond.before, Cond.holds, hv] using hle
  have hN : xs.length ≤ 2560 := (Int32.ofNat_le_ofNat hsm (by decide)).mp (show Int32.ofNat xs.length ≤ Int32.ofNat 2560 from hd)
  exact ⟨b, xs, Cond.one_arg hc (show args[0]? = some (.ref b) from hb), hx, hN, h⟩
theorem lw_comes (l : Launch) (hflags : l.flags = flags0) : Comes l x (Jvm.Cond.code x code maxLocals ret :: tables_1) room_1 (fun tb e args s => Calls_1 tb e args s ∧ rest_1 tb e args s ∧ Pre_1 tb e args s)
    (fun _ _ args s o t => lw_Q args s o t) := by
  intro p e ha hc hk s m args below hf hfit hheap happ hpre
  obtain ⟨b, xs, hP⟩ := lw_pre_spec hpre.2.2 hpre.2.1
  obtain ⟨k, o, h1, h2, h3, hQ⟩ := lw_walk l hflags b xs p e ha hc hk s m args below hf ((Spec.applies_iff_loose hf).mp happ).1 hP trivial
  exact ⟨k, o, h1, h2, h3, hQ⟩
theorem lw_frame {s t : State} {o : Outcome} {args : Array Value} (h : State.butDraws s t lw_cs (fun t1 => Framed s o t1 [] 796102 6707797)) :
    State.butDraws s t [Jvm.Choice.named "NaN.bits"] (fun t1 => Framed s o t1 (fieldLocs frame_1_writes args s ++ arrayLocs frame_1_arrays args s ++ staticLocs frame_1_statics s) 796102 6707797) := h
theorem lw_limb (L : Cond) (hL : ∀ (args : Array Value) (s t : State), L.after args s (.returned (some (.int 1))) t = true) :
    ArmFor flags0 classFile x code maxLocals ret World_1 tables_1 room_1 Calls_1 rest_1 Pre_1
      (fun tb e a s o t => postC L tb e a s o t ∧ State.butDraws s t [Jvm.Choice.named "NaN.bits"] (fun t1 => Framed s o t1 (fieldLocs frame_1_writes a s ++ arrayLocs frame_1_arrays a s ++ staticLocs frame_1_statics s) 796102 6707797)) := by
  intro l hflags _ _ p e ha hc hk s m args below hf hfit hheap happ hpre
  obtain ⟨k, o, h1, h2, h3, rfl, hF⟩ := lw_comes l hflags p e ha hc hk s m args below hf hfit hheap happ hpre
  exact ⟨k, _, h1, h2, h3, hL args s _, lw_frame hF⟩
theorem i_vc : Claimed_1_1 ∧ Claimed_1_2 := ⟨lw_limb limb_1_1 (fun args s t => by simp [limb_1_1, Cond.after, Cond.holds, Cond.value]), lw_limb limb_1_2 (fun args s t => Cond.after_iff.mpr (by
  first | (rw [show limb_1_2 = Cond.eq .result (.int 1) from rfl, Cond.eq_ints (x := 1) (y := 1) rfl rfl]; simp; done) | (simp [limb_1_2, Cond.value, Term.eval]; done)))⟩
