/-! ===== texts, rows of bytes that stand at the start ===== -/
/-- a row of bytes that stood at the start: its length is told as an int -/
def zBw (c : ClassId) (v n : Nat) (H : Heap) : Prop := ∃ cell : Cell, H[v]? = some cell ∧ (∀ k, cell.vm ≠ .statics k) ∧ cell.vm ≠ .unknown ∧ cell.cls = c ∧ (n ≤ cell.slots.size ∧ cell.slots.size.toInt32 = zI n) ∧ ∀ j : Nat, j < n → ∃ x : Int32, cell.slots[j]? = some (.int x) ∧ fits .byte (.int x) = true
theorem zBw.kept {c : ClassId} {v n : Nat} {H H1 : Heap} (h : zBw c v n H) (hq : v < H.size → H1[v]? = H[v]?) : zBw c v n H1 := by
  obtain ⟨cell, h1, h2⟩ := h
  exact ⟨cell, by rw [hq (Array.getElem?_eq_some_iff.mp h1).1]; exact h1, h2⟩
theorem zBw.lt {c : ClassId} {v n : Nat} {H : Heap} (h : zBw c v n H) : v < H.size := by
  obtain ⟨cell, h1, -⟩ := h
  exact (Array.getElem?_eq_some_iff.mp h1).1
theorem zBy.w {c : ClassId} {v n : Nat} {H : Heap} (h : zBy c v n H) : zBw c v n H := by
  obtain ⟨cell, h1, h2, h3, h4, h5, h6⟩ := h
  exact ⟨cell, h1, h2, h3, h4, ⟨by omega, by rw [h5]; exact zI_nI n⟩, h6⟩
/-- a literal: its value and its coder -/
def hLt (G : zG) (q vq : Nat) (H : Heap) : Prop := ∃ cell : Cell, H[q]? = some cell ∧ cell.vm.isStatics = false ∧ cell.vm ≠ .unknown ∧ cell.cls = G.1.1 0 ∧ cell.slots[G.1.2 0 0]? = some (.ref vq) ∧ cell.slots[G.1.2 0 1]? = some (.int 0)
theorem hLt.kept {G : zG} {q vq : Nat} {H H1 : Heap} (h : hLt G q vq H) (hq : q < H.size → H1[q]? = H[q]?) : hLt G q vq H1 := by
  obtain ⟨cell, h1, h2⟩ := h
  exact ⟨cell, by rw [hq (Array.getElem?_eq_some_iff.mp h1).1]; exact h1, h2⟩
def zTx (G : zG) (H : Heap) : Prop := zStH G 1 (.int 1) H ∧ (∃ d : Nat, zStH G 2 (.ref d) H ∧ zBw (G.2 3) d 100 H ∧ d < G.2 99) ∧ (∃ d : Nat, zStH G 3 (.ref d) H ∧ zBw (G.2 3) d 100 H ∧ d < G.2 99) ∧ (∃ v : Nat, hLt G (G.2 500) v H ∧ zBw (G.2 3) v 0 H ∧ v < G.2 99) ∧ (∃ v : Nat, hLt G (G.2 501) v H ∧ zBw (G.2 3) v 1 H ∧ v < G.2 99) ∧ @LT.lt Nat _ (G.2 (100 + 1)) (G.2 99) ∧ @LT.lt Nat _ (G.2 (100 + 2)) (G.2 99) ∧ @LT.lt Nat _ (G.2 (100 + 3)) (G.2 99) ∧ @LT.lt Nat _ (G.2 500) (G.2 99) ∧ @LT.lt Nat _ (G.2 501) (G.2 99)
theorem zTx.kept {G : zG} {H H1 : Heap} (h : zTx G H) (hq : ∀ q : Nat, q < H.size → q < G.2 99 → H1[q]? = H[q]?) : zTx G H1 := by
  obtain ⟨h1, ⟨d, a1, a2, a3⟩, ⟨d2, b1, b2, b3⟩, ⟨v, c1, c2, c3⟩, ⟨v2, e1, e2, e3⟩, l1, l2, l3, l4, l5⟩ := h
  exact ⟨h1.kept (fun q hx e => hq q hx (by rw [e]; exact l1)), ⟨d, a1.kept (fun q hx e => hq q hx (by rw [e]; exact l2)), a2.kept (fun hx => hq _ hx a3), a3⟩, ⟨d2, b1.kept (fun q hx e => hq q hx (by rw [e]; exact l3)), b2.kept (fun hx => hq _ hx b3), b3⟩, ⟨v, c1.kept (fun hx => hq _ hx l4), c2.kept (fun hx => hq _ hx c3), c3⟩, ⟨v2, e1.kept (fun hx => hq _ hx l5), e2.kept (fun hx => hq _ hx e3), e3⟩, l1, l2, l3, l4, l5⟩
/-! ===== the law: what stands between two calls ===== -/
section ZL
variable {p : Program} {l : Launch} {e : Env} {R : Room} {s : State} {m : MethodId} {args : Array Value} {below : List Frame} {meth : Method} {c : Code} {H : Heap} {locs : List Loc} {cells slots : Nat} {Q : State → Prop}
variable {cc : ByteArray} {nL : Nat} {own : String} {pc : Nat} {ls : Array Slot} {rest : List Value} {G : zG} {A : Nat → Prop} {H0 : Heap}
theorem z_fresh {g : JFrame} (hS : va_S (fun q => s.heap.size ≤ q) s.heap H locs) (k : va_S (fun q => s.heap.size ≤ q) s.heap H [] → W p l e R s m args below meth c H [] cells slots Q g) : W p l e R s m args below meth c H locs cells slots Q g := fun T hT X => k ⟨hS.1, hS.2.1, fun _ h => nomatch h⟩ T hT { X with same := ⟨X.same.1, X.same.2.1, X.same.2.2.1, X.same.2.2.2.1, X.same.2.2.2.2.1, fun a c0 h => by
    obtain ⟨c', h1, h2, h3, h4⟩ := X.same.2.2.2.2.2 a c0 h
    exact ⟨c', h1, h2, h3, fun i _ => h4 i (fun hm => absurd (Array.getElem?_eq_some_iff.mp h).1 (Nat.not_lt.mpr (hS.2.2 _ hm)))⟩⟩ }
theorem z_callH (S : CallFix p m c cc nL s args lw_g own) (hG : zKn G s) (hS : va_S A H0 H locs) {y : MethodName} {bytes : ByteArray} {maxL na index mc ms : Nat} {ret : Option FieldType} {hh : List (Nat × Nat × Nat × Nat)} {rm : Room} {P B : Heap → Prop} {A1 : Nat → Prop} {v : Option Value} {As st : List Value} (hM : Met l y (wqH y bytes maxL ret hh) rm (va_Pc As (zK G P)) (zM A1 v B) mc ms A1) (hA : ∀ q, A1 q → A q) (hY : zOH y bytes maxL ret hh na) (hl : Cond.methodLink own index y ∈ lw_g) (hP : P H) (hR : zRM R rm maxL mc ms) (hcs : cells + mc ≤ R.cells ∧ slots + ms ≤ R.slots) (hn : As.length = na) (hrest : (rest.map fun v => v.category).sum ≤ 8) (hlz : ls.size = nL) (hst : st = As.reverse ++ rest) (d : decode cc pc = .ok (.invokestatic index, 3))
    (kk : ∀ (H1 : Heap) (locs1 : List Loc), B H1 → H.size ≤ H1.size → (∀ q : Nat, q < H.size → ¬ A1 q → H1[q]? = H[q]?) → va_S A H0 H1 locs1 → W p l e R s m args below meth c H1 locs1 (cells + mc) (slots + ms) Q (F0 m (pc + 3) ls (v.toList ++ rest))) : W p l e R s m args below meth c H locs cells slots Q (F0 m pc ls st) :=
  z_mend (vx_runSW (n := na) S hM ⟨⟨hR.1, hR.2.1, hR.2.2.1, hR.2.2.2, pay_in S.2.2.2.2 (zgood_wqH hY.1), List.mem_cons_self⟩, S.2.2.2.2 _ hY.1, S.2.2.2.2 _ hY.2.1, ⟨hY.2.2.2.1, hY.2.2.2.2.1⟩, fun sig h => by
      have h2 := hY.2.2.2.2.2
      rw [h] at h2
      exact (Option.some.inj h2).symm, S.2.2.2.2 _ hl, S.2.2.2.2 _ hY.2.2.1⟩ ⟨z_blind, fun U hU hW => ⟨rfl, by rw [hU]; exact hP, zKn.moved hW hG⟩⟩ rfl hn hlz hst (lv_room hrest) d hcs) hS hA kk
/-- a number of the script -/
theorem z_sld (S : CallFix p m c cc nL s args lw_g own) {b0 L : Nat} {xs : Nat → Int32} (hX : va_X b0 L xs s s.heap) (hb : b0 < s.heap.size) (hS : va_S (fun q => s.heap.size ≤ q) s.heap H locs) {i x : Int} (h0 : 0 ≤ i ∧ i < L) (hL : L ≤ 2560) (hx : xs i.toNat = zI x) (d : decode cc pc = .ok (.iaload, 1))
    (kk : W p l e R s m args below meth c H locs cells slots Q (F0 m (pc + 1) ls (.int (zI x) :: rest))) : W p l e R s m args below meth c H locs cells slots Q (F0 m pc ls (.int (zI i) :: .ref b0 :: rest)) := by
  have h1 : (zI i).toNatClampNeg = i.toNat := by
    have h2 : (zI i).toInt = i := zI_toInt (by omega)
    show (zI i).toInt.toNat = i.toNat
    rw [h2]
  refine va_sld S.1 S.2.1 hX hb (Nat.not_le.mpr hb) hS (zI_in ⟨h0.1, h0.2⟩ (by omega)) d ?_
  rw [h1, hx]
  exact kk
theorem z_lcmpE (S : CallFix p m c cc nL s args lw_g own) {x : Int64} (d : decode cc pc = .ok (.lcmp, 1)) (k : W p l e R s m args below meth c H locs cells slots Q (F0 m (pc + 1) ls (.int 0 :: rest))) : W p l e R s m args below meth c H locs cells slots Q (F0 m pc ls (.long x :: .long x :: rest)) := by
  have hexec := S.1
  have hb := S.2.1
  have h1 : ¬ x > x := Int64.lt_irrefl
  intro T hT X
  obtain ⟨t, a, b⟩ := k T hT X
  refine ⟨t, ?_, b⟩
  jvm_step X.here [X.here.top, hexec, hb, d, h1]
  exact a
theorem z_lcmpQ (S : CallFix p m c cc nL s args lw_g own) {x y : Int64} (hq : x = y) (d : decode cc pc = .ok (.lcmp, 1)) (k : W p l e R s m args below meth c H locs cells slots Q (F0 m (pc + 1) ls (.int 0 :: rest))) : W p l e R s m args below meth c H locs cells slots Q (F0 m pc ls (.long y :: .long x :: rest)) := by
  subst hq; exact z_lcmpE S d k
end ZL
def zInv (G : zG) (σ : St) (a : Nat → Nat) (τ : St) (b : Nat → Nat) (th m1 m2 : Int32) (o : Nat) (n0 : Int64) (sv : Value) (H : Heap) : Prop :=
  (hCyc G σ a H) ∧
  (inj a (cL σ)) ∧
  (hMod G τ b th m1 m2 H) ∧
  (inj b (mL τ)) ∧
  (zGr G τ b 5 τ.rn (elR τ b) H) ∧
  (zGr G τ b 6 τ.kn (elK τ b) H) ∧
  (hOut G o n0 sv H) ∧
  (zHp G H) ∧
  (zXp G H) ∧
  (zTx G H) ∧
  (@LT.lt Nat _ (G.2 (100 + 4)) (G.2 99) ∧ @LT.lt Nat _ (G.2 (100 + 5)) (G.2 99)) ∧
  (∀ i : Nat, cL σ i → a i ≥ G.2 99) ∧
  (∀ j : Nat, mL τ j → b j ≥ G.2 99) ∧
  (o ≥ G.2 99) ∧
  (∀ i j : Nat, cL σ i → (mL τ j ∨ j = 5 ∨ j = 6) → a i ≠ b j) ∧
  (∀ i : Nat, cL σ i → a i ≠ o) ∧
  (∀ j : Nat, (mL τ j ∨ j = 5 ∨ j = 6) → b j ≠ o) ∧
  (b 5 ≥ G.2 99 → b 5 ≠ b 6) ∧
  (0 ≤ τ.kn)
theorem zInv.C {G : zG} {σ : St} {a : Nat → Nat} {τ : St} {b : Nat → Nat} {th m1 m2 : Int32} {o : Nat} {n0 : Int64} {sv : Value} {H : Heap} (h : zInv G σ a τ b th m1 m2 o n0 sv H) : hCyc G σ a H := h.1
theorem zInv.iC {G : zG} {σ : St} {a : Nat → Nat} {τ : St} {b : Nat → Nat} {th m1 m2 : Int32} {o : Nat} {n0 : Int64} {sv : Value} {H : Heap} (h : zInv G σ a τ b th m1 m2 o n0 sv H) : inj a (cL σ) := h.2.1
theorem zInv.M {G : zG} {σ : St} {a : Nat → Nat} {τ : St} {b : Nat → Nat} {th m1 m2 : Int32} {o : Nat} {n0 : Int64} {sv : Value} {H : Heap} (h : zInv G σ a τ b th m1 m2 o n0 sv H) : hMod G τ b th m1 m2 H := h.2.2.1
theorem zInv.iM {G : zG} {σ : St} {a : Nat → Nat} {τ : St} {b : Nat → Nat} {th m1 m2 : Int32} {o : Nat} {n0 : Int64} {sv : Value} {H : Heap} (h : zInv G σ a τ b th m1 m2 o n0 sv H) : inj b (mL τ) := h.2.2.2.1
theorem zInv.g5 {G : zG} {σ : St} {a : Nat → Nat} {τ : St} {b : Nat → Nat} {th m1 m2 : Int32} {o : Nat} {n0 : Int64} {sv : Value} {H : Heap} (h : zInv G σ a τ b th m1 m2 o n0 sv H) : zGr G τ b 5 τ.rn (elR τ b) H := h.2.2.2.2.1
theorem zInv.g6 {G : zG} {σ : St} {a : Nat → Nat} {τ : St} {b : Nat → Nat} {th m1 m2 : Int32} {o : Nat} {n0 : Int64} {sv : Value} {H : Heap} (h : zInv G σ a τ b th m1 m2 o n0 sv H) : zGr G τ b 6 τ.kn (elK τ b) H := h.2.2.2.2.2.1
theorem zInv.O {G : zG} {σ : St} {a : Nat → Nat} {τ : St} {b : Nat → Nat} {th m1 m2 : Int32} {o : Nat} {n0 : Int64} {sv : Value} {H : Heap} (h : zInv G σ a τ b th m1 m2 o n0 sv H) : hOut G o n0 sv H := h.2.2.2.2.2.2.1
theorem zInv.hp {G : zG} {σ : St} {a : Nat → Nat} {τ : St} {b : Nat → Nat} {th m1 m2 : Int32} {o : Nat} {n0 : Int64} {sv : Value} {H : Heap} (h : zInv G σ a τ b th m1 m2 o n0 sv H) : zHp G H := h.2.2.2.2.2.2.2.1
theorem zInv.xp {G : zG} {σ : St} {a : Nat → Nat} {τ : St} {b : Nat → Nat} {th m1 m2 : Int32} {o : Nat} {n0 : Int64} {sv : Value} {H : Heap} (h : zInv G σ a τ b th m1 m2 o n0 sv H) : zXp G H := h.2.2.2.2.2.2.2.2.1
theorem zInv.tx {G : zG} {σ : St} {a : Nat → Nat} {τ : St} {b : Nat → Nat} {th m1 m2 : Int32} {o : Nat} {n0 : Int64} {sv : Value} {H : Heap} (h : zInv G σ a τ b th m1 m2 o n0 sv H) : zTx G H := h.2.2.2.2.2.2.2.2.2.1
theorem zInv.xl {G : zG} {σ : St} {a : Nat → Nat} {τ : St} {b : Nat → Nat} {th m1 m2 : Int32} {o : Nat} {n0 : Int64} {sv : Value} {H : Heap} (h : zInv G σ a τ b th m1 m2 o n0 sv H) : @LT.lt Nat _ (G.2 (100 + 4)) (G.2 99) ∧ @LT.lt Nat _ (G.2 (100 + 5)) (G.2 99) := h.2.2.2.2.2.2.2.2.2.2.1
theorem zInv.sa {G : zG} {σ : St} {a : Nat → Nat} {τ : St} {b : Nat → Nat} {th m1 m2 : Int32} {o : Nat} {n0 : Int64} {sv : Value} {H : Heap} (h : zInv G σ a τ b th m1 m2 o n0 sv H) : ∀ i : Nat, cL σ i → a i ≥ G.2 99 := h.2.2.2.2.2.2.2.2.2.2.2.1
theorem zInv.sb {G : zG} {σ : St} {a : Nat → Nat} {τ : St} {b : Nat → Nat} {th m1 m2 : Int32} {o : Nat} {n0 : Int64} {sv : Value} {H : Heap} (h : zInv G σ a τ b th m1 m2 o n0 sv H) : ∀ j : Nat, mL τ j → b j ≥ G.2 99 := h.2.2.2.2.2.2.2.2.2.2.2.2.1
theorem zInv.so {G : zG} {σ : St} {a : Nat → Nat} {τ : St} {b : Nat → Nat} {th m1 m2 : Int32} {o : Nat} {n0 : Int64} {sv : Value} {H : Heap} (h : zInv G σ a τ b th m1 m2 o n0 sv H) : o ≥ G.2 99 := h.2.2.2.2.2.2.2.2.2.2.2.2.2.1
theorem zInv.ab {G : zG} {σ : St} {a : Nat → Nat} {τ : St} {b : Nat → Nat} {th m1 m2 : Int32} {o : Nat} {n0 : Int64} {sv : Value} {H : Heap} (h : zInv G σ a τ b th m1 m2 o n0 sv H) : ∀ i j : Nat, cL σ i → (mL τ j ∨ j = 5 ∨ j = 6) → a i ≠ b j := h.2.2.2.2.2.2.2.2.2.2.2.2.2.2.1
theorem zInv.ao {G : zG} {σ : St} {a : Nat → Nat} {τ : St} {b : Nat → Nat} {th m1 m2 : Int32} {o : Nat} {n0 : Int64} {sv : Value} {H : Heap} (h : zInv G σ a τ b th m1 m2 o n0 sv H) : ∀ i : Nat, cL σ i → a i ≠ o := h.2.2.2.2.2.2.2.2.2.2.2.2.2.2.2.1
theorem zInv.bo {G : zG} {σ : St} {a : Nat → Nat} {τ : St} {b : Nat → Nat} {th m1 m2 : Int32} {o : Nat} {n0 : Int64} {sv : Value} {H : Heap} (h : zInv G σ a τ b th m1 m2 o n0 sv H) : ∀ j : Nat, (mL τ j ∨ j = 5 ∨ j = 6) → b j ≠ o := h.2.2.2.2.2.2.2.2.2.2.2.2.2.2.2.2.1
theorem zInv.b56 {G : zG} {σ : St} {a : Nat → Nat} {τ : St} {b : Nat → Nat} {th m1 m2 : Int32} {o : Nat} {n0 : Int64} {sv : Value} {H : Heap} (h : zInv G σ a τ b th m1 m2 o n0 sv H) : b 5 ≥ G.2 99 → b 5 ≠ b 6 := h.2.2.2.2.2.2.2.2.2.2.2.2.2.2.2.2.2.1
theorem zInv.k0 {G : zG} {σ : St} {a : Nat → Nat} {τ : St} {b : Nat → Nat} {th m1 m2 : Int32} {o : Nat} {n0 : Int64} {sv : Value} {H : Heap} (h : zInv G σ a τ b th m1 m2 o n0 sv H) : 0 ≤ τ.kn := h.2.2.2.2.2.2.2.2.2.2.2.2.2.2.2.2.2.2
section ZV
variable {G : zG} {σ τ : St} {a b : Nat → Nat} {th m1 m2 : Int32} {o : Nat} {n0 : Int64} {sv : Value} {H H1 : Heap} {A1 : Nat → Prop}
theorem hCyc_ltL (h : hCyc G σ a H) {i : Nat} (hi : cL σ i) : a i < H.size := by
  obtain ⟨h0, h5, h6, h7, h8, -⟩ := h
  obtain ⟨h1, h2, h3, h4, hj, -⟩ := h8
  rcases hi with hi | ⟨hi, hi2⟩
  · rcases (show i = 0 ∨ i = 1 ∨ i = 2 ∨ i = 3 ∨ i = 4 ∨ i = 5 ∨ i = 6 ∨ i = 7 by omega) with rfl | rfl | rfl | rfl | rfl | rfl | rfl | rfl
    · exact va_lt h0
    · exact va_lt h1
    · exact va_lt h2
    · exact va_lt h3
    · exact va_lt h4
    · exact va_lt h5
    · exact va_lt h6
    · exact va_lt h7
  · have := hj ((i : Int) - 8) (by omega) (by omega)
    have e : 8 + ((i : Int) - 8).toNat = i := by omega
    rw [e] at this
    exact va_lt this
theorem zInv.lo (h : zInv G σ a τ b th m1 m2 o n0 sv H) : o < H.size := va_lt h.O
theorem zInv.l5 (h : zInv G σ a τ b th m1 m2 o n0 sv H) : b 5 < H.size := by
  rcases h.g5 with g | g
  · have := h.hp.2.2; have := h.lo; have := h.so; rw [g.1]; omega
  · exact va_lt g.1
theorem zInv.l6 (h : zInv G σ a τ b th m1 m2 o n0 sv H) : b 6 < H.size := by
  rcases h.g6 with g | g
  · have := h.hp.2.2; have := h.lo; have := h.so; rw [g.1]; omega
  · exact va_lt g.1
theorem zInv.lb (h : zInv G σ a τ b th m1 m2 o n0 sv H) {j : Nat} (hj : mL τ j ∨ j = 5 ∨ j = 6) : b j < H.size := by
  rcases hj with hj | rfl | rfl
  · exact hMod_lt h.M hj
  · exact h.l5
  · exact h.l6
/-- the class moved on -/
theorem zInv.stepC (h : zInv G σ a τ b th m1 m2 o n0 sv H) {σ' : St} {a' : Nat → Nat} {n' : Int64} {sv' : Value} (oq : ∀ q : Nat, q < H.size → ¬ A1 q → H1[q]? = H[q]?) (hA : ∀ q : Nat, q < H.size → A1 q → cA σ a q ∨ q = o) (C : hCyc G σ' a' H1) (iC : inj a' (cL σ')) (O : hOut G o n' sv' H1) (hn : ∀ i : Nat, cL σ' i → (∃ k : Nat, cL σ k ∧ a' i = a k) ∨ H.size ≤ a' i) : zInv G σ' a' τ b th m1 m2 o n' sv' H1 := by
  have hs := h.lo; have hs9 := h.so
  have kb : ∀ j : Nat, (mL τ j ∨ j = 5 ∨ j = 6) → H1[b j]? = H[b j]? := fun j hj => oq _ (h.lb hj) (fun z => by
    rcases hA _ (h.lb hj) z with ⟨i, hi, e⟩ | e
    · exact h.ab i j hi hj e.symm
    · exact h.bo j hj e)
  have k9 : ∀ q : Nat, q < H.size → q < G.2 99 → H1[q]? = H[q]? := fun q hq h9 => oq q hq (fun z => by
    rcases hA _ hq z with ⟨i, hi, e⟩ | e
    · have := h.sa i hi; omega
    · omega)
  have M' := hMod_keep h.M (fun i hi => kb i (Or.inl hi))
  refine ⟨C, iC, M', h.iM, ?_, ?_, O, zHp.kept h.hp k9, zXp.kept h.xp (fun q hq z => k9 q hq (by have h1 := h.xl.1; have h2 := h.xl.2; rcases z with z | z <;> (rw [z]; assumption))), zTx.kept h.tx k9, h.xl, fun i hi => ?_, h.sb, h.so, fun i j hi hj => ?_, fun i hi => ?_, h.bo, h.b56, h.k0⟩
  · rcases h.g5 with g | g
    · exact Or.inl g
    · exact Or.inr ⟨va_at.kept g.1 (kb 5 (Or.inr (Or.inl rfl))), g.2⟩
  · rcases h.g6 with g | g
    · exact Or.inl g
    · exact Or.inr ⟨va_at.kept g.1 (kb 6 (Or.inr (Or.inr rfl))), g.2⟩
  · rcases hn i hi with ⟨k, hk, e⟩ | z
    · rw [e]; exact h.sa k hk
    · omega
  · rcases hn i hi with ⟨k, hk, e⟩ | z
    · rw [e]; exact h.ab k j hk hj
    · have := h.lb hj; omega
  · rcases hn i hi with ⟨k, hk, e⟩ | z
    · rw [e]; exact h.ao k hk
    · omega
/-- the reference moved on -/
theorem zInv.stepM (h : zInv G σ a τ b th m1 m2 o n0 sv H) {τ' : St} {b' : Nat → Nat} {th' m1' m2' : Int32} (oq : ∀ q : Nat, q < H.size → ¬ A1 q → H1[q]? = H[q]?) (hA : ∀ q : Nat, q < H.size → A1 q → mA τ b q ∨ ((q = b 5 ∨ q = b 6) ∧ q ≥ G.2 99)) (M : hMod G τ' b' th' m1' m2' H1) (iM : inj b' (mL τ')) (g5 : zGr G τ' b' 5 τ'.rn (elR τ' b') H1) (g6 : zGr G τ' b' 6 τ'.kn (elK τ' b') H1) (hn : ∀ j : Nat, (mL τ' j ∨ j = 5 ∨ j = 6) → (∃ k : Nat, (mL τ k ∨ k = 5 ∨ k = 6) ∧ b' j = b k) ∨ H.size ≤ b' j) (hge : ∀ j : Nat, mL τ' j → b' j ≥ G.2 99) (h56 : b' 5 ≥ G.2 99 → b' 5 ≠ b' 6) (k0 : 0 ≤ τ'.kn) : zInv G σ a τ' b' th' m1' m2' o n0 sv H1 := by
  have hs := h.lo; have hs9 := h.so
  have hA2 : ∀ q : Nat, q < H.size → A1 q → q ≥ G.2 99 ∧ ∃ k : Nat, (mL τ k ∨ k = 5 ∨ k = 6) ∧ q = b k := fun q hq z => by
    rcases hA q hq z with ⟨i, hi, e⟩ | ⟨e | e, g⟩
    · exact ⟨by rw [e]; exact h.sb i hi, i, Or.inl hi, e⟩
    · exact ⟨g, 5, Or.inr (Or.inl rfl), e⟩
    · exact ⟨g, 6, Or.inr (Or.inr rfl), e⟩
  have ka : ∀ i : Nat, cL σ i → H1[a i]? = H[a i]? := fun i hi => oq _ (hCyc_ltL h.C hi) (fun z => by
    obtain ⟨-, k, hk, e⟩ := hA2 _ (hCyc_ltL h.C hi) z
    exact h.ab i k hi hk e)
  have ko : H1[o]? = H[o]? := oq _ hs (fun z => by
    obtain ⟨-, k, hk, e⟩ := hA2 _ hs z
    exact h.bo k hk e.symm)
  have k9 : ∀ q : Nat, q < H.size → q < G.2 99 → H1[q]? = H[q]? := fun q hq h9 => oq q hq (fun z => by
    have := (hA2 _ hq z).1; omega)
  refine ⟨hCyc_keep h.C ka, h.iC, M, iM, g5, g6, va_at.kept h.O ko, zHp.kept h.hp k9, zXp.kept h.xp (fun q hq z => k9 q hq (by have h1 := h.xl.1; have h2 := h.xl.2; rcases z with z | z <;> (rw [z]; assumption))), zTx.kept h.tx k9, h.xl, h.sa, hge, h.so, fun i j hi hj => ?_, h.ao, fun j hj => ?_, h56, k0⟩
  · rcases hn j hj with ⟨k, hk, e⟩ | z
    · rw [e]; exact h.ab i k hi hk
    · have := hCyc_ltL h.C hi; omega
  · rcases hn j hj with ⟨k, hk, e⟩ | z
    · rw [e]; exact h.bo k hk
    · omega
/-- the reference moved on, its lists as long as they were -/
theorem zInv.stepN (h : zInv G σ a τ b th m1 m2 o n0 sv H) {τ' : St} {th' m1' m2' : Int32} (oq : ∀ q : Nat, q < H.size → ¬ A1 q → H1[q]? = H[q]?) (hA : ∀ q : Nat, q < H.size → A1 q → mA τ b q) (M : hMod G τ' b th' m1' m2' H1) (hr : τ'.rn = τ.rn) (hk : τ'.kn = τ.kn) : zInv G σ a τ' b th' m1' m2' o n0 sv H1 := by
  have eL : ∀ j : Nat, mL τ' j ↔ mL τ j := fun j => by unfold mL; rw [hr, hk]
  have eR : elR τ' b = elR τ b := by unfold elR; rw [hr]
  have eK : elK τ' b = elK τ b := by unfold elK; rw [hk]
  refine h.stepM oq (fun q hq z => Or.inl (hA q hq z)) M (fun i j hi hj e => h.iM i j ((eL i).mp hi) ((eL j).mp hj) e) ?_ ?_ (fun j hj => Or.inl ⟨j, hj.imp_left (eL j).mp, rfl⟩) (fun j hj => h.sb j ((eL j).mp hj)) h.b56 (by rw [hk]; exact h.k0)
  · have g := zGr_keepR h.g5 M hr oq hA
    rw [eR, hr]
    exact g.imp_right (fun g => ⟨g.1, fun j hj => g.2.1 j ((eL j).mp hj), g.2.2⟩)
  · have g := zGr_keepK h.g6 M hk h.k0 oq hA
    rw [eK, hk]
    exact g.imp_right (fun g => ⟨g.1, fun j hj => g.2.1 j ((eL j).mp hj), g.2.2⟩)
theorem zGr_5 {H : Heap} (M : hMod G τ b th m1 m2 H) (iM : inj b (mL τ)) (h : 0 < τ.rn) (ge : b 5 ≥ G.2 99) : zGr G τ b 5 τ.rn (elR τ b) H := Or.inr ⟨M.2.2.2.2.2.1 h, fun j hj hne e => hne (iM j 5 hj (mL_5 h) e), ge⟩
theorem zGr_6 {H : Heap} (M : hMod G τ b th m1 m2 H) (iM : inj b (mL τ)) (h : 0 < τ.kn) (ge : b 6 ≥ G.2 99) : zGr G τ b 6 τ.kn (elK τ b) H := Or.inr ⟨M.2.2.2.2.2.2.1 h, fun j hj hne e => hne (iM j 6 hj (mL_6 h) e), ge⟩
theorem elK_del {σ : St} {b : Nat → Nat} {j : Int} : elK (delS σ j) (delB b j) = elK σ b := by
  funext t
  show (if 0 ≤ t ∧ t < σ.kn then some (delB b j (16 + t.toNat)) else none) = if 0 ≤ t ∧ t < σ.kn then some (b (16 + t.toNat)) else none
  rw [delB_s b j (by omega)]
theorem elK_addR {σ : St} {b : Nat → Nat} {e q : Nat} {f len sp k : Int} (h4 : 0 ≤ σ.rn ∧ σ.rn ≤ 4) : elK (addS σ f len sp k) (addB σ b e q) = elK σ b := by
  funext t
  show (if 0 ≤ t ∧ t < σ.kn then some (addB σ b e q (16 + t.toNat)) else none) = if 0 ≤ t ∧ t < σ.kn then some (b (16 + t.toNat)) else none
  rw [addB_o (by omega) (by omega)]
theorem elR_addK {σ : St} {b : Nat → Nat} {e q : Nat} {g : Int → Int32} (h4 : 0 ≤ σ.rn ∧ σ.rn ≤ 4) (h0 : 0 ≤ σ.kn) : elR (addKS σ g) (addKB σ b e q) = elR σ b := by
  funext t
  show (if 0 ≤ t ∧ t < σ.rn then some (addKB σ b e q (8 + t.toNat)) else none) = if 0 ≤ t ∧ t < σ.rn then some (b (8 + t.toNat)) else none
  by_cases z : 0 ≤ t ∧ t < σ.rn
  · rw [if_pos z, if_pos z, addKB_o (by omega) (by omega)]
  · rw [if_neg z, if_neg z]
theorem mL_del {σ : St} {b : Nat → Nat} {j : Int} {k : Nat} (j0 : 0 ≤ j) (j1 : j < σ.rn) (hk : mL (delS σ j) k ∨ k = 5 ∨ k = 6) : ∃ k' : Nat, (mL σ k' ∨ k' = 5 ∨ k' = 6) ∧ delB b j k = b k' ∧ (k ≠ 5 → k' ≠ 5) ∧ (k ≠ 6 → k' ≠ 6) ∧ (mL (delS σ j) k → mL σ k') := by
  have hk2 : (k < 5 ∨ (k = 5 ∧ 0 < σ.rn - 1) ∨ (k = 6 ∧ 0 < σ.kn) ∨ (8 ≤ k ∧ (k : Int) < 8 + (σ.rn - 1)) ∨ (16 ≤ k ∧ (k : Int) < 16 + σ.kn)) ∨ k = 5 ∨ k = 6 := hk
  unfold delB
  by_cases q : 8 + j.toNat ≤ k ∧ k < 16
  · refine ⟨k + 1, Or.inl ?_, by rw [if_pos q], by omega, by omega, fun _ => ?_⟩ <;> (unfold mL; omega)
  · refine ⟨k, ?_, by rw [if_neg q], id, id, fun h => ?_⟩
    · unfold mL; omega
    · have h2 : k < 5 ∨ (k = 5 ∧ 0 < σ.rn - 1) ∨ (k = 6 ∧ 0 < σ.kn) ∨ (8 ≤ k ∧ (k : Int) < 8 + (σ.rn - 1)) ∨ (16 ≤ k ∧ (k : Int) < 16 + σ.kn) := h
      unfold mL; omega
/-- the reference took a range away -/
theorem zInv.stepDel (h : zInv G σ a τ b th m1 m2 o n0 sv H) {j : Int} {th' m1' m2' : Int32} (j0 : 0 ≤ j) (j1 : j < τ.rn) (oq : ∀ q : Nat, q < H.size → ¬ mA τ b q → H1[q]? = H[q]?) (M : hMod G (delS τ j) (delB b j) th' m1' m2' H1) (hE : hEd G (b 5) (delO (elR τ b) j τ.rn) H1) : zInv G σ a (delS τ j) (delB b j) th' m1' m2' o n0 sv H1 := by
  have h4 : τ.rn ≤ 4 := h.M.2.2.2.2.2.2.2.2.2.1.2
  have d5 : delB b j 5 = b 5 := delB_s b j (by decide)
  have d6 : delB b j 6 = b 6 := delB_s b j (by decide)
  have iM := inj_del h.iM j0 j1 h4
  have k6 : τ.kn = (delS τ j).kn := rfl
  refine h.stepM oq (fun q _ z => Or.inl z) M iM ?_ ?_ (fun k hk => ?_) (fun k hk => ?_) (by rw [d5, d6]; exact h.b56) h.k0
  · refine Or.inr ⟨by rw [d5, elR_del j0 j1 h4]; exact hE, fun k hk hne e => ?_, by rw [d5]; exact h.sb 5 (mL_5 (by omega))⟩
    obtain ⟨k', -, e1, h5, -, h6⟩ := mL_del (b := b) j0 j1 (Or.inl hk)
    rw [d5, e1] at e
    exact h5 hne (h.iM k' 5 (h6 hk) (mL_5 (by omega)) e)
  · rw [elK_del]
    rcases h.g6 with g | g
    · exact Or.inl ⟨by rw [d6]; exact g.1, g.2⟩
    · by_cases z : 0 < τ.kn
      · have := zGr_6 M iM z (by rw [d6]; exact g.2.2)
        rw [elK_del] at this
        exact this
      · have k1 := oq (b 6) h.l6 (fun ⟨i, hi, e⟩ => by
          by_cases w : i = 6
          · have hi2 : i < 5 ∨ (i = 5 ∧ 0 < τ.rn) ∨ (i = 6 ∧ 0 < τ.kn) ∨ (8 ≤ i ∧ (i : Int) < 8 + τ.rn) ∨ (16 ≤ i ∧ (i : Int) < 16 + τ.kn) := hi
            omega
          · exact g.2.1 i hi w e.symm)
        refine Or.inr ⟨by rw [d6]; exact va_at.kept g.1 k1, fun k hk hne e => ?_, by rw [d6]; exact g.2.2⟩
        obtain ⟨k', -, e1, -, h5, h6⟩ := mL_del (b := b) j0 j1 (Or.inl hk)
        rw [d6, e1] at e
        exact g.2.1 k' (h6 hk) (h5 hne) e
  · obtain ⟨k', hk', e1, -⟩ := mL_del (b := b) j0 j1 hk
    exact Or.inl ⟨k', hk', e1⟩
  · obtain ⟨k', -, e1, -, -, h6⟩ := mL_del (b := b) j0 j1 (Or.inl hk)
    rw [e1]; exact h.sb k' (h6 hk)
theorem mL_addR {σ : St} {k : Nat} {f len sp kd : Int} (h0 : 0 ≤ σ.rn) (hk : mL (addS σ f len sp kd) k) : k = 5 ∨ k = 8 + σ.rn.toNat ∨ mL σ k := by
  have hk2 : k < 5 ∨ (k = 5 ∧ 0 < σ.rn + 1) ∨ (k = 6 ∧ 0 < σ.kn) ∨ (8 ≤ k ∧ (k : Int) < 8 + (σ.rn + 1)) ∨ (16 ≤ k ∧ (k : Int) < 16 + σ.kn) := hk
  unfold mL; omega
theorem mL_addK {σ : St} {k : Nat} {g : Int → Int32} (h0 : 0 ≤ σ.kn) (hk : mL (addKS σ g) k) : k = 6 ∨ k = 16 + σ.kn.toNat ∨ mL σ k := by
  have hk2 : k < 5 ∨ (k = 5 ∧ 0 < σ.rn) ∨ (k = 6 ∧ 0 < σ.kn + 1) ∨ (8 ≤ k ∧ (k : Int) < 8 + σ.rn) ∨ (16 ≤ k ∧ (k : Int) < 16 + (σ.kn + 1)) := hk
  unfold mL; omega
/-- the reference took a range in -/
theorem zInv.stepR (h : zInv G σ a τ b th m1 m2 o n0 sv H) {f len sp kd : Int} {e q : Nat} {th' m1' m2' : Int32} (h4 : τ.rn < 4) (oq : ∀ y : Nat, y < H.size → ¬ (mA τ b y ∨ H.size ≤ y ∨ (y = b 5 ∧ y ≥ G.2 99)) → H1[y]? = H[y]?) (M : hMod G (addS τ f len sp kd) (addB τ b e q) th' m1' m2' H1) (hq : H.size ≤ q) (hqe : q ≠ e) (he : H.size ≤ e ∨ (e = b 5 ∧ e ≥ G.2 99 ∧ ∀ j : Nat, mL τ j → j ≠ 5 → b j ≠ e)) : zInv G σ a (addS τ f len sp kd) (addB τ b e q) th' m1' m2' o n0 sv H1 := by
  have hs := h.lo; have hs9 := h.so
  have hr : 0 ≤ τ.rn := h.M.2.2.2.2.2.2.2.2.2.1.1
  have hne : ∀ i : Nat, mL τ i → i ≠ 5 → b i ≠ e := fun i hi h5 => by
    rcases he with he | he
    · have := h.lb (Or.inl hi); omega
    · exact he.2.2 i hi h5
  have iM := inj_addR (f := f) (len := len) (sp := sp) (k := kd) h.iM hr h4 (fun i hi z => by have := h.lb (Or.inl hi); omega) hne hqe
  have e9 : e ≥ G.2 99 := by
    rcases he with he | he
    · omega
    · exact he.2.1
  have d6 : addB τ b e q 6 = b 6 := addB_o (by decide) (by omega)
  have r1 : 0 < (addS τ f len sp kd).rn := by show 0 < τ.rn + 1; omega
  refine h.stepM oq (fun y hy z => ?_) M iM (zGr_5 M iM r1 (by rw [addB_5]; exact e9)) ?_ (fun k hk => ?_) (fun k hk => ?_) (fun g => ?_) h.k0
  · rcases z with z | z | z
    · exact Or.inl z
    · omega
    · exact Or.inr ⟨Or.inl z.1, z.2⟩
  · rw [elK_addR ⟨hr, by omega⟩]
    rcases h.g6 with g | g
    · exact Or.inl ⟨by rw [d6]; exact g.1, g.2⟩
    · by_cases z : 0 < τ.kn
      · have := zGr_6 M iM z (by rw [d6]; exact g.2.2)
        rw [elK_addR ⟨hr, by omega⟩] at this
        exact this
      · have k1 := oq (b 6) h.l6 (fun w => by
          rcases w with ⟨i, hi, e1⟩ | w | w
          · by_cases w : i = 6
            · have hi2 : i < 5 ∨ (i = 5 ∧ 0 < τ.rn) ∨ (i = 6 ∧ 0 < τ.kn) ∨ (8 ≤ i ∧ (i : Int) < 8 + τ.rn) ∨ (16 ≤ i ∧ (i : Int) < 16 + τ.kn) := hi
              omega
            · exact g.2.1 i hi w e1.symm
          · have := h.l6; omega
          · exact h.b56 (by rw [← w.1]; exact w.2) w.1.symm)
        refine Or.inr ⟨by rw [d6]; exact va_at.kept g.1 k1, fun k hk hk6 e1 => ?_, by rw [d6]; exact g.2.2⟩
        rw [d6] at e1
        rcases mL_addR hr hk with rfl | rfl | hk
        · rw [addB_5] at e1
          rcases he with he | he
          · have := h.l6; omega
          · exact h.b56 (by rw [← he.1]; exact he.2.1) (by rw [← he.1]; exact e1)
        · rw [addB_q] at e1
          have := h.l6; omega
        · by_cases k5 : k = 5
          · rw [k5, addB_5] at e1
            rcases he with he | he
            · have := h.l6; omega
            · exact h.b56 (by rw [← he.1]; exact he.2.1) (by rw [← he.1]; exact e1)
          · by_cases k8 : k = 8 + τ.rn.toNat
            · rw [k8, addB_q] at e1
              have := h.l6; omega
            · rw [addB_o k5 k8] at e1
              exact g.2.1 k hk hk6 e1
  · by_cases k5 : k = 5
    · rw [k5, addB_5]
      rcases he with he | he
      · exact Or.inr he
      · exact Or.inl ⟨5, Or.inr (Or.inl rfl), he.1⟩
    · by_cases k8 : k = 8 + τ.rn.toNat
      · rw [k8, addB_q]; exact Or.inr hq
      · rw [addB_o k5 k8]
        refine Or.inl ⟨k, ?_, rfl⟩
        rcases hk with hk | hk
        · rcases mL_addR hr hk with z | z | z
          · exact absurd z k5
          · exact absurd z k8
          · exact Or.inl z
        · exact Or.inr hk
  · by_cases k5 : k = 5
    · rw [k5, addB_5]; exact e9
    · by_cases k8 : k = 8 + τ.rn.toNat
      · rw [k8, addB_q]; omega
      · rw [addB_o k5 k8]
        rcases mL_addR hr hk with z | z | z
        · exact absurd z k5
        · exact absurd z k8
        · exact h.sb k z
  · rw [addB_5, d6]
    rcases he with he | he
    · have := h.l6; omega
    · rw [he.1]; exact h.b56 (by rw [← he.1]; exact he.2.1)
/-- the reference kept a picture -/
theorem zInv.stepK (h : zInv G σ a τ b th m1 m2 o n0 sv H) {gf : Int → Int32} {e q : Nat} {th' m1' m2' : Int32} (oq : ∀ y : Nat, y < H.size → ¬ (mA τ b y ∨ H.size ≤ y ∨ (y = b 6 ∧ y ≥ G.2 99)) → H1[y]? = H[y]?) (M : hMod G (addKS τ gf) (addKB τ b e q) th' m1' m2' H1) (hq : H.size ≤ q) (hqe : q ≠ e) (he : H.size ≤ e ∨ (e = b 6 ∧ e ≥ G.2 99 ∧ ∀ j : Nat, mL τ j → j ≠ 6 → b j ≠ e)) : zInv G σ a (addKS τ gf) (addKB τ b e q) th' m1' m2' o n0 sv H1 := by
  have hs := h.lo; have hs9 := h.so
  have hr : 0 ≤ τ.rn ∧ τ.rn ≤ 4 := h.M.2.2.2.2.2.2.2.2.2.1
  have hk0 := h.k0
  have hne : ∀ i : Nat, mL τ i → i ≠ 6 → b i ≠ e := fun i hi h5 => by
    rcases he with he | he
    · have := h.lb (Or.inl hi); omega
    · exact he.2.2 i hi h5
  have iM := inj_addK (g := gf) h.iM h.k0 hr (fun i hi z => by have := h.lb (Or.inl hi); omega) hne hqe
  have e9 : e ≥ G.2 99 := by
    rcases he with he | he
    · omega
    · exact he.2.1
  have d5 : addKB τ b e q 5 = b 5 := addKB_o (by decide) (by omega)
  have r1 : 0 < (addKS τ gf).kn := by show 0 < τ.kn + 1; omega
  refine h.stepM oq (fun y hy z => ?_) M iM ?_ (zGr_6 M iM r1 (by rw [addKB_6]; exact e9)) (fun k hk => ?_) (fun k hk => ?_) (fun g => ?_) (by show 0 ≤ τ.kn + 1; omega)
  · rcases z with z | z | z
    · exact Or.inl z
    · omega
    · exact Or.inr ⟨Or.inr z.1, z.2⟩
  · rw [elR_addK hr h.k0]
    rcases h.g5 with g | g
    · exact Or.inl ⟨by rw [d5]; exact g.1, g.2⟩
    · by_cases z : 0 < τ.rn
      · have := zGr_5 M iM z (by rw [d5]; exact g.2.2)
        rw [elR_addK hr h.k0] at this
        exact this
      · have k1 := oq (b 5) h.l5 (fun w => by
          rcases w with ⟨i, hi, e1⟩ | w | w
          · by_cases w : i = 5
            · have hi2 : i < 5 ∨ (i = 5 ∧ 0 < τ.rn) ∨ (i = 6 ∧ 0 < τ.kn) ∨ (8 ≤ i ∧ (i : Int) < 8 + τ.rn) ∨ (16 ≤ i ∧ (i : Int) < 16 + τ.kn) := hi
              omega
            · exact g.2.1 i hi w e1.symm
          · have := h.l5; omega
          · exact h.b56 g.2.2 w.1)
        refine Or.inr ⟨by rw [d5]; exact va_at.kept g.1 k1, fun k hk hk6 e1 => ?_, by rw [d5]; exact g.2.2⟩
        rw [d5] at e1
        by_cases k6 : k = 6
        · rw [k6, addKB_6] at e1
          rcases he with he | he
          · have := h.l5; omega
          · exact h.b56 g.2.2 (by rw [← he.1]; exact e1.symm)
        · by_cases k8 : k = 16 + τ.kn.toNat
          · rw [k8, addKB_q] at e1
            have := h.l5; omega
          · rw [addKB_o k6 k8] at e1
            rcases mL_addK h.k0 hk with z | z | z
            · exact absurd z k6
            · exact absurd z k8
            · exact g.2.1 k z hk6 e1
  · by_cases k6 : k = 6
    · rw [k6, addKB_6]
      rcases he with he | he
      · exact Or.inr he
      · exact Or.inl ⟨6, Or.inr (Or.inr rfl), he.1⟩
    · by_cases k8 : k = 16 + τ.kn.toNat
      · rw [k8, addKB_q]; exact Or.inr hq
      · rw [addKB_o k6 k8]
        refine Or.inl ⟨k, ?_, rfl⟩
        rcases hk with hk | hk
        · rcases mL_addK h.k0 hk with z | z | z
          · exact absurd z k6
          · exact absurd z k8
          · exact Or.inl z
        · exact Or.inr hk
  · by_cases k6 : k = 6
    · rw [k6, addKB_6]; exact e9
    · by_cases k8 : k = 16 + τ.kn.toNat
      · rw [k8, addKB_q]; omega
      · rw [addKB_o k6 k8]
        rcases mL_addK h.k0 hk with z | z | z
        · exact absurd z k6
        · exact absurd z k8
        · exact h.sb k z
  · rw [d5] at g
    rw [d5, addKB_6]
    rcases he with he | he
    · have := h.l5; omega
    · rw [he.1]; exact h.b56 g
/-- a range, a picture refused -/
theorem zInv.stepX5 (h : zInv G σ a τ b th m1 m2 o n0 sv H) {th' m1' m2' : Int32} (oq : ∀ y : Nat, y < H.size → ¬ (mA τ b y ∨ H.size ≤ y ∨ (y = b 5 ∧ y ≥ G.2 99)) → H1[y]? = H[y]?) (B : hMod G τ b th' m1' m2' H1 ∧ zGr G τ b 5 τ.rn (elR τ b) H1) : zInv G σ a τ b th' m1' m2' o n0 sv H1 := by
  refine h.stepM oq (fun y hy z => ?_) B.1 h.iM B.2 ?_ (fun j hj => Or.inl ⟨j, hj, rfl⟩) h.sb h.b56 h.k0
  · rcases z with z | z | z
    · exact Or.inl z
    · omega
    · exact Or.inr ⟨Or.inl z.1, z.2⟩
  · rcases h.g6 with g | g
    · exact Or.inl g
    · by_cases z : 0 < τ.kn
      · exact zGr_6 B.1 h.iM z g.2.2
      · have k1 := oq (b 6) h.l6 (fun w => by
          rcases w with ⟨i, hi, e1⟩ | w | w
          · by_cases w : i = 6
            · have hi2 : i < 5 ∨ (i = 5 ∧ 0 < τ.rn) ∨ (i = 6 ∧ 0 < τ.kn) ∨ (8 ≤ i ∧ (i : Int) < 8 + τ.rn) ∨ (16 ≤ i ∧ (i : Int) < 16 + τ.kn) := hi
              omega
            · exact g.2.1 i hi w e1.symm
          · have := h.l6; omega
          · exact h.b56 (by rw [← w.1]; exact w.2) w.1.symm)
        exact Or.inr ⟨va_at.kept g.1 k1, g.2⟩
theorem zInv.stepX6 (h : zInv G σ a τ b th m1 m2 o n0 sv H) {th' m1' m2' : Int32} (oq : ∀ y : Nat, y < H.size → ¬ (mA τ b y ∨ H.size ≤ y ∨ (y = b 6 ∧ y ≥ G.2 99)) → H1[y]? = H[y]?) (B : hMod G τ b th' m1' m2' H1 ∧ zGr G τ b 6 τ.kn (elK τ b) H1) : zInv G σ a τ b th' m1' m2' o n0 sv H1 := by
  refine h.stepM oq (fun y hy z => ?_) B.1 h.iM ?_ B.2 (fun j hj => Or.inl ⟨j, hj, rfl⟩) h.sb h.b56 h.k0
  · rcases z with z | z | z
    · exact Or.inl z
    · omega
    · exact Or.inr ⟨Or.inr z.1, z.2⟩
  · rcases h.g5 with g | g
    · exact Or.inl g
    · by_cases z : 0 < τ.rn
      · exact zGr_5 B.1 h.iM z g.2.2
      · have k1 := oq (b 5) h.l5 (fun w => by
          rcases w with ⟨i, hi, e1⟩ | w | w
          · by_cases w : i = 5
            · have hi2 : i < 5 ∨ (i = 5 ∧ 0 < τ.rn) ∨ (i = 6 ∧ 0 < τ.kn) ∨ (8 ≤ i ∧ (i : Int) < 8 + τ.rn) ∨ (16 ≤ i ∧ (i : Int) < 16 + τ.kn) := hi
              omega
            · exact g.2.1 i hi w e1.symm
          · have := h.l5; omega
          · exact h.b56 g.2.2 w.1)
        exact Or.inr ⟨va_at.kept g.1 k1, g.2⟩
end ZV
/-- what every call of the law stands on -/
def zLaw (p : Program) (l : Launch) (s : State) (m : MethodId) (c : Code) (ar : Array Value) (G : zG) (b0 L : Nat) (xs : Nat → Int32) : Prop := CallFix p m c cL_law 9 s ar lw_g "CyclepaintLaw" ∧ l.stackTraces = false ∧ zKn G s ∧ va_X b0 L xs s s.heap ∧ b0 < s.heap.size ∧ L ≤ 2560 ∧ (∀ q : Nat, q ≥ G.2 99 → s.heap.size ≤ q)
/-- what follows a call -/
abbrev zKK (p : Program) (l : Launch) (e : Env) (s : State) (m : MethodId) (ar : Array Value) (bw : List Frame) (me : Method) (cd : Code) (Q : State → Prop) (G : zG) (b0 o : Nat) (ix : Int) (ca cm cells slots : Nat) : Prop := ∀ (σ' : St) (a' b' : Nat → Nat) (th' m1' m2' : Int32) (n' : Int64) (sv' : Value) (H' : Heap) (ls' : Array Slot), va_S (fun q => s.heap.size ≤ q) s.heap H' [] → zInv G σ' a' σ' b' th' m1' m2' o n' sv' H' → a' 0 = ca → b' 0 = cm → lv_has ls' 9 [(0, .ref b0), (1, .ref ca), (2, .ref cm), (3, .ref o), (4, .int (zI ix))] → W p l e room_1 s m ar bw me cd H' [] (cells + 1000) (slots + 10000) Q (F0 m 985 ls' [])
section ZU
variable {G : zG} {σ τ : St} {a b : Nat → Nat} {th m1 m2 : Int32} {o : Nat} {n0 : Int64} {sv : Value} {H H1 : Heap} {s : State} {locs : List Loc}
theorem zA_m (h9 : ∀ q : Nat, q ≥ G.2 99 → s.heap.size ≤ q) (I : zInv G σ a τ b th m1 m2 o n0 sv H) : ∀ q : Nat, mA τ b q → s.heap.size ≤ q := fun q ⟨i, hi, e⟩ => h9 q (by rw [e]; exact I.sb i hi)
theorem zA_n (h9 : ∀ q : Nat, q ≥ G.2 99 → s.heap.size ≤ q) (I : zInv G σ a τ b th m1 m2 o n0 sv H) (hS : va_S (fun q => s.heap.size ≤ q) s.heap H locs) : ∀ q : Nat, (mA τ b q ∨ H.size ≤ q) → s.heap.size ≤ q := fun q z => z.elim (zA_m h9 I q) (fun z => Nat.le_trans hS.1 z)
theorem zA_r (h9 : ∀ q : Nat, q ≥ G.2 99 → s.heap.size ≤ q) (I : zInv G σ a τ b th m1 m2 o n0 sv H) (hS : va_S (fun q => s.heap.size ≤ q) s.heap H locs) (k : Nat) : ∀ q : Nat, (mA τ b q ∨ H.size ≤ q ∨ (q = b k ∧ q ≥ G.2 99)) → s.heap.size ≤ q := fun q z => z.elim (zA_m h9 I q) (fun z => z.elim (fun z => Nat.le_trans hS.1 z) (fun z => h9 q z.2))
theorem zA_c (h9 : ∀ q : Nat, q ≥ G.2 99 → s.heap.size ≤ q) (I : zInv G σ a τ b th m1 m2 o n0 sv H) : ∀ q : Nat, cA σ a q → s.heap.size ≤ q := fun q ⟨i, hi, e⟩ => h9 q (by rw [e]; exact I.sa i hi)
theorem zA_co (h9 : ∀ q : Nat, q ≥ G.2 99 → s.heap.size ≤ q) (I : zInv G σ a τ b th m1 m2 o n0 sv H) : ∀ q : Nat, (cA σ a q ∨ q = o) → s.heap.size ≤ q := fun q z => z.elim (zA_c h9 I q) (fun z => h9 q (by rw [z]; exact I.so))
theorem zA_cn (h9 : ∀ q : Nat, q ≥ G.2 99 → s.heap.size ≤ q) (I : zInv G σ a τ b th m1 m2 o n0 sv H) (hS : va_S (fun q => s.heap.size ≤ q) s.heap H locs) : ∀ q : Nat, (cA σ a q ∨ q = o ∨ H.size ≤ q) → s.heap.size ≤ q := fun q z => z.elim (zA_c h9 I q) (fun z => z.elim (fun z => h9 q (by rw [z]; exact I.so)) (fun z => Nat.le_trans hS.1 z))
/-- nothing old was written -/
theorem zInv.step0 (h : zInv G σ a τ b th m1 m2 o n0 sv H) (oq : ∀ q : Nat, q < H.size → ¬ False → H1[q]? = H[q]?) : zInv G σ a τ b th m1 m2 o n0 sv H1 :=
  h.stepC (A1 := fun _ => False) oq (fun _ _ z => z.elim) (hCyc_keep h.C (fun _ hi => oq _ (hCyc_ltL h.C hi) id)) h.iC (va_at.kept h.O (oq _ h.lo id)) (fun i hi => Or.inl ⟨i, hi, rfl⟩)
theorem inj_addA {q : Nat} {f len sp k : Int} (hd : inj a (cL σ)) (h0 : 0 ≤ σ.rn) (hq : ∀ i : Nat, cL σ i → a i ≠ q) : inj (addA σ a q) (cL (addS σ f len sp k)) := by
  have key : ∀ i : Nat, cL (addS σ f len sp k) i → i = 8 + σ.rn.toNat ∨ (i ≠ 8 + σ.rn.toNat ∧ cL σ i) := fun i hi => by
    have h2 : i < 8 ∨ (8 ≤ i ∧ (i : Int) < 8 + (σ.rn + 1)) := hi
    unfold cL; omega
  intro x y hx hy e
  rcases key x hx with rfl | ⟨x1, x2⟩ <;> rcases key y hy with rfl | ⟨y1, y2⟩
  · rfl
  · rw [addA_q, addA_o y1] at e; exact absurd e.symm (hq y y2)
  · rw [addA_q, addA_o x1] at e; exact absurd e (hq x x2)
  · rw [addA_o x1, addA_o y1] at e; exact hd x y x2 y2 e
/-- the class moved on: with the cell of its answer -/
theorem zInv.stepO (h : zInv G σ a τ b th m1 m2 o n0 sv H) {σ' : St} {n' : Int64} {sv' : Value} (oq : ∀ q : Nat, q < H.size → ¬ (cA σ a q ∨ q = o) → H1[q]? = H[q]?) (B : hCyc G σ' a H1 ∧ hOut G o n' sv' H1) (hr : σ'.rn = σ.rn) : zInv G σ' a τ b th m1 m2 o n' sv' H1 := by
  have eL : ∀ j : Nat, cL σ' j → cL σ j := fun j => by unfold cL; rw [hr]; exact id
  exact h.stepC oq (fun _ _ z => z) B.1 (fun i j hi hj e => h.iC i j (eL i hi) (eL j hj) e) B.2 (fun i hi => Or.inl ⟨i, eL i hi, rfl⟩)
theorem zInv.stepW (h : zInv G σ a τ b th m1 m2 o n0 sv H) {σ' : St} (oq : ∀ q : Nat, q < H.size → ¬ cA σ a q → H1[q]? = H[q]?) (B : hCyc G σ' a H1) (hr : σ'.rn = σ.rn) : zInv G σ' a τ b th m1 m2 o n0 sv H1 := by
  have eL : ∀ j : Nat, cL σ' j → cL σ j := fun j => by unfold cL; rw [hr]; exact id
  exact h.stepC oq (fun _ _ z => Or.inl z) B (fun i j hi hj e => h.iC i j (eL i hi) (eL j hj) e) (va_at.kept h.O (oq _ h.lo (fun ⟨i, hi, e⟩ => h.ao i hi e.symm))) (fun i hi => Or.inl ⟨i, eL i hi, rfl⟩)
theorem zInv.stepCdel (h : zInv G σ a τ b th m1 m2 o n0 sv H) {j : Int} {n' : Int64} {sv' : Value} (j0 : 0 ≤ j) (j1 : j < σ.rn) (h4 : σ.rn ≤ 4) (oq : ∀ q : Nat, q < H.size → ¬ (cA σ a q ∨ q = o) → H1[q]? = H[q]?) (B : hCyc G (delS σ j) (delB a j) H1 ∧ hOut G o n' sv' H1) : zInv G (delS σ j) (delB a j) τ b th m1 m2 o n' sv' H1 :=
  h.stepC oq (fun _ _ z => z) B.1 (inj_delC h.iC j0 j1 h4) B.2 (fun i hi => Or.inl (by obtain ⟨k, h1, h2⟩ := cL_delx (a := a) j0 j1 hi; exact ⟨k, h1, h2⟩))
theorem zInv.stepCadd (h : zInv G σ a τ b th m1 m2 o n0 sv H) {f len sp kd : Int} {q : Nat} {n' : Int64} {sv' : Value} (h0 : 0 ≤ σ.rn) (oq : ∀ y : Nat, y < H.size → ¬ (cA σ a y ∨ y = o ∨ H.size ≤ y) → H1[y]? = H[y]?) (B : hCyc G (addS σ f len sp kd) (addA σ a q) H1) (hq : H.size ≤ q) (O : hOut G o n' sv' H1) : zInv G (addS σ f len sp kd) (addA σ a q) τ b th m1 m2 o n' sv' H1 :=
  h.stepC oq (fun y hy z => z.elim Or.inl (fun z => z.elim Or.inr (fun z => absurd hy (by omega)))) B (inj_addA h.iC h0 (fun i hi e => by have := hCyc_ltL h.C hi; omega)) O (fun i hi => by
    have h2 : i < 8 ∨ (8 ≤ i ∧ (i : Int) < 8 + (σ.rn + 1)) := hi
    by_cases z : i = 8 + σ.rn.toNat
    · rw [z, addA_q]; exact Or.inr hq
    · rw [addA_o z]; exact Or.inl ⟨i, by unfold cL; omega, rfl⟩)
end ZU
/-! ===== the class's answers and the reference's are one ===== -/
theorem eF_CM {σ : St} (hO : okR σ) {e : Int} (he : 0 ≤ e ∧ e < 16) (x : Int) : eF σ e x = eM σ e x := by
  unfold eF eM; rw [stl_CM hO he, bstw_CM hO e]
/-! how many bits are set -/
def tN (x : Int32) : Nat := x.toBitVec.toNat
theorem tN_and (x y : Int32) : tN (x &&& y) = tN x &&& tN y := by unfold tN; rw [Int32.toBitVec_and, BitVec.toNat_and]
theorem tN_add {x y : Int32} (h : tN x + tN y < 4294967296) : tN (x + y) = tN x + tN y := by
  unfold tN at *; rw [Int32.toBitVec_add, BitVec.toNat_add]; exact Nat.mod_eq_of_lt h
theorem tN_sub {x y : Int32} (h : tN y ≤ tN x) : tN (x - y) = tN x - tN y := by
  unfold tN at *; rw [Int32.toBitVec_sub]; exact BitVec.toNat_sub_of_le h
theorem tN_shr (x : Int32) (k : Int32) (n : Nat) (h : ((k.toUInt32 &&& Int32.toUInt32 31).mod 32).toBitVec.toNat = n) : tN (x.toUInt32 >>> (k.toUInt32 &&& Int32.toUInt32 31)).toInt32 = tN x >>> n := by
  unfold tN
  show (x.toBitVec >>> ((k.toUInt32 &&& Int32.toUInt32 31).mod 32).toBitVec).toNat = x.toBitVec.toNat >>> n
  rw [BitVec.ushiftRight_eq', BitVec.toNat_ushiftRight, h]
def bcN (x : Nat) : Nat :=
  let y := x - ((x >>> 1) &&& 1431655765)
  let z := (y &&& 858993459) + ((y >>> 2) &&& 858993459)
  let w := (z + (z >>> 4)) &&& 252645135
  let v := w + (w >>> 8)
  (v + (v >>> 16)) &&& 63
def bs1 (x : Int32) : Int32 := x - ((x.toUInt32 >>> ((zI 1).toUInt32 &&& Int32.toUInt32 31)).toInt32 &&& (1431655765 : Int32))
def bs2 (x : Int32) : Int32 := (x &&& (858993459 : Int32)) + ((x.toUInt32 >>> ((zI 2).toUInt32 &&& Int32.toUInt32 31)).toInt32 &&& (858993459 : Int32))
def bs3 (x : Int32) : Int32 := (x + (x.toUInt32 >>> ((zI 4).toUInt32 &&& Int32.toUInt32 31)).toInt32) &&& (252645135 : Int32)
def bs4 (x : Int32) : Int32 := x + (x.toUInt32 >>> ((zI 8).toUInt32 &&& Int32.toUInt32 31)).toInt32
def bs5 (x : Int32) : Int32 := (x + (x.toUInt32 >>> ((zI 16).toUInt32 &&& Int32.toUInt32 31)).toInt32) &&& zI 63
theorem bcR_s (x : Int32) : bcR x = bs5 (bs4 (bs3 (bs2 (bs1 x)))) := rfl
theorem shr_le (n k : Nat) : n >>> k ≤ n := by rw [Nat.shiftRight_eq_div_pow]; exact Nat.div_le_self _ _
theorem and_le1 (a b : Nat) : a &&& b ≤ a := Nat.and_le_left
theorem and_le2 (a b : Nat) : a &&& b ≤ b := Nat.and_le_right
theorem bcR_N {x : Int32} (h : tN x < 65536) : tN (bcR x) = bcN (tN x) := by
  have s1 := tN_shr x (zI 1) 1 (by decide +kernel)
  have m1 : tN (1431655765 : Int32) = 1431655765 := by decide +kernel
  have a1 : tN (bs1 x) = tN x - ((tN x >>> 1) &&& 1431655765) := by
    unfold bs1
    rw [tN_sub (by rw [tN_and, s1, m1]; exact Nat.le_trans (and_le1 _ _) (shr_le _ _)), tN_and, s1, m1]
  have b1 : tN (bs1 x) < 65536 := by rw [a1]; exact Nat.lt_of_le_of_lt (Nat.sub_le _ _) h
  have s2 := tN_shr (bs1 x) (zI 2) 2 (by decide +kernel)
  have m2 : tN (858993459 : Int32) = 858993459 := by decide +kernel
  have c1 := and_le1 (tN (bs1 x)) 858993459
  have c2 := Nat.le_trans (and_le1 (tN (bs1 x) >>> 2) 858993459) (shr_le _ _)
  have a2 : tN (bs2 (bs1 x)) = (tN (bs1 x) &&& 858993459) + ((tN (bs1 x) >>> 2) &&& 858993459) := by
    unfold bs2
    rw [tN_add (by rw [tN_and, tN_and, s2, m2]; omega), tN_and, tN_and, s2, m2]
  have b2 : tN (bs2 (bs1 x)) < 131072 := by rw [a2]; omega
  have s3 := tN_shr (bs2 (bs1 x)) (zI 4) 4 (by decide +kernel)
  have m3 : tN (252645135 : Int32) = 252645135 := by decide +kernel
  have d3 := shr_le (tN (bs2 (bs1 x))) 4
  have a3 : tN (bs3 (bs2 (bs1 x))) = (tN (bs2 (bs1 x)) + (tN (bs2 (bs1 x)) >>> 4)) &&& 252645135 := by
    unfold bs3
    rw [tN_and, tN_add (by rw [s3]; omega), s3, m3]
  have b3 : tN (bs3 (bs2 (bs1 x))) < 262144 := by rw [a3]; exact Nat.lt_of_le_of_lt (and_le1 _ _) (by omega)
  have s4 := tN_shr (bs3 (bs2 (bs1 x))) (zI 8) 8 (by decide +kernel)
  have d4 := shr_le (tN (bs3 (bs2 (bs1 x)))) 8
  have a4 : tN (bs4 (bs3 (bs2 (bs1 x)))) = tN (bs3 (bs2 (bs1 x))) + (tN (bs3 (bs2 (bs1 x))) >>> 8) := by
    unfold bs4
    rw [tN_add (by rw [s4]; omega), s4]
  have b4 : tN (bs4 (bs3 (bs2 (bs1 x)))) < 524288 := by rw [a4]; omega
  have s5 := tN_shr (bs4 (bs3 (bs2 (bs1 x)))) (zI 16) 16 (by decide +kernel)
  have m5 : tN (zI 63) = 63 := by decide +kernel
  have d5 := shr_le (tN (bs4 (bs3 (bs2 (bs1 x))))) 16
  have a5 : tN (bs5 (bs4 (bs3 (bs2 (bs1 x))))) = (tN (bs4 (bs3 (bs2 (bs1 x)))) + (tN (bs4 (bs3 (bs2 (bs1 x)))) >>> 16)) &&& 63 := by
    unfold bs5
    rw [tN_and, tN_add (by rw [s5]; omega), s5, m5]
  rw [bcR_s, a5, a4, a3, a2, a1]
  rfl
/-- every set of k bits above n, c bits being set in n -/
def bcK : Nat → Nat → Nat → Bool
  | 0, n, c => Nat.beq (bcN n) c
  | k + 1, n, c => bcK k n c && bcK k (n + 2 ^ k) (c + 1)
theorem bcK_16 : bcK 16 0 0 = true := by decide +kernel
theorem bcK_cnt (p : Int → Bool) : ∀ (k n c : Nat), bcK k n c = true → (bcN (n + bsN p k) : Int) = c + cntF p k
  | 0, n, c, h => by
    have := Nat.eq_of_beq_eq_true h
    rw [show bsN p 0 = 0 from rfl, Nat.add_zero, this, show cntF p 0 = 0 from rfl, Int.add_zero]
  | k + 1, n, c, h => by
    rw [bcK, Bool.and_eq_true] at h
    rw [bsN, cntF]
    by_cases q : p k = true
    · rw [if_pos q, if_pos q]
      have := bcK_cnt p k (n + 2 ^ k) (c + 1) h.2
      rw [show n + (bsN p k + 2 ^ k) = n + 2 ^ k + bsN p k by omega, this]
      omega
    · rw [if_neg q, if_neg q, bcK_cnt p k n c h.1]
      omega
theorem tN_zI {n : Nat} (h : n < 4294967296) : tN (zI n) = n := by
  rw [← zI_nI]; unfold tN nI
  show (BitVec.ofNat 32 n).toNat = n
  rw [BitVec.toNat_ofNat]; exact Nat.mod_eq_of_lt h
theorem bc_bst (p : Int → Bool) : bcR (bstF p 16) = zI (cntF p 16) := by
  have hl := bsN_lt p 16
  have h1 : tN (bstF p 16) = bsN p 16 := by rw [bst_num p (by omega), tN_zI (by omega)]
  have h2 := bcK_cnt p 16 0 0 bcK_16
  have hb := cntF_b p 16
  have h3 : tN (bcR (bstF p 16)) = bcN (bsN p 16) := by rw [bcR_N (by rw [h1]; omega), h1]
  rw [Nat.zero_add] at h2
  have h4 : cntF p 16 = (((cntF p 16).toNat : Nat) : Int) := (Int.toNat_of_nonneg hb.1).symm
  have h5 : tN (zI (cntF p 16)) = (cntF p 16).toNat := by
    rw [h4, tN_zI (by omega)]; omega
  apply Int32.toBitVec_inj.mp
  apply BitVec.eq_of_toNat_eq
  show tN (bcR (bstF p 16)) = tN (zI (cntF p 16))
  rw [h3, h5]
  omega
theorem en_bst {σ : St} (h : ∀ d : Int, 0 ≤ d → d < 32 → 0 ≤ σ.Dt d ∧ σ.Dt d < 16) : enM σ = bstF (usB σ) 16 := by
  unfold enM orI
  refine b_ext fun i hi => ?_
  rw [b_bst _ 16 (by omega) i hi]
  have h1 : bt (orF (fun _ => true) (fun d => bit1 (σ.Dt d)) (32 : Int).toNat) i = true ↔ (decide (i < 16) && usB σ i) = true := by
    rw [b_or_any, Bool.and_eq_true, decide_eq_true_iff, us_iff]
    refine ⟨fun ⟨d, h0, _, h2⟩ => ?_, fun ⟨h0, d, h1, h2⟩ => ⟨d, by omega, rfl, ?_⟩⟩
    · have hd := h d (by omega) (by omega)
      rw [b_bit1 (by omega) hi, decide_eq_true_iff] at h2
      exact ⟨by omega, d, by omega, h2.symm⟩
    · have hd := h d (by omega) (by omega)
      rw [b_bit1 (by omega) hi, decide_eq_true_iff]
      exact h2.symm
  exact b_iff h1
theorem ue_CM {σ : St} (h : ∀ d : Int, 0 ≤ d → d < 32 → 0 ≤ σ.Dt d ∧ σ.Dt d < 16) : bcR (enM σ) = zI (ueC σ) := by
  rw [en_bst h, bc_bst]; rfl
theorem pF_CM {σ : St} (hO : okR σ) (h : ∀ d : Int, 0 ≤ d → d < 32 → 0 ≤ σ.Dt d ∧ σ.Dt d < 16) (x : Int) : pF σ x = pM σ x := by
  unfold pF pM; rw [ue_CM h, ks_CM hO h, li_CM h, mr_CM, fl_CM h, cs_CM h]
/-! isSound: both say yes where no more kinds than entries are in use -/
theorem prd_dvd {σ : St} (hO : okR σ) : ∀ (k : Nat), (k : Int) ≤ σ.rn → 0 < prdF σ k ∧ ∀ j : Int, 0 ≤ j → j < k → ∃ n : Nat, prdF σ k = rnd σ j * n
  | 0, _ => ⟨by rw [show prdF σ 0 = 1 from rfl]; omega, fun j h0 h1 => absurd h1 (by omega)⟩
  | k + 1, hk => by
    obtain ⟨h1, h2⟩ := prd_dvd hO k (by omega)
    have hr := rnd_b hO (j := (k : Int)) (by omega) (by omega)
    obtain ⟨⟨x, hx⟩, ⟨y, hy⟩⟩ := lcI_dvd h1 (show 0 < rnd σ k by omega)
    have hp := (lcI_b (a := prdF σ k) (b := rnd σ k) (by omega) (by omega)).1
    rw [prdF]
    refine ⟨by omega, fun j h0 hj => ?_⟩
    by_cases q : j = k
    · rw [q]; exact ⟨y, hy⟩
    · obtain ⟨z, hz⟩ := h2 j h0 (by omega)
      exact ⟨z * x, by rw [hx, hz, Int.mul_assoc, Int.natCast_mul]⟩
theorem shw_all {σ : St} (hO : okR σ) (e : Int) {w : Int} (hw : 0 ≤ w) : shw σ e (w + per σ) = shw σ e w := by
  have hb := rndE_b hO e
  have hs : ∃ n : Nat, per σ = rndE σ e * n := by
    unfold rndE
    have hr := hO.1
    obtain ⟨h1, h2⟩ := prd_dvd hO σ.rn.toNat (by omega)
    by_cases q : rgOf σ e = -1
    · rw [if_pos q]
      refine ⟨(per σ).toNat, ?_⟩
      have h3 : 0 < per σ := h1
      rw [Int.one_mul, Int.toNat_of_nonneg (by omega)]
    · rw [if_neg q]
      have hi := rgOf_in q
      exact h2 _ hi.1 (by omega)
  obtain ⟨n, hn⟩ := hs
  rw [hn]
  exact per_mul (u := shw σ e) (by omega) (fun t ht => shw_per hO ht) n w hw
theorem stl_now {σ : St} (hO : okR σ) {e : Int} (h : stlM σ e = true) {w : Int} (hw : 0 ≤ w) : shw σ e w = σ.B e := by
  have hb := rndE_b hO e
  unfold stlM at h
  rw [allI_iff] at h
  have h1 := per_mod (u := shw σ e) (show 0 < rndE σ e by omega) (fun t ht => shw_per hO ht) hw
  rw [h1, of_decide_eq_true (h (w % rndE σ e) (Int.emod_nonneg _ (by omega)) (Int.emod_lt_of_pos _ (by omega))), shw_0 hO]
theorem cnt_one {f : Int → Bool} : ∀ {n : Nat}, (∀ i j : Int, 0 ≤ i → i < j → j < n → f i = true → f j = true → False) → cntF f n ≤ 1
  | 0, _ => by rw [show cntF f 0 = 0 from rfl]; omega
  | n + 1, h => by
    rw [cntF]
    by_cases q : f n = true
    · rw [if_pos q]
      have hz : ∀ m : Nat, m ≤ n → cntF f m = 0 := by
        intro m
        induction m with
        | zero => intro _; rfl
        | succ m ih =>
          intro hm
          rw [cntF, ih (by omega), if_neg (fun r => h m n (by omega) (by omega) (by omega) r q)]
          rfl
      rw [hz n (Nat.le_refl n)]
      omega
    · rw [if_neg q]
      have := cnt_one (f := f) (n := n) (fun i j h0 h1 h2 => h i j h0 h1 (by omega))
      omega
theorem rg_one {σ : St} (hD : okD σ) (e k : Int) : cntI (fun j => rgIn σ j e) k ≤ 1 := by
  refine cnt_one fun i j h0 h1 h2 hi hj => ?_
  have a := rgIn_iff.mp hi
  have b := rgIn_iff.mp hj
  have := hD i j h0 h1 b.1
  omega
theorem so_C {σ : St} (hO : okR σ) (hC : okC σ) : soC σ = decide (bcR (ksC σ) ≤ zI (ueC σ)) := by
  have hT := hC.1.1
  have h1 : allI (crB σ σ.tk) 16 = true := allI_iff.mpr fun e _ _ => decide_eq_true (shw_all hO e hT)
  have h2 : allI (sbB σ σ.tk) 16 = true := allI_iff.mpr fun e h0 h1 => by
    unfold sbB
    cases q : stl σ e
    · rfl
    · rw [stl_CM hO ⟨h0, h1⟩] at q
      rw [decide_eq_true (stl_now hO q hT)]; rfl
  have h3 : allI (fun e => allI (taB σ σ.tk e) e) 16 = true := allI_iff.mpr fun e _ _ => allI_iff.mpr fun o _ _ => by
    unfold taB
    cases q : twnC σ e o
    · rfl
    · rw [decide_eq_true ((twn_all hO).mp q _ hT)]; rfl
  have h4 : allI (raB σ) 16 = true := allI_iff.mpr fun e _ _ => decide_eq_true (rg_one hC.2.2.2.2.1 e 4)
  unfold soC
  rw [h1, h2, h3, h4, Bool.true_and, Bool.true_and, Bool.true_and, Bool.and_true]
theorem so_M {σ : St} (hO : okR σ) (hC : okC σ) : soM σ = decide (bcR (ksM σ) ≤ bcR (enM σ)) := by
  have hT := hC.1.1
  have h1 : allI (snB σ) 16 = true := allI_iff.mpr fun e h0 h1 => by
    unfold snB
    rw [decide_eq_true (rg_one hC.2.2.2.2.1 e σ.rn), show crB σ σ.tk e = true from decide_eq_true (shw_all hO e hT)]
    have h3 : (!(stlM σ e) || decide (shw σ e σ.tk = σ.B e)) = true := by
      cases q : stlM σ e
      · rfl
      · rw [decide_eq_true (stl_now hO q hT)]; rfl
    have h4 : allI (snT σ e) 16 = true := allI_iff.mpr fun n g0 g1 => by
      unfold snT
      by_cases q : bstI (fun o => twnM σ e o) 16 >>> (zI n &&& 31) &&& zI 1 = zI 1
      · have hs := b_shr n.toNat (by omega) (bstI (fun o => twnM σ e o) 16)
        rw [Int.toNat_of_nonneg g0] at hs
        have h5 := hs.mp q
        unfold bstI at h5
        rw [show (16 : Int).toNat = 16 from rfl, b_bst _ 16 (by omega) _ (by omega), Bool.and_eq_true, Int.toNat_of_nonneg g0] at h5
        rw [decide_eq_true ((twnM_all hO).mp h5.2 _ hT).symm, Bool.or_true]
      · rw [decide_eq_false q]; rfl
    rw [h3, h4]; rfl
  unfold soM
  rw [h1, Bool.true_and]
theorem so_CM {σ : St} (hO : okR σ) (hC : okC σ) : soC σ = soM σ := by
  rw [so_C hO hC, so_M hO hC, ks_CM hO hC.2.1, ue_CM hC.2.1]
/-! the checksums -/
theorem mixF_c {g g' : Int → Int64 → Int64} {d d' : Int64} (hd : d = d') : ∀ {n : Nat}, (∀ t : Int, 0 ≤ t → t < n → g t = g' t) → mixF g d n = mixF g' d' n
  | 0, _ => hd
  | n + 1, h => by rw [mixF, mixF, mixF_c hd (fun t h0 h1 => h t h0 (by omega)), h n (by omega) (by omega)]
theorem dg_CM {σ : St} (hO : okR σ) (hC : okC σ) : dgC σ = dgM σ := by
  have h1 : dg1 σ = dn1 σ := by
    unfold dg1 dn1 mixI
    exact mixF_c rfl fun t _ _ => by unfold mix1; rw [pF_CM hO hC.2.1]
  have h3 : dg3 σ 16 = dn3 σ 16 := by
    unfold dg3 dn3 mixI
    refine mixF_c (by unfold dg2 dn2; rw [h1]) fun t h0 h1 => ?_
    funext d
    exact mixF_c rfl fun x _ _ => by unfold mix1; rw [eF_CM hO ⟨h0, by omega⟩]
  have h4 : dg4 σ σ.rn = dn4 σ σ.rn := by unfold dg4 dn4; rw [h3]
  have h5 : dg5 σ 32 = dn5 σ 32 := by unfold dg5 dn5; rw [h4]
  have h6 : dg6 σ = dn6 σ := by unfold dg6 dn6; rw [h5]
  have h7 : dg7 σ σ.kn = dn7 σ σ.kn := by unfold dg7 dn7; rw [h6]
  have h8 : mnC σ = mnM σ := by unfold mnC mnM; rw [li_CM hC.2.1]
  have h9 : (if soC σ = true then (1 : Int64) else 0) = (bI (soM σ)).toInt64 := by
    rw [so_CM hO hC]
    cases soM σ <;> rfl
  unfold dgC dgM
  rw [h7, ltI_CM hC.2.1, h8, h9]
