/-! ===== the class: ranges come and go ===== -/
def rgLF (σ : St) (e : Int) : Nat → Int
  | 0 => -1
  | n + 1 => if rgIn σ n e = true then n else rgLF σ e n
def rgL (σ : St) (e k : Int) : Int := rgLF σ e k.toNat
theorem rgL_s {σ : St} {e k : Int} (h : 0 ≤ k) : rgL σ e (k + 1) = if rgIn σ k e = true then k else rgL σ e k := by
  unfold rgL
  rw [show (k + 1).toNat = k.toNat + 1 by omega, rgLF, Int.toNat_of_nonneg h]
theorem rgIn_disj {σ : St} (hD : okD σ) {i j e : Int} (h0 : 0 ≤ i) (hij : i < j) (a : rgIn σ i e = true) (b : rgIn σ j e = true) : False := by
  have a2 := rgIn_iff.mp a
  have b2 := rgIn_iff.mp b
  have := hD i j h0 hij b2.1
  omega
theorem rgL_4 {σ : St} (hD : okD σ) (e : Int) : rgL σ e 4 = rgOf σ e := by
  have d : ∀ i j : Int, 0 ≤ i → i < j → rgIn σ i e = true → rgIn σ j e = true → False := fun i j h0 h1 a b => rgIn_disj hD h0 h1 a b
  show (if rgIn σ 3 e = true then (3 : Int) else if rgIn σ 2 e = true then 2 else if rgIn σ 1 e = true then 1 else if rgIn σ 0 e = true then 0 else -1) = rgOf σ e
  unfold rgOf
  cases h0 : rgIn σ 0 e <;> cases h1 : rgIn σ 1 e <;> cases h2 : rgIn σ 2 e <;> cases h3 : rgIn σ 3 e <;> first | rfl | exact (d 0 1 (by decide) (by decide) h0 h1).elim | exact (d 0 2 (by decide) (by decide) h0 h2).elim | exact (d 0 3 (by decide) (by decide) h0 h3).elim | exact (d 1 2 (by decide) (by decide) h1 h2).elim | exact (d 1 3 (by decide) (by decide) h1 h3).elim | exact (d 2 3 (by decide) (by decide) h2 h3).elim
def nmU (σ : St) (g : Int → Int) (e : Int) : Int → Int := fun i => if 0 ≤ i ∧ i < e then rgOf σ i else g i
theorem nmU_0 (σ : St) (g : Int → Int) : nmU σ g 0 = g := by funext i; unfold nmU; rw [if_neg (by omega)]
theorem nmU_s (σ : St) (g : Int → Int) {e : Int} (h : 0 ≤ e) : up (nmU σ g e) e (rgOf σ e) = nmU σ g (e + 1) := by
  funext i; unfold up nmU
  by_cases q : i = e
  · rw [if_pos q, if_pos (by omega), q]
  · rw [if_neg q]
    by_cases r : 0 ≤ i ∧ i < e
    · rw [if_pos r, if_pos (by omega)]
    · rw [if_neg r, if_neg (by omega)]
theorem up_up {α : Type} (f : Int → α) (k : Int) (v w : α) : up (up f k v) k w = up f k w := by
  funext i; unfold up
  by_cases q : i = k
  · rw [if_pos q, if_pos q]
  · rw [if_neg q, if_neg q, if_neg q]
def rgX (σ : St) (r : Int → Nat) (j : Int) : Option Nat := if 0 ≤ j ∧ j < σ.rn then some (r j) else none
def hNum (G : zG) (σ : St) (q1 q2 q3 q4 : Nat) (r : Int → Nat) (g : Int → Int) (H : Heap) : Prop :=
  va_at G.1 vwCl (q1, .inr (4, [.ref q2, .ref q3, .ref q4, .int (zI σ.rn)])) H ∧
  va_at G.1 vwCl (q3, .inl (G.2 0, 16, .inl (zB g))) H ∧
  va_at G.1 vwCl (q4, .inl (G.2 1, 4, .inr (.inr (.inr (.inr (zC (rgX σ r))))))) H ∧
  (∀ j : Int, 0 ≤ j → j < σ.rn → hRng G (r j) (σ.F j) (σ.L j) (σ.S j) (σ.K j) H)
/-! one range less -/
def dlU (f : Int → Option Nat) (j k : Int) : Int → Option Nat := fun i => if j ≤ i ∧ i < k - 1 then f (i + 1) else f i
theorem dlU_0 (f : Int → Option Nat) (j : Int) : dlU f j (j + 1) = f := by funext i; unfold dlU; rw [if_neg (by omega)]
theorem dlU_at (f : Int → Option Nat) (j k : Int) : dlU f j k k = f k := by unfold dlU; rw [if_neg (by omega)]
theorem dlU_s (f : Int → Option Nat) {j k : Int} (h : j + 1 ≤ k) : up (dlU f j k) (k - 1) (f k) = dlU f j (k + 1) := by
  funext i; unfold up dlU
  by_cases q : i = k - 1
  · rw [if_pos q, if_pos (by omega)]; congr 1; omega
  · rw [if_neg q]
    by_cases r : j ≤ i ∧ i < k - 1
    · rw [if_pos r, if_pos (by omega)]
    · rw [if_neg r, if_neg (by omega)]
theorem dlU_e {σ : St} {a : Nat → Nat} {j : Int} (j0 : 0 ≤ j) (j1 : j < σ.rn) (h4 : σ.rn ≤ 4) (i : Int) (i0 : 0 ≤ i) (i1 : i < (4 : Nat)) : up (dlU (rgA σ a) j 4) 3 none i = rgX (delS σ j) (fun t => delB a j (8 + t.toNat)) i := by
  have i1' : i < 4 := i1
  show _ = (if 0 ≤ i ∧ i < σ.rn - 1 then some (delB a j (8 + i.toNat)) else none)
  by_cases q : i = 3
  · rw [q, up_s, if_neg (by omega)]
  · rw [up_n q]
    unfold dlU rgA
    by_cases r : 0 ≤ i ∧ i < σ.rn - 1
    · rw [if_pos r, delB_r a j0 i0 (by omega)]
      by_cases z : j ≤ i
      · rw [if_pos (by omega), if_pos (by omega), if_pos z]
      · rw [if_neg (by omega), if_pos (by omega), if_neg z]
    · rw [if_neg r]
      by_cases z : j ≤ i ∧ i < 4 - 1
      · rw [if_pos z, if_neg (by omega)]
      · rw [if_neg z, if_neg (by omega)]
theorem okD_del {σ : St} (h : okD σ) {j : Int} (j0 : 0 ≤ j) (j1 : j < σ.rn) : okD (delS σ j) := by
  intro x y x0 xy y1
  have y1' : y < σ.rn - 1 := y1
  show del σ.F j x + del σ.L j x ≤ del σ.F j y ∨ del σ.F j y + del σ.L j y ≤ del σ.F j x
  unfold del
  by_cases p : j ≤ x
  · simp only [if_pos p, if_pos (show j ≤ y by omega)]; exact h (x + 1) (y + 1) (by omega) (by omega) (by omega)
  · by_cases q : j ≤ y
    · simp only [if_neg p, if_pos q]; exact h x (y + 1) (by omega) (by omega) (by omega)
    · simp only [if_neg p, if_neg q]; exact h x y x0 xy (by omega)
theorem okC_del {σ : St} (h : okC σ) {j : Int} (j0 : 0 ≤ j) (j1 : j < σ.rn) : okC (delS σ j) := ⟨h.1, h.2.1, h.2.2.1, h.2.2.2.1, okD_del h.2.2.2.2.1 j0 j1, h.2.2.2.2.2⟩
theorem hPal_del {G : zG} {σ : St} {a : Nat → Nat} {j : Int} {H1 : Heap} (hO : okR σ) (j0 : 0 ≤ j) (j1 : j < σ.rn) (h : hNum G (delS σ j) (a 1) (a 2) (a 3) (a 4) (fun t => delB a j (8 + t.toNat)) (rgOf (delS σ j)) H1) (h2 : va_at G.1 vwCl (a 2, .inl (G.2 0, 16, .inl (zA σ.B))) H1) : hPal G (delS σ j) (delB a j) H1 := by
  unfold hPal
  rw [delB_s a j (k := 1) (by decide), delB_s a j (k := 2) (by decide), delB_s a j (k := 3) (by decide), delB_s a j (k := 4) (by decide)]
  exact ⟨h.1, h2, h.2.1, h.2.2.1, h.2.2.2, okR_del hO j0 j1⟩
theorem hCyc_del {G : zG} {σ : St} {a : Nat → Nat} {j : Int} {H1 H0 : Heap} (h : hCyc G σ a H0) (j0 : 0 ≤ j) (j1 : j < σ.rn) (hp : hPal G (delS σ j) (delB a j) H1) (oq : ∀ i : Nat, (i = 0 ∨ i = 5 ∨ i = 6 ∨ i = 7) → H1[a i]? = H0[a i]?) : hCyc G (delS σ j) (delB a j) H1 := by
  obtain ⟨h0, h5, h6, h7, _, h9⟩ := h
  unfold hCyc
  rw [delB_s a j (k := 0) (by decide), delB_s a j (k := 1) (by decide), delB_s a j (k := 5) (by decide), delB_s a j (k := 6) (by decide), delB_s a j (k := 7) (by decide)]
  exact ⟨va_at.kept h0 (oq 0 (by decide)), va_at.kept h5 (oq 5 (by decide)), va_at.kept h6 (oq 6 (by decide)), va_at.kept h7 (oq 7 (by decide)), hp, okC_del h9 j0 j1⟩
theorem inj_delC {σ : St} {a : Nat → Nat} {j : Int} (hd : inj a (cL σ)) (j0 : 0 ≤ j) (j1 : j < σ.rn) (h4 : σ.rn ≤ 4) : inj (delB a j) (cL (delS σ j)) := by
  have key : ∀ k : Nat, cL (delS σ j) k → ∃ k' : Nat, cL σ k' ∧ delB a j k = a k' ∧ k' = if 8 + j.toNat ≤ k ∧ k < 16 then k + 1 else k := by
    intro k hk
    unfold delB
    have hk2 : k < 8 ∨ (8 ≤ k ∧ (k : Int) < 8 + (σ.rn - 1)) := hk
    by_cases q : 8 + j.toNat ≤ k ∧ k < 16
    · refine ⟨k + 1, ?_, by rw [if_pos q], by rw [if_pos q]⟩
      unfold cL; omega
    · refine ⟨k, ?_, by rw [if_neg q], by rw [if_neg q]⟩
      unfold cL; omega
  intro x y hx hy e
  obtain ⟨x', a1, a2, a3⟩ := key x hx
  obtain ⟨y', b1, b2, b3⟩ := key y hy
  have h := hd x' y' a1 b1 (by rw [← a2, ← b2]; exact e)
  rw [a3, b3] at h
  have hx2 : x < 8 ∨ (8 ≤ x ∧ (x : Int) < 8 + (σ.rn - 1)) := hx
  have hy2 : y < 8 ∨ (8 ≤ y ∧ (y : Int) < 8 + (σ.rn - 1)) := hy
  split at h <;> split at h <;> omega
/-! one range more -/
def addA (σ : St) (a : Nat → Nat) (q : Nat) : Nat → Nat := fun i => if i = 8 + σ.rn.toNat then q else a i
theorem addA_o {σ : St} {a : Nat → Nat} {q i : Nat} (h : i ≠ 8 + σ.rn.toNat) : addA σ a q i = a i := by unfold addA; rw [if_neg h]
theorem addA_q {σ : St} {a : Nat → Nat} {q : Nat} : addA σ a q (8 + σ.rn.toNat) = q := if_pos rfl
theorem rgX_add {σ : St} {a : Nat → Nat} {q : Nat} {f len sp k : Int} (h0 : 0 ≤ σ.rn) : rgX (addS σ f len sp k) (fun t => addA σ a q (8 + t.toNat)) = up (rgA σ a) σ.rn (some q) := by
  funext j
  show (if 0 ≤ j ∧ j < σ.rn + 1 then some (addA σ a q (8 + j.toNat)) else none) = up (rgA σ a) σ.rn (some q) j
  by_cases g : j = σ.rn
  · rw [g, up_s, if_pos (by omega), addA_q]
  · rw [up_n g]
    unfold rgA
    by_cases r : 0 ≤ j ∧ j < σ.rn
    · rw [if_pos r, if_pos (by omega), addA_o (by omega)]
    · rw [if_neg r, if_neg (by omega)]
theorem hPal_add {G : zG} {σ : St} {a : Nat → Nat} {q : Nat} {f len sp k : Int} {H1 : Heap} (hO : okR σ) (hr4 : σ.rn < 4) (hok : (0 ≤ f ∧ 2 ≤ len ∧ f + len ≤ 16) ∧ (1 ≤ sp ∧ sp ≤ 9) ∧ (0 ≤ k ∧ k ≤ 2)) (h : hNum G (addS σ f len sp k) (a 1) (a 2) (a 3) (a 4) (fun t => addA σ a q (8 + t.toNat)) (rgOf (addS σ f len sp k)) H1) (h2 : va_at G.1 vwCl (a 2, .inl (G.2 0, 16, .inl (zA σ.B))) H1) : hPal G (addS σ f len sp k) (addA σ a q) H1 := by
  unfold hPal
  rw [addA_o (i := 1) (by omega), addA_o (i := 2) (by omega), addA_o (i := 3) (by omega), addA_o (i := 4) (by omega)]
  exact ⟨h.1, h2, h.2.1, h.2.2.1, h.2.2.2, okR_add hO hr4 hok⟩
theorem hCyc_add {G : zG} {σ : St} {a : Nat → Nat} {q : Nat} {f len sp k : Int} {H1 H0 : Heap} (h : hCyc G σ a H0) (hD : okD (addS σ f len sp k)) (hp : hPal G (addS σ f len sp k) (addA σ a q) H1) (oq : ∀ i : Nat, (i = 0 ∨ i = 5 ∨ i = 6 ∨ i = 7) → H1[a i]? = H0[a i]?) : hCyc G (addS σ f len sp k) (addA σ a q) H1 := by
  obtain ⟨h0, h5, h6, h7, _, h9⟩ := h
  unfold hCyc
  rw [addA_o (i := 0) (by omega), addA_o (i := 1) (by omega), addA_o (i := 5) (by omega), addA_o (i := 6) (by omega), addA_o (i := 7) (by omega)]
  exact ⟨va_at.kept h0 (oq 0 (by decide)), va_at.kept h5 (oq 5 (by decide)), va_at.kept h6 (oq 6 (by decide)), va_at.kept h7 (oq 7 (by decide)), hp, h9.1, h9.2.1, h9.2.2.1, h9.2.2.2.1, hD, h9.2.2.2.2.2⟩
theorem inj_addC {σ : St} {a : Nat → Nat} {q : Nat} {f len sp k : Int} (hd : inj a (cL σ)) (h0 : 0 ≤ σ.rn) (hq : ∀ i : Nat, cL σ i → a i ≠ q) : inj (addA σ a q) (cL (addS σ f len sp k)) := by
  have key : ∀ i : Nat, cL (addS σ f len sp k) i → (i = 8 + σ.rn.toNat ∧ addA σ a q i = q) ∨ (cL σ i ∧ addA σ a q i = a i) := by
    intro i hi
    by_cases h8 : i = 8 + σ.rn.toNat
    · exact Or.inl ⟨h8, by rw [h8]; exact addA_q⟩
    · refine Or.inr ⟨?_, addA_o h8⟩
      have hi2 : i < 8 ∨ (8 ≤ i ∧ (i : Int) < 8 + (σ.rn + 1)) := hi
      unfold cL; omega
  intro i j hi hj e9
  rcases key i hi with ⟨a1, a2⟩ | ⟨a1, a2⟩ <;> rcases key j hj with ⟨b1, b2⟩ | ⟨b1, b2⟩
  · omega
  · exact absurd (b2.symm.trans (e9.symm.trans a2)) (hq j b1)
  · exact absurd (a2.symm.trans (e9.trans b2)) (hq i a1)
  · exact hd i j a1 b1 (a2.symm.trans (e9.trans b2))
/-- the new range's entries are in no other -/
theorem okD_add {σ : St} (h : okD σ) (hO : okR σ) {f u sp k : Int} (h0 : 0 ≤ f ∧ f < u ∧ u < 16) (hf : allI (frB σ f u) 16 = true) : okD (addS σ f (u - f + 1) sp k) := by
  have fr : ∀ e : Int, f ≤ e → e ≤ u → rgOf σ e = -1 := by
    intro e e0 e1
    have q := allI_iff.mp hf e (by omega) (by omega)
    unfold frB at q
    simp at q
    rcases q with q | q
    · omega
    · exact q
  have key : ∀ i : Int, 0 ≤ i → i < σ.rn → σ.F i + σ.L i ≤ f ∨ f + (u - f + 1) ≤ σ.F i := by
    intro i i0 i1
    have ho := hO.2 i i0 i1
    by_cases c : σ.F i + σ.L i ≤ f
    · exact Or.inl c
    · by_cases d : f + (u - f + 1) ≤ σ.F i
      · exact Or.inr d
      · exfalso
        have : ∃ e : Int, (f ≤ e ∧ e ≤ u) ∧ (σ.F i ≤ e ∧ e < σ.F i + σ.L i) := by
          by_cases z : f ≤ σ.F i
          · exact ⟨σ.F i, by omega, by omega⟩
          · exact ⟨f, by omega, by omega⟩
        obtain ⟨e, he, hi⟩ := this
        have hn := fr e he.1 he.2
        rcases rgOf_cases σ e with q | q
        · have hin : rgIn σ i e = true := rgIn_iff.mpr ⟨i1, hi.1, hi.2⟩
          have hr := hO.1
          rcases (show i = 0 ∨ i = 1 ∨ i = 2 ∨ i = 3 by omega) with rfl | rfl | rfl | rfl
          · rw [q.2.1] at hin; cases hin
          · rw [q.2.2.1] at hin; cases hin
          · rw [q.2.2.2.1] at hin; cases hin
          · rw [q.2.2.2.2] at hin; cases hin
        · omega
  intro x y x0 xy y1
  have y1' : y < σ.rn + 1 := y1
  show up σ.F σ.rn f x + up σ.L σ.rn (u - f + 1) x ≤ up σ.F σ.rn f y ∨ up σ.F σ.rn f y + up σ.L σ.rn (u - f + 1) y ≤ up σ.F σ.rn f x
  rw [up_n (show x ≠ σ.rn by omega), up_n (show x ≠ σ.rn by omega)]
  by_cases q : y = σ.rn
  · rw [q, up_s, up_s]; exact key x x0 (by omega)
  · rw [up_n q, up_n q]; exact h x y x0 xy (by omega)
/-! a picture more that is kept -/
def kcU (σ : St) (k : Int) : Int → Int32 := fun i => if 32 * σ.kn ≤ i ∧ i < 32 * σ.kn + k then kpG σ (i - 32 * σ.kn) else kpz σ i
theorem kcU_0 (σ : St) : kcU σ 0 = kpz σ := by funext i; unfold kcU; rw [if_neg (by omega)]
theorem kcU_s (σ : St) {k : Int} (h : 0 ≤ k) : up (kcU σ k) (32 * σ.kn + k) (kpG σ k) = kcU σ (k + 1) := by
  funext i; unfold up kcU
  by_cases q : i = 32 * σ.kn + k
  · rw [if_pos q, if_pos (by omega)]; congr 1; omega
  · rw [if_neg q]
    by_cases r : 32 * σ.kn ≤ i ∧ i < 32 * σ.kn + k
    · rw [if_pos r, if_pos (by omega)]
    · rw [if_neg r, if_neg (by omega)]
theorem kcU_e (σ : St) (i : Int) : kcU σ 32 i = kpz (addKS σ (kpG σ)) i := by
  show _ = up σ.KP σ.kn (kpG σ) (i / 32) (i % 32)
  unfold kcU kpz
  by_cases q : i / 32 = σ.kn
  · rw [q, up_s, if_pos (by omega)]; congr 1; omega
  · rw [up_n q, if_neg (by omega)]
theorem okC_K {σ : St} {g : Int → Int32} (h : okC σ) (hk : σ.kn < 5) : okC (addKS σ g) := ⟨h.1, h.2.1, h.2.2.1, by show 0 ≤ σ.kn + 1 ∧ σ.kn + 1 ≤ 5; have := h.2.2.2.1; omega, h.2.2.2.2⟩
section ZO
variable {p : Program} {l : Launch} {e : Env} {R : Room} {s : State} {m : MethodId} {args : Array Value} {below : List Frame} {meth : Method} {c : Code} {H : Heap} {locs : List Loc} {cells slots : Nat} {Q : State → Prop}
variable {cc : ByteArray} {nL : Nat} {own : String} {pc : Nat} {ls : Array Slot} {rest : List Value} {G : zG} {A : Nat → Prop} {H0 : Heap}
theorem z_ob (hG : zKn G s) {v ci N : Nat} {fs : List Value} {C : String} {T : u_T} (h : va_at G.1 vwCl (v, .inr (ci, fs)) H) (hC : zCl ci C T N) : ∃ (cell : Cell) (k : Class), H[v]? = some cell ∧ (∀ q, cell.vm ≠ .statics q) ∧ s.vm.classes[cell.cls]? = some k ∧ s.vm.findClass C = some cell.cls := by
  obtain ⟨r, h1, cell, q1, q2, q3, q4⟩ := h
  obtain ⟨hS, hfc, kC, hkC, -⟩ := hG.1.1 ci _ hC.1
  exact ⟨cell, kC, q1, (fun q z => by rw [q3] at z; cases z), (by rw [q2]; exact hkC), (by rw [q2]; exact hfc)⟩
theorem z_aastn (S : CallFix p m c cc nL s args lw_g own) (hG : zKn G s) (t0 : Nat) {E : String} (ht : (zT G)[t0]? = some (G.2 t0, .object E)) {a n0 : Nat} {f : Int → Option Nat} (hat : va_at G.1 vwCl (a, .inl (G.2 t0, n0, .inr (.inr (.inr (.inr (zC f)))))) H) (hS : va_S A H0 H locs) (ha : A a) {i : Int} (hi : 0 ≤ i ∧ i < n0) (hn : n0 < 2147483648) (d : decode cc pc = .ok (.aastore, 1))
    (kk : ∀ (H1 : Heap) (locs1 : List Loc), va_at G.1 vwCl (a, .inl (G.2 t0, n0, .inr (.inr (.inr (.inr (zC (up f i none))))))) H1 → H1.size = H.size → (∀ q : Nat, q ≠ a → H1[q]? = H[q]?) → va_S A H0 H1 locs1 → W p l e R s m args below meth c H1 locs1 cells slots Q (F0 m (pc + 1) ls rest)) : W p l e R s m args below meth c H locs cells slots Q (F0 m pc ls (.null :: .int (zI i) :: .ref a :: rest)) := by
  refine va_WaastN (C := E) S.1 S.2.1 hat ((hG.1.2 t0 _ ht).1 n0 (fun j => va_rf (zC f j))) (fun h => by cases h) (by show ¬ (zI i < 0 ∨ (arrV _ _ _).slots.size ≤ _); rw [arrV_size]; exact zI_in hi hn) rfl rfl d fun H1 e z oq => ?_
  refine kk H1 _ ?_ z oq (hS.put z oq ha)
  refine va_cgC (f := fun j => va_up (zC f) (zI i).toNatClampNeg none j.toNat) (fun j j0 j1 => ?_) ?_
  · rw [zI_cl (by omega)]
    unfold va_up up zC
    by_cases q : j = i
    · rw [if_pos q, if_pos (by omega)]
    · rw [if_neg q, if_neg (by omega)]; congr 1; omega
  · show H1[a]? = some (vp_cell _ _)
    rw [e]
    rw [vp_cell_q, vp_cell_q, arrV_store]
    congr 2
    funext q
    by_cases hq : q = (zI i).toNatClampNeg
    · subst hq
      simp [updV, va_up, va_rf, zC]
    · simp [updV, va_up, zC, hq]
end ZO
