/-! ===== the reference's world when cells are made ===== -/
theorem hMod_keep {G : zG} {σ : St} {b : Nat → Nat} {th m1 m2 : Int32} {H H1 : Heap} (h : hMod G σ b th m1 m2 H) (oq : ∀ i : Nat, mL σ i → H1[b i]? = H[b i]?) : hMod G σ b th m1 m2 H1 := by
  obtain ⟨h0, h1, h2, h3, h4, h5, h6, h7, h8, h9⟩ := h
  exact ⟨va_at.kept h0 (oq 0 (mL_s (by decide))), va_at.kept h1 (oq 1 (mL_s (by decide))), va_at.kept h2 (oq 2 (mL_s (by decide))), va_at.kept h3 (oq 3 (mL_s (by decide))), va_at.kept h4 (oq 4 (mL_s (by decide))), fun z => va_at.kept (h5 z) (oq 5 (mL_5 z)), fun z => va_at.kept (h6 z) (oq 6 (mL_6 z)), fun j j0 j1 => va_at.kept (h7 j j0 j1) (oq _ (mL_r j0 j1)), fun j j0 j1 => va_at.kept (h8 j j0 j1) (oq _ (mL_k j0 j1)), h9⟩
theorem hMod_up {G : zG} {σ : St} {b : Nat → Nat} {th m1 m2 : Int32} {H H1 : Heap} (h : hMod G σ b th m1 m2 H) (oq : ∀ q : Nat, q < H.size → H1[q]? = H[q]?) : hMod G σ b th m1 m2 H1 := hMod_keep h (fun _ hi => oq _ (hMod_lt h hi))
def addS (σ : St) (f len sp k : Int) : St := σ.wR (σ.rn + 1) (up σ.F σ.rn f) (up σ.L σ.rn len) (up σ.S σ.rn sp) (up σ.K σ.rn k)
def addB (σ : St) (b : Nat → Nat) (e q : Nat) : Nat → Nat := fun i => if i = 5 then e else if i = 8 + σ.rn.toNat then q else b i
theorem addB_o {σ : St} {b : Nat → Nat} {e q i : Nat} (h : i ≠ 5) (g : i ≠ 8 + σ.rn.toNat) : addB σ b e q i = b i := by unfold addB; rw [if_neg h, if_neg g]
theorem addB_5 {σ : St} {b : Nat → Nat} {e q : Nat} : addB σ b e q 5 = e := if_pos rfl
theorem addB_q {σ : St} {b : Nat → Nat} {e q : Nat} : addB σ b e q (8 + σ.rn.toNat) = q := by unfold addB; rw [if_neg (by omega), if_pos rfl]
theorem okR_add {σ : St} {f len sp k : Int} (h : okR σ) (h4 : σ.rn < 4) (hok : (0 ≤ f ∧ 2 ≤ len ∧ f + len ≤ 16) ∧ (1 ≤ sp ∧ sp ≤ 9) ∧ (0 ≤ k ∧ k ≤ 2)) : okR (addS σ f len sp k) := by
  refine ⟨⟨?_, ?_⟩, fun i i0 i1 => ?_⟩
  · show 0 ≤ σ.rn + 1; have := h.1; omega
  · show σ.rn + 1 ≤ 4; omega
  · have i1' : i < σ.rn + 1 := i1
    show (0 ≤ up σ.F σ.rn f i ∧ 2 ≤ up σ.L σ.rn len i ∧ up σ.F σ.rn f i + up σ.L σ.rn len i ≤ 16) ∧ (1 ≤ up σ.S σ.rn sp i ∧ up σ.S σ.rn sp i ≤ 9) ∧ (0 ≤ up σ.K σ.rn k i ∧ up σ.K σ.rn k i ≤ 2)
    by_cases q : i = σ.rn
    · rw [q, up_s, up_s, up_s, up_s]; exact hok
    · rw [up_n q, up_n q, up_n q, up_n q]; exact h.2 i i0 (by omega)
theorem elR_add {σ : St} {b : Nat → Nat} {e q : Nat} {f len sp k : Int} (h0 : 0 ≤ σ.rn) : elR (addS σ f len sp k) (addB σ b e q) = up (elR σ b) σ.rn (some q) := by
  funext j
  show (if 0 ≤ j ∧ j < σ.rn + 1 then some (addB σ b e q (8 + j.toNat)) else none) = up (elR σ b) σ.rn (some q) j
  by_cases g : j = σ.rn
  · rw [g, up_s, if_pos (by omega), addB_q]
  · rw [up_n g]
    unfold elR
    by_cases r : 0 ≤ j ∧ j < σ.rn
    · rw [if_pos r, if_pos (by omega), addB_o (by omega) (by omega)]
    · rw [if_neg r, if_neg (by omega)]
theorem hMod_addR {G : zG} {σ : St} {b : Nat → Nat} {th m1 m2 x1 : Int32} {H H1 : Heap} (h : hMod G σ b th m1 m2 H) {q e : Nat} {f len sp k : Int} (h4 : σ.rn < 4) (hok : (0 ≤ f ∧ 2 ≤ len ∧ f + len ≤ 16) ∧ (1 ≤ sp ∧ sp ≤ 9) ∧ (0 ≤ k ∧ k ≤ 2)) (hn : hAL G (b 3) e x1 (σ.rn + 1) H1) (he : hEd G e (up (elR σ b) σ.rn (some q)) H1) (hq : hR4 G q f len sp k H1) (oq : ∀ i : Nat, mL σ i → i ≠ 3 → i ≠ 5 → H1[b i]? = H[b i]?) : hMod G (addS σ f len sp k) (addB σ b e q) th x1 m2 H1 := by
  have h0r : 0 ≤ σ.rn := h.2.2.2.2.2.2.2.2.2.1.1
  obtain ⟨h0, h1, h2, h3, h4', h5, h6, h7, h8, h9⟩ := h
  have s : ∀ i : Nat, i ≠ 5 → i ≠ 8 + σ.rn.toNat → addB σ b e q i = b i := fun i a c => addB_o a c
  unfold hMod
  rw [s 0 (by omega) (by omega), s 1 (by omega) (by omega), s 2 (by omega) (by omega), s 3 (by omega) (by omega), s 4 (by omega) (by omega), addB_5, s 6 (by omega) (by omega), elR_add h0r]
  refine ⟨va_at.kept h0 (oq 0 (mL_s (by decide)) (by decide) (by decide)), va_at.kept h1 (oq 1 (mL_s (by decide)) (by decide) (by decide)), va_at.kept h2 (oq 2 (mL_s (by decide)) (by decide) (by decide)), hn, va_at.kept h4' (oq 4 (mL_s (by decide)) (by decide) (by decide)), fun _ => he, fun z => ?_, fun t t0 t1 => ?_, fun t t0 t1 => ?_, okR_add h9 h4 hok⟩
  · have e9 : elK (addS σ f len sp k) (addB σ b e q) = elK σ b := by
      funext t
      show (if 0 ≤ t ∧ t < σ.kn then some (addB σ b e q (16 + t.toNat)) else none) = _
      rw [s _ (by omega) (by omega)]; rfl
    rw [e9]
    exact va_at.kept (h6 z) (oq 6 (mL_6 z) (by decide) (by decide))
  · have t1' : t < σ.rn + 1 := t1
    show hR4 G _ (up σ.F σ.rn f t) (up σ.L σ.rn len t) (up σ.S σ.rn sp t) (up σ.K σ.rn k t) H1
    by_cases g : t = σ.rn
    · rw [g, up_s, up_s, up_s, up_s, addB_q]; exact hq
    · rw [up_n g, up_n g, up_n g, up_n g, s _ (by omega) (by omega)]
      exact va_at.kept (h7 t t0 (by omega)) (oq _ (mL_r t0 (by omega)) (by omega) (by omega))
  · rw [s _ (by omega) (by omega)]
    exact va_at.kept (h8 t t0 t1) (oq _ (mL_k t0 t1) (by omega) (by omega))
def addKS (σ : St) (g : Int → Int32) : St := σ.wK (σ.kn + 1) (up σ.KP σ.kn g)
def addKB (σ : St) (b : Nat → Nat) (e q : Nat) : Nat → Nat := fun i => if i = 6 then e else if i = 16 + σ.kn.toNat then q else b i
theorem addKB_o {σ : St} {b : Nat → Nat} {e q i : Nat} (h : i ≠ 6) (g : i ≠ 16 + σ.kn.toNat) : addKB σ b e q i = b i := by unfold addKB; rw [if_neg h, if_neg g]
theorem addKB_6 {σ : St} {b : Nat → Nat} {e q : Nat} : addKB σ b e q 6 = e := if_pos rfl
theorem addKB_q {σ : St} {b : Nat → Nat} {e q : Nat} : addKB σ b e q (16 + σ.kn.toNat) = q := by unfold addKB; rw [if_neg (by omega), if_pos rfl]
theorem elK_add {σ : St} {b : Nat → Nat} {e q : Nat} {g : Int → Int32} (h0 : 0 ≤ σ.kn) : elK (addKS σ g) (addKB σ b e q) = up (elK σ b) σ.kn (some q) := by
  funext j
  show (if 0 ≤ j ∧ j < σ.kn + 1 then some (addKB σ b e q (16 + j.toNat)) else none) = up (elK σ b) σ.kn (some q) j
  by_cases g : j = σ.kn
  · rw [g, up_s, if_pos (by omega), addKB_q]
  · rw [up_n g]
    unfold elK
    by_cases r : 0 ≤ j ∧ j < σ.kn
    · rw [if_pos r, if_pos (by omega), addKB_o (by omega) (by omega)]
    · rw [if_neg r, if_neg (by omega)]
theorem hMod_addK {G : zG} {σ : St} {b : Nat → Nat} {th m1 m2 x2 : Int32} {H H1 : Heap} (h : hMod G σ b th m1 m2 H) {q e : Nat} {g : Int → Int32} (h0k : 0 ≤ σ.kn) (hn : hAL G (b 4) e x2 (σ.kn + 1) H1) (he : hEd G e (up (elK σ b) σ.kn (some q)) H1) (hq : va_at G.1 vwCl (q, .inl (G.2 0, 32, .inl (zA g))) H1) (oq : ∀ i : Nat, mL σ i → i ≠ 4 → i ≠ 6 → H1[b i]? = H[b i]?) : hMod G (addKS σ g) (addKB σ b e q) th m1 x2 H1 := by
  have h4r : σ.rn ≤ 4 := h.2.2.2.2.2.2.2.2.2.1.2
  obtain ⟨h0, h1, h2, h3, h4', h5, h6, h7, h8, h9⟩ := h
  have s : ∀ i : Nat, i ≠ 6 → i ≠ 16 + σ.kn.toNat → addKB σ b e q i = b i := fun i a c => addKB_o a c
  unfold hMod
  rw [s 0 (by omega) (by omega), s 1 (by omega) (by omega), s 2 (by omega) (by omega), s 3 (by omega) (by omega), s 4 (by omega) (by omega), s 5 (by omega) (by omega), addKB_6, elK_add h0k]
  refine ⟨va_at.kept h0 (oq 0 (mL_s (by decide)) (by decide) (by decide)), va_at.kept h1 (oq 1 (mL_s (by decide)) (by decide) (by decide)), va_at.kept h2 (oq 2 (mL_s (by decide)) (by decide) (by decide)), va_at.kept h3 (oq 3 (mL_s (by decide)) (by decide) (by decide)), hn, fun z => ?_, fun _ => he, fun t t0 t1 => ?_, fun t t0 t1 => ?_, h9⟩
  · have e9 : elR (addKS σ g) (addKB σ b e q) = elR σ b := by
      funext t
      show (if 0 ≤ t ∧ t < σ.rn then some (addKB σ b e q (8 + t.toNat)) else none) = (if 0 ≤ t ∧ t < σ.rn then some (b (8 + t.toNat)) else none)
      by_cases z : 0 ≤ t ∧ t < σ.rn
      · rw [if_pos z, if_pos z, s _ (by omega) (by omega)]
      · rw [if_neg z, if_neg z]
    rw [e9]
    exact va_at.kept (h5 z) (oq 5 (mL_5 z) (by decide) (by decide))
  · have t1' : t < σ.rn := t1
    rw [s _ (by omega) (by omega)]
    exact va_at.kept (h7 t t0 t1) (oq _ (mL_r t0 t1) (by omega) (by omega))
  · have t1' : t < σ.kn + 1 := t1
    show va_at G.1 vwCl (_, .inl (G.2 0, 32, .inl (zA (up σ.KP σ.kn g t)))) H1
    by_cases z : t = σ.kn
    · rw [z, up_s, addKB_q]; exact hq
    · rw [up_n z, s _ (by omega) (by omega)]
      exact va_at.kept (h8 t t0 (by omega)) (oq _ (mL_k t0 (by omega)) (by omega) (by omega))
theorem inj_addR {σ : St} {b : Nat → Nat} {e q : Nat} {f len sp k : Int} (hd : inj b (mL σ)) (h0 : 0 ≤ σ.rn) (h4 : σ.rn < 4) (hq : ∀ i : Nat, mL σ i → b i ≠ q) (he : ∀ i : Nat, mL σ i → i ≠ 5 → b i ≠ e) (hqe : q ≠ e) : inj (addB σ b e q) (mL (addS σ f len sp k)) := by
  have key : ∀ i : Nat, mL (addS σ f len sp k) i → (i = 5 ∧ addB σ b e q i = e) ∨ (i = 8 + σ.rn.toNat ∧ addB σ b e q i = q) ∨ (mL σ i ∧ i ≠ 5 ∧ addB σ b e q i = b i) := by
    intro i hi
    by_cases h5 : i = 5
    · exact Or.inl ⟨h5, by rw [h5]; exact addB_5⟩
    · by_cases h8 : i = 8 + σ.rn.toNat
      · exact Or.inr (Or.inl ⟨h8, by rw [h8]; exact addB_q⟩)
      · refine Or.inr (Or.inr ⟨?_, h5, addB_o h5 h8⟩)
        have hi2 : i < 5 ∨ (i = 5 ∧ 0 < σ.rn + 1) ∨ (i = 6 ∧ 0 < σ.kn) ∨ (8 ≤ i ∧ (i : Int) < 8 + (σ.rn + 1)) ∨ (16 ≤ i ∧ (i : Int) < 16 + σ.kn) := hi
        unfold mL; omega
  intro i j hi hj e9
  rcases key i hi with ⟨a1, a2⟩ | ⟨a1, a2⟩ | ⟨a1, a2, a3⟩ <;> rcases key j hj with ⟨b1, b2⟩ | ⟨b1, b2⟩ | ⟨b1, b2, b3⟩
  · omega
  · exact absurd (a2.symm.trans (e9.trans b2)).symm hqe
  · exact absurd (b3.symm.trans (e9.symm.trans a2)) (he j b1 b2)
  · exact absurd (a2.symm.trans (e9.trans b2)) hqe
  · omega
  · exact absurd (b3.symm.trans (e9.symm.trans a2)) (hq j b1)
  · exact absurd (a3.symm.trans (e9.trans b2)) (he i a1 a2)
  · exact absurd (a3.symm.trans (e9.trans b2)) (hq i a1)
  · exact hd i j a1 b1 (a3.symm.trans (e9.trans b3))
theorem inj_addK {σ : St} {b : Nat → Nat} {e q : Nat} {g : Int → Int32} (hd : inj b (mL σ)) (h0 : 0 ≤ σ.kn) (h4 : 0 ≤ σ.rn ∧ σ.rn ≤ 4) (hq : ∀ i : Nat, mL σ i → b i ≠ q) (he : ∀ i : Nat, mL σ i → i ≠ 6 → b i ≠ e) (hqe : q ≠ e) : inj (addKB σ b e q) (mL (addKS σ g)) := by
  have key : ∀ i : Nat, mL (addKS σ g) i → (i = 6 ∧ addKB σ b e q i = e) ∨ (i = 16 + σ.kn.toNat ∧ addKB σ b e q i = q) ∨ (mL σ i ∧ i ≠ 6 ∧ addKB σ b e q i = b i) := by
    intro i hi
    by_cases h5 : i = 6
    · exact Or.inl ⟨h5, by rw [h5]; exact addKB_6⟩
    · by_cases h8 : i = 16 + σ.kn.toNat
      · exact Or.inr (Or.inl ⟨h8, by rw [h8]; exact addKB_q⟩)
      · refine Or.inr (Or.inr ⟨?_, h5, addKB_o h5 h8⟩)
        have hi2 : i < 5 ∨ (i = 5 ∧ 0 < σ.rn) ∨ (i = 6 ∧ 0 < σ.kn + 1) ∨ (8 ≤ i ∧ (i : Int) < 8 + σ.rn) ∨ (16 ≤ i ∧ (i : Int) < 16 + (σ.kn + 1)) := hi
        unfold mL; omega
  intro i j hi hj e9
  rcases key i hi with ⟨a1, a2⟩ | ⟨a1, a2⟩ | ⟨a1, a2, a3⟩ <;> rcases key j hj with ⟨b1, b2⟩ | ⟨b1, b2⟩ | ⟨b1, b2, b3⟩
  · omega
  · exact absurd (a2.symm.trans (e9.trans b2)).symm hqe
  · exact absurd (b3.symm.trans (e9.symm.trans a2)) (he j b1 b2)
  · exact absurd (a2.symm.trans (e9.trans b2)) hqe
  · omega
  · exact absurd (b3.symm.trans (e9.symm.trans a2)) (hq j b1)
  · exact absurd (a3.symm.trans (e9.trans b2)) (he i a1 a2)
  · exact absurd (a3.symm.trans (e9.trans b2)) (hq i a1)
  · exact hd i j a1 b1 (a3.symm.trans (e9.trans b3))
/-- three reasons for a refusal -/
def ec3 (b1 b2 b3 : Bool) : Int := if b1 = true then 1 else if b2 = true then 2 else if b3 = true then 3 else 0
theorem ec3_1 {b1 b2 b3 : Bool} (h : b1 = true) : ec3 b1 b2 b3 = 1 := by rw [ec3, if_pos h]
theorem ec3_2 {b1 b2 b3 : Bool} (h : b1 = false) (g : b2 = true) : ec3 b1 b2 b3 = 2 := by rw [ec3, if_neg (by rw [h]; decide), if_pos g]
theorem ec3_3 {b1 b2 b3 : Bool} (h : b1 = false) (g : b2 = false) (k : b3 = true) : ec3 b1 b2 b3 = 3 := by rw [ec3, if_neg (by rw [h]; decide), if_neg (by rw [g]; decide), if_pos k]
theorem ec3_0 {b1 b2 b3 : Bool} (h : b1 = false) (g : b2 = false) (k : b3 = false) : ec3 b1 b2 b3 = 0 := by rw [ec3, if_neg (by rw [h]; decide), if_neg (by rw [g]; decide), if_neg (by rw [k]; decide)]
theorem r4_mk (f len sp k : Int) (j : Int) (h0 : 0 ≤ j) (h1 : j < (4 : Nat)) : up (up (up (up (fun _ => 0) 0 f) 1 len) 2 sp) 3 k j = r4 f len sp k j := by
  rcases (show j = 0 ∨ j = 1 ∨ j = 2 ∨ j = 3 by omega) with rfl | rfl | rfl | rfl <;> rfl
/-- what of the shared rows is wanted where a list may grow; all that a call writes lies from G.2 99 on -/
def zHp (G : zG) (H : Heap) : Prop := (zStH G 0 (.ref (G.2 400)) H ∧ zEp G H) ∧ (@LT.lt Nat _ (G.2 (100 + 0)) (G.2 99) ∧ @LT.lt Nat _ (G.2 400) (G.2 99))
/-- the row of a list: the shared one while nothing was ever added, or one of its own -/
def zGr (G : zG) (σ : St) (b : Nat → Nat) (i : Nat) (n : Int) (els : Int → Option Nat) (H : Heap) : Prop := (b i = G.2 400 ∧ n = 0) ∨ (hEd G (b i) els H ∧ (∀ j : Nat, mL σ j → j ≠ i → b j ≠ b i) ∧ b i ≥ G.2 99)
/-- the reference's isSound, as it asks -/
def snT (σ : St) (k n : Int) : Bool := !(decide (bstI (fun o => twnM σ k o) 16 >>> (zI n &&& 31) &&& zI 1 = zI 1)) || decide (shw σ n σ.tk = shw σ k σ.tk)
def snB (σ : St) (k : Int) : Bool := (decide (cntI (fun j => rgIn σ j k) σ.rn ≤ 1) && (crB σ σ.tk k && (!(stlM σ k) || decide (shw σ k σ.tk = σ.B k)))) && allI (snT σ k) 16
def soM (σ : St) : Bool := allI (snB σ) 16 && decide (bcR (ksM σ) ≤ bcR (enM σ))
theorem zHp.kept {G : zG} {H H1 : Heap} (h : zHp G H) (hq : ∀ q : Nat, q < H.size → q < G.2 99 → H1[q]? = H[q]?) : zHp G H1 :=
  ⟨⟨zStH.kept h.1.1 (fun q hx e => hq q hx (by rw [e]; exact h.2.1)), zEp.kept h.1.2 (fun hx => hq _ hx h.2.2)⟩, h.2⟩
theorem zGr_keepR {G : zG} {σ σ' : St} {b : Nat → Nat} {th m1 m2 : Int32} {H H1 : Heap} {A : Nat → Prop} (h : zGr G σ b 5 σ.rn (elR σ b) H) (hP : hMod G σ' b th m1 m2 H1) (hr : σ'.rn = σ.rn) (oq : ∀ q : Nat, q < H.size → ¬ A q → H1[q]? = H[q]?) (hA : ∀ q : Nat, q < H.size → A q → mA σ b q) : zGr G σ b 5 σ.rn (elR σ b) H1 := by
  rcases h with h | ⟨h1, h2, h3⟩
  · exact Or.inl h
  · refine Or.inr ⟨?_, h2, h3⟩
    have h0 : 0 ≤ σ'.rn := hP.2.2.2.2.2.2.2.2.2.1.1
    by_cases r : 0 < σ.rn
    · have q := hP.2.2.2.2.2.1 (by rw [hr]; exact r)
      have e : elR σ' b = elR σ b := by funext t; unfold elR; rw [hr]
      rw [e] at q; exact q
    · refine va_at.kept h1 (oq _ (va_lt h1) (fun z => ?_))
      obtain ⟨j, hj, e⟩ := hA _ (va_lt h1) z
      refine h2 j hj (fun z => ?_) e.symm
      rw [z] at hj
      rcases hj with hj | ⟨-, hj⟩ | ⟨hj, -⟩ | ⟨hj, -⟩ | ⟨hj, -⟩ <;> omega
theorem zGr_keepK {G : zG} {σ σ' : St} {b : Nat → Nat} {th m1 m2 : Int32} {H H1 : Heap} {A : Nat → Prop} (h : zGr G σ b 6 σ.kn (elK σ b) H) (hP : hMod G σ' b th m1 m2 H1) (hr : σ'.kn = σ.kn) (h0 : 0 ≤ σ.kn) (oq : ∀ q : Nat, q < H.size → ¬ A q → H1[q]? = H[q]?) (hA : ∀ q : Nat, q < H.size → A q → mA σ b q) : zGr G σ b 6 σ.kn (elK σ b) H1 := by
  rcases h with h | ⟨h1, h2, h3⟩
  · exact Or.inl h
  · refine Or.inr ⟨?_, h2, h3⟩
    by_cases r : 0 < σ.kn
    · have q := hP.2.2.2.2.2.2.1 (by rw [hr]; exact r)
      have e : elK σ' b = elK σ b := by funext t; unfold elK; rw [hr]
      rw [e] at q; exact q
    · refine va_at.kept h1 (oq _ (va_lt h1) (fun z => ?_))
      obtain ⟨j, hj, e⟩ := hA _ (va_lt h1) z
      refine h2 j hj (fun z => ?_) e.symm
      rw [z] at hj
      rcases hj with hj | ⟨hj, -⟩ | ⟨-, hj⟩ | ⟨hj, -⟩ | ⟨hj, -⟩ <;> omega
theorem elR_0 {σ : St} {b : Nat → Nat} (h : σ.rn = 0) : elR σ b = fun _ => none := by
  funext j; unfold elR; rw [if_neg (by omega)]
theorem elK_0 {σ : St} {b : Nat → Nat} (h : σ.kn = 0) : elK σ b = fun _ => none := by
  funext j; unfold elK; rw [if_neg (by omega)]
theorem dX4_ofRangeNow_0 : decode cX4_ofRangeNow 0 = .ok (.aload_n 0, 1) := by decide +kernel
theorem dX4_ofRangeNow_1 : decode cX4_ofRangeNow 1 = .ok (.getfield 23, 3) := by decide +kernel
theorem dX4_ofRangeNow_4 : decode cX4_ofRangeNow 4 = .ok (.iload_n 1, 1) := by decide +kernel
theorem dX4_ofRangeNow_5 : decode cX4_ofRangeNow 5 = .ok (.invokevirtual 46, 3) := by decide +kernel
theorem dX4_ofRangeNow_8 : decode cX4_ofRangeNow 8 = .ok (.checkcast 50, 3) := by decide +kernel
theorem dX4_ofRangeNow_11 : decode cX4_ofRangeNow 11 = .ok (.astore_n 3, 1) := by decide +kernel
theorem dX4_ofRangeNow_12 : decode cX4_ofRangeNow 12 = .ok (.bipush 6, 2) := by decide +kernel
theorem dX4_ofRangeNow_14 : decode cX4_ofRangeNow 14 = .ok (.newarray .int, 2) := by decide +kernel
theorem dX4_ofRangeNow_16 : decode cX4_ofRangeNow 16 = .ok (.dup, 1) := by decide +kernel
theorem dX4_ofRangeNow_17 : decode cX4_ofRangeNow 17 = .ok (.iconst 0, 1) := by decide +kernel
theorem dX4_ofRangeNow_18 : decode cX4_ofRangeNow 18 = .ok (.aload_n 3, 1) := by decide +kernel
theorem dX4_ofRangeNow_19 : decode cX4_ofRangeNow 19 = .ok (.iconst 0, 1) := by decide +kernel
theorem dX4_ofRangeNow_20 : decode cX4_ofRangeNow 20 = .ok (.iaload, 1) := by decide +kernel
theorem dX4_ofRangeNow_21 : decode cX4_ofRangeNow 21 = .ok (.iastore, 1) := by decide +kernel
theorem dX4_ofRangeNow_22 : decode cX4_ofRangeNow 22 = .ok (.dup, 1) := by decide +kernel
theorem dX4_ofRangeNow_23 : decode cX4_ofRangeNow 23 = .ok (.iconst 1, 1) := by decide +kernel
theorem dX4_ofRangeNow_24 : decode cX4_ofRangeNow 24 = .ok (.aload_n 3, 1) := by decide +kernel
theorem dX4_ofRangeNow_25 : decode cX4_ofRangeNow 25 = .ok (.iconst 1, 1) := by decide +kernel
theorem dX4_ofRangeNow_26 : decode cX4_ofRangeNow 26 = .ok (.iaload, 1) := by decide +kernel
theorem dX4_ofRangeNow_27 : decode cX4_ofRangeNow 27 = .ok (.iastore, 1) := by decide +kernel
theorem dX4_ofRangeNow_28 : decode cX4_ofRangeNow 28 = .ok (.dup, 1) := by decide +kernel
theorem dX4_ofRangeNow_29 : decode cX4_ofRangeNow 29 = .ok (.iconst 2, 1) := by decide +kernel
theorem dX4_ofRangeNow_30 : decode cX4_ofRangeNow 30 = .ok (.aload_n 3, 1) := by decide +kernel
theorem dX4_ofRangeNow_31 : decode cX4_ofRangeNow 31 = .ok (.iconst 2, 1) := by decide +kernel
theorem dX4_ofRangeNow_32 : decode cX4_ofRangeNow 32 = .ok (.iaload, 1) := by decide +kernel
theorem dX4_ofRangeNow_33 : decode cX4_ofRangeNow 33 = .ok (.iastore, 1) := by decide +kernel
theorem dX4_ofRangeNow_34 : decode cX4_ofRangeNow 34 = .ok (.dup, 1) := by decide +kernel
theorem dX4_ofRangeNow_35 : decode cX4_ofRangeNow 35 = .ok (.iconst 3, 1) := by decide +kernel
theorem dX4_ofRangeNow_36 : decode cX4_ofRangeNow 36 = .ok (.aload_n 3, 1) := by decide +kernel
theorem dX4_ofRangeNow_37 : decode cX4_ofRangeNow 37 = .ok (.iconst 3, 1) := by decide +kernel
theorem dX4_ofRangeNow_38 : decode cX4_ofRangeNow 38 = .ok (.iaload, 1) := by decide +kernel
theorem dX4_ofRangeNow_39 : decode cX4_ofRangeNow 39 = .ok (.iastore, 1) := by decide +kernel
theorem dX4_ofRangeNow_40 : decode cX4_ofRangeNow 40 = .ok (.dup, 1) := by decide +kernel
theorem dX4_ofRangeNow_41 : decode cX4_ofRangeNow 41 = .ok (.iconst 4, 1) := by decide +kernel
theorem dX4_ofRangeNow_42 : decode cX4_ofRangeNow 42 = .ok (.aload_n 3, 1) := by decide +kernel
theorem dX4_ofRangeNow_43 : decode cX4_ofRangeNow 43 = .ok (.aload_n 0, 1) := by decide +kernel
theorem dX4_ofRangeNow_44 : decode cX4_ofRangeNow 44 = .ok (.getfield 108, 3) := by decide +kernel
theorem dX4_ofRangeNow_47 : decode cX4_ofRangeNow 47 = .ok (.invokestatic 55, 3) := by decide +kernel
theorem dX4_ofRangeNow_50 : decode cX4_ofRangeNow 50 = .ok (.iastore, 1) := by decide +kernel
theorem dX4_ofRangeNow_51 : decode cX4_ofRangeNow 51 = .ok (.dup, 1) := by decide +kernel
theorem dX4_ofRangeNow_52 : decode cX4_ofRangeNow 52 = .ok (.iconst 5, 1) := by decide +kernel
theorem dX4_ofRangeNow_53 : decode cX4_ofRangeNow 53 = .ok (.aload_n 3, 1) := by decide +kernel
theorem dX4_ofRangeNow_54 : decode cX4_ofRangeNow 54 = .ok (.invokestatic 59, 3) := by decide +kernel
theorem dX4_ofRangeNow_57 : decode cX4_ofRangeNow 57 = .ok (.iastore, 1) := by decide +kernel
theorem dX4_ofRangeNow_58 : decode cX4_ofRangeNow 58 = .ok (.astore 4, 2) := by decide +kernel
theorem dX4_ofRangeNow_60 : decode cX4_ofRangeNow 60 = .ok (.aload 4, 2) := by decide +kernel
theorem dX4_ofRangeNow_62 : decode cX4_ofRangeNow 62 = .ok (.iload_n 2, 1) := by decide +kernel
theorem dX4_ofRangeNow_63 : decode cX4_ofRangeNow 63 = .ok (.iaload, 1) := by decide +kernel
theorem dX4_ofRangeNow_64 : decode cX4_ofRangeNow 64 = .ok (.ireturn, 1) := by decide +kernel
theorem q1_59 : (Jvm.Cond.arrayClass Jvm.ClassFile.FieldType.int) ∈ lw_g := zg_of (zin1 (List.mem_of_getElem? (i := 59) rfl)) rfl
theorem q5_229 : (Jvm.Cond.code ({ cls := "CyclepaintModel", name := "ofRangeNow", desc := "(II)I" } : Jvm.MethodName) prog_6_method_43_code (5 : Nat) (Option.some Jvm.ClassFile.FieldType.int)) ∈ lw_g := zg_of (zin5 (List.mem_of_getElem? (i := 229) rfl)) rfl
theorem q5_228 : (Jvm.Cond.instanceMethod ({ cls := "CyclepaintModel", name := "ofRangeNow", desc := "(II)I" } : Jvm.MethodName)) ∈ lw_g := zg_of (zin5 (List.mem_of_getElem? (i := 228) rfl)) rfl
theorem qs_39 : Cond.selects "CyclepaintModel" (⟨"CyclepaintModel", "ofRangeNow", "(II)I"⟩ : MethodName) (⟨"CyclepaintModel", "ofRangeNow", "(II)I"⟩ : MethodName) ∈ lw_g := zg_of (zinS (List.mem_of_getElem? (i := 39) rfl)) rfl
theorem ok_X4_ofRangeNow : zOV yX4_ofRangeNow cX4_ofRangeNow 5 ((Option.some Jvm.ClassFile.FieldType.int)) 2 := ⟨⟨q5_229, q1_3, by decide, by decide, by decide +kernel⟩, q5_228, qs_39⟩
set_option maxHeartbeats 4000000 in
set_option maxRecDepth 100000 in
theorem c_X4_ofRangeNow (l : Launch) (G : zG) (σ : St) (b : Nat → Nat) (th m1 m2 : Int32) (sz : Nat) (j wh : Int) (hj : 0 ≤ j ∧ j < σ.rn) (hw : 0 ≤ wh ∧ wh ≤ 5) (hT : 0 ≤ σ.tk ∧ σ.tk ≤ 99999) : Met l yX4_ofRangeNow (wq yX4_ofRangeNow cX4_ofRangeNow 5 ((Option.some Jvm.ClassFile.FieldType.int))) (rmM 3 64 1 6) (va_Pc [.ref (b 0), .int (zI (j)), .int (zI (wh))] (zK G (fun H => hMod G σ b th m1 m2 H ∧ H.size = sz))) (zM (fun y => sz ≤ y) (some (.int ((rF σ j wh)))) (fun _ => True)) 1 6 (fun y => sz ≤ y) := by
  refine z_enterMI (by decide +kernel) (Nat.le_of_ble_eq_true rfl) ?_
  intro p env s m below meth cod Q S hG hP hS ret ls hl
  have hl : lv_has ls 5 [(0, .ref (b 0)), (1, .int (zI (j))), (2, .int (zI (wh)))] := hl
  have hz0 := hP.2
  have hP := hP.1
  have ltb : ∀ i : Nat, mL σ i → b i < sz := fun i hi => by rw [← hz0]; exact hMod_lt hP hi
  have hO := hP.2.2.2.2.2.2.2.2.2
  have hrn := hO.1
  rcases (show wh = 0 ∨ wh = 1 ∨ wh = 2 ∨ wh = 3 ∨ wh = 4 ∨ wh = 5 by omega) with rfl | rfl | rfl | rfl | rfl | rfl
  · skip
    have hok := hO.2 j hj.1 hj.2
    refine z_aload_n S dX4_ofRangeNow_0 hl 0 rfl rfl ?_
    refine z_get S hG hP.1 zc_X4 6 (by decide) q4_232 rfl rfl dX4_ofRangeNow_1 ?_
    refine z_iload_n S dX4_ofRangeNow_4 hl 1 rfl rfl ?_
    refine z_callVs S hG (c_alGet l G (b 3) (b 5) m1 σ.rn (elR σ b) (j) (b (8 + Int.toNat (j))) (if_pos (by omega)) (by omega) (by omega)) ok_Jx4a65c_get_915e3 hP.2.2.2.1 zc_Jx4a65c rfl q5_52 (⟨hP.2.2.2.1, hP.2.2.2.2.2.1 (by omega)⟩) ⟨rfl, rfl, by decide, by decide⟩ ⟨Nat.zero_le _, Nat.zero_le _⟩ rfl (Nat.le_of_ble_eq_true rfl) hl.1 rfl dX4_ofRangeNow_5 ?_
    refine z_castI S hG (hP.2.2.2.2.2.2.2.1 (j) (by omega) (by omega)) q5_64 dX4_ofRangeNow_8 ?_
    refine z_astore_n (lv' := [(3, .ref (b (8 + Int.toNat (j)))), (0, .ref (b 0)), (1, .int (zI (j))), (2, .int (zI (0)))]) S dX4_ofRangeNow_11 hl rfl (by decide) rfl (fun ls hl => ?_)
    refine z_bipush S dX4_ofRangeNow_12 rfl ?_
    refine z_newI (N := 6) S hG (Nat.le_of_ble_eq_true rfl) q_arrI hS ⟨Nat.le_of_ble_eq_true rfl, Nat.le_of_ble_eq_true rfl⟩ dX4_ofRangeNow_14 (fun n1 H_1 hq_n1 hat hz oq hS => ?_)
    have ltb_n1 : ∀ i : Nat, mL σ i → b i < n1 := fun i hi => by rw [hq_n1]; exact hMod_lt hP hi
    have hP := hMod_up hP (fun q h => oq q h)
    have h_n1 := hat
    have h_n1 : va_at G.1 vwCl (n1, .inl (G.2 0, 6, .inl (zB (fun _ => 0)))) H_1 := h_n1
    refine z_dup S dX4_ofRangeNow_16 rfl ?_
    refine z_iconst S dX4_ofRangeNow_17 ?_
    refine z_aload_n S dX4_ofRangeNow_18 hl 0 rfl rfl ?_
    refine z_iconst S dX4_ofRangeNow_19 ?_
    refine z_ialdB S hG (hP.2.2.2.2.2.2.2.1 (j) (by omega) (by omega)) (by omega) (by decide) dX4_ofRangeNow_20 ?_
    rw [show r4 (σ.F (j)) (σ.L (j)) (σ.S (j)) (σ.K (j)) (0) = (σ.F (j)) from rfl]
    refine z_iastB S hG h_n1 hS (by show sz ≤ n1; omega) (i := 0) (x := σ.F (j)) (by omega) (by decide) dX4_ofRangeNow_21 (fun H_2 L_2 hat hz oq hS => ?_)
    have hP := hMod_keep hP (fun i hi => oq _ (by have := ltb_n1 i hi; omega))
    have h_n1 := hat
    refine z_dup S dX4_ofRangeNow_22 rfl ?_
    refine z_iconst S dX4_ofRangeNow_23 ?_
    refine z_aload_n S dX4_ofRangeNow_24 hl 0 rfl rfl ?_
    refine z_iconst S dX4_ofRangeNow_25 ?_
    refine z_ialdB S hG (hP.2.2.2.2.2.2.2.1 (j) (by omega) (by omega)) (by omega) (by decide) dX4_ofRangeNow_26 ?_
    rw [show r4 (σ.F (j)) (σ.L (j)) (σ.S (j)) (σ.K (j)) (1) = (σ.L (j)) from rfl]
    refine z_iastB S hG h_n1 hS (by show sz ≤ n1; omega) (i := 1) (x := σ.L (j)) (by omega) (by decide) dX4_ofRangeNow_27 (fun H_3 L_3 hat hz oq hS => ?_)
    have hP := hMod_keep hP (fun i hi => oq _ (by have := ltb_n1 i hi; omega))
    have h_n1 := hat
    refine z_dup S dX4_ofRangeNow_28 rfl ?_
    refine z_iconst S dX4_ofRangeNow_29 ?_
    refine z_aload_n S dX4_ofRangeNow_30 hl 0 rfl rfl ?_
    refine z_iconst S dX4_ofRangeNow_31 ?_
    refine z_ialdB S hG (hP.2.2.2.2.2.2.2.1 (j) (by omega) (by omega)) (by omega) (by decide) dX4_ofRangeNow_32 ?_
    rw [show r4 (σ.F (j)) (σ.L (j)) (σ.S (j)) (σ.K (j)) (2) = (σ.S (j)) from rfl]
    refine z_iastB S hG h_n1 hS (by show sz ≤ n1; omega) (i := 2) (x := σ.S (j)) (by omega) (by decide) dX4_ofRangeNow_33 (fun H_4 L_4 hat hz oq hS => ?_)
    have hP := hMod_keep hP (fun i hi => oq _ (by have := ltb_n1 i hi; omega))
    have h_n1 := hat
    refine z_dup S dX4_ofRangeNow_34 rfl ?_
    refine z_iconst S dX4_ofRangeNow_35 ?_
    refine z_aload_n S dX4_ofRangeNow_36 hl 0 rfl rfl ?_
    refine z_iconst S dX4_ofRangeNow_37 ?_
    refine z_ialdB S hG (hP.2.2.2.2.2.2.2.1 (j) (by omega) (by omega)) (by omega) (by decide) dX4_ofRangeNow_38 ?_
    rw [show r4 (σ.F (j)) (σ.L (j)) (σ.S (j)) (σ.K (j)) (3) = (σ.K (j)) from rfl]
    refine z_iastB S hG h_n1 hS (by show sz ≤ n1; omega) (i := 3) (x := σ.K (j)) (by omega) (by decide) dX4_ofRangeNow_39 (fun H_5 L_5 hat hz oq hS => ?_)
    have hP := hMod_keep hP (fun i hi => oq _ (by have := ltb_n1 i hi; omega))
    have h_n1 := hat
    refine z_dup S dX4_ofRangeNow_40 rfl ?_
    refine z_iconst S dX4_ofRangeNow_41 ?_
    refine z_aload_n S dX4_ofRangeNow_42 hl 0 rfl rfl ?_
    refine z_aload_n S dX4_ofRangeNow_43 hl 1 rfl rfl ?_
    refine z_get S hG hP.1 zc_X4 1 (by decide) q4_227 rfl rfl dX4_ofRangeNow_44 ?_
    refine z_callSs S hG (c_X4_shift l G (b (8 + Int.toNat (j))) (σ.F (j)) (σ.L (j)) (σ.S (j)) (σ.K (j)) (σ.tk) (by omega) (by omega)) ok_X4_shift q5_117 (hP.2.2.2.2.2.2.2.1 (j) (by omega) (by omega)) ⟨rfl, rfl, by decide, by decide⟩ ⟨Nat.le_of_ble_eq_true rfl, Nat.le_of_ble_eq_true rfl⟩ rfl (Nat.le_of_ble_eq_true rfl) hl.1 rfl dX4_ofRangeNow_47 ?_
    refine z_iastB S hG h_n1 hS (by show sz ≤ n1; omega) (i := 4) (x := shiftR (σ.K (j)) (σ.L (j)) (σ.S (j)) (σ.tk)) (by omega) (by decide) dX4_ofRangeNow_50 (fun H_6 L_6 hat hz oq hS => ?_)
    have hP := hMod_keep hP (fun i hi => oq _ (by have := ltb_n1 i hi; omega))
    have h_n1 := hat
    refine z_dup S dX4_ofRangeNow_51 rfl ?_
    refine z_iconst S dX4_ofRangeNow_52 ?_
    refine z_aload_n S dX4_ofRangeNow_53 hl 0 rfl rfl ?_
    refine z_callSs S hG (c_X4_round l G (b (8 + Int.toNat (j))) (σ.F (j)) (σ.L (j)) (σ.S (j)) (σ.K (j)) (by omega)) ok_X4_round q5_153 (hP.2.2.2.2.2.2.2.1 (j) (by omega) (by omega)) ⟨rfl, rfl, by decide, by decide⟩ ⟨Nat.le_of_ble_eq_true rfl, Nat.le_of_ble_eq_true rfl⟩ rfl (Nat.le_of_ble_eq_true rfl) hl.1 rfl dX4_ofRangeNow_54 ?_
    refine z_iastB S hG h_n1 hS (by show sz ≤ n1; omega) (i := 5) (x := rnd σ (j)) (by omega) (by decide) dX4_ofRangeNow_57 (fun H_7 L_7 hat hz oq hS => ?_)
    have hP := hMod_keep hP (fun i hi => oq _ (by have := ltb_n1 i hi; omega))
    have h_n1 := hat
    refine z_astore (lv' := [(4, .ref (n1)), (3, .ref (b (8 + Int.toNat (j)))), (0, .ref (b 0)), (1, .int (zI (j))), (2, .int (zI (0)))]) S dX4_ofRangeNow_58 hl (by decide) rfl (fun ls hl => ?_)
    refine z_aload S dX4_ofRangeNow_60 hl 0 rfl ?_
    refine z_iload_n S dX4_ofRangeNow_62 hl 4 rfl rfl ?_
    refine z_ialdB S hG h_n1 (by omega) (by decide) dX4_ofRangeNow_63 ?_
    rw [show (up (up (up (up (up (up (fun _ => 0) (0) (σ.F (j))) (1) (σ.L (j))) (2) (σ.S (j))) (3) (σ.K (j))) (4) (shiftR (σ.K (j)) (σ.L (j)) (σ.S (j)) (σ.tk))) (5) (rnd σ (j))) (0) = σ.F (j) from rfl]
    exact ret _ _ _ _ _ _ _ dX4_ofRangeNow_64 (rfl) hS (trivial) (Nat.le_of_ble_eq_true rfl) (Nat.le_of_ble_eq_true rfl)
  · skip
    have hok := hO.2 j hj.1 hj.2
    refine z_aload_n S dX4_ofRangeNow_0 hl 0 rfl rfl ?_
    refine z_get S hG hP.1 zc_X4 6 (by decide) q4_232 rfl rfl dX4_ofRangeNow_1 ?_
    refine z_iload_n S dX4_ofRangeNow_4 hl 1 rfl rfl ?_
    refine z_callVs S hG (c_alGet l G (b 3) (b 5) m1 σ.rn (elR σ b) (j) (b (8 + Int.toNat (j))) (if_pos (by omega)) (by omega) (by omega)) ok_Jx4a65c_get_915e3 hP.2.2.2.1 zc_Jx4a65c rfl q5_52 (⟨hP.2.2.2.1, hP.2.2.2.2.2.1 (by omega)⟩) ⟨rfl, rfl, by decide, by decide⟩ ⟨Nat.zero_le _, Nat.zero_le _⟩ rfl (Nat.le_of_ble_eq_true rfl) hl.1 rfl dX4_ofRangeNow_5 ?_
    refine z_castI S hG (hP.2.2.2.2.2.2.2.1 (j) (by omega) (by omega)) q5_64 dX4_ofRangeNow_8 ?_
    refine z_astore_n (lv' := [(3, .ref (b (8 + Int.toNat (j)))), (0, .ref (b 0)), (1, .int (zI (j))), (2, .int (zI (1)))]) S dX4_ofRangeNow_11 hl rfl (by decide) rfl (fun ls hl => ?_)
    refine z_bipush S dX4_ofRangeNow_12 rfl ?_
    refine z_newI (N := 6) S hG (Nat.le_of_ble_eq_true rfl) q_arrI hS ⟨Nat.le_of_ble_eq_true rfl, Nat.le_of_ble_eq_true rfl⟩ dX4_ofRangeNow_14 (fun n1 H_8 hq_n1 hat hz oq hS => ?_)
    have ltb_n1 : ∀ i : Nat, mL σ i → b i < n1 := fun i hi => by rw [hq_n1]; exact hMod_lt hP hi
    have hP := hMod_up hP (fun q h => oq q h)
    have h_n1 := hat
    have h_n1 : va_at G.1 vwCl (n1, .inl (G.2 0, 6, .inl (zB (fun _ => 0)))) H_8 := h_n1
    refine z_dup S dX4_ofRangeNow_16 rfl ?_
    refine z_iconst S dX4_ofRangeNow_17 ?_
    refine z_aload_n S dX4_ofRangeNow_18 hl 0 rfl rfl ?_
    refine z_iconst S dX4_ofRangeNow_19 ?_
    refine z_ialdB S hG (hP.2.2.2.2.2.2.2.1 (j) (by omega) (by omega)) (by omega) (by decide) dX4_ofRangeNow_20 ?_
    rw [show r4 (σ.F (j)) (σ.L (j)) (σ.S (j)) (σ.K (j)) (0) = (σ.F (j)) from rfl]
    refine z_iastB S hG h_n1 hS (by show sz ≤ n1; omega) (i := 0) (x := σ.F (j)) (by omega) (by decide) dX4_ofRangeNow_21 (fun H_9 L_9 hat hz oq hS => ?_)
    have hP := hMod_keep hP (fun i hi => oq _ (by have := ltb_n1 i hi; omega))
    have h_n1 := hat
    refine z_dup S dX4_ofRangeNow_22 rfl ?_
    refine z_iconst S dX4_ofRangeNow_23 ?_
    refine z_aload_n S dX4_ofRangeNow_24 hl 0 rfl rfl ?_
    refine z_iconst S dX4_ofRangeNow_25 ?_
    refine z_ialdB S hG (hP.2.2.2.2.2.2.2.1 (j) (by omega) (by omega)) (by omega) (by decide) dX4_ofRangeNow_26 ?_
    rw [show r4 (σ.F (j)) (σ.L (j)) (σ.S (j)) (σ.K (j)) (1) = (σ.L (j)) from rfl]
    refine z_iastB S hG h_n1 hS (by show sz ≤ n1; omega) (i := 1) (x := σ.L (j)) (by omega) (by decide) dX4_ofRangeNow_27 (fun H_10 L_10 hat hz oq hS => ?_)
    have hP := hMod_keep hP (fun i hi => oq _ (by have := ltb_n1 i hi; omega))
    have h_n1 := hat
    refine z_dup S dX4_ofRangeNow_28 rfl ?_
    refine z_iconst S dX4_ofRangeNow_29 ?_
    refine z_aload_n S dX4_ofRangeNow_30 hl 0 rfl rfl ?_
    refine z_iconst S dX4_ofRangeNow_31 ?_
    refine z_ialdB S hG (hP.2.2.2.2.2.2.2.1 (j) (by omega) (by omega)) (by omega) (by decide) dX4_ofRangeNow_32 ?_
    rw [show r4 (σ.F (j)) (σ.L (j)) (σ.S (j)) (σ.K (j)) (2) = (σ.S (j)) from rfl]
    refine z_iastB S hG h_n1 hS (by show sz ≤ n1; omega) (i := 2) (x := σ.S (j)) (by omega) (by decide) dX4_ofRangeNow_33 (fun H_11 L_11 hat hz oq hS => ?_)
    have hP := hMod_keep hP (fun i hi => oq _ (by have := ltb_n1 i hi; omega))
    have h_n1 := hat
    refine z_dup S dX4_ofRangeNow_34 rfl ?_
    refine z_iconst S dX4_ofRangeNow_35 ?_
    refine z_aload_n S dX4_ofRangeNow_36 hl 0 rfl rfl ?_
    refine z_iconst S dX4_ofRangeNow_37 ?_
    refine z_ialdB S hG (hP.2.2.2.2.2.2.2.1 (j) (by omega) (by omega)) (by omega) (by decide) dX4_ofRangeNow_38 ?_
    rw [show r4 (σ.F (j)) (σ.L (j)) (σ.S (j)) (σ.K (j)) (3) = (σ.K (j)) from rfl]
    refine z_iastB S hG h_n1 hS (by show sz ≤ n1; omega) (i := 3) (x := σ.K (j)) (by omega) (by decide) dX4_ofRangeNow_39 (fun H_12 L_12 hat hz oq hS => ?_)
    have hP := hMod_keep hP (fun i hi => oq _ (by have := ltb_n1 i hi; omega))
    have h_n1 := hat
    refine z_dup S dX4_ofRangeNow_40 rfl ?_
    refine z_iconst S dX4_ofRangeNow_41 ?_
    refine z_aload_n S dX4_ofRangeNow_42 hl 0 rfl rfl ?_
    refine z_aload_n S dX4_ofRangeNow_43 hl 1 rfl rfl ?_
    refine z_get S hG hP.1 zc_X4 1 (by decide) q4_227 rfl rfl dX4_ofRangeNow_44 ?_
    refine z_callSs S hG (c_X4_shift l G (b (8 + Int.toNat (j))) (σ.F (j)) (σ.L (j)) (σ.S (j)) (σ.K (j)) (σ.tk) (by omega) (by omega)) ok_X4_shift q5_117 (hP.2.2.2.2.2.2.2.1 (j) (by omega) (by omega)) ⟨rfl, rfl, by decide, by decide⟩ ⟨Nat.le_of_ble_eq_true rfl, Nat.le_of_ble_eq_true rfl⟩ rfl (Nat.le_of_ble_eq_true rfl) hl.1 rfl dX4_ofRangeNow_47 ?_
    refine z_iastB S hG h_n1 hS (by show sz ≤ n1; omega) (i := 4) (x := shiftR (σ.K (j)) (σ.L (j)) (σ.S (j)) (σ.tk)) (by omega) (by decide) dX4_ofRangeNow_50 (fun H_13 L_13 hat hz oq hS => ?_)
    have hP := hMod_keep hP (fun i hi => oq _ (by have := ltb_n1 i hi; omega))
    have h_n1 := hat
    refine z_dup S dX4_ofRangeNow_51 rfl ?_
    refine z_iconst S dX4_ofRangeNow_52 ?_
    refine z_aload_n S dX4_ofRangeNow_53 hl 0 rfl rfl ?_
    refine z_callSs S hG (c_X4_round l G (b (8 + Int.toNat (j))) (σ.F (j)) (σ.L (j)) (σ.S (j)) (σ.K (j)) (by omega)) ok_X4_round q5_153 (hP.2.2.2.2.2.2.2.1 (j) (by omega) (by omega)) ⟨rfl, rfl, by decide, by decide⟩ ⟨Nat.le_of_ble_eq_true rfl, Nat.le_of_ble_eq_true rfl⟩ rfl (Nat.le_of_ble_eq_true rfl) hl.1 rfl dX4_ofRangeNow_54 ?_
    refine z_iastB S hG h_n1 hS (by show sz ≤ n1; omega) (i := 5) (x := rnd σ (j)) (by omega) (by decide) dX4_ofRangeNow_57 (fun H_14 L_14 hat hz oq hS => ?_)
    have hP := hMod_keep hP (fun i hi => oq _ (by have := ltb_n1 i hi; omega))
    have h_n1 := hat
    refine z_astore (lv' := [(4, .ref (n1)), (3, .ref (b (8 + Int.toNat (j)))), (0, .ref (b 0)), (1, .int (zI (j))), (2, .int (zI (1)))]) S dX4_ofRangeNow_58 hl (by decide) rfl (fun ls hl => ?_)
    refine z_aload S dX4_ofRangeNow_60 hl 0 rfl ?_
    refine z_iload_n S dX4_ofRangeNow_62 hl 4 rfl rfl ?_
    refine z_ialdB S hG h_n1 (by omega) (by decide) dX4_ofRangeNow_63 ?_
    rw [show (up (up (up (up (up (up (fun _ => 0) (0) (σ.F (j))) (1) (σ.L (j))) (2) (σ.S (j))) (3) (σ.K (j))) (4) (shiftR (σ.K (j)) (σ.L (j)) (σ.S (j)) (σ.tk))) (5) (rnd σ (j))) (1) = σ.L (j) from rfl]
    exact ret _ _ _ _ _ _ _ dX4_ofRangeNow_64 (rfl) hS (trivial) (Nat.le_of_ble_eq_true rfl) (Nat.le_of_ble_eq_true rfl)
  · skip
    have hok := hO.2 j hj.1 hj.2
    refine z_aload_n S dX4_ofRangeNow_0 hl 0 rfl rfl ?_
    refine z_get S hG hP.1 zc_X4 6 (by decide) q4_232 rfl rfl dX4_ofRangeNow_1 ?_
    refine z_iload_n S dX4_ofRangeNow_4 hl 1 rfl rfl ?_
    refine z_callVs S hG (c_alGet l G (b 3) (b 5) m1 σ.rn (elR σ b) (j) (b (8 + Int.toNat (j))) (if_pos (by omega)) (by omega) (by omega)) ok_Jx4a65c_get_915e3 hP.2.2.2.1 zc_Jx4a65c rfl q5_52 (⟨hP.2.2.2.1, hP.2.2.2.2.2.1 (by omega)⟩) ⟨rfl, rfl, by decide, by decide⟩ ⟨Nat.zero_le _, Nat.zero_le _⟩ rfl (Nat.le_of_ble_eq_true rfl) hl.1 rfl dX4_ofRangeNow_5 ?_
    refine z_castI S hG (hP.2.2.2.2.2.2.2.1 (j) (by omega) (by omega)) q5_64 dX4_ofRangeNow_8 ?_
    refine z_astore_n (lv' := [(3, .ref (b (8 + Int.toNat (j)))), (0, .ref (b 0)), (1, .int (zI (j))), (2, .int (zI (2)))]) S dX4_ofRangeNow_11 hl rfl (by decide) rfl (fun ls hl => ?_)
    refine z_bipush S dX4_ofRangeNow_12 rfl ?_
    refine z_newI (N := 6) S hG (Nat.le_of_ble_eq_true rfl) q_arrI hS ⟨Nat.le_of_ble_eq_true rfl, Nat.le_of_ble_eq_true rfl⟩ dX4_ofRangeNow_14 (fun n1 H_15 hq_n1 hat hz oq hS => ?_)
    have ltb_n1 : ∀ i : Nat, mL σ i → b i < n1 := fun i hi => by rw [hq_n1]; exact hMod_lt hP hi
    have hP := hMod_up hP (fun q h => oq q h)
    have h_n1 := hat
    have h_n1 : va_at G.1 vwCl (n1, .inl (G.2 0, 6, .inl (zB (fun _ => 0)))) H_15 := h_n1
    refine z_dup S dX4_ofRangeNow_16 rfl ?_
    refine z_iconst S dX4_ofRangeNow_17 ?_
    refine z_aload_n S dX4_ofRangeNow_18 hl 0 rfl rfl ?_
    refine z_iconst S dX4_ofRangeNow_19 ?_
    refine z_ialdB S hG (hP.2.2.2.2.2.2.2.1 (j) (by omega) (by omega)) (by omega) (by decide) dX4_ofRangeNow_20 ?_
    rw [show r4 (σ.F (j)) (σ.L (j)) (σ.S (j)) (σ.K (j)) (0) = (σ.F (j)) from rfl]
    refine z_iastB S hG h_n1 hS (by show sz ≤ n1; omega) (i := 0) (x := σ.F (j)) (by omega) (by decide) dX4_ofRangeNow_21 (fun H_16 L_16 hat hz oq hS => ?_)
    have hP := hMod_keep hP (fun i hi => oq _ (by have := ltb_n1 i hi; omega))
    have h_n1 := hat
    refine z_dup S dX4_ofRangeNow_22 rfl ?_
    refine z_iconst S dX4_ofRangeNow_23 ?_
    refine z_aload_n S dX4_ofRangeNow_24 hl 0 rfl rfl ?_
    refine z_iconst S dX4_ofRangeNow_25 ?_
    refine z_ialdB S hG (hP.2.2.2.2.2.2.2.1 (j) (by omega) (by omega)) (by omega) (by decide) dX4_ofRangeNow_26 ?_
    rw [show r4 (σ.F (j)) (σ.L (j)) (σ.S (j)) (σ.K (j)) (1) = (σ.L (j)) from rfl]
    refine z_iastB S hG h_n1 hS (by show sz ≤ n1; omega) (i := 1) (x := σ.L (j)) (by omega) (by decide) dX4_ofRangeNow_27 (fun H_17 L_17 hat hz oq hS => ?_)
    have hP := hMod_keep hP (fun i hi => oq _ (by have := ltb_n1 i hi; omega))
    have h_n1 := hat
    refine z_dup S dX4_ofRangeNow_28 rfl ?_
    refine z_iconst S dX4_ofRangeNow_29 ?_
    refine z_aload_n S dX4_ofRangeNow_30 hl 0 rfl rfl ?_
    refine z_iconst S dX4_ofRangeNow_31 ?_
    refine z_ialdB S hG (hP.2.2.2.2.2.2.2.1 (j) (by omega) (by omega)) (by omega) (by decide) dX4_ofRangeNow_32 ?_
    rw [show r4 (σ.F (j)) (σ.L (j)) (σ.S (j)) (σ.K (j)) (2) = (σ.S (j)) from rfl]
    refine z_iastB S hG h_n1 hS (by show sz ≤ n1; omega) (i := 2) (x := σ.S (j)) (by omega) (by decide) dX4_ofRangeNow_33 (fun H_18 L_18 hat hz oq hS => ?_)
    have hP := hMod_keep hP (fun i hi => oq _ (by have := ltb_n1 i hi; omega))
    have h_n1 := hat
    refine z_dup S dX4_ofRangeNow_34 rfl ?_
    refine z_iconst S dX4_ofRangeNow_35 ?_
    refine z_aload_n S dX4_ofRangeNow_36 hl 0 rfl rfl ?_
    refine z_iconst S dX4_ofRangeNow_37 ?_
    refine z_ialdB S hG (hP.2.2.2.2.2.2.2.1 (j) (by omega) (by omega)) (by omega) (by decide) dX4_ofRangeNow_38 ?_
    rw [show r4 (σ.F (j)) (σ.L (j)) (σ.S (j)) (σ.K (j)) (3) = (σ.K (j)) from rfl]
    refine z_iastB S hG h_n1 hS (by show sz ≤ n1; omega) (i := 3) (x := σ.K (j)) (by omega) (by decide) dX4_ofRangeNow_39 (fun H_19 L_19 hat hz oq hS => ?_)
    have hP := hMod_keep hP (fun i hi => oq _ (by have := ltb_n1 i hi; omega))
    have h_n1 := hat
    refine z_dup S dX4_ofRangeNow_40 rfl ?_
    refine z_iconst S dX4_ofRangeNow_41 ?_
    refine z_aload_n S dX4_ofRangeNow_42 hl 0 rfl rfl ?_
    refine z_aload_n S dX4_ofRangeNow_43 hl 1 rfl rfl ?_
    refine z_get S hG hP.1 zc_X4 1 (by decide) q4_227 rfl rfl dX4_ofRangeNow_44 ?_
    refine z_callSs S hG (c_X4_shift l G (b (8 + Int.toNat (j))) (σ.F (j)) (σ.L (j)) (σ.S (j)) (σ.K (j)) (σ.tk) (by omega) (by omega)) ok_X4_shift q5_117 (hP.2.2.2.2.2.2.2.1 (j) (by omega) (by omega)) ⟨rfl, rfl, by decide, by decide⟩ ⟨Nat.le_of_ble_eq_true rfl, Nat.le_of_ble_eq_true rfl⟩ rfl (Nat.le_of_ble_eq_true rfl) hl.1 rfl dX4_ofRangeNow_47 ?_
    refine z_iastB S hG h_n1 hS (by show sz ≤ n1; omega) (i := 4) (x := shiftR (σ.K (j)) (σ.L (j)) (σ.S (j)) (σ.tk)) (by omega) (by decide) dX4_ofRangeNow_50 (fun H_20 L_20 hat hz oq hS => ?_)
    have hP := hMod_keep hP (fun i hi => oq _ (by have := ltb_n1 i hi; omega))
    have h_n1 := hat
    refine z_dup S dX4_ofRangeNow_51 rfl ?_
    refine z_iconst S dX4_ofRangeNow_52 ?_
    refine z_aload_n S dX4_ofRangeNow_53 hl 0 rfl rfl ?_
    refine z_callSs S hG (c_X4_round l G (b (8 + Int.toNat (j))) (σ.F (j)) (σ.L (j)) (σ.S (j)) (σ.K (j)) (by omega)) ok_X4_round q5_153 (hP.2.2.2.2.2.2.2.1 (j) (by omega) (by omega)) ⟨rfl, rfl, by decide, by decide⟩ ⟨Nat.le_of_ble_eq_true rfl, Nat.le_of_ble_eq_true rfl⟩ rfl (Nat.le_of_ble_eq_true rfl) hl.1 rfl dX4_ofRangeNow_54 ?_
    refine z_iastB S hG h_n1 hS (by show sz ≤ n1; omega) (i := 5) (x := rnd σ (j)) (by omega) (by decide) dX4_ofRangeNow_57 (fun H_21 L_21 hat hz oq hS => ?_)
    have hP := hMod_keep hP (fun i hi => oq _ (by have := ltb_n1 i hi; omega))
    have h_n1 := hat
    refine z_astore (lv' := [(4, .ref (n1)), (3, .ref (b (8 + Int.toNat (j)))), (0, .ref (b 0)), (1, .int (zI (j))), (2, .int (zI (2)))]) S dX4_ofRangeNow_58 hl (by decide) rfl (fun ls hl => ?_)
    refine z_aload S dX4_ofRangeNow_60 hl 0 rfl ?_
    refine z_iload_n S dX4_ofRangeNow_62 hl 4 rfl rfl ?_
    refine z_ialdB S hG h_n1 (by omega) (by decide) dX4_ofRangeNow_63 ?_
    rw [show (up (up (up (up (up (up (fun _ => 0) (0) (σ.F (j))) (1) (σ.L (j))) (2) (σ.S (j))) (3) (σ.K (j))) (4) (shiftR (σ.K (j)) (σ.L (j)) (σ.S (j)) (σ.tk))) (5) (rnd σ (j))) (2) = σ.S (j) from rfl]
    exact ret _ _ _ _ _ _ _ dX4_ofRangeNow_64 (rfl) hS (trivial) (Nat.le_of_ble_eq_true rfl) (Nat.le_of_ble_eq_true rfl)
  · skip
    have hok := hO.2 j hj.1 hj.2
    refine z_aload_n S dX4_ofRangeNow_0 hl 0 rfl rfl ?_
    refine z_get S hG hP.1 zc_X4 6 (by decide) q4_232 rfl rfl dX4_ofRangeNow_1 ?_
    refine z_iload_n S dX4_ofRangeNow_4 hl 1 rfl rfl ?_
    refine z_callVs S hG (c_alGet l G (b 3) (b 5) m1 σ.rn (elR σ b) (j) (b (8 + Int.toNat (j))) (if_pos (by omega)) (by omega) (by omega)) ok_Jx4a65c_get_915e3 hP.2.2.2.1 zc_Jx4a65c rfl q5_52 (⟨hP.2.2.2.1, hP.2.2.2.2.2.1 (by omega)⟩) ⟨rfl, rfl, by decide, by decide⟩ ⟨Nat.zero_le _, Nat.zero_le _⟩ rfl (Nat.le_of_ble_eq_true rfl) hl.1 rfl dX4_ofRangeNow_5 ?_
    refine z_castI S hG (hP.2.2.2.2.2.2.2.1 (j) (by omega) (by omega)) q5_64 dX4_ofRangeNow_8 ?_
    refine z_astore_n (lv' := [(3, .ref (b (8 + Int.toNat (j)))), (0, .ref (b 0)), (1, .int (zI (j))), (2, .int (zI (3)))]) S dX4_ofRangeNow_11 hl rfl (by decide) rfl (fun ls hl => ?_)
    refine z_bipush S dX4_ofRangeNow_12 rfl ?_
    refine z_newI (N := 6) S hG (Nat.le_of_ble_eq_true rfl) q_arrI hS ⟨Nat.le_of_ble_eq_true rfl, Nat.le_of_ble_eq_true rfl⟩ dX4_ofRangeNow_14 (fun n1 H_22 hq_n1 hat hz oq hS => ?_)
    have ltb_n1 : ∀ i : Nat, mL σ i → b i < n1 := fun i hi => by rw [hq_n1]; exact hMod_lt hP hi
    have hP := hMod_up hP (fun q h => oq q h)
    have h_n1 := hat
    have h_n1 : va_at G.1 vwCl (n1, .inl (G.2 0, 6, .inl (zB (fun _ => 0)))) H_22 := h_n1
    refine z_dup S dX4_ofRangeNow_16 rfl ?_
    refine z_iconst S dX4_ofRangeNow_17 ?_
    refine z_aload_n S dX4_ofRangeNow_18 hl 0 rfl rfl ?_
    refine z_iconst S dX4_ofRangeNow_19 ?_
    refine z_ialdB S hG (hP.2.2.2.2.2.2.2.1 (j) (by omega) (by omega)) (by omega) (by decide) dX4_ofRangeNow_20 ?_
    rw [show r4 (σ.F (j)) (σ.L (j)) (σ.S (j)) (σ.K (j)) (0) = (σ.F (j)) from rfl]
    refine z_iastB S hG h_n1 hS (by show sz ≤ n1; omega) (i := 0) (x := σ.F (j)) (by omega) (by decide) dX4_ofRangeNow_21 (fun H_23 L_23 hat hz oq hS => ?_)
    have hP := hMod_keep hP (fun i hi => oq _ (by have := ltb_n1 i hi; omega))
    have h_n1 := hat
    refine z_dup S dX4_ofRangeNow_22 rfl ?_
    refine z_iconst S dX4_ofRangeNow_23 ?_
    refine z_aload_n S dX4_ofRangeNow_24 hl 0 rfl rfl ?_
    refine z_iconst S dX4_ofRangeNow_25 ?_
    refine z_ialdB S hG (hP.2.2.2.2.2.2.2.1 (j) (by omega) (by omega)) (by omega) (by decide) dX4_ofRangeNow_26 ?_
    rw [show r4 (σ.F (j)) (σ.L (j)) (σ.S (j)) (σ.K (j)) (1) = (σ.L (j)) from rfl]
    refine z_iastB S hG h_n1 hS (by show sz ≤ n1; omega) (i := 1) (x := σ.L (j)) (by omega) (by decide) dX4_ofRangeNow_27 (fun H_24 L_24 hat hz oq hS => ?_)
    have hP := hMod_keep hP (fun i hi => oq _ (by have := ltb_n1 i hi; omega))
    have h_n1 := hat
    refine z_dup S dX4_ofRangeNow_28 rfl ?_
    refine z_iconst S dX4_ofRangeNow_29 ?_
    refine z_aload_n S dX4_ofRangeNow_30 hl 0 rfl rfl ?_
    refine z_iconst S dX4_ofRangeNow_31 ?_
    refine z_ialdB S hG (hP.2.2.2.2.2.2.2.1 (j) (by omega) (by omega)) (by omega) (by decide) dX4_ofRangeNow_32 ?_
    rw [show r4 (σ.F (j)) (σ.L (j)) (σ.S (j)) (σ.K (j)) (2) = (σ.S (j)) from rfl]
    refine z_iastB S hG h_n1 hS (by show sz ≤ n1; omega) (i := 2) (x := σ.S (j)) (by omega) (by decide) dX4_ofRangeNow_33 (fun H_25 L_25 hat hz oq hS => ?_)
    have hP := hMod_keep hP (fun i hi => oq _ (by have := ltb_n1 i hi; omega))
    have h_n1 := hat
    refine z_dup S dX4_ofRangeNow_34 rfl ?_
    refine z_iconst S dX4_ofRangeNow_35 ?_
    refine z_aload_n S dX4_ofRangeNow_36 hl 0 rfl rfl ?_
    refine z_iconst S dX4_ofRangeNow_37 ?_
    refine z_ialdB S hG (hP.2.2.2.2.2.2.2.1 (j) (by omega) (by omega)) (by omega) (by decide) dX4_ofRangeNow_38 ?_
    rw [show r4 (σ.F (j)) (σ.L (j)) (σ.S (j)) (σ.K (j)) (3) = (σ.K (j)) from rfl]
    refine z_iastB S hG h_n1 hS (by show sz ≤ n1; omega) (i := 3) (x := σ.K (j)) (by omega) (by decide) dX4_ofRangeNow_39 (fun H_26 L_26 hat hz oq hS => ?_)
    have hP := hMod_keep hP (fun i hi => oq _ (by have := ltb_n1 i hi; omega))
    have h_n1 := hat
    refine z_dup S dX4_ofRangeNow_40 rfl ?_
    refine z_iconst S dX4_ofRangeNow_41 ?_
    refine z_aload_n S dX4_ofRangeNow_42 hl 0 rfl rfl ?_
    refine z_aload_n S dX4_ofRangeNow_43 hl 1 rfl rfl ?_
    refine z_get S hG hP.1 zc_X4 1 (by decide) q4_227 rfl rfl dX4_ofRangeNow_44 ?_
    refine z_callSs S hG (c_X4_shift l G (b (8 + Int.toNat (j))) (σ.F (j)) (σ.L (j)) (σ.S (j)) (σ.K (j)) (σ.tk) (by omega) (by omega)) ok_X4_shift q5_117 (hP.2.2.2.2.2.2.2.1 (j) (by omega) (by omega)) ⟨rfl, rfl, by decide, by decide⟩ ⟨Nat.le_of_ble_eq_true rfl, Nat.le_of_ble_eq_true rfl⟩ rfl (Nat.le_of_ble_eq_true rfl) hl.1 rfl dX4_ofRangeNow_47 ?_
    refine z_iastB S hG h_n1 hS (by show sz ≤ n1; omega) (i := 4) (x := shiftR (σ.K (j)) (σ.L (j)) (σ.S (j)) (σ.tk)) (by omega) (by decide) dX4_ofRangeNow_50 (fun H_27 L_27 hat hz oq hS => ?_)
    have hP := hMod_keep hP (fun i hi => oq _ (by have := ltb_n1 i hi; omega))
    have h_n1 := hat
    refine z_dup S dX4_ofRangeNow_51 rfl ?_
    refine z_iconst S dX4_ofRangeNow_52 ?_
    refine z_aload_n S dX4_ofRangeNow_53 hl 0 rfl rfl ?_
    refine z_callSs S hG (c_X4_round l G (b (8 + Int.toNat (j))) (σ.F (j)) (σ.L (j)) (σ.S (j)) (σ.K (j)) (by omega)) ok_X4_round q5_153 (hP.2.2.2.2.2.2.2.1 (j) (by omega) (by omega)) ⟨rfl, rfl, by decide, by decide⟩ ⟨Nat.le_of_ble_eq_true rfl, Nat.le_of_ble_eq_true rfl⟩ rfl (Nat.le_of_ble_eq_true rfl) hl.1 rfl dX4_ofRangeNow_54 ?_
    refine z_iastB S hG h_n1 hS (by show sz ≤ n1; omega) (i := 5) (x := rnd σ (j)) (by omega) (by decide) dX4_ofRangeNow_57 (fun H_28 L_28 hat hz oq hS => ?_)
    have hP := hMod_keep hP (fun i hi => oq _ (by have := ltb_n1 i hi; omega))
    have h_n1 := hat
    refine z_astore (lv' := [(4, .ref (n1)), (3, .ref (b (8 + Int.toNat (j)))), (0, .ref (b 0)), (1, .int (zI (j))), (2, .int (zI (3)))]) S dX4_ofRangeNow_58 hl (by decide) rfl (fun ls hl => ?_)
    refine z_aload S dX4_ofRangeNow_60 hl 0 rfl ?_
    refine z_iload_n S dX4_ofRangeNow_62 hl 4 rfl rfl ?_
    refine z_ialdB S hG h_n1 (by omega) (by decide) dX4_ofRangeNow_63 ?_
    rw [show (up (up (up (up (up (up (fun _ => 0) (0) (σ.F (j))) (1) (σ.L (j))) (2) (σ.S (j))) (3) (σ.K (j))) (4) (shiftR (σ.K (j)) (σ.L (j)) (σ.S (j)) (σ.tk))) (5) (rnd σ (j))) (3) = σ.K (j) from rfl]
    exact ret _ _ _ _ _ _ _ dX4_ofRangeNow_64 (rfl) hS (trivial) (Nat.le_of_ble_eq_true rfl) (Nat.le_of_ble_eq_true rfl)
  · skip
    have hok := hO.2 j hj.1 hj.2
    refine z_aload_n S dX4_ofRangeNow_0 hl 0 rfl rfl ?_
    refine z_get S hG hP.1 zc_X4 6 (by decide) q4_232 rfl rfl dX4_ofRangeNow_1 ?_
    refine z_iload_n S dX4_ofRangeNow_4 hl 1 rfl rfl ?_
    refine z_callVs S hG (c_alGet l G (b 3) (b 5) m1 σ.rn (elR σ b) (j) (b (8 + Int.toNat (j))) (if_pos (by omega)) (by omega) (by omega)) ok_Jx4a65c_get_915e3 hP.2.2.2.1 zc_Jx4a65c rfl q5_52 (⟨hP.2.2.2.1, hP.2.2.2.2.2.1 (by omega)⟩) ⟨rfl, rfl, by decide, by decide⟩ ⟨Nat.zero_le _, Nat.zero_le _⟩ rfl (Nat.le_of_ble_eq_true rfl) hl.1 rfl dX4_ofRangeNow_5 ?_
    refine z_castI S hG (hP.2.2.2.2.2.2.2.1 (j) (by omega) (by omega)) q5_64 dX4_ofRangeNow_8 ?_
    refine z_astore_n (lv' := [(3, .ref (b (8 + Int.toNat (j)))), (0, .ref (b 0)), (1, .int (zI (j))), (2, .int (zI (4)))]) S dX4_ofRangeNow_11 hl rfl (by decide) rfl (fun ls hl => ?_)
    refine z_bipush S dX4_ofRangeNow_12 rfl ?_
    refine z_newI (N := 6) S hG (Nat.le_of_ble_eq_true rfl) q_arrI hS ⟨Nat.le_of_ble_eq_true rfl, Nat.le_of_ble_eq_true rfl⟩ dX4_ofRangeNow_14 (fun n1 H_29 hq_n1 hat hz oq hS => ?_)
    have ltb_n1 : ∀ i : Nat, mL σ i → b i < n1 := fun i hi => by rw [hq_n1]; exact hMod_lt hP hi
    have hP := hMod_up hP (fun q h => oq q h)
    have h_n1 := hat
    have h_n1 : va_at G.1 vwCl (n1, .inl (G.2 0, 6, .inl (zB (fun _ => 0)))) H_29 := h_n1
    refine z_dup S dX4_ofRangeNow_16 rfl ?_
    refine z_iconst S dX4_ofRangeNow_17 ?_
    refine z_aload_n S dX4_ofRangeNow_18 hl 0 rfl rfl ?_
    refine z_iconst S dX4_ofRangeNow_19 ?_
    refine z_ialdB S hG (hP.2.2.2.2.2.2.2.1 (j) (by omega) (by omega)) (by omega) (by decide) dX4_ofRangeNow_20 ?_
    rw [show r4 (σ.F (j)) (σ.L (j)) (σ.S (j)) (σ.K (j)) (0) = (σ.F (j)) from rfl]
    refine z_iastB S hG h_n1 hS (by show sz ≤ n1; omega) (i := 0) (x := σ.F (j)) (by omega) (by decide) dX4_ofRangeNow_21 (fun H_30 L_30 hat hz oq hS => ?_)
    have hP := hMod_keep hP (fun i hi => oq _ (by have := ltb_n1 i hi; omega))
    have h_n1 := hat
    refine z_dup S dX4_ofRangeNow_22 rfl ?_
    refine z_iconst S dX4_ofRangeNow_23 ?_
    refine z_aload_n S dX4_ofRangeNow_24 hl 0 rfl rfl ?_
    refine z_iconst S dX4_ofRangeNow_25 ?_
    refine z_ialdB S hG (hP.2.2.2.2.2.2.2.1 (j) (by omega) (by omega)) (by omega) (by decide) dX4_ofRangeNow_26 ?_
    rw [show r4 (σ.F (j)) (σ.L (j)) (σ.S (j)) (σ.K (j)) (1) = (σ.L (j)) from rfl]
    refine z_iastB S hG h_n1 hS (by show sz ≤ n1; omega) (i := 1) (x := σ.L (j)) (by omega) (by decide) dX4_ofRangeNow_27 (fun H_31 L_31 hat hz oq hS => ?_)
    have hP := hMod_keep hP (fun i hi => oq _ (by have := ltb_n1 i hi; omega))
    have h_n1 := hat
    refine z_dup S dX4_ofRangeNow_28 rfl ?_
    refine z_iconst S dX4_ofRangeNow_29 ?_
    refine z_aload_n S dX4_ofRangeNow_30 hl 0 rfl rfl ?_
    refine z_iconst S dX4_ofRangeNow_31 ?_
    refine z_ialdB S hG (hP.2.2.2.2.2.2.2.1 (j) (by omega) (by omega)) (by omega) (by decide) dX4_ofRangeNow_32 ?_
    rw [show r4 (σ.F (j)) (σ.L (j)) (σ.S (j)) (σ.K (j)) (2) = (σ.S (j)) from rfl]
    refine z_iastB S hG h_n1 hS (by show sz ≤ n1; omega) (i := 2) (x := σ.S (j)) (by omega) (by decide) dX4_ofRangeNow_33 (fun H_32 L_32 hat hz oq hS => ?_)
    have hP := hMod_keep hP (fun i hi => oq _ (by have := ltb_n1 i hi; omega))
    have h_n1 := hat
    refine z_dup S dX4_ofRangeNow_34 rfl ?_
    refine z_iconst S dX4_ofRangeNow_35 ?_
    refine z_aload_n S dX4_ofRangeNow_36 hl 0 rfl rfl ?_
    refine z_iconst S dX4_ofRangeNow_37 ?_
    refine z_ialdB S hG (hP.2.2.2.2.2.2.2.1 (j) (by omega) (by omega)) (by omega) (by decide) dX4_ofRangeNow_38 ?_
    rw [show r4 (σ.F (j)) (σ.L (j)) (σ.S (j)) (σ.K (j)) (3) = (σ.K (j)) from rfl]
    refine z_iastB S hG h_n1 hS (by show sz ≤ n1; omega) (i := 3) (x := σ.K (j)) (by omega) (by decide) dX4_ofRangeNow_39 (fun H_33 L_33 hat hz oq hS => ?_)
    have hP := hMod_keep hP (fun i hi => oq _ (by have := ltb_n1 i hi; omega))
    have h_n1 := hat
    refine z_dup S dX4_ofRangeNow_40 rfl ?_
    refine z_iconst S dX4_ofRangeNow_41 ?_
    refine z_aload_n S dX4_ofRangeNow_42 hl 0 rfl rfl ?_
    refine z_aload_n S dX4_ofRangeNow_43 hl 1 rfl rfl ?_
    refine z_get S hG hP.1 zc_X4 1 (by decide) q4_227 rfl rfl dX4_ofRangeNow_44 ?_
    refine z_callSs S hG (c_X4_shift l G (b (8 + Int.toNat (j))) (σ.F (j)) (σ.L (j)) (σ.S (j)) (σ.K (j)) (σ.tk) (by omega) (by omega)) ok_X4_shift q5_117 (hP.2.2.2.2.2.2.2.1 (j) (by omega) (by omega)) ⟨rfl, rfl, by decide, by decide⟩ ⟨Nat.le_of_ble_eq_true rfl, Nat.le_of_ble_eq_true rfl⟩ rfl (Nat.le_of_ble_eq_true rfl) hl.1 rfl dX4_ofRangeNow_47 ?_
    refine z_iastB S hG h_n1 hS (by show sz ≤ n1; omega) (i := 4) (x := shiftR (σ.K (j)) (σ.L (j)) (σ.S (j)) (σ.tk)) (by omega) (by decide) dX4_ofRangeNow_50 (fun H_34 L_34 hat hz oq hS => ?_)
    have hP := hMod_keep hP (fun i hi => oq _ (by have := ltb_n1 i hi; omega))
    have h_n1 := hat
    refine z_dup S dX4_ofRangeNow_51 rfl ?_
    refine z_iconst S dX4_ofRangeNow_52 ?_
    refine z_aload_n S dX4_ofRangeNow_53 hl 0 rfl rfl ?_
    refine z_callSs S hG (c_X4_round l G (b (8 + Int.toNat (j))) (σ.F (j)) (σ.L (j)) (σ.S (j)) (σ.K (j)) (by omega)) ok_X4_round q5_153 (hP.2.2.2.2.2.2.2.1 (j) (by omega) (by omega)) ⟨rfl, rfl, by decide, by decide⟩ ⟨Nat.le_of_ble_eq_true rfl, Nat.le_of_ble_eq_true rfl⟩ rfl (Nat.le_of_ble_eq_true rfl) hl.1 rfl dX4_ofRangeNow_54 ?_
    refine z_iastB S hG h_n1 hS (by show sz ≤ n1; omega) (i := 5) (x := rnd σ (j)) (by omega) (by decide) dX4_ofRangeNow_57 (fun H_35 L_35 hat hz oq hS => ?_)
    have hP := hMod_keep hP (fun i hi => oq _ (by have := ltb_n1 i hi; omega))
    have h_n1 := hat
    refine z_astore (lv' := [(4, .ref (n1)), (3, .ref (b (8 + Int.toNat (j)))), (0, .ref (b 0)), (1, .int (zI (j))), (2, .int (zI (4)))]) S dX4_ofRangeNow_58 hl (by decide) rfl (fun ls hl => ?_)
    refine z_aload S dX4_ofRangeNow_60 hl 0 rfl ?_
    refine z_iload_n S dX4_ofRangeNow_62 hl 4 rfl rfl ?_
    refine z_ialdB S hG h_n1 (by omega) (by decide) dX4_ofRangeNow_63 ?_
    rw [show (up (up (up (up (up (up (fun _ => 0) (0) (σ.F (j))) (1) (σ.L (j))) (2) (σ.S (j))) (3) (σ.K (j))) (4) (shiftR (σ.K (j)) (σ.L (j)) (σ.S (j)) (σ.tk))) (5) (rnd σ (j))) (4) = shiftR (σ.K (j)) (σ.L (j)) (σ.S (j)) (σ.tk) from rfl]
    exact ret _ _ _ _ _ _ _ dX4_ofRangeNow_64 (rfl) hS (trivial) (Nat.le_of_ble_eq_true rfl) (Nat.le_of_ble_eq_true rfl)
  · skip
    have hok := hO.2 j hj.1 hj.2
    refine z_aload_n S dX4_ofRangeNow_0 hl 0 rfl rfl ?_
    refine z_get S hG hP.1 zc_X4 6 (by decide) q4_232 rfl rfl dX4_ofRangeNow_1 ?_
    refine z_iload_n S dX4_ofRangeNow_4 hl 1 rfl rfl ?_
    refine z_callVs S hG (c_alGet l G (b 3) (b 5) m1 σ.rn (elR σ b) (j) (b (8 + Int.toNat (j))) (if_pos (by omega)) (by omega) (by omega)) ok_Jx4a65c_get_915e3 hP.2.2.2.1 zc_Jx4a65c rfl q5_52 (⟨hP.2.2.2.1, hP.2.2.2.2.2.1 (by omega)⟩) ⟨rfl, rfl, by decide, by decide⟩ ⟨Nat.zero_le _, Nat.zero_le _⟩ rfl (Nat.le_of_ble_eq_true rfl) hl.1 rfl dX4_ofRangeNow_5 ?_
    refine z_castI S hG (hP.2.2.2.2.2.2.2.1 (j) (by omega) (by omega)) q5_64 dX4_ofRangeNow_8 ?_
    refine z_astore_n (lv' := [(3, .ref (b (8 + Int.toNat (j)))), (0, .ref (b 0)), (1, .int (zI (j))), (2, .int (zI (5)))]) S dX4_ofRangeNow_11 hl rfl (by decide) rfl (fun ls hl => ?_)
    refine z_bipush S dX4_ofRangeNow_12 rfl ?_
    refine z_newI (N := 6) S hG (Nat.le_of_ble_eq_true rfl) q_arrI hS ⟨Nat.le_of_ble_eq_true rfl, Nat.le_of_ble_eq_true rfl⟩ dX4_ofRangeNow_14 (fun n1 H_36 hq_n1 hat hz oq hS => ?_)
    have ltb_n1 : ∀ i : Nat, mL σ i → b i < n1 := fun i hi => by rw [hq_n1]; exact hMod_lt hP hi
    have hP := hMod_up hP (fun q h => oq q h)
    have h_n1 := hat
    have h_n1 : va_at G.1 vwCl (n1, .inl (G.2 0, 6, .inl (zB (fun _ => 0)))) H_36 := h_n1
    refine z_dup S dX4_ofRangeNow_16 rfl ?_
    refine z_iconst S dX4_ofRangeNow_17 ?_
    refine z_aload_n S dX4_ofRangeNow_18 hl 0 rfl rfl ?_
    refine z_iconst S dX4_ofRangeNow_19 ?_
    refine z_ialdB S hG (hP.2.2.2.2.2.2.2.1 (j) (by omega) (by omega)) (by omega) (by decide) dX4_ofRangeNow_20 ?_
    rw [show r4 (σ.F (j)) (σ.L (j)) (σ.S (j)) (σ.K (j)) (0) = (σ.F (j)) from rfl]
    refine z_iastB S hG h_n1 hS (by show sz ≤ n1; omega) (i := 0) (x := σ.F (j)) (by omega) (by decide) dX4_ofRangeNow_21 (fun H_37 L_37 hat hz oq hS => ?_)
    have hP := hMod_keep hP (fun i hi => oq _ (by have := ltb_n1 i hi; omega))
    have h_n1 := hat
    refine z_dup S dX4_ofRangeNow_22 rfl ?_
    refine z_iconst S dX4_ofRangeNow_23 ?_
    refine z_aload_n S dX4_ofRangeNow_24 hl 0 rfl rfl ?_
    refine z_iconst S dX4_ofRangeNow_25 ?_
    refine z_ialdB S hG (hP.2.2.2.2.2.2.2.1 (j) (by omega) (by omega)) (by omega) (by decide) dX4_ofRangeNow_26 ?_
    rw [show r4 (σ.F (j)) (σ.L (j)) (σ.S (j)) (σ.K (j)) (1) = (σ.L (j)) from rfl]
    refine z_iastB S hG h_n1 hS (by show sz ≤ n1; omega) (i := 1) (x := σ.L (j)) (by omega) (by decide) dX4_ofRangeNow_27 (fun H_38 L_38 hat hz oq hS => ?_)
    have hP := hMod_keep hP (fun i hi => oq _ (by have := ltb_n1 i hi; omega))
    have h_n1 := hat
    refine z_dup S dX4_ofRangeNow_28 rfl ?_
    refine z_iconst S dX4_ofRangeNow_29 ?_
    refine z_aload_n S dX4_ofRangeNow_30 hl 0 rfl rfl ?_
    refine z_iconst S dX4_ofRangeNow_31 ?_
    refine z_ialdB S hG (hP.2.2.2.2.2.2.2.1 (j) (by omega) (by omega)) (by omega) (by decide) dX4_ofRangeNow_32 ?_
    rw [show r4 (σ.F (j)) (σ.L (j)) (σ.S (j)) (σ.K (j)) (2) = (σ.S (j)) from rfl]
    refine z_iastB S hG h_n1 hS (by show sz ≤ n1; omega) (i := 2) (x := σ.S (j)) (by omega) (by decide) dX4_ofRangeNow_33 (fun H_39 L_39 hat hz oq hS => ?_)
    have hP := hMod_keep hP (fun i hi => oq _ (by have := ltb_n1 i hi; omega))
    have h_n1 := hat
    refine z_dup S dX4_ofRangeNow_34 rfl ?_
    refine z_iconst S dX4_ofRangeNow_35 ?_
    refine z_aload_n S dX4_ofRangeNow_36 hl 0 rfl rfl ?_
    refine z_iconst S dX4_ofRangeNow_37 ?_
    refine z_ialdB S hG (hP.2.2.2.2.2.2.2.1 (j) (by omega) (by omega)) (by omega) (by decide) dX4_ofRangeNow_38 ?_
    rw [show r4 (σ.F (j)) (σ.L (j)) (σ.S (j)) (σ.K (j)) (3) = (σ.K (j)) from rfl]
    refine z_iastB S hG h_n1 hS (by show sz ≤ n1; omega) (i := 3) (x := σ.K (j)) (by omega) (by decide) dX4_ofRangeNow_39 (fun H_40 L_40 hat hz oq hS => ?_)
    have hP := hMod_keep hP (fun i hi => oq _ (by have := ltb_n1 i hi; omega))
    have h_n1 := hat
    refine z_dup S dX4_ofRangeNow_40 rfl ?_
    refine z_iconst S dX4_ofRangeNow_41 ?_
    refine z_aload_n S dX4_ofRangeNow_42 hl 0 rfl rfl ?_
    refine z_aload_n S dX4_ofRangeNow_43 hl 1 rfl rfl ?_
    refine z_get S hG hP.1 zc_X4 1 (by decide) q4_227 rfl rfl dX4_ofRangeNow_44 ?_
    refine z_callSs S hG (c_X4_shift l G (b (8 + Int.toNat (j))) (σ.F (j)) (σ.L (j)) (σ.S (j)) (σ.K (j)) (σ.tk) (by omega) (by omega)) ok_X4_shift q5_117 (hP.2.2.2.2.2.2.2.1 (j) (by omega) (by omega)) ⟨rfl, rfl, by decide, by decide⟩ ⟨Nat.le_of_ble_eq_true rfl, Nat.le_of_ble_eq_true rfl⟩ rfl (Nat.le_of_ble_eq_true rfl) hl.1 rfl dX4_ofRangeNow_47 ?_
    refine z_iastB S hG h_n1 hS (by show sz ≤ n1; omega) (i := 4) (x := shiftR (σ.K (j)) (σ.L (j)) (σ.S (j)) (σ.tk)) (by omega) (by decide) dX4_ofRangeNow_50 (fun H_41 L_41 hat hz oq hS => ?_)
    have hP := hMod_keep hP (fun i hi => oq _ (by have := ltb_n1 i hi; omega))
    have h_n1 := hat
    refine z_dup S dX4_ofRangeNow_51 rfl ?_
    refine z_iconst S dX4_ofRangeNow_52 ?_
    refine z_aload_n S dX4_ofRangeNow_53 hl 0 rfl rfl ?_
    refine z_callSs S hG (c_X4_round l G (b (8 + Int.toNat (j))) (σ.F (j)) (σ.L (j)) (σ.S (j)) (σ.K (j)) (by omega)) ok_X4_round q5_153 (hP.2.2.2.2.2.2.2.1 (j) (by omega) (by omega)) ⟨rfl, rfl, by decide, by decide⟩ ⟨Nat.le_of_ble_eq_true rfl, Nat.le_of_ble_eq_true rfl⟩ rfl (Nat.le_of_ble_eq_true rfl) hl.1 rfl dX4_ofRangeNow_54 ?_
    refine z_iastB S hG h_n1 hS (by show sz ≤ n1; omega) (i := 5) (x := rnd σ (j)) (by omega) (by decide) dX4_ofRangeNow_57 (fun H_42 L_42 hat hz oq hS => ?_)
    have hP := hMod_keep hP (fun i hi => oq _ (by have := ltb_n1 i hi; omega))
    have h_n1 := hat
    refine z_astore (lv' := [(4, .ref (n1)), (3, .ref (b (8 + Int.toNat (j)))), (0, .ref (b 0)), (1, .int (zI (j))), (2, .int (zI (5)))]) S dX4_ofRangeNow_58 hl (by decide) rfl (fun ls hl => ?_)
    refine z_aload S dX4_ofRangeNow_60 hl 0 rfl ?_
    refine z_iload_n S dX4_ofRangeNow_62 hl 4 rfl rfl ?_
    refine z_ialdB S hG h_n1 (by omega) (by decide) dX4_ofRangeNow_63 ?_
    rw [show (up (up (up (up (up (up (fun _ => 0) (0) (σ.F (j))) (1) (σ.L (j))) (2) (σ.S (j))) (3) (σ.K (j))) (4) (shiftR (σ.K (j)) (σ.L (j)) (σ.S (j)) (σ.tk))) (5) (rnd σ (j))) (5) = rnd σ (j) from rfl]
    exact ret _ _ _ _ _ _ _ dX4_ofRangeNow_64 (rfl) hS (trivial) (Nat.le_of_ble_eq_true rfl) (Nat.le_of_ble_eq_true rfl)
theorem dX4_periodNow_0 : decode cX4_periodNow 0 = .ok (.iconst 1, 1) := by decide +kernel
theorem dX4_periodNow_1 : decode cX4_periodNow 1 = .ok (.istore_n 1, 1) := by decide +kernel
theorem dX4_periodNow_2 : decode cX4_periodNow 2 = .ok (.aload_n 0, 1) := by decide +kernel
theorem dX4_periodNow_3 : decode cX4_periodNow 3 = .ok (.getfield 23, 3) := by decide +kernel
theorem dX4_periodNow_6 : decode cX4_periodNow 6 = .ok (.invokevirtual 63, 3) := by decide +kernel
theorem dX4_periodNow_9 : decode cX4_periodNow 9 = .ok (.astore_n 2, 1) := by decide +kernel
theorem dX4_periodNow_10 : decode cX4_periodNow 10 = .ok (.aload_n 2, 1) := by decide +kernel
theorem dX4_periodNow_11 : decode cX4_periodNow 11 = .ok (.invokeinterface 67 1, 5) := by decide +kernel
theorem dX4_periodNow_16 : decode cX4_periodNow 16 = .ok (.ifCond .eq 25, 3) := by decide +kernel
theorem dX4_periodNow_19 : decode cX4_periodNow 19 = .ok (.aload_n 2, 1) := by decide +kernel
theorem dX4_periodNow_20 : decode cX4_periodNow 20 = .ok (.invokeinterface 73 1, 5) := by decide +kernel
theorem dX4_periodNow_25 : decode cX4_periodNow 25 = .ok (.checkcast 50, 3) := by decide +kernel
theorem dX4_periodNow_28 : decode cX4_periodNow 28 = .ok (.astore_n 3, 1) := by decide +kernel
theorem dX4_periodNow_29 : decode cX4_periodNow 29 = .ok (.iload_n 1, 1) := by decide +kernel
theorem dX4_periodNow_30 : decode cX4_periodNow 30 = .ok (.aload_n 3, 1) := by decide +kernel
theorem dX4_periodNow_31 : decode cX4_periodNow 31 = .ok (.invokestatic 59, 3) := by decide +kernel
theorem dX4_periodNow_34 : decode cX4_periodNow 34 = .ok (.invokestatic 77, 3) := by decide +kernel
theorem dX4_periodNow_37 : decode cX4_periodNow 37 = .ok (.istore_n 1, 1) := by decide +kernel
theorem dX4_periodNow_38 : decode cX4_periodNow 38 = .ok (.goto (-28), 3) := by decide +kernel
theorem dX4_periodNow_41 : decode cX4_periodNow 41 = .ok (.iload_n 1, 1) := by decide +kernel
theorem dX4_periodNow_42 : decode cX4_periodNow 42 = .ok (.ireturn, 1) := by decide +kernel
theorem q6_29 : (Jvm.Cond.methodLink "CyclepaintModel" (63 : Nat) ({ cls := "java/util/ArrayList", name := "iterator", desc := "()Ljava/util/Iterator;" } : Jvm.MethodName)) ∈ lw_g := zg_of (zin6 (List.mem_of_getElem? (i := 29) rfl)) rfl
theorem q6_59 : (Jvm.Cond.instanceMethod ({ cls := "java/util/ArrayList$Itr", name := "hasNext", desc := "()Z" } : Jvm.MethodName)) ∈ lw_g := zg_of (zin6 (List.mem_of_getElem? (i := 59) rfl)) rfl
theorem q6_57 : (Jvm.Cond.selects "java/util/ArrayList$Itr" ({ cls := "java/util/Iterator", name := "hasNext", desc := "()Z" } : Jvm.MethodName) ({ cls := "java/util/ArrayList$Itr", name := "hasNext", desc := "()Z" } : Jvm.MethodName)) ∈ lw_g := zg_of (zin6 (List.mem_of_getElem? (i := 57) rfl)) rfl
theorem q6_53 : (Jvm.Cond.methodLink "CyclepaintModel" (67 : Nat) ({ cls := "java/util/Iterator", name := "hasNext", desc := "()Z" } : Jvm.MethodName)) ∈ lw_g := zg_of (zin6 (List.mem_of_getElem? (i := 53) rfl)) rfl
theorem q6_68 : (Jvm.Cond.instanceMethod ({ cls := "java/util/ArrayList$Itr", name := "next", desc := "()Ljava/lang/Object;" } : Jvm.MethodName)) ∈ lw_g := zg_of (zin6 (List.mem_of_getElem? (i := 68) rfl)) rfl
theorem q6_66 : (Jvm.Cond.selects "java/util/ArrayList$Itr" ({ cls := "java/util/Iterator", name := "next", desc := "()Ljava/lang/Object;" } : Jvm.MethodName) ({ cls := "java/util/ArrayList$Itr", name := "next", desc := "()Ljava/lang/Object;" } : Jvm.MethodName)) ∈ lw_g := zg_of (zin6 (List.mem_of_getElem? (i := 66) rfl)) rfl
theorem q6_63 : (Jvm.Cond.methodLink "CyclepaintModel" (73 : Nat) ({ cls := "java/util/Iterator", name := "next", desc := "()Ljava/lang/Object;" } : Jvm.MethodName)) ∈ lw_g := zg_of (zin6 (List.mem_of_getElem? (i := 63) rfl)) rfl
theorem q6_28 : (Jvm.Cond.code ({ cls := "CyclepaintModel", name := "periodNow", desc := "()I" } : Jvm.MethodName) prog_6_method_17_code (4 : Nat) (Option.some Jvm.ClassFile.FieldType.int)) ∈ lw_g := zg_of (zin6 (List.mem_of_getElem? (i := 28) rfl)) rfl
theorem q6_27 : (Jvm.Cond.instanceMethod ({ cls := "CyclepaintModel", name := "periodNow", desc := "()I" } : Jvm.MethodName)) ∈ lw_g := zg_of (zin6 (List.mem_of_getElem? (i := 27) rfl)) rfl
theorem qs_46 : Cond.selects "CyclepaintModel" (⟨"CyclepaintModel", "periodNow", "()I"⟩ : MethodName) (⟨"CyclepaintModel", "periodNow", "()I"⟩ : MethodName) ∈ lw_g := zg_of (zinS (List.mem_of_getElem? (i := 46) rfl)) rfl
theorem ok_X4_periodNow : zOV yX4_periodNow cX4_periodNow 4 ((Option.some Jvm.ClassFile.FieldType.int)) 0 := ⟨⟨q6_28, q1_3, by decide, by decide, by decide +kernel⟩, q6_27, qs_46⟩
set_option maxHeartbeats 4000000 in
set_option maxRecDepth 100000 in
theorem c_X4_periodNow (l : Launch) (G : zG) (σ : St) (b : Nat → Nat) (th m1 m2 : Int32) (sz : Nat) (hD : okD σ) : Met l yX4_periodNow (wq yX4_periodNow cX4_periodNow 4 ((Option.some Jvm.ClassFile.FieldType.int))) (rmM 3 61 1 4) (va_Pc [.ref (b 0)] (zK G (fun H => hMod G σ b th m1 m2 H ∧ H.size = sz))) (zM (fun y => sz ≤ y) (some (.int ((zI (per σ))))) (fun _ => True)) 1 4 (fun y => sz ≤ y) := by
  refine z_enterMI (by decide +kernel) (Nat.le_of_ble_eq_true rfl) ?_
  intro p env s m below meth cod Q S hG hP hS ret ls hl
  have hl : lv_has ls 4 [(0, .ref (b 0))] := hl
  have hz0 := hP.2
  have hP := hP.1
  have ltb : ∀ i : Nat, mL σ i → b i < sz := fun i hi => by rw [← hz0]; exact hMod_lt hP hi
  have hO := hP.2.2.2.2.2.2.2.2.2
  have hrn := hO.1
  refine z_iconst S dX4_periodNow_0 ?_
  refine z_istore_n (lv' := [(1, .int (zI (1))), (0, .ref (b 0))]) S dX4_periodNow_1 hl rfl (by decide) rfl (fun ls hl => ?_)
  refine z_aload_n S dX4_periodNow_2 hl 1 rfl rfl ?_
  refine z_get S hG hP.1 zc_X4 6 (by decide) q4_232 rfl rfl dX4_periodNow_3 ?_
  obtain ⟨n1, hq_n1⟩ : ∃ x : Nat, x = s.heap.size := ⟨_, rfl⟩
  refine z_callM S hG hS (c_alIter l G (b 3) (b 5) n1 m1 σ.rn) (fun y h => by have h2 : n1 ≤ y := h; show sz ≤ y; omega) ok_Jx4a65c_iterator_32c93 hP.2.2.2.1 zc_Jx4a65c rfl q6_29 (⟨hP.2.2.2.1, hq_n1.symm⟩) ⟨rfl, rfl, by decide, by decide⟩ ⟨Nat.le_of_ble_eq_true rfl, Nat.le_of_ble_eq_true rfl⟩ rfl (Nat.le_of_ble_eq_true rfl) hl.1 rfl dX4_periodNow_6 (fun H_1 L_1 hB hz oq hS => ?_)
  have hP := hMod_keep hP (fun i hi => oq _ (hMod_lt hP hi) (by have := ltb i hi; show ¬ (n1 ≤ _); omega))
  have hI := hB
  refine z_astore_n (lv' := [(2, .ref (n1)), (1, .int (zI (1))), (0, .ref (b 0))]) S dX4_periodNow_9 hl rfl (by decide) rfl (fun ls hl => ?_)
  have loop_10 : ∀ (nn : Nat) (cur : Int) (lr : Int) (md : Int) (Hk10 : Heap) (Lk10 : List Loc), (va_S (fun y => sz ≤ y) s.heap Hk10 Lk10) → (hMod G σ b th m1 m2 Hk10) → (sz ≤ Hk10.size) → (hIt G n1 (b 3) (cur) (lr) m1 Hk10) → (0 ≤ cur ∧ cur ≤ σ.rn) → (md = prdI σ cur) → ((σ.rn - cur).toNat) < nn → ∀ ls, lv_has ls 4 [(2, .ref (n1)), (1, .int (zI (md))), (0, .ref (b 0))] → W p l env (rmM 3 61 1 4) s m ([.ref (b 0)] : List Value).toArray below meth cod Hk10 Lk10 1 4 Q (F0 m 10 ls []) := by
    intro nn
    induction nn with
    | zero => intro _ _ _ _ _ _ _ _ _ _ _ h; exact absurd h (Nat.not_lt_zero _)
    | succ nn ih_10 =>
      intro cur lr md Hk10 Lk10 hS hP hzk hI hc hmd hm_10 ls hl
      have hpb := per_b hO hD cur hc.1 hc.2
      rw [← hmd] at hpb
      refine z_aload_n S dX4_periodNow_10 hl 0 rfl rfl ?_
      refine z_callF S hG hS (c_itHas l G n1 (b 3) (b 5) m1 σ.rn (cur) (lr) (by omega)) (fun _ h => h.elim) hG.2.2.1 ok_Jx35411_hasNext_aae02 q6_59 q6_57 ⟨by decide, by decide, by decide +kernel⟩ hI zc_Jx35411 q6_53 (⟨hI, hP.2.2.2.1⟩) ⟨rfl, rfl, by decide, by decide⟩ ⟨Nat.le_of_ble_eq_true rfl, Nat.le_of_ble_eq_true rfl⟩ rfl (Nat.le_of_ble_eq_true rfl) hl.1 rfl dX4_periodNow_11 (fun H_2 L_2 hB hz oq hS => ?_)
      have hP := hMod_keep hP (fun i hi => oq _ (hMod_lt hP hi) (fun z => z))
      have hI := va_at.kept hI (oq _ (va_lt hI) (fun z => z))
      refine z_bif_eq S 41 dX4_periodNow_16 (by decide) (fun c_16 => ?_) (fun c_16 => ?_)
      · skip
        have hce : cur = σ.rn := by have := of_decide_eq_false c_16; omega
        refine z_iload_n S dX4_periodNow_41 hl 1 rfl rfl ?_
        exact ret _ _ _ _ _ _ _ dX4_periodNow_42 (by rw [hmd, hce]; rfl) hS (trivial) (Nat.le_of_ble_eq_true rfl) (Nat.le_of_ble_eq_true rfl)
      · skip
        have hcr : cur < σ.rn := by have : ¬ cur = σ.rn := of_decide_eq_true c_16; omega
        have hxy := per_xy hO hD hc.1 hcr
        rw [← hmd] at hxy
        have hrb := rnd_b hO hc.1 hcr
        have hok := hO.2 cur hc.1 hcr
        refine z_aload_n S dX4_periodNow_19 hl 0 rfl rfl ?_
        refine z_callF S hG hS (c_itNext l G n1 (b 3) (b 5) m1 σ.rn (cur) (lr) (elR σ b) (b (8 + Int.toNat (cur))) (if_pos (by omega)) (by omega) (by have := ltb 3 (mL_s (by decide)); omega) (by have := ltb 5 (mL_5 (by omega)); omega)) (fun y h => by have h2 : y = n1 := h; show sz ≤ y; omega) hG.2.2.2.1 ok_Jx35411_next_0502b q6_68 q6_66 ⟨by decide, by decide, by decide +kernel⟩ hI zc_Jx35411 q6_63 (⟨hI, hP.2.2.2.1, hP.2.2.2.2.2.1 (by omega)⟩) ⟨rfl, rfl, by decide, by decide⟩ ⟨Nat.le_of_ble_eq_true rfl, Nat.le_of_ble_eq_true rfl⟩ rfl (Nat.le_of_ble_eq_true rfl) hl.1 rfl dX4_periodNow_20 (fun H_3 L_3 hB hz oq hS => ?_)
        have hP := hMod_keep hP (fun i hi => oq _ (hMod_lt hP hi) (by have := ltb i hi; show ¬ (_ = n1); omega))
        have hI := hB
        refine z_castI S hG (hP.2.2.2.2.2.2.2.1 (cur) (by omega) (by omega)) q5_64 dX4_periodNow_25 ?_
        refine z_astore_n (lv' := [(3, .ref (b (8 + Int.toNat (cur)))), (2, .ref (n1)), (1, .int (zI (md))), (0, .ref (b 0))]) S dX4_periodNow_28 hl rfl (by decide) rfl (fun ls hl => ?_)
        refine z_iload_n S dX4_periodNow_29 hl 2 rfl rfl ?_
        refine z_aload_n S dX4_periodNow_30 hl 0 rfl rfl ?_
        refine z_callSs S hG (c_X4_round l G (b (8 + Int.toNat (cur))) (σ.F (cur)) (σ.L (cur)) (σ.S (cur)) (σ.K (cur)) (by omega)) ok_X4_round q5_153 (hP.2.2.2.2.2.2.2.1 (cur) (by omega) (by omega)) ⟨rfl, rfl, by decide, by decide⟩ ⟨Nat.le_of_ble_eq_true rfl, Nat.le_of_ble_eq_true rfl⟩ rfl (Nat.le_of_ble_eq_true rfl) hl.1 rfl dX4_periodNow_31 ?_
        refine z_callSs S hG (c_X4_common l G (md) (rnd σ (cur)) (by omega) (by omega)) ok_X4_common q5_156 (trivial) ⟨rfl, rfl, by decide, by decide⟩ ⟨Nat.le_of_ble_eq_true rfl, Nat.le_of_ble_eq_true rfl⟩ rfl (Nat.le_of_ble_eq_true rfl) hl.1 rfl dX4_periodNow_34 ?_
        refine z_istore_n (lv' := [(1, .int (zI (lcI (md) (rnd σ (cur))))), (3, .ref (b (8 + Int.toNat (cur)))), (2, .ref (n1)), (0, .ref (b 0))]) S dX4_periodNow_37 hl rfl (by decide) rfl (fun ls hl => ?_)
        refine z_goto S 10 dX4_periodNow_38 (by decide) ?_
        exact ih_10 (cur + 1) (cur) (lcI (md) (rnd σ (cur))) (H_3) (L_3) (hS) (hP) (by omega) (hI) (by omega) (by rw [hmd, ← prdI_s hc.1]) (by omega) ls (lv_sub hl [2, 0, 3] rfl)
  exact loop_10 _ (0) ((-1)) (1) (H_1) (L_1) (hS) (hP) (by omega) (hI) (by omega) (rfl) (Nat.lt_succ_self _) ls (lv_sub hl [0, 1, 2] rfl)
