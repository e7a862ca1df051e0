/-! ===== what a call changes ===== -/
def St.wO (σ : St) (tk lim : Int) (rf : Int32) : St := (tk, lim, rf, σ.2.2.2)
def St.wB (σ : St) (B : Int → Int32) : St := (σ.1, σ.2.1, σ.2.2.1, B, σ.2.2.2.2)
def St.wD (σ : St) (D : Int → Int) : St := (σ.1, σ.2.1, σ.2.2.1, σ.2.2.2.1, D, σ.2.2.2.2.2)
def St.wR (σ : St) (rn : Int) (F L S K : Int → Int) : St := (σ.1, σ.2.1, σ.2.2.1, σ.2.2.2.1, σ.2.2.2.2.1, rn, F, L, S, K, σ.2.2.2.2.2.2.2.2.2.2)
def St.wK (σ : St) (kn : Int) (KP : Int → Int → Int32) : St := (σ.1, σ.2.1, σ.2.2.1, σ.2.2.2.1, σ.2.2.2.2.1, σ.2.2.2.2.2.1, σ.2.2.2.2.2.2.1, σ.2.2.2.2.2.2.2.1, σ.2.2.2.2.2.2.2.2.1, σ.2.2.2.2.2.2.2.2.2.1, kn, KP)
/-- the code of a refused call -/
def ec (b1 b2 : Bool) : Int := if b1 = true then 1 else if b2 = true then 2 else 0
theorem ec_1 {b1 b2 : Bool} (h : b1 = true) : ec b1 b2 = 1 := by rw [ec, if_pos h]
theorem ec_2 {b1 b2 : Bool} (h : b1 = false) (g : b2 = true) : ec b1 b2 = 2 := by rw [ec, if_neg (by rw [h]; decide), if_pos g]
theorem ec_0 {b1 b2 : Bool} (h : b1 = false) (g : b2 = false) : ec b1 b2 = 0 := by rw [ec, if_neg (by rw [h]; decide), if_neg (by rw [g]; decide)]
def tI : Bool → Int → Int
  | true, c => c
  | false, _ => 0
theorem zty_of {T : u_T} {N : Nat} (h : ∀ k, k < N → (parseFieldDescriptor (T k).2.2.1).isSome = true) : ∀ k, k < N → parseFieldDescriptor (T k).2.2.1 = some ((parseFieldDescriptor (T k).2.2.1).getD .int) := fun k hk => by
  have := h k hk
  cases q : parseFieldDescriptor (T k).2.2.1 with
  | none => rw [q] at this; cases this
  | some x => rfl
def mL (σ : St) (i : Nat) : Prop := i < 5 ∨ (i = 5 ∧ 0 < σ.rn) ∨ (i = 6 ∧ 0 < σ.kn) ∨ (8 ≤ i ∧ (i : Int) < 8 + σ.rn) ∨ (16 ≤ i ∧ (i : Int) < 16 + σ.kn)
def mA (σ : St) (b : Nat → Nat) (q : Nat) : Prop := ∃ i : Nat, mL σ i ∧ q = b i
theorem mL_r {σ : St} {j : Int} (h0 : 0 ≤ j) (h1 : j < σ.rn) : mL σ (8 + j.toNat) := Or.inr (Or.inr (Or.inr (Or.inl ⟨by omega, by omega⟩)))
theorem mL_k {σ : St} {j : Int} (h0 : 0 ≤ j) (h1 : j < σ.kn) : mL σ (16 + j.toNat) := Or.inr (Or.inr (Or.inr (Or.inr ⟨by omega, by omega⟩)))
theorem mL_s {σ : St} {i : Nat} (h : i < 5) : mL σ i := Or.inl h
theorem mL_5 {σ : St} (h : 0 < σ.rn) : mL σ 5 := Or.inr (Or.inl ⟨rfl, h⟩)
theorem mL_6 {σ : St} (h : 0 < σ.kn) : mL σ 6 := Or.inr (Or.inr (Or.inl ⟨rfl, h⟩))
section HM
variable {G : zG} {σ : St} {b : Nat → Nat} {th m1 m2 : Int32} {H H1 : Heap}
theorem hMod_o (h : hMod G σ b th m1 m2 H) (hd : inj b (mL σ)) (hr : σ.rn ≤ 4) (th' : Int32) (tk lim : Int) (rf : Int32) (hn : va_at G.1 vwCl (b 0, .inr (8, [.int th', .int (zI tk), .int rf, .int (zI lim), .ref (b 1), .ref (b 2), .ref (b 3), .ref (b 4)])) H1) (oq : ∀ q : Nat, q ≠ b 0 → H1[q]? = H[q]?) : hMod G (σ.wO tk lim rf) b th' m1 m2 H1 := by
  have k : ∀ i : Nat, mL σ i → i ≠ 0 → H1[b i]? = H[b i]? := fun i hi h0 => oq _ (fun z => h0 (hd i 0 hi (mL_s (by decide)) z))
  obtain ⟨_, h1, h2, h3, h4, h5, h6, h7, h8, h9⟩ := h
  refine ⟨hn, h1.kept (k 1 (mL_s (by decide)) (by decide)), h2.kept (k 2 (mL_s (by decide)) (by decide)), ?_, ?_, fun z => (h5 z).kept (k 5 (mL_5 z) (by decide)), fun z => (h6 z).kept (k 6 (mL_6 z) (by decide)), fun j j0 j1 => ?_, fun j j0 j1 => (h8 j j0 j1).kept (k _ (mL_k j0 j1) (by omega)), h9⟩
  · exact va_at.kept h3 (k 3 (mL_s (by decide)) (by decide))
  · exact va_at.kept h4 (k 4 (mL_s (by decide)) (by decide))
  · exact va_at.kept (h7 j j0 j1) (k _ (mL_r j0 j1) (by omega))
theorem hMod_B (h : hMod G σ b th m1 m2 H) (hd : inj b (mL σ)) (B : Int → Int32) (hn : va_at G.1 vwCl (b 1, .inl (G.2 0, 16, .inl (zA B))) H1) (oq : ∀ q : Nat, q ≠ b 1 → H1[q]? = H[q]?) : hMod G (σ.wB B) b th m1 m2 H1 := by
  have k : ∀ i : Nat, mL σ i → i ≠ 1 → H1[b i]? = H[b i]? := fun i hi h0 => oq _ (fun z => h0 (hd i 1 hi (mL_s (by decide)) z))
  obtain ⟨h0, _, h2, h3, h4, h5, h6, h7, h8, h9⟩ := h
  refine ⟨va_at.kept h0 (k 0 (mL_s (by decide)) (by decide)), hn, h2.kept (k 2 (mL_s (by decide)) (by decide)), ?_, ?_, fun z => (h5 z).kept (k 5 (mL_5 z) (by decide)), fun z => (h6 z).kept (k 6 (mL_6 z) (by decide)), fun j j0 j1 => ?_, fun j j0 j1 => (h8 j j0 j1).kept (k _ (mL_k j0 j1) (by omega)), h9⟩
  · exact va_at.kept h3 (k 3 (mL_s (by decide)) (by decide))
  · exact va_at.kept h4 (k 4 (mL_s (by decide)) (by decide))
  · exact va_at.kept (h7 j j0 j1) (k _ (mL_r j0 j1) (by omega))
theorem hMod_D (h : hMod G σ b th m1 m2 H) (hd : inj b (mL σ)) (D : Int → Int) (hn : va_at G.1 vwCl (b 2, .inl (G.2 0, 32, .inl (zB D))) H1) (oq : ∀ q : Nat, q ≠ b 2 → H1[q]? = H[q]?) : hMod G (σ.wD D) b th m1 m2 H1 := by
  have k : ∀ i : Nat, mL σ i → i ≠ 2 → H1[b i]? = H[b i]? := fun i hi h0 => oq _ (fun z => h0 (hd i 2 hi (mL_s (by decide)) z))
  obtain ⟨h0, h1, _, h3, h4, h5, h6, h7, h8, h9⟩ := h
  refine ⟨va_at.kept h0 (k 0 (mL_s (by decide)) (by decide)), h1.kept (k 1 (mL_s (by decide)) (by decide)), hn, ?_, ?_, fun z => (h5 z).kept (k 5 (mL_5 z) (by decide)), fun z => (h6 z).kept (k 6 (mL_6 z) (by decide)), fun j j0 j1 => ?_, fun j j0 j1 => (h8 j j0 j1).kept (k _ (mL_k j0 j1) (by omega)), h9⟩
  · exact va_at.kept h3 (k 3 (mL_s (by decide)) (by decide))
  · exact va_at.kept h4 (k 4 (mL_s (by decide)) (by decide))
  · exact va_at.kept (h7 j j0 j1) (k _ (mL_r j0 j1) (by omega))
end HM
theorem smM_wD (σ : St) (D : Int → Int) : smM (σ.wD D) = smM σ := rfl
theorem shw_wO (σ : St) (t l : Int) (r : Int32) : shw (σ.wO t l r) = shw σ := rfl
theorem flM_wO (σ : St) (l : Int) (r : Int32) : flM (σ.wO σ.tk l r) = flM σ := rfl
/-- the dots from p's f up to k are of e -/
def pnt (D : Int → Int) (p e f k : Int) (d : Int) : Int := if 8 * p + f ≤ d ∧ d < 8 * p + k then e else D d
theorem pnt_0 (D : Int → Int) (p e f : Int) : pnt D p e f f = D := by
  funext d; unfold pnt; rw [if_neg (by omega)]
theorem pnt_at (D : Int → Int) (p e f k : Int) : pnt D p e f k (8 * p + k) = D (8 * p + k) := by unfold pnt; rw [if_neg (by omega)]
theorem pnt_s (D : Int → Int) {p e f k : Int} (h : f ≤ k) : up (pnt D p e f k) (8 * p + k) e = pnt D p e f (k + 1) := by
  funext d
  unfold pnt up
  by_cases q : d = 8 * p + k
  · rw [if_pos q, if_pos (by omega)]
  · rw [if_neg q]
    by_cases g : 8 * p + f ≤ d ∧ d < 8 * p + k
    · show (if _ then _ else _) = _
      rw [if_pos g, if_pos (by omega)]
    · show (if _ then _ else _) = _
      rw [if_neg g, if_neg (by omega)]
def pntN (D : Int → Int) (p e f k : Int) : Int := cntI (fun j => decide (¬ D (8 * p + (f + j)) = e)) (k - f)
/-- dots below k are of what m says -/
def mrg (m : Int → Int) (D : Int → Int) (k : Int) (d : Int) : Int := if 0 ≤ d ∧ d < k then m (D d) else D d
theorem mrg_0 (m D : Int → Int) : mrg m D 0 = D := by funext d; unfold mrg; rw [if_neg (by omega)]
theorem mrg_at (m D : Int → Int) (k : Int) : mrg m D k k = D k := by unfold mrg; rw [if_neg (by omega)]
theorem mrg_s (m D : Int → Int) {k : Int} (h : 0 ≤ k) : up (mrg m D k) k (m (D k)) = mrg m D (k + 1) := by
  funext d
  unfold mrg up
  by_cases q : d = k
  · rw [if_pos q, if_pos (by omega), q]
  · rw [if_neg q]
    by_cases g : 0 ≤ d ∧ d < k
    · show (if _ then _ else _) = _
      rw [if_pos g, if_pos (by omega)]
    · show (if _ then _ else _) = _
      rw [if_neg g, if_neg (by omega)]
def sumF (f : Int → Int) : Nat → Int
  | 0 => 0
  | n + 1 => sumF f n + f n
def sumI (f : Int → Int) (k : Int) : Int := sumF f k.toNat
theorem sumI_s {f : Int → Int} {k : Int} (h : 0 ≤ k) : sumI f (k + 1) = sumI f k + f k := by
  unfold sumI
  rw [show (k + 1).toNat = k.toNat + 1 by omega, sumF, Int.toNat_of_nonneg h]
theorem sumF_b {f : Int → Int} {B : Int} (hB : 0 ≤ B) (h : ∀ t : Int, 0 ≤ t → 0 ≤ f t ∧ f t ≤ B) : ∀ n : Nat, 0 ≤ sumF f n ∧ sumF f n ≤ n * B
  | 0 => ⟨Int.le_refl _, by rw [sumF]; omega⟩
  | n + 1 => by
    have a := sumF_b hB h n
    have g := h n (by omega)
    rw [sumF, Int.natCast_add, Int.add_mul]
    omega
theorem sumI_b {f : Int → Int} {B k : Int} (hk : 0 ≤ k) (hB : 0 ≤ B) (h : ∀ t : Int, 0 ≤ t → 0 ≤ f t ∧ f t ≤ B) : 0 ≤ sumI f k ∧ sumI f k ≤ k * B := by
  have := sumF_b hB h k.toNat
  rw [Int.toNat_of_nonneg hk] at this
  exact this
/-- the dots whose colour changes from tick t to the next -/
def dchB (σ : St) (t d : Int) : Bool := decide (¬ shw σ (σ.Dt d) t = shw σ (σ.Dt d) (t + 1))
def dch (σ : St) (t : Int) : Int := cntI (dchB σ t) 32
def runM (σ : St) (n : Int) : Int := sumI (fun j => dch σ (σ.tk + j)) n
theorem dch_b (σ : St) (t : Int) : 0 ≤ dch σ t ∧ dch σ t ≤ 32 := cntI_b _ (by omega)
theorem pntN_t {D : Int → Int} {q e f k : Int} (h : f ≤ k) (c : ¬ pnt D q e f k (8 * q + k) = e) : pntN D q e f (k + 1) = pntN D q e f k + 1 := by
  rw [pnt_at] at c
  unfold pntN
  rw [show k + 1 - f = (k - f) + 1 by omega, cntI_t (by omega) (by rw [show f + (k - f) = k by omega]; simpa using c)]
theorem pntN_f {D : Int → Int} {q e f k : Int} (h : f ≤ k) (c : pnt D q e f k (8 * q + k) = e) : pntN D q e f (k + 1) = pntN D q e f k := by
  rw [pnt_at] at c
  unfold pntN
  rw [show k + 1 - f = (k - f) + 1 by omega, cntI_f (by omega) (by rw [show f + (k - f) = k by omega]; simpa using c)]
def mrgN (σ : St) (k : Int) : Int := cntI (fun d => decide (¬ smM σ (σ.Dt d) = σ.Dt d)) k
theorem mrgN_t {σ : St} {k : Int} (h : 0 ≤ k) (c : ¬ smM σ (σ.Dt k) = σ.Dt k) : mrgN σ (k + 1) = mrgN σ k + 1 := cntI_t h (by simpa using c)
theorem mrgN_f {σ : St} {k : Int} (h : 0 ≤ k) (c : smM σ (σ.Dt k) = σ.Dt k) : mrgN σ (k + 1) = mrgN σ k := cntI_f h (by simpa using c)
theorem r4_2 (f l s k x : Int) : up (r4 f l s k) 2 x = r4 f l x k := by
  funext i; unfold up r4
  by_cases q : i = 2
  · rw [if_pos q]; simp [q]
  · rw [if_neg q]; simp [q]
theorem r4_3 (f l s k x : Int) (j : Int) (h0 : 0 ≤ j) (h1 : j < 4) : up (r4 f l s k) 3 x j = r4 f l s x j := by
  unfold up r4
  rcases (show j = 0 ∨ j = 1 ∨ j = 2 ∨ j = 3 by omega) with rfl | rfl | rfl | rfl <;> rfl
theorem hMod_SK {G : zG} {σ : St} {b : Nat → Nat} {th m1 m2 : Int32} {H H1 : Heap} (h : hMod G σ b th m1 m2 H) (hd : inj b (mL σ)) {j : Int} (j0 : 0 ≤ j) (j1 : j < σ.rn) (S' K' : Int → Int) (hS : ∀ i : Int, i ≠ j → S' i = σ.S i) (hK : ∀ i : Int, i ≠ j → K' i = σ.K i) (hn : hR4 G (b (8 + j.toNat)) (σ.F j) (σ.L j) (S' j) (K' j) H1) (oq : ∀ q : Nat, q ≠ b (8 + j.toNat) → H1[q]? = H[q]?) (hO : okR (σ.wR σ.rn σ.F σ.L S' K')) : hMod G (σ.wR σ.rn σ.F σ.L S' K') b th m1 m2 H1 := by
  have k : ∀ i : Nat, mL σ i → i ≠ 8 + j.toNat → H1[b i]? = H[b i]? := fun i hi h0 => oq _ (fun z => h0 (hd i _ hi (mL_r j0 j1) z))
  obtain ⟨h0, h1, h2, h3, h4, h5, h6, h7, h8, _⟩ := h
  refine ⟨va_at.kept h0 (k 0 (mL_s (by decide)) (by omega)), h1.kept (k 1 (mL_s (by decide)) (by omega)), h2.kept (k 2 (mL_s (by decide)) (by omega)), ?_, ?_, fun z => (h5 z).kept (k 5 (mL_5 z) (by omega)), fun z => (h6 z).kept (k 6 (mL_6 z) (by omega)), fun i i0 i1 => ?_, fun i i0 i1 => (h8 i i0 i1).kept (k _ (mL_k i0 i1) (by have : σ.rn ≤ 4 := hO.1.2; omega)), hO⟩
  · exact va_at.kept h3 (k 3 (mL_s (by decide)) (by omega))
  · exact va_at.kept h4 (k 4 (mL_s (by decide)) (by omega))
  · by_cases q : i = j
    · subst q; exact hn
    · show hR4 G _ (σ.F i) (σ.L i) (S' i) (K' i) H1
      rw [hS i q, hK i q]
      exact va_at.kept (h7 i i0 i1) (k _ (mL_r i0 i1) (by omega))
theorem okR_SK {σ : St} (h : okR σ) {j sp kd : Int} (h1 : 1 ≤ sp ∧ sp ≤ 9) (h2 : 0 ≤ kd ∧ kd ≤ 2) : okR (σ.wR σ.rn σ.F σ.L (up σ.S j sp) (up σ.K j kd)) := by
  refine ⟨h.1, fun i i0 i1 => ?_⟩
  have h3 := h.2 i i0 i1
  refine ⟨h3.1, ?_⟩
  show (1 ≤ up σ.S j sp i ∧ up σ.S j sp i ≤ 9) ∧ (0 ≤ up σ.K j kd i ∧ up σ.K j kd i ≤ 2)
  unfold up
  split <;> omega
theorem up_id {σ : St} {j : Int} : up σ.K j (σ.K j) = σ.K := by
  funext i; unfold up
  by_cases q : i = j
  · rw [if_pos q, q]
  · rw [if_neg q]
/-! a list that loses one -/
def hEl (G : zG) (els : Int → Option Nat) (n : Int) (q ed : Nat) (H : Heap) : Prop := ∀ j : Int, 0 ≤ j → j < n → ∀ y : Nat, els j = some y → (y ≠ q ∧ y ≠ ed) ∧ ∃ (k : Nat) (f : Nat → Int32), va_at G.1 vwCl (y, .inl (G.2 0, k, .inl f)) H
theorem hEl.kept {G : zG} {els : Int → Option Nat} {n : Int} {q ed : Nat} {H H1 : Heap} (h : hEl G els n q ed H) (oq : ∀ y : Nat, y < H.size → ¬ (y = q ∨ y = ed) → H1[y]? = H[y]?) : hEl G els n q ed H1 := fun j j0 j1 y hy => by
  obtain ⟨h1, k, f, h2⟩ := h j j0 j1 y hy
  refine ⟨h1, k, f, va_at.kept h2 (oq y ?_ (fun z => z.elim h1.1 h1.2))⟩
  have h3 : H[y]? = some (vp_cell (G.2 0) (k, .inl f)) := h2
  exact (Array.getElem?_eq_some_iff.mp h3).1
def delO (els : Int → Option Nat) (i n : Int) (j : Int) : Option Nat := if j = n - 1 then none else if i ≤ j ∧ j < n - 1 then els (j + 1) else els j
theorem delO_1 (els : Int → Option Nat) {i n : Int} (h : i < n - 1) : up (cpy els (i + 1) i (n - 1 - i)) (n - 1) none = delO els i n := by
  funext j
  unfold up cpy delO
  by_cases q : j = n - 1
  · rw [if_pos q, if_pos q]
  · rw [if_neg q, if_neg q]
    by_cases g : i ≤ j ∧ j < n - 1
    · rw [if_pos (by omega), if_pos g]; congr 1; omega
    · rw [if_neg (by omega), if_neg g]
theorem delO_2 (els : Int → Option Nat) {i n : Int} (h : ¬ i < n - 1) : up els (n - 1) none = delO els i n := by
  funext j
  unfold up delO
  by_cases q : j = n - 1
  · rw [if_pos q, if_pos q]
  · rw [if_neg q, if_neg q, if_neg (by omega)]
def del {α : Type} (f : Int → α) (j : Int) : Int → α := fun t => if j ≤ t then f (t + 1) else f t
def delB (b : Nat → Nat) (j : Int) : Nat → Nat := fun k => if 8 + j.toNat ≤ k ∧ k < 16 then b (k + 1) else b k
def delS (σ : St) (j : Int) : St := σ.wR (σ.rn - 1) (del σ.F j) (del σ.L j) (del σ.S j) (del σ.K j)
theorem delB_s (b : Nat → Nat) (j : Int) {k : Nat} (h : k < 8 ∨ 16 ≤ k) : delB b j k = b k := by unfold delB; rw [if_neg (by omega)]
theorem delB_r (b : Nat → Nat) {j t : Int} (j0 : 0 ≤ j) (t0 : 0 ≤ t) (t4 : t < 4) : delB b j (8 + t.toNat) = if j ≤ t then b (8 + (t + 1).toNat) else b (8 + t.toNat) := by
  unfold delB
  by_cases q : j ≤ t
  · rw [if_pos q, if_pos (by omega)]; congr 1; omega
  · rw [if_neg q, if_neg (by omega)]
theorem elR_del {σ : St} {b : Nat → Nat} {j : Int} (j0 : 0 ≤ j) (j1 : j < σ.rn) (h4 : σ.rn ≤ 4) : elR (delS σ j) (delB b j) = delO (elR σ b) j σ.rn := by
  funext t
  show (if 0 ≤ t ∧ t < σ.rn - 1 then some (delB b j (8 + t.toNat)) else none) = delO (elR σ b) j σ.rn t
  unfold delO
  by_cases q : t = σ.rn - 1
  · rw [if_pos q, if_neg (show ¬ (0 ≤ t ∧ t < σ.rn - 1) by omega)]
  · rw [if_neg q]
    by_cases g : 0 ≤ t ∧ t < σ.rn - 1
    · rw [if_pos g, delB_r b j0 g.1 (by omega)]
      by_cases f : j ≤ t
      · rw [if_pos f, if_pos (show j ≤ t ∧ t < σ.rn - 1 by omega)]
        show _ = (if 0 ≤ t + 1 ∧ t + 1 < σ.rn then some (b (8 + (t + 1).toNat)) else none)
        rw [if_pos (show 0 ≤ t + 1 ∧ t + 1 < σ.rn by omega)]
      · rw [if_neg f, if_neg (show ¬ (j ≤ t ∧ t < σ.rn - 1) by omega)]
        show _ = (if 0 ≤ t ∧ t < σ.rn then some (b (8 + t.toNat)) else none)
        rw [if_pos (show 0 ≤ t ∧ t < σ.rn by omega)]
    · rw [if_neg g, if_neg (show ¬ (j ≤ t ∧ t < σ.rn - 1) by omega)]
      show _ = (if 0 ≤ t ∧ t < σ.rn then some (b (8 + t.toNat)) else none)
      rw [if_neg (show ¬ (0 ≤ t ∧ t < σ.rn) by omega)]
theorem inj_del {σ : St} {b : Nat → Nat} {j : Int} (hd : inj b (mL σ)) (j0 : 0 ≤ j) (j1 : j < σ.rn) (h4 : σ.rn ≤ 4) : inj (delB b j) (mL (delS σ j)) := by
  have key : ∀ k : Nat, mL (delS σ j) k → ∃ k' : Nat, mL σ k' ∧ delB b j k = b k' ∧ k' = if 8 + j.toNat ≤ k ∧ k < 16 then k + 1 else k := by
    intro k hk
    unfold delB
    have hk2 : k < 5 ∨ (k = 5 ∧ 0 < σ.rn - 1) ∨ (k = 6 ∧ 0 < σ.kn) ∨ (8 ≤ k ∧ (k : Int) < 8 + (σ.rn - 1)) ∨ (16 ≤ k ∧ (k : Int) < 16 + σ.kn) := hk
    by_cases q : 8 + j.toNat ≤ k ∧ k < 16
    · refine ⟨k + 1, ?_, by rw [if_pos q], by rw [if_pos q]⟩
      unfold mL; omega
    · refine ⟨k, ?_, by rw [if_neg q], by rw [if_neg q]⟩
      unfold mL; omega
  intro x y hx hy e
  obtain ⟨x', a1, a2, a3⟩ := key x hx
  obtain ⟨y', b1, b2, b3⟩ := key y hy
  have h := hd x' y' a1 b1 (by rw [← a2, ← b2]; exact e)
  rw [a3, b3] at h
  have hx2 : x < 5 ∨ (x = 5 ∧ 0 < σ.rn - 1) ∨ (x = 6 ∧ 0 < σ.kn) ∨ (8 ≤ x ∧ (x : Int) < 8 + (σ.rn - 1)) ∨ (16 ≤ x ∧ (x : Int) < 16 + σ.kn) := hx
  have hy2 : y < 5 ∨ (y = 5 ∧ 0 < σ.rn - 1) ∨ (y = 6 ∧ 0 < σ.kn) ∨ (8 ≤ y ∧ (y : Int) < 8 + (σ.rn - 1)) ∨ (16 ≤ y ∧ (y : Int) < 16 + σ.kn) := hy
  split at h <;> split at h <;> omega
theorem okR_del {σ : St} {j : Int} (h : okR σ) (j0 : 0 ≤ j) (j1 : j < σ.rn) : okR (delS σ j) := by
  refine ⟨⟨?_, ?_⟩, fun i i0 i1 => ?_⟩
  · show 0 ≤ σ.rn - 1; omega
  · show σ.rn - 1 ≤ 4; have := h.1; omega
  · have i1' : i < σ.rn - 1 := i1
    show (0 ≤ del σ.F j i ∧ 2 ≤ del σ.L j i ∧ del σ.F j i + del σ.L j i ≤ 16) ∧ (1 ≤ del σ.S j i ∧ del σ.S j i ≤ 9) ∧ (0 ≤ del σ.K j i ∧ del σ.K j i ≤ 2)
    unfold del
    by_cases q : j ≤ i
    · simp only [if_pos q]; exact h.2 (i + 1) (by omega) (by omega)
    · simp only [if_neg q]; exact h.2 i i0 (by omega)
theorem hMod_del {G : zG} {σ : St} {b : Nat → Nat} {th m1 m2 x1 : Int32} {H H1 : Heap} (h : hMod G σ b th m1 m2 H) (hd : inj b (mL σ)) {j : Int} (j0 : 0 ≤ j) (j1 : j < σ.rn) (hn : hAL G (b 3) (b 5) x1 (σ.rn - 1) H1) (he : hEd G (b 5) (delO (elR σ b) j σ.rn) H1) (oq : ∀ i : Nat, mL σ i → i ≠ 3 → i ≠ 5 → H1[b i]? = H[b i]?) : hMod G (delS σ j) (delB b j) th x1 m2 H1 := by
  have h4 : σ.rn ≤ 4 := h.2.2.2.2.2.2.2.2.2.1.2
  obtain ⟨h0, h1, h2, h3, h4', h5, h6, h7, h8, h9⟩ := h
  have s : ∀ k : Nat, k < 8 ∨ 16 ≤ k → delB b j k = b k := fun k hk => delB_s b j hk
  unfold hMod
  rw [s 0 (by decide), s 1 (by decide), s 2 (by decide), s 3 (by decide), s 4 (by decide), s 5 (by decide), s 6 (by decide), elR_del j0 j1 h4]
  refine ⟨va_at.kept h0 (oq 0 (mL_s (by decide)) (by decide) (by decide)), va_at.kept h1 (oq 1 (mL_s (by decide)) (by decide) (by decide)), va_at.kept h2 (oq 2 (mL_s (by decide)) (by decide) (by decide)), hn, ?_, fun _ => he, fun z => ?_, fun t t0 t1 => ?_, fun t t0 t1 => ?_, okR_del h9 j0 j1⟩
  · exact va_at.kept h4' (oq 4 (mL_s (by decide)) (by decide) (by decide))
  · have e : elK (delS σ j) (delB b j) = elK σ b := by
      funext t
      show (if 0 ≤ t ∧ t < σ.kn then some (delB b j (16 + t.toNat)) else none) = _
      rw [s _ (Or.inr (by omega))]; rfl
    rw [e]
    exact va_at.kept (h6 z) (oq 6 (mL_6 z) (by decide) (by decide))
  · have t1' : t < σ.rn - 1 := t1
    rw [delB_r b j0 t0 (by omega)]
    show hR4 G _ (del σ.F j t) (del σ.L j t) (del σ.S j t) (del σ.K j t) H1
    unfold del
    by_cases q : j ≤ t
    · simp only [if_pos q]
      exact va_at.kept (h7 (t + 1) (by omega) (by omega)) (oq _ (mL_r (by omega) (by omega)) (by omega) (by omega))
    · simp only [if_neg q]
      exact va_at.kept (h7 t t0 (by omega)) (oq _ (mL_r t0 (by omega)) (by omega) (by omega))
  · rw [s _ (Or.inr (by omega))]
    exact va_at.kept (h8 t t0 t1) (oq _ (mL_k t0 t1) (by omega) (by omega))
theorem va_lt {G : zG} {q : Nat × va_E} {H : Heap} (h : va_at G.1 vwCl q H) : q.1 < H.size := by
  obtain ⟨a, x⟩ := q
  cases x with
  | inl x =>
    have h1 : H[a]? = some _ := h
    exact (Array.getElem?_eq_some_iff.mp h1).1
  | inr x =>
    obtain ⟨r, h1, cell, q1, q2, q3, q4⟩ := h
    exact (Array.getElem?_eq_some_iff.mp q1).1
theorem hMod_lt {G : zG} {σ : St} {b : Nat → Nat} {th m1 m2 : Int32} {H : Heap} (h : hMod G σ b th m1 m2 H) {i : Nat} (hi : mL σ i) : b i < H.size := by
  obtain ⟨h0, h1, h2, h3, h4, h5, h6, h7, h8, h9⟩ := h
  rcases hi with hi | ⟨rfl, hi⟩ | ⟨rfl, hi⟩ | hi | hi
  · rcases (show i = 0 ∨ i = 1 ∨ i = 2 ∨ i = 3 ∨ i = 4 by omega) with rfl | rfl | rfl | rfl | rfl
    · exact va_lt h0
    · exact va_lt h1
    · exact va_lt h2
    · exact va_lt h3
    · exact va_lt h4
  · exact va_lt (h5 hi)
  · exact va_lt (h6 hi)
  · have e := va_lt (h7 (i - 8) (by omega) (by omega))
    rw [show 8 + ((i : Int) - 8).toNat = i by omega] at e
    exact e
  · have e := va_lt (h8 (i - 16) (by omega) (by omega))
    rw [show 16 + ((i : Int) - 16).toNat = i by omega] at e
    exact e
theorem hMod_El {G : zG} {σ : St} {b : Nat → Nat} {th m1 m2 : Int32} {H : Heap} (h : hMod G σ b th m1 m2 H) (hd : inj b (mL σ)) (hr : 0 < σ.rn) : hEl G (elR σ b) σ.rn (b 3) (b 5) H := fun j j0 j1 y hy => by
  unfold elR at hy
  rw [if_pos ⟨j0, j1⟩] at hy
  cases hy
  refine ⟨⟨fun z => ?_, fun z => ?_⟩, 4, _, h.2.2.2.2.2.2.2.1 j j0 j1⟩
  · have := hd _ 3 (mL_r j0 j1) (mL_s (by decide)) z; omega
  · have := hd _ 5 (mL_r j0 j1) (mL_5 hr) z; omega
