/-! ===== the class's object: what a call changes ===== -/
def cL (σ : St) (i : Nat) : Prop := i < 8 ∨ (8 ≤ i ∧ (i : Int) < 8 + σ.rn)
def cA (σ : St) (a : Nat → Nat) (q : Nat) : Prop := ∃ i : Nat, cL σ i ∧ q = a i
theorem cL_s {σ : St} {i : Nat} (h : i < 8) : cL σ i := Or.inl h
theorem cL_r {σ : St} {j : Int} (h0 : 0 ≤ j) (h1 : j < σ.rn) : cL σ (8 + j.toNat) := Or.inr ⟨by omega, by omega⟩
section HC
variable {G : zG} {σ : St} {a : Nat → Nat} {H H1 : Heap}
theorem hPal_kept (h : hPal G σ a H) (oq : ∀ i : Nat, cL σ i → i ≠ 0 → i ≠ 5 → i ≠ 6 → i ≠ 7 → H1[a i]? = H[a i]?) : hPal G σ a H1 := by
  obtain ⟨h1, h2, h3, h4, h5, h6⟩ := h
  refine ⟨va_at.kept h1 (oq 1 (cL_s (by decide)) (by decide) (by decide) (by decide) (by decide)), va_at.kept h2 (oq 2 (cL_s (by decide)) (by decide) (by decide) (by decide) (by decide)), va_at.kept h3 (oq 3 (cL_s (by decide)) (by decide) (by decide) (by decide) (by decide)), va_at.kept h4 (oq 4 (cL_s (by decide)) (by decide) (by decide) (by decide) (by decide)), fun j j0 j1 => ?_, h6⟩
  exact va_at.kept (h5 j j0 j1) (oq _ (cL_r j0 j1) (by omega) (by omega) (by omega) (by omega))
theorem okC_o (h : okC σ) {tk lim : Int} {rf : Int32} (h1 : 0 ≤ tk ∧ tk ≤ 99999) (h2 : 0 ≤ lim ∧ lim ≤ 32) : okC (σ.wO tk lim rf) := ⟨h1, h.2.1, h2, h.2.2.2⟩
theorem hCyc_o (h : hCyc G σ a H) (hd : inj a (cL σ)) (tk lim : Int) (rf : Int32) (hn : va_at G.1 vwCl (a 0, .inr (6, [.ref (a 1), .ref (a 5), .ref (a 6), .ref (a 7), .int (zI σ.kn), .int (zI tk), .int (zI lim), .int rf])) H1) (oq : ∀ q : Nat, q ≠ a 0 → H1[q]? = H[q]?) (hO : okC (σ.wO tk lim rf)) : hCyc G (σ.wO tk lim rf) a H1 := by
  have k : ∀ i : Nat, cL σ i → i ≠ 0 → H1[a i]? = H[a i]? := fun i hi h0 => oq _ (fun z => h0 (hd i 0 hi (cL_s (by decide)) z))
  obtain ⟨_, h1, h2, h3, h4, h5⟩ := h
  exact ⟨hn, va_at.kept h1 (k 5 (cL_s (by decide)) (by decide)), va_at.kept h2 (k 6 (cL_s (by decide)) (by decide)), va_at.kept h3 (k 7 (cL_s (by decide)) (by decide)), hPal_kept h4 (fun i hi n0 _ _ _ => k i hi n0), hO⟩
end HC
/-- entries used, times their changes -/
def runB (σ : St) (n e : Int) : Int := if 0 < usz σ e then usz σ e * chg σ e σ.tk n else 0
def runC (σ : St) (n : Int) : Int := sumI (runB σ n) 16
section HC2
variable {G : zG} {σ : St} {a : Nat → Nat} {H H1 : Heap}
theorem hPal_B (h : hPal G σ a H) (hd : inj a (cL σ)) (B : Int → Int32) (hn : va_at G.1 vwCl (a 2, .inl (G.2 0, 16, .inl (zA B))) H1) (oq : ∀ q : Nat, q ≠ a 2 → H1[q]? = H[q]?) : hPal G (σ.wB B) a H1 := by
  have k : ∀ i : Nat, cL σ i → i ≠ 2 → H1[a i]? = H[a i]? := fun i hi h0 => oq _ (fun z => h0 (hd i 2 hi (cL_s (by decide)) z))
  obtain ⟨h1, h2, h3, h4, h5, h6⟩ := h
  refine ⟨va_at.kept h1 (k 1 (cL_s (by decide)) (by decide)), hn, va_at.kept h3 (k 3 (cL_s (by decide)) (by decide)), va_at.kept h4 (k 4 (cL_s (by decide)) (by decide)), fun j j0 j1 => ?_, h6⟩
  exact va_at.kept (h5 j j0 j1) (k _ (cL_r j0 j1) (by omega))
theorem hCyc_lt (h : hCyc G σ a H) {i : Nat} (hi : cL σ i) : a i < H.size := by
  obtain ⟨h0, h5, h6, h7, ⟨h1, h2, h3, h4, h8, _⟩, _⟩ := h
  rcases hi with hi | hi
  · rcases (show i = 0 ∨ i = 1 ∨ i = 2 ∨ i = 3 ∨ i = 4 ∨ i = 5 ∨ i = 6 ∨ i = 7 by omega) with rfl | rfl | rfl | rfl | rfl | rfl | rfl | rfl
    · exact va_lt h0
    · exact va_lt h1
    · exact va_lt h2
    · exact va_lt h3
    · exact va_lt h4
    · exact va_lt h5
    · exact va_lt h6
    · exact va_lt h7
  · have e := va_lt (h8 (i - 8) (by omega) (by omega))
    rw [show 8 + ((i : Int) - 8).toNat = i by omega] at e
    exact e
theorem hCyc_P {σ' : St} (h : hCyc G σ a H) (hp : hPal G σ' a H1) (oq : ∀ i : Nat, (i = 0 ∨ i = 5 ∨ i = 6 ∨ i = 7) → H1[a i]? = H[a i]?) (e0 : σ'.kn = σ.kn ∧ σ'.tk = σ.tk ∧ σ'.lim = σ.lim ∧ σ'.rf = σ.rf ∧ σ'.Dt = σ.Dt ∧ σ'.KP = σ.KP) (e1 : σ'.rn = σ.rn) (hO : okC σ') : hCyc G σ' a H1 := by
  obtain ⟨h0, h5, h6, h7, _, _⟩ := h
  have u : usz σ' = usz σ := by unfold usz; rw [e0.2.2.2.2.1]
  have v : kpz σ' = kpz σ := by unfold kpz; rw [e0.2.2.2.2.2]
  refine ⟨?_, ?_, ?_, ?_, hp, hO⟩
  · rw [e0.1, e0.2.1, e0.2.2.1, e0.2.2.2.1]; exact va_at.kept h0 (oq 0 (by decide))
  · rw [e0.2.2.2.2.1]; exact va_at.kept h5 (oq 5 (by decide))
  · rw [u]; exact va_at.kept h6 (oq 6 (by decide))
  · rw [v]; exact va_at.kept h7 (oq 7 (by decide))
theorem okC_B (h : okC σ) {e x : Int} (h1 : 0 ≤ x ∧ x ≤ 63) : okC (σ.wB (up σ.B e (zI x))) := by
  refine ⟨h.1, h.2.1, h.2.2.1, h.2.2.2.1, h.2.2.2.2.1, fun t t0 t1 => ?_⟩
  show ∃ b : Int, (0 ≤ b ∧ b < 64) ∧ up σ.B e (zI x) t = zI b
  by_cases q : t = e
  · exact ⟨x, ⟨h1.1, by omega⟩, by rw [q, up_s]⟩
  · rw [up_n q]; exact h.2.2.2.2.2 t t0 t1
end HC2
/-! a dot gets another entry -/
theorem cntF_chg {f g : Int → Bool} {d : Int} (h : ∀ t : Int, t ≠ d → f t = g t) (d0 : 0 ≤ d) : ∀ n : Nat, cntF g n = cntF f n + (if d < n then (if g d = true then 1 else 0) - (if f d = true then 1 else 0) else 0)
  | 0 => by rw [if_neg (by omega)]; rfl
  | n + 1 => by
    rw [cntF, cntF, cntF_chg h d0 n]
    by_cases q : (n : Int) = d
    · rw [if_neg (show ¬ d < (n : Int) by omega), if_pos (show d < ((n + 1 : Nat) : Int) by omega), q]
      omega
    · rw [h n q]
      by_cases r : d < (n : Int)
      · rw [if_pos r, if_pos (show d < ((n + 1 : Nat) : Int) by omega)]; omega
      · rw [if_neg r, if_neg (show ¬ d < ((n + 1 : Nat) : Int) by omega)]; omega
theorem usz_up (σ : St) {d e t : Int} (hd : 0 ≤ d ∧ d < 32) : usz (σ.wD (up σ.Dt d e)) t = usz σ t + ((if e = t then 1 else 0) - (if σ.Dt d = t then 1 else 0)) := by
  have h := cntF_chg (f := fun x => decide (σ.Dt x = t)) (g := fun x => decide (up σ.Dt d e x = t)) (d := d) (fun x hx => by show decide _ = decide _; rw [up_n hx]) hd.1 32
  rw [if_pos (show d < ((32 : Nat) : Int) by omega)] at h
  simp only [up_s, decide_eq_true_eq] at h
  exact h
theorem okC_D {σ : St} (h : okC σ) {d e : Int} (h1 : 0 ≤ e ∧ e < 16) : okC (σ.wD (up σ.Dt d e)) := by
  refine ⟨h.1, fun t t0 t1 => ?_, h.2.2⟩
  show 0 ≤ up σ.Dt d e t ∧ up σ.Dt d e t < 16
  by_cases q : t = d
  · rw [q, up_s]; exact h1
  · rw [up_n q]; exact h.2.1 t t0 t1
theorem hCyc_D {G : zG} {σ : St} {a : Nat → Nat} {H H1 : Heap} (h : hCyc G σ a H) (hd : inj a (cL σ)) {d e : Int} (d0 : 0 ≤ d ∧ d < 32) (e0 : 0 ≤ e ∧ e < 16) (ne : ¬ σ.Dt d = e) (hD : va_at G.1 vwCl (a 5, .inl (G.2 0, 32, .inl (zB (up σ.Dt d e)))) H1) (hU : va_at G.1 vwCl (a 6, .inl (G.2 0, 16, .inl (zB (up (up (usz σ) (σ.Dt d) (usz σ (σ.Dt d) - 1)) e (up (usz σ) (σ.Dt d) (usz σ (σ.Dt d) - 1) e + 1))))) H1) (oq : ∀ q : Nat, q ≠ a 5 → q ≠ a 6 → H1[q]? = H[q]?) : hCyc G (σ.wD (up σ.Dt d e)) a H1 := by
  have k : ∀ i : Nat, cL σ i → i ≠ 5 → i ≠ 6 → H1[a i]? = H[a i]? := fun i hi h5 h6 => oq _ (fun z => h5 (hd i 5 hi (cL_s (by decide)) z)) (fun z => h6 (hd i 6 hi (cL_s (by decide)) z))
  obtain ⟨h0, h5, h6, h7, h8, h9⟩ := h
  refine ⟨va_at.kept h0 (k 0 (cL_s (by decide)) (by decide) (by decide)), hD, va_cgB (fun t t0 t1 => ?_) hU, va_at.kept h7 (k 7 (cL_s (by decide)) (by decide) (by decide)), hPal_kept h8 (fun i hi _ n5 n6 _ => k i hi n5 n6), okC_D h9 e0⟩
  rw [usz_up σ d0]
  by_cases q1 : t = e
  · rw [q1, up_s, up_n (fun z => ne z.symm), if_pos rfl, if_neg ne]; omega
  · rw [up_n q1, if_neg (fun z => q1 z.symm)]
    by_cases q2 : t = σ.Dt d
    · rw [q2, up_s, if_pos rfl]; omega
    · rw [up_n q2, if_neg (fun z => q2 z.symm)]; omega
theorem up_self {f : Int → Int} {d e : Int} (h : f d = e) : up f d e = f := by
  funext t; unfold up
  by_cases q : t = d
  · rw [if_pos q, q, h]
  · rw [if_neg q]
def mgc (σ : St) (k : Int) : Int := cntI (fun d => decide (¬ σ.Dt d = smlC σ (σ.Dt d))) k
theorem pntN_T {D : Int → Int} {q e f k : Int} (h : f ≤ k) (c : decide (¬ D (8 * q + k) = e) = true) : pntN D q e f (k + 1) = pntN D q e f k + 1 := by
  unfold pntN
  rw [show k + 1 - f = (k - f) + 1 by omega, cntI_t (by omega) (by rw [show f + (k - f) = k by omega]; exact c)]
theorem pntN_F {D : Int → Int} {q e f k : Int} (h : f ≤ k) (c : decide (¬ D (8 * q + k) = e) = false) : pntN D q e f (k + 1) = pntN D q e f k := by
  unfold pntN
  rw [show k + 1 - f = (k - f) + 1 by omega, cntI_f (by omega) (by rw [show f + (k - f) = k by omega]; exact c)]
theorem fstF_lt (f : Int → Bool) : ∀ n : Nat, -1 ≤ fstF f n ∧ fstF f n < n
  | 0 => ⟨Int.le_refl _, by rw [fstF]; omega⟩
  | n + 1 => by
    have := fstF_lt f n
    rw [fstF]
    split
    · omega
    · split <;> omega
theorem smlC_b (σ : St) {e : Int} (he : 0 ≤ e ∧ e < 16) : 0 ≤ smlC σ e ∧ smlC σ e < 16 := by
  have h := fstF_lt (fun o => twnC σ o e) e.toNat
  unfold smlC
  split
  · exact he
  · rename_i q
    unfold fstI at q ⊢
    omega
theorem hCyc_SK {G : zG} {σ : St} {a : Nat → Nat} {H H1 : Heap} (h : hCyc G σ a H) (hd : inj a (cL σ)) {j sp kd : Int} (j0 : 0 ≤ j) (j1 : j < σ.rn) (h1 : 1 ≤ sp ∧ sp ≤ 9) (h2 : 0 ≤ kd ∧ kd ≤ 2) (hn : hRng G (a (8 + j.toNat)) (σ.F j) (σ.L j) sp kd H1) (oq : ∀ i : Nat, cL σ i → i ≠ 8 + j.toNat → H1[a i]? = H[a i]?) : hCyc G (σ.wR σ.rn σ.F σ.L (up σ.S j sp) (up σ.K j kd)) a H1 := by
  have k : ∀ i : Nat, i < 8 → H1[a i]? = H[a i]? := fun i hi => oq i (cL_s hi) (by omega)
  obtain ⟨h0, h5, h6, h7, ⟨g1, g2, g3, g4, g5, g6⟩, h9⟩ := h
  refine ⟨va_at.kept h0 (k 0 (by decide)), va_at.kept h5 (k 5 (by decide)), va_at.kept h6 (k 6 (by decide)), va_at.kept h7 (k 7 (by decide)), ⟨va_at.kept g1 (k 1 (by decide)), va_at.kept g2 (k 2 (by decide)), va_at.kept g3 (k 3 (by decide)), va_at.kept g4 (k 4 (by decide)), fun i i0 i1 => ?_, okR_SK g6 h1 h2⟩, h9⟩
  show hRng G _ (σ.F i) (σ.L i) (up σ.S j sp i) (up σ.K j kd i) H1
  by_cases q : i = j
  · subst q; rw [up_s, up_s]; exact hn
  · rw [up_n q, up_n q]; exact va_at.kept (g5 i i0 i1) (oq _ (cL_r i0 i1) (by omega))
