/-! ===== the class's object: what a call changes ===== -/
def cL (σ : St) (i : Nat) : Prop := i < 8 ∨ (8 ≤ i ∧ (i : Int) < 8 + σ.rn)
def cA (σ : St) (a : Nat → Nat) (q : Nat) : Prop := ∃ i : Nat, cL σ i ∧ q = a i
theorem cL_s {σ : St} {i : Nat} (h : i < 8) : cL σ i := Or.inl h
theorem cL_r {σ : St} {j : Int} (h0 : 0 ≤ j) (h1 : j < σ.rn) : cL σ (8 + j.toNat) := Or.inr ⟨by omega, by omega⟩
section HC
variable {G : zG} {σ : St} {a : Nat → Nat} {H H1 : Heap}
theorem hPal_kept (h : hPal G σ a H) (oq : ∀ i : Nat, cL σ i → i ≠ 0 → i ≠ 5 → i ≠ 6 → i ≠ 7 → H1[a i]? = H[a i]?) : hPal G σ a H1 := by
  obtain ⟨h1, h2, h3, h4, h5, h6⟩ := h
  refine ⟨va_at.kept h1 (oq 1 (cL_s (by decide)) (by decide) (by decide) (by decide) (by decide)), va_at.kept h2 (oq 2 (cL_s (by decide)) (by decide) (by decide) (by decide) (by decide)), va_at.kept h3 (oq 3 (cL_s (by decide)) (by decide) (by decide) (by decide) (by decide)), va_at.kept h4 (oq 4 (cL_s (by decide)) (by decide) (by decide) (by decide) (by decide)), fun j j0 j1 => ?_, h6⟩
  exact va_at.kept (h5 j j0 j1) (oq _ (cL_r j0 j1) (by omega) (by omega) (by omega) (by omega))
theorem okC_o (h : okC σ) {tk lim : Int} {rf : Int32} (h1 : 0 ≤ tk ∧ tk ≤ 99999) (h2 : 0 ≤ lim ∧ lim ≤ 32) : okC (σ.wO tk lim rf) := ⟨h1, h.2.1, h2, h.2.2.2⟩
theorem hCyc_o (h : hCyc G σ a H) (hd : inj a (cL σ)) (tk lim : Int) (rf : Int32) (hn : va_at G.1 vwCl (a 0, .inr (6, [.ref (a 1), .ref (a 5), .ref (a 6), .ref (a 7), .int (zI σ.kn), .int (zI tk), .int (zI lim), .int rf])) H1) (oq : ∀ q : Nat, q ≠ a 0 → H1[q]? = H[q]?) (hO : okC (σ.wO tk lim rf)) : hCyc G (σ.wO tk lim rf) a H1 := by
  have k : ∀ i : Nat, cL σ i → i ≠ 0 → H1[a i]? = H[a i]? := fun i hi h0 => oq _ (fun z => h0 (hd i 0 hi (cL_s (by decide)) z))
  obtain ⟨_, h1, h2, h3, h4, h5⟩ := h
  exact ⟨hn, va_at.kept h1 (k 5 (cL_s (by decide)) (by decide)), va_at.kept h2 (k 6 (cL_s (by decide)) (by decide)), va_at.kept h3 (k 7 (cL_s (by decide)) (by decide)), hPal_kept h4 (fun i hi n0 _ _ _ => k i hi n0), hO⟩
end HC
/-- entries used, times their changes -/
def runB (σ : St) (n e : Int) : Int := if 0 < usz σ e then usz σ e * chg σ e σ.tk n else 0
def runC (σ : St) (n : Int) : Int := sumI (runB σ n) 16
