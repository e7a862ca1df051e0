/-! ===== run and merge: the class's way and the reference's ===== -/
theorem sumF_sz (f : Int → Int) : ∀ n : Nat, sumF f n = szF f n
  | 0 => rfl
  | n + 1 => by rw [sumF, szF, sumF_sz f n]
theorem cntF_sz2 (p : Int → Bool) : ∀ n : Nat, cntF p n = szF (fun t => if p t = true then 1 else 0) n
  | 0 => rfl
  | n + 1 => by rw [cntF, szF, cntF_sz2 p n]
theorem szF_swap (g : Int → Int → Int) (N : Nat) : ∀ M : Nat, szF (fun d => szF (g d) N) M = szF (fun t => szF (fun d => g d t) M) N
  | 0 => by
    show (0 : Int) = szF (fun _ => 0) N
    rw [szF_zero]
  | M + 1 => by
    rw [szF, szF_swap g N M, ← szF_add]
    rfl
theorem cntF_cg {f g : Int → Bool} : ∀ {n : Nat}, (∀ t : Int, 0 ≤ t → t < n → f t = g t) → cntF f n = cntF g n
  | 0, _ => rfl
  | n + 1, h => by rw [cntF, cntF, cntF_cg (fun t h0 h1 => h t h0 (by omega)), h n (by omega) (by omega)]
theorem run_CM {σ : St} (h : ∀ d : Int, 0 ≤ d → d < 32 → 0 ≤ σ.Dt d ∧ σ.Dt d < 16) (n : Int) : runC σ n = runM σ n := by
  unfold runC runM sumI
  rw [sumF_sz, sumF_sz]
  rw [szF_c (h := fun e => cntF (fun d => decide (σ.Dt d = e)) 32 * chg σ e σ.tk n) (fun e e0 e1 => ?_)]
  · rw [show ((16 : Int).toNat) = 16 from rfl, exchZ (D := σ.Dt) (f := fun e => chg σ e σ.tk n) (m := 16) 32 (fun d d0 d1 => h d d0 (by omega))]
    show szF (fun d => cntF (chgB σ (σ.Dt d) σ.tk) n.toNat) 32 = _
    have e1 : (fun d => cntF (chgB σ (σ.Dt d) σ.tk) n.toNat) = fun d => szF (fun t => if chgB σ (σ.Dt d) σ.tk t = true then 1 else 0) n.toNat := by
      funext d; exact cntF_sz2 _ _
    rw [e1, szF_swap]
    refine szF_c (fun t t0 t1 => ?_)
    show _ = cntF (dchB σ (σ.tk + t)) 32
    rw [cntF_sz2]
    refine szF_c (fun d d0 d1 => ?_)
    have e2 : chgB σ (σ.Dt d) σ.tk t = dchB σ (σ.tk + t) d := by
      unfold chgB dchB
      exact decide_eq_decide.mpr ⟨fun q z => q z.symm, fun q z => q z.symm⟩
    rw [e2]
  · unfold runB
    have hb := usz_b σ e
    show _ = usz σ e * chg σ e σ.tk n
    by_cases q : 0 < usz σ e
    · rw [if_pos q]
    · rw [if_neg q, show usz σ e = 0 by omega, Int.zero_mul]
theorem mgc_CM {σ : St} (hO : okR σ) (h : ∀ d : Int, 0 ≤ d → d < 32 → 0 ≤ σ.Dt d ∧ σ.Dt d < 16) : mgc σ 32 = mrgN σ 32 := by
  refine cntF_cg (fun d d0 d1 => ?_)
  have h32 : ((32 : Int).toNat : Int) = 32 := rfl
  have e := sml_CM hO (h d d0 (by omega))
  show decide (¬ σ.Dt d = smlC σ (σ.Dt d)) = decide (¬ smM σ (σ.Dt d) = σ.Dt d)
  rw [e]
  exact decide_eq_decide.mpr ⟨fun q z => q z.symm, fun q z => q z.symm⟩
theorem mrg_CM {σ : St} (hO : okR σ) (h : ∀ d : Int, 0 ≤ d → d < 32 → 0 ≤ σ.Dt d ∧ σ.Dt d < 16) : mrg (smlC σ) σ.Dt 32 = mrg (smM σ) σ.Dt 32 := by
  funext d
  unfold mrg
  by_cases q : 0 ≤ d ∧ d < 32
  · rw [if_pos q, if_pos q, sml_CM hO (h d q.1 q.2)]
  · rw [if_neg q, if_neg q]
