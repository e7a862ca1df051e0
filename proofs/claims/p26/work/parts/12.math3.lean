/-! ===== the two ways of reckoning are one ===== -/
theorem src_per {σ : St} (hO : okR σ) {e t : Int} (ht : 0 ≤ t) : src σ e (t + rndE σ e) = src σ e t := by
  unfold src
  by_cases h : rgOf σ e = -1
  · rw [if_pos h, if_pos h]
  · rw [if_neg h, if_neg h]
    have h1 := rgOf_in h
    have h2 := hO.2 _ h1.1 h1.2.2.1
    have e1 : rndE σ e = σ.S (rgOf σ e) * cyc (σ.K (rgOf σ e)) (σ.L (rgOf σ e)) := by unfold rndE; rw [if_neg h]; rfl
    have e2 : shiftR (σ.K (rgOf σ e)) (σ.L (rgOf σ e)) (σ.S (rgOf σ e)) (t + rndE σ e) = shiftR (σ.K (rgOf σ e)) (σ.L (rgOf σ e)) (σ.S (rgOf σ e)) t := by
      unfold shiftR
      rw [e1, Int.add_mul_ediv_left _ _ (by omega), Int.add_emod_right]
    rw [e2]
theorem shw_per {σ : St} (hO : okR σ) {e t : Int} (ht : 0 ≤ t) : shw σ e (t + rndE σ e) = shw σ e t := by unfold shw; rw [src_per hO ht]
theorem per_mul {u : Int → Int32} {p : Int} (hp : 0 ≤ p) (h : ∀ t : Int, 0 ≤ t → u (t + p) = u t) : ∀ (n : Nat) (t : Int), 0 ≤ t → u (t + p * n) = u t
  | 0, t, _ => by rw [show ((0 : Nat) : Int) = 0 from rfl, Int.mul_zero, Int.add_zero]
  | n + 1, t, ht => by
    have h1 : 0 ≤ p * n := Int.mul_nonneg hp (by omega)
    rw [Int.natCast_add, Int.mul_add, ← Int.add_assoc, show p * ((1 : Nat) : Int) = p by rw [show ((1 : Nat) : Int) = 1 from rfl, Int.mul_one], h _ (by omega), per_mul hp h n t ht]
theorem per_mod {u : Int → Int32} {p : Int} (hp : 0 < p) (h : ∀ t : Int, 0 ≤ t → u (t + p) = u t) {t : Int} (ht : 0 ≤ t) : u t = u (t % p) := by
  have h0 := Int.emod_nonneg t (show p ≠ 0 by omega)
  have h1 : 0 ≤ t / p := Int.ediv_nonneg ht (by omega)
  have h2 := per_mul (by omega) h (t / p).toNat (t % p) h0
  rw [Int.toNat_of_nonneg h1, Int.emod_add_mul_ediv] at h2
  exact h2
/-- two rows that come round after p and q ticks, the same in the first p + q: the same -/
theorem fine_wilf {u v : Int → Int32} {p q : Int} (hp : 0 < p) (hq : 0 < q) (hu : ∀ t : Int, 0 ≤ t → u (t + p) = u t) (hv : ∀ t : Int, 0 ≤ t → v (t + q) = v t) (h : ∀ t : Int, 0 ≤ t → t < p + q → u t = v t) : ∀ t : Int, 0 ≤ t → u t = v t := by
  have huq : ∀ t : Int, 0 ≤ t → u (t + q) = u t := by
    intro t ht
    have m0 := Int.emod_nonneg t (show p ≠ 0 by omega)
    have m1 := Int.emod_lt_of_pos t hp
    have d0 : 0 ≤ t / p := Int.ediv_nonneg ht (by omega)
    have e1 : u (t + q) = u (t % p + q) := by
      have h2 := per_mul (by omega) hu (t / p).toNat (t % p + q) (by omega)
      rw [Int.toNat_of_nonneg d0, show t % p + q + p * (t / p) = t + q by have := Int.emod_add_mul_ediv t p; omega] at h2
      exact h2
    rw [e1, h _ (by omega) (by omega), hv _ m0, ← h _ m0 (by omega), ← per_mod hp hu ht]
  intro t ht
  have m0 := Int.emod_nonneg t (show q ≠ 0 by omega)
  have m1 := Int.emod_lt_of_pos t hq
  rw [per_mod hq huq ht, per_mod hq hv ht, h _ m0 (by omega)]
theorem gI_dvd {a b : Int} (ha : 0 < a) (hb : 0 < b) : gI a b ∣ a ∧ gI a b ∣ b := by
  unfold gI
  have h1 := Int.natCast_dvd_natCast.mpr (Nat.gcd_dvd_left a.toNat b.toNat)
  have h2 := Int.natCast_dvd_natCast.mpr (Nat.gcd_dvd_right a.toNat b.toNat)
  rw [Int.toNat_of_nonneg (show 0 ≤ a by omega)] at h1
  rw [Int.toNat_of_nonneg (show 0 ≤ b by omega)] at h2
  exact ⟨h1, h2⟩
theorem lcI_dvd {a b : Int} (ha : 0 < a) (hb : 0 < b) : (∃ n : Nat, lcI a b = a * n) ∧ (∃ n : Nat, lcI a b = b * n) := by
  obtain ⟨⟨x, hx⟩, ⟨y, hy⟩⟩ := gI_dvd ha hb
  have hg := gI_b ha (show 0 ≤ b by omega)
  have e1 : a / gI a b = x := by
    conv => lhs; lhs; rw [hx]
    rw [Int.mul_ediv_cancel_left _ (by omega)]
  have hx0 : 0 ≤ x := by rw [← e1]; exact Int.ediv_nonneg (by omega) (by omega)
  have hy0 : 0 ≤ y := by
    have : b / gI a b = y := by
      conv => lhs; lhs; rw [hy]
      rw [Int.mul_ediv_cancel_left _ (by omega)]
    rw [← this]; exact Int.ediv_nonneg (by omega) (by omega)
  refine ⟨⟨y.toNat, ?_⟩, ⟨x.toNat, ?_⟩⟩
  · rw [Int.toNat_of_nonneg hy0]
    unfold lcI
    rw [e1]
    have : x * b = x * (gI a b * y) := by rw [← hy]
    rw [this, ← Int.mul_assoc, Int.mul_comm x, ← hx]
  · rw [Int.toNat_of_nonneg hx0]
    unfold lcI
    rw [e1, Int.mul_comm]
theorem twn_all {σ : St} (hO : okR σ) {x y : Int} : twnC σ x y = true ↔ ∀ t : Int, 0 ≤ t → shw σ x t = shw σ y t := by
  have hx := rndE_b hO x
  have hy := rndE_b hO y
  unfold twnC
  rw [allI_iff]
  constructor
  · intro h
    refine fine_wilf (p := rndE σ x) (q := rndE σ y) (by omega) (by omega) (fun t ht => shw_per hO ht) (fun t ht => shw_per hO ht) (fun t h0 h1 => ?_)
    have := h t h0 h1
    unfold twnB at this
    exact of_decide_eq_true this
  · intro h t h0 _
    unfold twnB
    exact decide_eq_true (h t h0)
theorem twnM_all {σ : St} (hO : okR σ) {x y : Int} : twnM σ x y = true ↔ ∀ t : Int, 0 ≤ t → shw σ x t = shw σ y t := by
  have hx := rndE_b hO x
  have hy := rndE_b hO y
  have hl := lcI_b (a := rndE σ x) (b := rndE σ y) hx.1 hy.1
  obtain ⟨⟨n1, e1⟩, ⟨n2, e2⟩⟩ := lcI_dvd (a := rndE σ x) (b := rndE σ y) (by omega) (by omega)
  unfold twnM
  rw [allI_iff]
  constructor
  · intro h t ht
    have p1 : ∀ t : Int, 0 ≤ t → shw σ x (t + lcI (rndE σ x) (rndE σ y)) = shw σ x t := fun t ht => by
      rw [e1]; exact per_mul (u := shw σ x) (by omega) (fun t ht => shw_per hO ht) n1 t ht
    have p2 : ∀ t : Int, 0 ≤ t → shw σ y (t + lcI (rndE σ x) (rndE σ y)) = shw σ y t := fun t ht => by
      rw [e2]; exact per_mul (u := shw σ y) (by omega) (fun t ht => shw_per hO ht) n2 t ht
    have m0 := Int.emod_nonneg t (show lcI (rndE σ x) (rndE σ y) ≠ 0 by omega)
    have m1 := Int.emod_lt_of_pos t (show 0 < lcI (rndE σ x) (rndE σ y) by omega)
    rw [per_mod (by omega) p1 ht, per_mod (by omega) p2 ht]
    have := h _ m0 m1
    unfold twnB at this
    exact of_decide_eq_true this
  · intro h t h0 _
    unfold twnB
    exact decide_eq_true (h t h0)
theorem b_iff {x y : Bool} (h : x = true ↔ y = true) : x = y := by cases x <;> cases y <;> simp_all
theorem twn_CM {σ : St} (hO : okR σ) (x y : Int) : twnC σ x y = twnM σ x y := b_iff ((twn_all hO).trans (twnM_all hO).symm)
theorem twn_sym {σ : St} (hO : okR σ) (x y : Int) : twnC σ x y = twnC σ y x := b_iff ((twn_all hO).trans ⟨fun h t ht => (h t ht).symm, fun h t ht => (h t ht).symm⟩ |>.trans (twn_all hO).symm)
theorem sml_CM {σ : St} (hO : okR σ) {e : Int} (he : 0 ≤ e ∧ e < 16) : smlC σ e = smM σ e := by
  have hf : (fun o => twnC σ o e) = (fun o => twnM σ e o) := by funext o; rw [twn_sym hO, twn_CM hO]
  unfold smlC smM
  rw [hf]
  rcases fstF_cases (fun o => twnM σ e o) e.toNat with ⟨h1, h2⟩ | ⟨h1, h2, h3⟩
  · have h4 : fstI (fun o => twnM σ e o) e = -1 := h1
    rw [if_pos h4]
    exact (fstI_some (f := fun o => twnM σ e o) he.1 he.2 (fun t h0 ht => h2 t h0 (by omega)) (twnM_rf σ e)).symm
  · have h4 : fstI (fun o => twnM σ e o) e = fstF (fun o => twnM σ e o) e.toNat := rfl
    rw [if_neg (by omega), h4]
    exact (fstI_some (f := fun o => twnM σ e o) h1.1 (by omega) h3 h2).symm
theorem bst_c {p q : Int → Bool} (h : p = q) (k : Int) : bstI p k = bstI q k := by rw [h]
theorem bstw_CM {σ : St} (hO : okR σ) (e : Int) : bstI (fun o => twnC σ o e) 16 = bstI (fun o => twnM σ e o) 16 := bst_c (by funext o; rw [twn_sym hO, twn_CM hO]) 16
theorem shw_0 {σ : St} (hO : okR σ) (e : Int) : shw σ e 0 = σ.B e := by
  unfold shw src
  by_cases h : rgOf σ e = -1
  · rw [if_pos h]
  · rw [if_neg h]
    have h1 := rgOf_in h
    have h2 := hO.2 _ h1.1 h1.2.2.1
    have e1 : shiftR (σ.K (rgOf σ e)) (σ.L (rgOf σ e)) (σ.S (rgOf σ e)) 0 = 0 := by
      unfold shiftR
      rw [Int.zero_ediv, Int.zero_emod]
      by_cases q : σ.K (rgOf σ e) = 1
      · rw [if_pos q, if_pos rfl]
      · rw [if_neg q, if_pos (by omega)]
    rw [e1]
    congr 1
    unfold srcR
    rw [if_neg (by omega)]
    omega
/-- each place of a range comes to the entry at some time of its round -/
theorem reach {σ : St} (hO : okR σ) {e o : Int} (h : ¬ rgOf σ e = -1) (ho : σ.F (rgOf σ e) ≤ o ∧ o < σ.F (rgOf σ e) + σ.L (rgOf σ e)) : ∃ t : Int, 0 ≤ t ∧ t < rndE σ e ∧ src σ e t = o := by
  have h1 := rgOf_in h
  have h2 := hO.2 _ h1.1 h1.2.2.1
  have e1 : rndE σ e = σ.S (rgOf σ e) * cyc (σ.K (rgOf σ e)) (σ.L (rgOf σ e)) := by unfold rndE; rw [if_neg h]; rfl
  unfold src
  rw [e1]
  simp only [if_neg h]
  generalize rgOf σ e = j at *
  generalize σ.S j = sp at *
  generalize σ.K j = k at *
  generalize σ.L j = len at *
  generalize σ.F j = f at *
  have hc := cyc_b (k := k) (len := len) ⟨h2.1.2.1, by omega⟩
  have key : ∀ s d : Int, 0 ≤ s → s < cyc k len → shiftR k len sp (sp * s) = d → srcR f len d e = o → ∃ t : Int, 0 ≤ t ∧ t < sp * cyc k len ∧ srcR f len (shiftR k len sp t) e = o := by
    intro s d s0 s1 e2 e3
    refine ⟨sp * s, Int.mul_nonneg (by omega) s0, Int.mul_lt_mul_of_pos_left s1 (by omega), ?_⟩
    rw [e2]; exact e3
  have st : ∀ s : Int, 0 ≤ s → s < cyc k len → sp * s / sp % cyc k len = s := fun s s0 s1 => by
    rw [Int.mul_ediv_cancel_left _ (by omega), Int.emod_eq_of_lt s0 s1]
  obtain ⟨d, d0, d1, d2⟩ : ∃ d : Int, 0 ≤ d ∧ d < len ∧ srcR f len d e = o := by
    by_cases q : o ≤ e
    · exact ⟨e - o, by omega, by omega, by unfold srcR; rw [if_neg (by omega)]; omega⟩
    · exact ⟨e - o + len, by omega, by omega, by unfold srcR; rw [if_pos (by omega)]; omega⟩
  by_cases k1 : k = 1
  · have hcl : cyc k len = len := by unfold cyc; rw [if_neg (by omega)]
    by_cases dz : d = 0
    · refine key 0 d (by omega) (by omega) ?_ d2
      unfold shiftR; rw [if_pos k1, st 0 (by omega) (by omega), if_pos rfl, dz]
    · refine key (len - d) d (by omega) (by omega) ?_ d2
      unfold shiftR; rw [if_pos k1, st (len - d) (by omega) (by omega), if_neg (by omega)]; omega
  · refine key d d d0 (by omega) ?_ d2
    unfold shiftR; rw [if_neg k1, st d d0 (by omega), if_pos d1]
theorem stl_CM {σ : St} (hO : okR σ) {e : Int} (he : 0 ≤ e ∧ e < 16) : stl σ e = stlM σ e := by
  refine b_iff ?_
  unfold stl stlM
  rw [allI_iff, allI_iff]
  by_cases h : rgOf σ e = -1
  · constructor
    · intro _ t h0 _
      unfold shw src
      simp [h]
    · intro _ t h0 _
      simp [stlB, h]
  · have h1 := rgOf_in h
    have h2 := hO.2 _ h1.1 h1.2.2.1
    constructor
    · intro hh t h0 _
      rw [decide_eq_true_iff, shw_0 hO]
      have hs := shiftR_b (w := t) h2.2.2 ⟨h2.1.2.1, by omega⟩ h2.2.1.1 h0
      have hb := srcR_b (f := σ.F (rgOf σ e)) (len := σ.L (rgOf σ e)) (e := e) ⟨h1.2.2.2.1, h1.2.2.2.2⟩ hs
      have e1 : src σ e t = srcR (σ.F (rgOf σ e)) (σ.L (rgOf σ e)) (shiftR (σ.K (rgOf σ e)) (σ.L (rgOf σ e)) (σ.S (rgOf σ e)) t) e := by unfold src; rw [if_neg h]
      have h3 := hh (src σ e t) (by omega) (by omega)
      rw [e1] at h3
      unfold shw
      rw [e1]
      unfold stlB at h3
      rw [decide_eq_true (show ¬ rgOf σ e = -1 from h), decide_eq_true hb.1, decide_eq_true hb.2] at h3
      simpa using h3
    · intro hh o h0 _
      unfold stlB
      by_cases q : σ.F (rgOf σ e) ≤ o ∧ o < σ.F (rgOf σ e) + σ.L (rgOf σ e)
      · obtain ⟨t, t0, t1, t2⟩ := reach hO h q
        have h3 := of_decide_eq_true (hh t t0 t1)
        rw [shw_0 hO] at h3
        unfold shw at h3
        rw [t2] at h3
        simp [h3]
      · have : (decide (σ.F (rgOf σ e) ≤ o) && decide (o < σ.F (rgOf σ e) + σ.L (rgOf σ e))) = false := by
          rw [← Bool.not_eq_true]; simpa using q
        rw [this]; simp
theorem cntF_sz (f : Int → Bool) : ∀ n : Nat, cntF f n = szF (fun d => if f d = true then 1 else 0) n
  | 0 => rfl
  | n + 1 => by rw [cntF, szF, cntF_sz f n]
theorem fl_CM {σ : St} (h : ∀ d : Int, 0 ≤ d → d < 32 → 0 ≤ σ.Dt d ∧ σ.Dt d < 16) : flC σ = flM σ := by
  unfold flC flM szI cntI
  rw [cntF_sz]
  have e1 := exchZ (D := σ.Dt) (f := fun e => if decide (10 < chg σ e σ.tk 30) = true then 1 else 0) (m := 16) 32 (fun d h0 h1 => h d h0 (by omega))
  refine (szF_c (fun t _ _ => ?_)).trans e1
  unfold flG usz cntI
  by_cases q : 10 < chg σ t σ.tk 30
  · rw [if_pos q, if_pos (decide_eq_true q)]; exact (Int.mul_one _).symm
  · rw [if_neg q, if_neg (by simpa using q)]; exact (Int.mul_zero _).symm
theorem orF_c {p p' : Int → Bool} {g g' : Int → Int32} : ∀ {n : Nat}, (∀ t : Int, 0 ≤ t → t < n → p t = p' t ∧ g t = g' t) → orF p g n = orF p' g' n
  | 0, _ => rfl
  | n + 1, h => by
    have h1 := h n (by omega) (by omega)
    rw [orF, orF, orF_c (fun t h0 ht => h t h0 (by omega)), h1.1, h1.2]
theorem ks_CM {σ : St} (hO : okR σ) (h : ∀ d : Int, 0 ≤ d → d < 32 → 0 ≤ σ.Dt d ∧ σ.Dt d < 16) : ksC σ = ksM σ :=
  orF_c (n := 16) (fun t h0 h1 => ⟨(in_us h ⟨h0, h1⟩).symm, by rw [sml_CM hO ⟨h0, h1⟩]⟩)
theorem mxF_c {g g' : Int → Int32} : ∀ {n : Nat}, (∀ t : Int, 0 ≤ t → t < n → g t = g' t) → mxF g n = mxF g' n
  | 0, _ => rfl
  | n + 1, h => by rw [mxF, mxF, mxF_c (fun t h0 ht => h t h0 (by omega)), h n (by omega) (by omega)]
theorem mr_CM (σ : St) : mrL σ = mrM σ := mxF_c (n := 4) (fun t _ _ => smF_c (n := 8) (fun q _ _ => by rw [Int.mul_comm t 8]))
theorem lt_CM {σ : St} (h : ∀ d : Int, 0 ≤ d → d < 32 → 0 ≤ σ.Dt d ∧ σ.Dt d < 16) : ∀ n : Nat, ltF σ n = ltFM σ n
  | 0 => by rw [ltF, ltFM, li_CM h]
  | n + 1 => by rw [ltF, ltFM, lt_CM h n, li_CM h]
theorem ltI_CM {σ : St} (h : ∀ d : Int, 0 ≤ d → d < 32 → 0 ≤ σ.Dt d ∧ σ.Dt d < 16) (n : Int) : ltC σ n = ltM σ n := by unfold ltC ltM; rw [lt_CM h]
def btL (x : Int64) (i : Nat) : Bool := x.toBitVec.getLsbD i
theorem bL_any {p : Int → Bool} {g : Int → Int64} {i : Nat} : ∀ n : Nat, btL (orLF p g n) i = true ↔ ∃ d : Int, (0 ≤ d ∧ d < n) ∧ p d = true ∧ btL (g d) i = true
  | 0 => by rw [show orLF p g 0 = 0 from rfl]; exact ⟨fun h => by simp [btL] at h, fun ⟨d, h, _⟩ => absurd h (by omega)⟩
  | n + 1 => by
    have ih := bL_any (p := p) (g := g) (i := i) n
    rw [orLF]
    by_cases q : p n = true
    · rw [if_pos q, show btL (orLF p g n ||| g n) i = (btL (orLF p g n) i || btL (g n) i) by unfold btL; rw [Int64.toBitVec_or, BitVec.getLsbD_or], Bool.or_eq_true, ih]
      refine ⟨fun h => ?_, fun ⟨d, h, h1, h2⟩ => ?_⟩
      · rcases h with ⟨d, h, h1, h2⟩ | h
        · exact ⟨d, by omega, h1, h2⟩
        · exact ⟨n, by omega, q, h⟩
      · by_cases r : d = n
        · subst r; exact Or.inr h2
        · exact Or.inl ⟨d, by omega, h1, h2⟩
    · rw [if_neg q, ih]
      refine ⟨fun ⟨d, h, h1, h2⟩ => ⟨d, by omega, h1, h2⟩, fun ⟨d, h, h1, h2⟩ => ⟨d, ?_, h1, h2⟩⟩
      by_cases r : d = n
      · subst r; exact absurd h1 q
      · omega
theorem cs_CM {σ : St} (h : ∀ d : Int, 0 ≤ d → d < 32 → 0 ≤ σ.Dt d ∧ σ.Dt d < 16) : csC σ = csM σ := by
  unfold csC csM orL
  refine Int64.toBitVec_inj.mp (BitVec.eq_of_getLsbD_eq (fun i _ => b_iff ?_))
  show btL (orLF _ _ _) i = true ↔ btL (orLF _ _ _) i = true
  rw [bL_any, bL_any]
  constructor
  · rintro ⟨e, h0, h1, h2⟩
    obtain ⟨d, hd, rfl⟩ := us_iff.mp h1
    exact ⟨d, hd, rfl, h2⟩
  · rintro ⟨d, h0, _, h2⟩
    have hd := h d h0.1 h0.2
    exact ⟨σ.Dt d, by omega, us_iff.mpr ⟨d, h0, rfl⟩, h2⟩
theorem fr_CM {σ : St} {f u : Int} (hf : 0 ≤ f ∧ f < 16) (hu : 0 ≤ u ∧ u < 16) (hfu : f ≤ u) : allI (frB σ f u) 16 = !(tkM σ f u) := by
  unfold tkM
  rw [Bool.not_not]
  refine b_iff ?_
  rw [allI_iff, allI_iff]
  constructor
  · intro h i h0 h1
    have := h (f + i) (by omega) (by omega)
    unfold frB at this
    rw [decide_eq_true (show f ≤ f + i by omega), decide_eq_true (show f + i ≤ u by omega)] at this
    simpa using this
  · intro h e h0 h1
    unfold frB
    by_cases q : f ≤ e ∧ e ≤ u
    · have := h (e - f) (by omega) (by omega)
      rw [show f + (e - f) = e by omega] at this
      simp [of_decide_eq_true this]
    · have : (decide (f ≤ e) && decide (e ≤ u)) = false := by rw [← Bool.not_eq_true]; simpa using q
      rw [this]; rfl
