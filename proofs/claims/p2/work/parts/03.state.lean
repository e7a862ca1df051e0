/-! ===== what a state is, as numbers ===== -/
def St : Type := Int × Int × Int32 × (Int → Int32) × (Int → Int) × Int × (Int → Int) × (Int → Int) × (Int → Int) × (Int → Int) × Int × (Int → Int → Int32)
def St.tk (σ : St) : Int := σ.1
def St.lim (σ : St) : Int := σ.2.1
def St.rf (σ : St) : Int32 := σ.2.2.1
def St.B (σ : St) : Int → Int32 := σ.2.2.2.1
def St.Dt (σ : St) : Int → Int := σ.2.2.2.2.1
def St.rn (σ : St) : Int := σ.2.2.2.2.2.1
def St.F (σ : St) : Int → Int := σ.2.2.2.2.2.2.1
def St.L (σ : St) : Int → Int := σ.2.2.2.2.2.2.2.1
def St.S (σ : St) : Int → Int := σ.2.2.2.2.2.2.2.2.1
def St.K (σ : St) : Int → Int := σ.2.2.2.2.2.2.2.2.2.1
def St.kn (σ : St) : Int := σ.2.2.2.2.2.2.2.2.2.2.1
def St.KP (σ : St) : Int → Int → Int32 := σ.2.2.2.2.2.2.2.2.2.2.2
def rgIn (σ : St) (j e : Int) : Bool := decide (j < σ.rn) && (decide (σ.F j ≤ e) && decide (e < σ.F j + σ.L j))
def rgOf (σ : St) (e : Int) : Int := if rgIn σ 0 e = true then 0 else if rgIn σ 1 e = true then 1 else if rgIn σ 2 e = true then 2 else if rgIn σ 3 e = true then 3 else -1
def cyc (k len : Int) : Int := if k = 2 then 2 * len - 2 else len
def shiftR (k len sp w : Int) : Int := if k = 1 then (if w / sp % cyc k len = 0 then 0 else len - w / sp % cyc k len) else if w / sp % cyc k len < len then w / sp % cyc k len else cyc k len - w / sp % cyc k len
def srcR (f len sh e : Int) : Int := if e - f - sh < 0 then f + (e - f - sh) + len else f + (e - f - sh)
def src (σ : St) (e w : Int) : Int := if rgOf σ e = -1 then e else srcR (σ.F (rgOf σ e)) (σ.L (rgOf σ e)) (shiftR (σ.K (rgOf σ e)) (σ.L (rgOf σ e)) (σ.S (rgOf σ e)) w) e
def shw (σ : St) (e w : Int) : Int32 := σ.B (src σ e w)
def rnd (σ : St) (j : Int) : Int := σ.S j * cyc (σ.K j) (σ.L j)
def rndE (σ : St) (e : Int) : Int := if rgOf σ e = -1 then 1 else rnd σ (rgOf σ e)
/-- the ranges are such as can be told -/
def okR (σ : St) : Prop := (0 ≤ σ.rn ∧ σ.rn ≤ 4) ∧ ∀ j : Int, 0 ≤ j → j < σ.rn → (0 ≤ σ.F j ∧ 2 ≤ σ.L j ∧ σ.F j + σ.L j ≤ 16) ∧ (1 ≤ σ.S j ∧ σ.S j ≤ 9) ∧ (0 ≤ σ.K j ∧ σ.K j ≤ 2)
theorem rgIn_iff {σ : St} {j e : Int} : rgIn σ j e = true ↔ j < σ.rn ∧ σ.F j ≤ e ∧ e < σ.F j + σ.L j := by simp [rgIn]
theorem rgOf_cases (σ : St) (e : Int) : (rgOf σ e = -1 ∧ rgIn σ 0 e = false ∧ rgIn σ 1 e = false ∧ rgIn σ 2 e = false ∧ rgIn σ 3 e = false) ∨ (0 ≤ rgOf σ e ∧ rgOf σ e ≤ 3 ∧ rgIn σ (rgOf σ e) e = true) := by
  unfold rgOf
  cases h0 : rgIn σ 0 e
  · cases h1 : rgIn σ 1 e
    · cases h2 : rgIn σ 2 e
      · cases h3 : rgIn σ 3 e
        · exact Or.inl ⟨by simp, rfl, rfl, rfl, rfl⟩
        · right; simp [h3]
      · right; simp [h2]
    · right; simp [h1]
  · right; simp [h0]
theorem rgOf_in {σ : St} {e : Int} (h : ¬ rgOf σ e = -1) : 0 ≤ rgOf σ e ∧ rgOf σ e ≤ 3 ∧ rgOf σ e < σ.rn ∧ σ.F (rgOf σ e) ≤ e ∧ e < σ.F (rgOf σ e) + σ.L (rgOf σ e) := by
  rcases rgOf_cases σ e with h1 | h1
  · exact absurd h1.1 h
  · have := rgIn_iff.mp h1.2.2
    exact ⟨h1.1, h1.2.1, this.1, this.2.1, this.2.2⟩
theorem cyc_b {k len : Int} (h : 2 ≤ len ∧ len ≤ 16) : 2 ≤ cyc k len ∧ len ≤ cyc k len ∧ cyc k len ≤ 30 := by
  unfold cyc; split <;> omega
theorem shiftR_b {k len sp w : Int} (hk : 0 ≤ k ∧ k ≤ 2) (h : 2 ≤ len ∧ len ≤ 16) (hs : 1 ≤ sp) (hw : 0 ≤ w) : 0 ≤ shiftR k len sp w ∧ shiftR k len sp w < len := by
  have hc := cyc_b (k := k) h
  have h0 : 0 ≤ w / sp := Int.ediv_nonneg hw (by omega)
  have h1 := Int.emod_nonneg (w / sp) (show cyc k len ≠ 0 by omega)
  have h2 := Int.emod_lt_of_pos (w / sp) (show 0 < cyc k len by omega)
  unfold shiftR
  generalize w / sp % cyc k len = t at h1 h2
  by_cases k1 : k = 1
  · rw [if_pos k1]
    have : cyc k len = len := by unfold cyc; rw [if_neg (by omega)]
    split <;> omega
  · rw [if_neg k1]
    by_cases k2 : k = 2
    · have : cyc k len = 2 * len - 2 := by unfold cyc; rw [if_pos k2]
      split <;> omega
    · have : cyc k len = len := by unfold cyc; rw [if_neg k2]
      split <;> omega
theorem srcR_b {f len sh e : Int} (h1 : f ≤ e ∧ e < f + len) (h2 : 0 ≤ sh ∧ sh < len) : f ≤ srcR f len sh e ∧ srcR f len sh e < f + len := by
  unfold srcR; split <;> omega
theorem src_b {σ : St} (hO : okR σ) {e w : Int} (he : 0 ≤ e ∧ e < 16) (hw : 0 ≤ w) : 0 ≤ src σ e w ∧ src σ e w < 16 := by
  unfold src
  by_cases h : rgOf σ e = -1
  · rw [if_pos h]; exact he
  · rw [if_neg h]
    have h1 := rgOf_in h
    have h2 := hO.2 _ h1.1 h1.2.2.1
    have h3 := srcR_b (f := σ.F (rgOf σ e)) (len := σ.L (rgOf σ e)) (e := e) ⟨h1.2.2.2.1, h1.2.2.2.2⟩ (shiftR_b (w := w) h2.2.2 ⟨h2.1.2.1, by omega⟩ h2.2.1.1 hw)
    omega
theorem rnd_b {σ : St} (hO : okR σ) {j : Int} (h0 : 0 ≤ j) (hj : j < σ.rn) : 2 ≤ rnd σ j ∧ rnd σ j ≤ 270 := by
  have h := hO.2 j h0 hj
  have hc := cyc_b (k := σ.K j) (len := σ.L j) ⟨h.1.2.1, by omega⟩
  unfold rnd
  generalize cyc (σ.K j) (σ.L j) = q at hc
  have h1 : 1 * q ≤ σ.S j * q := Int.mul_le_mul_of_nonneg_right h.2.1.1 (by omega)
  have h2 : σ.S j * q ≤ 9 * q := Int.mul_le_mul_of_nonneg_right h.2.1.2 (by omega)
  omega
theorem rndE_b {σ : St} (hO : okR σ) (e : Int) : 1 ≤ rndE σ e ∧ rndE σ e ≤ 270 := by
  unfold rndE
  by_cases h : rgOf σ e = -1
  · rw [if_pos h]; omega
  · rw [if_neg h]
    have h1 := rgOf_in h
    have := rnd_b hO h1.1 h1.2.2.1
    omega
/-! searches and counts over the numbers from 0 on -/
def allF (f : Int → Bool) : Nat → Bool
  | 0 => true
  | n + 1 => allF f n && f n
def allI (f : Int → Bool) (k : Int) : Bool := allF f k.toNat
theorem allF_iff {f : Int → Bool} : ∀ {n : Nat}, allF f n = true ↔ ∀ t : Int, 0 ≤ t → t < n → f t = true
  | 0 => ⟨fun _ t h0 h1 => absurd h1 (by omega), fun _ => rfl⟩
  | n + 1 => by
    rw [allF, Bool.and_eq_true, allF_iff]
    refine ⟨fun h t h0 h1 => ?_, fun h => ⟨fun t h0 h1 => h t h0 (by omega), h n (by omega) (by omega)⟩⟩
    by_cases q : t = n
    · rw [q]; exact h.2
    · exact h.1 t h0 (by omega)
theorem allI_iff {f : Int → Bool} {k : Int} : allI f k = true ↔ ∀ t : Int, 0 ≤ t → t < k → f t = true := by
  unfold allI; rw [allF_iff]
  exact ⟨fun h t h0 h1 => h t h0 (by omega), fun h t h0 h1 => h t h0 (by omega)⟩
theorem allI_no {f : Int → Bool} {k t : Int} (h0 : 0 ≤ t) (h1 : t < k) (h : f t = false) : allI f k = false := by
  cases q : allI f k
  · rfl
  · exact absurd (allI_iff.mp q t h0 h1) (by rw [h]; decide)
def cntF (f : Int → Bool) : Nat → Int
  | 0 => 0
  | n + 1 => cntF f n + (if f n = true then 1 else 0)
def cntI (f : Int → Bool) (k : Int) : Int := cntF f k.toNat
theorem cntI_0 {f : Int → Bool} : cntI f 0 = 0 := rfl
theorem cntI_s {f : Int → Bool} {k : Int} (h : 0 ≤ k) : cntI f (k + 1) = cntI f k + (if f k = true then 1 else 0) := by
  unfold cntI
  rw [show (k + 1).toNat = k.toNat + 1 by omega, cntF, Int.toNat_of_nonneg h]
theorem cntI_t {f : Int → Bool} {k : Int} (h : 0 ≤ k) (q : f k = true) : cntI f (k + 1) = cntI f k + 1 := by rw [cntI_s h, if_pos q]
theorem cntI_f {f : Int → Bool} {k : Int} (h : 0 ≤ k) (q : f k = false) : cntI f (k + 1) = cntI f k := by rw [cntI_s h, if_neg (by rw [q]; decide)]; omega
theorem cntF_b (f : Int → Bool) : ∀ n : Nat, 0 ≤ cntF f n ∧ cntF f n ≤ n
  | 0 => ⟨Int.le_refl _, Int.le_refl _⟩
  | n + 1 => by have h := cntF_b f n; rw [cntF]; split <;> omega
theorem cntI_b (f : Int → Bool) {k : Int} (h : 0 ≤ k) : 0 ≤ cntI f k ∧ cntI f k ≤ k := by
  have := cntF_b f k.toNat; unfold cntI; omega
/-- the first number below k with f, or -1 -/
def fstF (f : Int → Bool) : Nat → Int
  | 0 => -1
  | n + 1 => if 0 ≤ fstF f n then fstF f n else if f n = true then n else -1
def fstI (f : Int → Bool) (k : Int) : Int := fstF f k.toNat
theorem fstF_none {f : Int → Bool} : ∀ {n : Nat}, (∀ t : Int, 0 ≤ t → t < n → f t = false) → fstF f n = -1
  | 0, _ => rfl
  | n + 1, h => by
    rw [fstF, fstF_none (fun t h0 h1 => h t h0 (by omega)), if_neg (by omega), if_neg (by rw [h n (by omega) (by omega)]; decide)]
theorem fstF_some {f : Int → Bool} {k : Int} (h0 : 0 ≤ k) (hb : ∀ t : Int, 0 ≤ t → t < k → f t = false) (hf : f k = true) : ∀ {n : Nat}, k < n → fstF f n = k
  | 0, h => absurd h (by omega)
  | n + 1, h => by
    by_cases q : k < n
    · rw [fstF, fstF_some h0 hb hf q, if_pos h0]
    · have hk : k = n := by omega
      subst hk
      rw [fstF, fstF_none hb, if_neg (by omega), if_pos hf]
theorem fstI_none {f : Int → Bool} {k : Int} (h : ∀ t : Int, 0 ≤ t → t < k → f t = false) : fstI f k = -1 := fstF_none (fun t h0 h1 => h t h0 (by omega))
theorem fstI_some {f : Int → Bool} {k n : Int} (h0 : 0 ≤ k) (hn : k < n) (hb : ∀ t : Int, 0 ≤ t → t < k → f t = false) (hf : f k = true) : fstI f n = k := fstF_some h0 hb hf (by omega)
theorem lt_stp {p : Int → Prop} {k : Int} (h : ∀ t : Int, 0 ≤ t → t < k → p t) (hk : p k) : ∀ t : Int, 0 ≤ t → t < k + 1 → p t := fun t h0 h1 => by
  by_cases q : t = k
  · rw [q]; exact hk
  · exact h t h0 (by omega)
theorem lt_st0 {p : Int → Prop} : ∀ t : Int, 0 ≤ t → t < 0 → p t := fun t h0 h1 => absurd h1 (by omega)
/-! what entries do -/
def chgB (σ : St) (e f : Int) (t : Int) : Bool := decide (shw σ e (f + t + 1) ≠ shw σ e (f + t))
def chg (σ : St) (e f n : Int) : Int := cntI (chgB σ e f) n
def twnB (σ : St) (x y : Int) (t : Int) : Bool := decide (shw σ x t = shw σ y t)
/-- as the class asks -/
def twnC (σ : St) (x y : Int) : Bool := allI (twnB σ x y) (rndE σ x + rndE σ y)
/-! the class's cells: a 0 the object, a 1 its palette, 2 base, 3 rangeOf, 4 ranges, 5 dots, 6 uses, 7 kept, 8 + j the ranges -/
def rgA (σ : St) (a : Nat → Nat) (j : Int) : Option Nat := if 0 ≤ j ∧ j < σ.rn then some (a (8 + j.toNat)) else none
def cRng (q : Nat) (f len sp k : Int) : Nat × va_E := (q, .inr (5, [.int (zI f), .int (zI len), .int (zI sp), .int (zI k), .int (zI (cyc k len))]))
def hRng (G : zG) (q : Nat) (f len sp k : Int) (H : Heap) : Prop := va_at G.1 vwCl (cRng q f len sp k) H
def hPal (G : zG) (σ : St) (a : Nat → Nat) (H : Heap) : Prop :=
  va_at G.1 vwCl (a 1, .inr (4, [.ref (a 2), .ref (a 3), .ref (a 4), .int (zI σ.rn)])) H ∧
  va_at G.1 vwCl (a 2, .inl (G.2 0, 16, .inl (zA σ.B))) H ∧
  va_at G.1 vwCl (a 3, .inl (G.2 0, 16, .inl (zB (rgOf σ)))) H ∧
  va_at G.1 vwCl (a 4, .inl (G.2 1, 4, .inr (.inr (.inr (.inr (zC (rgA σ a))))))) H ∧
  (∀ j : Int, 0 ≤ j → j < σ.rn → hRng G (a (8 + j.toNat)) (σ.F j) (σ.L j) (σ.S j) (σ.K j) H) ∧ okR σ
