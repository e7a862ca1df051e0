/-! ===== what a state is, as numbers ===== -/
def St : Type := Int × Int × Int32 × (Int → Int32) × (Int → Int) × Int × (Int → Int) × (Int → Int) × (Int → Int) × (Int → Int) × Int × (Int → Int → Int32)
def St.tk (σ : St) : Int := σ.1
def St.lim (σ : St) : Int := σ.2.1
def St.rf (σ : St) : Int32 := σ.2.2.1
def St.B (σ : St) : Int → Int32 := σ.2.2.2.1
def St.Dt (σ : St) : Int → Int := σ.2.2.2.2.1
def St.rn (σ : St) : Int := σ.2.2.2.2.2.1
def St.F (σ : St) : Int → Int := σ.2.2.2.2.2.2.1
def St.L (σ : St) : Int → Int := σ.2.2.2.2.2.2.2.1
def St.S (σ : St) : Int → Int := σ.2.2.2.2.2.2.2.2.1
def St.K (σ : St) : Int → Int := σ.2.2.2.2.2.2.2.2.2.1
def St.kn (σ : St) : Int := σ.2.2.2.2.2.2.2.2.2.2.1
def St.KP (σ : St) : Int → Int → Int32 := σ.2.2.2.2.2.2.2.2.2.2.2
def rgIn (σ : St) (j e : Int) : Bool := decide (j < σ.rn) && (decide (σ.F j ≤ e) && decide (e < σ.F j + σ.L j))
def rgOf (σ : St) (e : Int) : Int := if rgIn σ 0 e = true then 0 else if rgIn σ 1 e = true then 1 else if rgIn σ 2 e = true then 2 else if rgIn σ 3 e = true then 3 else -1
def cyc (k len : Int) : Int := if k = 2 then 2 * len - 2 else len
def shiftR (k len sp w : Int) : Int := if k = 1 then (if w / sp % cyc k len = 0 then 0 else len - w / sp % cyc k len) else if w / sp % cyc k len < len then w / sp % cyc k len else cyc k len - w / sp % cyc k len
def srcR (f len sh e : Int) : Int := if e - f - sh < 0 then f + (e - f - sh) + len else f + (e - f - sh)
def src (σ : St) (e w : Int) : Int := if rgOf σ e = -1 then e else srcR (σ.F (rgOf σ e)) (σ.L (rgOf σ e)) (shiftR (σ.K (rgOf σ e)) (σ.L (rgOf σ e)) (σ.S (rgOf σ e)) w) e
def shw (σ : St) (e w : Int) : Int32 := σ.B (src σ e w)
def rnd (σ : St) (j : Int) : Int := σ.S j * cyc (σ.K j) (σ.L j)
def rndE (σ : St) (e : Int) : Int := if rgOf σ e = -1 then 1 else rnd σ (rgOf σ e)
/-- the ranges are such as can be told -/
def okR (σ : St) : Prop := (0 ≤ σ.rn ∧ σ.rn ≤ 4) ∧ ∀ j : Int, 0 ≤ j → j < σ.rn → (0 ≤ σ.F j ∧ 2 ≤ σ.L j ∧ σ.F j + σ.L j ≤ 16) ∧ (1 ≤ σ.S j ∧ σ.S j ≤ 9) ∧ (0 ≤ σ.K j ∧ σ.K j ≤ 2)
theorem rgIn_iff {σ : St} {j e : Int} : rgIn σ j e = true ↔ j < σ.rn ∧ σ.F j ≤ e ∧ e < σ.F j + σ.L j := by simp [rgIn]
theorem rgOf_cases (σ : St) (e : Int) : (rgOf σ e = -1 ∧ rgIn σ 0 e = false ∧ rgIn σ 1 e = false ∧ rgIn σ 2 e = false ∧ rgIn σ 3 e = false) ∨ (0 ≤ rgOf σ e ∧ rgOf σ e ≤ 3 ∧ rgIn σ (rgOf σ e) e = true) := by
  unfold rgOf
  cases h0 : rgIn σ 0 e
  · cases h1 : rgIn σ 1 e
    · cases h2 : rgIn σ 2 e
      · cases h3 : rgIn σ 3 e
        · exact Or.inl ⟨by simp, rfl, rfl, rfl, rfl⟩
        · right; simp [h3]
      · right; simp [h2]
    · right; simp [h1]
  · right; simp [h0]
theorem rgOf_in {σ : St} {e : Int} (h : ¬ rgOf σ e = -1) : 0 ≤ rgOf σ e ∧ rgOf σ e ≤ 3 ∧ rgOf σ e < σ.rn ∧ σ.F (rgOf σ e) ≤ e ∧ e < σ.F (rgOf σ e) + σ.L (rgOf σ e) := by
  rcases rgOf_cases σ e with h1 | h1
  · exact absurd h1.1 h
  · have := rgIn_iff.mp h1.2.2
    exact ⟨h1.1, h1.2.1, this.1, this.2.1, this.2.2⟩
theorem cyc_b {k len : Int} (h : 2 ≤ len ∧ len ≤ 16) : 2 ≤ cyc k len ∧ len ≤ cyc k len ∧ cyc k len ≤ 30 := by
  unfold cyc; split <;> omega
theorem shiftR_b {k len sp w : Int} (hk : 0 ≤ k ∧ k ≤ 2) (h : 2 ≤ len ∧ len ≤ 16) (hs : 1 ≤ sp) (hw : 0 ≤ w) : 0 ≤ shiftR k len sp w ∧ shiftR k len sp w < len := by
  have hc := cyc_b (k := k) h
  have h0 : 0 ≤ w / sp := Int.ediv_nonneg hw (by omega)
  have h1 := Int.emod_nonneg (w / sp) (show cyc k len ≠ 0 by omega)
  have h2 := Int.emod_lt_of_pos (w / sp) (show 0 < cyc k len by omega)
  unfold shiftR
  generalize w / sp % cyc k len = t at h1 h2
  by_cases k1 : k = 1
  · rw [if_pos k1]
    have : cyc k len = len := by unfold cyc; rw [if_neg (by omega)]
    split <;> omega
  · rw [if_neg k1]
    by_cases k2 : k = 2
    · have : cyc k len = 2 * len - 2 := by unfold cyc; rw [if_pos k2]
      split <;> omega
    · have : cyc k len = len := by unfold cyc; rw [if_neg k2]
      split <;> omega
theorem srcR_b {f len sh e : Int} (h1 : f ≤ e ∧ e < f + len) (h2 : 0 ≤ sh ∧ sh < len) : f ≤ srcR f len sh e ∧ srcR f len sh e < f + len := by
  unfold srcR; split <;> omega
theorem src_b {σ : St} (hO : okR σ) {e w : Int} (he : 0 ≤ e ∧ e < 16) (hw : 0 ≤ w) : 0 ≤ src σ e w ∧ src σ e w < 16 := by
  unfold src
  by_cases h : rgOf σ e = -1
  · rw [if_pos h]; exact he
  · rw [if_neg h]
    have h1 := rgOf_in h
    have h2 := hO.2 _ h1.1 h1.2.2.1
    have h3 := srcR_b (f := σ.F (rgOf σ e)) (len := σ.L (rgOf σ e)) (e := e) ⟨h1.2.2.2.1, h1.2.2.2.2⟩ (shiftR_b (w := w) h2.2.2 ⟨h2.1.2.1, by omega⟩ h2.2.1.1 hw)
    omega
theorem rnd_b {σ : St} (hO : okR σ) {j : Int} (h0 : 0 ≤ j) (hj : j < σ.rn) : 2 ≤ rnd σ j ∧ rnd σ j ≤ 270 := by
  have h := hO.2 j h0 hj
  have hc := cyc_b (k := σ.K j) (len := σ.L j) ⟨h.1.2.1, by omega⟩
  unfold rnd
  generalize cyc (σ.K j) (σ.L j) = q at hc
  have h1 : 1 * q ≤ σ.S j * q := Int.mul_le_mul_of_nonneg_right h.2.1.1 (by omega)
  have h2 : σ.S j * q ≤ 9 * q := Int.mul_le_mul_of_nonneg_right h.2.1.2 (by omega)
  omega
theorem rndE_b {σ : St} (hO : okR σ) (e : Int) : 1 ≤ rndE σ e ∧ rndE σ e ≤ 270 := by
  unfold rndE
  by_cases h : rgOf σ e = -1
  · rw [if_pos h]; omega
  · rw [if_neg h]
    have h1 := rgOf_in h
    have := rnd_b hO h1.1 h1.2.2.1
    omega
/-! searches and counts over the numbers from 0 on -/
def allF (f : Int → Bool) : Nat → Bool
  | 0 => true
  | n + 1 => allF f n && f n
def allI (f : Int → Bool) (k : Int) : Bool := allF f k.toNat
theorem allF_iff {f : Int → Bool} : ∀ {n : Nat}, allF f n = true ↔ ∀ t : Int, 0 ≤ t → t < n → f t = true
  | 0 => ⟨fun _ t h0 h1 => absurd h1 (by omega), fun _ => rfl⟩
  | n + 1 => by
    rw [allF, Bool.and_eq_true, allF_iff]
    refine ⟨fun h t h0 h1 => ?_, fun h => ⟨fun t h0 h1 => h t h0 (by omega), h n (by omega) (by omega)⟩⟩
    by_cases q : t = n
    · rw [q]; exact h.2
    · exact h.1 t h0 (by omega)
theorem allI_iff {f : Int → Bool} {k : Int} : allI f k = true ↔ ∀ t : Int, 0 ≤ t → t < k → f t = true := by
  unfold allI; rw [allF_iff]
  exact ⟨fun h t h0 h1 => h t h0 (by omega), fun h t h0 h1 => h t h0 (by omega)⟩
theorem allI_no {f : Int → Bool} {k t : Int} (h0 : 0 ≤ t) (h1 : t < k) (h : f t = false) : allI f k = false := by
  cases q : allI f k
  · rfl
  · exact absurd (allI_iff.mp q t h0 h1) (by rw [h]; decide)
def cntF (f : Int → Bool) : Nat → Int
  | 0 => 0
  | n + 1 => cntF f n + (if f n = true then 1 else 0)
def cntI (f : Int → Bool) (k : Int) : Int := cntF f k.toNat
theorem cntI_0 {f : Int → Bool} : cntI f 0 = 0 := rfl
theorem cntI_s {f : Int → Bool} {k : Int} (h : 0 ≤ k) : cntI f (k + 1) = cntI f k + (if f k = true then 1 else 0) := by
  unfold cntI
  rw [show (k + 1).toNat = k.toNat + 1 by omega, cntF, Int.toNat_of_nonneg h]
theorem cntI_t {f : Int → Bool} {k : Int} (h : 0 ≤ k) (q : f k = true) : cntI f (k + 1) = cntI f k + 1 := by rw [cntI_s h, if_pos q]
theorem cntI_f {f : Int → Bool} {k : Int} (h : 0 ≤ k) (q : f k = false) : cntI f (k + 1) = cntI f k := by rw [cntI_s h, if_neg (by rw [q]; decide)]; omega
theorem cntF_b (f : Int → Bool) : ∀ n : Nat, 0 ≤ cntF f n ∧ cntF f n ≤ n
  | 0 => ⟨Int.le_refl _, Int.le_refl _⟩
  | n + 1 => by have h := cntF_b f n; rw [cntF]; split <;> omega
theorem cntI_b (f : Int → Bool) {k : Int} (h : 0 ≤ k) : 0 ≤ cntI f k ∧ cntI f k ≤ k := by
  have := cntF_b f k.toNat; unfold cntI; omega
/-- the first number below k with f, or -1 -/
def fstF (f : Int → Bool) : Nat → Int
  | 0 => -1
  | n + 1 => if 0 ≤ fstF f n then fstF f n else if f n = true then n else -1
def fstI (f : Int → Bool) (k : Int) : Int := fstF f k.toNat
theorem fstF_none {f : Int → Bool} : ∀ {n : Nat}, (∀ t : Int, 0 ≤ t → t < n → f t = false) → fstF f n = -1
  | 0, _ => rfl
  | n + 1, h => by
    rw [fstF, fstF_none (fun t h0 h1 => h t h0 (by omega)), if_neg (by omega), if_neg (by rw [h n (by omega) (by omega)]; decide)]
theorem fstF_some {f : Int → Bool} {k : Int} (h0 : 0 ≤ k) (hb : ∀ t : Int, 0 ≤ t → t < k → f t = false) (hf : f k = true) : ∀ {n : Nat}, k < n → fstF f n = k
  | 0, h => absurd h (by omega)
  | n + 1, h => by
    by_cases q : k < n
    · rw [fstF, fstF_some h0 hb hf q, if_pos h0]
    · have hk : k = n := by omega
      subst hk
      rw [fstF, fstF_none hb, if_neg (by omega), if_pos hf]
theorem fstI_none {f : Int → Bool} {k : Int} (h : ∀ t : Int, 0 ≤ t → t < k → f t = false) : fstI f k = -1 := fstF_none (fun t h0 h1 => h t h0 (by omega))
theorem fstI_some {f : Int → Bool} {k n : Int} (h0 : 0 ≤ k) (hn : k < n) (hb : ∀ t : Int, 0 ≤ t → t < k → f t = false) (hf : f k = true) : fstI f n = k := fstF_some h0 hb hf (by omega)
theorem lt_stp {p : Int → Prop} {k : Int} (h : ∀ t : Int, 0 ≤ t → t < k → p t) (hk : p k) : ∀ t : Int, 0 ≤ t → t < k + 1 → p t := fun t h0 h1 => by
  by_cases q : t = k
  · rw [q]; exact hk
  · exact h t h0 (by omega)
theorem lt_st0 {p : Int → Prop} : ∀ t : Int, 0 ≤ t → t < 0 → p t := fun t h0 h1 => absurd h1 (by omega)
/-! what entries do -/
def chgB (σ : St) (e f : Int) (t : Int) : Bool := decide (shw σ e (f + t + 1) ≠ shw σ e (f + t))
def chg (σ : St) (e f n : Int) : Int := cntI (chgB σ e f) n
def twnB (σ : St) (x y : Int) (t : Int) : Bool := decide (shw σ x t = shw σ y t)
/-- as the class asks -/
def twnC (σ : St) (x y : Int) : Bool := allI (twnB σ x y) (rndE σ x + rndE σ y)
def smlC (σ : St) (e : Int) : Int := if fstI (fun o => twnC σ o e) e = -1 then e else fstI (fun o => twnC σ o e) e
def bit1 (k : Int) : Int32 := zI 1 <<< (zI k &&& 31)
def bstF (p : Int → Bool) : Nat → Int32
  | 0 => 0
  | n + 1 => if p n = true then bstF p n ||| bit1 n else bstF p n
def bstI (p : Int → Bool) (k : Int) : Int32 := bstF p k.toNat
theorem bstI_s {p : Int → Bool} {k : Int} (h : 0 ≤ k) : bstI p (k + 1) = if p k = true then bstI p k ||| bit1 k else bstI p k := by
  unfold bstI
  rw [show (k + 1).toNat = k.toNat + 1 by omega, bstF, Int.toNat_of_nonneg h]
def stlB (σ : St) (e o : Int) : Bool := !(decide (¬ rgOf σ e = -1) && (decide (σ.F (rgOf σ e) ≤ o) && decide (o < σ.F (rgOf σ e) + σ.L (rgOf σ e))) && decide (¬ σ.B o = σ.B e))
def stl (σ : St) (e : Int) : Bool := allI (stlB σ e) 16
def gI (a b : Int) : Int := ((Nat.gcd a.toNat b.toNat : Nat) : Int)
theorem gI_0 {a : Int} (h : 0 ≤ a) : gI a 0 = a := by unfold gI; rw [show (0 : Int).toNat = 0 from rfl, Nat.gcd_zero_right, Int.toNat_of_nonneg h]
theorem gI_s {a b : Int} (ha : 0 ≤ a) (hb : 0 < b) : gI b (a % b) = gI a b := by
  unfold gI
  rw [show (a % b).toNat = a.toNat % b.toNat from by
    apply Int.ofNat.inj
    show (((a % b).toNat : Nat) : Int) = ((a.toNat % b.toNat : Nat) : Int)
    rw [Int.toNat_of_nonneg (Int.emod_nonneg a (by omega)), Int.natCast_emod, Int.toNat_of_nonneg ha, Int.toNat_of_nonneg (by omega)], Nat.gcd_comm b.toNat, ← Nat.gcd_rec, Nat.gcd_comm]
theorem gI_b {a b : Int} (ha : 0 < a) (hb : 0 ≤ b) : 1 ≤ gI a b ∧ gI a b ≤ a := by
  unfold gI
  have h1 := Nat.gcd_pos_of_pos_left b.toNat (show 0 < a.toNat by omega)
  have h2 := Nat.gcd_le_left b.toNat (show 0 < a.toNat by omega)
  omega
def lcI (a b : Int) : Int := a / gI a b * b
theorem lcI_b {a b : Int} (ha : 1 ≤ a) (hb : 1 ≤ b) : 1 ≤ lcI a b ∧ lcI a b ≤ a * b := by
  have hg := gI_b (a := a) (b := b) (by omega) (by omega)
  have h0 : gI a b * 1 ≤ a := by omega
  have h1 : 1 ≤ a / gI a b := by
    have := Int.le_ediv_of_mul_le (show 0 < gI a b by omega) (show 1 * gI a b ≤ a by omega)
    omega
  have h2 : a / gI a b ≤ a := Int.ediv_le_self _ (by omega)
  unfold lcI
  have h3 : 1 * b ≤ a / gI a b * b := Int.mul_le_mul_of_nonneg_right h1 (by omega)
  have h4 : a / gI a b * b ≤ a * b := Int.mul_le_mul_of_nonneg_right h2 (by omega)
  omega
/-- one step of the search for the divisor: the product halves -/
theorem euc_half {a b : Int} (hb : 0 < b) (h : b ≤ a) : b * (a % b) * 2 ≤ a * b := by
  have h1 := Int.emod_nonneg a (show b ≠ 0 by omega)
  have h2 := Int.emod_lt_of_pos a hb
  have h3 : a % b * 2 ≤ a := by
    have h4 := Int.mul_ediv_add_emod a b
    have h5 : 1 ≤ a / b := by
      have := Int.le_ediv_of_mul_le hb (show 1 * b ≤ a by omega)
      omega
    have h6 : b * 1 ≤ b * (a / b) := Int.mul_le_mul_of_nonneg_left h5 (by omega)
    omega
  have h7 : b * (a % b * 2) ≤ b * a := Int.mul_le_mul_of_nonneg_left h3 (by omega)
  rw [Int.mul_assoc, Int.mul_comm a b]; exact h7
theorem emod_le {a b : Int} (ha : 0 ≤ a) (hb : 0 < b) : a % b ≤ a := by
  have h1 := Int.mul_ediv_add_emod a b
  have h2 : 0 ≤ b * (a / b) := Int.mul_nonneg (by omega) (Int.ediv_nonneg ha (by omega))
  omega
def eucP (x y k u v : Int) : Prop := (k = 0 ∧ u = x ∧ v = y) ∨ (1 ≤ k ∧ v ≤ u ∧ u * v * 2 ^ (k - 1).toNat ≤ 4294967296)
theorem euc_step {x y k u v : Int} (hu : 1 ≤ u) (hv : 0 < v) (hxy : x * y ≤ 4294967296) (h : eucP x y k u v) : eucP x y (k + 1) v (u % v) := by
  have hm1 := Int.emod_lt_of_pos u hv
  have hm2 := emod_le (a := u) (b := v) (by omega) hv
  right
  rcases h with ⟨q1, q2, q3⟩ | ⟨q1, q2, q3⟩
  · refine ⟨by omega, by omega, ?_⟩
    rw [q1, show ((0 : Int) + 1 - 1).toNat = 0 from rfl, Int.pow_zero, Int.mul_one]
    have := Int.mul_le_mul_of_nonneg_left hm2 (show 0 ≤ v by omega)
    rw [Int.mul_comm v u, q2, q3] at this
    rw [q2, q3]
    omega
  · refine ⟨by omega, by omega, ?_⟩
    rw [show (k + 1 - 1).toNat = (k - 1).toNat + 1 by omega, Int.pow_succ, Int.mul_comm (2 ^ (k - 1).toNat) 2, ← Int.mul_assoc]
    have h1 := euc_half (a := u) (b := v) (by omega) q2
    have h2 := Int.mul_le_mul_of_nonneg_right h1 (show (0 : Int) ≤ 2 ^ (k - 1).toNat from Int.le_of_lt (Int.pow_pos (by omega)))
    omega
theorem euc_end {x y k u v : Int} (hu : 1 ≤ u) (hv : 0 ≤ v) (hk : k = 100) (h : eucP x y k u v) : v = 0 := by
  rcases h with ⟨q1, q2, q3⟩ | ⟨q1, q2, q3⟩
  · omega
  · by_cases q : v = 0
    · exact q
    · exfalso
      subst hk
      have h1 : 1 * 1 ≤ u * v := Int.mul_le_mul (by omega) (by omega) (by omega) (by omega)
      have h2 := Int.mul_le_mul_of_nonneg_right h1 (show (0 : Int) ≤ 2 ^ ((100 : Int) - 1).toNat from Int.le_of_lt (Int.pow_pos (by omega)))
      have h3 : (4294967296 : Int) < 1 * 1 * 2 ^ ((100 : Int) - 1).toNat := by decide
      omega
def prdF (σ : St) : Nat → Int
  | 0 => 1
  | n + 1 => lcI (prdF σ n) (rnd σ n)
def prdI (σ : St) (k : Int) : Int := prdF σ k.toNat
def per (σ : St) : Int := prdI σ σ.rn
theorem prdI_s {σ : St} {k : Int} (h : 0 ≤ k) : prdI σ (k + 1) = lcI (prdI σ k) (rnd σ k) := by
  unfold prdI
  rw [show (k + 1).toNat = k.toNat + 1 by omega, prdF, Int.toNat_of_nonneg h]
/-- no entry is in two ranges -/
def okD (σ : St) : Prop := ∀ i j : Int, 0 ≤ i → i < j → j < σ.rn → σ.F i + σ.L i ≤ σ.F j ∨ σ.F j + σ.L j ≤ σ.F i
theorem four_t : (List.range 14).all (fun a => (List.range 14).all (fun b => (List.range 14).all (fun c => (List.range 14).all (fun d => !(decide (1 ≤ a) && decide (1 ≤ b) && decide (1 ≤ c) && decide (1 ≤ d) && decide (a + b + c + d ≤ 12)) || decide (a * b * c * d ≤ 81))))) = true := by decide +kernel
theorem four_b {a b c d : Nat} (ha : 1 ≤ a) (hb : 1 ≤ b) (hc : 1 ≤ c) (hd : 1 ≤ d) (h : a + b + c + d ≤ 12) : a * b * c * d ≤ 81 := by
  have h1 := List.all_eq_true.mp (List.all_eq_true.mp (List.all_eq_true.mp (List.all_eq_true.mp four_t a (List.mem_range.mpr (by omega))) b (List.mem_range.mpr (by omega))) c (List.mem_range.mpr (by omega))) d (List.mem_range.mpr (by omega))
  rw [decide_eq_true ha, decide_eq_true hb, decide_eq_true hc, decide_eq_true hd, decide_eq_true h] at h1
  exact of_decide_eq_true (by simpa using h1)
theorem cyc_le {k len : Int} (h : 2 ≤ len) : cyc k len ≤ 2 * (len - 1) := by unfold cyc; split <;> omega
theorem rnd_le {σ : St} (hO : okR σ) {j : Int} (h0 : 0 ≤ j) (hj : j < σ.rn) : rnd σ j ≤ 18 * (σ.L j - 1) := by
  have h := hO.2 j h0 hj
  have hc := cyc_le (k := σ.K j) (len := σ.L j) h.1.2.1
  have hb := cyc_b (k := σ.K j) (len := σ.L j) ⟨h.1.2.1, by omega⟩
  unfold rnd
  have h2 : σ.S j * cyc (σ.K j) (σ.L j) ≤ 9 * cyc (σ.K j) (σ.L j) := Int.mul_le_mul_of_nonneg_right h.2.1.2 (by omega)
  omega
theorem prd_3 {σ : St} (hO : okR σ) : ∀ k : Int, 0 ≤ k → k ≤ σ.rn → k ≤ 3 → 1 ≤ prdI σ k ∧ prdI σ k ≤ 19683000 ∧ (k ≤ 2 → prdI σ k ≤ 72900) ∧ (k ≤ 1 → prdI σ k ≤ 270) := by
  have h0 : prdI σ 0 = 1 := rfl
  intro k hk0 hkn hk3
  have st : ∀ j : Int, 0 ≤ j → j < σ.rn → ∀ B : Int, 1 ≤ prdI σ j → prdI σ j ≤ B → 1 ≤ prdI σ (j + 1) ∧ prdI σ (j + 1) ≤ B * 270 := by
    intro j j0 jn B b1 b2
    rw [prdI_s j0]
    have hr := rnd_b hO j0 jn
    have hl := lcI_b (a := prdI σ j) (b := rnd σ j) b1 (by omega)
    have m1 : prdI σ j * rnd σ j ≤ B * rnd σ j := Int.mul_le_mul_of_nonneg_right b2 (by omega)
    have m2 : B * rnd σ j ≤ B * 270 := Int.mul_le_mul_of_nonneg_left hr.2 (by omega)
    omega
  rcases (show k = 0 ∨ k = 1 ∨ k = 2 ∨ k = 3 by omega) with rfl | rfl | rfl | rfl
  · rw [h0]; omega
  · have a := st 0 (by omega) (by omega) 1 (by omega) (by omega)
    rw [show (0 : Int) + 1 = 1 from rfl] at a; omega
  · have a := st 0 (by omega) (by omega) 1 (by omega) (by omega)
    rw [show (0 : Int) + 1 = 1 from rfl] at a
    have b := st 1 (by omega) (by omega) 270 (by omega) (by omega)
    rw [show (1 : Int) + 1 = 2 from rfl] at b; omega
  · have a := st 0 (by omega) (by omega) 1 (by omega) (by omega)
    rw [show (0 : Int) + 1 = 1 from rfl] at a
    have b := st 1 (by omega) (by omega) 270 (by omega) (by omega)
    rw [show (1 : Int) + 1 = 2 from rfl] at b
    have c := st 2 (by omega) (by omega) 72900 (by omega) (by omega)
    rw [show (2 : Int) + 1 = 3 from rfl] at c; omega
theorem prd_m {σ : St} (hO : okR σ) {j : Int} (j0 : 0 ≤ j) (jn : j < σ.rn) (h : 1 ≤ prdI σ j) : 1 ≤ prdI σ (j + 1) ∧ prdI σ (j + 1) ≤ prdI σ j * rnd σ j := by
  rw [prdI_s j0]
  exact lcI_b h (by have := rnd_b hO j0 jn; omega)
theorem prd_4 {σ : St} (hO : okR σ) (hD : okD σ) (h4 : σ.rn = 4) : prdI σ 3 * rnd σ 3 ≤ 8503056 := by
  have l0 := hO.2 0 (by omega) (by omega)
  have l1 := hO.2 1 (by omega) (by omega)
  have l2 := hO.2 2 (by omega) (by omega)
  have l3 := hO.2 3 (by omega) (by omega)
  have d01 := hD 0 1 (by omega) (by omega) (by omega)
  have d02 := hD 0 2 (by omega) (by omega) (by omega)
  have d03 := hD 0 3 (by omega) (by omega) (by omega)
  have d12 := hD 1 2 (by omega) (by omega) (by omega)
  have d13 := hD 1 3 (by omega) (by omega) (by omega)
  have d23 := hD 2 3 (by omega) (by omega) (by omega)
  have hs : σ.L 0 + σ.L 1 + σ.L 2 + σ.L 3 ≤ 16 := by omega
  have r0 := rnd_le hO (j := 0) (by omega) (by omega)
  have r1 := rnd_le hO (j := 1) (by omega) (by omega)
  have r2 := rnd_le hO (j := 2) (by omega) (by omega)
  have r3 := rnd_le hO (j := 3) (by omega) (by omega)
  have b0 := rnd_b hO (j := 0) (by omega) (by omega)
  have b1 := rnd_b hO (j := 1) (by omega) (by omega)
  have b2 := rnd_b hO (j := 2) (by omega) (by omega)
  have b3 := rnd_b hO (j := 3) (by omega) (by omega)
  have p1 := prd_m hO (j := 0) (by omega) (by omega) (show 1 ≤ prdI σ 0 from Int.le_refl _)
  have p2 := prd_m hO (j := 1) (by omega) (by omega) (by exact p1.1)
  have p3 := prd_m hO (j := 2) (by omega) (by omega) (by exact p2.1)
  rw [show prdI σ 0 = 1 from rfl] at p1
  rw [show (0 : Int) + 1 = 1 from rfl] at p1
  rw [show (1 : Int) + 1 = 2 from rfl] at p2
  rw [show (2 : Int) + 1 = 3 from rfl] at p3
  generalize prdI σ 1 = P1 at *
  generalize prdI σ 2 = P2 at *
  generalize prdI σ 3 = P3 at *
  generalize rnd σ 0 = R0 at *
  generalize rnd σ 1 = R1 at *
  generalize rnd σ 2 = R2 at *
  generalize rnd σ 3 = R3 at *
  obtain ⟨x0, e0⟩ : ∃ x : Nat, σ.L 0 - 1 = x := ⟨(σ.L 0 - 1).toNat, by omega⟩
  obtain ⟨x1, e1⟩ : ∃ x : Nat, σ.L 1 - 1 = x := ⟨(σ.L 1 - 1).toNat, by omega⟩
  obtain ⟨x2, e2⟩ : ∃ x : Nat, σ.L 2 - 1 = x := ⟨(σ.L 2 - 1).toNat, by omega⟩
  obtain ⟨x3, e3⟩ : ∃ x : Nat, σ.L 3 - 1 = x := ⟨(σ.L 3 - 1).toNat, by omega⟩
  rw [e0] at r0; rw [e1] at r1; rw [e2] at r2; rw [e3] at r3
  have hx := four_b (a := x0) (b := x1) (c := x2) (d := x3) (by omega) (by omega) (by omega) (by omega) (by omega)
  have hx' : ((x0 : Int) * x1 * x2 * x3) ≤ 81 := by exact_mod_cast hx
  have m : ∀ {a b c d : Int}, 0 ≤ b → 0 ≤ c → a ≤ c → b ≤ d → a * b ≤ c * d := fun {a b c d} hb hc h1 h2 => Int.mul_le_mul h1 h2 hb hc
  have q1 : P1 ≤ 18 * x0 := by omega
  have q2 : P2 ≤ (18 * x0) * (18 * x1) := Int.le_trans p2.2 (m (by omega) (by omega) q1 r1)
  have n2 : (0 : Int) ≤ (18 * x0) * (18 * x1) := Int.mul_nonneg (by omega) (by omega)
  have q3 : P3 ≤ (18 * x0) * (18 * x1) * (18 * x2) := Int.le_trans p3.2 (m (by omega) n2 q2 r2)
  have n3 : (0 : Int) ≤ (18 * x0) * (18 * x1) * (18 * x2) := Int.mul_nonneg n2 (by omega)
  have q4 : P3 * R3 ≤ (18 * x0) * (18 * x1) * (18 * x2) * (18 * x3) := m (by omega) n3 q3 r3
  have e : ((18 : Int) * x0) * (18 * x1) * (18 * x2) * (18 * x3) = 104976 * ((x0 : Int) * x1 * x2 * x3) := by
    simp only [Int.mul_assoc, Int.mul_left_comm, Int.mul_comm]
    simp only [← Int.mul_assoc]
    omega
  omega
theorem per_b {σ : St} (hO : okR σ) (hD : okD σ) : ∀ k : Int, 0 ≤ k → k ≤ σ.rn → 1 ≤ prdI σ k ∧ prdI σ k ≤ 19683000 := by
  intro k h0 hk
  by_cases q : k ≤ 3
  · have := prd_3 hO k h0 hk q; omega
  · have h4 : σ.rn = 4 := by have := hO.1; omega
    have hk4 : k = 3 + 1 := by have := hO.1; omega
    have h3 := prd_3 hO 3 (by omega) (by omega) (by omega)
    have := prd_m hO (j := 3) (by omega) (by omega) h3.1
    have := prd_4 hO hD h4
    rw [hk4]; omega
theorem per_xy {σ : St} (hO : okR σ) (hD : okD σ) {k : Int} (h0 : 0 ≤ k) (hk : k < σ.rn) : prdI σ k * rnd σ k ≤ 19683000 := by
  by_cases q : k = 3
  · rw [q]; have := prd_4 hO hD (by have := hO.1; omega); omega
  · have h3 := prd_3 hO k h0 (by omega) (by have := hO.1; omega)
    have hr := rnd_b hO h0 hk
    have h4 := h3.2.2.1 (by have := hO.1; omega)
    have m1 : prdI σ k * rnd σ k ≤ 72900 * rnd σ k := Int.mul_le_mul_of_nonneg_right h4 (by omega)
    omega
theorem rgOf_b (σ : St) (e : Int) : -1 ≤ rgOf σ e ∧ rgOf σ e ≤ 3 := by
  rcases rgOf_cases σ e with h | h <;> omega
def fndB (σ : St) (e : Int) (C : Int32) (f t : Int) : Bool := decide (shw σ e (f + t) = C)
def fnd (σ : St) (e : Int) (C : Int32) (f : Int) : Int := if fstI (fndB σ e C f) (rndE σ e) = -1 then -1 else f + fstI (fndB σ e C f) (rndE σ e)
def metB (σ : St) (x : Int) (C : Int32) (y : Int) (D : Int32) (f t : Int) : Bool := decide (shw σ x (f + t) = C) && decide (shw σ y (f + t) = D)
def mt (σ : St) (x : Int) (C : Int32) (y : Int) (D : Int32) (f : Int) : Int := fstI (metB σ x C y D f) (lcI (rndE σ x) (rndE σ y))
def crB (σ : St) (w e : Int) : Bool := decide (shw σ e (w + per σ) = shw σ e w)
def sbB (σ : St) (w e : Int) : Bool := !(stl σ e) || decide (shw σ e w = σ.B e)
def taB (σ : St) (w e o : Int) : Bool := !(twnC σ e o) || decide (shw σ e w = shw σ o w)
def raB (σ : St) (e : Int) : Bool := decide (cntI (fun j => rgIn σ j e) 4 ≤ 1)
def frB (σ : St) (f t e : Int) : Bool := !(decide (f ≤ e) && decide (e ≤ t) && decide (¬ rgOf σ e = -1))
/-! the class's cells: a 0 the object, a 1 its palette, 2 base, 3 rangeOf, 4 ranges, 5 dots, 6 uses, 7 kept, 8 + j the ranges -/
def rgA (σ : St) (a : Nat → Nat) (j : Int) : Option Nat := if 0 ≤ j ∧ j < σ.rn then some (a (8 + j.toNat)) else none
def cRng (q : Nat) (f len sp k : Int) : Nat × va_E := (q, .inr (5, [.int (zI f), .int (zI len), .int (zI sp), .int (zI k), .int (zI (cyc k len))]))
def hRng (G : zG) (q : Nat) (f len sp k : Int) (H : Heap) : Prop := va_at G.1 vwCl (cRng q f len sp k) H
def hPal (G : zG) (σ : St) (a : Nat → Nat) (H : Heap) : Prop :=
  va_at G.1 vwCl (a 1, .inr (4, [.ref (a 2), .ref (a 3), .ref (a 4), .int (zI σ.rn)])) H ∧
  va_at G.1 vwCl (a 2, .inl (G.2 0, 16, .inl (zA σ.B))) H ∧
  va_at G.1 vwCl (a 3, .inl (G.2 0, 16, .inl (zB (rgOf σ)))) H ∧
  va_at G.1 vwCl (a 4, .inl (G.2 1, 4, .inr (.inr (.inr (.inr (zC (rgA σ a))))))) H ∧
  (∀ j : Int, 0 ≤ j → j < σ.rn → hRng G (a (8 + j.toNat)) (σ.F j) (σ.L j) (σ.S j) (σ.K j) H) ∧ okR σ
def factR (f len sp k wh w : Int) : Int32 := if wh = 0 then zI f else if wh = 1 then zI len else if wh = 2 then zI sp else if wh = 3 then zI k else if wh = 4 then zI (shiftR k len sp w) else zI (sp * cyc k len)
def rF (σ : St) (j wh : Int) : Int32 := factR (σ.F j) (σ.L j) (σ.S j) (σ.K j) wh σ.tk
/-- a checksum goes on over n values -/
def mixF (g : Int → Int64 → Int64) (d : Int64) : Nat → Int64
  | 0 => d
  | n + 1 => g n (mixF g d n)
def mixI (g : Int → Int64 → Int64) (d : Int64) (k : Int) : Int64 := mixF g d k.toNat
theorem mixI_s {g : Int → Int64 → Int64} {d : Int64} {k : Int} (h : 0 ≤ k) : mixI g d (k + 1) = g k (mixI g d k) := by
  unfold mixI; rw [show (k + 1).toNat = k.toNat + 1 by omega, mixF, Int.toNat_of_nonneg h]
def mix1 (g : Int → Int32) : Int → Int64 → Int64 := fun i d => d * 31 + (g i).toInt64
/-! ===== the reference's cells: b 0 the object, 1 bases, 2 dots, 3 the list of ranges, 4 the list of kept ones, 5 and 6 their rows, 8 + j the ranges, 16 + j the kept ones ===== -/
def r4 (f len sp k : Int) (i : Int) : Int := if i = 0 then f else if i = 1 then len else if i = 2 then sp else k
def hR4 (G : zG) (q : Nat) (f len sp k : Int) (H : Heap) : Prop := va_at G.1 vwCl (q, .inl (G.2 0, 4, .inl (zB (r4 f len sp k)))) H
def hAL (G : zG) (q ed : Nat) (mc : Int32) (n : Int) (H : Heap) : Prop := va_at G.1 vwCl (q, .inr (3, [.int mc, .ref ed, .int (zI n)])) H
def hEd (G : zG) (ed : Nat) (els : Int → Option Nat) (H : Heap) : Prop := va_at G.1 vwCl (ed, .inl (G.2 2, 10, .inr (.inr (.inr (.inr (zC els)))))) H
def elR (σ : St) (b : Nat → Nat) (j : Int) : Option Nat := if 0 ≤ j ∧ j < σ.rn then some (b (8 + j.toNat)) else none
def elK (σ : St) (b : Nat → Nat) (j : Int) : Option Nat := if 0 ≤ j ∧ j < σ.kn then some (b (16 + j.toNat)) else none
/-- what stands in the lists and the rows, for readers; th, mc: numbers that no reader asks for -/
def hMod (G : zG) (σ : St) (b : Nat → Nat) (th m1 m2 : Int32) (H : Heap) : Prop :=
  va_at G.1 vwCl (b 0, .inr (8, [.int th, .int (zI σ.tk), .int σ.rf, .int (zI σ.lim), .ref (b 1), .ref (b 2), .ref (b 3), .ref (b 4)])) H ∧
  va_at G.1 vwCl (b 1, .inl (G.2 0, 16, .inl (zA σ.B))) H ∧
  va_at G.1 vwCl (b 2, .inl (G.2 0, 32, .inl (zB σ.Dt))) H ∧
  hAL G (b 3) (b 5) m1 σ.rn H ∧ hAL G (b 4) (b 6) m2 σ.kn H ∧
  (0 < σ.rn → hEd G (b 5) (elR σ b) H) ∧ (0 < σ.kn → hEd G (b 6) (elK σ b) H) ∧
  (∀ j : Int, 0 ≤ j → j < σ.rn → hR4 G (b (8 + j.toNat)) (σ.F j) (σ.L j) (σ.S j) (σ.K j) H) ∧
  (∀ j : Int, 0 ≤ j → j < σ.kn → va_at G.1 vwCl (b (16 + j.toNat), .inl (G.2 0, 32, .inl (zA (σ.KP j)))) H) ∧ okR σ
theorem rgOf_first {σ : St} (hr : σ.rn ≤ 4) {e k : Int} (h0 : 0 ≤ k) (hk : k < σ.rn) (hb : ∀ t : Int, 0 ≤ t → t < k → rgIn σ t e = false) (h : rgIn σ k e = true) : rgOf σ e = k := by
  unfold rgOf
  rcases (show k = 0 ∨ k = 1 ∨ k = 2 ∨ k = 3 by omega) with rfl | rfl | rfl | rfl
  · rw [if_pos h]
  · rw [if_neg (by rw [hb 0 (by omega) (by omega)]; decide), if_pos h]
  · rw [if_neg (by rw [hb 0 (by omega) (by omega)]; decide), if_neg (by rw [hb 1 (by omega) (by omega)]; decide), if_pos h]
  · rw [if_neg (by rw [hb 0 (by omega) (by omega)]; decide), if_neg (by rw [hb 1 (by omega) (by omega)]; decide), if_neg (by rw [hb 2 (by omega) (by omega)]; decide), if_pos h]
theorem rgOf_none {σ : St} {e : Int} (hb : ∀ t : Int, 0 ≤ t → t < σ.rn → rgIn σ t e = false) : rgOf σ e = -1 := by
  have h : ∀ t : Int, 0 ≤ t → rgIn σ t e = false := fun t h0 => by
    by_cases q : t < σ.rn
    · exact hb t h0 q
    · simp [rgIn, q]
  unfold rgOf
  rw [if_neg (by rw [h 0 (by omega)]; decide), if_neg (by rw [h 1 (by omega)]; decide), if_neg (by rw [h 2 (by omega)]; decide), if_neg (by rw [h 3 (by omega)]; decide)]
theorem srcR_mod {f len sh e : Int} (h1 : f ≤ e ∧ e < f + len) (h2 : 0 ≤ sh ∧ sh < len) : f + (e - f - sh + len) % len = srcR f len sh e := by
  unfold srcR
  by_cases q : e - f - sh < 0
  · rw [if_pos q, Int.emod_eq_of_lt (by omega) (by omega)]; omega
  · rw [if_neg q, Int.add_emod_right, Int.emod_eq_of_lt (by omega) (by omega)]
def stlM (σ : St) (e : Int) : Bool := allI (fun t => decide (shw σ e t = shw σ e 0)) (rndE σ e)
def twnM (σ : St) (x y : Int) : Bool := allI (twnB σ x y) (lcI (rndE σ x) (rndE σ y))
/-! the class itself -/
def usz (σ : St) (e : Int) : Int := cntI (fun d => decide (σ.Dt d = e)) 32
def kpz (σ : St) (i : Int) : Int32 := σ.KP (i / 32) (i % 32)
def okB (σ : St) : Prop := ∀ e : Int, 0 ≤ e → e < 16 → ∃ b : Int, (0 ≤ b ∧ b < 64) ∧ σ.B e = zI b
def okC (σ : St) : Prop := (0 ≤ σ.tk ∧ σ.tk ≤ 99999) ∧ (∀ d : Int, 0 ≤ d → d < 32 → 0 ≤ σ.Dt d ∧ σ.Dt d < 16) ∧ (0 ≤ σ.lim ∧ σ.lim ≤ 32) ∧ (0 ≤ σ.kn ∧ σ.kn ≤ 5) ∧ okD σ ∧ okB σ
def hCyc (G : zG) (σ : St) (a : Nat → Nat) (H : Heap) : Prop :=
  va_at G.1 vwCl (a 0, .inr (6, [.ref (a 1), .ref (a 5), .ref (a 6), .ref (a 7), .int (zI σ.kn), .int (zI σ.tk), .int (zI σ.lim), .int σ.rf])) H ∧
  va_at G.1 vwCl (a 5, .inl (G.2 0, 32, .inl (zB σ.Dt))) H ∧
  va_at G.1 vwCl (a 6, .inl (G.2 0, 16, .inl (zB (usz σ)))) H ∧
  va_at G.1 vwCl (a 7, .inl (G.2 0, 160, .inl (zA (kpz σ)))) H ∧ hPal G σ a H ∧ okC σ
theorem usz_b (σ : St) (e : Int) : 0 ≤ usz σ e ∧ usz σ e ≤ 32 := cntI_b _ (by omega)
def lgt (C : Int32) : Int32 := zI 2 * (C / zI 16) + zI 3 * (C / zI 4 - C / zI 4 / zI 4 * zI 4) + (C - C / zI 4 * zI 4)
def orF (p : Int → Bool) (g : Int → Int32) : Nat → Int32
  | 0 => 0
  | n + 1 => if p n = true then orF p g n ||| g n else orF p g n
def orI (p : Int → Bool) (g : Int → Int32) (k : Int) : Int32 := orF p g k.toNat
theorem orI_s {p : Int → Bool} {g : Int → Int32} {k : Int} (h : 0 ≤ k) : orI p g (k + 1) = if p k = true then orI p g k ||| g k else orI p g k := by
  unfold orI; rw [show (k + 1).toNat = k.toNat + 1 by omega, orF, Int.toNat_of_nonneg h]
def orLF (p : Int → Bool) (g : Int → Int64) : Nat → Int64
  | 0 => 0
  | n + 1 => if p n = true then orLF p g n ||| g n else orLF p g n
def orL (p : Int → Bool) (g : Int → Int64) (k : Int) : Int64 := orLF p g k.toNat
theorem orL_s {p : Int → Bool} {g : Int → Int64} {k : Int} (h : 0 ≤ k) : orL p g (k + 1) = if p k = true then orL p g k ||| g k else orL p g k := by
  unfold orL; rw [show (k + 1).toNat = k.toNat + 1 by omega, orLF, Int.toNat_of_nonneg h]
def smF (g : Int → Int32) : Nat → Int32
  | 0 => 0
  | n + 1 => smF g n + g n
def smI (g : Int → Int32) (k : Int) : Int32 := smF g k.toNat
theorem smI_s {g : Int → Int32} {k : Int} (h : 0 ≤ k) : smI g (k + 1) = smI g k + g k := by
  unfold smI; rw [show (k + 1).toNat = k.toNat + 1 by omega, smF, Int.toNat_of_nonneg h]
def szF (g : Int → Int) : Nat → Int
  | 0 => 0
  | n + 1 => szF g n + g n
def szI (g : Int → Int) (k : Int) : Int := szF g k.toNat
theorem szI_s {g : Int → Int} {k : Int} (h : 0 ≤ k) : szI g (k + 1) = szI g k + g k := by
  unfold szI; rw [show (k + 1).toNat = k.toNat + 1 by omega, szF, Int.toNat_of_nonneg h]
theorem szF_b {g : Int → Int} {B : Int} (h : ∀ t : Int, 0 ≤ g t ∧ g t ≤ B) : ∀ n : Nat, 0 ≤ szF g n ∧ szF g n ≤ n * B
  | 0 => ⟨Int.le_refl _, by rw [show szF g 0 = 0 from rfl]; omega⟩
  | n + 1 => by
    have h1 := szF_b h n
    have h2 := h n
    rw [szF, show (((n + 1 : Nat) : Int)) * B = n * B + B by rw [Int.natCast_add, Int.add_mul]; omega]
    omega
theorem szI_b {g : Int → Int} {B k : Int} (h : ∀ t : Int, 0 ≤ g t ∧ g t ≤ B) (hk : 0 ≤ k) : 0 ≤ szI g k ∧ szI g k ≤ k * B := by
  have := szF_b h k.toNat
  rw [Int.toNat_of_nonneg hk] at this
  exact this
def mxF (g : Int → Int32) : Nat → Int32
  | 0 => 0
  | n + 1 => if mxF g n < g n then g n else mxF g n
def mxI (g : Int → Int32) (k : Int) : Int32 := mxF g k.toNat
theorem mxI_s {g : Int → Int32} {k : Int} (h : 0 ≤ k) : mxI g (k + 1) = if mxI g k < g k then g k else mxI g k := by
  unfold mxI; rw [show (k + 1).toNat = k.toNat + 1 by omega, mxF, Int.toNat_of_nonneg h]
def usB (σ : St) (e : Int) : Bool := decide (0 < usz σ e)
def ueC (σ : St) : Int := cntI (usB σ) 16
def ksC (σ : St) : Int32 := orI (usB σ) (fun e => bit1 (smlC σ e)) 16
def liC (σ : St) (w : Int) : Int32 := smI (fun e => zI (usz σ e) * lgt (shw σ e w)) 16
def rwL (σ : St) (r : Int) : Int32 := smI (fun q => lgt (shw σ (σ.Dt (r * 8 + q)) σ.tk)) 8
def mrL (σ : St) : Int32 := mxI (rwL σ) 4
def flG (σ : St) (e : Int) : Int := if 10 < chg σ e σ.tk 30 then usz σ e else 0
def flC (σ : St) : Int := szI (flG σ) 16
theorem flG_b (σ : St) (e : Int) : 0 ≤ flG σ e ∧ flG σ e ≤ 32 := by
  have := usz_b σ e; unfold flG; split <;> omega
theorem flC_b (σ : St) : 0 ≤ flC σ ∧ flC σ ≤ 512 := by
  have := szI_b (flG_b σ) (show (0 : Int) ≤ 16 by omega); unfold flC; omega
def bitL (C : Int32) : Int64 := 1 <<< (C.toInt64 &&& 63)
def csC (σ : St) : Int64 := orL (usB σ) (fun e => bitL (shw σ e σ.tk)) 16
def skB (σ : St) (n w d : Int) : Bool := decide (shw σ (σ.Dt d) w = σ.KP n d)
def sk (σ : St) (n w : Int) : Bool := allI (skB σ n w) 32
def whn (σ : St) (n : Int) : Int := fstI (fun t => sk σ n (σ.tk + t)) 401
def ltF (σ : St) : Nat → Int × Int32
  | 0 => (σ.tk, liC σ σ.tk)
  | n + 1 => if (ltF σ n).2 < liC σ (σ.tk + (n + 1)) then (σ.tk + (n + 1), liC σ (σ.tk + (n + 1))) else ltF σ n
def ltC (σ : St) (n : Int) : Int := (ltF σ (n - 1).toNat).1
def dF (σ : St) (d wh : Int) : Int32 := if wh = 0 then zI (σ.Dt d) else if wh = 1 then shw σ (σ.Dt d) σ.tk else if wh = 2 then lgt (shw σ (σ.Dt d) σ.tk) else zI (chg σ (σ.Dt d) σ.tk 30)
def eF (σ : St) (e wh : Int) : Int32 := if wh = 0 then σ.B e else if wh = 1 then shw σ e σ.tk else if wh = 2 then zI (rgOf σ e) else if wh = 3 then bI (stl σ e) else if wh = 4 then bstI (fun o => twnC σ o e) 16 else zI (usz σ e)
/-! the reference's ways -/
def smM (σ : St) (e : Int) : Int := fstI (fun o => twnM σ e o) 16
def enM (σ : St) : Int32 := orI (fun _ => true) (fun d => bit1 (σ.Dt d)) 32
def inB (σ : St) (e : Int) : Bool := decide (enM σ >>> (zI e &&& 31) &&& zI 1 = zI 1)
def ksM (σ : St) : Int32 := orI (inB σ) (fun e => bit1 (smM σ e)) 16
def fkB (σ : St) (d : Int) : Bool := decide (10 < chg σ (σ.Dt d) σ.tk 30)
def flM (σ : St) : Int := cntI (fkB σ) 32
def rwM (σ : St) (r : Int) : Int32 := smI (fun q => lgt (shw σ (σ.Dt (8 * r + q)) σ.tk)) 8
def mrM (σ : St) : Int32 := mxI (rwM σ) 4
def csM (σ : St) : Int64 := orL (fun _ => true) (fun d => bitL (shw σ (σ.Dt d) σ.tk)) 32
def eM (σ : St) (e wh : Int) : Int32 := if wh = 0 then σ.B e else if wh = 1 then shw σ e σ.tk else if wh = 2 then zI (rgOf σ e) else if wh = 3 then bI (stlM σ e) else if wh = 4 then bstI (fun o => twnM σ e o) 16 else zI (usz σ e)
def tkM (σ : St) (f u : Int) : Bool := !(allI (fun i => decide (rgOf σ (f + i) = -1)) (u - f + 1))
theorem bst_zero {p : Int → Bool} {k : Int} (h : 0 ≤ k) (q : p k = false) : bstI p (k + 1) = bstI p k ||| zI 0 := by
  rw [bstI_s h, if_neg (by rw [q]; decide), show zI 0 = 0 from rfl, Int32.or_zero]
