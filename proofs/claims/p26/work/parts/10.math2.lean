/-! ===== sets as bits ===== -/
def bt (x : Int32) (i : Nat) : Bool := x.toBitVec.getLsbD i
theorem b_ext {x y : Int32} (h : ∀ i, i < 32 → bt x i = bt y i) : x = y := Int32.toBitVec_inj.mp (BitVec.eq_of_getLsbD_eq (fun i hi => h i hi))
theorem b_or (x y : Int32) (i : Nat) : bt (x ||| y) i = (bt x i || bt y i) := by unfold bt; rw [Int32.toBitVec_or, BitVec.getLsbD_or]
theorem b_and (x y : Int32) (i : Nat) : bt (x &&& y) i = (bt x i && bt y i) := by unfold bt; rw [Int32.toBitVec_and, BitVec.getLsbD_and]
theorem b_xor (x y : Int32) (i : Nat) : bt (x ^^^ y) i = (bt x i ^^ bt y i) := by unfold bt; rw [Int32.toBitVec_xor, BitVec.getLsbD_xor]
theorem b_num (n : Nat) {i : Nat} (h : i < 32) : bt (zI n) i = n.testBit i := by
  rw [← zI_nI]; unfold bt nI
  show (BitVec.ofNat 32 n).getLsbD i = n.testBit i
  rw [BitVec.getLsbD_ofNat]
  simp [h]
theorem b_m1 {i : Nat} (h : i < 32) : bt (zI (-1)) i = true := by
  have : ∀ i : Nat, i < 32 → bt (zI (-1)) i = true := by decide +kernel
  exact this i h
theorem b_one : ∀ k : Nat, k < 32 → ∀ i : Nat, i < 32 → bt (bit1 k) i = decide (i = k) := by decide +kernel
theorem b_bit1 {k : Int} (h : 0 ≤ k ∧ k < 32) {i : Nat} (hi : i < 32) : bt (bit1 k) i = decide ((i : Int) = k) := by
  have h1 := b_one k.toNat (by omega) i hi
  rw [Int.toNat_of_nonneg h.1] at h1
  rw [h1]
  by_cases q : i = k.toNat
  · rw [decide_eq_true q, decide_eq_true (by omega)]
  · rw [decide_eq_false q, decide_eq_false (by omega)]
theorem b_zero (i : Nat) : bt 0 i = false := by simp [bt]
/-- the set as a number -/
def bsN (p : Int → Bool) : Nat → Nat
  | 0 => 0
  | n + 1 => if p n = true then bsN p n + 2 ^ n else bsN p n
theorem bsN_lt (p : Int → Bool) : ∀ n : Nat, bsN p n < 2 ^ n
  | 0 => by rw [show bsN p 0 = 0 from rfl]; decide
  | n + 1 => by have := bsN_lt p n; rw [bsN, Nat.pow_succ]; split <;> omega
theorem bsN_bit (p : Int → Bool) : ∀ (n i : Nat), (bsN p n).testBit i = (decide (i < n) && p i)
  | 0, i => by simp [bsN]
  | n + 1, i => by
    have ih := bsN_bit p n i
    have hl := bsN_lt p n
    rw [bsN]
    by_cases q : p n = true
    · rw [if_pos q, Nat.add_comm, show 2 ^ n + bsN p n = 2 ^ n * 1 + bsN p n by rw [Nat.mul_one], Nat.testBit_two_pow_mul_add 1 hl]
      by_cases r : i < n
      · rw [if_pos r, ih, decide_eq_true r, decide_eq_true (show i < n + 1 by omega)]
      · rw [if_neg r]
        by_cases s : i = n
        · subst s; simp [q]
        · rw [show (1 : Nat) = 2 ^ 0 from rfl, Nat.testBit_two_pow, decide_eq_false (show ¬ 0 = i - n by omega), decide_eq_false (show ¬ i < n + 1 by omega)]; rfl
    · rw [if_neg q, ih]
      by_cases r : i < n
      · rw [decide_eq_true r, decide_eq_true (show i < n + 1 by omega)]
      · rw [decide_eq_false r]
        by_cases s : i = n
        · subst s; simp [q]
        · rw [decide_eq_false (show ¬ i < n + 1 by omega)]
theorem b_bst (p : Int → Bool) : ∀ n : Nat, n ≤ 31 → ∀ i : Nat, i < 32 → bt (bstF p n) i = (decide (i < n) && p i)
  | 0, _, i, _ => by rw [show bstF p 0 = 0 from rfl, b_zero]; simp
  | n + 1, hn, i, hi => by
    have ih := b_bst p n (by omega) i hi
    rw [bstF]
    by_cases q : p n = true
    · rw [if_pos q, b_or, ih, b_bit1 (by omega) hi]
      by_cases s : i = n
      · subst s; simp [q]
      · rw [decide_eq_false (show ¬ (i : Int) = n by omega), Bool.or_false]
        by_cases r : i < n
        · rw [decide_eq_true r, decide_eq_true (show i < n + 1 by omega)]
        · rw [decide_eq_false r, decide_eq_false (show ¬ i < n + 1 by omega)]
    · rw [if_neg q, ih]
      by_cases s : i = n
      · subst s; simp [q]
      · by_cases r : i < n
        · rw [decide_eq_true r, decide_eq_true (show i < n + 1 by omega)]
        · rw [decide_eq_false r, decide_eq_false (show ¬ i < n + 1 by omega)]
theorem bst_num (p : Int → Bool) {n : Nat} (h : n ≤ 31) : bstF p n = zI (bsN p n) :=
  b_ext fun i hi => by rw [b_bst p n h i hi, b_num _ hi, bsN_bit]
theorem bsN_low {p : Int → Bool} {k : Nat} (hb : ∀ t : Int, 0 ≤ t → t < k → p t = false) (hk : p k = true) : ∀ n : Nat, k < n → ∃ m : Nat, bsN p n = 2 ^ (k + 1) * m + 2 ^ k
  | 0, h => absurd h (by omega)
  | n + 1, h => by
    by_cases q : n = k
    · have hz : ∀ j : Nat, j ≤ k → bsN p j = 0 := by
        intro j
        induction j with
        | zero => intro _; rfl
        | succ j ih => intro hj; rw [bsN, if_neg (by rw [hb j (by omega) (by omega)]; decide), ih (by omega)]
      refine ⟨0, ?_⟩
      rw [bsN, q, hz k (Nat.le_refl k), if_pos hk, Nat.mul_zero]
    · obtain ⟨m, hm⟩ := bsN_low hb hk n (by omega)
      rw [bsN]
      by_cases r : p n = true
      · refine ⟨m + 2 ^ (n - (k + 1)), ?_⟩
        rw [if_pos r, hm, Nat.mul_add, ← Nat.pow_add, show k + 1 + (n - (k + 1)) = n by omega]
        omega
      · exact ⟨m, by rw [if_neg r, hm]⟩
theorem bst_low {p : Int → Bool} {k n : Nat} (hb : ∀ t : Int, 0 ≤ t → t < k → p t = false) (hk : p k = true) (hkn : k < n) (hn : n ≤ 31) : (bstF p n ^^^ zI (-1)) &&& (bstF p n - zI 1) = zI (2 ^ k - 1) := by
  obtain ⟨m, hm⟩ := bsN_low hb hk n hkn
  have hp : 0 < 2 ^ k := Nat.pow_pos (by omega)
  have e1 : bstF p n - zI 1 = zI ((2 ^ (k + 1) * m + (2 ^ k - 1) : Nat)) := by
    rw [bst_num p hn, zI_sub, hm]; congr 1; omega
  have e2 : (2 : Int) ^ k - 1 = ((2 ^ k - 1 : Nat) : Int) := by
    rw [Int.natCast_sub hp]; simp
  rw [e1, e2]
  refine b_ext fun i hi => ?_
  rw [b_and, b_xor, b_m1 hi, bst_num p hn, b_num _ hi, b_num _ hi, b_num _ hi, hm, Nat.testBit_two_pow_sub_one]
  have hl1 : 2 ^ k < 2 ^ (k + 1) := by rw [Nat.pow_succ]; omega
  rw [Nat.testBit_two_pow_mul_add m hl1, Nat.testBit_two_pow_mul_add m (show 2 ^ k - 1 < 2 ^ (k + 1) by omega), Nat.testBit_two_pow_sub_one, Nat.testBit_two_pow]
  by_cases q : i < k + 1
  · rw [if_pos q, if_pos q]
    by_cases r : i < k
    · rw [decide_eq_false (show ¬ k = i by omega), decide_eq_true r]; rfl
    · rw [decide_eq_true (show k = i by omega), decide_eq_false r]; rfl
  · rw [if_neg q, if_neg q, decide_eq_false (show ¬ i < k by omega)]
    cases m.testBit (i - (k + 1)) <;> rfl
/-! what is in a set that was made by or-ing -/
theorem b_or_any {p : Int → Bool} {g : Int → Int32} {i : Nat} : ∀ n : Nat, bt (orF p g n) i = true ↔ ∃ d : Int, (0 ≤ d ∧ d < n) ∧ p d = true ∧ bt (g d) i = true
  | 0 => by rw [show orF p g 0 = 0 from rfl, b_zero]; exact ⟨fun h => by simp at h, fun ⟨d, h, _⟩ => absurd h (by omega)⟩
  | n + 1 => by
    have ih := b_or_any (p := p) (g := g) (i := i) n
    rw [orF]
    by_cases q : p n = true
    · rw [if_pos q, b_or, Bool.or_eq_true, ih]
      refine ⟨fun h => ?_, fun ⟨d, h, h1, h2⟩ => ?_⟩
      · rcases h with ⟨d, h, h1, h2⟩ | h
        · exact ⟨d, by omega, h1, h2⟩
        · exact ⟨n, by omega, q, h⟩
      · by_cases r : d = n
        · subst r; exact Or.inr h2
        · exact Or.inl ⟨d, by omega, h1, h2⟩
    · rw [if_neg q, ih]
      refine ⟨fun ⟨d, h, h1, h2⟩ => ⟨d, by omega, h1, h2⟩, fun ⟨d, h, h1, h2⟩ => ⟨d, ?_, h1, h2⟩⟩
      by_cases r : d = n
      · subst r; exact absurd h1 q
      · omega
theorem orF_eq {p p' : Int → Bool} {g g' : Int → Int32} {n n' : Nat} (h : ∀ i : Nat, i < 32 → ((∃ d : Int, (0 ≤ d ∧ d < n) ∧ p d = true ∧ bt (g d) i = true) ↔ (∃ d : Int, (0 ≤ d ∧ d < n') ∧ p' d = true ∧ bt (g' d) i = true))) : orF p g n = orF p' g' n' :=
  b_ext fun i hi => by
    have := (b_or_any (p := p) (g := g) (i := i) n).trans ((h i hi).trans (b_or_any (p := p') (g := g') (i := i) n').symm)
    cases h1 : bt (orF p g n) i <;> cases h2 : bt (orF p' g' n') i <;> simp_all
theorem cnt_pos {f : Int → Bool} : ∀ {n : Nat}, 0 < cntF f n ↔ ∃ d : Int, (0 ≤ d ∧ d < n) ∧ f d = true
  | 0 => ⟨fun h => absurd h (by rw [show cntF f 0 = 0 from rfl]; omega), fun ⟨d, h, _⟩ => absurd h (by omega)⟩
  | n + 1 => by
    have ih := cnt_pos (f := f) (n := n)
    have hb := cntF_b f n
    rw [cntF]
    by_cases q : f n = true
    · rw [if_pos q]; exact ⟨fun _ => ⟨n, by omega, q⟩, fun _ => by omega⟩
    · rw [if_neg q, Int.add_zero, ih]
      refine ⟨fun ⟨d, h, h1⟩ => ⟨d, by omega, h1⟩, fun ⟨d, h, h1⟩ => ⟨d, ?_, h1⟩⟩
      by_cases r : d = n
      · subst r; exact absurd h1 q
      · omega
theorem us_iff {σ : St} {e : Int} : usB σ e = true ↔ ∃ d : Int, (0 ≤ d ∧ d < 32) ∧ σ.Dt d = e := by
  unfold usB usz cntI
  rw [decide_eq_true_iff, cnt_pos]
  simp
theorem b_shr : ∀ e : Nat, e < 16 → ∀ x : Int32, (x >>> (zI e &&& 31) &&& zI 1 = zI 1) ↔ bt x e = true := by
  intro e he x
  have h1 : ((zI e &&& 31).toBitVec.smod 32).toNat = e := by
    have : ∀ e : Nat, e < 16 → ((zI e &&& 31).toBitVec.smod 32).toNat = e := by decide +kernel
    exact this e he
  have h2 : ∀ i : Nat, i < 32 → bt (x >>> (zI e &&& 31)) i = if e + i < 32 then bt x (e + i) else bt x 31 := by
    intro i hi
    unfold bt
    rw [Int32.toBitVec_shiftRight, show (zI e &&& 31).toBitVec.smod 32 = BitVec.ofNat 32 e from BitVec.eq_of_toNat_eq (by rw [h1, BitVec.toNat_ofNat]; omega), BitVec.sshiftRight_eq', BitVec.getLsbD_sshiftRight]
    rw [show (BitVec.ofNat 32 e).toNat = e by rw [BitVec.toNat_ofNat]; omega, BitVec.msb_eq_getLsbD_last]
    by_cases q : e + i < 32
    · simp [q, hi]
    · simp [q, hi]
  constructor
  · intro h
    have : bt (x >>> (zI e &&& 31) &&& zI 1) 0 = bt (zI 1) 0 := by rw [h]
    rw [b_and, h2 0 (by omega), if_pos (by omega), show bt (zI 1) 0 = true from by decide] at this
    simpa using this
  · intro h
    refine b_ext fun i hi => ?_
    rw [b_and]
    by_cases q : i = 0
    · subst q; rw [h2 0 (by omega), if_pos (by omega), Nat.add_zero, h]; rfl
    · rw [show zI 1 = zI ((1 : Nat) : Int) from rfl, b_num 1 hi, show (1 : Nat) = 2 ^ 0 from rfl, Nat.testBit_two_pow, decide_eq_false (show ¬ 0 = i by omega), Bool.and_false]
theorem in_us {σ : St} (h : ∀ d : Int, 0 ≤ d → d < 32 → 0 ≤ σ.Dt d ∧ σ.Dt d < 16) {e : Int} (he : 0 ≤ e ∧ e < 16) : inB σ e = usB σ e := by
  have h1 : inB σ e = true ↔ usB σ e = true := by
    unfold inB
    rw [decide_eq_true_iff, us_iff]
    have hs := b_shr e.toNat (by omega) (enM σ)
    rw [Int.toNat_of_nonneg he.1] at hs
    rw [hs]
    unfold enM orI
    rw [b_or_any]
    refine ⟨fun ⟨d, h0, _, h2⟩ => ⟨d, by omega, ?_⟩, fun ⟨d, h0, h2⟩ => ⟨d, by omega, rfl, ?_⟩⟩
    · have hd := h d (by omega) (by omega)
      rw [b_bit1 (by omega) (by omega), decide_eq_true_iff] at h2
      omega
    · have hd := h d (by omega) (by omega)
      rw [b_bit1 (by omega) (by omega), decide_eq_true_iff]
      omega
  cases q1 : inB σ e <;> cases q2 : usB σ e <;> simp_all
theorem fstF_cases (f : Int → Bool) : ∀ n : Nat, (fstF f n = -1 ∧ ∀ t : Int, 0 ≤ t → t < n → f t = false) ∨ ((0 ≤ fstF f n ∧ fstF f n < n) ∧ f (fstF f n) = true ∧ ∀ t : Int, 0 ≤ t → t < fstF f n → f t = false)
  | 0 => Or.inl ⟨rfl, fun t h0 h1 => absurd h1 (by omega)⟩
  | n + 1 => by
    rcases fstF_cases f n with ⟨h1, h2⟩ | ⟨h1, h2, h3⟩
    · cases q : f n
      · exact Or.inl ⟨by rw [fstF, h1, if_neg (by omega), if_neg (by rw [q]; decide)], lt_stp h2 q⟩
      · have e : fstF f (n + 1) = n := by rw [fstF, h1, if_neg (by omega), if_pos q]
        rw [e]
        exact Or.inr ⟨by omega, q, h2⟩
    · have e : fstF f (n + 1) = fstF f n := by rw [fstF, if_pos h1.1]
      rw [e]
      exact Or.inr ⟨by omega, h2, h3⟩
theorem twnM_rf (σ : St) (e : Int) : twnM σ e e = true := allI_iff.mpr (fun t _ _ => by unfold twnB; simp)
theorem smM_ok (σ : St) {e : Int} (he : 0 ≤ e ∧ e < 16) : (0 ≤ smM σ e ∧ smM σ e ≤ 15) ∧ (bstI (fun o => twnM σ e o) 16 ^^^ zI (-1)) &&& (bstI (fun o => twnM σ e o) 16 - zI 1) = zI (2 ^ (smM σ e).toNat - 1) := by
  rcases fstF_cases (fun o => twnM σ e o) 16 with ⟨_, h2⟩ | ⟨h1, h2, h3⟩
  · exact absurd (h2 e he.1 (by omega)) (by rw [twnM_rf]; decide)
  · have e1 : smM σ e = fstF (fun o => twnM σ e o) 16 := rfl
    rw [← e1] at h1 h2 h3
    refine ⟨by omega, ?_⟩
    have h4 := bst_low (p := fun o => twnM σ e o) (k := (smM σ e).toNat) (n := 16) (fun t h0 ht => h3 t h0 (by omega)) (by rw [Int.toNat_of_nonneg h1.1]; exact h2) (by omega) (by omega)
    exact h4
