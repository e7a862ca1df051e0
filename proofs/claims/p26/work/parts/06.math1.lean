/-! ===== sums over entries and sums over dots ===== -/
theorem smF_add (g h : Int → Int32) : ∀ n : Nat, smF (fun e => g e + h e) n = smF g n + smF h n
  | 0 => rfl
  | n + 1 => by
    rw [smF, smF, smF, smF_add g h n]
    rw [Int32.add_assoc, Int32.add_assoc, ← Int32.add_assoc (smF h n), Int32.add_comm (smF h n) (g n), Int32.add_assoc]
theorem smF_zero : ∀ n : Nat, smF (fun _ => 0) n = 0
  | 0 => rfl
  | n + 1 => by rw [smF, smF_zero n]; rfl
theorem smF_c {g h : Int → Int32} : ∀ {n : Nat}, (∀ t : Int, 0 ≤ t → t < n → g t = h t) → smF g n = smF h n
  | 0, _ => rfl
  | n + 1, q => by rw [smF, smF, smF_c (fun t h0 h1 => q t h0 (by omega)), q n (by omega) (by omega)]
theorem smF_one (f : Int → Int32) (x : Int) : ∀ n : Nat, smF (fun e => if e = x then f e else 0) n = if 0 ≤ x ∧ x < n then f x else 0
  | 0 => by rw [if_neg (by omega)]; rfl
  | n + 1 => by
    rw [smF, smF_one f x n]
    by_cases q : (n : Int) = x
    · rw [if_pos q, if_neg (by omega), if_pos (by omega), q, Int32.zero_add]
    · rw [if_neg q, Int32.add_zero]
      by_cases r : 0 ≤ x ∧ x < n
      · rw [if_pos r, if_pos (by omega)]
      · rw [if_neg r, if_neg (by omega)]
theorem exchF {D : Int → Int} {f : Int → Int32} {m : Nat} : ∀ n : Nat, (∀ d : Int, 0 ≤ d → d < n → 0 ≤ D d ∧ D d < m) → smF (fun e => zI (cntF (fun d => decide (D d = e)) n) * f e) m = smF (fun d => f (D d)) n
  | 0, _ => (smF_c (fun t _ _ => Int32.zero_mul)).trans (smF_zero m)
  | n + 1, h => by
    have e : (fun e => zI (cntF (fun d => decide (D d = e)) (n + 1)) * f e) = (fun e => zI (cntF (fun d => decide (D d = e)) n) * f e + (if e = D n then f e else 0)) := by
      funext e
      rw [cntF, ← zI_add, Int32.add_mul]
      congr 1
      by_cases q : e = D n
      · rw [if_pos q, if_pos (by simp [q])]; exact Int32.one_mul _
      · rw [if_neg q, if_neg (by simpa using fun z => q z.symm)]; exact Int32.zero_mul
    have hn := h n (by omega) (by omega)
    rw [e, smF_add, exchF n (fun d h0 h1 => h d h0 (by omega)), smF_one, if_pos hn, smF]
theorem szF_add (g h : Int → Int) : ∀ n : Nat, szF (fun e => g e + h e) n = szF g n + szF h n
  | 0 => rfl
  | n + 1 => by rw [szF, szF, szF, szF_add g h n]; omega
theorem szF_zero : ∀ n : Nat, szF (fun _ => 0) n = 0
  | 0 => rfl
  | n + 1 => by rw [szF, szF_zero n]; rfl
theorem szF_c {g h : Int → Int} : ∀ {n : Nat}, (∀ t : Int, 0 ≤ t → t < n → g t = h t) → szF g n = szF h n
  | 0, _ => rfl
  | n + 1, q => by rw [szF, szF, szF_c (fun t h0 h1 => q t h0 (by omega)), q n (by omega) (by omega)]
theorem szF_one (f : Int → Int) (x : Int) : ∀ n : Nat, szF (fun e => if e = x then f e else 0) n = if 0 ≤ x ∧ x < n then f x else 0
  | 0 => by rw [if_neg (by omega)]; rfl
  | n + 1 => by
    rw [szF, szF_one f x n]
    by_cases q : (n : Int) = x
    · rw [if_pos q, if_neg (by omega), if_pos (by omega), q]; omega
    · rw [if_neg q]
      by_cases r : 0 ≤ x ∧ x < n
      · rw [if_pos r, if_pos (by omega)]; omega
      · rw [if_neg r, if_neg (by omega)]; omega
theorem exchZ {D : Int → Int} {f : Int → Int} {m : Nat} : ∀ n : Nat, (∀ d : Int, 0 ≤ d → d < n → 0 ≤ D d ∧ D d < m) → szF (fun e => cntF (fun d => decide (D d = e)) n * f e) m = szF (fun d => f (D d)) n
  | 0, _ => (szF_c (fun t _ _ => Int.zero_mul _)).trans (szF_zero m)
  | n + 1, h => by
    have e : (fun e => cntF (fun d => decide (D d = e)) (n + 1) * f e) = (fun e => cntF (fun d => decide (D d = e)) n * f e + (if e = D n then f e else 0)) := by
      funext e
      rw [cntF, Int.add_mul]
      congr 1
      by_cases q : e = D n
      · rw [if_pos q, if_pos (by simp [q])]; exact Int.one_mul _
      · rw [if_neg q, if_neg (by simpa using fun z => q z.symm)]; exact Int.zero_mul _
    have hn := h n (by omega) (by omega)
    rw [e, szF_add, exchZ n (fun d h0 h1 => h d h0 (by omega)), szF_one, if_pos hn, szF]
/-! light -/
def lgN (b : Nat) : Nat := 2 * (b / 16) + 3 * (b / 4 % 4) + b % 4
theorem lgt_t : (List.range 64).all (fun b => decide (lgt (zI b) = zI (lgN b)) && decide (lgN b ≤ 18)) = true := by decide +kernel
theorem lgt_b {b : Nat} (h : b < 64) : lgt (zI b) = zI (lgN b) ∧ lgN b ≤ 18 := by
  have := List.all_eq_true.mp lgt_t b (List.mem_range.mpr h)
  simpa using this
def liM (σ : St) (w : Int) : Int32 := smI (fun d => lgt (shw σ (σ.Dt d) w)) 32
theorem li_CM {σ : St} (h : ∀ d : Int, 0 ≤ d → d < 32 → 0 ≤ σ.Dt d ∧ σ.Dt d < 16) (w : Int) : liC σ w = liM σ w :=
  exchF (D := σ.Dt) (f := fun e => lgt (shw σ e w)) (m := 16) 32 (fun d h0 h1 => h d h0 (by omega))
theorem smF_le {g : Int → Int32} : ∀ n : Nat, (∀ d : Int, 0 ≤ d → d < n → ∃ b : Nat, b ≤ 18 ∧ g d = zI b) → ∃ L : Nat, L ≤ 18 * n ∧ smF g n = zI L
  | 0, _ => ⟨0, by omega, rfl⟩
  | n + 1, h => by
    obtain ⟨L, h1, h2⟩ := smF_le n (fun d h0 h1 => h d h0 (by omega))
    obtain ⟨b, h3, h4⟩ := h n (by omega) (by omega)
    exact ⟨L + b, by omega, by rw [smF, h2, h4, zI_add]; congr 1⟩
theorem liM_b {σ : St} (hO : okR σ) (hB : okB σ) (h : ∀ d : Int, 0 ≤ d → d < 32 → 0 ≤ σ.Dt d ∧ σ.Dt d < 16) {w : Int} (hw : 0 ≤ w) : ∃ L : Nat, L ≤ 576 ∧ liM σ w = zI L := by
  obtain ⟨L, h1, h2⟩ := smF_le (g := fun d => lgt (shw σ (σ.Dt d) w)) 32 (fun d h0 h1 => by
    have hs := src_b hO (w := w) (h d h0 (by omega)) hw
    obtain ⟨b, hb, he⟩ := hB _ hs.1 hs.2
    refine ⟨lgN b.toNat, (lgt_b (b := b.toNat) (by omega)).2, ?_⟩
    rw [← (lgt_b (b := b.toNat) (by omega)).1]
    show lgt (σ.B (src σ (σ.Dt d) w)) = _
    rw [he, Int.toNat_of_nonneg hb.1])
  exact ⟨L, by omega, h2⟩
/-! the mean is a number -/
def mnD (x : Int32) : UInt64 := FP.ddiv (FP.i2d x) 4629700416936869888
theorem mn_t : (List.range 577).all (fun n => decide (mnD (zI n) &&& 0x7fffffffffffffff ≤ 0x7ff0000000000000) && decide (FP.dmul 4625196817309499392 (mnD (zI n)) &&& 0x7fffffffffffffff ≤ 0x7ff0000000000000)) = true := by decide +kernel
theorem mn_b {n : Nat} (h : n ≤ 576) : vf_n64 (mnD (zI n)) ∧ vf_n64 (FP.dmul 4625196817309499392 (mnD (zI n))) := by
  have := List.all_eq_true.mp mn_t n (List.mem_range.mpr (by omega))
  rw [Bool.and_eq_true] at this
  exact ⟨by unfold vf_n64; exact of_decide_eq_true this.1, by unfold vf_n64; exact of_decide_eq_true this.2⟩
