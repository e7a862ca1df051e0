def St0 : St := (0, 8, zI 0, fun e => zI e, fun _ => 0, 0, fun _ => 0, fun _ => 0, fun _ => 0, fun _ => 0, 0, fun _ _ => 0)
def bsU (k : Int) : Int → Int32 := fun i => if 0 ≤ i ∧ i < k then zI i else 0
theorem bsU_0 : bsU 0 = fun _ => 0 := by funext i; unfold bsU; rw [if_neg (by omega)]
theorem bsU_s {k : Int} (h : 0 ≤ k) : up (bsU k) k (zI k) = bsU (k + 1) := by
  funext i; unfold up bsU
  by_cases q : i = k
  · rw [if_pos q, if_pos (by omega), q]
  · rw [if_neg q]
    by_cases r : 0 ≤ i ∧ i < k
    · rw [if_pos r, if_pos (by omega)]
    · rw [if_neg r, if_neg (by omega)]
theorem okR_0 : okR St0 := ⟨⟨Int.le_refl _, by decide⟩, fun j h0 h1 => absurd h1 (by show ¬ j < 0; omega)⟩
def newB (q n1 n2 n3 n4 e : Nat) : Nat → Nat := fun i => if i = 0 then q else if i = 1 then n1 else if i = 2 then n2 else if i = 3 then n3 else if i = 4 then n4 else e
theorem mL_0 {i : Nat} (h : mL St0 i) : i < 5 := by
  rcases h with h | ⟨-, h⟩ | ⟨-, h⟩ | ⟨h1, h⟩ | ⟨h1, h⟩
  · exact h
  · exact absurd h (by decide)
  · exact absurd h (by decide)
  · have h2 : (i : Int) < 8 + 0 := h; omega
  · have h2 : (i : Int) < 16 + 0 := h; omega
theorem inj_new {q n1 n2 n3 n4 e : Nat} (h1 : q < n1) (h2 : n1 < n2) (h3 : n2 < n3) (h4 : n3 < n4) : inj (newB q n1 n2 n3 n4 e) (mL St0) := by
  intro i j hi hj z
  have a := mL_0 hi
  have c := mL_0 hj
  rcases (show i = 0 ∨ i = 1 ∨ i = 2 ∨ i = 3 ∨ i = 4 by omega) with rfl | rfl | rfl | rfl | rfl <;> rcases (show j = 0 ∨ j = 1 ∨ j = 2 ∨ j = 3 ∨ j = 4 by omega) with rfl | rfl | rfl | rfl | rfl <;> simp [newB] at z ⊢ <;> omega
theorem dX4_init_0 : decode cX4_init 0 = .ok (.aload_n 0, 1) := by decide +kernel
theorem dX4_init_1 : decode cX4_init 1 = .ok (.invokespecial 1, 3) := by decide +kernel
theorem dX4_init_4 : decode cX4_init 4 = .ok (.aload_n 0, 1) := by decide +kernel
theorem dX4_init_5 : decode cX4_init 5 = .ok (.bipush 8, 2) := by decide +kernel
theorem dX4_init_7 : decode cX4_init 7 = .ok (.putfield 7, 3) := by decide +kernel
theorem dX4_init_10 : decode cX4_init 10 = .ok (.aload_n 0, 1) := by decide +kernel
theorem dX4_init_11 : decode cX4_init 11 = .ok (.bipush 16, 2) := by decide +kernel
theorem dX4_init_13 : decode cX4_init 13 = .ok (.newarray .int, 2) := by decide +kernel
theorem dX4_init_15 : decode cX4_init 15 = .ok (.putfield 13, 3) := by decide +kernel
theorem dX4_init_18 : decode cX4_init 18 = .ok (.aload_n 0, 1) := by decide +kernel
theorem dX4_init_19 : decode cX4_init 19 = .ok (.bipush 32, 2) := by decide +kernel
theorem dX4_init_21 : decode cX4_init 21 = .ok (.newarray .int, 2) := by decide +kernel
theorem dX4_init_23 : decode cX4_init 23 = .ok (.putfield 17, 3) := by decide +kernel
theorem dX4_init_26 : decode cX4_init 26 = .ok (.aload_n 0, 1) := by decide +kernel
theorem dX4_init_27 : decode cX4_init 27 = .ok (.new 20, 3) := by decide +kernel
theorem dX4_init_30 : decode cX4_init 30 = .ok (.dup, 1) := by decide +kernel
theorem dX4_init_31 : decode cX4_init 31 = .ok (.invokespecial 22, 3) := by decide +kernel
theorem dX4_init_34 : decode cX4_init 34 = .ok (.putfield 23, 3) := by decide +kernel
theorem dX4_init_37 : decode cX4_init 37 = .ok (.aload_n 0, 1) := by decide +kernel
theorem dX4_init_38 : decode cX4_init 38 = .ok (.new 20, 3) := by decide +kernel
theorem dX4_init_41 : decode cX4_init 41 = .ok (.dup, 1) := by decide +kernel
theorem dX4_init_42 : decode cX4_init 42 = .ok (.invokespecial 22, 3) := by decide +kernel
theorem dX4_init_45 : decode cX4_init 45 = .ok (.putfield 27, 3) := by decide +kernel
theorem dX4_init_48 : decode cX4_init 48 = .ok (.iconst 0, 1) := by decide +kernel
theorem dX4_init_49 : decode cX4_init 49 = .ok (.istore_n 1, 1) := by decide +kernel
theorem dX4_init_50 : decode cX4_init 50 = .ok (.iload_n 1, 1) := by decide +kernel
theorem dX4_init_51 : decode cX4_init 51 = .ok (.bipush 16, 2) := by decide +kernel
theorem dX4_init_53 : decode cX4_init 53 = .ok (.if_icmp .ge 16, 3) := by decide +kernel
theorem dX4_init_56 : decode cX4_init 56 = .ok (.aload_n 0, 1) := by decide +kernel
theorem dX4_init_57 : decode cX4_init 57 = .ok (.getfield 13, 3) := by decide +kernel
theorem dX4_init_60 : decode cX4_init 60 = .ok (.iload_n 1, 1) := by decide +kernel
theorem dX4_init_61 : decode cX4_init 61 = .ok (.iload_n 1, 1) := by decide +kernel
theorem dX4_init_62 : decode cX4_init 62 = .ok (.iastore, 1) := by decide +kernel
theorem dX4_init_63 : decode cX4_init 63 = .ok (.iinc 1 1, 3) := by decide +kernel
theorem dX4_init_66 : decode cX4_init 66 = .ok (.goto (-16), 3) := by decide +kernel
theorem dX4_init_69 : decode cX4_init 69 = .ok (.return_, 1) := by decide +kernel
theorem q4_196 : (Jvm.Cond.methodLink "CyclepaintModel" (1 : Nat) ({ cls := "java/lang/Object", name := "<init>", desc := "()V" } : Jvm.MethodName)) ∈ lw_g := zg_of (zin4 (List.mem_of_getElem? (i := 196) rfl)) rfl
theorem q4_197 : (Jvm.Cond.classLink "CyclepaintModel" (20 : Nat) "java/util/ArrayList") ∈ lw_g := zg_of (zin4 (List.mem_of_getElem? (i := 197) rfl)) rfl
theorem q4_198 : (Jvm.Cond.instantiable "java/util/ArrayList" (3 : Nat)) ∈ lw_g := zg_of (zin4 (List.mem_of_getElem? (i := 198) rfl)) rfl
theorem q4_200 : (Jvm.Cond.instanceMethod ({ cls := "java/util/ArrayList", name := "<init>", desc := "()V" } : Jvm.MethodName)) ∈ lw_g := zg_of (zin4 (List.mem_of_getElem? (i := 200) rfl)) rfl
theorem q4_199 : (Jvm.Cond.methodLink "CyclepaintModel" (22 : Nat) ({ cls := "java/util/ArrayList", name := "<init>", desc := "()V" } : Jvm.MethodName)) ∈ lw_g := zg_of (zin4 (List.mem_of_getElem? (i := 199) rfl)) rfl
theorem q4_195 : (Jvm.Cond.code ({ cls := "CyclepaintModel", name := "<init>", desc := "()V" } : Jvm.MethodName) prog_6_method_1_code (2 : Nat) (Option.none : Option Jvm.ClassFile.FieldType)) ∈ lw_g := zg_of (zin4 (List.mem_of_getElem? (i := 195) rfl)) rfl
theorem ok_X4_init : zOK yX4_init cX4_init 2 ((Option.none : Option Jvm.ClassFile.FieldType)) 0 := ⟨q4_195, q1_3, by decide, by decide, by decide +kernel⟩
set_option maxHeartbeats 4000000 in
set_option maxRecDepth 100000 in
theorem c_X4_init (l : Launch) (G : zG) (q sz : Nat) (h99 : q ≥ G.2 99) : Met l yX4_init (wq yX4_init cX4_init 2 ((Option.none : Option Jvm.ClassFile.FieldType))) (rmM 4 80 4 54) (va_Pc [.ref (q)] (zK G (fun H => va_at G.1 vwCl (q, .inr (8, [.int 0, .int 0, .int 0, .int 0, .null, .null, .null, .null])) H ∧ H.size = sz ∧ zHp G H))) (zM (fun y => y = q ∨ sz ≤ y) none (fun H => ∃ b : Nat → Nat, b 0 = q ∧ hMod G St0 b (0 : Int32) (zI 0) (zI 0) H ∧ inj b (mL St0) ∧ b 5 = G.2 400 ∧ b 6 = G.2 400 ∧ (∀ i : Nat, 1 ≤ i → i < 5 → sz ≤ b i) ∧ zHp G H)) 4 54 (fun y => y = q ∨ sz ≤ y) := by
  refine z_enterMV (by decide +kernel) (Nat.le_of_ble_eq_true rfl) ?_
  intro p env s m below meth cod Q S hnm hG hP hS ret ls hl
  have hl : lv_has ls 2 [(0, .ref (q))] := hl
  have hQ := hP.1
  have hz0 := hP.2.1
  have hh := hP.2.2
  have ltq : q < sz := by rw [← hz0]; exact va_lt hQ
  refine z_aload_n S dX4_init_0 hl 0 rfl rfl ?_
  refine z_objInit S hl.1 q4_196 q1_36 (by exact q1_37) dX4_init_1 (Nat.le_of_ble_eq_true rfl) (Nat.le_of_ble_eq_true rfl) ?_
  refine z_aload_n S dX4_init_4 hl 0 rfl rfl ?_
  refine z_bipush S dX4_init_5 rfl ?_
  refine z_putR S hG hQ zc_X4 tyX4 tyX4_ok nmX4 hS (Or.inl rfl) 3 (by decide) q4_229 rfl (tyX4_ok 3 (by decide)) rfl rfl (Nat.le_of_ble_eq_true rfl) dX4_init_7 (fun H_1 L_1 hat hz oq hS => ?_)
  have hh := zHp.kept hh (fun q _ h2 => oq q (by omega))
  have hQ := hat
  refine z_aload_n S dX4_init_10 hl 0 rfl rfl ?_
  refine z_bipush S dX4_init_11 rfl ?_
  refine z_newI (N := 16) S hG (Nat.le_of_ble_eq_true rfl) q_arrI hS ⟨Nat.le_of_ble_eq_true rfl, Nat.le_of_ble_eq_true rfl⟩ dX4_init_13 (fun n1 H_2 hq_n1 hat hz oq hS => ?_)
  have lt_hQ_n1 : n1 > q := by rw [hq_n1]; exact va_lt hQ
  have hQ := va_at.kept hQ (oq _ (va_lt hQ))
  have hh := zHp.kept hh (fun q h1 _ => oq q h1)
  have h_n1 := hat
  refine z_putF S hG hQ zc_X4 tyX4 tyX4_ok nmX4 hS (Or.inl rfl) 4 (by decide) q4_230 rfl hnm rfl (tyX4_ok 4 (by decide)) rfl rfl (Nat.le_of_ble_eq_true rfl) dX4_init_15 (fun H_3 L_3 hat hz oq hS => ?_)
  have hh := zHp.kept hh (fun q _ h2 => oq q (by omega))
  have h_n1 := va_at.kept h_n1 (oq _ (show q ≠ n1 by omega).symm)
  have hQ := hat
  refine z_aload_n S dX4_init_18 hl 0 rfl rfl ?_
  refine z_bipush S dX4_init_19 rfl ?_
  refine z_newI (N := 32) S hG (Nat.le_of_ble_eq_true rfl) q_arrI hS ⟨Nat.le_of_ble_eq_true rfl, Nat.le_of_ble_eq_true rfl⟩ dX4_init_21 (fun n2 H_4 hq_n2 hat hz oq hS => ?_)
  have lt_hQ_n2 : n2 > q := by rw [hq_n2]; exact va_lt hQ
  have hQ := va_at.kept hQ (oq _ (va_lt hQ))
  have hh := zHp.kept hh (fun q h1 _ => oq q h1)
  have lt_h_n1_n2 : n2 > n1 := by rw [hq_n2]; exact va_lt h_n1
  have h_n1 := va_at.kept h_n1 (oq _ (va_lt h_n1))
  have h_n2 := hat
  refine z_putF S hG hQ zc_X4 tyX4 tyX4_ok nmX4 hS (Or.inl rfl) 5 (by decide) q4_231 rfl hnm rfl (tyX4_ok 5 (by decide)) rfl rfl (Nat.le_of_ble_eq_true rfl) dX4_init_23 (fun H_5 L_5 hat hz oq hS => ?_)
  have hh := zHp.kept hh (fun q _ h2 => oq q (by omega))
  have h_n1 := va_at.kept h_n1 (oq _ (show q ≠ n1 by omega).symm)
  have h_n2 := va_at.kept h_n2 (oq _ (show q ≠ n2 by omega).symm)
  have hQ := hat
  refine z_aload_n S dX4_init_26 hl 0 rfl rfl ?_
  refine z_newc S hG zc_Jx4a65c tyJx4a65c tyJx4a65c_ok q4_197 q4_198 q1_6 hS (fs := [.int 0, .null, .int 0]) (fun j hj => by rcases (show j = 0 ∨ j = 1 ∨ j = 2 by omega) with rfl | rfl | rfl <;> rfl) ⟨Nat.le_of_ble_eq_true rfl, Nat.le_of_ble_eq_true rfl⟩ dX4_init_27 (fun n3 H_6 hq_n3 hat hz oq hS => ?_)
  have lt_hQ_n3 : n3 > q := by rw [hq_n3]; exact va_lt hQ
  have hQ := va_at.kept hQ (oq _ (va_lt hQ))
  have hh := zHp.kept hh (fun q h1 _ => oq q h1)
  have lt_h_n1_n3 : n3 > n1 := by rw [hq_n3]; exact va_lt h_n1
  have h_n1 := va_at.kept h_n1 (oq _ (va_lt h_n1))
  have lt_h_n2_n3 : n3 > n2 := by rw [hq_n3]; exact va_lt h_n2
  have h_n2 := va_at.kept h_n2 (oq _ (va_lt h_n2))
  have h_n3 := hat
  refine z_dup S dX4_init_30 rfl ?_
  refine z_callMI S hG hS (c_alInit l G n3 (by have := hh.2.1; omega)) (fun y h => Or.inr (by have h2 : y = n3 := h; omega)) ok_Jx4a65c_init_da8c8 q4_200 rfl q4_199 (⟨h_n3, hh.1.1⟩) ⟨rfl, rfl, by decide, by decide⟩ ⟨Nat.le_of_ble_eq_true rfl, Nat.le_of_ble_eq_true rfl⟩ rfl (Nat.le_of_ble_eq_true rfl) hl.1 rfl dX4_init_31 (fun H_7 L_7 hB hz oq hS => ?_)
  have hQ := va_at.kept hQ (oq _ (va_lt hQ) (by show ¬ (_ = _); omega))
  have hh := zHp.kept hh (fun q h1 h2 => oq q h1 (by show ¬ (_ = _); omega))
  have h_n1 := va_at.kept h_n1 (oq _ (va_lt h_n1) (by show ¬ (_ = _); omega))
  have h_n2 := va_at.kept h_n2 (oq _ (va_lt h_n2) (by show ¬ (_ = _); omega))
  have h_n3 := hB
  refine z_putF S hG hQ zc_X4 tyX4 tyX4_ok nmX4 hS (Or.inl rfl) 6 (by decide) q4_232 rfl hnm rfl (tyX4_ok 6 (by decide)) rfl rfl (Nat.le_of_ble_eq_true rfl) dX4_init_34 (fun H_8 L_8 hat hz oq hS => ?_)
  have hh := zHp.kept hh (fun q _ h2 => oq q (by omega))
  have h_n1 := va_at.kept h_n1 (oq _ (show q ≠ n1 by omega).symm)
  have h_n2 := va_at.kept h_n2 (oq _ (show q ≠ n2 by omega).symm)
  have h_n3 := va_at.kept h_n3 (oq _ (show q ≠ n3 by omega).symm)
  have hQ := hat
  refine z_aload_n S dX4_init_37 hl 0 rfl rfl ?_
  refine z_newc S hG zc_Jx4a65c tyJx4a65c tyJx4a65c_ok q4_197 q4_198 q1_6 hS (fs := [.int 0, .null, .int 0]) (fun j hj => by rcases (show j = 0 ∨ j = 1 ∨ j = 2 by omega) with rfl | rfl | rfl <;> rfl) ⟨Nat.le_of_ble_eq_true rfl, Nat.le_of_ble_eq_true rfl⟩ dX4_init_38 (fun n4 H_9 hq_n4 hat hz oq hS => ?_)
  have lt_hQ_n4 : n4 > q := by rw [hq_n4]; exact va_lt hQ
  have hQ := va_at.kept hQ (oq _ (va_lt hQ))
  have hh := zHp.kept hh (fun q h1 _ => oq q h1)
  have lt_h_n1_n4 : n4 > n1 := by rw [hq_n4]; exact va_lt h_n1
  have h_n1 := va_at.kept h_n1 (oq _ (va_lt h_n1))
  have lt_h_n2_n4 : n4 > n2 := by rw [hq_n4]; exact va_lt h_n2
  have h_n2 := va_at.kept h_n2 (oq _ (va_lt h_n2))
  have lt_h_n3_n4 : n4 > n3 := by rw [hq_n4]; exact va_lt h_n3
  have h_n3 := va_at.kept h_n3 (oq _ (va_lt h_n3))
  have h_n4 := hat
  refine z_dup S dX4_init_41 rfl ?_
  refine z_callMI S hG hS (c_alInit l G n4 (by have := hh.2.1; omega)) (fun y h => Or.inr (by have h2 : y = n4 := h; omega)) ok_Jx4a65c_init_da8c8 q4_200 rfl q4_199 (⟨h_n4, hh.1.1⟩) ⟨rfl, rfl, by decide, by decide⟩ ⟨Nat.le_of_ble_eq_true rfl, Nat.le_of_ble_eq_true rfl⟩ rfl (Nat.le_of_ble_eq_true rfl) hl.1 rfl dX4_init_42 (fun H_10 L_10 hB hz oq hS => ?_)
  have hQ := va_at.kept hQ (oq _ (va_lt hQ) (by show ¬ (_ = _); omega))
  have hh := zHp.kept hh (fun q h1 h2 => oq q h1 (by show ¬ (_ = _); omega))
  have h_n1 := va_at.kept h_n1 (oq _ (va_lt h_n1) (by show ¬ (_ = _); omega))
  have h_n2 := va_at.kept h_n2 (oq _ (va_lt h_n2) (by show ¬ (_ = _); omega))
  have h_n3 := va_at.kept h_n3 (oq _ (va_lt h_n3) (by show ¬ (_ = _); omega))
  have h_n4 := hB
  refine z_putF S hG hQ zc_X4 tyX4 tyX4_ok nmX4 hS (Or.inl rfl) 7 (by decide) q4_233 rfl hnm rfl (tyX4_ok 7 (by decide)) rfl rfl (Nat.le_of_ble_eq_true rfl) dX4_init_45 (fun H_11 L_11 hat hz oq hS => ?_)
  have hh := zHp.kept hh (fun q _ h2 => oq q (by omega))
  have h_n1 := va_at.kept h_n1 (oq _ (show q ≠ n1 by omega).symm)
  have h_n2 := va_at.kept h_n2 (oq _ (show q ≠ n2 by omega).symm)
  have h_n3 := va_at.kept h_n3 (oq _ (show q ≠ n3 by omega).symm)
  have h_n4 := va_at.kept h_n4 (oq _ (show q ≠ n4 by omega).symm)
  have hQ := hat
  have h_n1 : va_at G.1 vwCl (n1, .inl (G.2 0, 16, .inl (zA (bsU 0)))) H_11 := by rw [bsU_0]; exact h_n1
  refine z_iconst S dX4_init_48 ?_
  refine z_istore_n (lv' := [(1, .int (zI (0))), (0, .ref (q))]) S dX4_init_49 hl rfl (by decide) rfl (fun ls hl => ?_)
  have loop_50 : ∀ (nn : Nat) (k : Int) (Hk50 : Heap) (Lk50 : List Loc), (0 ≤ k ∧ k ≤ 16) → (va_S (fun y => y = q ∨ sz ≤ y) s.heap Hk50 Lk50) → (va_at G.1 vwCl (q, .inr (8, [.int 0, .int 0, .int 0, .int (zI 8), .ref n1, .ref n2, .ref n3, .ref n4])) Hk50) → (va_at G.1 vwCl (n1, .inl (G.2 0, 16, .inl (zA (bsU k)))) Hk50) → (va_at G.1 vwCl (n2, .inl (G.2 0, 32, .inl (fun _ => 0))) Hk50) → (hAL G n3 (G.2 400) (zI 0) 0 Hk50) → (hAL G n4 (G.2 400) (zI 0) 0 Hk50) → (zHp G Hk50) → ((16 - k).toNat) < nn → ∀ ls, lv_has ls 2 [(1, .int (zI (k))), (0, .ref (q))] → W p l env (rmM 4 80 4 54) s m ([.ref (q)] : List Value).toArray below meth cod Hk50 Lk50 4 54 Q (F0 m 50 ls []) := by
    intro nn
    induction nn with
    | zero => intro _ _ _ _ _ _ _ _ _ _ _ h; exact absurd h (Nat.not_lt_zero _)
    | succ nn ih_50 =>
      intro k Hk50 Lk50 hk hS hQ h_n1 h_n2 h_n3 h_n4 hh hm_50 ls hl
      refine z_iload_n S dX4_init_50 hl 0 rfl rfl ?_
      refine z_bipush S dX4_init_51 rfl ?_
      refine z_icmp_ge S 69 dX4_init_53 (by decide) (by omega) (by omega) (fun c_53 => ?_) (fun c_53 => ?_)
      · skip
        exact ret _ _ _ _ _ _ dX4_init_69 hS (⟨newB q n1 n2 n3 n4 (G.2 400), rfl, ⟨hQ, va_cgA (fun j j0 j1 => by show bsU k j = zI j; unfold bsU; rw [if_pos (by omega)]) h_n1, h_n2, h_n3, h_n4, fun z => absurd z (by decide), fun z => absurd z (by decide), fun j j0 j1 => absurd j1 (by show ¬ j < 0; omega), fun j j0 j1 => absurd j1 (by show ¬ j < 0; omega), okR_0⟩, inj_new (by omega) (by omega) (by omega) (by omega), rfl, rfl, fun i h1 h2 => by rcases (show i = 1 ∨ i = 2 ∨ i = 3 ∨ i = 4 by omega) with rfl | rfl | rfl | rfl <;> simp [newB] <;> omega, hh⟩) (Nat.le_of_ble_eq_true rfl) (Nat.le_of_ble_eq_true rfl)
      · skip
        refine z_aload_n S dX4_init_56 hl 1 rfl rfl ?_
        refine z_get S hG hQ zc_X4 4 (by decide) q4_230 rfl rfl dX4_init_57 ?_
        refine z_iload_n S dX4_init_60 hl 0 rfl rfl ?_
        refine z_iload_n S dX4_init_61 hl 0 rfl rfl ?_
        refine z_iast S hG h_n1 hS (Or.inr (by omega)) (i := k) (x := (zI (k))) (by omega) (by decide) dX4_init_62 (fun H_12 L_12 hat hz oq hS => ?_)
        have hQ := va_at.kept hQ (oq _ (show n1 ≠ q by omega).symm)
        have hh := zHp.kept hh (fun q _ h2 => oq q (by omega))
        have h_n2 := va_at.kept h_n2 (oq _ (show n1 ≠ n2 by omega).symm)
        have h_n3 := va_at.kept h_n3 (oq _ (show n1 ≠ n3 by omega).symm)
        have h_n4 := va_at.kept h_n4 (oq _ (show n1 ≠ n4 by omega).symm)
        rw [bsU_s hk.1] at hat
        have h_n1 := hat
        refine z_iinc (lv' := [(1, .int (zI (k + 1))), (0, .ref (q))]) S dX4_init_63 hl 0 rfl (by decide) rfl (fun ls hl => ?_)
        refine z_goto S 50 dX4_init_66 (by decide) ?_
        exact ih_50 (k + 1) (H_12) (L_12) (by omega) (hS) (hQ) (h_n1) (h_n2) (h_n3) (h_n4) (hh) (by omega) ls (lv_sub hl [0, 1] rfl)
  exact loop_50 _ (0) (H_11) (L_11) (by omega) (hS) (hQ) (h_n1) (h_n2) (h_n3) (h_n4) (hh) (Nat.lt_succ_self _) ls (lv_sub hl [0, 1] rfl)
