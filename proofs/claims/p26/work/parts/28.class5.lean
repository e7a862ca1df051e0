theorem in_T2 {a b x : Int} (h : (decide (a ≤ x) && decide (x < b)) = true) : a ≤ x ∧ x < b := by simpa using h
theorem dX0_numberEntries_0 : decode cX0_numberEntries 0 = .ok (.iconst 0, 1) := by decide +kernel
theorem dX0_numberEntries_1 : decode cX0_numberEntries 1 = .ok (.istore_n 1, 1) := by decide +kernel
theorem dX0_numberEntries_2 : decode cX0_numberEntries 2 = .ok (.iload_n 1, 1) := by decide +kernel
theorem dX0_numberEntries_3 : decode cX0_numberEntries 3 = .ok (.bipush 16, 2) := by decide +kernel
theorem dX0_numberEntries_5 : decode cX0_numberEntries 5 = .ok (.if_icmp .ge 58, 3) := by decide +kernel
theorem dX0_numberEntries_8 : decode cX0_numberEntries 8 = .ok (.aload_n 0, 1) := by decide +kernel
theorem dX0_numberEntries_9 : decode cX0_numberEntries 9 = .ok (.getfield 15, 3) := by decide +kernel
theorem dX0_numberEntries_12 : decode cX0_numberEntries 12 = .ok (.iload_n 1, 1) := by decide +kernel
theorem dX0_numberEntries_13 : decode cX0_numberEntries 13 = .ok (.iconst (-1), 1) := by decide +kernel
theorem dX0_numberEntries_14 : decode cX0_numberEntries 14 = .ok (.iastore, 1) := by decide +kernel
theorem dX0_numberEntries_15 : decode cX0_numberEntries 15 = .ok (.iconst 0, 1) := by decide +kernel
theorem dX0_numberEntries_16 : decode cX0_numberEntries 16 = .ok (.istore_n 2, 1) := by decide +kernel
theorem dX0_numberEntries_17 : decode cX0_numberEntries 17 = .ok (.iload_n 2, 1) := by decide +kernel
theorem dX0_numberEntries_18 : decode cX0_numberEntries 18 = .ok (.iconst 4, 1) := by decide +kernel
theorem dX0_numberEntries_19 : decode cX0_numberEntries 19 = .ok (.if_icmp .ge 38, 3) := by decide +kernel
theorem dX0_numberEntries_22 : decode cX0_numberEntries 22 = .ok (.aload_n 0, 1) := by decide +kernel
theorem dX0_numberEntries_23 : decode cX0_numberEntries 23 = .ok (.getfield 20, 3) := by decide +kernel
theorem dX0_numberEntries_26 : decode cX0_numberEntries 26 = .ok (.iload_n 2, 1) := by decide +kernel
theorem dX0_numberEntries_27 : decode cX0_numberEntries 27 = .ok (.aaload, 1) := by decide +kernel
theorem dX0_numberEntries_28 : decode cX0_numberEntries 28 = .ok (.ifnull 23, 3) := by decide +kernel
theorem dX0_numberEntries_31 : decode cX0_numberEntries 31 = .ok (.aload_n 0, 1) := by decide +kernel
theorem dX0_numberEntries_32 : decode cX0_numberEntries 32 = .ok (.getfield 20, 3) := by decide +kernel
theorem dX0_numberEntries_35 : decode cX0_numberEntries 35 = .ok (.iload_n 2, 1) := by decide +kernel
theorem dX0_numberEntries_36 : decode cX0_numberEntries 36 = .ok (.aaload, 1) := by decide +kernel
theorem dX0_numberEntries_37 : decode cX0_numberEntries 37 = .ok (.iload_n 1, 1) := by decide +kernel
theorem dX0_numberEntries_38 : decode cX0_numberEntries 38 = .ok (.invokevirtual 35, 3) := by decide +kernel
theorem dX0_numberEntries_41 : decode cX0_numberEntries 41 = .ok (.ifCond .eq 10, 3) := by decide +kernel
theorem dX0_numberEntries_44 : decode cX0_numberEntries 44 = .ok (.aload_n 0, 1) := by decide +kernel
theorem dX0_numberEntries_45 : decode cX0_numberEntries 45 = .ok (.getfield 15, 3) := by decide +kernel
theorem dX0_numberEntries_48 : decode cX0_numberEntries 48 = .ok (.iload_n 1, 1) := by decide +kernel
theorem dX0_numberEntries_49 : decode cX0_numberEntries 49 = .ok (.iload_n 2, 1) := by decide +kernel
theorem dX0_numberEntries_50 : decode cX0_numberEntries 50 = .ok (.iastore, 1) := by decide +kernel
theorem dX0_numberEntries_51 : decode cX0_numberEntries 51 = .ok (.iinc 2 1, 3) := by decide +kernel
theorem dX0_numberEntries_54 : decode cX0_numberEntries 54 = .ok (.goto (-37), 3) := by decide +kernel
theorem dX0_numberEntries_57 : decode cX0_numberEntries 57 = .ok (.iinc 1 1, 3) := by decide +kernel
theorem dX0_numberEntries_60 : decode cX0_numberEntries 60 = .ok (.goto (-58), 3) := by decide +kernel
theorem dX0_numberEntries_63 : decode cX0_numberEntries 63 = .ok (.return_, 1) := by decide +kernel
theorem q3_26 : (Jvm.Cond.code ({ cls := "Cyclepaint$Palette", name := "numberEntries", desc := "()V" } : Jvm.MethodName) prog_2_method_10_code (3 : Nat) (Option.none : Option Jvm.ClassFile.FieldType)) ∈ lw_g := zg_of (zin3 (List.mem_of_getElem? (i := 26) rfl)) rfl
theorem q3_25 : (Jvm.Cond.instanceMethod ({ cls := "Cyclepaint$Palette", name := "numberEntries", desc := "()V" } : Jvm.MethodName)) ∈ lw_g := zg_of (zin3 (List.mem_of_getElem? (i := 25) rfl)) rfl
theorem qs_19 : Cond.selects "Cyclepaint$Palette" (⟨"Cyclepaint$Palette", "numberEntries", "()V"⟩ : MethodName) (⟨"Cyclepaint$Palette", "numberEntries", "()V"⟩ : MethodName) ∈ lw_g := zg_of (zinS (List.mem_of_getElem? (i := 19) rfl)) rfl
theorem ok_X0_numberEntries : zOV yX0_numberEntries cX0_numberEntries 3 ((Option.none : Option Jvm.ClassFile.FieldType)) 0 := ⟨⟨q3_26, q1_2, by decide, by decide, by decide +kernel⟩, q3_25, qs_19⟩
set_option maxHeartbeats 4000000 in
set_option maxRecDepth 100000 in
theorem c_X0_num (l : Launch) (G : zG) (σ : St) (q1 q2 q3 q4 : Nat) (r : Int → Nat) (g : Int → Int) (hO : okR σ) (hD : okD σ) (n1 : q1 ≠ q3) (n4 : q4 ≠ q3) (n3 : ∀ j : Int, 0 ≤ j → j < σ.rn → r j ≠ q3) : Met l yX0_numberEntries (wq yX0_numberEntries cX0_numberEntries 3 ((Option.none : Option Jvm.ClassFile.FieldType))) (rmM 1 21 0 0) (va_Pc [.ref (q1)] (zK G (hNum G σ q1 q2 q3 q4 r g))) (zM (fun y => y = q3) none (fun H => va_at G.1 vwCl (q3, .inl (G.2 0, 16, .inl (zB (rgOf σ)))) H)) 0 0 (fun y => y = q3) := by
  refine z_enterMV (by decide +kernel) (Nat.le_of_ble_eq_true rfl) ?_
  intro p env s m below meth cod Q S hnm hG hP hS ret ls hl
  have hl : lv_has ls 3 [(0, .ref (q1))] := hl
  have hA1 := hP.1
  have hA3 := hP.2.1
  have hA4 := hP.2.2.1
  have hR := hP.2.2.2
  have hrn := hO.1
  refine z_iconst S dX0_numberEntries_0 ?_
  refine z_istore_n (lv' := [(1, .int (zI (0))), (0, .ref (q1))]) S dX0_numberEntries_1 hl rfl (by decide) rfl (fun ls hl => ?_)
  have loop_2 : ∀ (nn : Nat) (k : Int) (Hk2 : Heap) (Lk2 : List Loc), (va_S (fun y => y = q3) s.heap Hk2 Lk2) → (va_at G.1 vwCl (q1, .inr (4, [.ref q2, .ref q3, .ref q4, .int (zI σ.rn)])) Hk2) → (va_at G.1 vwCl (q4, .inl (G.2 1, 4, .inr (.inr (.inr (.inr (zC (rgX σ r))))))) Hk2) → (∀ j : Int, 0 ≤ j → j < σ.rn → hRng G (r j) (σ.F j) (σ.L j) (σ.S j) (σ.K j) Hk2) → (0 ≤ k ∧ k ≤ 16) → (va_at G.1 vwCl (q3, .inl (G.2 0, 16, .inl (zB (nmU σ g k)))) Hk2) → ((16 - k).toNat) < nn → ∀ ls, lv_has ls 3 [(1, .int (zI (k))), (0, .ref (q1))] → W p l env (rmM 1 21 0 0) s m ([.ref (q1)] : List Value).toArray below meth cod Hk2 Lk2 0 0 Q (F0 m 2 ls []) := by
    intro nn
    induction nn with
    | zero => intro _ _ _ _ _ _ _ _ _ h; exact absurd h (Nat.not_lt_zero _)
    | succ nn ih_2 =>
      intro k Hk2 Lk2 hS hA1 hA4 hR hk hA3 hm_2 ls hl
      refine z_iload_n S dX0_numberEntries_2 hl 0 rfl rfl ?_
      refine z_bipush S dX0_numberEntries_3 rfl ?_
      refine z_icmp_ge S 63 dX0_numberEntries_5 (by decide) (by omega) (by omega) (fun c_5 => ?_) (fun c_5 => ?_)
      · skip
        exact ret _ _ _ _ _ _ dX0_numberEntries_63 hS (by rw [show k = 16 by omega] at hA3; exact va_cgB (fun j j0 j1 => by unfold nmU; rw [if_pos (by omega)]) hA3) (Nat.le_of_ble_eq_true rfl) (Nat.le_of_ble_eq_true rfl)
      · skip
        refine z_aload_n S dX0_numberEntries_8 hl 1 rfl rfl ?_
        refine z_get S hG hA1 zc_X0 1 (by decide) q1_47 rfl rfl dX0_numberEntries_9 ?_
        refine z_iload_n S dX0_numberEntries_12 hl 0 rfl rfl ?_
        refine z_iconst S dX0_numberEntries_13 ?_
        refine z_iastB S hG hA3 hS (rfl) (i := k) (x := (-1)) (by omega) (by decide) dX0_numberEntries_14 (fun H_1 L_1 hat hz oq hS => ?_)
        have hA1 := va_at.kept hA1 (oq _ (show q3 ≠ q1 by omega).symm)
        have hA4 := va_at.kept hA4 (oq _ (show q3 ≠ q4 by omega).symm)
        have hR := fun (j : Int) j0 j1 => va_at.kept (hR j j0 j1) (oq _ (n3 j j0 j1))
        have hA3 := hat
        refine z_iconst S dX0_numberEntries_15 ?_
        refine z_istore_n (lv' := [(2, .int (zI (0))), (1, .int (zI (k))), (0, .ref (q1))]) S dX0_numberEntries_16 hl rfl (by decide) rfl (fun ls hl => ?_)
        have loop_17 : ∀ (nn : Nat) (n : Int) (Hk17 : Heap) (Lk17 : List Loc), (va_S (fun y => y = q3) s.heap Hk17 Lk17) → (va_at G.1 vwCl (q1, .inr (4, [.ref q2, .ref q3, .ref q4, .int (zI σ.rn)])) Hk17) → (va_at G.1 vwCl (q4, .inl (G.2 1, 4, .inr (.inr (.inr (.inr (zC (rgX σ r))))))) Hk17) → (∀ j : Int, 0 ≤ j → j < σ.rn → hRng G (r j) (σ.F j) (σ.L j) (σ.S j) (σ.K j) Hk17) → (0 ≤ n ∧ n ≤ 4) → (va_at G.1 vwCl (q3, .inl (G.2 0, 16, .inl (zB (up (nmU σ g k) k (rgL σ k n))))) Hk17) → ((4 - n).toNat) < nn → ∀ ls, lv_has ls 3 [(2, .int (zI (n))), (1, .int (zI (k))), (0, .ref (q1))] → W p l env (rmM 1 21 0 0) s m ([.ref (q1)] : List Value).toArray below meth cod Hk17 Lk17 0 0 Q (F0 m 17 ls []) := by
          intro nn
          induction nn with
          | zero => intro _ _ _ _ _ _ _ _ _ h; exact absurd h (Nat.not_lt_zero _)
          | succ nn ih_17 =>
            intro n Hk17 Lk17 hS hA1 hA4 hR hn hA3 hm_17 ls hl
            refine z_iload_n S dX0_numberEntries_17 hl 0 rfl rfl ?_
            refine z_iconst S dX0_numberEntries_18 ?_
            refine z_icmp_ge S 57 dX0_numberEntries_19 (by decide) (by omega) (by omega) (fun c_19 => ?_) (fun c_19 => ?_)
            · skip
              refine z_iinc (lv' := [(1, .int (zI (k + 1))), (2, .int (zI (n))), (0, .ref (q1))]) S dX0_numberEntries_57 hl 1 rfl (by decide) rfl (fun ls hl => ?_)
              refine z_goto S 2 dX0_numberEntries_60 (by decide) ?_
              exact ih_2 (k + 1) (Hk17) (Lk17) (hS) (hA1) (hA4) (hR) (by omega) (by rw [show n = 4 by omega, rgL_4 hD, nmU_s σ g hk.1] at hA3; exact hA3) (by omega) ls (lv_sub hl [0, 2] rfl)
            · skip
              by_cases hr : n < σ.rn
              · skip
                have hok := hO.2 n hn.1 hr
                refine z_aload_n S dX0_numberEntries_22 hl 2 rfl rfl ?_
                refine z_get S hG hA1 zc_X0 2 (by decide) q1_48 rfl rfl dX0_numberEntries_23 ?_
                refine z_iload_n S dX0_numberEntries_26 hl 0 rfl rfl ?_
                refine z_aaldR S hG hA4 (by omega) (by decide) dX0_numberEntries_27 ?_
                rw [show rgX σ r (n) = some (r (n)) from if_pos (by omega)]
                refine z_ifnull_r S 51 dX0_numberEntries_28 (by decide) ?_
                refine z_aload_n S dX0_numberEntries_31 hl 2 rfl rfl ?_
                refine z_get S hG hA1 zc_X0 2 (by decide) q1_48 rfl rfl dX0_numberEntries_32 ?_
                refine z_iload_n S dX0_numberEntries_35 hl 0 rfl rfl ?_
                refine z_aaldR S hG hA4 (by omega) (by decide) dX0_numberEntries_36 ?_
                rw [show rgX σ r (n) = some (r (n)) from if_pos (by omega)]
                refine z_iload_n S dX0_numberEntries_37 hl 1 rfl rfl ?_
                refine z_callVs S hG (c_X1_holds l G (r (n)) (σ.F n) (σ.L n) (σ.S n) (σ.K n) (k) (by omega)) ok_X1_holds (hR n hn.1 hr) zc_X1 rfl q1_188 (hR n hn.1 hr) ⟨rfl, rfl, by decide, by decide⟩ ⟨Nat.zero_le _, Nat.zero_le _⟩ rfl (Nat.le_of_ble_eq_true rfl) hl.1 rfl dX0_numberEntries_38 ?_
                refine z_bif_eq S 51 dX0_numberEntries_41 (by decide) (fun c_41 => ?_) (fun c_41 => ?_)
                · skip
                  refine z_iinc (lv' := [(2, .int (zI (n + 1))), (1, .int (zI (k))), (0, .ref (q1))]) S dX0_numberEntries_51 hl 0 rfl (by decide) rfl (fun ls hl => ?_)
                  refine z_goto S 17 dX0_numberEntries_54 (by decide) ?_
                  exact ih_17 (n + 1) (Hk17) (Lk17) (hS) (hA1) (hA4) (hR) (by omega) (by rw [rgL_s hn.1, if_neg (by unfold rgIn; rw [c_41]; simp)]; exact hA3) (by omega) ls (lv_sub hl [0, 1, 2] rfl)
                · skip
                  refine z_aload_n S dX0_numberEntries_44 hl 2 rfl rfl ?_
                  refine z_get S hG hA1 zc_X0 1 (by decide) q1_47 rfl rfl dX0_numberEntries_45 ?_
                  refine z_iload_n S dX0_numberEntries_48 hl 1 rfl rfl ?_
                  refine z_iload_n S dX0_numberEntries_49 hl 0 rfl rfl ?_
                  refine z_iastB S hG hA3 hS (rfl) (i := k) (x := n) (by omega) (by decide) dX0_numberEntries_50 (fun H_2 L_2 hat hz oq hS => ?_)
                  have hA1 := va_at.kept hA1 (oq _ (show q3 ≠ q1 by omega).symm)
                  have hA4 := va_at.kept hA4 (oq _ (show q3 ≠ q4 by omega).symm)
                  have hR := fun (j : Int) j0 j1 => va_at.kept (hR j j0 j1) (oq _ (n3 j j0 j1))
                  rw [up_up, show n = rgL σ k (n + 1) from by rw [rgL_s hn.1, if_pos (rgIn_iff.mpr ⟨hr, in_T2 c_41⟩)]] at hat
                  have hA3 := hat
                  refine z_iinc (lv' := [(2, .int (zI (n + 1))), (1, .int (zI (k))), (0, .ref (q1))]) S dX0_numberEntries_51 hl 0 rfl (by decide) rfl (fun ls hl => ?_)
                  refine z_goto S 17 dX0_numberEntries_54 (by decide) ?_
                  exact ih_17 (n + 1) (H_2) (L_2) (hS) (hA1) (hA4) (hR) (by omega) (hA3) (by omega) ls (lv_sub hl [0, 1, 2] rfl)
              · skip
                refine z_aload_n S dX0_numberEntries_22 hl 2 rfl rfl ?_
                refine z_get S hG hA1 zc_X0 2 (by decide) q1_48 rfl rfl dX0_numberEntries_23 ?_
                refine z_iload_n S dX0_numberEntries_26 hl 0 rfl rfl ?_
                refine z_aaldR S hG hA4 (by omega) (by decide) dX0_numberEntries_27 ?_
                rw [show rgX σ r (n) = none from if_neg (by omega)]
                refine z_ifnull_n S 51 dX0_numberEntries_28 (by decide) ?_
                refine z_iinc (lv' := [(2, .int (zI (n + 1))), (1, .int (zI (k))), (0, .ref (q1))]) S dX0_numberEntries_51 hl 0 rfl (by decide) rfl (fun ls hl => ?_)
                refine z_goto S 17 dX0_numberEntries_54 (by decide) ?_
                exact ih_17 (n + 1) (Hk17) (Lk17) (hS) (hA1) (hA4) (hR) (by omega) (by rw [rgL_s hn.1, if_neg (by simp [rgIn, hr])]; exact hA3) (by omega) ls (lv_sub hl [0, 1, 2] rfl)
        exact loop_17 _ (0) (H_1) (L_1) (hS) (hA1) (hA4) (hR) (by omega) (hA3) (Nat.lt_succ_self _) ls (lv_sub hl [0, 1, 2] rfl)
  exact loop_2 _ (0) (s.heap) ([]) (hS) (hA1) (hA4) (hR) (by omega) (by rw [nmU_0]; exact hA3) (Nat.lt_succ_self _) ls (lv_sub hl [0, 1] rfl)
theorem dX0_removeRange_0 : decode cX0_removeRange 0 = .ok (.aload_n 0, 1) := by decide +kernel
theorem dX0_removeRange_1 : decode cX0_removeRange 1 = .ok (.iload_n 1, 1) := by decide +kernel
theorem dX0_removeRange_2 : decode cX0_removeRange 2 = .ok (.invokevirtual 31, 3) := by decide +kernel
theorem dX0_removeRange_5 : decode cX0_removeRange 5 = .ok (.ifnonnull 4, 3) := by decide +kernel
theorem dX0_removeRange_8 : decode cX0_removeRange 8 = .ok (.return_, 1) := by decide +kernel
theorem dX0_removeRange_9 : decode cX0_removeRange 9 = .ok (.iload_n 1, 1) := by decide +kernel
theorem dX0_removeRange_10 : decode cX0_removeRange 10 = .ok (.iconst 1, 1) := by decide +kernel
theorem dX0_removeRange_11 : decode cX0_removeRange 11 = .ok (.iadd, 1) := by decide +kernel
theorem dX0_removeRange_12 : decode cX0_removeRange 12 = .ok (.istore_n 2, 1) := by decide +kernel
theorem dX0_removeRange_13 : decode cX0_removeRange 13 = .ok (.iload_n 2, 1) := by decide +kernel
theorem dX0_removeRange_14 : decode cX0_removeRange 14 = .ok (.iconst 4, 1) := by decide +kernel
theorem dX0_removeRange_15 : decode cX0_removeRange 15 = .ok (.if_icmp .ge 23, 3) := by decide +kernel
theorem dX0_removeRange_18 : decode cX0_removeRange 18 = .ok (.aload_n 0, 1) := by decide +kernel
theorem dX0_removeRange_19 : decode cX0_removeRange 19 = .ok (.getfield 20, 3) := by decide +kernel
theorem dX0_removeRange_22 : decode cX0_removeRange 22 = .ok (.iload_n 2, 1) := by decide +kernel
theorem dX0_removeRange_23 : decode cX0_removeRange 23 = .ok (.iconst 1, 1) := by decide +kernel
theorem dX0_removeRange_24 : decode cX0_removeRange 24 = .ok (.isub, 1) := by decide +kernel
theorem dX0_removeRange_25 : decode cX0_removeRange 25 = .ok (.aload_n 0, 1) := by decide +kernel
theorem dX0_removeRange_26 : decode cX0_removeRange 26 = .ok (.getfield 20, 3) := by decide +kernel
theorem dX0_removeRange_29 : decode cX0_removeRange 29 = .ok (.iload_n 2, 1) := by decide +kernel
theorem dX0_removeRange_30 : decode cX0_removeRange 30 = .ok (.aaload, 1) := by decide +kernel
theorem dX0_removeRange_31 : decode cX0_removeRange 31 = .ok (.aastore, 1) := by decide +kernel
theorem dX0_removeRange_32 : decode cX0_removeRange 32 = .ok (.iinc 2 1, 3) := by decide +kernel
theorem dX0_removeRange_35 : decode cX0_removeRange 35 = .ok (.goto (-22), 3) := by decide +kernel
theorem dX0_removeRange_38 : decode cX0_removeRange 38 = .ok (.aload_n 0, 1) := by decide +kernel
theorem dX0_removeRange_39 : decode cX0_removeRange 39 = .ok (.getfield 20, 3) := by decide +kernel
theorem dX0_removeRange_42 : decode cX0_removeRange 42 = .ok (.iconst 3, 1) := by decide +kernel
theorem dX0_removeRange_43 : decode cX0_removeRange 43 = .ok (.aconst_null, 1) := by decide +kernel
theorem dX0_removeRange_44 : decode cX0_removeRange 44 = .ok (.aastore, 1) := by decide +kernel
theorem dX0_removeRange_45 : decode cX0_removeRange 45 = .ok (.aload_n 0, 1) := by decide +kernel
theorem dX0_removeRange_46 : decode cX0_removeRange 46 = .ok (.dup, 1) := by decide +kernel
theorem dX0_removeRange_47 : decode cX0_removeRange 47 = .ok (.getfield 24, 3) := by decide +kernel
theorem dX0_removeRange_50 : decode cX0_removeRange 50 = .ok (.iconst 1, 1) := by decide +kernel
theorem dX0_removeRange_51 : decode cX0_removeRange 51 = .ok (.isub, 1) := by decide +kernel
theorem dX0_removeRange_52 : decode cX0_removeRange 52 = .ok (.putfield 24, 3) := by decide +kernel
theorem dX0_removeRange_55 : decode cX0_removeRange 55 = .ok (.aload_n 0, 1) := by decide +kernel
theorem dX0_removeRange_56 : decode cX0_removeRange 56 = .ok (.invokevirtual 28, 3) := by decide +kernel
theorem dX0_removeRange_59 : decode cX0_removeRange 59 = .ok (.return_, 1) := by decide +kernel
theorem q3_23 : (Jvm.Cond.methodLink "Cyclepaint$Palette" (28 : Nat) ({ cls := "Cyclepaint$Palette", name := "numberEntries", desc := "()V" } : Jvm.MethodName)) ∈ lw_g := zg_of (zin3 (List.mem_of_getElem? (i := 23) rfl)) rfl
theorem q3_48 : (Jvm.Cond.code ({ cls := "Cyclepaint$Palette", name := "removeRange", desc := "(I)V" } : Jvm.MethodName) prog_2_method_9_code (3 : Nat) (Option.none : Option Jvm.ClassFile.FieldType)) ∈ lw_g := zg_of (zin3 (List.mem_of_getElem? (i := 48) rfl)) rfl
theorem q3_46 : (Jvm.Cond.instanceMethod ({ cls := "Cyclepaint$Palette", name := "removeRange", desc := "(I)V" } : Jvm.MethodName)) ∈ lw_g := zg_of (zin3 (List.mem_of_getElem? (i := 46) rfl)) rfl
theorem q3_47 : (Jvm.Cond.selects "Cyclepaint$Palette" ({ cls := "Cyclepaint$Palette", name := "removeRange", desc := "(I)V" } : Jvm.MethodName) ({ cls := "Cyclepaint$Palette", name := "removeRange", desc := "(I)V" } : Jvm.MethodName)) ∈ lw_g := zg_of (zin3 (List.mem_of_getElem? (i := 47) rfl)) rfl
theorem ok_X0_removeRange : zOV yX0_removeRange cX0_removeRange 3 ((Option.none : Option Jvm.ClassFile.FieldType)) 1 := ⟨⟨q3_48, q1_2, by decide, by decide, by decide +kernel⟩, q3_46, q3_47⟩
set_option maxHeartbeats 4000000 in
set_option maxRecDepth 100000 in
theorem c_X0_remove (l : Launch) (G : zG) (σ : St) (a : Nat → Nat) (hd : inj a (cL σ)) (hD : okD σ) (j : Int) (j0 : 0 ≤ j) (j1 : j < σ.rn) : Met l yX0_removeRange (wq yX0_removeRange cX0_removeRange 3 ((Option.none : Option Jvm.ClassFile.FieldType))) (rmM 2 43 0 0) (va_Pc [.ref (a 1), .int (zI (j))] (zK G (hPal G σ a))) (zM (fun y => y = a 1 ∨ y = a 4 ∨ y = a 3) none (fun H => hPal G (delS σ j) (delB a j) H)) 0 0 (fun y => y = a 1 ∨ y = a 4 ∨ y = a 3) := by
  refine z_enterMV (by decide +kernel) (Nat.le_of_ble_eq_true rfl) ?_
  intro p env s m below meth cod Q S hnm hG hP hS ret ls hl
  have hl : lv_has ls 3 [(0, .ref (a 1)), (1, .int (zI (j)))] := hl
  have hO := hP.2.2.2.2.2
  have hrn := hO.1
  have hA1 := hP.1
  have hA2 := hP.2.1
  have hA3 := hP.2.2.1
  have hA4 := hP.2.2.2.1
  have hR := hP.2.2.2.2.1
  have e13 : a 1 ≠ a 3 := (fun z => absurd (hd 1 3 (cL_s (by decide)) (cL_s (by decide)) z) (by decide))
  have e14 : a 1 ≠ a 4 := (fun z => absurd (hd 1 4 (cL_s (by decide)) (cL_s (by decide)) z) (by decide))
  have e23 : a 2 ≠ a 3 := (fun z => absurd (hd 2 3 (cL_s (by decide)) (cL_s (by decide)) z) (by decide))
  have e24 : a 2 ≠ a 4 := (fun z => absurd (hd 2 4 (cL_s (by decide)) (cL_s (by decide)) z) (by decide))
  have e34 : a 3 ≠ a 4 := (fun z => absurd (hd 3 4 (cL_s (by decide)) (cL_s (by decide)) z) (by decide))
  have e43 : a 4 ≠ a 3 := (fun z => absurd (hd 4 3 (cL_s (by decide)) (cL_s (by decide)) z) (by decide))
  have e12 : a 1 ≠ a 2 := (fun z => absurd (hd 1 2 (cL_s (by decide)) (cL_s (by decide)) z) (by decide))
  refine z_aload_n S dX0_removeRange_0 hl 0 rfl rfl ?_
  refine z_iload_n S dX0_removeRange_1 hl 1 rfl rfl ?_
  refine z_callVs S hG (c_X0_rangeAt1 l G σ a j (by omega)) ok_X0_rangeAt hA1 zc_X0 rfl q1_105 (hP) ⟨rfl, rfl, by decide, by decide⟩ ⟨Nat.zero_le _, Nat.zero_le _⟩ rfl (Nat.le_of_ble_eq_true rfl) hl.1 rfl dX0_removeRange_2 ?_
  refine z_ifnonnull_r S 9 dX0_removeRange_5 (by decide) ?_
  refine z_iload_n S dX0_removeRange_9 hl 1 rfl rfl ?_
  refine z_iconst S dX0_removeRange_10 ?_
  refine z_iadd S dX0_removeRange_11 ?_
  refine z_istore_n (lv' := [(2, .int (zI ((j) + (1)))), (0, .ref (a 1)), (1, .int (zI (j)))]) S dX0_removeRange_12 hl rfl (by decide) rfl (fun ls hl => ?_)
  have loop_13 : ∀ (nn : Nat) (b : Int) (Hk13 : Heap) (Lk13 : List Loc), (va_S (fun y => y = a 1 ∨ y = a 4 ∨ y = a 3) s.heap Hk13 Lk13) → (va_at G.1 vwCl (a 1, .inr (4, [.ref (a 2), .ref (a 3), .ref (a 4), .int (zI σ.rn)])) Hk13) → (va_at G.1 vwCl (a 2, .inl (G.2 0, 16, .inl (zA σ.B))) Hk13) → (va_at G.1 vwCl (a 3, .inl (G.2 0, 16, .inl (zB (rgOf σ)))) Hk13) → (∀ j : Int, 0 ≤ j → j < σ.rn → hRng G (a (8 + j.toNat)) (σ.F j) (σ.L j) (σ.S j) (σ.K j) Hk13) → (j + 1 ≤ b ∧ b ≤ 4) → (va_at G.1 vwCl (a 4, .inl (G.2 1, 4, .inr (.inr (.inr (.inr (zC (dlU (rgA σ a) j b))))))) Hk13) → ((4 - b).toNat) < nn → ∀ ls, lv_has ls 3 [(2, .int (zI (b))), (0, .ref (a 1)), (1, .int (zI (j)))] → W p l env (rmM 2 43 0 0) s m ([.ref (a 1), .int (zI (j))] : List Value).toArray below meth cod Hk13 Lk13 0 0 Q (F0 m 13 ls []) := by
    intro nn
    induction nn with
    | zero => intro _ _ _ _ _ _ _ _ _ _ h; exact absurd h (Nat.not_lt_zero _)
    | succ nn ih_13 =>
      intro b Hk13 Lk13 hS hA1 hA2 hA3 hR hb hA4 hm_13 ls hl
      refine z_iload_n S dX0_removeRange_13 hl 0 rfl rfl ?_
      refine z_iconst S dX0_removeRange_14 ?_
      refine z_icmp_ge S 38 dX0_removeRange_15 (by decide) (by omega) (by omega) (fun c_15 => ?_) (fun c_15 => ?_)
      · skip
        refine z_aload_n S dX0_removeRange_38 hl 1 rfl rfl ?_
        refine z_get S hG hA1 zc_X0 2 (by decide) q1_48 rfl rfl dX0_removeRange_39 ?_
        refine z_iconst S dX0_removeRange_42 ?_
        refine lv_null S.1 S.2.1 dX0_removeRange_43 ?_
        refine z_aastn S hG 1 rfl hA4 hS (Or.inr (Or.inl rfl)) (i := 3) (by omega) (by decide) dX0_removeRange_44 (fun H_1 L_1 hat hz oq hS => ?_)
        have hA1 := va_at.kept hA1 (oq _ (show a 4 ≠ a 1 by omega).symm)
        have hA2 := va_at.kept hA2 (oq _ (show a 4 ≠ a 2 by omega).symm)
        have hA3 := va_at.kept hA3 (oq _ (show a 4 ≠ a 3 by omega).symm)
        have hR := fun (j : Int) j0 j1 => va_at.kept (hR j j0 j1) (oq _ ((fun z => by have := hd _ 4 (cL_r j0 j1) (cL_s (by decide)) z; omega)))
        have hA4 := va_cgC (dlU_e j0 j1 hrn.2) (by rw [show b = 4 by omega] at hat; exact hat)
        refine z_aload_n S dX0_removeRange_45 hl 1 rfl rfl ?_
        refine z_dup S dX0_removeRange_46 rfl ?_
        refine z_get S hG hA1 zc_X0 3 (by decide) q1_49 rfl rfl dX0_removeRange_47 ?_
        refine z_iconst S dX0_removeRange_50 ?_
        refine z_isub S dX0_removeRange_51 ?_
        refine z_putR S hG hA1 zc_X0 tyX0 tyX0_ok nmX0 hS (Or.inl rfl) 3 (by decide) q1_49 rfl (tyX0_ok 3 (by decide)) rfl rfl (Nat.le_of_ble_eq_true rfl) dX0_removeRange_52 (fun H_2 L_2 hat hz oq hS => ?_)
        have hA2 := va_at.kept hA2 (oq _ (show a 1 ≠ a 2 by omega).symm)
        have hA3 := va_at.kept hA3 (oq _ (show a 1 ≠ a 3 by omega).symm)
        have hR := fun (j : Int) j0 j1 => va_at.kept (hR j j0 j1) (oq _ ((fun z => by have := hd _ 1 (cL_r j0 j1) (cL_s (by decide)) z; omega)))
        have hA4 := va_at.kept hA4 (oq _ (show a 1 ≠ a 4 by omega).symm)
        have hA1 := hat
        refine z_aload_n S dX0_removeRange_55 hl 1 rfl rfl ?_
        have hRd : ∀ t : Int, 0 ≤ t → t < (delS σ j).rn → hRng G (delB a j (8 + t.toNat)) ((delS σ j).F t) ((delS σ j).L t) ((delS σ j).S t) ((delS σ j).K t) H_2 := by
          intro t t0 t1
          have t1x : t < σ.rn - 1 := t1
          rw [delB_r a j0 t0 (by omega)]
          show hRng G _ (del σ.F j t) (del σ.L j t) (del σ.S j t) (del σ.K j t) _
          unfold del
          by_cases q : j ≤ t
          · simp only [if_pos q]; exact hR (t + 1) (by omega) (by omega)
          · simp only [if_neg q]; exact hR t t0 (by omega)
        have hRn : ∀ t : Int, 0 ≤ t → t < (delS σ j).rn → delB a j (8 + t.toNat) ≠ a 3 := by
          intro t t0 t1 z
          have t1x : t < σ.rn - 1 := t1
          rw [delB_r a j0 t0 (by omega)] at z
          by_cases q : j ≤ t
          · rw [if_pos q] at z; have := hd _ 3 (cL_r (by omega) (by omega)) (cL_s (by decide)) z; omega
          · rw [if_neg q] at z; have := hd _ 3 (cL_r t0 (by omega)) (cL_s (by decide)) z; omega
        refine z_callM S hG hS (c_X0_num l G (delS σ j) (a 1) (a 2) (a 3) (a 4) (fun t => delB a j (8 + t.toNat)) (rgOf σ) (okR_del hO j0 j1) (okD_del hD j0 j1) e13 e43 hRn) (fun y h => Or.inr (Or.inr h)) ok_X0_numberEntries hA1 zc_X0 rfl q3_23 (⟨hA1, hA3, hA4, hRd⟩) ⟨rfl, rfl, by decide, by decide⟩ ⟨Nat.le_of_ble_eq_true rfl, Nat.le_of_ble_eq_true rfl⟩ rfl (Nat.le_of_ble_eq_true rfl) hl.1 rfl dX0_removeRange_56 (fun H_3 L_3 hB hz oq hS => ?_)
        have hA1 := va_at.kept hA1 (oq _ (va_lt hA1) (by show ¬ (_ = a 3); omega))
        have hA2 := va_at.kept hA2 (oq _ (va_lt hA2) (by show ¬ (_ = a 3); omega))
        have hA4 := va_at.kept hA4 (oq _ (va_lt hA4) (by show ¬ (_ = a 3); omega))
        have hPd : hPal G (delS σ j) (delB a j) H_3 := hPal_del hO j0 j1 ⟨hA1, hB, hA4, fun t t0 t1 => va_at.kept (hRd t t0 t1) (oq _ (va_lt (hRd t t0 t1)) (hRn t t0 t1))⟩ hA2
        exact ret _ _ _ _ _ _ dX0_removeRange_59 hS (hPd) (Nat.le_of_ble_eq_true rfl) (Nat.le_of_ble_eq_true rfl)
      · skip
        by_cases hr : b < σ.rn
        · skip
          refine z_aload_n S dX0_removeRange_18 hl 1 rfl rfl ?_
          refine z_get S hG hA1 zc_X0 2 (by decide) q1_48 rfl rfl dX0_removeRange_19 ?_
          refine z_iload_n S dX0_removeRange_22 hl 0 rfl rfl ?_
          refine z_iconst S dX0_removeRange_23 ?_
          refine z_isub S dX0_removeRange_24 ?_
          refine z_aload_n S dX0_removeRange_25 hl 1 rfl rfl ?_
          refine z_get S hG hA1 zc_X0 2 (by decide) q1_48 rfl rfl dX0_removeRange_26 ?_
          refine z_iload_n S dX0_removeRange_29 hl 0 rfl rfl ?_
          refine z_aaldR S hG hA4 (by omega) (by decide) dX0_removeRange_30 ?_
          rw [dlU_at (rgA σ a) j b, show rgA σ a (b) = some (a (8 + Int.toNat (b))) from if_pos (by omega)]
          obtain ⟨cv, kv, o1, o2, o3, o4⟩ := z_ob hG (hR b (by omega) hr) zc_X1
          refine z_aast S hG 1 rfl hA4 hS (Or.inr (Or.inl rfl)) (C := "Cyclepaint$Range") o1 o2 o3 o4 vb_asgS (i := (b) - (1)) (by omega) (by decide) dX0_removeRange_31 (fun H_4 L_4 hat hz oq hS => ?_)
          have hA1 := va_at.kept hA1 (oq _ (show a 4 ≠ a 1 by omega).symm)
          have hA2 := va_at.kept hA2 (oq _ (show a 4 ≠ a 2 by omega).symm)
          have hA3 := va_at.kept hA3 (oq _ (show a 4 ≠ a 3 by omega).symm)
          have hR := fun (j : Int) j0 j1 => va_at.kept (hR j j0 j1) (oq _ ((fun z => by have := hd _ 4 (cL_r j0 j1) (cL_s (by decide)) z; omega)))
          have hA4 : va_at G.1 vwCl (a 4, .inl (G.2 1, 4, .inr (.inr (.inr (.inr (zC (dlU (rgA σ a) j (b + 1)))))))) H_4 := by rw [← dlU_s (rgA σ a) hb.1, show rgA σ a b = some (a (8 + Int.toNat b)) from if_pos (by omega)]; exact hat
          refine z_iinc (lv' := [(2, .int (zI (b + 1))), (0, .ref (a 1)), (1, .int (zI (j)))]) S dX0_removeRange_32 hl 0 rfl (by decide) rfl (fun ls hl => ?_)
          refine z_goto S 13 dX0_removeRange_35 (by decide) ?_
          exact ih_13 (b + 1) (H_4) (L_4) (hS) (hA1) (hA2) (hA3) (hR) (by omega) (hA4) (by omega) ls (lv_sub hl [0, 1, 2] rfl)
        · skip
          refine z_aload_n S dX0_removeRange_18 hl 1 rfl rfl ?_
          refine z_get S hG hA1 zc_X0 2 (by decide) q1_48 rfl rfl dX0_removeRange_19 ?_
          refine z_iload_n S dX0_removeRange_22 hl 0 rfl rfl ?_
          refine z_iconst S dX0_removeRange_23 ?_
          refine z_isub S dX0_removeRange_24 ?_
          refine z_aload_n S dX0_removeRange_25 hl 1 rfl rfl ?_
          refine z_get S hG hA1 zc_X0 2 (by decide) q1_48 rfl rfl dX0_removeRange_26 ?_
          refine z_iload_n S dX0_removeRange_29 hl 0 rfl rfl ?_
          refine z_aaldR S hG hA4 (by omega) (by decide) dX0_removeRange_30 ?_
          rw [dlU_at (rgA σ a) j b, show rgA σ a (b) = none from if_neg (by omega)]
          refine z_aastn S hG 1 rfl hA4 hS (Or.inr (Or.inl rfl)) (i := (b) - (1)) (by omega) (by decide) dX0_removeRange_31 (fun H_5 L_5 hat hz oq hS => ?_)
          have hA1 := va_at.kept hA1 (oq _ (show a 4 ≠ a 1 by omega).symm)
          have hA2 := va_at.kept hA2 (oq _ (show a 4 ≠ a 2 by omega).symm)
          have hA3 := va_at.kept hA3 (oq _ (show a 4 ≠ a 3 by omega).symm)
          have hR := fun (j : Int) j0 j1 => va_at.kept (hR j j0 j1) (oq _ ((fun z => by have := hd _ 4 (cL_r j0 j1) (cL_s (by decide)) z; omega)))
          have hA4 : va_at G.1 vwCl (a 4, .inl (G.2 1, 4, .inr (.inr (.inr (.inr (zC (dlU (rgA σ a) j (b + 1)))))))) H_5 := by rw [← dlU_s (rgA σ a) hb.1, show rgA σ a b = none from if_neg (by omega)]; exact hat
          refine z_iinc (lv' := [(2, .int (zI (b + 1))), (0, .ref (a 1)), (1, .int (zI (j)))]) S dX0_removeRange_32 hl 0 rfl (by decide) rfl (fun ls hl => ?_)
          refine z_goto S 13 dX0_removeRange_35 (by decide) ?_
          exact ih_13 (b + 1) (H_5) (L_5) (hS) (hA1) (hA2) (hA3) (hR) (by omega) (hA4) (by omega) ls (lv_sub hl [0, 1, 2] rfl)
  exact loop_13 _ ((j) + (1)) (s.heap) ([]) (hS) (hA1) (hA2) (hA3) (hR) (by omega) (by rw [dlU_0]; exact hA4) (Nat.lt_succ_self _) ls (lv_sub hl [0, 1, 2] rfl)
theorem dX0_addRange_0 : decode cX0_addRange 0 = .ok (.aload_n 0, 1) := by decide +kernel
theorem dX0_addRange_1 : decode cX0_addRange 1 = .ok (.getfield 24, 3) := by decide +kernel
theorem dX0_addRange_4 : decode cX0_addRange 4 = .ok (.ifCond .lt 11, 3) := by decide +kernel
theorem dX0_addRange_7 : decode cX0_addRange 7 = .ok (.aload_n 0, 1) := by decide +kernel
theorem dX0_addRange_8 : decode cX0_addRange 8 = .ok (.getfield 24, 3) := by decide +kernel
theorem dX0_addRange_11 : decode cX0_addRange 11 = .ok (.iconst 4, 1) := by decide +kernel
theorem dX0_addRange_12 : decode cX0_addRange 12 = .ok (.if_icmp .lt 5, 3) := by decide +kernel
theorem dX0_addRange_15 : decode cX0_addRange 15 = .ok (.iconst (-1), 1) := by decide +kernel
theorem dX0_addRange_16 : decode cX0_addRange 16 = .ok (.ireturn, 1) := by decide +kernel
theorem dX0_addRange_17 : decode cX0_addRange 17 = .ok (.aload_n 0, 1) := by decide +kernel
theorem dX0_addRange_18 : decode cX0_addRange 18 = .ok (.getfield 20, 3) := by decide +kernel
theorem dX0_addRange_21 : decode cX0_addRange 21 = .ok (.aload_n 0, 1) := by decide +kernel
theorem dX0_addRange_22 : decode cX0_addRange 22 = .ok (.getfield 24, 3) := by decide +kernel
theorem dX0_addRange_25 : decode cX0_addRange 25 = .ok (.aload_n 1, 1) := by decide +kernel
theorem dX0_addRange_26 : decode cX0_addRange 26 = .ok (.aastore, 1) := by decide +kernel
theorem dX0_addRange_27 : decode cX0_addRange 27 = .ok (.aload_n 0, 1) := by decide +kernel
theorem dX0_addRange_28 : decode cX0_addRange 28 = .ok (.dup, 1) := by decide +kernel
theorem dX0_addRange_29 : decode cX0_addRange 29 = .ok (.getfield 24, 3) := by decide +kernel
theorem dX0_addRange_32 : decode cX0_addRange 32 = .ok (.iconst 1, 1) := by decide +kernel
theorem dX0_addRange_33 : decode cX0_addRange 33 = .ok (.iadd, 1) := by decide +kernel
theorem dX0_addRange_34 : decode cX0_addRange 34 = .ok (.putfield 24, 3) := by decide +kernel
theorem dX0_addRange_37 : decode cX0_addRange 37 = .ok (.aload_n 0, 1) := by decide +kernel
theorem dX0_addRange_38 : decode cX0_addRange 38 = .ok (.invokevirtual 28, 3) := by decide +kernel
theorem dX0_addRange_41 : decode cX0_addRange 41 = .ok (.aload_n 0, 1) := by decide +kernel
theorem dX0_addRange_42 : decode cX0_addRange 42 = .ok (.getfield 24, 3) := by decide +kernel
theorem dX0_addRange_45 : decode cX0_addRange 45 = .ok (.iconst 1, 1) := by decide +kernel
theorem dX0_addRange_46 : decode cX0_addRange 46 = .ok (.isub, 1) := by decide +kernel
theorem dX0_addRange_47 : decode cX0_addRange 47 = .ok (.ireturn, 1) := by decide +kernel
theorem q3_22 : (Jvm.Cond.code ({ cls := "Cyclepaint$Palette", name := "addRange", desc := "(LCyclepaint$Range;)I" } : Jvm.MethodName) prog_2_method_8_code (2 : Nat) (Option.some Jvm.ClassFile.FieldType.int)) ∈ lw_g := zg_of (zin3 (List.mem_of_getElem? (i := 22) rfl)) rfl
theorem q3_20 : (Jvm.Cond.instanceMethod ({ cls := "Cyclepaint$Palette", name := "addRange", desc := "(LCyclepaint$Range;)I" } : Jvm.MethodName)) ∈ lw_g := zg_of (zin3 (List.mem_of_getElem? (i := 20) rfl)) rfl
theorem q3_21 : (Jvm.Cond.selects "Cyclepaint$Palette" ({ cls := "Cyclepaint$Palette", name := "addRange", desc := "(LCyclepaint$Range;)I" } : Jvm.MethodName) ({ cls := "Cyclepaint$Palette", name := "addRange", desc := "(LCyclepaint$Range;)I" } : Jvm.MethodName)) ∈ lw_g := zg_of (zin3 (List.mem_of_getElem? (i := 21) rfl)) rfl
theorem ok_X0_addRange : zOV yX0_addRange cX0_addRange 2 ((Option.some Jvm.ClassFile.FieldType.int)) 1 := ⟨⟨q3_22, q1_2, by decide, by decide, by decide +kernel⟩, q3_20, q3_21⟩
set_option maxHeartbeats 4000000 in
set_option maxRecDepth 100000 in
theorem c_X0_addRange (l : Launch) (G : zG) (σ : St) (a : Nat → Nat) (hd : inj a (cL σ)) (q : Nat) (f len sp k : Int) (h4 : σ.rn < 4) (hok : ((0 ≤ f ∧ 2 ≤ len ∧ f + len ≤ 16) ∧ (1 ≤ sp ∧ sp ≤ 9) ∧ (0 ≤ k ∧ k ≤ 2))) (hD : okD (addS σ f len sp k)) (hqn : ∀ i : Nat, cL σ i → a i ≠ q) : Met l yX0_addRange (wq yX0_addRange cX0_addRange 2 ((Option.some Jvm.ClassFile.FieldType.int))) (rmM 2 43 0 0) (va_Pc [.ref (a 1), .ref (q)] (zK G (fun H => hPal G σ a H ∧ hRng G q f len sp k H))) (zM (fun y => y = a 1 ∨ y = a 4 ∨ y = a 3) (some (.int ((zI (σ.rn))))) (fun H => hPal G (addS σ f len sp k) (addA σ a q) H)) 0 0 (fun y => y = a 1 ∨ y = a 4 ∨ y = a 3) := by
  refine z_enterMI (by decide +kernel) (Nat.le_of_ble_eq_true rfl) ?_
  intro p env s m below meth cod Q S hG hP hS ret ls hl
  have hl : lv_has ls 2 [(0, .ref (a 1)), (1, .ref (q))] := hl
  have hQ := hP.2
  have hP := hP.1
  have hO := hP.2.2.2.2.2
  have hrn := hO.1
  have hA1 := hP.1
  have hA2 := hP.2.1
  have hA3 := hP.2.2.1
  have hA4 := hP.2.2.2.1
  have hR := hP.2.2.2.2.1
  have q4 : q ≠ a 4 := fun z => hqn 4 (cL_s (by decide)) z.symm
  have q1 : q ≠ a 1 := fun z => hqn 1 (cL_s (by decide)) z.symm
  have q3 : q ≠ a 3 := fun z => hqn 3 (cL_s (by decide)) z.symm
  have e13 : a 1 ≠ a 3 := (fun z => absurd (hd 1 3 (cL_s (by decide)) (cL_s (by decide)) z) (by decide))
  have e14 : a 1 ≠ a 4 := (fun z => absurd (hd 1 4 (cL_s (by decide)) (cL_s (by decide)) z) (by decide))
  have e23 : a 2 ≠ a 3 := (fun z => absurd (hd 2 3 (cL_s (by decide)) (cL_s (by decide)) z) (by decide))
  have e24 : a 2 ≠ a 4 := (fun z => absurd (hd 2 4 (cL_s (by decide)) (cL_s (by decide)) z) (by decide))
  have e34 : a 3 ≠ a 4 := (fun z => absurd (hd 3 4 (cL_s (by decide)) (cL_s (by decide)) z) (by decide))
  have e43 : a 4 ≠ a 3 := (fun z => absurd (hd 4 3 (cL_s (by decide)) (cL_s (by decide)) z) (by decide))
  have e12 : a 1 ≠ a 2 := (fun z => absurd (hd 1 2 (cL_s (by decide)) (cL_s (by decide)) z) (by decide))
  refine z_aload_n S dX0_addRange_0 hl 0 rfl rfl ?_
  refine z_get S hG hA1 zc_X0 3 (by decide) q1_49 rfl rfl dX0_addRange_1 ?_
  refine z_if_lt_F S 15 dX0_addRange_4 (by decide) (by omega) (by omega) ?_
  refine z_aload_n S dX0_addRange_7 hl 0 rfl rfl ?_
  refine z_get S hG hA1 zc_X0 3 (by decide) q1_49 rfl rfl dX0_addRange_8 ?_
  refine z_iconst S dX0_addRange_11 ?_
  refine z_icmp_lt_T S 17 dX0_addRange_12 (by decide) (by omega) (by omega) (by omega) ?_
  refine z_aload_n S dX0_addRange_17 hl 0 rfl rfl ?_
  refine z_get S hG hA1 zc_X0 2 (by decide) q1_48 rfl rfl dX0_addRange_18 ?_
  refine z_aload_n S dX0_addRange_21 hl 0 rfl rfl ?_
  refine z_get S hG hA1 zc_X0 3 (by decide) q1_49 rfl rfl dX0_addRange_22 ?_
  refine z_aload_n S dX0_addRange_25 hl 1 rfl rfl ?_
  obtain ⟨cv, kv, o1, o2, o3, o4⟩ := z_ob hG hQ zc_X1
  refine z_aast S hG 1 rfl hA4 hS (Or.inr (Or.inl rfl)) (C := "Cyclepaint$Range") o1 o2 o3 o4 vb_asgS (i := σ.rn) (by omega) (by decide) dX0_addRange_26 (fun H_1 L_1 hat hz oq hS => ?_)
  have hA1 := va_at.kept hA1 (oq _ (show a 4 ≠ a 1 by omega).symm)
  have hA2 := va_at.kept hA2 (oq _ (show a 4 ≠ a 2 by omega).symm)
  have hA3 := va_at.kept hA3 (oq _ (show a 4 ≠ a 3 by omega).symm)
  have hQ := va_at.kept hQ (oq _ (show a 4 ≠ q by omega).symm)
  have hR := fun (j : Int) j0 j1 => va_at.kept (hR j j0 j1) (oq _ ((fun z => by have := hd _ 4 (cL_r j0 j1) (cL_s (by decide)) z; omega)))
  have hA4 : va_at G.1 vwCl (a 4, .inl (G.2 1, 4, .inr (.inr (.inr (.inr (zC (rgX (addS σ f len sp k) (fun t => addA σ a q (8 + t.toNat))))))))) H_1 := by rw [rgX_add hrn.1]; exact hat
  refine z_aload_n S dX0_addRange_27 hl 0 rfl rfl ?_
  refine z_dup S dX0_addRange_28 rfl ?_
  refine z_get S hG hA1 zc_X0 3 (by decide) q1_49 rfl rfl dX0_addRange_29 ?_
  refine z_iconst S dX0_addRange_32 ?_
  refine z_iadd S dX0_addRange_33 ?_
  refine z_putR S hG hA1 zc_X0 tyX0 tyX0_ok nmX0 hS (Or.inl rfl) 3 (by decide) q1_49 rfl (tyX0_ok 3 (by decide)) rfl rfl (Nat.le_of_ble_eq_true rfl) dX0_addRange_34 (fun H_2 L_2 hat hz oq hS => ?_)
  have hA2 := va_at.kept hA2 (oq _ (show a 1 ≠ a 2 by omega).symm)
  have hA3 := va_at.kept hA3 (oq _ (show a 1 ≠ a 3 by omega).symm)
  have hQ := va_at.kept hQ (oq _ (show a 1 ≠ q by omega).symm)
  have hR := fun (j : Int) j0 j1 => va_at.kept (hR j j0 j1) (oq _ ((fun z => by have := hd _ 1 (cL_r j0 j1) (cL_s (by decide)) z; omega)))
  have hA4 := va_at.kept hA4 (oq _ (show a 1 ≠ a 4 by omega).symm)
  have hA1 := hat
  refine z_aload_n S dX0_addRange_37 hl 0 rfl rfl ?_
  have hRd : ∀ t : Int, 0 ≤ t → t < (addS σ f len sp k).rn → hRng G (addA σ a q (8 + t.toNat)) ((addS σ f len sp k).F t) ((addS σ f len sp k).L t) ((addS σ f len sp k).S t) ((addS σ f len sp k).K t) H_2 := by
    intro t t0 t1
    have t1x : t < σ.rn + 1 := t1
    show hRng G _ (up σ.F σ.rn f t) (up σ.L σ.rn len t) (up σ.S σ.rn sp t) (up σ.K σ.rn k t) _
    by_cases g : t = σ.rn
    · rw [g, up_s, up_s, up_s, up_s, addA_q]; exact hQ
    · rw [up_n g, up_n g, up_n g, up_n g, addA_o (by omega)]; exact hR t t0 (by omega)
  have hRn : ∀ t : Int, 0 ≤ t → t < (addS σ f len sp k).rn → addA σ a q (8 + t.toNat) ≠ a 3 := by
    intro t t0 t1 z
    have t1x : t < σ.rn + 1 := t1
    by_cases g : t = σ.rn
    · rw [g, addA_q] at z; exact hqn 3 (cL_s (by decide)) z.symm
    · rw [addA_o (by omega)] at z; have := hd _ 3 (cL_r t0 (by omega)) (cL_s (by decide)) z; omega
  refine z_callM S hG hS (c_X0_num l G (addS σ f len sp k) (a 1) (a 2) (a 3) (a 4) (fun t => addA σ a q (8 + t.toNat)) (rgOf σ) (okR_add hO h4 hok) hD e13 e43 hRn) (fun y h => Or.inr (Or.inr h)) ok_X0_numberEntries hA1 zc_X0 rfl q3_23 (⟨hA1, hA3, hA4, hRd⟩) ⟨rfl, rfl, by decide, by decide⟩ ⟨Nat.le_of_ble_eq_true rfl, Nat.le_of_ble_eq_true rfl⟩ rfl (Nat.le_of_ble_eq_true rfl) hl.1 rfl dX0_addRange_38 (fun H_3 L_3 hB hz oq hS => ?_)
  have hA1 := va_at.kept hA1 (oq _ (va_lt hA1) (by show ¬ (_ = a 3); omega))
  have hA2 := va_at.kept hA2 (oq _ (va_lt hA2) (by show ¬ (_ = a 3); omega))
  have hA4 := va_at.kept hA4 (oq _ (va_lt hA4) (by show ¬ (_ = a 3); omega))
  have hPd : hPal G (addS σ f len sp k) (addA σ a q) H_3 := hPal_add hO h4 hok ⟨hA1, hB, hA4, fun t t0 t1 => va_at.kept (hRd t t0 t1) (oq _ (va_lt (hRd t t0 t1)) (hRn t t0 t1))⟩ hA2
  refine z_aload_n S dX0_addRange_41 hl 0 rfl rfl ?_
  refine z_get S hG hA1 zc_X0 3 (by decide) q1_49 rfl rfl dX0_addRange_42 ?_
  refine z_iconst S dX0_addRange_45 ?_
  refine z_isub S dX0_addRange_46 ?_
  exact ret _ _ _ _ _ _ _ dX0_addRange_47 (congrArg zI (by omega)) hS (hPd) (Nat.le_of_ble_eq_true rfl) (Nat.le_of_ble_eq_true rfl)
set_option maxHeartbeats 4000000 in
set_option maxRecDepth 100000 in
theorem c_X1_tell0 (l : Launch) (G : zG) (r : Nat) (f len s2 k2 : Int) (x1 x2 x3 : Int32) (hk2 : 0 ≤ k2 ∧ k2 ≤ 2) : Met l yX1_tell (wq yX1_tell cX1_tell 3 ((Option.none : Option Jvm.ClassFile.FieldType))) (rmM 0 0 0 0) (va_Pc [.ref (r), .int (zI (s2)), .int (zI (k2))] (zK G (fun H => va_at G.1 vwCl (r, .inr (5, [.int (zI f), .int (zI len), .int x1, .int x2, .int x3])) H))) (zM (fun q => q = r) none (fun H => hRng G r f len s2 k2 H)) 0 0 (fun q => q = r) := by
  refine z_enterMV (by decide +kernel) (Nat.le_of_ble_eq_true rfl) ?_
  intro p env s m below meth cod Q S hnm hG hP hS ret ls hl
  have hl : lv_has ls 3 [(0, .ref (r)), (1, .int (zI (s2))), (2, .int (zI (k2)))] := hl
  refine z_aload_n S dX1_tell_0 hl 0 rfl rfl ?_
  refine z_iload_n S dX1_tell_1 hl 1 rfl rfl ?_
  refine z_putR S hG hP zc_X1 tyX1 tyX1_ok nmX1 hS (rfl) 2 (by decide) q3_5 rfl (tyX1_ok 2 (by decide)) rfl rfl (Nat.le_of_ble_eq_true rfl) dX1_tell_2 (fun H_1 L_1 hat hz oq hS => ?_)
  have hP := hat
  refine z_aload_n S dX1_tell_5 hl 0 rfl rfl ?_
  refine z_iload_n S dX1_tell_6 hl 2 rfl rfl ?_
  refine z_putR S hG hP zc_X1 tyX1 tyX1_ok nmX1 hS (rfl) 3 (by decide) q3_6 rfl (tyX1_ok 3 (by decide)) rfl rfl (Nat.le_of_ble_eq_true rfl) dX1_tell_7 (fun H_2 L_2 hat hz oq hS => ?_)
  have hP := hat
  refine z_aload_n S dX1_tell_10 hl 0 rfl rfl ?_
  refine z_iload_n S dX1_tell_11 hl 2 rfl rfl ?_
  refine z_iconst S dX1_tell_12 ?_
  refine z_icmp_ne S 27 dX1_tell_13 (by decide) (by omega) (by omega) (fun c_13 => ?_) (fun c_13 => ?_)
  · skip
    refine z_aload_n S dX1_tell_27 hl 0 rfl rfl ?_
    refine z_get S hG hP zc_X1 1 (by decide) q3_4 rfl rfl dX1_tell_28 ?_
    refine z_putR S hG hP zc_X1 tyX1 tyX1_ok nmX1 hS (rfl) 4 (by decide) q3_7 rfl (tyX1_ok 4 (by decide)) rfl rfl (Nat.le_of_ble_eq_true rfl) dX1_tell_31 (fun H_3 L_3 hat hz oq hS => ?_)
    have hP := hat
    exact ret _ _ _ _ _ _ dX1_tell_34 hS (by unfold hRng cRng; rw [show cyc k2 len = len from by unfold cyc; first | rw [if_pos c_13] | rw [if_neg c_13] | (rw [if_neg (by simpa using c_13)]) | (rw [if_pos (by simpa using c_13)])]; exact hP) (Nat.le_of_ble_eq_true rfl) (Nat.le_of_ble_eq_true rfl)
  · skip
    refine z_iconst S dX1_tell_16 ?_
    refine z_aload_n S dX1_tell_17 hl 0 rfl rfl ?_
    refine z_get S hG hP zc_X1 1 (by decide) q3_4 rfl rfl dX1_tell_18 ?_
    refine z_imul S dX1_tell_21 ?_
    refine z_iconst S dX1_tell_22 ?_
    refine z_isub S dX1_tell_23 ?_
    refine z_goto S 31 dX1_tell_24 (by decide) ?_
    refine z_putR S hG hP zc_X1 tyX1 tyX1_ok nmX1 hS (rfl) 4 (by decide) q3_7 rfl (tyX1_ok 4 (by decide)) rfl rfl (Nat.le_of_ble_eq_true rfl) dX1_tell_31 (fun H_4 L_4 hat hz oq hS => ?_)
    have hP := hat
    exact ret _ _ _ _ _ _ dX1_tell_34 hS (by unfold hRng cRng; rw [show cyc k2 len = ((2) * (len)) - (2) from by unfold cyc; first | rw [if_pos c_13] | rw [if_neg c_13] | (rw [if_neg (by simpa using c_13)]) | (rw [if_pos (by simpa using c_13)])]; exact hP) (Nat.le_of_ble_eq_true rfl) (Nat.le_of_ble_eq_true rfl)
theorem dX1_init_0 : decode cX1_init 0 = .ok (.aload_n 0, 1) := by decide +kernel
theorem dX1_init_1 : decode cX1_init 1 = .ok (.invokespecial 3, 3) := by decide +kernel
theorem dX1_init_4 : decode cX1_init 4 = .ok (.aload_n 0, 1) := by decide +kernel
theorem dX1_init_5 : decode cX1_init 5 = .ok (.iload_n 1, 1) := by decide +kernel
theorem dX1_init_6 : decode cX1_init 6 = .ok (.putfield 9, 3) := by decide +kernel
theorem dX1_init_9 : decode cX1_init 9 = .ok (.aload_n 0, 1) := by decide +kernel
theorem dX1_init_10 : decode cX1_init 10 = .ok (.iload_n 2, 1) := by decide +kernel
theorem dX1_init_11 : decode cX1_init 11 = .ok (.iload_n 1, 1) := by decide +kernel
theorem dX1_init_12 : decode cX1_init 12 = .ok (.isub, 1) := by decide +kernel
theorem dX1_init_13 : decode cX1_init 13 = .ok (.iconst 1, 1) := by decide +kernel
theorem dX1_init_14 : decode cX1_init 14 = .ok (.iadd, 1) := by decide +kernel
theorem dX1_init_15 : decode cX1_init 15 = .ok (.putfield 15, 3) := by decide +kernel
theorem dX1_init_18 : decode cX1_init 18 = .ok (.aload_n 0, 1) := by decide +kernel
theorem dX1_init_19 : decode cX1_init 19 = .ok (.iload_n 3, 1) := by decide +kernel
theorem dX1_init_20 : decode cX1_init 20 = .ok (.iload 4, 2) := by decide +kernel
theorem dX1_init_22 : decode cX1_init 22 = .ok (.invokevirtual 18, 3) := by decide +kernel
theorem dX1_init_25 : decode cX1_init 25 = .ok (.return_, 1) := by decide +kernel
theorem q2_238 : (Jvm.Cond.methodLink "Cyclepaint$Range" (3 : Nat) ({ cls := "java/lang/Object", name := "<init>", desc := "()V" } : Jvm.MethodName)) ∈ lw_g := zg_of (zin2 (List.mem_of_getElem? (i := 238) rfl)) rfl
theorem q2_239 : (Jvm.Cond.methodLink "Cyclepaint$Range" (18 : Nat) ({ cls := "Cyclepaint$Range", name := "tell", desc := "(II)V" } : Jvm.MethodName)) ∈ lw_g := zg_of (zin2 (List.mem_of_getElem? (i := 239) rfl)) rfl
theorem q2_237 : (Jvm.Cond.code ({ cls := "Cyclepaint$Range", name := "<init>", desc := "(IIII)V" } : Jvm.MethodName) prog_3_method_1_code (5 : Nat) (Option.none : Option Jvm.ClassFile.FieldType)) ∈ lw_g := zg_of (zin2 (List.mem_of_getElem? (i := 237) rfl)) rfl
theorem ok_X1_init : zOK yX1_init cX1_init 5 ((Option.none : Option Jvm.ClassFile.FieldType)) 4 := ⟨q2_237, q1_14, by decide, by decide, by decide +kernel⟩
set_option maxHeartbeats 4000000 in
set_option maxRecDepth 100000 in
theorem c_X1_init (l : Launch) (G : zG) (r : Nat) (f u sp k : Int) (hk : 0 ≤ k ∧ k ≤ 2) : Met l yX1_init (wq yX1_init cX1_init 5 ((Option.none : Option Jvm.ClassFile.FieldType))) (rmM 1 22 0 0) (va_Pc [.ref (r), .int (zI (f)), .int (zI (u)), .int (zI (sp)), .int (zI (k))] (zK G (fun H => va_at G.1 vwCl (r, .inr (5, [.int 0, .int 0, .int 0, .int 0, .int 0])) H))) (zM (fun y => y = r) none (fun H => hRng G r f (u - f + 1) sp k H)) 0 0 (fun y => y = r) := by
  refine z_enterMV (by decide +kernel) (Nat.le_of_ble_eq_true rfl) ?_
  intro p env s m below meth cod Q S hnm hG hP hS ret ls hl
  have hl : lv_has ls 5 [(0, .ref (r)), (1, .int (zI (f))), (2, .int (zI (u))), (3, .int (zI (sp))), (4, .int (zI (k)))] := hl
  have hQ := hP
  refine z_aload_n S dX1_init_0 hl 0 rfl rfl ?_
  refine z_objInit S hl.1 q2_238 q1_36 (by exact q1_37) dX1_init_1 (Nat.le_of_ble_eq_true rfl) (Nat.le_of_ble_eq_true rfl) ?_
  refine z_aload_n S dX1_init_4 hl 0 rfl rfl ?_
  refine z_iload_n S dX1_init_5 hl 1 rfl rfl ?_
  refine z_putF S hG hQ zc_X1 tyX1 tyX1_ok nmX1 hS (rfl) 0 (by decide) q3_3 rfl hnm rfl (tyX1_ok 0 (by decide)) rfl rfl (Nat.le_of_ble_eq_true rfl) dX1_init_6 (fun H_1 L_1 hat hz oq hS => ?_)
  have hQ := hat
  refine z_aload_n S dX1_init_9 hl 0 rfl rfl ?_
  refine z_iload_n S dX1_init_10 hl 2 rfl rfl ?_
  refine z_iload_n S dX1_init_11 hl 1 rfl rfl ?_
  refine z_isub S dX1_init_12 ?_
  refine z_iconst S dX1_init_13 ?_
  refine z_iadd S dX1_init_14 ?_
  refine z_putF S hG hQ zc_X1 tyX1 tyX1_ok nmX1 hS (rfl) 1 (by decide) q3_4 rfl hnm rfl (tyX1_ok 1 (by decide)) rfl rfl (Nat.le_of_ble_eq_true rfl) dX1_init_15 (fun H_2 L_2 hat hz oq hS => ?_)
  have hQ := hat
  refine z_aload_n S dX1_init_18 hl 0 rfl rfl ?_
  refine z_iload_n S dX1_init_19 hl 3 rfl rfl ?_
  refine z_iload S dX1_init_20 hl 4 rfl ?_
  refine z_callM S hG hS (c_X1_tell0 l G r f (u - f + 1) sp k (0 : Int32) (0 : Int32) (0 : Int32) hk) (fun _ h => h) ok_X1_tell hQ zc_X1 rfl q2_239 (hQ) ⟨rfl, rfl, by decide, by decide⟩ ⟨Nat.le_of_ble_eq_true rfl, Nat.le_of_ble_eq_true rfl⟩ rfl (Nat.le_of_ble_eq_true rfl) hl.1 rfl dX1_init_22 (fun H_3 L_3 hB hz oq hS => ?_)
  exact ret _ _ _ _ _ _ dX1_init_25 hS (hB) (Nat.le_of_ble_eq_true rfl) (Nat.le_of_ble_eq_true rfl)
