/-! the model's slot: its loops -/
section MDL3
variable {D : vDD} {m : vMM} {f : Nat → Int32} {z : vZZ} {Q : Value → vDD → vMM → vZZ → Prop} {nF nT : Nat}
theorem WF.lpi {g : Nat → (Nat → Int32) → (Nat → Int32)} {n : Nat} (h : WF f nF nT) (hg : ∀ i, i < n → ∀ f', WF f' nF nT → WF (g i f') nF nT) (k : Nat) (hk : k ≤ n) : WF (lpF g k f) nF nT := h.lp (fun i hi => hg i (by omega))
theorem l_works (hM : IsMo D) (hW : WF f nF nT) : ∀ k i, i + k = nF → Runs MX7_works 2 [.ref 853, .int (nI i)] [] D (eM m (lpF workF i f)) z Q = Q vJ D (eM m (lpF workF nF f)) z := by
  have h1 := hM
  simp only [IsMo] at h1
  intro k
  induction k with
  | zero =>
    intro i hi
    obtain rfl : i = nF := by omega
    have hWi := hW.lpi (n := i) (fun i hi f' h' => WF.work h' hi) i (Nat.le_refl _)
    obtain ⟨⟨g2, hF, g3, hT⟩, -⟩ := id hWi
    rw [sX7_works_2]
    simp (disch := omega) only [sX7_works_0, sX7_works_1, sX7_works_3, sX7_works_4, sX7_works_7, sX7_works_8, sX7_works_9, sX7_works_12, sX7_works_13, sX7_works_14, sX7_works_15, sX7_works_18, sX7_works_20, sX7_works_23, sX7_works_24, sX7_works_25, sX7_works_26, sX7_works_27, sX7_works_28, sX7_works_29, sX7_works_32, sX7_works_33, sX7_works_34, sX7_works_35, sX7_works_38, sX7_works_39, sX7_works_42, sX7_works_43, sX7_works_44, sX7_works_45, sX7_works_48, sX7_works_51, sX7_works_52, sX7_works_53, sX7_works_56, sX7_works_59, sX7_works_62, h1, true_and, and_true, true_or, or_true, eq_self, ↓reduceIte, if_true, if_false, nI_add, nI_mul, inB_nI, nI_clamp, Nat.add_zero, eqI, ltI, leI, m6_ne, ne_m6, Nat.reduceEqDiff, reduceCtorEq, Nat.reduceLT, Nat.reduceLeDiff, Nat.reduceAdd, Nat.reduceMul, Nat.zero_add, Nat.mul_zero, nar_0, nar_1, nar_b, bI_t, bI_f, bI_0, bI_1, Bool.true_eq_false, Bool.false_eq_true, Bool.and_self, Bool.and_false, Bool.false_and, Bool.true_and, Bool.and_true, and_self, eM_gG, g2, Nat.le_refl]
  | succ k ih =>
    intro i hi
    have hWi := hW.lpi (n := nF) (fun i hi f' h' => WF.work h' hi) i (by omega)
    have hlt : ¬ nF ≤ i := by omega
    have ih := ih (i + 1) (by omega)
    rw [lpF_s] at ih
    generalize lpF workF i f = g at hWi ih ⊢
    obtain ⟨⟨g2, hF, g3, hT⟩, -, -, hWX, -⟩ := id hWi
    rw [sX7_works_2]
    rcases (hWX i (by omega)).1 with e | ⟨t, ht, e1, e2⟩
    · have ew : workF i g = g := by unfold workF; rw [if_pos e]
      rw [ew] at ih
      simp (disch := omega) only [sX7_works_0, sX7_works_1, sX7_works_3, sX7_works_4, sX7_works_7, sX7_works_8, sX7_works_9, sX7_works_12, sX7_works_13, sX7_works_14, sX7_works_15, sX7_works_18, sX7_works_20, sX7_works_23, sX7_works_24, sX7_works_25, sX7_works_26, sX7_works_27, sX7_works_28, sX7_works_29, sX7_works_32, sX7_works_33, sX7_works_34, sX7_works_35, sX7_works_38, sX7_works_39, sX7_works_42, sX7_works_43, sX7_works_44, sX7_works_45, sX7_works_48, sX7_works_51, sX7_works_52, sX7_works_53, sX7_works_56, sX7_works_59, sX7_works_62, h1, true_and, and_true, true_or, or_true, eq_self, ↓reduceIte, if_true, if_false, nI_add, nI_mul, inB_nI, nI_clamp, Nat.add_zero, eqI, ltI, leI, m6_ne, ne_m6, Nat.reduceEqDiff, reduceCtorEq, Nat.reduceLT, Nat.reduceLeDiff, Nat.reduceAdd, Nat.reduceMul, Nat.zero_add, Nat.mul_zero, nar_0, nar_1, nar_b, bI_t, bI_f, bI_0, bI_1, Bool.true_eq_false, Bool.false_eq_true, Bool.and_self, Bool.and_false, Bool.false_and, Bool.true_and, Bool.and_true, and_self, eM_gG, g2, hlt, c_ofFixer hM, e, ih]
    · by_cases hl : gF g i 4 - gF g i 1 ≤ nI 0
      · have ew : workF i g = endsStepF (sF g i 4 (gF g i 4 - gF g i 1)) i t := by unfold workF; rw [e1, if_neg (nI_nm6 (by omega)), if_pos hl, nI_clamp (by omega)]
        rw [ew] at ih
        have hes : ∀ Q, Runs MX7_endsStep 0 [.ref 853, .int (nI i), vJ] [] D (eM m (sF g i 4 (gF g i 4 - gF g i 1))) z Q = Q vJ D (eM m (endsStepF (sF g i 4 (gF g i 4 - gF g i 1)) i t)) z := fun Q => c_endsStep hM (by omega) (by omega) (by rw [gF_sFk (by decide)]; exact e1)
        have hl2 : ¬ nI 0 < gF g i 4 - gF g i 1 := Int32.not_lt.mpr hl
        simp (disch := omega) only [sX7_works_0, sX7_works_1, sX7_works_3, sX7_works_4, sX7_works_7, sX7_works_8, sX7_works_9, sX7_works_12, sX7_works_13, sX7_works_14, sX7_works_15, sX7_works_18, sX7_works_20, sX7_works_23, sX7_works_24, sX7_works_25, sX7_works_26, sX7_works_27, sX7_works_28, sX7_works_29, sX7_works_32, sX7_works_33, sX7_works_34, sX7_works_35, sX7_works_38, sX7_works_39, sX7_works_42, sX7_works_43, sX7_works_44, sX7_works_45, sX7_works_48, sX7_works_51, sX7_works_52, sX7_works_53, sX7_works_56, sX7_works_59, sX7_works_62, h1, true_and, and_true, true_or, or_true, eq_self, ↓reduceIte, if_true, if_false, nI_add, nI_mul, inB_nI, nI_clamp, Nat.add_zero, eqI, ltI, leI, m6_ne, ne_m6, Nat.reduceEqDiff, reduceCtorEq, Nat.reduceLT, Nat.reduceLeDiff, Nat.reduceAdd, Nat.reduceMul, Nat.zero_add, Nat.mul_zero, nar_0, nar_1, nar_b, bI_t, bI_f, bI_0, bI_1, Bool.true_eq_false, Bool.false_eq_true, Bool.and_self, Bool.and_false, Bool.false_and, Bool.true_and, Bool.and_true, and_self, eM_gG, g2, hlt, c_ofFixer hM, c_setFixer hM, e1, gF_sF, hl, hl2, hes, ih]
      · have ew : workF i g = sF g i 4 (gF g i 4 - gF g i 1) := by unfold workF; rw [e1, if_neg (nI_nm6 (by omega)), if_neg hl]
        rw [ew] at ih
        have hl2 : nI 0 < gF g i 4 - gF g i 1 := Int32.not_le.mp hl
        simp (disch := omega) only [sX7_works_0, sX7_works_1, sX7_works_3, sX7_works_4, sX7_works_7, sX7_works_8, sX7_works_9, sX7_works_12, sX7_works_13, sX7_works_14, sX7_works_15, sX7_works_18, sX7_works_20, sX7_works_23, sX7_works_24, sX7_works_25, sX7_works_26, sX7_works_27, sX7_works_28, sX7_works_29, sX7_works_32, sX7_works_33, sX7_works_34, sX7_works_35, sX7_works_38, sX7_works_39, sX7_works_42, sX7_works_43, sX7_works_44, sX7_works_45, sX7_works_48, sX7_works_51, sX7_works_52, sX7_works_53, sX7_works_56, sX7_works_59, sX7_works_62, h1, true_and, and_true, true_or, or_true, eq_self, ↓reduceIte, if_true, if_false, nI_add, nI_mul, inB_nI, nI_clamp, Nat.add_zero, eqI, ltI, leI, m6_ne, ne_m6, Nat.reduceEqDiff, reduceCtorEq, Nat.reduceLT, Nat.reduceLeDiff, Nat.reduceAdd, Nat.reduceMul, Nat.zero_add, Nat.mul_zero, nar_0, nar_1, nar_b, bI_t, bI_f, bI_0, bI_1, Bool.true_eq_false, Bool.false_eq_true, Bool.and_self, Bool.and_false, Bool.false_and, Bool.true_and, Bool.and_true, and_self, eM_gG, g2, hlt, c_ofFixer hM, c_setFixer hM, e1, gF_sF, hl, hl2, ih]
theorem c_works (hM : IsMo D) (hW : WF f nF nT) : Runs MX7_works 0 [.ref 853, vJ] [] D (eM m f) z Q = Q vJ D (eM m (worksF f)) z := by
  have h0 := l_works (D := D) (m := m) (z := z) (Q := Q) hM hW nF 0 (by omega)
  simp only [sX7_works_0, sX7_works_1]
  unfold worksF
  rw [hW.ns.1]
  exact h0
theorem l_longestFor (hM : IsMo D) (hW : WF f nF nT) {i : Nat} (hi : i < nF) : ∀ k t, t + k = nT → Runs MX7_longestFor 5 [.ref 853, .int (nI i), .int (lgF f i t), .int (nI t)] [] D (eM m f) z Q = Q (.int (lgF f i nT)) D (eM m f) z := by
  have h1 := hM
  simp only [IsMo] at h1
  obtain ⟨⟨g2, hF, g3, hT⟩, -, hWT, hWX, -⟩ := id hW
  intro k
  induction k with
  | zero =>
    intro t ht
    obtain rfl : t = nT := by omega
    rw [sX7_longestFor_5]
    simp (disch := omega) only [sX7_longestFor_0, sX7_longestFor_2, sX7_longestFor_3, sX7_longestFor_4, sX7_longestFor_6, sX7_longestFor_7, sX7_longestFor_10, sX7_longestFor_11, sX7_longestFor_12, sX7_longestFor_15, sX7_longestFor_16, sX7_longestFor_17, sX7_longestFor_18, sX7_longestFor_21, sX7_longestFor_24, sX7_longestFor_25, sX7_longestFor_27, sX7_longestFor_30, sX7_longestFor_31, sX7_longestFor_32, sX7_longestFor_33, sX7_longestFor_36, sX7_longestFor_37, sX7_longestFor_38, sX7_longestFor_39, sX7_longestFor_42, sX7_longestFor_45, sX7_longestFor_46, sX7_longestFor_49, sX7_longestFor_50, sX7_longestFor_51, sX7_longestFor_54, sX7_longestFor_57, sX7_longestFor_58, h1, true_and, and_true, true_or, or_true, eq_self, ↓reduceIte, if_true, if_false, nI_add, nI_mul, inB_nI, nI_clamp, Nat.add_zero, eqI, ltI, leI, m6_ne, ne_m6, Nat.reduceEqDiff, reduceCtorEq, Nat.reduceLT, Nat.reduceLeDiff, Nat.reduceAdd, Nat.reduceMul, Nat.zero_add, Nat.mul_zero, nar_0, nar_1, nar_b, bI_t, bI_f, bI_0, bI_1, Bool.true_eq_false, Bool.false_eq_true, Bool.and_self, Bool.and_false, Bool.false_and, Bool.true_and, Bool.and_true, and_self, eM_gG, g3, Nat.le_refl]
  | succ k ih =>
    intro t ht
    have hlt : ¬ nT ≤ t := by omega
    have ih := ih (t + 1) (by omega)
    simp only [lgF] at ih
    rw [sX7_longestFor_5]
    have hct : ∀ Q, Runs MX7_canTake 0 [.ref 853, .int (nI i), .int (nI t)] [] D (eM m f) z Q = Q (.int (bI (canF f i t))) D (eM m f) z := fun Q => c_canTake hM (by omega) (by omega) (hWT t (by omega)).okT
    cases hc : canF f i t with
    | false =>
      rw [hc] at ih
      simp only [Bool.false_and, Bool.false_eq_true, if_false] at ih
      simp (disch := omega) only [sX7_longestFor_0, sX7_longestFor_2, sX7_longestFor_3, sX7_longestFor_4, sX7_longestFor_6, sX7_longestFor_7, sX7_longestFor_10, sX7_longestFor_11, sX7_longestFor_12, sX7_longestFor_15, sX7_longestFor_16, sX7_longestFor_17, sX7_longestFor_18, sX7_longestFor_21, sX7_longestFor_24, sX7_longestFor_25, sX7_longestFor_27, sX7_longestFor_30, sX7_longestFor_31, sX7_longestFor_32, sX7_longestFor_33, sX7_longestFor_36, sX7_longestFor_37, sX7_longestFor_38, sX7_longestFor_39, sX7_longestFor_42, sX7_longestFor_45, sX7_longestFor_46, sX7_longestFor_49, sX7_longestFor_50, sX7_longestFor_51, sX7_longestFor_54, sX7_longestFor_57, sX7_longestFor_58, h1, true_and, and_true, true_or, or_true, eq_self, ↓reduceIte, if_true, if_false, nI_add, nI_mul, inB_nI, nI_clamp, Nat.add_zero, eqI, ltI, leI, m6_ne, ne_m6, Nat.reduceEqDiff, reduceCtorEq, Nat.reduceLT, Nat.reduceLeDiff, Nat.reduceAdd, Nat.reduceMul, Nat.zero_add, Nat.mul_zero, nar_0, nar_1, nar_b, bI_t, bI_f, bI_0, bI_1, Bool.true_eq_false, Bool.false_eq_true, Bool.and_self, Bool.and_false, Bool.false_and, Bool.true_and, Bool.and_true, and_self, eM_gG, g3, hlt, hct, hc, ih]
    | true =>
      rw [hc] at ih
      simp only [Bool.true_and] at ih
      rcases lgF_spec (f := f) (i := i) t with e | ⟨u, hu, e, -⟩
      · rw [e] at ih ⊢
        simp only [beq_self_eq_true, Bool.true_or, if_true] at ih
        simp (disch := omega) only [sX7_longestFor_0, sX7_longestFor_2, sX7_longestFor_3, sX7_longestFor_4, sX7_longestFor_6, sX7_longestFor_7, sX7_longestFor_10, sX7_longestFor_11, sX7_longestFor_12, sX7_longestFor_15, sX7_longestFor_16, sX7_longestFor_17, sX7_longestFor_18, sX7_longestFor_21, sX7_longestFor_24, sX7_longestFor_25, sX7_longestFor_27, sX7_longestFor_30, sX7_longestFor_31, sX7_longestFor_32, sX7_longestFor_33, sX7_longestFor_36, sX7_longestFor_37, sX7_longestFor_38, sX7_longestFor_39, sX7_longestFor_42, sX7_longestFor_45, sX7_longestFor_46, sX7_longestFor_49, sX7_longestFor_50, sX7_longestFor_51, sX7_longestFor_54, sX7_longestFor_57, sX7_longestFor_58, h1, true_and, and_true, true_or, or_true, eq_self, ↓reduceIte, if_true, if_false, nI_add, nI_mul, inB_nI, nI_clamp, Nat.add_zero, eqI, ltI, leI, m6_ne, ne_m6, Nat.reduceEqDiff, reduceCtorEq, Nat.reduceLT, Nat.reduceLeDiff, Nat.reduceAdd, Nat.reduceMul, Nat.zero_add, Nat.mul_zero, nar_0, nar_1, nar_b, bI_t, bI_f, bI_0, bI_1, Bool.true_eq_false, Bool.false_eq_true, Bool.and_self, Bool.and_false, Bool.false_and, Bool.true_and, Bool.and_true, and_self, eM_gG, g3, hlt, hct, hc, ih]
      · rw [e] at ih ⊢
        have hne : (nI u == m6) = false := beq_eq_false_iff_ne.mpr (nI_nm6 (by omega))
        rw [nI_clamp (by omega)] at ih
        by_cases hg : gT f u 3 < gT f t 3
        · have hg2 : ¬ gT f t 3 ≤ gT f u 3 := Int32.not_le.mpr hg
          simp only [hne, Bool.false_or, hg, decide_true, if_true] at ih
          simp (disch := omega) only [sX7_longestFor_0, sX7_longestFor_2, sX7_longestFor_3, sX7_longestFor_4, sX7_longestFor_6, sX7_longestFor_7, sX7_longestFor_10, sX7_longestFor_11, sX7_longestFor_12, sX7_longestFor_15, sX7_longestFor_16, sX7_longestFor_17, sX7_longestFor_18, sX7_longestFor_21, sX7_longestFor_24, sX7_longestFor_25, sX7_longestFor_27, sX7_longestFor_30, sX7_longestFor_31, sX7_longestFor_32, sX7_longestFor_33, sX7_longestFor_36, sX7_longestFor_37, sX7_longestFor_38, sX7_longestFor_39, sX7_longestFor_42, sX7_longestFor_45, sX7_longestFor_46, sX7_longestFor_49, sX7_longestFor_50, sX7_longestFor_51, sX7_longestFor_54, sX7_longestFor_57, sX7_longestFor_58, h1, true_and, and_true, true_or, or_true, eq_self, ↓reduceIte, if_true, if_false, nI_add, nI_mul, inB_nI, nI_clamp, Nat.add_zero, eqI, ltI, leI, m6_ne, ne_m6, Nat.reduceEqDiff, reduceCtorEq, Nat.reduceLT, Nat.reduceLeDiff, Nat.reduceAdd, Nat.reduceMul, Nat.zero_add, Nat.mul_zero, nar_0, nar_1, nar_b, bI_t, bI_f, bI_0, bI_1, Bool.true_eq_false, Bool.false_eq_true, Bool.and_self, Bool.and_false, Bool.false_and, Bool.true_and, Bool.and_true, and_self, eM_gG, g3, hlt, hct, hc, c_ofThing hM, hg, hg2, ih]
        · have hg2 : gT f t 3 ≤ gT f u 3 := Int32.not_lt.mp hg
          simp only [hne, Bool.false_or, hg, decide_false, Bool.false_eq_true, if_false] at ih
          simp (disch := omega) only [sX7_longestFor_0, sX7_longestFor_2, sX7_longestFor_3, sX7_longestFor_4, sX7_longestFor_6, sX7_longestFor_7, sX7_longestFor_10, sX7_longestFor_11, sX7_longestFor_12, sX7_longestFor_15, sX7_longestFor_16, sX7_longestFor_17, sX7_longestFor_18, sX7_longestFor_21, sX7_longestFor_24, sX7_longestFor_25, sX7_longestFor_27, sX7_longestFor_30, sX7_longestFor_31, sX7_longestFor_32, sX7_longestFor_33, sX7_longestFor_36, sX7_longestFor_37, sX7_longestFor_38, sX7_longestFor_39, sX7_longestFor_42, sX7_longestFor_45, sX7_longestFor_46, sX7_longestFor_49, sX7_longestFor_50, sX7_longestFor_51, sX7_longestFor_54, sX7_longestFor_57, sX7_longestFor_58, h1, true_and, and_true, true_or, or_true, eq_self, ↓reduceIte, if_true, if_false, nI_add, nI_mul, inB_nI, nI_clamp, Nat.add_zero, eqI, ltI, leI, m6_ne, ne_m6, Nat.reduceEqDiff, reduceCtorEq, Nat.reduceLT, Nat.reduceLeDiff, Nat.reduceAdd, Nat.reduceMul, Nat.zero_add, Nat.mul_zero, nar_0, nar_1, nar_b, bI_t, bI_f, bI_0, bI_1, Bool.true_eq_false, Bool.false_eq_true, Bool.and_self, Bool.and_false, Bool.false_and, Bool.true_and, Bool.and_true, and_self, eM_gG, g3, hlt, hct, hc, c_ofThing hM, hg, hg2, ih]
theorem c_longestFor (hM : IsMo D) (hW : WF f nF nT) {i : Nat} (hi : i < nF) : Runs MX7_longestFor 0 [.ref 853, .int (nI i), vJ, vJ] [] D (eM m f) z Q = Q (.int (lgF f i nT)) D (eM m f) z := by
  have h0 := l_longestFor (D := D) (m := m) (z := z) (Q := Q) hM hW hi nT 0 (by omega)
  simp only [sX7_longestFor_0, sX7_longestFor_2, sX7_longestFor_3, sX7_longestFor_4]
  exact h0
theorem l_takeAll (hM : IsMo D) (hW : WF f nF nT) : ∀ k i, i + k = nF → ∀ v, Runs MX7_takeAll 2 [.ref 853, .int (nI i), v] [] D (eM m (lpF (takeF nT) i f)) z Q = Q vJ D (eM m (lpF (takeF nT) nF f)) z := by
  have h1 := hM
  simp only [IsMo] at h1
  intro k
  induction k with
  | zero =>
    intro i hi v
    obtain rfl : i = nF := by omega
    have hWi := hW.lpi (n := i) (fun i hi f' h' => WF.take h' hi) i (Nat.le_refl _)
    obtain ⟨⟨g2, hF, g3, hT⟩, -⟩ := id hWi
    rw [sX7_takeAll_2]
    simp (disch := omega) only [sX7_takeAll_0, sX7_takeAll_1, sX7_takeAll_3, sX7_takeAll_4, sX7_takeAll_7, sX7_takeAll_8, sX7_takeAll_9, sX7_takeAll_12, sX7_takeAll_13, sX7_takeAll_14, sX7_takeAll_17, sX7_takeAll_20, sX7_takeAll_21, sX7_takeAll_22, sX7_takeAll_25, sX7_takeAll_28, sX7_takeAll_30, sX7_takeAll_31, sX7_takeAll_32, sX7_takeAll_34, sX7_takeAll_37, sX7_takeAll_38, sX7_takeAll_39, sX7_takeAll_40, sX7_takeAll_43, sX7_takeAll_46, sX7_takeAll_49, h1, true_and, and_true, true_or, or_true, eq_self, ↓reduceIte, if_true, if_false, nI_add, nI_mul, inB_nI, nI_clamp, Nat.add_zero, eqI, ltI, leI, m6_ne, ne_m6, Nat.reduceEqDiff, reduceCtorEq, Nat.reduceLT, Nat.reduceLeDiff, Nat.reduceAdd, Nat.reduceMul, Nat.zero_add, Nat.mul_zero, nar_0, nar_1, nar_b, bI_t, bI_f, bI_0, bI_1, Bool.true_eq_false, Bool.false_eq_true, Bool.and_self, Bool.and_false, Bool.false_and, Bool.true_and, Bool.and_true, and_self, eM_gG, g2, Nat.le_refl]
  | succ k ih =>
    intro i hi v
    have hWi := hW.lpi (n := nF) (fun i hi f' h' => WF.take h' hi) i (by omega)
    have hlt : ¬ nF ≤ i := by omega
    have ih := ih (i + 1) (by omega)
    rw [lpF_s] at ih
    generalize lpF (takeF nT) i f = g at hWi ih ⊢
    obtain ⟨⟨g2, hF, g3, hT⟩, -, hWT, hWX, -⟩ := id hWi
    rw [sX7_takeAll_2]
    have hlf : ∀ Q, Runs MX7_longestFor 0 [.ref 853, .int (nI i), vJ, vJ] [] D (eM m g) z Q = Q (.int (lgF g i nT)) D (eM m g) z := fun Q => c_longestFor hM hWi (by omega)
    cases hfr : freeF g i with
    | false =>
      have ew : takeF nT i g = g := by unfold takeF; rw [hfr]; rfl
      rw [ew] at ih
      simp (disch := omega) only [sX7_takeAll_0, sX7_takeAll_1, sX7_takeAll_3, sX7_takeAll_4, sX7_takeAll_7, sX7_takeAll_8, sX7_takeAll_9, sX7_takeAll_12, sX7_takeAll_13, sX7_takeAll_14, sX7_takeAll_17, sX7_takeAll_20, sX7_takeAll_21, sX7_takeAll_22, sX7_takeAll_25, sX7_takeAll_28, sX7_takeAll_30, sX7_takeAll_31, sX7_takeAll_32, sX7_takeAll_34, sX7_takeAll_37, sX7_takeAll_38, sX7_takeAll_39, sX7_takeAll_40, sX7_takeAll_43, sX7_takeAll_46, sX7_takeAll_49, h1, true_and, and_true, true_or, or_true, eq_self, ↓reduceIte, if_true, if_false, nI_add, nI_mul, inB_nI, nI_clamp, Nat.add_zero, eqI, ltI, leI, m6_ne, ne_m6, Nat.reduceEqDiff, reduceCtorEq, Nat.reduceLT, Nat.reduceLeDiff, Nat.reduceAdd, Nat.reduceMul, Nat.zero_add, Nat.mul_zero, nar_0, nar_1, nar_b, bI_t, bI_f, bI_0, bI_1, Bool.true_eq_false, Bool.false_eq_true, Bool.and_self, Bool.and_false, Bool.false_and, Bool.true_and, Bool.and_true, and_self, eM_gG, g2, hlt, c_isFree hM, hfr, ih]
    | true =>
      rcases lgF_spec (f := g) (i := i) nT with e | ⟨t, ht, e, hc⟩
      · have ew : takeF nT i g = g := by unfold takeF; rw [hfr, if_pos rfl, if_pos e]
        rw [ew] at ih
        simp (disch := omega) only [sX7_takeAll_0, sX7_takeAll_1, sX7_takeAll_3, sX7_takeAll_4, sX7_takeAll_7, sX7_takeAll_8, sX7_takeAll_9, sX7_takeAll_12, sX7_takeAll_13, sX7_takeAll_14, sX7_takeAll_17, sX7_takeAll_20, sX7_takeAll_21, sX7_takeAll_22, sX7_takeAll_25, sX7_takeAll_28, sX7_takeAll_30, sX7_takeAll_31, sX7_takeAll_32, sX7_takeAll_34, sX7_takeAll_37, sX7_takeAll_38, sX7_takeAll_39, sX7_takeAll_40, sX7_takeAll_43, sX7_takeAll_46, sX7_takeAll_49, h1, true_and, and_true, true_or, or_true, eq_self, ↓reduceIte, if_true, if_false, nI_add, nI_mul, inB_nI, nI_clamp, Nat.add_zero, eqI, ltI, leI, m6_ne, ne_m6, Nat.reduceEqDiff, reduceCtorEq, Nat.reduceLT, Nat.reduceLeDiff, Nat.reduceAdd, Nat.reduceMul, Nat.zero_add, Nat.mul_zero, nar_0, nar_1, nar_b, bI_t, bI_f, bI_0, bI_1, Bool.true_eq_false, Bool.false_eq_true, Bool.and_self, Bool.and_false, Bool.false_and, Bool.true_and, Bool.and_true, and_self, eM_gG, g2, hlt, c_isFree hM, hfr, hlf, e, ih]
      · have ew : takeF nT i g = takesF g i t := by unfold takeF; rw [hfr, if_pos rfl, e, if_neg (nI_nm6 (by omega)), nI_clamp (by omega)]
        rw [ew] at ih
        have htk : ∀ Q, Runs MX7_takes 0 [.ref 853, .int (nI i), .int (nI t), vJ] [] D (eM m g) z Q = Q vJ D (eM m (takesF g i t)) z := fun Q => c_takes hM (by omega) (by omega) (hWT t ht).okT
        simp (disch := omega) only [sX7_takeAll_0, sX7_takeAll_1, sX7_takeAll_3, sX7_takeAll_4, sX7_takeAll_7, sX7_takeAll_8, sX7_takeAll_9, sX7_takeAll_12, sX7_takeAll_13, sX7_takeAll_14, sX7_takeAll_17, sX7_takeAll_20, sX7_takeAll_21, sX7_takeAll_22, sX7_takeAll_25, sX7_takeAll_28, sX7_takeAll_30, sX7_takeAll_31, sX7_takeAll_32, sX7_takeAll_34, sX7_takeAll_37, sX7_takeAll_38, sX7_takeAll_39, sX7_takeAll_40, sX7_takeAll_43, sX7_takeAll_46, sX7_takeAll_49, h1, true_and, and_true, true_or, or_true, eq_self, ↓reduceIte, if_true, if_false, nI_add, nI_mul, inB_nI, nI_clamp, Nat.add_zero, eqI, ltI, leI, m6_ne, ne_m6, Nat.reduceEqDiff, reduceCtorEq, Nat.reduceLT, Nat.reduceLeDiff, Nat.reduceAdd, Nat.reduceMul, Nat.zero_add, Nat.mul_zero, nar_0, nar_1, nar_b, bI_t, bI_f, bI_0, bI_1, Bool.true_eq_false, Bool.false_eq_true, Bool.and_self, Bool.and_false, Bool.false_and, Bool.true_and, Bool.and_true, and_self, eM_gG, g2, hlt, c_isFree hM, hfr, hlf, e, htk, ih]
theorem c_takeAll (hM : IsMo D) (hW : WF f nF nT) : Runs MX7_takeAll 0 [.ref 853, vJ, vJ] [] D (eM m f) z Q = Q vJ D (eM m (takeAllF f)) z := by
  have h0 := l_takeAll (D := D) (m := m) (z := z) (Q := Q) hM hW nF 0 (by omega) vJ
  simp only [sX7_takeAll_0, sX7_takeAll_1]
  unfold takeAllF
  rw [hW.ns.1, hW.ns.2]
  exact h0
theorem l_waitOn (hM : IsMo D) (hW : WF f nF nT) : ∀ k i, i + k = nT → Runs MX7_waitOn 2 [.ref 853, .int (nI i)] [] D (eM m (lpF waitF i f)) z Q = Q vJ D (eM m (lpF waitF nT f)) z := by
  have h1 := hM
  simp only [IsMo] at h1
  intro k
  induction k with
  | zero =>
    intro i hi
    obtain rfl : i = nT := by omega
    have hWi := hW.lpi (n := i) (fun i hi f' h' => WF.wait h' hi) i (Nat.le_refl _)
    obtain ⟨⟨g2, hF, g3, hT⟩, -⟩ := id hWi
    rw [sX7_waitOn_2]
    simp (disch := omega) only [sX7_waitOn_0, sX7_waitOn_1, sX7_waitOn_3, sX7_waitOn_4, sX7_waitOn_7, sX7_waitOn_8, sX7_waitOn_9, sX7_waitOn_12, sX7_waitOn_13, sX7_waitOn_14, sX7_waitOn_15, sX7_waitOn_18, sX7_waitOn_21, sX7_waitOn_22, sX7_waitOn_23, sX7_waitOn_24, sX7_waitOn_25, sX7_waitOn_26, sX7_waitOn_27, sX7_waitOn_30, sX7_waitOn_31, sX7_waitOn_32, sX7_waitOn_35, sX7_waitOn_36, sX7_waitOn_37, sX7_waitOn_38, sX7_waitOn_41, sX7_waitOn_42, sX7_waitOn_45, sX7_waitOn_46, sX7_waitOn_47, sX7_waitOn_50, sX7_waitOn_51, sX7_waitOn_52, sX7_waitOn_53, sX7_waitOn_54, sX7_waitOn_57, sX7_waitOn_58, sX7_waitOn_59, sX7_waitOn_62, sX7_waitOn_63, sX7_waitOn_64, sX7_waitOn_67, sX7_waitOn_70, sX7_waitOn_73, h1, true_and, and_true, true_or, or_true, eq_self, ↓reduceIte, if_true, if_false, nI_add, nI_mul, inB_nI, nI_clamp, Nat.add_zero, eqI, ltI, leI, m6_ne, ne_m6, Nat.reduceEqDiff, reduceCtorEq, Nat.reduceLT, Nat.reduceLeDiff, Nat.reduceAdd, Nat.reduceMul, Nat.zero_add, Nat.mul_zero, nar_0, nar_1, nar_b, bI_t, bI_f, bI_0, bI_1, Bool.true_eq_false, Bool.false_eq_true, Bool.and_self, Bool.and_false, Bool.false_and, Bool.true_and, Bool.and_true, and_self, eM_gG, g3, Nat.le_refl]
  | succ k ih =>
    intro i hi
    have hWi := hW.lpi (n := nT) (fun i hi f' h' => WF.wait h' hi) i (by omega)
    have hlt : ¬ nT ≤ i := by omega
    have ih := ih (i + 1) (by omega)
    rw [lpF_s] at ih
    generalize lpF waitF i f = g at hWi ih ⊢
    obtain ⟨⟨g2, hF, g3, hT⟩, -⟩ := id hWi
    rw [sX7_waitOn_2]
    by_cases hw : gT g i 0 = nI 0
    · by_cases hg : gG g 0 < gT g i 3 + nI 1
      · have ew : waitF i g = sG (sT (sT g i 3 (gT g i 3 + nI 1)) i 0 (nI 3)) 347 (gG g 347 + nI 1) := by unfold waitF; rw [if_pos hw, if_pos hg]
        rw [ew] at ih
        have hg2 : ¬ gT g i 3 + nI 1 ≤ gG g 0 := Int32.not_le.mpr hg
        simp (disch := omega) only [sX7_waitOn_0, sX7_waitOn_1, sX7_waitOn_3, sX7_waitOn_4, sX7_waitOn_7, sX7_waitOn_8, sX7_waitOn_9, sX7_waitOn_12, sX7_waitOn_13, sX7_waitOn_14, sX7_waitOn_15, sX7_waitOn_18, sX7_waitOn_21, sX7_waitOn_22, sX7_waitOn_23, sX7_waitOn_24, sX7_waitOn_25, sX7_waitOn_26, sX7_waitOn_27, sX7_waitOn_30, sX7_waitOn_31, sX7_waitOn_32, sX7_waitOn_35, sX7_waitOn_36, sX7_waitOn_37, sX7_waitOn_38, sX7_waitOn_41, sX7_waitOn_42, sX7_waitOn_45, sX7_waitOn_46, sX7_waitOn_47, sX7_waitOn_50, sX7_waitOn_51, sX7_waitOn_52, sX7_waitOn_53, sX7_waitOn_54, sX7_waitOn_57, sX7_waitOn_58, sX7_waitOn_59, sX7_waitOn_62, sX7_waitOn_63, sX7_waitOn_64, sX7_waitOn_67, sX7_waitOn_70, sX7_waitOn_73, h1, true_and, and_true, true_or, or_true, eq_self, ↓reduceIte, if_true, if_false, nI_add, nI_mul, inB_nI, nI_clamp, Nat.add_zero, eqI, ltI, leI, m6_ne, ne_m6, Nat.reduceEqDiff, reduceCtorEq, Nat.reduceLT, Nat.reduceLeDiff, Nat.reduceAdd, Nat.reduceMul, Nat.zero_add, Nat.mul_zero, nar_0, nar_1, nar_b, bI_t, bI_f, bI_0, bI_1, Bool.true_eq_false, Bool.false_eq_true, Bool.and_self, Bool.and_false, Bool.false_and, Bool.true_and, Bool.and_true, and_self, eM_gG, g3, hlt, c_ofThing hM, c_setThing hM, hw, hg, hg2, gT_sT, gG_sT, eM_g9, eM_c9, ih]
      · have ew : waitF i g = sT g i 3 (gT g i 3 + nI 1) := by unfold waitF; rw [if_pos hw, if_neg hg]
        rw [ew] at ih
        have hg2 : gT g i 3 + nI 1 ≤ gG g 0 := Int32.not_lt.mp hg
        simp (disch := omega) only [sX7_waitOn_0, sX7_waitOn_1, sX7_waitOn_3, sX7_waitOn_4, sX7_waitOn_7, sX7_waitOn_8, sX7_waitOn_9, sX7_waitOn_12, sX7_waitOn_13, sX7_waitOn_14, sX7_waitOn_15, sX7_waitOn_18, sX7_waitOn_21, sX7_waitOn_22, sX7_waitOn_23, sX7_waitOn_24, sX7_waitOn_25, sX7_waitOn_26, sX7_waitOn_27, sX7_waitOn_30, sX7_waitOn_31, sX7_waitOn_32, sX7_waitOn_35, sX7_waitOn_36, sX7_waitOn_37, sX7_waitOn_38, sX7_waitOn_41, sX7_waitOn_42, sX7_waitOn_45, sX7_waitOn_46, sX7_waitOn_47, sX7_waitOn_50, sX7_waitOn_51, sX7_waitOn_52, sX7_waitOn_53, sX7_waitOn_54, sX7_waitOn_57, sX7_waitOn_58, sX7_waitOn_59, sX7_waitOn_62, sX7_waitOn_63, sX7_waitOn_64, sX7_waitOn_67, sX7_waitOn_70, sX7_waitOn_73, h1, true_and, and_true, true_or, or_true, eq_self, ↓reduceIte, if_true, if_false, nI_add, nI_mul, inB_nI, nI_clamp, Nat.add_zero, eqI, ltI, leI, m6_ne, ne_m6, Nat.reduceEqDiff, reduceCtorEq, Nat.reduceLT, Nat.reduceLeDiff, Nat.reduceAdd, Nat.reduceMul, Nat.zero_add, Nat.mul_zero, nar_0, nar_1, nar_b, bI_t, bI_f, bI_0, bI_1, Bool.true_eq_false, Bool.false_eq_true, Bool.and_self, Bool.and_false, Bool.false_and, Bool.true_and, Bool.and_true, and_self, eM_gG, g3, hlt, c_ofThing hM, c_setThing hM, hw, hg, hg2, gT_sT, gG_sT, eM_g9, eM_c9, ih]
    · have ew : waitF i g = g := by unfold waitF; rw [if_neg hw]
      rw [ew] at ih
      simp (disch := omega) only [sX7_waitOn_0, sX7_waitOn_1, sX7_waitOn_3, sX7_waitOn_4, sX7_waitOn_7, sX7_waitOn_8, sX7_waitOn_9, sX7_waitOn_12, sX7_waitOn_13, sX7_waitOn_14, sX7_waitOn_15, sX7_waitOn_18, sX7_waitOn_21, sX7_waitOn_22, sX7_waitOn_23, sX7_waitOn_24, sX7_waitOn_25, sX7_waitOn_26, sX7_waitOn_27, sX7_waitOn_30, sX7_waitOn_31, sX7_waitOn_32, sX7_waitOn_35, sX7_waitOn_36, sX7_waitOn_37, sX7_waitOn_38, sX7_waitOn_41, sX7_waitOn_42, sX7_waitOn_45, sX7_waitOn_46, sX7_waitOn_47, sX7_waitOn_50, sX7_waitOn_51, sX7_waitOn_52, sX7_waitOn_53, sX7_waitOn_54, sX7_waitOn_57, sX7_waitOn_58, sX7_waitOn_59, sX7_waitOn_62, sX7_waitOn_63, sX7_waitOn_64, sX7_waitOn_67, sX7_waitOn_70, sX7_waitOn_73, h1, true_and, and_true, true_or, or_true, eq_self, ↓reduceIte, if_true, if_false, nI_add, nI_mul, inB_nI, nI_clamp, Nat.add_zero, eqI, ltI, leI, m6_ne, ne_m6, Nat.reduceEqDiff, reduceCtorEq, Nat.reduceLT, Nat.reduceLeDiff, Nat.reduceAdd, Nat.reduceMul, Nat.zero_add, Nat.mul_zero, nar_0, nar_1, nar_b, bI_t, bI_f, bI_0, bI_1, Bool.true_eq_false, Bool.false_eq_true, Bool.and_self, Bool.and_false, Bool.false_and, Bool.true_and, Bool.and_true, and_self, eM_gG, g3, hlt, c_ofThing hM, hw, ih]
theorem c_waitOn (hM : IsMo D) (hW : WF f nF nT) : Runs MX7_waitOn 0 [.ref 853, vJ] [] D (eM m f) z Q = Q vJ D (eM m (waitOnF f)) z := by
  have h0 := l_waitOn (D := D) (m := m) (z := z) (Q := Q) hM hW nT 0 (by omega)
  simp only [sX7_waitOn_0, sX7_waitOn_1]
  unfold waitOnF
  rw [hW.ns.2]
  exact h0
theorem c_slot (hM : IsMo D) (hW : WF f nF nT) : Runs MX7_slot 0 [.ref 853] [] D (eM m f) z Q = Q vJ D (eM m (slotF f)) z := by
  have h1 := hM
  simp only [IsMo] at h1
  have a1 : ∀ Q, Runs MX7_works 0 [.ref 853, vJ] [] D (eM m f) z Q = Q vJ D (eM m (worksF f)) z := fun Q => c_works hM hW
  have a2 : ∀ Q, Runs MX7_takeAll 0 [.ref 853, vJ, vJ] [] D (eM m (worksF f)) z Q = Q vJ D (eM m (takeAllF (worksF f))) z := fun Q => c_takeAll hM hW.works
  have a3 : ∀ Q, Runs MX7_waitOn 0 [.ref 853, vJ] [] D (eM m (takeAllF (worksF f))) z Q = Q vJ D (eM m (waitOnF (takeAllF (worksF f)))) z := fun Q => c_waitOn hM hW.works.takeAll
  simp (disch := omega) only [sX7_slot_0, sX7_slot_1, sX7_slot_4, sX7_slot_5, sX7_slot_8, sX7_slot_9, sX7_slot_12, sX7_slot_13, sX7_slot_16, sX7_slot_17, sX7_slot_18, sX7_slot_19, sX7_slot_20, sX7_slot_21, sX7_slot_22, h1, true_and, and_true, true_or, or_true, eq_self, ↓reduceIte, if_true, if_false, nI_add, nI_mul, inB_nI, nI_clamp, Nat.add_zero, eqI, ltI, leI, m6_ne, ne_m6, Nat.reduceEqDiff, reduceCtorEq, Nat.reduceLT, Nat.reduceLeDiff, Nat.reduceAdd, Nat.reduceMul, Nat.zero_add, Nat.mul_zero, nar_0, nar_1, nar_b, bI_t, bI_f, bI_0, bI_1, Bool.true_eq_false, Bool.false_eq_true, Bool.and_self, Bool.and_false, Bool.false_and, Bool.true_and, Bool.and_true, and_self, a1, a2, a3, eM_gG, eM_sG, slotF]
theorem l_passes (hM : IsMo D) (hW : WF f nF nT) {n : Nat} (hn : n < 1000) : ∀ k i, i + k = n → Runs MX7_passes 17 [.ref 853, .int (nI n), .int (nI i)] [] D (eM m (slotsF i f)) z Q = Q vJ D (eM m (slotsF n f)) z := by
  have h1 := hM
  simp only [IsMo] at h1
  intro k
  induction k with
  | zero =>
    intro i hi
    obtain rfl : i = n := by omega
    rw [sX7_passes_17]
    simp (disch := omega) only [sX7_passes_0, sX7_passes_1, sX7_passes_2, sX7_passes_5, sX7_passes_6, sX7_passes_7, sX7_passes_10, sX7_passes_11, sX7_passes_12, sX7_passes_15, sX7_passes_16, sX7_passes_18, sX7_passes_19, sX7_passes_22, sX7_passes_23, sX7_passes_26, sX7_passes_29, sX7_passes_32, h1, true_and, and_true, true_or, or_true, eq_self, ↓reduceIte, if_true, if_false, nI_add, nI_mul, inB_nI, nI_clamp, Nat.add_zero, eqI, ltI, leI, m6_ne, ne_m6, Nat.reduceEqDiff, reduceCtorEq, Nat.reduceLT, Nat.reduceLeDiff, Nat.reduceAdd, Nat.reduceMul, Nat.zero_add, Nat.mul_zero, nar_0, nar_1, nar_b, bI_t, bI_f, bI_0, bI_1, Bool.true_eq_false, Bool.false_eq_true, Bool.and_self, Bool.and_false, Bool.false_and, Bool.true_and, Bool.and_true, and_self, Nat.le_refl]
  | succ k ih =>
    intro i hi
    have hlt : ¬ n ≤ i := by omega
    have ih := ih (i + 1) (by omega)
    have e : slotsF (i + 1) f = slotF (slotsF i f) := rfl
    rw [e] at ih
    have a1 : ∀ Q, Runs MX7_slot 0 [.ref 853] [] D (eM m (slotsF i f)) z Q = Q vJ D (eM m (slotF (slotsF i f))) z := fun Q => c_slot hM (hW.slots i)
    rw [sX7_passes_17]
    simp (disch := omega) only [sX7_passes_0, sX7_passes_1, sX7_passes_2, sX7_passes_5, sX7_passes_6, sX7_passes_7, sX7_passes_10, sX7_passes_11, sX7_passes_12, sX7_passes_15, sX7_passes_16, sX7_passes_18, sX7_passes_19, sX7_passes_22, sX7_passes_23, sX7_passes_26, sX7_passes_29, sX7_passes_32, h1, true_and, and_true, true_or, or_true, eq_self, ↓reduceIte, if_true, if_false, nI_add, nI_mul, inB_nI, nI_clamp, Nat.add_zero, eqI, ltI, leI, m6_ne, ne_m6, Nat.reduceEqDiff, reduceCtorEq, Nat.reduceLT, Nat.reduceLeDiff, Nat.reduceAdd, Nat.reduceMul, Nat.zero_add, Nat.mul_zero, nar_0, nar_1, nar_b, bI_t, bI_f, bI_0, bI_1, Bool.true_eq_false, Bool.false_eq_true, Bool.and_self, Bool.and_false, Bool.false_and, Bool.true_and, Bool.and_true, and_self, hlt, a1, ih]
theorem c_passes (hM : IsMo D) (hW : WF f nF nT) {n : Nat} (hn : n < 1000) : Runs MX7_passes 0 [.ref 853, .int (nI n), vJ] [] D (eM m f) z Q = Q vJ D (eM m (passesF n f)) z := by
  have h1 := hM
  simp only [IsMo] at h1
  have h0 := l_passes (D := D) (m := m) (z := z) (Q := Q) hM hW.zero hn n 0 (by omega)
  simp (disch := omega) only [sX7_passes_0, sX7_passes_1, sX7_passes_2, sX7_passes_5, sX7_passes_6, sX7_passes_7, sX7_passes_10, sX7_passes_11, sX7_passes_12, sX7_passes_15, sX7_passes_16, h1, true_and, and_true, true_or, or_true, eq_self, ↓reduceIte, if_true, if_false, nI_add, nI_mul, inB_nI, nI_clamp, Nat.add_zero, eqI, ltI, leI, m6_ne, ne_m6, Nat.reduceEqDiff, reduceCtorEq, Nat.reduceLT, Nat.reduceLeDiff, Nat.reduceAdd, Nat.reduceMul, Nat.zero_add, Nat.mul_zero, nar_0, nar_1, nar_b, bI_t, bI_f, bI_0, bI_1, Bool.true_eq_false, Bool.false_eq_true, Bool.and_self, Bool.and_false, Bool.false_and, Bool.true_and, Bool.and_true, and_self, eM_c8, eM_c9, eM_c10]
  exact h0
end MDL3
