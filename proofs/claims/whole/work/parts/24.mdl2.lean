/-! the model's slot: its writes and loops -/
section NS
variable {f : Nat → Int32} {i t u w k : Nat} {v : Int32}
theorem gT_sG0 {k' : Nat} (h : k' < 10) : gT (sG f k' v) t k = gT f t k := upd_ne _ _ (by omega)
theorem testedF_sF (h : i < 8) (h1 : k < 6) : testedF (sF f i k v) t = testedF f t := by unfold testedF; rw [gT_sF h h1, gT_sF h h1]
theorem testedF_sTk (h1 : k ≠ 1) (h2 : k ≠ 2) : testedF (sT f t k v) t = testedF f t := by unfold testedF; rw [gT_sTk (Ne.symm h2), gT_sTk (Ne.symm h1)]
theorem testedF_sTt (h : u ≠ t) (h1 : k < 18) : testedF (sT f t k v) u = testedF f u := by unfold testedF; rw [gT_sTt h h1 (by decide), gT_sTt h h1 (by decide)]
theorem testedF_sG (h : k < 10) : testedF (sG f k v) t = testedF f t := by unfold testedF; rw [gT_sG0 h, gT_sG0 h]
theorem nsF_sF (h : i < 8) (h1 : k < 6) : nsF (sF f i k v) t w = nsF f t w := by unfold nsF; simp only [testedF_sF h h1, gT_sF h h1, gG_sF (k' := 1) (Or.inl (by decide)) h h1]
theorem nsF_sTk (ht : t < 16) (h1 : k ≠ 1) (h2 : k ≠ 2) (h3 : k < 6) : nsF (sT f t k v) t w = nsF f t w := by
  unfold nsF
  rw [testedF_sTk h1 h2, gG_sT (Or.inl (by decide)) ht (by omega), gT_sTk (k' := 2) (Ne.symm h2), gT_sTk (by omega)]
theorem nsF_sG (h : k < 10) (h1 : k ≠ 1) : nsF (sG f k v) t w = nsF f t w := by unfold nsF; rw [testedF_sG h, gT_sG0 h, gT_sG0 h, gG_sGk (Ne.symm h1)]
theorem nsF_outP {p : Int32} (hp : p = m6 ∨ ∃ n, n < 4 ∧ p = nI n) : nsF (outP f p) t w = nsF f t w ∧ testedF (outP f p) t = testedF f t ∧ ∀ k, gT (outP f p) t k = gT f t k := by
  unfold outP
  rcases hp with rfl | ⟨n, hn, rfl⟩
  · simp
  · rw [if_neg (by rw [ne_m6 n (by omega)]; exact id), nI_clamp (by omega)]
    exact ⟨nsF_sG (by omega) (by omega), testedF_sG (by omega), fun k => gT_sG0 (by omega)⟩
end NS
section MDL2
variable {D : vDD} {m : vMM} {f : Nat → Int32} {z : vZZ} {Q : Value → vDD → vMM → vZZ → Prop}
theorem c_takes (hM : IsMo D) {i t : Nat} (hi : i < 8) (ht : t < 16) (hk : okT f t) : Runs MX7_takes 0 [.ref 853, .int (nI i), .int (nI t), vJ] [] D (eM m f) z Q = Q vJ D (eM m (takesF f i t)) z := by
  have h1 := hM
  simp only [IsMo] at h1
  have hns : ∀ Q, Runs MX7_nextStep 0 [.ref 853, .int (nI t), .int (nI 2)] [] D (eM m f) z Q = Q (.int (nsF f t 2)) D (eM m f) z := fun Q => c_nextStep hM ht (by decide) hk.1
  have hout := nsF_outP (f := f) (t := t) (w := 1) hk.2
  have hns2 : ∀ Q, Runs MX7_nextStep 0 [.ref 853, .int (nI t), .int (nI 1)] [] D (eM m (sF (sT (sT (outP f (nsF f t 2)) t 0 (nI 1)) t 3 (nI 0)) i 3 (nI t))) z Q = Q (.int (nsF f t 1)) D (eM m (sF (sT (sT (outP f (nsF f t 2)) t 0 (nI 1)) t 3 (nI 0)) i 3 (nI t))) z := by
    intro Q
    rw [c_nextStep hM ht (by decide), nsF_sF hi (by decide), nsF_sTk ht (by decide) (by decide) (by decide), nsF_sTk ht (by decide) (by decide) (by decide), hout.1]
    intro hte
    rw [testedF_sF hi (by decide), testedF_sTk (by decide) (by decide), testedF_sTk (by decide) (by decide), hout.2.1] at hte
    rw [gT_sF hi (by decide), gT_sTk (by decide), gT_sTk (by decide), hout.2.2]
    exact hk.1 hte
  unfold takesF
  rcases hk.2 with hp | ⟨p, hp4, hp⟩
  · have e : outP f (nsF f t 2) = f := by unfold outP; rw [if_pos hp]
    rw [e] at hns2 ⊢
    simp (disch := omega) only [sX7_takes_0, sX7_takes_1, sX7_takes_2, sX7_takes_3, sX7_takes_6, sX7_takes_7, sX7_takes_8, sX7_takes_10, sX7_takes_13, sX7_takes_14, sX7_takes_17, sX7_takes_19, sX7_takes_20, sX7_takes_21, sX7_takes_22, sX7_takes_23, sX7_takes_24, sX7_takes_25, sX7_takes_26, sX7_takes_27, sX7_takes_28, sX7_takes_29, sX7_takes_30, sX7_takes_33, sX7_takes_34, sX7_takes_35, sX7_takes_36, sX7_takes_37, sX7_takes_40, sX7_takes_41, sX7_takes_42, sX7_takes_43, sX7_takes_44, sX7_takes_47, sX7_takes_48, sX7_takes_49, sX7_takes_50, sX7_takes_51, sX7_takes_52, sX7_takes_53, sX7_takes_56, sX7_takes_59, h1, true_and, and_true, true_or, or_true, eq_self, ↓reduceIte, if_true, if_false, nI_add, nI_mul, inB_nI, nI_clamp, Nat.add_zero, eqI, ltI, leI, m6_ne, ne_m6, Nat.reduceEqDiff, reduceCtorEq, Nat.reduceLT, Nat.reduceLeDiff, Nat.reduceAdd, Nat.reduceMul, Nat.zero_add, Nat.mul_zero, nar_0, nar_1, nar_b, bI_t, bI_f, bI_0, bI_1, Bool.true_eq_false, Bool.false_eq_true, Bool.and_self, Bool.and_false, Bool.false_and, Bool.true_and, Bool.and_true, and_self, hns, hp, c_setThing hM, c_setFixer hM, hns2]
  · have e : outP f (nsF f t 2) = sG f (6 + p) (gG f (6 + p) - nI 1) := by unfold outP; rw [hp, if_neg (by rw [ne_m6 p (by omega)]; exact id), nI_clamp (by omega)]
    rw [e] at hns2 ⊢
    simp (disch := omega) only [sX7_takes_0, sX7_takes_1, sX7_takes_2, sX7_takes_3, sX7_takes_6, sX7_takes_7, sX7_takes_8, sX7_takes_10, sX7_takes_13, sX7_takes_14, sX7_takes_17, sX7_takes_19, sX7_takes_20, sX7_takes_21, sX7_takes_22, sX7_takes_23, sX7_takes_24, sX7_takes_25, sX7_takes_26, sX7_takes_27, sX7_takes_28, sX7_takes_29, sX7_takes_30, sX7_takes_33, sX7_takes_34, sX7_takes_35, sX7_takes_36, sX7_takes_37, sX7_takes_40, sX7_takes_41, sX7_takes_42, sX7_takes_43, sX7_takes_44, sX7_takes_47, sX7_takes_48, sX7_takes_49, sX7_takes_50, sX7_takes_51, sX7_takes_52, sX7_takes_53, sX7_takes_56, sX7_takes_59, h1, true_and, and_true, true_or, or_true, eq_self, ↓reduceIte, if_true, if_false, nI_add, nI_mul, inB_nI, nI_clamp, Nat.add_zero, eqI, ltI, leI, m6_ne, ne_m6, Nat.reduceEqDiff, reduceCtorEq, Nat.reduceLT, Nat.reduceLeDiff, Nat.reduceAdd, Nat.reduceMul, Nat.zero_add, Nat.mul_zero, nar_0, nar_1, nar_b, bI_t, bI_f, bI_0, bI_1, Bool.true_eq_false, Bool.false_eq_true, Bool.and_self, Bool.and_false, Bool.false_and, Bool.true_and, Bool.and_true, and_self, hns, hp, c_setThing hM, c_setFixer hM, hns2, eM_gG, eM_sG]
theorem c_endsTest (hM : IsMo D) {t : Nat} (ht : t < 16) : Runs MX7_endsTest 0 [.ref 853, .int (nI t)] [] D (eM m f) z Q = Q vJ D (eM m (endsTestF f t)) z := by
  have h1 := hM
  simp only [IsMo] at h1
  unfold endsTestF
  by_cases h : gT f t 4 < gT f t 5
  · have h2 : ¬ gT f t 5 ≤ gT f t 4 := Int32.not_le.mpr h
    simp (disch := omega) only [sX7_endsTest_0, sX7_endsTest_1, sX7_endsTest_2, sX7_endsTest_3, sX7_endsTest_6, sX7_endsTest_7, sX7_endsTest_8, sX7_endsTest_9, sX7_endsTest_12, sX7_endsTest_15, sX7_endsTest_16, sX7_endsTest_17, sX7_endsTest_18, sX7_endsTest_19, sX7_endsTest_20, sX7_endsTest_21, sX7_endsTest_24, sX7_endsTest_25, sX7_endsTest_26, sX7_endsTest_29, sX7_endsTest_30, sX7_endsTest_33, sX7_endsTest_34, sX7_endsTest_35, sX7_endsTest_36, sX7_endsTest_37, sX7_endsTest_38, sX7_endsTest_39, sX7_endsTest_40, sX7_endsTest_41, sX7_endsTest_44, sX7_endsTest_45, sX7_endsTest_46, sX7_endsTest_49, sX7_endsTest_50, sX7_endsTest_51, sX7_endsTest_52, sX7_endsTest_53, sX7_endsTest_54, sX7_endsTest_55, sX7_endsTest_58, sX7_endsTest_59, sX7_endsTest_60, sX7_endsTest_63, sX7_endsTest_64, sX7_endsTest_65, sX7_endsTest_68, sX7_endsTest_71, sX7_endsTest_72, sX7_endsTest_73, sX7_endsTest_74, sX7_endsTest_75, sX7_endsTest_78, sX7_endsTest_79, sX7_endsTest_80, sX7_endsTest_83, sX7_endsTest_84, sX7_endsTest_85, sX7_endsTest_88, h1, true_and, and_true, true_or, or_true, eq_self, ↓reduceIte, if_true, if_false, nI_add, nI_mul, inB_nI, nI_clamp, Nat.add_zero, eqI, ltI, leI, m6_ne, ne_m6, Nat.reduceEqDiff, reduceCtorEq, Nat.reduceLT, Nat.reduceLeDiff, Nat.reduceAdd, Nat.reduceMul, Nat.zero_add, Nat.mul_zero, nar_0, nar_1, nar_b, bI_t, bI_f, bI_0, bI_1, Bool.true_eq_false, Bool.false_eq_true, Bool.and_self, Bool.and_false, Bool.false_and, Bool.true_and, Bool.and_true, and_self, c_ofThing hM, c_setThing hM, c_waitsAnew hM, h, h2, eM_gG, eM_sG, eM_c10, eM_g10, gG_sT, gG_sGk, gT_sTk, gT_sG0, gT_sG]
  · have h2 : gT f t 5 ≤ gT f t 4 := Int32.not_lt.mp h
    simp (disch := omega) only [sX7_endsTest_0, sX7_endsTest_1, sX7_endsTest_2, sX7_endsTest_3, sX7_endsTest_6, sX7_endsTest_7, sX7_endsTest_8, sX7_endsTest_9, sX7_endsTest_12, sX7_endsTest_15, sX7_endsTest_16, sX7_endsTest_17, sX7_endsTest_18, sX7_endsTest_19, sX7_endsTest_20, sX7_endsTest_21, sX7_endsTest_24, sX7_endsTest_25, sX7_endsTest_26, sX7_endsTest_29, sX7_endsTest_30, sX7_endsTest_33, sX7_endsTest_34, sX7_endsTest_35, sX7_endsTest_36, sX7_endsTest_37, sX7_endsTest_38, sX7_endsTest_39, sX7_endsTest_40, sX7_endsTest_41, sX7_endsTest_44, sX7_endsTest_45, sX7_endsTest_46, sX7_endsTest_49, sX7_endsTest_50, sX7_endsTest_51, sX7_endsTest_52, sX7_endsTest_53, sX7_endsTest_54, sX7_endsTest_55, sX7_endsTest_58, sX7_endsTest_59, sX7_endsTest_60, sX7_endsTest_63, sX7_endsTest_64, sX7_endsTest_65, sX7_endsTest_68, sX7_endsTest_71, sX7_endsTest_72, sX7_endsTest_73, sX7_endsTest_74, sX7_endsTest_75, sX7_endsTest_78, sX7_endsTest_79, sX7_endsTest_80, sX7_endsTest_83, sX7_endsTest_84, sX7_endsTest_85, sX7_endsTest_88, h1, true_and, and_true, true_or, or_true, eq_self, ↓reduceIte, if_true, if_false, nI_add, nI_mul, inB_nI, nI_clamp, Nat.add_zero, eqI, ltI, leI, m6_ne, ne_m6, Nat.reduceEqDiff, reduceCtorEq, Nat.reduceLT, Nat.reduceLeDiff, Nat.reduceAdd, Nat.reduceMul, Nat.zero_add, Nat.mul_zero, nar_0, nar_1, nar_b, bI_t, bI_f, bI_0, bI_1, Bool.true_eq_false, Bool.false_eq_true, Bool.and_self, Bool.and_false, Bool.false_and, Bool.true_and, Bool.and_true, and_self, c_ofThing hM, c_setThing hM, c_waitsAnew hM, h, h2, eM_gG, eM_sG, eM_c8, eM_g8, gG_sT, gG_sGk, gT_sTk, gT_sG0, gT_sG]
theorem c_endsStep (hM : IsMo D) {i t : Nat} (hi : i < 8) (ht : t < 16) (hd : gF f i 3 = nI t) : Runs MX7_endsStep 0 [.ref 853, .int (nI i), vJ] [] D (eM m f) z Q = Q vJ D (eM m (endsStepF f i t)) z := by
  have h1 := hM
  simp only [IsMo] at h1
  unfold endsStepF offF
  by_cases h : testedF f t = true
  · simp (disch := omega) only [sX7_endsStep_0, sX7_endsStep_1, sX7_endsStep_2, sX7_endsStep_3, sX7_endsStep_6, sX7_endsStep_7, sX7_endsStep_8, sX7_endsStep_9, sX7_endsStep_10, sX7_endsStep_12, sX7_endsStep_15, sX7_endsStep_16, sX7_endsStep_17, sX7_endsStep_18, sX7_endsStep_19, sX7_endsStep_22, sX7_endsStep_23, sX7_endsStep_24, sX7_endsStep_25, sX7_endsStep_26, sX7_endsStep_27, sX7_endsStep_28, sX7_endsStep_31, sX7_endsStep_32, sX7_endsStep_33, sX7_endsStep_36, sX7_endsStep_37, sX7_endsStep_38, sX7_endsStep_41, sX7_endsStep_44, sX7_endsStep_45, sX7_endsStep_46, sX7_endsStep_49, sX7_endsStep_52, sX7_endsStep_53, sX7_endsStep_54, sX7_endsStep_55, sX7_endsStep_56, sX7_endsStep_57, sX7_endsStep_58, sX7_endsStep_61, sX7_endsStep_62, sX7_endsStep_63, sX7_endsStep_66, sX7_endsStep_67, sX7_endsStep_68, sX7_endsStep_71, h1, true_and, and_true, true_or, or_true, eq_self, ↓reduceIte, if_true, if_false, nI_add, nI_mul, inB_nI, nI_clamp, Nat.add_zero, eqI, ltI, leI, m6_ne, ne_m6, Nat.reduceEqDiff, reduceCtorEq, Nat.reduceLT, Nat.reduceLeDiff, Nat.reduceAdd, Nat.reduceMul, Nat.zero_add, Nat.mul_zero, nar_0, nar_1, nar_b, bI_t, bI_f, bI_0, bI_1, Bool.true_eq_false, Bool.false_eq_true, Bool.and_self, Bool.and_false, Bool.false_and, Bool.true_and, Bool.and_true, and_self, c_ofFixer hM, c_setFixer hM, c_isTested hM, c_ofThing hM, c_setThing hM, c_waitsAnew hM, c_endsTest hM, hd, h, gF_sFk, testedF_sF, gT_sF]
  · simp only [Bool.not_eq_true] at h
    simp (disch := omega) only [sX7_endsStep_0, sX7_endsStep_1, sX7_endsStep_2, sX7_endsStep_3, sX7_endsStep_6, sX7_endsStep_7, sX7_endsStep_8, sX7_endsStep_9, sX7_endsStep_10, sX7_endsStep_12, sX7_endsStep_15, sX7_endsStep_16, sX7_endsStep_17, sX7_endsStep_18, sX7_endsStep_19, sX7_endsStep_22, sX7_endsStep_23, sX7_endsStep_24, sX7_endsStep_25, sX7_endsStep_26, sX7_endsStep_27, sX7_endsStep_28, sX7_endsStep_31, sX7_endsStep_32, sX7_endsStep_33, sX7_endsStep_36, sX7_endsStep_37, sX7_endsStep_38, sX7_endsStep_41, sX7_endsStep_44, sX7_endsStep_45, sX7_endsStep_46, sX7_endsStep_49, sX7_endsStep_52, sX7_endsStep_53, sX7_endsStep_54, sX7_endsStep_55, sX7_endsStep_56, sX7_endsStep_57, sX7_endsStep_58, sX7_endsStep_61, sX7_endsStep_62, sX7_endsStep_63, sX7_endsStep_66, sX7_endsStep_67, sX7_endsStep_68, sX7_endsStep_71, h1, true_and, and_true, true_or, or_true, eq_self, ↓reduceIte, if_true, if_false, nI_add, nI_mul, inB_nI, nI_clamp, Nat.add_zero, eqI, ltI, leI, m6_ne, ne_m6, Nat.reduceEqDiff, reduceCtorEq, Nat.reduceLT, Nat.reduceLeDiff, Nat.reduceAdd, Nat.reduceMul, Nat.zero_add, Nat.mul_zero, nar_0, nar_1, nar_b, bI_t, bI_f, bI_0, bI_1, Bool.true_eq_false, Bool.false_eq_true, Bool.and_self, Bool.and_false, Bool.false_and, Bool.true_and, Bool.and_true, and_self, c_ofFixer hM, c_setFixer hM, c_isTested hM, c_ofThing hM, c_setThing hM, c_waitsAnew hM, c_endsTest hM, hd, h, gF_sFk, testedF_sF, gT_sF]
theorem l_inState (hM : IsMo D) {n : Nat} {h : Int32} (h3 : gG f 3 = nI n) (hn : n ≤ 16) : ∀ k i, i + k = n → Runs MX7_inState 4 [.ref 853, .int h, .int (nI (cntS f h i)), .int (nI i)] [] D (eM m f) z Q = Q (.int (nI (cntS f h n))) D (eM m f) z := by
  have h1 := hM
  simp only [IsMo] at h1
  intro k
  induction k with
  | zero =>
    intro i hi
    have : n ≤ i := by omega
    obtain rfl : i = n := by omega
    rw [sX7_inState_4]
    simp (disch := omega) only [sX7_inState_0, sX7_inState_1, sX7_inState_2, sX7_inState_3, sX7_inState_5, sX7_inState_6, sX7_inState_9, sX7_inState_10, sX7_inState_11, sX7_inState_14, sX7_inState_15, sX7_inState_16, sX7_inState_17, sX7_inState_18, sX7_inState_21, sX7_inState_22, sX7_inState_25, sX7_inState_26, sX7_inState_29, sX7_inState_30, sX7_inState_31, sX7_inState_32, sX7_inState_35, sX7_inState_38, sX7_inState_39, h1, true_and, and_true, true_or, or_true, eq_self, ↓reduceIte, if_true, if_false, nI_add, nI_mul, inB_nI, nI_clamp, Nat.add_zero, eqI, ltI, leI, m6_ne, ne_m6, Nat.reduceEqDiff, reduceCtorEq, Nat.reduceLT, Nat.reduceLeDiff, Nat.reduceAdd, Nat.reduceMul, Nat.zero_add, Nat.mul_zero, nar_0, nar_1, nar_b, bI_t, bI_f, bI_0, bI_1, Bool.true_eq_false, Bool.false_eq_true, Bool.and_self, Bool.and_false, Bool.false_and, Bool.true_and, Bool.and_true, and_self, eM_gG, h3, Nat.le_refl]
  | succ k ih =>
    intro i hi
    have hlt : ¬ n ≤ i := by omega
    rw [sX7_inState_4]
    by_cases hc : gT f i 0 = h
    · have e : cntS f h (i + 1) = cntS f h i + 1 := by simp only [cntS, hc, if_true]
      have ih := ih (i + 1) (by omega)
      rw [e] at ih
      simp (disch := omega) only [sX7_inState_0, sX7_inState_1, sX7_inState_2, sX7_inState_3, sX7_inState_5, sX7_inState_6, sX7_inState_9, sX7_inState_10, sX7_inState_11, sX7_inState_14, sX7_inState_15, sX7_inState_16, sX7_inState_17, sX7_inState_18, sX7_inState_21, sX7_inState_22, sX7_inState_25, sX7_inState_26, sX7_inState_29, sX7_inState_30, sX7_inState_31, sX7_inState_32, sX7_inState_35, sX7_inState_38, sX7_inState_39, h1, true_and, and_true, true_or, or_true, eq_self, ↓reduceIte, if_true, if_false, nI_add, nI_mul, inB_nI, nI_clamp, Nat.add_zero, eqI, ltI, leI, m6_ne, ne_m6, Nat.reduceEqDiff, reduceCtorEq, Nat.reduceLT, Nat.reduceLeDiff, Nat.reduceAdd, Nat.reduceMul, Nat.zero_add, Nat.mul_zero, nar_0, nar_1, nar_b, bI_t, bI_f, bI_0, bI_1, Bool.true_eq_false, Bool.false_eq_true, Bool.and_self, Bool.and_false, Bool.false_and, Bool.true_and, Bool.and_true, and_self, eM_gG, h3, hlt, c_ofThing hM, hc, ih]
    · have e : cntS f h (i + 1) = cntS f h i := by simp only [cntS, hc, if_false, Nat.add_zero]
      have ih := ih (i + 1) (by omega)
      rw [e] at ih
      simp (disch := omega) only [sX7_inState_0, sX7_inState_1, sX7_inState_2, sX7_inState_3, sX7_inState_5, sX7_inState_6, sX7_inState_9, sX7_inState_10, sX7_inState_11, sX7_inState_14, sX7_inState_15, sX7_inState_16, sX7_inState_17, sX7_inState_18, sX7_inState_21, sX7_inState_22, sX7_inState_25, sX7_inState_26, sX7_inState_29, sX7_inState_30, sX7_inState_31, sX7_inState_32, sX7_inState_35, sX7_inState_38, sX7_inState_39, h1, true_and, and_true, true_or, or_true, eq_self, ↓reduceIte, if_true, if_false, nI_add, nI_mul, inB_nI, nI_clamp, Nat.add_zero, eqI, ltI, leI, m6_ne, ne_m6, Nat.reduceEqDiff, reduceCtorEq, Nat.reduceLT, Nat.reduceLeDiff, Nat.reduceAdd, Nat.reduceMul, Nat.zero_add, Nat.mul_zero, nar_0, nar_1, nar_b, bI_t, bI_f, bI_0, bI_1, Bool.true_eq_false, Bool.false_eq_true, Bool.and_self, Bool.and_false, Bool.false_and, Bool.true_and, Bool.and_true, and_self, eM_gG, h3, hlt, c_ofThing hM, hc, ih]
theorem c_inState (hM : IsMo D) {n : Nat} {h : Int32} (h3 : gG f 3 = nI n) (hn : n ≤ 16) : Runs MX7_inState 0 [.ref 853, .int h, vJ, vJ] [] D (eM m f) z Q = Q (.int (nI (cntS f h n))) D (eM m f) z := by
  have h0 := l_inState (D := D) (m := m) (f := f) (z := z) (Q := Q) (h := h) hM h3 hn n 0 (by omega)
  simp only [sX7_inState_0, sX7_inState_1, sX7_inState_2, sX7_inState_3]
  exact h0
end MDL2
