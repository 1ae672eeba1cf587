/-! the law's loop -/
theorem and31 (x : Int32) : ∃ n, n < 32 ∧ x &&& nI 31 = nI n := by
  refine ⟨x.toBitVec.toNat &&& 31, ?_, ?_⟩
  · have : x.toBitVec.toNat &&& 31 ≤ 31 := Nat.and_le_right
    omega
  · rw [← nI_and, ← nI_bv]
section LAWL
variable {D : vDD} {m : vMM} {z : vZZ} {L i : Nat} {xs : Nat → Int32}
theorem w_case (hL : L ≤ 2048) (hj : i + 4 ≤ L) (hz : 867 ≤ z.1) (hS : SCR D m L xs) (C : Cpl D m) : ∃ D2 N2, Cpl D2 N2 ∧ SCR D2 N2 L xs ∧ ∀ Q, Runs ML_law 26 [.ref 0, .ref 1, .ref 853, .int (nI i)] [] D m z Q = Runs ML_law 806 [.ref 0, .ref 1, .ref 853, .int (nI i)] [] D2 N2 z Q := by
  obtain ⟨n, hn, e⟩ := and31 (xs i)
  obtain ⟨s1, s2, s3⟩ := id hS
  rcases (by omega : n = 0 ∨ n = 1 ∨ n = 2 ∨ n = 3 ∨ n = 4 ∨ n = 5 ∨ n = 6 ∨ n = 7 ∨ n = 8 ∨ n = 9 ∨ n = 10 ∨ n = 11 ∨ n = 12 ∨ n = 13 ∨ n = 14 ∨ n = 15 ∨ n = 16 ∨ n = 17 ∨ n = 18 ∨ n = 19 ∨ n = 20 ∨ n = 21 ∨ n = 22 ∨ n = 23 ∨ n = 24 ∨ n = 25 ∨ n = 26 ∨ n = 27 ∨ n = 28 ∨ n = 29 ∨ n = 30 ∨ n = 31) with rfl | rfl | rfl | rfl | rfl | rfl | rfl | rfl | rfl | rfl | rfl | rfl | rfl | rfl | rfl | rfl | rfl | rfl | rfl | rfl | rfl | rfl | rfl | rfl | rfl | rfl | rfl | rfl | rfl | rfl | rfl | rfl
  · obtain ⟨D2, N2, c, s, w⟩ := w_set (z := z) hL hj hz hS C
    refine ⟨D2, N2, c, s, fun Q => ?_⟩
    simp (disch := omega) only [sL_law_26, sL_law_27, sL_law_28, sL_law_29, sL_law_31, sL_law_32, true_and, and_true, true_or, or_true, eq_self, ↓reduceIte, if_true, if_false, nI_add, nI_mul, inB_nI, nI_clamp, Nat.add_zero, eqI, ltI, leI, m6_ne, ne_m6, Nat.reduceEqDiff, reduceCtorEq, Nat.reduceLT, Nat.reduceLeDiff, Nat.reduceAdd, Nat.reduceMul, Nat.zero_add, Nat.mul_zero, nar_0, nar_1, nar_b, bI_t, bI_f, bI_0, bI_1, Bool.true_eq_false, Bool.false_eq_true, Bool.and_self, Bool.and_false, Bool.false_and, Bool.true_and, Bool.and_true, and_self, s1, s2, s3, e, w, or_true]
  · obtain ⟨D2, N2, c, s, w⟩ := w_come (z := z) hL hj hz hS C
    refine ⟨D2, N2, c, s, fun Q => ?_⟩
    simp (disch := omega) only [sL_law_26, sL_law_27, sL_law_28, sL_law_29, sL_law_31, sL_law_32, true_and, and_true, true_or, or_true, eq_self, ↓reduceIte, if_true, if_false, nI_add, nI_mul, inB_nI, nI_clamp, Nat.add_zero, eqI, ltI, leI, m6_ne, ne_m6, Nat.reduceEqDiff, reduceCtorEq, Nat.reduceLT, Nat.reduceLeDiff, Nat.reduceAdd, Nat.reduceMul, Nat.zero_add, Nat.mul_zero, nar_0, nar_1, nar_b, bI_t, bI_f, bI_0, bI_1, Bool.true_eq_false, Bool.false_eq_true, Bool.and_self, Bool.and_false, Bool.false_and, Bool.true_and, Bool.and_true, and_self, s1, s2, s3, e, w, or_true]
  · by_cases h0 : xs (i + 2) = nI 0
    · obtain ⟨D2, N2, c, s, w⟩ := w_away0 (z := z) hL hj hz hS C h0
      refine ⟨D2, N2, c, s, fun Q => ?_⟩
      simp (disch := omega) only [sL_law_26, sL_law_27, sL_law_28, sL_law_29, sL_law_31, sL_law_32, true_and, and_true, true_or, or_true, eq_self, ↓reduceIte, if_true, if_false, nI_add, nI_mul, inB_nI, nI_clamp, Nat.add_zero, eqI, ltI, leI, m6_ne, ne_m6, Nat.reduceEqDiff, reduceCtorEq, Nat.reduceLT, Nat.reduceLeDiff, Nat.reduceAdd, Nat.reduceMul, Nat.zero_add, Nat.mul_zero, nar_0, nar_1, nar_b, bI_t, bI_f, bI_0, bI_1, Bool.true_eq_false, Bool.false_eq_true, Bool.and_self, Bool.and_false, Bool.false_and, Bool.true_and, Bool.and_true, and_self, s1, s2, s3, e, w, or_true]
    · obtain ⟨D2, N2, c, s, w⟩ := w_away1 (z := z) hL hj hz hS C h0
      refine ⟨D2, N2, c, s, fun Q => ?_⟩
      simp (disch := omega) only [sL_law_26, sL_law_27, sL_law_28, sL_law_29, sL_law_31, sL_law_32, true_and, and_true, true_or, or_true, eq_self, ↓reduceIte, if_true, if_false, nI_add, nI_mul, inB_nI, nI_clamp, Nat.add_zero, eqI, ltI, leI, m6_ne, ne_m6, Nat.reduceEqDiff, reduceCtorEq, Nat.reduceLT, Nat.reduceLeDiff, Nat.reduceAdd, Nat.reduceMul, Nat.zero_add, Nat.mul_zero, nar_0, nar_1, nar_b, bI_t, bI_f, bI_0, bI_1, Bool.true_eq_false, Bool.false_eq_true, Bool.and_self, Bool.and_false, Bool.false_and, Bool.true_and, Bool.and_true, and_self, s1, s2, s3, e, w, or_true]
  · obtain ⟨D2, N2, c, s, w⟩ := w_bring (z := z) hL hj hz hS C
    refine ⟨D2, N2, c, s, fun Q => ?_⟩
    simp (disch := omega) only [sL_law_26, sL_law_27, sL_law_28, sL_law_29, sL_law_31, sL_law_32, true_and, and_true, true_or, or_true, eq_self, ↓reduceIte, if_true, if_false, nI_add, nI_mul, inB_nI, nI_clamp, Nat.add_zero, eqI, ltI, leI, m6_ne, ne_m6, Nat.reduceEqDiff, reduceCtorEq, Nat.reduceLT, Nat.reduceLeDiff, Nat.reduceAdd, Nat.reduceMul, Nat.zero_add, Nat.mul_zero, nar_0, nar_1, nar_b, bI_t, bI_f, bI_0, bI_1, Bool.true_eq_false, Bool.false_eq_true, Bool.and_self, Bool.and_false, Bool.false_and, Bool.true_and, Bool.and_true, and_self, s1, s2, s3, e, w, or_true]
  · obtain ⟨D2, N2, c, s, w⟩ := w_stock (z := z) hL hj hz hS C
    refine ⟨D2, N2, c, s, fun Q => ?_⟩
    simp (disch := omega) only [sL_law_26, sL_law_27, sL_law_28, sL_law_29, sL_law_31, sL_law_32, true_and, and_true, true_or, or_true, eq_self, ↓reduceIte, if_true, if_false, nI_add, nI_mul, inB_nI, nI_clamp, Nat.add_zero, eqI, ltI, leI, m6_ne, ne_m6, Nat.reduceEqDiff, reduceCtorEq, Nat.reduceLT, Nat.reduceLeDiff, Nat.reduceAdd, Nat.reduceMul, Nat.zero_add, Nat.mul_zero, nar_0, nar_1, nar_b, bI_t, bI_f, bI_0, bI_1, Bool.true_eq_false, Bool.false_eq_true, Bool.and_self, Bool.and_false, Bool.false_and, Bool.true_and, Bool.and_true, and_self, s1, s2, s3, e, w, or_true]
  · obtain ⟨D2, N2, c, s, w⟩ := w_again (z := z) hL hj hz hS C
    refine ⟨D2, N2, c, s, fun Q => ?_⟩
    simp (disch := omega) only [sL_law_26, sL_law_27, sL_law_28, sL_law_29, sL_law_31, sL_law_32, true_and, and_true, true_or, or_true, eq_self, ↓reduceIte, if_true, if_false, nI_add, nI_mul, inB_nI, nI_clamp, Nat.add_zero, eqI, ltI, leI, m6_ne, ne_m6, Nat.reduceEqDiff, reduceCtorEq, Nat.reduceLT, Nat.reduceLeDiff, Nat.reduceAdd, Nat.reduceMul, Nat.zero_add, Nat.mul_zero, nar_0, nar_1, nar_b, bI_t, bI_f, bI_0, bI_1, Bool.true_eq_false, Bool.false_eq_true, Bool.and_self, Bool.and_false, Bool.false_and, Bool.true_and, Bool.and_true, and_self, s1, s2, s3, e, w, or_true]
  · obtain ⟨D2, N2, c, s, w⟩ := w_pass (z := z) hL hj hz hS C
    refine ⟨D2, N2, c, s, fun Q => ?_⟩
    simp (disch := omega) only [sL_law_26, sL_law_27, sL_law_28, sL_law_29, sL_law_31, sL_law_32, true_and, and_true, true_or, or_true, eq_self, ↓reduceIte, if_true, if_false, nI_add, nI_mul, inB_nI, nI_clamp, Nat.add_zero, eqI, ltI, leI, m6_ne, ne_m6, Nat.reduceEqDiff, reduceCtorEq, Nat.reduceLT, Nat.reduceLeDiff, Nat.reduceAdd, Nat.reduceMul, Nat.zero_add, Nat.mul_zero, nar_0, nar_1, nar_b, bI_t, bI_f, bI_0, bI_1, Bool.true_eq_false, Bool.false_eq_true, Bool.and_self, Bool.and_false, Bool.false_and, Bool.true_and, Bool.and_true, and_self, s1, s2, s3, e, w, or_true]
  · obtain ⟨D2, N2, c, s, w⟩ := w_giveOut (z := z) hL hj hz hS C
    refine ⟨D2, N2, c, s, fun Q => ?_⟩
    simp (disch := omega) only [sL_law_26, sL_law_27, sL_law_28, sL_law_29, sL_law_31, sL_law_32, true_and, and_true, true_or, or_true, eq_self, ↓reduceIte, if_true, if_false, nI_add, nI_mul, inB_nI, nI_clamp, Nat.add_zero, eqI, ltI, leI, m6_ne, ne_m6, Nat.reduceEqDiff, reduceCtorEq, Nat.reduceLT, Nat.reduceLeDiff, Nat.reduceAdd, Nat.reduceMul, Nat.zero_add, Nat.mul_zero, nar_0, nar_1, nar_b, bI_t, bI_f, bI_0, bI_1, Bool.true_eq_false, Bool.false_eq_true, Bool.and_self, Bool.and_false, Bool.false_and, Bool.true_and, Bool.and_true, and_self, s1, s2, s3, e, w, or_true]
  · obtain ⟨D2, N2, c, s, w⟩ := w_clear (z := z) hL hj hz hS C
    refine ⟨D2, N2, c, s, fun Q => ?_⟩
    simp (disch := omega) only [sL_law_26, sL_law_27, sL_law_28, sL_law_29, sL_law_31, sL_law_32, true_and, and_true, true_or, or_true, eq_self, ↓reduceIte, if_true, if_false, nI_add, nI_mul, inB_nI, nI_clamp, Nat.add_zero, eqI, ltI, leI, m6_ne, ne_m6, Nat.reduceEqDiff, reduceCtorEq, Nat.reduceLT, Nat.reduceLeDiff, Nat.reduceAdd, Nat.reduceMul, Nat.zero_add, Nat.mul_zero, nar_0, nar_1, nar_b, bI_t, bI_f, bI_0, bI_1, Bool.true_eq_false, Bool.false_eq_true, Bool.and_self, Bool.and_false, Bool.false_and, Bool.true_and, Bool.and_true, and_self, s1, s2, s3, e, w, or_true]
  · obtain ⟨D2, N2, c, s, w⟩ := w_fixer (z := z) hL hj hz hS C
    refine ⟨D2, N2, c, s, fun Q => ?_⟩
    simp (disch := omega) only [sL_law_26, sL_law_27, sL_law_28, sL_law_29, sL_law_31, sL_law_32, true_and, and_true, true_or, or_true, eq_self, ↓reduceIte, if_true, if_false, nI_add, nI_mul, inB_nI, nI_clamp, Nat.add_zero, eqI, ltI, leI, m6_ne, ne_m6, Nat.reduceEqDiff, reduceCtorEq, Nat.reduceLT, Nat.reduceLeDiff, Nat.reduceAdd, Nat.reduceMul, Nat.zero_add, Nat.mul_zero, nar_0, nar_1, nar_b, bI_t, bI_f, bI_0, bI_1, Bool.true_eq_false, Bool.false_eq_true, Bool.and_self, Bool.and_false, Bool.false_and, Bool.true_and, Bool.and_true, and_self, s1, s2, s3, e, w, or_true]
  · obtain ⟨D2, N2, c, s, w⟩ := w_thing (z := z) hL hj hz hS C
    refine ⟨D2, N2, c, s, fun Q => ?_⟩
    simp (disch := omega) only [sL_law_26, sL_law_27, sL_law_28, sL_law_29, sL_law_31, sL_law_32, true_and, and_true, true_or, or_true, eq_self, ↓reduceIte, if_true, if_false, nI_add, nI_mul, inB_nI, nI_clamp, Nat.add_zero, eqI, ltI, leI, m6_ne, ne_m6, Nat.reduceEqDiff, reduceCtorEq, Nat.reduceLT, Nat.reduceLeDiff, Nat.reduceAdd, Nat.reduceMul, Nat.zero_add, Nat.mul_zero, nar_0, nar_1, nar_b, bI_t, bI_f, bI_0, bI_1, Bool.true_eq_false, Bool.false_eq_true, Bool.and_self, Bool.and_false, Bool.false_and, Bool.true_and, Bool.and_true, and_self, s1, s2, s3, e, w, or_true]
  · obtain ⟨D2, N2, c, s, w⟩ := w_step (z := z) hL hj hz hS C
    refine ⟨D2, N2, c, s, fun Q => ?_⟩
    simp (disch := omega) only [sL_law_26, sL_law_27, sL_law_28, sL_law_29, sL_law_31, sL_law_32, true_and, and_true, true_or, or_true, eq_self, ↓reduceIte, if_true, if_false, nI_add, nI_mul, inB_nI, nI_clamp, Nat.add_zero, eqI, ltI, leI, m6_ne, ne_m6, Nat.reduceEqDiff, reduceCtorEq, Nat.reduceLT, Nat.reduceLeDiff, Nat.reduceAdd, Nat.reduceMul, Nat.zero_add, Nat.mul_zero, nar_0, nar_1, nar_b, bI_t, bI_f, bI_0, bI_1, Bool.true_eq_false, Bool.false_eq_true, Bool.and_self, Bool.and_false, Bool.false_and, Bool.true_and, Bool.and_true, and_self, s1, s2, s3, e, w, or_true]
  · obtain ⟨D2, N2, c, s, w⟩ := w_count (z := z) hL hj hz hS C
    refine ⟨D2, N2, c, s, fun Q => ?_⟩
    simp (disch := omega) only [sL_law_26, sL_law_27, sL_law_28, sL_law_29, sL_law_31, sL_law_32, true_and, and_true, true_or, or_true, eq_self, ↓reduceIte, if_true, if_false, nI_add, nI_mul, inB_nI, nI_clamp, Nat.add_zero, eqI, ltI, leI, m6_ne, ne_m6, Nat.reduceEqDiff, reduceCtorEq, Nat.reduceLT, Nat.reduceLeDiff, Nat.reduceAdd, Nat.reduceMul, Nat.zero_add, Nat.mul_zero, nar_0, nar_1, nar_b, bI_t, bI_f, bI_0, bI_1, Bool.true_eq_false, Bool.false_eq_true, Bool.and_self, Bool.and_false, Bool.false_and, Bool.true_and, Bool.and_true, and_self, s1, s2, s3, e, w, or_true]
  · obtain ⟨D2, N2, c, s, w⟩ := w_plan (z := z) hL hj hz hS C
    refine ⟨D2, N2, c, s, fun Q => ?_⟩
    simp (disch := omega) only [sL_law_26, sL_law_27, sL_law_28, sL_law_29, sL_law_31, sL_law_32, true_and, and_true, true_or, or_true, eq_self, ↓reduceIte, if_true, if_false, nI_add, nI_mul, inB_nI, nI_clamp, Nat.add_zero, eqI, ltI, leI, m6_ne, ne_m6, Nat.reduceEqDiff, reduceCtorEq, Nat.reduceLT, Nat.reduceLeDiff, Nat.reduceAdd, Nat.reduceMul, Nat.zero_add, Nat.mul_zero, nar_0, nar_1, nar_b, bI_t, bI_f, bI_0, bI_1, Bool.true_eq_false, Bool.false_eq_true, Bool.and_self, Bool.and_false, Bool.false_and, Bool.true_and, Bool.and_true, and_self, s1, s2, s3, e, w, or_true]
  · obtain ⟨D2, N2, c, s, w⟩ := w_planned (z := z) hL hj hz hS C
    refine ⟨D2, N2, c, s, fun Q => ?_⟩
    simp (disch := omega) only [sL_law_26, sL_law_27, sL_law_28, sL_law_29, sL_law_31, sL_law_32, true_and, and_true, true_or, or_true, eq_self, ↓reduceIte, if_true, if_false, nI_add, nI_mul, inB_nI, nI_clamp, Nat.add_zero, eqI, ltI, leI, m6_ne, ne_m6, Nat.reduceEqDiff, reduceCtorEq, Nat.reduceLT, Nat.reduceLeDiff, Nat.reduceAdd, Nat.reduceMul, Nat.zero_add, Nat.mul_zero, nar_0, nar_1, nar_b, bI_t, bI_f, bI_0, bI_1, Bool.true_eq_false, Bool.false_eq_true, Bool.and_self, Bool.and_false, Bool.false_and, Bool.true_and, Bool.and_true, and_self, s1, s2, s3, e, w, or_true]
  · obtain ⟨D2, N2, c, s, w⟩ := w_ifAway (z := z) hL hj hz hS C
    refine ⟨D2, N2, c, s, fun Q => ?_⟩
    simp (disch := omega) only [sL_law_26, sL_law_27, sL_law_28, sL_law_29, sL_law_31, sL_law_32, true_and, and_true, true_or, or_true, eq_self, ↓reduceIte, if_true, if_false, nI_add, nI_mul, inB_nI, nI_clamp, Nat.add_zero, eqI, ltI, leI, m6_ne, ne_m6, Nat.reduceEqDiff, reduceCtorEq, Nat.reduceLT, Nat.reduceLeDiff, Nat.reduceAdd, Nat.reduceMul, Nat.zero_add, Nat.mul_zero, nar_0, nar_1, nar_b, bI_t, bI_f, bI_0, bI_1, Bool.true_eq_false, Bool.false_eq_true, Bool.and_self, Bool.and_false, Bool.false_and, Bool.true_and, Bool.and_true, and_self, s1, s2, s3, e, w, or_true]
  · obtain ⟨D2, N2, c, s, w⟩ := w_bestSkill (z := z) hL hj hz hS C
    refine ⟨D2, N2, c, s, fun Q => ?_⟩
    simp (disch := omega) only [sL_law_26, sL_law_27, sL_law_28, sL_law_29, sL_law_31, sL_law_32, true_and, and_true, true_or, or_true, eq_self, ↓reduceIte, if_true, if_false, nI_add, nI_mul, inB_nI, nI_clamp, Nat.add_zero, eqI, ltI, leI, m6_ne, ne_m6, Nat.reduceEqDiff, reduceCtorEq, Nat.reduceLT, Nat.reduceLeDiff, Nat.reduceAdd, Nat.reduceMul, Nat.zero_add, Nat.mul_zero, nar_0, nar_1, nar_b, bI_t, bI_f, bI_0, bI_1, Bool.true_eq_false, Bool.false_eq_true, Bool.and_self, Bool.and_false, Bool.false_and, Bool.true_and, Bool.and_true, and_self, s1, s2, s3, e, w, or_true]
  · obtain ⟨D2, N2, c, s, w⟩ := w_ifPassed (z := z) hL hj hz hS C
    refine ⟨D2, N2, c, s, fun Q => ?_⟩
    simp (disch := omega) only [sL_law_26, sL_law_27, sL_law_28, sL_law_29, sL_law_31, sL_law_32, true_and, and_true, true_or, or_true, eq_self, ↓reduceIte, if_true, if_false, nI_add, nI_mul, inB_nI, nI_clamp, Nat.add_zero, eqI, ltI, leI, m6_ne, ne_m6, Nat.reduceEqDiff, reduceCtorEq, Nat.reduceLT, Nat.reduceLeDiff, Nat.reduceAdd, Nat.reduceMul, Nat.zero_add, Nat.mul_zero, nar_0, nar_1, nar_b, bI_t, bI_f, bI_0, bI_1, Bool.true_eq_false, Bool.false_eq_true, Bool.and_self, Bool.and_false, Bool.false_and, Bool.true_and, Bool.and_true, and_self, s1, s2, s3, e, w, or_true]
  · obtain ⟨D2, N2, c, s, w⟩ := w_untilOver (z := z) hL hj hz hS C
    refine ⟨D2, N2, c, s, fun Q => ?_⟩
    simp (disch := omega) only [sL_law_26, sL_law_27, sL_law_28, sL_law_29, sL_law_31, sL_law_32, true_and, and_true, true_or, or_true, eq_self, ↓reduceIte, if_true, if_false, nI_add, nI_mul, inB_nI, nI_clamp, Nat.add_zero, eqI, ltI, leI, m6_ne, ne_m6, Nat.reduceEqDiff, reduceCtorEq, Nat.reduceLT, Nat.reduceLeDiff, Nat.reduceAdd, Nat.reduceMul, Nat.zero_add, Nat.mul_zero, nar_0, nar_1, nar_b, bI_t, bI_f, bI_0, bI_1, Bool.true_eq_false, Bool.false_eq_true, Bool.and_self, Bool.and_false, Bool.false_and, Bool.true_and, Bool.and_true, and_self, s1, s2, s3, e, w, or_true]
  · obtain ⟨D2, N2, c, s, w⟩ := w_bestPart (z := z) hL hj hz hS C
    refine ⟨D2, N2, c, s, fun Q => ?_⟩
    simp (disch := omega) only [sL_law_26, sL_law_27, sL_law_28, sL_law_29, sL_law_31, sL_law_32, true_and, and_true, true_or, or_true, eq_self, ↓reduceIte, if_true, if_false, nI_add, nI_mul, inB_nI, nI_clamp, Nat.add_zero, eqI, ltI, leI, m6_ne, ne_m6, Nat.reduceEqDiff, reduceCtorEq, Nat.reduceLT, Nat.reduceLeDiff, Nat.reduceAdd, Nat.reduceMul, Nat.zero_add, Nat.mul_zero, nar_0, nar_1, nar_b, bI_t, bI_f, bI_0, bI_1, Bool.true_eq_false, Bool.false_eq_true, Bool.and_self, Bool.and_false, Bool.false_and, Bool.true_and, Bool.and_true, and_self, s1, s2, s3, e, w, or_true]
  · obtain ⟨D2, N2, c, s, w⟩ := w_put (z := z) hL hj hz hS C
    refine ⟨D2, N2, c, s, fun Q => ?_⟩
    simp (disch := omega) only [sL_law_26, sL_law_27, sL_law_28, sL_law_29, sL_law_31, sL_law_32, true_and, and_true, true_or, or_true, eq_self, ↓reduceIte, if_true, if_false, nI_add, nI_mul, inB_nI, nI_clamp, Nat.add_zero, eqI, ltI, leI, m6_ne, ne_m6, Nat.reduceEqDiff, reduceCtorEq, Nat.reduceLT, Nat.reduceLeDiff, Nat.reduceAdd, Nat.reduceMul, Nat.zero_add, Nat.mul_zero, nar_0, nar_1, nar_b, bI_t, bI_f, bI_0, bI_1, Bool.true_eq_false, Bool.false_eq_true, Bool.and_self, Bool.and_false, Bool.false_and, Bool.true_and, Bool.and_true, and_self, s1, s2, s3, e, w, or_true]
  · obtain ⟨D2, N2, c, s, w⟩ := w_wipe (z := z) hL hj hz hS C
    refine ⟨D2, N2, c, s, fun Q => ?_⟩
    simp (disch := omega) only [sL_law_26, sL_law_27, sL_law_28, sL_law_29, sL_law_31, sL_law_32, true_and, and_true, true_or, or_true, eq_self, ↓reduceIte, if_true, if_false, nI_add, nI_mul, inB_nI, nI_clamp, Nat.add_zero, eqI, ltI, leI, m6_ne, ne_m6, Nat.reduceEqDiff, reduceCtorEq, Nat.reduceLT, Nat.reduceLeDiff, Nat.reduceAdd, Nat.reduceMul, Nat.zero_add, Nat.mul_zero, nar_0, nar_1, nar_b, bI_t, bI_f, bI_0, bI_1, Bool.true_eq_false, Bool.false_eq_true, Bool.and_self, Bool.and_false, Bool.false_and, Bool.true_and, Bool.and_true, and_self, s1, s2, s3, e, w, or_true]
  · obtain ⟨D2, N2, c, s, w⟩ := w_fault (z := z) hL hj hz hS C
    refine ⟨D2, N2, c, s, fun Q => ?_⟩
    simp (disch := omega) only [sL_law_26, sL_law_27, sL_law_28, sL_law_29, sL_law_31, sL_law_32, true_and, and_true, true_or, or_true, eq_self, ↓reduceIte, if_true, if_false, nI_add, nI_mul, inB_nI, nI_clamp, Nat.add_zero, eqI, ltI, leI, m6_ne, ne_m6, Nat.reduceEqDiff, reduceCtorEq, Nat.reduceLT, Nat.reduceLeDiff, Nat.reduceAdd, Nat.reduceMul, Nat.zero_add, Nat.mul_zero, nar_0, nar_1, nar_b, bI_t, bI_f, bI_0, bI_1, Bool.true_eq_false, Bool.false_eq_true, Bool.and_self, Bool.and_false, Bool.false_and, Bool.true_and, Bool.and_true, and_self, s1, s2, s3, e, w, or_true]
  · obtain ⟨D2, N2, c, s, w⟩ := w_undo (z := z) hL hj hz hS C
    refine ⟨D2, N2, c, s, fun Q => ?_⟩
    simp (disch := omega) only [sL_law_26, sL_law_27, sL_law_28, sL_law_29, sL_law_31, sL_law_32, true_and, and_true, true_or, or_true, eq_self, ↓reduceIte, if_true, if_false, nI_add, nI_mul, inB_nI, nI_clamp, Nat.add_zero, eqI, ltI, leI, m6_ne, ne_m6, Nat.reduceEqDiff, reduceCtorEq, Nat.reduceLT, Nat.reduceLeDiff, Nat.reduceAdd, Nat.reduceMul, Nat.zero_add, Nat.mul_zero, nar_0, nar_1, nar_b, bI_t, bI_f, bI_0, bI_1, Bool.true_eq_false, Bool.false_eq_true, Bool.and_self, Bool.and_false, Bool.false_and, Bool.true_and, Bool.and_true, and_self, s1, s2, s3, e, w, or_true]
  · obtain ⟨D2, N2, c, s, w⟩ := w_save (z := z) hL hj hz hS C
    refine ⟨D2, N2, c, s, fun Q => ?_⟩
    simp (disch := omega) only [sL_law_26, sL_law_27, sL_law_28, sL_law_29, sL_law_31, sL_law_32, true_and, and_true, true_or, or_true, eq_self, ↓reduceIte, if_true, if_false, nI_add, nI_mul, inB_nI, nI_clamp, Nat.add_zero, eqI, ltI, leI, m6_ne, ne_m6, Nat.reduceEqDiff, reduceCtorEq, Nat.reduceLT, Nat.reduceLeDiff, Nat.reduceAdd, Nat.reduceMul, Nat.zero_add, Nat.mul_zero, nar_0, nar_1, nar_b, bI_t, bI_f, bI_0, bI_1, Bool.true_eq_false, Bool.false_eq_true, Bool.and_self, Bool.and_false, Bool.false_and, Bool.true_and, Bool.and_true, and_self, s1, s2, s3, e, w, or_true]
  · obtain ⟨D2, N2, c, s, w⟩ := w_restore (z := z) hL hj hz hS C
    refine ⟨D2, N2, c, s, fun Q => ?_⟩
    simp (disch := omega) only [sL_law_26, sL_law_27, sL_law_28, sL_law_29, sL_law_31, sL_law_32, true_and, and_true, true_or, or_true, eq_self, ↓reduceIte, if_true, if_false, nI_add, nI_mul, inB_nI, nI_clamp, Nat.add_zero, eqI, ltI, leI, m6_ne, ne_m6, Nat.reduceEqDiff, reduceCtorEq, Nat.reduceLT, Nat.reduceLeDiff, Nat.reduceAdd, Nat.reduceMul, Nat.zero_add, Nat.mul_zero, nar_0, nar_1, nar_b, bI_t, bI_f, bI_0, bI_1, Bool.true_eq_false, Bool.false_eq_true, Bool.and_self, Bool.and_false, Bool.false_and, Bool.true_and, Bool.and_true, and_self, s1, s2, s3, e, w, or_true]
  · refine ⟨D, m, C, hS, fun Q => ?_⟩
    simp (disch := omega) only [sL_law_26, sL_law_27, sL_law_28, sL_law_29, sL_law_31, sL_law_32, true_and, and_true, true_or, or_true, eq_self, ↓reduceIte, if_true, if_false, nI_add, nI_mul, inB_nI, nI_clamp, Nat.add_zero, eqI, ltI, leI, m6_ne, ne_m6, Nat.reduceEqDiff, reduceCtorEq, Nat.reduceLT, Nat.reduceLeDiff, Nat.reduceAdd, Nat.reduceMul, Nat.zero_add, Nat.mul_zero, nar_0, nar_1, nar_b, bI_t, bI_f, bI_0, bI_1, Bool.true_eq_false, Bool.false_eq_true, Bool.and_self, Bool.and_false, Bool.false_and, Bool.true_and, Bool.and_true, and_self, s1, s2, s3, e, or_true]
  · refine ⟨D, m, C, hS, fun Q => ?_⟩
    simp (disch := omega) only [sL_law_26, sL_law_27, sL_law_28, sL_law_29, sL_law_31, sL_law_32, true_and, and_true, true_or, or_true, eq_self, ↓reduceIte, if_true, if_false, nI_add, nI_mul, inB_nI, nI_clamp, Nat.add_zero, eqI, ltI, leI, m6_ne, ne_m6, Nat.reduceEqDiff, reduceCtorEq, Nat.reduceLT, Nat.reduceLeDiff, Nat.reduceAdd, Nat.reduceMul, Nat.zero_add, Nat.mul_zero, nar_0, nar_1, nar_b, bI_t, bI_f, bI_0, bI_1, Bool.true_eq_false, Bool.false_eq_true, Bool.and_self, Bool.and_false, Bool.false_and, Bool.true_and, Bool.and_true, and_self, s1, s2, s3, e, or_true]
  · refine ⟨D, m, C, hS, fun Q => ?_⟩
    simp (disch := omega) only [sL_law_26, sL_law_27, sL_law_28, sL_law_29, sL_law_31, sL_law_32, true_and, and_true, true_or, or_true, eq_self, ↓reduceIte, if_true, if_false, nI_add, nI_mul, inB_nI, nI_clamp, Nat.add_zero, eqI, ltI, leI, m6_ne, ne_m6, Nat.reduceEqDiff, reduceCtorEq, Nat.reduceLT, Nat.reduceLeDiff, Nat.reduceAdd, Nat.reduceMul, Nat.zero_add, Nat.mul_zero, nar_0, nar_1, nar_b, bI_t, bI_f, bI_0, bI_1, Bool.true_eq_false, Bool.false_eq_true, Bool.and_self, Bool.and_false, Bool.false_and, Bool.true_and, Bool.and_true, and_self, s1, s2, s3, e, or_true]
  · refine ⟨D, m, C, hS, fun Q => ?_⟩
    simp (disch := omega) only [sL_law_26, sL_law_27, sL_law_28, sL_law_29, sL_law_31, sL_law_32, true_and, and_true, true_or, or_true, eq_self, ↓reduceIte, if_true, if_false, nI_add, nI_mul, inB_nI, nI_clamp, Nat.add_zero, eqI, ltI, leI, m6_ne, ne_m6, Nat.reduceEqDiff, reduceCtorEq, Nat.reduceLT, Nat.reduceLeDiff, Nat.reduceAdd, Nat.reduceMul, Nat.zero_add, Nat.mul_zero, nar_0, nar_1, nar_b, bI_t, bI_f, bI_0, bI_1, Bool.true_eq_false, Bool.false_eq_true, Bool.and_self, Bool.and_false, Bool.false_and, Bool.true_and, Bool.and_true, and_self, s1, s2, s3, e, or_true]
  · refine ⟨D, m, C, hS, fun Q => ?_⟩
    simp (disch := omega) only [sL_law_26, sL_law_27, sL_law_28, sL_law_29, sL_law_31, sL_law_32, true_and, and_true, true_or, or_true, eq_self, ↓reduceIte, if_true, if_false, nI_add, nI_mul, inB_nI, nI_clamp, Nat.add_zero, eqI, ltI, leI, m6_ne, ne_m6, Nat.reduceEqDiff, reduceCtorEq, Nat.reduceLT, Nat.reduceLeDiff, Nat.reduceAdd, Nat.reduceMul, Nat.zero_add, Nat.mul_zero, nar_0, nar_1, nar_b, bI_t, bI_f, bI_0, bI_1, Bool.true_eq_false, Bool.false_eq_true, Bool.and_self, Bool.and_false, Bool.false_and, Bool.true_and, Bool.and_true, and_self, s1, s2, s3, e, or_true]
  · refine ⟨D, m, C, hS, fun Q => ?_⟩
    simp (disch := omega) only [sL_law_26, sL_law_27, sL_law_28, sL_law_29, sL_law_31, sL_law_32, true_and, and_true, true_or, or_true, eq_self, ↓reduceIte, if_true, if_false, nI_add, nI_mul, inB_nI, nI_clamp, Nat.add_zero, eqI, ltI, leI, m6_ne, ne_m6, Nat.reduceEqDiff, reduceCtorEq, Nat.reduceLT, Nat.reduceLeDiff, Nat.reduceAdd, Nat.reduceMul, Nat.zero_add, Nat.mul_zero, nar_0, nar_1, nar_b, bI_t, bI_f, bI_0, bI_1, Bool.true_eq_false, Bool.false_eq_true, Bool.and_self, Bool.and_false, Bool.false_and, Bool.true_and, Bool.and_true, and_self, s1, s2, s3, e, or_true]
theorem l_law (hL : L ≤ 2048) (hz : 867 ≤ z.1) : ∀ k i (D : vDD) (m : vMM), L ≤ i + 4 * k + 3 → i ≤ L + 3 → SCR D m L xs → Cpl D m → Runs ML_law 18 [.ref 0, .ref 1, .ref 853, .int (nI i)] [] D m z (fun v _ _ z' => v = .int (nI 1) ∧ z' = z) := by
  have ends : ∀ i (D : vDD) (m : vMM), L ≤ i + 3 → i ≤ L + 3 → SCR D m L xs → Runs ML_law 18 [.ref 0, .ref 1, .ref 853, .int (nI i)] [] D m z (fun v _ _ z' => v = .int (nI 1) ∧ z' = z) := by
    intro i D m h1 h2 hS
    obtain ⟨s1, s2, s3⟩ := hS
    have hlt : nI L - nI 4 < nI i := by
      by_cases h : 4 ≤ L
      · rw [nI_sub _ _ h, ltI _ _ (by omega) (by omega)]
        omega
      · have h3 : nI L - nI 4 < nI 0 := nI_neg (by omega) (by decide)
        have h4 : nI 0 ≤ nI i := by rw [leI _ _ (by decide) (by omega)]; exact Nat.zero_le _
        exact Int32.lt_of_lt_of_le h3 h4
    have e0 : Int32.ofNat L = nI L := rfl
    rw [sL_law_18]
    simp (disch := omega) only [sL_law_19, sL_law_20, sL_law_21, sL_law_22, sL_law_23, sL_law_812, sL_law_813, s1, s2, true_and, e0, hlt, if_true, nar_1, and_self]
  intro k
  induction k with
  | zero =>
    intro i D m h1 h2 hS C
    exact ends i D m (by omega) h2 hS
  | succ k ih =>
    intro i D m h1 h2 hS C
    by_cases hj : i + 4 ≤ L
    · obtain ⟨D2, N2, c, s, w⟩ := w_case (z := z) hL hj hz hS C
      have ih := ih (i + 4) D2 N2 (by omega) (by omega) s c
      obtain ⟨s1, s2, s3⟩ := hS
      have e0 : Int32.ofNat L = nI L := rfl
      have hlt : ¬ L - 4 < i := by omega
      rw [sL_law_18]
      simp (disch := omega) only [sL_law_19, sL_law_20, sL_law_21, sL_law_22, sL_law_23, s1, s2, true_and, e0, nI_sub, ltI, hlt, if_false, w, sL_law_806, sL_law_809, nI_add]
      exact ih
    · exact ends i D m (by omega) h2 hS
end LAWL
