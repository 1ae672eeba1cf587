/-! the law's turns -/
theorem ACT.from {pc pc' : Nat} {D : vDD} {M : vMM} {z : vZZ} {N : Nat} {tu x y ki fx : Int32} (h : ∀ v15 v16 v17 v18 v19 v20 Q, Runs ML_law pc' [.ref 0, .ref 1, .ref 853, .ref 854, .ref 855, .ref 856, .ref 857, .ref 858, .ref 859, .ref 860, .int tu, .int x, .int y, .int ki, .int fx, v15, v16, v17, v18, v19, v20] [] D M z Q = Runs ML_law pc [.ref 0, .ref 1, .ref 853, .ref 854, .ref 855, .ref 856, .ref 857, .ref 858, .ref 859, .ref 860, .int tu, .int x, .int y, .int ki, .int fx, v15, v16, v17, v18, v19, v20] [] D M z Q) (A : ACT pc D M z N tu x y ki fx) : ACT pc' D M z N tu x y ki fx := by
  intro v15 v16 v17 v18 v19 v20
  obtain ⟨D1, M1, f, nF, nT, L, ch, w15, w16, w17, w18, w19, w20, S, e⟩ := A v15 v16 v17 v18 v19 v20
  exact ⟨D1, M1, f, nF, nT, L, ch, w15, w16, w17, w18, w19, w20, S, fun Q => by rw [h, e]⟩
section LLP
variable {D D1 : vDD} {M m m1 : vMM} {f g : Nat → Int32} {z : vZZ} {nF nT L N A i : Nat} {ch : Nat → Nat} {tu x y : Int32}
theorem l_act (S : ST D (lM m 853 f) f nF nT L ch A) (hz : 861 ≤ z.1) {ki : Nat} (hk : ki < 14) (h1 : 1 ≤ nF ∨ (ki = 0 ∧ nF = 0)) (hi : 1 ≤ nF → i < nF) : ACT 162 D (lM m 853 f) z A tu x y (nI ki) (nI i) := by
  have g2 := S.1.1.wf.1.1
  have g3 := S.1.1.wf.1.2.2.1
  have hD := S.1.2.2.2.1
  have h5 := S.1.2.2.2.2.1
  have h7 := S.1.2.2.2.2.2
  simp only [IsL, Nat.reduceAdd] at hD
  by_cases c1 : ki = 0 ∧ nF < 5
  · obtain ⟨rfl, c2⟩ := c1
    have n5 : ¬ 5 ≤ nF := by omega
    refine (a_come S hz c2).from (fun v15 v16 v17 v18 v19 v20 Q => ?_)
    simp (disch := omega) only [sL_law_162, sL_law_164, sL_law_167, sL_law_168, sL_law_169, sL_law_170, sL_law_171, hD, l_q, g2, n5, true_and, and_true, true_or, or_true, eq_self, ↓reduceIte, if_true, if_false, nI_add, nI_mul, inB_nI, nI_clamp, Nat.add_zero, eqI, ltI, leI, m6_ne, ne_m6, Nat.reduceEqDiff, reduceCtorEq, Nat.reduceLT, Nat.reduceLeDiff, Nat.reduceAdd, Nat.reduceMul, Nat.zero_add, Nat.mul_zero, nar_0, nar_1, nar_b, bI_t, bI_f, bI_0, bI_1, Bool.true_eq_false, Bool.false_eq_true, Bool.and_self, Bool.and_false, Bool.false_and, Bool.true_and, Bool.and_true, and_self]
  have hF : 1 ≤ nF := by omega
  have hi := hi hF
  have J : ∀ {pc : Nat}, ACT 287 D (lM m 853 f) z A tu x y (nI ki) (nI i) → ACT 162 D (lM m 853 f) z A tu x y (nI ki) (nI i) := by
    intro _ h
    refine h.from (fun v15 v16 v17 v18 v19 v20 Q => ?_)
    by_cases c2 : ki = 0
    · have n5 : 5 ≤ nF := by omega
      subst c2
      simp (disch := omega) only [sL_law_162, sL_law_164, sL_law_167, sL_law_168, sL_law_169, sL_law_170, sL_law_171, hD, l_q, g2, n5, true_and, and_true, true_or, or_true, eq_self, ↓reduceIte, if_true, if_false, nI_add, nI_mul, inB_nI, nI_clamp, Nat.add_zero, eqI, ltI, leI, m6_ne, ne_m6, Nat.reduceEqDiff, reduceCtorEq, Nat.reduceLT, Nat.reduceLeDiff, Nat.reduceAdd, Nat.reduceMul, Nat.zero_add, Nat.mul_zero, nar_0, nar_1, nar_b, bI_t, bI_f, bI_0, bI_1, Bool.true_eq_false, Bool.false_eq_true, Bool.and_self, Bool.and_false, Bool.false_and, Bool.true_and, Bool.and_true, and_self]
    · simp (disch := omega) only [sL_law_162, sL_law_164, sL_law_167, sL_law_168, sL_law_169, sL_law_170, sL_law_171, hD, l_q, g2, c2, true_and, and_true, true_or, or_true, eq_self, ↓reduceIte, if_true, if_false, nI_add, nI_mul, inB_nI, nI_clamp, Nat.add_zero, eqI, ltI, leI, m6_ne, ne_m6, Nat.reduceEqDiff, reduceCtorEq, Nat.reduceLT, Nat.reduceLeDiff, Nat.reduceAdd, Nat.reduceMul, Nat.zero_add, Nat.mul_zero, nar_0, nar_1, nar_b, bI_t, bI_f, bI_0, bI_1, Bool.true_eq_false, Bool.false_eq_true, Bool.and_self, Bool.and_false, Bool.false_and, Bool.true_and, Bool.and_true, and_self]
  refine J (pc := 0) ?_
  by_cases c3 : ki < 4 ∧ nT < 7
  · have n3 : ¬ 4 ≤ ki := by omega
    have n7 : ¬ 7 ≤ nT := by omega
    refine (a_bring S hz hF c3.2).from (fun v15 v16 v17 v18 v19 v20 Q => ?_)
    simp (disch := omega) only [sL_law_287, sL_law_289, sL_law_290, sL_law_293, sL_law_294, sL_law_295, sL_law_296, sL_law_298, hD, l_q, g3, n3, n7, true_and, and_true, true_or, or_true, eq_self, ↓reduceIte, if_true, if_false, nI_add, nI_mul, inB_nI, nI_clamp, Nat.add_zero, eqI, ltI, leI, m6_ne, ne_m6, Nat.reduceEqDiff, reduceCtorEq, Nat.reduceLT, Nat.reduceLeDiff, Nat.reduceAdd, Nat.reduceMul, Nat.zero_add, Nat.mul_zero, nar_0, nar_1, nar_b, bI_t, bI_f, bI_0, bI_1, Bool.true_eq_false, Bool.false_eq_true, Bool.and_self, Bool.and_false, Bool.false_and, Bool.true_and, Bool.and_true, and_self]
  have J2 : ACT 637 D (lM m 853 f) z A tu x y (nI ki) (nI i) → ACT 287 D (lM m 853 f) z A tu x y (nI ki) (nI i) := by
    intro h
    refine h.from (fun v15 v16 v17 v18 v19 v20 Q => ?_)
    by_cases c4 : 4 ≤ ki
    · simp (disch := omega) only [sL_law_287, sL_law_289, sL_law_290, sL_law_293, sL_law_294, sL_law_295, sL_law_296, sL_law_298, hD, l_q, g3, c4, true_and, and_true, true_or, or_true, eq_self, ↓reduceIte, if_true, if_false, nI_add, nI_mul, inB_nI, nI_clamp, Nat.add_zero, eqI, ltI, leI, m6_ne, ne_m6, Nat.reduceEqDiff, reduceCtorEq, Nat.reduceLT, Nat.reduceLeDiff, Nat.reduceAdd, Nat.reduceMul, Nat.zero_add, Nat.mul_zero, nar_0, nar_1, nar_b, bI_t, bI_f, bI_0, bI_1, Bool.true_eq_false, Bool.false_eq_true, Bool.and_self, Bool.and_false, Bool.false_and, Bool.true_and, Bool.and_true, and_self]
    · have n7 : 7 ≤ nT := by omega
      simp (disch := omega) only [sL_law_287, sL_law_289, sL_law_290, sL_law_293, sL_law_294, sL_law_295, sL_law_296, sL_law_298, hD, l_q, g3, c4, n7, true_and, and_true, true_or, or_true, eq_self, ↓reduceIte, if_true, if_false, nI_add, nI_mul, inB_nI, nI_clamp, Nat.add_zero, eqI, ltI, leI, m6_ne, ne_m6, Nat.reduceEqDiff, reduceCtorEq, Nat.reduceLT, Nat.reduceLeDiff, Nat.reduceAdd, Nat.reduceMul, Nat.zero_add, Nat.mul_zero, nar_0, nar_1, nar_b, bI_t, bI_f, bI_0, bI_1, Bool.true_eq_false, Bool.false_eq_true, Bool.and_self, Bool.and_false, Bool.false_and, Bool.true_and, Bool.and_true, and_self]
  refine J2 ?_
  by_cases c5 : ki < 8
  · have n8 : ¬ 8 ≤ ki := by omega
    refine (a_pass S hz hF).from (fun v15 v16 v17 v18 v19 v20 Q => ?_)
    simp (disch := omega) only [sL_law_637, sL_law_639, sL_law_641, n8, true_and, and_true, true_or, or_true, eq_self, ↓reduceIte, if_true, if_false, nI_add, nI_mul, inB_nI, nI_clamp, Nat.add_zero, eqI, ltI, leI, m6_ne, ne_m6, Nat.reduceEqDiff, reduceCtorEq, Nat.reduceLT, Nat.reduceLeDiff, Nat.reduceAdd, Nat.reduceMul, Nat.zero_add, Nat.mul_zero, nar_0, nar_1, nar_b, bI_t, bI_f, bI_0, bI_1, Bool.true_eq_false, Bool.false_eq_true, Bool.and_self, Bool.and_false, Bool.false_and, Bool.true_and, Bool.and_true, and_self]
  have n8 : 8 ≤ ki := by omega
  have J3 : ACT 704 D (lM m 853 f) z A tu x y (nI ki) (nI i) → ACT 637 D (lM m 853 f) z A tu x y (nI ki) (nI i) := by
    intro h
    refine h.from (fun v15 v16 v17 v18 v19 v20 Q => ?_)
    simp (disch := omega) only [sL_law_637, sL_law_639, sL_law_641, n8, true_and, and_true, true_or, or_true, eq_self, ↓reduceIte, if_true, if_false, nI_add, nI_mul, inB_nI, nI_clamp, Nat.add_zero, eqI, ltI, leI, m6_ne, ne_m6, Nat.reduceEqDiff, reduceCtorEq, Nat.reduceLT, Nat.reduceLeDiff, Nat.reduceAdd, Nat.reduceMul, Nat.zero_add, Nat.mul_zero, nar_0, nar_1, nar_b, bI_t, bI_f, bI_0, bI_1, Bool.true_eq_false, Bool.false_eq_true, Bool.and_self, Bool.and_false, Bool.false_and, Bool.true_and, Bool.and_true, and_self]
  refine J3 ?_
  by_cases c8 : ki = 8
  · refine (a_away S hz hF hi).from (fun v15 v16 v17 v18 v19 v20 Q => ?_)
    simp (disch := omega) only [sL_law_704, sL_law_706, sL_law_708, c8, true_and, and_true, true_or, or_true, eq_self, ↓reduceIte, if_true, if_false, nI_add, nI_mul, inB_nI, nI_clamp, Nat.add_zero, eqI, ltI, leI, m6_ne, ne_m6, Nat.reduceEqDiff, reduceCtorEq, Nat.reduceLT, Nat.reduceLeDiff, Nat.reduceAdd, Nat.reduceMul, Nat.zero_add, Nat.mul_zero, nar_0, nar_1, nar_b, bI_t, bI_f, bI_0, bI_1, Bool.true_eq_false, Bool.false_eq_true, Bool.and_self, Bool.and_false, Bool.false_and, Bool.true_and, Bool.and_true, and_self]
  have J4 : ACT 845 D (lM m 853 f) z A tu x y (nI ki) (nI i) → ACT 704 D (lM m 853 f) z A tu x y (nI ki) (nI i) := by
    intro h
    refine h.from (fun v15 v16 v17 v18 v19 v20 Q => ?_)
    simp (disch := omega) only [sL_law_704, sL_law_706, sL_law_708, c8, true_and, and_true, true_or, or_true, eq_self, ↓reduceIte, if_true, if_false, nI_add, nI_mul, inB_nI, nI_clamp, Nat.add_zero, eqI, ltI, leI, m6_ne, ne_m6, Nat.reduceEqDiff, reduceCtorEq, Nat.reduceLT, Nat.reduceLeDiff, Nat.reduceAdd, Nat.reduceMul, Nat.zero_add, Nat.mul_zero, nar_0, nar_1, nar_b, bI_t, bI_f, bI_0, bI_1, Bool.true_eq_false, Bool.false_eq_true, Bool.and_self, Bool.and_false, Bool.false_and, Bool.true_and, Bool.and_true, and_self]
  refine J4 ?_
  by_cases c9 : ki = 9
  · refine (a_stock S hz hF).from (fun v15 v16 v17 v18 v19 v20 Q => ?_)
    simp (disch := omega) only [sL_law_845, sL_law_847, sL_law_849, c9, true_and, and_true, true_or, or_true, eq_self, ↓reduceIte, if_true, if_false, nI_add, nI_mul, inB_nI, nI_clamp, Nat.add_zero, eqI, ltI, leI, m6_ne, ne_m6, Nat.reduceEqDiff, reduceCtorEq, Nat.reduceLT, Nat.reduceLeDiff, Nat.reduceAdd, Nat.reduceMul, Nat.zero_add, Nat.mul_zero, nar_0, nar_1, nar_b, bI_t, bI_f, bI_0, bI_1, Bool.true_eq_false, Bool.false_eq_true, Bool.and_self, Bool.and_false, Bool.false_and, Bool.true_and, Bool.and_true, and_self]
  have J5 : ACT 948 D (lM m 853 f) z A tu x y (nI ki) (nI i) → ACT 845 D (lM m 853 f) z A tu x y (nI ki) (nI i) := by
    intro h
    refine h.from (fun v15 v16 v17 v18 v19 v20 Q => ?_)
    simp (disch := omega) only [sL_law_845, sL_law_847, sL_law_849, c9, true_and, and_true, true_or, or_true, eq_self, ↓reduceIte, if_true, if_false, nI_add, nI_mul, inB_nI, nI_clamp, Nat.add_zero, eqI, ltI, leI, m6_ne, ne_m6, Nat.reduceEqDiff, reduceCtorEq, Nat.reduceLT, Nat.reduceLeDiff, Nat.reduceAdd, Nat.reduceMul, Nat.zero_add, Nat.mul_zero, nar_0, nar_1, nar_b, bI_t, bI_f, bI_0, bI_1, Bool.true_eq_false, Bool.false_eq_true, Bool.and_self, Bool.and_false, Bool.false_and, Bool.true_and, Bool.and_true, and_self]
  refine J5 ?_
  by_cases c10 : ki = 10 ∧ 0 < nT
  · have n0 : ¬ nT ≤ 0 := by omega
    have c10' := c10.1
    refine (a_again S hz hF c10.2).from (fun v15 v16 v17 v18 v19 v20 Q => ?_)
    simp (disch := omega) only [sL_law_948, sL_law_950, sL_law_952, sL_law_955, sL_law_956, sL_law_957, sL_law_958, hD, l_q, g3, c10', n0, true_and, and_true, true_or, or_true, eq_self, ↓reduceIte, if_true, if_false, nI_add, nI_mul, inB_nI, nI_clamp, Nat.add_zero, eqI, ltI, leI, m6_ne, ne_m6, Nat.reduceEqDiff, reduceCtorEq, Nat.reduceLT, Nat.reduceLeDiff, Nat.reduceAdd, Nat.reduceMul, Nat.zero_add, Nat.mul_zero, nar_0, nar_1, nar_b, bI_t, bI_f, bI_0, bI_1, Bool.true_eq_false, Bool.false_eq_true, Bool.and_self, Bool.and_false, Bool.false_and, Bool.true_and, Bool.and_true, and_self]
  have J6 : ACT 1046 D (lM m 853 f) z A tu x y (nI ki) (nI i) → ACT 948 D (lM m 853 f) z A tu x y (nI ki) (nI i) := by
    intro h
    refine h.from (fun v15 v16 v17 v18 v19 v20 Q => ?_)
    by_cases c : ki = 10
    · have n0 : nT ≤ 0 := by omega
      simp (disch := omega) only [sL_law_948, sL_law_950, sL_law_952, sL_law_955, sL_law_956, sL_law_957, sL_law_958, hD, l_q, g3, c, n0, true_and, and_true, true_or, or_true, eq_self, ↓reduceIte, if_true, if_false, nI_add, nI_mul, inB_nI, nI_clamp, Nat.add_zero, eqI, ltI, leI, m6_ne, ne_m6, Nat.reduceEqDiff, reduceCtorEq, Nat.reduceLT, Nat.reduceLeDiff, Nat.reduceAdd, Nat.reduceMul, Nat.zero_add, Nat.mul_zero, nar_0, nar_1, nar_b, bI_t, bI_f, bI_0, bI_1, Bool.true_eq_false, Bool.false_eq_true, Bool.and_self, Bool.and_false, Bool.false_and, Bool.true_and, Bool.and_true, and_self]
    · simp (disch := omega) only [sL_law_948, sL_law_950, sL_law_952, sL_law_955, sL_law_956, sL_law_957, sL_law_958, hD, l_q, g3, c, true_and, and_true, true_or, or_true, eq_self, ↓reduceIte, if_true, if_false, nI_add, nI_mul, inB_nI, nI_clamp, Nat.add_zero, eqI, ltI, leI, m6_ne, ne_m6, Nat.reduceEqDiff, reduceCtorEq, Nat.reduceLT, Nat.reduceLeDiff, Nat.reduceAdd, Nat.reduceMul, Nat.zero_add, Nat.mul_zero, nar_0, nar_1, nar_b, bI_t, bI_f, bI_0, bI_1, Bool.true_eq_false, Bool.false_eq_true, Bool.and_self, Bool.and_false, Bool.false_and, Bool.true_and, Bool.and_true, and_self]
  refine J6 ?_
  by_cases c11 : ki = 11
  · refine (a_give S hz hF).from (fun v15 v16 v17 v18 v19 v20 Q => ?_)
    simp (disch := omega) only [sL_law_1046, sL_law_1048, sL_law_1050, c11, true_and, and_true, true_or, or_true, eq_self, ↓reduceIte, if_true, if_false, nI_add, nI_mul, inB_nI, nI_clamp, Nat.add_zero, eqI, ltI, leI, m6_ne, ne_m6, Nat.reduceEqDiff, reduceCtorEq, Nat.reduceLT, Nat.reduceLeDiff, Nat.reduceAdd, Nat.reduceMul, Nat.zero_add, Nat.mul_zero, nar_0, nar_1, nar_b, bI_t, bI_f, bI_0, bI_1, Bool.true_eq_false, Bool.false_eq_true, Bool.and_self, Bool.and_false, Bool.false_and, Bool.true_and, Bool.and_true, and_self]
  have J7 : ACT 1140 D (lM m 853 f) z A tu x y (nI ki) (nI i) → ACT 1046 D (lM m 853 f) z A tu x y (nI ki) (nI i) := by
    intro h
    refine h.from (fun v15 v16 v17 v18 v19 v20 Q => ?_)
    simp (disch := omega) only [sL_law_1046, sL_law_1048, sL_law_1050, c11, true_and, and_true, true_or, or_true, eq_self, ↓reduceIte, if_true, if_false, nI_add, nI_mul, inB_nI, nI_clamp, Nat.add_zero, eqI, ltI, leI, m6_ne, ne_m6, Nat.reduceEqDiff, reduceCtorEq, Nat.reduceLT, Nat.reduceLeDiff, Nat.reduceAdd, Nat.reduceMul, Nat.zero_add, Nat.mul_zero, nar_0, nar_1, nar_b, bI_t, bI_f, bI_0, bI_1, Bool.true_eq_false, Bool.false_eq_true, Bool.and_self, Bool.and_false, Bool.false_and, Bool.true_and, Bool.and_true, and_self]
  refine J7 ?_
  have l4 := lwN_lt y (n := 4) (by decide)
  by_cases c12 : ki = 12 ∧ lwN y 4 = 0
  · have c12' := c12.1
    have l0 := c12.2
    refine (a_clear S hz hF).from (fun v15 v16 v17 v18 v19 v20 Q => ?_)
    simp (disch := omega) only [sL_law_1140, sL_law_1142, sL_law_1144, sL_law_1147, sL_law_1149, sL_law_1150, sL_law_1153, c12', y_low, l0, true_and, and_true, true_or, or_true, eq_self, ↓reduceIte, if_true, if_false, nI_add, nI_mul, inB_nI, nI_clamp, Nat.add_zero, eqI, ltI, leI, m6_ne, ne_m6, Nat.reduceEqDiff, reduceCtorEq, Nat.reduceLT, Nat.reduceLeDiff, Nat.reduceAdd, Nat.reduceMul, Nat.zero_add, Nat.mul_zero, nar_0, nar_1, nar_b, bI_t, bI_f, bI_0, bI_1, Bool.true_eq_false, Bool.false_eq_true, Bool.and_self, Bool.and_false, Bool.false_and, Bool.true_and, Bool.and_true, and_self]
  · refine (a_set S hz hF).from (fun v15 v16 v17 v18 v19 v20 Q => ?_)
    by_cases c : ki = 12
    · have l0 : ¬ lwN y 4 = 0 := by omega
      simp (disch := omega) only [sL_law_1140, sL_law_1142, sL_law_1144, sL_law_1147, sL_law_1149, sL_law_1150, sL_law_1153, c, y_low, l0, true_and, and_true, true_or, or_true, eq_self, ↓reduceIte, if_true, if_false, nI_add, nI_mul, inB_nI, nI_clamp, Nat.add_zero, eqI, ltI, leI, m6_ne, ne_m6, Nat.reduceEqDiff, reduceCtorEq, Nat.reduceLT, Nat.reduceLeDiff, Nat.reduceAdd, Nat.reduceMul, Nat.zero_add, Nat.mul_zero, nar_0, nar_1, nar_b, bI_t, bI_f, bI_0, bI_1, Bool.true_eq_false, Bool.false_eq_true, Bool.and_self, Bool.and_false, Bool.false_and, Bool.true_and, Bool.and_true, and_self]
    · simp (disch := omega) only [sL_law_1140, sL_law_1142, sL_law_1144, sL_law_1147, sL_law_1149, sL_law_1150, sL_law_1153, c, true_and, and_true, true_or, or_true, eq_self, ↓reduceIte, if_true, if_false, nI_add, nI_mul, inB_nI, nI_clamp, Nat.add_zero, eqI, ltI, leI, m6_ne, ne_m6, Nat.reduceEqDiff, reduceCtorEq, Nat.reduceLT, Nat.reduceLeDiff, Nat.reduceAdd, Nat.reduceMul, Nat.zero_add, Nat.mul_zero, nar_0, nar_1, nar_b, bI_t, bI_f, bI_0, bI_1, Bool.true_eq_false, Bool.false_eq_true, Bool.and_self, Bool.and_false, Bool.false_and, Bool.true_and, Bool.and_true, and_self]
/-- the looks -/
theorem l_look (S : ST D M f nF nT L ch A) (hz : 861 ≤ z.1) (hN : N = 500) {t : Nat} (ht : t < 24) {v13 v14 v15 v16 v17 v18 v19 v20 : Value} : ∃ D1 M1, ST D1 M1 f nF nT L ch A ∧ ∀ Q, Runs ML_law 1271 [.ref 0, .ref 1, .ref 853, .ref 854, .ref 855, .ref 856, .ref 857, .ref 858, .ref 859, .ref 860, .int (nI t), .int x, .int y, v13, v14, v15, v16, v17, v18, v19, v20] [] D M z Q = Runs ML_law 88 [.ref 0, .ref 1, .ref 853, .ref 854, .ref 855, .ref 856, .ref 857, .ref 858, .ref 859, .ref 860, .int (nI (t + 1)), .int x, .int y, v13, v14, v15, v16, v17, v18, v19, v20] [] D1 M1 z Q := by
  have ys := fun Q => z_same (D := D) (M := M) (z := z) (Q := Q) S.1
  have l4 := lwN_lt (y >>> (nI 12 &&& 31)) (n := 4) (by decide)
  by_cases c : lwN (y >>> (nI 12 &&& 31)) 4 = 0
  · obtain ⟨D1, M1, S1, y1⟩ := z_would (x := y >>> (nI 1 &&& 31)) S hN hz
    refine ⟨D1, M1, S1, fun Q => ?_⟩
    simp (disch := omega) only [sL_law_1271, sL_law_1272, sL_law_1273, sL_law_1274, sL_law_1276, sL_law_1279, sL_law_1282, sL_law_1284, sL_law_1286, sL_law_1287, sL_law_1288, sL_law_1291, sL_law_1294, sL_law_1295, sL_law_1297, sL_law_1298, sL_law_1299, sL_law_1300, sL_law_1301, sL_law_1303, sL_law_1305, sL_law_1307, sL_law_1309, sL_law_1311, sL_law_1313, sL_law_1316, sL_law_1319, sL_law_1320, sL_law_1321, sL_law_1324, ys, y_low, c, y1, Nat.one_ne_zero, true_and, and_true, true_or, or_true, eq_self, ↓reduceIte, if_true, if_false, nI_add, nI_mul, inB_nI, nI_clamp, Nat.add_zero, eqI, ltI, leI, m6_ne, ne_m6, Nat.reduceEqDiff, reduceCtorEq, Nat.reduceLT, Nat.reduceLeDiff, Nat.reduceAdd, Nat.reduceMul, Nat.zero_add, Nat.mul_zero, nar_0, nar_1, nar_b, bI_t, bI_f, bI_0, bI_1, Bool.true_eq_false, Bool.false_eq_true, Bool.and_self, Bool.and_false, Bool.false_and, Bool.true_and, Bool.and_true, and_self]
  · refine ⟨D, M, S, fun Q => ?_⟩
    simp (disch := omega) only [sL_law_1271, sL_law_1272, sL_law_1273, sL_law_1274, sL_law_1276, sL_law_1279, sL_law_1282, sL_law_1284, sL_law_1286, sL_law_1287, sL_law_1288, sL_law_1291, sL_law_1294, sL_law_1295, sL_law_1297, sL_law_1298, sL_law_1299, sL_law_1300, sL_law_1301, sL_law_1303, sL_law_1305, sL_law_1307, sL_law_1309, sL_law_1311, sL_law_1313, sL_law_1316, sL_law_1319, sL_law_1320, sL_law_1321, sL_law_1324, ys, y_low, c, Nat.one_ne_zero, true_and, and_true, true_or, or_true, eq_self, ↓reduceIte, if_true, if_false, nI_add, nI_mul, inB_nI, nI_clamp, Nat.add_zero, eqI, ltI, leI, m6_ne, ne_m6, Nat.reduceEqDiff, reduceCtorEq, Nat.reduceLT, Nat.reduceLeDiff, Nat.reduceAdd, Nat.reduceMul, Nat.zero_add, Nat.mul_zero, nar_0, nar_1, nar_b, bI_t, bI_f, bI_0, bI_1, Bool.true_eq_false, Bool.false_eq_true, Bool.and_self, Bool.and_false, Bool.false_and, Bool.true_and, Bool.and_true, and_self]
theorem l_turns (hA : A ≤ 260) (hz : 861 ≤ z.1) (hN : N = 500) : ∀ d t (D : vDD) (M : vMM) (f : Nat → Int32) (nF nT L : Nat) (ch : Nat → Nat) (v11 v12 v13 v14 v15 v16 v17 v18 v19 v20 : Value), t + d = 24 → ST D M f nF nT L ch A → (t = 0 → nF = 0) → (1 ≤ t → 1 ≤ nF) →
    ∃ D1 M1, ∀ Q, Runs ML_law 88 [.ref 0, .ref 1, .ref 853, .ref 854, .ref 855, .ref 856, .ref 857, .ref 858, .ref 859, .ref 860, .int (nI t), v11, v12, v13, v14, v15, v16, v17, v18, v19, v20] [] D M z Q = Q (.int (nI 1)) D1 M1 z := by
  intro d
  induction d with
  | zero =>
    intro t D M f nF nT L ch v11 v12 v13 v14 v15 v16 v17 v18 v19 v20 ht S h0 h1
    obtain rfl : t = 24 := by omega
    refine ⟨D, M, fun Q => ?_⟩
    rw [sL_law_88]
    simp (disch := omega) only [sL_law_90, sL_law_92, sL_law_1327, sL_law_1328, true_and, and_true, true_or, or_true, eq_self, ↓reduceIte, if_true, if_false, nI_add, nI_mul, inB_nI, nI_clamp, Nat.add_zero, eqI, ltI, leI, m6_ne, ne_m6, Nat.reduceEqDiff, reduceCtorEq, Nat.reduceLT, Nat.reduceLeDiff, Nat.reduceAdd, Nat.reduceMul, Nat.zero_add, Nat.mul_zero, nar_0, nar_1, nar_b, bI_t, bI_f, bI_0, bI_1, Bool.true_eq_false, Bool.false_eq_true, Bool.and_self, Bool.and_false, Bool.false_and, Bool.true_and, Bool.and_true, and_self, Nat.le_refl]
  | succ d ih =>
    intro t D M f nF nT L ch v11 v12 v13 v14 v15 v16 v17 v18 v19 v20 ht S h0 h1
    have hlt : ¬ 24 ≤ t := by omega
    have hLB := S.1.2.1
    have g2 := S.1.1.wf.1.1
    have q2 : M 853 2 = gG f 2 := hLB.rq (by decide)
    have hD := S.1.2.2.2.1
    have h5 := S.1.2.2.2.2.1
    simp only [IsL, Nat.reduceAdd] at hD
    obtain ⟨x, yx⟩ := y_cell (D := D) (m := M) (z := z) S.2.1 hA (k := 2 * t) (by omega)
    obtain ⟨y, yy⟩ := y_cell (D := D) (m := M) (z := z) S.2.1 hA (k := 2 * t + 1) (by omega)
    -- the kind
    obtain ⟨ki, hk, hk0, y3⟩ : ∃ ki, ki < 14 ∧ (t = 0 → ki = 0) ∧ ∀ Q, Runs ML_law 88 [.ref 0, .ref 1, .ref 853, .ref 854, .ref 855, .ref 856, .ref 857, .ref 858, .ref 859, .ref 860, .int (nI t), v11, v12, v13, v14, v15, v16, v17, v18, v19, v20] [] D M z Q = Runs ML_law 140 [.ref 0, .ref 1, .ref 853, .ref 854, .ref 855, .ref 856, .ref 857, .ref 858, .ref 859, .ref 860, .int (nI t), .int x, .int y, .int (nI ki), v14, v15, v16, v17, v18, v19, v20] [] D M z Q := by
      by_cases c : t < 6
      · have n6 : ¬ 6 ≤ t := by omega
        have er : nI t - nI t / nI 2 * nI 2 = nI (t % 2) := iremI t 2 (by omega) (by decide)
        refine ⟨t % 2, by omega, fun q => by rw [q], fun Q => ?_⟩
        rw [sL_law_88]
        simp (disch := omega) only [sL_law_90, sL_law_92, sL_law_95, sL_law_96, sL_law_97, sL_law_99, sL_law_100, sL_law_103, sL_law_105, sL_law_106, sL_law_107, sL_law_109, sL_law_110, sL_law_111, sL_law_112, sL_law_115, sL_law_117, sL_law_119, sL_law_121, sL_law_124, sL_law_126, hlt, yx, yy, n6, true_and, and_true, true_or, or_true, eq_self, ↓reduceIte, if_true, if_false, nI_add, nI_mul, inB_nI, nI_clamp, Nat.add_zero, eqI, ltI, leI, m6_ne, ne_m6, Nat.reduceEqDiff, reduceCtorEq, Nat.reduceLT, Nat.reduceLeDiff, Nat.reduceAdd, Nat.reduceMul, Nat.zero_add, Nat.mul_zero, nar_0, nar_1, nar_b, bI_t, bI_f, bI_0, bI_1, Bool.true_eq_false, Bool.false_eq_true, Bool.and_self, Bool.and_false, Bool.false_and, Bool.true_and, Bool.and_true, and_self]
        simp (disch := omega) only [sL_law_127, sL_law_128, sL_law_131, sL_law_133, sL_law_135, sL_law_138, er, eqI, n2, not_false_eq_true, true_and]
      · have n6 : 6 ≤ t := by omega
        have l14 := lwN_lt x (n := 14) (by decide)
        refine ⟨lwN x 14, l14, fun q => by omega, fun Q => ?_⟩
        rw [sL_law_88]
        simp (disch := omega) only [sL_law_90, sL_law_92, sL_law_95, sL_law_96, sL_law_97, sL_law_99, sL_law_100, sL_law_103, sL_law_105, sL_law_106, sL_law_107, sL_law_109, sL_law_110, sL_law_111, sL_law_112, sL_law_115, sL_law_117, sL_law_119, sL_law_121, sL_law_124, sL_law_126, sL_law_131, sL_law_133, sL_law_135, sL_law_138, hlt, yx, yy, n6, y_low, true_and, and_true, true_or, or_true, eq_self, ↓reduceIte, if_true, if_false, nI_add, nI_mul, inB_nI, nI_clamp, Nat.add_zero, eqI, ltI, leI, m6_ne, ne_m6, Nat.reduceEqDiff, reduceCtorEq, Nat.reduceLT, Nat.reduceLeDiff, Nat.reduceAdd, Nat.reduceMul, Nat.zero_add, Nat.mul_zero, nar_0, nar_1, nar_b, bI_t, bI_f, bI_0, bI_1, Bool.true_eq_false, Bool.false_eq_true, Bool.and_self, Bool.and_false, Bool.false_and, Bool.true_and, Bool.and_true, and_self]
    -- the fixer
    obtain ⟨i, hi, y4⟩ : ∃ i, (1 ≤ nF → i < nF) ∧ ∀ Q, Runs ML_law 140 [.ref 0, .ref 1, .ref 853, .ref 854, .ref 855, .ref 856, .ref 857, .ref 858, .ref 859, .ref 860, .int (nI t), .int x, .int y, .int (nI ki), v14, v15, v16, v17, v18, v19, v20] [] D M z Q = Runs ML_law 162 [.ref 0, .ref 1, .ref 853, .ref 854, .ref 855, .ref 856, .ref 857, .ref 858, .ref 859, .ref 860, .int (nI t), .int x, .int y, .int (nI ki), .int (nI i), v15, v16, v17, v18, v19, v20] [] D M z Q := by
      by_cases c : nF = 0
      · refine ⟨0, fun q => by omega, fun Q => ?_⟩
        simp (disch := omega) only [sL_law_140, sL_law_141, sL_law_142, sL_law_143, sL_law_146, sL_law_147, sL_law_150, sL_law_152, sL_law_153, sL_law_154, sL_law_155, sL_law_156, sL_law_157, sL_law_160, hD, q2, g2, c, true_and, and_true, true_or, or_true, eq_self, ↓reduceIte, if_true, if_false, nI_add, nI_mul, inB_nI, nI_clamp, Nat.add_zero, eqI, ltI, leI, m6_ne, ne_m6, Nat.reduceEqDiff, reduceCtorEq, Nat.reduceLT, Nat.reduceLeDiff, Nat.reduceAdd, Nat.reduceMul, Nat.zero_add, Nat.mul_zero, nar_0, nar_1, nar_b, bI_t, bI_f, bI_0, bI_1, Bool.true_eq_false, Bool.false_eq_true, Bool.and_self, Bool.and_false, Bool.false_and, Bool.true_and, Bool.and_true, and_self]
      · have ll := lwN_lt (x >>> (nI 4 &&& 31)) (n := nF) (by omega)
        refine ⟨lwN (x >>> (nI 4 &&& 31)) nF, fun _ => ll, fun Q => ?_⟩
        simp (disch := omega) only [sL_law_140, sL_law_141, sL_law_142, sL_law_143, sL_law_146, sL_law_147, sL_law_150, sL_law_152, sL_law_153, sL_law_154, sL_law_155, sL_law_156, sL_law_157, sL_law_160, hD, q2, g2, c, y_low, true_and, and_true, true_or, or_true, eq_self, ↓reduceIte, if_true, if_false, nI_add, nI_mul, inB_nI, nI_clamp, Nat.add_zero, eqI, ltI, leI, m6_ne, ne_m6, Nat.reduceEqDiff, reduceCtorEq, Nat.reduceLT, Nat.reduceLeDiff, Nat.reduceAdd, Nat.reduceMul, Nat.zero_add, Nat.mul_zero, nar_0, nar_1, nar_b, bI_t, bI_f, bI_0, bI_1, Bool.true_eq_false, Bool.false_eq_true, Bool.and_self, Bool.and_false, Bool.false_and, Bool.true_and, Bool.and_true, and_self]
    have hF : 1 ≤ nF ∨ (ki = 0 ∧ nF = 0) := by
      by_cases c : t = 0
      · exact Or.inr ⟨hk0 c, h0 c⟩
      · exact Or.inl (h1 (by omega))
    have S' : ST D (lM M 853 f) f nF nT L ch A := by
      rw [show lM M 853 f = M from hLB]
      exact S
    obtain ⟨D1, M1, f1, nF1, nT1, L1, ch1, w15, w16, w17, w18, w19, w20, ⟨S1, hF1⟩, y5⟩ := l_act (z := z) (tu := nI t) (x := x) (y := y) S' hz hk hF hi v15 v16 v17 v18 v19 v20
    rw [show lM M 853 f = M from hLB] at y5
    obtain ⟨D2, M2, S2, y6⟩ := l_look (z := z) (x := x) (y := y) S1 hz hN (t := t) (by omega) (v13 := .int (nI ki)) (v14 := .int (nI i)) (v15 := w15) (v16 := w16) (v17 := w17) (v18 := w18) (v19 := w19) (v20 := w20)
    obtain ⟨D3, M3, y7⟩ := ih (t + 1) D2 M2 f1 nF1 nT1 L1 ch1 (.int x) (.int y) (.int (nI ki)) (.int (nI i)) w15 w16 w17 w18 w19 w20 (by omega) S2 (fun q => by omega) (fun _ => hF1)
    exact ⟨D3, M3, fun Q => by rw [y3, y4, y5, y6, y7]⟩
end LLP
