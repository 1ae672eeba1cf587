/-! the law's calls -/
def SCR (D : vDD) (m : vMM) (L : Nat) (xs : Nat → Int32) : Prop := (D 0).1 = 20 ∧ (D 0).2.1 = L ∧ m 0 = xs
theorem SCR.eq {D D1 : vDD} {m m1 : vMM} {L : Nat} {xs : Nat → Int32} {z : vZZ} (h : SCR D m L xs) (e : EQs z D m D1 m1) (hz : 867 ≤ z.1) : SCR D1 m1 L xs :=
  ⟨(e.1 0 (by omega)).1.trans h.1, (e.1 0 (by omega)).2.trans h.2.1, e.2.trans h.2.2⟩
theorem Cpl.k6 {D : vDD} {m : vMM} (C : Cpl D m) : (D 1).1 = 6 := by
  obtain ⟨H, f, nF, nT, r, L, h, s, b0, b1, ch, C, -⟩ := C
  exact C.1.1.1.1
theorem Cpl.k7 {D : vDD} {m : vMM} (C : Cpl D m) : (D 853).1 = 7 := by
  obtain ⟨H, f, nF, nT, r, L, h, s, b0, b1, ch, C, -⟩ := C
  exact C.1.2.2.2.2.1.1.1
section LAW
variable {D : vDD} {m : vMM} {z : vZZ} {L i : Nat} {xs : Nat → Int32}
theorem w_set (hL : L ≤ 2048) (hj : i + 4 ≤ L) (hz : 867 ≤ z.1) (hS : SCR D m L xs) (C : Cpl D m) : ∃ D2 N2, Cpl D2 N2 ∧ SCR D2 N2 L xs ∧ ∀ Q, Runs ML_law 152 [.ref 0, .ref 1, .ref 853, .int (nI i)] [] D m z Q = Runs ML_law 806 [.ref 0, .ref 1, .ref 853, .int (nI i)] [] D2 N2 z Q := by
  obtain ⟨v, D1, N1, D2, N2, e6, e7, C2⟩ := p_set (z := z) C (xs (i + 1)) (xs (i + 2))
  have q1 := eq_runs e6 hS.1 (by omega)
  have S1 := hS.eq q1 hz
  have q2 := eq_runs e7 S1.1 (by omega)
  have S2 := S1.eq q2 hz
  have k6 := C.k6
  have k7 : (D1 853).1 = 7 := (q1.1 853 (by omega)).1.trans C.k7
  obtain ⟨s1, s2, s3⟩ := hS
  obtain ⟨t1, t2, t3⟩ := id S1
  refine ⟨D2, N2, C2, S2, fun Q => ?_⟩
  simp (disch := omega) only [sL_law_152, sL_law_153, sL_law_154, sL_law_155, sL_law_156, sL_law_157, sL_law_158, sL_law_159, sL_law_160, sL_law_161, sL_law_162, sL_law_163, sL_law_166, sL_law_167, sL_law_168, sL_law_169, sL_law_170, sL_law_171, sL_law_172, sL_law_173, sL_law_174, sL_law_175, sL_law_176, sL_law_177, sL_law_180, sL_law_183, sL_law_184, true_and, and_true, true_or, or_true, eq_self, ↓reduceIte, if_true, if_false, nI_add, nI_mul, inB_nI, nI_clamp, Nat.add_zero, eqI, ltI, leI, m6_ne, ne_m6, Nat.reduceEqDiff, reduceCtorEq, Nat.reduceLT, Nat.reduceLeDiff, Nat.reduceAdd, Nat.reduceMul, Nat.zero_add, Nat.mul_zero, nar_0, nar_1, nar_b, bI_t, bI_f, bI_0, bI_1, Bool.true_eq_false, Bool.false_eq_true, Bool.and_self, Bool.and_false, Bool.false_and, Bool.true_and, Bool.and_true, and_self, s1, s2, s3, t1, t2, t3, k6, k7, e6, e7, or_true]
theorem w_come (hL : L ≤ 2048) (hj : i + 4 ≤ L) (hz : 867 ≤ z.1) (hS : SCR D m L xs) (C : Cpl D m) : ∃ D2 N2, Cpl D2 N2 ∧ SCR D2 N2 L xs ∧ ∀ Q, Runs ML_law 185 [.ref 0, .ref 1, .ref 853, .int (nI i)] [] D m z Q = Runs ML_law 806 [.ref 0, .ref 1, .ref 853, .int (nI i)] [] D2 N2 z Q := by
  obtain ⟨v, D1, N1, D2, N2, e6, e7, C2⟩ := p_come (z := z) C (xs (i + 1)) (xs (i + 2))
  have q1 := eq_runs e6 hS.1 (by omega)
  have S1 := hS.eq q1 hz
  have q2 := eq_runs e7 S1.1 (by omega)
  have S2 := S1.eq q2 hz
  have k6 := C.k6
  have k7 : (D1 853).1 = 7 := (q1.1 853 (by omega)).1.trans C.k7
  obtain ⟨s1, s2, s3⟩ := hS
  obtain ⟨t1, t2, t3⟩ := id S1
  refine ⟨D2, N2, C2, S2, fun Q => ?_⟩
  simp (disch := omega) only [sL_law_185, sL_law_186, sL_law_187, sL_law_188, sL_law_189, sL_law_190, sL_law_191, sL_law_192, sL_law_193, sL_law_194, sL_law_195, sL_law_196, sL_law_199, sL_law_200, sL_law_201, sL_law_202, sL_law_203, sL_law_204, sL_law_205, sL_law_206, sL_law_207, sL_law_208, sL_law_209, sL_law_210, sL_law_213, sL_law_216, sL_law_217, true_and, and_true, true_or, or_true, eq_self, ↓reduceIte, if_true, if_false, nI_add, nI_mul, inB_nI, nI_clamp, Nat.add_zero, eqI, ltI, leI, m6_ne, ne_m6, Nat.reduceEqDiff, reduceCtorEq, Nat.reduceLT, Nat.reduceLeDiff, Nat.reduceAdd, Nat.reduceMul, Nat.zero_add, Nat.mul_zero, nar_0, nar_1, nar_b, bI_t, bI_f, bI_0, bI_1, Bool.true_eq_false, Bool.false_eq_true, Bool.and_self, Bool.and_false, Bool.false_and, Bool.true_and, Bool.and_true, and_self, s1, s2, s3, t1, t2, t3, k6, k7, e6, e7, or_true]
theorem w_away0 (hL : L ≤ 2048) (hj : i + 4 ≤ L) (hz : 867 ≤ z.1) (hS : SCR D m L xs) (C : Cpl D m) (h0 : xs (i + 2) = nI 0) : ∃ D2 N2, Cpl D2 N2 ∧ SCR D2 N2 L xs ∧ ∀ Q, Runs ML_law 218 [.ref 0, .ref 1, .ref 853, .int (nI i)] [] D m z Q = Runs ML_law 806 [.ref 0, .ref 1, .ref 853, .int (nI i)] [] D2 N2 z Q := by
  obtain ⟨v, D1, N1, D2, N2, e6, e7, C2⟩ := p_away (z := z) C (xs (i + 1)) false
  have q1 := eq_runs e6 hS.1 (by omega)
  have S1 := hS.eq q1 hz
  have q2 := eq_runs e7 S1.1 (by omega)
  have S2 := S1.eq q2 hz
  have k6 := C.k6
  have k7 : (D1 853).1 = 7 := (q1.1 853 (by omega)).1.trans C.k7
  obtain ⟨s1, s2, s3⟩ := hS
  obtain ⟨t1, t2, t3⟩ := id S1
  simp only [bI_f] at e6 e7
  refine ⟨D2, N2, C2, S2, fun Q => ?_⟩
  simp (disch := omega) only [sL_law_218, sL_law_219, sL_law_220, sL_law_221, sL_law_222, sL_law_223, sL_law_224, sL_law_225, sL_law_226, sL_law_227, sL_law_228, sL_law_229, sL_law_232, sL_law_233, sL_law_236, sL_law_237, sL_law_240, sL_law_241, sL_law_242, sL_law_243, sL_law_244, sL_law_245, sL_law_246, sL_law_247, sL_law_248, sL_law_249, sL_law_250, sL_law_251, sL_law_254, sL_law_255, sL_law_258, sL_law_259, sL_law_262, sL_law_265, sL_law_266, true_and, and_true, true_or, or_true, eq_self, ↓reduceIte, if_true, if_false, nI_add, nI_mul, inB_nI, nI_clamp, Nat.add_zero, eqI, ltI, leI, m6_ne, ne_m6, Nat.reduceEqDiff, reduceCtorEq, Nat.reduceLT, Nat.reduceLeDiff, Nat.reduceAdd, Nat.reduceMul, Nat.zero_add, Nat.mul_zero, nar_0, nar_1, nar_b, bI_t, bI_f, bI_0, bI_1, Bool.true_eq_false, Bool.false_eq_true, Bool.and_self, Bool.and_false, Bool.false_and, Bool.true_and, Bool.and_true, and_self, s1, s2, s3, t1, t2, t3, k6, k7, e6, e7, or_true, h0]
theorem w_away1 (hL : L ≤ 2048) (hj : i + 4 ≤ L) (hz : 867 ≤ z.1) (hS : SCR D m L xs) (C : Cpl D m) (h0 : ¬ xs (i + 2) = nI 0) : ∃ D2 N2, Cpl D2 N2 ∧ SCR D2 N2 L xs ∧ ∀ Q, Runs ML_law 218 [.ref 0, .ref 1, .ref 853, .int (nI i)] [] D m z Q = Runs ML_law 806 [.ref 0, .ref 1, .ref 853, .int (nI i)] [] D2 N2 z Q := by
  obtain ⟨v, D1, N1, D2, N2, e6, e7, C2⟩ := p_away (z := z) C (xs (i + 1)) true
  have q1 := eq_runs e6 hS.1 (by omega)
  have S1 := hS.eq q1 hz
  have q2 := eq_runs e7 S1.1 (by omega)
  have S2 := S1.eq q2 hz
  have k6 := C.k6
  have k7 : (D1 853).1 = 7 := (q1.1 853 (by omega)).1.trans C.k7
  obtain ⟨s1, s2, s3⟩ := hS
  obtain ⟨t1, t2, t3⟩ := id S1
  simp only [bI_t] at e6 e7
  refine ⟨D2, N2, C2, S2, fun Q => ?_⟩
  simp (disch := omega) only [sL_law_218, sL_law_219, sL_law_220, sL_law_221, sL_law_222, sL_law_223, sL_law_224, sL_law_225, sL_law_226, sL_law_227, sL_law_228, sL_law_229, sL_law_232, sL_law_233, sL_law_236, sL_law_237, sL_law_240, sL_law_241, sL_law_242, sL_law_243, sL_law_244, sL_law_245, sL_law_246, sL_law_247, sL_law_248, sL_law_249, sL_law_250, sL_law_251, sL_law_254, sL_law_255, sL_law_258, sL_law_259, sL_law_262, sL_law_265, sL_law_266, true_and, and_true, true_or, or_true, eq_self, ↓reduceIte, if_true, if_false, nI_add, nI_mul, inB_nI, nI_clamp, Nat.add_zero, eqI, ltI, leI, m6_ne, ne_m6, Nat.reduceEqDiff, reduceCtorEq, Nat.reduceLT, Nat.reduceLeDiff, Nat.reduceAdd, Nat.reduceMul, Nat.zero_add, Nat.mul_zero, nar_0, nar_1, nar_b, bI_t, bI_f, bI_0, bI_1, Bool.true_eq_false, Bool.false_eq_true, Bool.and_self, Bool.and_false, Bool.false_and, Bool.true_and, Bool.and_true, and_self, s1, s2, s3, t1, t2, t3, k6, k7, e6, e7, or_true, h0]
theorem w_bring (hL : L ≤ 2048) (hj : i + 4 ≤ L) (hz : 867 ≤ z.1) (hS : SCR D m L xs) (C : Cpl D m) : ∃ D2 N2, Cpl D2 N2 ∧ SCR D2 N2 L xs ∧ ∀ Q, Runs ML_law 267 [.ref 0, .ref 1, .ref 853, .int (nI i)] [] D m z Q = Runs ML_law 806 [.ref 0, .ref 1, .ref 853, .int (nI i)] [] D2 N2 z Q := by
  obtain ⟨v, D1, N1, D2, N2, e6, e7, C2⟩ := p_bring (z := z) C
  have q1 := eq_runs e6 hS.1 (by omega)
  have S1 := hS.eq q1 hz
  have q2 := eq_runs e7 S1.1 (by omega)
  have S2 := S1.eq q2 hz
  have k6 := C.k6
  have k7 : (D1 853).1 = 7 := (q1.1 853 (by omega)).1.trans C.k7
  obtain ⟨s1, s2, s3⟩ := hS
  obtain ⟨t1, t2, t3⟩ := id S1
  refine ⟨D2, N2, C2, S2, fun Q => ?_⟩
  simp (disch := omega) only [sL_law_267, sL_law_268, sL_law_271, sL_law_272, sL_law_275, sL_law_278, sL_law_279, true_and, and_true, true_or, or_true, eq_self, ↓reduceIte, if_true, if_false, nI_add, nI_mul, inB_nI, nI_clamp, Nat.add_zero, eqI, ltI, leI, m6_ne, ne_m6, Nat.reduceEqDiff, reduceCtorEq, Nat.reduceLT, Nat.reduceLeDiff, Nat.reduceAdd, Nat.reduceMul, Nat.zero_add, Nat.mul_zero, nar_0, nar_1, nar_b, bI_t, bI_f, bI_0, bI_1, Bool.true_eq_false, Bool.false_eq_true, Bool.and_self, Bool.and_false, Bool.false_and, Bool.true_and, Bool.and_true, and_self, s1, s2, s3, t1, t2, t3, k6, k7, e6, e7, or_true]
theorem w_stock (hL : L ≤ 2048) (hj : i + 4 ≤ L) (hz : 867 ≤ z.1) (hS : SCR D m L xs) (C : Cpl D m) : ∃ D2 N2, Cpl D2 N2 ∧ SCR D2 N2 L xs ∧ ∀ Q, Runs ML_law 280 [.ref 0, .ref 1, .ref 853, .int (nI i)] [] D m z Q = Runs ML_law 806 [.ref 0, .ref 1, .ref 853, .int (nI i)] [] D2 N2 z Q := by
  obtain ⟨v, D1, N1, D2, N2, e6, e7, C2⟩ := p_stock (z := z) C (xs (i + 1)) (xs (i + 2))
  have q1 := eq_runs e6 hS.1 (by omega)
  have S1 := hS.eq q1 hz
  have q2 := eq_runs e7 S1.1 (by omega)
  have S2 := S1.eq q2 hz
  have k6 := C.k6
  have k7 : (D1 853).1 = 7 := (q1.1 853 (by omega)).1.trans C.k7
  obtain ⟨s1, s2, s3⟩ := hS
  obtain ⟨t1, t2, t3⟩ := id S1
  refine ⟨D2, N2, C2, S2, fun Q => ?_⟩
  simp (disch := omega) only [sL_law_280, sL_law_281, sL_law_282, sL_law_283, sL_law_284, sL_law_285, sL_law_286, sL_law_287, sL_law_288, sL_law_289, sL_law_290, sL_law_291, sL_law_294, sL_law_295, sL_law_296, sL_law_297, sL_law_298, sL_law_299, sL_law_300, sL_law_301, sL_law_302, sL_law_303, sL_law_304, sL_law_305, sL_law_308, sL_law_311, sL_law_312, true_and, and_true, true_or, or_true, eq_self, ↓reduceIte, if_true, if_false, nI_add, nI_mul, inB_nI, nI_clamp, Nat.add_zero, eqI, ltI, leI, m6_ne, ne_m6, Nat.reduceEqDiff, reduceCtorEq, Nat.reduceLT, Nat.reduceLeDiff, Nat.reduceAdd, Nat.reduceMul, Nat.zero_add, Nat.mul_zero, nar_0, nar_1, nar_b, bI_t, bI_f, bI_0, bI_1, Bool.true_eq_false, Bool.false_eq_true, Bool.and_self, Bool.and_false, Bool.false_and, Bool.true_and, Bool.and_true, and_self, s1, s2, s3, t1, t2, t3, k6, k7, e6, e7, or_true]
theorem w_again (hL : L ≤ 2048) (hj : i + 4 ≤ L) (hz : 867 ≤ z.1) (hS : SCR D m L xs) (C : Cpl D m) : ∃ D2 N2, Cpl D2 N2 ∧ SCR D2 N2 L xs ∧ ∀ Q, Runs ML_law 313 [.ref 0, .ref 1, .ref 853, .int (nI i)] [] D m z Q = Runs ML_law 806 [.ref 0, .ref 1, .ref 853, .int (nI i)] [] D2 N2 z Q := by
  obtain ⟨v, D1, N1, D2, N2, e6, e7, C2⟩ := p_again (z := z) C (xs (i + 1))
  have q1 := eq_runs e6 hS.1 (by omega)
  have S1 := hS.eq q1 hz
  have q2 := eq_runs e7 S1.1 (by omega)
  have S2 := S1.eq q2 hz
  have k6 := C.k6
  have k7 : (D1 853).1 = 7 := (q1.1 853 (by omega)).1.trans C.k7
  obtain ⟨s1, s2, s3⟩ := hS
  obtain ⟨t1, t2, t3⟩ := id S1
  refine ⟨D2, N2, C2, S2, fun Q => ?_⟩
  simp (disch := omega) only [sL_law_313, sL_law_314, sL_law_315, sL_law_316, sL_law_317, sL_law_318, sL_law_319, sL_law_322, sL_law_323, sL_law_324, sL_law_325, sL_law_326, sL_law_327, sL_law_328, sL_law_331, sL_law_334, sL_law_335, true_and, and_true, true_or, or_true, eq_self, ↓reduceIte, if_true, if_false, nI_add, nI_mul, inB_nI, nI_clamp, Nat.add_zero, eqI, ltI, leI, m6_ne, ne_m6, Nat.reduceEqDiff, reduceCtorEq, Nat.reduceLT, Nat.reduceLeDiff, Nat.reduceAdd, Nat.reduceMul, Nat.zero_add, Nat.mul_zero, nar_0, nar_1, nar_b, bI_t, bI_f, bI_0, bI_1, Bool.true_eq_false, Bool.false_eq_true, Bool.and_self, Bool.and_false, Bool.false_and, Bool.true_and, Bool.and_true, and_self, s1, s2, s3, t1, t2, t3, k6, k7, e6, e7, or_true]
theorem w_pass (hL : L ≤ 2048) (hj : i + 4 ≤ L) (hz : 867 ≤ z.1) (hS : SCR D m L xs) (C : Cpl D m) : ∃ D2 N2, Cpl D2 N2 ∧ SCR D2 N2 L xs ∧ ∀ Q, Runs ML_law 336 [.ref 0, .ref 1, .ref 853, .int (nI i)] [] D m z Q = Runs ML_law 806 [.ref 0, .ref 1, .ref 853, .int (nI i)] [] D2 N2 z Q := by
  obtain ⟨v, D1, N1, D2, N2, e6, e7, C2⟩ := p_pass (z := z) C (xs (i + 1))
  have q1 := eq_runs e6 hS.1 (by omega)
  have S1 := hS.eq q1 hz
  have q2 := eq_runs e7 S1.1 (by omega)
  have S2 := S1.eq q2 hz
  have k6 := C.k6
  have k7 : (D1 853).1 = 7 := (q1.1 853 (by omega)).1.trans C.k7
  obtain ⟨s1, s2, s3⟩ := hS
  obtain ⟨t1, t2, t3⟩ := id S1
  refine ⟨D2, N2, C2, S2, fun Q => ?_⟩
  simp (disch := omega) only [sL_law_336, sL_law_337, sL_law_338, sL_law_339, sL_law_340, sL_law_341, sL_law_342, sL_law_345, sL_law_346, sL_law_347, sL_law_348, sL_law_349, sL_law_350, sL_law_351, sL_law_354, sL_law_357, sL_law_358, true_and, and_true, true_or, or_true, eq_self, ↓reduceIte, if_true, if_false, nI_add, nI_mul, inB_nI, nI_clamp, Nat.add_zero, eqI, ltI, leI, m6_ne, ne_m6, Nat.reduceEqDiff, reduceCtorEq, Nat.reduceLT, Nat.reduceLeDiff, Nat.reduceAdd, Nat.reduceMul, Nat.zero_add, Nat.mul_zero, nar_0, nar_1, nar_b, bI_t, bI_f, bI_0, bI_1, Bool.true_eq_false, Bool.false_eq_true, Bool.and_self, Bool.and_false, Bool.false_and, Bool.true_and, Bool.and_true, and_self, s1, s2, s3, t1, t2, t3, k6, k7, e6, e7, or_true]
theorem w_giveOut (hL : L ≤ 2048) (hj : i + 4 ≤ L) (hz : 867 ≤ z.1) (hS : SCR D m L xs) (C : Cpl D m) : ∃ D2 N2, Cpl D2 N2 ∧ SCR D2 N2 L xs ∧ ∀ Q, Runs ML_law 359 [.ref 0, .ref 1, .ref 853, .int (nI i)] [] D m z Q = Runs ML_law 806 [.ref 0, .ref 1, .ref 853, .int (nI i)] [] D2 N2 z Q := by
  obtain ⟨v, D1, N1, D2, N2, e6, e7, C2⟩ := p_giveOut (z := z) C
  have q1 := eq_runs e6 hS.1 (by omega)
  have S1 := hS.eq q1 hz
  have q2 := eq_runs e7 S1.1 (by omega)
  have S2 := S1.eq q2 hz
  have k6 := C.k6
  have k7 : (D1 853).1 = 7 := (q1.1 853 (by omega)).1.trans C.k7
  obtain ⟨s1, s2, s3⟩ := hS
  obtain ⟨t1, t2, t3⟩ := id S1
  refine ⟨D2, N2, C2, S2, fun Q => ?_⟩
  simp (disch := omega) only [sL_law_359, sL_law_360, sL_law_363, sL_law_364, sL_law_367, sL_law_370, sL_law_371, true_and, and_true, true_or, or_true, eq_self, ↓reduceIte, if_true, if_false, nI_add, nI_mul, inB_nI, nI_clamp, Nat.add_zero, eqI, ltI, leI, m6_ne, ne_m6, Nat.reduceEqDiff, reduceCtorEq, Nat.reduceLT, Nat.reduceLeDiff, Nat.reduceAdd, Nat.reduceMul, Nat.zero_add, Nat.mul_zero, nar_0, nar_1, nar_b, bI_t, bI_f, bI_0, bI_1, Bool.true_eq_false, Bool.false_eq_true, Bool.and_self, Bool.and_false, Bool.false_and, Bool.true_and, Bool.and_true, and_self, s1, s2, s3, t1, t2, t3, k6, k7, e6, e7, or_true]
theorem w_clear (hL : L ≤ 2048) (hj : i + 4 ≤ L) (hz : 867 ≤ z.1) (hS : SCR D m L xs) (C : Cpl D m) : ∃ D2 N2, Cpl D2 N2 ∧ SCR D2 N2 L xs ∧ ∀ Q, Runs ML_law 372 [.ref 0, .ref 1, .ref 853, .int (nI i)] [] D m z Q = Runs ML_law 806 [.ref 0, .ref 1, .ref 853, .int (nI i)] [] D2 N2 z Q := by
  obtain ⟨v, D1, N1, D2, N2, e6, e7, C2⟩ := p_clear (z := z) C
  have q1 := eq_runs e6 hS.1 (by omega)
  have S1 := hS.eq q1 hz
  have q2 := eq_runs e7 S1.1 (by omega)
  have S2 := S1.eq q2 hz
  have k6 := C.k6
  have k7 : (D1 853).1 = 7 := (q1.1 853 (by omega)).1.trans C.k7
  obtain ⟨s1, s2, s3⟩ := hS
  obtain ⟨t1, t2, t3⟩ := id S1
  refine ⟨D2, N2, C2, S2, fun Q => ?_⟩
  simp (disch := omega) only [sL_law_372, sL_law_373, sL_law_376, sL_law_377, sL_law_380, sL_law_383, sL_law_384, true_and, and_true, true_or, or_true, eq_self, ↓reduceIte, if_true, if_false, nI_add, nI_mul, inB_nI, nI_clamp, Nat.add_zero, eqI, ltI, leI, m6_ne, ne_m6, Nat.reduceEqDiff, reduceCtorEq, Nat.reduceLT, Nat.reduceLeDiff, Nat.reduceAdd, Nat.reduceMul, Nat.zero_add, Nat.mul_zero, nar_0, nar_1, nar_b, bI_t, bI_f, bI_0, bI_1, Bool.true_eq_false, Bool.false_eq_true, Bool.and_self, Bool.and_false, Bool.false_and, Bool.true_and, Bool.and_true, and_self, s1, s2, s3, t1, t2, t3, k6, k7, e6, e7, or_true]
theorem w_fixer (hL : L ≤ 2048) (hj : i + 4 ≤ L) (hz : 867 ≤ z.1) (hS : SCR D m L xs) (C : Cpl D m) : ∃ D2 N2, Cpl D2 N2 ∧ SCR D2 N2 L xs ∧ ∀ Q, Runs ML_law 385 [.ref 0, .ref 1, .ref 853, .int (nI i)] [] D m z Q = Runs ML_law 806 [.ref 0, .ref 1, .ref 853, .int (nI i)] [] D2 N2 z Q := by
  obtain ⟨v, D1, N1, D2, N2, e6, e7, C2⟩ := p_fixer (z := z) C (xs (i + 1)) (xs (i + 2))
  have q1 := eq_runs e6 hS.1 (by omega)
  have S1 := hS.eq q1 hz
  have q2 := eq_runs e7 S1.1 (by omega)
  have S2 := S1.eq q2 hz
  have k6 := C.k6
  have k7 : (D1 853).1 = 7 := (q1.1 853 (by omega)).1.trans C.k7
  obtain ⟨s1, s2, s3⟩ := hS
  obtain ⟨t1, t2, t3⟩ := id S1
  refine ⟨D2, N2, C2, S2, fun Q => ?_⟩
  simp (disch := omega) only [sL_law_385, sL_law_386, sL_law_387, sL_law_388, sL_law_389, sL_law_390, sL_law_391, sL_law_392, sL_law_393, sL_law_394, sL_law_395, sL_law_396, sL_law_399, sL_law_400, sL_law_401, sL_law_402, sL_law_403, sL_law_404, sL_law_405, sL_law_406, sL_law_407, sL_law_408, sL_law_409, sL_law_410, sL_law_413, sL_law_416, sL_law_417, true_and, and_true, true_or, or_true, eq_self, ↓reduceIte, if_true, if_false, nI_add, nI_mul, inB_nI, nI_clamp, Nat.add_zero, eqI, ltI, leI, m6_ne, ne_m6, Nat.reduceEqDiff, reduceCtorEq, Nat.reduceLT, Nat.reduceLeDiff, Nat.reduceAdd, Nat.reduceMul, Nat.zero_add, Nat.mul_zero, nar_0, nar_1, nar_b, bI_t, bI_f, bI_0, bI_1, Bool.true_eq_false, Bool.false_eq_true, Bool.and_self, Bool.and_false, Bool.false_and, Bool.true_and, Bool.and_true, and_self, s1, s2, s3, t1, t2, t3, k6, k7, e6, e7, or_true]
theorem w_thing (hL : L ≤ 2048) (hj : i + 4 ≤ L) (hz : 867 ≤ z.1) (hS : SCR D m L xs) (C : Cpl D m) : ∃ D2 N2, Cpl D2 N2 ∧ SCR D2 N2 L xs ∧ ∀ Q, Runs ML_law 418 [.ref 0, .ref 1, .ref 853, .int (nI i)] [] D m z Q = Runs ML_law 806 [.ref 0, .ref 1, .ref 853, .int (nI i)] [] D2 N2 z Q := by
  obtain ⟨v, D1, N1, D2, N2, e6, e7, C2⟩ := p_thing (z := z) C (xs (i + 1)) (xs (i + 2))
  have q1 := eq_runs e6 hS.1 (by omega)
  have S1 := hS.eq q1 hz
  have q2 := eq_runs e7 S1.1 (by omega)
  have S2 := S1.eq q2 hz
  have k6 := C.k6
  have k7 : (D1 853).1 = 7 := (q1.1 853 (by omega)).1.trans C.k7
  obtain ⟨s1, s2, s3⟩ := hS
  obtain ⟨t1, t2, t3⟩ := id S1
  refine ⟨D2, N2, C2, S2, fun Q => ?_⟩
  simp (disch := omega) only [sL_law_418, sL_law_419, sL_law_420, sL_law_421, sL_law_422, sL_law_423, sL_law_424, sL_law_425, sL_law_426, sL_law_427, sL_law_428, sL_law_429, sL_law_432, sL_law_433, sL_law_434, sL_law_435, sL_law_436, sL_law_437, sL_law_438, sL_law_439, sL_law_440, sL_law_441, sL_law_442, sL_law_443, sL_law_446, sL_law_449, sL_law_450, true_and, and_true, true_or, or_true, eq_self, ↓reduceIte, if_true, if_false, nI_add, nI_mul, inB_nI, nI_clamp, Nat.add_zero, eqI, ltI, leI, m6_ne, ne_m6, Nat.reduceEqDiff, reduceCtorEq, Nat.reduceLT, Nat.reduceLeDiff, Nat.reduceAdd, Nat.reduceMul, Nat.zero_add, Nat.mul_zero, nar_0, nar_1, nar_b, bI_t, bI_f, bI_0, bI_1, Bool.true_eq_false, Bool.false_eq_true, Bool.and_self, Bool.and_false, Bool.false_and, Bool.true_and, Bool.and_true, and_self, s1, s2, s3, t1, t2, t3, k6, k7, e6, e7, or_true]
theorem w_step (hL : L ≤ 2048) (hj : i + 4 ≤ L) (hz : 867 ≤ z.1) (hS : SCR D m L xs) (C : Cpl D m) : ∃ D2 N2, Cpl D2 N2 ∧ SCR D2 N2 L xs ∧ ∀ Q, Runs ML_law 451 [.ref 0, .ref 1, .ref 853, .int (nI i)] [] D m z Q = Runs ML_law 806 [.ref 0, .ref 1, .ref 853, .int (nI i)] [] D2 N2 z Q := by
  obtain ⟨v, D1, N1, D2, N2, e6, e7, C2⟩ := p_step (z := z) C (xs (i + 1)) (xs (i + 2)) (xs (i + 3))
  have q1 := eq_runs e6 hS.1 (by omega)
  have S1 := hS.eq q1 hz
  have q2 := eq_runs e7 S1.1 (by omega)
  have S2 := S1.eq q2 hz
  have k6 := C.k6
  have k7 : (D1 853).1 = 7 := (q1.1 853 (by omega)).1.trans C.k7
  obtain ⟨s1, s2, s3⟩ := hS
  obtain ⟨t1, t2, t3⟩ := id S1
  refine ⟨D2, N2, C2, S2, fun Q => ?_⟩
  simp (disch := omega) only [sL_law_451, sL_law_452, sL_law_453, sL_law_454, sL_law_455, sL_law_456, sL_law_457, sL_law_458, sL_law_459, sL_law_460, sL_law_461, sL_law_462, sL_law_463, sL_law_464, sL_law_465, sL_law_466, sL_law_467, sL_law_470, sL_law_471, sL_law_472, sL_law_473, sL_law_474, sL_law_475, sL_law_476, sL_law_477, sL_law_478, sL_law_479, sL_law_480, sL_law_481, sL_law_482, sL_law_483, sL_law_484, sL_law_485, sL_law_486, sL_law_489, sL_law_492, sL_law_493, true_and, and_true, true_or, or_true, eq_self, ↓reduceIte, if_true, if_false, nI_add, nI_mul, inB_nI, nI_clamp, Nat.add_zero, eqI, ltI, leI, m6_ne, ne_m6, Nat.reduceEqDiff, reduceCtorEq, Nat.reduceLT, Nat.reduceLeDiff, Nat.reduceAdd, Nat.reduceMul, Nat.zero_add, Nat.mul_zero, nar_0, nar_1, nar_b, bI_t, bI_f, bI_0, bI_1, Bool.true_eq_false, Bool.false_eq_true, Bool.and_self, Bool.and_false, Bool.false_and, Bool.true_and, Bool.and_true, and_self, s1, s2, s3, t1, t2, t3, k6, k7, e6, e7, or_true]
theorem w_count (hL : L ≤ 2048) (hj : i + 4 ≤ L) (hz : 867 ≤ z.1) (hS : SCR D m L xs) (C : Cpl D m) : ∃ D2 N2, Cpl D2 N2 ∧ SCR D2 N2 L xs ∧ ∀ Q, Runs ML_law 494 [.ref 0, .ref 1, .ref 853, .int (nI i)] [] D m z Q = Runs ML_law 806 [.ref 0, .ref 1, .ref 853, .int (nI i)] [] D2 N2 z Q := by
  obtain ⟨v, D1, N1, D2, N2, e6, e7, C2⟩ := p_count (z := z) C (xs (i + 1))
  have q1 := eq_runs e6 hS.1 (by omega)
  have S1 := hS.eq q1 hz
  have q2 := eq_runs e7 S1.1 (by omega)
  have S2 := S1.eq q2 hz
  have k6 := C.k6
  have k7 : (D1 853).1 = 7 := (q1.1 853 (by omega)).1.trans C.k7
  obtain ⟨s1, s2, s3⟩ := hS
  obtain ⟨t1, t2, t3⟩ := id S1
  refine ⟨D2, N2, C2, S2, fun Q => ?_⟩
  simp (disch := omega) only [sL_law_494, sL_law_495, sL_law_496, sL_law_497, sL_law_498, sL_law_499, sL_law_500, sL_law_503, sL_law_504, sL_law_505, sL_law_506, sL_law_507, sL_law_508, sL_law_509, sL_law_512, sL_law_515, sL_law_516, true_and, and_true, true_or, or_true, eq_self, ↓reduceIte, if_true, if_false, nI_add, nI_mul, inB_nI, nI_clamp, Nat.add_zero, eqI, ltI, leI, m6_ne, ne_m6, Nat.reduceEqDiff, reduceCtorEq, Nat.reduceLT, Nat.reduceLeDiff, Nat.reduceAdd, Nat.reduceMul, Nat.zero_add, Nat.mul_zero, nar_0, nar_1, nar_b, bI_t, bI_f, bI_0, bI_1, Bool.true_eq_false, Bool.false_eq_true, Bool.and_self, Bool.and_false, Bool.false_and, Bool.true_and, Bool.and_true, and_self, s1, s2, s3, t1, t2, t3, k6, k7, e6, e7, or_true]
theorem w_plan (hL : L ≤ 2048) (hj : i + 4 ≤ L) (hz : 867 ≤ z.1) (hS : SCR D m L xs) (C : Cpl D m) : ∃ D2 N2, Cpl D2 N2 ∧ SCR D2 N2 L xs ∧ ∀ Q, Runs ML_law 517 [.ref 0, .ref 1, .ref 853, .int (nI i)] [] D m z Q = Runs ML_law 806 [.ref 0, .ref 1, .ref 853, .int (nI i)] [] D2 N2 z Q := by
  obtain ⟨v, D1, N1, D2, N2, e6, e7, C2⟩ := p_plan (z := z) C (xs (i + 1))
  have q1 := eq_runs e6 hS.1 (by omega)
  have S1 := hS.eq q1 hz
  have q2 := eq_runs e7 S1.1 (by omega)
  have S2 := S1.eq q2 hz
  have k6 := C.k6
  have k7 : (D1 853).1 = 7 := (q1.1 853 (by omega)).1.trans C.k7
  obtain ⟨s1, s2, s3⟩ := hS
  obtain ⟨t1, t2, t3⟩ := id S1
  refine ⟨D2, N2, C2, S2, fun Q => ?_⟩
  simp (disch := omega) only [sL_law_517, sL_law_518, sL_law_519, sL_law_520, sL_law_521, sL_law_522, sL_law_523, sL_law_526, sL_law_527, sL_law_528, sL_law_529, sL_law_530, sL_law_531, sL_law_532, sL_law_535, sL_law_538, sL_law_539, true_and, and_true, true_or, or_true, eq_self, ↓reduceIte, if_true, if_false, nI_add, nI_mul, inB_nI, nI_clamp, Nat.add_zero, eqI, ltI, leI, m6_ne, ne_m6, Nat.reduceEqDiff, reduceCtorEq, Nat.reduceLT, Nat.reduceLeDiff, Nat.reduceAdd, Nat.reduceMul, Nat.zero_add, Nat.mul_zero, nar_0, nar_1, nar_b, bI_t, bI_f, bI_0, bI_1, Bool.true_eq_false, Bool.false_eq_true, Bool.and_self, Bool.and_false, Bool.false_and, Bool.true_and, Bool.and_true, and_self, s1, s2, s3, t1, t2, t3, k6, k7, e6, e7, or_true]
theorem w_planned (hL : L ≤ 2048) (hj : i + 4 ≤ L) (hz : 867 ≤ z.1) (hS : SCR D m L xs) (C : Cpl D m) : ∃ D2 N2, Cpl D2 N2 ∧ SCR D2 N2 L xs ∧ ∀ Q, Runs ML_law 540 [.ref 0, .ref 1, .ref 853, .int (nI i)] [] D m z Q = Runs ML_law 806 [.ref 0, .ref 1, .ref 853, .int (nI i)] [] D2 N2 z Q := by
  obtain ⟨v, D1, N1, D2, N2, e6, e7, C2⟩ := p_planned (z := z) C
  have q1 := eq_runs e6 hS.1 (by omega)
  have S1 := hS.eq q1 hz
  have q2 := eq_runs e7 S1.1 (by omega)
  have S2 := S1.eq q2 hz
  have k6 := C.k6
  have k7 : (D1 853).1 = 7 := (q1.1 853 (by omega)).1.trans C.k7
  obtain ⟨s1, s2, s3⟩ := hS
  obtain ⟨t1, t2, t3⟩ := id S1
  refine ⟨D2, N2, C2, S2, fun Q => ?_⟩
  simp (disch := omega) only [sL_law_540, sL_law_541, sL_law_544, sL_law_545, sL_law_548, sL_law_551, sL_law_552, true_and, and_true, true_or, or_true, eq_self, ↓reduceIte, if_true, if_false, nI_add, nI_mul, inB_nI, nI_clamp, Nat.add_zero, eqI, ltI, leI, m6_ne, ne_m6, Nat.reduceEqDiff, reduceCtorEq, Nat.reduceLT, Nat.reduceLeDiff, Nat.reduceAdd, Nat.reduceMul, Nat.zero_add, Nat.mul_zero, nar_0, nar_1, nar_b, bI_t, bI_f, bI_0, bI_1, Bool.true_eq_false, Bool.false_eq_true, Bool.and_self, Bool.and_false, Bool.false_and, Bool.true_and, Bool.and_true, and_self, s1, s2, s3, t1, t2, t3, k6, k7, e6, e7, or_true]
theorem w_ifAway (hL : L ≤ 2048) (hj : i + 4 ≤ L) (hz : 867 ≤ z.1) (hS : SCR D m L xs) (C : Cpl D m) : ∃ D2 N2, Cpl D2 N2 ∧ SCR D2 N2 L xs ∧ ∀ Q, Runs ML_law 553 [.ref 0, .ref 1, .ref 853, .int (nI i)] [] D m z Q = Runs ML_law 806 [.ref 0, .ref 1, .ref 853, .int (nI i)] [] D2 N2 z Q := by
  obtain ⟨v, D1, N1, D2, N2, e6, e7, C2⟩ := p_ifAway (z := z) C (xs (i + 1))
  have q1 := eq_runs e6 hS.1 (by omega)
  have S1 := hS.eq q1 hz
  have q2 := eq_runs e7 S1.1 (by omega)
  have S2 := S1.eq q2 hz
  have k6 := C.k6
  have k7 : (D1 853).1 = 7 := (q1.1 853 (by omega)).1.trans C.k7
  obtain ⟨s1, s2, s3⟩ := hS
  obtain ⟨t1, t2, t3⟩ := id S1
  refine ⟨D2, N2, C2, S2, fun Q => ?_⟩
  simp (disch := omega) only [sL_law_553, sL_law_554, sL_law_555, sL_law_556, sL_law_557, sL_law_558, sL_law_559, sL_law_562, sL_law_563, sL_law_564, sL_law_565, sL_law_566, sL_law_567, sL_law_568, sL_law_571, sL_law_574, sL_law_575, true_and, and_true, true_or, or_true, eq_self, ↓reduceIte, if_true, if_false, nI_add, nI_mul, inB_nI, nI_clamp, Nat.add_zero, eqI, ltI, leI, m6_ne, ne_m6, Nat.reduceEqDiff, reduceCtorEq, Nat.reduceLT, Nat.reduceLeDiff, Nat.reduceAdd, Nat.reduceMul, Nat.zero_add, Nat.mul_zero, nar_0, nar_1, nar_b, bI_t, bI_f, bI_0, bI_1, Bool.true_eq_false, Bool.false_eq_true, Bool.and_self, Bool.and_false, Bool.false_and, Bool.true_and, Bool.and_true, and_self, s1, s2, s3, t1, t2, t3, k6, k7, e6, e7, or_true]
theorem w_bestSkill (hL : L ≤ 2048) (hj : i + 4 ≤ L) (hz : 867 ≤ z.1) (hS : SCR D m L xs) (C : Cpl D m) : ∃ D2 N2, Cpl D2 N2 ∧ SCR D2 N2 L xs ∧ ∀ Q, Runs ML_law 576 [.ref 0, .ref 1, .ref 853, .int (nI i)] [] D m z Q = Runs ML_law 806 [.ref 0, .ref 1, .ref 853, .int (nI i)] [] D2 N2 z Q := by
  obtain ⟨v, D1, N1, D2, N2, e6, e7, C2⟩ := p_bestSkill (z := z) C (xs (i + 1))
  have q1 := eq_runs e6 hS.1 (by omega)
  have S1 := hS.eq q1 hz
  have q2 := eq_runs e7 S1.1 (by omega)
  have S2 := S1.eq q2 hz
  have k6 := C.k6
  have k7 : (D1 853).1 = 7 := (q1.1 853 (by omega)).1.trans C.k7
  obtain ⟨s1, s2, s3⟩ := hS
  obtain ⟨t1, t2, t3⟩ := id S1
  refine ⟨D2, N2, C2, S2, fun Q => ?_⟩
  simp (disch := omega) only [sL_law_576, sL_law_577, sL_law_578, sL_law_579, sL_law_580, sL_law_581, sL_law_582, sL_law_585, sL_law_586, sL_law_587, sL_law_588, sL_law_589, sL_law_590, sL_law_591, sL_law_594, sL_law_597, sL_law_598, true_and, and_true, true_or, or_true, eq_self, ↓reduceIte, if_true, if_false, nI_add, nI_mul, inB_nI, nI_clamp, Nat.add_zero, eqI, ltI, leI, m6_ne, ne_m6, Nat.reduceEqDiff, reduceCtorEq, Nat.reduceLT, Nat.reduceLeDiff, Nat.reduceAdd, Nat.reduceMul, Nat.zero_add, Nat.mul_zero, nar_0, nar_1, nar_b, bI_t, bI_f, bI_0, bI_1, Bool.true_eq_false, Bool.false_eq_true, Bool.and_self, Bool.and_false, Bool.false_and, Bool.true_and, Bool.and_true, and_self, s1, s2, s3, t1, t2, t3, k6, k7, e6, e7, or_true]
theorem w_ifPassed (hL : L ≤ 2048) (hj : i + 4 ≤ L) (hz : 867 ≤ z.1) (hS : SCR D m L xs) (C : Cpl D m) : ∃ D2 N2, Cpl D2 N2 ∧ SCR D2 N2 L xs ∧ ∀ Q, Runs ML_law 599 [.ref 0, .ref 1, .ref 853, .int (nI i)] [] D m z Q = Runs ML_law 806 [.ref 0, .ref 1, .ref 853, .int (nI i)] [] D2 N2 z Q := by
  obtain ⟨v, D1, N1, D2, N2, e6, e7, C2⟩ := p_ifPassed (z := z) C (xs (i + 1)) (xs (i + 2))
  have q1 := eq_runs e6 hS.1 (by omega)
  have S1 := hS.eq q1 hz
  have q2 := eq_runs e7 S1.1 (by omega)
  have S2 := S1.eq q2 hz
  have k6 := C.k6
  have k7 : (D1 853).1 = 7 := (q1.1 853 (by omega)).1.trans C.k7
  obtain ⟨s1, s2, s3⟩ := hS
  obtain ⟨t1, t2, t3⟩ := id S1
  refine ⟨D2, N2, C2, S2, fun Q => ?_⟩
  simp (disch := omega) only [sL_law_599, sL_law_600, sL_law_601, sL_law_602, sL_law_603, sL_law_604, sL_law_605, sL_law_606, sL_law_607, sL_law_608, sL_law_609, sL_law_610, sL_law_613, sL_law_614, sL_law_615, sL_law_616, sL_law_617, sL_law_618, sL_law_619, sL_law_620, sL_law_621, sL_law_622, sL_law_623, sL_law_624, sL_law_627, sL_law_630, sL_law_631, true_and, and_true, true_or, or_true, eq_self, ↓reduceIte, if_true, if_false, nI_add, nI_mul, inB_nI, nI_clamp, Nat.add_zero, eqI, ltI, leI, m6_ne, ne_m6, Nat.reduceEqDiff, reduceCtorEq, Nat.reduceLT, Nat.reduceLeDiff, Nat.reduceAdd, Nat.reduceMul, Nat.zero_add, Nat.mul_zero, nar_0, nar_1, nar_b, bI_t, bI_f, bI_0, bI_1, Bool.true_eq_false, Bool.false_eq_true, Bool.and_self, Bool.and_false, Bool.false_and, Bool.true_and, Bool.and_true, and_self, s1, s2, s3, t1, t2, t3, k6, k7, e6, e7, or_true]
theorem w_untilOver (hL : L ≤ 2048) (hj : i + 4 ≤ L) (hz : 867 ≤ z.1) (hS : SCR D m L xs) (C : Cpl D m) : ∃ D2 N2, Cpl D2 N2 ∧ SCR D2 N2 L xs ∧ ∀ Q, Runs ML_law 632 [.ref 0, .ref 1, .ref 853, .int (nI i)] [] D m z Q = Runs ML_law 806 [.ref 0, .ref 1, .ref 853, .int (nI i)] [] D2 N2 z Q := by
  obtain ⟨v, D1, N1, D2, N2, e6, e7, C2⟩ := p_untilOver (z := z) C
  have q1 := eq_runs e6 hS.1 (by omega)
  have S1 := hS.eq q1 hz
  have q2 := eq_runs e7 S1.1 (by omega)
  have S2 := S1.eq q2 hz
  have k6 := C.k6
  have k7 : (D1 853).1 = 7 := (q1.1 853 (by omega)).1.trans C.k7
  obtain ⟨s1, s2, s3⟩ := hS
  obtain ⟨t1, t2, t3⟩ := id S1
  refine ⟨D2, N2, C2, S2, fun Q => ?_⟩
  simp (disch := omega) only [sL_law_632, sL_law_633, sL_law_636, sL_law_637, sL_law_640, sL_law_643, sL_law_644, true_and, and_true, true_or, or_true, eq_self, ↓reduceIte, if_true, if_false, nI_add, nI_mul, inB_nI, nI_clamp, Nat.add_zero, eqI, ltI, leI, m6_ne, ne_m6, Nat.reduceEqDiff, reduceCtorEq, Nat.reduceLT, Nat.reduceLeDiff, Nat.reduceAdd, Nat.reduceMul, Nat.zero_add, Nat.mul_zero, nar_0, nar_1, nar_b, bI_t, bI_f, bI_0, bI_1, Bool.true_eq_false, Bool.false_eq_true, Bool.and_self, Bool.and_false, Bool.false_and, Bool.true_and, Bool.and_true, and_self, s1, s2, s3, t1, t2, t3, k6, k7, e6, e7, or_true]
theorem w_bestPart (hL : L ≤ 2048) (hj : i + 4 ≤ L) (hz : 867 ≤ z.1) (hS : SCR D m L xs) (C : Cpl D m) : ∃ D2 N2, Cpl D2 N2 ∧ SCR D2 N2 L xs ∧ ∀ Q, Runs ML_law 645 [.ref 0, .ref 1, .ref 853, .int (nI i)] [] D m z Q = Runs ML_law 806 [.ref 0, .ref 1, .ref 853, .int (nI i)] [] D2 N2 z Q := by
  obtain ⟨v, D1, N1, D2, N2, e6, e7, C2⟩ := p_bestPart (z := z) C (xs (i + 1))
  have q1 := eq_runs e6 hS.1 (by omega)
  have S1 := hS.eq q1 hz
  have q2 := eq_runs e7 S1.1 (by omega)
  have S2 := S1.eq q2 hz
  have k6 := C.k6
  have k7 : (D1 853).1 = 7 := (q1.1 853 (by omega)).1.trans C.k7
  obtain ⟨s1, s2, s3⟩ := hS
  obtain ⟨t1, t2, t3⟩ := id S1
  refine ⟨D2, N2, C2, S2, fun Q => ?_⟩
  simp (disch := omega) only [sL_law_645, sL_law_646, sL_law_647, sL_law_648, sL_law_649, sL_law_650, sL_law_651, sL_law_654, sL_law_655, sL_law_656, sL_law_657, sL_law_658, sL_law_659, sL_law_660, sL_law_663, sL_law_666, sL_law_667, true_and, and_true, true_or, or_true, eq_self, ↓reduceIte, if_true, if_false, nI_add, nI_mul, inB_nI, nI_clamp, Nat.add_zero, eqI, ltI, leI, m6_ne, ne_m6, Nat.reduceEqDiff, reduceCtorEq, Nat.reduceLT, Nat.reduceLeDiff, Nat.reduceAdd, Nat.reduceMul, Nat.zero_add, Nat.mul_zero, nar_0, nar_1, nar_b, bI_t, bI_f, bI_0, bI_1, Bool.true_eq_false, Bool.false_eq_true, Bool.and_self, Bool.and_false, Bool.false_and, Bool.true_and, Bool.and_true, and_self, s1, s2, s3, t1, t2, t3, k6, k7, e6, e7, or_true]
theorem w_put (hL : L ≤ 2048) (hj : i + 4 ≤ L) (hz : 867 ≤ z.1) (hS : SCR D m L xs) (C : Cpl D m) : ∃ D2 N2, Cpl D2 N2 ∧ SCR D2 N2 L xs ∧ ∀ Q, Runs ML_law 668 [.ref 0, .ref 1, .ref 853, .int (nI i)] [] D m z Q = Runs ML_law 806 [.ref 0, .ref 1, .ref 853, .int (nI i)] [] D2 N2 z Q := by
  obtain ⟨v, D1, N1, D2, N2, e6, e7, C2⟩ := p_put (z := z) C ((xs (i + 1)).toInt64 <<< ((nI 32).toInt64 &&& 63) ||| (xs (i + 2)).toInt64 &&& 4294967295)
  have q1 := eq_runs e6 hS.1 (by omega)
  have S1 := hS.eq q1 hz
  have q2 := eq_runs e7 S1.1 (by omega)
  have S2 := S1.eq q2 hz
  have k6 := C.k6
  have k7 : (D1 853).1 = 7 := (q1.1 853 (by omega)).1.trans C.k7
  obtain ⟨s1, s2, s3⟩ := hS
  obtain ⟨t1, t2, t3⟩ := id S1
  refine ⟨D2, N2, C2, S2, fun Q => ?_⟩
  simp (disch := omega) only [sL_law_668, sL_law_669, sL_law_670, sL_law_671, sL_law_672, sL_law_673, sL_law_674, sL_law_675, sL_law_677, sL_law_678, sL_law_679, sL_law_680, sL_law_681, sL_law_682, sL_law_683, sL_law_684, sL_law_687, sL_law_688, sL_law_689, sL_law_692, sL_law_693, sL_law_694, sL_law_695, sL_law_696, sL_law_697, sL_law_698, sL_law_699, sL_law_701, sL_law_702, sL_law_703, sL_law_704, sL_law_705, sL_law_706, sL_law_707, sL_law_708, sL_law_711, sL_law_712, sL_law_713, sL_law_716, sL_law_719, sL_law_720, true_and, and_true, true_or, or_true, eq_self, ↓reduceIte, if_true, if_false, nI_add, nI_mul, inB_nI, nI_clamp, Nat.add_zero, eqI, ltI, leI, m6_ne, ne_m6, Nat.reduceEqDiff, reduceCtorEq, Nat.reduceLT, Nat.reduceLeDiff, Nat.reduceAdd, Nat.reduceMul, Nat.zero_add, Nat.mul_zero, nar_0, nar_1, nar_b, bI_t, bI_f, bI_0, bI_1, Bool.true_eq_false, Bool.false_eq_true, Bool.and_self, Bool.and_false, Bool.false_and, Bool.true_and, Bool.and_true, and_self, s1, s2, s3, t1, t2, t3, k6, k7, e6, e7, or_true]
theorem w_wipe (hL : L ≤ 2048) (hj : i + 4 ≤ L) (hz : 867 ≤ z.1) (hS : SCR D m L xs) (C : Cpl D m) : ∃ D2 N2, Cpl D2 N2 ∧ SCR D2 N2 L xs ∧ ∀ Q, Runs ML_law 721 [.ref 0, .ref 1, .ref 853, .int (nI i)] [] D m z Q = Runs ML_law 806 [.ref 0, .ref 1, .ref 853, .int (nI i)] [] D2 N2 z Q := by
  obtain ⟨v, D1, N1, D2, N2, e6, e7, C2⟩ := p_wipe (z := z) C
  have q1 := eq_runs e6 hS.1 (by omega)
  have S1 := hS.eq q1 hz
  have q2 := eq_runs e7 S1.1 (by omega)
  have S2 := S1.eq q2 hz
  have k6 := C.k6
  have k7 : (D1 853).1 = 7 := (q1.1 853 (by omega)).1.trans C.k7
  obtain ⟨s1, s2, s3⟩ := hS
  obtain ⟨t1, t2, t3⟩ := id S1
  refine ⟨D2, N2, C2, S2, fun Q => ?_⟩
  simp (disch := omega) only [sL_law_721, sL_law_722, sL_law_725, sL_law_726, sL_law_729, sL_law_732, sL_law_733, true_and, and_true, true_or, or_true, eq_self, ↓reduceIte, if_true, if_false, nI_add, nI_mul, inB_nI, nI_clamp, Nat.add_zero, eqI, ltI, leI, m6_ne, ne_m6, Nat.reduceEqDiff, reduceCtorEq, Nat.reduceLT, Nat.reduceLeDiff, Nat.reduceAdd, Nat.reduceMul, Nat.zero_add, Nat.mul_zero, nar_0, nar_1, nar_b, bI_t, bI_f, bI_0, bI_1, Bool.true_eq_false, Bool.false_eq_true, Bool.and_self, Bool.and_false, Bool.false_and, Bool.true_and, Bool.and_true, and_self, s1, s2, s3, t1, t2, t3, k6, k7, e6, e7, or_true]
theorem w_fault (hL : L ≤ 2048) (hj : i + 4 ≤ L) (hz : 867 ≤ z.1) (hS : SCR D m L xs) (C : Cpl D m) : ∃ D2 N2, Cpl D2 N2 ∧ SCR D2 N2 L xs ∧ ∀ Q, Runs ML_law 734 [.ref 0, .ref 1, .ref 853, .int (nI i)] [] D m z Q = Runs ML_law 806 [.ref 0, .ref 1, .ref 853, .int (nI i)] [] D2 N2 z Q := by
  obtain ⟨v, D1, N1, D2, N2, e6, e7, C2⟩ := p_fault (z := z) C
  have q1 := eq_runs e6 hS.1 (by omega)
  have S1 := hS.eq q1 hz
  have q2 := eq_runs e7 S1.1 (by omega)
  have S2 := S1.eq q2 hz
  have k6 := C.k6
  have k7 : (D1 853).1 = 7 := (q1.1 853 (by omega)).1.trans C.k7
  obtain ⟨s1, s2, s3⟩ := hS
  obtain ⟨t1, t2, t3⟩ := id S1
  refine ⟨D2, N2, C2, S2, fun Q => ?_⟩
  simp (disch := omega) only [sL_law_734, sL_law_735, sL_law_738, sL_law_739, sL_law_742, sL_law_745, sL_law_746, true_and, and_true, true_or, or_true, eq_self, ↓reduceIte, if_true, if_false, nI_add, nI_mul, inB_nI, nI_clamp, Nat.add_zero, eqI, ltI, leI, m6_ne, ne_m6, Nat.reduceEqDiff, reduceCtorEq, Nat.reduceLT, Nat.reduceLeDiff, Nat.reduceAdd, Nat.reduceMul, Nat.zero_add, Nat.mul_zero, nar_0, nar_1, nar_b, bI_t, bI_f, bI_0, bI_1, Bool.true_eq_false, Bool.false_eq_true, Bool.and_self, Bool.and_false, Bool.false_and, Bool.true_and, Bool.and_true, and_self, s1, s2, s3, t1, t2, t3, k6, k7, e6, e7, or_true]
theorem w_undo (hL : L ≤ 2048) (hj : i + 4 ≤ L) (hz : 867 ≤ z.1) (hS : SCR D m L xs) (C : Cpl D m) : ∃ D2 N2, Cpl D2 N2 ∧ SCR D2 N2 L xs ∧ ∀ Q, Runs ML_law 747 [.ref 0, .ref 1, .ref 853, .int (nI i)] [] D m z Q = Runs ML_law 806 [.ref 0, .ref 1, .ref 853, .int (nI i)] [] D2 N2 z Q := by
  obtain ⟨v, D1, N1, D2, N2, e6, e7, C2⟩ := p_undo (z := z) C
  have q1 := eq_runs e6 hS.1 (by omega)
  have S1 := hS.eq q1 hz
  have q2 := eq_runs e7 S1.1 (by omega)
  have S2 := S1.eq q2 hz
  have k6 := C.k6
  have k7 : (D1 853).1 = 7 := (q1.1 853 (by omega)).1.trans C.k7
  obtain ⟨s1, s2, s3⟩ := hS
  obtain ⟨t1, t2, t3⟩ := id S1
  refine ⟨D2, N2, C2, S2, fun Q => ?_⟩
  simp (disch := omega) only [sL_law_747, sL_law_748, sL_law_751, sL_law_752, sL_law_755, sL_law_758, sL_law_759, true_and, and_true, true_or, or_true, eq_self, ↓reduceIte, if_true, if_false, nI_add, nI_mul, inB_nI, nI_clamp, Nat.add_zero, eqI, ltI, leI, m6_ne, ne_m6, Nat.reduceEqDiff, reduceCtorEq, Nat.reduceLT, Nat.reduceLeDiff, Nat.reduceAdd, Nat.reduceMul, Nat.zero_add, Nat.mul_zero, nar_0, nar_1, nar_b, bI_t, bI_f, bI_0, bI_1, Bool.true_eq_false, Bool.false_eq_true, Bool.and_self, Bool.and_false, Bool.false_and, Bool.true_and, Bool.and_true, and_self, s1, s2, s3, t1, t2, t3, k6, k7, e6, e7, or_true]
theorem w_save (hL : L ≤ 2048) (hj : i + 4 ≤ L) (hz : 867 ≤ z.1) (hS : SCR D m L xs) (C : Cpl D m) : ∃ D2 N2, Cpl D2 N2 ∧ SCR D2 N2 L xs ∧ ∀ Q, Runs ML_law 760 [.ref 0, .ref 1, .ref 853, .int (nI i)] [] D m z Q = Runs ML_law 806 [.ref 0, .ref 1, .ref 853, .int (nI i)] [] D2 N2 z Q := by
  obtain ⟨v, D1, N1, D2, N2, e6, e7, C2⟩ := p_save (z := z) C (xs (i + 1))
  have q1 := eq_runs e6 hS.1 (by omega)
  have S1 := hS.eq q1 hz
  have q2 := eq_runs e7 S1.1 (by omega)
  have S2 := S1.eq q2 hz
  have k6 := C.k6
  have k7 : (D1 853).1 = 7 := (q1.1 853 (by omega)).1.trans C.k7
  obtain ⟨s1, s2, s3⟩ := hS
  obtain ⟨t1, t2, t3⟩ := id S1
  refine ⟨D2, N2, C2, S2, fun Q => ?_⟩
  simp (disch := omega) only [sL_law_760, sL_law_761, sL_law_762, sL_law_763, sL_law_764, sL_law_765, sL_law_766, sL_law_769, sL_law_770, sL_law_771, sL_law_772, sL_law_773, sL_law_774, sL_law_775, sL_law_778, sL_law_781, sL_law_782, true_and, and_true, true_or, or_true, eq_self, ↓reduceIte, if_true, if_false, nI_add, nI_mul, inB_nI, nI_clamp, Nat.add_zero, eqI, ltI, leI, m6_ne, ne_m6, Nat.reduceEqDiff, reduceCtorEq, Nat.reduceLT, Nat.reduceLeDiff, Nat.reduceAdd, Nat.reduceMul, Nat.zero_add, Nat.mul_zero, nar_0, nar_1, nar_b, bI_t, bI_f, bI_0, bI_1, Bool.true_eq_false, Bool.false_eq_true, Bool.and_self, Bool.and_false, Bool.false_and, Bool.true_and, Bool.and_true, and_self, s1, s2, s3, t1, t2, t3, k6, k7, e6, e7, or_true]
theorem w_restore (hL : L ≤ 2048) (hj : i + 4 ≤ L) (hz : 867 ≤ z.1) (hS : SCR D m L xs) (C : Cpl D m) : ∃ D2 N2, Cpl D2 N2 ∧ SCR D2 N2 L xs ∧ ∀ Q, Runs ML_law 783 [.ref 0, .ref 1, .ref 853, .int (nI i)] [] D m z Q = Runs ML_law 806 [.ref 0, .ref 1, .ref 853, .int (nI i)] [] D2 N2 z Q := by
  obtain ⟨v, D1, N1, D2, N2, e6, e7, C2⟩ := p_restore (z := z) C (xs (i + 1))
  have q1 := eq_runs e6 hS.1 (by omega)
  have S1 := hS.eq q1 hz
  have q2 := eq_runs e7 S1.1 (by omega)
  have S2 := S1.eq q2 hz
  have k6 := C.k6
  have k7 : (D1 853).1 = 7 := (q1.1 853 (by omega)).1.trans C.k7
  obtain ⟨s1, s2, s3⟩ := hS
  obtain ⟨t1, t2, t3⟩ := id S1
  refine ⟨D2, N2, C2, S2, fun Q => ?_⟩
  simp (disch := omega) only [sL_law_783, sL_law_784, sL_law_785, sL_law_786, sL_law_787, sL_law_788, sL_law_789, sL_law_792, sL_law_793, sL_law_794, sL_law_795, sL_law_796, sL_law_797, sL_law_798, sL_law_801, sL_law_804, sL_law_805, true_and, and_true, true_or, or_true, eq_self, ↓reduceIte, if_true, if_false, nI_add, nI_mul, inB_nI, nI_clamp, Nat.add_zero, eqI, ltI, leI, m6_ne, ne_m6, Nat.reduceEqDiff, reduceCtorEq, Nat.reduceLT, Nat.reduceLeDiff, Nat.reduceAdd, Nat.reduceMul, Nat.zero_add, Nat.mul_zero, nar_0, nar_1, nar_b, bI_t, bI_f, bI_0, bI_1, Bool.true_eq_false, Bool.false_eq_true, Bool.and_self, Bool.and_false, Bool.false_and, Bool.true_and, Bool.and_true, and_self, s1, s2, s3, t1, t2, t3, k6, k7, e6, e7, or_true]
end LAW
