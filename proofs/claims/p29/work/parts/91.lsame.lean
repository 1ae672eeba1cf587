/-! the law's look at all that can be seen -/
theorem n2 : ¬ (2 : Nat) = 0 := by decide
theorem n02 : ¬ (0 : Nat) = 2 := by decide
section SAM
variable {D : vDD} {M : vMM} {f : Nat → Int32} {z : vZZ} {Q : Value → vDD → vMM → vZZ → Prop} {nF nT L i t k : Nat} {ch : Nat → Nat}
theorem LB.rq {a : Nat} (h : LB M a f) (hk : k < 10) : M a k = gG f k := by rw [← show lM M a f = M from h]; exact l_q hk
theorem LB.rF {a : Nat} (h : LB M a f) (hi : i < 5) (hk : k < 6) : M (a + 1) (6 * i + k) = gF f i k := by rw [← show lM M a f = M from h]; exact l_f hi hk
theorem LB.rF0 {a : Nat} (h : LB M a f) (hi : i < 5) : M (a + 1) (6 * i) = gF f i 0 := h.rF (k := 0) hi (by decide)
theorem LB.rT {a : Nat} (h : LB M a f) (ht : t < 7) (hk : k < 6) : M (a + 2) (9 * t + k) = gT f t k := by rw [← show lM M a f = M from h]; exact l_t ht hk
theorem LB.rT0 {a : Nat} (h : LB M a f) (ht : t < 7) : M (a + 2) (9 * t) = gT f t 0 := h.rT (k := 0) ht (by decide)
/-- the law's state: the class's morning and its own say the same f -/
def LWS (D : vDD) (M : vMM) (f : Nat → Int32) (nF nT L : Nat) (ch : Nat → Nat) : Prop := CK D M f nF nT L ch ∧ LB M 853 f ∧ Pk M 855 f nT ∧ IsL D 853 ∧ nF ≤ 5 ∧ nT ≤ 7
theorem l_Sa1 (hS : LWS D M f nF nT L ch) (hi : i < nF) {v4 v7 v8 v9 v10 : Value} {N : Nat} (hN : N = 6) : ∀ d k, k + d = N → Runs ML_same 17 [.ref 1, .ref 853, .ref 854, .ref 855, v4, .int (nI i), .int (nI k), v7, v8, v9, v10] [] D M z Q = Runs ML_same 53 [.ref 1, .ref 853, .ref 854, .ref 855, v4, .int (nI i), .int (nI N), v7, v8, v9, v10] [] D M z Q := by
  obtain ⟨C, hL, hP, hD, h5, h7⟩ := hS
  have k6 := C.k6
  simp only [IsL, Nat.reduceAdd] at hD
  intro d
  induction d with
  | zero =>
    intro k hk
    obtain rfl : k = N := by omega
    have hge : 6 ≤ k := by omega
    rw [sL_same_17]
    simp (disch := omega) only [sL_same_19, sL_same_21, sL_same_24, sL_same_25, sL_same_27, sL_same_29, sL_same_32, sL_same_33, sL_same_35, sL_same_37, sL_same_38, sL_same_40, sL_same_41, sL_same_42, sL_same_45, sL_same_46, sL_same_47, sL_same_50, true_and, and_true, true_or, or_true, eq_self, ↓reduceIte, if_true, if_false, nI_add, nI_mul, inB_nI, nI_clamp, Nat.add_zero, eqI, ltI, leI, m6_ne, ne_m6, Nat.reduceEqDiff, reduceCtorEq, Nat.reduceLT, Nat.reduceLeDiff, Nat.reduceAdd, Nat.reduceMul, Nat.zero_add, Nat.mul_zero, nar_0, nar_1, nar_b, bI_t, bI_f, bI_0, bI_1, Bool.true_eq_false, Bool.false_eq_true, Bool.and_self, Bool.and_false, Bool.false_and, Bool.true_and, Bool.and_true, and_self, hge]
  | succ d ih =>
    intro k hk
    have ih := ih (k + 1) (by omega)
    have hlt : ¬ 6 ≤ k := by omega
    have of := fun Q => o_fixer (z := z) (Q := Q) C hi (k := k) (by omega)
    have rf : M 854 (6 * i + k) = gF f i k := hL.rF (by omega) (by omega)
    rw [sL_same_17]
    simp (disch := omega) only [sL_same_19, sL_same_21, sL_same_24, sL_same_25, sL_same_27, sL_same_29, sL_same_32, sL_same_33, sL_same_35, sL_same_37, sL_same_38, sL_same_40, sL_same_41, sL_same_42, sL_same_45, sL_same_46, sL_same_47, sL_same_50, hD, k6, true_and, and_true, true_or, or_true, eq_self, ↓reduceIte, if_true, if_false, nI_add, nI_mul, inB_nI, nI_clamp, Nat.add_zero, eqI, ltI, leI, m6_ne, ne_m6, Nat.reduceEqDiff, reduceCtorEq, Nat.reduceLT, Nat.reduceLeDiff, Nat.reduceAdd, Nat.reduceMul, Nat.zero_add, Nat.mul_zero, nar_0, nar_1, nar_b, bI_t, bI_f, bI_0, bI_1, Bool.true_eq_false, Bool.false_eq_true, Bool.and_self, Bool.and_false, Bool.false_and, Bool.true_and, Bool.and_true, and_self, hlt, of, rf, ih]
theorem l_Sa2 (hS : LWS D M f nF nT L ch) {v7 v8 v9 v10 : Value} : ∀ d i (v6 : Value), i + d = nF → ∃ w6, ∀ Q, Runs ML_same 6 [.ref 1, .ref 853, .ref 854, .ref 855, .int (nI (cntFr f i)), .int (nI i), v6, v7, v8, v9, v10] [] D M z Q = Runs ML_same 94 [.ref 1, .ref 853, .ref 854, .ref 855, .int (nI (cntFr f nF)), .int (nI nF), w6, v7, v8, v9, v10] [] D M z Q := by
  have hS0 := hS
  obtain ⟨C, hL, hP, hD, h5, h7⟩ := hS
  have hW := C.wf
  have g2 := hW.1.1
  have q2 : M 853 2 = gG f 2 := hL.rq (by decide)
  simp only [IsL, Nat.reduceAdd] at hD
  intro d
  induction d with
  | zero =>
    intro i v6 hi
    obtain rfl : i = nF := by omega
    refine ⟨v6, fun Q => ?_⟩
    rw [sL_same_6]
    simp (disch := omega) only [sL_same_8, sL_same_9, sL_same_10, sL_same_11, hD, true_and, and_true, true_or, or_true, eq_self, ↓reduceIte, if_true, if_false, nI_add, nI_mul, inB_nI, nI_clamp, Nat.add_zero, eqI, ltI, leI, m6_ne, ne_m6, Nat.reduceEqDiff, reduceCtorEq, Nat.reduceLT, Nat.reduceLeDiff, Nat.reduceAdd, Nat.reduceMul, Nat.zero_add, Nat.mul_zero, nar_0, nar_1, nar_b, bI_t, bI_f, bI_0, bI_1, Bool.true_eq_false, Bool.false_eq_true, Bool.and_self, Bool.and_false, Bool.false_and, Bool.true_and, Bool.and_true, and_self, q2, g2, Nat.le_refl]
  | succ d ih =>
    intro i v6 hi
    have hlt : ¬ nF ≤ i := by omega
    have l1 := fun Q v4 => l_Sa1 (z := z) (Q := Q) hS0 (i := i) (by omega) (v4 := v4) (v7 := v7) (v8 := v8) (v9 := v9) (v10 := v10) (N := 6) rfl 6 0 (by decide)
    have r2 : M 854 (6 * i + 2) = gF f i 2 := hL.rF (by omega) (by decide)
    have r3 : M 854 (6 * i + 3) = gF f i 3 := hL.rF (by omega) (by decide)
    obtain ⟨w6, y⟩ := ih (i + 1) (.int (nI 6)) (by omega)
    obtain ⟨x3, x2⟩ := hW.2.2.2.1 i (by omega)
    refine ⟨w6, fun Q => ?_⟩
    simp only [cntFr] at y
    rw [sL_same_6]
    by_cases hf : freeF f i = true
    · rw [if_pos hf] at y
      unfold freeF at hf
      simp only [Bool.and_eq_true, beq_iff_eq] at hf
      rw [hf.1] at r2
      rw [hf.2] at r3
      simp (disch := omega) only [sL_same_8, sL_same_9, sL_same_10, sL_same_11, sL_same_14, sL_same_15, hD, true_and, and_true, true_or, or_true, eq_self, ↓reduceIte, if_true, if_false, nI_add, nI_mul, inB_nI, nI_clamp, Nat.add_zero, eqI, ltI, leI, m6_ne, ne_m6, Nat.reduceEqDiff, reduceCtorEq, Nat.reduceLT, Nat.reduceLeDiff, Nat.reduceAdd, Nat.reduceMul, Nat.zero_add, Nat.mul_zero, nar_0, nar_1, nar_b, bI_t, bI_f, bI_0, bI_1, Bool.true_eq_false, Bool.false_eq_true, Bool.and_self, Bool.and_false, Bool.false_and, Bool.true_and, Bool.and_true, and_self, q2, g2, hlt, l1, sL_same_53, sL_same_55, sL_same_56, sL_same_58, sL_same_60, sL_same_61, sL_same_62, sL_same_63, sL_same_64, sL_same_65, sL_same_68, sL_same_69, sL_same_71, sL_same_73, sL_same_74, sL_same_75, sL_same_76, sL_same_77, sL_same_80, sL_same_81, sL_same_84, sL_same_85, sL_same_86, sL_same_88, sL_same_91, r2, r3, m6_nge, y]
    · rw [if_neg hf, show cntFr f i + 0 = cntFr f i from rfl] at y
      unfold freeF at hf
      simp only [Bool.and_eq_true, beq_iff_eq] at hf
      rcases x2 with x2 | x2
      · rw [x2] at r2
        simp (disch := omega) only [sL_same_8, sL_same_9, sL_same_10, sL_same_11, sL_same_14, sL_same_15, hD, true_and, and_true, true_or, or_true, eq_self, ↓reduceIte, if_true, if_false, nI_add, nI_mul, inB_nI, nI_clamp, Nat.add_zero, eqI, ltI, leI, m6_ne, ne_m6, Nat.reduceEqDiff, reduceCtorEq, Nat.reduceLT, Nat.reduceLeDiff, Nat.reduceAdd, Nat.reduceMul, Nat.zero_add, Nat.mul_zero, nar_0, nar_1, nar_b, bI_t, bI_f, bI_0, bI_1, Bool.true_eq_false, Bool.false_eq_true, Bool.and_self, Bool.and_false, Bool.false_and, Bool.true_and, Bool.and_true, and_self, q2, g2, hlt, l1, sL_same_53, sL_same_55, sL_same_56, sL_same_58, sL_same_60, sL_same_61, sL_same_62, sL_same_63, sL_same_64, sL_same_65, sL_same_68, sL_same_69, sL_same_71, sL_same_73, sL_same_74, sL_same_75, sL_same_76, sL_same_77, sL_same_80, sL_same_81, sL_same_84, sL_same_85, sL_same_86, sL_same_88, sL_same_91, r2, Nat.zero_ne_one, y]
      · rcases x3 with x3 | ⟨u, hu, x3, -⟩
        · exact absurd ⟨x2, x3⟩ hf
        · rw [x2] at r2
          rw [x3] at r3
          simp (disch := omega) only [sL_same_8, sL_same_9, sL_same_10, sL_same_11, sL_same_14, sL_same_15, hD, true_and, and_true, true_or, or_true, eq_self, ↓reduceIte, if_true, if_false, nI_add, nI_mul, inB_nI, nI_clamp, Nat.add_zero, eqI, ltI, leI, m6_ne, ne_m6, Nat.reduceEqDiff, reduceCtorEq, Nat.reduceLT, Nat.reduceLeDiff, Nat.reduceAdd, Nat.reduceMul, Nat.zero_add, Nat.mul_zero, nar_0, nar_1, nar_b, bI_t, bI_f, bI_0, bI_1, Bool.true_eq_false, Bool.false_eq_true, Bool.and_self, Bool.and_false, Bool.false_and, Bool.true_and, Bool.and_true, and_self, q2, g2, hlt, l1, sL_same_53, sL_same_55, sL_same_56, sL_same_58, sL_same_60, sL_same_61, sL_same_62, sL_same_63, sL_same_64, sL_same_65, sL_same_68, sL_same_69, sL_same_71, sL_same_73, sL_same_74, sL_same_75, sL_same_76, sL_same_77, sL_same_80, sL_same_81, sL_same_84, sL_same_85, sL_same_86, sL_same_88, sL_same_91, r2, r3, Nat.zero_le, y]
theorem l_Sa3 (hS : LWS D M f nF nT L ch) (ht : t < nT) {v4 v10 : Value} : ∀ d i, i + d = nF → Runs ML_same 122 [.ref 1, .ref 853, .ref 854, .ref 855, v4, .int (nI t), .int (nI (9 * t)), .int (doerF f (nI t) i), .int (skF f t i), .int (nI i), v10] [] D M z Q = Runs ML_same 200 [.ref 1, .ref 853, .ref 854, .ref 855, v4, .int (nI t), .int (nI (9 * t)), .int (doerF f (nI t) nF), .int (skF f t nF), .int (nI nF), v10] [] D M z Q := by
  obtain ⟨C, hL, hP, hD, h5, h7⟩ := hS
  have hW := C.wf
  have g2 := hW.1.1
  have q2 : M 853 2 = gG f 2 := hL.rq (by decide)
  have ys := fun Q => y_skill (D := D) (m := M) (z := z) (Q := Q) (a := 853) hD hW h7 hP ht
  rw [show lM M 853 f = M from hL] at ys
  have r0 : M 855 (9 * t) = gT f t 0 := hL.rT0 (by omega)
  simp only [IsL, Nat.reduceAdd] at hD ys
  intro d
  induction d with
  | zero =>
    intro i hi
    obtain rfl : i = nF := by omega
    rw [sL_same_122]
    simp (disch := omega) only [sL_same_124, sL_same_125, sL_same_126, sL_same_127, hD, true_and, and_true, true_or, or_true, eq_self, ↓reduceIte, if_true, if_false, nI_add, nI_mul, inB_nI, nI_clamp, Nat.add_zero, eqI, ltI, leI, m6_ne, ne_m6, Nat.reduceEqDiff, reduceCtorEq, Nat.reduceLT, Nat.reduceLeDiff, Nat.reduceAdd, Nat.reduceMul, Nat.zero_add, Nat.mul_zero, nar_0, nar_1, nar_b, bI_t, bI_f, bI_0, bI_1, Bool.true_eq_false, Bool.false_eq_true, Bool.and_self, Bool.and_false, Bool.false_and, Bool.true_and, Bool.and_true, and_self, q2, g2, Nat.le_refl]
  | succ d ih =>
    intro i hi
    have hlt : ¬ nF ≤ i := by omega
    have ih := ih (i + 1) (by omega)
    have rf0 : M 854 (6 * i) = gF f i 0 := hL.rF0 (by omega)
    have rf3 : M 854 (6 * i + 3) = gF f i 3 := hL.rF (by omega) (by decide)
    simp only [doerF, skF] at ih
    have hh : hasF f i (nsF f t 0) = true ↔ (gF f i 0 >>> (nsF f t 0 &&& 31)) &&& nI 1 = nI 1 := by unfold hasF; rw [beq_iff_eq]
    rw [sL_same_122]
    by_cases hd : gF f i 3 = nI t <;> by_cases h2 : gT f t 0 = nI 2
    · rw [if_pos hd, if_pos h2] at ih
      simp (disch := omega) only [sL_same_124, sL_same_125, sL_same_126, sL_same_127, sL_same_130, sL_same_131, sL_same_133, sL_same_135, sL_same_136, sL_same_137, sL_same_138, sL_same_139, sL_same_141, sL_same_144, sL_same_146, sL_same_149, sL_same_151, sL_same_153, sL_same_155, sL_same_156, sL_same_158, sL_same_159, sL_same_160, sL_same_163, sL_same_164, sL_same_166, sL_same_168, sL_same_169, sL_same_170, sL_same_172, sL_same_173, sL_same_176, sL_same_177, sL_same_178, sL_same_179, sL_same_180, sL_same_183, sL_same_184, sL_same_186, sL_same_187, sL_same_190, sL_same_191, sL_same_192, sL_same_194, sL_same_197, hD, true_and, and_true, true_or, or_true, eq_self, ↓reduceIte, if_true, if_false, nI_add, nI_mul, inB_nI, nI_clamp, Nat.add_zero, eqI, ltI, leI, m6_ne, ne_m6, Nat.reduceEqDiff, reduceCtorEq, Nat.reduceLT, Nat.reduceLeDiff, Nat.reduceAdd, Nat.reduceMul, Nat.zero_add, Nat.mul_zero, nar_0, nar_1, nar_b, bI_t, bI_f, bI_0, bI_1, Bool.true_eq_false, Bool.false_eq_true, Bool.and_self, Bool.and_false, Bool.false_and, Bool.true_and, Bool.and_true, and_self, q2, g2, hlt, rf3, hd, r0, h2, ih]
    · rw [if_pos hd, if_neg h2] at ih
      by_cases hs : (gF f i 0 >>> (nsF f t 0 &&& 31)) &&& nI 1 = nI 1
      · rw [if_pos (hh.mpr hs)] at ih
        simp (disch := omega) only [sL_same_124, sL_same_125, sL_same_126, sL_same_127, sL_same_130, sL_same_131, sL_same_133, sL_same_135, sL_same_136, sL_same_137, sL_same_138, sL_same_139, sL_same_141, sL_same_144, sL_same_146, sL_same_149, sL_same_151, sL_same_153, sL_same_155, sL_same_156, sL_same_158, sL_same_159, sL_same_160, sL_same_163, sL_same_164, sL_same_166, sL_same_168, sL_same_169, sL_same_170, sL_same_172, sL_same_173, sL_same_176, sL_same_177, sL_same_178, sL_same_179, sL_same_180, sL_same_183, sL_same_184, sL_same_186, sL_same_187, sL_same_190, sL_same_191, sL_same_192, sL_same_194, sL_same_197, hD, true_and, and_true, true_or, or_true, eq_self, ↓reduceIte, if_true, if_false, nI_add, nI_mul, inB_nI, nI_clamp, Nat.add_zero, eqI, ltI, leI, m6_ne, ne_m6, Nat.reduceEqDiff, reduceCtorEq, Nat.reduceLT, Nat.reduceLeDiff, Nat.reduceAdd, Nat.reduceMul, Nat.zero_add, Nat.mul_zero, nar_0, nar_1, nar_b, bI_t, bI_f, bI_0, bI_1, Bool.true_eq_false, Bool.false_eq_true, Bool.and_self, Bool.and_false, Bool.false_and, Bool.true_and, Bool.and_true, and_self, q2, g2, hlt, rf3, hd, r0, h2, rf0, ys, hs, ih]
      · rw [if_neg (fun q => hs (hh.mp q))] at ih
        simp (disch := omega) only [sL_same_124, sL_same_125, sL_same_126, sL_same_127, sL_same_130, sL_same_131, sL_same_133, sL_same_135, sL_same_136, sL_same_137, sL_same_138, sL_same_139, sL_same_141, sL_same_144, sL_same_146, sL_same_149, sL_same_151, sL_same_153, sL_same_155, sL_same_156, sL_same_158, sL_same_159, sL_same_160, sL_same_163, sL_same_164, sL_same_166, sL_same_168, sL_same_169, sL_same_170, sL_same_172, sL_same_173, sL_same_176, sL_same_177, sL_same_178, sL_same_179, sL_same_180, sL_same_183, sL_same_184, sL_same_186, sL_same_187, sL_same_190, sL_same_191, sL_same_192, sL_same_194, sL_same_197, hD, true_and, and_true, true_or, or_true, eq_self, ↓reduceIte, if_true, if_false, nI_add, nI_mul, inB_nI, nI_clamp, Nat.add_zero, eqI, ltI, leI, m6_ne, ne_m6, Nat.reduceEqDiff, reduceCtorEq, Nat.reduceLT, Nat.reduceLeDiff, Nat.reduceAdd, Nat.reduceMul, Nat.zero_add, Nat.mul_zero, nar_0, nar_1, nar_b, bI_t, bI_f, bI_0, bI_1, Bool.true_eq_false, Bool.false_eq_true, Bool.and_self, Bool.and_false, Bool.false_and, Bool.true_and, Bool.and_true, and_self, q2, g2, hlt, rf3, hd, r0, h2, rf0, ys, hs, ih]
    · rw [if_neg hd, if_pos h2] at ih
      simp (disch := omega) only [sL_same_124, sL_same_125, sL_same_126, sL_same_127, sL_same_130, sL_same_131, sL_same_133, sL_same_135, sL_same_136, sL_same_137, sL_same_138, sL_same_139, sL_same_141, sL_same_144, sL_same_146, sL_same_149, sL_same_151, sL_same_153, sL_same_155, sL_same_156, sL_same_158, sL_same_159, sL_same_160, sL_same_163, sL_same_164, sL_same_166, sL_same_168, sL_same_169, sL_same_170, sL_same_172, sL_same_173, sL_same_176, sL_same_177, sL_same_178, sL_same_179, sL_same_180, sL_same_183, sL_same_184, sL_same_186, sL_same_187, sL_same_190, sL_same_191, sL_same_192, sL_same_194, sL_same_197, hD, true_and, and_true, true_or, or_true, eq_self, ↓reduceIte, if_true, if_false, nI_add, nI_mul, inB_nI, nI_clamp, Nat.add_zero, eqI, ltI, leI, m6_ne, ne_m6, Nat.reduceEqDiff, reduceCtorEq, Nat.reduceLT, Nat.reduceLeDiff, Nat.reduceAdd, Nat.reduceMul, Nat.zero_add, Nat.mul_zero, nar_0, nar_1, nar_b, bI_t, bI_f, bI_0, bI_1, Bool.true_eq_false, Bool.false_eq_true, Bool.and_self, Bool.and_false, Bool.false_and, Bool.true_and, Bool.and_true, and_self, q2, g2, hlt, rf3, hd, r0, h2, ih]
    · rw [if_neg hd, if_neg h2] at ih
      by_cases hs : (gF f i 0 >>> (nsF f t 0 &&& 31)) &&& nI 1 = nI 1
      · rw [if_pos (hh.mpr hs)] at ih
        simp (disch := omega) only [sL_same_124, sL_same_125, sL_same_126, sL_same_127, sL_same_130, sL_same_131, sL_same_133, sL_same_135, sL_same_136, sL_same_137, sL_same_138, sL_same_139, sL_same_141, sL_same_144, sL_same_146, sL_same_149, sL_same_151, sL_same_153, sL_same_155, sL_same_156, sL_same_158, sL_same_159, sL_same_160, sL_same_163, sL_same_164, sL_same_166, sL_same_168, sL_same_169, sL_same_170, sL_same_172, sL_same_173, sL_same_176, sL_same_177, sL_same_178, sL_same_179, sL_same_180, sL_same_183, sL_same_184, sL_same_186, sL_same_187, sL_same_190, sL_same_191, sL_same_192, sL_same_194, sL_same_197, hD, true_and, and_true, true_or, or_true, eq_self, ↓reduceIte, if_true, if_false, nI_add, nI_mul, inB_nI, nI_clamp, Nat.add_zero, eqI, ltI, leI, m6_ne, ne_m6, Nat.reduceEqDiff, reduceCtorEq, Nat.reduceLT, Nat.reduceLeDiff, Nat.reduceAdd, Nat.reduceMul, Nat.zero_add, Nat.mul_zero, nar_0, nar_1, nar_b, bI_t, bI_f, bI_0, bI_1, Bool.true_eq_false, Bool.false_eq_true, Bool.and_self, Bool.and_false, Bool.false_and, Bool.true_and, Bool.and_true, and_self, q2, g2, hlt, rf3, hd, r0, h2, rf0, ys, hs, ih]
      · rw [if_neg (fun q => hs (hh.mp q))] at ih
        simp (disch := omega) only [sL_same_124, sL_same_125, sL_same_126, sL_same_127, sL_same_130, sL_same_131, sL_same_133, sL_same_135, sL_same_136, sL_same_137, sL_same_138, sL_same_139, sL_same_141, sL_same_144, sL_same_146, sL_same_149, sL_same_151, sL_same_153, sL_same_155, sL_same_156, sL_same_158, sL_same_159, sL_same_160, sL_same_163, sL_same_164, sL_same_166, sL_same_168, sL_same_169, sL_same_170, sL_same_172, sL_same_173, sL_same_176, sL_same_177, sL_same_178, sL_same_179, sL_same_180, sL_same_183, sL_same_184, sL_same_186, sL_same_187, sL_same_190, sL_same_191, sL_same_192, sL_same_194, sL_same_197, hD, true_and, and_true, true_or, or_true, eq_self, ↓reduceIte, if_true, if_false, nI_add, nI_mul, inB_nI, nI_clamp, Nat.add_zero, eqI, ltI, leI, m6_ne, ne_m6, Nat.reduceEqDiff, reduceCtorEq, Nat.reduceLT, Nat.reduceLeDiff, Nat.reduceAdd, Nat.reduceMul, Nat.zero_add, Nat.mul_zero, nar_0, nar_1, nar_b, bI_t, bI_f, bI_0, bI_1, Bool.true_eq_false, Bool.false_eq_true, Bool.and_self, Bool.and_false, Bool.false_and, Bool.true_and, Bool.and_true, and_self, q2, g2, hlt, rf3, hd, r0, h2, rf0, ys, hs, ih]
theorem l_Sa4 (hS : LWS D M f nF nT L ch) (ht : t < nT) {s : Nat} (hs : gT f t 1 = nI s) (h3 : s ≤ 3) {v4 v7 v8 : Value} : ∀ d k (v10 : Value), k + d = s → ∃ w10, ∀ Q, Runs ML_same 366 [.ref 1, .ref 853, .ref 854, .ref 855, v4, .int (nI t), .int (nI (9 * t)), v7, v8, .int (nI k), v10] [] D M z Q = Runs ML_same 466 [.ref 1, .ref 853, .ref 854, .ref 855, v4, .int (nI t), .int (nI (9 * t)), v7, v8, .int (nI s), w10] [] D M z Q := by
  obtain ⟨C, hL, hP, hD, h5, h7⟩ := hS
  have k6 := C.k6
  have r1 : M 855 (9 * t + 1) = gT f t 1 := hL.rT (by omega) (by decide)
  simp only [IsL, Nat.reduceAdd] at hD
  intro d
  induction d with
  | zero =>
    intro k v10 hk
    obtain rfl : k = s := by omega
    refine ⟨v10, fun Q => ?_⟩
    rw [sL_same_366]
    simp (disch := omega) only [sL_same_368, sL_same_369, sL_same_371, sL_same_372, sL_same_373, sL_same_374, hD, true_and, and_true, true_or, or_true, eq_self, ↓reduceIte, if_true, if_false, nI_add, nI_mul, inB_nI, nI_clamp, Nat.add_zero, eqI, ltI, leI, m6_ne, ne_m6, Nat.reduceEqDiff, reduceCtorEq, Nat.reduceLT, Nat.reduceLeDiff, Nat.reduceAdd, Nat.reduceMul, Nat.zero_add, Nat.mul_zero, nar_0, nar_1, nar_b, bI_t, bI_f, bI_0, bI_1, Bool.true_eq_false, Bool.false_eq_true, Bool.and_self, Bool.and_false, Bool.false_and, Bool.true_and, Bool.and_true, and_self, r1, hs, Nat.le_refl]
  | succ d ih =>
    intro k v10 hk
    have hlt : ¬ s ≤ k := by omega
    obtain ⟨s', e1, e9, e3⟩ := hP t ht
    rw [hs] at e1
    obtain rfl : s = s' := nI9 (by omega) (by omega) e1
    obtain ⟨sk, wk, pt, ⟨q1, q2, q3, q4⟩, q5, q6, q7, q8⟩ := e3 k (by omega)
    have s0 := fun Q => o_step (z := z) (Q := Q) C ht hs (by omega) (k := k) (w := 0) (by omega) (by decide)
    have s1 := fun Q => o_step (z := z) (Q := Q) C ht hs (by omega) (k := k) (w := 1) (by omega) (by decide)
    have s2 := fun Q => o_step (z := z) (Q := Q) C ht hs (by omega) (k := k) (w := 2) (by omega) (by decide)
    obtain ⟨w10, y⟩ := ih (k + 1) (.int (nI (100 * sk + 10 * wk + pt))) (by omega)
    have e100 : (100 * sk + 10 * wk + pt) / 100 = sk := by omega
    have ewk : nI ((100 * sk + 10 * wk + pt) / 10) - nI ((100 * sk + 10 * wk + pt) / 10 / 10 * 10) = nI wk := by
      rw [nI_sub _ _ (by omega)]
      congr 1
      omega
    have ept : nI (100 * sk + 10 * wk + pt) - nI ((100 * sk + 10 * wk + pt) / 10 * 10) = nI pt := by
      rw [nI_sub _ _ (by omega)]
      congr 1
      omega
    rw [q6] at s0
    rw [q7] at s1
    rw [q8] at s2
    refine ⟨w10, fun Q => ?_⟩
    rw [sL_same_366]
    by_cases hp : pt = 0
    · rw [if_pos hp] at s2
      have e0 : (nI pt = nI 0) = True := by rw [hp]; exact eq_self _
      simp (disch := omega) only [sL_same_368, sL_same_369, sL_same_371, sL_same_372, sL_same_373, sL_same_374, sL_same_377, sL_same_378, sL_same_380, sL_same_382, sL_same_383, sL_same_385, sL_same_386, sL_same_387, sL_same_389, sL_same_390, sL_same_392, sL_same_394, sL_same_395, sL_same_398, sL_same_400, sL_same_402, sL_same_403, sL_same_406, sL_same_407, sL_same_409, sL_same_411, sL_same_412, sL_same_415, sL_same_417, sL_same_419, sL_same_420, sL_same_422, sL_same_423, sL_same_426, sL_same_427, sL_same_429, sL_same_431, sL_same_432, sL_same_435, sL_same_437, sL_same_439, sL_same_440, sL_same_443, sL_same_445, sL_same_448, sL_same_450, sL_same_452, sL_same_453, sL_same_454, sL_same_455, sL_same_458, sL_same_459, sL_same_460, sL_same_463, hD, k6, true_and, and_true, true_or, or_true, eq_self, ↓reduceIte, if_true, if_false, nI_add, nI_mul, inB_nI, nI_clamp, Nat.add_zero, eqI, ltI, leI, m6_ne, ne_m6, Nat.reduceEqDiff, reduceCtorEq, Nat.reduceLT, Nat.reduceLeDiff, Nat.reduceAdd, Nat.reduceMul, Nat.zero_add, Nat.mul_zero, nar_0, nar_1, nar_b, bI_t, bI_f, bI_0, bI_1, Bool.true_eq_false, Bool.false_eq_true, Bool.and_self, Bool.and_false, Bool.false_and, Bool.true_and, Bool.and_true, and_self, r1, hs, hlt, q5, s0, s1, s2, idivI, e100, ewk, ept, e0, n100, n10, not_false_eq_true, y]
    · rw [if_neg hp] at s2
      simp (disch := omega) only [sL_same_368, sL_same_369, sL_same_371, sL_same_372, sL_same_373, sL_same_374, sL_same_377, sL_same_378, sL_same_380, sL_same_382, sL_same_383, sL_same_385, sL_same_386, sL_same_387, sL_same_389, sL_same_390, sL_same_392, sL_same_394, sL_same_395, sL_same_398, sL_same_400, sL_same_402, sL_same_403, sL_same_406, sL_same_407, sL_same_409, sL_same_411, sL_same_412, sL_same_415, sL_same_417, sL_same_419, sL_same_420, sL_same_422, sL_same_423, sL_same_426, sL_same_427, sL_same_429, sL_same_431, sL_same_432, sL_same_435, sL_same_437, sL_same_439, sL_same_440, sL_same_443, sL_same_445, sL_same_448, sL_same_450, sL_same_452, sL_same_453, sL_same_454, sL_same_455, sL_same_458, sL_same_459, sL_same_460, sL_same_463, hD, k6, true_and, and_true, true_or, or_true, eq_self, ↓reduceIte, if_true, if_false, nI_add, nI_mul, inB_nI, nI_clamp, Nat.add_zero, eqI, ltI, leI, m6_ne, ne_m6, Nat.reduceEqDiff, reduceCtorEq, Nat.reduceLT, Nat.reduceLeDiff, Nat.reduceAdd, Nat.reduceMul, Nat.zero_add, Nat.mul_zero, nar_0, nar_1, nar_b, bI_t, bI_f, bI_0, bI_1, Bool.true_eq_false, Bool.false_eq_true, Bool.and_self, Bool.and_false, Bool.false_and, Bool.true_and, Bool.and_true, and_self, r1, hs, hlt, q5, s0, s1, s2, idivI, e100, ewk, ept, hp, n100, n10, not_false_eq_true, nI_sub, y]
theorem l_Sa5 (hS : LWS D M f nF nT L ch) {v4 : Value} : ∀ d t (v6 v7 v8 v9 v10 : Value), t + d = nT → ∃ w6 w7 w8 w9 w10, ∀ Q, Runs ML_same 97 [.ref 1, .ref 853, .ref 854, .ref 855, v4, .int (nI t), v6, v7, v8, v9, v10] [] D M z Q = Runs ML_same 472 [.ref 1, .ref 853, .ref 854, .ref 855, v4, .int (nI nT), w6, w7, w8, w9, w10] [] D M z Q := by
  have hS0 := hS
  obtain ⟨C, hL, hP, hD, h5, h7⟩ := hS
  have hW := C.wf
  have k6 := C.k6
  have g3 := hW.1.2.2.1
  have q3 : M 853 3 = gG f 3 := hL.rq (by decide)
  simp only [IsL, Nat.reduceAdd] at hD
  intro d
  induction d with
  | zero =>
    intro t v6 v7 v8 v9 v10 ht
    obtain rfl : t = nT := by omega
    refine ⟨v6, v7, v8, v9, v10, fun Q => ?_⟩
    rw [sL_same_97]
    simp (disch := omega) only [sL_same_99, sL_same_100, sL_same_101, sL_same_102, hD, true_and, and_true, true_or, or_true, eq_self, ↓reduceIte, if_true, if_false, nI_add, nI_mul, inB_nI, nI_clamp, Nat.add_zero, eqI, ltI, leI, m6_ne, ne_m6, Nat.reduceEqDiff, reduceCtorEq, Nat.reduceLT, Nat.reduceLeDiff, Nat.reduceAdd, Nat.reduceMul, Nat.zero_add, Nat.mul_zero, nar_0, nar_1, nar_b, bI_t, bI_f, bI_0, bI_1, Bool.true_eq_false, Bool.false_eq_true, Bool.and_self, Bool.and_false, Bool.false_and, Bool.true_and, Bool.and_true, and_self, q3, g3, Nat.le_refl]
  | succ d ih =>
    intro t v6 v7 v8 v9 v10 ht
    have hlt : ¬ nT ≤ t := by omega
    obtain ⟨s, e1, e2, -⟩ := hP t (by omega)
    have l3 := fun Q => l_Sa3 (z := z) (Q := Q) hS0 (t := t) (by omega) (v4 := v4) (v10 := v10) nF 0 (by omega)
    rw [show doerF f (nI t) 0 = m6 from rfl, show skF f t 0 = nI 0 from rfl] at l3
    obtain ⟨u10, l4⟩ := l_Sa4 (z := z) hS0 (t := t) (by omega) e1 e2 (v4 := v4) (v7 := .int (doerF f (nI t) nF)) (v8 := .int (skF f t nF)) s 0 v10 (by omega)
    obtain ⟨w6, w7, w8, w9, w10, y⟩ := ih (t + 1) (.int (nI (9 * t))) (.int (doerF f (nI t) nF)) (.int (skF f t nF)) (.int (nI s)) u10 (by omega)
    have r0 : M 855 (9 * t) = gT f t 0 := hL.rT0 (by omega)
    have r1 : M 855 (9 * t + 1) = gT f t 1 := hL.rT (by omega) (by decide)
    have r2 : M 855 (9 * t + 2) = gT f t 2 := hL.rT (by omega) (by decide)
    have r3 : M 855 (9 * t + 3) = gT f t 3 := hL.rT (by omega) (by decide)
    have r4 : M 855 (9 * t + 4) = gT f t 4 := hL.rT (by omega) (by decide)
    have r5 : M 855 (9 * t + 5) = gT f t 5 := hL.rT (by omega) (by decide)
    have ot := fun (k : Nat) (hk : k < 8) Q => o_thing (z := z) (Q := Q) C (t := t) (by omega) hk
    have o0 := ot 0 (by decide)
    have o1 := ot 1 (by decide)
    have o2 := ot 2 (by decide)
    have o3 := ot 3 (by decide)
    have o4 := ot 4 (by decide)
    have o5 := ot 5 (by decide)
    have o6 := ot 6 (by decide)
    have o7 := ot 7 (by decide)
    have os := fun Q => o_step_no (z := z) (Q := Q) C (t := t) (by omega) e1 (by omega) (w := nI 0)
    rw [show thingF f nF t 0 = gT f t 0 from rfl] at o0
    rw [show thingF f nF t 1 = gT f t 1 from rfl] at o1
    rw [show thingF f nF t 2 = (if gT f t 0 = nI 2 then m6 else gT f t 2) from rfl] at o2
    rw [show thingF f nF t 3 = (if gT f t 0 = nI 0 then gT f t 3 else nI 0) from rfl] at o3
    rw [show thingF f nF t 4 = gT f t 4 from rfl] at o4
    rw [show thingF f nF t 5 = gT f t 5 from rfl] at o5
    rw [show thingF f nF t 6 = doerF f (nI t) nF from rfl] at o6
    rw [show thingF f nF t 7 = skF f t nF from rfl] at o7
    rw [e1] at r1 o1
    refine ⟨w6, w7, w8, w9, w10, fun Q => ?_⟩
    rw [sL_same_97]
    by_cases h2 : gT f t 0 = nI 2
    · have h0 : ¬ gT f t 0 = nI 0 := by rw [h2]; exact nI_ne (by decide) (by decide) (by decide)
      rw [if_pos h2] at o2
      rw [if_neg h0] at o3
      rw [h2] at r0 o0
      simp (disch := omega) only [sL_same_99, sL_same_100, sL_same_101, sL_same_102, sL_same_105, sL_same_107, sL_same_109, sL_same_110, sL_same_112, sL_same_114, sL_same_116, sL_same_117, sL_same_119, sL_same_120, hD, true_and, and_true, true_or, or_true, eq_self, ↓reduceIte, if_true, if_false, nI_add, nI_mul, inB_nI, nI_clamp, Nat.add_zero, eqI, ltI, leI, m6_ne, ne_m6, Nat.reduceEqDiff, reduceCtorEq, Nat.reduceLT, Nat.reduceLeDiff, Nat.reduceAdd, Nat.reduceMul, Nat.zero_add, Nat.mul_zero, nar_0, nar_1, nar_b, bI_t, bI_f, bI_0, bI_1, Bool.true_eq_false, Bool.false_eq_true, Bool.and_self, Bool.and_false, Bool.false_and, Bool.true_and, Bool.and_true, and_self, q3, g3, hlt, l3, sL_same_200, sL_same_201, sL_same_203, sL_same_204, sL_same_207, sL_same_208, sL_same_210, sL_same_211, sL_same_214, sL_same_215, sL_same_217, sL_same_218, sL_same_221, sL_same_222, sL_same_224, sL_same_225, sL_same_226, sL_same_227, sL_same_230, sL_same_231, sL_same_233, sL_same_234, sL_same_237, sL_same_238, sL_same_240, sL_same_241, sL_same_242, sL_same_245, sL_same_247, sL_same_250, sL_same_251, sL_same_253, sL_same_254, sL_same_255, sL_same_256, sL_same_259, sL_same_260, sL_same_262, sL_same_263, sL_same_266, sL_same_267, sL_same_269, sL_same_270, sL_same_273, sL_same_274, sL_same_276, sL_same_277, sL_same_278, sL_same_279, sL_same_282, sL_same_283, sL_same_286, sL_same_287, sL_same_289, sL_same_290, sL_same_293, sL_same_294, sL_same_296, sL_same_297, sL_same_298, sL_same_299, sL_same_302, sL_same_303, sL_same_305, sL_same_306, sL_same_309, sL_same_310, sL_same_312, sL_same_313, sL_same_314, sL_same_315, sL_same_318, sL_same_319, sL_same_321, sL_same_323, sL_same_326, sL_same_328, sL_same_331, sL_same_332, sL_same_334, sL_same_336, sL_same_339, sL_same_341, sL_same_344, sL_same_345, sL_same_347, sL_same_348, sL_same_350, sL_same_351, sL_same_352, sL_same_353, sL_same_354, sL_same_357, sL_same_358, sL_same_361, sL_same_362, sL_same_363, sL_same_364, k6, o0, o1, o2, o3, o4, o5, o6, o7, os, r0, r1, r2, r3, r4, r5, n2, l4, sL_same_466, sL_same_469, y]
    · rw [if_neg h2] at o2
      by_cases h0 : gT f t 0 = nI 0
      · rw [if_pos h0] at o3
        rw [h0] at r0 o0
        simp (disch := omega) only [sL_same_99, sL_same_100, sL_same_101, sL_same_102, sL_same_105, sL_same_107, sL_same_109, sL_same_110, sL_same_112, sL_same_114, sL_same_116, sL_same_117, sL_same_119, sL_same_120, hD, true_and, and_true, true_or, or_true, eq_self, ↓reduceIte, if_true, if_false, nI_add, nI_mul, inB_nI, nI_clamp, Nat.add_zero, eqI, ltI, leI, m6_ne, ne_m6, Nat.reduceEqDiff, reduceCtorEq, Nat.reduceLT, Nat.reduceLeDiff, Nat.reduceAdd, Nat.reduceMul, Nat.zero_add, Nat.mul_zero, nar_0, nar_1, nar_b, bI_t, bI_f, bI_0, bI_1, Bool.true_eq_false, Bool.false_eq_true, Bool.and_self, Bool.and_false, Bool.false_and, Bool.true_and, Bool.and_true, and_self, q3, g3, hlt, l3, sL_same_200, sL_same_201, sL_same_203, sL_same_204, sL_same_207, sL_same_208, sL_same_210, sL_same_211, sL_same_214, sL_same_215, sL_same_217, sL_same_218, sL_same_221, sL_same_222, sL_same_224, sL_same_225, sL_same_226, sL_same_227, sL_same_230, sL_same_231, sL_same_233, sL_same_234, sL_same_237, sL_same_238, sL_same_240, sL_same_241, sL_same_242, sL_same_245, sL_same_247, sL_same_250, sL_same_251, sL_same_253, sL_same_254, sL_same_255, sL_same_256, sL_same_259, sL_same_260, sL_same_262, sL_same_263, sL_same_266, sL_same_267, sL_same_269, sL_same_270, sL_same_273, sL_same_274, sL_same_276, sL_same_277, sL_same_278, sL_same_279, sL_same_282, sL_same_283, sL_same_286, sL_same_287, sL_same_289, sL_same_290, sL_same_293, sL_same_294, sL_same_296, sL_same_297, sL_same_298, sL_same_299, sL_same_302, sL_same_303, sL_same_305, sL_same_306, sL_same_309, sL_same_310, sL_same_312, sL_same_313, sL_same_314, sL_same_315, sL_same_318, sL_same_319, sL_same_321, sL_same_323, sL_same_326, sL_same_328, sL_same_331, sL_same_332, sL_same_334, sL_same_336, sL_same_339, sL_same_341, sL_same_344, sL_same_345, sL_same_347, sL_same_348, sL_same_350, sL_same_351, sL_same_352, sL_same_353, sL_same_354, sL_same_357, sL_same_358, sL_same_361, sL_same_362, sL_same_363, sL_same_364, k6, o0, o1, o2, o3, o4, o5, o6, o7, os, r0, r1, r2, r3, r4, r5, n02, l4, sL_same_466, sL_same_469, y]
      · rw [if_neg h0] at o3
        simp (disch := omega) only [sL_same_99, sL_same_100, sL_same_101, sL_same_102, sL_same_105, sL_same_107, sL_same_109, sL_same_110, sL_same_112, sL_same_114, sL_same_116, sL_same_117, sL_same_119, sL_same_120, hD, true_and, and_true, true_or, or_true, eq_self, ↓reduceIte, if_true, if_false, nI_add, nI_mul, inB_nI, nI_clamp, Nat.add_zero, eqI, ltI, leI, m6_ne, ne_m6, Nat.reduceEqDiff, reduceCtorEq, Nat.reduceLT, Nat.reduceLeDiff, Nat.reduceAdd, Nat.reduceMul, Nat.zero_add, Nat.mul_zero, nar_0, nar_1, nar_b, bI_t, bI_f, bI_0, bI_1, Bool.true_eq_false, Bool.false_eq_true, Bool.and_self, Bool.and_false, Bool.false_and, Bool.true_and, Bool.and_true, and_self, q3, g3, hlt, l3, sL_same_200, sL_same_201, sL_same_203, sL_same_204, sL_same_207, sL_same_208, sL_same_210, sL_same_211, sL_same_214, sL_same_215, sL_same_217, sL_same_218, sL_same_221, sL_same_222, sL_same_224, sL_same_225, sL_same_226, sL_same_227, sL_same_230, sL_same_231, sL_same_233, sL_same_234, sL_same_237, sL_same_238, sL_same_240, sL_same_241, sL_same_242, sL_same_245, sL_same_247, sL_same_250, sL_same_251, sL_same_253, sL_same_254, sL_same_255, sL_same_256, sL_same_259, sL_same_260, sL_same_262, sL_same_263, sL_same_266, sL_same_267, sL_same_269, sL_same_270, sL_same_273, sL_same_274, sL_same_276, sL_same_277, sL_same_278, sL_same_279, sL_same_282, sL_same_283, sL_same_286, sL_same_287, sL_same_289, sL_same_290, sL_same_293, sL_same_294, sL_same_296, sL_same_297, sL_same_298, sL_same_299, sL_same_302, sL_same_303, sL_same_305, sL_same_306, sL_same_309, sL_same_310, sL_same_312, sL_same_313, sL_same_314, sL_same_315, sL_same_318, sL_same_319, sL_same_321, sL_same_323, sL_same_326, sL_same_328, sL_same_331, sL_same_332, sL_same_334, sL_same_336, sL_same_339, sL_same_341, sL_same_344, sL_same_345, sL_same_347, sL_same_348, sL_same_350, sL_same_351, sL_same_352, sL_same_353, sL_same_354, sL_same_357, sL_same_358, sL_same_361, sL_same_362, sL_same_363, sL_same_364, k6, o0, o1, o2, o3, o4, o5, o6, o7, os, r0, r1, r2, r3, r4, r5, h0, h2, l4, sL_same_466, sL_same_469, y]
theorem l_Sa6 (hS : LWS D M f nF nT L ch) {v4 v6 v7 v8 v9 v10 : Value} : ∀ d k, k + d = 4 → Runs ML_same 475 [.ref 1, .ref 853, .ref 854, .ref 855, v4, .int (nI k), v6, v7, v8, v9, v10] [] D M z Q = Runs ML_same 526 [.ref 1, .ref 853, .ref 854, .ref 855, v4, .int (nI 4), v6, v7, v8, v9, v10] [] D M z Q := by
  obtain ⟨C, hL, hP, hD, h5, h7⟩ := hS
  have hW := C.wf
  have k6 := C.k6
  have ys := fun h Q => y_states (D := D) (m := M) (z := z) (Q := Q) (a := 853) hD hW h7 (h := h)
  simp only [show lM M 853 f = M from hL] at ys
  simp only [IsL, Nat.reduceAdd] at hD ys
  intro d
  induction d with
  | zero =>
    intro k hk
    obtain rfl : k = 4 := by omega
    rw [sL_same_475]
    simp (disch := omega) only [sL_same_477, sL_same_478, sL_same_481, sL_same_482, sL_same_483, sL_same_485, sL_same_486, sL_same_489, sL_same_491, sL_same_492, sL_same_493, sL_same_496, sL_same_499, sL_same_500, sL_same_502, sL_same_504, sL_same_505, sL_same_508, sL_same_509, sL_same_511, sL_same_513, sL_same_514, sL_same_515, sL_same_518, sL_same_519, sL_same_520, sL_same_523, true_and, and_true, true_or, or_true, eq_self, ↓reduceIte, if_true, if_false, nI_add, nI_mul, inB_nI, nI_clamp, Nat.add_zero, eqI, ltI, leI, m6_ne, ne_m6, Nat.reduceEqDiff, reduceCtorEq, Nat.reduceLT, Nat.reduceLeDiff, Nat.reduceAdd, Nat.reduceMul, Nat.zero_add, Nat.mul_zero, nar_0, nar_1, nar_b, bI_t, bI_f, bI_0, bI_1, Bool.true_eq_false, Bool.false_eq_true, Bool.and_self, Bool.and_false, Bool.false_and, Bool.true_and, Bool.and_true, and_self, Nat.le_refl]
  | succ d ih =>
    intro k hk
    have ih := ih (k + 1) (by omega)
    have hlt : ¬ 4 ≤ k := by omega
    have o1 := fun Q => o_count (z := z) (Q := Q) C (k := 2 + k) (by omega)
    have o2 := fun Q => o_count (z := z) (Q := Q) C (k := 9 + k) (by omega)
    have e1 : cntV f nF nT (2 + k) = nI (cntS f (nI k) nT) := by
      unfold cntV
      rw [if_pos (by omega), (by omega : 2 + k - 2 = k)]
    have e2 : cntV f nF nT (9 + k) = gG f (6 + k) := by
      unfold cntV
      rw [if_neg (by omega), if_pos (by omega), (by omega : 9 + k - 3 = 6 + k)]
    have q6 : M 853 (6 + k) = gG f (6 + k) := hL.rq (by omega)
    rw [e1] at o1
    rw [e2] at o2
    rw [sL_same_475]
    simp (disch := omega) only [sL_same_477, sL_same_478, sL_same_481, sL_same_482, sL_same_483, sL_same_485, sL_same_486, sL_same_489, sL_same_491, sL_same_492, sL_same_493, sL_same_496, sL_same_499, sL_same_500, sL_same_502, sL_same_504, sL_same_505, sL_same_508, sL_same_509, sL_same_511, sL_same_513, sL_same_514, sL_same_515, sL_same_518, sL_same_519, sL_same_520, sL_same_523, hD, k6, true_and, and_true, true_or, or_true, eq_self, ↓reduceIte, if_true, if_false, nI_add, nI_mul, inB_nI, nI_clamp, Nat.add_zero, eqI, ltI, leI, m6_ne, ne_m6, Nat.reduceEqDiff, reduceCtorEq, Nat.reduceLT, Nat.reduceLeDiff, Nat.reduceAdd, Nat.reduceMul, Nat.zero_add, Nat.mul_zero, nar_0, nar_1, nar_b, bI_t, bI_f, bI_0, bI_1, Bool.true_eq_false, Bool.false_eq_true, Bool.and_self, Bool.and_false, Bool.false_and, Bool.true_and, Bool.and_true, and_self, hlt, o1, ys, o2, q6, ih]
theorem z_same (hS : LWS D M f nF nT L ch) : Runs ML_same 0 [.ref 1, .ref 853, .ref 854, .ref 855, vJ, vJ, vJ, vJ, vJ, vJ, vJ] [] D M z Q = Q (.int (nI 1)) D M z := by
  obtain ⟨a6, y1⟩ := l_Sa2 (z := z) hS (v7 := vJ) (v8 := vJ) (v9 := vJ) (v10 := vJ) nF 0 vJ (by omega)
  obtain ⟨w6, w7, w8, w9, w10, y2⟩ := l_Sa5 (z := z) hS (v4 := .int (nI (cntFr f nF))) nT 0 a6 vJ vJ vJ vJ (by omega)
  have y3 := l_Sa6 (z := z) (Q := Q) hS (v4 := .int (nI (cntFr f nF))) (v6 := w6) (v7 := w7) (v8 := w8) (v9 := w9) (v10 := w10) 4 0 (by decide)
  rw [show cntFr f 0 = 0 from rfl] at y1
  obtain ⟨C, hL, hP, hD, h5, h7⟩ := hS
  have hW := C.wf
  have k6 := C.k6
  have g2 := hW.1.1
  have g3 := hW.1.2.2.1
  have c0 := fun Q => o_count (z := z) (Q := Q) C (k := 0) (by decide)
  have c1 := fun Q => o_count (z := z) (Q := Q) C (k := 1) (by decide)
  have c6 := fun Q => o_count (z := z) (Q := Q) C (k := 6) (by decide)
  have c7 := fun Q => o_count (z := z) (Q := Q) C (k := 7) (by decide)
  have c8 := fun Q => o_count (z := z) (Q := Q) C (k := 8) (by decide)
  have c13 := fun Q => o_count (z := z) (Q := Q) C (k := 13) (by decide)
  have c14 := fun Q => o_count (z := z) (Q := Q) C (k := 14) (by decide)
  rw [show cntV f nF nT 0 = gG f 2 from rfl] at c0
  rw [show cntV f nF nT 1 = gG f 3 from rfl] at c1
  rw [show cntV f nF nT 6 = nI (cntFr f nF) from rfl] at c6
  rw [show cntV f nF nT 7 = gG f 4 from rfl] at c7
  rw [show cntV f nF nT 8 = gG f 5 from rfl] at c8
  rw [show cntV f nF nT 13 = gG f 0 from rfl] at c13
  rw [show cntV f nF nT 14 = gG f 1 from rfl] at c14
  have r0 : M 853 0 = gG f 0 := hL.rq (by decide)
  have r1 : M 853 1 = gG f 1 := hL.rq (by decide)
  have r2 : M 853 2 = gG f 2 := hL.rq (by decide)
  have r3 : M 853 3 = gG f 3 := hL.rq (by decide)
  have r4 : M 853 4 = gG f 4 := hL.rq (by decide)
  have r5 : M 853 5 = gG f 5 := hL.rq (by decide)
  have fn := fun Q => o_fixer_no (z := z) (Q := Q) C (y := nI 0)
  have tn := fun Q => o_thing_no (z := z) (Q := Q) C (y := nI 0)
  simp only [IsL, Nat.reduceAdd] at hD
  rw [g2] at c0 r2
  rw [g3] at c1 r3
  simp (disch := omega) only [sL_same_0, sL_same_1, sL_same_3, sL_same_4, y1, sL_same_94, sL_same_95, y2, sL_same_472, sL_same_473, y3, sL_same_526, sL_same_527, sL_same_528, sL_same_531, sL_same_532, sL_same_533, sL_same_534, sL_same_537, sL_same_538, sL_same_539, sL_same_542, sL_same_543, sL_same_544, sL_same_545, sL_same_548, sL_same_549, sL_same_551, sL_same_554, sL_same_556, sL_same_559, sL_same_560, sL_same_562, sL_same_565, sL_same_566, sL_same_567, sL_same_568, sL_same_571, sL_same_572, sL_same_574, sL_same_577, sL_same_578, sL_same_579, sL_same_580, sL_same_583, sL_same_584, sL_same_586, sL_same_589, sL_same_590, sL_same_591, sL_same_592, sL_same_595, sL_same_596, sL_same_598, sL_same_601, sL_same_602, sL_same_603, sL_same_604, sL_same_607, sL_same_608, sL_same_609, sL_same_610, sL_same_611, sL_same_612, sL_same_615, sL_same_616, sL_same_619, sL_same_620, sL_same_621, sL_same_622, sL_same_623, sL_same_624, sL_same_627, sL_same_628, sL_same_631, sL_same_632, sL_same_635, sL_same_636, hD, k6, true_and, and_true, true_or, or_true, eq_self, ↓reduceIte, if_true, if_false, nI_add, nI_mul, inB_nI, nI_clamp, Nat.add_zero, eqI, ltI, leI, m6_ne, ne_m6, Nat.reduceEqDiff, reduceCtorEq, Nat.reduceLT, Nat.reduceLeDiff, Nat.reduceAdd, Nat.reduceMul, Nat.zero_add, Nat.mul_zero, nar_0, nar_1, nar_b, bI_t, bI_f, bI_0, bI_1, Bool.true_eq_false, Bool.false_eq_true, Bool.and_self, Bool.and_false, Bool.false_and, Bool.true_and, Bool.and_true, and_self, c0, c1, c6, c7, c8, c13, c14, r0, r1, r2, r3, r4, r5, fn, tn]
end SAM
