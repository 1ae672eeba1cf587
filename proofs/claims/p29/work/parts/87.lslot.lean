/-! the law's slot -/
theorem i32_add0 (x : Int32) : x + nI 0 = x := Int32.add_zero x
theorem add_m1 (x : Int32) : x + m1 = x - nI 1 := by
  rw [Int32.sub_eq_add_neg]
  congr 1
theorem m6_nge : ¬ nI 0 ≤ m6 := by decide +kernel
section LSL
variable {D : vDD} {m : vMM} {f g : Nat → Int32} {z : vZZ} {Q : Value → vDD → vMM → vZZ → Prop} {nF nT a i t : Nat}
/-- the end of a step, from its row on -/
theorem y_work2 (hD : IsL D a) (h7 : nT ≤ 7) {H : Nat → Int32} {u n s x : Nat} {v7 : Value} (hu : u < nT) (e2 : gT H u 2 = nI n) (e1 : gT H u 1 = nI s) (hns : n ≤ s) (hs : s ≤ 3) :
    ∃ c w7, c ≤ 1 ∧ gG (if n = s then endsTestF H u else wA (sT H u 2 (nI n + nI 1)) u) 346 = gG H 346 + nI c ∧ gG (if n = s then endsTestF H u else wA (sT H u 2 (nI n + nI 1)) u) 347 = gG H 347 ∧
    ∀ Q, Runs ML_slot 95 [.ref a, .ref (a + 1), .ref (a + 2), .int (nI x), .int (nI i), .int (nI (6 * i)), .int (nI (9 * u)), v7] [] D (lM m a H) z Q = Runs ML_slot 214 [.ref a, .ref (a + 1), .ref (a + 2), .int (nI (x + c)), .int (nI i), .int (nI (6 * i)), .int (nI (9 * u)), w7] [] D (lM m a (if n = s then endsTestF H u else wA (sT H u 2 (nI n + nI 1)) u)) z Q := by
  simp only [IsL] at hD
  by_cases h : n = s
  · rw [if_pos h]
    subst h
    unfold endsTestF
    by_cases hf : gT H u 4 < gT H u 5
    · rw [if_pos hf]
      have nf : lM m a (wA (sT (sG (sG (sT H u 4 (gT H u 4 + nI 1)) 5 (gG H 5 + nI 1)) 348 (gG H 348 + nI 1)) u 2 (gT H u 1 - nI 1)) u) = lM m a (sG (sT (sT (sT (sT H u 0 (nI 0)) u 3 (nI 0)) u 2 (nI n + m1)) u 4 (gT H u 4 + nI 1)) 5 (gG H 5 + nI 1)) := by
        unfold wA
        rw [← n_GT (k := 348) (Or.inr (by decide)) (by omega) (by decide), ← n_GT (k := 348) (Or.inr (by decide)) (by omega) (by decide), ← n_GT (k := 348) (Or.inr (by decide)) (by omega) (by decide), lM_c (by decide), e1, ← add_m1]
        congr 1
        simp (disch := omega) only [n_GT, n_TTc]
      refine ⟨0, .int (nI 1), by decide, ?_, ?_, fun Q => ?_⟩
      · unfold wA
        simp (disch := omega) only [gG_sT, gG_sGk, i32_add0]
      · unfold wA
        simp (disch := omega) only [gG_sT, gG_sGk]
      · rw [nf]
        simp (disch := omega) only [sL_slot_95, sL_slot_96, sL_slot_98, sL_slot_99, sL_slot_100, sL_slot_101, sL_slot_102, sL_slot_104, sL_slot_105, sL_slot_106, sL_slot_107, sL_slot_110, sL_slot_111, sL_slot_114, sL_slot_115, sL_slot_117, sL_slot_119, sL_slot_122, sL_slot_123, sL_slot_125, sL_slot_126, sL_slot_127, sL_slot_128, sL_slot_129, sL_slot_131, sL_slot_132, sL_slot_133, sL_slot_134, sL_slot_137, sL_slot_138, sL_slot_140, sL_slot_141, sL_slot_142, sL_slot_145, sL_slot_148, sL_slot_149, sL_slot_151, sL_slot_152, sL_slot_153, sL_slot_154, sL_slot_156, sL_slot_157, sL_slot_158, sL_slot_159, sL_slot_160, sL_slot_161, sL_slot_163, sL_slot_164, sL_slot_165, sL_slot_166, sL_slot_167, sL_slot_169, sL_slot_172, sL_slot_173, sL_slot_176, sL_slot_177, sL_slot_178, sL_slot_179, sL_slot_180, sL_slot_182, sL_slot_183, sL_slot_184, sL_slot_185, sL_slot_186, sL_slot_188, sL_slot_191, sL_slot_192, sL_slot_195, sL_slot_196, sL_slot_197, sL_slot_198, sL_slot_199, sL_slot_200, sL_slot_201, sL_slot_202, sL_slot_204, sL_slot_207, sL_slot_208, sL_slot_211, sL_slot_212, sL_slot_213, hD, true_and, and_true, true_or, or_true, eq_self, ↓reduceIte, if_true, if_false, nI_add, nI_mul, inB_nI, nI_clamp, Nat.add_zero, eqI, ltI, leI, m6_ne, ne_m6, Nat.reduceEqDiff, reduceCtorEq, Nat.reduceLT, Nat.reduceLeDiff, Nat.reduceAdd, Nat.reduceMul, Nat.zero_add, Nat.mul_zero, nar_0, nar_1, nar_b, bI_t, bI_f, bI_0, bI_1, Bool.true_eq_false, Bool.false_eq_true, Bool.and_self, Bool.and_false, Bool.false_and, Bool.true_and, Bool.and_true, and_self, l_t, e2, e1, hf, lw_t0, lw_t, l_q, lw_q, gT_sTk, gG_sT, Nat.one_ne_zero]
    · rw [if_neg hf]
      refine ⟨1, .int (nI 1), by decide, ?_, ?_, fun Q => ?_⟩
      · simp (disch := omega) only [gG_sT, gG_sG]
      · simp (disch := omega) only [gG_sT, gG_sGk]
      · rw [lM_c (by decide)]
        simp (disch := omega) only [sL_slot_95, sL_slot_96, sL_slot_98, sL_slot_99, sL_slot_100, sL_slot_101, sL_slot_102, sL_slot_104, sL_slot_105, sL_slot_106, sL_slot_107, sL_slot_110, sL_slot_111, sL_slot_114, sL_slot_115, sL_slot_117, sL_slot_119, sL_slot_122, sL_slot_123, sL_slot_125, sL_slot_126, sL_slot_127, sL_slot_128, sL_slot_129, sL_slot_131, sL_slot_132, sL_slot_133, sL_slot_134, sL_slot_137, sL_slot_138, sL_slot_140, sL_slot_141, sL_slot_142, sL_slot_145, sL_slot_148, sL_slot_149, sL_slot_151, sL_slot_152, sL_slot_153, sL_slot_154, sL_slot_156, sL_slot_157, sL_slot_158, sL_slot_159, sL_slot_160, sL_slot_161, sL_slot_163, sL_slot_164, sL_slot_165, sL_slot_166, sL_slot_167, sL_slot_169, sL_slot_172, sL_slot_173, sL_slot_176, sL_slot_177, sL_slot_178, sL_slot_179, sL_slot_180, sL_slot_182, sL_slot_183, sL_slot_184, sL_slot_185, sL_slot_186, sL_slot_188, sL_slot_191, sL_slot_192, sL_slot_195, sL_slot_196, sL_slot_197, sL_slot_198, sL_slot_199, sL_slot_200, sL_slot_201, sL_slot_202, sL_slot_204, sL_slot_207, sL_slot_208, sL_slot_211, sL_slot_212, sL_slot_213, hD, true_and, and_true, true_or, or_true, eq_self, ↓reduceIte, if_true, if_false, nI_add, nI_mul, inB_nI, nI_clamp, Nat.add_zero, eqI, ltI, leI, m6_ne, ne_m6, Nat.reduceEqDiff, reduceCtorEq, Nat.reduceLT, Nat.reduceLeDiff, Nat.reduceAdd, Nat.reduceMul, Nat.zero_add, Nat.mul_zero, nar_0, nar_1, nar_b, bI_t, bI_f, bI_0, bI_1, Bool.true_eq_false, Bool.false_eq_true, Bool.and_self, Bool.and_false, Bool.false_and, Bool.true_and, Bool.and_true, and_self, l_t, e2, e1, hf, lw_t0, lw_t, Nat.one_ne_zero]
  · rw [if_neg h]
    have nf : sT (sT (sT H u 0 (nI 0)) u 3 (nI 0)) u 2 (nI n + nI 1) = wA (sT H u 2 (nI n + nI 1)) u := by
      unfold wA
      simp (disch := omega) only [n_TTc]
    have s4 : sT (sT (sT (sT H u 0 (nI 0)) u 3 (nI 0)) u 2 (nI n + nI 1)) u 4 (gT H u 4) = sT (sT (sT H u 0 (nI 0)) u 3 (nI 0)) u 2 (nI n + nI 1) := sT_self (by simp (disch := omega) only [gT_sTk])
    have s5 : sG (sT (sT (sT H u 0 (nI 0)) u 3 (nI 0)) u 2 (nI n + nI 1)) 5 (gG H 5) = sT (sT (sT H u 0 (nI 0)) u 3 (nI 0)) u 2 (nI n + nI 1) := sG_self (by simp (disch := omega) only [gG_sT])
    refine ⟨0, .int (nI 0), by decide, ?_, ?_, fun Q => ?_⟩
    · unfold wA
      simp (disch := omega) only [gG_sT, i32_add0]
    · unfold wA
      simp (disch := omega) only [gG_sT]
    · rw [← nf]
      simp only [nI_add] at s4 s5 ⊢
      simp (disch := omega) only [sL_slot_95, sL_slot_96, sL_slot_98, sL_slot_99, sL_slot_100, sL_slot_101, sL_slot_102, sL_slot_104, sL_slot_105, sL_slot_106, sL_slot_107, sL_slot_110, sL_slot_111, sL_slot_114, sL_slot_115, sL_slot_117, sL_slot_119, sL_slot_122, sL_slot_123, sL_slot_125, sL_slot_126, sL_slot_127, sL_slot_128, sL_slot_129, sL_slot_131, sL_slot_132, sL_slot_133, sL_slot_134, sL_slot_137, sL_slot_138, sL_slot_140, sL_slot_141, sL_slot_142, sL_slot_145, sL_slot_148, sL_slot_149, sL_slot_151, sL_slot_152, sL_slot_153, sL_slot_154, sL_slot_156, sL_slot_157, sL_slot_158, sL_slot_159, sL_slot_160, sL_slot_161, sL_slot_163, sL_slot_164, sL_slot_165, sL_slot_166, sL_slot_167, sL_slot_169, sL_slot_172, sL_slot_173, sL_slot_176, sL_slot_177, sL_slot_178, sL_slot_179, sL_slot_180, sL_slot_182, sL_slot_183, sL_slot_184, sL_slot_185, sL_slot_186, sL_slot_188, sL_slot_191, sL_slot_192, sL_slot_195, sL_slot_196, sL_slot_197, sL_slot_198, sL_slot_199, sL_slot_200, sL_slot_201, sL_slot_202, sL_slot_204, sL_slot_207, sL_slot_208, sL_slot_211, sL_slot_212, sL_slot_213, hD, true_and, and_true, true_or, or_true, eq_self, ↓reduceIte, if_true, if_false, nI_add, nI_mul, inB_nI, nI_clamp, Nat.add_zero, eqI, ltI, leI, m6_ne, ne_m6, Nat.reduceEqDiff, reduceCtorEq, Nat.reduceLT, Nat.reduceLeDiff, Nat.reduceAdd, Nat.reduceMul, Nat.zero_add, Nat.mul_zero, nar_0, nar_1, nar_b, bI_t, bI_f, bI_0, bI_1, Bool.true_eq_false, Bool.false_eq_true, Bool.and_self, Bool.and_false, Bool.false_and, Bool.true_and, Bool.and_true, and_self, l_t, e2, e1, h, lw_t0, lw_t, l_q, lw_q, gT_sTk, gG_sT, i32_add0, s4, s5]
theorem y_work1 (hD : IsL D a) (hW : WF g nF nT) (h5 : nF ≤ 5) (h7 : nT ≤ 7) (hP : Pk m (a + 2) g nT) (hi : i < nF) : ∃ c, c ≤ 1 ∧ gG (workF i g) 346 = gG g 346 + nI c ∧ gG (workF i g) 347 = gG g 347 ∧
    ∀ x v5 v6 v7, ∃ w5 w6 w7, ∀ Q, Runs ML_slot 13 [.ref a, .ref (a + 1), .ref (a + 2), .int (nI x), .int (nI i), v5, v6, v7] [] D (lM m a g) z Q = Runs ML_slot 214 [.ref a, .ref (a + 1), .ref (a + 2), .int (nI (x + c)), .int (nI i), w5, w6, w7] [] D (lM m a (workF i g)) z Q := by
  have hD0 := hD
  simp only [IsL] at hD
  unfold workF
  rcases (hW.2.2.2.1 i hi).1 with e3 | ⟨u, hu, e3, -⟩
  · rw [if_pos e3]
    refine ⟨0, by decide, (i32_add0 _).symm, rfl, fun x v5 v6 v7 => ⟨.int (nI (6 * i)), v6, v7, fun Q => ?_⟩⟩
    simp (disch := omega) only [sL_slot_13, sL_slot_15, sL_slot_17, sL_slot_18, sL_slot_20, sL_slot_21, sL_slot_23, sL_slot_24, sL_slot_25, sL_slot_26, sL_slot_29, hD, true_and, and_true, true_or, or_true, eq_self, ↓reduceIte, if_true, if_false, nI_add, nI_mul, inB_nI, nI_clamp, Nat.add_zero, eqI, ltI, leI, m6_ne, ne_m6, Nat.reduceEqDiff, reduceCtorEq, Nat.reduceLT, Nat.reduceLeDiff, Nat.reduceAdd, Nat.reduceMul, Nat.zero_add, Nat.mul_zero, nar_0, nar_1, nar_b, bI_t, bI_f, bI_0, bI_1, Bool.true_eq_false, Bool.false_eq_true, Bool.and_self, Bool.and_false, Bool.false_and, Bool.true_and, Bool.and_true, and_self, l_f, e3, m6_nge]
  · rw [if_neg (by rw [e3]; exact nI_nm6 (by omega))]
    by_cases hl : gF g i 4 - gF g i 1 ≤ nI 0
    · rw [if_pos hl, e3, nI_clamp (by omega)]
      obtain ⟨n, s, ⟨e2, e1⟩, ⟨l1, l2, l3⟩, -, -⟩ := th_L hW hP hu
      have ht := tested_iff e2 e1 l1 (by omega : s ≤ 4)
      generalize hH : sF (sF (sF (sF g i 4 (gF g i 4 - gF g i 1)) i 3 m6) i 4 (nI 0)) i 5 (gF g i 5 + nI 1) = H
      have ho : offF (sF g i 4 (gF g i 4 - gF g i 1)) i = H := by
        rw [← hH]
        unfold offF
        rw [gF_sFk (by decide)]
      have hT : ∀ k, gT H u k = gT g u k := fun k => by
        rw [← hH]
        simp (disch := omega) only [gT_sF]
      have hG : ∀ k, 346 ≤ k → gG H k = gG g k := fun k hk => by
        rw [← hH]
        simp (disch := omega) only [gG_sF]
      have ee : endsStepF (sF g i 4 (gF g i 4 - gF g i 1)) i u = if n = s then endsTestF H u else wA (sT H u 2 (nI n + nI 1)) u := by
        unfold endsStepF
        rw [testedF_sF (by omega) (by decide), ht, ho, gT_sF (by omega) (by decide), e2]
        by_cases h : n < s
        · rw [decide_eq_true h, if_neg (by decide), if_neg (by omega)]
        · rw [decide_eq_false h, if_pos (by decide), if_pos (by omega)]
      rw [ee]
      obtain ⟨c, w, c1, c2, c3, c4⟩ := y_work2 (D := D) (m := m) (z := z) (i := i) (x := 0) (v7 := vJ) hD0 h7 hu ((hT 2).trans e2) ((hT 1).trans e1) l1 l3
      refine ⟨c, c1, by rw [c2, hG 346 (by decide)], by rw [c3, hG 347 (by decide)], fun x v5 v6 v7 => ?_⟩
      obtain ⟨c', w', c1', c2', c3', y⟩ := y_work2 (D := D) (m := m) (z := z) (i := i) (x := x) (v7 := v7) hD0 h7 hu ((hT 2).trans e2) ((hT 1).trans e1) l1 l3
      have hc : c' = c := by
        have : gG H 346 + nI c' = gG H 346 + nI c := c2'.symm.trans c2
        have := (Int32.add_right_inj _).mp this
        exact nI9 (by omega) (by omega) this
      subst hc
      refine ⟨.int (nI (6 * i)), .int (nI (9 * u)), w', fun Q => ?_⟩
      rw [← y]
      simp (disch := omega) only [sL_slot_13, sL_slot_15, sL_slot_17, sL_slot_18, sL_slot_20, sL_slot_21, sL_slot_23, sL_slot_24, sL_slot_25, sL_slot_26, sL_slot_29, sL_slot_32, sL_slot_33, sL_slot_35, sL_slot_36, sL_slot_37, sL_slot_38, sL_slot_39, sL_slot_40, sL_slot_42, sL_slot_43, sL_slot_44, sL_slot_45, sL_slot_46, sL_slot_47, sL_slot_48, sL_slot_50, sL_slot_51, sL_slot_52, sL_slot_53, sL_slot_56, sL_slot_59, sL_slot_61, sL_slot_62, sL_slot_64, sL_slot_65, sL_slot_66, sL_slot_67, sL_slot_68, sL_slot_70, sL_slot_71, sL_slot_73, sL_slot_74, sL_slot_75, sL_slot_77, sL_slot_78, sL_slot_79, sL_slot_81, sL_slot_82, sL_slot_83, sL_slot_84, sL_slot_85, sL_slot_86, sL_slot_88, sL_slot_89, sL_slot_90, sL_slot_91, sL_slot_92, sL_slot_93, sL_slot_94, hD, true_and, and_true, true_or, or_true, eq_self, ↓reduceIte, if_true, if_false, nI_add, nI_mul, inB_nI, nI_clamp, Nat.add_zero, eqI, ltI, leI, m6_ne, ne_m6, Nat.reduceEqDiff, reduceCtorEq, Nat.reduceLT, Nat.reduceLeDiff, Nat.reduceAdd, Nat.reduceMul, Nat.zero_add, Nat.mul_zero, nar_0, nar_1, nar_b, bI_t, bI_f, bI_0, bI_1, Bool.true_eq_false, Bool.false_eq_true, Bool.and_self, Bool.and_false, Bool.false_and, Bool.true_and, Bool.and_true, and_self, l_f, e3, Nat.zero_le, lw_f, gF_sF, gF_sFk, hl, hH]
    · rw [if_neg hl]
      refine ⟨0, by decide, by rw [gG_sF (Or.inr (by decide)) (by omega) (by decide), i32_add0], by rw [gG_sF (Or.inr (by decide)) (by omega) (by decide)], fun x v5 v6 v7 => ⟨.int (nI (6 * i)), v6, v7, fun Q => ?_⟩⟩
      simp (disch := omega) only [sL_slot_13, sL_slot_15, sL_slot_17, sL_slot_18, sL_slot_20, sL_slot_21, sL_slot_23, sL_slot_24, sL_slot_25, sL_slot_26, sL_slot_29, sL_slot_32, sL_slot_33, sL_slot_35, sL_slot_36, sL_slot_37, sL_slot_38, sL_slot_39, sL_slot_40, sL_slot_42, sL_slot_43, sL_slot_44, sL_slot_45, sL_slot_46, sL_slot_47, sL_slot_48, sL_slot_50, sL_slot_51, sL_slot_52, sL_slot_53, sL_slot_56, hD, true_and, and_true, true_or, or_true, eq_self, ↓reduceIte, if_true, if_false, nI_add, nI_mul, inB_nI, nI_clamp, Nat.add_zero, eqI, ltI, leI, m6_ne, ne_m6, Nat.reduceEqDiff, reduceCtorEq, Nat.reduceLT, Nat.reduceLeDiff, Nat.reduceAdd, Nat.reduceMul, Nat.zero_add, Nat.mul_zero, nar_0, nar_1, nar_b, bI_t, bI_f, bI_0, bI_1, Bool.true_eq_false, Bool.false_eq_true, Bool.and_self, Bool.and_false, Bool.false_and, Bool.true_and, Bool.and_true, and_self, l_f, e3, Nat.zero_le, lw_f, gF_sF, hl]
theorem l_Ls1 (hD : IsL D a) (hW : WF f nF nT) (h5 : nF ≤ 5) (h7 : nT ≤ 7) (hP : Pk m (a + 2) f nT) : ∀ k i x v5 v6 v7, i + k = nF → ∃ c w5 w6 w7, c ≤ k ∧ gG (lpF workF nF f) 346 = gG (lpF workF i f) 346 + nI c ∧ gG (lpF workF nF f) 347 = gG (lpF workF i f) 347 ∧
    ∀ Q, Runs ML_slot 5 [.ref a, .ref (a + 1), .ref (a + 2), .int (nI x), .int (nI i), v5, v6, v7] [] D (lM m a (lpF workF i f)) z Q = Runs ML_slot 220 [.ref a, .ref (a + 1), .ref (a + 2), .int (nI (x + c)), .int (nI nF), w5, w6, w7] [] D (lM m a (lpF workF nF f)) z Q := by
  have hD0 := hD
  simp only [IsL] at hD
  intro k
  induction k with
  | zero =>
    intro i x v5 v6 v7 hi
    obtain rfl : i = nF := by omega
    obtain ⟨w1, s1⟩ := StE.lp (q := workF) hW i (fun j hj f' w => ⟨w.work (by omega), StE.work (by omega) hW.1.2.2.2⟩)
    have g2 := w1.1.1
    refine ⟨0, v5, v6, v7, Nat.le_refl _, (i32_add0 _).symm, rfl, fun Q => ?_⟩
    rw [sL_slot_5]
    simp (disch := omega) only [sL_slot_7, sL_slot_8, sL_slot_9, sL_slot_10, hD, true_and, and_true, true_or, or_true, eq_self, ↓reduceIte, if_true, if_false, nI_add, nI_mul, inB_nI, nI_clamp, Nat.add_zero, eqI, ltI, leI, m6_ne, ne_m6, Nat.reduceEqDiff, reduceCtorEq, Nat.reduceLT, Nat.reduceLeDiff, Nat.reduceAdd, Nat.reduceMul, Nat.zero_add, Nat.mul_zero, nar_0, nar_1, nar_b, bI_t, bI_f, bI_0, bI_1, Bool.true_eq_false, Bool.false_eq_true, Bool.and_self, Bool.and_false, Bool.false_and, Bool.true_and, Bool.and_true, and_self, l_q, g2, Nat.le_refl]
  | succ k ih =>
    intro i x v5 v6 v7 hi
    obtain ⟨w1, s1⟩ := StE.lp (q := workF) hW i (fun j hj f' w => ⟨w.work (by omega), StE.work (by omega) hW.1.2.2.2⟩)
    have g2 := w1.1.1
    have hlt : ¬ nF ≤ i := by omega
    obtain ⟨c, c1, c2, c3, c4⟩ := y_work1 (D := D) (m := m) (z := z) hD0 w1 h5 h7 (hP.st s1) (i := i) (by omega)
    obtain ⟨w5, w6, w7, y1⟩ := c4 x v5 v6 v7
    obtain ⟨c', u5, u6, u7, d1, d2, d3, y2⟩ := ih (i + 1) (x + c) w5 w6 w7 (by omega)
    simp only [lpF_s] at d2 d3 y2
    refine ⟨c + c', u5, u6, u7, by omega, by rw [d2, c2, Int32.add_assoc, nI_add], by rw [d3, c3], fun Q => ?_⟩
    rw [sL_slot_5]
    simp (disch := omega) only [sL_slot_7, sL_slot_8, sL_slot_9, sL_slot_10, hD, true_and, and_true, true_or, or_true, eq_self, ↓reduceIte, if_true, if_false, nI_add, nI_mul, inB_nI, nI_clamp, Nat.add_zero, eqI, ltI, leI, m6_ne, ne_m6, Nat.reduceEqDiff, reduceCtorEq, Nat.reduceLT, Nat.reduceLeDiff, Nat.reduceAdd, Nat.reduceMul, Nat.zero_add, Nat.mul_zero, nar_0, nar_1, nar_b, bI_t, bI_f, bI_0, bI_1, Bool.true_eq_false, Bool.false_eq_true, Bool.and_self, Bool.and_false, Bool.false_and, Bool.true_and, Bool.and_true, and_self, l_q, g2, hlt, y1, sL_slot_214, sL_slot_217, y2, Nat.add_assoc]
/-! who waited longest: from above -/
def wtN (f : Nat → Int32) (t : Nat) : Nat := (gT f t 3).toNatClampNeg
def Lgt (f : Nat → Int32) (i j n b : Nat) : Prop := (j ≤ b ∧ b < n ∧ canF f i b = true) ∧ ∀ t, j ≤ t → t < n → canF f i t = true → wtN f t < wtN f b ∨ (wtN f t = wtN f b ∧ b ≤ t)
theorem Lgt.uniq {j n b b' : Nat} (h : Lgt f i j n b) (h' : Lgt f i j n b') : b = b' := by
  have h1 := h.2 b' h'.1.1 h'.1.2.1 h'.1.2.2
  have h2 := h'.2 b h.1.1 h.1.2.1 h.1.2.2
  omega
theorem wt_ok (hW : WF f nF nT) (ht : t < nT) (hc : canF f i t = true) : gT f t 3 = nI (wtN f t) ∧ wtN f t ≤ 50 := by
  have h0 := (canF_w hc).2.1
  obtain ⟨n, s, -, -, -, h⟩ := hW.2.2.1 t ht
  obtain ⟨w, hw, e⟩ := h h0
  have : wtN f t = w := by unfold wtN; rw [e, nI_clamp (by omega)]
  rw [this]
  exact ⟨e, hw⟩
theorem lg_is (hW : WF f nF nT) : ∀ n, n ≤ nT → (lgF f i n = m6 ∧ ∀ t, t < n → canF f i t = false) ∨ ∃ b, lgF f i n = nI b ∧ Lgt f i 0 n b
  | 0, _ => Or.inl ⟨rfl, fun t ht => absurd ht (Nat.not_lt_zero t)⟩
  | n + 1, hn => by
    have ih := lg_is hW n (by omega)
    unfold lgF
    cases hc : canF f i n
    · rw [Bool.false_and, if_neg (by decide)]
      rcases ih with ⟨e, h⟩ | ⟨b, e, ⟨b1, b2, b3⟩, b4⟩
      · refine Or.inl ⟨e, fun t ht => ?_⟩
        by_cases q : t = n
        · subst q; exact hc
        · exact h t (by omega)
      · refine Or.inr ⟨b, e, ⟨b1, by omega, b3⟩, fun t h1 h2 h3 => ?_⟩
        by_cases q : t = n
        · subst q; rw [hc] at h3; exact absurd h3 (by decide)
        · exact b4 t h1 (by omega) h3
    · obtain ⟨wn, wl⟩ := wt_ok hW (by omega) hc
      rcases ih with ⟨e, h⟩ | ⟨b, e, ⟨b1, b2, b3⟩, b4⟩
      · rw [e, beq_self_eq_true, Bool.true_or, Bool.and_true, if_pos rfl]
        refine Or.inr ⟨n, rfl, ⟨by omega, by omega, hc⟩, fun t h1 h2 h3 => ?_⟩
        by_cases q : t = n
        · subst q; exact Or.inr ⟨rfl, Nat.le_refl _⟩
        · rw [h t (by omega)] at h3; exact absurd h3 (by decide)
      · have h16 := hW.1.2.2.2
        obtain ⟨wb, wl2⟩ := wt_ok hW (by omega) b3
        rw [e, beq_eq_false_iff_ne.mpr (nI_nm6 (by omega)), Bool.false_or, nI_clamp (by omega), wb, wn, Bool.true_and]
        simp only [ltI _ _ (by omega : wtN f b < 2 ^ 31) (by omega : wtN f n < 2 ^ 31)]
        by_cases hw : wtN f b < wtN f n
        · rw [decide_eq_true hw, if_pos rfl]
          refine Or.inr ⟨n, rfl, ⟨by omega, by omega, hc⟩, fun t h1 h2 h3 => ?_⟩
          by_cases q : t = n
          · subst q; exact Or.inr ⟨rfl, Nat.le_refl _⟩
          · have := b4 t h1 (by omega) h3
            exact Or.inl (by omega)
        · rw [decide_eq_false hw, if_neg (by decide)]
          refine Or.inr ⟨b, rfl, ⟨b1, by omega, b3⟩, fun t h1 h2 h3 => ?_⟩
          by_cases q : t = n
          · subst q
            omega
          · exact b4 t h1 (by omega) h3
def lgM (f : Nat → Int32) (i nT : Nat) : Int32 := if lgF f i nT = m6 then m1 else lgF f i nT
theorem l_Lbest (hD : IsL D a) (hW : WF f nF nT) (h5 : nF ≤ 5) (h7 : nT ≤ 7) (hP : Pk m (a + 2) f nT) (hi : i < nF) {x : Value} : ∀ j (best : Int32) (v7 : Value), j ≤ nT → ((best = m1 ∧ ∀ t, j ≤ t → t < nT → canF f i t = false) ∨ ∃ b, best = nI b ∧ Lgt f i j nT b) →
    Runs ML_slot 241 [.ref a, .ref (a + 1), .ref (a + 2), x, .int (nI i), .int best, .int (nI j - nI 1), v7] [] D (lM m a f) z Q = Runs ML_slot 295 [.ref a, .ref (a + 1), .ref (a + 2), x, .int (nI i), .int (lgM f i nT), .int m1, v7] [] D (lM m a f) z Q := by
  have hD0 := hD
  simp only [IsL] at hD
  intro j
  induction j with
  | zero =>
    intro best v7 hj h
    have e : best = lgM f i nT := by
      unfold lgM
      rcases lg_is hW nT (Nat.le_refl _) (i := i) with ⟨e, q⟩ | ⟨b, e, q⟩
      · rw [if_pos e]
        rcases h with ⟨h1, -⟩ | ⟨b, -, ⟨b1, b2, b3⟩, -⟩
        · exact h1
        · rw [q b b2] at b3; exact absurd b3 (by decide)
      · have hb := q.1.2.1
        rw [if_neg (by rw [e]; exact nI_nm6 (by omega)), e]
        rcases h with ⟨-, h2⟩ | ⟨b', h1, h2⟩
        · have := q.1.2.2
          rw [h2 b (Nat.zero_le _) hb] at this
          exact absurd this (by decide)
        · rw [h1, q.uniq h2]
    rw [i0m1, e, sL_slot_241]
    simp (disch := omega) only [sL_slot_243, true_and, and_true, true_or, or_true, eq_self, ↓reduceIte, if_true, if_false, nI_add, nI_mul, inB_nI, nI_clamp, Nat.add_zero, eqI, ltI, leI, m6_ne, ne_m6, Nat.reduceEqDiff, reduceCtorEq, Nat.reduceLT, Nat.reduceLeDiff, Nat.reduceAdd, Nat.reduceMul, Nat.zero_add, Nat.mul_zero, nar_0, nar_1, nar_b, bI_t, bI_f, bI_0, bI_1, Bool.true_eq_false, Bool.false_eq_true, Bool.and_self, Bool.and_false, Bool.false_and, Bool.true_and, Bool.and_true, and_self, m1_lt]
  | succ j ih =>
    intro best v7 hj h
    have hn : ¬ j < 0 := Nat.not_lt_zero j
    have ej : nI (j + 1) - nI 1 = nI j := nI_sub _ _ (by omega)
    have ya := fun Q => y_able (z := z) (Q := Q) hD0 hW h5 h7 hP hi (t := j) (by omega)
    rw [ej, sL_slot_241]
    cases hc : canF f i j
    · rw [hc] at ya
      have ih := ih best v7 (by omega) (by
        rcases h with ⟨h1, h2⟩ | ⟨b, h1, ⟨b1, b2, b3⟩, b4⟩
        · refine Or.inl ⟨h1, fun t ht1 ht2 => ?_⟩
          by_cases q : t = j
          · subst q; exact hc
          · exact h2 t (by omega) ht2
        · refine Or.inr ⟨b, h1, ⟨by omega, b2, b3⟩, fun t ht1 ht2 ht3 => ?_⟩
          by_cases q : t = j
          · subst q; rw [hc] at ht3; exact absurd ht3 (by decide)
          · exact b4 t (by omega) ht2 ht3)
      simp (disch := omega) only [sL_slot_243, sL_slot_246, sL_slot_248, sL_slot_250, sL_slot_251, sL_slot_252, sL_slot_253, sL_slot_256, sL_slot_259, sL_slot_261, sL_slot_264, sL_slot_265, sL_slot_267, sL_slot_269, sL_slot_270, sL_slot_271, sL_slot_272, sL_slot_273, sL_slot_274, sL_slot_276, sL_slot_278, sL_slot_279, sL_slot_280, sL_slot_281, sL_slot_282, sL_slot_285, sL_slot_287, sL_slot_289, sL_slot_292, true_and, and_true, true_or, or_true, eq_self, ↓reduceIte, if_true, if_false, nI_add, nI_mul, inB_nI, nI_clamp, Nat.add_zero, eqI, ltI, leI, m6_ne, ne_m6, Nat.reduceEqDiff, reduceCtorEq, Nat.reduceLT, Nat.reduceLeDiff, Nat.reduceAdd, Nat.reduceMul, Nat.zero_add, Nat.mul_zero, nar_0, nar_1, nar_b, bI_t, bI_f, bI_0, bI_1, Bool.true_eq_false, Bool.false_eq_true, Bool.and_self, Bool.and_false, Bool.false_and, Bool.true_and, Bool.and_true, and_self, hn, ya, add_m1, ih]
    · rw [hc] at ya
      obtain ⟨wj, wl⟩ := wt_ok hW (by omega) hc
      have own : (∀ t, j + 1 ≤ t → t < nT → canF f i t = true → wtN f t ≤ wtN f j) → Lgt f i j nT j := fun q => ⟨⟨Nat.le_refl _, by omega, hc⟩, fun t ht1 ht2 ht3 => by
        by_cases e : t = j
        · subst e; exact Or.inr ⟨rfl, Nat.le_refl _⟩
        · have := q t (by omega) ht2 ht3
          omega⟩
      rcases h with ⟨h1, h2⟩ | ⟨b, h1, ⟨b1, b2, b3⟩, b4⟩
      · have ih := ih (nI j) v7 (by omega) (Or.inr ⟨j, rfl, own (fun t q1 q2 q3 => by rw [h2 t q1 q2] at q3; exact absurd q3 (by decide))⟩)
        simp (disch := omega) only [sL_slot_243, sL_slot_246, sL_slot_248, sL_slot_250, sL_slot_251, sL_slot_252, sL_slot_253, sL_slot_256, sL_slot_259, sL_slot_261, sL_slot_264, sL_slot_265, sL_slot_267, sL_slot_269, sL_slot_270, sL_slot_271, sL_slot_272, sL_slot_273, sL_slot_274, sL_slot_276, sL_slot_278, sL_slot_279, sL_slot_280, sL_slot_281, sL_slot_282, sL_slot_285, sL_slot_287, sL_slot_289, sL_slot_292, true_and, and_true, true_or, or_true, eq_self, ↓reduceIte, if_true, if_false, nI_add, nI_mul, inB_nI, nI_clamp, Nat.add_zero, eqI, ltI, leI, m6_ne, ne_m6, Nat.reduceEqDiff, reduceCtorEq, Nat.reduceLT, Nat.reduceLeDiff, Nat.reduceAdd, Nat.reduceMul, Nat.zero_add, Nat.mul_zero, nar_0, nar_1, nar_b, bI_t, bI_f, bI_0, bI_1, Bool.true_eq_false, Bool.false_eq_true, Bool.and_self, Bool.and_false, Bool.false_and, Bool.true_and, Bool.and_true, and_self, hn, ya, h1, m1_lt, add_m1, ih, Nat.one_ne_zero]
      · obtain ⟨wb, wl2⟩ := wt_ok hW b2 b3
        have hb : ¬ b < 0 := Nat.not_lt_zero b
        by_cases hw : wtN f j < wtN f b
        · have ih := ih best v7 (by omega) (Or.inr ⟨b, h1, ⟨by omega, b2, b3⟩, fun t ht1 ht2 ht3 => by
            by_cases e : t = j
            · subst e; exact Or.inl hw
            · exact b4 t (by omega) ht2 ht3⟩)
          rw [h1] at ih ⊢
          simp (disch := omega) only [sL_slot_243, sL_slot_246, sL_slot_248, sL_slot_250, sL_slot_251, sL_slot_252, sL_slot_253, sL_slot_256, sL_slot_259, sL_slot_261, sL_slot_264, sL_slot_265, sL_slot_267, sL_slot_269, sL_slot_270, sL_slot_271, sL_slot_272, sL_slot_273, sL_slot_274, sL_slot_276, sL_slot_278, sL_slot_279, sL_slot_280, sL_slot_281, sL_slot_282, sL_slot_285, sL_slot_287, sL_slot_289, sL_slot_292, hD, true_and, and_true, true_or, or_true, eq_self, ↓reduceIte, if_true, if_false, nI_add, nI_mul, inB_nI, nI_clamp, Nat.add_zero, eqI, ltI, leI, m6_ne, ne_m6, Nat.reduceEqDiff, reduceCtorEq, Nat.reduceLT, Nat.reduceLeDiff, Nat.reduceAdd, Nat.reduceMul, Nat.zero_add, Nat.mul_zero, nar_0, nar_1, nar_b, bI_t, bI_f, bI_0, bI_1, Bool.true_eq_false, Bool.false_eq_true, Bool.and_self, Bool.and_false, Bool.false_and, Bool.true_and, Bool.and_true, and_self, hn, ya, hb, l_t, wj, wb, hw, add_m1, ih, Nat.one_ne_zero]
        · have ih := ih (nI j) v7 (by omega) (Or.inr ⟨j, rfl, own (fun t q1 q2 q3 => by
            have := b4 t q1 q2 q3
            omega)⟩)
          rw [h1]
          simp (disch := omega) only [sL_slot_243, sL_slot_246, sL_slot_248, sL_slot_250, sL_slot_251, sL_slot_252, sL_slot_253, sL_slot_256, sL_slot_259, sL_slot_261, sL_slot_264, sL_slot_265, sL_slot_267, sL_slot_269, sL_slot_270, sL_slot_271, sL_slot_272, sL_slot_273, sL_slot_274, sL_slot_276, sL_slot_278, sL_slot_279, sL_slot_280, sL_slot_281, sL_slot_282, sL_slot_285, sL_slot_287, sL_slot_289, sL_slot_292, hD, true_and, and_true, true_or, or_true, eq_self, ↓reduceIte, if_true, if_false, nI_add, nI_mul, inB_nI, nI_clamp, Nat.add_zero, eqI, ltI, leI, m6_ne, ne_m6, Nat.reduceEqDiff, reduceCtorEq, Nat.reduceLT, Nat.reduceLeDiff, Nat.reduceAdd, Nat.reduceMul, Nat.zero_add, Nat.mul_zero, nar_0, nar_1, nar_b, bI_t, bI_f, bI_0, bI_1, Bool.true_eq_false, Bool.false_eq_true, Bool.and_self, Bool.and_false, Bool.false_and, Bool.true_and, Bool.and_true, and_self, hn, ya, hb, l_t, wj, wb, hw, add_m1, ih, Nat.one_ne_zero]
theorem lg_free (h : freeF f i = false) : ∀ n, lgF f i n = m6 := by
  intro n
  rcases lgF_spec (f := f) (i := i) n with e | ⟨t, -, -, e⟩
  · exact e
  · rw [(canF_w e).1] at h
    exact absurd h (by decide)
theorem y_take1 (hD : IsL D a) (hW : WF f nF nT) (h5 : nF ≤ 5) (h7 : nT ≤ 7) (hP : Pk m (a + 2) f nT) (hi : i < nF) {x v5 v6 v7 : Value} : Runs ML_slot 231 [.ref a, .ref (a + 1), .ref (a + 2), x, .int (nI i), v5, v6, v7] [] D (lM m a f) z Q = Runs ML_slot 310 [.ref a, .ref (a + 1), .ref (a + 2), x, .int (nI i), .int (lgM f i nT), .int m1, v7] [] D (lM m a (takeF nT i f)) z Q := by
  have g3 := hW.1.2.2.1
  have lb := l_Lbest (Q := Q) (z := z) hD hW h5 h7 hP hi (x := x) nT m1 v7 (Nat.le_refl _) (Or.inl ⟨rfl, fun t h1 h2 => by omega⟩)
  have hT := hD
  simp only [IsL] at hD
  unfold takeF
  rcases lgF_spec (f := f) (i := i) nT with e | ⟨t, ht, e, hc⟩
  · have em : lgM f i nT = m1 := by unfold lgM; rw [if_pos e]
    have ef : (if freeF f i = true then (if lgF f i nT = m6 then f else takesF f i (lgF f i nT).toNatClampNeg) else f) = f := by
      rw [if_pos e]
      split <;> rfl
    rw [em] at lb
    rw [ef, em]
    simp (disch := omega) only [sL_slot_231, sL_slot_232, sL_slot_234, sL_slot_235, sL_slot_236, sL_slot_237, sL_slot_238, sL_slot_239, hD, true_and, and_true, true_or, or_true, eq_self, ↓reduceIte, if_true, if_false, nI_add, nI_mul, inB_nI, nI_clamp, Nat.add_zero, eqI, ltI, leI, m6_ne, ne_m6, Nat.reduceEqDiff, reduceCtorEq, Nat.reduceLT, Nat.reduceLeDiff, Nat.reduceAdd, Nat.reduceMul, Nat.zero_add, Nat.mul_zero, nar_0, nar_1, nar_b, bI_t, bI_f, bI_0, bI_1, Bool.true_eq_false, Bool.false_eq_true, Bool.and_self, Bool.and_false, Bool.false_and, Bool.true_and, Bool.and_true, and_self, l_q, g3, lb, sL_slot_295, sL_slot_297, sL_slot_300, sL_slot_302, sL_slot_304, sL_slot_305, sL_slot_306, sL_slot_307, m1_lt]
  · have em : lgM f i nT = nI t := by unfold lgM; rw [if_neg (by rw [e]; exact nI_nm6 (by omega)), e]
    have hn : ¬ t < 0 := Nat.not_lt_zero t
    have yt := fun Q => y_take (z := z) (Q := Q) hT hW h5 h7 hP hi ht
    rw [em] at lb
    rw [if_pos (canF_w hc).1, if_neg (by rw [e]; exact nI_nm6 (by omega)), e, nI_clamp (by omega), em]
    simp (disch := omega) only [sL_slot_231, sL_slot_232, sL_slot_234, sL_slot_235, sL_slot_236, sL_slot_237, sL_slot_238, sL_slot_239, hD, true_and, and_true, true_or, or_true, eq_self, ↓reduceIte, if_true, if_false, nI_add, nI_mul, inB_nI, nI_clamp, Nat.add_zero, eqI, ltI, leI, m6_ne, ne_m6, Nat.reduceEqDiff, reduceCtorEq, Nat.reduceLT, Nat.reduceLeDiff, Nat.reduceAdd, Nat.reduceMul, Nat.zero_add, Nat.mul_zero, nar_0, nar_1, nar_b, bI_t, bI_f, bI_0, bI_1, Bool.true_eq_false, Bool.false_eq_true, Bool.and_self, Bool.and_false, Bool.false_and, Bool.true_and, Bool.and_true, and_self, l_q, g3, lb, sL_slot_295, sL_slot_297, sL_slot_300, sL_slot_302, sL_slot_304, sL_slot_305, sL_slot_306, sL_slot_307, hn, yt]
theorem l_Ls2 (hD : IsL D a) (hW : WF f nF nT) (h5 : nF ≤ 5) (h7 : nT ≤ 7) (hP : Pk m (a + 2) f nT) {x : Value} : ∀ k i v5 v6 v7, i + k = nF → ∃ w5 w6 w7,
    ∀ Q, Runs ML_slot 223 [.ref a, .ref (a + 1), .ref (a + 2), x, .int (nI i), v5, v6, v7] [] D (lM m a (lpF (takeF nT) i f)) z Q = Runs ML_slot 316 [.ref a, .ref (a + 1), .ref (a + 2), x, .int (nI nF), w5, w6, w7] [] D (lM m a (lpF (takeF nT) nF f)) z Q := by
  have hD0 := hD
  simp only [IsL] at hD
  intro k
  induction k with
  | zero =>
    intro i v5 v6 v7 hi
    obtain rfl : i = nF := by omega
    obtain ⟨w1, s1⟩ := StE.lp (q := takeF nT) hW i (fun j hj f' w => ⟨w.take (by omega), StE.take w (by omega)⟩)
    have g2 := w1.1.1
    refine ⟨v5, v6, v7, fun Q => ?_⟩
    rw [sL_slot_223]
    simp (disch := omega) only [sL_slot_225, sL_slot_226, sL_slot_227, sL_slot_228, hD, true_and, and_true, true_or, or_true, eq_self, ↓reduceIte, if_true, if_false, nI_add, nI_mul, inB_nI, nI_clamp, Nat.add_zero, eqI, ltI, leI, m6_ne, ne_m6, Nat.reduceEqDiff, reduceCtorEq, Nat.reduceLT, Nat.reduceLeDiff, Nat.reduceAdd, Nat.reduceMul, Nat.zero_add, Nat.mul_zero, nar_0, nar_1, nar_b, bI_t, bI_f, bI_0, bI_1, Bool.true_eq_false, Bool.false_eq_true, Bool.and_self, Bool.and_false, Bool.false_and, Bool.true_and, Bool.and_true, and_self, l_q, g2, Nat.le_refl]
  | succ k ih =>
    intro i v5 v6 v7 hi
    obtain ⟨w1, s1⟩ := StE.lp (q := takeF nT) hW i (fun j hj f' w => ⟨w.take (by omega), StE.take w (by omega)⟩)
    have g2 := w1.1.1
    have hlt : ¬ nF ≤ i := by omega
    have y1 := fun Q v5 v6 v7 => y_take1 (Q := Q) (z := z) hD0 w1 h5 h7 (hP.st s1) (i := i) (by omega) (x := x) (v5 := v5) (v6 := v6) (v7 := v7)
    obtain ⟨u5, u6, u7, y2⟩ := ih (i + 1) (.int (lgM (lpF (takeF nT) i f) i nT)) (.int m1) v7 (by omega)
    simp only [lpF_s] at y2
    refine ⟨u5, u6, u7, fun Q => ?_⟩
    rw [sL_slot_223]
    simp (disch := omega) only [sL_slot_225, sL_slot_226, sL_slot_227, sL_slot_228, hD, true_and, and_true, true_or, or_true, eq_self, ↓reduceIte, if_true, if_false, nI_add, nI_mul, inB_nI, nI_clamp, Nat.add_zero, eqI, ltI, leI, m6_ne, ne_m6, Nat.reduceEqDiff, reduceCtorEq, Nat.reduceLT, Nat.reduceLeDiff, Nat.reduceAdd, Nat.reduceMul, Nat.zero_add, Nat.mul_zero, nar_0, nar_1, nar_b, bI_t, bI_f, bI_0, bI_1, Bool.true_eq_false, Bool.false_eq_true, Bool.and_self, Bool.and_false, Bool.false_and, Bool.true_and, Bool.and_true, and_self, l_q, g2, hlt, y1, sL_slot_310, sL_slot_313, y2]
theorem y_wait1 (hD : IsL D a) (h7 : nT ≤ 7) (ht : t < nT) {x : Nat} {v5 v6 v7 : Value} : ∃ b, b ≤ 1 ∧ gG (waitF t f) 346 = gG f 346 ∧ gG (waitF t f) 347 = gG f 347 + nI b ∧ ∀ x Q, Runs ML_slot 327 [.ref a, .ref (a + 1), .ref (a + 2), .int (nI x), .int (nI t), v5, v6, v7] [] D (lM m a f) z Q = Runs ML_slot 371 [.ref a, .ref (a + 1), .ref (a + 2), .int (nI (x + 100 * b)), .int (nI t), v5, v6, v7] [] D (lM m a (waitF t f)) z Q := by
  simp only [IsL] at hD
  unfold waitF
  by_cases h0 : gT f t 0 = nI 0
  · rw [if_pos h0]
    by_cases hp : gG f 0 < gT f t 3 + nI 1
    · rw [if_pos hp]
      refine ⟨1, by decide, ?_, ?_, fun x Q => ?_⟩
      · simp (disch := omega) only [gG_sGk, gG_sT]
      · simp (disch := omega) only [gG_sG, gG_sT]
      · rw [lM_c (by decide)]
        simp (disch := omega) only [sL_slot_327, sL_slot_328, sL_slot_330, sL_slot_332, sL_slot_333, sL_slot_334, sL_slot_337, sL_slot_338, sL_slot_340, sL_slot_342, sL_slot_343, sL_slot_344, sL_slot_345, sL_slot_346, sL_slot_347, sL_slot_348, sL_slot_349, sL_slot_350, sL_slot_351, sL_slot_352, sL_slot_353, sL_slot_354, sL_slot_357, sL_slot_360, sL_slot_361, sL_slot_363, sL_slot_365, sL_slot_366, sL_slot_367, sL_slot_368, hD, true_and, and_true, true_or, or_true, eq_self, ↓reduceIte, if_true, if_false, nI_add, nI_mul, inB_nI, nI_clamp, Nat.add_zero, eqI, ltI, leI, m6_ne, ne_m6, Nat.reduceEqDiff, reduceCtorEq, Nat.reduceLT, Nat.reduceLeDiff, Nat.reduceAdd, Nat.reduceMul, Nat.zero_add, Nat.mul_zero, nar_0, nar_1, nar_b, bI_t, bI_f, bI_0, bI_1, Bool.true_eq_false, Bool.false_eq_true, Bool.and_self, Bool.and_false, Bool.false_and, Bool.true_and, Bool.and_true, and_self, l_t0, h0, l_t, lw_t, l_q, gG_sT, hp, lw_t0]
    · rw [if_neg hp]
      refine ⟨0, by decide, ?_, ?_, fun x Q => ?_⟩
      · simp (disch := omega) only [gG_sT]
      · simp (disch := omega) only [gG_sT, i32_add0]
      · simp (disch := omega) only [sL_slot_327, sL_slot_328, sL_slot_330, sL_slot_332, sL_slot_333, sL_slot_334, sL_slot_337, sL_slot_338, sL_slot_340, sL_slot_342, sL_slot_343, sL_slot_344, sL_slot_345, sL_slot_346, sL_slot_347, sL_slot_348, sL_slot_349, sL_slot_350, sL_slot_351, sL_slot_352, sL_slot_353, sL_slot_354, sL_slot_357, sL_slot_360, sL_slot_361, sL_slot_363, sL_slot_365, sL_slot_366, sL_slot_367, sL_slot_368, hD, true_and, and_true, true_or, or_true, eq_self, ↓reduceIte, if_true, if_false, nI_add, nI_mul, inB_nI, nI_clamp, Nat.add_zero, eqI, ltI, leI, m6_ne, ne_m6, Nat.reduceEqDiff, reduceCtorEq, Nat.reduceLT, Nat.reduceLeDiff, Nat.reduceAdd, Nat.reduceMul, Nat.zero_add, Nat.mul_zero, nar_0, nar_1, nar_b, bI_t, bI_f, bI_0, bI_1, Bool.true_eq_false, Bool.false_eq_true, Bool.and_self, Bool.and_false, Bool.false_and, Bool.true_and, Bool.and_true, and_self, l_t0, h0, l_t, lw_t, l_q, gG_sT, hp]
  · rw [if_neg h0]
    refine ⟨0, by decide, rfl, (i32_add0 _).symm, fun x Q => ?_⟩
    simp (disch := omega) only [sL_slot_327, sL_slot_328, sL_slot_330, sL_slot_332, sL_slot_333, sL_slot_334, sL_slot_337, sL_slot_338, sL_slot_340, sL_slot_342, sL_slot_343, sL_slot_344, sL_slot_345, sL_slot_346, sL_slot_347, sL_slot_348, sL_slot_349, sL_slot_350, sL_slot_351, sL_slot_352, sL_slot_353, sL_slot_354, sL_slot_357, sL_slot_360, sL_slot_361, sL_slot_363, sL_slot_365, sL_slot_366, sL_slot_367, sL_slot_368, hD, true_and, and_true, true_or, or_true, eq_self, ↓reduceIte, if_true, if_false, nI_add, nI_mul, inB_nI, nI_clamp, Nat.add_zero, eqI, ltI, leI, m6_ne, ne_m6, Nat.reduceEqDiff, reduceCtorEq, Nat.reduceLT, Nat.reduceLeDiff, Nat.reduceAdd, Nat.reduceMul, Nat.zero_add, Nat.mul_zero, nar_0, nar_1, nar_b, bI_t, bI_f, bI_0, bI_1, Bool.true_eq_false, Bool.false_eq_true, Bool.and_self, Bool.and_false, Bool.false_and, Bool.true_and, Bool.and_true, and_self, l_t0, h0]
theorem l_Ls3 (hD : IsL D a) (hW : WF f nF nT) (h7 : nT ≤ 7) {v5 v6 v7 : Value} : ∀ k i, i + k = nT → ∃ b, b ≤ k ∧ gG (lpF waitF nT f) 346 = gG (lpF waitF i f) 346 ∧ gG (lpF waitF nT f) 347 = gG (lpF waitF i f) 347 + nI b ∧
    ∀ x Q, Runs ML_slot 319 [.ref a, .ref (a + 1), .ref (a + 2), .int (nI x), .int (nI i), v5, v6, v7] [] D (lM m a (lpF waitF i f)) z Q = Runs ML_slot 377 [.ref a, .ref (a + 1), .ref (a + 2), .int (nI (x + 100 * b)), .int (nI nT), v5, v6, v7] [] D (lM m a (lpF waitF nT f)) z Q := by
  have hD0 := hD
  simp only [IsL] at hD
  intro k
  induction k with
  | zero =>
    intro i hi
    obtain rfl : i = nT := by omega
    obtain ⟨w1, s1⟩ := StE.lp (q := waitF) hW i (fun j hj f' w => ⟨w.wait (by omega), StE.wait hW.1.2.2.2⟩)
    have g3 := w1.1.2.2.1
    refine ⟨0, Nat.le_refl _, rfl, (i32_add0 _).symm, fun x Q => ?_⟩
    rw [sL_slot_319]
    simp (disch := omega) only [sL_slot_321, sL_slot_322, sL_slot_323, sL_slot_324, hD, true_and, and_true, true_or, or_true, eq_self, ↓reduceIte, if_true, if_false, nI_add, nI_mul, inB_nI, nI_clamp, Nat.add_zero, eqI, ltI, leI, m6_ne, ne_m6, Nat.reduceEqDiff, reduceCtorEq, Nat.reduceLT, Nat.reduceLeDiff, Nat.reduceAdd, Nat.reduceMul, Nat.zero_add, Nat.mul_zero, nar_0, nar_1, nar_b, bI_t, bI_f, bI_0, bI_1, Bool.true_eq_false, Bool.false_eq_true, Bool.and_self, Bool.and_false, Bool.false_and, Bool.true_and, Bool.and_true, and_self, l_q, g3, Nat.le_refl]
  | succ k ih =>
    intro i hi
    obtain ⟨w1, s1⟩ := StE.lp (q := waitF) hW i (fun j hj f' w => ⟨w.wait (by omega), StE.wait hW.1.2.2.2⟩)
    have g3 := w1.1.2.2.1
    have hlt : ¬ nT ≤ i := by omega
    obtain ⟨b, c1, c2, c3, y1⟩ := y_wait1 (D := D) (m := m) (z := z) (f := lpF waitF i f) hD0 h7 (t := i) (by omega) (x := 0) (v5 := v5) (v6 := v6) (v7 := v7)
    obtain ⟨b', d1, d2, d3, y2⟩ := ih (i + 1) (by omega)
    simp only [lpF_s] at d2 d3 y2
    refine ⟨b + b', by omega, by rw [d2, c2], by rw [d3, c3, Int32.add_assoc, nI_add], fun x Q => ?_⟩
    have e : x + 100 * (b + b') = x + 100 * b + 100 * b' := by omega
    rw [sL_slot_319, e]
    simp (disch := omega) only [sL_slot_321, sL_slot_322, sL_slot_323, sL_slot_324, hD, true_and, and_true, true_or, or_true, eq_self, ↓reduceIte, if_true, if_false, nI_add, nI_mul, inB_nI, nI_clamp, Nat.add_zero, eqI, ltI, leI, m6_ne, ne_m6, Nat.reduceEqDiff, reduceCtorEq, Nat.reduceLT, Nat.reduceLeDiff, Nat.reduceAdd, Nat.reduceMul, Nat.zero_add, Nat.mul_zero, nar_0, nar_1, nar_b, bI_t, bI_f, bI_0, bI_1, Bool.true_eq_false, Bool.false_eq_true, Bool.and_self, Bool.and_false, Bool.false_and, Bool.true_and, Bool.and_true, and_self, l_q, g3, hlt, y1, sL_slot_371, sL_slot_374, y2]
/-- takes and waits leave the counter of what is mended -/
theorem take_346 (hW : WF f nF nT) : ∀ n, n ≤ nF → gG (lpF (takeF nT) n f) 346 = gG f 346 ∧ gG (lpF (takeF nT) n f) 347 = gG f 347
  | 0, _ => ⟨rfl, rfl⟩
  | n + 1, hn => by
    obtain ⟨i1, i2⟩ := take_346 hW n (by omega)
    obtain ⟨w1, s1⟩ := StE.lp (q := takeF nT) hW n (fun j hj f' w => ⟨w.take (by omega), StE.take w (by omega)⟩)
    have h8 := hW.1.2.1
    have h16 := hW.1.2.2.2
    rw [lpF_s, ← i1, ← i2]
    generalize lpF (takeF nT) n f = g at w1
    unfold takeF
    split
    · split
      · exact ⟨rfl, rfl⟩
      · rename_i h
        rcases lgF_spec (f := g) (i := n) nT with q | ⟨u, hu, e, -⟩
        · exact absurd q h
        · rw [e, nI_clamp (by omega)]
          have ho := (w1.2.2.1 u hu).okT.2
          unfold takesF
          refine ⟨?_, ?_⟩
          · rw [gG_sF (Or.inr (by decide)) (by omega) (by decide), gG_sF (Or.inr (by decide)) (by omega) (by decide), gG_sT (Or.inr (by decide)) (by omega) (by decide), gG_sT (Or.inr (by decide)) (by omega) (by decide)]
            exact outP_G ho (by omega)
          · rw [gG_sF (Or.inr (by decide)) (by omega) (by decide), gG_sF (Or.inr (by decide)) (by omega) (by decide), gG_sT (Or.inr (by decide)) (by omega) (by decide), gG_sT (Or.inr (by decide)) (by omega) (by decide)]
            exact outP_G ho (by omega)
    · exact ⟨rfl, rfl⟩
theorem slot_is (hW : WF f nF nT) : slotF f = sG (lpF waitF nT (lpF (takeF nT) nF (lpF workF nF f))) 4 (gG (lpF waitF nT (lpF (takeF nT) nF (lpF workF nF f))) 4 + nI 1) := by
  obtain ⟨w1, s1⟩ := StE.lp (q := workF) hW nF (fun i hi f' w => ⟨w.work hi, StE.work (by have := hW.1.2.1; omega) hW.1.2.2.2⟩)
  obtain ⟨w2, s2⟩ := StE.lp (q := takeF nT) w1 nF (fun i hi f' w => ⟨w.take hi, StE.take w hi⟩)
  unfold slotF waitOnF takeAllF worksF
  rw [hW.ns.1, w1.ns.1, w1.ns.2, w2.ns.2]
theorem nI_dif {c p q : Nat} {x y : Int32} (e : y = x + nI c) (d : y - nI p = x - nI q) (hc : c ≤ 1000) (hp : p ≤ 100) (hq : q ≤ 100) : p = q + c := by
  subst e
  have h1 : x + nI c = x - nI q + nI p := by rw [← d, Int32.sub_add_cancel]
  have h2 : x + nI c + nI q = x + nI p := by
    rw [h1, Int32.add_assoc, Int32.add_comm (nI p), ← Int32.add_assoc, Int32.sub_add_cancel]
  rw [Int32.add_assoc, nI_add] at h2
  have h3 := (Int32.add_right_inj _).mp h2
  have := nI_inj (by omega) (by omega) h3
  omega
theorem y_slot (hD : IsL D a) (hW : WF f nF nT) (h5 : nF ≤ 5) (h7 : nT ≤ 7) (hP : Pk m (a + 2) f nT) : ∃ c b, cntS (slotF f) (nI 2) nT = cntS f (nI 2) nT + c ∧ cntS (slotF f) (nI 3) nT = cntS f (nI 3) nT + b ∧
    ∀ Q, Runs ML_slot 0 [.ref a, .ref (a + 1), .ref (a + 2), vJ, vJ, vJ, vJ, vJ] [] D (lM m a f) z Q = Q (.int (nI (c + 100 * b))) D (lM m a (slotF f)) z := by
  obtain ⟨w1, s1⟩ := StE.lp (q := workF) hW nF (fun i hi f' w => ⟨w.work hi, StE.work (by have := hW.1.2.1; omega) hW.1.2.2.2⟩)
  obtain ⟨w2, s2⟩ := StE.lp (q := takeF nT) w1 nF (fun i hi f' w => ⟨w.take hi, StE.take w hi⟩)
  obtain ⟨w3, s3⟩ := StE.lp (q := waitF) w2 nT (fun i hi f' w => ⟨w.wait hi, StE.wait hW.1.2.2.2⟩)
  obtain ⟨c, u5, u6, u7, c1, c2, c3, y1⟩ := l_Ls1 (D := D) (m := m) (z := z) hD hW h5 h7 hP nF 0 0 vJ vJ vJ (by omega)
  obtain ⟨t5, t6, t7, y2⟩ := l_Ls2 (D := D) (m := m) (z := z) hD w1 h5 h7 (hP.st s1) (x := .int (nI c)) nF 0 u5 u6 u7 (by omega)
  obtain ⟨b, b1, b2, b3, y3⟩ := l_Ls3 (D := D) (m := m) (z := z) hD w2 h7 (v5 := t5) (v6 := t6) (v7 := t7) nT 0 (by omega)
  obtain ⟨k1, k2⟩ := take_346 w1 nF (Nat.le_refl _)
  have e := slot_is hW
  obtain ⟨d1, d2, d3⟩ := DDs.slot hW
  have g346 : gG (slotF f) 346 = gG f 346 + nI c := by
    rw [e, gG_sGk (by decide), b2, lpF_0, k1, c2, lpF_0]
  have g347 : gG (slotF f) 347 = gG f 347 + nI b := by
    rw [e, gG_sGk (by decide), b3, lpF_0, k2, c3, lpF_0]
  have n1 := cntS_le (slotF f) (nI 2) nT
  have n2 := cntS_le f (nI 2) nT
  have n3 := cntS_le (slotF f) (nI 3) nT
  have n4 := cntS_le f (nI 3) nT
  refine ⟨c, b, nI_dif g346 d1 (by omega) (by omega) (by omega), nI_dif g347 d2 (by omega) (by omega) (by omega), fun Q => ?_⟩
  simp only [lpF_0, Nat.zero_add] at y1 y2 y3
  rw [e]
  simp only [IsL] at hD
  simp (disch := omega) only [sL_slot_0, sL_slot_1, sL_slot_2, sL_slot_3, y1, sL_slot_220, sL_slot_221, y2, sL_slot_316, sL_slot_317, y3, sL_slot_377, sL_slot_378, sL_slot_379, sL_slot_380, sL_slot_381, sL_slot_382, sL_slot_383, sL_slot_384, sL_slot_385, hD, true_and, and_true, true_or, or_true, eq_self, ↓reduceIte, if_true, if_false, nI_add, nI_mul, inB_nI, nI_clamp, Nat.add_zero, eqI, ltI, leI, m6_ne, ne_m6, Nat.reduceEqDiff, reduceCtorEq, Nat.reduceLT, Nat.reduceLeDiff, Nat.reduceAdd, Nat.reduceMul, Nat.zero_add, Nat.mul_zero, nar_0, nar_1, nar_b, bI_t, bI_f, bI_0, bI_1, Bool.true_eq_false, Bool.false_eq_true, Bool.and_self, Bool.and_false, Bool.false_and, Bool.true_and, Bool.and_true, and_self, l_q, lw_q]
end LSL
