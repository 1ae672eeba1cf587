/-! the law's small methods -/
theorem n100 : ¬ (100 : Nat) = 0 := by decide
theorem n10 : ¬ (10 : Nat) = 0 := by decide
theorem i0m1 : nI 0 - nI 1 = m1 := by decide +kernel
theorem m1_lt : m1 < nI 0 := by decide +kernel
theorem m6_lt0 : m6 < nI 0 := by decide +kernel
def ptF (f : Nat → Int32) (t : Nat) : Int32 := if nsF f t 2 = m6 then m1 else nsF f t 2
section LSM
variable {D : vDD} {m : vMM} {f : Nat → Int32} {z : vZZ} {Q : Value → vDD → vMM → vZZ → Prop} {nF nT a i t L : Nat} {xs : Nat → Int32}
theorem y_low {v : Int32} {n : Nat} (h0 : 0 < n) (h1 : n < 2 ^ 31) : Runs ML_low 0 [.int v, .int (nI n)] [] D m z Q = Q (.int (nI (lwN v n))) D m z := by
  have h2 := lo31_lt v
  have hn : ¬ n = 0 := by omega
  simp (disch := omega) only [sL_low_0, sL_low_1, sL_low_3, sL_low_4, sL_low_5, sL_low_6, true_and, and_true, true_or, or_true, eq_self, ↓reduceIte, if_true, if_false, nI_add, nI_mul, inB_nI, nI_clamp, Nat.add_zero, eqI, ltI, leI, m6_ne, ne_m6, Nat.reduceEqDiff, reduceCtorEq, Nat.reduceLT, Nat.reduceLeDiff, Nat.reduceAdd, Nat.reduceMul, Nat.zero_add, Nat.mul_zero, nar_0, nar_1, nar_b, bI_t, bI_f, bI_0, bI_1, Bool.true_eq_false, Bool.false_eq_true, Bool.and_self, Bool.and_false, Bool.false_and, Bool.true_and, Bool.and_true, and_self, lo31_and, hn, iremI, not_false_eq_true, lwN]
theorem y_cell (h0 : (D 0).1 = 20 ∧ (D 0).2.1 = L) (hL : L ≤ 260) {k : Nat} (hk : k < 1000) : ∃ v, ∀ Q, Runs ML_cell 0 [.ref 0, .int (nI k)] [] D m z Q = Q (.int v) D m z := by
  have e0 : Int32.ofNat L = nI L := rfl
  by_cases h : L ≤ k
  · refine ⟨nI 1067285333 * nI (k + 1) + nI 684254881, fun Q => ?_⟩
    simp (disch := omega) only [sL_cell_0, sL_cell_1, sL_cell_2, sL_cell_3, sL_cell_6, sL_cell_7, sL_cell_8, sL_cell_9, sL_cell_12, sL_cell_14, sL_cell_15, sL_cell_16, sL_cell_17, sL_cell_18, sL_cell_20, sL_cell_21, h0, e0, true_and, leI, h, if_true, nI_add]
  · refine ⟨m 0 k, fun Q => ?_⟩
    simp (disch := omega) only [sL_cell_0, sL_cell_1, sL_cell_2, sL_cell_3, sL_cell_6, sL_cell_7, sL_cell_8, sL_cell_9, sL_cell_12, sL_cell_14, sL_cell_15, sL_cell_16, sL_cell_17, sL_cell_18, sL_cell_20, sL_cell_21, h0, e0, true_and, and_true, true_or, or_true, eq_self, ↓reduceIte, if_true, if_false, nI_add, nI_mul, inB_nI, nI_clamp, Nat.add_zero, eqI, ltI, leI, m6_ne, ne_m6, Nat.reduceEqDiff, reduceCtorEq, Nat.reduceLT, Nat.reduceLeDiff, Nat.reduceAdd, Nat.reduceMul, Nat.zero_add, Nat.mul_zero, nar_0, nar_1, nar_b, bI_t, bI_f, bI_0, bI_1, Bool.true_eq_false, Bool.false_eq_true, Bool.and_self, Bool.and_false, Bool.false_and, Bool.true_and, Bool.and_true, and_self, h, or_true]
theorem th_L (hW : WF f nF nT) (hP : Pk m (a + 2) f nT) (ht : t < nT) : ∃ n s, (gT f t 2 = nI n ∧ gT f t 1 = nI s) ∧ (n ≤ s ∧ 1 ≤ s ∧ s ≤ 3) ∧
    (n < s → ∃ sk wk pt, (sk < 5 ∧ 1 ≤ wk ∧ wk ≤ 9 ∧ pt ≤ 4) ∧ m (a + 2) (9 * t + 6 + n) = nI (100 * sk + 10 * wk + pt) ∧ nsF f t 0 = nI sk ∧ nsF f t 1 = nI wk ∧ nsF f t 2 = if pt = 0 then m6 else nI (pt - 1)) ∧
    (¬ n < s → nsF f t 0 = nI 5 ∧ nsF f t 1 = gG f 1 ∧ nsF f t 2 = m6) := by
  obtain ⟨n, s, ⟨h1, h2, h3, h4, h5⟩, -⟩ := hW.2.2.1 t ht
  obtain ⟨s', e1, e2, e3⟩ := hP t ht
  rw [h2] at e1
  obtain rfl : s = s' := nI9 (by omega) (by omega) e1
  have ht := tested_iff h1 h2 h3 h5
  refine ⟨n, s, ⟨h1, h2⟩, ⟨h3, h4, e2⟩, fun hn => ?_, fun hn => ?_⟩
  · obtain ⟨sk, wk, pt, q1, q2, q3, q4, q5⟩ := e3 n hn
    rw [decide_eq_true hn] at ht
    have e : ∀ w, nsF f t w = gT f t (6 + 3 * n + w) := fun w => by
      unfold nsF
      rw [ht, h1, nI_clamp (by omega)]
      rfl
    exact ⟨sk, wk, pt, q1, q2, (e 0).trans q3, (e 1).trans q4, (e 2).trans q5⟩
  · rw [decide_eq_false hn] at ht
    unfold nsF
    rw [ht]
    exact ⟨rfl, rfl, rfl⟩
theorem y_skill (hD : IsL D a) (hW : WF f nF nT) (h7 : nT ≤ 7) (hP : Pk m (a + 2) f nT) (ht : t < nT) : Runs ML_skill 0 [.int (nI t), .ref (a + 2), vJ] [] D (lM m a f) z Q = Q (.int (nsF f t 0)) D (lM m a f) z := by
  simp only [IsL] at hD
  obtain ⟨n, s, ⟨e2, e1⟩, ⟨l1, l2, l3⟩, g1, g2⟩ := th_L hW hP ht
  by_cases h : n < s
  · obtain ⟨sk, wk, pt, ⟨q1, q2, q3, q4⟩, q5, q6, -, -⟩ := g1 h
    have hne : ¬ n = s := by omega
    have dv : (100 * sk + 10 * wk + pt) / 100 = sk := by omega
    simp (disch := omega) only [sL_skill_0, sL_skill_2, sL_skill_3, sL_skill_4, sL_skill_5, sL_skill_6, sL_skill_7, sL_skill_8, sL_skill_9, sL_skill_10, sL_skill_11, sL_skill_12, sL_skill_13, sL_skill_14, sL_skill_15, sL_skill_18, sL_skill_19, sL_skill_22, sL_skill_23, sL_skill_24, sL_skill_26, sL_skill_27, sL_skill_28, sL_skill_29, sL_skill_30, sL_skill_31, sL_skill_32, sL_skill_33, sL_skill_34, sL_skill_36, sL_skill_37, hD, true_and, and_true, true_or, or_true, eq_self, ↓reduceIte, if_true, if_false, nI_add, nI_mul, inB_nI, nI_clamp, Nat.add_zero, eqI, ltI, leI, m6_ne, ne_m6, Nat.reduceEqDiff, reduceCtorEq, Nat.reduceLT, Nat.reduceLeDiff, Nat.reduceAdd, Nat.reduceMul, Nat.zero_add, Nat.mul_zero, nar_0, nar_1, nar_b, bI_t, bI_f, bI_0, bI_1, Bool.true_eq_false, Bool.false_eq_true, Bool.and_self, Bool.and_false, Bool.false_and, Bool.true_and, Bool.and_true, and_self, l_t, e2, e1, hne, l_s, q5, idivI, dv, q6, n100, not_false_eq_true]
  · obtain ⟨q6, -, -⟩ := g2 h
    obtain rfl : n = s := by omega
    simp (disch := omega) only [sL_skill_0, sL_skill_2, sL_skill_3, sL_skill_4, sL_skill_5, sL_skill_6, sL_skill_7, sL_skill_8, sL_skill_9, sL_skill_10, sL_skill_11, sL_skill_12, sL_skill_13, sL_skill_14, sL_skill_15, sL_skill_18, sL_skill_19, sL_skill_22, sL_skill_23, sL_skill_24, sL_skill_26, sL_skill_27, sL_skill_28, sL_skill_29, sL_skill_30, sL_skill_31, sL_skill_32, sL_skill_33, sL_skill_34, sL_skill_36, sL_skill_37, hD, true_and, and_true, true_or, or_true, eq_self, ↓reduceIte, if_true, if_false, nI_add, nI_mul, inB_nI, nI_clamp, Nat.add_zero, eqI, ltI, leI, m6_ne, ne_m6, Nat.reduceEqDiff, reduceCtorEq, Nat.reduceLT, Nat.reduceLeDiff, Nat.reduceAdd, Nat.reduceMul, Nat.zero_add, Nat.mul_zero, nar_0, nar_1, nar_b, bI_t, bI_f, bI_0, bI_1, Bool.true_eq_false, Bool.false_eq_true, Bool.and_self, Bool.and_false, Bool.false_and, Bool.true_and, Bool.and_true, and_self, l_t, e2, e1, q6]
theorem y_part (hD : IsL D a) (hW : WF f nF nT) (h7 : nT ≤ 7) (hP : Pk m (a + 2) f nT) (ht : t < nT) : Runs ML_part 0 [.int (nI t), .ref (a + 2), vJ] [] D (lM m a f) z Q = Q (.int (ptF f t)) D (lM m a f) z := by
  simp only [IsL] at hD
  obtain ⟨n, s, ⟨e2, e1⟩, ⟨l1, l2, l3⟩, g1, g2⟩ := th_L hW hP ht
  by_cases h : n < s
  · obtain ⟨sk, wk, pt, ⟨q1, q2, q3, q4⟩, q5, -, -, q6⟩ := g1 h
    have hne : ¬ n = s := by omega
    have dv : (100 * sk + 10 * wk + pt) % 10 = pt := by omega
    by_cases hp : pt = 0
    · have e : ptF f t = m1 := by unfold ptF; rw [q6, if_pos hp, if_pos rfl]
      have e9 : nI pt - nI 1 = m1 := by rw [hp]; exact i0m1
      simp (disch := omega) only [sL_part_0, sL_part_2, sL_part_3, sL_part_4, sL_part_5, sL_part_6, sL_part_7, sL_part_8, sL_part_9, sL_part_10, sL_part_11, sL_part_12, sL_part_13, sL_part_14, sL_part_15, sL_part_18, sL_part_19, sL_part_22, sL_part_23, sL_part_24, sL_part_26, sL_part_27, sL_part_28, sL_part_29, sL_part_30, sL_part_31, sL_part_32, sL_part_33, sL_part_34, sL_part_36, sL_part_37, sL_part_38, sL_part_39, hD, true_and, and_true, true_or, or_true, eq_self, ↓reduceIte, if_true, if_false, nI_add, nI_mul, inB_nI, nI_clamp, Nat.add_zero, eqI, ltI, leI, m6_ne, ne_m6, Nat.reduceEqDiff, reduceCtorEq, Nat.reduceLT, Nat.reduceLeDiff, Nat.reduceAdd, Nat.reduceMul, Nat.zero_add, Nat.mul_zero, nar_0, nar_1, nar_b, bI_t, bI_f, bI_0, bI_1, Bool.true_eq_false, Bool.false_eq_true, Bool.and_self, Bool.and_false, Bool.false_and, Bool.true_and, Bool.and_true, and_self, l_t, e2, e1, hne, l_s, q5, iremI, dv, n10, not_false_eq_true, e9, e]
    · have e : ptF f t = nI (pt - 1) := by unfold ptF; rw [q6, if_neg hp, if_neg (nI_nm6 (by omega))]
      simp (disch := omega) only [sL_part_0, sL_part_2, sL_part_3, sL_part_4, sL_part_5, sL_part_6, sL_part_7, sL_part_8, sL_part_9, sL_part_10, sL_part_11, sL_part_12, sL_part_13, sL_part_14, sL_part_15, sL_part_18, sL_part_19, sL_part_22, sL_part_23, sL_part_24, sL_part_26, sL_part_27, sL_part_28, sL_part_29, sL_part_30, sL_part_31, sL_part_32, sL_part_33, sL_part_34, sL_part_36, sL_part_37, sL_part_38, sL_part_39, hD, true_and, and_true, true_or, or_true, eq_self, ↓reduceIte, if_true, if_false, nI_add, nI_mul, inB_nI, nI_clamp, Nat.add_zero, eqI, ltI, leI, m6_ne, ne_m6, Nat.reduceEqDiff, reduceCtorEq, Nat.reduceLT, Nat.reduceLeDiff, Nat.reduceAdd, Nat.reduceMul, Nat.zero_add, Nat.mul_zero, nar_0, nar_1, nar_b, bI_t, bI_f, bI_0, bI_1, Bool.true_eq_false, Bool.false_eq_true, Bool.and_self, Bool.and_false, Bool.false_and, Bool.true_and, Bool.and_true, and_self, l_t, e2, e1, hne, l_s, q5, iremI, dv, n10, not_false_eq_true, nI_sub, e]
  · obtain ⟨-, -, q6⟩ := g2 h
    obtain rfl : n = s := by omega
    have e : ptF f t = m1 := by unfold ptF; rw [q6, if_pos rfl]
    simp (disch := omega) only [sL_part_0, sL_part_2, sL_part_3, sL_part_4, sL_part_5, sL_part_6, sL_part_7, sL_part_8, sL_part_9, sL_part_10, sL_part_11, sL_part_12, sL_part_13, sL_part_14, sL_part_15, sL_part_18, sL_part_19, sL_part_22, sL_part_23, sL_part_24, sL_part_26, sL_part_27, sL_part_28, sL_part_29, sL_part_30, sL_part_31, sL_part_32, sL_part_33, sL_part_34, sL_part_36, sL_part_37, sL_part_38, sL_part_39, hD, true_and, and_true, true_or, or_true, eq_self, ↓reduceIte, if_true, if_false, nI_add, nI_mul, inB_nI, nI_clamp, Nat.add_zero, eqI, ltI, leI, m6_ne, ne_m6, Nat.reduceEqDiff, reduceCtorEq, Nat.reduceLT, Nat.reduceLeDiff, Nat.reduceAdd, Nat.reduceMul, Nat.zero_add, Nat.mul_zero, nar_0, nar_1, nar_b, bI_t, bI_f, bI_0, bI_1, Bool.true_eq_false, Bool.false_eq_true, Bool.and_self, Bool.and_false, Bool.false_and, Bool.true_and, Bool.and_true, and_self, l_t, e2, e1, e]
theorem y_open (hD : IsL D a) (hW : WF f nF nT) (h7 : nT ≤ 7) (hP : Pk m (a + 2) f nT) (ht : t < nT) : Runs ML_open 0 [.int (nI t), .ref a, .ref (a + 2)] [] D (lM m a f) z Q = Q (.int (bI (wwpF f t))) D (lM m a f) z := by
  have yp := fun Q => y_part (z := z) (Q := Q) hD hW h7 hP ht
  simp only [IsL] at hD
  unfold wwpF
  by_cases h0 : gT f t 0 = nI 0
  · have b0 : (gT f t 0 == nI 0) = true := by rw [h0]; exact beq_self_eq_true _
    rw [b0, Bool.true_and]
    rcases (hW.2.2.1 t ht).okT.2 with e | ⟨k, hk, e⟩
    · have ep : ptF f t = m1 := by unfold ptF; rw [e, if_pos rfl]
      have ei : inStF f (nsF f t 2) = true := by rw [e]; simp [inStF]
      rw [ep] at yp
      rw [ei]
      simp (disch := omega) only [sL_open_0, sL_open_1, sL_open_3, sL_open_4, sL_open_5, sL_open_6, sL_open_9, sL_open_10, sL_open_11, sL_open_14, sL_open_17, sL_open_18, sL_open_20, sL_open_21, sL_open_22, sL_open_25, sL_open_26, sL_open_27, sL_open_30, sL_open_31, sL_open_34, sL_open_35, hD, true_and, and_true, true_or, or_true, eq_self, ↓reduceIte, if_true, if_false, nI_add, nI_mul, inB_nI, nI_clamp, Nat.add_zero, eqI, ltI, leI, m6_ne, ne_m6, Nat.reduceEqDiff, reduceCtorEq, Nat.reduceLT, Nat.reduceLeDiff, Nat.reduceAdd, Nat.reduceMul, Nat.zero_add, Nat.mul_zero, nar_0, nar_1, nar_b, bI_t, bI_f, bI_0, bI_1, Bool.true_eq_false, Bool.false_eq_true, Bool.and_self, Bool.and_false, Bool.false_and, Bool.true_and, Bool.and_true, and_self, l_t0, h0, yp, m1_lt]
    · have ep : ptF f t = nI k := by unfold ptF; rw [e, if_neg (nI_nm6 (by omega))]
      have ei : inStF f (nsF f t 2) = decide (nI 0 < gG f (6 + k)) := by
        rw [e]
        unfold inStF
        rw [nI_clamp (by omega), beq_eq_false_iff_ne.mpr (nI_nm6 (by omega)), Bool.false_or]
      have hn : ¬ k < 0 := Nat.not_lt_zero k
      rw [ep] at yp
      rw [ei]
      by_cases hq : gG f (6 + k) ≤ nI 0
      · have hq' : ¬ nI 0 < gG f (6 + k) := fun q => Int32.lt_irrefl (Int32.lt_of_lt_of_le q hq)
        rw [decide_eq_false hq']
        simp (disch := omega) only [sL_open_0, sL_open_1, sL_open_3, sL_open_4, sL_open_5, sL_open_6, sL_open_9, sL_open_10, sL_open_11, sL_open_14, sL_open_17, sL_open_18, sL_open_20, sL_open_21, sL_open_22, sL_open_25, sL_open_26, sL_open_27, sL_open_30, sL_open_31, sL_open_34, sL_open_35, hD, true_and, and_true, true_or, or_true, eq_self, ↓reduceIte, if_true, if_false, nI_add, nI_mul, inB_nI, nI_clamp, Nat.add_zero, eqI, ltI, leI, m6_ne, ne_m6, Nat.reduceEqDiff, reduceCtorEq, Nat.reduceLT, Nat.reduceLeDiff, Nat.reduceAdd, Nat.reduceMul, Nat.zero_add, Nat.mul_zero, nar_0, nar_1, nar_b, bI_t, bI_f, bI_0, bI_1, Bool.true_eq_false, Bool.false_eq_true, Bool.and_self, Bool.and_false, Bool.false_and, Bool.true_and, Bool.and_true, and_self, l_t0, h0, yp, hn, l_q, hq]
      · rw [decide_eq_true (Int32.not_le.mp hq)]
        simp (disch := omega) only [sL_open_0, sL_open_1, sL_open_3, sL_open_4, sL_open_5, sL_open_6, sL_open_9, sL_open_10, sL_open_11, sL_open_14, sL_open_17, sL_open_18, sL_open_20, sL_open_21, sL_open_22, sL_open_25, sL_open_26, sL_open_27, sL_open_30, sL_open_31, sL_open_34, sL_open_35, hD, true_and, and_true, true_or, or_true, eq_self, ↓reduceIte, if_true, if_false, nI_add, nI_mul, inB_nI, nI_clamp, Nat.add_zero, eqI, ltI, leI, m6_ne, ne_m6, Nat.reduceEqDiff, reduceCtorEq, Nat.reduceLT, Nat.reduceLeDiff, Nat.reduceAdd, Nat.reduceMul, Nat.zero_add, Nat.mul_zero, nar_0, nar_1, nar_b, bI_t, bI_f, bI_0, bI_1, Bool.true_eq_false, Bool.false_eq_true, Bool.and_self, Bool.and_false, Bool.false_and, Bool.true_and, Bool.and_true, and_self, l_t0, h0, yp, hn, l_q, hq]
  · have b0 : (gT f t 0 == nI 0) = false := by simp [h0]
    rw [b0, Bool.false_and]
    simp (disch := omega) only [sL_open_0, sL_open_1, sL_open_3, sL_open_4, sL_open_5, sL_open_6, sL_open_9, sL_open_10, sL_open_11, sL_open_14, sL_open_17, sL_open_18, sL_open_20, sL_open_21, sL_open_22, sL_open_25, sL_open_26, sL_open_27, sL_open_30, sL_open_31, sL_open_34, sL_open_35, hD, true_and, and_true, true_or, or_true, eq_self, ↓reduceIte, if_true, if_false, nI_add, nI_mul, inB_nI, nI_clamp, Nat.add_zero, eqI, ltI, leI, m6_ne, ne_m6, Nat.reduceEqDiff, reduceCtorEq, Nat.reduceLT, Nat.reduceLeDiff, Nat.reduceAdd, Nat.reduceMul, Nat.zero_add, Nat.mul_zero, nar_0, nar_1, nar_b, bI_t, bI_f, bI_0, bI_1, Bool.true_eq_false, Bool.false_eq_true, Bool.and_self, Bool.and_false, Bool.false_and, Bool.true_and, Bool.and_true, and_self, l_t0, h0]
theorem y_able (hD : IsL D a) (hW : WF f nF nT) (h5 : nF ≤ 5) (h7 : nT ≤ 7) (hP : Pk m (a + 2) f nT) (hi : i < nF) (ht : t < nT) : Runs ML_able 0 [.int (nI i), .int (nI t), .ref a, .ref (a + 1), .ref (a + 2)] [] D (lM m a f) z Q = Q (.int (bI (canF f i t))) D (lM m a f) z := by
  have yo := fun Q => y_open (z := z) (Q := Q) hD hW h7 hP ht
  have ys := fun Q => y_skill (z := z) (Q := Q) hD hW h7 hP ht
  have g2 := hW.1.1
  have hlt : ¬ nF ≤ i := by omega
  simp only [IsL] at hD
  unfold canF freeF
  obtain ⟨x3, x2⟩ := hW.2.2.2.1 i hi
  rcases x2 with x2 | x2
  · have b2 : (gF f i 2 == nI 1) = false := by rw [x2]; decide +kernel
    rw [b2, Bool.false_and, Bool.false_and]
    simp (disch := omega) only [sL_able_0, sL_able_1, sL_able_2, sL_able_3, sL_able_4, sL_able_7, sL_able_8, sL_able_10, sL_able_11, sL_able_12, sL_able_13, sL_able_14, sL_able_15, sL_able_18, sL_able_19, sL_able_21, sL_able_22, sL_able_23, sL_able_24, sL_able_25, sL_able_26, sL_able_29, sL_able_30, sL_able_31, sL_able_32, sL_able_33, sL_able_35, sL_able_38, sL_able_41, sL_able_42, sL_able_44, sL_able_45, sL_able_46, sL_able_47, sL_able_48, sL_able_50, sL_able_53, sL_able_54, sL_able_55, sL_able_56, sL_able_57, sL_able_60, sL_able_61, sL_able_64, sL_able_65, hD, true_and, and_true, true_or, or_true, eq_self, ↓reduceIte, if_true, if_false, nI_add, nI_mul, inB_nI, nI_clamp, Nat.add_zero, eqI, ltI, leI, m6_ne, ne_m6, Nat.reduceEqDiff, reduceCtorEq, Nat.reduceLT, Nat.reduceLeDiff, Nat.reduceAdd, Nat.reduceMul, Nat.zero_add, Nat.mul_zero, nar_0, nar_1, nar_b, bI_t, bI_f, bI_0, bI_1, Bool.true_eq_false, Bool.false_eq_true, Bool.and_self, Bool.and_false, Bool.false_and, Bool.true_and, Bool.and_true, and_self, l_q, g2, hlt, l_f, x2]
  · have b2 : (gF f i 2 == nI 1) = true := by rw [x2]; exact beq_self_eq_true _
    rw [b2, Bool.true_and]
    rcases x3 with x3 | ⟨u, hu, x3, -⟩
    · have b3 : (gF f i 3 == m6) = true := by rw [x3]; exact beq_self_eq_true _
      rw [b3, Bool.true_and]
      cases hw : wwpF f t
      · rw [hw] at yo
        rw [Bool.false_and]
        simp (disch := omega) only [sL_able_0, sL_able_1, sL_able_2, sL_able_3, sL_able_4, sL_able_7, sL_able_8, sL_able_10, sL_able_11, sL_able_12, sL_able_13, sL_able_14, sL_able_15, sL_able_18, sL_able_19, sL_able_21, sL_able_22, sL_able_23, sL_able_24, sL_able_25, sL_able_26, sL_able_29, sL_able_30, sL_able_31, sL_able_32, sL_able_33, sL_able_35, sL_able_38, sL_able_41, sL_able_42, sL_able_44, sL_able_45, sL_able_46, sL_able_47, sL_able_48, sL_able_50, sL_able_53, sL_able_54, sL_able_55, sL_able_56, sL_able_57, sL_able_60, sL_able_61, sL_able_64, sL_able_65, hD, true_and, and_true, true_or, or_true, eq_self, ↓reduceIte, if_true, if_false, nI_add, nI_mul, inB_nI, nI_clamp, Nat.add_zero, eqI, ltI, leI, m6_ne, ne_m6, Nat.reduceEqDiff, reduceCtorEq, Nat.reduceLT, Nat.reduceLeDiff, Nat.reduceAdd, Nat.reduceMul, Nat.zero_add, Nat.mul_zero, nar_0, nar_1, nar_b, bI_t, bI_f, bI_0, bI_1, Bool.true_eq_false, Bool.false_eq_true, Bool.and_self, Bool.and_false, Bool.false_and, Bool.true_and, Bool.and_true, and_self, l_q, g2, hlt, l_f, x2, x3, m6_lt0, yo, Nat.one_ne_zero]
      · rw [hw] at yo
        rw [Bool.true_and]
        unfold hasF
        by_cases hh : ((gF f i 0 >>> (nsF f t 0 &&& 31)) &&& nI 1) = nI 1
        · rw [hh, beq_self_eq_true]
          simp (disch := omega) only [sL_able_0, sL_able_1, sL_able_2, sL_able_3, sL_able_4, sL_able_7, sL_able_8, sL_able_10, sL_able_11, sL_able_12, sL_able_13, sL_able_14, sL_able_15, sL_able_18, sL_able_19, sL_able_21, sL_able_22, sL_able_23, sL_able_24, sL_able_25, sL_able_26, sL_able_29, sL_able_30, sL_able_31, sL_able_32, sL_able_33, sL_able_35, sL_able_38, sL_able_41, sL_able_42, sL_able_44, sL_able_45, sL_able_46, sL_able_47, sL_able_48, sL_able_50, sL_able_53, sL_able_54, sL_able_55, sL_able_56, sL_able_57, sL_able_60, sL_able_61, sL_able_64, sL_able_65, hD, true_and, and_true, true_or, or_true, eq_self, ↓reduceIte, if_true, if_false, nI_add, nI_mul, inB_nI, nI_clamp, Nat.add_zero, eqI, ltI, leI, m6_ne, ne_m6, Nat.reduceEqDiff, reduceCtorEq, Nat.reduceLT, Nat.reduceLeDiff, Nat.reduceAdd, Nat.reduceMul, Nat.zero_add, Nat.mul_zero, nar_0, nar_1, nar_b, bI_t, bI_f, bI_0, bI_1, Bool.true_eq_false, Bool.false_eq_true, Bool.and_self, Bool.and_false, Bool.false_and, Bool.true_and, Bool.and_true, and_self, l_q, g2, hlt, l_f, l_f0, x2, x3, m6_lt0, yo, ys, hh, Nat.one_ne_zero]
        · rw [beq_eq_false_iff_ne.mpr hh]
          simp (disch := omega) only [sL_able_0, sL_able_1, sL_able_2, sL_able_3, sL_able_4, sL_able_7, sL_able_8, sL_able_10, sL_able_11, sL_able_12, sL_able_13, sL_able_14, sL_able_15, sL_able_18, sL_able_19, sL_able_21, sL_able_22, sL_able_23, sL_able_24, sL_able_25, sL_able_26, sL_able_29, sL_able_30, sL_able_31, sL_able_32, sL_able_33, sL_able_35, sL_able_38, sL_able_41, sL_able_42, sL_able_44, sL_able_45, sL_able_46, sL_able_47, sL_able_48, sL_able_50, sL_able_53, sL_able_54, sL_able_55, sL_able_56, sL_able_57, sL_able_60, sL_able_61, sL_able_64, sL_able_65, hD, true_and, and_true, true_or, or_true, eq_self, ↓reduceIte, if_true, if_false, nI_add, nI_mul, inB_nI, nI_clamp, Nat.add_zero, eqI, ltI, leI, m6_ne, ne_m6, Nat.reduceEqDiff, reduceCtorEq, Nat.reduceLT, Nat.reduceLeDiff, Nat.reduceAdd, Nat.reduceMul, Nat.zero_add, Nat.mul_zero, nar_0, nar_1, nar_b, bI_t, bI_f, bI_0, bI_1, Bool.true_eq_false, Bool.false_eq_true, Bool.and_self, Bool.and_false, Bool.false_and, Bool.true_and, Bool.and_true, and_self, l_q, g2, hlt, l_f, l_f0, x2, x3, m6_lt0, yo, ys, hh, Nat.one_ne_zero]
    · have b3 : (gF f i 3 == m6) = false := by rw [x3]; exact beq_eq_false_iff_ne.mpr (nI_nm6 (by omega))
      have hn : ¬ u < 0 := Nat.not_lt_zero u
      rw [b3, Bool.false_and]
      simp (disch := omega) only [sL_able_0, sL_able_1, sL_able_2, sL_able_3, sL_able_4, sL_able_7, sL_able_8, sL_able_10, sL_able_11, sL_able_12, sL_able_13, sL_able_14, sL_able_15, sL_able_18, sL_able_19, sL_able_21, sL_able_22, sL_able_23, sL_able_24, sL_able_25, sL_able_26, sL_able_29, sL_able_30, sL_able_31, sL_able_32, sL_able_33, sL_able_35, sL_able_38, sL_able_41, sL_able_42, sL_able_44, sL_able_45, sL_able_46, sL_able_47, sL_able_48, sL_able_50, sL_able_53, sL_able_54, sL_able_55, sL_able_56, sL_able_57, sL_able_60, sL_able_61, sL_able_64, sL_able_65, hD, true_and, and_true, true_or, or_true, eq_self, ↓reduceIte, if_true, if_false, nI_add, nI_mul, inB_nI, nI_clamp, Nat.add_zero, eqI, ltI, leI, m6_ne, ne_m6, Nat.reduceEqDiff, reduceCtorEq, Nat.reduceLT, Nat.reduceLeDiff, Nat.reduceAdd, Nat.reduceMul, Nat.zero_add, Nat.mul_zero, nar_0, nar_1, nar_b, bI_t, bI_f, bI_0, bI_1, Bool.true_eq_false, Bool.false_eq_true, Bool.and_self, Bool.and_false, Bool.false_and, Bool.true_and, Bool.and_true, and_self, l_q, g2, hlt, l_f, x2, x3, hn, Nat.one_ne_zero]
theorem y_take (hD : IsL D a) (hW : WF f nF nT) (h5 : nF ≤ 5) (h7 : nT ≤ 7) (hP : Pk m (a + 2) f nT) (hi : i < nF) (ht : t < nT) : Runs ML_take 0 [.int (nI i), .int (nI t), .ref a, .ref (a + 1), .ref (a + 2), vJ, vJ] [] D (lM m a f) z Q = Q vJ D (lM m a (takesF f i t)) z := by
  have yp := fun Q => y_part (z := z) (Q := Q) hD hW h7 hP ht
  simp only [IsL] at hD
  have hok := (hW.2.2.1 t ht).okT.2
  obtain ⟨n, s, ⟨e2, e1⟩, ⟨l1, l2, l3⟩, g1, g2⟩ := th_L hW hP ht
  -- the work that is taken
  have go : ∀ g, (∀ k, k < 18 → gT g t k = gT f t k) → gG g 1 = gG f 1 → Runs ML_take 30 [.int (nI i), .int (nI t), .ref a, .ref (a + 1), .ref (a + 2), .int (ptF f t), .int (nI (9 * t))] [] D (lM m a g) z Q = Q vJ D (lM m a (sT (sT (sF (sF g i 3 (nI t)) i 4 (nsF f t 1)) t 0 (nI 1)) t 3 (nI 0))) z := by
    intro g hg hG
    have u2 : gT (sF g i 3 (nI t)) t 2 = nI n := by rw [gT_sF (by omega) (by decide), hg 2 (by decide)]; exact e2
    have u1 : gT (sF g i 3 (nI t)) t 1 = nI s := by rw [gT_sF (by omega) (by decide), hg 1 (by decide)]; exact e1
    have u0 : gG (sF g i 3 (nI t)) 1 = gG f 1 := by rw [gG_sF (Or.inl (by decide)) (by omega) (by decide)]; exact hG
    by_cases h : n < s
    · obtain ⟨sk, wk, pt, ⟨q1, q2, q3, q4⟩, q5, -, q6, -⟩ := g1 h
      have hne : ¬ n = s := by omega
      have dv : nI ((100 * sk + 10 * wk + pt) / 10) - nI ((100 * sk + 10 * wk + pt) / 10 / 10 * 10) = nI wk := by
        rw [nI_sub _ _ (by omega)]
        congr 1
        omega
      simp (disch := omega) only [sL_take_30, sL_take_31, sL_take_33, sL_take_34, sL_take_35, sL_take_36, sL_take_37, sL_take_38, sL_take_39, sL_take_40, sL_take_42, sL_take_43, sL_take_44, sL_take_45, sL_take_46, sL_take_48, sL_take_50, sL_take_51, sL_take_52, sL_take_53, sL_take_55, sL_take_57, sL_take_58, sL_take_59, sL_take_60, sL_take_63, sL_take_64, sL_take_65, sL_take_66, sL_take_69, sL_take_71, sL_take_73, sL_take_75, sL_take_76, sL_take_78, sL_take_80, sL_take_81, sL_take_82, sL_take_83, sL_take_84, sL_take_85, sL_take_87, sL_take_88, sL_take_90, sL_take_91, sL_take_92, sL_take_94, sL_take_96, sL_take_97, sL_take_98, sL_take_100, sL_take_102, sL_take_103, sL_take_104, sL_take_105, sL_take_106, hD, true_and, and_true, true_or, or_true, eq_self, ↓reduceIte, if_true, if_false, nI_add, nI_mul, inB_nI, nI_clamp, Nat.add_zero, eqI, ltI, leI, m6_ne, ne_m6, Nat.reduceEqDiff, reduceCtorEq, Nat.reduceLT, Nat.reduceLeDiff, Nat.reduceAdd, Nat.reduceMul, Nat.zero_add, Nat.mul_zero, nar_0, nar_1, nar_b, bI_t, bI_f, bI_0, bI_1, Bool.true_eq_false, Bool.false_eq_true, Bool.and_self, Bool.and_false, Bool.false_and, Bool.true_and, Bool.and_true, and_self, lw_f, l_t, u2, u1, hne, l_s, q5, idivI, dv, n10, not_false_eq_true, lw_t0, lw_t, q6]
    · obtain ⟨-, q6, -⟩ := g2 h
      obtain rfl : n = s := by omega
      simp (disch := omega) only [sL_take_30, sL_take_31, sL_take_33, sL_take_34, sL_take_35, sL_take_36, sL_take_37, sL_take_38, sL_take_39, sL_take_40, sL_take_42, sL_take_43, sL_take_44, sL_take_45, sL_take_46, sL_take_48, sL_take_50, sL_take_51, sL_take_52, sL_take_53, sL_take_55, sL_take_57, sL_take_58, sL_take_59, sL_take_60, sL_take_63, sL_take_64, sL_take_65, sL_take_66, sL_take_69, sL_take_71, sL_take_73, sL_take_75, sL_take_76, sL_take_78, sL_take_80, sL_take_81, sL_take_82, sL_take_83, sL_take_84, sL_take_85, sL_take_87, sL_take_88, sL_take_90, sL_take_91, sL_take_92, sL_take_94, sL_take_96, sL_take_97, sL_take_98, sL_take_100, sL_take_102, sL_take_103, sL_take_104, sL_take_105, sL_take_106, hD, true_and, and_true, true_or, or_true, eq_self, ↓reduceIte, if_true, if_false, nI_add, nI_mul, inB_nI, nI_clamp, Nat.add_zero, eqI, ltI, leI, m6_ne, ne_m6, Nat.reduceEqDiff, reduceCtorEq, Nat.reduceLT, Nat.reduceLeDiff, Nat.reduceAdd, Nat.reduceMul, Nat.zero_add, Nat.mul_zero, nar_0, nar_1, nar_b, bI_t, bI_f, bI_0, bI_1, Bool.true_eq_false, Bool.false_eq_true, Bool.and_self, Bool.and_false, Bool.false_and, Bool.true_and, Bool.and_true, and_self, lw_f, l_t, u2, u1, l_q, u0, lw_t0, lw_t, q6]
  have nf : takesF f i t = sT (sT (sF (sF (outP f (nsF f t 2)) i 3 (nI t)) i 4 (nsF f t 1)) t 0 (nI 1)) t 3 (nI 0) := by
    unfold takesF
    simp (disch := omega) only [n_FT]
  rw [nf]
  have ho := nsF_outP (f := f) (t := t) (w := 0) hok
  rcases hok with e | ⟨k, hk, e⟩
  · have ep : ptF f t = m1 := by unfold ptF; rw [e, if_pos rfl]
    have eo : outP f (nsF f t 2) = f := by unfold outP; rw [if_pos e]
    have g3 := go f (fun _ _ => rfl) rfl
    rw [ep] at yp g3
    rw [eo]
    simp (disch := omega) only [sL_take_0, sL_take_1, sL_take_3, sL_take_6, sL_take_8, sL_take_10, sL_take_11, sL_take_12, sL_take_14, sL_take_16, sL_take_19, sL_take_20, sL_take_22, sL_take_24, sL_take_25, sL_take_26, sL_take_27, sL_take_28, sL_take_29, true_and, and_true, true_or, or_true, eq_self, ↓reduceIte, if_true, if_false, nI_add, nI_mul, inB_nI, nI_clamp, Nat.add_zero, eqI, ltI, leI, m6_ne, ne_m6, Nat.reduceEqDiff, reduceCtorEq, Nat.reduceLT, Nat.reduceLeDiff, Nat.reduceAdd, Nat.reduceMul, Nat.zero_add, Nat.mul_zero, nar_0, nar_1, nar_b, bI_t, bI_f, bI_0, bI_1, Bool.true_eq_false, Bool.false_eq_true, Bool.and_self, Bool.and_false, Bool.false_and, Bool.true_and, Bool.and_true, and_self, yp, m1_lt, g3]
  · have ep : ptF f t = nI k := by unfold ptF; rw [e, if_neg (nI_nm6 (by omega))]
    have eo : outP f (nsF f t 2) = sG f (6 + k) (gG f (6 + k) - nI 1) := by unfold outP; rw [if_neg (by rw [e]; exact nI_nm6 (by omega)), e, nI_clamp (by omega)]
    have hn : ¬ k < 0 := Nat.not_lt_zero k
    have g3 := go (sG f (6 + k) (gG f (6 + k) - nI 1)) (fun j _ => gT_sG0 (by omega)) (gG_sGk (by omega))
    rw [ep] at yp g3
    rw [eo]
    simp (disch := omega) only [sL_take_0, sL_take_1, sL_take_3, sL_take_6, sL_take_8, sL_take_10, sL_take_11, sL_take_12, sL_take_14, sL_take_16, sL_take_19, sL_take_20, sL_take_22, sL_take_24, sL_take_25, sL_take_26, sL_take_27, sL_take_28, sL_take_29, hD, true_and, and_true, true_or, or_true, eq_self, ↓reduceIte, if_true, if_false, nI_add, nI_mul, inB_nI, nI_clamp, Nat.add_zero, eqI, ltI, leI, m6_ne, ne_m6, Nat.reduceEqDiff, reduceCtorEq, Nat.reduceLT, Nat.reduceLeDiff, Nat.reduceAdd, Nat.reduceMul, Nat.zero_add, Nat.mul_zero, nar_0, nar_1, nar_b, bI_t, bI_f, bI_0, bI_1, Bool.true_eq_false, Bool.false_eq_true, Bool.and_self, Bool.and_false, Bool.false_and, Bool.true_and, Bool.and_true, and_self, yp, hn, l_q, lw_q, g3]
theorem y_states (hD : IsL D a) (hW : WF f nF nT) (h7 : nT ≤ 7) {h : Int32} : Runs ML_states 0 [.int h, .ref a, .ref (a + 2), vJ, vJ] [] D (lM m a f) z Q = Q (.int (nI (cntS f h nT))) D (lM m a f) z := by
  simp only [IsL] at hD
  have g3 := hW.1.2.2.1
  have lp : ∀ k i, i + k = nT → Runs ML_states 5 [.int h, .ref a, .ref (a + 2), .int (nI (cntS f h i)), .int (nI i)] [] D (lM m a f) z Q = Q (.int (nI (cntS f h nT))) D (lM m a f) z := by
    intro k
    induction k with
    | zero =>
      intro i hi
      obtain rfl : i = nT := by omega
      rw [sL_states_5]
      simp (disch := omega) only [sL_states_7, sL_states_8, sL_states_9, sL_states_10, sL_states_13, sL_states_14, sL_states_15, sL_states_17, sL_states_19, sL_states_20, sL_states_21, sL_states_22, sL_states_25, sL_states_26, sL_states_29, sL_states_30, sL_states_31, sL_states_32, sL_states_35, sL_states_38, sL_states_39, hD, true_and, and_true, true_or, or_true, eq_self, ↓reduceIte, if_true, if_false, nI_add, nI_mul, inB_nI, nI_clamp, Nat.add_zero, eqI, ltI, leI, m6_ne, ne_m6, Nat.reduceEqDiff, reduceCtorEq, Nat.reduceLT, Nat.reduceLeDiff, Nat.reduceAdd, Nat.reduceMul, Nat.zero_add, Nat.mul_zero, nar_0, nar_1, nar_b, bI_t, bI_f, bI_0, bI_1, Bool.true_eq_false, Bool.false_eq_true, Bool.and_self, Bool.and_false, Bool.false_and, Bool.true_and, Bool.and_true, and_self, l_q, g3, Nat.le_refl]
    | succ k ih =>
      intro i hi
      have ih := ih (i + 1) (by omega)
      have hlt : ¬ nT ≤ i := by omega
      simp only [cntS] at ih
      rw [sL_states_5]
      by_cases hs : gT f i 0 = h
      · rw [if_pos hs] at ih
        simp (disch := omega) only [sL_states_7, sL_states_8, sL_states_9, sL_states_10, sL_states_13, sL_states_14, sL_states_15, sL_states_17, sL_states_19, sL_states_20, sL_states_21, sL_states_22, sL_states_25, sL_states_26, sL_states_29, sL_states_30, sL_states_31, sL_states_32, sL_states_35, sL_states_38, sL_states_39, hD, true_and, and_true, true_or, or_true, eq_self, ↓reduceIte, if_true, if_false, nI_add, nI_mul, inB_nI, nI_clamp, Nat.add_zero, eqI, ltI, leI, m6_ne, ne_m6, Nat.reduceEqDiff, reduceCtorEq, Nat.reduceLT, Nat.reduceLeDiff, Nat.reduceAdd, Nat.reduceMul, Nat.zero_add, Nat.mul_zero, nar_0, nar_1, nar_b, bI_t, bI_f, bI_0, bI_1, Bool.true_eq_false, Bool.false_eq_true, Bool.and_self, Bool.and_false, Bool.false_and, Bool.true_and, Bool.and_true, and_self, l_q, g3, hlt, l_t0, hs, ih]
      · rw [if_neg hs, show cntS f h i + 0 = cntS f h i from rfl] at ih
        simp (disch := omega) only [sL_states_7, sL_states_8, sL_states_9, sL_states_10, sL_states_13, sL_states_14, sL_states_15, sL_states_17, sL_states_19, sL_states_20, sL_states_21, sL_states_22, sL_states_25, sL_states_26, sL_states_29, sL_states_30, sL_states_31, sL_states_32, sL_states_35, sL_states_38, sL_states_39, hD, true_and, and_true, true_or, or_true, eq_self, ↓reduceIte, if_true, if_false, nI_add, nI_mul, inB_nI, nI_clamp, Nat.add_zero, eqI, ltI, leI, m6_ne, ne_m6, Nat.reduceEqDiff, reduceCtorEq, Nat.reduceLT, Nat.reduceLeDiff, Nat.reduceAdd, Nat.reduceMul, Nat.zero_add, Nat.mul_zero, nar_0, nar_1, nar_b, bI_t, bI_f, bI_0, bI_1, Bool.true_eq_false, Bool.false_eq_true, Bool.and_self, Bool.and_false, Bool.false_and, Bool.true_and, Bool.and_true, and_self, l_q, g3, hlt, l_t0, hs, ih]
  have l0 := lp nT 0 (by omega)
  simp only [cntS] at l0
  simp (disch := omega) only [sL_states_0, sL_states_1, sL_states_2, sL_states_3, l0]
end LSM
