/-! one slot of the class's morning; counting things -/
section CLS5
variable {D : vDD} {m : vMM} {f c : Nat → Int32} {z : vZZ} {Q : Value → vDD → vMM → vZZ → Prop} {nF nT b : Nat}
theorem l_pass1 (hB : IsM D b) (hW : WF f nF nT) : ∀ k i c, i + k = nF → Rfc (lpF workF i f) c nF nT → ∃ c', Rfc (lpF workF nF f) c' nF nT ∧ ∀ Q, Runs MX2_letOnePass 2 [.ref b, .int (nI i)] [] D (bM m b c) z Q = Runs MX2_letOnePass 28 [.ref b, .int (nI 0)] [] D (bM m b c') z Q := by
  have hb := hB
  simp only [IsM] at hb
  have h8 := hW.1.2.1
  intro k
  induction k with
  | zero =>
    intro i c hi hR
    obtain rfl : i = nF := by omega
    have w : WF (lpF workF i f) i nT := hW.lpi (fun j hj f' h' => h'.work hj) i (Nat.le_refl _)
    have e2 : gG c 2 = nI i := (hR.1 2 (by decide)).trans w.1.1
    refine ⟨c, hR, fun Q => ?_⟩
    rw [sX2_letOnePass_2]
    simp (disch := omega) only [sX2_letOnePass_3, sX2_letOnePass_4, sX2_letOnePass_7, sX2_letOnePass_10, sX2_letOnePass_11, sX2_letOnePass_12, sX2_letOnePass_15, sX2_letOnePass_16, sX2_letOnePass_17, sX2_letOnePass_20, sX2_letOnePass_23, sX2_letOnePass_26, sX2_letOnePass_27, hb, true_and, and_true, true_or, or_true, eq_self, ↓reduceIte, if_true, if_false, nI_add, nI_mul, inB_nI, nI_clamp, Nat.add_zero, eqI, ltI, leI, m6_ne, ne_m6, Nat.reduceEqDiff, reduceCtorEq, Nat.reduceLT, Nat.reduceLeDiff, Nat.reduceAdd, Nat.reduceMul, Nat.zero_add, Nat.mul_zero, nar_0, nar_1, nar_b, bI_t, bI_f, bI_0, bI_1, Bool.true_eq_false, Bool.false_eq_true, Bool.and_self, Bool.and_false, Bool.false_and, Bool.true_and, Bool.and_true, and_self, b_nF, e2, Nat.le_refl]
  | succ k ih =>
    intro i c hi hR
    have hlt : ¬ nF ≤ i := by omega
    have w : WF (lpF workF i f) nF nT := hW.lpi (fun j hj f' h' => h'.work hj) i (by omega)
    have e2 : gG c 2 = nI nF := (hR.1 2 (by decide)).trans w.1.1
    obtain ⟨c1, r1, x1⟩ := x_work (D := D) (m := m) (z := z) hB hR w (i := i) (by omega)
    obtain ⟨c', r2, x2⟩ := ih (i + 1) c1 (by omega) r1
    refine ⟨c', r2, fun Q => ?_⟩
    rw [sX2_letOnePass_2]
    simp (disch := omega) only [sX2_letOnePass_3, sX2_letOnePass_4, sX2_letOnePass_7, sX2_letOnePass_10, sX2_letOnePass_11, sX2_letOnePass_12, sX2_letOnePass_15, sX2_letOnePass_16, sX2_letOnePass_17, sX2_letOnePass_20, sX2_letOnePass_23, sX2_letOnePass_26, sX2_letOnePass_27, hb, true_and, and_true, true_or, or_true, eq_self, ↓reduceIte, if_true, if_false, nI_add, nI_mul, inB_nI, nI_clamp, Nat.add_zero, eqI, ltI, leI, m6_ne, ne_m6, Nat.reduceEqDiff, reduceCtorEq, Nat.reduceLT, Nat.reduceLeDiff, Nat.reduceAdd, Nat.reduceMul, Nat.zero_add, Nat.mul_zero, nar_0, nar_1, nar_b, bI_t, bI_f, bI_0, bI_1, Bool.true_eq_false, Bool.false_eq_true, Bool.and_self, Bool.and_false, Bool.false_and, Bool.true_and, Bool.and_true, and_self, b_nF, e2, hlt, x1, x2]
theorem l_pass2 (hB : IsM D b) (hW : WF f nF nT) : ∀ k i c, i + k = nF → Rfc (lpF (takeF nT) i f) c nF nT → ∃ c', Rfc (lpF (takeF nT) nF f) c' nF nT ∧ ∀ Q, Runs MX2_letOnePass 28 [.ref b, .int (nI i)] [] D (bM m b c) z Q = Runs MX2_letOnePass 80 [.ref b, .int (nI 0)] [] D (bM m b c') z Q := by
  have hb := hB
  simp only [IsM] at hb
  have h8 := hW.1.2.1
  have h16 := hW.1.2.2.2
  intro k
  induction k with
  | zero =>
    intro i c hi hR
    obtain rfl : i = nF := by omega
    have w : WF (lpF (takeF nT) i f) i nT := hW.lpi (fun j hj f' h' => h'.take hj) i (Nat.le_refl _)
    have e2 : gG c 2 = nI i := (hR.1 2 (by decide)).trans w.1.1
    refine ⟨c, hR, fun Q => ?_⟩
    rw [sX2_letOnePass_28]
    simp (disch := omega) only [sX2_letOnePass_29, sX2_letOnePass_30, sX2_letOnePass_33, sX2_letOnePass_36, sX2_letOnePass_37, sX2_letOnePass_40, sX2_letOnePass_41, sX2_letOnePass_42, sX2_letOnePass_45, sX2_letOnePass_48, sX2_letOnePass_49, sX2_letOnePass_50, sX2_letOnePass_53, sX2_letOnePass_54, sX2_letOnePass_55, sX2_letOnePass_56, sX2_letOnePass_57, sX2_letOnePass_60, sX2_letOnePass_61, sX2_letOnePass_62, sX2_letOnePass_65, sX2_letOnePass_68, sX2_letOnePass_71, sX2_letOnePass_72, sX2_letOnePass_75, sX2_letOnePass_78, sX2_letOnePass_79, hb, true_and, and_true, true_or, or_true, eq_self, ↓reduceIte, if_true, if_false, nI_add, nI_mul, inB_nI, nI_clamp, Nat.add_zero, eqI, ltI, leI, m6_ne, ne_m6, Nat.reduceEqDiff, reduceCtorEq, Nat.reduceLT, Nat.reduceLeDiff, Nat.reduceAdd, Nat.reduceMul, Nat.zero_add, Nat.mul_zero, nar_0, nar_1, nar_b, bI_t, bI_f, bI_0, bI_1, Bool.true_eq_false, Bool.false_eq_true, Bool.and_self, Bool.and_false, Bool.false_and, Bool.true_and, Bool.and_true, and_self, b_nF, e2, Nat.le_refl]
  | succ k ih =>
    intro i c hi hR
    have hlt : ¬ nF ≤ i := by omega
    have w : WF (lpF (takeF nT) i f) nF nT := hW.lpi (fun j hj f' h' => h'.take hj) i (by omega)
    have e2 : gG c 2 = nI nF := (hR.1 2 (by decide)).trans w.1.1
    have es : lpF (takeF nT) (i + 1) f = takeF nT i (lpF (takeF nT) i f) := rfl
    have ih := fun c => ih (i + 1) c (by omega)
    rw [es] at ih
    generalize lpF (takeF nT) i f = g at hR w ih
    have ct : ∀ Q, Runs MX0_canTakeMore 0 [.ref (b + 4 + i)] [] D (bM m b c) z Q = Q (.int (bI (freeF g i))) D (bM m b c) z := fun Q => x_canTakeMore hB hR w (by omega)
    have e0 := hR.2.1 i (by omega) 0 (by decide)
    unfold takeF at ih
    cases hf : freeF g i
    · rw [hf] at ct ih
      rw [if_neg (by decide)] at ih
      obtain ⟨c', r2, x2⟩ := ih c hR
      refine ⟨c', r2, fun Q => ?_⟩
      rw [sX2_letOnePass_28]
      simp (disch := omega) only [sX2_letOnePass_29, sX2_letOnePass_30, sX2_letOnePass_33, sX2_letOnePass_36, sX2_letOnePass_37, sX2_letOnePass_40, sX2_letOnePass_41, sX2_letOnePass_42, sX2_letOnePass_45, sX2_letOnePass_48, sX2_letOnePass_49, sX2_letOnePass_50, sX2_letOnePass_53, sX2_letOnePass_54, sX2_letOnePass_55, sX2_letOnePass_56, sX2_letOnePass_57, sX2_letOnePass_60, sX2_letOnePass_61, sX2_letOnePass_62, sX2_letOnePass_65, sX2_letOnePass_68, sX2_letOnePass_71, sX2_letOnePass_72, sX2_letOnePass_75, sX2_letOnePass_78, sX2_letOnePass_79, hb, true_and, and_true, true_or, or_true, eq_self, ↓reduceIte, if_true, if_false, nI_add, nI_mul, inB_nI, nI_clamp, Nat.add_zero, eqI, ltI, leI, m6_ne, ne_m6, Nat.reduceEqDiff, reduceCtorEq, Nat.reduceLT, Nat.reduceLeDiff, Nat.reduceAdd, Nat.reduceMul, Nat.zero_add, Nat.mul_zero, nar_0, nar_1, nar_b, bI_t, bI_f, bI_0, bI_1, Bool.true_eq_false, Bool.false_eq_true, Bool.and_self, Bool.and_false, Bool.false_and, Bool.true_and, Bool.and_true, and_self, b_nF, e2, hlt, ct, x2]
    · have lw : ∀ Q, Runs MX2_longestWaiting 0 [.ref b, .int (gF g i 0), vJ, vJ, vJ] [] D (bM m b c) z Q = Q (.int (lgF g i nT)) D (bM m b c) z := fun Q => x_longest hB hR w (by omega) hf
      rw [hf] at ct ih
      rw [if_pos rfl] at ih
      rcases lgF_spec (f := g) (i := i) nT with hm | ⟨t, ht, hm, hc⟩
      · rw [if_pos hm] at ih
        rw [hm] at lw
        obtain ⟨c', r2, x2⟩ := ih c hR
        have tn : ∀ Q, Runs MX2_takeIfInStock 0 [.ref b, .ref (b + 4 + i), .int m6, vJ] [] D (bM m b c) z Q = Q (.int (nI 0)) D (bM m b c) z := fun Q => x_take_none hB hR w
        refine ⟨c', r2, fun Q => ?_⟩
        rw [sX2_letOnePass_28]
        simp (disch := omega) only [sX2_letOnePass_29, sX2_letOnePass_30, sX2_letOnePass_33, sX2_letOnePass_36, sX2_letOnePass_37, sX2_letOnePass_40, sX2_letOnePass_41, sX2_letOnePass_42, sX2_letOnePass_45, sX2_letOnePass_48, sX2_letOnePass_49, sX2_letOnePass_50, sX2_letOnePass_53, sX2_letOnePass_54, sX2_letOnePass_55, sX2_letOnePass_56, sX2_letOnePass_57, sX2_letOnePass_60, sX2_letOnePass_61, sX2_letOnePass_62, sX2_letOnePass_65, sX2_letOnePass_68, sX2_letOnePass_71, sX2_letOnePass_72, sX2_letOnePass_75, sX2_letOnePass_78, sX2_letOnePass_79, hb, true_and, and_true, true_or, or_true, eq_self, ↓reduceIte, if_true, if_false, nI_add, nI_mul, inB_nI, nI_clamp, Nat.add_zero, eqI, ltI, leI, m6_ne, ne_m6, Nat.reduceEqDiff, reduceCtorEq, Nat.reduceLT, Nat.reduceLeDiff, Nat.reduceAdd, Nat.reduceMul, Nat.zero_add, Nat.mul_zero, nar_0, nar_1, nar_b, bI_t, bI_f, bI_0, bI_1, Bool.true_eq_false, Bool.false_eq_true, Bool.and_self, Bool.and_false, Bool.false_and, Bool.true_and, Bool.and_true, and_self, b_nF, e2, hlt, ct, b_F, e0, lw, tn, x2]
      · rw [if_neg (by rw [hm]; exact nI_nm6 (by omega)), hm, nI_clamp (by omega)] at ih
        rw [hm] at lw
        obtain ⟨c1, r1, x1⟩ := x_take (D := D) (m := m) (z := z) hB hR w (i := i) (t := t) (by omega) ht
        have hst : inStF g (nsF g t 2) = true := by
          unfold canF wwpF at hc
          simp only [Bool.and_eq_true] at hc
          exact hc.2.1.2
        simp only [hst, if_true] at x1
        obtain ⟨c', r2, x2⟩ := ih c1 r1
        refine ⟨c', r2, fun Q => ?_⟩
        rw [sX2_letOnePass_28]
        simp (disch := omega) only [sX2_letOnePass_29, sX2_letOnePass_30, sX2_letOnePass_33, sX2_letOnePass_36, sX2_letOnePass_37, sX2_letOnePass_40, sX2_letOnePass_41, sX2_letOnePass_42, sX2_letOnePass_45, sX2_letOnePass_48, sX2_letOnePass_49, sX2_letOnePass_50, sX2_letOnePass_53, sX2_letOnePass_54, sX2_letOnePass_55, sX2_letOnePass_56, sX2_letOnePass_57, sX2_letOnePass_60, sX2_letOnePass_61, sX2_letOnePass_62, sX2_letOnePass_65, sX2_letOnePass_68, sX2_letOnePass_71, sX2_letOnePass_72, sX2_letOnePass_75, sX2_letOnePass_78, sX2_letOnePass_79, hb, true_and, and_true, true_or, or_true, eq_self, ↓reduceIte, if_true, if_false, nI_add, nI_mul, inB_nI, nI_clamp, Nat.add_zero, eqI, ltI, leI, m6_ne, ne_m6, Nat.reduceEqDiff, reduceCtorEq, Nat.reduceLT, Nat.reduceLeDiff, Nat.reduceAdd, Nat.reduceMul, Nat.zero_add, Nat.mul_zero, nar_0, nar_1, nar_b, bI_t, bI_f, bI_0, bI_1, Bool.true_eq_false, Bool.false_eq_true, Bool.and_self, Bool.and_false, Bool.false_and, Bool.true_and, Bool.and_true, and_self, b_nF, e2, hlt, ct, b_F, e0, lw, x1, x2]
theorem l_pass3 (hB : IsM D b) (hW : WF f nF nT) : ∀ k i c, i + k = nT → Rfc (lpF waitF i f) c nF nT → ∃ c', Rfc (lpF waitF nT f) c' nF nT ∧ ∀ Q, Runs MX2_letOnePass 80 [.ref b, .int (nI i)] [] D (bM m b c) z Q = Runs MX2_letOnePass 104 [.ref b, .int (nI nT)] [] D (bM m b c') z Q := by
  have hb := hB
  simp only [IsM] at hb
  have h16 := hW.1.2.2.2
  intro k
  induction k with
  | zero =>
    intro i c hi hR
    obtain rfl : i = nT := by omega
    have w : WF (lpF waitF i f) nF i := hW.lpi (fun j hj f' h' => h'.wait hj) i (Nat.le_refl _)
    have e3 : gG c 3 = nI i := (hR.1 3 (by decide)).trans w.1.2.2.1
    refine ⟨c, hR, fun Q => ?_⟩
    rw [sX2_letOnePass_80]
    simp (disch := omega) only [sX2_letOnePass_81, sX2_letOnePass_82, sX2_letOnePass_85, sX2_letOnePass_88, sX2_letOnePass_89, sX2_letOnePass_90, sX2_letOnePass_93, sX2_letOnePass_94, sX2_letOnePass_95, sX2_letOnePass_98, sX2_letOnePass_101, hb, true_and, and_true, true_or, or_true, eq_self, ↓reduceIte, if_true, if_false, nI_add, nI_mul, inB_nI, nI_clamp, Nat.add_zero, eqI, ltI, leI, m6_ne, ne_m6, Nat.reduceEqDiff, reduceCtorEq, Nat.reduceLT, Nat.reduceLeDiff, Nat.reduceAdd, Nat.reduceMul, Nat.zero_add, Nat.mul_zero, nar_0, nar_1, nar_b, bI_t, bI_f, bI_0, bI_1, Bool.true_eq_false, Bool.false_eq_true, Bool.and_self, Bool.and_false, Bool.false_and, Bool.true_and, Bool.and_true, and_self, b_nT, e3, Nat.le_refl]
  | succ k ih =>
    intro i c hi hR
    have hlt : ¬ nT ≤ i := by omega
    have w : WF (lpF waitF i f) nF nT := hW.lpi (fun j hj f' h' => h'.wait hj) i (by omega)
    have e3 : gG c 3 = nI nT := (hR.1 3 (by decide)).trans w.1.2.2.1
    obtain ⟨c1, r1, x1⟩ := x_waitOn (D := D) (m := m) (z := z) hB hR w (t := i) (by omega)
    obtain ⟨c', r2, x2⟩ := ih (i + 1) c1 (by omega) r1
    refine ⟨c', r2, fun Q => ?_⟩
    rw [sX2_letOnePass_80]
    simp (disch := omega) only [sX2_letOnePass_81, sX2_letOnePass_82, sX2_letOnePass_85, sX2_letOnePass_88, sX2_letOnePass_89, sX2_letOnePass_90, sX2_letOnePass_93, sX2_letOnePass_94, sX2_letOnePass_95, sX2_letOnePass_98, sX2_letOnePass_101, hb, true_and, and_true, true_or, or_true, eq_self, ↓reduceIte, if_true, if_false, nI_add, nI_mul, inB_nI, nI_clamp, Nat.add_zero, eqI, ltI, leI, m6_ne, ne_m6, Nat.reduceEqDiff, reduceCtorEq, Nat.reduceLT, Nat.reduceLeDiff, Nat.reduceAdd, Nat.reduceMul, Nat.zero_add, Nat.mul_zero, nar_0, nar_1, nar_b, bI_t, bI_f, bI_0, bI_1, Bool.true_eq_false, Bool.false_eq_true, Bool.and_self, Bool.and_false, Bool.false_and, Bool.true_and, Bool.and_true, and_self, b_nT, e3, hlt, x1, x2]
theorem x_slot (hB : IsM D b) (hR : Rfc f c nF nT) (hW : WF f nF nT) : ∃ c', Rfc (slotF f) c' nF nT ∧ ∀ Q, Runs MX2_letOnePass 0 [.ref b, vJ] [] D (bM m b c) z Q = Q vJ D (bM m b c') z := by
  have hb := hB
  simp only [IsM] at hb
  have h8 := hW.1.2.1
  have h16 := hW.1.2.2.2
  have w1 := hW.works
  have w2 := w1.takeAll
  have w3 := w2.waitOn
  obtain ⟨c1, r1, x1⟩ := l_pass1 (D := D) (m := m) (z := z) hB hW nF 0 c (by omega) hR
  have e1 : lpF workF nF f = worksF f := by unfold worksF; rw [hW.ns.1]
  rw [e1] at r1
  obtain ⟨c2, r2, x2⟩ := l_pass2 (D := D) (m := m) (z := z) hB w1 nF 0 c1 (by omega) r1
  have e2 : lpF (takeF nT) nF (worksF f) = takeAllF (worksF f) := by unfold takeAllF; rw [w1.ns.1, w1.ns.2]
  rw [e2] at r2
  obtain ⟨c3, r3, x3⟩ := l_pass3 (D := D) (m := m) (z := z) hB w2 nT 0 c2 (by omega) r2
  have e3 : lpF waitF nT (takeAllF (worksF f)) = waitOnF (takeAllF (worksF f)) := by unfold waitOnF; rw [w2.ns.2]
  rw [e3] at r3
  have e4 := r3.1 4 (by decide)
  refine ⟨_, r3.G (k := 4) (v := gG (waitOnF (takeAllF (worksF f))) 4 + nI 1) (by decide) h8 h16, fun Q => ?_⟩
  simp (disch := omega) only [sX2_letOnePass_0, sX2_letOnePass_1, hb, true_and, and_true, true_or, or_true, eq_self, ↓reduceIte, if_true, if_false, nI_add, nI_mul, inB_nI, nI_clamp, Nat.add_zero, eqI, ltI, leI, m6_ne, ne_m6, Nat.reduceEqDiff, reduceCtorEq, Nat.reduceLT, Nat.reduceLeDiff, Nat.reduceAdd, Nat.reduceMul, Nat.zero_add, Nat.mul_zero, nar_0, nar_1, nar_b, bI_t, bI_f, bI_0, bI_1, Bool.true_eq_false, Bool.false_eq_true, Bool.and_self, Bool.and_false, Bool.false_and, Bool.true_and, Bool.and_true, and_self, x1, x2, x3]
  simp (disch := omega) only [sX2_letOnePass_104, sX2_letOnePass_105, sX2_letOnePass_106, sX2_letOnePass_109, sX2_letOnePass_110, sX2_letOnePass_111, sX2_letOnePass_114, hb, true_and, and_true, true_or, or_true, eq_self, ↓reduceIte, if_true, if_false, nI_add, nI_mul, inB_nI, nI_clamp, Nat.add_zero, eqI, ltI, leI, m6_ne, ne_m6, Nat.reduceEqDiff, reduceCtorEq, Nat.reduceLT, Nat.reduceLeDiff, Nat.reduceAdd, Nat.reduceMul, Nat.zero_add, Nat.mul_zero, nar_0, nar_1, nar_b, bI_t, bI_f, bI_0, bI_1, Bool.true_eq_false, Bool.false_eq_true, Bool.and_self, Bool.and_false, Bool.false_and, Bool.true_and, Bool.and_true, and_self, b_slt, w_slt, e4]
theorem l_thingsIn (hB : IsM D b) (hR : Rfc f c nF nT) (hW : WF f nF nT) {h : Int32} : ∀ k i, i + k = nT → Runs MX2_thingsIn 4 [.ref b, .int h, .int (nI (cntS f h i)), .int (nI i)] [] D (bM m b c) z Q = Q (.int (nI (cntS f h nT))) D (bM m b c) z := by
  have hb := hB
  simp only [IsM] at hb
  have h16 := hW.1.2.2.2
  have e3 : gG c 3 = nI nT := (hR.1 3 (by decide)).trans hW.1.2.2.1
  intro k
  induction k with
  | zero =>
    intro i hi
    obtain rfl : i = nT := by omega
    rw [sX2_thingsIn_4]
    simp (disch := omega) only [sX2_thingsIn_5, sX2_thingsIn_6, sX2_thingsIn_9, sX2_thingsIn_12, sX2_thingsIn_13, sX2_thingsIn_16, sX2_thingsIn_17, sX2_thingsIn_18, sX2_thingsIn_21, sX2_thingsIn_22, sX2_thingsIn_25, sX2_thingsIn_28, sX2_thingsIn_31, sX2_thingsIn_34, sX2_thingsIn_35, hb, true_and, and_true, true_or, or_true, eq_self, ↓reduceIte, if_true, if_false, nI_add, nI_mul, inB_nI, nI_clamp, Nat.add_zero, eqI, ltI, leI, m6_ne, ne_m6, Nat.reduceEqDiff, reduceCtorEq, Nat.reduceLT, Nat.reduceLeDiff, Nat.reduceAdd, Nat.reduceMul, Nat.zero_add, Nat.mul_zero, nar_0, nar_1, nar_b, bI_t, bI_f, bI_0, bI_1, Bool.true_eq_false, Bool.false_eq_true, Bool.and_self, Bool.and_false, Bool.false_and, Bool.true_and, Bool.and_true, and_self, b_nT, e3, Nat.le_refl]
  | succ k ih =>
    intro i hi
    have hlt : ¬ nT ≤ i := by omega
    have ih := ih (i + 1) (by omega)
    have e0 := (hR.2.2 i (by omega)).1 0 (by decide) (by decide)
    simp only [cntS] at ih
    rw [sX2_thingsIn_4]
    by_cases hs : gT f i 0 = h
    · rw [if_pos hs] at ih
      rw [hs] at e0
      simp (disch := omega) only [sX2_thingsIn_5, sX2_thingsIn_6, sX2_thingsIn_9, sX2_thingsIn_12, sX2_thingsIn_13, sX2_thingsIn_16, sX2_thingsIn_17, sX2_thingsIn_18, sX2_thingsIn_21, sX2_thingsIn_22, sX2_thingsIn_25, sX2_thingsIn_28, sX2_thingsIn_31, sX2_thingsIn_34, sX2_thingsIn_35, hb, true_and, and_true, true_or, or_true, eq_self, ↓reduceIte, if_true, if_false, nI_add, nI_mul, inB_nI, nI_clamp, Nat.add_zero, eqI, ltI, leI, m6_ne, ne_m6, Nat.reduceEqDiff, reduceCtorEq, Nat.reduceLT, Nat.reduceLeDiff, Nat.reduceAdd, Nat.reduceMul, Nat.zero_add, Nat.mul_zero, nar_0, nar_1, nar_b, bI_t, bI_f, bI_0, bI_1, Bool.true_eq_false, Bool.false_eq_true, Bool.and_self, Bool.and_false, Bool.false_and, Bool.true_and, Bool.and_true, and_self, b_nT, e3, hlt, b_T0, e0, ih]
    · rw [if_neg hs, Nat.add_zero] at ih
      simp (disch := omega) only [sX2_thingsIn_5, sX2_thingsIn_6, sX2_thingsIn_9, sX2_thingsIn_12, sX2_thingsIn_13, sX2_thingsIn_16, sX2_thingsIn_17, sX2_thingsIn_18, sX2_thingsIn_21, sX2_thingsIn_22, sX2_thingsIn_25, sX2_thingsIn_28, sX2_thingsIn_31, sX2_thingsIn_34, sX2_thingsIn_35, hb, true_and, and_true, true_or, or_true, eq_self, ↓reduceIte, if_true, if_false, nI_add, nI_mul, inB_nI, nI_clamp, Nat.add_zero, eqI, ltI, leI, m6_ne, ne_m6, Nat.reduceEqDiff, reduceCtorEq, Nat.reduceLT, Nat.reduceLeDiff, Nat.reduceAdd, Nat.reduceMul, Nat.zero_add, Nat.mul_zero, nar_0, nar_1, nar_b, bI_t, bI_f, bI_0, bI_1, Bool.true_eq_false, Bool.false_eq_true, Bool.and_self, Bool.and_false, Bool.false_and, Bool.true_and, Bool.and_true, and_self, b_nT, e3, hlt, b_T0, e0, hs, ih]
theorem x_thingsIn (hB : IsM D b) (hR : Rfc f c nF nT) (hW : WF f nF nT) {h : Int32} : Runs MX2_thingsIn 0 [.ref b, .int h, vJ, vJ] [] D (bM m b c) z Q = Q (.int (nI (cntS f h nT))) D (bM m b c) z := by
  have l := l_thingsIn (D := D) (m := m) (z := z) (Q := Q) hB hR hW (h := h) nT 0 (by omega)
  simp (disch := omega) only [sX2_thingsIn_0, sX2_thingsIn_1, sX2_thingsIn_2, sX2_thingsIn_3, true_and, and_true, true_or, or_true, eq_self, ↓reduceIte, if_true, if_false, nI_add, nI_mul, inB_nI, nI_clamp, Nat.add_zero, eqI, ltI, leI, m6_ne, ne_m6, Nat.reduceEqDiff, reduceCtorEq, Nat.reduceLT, Nat.reduceLeDiff, Nat.reduceAdd, Nat.reduceMul, Nat.zero_add, Nat.mul_zero, nar_0, nar_1, nar_b, bI_t, bI_f, bI_0, bI_1, Bool.true_eq_false, Bool.false_eq_true, Bool.and_self, Bool.and_false, Bool.false_and, Bool.true_and, Bool.and_true, and_self]
  exact l
theorem x_isOver (hB : IsM D b) (hR : Rfc f c nF nT) (hW : WF f nF nT) : Runs MX2_isOver 0 [.ref b] [] D (bM m b c) z Q = Q (.int (bI (ovB f nT))) D (bM m b c) z := by
  have hb := hB
  simp only [IsM] at hb
  have ti : ∀ h Q, Runs MX2_thingsIn 0 [.ref b, .int h, vJ, vJ] [] D (bM m b c) z Q = Q (.int (nI (cntS f h nT))) D (bM m b c) z := fun h Q => x_thingsIn hB hR hW
  unfold ovB
  by_cases h : nI (cntS f (nI 0) nT + cntS f (nI 1) nT) = nI 0
  · have q : (nI (cntS f (nI 0) nT + cntS f (nI 1) nT) == nI 0) = true := by rw [h]; exact beq_self_eq_true _
    rw [q]
    simp only [sX2_isOver_0, sX2_isOver_1, sX2_isOver_2, sX2_isOver_5, sX2_isOver_6, sX2_isOver_7, sX2_isOver_10, sX2_isOver_11, sX2_isOver_14, sX2_isOver_15, sX2_isOver_18, sX2_isOver_19, hb, ti, nI_add, h, ↓reduceIte, true_and, nar_1, bI_t]
  · have q : (nI (cntS f (nI 0) nT + cntS f (nI 1) nT) == nI 0) = false := by simp [h]
    rw [q]
    simp only [sX2_isOver_0, sX2_isOver_1, sX2_isOver_2, sX2_isOver_5, sX2_isOver_6, sX2_isOver_7, sX2_isOver_10, sX2_isOver_11, sX2_isOver_14, sX2_isOver_15, sX2_isOver_18, sX2_isOver_19, hb, ti, nI_add, h, ↓reduceIte, true_and, nar_0, bI_f]
end CLS5
