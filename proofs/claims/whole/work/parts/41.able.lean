/-! the table of who can take what; most, read out of it -/
def abR (f : Nat → Int32) (nF nT : Nat) (base : Nat → Int32) (k : Nat) : Nat → Int32 := fun j => if j < k then bI (decide (j / 16 < nF) && ableF f nT (j / 16) (j % 16)) else base j
def aM (m : vMM) (f : Nat → Int32) (nF nT k : Nat) : vMM := setR m 860 (abR f nF nT (m 860) k)
def moR (f : Nat → Int32) (nT s : Nat) (base : Nat → Int32) (k : Nat) : Nat → Int32 := fun j => if 128 ≤ j ∧ j < 128 + k then bI (moreF f nT s (j - 128)) else base j
def oM (m : vMM) (f : Nat → Int32) (nT s k : Nat) : vMM := setR m 860 (moR f nT s (m 860) k)
/-- the table of the first eight -/
def TBs (m : vMM) (f : Nat → Int32) (nF nT : Nat) : Prop := ∀ g t, g < 8 → t < 16 → m 860 (16 * g + t) = bI (decide (g < nF) && ableF f nT g t)
section ABLE
variable {D : vDD} {m : vMM} {f : Nat → Int32} {z : vZZ} {Q : Value → vDD → vMM → vZZ → Prop} {nF nT r : Nat}
theorem aM_w {k : Nat} : up2 (eM (aM m f nF nT k) f) 860 k (bI (decide (k / 16 < nF) && ableF f nT (k / 16) (k % 16))) = eM (aM m f nF nT (k + 1)) f := by
  rw [eM_upo (by decide) (by decide)]
  congr 1
  unfold aM
  rw [up2_setR]
  congr 1
  funext j
  unfold upd abR
  by_cases e : j = k
  · rw [if_pos e, if_pos (by omega), e]
  · rw [if_neg e]
    by_cases h : j < k
    · rw [if_pos h, if_pos (by omega)]
    · rw [if_neg h, if_neg (by omega)]
theorem oM_w {s k : Nat} : up2 (eM (oM m f nT s k) f) 860 (128 + k) (bI (moreF f nT s k)) = eM (oM m f nT s (k + 1)) f := by
  rw [eM_upo (by decide) (by decide)]
  congr 1
  unfold oM
  rw [up2_setR]
  congr 1
  funext j
  unfold upd moR
  by_cases e : j = 128 + k
  · rw [if_pos e, if_pos (by omega), e]
    have e3 : 128 + k - 128 = k := by omega
    rw [e3]
  · rw [if_neg e]
    by_cases h : 128 ≤ j ∧ j < 128 + k
    · rw [if_pos h, if_pos (by omega)]
    · rw [if_neg h, if_neg (by omega)]
theorem l_able1 (hM : IsMo D) (hW : WF f nF nT) {g : Nat} (hg : g < 8) : ∀ k t, t + k = 16 → Runs MX7_findAble 10 [.ref 853, .int (nI g), .int (nI t)] [] D (eM (aM m f nF nT (16 * g + t)) f) z Q = Runs MX7_findAble 67 [.ref 853, .int (nI g), .int (nI 16)] [] D (eM (aM m f nF nT (16 * g + 16)) f) z Q := by
  have h1 := hM
  simp only [IsMo] at h1
  have g2 := hW.1.1
  have g3 := hW.1.2.2.1
  have n8 := hW.1.2.1
  have n16 := hW.1.2.2.2
  intro k
  induction k with
  | zero =>
    intro t ht
    obtain rfl : t = 16 := by omega
    rw [sX7_findAble_10]
    simp (disch := omega) only [sX7_findAble_11, sX7_findAble_13, sX7_findAble_16, sX7_findAble_17, sX7_findAble_20, sX7_findAble_22, sX7_findAble_23, sX7_findAble_24, sX7_findAble_25, sX7_findAble_26, sX7_findAble_27, sX7_findAble_28, sX7_findAble_31, sX7_findAble_32, sX7_findAble_33, sX7_findAble_36, sX7_findAble_37, sX7_findAble_38, sX7_findAble_41, sX7_findAble_42, sX7_findAble_43, sX7_findAble_46, sX7_findAble_47, sX7_findAble_48, sX7_findAble_49, sX7_findAble_52, sX7_findAble_55, sX7_findAble_56, sX7_findAble_59, sX7_findAble_60, sX7_findAble_61, sX7_findAble_64, h1, true_and, and_true, true_or, or_true, eq_self, ↓reduceIte, if_true, if_false, nI_add, nI_mul, inB_nI, nI_clamp, Nat.add_zero, eqI, ltI, leI, m6_ne, ne_m6, Nat.reduceEqDiff, reduceCtorEq, Nat.reduceLT, Nat.reduceLeDiff, Nat.reduceAdd, Nat.reduceMul, Nat.zero_add, Nat.mul_zero, nar_0, nar_1, nar_b, bI_t, bI_f, bI_0, bI_1, Bool.true_eq_false, Bool.false_eq_true, Bool.and_self, Bool.and_false, Bool.false_and, Bool.true_and, Bool.and_true, and_self, Nat.le_refl]
  | succ k ih =>
    intro t ht
    have hlt : ¬ 16 ≤ t := by omega
    have ih := ih (t + 1) (by omega)
    have e0 := aM_w (m := m) (f := f) (nF := nF) (nT := nT) (k := 16 * g + t)
    have e1 : (16 * g + t) / 16 = g := by omega
    have e2 : (16 * g + t) % 16 = t := by omega
    rw [e1, e2] at e0
    unfold ableF at e0
    rw [sX7_findAble_10]
    by_cases hgn : nF ≤ g
    · have d : decide (g < nF) = false := decide_eq_false (by omega)
      rw [d, Bool.false_and, bI_f] at e0
      simp (disch := omega) only [sX7_findAble_11, sX7_findAble_13, sX7_findAble_16, sX7_findAble_17, sX7_findAble_20, sX7_findAble_22, sX7_findAble_23, sX7_findAble_24, sX7_findAble_25, sX7_findAble_26, sX7_findAble_27, sX7_findAble_28, sX7_findAble_31, sX7_findAble_32, sX7_findAble_33, sX7_findAble_36, sX7_findAble_37, sX7_findAble_38, sX7_findAble_41, sX7_findAble_42, sX7_findAble_43, sX7_findAble_46, sX7_findAble_47, sX7_findAble_48, sX7_findAble_49, sX7_findAble_52, sX7_findAble_55, sX7_findAble_56, sX7_findAble_59, sX7_findAble_60, sX7_findAble_61, sX7_findAble_64, h1, true_and, and_true, true_or, or_true, eq_self, ↓reduceIte, if_true, if_false, nI_add, nI_mul, inB_nI, nI_clamp, Nat.add_zero, eqI, ltI, leI, m6_ne, ne_m6, Nat.reduceEqDiff, reduceCtorEq, Nat.reduceLT, Nat.reduceLeDiff, Nat.reduceAdd, Nat.reduceMul, Nat.zero_add, Nat.mul_zero, nar_0, nar_1, nar_b, bI_t, bI_f, bI_0, bI_1, Bool.true_eq_false, Bool.false_eq_true, Bool.and_self, Bool.and_false, Bool.false_and, Bool.true_and, Bool.and_true, and_self, hlt, eM_gG, g2, hgn, e0, Nat.add_assoc]
      rw [← Nat.add_assoc] 
      exact ih
    · have d : decide (g < nF) = true := decide_eq_true (by omega)
      rw [d, Bool.true_and] at e0
      by_cases htn : nT ≤ t
      · have d2 : decide (t < nT) = false := decide_eq_false (by omega)
        rw [d2, Bool.false_and, bI_f] at e0
        simp (disch := omega) only [sX7_findAble_11, sX7_findAble_13, sX7_findAble_16, sX7_findAble_17, sX7_findAble_20, sX7_findAble_22, sX7_findAble_23, sX7_findAble_24, sX7_findAble_25, sX7_findAble_26, sX7_findAble_27, sX7_findAble_28, sX7_findAble_31, sX7_findAble_32, sX7_findAble_33, sX7_findAble_36, sX7_findAble_37, sX7_findAble_38, sX7_findAble_41, sX7_findAble_42, sX7_findAble_43, sX7_findAble_46, sX7_findAble_47, sX7_findAble_48, sX7_findAble_49, sX7_findAble_52, sX7_findAble_55, sX7_findAble_56, sX7_findAble_59, sX7_findAble_60, sX7_findAble_61, sX7_findAble_64, h1, true_and, and_true, true_or, or_true, eq_self, ↓reduceIte, if_true, if_false, nI_add, nI_mul, inB_nI, nI_clamp, Nat.add_zero, eqI, ltI, leI, m6_ne, ne_m6, Nat.reduceEqDiff, reduceCtorEq, Nat.reduceLT, Nat.reduceLeDiff, Nat.reduceAdd, Nat.reduceMul, Nat.zero_add, Nat.mul_zero, nar_0, nar_1, nar_b, bI_t, bI_f, bI_0, bI_1, Bool.true_eq_false, Bool.false_eq_true, Bool.and_self, Bool.and_false, Bool.false_and, Bool.true_and, Bool.and_true, and_self, hlt, eM_gG, g2, g3, hgn, htn, e0, Nat.add_assoc]
        rw [← Nat.add_assoc]
        exact ih
      · have d2 : decide (t < nT) = true := decide_eq_true (by omega)
        rw [d2, Bool.true_and] at e0
        have hk : okT f t := (hW.2.2.1 t (by omega)).okT
        have ct : ∀ Q, Runs MX7_canTake 0 [.ref 853, .int (nI g), .int (nI t)] [] D (eM (aM m f nF nT (16 * g + t)) f) z Q = Q (.int (bI (canF f g t))) D (eM (aM m f nF nT (16 * g + t)) f) z := fun Q => c_canTake hM hg (by omega) hk
        cases hc : canF f g t
        · rw [hc] at ct e0
          rw [bI_f] at e0
          simp (disch := omega) only [sX7_findAble_11, sX7_findAble_13, sX7_findAble_16, sX7_findAble_17, sX7_findAble_20, sX7_findAble_22, sX7_findAble_23, sX7_findAble_24, sX7_findAble_25, sX7_findAble_26, sX7_findAble_27, sX7_findAble_28, sX7_findAble_31, sX7_findAble_32, sX7_findAble_33, sX7_findAble_36, sX7_findAble_37, sX7_findAble_38, sX7_findAble_41, sX7_findAble_42, sX7_findAble_43, sX7_findAble_46, sX7_findAble_47, sX7_findAble_48, sX7_findAble_49, sX7_findAble_52, sX7_findAble_55, sX7_findAble_56, sX7_findAble_59, sX7_findAble_60, sX7_findAble_61, sX7_findAble_64, h1, true_and, and_true, true_or, or_true, eq_self, ↓reduceIte, if_true, if_false, nI_add, nI_mul, inB_nI, nI_clamp, Nat.add_zero, eqI, ltI, leI, m6_ne, ne_m6, Nat.reduceEqDiff, reduceCtorEq, Nat.reduceLT, Nat.reduceLeDiff, Nat.reduceAdd, Nat.reduceMul, Nat.zero_add, Nat.mul_zero, nar_0, nar_1, nar_b, bI_t, bI_f, bI_0, bI_1, Bool.true_eq_false, Bool.false_eq_true, Bool.and_self, Bool.and_false, Bool.false_and, Bool.true_and, Bool.and_true, and_self, hlt, eM_gG, g2, g3, hgn, htn, ct, e0, Nat.add_assoc]
          rw [← Nat.add_assoc]
          exact ih
        · rw [hc] at ct e0
          rw [bI_t] at e0
          simp (disch := omega) only [sX7_findAble_11, sX7_findAble_13, sX7_findAble_16, sX7_findAble_17, sX7_findAble_20, sX7_findAble_22, sX7_findAble_23, sX7_findAble_24, sX7_findAble_25, sX7_findAble_26, sX7_findAble_27, sX7_findAble_28, sX7_findAble_31, sX7_findAble_32, sX7_findAble_33, sX7_findAble_36, sX7_findAble_37, sX7_findAble_38, sX7_findAble_41, sX7_findAble_42, sX7_findAble_43, sX7_findAble_46, sX7_findAble_47, sX7_findAble_48, sX7_findAble_49, sX7_findAble_52, sX7_findAble_55, sX7_findAble_56, sX7_findAble_59, sX7_findAble_60, sX7_findAble_61, sX7_findAble_64, h1, true_and, and_true, true_or, or_true, eq_self, ↓reduceIte, if_true, if_false, nI_add, nI_mul, inB_nI, nI_clamp, Nat.add_zero, eqI, ltI, leI, m6_ne, ne_m6, Nat.reduceEqDiff, reduceCtorEq, Nat.reduceLT, Nat.reduceLeDiff, Nat.reduceAdd, Nat.reduceMul, Nat.zero_add, Nat.mul_zero, nar_0, nar_1, nar_b, bI_t, bI_f, bI_0, bI_1, Bool.true_eq_false, Bool.false_eq_true, Bool.and_self, Bool.and_false, Bool.false_and, Bool.true_and, Bool.and_true, and_self, hlt, eM_gG, g2, g3, hgn, htn, ct, e0, Nat.add_assoc]
          rw [← Nat.add_assoc]
          exact ih
theorem l_able2 (hM : IsMo D) (hW : WF f nF nT) : ∀ k g (v : Value), g + k = 8 → Runs MX7_findAble 2 [.ref 853, .int (nI g), v] [] D (eM (aM m f nF nT (16 * g)) f) z Q = Q vJ D (eM (aM m f nF nT 128) f) z := by
  have h1 := hM
  simp only [IsMo] at h1
  intro k
  induction k with
  | zero =>
    intro g v hg
    obtain rfl : g = 8 := by omega
    rw [sX7_findAble_2]
    simp (disch := omega) only [sX7_findAble_3, sX7_findAble_5, sX7_findAble_8, sX7_findAble_9, sX7_findAble_67, sX7_findAble_70, sX7_findAble_73, h1, true_and, and_true, true_or, or_true, eq_self, ↓reduceIte, if_true, if_false, nI_add, nI_mul, inB_nI, nI_clamp, Nat.add_zero, eqI, ltI, leI, m6_ne, ne_m6, Nat.reduceEqDiff, reduceCtorEq, Nat.reduceLT, Nat.reduceLeDiff, Nat.reduceAdd, Nat.reduceMul, Nat.zero_add, Nat.mul_zero, nar_0, nar_1, nar_b, bI_t, bI_f, bI_0, bI_1, Bool.true_eq_false, Bool.false_eq_true, Bool.and_self, Bool.and_false, Bool.false_and, Bool.true_and, Bool.and_true, and_self, Nat.le_refl]
  | succ k ih =>
    intro g v hg
    have hlt : ¬ 8 ≤ g := by omega
    have l1 := l_able1 (D := D) (m := m) (f := f) (z := z) (Q := Q) hM hW (g := g) (by omega) 16 0 (by decide)
    rw [Nat.add_zero] at l1
    rw [sX7_findAble_2]
    simp (disch := omega) only [sX7_findAble_3, sX7_findAble_5, sX7_findAble_8, sX7_findAble_9, h1, true_and, and_true, true_or, or_true, eq_self, ↓reduceIte, if_true, if_false, nI_add, nI_mul, inB_nI, nI_clamp, Nat.add_zero, eqI, ltI, leI, m6_ne, ne_m6, Nat.reduceEqDiff, reduceCtorEq, Nat.reduceLT, Nat.reduceLeDiff, Nat.reduceAdd, Nat.reduceMul, Nat.zero_add, Nat.mul_zero, nar_0, nar_1, nar_b, bI_t, bI_f, bI_0, bI_1, Bool.true_eq_false, Bool.false_eq_true, Bool.and_self, Bool.and_false, Bool.false_and, Bool.true_and, Bool.and_true, and_self, hlt, l1, sX7_findAble_67, sX7_findAble_70, sX7_findAble_73]
    exact ih (g + 1) _ (by omega)
theorem c_findAble (hM : IsMo D) (hW : WF f nF nT) : Runs MX7_findAble 0 [.ref 853, vJ, vJ] [] D (eM m f) z Q = Q vJ D (eM (aM m f nF nT 128) f) z := by
  have h1 := hM
  simp only [IsMo] at h1
  have e : aM m f nF nT (16 * 0) = m := by
    unfold aM
    have : abR f nF nT (m 860) (16 * 0) = m 860 := by
      funext j
      unfold abR
      rw [if_neg (by omega)]
    rw [this, setR_self]
  have l2 := l_able2 (D := D) (m := m) (f := f) (z := z) (Q := Q) hM hW 8 0 vJ (by decide)
  rw [e] at l2
  simp (disch := omega) only [sX7_findAble_0, sX7_findAble_1, true_and, and_true, true_or, or_true, eq_self, ↓reduceIte, if_true, if_false, nI_add, nI_mul, inB_nI, nI_clamp, Nat.add_zero, eqI, ltI, leI, m6_ne, ne_m6, Nat.reduceEqDiff, reduceCtorEq, Nat.reduceLT, Nat.reduceLeDiff, Nat.reduceAdd, Nat.reduceMul, Nat.zero_add, Nat.mul_zero, nar_0, nar_1, nar_b, bI_t, bI_f, bI_0, bI_1, Bool.true_eq_false, Bool.false_eq_true, Bool.and_self, Bool.and_false, Bool.false_and, Bool.true_and, Bool.and_true, and_self, l2]
theorem aM_TB : TBs (aM m f nF nT 128) f nF nT := by
  intro g t hg ht
  unfold aM
  rw [setR_eq]
  unfold abR
  rw [if_pos (by omega)]
  have e1 : (16 * g + t) / 16 = g := by omega
  have e2 : (16 * g + t) % 16 = t := by omega
  rw [e1, e2]
theorem l_more (hM : IsMo D) (hW : WF f nF nT) {s : Nat} (hs : s < 6) : ∀ k t, t + k = 16 → Runs MX7_findMore 2 [.ref 853, .int (nI s), .int (nI t)] [] D (eM (oM m f nT s t) f) z Q = Q vJ D (eM (oM m f nT s 16) f) z := by
  have h1 := hM
  simp only [IsMo] at h1
  have g3 := hW.1.2.2.1
  have n16 := hW.1.2.2.2
  intro k
  induction k with
  | zero =>
    intro t ht
    obtain rfl : t = 16 := by omega
    rw [sX7_findMore_2]
    simp (disch := omega) only [sX7_findMore_3, sX7_findMore_5, sX7_findMore_8, sX7_findMore_9, sX7_findMore_12, sX7_findMore_15, sX7_findMore_16, sX7_findMore_17, sX7_findMore_18, sX7_findMore_19, sX7_findMore_22, sX7_findMore_23, sX7_findMore_24, sX7_findMore_27, sX7_findMore_28, sX7_findMore_29, sX7_findMore_32, sX7_findMore_35, sX7_findMore_36, sX7_findMore_37, sX7_findMore_38, sX7_findMore_41, sX7_findMore_42, sX7_findMore_45, sX7_findMore_46, sX7_findMore_49, sX7_findMore_50, sX7_findMore_51, sX7_findMore_54, sX7_findMore_57, h1, true_and, and_true, true_or, or_true, eq_self, ↓reduceIte, if_true, if_false, nI_add, nI_mul, inB_nI, nI_clamp, Nat.add_zero, eqI, ltI, leI, m6_ne, ne_m6, Nat.reduceEqDiff, reduceCtorEq, Nat.reduceLT, Nat.reduceLeDiff, Nat.reduceAdd, Nat.reduceMul, Nat.zero_add, Nat.mul_zero, nar_0, nar_1, nar_b, bI_t, bI_f, bI_0, bI_1, Bool.true_eq_false, Bool.false_eq_true, Bool.and_self, Bool.and_false, Bool.false_and, Bool.true_and, Bool.and_true, and_self, Nat.le_refl]
  | succ k ih =>
    intro t ht
    have hlt : ¬ 16 ≤ t := by omega
    have ih := ih (t + 1) (by omega)
    have e0 := oM_w (m := m) (f := f) (nT := nT) (s := s) (k := t)
    unfold moreF at e0
    rw [sX7_findMore_2]
    by_cases htn : nT ≤ t
    · have d2 : decide (t < nT) = false := decide_eq_false (by omega)
      rw [d2, Bool.false_and, bI_f] at e0
      simp (disch := omega) only [sX7_findMore_3, sX7_findMore_5, sX7_findMore_8, sX7_findMore_9, sX7_findMore_12, sX7_findMore_15, sX7_findMore_16, sX7_findMore_17, sX7_findMore_18, sX7_findMore_19, sX7_findMore_22, sX7_findMore_23, sX7_findMore_24, sX7_findMore_27, sX7_findMore_28, sX7_findMore_29, sX7_findMore_32, sX7_findMore_35, sX7_findMore_36, sX7_findMore_37, sX7_findMore_38, sX7_findMore_41, sX7_findMore_42, sX7_findMore_45, sX7_findMore_46, sX7_findMore_49, sX7_findMore_50, sX7_findMore_51, sX7_findMore_54, sX7_findMore_57, h1, true_and, and_true, true_or, or_true, eq_self, ↓reduceIte, if_true, if_false, nI_add, nI_mul, inB_nI, nI_clamp, Nat.add_zero, eqI, ltI, leI, m6_ne, ne_m6, Nat.reduceEqDiff, reduceCtorEq, Nat.reduceLT, Nat.reduceLeDiff, Nat.reduceAdd, Nat.reduceMul, Nat.zero_add, Nat.mul_zero, nar_0, nar_1, nar_b, bI_t, bI_f, bI_0, bI_1, Bool.true_eq_false, Bool.false_eq_true, Bool.and_self, Bool.and_false, Bool.false_and, Bool.true_and, Bool.and_true, and_self, hlt, eM_gG, g3, htn, e0, ih]
    · have d2 : decide (t < nT) = true := decide_eq_true (by omega)
      rw [d2, Bool.true_and] at e0
      have hk : okT f t := (hW.2.2.1 t (by omega)).okT
      have ww : ∀ Q, Runs MX7_waitsWithPart 0 [.ref 853, .int (nI t)] [] D (eM (oM m f nT s t) f) z Q = Q (.int (bI (wwpF f t))) D (eM (oM m f nT s t) f) z := fun Q => c_waitsWithPart hM (by omega) hk
      have ns : ∀ Q, Runs MX7_nextStep 0 [.ref 853, .int (nI t), .int (nI 0)] [] D (eM (oM m f nT s t) f) z Q = Q (.int (nsF f t 0)) D (eM (oM m f nT s t) f) z := fun Q => c_nextStep hM (by omega) (by decide) hk.1
      cases hc : wwpF f t
      · rw [hc] at ww e0
        rw [Bool.false_and, bI_f] at e0
        simp (disch := omega) only [sX7_findMore_3, sX7_findMore_5, sX7_findMore_8, sX7_findMore_9, sX7_findMore_12, sX7_findMore_15, sX7_findMore_16, sX7_findMore_17, sX7_findMore_18, sX7_findMore_19, sX7_findMore_22, sX7_findMore_23, sX7_findMore_24, sX7_findMore_27, sX7_findMore_28, sX7_findMore_29, sX7_findMore_32, sX7_findMore_35, sX7_findMore_36, sX7_findMore_37, sX7_findMore_38, sX7_findMore_41, sX7_findMore_42, sX7_findMore_45, sX7_findMore_46, sX7_findMore_49, sX7_findMore_50, sX7_findMore_51, sX7_findMore_54, sX7_findMore_57, h1, true_and, and_true, true_or, or_true, eq_self, ↓reduceIte, if_true, if_false, nI_add, nI_mul, inB_nI, nI_clamp, Nat.add_zero, eqI, ltI, leI, m6_ne, ne_m6, Nat.reduceEqDiff, reduceCtorEq, Nat.reduceLT, Nat.reduceLeDiff, Nat.reduceAdd, Nat.reduceMul, Nat.zero_add, Nat.mul_zero, nar_0, nar_1, nar_b, bI_t, bI_f, bI_0, bI_1, Bool.true_eq_false, Bool.false_eq_true, Bool.and_self, Bool.and_false, Bool.false_and, Bool.true_and, Bool.and_true, and_self, hlt, eM_gG, g3, htn, ww, e0, ih]
      · rw [hc] at ww e0
        rw [Bool.true_and] at e0
        by_cases hn : nsF f t 0 = nI s
        · rw [hn, beq_self_eq_true, bI_t] at e0
          simp (disch := omega) only [sX7_findMore_3, sX7_findMore_5, sX7_findMore_8, sX7_findMore_9, sX7_findMore_12, sX7_findMore_15, sX7_findMore_16, sX7_findMore_17, sX7_findMore_18, sX7_findMore_19, sX7_findMore_22, sX7_findMore_23, sX7_findMore_24, sX7_findMore_27, sX7_findMore_28, sX7_findMore_29, sX7_findMore_32, sX7_findMore_35, sX7_findMore_36, sX7_findMore_37, sX7_findMore_38, sX7_findMore_41, sX7_findMore_42, sX7_findMore_45, sX7_findMore_46, sX7_findMore_49, sX7_findMore_50, sX7_findMore_51, sX7_findMore_54, sX7_findMore_57, h1, true_and, and_true, true_or, or_true, eq_self, ↓reduceIte, if_true, if_false, nI_add, nI_mul, inB_nI, nI_clamp, Nat.add_zero, eqI, ltI, leI, m6_ne, ne_m6, Nat.reduceEqDiff, reduceCtorEq, Nat.reduceLT, Nat.reduceLeDiff, Nat.reduceAdd, Nat.reduceMul, Nat.zero_add, Nat.mul_zero, nar_0, nar_1, nar_b, bI_t, bI_f, bI_0, bI_1, Bool.true_eq_false, Bool.false_eq_true, Bool.and_self, Bool.and_false, Bool.false_and, Bool.true_and, Bool.and_true, and_self, hlt, eM_gG, g3, htn, ww, ns, hn, e0, ih]
        · have : (nsF f t 0 == nI s) = false := by simp [hn]
          rw [this, bI_f] at e0
          simp (disch := omega) only [sX7_findMore_3, sX7_findMore_5, sX7_findMore_8, sX7_findMore_9, sX7_findMore_12, sX7_findMore_15, sX7_findMore_16, sX7_findMore_17, sX7_findMore_18, sX7_findMore_19, sX7_findMore_22, sX7_findMore_23, sX7_findMore_24, sX7_findMore_27, sX7_findMore_28, sX7_findMore_29, sX7_findMore_32, sX7_findMore_35, sX7_findMore_36, sX7_findMore_37, sX7_findMore_38, sX7_findMore_41, sX7_findMore_42, sX7_findMore_45, sX7_findMore_46, sX7_findMore_49, sX7_findMore_50, sX7_findMore_51, sX7_findMore_54, sX7_findMore_57, h1, true_and, and_true, true_or, or_true, eq_self, ↓reduceIte, if_true, if_false, nI_add, nI_mul, inB_nI, nI_clamp, Nat.add_zero, eqI, ltI, leI, m6_ne, ne_m6, Nat.reduceEqDiff, reduceCtorEq, Nat.reduceLT, Nat.reduceLeDiff, Nat.reduceAdd, Nat.reduceMul, Nat.zero_add, Nat.mul_zero, nar_0, nar_1, nar_b, bI_t, bI_f, bI_0, bI_1, Bool.true_eq_false, Bool.false_eq_true, Bool.and_self, Bool.and_false, Bool.false_and, Bool.true_and, Bool.and_true, and_self, hlt, eM_gG, g3, htn, ww, ns, hn, e0, ih]
theorem c_findMore (hM : IsMo D) (hW : WF f nF nT) {s : Nat} (hs : s < 6) : Runs MX7_findMore 0 [.ref 853, .int (nI s), vJ] [] D (eM m f) z Q = Q vJ D (eM (oM m f nT s 16) f) z := by
  have h1 := hM
  simp only [IsMo] at h1
  have e : oM m f nT s 0 = m := by
    unfold oM
    have : moR f nT s (m 860) 0 = m 860 := by
      funext j
      unfold moR
      rw [if_neg (by omega)]
    rw [this, setR_self]
  have l2 := l_more (D := D) (m := m) (f := f) (z := z) (Q := Q) hM hW hs 16 0 (by decide)
  rw [e] at l2
  simp (disch := omega) only [sX7_findMore_0, sX7_findMore_1, true_and, and_true, true_or, or_true, eq_self, ↓reduceIte, if_true, if_false, nI_add, nI_mul, inB_nI, nI_clamp, Nat.add_zero, eqI, ltI, leI, m6_ne, ne_m6, Nat.reduceEqDiff, reduceCtorEq, Nat.reduceLT, Nat.reduceLeDiff, Nat.reduceAdd, Nat.reduceMul, Nat.zero_add, Nat.mul_zero, nar_0, nar_1, nar_b, bI_t, bI_f, bI_0, bI_1, Bool.true_eq_false, Bool.false_eq_true, Bool.and_self, Bool.and_false, Bool.false_and, Bool.true_and, Bool.and_true, and_self, l2]
theorem oM_TB {s : Nat} (h : TBs m f nF nT) : TBs (oM m f nT s 16) f nF nT := by
  intro g t hg ht
  unfold oM
  rw [setR_eq]
  unfold moR
  rw [if_neg (by omega)]
  exact h g t hg ht
theorem k_eM {tO fO cF rq : Nat → Int32} : kM (eM m f) tO fO cF rq = eM (kM m tO fO cF rq) f := by
  unfold kM
  rw [eM_setR (by decide) (by decide), eM_setR (by decide) (by decide), eM_setR (by decide) (by decide), eM_setR (by decide) (by decide)]
theorem kM_TB {tO fO cF rq : Nat → Int32} (h : TBs m f nF nT) : TBs (kM m tO fO cF rq) f nF nT := by
  intro g t hg ht
  rw [k_o (by decide)]
  exact h g t hg ht
theorem bI_eq1 (b : Bool) : (bI b == nI 1) = b := by
  cases b
  · rw [bI_f]; decide +kernel
  · rw [bI_t]; exact beq_self_eq_true _
theorem most_val (h : TBs m f nF nT) (h8 : nF ≤ 8) {x y : Int32} {P S : Nat → Bool} (hy : ∀ g, g < 9 → selB y g = (decide (g < 8) && P g)) (hx : ∀ t, t < 16 → selB x t = S t) : mnR (rwY (eM m f) y x) 16 9 (fun _ => false) = svF (fun g t => P g && (ableF f nT g t && S t)) nF := by
  have e : ∀ g t, g < 9 → t < 16 → rwY (eM m f) y x g t = (decide (g < nF) && (P g && (ableF f nT g t && S t))) := by
    intro g t hg ht
    unfold rwY rwM
    have hx' := hx t ht
    unfold selB at hx'
    rw [hy g hg, eM_oth (by decide) (by decide), hx']
    by_cases h9 : g < 8
    · rw [h g t h9 ht, bI_eq1, decide_eq_true h9, Bool.true_and]
      cases decide (g < nF) <;> cases P g <;> cases ableF f nT g t <;> rfl
    · rw [decide_eq_false h9, decide_eq_false (by omega : ¬ g < nF), Bool.false_and, Bool.false_and, Bool.false_and]
  have e1 := mn_nones (rw := rwY (eM m f) y x) (w := 16) (n := nF) (a := fun _ => false) (9 - nF) (fun i t h1 h2 h3 => by
    rw [e i t (by omega) h3, decide_eq_false (by omega : ¬ i < nF), Bool.false_and])
  rw [(by omega : nF + (9 - nF) = 9)] at e1
  rw [e1]
  exact mn_ext nF _ _ (fun k t hk ht => by rw [e k t (by omega) ht, decide_eq_true hk, Bool.true_and]) (fun _ _ => rfl)
theorem beh_val {A : Nat → Nat → Bool} {n a : Nat} {S : Nat → Bool} (h : a ≤ n) : svF (fun g t => decide (a ≤ g) && (A g t && S t)) n = behF A n a S := by
  unfold behF svF
  have := mn_off (rw := fun g t => decide (a ≤ g) && (A g t && S t)) (w := 16) (s := a) (fun i t hi _ => by rw [decide_eq_false (by omega : ¬ a ≤ i), Bool.false_and]) (n - a) (fun _ => false)
  rw [(by omega : a + (n - a) = n)] at this
  rw [this]
  exact mn_ext _ _ _ (fun k t _ _ => by rw [decide_eq_true (by omega : a ≤ a + k), Bool.true_and]) (fun _ _ => rfl)
end ABLE
