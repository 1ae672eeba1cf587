/-! the model: what if, undo, saving -/
def mixF (f g : Nat → Int32) : Nat → Int32 := fun j => if 346 ≤ j ∧ j ≤ 348 then g j else f j
def keepM (m : vMM) (f : Nat → Int32) : vMM := setR m 855 (fun j => if j < 346 then f j else m 855 j)
theorem keepM_3 {m : vMM} {f : Nat → Int32} {a : Nat} (h : a ≠ 855) : keepM m f a = m a := setR_ne h
theorem eM_ext {m : vMM} {f g : Nat → Int32} (h : ∀ j, j < 349 → f j = g j) : eM m f = eM m g := by
  funext a
  unfold eM
  by_cases ha : a = 854
  · rw [if_pos ha, if_pos ha]
    funext k
    by_cases hk : k < 346
    · rw [if_pos hk, if_pos hk, h k (by omega)]
    · rw [if_neg hk, if_neg hk]
  · rw [if_neg ha, if_neg ha, h 346 (by decide), h 347 (by decide), h 348 (by decide)]
/-- the row of 346 ints overwritten, the counters kept -/
theorem eM_row {m : vMM} {f h : Nat → Int32} : setR (eM m f) 854 (fun j => if j < 346 then h j else eM m f 854 j) = eM m (mixF h f) := by
  funext a
  by_cases ha : a = 854
  · subst ha
    rw [setR_eq]
    unfold eM
    rw [if_pos rfl]
    funext k
    by_cases hk : k < 346
    · simp only [if_pos hk, if_true]
      unfold mixF
      rw [if_neg (by omega)]
    · simp only [if_neg hk, if_true]
  · rw [setR_ne ha]
    unfold eM
    rw [if_neg ha, if_neg ha]
    rfl
theorem mix_zero {f g : Nat → Int32} {k : Nat} {v : Int32} (hk : k < 10) : zeroF (sG (mixF f g) k v) = zeroF (sG f k v) := by
  funext j
  unfold zeroF sG upd mixF
  by_cases h8 : j = 348
  · rw [if_pos h8, if_pos h8]
  · rw [if_neg h8, if_neg h8]
    by_cases h7 : j = 347
    · rw [if_pos h7, if_pos h7]
    · rw [if_neg h7, if_neg h7]
      by_cases h6 : j = 346
      · rw [if_pos h6, if_pos h6]
      · rw [if_neg h6, if_neg h6]
        by_cases hj : j = k
        · rw [if_pos hj, if_pos hj]
        · rw [if_neg hj, if_neg hj, if_neg (by omega)]
theorem mix_g {f g : Nat → Int32} {k : Nat} (hk : k < 346) : gG (mixF f g) k = gG f k := by
  unfold gG mixF
  rw [if_neg (by omega)]
theorem mix_c {f g : Nat → Int32} {j : Nat} (h1 : 346 ≤ j) (h2 : j ≤ 348) : gG (mixF f g) j = gG g j := by
  unfold gG mixF
  rw [if_pos ⟨h1, h2⟩]
theorem mix_mix {f g h : Nat → Int32} : mixF (mixF f g) h = mixF f h := by
  funext j
  unfold mixF
  by_cases hj : 346 ≤ j ∧ j ≤ 348
  · rw [if_pos hj, if_pos hj]
  · rw [if_neg hj, if_neg hj, if_neg hj]
theorem mix_self {f : Nat → Int32} : mixF f f = f := by
  funext j
  unfold mixF
  split <;> rfl
def ovB (f : Nat → Int32) (nT : Nat) : Bool := nI (cntS f (nI 0) nT + cntS f (nI 1) nT) == nI 0
def uF (nT : Nat) : Nat → Nat → (Nat → Int32) → Int32 × (Nat → Int32)
  | 0, i, g => (if ovB g nT = true then nI i else m6, g)
  | k + 1, i, g => if ovB g nT = true then (nI i, g) else uF nT k (i + 1) (slotF g)
def bpV (N : Nat) (f : Nat → Int32) (p : Nat) : Int32 := gG (passesF N (sG f (6 + p) (gG f (6 + p) + nI 1))) 346
/-- the best so far of the first n parts: which, how many -/
def bpF (N : Nat) (f : Nat → Int32) : Nat → Int32 × Int32
  | 0 => (m6, m1)
  | n + 1 => if (bpF N f n).2 < bpV N f n then (nI n, bpV N f n) else bpF N f n
section MDL6
variable {D : vDD} {m : vMM} {f : Nat → Int32} {z : vZZ} {Q : Value → vDD → vMM → vZZ → Prop} {nF nT r : Nat}
theorem c_keep (hM : IsMo D) : Runs MX7_moves 0 [.ref 854, .int (nI 0), .ref 855, .int (nI 0), vJ] [] D (eM m f) z Q = Q vJ D (eM (keepM m f) f) z := by
  simp only [IsMo] at hM
  rw [c_moves hM.2.2.1.1 hM.2.2.1.2.1 hM.2.2.2.1 hM.2.2.2.2.1 (by decide) (by decide) (by decide) (by decide) (by decide)]
  congr 1
  unfold mvF keepM
  rw [eM_setR (by decide) (by decide)]
  congr 2
  funext j
  by_cases hj : j < 346
  · rw [if_pos (by omega), if_pos hj, Nat.zero_add, Nat.sub_zero, eM_st hj]
  · rw [if_neg (by omega), if_neg hj, eM_oth (by decide) (by decide)]
theorem c_back (hM : IsMo D) {g : Nat → Int32} : Runs MX7_moves 0 [.ref 855, .int (nI 0), .ref 854, .int (nI 0), vJ] [] D (eM (keepM m f) g) z Q = Q vJ D (eM (keepM m f) (mixF f g)) z := by
  simp only [IsMo] at hM
  rw [c_moves hM.2.2.1.2.1 hM.2.2.1.1 hM.2.2.2.2.1 hM.2.2.2.1 (by decide) (by decide) (by decide) (by decide) (by decide), ← eM_row]
  congr 1
  unfold mvF
  congr 1
  funext j
  by_cases hj : j < 346
  · rw [if_pos (by omega), if_pos hj, Nat.zero_add, Nat.sub_zero, eM_oth (by decide) (by decide)]
    unfold keepM
    rw [setR_eq]
    exact if_pos hj
  · rw [if_neg (by omega), if_neg hj]
theorem m_ifPassed_bad (hM : IsMo D) {x y : Int32} (h : ((decide (nI 1 ≤ x) && decide (x ≤ nI 200)) && inR y 3) = false) : Runs MX7_ifPassed 0 [.ref 853, .int x, .int y] [] D m z Q = Q (.int m2) D m z := by
  simp only [IsMo] at hM
  cases h1 : (decide (nI 1 ≤ x) && decide (x ≤ nI 200))
  · simp (disch := omega) only [sX7_ifPassed_0, sX7_ifPassed_1, sX7_ifPassed_2, sX7_ifPassed_5, sX7_ifPassed_8, sX7_ifPassed_11, sX7_ifPassed_12, sX7_ifPassed_13, sX7_ifPassed_14, sX7_ifPassed_17, sX7_ifPassed_20, sX7_ifPassed_22, sX7_ifPassed_23, sX7_ifPassed_24, sX7_ifPassed_27, sX7_ifPassed_28, sX7_ifPassed_29, sX7_ifPassed_32, sX7_ifPassed_33, sX7_ifPassed_36, sX7_ifPassed_37, sX7_ifPassed_38, sX7_ifPassed_41, sX7_ifPassed_42, sX7_ifPassed_45, sX7_ifPassed_46, sX7_ifPassed_47, sX7_ifPassed_50, sX7_ifPassed_51, sX7_ifPassed_54, sX7_ifPassed_55, sX7_ifPassed_58, sX7_ifPassed_59, sX7_ifPassed_62, sX7_ifPassed_65, sX7_ifPassed_66, sX7_ifPassed_67, sX7_ifPassed_70, sX7_ifPassed_71, sX7_ifPassed_74, sX7_ifPassed_77, sX7_ifPassed_78, sX7_ifPassed_81, hM, true_and, and_true, true_or, or_true, eq_self, ↓reduceIte, if_true, if_false, nI_add, nI_mul, inB_nI, nI_clamp, Nat.add_zero, eqI, ltI, leI, m6_ne, ne_m6, Nat.reduceEqDiff, reduceCtorEq, Nat.reduceLT, Nat.reduceLeDiff, Nat.reduceAdd, Nat.reduceMul, Nat.zero_add, Nat.mul_zero, nar_0, nar_1, nar_b, bI_t, bI_f, bI_0, bI_1, Bool.true_eq_false, Bool.false_eq_true, Bool.and_self, Bool.and_false, Bool.false_and, Bool.true_and, Bool.and_true, and_self, c_within, h1]
  · rw [h1, Bool.true_and] at h
    simp (disch := omega) only [sX7_ifPassed_0, sX7_ifPassed_1, sX7_ifPassed_2, sX7_ifPassed_5, sX7_ifPassed_8, sX7_ifPassed_11, sX7_ifPassed_12, sX7_ifPassed_13, sX7_ifPassed_14, sX7_ifPassed_17, sX7_ifPassed_20, sX7_ifPassed_22, sX7_ifPassed_23, sX7_ifPassed_24, sX7_ifPassed_27, sX7_ifPassed_28, sX7_ifPassed_29, sX7_ifPassed_32, sX7_ifPassed_33, sX7_ifPassed_36, sX7_ifPassed_37, sX7_ifPassed_38, sX7_ifPassed_41, sX7_ifPassed_42, sX7_ifPassed_45, sX7_ifPassed_46, sX7_ifPassed_47, sX7_ifPassed_50, sX7_ifPassed_51, sX7_ifPassed_54, sX7_ifPassed_55, sX7_ifPassed_58, sX7_ifPassed_59, sX7_ifPassed_62, sX7_ifPassed_65, sX7_ifPassed_66, sX7_ifPassed_67, sX7_ifPassed_70, sX7_ifPassed_71, sX7_ifPassed_74, sX7_ifPassed_77, sX7_ifPassed_78, sX7_ifPassed_81, hM, true_and, and_true, true_or, or_true, eq_self, ↓reduceIte, if_true, if_false, nI_add, nI_mul, inB_nI, nI_clamp, Nat.add_zero, eqI, ltI, leI, m6_ne, ne_m6, Nat.reduceEqDiff, reduceCtorEq, Nat.reduceLT, Nat.reduceLeDiff, Nat.reduceAdd, Nat.reduceMul, Nat.zero_add, Nat.mul_zero, nar_0, nar_1, nar_b, bI_t, bI_f, bI_0, bI_1, Bool.true_eq_false, Bool.false_eq_true, Bool.and_self, Bool.and_false, Bool.false_and, Bool.true_and, Bool.and_true, and_self, c_within, h1, inR4, h]
theorem m_ifPassed (hM : IsMo D) (hW : WF f nF nT) {k w : Nat} (h0 : 1 ≤ k) (hk : k ≤ 200) (hw : w < 3) : Runs MX7_ifPassed 0 [.ref 853, .int (nI k), .int (nI w)] [] D (eM m f) z Q = Q (.int (gG (passesF k f) (346 + w))) D (eM (keepM m f) (mixF f (passesF k f))) z := by
  have h1 := hM
  simp only [IsMo] at h1
  have hp : ∀ Q, Runs MX7_passes 0 [.ref 853, .int (nI k), vJ] [] D (eM (keepM m f) f) z Q = Q vJ D (eM (keepM m f) (passesF k f)) z := fun Q => c_passes hM hW (by omega)
  have e : ∀ j, 346 ≤ j → j ≤ 348 → gG (mixF f (passesF k f)) j = gG (passesF k f) j := fun j h1 h2 => by unfold gG mixF; rw [if_pos ⟨h1, h2⟩]
  have e6 := e 346 (by decide) (by decide)
  have e7 := e 347 (by decide) (by decide)
  have e8 := e 348 (by decide) (by decide)
  rcases (by omega : w = 0 ∨ w = 1 ∨ w = 2) with rfl | rfl | rfl <;>
    simp (disch := omega) only [sX7_ifPassed_0, sX7_ifPassed_1, sX7_ifPassed_2, sX7_ifPassed_5, sX7_ifPassed_8, sX7_ifPassed_11, sX7_ifPassed_12, sX7_ifPassed_13, sX7_ifPassed_14, sX7_ifPassed_17, sX7_ifPassed_20, sX7_ifPassed_22, sX7_ifPassed_23, sX7_ifPassed_24, sX7_ifPassed_27, sX7_ifPassed_28, sX7_ifPassed_29, sX7_ifPassed_32, sX7_ifPassed_33, sX7_ifPassed_36, sX7_ifPassed_37, sX7_ifPassed_38, sX7_ifPassed_41, sX7_ifPassed_42, sX7_ifPassed_45, sX7_ifPassed_46, sX7_ifPassed_47, sX7_ifPassed_50, sX7_ifPassed_51, sX7_ifPassed_54, sX7_ifPassed_55, sX7_ifPassed_58, sX7_ifPassed_59, sX7_ifPassed_62, sX7_ifPassed_65, sX7_ifPassed_66, sX7_ifPassed_67, sX7_ifPassed_70, sX7_ifPassed_71, sX7_ifPassed_74, sX7_ifPassed_77, sX7_ifPassed_78, sX7_ifPassed_81, h1, true_and, and_true, true_or, or_true, eq_self, ↓reduceIte, if_true, if_false, nI_add, nI_mul, inB_nI, nI_clamp, Nat.add_zero, eqI, ltI, leI, m6_ne, ne_m6, Nat.reduceEqDiff, reduceCtorEq, Nat.reduceLT, Nat.reduceLeDiff, Nat.reduceAdd, Nat.reduceMul, Nat.zero_add, Nat.mul_zero, nar_0, nar_1, nar_b, bI_t, bI_f, bI_0, bI_1, Bool.true_eq_false, Bool.false_eq_true, Bool.and_self, Bool.and_false, Bool.false_and, Bool.true_and, Bool.and_true, and_self, c_within, Nat.zero_le, decide_true, h0, hk, c_keep hM, hp, c_back hM, eM_g8, eM_g9, eM_g10, e6, e7, e8]
theorem l_until (hM : IsMo D) {n : Nat} : ∀ (k i : Nat) (g : Nat → Int32) (v : Value), WF g nF nT → i + k = 500 → Runs MX7_untilOver 15 [.ref 853, .int (nI i), v] [] D (eM (keepM m f) g) z Q = Q (.int (uF nT k i g).1) D (eM (keepM m f) (mixF f (uF nT k i g).2)) z := by
  have h1 := hM
  simp only [IsMo] at h1
  intro k
  induction k with
  | zero =>
    intro i g v hW hi
    obtain rfl : i = 500 := by omega
    obtain ⟨⟨g2, hF, g3, hT⟩, -⟩ := id hW
    have hov : ∀ Q, Runs MX7_isOver 0 [.ref 853] [] D (eM (keepM m f) g) z Q = Q (.int (bI (ovB g nT))) D (eM (keepM m f) g) z := fun Q => c_isOver hM g3 hT
    rw [sX7_untilOver_15]
    cases hb : ovB g nT <;> simp (disch := omega) only [sX7_untilOver_0, sX7_untilOver_1, sX7_untilOver_4, sX7_untilOver_5, sX7_untilOver_6, sX7_untilOver_9, sX7_untilOver_10, sX7_untilOver_13, sX7_untilOver_14, sX7_untilOver_16, sX7_untilOver_19, sX7_untilOver_22, sX7_untilOver_23, sX7_untilOver_26, sX7_untilOver_29, sX7_untilOver_30, sX7_untilOver_33, sX7_untilOver_36, sX7_untilOver_39, sX7_untilOver_40, sX7_untilOver_43, sX7_untilOver_46, sX7_untilOver_47, sX7_untilOver_50, sX7_untilOver_52, sX7_untilOver_53, sX7_untilOver_54, sX7_untilOver_57, sX7_untilOver_58, sX7_untilOver_59, sX7_untilOver_62, sX7_untilOver_63, sX7_untilOver_66, sX7_untilOver_67, h1, true_and, and_true, true_or, or_true, eq_self, ↓reduceIte, if_true, if_false, nI_add, nI_mul, inB_nI, nI_clamp, Nat.add_zero, eqI, ltI, leI, m6_ne, ne_m6, Nat.reduceEqDiff, reduceCtorEq, Nat.reduceLT, Nat.reduceLeDiff, Nat.reduceAdd, Nat.reduceMul, Nat.zero_add, Nat.mul_zero, nar_0, nar_1, nar_b, bI_t, bI_f, bI_0, bI_1, Bool.true_eq_false, Bool.false_eq_true, Bool.and_self, Bool.and_false, Bool.false_and, Bool.true_and, Bool.and_true, and_self, hov, hb, c_back hM, uF]
  | succ k ih =>
    intro i g v hW hi
    obtain ⟨⟨g2, hF, g3, hT⟩, -⟩ := id hW
    have hov : ∀ Q, Runs MX7_isOver 0 [.ref 853] [] D (eM (keepM m f) g) z Q = Q (.int (bI (ovB g nT))) D (eM (keepM m f) g) z := fun Q => c_isOver hM g3 hT
    have hs : ∀ Q, Runs MX7_slot 0 [.ref 853] [] D (eM (keepM m f) g) z Q = Q vJ D (eM (keepM m f) (slotF g)) z := fun Q => c_slot hM hW
    have ih := ih (i + 1) (slotF g) v hW.slot (by omega)
    have hlt : ¬ 500 ≤ i := by omega
    rw [sX7_untilOver_15]
    cases hb : ovB g nT
    · simp (disch := omega) only [sX7_untilOver_0, sX7_untilOver_1, sX7_untilOver_4, sX7_untilOver_5, sX7_untilOver_6, sX7_untilOver_9, sX7_untilOver_10, sX7_untilOver_13, sX7_untilOver_14, sX7_untilOver_16, sX7_untilOver_19, sX7_untilOver_22, sX7_untilOver_23, sX7_untilOver_26, sX7_untilOver_29, sX7_untilOver_30, sX7_untilOver_33, sX7_untilOver_36, sX7_untilOver_39, sX7_untilOver_40, sX7_untilOver_43, sX7_untilOver_46, sX7_untilOver_47, sX7_untilOver_50, sX7_untilOver_52, sX7_untilOver_53, sX7_untilOver_54, sX7_untilOver_57, sX7_untilOver_58, sX7_untilOver_59, sX7_untilOver_62, sX7_untilOver_63, sX7_untilOver_66, sX7_untilOver_67, h1, true_and, and_true, true_or, or_true, eq_self, ↓reduceIte, if_true, if_false, nI_add, nI_mul, inB_nI, nI_clamp, Nat.add_zero, eqI, ltI, leI, m6_ne, ne_m6, Nat.reduceEqDiff, reduceCtorEq, Nat.reduceLT, Nat.reduceLeDiff, Nat.reduceAdd, Nat.reduceMul, Nat.zero_add, Nat.mul_zero, nar_0, nar_1, nar_b, bI_t, bI_f, bI_0, bI_1, Bool.true_eq_false, Bool.false_eq_true, Bool.and_self, Bool.and_false, Bool.false_and, Bool.true_and, Bool.and_true, and_self, hov, hb, hlt, hs, ih, uF]
    · simp (disch := omega) only [sX7_untilOver_0, sX7_untilOver_1, sX7_untilOver_4, sX7_untilOver_5, sX7_untilOver_6, sX7_untilOver_9, sX7_untilOver_10, sX7_untilOver_13, sX7_untilOver_14, sX7_untilOver_16, sX7_untilOver_19, sX7_untilOver_22, sX7_untilOver_23, sX7_untilOver_26, sX7_untilOver_29, sX7_untilOver_30, sX7_untilOver_33, sX7_untilOver_36, sX7_untilOver_39, sX7_untilOver_40, sX7_untilOver_43, sX7_untilOver_46, sX7_untilOver_47, sX7_untilOver_50, sX7_untilOver_52, sX7_untilOver_53, sX7_untilOver_54, sX7_untilOver_57, sX7_untilOver_58, sX7_untilOver_59, sX7_untilOver_62, sX7_untilOver_63, sX7_untilOver_66, sX7_untilOver_67, h1, true_and, and_true, true_or, or_true, eq_self, ↓reduceIte, if_true, if_false, nI_add, nI_mul, inB_nI, nI_clamp, Nat.add_zero, eqI, ltI, leI, m6_ne, ne_m6, Nat.reduceEqDiff, reduceCtorEq, Nat.reduceLT, Nat.reduceLeDiff, Nat.reduceAdd, Nat.reduceMul, Nat.zero_add, Nat.mul_zero, nar_0, nar_1, nar_b, bI_t, bI_f, bI_0, bI_1, Bool.true_eq_false, Bool.false_eq_true, Bool.and_self, Bool.and_false, Bool.false_and, Bool.true_and, Bool.and_true, and_self, hov, hb, c_back hM, uF]
theorem m_until (hM : IsMo D) (hW : WF f nF nT) : Runs MX7_untilOver 0 [.ref 853, vJ, vJ] [] D (eM m f) z Q = Q (.int (uF nT 500 0 f).1) D (eM (keepM m f) (mixF f (uF nT 500 0 f).2)) z := by
  have h1 := hM
  simp only [IsMo] at h1
  have h0 := l_until (D := D) (m := m) (f := f) (z := z) (Q := Q) (n := 0) hM 500 0 f vJ hW (by omega)
  simp (disch := omega) only [sX7_untilOver_0, sX7_untilOver_1, sX7_untilOver_4, sX7_untilOver_5, sX7_untilOver_6, sX7_untilOver_9, sX7_untilOver_10, sX7_untilOver_13, sX7_untilOver_14, h1, true_and, and_true, true_or, or_true, eq_self, ↓reduceIte, if_true, if_false, nI_add, nI_mul, inB_nI, nI_clamp, Nat.add_zero, eqI, ltI, leI, m6_ne, ne_m6, Nat.reduceEqDiff, reduceCtorEq, Nat.reduceLT, Nat.reduceLeDiff, Nat.reduceAdd, Nat.reduceMul, Nat.zero_add, Nat.mul_zero, nar_0, nar_1, nar_b, bI_t, bI_f, bI_0, bI_1, Bool.true_eq_false, Bool.false_eq_true, Bool.and_self, Bool.and_false, Bool.false_and, Bool.true_and, Bool.and_true, and_self, c_keep hM]
  exact h0
theorem m_bestPart_bad (hM : IsMo D) {y : Int32} (h : inR y 2 = false) : Runs MX7_bestPart 0 [.ref 853, .int y, vJ, vJ, vJ] [] D m z Q = Q (.int m2) D m z := by
  simp only [IsMo] at hM
  simp (disch := omega) only [sX7_bestPart_0, sX7_bestPart_1, sX7_bestPart_2, sX7_bestPart_3, sX7_bestPart_6, sX7_bestPart_9, sX7_bestPart_11, sX7_bestPart_12, sX7_bestPart_13, sX7_bestPart_16, sX7_bestPart_17, sX7_bestPart_18, sX7_bestPart_21, sX7_bestPart_22, sX7_bestPart_25, sX7_bestPart_27, sX7_bestPart_28, sX7_bestPart_29, sX7_bestPart_30, sX7_bestPart_31, sX7_bestPart_35, sX7_bestPart_36, sX7_bestPart_39, sX7_bestPart_40, sX7_bestPart_43, sX7_bestPart_45, sX7_bestPart_47, sX7_bestPart_48, sX7_bestPart_49, sX7_bestPart_50, sX7_bestPart_51, sX7_bestPart_52, sX7_bestPart_53, sX7_bestPart_54, sX7_bestPart_57, sX7_bestPart_60, sX7_bestPart_61, sX7_bestPart_64, sX7_bestPart_65, sX7_bestPart_66, sX7_bestPart_69, sX7_bestPart_70, sX7_bestPart_73, sX7_bestPart_74, sX7_bestPart_77, sX7_bestPart_78, sX7_bestPart_81, sX7_bestPart_83, sX7_bestPart_86, sX7_bestPart_87, sX7_bestPart_88, sX7_bestPart_89, sX7_bestPart_92, sX7_bestPart_93, sX7_bestPart_96, sX7_bestPart_97, sX7_bestPart_100, sX7_bestPart_103, sX7_bestPart_104, sX7_bestPart_105, sX7_bestPart_108, sX7_bestPart_111, sX7_bestPart_112, sX7_bestPart_115, sX7_bestPart_116, sX7_bestPart_119, sX7_bestPart_120, hM, true_and, and_true, true_or, or_true, eq_self, ↓reduceIte, if_true, if_false, nI_add, nI_mul, inB_nI, nI_clamp, Nat.add_zero, eqI, ltI, leI, m6_ne, ne_m6, Nat.reduceEqDiff, reduceCtorEq, Nat.reduceLT, Nat.reduceLeDiff, Nat.reduceAdd, Nat.reduceMul, Nat.zero_add, Nat.mul_zero, nar_0, nar_1, nar_b, bI_t, bI_f, bI_0, bI_1, Bool.true_eq_false, Bool.false_eq_true, Bool.and_self, Bool.and_false, Bool.false_and, Bool.true_and, Bool.and_true, and_self, c_within, inR4, h]
theorem l_bestPart (hM : IsMo D) (hW : WF f nF nT) {N : Nat} (hN : N = 500) {w : Nat} (hw : w < 2) : ∀ (k i : Nat) (g : Nat → Int32), i + k = 4 → ∃ g', Runs MX7_bestPart 33 [.ref 853, .int (nI w), .int (bpF N f i).1, .int (bpF N f i).2, .int (nI i)] [] D (eM (keepM m f) (mixF f g)) z Q = Q (.int (if w = 0 then (bpF N f 4).1 else (bpF N f 4).2)) D (eM (keepM m f) (mixF f g')) z := by
  have h1 := hM
  simp only [IsMo] at h1
  have hN' : nI 500 = nI N := by rw [hN]
  intro k
  induction k with
  | zero =>
    intro i g hi
    obtain rfl : i = 4 := by omega
    refine ⟨g, ?_⟩
    rw [sX7_bestPart_33]
    rcases (by omega : w = 0 ∨ w = 1) with rfl | rfl <;> simp (disch := omega) only [sX7_bestPart_0, sX7_bestPart_1, sX7_bestPart_2, sX7_bestPart_3, sX7_bestPart_6, sX7_bestPart_9, sX7_bestPart_11, sX7_bestPart_12, sX7_bestPart_13, sX7_bestPart_16, sX7_bestPart_17, sX7_bestPart_18, sX7_bestPart_21, sX7_bestPart_22, sX7_bestPart_25, sX7_bestPart_27, sX7_bestPart_28, sX7_bestPart_29, sX7_bestPart_30, sX7_bestPart_31, sX7_bestPart_35, sX7_bestPart_36, sX7_bestPart_39, sX7_bestPart_40, sX7_bestPart_43, sX7_bestPart_45, sX7_bestPart_47, sX7_bestPart_48, sX7_bestPart_49, sX7_bestPart_50, sX7_bestPart_51, sX7_bestPart_52, sX7_bestPart_53, sX7_bestPart_54, sX7_bestPart_57, sX7_bestPart_60, sX7_bestPart_61, sX7_bestPart_64, sX7_bestPart_65, sX7_bestPart_66, sX7_bestPart_69, sX7_bestPart_70, sX7_bestPart_73, sX7_bestPart_74, sX7_bestPart_77, sX7_bestPart_78, sX7_bestPart_81, sX7_bestPart_83, sX7_bestPart_86, sX7_bestPart_87, sX7_bestPart_88, sX7_bestPart_89, sX7_bestPart_92, sX7_bestPart_93, sX7_bestPart_96, sX7_bestPart_97, sX7_bestPart_100, sX7_bestPart_103, sX7_bestPart_104, sX7_bestPart_105, sX7_bestPart_108, sX7_bestPart_111, sX7_bestPart_112, sX7_bestPart_115, sX7_bestPart_116, sX7_bestPart_119, sX7_bestPart_120, h1, true_and, and_true, true_or, or_true, eq_self, ↓reduceIte, if_true, if_false, nI_add, nI_mul, inB_nI, nI_clamp, Nat.add_zero, eqI, ltI, leI, m6_ne, ne_m6, Nat.reduceEqDiff, reduceCtorEq, Nat.reduceLT, Nat.reduceLeDiff, Nat.reduceAdd, Nat.reduceMul, Nat.zero_add, Nat.mul_zero, nar_0, nar_1, nar_b, bI_t, bI_f, bI_0, bI_1, Bool.true_eq_false, Bool.false_eq_true, Bool.and_self, Bool.and_false, Bool.false_and, Bool.true_and, Bool.and_true, and_self]
  | succ k ih =>
    intro i g hi
    have hlt : ¬ 4 ≤ i := by omega
    have hWm : WF (sG (mixF f g) (6 + i) (gG f (6 + i) + nI 1)) nF nT := (hW.same (fun k hk => mix_g (by omega)) (fun u k hu hk => by unfold gT mixF; rw [if_neg (by omega)]) (fun j k hj hk => by unfold gF mixF; rw [if_neg (by omega)])).sG _ (by omega)
    have ep : passesF N (sG (mixF f g) (6 + i) (gG f (6 + i) + nI 1)) = passesF N (sG f (6 + i) (gG f (6 + i) + nI 1)) := by unfold passesF; rw [mix_zero (by omega)]
    have hp : ∀ Q, Runs MX7_passes 0 [.ref 853, .int (nI N), vJ] [] D (eM (keepM m f) (sG (mixF f g) (6 + i) (gG f (6 + i) + nI 1))) z Q = Q vJ D (eM (keepM m f) (passesF N (sG f (6 + i) (gG f (6 + i) + nI 1)))) z := fun Q => by rw [c_passes hM hWm (by omega), ep]
    have hv : gG (mixF f (passesF N (sG f (6 + i) (gG f (6 + i) + nI 1)))) 346 = bpV N f i := by rw [mix_c (by decide) (by decide), bpV]
    obtain ⟨g', ih⟩ := ih (i + 1) (passesF N (sG f (6 + i) (gG f (6 + i) + nI 1))) (by omega)
    refine ⟨g', ?_⟩
    rw [← ih]
    have hmg : gG (mixF f g) (6 + i) = gG f (6 + i) := mix_g (by omega)
    rw [sX7_bestPart_33]
    by_cases hb : (bpF N f i).2 < bpV N f i
    · have hb2 : ¬ bpV N f i ≤ (bpF N f i).2 := Int32.not_le.mpr hb
      have e : bpF N f (i + 1) = (nI i, bpV N f i) := by simp only [bpF, hb, if_true]
      rw [e]
      simp (disch := omega) only [sX7_bestPart_0, sX7_bestPart_1, sX7_bestPart_2, sX7_bestPart_3, sX7_bestPart_6, sX7_bestPart_9, sX7_bestPart_11, sX7_bestPart_12, sX7_bestPart_13, sX7_bestPart_16, sX7_bestPart_17, sX7_bestPart_18, sX7_bestPart_21, sX7_bestPart_22, sX7_bestPart_25, sX7_bestPart_27, sX7_bestPart_28, sX7_bestPart_29, sX7_bestPart_30, sX7_bestPart_31, sX7_bestPart_35, sX7_bestPart_36, sX7_bestPart_39, sX7_bestPart_40, sX7_bestPart_43, sX7_bestPart_45, sX7_bestPart_47, sX7_bestPart_48, sX7_bestPart_49, sX7_bestPart_50, sX7_bestPart_51, sX7_bestPart_52, sX7_bestPart_53, sX7_bestPart_54, sX7_bestPart_57, sX7_bestPart_60, sX7_bestPart_61, sX7_bestPart_64, sX7_bestPart_65, sX7_bestPart_66, sX7_bestPart_69, sX7_bestPart_70, sX7_bestPart_73, sX7_bestPart_74, sX7_bestPart_77, sX7_bestPart_78, sX7_bestPart_81, sX7_bestPart_83, sX7_bestPart_86, sX7_bestPart_87, sX7_bestPart_88, sX7_bestPart_89, sX7_bestPart_92, sX7_bestPart_93, sX7_bestPart_96, sX7_bestPart_97, sX7_bestPart_100, sX7_bestPart_103, sX7_bestPart_104, sX7_bestPart_105, sX7_bestPart_108, sX7_bestPart_111, sX7_bestPart_112, sX7_bestPart_115, sX7_bestPart_116, sX7_bestPart_119, sX7_bestPart_120, h1, true_and, and_true, true_or, or_true, eq_self, ↓reduceIte, if_true, if_false, nI_add, nI_mul, inB_nI, nI_clamp, Nat.add_zero, eqI, ltI, leI, m6_ne, ne_m6, Nat.reduceEqDiff, reduceCtorEq, Nat.reduceLT, Nat.reduceLeDiff, Nat.reduceAdd, Nat.reduceMul, Nat.zero_add, Nat.mul_zero, nar_0, nar_1, nar_b, bI_t, bI_f, bI_0, bI_1, Bool.true_eq_false, Bool.false_eq_true, Bool.and_self, Bool.and_false, Bool.false_and, Bool.true_and, Bool.and_true, and_self, hN', hlt, eM_gG, eM_sG, hmg, hp, c_back hM, eM_g8, hv, hb, hb2]
    · have hb2 : bpV N f i ≤ (bpF N f i).2 := Int32.not_lt.mp hb
      have e : bpF N f (i + 1) = bpF N f i := by simp only [bpF, hb, if_false]
      rw [e]
      simp (disch := omega) only [sX7_bestPart_0, sX7_bestPart_1, sX7_bestPart_2, sX7_bestPart_3, sX7_bestPart_6, sX7_bestPart_9, sX7_bestPart_11, sX7_bestPart_12, sX7_bestPart_13, sX7_bestPart_16, sX7_bestPart_17, sX7_bestPart_18, sX7_bestPart_21, sX7_bestPart_22, sX7_bestPart_25, sX7_bestPart_27, sX7_bestPart_28, sX7_bestPart_29, sX7_bestPart_30, sX7_bestPart_31, sX7_bestPart_35, sX7_bestPart_36, sX7_bestPart_39, sX7_bestPart_40, sX7_bestPart_43, sX7_bestPart_45, sX7_bestPart_47, sX7_bestPart_48, sX7_bestPart_49, sX7_bestPart_50, sX7_bestPart_51, sX7_bestPart_52, sX7_bestPart_53, sX7_bestPart_54, sX7_bestPart_57, sX7_bestPart_60, sX7_bestPart_61, sX7_bestPart_64, sX7_bestPart_65, sX7_bestPart_66, sX7_bestPart_69, sX7_bestPart_70, sX7_bestPart_73, sX7_bestPart_74, sX7_bestPart_77, sX7_bestPart_78, sX7_bestPart_81, sX7_bestPart_83, sX7_bestPart_86, sX7_bestPart_87, sX7_bestPart_88, sX7_bestPart_89, sX7_bestPart_92, sX7_bestPart_93, sX7_bestPart_96, sX7_bestPart_97, sX7_bestPart_100, sX7_bestPart_103, sX7_bestPart_104, sX7_bestPart_105, sX7_bestPart_108, sX7_bestPart_111, sX7_bestPart_112, sX7_bestPart_115, sX7_bestPart_116, sX7_bestPart_119, sX7_bestPart_120, h1, true_and, and_true, true_or, or_true, eq_self, ↓reduceIte, if_true, if_false, nI_add, nI_mul, inB_nI, nI_clamp, Nat.add_zero, eqI, ltI, leI, m6_ne, ne_m6, Nat.reduceEqDiff, reduceCtorEq, Nat.reduceLT, Nat.reduceLeDiff, Nat.reduceAdd, Nat.reduceMul, Nat.zero_add, Nat.mul_zero, nar_0, nar_1, nar_b, bI_t, bI_f, bI_0, bI_1, Bool.true_eq_false, Bool.false_eq_true, Bool.and_self, Bool.and_false, Bool.false_and, Bool.true_and, Bool.and_true, and_self, hN', hlt, eM_gG, eM_sG, hmg, hp, c_back hM, eM_g8, hv, hb, hb2]
theorem m_bestPart (hM : IsMo D) (hW : WF f nF nT) {N : Nat} (hN : N = 500) {w : Nat} (hw : w < 2) : ∃ g', Runs MX7_bestPart 0 [.ref 853, .int (nI w), vJ, vJ, vJ] [] D (eM m f) z Q = Q (.int (if w = 0 then (bpF N f 4).1 else (bpF N f 4).2)) D (eM (keepM m f) (mixF f g')) z := by
  have h1 := hM
  simp only [IsMo] at h1
  obtain ⟨g', h0⟩ := l_bestPart (D := D) (m := m) (f := f) (z := z) (Q := Q) hM hW hN hw 4 0 f (by omega)
  refine ⟨g', ?_⟩
  rw [mix_self] at h0
  have hw1 : w ≤ 1 := by omega
  simp (disch := omega) only [sX7_bestPart_0, sX7_bestPart_1, sX7_bestPart_2, sX7_bestPart_3, sX7_bestPart_6, sX7_bestPart_9, sX7_bestPart_11, sX7_bestPart_12, sX7_bestPart_13, sX7_bestPart_16, sX7_bestPart_17, sX7_bestPart_18, sX7_bestPart_21, sX7_bestPart_22, sX7_bestPart_25, sX7_bestPart_27, sX7_bestPart_28, sX7_bestPart_29, sX7_bestPart_30, sX7_bestPart_31, h1, true_and, and_true, true_or, or_true, eq_self, ↓reduceIte, if_true, if_false, nI_add, nI_mul, inB_nI, nI_clamp, Nat.add_zero, eqI, ltI, leI, m6_ne, ne_m6, Nat.reduceEqDiff, reduceCtorEq, Nat.reduceLT, Nat.reduceLeDiff, Nat.reduceAdd, Nat.reduceMul, Nat.zero_add, Nat.mul_zero, nar_0, nar_1, nar_b, bI_t, bI_f, bI_0, bI_1, Bool.true_eq_false, Bool.false_eq_true, Bool.and_self, Bool.and_false, Bool.false_and, Bool.true_and, Bool.and_true, and_self, c_within, Nat.zero_le, hw1, decide_true, c_keep hM]
  exact h0
theorem m_undo_no (hM : IsMo D) (hr : m 853 3 = nI 0) : Runs MX7_undo 0 [.ref 853] [] D m z Q = Q (.int m5) D m z := by
  simp only [IsMo] at hM
  simp (disch := omega) only [sX7_undo_0, sX7_undo_1, sX7_undo_4, sX7_undo_7, sX7_undo_9, sX7_undo_10, sX7_undo_11, sX7_undo_12, sX7_undo_15, sX7_undo_16, sX7_undo_17, sX7_undo_20, sX7_undo_21, sX7_undo_24, sX7_undo_25, sX7_undo_28, sX7_undo_31, sX7_undo_32, sX7_undo_33, sX7_undo_36, sX7_undo_37, sX7_undo_40, sX7_undo_41, sX7_undo_44, hM, true_and, and_true, true_or, or_true, eq_self, ↓reduceIte, if_true, if_false, nI_add, nI_mul, inB_nI, nI_clamp, Nat.add_zero, eqI, ltI, leI, m6_ne, ne_m6, Nat.reduceEqDiff, reduceCtorEq, Nat.reduceLT, Nat.reduceLeDiff, Nat.reduceAdd, Nat.reduceMul, Nat.zero_add, Nat.mul_zero, nar_0, nar_1, nar_b, bI_t, bI_f, bI_0, bI_1, Bool.true_eq_false, Bool.false_eq_true, Bool.and_self, Bool.and_false, Bool.false_and, Bool.true_and, Bool.and_true, and_self, hr]
def histG (m : vMM) (j : Nat) : Nat → Int32 := fun k => m 856 (346 * j + k)
theorem m_undo (hM : IsMo D) (hr : m 853 3 = nI (r + 1)) (h6 : r < 6) : Runs MX7_undo 0 [.ref 853] [] D (eM m f) z Q = Q (.int (nI r)) D (eM (setR m 853 (upd (m 853) 3 (nI r))) (mixF (histG m r) f)) z := by
  have h1 := hM
  simp only [IsMo] at h1
  have hne : ¬ r + 1 = 0 := by omega
  have e1 : (up2 m 853 3 (nI r)) 853 3 = nI r := by rw [up2_eq, upd_eq]
  have mv : ∀ Q : Value → vDD → vMM → vZZ → Prop, Runs MX7_moves 0 [.ref 856, .int (nI (r * 346)), .ref 854, .int (nI 0), vJ] [] D (eM (up2 m 853 3 (nI r)) f) z Q = Q vJ D (eM (up2 m 853 3 (nI r)) (mixF (histG m r) f)) z := by
    intro Q
    rw [c_moves h1.2.2.1.2.2.1 h1.2.2.1.1 h1.2.2.2.2.2.1 h1.2.2.2.1 (by decide) (by omega) (by decide) (by decide) (by decide), ← eM_row]
    congr 1
    unfold mvF
    congr 1
    funext j
    by_cases hj : j < 346
    · rw [if_pos (by omega), if_pos hj, eM_oth (a := 856) (by decide) (by decide), up2_ne (by decide)]
      unfold histG
      congr 1
      omega
    · rw [if_neg (by omega), if_neg hj]
  have e2 : up2 m 853 3 (nI r) = setR m 853 (upd (m 853) 3 (nI r)) := rfl
  rw [← e2]
  simp (disch := omega) only [sX7_undo_0, sX7_undo_1, sX7_undo_4, sX7_undo_7, sX7_undo_9, sX7_undo_10, sX7_undo_11, sX7_undo_12, sX7_undo_15, sX7_undo_16, sX7_undo_17, sX7_undo_20, sX7_undo_21, sX7_undo_24, sX7_undo_25, sX7_undo_28, sX7_undo_31, sX7_undo_32, sX7_undo_33, sX7_undo_36, sX7_undo_37, sX7_undo_40, sX7_undo_41, sX7_undo_44, h1, true_and, and_true, true_or, or_true, eq_self, ↓reduceIte, if_true, if_false, nI_add, nI_mul, inB_nI, nI_clamp, Nat.add_zero, eqI, ltI, leI, m6_ne, ne_m6, Nat.reduceEqDiff, reduceCtorEq, Nat.reduceLT, Nat.reduceLeDiff, Nat.reduceAdd, Nat.reduceMul, Nat.zero_add, Nat.mul_zero, nar_0, nar_1, nar_b, bI_t, bI_f, bI_0, bI_1, Bool.true_eq_false, Bool.false_eq_true, Bool.and_self, Bool.and_false, Bool.false_and, Bool.true_and, Bool.and_true, and_self, eM_fld, hr, ne_eq, not_false_eq_true, hne, nI_sub, Nat.add_sub_cancel, eM_upf, e1, mv]
theorem m_save_bad (hM : IsMo D) {y : Int32} (h : inR y 2 = false) : Runs MX7_save 0 [.ref 853, .int y] [] D m z Q = Q (.int m2) D m z := by
  simp only [IsMo] at hM
  simp (disch := omega) only [sX7_save_0, sX7_save_1, sX7_save_2, sX7_save_3, sX7_save_6, sX7_save_9, sX7_save_11, sX7_save_12, sX7_save_13, sX7_save_16, sX7_save_17, sX7_save_18, sX7_save_21, sX7_save_24, sX7_save_25, sX7_save_26, sX7_save_29, sX7_save_30, sX7_save_33, sX7_save_34, sX7_save_35, sX7_save_36, sX7_save_37, sX7_save_40, sX7_save_41, sX7_save_42, hM, true_and, and_true, true_or, or_true, eq_self, ↓reduceIte, if_true, if_false, nI_add, nI_mul, inB_nI, nI_clamp, Nat.add_zero, eqI, ltI, leI, m6_ne, ne_m6, Nat.reduceEqDiff, reduceCtorEq, Nat.reduceLT, Nat.reduceLeDiff, Nat.reduceAdd, Nat.reduceMul, Nat.zero_add, Nat.mul_zero, nar_0, nar_1, nar_b, bI_t, bI_f, bI_0, bI_1, Bool.true_eq_false, Bool.false_eq_true, Bool.and_self, Bool.and_false, Bool.false_and, Bool.true_and, Bool.and_true, and_self, c_within, inR4, h]
def saveM (m : vMM) (f : Nat → Int32) (p : Nat) : vMM := setR (setR m 857 (fun j => if 346 * p ≤ j ∧ j < 346 * p + 346 then f (j - 346 * p) else m 857 j)) 858 (upd (m 858) p (nI 1))
theorem m_save (hM : IsMo D) {p : Nat} (hp : p < 2) : Runs MX7_save 0 [.ref 853, .int (nI p)] [] D (eM m f) z Q = Q (.int (gG f 3)) D (eM (saveM m f p) f) z := by
  have h1 := hM
  simp only [IsMo] at h1
  have hp1 : p ≤ 1 := by omega
  have mv : ∀ Q : Value → vDD → vMM → vZZ → Prop, Runs MX7_moves 0 [.ref 854, .int (nI 0), .ref 857, .int (nI (346 * p)), vJ] [] D (eM m f) z Q = Q vJ D (eM (setR m 857 (fun j => if 346 * p ≤ j ∧ j < 346 * p + 346 then f (j - 346 * p) else m 857 j)) f) z := by
    intro Q
    rw [c_moves h1.2.2.1.1 h1.2.2.1.2.2.2.1 h1.2.2.2.1 h1.2.2.2.2.2.2.1 (by decide) (by decide) (by omega) (by decide) (by decide)]
    congr 1
    unfold mvF
    rw [eM_setR (by decide) (by decide)]
    congr 2
    funext j
    by_cases hc : 346 * p ≤ j ∧ j < 346 * p + 346
    · rw [if_pos hc, if_pos hc, Nat.zero_add, eM_st (by omega)]
    · rw [if_neg hc, if_neg hc, eM_oth (a := 857) (by decide) (by decide)]
  simp (disch := omega) only [sX7_save_0, sX7_save_1, sX7_save_2, sX7_save_3, sX7_save_6, sX7_save_9, sX7_save_11, sX7_save_12, sX7_save_13, sX7_save_16, sX7_save_17, sX7_save_18, sX7_save_21, sX7_save_24, sX7_save_25, sX7_save_26, sX7_save_29, sX7_save_30, sX7_save_33, sX7_save_34, sX7_save_35, sX7_save_36, sX7_save_37, sX7_save_40, sX7_save_41, sX7_save_42, h1, true_and, and_true, true_or, or_true, eq_self, ↓reduceIte, if_true, if_false, nI_add, nI_mul, inB_nI, nI_clamp, Nat.add_zero, eqI, ltI, leI, m6_ne, ne_m6, Nat.reduceEqDiff, reduceCtorEq, Nat.reduceLT, Nat.reduceLeDiff, Nat.reduceAdd, Nat.reduceMul, Nat.zero_add, Nat.mul_zero, nar_0, nar_1, nar_b, bI_t, bI_f, bI_0, bI_1, Bool.true_eq_false, Bool.false_eq_true, Bool.and_self, Bool.and_false, Bool.false_and, Bool.true_and, Bool.and_true, and_self, c_within, Nat.zero_le, hp1, decide_true, mv, eM_upo, ne_eq, not_false_eq_true, eM_gG]
  unfold saveM
  rw [up2_R, setR_ne (a := 857) (q := 858) (by decide)]
theorem m_restore_bad (hM : IsMo D) {y : Int32} (h : inR y 2 = false) : Runs MX7_restore 0 [.ref 853, .int y] [] D m z Q = Q (.int m2) D m z := by
  simp only [IsMo] at hM
  simp (disch := omega) only [sX7_restore_0, sX7_restore_1, sX7_restore_2, sX7_restore_3, sX7_restore_6, sX7_restore_9, sX7_restore_11, sX7_restore_12, sX7_restore_13, sX7_restore_16, sX7_restore_17, sX7_restore_18, sX7_restore_21, sX7_restore_23, sX7_restore_24, sX7_restore_25, sX7_restore_28, sX7_restore_29, sX7_restore_32, sX7_restore_35, sX7_restore_36, sX7_restore_37, sX7_restore_38, sX7_restore_41, sX7_restore_42, sX7_restore_45, sX7_restore_46, sX7_restore_49, sX7_restore_50, sX7_restore_51, hM, true_and, and_true, true_or, or_true, eq_self, ↓reduceIte, if_true, if_false, nI_add, nI_mul, inB_nI, nI_clamp, Nat.add_zero, eqI, ltI, leI, m6_ne, ne_m6, Nat.reduceEqDiff, reduceCtorEq, Nat.reduceLT, Nat.reduceLeDiff, Nat.reduceAdd, Nat.reduceMul, Nat.zero_add, Nat.mul_zero, nar_0, nar_1, nar_b, bI_t, bI_f, bI_0, bI_1, Bool.true_eq_false, Bool.false_eq_true, Bool.and_self, Bool.and_false, Bool.false_and, Bool.true_and, Bool.and_true, and_self, c_within, inR4, h]
theorem m_restore_no (hM : IsMo D) {p : Nat} (hp : p < 2) (h : m 858 p = nI 0) : Runs MX7_restore 0 [.ref 853, .int (nI p)] [] D m z Q = Q (.int m5) D m z := by
  simp only [IsMo] at hM
  have hp1 : p ≤ 1 := by omega
  simp (disch := omega) only [sX7_restore_0, sX7_restore_1, sX7_restore_2, sX7_restore_3, sX7_restore_6, sX7_restore_9, sX7_restore_11, sX7_restore_12, sX7_restore_13, sX7_restore_16, sX7_restore_17, sX7_restore_18, sX7_restore_21, sX7_restore_23, sX7_restore_24, sX7_restore_25, sX7_restore_28, sX7_restore_29, sX7_restore_32, sX7_restore_35, sX7_restore_36, sX7_restore_37, sX7_restore_38, sX7_restore_41, sX7_restore_42, sX7_restore_45, sX7_restore_46, sX7_restore_49, sX7_restore_50, sX7_restore_51, hM, true_and, and_true, true_or, or_true, eq_self, ↓reduceIte, if_true, if_false, nI_add, nI_mul, inB_nI, nI_clamp, Nat.add_zero, eqI, ltI, leI, m6_ne, ne_m6, Nat.reduceEqDiff, reduceCtorEq, Nat.reduceLT, Nat.reduceLeDiff, Nat.reduceAdd, Nat.reduceMul, Nat.zero_add, Nat.mul_zero, nar_0, nar_1, nar_b, bI_t, bI_f, bI_0, bI_1, Bool.true_eq_false, Bool.false_eq_true, Bool.and_self, Bool.and_false, Bool.false_and, Bool.true_and, Bool.and_true, and_self, c_within, Nat.zero_le, hp1, decide_true, h]
def saveG (m : vMM) (p : Nat) : Nat → Int32 := fun k => m 857 (346 * p + k)
theorem m_restore (hM : IsMo D) (hr : m 853 3 = nI r) (h6 : r ≤ 6) {p : Nat} (hp : p < 2) (h : m 858 p = nI 1) : Runs MX7_restore 0 [.ref 853, .int (nI p)] [] D (eM m f) z Q = Q (.int (saveG m p 3)) D (eM (recM m f r) (mixF (saveG m p) f)) z := by
  have h1 := hM
  simp only [IsMo] at h1
  have hp1 : p ≤ 1 := by omega
  have h' : eM m f 858 p = nI 1 := by rw [eM_oth (by decide) (by decide)]; exact h
  have mv : ∀ Q : Value → vDD → vMM → vZZ → Prop, Runs MX7_moves 0 [.ref 857, .int (nI (346 * p)), .ref 854, .int (nI 0), vJ] [] D (eM (recM m f r) f) z Q = Q vJ D (eM (recM m f r) (mixF (saveG m p) f)) z := by
    intro Q
    rw [c_moves h1.2.2.1.2.2.2.1 h1.2.2.1.1 h1.2.2.2.2.2.2.1 h1.2.2.2.1 (by decide) (by omega) (by decide) (by decide) (by decide), ← eM_row]
    congr 1
    unfold mvF
    congr 1
    funext j
    by_cases hj : j < 346
    · rw [if_pos (by omega), if_pos hj, eM_oth (a := 857) (by decide) (by decide)]
      unfold recM saveG
      rw [setR_ne (by decide), setR_ne (by decide)]
      congr 1
    · rw [if_neg (by omega), if_neg hj]
  have e3 : gG (mixF (saveG m p) f) 3 = saveG m p 3 := mix_g (by decide)
  simp (disch := omega) only [sX7_restore_0, sX7_restore_1, sX7_restore_2, sX7_restore_3, sX7_restore_6, sX7_restore_9, sX7_restore_11, sX7_restore_12, sX7_restore_13, sX7_restore_16, sX7_restore_17, sX7_restore_18, sX7_restore_21, sX7_restore_23, sX7_restore_24, sX7_restore_25, sX7_restore_28, sX7_restore_29, sX7_restore_32, sX7_restore_35, sX7_restore_36, sX7_restore_37, sX7_restore_38, sX7_restore_41, sX7_restore_42, sX7_restore_45, sX7_restore_46, sX7_restore_49, sX7_restore_50, sX7_restore_51, h1, true_and, and_true, true_or, or_true, eq_self, ↓reduceIte, if_true, if_false, nI_add, nI_mul, inB_nI, nI_clamp, Nat.add_zero, eqI, ltI, leI, m6_ne, ne_m6, Nat.reduceEqDiff, reduceCtorEq, Nat.reduceLT, Nat.reduceLeDiff, Nat.reduceAdd, Nat.reduceMul, Nat.zero_add, Nat.mul_zero, nar_0, nar_1, nar_b, bI_t, bI_f, bI_0, bI_1, Bool.true_eq_false, Bool.false_eq_true, Bool.and_self, Bool.and_false, Bool.false_and, Bool.true_and, Bool.and_true, and_self, c_within, Nat.zero_le, hp1, decide_true, h', c_record hM hr h6, mv, eM_gG, e3]
theorem m_wipe (hM : IsMo D) : Runs MX7_wipe 0 [.ref 853, vJ] [] D m z Q = Q (.int (m 853 7)) D (setR m 853 (upd (m 853) 7 (nI 0))) z := by
  simp only [IsMo] at hM
  simp (disch := omega) only [sX7_wipe_0, sX7_wipe_1, sX7_wipe_4, sX7_wipe_5, sX7_wipe_6, sX7_wipe_7, sX7_wipe_10, sX7_wipe_11, hM, true_and, and_true, true_or, or_true, eq_self, ↓reduceIte, if_true, if_false, nI_add, nI_mul, inB_nI, nI_clamp, Nat.add_zero, eqI, ltI, leI, m6_ne, ne_m6, Nat.reduceEqDiff, reduceCtorEq, Nat.reduceLT, Nat.reduceLeDiff, Nat.reduceAdd, Nat.reduceMul, Nat.zero_add, Nat.mul_zero, nar_0, nar_1, nar_b, bI_t, bI_f, bI_0, bI_1, Bool.true_eq_false, Bool.false_eq_true, Bool.and_self, Bool.and_false, Bool.false_and, Bool.true_and, Bool.and_true, and_self, up2_R]
end MDL6
