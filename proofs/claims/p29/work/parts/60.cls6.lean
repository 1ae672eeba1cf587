/-! sets of fixers and things; who comes, what goes -/
theorem i32_or0 (x : Int32) : x ||| nI 0 = x := by
  apply Int32.toBitVec_inj.mp
  rw [Int32.toBitVec_or]
  show x.toBitVec ||| 0#32 = x.toBitVec
  exact BitVec.or_zero
theorem i32_0shl (x : Int32) : nI 0 <<< x = nI 0 := by
  apply Int32.toBitVec_inj.mp
  rw [Int32.toBitVec_shiftLeft]
  show 0#32 <<< _ = 0#32
  simp
/-- the fixers with a skill, the things for skills -/
def swF (f : Nat → Int32) (s : Int32) : Nat → Int32
  | 0 => nI 0
  | n + 1 => if hasF f n s = true then swF f s n ||| (nI 1 <<< (nI n &&& 31)) else swF f s n
def tfF (f : Nat → Int32) (sk : Int32) : Nat → Int32
  | 0 => nI 0
  | n + 1 => if forF f sk n = true then tfF f sk n ||| (nI 1 <<< (nI n &&& 31)) else tfF f sk n
def foF (f : Nat → Int32) (x : Int32) : Nat → Nat → Int32
  | 0, _ => m6
  | k + 1, i => if gF f i 3 = x then nI i else foF f x k (i + 1)
theorem skF_sw {f : Nat → Int32} {t : Nat} (h : gT f t 0 ≠ nI 2) : ∀ n, skF f t n = swF f (nsF f t 0) n
  | 0 => rfl
  | n + 1 => by
    simp only [skF, swF, if_neg h, skF_sw h n]
    cases hasF f n (nsF f t 0)
    · simp only [Bool.false_eq_true, if_false]
      exact i32_or0 _
    · simp only [if_true]
theorem skF_2 {f : Nat → Int32} {t : Nat} (h : gT f t 0 = nI 2) : ∀ n, skF f t n = nI 0
  | 0 => rfl
  | n + 1 => by
    simp only [skF, if_pos h, skF_2 h n]
    exact i32_or0 _
theorem foF_no {f : Nat → Int32} {x : Int32} : ∀ k i, (∀ j, i ≤ j → j < i + k → gF f j 3 ≠ x) → foF f x k i = m6
  | 0, _, _ => rfl
  | k + 1, i, h => by
    simp only [foF, if_neg (h i (by omega) (by omega))]
    exact foF_no k (i + 1) (fun j h1 h2 => h j (by omega) (by omega))
theorem foF_is {f : Nat → Int32} {x : Int32} {u : Nat} (hu : gF f u 3 = x) : ∀ k i, i ≤ u → u < i + k → (∀ j, i ≤ j → j < i + k → j ≠ u → gF f j 3 ≠ x) → foF f x k i = nI u
  | 0, i, h1, h2, _ => by omega
  | k + 1, i, h1, h2, h => by
    by_cases e : i = u
    · subst e
      simp only [foF, if_pos hu]
    · simp only [foF, if_neg (h i (by omega) (by omega) e)]
      exact foF_is hu k (i + 1) (by omega) (by omega) (fun j h3 h4 => h j (by omega) (by omega))
theorem doF_no {f : Nat → Int32} {x : Int32} : ∀ n, (∀ j, j < n → gF f j 3 ≠ x) → doerF f x n = m6
  | 0, _ => rfl
  | n + 1, h => by
    simp only [doerF, if_neg (h n (by omega))]
    exact doF_no n (fun j hj => h j (by omega))
theorem doF_is {f : Nat → Int32} {x : Int32} {u : Nat} (hu : gF f u 3 = x) : ∀ n, u < n → (∀ j, j < n → j ≠ u → gF f j 3 ≠ x) → doerF f x n = nI u
  | 0, h, _ => by omega
  | n + 1, h, hn => by
    by_cases e : n = u
    · subst e
      simp only [doerF, if_pos hu]
    · simp only [doerF, if_neg (hn n (by omega) e)]
      exact doF_is hu n (by omega) (fun j hj => hn j (by omega))
/-- the first that does it is the last -/
theorem foF_do {f : Nat → Int32} {nF nT t : Nat} (hW : WF f nF nT) (ht : t < 16) : foF f (nI t) nF 0 = doerF f (nI t) nF := by
  by_cases h : ∃ u, u < nF ∧ gF f u 3 = nI t
  · obtain ⟨u, hu, e⟩ := h
    have one : ∀ j, j < nF → j ≠ u → gF f j 3 ≠ nI t := fun j hj hju e2 => by
      have := hW.2.2.2.2 j u hj hu hju (e2.trans e.symm)
      rw [e2] at this
      exact nI_nm6 (by omega) this
    rw [foF_is e nF 0 (by omega) (by omega) (fun j _ hj hju => one j (by omega) hju), doF_is e nF hu one]
  · have no : ∀ j, j < nF → gF f j 3 ≠ nI t := fun j hj e => h ⟨j, hj, e⟩
    rw [foF_no nF 0 (fun j _ hj => no j (by omega)), doF_no nF no]
section CLS6
variable {D : vDD} {m : vMM} {f c : Nat → Int32} {z : vZZ} {Q : Value → vDD → vMM → vZZ → Prop} {nF nT b : Nat}
theorem l_fixersThere (hB : IsM D b) (hR : Rfc f c nF nT) (hW : WF f nF nT) : ∀ k i, i + k = nF → Runs MX2_fixersThere 4 [.ref b, .int (thoseF f i), .int (nI i)] [] D (bM m b c) z Q = Q (.int (thoseF f nF)) D (bM m b c) z := by
  have hb := hB
  simp only [IsM] at hb
  have h8 := hW.1.2.1
  have e2 : gG c 2 = nI nF := (hR.1 2 (by decide)).trans hW.1.1
  intro k
  induction k with
  | zero =>
    intro i hi
    obtain rfl : i = nF := by omega
    rw [sX2_fixersThere_4]
    simp (disch := omega) only [sX2_fixersThere_0, sX2_fixersThere_1, sX2_fixersThere_2, sX2_fixersThere_3, sX2_fixersThere_5, sX2_fixersThere_6, sX2_fixersThere_9, sX2_fixersThere_12, sX2_fixersThere_13, sX2_fixersThere_16, sX2_fixersThere_17, sX2_fixersThere_18, sX2_fixersThere_21, sX2_fixersThere_24, sX2_fixersThere_25, sX2_fixersThere_26, sX2_fixersThere_27, sX2_fixersThere_28, sX2_fixersThere_29, sX2_fixersThere_30, sX2_fixersThere_33, sX2_fixersThere_36, sX2_fixersThere_37, hb, true_and, and_true, true_or, or_true, eq_self, ↓reduceIte, if_true, if_false, nI_add, nI_mul, inB_nI, nI_clamp, Nat.add_zero, eqI, ltI, leI, m6_ne, ne_m6, Nat.reduceEqDiff, reduceCtorEq, Nat.reduceLT, Nat.reduceLeDiff, Nat.reduceAdd, Nat.reduceMul, Nat.zero_add, Nat.mul_zero, nar_0, nar_1, nar_b, bI_t, bI_f, bI_0, bI_1, Bool.true_eq_false, Bool.false_eq_true, Bool.and_self, Bool.and_false, Bool.false_and, Bool.true_and, Bool.and_true, and_self, b_nF, e2, Nat.le_refl]
  | succ k ih =>
    intro i hi
    have hlt : ¬ nF ≤ i := by omega
    have ih := ih (i + 1) (by omega)
    have ex := hR.2.1 i (by omega) 2 (by decide)
    simp only [thoseF] at ih
    rw [sX2_fixersThere_4]
    rcases (hW.2.2.2.1 i (by omega)).2 with h | h
    · rw [h, i32_0shl, i32_or0] at ih
      rw [h] at ex
      simp (disch := omega) only [sX2_fixersThere_0, sX2_fixersThere_1, sX2_fixersThere_2, sX2_fixersThere_3, sX2_fixersThere_5, sX2_fixersThere_6, sX2_fixersThere_9, sX2_fixersThere_12, sX2_fixersThere_13, sX2_fixersThere_16, sX2_fixersThere_17, sX2_fixersThere_18, sX2_fixersThere_21, sX2_fixersThere_24, sX2_fixersThere_25, sX2_fixersThere_26, sX2_fixersThere_27, sX2_fixersThere_28, sX2_fixersThere_29, sX2_fixersThere_30, sX2_fixersThere_33, sX2_fixersThere_36, sX2_fixersThere_37, hb, true_and, and_true, true_or, or_true, eq_self, ↓reduceIte, if_true, if_false, nI_add, nI_mul, inB_nI, nI_clamp, Nat.add_zero, eqI, ltI, leI, m6_ne, ne_m6, Nat.reduceEqDiff, reduceCtorEq, Nat.reduceLT, Nat.reduceLeDiff, Nat.reduceAdd, Nat.reduceMul, Nat.zero_add, Nat.mul_zero, nar_0, nar_1, nar_b, bI_t, bI_f, bI_0, bI_1, Bool.true_eq_false, Bool.false_eq_true, Bool.and_self, Bool.and_false, Bool.false_and, Bool.true_and, Bool.and_true, and_self, b_nF, e2, hlt, b_F, ex, ih]
    · rw [h] at ih ex
      simp (disch := omega) only [sX2_fixersThere_0, sX2_fixersThere_1, sX2_fixersThere_2, sX2_fixersThere_3, sX2_fixersThere_5, sX2_fixersThere_6, sX2_fixersThere_9, sX2_fixersThere_12, sX2_fixersThere_13, sX2_fixersThere_16, sX2_fixersThere_17, sX2_fixersThere_18, sX2_fixersThere_21, sX2_fixersThere_24, sX2_fixersThere_25, sX2_fixersThere_26, sX2_fixersThere_27, sX2_fixersThere_28, sX2_fixersThere_29, sX2_fixersThere_30, sX2_fixersThere_33, sX2_fixersThere_36, sX2_fixersThere_37, hb, true_and, and_true, true_or, or_true, eq_self, ↓reduceIte, if_true, if_false, nI_add, nI_mul, inB_nI, nI_clamp, Nat.add_zero, eqI, ltI, leI, m6_ne, ne_m6, Nat.reduceEqDiff, reduceCtorEq, Nat.reduceLT, Nat.reduceLeDiff, Nat.reduceAdd, Nat.reduceMul, Nat.zero_add, Nat.mul_zero, nar_0, nar_1, nar_b, bI_t, bI_f, bI_0, bI_1, Bool.true_eq_false, Bool.false_eq_true, Bool.and_self, Bool.and_false, Bool.false_and, Bool.true_and, Bool.and_true, and_self, b_nF, e2, hlt, b_F, ex, ih, Nat.one_ne_zero]
theorem x_fixersThere (hB : IsM D b) (hR : Rfc f c nF nT) (hW : WF f nF nT) : Runs MX2_fixersThere 0 [.ref b, vJ, vJ] [] D (bM m b c) z Q = Q (.int (thoseF f nF)) D (bM m b c) z := by
  have h0 := l_fixersThere (D := D) (m := m) (z := z) (Q := Q) hB hR hW nF 0 (by omega)
  simp only [sX2_fixersThere_0, sX2_fixersThere_1, sX2_fixersThere_2, sX2_fixersThere_3]
  exact h0
theorem l_fixersWith (hB : IsM D b) (hR : Rfc f c nF nT) (hW : WF f nF nT) {s : Int32} : ∀ k i, i + k = nF → Runs MX2_fixersWith 4 [.ref b, .int s, .int (swF f s i), .int (nI i)] [] D (bM m b c) z Q = Q (.int (swF f s nF)) D (bM m b c) z := by
  have hb := hB
  simp only [IsM] at hb
  have h8 := hW.1.2.1
  have e2 : gG c 2 = nI nF := (hR.1 2 (by decide)).trans hW.1.1
  intro k
  induction k with
  | zero =>
    intro i hi
    obtain rfl : i = nF := by omega
    rw [sX2_fixersWith_4]
    simp (disch := omega) only [sX2_fixersWith_0, sX2_fixersWith_1, sX2_fixersWith_2, sX2_fixersWith_3, sX2_fixersWith_5, sX2_fixersWith_6, sX2_fixersWith_9, sX2_fixersWith_12, sX2_fixersWith_13, sX2_fixersWith_16, sX2_fixersWith_17, sX2_fixersWith_18, sX2_fixersWith_21, sX2_fixersWith_22, sX2_fixersWith_23, sX2_fixersWith_24, sX2_fixersWith_25, sX2_fixersWith_26, sX2_fixersWith_29, sX2_fixersWith_30, sX2_fixersWith_31, sX2_fixersWith_32, sX2_fixersWith_33, sX2_fixersWith_34, sX2_fixersWith_35, sX2_fixersWith_38, sX2_fixersWith_41, sX2_fixersWith_42, hb, true_and, and_true, true_or, or_true, eq_self, ↓reduceIte, if_true, if_false, nI_add, nI_mul, inB_nI, nI_clamp, Nat.add_zero, eqI, ltI, leI, m6_ne, ne_m6, Nat.reduceEqDiff, reduceCtorEq, Nat.reduceLT, Nat.reduceLeDiff, Nat.reduceAdd, Nat.reduceMul, Nat.zero_add, Nat.mul_zero, nar_0, nar_1, nar_b, bI_t, bI_f, bI_0, bI_1, Bool.true_eq_false, Bool.false_eq_true, Bool.and_self, Bool.and_false, Bool.false_and, Bool.true_and, Bool.and_true, and_self, b_nF, e2, Nat.le_refl]
  | succ k ih =>
    intro i hi
    have hlt : ¬ nF ≤ i := by omega
    have ih := ih (i + 1) (by omega)
    have ex := hR.2.1 i (by omega) 0 (by decide)
    rw [sX2_fixersWith_4]
    by_cases h : ((gF f i 0 >>> (s &&& 31)) &&& nI 1) = nI 1
    · have e : swF f s (i + 1) = swF f s i ||| (nI 1 <<< (nI i &&& 31)) := by
        have : hasF f i s = true := by unfold hasF; rw [h]; exact beq_self_eq_true _
        simp only [swF, this, if_true]
      rw [e] at ih
      simp (disch := omega) only [sX2_fixersWith_0, sX2_fixersWith_1, sX2_fixersWith_2, sX2_fixersWith_3, sX2_fixersWith_5, sX2_fixersWith_6, sX2_fixersWith_9, sX2_fixersWith_12, sX2_fixersWith_13, sX2_fixersWith_16, sX2_fixersWith_17, sX2_fixersWith_18, sX2_fixersWith_21, sX2_fixersWith_22, sX2_fixersWith_23, sX2_fixersWith_24, sX2_fixersWith_25, sX2_fixersWith_26, sX2_fixersWith_29, sX2_fixersWith_30, sX2_fixersWith_31, sX2_fixersWith_32, sX2_fixersWith_33, sX2_fixersWith_34, sX2_fixersWith_35, sX2_fixersWith_38, sX2_fixersWith_41, sX2_fixersWith_42, hb, true_and, and_true, true_or, or_true, eq_self, ↓reduceIte, if_true, if_false, nI_add, nI_mul, inB_nI, nI_clamp, Nat.add_zero, eqI, ltI, leI, m6_ne, ne_m6, Nat.reduceEqDiff, reduceCtorEq, Nat.reduceLT, Nat.reduceLeDiff, Nat.reduceAdd, Nat.reduceMul, Nat.zero_add, Nat.mul_zero, nar_0, nar_1, nar_b, bI_t, bI_f, bI_0, bI_1, Bool.true_eq_false, Bool.false_eq_true, Bool.and_self, Bool.and_false, Bool.false_and, Bool.true_and, Bool.and_true, and_self, b_nF, e2, hlt, b_F, ex, h, ih]
    · have e : swF f s (i + 1) = swF f s i := by
        have : hasF f i s = false := by unfold hasF; simp [h]
        simp only [swF, this, Bool.false_eq_true, if_false]
      rw [e] at ih
      simp (disch := omega) only [sX2_fixersWith_0, sX2_fixersWith_1, sX2_fixersWith_2, sX2_fixersWith_3, sX2_fixersWith_5, sX2_fixersWith_6, sX2_fixersWith_9, sX2_fixersWith_12, sX2_fixersWith_13, sX2_fixersWith_16, sX2_fixersWith_17, sX2_fixersWith_18, sX2_fixersWith_21, sX2_fixersWith_22, sX2_fixersWith_23, sX2_fixersWith_24, sX2_fixersWith_25, sX2_fixersWith_26, sX2_fixersWith_29, sX2_fixersWith_30, sX2_fixersWith_31, sX2_fixersWith_32, sX2_fixersWith_33, sX2_fixersWith_34, sX2_fixersWith_35, sX2_fixersWith_38, sX2_fixersWith_41, sX2_fixersWith_42, hb, true_and, and_true, true_or, or_true, eq_self, ↓reduceIte, if_true, if_false, nI_add, nI_mul, inB_nI, nI_clamp, Nat.add_zero, eqI, ltI, leI, m6_ne, ne_m6, Nat.reduceEqDiff, reduceCtorEq, Nat.reduceLT, Nat.reduceLeDiff, Nat.reduceAdd, Nat.reduceMul, Nat.zero_add, Nat.mul_zero, nar_0, nar_1, nar_b, bI_t, bI_f, bI_0, bI_1, Bool.true_eq_false, Bool.false_eq_true, Bool.and_self, Bool.and_false, Bool.false_and, Bool.true_and, Bool.and_true, and_self, b_nF, e2, hlt, b_F, ex, h, ih]
theorem x_fixersWith (hB : IsM D b) (hR : Rfc f c nF nT) (hW : WF f nF nT) {s : Int32} : Runs MX2_fixersWith 0 [.ref b, .int s, vJ, vJ] [] D (bM m b c) z Q = Q (.int (swF f s nF)) D (bM m b c) z := by
  have h0 := l_fixersWith (D := D) (m := m) (z := z) (Q := Q) hB hR hW (s := s) nF 0 (by omega)
  simp only [sX2_fixersWith_0, sX2_fixersWith_1, sX2_fixersWith_2, sX2_fixersWith_3]
  exact h0
theorem l_freeFixers (hB : IsM D b) (hR : Rfc f c nF nT) (hW : WF f nF nT) : ∀ k i, i + k = nF → Runs MX2_freeFixers 4 [.ref b, .int (nI (cntFr f i)), .int (nI i)] [] D (bM m b c) z Q = Q (.int (nI (cntFr f nF))) D (bM m b c) z := by
  have hb := hB
  simp only [IsM] at hb
  have h8 := hW.1.2.1
  have e2 : gG c 2 = nI nF := (hR.1 2 (by decide)).trans hW.1.1
  intro k
  induction k with
  | zero =>
    intro i hi
    obtain rfl : i = nF := by omega
    rw [sX2_freeFixers_4]
    simp (disch := omega) only [sX2_freeFixers_0, sX2_freeFixers_1, sX2_freeFixers_2, sX2_freeFixers_3, sX2_freeFixers_5, sX2_freeFixers_6, sX2_freeFixers_9, sX2_freeFixers_12, sX2_freeFixers_13, sX2_freeFixers_16, sX2_freeFixers_17, sX2_freeFixers_18, sX2_freeFixers_21, sX2_freeFixers_24, sX2_freeFixers_27, sX2_freeFixers_30, sX2_freeFixers_33, sX2_freeFixers_34, hb, true_and, and_true, true_or, or_true, eq_self, ↓reduceIte, if_true, if_false, nI_add, nI_mul, inB_nI, nI_clamp, Nat.add_zero, eqI, ltI, leI, m6_ne, ne_m6, Nat.reduceEqDiff, reduceCtorEq, Nat.reduceLT, Nat.reduceLeDiff, Nat.reduceAdd, Nat.reduceMul, Nat.zero_add, Nat.mul_zero, nar_0, nar_1, nar_b, bI_t, bI_f, bI_0, bI_1, Bool.true_eq_false, Bool.false_eq_true, Bool.and_self, Bool.and_false, Bool.false_and, Bool.true_and, Bool.and_true, and_self, b_nF, e2, Nat.le_refl]
  | succ k ih =>
    intro i hi
    have hlt : ¬ nF ≤ i := by omega
    have ih := ih (i + 1) (by omega)
    have x := fun Q => x_canTakeMore (D := D) (m := m) (z := z) (Q := Q) hB hR hW (i := i) (by omega)
    simp only [cntFr] at ih
    rw [sX2_freeFixers_4]
    cases hd : freeF f i <;> simp only [hd, if_true, if_false, Bool.false_eq_true, Nat.add_zero] at ih x <;> simp (disch := omega) only [sX2_freeFixers_0, sX2_freeFixers_1, sX2_freeFixers_2, sX2_freeFixers_3, sX2_freeFixers_5, sX2_freeFixers_6, sX2_freeFixers_9, sX2_freeFixers_12, sX2_freeFixers_13, sX2_freeFixers_16, sX2_freeFixers_17, sX2_freeFixers_18, sX2_freeFixers_21, sX2_freeFixers_24, sX2_freeFixers_27, sX2_freeFixers_30, sX2_freeFixers_33, sX2_freeFixers_34, hb, true_and, and_true, true_or, or_true, eq_self, ↓reduceIte, if_true, if_false, nI_add, nI_mul, inB_nI, nI_clamp, Nat.add_zero, eqI, ltI, leI, m6_ne, ne_m6, Nat.reduceEqDiff, reduceCtorEq, Nat.reduceLT, Nat.reduceLeDiff, Nat.reduceAdd, Nat.reduceMul, Nat.zero_add, Nat.mul_zero, nar_0, nar_1, nar_b, bI_t, bI_f, bI_0, bI_1, Bool.true_eq_false, Bool.false_eq_true, Bool.and_self, Bool.and_false, Bool.false_and, Bool.true_and, Bool.and_true, and_self, b_nF, e2, hlt, x, ih]
theorem x_freeFixers (hB : IsM D b) (hR : Rfc f c nF nT) (hW : WF f nF nT) : Runs MX2_freeFixers 0 [.ref b, vJ, vJ] [] D (bM m b c) z Q = Q (.int (nI (cntFr f nF))) D (bM m b c) z := by
  have h0 := l_freeFixers (D := D) (m := m) (z := z) (Q := Q) hB hR hW nF 0 (by omega)
  simp only [sX2_freeFixers_0, sX2_freeFixers_1, sX2_freeFixers_2, sX2_freeFixers_3]
  exact h0
theorem l_fixerOf (hB : IsM D b) (hR : Rfc f c nF nT) (hW : WF f nF nT) {x : Int32} : ∀ k i, i + k = nF → Runs MX2_fixerOf 2 [.ref b, .int x, .int (nI i)] [] D (bM m b c) z Q = Q (.int (foF f x k i)) D (bM m b c) z := by
  have hb := hB
  simp only [IsM] at hb
  have h8 := hW.1.2.1
  have e2 : gG c 2 = nI nF := (hR.1 2 (by decide)).trans hW.1.1
  intro k
  induction k with
  | zero =>
    intro i hi
    obtain rfl : i = nF := by omega
    rw [sX2_fixerOf_2]
    simp (disch := omega) only [sX2_fixerOf_0, sX2_fixerOf_1, sX2_fixerOf_3, sX2_fixerOf_4, sX2_fixerOf_7, sX2_fixerOf_10, sX2_fixerOf_11, sX2_fixerOf_14, sX2_fixerOf_15, sX2_fixerOf_16, sX2_fixerOf_19, sX2_fixerOf_20, sX2_fixerOf_23, sX2_fixerOf_24, sX2_fixerOf_25, sX2_fixerOf_28, sX2_fixerOf_31, sX2_fixerOf_33, hb, true_and, and_true, true_or, or_true, eq_self, ↓reduceIte, if_true, if_false, nI_add, nI_mul, inB_nI, nI_clamp, Nat.add_zero, eqI, ltI, leI, m6_ne, ne_m6, Nat.reduceEqDiff, reduceCtorEq, Nat.reduceLT, Nat.reduceLeDiff, Nat.reduceAdd, Nat.reduceMul, Nat.zero_add, Nat.mul_zero, nar_0, nar_1, nar_b, bI_t, bI_f, bI_0, bI_1, Bool.true_eq_false, Bool.false_eq_true, Bool.and_self, Bool.and_false, Bool.false_and, Bool.true_and, Bool.and_true, and_self, b_nF, e2, Nat.le_refl, foF]
  | succ k ih =>
    intro i hi
    have hlt : ¬ nF ≤ i := by omega
    have ih := ih (i + 1) (by omega)
    have ex := hR.2.1 i (by omega) 3 (by decide)
    rw [sX2_fixerOf_2]
    by_cases h : gF f i 3 = x
    · have e : foF f x (k + 1) i = nI i := by simp only [foF, if_pos h]
      rw [e]
      simp (disch := omega) only [sX2_fixerOf_0, sX2_fixerOf_1, sX2_fixerOf_3, sX2_fixerOf_4, sX2_fixerOf_7, sX2_fixerOf_10, sX2_fixerOf_11, sX2_fixerOf_14, sX2_fixerOf_15, sX2_fixerOf_16, sX2_fixerOf_19, sX2_fixerOf_20, sX2_fixerOf_23, sX2_fixerOf_24, sX2_fixerOf_25, sX2_fixerOf_28, sX2_fixerOf_31, sX2_fixerOf_33, hb, true_and, and_true, true_or, or_true, eq_self, ↓reduceIte, if_true, if_false, nI_add, nI_mul, inB_nI, nI_clamp, Nat.add_zero, eqI, ltI, leI, m6_ne, ne_m6, Nat.reduceEqDiff, reduceCtorEq, Nat.reduceLT, Nat.reduceLeDiff, Nat.reduceAdd, Nat.reduceMul, Nat.zero_add, Nat.mul_zero, nar_0, nar_1, nar_b, bI_t, bI_f, bI_0, bI_1, Bool.true_eq_false, Bool.false_eq_true, Bool.and_self, Bool.and_false, Bool.false_and, Bool.true_and, Bool.and_true, and_self, b_nF, e2, hlt, b_F, ex, h]
    · have e : foF f x (k + 1) i = foF f x k (i + 1) := by simp only [foF, if_neg h]
      rw [e]
      simp (disch := omega) only [sX2_fixerOf_0, sX2_fixerOf_1, sX2_fixerOf_3, sX2_fixerOf_4, sX2_fixerOf_7, sX2_fixerOf_10, sX2_fixerOf_11, sX2_fixerOf_14, sX2_fixerOf_15, sX2_fixerOf_16, sX2_fixerOf_19, sX2_fixerOf_20, sX2_fixerOf_23, sX2_fixerOf_24, sX2_fixerOf_25, sX2_fixerOf_28, sX2_fixerOf_31, sX2_fixerOf_33, hb, true_and, and_true, true_or, or_true, eq_self, ↓reduceIte, if_true, if_false, nI_add, nI_mul, inB_nI, nI_clamp, Nat.add_zero, eqI, ltI, leI, m6_ne, ne_m6, Nat.reduceEqDiff, reduceCtorEq, Nat.reduceLT, Nat.reduceLeDiff, Nat.reduceAdd, Nat.reduceMul, Nat.zero_add, Nat.mul_zero, nar_0, nar_1, nar_b, bI_t, bI_f, bI_0, bI_1, Bool.true_eq_false, Bool.false_eq_true, Bool.and_self, Bool.and_false, Bool.false_and, Bool.true_and, Bool.and_true, and_self, b_nF, e2, hlt, b_F, ex, h, ih]
theorem x_fixerOf (hB : IsM D b) (hR : Rfc f c nF nT) (hW : WF f nF nT) {t : Nat} (ht : t < 16) : Runs MX2_fixerOf 0 [.ref b, .int (nI t), vJ] [] D (bM m b c) z Q = Q (.int (doerF f (nI t) nF)) D (bM m b c) z := by
  have h0 := l_fixerOf (D := D) (m := m) (z := z) (Q := Q) hB hR hW (x := nI t) nF 0 (by omega)
  rw [foF_do hW ht] at h0
  simp only [sX2_fixerOf_0, sX2_fixerOf_1]
  exact h0
theorem l_thingsFor (hB : IsM D b) (hR : Rfc f c nF nT) (hW : WF f nF nT) {sk : Int32} : ∀ k i, i + k = nT → Runs MX2_thingsFor 4 [.ref b, .int sk, .int (tfF f sk i), .int (nI i)] [] D (bM m b c) z Q = Q (.int (tfF f sk nT)) D (bM m b c) z := by
  have hb := hB
  simp only [IsM] at hb
  have h16 := hW.1.2.2.2
  have e3 : gG c 3 = nI nT := (hR.1 3 (by decide)).trans hW.1.2.2.1
  intro k
  induction k with
  | zero =>
    intro i hi
    obtain rfl : i = nT := by omega
    rw [sX2_thingsFor_4]
    simp (disch := omega) only [sX2_thingsFor_0, sX2_thingsFor_1, sX2_thingsFor_2, sX2_thingsFor_3, sX2_thingsFor_5, sX2_thingsFor_6, sX2_thingsFor_9, sX2_thingsFor_12, sX2_thingsFor_13, sX2_thingsFor_14, sX2_thingsFor_17, sX2_thingsFor_18, sX2_thingsFor_19, sX2_thingsFor_20, sX2_thingsFor_23, sX2_thingsFor_26, sX2_thingsFor_27, sX2_thingsFor_28, sX2_thingsFor_29, sX2_thingsFor_30, sX2_thingsFor_31, sX2_thingsFor_32, sX2_thingsFor_35, sX2_thingsFor_38, sX2_thingsFor_39, hb, true_and, and_true, true_or, or_true, eq_self, ↓reduceIte, if_true, if_false, nI_add, nI_mul, inB_nI, nI_clamp, Nat.add_zero, eqI, ltI, leI, m6_ne, ne_m6, Nat.reduceEqDiff, reduceCtorEq, Nat.reduceLT, Nat.reduceLeDiff, Nat.reduceAdd, Nat.reduceMul, Nat.zero_add, Nat.mul_zero, nar_0, nar_1, nar_b, bI_t, bI_f, bI_0, bI_1, Bool.true_eq_false, Bool.false_eq_true, Bool.and_self, Bool.and_false, Bool.false_and, Bool.true_and, Bool.and_true, and_self, b_nT, e3, Nat.le_refl]
  | succ k ih =>
    intro i hi
    have hlt : ¬ nT ≤ i := by omega
    have ih := ih (i + 1) (by omega)
    have x := fun Q => x_isFor (D := D) (m := m) (z := z) (Q := Q) hB hR hW (t := i) (sk := sk) (by omega)
    simp only [tfF] at ih
    rw [sX2_thingsFor_4]
    cases hd : forF f sk i <;> simp only [hd, if_true, if_false, Bool.false_eq_true] at ih x <;> simp (disch := omega) only [sX2_thingsFor_0, sX2_thingsFor_1, sX2_thingsFor_2, sX2_thingsFor_3, sX2_thingsFor_5, sX2_thingsFor_6, sX2_thingsFor_9, sX2_thingsFor_12, sX2_thingsFor_13, sX2_thingsFor_14, sX2_thingsFor_17, sX2_thingsFor_18, sX2_thingsFor_19, sX2_thingsFor_20, sX2_thingsFor_23, sX2_thingsFor_26, sX2_thingsFor_27, sX2_thingsFor_28, sX2_thingsFor_29, sX2_thingsFor_30, sX2_thingsFor_31, sX2_thingsFor_32, sX2_thingsFor_35, sX2_thingsFor_38, sX2_thingsFor_39, hb, true_and, and_true, true_or, or_true, eq_self, ↓reduceIte, if_true, if_false, nI_add, nI_mul, inB_nI, nI_clamp, Nat.add_zero, eqI, ltI, leI, m6_ne, ne_m6, Nat.reduceEqDiff, reduceCtorEq, Nat.reduceLT, Nat.reduceLeDiff, Nat.reduceAdd, Nat.reduceMul, Nat.zero_add, Nat.mul_zero, nar_0, nar_1, nar_b, bI_t, bI_f, bI_0, bI_1, Bool.true_eq_false, Bool.false_eq_true, Bool.and_self, Bool.and_false, Bool.false_and, Bool.true_and, Bool.and_true, and_self, b_nT, e3, hlt, x, ih]
theorem x_thingsFor (hB : IsM D b) (hR : Rfc f c nF nT) (hW : WF f nF nT) {sk : Int32} : Runs MX2_thingsFor 0 [.ref b, .int sk, vJ, vJ] [] D (bM m b c) z Q = Q (.int (tfF f sk nT)) D (bM m b c) z := by
  have h0 := l_thingsFor (D := D) (m := m) (z := z) (Q := Q) hB hR hW (sk := sk) nT 0 (by omega)
  simp only [sX2_thingsFor_0, sX2_thingsFor_1, sX2_thingsFor_2, sX2_thingsFor_3]
  exact h0
/-- a fixer more -/
theorem Rfc.came (hR : Rfc f c nF nT) (hn : nF < 8) (h16 : nT ≤ 16) {sk sp : Int32} : Rfc (cameF f nF sk sp) (cameF c nF sk sp) (nF + 1) nT := by
  unfold cameF
  have r : Rfc (sF (sF (sF (sF (sF (sF f nF 0 sk) nF 1 sp) nF 2 (nI 1)) nF 3 m6) nF 4 (nI 0)) nF 5 (nI 0)) (sF (sF (sF (sF (sF (sF c nF 0 sk) nF 1 sp) nF 2 (nI 1)) nF 3 m6) nF 4 (nI 0)) nF 5 (nI 0)) nF nT := by
    refine Rfc.F (Rfc.F (Rfc.F (Rfc.F (Rfc.F (Rfc.F hR ?_ ?_ ?_) ?_ ?_ ?_) ?_ ?_ ?_) ?_ ?_ ?_) ?_ ?_ ?_) ?_ ?_ ?_ <;> omega
  have r2 : Rfc (sF (sF (sF (sF (sF (sF f nF 0 sk) nF 1 sp) nF 2 (nI 1)) nF 3 m6) nF 4 (nI 0)) nF 5 (nI 0)) (sF (sF (sF (sF (sF (sF c nF 0 sk) nF 1 sp) nF 2 (nI 1)) nF 3 m6) nF 4 (nI 0)) nF 5 (nI 0)) (nF + 1) nT := by
    refine ⟨r.1, fun i hi k hk => ?_, r.2.2⟩
    by_cases e : i < nF
    · exact r.2.1 i e k hk
    · obtain rfl : i = nF := by omega
      rcases (by omega : k = 0 ∨ k = 1 ∨ k = 2 ∨ k = 3 ∨ k = 4 ∨ k = 5) with rfl | rfl | rfl | rfl | rfl | rfl
      · rw [gF_sFk (by decide), gF_sFk (by decide), gF_sFk (by decide), gF_sFk (by decide), gF_sFk (by decide), gF_sF, gF_sFk (by decide), gF_sFk (by decide), gF_sFk (by decide), gF_sFk (by decide), gF_sFk (by decide), gF_sF]
      · rw [gF_sFk (by decide), gF_sFk (by decide), gF_sFk (by decide), gF_sFk (by decide), gF_sF, gF_sFk (by decide), gF_sFk (by decide), gF_sFk (by decide), gF_sFk (by decide), gF_sF]
      · rw [gF_sFk (by decide), gF_sFk (by decide), gF_sFk (by decide), gF_sF, gF_sFk (by decide), gF_sFk (by decide), gF_sFk (by decide), gF_sF]
      · rw [gF_sFk (by decide), gF_sFk (by decide), gF_sF, gF_sFk (by decide), gF_sFk (by decide), gF_sF]
      · rw [gF_sFk (by decide), gF_sF, gF_sFk (by decide), gF_sF]
      · rw [gF_sF, gF_sF]
  exact r2.G (by decide) (by omega) h16
theorem x_start (hB : IsM D b) {i : Nat} {sk sp : Int32} (hi : i < 8) : Runs MX0_start 0 [.ref (b + 4 + i), .int sk, .int sp] [] D (bM m b c) z Q = Q vJ D (bM m b (sF (sF (sF (sF (sF (sF c i 0 sk) i 1 sp) i 2 (nI 1)) i 3 m6) i 4 (nI 0)) i 5 (nI 0))) z := by
  have f0 : (D (b + 4 + i)).1 = 0 := hB.2.2.2.1 i hi
  have x := fun c Q => x_becomeFree (D := D) (m := m) (z := z) (Q := Q) (c := c) hB hi
  simp only [clrF] at x
  simp (disch := omega) only [sX0_start_0, sX0_start_1, sX0_start_2, sX0_start_5, sX0_start_6, sX0_start_7, sX0_start_10, sX0_start_11, sX0_start_12, sX0_start_15, sX0_start_16, sX0_start_17, sX0_start_20, sX0_start_21, sX0_start_24, f0, true_and, and_true, true_or, or_true, eq_self, ↓reduceIte, if_true, if_false, nI_add, nI_mul, inB_nI, nI_clamp, Nat.add_zero, eqI, ltI, leI, m6_ne, ne_m6, Nat.reduceEqDiff, reduceCtorEq, Nat.reduceLT, Nat.reduceLeDiff, Nat.reduceAdd, Nat.reduceMul, Nat.zero_add, Nat.mul_zero, nar_0, nar_1, nar_b, bI_t, bI_f, bI_0, bI_1, Bool.true_eq_false, Bool.false_eq_true, Bool.and_self, Bool.and_false, Bool.false_and, Bool.true_and, Bool.and_true, and_self, w_F, x, n_FFc]
theorem x_addFixer (hB : IsM D b) {sk sp : Int32} (e2 : gG c 2 = nI nF) (hn : nF < 8) : Runs MX2_addFixer 0 [.ref b, .int sk, .int sp] [] D (bM m b c) z Q = Q (.int (nI nF)) D (bM m b (cameF c nF sk sp)) z := by
  obtain ⟨⟨b1, b2, b3, b4⟩, ⟨b5, b6, b7, b8, b9, b10⟩, b11, b12, -⟩ := id hB
  have b11 := b11 nF hn
  have b12 := b12 nF hn
  have x := fun Q => x_start (D := D) (m := m) (z := z) (Q := Q) (c := c) (i := nF) (sk := sk) (sp := sp) hB hn
  have e3 : gG (sF (sF (sF (sF (sF (sF c nF 0 sk) nF 1 sp) nF 2 (nI 1)) nF 3 m6) nF 4 (nI 0)) nF 5 (nI 0)) 2 = nI nF := by
    rw [gG_sF (Or.inl (by decide)) hn (by decide), gG_sF (Or.inl (by decide)) hn (by decide), gG_sF (Or.inl (by decide)) hn (by decide), gG_sF (Or.inl (by decide)) hn (by decide), gG_sF (Or.inl (by decide)) hn (by decide), gG_sF (Or.inl (by decide)) hn (by decide)]
    exact e2
  have hlt : ¬ 8 ≤ nF := by omega
  have e4 : nI (nF + 1) - nI 1 = nI nF := by rw [nI_sub _ _ (by omega)]; rfl
  simp only [cameF]
  simp (disch := omega) only [sX2_addFixer_0, sX2_addFixer_1, sX2_addFixer_4, sX2_addFixer_6, sX2_addFixer_9, sX2_addFixer_11, sX2_addFixer_12, sX2_addFixer_13, sX2_addFixer_16, sX2_addFixer_17, sX2_addFixer_20, sX2_addFixer_21, sX2_addFixer_22, sX2_addFixer_23, sX2_addFixer_26, sX2_addFixer_27, sX2_addFixer_28, sX2_addFixer_31, sX2_addFixer_32, sX2_addFixer_33, sX2_addFixer_36, sX2_addFixer_37, sX2_addFixer_40, sX2_addFixer_41, sX2_addFixer_42, b1, b2, b5, b6, b11, b12, true_and, and_true, true_or, or_true, eq_self, ↓reduceIte, if_true, if_false, nI_add, nI_mul, inB_nI, nI_clamp, Nat.add_zero, eqI, ltI, leI, m6_ne, ne_m6, Nat.reduceEqDiff, reduceCtorEq, Nat.reduceLT, Nat.reduceLeDiff, Nat.reduceAdd, Nat.reduceMul, Nat.zero_add, Nat.mul_zero, nar_0, nar_1, nar_b, bI_t, bI_f, bI_0, bI_1, Bool.true_eq_false, Bool.false_eq_true, Bool.and_self, Bool.and_false, Bool.false_and, Bool.true_and, Bool.and_true, and_self, b_nF, e2, hlt, x, e3, w_nF, gG_sG, e4, hn]
theorem clr_G {k : Nat} (hk : k < 10) : ∀ n, n ≤ 8 → gG (lpF clrF n c) k = gG c k
  | 0, _ => rfl
  | n + 1, h => by
    rw [lpF_s]
    unfold clrF
    rw [gG_sF (Or.inl hk) (by omega) (by decide), gG_sF (Or.inl hk) (by omega) (by decide)]
    exact clr_G hk n (by omega)
theorem l_removeThings (hB : IsM D b) (h2 : gG c 2 = nI nF) (hn : nF ≤ 8) : ∀ k i, i + k = nF → Runs MX2_removeThings 12 [.ref b, .int (nI i)] [] D (bM m b (lpF clrF i c)) z Q = Q vJ D (bM m b (lpF clrF nF c)) z := by
  obtain ⟨⟨b1, b2, b3, b4⟩, ⟨b5, b6, b7, b8, b9, b10⟩, b11, b12, -⟩ := id hB
  intro k
  induction k with
  | zero =>
    intro i hi
    obtain rfl : i = nF := by omega
    have e2 : gG (lpF clrF i c) 2 = nI i := (clr_G (by decide) i (by omega)).trans h2
    rw [sX2_removeThings_12]
    simp (disch := omega) only [sX2_removeThings_13, sX2_removeThings_14, sX2_removeThings_17, sX2_removeThings_20, sX2_removeThings_21, sX2_removeThings_24, sX2_removeThings_25, sX2_removeThings_26, sX2_removeThings_29, sX2_removeThings_32, sX2_removeThings_35, b1, true_and, and_true, true_or, or_true, eq_self, ↓reduceIte, if_true, if_false, nI_add, nI_mul, inB_nI, nI_clamp, Nat.add_zero, eqI, ltI, leI, m6_ne, ne_m6, Nat.reduceEqDiff, reduceCtorEq, Nat.reduceLT, Nat.reduceLeDiff, Nat.reduceAdd, Nat.reduceMul, Nat.zero_add, Nat.mul_zero, nar_0, nar_1, nar_b, bI_t, bI_f, bI_0, bI_1, Bool.true_eq_false, Bool.false_eq_true, Bool.and_self, Bool.and_false, Bool.false_and, Bool.true_and, Bool.and_true, and_self, b_nF, e2, Nat.le_refl]
  | succ k ih =>
    intro i hi
    have hlt : ¬ nF ≤ i := by omega
    have ih := ih (i + 1) (by omega)
    have e2 : gG (lpF clrF i c) 2 = nI nF := (clr_G (by decide) i (by omega)).trans h2
    have b11 := b11 i (by omega)
    have b12 := b12 i (by omega)
    have x := fun Q => x_becomeFree (D := D) (m := m) (z := z) (Q := Q) (c := lpF clrF i c) hB (i := i) (by omega)
    rw [lpF_s] at ih
    rw [sX2_removeThings_12]
    simp (disch := omega) only [sX2_removeThings_13, sX2_removeThings_14, sX2_removeThings_17, sX2_removeThings_20, sX2_removeThings_21, sX2_removeThings_24, sX2_removeThings_25, sX2_removeThings_26, sX2_removeThings_29, sX2_removeThings_32, sX2_removeThings_35, b1, b2, b5, b6, b11, b12, true_and, and_true, true_or, or_true, eq_self, ↓reduceIte, if_true, if_false, nI_add, nI_mul, inB_nI, nI_clamp, Nat.add_zero, eqI, ltI, leI, m6_ne, ne_m6, Nat.reduceEqDiff, reduceCtorEq, Nat.reduceLT, Nat.reduceLeDiff, Nat.reduceAdd, Nat.reduceMul, Nat.zero_add, Nat.mul_zero, nar_0, nar_1, nar_b, bI_t, bI_f, bI_0, bI_1, Bool.true_eq_false, Bool.false_eq_true, Bool.and_self, Bool.and_false, Bool.false_and, Bool.true_and, Bool.and_true, and_self, b_nF, e2, hlt, x, ih]
theorem x_removeThings (hB : IsM D b) (h2 : gG c 2 = nI nF) (hn : nF ≤ 8) : Runs MX2_removeThings 0 [.ref b, vJ] [] D (bM m b c) z Q = Q vJ D (bM m b (clearF c nF)) z := by
  obtain ⟨b1, -⟩ := id hB.1
  have e2 : gG (sG (sG c 3 (nI 0)) 4 (nI 0)) 2 = nI nF := by rw [gG_sGk (by decide), gG_sGk (by decide)]; exact h2
  have h0 := l_removeThings (D := D) (m := m) (z := z) (Q := Q) (c := sG (sG c 3 (nI 0)) 4 (nI 0)) hB e2 hn nF 0 (by omega)
  rw [lpF_0] at h0
  simp only [clearF]
  simp (disch := omega) only [sX2_removeThings_0, sX2_removeThings_1, sX2_removeThings_2, sX2_removeThings_5, sX2_removeThings_6, sX2_removeThings_7, sX2_removeThings_10, sX2_removeThings_11, b1, true_and, and_true, true_or, or_true, eq_self, ↓reduceIte, if_true, if_false, nI_add, nI_mul, inB_nI, nI_clamp, Nat.add_zero, eqI, ltI, leI, m6_ne, ne_m6, Nat.reduceEqDiff, reduceCtorEq, Nat.reduceLT, Nat.reduceLeDiff, Nat.reduceAdd, Nat.reduceMul, Nat.zero_add, Nat.mul_zero, nar_0, nar_1, nar_b, bI_t, bI_f, bI_0, bI_1, Bool.true_eq_false, Bool.false_eq_true, Bool.and_self, Bool.and_false, Bool.false_and, Bool.true_and, Bool.and_true, and_self, w_nT, w_slt, h0]
theorem x_addThing (hB : IsM D b) {q : Nat} {S : Nat → Int32} (hT : IsT D q) (hS : RdT m q S) (hq : q + 4 ≤ b ∨ b + 76 ≤ q) (e3 : gG c 3 = nI nT) (hn : nT < 16) : Runs MX2_addThing 0 [.ref b, .ref q] [] D (bM m b c) z Q = Q vJ D (bM m b (sG (cpT c S nT) 3 (nI (nT + 1)))) z := by
  obtain ⟨⟨b1, b2, b3, b4⟩, ⟨b5, b6, b7, b8, b9, b10⟩, b11, b12, b13, b14, -⟩ := id hB
  have b13 := b13 nT hn
  have b14 := b14 nT hn
  have x := fun Q => x_copyT (D := D) (Q := Q) (c := c) (m := m) (z := z) hB hT hS hq (t := nT) hn
  have e4 : gG (cpT c S nT) 3 = nI nT := by
    show (if 58 + 18 * nT ≤ 3 ∧ 3 < 58 + 18 * nT + 18 then S (3 - (58 + 18 * nT)) else c 3) = nI nT
    rw [if_neg (by omega)]
    exact e3
  have hlt : ¬ 16 ≤ nT := by omega
  simp (disch := omega) only [sX2_addThing_0, sX2_addThing_1, sX2_addThing_4, sX2_addThing_6, sX2_addThing_9, sX2_addThing_10, sX2_addThing_13, sX2_addThing_14, sX2_addThing_17, sX2_addThing_18, sX2_addThing_19, sX2_addThing_22, sX2_addThing_23, sX2_addThing_24, sX2_addThing_27, sX2_addThing_28, sX2_addThing_29, sX2_addThing_32, b1, b3, b7, b8, b13, b14, true_and, and_true, true_or, or_true, eq_self, ↓reduceIte, if_true, if_false, nI_add, nI_mul, inB_nI, nI_clamp, Nat.add_zero, eqI, ltI, leI, m6_ne, ne_m6, Nat.reduceEqDiff, reduceCtorEq, Nat.reduceLT, Nat.reduceLeDiff, Nat.reduceAdd, Nat.reduceMul, Nat.zero_add, Nat.mul_zero, nar_0, nar_1, nar_b, bI_t, bI_f, bI_0, bI_1, Bool.true_eq_false, Bool.false_eq_true, Bool.and_self, Bool.and_false, Bool.false_and, Bool.true_and, Bool.and_true, and_self, b_nT, e3, hlt, x, e4, w_nT]
end CLS6
