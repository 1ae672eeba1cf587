/-! the model reads things and texts -/
section RD3
variable {D : vDD} {m : vMM} {f : Nat → Int32} {z : vZZ} {Q : Value → vDD → vMM → vZZ → Prop} {L p k : Nat} {ch : Nat → Nat} {w : Int32} {T : Nat → Int32}
theorem l_readsThing (hM : IsMo D) (hP : PD m L ch) : ∀ (n p k : Nat) (T : Nat → Int32), k + n = 4 → 1 ≤ k → p ≤ L → Runs MX7_readsThing 15 [.ref 853, .int (nI 1)] [] D (qM m f p k (nI 0) T) z Q = Runs MX7_readsThing 44 [.ref 853, .int (bI (thL ch L n p k T).1)] [] D (qM m f (thL ch L n p k T).2.1 (thL ch L n p k T).2.2.1 (nI 0) (thL ch L n p k T).2.2.2) z Q := by
  have h1 := hM
  simp only [IsMo] at h1
  have h60 := hP.2.1
  intro n
  induction n with
  | zero =>
    intro p k T hk h1k hp
    obtain rfl : k = 4 := by omega
    rw [sX7_readsThing_15]
    simp (disch := omega) only [sX7_readsThing_16, sX7_readsThing_19, sX7_readsThing_20, sX7_readsThing_23, sX7_readsThing_24, sX7_readsThing_27, sX7_readsThing_28, sX7_readsThing_30, sX7_readsThing_33, sX7_readsThing_36, sX7_readsThing_37, sX7_readsThing_40, sX7_readsThing_41, h1, true_and, and_true, true_or, or_true, eq_self, ↓reduceIte, if_true, if_false, nI_add, nI_mul, inB_nI, nI_clamp, Nat.add_zero, eqI, ltI, leI, m6_ne, ne_m6, Nat.reduceEqDiff, reduceCtorEq, Nat.reduceLT, Nat.reduceLeDiff, Nat.reduceAdd, Nat.reduceMul, Nat.zero_add, Nat.mul_zero, nar_0, nar_1, nar_b, bI_t, bI_f, bI_0, bI_1, Bool.true_eq_false, Bool.false_eq_true, Bool.and_self, Bool.and_false, Bool.false_and, Bool.true_and, Bool.and_true, and_self, q_ts, thL]
  | succ n ih =>
    intro p k T hk h1k hp
    have hlt : ¬ 4 ≤ k := by omega
    have nx : ∀ Q, Runs MX7_isNext 0 [.ref 853, .int (nI 44), vJ] [] D (qM m f p k (nI 0) T) z Q = Q (.int (bI (isB ch L p 44))) D (qM m f (if isB ch L p 44 = true then p + 1 else p) k (nI 0) T) z := fun Q => c_isNext hM hP (by omega) (by decide)
    rw [sX7_readsThing_15]
    cases hb : isB ch L p 44
    · rw [hb] at nx
      simp (disch := omega) only [sX7_readsThing_16, sX7_readsThing_19, sX7_readsThing_20, sX7_readsThing_23, sX7_readsThing_24, sX7_readsThing_27, sX7_readsThing_28, sX7_readsThing_30, sX7_readsThing_33, sX7_readsThing_36, sX7_readsThing_37, sX7_readsThing_40, sX7_readsThing_41, h1, true_and, and_true, true_or, or_true, eq_self, ↓reduceIte, if_true, if_false, nI_add, nI_mul, inB_nI, nI_clamp, Nat.add_zero, eqI, ltI, leI, m6_ne, ne_m6, Nat.reduceEqDiff, reduceCtorEq, Nat.reduceLT, Nat.reduceLeDiff, Nat.reduceAdd, Nat.reduceMul, Nat.zero_add, Nat.mul_zero, nar_0, nar_1, nar_b, bI_t, bI_f, bI_0, bI_1, Bool.true_eq_false, Bool.false_eq_true, Bool.and_self, Bool.and_false, Bool.false_and, Bool.true_and, Bool.and_true, and_self, q_ts, hlt, nx, hb, thL]
    · rw [hb] at nx
      have hpl := (isB_lt hb).1
      have rs : ∀ Q, Runs MX7_readsStep 0 [.ref 853, vJ, vJ, vJ] [] D (qM m f (p + 1) k (nI 0) T) z Q = Q (.int (bI (stR ch L (p + 1)).1)) D (qM m f (stR ch L (p + 1)).2.1 (k + 1) (nI 0) (setT T k (stR ch L (p + 1)))) z := fun Q => c_readsStep hM hP (by omega) (by omega)
      have hle := stR_le (ch := ch) (L := L) (p := p + 1) (by omega)
      simp only [thL, hb, if_true]
      generalize hs : stR ch L (p + 1) = s at rs hle ⊢
      obtain ⟨s1, s2, s3, s4, s5⟩ := s
      simp only [] at rs hle ⊢
      have ih := ih s2 (k + 1) (setT T k (s1, s2, s3, s4, s5)) (by omega) (by omega) hle.2.1
      cases s1
      · simp (disch := omega) only [sX7_readsThing_16, sX7_readsThing_19, sX7_readsThing_20, sX7_readsThing_23, sX7_readsThing_24, sX7_readsThing_27, sX7_readsThing_28, sX7_readsThing_30, sX7_readsThing_33, sX7_readsThing_36, sX7_readsThing_37, sX7_readsThing_40, sX7_readsThing_41, h1, true_and, and_true, true_or, or_true, eq_self, ↓reduceIte, if_true, if_false, nI_add, nI_mul, inB_nI, nI_clamp, Nat.add_zero, eqI, ltI, leI, m6_ne, ne_m6, Nat.reduceEqDiff, reduceCtorEq, Nat.reduceLT, Nat.reduceLeDiff, Nat.reduceAdd, Nat.reduceMul, Nat.zero_add, Nat.mul_zero, nar_0, nar_1, nar_b, bI_t, bI_f, bI_0, bI_1, Bool.true_eq_false, Bool.false_eq_true, Bool.and_self, Bool.and_false, Bool.false_and, Bool.true_and, Bool.and_true, and_self, q_ts, hlt, nx, rs]
        rw [sX7_readsThing_15]
        simp (disch := omega) only [sX7_readsThing_16, true_and, and_true, true_or, or_true, eq_self, ↓reduceIte, if_true, if_false, nI_add, nI_mul, inB_nI, nI_clamp, Nat.add_zero, eqI, ltI, leI, m6_ne, ne_m6, Nat.reduceEqDiff, reduceCtorEq, Nat.reduceLT, Nat.reduceLeDiff, Nat.reduceAdd, Nat.reduceMul, Nat.zero_add, Nat.mul_zero, nar_0, nar_1, nar_b, bI_t, bI_f, bI_0, bI_1, Bool.true_eq_false, Bool.false_eq_true, Bool.and_self, Bool.and_false, Bool.false_and, Bool.true_and, Bool.and_true, and_self]
      · simp (disch := omega) only [sX7_readsThing_16, sX7_readsThing_19, sX7_readsThing_20, sX7_readsThing_23, sX7_readsThing_24, sX7_readsThing_27, sX7_readsThing_28, sX7_readsThing_30, sX7_readsThing_33, sX7_readsThing_36, sX7_readsThing_37, sX7_readsThing_40, sX7_readsThing_41, h1, true_and, and_true, true_or, or_true, eq_self, ↓reduceIte, if_true, if_false, nI_add, nI_mul, inB_nI, nI_clamp, Nat.add_zero, eqI, ltI, leI, m6_ne, ne_m6, Nat.reduceEqDiff, reduceCtorEq, Nat.reduceLT, Nat.reduceLeDiff, Nat.reduceAdd, Nat.reduceMul, Nat.zero_add, Nat.mul_zero, nar_0, nar_1, nar_b, bI_t, bI_f, bI_0, bI_1, Bool.true_eq_false, Bool.false_eq_true, Bool.and_self, Bool.and_false, Bool.false_and, Bool.true_and, Bool.and_true, and_self, q_ts, hlt, nx, rs, ih]
theorem c_readsThing (hM : IsMo D) (hP : PD m L ch) (hp : p ≤ L) : Runs MX7_readsThing 0 [.ref 853, vJ] [] D (qM m f p k w T) z Q = Q (.int (bI (thR ch L p T).1)) D (qM m f (thR ch L p T).2.1 (thR ch L p T).2.2.1 (thR ch L p T).2.2.2.1 (thR ch L p T).2.2.2.2) z := by
  have h1 := hM
  simp only [IsMo] at h1
  have h60 := hP.2.1
  have rs : ∀ Q, Runs MX7_readsStep 0 [.ref 853, vJ, vJ, vJ] [] D (qM m f p 0 (nI 0) T) z Q = Q (.int (bI (stR ch L p).1)) D (qM m f (stR ch L p).2.1 (0 + 1) (nI 0) (setT T 0 (stR ch L p))) z := fun Q => c_readsStep hM hP (by omega) (by decide)
  have hle := stR_le (ch := ch) (L := L) (p := p) hp
  -- from 44 on
  have fin : ∀ (q : Bool × Nat × Nat × (Nat → Int32)), q.2.1 ≤ L → Runs MX7_readsThing 44 [.ref 853, .int (bI q.1)] [] D (qM m f q.2.1 q.2.2.1 (nI 0) q.2.2.2) z Q = Q (.int (bI (wkR ch L q).1)) D (qM m f (wkR ch L q).2.1 (wkR ch L q).2.2.1 (wkR ch L q).2.2.2.1 (wkR ch L q).2.2.2.2) z := by
    intro q hq
    obtain ⟨b, p1, k1, T1⟩ := q
    simp only [] at hq ⊢
    have nx : ∀ Q, Runs MX7_isNext 0 [.ref 853, .int (nI 33), vJ] [] D (qM m f p1 k1 (nI 0) T1) z Q = Q (.int (bI (isB ch L p1 33))) D (qM m f (if isB ch L p1 33 = true then p1 + 1 else p1) k1 (nI 0) T1) z := fun Q => c_isNext hM hP (by omega) (by decide)
    have td : ∀ Q, Runs MX7_takeDigit 0 [.ref 853, .int (nI 0), .int (nI 3), vJ] [] D (qM m f (p1 + 1) k1 (nI 0) T1) z Q = Q (.int (if dgB ch L (p1 + 1) 0 3 = true then nI (ch (p1 + 1) - 48) else m1)) D (qM m f (if dgB ch L (p1 + 1) 0 3 = true then p1 + 1 + 1 else p1 + 1) k1 (nI 0) T1) z := fun Q => c_takeDigit hM hP (by omega) (by decide) (by decide)
    unfold wkR
    cases b
    · simp (disch := omega) only [sX7_readsThing_44, sX7_readsThing_45, sX7_readsThing_48, sX7_readsThing_49, sX7_readsThing_51, sX7_readsThing_54, sX7_readsThing_57, sX7_readsThing_58, sX7_readsThing_59, sX7_readsThing_60, sX7_readsThing_61, sX7_readsThing_64, sX7_readsThing_67, sX7_readsThing_68, sX7_readsThing_71, sX7_readsThing_72, sX7_readsThing_75, sX7_readsThing_78, sX7_readsThing_79, sX7_readsThing_82, sX7_readsThing_83, h1, true_and, and_true, true_or, or_true, eq_self, ↓reduceIte, if_true, if_false, nI_add, nI_mul, inB_nI, nI_clamp, Nat.add_zero, eqI, ltI, leI, m6_ne, ne_m6, Nat.reduceEqDiff, reduceCtorEq, Nat.reduceLT, Nat.reduceLeDiff, Nat.reduceAdd, Nat.reduceMul, Nat.zero_add, Nat.mul_zero, nar_0, nar_1, nar_b, bI_t, bI_f, bI_0, bI_1, Bool.true_eq_false, Bool.false_eq_true, Bool.and_self, Bool.and_false, Bool.false_and, Bool.true_and, Bool.and_true, and_self]
    · cases b1 : isB ch L p1 33
      · rw [b1] at nx
        simp (disch := omega) only [sX7_readsThing_44, sX7_readsThing_45, sX7_readsThing_48, sX7_readsThing_49, sX7_readsThing_51, sX7_readsThing_54, sX7_readsThing_57, sX7_readsThing_58, sX7_readsThing_59, sX7_readsThing_60, sX7_readsThing_61, sX7_readsThing_64, sX7_readsThing_67, sX7_readsThing_68, sX7_readsThing_71, sX7_readsThing_72, sX7_readsThing_75, sX7_readsThing_78, sX7_readsThing_79, sX7_readsThing_82, sX7_readsThing_83, h1, true_and, and_true, true_or, or_true, eq_self, ↓reduceIte, if_true, if_false, nI_add, nI_mul, inB_nI, nI_clamp, Nat.add_zero, eqI, ltI, leI, m6_ne, ne_m6, Nat.reduceEqDiff, reduceCtorEq, Nat.reduceLT, Nat.reduceLeDiff, Nat.reduceAdd, Nat.reduceMul, Nat.zero_add, Nat.mul_zero, nar_0, nar_1, nar_b, bI_t, bI_f, bI_0, bI_1, Bool.true_eq_false, Bool.false_eq_true, Bool.and_self, Bool.and_false, Bool.false_and, Bool.true_and, Bool.and_true, and_self, nx, b1, q_tw, Nat.not_lt_zero, Nat.zero_le]
      · rw [b1] at nx
        cases b2 : dgB ch L (p1 + 1) 0 3
        · rw [b2] at td
          simp (disch := omega) only [sX7_readsThing_44, sX7_readsThing_45, sX7_readsThing_48, sX7_readsThing_49, sX7_readsThing_51, sX7_readsThing_54, sX7_readsThing_57, sX7_readsThing_58, sX7_readsThing_59, sX7_readsThing_60, sX7_readsThing_61, sX7_readsThing_64, sX7_readsThing_67, sX7_readsThing_68, sX7_readsThing_71, sX7_readsThing_72, sX7_readsThing_75, sX7_readsThing_78, sX7_readsThing_79, sX7_readsThing_82, sX7_readsThing_83, h1, true_and, and_true, true_or, or_true, eq_self, ↓reduceIte, if_true, if_false, nI_add, nI_mul, inB_nI, nI_clamp, Nat.add_zero, eqI, ltI, leI, m6_ne, ne_m6, Nat.reduceEqDiff, reduceCtorEq, Nat.reduceLT, Nat.reduceLeDiff, Nat.reduceAdd, Nat.reduceMul, Nat.zero_add, Nat.mul_zero, nar_0, nar_1, nar_b, bI_t, bI_f, bI_0, bI_1, Bool.true_eq_false, Bool.false_eq_true, Bool.and_self, Bool.and_false, Bool.false_and, Bool.true_and, Bool.and_true, and_self, nx, b1, td, b2, q_tw, q_ptw, m1_lt0, m1_ge0]
        · rw [b2] at td
          have d := dgB_lt b2
          have u : ch (p1 + 1) - 48 < 10 := by omega
          simp (disch := omega) only [sX7_readsThing_44, sX7_readsThing_45, sX7_readsThing_48, sX7_readsThing_49, sX7_readsThing_51, sX7_readsThing_54, sX7_readsThing_57, sX7_readsThing_58, sX7_readsThing_59, sX7_readsThing_60, sX7_readsThing_61, sX7_readsThing_64, sX7_readsThing_67, sX7_readsThing_68, sX7_readsThing_71, sX7_readsThing_72, sX7_readsThing_75, sX7_readsThing_78, sX7_readsThing_79, sX7_readsThing_82, sX7_readsThing_83, h1, true_and, and_true, true_or, or_true, eq_self, ↓reduceIte, if_true, if_false, nI_add, nI_mul, inB_nI, nI_clamp, Nat.add_zero, eqI, ltI, leI, m6_ne, ne_m6, Nat.reduceEqDiff, reduceCtorEq, Nat.reduceLT, Nat.reduceLeDiff, Nat.reduceAdd, Nat.reduceMul, Nat.zero_add, Nat.mul_zero, nar_0, nar_1, nar_b, bI_t, bI_f, bI_0, bI_1, Bool.true_eq_false, Bool.false_eq_true, Bool.and_self, Bool.and_false, Bool.false_and, Bool.true_and, Bool.and_true, and_self, nx, b1, td, b2, q_tw, q_ptw, Nat.not_lt_zero, Nat.zero_le, Nat.add_assoc]
  have hl := fun (p : Nat) (T : Nat → Int32) (h : p ≤ L) => l_readsThing (D := D) (m := m) (f := f) (z := z) (Q := Q) (L := L) (ch := ch) hM hP 3 p 1 T (by decide) (by decide) h
  have hq := fun (p : Nat) (T : Nat → Int32) (h : p ≤ L) => (thL_le (ch := ch) (L := L) 3 p 1 T h).2.1
  unfold thR
  generalize stR ch L p = s at rs hle ⊢
  obtain ⟨s1, s2, s3, s4, s5⟩ := s
  simp only [] at rs hle ⊢
  cases s1
  · simp (disch := omega) only [sX7_readsThing_0, sX7_readsThing_1, sX7_readsThing_2, sX7_readsThing_5, sX7_readsThing_6, sX7_readsThing_7, sX7_readsThing_10, sX7_readsThing_11, sX7_readsThing_14, h1, true_and, and_true, true_or, or_true, eq_self, ↓reduceIte, if_true, if_false, nI_add, nI_mul, inB_nI, nI_clamp, Nat.add_zero, eqI, ltI, leI, m6_ne, ne_m6, Nat.reduceEqDiff, reduceCtorEq, Nat.reduceLT, Nat.reduceLeDiff, Nat.reduceAdd, Nat.reduceMul, Nat.zero_add, Nat.mul_zero, nar_0, nar_1, nar_b, bI_t, bI_f, bI_0, bI_1, Bool.true_eq_false, Bool.false_eq_true, Bool.and_self, Bool.and_false, Bool.false_and, Bool.true_and, Bool.and_true, and_self, q_pts, q_ptw, rs]
    rw [sX7_readsThing_15]
    simp (disch := omega) only [sX7_readsThing_16, true_and, and_true, true_or, or_true, eq_self, ↓reduceIte, if_true, if_false, nI_add, nI_mul, inB_nI, nI_clamp, Nat.add_zero, eqI, ltI, leI, m6_ne, ne_m6, Nat.reduceEqDiff, reduceCtorEq, Nat.reduceLT, Nat.reduceLeDiff, Nat.reduceAdd, Nat.reduceMul, Nat.zero_add, Nat.mul_zero, nar_0, nar_1, nar_b, bI_t, bI_f, bI_0, bI_1, Bool.true_eq_false, Bool.false_eq_true, Bool.and_self, Bool.and_false, Bool.false_and, Bool.true_and, Bool.and_true, and_self]
    exact fin (false, s2, 1, setT T 0 (false, s2, s3, s4, s5)) hle.2.1
  · simp (disch := omega) only [sX7_readsThing_0, sX7_readsThing_1, sX7_readsThing_2, sX7_readsThing_5, sX7_readsThing_6, sX7_readsThing_7, sX7_readsThing_10, sX7_readsThing_11, sX7_readsThing_14, h1, true_and, and_true, true_or, or_true, eq_self, ↓reduceIte, if_true, if_false, nI_add, nI_mul, inB_nI, nI_clamp, Nat.add_zero, eqI, ltI, leI, m6_ne, ne_m6, Nat.reduceEqDiff, reduceCtorEq, Nat.reduceLT, Nat.reduceLeDiff, Nat.reduceAdd, Nat.reduceMul, Nat.zero_add, Nat.mul_zero, nar_0, nar_1, nar_b, bI_t, bI_f, bI_0, bI_1, Bool.true_eq_false, Bool.false_eq_true, Bool.and_self, Bool.and_false, Bool.false_and, Bool.true_and, Bool.and_true, and_self, q_pts, q_ptw, rs, if_true]
    rw [hl _ _ hle.2.1, fin _ (hq _ _ hle.2.1)]
theorem l_findFault (hM : IsMo D) (hP : PD m L ch) : ∀ (n p k : Nat) (w : Int32) (T : Nat → Int32), L + 1 ≤ p + n → p ≤ L → ∃ p' k' w' T', ∀ Q, Runs MX7_findFault 5 [.ref 853] [] D (qM m f p k w T) z Q = Q (.int (ffR ch L n p T)) D (qM m f p' k' w' T') z := by
  have h1 := hM
  simp only [IsMo] at h1
  have h60 := hP.2.1
  have h7 := hP.1
  intro n
  induction n with
  | zero =>
    intro p k w T h hp
    omega
  | succ n ih =>
    intro p k w T h hp
    have rt : ∀ Q, Runs MX7_readsThing 0 [.ref 853, vJ] [] D (qM m f p k w T) z Q = Q (.int (bI (thR ch L p T).1)) D (qM m f (thR ch L p T).2.1 (thR ch L p T).2.2.1 (thR ch L p T).2.2.2.1 (thR ch L p T).2.2.2.2) z := fun Q => c_readsThing hM hP hp
    have hle := thR_le (ch := ch) (L := L) (p := p) (T := T) hp
    simp only [ffR]
    generalize thR ch L p T = r at rt hle ⊢
    obtain ⟨r1, r2, r3, r4, r5⟩ := r
    simp only [] at rt hle ⊢
    cases r1
    · refine ⟨r2, r3, r4, r5, fun Q => ?_⟩
      rw [sX7_findFault_5]
      simp (disch := omega) only [sX7_findFault_0, sX7_findFault_1, sX7_findFault_2, sX7_findFault_6, sX7_findFault_9, sX7_findFault_12, sX7_findFault_13, sX7_findFault_16, sX7_findFault_17, sX7_findFault_18, sX7_findFault_21, sX7_findFault_22, sX7_findFault_25, sX7_findFault_28, sX7_findFault_30, sX7_findFault_31, sX7_findFault_32, sX7_findFault_34, sX7_findFault_37, sX7_findFault_40, sX7_findFault_41, sX7_findFault_44, h1, true_and, and_true, true_or, or_true, eq_self, ↓reduceIte, if_true, if_false, nI_add, nI_mul, inB_nI, nI_clamp, Nat.add_zero, eqI, ltI, leI, m6_ne, ne_m6, Nat.reduceEqDiff, reduceCtorEq, Nat.reduceLT, Nat.reduceLeDiff, Nat.reduceAdd, Nat.reduceMul, Nat.zero_add, Nat.mul_zero, nar_0, nar_1, nar_b, bI_t, bI_f, bI_0, bI_1, Bool.true_eq_false, Bool.false_eq_true, Bool.and_self, Bool.and_false, Bool.false_and, Bool.true_and, Bool.and_true, and_self, rt, q_at]
    · by_cases hL : r2 = L
      · refine ⟨r2, r3, r4, r5, fun Q => ?_⟩
        rw [sX7_findFault_5]
        simp (disch := omega) only [sX7_findFault_0, sX7_findFault_1, sX7_findFault_2, sX7_findFault_6, sX7_findFault_9, sX7_findFault_12, sX7_findFault_13, sX7_findFault_16, sX7_findFault_17, sX7_findFault_18, sX7_findFault_21, sX7_findFault_22, sX7_findFault_25, sX7_findFault_28, sX7_findFault_30, sX7_findFault_31, sX7_findFault_32, sX7_findFault_34, sX7_findFault_37, sX7_findFault_40, sX7_findFault_41, sX7_findFault_44, h1, true_and, and_true, true_or, or_true, eq_self, ↓reduceIte, if_true, if_false, nI_add, nI_mul, inB_nI, nI_clamp, Nat.add_zero, eqI, ltI, leI, m6_ne, ne_m6, Nat.reduceEqDiff, reduceCtorEq, Nat.reduceLT, Nat.reduceLeDiff, Nat.reduceAdd, Nat.reduceMul, Nat.zero_add, Nat.mul_zero, nar_0, nar_1, nar_b, bI_t, bI_f, bI_0, bI_1, Bool.true_eq_false, Bool.false_eq_true, Bool.and_self, Bool.and_false, Bool.false_and, Bool.true_and, Bool.and_true, and_self, rt, q_at, q_fld, ne_eq, not_false_eq_true, h7, hL]
      · have nx : ∀ Q, Runs MX7_isNext 0 [.ref 853, .int (nI 59), vJ] [] D (qM m f r2 r3 r4 r5) z Q = Q (.int (bI (isB ch L r2 59))) D (qM m f (if isB ch L r2 59 = true then r2 + 1 else r2) r3 r4 r5) z := fun Q => c_isNext hM hP (by omega) (by decide)
        have h2 := (hle.2.2.2.2 rfl).1
        cases hb : isB ch L r2 59
        · rw [hb] at nx
          refine ⟨r2, r3, r4, r5, fun Q => ?_⟩
          rw [sX7_findFault_5]
          simp (disch := omega) only [sX7_findFault_0, sX7_findFault_1, sX7_findFault_2, sX7_findFault_6, sX7_findFault_9, sX7_findFault_12, sX7_findFault_13, sX7_findFault_16, sX7_findFault_17, sX7_findFault_18, sX7_findFault_21, sX7_findFault_22, sX7_findFault_25, sX7_findFault_28, sX7_findFault_30, sX7_findFault_31, sX7_findFault_32, sX7_findFault_34, sX7_findFault_37, sX7_findFault_40, sX7_findFault_41, sX7_findFault_44, h1, true_and, and_true, true_or, or_true, eq_self, ↓reduceIte, if_true, if_false, nI_add, nI_mul, inB_nI, nI_clamp, Nat.add_zero, eqI, ltI, leI, m6_ne, ne_m6, Nat.reduceEqDiff, reduceCtorEq, Nat.reduceLT, Nat.reduceLeDiff, Nat.reduceAdd, Nat.reduceMul, Nat.zero_add, Nat.mul_zero, nar_0, nar_1, nar_b, bI_t, bI_f, bI_0, bI_1, Bool.true_eq_false, Bool.false_eq_true, Bool.and_self, Bool.and_false, Bool.false_and, Bool.true_and, Bool.and_true, and_self, rt, q_at, q_fld, ne_eq, not_false_eq_true, h7, hL, nx]
        · rw [hb] at nx
          have hlt := (isB_lt hb).1
          obtain ⟨p', k', w', T', ih⟩ := ih (r2 + 1) r3 r4 r5 (by omega) (by omega)
          refine ⟨p', k', w', T', fun Q => ?_⟩
          rw [sX7_findFault_5]
          simp (disch := omega) only [sX7_findFault_0, sX7_findFault_1, sX7_findFault_2, sX7_findFault_6, sX7_findFault_9, sX7_findFault_12, sX7_findFault_13, sX7_findFault_16, sX7_findFault_17, sX7_findFault_18, sX7_findFault_21, sX7_findFault_22, sX7_findFault_25, sX7_findFault_28, sX7_findFault_30, sX7_findFault_31, sX7_findFault_32, sX7_findFault_34, sX7_findFault_37, sX7_findFault_40, sX7_findFault_41, sX7_findFault_44, h1, true_and, and_true, true_or, or_true, eq_self, ↓reduceIte, if_true, if_false, nI_add, nI_mul, inB_nI, nI_clamp, Nat.add_zero, eqI, ltI, leI, m6_ne, ne_m6, Nat.reduceEqDiff, reduceCtorEq, Nat.reduceLT, Nat.reduceLeDiff, Nat.reduceAdd, Nat.reduceMul, Nat.zero_add, Nat.mul_zero, nar_0, nar_1, nar_b, bI_t, bI_f, bI_0, bI_1, Bool.true_eq_false, Bool.false_eq_true, Bool.and_self, Bool.and_false, Bool.false_and, Bool.true_and, Bool.and_true, and_self, rt, q_at, q_fld, ne_eq, not_false_eq_true, h7, hL, nx, ih]
theorem c_findFault (hM : IsMo D) (hP : PD m L ch) : ∃ p' k' w' T', ∀ Q, Runs MX7_findFault 0 [.ref 853] [] D (qM m f p k w T) z Q = Q (.int (ffR ch L (L + 1) 0 T)) D (qM m f p' k' w' T') z := by
  have h1 := hM
  simp only [IsMo] at h1
  obtain ⟨p', k', w', T', h⟩ := l_findFault (D := D) (m := m) (f := f) (z := z) (L := L) (ch := ch) hM hP (L + 1) 0 k w T (by omega) (by omega)
  refine ⟨p', k', w', T', fun Q => ?_⟩
  simp (disch := omega) only [sX7_findFault_0, sX7_findFault_1, sX7_findFault_2, h1, true_and, and_true, true_or, or_true, eq_self, ↓reduceIte, if_true, if_false, nI_add, nI_mul, inB_nI, nI_clamp, Nat.add_zero, eqI, ltI, leI, m6_ne, ne_m6, Nat.reduceEqDiff, reduceCtorEq, Nat.reduceLT, Nat.reduceLeDiff, Nat.reduceAdd, Nat.reduceMul, Nat.zero_add, Nat.mul_zero, nar_0, nar_1, nar_b, bI_t, bI_f, bI_0, bI_1, Bool.true_eq_false, Bool.false_eq_true, Bool.and_self, Bool.and_false, Bool.false_and, Bool.true_and, Bool.and_true, and_self, q_pat, h]
/-- how many semicolons among the first n characters -/
def smN (ch : Nat → Nat) : Nat → Nat
  | 0 => 0
  | n + 1 => smN ch n + (if ch n = 59 then 1 else 0)
theorem smN_le (ch : Nat → Nat) (n : Nat) : smN ch n ≤ n := by
  induction n with
  | zero => exact Nat.le_refl _
  | succ n ih => simp only [smN]; split <;> omega
theorem l_toldMany (hM : IsMo D) (hP : PD m L ch) : ∀ k i, i + k = L → Runs MX7_toldMany 4 [.ref 853, .int (nI (1 + smN ch i)), .int (nI i)] [] D m z Q = Q (.int (nI (1 + smN ch L))) D m z := by
  have h1 := hM
  simp only [IsMo] at h1
  obtain ⟨h7, h60, hc⟩ := hP
  intro k
  induction k with
  | zero =>
    intro i hi
    obtain rfl : i = L := by omega
    rw [sX7_toldMany_4]
    simp (disch := omega) only [sX7_toldMany_0, sX7_toldMany_1, sX7_toldMany_2, sX7_toldMany_3, sX7_toldMany_5, sX7_toldMany_6, sX7_toldMany_9, sX7_toldMany_12, sX7_toldMany_13, sX7_toldMany_14, sX7_toldMany_17, sX7_toldMany_18, sX7_toldMany_19, sX7_toldMany_21, sX7_toldMany_24, sX7_toldMany_25, sX7_toldMany_28, sX7_toldMany_29, sX7_toldMany_30, sX7_toldMany_31, sX7_toldMany_34, sX7_toldMany_37, sX7_toldMany_38, h1, true_and, and_true, true_or, or_true, eq_self, ↓reduceIte, if_true, if_false, nI_add, nI_mul, inB_nI, nI_clamp, Nat.add_zero, eqI, ltI, leI, m6_ne, ne_m6, Nat.reduceEqDiff, reduceCtorEq, Nat.reduceLT, Nat.reduceLeDiff, Nat.reduceAdd, Nat.reduceMul, Nat.zero_add, Nat.mul_zero, nar_0, nar_1, nar_b, bI_t, bI_f, bI_0, bI_1, Bool.true_eq_false, Bool.false_eq_true, Bool.and_self, Bool.and_false, Bool.false_and, Bool.true_and, Bool.and_true, and_self, h7, Nat.le_refl]
  | succ k ih =>
    intro i hi
    have hlt : ¬ L ≤ i := by omega
    have ih := ih (i + 1) (by omega)
    simp only [smN] at ih
    have hci := hc i (by omega)
    rw [sX7_toldMany_4]
    by_cases hs : ch i = 59
    · rw [if_pos hs] at ih
      simp (disch := omega) only [sX7_toldMany_0, sX7_toldMany_1, sX7_toldMany_2, sX7_toldMany_3, sX7_toldMany_5, sX7_toldMany_6, sX7_toldMany_9, sX7_toldMany_12, sX7_toldMany_13, sX7_toldMany_14, sX7_toldMany_17, sX7_toldMany_18, sX7_toldMany_19, sX7_toldMany_21, sX7_toldMany_24, sX7_toldMany_25, sX7_toldMany_28, sX7_toldMany_29, sX7_toldMany_30, sX7_toldMany_31, sX7_toldMany_34, sX7_toldMany_37, sX7_toldMany_38, h1, true_and, and_true, true_or, or_true, eq_self, ↓reduceIte, if_true, if_false, nI_add, nI_mul, inB_nI, nI_clamp, Nat.add_zero, eqI, ltI, leI, m6_ne, ne_m6, Nat.reduceEqDiff, reduceCtorEq, Nat.reduceLT, Nat.reduceLeDiff, Nat.reduceAdd, Nat.reduceMul, Nat.zero_add, Nat.mul_zero, nar_0, nar_1, nar_b, bI_t, bI_f, bI_0, bI_1, Bool.true_eq_false, Bool.false_eq_true, Bool.and_self, Bool.and_false, Bool.false_and, Bool.true_and, Bool.and_true, and_self, h7, hlt, hci.1, hs, Nat.add_assoc, ih]
    · rw [if_neg hs, Nat.add_zero] at ih
      simp (disch := omega) only [sX7_toldMany_0, sX7_toldMany_1, sX7_toldMany_2, sX7_toldMany_3, sX7_toldMany_5, sX7_toldMany_6, sX7_toldMany_9, sX7_toldMany_12, sX7_toldMany_13, sX7_toldMany_14, sX7_toldMany_17, sX7_toldMany_18, sX7_toldMany_19, sX7_toldMany_21, sX7_toldMany_24, sX7_toldMany_25, sX7_toldMany_28, sX7_toldMany_29, sX7_toldMany_30, sX7_toldMany_31, sX7_toldMany_34, sX7_toldMany_37, sX7_toldMany_38, h1, true_and, and_true, true_or, or_true, eq_self, ↓reduceIte, if_true, if_false, nI_add, nI_mul, inB_nI, nI_clamp, Nat.add_zero, eqI, ltI, leI, m6_ne, ne_m6, Nat.reduceEqDiff, reduceCtorEq, Nat.reduceLT, Nat.reduceLeDiff, Nat.reduceAdd, Nat.reduceMul, Nat.zero_add, Nat.mul_zero, nar_0, nar_1, nar_b, bI_t, bI_f, bI_0, bI_1, Bool.true_eq_false, Bool.false_eq_true, Bool.and_self, Bool.and_false, Bool.false_and, Bool.true_and, Bool.and_true, and_self, h7, hlt, hci.1, hs, ih]
theorem c_toldMany (hM : IsMo D) (hP : PD m L ch) : Runs MX7_toldMany 0 [.ref 853, vJ, vJ] [] D m z Q = Q (.int (nI (1 + smN ch L))) D m z := by
  have h0 := l_toldMany (D := D) (z := z) (Q := Q) hM hP L 0 (by omega)
  simp only [sX7_toldMany_0, sX7_toldMany_1, sX7_toldMany_2, sX7_toldMany_3]
  exact h0
/-- a new thing behind the others -/
def newF (f : Nat → Int32) (t k : Nat) (w : Int32) (T : Nat → Int32) : Nat → Int32 := fun j => if j = 3 then nI (t + 1) else if 58 + 18 * t ≤ j ∧ j < 58 + 18 * t + 18 then (if j = 58 + 18 * t + 1 then nI k else if j = 58 + 18 * t + 5 then w else if 58 + 18 * t + 6 ≤ j ∧ j < 58 + 18 * t + 6 + 3 * k then T (j - (58 + 18 * t + 6)) else nI 0) else f j
def zrF (t i : Nat) (f : Nat → Int32) : Nat → Int32 := fun j => if 58 + 18 * t ≤ j ∧ j < 58 + 18 * t + i then nI 0 else f j
def tlF (t i : Nat) (T f : Nat → Int32) : Nat → Int32 := fun j => if 58 + 18 * t + 6 ≤ j ∧ j < 58 + 18 * t + 6 + i then T (j - (58 + 18 * t + 6)) else f j
theorem l_comes1 (hM : IsMo D) {t : Nat} (ht : t < 16) : ∀ n i, i + n = 18 → Runs MX7_comes 9 [.ref 853, .int (nI t), .int (nI i)] [] D (qM m (zrF t i f) p k w T) z Q = Runs MX7_comes 28 [.ref 853, .int (nI t), .int (nI 18)] [] D (qM m (zrF t 18 f) p k w T) z Q := by
  have h1 := hM
  simp only [IsMo] at h1
  intro n
  induction n with
  | zero =>
    intro i hi
    obtain rfl : i = 18 := by omega
    rw [sX7_comes_9]
    simp (disch := omega) only [sX7_comes_10, sX7_comes_12, sX7_comes_15, sX7_comes_16, sX7_comes_17, sX7_comes_18, sX7_comes_19, sX7_comes_22, sX7_comes_25, true_and, and_true, true_or, or_true, eq_self, ↓reduceIte, if_true, if_false, nI_add, nI_mul, inB_nI, nI_clamp, Nat.add_zero, eqI, ltI, leI, m6_ne, ne_m6, Nat.reduceEqDiff, reduceCtorEq, Nat.reduceLT, Nat.reduceLeDiff, Nat.reduceAdd, Nat.reduceMul, Nat.zero_add, Nat.mul_zero, nar_0, nar_1, nar_b, bI_t, bI_f, bI_0, bI_1, Bool.true_eq_false, Bool.false_eq_true, Bool.and_self, Bool.and_false, Bool.false_and, Bool.true_and, Bool.and_true, and_self]
  | succ n ih =>
    intro i hi
    have hlt : ¬ 18 ≤ i := by omega
    have ih := ih (i + 1) (by omega)
    have e : sT (zrF t i f) t i (nI 0) = zrF t (i + 1) f := by
      funext j
      unfold sT upd zrF
      by_cases hj : j = 58 + 18 * t + i
      · rw [if_pos hj, if_pos (by omega)]
      · rw [if_neg hj]
        by_cases hc : 58 + 18 * t ≤ j ∧ j < 58 + 18 * t + i
        · rw [if_pos hc, if_pos (by omega)]
        · rw [if_neg hc, if_neg (by omega)]
    have st : ∀ Q, Runs MX7_setThing 0 [.ref 853, .int (nI t), .int (nI i), .int (nI 0)] [] D (qM m (zrF t i f) p k w T) z Q = Q vJ D (qM m (zrF t (i + 1) f) p k w T) z := fun Q => by
      unfold qM
      rw [c_setThing hM ht (by omega), e]
    rw [sX7_comes_9]
    simp (disch := omega) only [sX7_comes_10, sX7_comes_12, sX7_comes_15, sX7_comes_16, sX7_comes_17, sX7_comes_18, sX7_comes_19, sX7_comes_22, sX7_comes_25, h1, true_and, and_true, true_or, or_true, eq_self, ↓reduceIte, if_true, if_false, nI_add, nI_mul, inB_nI, nI_clamp, Nat.add_zero, eqI, ltI, leI, m6_ne, ne_m6, Nat.reduceEqDiff, reduceCtorEq, Nat.reduceLT, Nat.reduceLeDiff, Nat.reduceAdd, Nat.reduceMul, Nat.zero_add, Nat.mul_zero, nar_0, nar_1, nar_b, bI_t, bI_f, bI_0, bI_1, Bool.true_eq_false, Bool.false_eq_true, Bool.and_self, Bool.and_false, Bool.false_and, Bool.true_and, Bool.and_true, and_self, hlt, st, ih]
theorem l_comes2 (hM : IsMo D) {t : Nat} (ht : t < 16) (hk : k ≤ 4) (h3 : gG f 3 = nI t) : ∀ n i, i + n = 3 * k → Runs MX7_comes 50 [.ref 853, .int (nI t), .int (nI i)] [] D (qM m (tlF t i T f) p k w T) z Q = Q vJ D (qM m (sG (tlF t (3 * k) T f) 3 (nI (t + 1))) p k w T) z := by
  have h1 := hM
  simp only [IsMo] at h1
  intro n
  induction n with
  | zero =>
    intro i hi
    obtain rfl : i = 3 * k := by omega
    have g3 : gG (tlF t (3 * k) T f) 3 = nI t := by
      unfold gG tlF
      rw [if_neg (by omega)]
      exact h3
    have rd : qM m (tlF t (3 * k) T f) p k w T 854 3 = nI t := by
      unfold qM
      rw [eM_gG (by decide), g3]
    have wr : ∀ x, up2 (qM m (tlF t (3 * k) T f) p k w T) 854 3 x = qM m (sG (tlF t (3 * k) T f) 3 x) p k w T := fun x => by
      unfold qM
      rw [eM_sG (by decide)]
    rw [sX7_comes_50]
    simp (disch := omega) only [sX7_comes_51, sX7_comes_52, sX7_comes_53, sX7_comes_56, sX7_comes_57, sX7_comes_60, sX7_comes_61, sX7_comes_62, sX7_comes_64, sX7_comes_65, sX7_comes_66, sX7_comes_67, sX7_comes_70, sX7_comes_71, sX7_comes_72, sX7_comes_75, sX7_comes_78, sX7_comes_81, sX7_comes_82, sX7_comes_85, sX7_comes_86, sX7_comes_87, sX7_comes_88, sX7_comes_89, sX7_comes_90, sX7_comes_91, h1, true_and, and_true, true_or, or_true, eq_self, ↓reduceIte, if_true, if_false, nI_add, nI_mul, inB_nI, nI_clamp, Nat.add_zero, eqI, ltI, leI, m6_ne, ne_m6, Nat.reduceEqDiff, reduceCtorEq, Nat.reduceLT, Nat.reduceLeDiff, Nat.reduceAdd, Nat.reduceMul, Nat.zero_add, Nat.mul_zero, nar_0, nar_1, nar_b, bI_t, bI_f, bI_0, bI_1, Bool.true_eq_false, Bool.false_eq_true, Bool.and_self, Bool.and_false, Bool.false_and, Bool.true_and, Bool.and_true, and_self, q_ts, Nat.le_refl, rd, wr]
  | succ n ih =>
    intro i hi
    have hlt : ¬ 3 * k ≤ i := by omega
    have ih := ih (i + 1) (by omega)
    have e : sT (tlF t i T f) t (6 + i) (T i) = tlF t (i + 1) T f := by
      funext j
      unfold sT upd tlF
      by_cases hj : j = 58 + 18 * t + (6 + i)
      · rw [if_pos hj, if_pos (by omega)]
        congr 1
        omega
      · rw [if_neg hj]
        by_cases hc : 58 + 18 * t + 6 ≤ j ∧ j < 58 + 18 * t + 6 + i
        · rw [if_pos hc, if_pos (by omega)]
        · rw [if_neg hc, if_neg (by omega)]
    have st : ∀ Q, Runs MX7_setThing 0 [.ref 853, .int (nI t), .int (nI (6 + i)), .int (T i)] [] D (qM m (tlF t i T f) p k w T) z Q = Q vJ D (qM m (tlF t (i + 1) T f) p k w T) z := fun Q => by
      unfold qM
      rw [c_setThing hM ht (by omega), e]
    rw [sX7_comes_50]
    simp (disch := omega) only [sX7_comes_51, sX7_comes_52, sX7_comes_53, sX7_comes_56, sX7_comes_57, sX7_comes_60, sX7_comes_61, sX7_comes_62, sX7_comes_64, sX7_comes_65, sX7_comes_66, sX7_comes_67, sX7_comes_70, sX7_comes_71, sX7_comes_72, sX7_comes_75, sX7_comes_78, h1, true_and, and_true, true_or, or_true, eq_self, ↓reduceIte, if_true, if_false, nI_add, nI_mul, inB_nI, nI_clamp, Nat.add_zero, eqI, ltI, leI, m6_ne, ne_m6, Nat.reduceEqDiff, reduceCtorEq, Nat.reduceLT, Nat.reduceLeDiff, Nat.reduceAdd, Nat.reduceMul, Nat.zero_add, Nat.mul_zero, nar_0, nar_1, nar_b, bI_t, bI_f, bI_0, bI_1, Bool.true_eq_false, Bool.false_eq_true, Bool.and_self, Bool.and_false, Bool.false_and, Bool.true_and, Bool.and_true, and_self, q_ts, hlt, q_told, st, ih]
theorem c_comes (hM : IsMo D) {t : Nat} (ht : t < 16) (hk : k ≤ 4) (h3 : gG f 3 = nI t) : Runs MX7_comes 0 [.ref 853, vJ, vJ] [] D (qM m f p k w T) z Q = Q vJ D (qM m (newF f t k w T) p k w T) z := by
  have h1 := hM
  simp only [IsMo] at h1
  have rd : qM m f p k w T 854 3 = nI t := by
    unfold qM
    rw [eM_gG (by decide), h3]
  have e0 : zrF t 0 f = f := by
    funext j
    unfold zrF
    rw [if_neg (by omega)]
  have l1 := l_comes1 (D := D) (m := m) (f := f) (z := z) (Q := Q) (p := p) (k := k) (w := w) (T := T) hM ht 18 0 (by decide)
  rw [e0] at l1
  have st : ∀ (g : Nat → Int32) (j : Nat) (x : Int32) Q, j < 18 → Runs MX7_setThing 0 [.ref 853, .int (nI t), .int (nI j), .int x] [] D (qM m g p k w T) z Q = Q vJ D (qM m (sT g t j x) p k w T) z := fun g j x Q hj => by
    unfold qM
    rw [c_setThing hM ht hj]
  have g3 : gG (sT (sT (zrF t 18 f) t 1 (nI k)) t 5 w) 3 = nI t := by
    rw [gG_sT (Or.inl (by decide)) ht (by decide), gG_sT (Or.inl (by decide)) ht (by decide)]
    unfold gG zrF
    rw [if_neg (by omega)]
    exact h3
  have l2 := l_comes2 (D := D) (m := m) (z := z) (Q := Q) (p := p) (w := w) (T := T) hM ht hk g3 (3 * k) 0 (by omega)
  have e1 : tlF t 0 T (sT (sT (zrF t 18 f) t 1 (nI k)) t 5 w) = sT (sT (zrF t 18 f) t 1 (nI k)) t 5 w := by
    funext j
    unfold tlF
    rw [if_neg (by omega)]
  rw [e1] at l2
  have e2 : sG (tlF t (3 * k) T (sT (sT (zrF t 18 f) t 1 (nI k)) t 5 w)) 3 (nI (t + 1)) = newF f t k w T := by
    funext j
    unfold sG newF
    by_cases hj : j = 3
    · subst hj
      rw [upd_eq, if_pos rfl]
    · rw [upd_ne _ _ hj, if_neg hj]
      unfold tlF sT zrF
      by_cases hc : 58 + 18 * t + 6 ≤ j ∧ j < 58 + 18 * t + 6 + 3 * k
      · rw [if_pos hc, if_pos (by omega), if_neg (by omega), if_neg (by omega), if_pos hc]
      · rw [if_neg hc]
        by_cases h5 : j = 58 + 18 * t + 5
        · subst h5
          rw [upd_eq, if_pos (by omega), if_neg (by omega), if_pos rfl]
        · rw [upd_ne _ _ h5]
          by_cases h1' : j = 58 + 18 * t + 1
          · subst h1'
            rw [upd_eq, if_pos (by omega), if_pos rfl]
          · rw [upd_ne _ _ h1']
            by_cases hr : 58 + 18 * t ≤ j ∧ j < 58 + 18 * t + 18
            · rw [if_pos hr, if_pos hr, if_neg h1', if_neg h5, if_neg hc]
            · rw [if_neg hr, if_neg hr]
  rw [e2] at l2
  simp (disch := omega) only [sX7_comes_0, sX7_comes_1, sX7_comes_4, sX7_comes_5, sX7_comes_6, sX7_comes_7, sX7_comes_8, h1, true_and, and_true, true_or, or_true, eq_self, ↓reduceIte, if_true, if_false, nI_add, nI_mul, inB_nI, nI_clamp, Nat.add_zero, eqI, ltI, leI, m6_ne, ne_m6, Nat.reduceEqDiff, reduceCtorEq, Nat.reduceLT, Nat.reduceLeDiff, Nat.reduceAdd, Nat.reduceMul, Nat.zero_add, Nat.mul_zero, nar_0, nar_1, nar_b, bI_t, bI_f, bI_0, bI_1, Bool.true_eq_false, Bool.false_eq_true, Bool.and_self, Bool.and_false, Bool.false_and, Bool.true_and, Bool.and_true, and_self, rd, l1]
  simp (disch := omega) only [sX7_comes_28, sX7_comes_29, sX7_comes_30, sX7_comes_31, sX7_comes_32, sX7_comes_35, sX7_comes_38, sX7_comes_39, sX7_comes_40, sX7_comes_41, sX7_comes_42, sX7_comes_45, sX7_comes_48, sX7_comes_49, h1, true_and, and_true, true_or, or_true, eq_self, ↓reduceIte, if_true, if_false, nI_add, nI_mul, inB_nI, nI_clamp, Nat.add_zero, eqI, ltI, leI, m6_ne, ne_m6, Nat.reduceEqDiff, reduceCtorEq, Nat.reduceLT, Nat.reduceLeDiff, Nat.reduceAdd, Nat.reduceMul, Nat.zero_add, Nat.mul_zero, nar_0, nar_1, nar_b, bI_t, bI_f, bI_0, bI_1, Bool.true_eq_false, Bool.false_eq_true, Bool.and_self, Bool.and_false, Bool.false_and, Bool.true_and, Bool.and_true, and_self, q_ts, q_tw, st, l2]
end RD3
