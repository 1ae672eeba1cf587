/-! by all sets of things -/
/-- a fixer's row in the law's search: one left out, and behind the last one a skill alone -/
def efA (f : Nat → Int32) (nF nT : Nat) (o mr : Int32) (i t : Nat) : Bool := !decide (nI i = o) && (if i = nF then !decide (mr < nI 0) && (decide (t < nT) && (wwpF f t && (nsF f t 0 == mr))) else ableF f nT i t)
/-- what the row of bytes says: P are the sets that are reached -/
def BP (P : Nat → Prop) (u : Nat) (R : Nat → Int32) : Prop := ∀ s, s < 128 → (P s → atV R s = nI (bcS s - bcS u + 1)) ∧ (¬ P s → atV R s = nI 0)
def Rm (P : Nat → Prop) (r : Nat → Bool) (c t : Nat) : Nat → Prop := fun s => P s ∨ ∃ t' c', t' < 7 ∧ r t' = true ∧ c'.testBit t' = false ∧ s = c' ||| 2 ^ t' ∧ P c' ∧ (c < c' ∨ (c' = c ∧ t' < t))
def Rs (P : Nat → Prop) (r : Nat → Bool) (j : Nat) : Nat → Prop := fun s => P s ∨ ∃ t' c', t' < 7 ∧ r t' = true ∧ c'.testBit t' = false ∧ s = c' ||| 2 ^ t' ∧ P c' ∧ j ≤ c'
theorem BP.iff {P P' : Nat → Prop} {u : Nat} {R : Nat → Int32} (h : BP P u R) (e : ∀ s, s < 128 → (P' s ↔ P s)) : BP P' u R := fun s hs => ⟨fun q => (h s hs).1 ((e s hs).mp q), fun q => (h s hs).2 (fun q2 => q ((e s hs).mpr q2))⟩
theorem bcS_7 (s : Nat) : bcS s ≤ 7 := cntB_n _ 7
theorem bcS_sup {u s : Nat} (h : ∀ j, u.testBit j = true → s.testBit j = true) : bcS u ≤ bcS s := cntB_le 7 (fun j _ q => h j q)
theorem or_lt {c t : Nat} (hc : c < 128) (ht : t < 7) : c ||| 2 ^ t < 128 := Nat.or_lt_two_pow (n := 7) hc (Nat.pow_lt_pow_right (by decide) ht)
theorem or_gt {c t : Nat} (h : c.testBit t = false) : c < c ||| 2 ^ t := by
  have h1 : c ≤ c ||| 2 ^ t := Nat.left_le_or
  have h2 : c ≠ c ||| 2 ^ t := fun e => by
    have := tb_or (c := c) (t := t) (j := t)
    rw [← e, h, beq_self_eq_true] at this
    exact absurd this (by decide)
  omega
theorem or_ge {c t : Nat} : c ≤ c ||| 2 ^ t := Nat.left_le_or
section LMO
variable {D : vDD} {m : vMM} {f R : Nat → Int32} {z : vZZ} {Q : Value → vDD → vMM → vZZ → Prop} {nF nT a b u fr i : Nat} {o mr : Int32}
theorem l_Mo0 (hb : b < a ∨ a + 3 ≤ b) (hB : (D b).1 = 8 ∧ (D b).2.1 = 32) (hu : u < 128) {x0 x1 x2 x3 x4 x5 v9 v10 v11 v12 : Value} {N : Nat} (hN : N = 128) : ∀ k j (R : Nat → Int32), j + k = N → (∀ s, s < j → atV R s = if s = u then nI 1 else nI 0) →
    ∃ R', BP (fun s => s = u) u R' ∧ ∀ Q, Runs ML_most 3 [x0, x1, x2, x3, x4, x5, .int (nI u), .ref b, .int (nI j), v9, v10, v11, v12] [] D (lM (setR m b R) a f) z Q = Runs ML_most 36 [x0, x1, x2, x3, x4, x5, .int (nI u), .ref b, .int (nI N), v9, v10, v11, v12] [] D (lM (setR m b R') a f) z Q := by
  intro k
  induction k with
  | zero =>
    intro j R hj h
    obtain rfl : j = N := by omega
    have hge : 128 ≤ j := by omega
    refine ⟨R, fun s hs => ⟨fun q => ?_, fun q => ?_⟩, fun Q => ?_⟩
    · rw [h s (by omega), if_pos q, q, Nat.sub_self]
    · rw [h s (by omega), if_neg q]
    · rw [sL_most_3]
      simp (disch := omega) only [sL_most_5, sL_most_8, sL_most_11, sL_most_13, sL_most_15, sL_most_17, sL_most_19, sL_most_22, sL_most_23, sL_most_26, sL_most_27, sL_most_30, sL_most_33, true_and, and_true, true_or, or_true, eq_self, ↓reduceIte, if_true, if_false, nI_add, nI_mul, inB_nI, nI_clamp, Nat.add_zero, eqI, ltI, leI, m6_ne, ne_m6, Nat.reduceEqDiff, reduceCtorEq, Nat.reduceLT, Nat.reduceLeDiff, Nat.reduceAdd, Nat.reduceMul, Nat.zero_add, Nat.mul_zero, nar_0, nar_1, nar_b, bI_t, bI_f, bI_0, bI_1, Bool.true_eq_false, Bool.false_eq_true, Bool.and_self, Bool.and_false, Bool.false_and, Bool.true_and, Bool.and_true, and_self, hge]
  | succ k ih =>
    intro j R hj h
    have hlt : ¬ 128 ≤ j := by omega
    by_cases hju : j = u
    · have hv : nI 0 + nI 1 = nI 1 := nI_add 0 1
      have yp := fun Q => y_put (D := D) (m := m) (f := f) (R := R) (z := z) (Q := Q) hb hB (s := j) (by omega) hv
      obtain ⟨R', r1, r2⟩ := ih (j + 1) (ptR R j 1) (by omega) (fun s hs => by
        rw [at_put (by decide)]
        by_cases e : s = j
        · rw [if_pos e, if_pos (e.trans hju)]
        · rw [if_neg e]; exact h s (by omega))
      refine ⟨R', r1, fun Q => ?_⟩
      subst hju
      rw [sL_most_3]
      simp (disch := omega) only [sL_most_5, sL_most_8, sL_most_11, sL_most_13, sL_most_15, sL_most_17, sL_most_19, sL_most_22, sL_most_23, sL_most_26, sL_most_27, sL_most_30, sL_most_33, true_and, and_true, true_or, or_true, eq_self, ↓reduceIte, if_true, if_false, nI_add, nI_mul, inB_nI, nI_clamp, Nat.add_zero, eqI, ltI, leI, m6_ne, ne_m6, Nat.reduceEqDiff, reduceCtorEq, Nat.reduceLT, Nat.reduceLeDiff, Nat.reduceAdd, Nat.reduceMul, Nat.zero_add, Nat.mul_zero, nar_0, nar_1, nar_b, bI_t, bI_f, bI_0, bI_1, Bool.true_eq_false, Bool.false_eq_true, Bool.and_self, Bool.and_false, Bool.false_and, Bool.true_and, Bool.and_true, and_self, hlt, yp, r2]
    · have hv : m1 + nI 1 = nI 0 := by decide +kernel
      have yp := fun Q => y_put (D := D) (m := m) (f := f) (R := R) (z := z) (Q := Q) hb hB (s := j) (by omega) hv
      obtain ⟨R', r1, r2⟩ := ih (j + 1) (ptR R j 0) (by omega) (fun s hs => by
        rw [at_put (by decide)]
        by_cases e : s = j
        · rw [if_pos e, if_neg (by rw [e]; exact hju)]
        · rw [if_neg e]; exact h s (by omega))
      refine ⟨R', r1, fun Q => ?_⟩
      rw [sL_most_3]
      simp (disch := omega) only [sL_most_5, sL_most_8, sL_most_11, sL_most_13, sL_most_15, sL_most_17, sL_most_19, sL_most_22, sL_most_23, sL_most_26, sL_most_27, sL_most_30, sL_most_33, true_and, and_true, true_or, or_true, eq_self, ↓reduceIte, if_true, if_false, nI_add, nI_mul, inB_nI, nI_clamp, Nat.add_zero, eqI, ltI, leI, m6_ne, ne_m6, Nat.reduceEqDiff, reduceCtorEq, Nat.reduceLT, Nat.reduceLeDiff, Nat.reduceAdd, Nat.reduceMul, Nat.zero_add, Nat.mul_zero, nar_0, nar_1, nar_b, bI_t, bI_f, bI_0, bI_1, Bool.true_eq_false, Bool.false_eq_true, Bool.and_self, Bool.and_false, Bool.false_and, Bool.true_and, Bool.and_true, and_self, hlt, hju, yp, r2]
/-- one set, its things in turn -/
theorem l_Mo1 (hb : b < a ∨ a + 3 ≤ b) (hB : (D b).1 = 8 ∧ (D b).2.1 = 32) (hD : IsL D a) (hW : WF f nF nT) (h5 : nF ≤ 5) (h7 : nT ≤ 7) (hP : Pk m (a + 2) f nT) (hi : i ≤ nF) (ho : ¬ nI i = o) (hmr : i = nF → ∃ s, s < 6 ∧ mr = nI s)
    {P : Nat → Prop} {c h : Nat} (hc : c < 128) (hPc : P c) (hsup : ∀ s, P s → ∀ j, u.testBit j = true → s.testBit j = true) (hh : h = bcS c - bcS u) {x0 x7 : Value} : ∀ k t (R : Nat → Int32) (v12 : Value), t + k = nT → BP (Rm P (efA f nF nT o mr i) c t) u R →
    ∃ R' w12, BP (Rm P (efA f nF nT o mr i) c nT) u R' ∧ ∀ Q, Runs ML_most 97 [x0, .int o, .int mr, .ref a, .ref (a + 1), .ref (a + 2), x7, .ref b, .int (nI i), .int (nI c), .int (nI h), .int (nI t), v12] [] D (lM (setR m b R) a f) z Q = Runs ML_most 213 [x0, .int o, .int mr, .ref a, .ref (a + 1), .ref (a + 2), x7, .ref b, .int (nI i), .int (nI c), .int (nI h), .int (nI nT), w12] [] D (lM (setR m b R') a f) z Q := by
  have hD0 := hD
  have g2 := hW.1.1
  have g3 := hW.1.2.2.1
  have h8 := bcS_7 c
  simp only [IsL] at hD
  intro k
  induction k with
  | zero =>
    intro t R v12 ht hR
    obtain rfl : t = nT := by omega
    refine ⟨R, v12, hR, fun Q => ?_⟩
    rw [sL_most_97]
    simp (disch := omega) only [sL_most_99, sL_most_100, sL_most_101, sL_most_102, hD, true_and, and_true, true_or, or_true, eq_self, ↓reduceIte, if_true, if_false, nI_add, nI_mul, inB_nI, nI_clamp, Nat.add_zero, eqI, ltI, leI, m6_ne, ne_m6, Nat.reduceEqDiff, reduceCtorEq, Nat.reduceLT, Nat.reduceLeDiff, Nat.reduceAdd, Nat.reduceMul, Nat.zero_add, Nat.mul_zero, nar_0, nar_1, nar_b, bI_t, bI_f, bI_0, bI_1, Bool.true_eq_false, Bool.false_eq_true, Bool.and_self, Bool.and_false, Bool.false_and, Bool.true_and, Bool.and_true, and_self, l_q, g3, Nat.le_refl]
  | succ k ih =>
    intro t R v12 ht hR
    have hlt : ¬ nT ≤ t := by omega
    -- what is computed
    have can : ∀ (R : Nat → Int32) Q, Runs ML_most 105 [x0, .int o, .int mr, .ref a, .ref (a + 1), .ref (a + 2), x7, .ref b, .int (nI i), .int (nI c), .int (nI h), .int (nI t), v12] [] D (lM (setR m b R) a f) z Q = Runs ML_most 155 [x0, .int o, .int mr, .ref a, .ref (a + 1), .ref (a + 2), x7, .ref b, .int (nI i), .int (nI c), .int (nI h), .int (nI t), v12] [.int (bI (efA f nF nT o mr i t))] D (lM (setR m b R) a f) z Q := by
      intro R Q
      have hP2 := hP.sr (b := b) (R := R) hb
      unfold efA
      rw [decide_eq_false ho, Bool.not_false, Bool.true_and]
      by_cases e : i = nF
      · obtain ⟨s, hs, hm⟩ := hmr e
        have yo := fun Q => y_open (z := z) (Q := Q) hD0 hW h7 hP2 (t := t) (by omega)
        have ys := fun Q => y_skill (z := z) (Q := Q) hD0 hW h7 hP2 (t := t) (by omega)
        have hn : ¬ mr < nI 0 := by rw [hm, ltI _ _ (by omega) (by decide)]; omega
        rw [if_pos e, decide_eq_false hn, decide_eq_true (by omega : t < nT), Bool.not_false, Bool.true_and, Bool.true_and]
        cases hw : wwpF f t
        · rw [hw] at yo
          simp (disch := omega) only [sL_most_105, sL_most_107, sL_most_108, sL_most_109, sL_most_110, sL_most_113, sL_most_115, sL_most_116, sL_most_118, sL_most_121, sL_most_124, sL_most_126, sL_most_128, sL_most_131, sL_most_132, sL_most_135, sL_most_136, sL_most_139, sL_most_140, sL_most_143, sL_most_145, sL_most_147, sL_most_148, sL_most_150, sL_most_152, hD, true_and, and_true, true_or, or_true, eq_self, ↓reduceIte, if_true, if_false, nI_add, nI_mul, inB_nI, nI_clamp, Nat.add_zero, eqI, ltI, leI, m6_ne, ne_m6, Nat.reduceEqDiff, reduceCtorEq, Nat.reduceLT, Nat.reduceLeDiff, Nat.reduceAdd, Nat.reduceMul, Nat.zero_add, Nat.mul_zero, nar_0, nar_1, nar_b, bI_t, bI_f, bI_0, bI_1, Bool.true_eq_false, Bool.false_eq_true, Bool.and_self, Bool.and_false, Bool.false_and, Bool.true_and, Bool.and_true, and_self, l_q, g2, e, yo]
        · rw [hw] at yo
          by_cases hq : nsF f t 0 = mr
          · have b0 : (nsF f t 0 == mr) = true := by rw [hq]; exact beq_self_eq_true _
            rw [b0]
            simp (disch := omega) only [sL_most_105, sL_most_107, sL_most_108, sL_most_109, sL_most_110, sL_most_113, sL_most_115, sL_most_116, sL_most_118, sL_most_121, sL_most_124, sL_most_126, sL_most_128, sL_most_131, sL_most_132, sL_most_135, sL_most_136, sL_most_139, sL_most_140, sL_most_143, sL_most_145, sL_most_147, sL_most_148, sL_most_150, sL_most_152, hD, true_and, and_true, true_or, or_true, eq_self, ↓reduceIte, if_true, if_false, nI_add, nI_mul, inB_nI, nI_clamp, Nat.add_zero, eqI, ltI, leI, m6_ne, ne_m6, Nat.reduceEqDiff, reduceCtorEq, Nat.reduceLT, Nat.reduceLeDiff, Nat.reduceAdd, Nat.reduceMul, Nat.zero_add, Nat.mul_zero, nar_0, nar_1, nar_b, bI_t, bI_f, bI_0, bI_1, Bool.true_eq_false, Bool.false_eq_true, Bool.and_self, Bool.and_false, Bool.false_and, Bool.true_and, Bool.and_true, and_self, l_q, g2, e, yo, ys, hq, Nat.one_ne_zero]
          · have b0 : (nsF f t 0 == mr) = false := beq_eq_false_iff_ne.mpr hq
            rw [b0]
            simp (disch := omega) only [sL_most_105, sL_most_107, sL_most_108, sL_most_109, sL_most_110, sL_most_113, sL_most_115, sL_most_116, sL_most_118, sL_most_121, sL_most_124, sL_most_126, sL_most_128, sL_most_131, sL_most_132, sL_most_135, sL_most_136, sL_most_139, sL_most_140, sL_most_143, sL_most_145, sL_most_147, sL_most_148, sL_most_150, sL_most_152, hD, true_and, and_true, true_or, or_true, eq_self, ↓reduceIte, if_true, if_false, nI_add, nI_mul, inB_nI, nI_clamp, Nat.add_zero, eqI, ltI, leI, m6_ne, ne_m6, Nat.reduceEqDiff, reduceCtorEq, Nat.reduceLT, Nat.reduceLeDiff, Nat.reduceAdd, Nat.reduceMul, Nat.zero_add, Nat.mul_zero, nar_0, nar_1, nar_b, bI_t, bI_f, bI_0, bI_1, Bool.true_eq_false, Bool.false_eq_true, Bool.and_self, Bool.and_false, Bool.false_and, Bool.true_and, Bool.and_true, and_self, l_q, g2, e, yo, ys, hq, Nat.one_ne_zero]
      · have ya := fun Q => y_able (z := z) (Q := Q) hD0 hW h5 h7 hP2 (i := i) (by omega) (t := t) (by omega)
        rw [if_neg e]
        unfold ableF
        rw [decide_eq_true (by omega : t < nT), Bool.true_and]
        simp (disch := omega) only [sL_most_105, sL_most_107, sL_most_108, sL_most_109, sL_most_110, sL_most_113, sL_most_115, sL_most_116, sL_most_118, sL_most_121, sL_most_124, sL_most_126, sL_most_128, sL_most_131, sL_most_132, sL_most_135, sL_most_136, sL_most_139, sL_most_140, sL_most_143, sL_most_145, sL_most_147, sL_most_148, sL_most_150, sL_most_152, hD, true_and, and_true, true_or, or_true, eq_self, ↓reduceIte, if_true, if_false, nI_add, nI_mul, inB_nI, nI_clamp, Nat.add_zero, eqI, ltI, leI, m6_ne, ne_m6, Nat.reduceEqDiff, reduceCtorEq, Nat.reduceLT, Nat.reduceLeDiff, Nat.reduceAdd, Nat.reduceMul, Nat.zero_add, Nat.mul_zero, nar_0, nar_1, nar_b, bI_t, bI_f, bI_0, bI_1, Bool.true_eq_false, Bool.false_eq_true, Bool.and_self, Bool.and_false, Bool.false_and, Bool.true_and, Bool.and_true, and_self, l_q, g2, e, ya]
    -- nothing is written
    have skip : (efA f nF nT o mr i t && !c.testBit t) = false → ∀ s, Rm P (efA f nF nT o mr i) c (t + 1) s ↔ Rm P (efA f nF nT o mr i) c t s := by
      intro hq s
      constructor
      · rintro (q | ⟨t', c', q1, q2, q3, q4, q5, q6⟩)
        · exact Or.inl q
        · refine Or.inr ⟨t', c', q1, q2, q3, q4, q5, ?_⟩
          rcases q6 with q6 | ⟨q6, q7⟩
          · exact Or.inl q6
          · by_cases e : t' = t
            · subst e
              subst q6
              rw [q2, q3] at hq
              exact absurd hq (by decide)
            · exact Or.inr ⟨q6, by omega⟩
      · rintro (q | ⟨t', c', q1, q2, q3, q4, q5, q6⟩)
        · exact Or.inl q
        · refine Or.inr ⟨t', c', q1, q2, q3, q4, q5, ?_⟩
          rcases q6 with q6 | ⟨q6, q7⟩
          · exact Or.inl q6
          · exact Or.inr ⟨q6, by omega⟩
    have sb : (nI c >>> (nI t &&& 31)) &&& nI 1 = bI (c.testBit t) := by rw [sel_1, selB_nI (by omega)]
    have sc := can R
    cases hr : efA f nF nT o mr i t
    · obtain ⟨R', w12, r1, r2⟩ := ih (t + 1) R (.int (nI 0)) (by omega) (hR.iff (fun s _ => skip (by rw [hr]; rfl) s))
      rw [hr] at sc
      refine ⟨R', w12, r1, fun Q => ?_⟩
      rw [sL_most_97]
      simp (disch := omega) only [sL_most_99, sL_most_100, sL_most_101, sL_most_102, hD, true_and, and_true, true_or, or_true, eq_self, ↓reduceIte, if_true, if_false, nI_add, nI_mul, inB_nI, nI_clamp, Nat.add_zero, eqI, ltI, leI, m6_ne, ne_m6, Nat.reduceEqDiff, reduceCtorEq, Nat.reduceLT, Nat.reduceLeDiff, Nat.reduceAdd, Nat.reduceMul, Nat.zero_add, Nat.mul_zero, nar_0, nar_1, nar_b, bI_t, bI_f, bI_0, bI_1, Bool.true_eq_false, Bool.false_eq_true, Bool.and_self, Bool.and_false, Bool.false_and, Bool.true_and, Bool.and_true, and_self, l_q, g3, hlt, sc, sL_most_155, sL_most_157, sL_most_159, sL_most_162, sL_most_164, sL_most_166, sL_most_167, sL_most_168, sL_most_169, sL_most_172, sL_most_174, sL_most_176, sL_most_177, sL_most_179, sL_most_180, sL_most_181, sL_most_184, sL_most_186, sL_most_187, sL_most_188, sL_most_191, sL_most_193, sL_most_195, sL_most_196, sL_most_198, sL_most_199, sL_most_200, sL_most_202, sL_most_203, sL_most_204, sL_most_207, sL_most_210, r2]
    · rw [hr] at sc
      cases hbt : c.testBit t
      · -- the set with one thing more
        have hs2 := or_lt hc (by omega : t < 7)
        have b2 := bcS_or (by omega : t < 7) hbt
        have bu := bcS_sup (hsup c hPc)
        have eo : nI c ||| nI 1 <<< (nI t &&& 31) = nI (c ||| 2 ^ t) := by rw [nI_shl (by omega), nI_or]
        have yt := fun Q => y_at (D := D) (m := m) (f := f) (R := R) (z := z) (Q := Q) hb hB hs2
        have hnew : Rm P (efA f nF nT o mr i) c (t + 1) (c ||| 2 ^ t) := Or.inr ⟨t, c, by omega, hr, hbt, rfl, hPc, Or.inr ⟨rfl, by omega⟩⟩
        have hoth : ∀ s, s ≠ c ||| 2 ^ t → (Rm P (efA f nF nT o mr i) c (t + 1) s ↔ Rm P (efA f nF nT o mr i) c t s) := by
          intro s hne
          constructor
          · rintro (q | ⟨t', c', q1, q2, q3, q4, q5, q6⟩)
            · exact Or.inl q
            · refine Or.inr ⟨t', c', q1, q2, q3, q4, q5, ?_⟩
              rcases q6 with q6 | ⟨q6, q7⟩
              · exact Or.inl q6
              · by_cases e : t' = t
                · subst e
                  subst q6
                  exact absurd q4 hne
                · exact Or.inr ⟨q6, by omega⟩
          · rintro (q | ⟨t', c', q1, q2, q3, q4, q5, q6⟩)
            · exact Or.inl q
            · refine Or.inr ⟨t', c', q1, q2, q3, q4, q5, ?_⟩
              rcases q6 with q6 | ⟨q6, q7⟩
              · exact Or.inl q6
              · exact Or.inr ⟨q6, by omega⟩
        by_cases hold : Rm P (efA f nF nT o mr i) c t (c ||| 2 ^ t)
        · have ev := (hR _ hs2).1 hold
          have e1 : nI (bcS (c ||| 2 ^ t) - bcS u + 1) - nI 1 = nI (h + 1) := by
            rw [nI_sub _ _ (by omega)]
            congr 1
            omega
          have hR2 : BP (Rm P (efA f nF nT o mr i) c (t + 1)) u R := hR.iff (fun s _ => by
            by_cases e : s = c ||| 2 ^ t
            · subst e; exact ⟨fun _ => hold, fun _ => hnew⟩
            · exact hoth s e)
          obtain ⟨R', w12, r1, r2⟩ := ih (t + 1) R (.int (nI 1)) (by omega) hR2
          rw [ev, e1] at yt
          rw [hbt] at sb
          refine ⟨R', w12, r1, fun Q => ?_⟩
          rw [sL_most_97]
          simp (disch := omega) only [sL_most_99, sL_most_100, sL_most_101, sL_most_102, hD, true_and, and_true, true_or, or_true, eq_self, ↓reduceIte, if_true, if_false, nI_add, nI_mul, inB_nI, nI_clamp, Nat.add_zero, eqI, ltI, leI, m6_ne, ne_m6, Nat.reduceEqDiff, reduceCtorEq, Nat.reduceLT, Nat.reduceLeDiff, Nat.reduceAdd, Nat.reduceMul, Nat.zero_add, Nat.mul_zero, nar_0, nar_1, nar_b, bI_t, bI_f, bI_0, bI_1, Bool.true_eq_false, Bool.false_eq_true, Bool.and_self, Bool.and_false, Bool.false_and, Bool.true_and, Bool.and_true, and_self, l_q, g3, hlt, sc, sL_most_155, sL_most_157, sL_most_159, sL_most_162, sL_most_164, sL_most_166, sL_most_167, sL_most_168, sL_most_169, sL_most_172, sL_most_174, sL_most_176, sL_most_177, sL_most_179, sL_most_180, sL_most_181, sL_most_184, sL_most_186, sL_most_187, sL_most_188, sL_most_191, sL_most_193, sL_most_195, sL_most_196, sL_most_198, sL_most_199, sL_most_200, sL_most_202, sL_most_203, sL_most_204, sL_most_207, sL_most_210, sb, eo, yt, Nat.le_refl, r2, Nat.one_ne_zero]
        · have ev := (hR _ hs2).2 hold
          have hv : nI (h + 1) + nI 1 = nI (h + 2) := nI_add _ _
          have yp := fun Q => y_put (D := D) (m := m) (f := f) (R := R) (z := z) (Q := Q) hb hB hs2 hv
          have hR2 : BP (Rm P (efA f nF nT o mr i) c (t + 1)) u (ptR R (c ||| 2 ^ t) (h + 2)) := by
            intro s hs
            rw [at_put (by omega)]
            by_cases e : s = c ||| 2 ^ t
            · subst e
              rw [if_pos rfl]
              refine ⟨fun _ => ?_, fun q => absurd hnew q⟩
              congr 1
              omega
            · rw [if_neg e]
              exact ⟨fun q => (hR s hs).1 ((hoth s e).mp q), fun q => (hR s hs).2 (fun q2 => q ((hoth s e).mpr q2))⟩
          obtain ⟨R', w12, r1, r2⟩ := ih (t + 1) _ (.int (nI 1)) (by omega) hR2
          have hlt2 : ¬ nI (h + 1) ≤ m1 := fun q => by
            have := Int32.le_trans (nI_pos' (by omega : h + 1 < 2 ^ 31)) q
            exact absurd this (by decide +kernel)
          rw [ev, i0m1] at yt
          rw [hbt] at sb
          refine ⟨R', w12, r1, fun Q => ?_⟩
          rw [sL_most_97]
          simp (disch := omega) only [sL_most_99, sL_most_100, sL_most_101, sL_most_102, hD, true_and, and_true, true_or, or_true, eq_self, ↓reduceIte, if_true, if_false, nI_add, nI_mul, inB_nI, nI_clamp, Nat.add_zero, eqI, ltI, leI, m6_ne, ne_m6, Nat.reduceEqDiff, reduceCtorEq, Nat.reduceLT, Nat.reduceLeDiff, Nat.reduceAdd, Nat.reduceMul, Nat.zero_add, Nat.mul_zero, nar_0, nar_1, nar_b, bI_t, bI_f, bI_0, bI_1, Bool.true_eq_false, Bool.false_eq_true, Bool.and_self, Bool.and_false, Bool.false_and, Bool.true_and, Bool.and_true, and_self, l_q, g3, hlt, sc, sL_most_155, sL_most_157, sL_most_159, sL_most_162, sL_most_164, sL_most_166, sL_most_167, sL_most_168, sL_most_169, sL_most_172, sL_most_174, sL_most_176, sL_most_177, sL_most_179, sL_most_180, sL_most_181, sL_most_184, sL_most_186, sL_most_187, sL_most_188, sL_most_191, sL_most_193, sL_most_195, sL_most_196, sL_most_198, sL_most_199, sL_most_200, sL_most_202, sL_most_203, sL_most_204, sL_most_207, sL_most_210, sb, eo, yt, hlt2, yp, r2, Nat.one_ne_zero]
      · obtain ⟨R', w12, r1, r2⟩ := ih (t + 1) R (.int (nI 1)) (by omega) (hR.iff (fun s _ => skip (by rw [hr, hbt]; rfl) s))
        rw [hbt] at sb
        refine ⟨R', w12, r1, fun Q => ?_⟩
        rw [sL_most_97]
        simp (disch := omega) only [sL_most_99, sL_most_100, sL_most_101, sL_most_102, hD, true_and, and_true, true_or, or_true, eq_self, ↓reduceIte, if_true, if_false, nI_add, nI_mul, inB_nI, nI_clamp, Nat.add_zero, eqI, ltI, leI, m6_ne, ne_m6, Nat.reduceEqDiff, reduceCtorEq, Nat.reduceLT, Nat.reduceLeDiff, Nat.reduceAdd, Nat.reduceMul, Nat.zero_add, Nat.mul_zero, nar_0, nar_1, nar_b, bI_t, bI_f, bI_0, bI_1, Bool.true_eq_false, Bool.false_eq_true, Bool.and_self, Bool.and_false, Bool.false_and, Bool.true_and, Bool.and_true, and_self, l_q, g3, hlt, sc, sL_most_155, sL_most_157, sL_most_159, sL_most_162, sL_most_164, sL_most_166, sL_most_167, sL_most_168, sL_most_169, sL_most_172, sL_most_174, sL_most_176, sL_most_177, sL_most_179, sL_most_180, sL_most_181, sL_most_184, sL_most_186, sL_most_187, sL_most_188, sL_most_191, sL_most_193, sL_most_195, sL_most_196, sL_most_198, sL_most_199, sL_most_200, sL_most_202, sL_most_203, sL_most_204, sL_most_207, sL_most_210, sb, r2, Nat.one_ne_zero]
theorem efA_7 (h7 : nT ≤ 7) {t : Nat} (h : efA f nF nT o mr i t = true) : t < nT := by
  unfold efA at h
  simp only [Bool.and_eq_true] at h
  obtain ⟨-, h⟩ := h
  split at h
  · simp only [Bool.and_eq_true, decide_eq_true_eq] at h
    exact h.2.1
  · unfold ableF at h
    simp only [Bool.and_eq_true, decide_eq_true_eq] at h
    exact h.1
/-- all sets, from above -/
theorem l_Mo2 (hb : b < a ∨ a + 3 ≤ b) (hB : (D b).1 = 8 ∧ (D b).2.1 = 32) (hD : IsL D a) (hW : WF f nF nT) (h5 : nF ≤ 5) (h7 : nT ≤ 7) (hP : Pk m (a + 2) f nT) (hi : i ≤ nF) (ho : ¬ nI i = o) (hmr : i = nF → ∃ s, s < 6 ∧ mr = nI s)
    {P : Nat → Prop} (hsup : ∀ s, P s → ∀ j, u.testBit j = true → s.testBit j = true) {x0 x7 : Value} : ∀ j (R : Nat → Int32) (v10 v11 v12 : Value), j ≤ 128 → BP (Rs P (efA f nF nT o mr i) j) u R →
    ∃ R' w9 w10 w11 w12, BP (Rs P (efA f nF nT o mr i) 0) u R' ∧ ∀ Q, Runs ML_most 72 [x0, .int o, .int mr, .ref a, .ref (a + 1), .ref (a + 2), x7, .ref b, .int (nI i), .int (nI j - nI 1), v10, v11, v12] [] D (lM (setR m b R) a f) z Q = Runs ML_most 219 [x0, .int o, .int mr, .ref a, .ref (a + 1), .ref (a + 2), x7, .ref b, .int (nI i), w9, w10, w11, w12] [] D (lM (setR m b R') a f) z Q := by
  intro j
  induction j with
  | zero =>
    intro R v10 v11 v12 hj hR
    refine ⟨R, .int m1, v10, v11, v12, hR, fun Q => ?_⟩
    rw [i0m1, sL_most_72]
    simp (disch := omega) only [sL_most_74, true_and, and_true, true_or, or_true, eq_self, ↓reduceIte, if_true, if_false, nI_add, nI_mul, inB_nI, nI_clamp, Nat.add_zero, eqI, ltI, leI, m6_ne, ne_m6, Nat.reduceEqDiff, reduceCtorEq, Nat.reduceLT, Nat.reduceLeDiff, Nat.reduceAdd, Nat.reduceMul, Nat.zero_add, Nat.mul_zero, nar_0, nar_1, nar_b, bI_t, bI_f, bI_0, bI_1, Bool.true_eq_false, Bool.false_eq_true, Bool.and_self, Bool.and_false, Bool.false_and, Bool.true_and, Bool.and_true, and_self, m1_lt]
  | succ j ih =>
    intro R v10 v11 v12 hj hR
    have ej : nI (j + 1) - nI 1 = nI j := nI_sub _ _ (by omega)
    have hn : ¬ j < 0 := Nat.not_lt_zero j
    have yt := fun Q => y_at (D := D) (m := m) (f := f) (R := R) (z := z) (Q := Q) hb hB (s := j) (by omega)
    have hjj : Rs P (efA f nF nT o mr i) (j + 1) j ↔ P j := by
      constructor
      · rintro (q | ⟨t', c', q1, q2, q3, q4, q5, q6⟩)
        · exact q
        · have := or_ge (c := c') (t := t')
          omega
      · exact Or.inl
    by_cases hPj : P j
    · have ev := (hR j (by omega)).1 (hjj.mpr hPj)
      have b7 := bcS_7 j
      have e1 : nI (bcS j - bcS u + 1) - nI 1 = nI (bcS j - bcS u) := nI_sub _ _ (by omega)
      have hR1 : BP (Rm P (efA f nF nT o mr i) j 0) u R := hR.iff (fun s _ => by
        constructor
        · rintro (q | ⟨t', c', q1, q2, q3, q4, q5, q6⟩)
          · exact Or.inl q
          · exact Or.inr ⟨t', c', q1, q2, q3, q4, q5, by omega⟩
        · rintro (q | ⟨t', c', q1, q2, q3, q4, q5, q6⟩)
          · exact Or.inl q
          · exact Or.inr ⟨t', c', q1, q2, q3, q4, q5, by omega⟩)
      obtain ⟨R1, w12, r1, r2⟩ := l_Mo1 (D := D) (m := m) (z := z) hb hB hD hW h5 h7 hP hi ho hmr (by omega : j < 128) hPj hsup rfl (x0 := x0) (x7 := x7) nT 0 R v12 (by omega) hR1
      have hR2 : BP (Rs P (efA f nF nT o mr i) j) u R1 := r1.iff (fun s _ => by
        constructor
        · rintro (q | ⟨t', c', q1, q2, q3, q4, q5, q6⟩)
          · exact Or.inl q
          · have := efA_7 h7 q2
            exact Or.inr ⟨t', c', q1, q2, q3, q4, q5, by omega⟩
        · rintro (q | ⟨t', c', q1, q2, q3, q4, q5, q6⟩)
          · exact Or.inl q
          · exact Or.inr ⟨t', c', q1, q2, q3, q4, q5, by omega⟩)
      obtain ⟨R', w9, w10, w11, w12', s1, s2⟩ := ih R1 (.int (nI (bcS j - bcS u))) (.int (nI nT)) w12 (by omega) hR2
      refine ⟨R', w9, w10, w11, w12', s1, fun Q => ?_⟩
      rw [ev, e1] at yt
      rw [ej, sL_most_72]
      simp (disch := omega) only [sL_most_74, sL_most_77, sL_most_79, sL_most_81, sL_most_84, sL_most_86, sL_most_88, sL_most_91, sL_most_94, sL_most_95, true_and, and_true, true_or, or_true, eq_self, ↓reduceIte, if_true, if_false, nI_add, nI_mul, inB_nI, nI_clamp, Nat.add_zero, eqI, ltI, leI, m6_ne, ne_m6, Nat.reduceEqDiff, reduceCtorEq, Nat.reduceLT, Nat.reduceLeDiff, Nat.reduceAdd, Nat.reduceMul, Nat.zero_add, Nat.mul_zero, nar_0, nar_1, nar_b, bI_t, bI_f, bI_0, bI_1, Bool.true_eq_false, Bool.false_eq_true, Bool.and_self, Bool.and_false, Bool.false_and, Bool.true_and, Bool.and_true, and_self, hn, yt, Nat.zero_le, r2, sL_most_213, sL_most_216, add_m1, s2]
    · have ev := (hR j (by omega)).2 (fun q => hPj (hjj.mp q))
      have hR2 : BP (Rs P (efA f nF nT o mr i) j) u R := hR.iff (fun s _ => by
        constructor
        · rintro (q | ⟨t', c', q1, q2, q3, q4, q5, q6⟩)
          · exact Or.inl q
          · refine Or.inr ⟨t', c', q1, q2, q3, q4, q5, ?_⟩
            have : c' ≠ j := fun e => by subst e; exact hPj q5
            omega
        · rintro (q | ⟨t', c', q1, q2, q3, q4, q5, q6⟩)
          · exact Or.inl q
          · exact Or.inr ⟨t', c', q1, q2, q3, q4, q5, by omega⟩)
      obtain ⟨R', w9, w10, w11, w12', s1, s2⟩ := ih R (.int m1) v11 v12 (by omega) hR2
      refine ⟨R', w9, w10, w11, w12', s1, fun Q => ?_⟩
      rw [ev, i0m1] at yt
      rw [ej, sL_most_72]
      simp (disch := omega) only [sL_most_74, sL_most_77, sL_most_79, sL_most_81, sL_most_84, sL_most_86, sL_most_88, sL_most_91, sL_most_94, sL_most_95, true_and, and_true, true_or, or_true, eq_self, ↓reduceIte, if_true, if_false, nI_add, nI_mul, inB_nI, nI_clamp, Nat.add_zero, eqI, ltI, leI, m6_ne, ne_m6, Nat.reduceEqDiff, reduceCtorEq, Nat.reduceLT, Nat.reduceLeDiff, Nat.reduceAdd, Nat.reduceMul, Nat.zero_add, Nat.mul_zero, nar_0, nar_1, nar_b, bI_t, bI_f, bI_0, bI_1, Bool.true_eq_false, Bool.false_eq_true, Bool.and_self, Bool.and_false, Bool.false_and, Bool.true_and, Bool.and_true, and_self, hn, yt, m1_ge0, sL_most_213, sL_most_216, add_m1, s2]
/-- all fixers from the first one on -/
theorem l_Mo3 (hb : b < a ∨ a + 3 ≤ b) (hB : (D b).1 = 8 ∧ (D b).2.1 = 32) (hD : IsL D a) (hW : WF f nF nT) (h5 : nF ≤ 5) (h7 : nT ≤ 7) (hP : Pk m (a + 2) f nT) (hu : u < 128) (hmr : mr = m1 ∨ ∃ s, s < 6 ∧ mr = nI s)
    {x0 x7 : Value} : ∀ d k (R : Nat → Int32) (v9 v10 v11 v12 : Value), fr + k + d = nF + 1 → BP (Rc (fun k t => efA f nF nT o mr (fr + k) t) u k) u R →
    ∃ R' w9 w10 w11 w12, BP (Rc (fun k t => efA f nF nT o mr (fr + k) t) u (k + d)) u R' ∧ ∀ Q, Runs ML_most 39 [x0, .int o, .int mr, .ref a, .ref (a + 1), .ref (a + 2), x7, .ref b, .int (nI (fr + k)), v9, v10, v11, v12] [] D (lM (setR m b R) a f) z Q = Runs ML_most 225 [x0, .int o, .int mr, .ref a, .ref (a + 1), .ref (a + 2), x7, .ref b, .int (nI (nF + 1)), w9, w10, w11, w12] [] D (lM (setR m b R') a f) z Q := by
  have hD0 := hD
  have g2 := hW.1.1
  simp only [IsL] at hD
  intro d
  induction d with
  | zero =>
    intro k R v9 v10 v11 v12 hk hR
    have e : fr + k = nF + 1 := by omega
    have hlt : nF < nF + 1 := Nat.lt_succ_self _
    refine ⟨R, v9, v10, v11, v12, hR, fun Q => ?_⟩
    rw [sL_most_39, e]
    simp (disch := omega) only [sL_most_41, sL_most_42, sL_most_43, sL_most_44, hD, true_and, and_true, true_or, or_true, eq_self, ↓reduceIte, if_true, if_false, nI_add, nI_mul, inB_nI, nI_clamp, Nat.add_zero, eqI, ltI, leI, m6_ne, ne_m6, Nat.reduceEqDiff, reduceCtorEq, Nat.reduceLT, Nat.reduceLeDiff, Nat.reduceAdd, Nat.reduceMul, Nat.zero_add, Nat.mul_zero, nar_0, nar_1, nar_b, bI_t, bI_f, bI_0, bI_1, Bool.true_eq_false, Bool.false_eq_true, Bool.and_self, Bool.and_false, Bool.false_and, Bool.true_and, Bool.and_true, and_self, l_q, g2, hlt]
  | succ d ih =>
    intro k R v9 v10 v11 v12 hk hR
    have hlt : ¬ nF < fr + k := by omega
    have ek : k + (d + 1) = k + 1 + d := by omega
    have ef : fr + (k + 1) = fr + k + 1 := by omega
    have skip : (∀ t, efA f nF nT o mr (fr + k) t = false) → BP (Rc (fun k t => efA f nF nT o mr (fr + k) t) u (k + 1)) u R := fun q => hR.iff (fun s _ => by
      constructor
      · rintro (q2 | ⟨t, c, q1, q2, -⟩)
        · exact q2
        · simp only [q t] at q2
          exact absurd q2 (by decide)
      · exact Or.inl)
    rw [ek]
    by_cases ho : nI (fr + k) = o
    · obtain ⟨R', w9, w10, w11, w12, r1, r2⟩ := ih (k + 1) R v9 v10 v11 v12 (by omega) (skip (fun t => by
        unfold efA
        rw [decide_eq_true ho]
        rfl))
      rw [ef] at r2
      refine ⟨R', w9, w10, w11, w12, r1, fun Q => ?_⟩
      subst ho
      rw [sL_most_39]
      simp (disch := omega) only [sL_most_41, sL_most_42, sL_most_43, sL_most_44, sL_most_47, sL_most_49, sL_most_50, sL_most_53, sL_most_55, sL_most_56, sL_most_57, sL_most_58, sL_most_61, sL_most_62, sL_most_65, sL_most_68, hD, true_and, and_true, true_or, or_true, eq_self, ↓reduceIte, if_true, if_false, nI_add, nI_mul, inB_nI, nI_clamp, Nat.add_zero, eqI, ltI, leI, m6_ne, ne_m6, Nat.reduceEqDiff, reduceCtorEq, Nat.reduceLT, Nat.reduceLeDiff, Nat.reduceAdd, Nat.reduceMul, Nat.zero_add, Nat.mul_zero, nar_0, nar_1, nar_b, bI_t, bI_f, bI_0, bI_1, Bool.true_eq_false, Bool.false_eq_true, Bool.and_self, Bool.and_false, Bool.false_and, Bool.true_and, Bool.and_true, and_self, l_q, g2, hlt, sL_most_219, sL_most_222, r2]
    · by_cases hs : fr + k = nF ∧ mr = m1
      · obtain ⟨R', w9, w10, w11, w12, r1, r2⟩ := ih (k + 1) R v9 v10 v11 v12 (by omega) (skip (fun t => by
          unfold efA
          rw [if_pos hs.1, decide_eq_true (p := mr < nI 0) (by rw [hs.2]; exact m1_lt)]
          simp))
        rw [ef] at r2
        refine ⟨R', w9, w10, w11, w12, r1, fun Q => ?_⟩
        rw [hs.1] at ho r2 ⊢
        rw [hs.2] at r2 ⊢
        rw [sL_most_39]
        simp (disch := omega) only [sL_most_41, sL_most_42, sL_most_43, sL_most_44, sL_most_47, sL_most_49, sL_most_50, sL_most_53, sL_most_55, sL_most_56, sL_most_57, sL_most_58, sL_most_61, sL_most_62, sL_most_65, sL_most_68, hD, true_and, and_true, true_or, or_true, eq_self, ↓reduceIte, if_true, if_false, nI_add, nI_mul, inB_nI, nI_clamp, Nat.add_zero, eqI, ltI, leI, m6_ne, ne_m6, Nat.reduceEqDiff, reduceCtorEq, Nat.reduceLT, Nat.reduceLeDiff, Nat.reduceAdd, Nat.reduceMul, Nat.zero_add, Nat.mul_zero, nar_0, nar_1, nar_b, bI_t, bI_f, bI_0, bI_1, Bool.true_eq_false, Bool.false_eq_true, Bool.and_self, Bool.and_false, Bool.false_and, Bool.true_and, Bool.and_true, and_self, l_q, g2, Nat.lt_irrefl, ho, m1_ge0, sL_most_219, sL_most_222, r2]
      · have hsup : ∀ s, Rc (fun k t => efA f nF nT o mr (fr + k) t) u k s → ∀ j, u.testBit j = true → s.testBit j = true := fun s h => Rc_sup k s h
        have h127 : nI 127 = nI 128 - nI 1 := rfl
        obtain ⟨R1, a9, a10, a11, a12, r1, r2⟩ := l_Mo2 (D := D) (m := m) (z := z) hb hB hD0 hW h5 h7 hP (i := fr + k) (by omega) ho (fun e => by
          rcases hmr with q | q
          · exact absurd ⟨e, q⟩ hs
          · exact q) hsup (x0 := x0) (x7 := x7) 128 R v10 v11 v12 (Nat.le_refl _) (hR.iff (fun s hs => by
            constructor
            · rintro (q | ⟨t', c', q1, q2, q3, q4, q5, q6⟩)
              · exact q
              · have := Rc_lt hu k c' q5
                omega
            · exact Or.inl))
        obtain ⟨R', w9, w10, w11, w12, s1, s2⟩ := ih (k + 1) R1 a9 a10 a11 a12 (by omega) (r1.iff (fun s _ => by
          constructor
          · rintro (q | ⟨t', c', q1, q2, q3, q4, q5⟩)
            · exact Or.inl q
            · exact Or.inr ⟨t', c', q1, q2, q3, q4, q5, Nat.zero_le _⟩
          · rintro (q | ⟨t', c', q1, q2, q3, q4, q5, q6⟩)
            · exact Or.inl q
            · exact Or.inr ⟨t', c', q1, q2, q3, q4, q5⟩))
        rw [ef] at s2
        rw [← h127] at r2
        refine ⟨R', w9, w10, w11, w12, s1, fun Q => ?_⟩
        rw [sL_most_39]
        by_cases e : fr + k = nF
        · rcases hmr with q | ⟨s, hs6, q⟩
          · exact absurd ⟨e, q⟩ hs
          · have h0 : ¬ mr < nI 0 := by rw [q, ltI _ _ (by omega) (by decide)]; omega
            have h1 : nI 0 ≤ mr := by rw [q, leI _ _ (by decide) (by omega)]; omega
            simp (disch := omega) only [sL_most_41, sL_most_42, sL_most_43, sL_most_44, sL_most_47, sL_most_49, sL_most_50, sL_most_53, sL_most_55, sL_most_56, sL_most_57, sL_most_58, sL_most_61, sL_most_62, sL_most_65, sL_most_68, sL_most_70, hD, true_and, and_true, true_or, or_true, eq_self, ↓reduceIte, if_true, if_false, nI_add, nI_mul, inB_nI, nI_clamp, Nat.add_zero, eqI, ltI, leI, m6_ne, ne_m6, Nat.reduceEqDiff, reduceCtorEq, Nat.reduceLT, Nat.reduceLeDiff, Nat.reduceAdd, Nat.reduceMul, Nat.zero_add, Nat.mul_zero, nar_0, nar_1, nar_b, bI_t, bI_f, bI_0, bI_1, Bool.true_eq_false, Bool.false_eq_true, Bool.and_self, Bool.and_false, Bool.false_and, Bool.true_and, Bool.and_true, and_self, l_q, g2, hlt, ho, e, h1, Nat.lt_irrefl] at r2 s2 ⊢
            rw [e] at ho
            simp (disch := omega) only [ho, if_false, r2, sL_most_219, sL_most_222, nI_add, s2]
        · simp (disch := omega) only [sL_most_41, sL_most_42, sL_most_43, sL_most_44, sL_most_47, sL_most_49, sL_most_50, sL_most_53, sL_most_55, sL_most_56, sL_most_57, sL_most_58, sL_most_61, sL_most_62, sL_most_65, sL_most_68, sL_most_70, hD, true_and, and_true, true_or, or_true, eq_self, ↓reduceIte, if_true, if_false, nI_add, nI_mul, inB_nI, nI_clamp, Nat.add_zero, eqI, ltI, leI, m6_ne, ne_m6, Nat.reduceEqDiff, reduceCtorEq, Nat.reduceLT, Nat.reduceLeDiff, Nat.reduceAdd, Nat.reduceMul, Nat.zero_add, Nat.mul_zero, nar_0, nar_1, nar_b, bI_t, bI_f, bI_0, bI_1, Bool.true_eq_false, Bool.false_eq_true, Bool.and_self, Bool.and_false, Bool.false_and, Bool.true_and, Bool.and_true, and_self, l_q, g2, hlt, ho, e, r2, sL_most_219, sL_most_222, s2]
/-- the largest -/
theorem l_Mo4 (hb : b < a ∨ a + 3 ≤ b) (hB : (D b).1 = 8 ∧ (D b).2.1 = 32) {P : Nat → Prop} (hR : BP P u R) (hsup : ∀ s, P s → ∀ j, u.testBit j = true → s.testBit j = true) {N : Nat} (hN : N = 128) {x0 x1 x2 x3 x4 x5 x6 v10 v11 v12 : Value} : ∀ k j mo, j + k = N → mo ≤ 7 → (∀ s, s < j → P s → bcS s ≤ bcS u + mo) → (mo = 0 ∨ ∃ s, s < j ∧ P s ∧ bcS s = bcS u + mo) →
    ∃ mo', (∀ s, s < N → P s → bcS s ≤ bcS u + mo') ∧ (mo' = 0 ∨ ∃ s, s < N ∧ P s ∧ bcS s = bcS u + mo') ∧ ∀ Q, Runs ML_most 231 [x0, x1, x2, x3, x4, x5, x6, .ref b, .int (nI mo), .int (nI j), v10, v11, v12] [] D (lM (setR m b R) a f) z Q = Q (.int (nI mo')) D (lM (setR m b R) a f) z := by
  intro k
  induction k with
  | zero =>
    intro j mo hj hm h1 h2
    obtain rfl : j = N := by omega
    have hge : 128 ≤ j := by omega
    refine ⟨mo, h1, h2, fun Q => ?_⟩
    rw [sL_most_231]
    simp (disch := omega) only [sL_most_233, sL_most_236, sL_most_239, sL_most_241, sL_most_243, sL_most_246, sL_most_248, sL_most_251, sL_most_253, sL_most_255, sL_most_258, sL_most_261, sL_most_263, sL_most_265, sL_most_268, sL_most_271, sL_most_273, true_and, and_true, true_or, or_true, eq_self, ↓reduceIte, if_true, if_false, nI_add, nI_mul, inB_nI, nI_clamp, Nat.add_zero, eqI, ltI, leI, m6_ne, ne_m6, Nat.reduceEqDiff, reduceCtorEq, Nat.reduceLT, Nat.reduceLeDiff, Nat.reduceAdd, Nat.reduceMul, Nat.zero_add, Nat.mul_zero, nar_0, nar_1, nar_b, bI_t, bI_f, bI_0, bI_1, Bool.true_eq_false, Bool.false_eq_true, Bool.and_self, Bool.and_false, Bool.false_and, Bool.true_and, Bool.and_true, and_self, hge]
  | succ k ih =>
    intro j mo hj hm h1 h2
    have hlt : ¬ 128 ≤ j := by omega
    have yt := fun Q => y_at (D := D) (m := m) (f := f) (R := R) (z := z) (Q := Q) hb hB (s := j) (by omega)
    have b7 := bcS_7 j
    by_cases hPj : P j
    · have ev := (hR j (by omega)).1 hPj
      have bu := bcS_sup (hsup j hPj)
      have e1 : nI (bcS j - bcS u + 1) - nI 1 = nI (bcS j - bcS u) := nI_sub _ _ (by omega)
      rw [ev, e1] at yt
      by_cases hl : bcS j - bcS u ≤ mo
      · obtain ⟨mo', r1, r2, r3⟩ := ih (j + 1) mo (by omega) hm (fun s hs hp => by
          by_cases e : s = j
          · subst e; omega
          · exact h1 s (by omega) hp) (by
          rcases h2 with q | ⟨s, q1, q2⟩
          · exact Or.inl q
          · exact Or.inr ⟨s, by omega, q2⟩)
        refine ⟨mo', r1, r2, fun Q => ?_⟩
        rw [sL_most_231]
        simp (disch := omega) only [sL_most_233, sL_most_236, sL_most_239, sL_most_241, sL_most_243, sL_most_246, sL_most_248, sL_most_251, sL_most_253, sL_most_255, sL_most_258, sL_most_261, sL_most_263, sL_most_265, sL_most_268, sL_most_271, sL_most_273, true_and, and_true, true_or, or_true, eq_self, ↓reduceIte, if_true, if_false, nI_add, nI_mul, inB_nI, nI_clamp, Nat.add_zero, eqI, ltI, leI, m6_ne, ne_m6, Nat.reduceEqDiff, reduceCtorEq, Nat.reduceLT, Nat.reduceLeDiff, Nat.reduceAdd, Nat.reduceMul, Nat.zero_add, Nat.mul_zero, nar_0, nar_1, nar_b, bI_t, bI_f, bI_0, bI_1, Bool.true_eq_false, Bool.false_eq_true, Bool.and_self, Bool.and_false, Bool.false_and, Bool.true_and, Bool.and_true, and_self, hlt, yt, hl, r3]
      · obtain ⟨mo', r1, r2, r3⟩ := ih (j + 1) (bcS j - bcS u) (by omega) (by omega) (fun s hs hp => by
          by_cases e : s = j
          · subst e; omega
          · have := h1 s (by omega) hp
            omega) (Or.inr ⟨j, by omega, hPj, by omega⟩)
        refine ⟨mo', r1, r2, fun Q => ?_⟩
        rw [sL_most_231]
        simp (disch := omega) only [sL_most_233, sL_most_236, sL_most_239, sL_most_241, sL_most_243, sL_most_246, sL_most_248, sL_most_251, sL_most_253, sL_most_255, sL_most_258, sL_most_261, sL_most_263, sL_most_265, sL_most_268, sL_most_271, sL_most_273, true_and, and_true, true_or, or_true, eq_self, ↓reduceIte, if_true, if_false, nI_add, nI_mul, inB_nI, nI_clamp, Nat.add_zero, eqI, ltI, leI, m6_ne, ne_m6, Nat.reduceEqDiff, reduceCtorEq, Nat.reduceLT, Nat.reduceLeDiff, Nat.reduceAdd, Nat.reduceMul, Nat.zero_add, Nat.mul_zero, nar_0, nar_1, nar_b, bI_t, bI_f, bI_0, bI_1, Bool.true_eq_false, Bool.false_eq_true, Bool.and_self, Bool.and_false, Bool.false_and, Bool.true_and, Bool.and_true, and_self, hlt, yt, hl, r3]
    · have ev := (hR j (by omega)).2 hPj
      rw [ev, i0m1] at yt
      have hl : m1 ≤ nI mo := Int32.le_of_lt (m1_lt_nI (by omega))
      obtain ⟨mo', r1, r2, r3⟩ := ih (j + 1) mo (by omega) hm (fun s hs hp => by
        by_cases e : s = j
        · subst e; exact absurd hp hPj
        · exact h1 s (by omega) hp) (by
        rcases h2 with q | ⟨s, q1, q2⟩
        · exact Or.inl q
        · exact Or.inr ⟨s, by omega, q2⟩)
      refine ⟨mo', r1, r2, fun Q => ?_⟩
      rw [sL_most_231]
      simp (disch := omega) only [sL_most_233, sL_most_236, sL_most_239, sL_most_241, sL_most_243, sL_most_246, sL_most_248, sL_most_251, sL_most_253, sL_most_255, sL_most_258, sL_most_261, sL_most_263, sL_most_265, sL_most_268, sL_most_271, sL_most_273, true_and, and_true, true_or, or_true, eq_self, ↓reduceIte, if_true, if_false, nI_add, nI_mul, inB_nI, nI_clamp, Nat.add_zero, eqI, ltI, leI, m6_ne, ne_m6, Nat.reduceEqDiff, reduceCtorEq, Nat.reduceLT, Nat.reduceLeDiff, Nat.reduceAdd, Nat.reduceMul, Nat.zero_add, Nat.mul_zero, nar_0, nar_1, nar_b, bI_t, bI_f, bI_0, bI_1, Bool.true_eq_false, Bool.false_eq_true, Bool.and_self, Bool.and_false, Bool.false_and, Bool.true_and, Bool.and_true, and_self, hlt, yt, hl, r3]
theorem y_most (hb : b < a ∨ a + 3 ≤ b) (hB : (D b).1 = 8 ∧ (D b).2.1 = 32) (hD : IsL D a) (hW : WF f nF nT) (h5 : nF ≤ 5) (h7 : nT ≤ 7) (hP : Pk m (a + 2) f nT) (hu : u < 128) (hfr : fr ≤ nF) (hmr : mr = m1 ∨ ∃ s, s < 6 ∧ mr = nI s) (R : Nat → Int32) :
    ∃ R', ∀ Q, Runs ML_most 0 [.int (nI fr), .int o, .int mr, .ref a, .ref (a + 1), .ref (a + 2), .int (nI u), .ref b, vJ, vJ, vJ, vJ, vJ] [] D (lM (setR m b R) a f) z Q = Q (.int (nI (mnR (rwU (fun k t => efA f nF nT o mr (fr + k) t) u) 16 (nF + 1 - fr) noB))) D (lM (setR m b R') a f) z := by
  obtain ⟨R1, r1, y1⟩ := l_Mo0 (D := D) (m := m) (f := f) (z := z) hb hB hu (x0 := .int (nI fr)) (x1 := .int o) (x2 := .int mr) (x3 := .ref a) (x4 := .ref (a + 1)) (x5 := .ref (a + 2)) (v9 := vJ) (v10 := vJ) (v11 := vJ) (v12 := vJ) (N := 128) rfl 128 0 R (by decide) (fun s hs => absurd hs (Nat.not_lt_zero s))
  obtain ⟨R2, w9, w10, w11, w12, r2, y2⟩ := l_Mo3 (D := D) (m := m) (z := z) (o := o) (fr := fr) hb hB hD hW h5 h7 hP hu hmr (x0 := .int (nI fr)) (x7 := .int (nI u)) (nF + 1 - fr) 0 R1 vJ vJ vJ vJ (by omega) r1
  rw [Nat.zero_add] at r2
  obtain ⟨mo, s1, s2, y3⟩ := l_Mo4 (D := D) (m := m) (f := f) (z := z) hb hB r2 (fun s h => Rc_sup _ s h) (N := 128) rfl (x0 := .int (nI fr)) (x1 := .int o) (x2 := .int mr) (x3 := .ref a) (x4 := .ref (a + 1)) (x5 := .ref (a + 2)) (x6 := .int (nI u)) (v10 := w10) (v11 := w11) (v12 := w12) 128 0 0 (by decide) (by decide) (fun s hs => absurd hs (Nat.not_lt_zero s)) (Or.inl rfl)
  have e := Rc_most hu (fun i t _ h => Nat.lt_of_lt_of_le (efA_7 h7 h) h7) s1 s2
  simp only [Nat.add_zero, Nat.zero_add] at y2
  refine ⟨R2, fun Q => ?_⟩
  rw [← e]
  simp (disch := omega) only [sL_most_0, sL_most_1, y1, sL_most_36, sL_most_37, y2, sL_most_225, sL_most_226, sL_most_228, sL_most_229, y3]
end LMO
