/-! the class reads its mornings -/
theorem inR_lt {k n : Nat} (hk : k < 2 ^ 31) (hn : n < 2 ^ 31) : inR (nI k) n = decide (k < n) := by
  unfold inR
  have h0 : (nI 0 ≤ nI k) = True := by rw [leI _ _ (by decide) hk]; simp
  simp only [h0, ltI k n hk hn, decide_true, Bool.true_and]
theorem inR_neg {x : Int32} {n : Nat} (h : x < nI 0) : inR x n = false := by
  unfold inR
  have h0 : ¬ nI 0 ≤ x := fun q => Int32.lt_irrefl (Int32.lt_of_lt_of_le h q)
  simp only [h0, decide_false, Bool.false_and]
theorem m6_neg : m6 < nI 0 := by decide +kernel
section CLS
variable {D : vDD} {m : vMM} {f c : Nat → Int32} {z : vZZ} {Q : Value → vDD → vMM → vZZ → Prop} {nF nT b : Nat}
theorem x_hasStep {a s : Nat} {x : Int32} (h5 : (D a).1 = 5) (hs : m a 3 = nI s) (h4 : s ≤ 4) : Runs MX5_hasStep 0 [.ref a, .int x] [] D m z Q = Q (.int (bI (inR x s))) D m z := by
  rcases i32_cases x with ⟨k, hk, rfl⟩ | hx
  · have hn : ¬ k < 0 := Nat.not_lt_zero k
    rw [inR_lt hk (by omega)]
    by_cases h : k < s
    · have g1 : ¬ s ≤ k := by omega
      have g2 : ¬ 4 ≤ k := by omega
      rw [decide_eq_true h]
      simp (disch := omega) only [sX5_hasStep_0, sX5_hasStep_1, sX5_hasStep_4, sX5_hasStep_5, sX5_hasStep_6, sX5_hasStep_9, sX5_hasStep_12, sX5_hasStep_13, sX5_hasStep_14, sX5_hasStep_17, sX5_hasStep_18, sX5_hasStep_21, sX5_hasStep_22, h5, hs, true_and, and_true, true_or, or_true, eq_self, ↓reduceIte, if_true, if_false, nI_add, nI_mul, inB_nI, nI_clamp, Nat.add_zero, eqI, ltI, leI, m6_ne, ne_m6, Nat.reduceEqDiff, reduceCtorEq, Nat.reduceLT, Nat.reduceLeDiff, Nat.reduceAdd, Nat.reduceMul, Nat.zero_add, Nat.mul_zero, nar_0, nar_1, nar_b, bI_t, bI_f, bI_0, bI_1, Bool.true_eq_false, Bool.false_eq_true, Bool.and_self, Bool.and_false, Bool.false_and, Bool.true_and, Bool.and_true, and_self, hn, g1, g2]
    · have g1 : s ≤ k := by omega
      rw [decide_eq_false h]
      simp (disch := omega) only [sX5_hasStep_0, sX5_hasStep_1, sX5_hasStep_4, sX5_hasStep_5, sX5_hasStep_6, sX5_hasStep_9, sX5_hasStep_12, sX5_hasStep_13, sX5_hasStep_14, sX5_hasStep_17, sX5_hasStep_18, sX5_hasStep_21, sX5_hasStep_22, h5, hs, true_and, and_true, true_or, or_true, eq_self, ↓reduceIte, if_true, if_false, nI_add, nI_mul, inB_nI, nI_clamp, Nat.add_zero, eqI, ltI, leI, m6_ne, ne_m6, Nat.reduceEqDiff, reduceCtorEq, Nat.reduceLT, Nat.reduceLeDiff, Nat.reduceAdd, Nat.reduceMul, Nat.zero_add, Nat.mul_zero, nar_0, nar_1, nar_b, bI_t, bI_f, bI_0, bI_1, Bool.true_eq_false, Bool.false_eq_true, Bool.and_self, Bool.and_false, Bool.false_and, Bool.true_and, Bool.and_true, and_self, hn, g1]
  · rw [inR_neg hx]
    simp (disch := omega) only [sX5_hasStep_0, sX5_hasStep_1, sX5_hasStep_4, sX5_hasStep_5, sX5_hasStep_6, sX5_hasStep_9, sX5_hasStep_12, sX5_hasStep_13, sX5_hasStep_14, sX5_hasStep_17, sX5_hasStep_18, sX5_hasStep_21, sX5_hasStep_22, h5, hs, true_and, and_true, true_or, or_true, eq_self, ↓reduceIte, if_true, if_false, nI_add, nI_mul, inB_nI, nI_clamp, Nat.add_zero, eqI, ltI, leI, m6_ne, ne_m6, Nat.reduceEqDiff, reduceCtorEq, Nat.reduceLT, Nat.reduceLeDiff, Nat.reduceAdd, Nat.reduceMul, Nat.zero_add, Nat.mul_zero, nar_0, nar_1, nar_b, bI_t, bI_f, bI_0, bI_1, Bool.true_eq_false, Bool.false_eq_true, Bool.and_self, Bool.and_false, Bool.false_and, Bool.true_and, Bool.and_true, and_self, hx]
theorem thg (hR : Rfc f c nF nT) (hW : WF f nF nT) {t : Nat} (ht : t < nT) : ∃ n s, (gT f t 2 = nI n ∧ gT f t 1 = nI s ∧ gT c t 2 = nI n ∧ gT c t 1 = nI s) ∧ n ≤ s ∧ 1 ≤ s ∧ s ≤ 4 := by
  obtain ⟨n, s, ⟨h1, h2, h3, h4, h5⟩, _⟩ := hW.2.2.1 t ht
  have hr := (hR.2.2 t ht).1
  exact ⟨n, s, ⟨h1, h2, (hr 2 (by decide) (by decide)).trans h1, (hr 1 (by decide) (by decide)).trans h2⟩, h3, h4, h5⟩
theorem ns_end {t s w : Nat} (h2 : gT f t 2 = nI s) (h1 : gT f t 1 = nI s) : nsF f t w = if w = 0 then nI 5 else if w = 1 then gG f 1 else m6 := by
  unfold nsF testedF
  rw [h2, h1, beq_self_eq_true]
  rfl
theorem ns_mid (hR : Rfc f c nF nT) {t n s w : Nat} (ht : t < nT) (h2 : gT f t 2 = nI n) (h1 : gT f t 1 = nI s) (hns : n < s) (hs : s ≤ 4) (hw : w < 3) : nsF f t w = gT c t (6 + 3 * n + w) := by
  have hne : (nI n == nI s) = false := by
    rw [Bool.eq_false_iff]
    intro q
    have := nI9 (by omega) (by omega) (beq_iff_eq.mp q)
    omega
  unfold nsF testedF
  rw [h2, h1, hne, nI_clamp (by omega)]
  exact ((hR.2.2 t ht).2.2 n s h1 hns (by omega) w hw).symm
theorem x_nextSkill (hB : IsM D b) (hR : Rfc f c nF nT) (hW : WF f nF nT) {t : Nat} (ht : t < nT) : Runs MX5_nextSkill 0 [.ref (b + 12 + 4 * t)] [] D (bM m b c) z Q = Q (.int (nsF f t 0)) D (bM m b c) z := by
  have h16 := hW.1.2.2.2
  have hb := hB
  simp only [IsM] at hb
  obtain ⟨n, s, ⟨f2, f1, c2, c1⟩, h3, h4, h5⟩ := thg hR hW ht
  have hs : ∀ Q, Runs MX5_hasStep 0 [.ref (b + 12 + 4 * t), .int (nI n)] [] D (bM m b c) z Q = Q (.int (bI (decide (n < s)))) D (bM m b c) z := fun Q => by
    rw [← inR_lt (by omega) (by omega)]
    exact x_hasStep (hb.2.2.2.2.2.1 t (by omega)) ((b_T1 (by omega)).trans c1) h5
  by_cases h : n < s
  · rw [decide_eq_true h] at hs
    rw [ns_mid hR ht f2 f1 h h5 (by decide)]
    simp (disch := omega) only [sX5_nextSkill_0, sX5_nextSkill_1, sX5_nextSkill_2, sX5_nextSkill_5, sX5_nextSkill_8, sX5_nextSkill_11, sX5_nextSkill_12, sX5_nextSkill_15, sX5_nextSkill_16, sX5_nextSkill_19, sX5_nextSkill_20, sX5_nextSkill_23, sX5_nextSkill_24, hb, true_and, and_true, true_or, or_true, eq_self, ↓reduceIte, if_true, if_false, nI_add, nI_mul, inB_nI, nI_clamp, Nat.add_zero, eqI, ltI, leI, m6_ne, ne_m6, Nat.reduceEqDiff, reduceCtorEq, Nat.reduceLT, Nat.reduceLeDiff, Nat.reduceAdd, Nat.reduceMul, Nat.zero_add, Nat.mul_zero, nar_0, nar_1, nar_b, bI_t, bI_f, bI_0, bI_1, Bool.true_eq_false, Bool.false_eq_true, Bool.and_self, Bool.and_false, Bool.false_and, Bool.true_and, Bool.and_true, and_self, b_T2, c2, hs, b_S0]
  · rw [decide_eq_false h] at hs
    obtain rfl : n = s := by omega
    rw [ns_end f2 f1]
    simp (disch := omega) only [sX5_nextSkill_0, sX5_nextSkill_1, sX5_nextSkill_2, sX5_nextSkill_5, sX5_nextSkill_8, sX5_nextSkill_11, sX5_nextSkill_12, sX5_nextSkill_15, sX5_nextSkill_16, sX5_nextSkill_19, sX5_nextSkill_20, sX5_nextSkill_23, sX5_nextSkill_24, hb, true_and, and_true, true_or, or_true, eq_self, ↓reduceIte, if_true, if_false, nI_add, nI_mul, inB_nI, nI_clamp, Nat.add_zero, eqI, ltI, leI, m6_ne, ne_m6, Nat.reduceEqDiff, reduceCtorEq, Nat.reduceLT, Nat.reduceLeDiff, Nat.reduceAdd, Nat.reduceMul, Nat.zero_add, Nat.mul_zero, nar_0, nar_1, nar_b, bI_t, bI_f, bI_0, bI_1, Bool.true_eq_false, Bool.false_eq_true, Bool.and_self, Bool.and_false, Bool.false_and, Bool.true_and, Bool.and_true, and_self, b_T2, c2, hs]
theorem x_nextWork (hB : IsM D b) (hR : Rfc f c nF nT) (hW : WF f nF nT) {t : Nat} (ht : t < nT) : Runs MX5_nextWork 0 [.ref (b + 12 + 4 * t), .int (gG f 1)] [] D (bM m b c) z Q = Q (.int (nsF f t 1)) D (bM m b c) z := by
  have h16 := hW.1.2.2.2
  have hb := hB
  simp only [IsM] at hb
  obtain ⟨n, s, ⟨f2, f1, c2, c1⟩, h3, h4, h5⟩ := thg hR hW ht
  have hs : ∀ Q, Runs MX5_hasStep 0 [.ref (b + 12 + 4 * t), .int (nI n)] [] D (bM m b c) z Q = Q (.int (bI (decide (n < s)))) D (bM m b c) z := fun Q => by
    rw [← inR_lt (by omega) (by omega)]
    exact x_hasStep (hb.2.2.2.2.2.1 t (by omega)) ((b_T1 (by omega)).trans c1) h5
  by_cases h : n < s
  · rw [decide_eq_true h] at hs
    rw [ns_mid hR ht f2 f1 h h5 (by decide)]
    simp (disch := omega) only [sX5_nextWork_0, sX5_nextWork_1, sX5_nextWork_2, sX5_nextWork_5, sX5_nextWork_8, sX5_nextWork_11, sX5_nextWork_12, sX5_nextWork_15, sX5_nextWork_16, sX5_nextWork_19, sX5_nextWork_20, sX5_nextWork_23, sX5_nextWork_24, hb, true_and, and_true, true_or, or_true, eq_self, ↓reduceIte, if_true, if_false, nI_add, nI_mul, inB_nI, nI_clamp, Nat.add_zero, eqI, ltI, leI, m6_ne, ne_m6, Nat.reduceEqDiff, reduceCtorEq, Nat.reduceLT, Nat.reduceLeDiff, Nat.reduceAdd, Nat.reduceMul, Nat.zero_add, Nat.mul_zero, nar_0, nar_1, nar_b, bI_t, bI_f, bI_0, bI_1, Bool.true_eq_false, Bool.false_eq_true, Bool.and_self, Bool.and_false, Bool.false_and, Bool.true_and, Bool.and_true, and_self, b_T2, c2, hs, b_S1]
  · rw [decide_eq_false h] at hs
    obtain rfl : n = s := by omega
    rw [ns_end f2 f1]
    simp (disch := omega) only [sX5_nextWork_0, sX5_nextWork_1, sX5_nextWork_2, sX5_nextWork_5, sX5_nextWork_8, sX5_nextWork_11, sX5_nextWork_12, sX5_nextWork_15, sX5_nextWork_16, sX5_nextWork_19, sX5_nextWork_20, sX5_nextWork_23, sX5_nextWork_24, hb, true_and, and_true, true_or, or_true, eq_self, ↓reduceIte, if_true, if_false, nI_add, nI_mul, inB_nI, nI_clamp, Nat.add_zero, eqI, ltI, leI, m6_ne, ne_m6, Nat.reduceEqDiff, reduceCtorEq, Nat.reduceLT, Nat.reduceLeDiff, Nat.reduceAdd, Nat.reduceMul, Nat.zero_add, Nat.mul_zero, nar_0, nar_1, nar_b, bI_t, bI_f, bI_0, bI_1, Bool.true_eq_false, Bool.false_eq_true, Bool.and_self, Bool.and_false, Bool.false_and, Bool.true_and, Bool.and_true, and_self, b_T2, c2, hs, Nat.one_ne_zero]
theorem x_nextPart (hB : IsM D b) (hR : Rfc f c nF nT) (hW : WF f nF nT) {t : Nat} (ht : t < nT) : Runs MX5_nextPart 0 [.ref (b + 12 + 4 * t)] [] D (bM m b c) z Q = Q (.int (nsF f t 2)) D (bM m b c) z := by
  have h16 := hW.1.2.2.2
  have hb := hB
  simp only [IsM] at hb
  obtain ⟨n, s, ⟨f2, f1, c2, c1⟩, h3, h4, h5⟩ := thg hR hW ht
  have hs : ∀ Q, Runs MX5_hasStep 0 [.ref (b + 12 + 4 * t), .int (nI n)] [] D (bM m b c) z Q = Q (.int (bI (decide (n < s)))) D (bM m b c) z := fun Q => by
    rw [← inR_lt (by omega) (by omega)]
    exact x_hasStep (hb.2.2.2.2.2.1 t (by omega)) ((b_T1 (by omega)).trans c1) h5
  by_cases h : n < s
  · rw [decide_eq_true h] at hs
    rw [ns_mid hR ht f2 f1 h h5 (by decide)]
    simp (disch := omega) only [sX5_nextPart_0, sX5_nextPart_1, sX5_nextPart_2, sX5_nextPart_5, sX5_nextPart_8, sX5_nextPart_11, sX5_nextPart_12, sX5_nextPart_15, sX5_nextPart_16, sX5_nextPart_19, sX5_nextPart_20, sX5_nextPart_23, sX5_nextPart_25, hb, true_and, and_true, true_or, or_true, eq_self, ↓reduceIte, if_true, if_false, nI_add, nI_mul, inB_nI, nI_clamp, Nat.add_zero, eqI, ltI, leI, m6_ne, ne_m6, Nat.reduceEqDiff, reduceCtorEq, Nat.reduceLT, Nat.reduceLeDiff, Nat.reduceAdd, Nat.reduceMul, Nat.zero_add, Nat.mul_zero, nar_0, nar_1, nar_b, bI_t, bI_f, bI_0, bI_1, Bool.true_eq_false, Bool.false_eq_true, Bool.and_self, Bool.and_false, Bool.false_and, Bool.true_and, Bool.and_true, and_self, b_T2, c2, hs, b_S2]
  · rw [decide_eq_false h] at hs
    obtain rfl : n = s := by omega
    rw [ns_end f2 f1]
    simp (disch := omega) only [sX5_nextPart_0, sX5_nextPart_1, sX5_nextPart_2, sX5_nextPart_5, sX5_nextPart_8, sX5_nextPart_11, sX5_nextPart_12, sX5_nextPart_15, sX5_nextPart_16, sX5_nextPart_19, sX5_nextPart_20, sX5_nextPart_23, sX5_nextPart_25, hb, true_and, and_true, true_or, or_true, eq_self, ↓reduceIte, if_true, if_false, nI_add, nI_mul, inB_nI, nI_clamp, Nat.add_zero, eqI, ltI, leI, m6_ne, ne_m6, Nat.reduceEqDiff, reduceCtorEq, Nat.reduceLT, Nat.reduceLeDiff, Nat.reduceAdd, Nat.reduceMul, Nat.zero_add, Nat.mul_zero, nar_0, nar_1, nar_b, bI_t, bI_f, bI_0, bI_1, Bool.true_eq_false, Bool.false_eq_true, Bool.and_self, Bool.and_false, Bool.false_and, Bool.true_and, Bool.and_true, and_self, b_T2, c2, hs]
theorem x_isInStock (hB : IsM D b) (hR : Rfc f c nF nT) {p : Int32} (hp : p = m6 ∨ ∃ n, n < 4 ∧ p = nI n) : Runs MX2_isInStock 0 [.ref b, .int p] [] D (bM m b c) z Q = Q (.int (bI (inStF f p))) D (bM m b c) z := by
  have hb := hB
  simp only [IsM] at hb
  rcases hp with rfl | ⟨n, hn, rfl⟩
  · have : inStF f m6 = true := by simp [inStF]
    rw [this]
    simp (disch := omega) only [sX2_isInStock_0, sX2_isInStock_1, sX2_isInStock_4, sX2_isInStock_5, sX2_isInStock_6, sX2_isInStock_9, sX2_isInStock_10, sX2_isInStock_13, sX2_isInStock_14, sX2_isInStock_15, sX2_isInStock_18, sX2_isInStock_19, sX2_isInStock_22, sX2_isInStock_23, hb, true_and, and_true, true_or, or_true, eq_self, ↓reduceIte, if_true, if_false, nI_add, nI_mul, inB_nI, nI_clamp, Nat.add_zero, eqI, ltI, leI, m6_ne, ne_m6, Nat.reduceEqDiff, reduceCtorEq, Nat.reduceLT, Nat.reduceLeDiff, Nat.reduceAdd, Nat.reduceMul, Nat.zero_add, Nat.mul_zero, nar_0, nar_1, nar_b, bI_t, bI_f, bI_0, bI_1, Bool.true_eq_false, Bool.false_eq_true, Bool.and_self, Bool.and_false, Bool.false_and, Bool.true_and, Bool.and_true, and_self, m6_neg]
  · have h0 : ¬ n < 0 := Nat.not_lt_zero n
    have h4 : ¬ 4 ≤ n := by omega
    have e := hR.1 (6 + n) (by omega)
    have e2 : inStF f (nI n) = decide (nI 0 < gG f (6 + n)) := by
      unfold inStF
      rw [nI_clamp (by omega)]
      have : (nI n == m6) = false := by
        rw [Bool.eq_false_iff]
        exact fun q => nI_nm6 (by omega) (beq_iff_eq.mp q)
      rw [this, Bool.false_or]
    rw [e2]
    by_cases h : gG f (6 + n) ≤ nI 0
    · have h' : ¬ nI 0 < gG f (6 + n) := fun q => Int32.lt_irrefl (Int32.lt_of_lt_of_le q h)
      rw [decide_eq_false h']
      simp (disch := omega) only [sX2_isInStock_0, sX2_isInStock_1, sX2_isInStock_4, sX2_isInStock_5, sX2_isInStock_6, sX2_isInStock_9, sX2_isInStock_10, sX2_isInStock_13, sX2_isInStock_14, sX2_isInStock_15, sX2_isInStock_18, sX2_isInStock_19, sX2_isInStock_22, sX2_isInStock_23, hb, true_and, and_true, true_or, or_true, eq_self, ↓reduceIte, if_true, if_false, nI_add, nI_mul, inB_nI, nI_clamp, Nat.add_zero, eqI, ltI, leI, m6_ne, ne_m6, Nat.reduceEqDiff, reduceCtorEq, Nat.reduceLT, Nat.reduceLeDiff, Nat.reduceAdd, Nat.reduceMul, Nat.zero_add, Nat.mul_zero, nar_0, nar_1, nar_b, bI_t, bI_f, bI_0, bI_1, Bool.true_eq_false, Bool.false_eq_true, Bool.and_self, Bool.and_false, Bool.false_and, Bool.true_and, Bool.and_true, and_self, h0, h4, b_prt, e, h]
    · have h' : nI 0 < gG f (6 + n) := Int32.not_le.mp h
      rw [decide_eq_true h']
      simp (disch := omega) only [sX2_isInStock_0, sX2_isInStock_1, sX2_isInStock_4, sX2_isInStock_5, sX2_isInStock_6, sX2_isInStock_9, sX2_isInStock_10, sX2_isInStock_13, sX2_isInStock_14, sX2_isInStock_15, sX2_isInStock_18, sX2_isInStock_19, sX2_isInStock_22, sX2_isInStock_23, hb, true_and, and_true, true_or, or_true, eq_self, ↓reduceIte, if_true, if_false, nI_add, nI_mul, inB_nI, nI_clamp, Nat.add_zero, eqI, ltI, leI, m6_ne, ne_m6, Nat.reduceEqDiff, reduceCtorEq, Nat.reduceLT, Nat.reduceLeDiff, Nat.reduceAdd, Nat.reduceMul, Nat.zero_add, Nat.mul_zero, nar_0, nar_1, nar_b, bI_t, bI_f, bI_0, bI_1, Bool.true_eq_false, Bool.false_eq_true, Bool.and_self, Bool.and_false, Bool.false_and, Bool.true_and, Bool.and_true, and_self, h0, h4, b_prt, e, h]
/-- somebody with skills sk could take the thing -/
def forF (f : Nat → Int32) (sk : Int32) (t : Nat) : Bool := wwpF f t && (((sk >>> (nsF f t 0 &&& 31)) &&& nI 1) == nI 1)
theorem x_isFor (hB : IsM D b) (hR : Rfc f c nF nT) (hW : WF f nF nT) {t : Nat} {sk : Int32} (ht : t < nT) : Runs MX2_isFor 0 [.ref b, .ref (b + 12 + 4 * t), .int sk] [] D (bM m b c) z Q = Q (.int (bI (forF f sk t))) D (bM m b c) z := by
  have h16 := hW.1.2.2.2
  have hb := hB
  simp only [IsM] at hb
  have e0 := (hR.2.2 t ht).1 0 (by decide) (by decide)
  have hk := (hW.2.2.1 t ht).okT
  have s0 : ∀ Q, Runs MX5_nextSkill 0 [.ref (b + 12 + 4 * t)] [] D (bM m b c) z Q = Q (.int (nsF f t 0)) D (bM m b c) z := fun Q => x_nextSkill hB hR hW ht
  have s2 : ∀ Q, Runs MX5_nextPart 0 [.ref (b + 12 + 4 * t)] [] D (bM m b c) z Q = Q (.int (nsF f t 2)) D (bM m b c) z := fun Q => x_nextPart hB hR hW ht
  have s3 : ∀ Q, Runs MX2_isInStock 0 [.ref b, .int (nsF f t 2)] [] D (bM m b c) z Q = Q (.int (bI (inStF f (nsF f t 2)))) D (bM m b c) z := fun Q => x_isInStock hB hR hk.2
  unfold forF wwpF
  by_cases h0 : gT f t 0 = nI 0
  · rw [h0] at e0
    have q0 : (gT f t 0 == nI 0) = true := by rw [h0]; exact beq_self_eq_true _
    rw [q0, Bool.true_and]
    by_cases h1 : ((sk >>> (nsF f t 0 &&& 31)) &&& nI 1) = nI 1
    · rw [h1, beq_self_eq_true, Bool.and_true]
      cases h2 : inStF f (nsF f t 2)
      · rw [h2] at s3
        simp (disch := omega) only [sX2_isFor_0, sX2_isFor_1, sX2_isFor_4, sX2_isFor_7, sX2_isFor_8, sX2_isFor_9, sX2_isFor_12, sX2_isFor_13, sX2_isFor_14, sX2_isFor_15, sX2_isFor_16, sX2_isFor_19, sX2_isFor_20, sX2_isFor_21, sX2_isFor_24, sX2_isFor_27, sX2_isFor_30, sX2_isFor_31, sX2_isFor_34, sX2_isFor_35, hb, true_and, and_true, true_or, or_true, eq_self, ↓reduceIte, if_true, if_false, nI_add, nI_mul, inB_nI, nI_clamp, Nat.add_zero, eqI, ltI, leI, m6_ne, ne_m6, Nat.reduceEqDiff, reduceCtorEq, Nat.reduceLT, Nat.reduceLeDiff, Nat.reduceAdd, Nat.reduceMul, Nat.zero_add, Nat.mul_zero, nar_0, nar_1, nar_b, bI_t, bI_f, bI_0, bI_1, Bool.true_eq_false, Bool.false_eq_true, Bool.and_self, Bool.and_false, Bool.false_and, Bool.true_and, Bool.and_true, and_self, b_T0, e0, s0, h1, s2, s3]
      · rw [h2] at s3
        simp (disch := omega) only [sX2_isFor_0, sX2_isFor_1, sX2_isFor_4, sX2_isFor_7, sX2_isFor_8, sX2_isFor_9, sX2_isFor_12, sX2_isFor_13, sX2_isFor_14, sX2_isFor_15, sX2_isFor_16, sX2_isFor_19, sX2_isFor_20, sX2_isFor_21, sX2_isFor_24, sX2_isFor_27, sX2_isFor_30, sX2_isFor_31, sX2_isFor_34, sX2_isFor_35, hb, true_and, and_true, true_or, or_true, eq_self, ↓reduceIte, if_true, if_false, nI_add, nI_mul, inB_nI, nI_clamp, Nat.add_zero, eqI, ltI, leI, m6_ne, ne_m6, Nat.reduceEqDiff, reduceCtorEq, Nat.reduceLT, Nat.reduceLeDiff, Nat.reduceAdd, Nat.reduceMul, Nat.zero_add, Nat.mul_zero, nar_0, nar_1, nar_b, bI_t, bI_f, bI_0, bI_1, Bool.true_eq_false, Bool.false_eq_true, Bool.and_self, Bool.and_false, Bool.false_and, Bool.true_and, Bool.and_true, and_self, b_T0, e0, s0, h1, s2, s3]
    · have q1 : (((sk >>> (nsF f t 0 &&& 31)) &&& nI 1) == nI 1) = false := by simp [h1]
      rw [q1, Bool.and_false]
      simp (disch := omega) only [sX2_isFor_0, sX2_isFor_1, sX2_isFor_4, sX2_isFor_7, sX2_isFor_8, sX2_isFor_9, sX2_isFor_12, sX2_isFor_13, sX2_isFor_14, sX2_isFor_15, sX2_isFor_16, sX2_isFor_19, sX2_isFor_20, sX2_isFor_21, sX2_isFor_24, sX2_isFor_27, sX2_isFor_30, sX2_isFor_31, sX2_isFor_34, sX2_isFor_35, hb, true_and, and_true, true_or, or_true, eq_self, ↓reduceIte, if_true, if_false, nI_add, nI_mul, inB_nI, nI_clamp, Nat.add_zero, eqI, ltI, leI, m6_ne, ne_m6, Nat.reduceEqDiff, reduceCtorEq, Nat.reduceLT, Nat.reduceLeDiff, Nat.reduceAdd, Nat.reduceMul, Nat.zero_add, Nat.mul_zero, nar_0, nar_1, nar_b, bI_t, bI_f, bI_0, bI_1, Bool.true_eq_false, Bool.false_eq_true, Bool.and_self, Bool.and_false, Bool.false_and, Bool.true_and, Bool.and_true, and_self, b_T0, e0, s0, h1]
  · have q0 : (gT f t 0 == nI 0) = false := by simp [h0]
    rw [q0, Bool.false_and, Bool.false_and]
    simp (disch := omega) only [sX2_isFor_0, sX2_isFor_1, sX2_isFor_4, sX2_isFor_7, sX2_isFor_8, sX2_isFor_9, sX2_isFor_12, sX2_isFor_13, sX2_isFor_14, sX2_isFor_15, sX2_isFor_16, sX2_isFor_19, sX2_isFor_20, sX2_isFor_21, sX2_isFor_24, sX2_isFor_27, sX2_isFor_30, sX2_isFor_31, sX2_isFor_34, sX2_isFor_35, hb, true_and, and_true, true_or, or_true, eq_self, ↓reduceIte, if_true, if_false, nI_add, nI_mul, inB_nI, nI_clamp, Nat.add_zero, eqI, ltI, leI, m6_ne, ne_m6, Nat.reduceEqDiff, reduceCtorEq, Nat.reduceLT, Nat.reduceLeDiff, Nat.reduceAdd, Nat.reduceMul, Nat.zero_add, Nat.mul_zero, nar_0, nar_1, nar_b, bI_t, bI_f, bI_0, bI_1, Bool.true_eq_false, Bool.false_eq_true, Bool.and_self, Bool.and_false, Bool.false_and, Bool.true_and, Bool.and_true, and_self, b_T0, e0, h0]
theorem x_hasThing (hB : IsM D b) (hR : Rfc f c nF nT) (hW : WF f nF nT) {x : Int32} : Runs MX2_hasThing 0 [.ref b, .int x] [] D (bM m b c) z Q = Q (.int (bI (inR x nT))) D (bM m b c) z := by
  have hb := hB
  simp only [IsM] at hb
  have h16 := hW.1.2.2.2
  have e3 : gG c 3 = nI nT := (hR.1 3 (by decide)).trans hW.1.2.2.1
  rcases i32_cases x with ⟨k, hk, rfl⟩ | hx
  · have hn : ¬ k < 0 := Nat.not_lt_zero k
    rw [inR_lt hk (by omega)]
    by_cases h : k < nT
    · have g1 : ¬ nT ≤ k := by omega
      have g2 : ¬ 16 ≤ k := by omega
      rw [decide_eq_true h]
      simp (disch := omega) only [sX2_hasThing_0, sX2_hasThing_1, sX2_hasThing_4, sX2_hasThing_5, sX2_hasThing_6, sX2_hasThing_9, sX2_hasThing_12, sX2_hasThing_13, sX2_hasThing_15, sX2_hasThing_18, sX2_hasThing_19, sX2_hasThing_22, sX2_hasThing_23, hb, b_nT, e3, true_and, and_true, true_or, or_true, eq_self, ↓reduceIte, if_true, if_false, nI_add, nI_mul, inB_nI, nI_clamp, Nat.add_zero, eqI, ltI, leI, m6_ne, ne_m6, Nat.reduceEqDiff, reduceCtorEq, Nat.reduceLT, Nat.reduceLeDiff, Nat.reduceAdd, Nat.reduceMul, Nat.zero_add, Nat.mul_zero, nar_0, nar_1, nar_b, bI_t, bI_f, bI_0, bI_1, Bool.true_eq_false, Bool.false_eq_true, Bool.and_self, Bool.and_false, Bool.false_and, Bool.true_and, Bool.and_true, and_self, hn, g1, g2]
    · have g1 : nT ≤ k := by omega
      rw [decide_eq_false h]
      simp (disch := omega) only [sX2_hasThing_0, sX2_hasThing_1, sX2_hasThing_4, sX2_hasThing_5, sX2_hasThing_6, sX2_hasThing_9, sX2_hasThing_12, sX2_hasThing_13, sX2_hasThing_15, sX2_hasThing_18, sX2_hasThing_19, sX2_hasThing_22, sX2_hasThing_23, hb, b_nT, e3, true_and, and_true, true_or, or_true, eq_self, ↓reduceIte, if_true, if_false, nI_add, nI_mul, inB_nI, nI_clamp, Nat.add_zero, eqI, ltI, leI, m6_ne, ne_m6, Nat.reduceEqDiff, reduceCtorEq, Nat.reduceLT, Nat.reduceLeDiff, Nat.reduceAdd, Nat.reduceMul, Nat.zero_add, Nat.mul_zero, nar_0, nar_1, nar_b, bI_t, bI_f, bI_0, bI_1, Bool.true_eq_false, Bool.false_eq_true, Bool.and_self, Bool.and_false, Bool.false_and, Bool.true_and, Bool.and_true, and_self, hn, g1]
  · rw [inR_neg hx]
    simp (disch := omega) only [sX2_hasThing_0, sX2_hasThing_1, sX2_hasThing_4, sX2_hasThing_5, sX2_hasThing_6, sX2_hasThing_9, sX2_hasThing_12, sX2_hasThing_13, sX2_hasThing_15, sX2_hasThing_18, sX2_hasThing_19, sX2_hasThing_22, sX2_hasThing_23, hb, b_nT, e3, true_and, and_true, true_or, or_true, eq_self, ↓reduceIte, if_true, if_false, nI_add, nI_mul, inB_nI, nI_clamp, Nat.add_zero, eqI, ltI, leI, m6_ne, ne_m6, Nat.reduceEqDiff, reduceCtorEq, Nat.reduceLT, Nat.reduceLeDiff, Nat.reduceAdd, Nat.reduceMul, Nat.zero_add, Nat.mul_zero, nar_0, nar_1, nar_b, bI_t, bI_f, bI_0, bI_1, Bool.true_eq_false, Bool.false_eq_true, Bool.and_self, Bool.and_false, Bool.false_and, Bool.true_and, Bool.and_true, and_self, hx]
theorem x_hasFixer (hB : IsM D b) (hR : Rfc f c nF nT) (hW : WF f nF nT) {x : Int32} : Runs MX2_hasFixer 0 [.ref b, .int x] [] D (bM m b c) z Q = Q (.int (bI (inR x nF))) D (bM m b c) z := by
  have hb := hB
  simp only [IsM] at hb
  have h8 := hW.1.2.1
  have e3 : gG c 2 = nI nF := (hR.1 2 (by decide)).trans hW.1.1
  rcases i32_cases x with ⟨k, hk, rfl⟩ | hx
  · have hn : ¬ k < 0 := Nat.not_lt_zero k
    rw [inR_lt hk (by omega)]
    by_cases h : k < nF
    · have g1 : ¬ nF ≤ k := by omega
      have g2 : ¬ 8 ≤ k := by omega
      rw [decide_eq_true h]
      simp (disch := omega) only [sX2_hasFixer_0, sX2_hasFixer_1, sX2_hasFixer_4, sX2_hasFixer_5, sX2_hasFixer_6, sX2_hasFixer_9, sX2_hasFixer_12, sX2_hasFixer_13, sX2_hasFixer_15, sX2_hasFixer_18, sX2_hasFixer_19, sX2_hasFixer_22, sX2_hasFixer_23, hb, b_nF, e3, true_and, and_true, true_or, or_true, eq_self, ↓reduceIte, if_true, if_false, nI_add, nI_mul, inB_nI, nI_clamp, Nat.add_zero, eqI, ltI, leI, m6_ne, ne_m6, Nat.reduceEqDiff, reduceCtorEq, Nat.reduceLT, Nat.reduceLeDiff, Nat.reduceAdd, Nat.reduceMul, Nat.zero_add, Nat.mul_zero, nar_0, nar_1, nar_b, bI_t, bI_f, bI_0, bI_1, Bool.true_eq_false, Bool.false_eq_true, Bool.and_self, Bool.and_false, Bool.false_and, Bool.true_and, Bool.and_true, and_self, hn, g1, g2]
    · have g1 : nF ≤ k := by omega
      rw [decide_eq_false h]
      simp (disch := omega) only [sX2_hasFixer_0, sX2_hasFixer_1, sX2_hasFixer_4, sX2_hasFixer_5, sX2_hasFixer_6, sX2_hasFixer_9, sX2_hasFixer_12, sX2_hasFixer_13, sX2_hasFixer_15, sX2_hasFixer_18, sX2_hasFixer_19, sX2_hasFixer_22, sX2_hasFixer_23, hb, b_nF, e3, true_and, and_true, true_or, or_true, eq_self, ↓reduceIte, if_true, if_false, nI_add, nI_mul, inB_nI, nI_clamp, Nat.add_zero, eqI, ltI, leI, m6_ne, ne_m6, Nat.reduceEqDiff, reduceCtorEq, Nat.reduceLT, Nat.reduceLeDiff, Nat.reduceAdd, Nat.reduceMul, Nat.zero_add, Nat.mul_zero, nar_0, nar_1, nar_b, bI_t, bI_f, bI_0, bI_1, Bool.true_eq_false, Bool.false_eq_true, Bool.and_self, Bool.and_false, Bool.false_and, Bool.true_and, Bool.and_true, and_self, hn, g1]
  · rw [inR_neg hx]
    simp (disch := omega) only [sX2_hasFixer_0, sX2_hasFixer_1, sX2_hasFixer_4, sX2_hasFixer_5, sX2_hasFixer_6, sX2_hasFixer_9, sX2_hasFixer_12, sX2_hasFixer_13, sX2_hasFixer_15, sX2_hasFixer_18, sX2_hasFixer_19, sX2_hasFixer_22, sX2_hasFixer_23, hb, b_nF, e3, true_and, and_true, true_or, or_true, eq_self, ↓reduceIte, if_true, if_false, nI_add, nI_mul, inB_nI, nI_clamp, Nat.add_zero, eqI, ltI, leI, m6_ne, ne_m6, Nat.reduceEqDiff, reduceCtorEq, Nat.reduceLT, Nat.reduceLeDiff, Nat.reduceAdd, Nat.reduceMul, Nat.zero_add, Nat.mul_zero, nar_0, nar_1, nar_b, bI_t, bI_f, bI_0, bI_1, Bool.true_eq_false, Bool.false_eq_true, Bool.and_self, Bool.and_false, Bool.false_and, Bool.true_and, Bool.and_true, and_self, hx]
theorem x_canTakeMore (hB : IsM D b) (hR : Rfc f c nF nT) (hW : WF f nF nT) {i : Nat} (hi : i < nF) : Runs MX0_canTakeMore 0 [.ref (b + 4 + i)] [] D (bM m b c) z Q = Q (.int (bI (freeF f i))) D (bM m b c) z := by
  have hb := hB
  simp only [IsM] at hb
  have h8 := hW.1.2.1
  have e2 := hR.2.1 i hi 2 (by decide)
  have e3 := hR.2.1 i hi 3 (by decide)
  have hx := (hW.2.2.2.1 i hi).2
  unfold freeF
  rcases hx with h | h
  · have q : (gF f i 2 == nI 1) = false := by rw [h]; decide +kernel
    rw [h] at e2
    rw [q, Bool.false_and]
    simp (disch := omega) only [sX0_canTakeMore_0, sX0_canTakeMore_1, sX0_canTakeMore_4, sX0_canTakeMore_7, sX0_canTakeMore_8, sX0_canTakeMore_11, sX0_canTakeMore_13, sX0_canTakeMore_16, sX0_canTakeMore_17, sX0_canTakeMore_20, sX0_canTakeMore_21, hb, b_F, e2, true_and, and_true, true_or, or_true, eq_self, ↓reduceIte, if_true, if_false, nI_add, nI_mul, inB_nI, nI_clamp, Nat.add_zero, eqI, ltI, leI, m6_ne, ne_m6, Nat.reduceEqDiff, reduceCtorEq, Nat.reduceLT, Nat.reduceLeDiff, Nat.reduceAdd, Nat.reduceMul, Nat.zero_add, Nat.mul_zero, nar_0, nar_1, nar_b, bI_t, bI_f, bI_0, bI_1, Bool.true_eq_false, Bool.false_eq_true, Bool.and_self, Bool.and_false, Bool.false_and, Bool.true_and, Bool.and_true, and_self]
  · have q : (gF f i 2 == nI 1) = true := by rw [h]; exact beq_self_eq_true _
    rw [h] at e2
    rw [q, Bool.true_and]
    by_cases h3 : gF f i 3 = m6
    · have q3 : (gF f i 3 == m6) = true := by rw [h3]; exact beq_self_eq_true _
      rw [q3]
      simp (disch := omega) only [sX0_canTakeMore_0, sX0_canTakeMore_1, sX0_canTakeMore_4, sX0_canTakeMore_7, sX0_canTakeMore_8, sX0_canTakeMore_11, sX0_canTakeMore_13, sX0_canTakeMore_16, sX0_canTakeMore_17, sX0_canTakeMore_20, sX0_canTakeMore_21, hb, b_F, e2, e3, h3, true_and, and_true, true_or, or_true, eq_self, ↓reduceIte, if_true, if_false, nI_add, nI_mul, inB_nI, nI_clamp, Nat.add_zero, eqI, ltI, leI, m6_ne, ne_m6, Nat.reduceEqDiff, reduceCtorEq, Nat.reduceLT, Nat.reduceLeDiff, Nat.reduceAdd, Nat.reduceMul, Nat.zero_add, Nat.mul_zero, nar_0, nar_1, nar_b, bI_t, bI_f, bI_0, bI_1, Bool.true_eq_false, Bool.false_eq_true, Bool.and_self, Bool.and_false, Bool.false_and, Bool.true_and, Bool.and_true, and_self]
    · have q3 : (gF f i 3 == m6) = false := by simp [h3]
      rw [q3]
      simp (disch := omega) only [sX0_canTakeMore_0, sX0_canTakeMore_1, sX0_canTakeMore_4, sX0_canTakeMore_7, sX0_canTakeMore_8, sX0_canTakeMore_11, sX0_canTakeMore_13, sX0_canTakeMore_16, sX0_canTakeMore_17, sX0_canTakeMore_20, sX0_canTakeMore_21, hb, b_F, e2, e3, h3, true_and, and_true, true_or, or_true, eq_self, ↓reduceIte, if_true, if_false, nI_add, nI_mul, inB_nI, nI_clamp, Nat.add_zero, eqI, ltI, leI, m6_ne, ne_m6, Nat.reduceEqDiff, reduceCtorEq, Nat.reduceLT, Nat.reduceLeDiff, Nat.reduceAdd, Nat.reduceMul, Nat.zero_add, Nat.mul_zero, nar_0, nar_1, nar_b, bI_t, bI_f, bI_0, bI_1, Bool.true_eq_false, Bool.false_eq_true, Bool.and_self, Bool.and_false, Bool.false_and, Bool.true_and, Bool.and_true, and_self]
end CLS
