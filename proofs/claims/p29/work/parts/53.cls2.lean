/-! the class works and takes -/
section CLS3
variable {D : vDD} {m : vMM} {f c : Nat → Int32} {z : vZZ} {Q : Value → vDD → vMM → vZZ → Prop} {nF nT b : Nat}
theorem tested_iff {t n s : Nat} (h2 : gT f t 2 = nI n) (h1 : gT f t 1 = nI s) (hn : n ≤ s) (hs : s ≤ 4) : testedF f t = !decide (n < s) := by
  unfold testedF
  rw [h2, h1, Bool.eq_iff_iff, beq_iff_eq]
  simp
  constructor
  · intro q
    have := nI9 (by omega) (by omega) q
    omega
  · intro q
    have : n = s := by omega
    rw [this]
theorem x_endStep (hB : IsM D b) (hR : Rfc f c nF nT) (hW : WF f nF nT) {t : Nat} (ht : t < nT) : Runs MX5_endStep 0 [.ref (b + 12 + 4 * t)] [] D (bM m b c) z Q =
    (if testedF f t = true then (if gT f t 4 < gT f t 5 then Q (.int (nI 1)) D (bM m b (wA (sT (sT c t 4 (gT f t 4 + nI 1)) t 2 (gT f t 1 - nI 1)) t)) z else Q (.int (nI 0)) D (bM m b (sT (sT c t 0 (nI 2)) t 3 (nI 0))) z)
     else Q (.int (nI 0)) D (bM m b (wA (sT c t 2 (gT f t 2 + nI 1)) t)) z) := by
  have hb := hB
  simp only [IsM] at hb
  have h16 := hW.1.2.2.2
  obtain ⟨n, s, ⟨f2, f1, c2, c1⟩, h3, h4, h5⟩ := thg hR hW ht
  have e4 := (hR.2.2 t ht).1 4 (by decide) (by decide)
  have e5 := (hR.2.2 t ht).1 5 (by decide) (by decide)
  have hs : ∀ Q, Runs MX5_hasStep 0 [.ref (b + 12 + 4 * t), .int (nI n)] [] D (bM m b c) z Q = Q (.int (bI (decide (n < s)))) D (bM m b c) z := fun Q => by
    rw [← inR_lt (by omega) (by omega)]
    exact x_hasStep (hb.2.2.2.2.2.1 t (by omega)) ((b_T1 (by omega)).trans c1) h5
  have bw : ∀ c Q, Runs MX5_becomeWaiting 0 [.ref (b + 12 + 4 * t)] [] D (bM m b c) z Q = Q vJ D (bM m b (wA c t)) z := fun c Q => x_becomeWaiting hB (by omega)
  have lq : ∀ c Q, Runs MX5_leaveQueue 0 [.ref (b + 12 + 4 * t), .int (nI 2)] [] D (bM m b c) z Q = Q vJ D (bM m b (sT (sT c t 0 (nI 2)) t 3 (nI 0))) z := fun c Q => x_leaveQueue hB (by omega)
  rw [tested_iff f2 f1 h3 h5]
  by_cases h : n < s
  · rw [decide_eq_true h] at hs ⊢
    simp (disch := omega) only [sX5_endStep_0, sX5_endStep_1, sX5_endStep_2, sX5_endStep_5, sX5_endStep_8, sX5_endStep_11, sX5_endStep_12, sX5_endStep_13, sX5_endStep_16, sX5_endStep_17, sX5_endStep_18, sX5_endStep_21, sX5_endStep_22, sX5_endStep_25, sX5_endStep_26, sX5_endStep_27, sX5_endStep_28, sX5_endStep_31, sX5_endStep_32, sX5_endStep_35, sX5_endStep_38, sX5_endStep_39, sX5_endStep_40, sX5_endStep_43, sX5_endStep_44, sX5_endStep_45, sX5_endStep_48, sX5_endStep_49, sX5_endStep_50, sX5_endStep_53, sX5_endStep_54, sX5_endStep_55, sX5_endStep_58, sX5_endStep_59, sX5_endStep_62, sX5_endStep_63, sX5_endStep_64, sX5_endStep_65, sX5_endStep_66, sX5_endStep_69, sX5_endStep_70, hb, true_and, and_true, true_or, or_true, eq_self, ↓reduceIte, if_true, if_false, nI_add, nI_mul, inB_nI, nI_clamp, Nat.add_zero, eqI, ltI, leI, m6_ne, ne_m6, Nat.reduceEqDiff, reduceCtorEq, Nat.reduceLT, Nat.reduceLeDiff, Nat.reduceAdd, Nat.reduceMul, Nat.zero_add, Nat.mul_zero, nar_0, nar_1, nar_b, bI_t, bI_f, bI_0, bI_1, Bool.true_eq_false, Bool.false_eq_true, Bool.and_self, Bool.and_false, Bool.false_and, Bool.true_and, Bool.and_true, and_self, b_T2, c2, f2, hs, w_T2, bw, Bool.not_true]
  · rw [decide_eq_false h] at hs ⊢
    by_cases h6 : gT f t 4 < gT f t 5
    · have h6' : ¬ gT f t 5 ≤ gT f t 4 := fun q => Int32.lt_irrefl (Int32.lt_of_lt_of_le h6 q)
      simp (disch := omega) only [sX5_endStep_0, sX5_endStep_1, sX5_endStep_2, sX5_endStep_5, sX5_endStep_8, sX5_endStep_11, sX5_endStep_12, sX5_endStep_13, sX5_endStep_16, sX5_endStep_17, sX5_endStep_18, sX5_endStep_21, sX5_endStep_22, sX5_endStep_25, sX5_endStep_26, sX5_endStep_27, sX5_endStep_28, sX5_endStep_31, sX5_endStep_32, sX5_endStep_35, sX5_endStep_38, sX5_endStep_39, sX5_endStep_40, sX5_endStep_43, sX5_endStep_44, sX5_endStep_45, sX5_endStep_48, sX5_endStep_49, sX5_endStep_50, sX5_endStep_53, sX5_endStep_54, sX5_endStep_55, sX5_endStep_58, sX5_endStep_59, sX5_endStep_62, sX5_endStep_63, sX5_endStep_64, sX5_endStep_65, sX5_endStep_66, sX5_endStep_69, sX5_endStep_70, hb, true_and, and_true, true_or, or_true, eq_self, ↓reduceIte, if_true, if_false, nI_add, nI_mul, inB_nI, nI_clamp, Nat.add_zero, eqI, ltI, leI, m6_ne, ne_m6, Nat.reduceEqDiff, reduceCtorEq, Nat.reduceLT, Nat.reduceLeDiff, Nat.reduceAdd, Nat.reduceMul, Nat.zero_add, Nat.mul_zero, nar_0, nar_1, nar_b, bI_t, bI_f, bI_0, bI_1, Bool.true_eq_false, Bool.false_eq_true, Bool.and_self, Bool.and_false, Bool.false_and, Bool.true_and, Bool.and_true, and_self, b_T2, c2, hs, b_T4, b_T5, e4, e5, h6, h6', w_T4, b_T1, gT_sTk, ne_eq, not_false_eq_true, c1, f1, w_T2, bw, Bool.not_false]
    · have h6' : gT f t 5 ≤ gT f t 4 := Int32.not_lt.mp h6
      simp (disch := omega) only [sX5_endStep_0, sX5_endStep_1, sX5_endStep_2, sX5_endStep_5, sX5_endStep_8, sX5_endStep_11, sX5_endStep_12, sX5_endStep_13, sX5_endStep_16, sX5_endStep_17, sX5_endStep_18, sX5_endStep_21, sX5_endStep_22, sX5_endStep_25, sX5_endStep_26, sX5_endStep_27, sX5_endStep_28, sX5_endStep_31, sX5_endStep_32, sX5_endStep_35, sX5_endStep_38, sX5_endStep_39, sX5_endStep_40, sX5_endStep_43, sX5_endStep_44, sX5_endStep_45, sX5_endStep_48, sX5_endStep_49, sX5_endStep_50, sX5_endStep_53, sX5_endStep_54, sX5_endStep_55, sX5_endStep_58, sX5_endStep_59, sX5_endStep_62, sX5_endStep_63, sX5_endStep_64, sX5_endStep_65, sX5_endStep_66, sX5_endStep_69, sX5_endStep_70, hb, true_and, and_true, true_or, or_true, eq_self, ↓reduceIte, if_true, if_false, nI_add, nI_mul, inB_nI, nI_clamp, Nat.add_zero, eqI, ltI, leI, m6_ne, ne_m6, Nat.reduceEqDiff, reduceCtorEq, Nat.reduceLT, Nat.reduceLeDiff, Nat.reduceAdd, Nat.reduceMul, Nat.zero_add, Nat.mul_zero, nar_0, nar_1, nar_b, bI_t, bI_f, bI_0, bI_1, Bool.true_eq_false, Bool.false_eq_true, Bool.and_self, Bool.and_false, Bool.false_and, Bool.true_and, Bool.and_true, and_self, b_T2, c2, hs, b_T4, b_T5, e4, e5, h6, h6', lq, Bool.not_false]
theorem x_work (hB : IsM D b) (hR : Rfc f c nF nT) (hW : WF f nF nT) {i : Nat} (hi : i < nF) : ∃ c', Rfc (workF i f) c' nF nT ∧ ∀ Q, Runs MX2_work 0 [.ref b, .ref (b + 4 + i)] [] D (bM m b c) z Q = Q vJ D (bM m b c') z := by
  have hb := hB
  simp only [IsM] at hb
  have h16 := hW.1.2.2.2
  have h8 := hW.1.2.1
  have e1 := hR.2.1 i hi 1 (by decide)
  have e3 := hR.2.1 i hi 3 (by decide)
  have e4 := hR.2.1 i hi 4 (by decide)
  have ht0 : ∀ x Q, Runs MX2_hasThing 0 [.ref b, .int x] [] D (bM m b c) z Q = Q (.int (bI (inR x nT))) D (bM m b c) z := fun x Q => x_hasThing hB hR hW
  have bf : ∀ c Q, Runs MX0_becomeFree 0 [.ref (b + 4 + i)] [] D (bM m b c) z Q = Q vJ D (bM m b (clrF i c)) z := fun c Q => x_becomeFree hB (by omega)
  rcases (hW.2.2.2.1 i hi).1 with h3 | ⟨t, ht, h3, hw⟩
  · rw [h3] at e3
    unfold workF
    rw [if_pos h3]
    refine ⟨c, hR, fun Q => ?_⟩
    have q : inR m6 nT = false := inR_neg m6_neg
    simp (disch := omega) only [sX2_work_0, sX2_work_1, sX2_work_2, sX2_work_5, sX2_work_8, sX2_work_11, sX2_work_12, sX2_work_13, sX2_work_14, sX2_work_17, sX2_work_18, sX2_work_21, sX2_work_22, sX2_work_25, sX2_work_26, sX2_work_29, sX2_work_32, sX2_work_33, sX2_work_34, sX2_work_37, sX2_work_38, sX2_work_41, sX2_work_42, sX2_work_45, sX2_work_48, sX2_work_49, sX2_work_50, sX2_work_53, sX2_work_54, sX2_work_55, sX2_work_58, sX2_work_59, sX2_work_60, sX2_work_63, sX2_work_64, sX2_work_65, sX2_work_68, sX2_work_69, sX2_work_72, hb, true_and, and_true, true_or, or_true, eq_self, ↓reduceIte, if_true, if_false, nI_add, nI_mul, inB_nI, nI_clamp, Nat.add_zero, eqI, ltI, leI, m6_ne, ne_m6, Nat.reduceEqDiff, reduceCtorEq, Nat.reduceLT, Nat.reduceLeDiff, Nat.reduceAdd, Nat.reduceMul, Nat.zero_add, Nat.mul_zero, nar_0, nar_1, nar_b, bI_t, bI_f, bI_0, bI_1, Bool.true_eq_false, Bool.false_eq_true, Bool.and_self, Bool.and_false, Bool.false_and, Bool.true_and, Bool.and_true, and_self, b_F, e3, ht0, q]
  · have hne : ¬ gF f i 3 = m6 := by rw [h3]; exact nI_nm6 (by omega)
    have q : inR (nI t) nT = true := inR_nI ht (by omega)
    unfold workF
    rw [if_neg hne]
    rw [h3] at e3
    generalize hL : gF f i 4 - gF f i 1 = l
    have r1 : Rfc (sF f i 4 l) (sF c i 4 l) nF nT := hR.F (by omega) (by decide) h8
    have w1 : WF (sF f i 4 l) nF nT := hW.left hi l
    by_cases hl : l ≤ nI 0
    · rw [if_pos hl, h3, nI_clamp (by omega)]
      have es : ∀ Q, _ := fun Q => x_endStep (D := D) (m := m) (z := z) (Q := Q) hB r1 w1 ht
      have e5 : gF c i 5 = gF f i 5 := hR.2.1 i hi 5 (by decide)
      have rO : Rfc (offF (sF f i 4 l) i) (sF (sF (sF (sF c i 4 l) i 3 m6) i 4 (nI 0)) i 5 (gF f i 5 + nI 1)) nF nT := by
        have := ((r1.F (i := i) (k := 3) (v := m6) (by omega) (by decide) h8).F (i := i) (k := 4) (v := nI 0) (by omega) (by decide) h8).F (i := i) (k := 5) (v := gF f i 5 + nI 1) (by omega) (by decide) h8
        unfold offF
        rw [gF_sFk (f := f) (by decide : (5 : Nat) ≠ 4)]
        exact this
      have rd : ∀ k, gT (sF f i 4 l) t k = gT f t k := fun k => gT_sF (by omega) (by decide)
      have rd2 : ∀ k, gT (offF (sF f i 4 l) i) t k = gT f t k := fun k => by rw [(offF_R (by omega)).2.1 t k, rd]
      have gg : ∀ k, k < 10 ∨ 346 ≤ k → gG (offF (sF f i 4 l) i) k = gG f k := fun k hk => by rw [(offF_R (by omega)).1 k hk, gG_sF hk (by omega) (by decide)]
      unfold endsStepF
      cases hT : testedF (sF f i 4 l) t
      · rw [hT] at es
        rw [if_neg (by decide)]
        refine ⟨_, (rO.T (t := t) (k := 2) (v := gT (sF f i 4 l) t 2 + nI 1) (by omega) (by decide) h16 h8).st (t := t) (v := nI 0) (x := nI 0) (y := nI 0) (by omega) h16 h8 (by rw [if_pos rfl]), fun Q => ?_⟩
        simp (disch := omega) only [sX2_work_0, sX2_work_1, sX2_work_2, sX2_work_5, sX2_work_8, sX2_work_11, sX2_work_12, sX2_work_13, sX2_work_14, sX2_work_17, sX2_work_18, sX2_work_21, sX2_work_22, sX2_work_25, sX2_work_26, sX2_work_29, sX2_work_32, sX2_work_33, sX2_work_34, sX2_work_37, sX2_work_38, sX2_work_41, sX2_work_42, sX2_work_45, sX2_work_48, sX2_work_49, sX2_work_50, sX2_work_53, sX2_work_54, sX2_work_55, sX2_work_58, sX2_work_59, sX2_work_60, sX2_work_63, sX2_work_64, sX2_work_65, sX2_work_68, sX2_work_69, sX2_work_72, hb, true_and, and_true, true_or, or_true, eq_self, ↓reduceIte, if_true, if_false, nI_add, nI_mul, inB_nI, nI_clamp, Nat.add_zero, eqI, ltI, leI, m6_ne, ne_m6, Nat.reduceEqDiff, reduceCtorEq, Nat.reduceLT, Nat.reduceLeDiff, Nat.reduceAdd, Nat.reduceMul, Nat.zero_add, Nat.mul_zero, nar_0, nar_1, nar_b, bI_t, bI_f, bI_0, bI_1, Bool.true_eq_false, Bool.false_eq_true, Bool.and_self, Bool.and_false, Bool.false_and, Bool.true_and, Bool.and_true, and_self, b_F, e3, ht0, q, e4, e1, hL, w_F, gF_sF, gF_sFk, ne_eq, not_false_eq_true, hl, es, wA, gF_sT, e5, bf, clrF, n_FT, n_FF, n_FFc, n_TT, n_TTc]
      · rw [hT] at es
        rw [if_pos rfl]
        unfold endsTestF
        rw [rd2, rd2]
        simp only [rd, if_true] at es
        by_cases h6 : gT f t 4 < gT f t 5
        · rw [if_pos h6]
          simp only [h6, if_true] at es
          have e6 := hR.1 5 (by decide)
          have r5 := ((((rO.T (t := t) (k := 4) (v := gT f t 4 + nI 1) (by omega) (by decide) h16 h8).G (k := 5) (v := gG f 5 + nI 1) (by decide) h8 h16).o (k := 348) (v := gG f 348 + nI 1) (by decide) h8 h16).T (t := t) (k := 2) (v := gT f t 1 - nI 1) (by omega) (by decide) h16 h8).st (t := t) (v := nI 0) (x := nI 0) (y := nI 0) (by omega) h16 h8 (by rw [if_pos rfl])
          rw [gg 5 (by decide), gg 348 (by decide), rd2]
          refine ⟨_, r5, fun Q => ?_⟩
          simp (disch := omega) only [sX2_work_0, sX2_work_1, sX2_work_2, sX2_work_5, sX2_work_8, sX2_work_11, sX2_work_12, sX2_work_13, sX2_work_14, sX2_work_17, sX2_work_18, sX2_work_21, sX2_work_22, sX2_work_25, sX2_work_26, sX2_work_29, sX2_work_32, sX2_work_33, sX2_work_34, sX2_work_37, sX2_work_38, sX2_work_41, sX2_work_42, sX2_work_45, sX2_work_48, sX2_work_49, sX2_work_50, sX2_work_53, sX2_work_54, sX2_work_55, sX2_work_58, sX2_work_59, sX2_work_60, sX2_work_63, sX2_work_64, sX2_work_65, sX2_work_68, sX2_work_69, sX2_work_72, hb, true_and, and_true, true_or, or_true, eq_self, ↓reduceIte, if_true, if_false, nI_add, nI_mul, inB_nI, nI_clamp, Nat.add_zero, eqI, ltI, leI, m6_ne, ne_m6, Nat.reduceEqDiff, reduceCtorEq, Nat.reduceLT, Nat.reduceLeDiff, Nat.reduceAdd, Nat.reduceMul, Nat.zero_add, Nat.mul_zero, nar_0, nar_1, nar_b, bI_t, bI_f, bI_0, bI_1, Bool.true_eq_false, Bool.false_eq_true, Bool.and_self, Bool.and_false, Bool.false_and, Bool.true_and, Bool.and_true, and_self, b_F, e3, ht0, q, e4, e1, hL, w_F, gF_sF, gF_sFk, ne_eq, not_false_eq_true, hl, es, wA, gF_sT, gF_sG, e5, bf, clrF, b_fld, w_fld, gG_sT, gG_sF, e6, n_FT, n_FF, n_FFc, n_TT, n_TTc, n_GT, n_GF]
        · rw [if_neg h6]
          simp only [h6, if_false] at es
          rw [gg 346 (by decide)]
          refine ⟨_, (rO.st1 (t := t) (v := nI 2) (by omega) h16 h8 (nI_ne (by decide) (by decide) (by decide))).o (by decide) h8 h16, fun Q => ?_⟩
          simp (disch := omega) only [sX2_work_0, sX2_work_1, sX2_work_2, sX2_work_5, sX2_work_8, sX2_work_11, sX2_work_12, sX2_work_13, sX2_work_14, sX2_work_17, sX2_work_18, sX2_work_21, sX2_work_22, sX2_work_25, sX2_work_26, sX2_work_29, sX2_work_32, sX2_work_33, sX2_work_34, sX2_work_37, sX2_work_38, sX2_work_41, sX2_work_42, sX2_work_45, sX2_work_48, sX2_work_49, sX2_work_50, sX2_work_53, sX2_work_54, sX2_work_55, sX2_work_58, sX2_work_59, sX2_work_60, sX2_work_63, sX2_work_64, sX2_work_65, sX2_work_68, sX2_work_69, sX2_work_72, hb, true_and, and_true, true_or, or_true, eq_self, ↓reduceIte, if_true, if_false, nI_add, nI_mul, inB_nI, nI_clamp, Nat.add_zero, eqI, ltI, leI, m6_ne, ne_m6, Nat.reduceEqDiff, reduceCtorEq, Nat.reduceLT, Nat.reduceLeDiff, Nat.reduceAdd, Nat.reduceMul, Nat.zero_add, Nat.mul_zero, nar_0, nar_1, nar_b, bI_t, bI_f, bI_0, bI_1, Bool.true_eq_false, Bool.false_eq_true, Bool.and_self, Bool.and_false, Bool.false_and, Bool.true_and, Bool.and_true, and_self, b_F, e3, ht0, q, e4, e1, hL, w_F, gF_sF, gF_sFk, ne_eq, not_false_eq_true, hl, es, gF_sT, e5, bf, clrF, n_FT, n_FF, n_FFc, n_TT, n_TTc]
    · rw [if_neg hl]
      refine ⟨_, r1, fun Q => ?_⟩
      simp (disch := omega) only [sX2_work_0, sX2_work_1, sX2_work_2, sX2_work_5, sX2_work_8, sX2_work_11, sX2_work_12, sX2_work_13, sX2_work_14, sX2_work_17, sX2_work_18, sX2_work_21, sX2_work_22, sX2_work_25, sX2_work_26, sX2_work_29, sX2_work_32, sX2_work_33, sX2_work_34, sX2_work_37, sX2_work_38, sX2_work_41, sX2_work_42, sX2_work_45, sX2_work_48, sX2_work_49, sX2_work_50, sX2_work_53, sX2_work_54, sX2_work_55, sX2_work_58, sX2_work_59, sX2_work_60, sX2_work_63, sX2_work_64, sX2_work_65, sX2_work_68, sX2_work_69, sX2_work_72, hb, true_and, and_true, true_or, or_true, eq_self, ↓reduceIte, if_true, if_false, nI_add, nI_mul, inB_nI, nI_clamp, Nat.add_zero, eqI, ltI, leI, m6_ne, ne_m6, Nat.reduceEqDiff, reduceCtorEq, Nat.reduceLT, Nat.reduceLeDiff, Nat.reduceAdd, Nat.reduceMul, Nat.zero_add, Nat.mul_zero, nar_0, nar_1, nar_b, bI_t, bI_f, bI_0, bI_1, Bool.true_eq_false, Bool.false_eq_true, Bool.and_self, Bool.and_false, Bool.false_and, Bool.true_and, Bool.and_true, and_self, b_F, e3, ht0, q, e4, e1, hL, w_F, gF_sF, hl]
end CLS3
