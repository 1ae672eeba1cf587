/-! taking, the longest waiting, one slot -/
section CLS4
variable {D : vDD} {m : vMM} {f c : Nat → Int32} {z : vZZ} {Q : Value → vDD → vMM → vZZ → Prop} {nF nT b : Nat}
theorem x_nextWork' (hB : IsM D b) {t n s : Nat} {w : Int32} (ht : t < 16) (c2 : gT c t 2 = nI n) (c1 : gT c t 1 = nI s) (h3 : n ≤ s) (h5 : s ≤ 4) : Runs MX5_nextWork 0 [.ref (b + 12 + 4 * t), .int w] [] D (bM m b c) z Q = Q (.int (if n < s then gT c t (6 + 3 * n + 1) else w)) D (bM m b c) z := by
  have hb := hB
  simp only [IsM] at hb
  have hs : ∀ Q, Runs MX5_hasStep 0 [.ref (b + 12 + 4 * t), .int (nI n)] [] D (bM m b c) z Q = Q (.int (bI (decide (n < s)))) D (bM m b c) z := fun Q => by
    rw [← inR_lt (by omega) (by omega)]
    exact x_hasStep (hb.2.2.2.2.2.1 t (by omega)) ((b_T1 (by omega)).trans c1) h5
  by_cases h : n < s
  · rw [decide_eq_true h] at hs
    simp (disch := omega) only [sX5_nextWork_0, sX5_nextWork_1, sX5_nextWork_2, sX5_nextWork_5, sX5_nextWork_8, sX5_nextWork_11, sX5_nextWork_12, sX5_nextWork_15, sX5_nextWork_16, sX5_nextWork_19, sX5_nextWork_20, sX5_nextWork_23, sX5_nextWork_24, hb, true_and, and_true, true_or, or_true, eq_self, ↓reduceIte, if_true, if_false, nI_add, nI_mul, inB_nI, nI_clamp, Nat.add_zero, eqI, ltI, leI, m6_ne, ne_m6, Nat.reduceEqDiff, reduceCtorEq, Nat.reduceLT, Nat.reduceLeDiff, Nat.reduceAdd, Nat.reduceMul, Nat.zero_add, Nat.mul_zero, nar_0, nar_1, nar_b, bI_t, bI_f, bI_0, bI_1, Bool.true_eq_false, Bool.false_eq_true, Bool.and_self, Bool.and_false, Bool.false_and, Bool.true_and, Bool.and_true, and_self, b_T2, c2, hs, b_S1, h]
  · rw [decide_eq_false h] at hs
    simp (disch := omega) only [sX5_nextWork_0, sX5_nextWork_1, sX5_nextWork_2, sX5_nextWork_5, sX5_nextWork_8, sX5_nextWork_11, sX5_nextWork_12, sX5_nextWork_15, sX5_nextWork_16, sX5_nextWork_19, sX5_nextWork_20, sX5_nextWork_23, sX5_nextWork_24, hb, true_and, and_true, true_or, or_true, eq_self, ↓reduceIte, if_true, if_false, nI_add, nI_mul, inB_nI, nI_clamp, Nat.add_zero, eqI, ltI, leI, m6_ne, ne_m6, Nat.reduceEqDiff, reduceCtorEq, Nat.reduceLT, Nat.reduceLeDiff, Nat.reduceAdd, Nat.reduceMul, Nat.zero_add, Nat.mul_zero, nar_0, nar_1, nar_b, bI_t, bI_f, bI_0, bI_1, Bool.true_eq_false, Bool.false_eq_true, Bool.and_self, Bool.and_false, Bool.false_and, Bool.true_and, Bool.and_true, and_self, b_T2, c2, hs, h]
theorem outP_T {p : Int32} {t k : Nat} (hp : p = m6 ∨ ∃ n, n < 4 ∧ p = nI n) : gT (outP c p) t k = gT c t k := (nsF_outP (t := t) (w := 0) hp).2.2 k
theorem x_take (hB : IsM D b) (hR : Rfc f c nF nT) (hW : WF f nF nT) {i t : Nat} (hi : i < nF) (ht : t < nT) : ∃ c', Rfc (takesF f i t) c' nF nT ∧ ∀ Q, Runs MX2_takeIfInStock 0 [.ref b, .ref (b + 4 + i), .int (nI t), vJ] [] D (bM m b c) z Q = if inStF f (nsF f t 2) = true then Q (.int (nI 1)) D (bM m b c') z else Q (.int (nI 0)) D (bM m b c) z := by
  have hb := hB
  simp only [IsM] at hb
  have h16 := hW.1.2.2.2
  have h8 := hW.1.2.1
  have hk := (hW.2.2.1 t ht).okT
  have q : inR (nI t) nT = true := inR_nI ht (by omega)
  have ht0 : ∀ x Q, Runs MX2_hasThing 0 [.ref b, .int x] [] D (bM m b c) z Q = Q (.int (bI (inR x nT))) D (bM m b c) z := fun x Q => x_hasThing hB hR hW
  have np : ∀ Q, Runs MX5_nextPart 0 [.ref (b + 12 + 4 * t)] [] D (bM m b c) z Q = Q (.int (nsF f t 2)) D (bM m b c) z := fun Q => x_nextPart hB hR hW ht
  have is : ∀ Q, Runs MX2_isInStock 0 [.ref b, .int (nsF f t 2)] [] D (bM m b c) z Q = Q (.int (bI (inStF f (nsF f t 2)))) D (bM m b c) z := fun Q => x_isInStock hB hR hk.2
  have lq : ∀ c Q, Runs MX5_leaveQueue 0 [.ref (b + 12 + 4 * t), .int (nI 1)] [] D (bM m b c) z Q = Q vJ D (bM m b (sT (sT c t 0 (nI 1)) t 3 (nI 0))) z := fun c Q => x_leaveQueue hB (by omega)
  obtain ⟨n, s, ⟨f2, f1, c2, c1⟩, h3, h4, h5⟩ := thg hR hW ht
  have hw : (if n < s then gT c t (6 + 3 * n + 1) else gG f 1) = nsF f t 1 := by
    by_cases h : n < s
    · rw [if_pos h, ns_mid hR ht f2 f1 h h5 (by decide)]
    · rw [if_neg h]
      obtain rfl : n = s := by omega
      rw [ns_end f2 f1, if_neg (by decide), if_pos rfl]
  have e1 := hR.1 1 (by decide)
  have r1 := ((((hR.out hk.2 h8 h16).st (t := t) (v := nI 1) (x := nI 0) (y := nI 0) (by omega) h16 h8 (by rw [if_neg (nI_ne (by decide) (by decide) (by decide))])).F (i := i) (k := 3) (v := nI t) (by omega) (by decide) h8).F (i := i) (k := 4) (v := nsF f t 1) (by omega) (by decide) h8)
  refine ⟨_, r1, fun Q => ?_⟩
  have nw : ∀ g Q, gT g t 2 = nI n → gT g t 1 = nI s → gT g t (6 + 3 * n + 1) = gT c t (6 + 3 * n + 1) → Runs MX5_nextWork 0 [.ref (b + 12 + 4 * t), .int (gG f 1)] [] D (bM m b g) z Q = Q (.int (nsF f t 1)) D (bM m b g) z := fun g Q g2 g1 g6 => by
    rw [x_nextWork' hB (by omega) g2 g1 h3 h5, g6, hw]
  cases hst : inStF f (nsF f t 2)
  · rw [hst] at is
    simp (disch := omega) only [sX2_takeIfInStock_0, sX2_takeIfInStock_1, sX2_takeIfInStock_2, sX2_takeIfInStock_5, sX2_takeIfInStock_8, sX2_takeIfInStock_9, sX2_takeIfInStock_10, sX2_takeIfInStock_13, sX2_takeIfInStock_14, sX2_takeIfInStock_15, sX2_takeIfInStock_18, sX2_takeIfInStock_21, sX2_takeIfInStock_24, sX2_takeIfInStock_25, hb, true_and, and_true, true_or, or_true, eq_self, ↓reduceIte, if_true, if_false, nI_add, nI_mul, inB_nI, nI_clamp, Nat.add_zero, eqI, ltI, leI, m6_ne, ne_m6, Nat.reduceEqDiff, reduceCtorEq, Nat.reduceLT, Nat.reduceLeDiff, Nat.reduceAdd, Nat.reduceMul, Nat.zero_add, Nat.mul_zero, nar_0, nar_1, nar_b, bI_t, bI_f, bI_0, bI_1, Bool.true_eq_false, Bool.false_eq_true, Bool.and_self, Bool.and_false, Bool.false_and, Bool.true_and, Bool.and_true, and_self, ht0, q, np, is]
  · rw [hst] at is
    rcases hk.2 with hp | ⟨p, p4, hp⟩
    · have nw1 := fun Q => nw (sF c i 3 (nI t)) Q (by rw [gT_sF (by omega) (by decide)]; exact c2) (by rw [gT_sF (by omega) (by decide)]; exact c1) (gT_sF (by omega) (by decide))
      rw [hp] at np is ⊢
      unfold outP
      rw [if_pos rfl]
      simp (disch := omega) only [sX2_takeIfInStock_0, sX2_takeIfInStock_1, sX2_takeIfInStock_2, sX2_takeIfInStock_5, sX2_takeIfInStock_8, sX2_takeIfInStock_9, sX2_takeIfInStock_10, sX2_takeIfInStock_13, sX2_takeIfInStock_14, sX2_takeIfInStock_15, sX2_takeIfInStock_18, sX2_takeIfInStock_21, sX2_takeIfInStock_24, sX2_takeIfInStock_25, sX2_takeIfInStock_26, sX2_takeIfInStock_27, sX2_takeIfInStock_30, sX2_takeIfInStock_31, sX2_takeIfInStock_32, sX2_takeIfInStock_35, sX2_takeIfInStock_36, sX2_takeIfInStock_37, sX2_takeIfInStock_40, sX2_takeIfInStock_41, sX2_takeIfInStock_42, sX2_takeIfInStock_45, sX2_takeIfInStock_46, sX2_takeIfInStock_49, sX2_takeIfInStock_50, sX2_takeIfInStock_51, sX2_takeIfInStock_52, sX2_takeIfInStock_53, sX2_takeIfInStock_54, sX2_takeIfInStock_55, sX2_takeIfInStock_56, sX2_takeIfInStock_57, sX2_takeIfInStock_60, sX2_takeIfInStock_61, sX2_takeIfInStock_62, sX2_takeIfInStock_65, sX2_takeIfInStock_66, sX2_takeIfInStock_67, sX2_takeIfInStock_68, sX2_takeIfInStock_71, sX2_takeIfInStock_74, sX2_takeIfInStock_77, sX2_takeIfInStock_78, sX2_takeIfInStock_81, sX2_takeIfInStock_82, sX2_takeIfInStock_83, sX2_takeIfInStock_84, sX2_takeIfInStock_87, sX2_takeIfInStock_88, hb, true_and, and_true, true_or, or_true, eq_self, ↓reduceIte, if_true, if_false, nI_add, nI_mul, inB_nI, nI_clamp, Nat.add_zero, eqI, ltI, leI, m6_ne, ne_m6, Nat.reduceEqDiff, reduceCtorEq, Nat.reduceLT, Nat.reduceLeDiff, Nat.reduceAdd, Nat.reduceMul, Nat.zero_add, Nat.mul_zero, nar_0, nar_1, nar_b, bI_t, bI_f, bI_0, bI_1, Bool.true_eq_false, Bool.false_eq_true, Bool.and_self, Bool.and_false, Bool.false_and, Bool.true_and, Bool.and_true, and_self, ht0, q, np, is, m6_neg, w_F, b_tst, gG_sF, e1, nw1, lq, n_FT]
    · have nw1 := fun Q => nw (sF (sG c (6 + p) (gG c (6 + p) - nI 1)) i 3 (nI t)) Q (by rw [gT_sF (by omega) (by decide), gT_sG0 (by omega)]; exact c2) (by rw [gT_sF (by omega) (by decide), gT_sG0 (by omega)]; exact c1) (by rw [gT_sF (by omega) (by decide), gT_sG0 (by omega)])
      have g0 : ¬ p < 0 := Nat.not_lt_zero p
      have g4 : ¬ 4 ≤ p := by omega
      have o : outP c (nI p) = sG c (6 + p) (gG c (6 + p) - nI 1) := by
        unfold outP
        rw [if_neg (nI_nm6 (by omega)), nI_clamp (by omega)]
      rw [hp] at np is ⊢
      rw [o]
      simp (disch := omega) only [sX2_takeIfInStock_0, sX2_takeIfInStock_1, sX2_takeIfInStock_2, sX2_takeIfInStock_5, sX2_takeIfInStock_8, sX2_takeIfInStock_9, sX2_takeIfInStock_10, sX2_takeIfInStock_13, sX2_takeIfInStock_14, sX2_takeIfInStock_15, sX2_takeIfInStock_18, sX2_takeIfInStock_21, sX2_takeIfInStock_24, sX2_takeIfInStock_25, sX2_takeIfInStock_26, sX2_takeIfInStock_27, sX2_takeIfInStock_30, sX2_takeIfInStock_31, sX2_takeIfInStock_32, sX2_takeIfInStock_35, sX2_takeIfInStock_36, sX2_takeIfInStock_37, sX2_takeIfInStock_40, sX2_takeIfInStock_41, sX2_takeIfInStock_42, sX2_takeIfInStock_45, sX2_takeIfInStock_46, sX2_takeIfInStock_49, sX2_takeIfInStock_50, sX2_takeIfInStock_51, sX2_takeIfInStock_52, sX2_takeIfInStock_53, sX2_takeIfInStock_54, sX2_takeIfInStock_55, sX2_takeIfInStock_56, sX2_takeIfInStock_57, sX2_takeIfInStock_60, sX2_takeIfInStock_61, sX2_takeIfInStock_62, sX2_takeIfInStock_65, sX2_takeIfInStock_66, sX2_takeIfInStock_67, sX2_takeIfInStock_68, sX2_takeIfInStock_71, sX2_takeIfInStock_74, sX2_takeIfInStock_77, sX2_takeIfInStock_78, sX2_takeIfInStock_81, sX2_takeIfInStock_82, sX2_takeIfInStock_83, sX2_takeIfInStock_84, sX2_takeIfInStock_87, sX2_takeIfInStock_88, hb, true_and, and_true, true_or, or_true, eq_self, ↓reduceIte, if_true, if_false, nI_add, nI_mul, inB_nI, nI_clamp, Nat.add_zero, eqI, ltI, leI, m6_ne, ne_m6, Nat.reduceEqDiff, reduceCtorEq, Nat.reduceLT, Nat.reduceLeDiff, Nat.reduceAdd, Nat.reduceMul, Nat.zero_add, Nat.mul_zero, nar_0, nar_1, nar_b, bI_t, bI_f, bI_0, bI_1, Bool.true_eq_false, Bool.false_eq_true, Bool.and_self, Bool.and_false, Bool.false_and, Bool.true_and, Bool.and_true, and_self, ht0, q, np, is, g0, g4, b_prt, w_prt, w_F, b_tst, gG_sF, gG_sGk, ne_eq, not_false_eq_true, e1, nw1, lq, n_FT]
theorem x_take_none (hB : IsM D b) (hR : Rfc f c nF nT) (hW : WF f nF nT) {i : Nat} : Runs MX2_takeIfInStock 0 [.ref b, .ref (b + 4 + i), .int m6, vJ] [] D (bM m b c) z Q = Q (.int (nI 0)) D (bM m b c) z := by
  have hb := hB
  simp only [IsM] at hb
  have q : inR m6 nT = false := inR_neg m6_neg
  have ht0 : ∀ x Q, Runs MX2_hasThing 0 [.ref b, .int x] [] D (bM m b c) z Q = Q (.int (bI (inR x nT))) D (bM m b c) z := fun x Q => x_hasThing hB hR hW
  simp (disch := omega) only [sX2_takeIfInStock_0, sX2_takeIfInStock_1, sX2_takeIfInStock_2, sX2_takeIfInStock_5, sX2_takeIfInStock_8, sX2_takeIfInStock_9, sX2_takeIfInStock_10, sX2_takeIfInStock_13, sX2_takeIfInStock_14, sX2_takeIfInStock_15, sX2_takeIfInStock_18, sX2_takeIfInStock_21, sX2_takeIfInStock_24, sX2_takeIfInStock_25, hb, true_and, and_true, true_or, or_true, eq_self, ↓reduceIte, if_true, if_false, nI_add, nI_mul, inB_nI, nI_clamp, Nat.add_zero, eqI, ltI, leI, m6_ne, ne_m6, Nat.reduceEqDiff, reduceCtorEq, Nat.reduceLT, Nat.reduceLeDiff, Nat.reduceAdd, Nat.reduceMul, Nat.zero_add, Nat.mul_zero, nar_0, nar_1, nar_b, bI_t, bI_f, bI_0, bI_1, Bool.true_eq_false, Bool.false_eq_true, Bool.and_self, Bool.and_false, Bool.false_and, Bool.true_and, Bool.and_true, and_self, ht0, q]
/-- the most waited so far -/
def mwF (f : Nat → Int32) (x : Int32) : Int32 := if x = m6 then m1 else gT f x.toNatClampNeg 3
theorem m1_lt_nI {w : Nat} (h : w < 100) : m1 < nI w := by
  rw [Int32.lt_iff_toInt_lt, nI_toInt (by omega)]
  have : m1.toInt = -1 := by decide +kernel
  omega
theorem l_longest (hB : IsM D b) (hR : Rfc f c nF nT) (hW : WF f nF nT) {i : Nat} (hi : i < nF) (hf : freeF f i = true) : ∀ k t, t + k = nT → Runs MX2_longestWaiting 8 [.ref b, .int (gF f i 0), .int (lgF f i t), .int (mwF f (lgF f i t)), .int (nI t)] [] D (bM m b c) z Q = Q (.int (lgF f i nT)) D (bM m b c) z := by
  have hb := hB
  simp only [IsM] at hb
  have h16 := hW.1.2.2.2
  have e3 : gG c 3 = nI nT := (hR.1 3 (by decide)).trans hW.1.2.2.1
  intro k
  induction k with
  | zero =>
    intro t ht
    obtain rfl : t = nT := by omega
    rw [sX2_longestWaiting_8]
    simp (disch := omega) only [sX2_longestWaiting_10, sX2_longestWaiting_11, sX2_longestWaiting_14, sX2_longestWaiting_17, sX2_longestWaiting_18, sX2_longestWaiting_19, sX2_longestWaiting_22, sX2_longestWaiting_24, sX2_longestWaiting_25, sX2_longestWaiting_26, sX2_longestWaiting_29, sX2_longestWaiting_32, sX2_longestWaiting_33, sX2_longestWaiting_36, sX2_longestWaiting_38, sX2_longestWaiting_39, sX2_longestWaiting_42, sX2_longestWaiting_43, sX2_longestWaiting_46, sX2_longestWaiting_48, sX2_longestWaiting_49, sX2_longestWaiting_50, sX2_longestWaiting_53, sX2_longestWaiting_55, sX2_longestWaiting_56, sX2_longestWaiting_59, sX2_longestWaiting_60, sX2_longestWaiting_63, sX2_longestWaiting_66, sX2_longestWaiting_67, hb, true_and, and_true, true_or, or_true, eq_self, ↓reduceIte, if_true, if_false, nI_add, nI_mul, inB_nI, nI_clamp, Nat.add_zero, eqI, ltI, leI, m6_ne, ne_m6, Nat.reduceEqDiff, reduceCtorEq, Nat.reduceLT, Nat.reduceLeDiff, Nat.reduceAdd, Nat.reduceMul, Nat.zero_add, Nat.mul_zero, nar_0, nar_1, nar_b, bI_t, bI_f, bI_0, bI_1, Bool.true_eq_false, Bool.false_eq_true, Bool.and_self, Bool.and_false, Bool.false_and, Bool.true_and, Bool.and_true, and_self, b_nT, e3, Nat.le_refl]
  | succ k ih =>
    intro t ht
    have hlt : ¬ nT ≤ t := by omega
    have ih := ih (t + 1) (by omega)
    have fr : ∀ Q, Runs MX2_isFor 0 [.ref b, .ref (b + 12 + 4 * t), .int (gF f i 0)] [] D (bM m b c) z Q = Q (.int (bI (forF f (gF f i 0) t))) D (bM m b c) z := fun Q => x_isFor hB hR hW (by omega)
    have ecan : canF f i t = forF f (gF f i 0) t := by
      unfold canF forF hasF
      rw [hf, Bool.true_and]
    have elg : lgF f i (t + 1) = if (canF f i t && (lgF f i t == m6 || decide (gT f (lgF f i t).toNatClampNeg 3 < gT f t 3))) = true then nI t else lgF f i t := rfl
    rw [elg, ecan] at ih
    have w3 := (hR.2.2 t (by omega)).2.1
    rw [sX2_longestWaiting_8]
    cases hc : forF f (gF f i 0) t
    · rw [hc] at fr ih
      rw [Bool.false_and, if_neg (by decide)] at ih
      simp (disch := omega) only [sX2_longestWaiting_10, sX2_longestWaiting_11, sX2_longestWaiting_14, sX2_longestWaiting_17, sX2_longestWaiting_18, sX2_longestWaiting_19, sX2_longestWaiting_22, sX2_longestWaiting_24, sX2_longestWaiting_25, sX2_longestWaiting_26, sX2_longestWaiting_29, sX2_longestWaiting_32, sX2_longestWaiting_33, sX2_longestWaiting_36, sX2_longestWaiting_38, sX2_longestWaiting_39, sX2_longestWaiting_42, sX2_longestWaiting_43, sX2_longestWaiting_46, sX2_longestWaiting_48, sX2_longestWaiting_49, sX2_longestWaiting_50, sX2_longestWaiting_53, sX2_longestWaiting_55, sX2_longestWaiting_56, sX2_longestWaiting_59, sX2_longestWaiting_60, sX2_longestWaiting_63, sX2_longestWaiting_66, sX2_longestWaiting_67, hb, true_and, and_true, true_or, or_true, eq_self, ↓reduceIte, if_true, if_false, nI_add, nI_mul, inB_nI, nI_clamp, Nat.add_zero, eqI, ltI, leI, m6_ne, ne_m6, Nat.reduceEqDiff, reduceCtorEq, Nat.reduceLT, Nat.reduceLeDiff, Nat.reduceAdd, Nat.reduceMul, Nat.zero_add, Nat.mul_zero, nar_0, nar_1, nar_b, bI_t, bI_f, bI_0, bI_1, Bool.true_eq_false, Bool.false_eq_true, Bool.and_self, Bool.and_false, Bool.false_and, Bool.true_and, Bool.and_true, and_self, b_nT, e3, hlt, fr, ih]
    · rw [hc] at fr ih
      rw [Bool.true_and] at ih
      have h0 : gT f t 0 = nI 0 := by
        have := canF_w (f := f) (i := i) (t := t) (by rw [ecan, hc])
        exact this.2.1
      rw [if_pos h0] at w3
      obtain ⟨_, _, _, _, _, hwt⟩ := hW.2.2.1 t (by omega)
      obtain ⟨wt, wt50, hwt⟩ := hwt h0
      have mw : mwF f (nI t) = gT f t 3 := by
        unfold mwF
        rw [if_neg (nI_nm6 (by omega)), nI_clamp (by omega)]
      by_cases hm : lgF f i t = m6
      · have e6 : (lgF f i t == m6) = true := by rw [hm]; exact beq_self_eq_true _
        rw [e6, Bool.true_or, if_pos rfl, mw] at ih
        have hmw : mwF f (lgF f i t) = m1 := by unfold mwF; rw [if_pos hm]
        have hg : ¬ nI wt ≤ m1 := fun q => Int32.lt_irrefl (Int32.lt_of_lt_of_le (m1_lt_nI (by omega)) q)
        rw [hmw]
        rw [hwt] at w3 ih
        simp (disch := omega) only [sX2_longestWaiting_10, sX2_longestWaiting_11, sX2_longestWaiting_14, sX2_longestWaiting_17, sX2_longestWaiting_18, sX2_longestWaiting_19, sX2_longestWaiting_22, sX2_longestWaiting_24, sX2_longestWaiting_25, sX2_longestWaiting_26, sX2_longestWaiting_29, sX2_longestWaiting_32, sX2_longestWaiting_33, sX2_longestWaiting_36, sX2_longestWaiting_38, sX2_longestWaiting_39, sX2_longestWaiting_42, sX2_longestWaiting_43, sX2_longestWaiting_46, sX2_longestWaiting_48, sX2_longestWaiting_49, sX2_longestWaiting_50, sX2_longestWaiting_53, sX2_longestWaiting_55, sX2_longestWaiting_56, sX2_longestWaiting_59, sX2_longestWaiting_60, sX2_longestWaiting_63, sX2_longestWaiting_66, sX2_longestWaiting_67, hb, true_and, and_true, true_or, or_true, eq_self, ↓reduceIte, if_true, if_false, nI_add, nI_mul, inB_nI, nI_clamp, Nat.add_zero, eqI, ltI, leI, m6_ne, ne_m6, Nat.reduceEqDiff, reduceCtorEq, Nat.reduceLT, Nat.reduceLeDiff, Nat.reduceAdd, Nat.reduceMul, Nat.zero_add, Nat.mul_zero, nar_0, nar_1, nar_b, bI_t, bI_f, bI_0, bI_1, Bool.true_eq_false, Bool.false_eq_true, Bool.and_self, Bool.and_false, Bool.false_and, Bool.true_and, Bool.and_true, and_self, b_nT, e3, hlt, fr, b_T3, w3, hg, ih]
      · have e6 : (lgF f i t == m6) = false := by simp [hm]
        have hmw : mwF f (lgF f i t) = gT f (lgF f i t).toNatClampNeg 3 := by unfold mwF; rw [if_neg hm]
        rw [e6, Bool.false_or] at ih
        by_cases hl : gT f (lgF f i t).toNatClampNeg 3 < gT f t 3
        · rw [decide_eq_true hl, if_pos rfl, mw] at ih
          have hl' : ¬ gT f t 3 ≤ gT f (lgF f i t).toNatClampNeg 3 := fun q => Int32.lt_irrefl (Int32.lt_of_lt_of_le hl q)
          rw [hmw]
          simp (disch := omega) only [sX2_longestWaiting_10, sX2_longestWaiting_11, sX2_longestWaiting_14, sX2_longestWaiting_17, sX2_longestWaiting_18, sX2_longestWaiting_19, sX2_longestWaiting_22, sX2_longestWaiting_24, sX2_longestWaiting_25, sX2_longestWaiting_26, sX2_longestWaiting_29, sX2_longestWaiting_32, sX2_longestWaiting_33, sX2_longestWaiting_36, sX2_longestWaiting_38, sX2_longestWaiting_39, sX2_longestWaiting_42, sX2_longestWaiting_43, sX2_longestWaiting_46, sX2_longestWaiting_48, sX2_longestWaiting_49, sX2_longestWaiting_50, sX2_longestWaiting_53, sX2_longestWaiting_55, sX2_longestWaiting_56, sX2_longestWaiting_59, sX2_longestWaiting_60, sX2_longestWaiting_63, sX2_longestWaiting_66, sX2_longestWaiting_67, hb, true_and, and_true, true_or, or_true, eq_self, ↓reduceIte, if_true, if_false, nI_add, nI_mul, inB_nI, nI_clamp, Nat.add_zero, eqI, ltI, leI, m6_ne, ne_m6, Nat.reduceEqDiff, reduceCtorEq, Nat.reduceLT, Nat.reduceLeDiff, Nat.reduceAdd, Nat.reduceMul, Nat.zero_add, Nat.mul_zero, nar_0, nar_1, nar_b, bI_t, bI_f, bI_0, bI_1, Bool.true_eq_false, Bool.false_eq_true, Bool.and_self, Bool.and_false, Bool.false_and, Bool.true_and, Bool.and_true, and_self, b_nT, e3, hlt, fr, b_T3, w3, hl', ih]
        · rw [decide_eq_false hl, if_neg (by decide), hmw] at ih
          have hl' : gT f t 3 ≤ gT f (lgF f i t).toNatClampNeg 3 := Int32.not_lt.mp hl
          rw [hmw]
          simp (disch := omega) only [sX2_longestWaiting_10, sX2_longestWaiting_11, sX2_longestWaiting_14, sX2_longestWaiting_17, sX2_longestWaiting_18, sX2_longestWaiting_19, sX2_longestWaiting_22, sX2_longestWaiting_24, sX2_longestWaiting_25, sX2_longestWaiting_26, sX2_longestWaiting_29, sX2_longestWaiting_32, sX2_longestWaiting_33, sX2_longestWaiting_36, sX2_longestWaiting_38, sX2_longestWaiting_39, sX2_longestWaiting_42, sX2_longestWaiting_43, sX2_longestWaiting_46, sX2_longestWaiting_48, sX2_longestWaiting_49, sX2_longestWaiting_50, sX2_longestWaiting_53, sX2_longestWaiting_55, sX2_longestWaiting_56, sX2_longestWaiting_59, sX2_longestWaiting_60, sX2_longestWaiting_63, sX2_longestWaiting_66, sX2_longestWaiting_67, hb, true_and, and_true, true_or, or_true, eq_self, ↓reduceIte, if_true, if_false, nI_add, nI_mul, inB_nI, nI_clamp, Nat.add_zero, eqI, ltI, leI, m6_ne, ne_m6, Nat.reduceEqDiff, reduceCtorEq, Nat.reduceLT, Nat.reduceLeDiff, Nat.reduceAdd, Nat.reduceMul, Nat.zero_add, Nat.mul_zero, nar_0, nar_1, nar_b, bI_t, bI_f, bI_0, bI_1, Bool.true_eq_false, Bool.false_eq_true, Bool.and_self, Bool.and_false, Bool.false_and, Bool.true_and, Bool.and_true, and_self, b_nT, e3, hlt, fr, b_T3, w3, hl', ih]
theorem x_longest (hB : IsM D b) (hR : Rfc f c nF nT) (hW : WF f nF nT) {i : Nat} (hi : i < nF) (hf : freeF f i = true) : Runs MX2_longestWaiting 0 [.ref b, .int (gF f i 0), vJ, vJ, vJ] [] D (bM m b c) z Q = Q (.int (lgF f i nT)) D (bM m b c) z := by
  have l := l_longest (D := D) (m := m) (z := z) (Q := Q) hB hR hW hi hf nT 0 (by omega)
  have e0 : lgF f i 0 = m6 := rfl
  have e1 : mwF f m6 = m1 := if_pos rfl
  rw [e0, e1] at l
  simp (disch := omega) only [sX2_longestWaiting_0, sX2_longestWaiting_2, sX2_longestWaiting_3, sX2_longestWaiting_4, sX2_longestWaiting_5, sX2_longestWaiting_6, true_and, and_true, true_or, or_true, eq_self, ↓reduceIte, if_true, if_false, nI_add, nI_mul, inB_nI, nI_clamp, Nat.add_zero, eqI, ltI, leI, m6_ne, ne_m6, Nat.reduceEqDiff, reduceCtorEq, Nat.reduceLT, Nat.reduceLeDiff, Nat.reduceAdd, Nat.reduceMul, Nat.zero_add, Nat.mul_zero, nar_0, nar_1, nar_b, bI_t, bI_f, bI_0, bI_1, Bool.true_eq_false, Bool.false_eq_true, Bool.and_self, Bool.and_false, Bool.false_and, Bool.true_and, Bool.and_true, and_self, l]
end CLS4
