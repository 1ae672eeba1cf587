/-! the law's look at the slots to come -/
theorem LB_lM {m : vMM} {a : Nat} {f : Nat → Int32} : LB (lM m a f) a f := by
  funext x k
  unfold lM
  by_cases h : ixL a x k < 346
  · simp only [if_pos h]
  · simp only [if_neg h]
theorem zero_lM {m : vMM} {a : Nat} {f : Nat → Int32} : lM m a (zeroF f) = lM m a f := by
  unfold zeroF
  rw [lM_c (by decide), lM_c (by decide), lM_c (by decide)]
def CP (M : vMM) (g : Nat → Int32) (nF nT : Nat) : Prop := LB M 858 g ∧ Pk M 860 g nT ∧ WF g nF nT
section WOV
variable {D : vDD} {M : vMM} {f g : Nat → Int32} {z : vZZ} {nF nT L N A i : Nat} {ch : Nat → Nat} {x : Int32}
theorem CP.zero (P : CP M g nF nT) (h7 : nT ≤ 7) : CP M (zeroF g) nF nT := by
  obtain ⟨a, b, c⟩ := P
  refine ⟨zero_lM.trans a, b.st (fun t ht => ⟨zero_T (by omega) (by decide), fun k _ h => zero_T (by omega) h⟩), c.zero⟩
theorem CP.cong (P : CP M g nF nT) {M' : vMM} (e : ∀ a, 853 ≤ a → M' a = M a) : CP M' g nF nT := by
  obtain ⟨a, b, c⟩ := P
  exact ⟨a.cong (fun x hx _ => e x (by omega)), b.cong (fun t s _ _ => by rw [e 860 (by decide)]), c⟩
theorem CP.slot (P : CP M g nF nT) (S : ST D M f nF nT L ch A) : ∃ c b M1, cntS (slotF g) (nI 2) nT = cntS g (nI 2) nT + c ∧ cntS (slotF g) (nI 3) nT = cntS g (nI 3) nT + b ∧ CP M1 (slotF g) nF nT ∧ ST D M1 f nF nT L ch A ∧
    ∀ Q, Runs ML_slot 0 [.ref 858, .ref 859, .ref 860, vJ, vJ, vJ, vJ, vJ] [] D M z Q = Q (.int (nI (c + 100 * b))) D M1 z := by
  obtain ⟨a, p, w⟩ := P
  have h5 := S.1.2.2.2.2.1
  have h7 := S.1.2.2.2.2.2
  obtain ⟨c, b, e1, e2, y⟩ := y_slot (D := D) (m := M) (z := z) (a := 858) S.2.2.2.1 w h5 h7 p
  rw [show lM M 858 g = M from a] at y
  refine ⟨c, b, lM M 858 (slotF g), e1, e2, ⟨LB_lM, ?_, w.slot⟩, S.mem (fun x hx => l_o (by omega)), y⟩
  exact (p.st (StE.slot w)).cong (fun t s ht hs => l_s (a := 858) hs)
theorem ST.copy (S : ST D M f nF nT L ch A) : ∃ M1, CP M1 f nF nT ∧ ST D M1 f nF nT L ch A ∧ ∀ Q, Runs ML_copy 0 [.ref 853, .ref 854, .ref 855, .ref 858, .ref 859, .ref 860, vJ] [] D M z Q = Q vJ D M1 z := by
  have S0 := S
  obtain ⟨⟨C, hL, hP, hD, h5, h7⟩, hK⟩ := S
  obtain ⟨M1, a, b, e, y⟩ := z_copy (D := D) (z := z) (a := 853) (b := 858) hL (by decide) hD hK.2.2.1 h7 hP
  exact ⟨M1, ⟨a, b, C.wf⟩, S0.mem (fun x hx => e x (by omega)), y⟩
theorem l_Wo3 {w10 w11 w12 v16 v17 v18 v19 v20 : Value} {n : Nat} (hn : n < 100) : ∀ k i c b (M : vMM), i + k = n → ST D M f nF nT L ch A → CP M (slotsF i f) nF nT → cntS (slotsF i f) (nI 2) nT = cntS f (nI 2) nT + c → cntS (slotsF i f) (nI 3) nT = cntS f (nI 3) nT + b →
    ∃ c' b' M1, ST D M1 f nF nT L ch A ∧ CP M1 (slotsF n f) nF nT ∧ cntS (slotsF n f) (nI 2) nT = cntS f (nI 2) nT + c' ∧ cntS (slotsF n f) (nI 3) nT = cntS f (nI 3) nT + b' ∧ ∀ Q, Runs ML_would 202 [.ref 1, .int x, .ref 853, .ref 854, .ref 855, .ref 856, .ref 857, .ref 858, .ref 859, .ref 860, w10, w11, w12, .int (nI n), .int (nI (c + 100 * b)), .int (nI i), v16, v17, v18, v19, v20] [] D M z Q = Runs ML_would 229 [.ref 1, .int x, .ref 853, .ref 854, .ref 855, .ref 856, .ref 857, .ref 858, .ref 859, .ref 860, w10, w11, w12, .int (nI n), .int (nI (c' + 100 * b')), .int (nI n), v16, v17, v18, v19, v20] [] D M1 z Q := by
  intro k
  induction k with
  | zero =>
    intro i c b M hi S P hc hb
    obtain rfl : i = n := by omega
    refine ⟨c, b, M, S, P, hc, hb, fun Q => ?_⟩
    rw [sL_would_202]
    simp (disch := omega) only [sL_would_204, sL_would_206, true_and, and_true, true_or, or_true, eq_self, ↓reduceIte, if_true, if_false, nI_add, nI_mul, inB_nI, nI_clamp, Nat.add_zero, eqI, ltI, leI, m6_ne, ne_m6, Nat.reduceEqDiff, reduceCtorEq, Nat.reduceLT, Nat.reduceLeDiff, Nat.reduceAdd, Nat.reduceMul, Nat.zero_add, Nat.mul_zero, nar_0, nar_1, nar_b, bI_t, bI_f, bI_0, bI_1, Bool.true_eq_false, Bool.false_eq_true, Bool.and_self, Bool.and_false, Bool.false_and, Bool.true_and, Bool.and_true, and_self, Nat.le_refl]
  | succ k ih =>
    intro i c b M hi S P hc hb
    have hlt : ¬ n ≤ i := by omega
    obtain ⟨c1, b1, M1, e1, e2, P1, S1, y1⟩ := P.slot (z := z) S
    obtain ⟨c', b', M2, r1, r2, r3, r4, r5⟩ := ih (i + 1) (c + c1) (b + b1) M1 (by omega) S1 P1 (by rw [show slotsF (i + 1) f = slotF (slotsF i f) from rfl, e1, hc, Nat.add_assoc]) (by rw [show slotsF (i + 1) f = slotF (slotsF i f) from rfl, e2, hb, Nat.add_assoc])
    refine ⟨c', b', M2, r1, r2, r3, r4, fun Q => ?_⟩
    rw [show c + c1 + 100 * (b + b1) = c + 100 * b + (c1 + 100 * b1) by omega] at r5
    rw [sL_would_202]
    simp (disch := omega) only [sL_would_204, sL_would_206, sL_would_209, sL_would_211, sL_would_213, sL_would_215, sL_would_217, sL_would_220, sL_would_221, sL_would_223, sL_would_226, true_and, and_true, true_or, or_true, eq_self, ↓reduceIte, if_true, if_false, nI_add, nI_mul, inB_nI, nI_clamp, Nat.add_zero, eqI, ltI, leI, m6_ne, ne_m6, Nat.reduceEqDiff, reduceCtorEq, Nat.reduceLT, Nat.reduceLeDiff, Nat.reduceAdd, Nat.reduceMul, Nat.zero_add, Nat.mul_zero, nar_0, nar_1, nar_b, bI_t, bI_f, bI_0, bI_1, Bool.true_eq_false, Bool.false_eq_true, Bool.and_self, Bool.and_false, Bool.false_and, Bool.true_and, Bool.and_true, and_self, hlt, y1, r5]
theorem z_wou3 (S : ST D M f nF nT L ch A) (hz : 861 ≤ z.1) {w10 w11 w12 w13 w14 v15 v16 v17 v18 v19 v20 : Value} : ∃ D1 M1 w13' w14' w15, ST D1 M1 f nF nT L ch A ∧ ∀ Q, Runs ML_would 173 [.ref 1, .int x, .ref 853, .ref 854, .ref 855, .ref 856, .ref 857, .ref 858, .ref 859, .ref 860, w10, w11, w12, w13, w14, v15, v16, v17, v18, v19, v20] [] D M z Q = Runs ML_would 279 [.ref 1, .int x, .ref 853, .ref 854, .ref 855, .ref 856, .ref 857, .ref 858, .ref 859, .ref 860, w10, w11, w12, w13', w14', w15, v16, v17, v18, v19, v20] [] D1 M1 z Q := by
  obtain ⟨M1, P1, S1, y1⟩ := S.copy (z := z)
  have h7 := S.1.2.2.2.2.2
  have hl := fun Q => y_low (D := D) (m := M) (z := z) (Q := Q) (v := x) (n := 60) (by decide) (by decide)
  have hu := lwN_lt x (n := 60) (by decide)
  generalize lwN x 60 = u at hl hu
  obtain ⟨c, b, M2, S2, P2, e1, e2, y2⟩ := l_Wo3 (x := x) (z := z) (w10 := w10) (w11 := w11) (w12 := w12) (v16 := v16) (v17 := v17) (v18 := v18) (v19 := v19) (v20 := v20) (n := 1 + u) (by omega) (1 + u) 0 0 0 M1 (by omega) S1 P1 rfl rfl
  obtain ⟨D3, M3, S3, m3, y3⟩ := S2.look (z := z) (o_ifPassed S2.1.1 (k := 1 + u) (w := 0) (by omega) (by omega) (by decide)) hz
  obtain ⟨D4, M4, S4, m4, y4⟩ := S3.look (z := z) (o_ifPassed S3.1.1 (k := 1 + u) (w := 1) (by omega) (by omega) (by decide)) hz
  obtain ⟨D5, M5, S5, m5, y5⟩ := S4.look (z := z) (o_ifPassed S4.1.1 (k := 1 + u) (w := 2) (by omega) (by omega) (by decide)) hz
  rw [if_pos rfl, e1, nI_sub _ _ (by omega), Nat.add_sub_cancel_left] at y3
  rw [if_neg (by decide), if_pos rfl, e2, nI_sub _ _ (by omega), Nat.add_sub_cancel_left] at y4
  rw [if_neg (by decide), if_neg (by decide)] at y5
  have bc := cntS_le (slotsF (1 + u) f) (nI 2) nT
  have bb := cntS_le (slotsF (1 + u) f) (nI 3) nT
  have P5 := ((P2.cong m3).cong m4).cong m5
  have r1 : M5 858 5 = gG (slotsF (1 + u) f) 5 := P5.1.rq (by decide)
  have r2 : M5 853 5 = gG f 5 := S5.1.2.1.rq (by decide)
  have d1 := S5.1.2.2.2.1
  have d2 := S5.2.2.2.1
  have k2 := S2.k6
  have k3 := S3.k6
  have k4 := S4.k6
  simp only [IsL, Nat.reduceAdd] at d1 d2
  have er : nI (c + 100 * b) - nI (b * 100) = nI c := by
    rw [nI_sub _ _ (by omega)]
    congr 1
    omega
  have ed : nI (c + 100 * b) / nI 100 = nI b := by
    rw [idivI _ _ (by omega) (by decide)]
    congr 1
    omega
  rw [show nI (0 + 100 * 0) = nI 0 from rfl] at y2
  refine ⟨D5, M5, .int (nI (1 + u)), .int (nI (c + 100 * b)), .int (nI (1 + u)), S5, fun Q => ?_⟩
  simp (disch := omega) only [sL_would_173, sL_would_174, sL_would_175, sL_would_177, sL_would_180, sL_would_181, sL_would_183, sL_would_184, sL_would_186, sL_would_187, sL_would_188, sL_would_190, sL_would_192, sL_would_194, sL_would_196, sL_would_199, sL_would_200, hl, y1, true_and, and_true, true_or, or_true, eq_self, ↓reduceIte, if_true, if_false, nI_add, nI_mul, inB_nI, nI_clamp, Nat.add_zero, eqI, ltI, leI, m6_ne, ne_m6, Nat.reduceEqDiff, reduceCtorEq, Nat.reduceLT, Nat.reduceLeDiff, Nat.reduceAdd, Nat.reduceMul, Nat.zero_add, Nat.mul_zero, nar_0, nar_1, nar_b, bI_t, bI_f, bI_0, bI_1, Bool.true_eq_false, Bool.false_eq_true, Bool.and_self, Bool.and_false, Bool.false_and, Bool.true_and, Bool.and_true, and_self]
  simp (disch := omega) only [y2]
  simp (disch := omega) only [sL_would_229, sL_would_230, sL_would_232, sL_would_233, sL_would_236, sL_would_238, sL_would_240, sL_would_241, sL_would_244, sL_would_245, sL_would_247, sL_would_248, sL_would_251, sL_would_253, sL_would_255, sL_would_256, sL_would_259, sL_would_260, sL_would_262, sL_would_263, sL_would_266, sL_would_268, sL_would_269, sL_would_270, sL_would_271, sL_would_272, sL_would_273, sL_would_274, k2, k3, k4, y3, y4, y5, er, ed, n100, not_false_eq_true, d1, d2, r1, r2, true_and, and_true, true_or, or_true, eq_self, ↓reduceIte, if_true, if_false, nI_add, nI_mul, inB_nI, nI_clamp, Nat.add_zero, eqI, ltI, leI, m6_ne, ne_m6, Nat.reduceEqDiff, reduceCtorEq, Nat.reduceLT, Nat.reduceLeDiff, Nat.reduceAdd, Nat.reduceMul, Nat.zero_add, Nat.mul_zero, nar_0, nar_1, nar_b, bI_t, bI_f, bI_0, bI_1, Bool.true_eq_false, Bool.false_eq_true, Bool.and_self, Bool.and_false, Bool.false_and, Bool.true_and, Bool.and_true, and_self]
theorem l_Wo4 {w10 w11 w12 w13 w14 v16 v17 v18 v19 v20 : Value} (hN5 : N = 500) : ∀ k i g (M : vMM), i + k = N → ST D M f nF nT L ch A → CP M g nF nT →
    ∃ n M1, n ≤ 501 ∧ (uF nT k i g).1 = (if 501 ≤ n then m6 else nI n) ∧ ST D M1 f nF nT L ch A ∧ ∀ Q, Runs ML_would 295 [.ref 1, .int x, .ref 853, .ref 854, .ref 855, .ref 856, .ref 857, .ref 858, .ref 859, .ref 860, w10, w11, w12, w13, w14, .int (nI i), v16, v17, v18, v19, v20] [] D M z Q = Runs ML_would 339 [.ref 1, .int x, .ref 853, .ref 854, .ref 855, .ref 856, .ref 857, .ref 858, .ref 859, .ref 860, w10, w11, w12, w13, w14, .int (nI n), v16, v17, v18, v19, v20] [] D M1 z Q := by
  have one : ∀ i g (M : vMM), i ≤ 500 → ST D M f nF nT L ch A → CP M g nF nT → (ovB g nT = true → ∀ Q, Runs ML_would 295 [.ref 1, .int x, .ref 853, .ref 854, .ref 855, .ref 856, .ref 857, .ref 858, .ref 859, .ref 860, w10, w11, w12, w13, w14, .int (nI i), v16, v17, v18, v19, v20] [] D M z Q = Runs ML_would 339 [.ref 1, .int x, .ref 853, .ref 854, .ref 855, .ref 856, .ref 857, .ref 858, .ref 859, .ref 860, w10, w11, w12, w13, w14, .int (nI i), v16, v17, v18, v19, v20] [] D M z Q) ∧
      (ovB g nT = false → ∃ M1, CP M1 (slotF g) nF nT ∧ ST D M1 f nF nT L ch A ∧ ∀ Q, Runs ML_would 295 [.ref 1, .int x, .ref 853, .ref 854, .ref 855, .ref 856, .ref 857, .ref 858, .ref 859, .ref 860, w10, w11, w12, w13, w14, .int (nI i), v16, v17, v18, v19, v20] [] D M z Q = Runs ML_would 295 [.ref 1, .int x, .ref 853, .ref 854, .ref 855, .ref 856, .ref 857, .ref 858, .ref 859, .ref 860, w10, w11, w12, w13, w14, .int (nI (i + 1)), v16, v17, v18, v19, v20] [] D M1 z Q) := by
    intro i g M hi S P
    have hlt : ¬ 501 ≤ i := by omega
    have h7 := S.1.2.2.2.2.2
    have ys := fun h Q => y_states (D := D) (m := M) (z := z) (Q := Q) (a := 858) S.2.2.2.1 P.2.2 h7 (h := h)
    simp only [show lM M 858 g = M from P.1, Nat.reduceAdd] at ys
    have c0 := cntS_le g (nI 0) nT
    have c1 := cntS_le g (nI 1) nT
    constructor
    · intro ho Q
      unfold ovB at ho
      rw [beq_iff_eq] at ho
      have h0 : cntS g (nI 0) nT + cntS g (nI 1) nT ≤ 0 := by
        have := (leI (cntS g (nI 0) nT + cntS g (nI 1) nT) 0 (by omega) (by decide)).mp (by rw [ho]; exact Int32.le_refl _)
        exact this
      rw [sL_would_295]
      simp (disch := omega) only [sL_would_297, sL_would_300, sL_would_303, sL_would_304, sL_would_306, sL_would_308, sL_would_311, sL_would_312, sL_would_314, sL_would_316, sL_would_319, sL_would_320, sL_would_323, sL_would_325, sL_would_327, sL_would_329, sL_would_332, sL_would_333, sL_would_336, true_and, and_true, true_or, or_true, eq_self, ↓reduceIte, if_true, if_false, nI_add, nI_mul, inB_nI, nI_clamp, Nat.add_zero, eqI, ltI, leI, m6_ne, ne_m6, Nat.reduceEqDiff, reduceCtorEq, Nat.reduceLT, Nat.reduceLeDiff, Nat.reduceAdd, Nat.reduceMul, Nat.zero_add, Nat.mul_zero, nar_0, nar_1, nar_b, bI_t, bI_f, bI_0, bI_1, Bool.true_eq_false, Bool.false_eq_true, Bool.and_self, Bool.and_false, Bool.false_and, Bool.true_and, Bool.and_true, and_self, hlt, ys, h0]
    · intro ho
      obtain ⟨c, b, M1, -, -, P1, S1, y1⟩ := P.slot (z := z) S
      refine ⟨M1, P1, S1, fun Q => ?_⟩
      unfold ovB at ho
      rw [beq_eq_false_iff_ne] at ho
      have h0 : ¬ cntS g (nI 0) nT + cntS g (nI 1) nT ≤ 0 := by
        intro q
        exact ho (by rw [Nat.le_zero.mp q])
      rw [sL_would_295]
      simp (disch := omega) only [sL_would_297, sL_would_300, sL_would_303, sL_would_304, sL_would_306, sL_would_308, sL_would_311, sL_would_312, sL_would_314, sL_would_316, sL_would_319, sL_would_320, sL_would_323, sL_would_325, sL_would_327, sL_would_329, sL_would_332, sL_would_333, sL_would_336, true_and, and_true, true_or, or_true, eq_self, ↓reduceIte, if_true, if_false, nI_add, nI_mul, inB_nI, nI_clamp, Nat.add_zero, eqI, ltI, leI, m6_ne, ne_m6, Nat.reduceEqDiff, reduceCtorEq, Nat.reduceLT, Nat.reduceLeDiff, Nat.reduceAdd, Nat.reduceMul, Nat.zero_add, Nat.mul_zero, nar_0, nar_1, nar_b, bI_t, bI_f, bI_0, bI_1, Bool.true_eq_false, Bool.false_eq_true, Bool.and_self, Bool.and_false, Bool.false_and, Bool.true_and, Bool.and_true, and_self, hlt, ys, h0, y1]
  intro k
  induction k with
  | zero =>
    intro i g M hi S P
    obtain ⟨y1, y2⟩ := one i g M (by omega) S P
    cases ho : ovB g nT
    · obtain ⟨M1, P1, S1, y⟩ := y2 ho
      refine ⟨501, M1, Nat.le_refl _, ?_, S1, fun Q => ?_⟩
      · rw [if_pos (Nat.le_refl _)]
        show (if ovB g nT = true then nI i else m6) = m6
        rw [ho]
        rfl
      · rw [y, show i + 1 = 501 by omega, sL_would_295]
        simp (disch := omega) only [sL_would_297, sL_would_300, true_and, and_true, true_or, or_true, eq_self, ↓reduceIte, if_true, if_false, nI_add, nI_mul, inB_nI, nI_clamp, Nat.add_zero, eqI, ltI, leI, m6_ne, ne_m6, Nat.reduceEqDiff, reduceCtorEq, Nat.reduceLT, Nat.reduceLeDiff, Nat.reduceAdd, Nat.reduceMul, Nat.zero_add, Nat.mul_zero, nar_0, nar_1, nar_b, bI_t, bI_f, bI_0, bI_1, Bool.true_eq_false, Bool.false_eq_true, Bool.and_self, Bool.and_false, Bool.false_and, Bool.true_and, Bool.and_true, and_self, Nat.le_refl]
    · refine ⟨i, M, by omega, ?_, S, y1 ho⟩
      rw [if_neg (by omega)]
      show (if ovB g nT = true then nI i else m6) = nI i
      rw [ho]
      rfl
  | succ k ih =>
    intro i g M hi S P
    obtain ⟨y1, y2⟩ := one i g M (by omega) S P
    cases ho : ovB g nT
    · obtain ⟨M1, P1, S1, y⟩ := y2 ho
      obtain ⟨n, M2, r1, r2, r3, r4⟩ := ih (i + 1) (slotF g) M1 (by omega) S1 P1
      refine ⟨n, M2, r1, ?_, r3, fun Q => by rw [y, r4]⟩
      show (if ovB g nT = true then (nI i, g) else uF nT k (i + 1) (slotF g)).1 = _
      rw [ho, if_neg (by decide)]
      exact r2
    · refine ⟨i, M, by omega, ?_, S, y1 ho⟩
      rw [if_neg (by omega)]
      show (if ovB g nT = true then (nI i, g) else uF nT k (i + 1) (slotF g)).1 = nI i
      rw [ho, if_pos rfl]
theorem z_wou4 (S : ST D M f nF nT L ch A) (hN5 : N = 500) (hz : 861 ≤ z.1) {w10 w11 w12 w13 w14 v15 v16 v17 v18 v19 v20 : Value} : ∃ D1 M1 w15, ST D1 M1 f nF nT L ch A ∧ ∀ Q, Runs ML_would 279 [.ref 1, .int x, .ref 853, .ref 854, .ref 855, .ref 856, .ref 857, .ref 858, .ref 859, .ref 860, w10, w11, w12, w13, w14, v15, v16, v17, v18, v19, v20] [] D M z Q = Runs ML_would 363 [.ref 1, .int x, .ref 853, .ref 854, .ref 855, .ref 856, .ref 857, .ref 858, .ref 859, .ref 860, w10, w11, w12, w13, w14, w15, v16, v17, v18, v19, v20] [] D1 M1 z Q := by
  obtain ⟨M1, P1, S1, y1⟩ := S.copy (z := z)
  obtain ⟨n, M2, hn, e, S2, y2⟩ := l_Wo4 (x := x) (z := z) (w10 := w10) (w11 := w11) (w12 := w12) (w13 := w13) (w14 := w14) (v16 := v16) (v17 := v17) (v18 := v18) (v19 := v19) (v20 := v20) hN5 N 0 f M1 (by omega) S1 P1
  obtain ⟨D3, M3, S3, m3, y3⟩ := S2.look (z := z) (o_untilOver S2.1.1 hN5) hz
  have k2 := S2.k6
  rw [e] at y3
  refine ⟨D3, M3, .int (nI n), S3, fun Q => ?_⟩
  simp (disch := omega) only [sL_would_279, sL_would_280, sL_would_281, sL_would_283, sL_would_285, sL_would_287, sL_would_289, sL_would_292, sL_would_293, y1, true_and, and_true, true_or, or_true, eq_self, ↓reduceIte, if_true, if_false, nI_add, nI_mul, inB_nI, nI_clamp, Nat.add_zero, eqI, ltI, leI, m6_ne, ne_m6, Nat.reduceEqDiff, reduceCtorEq, Nat.reduceLT, Nat.reduceLeDiff, Nat.reduceAdd, Nat.reduceMul, Nat.zero_add, Nat.mul_zero, nar_0, nar_1, nar_b, bI_t, bI_f, bI_0, bI_1, Bool.true_eq_false, Bool.false_eq_true, Bool.and_self, Bool.and_false, Bool.false_and, Bool.true_and, Bool.and_true, and_self]
  rw [y2]
  by_cases h : 501 ≤ n
  · rw [if_pos h] at y3
    simp (disch := omega) only [sL_would_339, sL_would_340, sL_would_343, sL_would_345, sL_would_348, sL_would_351, sL_would_353, sL_would_356, sL_would_358, k2, y3, h, true_and, and_true, true_or, or_true, eq_self, ↓reduceIte, if_true, if_false, nI_add, nI_mul, inB_nI, nI_clamp, Nat.add_zero, eqI, ltI, leI, m6_ne, ne_m6, Nat.reduceEqDiff, reduceCtorEq, Nat.reduceLT, Nat.reduceLeDiff, Nat.reduceAdd, Nat.reduceMul, Nat.zero_add, Nat.mul_zero, nar_0, nar_1, nar_b, bI_t, bI_f, bI_0, bI_1, Bool.true_eq_false, Bool.false_eq_true, Bool.and_self, Bool.and_false, Bool.false_and, Bool.true_and, Bool.and_true, and_self]
  · rw [if_neg h] at y3
    simp (disch := omega) only [sL_would_339, sL_would_340, sL_would_343, sL_would_345, sL_would_348, sL_would_351, sL_would_353, sL_would_356, sL_would_358, k2, y3, h, true_and, and_true, true_or, or_true, eq_self, ↓reduceIte, if_true, if_false, nI_add, nI_mul, inB_nI, nI_clamp, Nat.add_zero, eqI, ltI, leI, m6_ne, ne_m6, Nat.reduceEqDiff, reduceCtorEq, Nat.reduceLT, Nat.reduceLeDiff, Nat.reduceAdd, Nat.reduceMul, Nat.zero_add, Nat.mul_zero, nar_0, nar_1, nar_b, bI_t, bI_f, bI_0, bI_1, Bool.true_eq_false, Bool.false_eq_true, Bool.and_self, Bool.and_false, Bool.false_and, Bool.true_and, Bool.and_true, and_self]
/-! the part that helps most -/
theorem l_Wo5 {w10 w11 w12 w13 w14 w15 v16 v17 v18 : Value} (hN5 : N = 500) {g0 : Nat → Int32} : ∀ k i d (M : vMM), i + k = N → ST D M f nF nT L ch A → CP M (slotsF i g0) nF nT → cntS (slotsF i g0) (nI 2) nT = cntS g0 (nI 2) nT + d →
    ∃ d' M1, ST D M1 f nF nT L ch A ∧ cntS (slotsF N g0) (nI 2) nT = cntS g0 (nI 2) nT + d' ∧ ∀ Q, Runs ML_would 408 [.ref 1, .int x, .ref 853, .ref 854, .ref 855, .ref 856, .ref 857, .ref 858, .ref 859, .ref 860, w10, w11, w12, w13, w14, w15, v16, v17, v18, .int (nI d), .int (nI i)] [] D M z Q = Runs ML_would 439 [.ref 1, .int x, .ref 853, .ref 854, .ref 855, .ref 856, .ref 857, .ref 858, .ref 859, .ref 860, w10, w11, w12, w13, w14, w15, v16, v17, v18, .int (nI d'), .int (nI N)] [] D M1 z Q := by
  intro k
  induction k with
  | zero =>
    intro i d M hi S P hc
    obtain rfl : i = N := by omega
    refine ⟨d, M, S, hc, fun Q => ?_⟩
    have h : 500 ≤ i := by omega
    rw [sL_would_408]
    simp (disch := omega) only [sL_would_410, sL_would_413, true_and, and_true, true_or, or_true, eq_self, ↓reduceIte, if_true, if_false, nI_add, nI_mul, inB_nI, nI_clamp, Nat.add_zero, eqI, ltI, leI, m6_ne, ne_m6, Nat.reduceEqDiff, reduceCtorEq, Nat.reduceLT, Nat.reduceLeDiff, Nat.reduceAdd, Nat.reduceMul, Nat.zero_add, Nat.mul_zero, nar_0, nar_1, nar_b, bI_t, bI_f, bI_0, bI_1, Bool.true_eq_false, Bool.false_eq_true, Bool.and_self, Bool.and_false, Bool.false_and, Bool.true_and, Bool.and_true, and_self, h]
  | succ k ih =>
    intro i d M hi S P hc
    have hlt : ¬ 500 ≤ i := by omega
    have h7 := S.1.2.2.2.2.2
    obtain ⟨c, b, M1, e1, e2, P1, S1, y1⟩ := P.slot (z := z) S
    obtain ⟨d', M2, r1, r2, r3⟩ := ih (i + 1) (d + c) M1 (by omega) S1 P1 (by rw [show slotsF (i + 1) g0 = slotF (slotsF i g0) from rfl, e1, hc, Nat.add_assoc])
    have c1 := cntS_le (slotF (slotsF i g0)) (nI 2) nT
    have c2 := cntS_le (slotF (slotsF i g0)) (nI 3) nT
    have er : nI (c + 100 * b) - nI (c + 100 * b) / nI 100 * nI 100 = nI c := by
      rw [iremI _ _ (by omega) (by decide)]
      congr 1
      omega
    refine ⟨d', M2, r1, r2, fun Q => ?_⟩
    rw [sL_would_408]
    simp (disch := omega) only [sL_would_410, sL_would_413, sL_would_416, sL_would_418, sL_would_420, sL_would_422, sL_would_424, true_and, and_true, true_or, or_true, eq_self, ↓reduceIte, if_true, if_false, nI_add, nI_mul, inB_nI, nI_clamp, Nat.add_zero, eqI, ltI, leI, m6_ne, ne_m6, Nat.reduceEqDiff, reduceCtorEq, Nat.reduceLT, Nat.reduceLeDiff, Nat.reduceAdd, Nat.reduceMul, Nat.zero_add, Nat.mul_zero, nar_0, nar_1, nar_b, bI_t, bI_f, bI_0, bI_1, Bool.true_eq_false, Bool.false_eq_true, Bool.and_self, Bool.and_false, Bool.false_and, Bool.true_and, Bool.and_true, and_self, hlt, y1]
    simp (disch := omega) only [sL_would_427, sL_would_429, sL_would_430, sL_would_431, sL_would_433, sL_would_436, er, n100, not_false_eq_true, nI_add]
    simp (disch := omega) only [true_and, and_true, true_or, or_true, eq_self, ↓reduceIte, if_true, if_false, nI_add, nI_mul, inB_nI, nI_clamp, Nat.add_zero, eqI, ltI, leI, m6_ne, ne_m6, Nat.reduceEqDiff, reduceCtorEq, Nat.reduceLT, Nat.reduceLeDiff, Nat.reduceAdd, Nat.reduceMul, Nat.zero_add, Nat.mul_zero, nar_0, nar_1, nar_b, bI_t, bI_f, bI_0, bI_1, Bool.true_eq_false, Bool.false_eq_true, Bool.and_self, Bool.and_false, Bool.false_and, Bool.true_and, Bool.and_true, and_self, r3, not_false_eq_true]
theorem l_Wo6 {w10 w11 w12 w13 w14 w15 : Value} (hN5 : N = 500) : ∀ j (M : vMM) (pa mo : Int32) (v19 v20 : Value), j ≤ 4 → ST D M f nF nT L ch A → ((j = 4 ∧ mo = m1) ∨ ∃ k, Fst (bpN N f) j 4 k ∧ pa = nI k ∧ mo = nI (bpN N f k)) →
    ∃ M1 k w19 w20, Fst (bpN N f) 0 4 k ∧ ST D M1 f nF nT L ch A ∧ ∀ Q, Runs ML_would 372 [.ref 1, .int x, .ref 853, .ref 854, .ref 855, .ref 856, .ref 857, .ref 858, .ref 859, .ref 860, w10, w11, w12, w13, w14, w15, .int pa, .int mo, .int (nI j - nI 1), v19, v20] [] D M z Q = Runs ML_would 463 [.ref 1, .int x, .ref 853, .ref 854, .ref 855, .ref 856, .ref 857, .ref 858, .ref 859, .ref 860, w10, w11, w12, w13, w14, w15, .int (nI k), .int (nI (bpN N f k)), .int m1, w19, w20] [] D M1 z Q := by
  intro j
  induction j with
  | zero =>
    intro M pa mo v19 v20 hj S h
    rcases h with ⟨h, -⟩ | ⟨k, h1, rfl, rfl⟩
    · omega
    · refine ⟨M, k, v19, v20, h1, S, fun Q => ?_⟩
      rw [i0m1, sL_would_372]
      simp (disch := omega) only [sL_would_374, true_and, and_true, true_or, or_true, eq_self, ↓reduceIte, if_true, if_false, nI_add, nI_mul, inB_nI, nI_clamp, Nat.add_zero, eqI, ltI, leI, m6_ne, ne_m6, Nat.reduceEqDiff, reduceCtorEq, Nat.reduceLT, Nat.reduceLeDiff, Nat.reduceAdd, Nat.reduceMul, Nat.zero_add, Nat.mul_zero, nar_0, nar_1, nar_b, bI_t, bI_f, bI_0, bI_1, Bool.true_eq_false, Bool.false_eq_true, Bool.and_self, Bool.and_false, Bool.false_and, Bool.true_and, Bool.and_true, and_self, m1_lt]
  | succ j ih =>
    intro M pa mo v19 v20 hj S h
    have ej : nI (j + 1) - nI 1 = nI j := nI_sub _ _ (by omega)
    have hn : ¬ j < 0 := Nat.not_lt_zero j
    have h7 := S.1.2.2.2.2.2
    have hW := S.1.1.wf
    have D2 := S.2.2.2.1
    obtain ⟨eb, bj⟩ := bpN_is (N := N) hW (p := j) (by omega)
    obtain ⟨M1, P1, S1, y1⟩ := S.copy (z := z)
    have r1 : M1 858 (6 + j) = gG f (6 + j) := P1.1.rq (by omega)
    have wq : up2 M1 858 (6 + j) (gG f (6 + j) + nI 1) = lM M1 858 (sG f (6 + j) (gG f (6 + j) + nI 1)) := by
      rw [← lw_q (by omega), show lM M1 858 f = M1 from P1.1]
    have P2 : CP (lM M1 858 (sG f (6 + j) (gG f (6 + j) + nI 1))) (sG f (6 + j) (gG f (6 + j) + nI 1)) nF nT := ⟨LB_lM, (P1.2.1.st (StE.G (Or.inl (by omega)) (by omega))).cong (fun t s ht hs => l_s (a := 858) hs), WF_part hW (by omega)⟩
    have S2 : ST D (lM M1 858 (sG f (6 + j) (gG f (6 + j) + nI 1))) f nF nT L ch A := S1.mem (fun x hx => l_o (by omega))
    have hbp : bpV N f j = gG (passesF N (sG f (6 + j) (gG f (6 + j) + nI 1))) 346 := rfl
    generalize hg : sG f (6 + j) (gG f (6 + j) + nI 1) = g at wq P2 S2 hbp
    obtain ⟨d, M3, S3, e3, y3⟩ := l_Wo5 (x := x) (z := z) (w10 := w10) (w11 := w11) (w12 := w12) (w13 := w13) (w14 := w14) (w15 := w15) (v16 := .int pa) (v17 := .int mo) (v18 := .int (nI j)) hN5 (g0 := zeroF g) N 0 0 (lM M1 858 g) (by omega) S2 (P2.zero h7) rfl
    have hd : bpN N f j = d := by
      have ed : cntS (passesF N g) (nI 2) nT = cntS g (nI 2) nT + d := e3.trans (by rw [cntS_ext nT (fun t ht => zero_T (by omega) (by decide))])
      rw [(passes_cnt P2.2.2 N).1, ed, nI_sub _ _ (by omega), Nat.add_sub_cancel_left, eb] at hbp
      have l1 := cntS_le (passesF N g) (nI 2) nT
      rw [ed] at l1
      exact nI9 (by omega) (by omega) hbp
    subst hd
    simp only [IsL, Nat.reduceAdd] at D2
    have upd_ : ∀ (hF : Fst (bpN N f) j 4 j), ∃ M1' k w19 w20, Fst (bpN N f) 0 4 k ∧ ST D M1' f nF nT L ch A ∧ ∀ Q, Runs ML_would 372 [.ref 1, .int x, .ref 853, .ref 854, .ref 855, .ref 856, .ref 857, .ref 858, .ref 859, .ref 860, w10, w11, w12, w13, w14, w15, .int (nI j), .int (nI (bpN N f j)), .int (nI j - nI 1), .int (nI (bpN N f j)), .int (nI N)] [] D M3 z Q = Runs ML_would 463 [.ref 1, .int x, .ref 853, .ref 854, .ref 855, .ref 856, .ref 857, .ref 858, .ref 859, .ref 860, w10, w11, w12, w13, w14, w15, .int (nI k), .int (nI (bpN N f k)), .int m1, w19, w20] [] D M1' z Q := fun hF => ih M3 (nI j) (nI (bpN N f j)) (.int (nI (bpN N f j))) (.int (nI N)) (by omega) S3 (Or.inr ⟨j, hF, rfl, rfl⟩)
    have st : ∀ Q, Runs ML_would 372 [.ref 1, .int x, .ref 853, .ref 854, .ref 855, .ref 856, .ref 857, .ref 858, .ref 859, .ref 860, w10, w11, w12, w13, w14, w15, .int pa, .int mo, .int (nI (j + 1) - nI 1), v19, v20] [] D M z Q = Runs ML_would 439 [.ref 1, .int x, .ref 853, .ref 854, .ref 855, .ref 856, .ref 857, .ref 858, .ref 859, .ref 860, w10, w11, w12, w13, w14, w15, .int pa, .int mo, .int (nI j), .int (nI (bpN N f j)), .int (nI N)] [] D M3 z Q := by
      intro Q
      rw [ej, sL_would_372]
      simp (disch := omega) only [sL_would_374, sL_would_377, sL_would_378, sL_would_379, sL_would_381, sL_would_383, sL_would_385, sL_would_387, sL_would_390, sL_would_392, sL_would_394, sL_would_396, sL_would_397, sL_would_398, sL_would_399, sL_would_400, sL_would_401, sL_would_402, sL_would_403, sL_would_405, sL_would_406, y1, hn, D2, r1, wq, true_and, and_true, true_or, or_true, eq_self, ↓reduceIte, if_true, if_false, nI_add, nI_mul, inB_nI, nI_clamp, Nat.add_zero, eqI, ltI, leI, m6_ne, ne_m6, Nat.reduceEqDiff, reduceCtorEq, Nat.reduceLT, Nat.reduceLeDiff, Nat.reduceAdd, Nat.reduceMul, Nat.zero_add, Nat.mul_zero, nar_0, nar_1, nar_b, bI_t, bI_f, bI_0, bI_1, Bool.true_eq_false, Bool.false_eq_true, Bool.and_self, Bool.and_false, Bool.false_and, Bool.true_and, Bool.and_true, and_self, y3]
    rcases h with ⟨h, rfl⟩ | ⟨k, h1, rfl, rfl⟩
    · obtain rfl : j = 3 := by omega
      obtain ⟨M2, k, w19, w20, r1, r2, r3⟩ := upd_ Fst.one
      have hl : m1 ≤ nI (bpN N f 3) := Int32.le_of_lt (m1_lt_nI (by omega))
      refine ⟨M2, k, w19, w20, r1, r2, fun Q => ?_⟩
      rw [st]
      simp (disch := omega) only [sL_would_439, sL_would_441, sL_would_443, sL_would_446, sL_would_449, sL_would_451, sL_would_453, sL_would_455, sL_would_457, sL_would_460, true_and, and_true, true_or, or_true, eq_self, ↓reduceIte, if_true, if_false, nI_add, nI_mul, inB_nI, nI_clamp, Nat.add_zero, eqI, ltI, leI, m6_ne, ne_m6, Nat.reduceEqDiff, reduceCtorEq, Nat.reduceLT, Nat.reduceLeDiff, Nat.reduceAdd, Nat.reduceMul, Nat.zero_add, Nat.mul_zero, nar_0, nar_1, nar_b, bI_t, bI_f, bI_0, bI_1, Bool.true_eq_false, Bool.false_eq_true, Bool.and_self, Bool.and_false, Bool.false_and, Bool.true_and, Bool.and_true, and_self, hl, add_m1, r3]
    · obtain ⟨-, bk⟩ := bpN_is (N := N) hW (p := k) h1.1.2
      by_cases hl : bpN N f j < bpN N f k
      · obtain ⟨M2, k', w19, w20, r1, r2, r3⟩ := ih M3 (nI k) (nI (bpN N f k)) (.int (nI (bpN N f j))) (.int (nI N)) (by omega) S3 (Or.inr ⟨k, h1.up.1 hl, rfl, rfl⟩)
        have hl : ¬ bpN N f k ≤ bpN N f j := by omega
        refine ⟨M2, k', w19, w20, r1, r2, fun Q => ?_⟩
        rw [st]
        simp (disch := omega) only [sL_would_439, sL_would_441, sL_would_443, sL_would_446, sL_would_449, sL_would_451, sL_would_453, sL_would_455, sL_would_457, sL_would_460, true_and, and_true, true_or, or_true, eq_self, ↓reduceIte, if_true, if_false, nI_add, nI_mul, inB_nI, nI_clamp, Nat.add_zero, eqI, ltI, leI, m6_ne, ne_m6, Nat.reduceEqDiff, reduceCtorEq, Nat.reduceLT, Nat.reduceLeDiff, Nat.reduceAdd, Nat.reduceMul, Nat.zero_add, Nat.mul_zero, nar_0, nar_1, nar_b, bI_t, bI_f, bI_0, bI_1, Bool.true_eq_false, Bool.false_eq_true, Bool.and_self, Bool.and_false, Bool.false_and, Bool.true_and, Bool.and_true, and_self, hl, add_m1, r3]
      · obtain ⟨M2, k', w19, w20, r1, r2, r3⟩ := upd_ (h1.up.2 hl)
        have hl : bpN N f k ≤ bpN N f j := by omega
        refine ⟨M2, k', w19, w20, r1, r2, fun Q => ?_⟩
        rw [st]
        simp (disch := omega) only [sL_would_439, sL_would_441, sL_would_443, sL_would_446, sL_would_449, sL_would_451, sL_would_453, sL_would_455, sL_would_457, sL_would_460, true_and, and_true, true_or, or_true, eq_self, ↓reduceIte, if_true, if_false, nI_add, nI_mul, inB_nI, nI_clamp, Nat.add_zero, eqI, ltI, leI, m6_ne, ne_m6, Nat.reduceEqDiff, reduceCtorEq, Nat.reduceLT, Nat.reduceLeDiff, Nat.reduceAdd, Nat.reduceMul, Nat.zero_add, Nat.mul_zero, nar_0, nar_1, nar_b, bI_t, bI_f, bI_0, bI_1, Bool.true_eq_false, Bool.false_eq_true, Bool.and_self, Bool.and_false, Bool.false_and, Bool.true_and, Bool.and_true, and_self, hl, add_m1, r3]
theorem z_wou5 (S : ST D M f nF nT L ch A) (hN5 : N = 500) (hz : 861 ≤ z.1) {w10 w11 w12 w13 w14 w15 v16 v17 v18 v19 v20 : Value} : ∃ D1 M1, ST D1 M1 f nF nT L ch A ∧ ∀ Q, Runs ML_would 363 [.ref 1, .int x, .ref 853, .ref 854, .ref 855, .ref 856, .ref 857, .ref 858, .ref 859, .ref 860, w10, w11, w12, w13, w14, w15, v16, v17, v18, v19, v20] [] D M z Q = Q (.int (nI 1)) D1 M1 z := by
  obtain ⟨M1, k, w19, w20, r1, S1, y1⟩ := l_Wo6 (x := x) (z := z) (w10 := w10) (w11 := w11) (w12 := w12) (w13 := w13) (w14 := w14) (w15 := w15) hN5 4 M (nI 0) m1 v19 v20 (Nat.le_refl _) S (Or.inl ⟨rfl, rfl⟩)
  have hW := S.1.1.wf
  obtain ⟨k', q1, q2⟩ := bp_fst (N := N) hW 3 (by decide)
  obtain rfl : k = k' := r1.uniq q1
  obtain ⟨D3, M3, S3, m3, y3⟩ := S1.look (z := z) (o_bestPart S1.1.1 (w := 0) hN5 (by decide)) hz
  obtain ⟨D4, M4, S4, m4, y4⟩ := S3.look (z := z) (o_bestPart S3.1.1 (w := 1) hN5 (by decide)) hz
  have k1 := S1.k6
  have k3 := S3.k6
  rw [if_pos rfl, q2] at y3
  rw [if_neg (by decide), q2] at y4
  simp only [] at y3 y4
  rw [show nI 4 - nI 1 = nI 3 from rfl] at y1
  refine ⟨D4, M4, S4, fun Q => ?_⟩
  simp (disch := omega) only [sL_would_363, sL_would_364, sL_would_366, sL_would_367, sL_would_369, sL_would_370, y1, sL_would_463, sL_would_464, sL_would_465, sL_would_468, sL_would_470, sL_would_473, sL_would_474, sL_would_475, sL_would_478, sL_would_480, sL_would_483, sL_would_484, sL_would_487, sL_would_488, k1, k3, y3, y4, true_and, and_true, true_or, or_true, eq_self, ↓reduceIte, if_true, if_false, nI_add, nI_mul, inB_nI, nI_clamp, Nat.add_zero, eqI, ltI, leI, m6_ne, ne_m6, Nat.reduceEqDiff, reduceCtorEq, Nat.reduceLT, Nat.reduceLeDiff, Nat.reduceAdd, Nat.reduceMul, Nat.zero_add, Nat.mul_zero, nar_0, nar_1, nar_b, bI_t, bI_f, bI_0, bI_1, Bool.true_eq_false, Bool.false_eq_true, Bool.and_self, Bool.and_false, Bool.false_and, Bool.true_and, Bool.and_true, and_self]
/-- what would be: the class and the law say the same -/
theorem z_would (S : ST D M f nF nT L ch A) (hN5 : N = 500) (hz : 861 ≤ z.1) : ∃ D1 M1, ST D1 M1 f nF nT L ch A ∧ ∀ Q, Runs ML_would 0 [.ref 1, .int x, .ref 853, .ref 854, .ref 855, .ref 856, .ref 857, .ref 858, .ref 859, .ref 860, vJ, vJ, vJ, vJ, vJ, vJ, vJ, vJ, vJ, vJ, vJ] [] D M z Q = Q (.int (nI 1)) D1 M1 z := by
  obtain ⟨D1, M1, w10, w11, w12, w13, w14, S1, y1⟩ := z_wou1 (x := x) S hz
  obtain ⟨D2, M2, a13, a14, a15, S2, y2⟩ := z_wou3 (x := x) S1 hz (w10 := w10) (w11 := w11) (w12 := w12) (w13 := w13) (w14 := w14) (v15 := vJ) (v16 := vJ) (v17 := vJ) (v18 := vJ) (v19 := vJ) (v20 := vJ)
  obtain ⟨D3, M3, b15, S3, y3⟩ := z_wou4 (x := x) S2 hN5 hz (w10 := w10) (w11 := w11) (w12 := w12) (w13 := a13) (w14 := a14) (v15 := a15) (v16 := vJ) (v17 := vJ) (v18 := vJ) (v19 := vJ) (v20 := vJ)
  obtain ⟨D4, M4, S4, y4⟩ := z_wou5 (x := x) S3 hN5 hz (w10 := w10) (w11 := w11) (w12 := w12) (w13 := a13) (w14 := a14) (w15 := b15) (v16 := vJ) (v17 := vJ) (v18 := vJ) (v19 := vJ) (v20 := vJ)
  exact ⟨D4, M4, S4, fun Q => by rw [y1, y2, y3, y4]⟩
end WOV
