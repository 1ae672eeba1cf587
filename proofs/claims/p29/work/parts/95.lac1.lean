/-! the law's acts: come, set, stock, pass -/
/-- an act of the law, from its first instruction to the looks -/
def ACT (pc : Nat) (D : vDD) (M : vMM) (z : vZZ) (N : Nat) (tu x y ki fx : Int32) : Prop := ∀ v15 v16 v17 v18 v19 v20, ∃ D1 M1 f nF nT L ch w15 w16 w17 w18 w19 w20, (ST D1 M1 f nF nT L ch N ∧ 1 ≤ nF) ∧ ∀ Q, Runs ML_law pc [.ref 0, .ref 1, .ref 853, .ref 854, .ref 855, .ref 856, .ref 857, .ref 858, .ref 859, .ref 860, .int tu, .int x, .int y, .int ki, .int fx, v15, v16, v17, v18, v19, v20] [] D M z Q = Runs ML_law 1271 [.ref 0, .ref 1, .ref 853, .ref 854, .ref 855, .ref 856, .ref 857, .ref 858, .ref 859, .ref 860, .int tu, .int x, .int y, .int ki, .int fx, w15, w16, w17, w18, w19, w20] [] D1 M1 z Q
section AC1
variable {D D1 : vDD} {M m m1 : vMM} {f g f' : Nat → Int32} {z : vZZ} {nF nT L N i t k s : Nat} {ch : Nat → Nat} {tu x y ki fx v : Int32}
theorem q_f (hi : i < 5) (h : k < 6) : lM m 853 f 854 (6 * i + k) = gF f i k := l_f hi h
theorem q_f0 (hi : i < 5) : lM m 853 f 854 (6 * i) = gF f i 0 := l_f0 hi
theorem q_t (ht : t < 7) (h : k < 6) : lM m 853 f 855 (9 * t + k) = gT f t k := l_t ht h
theorem q_t0 (ht : t < 7) : lM m 853 f 855 (9 * t) = gT f t 0 := l_t0 ht
theorem qw_f (hi : i < 5) (h : k < 6) : up2 (lM m 853 f) 854 (6 * i + k) v = lM m 853 (sF f i k v) := lw_f hi h
theorem qw_f0 (hi : i < 5) : up2 (lM m 853 f) 854 (6 * i) v = lM m 853 (sF f i 0 v) := lw_f0 hi
theorem qw_t (ht : t < 7) (h : k < 6) : up2 (lM m 853 f) 855 (9 * t + k) v = lM m 853 (sT f t k v) := lw_t ht h
theorem qw_t0 (ht : t < 7) : up2 (lM m 853 f) 855 (9 * t) v = lM m 853 (sT f t 0 v) := lw_t0 ht
theorem qw_s (h : s < 3) : up2 (lM m 853 f) 855 (9 * t + 6 + s) v = lM (up2 m 855 (9 * t + 6 + s) v) 853 f := lw_s (a := 853) h
theorem op_k {md : vMD} {as : List Value} (hK : KD D N) (hO : Op md as D M z v f nF nT L ch) (hz : 861 ≤ z.1) : ∃ D1 M1, CK D1 M1 f nF nT L ch ∧ KD D1 N ∧ (∀ a, 853 ≤ a → M1 a = M a) ∧ ∀ Q, Runs md 0 as [] D M z Q = Q (.int v) D1 M1 z := by
  obtain ⟨D1, M1, C1, e, w⟩ := hO
  exact ⟨D1, M1, C1, hK.mv (eq_runs w hK.1.1 (by omega)) hz, e, w⟩
theorem mkST (C : CK D1 m1 f nF nT L ch) (K : KD D1 N) (hP : Pk m1 855 f nT) (h5 : nF ≤ 5) (h7 : nT ≤ 7) : ST D1 (lM m1 853 f) f nF nT L ch N := ⟨⟨C.fr (fun a ha => l_o (by omega)), LB_lM, hP.cong (fun t s _ hs => l_s (a := 853) hs), K.2.1, h5, h7⟩, K⟩
theorem mkST' (C : CK D1 m1 f nF nT L ch) (K : KD D1 N) (hL : LB m1 853 f) (hP : Pk m1 855 f nT) (h5 : nF ≤ 5) (h7 : nT ≤ 7) : ST D1 m1 f nF nT L ch N := ⟨⟨C, hL, hP, K.2.1, h5, h7⟩, K⟩
theorem Pk.up (hP : Pk (lM m 853 f) 855 f nT) (st : StE f f' nT) (e1 : ∀ a, 853 ≤ a → m1 a = lM m 853 g a) : Pk m1 855 f' nT := (hP.st st).cong (fun t s _ hs => by
  rw [e1 855 (by decide)]
  exact (l_s (a := 853) hs).trans (l_s (a := 853) hs).symm)
theorem LB.up (e1 : ∀ a, 853 ≤ a → m1 a = lM m 853 g a) : LB m1 853 g := LB_lM.cong (fun a ha _ => e1 a ha)
theorem rng {a b n : Nat} (h1 : 1 ≤ a) (h2 : a ≤ b) (hb : b < 100) : (decide (nI 1 ≤ nI a) && decide (nI a ≤ nI b)) = true := by
  simp (disch := omega) only [leI, h1, h2, decide_true, Bool.and_self]
theorem a_come (S : ST D (lM m 853 f) f nF nT L ch N) (hz : 861 ≤ z.1) (h5 : nF < 5) : ACT 174 D (lM m 853 f) z N tu x y ki fx := by
  intro v15 v16 v17 v18 v19 v20
  obtain ⟨⟨C, hL, hP, hD, h5', h7⟩, hK⟩ := S
  have g2 := C.wf.1.1
  have k6 := C.k6
  simp only [IsL, Nat.reduceAdd] at hD
  have l1 := lwN_lt y (n := 2) (by decide)
  have l2 := lwN_lt (y >>> (nI 2 &&& 31)) (n := 63) (by decide)
  have l3 := lwN_lt (y >>> (nI 8 &&& 31)) (n := 3) (by decide)
  obtain ⟨sk, h1, h2, ys⟩ : ∃ sk, 1 ≤ sk ∧ sk ≤ 63 ∧ ∀ Q, Runs ML_law 174 [.ref 0, .ref 1, .ref 853, .ref 854, .ref 855, .ref 856, .ref 857, .ref 858, .ref 859, .ref 860, .int tu, .int x, .int y, .int ki, .int fx, v15, v16, v17, v18, v19, v20] [] D (lM m 853 f) z Q = Runs ML_law 210 [.ref 0, .ref 1, .ref 853, .ref 854, .ref 855, .ref 856, .ref 857, .ref 858, .ref 859, .ref 860, .int tu, .int x, .int y, .int ki, .int fx, .int (nI (6 * nF)), v16, v17, v18, v19, v20] [.int (nI sk), .int (nI (6 * nF)), .ref 854] D (lM m 853 f) z Q := by
    by_cases h : lwN y 2 = 0
    · refine ⟨63, by decide, Nat.le_refl _, fun Q => ?_⟩
      simp (disch := omega) only [sL_law_174, sL_law_176, sL_law_177, sL_law_178, sL_law_179, sL_law_180, sL_law_182, sL_law_183, sL_law_185, sL_law_187, sL_law_188, sL_law_191, sL_law_194, sL_law_196, sL_law_199, sL_law_200, sL_law_202, sL_law_203, sL_law_204, sL_law_206, sL_law_209, hD, l_q, g2, y_low, h, true_and, and_true, true_or, or_true, eq_self, ↓reduceIte, if_true, if_false, nI_add, nI_mul, inB_nI, nI_clamp, Nat.add_zero, eqI, ltI, leI, m6_ne, ne_m6, Nat.reduceEqDiff, reduceCtorEq, Nat.reduceLT, Nat.reduceLeDiff, Nat.reduceAdd, Nat.reduceMul, Nat.zero_add, Nat.mul_zero, nar_0, nar_1, nar_b, bI_t, bI_f, bI_0, bI_1, Bool.true_eq_false, Bool.false_eq_true, Bool.and_self, Bool.and_false, Bool.false_and, Bool.true_and, Bool.and_true, and_self]
    · refine ⟨1 + lwN (y >>> (nI 2 &&& 31)) 63, by omega, by omega, fun Q => ?_⟩
      simp (disch := omega) only [sL_law_174, sL_law_176, sL_law_177, sL_law_178, sL_law_179, sL_law_180, sL_law_182, sL_law_183, sL_law_185, sL_law_187, sL_law_188, sL_law_191, sL_law_194, sL_law_196, sL_law_199, sL_law_200, sL_law_202, sL_law_203, sL_law_204, sL_law_206, sL_law_209, hD, l_q, g2, y_low, h, true_and, and_true, true_or, or_true, eq_self, ↓reduceIte, if_true, if_false, nI_add, nI_mul, inB_nI, nI_clamp, Nat.add_zero, eqI, ltI, leI, m6_ne, ne_m6, Nat.reduceEqDiff, reduceCtorEq, Nat.reduceLT, Nat.reduceLeDiff, Nat.reduceAdd, Nat.reduceMul, Nat.zero_add, Nat.mul_zero, nar_0, nar_1, nar_b, bI_t, bI_f, bI_0, bI_1, Bool.true_eq_false, Bool.false_eq_true, Bool.and_self, Bool.and_false, Bool.false_and, Bool.true_and, Bool.and_true, and_self]
  have yl := fun Q => y_low (D := D) (m := lM m 853 (sF f nF 0 (nI sk))) (z := z) (Q := Q) (v := y >>> (nI 8 &&& 31)) (n := 3) (by decide) (by decide)
  generalize lwN (y >>> (nI 8 &&& 31)) 3 = u at l3 yl
  generalize hg : sF (sF (sF (sF (sF (sF f nF 0 (nI sk)) nF 1 (nI (1 + u))) nF 2 (nI 1)) nF 3 m6) nF 4 (nI 0)) nF 5 (nI 0) = g
  have r0 : gF g nF 0 = nI sk := by rw [← hg, gF_sFk (by decide), gF_sFk (by decide), gF_sFk (by decide), gF_sFk (by decide), gF_sFk (by decide), gF_sF]
  have r1 : gF g nF 1 = nI (1 + u) := by rw [← hg, gF_sFk (by decide), gF_sFk (by decide), gF_sFk (by decide), gF_sFk (by decide), gF_sF]
  have r2 : gG g 2 = nI nF := by rw [← hg, gG_sF (by decide) (by omega) (by decide), gG_sF (by decide) (by omega) (by decide), gG_sF (by decide) (by omega) (by decide), gG_sF (by decide) (by omega) (by decide), gG_sF (by decide) (by omega) (by decide), gG_sF (by decide) (by omega) (by decide), g2]
  have C0 : CK D (lM m 853 g) f nF nT L ch := C.fr (fun a ha => by rw [l_o (by omega), l_o (by omega)])
  obtain ⟨D1, M1, C1, K1, e1, y1⟩ := op_k hK (o_come (z := z) C0 (x := nI sk) (y := nI (1 + u)) (rng (n := 0) h1 h2 (by decide)) (rng (n := 0) (by omega) (by omega) (by decide)) (by omega)) hz
  have LB1 := LB.up e1
  have q1 : M1 853 2 = nI nF := (LB1.rq (by decide)).trans r2
  have w1 : up2 M1 853 2 (nI (nF + 1)) = lM M1 853 (cameF f nF (nI sk) (nI (1 + u))) := by
    have : sG g 2 (nI (nF + 1)) = cameF f nF (nI sk) (nI (1 + u)) := by rw [← hg]; rfl
    rw [← this, ← lw_q (by decide), show lM M1 853 g = M1 from LB1]
  have hn : nF < 8 := by omega
  have st : StE f (cameF f nF (nI sk) (nI (1 + u))) nT := ((((((StE.F hn (by decide)).trans (StE.F hn (by decide))).trans (StE.F hn (by decide))).trans (StE.F hn (by decide))).trans (StE.F hn (by decide))).trans (StE.F hn (by decide))).trans (StE.G (Or.inl (by decide)) (by omega))
  refine ⟨D1, lM M1 853 (cameF f nF (nI sk) (nI (1 + u))), cameF f nF (nI sk) (nI (1 + u)), nF + 1, nT, L, ch, .int (nI (6 * nF)), v16, v17, v18, v19, v20, ⟨mkST C1 K1 (hP.up st e1) (by omega) h7, by omega⟩, fun Q => ?_⟩
  have hD1 := K1.2.1
  simp only [IsL, Nat.reduceAdd] at hD1
  rw [ys]
  simp (disch := omega) only [sL_law_210, sL_law_211, sL_law_212, sL_law_214, sL_law_215, sL_law_216, sL_law_217, sL_law_219, sL_law_221, sL_law_222, sL_law_223, sL_law_226, sL_law_227, sL_law_228, sL_law_229, sL_law_231, sL_law_232, sL_law_233, sL_law_234, sL_law_235, sL_law_236, sL_law_238, sL_law_239, sL_law_240, sL_law_242, sL_law_243, sL_law_244, sL_law_246, sL_law_247, sL_law_248, sL_law_249, sL_law_250, sL_law_251, sL_law_253, sL_law_254, sL_law_255, sL_law_256, hD, yl, qw_f0, qw_f, true_and, and_true, true_or, or_true, eq_self, ↓reduceIte, if_true, if_false, nI_add, nI_mul, inB_nI, nI_clamp, Nat.add_zero, eqI, ltI, leI, m6_ne, ne_m6, Nat.reduceEqDiff, reduceCtorEq, Nat.reduceLT, Nat.reduceLeDiff, Nat.reduceAdd, Nat.reduceMul, Nat.zero_add, Nat.mul_zero, nar_0, nar_1, nar_b, bI_t, bI_f, bI_0, bI_1, Bool.true_eq_false, Bool.false_eq_true, Bool.and_self, Bool.and_false, Bool.false_and, Bool.true_and, Bool.and_true, and_self, hg]
  simp (disch := omega) only [sL_law_257, sL_law_258, sL_law_259, sL_law_261, sL_law_262, sL_law_263, sL_law_265, sL_law_266, sL_law_267, sL_law_268, sL_law_271, sL_law_272, sL_law_273, sL_law_274, sL_law_275, sL_law_276, sL_law_277, sL_law_278, sL_law_279, sL_law_282, sL_law_283, sL_law_284, hD, hD1, k6, q_f0, q_f, r0, r1, y1, q1, w1, true_and, and_true, true_or, or_true, eq_self, ↓reduceIte, if_true, if_false, nI_add, nI_mul, inB_nI, nI_clamp, Nat.add_zero, eqI, ltI, leI, m6_ne, ne_m6, Nat.reduceEqDiff, reduceCtorEq, Nat.reduceLT, Nat.reduceLeDiff, Nat.reduceAdd, Nat.reduceMul, Nat.zero_add, Nat.mul_zero, nar_0, nar_1, nar_b, bI_t, bI_f, bI_0, bI_1, Bool.true_eq_false, Bool.false_eq_true, Bool.and_self, Bool.and_false, Bool.false_and, Bool.true_and, Bool.and_true, and_self]
theorem a_set (S : ST D (lM m 853 f) f nF nT L ch N) (hz : 861 ≤ z.1) (h1 : 1 ≤ nF) : ACT 1217 D (lM m 853 f) z N tu x y ki fx := by
  intro v15 v16 v17 v18 v19 v20
  obtain ⟨⟨C, hL, hP, hD, h5, h7⟩, hK⟩ := S
  have k6 := C.k6
  simp only [IsL, Nat.reduceAdd] at hD
  have l1 := lwN_lt y (n := 2) (by decide)
  have l2 := lwN_lt (y >>> (nI 2 &&& 31)) (n := 12) (by decide)
  have l3 := lwN_lt (y >>> (nI 2 &&& 31)) (n := 9) (by decide)
  have main : ∀ w u : Nat, w < 2 → setOK (nI w) (nI (1 + u)) = true → (∀ Q, Runs ML_law 1217 [.ref 0, .ref 1, .ref 853, .ref 854, .ref 855, .ref 856, .ref 857, .ref 858, .ref 859, .ref 860, .int tu, .int x, .int y, .int ki, .int fx, v15, v16, v17, v18, v19, v20] [] D (lM m 853 f) z Q = Runs ML_law 1248 [.ref 0, .ref 1, .ref 853, .ref 854, .ref 855, .ref 856, .ref 857, .ref 858, .ref 859, .ref 860, .int tu, .int x, .int y, .int ki, .int fx, .int (nI w), .int (nI (1 + u)), v17, v18, v19, v20] [] D (lM m 853 f) z Q) → ∃ D1 M1 f1 nF nT L ch w15 w16 w17 w18 w19 w20, (ST D1 M1 f1 nF nT L ch N ∧ 1 ≤ nF) ∧ ∀ Q, Runs ML_law 1217 [.ref 0, .ref 1, .ref 853, .ref 854, .ref 855, .ref 856, .ref 857, .ref 858, .ref 859, .ref 860, .int tu, .int x, .int y, .int ki, .int fx, v15, v16, v17, v18, v19, v20] [] D (lM m 853 f) z Q = Runs ML_law 1271 [.ref 0, .ref 1, .ref 853, .ref 854, .ref 855, .ref 856, .ref 857, .ref 858, .ref 859, .ref 860, .int tu, .int x, .int y, .int ki, .int fx, w15, w16, w17, w18, w19, w20] [] D1 M1 z Q := by
    intro w u hw hs ys
    obtain ⟨D1, M1, C1, K1, e1, y1⟩ := op_k hK (o_set (z := z) C hw hs) hz
    have LB1 := LB.up e1
    have q1 : M1 853 w = gG f w := LB1.rq (by omega)
    have w1 : up2 M1 853 w (nI (1 + u)) = lM M1 853 (sG f w (nI (1 + u))) := by
      rw [← lw_q (by omega), show lM M1 853 f = M1 from LB1]
    have hD1 := K1.2.1
    simp only [IsL, Nat.reduceAdd] at hD1
    refine ⟨D1, lM M1 853 (sG f w (nI (1 + u))), sG f w (nI (1 + u)), nF, nT, L, ch, .int (nI w), .int (nI (1 + u)), v17, v18, v19, v20, ⟨mkST C1 K1 (hP.up (StE.G (Or.inl (by omega)) (by omega)) e1) h5 h7, h1⟩, fun Q => ?_⟩
    rw [ys]
    simp (disch := omega) only [sL_law_1248, sL_law_1249, sL_law_1251, sL_law_1253, sL_law_1256, sL_law_1257, sL_law_1259, sL_law_1260, sL_law_1263, sL_law_1264, sL_law_1265, sL_law_1266, sL_law_1268, sL_law_1270, k6, y1, hD1, q1, w1, true_and, and_true, true_or, or_true, eq_self, ↓reduceIte, if_true, if_false, nI_add, nI_mul, inB_nI, nI_clamp, Nat.add_zero, eqI, ltI, leI, m6_ne, ne_m6, Nat.reduceEqDiff, reduceCtorEq, Nat.reduceLT, Nat.reduceLeDiff, Nat.reduceAdd, Nat.reduceMul, Nat.zero_add, Nat.mul_zero, nar_0, nar_1, nar_b, bI_t, bI_f, bI_0, bI_1, Bool.true_eq_false, Bool.false_eq_true, Bool.and_self, Bool.and_false, Bool.false_and, Bool.true_and, Bool.and_true, and_self]
  by_cases h : lwN y 2 = 0
  · refine main 0 (lwN (y >>> (nI 2 &&& 31)) 12) (by decide) ?_ (fun Q => ?_)
    · unfold setOK
      rw [if_pos rfl]
      exact rng (n := 0) (by omega) (by omega) (by decide)
    · simp (disch := omega) only [sL_law_1217, sL_law_1219, sL_law_1220, sL_law_1223, sL_law_1225, sL_law_1226, sL_law_1228, sL_law_1229, sL_law_1230, sL_law_1232, sL_law_1235, sL_law_1237, sL_law_1240, sL_law_1242, sL_law_1245, sL_law_1246, y_low, h, true_and, and_true, true_or, or_true, eq_self, ↓reduceIte, if_true, if_false, nI_add, nI_mul, inB_nI, nI_clamp, Nat.add_zero, eqI, ltI, leI, m6_ne, ne_m6, Nat.reduceEqDiff, reduceCtorEq, Nat.reduceLT, Nat.reduceLeDiff, Nat.reduceAdd, Nat.reduceMul, Nat.zero_add, Nat.mul_zero, nar_0, nar_1, nar_b, bI_t, bI_f, bI_0, bI_1, Bool.true_eq_false, Bool.false_eq_true, Bool.and_self, Bool.and_false, Bool.false_and, Bool.true_and, Bool.and_true, and_self]
  · have hw : lwN y 2 = 1 := by omega
    refine main 1 (lwN (y >>> (nI 2 &&& 31)) 9) (by decide) ?_ (fun Q => ?_)
    · unfold setOK
      rw [if_neg (nI_ne (by decide) (by decide) (by decide)), if_pos rfl]
      exact rng (n := 0) (by omega) (by omega) (by decide)
    · simp (disch := omega) only [sL_law_1217, sL_law_1219, sL_law_1220, sL_law_1223, sL_law_1225, sL_law_1226, sL_law_1228, sL_law_1229, sL_law_1230, sL_law_1232, sL_law_1235, sL_law_1237, sL_law_1240, sL_law_1242, sL_law_1245, sL_law_1246, y_low, hw, Nat.one_ne_zero, true_and, and_true, true_or, or_true, eq_self, ↓reduceIte, if_true, if_false, nI_add, nI_mul, inB_nI, nI_clamp, Nat.add_zero, eqI, ltI, leI, m6_ne, ne_m6, Nat.reduceEqDiff, reduceCtorEq, Nat.reduceLT, Nat.reduceLeDiff, Nat.reduceAdd, Nat.reduceMul, Nat.zero_add, Nat.mul_zero, nar_0, nar_1, nar_b, bI_t, bI_f, bI_0, bI_1, Bool.true_eq_false, Bool.false_eq_true, Bool.and_self, Bool.and_false, Bool.false_and, Bool.true_and, Bool.and_true, and_self]
theorem sG_add0 {k : Nat} : sG f k (gG f k + nI 0) = f := by
  funext j
  show (if j = k then gG f k + nI 0 else f j) = f j
  by_cases h : j = k
  · rw [if_pos h, h]
    exact Int32.add_zero _
  · rw [if_neg h]
theorem a_stock (S : ST D (lM m 853 f) f nF nT L ch N) (hz : 861 ≤ z.1) (h1 : 1 ≤ nF) : ACT 852 D (lM m 853 f) z N tu x y ki fx := by
  intro v15 v16 v17 v18 v19 v20
  obtain ⟨⟨C, hL, hP, hD, h5, h7⟩, hK⟩ := S
  have k6 := C.k6
  simp only [IsL, Nat.reduceAdd] at hD
  have l1 := lwN_lt y (n := 4) (by decide)
  have l2 := lwN_lt (y >>> (nI 2 &&& 31)) (n := 3) (by decide)
  have y1 := fun Q => y_low (D := D) (m := lM m 853 f) (z := z) (Q := Q) (v := y) (n := 4) (by decide) (by decide)
  have y2 := fun Q => y_low (D := D) (m := lM m 853 f) (z := z) (Q := Q) (v := y >>> (nI 2 &&& 31)) (n := 3) (by decide) (by decide)
  generalize lwN y 4 = p at l1 y1
  generalize lwN (y >>> (nI 2 &&& 31)) 3 = u at l2 y2
  by_cases h : gG f (6 + p) + nI (1 + u) ≤ nI 99
  · have hlt : ¬ nI 99 < gG f (6 + p) + nI (1 + u) := Int32.not_lt.mpr h
    have C0 : CK D (lM m 853 (sG f (6 + p) (gG f (6 + p) + nI (1 + u)))) f nF nT L ch := C.fr (fun a ha => by rw [l_o (by omega), l_o (by omega)])
    have O := o_stock (z := z) C0 (k := p) (y := nI (1 + u)) l1 (rng (n := 0) (by omega) (by omega) (by decide))
    rw [if_pos h] at O
    obtain ⟨D1, M1, C1, K1, e1, y3⟩ := op_k hK O hz
    have LB1 := LB.up e1
    have q1 : M1 853 (6 + p) = gG f (6 + p) + nI (1 + u) := (LB1.rq (by omega)).trans gG_sG
    have hD1 := K1.2.1
    simp only [IsL, Nat.reduceAdd] at hD1
    refine ⟨D1, M1, sG f (6 + p) (gG f (6 + p) + nI (1 + u)), nF, nT, L, ch, .int (nI p), .int (nI (1 + u)), .int (nI 1), v18, v19, v20, ⟨mkST' C1 K1 LB1 (hP.up (StE.G (Or.inl (by omega)) (by omega)) e1) h5 h7, h1⟩, fun Q => ?_⟩
    simp (disch := omega) only [sL_law_852, sL_law_854, sL_law_855, sL_law_858, sL_law_860, sL_law_861, sL_law_863, sL_law_864, sL_law_865, sL_law_866, sL_law_869, sL_law_870, sL_law_872, sL_law_873, sL_law_875, sL_law_877, sL_law_878, sL_law_879, sL_law_881, sL_law_882, sL_law_884, sL_law_887, sL_law_888, sL_law_891, sL_law_892, sL_law_894, sL_law_895, sL_law_897, sL_law_899, sL_law_900, sL_law_901, sL_law_902, sL_law_904, sL_law_907, sL_law_909, sL_law_912, sL_law_913, sL_law_914, sL_law_915, sL_law_916, sL_law_918, sL_law_920, sL_law_923, sL_law_925, sL_law_928, sL_law_929, sL_law_931, sL_law_933, sL_law_934, sL_law_935, sL_law_938, sL_law_940, sL_law_943, sL_law_944, sL_law_945, k6, y1, y2, hD, hD1, l_q, lw_q, hlt, y3, q1, true_and, and_true, true_or, or_true, eq_self, ↓reduceIte, if_true, if_false, nI_add, nI_mul, inB_nI, nI_clamp, Nat.add_zero, eqI, ltI, leI, m6_ne, ne_m6, Nat.reduceEqDiff, reduceCtorEq, Nat.reduceLT, Nat.reduceLeDiff, Nat.reduceAdd, Nat.reduceMul, Nat.zero_add, Nat.mul_zero, nar_0, nar_1, nar_b, bI_t, bI_f, bI_0, bI_1, Bool.true_eq_false, Bool.false_eq_true, Bool.and_self, Bool.and_false, Bool.false_and, Bool.true_and, Bool.and_true, and_self]
  · have hlt : nI 99 < gG f (6 + p) + nI (1 + u) := Int32.not_le.mp h
    have O := o_stock (z := z) C (k := p) (y := nI (1 + u)) l1 (rng (n := 0) (by omega) (by omega) (by decide))
    rw [if_neg h] at O
    obtain ⟨D1, M1, C1, K1, e1, y3⟩ := op_k hK O hz
    refine ⟨D1, M1, f, nF, nT, L, ch, .int (nI p), .int (nI (1 + u)), .int (nI 0), v18, v19, v20, ⟨mkST' C1 K1 (LB.up e1) (hP.up StE.refl e1) h5 h7, h1⟩, fun Q => ?_⟩
    simp (disch := omega) only [sL_law_852, sL_law_854, sL_law_855, sL_law_858, sL_law_860, sL_law_861, sL_law_863, sL_law_864, sL_law_865, sL_law_866, sL_law_869, sL_law_870, sL_law_872, sL_law_873, sL_law_875, sL_law_877, sL_law_878, sL_law_879, sL_law_881, sL_law_882, sL_law_884, sL_law_887, sL_law_888, sL_law_891, sL_law_892, sL_law_894, sL_law_895, sL_law_897, sL_law_899, sL_law_900, sL_law_901, sL_law_902, sL_law_904, sL_law_907, sL_law_909, sL_law_912, sL_law_913, sL_law_914, sL_law_915, sL_law_916, sL_law_918, sL_law_920, sL_law_923, sL_law_925, sL_law_928, sL_law_929, sL_law_931, sL_law_933, sL_law_934, sL_law_935, sL_law_938, sL_law_940, sL_law_943, sL_law_944, sL_law_945, k6, y1, y2, hD, l_q, lw_q, hlt, sG_add0, y3, true_and, and_true, true_or, or_true, eq_self, ↓reduceIte, if_true, if_false, nI_add, nI_mul, inB_nI, nI_clamp, Nat.add_zero, eqI, ltI, leI, m6_ne, ne_m6, Nat.reduceEqDiff, reduceCtorEq, Nat.reduceLT, Nat.reduceLeDiff, Nat.reduceAdd, Nat.reduceMul, Nat.zero_add, Nat.mul_zero, nar_0, nar_1, nar_b, bI_t, bI_f, bI_0, bI_1, Bool.true_eq_false, Bool.false_eq_true, Bool.and_self, Bool.and_false, Bool.false_and, Bool.true_and, Bool.and_true, and_self]
theorem l_Lp {v18 v19 v20 : Value} {n : Nat} (hn : n < 100) (hW : WF f nF nT) (h5 : nF ≤ 5) (h7 : nT ≤ 7) (hP : Pk m 855 f nT) (hD : IsL D 853) : ∀ k i c b, i + k = n → cntS (slotsF i f) (nI 2) nT = cntS f (nI 2) nT + c → cntS (slotsF i f) (nI 3) nT = cntS f (nI 3) nT + b →
    ∃ c' b', cntS (slotsF n f) (nI 2) nT = cntS f (nI 2) nT + c' ∧ cntS (slotsF n f) (nI 3) nT = cntS f (nI 3) nT + b' ∧ ∀ Q, Runs ML_law 660 [.ref 0, .ref 1, .ref 853, .ref 854, .ref 855, .ref 856, .ref 857, .ref 858, .ref 859, .ref 860, .int tu, .int x, .int y, .int ki, .int fx, .int (nI n), .int (nI (c + 100 * b)), .int (nI i), v18, v19, v20] [] D (lM m 853 (slotsF i f)) z Q = Runs ML_law 685 [.ref 0, .ref 1, .ref 853, .ref 854, .ref 855, .ref 856, .ref 857, .ref 858, .ref 859, .ref 860, .int tu, .int x, .int y, .int ki, .int fx, .int (nI n), .int (nI (c' + 100 * b')), .int (nI n), v18, v19, v20] [] D (lM m 853 (slotsF n f)) z Q := by
  intro k
  induction k with
  | zero =>
    intro i c b hi hc hb
    obtain rfl : i = n := by omega
    refine ⟨c, b, hc, hb, fun Q => ?_⟩
    rw [sL_law_660]
    simp (disch := omega) only [sL_law_662, sL_law_664, true_and, and_true, true_or, or_true, eq_self, ↓reduceIte, if_true, if_false, nI_add, nI_mul, inB_nI, nI_clamp, Nat.add_zero, eqI, ltI, leI, m6_ne, ne_m6, Nat.reduceEqDiff, reduceCtorEq, Nat.reduceLT, Nat.reduceLeDiff, Nat.reduceAdd, Nat.reduceMul, Nat.zero_add, Nat.mul_zero, nar_0, nar_1, nar_b, bI_t, bI_f, bI_0, bI_1, Bool.true_eq_false, Bool.false_eq_true, Bool.and_self, Bool.and_false, Bool.false_and, Bool.true_and, Bool.and_true, and_self, Nat.le_refl]
  | succ k ih =>
    intro i c b hi hc hb
    have hlt : ¬ n ≤ i := by omega
    obtain ⟨c1, b1, e1, e2, y1⟩ := y_slot (D := D) (m := m) (z := z) (a := 853) hD (hW.slots i) h5 h7 (hP.st (StE.slots hW i))
    obtain ⟨c', b', r3, r4, r5⟩ := ih (i + 1) (c + c1) (b + b1) (by omega) (by rw [show slotsF (i + 1) f = slotF (slotsF i f) from rfl, e1, hc, Nat.add_assoc]) (by rw [show slotsF (i + 1) f = slotF (slotsF i f) from rfl, e2, hb, Nat.add_assoc])
    refine ⟨c', b', r3, r4, fun Q => ?_⟩
    rw [show c + c1 + 100 * (b + b1) = c + 100 * b + (c1 + 100 * b1) by omega, show slotsF (i + 1) f = slotF (slotsF i f) from rfl] at r5
    simp only [Nat.reduceAdd] at y1
    rw [sL_law_660]
    simp (disch := omega) only [sL_law_662, sL_law_664, sL_law_667, sL_law_669, sL_law_670, sL_law_671, sL_law_673, sL_law_676, sL_law_677, sL_law_679, sL_law_682, true_and, and_true, true_or, or_true, eq_self, ↓reduceIte, if_true, if_false, nI_add, nI_mul, inB_nI, nI_clamp, Nat.add_zero, eqI, ltI, leI, m6_ne, ne_m6, Nat.reduceEqDiff, reduceCtorEq, Nat.reduceLT, Nat.reduceLeDiff, Nat.reduceAdd, Nat.reduceMul, Nat.zero_add, Nat.mul_zero, nar_0, nar_1, nar_b, bI_t, bI_f, bI_0, bI_1, Bool.true_eq_false, Bool.false_eq_true, Bool.and_self, Bool.and_false, Bool.false_and, Bool.true_and, Bool.and_true, and_self, hlt, y1, r5]
theorem a_pass (S : ST D (lM m 853 f) f nF nT L ch N) (hz : 861 ≤ z.1) (h1 : 1 ≤ nF) : ACT 644 D (lM m 853 f) z N tu x y ki fx := by
  intro v15 v16 v17 v18 v19 v20
  obtain ⟨⟨C, hL, hP, hD, h5, h7⟩, hK⟩ := S
  have k6 := C.k6
  have l1 := lwN_lt y (n := 5) (by decide)
  have y1 := fun Q => y_low (D := D) (m := lM m 853 f) (z := z) (Q := Q) (v := y) (n := 5) (by decide) (by decide)
  generalize lwN y 5 = u at l1 y1
  have hP0 : Pk m 855 f nT := hP.cong (fun t s _ hs => (l_s (a := 853) hs).symm)
  obtain ⟨c, b, r1, r2, y2⟩ := l_Lp (z := z) (tu := tu) (x := x) (y := y) (ki := ki) (fx := fx) (v18 := v18) (v19 := v19) (v20 := v20) (n := 1 + u) (by omega) C.wf h5 h7 hP0 hD (1 + u) 0 0 0 (by omega) rfl rfl
  have C0 : CK D (lM m 853 (slotsF (1 + u) f)) f nF nT L ch := C.fr (fun a ha => by rw [l_o (by omega), l_o (by omega)])
  obtain ⟨D1, M1, C1, K1, e1, y3⟩ := op_k hK (o_pass (z := z) C0 (k := 1 + u) (by omega) (by omega)) hz
  rw [r1, nI_sub _ _ (by omega), Nat.add_sub_cancel_left] at y3
  have bc := cntS_le (slotsF (1 + u) f) (nI 2) nT
  have bb := cntS_le (slotsF (1 + u) f) (nI 3) nT
  have er : nI (c + 100 * b) - nI (c + 100 * b) / nI 100 * nI 100 = nI c := by
    rw [iremI _ _ (by omega) (by decide)]
    congr 1
    omega
  rw [show nI (0 + 100 * 0) = nI 0 from rfl, show slotsF 0 f = f from rfl] at y2
  refine ⟨D1, M1, slotsF (1 + u) f, nF, nT, L, ch, .int (nI (1 + u)), .int (nI (c + 100 * b)), .int (nI (1 + u)), v18, v19, v20, ⟨mkST' C1 K1 (LB.up e1) (hP.up (StE.slots C.wf _) e1) h5 h7, h1⟩, fun Q => ?_⟩
  simp (disch := omega) only [sL_law_644, sL_law_645, sL_law_647, sL_law_648, sL_law_651, sL_law_652, sL_law_654, sL_law_655, sL_law_657, sL_law_658, y1, y2, true_and, and_true, true_or, or_true, eq_self, ↓reduceIte, if_true, if_false, nI_add, nI_mul, inB_nI, nI_clamp, Nat.add_zero, eqI, ltI, leI, m6_ne, ne_m6, Nat.reduceEqDiff, reduceCtorEq, Nat.reduceLT, Nat.reduceLeDiff, Nat.reduceAdd, Nat.reduceMul, Nat.zero_add, Nat.mul_zero, nar_0, nar_1, nar_b, bI_t, bI_f, bI_0, bI_1, Bool.true_eq_false, Bool.false_eq_true, Bool.and_self, Bool.and_false, Bool.false_and, Bool.true_and, Bool.and_true, and_self]
  simp (disch := omega) only [sL_law_685, sL_law_686, sL_law_688, y1, y2, k6, y3, true_and, and_true, true_or, or_true, eq_self, ↓reduceIte, if_true, if_false, nI_add, nI_mul, inB_nI, nI_clamp, Nat.add_zero, eqI, ltI, leI, m6_ne, ne_m6, Nat.reduceEqDiff, reduceCtorEq, Nat.reduceLT, Nat.reduceLeDiff, Nat.reduceAdd, Nat.reduceMul, Nat.zero_add, Nat.mul_zero, nar_0, nar_1, nar_b, bI_t, bI_f, bI_0, bI_1, Bool.true_eq_false, Bool.false_eq_true, Bool.and_self, Bool.and_false, Bool.false_and, Bool.true_and, Bool.and_true, and_self]
  simp (disch := omega) only [sL_law_691, sL_law_693, sL_law_695, sL_law_696, sL_law_699, sL_law_700, sL_law_701, er, eqI, n100, not_false_eq_true, true_and, if_true]
end AC1
