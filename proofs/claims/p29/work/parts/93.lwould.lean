/-! the law's look at what would be -/
def KD (D : vDD) (N : Nat) : Prop := ((D 0).1 = 20 ∧ (D 0).2.1 = N) ∧ IsL D 853 ∧ IsL D 858 ∧ ((D 856).1 = 8 ∧ (D 856).2.1 = 32) ∧ ((D 857).1 = 8 ∧ (D 857).2.1 = 8)
theorem KD.mv {D D1 : vDD} {M M1 : vMM} {z : vZZ} {N : Nat} (h : KD D N) (e : EQs z D M D1 M1) (hz : 861 ≤ z.1) : KD D1 N := by
  have q := fun a (ha : a < 861) => e.1 a (by omega)
  unfold KD IsL at h ⊢
  simp only [Nat.reduceAdd] at h ⊢
  rw [(q 0 (by decide)).1, (q 0 (by decide)).2, (q 853 (by decide)).1, (q 853 (by decide)).2, (q 854 (by decide)).1, (q 854 (by decide)).2, (q 855 (by decide)).1, (q 855 (by decide)).2, (q 858 (by decide)).1, (q 858 (by decide)).2, (q 859 (by decide)).1, (q 859 (by decide)).2, (q 860 (by decide)).1, (q 860 (by decide)).2, (q 856 (by decide)).1, (q 856 (by decide)).2, (q 857 (by decide)).1, (q 857 (by decide)).2]
  exact h
def ST (D : vDD) (M : vMM) (f : Nat → Int32) (nF nT L : Nat) (ch : Nat → Nat) (N : Nat) : Prop := LWS D M f nF nT L ch ∧ KD D N
section WOU
variable {D : vDD} {M : vMM} {f : Nat → Int32} {z : vZZ} {Q : Value → vDD → vMM → vZZ → Prop} {nF nT L N : Nat} {ch : Nat → Nat} {x : Int32}
theorem ST.mem (S : ST D M f nF nT L ch N) {M' : vMM} (e : ∀ a, a < 856 → M' a = M a) : ST D M' f nF nT L ch N := by
  obtain ⟨⟨C, hL, hP, hD, h5, h7⟩, hK⟩ := S
  exact ⟨⟨C.fr (fun a ha => e a (by omega)), hL.cong (fun a _ ha => e a (by omega)), hP.cong (fun t s _ _ => by rw [e 855 (by decide)]), hD, h5, h7⟩, hK⟩
theorem ST.look (S : ST D M f nF nT L ch N) {y : vMD} {as : List Value} {v : Int32} (hO : Op y as D M z v f nF nT L ch) (hz : 861 ≤ z.1) : ∃ D1 M1, ST D1 M1 f nF nT L ch N ∧ (∀ a, 853 ≤ a → M1 a = M a) ∧ ∀ Q, Runs y 0 as [] D M z Q = Q (.int v) D1 M1 z := by
  obtain ⟨D1, M1, C1, e, y⟩ := hO
  obtain ⟨⟨C, hL, hP, hD, h5, h7⟩, hK⟩ := S
  have hK1 := hK.mv (eq_runs y hK.1.1 (by omega)) hz
  exact ⟨D1, M1, ⟨⟨C1, hL.cong (fun a ha _ => e a ha), hP.cong (fun t s _ _ => by rw [e 855 (by decide)]), hK1.2.1, h5, h7⟩, hK1⟩, e, y⟩
theorem ST.k6 (S : ST D M f nF nT L ch N) : (D 1).1 = 6 := S.1.1.k6
theorem ST.most (S : ST D M f nF nT L ch N) {u fr : Nat} {o mr : Int32} (hu : u < 128) (hfr : fr ≤ nF) (hmr : mr = m1 ∨ ∃ s, s < 6 ∧ mr = nI s) : ∃ M1, ST D M1 f nF nT L ch N ∧ (∀ a, a ≠ 856 → M1 a = M a) ∧ ∀ Q, Runs ML_most 0 [.int (nI fr), .int o, .int mr, .ref 853, .ref 854, .ref 855, .int (nI u), .ref 856, vJ, vJ, vJ, vJ, vJ] [] D M z Q = Q (.int (nI (mnR (rwU (fun k t => efA f nF nT o mr (fr + k) t) u) 16 (nF + 1 - fr) noB))) D M1 z := by
  have S0 := S
  obtain ⟨⟨C, hL, hP, hD, h5, h7⟩, hK⟩ := S
  obtain ⟨R', y⟩ := z_most (D := D) (M := M) (z := z) (a := 853) (b := 856) (o := o) hL (by decide) hK.2.2.2.1 hD C.wf h5 h7 hP hu hfr hmr
  exact ⟨setR M 856 R', S0.mem (fun a ha => setR_ne (by omega)), fun a ha => setR_ne ha, y⟩
theorem l_Wo1 (hz : 861 ≤ z.1) {v12 v13 v14 v15 v16 v17 v18 v19 v20 : Value} : ∀ k i (D : vDD) (M : vMM), i + k = nF → ST D M f nF nT L ch N → (∀ j, j < nF → M 857 j = plV (ablN f nF nT) nF j) →
    ∃ D1 M1, ST D1 M1 f nF nT L ch N ∧ ∀ Q, Runs ML_would 17 [.ref 1, .int x, .ref 853, .ref 854, .ref 855, .ref 856, .ref 857, .ref 858, .ref 859, .ref 860, .int (nI (gotN (plV (ablN f nF nT) nF) i)), .int (nI i), v12, v13, v14, v15, v16, v17, v18, v19, v20] [] D M z Q = Runs ML_would 88 [.ref 1, .int x, .ref 853, .ref 854, .ref 855, .ref 856, .ref 857, .ref 858, .ref 859, .ref 860, .int (nI (gotN (plV (ablN f nF nT) nF) nF)), .int (nI nF), v12, v13, v14, v15, v16, v17, v18, v19, v20] [] D1 M1 z Q := by
  intro k
  induction k with
  | zero =>
    intro i D M hi S hp
    obtain rfl : i = nF := by omega
    have h5 := S.1.2.2.2.2.1
    have g2 := S.1.1.wf.1.1
    have q2 : M 853 2 = gG f 2 := S.1.2.1.rq (by decide)
    have hD := S.1.2.2.2.1
    simp only [IsL, Nat.reduceAdd] at hD
    refine ⟨D, M, S, fun Q => ?_⟩
    rw [sL_would_17]
    simp (disch := omega) only [sL_would_19, sL_would_20, sL_would_21, sL_would_22, hD, true_and, and_true, true_or, or_true, eq_self, ↓reduceIte, if_true, if_false, nI_add, nI_mul, inB_nI, nI_clamp, Nat.add_zero, eqI, ltI, leI, m6_ne, ne_m6, Nat.reduceEqDiff, reduceCtorEq, Nat.reduceLT, Nat.reduceLeDiff, Nat.reduceAdd, Nat.reduceMul, Nat.zero_add, Nat.mul_zero, nar_0, nar_1, nar_b, bI_t, bI_f, bI_0, bI_1, Bool.true_eq_false, Bool.false_eq_true, Bool.and_self, Bool.and_false, Bool.false_and, Bool.true_and, Bool.and_true, and_self, q2, g2, Nat.le_refl]
  | succ k ih =>
    intro i D M hi S hp
    have hlt : ¬ nF ≤ i := by omega
    have h5 := S.1.2.2.2.2.1
    have g2 := S.1.1.wf.1.1
    have q2 : M 853 2 = gG f 2 := S.1.2.1.rq (by decide)
    have hD := S.1.2.2.2.1
    have h857 := S.2.2.2.2.2
    have k6 := S.k6
    have p0 := hp i (by omega)
    obtain ⟨D1, M1, S1, e1, y1⟩ := S.look (z := z) (o_plan S.1.1 (i := i) (by omega)) hz
    have k61 := S1.k6
    have p1 : M1 857 i = plV (ablN f nF nT) nF i := by rw [e1 857 (by decide)]; exact p0
    have h857' := S1.2.2.2.2.2
    obtain ⟨D2, M2, S2, e2, y2⟩ := S1.look (z := z) (o_ifAway S1.1.1 (i := i) (by omega)) hz
    obtain ⟨M3, S3, e3, y3⟩ := S2.most (z := z) (u := 0) (fr := 0) (o := nI i) (mr := m1) (by decide) (Nat.zero_le _) (Or.inl rfl)
    rw [mv_out (by omega) (by omega)] at y3
    obtain ⟨D4, M4, S4, y4⟩ := ih (i + 1) D2 M3 (by omega) S3 (fun j hj => by rw [e3 857 (by decide), e2 857 (by decide), e1 857 (by decide)]; exact hp j hj)
    simp only [gotN] at y4
    simp only [IsL, Nat.reduceAdd] at hD
    refine ⟨D4, M4, S4, fun Q => ?_⟩
    rw [sL_would_17]
    rcases plV_spec (A := ablN f nF nT) (n := nF) (g := i) with e | ⟨v, hv, e, -, -⟩
    · rw [if_pos e, Nat.add_zero] at y4
      rw [e] at p0 p1 y1
      simp (disch := omega) only [sL_would_19, sL_would_20, sL_would_21, sL_would_22, sL_would_25, sL_would_27, sL_would_29, sL_would_31, sL_would_32, sL_would_35, sL_would_36, sL_would_39, sL_would_40, sL_would_41, sL_would_43, sL_would_44, sL_would_46, sL_would_49, sL_would_51, sL_would_53, sL_would_54, sL_would_57, sL_would_58, sL_would_60, sL_would_63, sL_would_64, sL_would_66, sL_would_67, sL_would_68, sL_would_69, sL_would_71, sL_would_72, sL_would_74, sL_would_77, sL_would_80, sL_would_81, sL_would_82, sL_would_85, hD, h857, h857', k6, k61, true_and, and_true, true_or, or_true, eq_self, ↓reduceIte, if_true, if_false, nI_add, nI_mul, inB_nI, nI_clamp, Nat.add_zero, eqI, ltI, leI, m6_ne, ne_m6, Nat.reduceEqDiff, reduceCtorEq, Nat.reduceLT, Nat.reduceLeDiff, Nat.reduceAdd, Nat.reduceMul, Nat.zero_add, Nat.mul_zero, nar_0, nar_1, nar_b, bI_t, bI_f, bI_0, bI_1, Bool.true_eq_false, Bool.false_eq_true, Bool.and_self, Bool.and_false, Bool.false_and, Bool.true_and, Bool.and_true, and_self, q2, g2, hlt, p0, m6_lt0, y1, p1, y2, y3, y4]
    · rw [if_neg (by rw [e]; exact nI_nm6 (by omega))] at y4
      have hn : ¬ v < 0 := Nat.not_lt_zero v
      rw [e] at p0 p1 y1
      simp (disch := omega) only [sL_would_19, sL_would_20, sL_would_21, sL_would_22, sL_would_25, sL_would_27, sL_would_29, sL_would_31, sL_would_32, sL_would_35, sL_would_36, sL_would_39, sL_would_40, sL_would_41, sL_would_43, sL_would_44, sL_would_46, sL_would_49, sL_would_51, sL_would_53, sL_would_54, sL_would_57, sL_would_58, sL_would_60, sL_would_63, sL_would_64, sL_would_66, sL_would_67, sL_would_68, sL_would_69, sL_would_71, sL_would_72, sL_would_74, sL_would_77, sL_would_80, sL_would_81, sL_would_82, sL_would_85, hD, h857, h857', k6, k61, true_and, and_true, true_or, or_true, eq_self, ↓reduceIte, if_true, if_false, nI_add, nI_mul, inB_nI, nI_clamp, Nat.add_zero, eqI, ltI, leI, m6_ne, ne_m6, Nat.reduceEqDiff, reduceCtorEq, Nat.reduceLT, Nat.reduceLeDiff, Nat.reduceAdd, Nat.reduceMul, Nat.zero_add, Nat.mul_zero, nar_0, nar_1, nar_b, bI_t, bI_f, bI_0, bI_1, Bool.true_eq_false, Bool.false_eq_true, Bool.and_self, Bool.and_false, Bool.false_and, Bool.true_and, Bool.and_true, and_self, q2, g2, hlt, p0, hn, y1, p1, y2, y3, y4]
theorem l_Wo2 {vg v15 v16 v17 v18 v19 v20 : Value} : ∀ j (M : vMM) (sk top : Int32) (v14 : Value), j ≤ 6 → ST D M f nF nT L ch N → ((j = 6 ∧ top = m1) ∨ ∃ k, Fst (bsV f nF nT) j 6 k ∧ sk = nI k ∧ top = nI (bsV f nF nT k)) →
    ∃ M1 k w14, Fst (bsV f nF nT) 0 6 k ∧ ST D M1 f nF nT L ch N ∧ ∀ Q, Runs ML_would 97 [.ref 1, .int x, .ref 853, .ref 854, .ref 855, .ref 856, .ref 857, .ref 858, .ref 859, .ref 860, vg, .int sk, .int top, .int (nI j - nI 1), v14, v15, v16, v17, v18, v19, v20] [] D M z Q = Runs ML_would 142 [.ref 1, .int x, .ref 853, .ref 854, .ref 855, .ref 856, .ref 857, .ref 858, .ref 859, .ref 860, vg, .int (nI k), .int (nI (bsV f nF nT k)), .int m1, w14, v15, v16, v17, v18, v19, v20] [] D M1 z Q := by
  intro j
  induction j with
  | zero =>
    intro M sk top v14 hj S h
    rcases h with ⟨h, -⟩ | ⟨k, h1, rfl, rfl⟩
    · omega
    · refine ⟨M, k, v14, h1, S, fun Q => ?_⟩
      rw [i0m1, sL_would_97]
      simp (disch := omega) only [sL_would_99, true_and, and_true, true_or, or_true, eq_self, ↓reduceIte, if_true, if_false, nI_add, nI_mul, inB_nI, nI_clamp, Nat.add_zero, eqI, ltI, leI, m6_ne, ne_m6, Nat.reduceEqDiff, reduceCtorEq, Nat.reduceLT, Nat.reduceLeDiff, Nat.reduceAdd, Nat.reduceMul, Nat.zero_add, Nat.mul_zero, nar_0, nar_1, nar_b, bI_t, bI_f, bI_0, bI_1, Bool.true_eq_false, Bool.false_eq_true, Bool.and_self, Bool.and_false, Bool.false_and, Bool.true_and, Bool.and_true, and_self, m1_lt]
  | succ j ih =>
    intro M sk top v14 hj S h
    have ej : nI (j + 1) - nI 1 = nI j := nI_sub _ _ (by omega)
    have hn : ¬ j < 0 := Nat.not_lt_zero j
    have h5 := S.1.2.2.2.2.1
    have bj := bsV_le (f := f) (nF := nF) (nT := nT) (s := j)
    obtain ⟨M1, S1, e1, y1⟩ := S.most (z := z) (u := 0) (fr := 0) (o := m1) (mr := nI j) (by decide) (Nat.zero_le _) (Or.inr ⟨j, by omega, rfl⟩)
    rw [mv_more (by omega) (by omega)] at y1
    have upd_ : ∀ (hF : Fst (bsV f nF nT) j 6 j), ∃ M1' k w14, Fst (bsV f nF nT) 0 6 k ∧ ST D M1' f nF nT L ch N ∧ ∀ Q, Runs ML_would 97 [.ref 1, .int x, .ref 853, .ref 854, .ref 855, .ref 856, .ref 857, .ref 858, .ref 859, .ref 860, vg, .int (nI j), .int (nI (bsV f nF nT j)), .int (nI j - nI 1), .int (nI (bsV f nF nT j)), v15, v16, v17, v18, v19, v20] [] D M1 z Q = Runs ML_would 142 [.ref 1, .int x, .ref 853, .ref 854, .ref 855, .ref 856, .ref 857, .ref 858, .ref 859, .ref 860, vg, .int (nI k), .int (nI (bsV f nF nT k)), .int m1, w14, v15, v16, v17, v18, v19, v20] [] D M1' z Q := fun hF => ih M1 (nI j) (nI (bsV f nF nT j)) (.int (nI (bsV f nF nT j))) (by omega) S1 (Or.inr ⟨j, hF, rfl, rfl⟩)
    rcases h with ⟨h, rfl⟩ | ⟨k, h1, rfl, rfl⟩
    · obtain rfl : j = 5 := by omega
      obtain ⟨M2, k, w14, r1, r2, r3⟩ := upd_ Fst.one
      have hl : m1 ≤ nI (bsV f nF nT 5) := Int32.le_of_lt (m1_lt_nI (by omega))
      refine ⟨M2, k, w14, r1, r2, fun Q => ?_⟩
      rw [ej, sL_would_97]
      simp (disch := omega) only [sL_would_99, sL_would_102, sL_would_103, sL_would_104, sL_would_106, sL_would_107, sL_would_108, sL_would_110, sL_would_111, sL_would_113, sL_would_116, sL_would_118, sL_would_120, sL_would_122, sL_would_125, sL_would_128, sL_would_130, sL_would_132, sL_would_134, sL_would_136, sL_would_139, true_and, and_true, true_or, or_true, eq_self, ↓reduceIte, if_true, if_false, nI_add, nI_mul, inB_nI, nI_clamp, Nat.add_zero, eqI, ltI, leI, m6_ne, ne_m6, Nat.reduceEqDiff, reduceCtorEq, Nat.reduceLT, Nat.reduceLeDiff, Nat.reduceAdd, Nat.reduceMul, Nat.zero_add, Nat.mul_zero, nar_0, nar_1, nar_b, bI_t, bI_f, bI_0, bI_1, Bool.true_eq_false, Bool.false_eq_true, Bool.and_self, Bool.and_false, Bool.false_and, Bool.true_and, Bool.and_true, and_self, hn, y1, hl, add_m1, r3]
    · have bk := bsV_le (f := f) (nF := nF) (nT := nT) (s := k)
      by_cases hl : bsV f nF nT j < bsV f nF nT k
      · obtain ⟨M2, k', w14, r1, r2, r3⟩ := ih M1 (nI k) (nI (bsV f nF nT k)) (.int (nI (bsV f nF nT j))) (by omega) S1 (Or.inr ⟨k, h1.up.1 hl, rfl, rfl⟩)
        have hl : ¬ bsV f nF nT k ≤ bsV f nF nT j := by omega
        refine ⟨M2, k', w14, r1, r2, fun Q => ?_⟩
        rw [ej, sL_would_97]
        simp (disch := omega) only [sL_would_99, sL_would_102, sL_would_103, sL_would_104, sL_would_106, sL_would_107, sL_would_108, sL_would_110, sL_would_111, sL_would_113, sL_would_116, sL_would_118, sL_would_120, sL_would_122, sL_would_125, sL_would_128, sL_would_130, sL_would_132, sL_would_134, sL_would_136, sL_would_139, true_and, and_true, true_or, or_true, eq_self, ↓reduceIte, if_true, if_false, nI_add, nI_mul, inB_nI, nI_clamp, Nat.add_zero, eqI, ltI, leI, m6_ne, ne_m6, Nat.reduceEqDiff, reduceCtorEq, Nat.reduceLT, Nat.reduceLeDiff, Nat.reduceAdd, Nat.reduceMul, Nat.zero_add, Nat.mul_zero, nar_0, nar_1, nar_b, bI_t, bI_f, bI_0, bI_1, Bool.true_eq_false, Bool.false_eq_true, Bool.and_self, Bool.and_false, Bool.false_and, Bool.true_and, Bool.and_true, and_self, hn, y1, hl, add_m1, r3]
      · obtain ⟨M2, k', w14, r1, r2, r3⟩ := upd_ (h1.up.2 hl)
        have hl : bsV f nF nT k ≤ bsV f nF nT j := by omega
        refine ⟨M2, k', w14, r1, r2, fun Q => ?_⟩
        rw [ej, sL_would_97]
        simp (disch := omega) only [sL_would_99, sL_would_102, sL_would_103, sL_would_104, sL_would_106, sL_would_107, sL_would_108, sL_would_110, sL_would_111, sL_would_113, sL_would_116, sL_would_118, sL_would_120, sL_would_122, sL_would_125, sL_would_128, sL_would_130, sL_would_132, sL_would_134, sL_would_136, sL_would_139, true_and, and_true, true_or, or_true, eq_self, ↓reduceIte, if_true, if_false, nI_add, nI_mul, inB_nI, nI_clamp, Nat.add_zero, eqI, ltI, leI, m6_ne, ne_m6, Nat.reduceEqDiff, reduceCtorEq, Nat.reduceLT, Nat.reduceLeDiff, Nat.reduceAdd, Nat.reduceMul, Nat.zero_add, Nat.mul_zero, nar_0, nar_1, nar_b, bI_t, bI_f, bI_0, bI_1, Bool.true_eq_false, Bool.false_eq_true, Bool.and_self, Bool.and_false, Bool.false_and, Bool.true_and, Bool.and_true, and_self, hn, y1, hl, add_m1, r3]
/-- up to the skill that helps most -/
theorem z_wou1 (S : ST D M f nF nT L ch N) (hz : 861 ≤ z.1) : ∃ D1 M1 w10 w11 w12 w13 w14, ST D1 M1 f nF nT L ch N ∧ ∀ Q, Runs ML_would 0 [.ref 1, .int x, .ref 853, .ref 854, .ref 855, .ref 856, .ref 857, .ref 858, .ref 859, .ref 860, vJ, vJ, vJ, vJ, vJ, vJ, vJ, vJ, vJ, vJ, vJ] [] D M z Q = Runs ML_would 173 [.ref 1, .int x, .ref 853, .ref 854, .ref 855, .ref 856, .ref 857, .ref 858, .ref 859, .ref 860, w10, w11, w12, w13, w14, vJ, vJ, vJ, vJ, vJ, vJ] [] D1 M1 z Q := by
  have S0 := S
  obtain ⟨⟨C, hL, hP, hD, h5, h7⟩, hK⟩ := S
  have hW := C.wf
  obtain ⟨M1, e1, p1, y1⟩ := z_plan (D := D) (M := M) (z := z) (a := 853) (b := 856) (p := 857) hL (by decide) (by decide) (by decide) hK.2.2.2.1 hK.2.2.2.2 hD hW h5 h7 hP
  have S1 : ST D M1 f nF nT L ch N := S0.mem (fun a ha => e1 a (by omega) (by omega))
  obtain ⟨D2, M2, S2, y2⟩ := l_Wo1 (x := x) (f := f) (nT := nT) (L := L) (ch := ch) (N := N) (z := z) hz (v12 := vJ) (v13 := vJ) (v14 := vJ) (v15 := vJ) (v16 := vJ) (v17 := vJ) (v18 := vJ) (v19 := vJ) (v20 := vJ) nF 0 D M1 (by omega) S1 p1
  obtain ⟨M3, k, w14, r1, S3, y3⟩ := l_Wo2 (x := x) (z := z) (vg := .int (nI (gotN (plV (ablN f nF nT) nF) nF))) (v15 := vJ) (v16 := vJ) (v17 := vJ) (v18 := vJ) (v19 := vJ) (v20 := vJ) 6 M2 (nI 0) m1 vJ (Nat.le_refl _) S2 (Or.inl ⟨rfl, rfl⟩)
  obtain ⟨D4, M4, S4, -, y4⟩ := S3.look (z := z) (o_planned S3.1.1) hz
  obtain ⟨D5, M5, S5, -, y5⟩ := S4.look (z := z) (o_bestSkill S4.1.1 (w := 0) (N := 6) rfl (by decide)) hz
  obtain ⟨D6, M6, S6, -, y6⟩ := S5.look (z := z) (o_bestSkill S5.1.1 (w := 1) (N := 6) rfl (by decide)) hz
  obtain ⟨k', q1, q2⟩ := bs_fst (f := f) (nF := nF) (nT := nT) 5
  obtain rfl : k = k' := r1.uniq q1
  rw [if_pos rfl, q2] at y5
  simp only [] at y5
  rw [if_neg (by decide), q2] at y6
  simp only [] at y6
  have k3 := S3.k6
  have k4 := S4.k6
  have k5 := S5.k6
  have ga := got_all (A := ablN f nF nT) (n := nF)
  rw [ga] at y2 y3
  simp only [Nat.reduceAdd] at y1
  rw [show gotN (plV (ablN f nF nT) nF) 0 = 0 from rfl] at y2
  have e5 : nI 5 = nI 6 - nI 1 := rfl
  rw [← e5] at y3
  refine ⟨D6, M6, .int (nI (behF (ablN f nF nT) nF 0 fun _ => true)), .int (nI k), .int (nI (bsV f nF nT k)), .int m1, w14, S6, fun Q => ?_⟩
  simp (disch := omega) only [sL_would_0, sL_would_1, sL_would_2, sL_would_4, sL_would_6, sL_would_8, sL_would_11, sL_would_12, sL_would_14, sL_would_15, y1, y2, sL_would_88, sL_would_89, sL_would_91, sL_would_92, sL_would_94, sL_would_95, y3, sL_would_142, sL_would_143, sL_would_146, sL_would_148, sL_would_151, sL_would_152, sL_would_153, sL_would_156, sL_would_158, sL_would_161, sL_would_162, sL_would_163, sL_would_166, sL_would_168, sL_would_171, sL_would_172, k3, k4, k5, true_and, and_true, true_or, or_true, eq_self, ↓reduceIte, if_true, if_false, nI_add, nI_mul, inB_nI, nI_clamp, Nat.add_zero, eqI, ltI, leI, m6_ne, ne_m6, Nat.reduceEqDiff, reduceCtorEq, Nat.reduceLT, Nat.reduceLeDiff, Nat.reduceAdd, Nat.reduceMul, Nat.zero_add, Nat.mul_zero, nar_0, nar_1, nar_b, bI_t, bI_f, bI_0, bI_1, Bool.true_eq_false, Bool.false_eq_true, Bool.and_self, Bool.and_false, Bool.false_and, Bool.true_and, Bool.and_true, and_self, y4, y5, y6]
end WOU
