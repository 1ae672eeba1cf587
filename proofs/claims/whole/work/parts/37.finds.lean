/-! finds, in the model's memory -/
def kM (m : vMM) (tO fO cF rq : Nat → Int32) : vMM := setR (setR (setR (setR m 861 tO) 862 fO) 863 cF) 864 rq
def rwM (m : vMM) (x : Int32) : Nat → Nat → Bool := fun g t => (m 860 (16 * g + t) == nI 1) && ((x >>> (nI t &&& 31)) &&& nI 1) == nI 1
section KM
variable {m : vMM} {tO fO cF rq : Nat → Int32} {i : Nat} {x : Int32}
theorem k_1 : kM m tO fO cF rq 861 = tO := by unfold kM; rw [setR_ne (by decide), setR_ne (by decide), setR_ne (by decide), setR_eq]
theorem k_2 : kM m tO fO cF rq 862 = fO := by unfold kM; rw [setR_ne (by decide), setR_ne (by decide), setR_eq]
theorem k_3 : kM m tO fO cF rq 863 = cF := by unfold kM; rw [setR_ne (by decide), setR_eq]
theorem k_4 : kM m tO fO cF rq 864 = rq := by unfold kM; rw [setR_eq]
theorem k_o {a : Nat} (h : a < 861 ∨ 864 < a) : kM m tO fO cF rq a = m a := by unfold kM; rw [setR_ne (by omega), setR_ne (by omega), setR_ne (by omega), setR_ne (by omega)]
theorem setR_comm {a b : Nat} {r s : Nat → Int32} (h : a ≠ b) : setR (setR m a r) b s = setR (setR m b s) a r := by
  funext q
  by_cases h1 : q = b
  · subst h1
    rw [setR_eq, setR_ne (Ne.symm h), setR_eq]
  · rw [setR_ne h1]
    by_cases h2 : q = a
    · subst h2; rw [setR_eq, setR_eq]
    · rw [setR_ne h2, setR_ne h2, setR_ne h1]
theorem k_w1 : up2 (kM m tO fO cF rq) 861 i x = kM m (upd tO i x) fO cF rq := by
  rw [up2_R, k_1]
  unfold kM
  rw [setR_comm (a := 864) (b := 861) (by decide), setR_comm (a := 863) (b := 861) (by decide), setR_comm (a := 862) (b := 861) (by decide), setR_R]
theorem k_w2 : up2 (kM m tO fO cF rq) 862 i x = kM m tO (upd fO i x) cF rq := by
  rw [up2_R, k_2]
  unfold kM
  rw [setR_comm (a := 864) (b := 862) (by decide), setR_comm (a := 863) (b := 862) (by decide), setR_R]
theorem k_w3 : up2 (kM m tO fO cF rq) 863 i x = kM m tO fO (upd cF i x) rq := by
  rw [up2_R, k_3]
  unfold kM
  rw [setR_comm (a := 864) (b := 863) (by decide), setR_R]
theorem k_w4 : up2 (kM m tO fO cF rq) 864 i x = kM m tO fO cF (upd rq i x) := by
  rw [up2_R, k_4]
  unfold kM
  rw [setR_R]
end KM
section FINDS
variable {D : vDD} {m : vMM} {z : vZZ} {rw : Nat → Nat → Bool} {W : Nat → Prop} {x : Int32}
theorem l_trace (hM : IsMo D) {q : Nat → Nat} {cF rq : Nat → Int32} {v1 v2 v3 v4 : Value} {b : Bool} : ∀ (j l : Nat) (tO fO : Nat → Int32) (v7 v8 : Value), TRp rw W q cF tO fO j l →
    ∃ tO' fO', (MTs rw tO' fO' ∧ CLs rw W fO' ∧ ∀ g, g < 9 → (tO' g = m6 ↔ (tO g = m6 ∧ g ≠ q 0))) ∧ ∀ Q, Runs MX7_finds 186 [.ref 853, v1, v2, v3, v4, .int (nI l), .int (bI b), v7, v8] [] D (kM m tO fO cF rq) z Q = Q (.int (bI b)) D (kM m tO' fO' cF rq) z := by
  have h1 := hM
  simp only [IsMo] at h1
  intro j
  induction j using Nat.strongRecOn with
  | ind j ih =>
    intro l tO fO v7 v8 H
    have l16 := H.1.1
    have c1 := H.1.2.1
    have qj := H.2.2.2.2.1.2.2.1 j (Nat.le_refl _)
    rcases Nat.eq_zero_or_pos j with z0 | z0
    · subst z0
      obtain ⟨f1, f2, f3, f4⟩ := H.fin
      refine ⟨_, _, ⟨f1, f2, f4⟩, fun Q => ?_⟩
      rw [sX7_finds_186]
      simp (disch := omega) only [sX7_finds_188, sX7_finds_190, sX7_finds_193, sX7_finds_194, sX7_finds_197, sX7_finds_199, sX7_finds_200, sX7_finds_202, sX7_finds_203, sX7_finds_206, sX7_finds_208, sX7_finds_209, sX7_finds_211, sX7_finds_212, sX7_finds_215, sX7_finds_217, sX7_finds_219, sX7_finds_220, sX7_finds_221, sX7_finds_224, sX7_finds_226, sX7_finds_228, sX7_finds_229, sX7_finds_231, sX7_finds_233, sX7_finds_236, sX7_finds_238, h1, true_and, and_true, true_or, or_true, eq_self, ↓reduceIte, if_true, if_false, nI_add, nI_mul, inB_nI, nI_clamp, Nat.add_zero, eqI, ltI, leI, m6_ne, ne_m6, Nat.reduceEqDiff, reduceCtorEq, Nat.reduceLT, Nat.reduceLeDiff, Nat.reduceAdd, Nat.reduceMul, Nat.zero_add, Nat.mul_zero, nar_0, nar_1, nar_b, bI_t, bI_f, bI_0, bI_1, Bool.true_eq_false, Bool.false_eq_true, Bool.and_self, Bool.and_false, Bool.false_and, Bool.true_and, Bool.and_true, and_self, ne_m6, k_1, k_2, k_3, k_4, k_w1, k_w2, c1, f3]
      rw [sX7_finds_186]
      simp (disch := omega) only [sX7_finds_188, sX7_finds_190, sX7_finds_193, sX7_finds_194, sX7_finds_197, sX7_finds_199, sX7_finds_200, sX7_finds_202, sX7_finds_203, sX7_finds_206, sX7_finds_208, sX7_finds_209, sX7_finds_211, sX7_finds_212, sX7_finds_215, sX7_finds_217, sX7_finds_219, sX7_finds_220, sX7_finds_221, sX7_finds_224, sX7_finds_226, sX7_finds_228, sX7_finds_229, sX7_finds_231, sX7_finds_233, sX7_finds_236, sX7_finds_238, h1, true_and, and_true, true_or, or_true, eq_self, ↓reduceIte, if_true, if_false, nI_add, nI_mul, inB_nI, nI_clamp, Nat.add_zero, eqI, ltI, leI, m6_ne, ne_m6, Nat.reduceEqDiff, reduceCtorEq, Nat.reduceLT, Nat.reduceLeDiff, Nat.reduceAdd, Nat.reduceMul, Nat.zero_add, Nat.mul_zero, nar_0, nar_1, nar_b, bI_t, bI_f, bI_0, bI_1, Bool.true_eq_false, Bool.false_eq_true, Bool.and_self, Bool.and_false, Bool.false_and, Bool.true_and, Bool.and_true, and_self, nar_b]
    · obtain ⟨u, i, ij, u16, tu, H2, hd⟩ := H.step z0
      obtain ⟨tO', fO', ⟨r1, r2, r3⟩, r4⟩ := ih i ij u _ _ (.int (nI (q j))) (.int (nI u)) H2
      refine ⟨tO', fO', ⟨r1, r2, fun g hg => ?_⟩, fun Q => ?_⟩
      · rw [r3 g hg, hd g hg]
      · rw [sX7_finds_186]
        simp (disch := omega) only [sX7_finds_188, sX7_finds_190, sX7_finds_193, sX7_finds_194, sX7_finds_197, sX7_finds_199, sX7_finds_200, sX7_finds_202, sX7_finds_203, sX7_finds_206, sX7_finds_208, sX7_finds_209, sX7_finds_211, sX7_finds_212, sX7_finds_215, sX7_finds_217, sX7_finds_219, sX7_finds_220, sX7_finds_221, sX7_finds_224, sX7_finds_226, sX7_finds_228, sX7_finds_229, sX7_finds_231, sX7_finds_233, sX7_finds_236, sX7_finds_238, h1, true_and, and_true, true_or, or_true, eq_self, ↓reduceIte, if_true, if_false, nI_add, nI_mul, inB_nI, nI_clamp, Nat.add_zero, eqI, ltI, leI, m6_ne, ne_m6, Nat.reduceEqDiff, reduceCtorEq, Nat.reduceLT, Nat.reduceLeDiff, Nat.reduceAdd, Nat.reduceMul, Nat.zero_add, Nat.mul_zero, nar_0, nar_1, nar_b, bI_t, bI_f, bI_0, bI_1, Bool.true_eq_false, Bool.false_eq_true, Bool.and_self, Bool.and_false, Bool.false_and, Bool.true_and, Bool.and_true, and_self, ne_m6, k_1, k_2, k_3, k_4, k_w1, k_w2, c1, tu]
        rw [r4]
/-- one thing looked at by the fixer a of the row -/
theorem l_inner (hM : IsMo D) (hrw : rw = rwM m x) {tO fO : Nat → Int32} {fx a : Nat} {v1 : Value} (hT : MTs rw tO fO) (hC : CLs rw W fO) (h0 : tO fx = m6) :
    ∀ (k t : Nat) (q : Nat → Nat) (cF rq : Nat → Int32) (b : Nat), t + k = 16 → BQs rw q cF tO fO rq fx b → a < b → (∀ j, j ≤ a → ∀ u, u < 16 → (j < a ∨ u < t) → rw (q j) u = true → cF u ≠ m6) →
    (∃ q' cF' rq' b' v, (BQs rw q' cF' tO fO rq' fx b' ∧ a < b' ∧ b ≤ b' ∧ ∀ j, j ≤ a → ∀ u, u < 16 → rw (q' j) u = true → cF' u ≠ m6) ∧ ∀ Q, Runs MX7_finds 65 [.ref 853, v1, .int x, .int (nI (a + 1)), .int (nI b), .int m6, .int (nI (q a)), .int (nI t), vJ] [] D (kM m tO fO cF rq) z Q = Runs MX7_finds 38 [.ref 853, v1, .int x, .int (nI (a + 1)), .int (nI b'), .int m6, .int (nI (q' a)), v, vJ] [] D (kM m tO fO cF' rq') z Q) ∨
    (∃ q' cF' rq' b' l v, (TRp rw W q' cF' tO fO a l ∧ q' 0 = fx ∧ l < 16 ∧ b' ≤ 9) ∧ ∀ Q, Runs MX7_finds 65 [.ref 853, v1, .int x, .int (nI (a + 1)), .int (nI b), .int m6, .int (nI (q a)), .int (nI t), vJ] [] D (kM m tO fO cF rq) z Q = Runs MX7_finds 38 [.ref 853, v1, .int x, .int (nI (a + 1)), .int (nI b'), .int (nI l), .int (nI (q' a)), v, vJ] [] D (kM m tO fO cF' rq') z Q) := by
  have h1 := hM
  simp only [IsMo] at h1
  intro k
  induction k with
  | zero =>
    intro t q cF rq b ht HB hab hcl
    obtain rfl : t = 16 := by omega
    left
    refine ⟨q, cF, rq, b, .int (nI 16), ⟨HB, hab, Nat.le_refl _, fun j hj u hu => hcl j hj u hu (by omega)⟩, fun Q => ?_⟩
    rw [sX7_finds_65]
    simp (disch := omega) only [sX7_finds_67, sX7_finds_69, sX7_finds_72, sX7_finds_74, sX7_finds_76, sX7_finds_79, sX7_finds_80, sX7_finds_83, sX7_finds_85, sX7_finds_87, sX7_finds_88, sX7_finds_90, sX7_finds_91, sX7_finds_92, sX7_finds_93, sX7_finds_96, sX7_finds_97, sX7_finds_99, sX7_finds_100, sX7_finds_101, sX7_finds_102, sX7_finds_103, sX7_finds_106, sX7_finds_107, sX7_finds_110, sX7_finds_112, sX7_finds_113, sX7_finds_115, sX7_finds_118, sX7_finds_119, sX7_finds_122, sX7_finds_124, sX7_finds_126, sX7_finds_127, sX7_finds_128, sX7_finds_131, sX7_finds_133, sX7_finds_134, sX7_finds_136, sX7_finds_139, sX7_finds_141, sX7_finds_143, sX7_finds_146, sX7_finds_147, sX7_finds_150, sX7_finds_152, sX7_finds_153, sX7_finds_156, sX7_finds_158, sX7_finds_159, sX7_finds_160, sX7_finds_163, sX7_finds_166, sX7_finds_169, h1, true_and, and_true, true_or, or_true, eq_self, ↓reduceIte, if_true, if_false, nI_add, nI_mul, inB_nI, nI_clamp, Nat.add_zero, eqI, ltI, leI, m6_ne, ne_m6, Nat.reduceEqDiff, reduceCtorEq, Nat.reduceLT, Nat.reduceLeDiff, Nat.reduceAdd, Nat.reduceMul, Nat.zero_add, Nat.mul_zero, nar_0, nar_1, nar_b, bI_t, bI_f, bI_0, bI_1, Bool.true_eq_false, Bool.false_eq_true, Bool.and_self, Bool.and_false, Bool.false_and, Bool.true_and, Bool.and_true, and_self, Nat.le_refl]
  | succ k ih =>
    intro t q cF rq b ht HB hab hcl
    have hlt : ¬ 16 ≤ t := by omega
    have qa := (HB.1.2.2.2.1 a hab).2
    have b9 := HB.1.2.1
    by_cases hA : rw (q a) t = true ∧ cF t = m6
    · obtain ⟨hr, hc⟩ := hA
      have hr2 := hr
      rw [hrw] at hr2
      simp only [rwM, Bool.and_eq_true, beq_iff_eq] at hr2
      obtain ⟨e1, e2⟩ := hr2
      rcases hT.2 t (by omega) with hf | ⟨g, g9, hf, hg⟩
      · -- found
        right
        refine ⟨q, upd cF t (nI (q a)), rq, b, t, .int (nI (t + 1)), ⟨HB.found hT hC h0 (by omega) hc hf hab hr, HB.1.2.2.1, by omega, b9⟩, fun Q => ?_⟩
        rw [sX7_finds_65]
        simp (disch := omega) only [sX7_finds_67, sX7_finds_69, sX7_finds_72, sX7_finds_74, sX7_finds_76, sX7_finds_79, sX7_finds_80, sX7_finds_83, sX7_finds_85, sX7_finds_87, sX7_finds_88, sX7_finds_90, sX7_finds_91, sX7_finds_92, sX7_finds_93, sX7_finds_96, sX7_finds_97, sX7_finds_99, sX7_finds_100, sX7_finds_101, sX7_finds_102, sX7_finds_103, sX7_finds_106, sX7_finds_107, sX7_finds_110, sX7_finds_112, sX7_finds_113, sX7_finds_115, sX7_finds_118, sX7_finds_119, sX7_finds_122, sX7_finds_124, sX7_finds_126, sX7_finds_127, sX7_finds_128, sX7_finds_131, sX7_finds_133, sX7_finds_134, sX7_finds_136, sX7_finds_139, sX7_finds_141, sX7_finds_143, sX7_finds_146, sX7_finds_147, sX7_finds_150, sX7_finds_152, sX7_finds_153, sX7_finds_156, sX7_finds_158, sX7_finds_159, sX7_finds_160, sX7_finds_163, sX7_finds_166, sX7_finds_169, h1, true_and, and_true, true_or, or_true, eq_self, ↓reduceIte, if_true, if_false, nI_add, nI_mul, inB_nI, nI_clamp, Nat.add_zero, eqI, ltI, leI, m6_ne, ne_m6, Nat.reduceEqDiff, reduceCtorEq, Nat.reduceLT, Nat.reduceLeDiff, Nat.reduceAdd, Nat.reduceMul, Nat.zero_add, Nat.mul_zero, nar_0, nar_1, nar_b, bI_t, bI_f, bI_0, bI_1, Bool.true_eq_false, Bool.false_eq_true, Bool.and_self, Bool.and_false, Bool.false_and, Bool.true_and, Bool.and_true, and_self, hlt, k_2, k_3, k_w3, k_o, e1, e2, hc, hf]
        rw [sX7_finds_65]
        by_cases h15 : 16 ≤ t + 1 <;>
        simp (disch := omega) only [sX7_finds_67, sX7_finds_69, sX7_finds_72, sX7_finds_74, sX7_finds_76, sX7_finds_79, sX7_finds_80, sX7_finds_83, sX7_finds_85, sX7_finds_87, sX7_finds_88, sX7_finds_90, sX7_finds_91, sX7_finds_92, sX7_finds_93, sX7_finds_96, sX7_finds_97, sX7_finds_99, sX7_finds_100, sX7_finds_101, sX7_finds_102, sX7_finds_103, sX7_finds_106, sX7_finds_107, sX7_finds_110, sX7_finds_112, sX7_finds_113, sX7_finds_115, sX7_finds_118, sX7_finds_119, sX7_finds_122, sX7_finds_124, sX7_finds_126, sX7_finds_127, sX7_finds_128, sX7_finds_131, sX7_finds_133, sX7_finds_134, sX7_finds_136, sX7_finds_139, sX7_finds_141, sX7_finds_143, sX7_finds_146, sX7_finds_147, sX7_finds_150, sX7_finds_152, sX7_finds_153, sX7_finds_156, sX7_finds_158, sX7_finds_159, sX7_finds_160, sX7_finds_163, sX7_finds_166, sX7_finds_169, h1, true_and, and_true, true_or, or_true, eq_self, ↓reduceIte, if_true, if_false, nI_add, nI_mul, inB_nI, nI_clamp, Nat.add_zero, eqI, ltI, leI, m6_ne, ne_m6, Nat.reduceEqDiff, reduceCtorEq, Nat.reduceLT, Nat.reduceLeDiff, Nat.reduceAdd, Nat.reduceMul, Nat.zero_add, Nat.mul_zero, nar_0, nar_1, nar_b, bI_t, bI_f, bI_0, bI_1, Bool.true_eq_false, Bool.false_eq_true, Bool.and_self, Bool.and_false, Bool.false_and, Bool.true_and, Bool.and_true, and_self, h15, ne_m6]
      · -- its fixer goes behind the row
        have hroom := (HB.room hT h0 (by omega) hc g9 hf hg).2
        have HB2 := HB.push (q' := fun j => if j = b then g else q j) hT h0 (by omega) hc g9 hf hg hab hr (if_pos rfl) (fun j hj => if_neg hj)
        have eqa : (fun j => if j = b then g else q j) a = q a := if_neg (by omega)
        have hcl2 : ∀ j, j ≤ a → ∀ u, u < 16 → (j < a ∨ u < t + 1) → rw ((fun j => if j = b then g else q j) j) u = true → upd cF t (nI (q a)) u ≠ m6 := by
          intro j hj u hu hju hru
          have ej : (fun j => if j = b then g else q j) j = q j := if_neg (by omega)
          rw [ej] at hru
          by_cases e : u = t
          · subst e
            rw [upd_eq]
            exact nI_nm6 (by omega)
          · rw [upd_ne _ _ e]
            exact hcl j hj u hu (by omega) hru
        generalize (fun j => if j = b then g else q j) = q2 at HB2 eqa hcl2
        have step : ∀ Q, Runs MX7_finds 65 [.ref 853, v1, .int x, .int (nI (a + 1)), .int (nI b), .int m6, .int (nI (q a)), .int (nI t), vJ] [] D (kM m tO fO cF rq) z Q = Runs MX7_finds 65 [.ref 853, v1, .int x, .int (nI (a + 1)), .int (nI (b + 1)), .int m6, .int (nI (q2 a)), .int (nI (t + 1)), vJ] [] D (kM m tO fO (upd cF t (nI (q a))) (upd rq b (nI g))) z Q := fun Q => by
          rw [sX7_finds_65, eqa]
          simp (disch := omega) only [sX7_finds_67, sX7_finds_69, sX7_finds_72, sX7_finds_74, sX7_finds_76, sX7_finds_79, sX7_finds_80, sX7_finds_83, sX7_finds_85, sX7_finds_87, sX7_finds_88, sX7_finds_90, sX7_finds_91, sX7_finds_92, sX7_finds_93, sX7_finds_96, sX7_finds_97, sX7_finds_99, sX7_finds_100, sX7_finds_101, sX7_finds_102, sX7_finds_103, sX7_finds_106, sX7_finds_107, sX7_finds_110, sX7_finds_112, sX7_finds_113, sX7_finds_115, sX7_finds_118, sX7_finds_119, sX7_finds_122, sX7_finds_124, sX7_finds_126, sX7_finds_127, sX7_finds_128, sX7_finds_131, sX7_finds_133, sX7_finds_134, sX7_finds_136, sX7_finds_139, sX7_finds_141, sX7_finds_143, sX7_finds_146, sX7_finds_147, sX7_finds_150, sX7_finds_152, sX7_finds_153, sX7_finds_156, sX7_finds_158, sX7_finds_159, sX7_finds_160, sX7_finds_163, sX7_finds_166, sX7_finds_169, h1, true_and, and_true, true_or, or_true, eq_self, ↓reduceIte, if_true, if_false, nI_add, nI_mul, inB_nI, nI_clamp, Nat.add_zero, eqI, ltI, leI, m6_ne, ne_m6, Nat.reduceEqDiff, reduceCtorEq, Nat.reduceLT, Nat.reduceLeDiff, Nat.reduceAdd, Nat.reduceMul, Nat.zero_add, Nat.mul_zero, nar_0, nar_1, nar_b, bI_t, bI_f, bI_0, bI_1, Bool.true_eq_false, Bool.false_eq_true, Bool.and_self, Bool.and_false, Bool.false_and, Bool.true_and, Bool.and_true, and_self, hlt, k_2, k_3, k_w3, k_w4, k_o, e1, e2, hc, hf, ne_m6]
        rcases ih (t + 1) q2 _ _ (b + 1) (by omega) HB2 (by omega) hcl2 with ⟨q', cF', rq', b', v, ⟨r1, r2, r3, r4⟩, r5⟩ | ⟨q', cF', rq', b', l, v, r1, r5⟩
        · left
          exact ⟨q', cF', rq', b', v, ⟨r1, r2, by omega, r4⟩, fun Q => (step Q).trans (r5 Q)⟩
        · right
          exact ⟨q', cF', rq', b', l, v, r1, fun Q => (step Q).trans (r5 Q)⟩
    · have hcl2 : ∀ j, j ≤ a → ∀ u, u < 16 → (j < a ∨ u < t + 1) → rw (q j) u = true → cF u ≠ m6 := by
        intro j hj u hu hju hru
        by_cases e : j = a ∧ u = t
        · obtain ⟨rfl, rfl⟩ := e
          exact fun h => hA ⟨hru, h⟩
        · exact hcl j hj u hu (by omega) hru
      have step : ∀ Q, Runs MX7_finds 65 [.ref 853, v1, .int x, .int (nI (a + 1)), .int (nI b), .int m6, .int (nI (q a)), .int (nI t), vJ] [] D (kM m tO fO cF rq) z Q = Runs MX7_finds 65 [.ref 853, v1, .int x, .int (nI (a + 1)), .int (nI b), .int m6, .int (nI (q a)), .int (nI (t + 1)), vJ] [] D (kM m tO fO cF rq) z Q := fun Q => by
        rw [sX7_finds_65]
        rw [hrw] at hA
        simp only [rwM, Bool.and_eq_true, beq_iff_eq] at hA
        by_cases e1 : m 860 (16 * q a + t) = nI 1
        · by_cases e2 : ((x >>> (nI t &&& 31)) &&& nI 1) = nI 1
          · have e3 : ¬ cF t = m6 := fun h => hA ⟨⟨e1, e2⟩, h⟩
            simp (disch := omega) only [sX7_finds_67, sX7_finds_69, sX7_finds_72, sX7_finds_74, sX7_finds_76, sX7_finds_79, sX7_finds_80, sX7_finds_83, sX7_finds_85, sX7_finds_87, sX7_finds_88, sX7_finds_90, sX7_finds_91, sX7_finds_92, sX7_finds_93, sX7_finds_96, sX7_finds_97, sX7_finds_99, sX7_finds_100, sX7_finds_101, sX7_finds_102, sX7_finds_103, sX7_finds_106, sX7_finds_107, sX7_finds_110, sX7_finds_112, sX7_finds_113, sX7_finds_115, sX7_finds_118, sX7_finds_119, sX7_finds_122, sX7_finds_124, sX7_finds_126, sX7_finds_127, sX7_finds_128, sX7_finds_131, sX7_finds_133, sX7_finds_134, sX7_finds_136, sX7_finds_139, sX7_finds_141, sX7_finds_143, sX7_finds_146, sX7_finds_147, sX7_finds_150, sX7_finds_152, sX7_finds_153, sX7_finds_156, sX7_finds_158, sX7_finds_159, sX7_finds_160, sX7_finds_163, sX7_finds_166, sX7_finds_169, h1, true_and, and_true, true_or, or_true, eq_self, ↓reduceIte, if_true, if_false, nI_add, nI_mul, inB_nI, nI_clamp, Nat.add_zero, eqI, ltI, leI, m6_ne, ne_m6, Nat.reduceEqDiff, reduceCtorEq, Nat.reduceLT, Nat.reduceLeDiff, Nat.reduceAdd, Nat.reduceMul, Nat.zero_add, Nat.mul_zero, nar_0, nar_1, nar_b, bI_t, bI_f, bI_0, bI_1, Bool.true_eq_false, Bool.false_eq_true, Bool.and_self, Bool.and_false, Bool.false_and, Bool.true_and, Bool.and_true, and_self, hlt, k_2, k_3, k_o, e1, e2, e3]
          · simp (disch := omega) only [sX7_finds_67, sX7_finds_69, sX7_finds_72, sX7_finds_74, sX7_finds_76, sX7_finds_79, sX7_finds_80, sX7_finds_83, sX7_finds_85, sX7_finds_87, sX7_finds_88, sX7_finds_90, sX7_finds_91, sX7_finds_92, sX7_finds_93, sX7_finds_96, sX7_finds_97, sX7_finds_99, sX7_finds_100, sX7_finds_101, sX7_finds_102, sX7_finds_103, sX7_finds_106, sX7_finds_107, sX7_finds_110, sX7_finds_112, sX7_finds_113, sX7_finds_115, sX7_finds_118, sX7_finds_119, sX7_finds_122, sX7_finds_124, sX7_finds_126, sX7_finds_127, sX7_finds_128, sX7_finds_131, sX7_finds_133, sX7_finds_134, sX7_finds_136, sX7_finds_139, sX7_finds_141, sX7_finds_143, sX7_finds_146, sX7_finds_147, sX7_finds_150, sX7_finds_152, sX7_finds_153, sX7_finds_156, sX7_finds_158, sX7_finds_159, sX7_finds_160, sX7_finds_163, sX7_finds_166, sX7_finds_169, h1, true_and, and_true, true_or, or_true, eq_self, ↓reduceIte, if_true, if_false, nI_add, nI_mul, inB_nI, nI_clamp, Nat.add_zero, eqI, ltI, leI, m6_ne, ne_m6, Nat.reduceEqDiff, reduceCtorEq, Nat.reduceLT, Nat.reduceLeDiff, Nat.reduceAdd, Nat.reduceMul, Nat.zero_add, Nat.mul_zero, nar_0, nar_1, nar_b, bI_t, bI_f, bI_0, bI_1, Bool.true_eq_false, Bool.false_eq_true, Bool.and_self, Bool.and_false, Bool.false_and, Bool.true_and, Bool.and_true, and_self, hlt, k_2, k_3, k_o, e1, e2]
        · simp (disch := omega) only [sX7_finds_67, sX7_finds_69, sX7_finds_72, sX7_finds_74, sX7_finds_76, sX7_finds_79, sX7_finds_80, sX7_finds_83, sX7_finds_85, sX7_finds_87, sX7_finds_88, sX7_finds_90, sX7_finds_91, sX7_finds_92, sX7_finds_93, sX7_finds_96, sX7_finds_97, sX7_finds_99, sX7_finds_100, sX7_finds_101, sX7_finds_102, sX7_finds_103, sX7_finds_106, sX7_finds_107, sX7_finds_110, sX7_finds_112, sX7_finds_113, sX7_finds_115, sX7_finds_118, sX7_finds_119, sX7_finds_122, sX7_finds_124, sX7_finds_126, sX7_finds_127, sX7_finds_128, sX7_finds_131, sX7_finds_133, sX7_finds_134, sX7_finds_136, sX7_finds_139, sX7_finds_141, sX7_finds_143, sX7_finds_146, sX7_finds_147, sX7_finds_150, sX7_finds_152, sX7_finds_153, sX7_finds_156, sX7_finds_158, sX7_finds_159, sX7_finds_160, sX7_finds_163, sX7_finds_166, sX7_finds_169, h1, true_and, and_true, true_or, or_true, eq_self, ↓reduceIte, if_true, if_false, nI_add, nI_mul, inB_nI, nI_clamp, Nat.add_zero, eqI, ltI, leI, m6_ne, ne_m6, Nat.reduceEqDiff, reduceCtorEq, Nat.reduceLT, Nat.reduceLeDiff, Nat.reduceAdd, Nat.reduceMul, Nat.zero_add, Nat.mul_zero, nar_0, nar_1, nar_b, bI_t, bI_f, bI_0, bI_1, Bool.true_eq_false, Bool.false_eq_true, Bool.and_self, Bool.and_false, Bool.false_and, Bool.true_and, Bool.and_true, and_self, hlt, k_2, k_3, k_o, e1]
      rcases ih (t + 1) q cF rq b (by omega) HB hab hcl2 with ⟨q', cF', rq', b', v, r1, r5⟩ | ⟨q', cF', rq', b', l, v, r1, r5⟩
      · left
        exact ⟨q', cF', rq', b', v, r1, fun Q => (step Q).trans (r5 Q)⟩
      · right
        exact ⟨q', cF', rq', b', l, v, r1, fun Q => (step Q).trans (r5 Q)⟩
end FINDS
