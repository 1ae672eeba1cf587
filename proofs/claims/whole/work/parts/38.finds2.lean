/-! finds as a whole, and how many can get something -/
def FDp (rw : Nat → Nat → Bool) (W : Nat → Prop) (tO fO : Nat → Int32) (fx : Nat) (r : Bool) (tO' fO' : Nat → Int32) : Prop :=
  (r = true ∧ MTs rw tO' fO' ∧ CLs rw W fO' ∧ ∀ g, g < 9 → (tO' g = m6 ↔ (tO g = m6 ∧ g ≠ fx))) ∨
  (r = false ∧ tO' = tO ∧ fO' = fO ∧ ∃ W' : Nat → Prop, (∀ g, W g → W' g) ∧ W' fx ∧ CLs rw W' fO)
section FINDS2
variable {D : vDD} {m : vMM} {z : vZZ} {rw : Nat → Nat → Bool} {W : Nat → Prop} {x : Int32}
theorem l_outer (hM : IsMo D) (hrw : rw = rwM m x) {tO fO : Nat → Int32} {fx : Nat} {v1 : Value} (hT : MTs rw tO fO) (hC : CLs rw W fO) (h0 : tO fx = m6) :
    ∀ (k a : Nat) (q : Nat → Nat) (cF rq : Nat → Int32) (b : Nat) (v6 v7 : Value), a + k = 9 → BQs rw q cF tO fO rq fx b → a ≤ b → (∀ j, j < a → ∀ u, u < 16 → rw (q j) u = true → cF u ≠ m6) →
    ∃ r tO' fO' cF' rq', FDp rw W tO fO fx r tO' fO' ∧ ∀ Q, Runs MX7_finds 38 [.ref 853, v1, .int x, .int (nI a), .int (nI b), .int m6, v6, v7, vJ] [] D (kM m tO fO cF rq) z Q = Q (.int (bI r)) D (kM m tO' fO' cF' rq') z := by
  have h1 := hM
  simp only [IsMo] at h1
  have done : ∀ (a : Nat) (q : Nat → Nat) (cF rq : Nat → Int32) (b : Nat) (v6 v7 : Value), BQs rw q cF tO fO rq fx b → a = b → (∀ j, j < a → ∀ u, u < 16 → rw (q j) u = true → cF u ≠ m6) →
      ∃ r tO' fO' cF' rq', FDp rw W tO fO fx r tO' fO' ∧ ∀ Q, Runs MX7_finds 38 [.ref 853, v1, .int x, .int (nI a), .int (nI b), .int m6, v6, v7, vJ] [] D (kM m tO fO cF rq) z Q = Q (.int (bI r)) D (kM m tO' fO' cF' rq') z := by
    intro a q cF rq b v6 v7 HB hab hcl
    subst hab
    have b9 := HB.1.2.1
    refine ⟨false, tO, fO, cF, rq, Or.inr ⟨rfl, rfl, rfl, fun g => W g ∨ ∃ j, j < a ∧ q j = g, fun g h => Or.inl h, Or.inr ⟨0, HB.1.1, HB.1.2.2.1⟩, ?_⟩, fun Q => ?_⟩
    · intro g hg hW u hu hru
      rcases hW with hW | ⟨j, hj, e⟩
      · obtain ⟨h, h9, hh, a2⟩ := hC g hg hW u hu hru
        exact ⟨h, h9, Or.inl hh, a2⟩
      · subst e
        obtain ⟨j', j1, j2, j3⟩ := HB.2.2 u hu (hcl j hj u hu hru)
        exact ⟨q j', (HB.1.2.2.2.1 j' j2).2, Or.inr ⟨j', j2, rfl⟩, j3⟩
    · rw [sX7_finds_38]
      simp (disch := omega) only [sX7_finds_39, sX7_finds_41, sX7_finds_44, sX7_finds_46, sX7_finds_48, sX7_finds_172, sX7_finds_174, sX7_finds_176, sX7_finds_179, sX7_finds_180, sX7_finds_183, sX7_finds_184, h1, true_and, and_true, true_or, or_true, eq_self, ↓reduceIte, if_true, if_false, nI_add, nI_mul, inB_nI, nI_clamp, Nat.add_zero, eqI, ltI, leI, m6_ne, ne_m6, Nat.reduceEqDiff, reduceCtorEq, Nat.reduceLT, Nat.reduceLeDiff, Nat.reduceAdd, Nat.reduceMul, Nat.zero_add, Nat.mul_zero, nar_0, nar_1, nar_b, bI_t, bI_f, bI_0, bI_1, Bool.true_eq_false, Bool.false_eq_true, Bool.and_self, Bool.and_false, Bool.false_and, Bool.true_and, Bool.and_true, and_self, Nat.le_refl]
      rw [sX7_finds_186]
      simp (disch := omega) only [sX7_finds_188, sX7_finds_190, sX7_finds_193, sX7_finds_194, sX7_finds_197, sX7_finds_199, sX7_finds_200, sX7_finds_202, sX7_finds_203, sX7_finds_206, sX7_finds_208, sX7_finds_209, sX7_finds_211, sX7_finds_212, sX7_finds_215, sX7_finds_217, sX7_finds_219, sX7_finds_220, sX7_finds_221, sX7_finds_224, sX7_finds_226, sX7_finds_228, sX7_finds_229, sX7_finds_231, sX7_finds_233, sX7_finds_236, sX7_finds_238, h1, true_and, and_true, true_or, or_true, eq_self, ↓reduceIte, if_true, if_false, nI_add, nI_mul, inB_nI, nI_clamp, Nat.add_zero, eqI, ltI, leI, m6_ne, ne_m6, Nat.reduceEqDiff, reduceCtorEq, Nat.reduceLT, Nat.reduceLeDiff, Nat.reduceAdd, Nat.reduceMul, Nat.zero_add, Nat.mul_zero, nar_0, nar_1, nar_b, bI_t, bI_f, bI_0, bI_1, Bool.true_eq_false, Bool.false_eq_true, Bool.and_self, Bool.and_false, Bool.false_and, Bool.true_and, Bool.and_true, and_self]
  intro k
  induction k with
  | zero =>
    intro a q cF rq b v6 v7 hk HB hab hcl
    have b9 := HB.1.2.1
    exact done a q cF rq b v6 v7 HB (by omega) hcl
  | succ k ih =>
    intro a q cF rq b v6 v7 hk HB hab hcl
    by_cases e : a = b
    · exact done a q cF rq b v6 v7 HB e hcl
    · have b9 := HB.1.2.1
      have hlt : ¬ b ≤ a := by omega
      have hqa := (HB.1.2.2.2.1 a (by omega)).1
      have step : ∀ Q, Runs MX7_finds 38 [.ref 853, v1, .int x, .int (nI a), .int (nI b), .int m6, v6, v7, vJ] [] D (kM m tO fO cF rq) z Q = Runs MX7_finds 65 [.ref 853, v1, .int x, .int (nI (a + 1)), .int (nI b), .int m6, .int (nI (q a)), .int (nI 0), vJ] [] D (kM m tO fO cF rq) z Q := fun Q => by
        rw [sX7_finds_38]
        simp (disch := omega) only [sX7_finds_39, sX7_finds_41, sX7_finds_44, sX7_finds_46, sX7_finds_48, sX7_finds_51, sX7_finds_52, sX7_finds_55, sX7_finds_56, sX7_finds_57, sX7_finds_59, sX7_finds_62, sX7_finds_63, h1, true_and, and_true, true_or, or_true, eq_self, ↓reduceIte, if_true, if_false, nI_add, nI_mul, inB_nI, nI_clamp, Nat.add_zero, eqI, ltI, leI, m6_ne, ne_m6, Nat.reduceEqDiff, reduceCtorEq, Nat.reduceLT, Nat.reduceLeDiff, Nat.reduceAdd, Nat.reduceMul, Nat.zero_add, Nat.mul_zero, nar_0, nar_1, nar_b, bI_t, bI_f, bI_0, bI_1, Bool.true_eq_false, Bool.false_eq_true, Bool.and_self, Bool.and_false, Bool.false_and, Bool.true_and, Bool.and_true, and_self, hlt, k_4, hqa]
      rcases l_inner (D := D) (m := m) (z := z) (W := W) (a := a) hM hrw (v1 := v1) hT hC h0 16 0 q cF rq b (by decide) HB (by omega) (fun j hj u hu hju hru => by
          rcases Nat.lt_or_ge j a with h | h
          · exact hcl j h u hu hru
          · omega) with ⟨q', cF', rq', b', v, ⟨r1, r2, r3, r4⟩, r5⟩ | ⟨q', cF', rq', b', l, v, ⟨r1, r2, r3, r4⟩, r5⟩
      · obtain ⟨r, tO', fO', cF2, rq2, i1, i2⟩ := ih (a + 1) q' cF' rq' b' (.int (nI (q' a))) v (by omega) r1 (by omega) (fun j hj u hu hru => r4 j (Nat.le_of_lt_succ hj) u hu hru)
        exact ⟨r, tO', fO', cF2, rq2, i1, fun Q => ((step Q).trans (r5 Q)).trans (i2 Q)⟩
      · obtain ⟨tO', fO', ⟨t1, t2, t3⟩, t4⟩ := l_trace (D := D) (m := m) (z := z) hM (q := q') (cF := cF') (rq := rq') (v1 := v1) (v2 := .int x) (v3 := .int (nI (a + 1))) (v4 := .int (nI b')) (b := true) a l tO fO v vJ r1
        rw [r2] at t3
        refine ⟨true, tO', fO', cF', rq', Or.inl ⟨rfl, t1, t2, t3⟩, fun Q => ((step Q).trans (r5 Q)).trans ?_⟩
        rw [← t4 Q, sX7_finds_38]
        by_cases hb : b' ≤ a + 1 <;>
        simp (disch := omega) only [sX7_finds_39, sX7_finds_41, sX7_finds_44, sX7_finds_46, sX7_finds_48, sX7_finds_172, sX7_finds_174, sX7_finds_176, sX7_finds_179, sX7_finds_180, sX7_finds_183, sX7_finds_184, h1, true_and, and_true, true_or, or_true, eq_self, ↓reduceIte, if_true, if_false, nI_add, nI_mul, inB_nI, nI_clamp, Nat.add_zero, eqI, ltI, leI, m6_ne, ne_m6, Nat.reduceEqDiff, reduceCtorEq, Nat.reduceLT, Nat.reduceLeDiff, Nat.reduceAdd, Nat.reduceMul, Nat.zero_add, Nat.mul_zero, nar_0, nar_1, nar_b, bI_t, bI_f, bI_0, bI_1, Bool.true_eq_false, Bool.false_eq_true, Bool.and_self, Bool.and_false, Bool.false_and, Bool.true_and, Bool.and_true, and_self, hb, ne_m6]
theorem l_come0 (hM : IsMo D) {Q : Value → vDD → vMM → vZZ → Prop} {tO fO rq : Nat → Int32} {v1 v2 : Value} : ∀ k i (cF : Nat → Int32), i + k = 16 → (∀ u, u < i → cF u = m6) → ∃ cF', (∀ u, u < 16 → cF' u = m6) ∧ ∀ Q, Runs MX7_finds 2 [.ref 853, v1, v2, .int (nI i), vJ, vJ, vJ, vJ, vJ] [] D (kM m tO fO cF rq) z Q = Runs MX7_finds 22 [.ref 853, v1, v2, .int (nI 16), vJ, vJ, vJ, vJ, vJ] [] D (kM m tO fO cF' rq) z Q := by
  have h1 := hM
  simp only [IsMo] at h1
  intro k
  induction k with
  | zero =>
    intro i cF hi h
    obtain rfl : i = 16 := by omega
    refine ⟨cF, h, fun Q => ?_⟩
    rw [sX7_finds_2]
    simp (disch := omega) only [sX7_finds_3, sX7_finds_5, sX7_finds_8, sX7_finds_9, sX7_finds_12, sX7_finds_13, sX7_finds_15, sX7_finds_16, sX7_finds_19, h1, true_and, and_true, true_or, or_true, eq_self, ↓reduceIte, if_true, if_false, nI_add, nI_mul, inB_nI, nI_clamp, Nat.add_zero, eqI, ltI, leI, m6_ne, ne_m6, Nat.reduceEqDiff, reduceCtorEq, Nat.reduceLT, Nat.reduceLeDiff, Nat.reduceAdd, Nat.reduceMul, Nat.zero_add, Nat.mul_zero, nar_0, nar_1, nar_b, bI_t, bI_f, bI_0, bI_1, Bool.true_eq_false, Bool.false_eq_true, Bool.and_self, Bool.and_false, Bool.false_and, Bool.true_and, Bool.and_true, and_self, Nat.le_refl]
  | succ k ih =>
    intro i cF hi h
    have hlt : ¬ 16 ≤ i := by omega
    obtain ⟨cF', i1, i2⟩ := ih (i + 1) (upd cF i m6) (by omega) (fun u hu => by
      by_cases e : u = i
      · subst e; exact upd_eq _ _ _
      · rw [upd_ne _ _ e]; exact h u (by omega))
    refine ⟨cF', i1, fun Q => ?_⟩
    rw [sX7_finds_2]
    simp (disch := omega) only [sX7_finds_3, sX7_finds_5, sX7_finds_8, sX7_finds_9, sX7_finds_12, sX7_finds_13, sX7_finds_15, sX7_finds_16, sX7_finds_19, h1, true_and, and_true, true_or, or_true, eq_self, ↓reduceIte, if_true, if_false, nI_add, nI_mul, inB_nI, nI_clamp, Nat.add_zero, eqI, ltI, leI, m6_ne, ne_m6, Nat.reduceEqDiff, reduceCtorEq, Nat.reduceLT, Nat.reduceLeDiff, Nat.reduceAdd, Nat.reduceMul, Nat.zero_add, Nat.mul_zero, nar_0, nar_1, nar_b, bI_t, bI_f, bI_0, bI_1, Bool.true_eq_false, Bool.false_eq_true, Bool.and_self, Bool.and_false, Bool.false_and, Bool.true_and, Bool.and_true, and_self, hlt, k_w3, i2]
theorem c_finds (hM : IsMo D) (hrw : rw = rwM m x) {tO fO cF rq : Nat → Int32} {fx : Nat} (h9 : fx < 9) (hT : MTs rw tO fO) (hC : CLs rw W fO) (h0 : tO fx = m6) :
    ∃ r tO' fO' cF' rq', FDp rw W tO fO fx r tO' fO' ∧ ∀ Q, Runs MX7_finds 0 [.ref 853, .int (nI fx), .int x, vJ, vJ, vJ, vJ, vJ, vJ] [] D (kM m tO fO cF rq) z Q = Q (.int (bI r)) D (kM m tO' fO' cF' rq') z := by
  have h1 := hM
  simp only [IsMo] at h1
  obtain ⟨cF1, c1, c2⟩ := l_come0 (D := D) (m := m) (z := z) (Q := fun _ _ _ _ => True) hM (tO := tO) (fO := fO) (rq := rq) (v1 := .int (nI fx)) (v2 := .int x) 16 0 cF (by decide) (fun u hu => absurd hu (Nat.not_lt_zero u))
  have HB : BQs rw (fun _ => fx) cF1 tO fO (upd rq 0 (nI fx)) fx 1 := by
    refine ⟨⟨Nat.le_refl _, by decide, rfl, fun j hj => ?_, fun i j hi hj _ => by omega⟩, fun j h1 h2 => by omega, fun u hu hc => absurd (c1 u hu) hc⟩
    obtain rfl : j = 0 := by omega
    exact ⟨upd_eq _ _ _, h9⟩
  obtain ⟨r, tO', fO', cF', rq', o1, o2⟩ := l_outer (D := D) (m := m) (z := z) (W := W) hM hrw (v1 := .int (nI fx)) hT hC h0 9 0 (fun _ => fx) cF1 (upd rq 0 (nI fx)) 1 vJ vJ (by decide) HB (by decide) (fun j hj => absurd hj (Nat.not_lt_zero j))
  refine ⟨r, tO', fO', cF', rq', o1, fun Q => ?_⟩
  simp (disch := omega) only [sX7_finds_0, sX7_finds_1, h1, true_and, and_true, true_or, or_true, eq_self, ↓reduceIte, if_true, if_false, nI_add, nI_mul, inB_nI, nI_clamp, Nat.add_zero, eqI, ltI, leI, m6_ne, ne_m6, Nat.reduceEqDiff, reduceCtorEq, Nat.reduceLT, Nat.reduceLeDiff, Nat.reduceAdd, Nat.reduceMul, Nat.zero_add, Nat.mul_zero, nar_0, nar_1, nar_b, bI_t, bI_f, bI_0, bI_1, Bool.true_eq_false, Bool.false_eq_true, Bool.and_self, Bool.and_false, Bool.false_and, Bool.true_and, Bool.and_true, and_self, c2, sX7_finds_22, sX7_finds_23, sX7_finds_24, sX7_finds_25, sX7_finds_27, sX7_finds_28, sX7_finds_31, sX7_finds_32, sX7_finds_33, sX7_finds_34, sX7_finds_36, k_w4, o2]
end FINDS2
