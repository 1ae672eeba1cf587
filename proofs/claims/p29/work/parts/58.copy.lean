/-! copying things and mornings -/
/-- a thing of the class at q, outside the blocks or in one -/
def IsT (D : vDD) (q : Nat) : Prop := ((D q).1 = 5 ∧ (D q).2.2 0 = some (q + 1) ∧ (D q).2.2 1 = some (q + 2) ∧ (D q).2.2 2 = some (q + 3)) ∧ ((D (q + 1)).1 = 8 ∧ (D (q + 2)).1 = 8 ∧ (D (q + 3)).1 = 8) ∧ ((D (q + 1)).2.1 = 4 ∧ (D (q + 2)).2.1 = 4 ∧ (D (q + 3)).2.1 = 4)
/-- what stands in it -/
def RdT (m : vMM) (q : Nat) (S : Nat → Int32) : Prop := (m q 5 = S 0 ∧ m q 3 = S 1 ∧ m q 4 = S 2 ∧ m q 6 = S 3 ∧ m q 7 = S 4 ∧ m q 8 = S 5) ∧ (∀ s, s < 4 → m (q + 1) s = S (6 + 3 * s + 0)) ∧ (∀ s, s < 4 → m (q + 2) s = S (6 + 3 * s + 1)) ∧ (∀ s, s < 4 → m (q + 3) s = S (6 + 3 * s + 2))
def cpT (c S : Nat → Int32) (t : Nat) : Nat → Int32 := fun j => if 58 + 18 * t ≤ j ∧ j < 58 + 18 * t + 18 then S (j - (58 + 18 * t)) else c j
def cpS (c S : Nat → Int32) (t i : Nat) : Nat → Int32 := fun j => if 58 + 18 * t + 6 ≤ j ∧ j < 58 + 18 * t + 6 + 3 * i then S (j - (58 + 18 * t)) else c j
section COPY
variable {D : vDD} {m : vMM} {c : Nat → Int32} {z : vZZ} {Q : Value → vDD → vMM → vZZ → Prop} {a b : Nat}
theorem cpS_s {S : Nat → Int32} {t i : Nat} : sT (sT (sT (cpS c S t i) t (6 + 3 * i + 0) (S (6 + 3 * i + 0))) t (6 + 3 * i + 1) (S (6 + 3 * i + 1))) t (6 + 3 * i + 2) (S (6 + 3 * i + 2)) = cpS c S t (i + 1) := by
  funext j
  unfold sT upd cpS
  by_cases h2 : j = 58 + 18 * t + (6 + 3 * i + 2)
  · rw [if_pos h2, if_pos (by omega)]
    congr 1
    omega
  · rw [if_neg h2]
    by_cases h1 : j = 58 + 18 * t + (6 + 3 * i + 1)
    · rw [if_pos h1, if_pos (by omega)]
      congr 1
      omega
    · rw [if_neg h1]
      by_cases h0 : j = 58 + 18 * t + (6 + 3 * i + 0)
      · rw [if_pos h0, if_pos (by omega)]
        congr 1
        omega
      · rw [if_neg h0]
        by_cases h : 58 + 18 * t + 6 ≤ j ∧ j < 58 + 18 * t + 6 + 3 * i
        · rw [if_pos h, if_pos (by omega)]
        · rw [if_neg h, if_neg (by omega)]
theorem cpS_T {S : Nat → Int32} {t : Nat} : sT (sT (sT (sT (sT (sT (cpS c S t 4) t 1 (S 1)) t 2 (S 2)) t 0 (S 0)) t 3 (S 3)) t 4 (S 4)) t 5 (S 5) = cpT c S t := by
  funext j
  unfold sT upd cpS cpT
  by_cases h : 58 + 18 * t ≤ j ∧ j < 58 + 18 * t + 18
  · rw [if_pos h]
    obtain ⟨k, hk, rfl⟩ : ∃ k, k < 18 ∧ j = 58 + 18 * t + k := ⟨j - (58 + 18 * t), by omega, by omega⟩
    have e : 58 + 18 * t + k - (58 + 18 * t) = k := by omega
    rw [e]
    by_cases h5 : k = 5
    · rw [if_pos (by omega), h5]
    · rw [if_neg (by omega)]
      by_cases h4 : k = 4
      · rw [if_pos (by omega), h4]
      · rw [if_neg (by omega)]
        by_cases h3 : k = 3
        · rw [if_pos (by omega), h3]
        · rw [if_neg (by omega)]
          by_cases h0 : k = 0
          · rw [if_pos (by omega), h0]
          · rw [if_neg (by omega)]
            by_cases h2 : k = 2
            · rw [if_pos (by omega), h2]
            · rw [if_neg (by omega)]
              by_cases h1 : k = 1
              · rw [if_pos (by omega), h1]
              · rw [if_neg (by omega), if_pos (by omega)]
  · rw [if_neg h, if_neg (by omega), if_neg (by omega), if_neg (by omega), if_neg (by omega), if_neg (by omega), if_neg (by omega), if_neg (by omega)]
theorem l_copyT (hB : IsM D b) {q t : Nat} {S : Nat → Int32} (hT : IsT D q) (hS : RdT m q S) (hq : q + 4 ≤ b ∨ b + 76 ≤ q) (ht : t < 16) : ∀ k i, i + k = 4 → Runs MX5_copyFrom 2 [.ref (b + 12 + 4 * t), .ref q, .int (nI i)] [] D (bM m b (cpS c S t i)) z Q = Q vJ D (bM m b (cpT c S t)) z := by
  have hb := hB
  simp only [IsM] at hb
  simp only [IsT] at hT
  obtain ⟨s0, s1, s2, s3⟩ := hS
  have o0 : ∀ g, bM m b g q = m q := fun g => bM_o (by omega)
  have o1 : ∀ g, bM m b g (q + 1) = m (q + 1) := fun g => bM_o (by omega)
  have o2 : ∀ g, bM m b g (q + 2) = m (q + 2) := fun g => bM_o (by omega)
  have o3 : ∀ g, bM m b g (q + 3) = m (q + 3) := fun g => bM_o (by omega)
  intro k
  induction k with
  | zero =>
    intro i hi
    obtain rfl : i = 4 := by omega
    have e := cpS_T (c := c) (S := S) (t := t)
    rw [sX5_copyFrom_2]
    simp (disch := omega) only [sX5_copyFrom_3, sX5_copyFrom_4, sX5_copyFrom_7, sX5_copyFrom_8, sX5_copyFrom_11, sX5_copyFrom_12, sX5_copyFrom_13, sX5_copyFrom_16, sX5_copyFrom_17, sX5_copyFrom_18, sX5_copyFrom_19, sX5_copyFrom_20, sX5_copyFrom_23, sX5_copyFrom_24, sX5_copyFrom_25, sX5_copyFrom_28, sX5_copyFrom_29, sX5_copyFrom_30, sX5_copyFrom_31, sX5_copyFrom_32, sX5_copyFrom_35, sX5_copyFrom_36, sX5_copyFrom_37, sX5_copyFrom_40, sX5_copyFrom_41, sX5_copyFrom_42, sX5_copyFrom_43, sX5_copyFrom_46, sX5_copyFrom_49, sX5_copyFrom_50, sX5_copyFrom_51, sX5_copyFrom_54, sX5_copyFrom_57, sX5_copyFrom_58, sX5_copyFrom_59, sX5_copyFrom_62, sX5_copyFrom_65, sX5_copyFrom_66, sX5_copyFrom_67, sX5_copyFrom_70, sX5_copyFrom_73, sX5_copyFrom_74, sX5_copyFrom_75, sX5_copyFrom_78, sX5_copyFrom_81, sX5_copyFrom_82, sX5_copyFrom_83, sX5_copyFrom_86, sX5_copyFrom_89, sX5_copyFrom_90, sX5_copyFrom_91, sX5_copyFrom_94, sX5_copyFrom_97, hb, hT, true_and, and_true, true_or, or_true, eq_self, ↓reduceIte, if_true, if_false, nI_add, nI_mul, inB_nI, nI_clamp, Nat.add_zero, eqI, ltI, leI, m6_ne, ne_m6, Nat.reduceEqDiff, reduceCtorEq, Nat.reduceLT, Nat.reduceLeDiff, Nat.reduceAdd, Nat.reduceMul, Nat.zero_add, Nat.mul_zero, nar_0, nar_1, nar_b, bI_t, bI_f, bI_0, bI_1, Bool.true_eq_false, Bool.false_eq_true, Bool.and_self, Bool.and_false, Bool.false_and, Bool.true_and, Bool.and_true, and_self, Nat.le_refl, o0, s0, w_T0, w_T1, w_T2, w_T3, w_T4, w_T5, e]
  | succ k ih =>
    intro i hi
    have hlt : ¬ 4 ≤ i := by omega
    have ih := ih (i + 1) (by omega)
    have e := cpS_s (c := c) (S := S) (t := t) (i := i)
    simp only [Nat.add_zero] at e
    have s1 := s1 i (by omega)
    have s2 := s2 i (by omega)
    have s3 := s3 i (by omega)
    simp only [Nat.add_zero] at s1
    rw [sX5_copyFrom_2]
    simp (disch := omega) only [sX5_copyFrom_3, sX5_copyFrom_4, sX5_copyFrom_7, sX5_copyFrom_8, sX5_copyFrom_11, sX5_copyFrom_12, sX5_copyFrom_13, sX5_copyFrom_16, sX5_copyFrom_17, sX5_copyFrom_18, sX5_copyFrom_19, sX5_copyFrom_20, sX5_copyFrom_23, sX5_copyFrom_24, sX5_copyFrom_25, sX5_copyFrom_28, sX5_copyFrom_29, sX5_copyFrom_30, sX5_copyFrom_31, sX5_copyFrom_32, sX5_copyFrom_35, sX5_copyFrom_36, sX5_copyFrom_37, sX5_copyFrom_40, sX5_copyFrom_41, sX5_copyFrom_42, sX5_copyFrom_43, sX5_copyFrom_46, sX5_copyFrom_49, sX5_copyFrom_50, sX5_copyFrom_51, sX5_copyFrom_54, sX5_copyFrom_57, sX5_copyFrom_58, sX5_copyFrom_59, sX5_copyFrom_62, sX5_copyFrom_65, sX5_copyFrom_66, sX5_copyFrom_67, sX5_copyFrom_70, sX5_copyFrom_73, sX5_copyFrom_74, sX5_copyFrom_75, sX5_copyFrom_78, sX5_copyFrom_81, sX5_copyFrom_82, sX5_copyFrom_83, sX5_copyFrom_86, sX5_copyFrom_89, sX5_copyFrom_90, sX5_copyFrom_91, sX5_copyFrom_94, sX5_copyFrom_97, hb, hT, true_and, and_true, true_or, or_true, eq_self, ↓reduceIte, if_true, if_false, nI_add, nI_mul, inB_nI, nI_clamp, Nat.add_zero, eqI, ltI, leI, m6_ne, ne_m6, Nat.reduceEqDiff, reduceCtorEq, Nat.reduceLT, Nat.reduceLeDiff, Nat.reduceAdd, Nat.reduceMul, Nat.zero_add, Nat.mul_zero, nar_0, nar_1, nar_b, bI_t, bI_f, bI_0, bI_1, Bool.true_eq_false, Bool.false_eq_true, Bool.and_self, Bool.and_false, Bool.false_and, Bool.true_and, Bool.and_true, and_self, hlt, o1, o2, o3, s1, s2, s3, w_S0, w_S1, w_S2, e, ih]
theorem x_copyT (hB : IsM D b) {q t : Nat} {S : Nat → Int32} (hT : IsT D q) (hS : RdT m q S) (hq : q + 4 ≤ b ∨ b + 76 ≤ q) (ht : t < 16) : Runs MX5_copyFrom 0 [.ref (b + 12 + 4 * t), .ref q, vJ] [] D (bM m b c) z Q = Q vJ D (bM m b (cpT c S t)) z := by
  have l := l_copyT (D := D) (m := m) (c := c) (z := z) (Q := Q) hB hT hS hq ht 4 0 (by decide)
  have e : cpS c S t 0 = c := by
    funext j
    unfold cpS
    rw [if_neg (by omega)]
  rw [e] at l
  simp (disch := omega) only [sX5_copyFrom_0, sX5_copyFrom_1, true_and, and_true, true_or, or_true, eq_self, ↓reduceIte, if_true, if_false, nI_add, nI_mul, inB_nI, nI_clamp, Nat.add_zero, eqI, ltI, leI, m6_ne, ne_m6, Nat.reduceEqDiff, reduceCtorEq, Nat.reduceLT, Nat.reduceLeDiff, Nat.reduceAdd, Nat.reduceMul, Nat.zero_add, Nat.mul_zero, nar_0, nar_1, nar_b, bI_t, bI_f, bI_0, bI_1, Bool.true_eq_false, Bool.false_eq_true, Bool.and_self, Bool.and_false, Bool.false_and, Bool.true_and, Bool.and_true, and_self, l]
/-- a fixer copied -/
def cpX (c s : Nat → Int32) (i : Nat) : Nat → Int32 := sF (sF (sF (sF (sF (sF c i 0 (gF s i 0)) i 1 (gF s i 1)) i 2 (gF s i 2)) i 3 (gF s i 3)) i 4 (gF s i 4)) i 5 (gF s i 5)
/-- things of a block are things -/
theorem IsM.T (hB : IsM D b) {t : Nat} (ht : t < 16) : IsT D (b + 12 + 4 * t) := by
  obtain ⟨_, _, _, _, _, h5, h6, h7, h8, h9, h10, h11, h12, h13, h14⟩ := hB
  exact ⟨⟨h5 t ht, h6 t ht, h7 t ht, h8 t ht⟩, ⟨h9 t ht, h10 t ht, h11 t ht⟩, ⟨h12 t ht, h13 t ht, h14 t ht⟩⟩
theorem RdT.blk {t : Nat} (ht : t < 16) : RdT (bM m b c) (b + 12 + 4 * t) (fun k => gT c t k) :=
  ⟨⟨b_T0 ht, b_T1 ht, b_T2 ht, b_T3 ht, b_T4 ht, b_T5 ht⟩, fun s hs => b_S0 ht hs, fun s hs => b_S1 ht hs, fun s hs => b_S2 ht hs⟩
end COPY
