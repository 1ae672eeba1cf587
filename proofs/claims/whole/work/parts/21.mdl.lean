/-! the model's smallest methods -/
section MDL
variable {D : vDD} {m : vMM} {f : Nat → Int32} {z : vZZ} {Q : Value → vDD → vMM → vZZ → Prop}
theorem c_ofFixer (hM : IsMo D) {i k : Nat} (hi : i < 8) (hk : k < 6) : Runs MX7_ofFixer 0 [.ref 853, .int (nI i), .int (nI k)] [] D (eM m f) z Q = Q (.int (f (10 + 6 * i + k))) D (eM m f) z := by
  simp only [IsMo] at hM
  simp (disch := omega) only [sX7_ofFixer_0, sX7_ofFixer_1, sX7_ofFixer_4, sX7_ofFixer_6, sX7_ofFixer_8, sX7_ofFixer_9, sX7_ofFixer_10, sX7_ofFixer_11, sX7_ofFixer_12, sX7_ofFixer_13, sX7_ofFixer_14, hM, true_and, and_true, true_or, or_true, eq_self, ↓reduceIte, if_true, if_false, nI_add, nI_mul, inB_nI, nI_clamp, eM_st]
theorem c_setFixer (hM : IsMo D) {i k : Nat} {x : Int32} (hi : i < 8) (hk : k < 6) : Runs MX7_setFixer 0 [.ref 853, .int (nI i), .int (nI k), .int x] [] D (eM m f) z Q = Q vJ D (eM m (upd f (10 + 6 * i + k) x)) z := by
  simp only [IsMo] at hM
  simp (disch := omega) only [sX7_setFixer_0, sX7_setFixer_1, sX7_setFixer_4, sX7_setFixer_6, sX7_setFixer_8, sX7_setFixer_9, sX7_setFixer_10, sX7_setFixer_11, sX7_setFixer_12, sX7_setFixer_13, sX7_setFixer_14, sX7_setFixer_15, hM, true_and, and_true, true_or, or_true, eq_self, ↓reduceIte, if_true, if_false, nI_add, nI_mul, inB_nI, nI_clamp, eM_put]
theorem c_ofThing (hM : IsMo D) {i k : Nat} (hi : i < 16) (hk : k < 18) : Runs MX7_ofThing 0 [.ref 853, .int (nI i), .int (nI k)] [] D (eM m f) z Q = Q (.int (f (58 + 18 * i + k))) D (eM m f) z := by
  simp only [IsMo] at hM
  simp (disch := omega) only [sX7_ofThing_0, sX7_ofThing_1, sX7_ofThing_4, sX7_ofThing_6, sX7_ofThing_8, sX7_ofThing_9, sX7_ofThing_10, sX7_ofThing_11, sX7_ofThing_12, sX7_ofThing_13, sX7_ofThing_14, hM, true_and, and_true, true_or, or_true, eq_self, ↓reduceIte, if_true, if_false, nI_add, nI_mul, inB_nI, nI_clamp, eM_st]
theorem c_setThing (hM : IsMo D) {i k : Nat} {x : Int32} (hi : i < 16) (hk : k < 18) : Runs MX7_setThing 0 [.ref 853, .int (nI i), .int (nI k), .int x] [] D (eM m f) z Q = Q vJ D (eM m (upd f (58 + 18 * i + k) x)) z := by
  simp only [IsMo] at hM
  simp (disch := omega) only [sX7_setThing_0, sX7_setThing_1, sX7_setThing_4, sX7_setThing_6, sX7_setThing_8, sX7_setThing_9, sX7_setThing_10, sX7_setThing_11, sX7_setThing_12, sX7_setThing_13, sX7_setThing_14, sX7_setThing_15, hM, true_and, and_true, true_or, or_true, eq_self, ↓reduceIte, if_true, if_false, nI_add, nI_mul, inB_nI, nI_clamp, eM_put]
def testedF (f : Nat → Int32) (t : Nat) : Bool := f (58 + 18 * t + 2) == f (58 + 18 * t + 1)
theorem c_isTested (hM : IsMo D) {t : Nat} (ht : t < 16) : Runs MX7_isTested 0 [.ref 853, .int (nI t)] [] D (eM m f) z Q = Q (.int (bI (testedF f t))) D (eM m f) z := by
  have h1 := hM
  simp only [IsMo] at h1
  simp (disch := omega) only [sX7_isTested_0, sX7_isTested_1, sX7_isTested_2, sX7_isTested_3, sX7_isTested_6, sX7_isTested_7, sX7_isTested_8, sX7_isTested_9, sX7_isTested_12, sX7_isTested_15, sX7_isTested_16, sX7_isTested_19, sX7_isTested_20, h1, true_and, and_true, true_or, or_true, eq_self, ↓reduceIte, if_true, if_false, nI_add, nI_mul, inB_nI, nI_clamp, c_ofThing hM]
  unfold testedF
  by_cases h : f (58 + 18 * t + 2) = f (58 + 18 * t + 1)
  · simp only [h, if_true, nar_1, true_and, beq_self_eq_true, bI_t]
  · simp only [h, if_false, nar_0, true_and, beq_eq_false_iff_ne.mpr h, bI_f]
end MDL
