/-! most: the least sum -/
def selB (y : Int32) (g : Nat) : Bool := ((y >>> (nI g &&& 31)) &&& nI 1) == nI 1
def rwY (m : vMM) (y x : Int32) : Nat → Nat → Bool := fun g t => selB y g && rwM m x g t
def mtB (tO : Nat → Int32) : Nat → Bool := fun g => !(tO g == m6)
theorem mtB_t {tO : Nat → Int32} {g : Nat} : mtB tO g = true ↔ tO g ≠ m6 := by simp [mtB]
theorem boolOf (W : Nat → Prop) : ∃ B : Nat → Bool, ∀ g, B g = true ↔ W g := ⟨fun g => @decide (W g) (Classical.propDecidable _), fun g => @decide_eq_true_iff (W g) (Classical.propDecidable _)⟩
theorem most_is {rw : Nat → Nat → Bool} {sel : Nat → Bool} {W : Nat → Prop} {tO fO : Nat → Int32} (hT : MTs rw tO fO) (hC : CLs rw W fO) (h1 : ∀ g, g < 9 → tO g ≠ m6 → sel g = true) (h2 : ∀ g, g < 9 → sel g = true → tO g = m6 → W g) :
    mnR (fun g t => sel g && rw g t) 16 9 (fun _ => false) = cntB (mtB tO) 9 := by
  obtain ⟨B, hB⟩ := boolOf W
  have cl : ∀ {n : Nat}, n < 100 → (nI n).toNatClampNeg = n := fun h => nI_clamp (by omega)
  have key : ∀ g, g < 9 → mtB tO g = true → ∃ u, u < 16 ∧ tO g = nI u ∧ fO u = nI g ∧ rw g u = true := by
    intro g hg h
    rcases hT.1 g hg with e | e
    · exact absurd e (mtB_t.mp h)
    · exact e
  apply mn_is (G := fun g => !(sel g) || B g)
  · intro G
    have s1 := cntB_sum (P := mtB tO) (R := G) 9
    have s2 : cntB (fun g => mtB tO g && G g) 9 ≤ cntB (fun t => false || nbF (fun g t => sel g && rw g t) G 9 t) 16 := by
      apply cntB_inj 9 _ _ (fun g => (tO g).toNatClampNeg)
      · intro g hg h
        simp only [Bool.and_eq_true] at h
        obtain ⟨u, u16, e1, e2, e3⟩ := key g hg h.1
        simp only [e1, cl (show u < 100 by omega)]
        refine ⟨u16, ?_⟩
        rw [Bool.false_or]
        exact (nbF_iff 9).mpr ⟨g, hg, h.2, by simp only [Bool.and_eq_true]; exact ⟨h1 g hg (mtB_t.mp h.1), e3⟩⟩
      · intro g g' hg hg' h h' e
        simp only [Bool.and_eq_true] at h h'
        obtain ⟨u, u16, e1, e2, e3⟩ := key g hg h.1
        obtain ⟨u', u16', e1', e2', e3'⟩ := key g' hg' h'.1
        simp only [e1, e1', cl (show u < 100 by omega), cl (show u' < 100 by omega)] at e
        subst e
        rw [e2] at e2'
        exact nI9 (by omega) (by omega) e2'
    omega
  · have s1 : cntB (fun t => false || nbF (fun g t => sel g && rw g t) (fun g => !(sel g) || B g) 9 t) 16 ≤ cntB (fun g => mtB tO g && B g) 9 := by
      apply cntB_inj 16 _ _ (fun u => (fO u).toNatClampNeg)
      · intro u hu h
        rw [Bool.false_or] at h
        obtain ⟨k, k9, g1, g2⟩ := (nbF_iff 9).mp h
        simp only [Bool.and_eq_true] at g2
        rw [g2.1, Bool.not_true, Bool.false_or, hB] at g1
        obtain ⟨h', h9, hW, hf⟩ := hC k k9 g1 u hu g2.2
        have e0 : (fO u).toNatClampNeg = h' := by rw [hf, cl (show h' < 100 by omega)]
        simp only [e0]
        refine ⟨h9, ?_⟩
        simp only [Bool.and_eq_true, hB]
        refine ⟨mtB_t.mpr ?_, hW⟩
        rcases hT.2 u hu with e | ⟨g', a1, a2, a3⟩
        · rw [e] at hf
          exact absurd hf.symm (nI_nm6 (by omega))
        · rw [hf] at a2
          have := nI9 (by omega) (by omega) a2
          subst this
          rw [a3]
          exact nI_nm6 (by omega)
      · intro u v hu hv hpu hpv e
        rw [Bool.false_or] at hpu hpv
        have own : ∀ u, u < 16 → nbF (fun g t => sel g && rw g t) (fun g => !(sel g) || B g) 9 u = true → ∃ h, h < 9 ∧ fO u = nI h ∧ tO h = nI u := by
          intro u hu h
          obtain ⟨k, k9, g1, g2⟩ := (nbF_iff 9).mp h
          simp only [Bool.and_eq_true] at g2
          rw [g2.1, Bool.not_true, Bool.false_or, hB] at g1
          obtain ⟨h', h9, hW, hf⟩ := hC k k9 g1 u hu g2.2
          rcases hT.2 u hu with e | ⟨g', a1, a2, a3⟩
          · rw [e] at hf
            exact absurd hf.symm (nI_nm6 (by omega))
          · exact ⟨g', a1, a2, a3⟩
        obtain ⟨a, a9, a1, a2⟩ := own u hu hpu
        obtain ⟨b, b9, b1, b2⟩ := own v hv hpv
        simp only [a1, b1, cl (show a < 100 by omega), cl (show b < 100 by omega)] at e
        subst e
        rw [a2] at b2
        exact nI9 (by omega) (by omega) b2
    have s2 := cntB_or (P := fun g => mtB tO g && B g) (R := fun k => !(!(sel k) || B k)) (S := mtB tO) 9 (fun k hk h => by
        simp only [Bool.and_eq_true] at h
        rw [h.2]
        simp) (fun k hk h => by
        simp only [Bool.and_eq_true] at h
        exact h.1) (fun k hk h => by
        simp only [Bool.not_or, Bool.not_not, Bool.and_eq_true, Bool.not_eq_true'] at h
        exact mtB_t.mpr (fun e => by
          have := (hB k).mpr (h2 k hk h.1 e)
          rw [h.2] at this
          cases this))
    omega
section MOST
variable {D : vDD} {m : vMM} {z : vZZ} {rw : Nat → Nat → Bool} {x y : Int32}
theorem k_self : kM m (m 861) (m 862) (m 863) (m 864) = m := by
  unfold kM
  rw [setR_self]
  have e1 : setR m 862 (m 862) = m := setR_self
  have e2 : setR m 863 (m 863) = m := setR_self
  have e3 : setR m 864 (m 864) = m := setR_self
  rw [e1, e2, e3]
theorem l_most1 (hM : IsMo D) {tO cF rq : Nat → Int32} : ∀ k i (fO : Nat → Int32), i + k = 16 → (∀ u, u < i → fO u = m6) → ∃ fO', (∀ u, u < 16 → fO' u = m6) ∧ ∀ Q, Runs MX7_most 2 [.ref 853, .int y, .int x, .int (nI i), vJ] [] D (kM m tO fO cF rq) z Q = Runs MX7_most 22 [.ref 853, .int y, .int x, .int (nI 16), vJ] [] D (kM m tO fO' cF rq) z Q := by
  have h1 := hM
  simp only [IsMo] at h1
  intro k
  induction k with
  | zero =>
    intro i fO hi h
    obtain rfl : i = 16 := by omega
    refine ⟨fO, h, fun Q => ?_⟩
    rw [sX7_most_2]
    simp (disch := omega) only [sX7_most_3, sX7_most_5, sX7_most_8, sX7_most_9, sX7_most_12, sX7_most_13, sX7_most_15, sX7_most_16, sX7_most_19, h1, true_and, and_true, true_or, or_true, eq_self, ↓reduceIte, if_true, if_false, nI_add, nI_mul, inB_nI, nI_clamp, Nat.add_zero, eqI, ltI, leI, m6_ne, ne_m6, Nat.reduceEqDiff, reduceCtorEq, Nat.reduceLT, Nat.reduceLeDiff, Nat.reduceAdd, Nat.reduceMul, Nat.zero_add, Nat.mul_zero, nar_0, nar_1, nar_b, bI_t, bI_f, bI_0, bI_1, Bool.true_eq_false, Bool.false_eq_true, Bool.and_self, Bool.and_false, Bool.false_and, Bool.true_and, Bool.and_true, and_self, Nat.le_refl]
  | succ k ih =>
    intro i fO hi h
    have hlt : ¬ 16 ≤ i := by omega
    obtain ⟨fO', i1, i2⟩ := ih (i + 1) (upd fO i m6) (by omega) (fun u hu => by
      by_cases e : u = i
      · subst e; exact upd_eq _ _ _
      · rw [upd_ne _ _ e]; exact h u (by omega))
    refine ⟨fO', i1, fun Q => ?_⟩
    rw [sX7_most_2]
    simp (disch := omega) only [sX7_most_3, sX7_most_5, sX7_most_8, sX7_most_9, sX7_most_12, sX7_most_13, sX7_most_15, sX7_most_16, sX7_most_19, h1, true_and, and_true, true_or, or_true, eq_self, ↓reduceIte, if_true, if_false, nI_add, nI_mul, inB_nI, nI_clamp, Nat.add_zero, eqI, ltI, leI, m6_ne, ne_m6, Nat.reduceEqDiff, reduceCtorEq, Nat.reduceLT, Nat.reduceLeDiff, Nat.reduceAdd, Nat.reduceMul, Nat.zero_add, Nat.mul_zero, nar_0, nar_1, nar_b, bI_t, bI_f, bI_0, bI_1, Bool.true_eq_false, Bool.false_eq_true, Bool.and_self, Bool.and_false, Bool.false_and, Bool.true_and, Bool.and_true, and_self, hlt, k_w2, i2]
theorem l_most2 (hM : IsMo D) {fO cF rq : Nat → Int32} : ∀ k i (tO : Nat → Int32), i + k = 9 → (∀ u, u < i → tO u = m6) → ∃ tO', (∀ u, u < 9 → tO' u = m6) ∧ ∀ Q, Runs MX7_most 24 [.ref 853, .int y, .int x, .int (nI i), vJ] [] D (kM m tO fO cF rq) z Q = Runs MX7_most 44 [.ref 853, .int y, .int x, .int (nI 9), vJ] [] D (kM m tO' fO cF rq) z Q := by
  have h1 := hM
  simp only [IsMo] at h1
  intro k
  induction k with
  | zero =>
    intro i tO hi h
    obtain rfl : i = 9 := by omega
    refine ⟨tO, h, fun Q => ?_⟩
    rw [sX7_most_24]
    simp (disch := omega) only [sX7_most_25, sX7_most_27, sX7_most_30, sX7_most_31, sX7_most_34, sX7_most_35, sX7_most_37, sX7_most_38, sX7_most_41, h1, true_and, and_true, true_or, or_true, eq_self, ↓reduceIte, if_true, if_false, nI_add, nI_mul, inB_nI, nI_clamp, Nat.add_zero, eqI, ltI, leI, m6_ne, ne_m6, Nat.reduceEqDiff, reduceCtorEq, Nat.reduceLT, Nat.reduceLeDiff, Nat.reduceAdd, Nat.reduceMul, Nat.zero_add, Nat.mul_zero, nar_0, nar_1, nar_b, bI_t, bI_f, bI_0, bI_1, Bool.true_eq_false, Bool.false_eq_true, Bool.and_self, Bool.and_false, Bool.false_and, Bool.true_and, Bool.and_true, and_self]
  | succ k ih =>
    intro i tO hi h
    have hlt : ¬ 8 < i := by omega
    obtain ⟨tO', i1, i2⟩ := ih (i + 1) (upd tO i m6) (by omega) (fun u hu => by
      by_cases e : u = i
      · subst e; exact upd_eq _ _ _
      · rw [upd_ne _ _ e]; exact h u (by omega))
    refine ⟨tO', i1, fun Q => ?_⟩
    rw [sX7_most_24]
    simp (disch := omega) only [sX7_most_25, sX7_most_27, sX7_most_30, sX7_most_31, sX7_most_34, sX7_most_35, sX7_most_37, sX7_most_38, sX7_most_41, h1, true_and, and_true, true_or, or_true, eq_self, ↓reduceIte, if_true, if_false, nI_add, nI_mul, inB_nI, nI_clamp, Nat.add_zero, eqI, ltI, leI, m6_ne, ne_m6, Nat.reduceEqDiff, reduceCtorEq, Nat.reduceLT, Nat.reduceLeDiff, Nat.reduceAdd, Nat.reduceMul, Nat.zero_add, Nat.mul_zero, nar_0, nar_1, nar_b, bI_t, bI_f, bI_0, bI_1, Bool.true_eq_false, Bool.false_eq_true, Bool.and_self, Bool.and_false, Bool.false_and, Bool.true_and, Bool.and_true, and_self, hlt, k_w1, i2]
theorem l_most3 (hM : IsMo D) (hrw : rw = rwM m x) : ∀ (k f : Nat) (W : Nat → Prop) (tO fO cF rq : Nat → Int32), f + k = 9 → MTs rw tO fO → CLs rw W fO → (∀ g, g < 9 → tO g ≠ m6 → g < f ∧ selB y g = true) → (∀ g, g < f → selB y g = true → tO g = m6 → W g) →
    ∃ tO' fO' cF' rq', ∀ Q, Runs MX7_most 49 [.ref 853, .int y, .int x, .int (nI (cntB (mtB tO) 9)), .int (nI f)] [] D (kM m tO fO cF rq) z Q = Q (.int (nI (mnR (fun g t => selB y g && rw g t) 16 9 (fun _ => false)))) D (kM m tO' fO' cF' rq') z := by
  have h1 := hM
  simp only [IsMo] at h1
  intro k
  induction k with
  | zero =>
    intro f W tO fO cF rq hk hT hC a1 a2
    obtain rfl : f = 9 := by omega
    refine ⟨tO, fO, cF, rq, fun Q => ?_⟩
    rw [most_is hT hC (fun g hg h => (a1 g hg h).2) a2, sX7_most_49]
    simp (disch := omega) only [sX7_most_51, sX7_most_53, sX7_most_56, sX7_most_57, sX7_most_58, sX7_most_60, sX7_most_61, sX7_most_62, sX7_most_63, sX7_most_64, sX7_most_67, sX7_most_68, sX7_most_70, sX7_most_71, sX7_most_74, sX7_most_77, sX7_most_78, sX7_most_81, sX7_most_82, sX7_most_83, sX7_most_84, sX7_most_87, sX7_most_90, sX7_most_91, h1, true_and, and_true, true_or, or_true, eq_self, ↓reduceIte, if_true, if_false, nI_add, nI_mul, inB_nI, nI_clamp, Nat.add_zero, eqI, ltI, leI, m6_ne, ne_m6, Nat.reduceEqDiff, reduceCtorEq, Nat.reduceLT, Nat.reduceLeDiff, Nat.reduceAdd, Nat.reduceMul, Nat.zero_add, Nat.mul_zero, nar_0, nar_1, nar_b, bI_t, bI_f, bI_0, bI_1, Bool.true_eq_false, Bool.false_eq_true, Bool.and_self, Bool.and_false, Bool.false_and, Bool.true_and, Bool.and_true, and_self]
  | succ k ih =>
    intro f W tO fO cF rq hk hT hC a1 a2
    have hlt : ¬ 8 < f := by omega
    have h0 : tO f = m6 := by
      by_cases e : tO f = m6
      · exact e
      · have := (a1 f (by omega) e).1
        omega
    by_cases hs : selB y f = true
    · obtain ⟨r, tO1, fO1, cF1, rq1, p1, p2⟩ := c_finds (D := D) (m := m) (z := z) (W := W) hM hrw (cF := cF) (rq := rq) (fx := f) (by omega) hT hC h0
      have hs2 : ((y >>> (nI f &&& 31)) &&& nI 1) = nI 1 := by simpa only [selB, beq_iff_eq] using hs
      rcases p1 with ⟨rfl, q1, q2, q3⟩ | ⟨rfl, rfl, rfl, W', q1, q2, q3⟩
      · have hc : cntB (mtB tO1) 9 = cntB (mtB tO) 9 + 1 := by
          have hf : mtB tO1 f = true := mtB_t.mpr (fun e => ((q3 f (by omega)).mp e).2 rfl)
          rw [cntB_out 9 (by omega) hf]
          congr 1
          refine cntB_ext 9 (fun g hg => ?_)
          by_cases e : g = f
          · subst e
            have : mtB tO g = false := by
              rw [Bool.eq_false_iff]
              exact fun h => mtB_t.mp h h0
            rw [this]
            simp
          · have e2 : (g == f) = false := by simp [e]
            rw [e2, Bool.not_false, Bool.and_true]
            have := q3 g hg
            rw [Bool.eq_iff_iff, mtB_t, mtB_t]
            exact not_congr ⟨fun h => (this.mp h).1, fun h => this.mpr ⟨h, e⟩⟩
        obtain ⟨tO2, fO2, cF2, rq2, i2⟩ := ih (f + 1) W tO1 fO1 cF1 rq1 (by omega) q1 q2 (fun g hg h => by
            by_cases e : g = f
            · subst e; exact ⟨by omega, hs⟩
            · have := a1 g hg (fun e2 => h ((q3 g hg).mpr ⟨e2, e⟩))
              exact ⟨by omega, this.2⟩) (fun g hg h1 h2 => by
            have := (q3 g (by omega)).mp h2
            exact a2 g (by have := this.2; omega) h1 this.1)
        rw [hc] at i2
        refine ⟨tO2, fO2, cF2, rq2, fun Q => ?_⟩
        rw [sX7_most_49]
        simp (disch := omega) only [sX7_most_51, sX7_most_53, sX7_most_56, sX7_most_57, sX7_most_58, sX7_most_60, sX7_most_61, sX7_most_62, sX7_most_63, sX7_most_64, sX7_most_67, sX7_most_68, sX7_most_70, sX7_most_71, sX7_most_74, sX7_most_77, sX7_most_78, sX7_most_81, sX7_most_82, sX7_most_83, sX7_most_84, sX7_most_87, sX7_most_90, sX7_most_91, h1, true_and, and_true, true_or, or_true, eq_self, ↓reduceIte, if_true, if_false, nI_add, nI_mul, inB_nI, nI_clamp, Nat.add_zero, eqI, ltI, leI, m6_ne, ne_m6, Nat.reduceEqDiff, reduceCtorEq, Nat.reduceLT, Nat.reduceLeDiff, Nat.reduceAdd, Nat.reduceMul, Nat.zero_add, Nat.mul_zero, nar_0, nar_1, nar_b, bI_t, bI_f, bI_0, bI_1, Bool.true_eq_false, Bool.false_eq_true, Bool.and_self, Bool.and_false, Bool.false_and, Bool.true_and, Bool.and_true, and_self, hlt, hs2, p2, i2]
      · obtain ⟨tO2, fO2, cF2, rq2, i2⟩ := ih (f + 1) W' tO1 fO1 cF1 rq1 (by omega) hT q3 (fun g hg h => ⟨by have := (a1 g hg h).1; omega, (a1 g hg h).2⟩) (fun g hg h1 h2 => by
            by_cases e : g = f
            · subst e; exact q2
            · exact q1 g (a2 g (by omega) h1 h2))
        refine ⟨tO2, fO2, cF2, rq2, fun Q => ?_⟩
        rw [sX7_most_49]
        simp (disch := omega) only [sX7_most_51, sX7_most_53, sX7_most_56, sX7_most_57, sX7_most_58, sX7_most_60, sX7_most_61, sX7_most_62, sX7_most_63, sX7_most_64, sX7_most_67, sX7_most_68, sX7_most_70, sX7_most_71, sX7_most_74, sX7_most_77, sX7_most_78, sX7_most_81, sX7_most_82, sX7_most_83, sX7_most_84, sX7_most_87, sX7_most_90, sX7_most_91, h1, true_and, and_true, true_or, or_true, eq_self, ↓reduceIte, if_true, if_false, nI_add, nI_mul, inB_nI, nI_clamp, Nat.add_zero, eqI, ltI, leI, m6_ne, ne_m6, Nat.reduceEqDiff, reduceCtorEq, Nat.reduceLT, Nat.reduceLeDiff, Nat.reduceAdd, Nat.reduceMul, Nat.zero_add, Nat.mul_zero, nar_0, nar_1, nar_b, bI_t, bI_f, bI_0, bI_1, Bool.true_eq_false, Bool.false_eq_true, Bool.and_self, Bool.and_false, Bool.false_and, Bool.true_and, Bool.and_true, and_self, hlt, hs2, p2, i2]
    · have hs2 : ¬ ((y >>> (nI f &&& 31)) &&& nI 1) = nI 1 := by simpa only [selB, beq_iff_eq] using hs
      obtain ⟨tO2, fO2, cF2, rq2, i2⟩ := ih (f + 1) W tO fO cF rq (by omega) hT hC (fun g hg h => ⟨by have := (a1 g hg h).1; omega, (a1 g hg h).2⟩) (fun g hg h1 h2 => by
          by_cases e : g = f
          · subst e; exact absurd h1 hs
          · exact a2 g (by omega) h1 h2)
      refine ⟨tO2, fO2, cF2, rq2, fun Q => ?_⟩
      rw [sX7_most_49]
      simp (disch := omega) only [sX7_most_51, sX7_most_53, sX7_most_56, sX7_most_57, sX7_most_58, sX7_most_60, sX7_most_61, sX7_most_62, sX7_most_63, sX7_most_64, sX7_most_67, sX7_most_68, sX7_most_70, sX7_most_71, sX7_most_74, sX7_most_77, sX7_most_78, sX7_most_81, sX7_most_82, sX7_most_83, sX7_most_84, sX7_most_87, sX7_most_90, sX7_most_91, h1, true_and, and_true, true_or, or_true, eq_self, ↓reduceIte, if_true, if_false, nI_add, nI_mul, inB_nI, nI_clamp, Nat.add_zero, eqI, ltI, leI, m6_ne, ne_m6, Nat.reduceEqDiff, reduceCtorEq, Nat.reduceLT, Nat.reduceLeDiff, Nat.reduceAdd, Nat.reduceMul, Nat.zero_add, Nat.mul_zero, nar_0, nar_1, nar_b, bI_t, bI_f, bI_0, bI_1, Bool.true_eq_false, Bool.false_eq_true, Bool.and_self, Bool.and_false, Bool.false_and, Bool.true_and, Bool.and_true, and_self, hlt, hs2, i2]
theorem c_most (hM : IsMo D) : ∃ tO fO cF rq, ∀ Q, Runs MX7_most 0 [.ref 853, .int y, .int x, vJ, vJ] [] D m z Q = Q (.int (nI (mnR (rwY m y x) 16 9 (fun _ => false)))) D (kM m tO fO cF rq) z := by
  have h1 := hM
  simp only [IsMo] at h1
  obtain ⟨fO1, a1, a2⟩ := l_most1 (D := D) (m := m) (z := z) (x := x) (y := y) hM (tO := m 861) (cF := m 863) (rq := m 864) 16 0 (m 862) (by decide) (fun u hu => absurd hu (Nat.not_lt_zero u))
  obtain ⟨tO1, b1, b2⟩ := l_most2 (D := D) (m := m) (z := z) (x := x) (y := y) hM (fO := fO1) (cF := m 863) (rq := m 864) 9 0 (m 861) (by decide) (fun u hu => absurd hu (Nat.not_lt_zero u))
  have hT : MTs (rwM m x) tO1 fO1 := ⟨fun g hg => Or.inl (b1 g hg), fun u hu => Or.inl (a1 u hu)⟩
  obtain ⟨tO2, fO2, cF2, rq2, i2⟩ := l_most3 (D := D) (m := m) (z := z) (x := x) (y := y) hM rfl 9 0 (fun _ => False) tO1 fO1 (m 863) (m 864) (by decide) hT (fun _ _ h => h.elim) (fun g hg h => absurd (b1 g hg) h) (fun g hg => absurd hg (Nat.not_lt_zero g))
  have hz : cntB (mtB tO1) 9 = 0 := by
    have : cntB (mtB tO1) 9 = cntB (fun _ => false) 9 := cntB_ext 9 (fun g hg => by
      rw [Bool.eq_false_iff]
      exact fun h => mtB_t.mp h (b1 g hg))
    rw [this]
    decide
  rw [hz] at i2
  rw [k_self] at a2
  refine ⟨tO2, fO2, cF2, rq2, fun Q => ?_⟩
  simp (disch := omega) only [sX7_most_0, sX7_most_1, h1, true_and, and_true, true_or, or_true, eq_self, ↓reduceIte, if_true, if_false, nI_add, nI_mul, inB_nI, nI_clamp, Nat.add_zero, eqI, ltI, leI, m6_ne, ne_m6, Nat.reduceEqDiff, reduceCtorEq, Nat.reduceLT, Nat.reduceLeDiff, Nat.reduceAdd, Nat.reduceMul, Nat.zero_add, Nat.mul_zero, nar_0, nar_1, nar_b, bI_t, bI_f, bI_0, bI_1, Bool.true_eq_false, Bool.false_eq_true, Bool.and_self, Bool.and_false, Bool.false_and, Bool.true_and, Bool.and_true, and_self, a2, sX7_most_22, sX7_most_23, b2, sX7_most_44, sX7_most_45, sX7_most_46, sX7_most_47, i2]
  rfl
end MOST
