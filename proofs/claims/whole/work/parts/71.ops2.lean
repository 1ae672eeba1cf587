/-! again, pass, clear; the looks -/
section OP2
variable {D : vDD} {m : vMM} {z : vZZ}
theorem p_again (C0 : Cpl D m) (x : Int32) : Pair MX6_again MX7_again [.ref 1, .int x, vJ] [.ref 853, .int x] D m z := by
  obtain ⟨H, f, nF, nT, r, L, h, s, b0, b1, ch, C, S, E⟩ := C0
  have hM := C.1.2.2.2.2.1
  have hA := C.1.1
  simp only [IsMM] at hA
  obtain ⟨c0, q1, q2, q3, hF⟩ := C.rd
  have h16 := hF.1.2.2.2
  have hf := fun Q => x_hasThing (D := D) (m := m) (z := z) (Q := Q) q3 q2 hF (x := x)
  rw [q1] at hf
  obtain ⟨⟨a1, a2, a3, a4⟩, ⟨a5, a6, a7, a8, -⟩, a11, a12, a13, a14, -⟩ := id q3
  cases hx : inR x nT
  · have mm := fun Q => m_again_no (D := D) (m := m) (z := z) (f := f) (Q := Q) hM hF.1.2.2.1 h16 hx
    rw [E] at mm
    rw [hx] at hf
    refine ⟨m1, D, m, D, m, fun Q => ?_, mm, H, f, nF, nT, r, L, h, s, b0, b1, ch, C, S, E⟩
    simp (disch := omega) only [sX6_again_0, sX6_again_1, sX6_again_4, sX6_again_5, sX6_again_8, sX6_again_11, sX6_again_12, sX6_again_13, sX6_again_14, sX6_again_17, sX6_again_20, sX6_again_21, sX6_again_22, sX6_again_23, sX6_again_24, sX6_again_27, sX6_again_28, sX6_again_31, sX6_again_33, sX6_again_34, sX6_again_35, sX6_again_38, sX6_again_39, sX6_again_42, sX6_again_45, sX6_again_46, sX6_again_49, sX6_again_50, sX6_again_53, sX6_again_54, sX6_again_57, hA, a1, true_and, and_true, true_or, or_true, eq_self, ↓reduceIte, if_true, if_false, nI_add, nI_mul, inB_nI, nI_clamp, Nat.add_zero, eqI, ltI, leI, m6_ne, ne_m6, Nat.reduceEqDiff, reduceCtorEq, Nat.reduceLT, Nat.reduceLeDiff, Nat.reduceAdd, Nat.reduceMul, Nat.zero_add, Nat.mul_zero, nar_0, nar_1, nar_b, bI_t, bI_f, bI_0, bI_1, Bool.true_eq_false, Bool.false_eq_true, Bool.and_self, Bool.and_false, Bool.false_and, Bool.true_and, Bool.and_true, and_self, hf]
  · obtain ⟨t, ht, rfl⟩ := inR_t hx (by omega)
    rw [hx] at hf
    have a13 := a13 t (by omega)
    have a14 := a14 t (by omega)
    have gi : m (2 + 12 + 4 * t) 5 = gT f t 0 := by rw [← q1, b_T0 (by omega)]; exact (q2.2.2 t ht).1 0 (by decide) (by decide)
    generalize hq : 2 + 12 + 4 * t = q at a13 a14 gi
    by_cases hs : gT f t 0 = nI 3
    · obtain ⟨c, D', H', m', k1, k2, k3, k4, k5, k6⟩ := C.kp (z := z)
      have hB' := k4.1
      simp only [IsMM] at hB'
      have e1 : ∀ c2 a, 853 ≤ a → bM m' 2 c2 a = m a := fun c2 a ha => by rw [bM_o (by omega), k3 a ha]
      have r2 := Rfc_wA k2 (t := t) (by omega) hF.1.2.1 h16
      have w2 : WF (wA f t) nF nT := hF.again ht (by rw [hs]; exact nI_ne (by decide) (by decide) (by decide))
      have C1 := k6 _ _ _ _ r2 w2
      have hE := eM_frC E (e1 (wA c t))
      have mm := fun Q => m_again (D := D') (m := bM m' 2 (wA c t)) (z := z) (f := f) (Q := Q) (r := r) k4.2.2.2.2.1 (S.frC (e1 _)).1.1 S.1.2.1 hF.1.2.2.1 h16 ht hs
      rw [hE] at mm
      have bw := fun Q => x_becomeWaiting (D := D') (m := m') (z := z) (Q := Q) (c := c) k4.2.1.1 (t := t) (by omega)
      rw [hq] at bw
      have ti := fun Q => x_thingsIn (D := D') (m := m') (z := z) (Q := Q) k4.2.1.1 r2 w2 (h := nI 0)
      have d14 := k4.2.1.1.2.2.2.2.2.1 t (by omega)
      rw [hq] at d14
      rw [hs] at gi
      refine ⟨_, D', bM m' 2 (wA c t), _, _, fun Q => ?_, mm, fin_rec C1 S (e1 _)⟩
      simp (disch := omega) only [sX6_again_0, sX6_again_1, sX6_again_4, sX6_again_5, sX6_again_8, sX6_again_11, sX6_again_12, sX6_again_13, sX6_again_14, sX6_again_17, sX6_again_20, sX6_again_21, sX6_again_22, sX6_again_23, sX6_again_24, sX6_again_27, sX6_again_28, sX6_again_31, sX6_again_33, sX6_again_34, sX6_again_35, sX6_again_38, sX6_again_39, sX6_again_42, sX6_again_45, sX6_again_46, sX6_again_49, sX6_again_50, sX6_again_53, sX6_again_54, sX6_again_57, hA, hB', a1, a3, a7, a8, a13, a14, d14, k4.2.1.1.1.1, true_and, and_true, true_or, or_true, eq_self, ↓reduceIte, if_true, if_false, nI_add, nI_mul, inB_nI, nI_clamp, Nat.add_zero, eqI, ltI, leI, m6_ne, ne_m6, Nat.reduceEqDiff, reduceCtorEq, Nat.reduceLT, Nat.reduceLeDiff, Nat.reduceAdd, Nat.reduceMul, Nat.zero_add, Nat.mul_zero, nar_0, nar_1, nar_b, bI_t, bI_f, bI_0, bI_1, Bool.true_eq_false, Bool.false_eq_true, Bool.and_self, Bool.and_false, Bool.false_and, Bool.true_and, Bool.and_true, and_self, hf, gi, k5, bw, ti, Nat.one_ne_zero]
    · have mm := fun Q => m_again_np (D := D) (m := m) (z := z) (f := f) (Q := Q) hM hF.1.2.2.1 h16 ht hs
      rw [E] at mm
      refine ⟨m5, D, m, D, m, fun Q => ?_, mm, H, f, nF, nT, r, L, h, s, b0, b1, ch, C, S, E⟩
      simp (disch := omega) only [sX6_again_0, sX6_again_1, sX6_again_4, sX6_again_5, sX6_again_8, sX6_again_11, sX6_again_12, sX6_again_13, sX6_again_14, sX6_again_17, sX6_again_20, sX6_again_21, sX6_again_22, sX6_again_23, sX6_again_24, sX6_again_27, sX6_again_28, sX6_again_31, sX6_again_33, sX6_again_34, sX6_again_35, sX6_again_38, sX6_again_39, sX6_again_42, sX6_again_45, sX6_again_46, sX6_again_49, sX6_again_50, sX6_again_53, sX6_again_54, sX6_again_57, hA, a1, a3, a7, a8, a13, a14, true_and, and_true, true_or, or_true, eq_self, ↓reduceIte, if_true, if_false, nI_add, nI_mul, inB_nI, nI_clamp, Nat.add_zero, eqI, ltI, leI, m6_ne, ne_m6, Nat.reduceEqDiff, reduceCtorEq, Nat.reduceLT, Nat.reduceLeDiff, Nat.reduceAdd, Nat.reduceMul, Nat.zero_add, Nat.mul_zero, nar_0, nar_1, nar_b, bI_t, bI_f, bI_0, bI_1, Bool.true_eq_false, Bool.false_eq_true, Bool.and_self, Bool.and_false, Bool.false_and, Bool.true_and, Bool.and_true, and_self, hf, gi, hs, Nat.one_ne_zero]
theorem Rfc_zero {f c : Nat → Int32} {nF nT : Nat} (h : Rfc f c nF nT) (h8 : nF ≤ 8) (h16 : nT ≤ 16) : Rfc (zeroF f) c nF nT := ((h.o (by decide) h8 h16).o (by decide) h8 h16).o (by decide) h8 h16
theorem p_pass (C0 : Cpl D m) (x : Int32) : Pair MX6_pass MX7_pass [.ref 1, .int x, vJ] [.ref 853, .int x] D m z := by
  obtain ⟨H, f, nF, nT, r, L, h, s, b0, b1, ch, C, S, E⟩ := C0
  have hM := C.1.2.2.2.2.1
  have hA := C.1.1
  simp only [IsMM] at hA
  have o1 := fun (m : vMM) Q => x_outside (D := D) (m := m) (z := z) (v := x) (a := nI 1) (b := nI 200) (Q := Q)
  cases hx : (decide (nI 1 ≤ x) && decide (x ≤ nI 200))
  · rw [hx] at o1
    refine ⟨m2, D, m, D, m, fun Q => ?_, fun Q => m_pass_bad hM hx, H, f, nF, nT, r, L, h, s, b0, b1, ch, C, S, E⟩
    simp (disch := omega) only [sX6_pass_0, sX6_pass_1, sX6_pass_2, sX6_pass_5, sX6_pass_8, sX6_pass_11, sX6_pass_13, sX6_pass_14, sX6_pass_15, sX6_pass_18, sX6_pass_19, sX6_pass_22, sX6_pass_25, sX6_pass_26, sX6_pass_29, sX6_pass_30, sX6_pass_33, sX6_pass_34, sX6_pass_35, sX6_pass_38, sX6_pass_39, sX6_pass_42, sX6_pass_43, sX6_pass_46, sX6_pass_47, sX6_pass_50, sX6_pass_51, sX6_pass_52, hA, true_and, and_true, true_or, or_true, eq_self, ↓reduceIte, if_true, if_false, nI_add, nI_mul, inB_nI, nI_clamp, Nat.add_zero, eqI, ltI, leI, m6_ne, ne_m6, Nat.reduceEqDiff, reduceCtorEq, Nat.reduceLT, Nat.reduceLeDiff, Nat.reduceAdd, Nat.reduceMul, Nat.zero_add, Nat.mul_zero, nar_0, nar_1, nar_b, bI_t, bI_f, bI_0, bI_1, Bool.true_eq_false, Bool.false_eq_true, Bool.and_self, Bool.and_false, Bool.false_and, Bool.true_and, Bool.and_true, and_self, o1, Bool.not_false, Nat.one_ne_zero]
  · rw [hx] at o1
    have hv : ∃ k, 1 ≤ k ∧ k ≤ 200 ∧ x = nI k := by
      simp only [Bool.and_eq_true, decide_eq_true_eq] at hx
      rcases i32_cases x with ⟨k, hk, rfl⟩ | hn
      · rw [leI _ _ (by decide) hk, leI _ _ hk (by decide)] at hx
        exact ⟨k, hx.1, hx.2, rfl⟩
      · exact absurd (Int32.lt_of_le_of_lt hx.1 hn) (by decide +kernel)
    obtain ⟨k, hk1, hk2, rfl⟩ := hv
    obtain ⟨c, D', H', m', k1, k2, k3, k4, k5, k6⟩ := C.kp (z := z)
    have hB' := k4.1
    simp only [IsMM] at hB'
    have hF := C.2.2.1
    have e1 : ∀ c2 a, 853 ≤ a → bM m' 2 c2 a = m a := fun c2 a ha => by rw [bM_o (by omega), k3 a ha]
    obtain ⟨c', r2, lp⟩ := x_letPass (D := D') (m := m') (z := z) k4.2.1.1 (Rfc_zero k2 hF.1.2.1 hF.1.2.2.2) hF.zero (n := k) (by omega)
    have r3 : Rfc (passesF k f) c' nF nT := r2
    have w2 : WF (passesF k f) nF nT := hF.passes k
    have C1 := k6 _ _ _ _ r3 w2
    have hE := eM_frC E (e1 c')
    have mm := fun Q => m_pass (D := D') (m := bM m' 2 c') (z := z) (f := f) (Q := Q) (r := r) k4.2.2.2.2.1 (S.frC (e1 _)).1.1 S.1.2.1 hF hk1 hk2
    rw [hE] at mm
    have t1 := fun Q => x_thingsIn (D := D') (m := m') (z := z) (Q := Q) k4.2.1.1 k2 hF (h := nI 2)
    have t2 := fun Q => x_thingsIn (D := D') (m := m') (z := z) (Q := Q) k4.2.1.1 r3 w2 (h := nI 2)
    have pc := (passes_cnt hF k).1
    refine ⟨_, D', bM m' 2 c', _, _, fun Q => ?_, mm, fin_rec C1 S (e1 _)⟩
    rw [pc]
    simp (disch := omega) only [sX6_pass_0, sX6_pass_1, sX6_pass_2, sX6_pass_5, sX6_pass_8, sX6_pass_11, sX6_pass_13, sX6_pass_14, sX6_pass_15, sX6_pass_18, sX6_pass_19, sX6_pass_22, sX6_pass_25, sX6_pass_26, sX6_pass_29, sX6_pass_30, sX6_pass_33, sX6_pass_34, sX6_pass_35, sX6_pass_38, sX6_pass_39, sX6_pass_42, sX6_pass_43, sX6_pass_46, sX6_pass_47, sX6_pass_50, sX6_pass_51, sX6_pass_52, hA, hB', k4.2.1.1.1.1, true_and, and_true, true_or, or_true, eq_self, ↓reduceIte, if_true, if_false, nI_add, nI_mul, inB_nI, nI_clamp, Nat.add_zero, eqI, ltI, leI, m6_ne, ne_m6, Nat.reduceEqDiff, reduceCtorEq, Nat.reduceLT, Nat.reduceLeDiff, Nat.reduceAdd, Nat.reduceMul, Nat.zero_add, Nat.mul_zero, nar_0, nar_1, nar_b, bI_t, bI_f, bI_0, bI_1, Bool.true_eq_false, Bool.false_eq_true, Bool.and_self, Bool.and_false, Bool.false_and, Bool.true_and, Bool.and_true, and_self, o1, Bool.not_true, k5, t1, t2, lp]
theorem p_clear (C0 : Cpl D m) : Pair MX6_clear MX7_clear [.ref 1, vJ] [.ref 853, vJ, vJ] D m z := by
  obtain ⟨H, f, nF, nT, r, L, h, s, b0, b1, ch, C, S, E⟩ := C0
  have hA := C.1.1
  simp only [IsMM] at hA
  obtain ⟨c, D', H', m', k1, k2, k3, k4, k5, k6⟩ := C.kp (z := z)
  have hB' := k4.1
  simp only [IsMM] at hB'
  have hF := C.2.2.1
  have e1 : ∀ c2 a, 853 ≤ a → bM m' 2 c2 a = m a := fun c2 a ha => by rw [bM_o (by omega), k3 a ha]
  have C1 := k6 _ _ _ _ (k2.clear hF.1.2.1) (WF_clear hF)
  have hE := eM_frC E (e1 (clearF c nF))
  have mm := fun Q => m_clear (D := D') (m := bM m' 2 (clearF c nF)) (z := z) (f := f) (Q := Q) (r := r) k4.2.2.2.2.1 (S.frC (e1 _)).1.1 S.1.2.1 hF.1.1 hF.1.2.1
  rw [hE] at mm
  have rm := fun Q => x_removeThings (D := D') (m := m') (z := z) (Q := Q) (c := c) k4.2.1.1 ((k2.1 2 (by decide)).trans hF.1.1) hF.1.2.1
  have e3 := k2.1 3 (by decide)
  refine ⟨_, D', bM m' 2 (clearF c nF), _, _, fun Q => ?_, mm, fin_rec C1 S (e1 _)⟩
  simp (disch := omega) only [sX6_clear_0, sX6_clear_1, sX6_clear_4, sX6_clear_5, sX6_clear_8, sX6_clear_11, sX6_clear_12, sX6_clear_15, sX6_clear_18, sX6_clear_19, sX6_clear_20, sX6_clear_23, sX6_clear_26, sX6_clear_27, hA, hB', k4.2.1.1.1.1, true_and, and_true, true_or, or_true, eq_self, ↓reduceIte, if_true, if_false, nI_add, nI_mul, inB_nI, nI_clamp, Nat.add_zero, eqI, ltI, leI, m6_ne, ne_m6, Nat.reduceEqDiff, reduceCtorEq, Nat.reduceLT, Nat.reduceLeDiff, Nat.reduceAdd, Nat.reduceMul, Nat.zero_add, Nat.mul_zero, nar_0, nar_1, nar_b, bI_t, bI_f, bI_0, bI_1, Bool.true_eq_false, Bool.false_eq_true, Bool.and_self, Bool.and_false, Bool.false_and, Bool.true_and, Bool.and_true, and_self, k5, b_nT, e3, rm]
theorem p_fixer (C0 : Cpl D m) (x y : Int32) : Pair MX6_fixer MX7_fixer [.ref 1, .int x, .int y, vJ] [.ref 853, .int x, .int y] D m z := by
  obtain ⟨H, f, nF, nT, r, L, h, s, b0, b1, ch, C, S, E⟩ := C0
  have hM := C.1.2.2.2.2.1
  have hA := C.1.1
  simp only [IsMM] at hA
  obtain ⟨c0, q1, q2, q3, hF⟩ := C.rd
  have h8 := hF.1.2.1
  have hf := fun Q => x_hasFixer (D := D) (m := m) (z := z) (Q := Q) q3 q2 hF (x := x)
  rw [q1] at hf
  obtain ⟨⟨a1, a2, a3, a4⟩, ⟨a5, a6, -⟩, a11, a12, -⟩ := id q3
  have K : Cpl D m := ⟨H, f, nF, nT, r, L, h, s, b0, b1, ch, C, S, E⟩
  cases hx : inR x nF
  · have mm := fun Q => m_fixer_no (D := D) (m := m) (z := z) (f := f) (Q := Q) (y := y) hM hF.1.1 h8 hx
    rw [E] at mm
    rw [hx] at hf
    refine ⟨m1, D, m, D, m, fun Q => ?_, mm, K⟩
    simp (disch := omega) only [sX6_fixer_0, sX6_fixer_1, sX6_fixer_4, sX6_fixer_5, sX6_fixer_8, sX6_fixer_11, sX6_fixer_12, sX6_fixer_13, sX6_fixer_14, sX6_fixer_17, sX6_fixer_20, sX6_fixer_21, sX6_fixer_22, sX6_fixer_23, sX6_fixer_24, sX6_fixer_64, sX6_fixer_65, sX6_fixer_68, sX6_fixer_69, sX6_fixer_70, sX6_fixer_73, sX6_fixer_74, sX6_fixer_75, sX6_fixer_78, sX6_fixer_81, sX6_fixer_82, sX6_fixer_85, sX6_fixer_86, sX6_fixer_87, sX6_fixer_88, sX6_fixer_91, sX6_fixer_92, sX6_fixer_93, sX6_fixer_96, sX6_fixer_97, sX6_fixer_98, sX6_fixer_101, sX6_fixer_102, sX6_fixer_104, hA, a1, true_and, and_true, true_or, or_true, eq_self, ↓reduceIte, if_true, if_false, nI_add, nI_mul, inB_nI, nI_clamp, Nat.add_zero, eqI, ltI, leI, m6_ne, ne_m6, Nat.reduceEqDiff, reduceCtorEq, Nat.reduceLT, Nat.reduceLeDiff, Nat.reduceAdd, Nat.reduceMul, Nat.zero_add, Nat.mul_zero, nar_0, nar_1, nar_b, bI_t, bI_f, bI_0, bI_1, Bool.true_eq_false, Bool.false_eq_true, Bool.and_self, Bool.and_false, Bool.false_and, Bool.true_and, Bool.and_true, and_self, hf]
  · obtain ⟨i, hi, rfl⟩ := inR_t hx (by omega)
    rw [hx] at hf
    have a11 := a11 i (by omega)
    have a12 := a12 i (by omega)
    have gi : ∀ k, k < 6 → m (2 + 4 + i) k = gF f i k := fun k hk => by rw [← q1, b_F (by omega) hk]; exact q2.2.1 i hi k hk
    have g0 := gi 0 (by decide)
    have g1 := gi 1 (by decide)
    have g2 := gi 2 (by decide)
    have g3 := gi 3 (by decide)
    have g4 := gi 4 (by decide)
    have g5 := gi 5 (by decide)
    generalize hq : 2 + 4 + i = q at a11 a12 g0 g1 g2 g3 g4 g5
    cases hy : inR y 6
    · have mm := fun Q => m_fixer_bad (D := D) (m := m) (z := z) (f := f) (Q := Q) hM hF.1.1 h8 hi hy
      rw [E] at mm
      have n0 := inR_f hy (k := 0) (by decide) (by decide)
      have n1 := inR_f hy (k := 1) (by decide) (by decide)
      have n2 := inR_f hy (k := 2) (by decide) (by decide)
      have n3 := inR_f hy (k := 3) (by decide) (by decide)
      have n4 := inR_f hy (k := 4) (by decide) (by decide)
      have n5 := inR_f hy (k := 5) (by decide) (by decide)
      refine ⟨m2, D, m, D, m, fun Q => ?_, mm, K⟩
      simp (disch := omega) only [sX6_fixer_0, sX6_fixer_1, sX6_fixer_4, sX6_fixer_5, sX6_fixer_8, sX6_fixer_11, sX6_fixer_12, sX6_fixer_13, sX6_fixer_14, sX6_fixer_17, sX6_fixer_20, sX6_fixer_21, sX6_fixer_22, sX6_fixer_23, sX6_fixer_24, sX6_fixer_64, sX6_fixer_65, sX6_fixer_68, sX6_fixer_69, sX6_fixer_70, sX6_fixer_73, sX6_fixer_74, sX6_fixer_75, sX6_fixer_78, sX6_fixer_81, sX6_fixer_82, sX6_fixer_85, sX6_fixer_86, sX6_fixer_87, sX6_fixer_88, sX6_fixer_91, sX6_fixer_92, sX6_fixer_93, sX6_fixer_96, sX6_fixer_97, sX6_fixer_98, sX6_fixer_101, sX6_fixer_102, sX6_fixer_104, hA, a1, a2, a5, a6, a11, a12, true_and, and_true, true_or, or_true, eq_self, ↓reduceIte, if_true, if_false, nI_add, nI_mul, inB_nI, nI_clamp, Nat.add_zero, eqI, ltI, leI, m6_ne, ne_m6, Nat.reduceEqDiff, reduceCtorEq, Nat.reduceLT, Nat.reduceLeDiff, Nat.reduceAdd, Nat.reduceMul, Nat.zero_add, Nat.mul_zero, nar_0, nar_1, nar_b, bI_t, bI_f, bI_0, bI_1, Bool.true_eq_false, Bool.false_eq_true, Bool.and_self, Bool.and_false, Bool.false_and, Bool.true_and, Bool.and_true, and_self, hf, n0, n1, n2, n3, n4, n5, Nat.one_ne_zero]
    · obtain ⟨k, hk, rfl⟩ := inR_t hy (by decide)
      have mm := fun Q => m_fixer (D := D) (m := m) (z := z) (f := f) (Q := Q) hM hF.1.1 h8 hi hk
      rw [E] at mm
      refine ⟨_, D, m, D, m, fun Q => ?_, mm, K⟩
      rcases (by omega : k = 0 ∨ k = 1 ∨ k = 2 ∨ k = 3 ∨ k = 4 ∨ k = 5) with rfl | rfl | rfl | rfl | rfl | rfl
      · simp (disch := omega) only [sX6_fixer_0, sX6_fixer_1, sX6_fixer_4, sX6_fixer_5, sX6_fixer_8, sX6_fixer_11, sX6_fixer_12, sX6_fixer_13, sX6_fixer_14, sX6_fixer_17, sX6_fixer_20, sX6_fixer_21, sX6_fixer_22, sX6_fixer_23, sX6_fixer_24, sX6_fixer_64, sX6_fixer_65, sX6_fixer_68, sX6_fixer_69, sX6_fixer_70, sX6_fixer_73, sX6_fixer_74, sX6_fixer_75, sX6_fixer_78, sX6_fixer_81, sX6_fixer_82, sX6_fixer_85, sX6_fixer_86, sX6_fixer_87, sX6_fixer_88, sX6_fixer_91, sX6_fixer_92, sX6_fixer_93, sX6_fixer_96, sX6_fixer_97, sX6_fixer_98, sX6_fixer_101, sX6_fixer_102, sX6_fixer_104, hA, a1, a2, a5, a6, a11, a12, true_and, and_true, true_or, or_true, eq_self, ↓reduceIte, if_true, if_false, nI_add, nI_mul, inB_nI, nI_clamp, Nat.add_zero, eqI, ltI, leI, m6_ne, ne_m6, Nat.reduceEqDiff, reduceCtorEq, Nat.reduceLT, Nat.reduceLeDiff, Nat.reduceAdd, Nat.reduceMul, Nat.zero_add, Nat.mul_zero, nar_0, nar_1, nar_b, bI_t, bI_f, bI_0, bI_1, Bool.true_eq_false, Bool.false_eq_true, Bool.and_self, Bool.and_false, Bool.false_and, Bool.true_and, Bool.and_true, and_self, hf, g0, Nat.one_ne_zero]
      · simp (disch := omega) only [sX6_fixer_0, sX6_fixer_1, sX6_fixer_4, sX6_fixer_5, sX6_fixer_8, sX6_fixer_11, sX6_fixer_12, sX6_fixer_13, sX6_fixer_14, sX6_fixer_17, sX6_fixer_20, sX6_fixer_21, sX6_fixer_22, sX6_fixer_23, sX6_fixer_24, sX6_fixer_64, sX6_fixer_65, sX6_fixer_68, sX6_fixer_69, sX6_fixer_70, sX6_fixer_73, sX6_fixer_74, sX6_fixer_75, sX6_fixer_78, sX6_fixer_81, sX6_fixer_82, sX6_fixer_85, sX6_fixer_86, sX6_fixer_87, sX6_fixer_88, sX6_fixer_91, sX6_fixer_92, sX6_fixer_93, sX6_fixer_96, sX6_fixer_97, sX6_fixer_98, sX6_fixer_101, sX6_fixer_102, sX6_fixer_104, hA, a1, a2, a5, a6, a11, a12, true_and, and_true, true_or, or_true, eq_self, ↓reduceIte, if_true, if_false, nI_add, nI_mul, inB_nI, nI_clamp, Nat.add_zero, eqI, ltI, leI, m6_ne, ne_m6, Nat.reduceEqDiff, reduceCtorEq, Nat.reduceLT, Nat.reduceLeDiff, Nat.reduceAdd, Nat.reduceMul, Nat.zero_add, Nat.mul_zero, nar_0, nar_1, nar_b, bI_t, bI_f, bI_0, bI_1, Bool.true_eq_false, Bool.false_eq_true, Bool.and_self, Bool.and_false, Bool.false_and, Bool.true_and, Bool.and_true, and_self, hf, g1, Nat.one_ne_zero]
      · rcases (hF.2.2.2.1 i hi).2 with e | e
        · rw [e] at g2 ⊢
          simp (disch := omega) only [sX6_fixer_0, sX6_fixer_1, sX6_fixer_4, sX6_fixer_5, sX6_fixer_8, sX6_fixer_11, sX6_fixer_12, sX6_fixer_13, sX6_fixer_14, sX6_fixer_17, sX6_fixer_20, sX6_fixer_21, sX6_fixer_22, sX6_fixer_23, sX6_fixer_24, sX6_fixer_64, sX6_fixer_65, sX6_fixer_68, sX6_fixer_69, sX6_fixer_70, sX6_fixer_73, sX6_fixer_74, sX6_fixer_75, sX6_fixer_78, sX6_fixer_81, sX6_fixer_82, sX6_fixer_85, sX6_fixer_86, sX6_fixer_87, sX6_fixer_88, sX6_fixer_91, sX6_fixer_92, sX6_fixer_93, sX6_fixer_96, sX6_fixer_97, sX6_fixer_98, sX6_fixer_101, sX6_fixer_102, sX6_fixer_104, hA, a1, a2, a5, a6, a11, a12, true_and, and_true, true_or, or_true, eq_self, ↓reduceIte, if_true, if_false, nI_add, nI_mul, inB_nI, nI_clamp, Nat.add_zero, eqI, ltI, leI, m6_ne, ne_m6, Nat.reduceEqDiff, reduceCtorEq, Nat.reduceLT, Nat.reduceLeDiff, Nat.reduceAdd, Nat.reduceMul, Nat.zero_add, Nat.mul_zero, nar_0, nar_1, nar_b, bI_t, bI_f, bI_0, bI_1, Bool.true_eq_false, Bool.false_eq_true, Bool.and_self, Bool.and_false, Bool.false_and, Bool.true_and, Bool.and_true, and_self, hf, g2, Nat.one_ne_zero, (by decide : ¬ (2 : Nat) = 0), (by decide : ¬ (2 : Nat) = 1)]
        · rw [e] at g2 ⊢
          simp (disch := omega) only [sX6_fixer_0, sX6_fixer_1, sX6_fixer_4, sX6_fixer_5, sX6_fixer_8, sX6_fixer_11, sX6_fixer_12, sX6_fixer_13, sX6_fixer_14, sX6_fixer_17, sX6_fixer_20, sX6_fixer_21, sX6_fixer_22, sX6_fixer_23, sX6_fixer_24, sX6_fixer_64, sX6_fixer_65, sX6_fixer_68, sX6_fixer_69, sX6_fixer_70, sX6_fixer_73, sX6_fixer_74, sX6_fixer_75, sX6_fixer_78, sX6_fixer_81, sX6_fixer_82, sX6_fixer_85, sX6_fixer_86, sX6_fixer_87, sX6_fixer_88, sX6_fixer_91, sX6_fixer_92, sX6_fixer_93, sX6_fixer_96, sX6_fixer_97, sX6_fixer_98, sX6_fixer_101, sX6_fixer_102, sX6_fixer_104, hA, a1, a2, a5, a6, a11, a12, true_and, and_true, true_or, or_true, eq_self, ↓reduceIte, if_true, if_false, nI_add, nI_mul, inB_nI, nI_clamp, Nat.add_zero, eqI, ltI, leI, m6_ne, ne_m6, Nat.reduceEqDiff, reduceCtorEq, Nat.reduceLT, Nat.reduceLeDiff, Nat.reduceAdd, Nat.reduceMul, Nat.zero_add, Nat.mul_zero, nar_0, nar_1, nar_b, bI_t, bI_f, bI_0, bI_1, Bool.true_eq_false, Bool.false_eq_true, Bool.and_self, Bool.and_false, Bool.false_and, Bool.true_and, Bool.and_true, and_self, hf, g2, Nat.one_ne_zero, (by decide : ¬ (2 : Nat) = 0), (by decide : ¬ (2 : Nat) = 1)]
      · simp (disch := omega) only [sX6_fixer_0, sX6_fixer_1, sX6_fixer_4, sX6_fixer_5, sX6_fixer_8, sX6_fixer_11, sX6_fixer_12, sX6_fixer_13, sX6_fixer_14, sX6_fixer_17, sX6_fixer_20, sX6_fixer_21, sX6_fixer_22, sX6_fixer_23, sX6_fixer_24, sX6_fixer_64, sX6_fixer_65, sX6_fixer_68, sX6_fixer_69, sX6_fixer_70, sX6_fixer_73, sX6_fixer_74, sX6_fixer_75, sX6_fixer_78, sX6_fixer_81, sX6_fixer_82, sX6_fixer_85, sX6_fixer_86, sX6_fixer_87, sX6_fixer_88, sX6_fixer_91, sX6_fixer_92, sX6_fixer_93, sX6_fixer_96, sX6_fixer_97, sX6_fixer_98, sX6_fixer_101, sX6_fixer_102, sX6_fixer_104, hA, a1, a2, a5, a6, a11, a12, true_and, and_true, true_or, or_true, eq_self, ↓reduceIte, if_true, if_false, nI_add, nI_mul, inB_nI, nI_clamp, Nat.add_zero, eqI, ltI, leI, m6_ne, ne_m6, Nat.reduceEqDiff, reduceCtorEq, Nat.reduceLT, Nat.reduceLeDiff, Nat.reduceAdd, Nat.reduceMul, Nat.zero_add, Nat.mul_zero, nar_0, nar_1, nar_b, bI_t, bI_f, bI_0, bI_1, Bool.true_eq_false, Bool.false_eq_true, Bool.and_self, Bool.and_false, Bool.false_and, Bool.true_and, Bool.and_true, and_self, hf, g3, Nat.one_ne_zero]
      · simp (disch := omega) only [sX6_fixer_0, sX6_fixer_1, sX6_fixer_4, sX6_fixer_5, sX6_fixer_8, sX6_fixer_11, sX6_fixer_12, sX6_fixer_13, sX6_fixer_14, sX6_fixer_17, sX6_fixer_20, sX6_fixer_21, sX6_fixer_22, sX6_fixer_23, sX6_fixer_24, sX6_fixer_64, sX6_fixer_65, sX6_fixer_68, sX6_fixer_69, sX6_fixer_70, sX6_fixer_73, sX6_fixer_74, sX6_fixer_75, sX6_fixer_78, sX6_fixer_81, sX6_fixer_82, sX6_fixer_85, sX6_fixer_86, sX6_fixer_87, sX6_fixer_88, sX6_fixer_91, sX6_fixer_92, sX6_fixer_93, sX6_fixer_96, sX6_fixer_97, sX6_fixer_98, sX6_fixer_101, sX6_fixer_102, sX6_fixer_104, hA, a1, a2, a5, a6, a11, a12, true_and, and_true, true_or, or_true, eq_self, ↓reduceIte, if_true, if_false, nI_add, nI_mul, inB_nI, nI_clamp, Nat.add_zero, eqI, ltI, leI, m6_ne, ne_m6, Nat.reduceEqDiff, reduceCtorEq, Nat.reduceLT, Nat.reduceLeDiff, Nat.reduceAdd, Nat.reduceMul, Nat.zero_add, Nat.mul_zero, nar_0, nar_1, nar_b, bI_t, bI_f, bI_0, bI_1, Bool.true_eq_false, Bool.false_eq_true, Bool.and_self, Bool.and_false, Bool.false_and, Bool.true_and, Bool.and_true, and_self, hf, g4, Nat.one_ne_zero]
      · simp (disch := omega) only [sX6_fixer_0, sX6_fixer_1, sX6_fixer_4, sX6_fixer_5, sX6_fixer_8, sX6_fixer_11, sX6_fixer_12, sX6_fixer_13, sX6_fixer_14, sX6_fixer_17, sX6_fixer_20, sX6_fixer_21, sX6_fixer_22, sX6_fixer_23, sX6_fixer_24, sX6_fixer_64, sX6_fixer_65, sX6_fixer_68, sX6_fixer_69, sX6_fixer_70, sX6_fixer_73, sX6_fixer_74, sX6_fixer_75, sX6_fixer_78, sX6_fixer_81, sX6_fixer_82, sX6_fixer_85, sX6_fixer_86, sX6_fixer_87, sX6_fixer_88, sX6_fixer_91, sX6_fixer_92, sX6_fixer_93, sX6_fixer_96, sX6_fixer_97, sX6_fixer_98, sX6_fixer_101, sX6_fixer_102, sX6_fixer_104, hA, a1, a2, a5, a6, a11, a12, true_and, and_true, true_or, or_true, eq_self, ↓reduceIte, if_true, if_false, nI_add, nI_mul, inB_nI, nI_clamp, Nat.add_zero, eqI, ltI, leI, m6_ne, ne_m6, Nat.reduceEqDiff, reduceCtorEq, Nat.reduceLT, Nat.reduceLeDiff, Nat.reduceAdd, Nat.reduceMul, Nat.zero_add, Nat.mul_zero, nar_0, nar_1, nar_b, bI_t, bI_f, bI_0, bI_1, Bool.true_eq_false, Bool.false_eq_true, Bool.and_self, Bool.and_false, Bool.false_and, Bool.true_and, Bool.and_true, and_self, hf, g5, Nat.one_ne_zero]
theorem p_thing (C0 : Cpl D m) (x y : Int32) : Pair MX6_thing MX7_thing [.ref 1, .int x, .int y, vJ, vJ] [.ref 853, .int x, .int y] D m z := by
  obtain ⟨H, f, nF, nT, r, L, h, s, b0, b1, ch, C, S, E⟩ := C0
  have hM := C.1.2.2.2.2.1
  have hA := C.1.1
  simp only [IsMM] at hA
  obtain ⟨c0, q1, q2, q3, hF⟩ := C.rd
  have h8 := hF.1.2.1
  have h16 := hF.1.2.2.2
  have hf := fun Q => x_hasThing (D := D) (m := m) (z := z) (Q := Q) q3 q2 hF (x := x)
  rw [q1] at hf
  obtain ⟨⟨a1, a2, a3, a4⟩, ⟨a5, a6, a7, a8, -⟩, a11, a12, a13, a14, -⟩ := id q3
  have K : Cpl D m := ⟨H, f, nF, nT, r, L, h, s, b0, b1, ch, C, S, E⟩
  cases hx : inR x nT
  · have mm := fun Q => m_thing_no (D := D) (m := m) (z := z) (f := f) (Q := Q) (y := y) hM hF.1.2.2.1 h16 hx
    rw [E] at mm
    rw [hx] at hf
    refine ⟨m1, D, m, D, m, fun Q => ?_, mm, K⟩
    simp (disch := omega) only [sX6_thing_0, sX6_thing_1, sX6_thing_4, sX6_thing_5, sX6_thing_8, sX6_thing_11, sX6_thing_12, sX6_thing_13, sX6_thing_14, sX6_thing_17, sX6_thing_20, sX6_thing_21, sX6_thing_22, sX6_thing_23, sX6_thing_24, sX6_thing_27, sX6_thing_28, sX6_thing_31, sX6_thing_32, sX6_thing_35, sX6_thing_36, sX6_thing_38, sX6_thing_39, sX6_thing_84, sX6_thing_85, sX6_thing_88, sX6_thing_89, sX6_thing_90, sX6_thing_93, sX6_thing_94, sX6_thing_96, sX6_thing_99, sX6_thing_101, sX6_thing_104, sX6_thing_105, sX6_thing_108, sX6_thing_109, sX6_thing_110, sX6_thing_113, sX6_thing_114, sX6_thing_115, sX6_thing_118, sX6_thing_119, sX6_thing_120, sX6_thing_123, sX6_thing_124, sX6_thing_125, sX6_thing_128, sX6_thing_129, sX6_thing_132, sX6_thing_133, sX6_thing_135, sX6_thing_138, sX6_thing_139, sX6_thing_142, sX6_thing_143, sX6_thing_146, sX6_thing_147, sX6_thing_150, sX6_thing_153, sX6_thing_154, sX6_thing_156, hA, a1, true_and, and_true, true_or, or_true, eq_self, ↓reduceIte, if_true, if_false, nI_add, nI_mul, inB_nI, nI_clamp, Nat.add_zero, eqI, ltI, leI, m6_ne, ne_m6, Nat.reduceEqDiff, reduceCtorEq, Nat.reduceLT, Nat.reduceLeDiff, Nat.reduceAdd, Nat.reduceMul, Nat.zero_add, Nat.mul_zero, nar_0, nar_1, nar_b, bI_t, bI_f, bI_0, bI_1, Bool.true_eq_false, Bool.false_eq_true, Bool.and_self, Bool.and_false, Bool.false_and, Bool.true_and, Bool.and_true, and_self, hf]
  · obtain ⟨t, ht, rfl⟩ := inR_t hx (by omega)
    rw [hx] at hf
    have a13 := a13 t (by omega)
    have a14 := a14 t (by omega)
    obtain ⟨⟨w0, w1, w2, w3, w4, w5⟩, -⟩ : RdT m (2 + 12 + 4 * t) (fun k => gT c0 t k) := Blk.T (show Blk m 2 c0 from q1) (by omega)
    obtain ⟨v1, v2, -⟩ := q2.2.2 t ht
    simp only [v1 0 (by decide) (by decide), v1 1 (by decide) (by decide), v1 2 (by decide) (by decide), v1 4 (by decide) (by decide), v1 5 (by decide) (by decide), v2] at w0 w1 w2 w3 w4 w5
    have fo := fun Q => x_fixerOf (D := D) (m := m) (z := z) (Q := Q) q3 q2 hF (t := t) (by omega)
    have fw := fun Q => x_fixersWith (D := D) (m := m) (z := z) (Q := Q) q3 q2 hF (s := nsF f t 0)
    have ns := fun Q => x_nextSkill (D := D) (m := m) (z := z) (Q := Q) q3 q2 hF ht
    rw [q1] at fo fw ns
    generalize hq : 2 + 12 + 4 * t = q at a13 a14 w0 w1 w2 w3 w4 w5 ns
    have hme : ∃ e : Bool, (e = true ↔ gT f t 0 = nI 2) := ⟨decide (gT f t 0 = nI 2), decide_eq_true_iff⟩
    cases hy : inR y 8
    · have mm := fun Q => m_thing_bad (D := D) (m := m) (z := z) (f := f) (Q := Q) hM hF.1.2.2.1 h16 ht hy
      rw [E] at mm
      have n0 := inR_f hy (k := 0) (by decide) (by decide)
      have n1 := inR_f hy (k := 1) (by decide) (by decide)
      have n2 := inR_f hy (k := 2) (by decide) (by decide)
      have n3 := inR_f hy (k := 3) (by decide) (by decide)
      have n4 := inR_f hy (k := 4) (by decide) (by decide)
      have n5 := inR_f hy (k := 5) (by decide) (by decide)
      have n6 := inR_f hy (k := 6) (by decide) (by decide)
      have n7 := inR_f hy (k := 7) (by decide) (by decide)
      refine ⟨m2, D, m, D, m, fun Q => ?_, mm, K⟩
      by_cases hd : gT f t 0 = nI 2 <;>
      simp (disch := omega) only [sX6_thing_0, sX6_thing_1, sX6_thing_4, sX6_thing_5, sX6_thing_8, sX6_thing_11, sX6_thing_12, sX6_thing_13, sX6_thing_14, sX6_thing_17, sX6_thing_20, sX6_thing_21, sX6_thing_22, sX6_thing_23, sX6_thing_24, sX6_thing_27, sX6_thing_28, sX6_thing_31, sX6_thing_32, sX6_thing_35, sX6_thing_36, sX6_thing_38, sX6_thing_39, sX6_thing_84, sX6_thing_85, sX6_thing_88, sX6_thing_89, sX6_thing_90, sX6_thing_93, sX6_thing_94, sX6_thing_96, sX6_thing_99, sX6_thing_101, sX6_thing_104, sX6_thing_105, sX6_thing_108, sX6_thing_109, sX6_thing_110, sX6_thing_113, sX6_thing_114, sX6_thing_115, sX6_thing_118, sX6_thing_119, sX6_thing_120, sX6_thing_123, sX6_thing_124, sX6_thing_125, sX6_thing_128, sX6_thing_129, sX6_thing_132, sX6_thing_133, sX6_thing_135, sX6_thing_138, sX6_thing_139, sX6_thing_142, sX6_thing_143, sX6_thing_146, sX6_thing_147, sX6_thing_150, sX6_thing_153, sX6_thing_154, sX6_thing_156, hA, a1, a3, a7, a8, a13, a14, true_and, and_true, true_or, or_true, eq_self, ↓reduceIte, if_true, if_false, nI_add, nI_mul, inB_nI, nI_clamp, Nat.add_zero, eqI, ltI, leI, m6_ne, ne_m6, Nat.reduceEqDiff, reduceCtorEq, Nat.reduceLT, Nat.reduceLeDiff, Nat.reduceAdd, Nat.reduceMul, Nat.zero_add, Nat.mul_zero, nar_0, nar_1, nar_b, bI_t, bI_f, bI_0, bI_1, Bool.true_eq_false, Bool.false_eq_true, Bool.and_self, Bool.and_false, Bool.false_and, Bool.true_and, Bool.and_true, and_self, hf, w0, hd, n0, n1, n2, n3, n4, n5, n6, n7, Nat.one_ne_zero]
    · obtain ⟨k, hk, rfl⟩ := inR_t hy (by decide)
      have mm := fun Q => m_thing (D := D) (m := m) (z := z) (f := f) (Q := Q) hM hF ht hk
      rw [E] at mm
      refine ⟨_, D, m, D, m, fun Q => ?_, mm, K⟩
      by_cases hd : gT f t 0 = nI 2
      · have sk2 := skF_2 hd nF
        rcases (by omega : k = 0 ∨ k = 1 ∨ k = 2 ∨ k = 3 ∨ k = 4 ∨ k = 5 ∨ k = 6 ∨ k = 7) with rfl | rfl | rfl | rfl | rfl | rfl | rfl | rfl <;>
        simp (disch := omega) only [sX6_thing_0, sX6_thing_1, sX6_thing_4, sX6_thing_5, sX6_thing_8, sX6_thing_11, sX6_thing_12, sX6_thing_13, sX6_thing_14, sX6_thing_17, sX6_thing_20, sX6_thing_21, sX6_thing_22, sX6_thing_23, sX6_thing_24, sX6_thing_27, sX6_thing_28, sX6_thing_31, sX6_thing_32, sX6_thing_35, sX6_thing_36, sX6_thing_38, sX6_thing_39, sX6_thing_84, sX6_thing_85, sX6_thing_88, sX6_thing_89, sX6_thing_90, sX6_thing_93, sX6_thing_94, sX6_thing_96, sX6_thing_99, sX6_thing_101, sX6_thing_104, sX6_thing_105, sX6_thing_108, sX6_thing_109, sX6_thing_110, sX6_thing_113, sX6_thing_114, sX6_thing_115, sX6_thing_118, sX6_thing_119, sX6_thing_120, sX6_thing_123, sX6_thing_124, sX6_thing_125, sX6_thing_128, sX6_thing_129, sX6_thing_132, sX6_thing_133, sX6_thing_135, sX6_thing_138, sX6_thing_139, sX6_thing_142, sX6_thing_143, sX6_thing_146, sX6_thing_147, sX6_thing_150, sX6_thing_153, sX6_thing_154, sX6_thing_156, hA, a1, a3, a7, a8, a13, a14, true_and, and_true, true_or, or_true, eq_self, ↓reduceIte, if_true, if_false, nI_add, nI_mul, inB_nI, nI_clamp, Nat.add_zero, eqI, ltI, leI, m6_ne, ne_m6, Nat.reduceEqDiff, reduceCtorEq, Nat.reduceLT, Nat.reduceLeDiff, Nat.reduceAdd, Nat.reduceMul, Nat.zero_add, Nat.mul_zero, nar_0, nar_1, nar_b, bI_t, bI_f, bI_0, bI_1, Bool.true_eq_false, Bool.false_eq_true, Bool.and_self, Bool.and_false, Bool.false_and, Bool.true_and, Bool.and_true, and_self, hf, w0, w1, w2, w3, w4, w5, hd, fo, sk2, thingF, Nat.one_ne_zero, (by decide : ¬ (2 : Nat) = 0), (by decide : ¬ (2 : Nat) = 1)]
      · have sk2 := skF_sw hd nF
        rcases (by omega : k = 0 ∨ k = 1 ∨ k = 2 ∨ k = 3 ∨ k = 4 ∨ k = 5 ∨ k = 6 ∨ k = 7) with rfl | rfl | rfl | rfl | rfl | rfl | rfl | rfl <;>
        simp (disch := omega) only [sX6_thing_0, sX6_thing_1, sX6_thing_4, sX6_thing_5, sX6_thing_8, sX6_thing_11, sX6_thing_12, sX6_thing_13, sX6_thing_14, sX6_thing_17, sX6_thing_20, sX6_thing_21, sX6_thing_22, sX6_thing_23, sX6_thing_24, sX6_thing_27, sX6_thing_28, sX6_thing_31, sX6_thing_32, sX6_thing_35, sX6_thing_36, sX6_thing_38, sX6_thing_39, sX6_thing_84, sX6_thing_85, sX6_thing_88, sX6_thing_89, sX6_thing_90, sX6_thing_93, sX6_thing_94, sX6_thing_96, sX6_thing_99, sX6_thing_101, sX6_thing_104, sX6_thing_105, sX6_thing_108, sX6_thing_109, sX6_thing_110, sX6_thing_113, sX6_thing_114, sX6_thing_115, sX6_thing_118, sX6_thing_119, sX6_thing_120, sX6_thing_123, sX6_thing_124, sX6_thing_125, sX6_thing_128, sX6_thing_129, sX6_thing_132, sX6_thing_133, sX6_thing_135, sX6_thing_138, sX6_thing_139, sX6_thing_142, sX6_thing_143, sX6_thing_146, sX6_thing_147, sX6_thing_150, sX6_thing_153, sX6_thing_154, sX6_thing_156, hA, a1, a3, a7, a8, a13, a14, true_and, and_true, true_or, or_true, eq_self, ↓reduceIte, if_true, if_false, nI_add, nI_mul, inB_nI, nI_clamp, Nat.add_zero, eqI, ltI, leI, m6_ne, ne_m6, Nat.reduceEqDiff, reduceCtorEq, Nat.reduceLT, Nat.reduceLeDiff, Nat.reduceAdd, Nat.reduceMul, Nat.zero_add, Nat.mul_zero, nar_0, nar_1, nar_b, bI_t, bI_f, bI_0, bI_1, Bool.true_eq_false, Bool.false_eq_true, Bool.and_self, Bool.and_false, Bool.false_and, Bool.true_and, Bool.and_true, and_self, hf, w0, w1, w2, w3, w4, w5, hd, fo, fw, ns, sk2, thingF, Nat.one_ne_zero, (by decide : ¬ (2 : Nat) = 0), (by decide : ¬ (2 : Nat) = 1)]
theorem p_step (C0 : Cpl D m) (x y w : Int32) : Pair MX6_step MX7_step [.ref 1, .int x, .int y, .int w, vJ] [.ref 853, .int x, .int y, .int w] D m z := by
  obtain ⟨H, f, nF, nT, r, L, h, s, b0, b1, ch, C, S, E⟩ := C0
  have hM := C.1.2.2.2.2.1
  have hA := C.1.1
  simp only [IsMM] at hA
  obtain ⟨c0, q1, q2, q3, hF⟩ := C.rd
  have h16 := hF.1.2.2.2
  have hf := fun Q => x_hasThing (D := D) (m := m) (z := z) (Q := Q) q3 q2 hF (x := x)
  rw [q1] at hf
  obtain ⟨⟨a1, a2, a3, a4⟩, ⟨a5, a6, a7, a8, -⟩, a11, a12, a13, a14, -⟩ := id q3
  have K : Cpl D m := ⟨H, f, nF, nT, r, L, h, s, b0, b1, ch, C, S, E⟩
  cases hx : inR x nT
  · have mm := fun Q => m_step_no (D := D) (m := m) (z := z) (f := f) (Q := Q) (y := y) (w := w) hM hF.1.2.2.1 h16 hx
    rw [E] at mm
    rw [hx] at hf
    refine ⟨m1, D, m, D, m, fun Q => ?_, mm, K⟩
    simp (disch := omega) only [sX6_step_0, sX6_step_1, sX6_step_4, sX6_step_5, sX6_step_8, sX6_step_11, sX6_step_12, sX6_step_13, sX6_step_14, sX6_step_17, sX6_step_20, sX6_step_21, sX6_step_22, sX6_step_24, sX6_step_26, sX6_step_27, sX6_step_30, sX6_step_33, sX6_step_34, sX6_step_35, sX6_step_36, sX6_step_64, sX6_step_66, sX6_step_69, sX6_step_70, sX6_step_71, sX6_step_72, sX6_step_74, sX6_step_77, sX6_step_78, sX6_step_79, sX6_step_80, sX6_step_82, sX6_step_85, sX6_step_86, sX6_step_87, sX6_step_88, sX6_step_90, hA, a1, true_and, and_true, true_or, or_true, eq_self, ↓reduceIte, if_true, if_false, nI_add, nI_mul, inB_nI, nI_clamp, Nat.add_zero, eqI, ltI, leI, m6_ne, ne_m6, Nat.reduceEqDiff, reduceCtorEq, Nat.reduceLT, Nat.reduceLeDiff, Nat.reduceAdd, Nat.reduceMul, Nat.zero_add, Nat.mul_zero, nar_0, nar_1, nar_b, bI_t, bI_f, bI_0, bI_1, Bool.true_eq_false, Bool.false_eq_true, Bool.and_self, Bool.and_false, Bool.false_and, Bool.true_and, Bool.and_true, and_self, hf]
  · obtain ⟨t, ht, rfl⟩ := inR_t hx (by omega)
    rw [hx] at hf
    have a13 := a13 t (by omega)
    have hT := q3.T (t := t) (by omega)
    obtain ⟨⟨w0, w1, w2, w3, w4, w5⟩, u1, u2, u3⟩ : RdT m (2 + 12 + 4 * t) (fun k => gT c0 t k) := Blk.T (show Blk m 2 c0 from q1) (by omega)
    obtain ⟨v1, v2, v3⟩ := q2.2.2 t ht
    obtain ⟨n, sN, ⟨-, hs1, -, -, hs4⟩, -⟩ := hF.2.2.1 t ht
    have w1' : m (2 + 12 + 4 * t) 3 = nI sN := (w1.trans (v1 1 (by decide) (by decide))).trans hs1
    have hst := fun Q => x_hasStep (D := D) (m := m) (z := z) (Q := Q) (a := 2 + 12 + 4 * t) (s := sN) (x := y) hT.1.1 w1' hs4
    simp only [IsT] at hT
    generalize hq : 2 + 12 + 4 * t = q at a13 hT w1' u1 u2 u3 hst
    cases hy : inR y sN
    · have mm := fun Q => m_step_ns (D := D) (m := m) (z := z) (f := f) (Q := Q) (w := w) hM hF.1.2.2.1 h16 ht hs1 hs4 hy
      rw [E] at mm
      rw [hy] at hst
      refine ⟨m1, D, m, D, m, fun Q => ?_, mm, K⟩
      simp (disch := omega) only [sX6_step_0, sX6_step_1, sX6_step_4, sX6_step_5, sX6_step_8, sX6_step_11, sX6_step_12, sX6_step_13, sX6_step_14, sX6_step_17, sX6_step_20, sX6_step_21, sX6_step_22, sX6_step_24, sX6_step_26, sX6_step_27, sX6_step_30, sX6_step_33, sX6_step_34, sX6_step_35, sX6_step_36, sX6_step_64, sX6_step_66, sX6_step_69, sX6_step_70, sX6_step_71, sX6_step_72, sX6_step_74, sX6_step_77, sX6_step_78, sX6_step_79, sX6_step_80, sX6_step_82, sX6_step_85, sX6_step_86, sX6_step_87, sX6_step_88, sX6_step_90, hA, a1, a3, a7, a8, a13, hT, true_and, and_true, true_or, or_true, eq_self, ↓reduceIte, if_true, if_false, nI_add, nI_mul, inB_nI, nI_clamp, Nat.add_zero, eqI, ltI, leI, m6_ne, ne_m6, Nat.reduceEqDiff, reduceCtorEq, Nat.reduceLT, Nat.reduceLeDiff, Nat.reduceAdd, Nat.reduceMul, Nat.zero_add, Nat.mul_zero, nar_0, nar_1, nar_b, bI_t, bI_f, bI_0, bI_1, Bool.true_eq_false, Bool.false_eq_true, Bool.and_self, Bool.and_false, Bool.false_and, Bool.true_and, Bool.and_true, and_self, hf, hst, Nat.one_ne_zero]
    · obtain ⟨k, hk, rfl⟩ := inR_t hy (by omega)
      rw [hy] at hst
      cases hw : inR w 3
      · have mm := fun Q => m_step_bad (D := D) (m := m) (z := z) (f := f) (Q := Q) (w := w) hM hF.1.2.2.1 h16 ht hs1 hs4 hk hw
        rw [E] at mm
        have n0 := inR_f hw (k := 0) (by decide) (by decide)
        have n1 := inR_f hw (k := 1) (by decide) (by decide)
        have n2 := inR_f hw (k := 2) (by decide) (by decide)
        refine ⟨m2, D, m, D, m, fun Q => ?_, mm, K⟩
        simp (disch := omega) only [sX6_step_0, sX6_step_1, sX6_step_4, sX6_step_5, sX6_step_8, sX6_step_11, sX6_step_12, sX6_step_13, sX6_step_14, sX6_step_17, sX6_step_20, sX6_step_21, sX6_step_22, sX6_step_24, sX6_step_26, sX6_step_27, sX6_step_30, sX6_step_33, sX6_step_34, sX6_step_35, sX6_step_36, sX6_step_64, sX6_step_66, sX6_step_69, sX6_step_70, sX6_step_71, sX6_step_72, sX6_step_74, sX6_step_77, sX6_step_78, sX6_step_79, sX6_step_80, sX6_step_82, sX6_step_85, sX6_step_86, sX6_step_87, sX6_step_88, sX6_step_90, hA, a1, a3, a7, a8, a13, hT, true_and, and_true, true_or, or_true, eq_self, ↓reduceIte, if_true, if_false, nI_add, nI_mul, inB_nI, nI_clamp, Nat.add_zero, eqI, ltI, leI, m6_ne, ne_m6, Nat.reduceEqDiff, reduceCtorEq, Nat.reduceLT, Nat.reduceLeDiff, Nat.reduceAdd, Nat.reduceMul, Nat.zero_add, Nat.mul_zero, nar_0, nar_1, nar_b, bI_t, bI_f, bI_0, bI_1, Bool.true_eq_false, Bool.false_eq_true, Bool.and_self, Bool.and_false, Bool.false_and, Bool.true_and, Bool.and_true, and_self, hf, hst, n0, n1, n2, Nat.one_ne_zero]
      · obtain ⟨w', hw', rfl⟩ := inR_t hw (by decide)
        have mm := fun Q => m_step (D := D) (m := m) (z := z) (f := f) (Q := Q) hM hF.1.2.2.1 h16 ht hs1 hs4 hk hw'
        rw [E] at mm
        have vk := v3 k sN hs1 hk (by omega)
        have u1' := (u1 k (by omega)).trans (vk 0 (by decide))
        have u2' := (u2 k (by omega)).trans (vk 1 (by decide))
        have u3' := (u3 k (by omega)).trans (vk 2 (by decide))
        refine ⟨_, D, m, D, m, fun Q => ?_, mm, K⟩
        rcases (by omega : w' = 0 ∨ w' = 1 ∨ w' = 2) with rfl | rfl | rfl
        · simp (disch := omega) only [sX6_step_0, sX6_step_1, sX6_step_4, sX6_step_5, sX6_step_8, sX6_step_11, sX6_step_12, sX6_step_13, sX6_step_14, sX6_step_17, sX6_step_20, sX6_step_21, sX6_step_22, sX6_step_24, sX6_step_26, sX6_step_27, sX6_step_30, sX6_step_33, sX6_step_34, sX6_step_35, sX6_step_36, sX6_step_64, sX6_step_66, sX6_step_69, sX6_step_70, sX6_step_71, sX6_step_72, sX6_step_74, sX6_step_77, sX6_step_78, sX6_step_79, sX6_step_80, sX6_step_82, sX6_step_85, sX6_step_86, sX6_step_87, sX6_step_88, sX6_step_90, hA, a1, a3, a7, a8, a13, hT, true_and, and_true, true_or, or_true, eq_self, ↓reduceIte, if_true, if_false, nI_add, nI_mul, inB_nI, nI_clamp, Nat.add_zero, eqI, ltI, leI, m6_ne, ne_m6, Nat.reduceEqDiff, reduceCtorEq, Nat.reduceLT, Nat.reduceLeDiff, Nat.reduceAdd, Nat.reduceMul, Nat.zero_add, Nat.mul_zero, nar_0, nar_1, nar_b, bI_t, bI_f, bI_0, bI_1, Bool.true_eq_false, Bool.false_eq_true, Bool.and_self, Bool.and_false, Bool.false_and, Bool.true_and, Bool.and_true, and_self, hf, hst, u1', Nat.one_ne_zero]
        · simp (disch := omega) only [sX6_step_0, sX6_step_1, sX6_step_4, sX6_step_5, sX6_step_8, sX6_step_11, sX6_step_12, sX6_step_13, sX6_step_14, sX6_step_17, sX6_step_20, sX6_step_21, sX6_step_22, sX6_step_24, sX6_step_26, sX6_step_27, sX6_step_30, sX6_step_33, sX6_step_34, sX6_step_35, sX6_step_36, sX6_step_64, sX6_step_66, sX6_step_69, sX6_step_70, sX6_step_71, sX6_step_72, sX6_step_74, sX6_step_77, sX6_step_78, sX6_step_79, sX6_step_80, sX6_step_82, sX6_step_85, sX6_step_86, sX6_step_87, sX6_step_88, sX6_step_90, hA, a1, a3, a7, a8, a13, hT, true_and, and_true, true_or, or_true, eq_self, ↓reduceIte, if_true, if_false, nI_add, nI_mul, inB_nI, nI_clamp, Nat.add_zero, eqI, ltI, leI, m6_ne, ne_m6, Nat.reduceEqDiff, reduceCtorEq, Nat.reduceLT, Nat.reduceLeDiff, Nat.reduceAdd, Nat.reduceMul, Nat.zero_add, Nat.mul_zero, nar_0, nar_1, nar_b, bI_t, bI_f, bI_0, bI_1, Bool.true_eq_false, Bool.false_eq_true, Bool.and_self, Bool.and_false, Bool.false_and, Bool.true_and, Bool.and_true, and_self, hf, hst, u2', Nat.one_ne_zero]
        · simp (disch := omega) only [sX6_step_0, sX6_step_1, sX6_step_4, sX6_step_5, sX6_step_8, sX6_step_11, sX6_step_12, sX6_step_13, sX6_step_14, sX6_step_17, sX6_step_20, sX6_step_21, sX6_step_22, sX6_step_24, sX6_step_26, sX6_step_27, sX6_step_30, sX6_step_33, sX6_step_34, sX6_step_35, sX6_step_36, sX6_step_64, sX6_step_66, sX6_step_69, sX6_step_70, sX6_step_71, sX6_step_72, sX6_step_74, sX6_step_77, sX6_step_78, sX6_step_79, sX6_step_80, sX6_step_82, sX6_step_85, sX6_step_86, sX6_step_87, sX6_step_88, sX6_step_90, hA, a1, a3, a7, a8, a13, hT, true_and, and_true, true_or, or_true, eq_self, ↓reduceIte, if_true, if_false, nI_add, nI_mul, inB_nI, nI_clamp, Nat.add_zero, eqI, ltI, leI, m6_ne, ne_m6, Nat.reduceEqDiff, reduceCtorEq, Nat.reduceLT, Nat.reduceLeDiff, Nat.reduceAdd, Nat.reduceMul, Nat.zero_add, Nat.mul_zero, nar_0, nar_1, nar_b, bI_t, bI_f, bI_0, bI_1, Bool.true_eq_false, Bool.false_eq_true, Bool.and_self, Bool.and_false, Bool.false_and, Bool.true_and, Bool.and_true, and_self, hf, hst, u3', Nat.one_ne_zero, (by decide : ¬ (2 : Nat) = 0), (by decide : ¬ (2 : Nat) = 1)]
theorem p_count (C0 : Cpl D m) (y : Int32) : Pair MX6_count MX7_count [.ref 1, .int y] [.ref 853, .int y] D m z := by
  obtain ⟨H, f, nF, nT, r, L, h, s, b0, b1, ch, C, S, E⟩ := C0
  have hM := C.1.2.2.2.2.1
  have hA := C.1.1
  have hP := C.1.2.2.1.1
  simp only [IsMM] at hA
  obtain ⟨c0, q1, q2, q3, hF⟩ := C.rd
  obtain ⟨⟨a1, a2, a3, a4⟩, ⟨-, -, -, -, a9, a10⟩, -⟩ := id q3
  have K : Cpl D m := ⟨H, f, nF, nT, r, L, h, s, b0, b1, ch, C, S, E⟩
  cases hy : inR y 17
  · refine ⟨m2, D, m, D, m, fun Q => ?_, fun Q => m_count_bad hM hy, K⟩
    have n : ∀ k, k < 17 → ¬ y = nI k := fun k hk => inR_f hy hk (by decide)
    have n0 := n 0 (by decide)
    have n1 := n 1 (by decide)
    have n6 := n 6 (by decide)
    have n7 := n 7 (by decide)
    have n8 := n 8 (by decide)
    have n13 := n 13 (by decide)
    have n14 := n 14 (by decide)
    have n15 := n 15 (by decide)
    have n16 := n 16 (by decide)
    have n2 := n 2 (by decide)
    have n3 := n 3 (by decide)
    have n4 := n 4 (by decide)
    have n5 := n 5 (by decide)
    have n9 := n 9 (by decide)
    have n10 := n 10 (by decide)
    have n11 := n 11 (by decide)
    have n12 := n 12 (by decide)
    rcases i32_cases y with ⟨k, hk, e⟩ | hn
    · have g : 17 ≤ k := by
        rcases Nat.lt_or_ge k 17 with q | q
        · exact absurd e (n k q)
        · exact q
      have g1 : ¬ y < nI 2 := by rw [e, ltI _ _ hk (by decide)]; omega
      have g2 : nI 5 < y := by rw [e, ltI _ _ (by decide) hk]; omega
      have g3 : ¬ y < nI 9 := by rw [e, ltI _ _ hk (by decide)]; omega
      have g4 : nI 12 < y := by rw [e, ltI _ _ (by decide) hk]; omega
      simp (disch := omega) only [sX6_count_0, sX6_count_1, sX6_count_2, sX6_count_5, sX6_count_6, sX6_count_7, sX6_count_10, sX6_count_11, sX6_count_14, sX6_count_15, sX6_count_16, sX6_count_17, sX6_count_20, sX6_count_21, sX6_count_22, sX6_count_24, sX6_count_27, sX6_count_28, sX6_count_30, sX6_count_33, sX6_count_34, sX6_count_37, sX6_count_40, sX6_count_41, sX6_count_43, sX6_count_44, sX6_count_45, sX6_count_46, sX6_count_47, sX6_count_128, sX6_count_129, sX6_count_132, sX6_count_135, sX6_count_136, sX6_count_137, sX6_count_140, sX6_count_143, sX6_count_144, sX6_count_145, sX6_count_148, sX6_count_151, sX6_count_152, sX6_count_153, sX6_count_156, sX6_count_159, sX6_count_160, sX6_count_161, sX6_count_164, sX6_count_167, sX6_count_168, sX6_count_169, sX6_count_172, sX6_count_175, sX6_count_176, sX6_count_177, sX6_count_180, sX6_count_183, sX6_count_184, sX6_count_185, sX6_count_188, sX6_count_191, sX6_count_192, sX6_count_193, sX6_count_196, sX6_count_199, sX6_count_200, sX6_count_202, hA, true_and, and_true, true_or, or_true, eq_self, ↓reduceIte, if_true, if_false, nI_add, nI_mul, inB_nI, nI_clamp, Nat.add_zero, eqI, ltI, leI, m6_ne, ne_m6, Nat.reduceEqDiff, reduceCtorEq, Nat.reduceLT, Nat.reduceLeDiff, Nat.reduceAdd, Nat.reduceMul, Nat.zero_add, Nat.mul_zero, nar_0, nar_1, nar_b, bI_t, bI_f, bI_0, bI_1, Bool.true_eq_false, Bool.false_eq_true, Bool.and_self, Bool.and_false, Bool.false_and, Bool.true_and, Bool.and_true, and_self, g1, g2, g3, g4, n0, n1, n2, n3, n4, n5, n6, n7, n8, n9, n10, n11, n12, n13, n14, n15, n16]
    · have g1 : y < nI 2 := Int32.lt_trans hn (by decide +kernel)
      have g3 : y < nI 9 := Int32.lt_trans hn (by decide +kernel)
      simp (disch := omega) only [sX6_count_0, sX6_count_1, sX6_count_2, sX6_count_5, sX6_count_6, sX6_count_7, sX6_count_10, sX6_count_11, sX6_count_14, sX6_count_15, sX6_count_16, sX6_count_17, sX6_count_20, sX6_count_21, sX6_count_22, sX6_count_24, sX6_count_27, sX6_count_28, sX6_count_30, sX6_count_33, sX6_count_34, sX6_count_37, sX6_count_40, sX6_count_41, sX6_count_43, sX6_count_44, sX6_count_45, sX6_count_46, sX6_count_47, sX6_count_128, sX6_count_129, sX6_count_132, sX6_count_135, sX6_count_136, sX6_count_137, sX6_count_140, sX6_count_143, sX6_count_144, sX6_count_145, sX6_count_148, sX6_count_151, sX6_count_152, sX6_count_153, sX6_count_156, sX6_count_159, sX6_count_160, sX6_count_161, sX6_count_164, sX6_count_167, sX6_count_168, sX6_count_169, sX6_count_172, sX6_count_175, sX6_count_176, sX6_count_177, sX6_count_180, sX6_count_183, sX6_count_184, sX6_count_185, sX6_count_188, sX6_count_191, sX6_count_192, sX6_count_193, sX6_count_196, sX6_count_199, sX6_count_200, sX6_count_202, hA, true_and, and_true, true_or, or_true, eq_self, ↓reduceIte, if_true, if_false, nI_add, nI_mul, inB_nI, nI_clamp, Nat.add_zero, eqI, ltI, leI, m6_ne, ne_m6, Nat.reduceEqDiff, reduceCtorEq, Nat.reduceLT, Nat.reduceLeDiff, Nat.reduceAdd, Nat.reduceMul, Nat.zero_add, Nat.mul_zero, nar_0, nar_1, nar_b, bI_t, bI_f, bI_0, bI_1, Bool.true_eq_false, Bool.false_eq_true, Bool.and_self, Bool.and_false, Bool.false_and, Bool.true_and, Bool.and_true, and_self, g1, g3, n0, n1, n2, n3, n4, n5, n6, n7, n8, n9, n10, n11, n12, n13, n14, n15, n16]
  · obtain ⟨k, hk, rfl⟩ := inR_t hy (by decide)
    have mm := fun Q => m_count (D := D) (m := m) (z := z) (f := f) (Q := Q) hM hF hk
    rw [E] at mm
    have tg := Blk.G (show Blk m 2 c0 from q1)
    obtain ⟨t1, t2, t3, t4, t5, t6⟩ := tg
    have t1 := t1.trans (q2.1 2 (by decide))
    have t2 := t2.trans (q2.1 3 (by decide))
    have t3 := t3.trans (q2.1 0 (by decide))
    have t4 := t4.trans (q2.1 1 (by decide))
    have t5 := t5.trans (q2.1 4 (by decide))
    have t6 := t6.trans (q2.1 5 (by decide))
    have tp : ∀ j, j < 4 → m 5 j = gG f (6 + j) := fun j hj => (Blk.p (show Blk m 2 c0 from q1) hj).trans (q2.1 (6 + j) (by omega))
    have fr := fun Q => x_freeFixers (D := D) (m := m) (z := z) (Q := Q) q3 q2 hF
    have ti := fun h Q => x_thingsIn (D := D) (m := m) (z := z) (Q := Q) q3 q2 hF (h := h)
    rw [q1] at fr
    simp only [q1] at ti
    have l1 := C.2.2.2.1.1
    have l2 : m 853 7 = nI L := S.2.2.1.1
    have r1 := C.2.2.2.2.1.1
    have r2 : m 853 3 = nI r := S.1.1
    have d1 := hP.1
    have p0 := tp 0 (by decide)
    have p1 := tp 1 (by decide)
    have p2 := tp 2 (by decide)
    have p3 := tp 3 (by decide)
    have e2 : nI 2 - nI 2 = nI 0 := rfl
    have e3 : nI 3 - nI 2 = nI 1 := rfl
    have e4 : nI 4 - nI 2 = nI 2 := rfl
    have e5 : nI 5 - nI 2 = nI 3 := rfl
    have e9 : nI 9 - nI 9 = nI 0 := rfl
    have e10 : nI 10 - nI 9 = nI 1 := rfl
    have e11 : nI 11 - nI 9 = nI 2 := rfl
    have e12 : nI 12 - nI 9 = nI 3 := rfl
    refine ⟨_, D, m, D, m, fun Q => ?_, mm, K⟩
    simp only [Nat.reduceAdd] at a4 a9 a10 p0 p1 p2 p3
    rcases (by omega : k = 0 ∨ k = 1 ∨ k = 2 ∨ k = 3 ∨ k = 4 ∨ k = 5 ∨ k = 6 ∨ k = 7 ∨ k = 8 ∨ k = 9 ∨ k = 10 ∨ k = 11 ∨ k = 12 ∨ k = 13 ∨ k = 14 ∨ k = 15 ∨ k = 16) with rfl | rfl | rfl | rfl | rfl | rfl | rfl | rfl | rfl | rfl | rfl | rfl | rfl | rfl | rfl | rfl | rfl
    · rw [show countF m f nF nT 0 = gG f 2 from rfl]
      simp (disch := omega) only [sX6_count_0, sX6_count_1, sX6_count_2, sX6_count_5, sX6_count_6, sX6_count_7, sX6_count_10, sX6_count_11, sX6_count_14, sX6_count_15, sX6_count_16, sX6_count_17, sX6_count_20, sX6_count_21, sX6_count_22, sX6_count_24, sX6_count_27, sX6_count_28, sX6_count_30, sX6_count_33, sX6_count_34, sX6_count_37, sX6_count_40, sX6_count_41, sX6_count_43, sX6_count_44, sX6_count_45, sX6_count_46, sX6_count_47, sX6_count_128, sX6_count_129, sX6_count_132, sX6_count_135, sX6_count_136, sX6_count_137, sX6_count_140, sX6_count_143, sX6_count_144, sX6_count_145, sX6_count_148, sX6_count_151, sX6_count_152, sX6_count_153, sX6_count_156, sX6_count_159, sX6_count_160, sX6_count_161, sX6_count_164, sX6_count_167, sX6_count_168, sX6_count_169, sX6_count_172, sX6_count_175, sX6_count_176, sX6_count_177, sX6_count_180, sX6_count_183, sX6_count_184, sX6_count_185, sX6_count_188, sX6_count_191, sX6_count_192, sX6_count_193, sX6_count_196, sX6_count_199, sX6_count_200, sX6_count_202, hA, a1, true_and, and_true, true_or, or_true, eq_self, ↓reduceIte, if_true, if_false, nI_add, nI_mul, inB_nI, nI_clamp, Nat.add_zero, eqI, ltI, leI, m6_ne, ne_m6, Nat.reduceEqDiff, reduceCtorEq, Nat.reduceLT, Nat.reduceLeDiff, Nat.reduceAdd, Nat.reduceMul, Nat.zero_add, Nat.mul_zero, nar_0, nar_1, nar_b, bI_t, bI_f, bI_0, bI_1, Bool.true_eq_false, Bool.false_eq_true, Bool.and_self, Bool.and_false, Bool.false_and, Bool.true_and, Bool.and_true, and_self, t1]
    · rw [show countF m f nF nT 1 = gG f 3 from rfl]
      simp (disch := omega) only [sX6_count_0, sX6_count_1, sX6_count_2, sX6_count_5, sX6_count_6, sX6_count_7, sX6_count_10, sX6_count_11, sX6_count_14, sX6_count_15, sX6_count_16, sX6_count_17, sX6_count_20, sX6_count_21, sX6_count_22, sX6_count_24, sX6_count_27, sX6_count_28, sX6_count_30, sX6_count_33, sX6_count_34, sX6_count_37, sX6_count_40, sX6_count_41, sX6_count_43, sX6_count_44, sX6_count_45, sX6_count_46, sX6_count_47, sX6_count_128, sX6_count_129, sX6_count_132, sX6_count_135, sX6_count_136, sX6_count_137, sX6_count_140, sX6_count_143, sX6_count_144, sX6_count_145, sX6_count_148, sX6_count_151, sX6_count_152, sX6_count_153, sX6_count_156, sX6_count_159, sX6_count_160, sX6_count_161, sX6_count_164, sX6_count_167, sX6_count_168, sX6_count_169, sX6_count_172, sX6_count_175, sX6_count_176, sX6_count_177, sX6_count_180, sX6_count_183, sX6_count_184, sX6_count_185, sX6_count_188, sX6_count_191, sX6_count_192, sX6_count_193, sX6_count_196, sX6_count_199, sX6_count_200, sX6_count_202, hA, a1, true_and, and_true, true_or, or_true, eq_self, ↓reduceIte, if_true, if_false, nI_add, nI_mul, inB_nI, nI_clamp, Nat.add_zero, eqI, ltI, leI, m6_ne, ne_m6, Nat.reduceEqDiff, reduceCtorEq, Nat.reduceLT, Nat.reduceLeDiff, Nat.reduceAdd, Nat.reduceMul, Nat.zero_add, Nat.mul_zero, nar_0, nar_1, nar_b, bI_t, bI_f, bI_0, bI_1, Bool.true_eq_false, Bool.false_eq_true, Bool.and_self, Bool.and_false, Bool.false_and, Bool.true_and, Bool.and_true, and_self, t2]
    · rw [show countF m f nF nT 2 = nI (cntS f (nI 0) nT) from rfl]
      simp (disch := omega) only [sX6_count_0, sX6_count_1, sX6_count_2, sX6_count_5, sX6_count_6, sX6_count_7, sX6_count_10, sX6_count_11, sX6_count_14, sX6_count_15, sX6_count_16, sX6_count_17, sX6_count_20, sX6_count_21, sX6_count_22, sX6_count_24, sX6_count_27, sX6_count_28, sX6_count_30, sX6_count_33, sX6_count_34, sX6_count_37, sX6_count_40, sX6_count_41, sX6_count_43, sX6_count_44, sX6_count_45, sX6_count_46, sX6_count_47, sX6_count_128, sX6_count_129, sX6_count_132, sX6_count_135, sX6_count_136, sX6_count_137, sX6_count_140, sX6_count_143, sX6_count_144, sX6_count_145, sX6_count_148, sX6_count_151, sX6_count_152, sX6_count_153, sX6_count_156, sX6_count_159, sX6_count_160, sX6_count_161, sX6_count_164, sX6_count_167, sX6_count_168, sX6_count_169, sX6_count_172, sX6_count_175, sX6_count_176, sX6_count_177, sX6_count_180, sX6_count_183, sX6_count_184, sX6_count_185, sX6_count_188, sX6_count_191, sX6_count_192, sX6_count_193, sX6_count_196, sX6_count_199, sX6_count_200, sX6_count_202, hA, a1, true_and, and_true, true_or, or_true, eq_self, ↓reduceIte, if_true, if_false, nI_add, nI_mul, inB_nI, nI_clamp, Nat.add_zero, eqI, ltI, leI, m6_ne, ne_m6, Nat.reduceEqDiff, reduceCtorEq, Nat.reduceLT, Nat.reduceLeDiff, Nat.reduceAdd, Nat.reduceMul, Nat.zero_add, Nat.mul_zero, nar_0, nar_1, nar_b, bI_t, bI_f, bI_0, bI_1, Bool.true_eq_false, Bool.false_eq_true, Bool.and_self, Bool.and_false, Bool.false_and, Bool.true_and, Bool.and_true, and_self, e2, ti]
    · rw [show countF m f nF nT 3 = nI (cntS f (nI 1) nT) from rfl]
      simp (disch := omega) only [sX6_count_0, sX6_count_1, sX6_count_2, sX6_count_5, sX6_count_6, sX6_count_7, sX6_count_10, sX6_count_11, sX6_count_14, sX6_count_15, sX6_count_16, sX6_count_17, sX6_count_20, sX6_count_21, sX6_count_22, sX6_count_24, sX6_count_27, sX6_count_28, sX6_count_30, sX6_count_33, sX6_count_34, sX6_count_37, sX6_count_40, sX6_count_41, sX6_count_43, sX6_count_44, sX6_count_45, sX6_count_46, sX6_count_47, sX6_count_128, sX6_count_129, sX6_count_132, sX6_count_135, sX6_count_136, sX6_count_137, sX6_count_140, sX6_count_143, sX6_count_144, sX6_count_145, sX6_count_148, sX6_count_151, sX6_count_152, sX6_count_153, sX6_count_156, sX6_count_159, sX6_count_160, sX6_count_161, sX6_count_164, sX6_count_167, sX6_count_168, sX6_count_169, sX6_count_172, sX6_count_175, sX6_count_176, sX6_count_177, sX6_count_180, sX6_count_183, sX6_count_184, sX6_count_185, sX6_count_188, sX6_count_191, sX6_count_192, sX6_count_193, sX6_count_196, sX6_count_199, sX6_count_200, sX6_count_202, hA, a1, true_and, and_true, true_or, or_true, eq_self, ↓reduceIte, if_true, if_false, nI_add, nI_mul, inB_nI, nI_clamp, Nat.add_zero, eqI, ltI, leI, m6_ne, ne_m6, Nat.reduceEqDiff, reduceCtorEq, Nat.reduceLT, Nat.reduceLeDiff, Nat.reduceAdd, Nat.reduceMul, Nat.zero_add, Nat.mul_zero, nar_0, nar_1, nar_b, bI_t, bI_f, bI_0, bI_1, Bool.true_eq_false, Bool.false_eq_true, Bool.and_self, Bool.and_false, Bool.false_and, Bool.true_and, Bool.and_true, and_self, e3, ti]
    · rw [show countF m f nF nT 4 = nI (cntS f (nI 2) nT) from rfl]
      simp (disch := omega) only [sX6_count_0, sX6_count_1, sX6_count_2, sX6_count_5, sX6_count_6, sX6_count_7, sX6_count_10, sX6_count_11, sX6_count_14, sX6_count_15, sX6_count_16, sX6_count_17, sX6_count_20, sX6_count_21, sX6_count_22, sX6_count_24, sX6_count_27, sX6_count_28, sX6_count_30, sX6_count_33, sX6_count_34, sX6_count_37, sX6_count_40, sX6_count_41, sX6_count_43, sX6_count_44, sX6_count_45, sX6_count_46, sX6_count_47, sX6_count_128, sX6_count_129, sX6_count_132, sX6_count_135, sX6_count_136, sX6_count_137, sX6_count_140, sX6_count_143, sX6_count_144, sX6_count_145, sX6_count_148, sX6_count_151, sX6_count_152, sX6_count_153, sX6_count_156, sX6_count_159, sX6_count_160, sX6_count_161, sX6_count_164, sX6_count_167, sX6_count_168, sX6_count_169, sX6_count_172, sX6_count_175, sX6_count_176, sX6_count_177, sX6_count_180, sX6_count_183, sX6_count_184, sX6_count_185, sX6_count_188, sX6_count_191, sX6_count_192, sX6_count_193, sX6_count_196, sX6_count_199, sX6_count_200, sX6_count_202, hA, a1, true_and, and_true, true_or, or_true, eq_self, ↓reduceIte, if_true, if_false, nI_add, nI_mul, inB_nI, nI_clamp, Nat.add_zero, eqI, ltI, leI, m6_ne, ne_m6, Nat.reduceEqDiff, reduceCtorEq, Nat.reduceLT, Nat.reduceLeDiff, Nat.reduceAdd, Nat.reduceMul, Nat.zero_add, Nat.mul_zero, nar_0, nar_1, nar_b, bI_t, bI_f, bI_0, bI_1, Bool.true_eq_false, Bool.false_eq_true, Bool.and_self, Bool.and_false, Bool.false_and, Bool.true_and, Bool.and_true, and_self, e4, ti]
    · rw [show countF m f nF nT 5 = nI (cntS f (nI 3) nT) from rfl]
      simp (disch := omega) only [sX6_count_0, sX6_count_1, sX6_count_2, sX6_count_5, sX6_count_6, sX6_count_7, sX6_count_10, sX6_count_11, sX6_count_14, sX6_count_15, sX6_count_16, sX6_count_17, sX6_count_20, sX6_count_21, sX6_count_22, sX6_count_24, sX6_count_27, sX6_count_28, sX6_count_30, sX6_count_33, sX6_count_34, sX6_count_37, sX6_count_40, sX6_count_41, sX6_count_43, sX6_count_44, sX6_count_45, sX6_count_46, sX6_count_47, sX6_count_128, sX6_count_129, sX6_count_132, sX6_count_135, sX6_count_136, sX6_count_137, sX6_count_140, sX6_count_143, sX6_count_144, sX6_count_145, sX6_count_148, sX6_count_151, sX6_count_152, sX6_count_153, sX6_count_156, sX6_count_159, sX6_count_160, sX6_count_161, sX6_count_164, sX6_count_167, sX6_count_168, sX6_count_169, sX6_count_172, sX6_count_175, sX6_count_176, sX6_count_177, sX6_count_180, sX6_count_183, sX6_count_184, sX6_count_185, sX6_count_188, sX6_count_191, sX6_count_192, sX6_count_193, sX6_count_196, sX6_count_199, sX6_count_200, sX6_count_202, hA, a1, true_and, and_true, true_or, or_true, eq_self, ↓reduceIte, if_true, if_false, nI_add, nI_mul, inB_nI, nI_clamp, Nat.add_zero, eqI, ltI, leI, m6_ne, ne_m6, Nat.reduceEqDiff, reduceCtorEq, Nat.reduceLT, Nat.reduceLeDiff, Nat.reduceAdd, Nat.reduceMul, Nat.zero_add, Nat.mul_zero, nar_0, nar_1, nar_b, bI_t, bI_f, bI_0, bI_1, Bool.true_eq_false, Bool.false_eq_true, Bool.and_self, Bool.and_false, Bool.false_and, Bool.true_and, Bool.and_true, and_self, e5, ti, Nat.lt_irrefl]
    · rw [show countF m f nF nT 6 = nI (cntFr f nF) from rfl]
      simp (disch := omega) only [sX6_count_0, sX6_count_1, sX6_count_2, sX6_count_5, sX6_count_6, sX6_count_7, sX6_count_10, sX6_count_11, sX6_count_14, sX6_count_15, sX6_count_16, sX6_count_17, sX6_count_20, sX6_count_21, sX6_count_22, sX6_count_24, sX6_count_27, sX6_count_28, sX6_count_30, sX6_count_33, sX6_count_34, sX6_count_37, sX6_count_40, sX6_count_41, sX6_count_43, sX6_count_44, sX6_count_45, sX6_count_46, sX6_count_47, sX6_count_128, sX6_count_129, sX6_count_132, sX6_count_135, sX6_count_136, sX6_count_137, sX6_count_140, sX6_count_143, sX6_count_144, sX6_count_145, sX6_count_148, sX6_count_151, sX6_count_152, sX6_count_153, sX6_count_156, sX6_count_159, sX6_count_160, sX6_count_161, sX6_count_164, sX6_count_167, sX6_count_168, sX6_count_169, sX6_count_172, sX6_count_175, sX6_count_176, sX6_count_177, sX6_count_180, sX6_count_183, sX6_count_184, sX6_count_185, sX6_count_188, sX6_count_191, sX6_count_192, sX6_count_193, sX6_count_196, sX6_count_199, sX6_count_200, sX6_count_202, hA, a1, true_and, and_true, true_or, or_true, eq_self, ↓reduceIte, if_true, if_false, nI_add, nI_mul, inB_nI, nI_clamp, Nat.add_zero, eqI, ltI, leI, m6_ne, ne_m6, Nat.reduceEqDiff, reduceCtorEq, Nat.reduceLT, Nat.reduceLeDiff, Nat.reduceAdd, Nat.reduceMul, Nat.zero_add, Nat.mul_zero, nar_0, nar_1, nar_b, bI_t, bI_f, bI_0, bI_1, Bool.true_eq_false, Bool.false_eq_true, Bool.and_self, Bool.and_false, Bool.false_and, Bool.true_and, Bool.and_true, and_self, fr]
    · rw [show countF m f nF nT 7 = gG f 4 from rfl]
      simp (disch := omega) only [sX6_count_0, sX6_count_1, sX6_count_2, sX6_count_5, sX6_count_6, sX6_count_7, sX6_count_10, sX6_count_11, sX6_count_14, sX6_count_15, sX6_count_16, sX6_count_17, sX6_count_20, sX6_count_21, sX6_count_22, sX6_count_24, sX6_count_27, sX6_count_28, sX6_count_30, sX6_count_33, sX6_count_34, sX6_count_37, sX6_count_40, sX6_count_41, sX6_count_43, sX6_count_44, sX6_count_45, sX6_count_46, sX6_count_47, sX6_count_128, sX6_count_129, sX6_count_132, sX6_count_135, sX6_count_136, sX6_count_137, sX6_count_140, sX6_count_143, sX6_count_144, sX6_count_145, sX6_count_148, sX6_count_151, sX6_count_152, sX6_count_153, sX6_count_156, sX6_count_159, sX6_count_160, sX6_count_161, sX6_count_164, sX6_count_167, sX6_count_168, sX6_count_169, sX6_count_172, sX6_count_175, sX6_count_176, sX6_count_177, sX6_count_180, sX6_count_183, sX6_count_184, sX6_count_185, sX6_count_188, sX6_count_191, sX6_count_192, sX6_count_193, sX6_count_196, sX6_count_199, sX6_count_200, sX6_count_202, hA, a1, true_and, and_true, true_or, or_true, eq_self, ↓reduceIte, if_true, if_false, nI_add, nI_mul, inB_nI, nI_clamp, Nat.add_zero, eqI, ltI, leI, m6_ne, ne_m6, Nat.reduceEqDiff, reduceCtorEq, Nat.reduceLT, Nat.reduceLeDiff, Nat.reduceAdd, Nat.reduceMul, Nat.zero_add, Nat.mul_zero, nar_0, nar_1, nar_b, bI_t, bI_f, bI_0, bI_1, Bool.true_eq_false, Bool.false_eq_true, Bool.and_self, Bool.and_false, Bool.false_and, Bool.true_and, Bool.and_true, and_self, t5]
    · rw [show countF m f nF nT 8 = gG f 5 from rfl]
      simp (disch := omega) only [sX6_count_0, sX6_count_1, sX6_count_2, sX6_count_5, sX6_count_6, sX6_count_7, sX6_count_10, sX6_count_11, sX6_count_14, sX6_count_15, sX6_count_16, sX6_count_17, sX6_count_20, sX6_count_21, sX6_count_22, sX6_count_24, sX6_count_27, sX6_count_28, sX6_count_30, sX6_count_33, sX6_count_34, sX6_count_37, sX6_count_40, sX6_count_41, sX6_count_43, sX6_count_44, sX6_count_45, sX6_count_46, sX6_count_47, sX6_count_128, sX6_count_129, sX6_count_132, sX6_count_135, sX6_count_136, sX6_count_137, sX6_count_140, sX6_count_143, sX6_count_144, sX6_count_145, sX6_count_148, sX6_count_151, sX6_count_152, sX6_count_153, sX6_count_156, sX6_count_159, sX6_count_160, sX6_count_161, sX6_count_164, sX6_count_167, sX6_count_168, sX6_count_169, sX6_count_172, sX6_count_175, sX6_count_176, sX6_count_177, sX6_count_180, sX6_count_183, sX6_count_184, sX6_count_185, sX6_count_188, sX6_count_191, sX6_count_192, sX6_count_193, sX6_count_196, sX6_count_199, sX6_count_200, sX6_count_202, hA, a1, true_and, and_true, true_or, or_true, eq_self, ↓reduceIte, if_true, if_false, nI_add, nI_mul, inB_nI, nI_clamp, Nat.add_zero, eqI, ltI, leI, m6_ne, ne_m6, Nat.reduceEqDiff, reduceCtorEq, Nat.reduceLT, Nat.reduceLeDiff, Nat.reduceAdd, Nat.reduceMul, Nat.zero_add, Nat.mul_zero, nar_0, nar_1, nar_b, bI_t, bI_f, bI_0, bI_1, Bool.true_eq_false, Bool.false_eq_true, Bool.and_self, Bool.and_false, Bool.false_and, Bool.true_and, Bool.and_true, and_self, t6]
    · rw [show countF m f nF nT 9 = gG f 6 from rfl]
      simp (disch := omega) only [sX6_count_0, sX6_count_1, sX6_count_2, sX6_count_5, sX6_count_6, sX6_count_7, sX6_count_10, sX6_count_11, sX6_count_14, sX6_count_15, sX6_count_16, sX6_count_17, sX6_count_20, sX6_count_21, sX6_count_22, sX6_count_24, sX6_count_27, sX6_count_28, sX6_count_30, sX6_count_33, sX6_count_34, sX6_count_37, sX6_count_40, sX6_count_41, sX6_count_43, sX6_count_44, sX6_count_45, sX6_count_46, sX6_count_47, sX6_count_128, sX6_count_129, sX6_count_132, sX6_count_135, sX6_count_136, sX6_count_137, sX6_count_140, sX6_count_143, sX6_count_144, sX6_count_145, sX6_count_148, sX6_count_151, sX6_count_152, sX6_count_153, sX6_count_156, sX6_count_159, sX6_count_160, sX6_count_161, sX6_count_164, sX6_count_167, sX6_count_168, sX6_count_169, sX6_count_172, sX6_count_175, sX6_count_176, sX6_count_177, sX6_count_180, sX6_count_183, sX6_count_184, sX6_count_185, sX6_count_188, sX6_count_191, sX6_count_192, sX6_count_193, sX6_count_196, sX6_count_199, sX6_count_200, sX6_count_202, hA, a1, a4, a9, a10, true_and, and_true, true_or, or_true, eq_self, ↓reduceIte, if_true, if_false, nI_add, nI_mul, inB_nI, nI_clamp, Nat.add_zero, eqI, ltI, leI, m6_ne, ne_m6, Nat.reduceEqDiff, reduceCtorEq, Nat.reduceLT, Nat.reduceLeDiff, Nat.reduceAdd, Nat.reduceMul, Nat.zero_add, Nat.mul_zero, nar_0, nar_1, nar_b, bI_t, bI_f, bI_0, bI_1, Bool.true_eq_false, Bool.false_eq_true, Bool.and_self, Bool.and_false, Bool.false_and, Bool.true_and, Bool.and_true, and_self, e9, p0, Nat.lt_irrefl]
    · rw [show countF m f nF nT 10 = gG f 7 from rfl]
      simp (disch := omega) only [sX6_count_0, sX6_count_1, sX6_count_2, sX6_count_5, sX6_count_6, sX6_count_7, sX6_count_10, sX6_count_11, sX6_count_14, sX6_count_15, sX6_count_16, sX6_count_17, sX6_count_20, sX6_count_21, sX6_count_22, sX6_count_24, sX6_count_27, sX6_count_28, sX6_count_30, sX6_count_33, sX6_count_34, sX6_count_37, sX6_count_40, sX6_count_41, sX6_count_43, sX6_count_44, sX6_count_45, sX6_count_46, sX6_count_47, sX6_count_128, sX6_count_129, sX6_count_132, sX6_count_135, sX6_count_136, sX6_count_137, sX6_count_140, sX6_count_143, sX6_count_144, sX6_count_145, sX6_count_148, sX6_count_151, sX6_count_152, sX6_count_153, sX6_count_156, sX6_count_159, sX6_count_160, sX6_count_161, sX6_count_164, sX6_count_167, sX6_count_168, sX6_count_169, sX6_count_172, sX6_count_175, sX6_count_176, sX6_count_177, sX6_count_180, sX6_count_183, sX6_count_184, sX6_count_185, sX6_count_188, sX6_count_191, sX6_count_192, sX6_count_193, sX6_count_196, sX6_count_199, sX6_count_200, sX6_count_202, hA, a1, a4, a9, a10, true_and, and_true, true_or, or_true, eq_self, ↓reduceIte, if_true, if_false, nI_add, nI_mul, inB_nI, nI_clamp, Nat.add_zero, eqI, ltI, leI, m6_ne, ne_m6, Nat.reduceEqDiff, reduceCtorEq, Nat.reduceLT, Nat.reduceLeDiff, Nat.reduceAdd, Nat.reduceMul, Nat.zero_add, Nat.mul_zero, nar_0, nar_1, nar_b, bI_t, bI_f, bI_0, bI_1, Bool.true_eq_false, Bool.false_eq_true, Bool.and_self, Bool.and_false, Bool.false_and, Bool.true_and, Bool.and_true, and_self, e10, p1]
    · rw [show countF m f nF nT 11 = gG f 8 from rfl]
      simp (disch := omega) only [sX6_count_0, sX6_count_1, sX6_count_2, sX6_count_5, sX6_count_6, sX6_count_7, sX6_count_10, sX6_count_11, sX6_count_14, sX6_count_15, sX6_count_16, sX6_count_17, sX6_count_20, sX6_count_21, sX6_count_22, sX6_count_24, sX6_count_27, sX6_count_28, sX6_count_30, sX6_count_33, sX6_count_34, sX6_count_37, sX6_count_40, sX6_count_41, sX6_count_43, sX6_count_44, sX6_count_45, sX6_count_46, sX6_count_47, sX6_count_128, sX6_count_129, sX6_count_132, sX6_count_135, sX6_count_136, sX6_count_137, sX6_count_140, sX6_count_143, sX6_count_144, sX6_count_145, sX6_count_148, sX6_count_151, sX6_count_152, sX6_count_153, sX6_count_156, sX6_count_159, sX6_count_160, sX6_count_161, sX6_count_164, sX6_count_167, sX6_count_168, sX6_count_169, sX6_count_172, sX6_count_175, sX6_count_176, sX6_count_177, sX6_count_180, sX6_count_183, sX6_count_184, sX6_count_185, sX6_count_188, sX6_count_191, sX6_count_192, sX6_count_193, sX6_count_196, sX6_count_199, sX6_count_200, sX6_count_202, hA, a1, a4, a9, a10, true_and, and_true, true_or, or_true, eq_self, ↓reduceIte, if_true, if_false, nI_add, nI_mul, inB_nI, nI_clamp, Nat.add_zero, eqI, ltI, leI, m6_ne, ne_m6, Nat.reduceEqDiff, reduceCtorEq, Nat.reduceLT, Nat.reduceLeDiff, Nat.reduceAdd, Nat.reduceMul, Nat.zero_add, Nat.mul_zero, nar_0, nar_1, nar_b, bI_t, bI_f, bI_0, bI_1, Bool.true_eq_false, Bool.false_eq_true, Bool.and_self, Bool.and_false, Bool.false_and, Bool.true_and, Bool.and_true, and_self, e11, p2]
    · rw [show countF m f nF nT 12 = gG f 9 from rfl]
      simp (disch := omega) only [sX6_count_0, sX6_count_1, sX6_count_2, sX6_count_5, sX6_count_6, sX6_count_7, sX6_count_10, sX6_count_11, sX6_count_14, sX6_count_15, sX6_count_16, sX6_count_17, sX6_count_20, sX6_count_21, sX6_count_22, sX6_count_24, sX6_count_27, sX6_count_28, sX6_count_30, sX6_count_33, sX6_count_34, sX6_count_37, sX6_count_40, sX6_count_41, sX6_count_43, sX6_count_44, sX6_count_45, sX6_count_46, sX6_count_47, sX6_count_128, sX6_count_129, sX6_count_132, sX6_count_135, sX6_count_136, sX6_count_137, sX6_count_140, sX6_count_143, sX6_count_144, sX6_count_145, sX6_count_148, sX6_count_151, sX6_count_152, sX6_count_153, sX6_count_156, sX6_count_159, sX6_count_160, sX6_count_161, sX6_count_164, sX6_count_167, sX6_count_168, sX6_count_169, sX6_count_172, sX6_count_175, sX6_count_176, sX6_count_177, sX6_count_180, sX6_count_183, sX6_count_184, sX6_count_185, sX6_count_188, sX6_count_191, sX6_count_192, sX6_count_193, sX6_count_196, sX6_count_199, sX6_count_200, sX6_count_202, hA, a1, a4, a9, a10, true_and, and_true, true_or, or_true, eq_self, ↓reduceIte, if_true, if_false, nI_add, nI_mul, inB_nI, nI_clamp, Nat.add_zero, eqI, ltI, leI, m6_ne, ne_m6, Nat.reduceEqDiff, reduceCtorEq, Nat.reduceLT, Nat.reduceLeDiff, Nat.reduceAdd, Nat.reduceMul, Nat.zero_add, Nat.mul_zero, nar_0, nar_1, nar_b, bI_t, bI_f, bI_0, bI_1, Bool.true_eq_false, Bool.false_eq_true, Bool.and_self, Bool.and_false, Bool.false_and, Bool.true_and, Bool.and_true, and_self, e12, p3, Nat.lt_irrefl]
    · rw [show countF m f nF nT 13 = gG f 0 from rfl]
      simp (disch := omega) only [sX6_count_0, sX6_count_1, sX6_count_2, sX6_count_5, sX6_count_6, sX6_count_7, sX6_count_10, sX6_count_11, sX6_count_14, sX6_count_15, sX6_count_16, sX6_count_17, sX6_count_20, sX6_count_21, sX6_count_22, sX6_count_24, sX6_count_27, sX6_count_28, sX6_count_30, sX6_count_33, sX6_count_34, sX6_count_37, sX6_count_40, sX6_count_41, sX6_count_43, sX6_count_44, sX6_count_45, sX6_count_46, sX6_count_47, sX6_count_128, sX6_count_129, sX6_count_132, sX6_count_135, sX6_count_136, sX6_count_137, sX6_count_140, sX6_count_143, sX6_count_144, sX6_count_145, sX6_count_148, sX6_count_151, sX6_count_152, sX6_count_153, sX6_count_156, sX6_count_159, sX6_count_160, sX6_count_161, sX6_count_164, sX6_count_167, sX6_count_168, sX6_count_169, sX6_count_172, sX6_count_175, sX6_count_176, sX6_count_177, sX6_count_180, sX6_count_183, sX6_count_184, sX6_count_185, sX6_count_188, sX6_count_191, sX6_count_192, sX6_count_193, sX6_count_196, sX6_count_199, sX6_count_200, sX6_count_202, hA, a1, true_and, and_true, true_or, or_true, eq_self, ↓reduceIte, if_true, if_false, nI_add, nI_mul, inB_nI, nI_clamp, Nat.add_zero, eqI, ltI, leI, m6_ne, ne_m6, Nat.reduceEqDiff, reduceCtorEq, Nat.reduceLT, Nat.reduceLeDiff, Nat.reduceAdd, Nat.reduceMul, Nat.zero_add, Nat.mul_zero, nar_0, nar_1, nar_b, bI_t, bI_f, bI_0, bI_1, Bool.true_eq_false, Bool.false_eq_true, Bool.and_self, Bool.and_false, Bool.false_and, Bool.true_and, Bool.and_true, and_self, t3]
    · rw [show countF m f nF nT 14 = gG f 1 from rfl]
      simp (disch := omega) only [sX6_count_0, sX6_count_1, sX6_count_2, sX6_count_5, sX6_count_6, sX6_count_7, sX6_count_10, sX6_count_11, sX6_count_14, sX6_count_15, sX6_count_16, sX6_count_17, sX6_count_20, sX6_count_21, sX6_count_22, sX6_count_24, sX6_count_27, sX6_count_28, sX6_count_30, sX6_count_33, sX6_count_34, sX6_count_37, sX6_count_40, sX6_count_41, sX6_count_43, sX6_count_44, sX6_count_45, sX6_count_46, sX6_count_47, sX6_count_128, sX6_count_129, sX6_count_132, sX6_count_135, sX6_count_136, sX6_count_137, sX6_count_140, sX6_count_143, sX6_count_144, sX6_count_145, sX6_count_148, sX6_count_151, sX6_count_152, sX6_count_153, sX6_count_156, sX6_count_159, sX6_count_160, sX6_count_161, sX6_count_164, sX6_count_167, sX6_count_168, sX6_count_169, sX6_count_172, sX6_count_175, sX6_count_176, sX6_count_177, sX6_count_180, sX6_count_183, sX6_count_184, sX6_count_185, sX6_count_188, sX6_count_191, sX6_count_192, sX6_count_193, sX6_count_196, sX6_count_199, sX6_count_200, sX6_count_202, hA, a1, true_and, and_true, true_or, or_true, eq_self, ↓reduceIte, if_true, if_false, nI_add, nI_mul, inB_nI, nI_clamp, Nat.add_zero, eqI, ltI, leI, m6_ne, ne_m6, Nat.reduceEqDiff, reduceCtorEq, Nat.reduceLT, Nat.reduceLeDiff, Nat.reduceAdd, Nat.reduceMul, Nat.zero_add, Nat.mul_zero, nar_0, nar_1, nar_b, bI_t, bI_f, bI_0, bI_1, Bool.true_eq_false, Bool.false_eq_true, Bool.and_self, Bool.and_false, Bool.false_and, Bool.true_and, Bool.and_true, and_self, t4]
    · rw [show countF m f nF nT 15 = m 853 7 from rfl]
      simp (disch := omega) only [sX6_count_0, sX6_count_1, sX6_count_2, sX6_count_5, sX6_count_6, sX6_count_7, sX6_count_10, sX6_count_11, sX6_count_14, sX6_count_15, sX6_count_16, sX6_count_17, sX6_count_20, sX6_count_21, sX6_count_22, sX6_count_24, sX6_count_27, sX6_count_28, sX6_count_30, sX6_count_33, sX6_count_34, sX6_count_37, sX6_count_40, sX6_count_41, sX6_count_43, sX6_count_44, sX6_count_45, sX6_count_46, sX6_count_47, sX6_count_128, sX6_count_129, sX6_count_132, sX6_count_135, sX6_count_136, sX6_count_137, sX6_count_140, sX6_count_143, sX6_count_144, sX6_count_145, sX6_count_148, sX6_count_151, sX6_count_152, sX6_count_153, sX6_count_156, sX6_count_159, sX6_count_160, sX6_count_161, sX6_count_164, sX6_count_167, sX6_count_168, sX6_count_169, sX6_count_172, sX6_count_175, sX6_count_176, sX6_count_177, sX6_count_180, sX6_count_183, sX6_count_184, sX6_count_185, sX6_count_188, sX6_count_191, sX6_count_192, sX6_count_193, sX6_count_196, sX6_count_199, sX6_count_200, sX6_count_202, hA, a1, d1, true_and, and_true, true_or, or_true, eq_self, ↓reduceIte, if_true, if_false, nI_add, nI_mul, inB_nI, nI_clamp, Nat.add_zero, eqI, ltI, leI, m6_ne, ne_m6, Nat.reduceEqDiff, reduceCtorEq, Nat.reduceLT, Nat.reduceLeDiff, Nat.reduceAdd, Nat.reduceMul, Nat.zero_add, Nat.mul_zero, nar_0, nar_1, nar_b, bI_t, bI_f, bI_0, bI_1, Bool.true_eq_false, Bool.false_eq_true, Bool.and_self, Bool.and_false, Bool.false_and, Bool.true_and, Bool.and_true, and_self, l1, l2]
    · rw [show countF m f nF nT 16 = m 853 3 from rfl]
      simp (disch := omega) only [sX6_count_0, sX6_count_1, sX6_count_2, sX6_count_5, sX6_count_6, sX6_count_7, sX6_count_10, sX6_count_11, sX6_count_14, sX6_count_15, sX6_count_16, sX6_count_17, sX6_count_20, sX6_count_21, sX6_count_22, sX6_count_24, sX6_count_27, sX6_count_28, sX6_count_30, sX6_count_33, sX6_count_34, sX6_count_37, sX6_count_40, sX6_count_41, sX6_count_43, sX6_count_44, sX6_count_45, sX6_count_46, sX6_count_47, sX6_count_128, sX6_count_129, sX6_count_132, sX6_count_135, sX6_count_136, sX6_count_137, sX6_count_140, sX6_count_143, sX6_count_144, sX6_count_145, sX6_count_148, sX6_count_151, sX6_count_152, sX6_count_153, sX6_count_156, sX6_count_159, sX6_count_160, sX6_count_161, sX6_count_164, sX6_count_167, sX6_count_168, sX6_count_169, sX6_count_172, sX6_count_175, sX6_count_176, sX6_count_177, sX6_count_180, sX6_count_183, sX6_count_184, sX6_count_185, sX6_count_188, sX6_count_191, sX6_count_192, sX6_count_193, sX6_count_196, sX6_count_199, sX6_count_200, sX6_count_202, hA, a1, true_and, and_true, true_or, or_true, eq_self, ↓reduceIte, if_true, if_false, nI_add, nI_mul, inB_nI, nI_clamp, Nat.add_zero, eqI, ltI, leI, m6_ne, ne_m6, Nat.reduceEqDiff, reduceCtorEq, Nat.reduceLT, Nat.reduceLeDiff, Nat.reduceAdd, Nat.reduceMul, Nat.zero_add, Nat.mul_zero, nar_0, nar_1, nar_b, bI_t, bI_f, bI_0, bI_1, Bool.true_eq_false, Bool.false_eq_true, Bool.and_self, Bool.and_false, Bool.false_and, Bool.true_and, Bool.and_true, and_self, r1, r2]
end OP2
