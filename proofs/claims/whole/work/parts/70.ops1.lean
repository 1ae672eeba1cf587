/-! the changes, side by side: set, come, away, stock, again, pass, clear -/
section OP1
variable {D : vDD} {H : Nat → Nat} {m : vMM} {z : vZZ} {f : Nat → Int32} {nF nT r L : Nat} {h s : Nat → Int32} {b0 b1 : Bool} {ch : Nat → Nat}
theorem ClS.kp (C : ClS D H m f nF nT r L h s b0 b1 ch) : ∃ c D' H' m', Blk m' 2 c ∧ Rfc f c nF nT ∧ (∀ a, 853 ≤ a → m' a = m a) ∧ Wd D' H' ∧ (∀ Q, Runs MX1_keep 0 [.ref 308, .ref 2] [] D m z Q = Q vJ D' (bM m' 2 c) z) ∧
    (∀ c2 f2 nF2 nT2, Rfc f2 c2 nF2 nT2 → WF f2 nF2 nT2 → ClS D' H' (bM m' 2 c2) f2 nF2 nT2 (min r 5 + 1) L (histP h r f) s b0 b1 ch) := by
  obtain ⟨c, D', H', m', k1, k2, k3, k4, k5, k6⟩ := C.keep (z := z)
  refine ⟨c, D', H', m', k1, k2, k3, k4, fun Q => ?_, k6⟩
  have : bM m' 2 c = m' := k1
  rw [k5, this]
theorem fin_rec {D' : vDD} {H' : Nat → Nat} {M1 : vMM} {f2 : Nat → Int32} {nF2 nT2 : Nat} (C1 : ClS D' H' M1 f2 nF2 nT2 (min r 5 + 1) L (histP h r f) s b0 b1 ch) (S : MoS m r L h s b0 b1 ch) (e : ∀ a, 853 ≤ a → M1 a = m a) : Cpl D' (eM (recM M1 f r) f2) :=
  Cpl.mk C1 (MoS.rec (S.frC e)) (fun a ha => recM_lo ha)
theorem ClS.rd (C : ClS D H m f nF nT r L h s b0 b1 ch) : ∃ c, bM m 2 c = m ∧ Rfc f c nF nT ∧ IsM D 2 ∧ WF f nF nT := by
  obtain ⟨h1, ⟨c, h2, h3⟩, h4, -⟩ := C
  exact ⟨c, h2, h3, h1.2.1.1, h4⟩
theorem p_set (C0 : Cpl D m) (x y : Int32) : Pair MX6_set MX7_set [.ref 1, .int x, .int y, vJ] [.ref 853, .int x, .int y, vJ] D m z := by
  obtain ⟨H, f, nF, nT, r, L, h, s, b0, b1, ch, C, S, E⟩ := C0
  have hM := C.1.2.2.2.2.1
  have hA := C.1.1
  simp only [IsMM] at hA
  have o1 := fun (m : vMM) Q => x_outside (D := D) (m := m) (z := z) (v := y) (a := nI 1) (b := nI 50) (Q := Q)
  have o2 := fun (m : vMM) Q => x_outside (D := D) (m := m) (z := z) (v := y) (a := nI 1) (b := nI 9) (Q := Q)
  cases hs : setOK x y
  · refine ⟨m2, D, m, D, m, fun Q => ?_, fun Q => m_set_bad hM hs, H, f, nF, nT, r, L, h, s, b0, b1, ch, C, S, E⟩
    unfold setOK at hs
    by_cases x0 : x = nI 0
    · rw [if_pos x0] at hs
      rw [hs] at o1
      simp (disch := omega) only [sX6_set_0, sX6_set_1, sX6_set_4, sX6_set_5, sX6_set_6, sX6_set_8, sX6_set_11, sX6_set_14, sX6_set_16, sX6_set_17, sX6_set_18, sX6_set_21, sX6_set_22, sX6_set_25, sX6_set_28, sX6_set_29, sX6_set_32, sX6_set_35, sX6_set_36, sX6_set_37, sX6_set_40, sX6_set_41, sX6_set_44, sX6_set_45, sX6_set_46, sX6_set_47, sX6_set_48, sX6_set_51, sX6_set_52, sX6_set_53, sX6_set_55, sX6_set_58, sX6_set_61, sX6_set_63, sX6_set_64, sX6_set_65, sX6_set_68, sX6_set_69, sX6_set_72, sX6_set_75, sX6_set_76, sX6_set_79, sX6_set_82, sX6_set_83, sX6_set_84, sX6_set_87, sX6_set_88, sX6_set_91, sX6_set_92, hA, true_and, and_true, true_or, or_true, eq_self, ↓reduceIte, if_true, if_false, nI_add, nI_mul, inB_nI, nI_clamp, Nat.add_zero, eqI, ltI, leI, m6_ne, ne_m6, Nat.reduceEqDiff, reduceCtorEq, Nat.reduceLT, Nat.reduceLeDiff, Nat.reduceAdd, Nat.reduceMul, Nat.zero_add, Nat.mul_zero, nar_0, nar_1, nar_b, bI_t, bI_f, bI_0, bI_1, Bool.true_eq_false, Bool.false_eq_true, Bool.and_self, Bool.and_false, Bool.false_and, Bool.true_and, Bool.and_true, and_self, x0, o1, Bool.not_false, Nat.one_ne_zero]
    · rw [if_neg x0] at hs
      by_cases x1 : x = nI 1
      · rw [if_pos x1] at hs
        rw [hs] at o2
        simp (disch := omega) only [sX6_set_0, sX6_set_1, sX6_set_4, sX6_set_5, sX6_set_6, sX6_set_8, sX6_set_11, sX6_set_14, sX6_set_16, sX6_set_17, sX6_set_18, sX6_set_21, sX6_set_22, sX6_set_25, sX6_set_28, sX6_set_29, sX6_set_32, sX6_set_35, sX6_set_36, sX6_set_37, sX6_set_40, sX6_set_41, sX6_set_44, sX6_set_45, sX6_set_46, sX6_set_47, sX6_set_48, sX6_set_51, sX6_set_52, sX6_set_53, sX6_set_55, sX6_set_58, sX6_set_61, sX6_set_63, sX6_set_64, sX6_set_65, sX6_set_68, sX6_set_69, sX6_set_72, sX6_set_75, sX6_set_76, sX6_set_79, sX6_set_82, sX6_set_83, sX6_set_84, sX6_set_87, sX6_set_88, sX6_set_91, sX6_set_92, hA, true_and, and_true, true_or, or_true, eq_self, ↓reduceIte, if_true, if_false, nI_add, nI_mul, inB_nI, nI_clamp, Nat.add_zero, eqI, ltI, leI, m6_ne, ne_m6, Nat.reduceEqDiff, reduceCtorEq, Nat.reduceLT, Nat.reduceLeDiff, Nat.reduceAdd, Nat.reduceMul, Nat.zero_add, Nat.mul_zero, nar_0, nar_1, nar_b, bI_t, bI_f, bI_0, bI_1, Bool.true_eq_false, Bool.false_eq_true, Bool.and_self, Bool.and_false, Bool.false_and, Bool.true_and, Bool.and_true, and_self, x1, o2, Bool.not_false, Nat.one_ne_zero]
      · simp (disch := omega) only [sX6_set_0, sX6_set_1, sX6_set_4, sX6_set_5, sX6_set_6, sX6_set_8, sX6_set_11, sX6_set_14, sX6_set_16, sX6_set_17, sX6_set_18, sX6_set_21, sX6_set_22, sX6_set_25, sX6_set_28, sX6_set_29, sX6_set_32, sX6_set_35, sX6_set_36, sX6_set_37, sX6_set_40, sX6_set_41, sX6_set_44, sX6_set_45, sX6_set_46, sX6_set_47, sX6_set_48, sX6_set_51, sX6_set_52, sX6_set_53, sX6_set_55, sX6_set_58, sX6_set_61, sX6_set_63, sX6_set_64, sX6_set_65, sX6_set_68, sX6_set_69, sX6_set_72, sX6_set_75, sX6_set_76, sX6_set_79, sX6_set_82, sX6_set_83, sX6_set_84, sX6_set_87, sX6_set_88, sX6_set_91, sX6_set_92, hA, true_and, and_true, true_or, or_true, eq_self, ↓reduceIte, if_true, if_false, nI_add, nI_mul, inB_nI, nI_clamp, Nat.add_zero, eqI, ltI, leI, m6_ne, ne_m6, Nat.reduceEqDiff, reduceCtorEq, Nat.reduceLT, Nat.reduceLeDiff, Nat.reduceAdd, Nat.reduceMul, Nat.zero_add, Nat.mul_zero, nar_0, nar_1, nar_b, bI_t, bI_f, bI_0, bI_1, Bool.true_eq_false, Bool.false_eq_true, Bool.and_self, Bool.and_false, Bool.false_and, Bool.true_and, Bool.and_true, and_self, x0, x1]
  · obtain ⟨c, D', H', m', k1, k2, k3, k4, k5, k6⟩ := C.kp (z := z)
    have hB' := k4.1
    simp only [IsMM] at hB'
    have hb := k4.2.1.1.1
    have hF := C.2.2.1
    have e1 : ∀ c2 a, 853 ≤ a → bM m' 2 c2 a = m a := fun c2 a ha => by rw [bM_o (by omega), k3 a ha]
    have hs' := hs
    unfold setOK at hs
    by_cases x0 : x = nI 0
    · subst x0
      rw [if_pos rfl] at hs
      rw [hs] at o1
      have hv : ∃ p, 1 ≤ p ∧ p ≤ 50 ∧ y = nI p := by
        simp only [Bool.and_eq_true, decide_eq_true_eq] at hs
        rcases i32_cases y with ⟨k, hk, rfl⟩ | hn
        · rw [leI _ _ (by decide) hk, leI _ _ hk (by decide)] at hs
          exact ⟨k, hs.1, hs.2, rfl⟩
        · exact absurd (Int32.lt_of_le_of_lt hs.1 hn) (by decide +kernel)
      have C1 := k6 _ _ _ _ (k2.G (k := 0) (v := y) (by decide) hF.1.2.1 hF.1.2.2.2) (WF_pat hF hv)
      have hE := eM_frC E (e1 (sG c 0 y))
      have e0 := k2.1 0 (by decide)
      have mm := fun Q => m_set (D := D') (m := bM m' 2 (sG c 0 y)) (z := z) (f := f) (Q := Q) (r := r) k4.2.2.2.2.1 (S.frC (e1 _)).1.1 S.1.2.1 hs' (by decide)
      rw [hE] at mm
      refine ⟨_, D', bM m' 2 (sG c 0 y), _, _, fun Q => ?_, mm, fin_rec C1 S (e1 _)⟩
      simp (disch := omega) only [sX6_set_0, sX6_set_1, sX6_set_4, sX6_set_5, sX6_set_6, sX6_set_8, sX6_set_11, sX6_set_14, sX6_set_16, sX6_set_17, sX6_set_18, sX6_set_21, sX6_set_22, sX6_set_25, sX6_set_28, sX6_set_29, sX6_set_32, sX6_set_35, sX6_set_36, sX6_set_37, sX6_set_40, sX6_set_41, sX6_set_44, sX6_set_45, sX6_set_46, sX6_set_47, sX6_set_48, sX6_set_51, sX6_set_52, sX6_set_53, sX6_set_55, sX6_set_58, sX6_set_61, sX6_set_63, sX6_set_64, sX6_set_65, sX6_set_68, sX6_set_69, sX6_set_72, sX6_set_75, sX6_set_76, sX6_set_79, sX6_set_82, sX6_set_83, sX6_set_84, sX6_set_87, sX6_set_88, sX6_set_91, sX6_set_92, hA, hB', hb, true_and, and_true, true_or, or_true, eq_self, ↓reduceIte, if_true, if_false, nI_add, nI_mul, inB_nI, nI_clamp, Nat.add_zero, eqI, ltI, leI, m6_ne, ne_m6, Nat.reduceEqDiff, reduceCtorEq, Nat.reduceLT, Nat.reduceLeDiff, Nat.reduceAdd, Nat.reduceMul, Nat.zero_add, Nat.mul_zero, nar_0, nar_1, nar_b, bI_t, bI_f, bI_0, bI_1, Bool.true_eq_false, Bool.false_eq_true, Bool.and_self, Bool.and_false, Bool.false_and, Bool.true_and, Bool.and_true, and_self, o1, Bool.not_true, k5, b_pat, w_pat, e0]
    · rw [if_neg x0] at hs
      by_cases x1 : x = nI 1
      · subst x1
        rw [if_pos rfl] at hs
        rw [hs] at o2
        have C1 := k6 _ _ _ _ (k2.G (k := 1) (v := y) (by decide) hF.1.2.1 hF.1.2.2.2) (hF.sG y (by decide))
        have hE := eM_frC E (e1 (sG c 1 y))
        have e0 := k2.1 1 (by decide)
        have mm := fun Q => m_set (D := D') (m := bM m' 2 (sG c 1 y)) (z := z) (f := f) (Q := Q) (r := r) k4.2.2.2.2.1 (S.frC (e1 _)).1.1 S.1.2.1 hs' (by decide)
        rw [hE] at mm
        refine ⟨_, D', bM m' 2 (sG c 1 y), _, _, fun Q => ?_, mm, fin_rec C1 S (e1 _)⟩
        simp (disch := omega) only [sX6_set_0, sX6_set_1, sX6_set_4, sX6_set_5, sX6_set_6, sX6_set_8, sX6_set_11, sX6_set_14, sX6_set_16, sX6_set_17, sX6_set_18, sX6_set_21, sX6_set_22, sX6_set_25, sX6_set_28, sX6_set_29, sX6_set_32, sX6_set_35, sX6_set_36, sX6_set_37, sX6_set_40, sX6_set_41, sX6_set_44, sX6_set_45, sX6_set_46, sX6_set_47, sX6_set_48, sX6_set_51, sX6_set_52, sX6_set_53, sX6_set_55, sX6_set_58, sX6_set_61, sX6_set_63, sX6_set_64, sX6_set_65, sX6_set_68, sX6_set_69, sX6_set_72, sX6_set_75, sX6_set_76, sX6_set_79, sX6_set_82, sX6_set_83, sX6_set_84, sX6_set_87, sX6_set_88, sX6_set_91, sX6_set_92, hA, hB', hb, true_and, and_true, true_or, or_true, eq_self, ↓reduceIte, if_true, if_false, nI_add, nI_mul, inB_nI, nI_clamp, Nat.add_zero, eqI, ltI, leI, m6_ne, ne_m6, Nat.reduceEqDiff, reduceCtorEq, Nat.reduceLT, Nat.reduceLeDiff, Nat.reduceAdd, Nat.reduceMul, Nat.zero_add, Nat.mul_zero, nar_0, nar_1, nar_b, bI_t, bI_f, bI_0, bI_1, Bool.true_eq_false, Bool.false_eq_true, Bool.and_self, Bool.and_false, Bool.false_and, Bool.true_and, Bool.and_true, and_self, o2, Bool.not_true, k5, b_tst, w_tst, e0, Nat.one_ne_zero]
      · rw [if_neg x1] at hs
        cases hs
theorem p_come (C0 : Cpl D m) (x y : Int32) : Pair MX6_come MX7_come [.ref 1, .int x, .int y] [.ref 853, .int x, .int y, vJ] D m z := by
  obtain ⟨H, f, nF, nT, r, L, h, s, b0, b1, ch, C, S, E⟩ := C0
  have hM := C.1.2.2.2.2.1
  have hA := C.1.1
  simp only [IsMM] at hA
  have o1 := fun (m : vMM) Q => x_outside (D := D) (m := m) (z := z) (v := x) (a := nI 1) (b := nI 63) (Q := Q)
  have o2 := fun (m : vMM) Q => x_outside (D := D) (m := m) (z := z) (v := y) (a := nI 1) (b := nI 3) (Q := Q)
  cases h1 : (decide (nI 1 ≤ x) && decide (x ≤ nI 63))
  · rw [h1] at o1
    refine ⟨m2, D, m, D, m, fun Q => ?_, fun Q => m_come_bad hM (by rw [h1, Bool.false_and]), H, f, nF, nT, r, L, h, s, b0, b1, ch, C, S, E⟩
    simp (disch := omega) only [sX6_come_0, sX6_come_1, sX6_come_2, sX6_come_4, sX6_come_7, sX6_come_10, sX6_come_11, sX6_come_12, sX6_come_13, sX6_come_16, sX6_come_19, sX6_come_21, sX6_come_22, sX6_come_23, sX6_come_26, sX6_come_29, sX6_come_31, sX6_come_34, sX6_come_36, sX6_come_37, sX6_come_38, sX6_come_41, sX6_come_42, sX6_come_45, sX6_come_48, sX6_come_49, sX6_come_52, sX6_come_53, sX6_come_54, sX6_come_57, hA, true_and, and_true, true_or, or_true, eq_self, ↓reduceIte, if_true, if_false, nI_add, nI_mul, inB_nI, nI_clamp, Nat.add_zero, eqI, ltI, leI, m6_ne, ne_m6, Nat.reduceEqDiff, reduceCtorEq, Nat.reduceLT, Nat.reduceLeDiff, Nat.reduceAdd, Nat.reduceMul, Nat.zero_add, Nat.mul_zero, nar_0, nar_1, nar_b, bI_t, bI_f, bI_0, bI_1, Bool.true_eq_false, Bool.false_eq_true, Bool.and_self, Bool.and_false, Bool.false_and, Bool.true_and, Bool.and_true, and_self, o1, Bool.not_false, Nat.one_ne_zero]
  · rw [h1] at o1
    cases h2 : (decide (nI 1 ≤ y) && decide (y ≤ nI 3))
    · rw [h2] at o2
      refine ⟨m2, D, m, D, m, fun Q => ?_, fun Q => m_come_bad hM (by rw [h1, h2, Bool.and_false]), H, f, nF, nT, r, L, h, s, b0, b1, ch, C, S, E⟩
      simp (disch := omega) only [sX6_come_0, sX6_come_1, sX6_come_2, sX6_come_4, sX6_come_7, sX6_come_10, sX6_come_11, sX6_come_12, sX6_come_13, sX6_come_16, sX6_come_19, sX6_come_21, sX6_come_22, sX6_come_23, sX6_come_26, sX6_come_29, sX6_come_31, sX6_come_34, sX6_come_36, sX6_come_37, sX6_come_38, sX6_come_41, sX6_come_42, sX6_come_45, sX6_come_48, sX6_come_49, sX6_come_52, sX6_come_53, sX6_come_54, sX6_come_57, hA, true_and, and_true, true_or, or_true, eq_self, ↓reduceIte, if_true, if_false, nI_add, nI_mul, inB_nI, nI_clamp, Nat.add_zero, eqI, ltI, leI, m6_ne, ne_m6, Nat.reduceEqDiff, reduceCtorEq, Nat.reduceLT, Nat.reduceLeDiff, Nat.reduceAdd, Nat.reduceMul, Nat.zero_add, Nat.mul_zero, nar_0, nar_1, nar_b, bI_t, bI_f, bI_0, bI_1, Bool.true_eq_false, Bool.false_eq_true, Bool.and_self, Bool.and_false, Bool.false_and, Bool.true_and, Bool.and_true, and_self, o1, o2, Bool.not_false, Bool.not_true, Nat.one_ne_zero]
    · rw [h2] at o2
      obtain ⟨c0, q1, q2, q3, hF⟩ := C.rd
      have g2 : m 2 3 = nI nF := by rw [← q1, b_nF]; exact (q2.1 2 (by decide)).trans hF.1.1
      have hb0 := q3.1.1
      by_cases h8 : nF = 8
      · have mm := fun Q => m_come_many (D := D) (m := m) (z := z) (f := f) (Q := Q) hM h1 h2 (by rw [← h8]; exact hF.1.1)
        rw [E] at mm
        refine ⟨m4, D, m, D, m, fun Q => ?_, mm, H, f, nF, nT, r, L, h, s, b0, b1, ch, C, S, E⟩
        simp (disch := omega) only [sX6_come_0, sX6_come_1, sX6_come_2, sX6_come_4, sX6_come_7, sX6_come_10, sX6_come_11, sX6_come_12, sX6_come_13, sX6_come_16, sX6_come_19, sX6_come_21, sX6_come_22, sX6_come_23, sX6_come_26, sX6_come_29, sX6_come_31, sX6_come_34, sX6_come_36, sX6_come_37, sX6_come_38, sX6_come_41, sX6_come_42, sX6_come_45, sX6_come_48, sX6_come_49, sX6_come_52, sX6_come_53, sX6_come_54, sX6_come_57, hA, hb0, true_and, and_true, true_or, or_true, eq_self, ↓reduceIte, if_true, if_false, nI_add, nI_mul, inB_nI, nI_clamp, Nat.add_zero, eqI, ltI, leI, m6_ne, ne_m6, Nat.reduceEqDiff, reduceCtorEq, Nat.reduceLT, Nat.reduceLeDiff, Nat.reduceAdd, Nat.reduceMul, Nat.zero_add, Nat.mul_zero, nar_0, nar_1, nar_b, bI_t, bI_f, bI_0, bI_1, Bool.true_eq_false, Bool.false_eq_true, Bool.and_self, Bool.and_false, Bool.false_and, Bool.true_and, Bool.and_true, and_self, o1, o2, Bool.not_true, g2, h8, Nat.le_refl, Nat.lt_irrefl]
      · obtain ⟨c, D', H', m', k1, k2, k3, k4, k5, k6⟩ := C.kp (z := z)
        have hB' := k4.1
        simp only [IsMM] at hB'
        have h8' := hF.1.2.1
        have hn : nF < 8 := by omega
        have hn' : ¬ 8 ≤ nF := by omega
        have e1 : ∀ c2 a, 853 ≤ a → bM m' 2 c2 a = m a := fun c2 a ha => by rw [bM_o (by omega), k3 a ha]
        have C1 := k6 _ _ _ _ (k2.came hn hF.1.2.2.2 (sk := x) (sp := y)) (hF.came hn)
        have hE := eM_frC E (e1 (cameF c nF x y))
        have mm := fun Q => m_come (D := D') (m := bM m' 2 (cameF c nF x y)) (z := z) (f := f) (Q := Q) (r := r) k4.2.2.2.2.1 (S.frC (e1 _)).1.1 S.1.2.1 h1 h2 hF.1.1 hn
        rw [hE] at mm
        have xa := fun Q => x_addFixer (D := D') (m := m') (z := z) (Q := Q) (c := c) (sk := x) (sp := y) k4.2.1.1 ((k2.1 2 (by decide)).trans hF.1.1) hn
        refine ⟨_, D', bM m' 2 (cameF c nF x y), _, _, fun Q => ?_, mm, fin_rec C1 S (e1 _)⟩
        simp (disch := omega) only [sX6_come_0, sX6_come_1, sX6_come_2, sX6_come_4, sX6_come_7, sX6_come_10, sX6_come_11, sX6_come_12, sX6_come_13, sX6_come_16, sX6_come_19, sX6_come_21, sX6_come_22, sX6_come_23, sX6_come_26, sX6_come_29, sX6_come_31, sX6_come_34, sX6_come_36, sX6_come_37, sX6_come_38, sX6_come_41, sX6_come_42, sX6_come_45, sX6_come_48, sX6_come_49, sX6_come_52, sX6_come_53, sX6_come_54, sX6_come_57, hA, hB', hb0, k4.2.1.1.1.1, true_and, and_true, true_or, or_true, eq_self, ↓reduceIte, if_true, if_false, nI_add, nI_mul, inB_nI, nI_clamp, Nat.add_zero, eqI, ltI, leI, m6_ne, ne_m6, Nat.reduceEqDiff, reduceCtorEq, Nat.reduceLT, Nat.reduceLeDiff, Nat.reduceAdd, Nat.reduceMul, Nat.zero_add, Nat.mul_zero, nar_0, nar_1, nar_b, bI_t, bI_f, bI_0, bI_1, Bool.true_eq_false, Bool.false_eq_true, Bool.and_self, Bool.and_false, Bool.false_and, Bool.true_and, Bool.and_true, and_self, o1, o2, Bool.not_true, g2, hn, hn', k5, xa]
theorem p_away (C0 : Cpl D m) (x : Int32) (b : Bool) : Pair MX6_away MX7_away [.ref 1, .int x, .int (bI b), vJ] [.ref 853, .int x, .int (bI b)] D m z := by
  obtain ⟨H, f, nF, nT, r, L, h, s, b0, b1, ch, C, S, E⟩ := C0
  have hM := C.1.2.2.2.2.1
  have hA := C.1.1
  simp only [IsMM] at hA
  obtain ⟨c0, q1, q2, q3, hF⟩ := C.rd
  have hf := fun Q => x_hasFixer (D := D) (m := m) (z := z) (Q := Q) q3 q2 hF (x := x)
  rw [q1] at hf
  obtain ⟨⟨a1, a2, a3, a4⟩, ⟨a5, a6, -⟩, a11, a12, -⟩ := id q3
  cases hx : inR x nF
  · have mm := fun Q => m_away_no (D := D) (m := m) (z := z) (f := f) (Q := Q) (y := bI b) hM hF.1.1 hF.1.2.1 hx
    rw [E] at mm
    rw [hx] at hf
    refine ⟨m1, D, m, D, m, fun Q => ?_, mm, H, f, nF, nT, r, L, h, s, b0, b1, ch, C, S, E⟩
    simp (disch := omega) only [sX6_away_0, sX6_away_1, sX6_away_4, sX6_away_5, sX6_away_8, sX6_away_11, sX6_away_12, sX6_away_13, sX6_away_14, sX6_away_17, sX6_away_20, sX6_away_21, sX6_away_22, sX6_away_23, sX6_away_24, sX6_away_27, sX6_away_28, sX6_away_31, sX6_away_33, sX6_away_34, sX6_away_35, sX6_away_38, sX6_away_39, sX6_away_42, sX6_away_45, sX6_away_46, sX6_away_47, sX6_away_50, sX6_away_51, sX6_away_54, sX6_away_55, sX6_away_58, sX6_away_59, sX6_away_62, sX6_away_65, hA, a1, true_and, and_true, true_or, or_true, eq_self, ↓reduceIte, if_true, if_false, nI_add, nI_mul, inB_nI, nI_clamp, Nat.add_zero, eqI, ltI, leI, m6_ne, ne_m6, Nat.reduceEqDiff, reduceCtorEq, Nat.reduceLT, Nat.reduceLeDiff, Nat.reduceAdd, Nat.reduceMul, Nat.zero_add, Nat.mul_zero, nar_0, nar_1, nar_b, bI_t, bI_f, bI_0, bI_1, Bool.true_eq_false, Bool.false_eq_true, Bool.and_self, Bool.and_false, Bool.false_and, Bool.true_and, Bool.and_true, and_self, hf]
  · obtain ⟨i, hi, rfl⟩ := inR_t hx (by have := hF.1.2.1; omega)
    have h8 := hF.1.2.1
    rw [hx] at hf
    have a11 := a11 i (by omega)
    have a12 := a12 i (by omega)
    have gi : m (2 + 4 + i) 2 = gF f i 2 := by rw [← q1, b_F (by omega) (by decide)]; exact q2.2.1 i hi 2 (by decide)
    have go : ∀ b', gF f i 2 = bI b' → Pair MX6_away MX7_away [.ref 1, .int (nI i), .int (bI b), vJ] [.ref 853, .int (nI i), .int (bI b)] D m z := by
      intro b' hb'
      rw [hb'] at gi
      by_cases hbb : b' = b
      · subst hbb
        obtain ⟨c, D', H', m', k1, k2, k3, k4, k5, k6⟩ := C.kp (z := z)
        have hB' := k4.1
        simp only [IsMM] at hB'
        have e1 : ∀ c2 a, 853 ≤ a → bM m' 2 c2 a = m a := fun c2 a ha => by rw [bM_o (by omega), k3 a ha]
        have r2 := k2.F (i := i) (k := 2) (v := bI (!b')) (by omega) (by decide) h8
        have w2 : WF (sF f i 2 (bI (!b'))) nF nT := hF.there hi (by cases b' <;> simp [bI])
        have C1 := k6 _ _ _ _ r2 w2
        have hE := eM_frC E (e1 (sF c i 2 (bI (!b'))))
        have mm := fun Q => m_away (D := D') (m := bM m' 2 (sF c i 2 (bI (!b')))) (z := z) (f := f) (Q := Q) (r := r) k4.2.2.2.2.1 (S.frC (e1 _)).1.1 S.1.2.1 hF.1.1 h8 hi b' hb'
        rw [hE] at mm
        have ft := fun Q => x_fixersThere (D := D') (m := m') (z := z) (Q := Q) k4.2.1.1 r2 w2
        obtain ⟨⟨d1, d2, d3, d4⟩, ⟨d5, d6, -⟩, d11, d12, -⟩ := id k4.2.1.1
        have d12 := d12 i (by omega)
        refine ⟨_, D', bM m' 2 (sF c i 2 (bI (!b'))), _, _, fun Q => ?_, mm, fin_rec C1 S (e1 _)⟩
        cases b'
        · simp (disch := omega) only [Bool.not_false, bI_t, bI_f] at gi ft ⊢
          simp (disch := omega) only [sX6_away_0, sX6_away_1, sX6_away_4, sX6_away_5, sX6_away_8, sX6_away_11, sX6_away_12, sX6_away_13, sX6_away_14, sX6_away_17, sX6_away_20, sX6_away_21, sX6_away_22, sX6_away_23, sX6_away_24, sX6_away_27, sX6_away_28, sX6_away_31, sX6_away_33, sX6_away_34, sX6_away_35, sX6_away_38, sX6_away_39, sX6_away_42, sX6_away_45, sX6_away_46, sX6_away_47, sX6_away_50, sX6_away_51, sX6_away_54, sX6_away_55, sX6_away_58, sX6_away_59, sX6_away_62, sX6_away_65, hA, hB', a1, a2, a5, a6, a11, a12, d1, d12, true_and, and_true, true_or, or_true, eq_self, ↓reduceIte, if_true, if_false, nI_add, nI_mul, inB_nI, nI_clamp, Nat.add_zero, eqI, ltI, leI, m6_ne, ne_m6, Nat.reduceEqDiff, reduceCtorEq, Nat.reduceLT, Nat.reduceLeDiff, Nat.reduceAdd, Nat.reduceMul, Nat.zero_add, Nat.mul_zero, nar_0, nar_1, nar_b, bI_t, bI_f, bI_0, bI_1, Bool.true_eq_false, Bool.false_eq_true, Bool.and_self, Bool.and_false, Bool.false_and, Bool.true_and, Bool.and_true, and_self, hf, gi, k5, w_F, ft, or_true]
        · simp (disch := omega) only [Bool.not_true, bI_t, bI_f] at gi ft ⊢
          simp (disch := omega) only [sX6_away_0, sX6_away_1, sX6_away_4, sX6_away_5, sX6_away_8, sX6_away_11, sX6_away_12, sX6_away_13, sX6_away_14, sX6_away_17, sX6_away_20, sX6_away_21, sX6_away_22, sX6_away_23, sX6_away_24, sX6_away_27, sX6_away_28, sX6_away_31, sX6_away_33, sX6_away_34, sX6_away_35, sX6_away_38, sX6_away_39, sX6_away_42, sX6_away_45, sX6_away_46, sX6_away_47, sX6_away_50, sX6_away_51, sX6_away_54, sX6_away_55, sX6_away_58, sX6_away_59, sX6_away_62, sX6_away_65, hA, hB', a1, a2, a5, a6, a11, a12, d1, d12, true_and, and_true, true_or, or_true, eq_self, ↓reduceIte, if_true, if_false, nI_add, nI_mul, inB_nI, nI_clamp, Nat.add_zero, eqI, ltI, leI, m6_ne, ne_m6, Nat.reduceEqDiff, reduceCtorEq, Nat.reduceLT, Nat.reduceLeDiff, Nat.reduceAdd, Nat.reduceMul, Nat.zero_add, Nat.mul_zero, nar_0, nar_1, nar_b, bI_t, bI_f, bI_0, bI_1, Bool.true_eq_false, Bool.false_eq_true, Bool.and_self, Bool.and_false, Bool.false_and, Bool.true_and, Bool.and_true, and_self, hf, gi, k5, w_F, ft, true_or, Nat.one_ne_zero]
      · have hnb : b' = !b := by cases b' <;> cases b <;> simp_all
        have mm := fun Q => m_away_np (D := D) (m := m) (z := z) (f := f) (Q := Q) hM hF.1.1 h8 hi b (hb'.trans (by rw [hnb]))
        rw [E] at mm
        refine ⟨m5, D, m, D, m, fun Q => ?_, mm, H, f, nF, nT, r, L, h, s, b0, b1, ch, C, S, E⟩
        subst hnb
        cases b
        · simp (disch := omega) only [Bool.not_false, bI_t, bI_f] at gi ⊢
          simp (disch := omega) only [sX6_away_0, sX6_away_1, sX6_away_4, sX6_away_5, sX6_away_8, sX6_away_11, sX6_away_12, sX6_away_13, sX6_away_14, sX6_away_17, sX6_away_20, sX6_away_21, sX6_away_22, sX6_away_23, sX6_away_24, sX6_away_27, sX6_away_28, sX6_away_31, sX6_away_33, sX6_away_34, sX6_away_35, sX6_away_38, sX6_away_39, sX6_away_42, sX6_away_45, sX6_away_46, sX6_away_47, sX6_away_50, sX6_away_51, sX6_away_54, sX6_away_55, sX6_away_58, sX6_away_59, sX6_away_62, sX6_away_65, hA, a1, a2, a5, a6, a11, a12, true_and, and_true, true_or, or_true, eq_self, ↓reduceIte, if_true, if_false, nI_add, nI_mul, inB_nI, nI_clamp, Nat.add_zero, eqI, ltI, leI, m6_ne, ne_m6, Nat.reduceEqDiff, reduceCtorEq, Nat.reduceLT, Nat.reduceLeDiff, Nat.reduceAdd, Nat.reduceMul, Nat.zero_add, Nat.mul_zero, nar_0, nar_1, nar_b, bI_t, bI_f, bI_0, bI_1, Bool.true_eq_false, Bool.false_eq_true, Bool.and_self, Bool.and_false, Bool.false_and, Bool.true_and, Bool.and_true, and_self, hf, gi, Nat.one_ne_zero]
        · simp (disch := omega) only [Bool.not_true, bI_t, bI_f] at gi ⊢
          simp (disch := omega) only [sX6_away_0, sX6_away_1, sX6_away_4, sX6_away_5, sX6_away_8, sX6_away_11, sX6_away_12, sX6_away_13, sX6_away_14, sX6_away_17, sX6_away_20, sX6_away_21, sX6_away_22, sX6_away_23, sX6_away_24, sX6_away_27, sX6_away_28, sX6_away_31, sX6_away_33, sX6_away_34, sX6_away_35, sX6_away_38, sX6_away_39, sX6_away_42, sX6_away_45, sX6_away_46, sX6_away_47, sX6_away_50, sX6_away_51, sX6_away_54, sX6_away_55, sX6_away_58, sX6_away_59, sX6_away_62, sX6_away_65, hA, a1, a2, a5, a6, a11, a12, true_and, and_true, true_or, or_true, eq_self, ↓reduceIte, if_true, if_false, nI_add, nI_mul, inB_nI, nI_clamp, Nat.add_zero, eqI, ltI, leI, m6_ne, ne_m6, Nat.reduceEqDiff, reduceCtorEq, Nat.reduceLT, Nat.reduceLeDiff, Nat.reduceAdd, Nat.reduceMul, Nat.zero_add, Nat.mul_zero, nar_0, nar_1, nar_b, bI_t, bI_f, bI_0, bI_1, Bool.true_eq_false, Bool.false_eq_true, Bool.and_self, Bool.and_false, Bool.false_and, Bool.true_and, Bool.and_true, and_self, hf, gi, Nat.zero_ne_one]
    rcases (hF.2.2.2.1 i hi).2 with e | e
    · exact go false e
    · exact go true e
theorem p_stock (C0 : Cpl D m) (x y : Int32) : Pair MX6_stock MX7_stock [.ref 1, .int x, .int y] [.ref 853, .int x, .int y] D m z := by
  obtain ⟨H, f, nF, nT, r, L, h, s, b0, b1, ch, C, S, E⟩ := C0
  have hM := C.1.2.2.2.2.1
  have hA := C.1.1
  simp only [IsMM] at hA
  obtain ⟨c0, q1, q2, q3, hF⟩ := C.rd
  obtain ⟨⟨a1, a2, a3, a4⟩, ⟨-, -, -, -, a9, a10⟩, -⟩ := id q3
  have o1 := fun (m : vMM) Q => x_outside (D := D) (m := m) (z := z) (v := x) (a := nI 0) (b := nI 3) (Q := Q)
  have o2 := fun (m : vMM) Q => x_outside (D := D) (m := m) (z := z) (v := y) (a := nI 1) (b := nI 99) (Q := Q)
  rw [inR4 x (by decide)] at o1
  cases hx : inR x 4
  · rw [hx] at o1
    refine ⟨m1, D, m, D, m, fun Q => ?_, fun Q => m_stock_no hM hx, H, f, nF, nT, r, L, h, s, b0, b1, ch, C, S, E⟩
    simp (disch := omega) only [sX6_stock_0, sX6_stock_1, sX6_stock_2, sX6_stock_3, sX6_stock_6, sX6_stock_9, sX6_stock_10, sX6_stock_11, sX6_stock_12, sX6_stock_13, sX6_stock_15, sX6_stock_18, sX6_stock_21, sX6_stock_23, sX6_stock_24, sX6_stock_25, sX6_stock_28, sX6_stock_31, sX6_stock_32, sX6_stock_33, sX6_stock_34, sX6_stock_35, sX6_stock_37, sX6_stock_40, sX6_stock_42, sX6_stock_43, sX6_stock_44, sX6_stock_47, sX6_stock_48, sX6_stock_51, sX6_stock_54, sX6_stock_55, sX6_stock_58, sX6_stock_61, sX6_stock_62, sX6_stock_63, sX6_stock_64, sX6_stock_65, sX6_stock_66, sX6_stock_67, sX6_stock_68, sX6_stock_71, sX6_stock_74, sX6_stock_75, sX6_stock_76, hA, true_and, and_true, true_or, or_true, eq_self, ↓reduceIte, if_true, if_false, nI_add, nI_mul, inB_nI, nI_clamp, Nat.add_zero, eqI, ltI, leI, m6_ne, ne_m6, Nat.reduceEqDiff, reduceCtorEq, Nat.reduceLT, Nat.reduceLeDiff, Nat.reduceAdd, Nat.reduceMul, Nat.zero_add, Nat.mul_zero, nar_0, nar_1, nar_b, bI_t, bI_f, bI_0, bI_1, Bool.true_eq_false, Bool.false_eq_true, Bool.and_self, Bool.and_false, Bool.false_and, Bool.true_and, Bool.and_true, and_self, o1, Bool.not_false, Nat.one_ne_zero]
  · rw [hx] at o1
    cases hy : (decide (nI 1 ≤ y) && decide (y ≤ nI 99))
    · rw [hy] at o2
      refine ⟨m2, D, m, D, m, fun Q => ?_, fun Q => m_stock_bad hM hx hy, H, f, nF, nT, r, L, h, s, b0, b1, ch, C, S, E⟩
      simp (disch := omega) only [sX6_stock_0, sX6_stock_1, sX6_stock_2, sX6_stock_3, sX6_stock_6, sX6_stock_9, sX6_stock_10, sX6_stock_11, sX6_stock_12, sX6_stock_13, sX6_stock_15, sX6_stock_18, sX6_stock_21, sX6_stock_23, sX6_stock_24, sX6_stock_25, sX6_stock_28, sX6_stock_31, sX6_stock_32, sX6_stock_33, sX6_stock_34, sX6_stock_35, sX6_stock_37, sX6_stock_40, sX6_stock_42, sX6_stock_43, sX6_stock_44, sX6_stock_47, sX6_stock_48, sX6_stock_51, sX6_stock_54, sX6_stock_55, sX6_stock_58, sX6_stock_61, sX6_stock_62, sX6_stock_63, sX6_stock_64, sX6_stock_65, sX6_stock_66, sX6_stock_67, sX6_stock_68, sX6_stock_71, sX6_stock_74, sX6_stock_75, sX6_stock_76, hA, true_and, and_true, true_or, or_true, eq_self, ↓reduceIte, if_true, if_false, nI_add, nI_mul, inB_nI, nI_clamp, Nat.add_zero, eqI, ltI, leI, m6_ne, ne_m6, Nat.reduceEqDiff, reduceCtorEq, Nat.reduceLT, Nat.reduceLeDiff, Nat.reduceAdd, Nat.reduceMul, Nat.zero_add, Nat.mul_zero, nar_0, nar_1, nar_b, bI_t, bI_f, bI_0, bI_1, Bool.true_eq_false, Bool.false_eq_true, Bool.and_self, Bool.and_false, Bool.false_and, Bool.true_and, Bool.and_true, and_self, o1, o2, Bool.not_false, Bool.not_true, Nat.one_ne_zero]
    · rw [hy] at o2
      obtain ⟨k, hk, rfl⟩ := inR_t hx (by decide)
      have gk : m (2 + 3) k = gG f (6 + k) := by rw [← q1, b_prt hk]; exact q2.1 (6 + k) (by omega)
      simp only [Nat.reduceAdd] at gk a4 a9 a10
      by_cases hs : gG f (6 + k) + y ≤ nI 99
      · obtain ⟨c, D', H', m', k1, k2, k3, k4, k5, k6⟩ := C.kp (z := z)
        have hB' := k4.1
        simp only [IsMM] at hB'
        obtain ⟨⟨d1, d2, d3, d4⟩, ⟨-, -, -, -, d9, d10⟩, -⟩ := id k4.2.1.1
        have e1 : ∀ c2 a, 853 ≤ a → bM m' 2 c2 a = m a := fun c2 a ha => by rw [bM_o (by omega), k3 a ha]
        have r2 := k2.G (k := 6 + k) (v := gG f (6 + k) + y) (by omega) hF.1.2.1 hF.1.2.2.2
        have C1 := k6 _ _ _ _ r2 (hF.sG _ (by omega))
        have hE := eM_frC E (e1 (sG c (6 + k) (gG f (6 + k) + y)))
        have mm := fun Q => m_stock (D := D') (m := bM m' 2 (sG c (6 + k) (gG f (6 + k) + y))) (z := z) (f := f) (Q := Q) (r := r) k4.2.2.2.2.1 (S.frC (e1 _)).1.1 S.1.2.1 hk hy hs
        rw [hE] at mm
        have ec := k2.1 (6 + k) (by omega)
        have p1 : bM m' 2 c 5 k = gG c (6 + k) := b_prt (b := 2) hk
        have p2 : ∀ c x, up2 (bM m' 2 c) 5 k x = bM m' 2 (sG c (6 + k) x) := fun c x => w_prt (b := 2) hk
        have p3 : ∀ v, bM m' 2 (sG c (6 + k) v) 5 k = v := fun v => (b_prt (b := 2) hk).trans gG_sG
        simp only [Nat.reduceAdd] at d4 d9 d10
        refine ⟨_, D', bM m' 2 (sG c (6 + k) (gG f (6 + k) + y)), _, _, fun Q => ?_, mm, fin_rec C1 S (e1 _)⟩
        simp (disch := omega) only [sX6_stock_0, sX6_stock_1, sX6_stock_2, sX6_stock_3, sX6_stock_6, sX6_stock_9, sX6_stock_10, sX6_stock_11, sX6_stock_12, sX6_stock_13, sX6_stock_15, sX6_stock_18, sX6_stock_21, sX6_stock_23, sX6_stock_24, sX6_stock_25, sX6_stock_28, sX6_stock_31, sX6_stock_32, sX6_stock_33, sX6_stock_34, sX6_stock_35, sX6_stock_37, sX6_stock_40, sX6_stock_42, sX6_stock_43, sX6_stock_44, sX6_stock_47, sX6_stock_48, sX6_stock_51, sX6_stock_54, sX6_stock_55, sX6_stock_58, sX6_stock_61, sX6_stock_62, sX6_stock_63, sX6_stock_64, sX6_stock_65, sX6_stock_66, sX6_stock_67, sX6_stock_68, sX6_stock_71, sX6_stock_74, sX6_stock_75, sX6_stock_76, hA, hB', a1, a4, a9, a10, d1, d4, d9, d10, true_and, and_true, true_or, or_true, eq_self, ↓reduceIte, if_true, if_false, nI_add, nI_mul, inB_nI, nI_clamp, Nat.add_zero, eqI, ltI, leI, m6_ne, ne_m6, Nat.reduceEqDiff, reduceCtorEq, Nat.reduceLT, Nat.reduceLeDiff, Nat.reduceAdd, Nat.reduceMul, Nat.zero_add, Nat.mul_zero, nar_0, nar_1, nar_b, bI_t, bI_f, bI_0, bI_1, Bool.true_eq_false, Bool.false_eq_true, Bool.and_self, Bool.and_false, Bool.false_and, Bool.true_and, Bool.and_true, and_self, o1, o2, Bool.not_true, gk, hs, k5, p1, ec, p2, p3]
      · have mm := fun Q => m_stock_many (D := D) (m := m) (z := z) (f := f) (Q := Q) hM hk hy hs
        rw [E] at mm
        refine ⟨m4, D, m, D, m, fun Q => ?_, mm, H, f, nF, nT, r, L, h, s, b0, b1, ch, C, S, E⟩
        simp (disch := omega) only [sX6_stock_0, sX6_stock_1, sX6_stock_2, sX6_stock_3, sX6_stock_6, sX6_stock_9, sX6_stock_10, sX6_stock_11, sX6_stock_12, sX6_stock_13, sX6_stock_15, sX6_stock_18, sX6_stock_21, sX6_stock_23, sX6_stock_24, sX6_stock_25, sX6_stock_28, sX6_stock_31, sX6_stock_32, sX6_stock_33, sX6_stock_34, sX6_stock_35, sX6_stock_37, sX6_stock_40, sX6_stock_42, sX6_stock_43, sX6_stock_44, sX6_stock_47, sX6_stock_48, sX6_stock_51, sX6_stock_54, sX6_stock_55, sX6_stock_58, sX6_stock_61, sX6_stock_62, sX6_stock_63, sX6_stock_64, sX6_stock_65, sX6_stock_66, sX6_stock_67, sX6_stock_68, sX6_stock_71, sX6_stock_74, sX6_stock_75, sX6_stock_76, hA, a1, a4, a9, a10, true_and, and_true, true_or, or_true, eq_self, ↓reduceIte, if_true, if_false, nI_add, nI_mul, inB_nI, nI_clamp, Nat.add_zero, eqI, ltI, leI, m6_ne, ne_m6, Nat.reduceEqDiff, reduceCtorEq, Nat.reduceLT, Nat.reduceLeDiff, Nat.reduceAdd, Nat.reduceMul, Nat.zero_add, Nat.mul_zero, nar_0, nar_1, nar_b, bI_t, bI_f, bI_0, bI_1, Bool.true_eq_false, Bool.false_eq_true, Bool.and_self, Bool.and_false, Bool.false_and, Bool.true_and, Bool.and_true, and_self, o1, o2, Bool.not_true, gk, hs]
end OP1
