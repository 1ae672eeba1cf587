/-! the class's plans, what would be, texts -/
section OPC
variable {D : vDD} {m : vMM} {z : vZZ} {f : Nat → Int32} {nF nT L : Nat} {ch : Nat → Nat}
theorem o_plan (C0 : CK D m f nF nT L ch) {i : Nat} (hi : i < nF) : Op MX6_plan [.ref 1, .int (nI i)] D m z (plV (ablN f nF nT) nF i) f nF nT L ch := by
  obtain ⟨H, r, h, s, b0, b1, C⟩ := C0
  have hA := C.1.1
  have hPl := C.1.2.2.2.1
  simp only [IsMM] at hA
  obtain ⟨c0, q1, q2, q3, hF⟩ := C.rd
  have h8 := hF.1.2.1
  have hf := fun Q => x_hasFixer (D := D) (m := m) (z := z) (Q := Q) q3 q2 hF (x := nI i)
  rw [q1, inR_nI hi (by omega)] at hf
  have a1 := q3.1.1
  obtain ⟨M1, c1, hg, mp⟩ := x_makePlan (D := D) (z := z) hPl q3 (by decide) (show Blk m 2 c0 from q1) q2 hF
  have gi := hg i hi
  simp only [IsPl] at hPl
  refine ⟨D, M1, ⟨_, _, _, _, _, _, C.chp c1⟩, fun a ha => c1.hi ha, fun Q => ?_⟩
  simp (disch := omega) only [sX6_plan_0, sX6_plan_1, sX6_plan_4, sX6_plan_5, sX6_plan_8, sX6_plan_11, sX6_plan_12, sX6_plan_13, sX6_plan_14, sX6_plan_17, sX6_plan_18, sX6_plan_21, sX6_plan_24, sX6_plan_25, sX6_plan_28, sX6_plan_31, sX6_plan_32, sX6_plan_33, hA, hPl, a1, true_and, and_true, true_or, or_true, eq_self, ↓reduceIte, if_true, if_false, nI_add, nI_mul, inB_nI, nI_clamp, Nat.add_zero, eqI, ltI, leI, m6_ne, ne_m6, Nat.reduceEqDiff, reduceCtorEq, Nat.reduceLT, Nat.reduceLeDiff, Nat.reduceAdd, Nat.reduceMul, Nat.zero_add, Nat.mul_zero, nar_0, nar_1, nar_b, bI_t, bI_f, bI_0, bI_1, Bool.true_eq_false, Bool.false_eq_true, Bool.and_self, Bool.and_false, Bool.false_and, Bool.true_and, Bool.and_true, and_self, hf, mp, gi, Nat.one_ne_zero]
theorem o_planned (C0 : CK D m f nF nT L ch) : Op MX6_planned [.ref 1] D m z (nI (behF (ablN f nF nT) nF 0 (fun _ => true))) f nF nT L ch := by
  obtain ⟨H, r, h, s, b0, b1, C⟩ := C0
  have hA := C.1.1
  have hPl := C.1.2.2.2.1
  simp only [IsMM] at hA
  obtain ⟨c0, q1, q2, q3, hF⟩ := C.rd
  have h8 := hF.1.2.1
  obtain ⟨M1, c1, h3, hC, la⟩ := x_lookAt (D := D) (z := z) hPl q3 (by decide) (show Blk m 2 c0 from q1) q2 hF
  obtain ⟨row, ms⟩ := x_served (D := D) (m := M1) (z := z) (S := fun _ => true) (th := nI 65535) (a := 0) hPl h3 hC (fun t ht => sel65535 ht) (by omega) (by omega)
  have c2 : CHp m (setR M1 852 row) := c1.trans (CHp.row (k := 852) (by decide))
  simp only [IsPl] at hPl
  refine ⟨D, setR M1 852 row, ⟨_, _, _, _, _, _, C.chp c2⟩, fun a ha => c2.hi ha, fun Q => ?_⟩
  simp (disch := omega) only [sX6_planned_0, sX6_planned_1, sX6_planned_4, sX6_planned_5, sX6_planned_8, sX6_planned_11, sX6_planned_12, sX6_planned_15, sX6_planned_16, sX6_planned_18, sX6_planned_21, hA, hPl, true_and, and_true, true_or, or_true, eq_self, ↓reduceIte, if_true, if_false, nI_add, nI_mul, inB_nI, nI_clamp, Nat.add_zero, eqI, ltI, leI, m6_ne, ne_m6, Nat.reduceEqDiff, reduceCtorEq, Nat.reduceLT, Nat.reduceLeDiff, Nat.reduceAdd, Nat.reduceMul, Nat.zero_add, Nat.mul_zero, nar_0, nar_1, nar_b, bI_t, bI_f, bI_0, bI_1, Bool.true_eq_false, Bool.false_eq_true, Bool.and_self, Bool.and_false, Bool.false_and, Bool.true_and, Bool.and_true, and_self, la, ms]
theorem o_ifAway (C0 : CK D m f nF nT L ch) {i : Nat} (hi : i < nF) : Op MX6_ifAway [.ref 1, .int (nI i)] D m z (nI (behF (fun g t => !(g == i) && ablN f nF nT g t) nF 0 (fun _ => true))) f nF nT L ch := by
  obtain ⟨H, r, h, s, b0, b1, C⟩ := C0
  have hA := C.1.1
  have hPl := C.1.2.2.2.1
  simp only [IsMM] at hA
  obtain ⟨c0, q1, q2, q3, hF⟩ := C.rd
  have h8 := hF.1.2.1
  have hf := fun Q => x_hasFixer (D := D) (m := m) (z := z) (Q := Q) q3 q2 hF (x := nI i)
  rw [q1, inR_nI hi (by omega)] at hf
  have a1 := q3.1.1
  obtain ⟨M1, c1, h3, hC, la⟩ := x_lookAt (D := D) (z := z) hPl q3 (by decide) (show Blk m 2 c0 from q1) q2 hF
  have h3' : up2 M1 850 i (nI 0) 849 3 = nI nF := by rw [up2_ne (by decide)]; exact h3
  have hC' : ∀ j, j < nF → SB (up2 M1 850 i (nI 0) 850 j) (fun t => !(j == i) && ablN f nF nT j t) := by
    intro j hj
    rw [up2_eq]
    by_cases e : j = i
    · subst e
      rw [upd_eq]
      exact SB.zero.ext (fun t _ => by rw [beq_self_eq_true]; rfl)
    · rw [upd_ne _ _ e]
      exact (hC j hj).ext (fun t _ => by rw [beq_eq_false_iff_ne.mpr e]; rfl)
  obtain ⟨row, ms⟩ := x_served (D := D) (m := up2 M1 850 i (nI 0)) (z := z) (S := fun _ => true) (th := nI 65535) (a := 0) (A := fun g t => !(g == i) && ablN f nF nT g t) hPl h3' hC' (fun t ht => sel65535 ht) (by omega) (by omega)
  have c2 : CHp m (setR (up2 M1 850 i (nI 0)) 852 row) := (c1.trans (by rw [up2_R]; exact CHp.row (k := 850) (by decide))).trans (CHp.row (k := 852) (by decide))
  simp only [IsPl] at hPl
  refine ⟨D, _, ⟨_, _, _, _, _, _, C.chp c2⟩, fun a ha => c2.hi ha, fun Q => ?_⟩
  simp (disch := omega) only [sX6_ifAway_0, sX6_ifAway_1, sX6_ifAway_4, sX6_ifAway_5, sX6_ifAway_8, sX6_ifAway_11, sX6_ifAway_12, sX6_ifAway_13, sX6_ifAway_14, sX6_ifAway_17, sX6_ifAway_18, sX6_ifAway_21, sX6_ifAway_24, sX6_ifAway_25, sX6_ifAway_28, sX6_ifAway_31, sX6_ifAway_32, sX6_ifAway_33, sX6_ifAway_34, sX6_ifAway_35, sX6_ifAway_38, sX6_ifAway_39, sX6_ifAway_41, sX6_ifAway_44, hA, hPl, a1, true_and, and_true, true_or, or_true, eq_self, ↓reduceIte, if_true, if_false, nI_add, nI_mul, inB_nI, nI_clamp, Nat.add_zero, eqI, ltI, leI, m6_ne, ne_m6, Nat.reduceEqDiff, reduceCtorEq, Nat.reduceLT, Nat.reduceLeDiff, Nat.reduceAdd, Nat.reduceMul, Nat.zero_add, Nat.mul_zero, nar_0, nar_1, nar_b, bI_t, bI_f, bI_0, bI_1, Bool.true_eq_false, Bool.false_eq_true, Bool.and_self, Bool.and_false, Bool.false_and, Bool.true_and, Bool.and_true, and_self, hf, la, ms, Nat.one_ne_zero]
theorem o_bestSkill (C0 : CK D m f nF nT L ch) {w N : Nat} (hN : N = 6) (hw : w < 2) : Op MX6_bestSkill [.ref 1, .int (nI w), vJ, vJ, vJ, vJ] D m z (if w = 0 then (bsF f nF nT N).1 else (bsF f nF nT N).2) f nF nT L ch := by
  obtain ⟨H, r, h, s, b0, b1, C⟩ := C0
  have hA := C.1.1
  have hPl := C.1.2.2.2.1
  obtain ⟨c0, q1, q2, q3, hF⟩ := C.rd
  have o1 := fun (m : vMM) Q => x_outside (D := D) (m := m) (z := z) (v := nI w) (a := nI 0) (b := nI 1) (Q := Q)
  rw [inR4 _ (by decide), inR_nI hw (by decide)] at o1
  obtain ⟨M1, c1, lb⟩ := l_bestSkillX (D := D) (z := z) (N := N) hA hPl q3 q2 hF hN hw N 0 m (nI 0) vJ (by omega) (show Blk m 2 c0 from q1) (Or.inl rfl)
  rw [show (bsF f nF nT 0).2 = m1 from rfl] at lb
  refine ⟨D, M1, ⟨_, _, _, _, _, _, C.chp c1⟩, fun a ha => c1.hi ha, fun Q => ?_⟩
  simp (disch := omega) only [sX6_bestSkill_0, sX6_bestSkill_1, sX6_bestSkill_2, sX6_bestSkill_3, sX6_bestSkill_6, sX6_bestSkill_9, sX6_bestSkill_11, sX6_bestSkill_12, sX6_bestSkill_13, sX6_bestSkill_14, sX6_bestSkill_15, sX6_bestSkill_16, sX6_bestSkill_17, true_and, and_true, true_or, or_true, eq_self, ↓reduceIte, if_true, if_false, nI_add, nI_mul, inB_nI, nI_clamp, Nat.add_zero, eqI, ltI, leI, m6_ne, ne_m6, Nat.reduceEqDiff, reduceCtorEq, Nat.reduceLT, Nat.reduceLeDiff, Nat.reduceAdd, Nat.reduceMul, Nat.zero_add, Nat.mul_zero, nar_0, nar_1, nar_b, bI_t, bI_f, bI_0, bI_1, Bool.true_eq_false, Bool.false_eq_true, Bool.and_self, Bool.and_false, Bool.false_and, Bool.true_and, Bool.and_true, and_self, o1, Bool.not_true, lb]
theorem o_ifPassed (C0 : CK D m f nF nT L ch) {k w : Nat} (hk1 : 1 ≤ k) (hk2 : k ≤ 200) (hw : w < 3) : Op MX6_ifPassed [.ref 1, .int (nI k), .int (nI w)] D m z (if w = 0 then nI (cntS (slotsF k f) (nI 2) nT) - nI (cntS f (nI 2) nT) else if w = 1 then nI (cntS (slotsF k f) (nI 3) nT) - nI (cntS f (nI 3) nT) else gG (slotsF k f) 5 - gG f 5) f nF nT L ch := by
  obtain ⟨H, r, h, s, b0, b1, C⟩ := C0
  have hA := C.1.1
  have hB := C.1.2.1.2.1
  have hF := C.2.2.1
  simp only [IsMM] at hA
  have o1 := fun (m : vMM) Q => x_outside (D := D) (m := m) (z := z) (v := nI k) (a := nI 1) (b := nI 200) (Q := Q)
  have o2 := fun (m : vMM) Q => x_outside (D := D) (m := m) (z := z) (v := nI w) (a := nI 0) (b := nI 2) (Q := Q)
  rw [inR4 _ (by decide), inR_nI hw (by decide)] at o2
  rw [bt_nI (by decide) (by omega) (by decide), decide_eq_true hk1, decide_eq_true hk2] at o1
  obtain ⟨c, q2, ct⟩ := C.try (z := z)
  obtain ⟨c1, r1, cp⟩ := ct m (by obtain ⟨c', e⟩ := bM_rB m 78; exact ⟨c', e.symm⟩)
  obtain ⟨c2, r3, lp⟩ := x_letPass (D := D) (m := m) (z := z) hB r1 hF (n := k) (by omega)
  have w3 := hF.slots k
  have t1 := fun h Q => x_thingsIn (D := D) (m := m) (z := z) (Q := Q) hB r3 w3 (h := h)
  have t2 := fun h Q => now_ti (z := z) C c2 h Q
  have e1 : ∀ a, 853 ≤ a → bM m 78 c2 a = m a := fun a ha => bM_o (by omega)
  have b1' := hB.1.1
  have a1 := C.1.2.1.1.1.1
  refine ⟨D, bM m 78 c2, ⟨_, _, _, _, _, _, C.tr c2⟩, e1, fun Q => ?_⟩
  rcases (by omega : w = 0 ∨ w = 1 ∨ w = 2) with rfl | rfl | rfl
  · simp (disch := omega) only [sX6_ifPassed_0, sX6_ifPassed_1, sX6_ifPassed_2, sX6_ifPassed_5, sX6_ifPassed_8, sX6_ifPassed_11, sX6_ifPassed_12, sX6_ifPassed_13, sX6_ifPassed_14, sX6_ifPassed_17, sX6_ifPassed_20, sX6_ifPassed_22, sX6_ifPassed_23, sX6_ifPassed_24, sX6_ifPassed_27, sX6_ifPassed_28, sX6_ifPassed_31, sX6_ifPassed_34, sX6_ifPassed_35, sX6_ifPassed_38, sX6_ifPassed_39, sX6_ifPassed_42, sX6_ifPassed_43, sX6_ifPassed_68, sX6_ifPassed_69, sX6_ifPassed_72, sX6_ifPassed_73, sX6_ifPassed_76, sX6_ifPassed_77, sX6_ifPassed_80, sX6_ifPassed_81, sX6_ifPassed_84, sX6_ifPassed_85, sX6_ifPassed_86, sX6_ifPassed_87, sX6_ifPassed_90, sX6_ifPassed_91, sX6_ifPassed_94, sX6_ifPassed_95, sX6_ifPassed_98, sX6_ifPassed_99, sX6_ifPassed_102, sX6_ifPassed_103, sX6_ifPassed_104, sX6_ifPassed_105, sX6_ifPassed_108, sX6_ifPassed_111, sX6_ifPassed_112, sX6_ifPassed_115, sX6_ifPassed_118, sX6_ifPassed_119, hA, b1', a1, true_and, and_true, true_or, or_true, eq_self, ↓reduceIte, if_true, if_false, nI_add, nI_mul, inB_nI, nI_clamp, Nat.add_zero, eqI, ltI, leI, m6_ne, ne_m6, Nat.reduceEqDiff, reduceCtorEq, Nat.reduceLT, Nat.reduceLeDiff, Nat.reduceAdd, Nat.reduceMul, Nat.zero_add, Nat.mul_zero, nar_0, nar_1, nar_b, bI_t, bI_f, bI_0, bI_1, Bool.true_eq_false, Bool.false_eq_true, Bool.and_self, Bool.and_false, Bool.false_and, Bool.true_and, Bool.and_true, and_self, o1, o2, Bool.not_true, cp, lp, t1, t2, Nat.one_ne_zero]
  · simp (disch := omega) only [sX6_ifPassed_0, sX6_ifPassed_1, sX6_ifPassed_2, sX6_ifPassed_5, sX6_ifPassed_8, sX6_ifPassed_11, sX6_ifPassed_12, sX6_ifPassed_13, sX6_ifPassed_14, sX6_ifPassed_17, sX6_ifPassed_20, sX6_ifPassed_22, sX6_ifPassed_23, sX6_ifPassed_24, sX6_ifPassed_27, sX6_ifPassed_28, sX6_ifPassed_31, sX6_ifPassed_34, sX6_ifPassed_35, sX6_ifPassed_38, sX6_ifPassed_39, sX6_ifPassed_42, sX6_ifPassed_43, sX6_ifPassed_68, sX6_ifPassed_69, sX6_ifPassed_72, sX6_ifPassed_73, sX6_ifPassed_76, sX6_ifPassed_77, sX6_ifPassed_80, sX6_ifPassed_81, sX6_ifPassed_84, sX6_ifPassed_85, sX6_ifPassed_86, sX6_ifPassed_87, sX6_ifPassed_90, sX6_ifPassed_91, sX6_ifPassed_94, sX6_ifPassed_95, sX6_ifPassed_98, sX6_ifPassed_99, sX6_ifPassed_102, sX6_ifPassed_103, sX6_ifPassed_104, sX6_ifPassed_105, sX6_ifPassed_108, sX6_ifPassed_111, sX6_ifPassed_112, sX6_ifPassed_115, sX6_ifPassed_118, sX6_ifPassed_119, hA, b1', a1, true_and, and_true, true_or, or_true, eq_self, ↓reduceIte, if_true, if_false, nI_add, nI_mul, inB_nI, nI_clamp, Nat.add_zero, eqI, ltI, leI, m6_ne, ne_m6, Nat.reduceEqDiff, reduceCtorEq, Nat.reduceLT, Nat.reduceLeDiff, Nat.reduceAdd, Nat.reduceMul, Nat.zero_add, Nat.mul_zero, nar_0, nar_1, nar_b, bI_t, bI_f, bI_0, bI_1, Bool.true_eq_false, Bool.false_eq_true, Bool.and_self, Bool.and_false, Bool.false_and, Bool.true_and, Bool.and_true, and_self, o1, o2, Bool.not_true, cp, lp, t1, t2, Nat.one_ne_zero]
  · have g1 : bM m 78 c2 78 8 = gG (slotsF k f) 5 := b_fld.trans (r3.1 5 (by decide))
    have g2 : bM m 78 c2 2 8 = gG f 5 := by
      obtain ⟨c0, q1, q2, q3, -⟩ := (C.tr c2).rd
      rw [← q1]
      exact b_fld.trans (q2.1 5 (by decide))
    simp (disch := omega) only [sX6_ifPassed_0, sX6_ifPassed_1, sX6_ifPassed_2, sX6_ifPassed_5, sX6_ifPassed_8, sX6_ifPassed_11, sX6_ifPassed_12, sX6_ifPassed_13, sX6_ifPassed_14, sX6_ifPassed_17, sX6_ifPassed_20, sX6_ifPassed_22, sX6_ifPassed_23, sX6_ifPassed_24, sX6_ifPassed_27, sX6_ifPassed_28, sX6_ifPassed_31, sX6_ifPassed_34, sX6_ifPassed_35, sX6_ifPassed_38, sX6_ifPassed_39, sX6_ifPassed_42, sX6_ifPassed_43, sX6_ifPassed_68, sX6_ifPassed_69, sX6_ifPassed_72, sX6_ifPassed_73, sX6_ifPassed_76, sX6_ifPassed_77, sX6_ifPassed_80, sX6_ifPassed_81, sX6_ifPassed_84, sX6_ifPassed_85, sX6_ifPassed_86, sX6_ifPassed_87, sX6_ifPassed_90, sX6_ifPassed_91, sX6_ifPassed_94, sX6_ifPassed_95, sX6_ifPassed_98, sX6_ifPassed_99, sX6_ifPassed_102, sX6_ifPassed_103, sX6_ifPassed_104, sX6_ifPassed_105, sX6_ifPassed_108, sX6_ifPassed_111, sX6_ifPassed_112, sX6_ifPassed_115, sX6_ifPassed_118, sX6_ifPassed_119, hA, b1', a1, true_and, and_true, true_or, or_true, eq_self, ↓reduceIte, if_true, if_false, nI_add, nI_mul, inB_nI, nI_clamp, Nat.add_zero, eqI, ltI, leI, m6_ne, ne_m6, Nat.reduceEqDiff, reduceCtorEq, Nat.reduceLT, Nat.reduceLeDiff, Nat.reduceAdd, Nat.reduceMul, Nat.zero_add, Nat.mul_zero, nar_0, nar_1, nar_b, bI_t, bI_f, bI_0, bI_1, Bool.true_eq_false, Bool.false_eq_true, Bool.and_self, Bool.and_false, Bool.false_and, Bool.true_and, Bool.and_true, and_self, o1, o2, Bool.not_true, cp, lp, g1, g2, Nat.one_ne_zero, (by decide : ¬ (2 : Nat) = 0), (by decide : ¬ (2 : Nat) = 1)]
theorem o_untilOver (C0 : CK D m f nF nT L ch) {N : Nat} (hN : N = 500) : Op MX6_untilOver [.ref 1, vJ] D m z (uF nT N 0 f).1 f nF nT L ch := by
  obtain ⟨H, r, h, s, b0, b1, C⟩ := C0
  have hA := C.1.1
  have hB := C.1.2.1.2.1
  have hF := C.2.2.1
  obtain ⟨c, q2, ct⟩ := C.try (z := z)
  obtain ⟨c1, r1, cp⟩ := ct m (by obtain ⟨c', e⟩ := bM_rB m 78; exact ⟨c', e.symm⟩)
  obtain ⟨c2, lu⟩ := l_untilX (f := f) (D := D) (m := m) (z := z) hA hB (N := N) hN N 0 f c1 (by omega) hF r1
  have e1 : ∀ a, 853 ≤ a → bM m 78 c2 a = m a := fun a ha => bM_o (by omega)
  simp only [IsMM] at hA
  refine ⟨D, bM m 78 c2, ⟨_, _, _, _, _, _, C.tr c2⟩, e1, fun Q => ?_⟩
  simp (disch := omega) only [sX6_untilOver_0, sX6_untilOver_1, sX6_untilOver_4, sX6_untilOver_5, sX6_untilOver_8, sX6_untilOver_11, sX6_untilOver_12, hA, hB.1.1, true_and, and_true, true_or, or_true, eq_self, ↓reduceIte, if_true, if_false, nI_add, nI_mul, inB_nI, nI_clamp, Nat.add_zero, eqI, ltI, leI, m6_ne, ne_m6, Nat.reduceEqDiff, reduceCtorEq, Nat.reduceLT, Nat.reduceLeDiff, Nat.reduceAdd, Nat.reduceMul, Nat.zero_add, Nat.mul_zero, nar_0, nar_1, nar_b, bI_t, bI_f, bI_0, bI_1, Bool.true_eq_false, Bool.false_eq_true, Bool.and_self, Bool.and_false, Bool.false_and, Bool.true_and, Bool.and_true, and_self, cp, lu]
theorem o_bestPart (C0 : CK D m f nF nT L ch) {w N : Nat} (hN : N = 500) (hw : w < 2) : Op MX6_bestPart [.ref 1, .int (nI w), vJ, vJ, vJ, vJ] D m z (if w = 0 then (bpF N f 4).1 else (bpF N f 4).2) f nF nT L ch := by
  obtain ⟨H, r, h, s, b0, b1, C⟩ := C0
  have o1 := fun (m : vMM) Q => x_outside (D := D) (m := m) (z := z) (v := nI w) (a := nI 0) (b := nI 1) (Q := Q)
  rw [inR4 _ (by decide), inR_nI hw (by decide)] at o1
  obtain ⟨c0, e0⟩ := bM_rB m 78
  obtain ⟨c2, lb⟩ := l_bestPartX (D := D) (z := z) C hN hw 4 0 c0 (nI 0) vJ (by decide) (Or.inl rfl)
  rw [e0, show (bpF N f 0).2 = m1 from rfl] at lb
  have e1 : ∀ a, 853 ≤ a → bM m 78 c2 a = m a := fun a ha => bM_o (by omega)
  refine ⟨D, bM m 78 c2, ⟨_, _, _, _, _, _, C.tr c2⟩, e1, fun Q => ?_⟩
  simp (disch := omega) only [sX6_bestPart_0, sX6_bestPart_1, sX6_bestPart_2, sX6_bestPart_3, sX6_bestPart_6, sX6_bestPart_9, sX6_bestPart_11, sX6_bestPart_12, sX6_bestPart_13, sX6_bestPart_14, sX6_bestPart_15, sX6_bestPart_16, sX6_bestPart_17, true_and, and_true, true_or, or_true, eq_self, ↓reduceIte, if_true, if_false, nI_add, nI_mul, inB_nI, nI_clamp, Nat.add_zero, eqI, ltI, leI, m6_ne, ne_m6, Nat.reduceEqDiff, reduceCtorEq, Nat.reduceLT, Nat.reduceLeDiff, Nat.reduceAdd, Nat.reduceMul, Nat.zero_add, Nat.mul_zero, nar_0, nar_1, nar_b, bI_t, bI_f, bI_0, bI_1, Bool.true_eq_false, Bool.false_eq_true, Bool.and_self, Bool.and_false, Bool.false_and, Bool.true_and, Bool.and_true, and_self, o1, Bool.not_true, lb]
/-! texts: the pad as a list of signs -/
def chL (l : List Nat) : Nat → Nat := fun q => (l[q]?).getD 0
def CKl (D : vDD) (m : vMM) (f : Nat → Int32) (nF nT : Nat) (l : List Nat) : Prop := CK D m f nF nT l.length (chL l)
theorem CK.chg {ch' : Nat → Nat} (C0 : CK D m f nF nT L ch) (e : ∀ j, j < L → ch' j = ch j) : CK D m f nF nT L ch' := by
  obtain ⟨H, r, h, s, b0, b1, C⟩ := C0
  obtain ⟨h1, h2, h3, ⟨p1, p2, p3⟩, h5⟩ := C
  exact ⟨H, r, h, s, b0, b1, h1, h2, h3, ⟨p1, p2, fun j hj => by rw [e j hj]; exact p3 j hj⟩, h5⟩
theorem putN1 {c : Nat} (h1 : 33 ≤ c) (h2 : c ≤ 126) : putN c = 1 ∧ byN c 0 = c := by
  have : ∀ c : Fin 127, 33 ≤ c.1 → putN c.1 = 1 ∧ byN c.1 0 = c.1 := by decide +kernel
  exact this ⟨c, by omega⟩ h1
theorem o_put (C0 : CK D m f nF nT L ch) {c : Nat} (h1 : 33 ≤ c) (h2 : c ≤ 126) (hL : L < 60) : Op MX6_put [.ref 1, .long (uL c), vJ, vJ] D m z (nI (L + 1)) f nF nT (L + 1) (fun q => if q = L then c else ch q) := by
  obtain ⟨H, r, h, s, b0, b1, C⟩ := C0
  have hA := C.1.1
  have hP := C.1.2.2.1
  have hm := C.2.2.2.1
  simp only [IsMM] at hA
  obtain ⟨p1, p2⟩ := putN1 h1 h2
  have hn : c < 2 ^ 64 := by omega
  have sg := fun Q => x_signsIn (D := D) (m := m) (z := z) (Q := Q) hn
  have d1 := hP.1.1
  have l1 := hm.1
  have h0 : putN c ≠ 0 := by omega
  have hL1 : L + putN c ≤ 60 := by omega
  have ap := fun Q => x_append (D := D) (m := m) (z := z) (Q := Q) hP hn l1 h0 hL1
  have C1 : ClS D H (pdM m L (putN c) c (putN c)) f nF nT r (L + putN c) h s b0 b1 (apC c (putN c) L (putN c) ch) := C.pad (fun a ha => by unfold pdM; rw [setR_ne (by omega), setR_ne (by omega)]) (hm.put hL1)
  have e1 : ∀ a, 853 ≤ a → pdM m L (putN c) c (putN c) a = m a := fun a ha => by unfold pdM; rw [setR_ne (by omega), setR_ne (by omega)]
  have ec : apC c (putN c) L (putN c) ch = fun q => if q = L then c else ch q := by
    funext q
    unfold apC
    rw [p1]
    by_cases e : q = L
    · rw [if_pos (by omega), if_pos e, (by omega : 1 - 1 - (q - L) = 0), p2]
    · rw [if_neg (by omega), if_neg e]
  have h2' := pdM_2 (m := m) (L := L) (n := c) (s := putN c) (j := putN c)
  rw [ec] at C1
  rw [p1] at sg ap C1 hL1 e1 h2'
  refine ⟨D, pdM m L 1 c 1, ⟨_, _, _, _, _, _, C1⟩, e1, fun Q => ?_⟩
  have hL2 : ¬ 60 < L + 1 := by omega
  simp (disch := omega) only [sX6_put_0, sX6_put_1, sX6_put_4, sX6_put_5, sX6_put_6, sX6_put_9, sX6_put_11, sX6_put_12, sX6_put_13, sX6_put_16, sX6_put_19, sX6_put_20, sX6_put_21, sX6_put_23, sX6_put_26, sX6_put_28, sX6_put_29, sX6_put_30, sX6_put_33, sX6_put_34, sX6_put_35, sX6_put_38, sX6_put_39, sX6_put_42, sX6_put_45, hA, d1, true_and, and_true, true_or, or_true, eq_self, ↓reduceIte, if_true, if_false, nI_add, nI_mul, inB_nI, nI_clamp, Nat.add_zero, eqI, ltI, leI, m6_ne, ne_m6, Nat.reduceEqDiff, reduceCtorEq, Nat.reduceLT, Nat.reduceLeDiff, Nat.reduceAdd, Nat.reduceMul, Nat.zero_add, Nat.mul_zero, nar_0, nar_1, nar_b, bI_t, bI_f, bI_0, bI_1, Bool.true_eq_false, Bool.false_eq_true, Bool.and_self, Bool.and_false, Bool.false_and, Bool.true_and, Bool.and_true, and_self, sg, l1, hL1, hL2, ap, h2', Nat.one_ne_zero]
theorem o_putl {l : List Nat} (C0 : CKl D m f nF nT l) {c : Nat} (h1 : 33 ≤ c) (h2 : c ≤ 126) (hL : l.length < 60) : ∃ D1 m1, CKl D1 m1 f nF nT (l ++ [c]) ∧ (∀ a, 853 ≤ a → m1 a = m a) ∧ ∀ Q, Runs MX6_put 0 [.ref 1, .long (uL c), vJ, vJ] [] D m z Q = Q (.int (nI (l.length + 1))) D1 m1 z := by
  obtain ⟨D1, m1, C1, e, y⟩ := o_put (z := z) C0 h1 h2 hL
  refine ⟨D1, m1, ?_, e, y⟩
  unfold CKl
  rw [List.length_append]
  refine CK.chg C1 (fun j hj => ?_)
  have hj : j < l.length + 1 := hj
  unfold chL
  by_cases e : j = l.length
  · rw [if_pos e, e, List.getElem?_append_right (Nat.le_refl _), Nat.sub_self]
    rfl
  · rw [if_neg e, List.getElem?_append_left (by omega)]
theorem o_wipe (C0 : CK D m f nF nT L ch) : Op MX6_wipe [.ref 1, vJ] D m z (nI L) f nF nT 0 ch := by
  obtain ⟨H, r, h, s, b0, b1, C⟩ := C0
  have hA := C.1.1
  have hP := C.1.2.2.1
  have hm := C.2.2.2.1
  simp only [IsMM] at hA
  have d1 := hP.1.1
  have l1 := hm.1
  have e1 : ∀ a, 853 ≤ a → up2 m 766 2 (nI 0) a = m a := fun a ha => up2_ne (by omega)
  have C1 : ClS D H (up2 m 766 2 (nI 0)) f nF nT r 0 h s b0 b1 ch := C.pad (fun a ha => up2_ne (by omega)) ⟨by rw [up2_eq, upd_eq], by decide, fun j hj => absurd hj (Nat.not_lt_zero j)⟩
  refine ⟨D, up2 m 766 2 (nI 0), ⟨_, _, _, _, _, _, C1⟩, e1, fun Q => ?_⟩
  simp (disch := omega) only [sX6_wipe_0, sX6_wipe_1, sX6_wipe_4, sX6_wipe_7, sX6_wipe_8, sX6_wipe_9, sX6_wipe_12, sX6_wipe_13, sX6_wipe_16, sX6_wipe_17, hA, d1, true_and, and_true, true_or, or_true, eq_self, ↓reduceIte, if_true, if_false, nI_add, nI_mul, inB_nI, nI_clamp, Nat.add_zero, eqI, ltI, leI, m6_ne, ne_m6, Nat.reduceEqDiff, reduceCtorEq, Nat.reduceLT, Nat.reduceLeDiff, Nat.reduceAdd, Nat.reduceMul, Nat.zero_add, Nat.mul_zero, nar_0, nar_1, nar_b, bI_t, bI_f, bI_0, bI_1, Bool.true_eq_false, Bool.false_eq_true, Bool.and_self, Bool.and_false, Bool.false_and, Bool.true_and, Bool.and_true, and_self, l1]
theorem ff_one {T T1 : Nat → Int32} {k : Nat} {w : Int32} (h : thR ch L 0 T = (true, L, k, w, T1)) : ffR ch L (L + 1) 0 T = m6 := by
  unfold ffR
  rw [h]
  simp only [if_true]
theorem br_one {T T1 : Nat → Int32} {k t : Nat} {w : Int32} (h : thR ch L 0 T = (true, L, k, w, T1)) (hL : 1 ≤ L) : brF ch L (L + 1) 0 t T f = newF f t k w T1 := by
  have e2 : nxP ch L L = L := by
    unfold nxP
    rw [if_neg]
    intro q
    have := isB_lt q
    omega
  have hn : ¬ L ≤ 0 := by omega
  unfold brF
  rw [if_neg hn, h]
  simp only [e2]
  obtain ⟨n, rfl⟩ : ∃ n, L = n + 1 := ⟨L - 1, by omega⟩
  unfold brF
  rw [if_pos (Nat.le_refl _)]
theorem o_fault (C0 : CK D m f nF nT L ch) {T T1 : Nat → Int32} {k : Nat} {w : Int32} (h : thR ch L 0 T = (true, L, k, w, T1)) : Op MX6_fault [.ref 1] D m z m6 f nF nT L ch := by
  obtain ⟨H, r, h', s, b0, b1, C⟩ := C0
  have hA := C.1.1
  have hP := C.1.2.2.1
  have hm := C.2.2.2.1
  simp only [IsMM] at hA
  obtain ⟨D', M1, de, f1, f2, -, rt⟩ := x_readThings (z := z) hP hm T
  have e1 : ∀ a, 853 ≤ a → M1 a = m a := fun a ha => f1 a (by omega) (by omega)
  have C1 : ClS D' H M1 f nF nT r L h' s b0 b1 ch := (C.cong (fun a _ h1 h2 => f1 a h2 (by omega)) f2).de de
  rw [ff_one h] at rt
  refine ⟨D', M1, ⟨_, _, _, _, _, _, C1⟩, e1, fun Q => ?_⟩
  simp (disch := omega) only [sX6_fault_0, sX6_fault_1, sX6_fault_4, sX6_fault_7, hA, hP.1.1, true_and, and_true, true_or, or_true, eq_self, ↓reduceIte, if_true, if_false, nI_add, nI_mul, inB_nI, nI_clamp, Nat.add_zero, eqI, ltI, leI, m6_ne, ne_m6, Nat.reduceEqDiff, reduceCtorEq, Nat.reduceLT, Nat.reduceLeDiff, Nat.reduceAdd, Nat.reduceMul, Nat.zero_add, Nat.mul_zero, nar_0, nar_1, nar_b, bI_t, bI_f, bI_0, bI_1, Bool.true_eq_false, Bool.false_eq_true, Bool.and_self, Bool.and_false, Bool.false_and, Bool.true_and, Bool.and_true, and_self, rt]
theorem o_bring (C0 : CK D m f nF nT L ch) {T T1 : Nat → Int32} {k : Nat} {w : Int32} (h : thR ch L 0 T = (true, L, k, w, T1)) (hs0 : smN ch L = 0) (hn : nT < 16) : Op MX6_bring [.ref 1, vJ] D m z (nI (nT + 1)) (newF f nT k w T1) nF (nT + 1) 0 ch := by
  obtain ⟨H, r, h', s, b0, b1, C⟩ := C0
  have hA := C.1.1
  have hP := C.1.2.2.1
  have hm := C.2.2.2.1
  have hF := C.2.2.1
  have h16 := hF.1.2.2.2
  simp only [IsMM] at hA
  obtain ⟨D1, M1, de, f1, f2, f3, rt⟩ := x_readThings (z := z) hP hm T
  have e1 : ∀ a, 853 ≤ a → M1 a = m a := fun a ha => f1 a (by omega) (by omega)
  have C1 : ClS D1 H M1 f nF nT r L h' s b0 b1 ch := (C.cong (fun a _ h1 h2 => f1 a h2 (by omega)) f2).de de
  have hA1 := C1.1.1
  have hP1 := C1.1.2.2.1
  have h60 := hm.2.1
  simp only [IsMM] at hA1
  have hf := ff_one h
  obtain ⟨g1, g2, g3⟩ := f3 hf
  obtain ⟨c0, q1, q2, q3, -⟩ := C1.rd
  have g4 : M1 2 4 = nI nT := by rw [← q1, b_nT]; exact (q2.1 3 (by decide)).trans hF.1.2.2.1
  rw [hf] at rt
  have hs : nT + (1 + smN ch L) ≤ 16 := by omega
  obtain ⟨c, D2, H2, m', k1, k2, k3, k4, k5, k6⟩ := C1.kp2 (z := z)
  have hA2 := k4.1
  have hP2 := k4.2.2.1
  have hR0 : RdB ch L (L + 1) 0 (smN ch 0) T m' := RdB_cong (fun a ha => k3 a (by omega)) _ _ _ _ (g3 T)
  obtain ⟨c2, r2, la⟩ := l_addThings (D := D2) (m := m') (z := z) (ch := ch) (L := L) (nF := nF) hA2 hP2 k4.2.1.1 h60 (by rw [k3 766 (by decide)]; exact g1) g2 (L + 1) 0 nT T f c (by omega) hf (Nat.zero_le _) hR0 k2 hF (by simp only [smN]; omega)
  have e3 : nT + 1 + smN ch L - smN ch 0 = nT + (1 + smN ch L) := by simp only [smN]; omega
  have hle := thR_le (ch := ch) (L := L) (p := 0) (T := T) (Nat.zero_le _)
  have hok := thR_ok (ch := ch) (L := L) (p := 0) (T := T) (Nat.zero_le _) (by rw [h])
  rw [h] at hle hok
  have w2 : WF (newF f nT k w T1) nF (nT + 1) := hF.nwF hn hle.2.2.1 hle.2.2.2.1 hok
  rw [e3, hs0, Nat.add_zero, br_one h (by omega)] at r2
  rw [hs0, Nat.add_zero] at la g1
  have C2 : ClS D2 H2 (up2 (bM m' 2 c2) 766 2 (nI 0)) (newF f nT k w T1) nF (nT + 1) (min r 5 + 1) 0 (histP h' r f) s b0 b1 ch := (k6 c2 _ _ _ r2 w2).pad (fun a ha => up2_ne (by omega)) ⟨by rw [up2_eq, upd_eq], by decide, fun j hj => absurd hj (Nat.not_lt_zero j)⟩
  have g5 : up2 (bM m' 2 c2) 766 2 (nI 0) 2 4 = nI (nT + 1) := by
    rw [up2_ne (by decide), b_nT]
    exact (r2.1 3 (by decide)).trans w2.1.2.2.1
  have d2 := hP2.1.1
  have d1 := hP1.1.1
  have bb := q3.1.1
  have bb2 := k4.2.1.1.1.1
  have hs2 : nT ≤ 15 := by omega
  simp only [IsMM] at hA2
  have la : ∀ Q, Runs MX6_bring 51 [.ref 1, .int (nI 0)] [] D2 (bM m' 2 c) z Q = _ := la
  refine ⟨D2, _, ⟨_, _, _, _, _, _, C2⟩, fun a ha => by rw [up2_ne (by omega), bM_o (by omega), k3 a (by omega), e1 a ha], fun Q => ?_⟩
  simp (disch := omega) only [sX6_bring_0, sX6_bring_1, sX6_bring_4, sX6_bring_7, sX6_bring_9, sX6_bring_12, sX6_bring_14, sX6_bring_15, sX6_bring_16, sX6_bring_19, sX6_bring_22, sX6_bring_23, sX6_bring_26, sX6_bring_29, sX6_bring_30, sX6_bring_32, sX6_bring_35, sX6_bring_37, sX6_bring_38, sX6_bring_39, sX6_bring_42, sX6_bring_43, sX6_bring_46, sX6_bring_49, sX6_bring_50, sX6_bring_84, sX6_bring_85, sX6_bring_88, sX6_bring_89, sX6_bring_92, sX6_bring_93, sX6_bring_96, sX6_bring_99, hA, hA1, hA2, hP.1.1, d1, d2, bb, bb2, true_and, and_true, true_or, or_true, eq_self, ↓reduceIte, if_true, if_false, nI_add, nI_mul, inB_nI, nI_clamp, Nat.add_zero, eqI, ltI, leI, m6_ne, ne_m6, Nat.reduceEqDiff, reduceCtorEq, Nat.reduceLT, Nat.reduceLeDiff, Nat.reduceAdd, Nat.reduceMul, Nat.zero_add, Nat.mul_zero, nar_0, nar_1, nar_b, bI_t, bI_f, bI_0, bI_1, Bool.true_eq_false, Bool.false_eq_true, Bool.and_self, Bool.and_false, Bool.false_and, Bool.true_and, Bool.and_true, and_self, rt, g4, g1, hs2, k5, la, g5]
end OPC
