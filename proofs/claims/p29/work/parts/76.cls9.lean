/-! the class's calls, for this law: what they answer, what they leave -/
def CK (D : vDD) (m : vMM) (f : Nat → Int32) (nF nT L : Nat) (ch : Nat → Nat) : Prop := ∃ H r h s b0 b1, ClS D H m f nF nT r L h s b0 b1 ch
def Op (y : vMD) (as : List Value) (D : vDD) (m : vMM) (z : vZZ) (v : Int32) (f : Nat → Int32) (nF nT L : Nat) (ch : Nat → Nat) : Prop := ∃ D1 m1, CK D1 m1 f nF nT L ch ∧ (∀ a, 853 ≤ a → m1 a = m a) ∧ ∀ Q, Runs y 0 as [] D m z Q = Q (.int v) D1 m1 z
section OPA
variable {D : vDD} {m : vMM} {z : vZZ} {f : Nat → Int32} {nF nT L : Nat} {ch : Nat → Nat}
theorem CK.wf (C0 : CK D m f nF nT L ch) : WF f nF nT := by
  obtain ⟨H, r, h, s, b0, b1, C⟩ := C0
  exact C.2.2.1
theorem CK.k6 (C0 : CK D m f nF nT L ch) : (D 1).1 = 6 := by
  obtain ⟨H, r, h, s, b0, b1, C⟩ := C0
  exact C.1.1.1.1
theorem CK.fr (C0 : CK D m f nF nT L ch) {m' : vMM} (e : ∀ a, a < 853 → m' a = m a) : CK D m' f nF nT L ch := by
  obtain ⟨H, r, h, s, b0, b1, C⟩ := C0
  exact ⟨H, r, h, s, b0, b1, C.frM e⟩
theorem CK.extf (C0 : CK D m f nF nT L ch) {g : Nat → Int32} (e : ∀ k, k < 346 → g k = f k) : CK D m g nF nT L ch := by
  obtain ⟨H, r, h, s, b0, b1, C⟩ := C0
  exact ⟨H, r, h, s, b0, b1, C.extf e⟩
theorem o_set (C0 : CK D m f nF nT L ch) {w : Nat} {y : Int32} (hw : w < 2) (hs : setOK (nI w) y = true) : Op MX6_set [.ref 1, .int (nI w), .int y, vJ] D m z (gG f w) (sG f w y) nF nT L ch := by
  obtain ⟨H, r, h, s, b0, b1, C⟩ := C0
  have hA := C.1.1
  simp only [IsMM] at hA
  have o1 := fun (m : vMM) Q => x_outside (D := D) (m := m) (z := z) (v := y) (a := nI 1) (b := nI 50) (Q := Q)
  have o2 := fun (m : vMM) Q => x_outside (D := D) (m := m) (z := z) (v := y) (a := nI 1) (b := nI 9) (Q := Q)
  obtain ⟨c, D', H', m', k1, k2, k3, k4, k5, k6⟩ := C.kp (z := z)
  have hB' := k4.1
  simp only [IsMM] at hB'
  have hb := k4.2.1.1.1
  have hF := C.2.2.1
  have e1 : ∀ c2 a, 853 ≤ a → bM m' 2 c2 a = m a := fun c2 a ha => by rw [bM_o (by omega), k3 a ha]
  unfold setOK at hs
  rcases (by omega : w = 0 ∨ w = 1) with rfl | rfl
  · rw [if_pos rfl] at hs
    rw [hs] at o1
    have hv : ∃ p, 1 ≤ p ∧ p ≤ 50 ∧ y = nI p := by
      simp only [Bool.and_eq_true, decide_eq_true_eq] at hs
      rcases i32_cases y with ⟨k, hk, rfl⟩ | hn
      · rw [leI _ _ (by decide) hk, leI _ _ hk (by decide)] at hs
        exact ⟨k, hs.1, hs.2, rfl⟩
      · exact absurd (Int32.lt_of_le_of_lt hs.1 hn) (by decide +kernel)
    have C1 := k6 _ _ _ _ (k2.G (k := 0) (v := y) (by decide) hF.1.2.1 hF.1.2.2.2) (WF_pat hF hv)
    have e0 := k2.1 0 (by decide)
    refine ⟨D', bM m' 2 (sG c 0 y), ⟨_, _, _, _, _, _, C1⟩, e1 _, fun Q => ?_⟩
    simp (disch := omega) only [sX6_set_0, sX6_set_1, sX6_set_4, sX6_set_5, sX6_set_6, sX6_set_8, sX6_set_11, sX6_set_14, sX6_set_16, sX6_set_17, sX6_set_18, sX6_set_21, sX6_set_22, sX6_set_25, sX6_set_28, sX6_set_29, sX6_set_32, sX6_set_35, sX6_set_36, sX6_set_37, sX6_set_40, sX6_set_41, sX6_set_44, sX6_set_45, sX6_set_46, sX6_set_47, sX6_set_48, sX6_set_51, sX6_set_52, sX6_set_53, sX6_set_55, sX6_set_58, sX6_set_61, sX6_set_63, sX6_set_64, sX6_set_65, sX6_set_68, sX6_set_69, sX6_set_72, sX6_set_75, sX6_set_76, sX6_set_79, sX6_set_82, sX6_set_83, sX6_set_84, sX6_set_87, sX6_set_88, sX6_set_91, sX6_set_92, hA, hB', hb, true_and, and_true, true_or, or_true, eq_self, ↓reduceIte, if_true, if_false, nI_add, nI_mul, inB_nI, nI_clamp, Nat.add_zero, eqI, ltI, leI, m6_ne, ne_m6, Nat.reduceEqDiff, reduceCtorEq, Nat.reduceLT, Nat.reduceLeDiff, Nat.reduceAdd, Nat.reduceMul, Nat.zero_add, Nat.mul_zero, nar_0, nar_1, nar_b, bI_t, bI_f, bI_0, bI_1, Bool.true_eq_false, Bool.false_eq_true, Bool.and_self, Bool.and_false, Bool.false_and, Bool.true_and, Bool.and_true, and_self, o1, Bool.not_true, k5, b_pat, w_pat, e0]
  · rw [if_neg (nI_ne (by decide) (by decide) (by decide)), if_pos rfl] at hs
    rw [hs] at o2
    have C1 := k6 _ _ _ _ (k2.G (k := 1) (v := y) (by decide) hF.1.2.1 hF.1.2.2.2) (hF.sG y (by decide))
    have e0 := k2.1 1 (by decide)
    refine ⟨D', bM m' 2 (sG c 1 y), ⟨_, _, _, _, _, _, C1⟩, e1 _, fun Q => ?_⟩
    simp (disch := omega) only [sX6_set_0, sX6_set_1, sX6_set_4, sX6_set_5, sX6_set_6, sX6_set_8, sX6_set_11, sX6_set_14, sX6_set_16, sX6_set_17, sX6_set_18, sX6_set_21, sX6_set_22, sX6_set_25, sX6_set_28, sX6_set_29, sX6_set_32, sX6_set_35, sX6_set_36, sX6_set_37, sX6_set_40, sX6_set_41, sX6_set_44, sX6_set_45, sX6_set_46, sX6_set_47, sX6_set_48, sX6_set_51, sX6_set_52, sX6_set_53, sX6_set_55, sX6_set_58, sX6_set_61, sX6_set_63, sX6_set_64, sX6_set_65, sX6_set_68, sX6_set_69, sX6_set_72, sX6_set_75, sX6_set_76, sX6_set_79, sX6_set_82, sX6_set_83, sX6_set_84, sX6_set_87, sX6_set_88, sX6_set_91, sX6_set_92, hA, hB', hb, true_and, and_true, true_or, or_true, eq_self, ↓reduceIte, if_true, if_false, nI_add, nI_mul, inB_nI, nI_clamp, Nat.add_zero, eqI, ltI, leI, m6_ne, ne_m6, Nat.reduceEqDiff, reduceCtorEq, Nat.reduceLT, Nat.reduceLeDiff, Nat.reduceAdd, Nat.reduceMul, Nat.zero_add, Nat.mul_zero, nar_0, nar_1, nar_b, bI_t, bI_f, bI_0, bI_1, Bool.true_eq_false, Bool.false_eq_true, Bool.and_self, Bool.and_false, Bool.false_and, Bool.true_and, Bool.and_true, and_self, o2, Bool.not_true, k5, b_tst, w_tst, e0, Nat.one_ne_zero]
theorem o_come (C0 : CK D m f nF nT L ch) {x y : Int32} (h1 : (decide (nI 1 ≤ x) && decide (x ≤ nI 63)) = true) (h2 : (decide (nI 1 ≤ y) && decide (y ≤ nI 3)) = true) (hn : nF < 8) : Op MX6_come [.ref 1, .int x, .int y] D m z (nI nF) (cameF f nF x y) (nF + 1) nT L ch := by
  obtain ⟨H, r, h, s, b0, b1, C⟩ := C0
  have hA := C.1.1
  simp only [IsMM] at hA
  have o1 := fun (m : vMM) Q => x_outside (D := D) (m := m) (z := z) (v := x) (a := nI 1) (b := nI 63) (Q := Q)
  have o2 := fun (m : vMM) Q => x_outside (D := D) (m := m) (z := z) (v := y) (a := nI 1) (b := nI 3) (Q := Q)
  rw [h1] at o1
  rw [h2] at o2
  obtain ⟨c0, q1, q2, q3, hF⟩ := C.rd
  have g2 : m 2 3 = nI nF := by rw [← q1, b_nF]; exact (q2.1 2 (by decide)).trans hF.1.1
  have hb0 := q3.1.1
  obtain ⟨c, D', H', m', k1, k2, k3, k4, k5, k6⟩ := C.kp (z := z)
  have hB' := k4.1
  simp only [IsMM] at hB'
  have hn' : ¬ 8 ≤ nF := by omega
  have e1 : ∀ c2 a, 853 ≤ a → bM m' 2 c2 a = m a := fun c2 a ha => by rw [bM_o (by omega), k3 a ha]
  have C1 := k6 _ _ _ _ (k2.came hn hF.1.2.2.2 (sk := x) (sp := y)) (hF.came hn)
  have xa := fun Q => x_addFixer (D := D') (m := m') (z := z) (Q := Q) (c := c) (sk := x) (sp := y) k4.2.1.1 ((k2.1 2 (by decide)).trans hF.1.1) hn
  refine ⟨D', bM m' 2 (cameF c nF x y), ⟨_, _, _, _, _, _, C1⟩, e1 _, fun Q => ?_⟩
  simp (disch := omega) only [sX6_come_0, sX6_come_1, sX6_come_2, sX6_come_4, sX6_come_7, sX6_come_10, sX6_come_11, sX6_come_12, sX6_come_13, sX6_come_16, sX6_come_19, sX6_come_21, sX6_come_22, sX6_come_23, sX6_come_26, sX6_come_29, sX6_come_31, sX6_come_34, sX6_come_36, sX6_come_37, sX6_come_38, sX6_come_41, sX6_come_42, sX6_come_45, sX6_come_48, sX6_come_49, sX6_come_52, sX6_come_53, sX6_come_54, sX6_come_57, hA, hB', hb0, k4.2.1.1.1.1, true_and, and_true, true_or, or_true, eq_self, ↓reduceIte, if_true, if_false, nI_add, nI_mul, inB_nI, nI_clamp, Nat.add_zero, eqI, ltI, leI, m6_ne, ne_m6, Nat.reduceEqDiff, reduceCtorEq, Nat.reduceLT, Nat.reduceLeDiff, Nat.reduceAdd, Nat.reduceMul, Nat.zero_add, Nat.mul_zero, nar_0, nar_1, nar_b, bI_t, bI_f, bI_0, bI_1, Bool.true_eq_false, Bool.false_eq_true, Bool.and_self, Bool.and_false, Bool.false_and, Bool.true_and, Bool.and_true, and_self, o1, o2, Bool.not_true, g2, hn, hn', k5, xa]
theorem o_away (C0 : CK D m f nF nT L ch) {i : Nat} {b b' : Bool} (hi : i < nF) (hb' : gF f i 2 = bI b') : if b' = b then Op MX6_away [.ref 1, .int (nI i), .int (bI b), vJ] D m z (thoseF (sF f i 2 (bI (!b'))) nF) (sF f i 2 (bI (!b'))) nF nT L ch else Op MX6_away [.ref 1, .int (nI i), .int (bI b), vJ] D m z m5 f nF nT L ch := by
  obtain ⟨H, r, h, s, b0, b1, C⟩ := C0
  have hA := C.1.1
  simp only [IsMM] at hA
  obtain ⟨c0, q1, q2, q3, hF⟩ := C.rd
  have h8 := hF.1.2.1
  have hf := fun Q => x_hasFixer (D := D) (m := m) (z := z) (Q := Q) q3 q2 hF (x := nI i)
  rw [q1, inR_nI hi (by omega)] at hf
  obtain ⟨⟨a1, a2, a3, a4⟩, ⟨a5, a6, -⟩, a11, a12, -⟩ := id q3
  have a11 := a11 i (by omega)
  have a12 := a12 i (by omega)
  have gi : m (2 + 4 + i) 2 = gF f i 2 := by rw [← q1, b_F (by omega) (by decide)]; exact q2.2.1 i hi 2 (by decide)
  rw [hb'] at gi
  by_cases hbb : b' = b
  · rw [if_pos hbb]
    subst hbb
    obtain ⟨c, D', H', m', k1, k2, k3, k4, k5, k6⟩ := C.kp (z := z)
    have hB' := k4.1
    simp only [IsMM] at hB'
    have e1 : ∀ c2 a, 853 ≤ a → bM m' 2 c2 a = m a := fun c2 a ha => by rw [bM_o (by omega), k3 a ha]
    have r2 := k2.F (i := i) (k := 2) (v := bI (!b')) (by omega) (by decide) h8
    have w2 : WF (sF f i 2 (bI (!b'))) nF nT := hF.there hi (by cases b' <;> simp [bI])
    have C1 := k6 _ _ _ _ r2 w2
    have ft := fun Q => x_fixersThere (D := D') (m := m') (z := z) (Q := Q) k4.2.1.1 r2 w2
    obtain ⟨⟨d1, d2, d3, d4⟩, ⟨d5, d6, -⟩, d11, d12, -⟩ := id k4.2.1.1
    have d12 := d12 i (by omega)
    refine ⟨D', bM m' 2 (sF c i 2 (bI (!b'))), ⟨_, _, _, _, _, _, C1⟩, e1 _, fun Q => ?_⟩
    cases b'
    · simp (disch := omega) only [Bool.not_false, bI_t, bI_f] at gi ft ⊢
      simp (disch := omega) only [sX6_away_0, sX6_away_1, sX6_away_4, sX6_away_5, sX6_away_8, sX6_away_11, sX6_away_12, sX6_away_13, sX6_away_14, sX6_away_17, sX6_away_20, sX6_away_21, sX6_away_22, sX6_away_23, sX6_away_24, sX6_away_27, sX6_away_28, sX6_away_31, sX6_away_33, sX6_away_34, sX6_away_35, sX6_away_38, sX6_away_39, sX6_away_42, sX6_away_45, sX6_away_46, sX6_away_47, sX6_away_50, sX6_away_51, sX6_away_54, sX6_away_55, sX6_away_58, sX6_away_59, sX6_away_62, sX6_away_65, hA, hB', a1, a2, a5, a6, a11, a12, d1, d12, true_and, and_true, true_or, or_true, eq_self, ↓reduceIte, if_true, if_false, nI_add, nI_mul, inB_nI, nI_clamp, Nat.add_zero, eqI, ltI, leI, m6_ne, ne_m6, Nat.reduceEqDiff, reduceCtorEq, Nat.reduceLT, Nat.reduceLeDiff, Nat.reduceAdd, Nat.reduceMul, Nat.zero_add, Nat.mul_zero, nar_0, nar_1, nar_b, bI_t, bI_f, bI_0, bI_1, Bool.true_eq_false, Bool.false_eq_true, Bool.and_self, Bool.and_false, Bool.false_and, Bool.true_and, Bool.and_true, and_self, hf, gi, k5, w_F, ft, or_true]
    · simp (disch := omega) only [Bool.not_true, bI_t, bI_f] at gi ft ⊢
      simp (disch := omega) only [sX6_away_0, sX6_away_1, sX6_away_4, sX6_away_5, sX6_away_8, sX6_away_11, sX6_away_12, sX6_away_13, sX6_away_14, sX6_away_17, sX6_away_20, sX6_away_21, sX6_away_22, sX6_away_23, sX6_away_24, sX6_away_27, sX6_away_28, sX6_away_31, sX6_away_33, sX6_away_34, sX6_away_35, sX6_away_38, sX6_away_39, sX6_away_42, sX6_away_45, sX6_away_46, sX6_away_47, sX6_away_50, sX6_away_51, sX6_away_54, sX6_away_55, sX6_away_58, sX6_away_59, sX6_away_62, sX6_away_65, hA, hB', a1, a2, a5, a6, a11, a12, d1, d12, true_and, and_true, true_or, or_true, eq_self, ↓reduceIte, if_true, if_false, nI_add, nI_mul, inB_nI, nI_clamp, Nat.add_zero, eqI, ltI, leI, m6_ne, ne_m6, Nat.reduceEqDiff, reduceCtorEq, Nat.reduceLT, Nat.reduceLeDiff, Nat.reduceAdd, Nat.reduceMul, Nat.zero_add, Nat.mul_zero, nar_0, nar_1, nar_b, bI_t, bI_f, bI_0, bI_1, Bool.true_eq_false, Bool.false_eq_true, Bool.and_self, Bool.and_false, Bool.false_and, Bool.true_and, Bool.and_true, and_self, hf, gi, k5, w_F, ft, true_or, Nat.one_ne_zero]
  · rw [if_neg hbb]
    have hnb : b' = !b := by cases b' <;> cases b <;> simp_all
    refine ⟨D, m, ⟨H, r, h, s, b0, b1, C⟩, fun _ _ => rfl, fun Q => ?_⟩
    subst hnb
    cases b
    · simp (disch := omega) only [Bool.not_false, bI_t, bI_f] at gi ⊢
      simp (disch := omega) only [sX6_away_0, sX6_away_1, sX6_away_4, sX6_away_5, sX6_away_8, sX6_away_11, sX6_away_12, sX6_away_13, sX6_away_14, sX6_away_17, sX6_away_20, sX6_away_21, sX6_away_22, sX6_away_23, sX6_away_24, sX6_away_27, sX6_away_28, sX6_away_31, sX6_away_33, sX6_away_34, sX6_away_35, sX6_away_38, sX6_away_39, sX6_away_42, sX6_away_45, sX6_away_46, sX6_away_47, sX6_away_50, sX6_away_51, sX6_away_54, sX6_away_55, sX6_away_58, sX6_away_59, sX6_away_62, sX6_away_65, hA, a1, a2, a5, a6, a11, a12, true_and, and_true, true_or, or_true, eq_self, ↓reduceIte, if_true, if_false, nI_add, nI_mul, inB_nI, nI_clamp, Nat.add_zero, eqI, ltI, leI, m6_ne, ne_m6, Nat.reduceEqDiff, reduceCtorEq, Nat.reduceLT, Nat.reduceLeDiff, Nat.reduceAdd, Nat.reduceMul, Nat.zero_add, Nat.mul_zero, nar_0, nar_1, nar_b, bI_t, bI_f, bI_0, bI_1, Bool.true_eq_false, Bool.false_eq_true, Bool.and_self, Bool.and_false, Bool.false_and, Bool.true_and, Bool.and_true, and_self, hf, gi, Nat.one_ne_zero]
    · simp (disch := omega) only [Bool.not_true, bI_t, bI_f] at gi ⊢
      simp (disch := omega) only [sX6_away_0, sX6_away_1, sX6_away_4, sX6_away_5, sX6_away_8, sX6_away_11, sX6_away_12, sX6_away_13, sX6_away_14, sX6_away_17, sX6_away_20, sX6_away_21, sX6_away_22, sX6_away_23, sX6_away_24, sX6_away_27, sX6_away_28, sX6_away_31, sX6_away_33, sX6_away_34, sX6_away_35, sX6_away_38, sX6_away_39, sX6_away_42, sX6_away_45, sX6_away_46, sX6_away_47, sX6_away_50, sX6_away_51, sX6_away_54, sX6_away_55, sX6_away_58, sX6_away_59, sX6_away_62, sX6_away_65, hA, a1, a2, a5, a6, a11, a12, true_and, and_true, true_or, or_true, eq_self, ↓reduceIte, if_true, if_false, nI_add, nI_mul, inB_nI, nI_clamp, Nat.add_zero, eqI, ltI, leI, m6_ne, ne_m6, Nat.reduceEqDiff, reduceCtorEq, Nat.reduceLT, Nat.reduceLeDiff, Nat.reduceAdd, Nat.reduceMul, Nat.zero_add, Nat.mul_zero, nar_0, nar_1, nar_b, bI_t, bI_f, bI_0, bI_1, Bool.true_eq_false, Bool.false_eq_true, Bool.and_self, Bool.and_false, Bool.false_and, Bool.true_and, Bool.and_true, and_self, hf, gi, Nat.zero_ne_one]
theorem o_stock (C0 : CK D m f nF nT L ch) {k : Nat} {y : Int32} (hk : k < 4) (hy : (decide (nI 1 ≤ y) && decide (y ≤ nI 99)) = true) : if gG f (6 + k) + y ≤ nI 99 then Op MX6_stock [.ref 1, .int (nI k), .int y] D m z (gG f (6 + k) + y) (sG f (6 + k) (gG f (6 + k) + y)) nF nT L ch else Op MX6_stock [.ref 1, .int (nI k), .int y] D m z m4 f nF nT L ch := by
  obtain ⟨H, r, h, s, b0, b1, C⟩ := C0
  have hA := C.1.1
  simp only [IsMM] at hA
  obtain ⟨c0, q1, q2, q3, hF⟩ := C.rd
  obtain ⟨⟨a1, a2, a3, a4⟩, ⟨-, -, -, -, a9, a10⟩, -⟩ := id q3
  have o1 := fun (m : vMM) Q => x_outside (D := D) (m := m) (z := z) (v := nI k) (a := nI 0) (b := nI 3) (Q := Q)
  have o2 := fun (m : vMM) Q => x_outside (D := D) (m := m) (z := z) (v := y) (a := nI 1) (b := nI 99) (Q := Q)
  rw [inR4 _ (by decide), inR_nI (by omega) (by decide)] at o1
  rw [hy] at o2
  have gk : m (2 + 3) k = gG f (6 + k) := by rw [← q1, b_prt hk]; exact q2.1 (6 + k) (by omega)
  simp only [Nat.reduceAdd] at gk a4 a9 a10
  by_cases hs : gG f (6 + k) + y ≤ nI 99
  · rw [if_pos hs]
    obtain ⟨c, D', H', m', k1, k2, k3, k4, k5, k6⟩ := C.kp (z := z)
    have hB' := k4.1
    simp only [IsMM] at hB'
    obtain ⟨⟨d1, d2, d3, d4⟩, ⟨-, -, -, -, d9, d10⟩, -⟩ := id k4.2.1.1
    have e1 : ∀ c2 a, 853 ≤ a → bM m' 2 c2 a = m a := fun c2 a ha => by rw [bM_o (by omega), k3 a ha]
    have r2 := k2.G (k := 6 + k) (v := gG f (6 + k) + y) (by omega) hF.1.2.1 hF.1.2.2.2
    have C1 := k6 _ _ _ _ r2 (hF.sG _ (by omega))
    have ec := k2.1 (6 + k) (by omega)
    have p1 : bM m' 2 c 5 k = gG c (6 + k) := b_prt (b := 2) hk
    have p2 : ∀ c x, up2 (bM m' 2 c) 5 k x = bM m' 2 (sG c (6 + k) x) := fun c x => w_prt (b := 2) hk
    have p3 : ∀ v, bM m' 2 (sG c (6 + k) v) 5 k = v := fun v => (b_prt (b := 2) hk).trans gG_sG
    simp only [Nat.reduceAdd] at d4 d9 d10
    refine ⟨D', bM m' 2 (sG c (6 + k) (gG f (6 + k) + y)), ⟨_, _, _, _, _, _, C1⟩, e1 _, fun Q => ?_⟩
    simp (disch := omega) only [sX6_stock_0, sX6_stock_1, sX6_stock_2, sX6_stock_3, sX6_stock_6, sX6_stock_9, sX6_stock_10, sX6_stock_11, sX6_stock_12, sX6_stock_13, sX6_stock_15, sX6_stock_18, sX6_stock_21, sX6_stock_23, sX6_stock_24, sX6_stock_25, sX6_stock_28, sX6_stock_31, sX6_stock_32, sX6_stock_33, sX6_stock_34, sX6_stock_35, sX6_stock_37, sX6_stock_40, sX6_stock_42, sX6_stock_43, sX6_stock_44, sX6_stock_47, sX6_stock_48, sX6_stock_51, sX6_stock_54, sX6_stock_55, sX6_stock_58, sX6_stock_61, sX6_stock_62, sX6_stock_63, sX6_stock_64, sX6_stock_65, sX6_stock_66, sX6_stock_67, sX6_stock_68, sX6_stock_71, sX6_stock_74, sX6_stock_75, sX6_stock_76, hA, hB', a1, a4, a9, a10, d1, d4, d9, d10, true_and, and_true, true_or, or_true, eq_self, ↓reduceIte, if_true, if_false, nI_add, nI_mul, inB_nI, nI_clamp, Nat.add_zero, eqI, ltI, leI, m6_ne, ne_m6, Nat.reduceEqDiff, reduceCtorEq, Nat.reduceLT, Nat.reduceLeDiff, Nat.reduceAdd, Nat.reduceMul, Nat.zero_add, Nat.mul_zero, nar_0, nar_1, nar_b, bI_t, bI_f, bI_0, bI_1, Bool.true_eq_false, Bool.false_eq_true, Bool.and_self, Bool.and_false, Bool.false_and, Bool.true_and, Bool.and_true, and_self, o1, o2, Bool.not_true, gk, hs, k5, p1, ec, p2, p3]
  · rw [if_neg hs]
    refine ⟨D, m, ⟨H, r, h, s, b0, b1, C⟩, fun _ _ => rfl, fun Q => ?_⟩
    simp (disch := omega) only [sX6_stock_0, sX6_stock_1, sX6_stock_2, sX6_stock_3, sX6_stock_6, sX6_stock_9, sX6_stock_10, sX6_stock_11, sX6_stock_12, sX6_stock_13, sX6_stock_15, sX6_stock_18, sX6_stock_21, sX6_stock_23, sX6_stock_24, sX6_stock_25, sX6_stock_28, sX6_stock_31, sX6_stock_32, sX6_stock_33, sX6_stock_34, sX6_stock_35, sX6_stock_37, sX6_stock_40, sX6_stock_42, sX6_stock_43, sX6_stock_44, sX6_stock_47, sX6_stock_48, sX6_stock_51, sX6_stock_54, sX6_stock_55, sX6_stock_58, sX6_stock_61, sX6_stock_62, sX6_stock_63, sX6_stock_64, sX6_stock_65, sX6_stock_66, sX6_stock_67, sX6_stock_68, sX6_stock_71, sX6_stock_74, sX6_stock_75, sX6_stock_76, hA, a1, a4, a9, a10, true_and, and_true, true_or, or_true, eq_self, ↓reduceIte, if_true, if_false, nI_add, nI_mul, inB_nI, nI_clamp, Nat.add_zero, eqI, ltI, leI, m6_ne, ne_m6, Nat.reduceEqDiff, reduceCtorEq, Nat.reduceLT, Nat.reduceLeDiff, Nat.reduceAdd, Nat.reduceMul, Nat.zero_add, Nat.mul_zero, nar_0, nar_1, nar_b, bI_t, bI_f, bI_0, bI_1, Bool.true_eq_false, Bool.false_eq_true, Bool.and_self, Bool.and_false, Bool.false_and, Bool.true_and, Bool.and_true, and_self, o1, o2, Bool.not_true, gk, hs]
theorem o_again (C0 : CK D m f nF nT L ch) {t : Nat} (ht : t < nT) : if gT f t 0 = nI 3 then Op MX6_again [.ref 1, .int (nI t), vJ] D m z (nI (cntS (wA f t) (nI 0) nT)) (wA f t) nF nT L ch else Op MX6_again [.ref 1, .int (nI t), vJ] D m z m5 f nF nT L ch := by
  obtain ⟨H, r, h, s, b0, b1, C⟩ := C0
  have hA := C.1.1
  simp only [IsMM] at hA
  obtain ⟨c0, q1, q2, q3, hF⟩ := C.rd
  have h16 := hF.1.2.2.2
  have hf := fun Q => x_hasThing (D := D) (m := m) (z := z) (Q := Q) q3 q2 hF (x := nI t)
  rw [q1, inR_nI ht (by omega)] at hf
  obtain ⟨⟨a1, a2, a3, a4⟩, ⟨a5, a6, a7, a8, -⟩, a11, a12, a13, a14, -⟩ := id q3
  have a13 := a13 t (by omega)
  have a14 := a14 t (by omega)
  have gi : m (2 + 12 + 4 * t) 5 = gT f t 0 := by rw [← q1, b_T0 (by omega)]; exact (q2.2.2 t ht).1 0 (by decide) (by decide)
  generalize hq : 2 + 12 + 4 * t = q at a13 a14 gi
  by_cases hs : gT f t 0 = nI 3
  · rw [if_pos hs]
    obtain ⟨c, D', H', m', k1, k2, k3, k4, k5, k6⟩ := C.kp (z := z)
    have hB' := k4.1
    simp only [IsMM] at hB'
    have e1 : ∀ c2 a, 853 ≤ a → bM m' 2 c2 a = m a := fun c2 a ha => by rw [bM_o (by omega), k3 a ha]
    have r2 := Rfc_wA k2 (t := t) (by omega) hF.1.2.1 h16
    have w2 : WF (wA f t) nF nT := hF.again ht (by rw [hs]; exact nI_ne (by decide) (by decide) (by decide))
    have C1 := k6 _ _ _ _ r2 w2
    have bw := fun Q => x_becomeWaiting (D := D') (m := m') (z := z) (Q := Q) (c := c) k4.2.1.1 (t := t) (by omega)
    rw [hq] at bw
    have ti := fun Q => x_thingsIn (D := D') (m := m') (z := z) (Q := Q) k4.2.1.1 r2 w2 (h := nI 0)
    have d14 := k4.2.1.1.2.2.2.2.2.1 t (by omega)
    rw [hq] at d14
    rw [hs] at gi
    refine ⟨D', bM m' 2 (wA c t), ⟨_, _, _, _, _, _, C1⟩, e1 _, fun Q => ?_⟩
    simp (disch := omega) only [sX6_again_0, sX6_again_1, sX6_again_4, sX6_again_5, sX6_again_8, sX6_again_11, sX6_again_12, sX6_again_13, sX6_again_14, sX6_again_17, sX6_again_20, sX6_again_21, sX6_again_22, sX6_again_23, sX6_again_24, sX6_again_27, sX6_again_28, sX6_again_31, sX6_again_33, sX6_again_34, sX6_again_35, sX6_again_38, sX6_again_39, sX6_again_42, sX6_again_45, sX6_again_46, sX6_again_49, sX6_again_50, sX6_again_53, sX6_again_54, sX6_again_57, hA, hB', a1, a3, a7, a8, a13, a14, d14, k4.2.1.1.1.1, true_and, and_true, true_or, or_true, eq_self, ↓reduceIte, if_true, if_false, nI_add, nI_mul, inB_nI, nI_clamp, Nat.add_zero, eqI, ltI, leI, m6_ne, ne_m6, Nat.reduceEqDiff, reduceCtorEq, Nat.reduceLT, Nat.reduceLeDiff, Nat.reduceAdd, Nat.reduceMul, Nat.zero_add, Nat.mul_zero, nar_0, nar_1, nar_b, bI_t, bI_f, bI_0, bI_1, Bool.true_eq_false, Bool.false_eq_true, Bool.and_self, Bool.and_false, Bool.false_and, Bool.true_and, Bool.and_true, and_self, hf, gi, k5, bw, ti, Nat.one_ne_zero]
  · rw [if_neg hs]
    refine ⟨D, m, ⟨H, r, h, s, b0, b1, C⟩, fun _ _ => rfl, fun Q => ?_⟩
    simp (disch := omega) only [sX6_again_0, sX6_again_1, sX6_again_4, sX6_again_5, sX6_again_8, sX6_again_11, sX6_again_12, sX6_again_13, sX6_again_14, sX6_again_17, sX6_again_20, sX6_again_21, sX6_again_22, sX6_again_23, sX6_again_24, sX6_again_27, sX6_again_28, sX6_again_31, sX6_again_33, sX6_again_34, sX6_again_35, sX6_again_38, sX6_again_39, sX6_again_42, sX6_again_45, sX6_again_46, sX6_again_49, sX6_again_50, sX6_again_53, sX6_again_54, sX6_again_57, hA, a1, a3, a7, a8, a13, a14, true_and, and_true, true_or, or_true, eq_self, ↓reduceIte, if_true, if_false, nI_add, nI_mul, inB_nI, nI_clamp, Nat.add_zero, eqI, ltI, leI, m6_ne, ne_m6, Nat.reduceEqDiff, reduceCtorEq, Nat.reduceLT, Nat.reduceLeDiff, Nat.reduceAdd, Nat.reduceMul, Nat.zero_add, Nat.mul_zero, nar_0, nar_1, nar_b, bI_t, bI_f, bI_0, bI_1, Bool.true_eq_false, Bool.false_eq_true, Bool.and_self, Bool.and_false, Bool.false_and, Bool.true_and, Bool.and_true, and_self, hf, gi, hs, Nat.one_ne_zero]
theorem o_pass (C0 : CK D m f nF nT L ch) {k : Nat} (h1 : 1 ≤ k) (h2 : k ≤ 200) : Op MX6_pass [.ref 1, .int (nI k), vJ] D m z (nI (cntS (slotsF k f) (nI 2) nT) - nI (cntS f (nI 2) nT)) (slotsF k f) nF nT L ch := by
  obtain ⟨H, r, h, s, b0, b1, C⟩ := C0
  have hA := C.1.1
  simp only [IsMM] at hA
  have o1 := fun (m : vMM) Q => x_outside (D := D) (m := m) (z := z) (v := nI k) (a := nI 1) (b := nI 200) (Q := Q)
  rw [bt_nI (by decide) (by omega) (by decide), decide_eq_true h1, decide_eq_true h2] at o1
  obtain ⟨c, D', H', m', k1, k2, k3, k4, k5, k6⟩ := C.kp (z := z)
  have hB' := k4.1
  simp only [IsMM] at hB'
  have hF := C.2.2.1
  have e1 : ∀ c2 a, 853 ≤ a → bM m' 2 c2 a = m a := fun c2 a ha => by rw [bM_o (by omega), k3 a ha]
  obtain ⟨c', r2, lp⟩ := x_letPass (D := D') (m := m') (z := z) k4.2.1.1 k2 hF (n := k) (by omega)
  have w2 : WF (slotsF k f) nF nT := hF.slots k
  have C1 := k6 _ _ _ _ r2 w2
  have t1 := fun Q => x_thingsIn (D := D') (m := m') (z := z) (Q := Q) k4.2.1.1 k2 hF (h := nI 2)
  have t2 := fun Q => x_thingsIn (D := D') (m := m') (z := z) (Q := Q) k4.2.1.1 r2 w2 (h := nI 2)
  refine ⟨D', bM m' 2 c', ⟨_, _, _, _, _, _, C1⟩, e1 _, fun Q => ?_⟩
  simp (disch := omega) only [sX6_pass_0, sX6_pass_1, sX6_pass_2, sX6_pass_5, sX6_pass_8, sX6_pass_11, sX6_pass_13, sX6_pass_14, sX6_pass_15, sX6_pass_18, sX6_pass_19, sX6_pass_22, sX6_pass_25, sX6_pass_26, sX6_pass_29, sX6_pass_30, sX6_pass_33, sX6_pass_34, sX6_pass_35, sX6_pass_38, sX6_pass_39, sX6_pass_42, sX6_pass_43, sX6_pass_46, sX6_pass_47, sX6_pass_50, sX6_pass_51, sX6_pass_52, hA, hB', k4.2.1.1.1.1, true_and, and_true, true_or, or_true, eq_self, ↓reduceIte, if_true, if_false, nI_add, nI_mul, inB_nI, nI_clamp, Nat.add_zero, eqI, ltI, leI, m6_ne, ne_m6, Nat.reduceEqDiff, reduceCtorEq, Nat.reduceLT, Nat.reduceLeDiff, Nat.reduceAdd, Nat.reduceMul, Nat.zero_add, Nat.mul_zero, nar_0, nar_1, nar_b, bI_t, bI_f, bI_0, bI_1, Bool.true_eq_false, Bool.false_eq_true, Bool.and_self, Bool.and_false, Bool.false_and, Bool.true_and, Bool.and_true, and_self, o1, Bool.not_true, k5, t1, t2, lp]
theorem o_clear (C0 : CK D m f nF nT L ch) : Op MX6_clear [.ref 1, vJ] D m z (gG f 3) (clearF f nF) nF 0 L ch := by
  obtain ⟨H, r, h, s, b0, b1, C⟩ := C0
  have hA := C.1.1
  simp only [IsMM] at hA
  obtain ⟨c, D', H', m', k1, k2, k3, k4, k5, k6⟩ := C.kp (z := z)
  have hB' := k4.1
  simp only [IsMM] at hB'
  have hF := C.2.2.1
  have e1 : ∀ c2 a, 853 ≤ a → bM m' 2 c2 a = m a := fun c2 a ha => by rw [bM_o (by omega), k3 a ha]
  have C1 := k6 _ _ _ _ (k2.clear hF.1.2.1) (WF_clear hF)
  have rm := fun Q => x_removeThings (D := D') (m := m') (z := z) (Q := Q) (c := c) k4.2.1.1 ((k2.1 2 (by decide)).trans hF.1.1) hF.1.2.1
  have e3 := k2.1 3 (by decide)
  refine ⟨D', bM m' 2 (clearF c nF), ⟨_, _, _, _, _, _, C1⟩, e1 _, fun Q => ?_⟩
  simp (disch := omega) only [sX6_clear_0, sX6_clear_1, sX6_clear_4, sX6_clear_5, sX6_clear_8, sX6_clear_11, sX6_clear_12, sX6_clear_15, sX6_clear_18, sX6_clear_19, sX6_clear_20, sX6_clear_23, sX6_clear_26, sX6_clear_27, hA, hB', k4.2.1.1.1.1, true_and, and_true, true_or, or_true, eq_self, ↓reduceIte, if_true, if_false, nI_add, nI_mul, inB_nI, nI_clamp, Nat.add_zero, eqI, ltI, leI, m6_ne, ne_m6, Nat.reduceEqDiff, reduceCtorEq, Nat.reduceLT, Nat.reduceLeDiff, Nat.reduceAdd, Nat.reduceMul, Nat.zero_add, Nat.mul_zero, nar_0, nar_1, nar_b, bI_t, bI_f, bI_0, bI_1, Bool.true_eq_false, Bool.false_eq_true, Bool.and_self, Bool.and_false, Bool.false_and, Bool.true_and, Bool.and_true, and_self, k5, b_nT, e3, rm]
theorem o_giveOut (C0 : CK D m f nF nT L ch) : Op MX6_giveOut [.ref 1, vJ, vJ] D m z (nI (goF (plV (ablN f nF nT) nF) f nF).1) (goF (plV (ablN f nF nT) nF) f nF).2 nF nT L ch := by
  obtain ⟨H, r, h, s, b0, b1, C⟩ := C0
  have hA := C.1.1
  have hF := C.2.2.1
  have h8 := hF.1.2.1
  obtain ⟨c, D', H', m', k1, k2, k3, k4, k5, k6⟩ := C.kp (z := z)
  have hA' := k4.1
  have hPl := k4.2.2.2.1
  obtain ⟨M1, c1, hg, mp⟩ := x_makePlan (D := D') (z := z) hPl k4.2.1.1 (by decide) (Blk.mk (m := m') (b := 2) (c := c)) k2 hF
  have hm1 : bM M1 2 c = M1 := c1.blk Blk.mk (by decide)
  have hG := plV_GO hF
  have hD : ∀ j k u, u < 16 → plV (ablN f nF nT) nF j = nI u → plV (ablN f nF nT) nF (j + 1 + k) = nI u → False := fun j k u hu => plV_dis hu
  obtain ⟨c2, r2, lg⟩ := l_give (D := D') (m := M1) (z := z) hA' hPl k4.2.1.1 hF hG hD hg nF 0 c (by omega) k2
  rw [hm1] at lg
  have w2 := (goF_WF hF hG hD nF h8).1
  have e1 : ∀ a, 853 ≤ a → bM M1 2 c2 a = m a := fun a ha => by rw [bM_o (by omega), c1.hi ha, bM_o (by omega), k3 a ha]
  have C1 := (k6 c2 _ _ _ r2 w2).chp (CHp_bM c1)
  refine ⟨D', bM M1 2 c2, ⟨_, _, _, _, _, _, C1⟩, e1, fun Q => ?_⟩
  simp only [IsMM] at hA hA'
  rw [show (goF (plV (ablN f nF nT) nF) f 0).1 = 0 from rfl] at lg
  simp (disch := omega) only [sX6_giveOut_0, sX6_giveOut_1, sX6_giveOut_4, sX6_giveOut_5, sX6_giveOut_8, sX6_giveOut_11, sX6_giveOut_12, sX6_giveOut_15, sX6_giveOut_16, sX6_giveOut_19, sX6_giveOut_22, sX6_giveOut_23, sX6_giveOut_24, sX6_giveOut_25, hA, hA', hPl.1.1, true_and, and_true, true_or, or_true, eq_self, ↓reduceIte, if_true, if_false, nI_add, nI_mul, inB_nI, nI_clamp, Nat.add_zero, eqI, ltI, leI, m6_ne, ne_m6, Nat.reduceEqDiff, reduceCtorEq, Nat.reduceLT, Nat.reduceLeDiff, Nat.reduceAdd, Nat.reduceMul, Nat.zero_add, Nat.mul_zero, nar_0, nar_1, nar_b, bI_t, bI_f, bI_0, bI_1, Bool.true_eq_false, Bool.false_eq_true, Bool.and_self, Bool.and_false, Bool.false_and, Bool.true_and, Bool.and_true, and_self, k5, mp, lg]
end OPA
