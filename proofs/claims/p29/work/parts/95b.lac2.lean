/-! the law's acts: away, again, clear, giveOut -/
section AC2
variable {D D1 : vDD} {M m m1 : vMM} {f g f' : Nat → Int32} {z : vZZ} {nF nT L N i t k s : Nat} {ch : Nat → Nat} {tu x y ki fx v : Int32}
theorem l_Lw (h5 : nF ≤ 5) (hD : IsL D 853) (g2 : gG g 2 = nI nF) {v15 v16 v19 v20 : Value} : ∀ k j, j + k = nF → ∀ Q, Runs ML_law 786 [.ref 0, .ref 1, .ref 853, .ref 854, .ref 855, .ref 856, .ref 857, .ref 858, .ref 859, .ref 860, .int tu, .int x, .int y, .int ki, .int fx, v15, v16, .int (thoseF g j), .int (nI j), v19, v20] [] D (lM m 853 g) z Q = Runs ML_law 817 [.ref 0, .ref 1, .ref 853, .ref 854, .ref 855, .ref 856, .ref 857, .ref 858, .ref 859, .ref 860, .int tu, .int x, .int y, .int ki, .int fx, v15, v16, .int (thoseF g nF), .int (nI nF), v19, v20] [] D (lM m 853 g) z Q := by
  simp only [IsL, Nat.reduceAdd] at hD
  intro k
  induction k with
  | zero =>
    intro j hj Q
    obtain rfl : j = nF := by omega
    rw [sL_law_786]
    simp (disch := omega) only [sL_law_788, sL_law_789, sL_law_790, sL_law_791, hD, l_q, g2, true_and, and_true, true_or, or_true, eq_self, ↓reduceIte, if_true, if_false, nI_add, nI_mul, inB_nI, nI_clamp, Nat.add_zero, eqI, ltI, leI, m6_ne, ne_m6, Nat.reduceEqDiff, reduceCtorEq, Nat.reduceLT, Nat.reduceLeDiff, Nat.reduceAdd, Nat.reduceMul, Nat.zero_add, Nat.mul_zero, nar_0, nar_1, nar_b, bI_t, bI_f, bI_0, bI_1, Bool.true_eq_false, Bool.false_eq_true, Bool.and_self, Bool.and_false, Bool.false_and, Bool.true_and, Bool.and_true, and_self, Nat.le_refl]
  | succ k ih =>
    intro j hj Q
    have hlt : ¬ nF ≤ j := by omega
    have ih := ih (j + 1) (by omega) Q
    simp only [thoseF] at ih
    rw [sL_law_786]
    simp (disch := omega) only [sL_law_788, sL_law_789, sL_law_790, sL_law_791, sL_law_794, sL_law_796, sL_law_797, sL_law_799, sL_law_801, sL_law_802, sL_law_803, sL_law_804, sL_law_805, sL_law_807, sL_law_808, sL_law_809, sL_law_811, sL_law_814, hD, l_q, g2, q_f, hlt, true_and, and_true, true_or, or_true, eq_self, ↓reduceIte, if_true, if_false, nI_add, nI_mul, inB_nI, nI_clamp, Nat.add_zero, eqI, ltI, leI, m6_ne, ne_m6, Nat.reduceEqDiff, reduceCtorEq, Nat.reduceLT, Nat.reduceLeDiff, Nat.reduceAdd, Nat.reduceMul, Nat.zero_add, Nat.mul_zero, nar_0, nar_1, nar_b, bI_t, bI_f, bI_0, bI_1, Bool.true_eq_false, Bool.false_eq_true, Bool.and_self, Bool.and_false, Bool.false_and, Bool.true_and, Bool.and_true, and_self, ih]
theorem a_away (S : ST D (lM m 853 f) f nF nT L ch N) (hz : 861 ≤ z.1) (h1 : 1 ≤ nF) (hi : i < nF) : ACT 711 D (lM m 853 f) z N tu x y ki (nI i) := by
  intro v15 v16 v17 v18 v19 v20
  obtain ⟨⟨C, hL, hP, hD, h5, h7⟩, hK⟩ := S
  have k6 := C.k6
  have hW := C.wf
  have g2 := hW.1.1
  have l1 := lwN_lt y (n := 2) (by decide)
  have hD' := hD
  simp only [IsL, Nat.reduceAdd] at hD'
  obtain ⟨-, x2⟩ := hW.2.2.2.1 i hi
  have i8 : i < 8 := by omega
  have up_ : ∀ (b' : Bool), gF f i 2 = bI b' → ∃ D1 M1, (ST D1 M1 (sF f i 2 (bI (!b'))) nF nT L ch N) ∧ ∀ Q, Runs MX6_away 0 [.ref 1, .int (nI i), .int (bI b'), vJ] [] D (lM m 853 (sF f i 2 (bI (!b')))) z Q = Q (.int (thoseF (sF f i 2 (bI (!b'))) nF)) D1 M1 z := by
    intro b' hb'
    have C0 : CK D (lM m 853 (sF f i 2 (bI (!b')))) f nF nT L ch := C.fr (fun a ha => by rw [l_o (by omega), l_o (by omega)])
    have O := o_away (z := z) C0 (b := b') hi hb'
    rw [if_pos rfl] at O
    obtain ⟨D1, M1, C1, K1, e1, y1⟩ := op_k hK O hz
    exact ⟨D1, M1, mkST' C1 K1 (LB.up e1) (hP.up (StE.F i8 (by decide)) e1) h5 h7, y1⟩
  have no_ : ∀ (b b' : Bool), ¬ b' = b → gF f i 2 = bI b' → ∃ D1 M1, (ST D1 M1 f nF nT L ch N) ∧ ∀ Q, Runs MX6_away 0 [.ref 1, .int (nI i), .int (bI b), vJ] [] D (lM m 853 f) z Q = Q (.int m5) D1 M1 z := by
    intro b b' hne hb'
    have O := o_away (z := z) C (b := b) hi hb'
    rw [if_neg hne] at O
    obtain ⟨D1, M1, C1, K1, e1, y1⟩ := op_k hK O hz
    exact ⟨D1, M1, mkST' C1 K1 (LB.up e1) (hP.up StE.refl e1) h5 h7, y1⟩
  have gu : ∀ v, gG (sF f i 2 v) 2 = nI nF := fun v => by rw [gG_sF (by decide) i8 (by decide), g2]
  have lw := fun (g : Nat → Int32) (h : gG g 2 = nI nF) (v15 v16 : Value) => l_Lw (m := m) (z := z) (tu := tu) (x := x) (y := y) (ki := ki) (fx := nI i) (v15 := v15) (v16 := v16) (v19 := v19) (v20 := v20) h5 hD h nF 0 (by omega)
  simp only [show ∀ g, thoseF g 0 = nI 0 from fun _ => rfl] at lw
  by_cases h : lwN y 2 = 0 <;> rcases x2 with x2 | x2
  · obtain ⟨D1, M1, S1, y1⟩ := no_ true false (by decide) x2
    have lw := lw f g2
    refine ⟨D1, M1, f, nF, nT, L, ch, .int (nI 1), .int (nI 0), .int (thoseF f nF), .int (nI nF), v19, v20, ⟨S1, h1⟩, fun Q => ?_⟩
    rw [show bI true = nI 1 from rfl] at y1
    simp (disch := omega) only [sL_law_711, sL_law_713, sL_law_714, sL_law_717, sL_law_720, sL_law_721, sL_law_724, sL_law_725, sL_law_727, sL_law_728, sL_law_730, sL_law_732, sL_law_733, sL_law_734, sL_law_735, sL_law_736, sL_law_738, sL_law_741, sL_law_742, sL_law_745, sL_law_746, sL_law_749, sL_law_750, sL_law_753, sL_law_754, sL_law_756, sL_law_757, sL_law_759, sL_law_761, sL_law_764, sL_law_765, sL_law_767, sL_law_769, sL_law_770, sL_law_771, sL_law_772, sL_law_774, sL_law_777, sL_law_778, sL_law_781, sL_law_782, sL_law_783, sL_law_784, hD', y_low, h, q_f, x2, Nat.zero_ne_one, true_and, and_true, true_or, or_true, eq_self, ↓reduceIte, if_true, if_false, nI_add, nI_mul, inB_nI, nI_clamp, Nat.add_zero, eqI, ltI, leI, m6_ne, ne_m6, Nat.reduceEqDiff, reduceCtorEq, Nat.reduceLT, Nat.reduceLeDiff, Nat.reduceAdd, Nat.reduceMul, Nat.zero_add, Nat.mul_zero, nar_0, nar_1, nar_b, bI_t, bI_f, bI_0, bI_1, Bool.true_eq_false, Bool.false_eq_true, Bool.and_self, Bool.and_false, Bool.false_and, Bool.true_and, Bool.and_true, and_self, lw]
    simp (disch := omega) only [sL_law_817, sL_law_818, sL_law_820, sL_law_822, sL_law_825, sL_law_827, sL_law_830, sL_law_832, sL_law_835, sL_law_837, sL_law_840, sL_law_841, sL_law_842, k6, y1, true_and, and_true, true_or, or_true, eq_self, ↓reduceIte, if_true, if_false, nI_add, nI_mul, inB_nI, nI_clamp, Nat.add_zero, eqI, ltI, leI, m6_ne, ne_m6, Nat.reduceEqDiff, reduceCtorEq, Nat.reduceLT, Nat.reduceLeDiff, Nat.reduceAdd, Nat.reduceMul, Nat.zero_add, Nat.mul_zero, nar_0, nar_1, nar_b, bI_t, bI_f, bI_0, bI_1, Bool.true_eq_false, Bool.false_eq_true, Bool.and_self, Bool.and_false, Bool.false_and, Bool.true_and, Bool.and_true, and_self]
  · obtain ⟨D1, M1, S1, y1⟩ := up_ true x2
    rw [show bI true = nI 1 from rfl, show bI (!true) = nI 0 from rfl] at y1
    have lw := lw _ (gu (nI 0))
    refine ⟨D1, M1, _, nF, nT, L, ch, .int (nI 1), .int (nI 1), .int (thoseF (sF f i 2 (nI 0)) nF), .int (nI nF), v19, v20, ⟨S1, h1⟩, fun Q => ?_⟩
    simp (disch := omega) only [sL_law_711, sL_law_713, sL_law_714, sL_law_717, sL_law_720, sL_law_721, sL_law_724, sL_law_725, sL_law_727, sL_law_728, sL_law_730, sL_law_732, sL_law_733, sL_law_734, sL_law_735, sL_law_736, sL_law_738, sL_law_741, sL_law_742, sL_law_745, sL_law_746, sL_law_749, sL_law_750, sL_law_753, sL_law_754, sL_law_756, sL_law_757, sL_law_759, sL_law_761, sL_law_764, sL_law_765, sL_law_767, sL_law_769, sL_law_770, sL_law_771, sL_law_772, sL_law_774, sL_law_777, sL_law_778, sL_law_781, sL_law_782, sL_law_783, sL_law_784, hD', y_low, h, q_f, qw_f, x2, Nat.one_ne_zero, true_and, and_true, true_or, or_true, eq_self, ↓reduceIte, if_true, if_false, nI_add, nI_mul, inB_nI, nI_clamp, Nat.add_zero, eqI, ltI, leI, m6_ne, ne_m6, Nat.reduceEqDiff, reduceCtorEq, Nat.reduceLT, Nat.reduceLeDiff, Nat.reduceAdd, Nat.reduceMul, Nat.zero_add, Nat.mul_zero, nar_0, nar_1, nar_b, bI_t, bI_f, bI_0, bI_1, Bool.true_eq_false, Bool.false_eq_true, Bool.and_self, Bool.and_false, Bool.false_and, Bool.true_and, Bool.and_true, and_self, lw]
    simp (disch := omega) only [sL_law_817, sL_law_818, sL_law_820, sL_law_822, sL_law_825, sL_law_827, sL_law_830, sL_law_832, sL_law_835, sL_law_837, sL_law_840, sL_law_841, sL_law_842, k6, y1, Nat.one_ne_zero, true_and, and_true, true_or, or_true, eq_self, ↓reduceIte, if_true, if_false, nI_add, nI_mul, inB_nI, nI_clamp, Nat.add_zero, eqI, ltI, leI, m6_ne, ne_m6, Nat.reduceEqDiff, reduceCtorEq, Nat.reduceLT, Nat.reduceLeDiff, Nat.reduceAdd, Nat.reduceMul, Nat.zero_add, Nat.mul_zero, nar_0, nar_1, nar_b, bI_t, bI_f, bI_0, bI_1, Bool.true_eq_false, Bool.false_eq_true, Bool.and_self, Bool.and_false, Bool.false_and, Bool.true_and, Bool.and_true, and_self]
  · obtain ⟨D1, M1, S1, y1⟩ := up_ false x2
    rw [show bI false = nI 0 from rfl, show bI (!false) = nI 1 from rfl] at y1
    have lw := lw _ (gu (nI 1))
    refine ⟨D1, M1, _, nF, nT, L, ch, .int (nI 0), .int (nI 1), .int (thoseF (sF f i 2 (nI 1)) nF), .int (nI nF), v19, v20, ⟨S1, h1⟩, fun Q => ?_⟩
    simp (disch := omega) only [sL_law_711, sL_law_713, sL_law_714, sL_law_717, sL_law_720, sL_law_721, sL_law_724, sL_law_725, sL_law_727, sL_law_728, sL_law_730, sL_law_732, sL_law_733, sL_law_734, sL_law_735, sL_law_736, sL_law_738, sL_law_741, sL_law_742, sL_law_745, sL_law_746, sL_law_749, sL_law_750, sL_law_753, sL_law_754, sL_law_756, sL_law_757, sL_law_759, sL_law_761, sL_law_764, sL_law_765, sL_law_767, sL_law_769, sL_law_770, sL_law_771, sL_law_772, sL_law_774, sL_law_777, sL_law_778, sL_law_781, sL_law_782, sL_law_783, sL_law_784, hD', y_low, h, q_f, qw_f, x2, Nat.one_ne_zero, true_and, and_true, true_or, or_true, eq_self, ↓reduceIte, if_true, if_false, nI_add, nI_mul, inB_nI, nI_clamp, Nat.add_zero, eqI, ltI, leI, m6_ne, ne_m6, Nat.reduceEqDiff, reduceCtorEq, Nat.reduceLT, Nat.reduceLeDiff, Nat.reduceAdd, Nat.reduceMul, Nat.zero_add, Nat.mul_zero, nar_0, nar_1, nar_b, bI_t, bI_f, bI_0, bI_1, Bool.true_eq_false, Bool.false_eq_true, Bool.and_self, Bool.and_false, Bool.false_and, Bool.true_and, Bool.and_true, and_self, lw]
    simp (disch := omega) only [sL_law_817, sL_law_818, sL_law_820, sL_law_822, sL_law_825, sL_law_827, sL_law_830, sL_law_832, sL_law_835, sL_law_837, sL_law_840, sL_law_841, sL_law_842, k6, y1, Nat.one_ne_zero, true_and, and_true, true_or, or_true, eq_self, ↓reduceIte, if_true, if_false, nI_add, nI_mul, inB_nI, nI_clamp, Nat.add_zero, eqI, ltI, leI, m6_ne, ne_m6, Nat.reduceEqDiff, reduceCtorEq, Nat.reduceLT, Nat.reduceLeDiff, Nat.reduceAdd, Nat.reduceMul, Nat.zero_add, Nat.mul_zero, nar_0, nar_1, nar_b, bI_t, bI_f, bI_0, bI_1, Bool.true_eq_false, Bool.false_eq_true, Bool.and_self, Bool.and_false, Bool.false_and, Bool.true_and, Bool.and_true, and_self]
  · obtain ⟨D1, M1, S1, y1⟩ := no_ false true (by decide) x2
    have lw := lw f g2
    refine ⟨D1, M1, f, nF, nT, L, ch, .int (nI 0), .int (nI 0), .int (thoseF f nF), .int (nI nF), v19, v20, ⟨S1, h1⟩, fun Q => ?_⟩
    rw [show bI false = nI 0 from rfl] at y1
    simp (disch := omega) only [sL_law_711, sL_law_713, sL_law_714, sL_law_717, sL_law_720, sL_law_721, sL_law_724, sL_law_725, sL_law_727, sL_law_728, sL_law_730, sL_law_732, sL_law_733, sL_law_734, sL_law_735, sL_law_736, sL_law_738, sL_law_741, sL_law_742, sL_law_745, sL_law_746, sL_law_749, sL_law_750, sL_law_753, sL_law_754, sL_law_756, sL_law_757, sL_law_759, sL_law_761, sL_law_764, sL_law_765, sL_law_767, sL_law_769, sL_law_770, sL_law_771, sL_law_772, sL_law_774, sL_law_777, sL_law_778, sL_law_781, sL_law_782, sL_law_783, sL_law_784, hD', y_low, h, q_f, x2, Nat.one_ne_zero, true_and, and_true, true_or, or_true, eq_self, ↓reduceIte, if_true, if_false, nI_add, nI_mul, inB_nI, nI_clamp, Nat.add_zero, eqI, ltI, leI, m6_ne, ne_m6, Nat.reduceEqDiff, reduceCtorEq, Nat.reduceLT, Nat.reduceLeDiff, Nat.reduceAdd, Nat.reduceMul, Nat.zero_add, Nat.mul_zero, nar_0, nar_1, nar_b, bI_t, bI_f, bI_0, bI_1, Bool.true_eq_false, Bool.false_eq_true, Bool.and_self, Bool.and_false, Bool.false_and, Bool.true_and, Bool.and_true, and_self, lw]
    simp (disch := omega) only [sL_law_817, sL_law_818, sL_law_820, sL_law_822, sL_law_825, sL_law_827, sL_law_830, sL_law_832, sL_law_835, sL_law_837, sL_law_840, sL_law_841, sL_law_842, k6, y1, true_and, and_true, true_or, or_true, eq_self, ↓reduceIte, if_true, if_false, nI_add, nI_mul, inB_nI, nI_clamp, Nat.add_zero, eqI, ltI, leI, m6_ne, ne_m6, Nat.reduceEqDiff, reduceCtorEq, Nat.reduceLT, Nat.reduceLeDiff, Nat.reduceAdd, Nat.reduceMul, Nat.zero_add, Nat.mul_zero, nar_0, nar_1, nar_b, bI_t, bI_f, bI_0, bI_1, Bool.true_eq_false, Bool.false_eq_true, Bool.and_self, Bool.and_false, Bool.false_and, Bool.true_and, Bool.and_true, and_self]
theorem a_again (S : ST D (lM m 853 f) f nF nT L ch N) (hz : 861 ≤ z.1) (h1 : 1 ≤ nF) (ht : 0 < nT) : ACT 961 D (lM m 853 f) z N tu x y ki fx := by
  intro v15 v16 v17 v18 v19 v20
  obtain ⟨⟨C, hL, hP, hD, h5, h7⟩, hK⟩ := S
  have k6 := C.k6
  have g3 := C.wf.1.2.2.1
  have l1 := lwN_lt y ht
  have y0 := fun Q => y_low (D := D) (m := lM m 853 f) (z := z) (Q := Q) (v := y) ht (by omega)
  generalize lwN y nT = t at l1 y0
  have hD' := hD
  simp only [IsL, Nat.reduceAdd] at hD'
  by_cases h : gT f t 0 = nI 3
  · have C0 : CK D (lM m 853 (wA f t)) f nF nT L ch := C.fr (fun a ha => by rw [l_o (by omega), l_o (by omega)])
    have O := o_again (z := z) C0 l1
    rw [if_pos h] at O
    obtain ⟨D1, M1, C1, K1, e1, y1⟩ := op_k hK O hz
    have LB1 := LB.up e1
    have ys := fun h Q => y_states (D := D1) (m := M1) (z := z) (Q := Q) (a := 853) K1.2.1 C1.wf h7 (h := h)
    simp only [show lM M1 853 (wA f t) = M1 from LB1, Nat.reduceAdd] at ys
    have ew : sT (sT f t 0 (nI 0)) t 3 (nI 0) = wA f t := rfl
    refine ⟨D1, M1, wA f t, nF, nT, L, ch, .int (nI t), .int (nI 1), v17, v18, v19, v20, ⟨mkST' C1 K1 LB1 (hP.up StE.wA e1) h5 h7, h1⟩, fun Q => ?_⟩
    simp (disch := omega) only [sL_law_961, sL_law_963, sL_law_964, sL_law_965, sL_law_966, sL_law_969, sL_law_971, sL_law_973, sL_law_975, sL_law_977, sL_law_978, sL_law_979, sL_law_980, sL_law_983, sL_law_984, sL_law_987, sL_law_988, sL_law_990, sL_law_992, sL_law_995, sL_law_997, sL_law_999, sL_law_1001, sL_law_1002, sL_law_1003, sL_law_1004, sL_law_1006, sL_law_1008, sL_law_1010, sL_law_1011, sL_law_1012, sL_law_1013, sL_law_1014, sL_law_1015, sL_law_1016, sL_law_1018, sL_law_1021, sL_law_1023, sL_law_1026, sL_law_1027, sL_law_1028, sL_law_1030, sL_law_1033, sL_law_1036, sL_law_1038, sL_law_1041, sL_law_1042, sL_law_1043, hD', l_q, g3, y0, q_t0, q_t, qw_t0, qw_t, h, ew, k6, y1, ys, Nat.one_ne_zero, true_and, and_true, true_or, or_true, eq_self, ↓reduceIte, if_true, if_false, nI_add, nI_mul, inB_nI, nI_clamp, Nat.add_zero, eqI, ltI, leI, m6_ne, ne_m6, Nat.reduceEqDiff, reduceCtorEq, Nat.reduceLT, Nat.reduceLeDiff, Nat.reduceAdd, Nat.reduceMul, Nat.zero_add, Nat.mul_zero, nar_0, nar_1, nar_b, bI_t, bI_f, bI_0, bI_1, Bool.true_eq_false, Bool.false_eq_true, Bool.and_self, Bool.and_false, Bool.false_and, Bool.true_and, Bool.and_true, and_self]
  · have O := o_again (z := z) C l1
    rw [if_neg h] at O
    obtain ⟨D1, M1, C1, K1, e1, y1⟩ := op_k hK O hz
    refine ⟨D1, M1, f, nF, nT, L, ch, .int (nI t), .int (nI 0), v17, v18, v19, v20, ⟨mkST' C1 K1 (LB.up e1) (hP.up StE.refl e1) h5 h7, h1⟩, fun Q => ?_⟩
    simp (disch := omega) only [sL_law_961, sL_law_963, sL_law_964, sL_law_965, sL_law_966, sL_law_969, sL_law_971, sL_law_973, sL_law_975, sL_law_977, sL_law_978, sL_law_979, sL_law_980, sL_law_983, sL_law_984, sL_law_987, sL_law_988, sL_law_990, sL_law_992, sL_law_995, sL_law_997, sL_law_999, sL_law_1001, sL_law_1002, sL_law_1003, sL_law_1004, sL_law_1006, sL_law_1008, sL_law_1010, sL_law_1011, sL_law_1012, sL_law_1013, sL_law_1014, sL_law_1015, sL_law_1016, sL_law_1018, sL_law_1021, sL_law_1023, sL_law_1026, sL_law_1027, sL_law_1028, sL_law_1030, sL_law_1033, sL_law_1036, sL_law_1038, sL_law_1041, sL_law_1042, sL_law_1043, hD', l_q, g3, y0, q_t0, q_t, h, k6, y1, true_and, and_true, true_or, or_true, eq_self, ↓reduceIte, if_true, if_false, nI_add, nI_mul, inB_nI, nI_clamp, Nat.add_zero, eqI, ltI, leI, m6_ne, ne_m6, Nat.reduceEqDiff, reduceCtorEq, Nat.reduceLT, Nat.reduceLeDiff, Nat.reduceAdd, Nat.reduceMul, Nat.zero_add, Nat.mul_zero, nar_0, nar_1, nar_b, bI_t, bI_f, bI_0, bI_1, Bool.true_eq_false, Bool.false_eq_true, Bool.and_self, Bool.and_false, Bool.false_and, Bool.true_and, Bool.and_true, and_self]
theorem clr_g2 : ∀ n, n ≤ 8 → gG (lpF clrF n g) 2 = gG g 2
  | 0, _ => rfl
  | n + 1, h => by
    have ih := clr_g2 n (by omega)
    rw [lpF_s]
    unfold clrF
    rw [gG_sF (by decide) (by omega) (by decide), gG_sF (by decide) (by omega) (by decide)]
    exact ih
theorem l_Lc (h5 : nF ≤ 5) (hD : IsL D 853) (g2 : gG g 2 = nI nF) {v16 v17 v18 v19 v20 : Value} : ∀ k j, j + k = nF → ∀ Q, Runs ML_law 1179 [.ref 0, .ref 1, .ref 853, .ref 854, .ref 855, .ref 856, .ref 857, .ref 858, .ref 859, .ref 860, .int tu, .int x, .int y, .int ki, .int fx, .int (nI j), v16, v17, v18, v19, v20] [] D (lM m 853 (lpF clrF j g)) z Q = Runs ML_law 1271 [.ref 0, .ref 1, .ref 853, .ref 854, .ref 855, .ref 856, .ref 857, .ref 858, .ref 859, .ref 860, .int tu, .int x, .int y, .int ki, .int fx, .int (nI nF), v16, v17, v18, v19, v20] [] D (lM m 853 (lpF clrF nF g)) z Q := by
  simp only [IsL, Nat.reduceAdd] at hD
  intro k
  induction k with
  | zero =>
    intro j hj Q
    obtain rfl : j = nF := by omega
    have e2 := (clr_g2 (g := g) j (by omega)).trans g2
    rw [sL_law_1179]
    simp (disch := omega) only [sL_law_1181, sL_law_1182, sL_law_1183, sL_law_1184, sL_law_1187, sL_law_1188, sL_law_1190, sL_law_1192, sL_law_1193, sL_law_1194, sL_law_1195, sL_law_1197, sL_law_1198, sL_law_1199, sL_law_1201, sL_law_1203, sL_law_1204, sL_law_1205, sL_law_1206, sL_law_1207, sL_law_1208, sL_law_1211, sL_law_1214, hD, l_q, e2, true_and, and_true, true_or, or_true, eq_self, ↓reduceIte, if_true, if_false, nI_add, nI_mul, inB_nI, nI_clamp, Nat.add_zero, eqI, ltI, leI, m6_ne, ne_m6, Nat.reduceEqDiff, reduceCtorEq, Nat.reduceLT, Nat.reduceLeDiff, Nat.reduceAdd, Nat.reduceMul, Nat.zero_add, Nat.mul_zero, nar_0, nar_1, nar_b, bI_t, bI_f, bI_0, bI_1, Bool.true_eq_false, Bool.false_eq_true, Bool.and_self, Bool.and_false, Bool.false_and, Bool.true_and, Bool.and_true, and_self, Nat.le_refl]
  | succ k ih =>
    intro j hj Q
    have hlt : ¬ nF ≤ j := by omega
    have ih := ih (j + 1) (by omega) Q
    have e2 := (clr_g2 (g := g) j (by omega)).trans g2
    rw [lpF_s, show clrF j (lpF clrF j g) = sF (sF (lpF clrF j g) j 3 m6) j 4 (nI 0) from rfl] at ih
    rw [sL_law_1179]
    simp (disch := omega) only [sL_law_1181, sL_law_1182, sL_law_1183, sL_law_1184, sL_law_1187, sL_law_1188, sL_law_1190, sL_law_1192, sL_law_1193, sL_law_1194, sL_law_1195, sL_law_1197, sL_law_1198, sL_law_1199, sL_law_1201, sL_law_1203, sL_law_1204, sL_law_1205, sL_law_1206, sL_law_1207, sL_law_1208, sL_law_1211, hD, l_q, e2, hlt, qw_f, true_and, and_true, true_or, or_true, eq_self, ↓reduceIte, if_true, if_false, nI_add, nI_mul, inB_nI, nI_clamp, Nat.add_zero, eqI, ltI, leI, m6_ne, ne_m6, Nat.reduceEqDiff, reduceCtorEq, Nat.reduceLT, Nat.reduceLeDiff, Nat.reduceAdd, Nat.reduceMul, Nat.zero_add, Nat.mul_zero, nar_0, nar_1, nar_b, bI_t, bI_f, bI_0, bI_1, Bool.true_eq_false, Bool.false_eq_true, Bool.and_self, Bool.and_false, Bool.false_and, Bool.true_and, Bool.and_true, and_self, ih]
theorem a_clear (S : ST D (lM m 853 f) f nF nT L ch N) (hz : 861 ≤ z.1) (h1 : 1 ≤ nF) : ACT 1156 D (lM m 853 f) z N tu x y ki fx := by
  intro v15 v16 v17 v18 v19 v20
  obtain ⟨⟨C, hL, hP, hD, h5, h7⟩, hK⟩ := S
  have k6 := C.k6
  have g3 := C.wf.1.2.2.1
  obtain ⟨D1, M1, C1, K1, e1, y1⟩ := op_k hK (o_clear (z := z) C) hz
  have LB1 := LB.up e1
  have q3 : M1 853 3 = gG f 3 := LB1.rq (by decide)
  have w1 : up2 M1 853 3 (nI 0) = lM M1 853 (sG f 3 (nI 0)) := by
    rw [← lw_q (by omega), show lM M1 853 f = M1 from LB1]
  have g2 : gG (sG (sG f 3 (nI 0)) 4 (nI 0)) 2 = nI nF := by rw [gG_sGk (by decide), gG_sGk (by decide), C.wf.1.1]
  have lc := l_Lc (m := M1) (z := z) (tu := tu) (x := x) (y := y) (ki := ki) (fx := fx) (v16 := v16) (v17 := v17) (v18 := v18) (v19 := v19) (v20 := v20) h5 K1.2.1 g2 nF 0 (by omega)
  rw [lpF_0] at lc
  have hD1 := K1.2.1
  simp only [IsL, Nat.reduceAdd] at hD1
  refine ⟨D1, lM M1 853 (clearF f nF), clearF f nF, nF, 0, L, ch, .int (nI nF), v16, v17, v18, v19, v20, ⟨mkST C1 K1 (fun t ht => absurd ht (Nat.not_lt_zero t)) h5 (by decide), h1⟩, fun Q => ?_⟩
  simp (disch := omega) only [sL_law_1156, sL_law_1157, sL_law_1160, sL_law_1161, sL_law_1162, sL_law_1163, sL_law_1166, sL_law_1167, sL_law_1168, sL_law_1169, sL_law_1170, sL_law_1171, sL_law_1172, sL_law_1173, sL_law_1174, sL_law_1175, sL_law_1176, sL_law_1177, k6, y1, hD1, q3, w1, lw_q, lc, true_and, and_true, true_or, or_true, eq_self, ↓reduceIte, if_true, if_false, nI_add, nI_mul, inB_nI, nI_clamp, Nat.add_zero, eqI, ltI, leI, m6_ne, ne_m6, Nat.reduceEqDiff, reduceCtorEq, Nat.reduceLT, Nat.reduceLeDiff, Nat.reduceAdd, Nat.reduceMul, Nat.zero_add, Nat.mul_zero, nar_0, nar_1, nar_b, bI_t, bI_f, bI_0, bI_1, Bool.true_eq_false, Bool.false_eq_true, Bool.and_self, Bool.and_false, Bool.false_and, Bool.true_and, Bool.and_true, and_self]
  rfl
theorem l_Lg {P : Nat → Int32} (hW : WF f nF nT) (hG : GOk P f nF nT 0) (hDis : ∀ j k u, u < 16 → P j = nI u → P (j + 1 + k) = nI u → False) (h5 : nF ≤ 5) (h7 : nT ≤ 7) (hD : IsL D 853) (h857 : (D 857).1 = 8 ∧ (D 857).2.1 = 8) (hP : Pk m 855 f nT) (hp : ∀ j, j < nF → m 857 j = P j) {v17 v18 v19 v20 : Value} : ∀ k i, i + k = nF → ∀ Q, Runs ML_law 1070 [.ref 0, .ref 1, .ref 853, .ref 854, .ref 855, .ref 856, .ref 857, .ref 858, .ref 859, .ref 860, .int tu, .int x, .int y, .int ki, .int fx, .int (nI (goF P f i).1), .int (nI i), v17, v18, v19, v20] [] D (lM m 853 (goF P f i).2) z Q = Runs ML_law 1126 [.ref 0, .ref 1, .ref 853, .ref 854, .ref 855, .ref 856, .ref 857, .ref 858, .ref 859, .ref 860, .int tu, .int x, .int y, .int ki, .int fx, .int (nI (goF P f nF).1), .int (nI nF), v17, v18, v19, v20] [] D (lM m 853 (goF P f nF).2) z Q := by
  have hD' := hD
  simp only [IsL, Nat.reduceAdd] at hD'
  have r857 : ∀ g, lM m 853 g 857 = m 857 := fun g => l_o (by decide)
  intro k
  induction k with
  | zero =>
    intro i hi Q
    obtain rfl : i = nF := by omega
    have e2 := (goF_WF hW hG hDis i (by omega)).1.1.1
    rw [sL_law_1070]
    simp (disch := omega) only [sL_law_1072, sL_law_1073, sL_law_1074, sL_law_1075, hD', l_q, e2, true_and, and_true, true_or, or_true, eq_self, ↓reduceIte, if_true, if_false, nI_add, nI_mul, inB_nI, nI_clamp, Nat.add_zero, eqI, ltI, leI, m6_ne, ne_m6, Nat.reduceEqDiff, reduceCtorEq, Nat.reduceLT, Nat.reduceLeDiff, Nat.reduceAdd, Nat.reduceMul, Nat.zero_add, Nat.mul_zero, nar_0, nar_1, nar_b, bI_t, bI_f, bI_0, bI_1, Bool.true_eq_false, Bool.false_eq_true, Bool.and_self, Bool.and_false, Bool.false_and, Bool.true_and, Bool.and_true, and_self, Nat.le_refl]
  | succ k ih =>
    intro i hi Q
    have hlt : ¬ nF ≤ i := by omega
    have ih := ih (i + 1) (by omega) Q
    obtain ⟨w1, w2, w3⟩ := goF_WF hW hG hDis i (by omega)
    have st := StE.go hW hG hDis i (by omega)
    have e2 := w1.1.1
    have p0 := hp i (by omega)
    rw [goF_s] at ih
    by_cases h6 : P i = m6
    · rw [if_pos h6] at ih
      rw [h6] at p0
      rw [sL_law_1070]
      simp (disch := omega) only [sL_law_1072, sL_law_1073, sL_law_1074, sL_law_1075, sL_law_1078, sL_law_1080, sL_law_1082, sL_law_1083, sL_law_1086, sL_law_1088, sL_law_1090, sL_law_1091, sL_law_1092, sL_law_1094, sL_law_1097, sL_law_1100, sL_law_1103, sL_law_1105, sL_law_1107, sL_law_1109, sL_law_1110, sL_law_1111, sL_law_1112, sL_law_1114, sL_law_1117, sL_law_1120, sL_law_1123, hD', l_q, e2, hlt, h857, r857, p0, m6_lt0, true_and, and_true, true_or, or_true, eq_self, ↓reduceIte, if_true, if_false, nI_add, nI_mul, inB_nI, nI_clamp, Nat.add_zero, eqI, ltI, leI, m6_ne, ne_m6, Nat.reduceEqDiff, reduceCtorEq, Nat.reduceLT, Nat.reduceLeDiff, Nat.reduceAdd, Nat.reduceMul, Nat.zero_add, Nat.mul_zero, nar_0, nar_1, nar_b, bI_t, bI_f, bI_0, bI_1, Bool.true_eq_false, Bool.false_eq_true, Bool.and_self, Bool.and_false, Bool.false_and, Bool.true_and, Bool.and_true, and_self, ih]
    · obtain ⟨t, t1, t2, t3, t4, t5⟩ := go_step w1 w2 hDis (by omega) h6
      rw [if_neg h6, t1, nI_clamp (by omega)] at ih
      rw [t1] at p0
      have hn : ¬ t < 0 := Nat.not_lt_zero t
      have t0 : gT (goF P f i).2 t 0 = nI 0 := by
        rcases w2 i (Nat.le_refl _) (by omega) with q | ⟨t', a1, a2, a3, a4, a5⟩
        · exact absurd q h6
        · obtain rfl : t = t' := nI9 (by omega) (by omega) (t1.symm.trans a3)
          exact a5
      have yo := fun Q => y_open (D := D) (m := m) (z := z) (Q := Q) (a := 853) hD w1 h7 (hP.st st) t2
      have yt := fun Q => y_take (D := D) (m := m) (z := z) (Q := Q) (a := 853) hD w1 h5 h7 (hP.st st) t3 t2
      have ww : wwpF (goF P f i).2 t = inStF (goF P f i).2 (nsF (goF P f i).2 t 2) := by
        unfold wwpF
        rw [t0, beq_self_eq_true, Bool.true_and]
      rw [ww] at yo
      simp only [Nat.reduceAdd] at yo yt
      rw [sL_law_1070]
      cases hs : inStF (goF P f i).2 (nsF (goF P f i).2 t 2)
      · rw [hs, if_neg (by decide)] at ih
        rw [hs] at yo
        simp (disch := omega) only [sL_law_1072, sL_law_1073, sL_law_1074, sL_law_1075, sL_law_1078, sL_law_1080, sL_law_1082, sL_law_1083, sL_law_1086, sL_law_1088, sL_law_1090, sL_law_1091, sL_law_1092, sL_law_1094, sL_law_1097, sL_law_1100, sL_law_1103, sL_law_1105, sL_law_1107, sL_law_1109, sL_law_1110, sL_law_1111, sL_law_1112, sL_law_1114, sL_law_1117, sL_law_1120, sL_law_1123, hD', l_q, e2, hlt, h857, r857, p0, hn, yo, true_and, and_true, true_or, or_true, eq_self, ↓reduceIte, if_true, if_false, nI_add, nI_mul, inB_nI, nI_clamp, Nat.add_zero, eqI, ltI, leI, m6_ne, ne_m6, Nat.reduceEqDiff, reduceCtorEq, Nat.reduceLT, Nat.reduceLeDiff, Nat.reduceAdd, Nat.reduceMul, Nat.zero_add, Nat.mul_zero, nar_0, nar_1, nar_b, bI_t, bI_f, bI_0, bI_1, Bool.true_eq_false, Bool.false_eq_true, Bool.and_self, Bool.and_false, Bool.false_and, Bool.true_and, Bool.and_true, and_self, ih]
      · rw [hs, if_pos rfl] at ih
        rw [hs] at yo
        simp (disch := omega) only [sL_law_1072, sL_law_1073, sL_law_1074, sL_law_1075, sL_law_1078, sL_law_1080, sL_law_1082, sL_law_1083, sL_law_1086, sL_law_1088, sL_law_1090, sL_law_1091, sL_law_1092, sL_law_1094, sL_law_1097, sL_law_1100, sL_law_1103, sL_law_1105, sL_law_1107, sL_law_1109, sL_law_1110, sL_law_1111, sL_law_1112, sL_law_1114, sL_law_1117, sL_law_1120, sL_law_1123, hD', l_q, e2, hlt, h857, r857, p0, hn, yo, yt, Nat.one_ne_zero, true_and, and_true, true_or, or_true, eq_self, ↓reduceIte, if_true, if_false, nI_add, nI_mul, inB_nI, nI_clamp, Nat.add_zero, eqI, ltI, leI, m6_ne, ne_m6, Nat.reduceEqDiff, reduceCtorEq, Nat.reduceLT, Nat.reduceLeDiff, Nat.reduceAdd, Nat.reduceMul, Nat.zero_add, Nat.mul_zero, nar_0, nar_1, nar_b, bI_t, bI_f, bI_0, bI_1, Bool.true_eq_false, Bool.false_eq_true, Bool.and_self, Bool.and_false, Bool.false_and, Bool.true_and, Bool.and_true, and_self, ih]
theorem a_give (S : ST D (lM m 853 f) f nF nT L ch N) (hz : 861 ≤ z.1) (h1 : 1 ≤ nF) : ACT 1053 D (lM m 853 f) z N tu x y ki fx := by
  intro v15 v16 v17 v18 v19 v20
  obtain ⟨⟨C, hL, hP, hD, h5, h7⟩, hK⟩ := S
  have k6 := C.k6
  have hW := C.wf
  obtain ⟨M1, e1, p1, y1⟩ := z_plan (D := D) (M := lM m 853 f) (z := z) (a := 853) (b := 856) (p := 857) hL (by decide) (by decide) (by decide) hK.2.2.2.1 hK.2.2.2.2 hD hW h5 h7 hP
  simp only [Nat.reduceAdd] at y1
  have LB1 : LB M1 853 f := hL.cong (fun a ha hb => e1 a (by omega) (by omega))
  have P1 : Pk M1 855 f nT := hP.cong (fun t s _ hs => by rw [e1 855 (by decide) (by decide)])
  have hG := plV_GO hW
  have hDis : ∀ j k u, u < 16 → plV (ablN f nF nT) nF j = nI u → plV (ablN f nF nT) nF (j + 1 + k) = nI u → False := fun j k u hu => plV_dis hu
  have lg := l_Lg (m := M1) (z := z) (tu := tu) (x := x) (y := y) (ki := ki) (fx := fx) (v17 := v17) (v18 := v18) (v19 := v19) (v20 := v20) hW hG hDis h5 h7 hD hK.2.2.2.2 P1 p1 nF 0 (by omega)
  rw [show (goF (plV (ablN f nF nT) nF) f 0).1 = 0 from rfl, show (goF (plV (ablN f nF nT) nF) f 0).2 = f from rfl, show lM M1 853 f = M1 from LB1] at lg
  have C0 : CK D (lM M1 853 (goF (plV (ablN f nF nT) nF) f nF).2) f nF nT L ch := C.fr (fun a ha => by rw [l_o (by omega), e1 a (by omega) (by omega)])
  obtain ⟨D2, M2, C2, K2, e2, y2⟩ := op_k hK (o_giveOut (z := z) C0) hz
  have w3 := (goF_WF hW hG hDis nF (by omega)).2.2
  have P2 : Pk M2 855 (goF (plV (ablN f nF nT) nF) f nF).2 nT := (P1.st (StE.go hW hG hDis nF (by omega))).cong (fun t s _ hs => by
    rw [e2 855 (by decide)]
    exact l_s (a := 853) hs)
  refine ⟨D2, M2, _, nF, nT, L, ch, .int (nI (goF (plV (ablN f nF nT) nF) f nF).1), .int (nI nF), v17, v18, v19, v20, ⟨mkST' C2 K2 (LB.up e2) P2 h5 h7, h1⟩, fun Q => ?_⟩
  simp (disch := omega) only [sL_law_1053, sL_law_1054, sL_law_1055, sL_law_1057, sL_law_1059, sL_law_1061, sL_law_1064, sL_law_1065, sL_law_1067, sL_law_1068, y1, lg]
  simp (disch := omega) only [sL_law_1126, sL_law_1127, sL_law_1130, sL_law_1132, sL_law_1135, sL_law_1136, sL_law_1137, k6, y2, true_and, and_true, true_or, or_true, eq_self, ↓reduceIte, if_true, if_false, nI_add, nI_mul, inB_nI, nI_clamp, Nat.add_zero, eqI, ltI, leI, m6_ne, ne_m6, Nat.reduceEqDiff, reduceCtorEq, Nat.reduceLT, Nat.reduceLeDiff, Nat.reduceAdd, Nat.reduceMul, Nat.zero_add, Nat.mul_zero, nar_0, nar_1, nar_b, bI_t, bI_f, bI_0, bI_1, Bool.true_eq_false, Bool.false_eq_true, Bool.and_self, Bool.and_false, Bool.false_and, Bool.true_and, Bool.and_true, and_self]
end AC2
