/-! the law's run from its start -/
def D0s (L : Nat) : vDD := fun a => if a = 0 then (20, L, fun _ => none) else (99, 0, fun _ => none)
def m0s (xs : Nat → Int32) : vMM := fun a => if a = 0 then xs else fun _ => 0
theorem WF_f0 : WF f0F 0 0 :=
  ⟨⟨rfl, by decide, rfl, by decide⟩, ⟨6, by decide, by decide, rfl⟩, fun t ht => absurd ht (Nat.not_lt_zero t), fun i hi => absurd hi (Nat.not_lt_zero i), fun i _ hi => absurd hi (Nat.not_lt_zero i)⟩
theorem Rfc_ini {m : vMM} {b : Nat} {c : Nat → Int32} (hB : Blk m b c) (hI : INI m b) : Rfc f0F c 0 0 := by
  obtain ⟨g2, g3, g0, g1, g4, g5⟩ := hB.G
  obtain ⟨⟨i3, i4, i5, i6, i7, i8⟩, ip⟩ := hI
  refine ⟨fun k hk => ?_, fun i hi => absurd hi (Nat.not_lt_zero i), fun t ht => absurd ht (Nat.not_lt_zero t)⟩
  by_cases h6 : 6 ≤ k
  · have hp := hB.p (k := k - 6) (by omega)
    rw [ip (k - 6) (by omega), (by omega : 6 + (k - 6) = k)] at hp
    rw [← hp]
    show nI 2 = if k = 0 then nI 6 else if k = 1 then nI 2 else if 6 ≤ k ∧ k < 10 then nI 2 else nI 0
    rw [if_neg (by omega), if_neg (by omega), if_pos ⟨h6, hk⟩]
  · rcases (by omega : k = 0 ∨ k = 1 ∨ k = 2 ∨ k = 3 ∨ k = 4 ∨ k = 5) with rfl | rfl | rfl | rfl | rfl | rfl
    · exact (i5.symm.trans g0).symm.trans rfl
    · exact (i6.symm.trans g1).symm.trans rfl
    · exact (i3.symm.trans g2).symm.trans rfl
    · exact (i4.symm.trans g3).symm.trans rfl
    · exact (i7.symm.trans g4).symm.trans rfl
    · exact (i8.symm.trans g5).symm.trans rfl
theorem Wd0.wd {D D' : vDD} (h : Wd0 D) (e : ∀ q, q < 853 → D' q = D q) : Wd D' id := by
  obtain ⟨h1, ⟨h2, h3, h4, h5, h6⟩, h7, h8, h9⟩ := h
  refine ⟨?_, ⟨h2.cong (fun a _ _ => e a (by omega)), h3.cong (fun a _ _ => e a (by omega)), h4.cong (fun a _ _ => e a (by omega)), h5.cong (fun a _ _ => e a (by omega)), fun k hk => (h6 k hk).cong (fun a _ _ => e a (by omega))⟩, ?_, ?_, ?_⟩
  · unfold IsMM at h1 ⊢
    rw [e 1 (by decide), e 154 (by decide), e 307 (by decide), e 308 (by decide)]
    exact h1
  · unfold IsPad at h7 ⊢
    rw [e 766 (by decide), e 767 (by decide), e 768 (by decide)]
    exact ⟨h7.1, h7.2.1, h7.2.2.1, fun j hj => (h7.2.2.2 j hj).cong (fun a _ _ => e a (by omega))⟩
  · unfold IsPl at h8 ⊢
    rw [e 849 (by decide), e 850 (by decide), e 851 (by decide), e 852 (by decide)]
    exact h8
  · unfold IsHi at h9 ⊢
    rw [e 309 (by decide)]
    exact h9
def aD (D : vDD) : vDD := nwD (nwD (nwD (nwD (nwD (nwD (nwD (nwD D 853 (8, 10, fun _ => none)) 854 (8, 30, fun _ => none)) 855 (8, 63, fun _ => none)) 856 (8, 32, fun _ => none)) 857 (8, 8, fun _ => none)) 858 (8, 10, fun _ => none)) 859 (8, 30, fun _ => none)) 860 (8, 63, fun _ => none)
def aMw (m : vMM) : vMM := nwM (nwM (nwM (nwM (nwM (nwM (nwM (nwM m 853) 854) 855) 856) 857) 858) 859) 860
theorem aD_lo {D : vDD} {q : Nat} (h : q < 853) : aD D q = D q := by
  unfold aD
  rw [nwD_o (by omega), nwD_o (by omega), nwD_o (by omega), nwD_o (by omega), nwD_o (by omega), nwD_o (by omega), nwD_o (by omega), nwD_o (by omega)]
theorem aMw_lo {m : vMM} {q : Nat} (h : q < 853) : aMw m q = m q := by
  unfold aMw
  rw [nwM_o (by omega), nwM_o (by omega), nwM_o (by omega), nwM_o (by omega), nwM_o (by omega), nwM_o (by omega), nwM_o (by omega), nwM_o (by omega)]
theorem aMw_hi {m : vMM} {q : Nat} (h : 853 ≤ q) (h2 : q < 861) : aMw m q = fun _ => 0 := by
  rcases (by omega : q = 853 ∨ q = 854 ∨ q = 855 ∨ q = 856 ∨ q = 857 ∨ q = 858 ∨ q = 859 ∨ q = 860) with rfl | rfl | rfl | rfl | rfl | rfl | rfl | rfl <;> rfl
def qR (k : Nat) : Nat → Int32 := fun j => if j = 0 then nI 6 else if j = 1 then nI 2 else if 6 ≤ j ∧ j < k then nI 2 else nI 0
theorem l_Li {D : vDD} {z : vZZ} {v11 v12 v13 v14 v15 v16 v17 v18 v19 v20 : Value} (hD : (D 853).1 = 8 ∧ (D 853).2.1 = 10) : ∀ d k (M : vMM), k + d = 10 → 6 ≤ k → M 853 = qR k → ∃ M1, M1 853 = qR 10 ∧ (∀ a, a ≠ 853 → M1 a = M a) ∧ ∀ Q, Runs ML_law 67 [.ref 0, .ref 1, .ref 853, .ref 854, .ref 855, .ref 856, .ref 857, .ref 858, .ref 859, .ref 860, .int (nI k), v11, v12, v13, v14, v15, v16, v17, v18, v19, v20] [] D M z Q = Runs ML_law 85 [.ref 0, .ref 1, .ref 853, .ref 854, .ref 855, .ref 856, .ref 857, .ref 858, .ref 859, .ref 860, .int (nI 10), v11, v12, v13, v14, v15, v16, v17, v18, v19, v20] [] D M1 z Q := by
  intro d
  induction d with
  | zero =>
    intro k M hk h6 hM
    obtain rfl : k = 10 := by omega
    refine ⟨M, hM, fun _ _ => rfl, fun Q => ?_⟩
    rw [sL_law_67]
    simp (disch := omega) only [sL_law_69, sL_law_71, true_and, and_true, true_or, or_true, eq_self, ↓reduceIte, if_true, if_false, nI_add, nI_mul, inB_nI, nI_clamp, Nat.add_zero, eqI, ltI, leI, m6_ne, ne_m6, Nat.reduceEqDiff, reduceCtorEq, Nat.reduceLT, Nat.reduceLeDiff, Nat.reduceAdd, Nat.reduceMul, Nat.zero_add, Nat.mul_zero, nar_0, nar_1, nar_b, bI_t, bI_f, bI_0, bI_1, Bool.true_eq_false, Bool.false_eq_true, Bool.and_self, Bool.and_false, Bool.false_and, Bool.true_and, Bool.and_true, and_self, Nat.le_refl]
  | succ d ih =>
    intro k M hk h6 hM
    have hlt : ¬ 10 ≤ k := by omega
    have e : up2 M 853 k (nI 2) 853 = qR (k + 1) := by
      rw [u2e, hM]
      funext j
      unfold qR upd
      by_cases h : j = k
      · rw [if_pos h, if_neg (by omega), if_neg (by omega), if_pos (by omega)]
      · rw [if_neg h]
        show (if j = 0 then nI 6 else if j = 1 then nI 2 else if 6 ≤ j ∧ j < k then nI 2 else nI 0) = _
        by_cases h2 : 6 ≤ j ∧ j < k
        · rw [if_pos h2, if_pos (by omega : 6 ≤ j ∧ j < k + 1)]
        · rw [if_neg h2, if_neg (by omega : ¬ (6 ≤ j ∧ j < k + 1))]
    obtain ⟨M1, m1, m2, y1⟩ := ih (k + 1) (up2 M 853 k (nI 2)) (by omega) (by omega) e
    refine ⟨M1, m1, fun a ha => (m2 a ha).trans (u2n ha), fun Q => ?_⟩
    rw [sL_law_67]
    simp (disch := omega) only [sL_law_69, sL_law_71, sL_law_74, sL_law_75, sL_law_77, sL_law_78, sL_law_79, sL_law_82, hD, hlt, true_and, and_true, true_or, or_true, eq_self, ↓reduceIte, if_true, if_false, nI_add, nI_mul, inB_nI, nI_clamp, Nat.add_zero, eqI, ltI, leI, m6_ne, ne_m6, Nat.reduceEqDiff, reduceCtorEq, Nat.reduceLT, Nat.reduceLeDiff, Nat.reduceAdd, Nat.reduceMul, Nat.zero_add, Nat.mul_zero, nar_0, nar_1, nar_b, bI_t, bI_f, bI_0, bI_1, Bool.true_eq_false, Bool.false_eq_true, Bool.and_self, Bool.and_false, Bool.false_and, Bool.true_and, Bool.and_true, and_self, y1]
theorem law_runs {A N : Nat} {xs : Nat → Int32} (hA : A ≤ 260) (hN : N = 500) : Runs ML_law 0 [.ref 0, vJ, vJ, vJ, vJ, vJ, vJ, vJ, vJ, vJ, vJ, vJ, vJ, vJ, vJ, vJ, vJ, vJ, vJ, vJ, vJ] [] (D0s A) (m0s xs) (1, 0) (fun v _ _ z' => v = .int (nI 1) ∧ z' = (861, 5513)) := by
  obtain ⟨D1, M1, W1, F1, I1, z1, z2, z3, y1⟩ := x_newMM (D := nwD (D0s A) 1 (6, 0, fun _ => none)) (m := nwM (m0s xs) 1) (n := 7) (by rw [nwD_e])
  have f2 : ∀ q, q < 853 → aD D1 q = D1 q ∧ aMw M1 q = M1 q := fun q hq => ⟨aD_lo hq, aMw_lo hq⟩
  have hW : Wd (aD D1) id := W1.wd (fun q hq => (f2 q hq).1)
  have d3 : (aD D1 853).1 = 8 ∧ (aD D1 853).2.1 = 10 := ⟨rfl, rfl⟩
  have e2 : up2 (up2 (aMw M1) 853 0 (nI 6)) 853 1 (nI 2) 853 = qR 6 := by
    rw [u2e, u2e, aMw_hi (by decide) (by decide)]
    funext j
    unfold qR upd
    by_cases h1 : j = 1
    · rw [if_pos h1, if_neg (by omega), if_pos h1]
    · rw [if_neg h1]
      show (if j = 0 then nI 6 else (0 : Int32)) = _
      by_cases h0 : j = 0
      · rw [if_pos h0, if_pos h0]
      · rw [if_neg h0, if_neg h0, if_neg h1, if_neg (by omega)]
        rfl
  obtain ⟨M3, r3, o3, y3⟩ := l_Li (D := aD D1) (z := (861, 5513)) (v11 := vJ) (v12 := vJ) (v13 := vJ) (v14 := vJ) (v15 := vJ) (v16 := vJ) (v17 := vJ) (v18 := vJ) (v19 := vJ) (v20 := vJ) d3 4 6 (up2 (up2 (aMw M1) 853 0 (nI 6)) 853 1 (nI 2)) (by decide) (by decide) e2
  have o4 : ∀ a, a ≠ 853 → M3 a = aMw M1 a := fun a ha => by rw [o3 a ha, u2n ha, u2n ha]
  have hLB : LB M3 853 f0F := by
    refine LB_of (fun k hk => ?_) (fun k hk => ?_) (fun t k ht hk => ?_)
    · rw [r3]
      show (if k = 0 then nI 6 else if k = 1 then nI 2 else if 6 ≤ k ∧ k < 10 then nI 2 else nI 0) = (if k = 0 then nI 6 else if k = 1 then nI 2 else if 6 ≤ k ∧ k < 10 then nI 2 else nI 0)
      rfl
    · rw [o4 854 (by decide), aMw_hi (by decide) (by decide)]
      unfold f0F
      rw [if_neg (by omega), if_neg (by omega), if_neg (by omega)]
      rfl
    · rw [o4 855 (by decide), aMw_hi (by decide) (by decide)]
      unfold gT f0F
      rw [if_neg (by omega), if_neg (by omega), if_neg (by omega)]
      rfl
  have lo : ∀ a, a < 853 → M3 a = M1 a := fun a ha => by rw [o4 a (by omega), aMw_lo ha]
  obtain ⟨c, hc⟩ := bM_rB M3 2
  have hI : INI M3 2 := by
    unfold INI at I1 ⊢
    rw [lo 2 (by decide), lo (2 + 3) (by decide)]
    exact I1
  have hB : Blk M3 2 c := hc
  have hs : M3 307 = fun _ => 0 := by rw [lo 307 (by decide), z1]
  have hh : M3 308 = fun _ => 0 := by rw [lo 308 (by decide), z2]
  have hp : M3 766 = fun _ => 0 := by rw [lo 766 (by decide), z3]
  have C : ClS (aD D1) id M3 f0F 0 0 0 0 (fun _ => nI 0) (fun _ => nI 0) false false (fun _ => 0) := by
    refine ⟨hW, ⟨c, hB, Rfc_ini hB hI⟩, WF_f0, ⟨by rw [hp]; rfl, by decide, fun j hj => absurd hj (Nat.not_lt_zero j)⟩, ⟨by rw [hh]; rfl, by decide, fun j hj => absurd hj (Nat.not_lt_zero j)⟩, ⟨by rw [hs]; rfl, by rw [hs]; rfl⟩, fun h => absurd h (by decide), fun h => absurd h (by decide)⟩
  have e0 : aD D1 0 = D0s A 0 := by
    rw [aD_lo (by decide), (F1 0 (by decide)).1, nwD_o (by decide)]
  have K : KD (aD D1) A := ⟨⟨by rw [e0]; rfl, by rw [e0]; rfl⟩, ⟨⟨rfl, rfl⟩, ⟨rfl, rfl⟩, rfl, rfl⟩, ⟨⟨rfl, rfl⟩, ⟨rfl, rfl⟩, rfl, rfl⟩, ⟨rfl, rfl⟩, rfl, rfl⟩
  have S : ST (aD D1) M3 f0F 0 0 0 (fun _ => 0) A := mkST' ⟨_, _, _, _, _, _, C⟩ K hLB (fun t ht => absurd ht (Nat.not_lt_zero t)) (by decide) (by decide)
  obtain ⟨D4, M4, y4⟩ := l_turns (z := (861, 5513)) hA (by decide) hN 24 0 (aD D1) M3 f0F 0 0 0 (fun _ => 0) vJ vJ vJ vJ vJ vJ vJ vJ vJ vJ (by decide) S (fun _ => rfl) (fun q => absurd q (by decide))
  have k1 : (D1 1).1 = 6 := W1.1.1.1
  simp only [Nat.reduceAdd] at y1
  have st : ∀ Q, Runs ML_law 0 [.ref 0, vJ, vJ, vJ, vJ, vJ, vJ, vJ, vJ, vJ, vJ, vJ, vJ, vJ, vJ, vJ, vJ, vJ, vJ, vJ, vJ] [] (D0s A) (m0s xs) (1, 0) Q = Runs ML_law 54 [.ref 0, .ref 1, .ref 853, .ref 854, .ref 855, .ref 856, .ref 857, .ref 858, .ref 859, .ref 860, vJ, vJ, vJ, vJ, vJ, vJ, vJ, vJ, vJ, vJ, vJ] [] (aD D1) (aMw M1) (861, 5513) Q := by
    intro Q
    simp (disch := omega) only [sL_law_0, sL_law_3, sL_law_4, sL_law_7, sL_law_8, sL_law_10, sL_law_12, sL_law_13, sL_law_15, sL_law_17, sL_law_18, sL_law_20, sL_law_22, sL_law_24, sL_law_26, sL_law_28, sL_law_30, sL_law_32, sL_law_34, sL_law_36, sL_law_38, sL_law_40, sL_law_42, sL_law_44, sL_law_46, sL_law_48, sL_law_50, sL_law_52, nwD_e, true_and, Nat.reduceAdd, y1, k1]
    rfl
  rw [st]
  simp (disch := omega) only [sL_law_54, sL_law_55, sL_law_56, sL_law_58, sL_law_59, sL_law_60, sL_law_61, sL_law_62, sL_law_63, sL_law_65, d3, true_and, and_true, true_or, or_true, eq_self, ↓reduceIte, if_true, if_false, nI_add, nI_mul, inB_nI, nI_clamp, Nat.add_zero, eqI, ltI, leI, m6_ne, ne_m6, Nat.reduceEqDiff, reduceCtorEq, Nat.reduceLT, Nat.reduceLeDiff, Nat.reduceAdd, Nat.reduceMul, Nat.zero_add, Nat.mul_zero, nar_0, nar_1, nar_b, bI_t, bI_f, bI_0, bI_1, Bool.true_eq_false, Bool.false_eq_true, Bool.and_self, Bool.and_false, Bool.false_and, Bool.true_and, Bool.and_true, and_self, y3, sL_law_85, sL_law_86, y4]
