/-! when all is over; letting slots pass -/
theorem cntS_le (f : Nat → Int32) (h : Int32) : ∀ n, cntS f h n ≤ n
  | 0 => Nat.le_refl _
  | n + 1 => by
    have := cntS_le f h n
    simp only [cntS]
    split <;> omega
theorem cntS_0 {f : Nat → Int32} {h : Int32} : ∀ n, cntS f h n = 0 → ∀ t, t < n → gT f t 0 ≠ h
  | 0, _, t, ht => absurd ht (Nat.not_lt_zero t)
  | n + 1, hc, t, ht => by
    simp only [cntS] at hc
    by_cases e : t = n
    · subst e
      intro q
      rw [if_pos q] at hc
      omega
    · exact cntS_0 n (by omega) t (by omega)
theorem cntS_ext {f g : Nat → Int32} {h : Int32} : ∀ n, (∀ t, t < n → gT f t 0 = gT g t 0) → cntS f h n = cntS g h n
  | 0, _ => rfl
  | n + 1, hc => by
    simp only [cntS]
    rw [cntS_ext n (fun t ht => hc t (by omega)), hc n (by omega)]
theorem lpF_id {α : Type} {g : Nat → α → α} {a : α} : ∀ n, (∀ i, i < n → g i a = a) → lpF g n a = a
  | 0, _ => rfl
  | n + 1, h => by rw [lpF_s, lpF_id n (fun i hi => h i (by omega)), h n (by omega)]
section OVER
variable {f : Nat → Int32} {nF nT : Nat}
theorem ov_none (hW : WF f nF nT) (h : ovB f nT = true) : ∀ t, t < nT → gT f t 0 ≠ nI 0 ∧ gT f t 0 ≠ nI 1 := by
  have h16 := hW.1.2.2.2
  unfold ovB at h
  have a := cntS_le f (nI 0) nT
  have b := cntS_le f (nI 1) nT
  have := nI9 (by omega) (by omega) (beq_iff_eq.mp h)
  exact fun t ht => ⟨cntS_0 nT (by omega) t ht, cntS_0 nT (by omega) t ht⟩
theorem ov_slot (hW : WF f nF nT) (h : ovB f nT = true) : slotF f = sG f 4 (gG f 4 + nI 1) := by
  have hn := ov_none hW h
  have w1 : worksF f = f := by
    unfold worksF
    rw [hW.ns.1]
    refine lpF_id nF (fun i hi => ?_)
    unfold workF
    rw [if_pos]
    rcases (hW.2.2.2.1 i hi).1 with h3 | ⟨t, ht, _, hw⟩
    · exact h3
    · exact absurd hw (hn t ht).2
  have w2 : takeAllF f = f := by
    unfold takeAllF
    rw [hW.ns.1, hW.ns.2]
    refine lpF_id nF (fun i hi => ?_)
    unfold takeF
    split
    · rw [if_pos]
      rcases lgF_spec (f := f) (i := i) nT with e | ⟨t, ht, _, hc⟩
      · exact e
      · exact absurd (canF_w hc).2.1 (hn t ht).1
    · rfl
  have w3 : waitOnF f = f := by
    unfold waitOnF
    rw [hW.ns.2]
    refine lpF_id nT (fun t ht => ?_)
    unfold waitF
    rw [if_neg (hn t ht).1]
  unfold slotF
  rw [w1, w2, w3]
theorem ov_slt {v : Int32} : ovB (sG f 4 v) nT = ovB f nT := by
  unfold ovB
  rw [cntS_ext nT (fun t _ => gT_sG0 (by decide)), cntS_ext nT (fun t _ => gT_sG0 (by decide))]
theorem slotsF_s {n : Nat} : slotsF (n + 1) f = slotF (slotsF n f) := rfl
theorem ov_slots {j : Nat} (hW : WF f nF nT) (h : ovB (slotsF j f) nT = true) : ∀ k, slotsF (j + k) f = sG (slotsF j f) 4 (gG (slotsF j f) 4 + nI k)
  | 0 => by
    rw [Nat.add_zero, sG_self]
    exact (Int32.add_zero _).symm
  | k + 1 => by
    have w := hW.slots j
    have w2 := hW.slots (j + k)
    have ih := ov_slots hW h k
    rw [← Nat.add_assoc, slotsF_s, ov_slot w2 (by rw [ih, ov_slt]; exact h), ih, gG_sG, n_GG]
    congr 1
    rw [Int32.add_assoc, nI_add]
end OVER
section CLS6
variable {D : vDD} {m : vMM} {f c : Nat → Int32} {z : vZZ} {Q : Value → vDD → vMM → vZZ → Prop} {nF nT b : Nat}
theorem l_letPass (hB : IsM D b) (hW : WF f nF nT) {n : Nat} (hn : n < 1000) : ∀ k j c, j + k = n → Rfc (slotsF j f) c nF nT → ∃ c', Rfc (slotsF n f) c' nF nT ∧ ∀ Q, Runs MX2_letPass 2 [.ref b, .int (nI n), .int (nI j)] [] D (bM m b c) z Q = Q vJ D (bM m b c') z := by
  have hb := hB
  simp only [IsM] at hb
  have h8 := hW.1.2.1
  have h16 := hW.1.2.2.2
  intro k
  induction k with
  | zero =>
    intro j c hj hR
    obtain rfl : j = n := by omega
    have e4 : gG c 4 + nI 0 = gG c 4 := Int32.add_zero _
    have e5 : nI j - nI j = nI 0 := by rw [nI_sub _ _ (Nat.le_refl _), Nat.sub_self]
    have hs : sG c 4 (gG c 4) = c := sG_self rfl
    refine ⟨c, hR, fun Q => ?_⟩
    rw [sX2_letPass_2]
    simp (disch := omega) only [sX2_letPass_3, sX2_letPass_4, sX2_letPass_7, sX2_letPass_8, sX2_letPass_11, sX2_letPass_14, sX2_letPass_15, sX2_letPass_18, sX2_letPass_21, sX2_letPass_24, sX2_letPass_25, sX2_letPass_26, sX2_letPass_29, sX2_letPass_30, sX2_letPass_31, sX2_letPass_32, sX2_letPass_33, sX2_letPass_36, hb, true_and, and_true, true_or, or_true, eq_self, ↓reduceIte, if_true, if_false, nI_add, nI_mul, inB_nI, nI_clamp, Nat.add_zero, eqI, ltI, leI, m6_ne, ne_m6, Nat.reduceEqDiff, reduceCtorEq, Nat.reduceLT, Nat.reduceLeDiff, Nat.reduceAdd, Nat.reduceMul, Nat.zero_add, Nat.mul_zero, nar_0, nar_1, nar_b, bI_t, bI_f, bI_0, bI_1, Bool.true_eq_false, Bool.false_eq_true, Bool.and_self, Bool.and_false, Bool.false_and, Bool.true_and, Bool.and_true, and_self, Nat.le_refl, b_slt, e5, e4, w_slt, hs]
  | succ k ih =>
    intro j c hj hR
    have hlt : ¬ n ≤ j := by omega
    have w := hW.slots j
    have ov : ∀ Q, Runs MX2_isOver 0 [.ref b] [] D (bM m b c) z Q = Q (.int (bI (ovB (slotsF j f) nT))) D (bM m b c) z := fun Q => x_isOver hB hR w
    cases ho : ovB (slotsF j f) nT
    · rw [ho] at ov
      obtain ⟨c1, r1, x1⟩ := x_slot (D := D) (m := m) (z := z) hB hR w
      obtain ⟨c', r2, x2⟩ := ih (j + 1) c1 (by omega) r1
      refine ⟨c', r2, fun Q => ?_⟩
      rw [sX2_letPass_2]
      simp (disch := omega) only [sX2_letPass_3, sX2_letPass_4, sX2_letPass_7, sX2_letPass_8, sX2_letPass_11, sX2_letPass_14, sX2_letPass_15, sX2_letPass_18, sX2_letPass_21, sX2_letPass_24, sX2_letPass_25, sX2_letPass_26, sX2_letPass_29, sX2_letPass_30, sX2_letPass_31, sX2_letPass_32, sX2_letPass_33, sX2_letPass_36, hb, true_and, and_true, true_or, or_true, eq_self, ↓reduceIte, if_true, if_false, nI_add, nI_mul, inB_nI, nI_clamp, Nat.add_zero, eqI, ltI, leI, m6_ne, ne_m6, Nat.reduceEqDiff, reduceCtorEq, Nat.reduceLT, Nat.reduceLeDiff, Nat.reduceAdd, Nat.reduceMul, Nat.zero_add, Nat.mul_zero, nar_0, nar_1, nar_b, bI_t, bI_f, bI_0, bI_1, Bool.true_eq_false, Bool.false_eq_true, Bool.and_self, Bool.and_false, Bool.false_and, Bool.true_and, Bool.and_true, and_self, hlt, ov, x1, x2]
    · rw [ho] at ov
      have es := ov_slots hW ho (k + 1)
      rw [(by omega : j + (k + 1) = n)] at es
      have e4 := hR.1 4 (by decide)
      have e5 : nI n - nI j = nI (k + 1) := by rw [nI_sub _ _ (by omega)]; congr 1; omega
      have r := hR.G (k := 4) (v := gG (slotsF j f) 4 + nI (k + 1)) (by decide) h8 h16
      rw [← es] at r
      refine ⟨_, r, fun Q => ?_⟩
      rw [sX2_letPass_2]
      simp (disch := omega) only [sX2_letPass_3, sX2_letPass_4, sX2_letPass_7, sX2_letPass_8, sX2_letPass_11, sX2_letPass_14, sX2_letPass_15, sX2_letPass_18, sX2_letPass_21, sX2_letPass_24, sX2_letPass_25, sX2_letPass_26, sX2_letPass_29, sX2_letPass_30, sX2_letPass_31, sX2_letPass_32, sX2_letPass_33, sX2_letPass_36, hb, true_and, and_true, true_or, or_true, eq_self, ↓reduceIte, if_true, if_false, nI_add, nI_mul, inB_nI, nI_clamp, Nat.add_zero, eqI, ltI, leI, m6_ne, ne_m6, Nat.reduceEqDiff, reduceCtorEq, Nat.reduceLT, Nat.reduceLeDiff, Nat.reduceAdd, Nat.reduceMul, Nat.zero_add, Nat.mul_zero, nar_0, nar_1, nar_b, bI_t, bI_f, bI_0, bI_1, Bool.true_eq_false, Bool.false_eq_true, Bool.and_self, Bool.and_false, Bool.false_and, Bool.true_and, Bool.and_true, and_self, hlt, ov, b_slt, e5, e4, w_slt]
theorem x_letPass (hB : IsM D b) (hR : Rfc f c nF nT) (hW : WF f nF nT) {n : Nat} (hn : n < 1000) : ∃ c', Rfc (slotsF n f) c' nF nT ∧ ∀ Q, Runs MX2_letPass 0 [.ref b, .int (nI n), vJ] [] D (bM m b c) z Q = Q vJ D (bM m b c') z := by
  obtain ⟨c', r, x⟩ := l_letPass (D := D) (m := m) (z := z) hB hW hn n 0 c (by omega) hR
  refine ⟨c', r, fun Q => ?_⟩
  simp (disch := omega) only [sX2_letPass_0, sX2_letPass_1, true_and, and_true, true_or, or_true, eq_self, ↓reduceIte, if_true, if_false, nI_add, nI_mul, inB_nI, nI_clamp, Nat.add_zero, eqI, ltI, leI, m6_ne, ne_m6, Nat.reduceEqDiff, reduceCtorEq, Nat.reduceLT, Nat.reduceLeDiff, Nat.reduceAdd, Nat.reduceMul, Nat.zero_add, Nat.mul_zero, nar_0, nar_1, nar_b, bI_t, bI_f, bI_0, bI_1, Bool.true_eq_false, Bool.false_eq_true, Bool.and_self, Bool.and_false, Bool.false_and, Bool.true_and, Bool.and_true, and_self, x]
end CLS6
